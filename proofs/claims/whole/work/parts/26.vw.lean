abbrev G2 (cI : ClassId) (h q : Nat) (ho ta fi : Int32) (ce : Nat → Int32) (h2 q2 : Nat) (ho2 ta2 fi2 : Int32) (ce2 : Nat → Int32) : va_W := [(h, .inr (0, [.int ho, .int ta, .int fi, .ref q])), (q, .inl (cI, 72, .inl ce)), (h2, .inr (0, [.int ho2, .int ta2, .int fi2, .ref q2])), (q2, .inl (cI, 72, .inl ce2))]
def lackS (le a m : Int32) : Bool := decide (0 ≤ a) && decide (0 ≤ m) && decide (a ≤ le) && decide (m ≤ le - a)
def zerL (u : Nat → Int64) (i : Nat) : Nat → Int64 := fun j => if j < i then 0 else u j
theorem zerL_0 (u : Nat → Int64) : u = zerL u 0 := funext fun j => by simp [zerL]
theorem zerL_s {u : Nat → Int64} {i : Nat} : vp_updL (zerL u i) i 0 = zerL u (i + 1) := funext fun j => by
  simp only [zerL, vp_updL]
  split
  · rw [if_pos (by omega)]
  · split
    · rw [if_pos (by omega)]
    · rw [if_neg (by omega)]
/-- the whole of the class's own world -/
abbrev VW (cI cJ cO : ClassId) (B : Nat → Nat) (gG tG kG : Nat → Int32) (ik le : Int32) (by_ : Nat → Int32) (tk bg en va tn b0 l0 : Int32) (u0 : Nat → Int64) (b1 l1 : Int32) (u1 : Nat → Int64) (b2 l2 : Int32) (u2 : Nat → Int64) (b3 l3 : Int32) (u3 : Nat → Int64) (fS cW : Nat → Int32) : va_W :=
  [(B 0, .inr (3, [.ref (B 1), .ref (B 3), .ref (B 5), .int ik, .ref (B 7), .ref (B 9), .ref (B 18), .ref (B 19)])),
   (B 1, .inr (0, [.int (gG 0), .int (gG 2), .int (gG 1), .ref (B 2)])), (B 2, .inl (cI, 72, .inl (tl gG))),
   (B 3, .inr (0, [.int (tG 0), .int (tG 2), .int (tG 1), .ref (B 4)])), (B 4, .inl (cI, 72, .inl (tl tG))),
   (B 5, .inr (0, [.int (kG 0), .int (kG 2), .int (kG 1), .ref (B 6)])), (B 6, .inl (cI, 72, .inl (tl kG))),
   (B 7, .inr (2, [.int le, .ref (B 8), .int tk, .int bg, .int en, .int va, .int tn])), (B 8, .inl (cI, 120, .inl by_)),
   (B 9, .inl (cO, 4, .inr (.inr (.inr (.inr (fun i => some (B (10 + 2 * i)))))))),
   (B 10, .inr (1, [.int b0, .int l0, .ref (B 11)])), (B 11, .inl (cJ, 40, .inr (.inl u0))),
   (B 12, .inr (1, [.int b1, .int l1, .ref (B 13)])), (B 13, .inl (cJ, 40, .inr (.inl u1))),
   (B 14, .inr (1, [.int b2, .int l2, .ref (B 15)])), (B 15, .inl (cJ, 40, .inr (.inl u2))),
   (B 16, .inr (1, [.int b3, .int l3, .ref (B 17)])), (B 17, .inl (cJ, 40, .inr (.inl u3))),
   (B 18, .inl (cI, 7, .inl fS)), (B 19, .inl (cI, 8, .inl cW))]
theorem out_i {v a b : Int32} : (v < a ∨ ¬ v ≤ b) ↔ inI v a b = false := by
  unfold inI
  rw [decide_eq_false_iff_not, i_lt]
  constructor
  · rintro (h | h) ⟨h1, h2⟩
    · exact h h1
    · exact h h2
  · intro h
    by_cases q : a ≤ v
    · exact Or.inr (fun z => h ⟨q, z⟩)
    · exact Or.inl q
def leastS (w : Int32) : Int32 := if w = 6 then -1 else 0
def greatS (n : Nat) (w : Int32) : Int32 := if w = 1 then 3 else if w = 2 then 19 else if w = 3 then 99 else if w = 5 then 4 else if w = 6 then nI n - 1 else if w = 8 then 9999 else 1
def kindAb (k : Int32) : Int32 := if k = 4 then 1 else if k = 5 then 2 else 0
