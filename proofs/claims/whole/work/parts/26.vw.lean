abbrev G2 (cI : ClassId) (h q : Nat) (ho ta fi : Int32) (ce : Nat → Int32) (h2 q2 : Nat) (ho2 ta2 fi2 : Int32) (ce2 : Nat → Int32) : va_W := [(h, .inr (0, [.int ho, .int ta, .int fi, .ref q])), (q, .inl (cI, 72, .inl ce)), (h2, .inr (0, [.int ho2, .int ta2, .int fi2, .ref q2])), (q2, .inl (cI, 72, .inl ce2))]
def lackS (le a m : Int32) : Bool := decide (0 ≤ a) && decide (0 ≤ m) && decide (a ≤ le) && decide (m ≤ le - a)
def zerL (u : Nat → Int64) (i : Nat) : Nat → Int64 := fun j => if j < i then 0 else u j
theorem zerL_0 (u : Nat → Int64) : u = zerL u 0 := funext fun j => by simp [zerL]
theorem zerL_s {u : Nat → Int64} {i : Nat} : vp_updL (zerL u i) i 0 = zerL u (i + 1) := funext fun j => by
  simp only [zerL, vp_updL]
  split
  · rw [if_pos (by omega)]
  · split
    · rw [if_pos (by omega)]
    · rw [if_neg (by omega)]
