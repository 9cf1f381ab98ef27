/-! rows for the walks: loops, joins, numbers, the worlds -/
section LOOPS
variable {p : Program} {l : Launch} {e : Env} {R : Room} {s : State} {m : MethodId} {args : Array Value} {below : List Frame} {meth : Method} {c : Code} {H : Heap} {locs : List Loc} {cells slots : Nat} {Q : State → Prop} {pc pc0 : Nat} {ls : Array Slot} {st0 : List Value}
theorem w_loop {ι : Type} {st : ι → List Value} (μ : ι → Nat) (I : ι → Array Slot → Prop) (step : ∀ (x : ι) (ls : Array Slot), I x ls → (∀ (y : ι) (ls' : Array Slot), μ y < μ x → I y ls' → W p l e R s m args below meth c H locs cells slots Q (F0 m pc ls' (st y))) → W p l e R s m args below meth c H locs cells slots Q (F0 m pc ls (st x))) (x : ι) (h : I x ls) : W p l e R s m args below meth c H locs cells slots Q (F0 m pc ls (st x)) := by
  have key : ∀ (n : Nat) (x : ι) (ls : Array Slot), μ x < n → I x ls → W p l e R s m args below meth c H locs cells slots Q (F0 m pc ls (st x)) := by
    intro n
    induction n with
    | zero => intro x ls h; exact absurd h (Nat.not_lt_zero _)
    | succ n ih => intro x ls hx hI; exact step x ls hI (fun y ls' hy hI' => ih y ls' (by omega) hI')
  exact key (μ x + 1) x ls (Nat.lt_succ_self _) h
theorem w_loopH {ι : Type} {st : ι → List Value} (μ : ι → Nat) (I : ι → Heap → List Loc → Array Slot → Prop) (step : ∀ (x : ι) (H : Heap) (locs : List Loc) (ls : Array Slot), I x H locs ls → (∀ (y : ι) (H' : Heap) (locs' : List Loc) (ls' : Array Slot), μ y < μ x → I y H' locs' ls' → W p l e R s m args below meth c H' locs' cells slots Q (F0 m pc ls' (st y))) → W p l e R s m args below meth c H locs cells slots Q (F0 m pc ls (st x))) (x : ι) (h : I x H locs ls) : W p l e R s m args below meth c H locs cells slots Q (F0 m pc ls (st x)) := by
  have key : ∀ (n : Nat) (x : ι) (H : Heap) (locs : List Loc) (ls : Array Slot), μ x < n → I x H locs ls → W p l e R s m args below meth c H locs cells slots Q (F0 m pc ls (st x)) := by
    intro n
    induction n with
    | zero => intro x H locs ls h; exact absurd h (Nat.not_lt_zero _)
    | succ n ih => intro x H locs ls hx hI; exact step x H locs ls hI (fun y H' locs' ls' hy hI' => ih y H' locs' ls' (by omega) hI')
  exact key (μ x + 1) x H locs ls (Nat.lt_succ_self _) h
theorem w_cut {ι : Type} {st : ι → List Value} (I : ι → Array Slot → Prop) (J : ∀ (x : ι) (ls : Array Slot), I x ls → W p l e R s m args below meth c H locs cells slots Q (F0 m pc ls (st x)))
    (k : (∀ (x : ι) (ls : Array Slot), I x ls → W p l e R s m args below meth c H locs cells slots Q (F0 m pc ls (st x))) → W p l e R s m args below meth c H locs cells slots Q (F0 m pc0 ls st0)) : W p l e R s m args below meth c H locs cells slots Q (F0 m pc0 ls st0) := k J
theorem w_cutH {ι : Type} {st : ι → List Value} (I : ι → Heap → List Loc → Array Slot → Prop) (J : ∀ (x : ι) (H : Heap) (locs : List Loc) (ls : Array Slot), I x H locs ls → W p l e R s m args below meth c H locs cells slots Q (F0 m pc ls (st x)))
    (k : (∀ (x : ι) (H : Heap) (locs : List Loc) (ls : Array Slot), I x H locs ls → W p l e R s m args below meth c H locs cells slots Q (F0 m pc ls (st x))) → W p l e R s m args below meth c H locs cells slots Q (F0 m pc0 ls st0)) : W p l e R s m args below meth c H locs cells slots Q (F0 m pc0 ls st0) := k J
end LOOPS
theorem va_P0 {D : va_G} {cl : List vw_C} {H : Heap} : va_P D cl [] H := fun k q h => by simp at h
abbrev tyA (cI cJ cO : ClassId) : List (ClassId × FieldType) := [(cI, .int), (cJ, .long), (cO, .object "VarnishNight$Sheet")]
theorem nI_inc (n : Nat) : nI n + Int32.ofInt 1 = nI (n + 1) := nI_1 n
theorem nI_incN (n k : Nat) : nI n + Int32.ofInt k = nI (n + k) := nI_add n k
theorem nI_dec (n : Nat) : nI (n + 1) + Int32.ofInt (-1) = nI n := pk_m1 n
theorem b2i_n0 {b : Bool} (h : ¬ b2i b = 0) : b = true := by cases b with | true => rfl | false => exact absurd rfl h
theorem nq_lt {a b : Nat} (ha : a < 2 ^ 31) (hb : b < 2 ^ 31) (h : nI a < nI b) : ¬ b ≤ a := Nat.not_le.mpr ((nI_ltI ha hb).mp h)
theorem nq_nlt {a b : Nat} (ha : a < 2 ^ 31) (hb : b < 2 ^ 31) (h : ¬ nI a < nI b) : b ≤ a := Nat.le_of_not_lt (fun q => h ((nI_ltI ha hb).mpr q))
theorem nq_le {a b : Nat} (ha : a < 2 ^ 31) (hb : b < 2 ^ 31) (h : nI a ≤ nI b) : a ≤ b := (nI_leI ha hb).mp h
theorem nq_nle {a b : Nat} (ha : a < 2 ^ 31) (hb : b < 2 ^ 31) (h : ¬ nI a ≤ nI b) : ¬ a ≤ b := fun q => h ((nI_leI ha hb).mpr q)
theorem nq_eq {a b : Nat} (ha : a < 2 ^ 31) (hb : b < 2 ^ 31) (h : nI a = nI b) : a = b := (nI_eq ha hb).mp h
theorem nq_ne {a b : Nat} (ha : a < 2 ^ 31) (hb : b < 2 ^ 31) (h : ¬ nI a = nI b) : ¬ a = b := fun q => h ((nI_eq ha hb).mpr q)
theorem b2i_ite {P : Prop} [Decidable P] : (if P then (1 : Int32) else 0) = b2i (decide P) := by
  by_cases h : P <;> simp [h, b2i]
/-- the worlds -/
abbrev GW (cI : ClassId) (h q : Nat) (ho ta fi : Int32) (ce : Nat → Int32) : va_W := [(h, .inr (0, [.int ho, .int ta, .int fi, .ref q])), (q, .inl (cI, 72, .inl ce))]
abbrev SW (cJ : ClassId) (h q : Nat) (bi le : Int32) (nu : Nat → Int64) : va_W := [(h, .inr (1, [.int bi, .int le, .ref q])), (q, .inl (cJ, 40, .inr (.inl nu)))]
abbrev TW (cI : ClassId) (h q : Nat) (le : Int32) (by_ : Nat → Int32) (tk bg en va tn : Int32) : va_W := [(h, .inr (2, [.int le, .ref q, .int tk, .int bg, .int en, .int va, .int tn])), (q, .inl (cI, 120, .inl by_))]
abbrev MW (cI cJ : ClassId) (A : Nat → Nat) (sS kS oS aS tS : Nat → Int32) (ik : Int32) (cA tp : Nat → Int32) (td fm tt vl wr : Int32) (bO sO : Nat → Int32) (nU mV : Nat → Int64) : va_W :=
  [(A 0, .inr (4, [.ref (A 1), .ref (A 2), .ref (A 3), .ref (A 4), .ref (A 5), .int ik, .ref (A 6), .ref (A 7), .int td, .int fm, .int tt, .int vl, .int wr, .ref (A 8), .ref (A 9), .ref (A 10), .ref (A 11)])),
   (A 1, .inl (cI, 75, .inl sS)), (A 2, .inl (cI, 75, .inl kS)), (A 3, .inl (cI, 75, .inl oS)), (A 4, .inl (cI, 75, .inl aS)), (A 5, .inl (cI, 7, .inl tS)), (A 6, .inl (cI, 61, .inl cA)), (A 7, .inl (cI, 120, .inl tp)), (A 8, .inl (cI, 4, .inl bO)), (A 9, .inl (cI, 4, .inl sO)), (A 10, .inl (cJ, 160, .inr (.inl nU))), (A 11, .inl (cJ, 40, .inr (.inl mV)))]
