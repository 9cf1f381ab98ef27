def everyI (n : Nat) : Int32 := bitI n - 1
theorem fb_8 : ∀ f, f < 8 → ∀ b0 b1 b2 b3 b4 b5 b6 b7 : Bool, decide (setB [b0, b1, b2, b3, b4, b5, b6, b7] 0 0 &&& bitI f = bitI f) = [b0, b1, b2, b3, b4, b5, b6, b7].getD f false := by decide +kernel
theorem fc_8 : ∀ n, n < 9 → ∀ b0 b1 b2 b3 b4 b5 b6 b7 : Bool, decide (setB [decide (0 < n) && b0, decide (1 < n) && b1, decide (2 < n) && b2, decide (3 < n) && b3, decide (4 < n) && b4, decide (5 < n) && b5, decide (6 < n) && b6, decide (7 < n) && b7] 0 0 &&& everyI n = everyI n) = decide (n ≤ cntB [decide (0 < n) && b0, decide (1 < n) && b1, decide (2 < n) && b2, decide (3 < n) && b3, decide (4 < n) && b4, decide (5 < n) && b5, decide (6 < n) && b6, decide (7 < n) && b7] 0) := by decide +kernel
theorem set_bit (p : Nat → Bool) {n f : Nat} (h : n ≤ 8) (hf : f < n) : decide (setF p n &&& bitI f = bitI f) = p f := by
  rw [← setF_pad p n (8 - n), show n + (8 - n) = 8 by omega]
  refine (fb_8 f (by omega) _ _ _ _ _ _ _ _).trans ?_
  have e : ∀ j, j < n → (decide (j < n) && p j) = p j := fun j hj => by rw [decide_eq_true hj]; rfl
  rcases (show f = 0 ∨ f = 1 ∨ f = 2 ∨ f = 3 ∨ f = 4 ∨ f = 5 ∨ f = 6 ∨ f = 7 by omega) with rfl | rfl | rfl | rfl | rfl | rfl | rfl | rfl <;> exact e _ hf
theorem set_all (p : Nat → Bool) {n : Nat} (h : n ≤ 8) : decide (setF p n &&& everyI n = everyI n) = decide (n ≤ cntF p n) := by
  rw [← setF_pad p n (8 - n), ← cntF_pad p n (8 - n), show n + (8 - n) = 8 by omega]
  exact fc_8 n (by omega) _ _ _ _ _ _ _ _
def fcP (g : Nat → Int32) (n : Nat) (who : Int32) (j : Nat) : Bool := decide (contS (hoursF g n j) n &&& who = who)
theorem fc_when {g : Nat → Int32} {n f : Nat} (h : n ≤ 8) (hf : f < n) : fcP g n (bitI f) = whenP g n f := funext fun j => set_bit _ h hf
theorem fc_all {g : Nat → Int32} {n : Nat} (h : n ≤ 8) : fcP g n (everyI n) = allP g n := funext fun j => set_all _ h
theorem under_c {k o : Int32} : (decide (k = o) || decide (kindAb k = o) || decide (o = 0)) = under k o := by
  unfold under kindAb
  by_cases h4 : k = 4
  · subst h4
    rw [if_pos rfl]
    by_cases a : o = 0
    · subst a; rfl
    · by_cases b : o = 1
      · subst b; rfl
      · have b' : ¬ (1 : Int32) = o := fun z => b z.symm
        simp [a, b, b']
  · rw [if_neg h4]
    by_cases h5 : k = 5
    · subst h5
      rw [if_pos rfl]
      by_cases a : o = 0
      · subst a; rfl
      · by_cases b : o = 2
        · subst b; rfl
        · have b' : ¬ (2 : Int32) = o := fun z => b z.symm
          simp [a, b, b']
    · rw [if_neg h5]
      by_cases a : o = 0
      · simp [a]
      · have a' : ¬ (0 : Int32) = o := fun z => a z.symm
        simp [a, a', h4, h5]
