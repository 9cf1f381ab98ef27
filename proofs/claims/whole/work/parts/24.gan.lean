theorem put_same {g : Nat → Int32} {f w : Nat} {v : Int32} (h : its g f w = v) : put9 g f w v = g := by
  unfold put9
  rw [← h]
  exact (upd_same g _).symm
theorem what_lt (g : Nat → Int32) (f : Nat) : whatW g f < 8 := by
  unfold whatW
  split
  · omega
  · split <;> omega
theorem works_a {g : Nat → Int32} {n f : Nat} (h : rubs g n f ≤ 0) : g = worksF g n f := by
  rw [worksF, if_neg (fun z => absurd z.1 (Int32.not_lt.mpr h))]
theorem works_b {g : Nat → Int32} {n f : Nat} (h : its g f (whatW g f) = thenW g n f) : put9 g f (whatW g f) (thenW g n f) = worksF g n f := by
  rw [put_same h, worksF, if_neg (fun z => z.2 h.symm)]
theorem works_c {g : Nat → Int32} {n f : Nat} (h1 : ¬ rubs g n f ≤ 0) (h2 : ¬ its g f (whatW g f) = thenW g n f) : put9 (put9 g f (whatW g f) (thenW g n f)) f 8 (heldI (its (put9 g f (whatW g f) (thenW g n f)) f 8 + 1) 0 9999) = worksF g n f := by
  rw [worksF, if_pos ⟨Int32.not_le.mp h1, fun z => h2 z.symm⟩, its_put (fun z => absurd z.2 (by have := what_lt g f; omega)) (by have := what_lt g f; omega) (by omega)]
theorem lamp3 {g : Nat → Int32} {n f : Nat} (hI : Inv g n) (hf : f < n) (hc : content g f = false) (h0 : ¬ its g f 5 = 0) (h1 : ¬ its g f 5 = 1) (h2 : ¬ its g f 5 = 2) (h3 : its g f 5 = 3) : whatW g f = 4 ∧ thenW g n f = 0 := by
  obtain ⟨-, -, -, -, h4, h5, -⟩ := hI.2.2.2 f hf
  have hw : whatW g f = 4 := by
    unfold whatW
    rw [if_neg h0, if_neg (by rw [h3]; decide)]
  unfold content at hc
  rw [if_neg h0, if_neg h1, if_neg h2, if_pos h3] at hc
  have hl : its g f 4 = 1 := (rng01 h4).resolve_left (of_decide_eq_false hc)
  refine ⟨hw, ?_⟩
  unfold thenW
  rw [hw, if_neg (by decide), if_neg (by decide), hl]
  rfl
theorem lamp4 {g : Nat → Int32} {n f : Nat} (hI : Inv g n) (hf : f < n) (hc : content g f = false) (h0 : ¬ its g f 5 = 0) (h1 : ¬ its g f 5 = 1) (h2 : ¬ its g f 5 = 2) (h3 : ¬ its g f 5 = 3) : whatW g f = 4 ∧ thenW g n f = 1 := by
  obtain ⟨-, -, -, -, h4, h5, -⟩ := hI.2.2.2 f hf
  have hw : whatW g f = 4 := by
    unfold whatW
    rw [if_neg h0, if_neg (fun z => (want12 h5 h0 z).elim h1 h2)]
  unfold content at hc
  rw [if_neg h0, if_neg h1, if_neg h2, if_neg h3] at hc
  have hl : its g f 4 = 0 := (rng01 h4).resolve_right (of_decide_eq_false hc)
  refine ⟨hw, ?_⟩
  unfold thenW
  rw [hw, if_neg (by decide), if_neg (by decide), hl]
  rfl
theorem nose0 {g : Nat → Int32} {n f : Nat} (h0 : its g f 5 = 0) : whatW g f = 3 ∧ thenW g n f = heldI (its g f 3 - rubs g n f) 0 99 := by
  have hw : whatW g f = 3 := by unfold whatW; rw [if_pos h0]
  refine ⟨hw, ?_⟩
  unfold thenW
  rw [hw, if_pos rfl]
theorem col12 {g : Nat → Int32} {n f : Nat} (h : its g f 5 = 1 ∨ its g f 5 = 2) : whatW g f = 2 ∧ thenW g n f = columnBy g f (rubs g n f) := by
  have hw : whatW g f = 2 := by
    unfold whatW
    rcases h with h | h <;> rw [h] <;> rfl
  refine ⟨hw, ?_⟩
  unfold thenW
  rw [hw, if_neg (by decide), if_pos rfl]
theorem adds_lo {g : Nat → Int32} {n : Nat} {k b d : Int32} : addsF g n k b d 0 = g 0 ∧ addsF g n k b d 1 = nI n + 1 ∧ addsF g n k b d 2 = g 2 := by
  unfold addsF zeroF upd
  refine ⟨?_, ?_, ?_⟩ <;> (repeat (first | rw [if_neg (by omega)] | rw [if_pos (by omega)])) <;> (try dsimp only) <;> (repeat (first | rw [if_neg (by omega)] | rw [if_pos (by omega)]))
theorem adds_tl {g : Nat → Int32} {n : Nat} {k b d : Int32} : tl (put9 (put9 (put9 (put9 (put9 (put9 (put9 (put9 (put9 g n 0 k) n 1 b) n 2 d) n 3 50) n 4 0) n 5 0) n 6 (-1)) n 7 0) n 8 0) = tl (addsF g n k b d) := funext fun j => by
  unfold tl put9 addsF zeroF upd
  rcases (show (j < 9 * n ∨ 9 * n + 9 ≤ j) ∨ j = 9 * n ∨ j = 9 * n + 1 ∨ j = 9 * n + 2 ∨ j = 9 * n + 3 ∨ j = 9 * n + 4 ∨ j = 9 * n + 5 ∨ j = 9 * n + 6 ∨ j = 9 * n + 7 ∨ j = 9 * n + 8 by omega) with h | rfl | rfl | rfl | rfl | rfl | rfl | rfl | rfl | rfl <;> (repeat (first | rw [if_neg (by omega)] | rw [if_pos (by omega)])) <;> (try dsimp only) <;> (repeat (first | rw [if_neg (by omega)] | rw [if_pos (by omega)]))
