/-! what a night is stays so, call by call -/
theorem rng_in {v a b : Int32} (h : inI v a b = true) : rng v a.toInt b.toInt := by
  unfold inI at h
  have h := of_decide_eq_true h
  rw [le_I, le_I] at h
  exact h
theorem Inv_tacky {g : Nat → Int32} {n : Nat} {v : Int32} (hI : Inv g n) : Inv (tackyG g v) n := by
  unfold tackyG
  cases h : inI v 0 8 with
  | false => exact hI
  | true =>
    obtain ⟨k, -, hk, rfl⟩ := in_nat (a := 0) (b := 8) (by decide) h (by decide)
    exact Inv_tk hI hk
theorem tacky_0 {g : Nat → Int32} {v : Int32} : tackyG g v 0 = g 0 := by
  unfold tackyG
  split
  · exact pk_un (by decide)
  · rfl
theorem Inv_turn {g : Nat → Int32} {n : Nat} {f k : Int32} (hI : Inv g n) : Inv (turnG g n f k) n := by
  unfold turnG
  cases h : turnOk n f k with
  | false => exact hI
  | true =>
    unfold turnOk at h
    simp only [Bool.and_eq_true] at h
    have hr := rng_in h.2
    refine Inv_put (w := 0) hI (by omega) (fun _ => ?_)
    refine ⟨fun _ => hr, by omega, by omega, by omega, by omega, by omega, by omega, by omega, by omega⟩
theorem turn_0 {g : Nat → Int32} {n : Nat} {f k : Int32} : turnG g n f k 0 = g 0 := by
  unfold turnG
  split
  · exact put_lo (by decide)
  · rfl
theorem Inv_set {g : Nat → Int32} {n : Nat} {f w v : Int32} (hI : Inv g n) : Inv (setG g n f w v) n := by
  unfold setG
  cases h : (isFig n f && setOK n w v) with
  | false => exact hI
  | true =>
    simp only [Bool.and_eq_true] at h
    obtain ⟨h1, h2⟩ := h
    obtain ⟨j, hj1, hj2, rfl⟩ := set_in h2
    rw [cl_nI (by omega)]
    have h3 := (set_eq (v := v) hI.1 hj1 (by omega)).trans h2
    have hr := rng_in h3
    have hn : (nI n).toInt = n := nI_toInt (by have := hI.1; omega)
    have e1 : (1 : Int32).toInt = 1 := by decide
    have h8 := hI.1
    have es : (nI n - 1).toInt = (n : Int) - 1 := by rw [sub_I (by rw [hn, e1]; omega) (by rw [hn, e1]; omega), hn, e1]
    refine Inv_put hI (by omega) (fun _ => ?_)
    refine ⟨by omega, fun q => ?_, fun q => ?_, fun q => ?_, fun q => ?_, fun q => ?_, fun q => ?_, fun q => ?_, fun q => ?_⟩
    all_goals (subst q)
    · exact hr
    · exact hr
    · exact hr
    · exact hr
    · exact hr
    · have hr : rng v (-1 : Int32).toInt (nI n - 1).toInt := hr
      rw [es] at hr
      exact hr
    · exact hr
    · exact hr
theorem set_0 {g : Nat → Int32} {n : Nat} {f w v : Int32} : setG g n f w v 0 = g 0 := by
  unfold setG
  split
  · exact put_lo (by decide)
  · rfl
theorem Inv_hrs {g : Nat → Int32} {n : Nat} {k : Int32} (hI : Inv g n) : Inv (hrsG g n k) n := by
  unfold hrsG
  split
  · split
    · exact Inv_hours hI _
    · exact hI
  · exact hI
theorem hrs_0 {g : Nat → Int32} {n : Nat} {k : Int32} (h : rng (g 0) 0 99999) : rng (hrsG g n k 0) 0 99999 := by
  unfold hrsG
  split
  · rename_i h1
    split
    · rename_i h2
      obtain ⟨j, hj1, hj2, rfl⟩ := in_nat (a := 1) (b := 100) (by decide) h1 (by decide)
      rw [cl_nI (by omega), hours_0]
      have e9 : (99999 : Int32).toInt = 99999 := by decide
      have ej : (nI j).toInt = j := nI_toInt (by omega)
      unfold rng at *
      have es := add_I (x := g 0) (y := nI j) (by omega) (by omega)
      rw [le_I, es, e9] at h2
      rw [es]
      omega
    · exact h
  · exact h
theorem Inv_lays {g bO sO : Nat → Int32} {u : Nat → Int64} {n : Nat} {s : Int32} (hI : Inv g n) : Inv (layS g bO sO u n s) n := by
  unfold layS
  split
  · exact Inv_lay hI _
  · exact hI
theorem lay_0 {g : Nat → Int32} {u : Nat → Int64} {k : Nat} : ∀ j, layG g u k j 0 = g 0
  | 0 => rfl
  | j + 1 => by
    rw [layG]
    split
    · rw [put_lo (by decide)]; exact lay_0 j
    · exact lay_0 j
theorem lays_0 {g bO sO : Nat → Int32} {u : Nat → Int64} {n : Nat} {s : Int32} : layS g bO sO u n s 0 = g 0 := by
  unfold layS
  split
  · exact lay_0 _
  · rfl
theorem its_adds {g : Nat → Int32} {n f w : Nat} {k b d : Int32} (hf : f < n) (hw : w < 9) : its (addsF g n k b d) f w = its g f w := by
  unfold its addsF zeroF upd
  repeat (first | rw [if_neg (by omega)] | rw [if_pos (by omega)])
  dsimp only
  repeat (first | rw [if_neg (by omega)] | rw [if_pos (by omega)])
theorem Inv_adds {g : Nat → Int32} {n : Nat} {k b d : Int32} (hI : Inv g n) (hn : n < 8) (h : figOk k b d = true) : Inv (addsF g n k b d) (n + 1) := by
  unfold figOk at h
  simp only [Bool.and_eq_true] at h
  obtain ⟨⟨hk, hb⟩, hd⟩ := h
  obtain ⟨l0, l1, l2⟩ := adds_lo (g := g) (n := n) (k := k) (b := b) (d := d)
  obtain ⟨h1, h2, h3, h4⟩ := hI
  refine ⟨by omega, by rw [l1, nI_1], by rw [l2]; exact h3, fun f hf => ?_⟩
  by_cases q : f < n
  · obtain ⟨a0, a1, a2, a3, a4, a5, a6, a7, a8⟩ := h4 f q
    unfold rowOK
    rw [its_adds q (by omega), its_adds q (by omega), its_adds q (by omega), its_adds q (by omega), its_adds q (by omega), its_adds q (by omega), its_adds q (by omega), its_adds q (by omega), its_adds q (by omega)]
    refine ⟨a0, a1, a2, a3, a4, a5, ?_, a7, a8⟩
    unfold rng at *
    omega
  · obtain rfl : f = n := by omega
    have t := adds_tl (g := g) (n := f) (k := k) (b := b) (d := d)
    have key : ∀ w, w < 9 → its (addsF g f k b d) f w = its (put9 (put9 (put9 (put9 (put9 (put9 (put9 (put9 (put9 g f 0 k) f 1 b) f 2 d) f 3 50) f 4 0) f 5 0) f 6 (-1)) f 7 0) f 8 0) f w := fun w hw => (congrFun t (9 * f + w)).symm
    unfold rowOK
    rw [key 0 (by omega), key 1 (by omega), key 2 (by omega), key 3 (by omega), key 4 (by omega), key 5 (by omega), key 6 (by omega), key 7 (by omega), key 8 (by omega)]
    have e50 : rng 50 0 99 := by unfold rng; decide
    have e0 : ∀ z : Int, 0 ≤ z → rng 0 0 z := fun z hz => by unfold rng; rw [show (0 : Int32).toInt = 0 by decide]; omega
    have em : rng (-1) (-1) (((f + 1 : Nat) : Int) - 1) := by unfold rng; rw [show (-1 : Int32).toInt = -1 by decide]; omega
    refine ⟨?_, ?_, ?_, ?_, ?_, ?_, ?_, ?_, ?_⟩
    · rw [its_put (by omega) (by omega) (by omega), its_put (by omega) (by omega) (by omega), its_put (by omega) (by omega) (by omega), its_put (by omega) (by omega) (by omega), its_put (by omega) (by omega) (by omega), its_put (by omega) (by omega) (by omega), its_put (by omega) (by omega) (by omega), its_put (by omega) (by omega) (by omega), its_puts]; exact rng_in hk
    · rw [its_put (by omega) (by omega) (by omega), its_put (by omega) (by omega) (by omega), its_put (by omega) (by omega) (by omega), its_put (by omega) (by omega) (by omega), its_put (by omega) (by omega) (by omega), its_put (by omega) (by omega) (by omega), its_put (by omega) (by omega) (by omega), its_puts]; exact rng_in hb
    · rw [its_put (by omega) (by omega) (by omega), its_put (by omega) (by omega) (by omega), its_put (by omega) (by omega) (by omega), its_put (by omega) (by omega) (by omega), its_put (by omega) (by omega) (by omega), its_put (by omega) (by omega) (by omega), its_puts]; exact rng_in hd
    · rw [its_put (by omega) (by omega) (by omega), its_put (by omega) (by omega) (by omega), its_put (by omega) (by omega) (by omega), its_put (by omega) (by omega) (by omega), its_put (by omega) (by omega) (by omega), its_puts]; exact e50
    · rw [its_put (by omega) (by omega) (by omega), its_put (by omega) (by omega) (by omega), its_put (by omega) (by omega) (by omega), its_put (by omega) (by omega) (by omega), its_puts]; exact e0 _ (by omega)
    · rw [its_put (by omega) (by omega) (by omega), its_put (by omega) (by omega) (by omega), its_put (by omega) (by omega) (by omega), its_puts]; exact e0 _ (by omega)
    · rw [its_put (by omega) (by omega) (by omega), its_put (by omega) (by omega) (by omega), its_puts]; exact em
    · rw [its_put (by omega) (by omega) (by omega), its_puts]; exact e0 _ (by omega)
    · rw [its_puts]; exact e0 _ (by omega)
def figN (n : Nat) (k b d : Int32) : Nat := if figOk k b d then (if n = 8 then n else n + 1) else n
theorem Inv_fig {g : Nat → Int32} {n : Nat} {k b d : Int32} (hI : Inv g n) : Inv (figG g n k b d) (figN n k b d) := by
  unfold figG figN
  split
  · rename_i h
    split
    · exact hI
    · exact Inv_adds hI (by have := hI.1; omega) h
  · exact hI
theorem fig_0 {g : Nat → Int32} {n : Nat} {k b d : Int32} : figG g n k b d 0 = g 0 := by
  unfold figG
  split
  · split
    · rfl
    · exact adds_lo.1
  · rfl
