/-! the night's own laws -/
def fillF (f g : Nat → Int32) (i : Nat) : Nat → Int32 := fun j => if j < i then f j else g j
theorem fillF_0 (f g : Nat → Int32) : g = fillF f g 0 := funext fun j => by simp [fillF]
theorem fillF_s (f g : Nat → Int32) (i : Nat) : upd (fillF f g i) i (f i) = fillF f g (i + 1) := funext fun j => by
  simp only [fillF, upd]
  split
  · rename_i h; subst h; rw [if_pos (by omega)]
  · split
    · rw [if_pos (by omega)]
    · rw [if_neg (by omega)]
theorem fillF_in {f g : Nat → Int32} {n j : Nat} (h : j < n) : fillF f g n j = f j := by simp [fillF, h]
def fnd (k : Nat) : Int32 := -1000000001 - nI k
theorem fnd_k (k : Nat) : -1000000001 - fnd k = nI k := by
  unfold fnd
  generalize nI k = x
  rw [Int32.sub_eq_add_neg, Int32.neg_sub]
  rw [Int32.sub_eq_add_neg, Int32.add_comm x, ← Int32.add_assoc]
  simp
theorem upd_at (f : Nat → Int32) (k : Nat) (x : Int32) : upd f k x k = x := pk_us
theorem its_put {g : Nat → Int32} {f w f' w' : Nat} {v : Int32} (h : ¬ (f = f' ∧ w = w')) (hw : w < 9) (hw' : w' < 9) : its (put9 g f w v) f' w' = its g f' w' := by
  unfold its put9
  exact pk_un (by omega)
theorem its_puts {g : Nat → Int32} {f w : Nat} {v : Int32} : its (put9 g f w v) f w = v := pk_us
theorem put_lo {g : Nat → Int32} {f w k : Nat} {v : Int32} (h : k < 3) : put9 g f w v k = g k := pk_un (by omega)
theorem Inv_put {g : Nat → Int32} {n f w : Nat} {v : Int32} (hI : Inv g n) (hw : w < 9) (h : f < n → (w = 0 → rng v 0 5) ∧ (w = 1 → rng v 0 3) ∧ (w = 2 → rng v 0 19) ∧ (w = 3 → rng v 0 99) ∧ (w = 4 → rng v 0 1) ∧ (w = 5 → rng v 0 4) ∧ (w = 6 → rng v (-1) ((n : Int) - 1)) ∧ (w = 7 → rng v 0 1) ∧ (w = 8 → rng v 0 9999)) : Inv (put9 g f w v) n := by
  obtain ⟨h1, h2, h3, h4⟩ := hI
  refine ⟨h1, by rw [put_lo (by omega)]; exact h2, by rw [put_lo (by omega)]; exact h3, fun f' hf' => ?_⟩
  obtain ⟨a0, a1, a2, a3, a4, a5, a6, a7, a8⟩ := h4 f' hf'
  by_cases hf : f = f'
  · subst hf
    obtain ⟨b0, b1, b2, b3, b4, b5, b6, b7, b8⟩ := h hf'
    have key : ∀ (k : Nat) (x : Int32) (a b : Int), k < 9 → rng (its g f k) a b → (w = k → rng v a b) → rng (its (put9 g f w v) f k) a b := by
      intro k x a b hk p q
      by_cases hwk : w = k
      · subst hwk; rw [its_puts]; exact q rfl
      · rw [its_put (fun z => hwk z.2) hw hk]; exact p
    exact ⟨key 0 v _ _ (by omega) a0 b0, key 1 v _ _ (by omega) a1 b1, key 2 v _ _ (by omega) a2 b2, key 3 v _ _ (by omega) a3 b3, key 4 v _ _ (by omega) a4 b4, key 5 v _ _ (by omega) a5 b5, key 6 v _ _ (by omega) a6 b6, key 7 v _ _ (by omega) a7 b7, key 8 v _ _ (by omega) a8 b8⟩
  · have key : ∀ k, k < 9 → its (put9 g f w v) f' k = its g f' k := fun k hk => its_put (fun z => hf z.1) hw hk
    unfold rowOK
    rw [key 0 (by omega), key 1 (by omega), key 2 (by omega), key 3 (by omega), key 4 (by omega), key 5 (by omega), key 6 (by omega), key 7 (by omega), key 8 (by omega)]
    exact ⟨a0, a1, a2, a3, a4, a5, a6, a7, a8⟩
theorem sub_I {x y : Int32} (h1 : -2147483648 ≤ x.toInt - y.toInt) (h2 : x.toInt - y.toInt < 2147483648) : (x - y).toInt = x.toInt - y.toInt := by
  rw [Int32.toInt_sub]
  exact Int.bmod_eq_of_le (by omega) (by omega)
theorem add_I {x y : Int32} (h1 : -2147483648 ≤ x.toInt + y.toInt) (h2 : x.toInt + y.toInt < 2147483648) : (x + y).toInt = x.toInt + y.toInt := by
  rw [Int32.toInt_add]
  exact Int.bmod_eq_of_le (by omega) (by omega)
theorem mul_I {x y : Int32} (h1 : -2147483648 ≤ x.toInt * y.toInt) (h2 : x.toInt * y.toInt < 2147483648) : (x * y).toInt = x.toInt * y.toInt := by
  rw [Int32.toInt_mul]
  exact Int.bmod_eq_of_le (by omega) (by omega)
theorem le_I {x y : Int32} : x ≤ y ↔ x.toInt ≤ y.toInt := Int32.le_iff_toInt_le
theorem lt_I {x y : Int32} : x < y ↔ x.toInt < y.toInt := Int32.lt_iff_toInt_lt
theorem held_rng (v : Int32) {a b : Int32} (h : a.toInt ≤ b.toInt) : rng (heldI v a b) a.toInt b.toInt := by
  unfold heldI rng
  split
  · omega
  · rename_i h1
    rw [lt_I] at h1
    split
    · omega
    · rename_i h2
      rw [lt_I] at h2
      omega
theorem abs_rng {d : Int32} {b : Int} (h : -b ≤ d.toInt ∧ d.toInt ≤ b) (hb : b < 2147483648) : (absI d).toInt = if d.toInt < 0 then -d.toInt else d.toInt := by
  have h0 : (0 : Int32).toInt = 0 := by decide
  unfold absI
  by_cases q : d < 0
  · rw [if_pos q]
    rw [lt_I, h0] at q
    rw [if_pos q, sub_I (by rw [h0]; omega) (by rw [h0]; omega), h0]; omega
  · rw [if_neg q]
    rw [lt_I, h0] at q
    rw [if_neg q]
theorem apart_I {g : Nat → Int32} {n f o : Nat} (hI : Inv g n) (hf : f < n) (ho : o < n) : (apart g f o).toInt = if (its g f 2).toInt - (its g o 2).toInt < 0 then (its g o 2).toInt - (its g f 2).toInt else (its g f 2).toInt - (its g o 2).toInt := by
  obtain ⟨-, -, h1, -⟩ := hI.2.2.2 f hf
  obtain ⟨-, -, h2, -⟩ := hI.2.2.2 o ho
  unfold rng at h1 h2
  have e := sub_I (x := its g f 2) (y := its g o 2) (by omega) (by omega)
  unfold apart
  rw [abs_rng (b := 19) (by rw [e]; omega) (by omega), e]
  split <;> omega
theorem cntF_le (p : Nat → Bool) : ∀ n, cntF p n ≤ n
  | 0 => Nat.le_refl _
  | n + 1 => by
    have h := cntF_le p n
    rw [cntF]
    split <;> omega
theorem div20 {x : Int32} (h : rng x 0 99) : rng (x / 20) 0 4 := by
  obtain ⟨h1, h2⟩ := rng_nI h (by decide)
  unfold rng at h
  rw [h1]
  have h3 : nI x.toNatClampNeg / 20 = nI (x.toNatClampNeg / 20) := pk_div (d := 20) (by omega) (by decide) (by decide)
  rw [h3]
  unfold rng
  rw [nI_toInt (by omega)]
  omega
theorem plain_rng (g : Nat → Int32) : rng (plainR g) 2 4 := by
  unfold plainR rng
  split <;> decide
theorem mayor_rng {g : Nat → Int32} {n f : Nat} (hI : Inv g n) (hf : f < n) : rng (mayorR g f) 2 8 := by
  obtain ⟨-, -, -, h3, -⟩ := hI.2.2.2 f hf
  have a := plain_rng g
  have b := div20 h3
  unfold rng at *
  unfold mayorR
  rw [add_I (by omega) (by omega)]
  omega
theorem rubs_rng {g : Nat → Int32} {n f : Nat} (hI : Inv g n) (hf : f < n) : rng (rubs g n f) 0 16 := by
  have a := plain_rng g
  have b := mayor_rng hI hf
  have h2 : (2 : Int32).toInt = 2 := by decide
  have h0 : (0 : Int32).toInt = 0 := by decide
  have hc := cntF_le (nearP g f) n
  have h8 := hI.1
  unfold rng at *
  unfold rubs
  split
  · omega
  · split
    · rw [h0]; omega
    · split
      · split
        · omega
        · rw [mul_I (by rw [h2]; omega) (by rw [h2]; omega), h2]; omega
      · split
        · have e := nI_toInt (n := cntF (nearP g f) n) (by omega)
          rw [add_I (by rw [e]; omega) (by rw [e]; omega), e]; omega
        · omega
theorem nc_with {g : Nat → Int32} {f : Nat} (hc : content g f = false) (h : its g f 5 = 1 ∨ its g f 5 = 2) : withW g f = true := by
  unfold content at hc
  have e1 : ¬ (1 : Int32) = 0 := by decide
  have e2 : ¬ (2 : Int32) = 0 := by decide
  have e3 : ¬ (2 : Int32) = 1 := by decide
  rcases h with h | h
  · rw [h, if_neg e1, if_pos rfl] at hc
    simp only [Bool.or_eq_false_iff, Bool.not_eq_false'] at hc
    exact hc.1
  · rw [h, if_neg e2, if_neg e3, if_pos rfl] at hc
    simp only [Bool.or_eq_false_iff, Bool.not_eq_false'] at hc
    exact hc.1
theorem want12 {x : Int32} (h : rng x 0 4) (h0 : ¬ x = 0) (h2 : x ≤ 2) : x = 1 ∨ x = 2 := by
  obtain ⟨h1, h3⟩ := rng_nI h (by decide)
  rw [le_I] at h2
  have e2 : (2 : Int32).toInt = 2 := by decide
  unfold rng at h
  have h4 : x.toNatClampNeg = 0 ∨ x.toNatClampNeg = 1 ∨ x.toNatClampNeg = 2 := by omega
  rcases h4 with h4 | h4 | h4
  · exact absurd (by rw [h1, h4]; rfl) h0
  · left; rw [h1, h4]; rfl
  · right; rw [h1, h4]; rfl
theorem nc_in {g : Nat → Int32} {n f : Nat} (hI : Inv g n) (hf : f < n) (hc : content g f = false) (h0 : ¬ its g f 5 = 0) (h2 : its g f 5 ≤ 2) : its g f 6 = nI (whomN g f) ∧ whomN g f < n := by
  obtain ⟨-, -, -, -, -, h5, -⟩ := hI.2.2.2 f hf
  exact with_in hI hf (nc_with hc (want12 h5 h0 h2))
theorem nc_apart {g : Nat → Int32} {f : Nat} (hc : content g f = false) (h : its g f 5 = 1) : 1 < (apart g f (whomN g f)).toInt := by
  unfold content at hc
  have e1 : ¬ (1 : Int32) = 0 := by decide
  rw [h, if_neg e1, if_pos rfl] at hc
  simp only [Bool.or_eq_false_iff, decide_eq_false_iff_not] at hc
  have h2 := hc.2
  rw [le_I] at h2
  have e : (1 : Int32).toInt = 1 := by decide
  omega
theorem col_rng {g : Nat → Int32} {n f : Nat} {r : Int32} (hI : Inv g n) (hf : f < n) (hc : content g f = false) (h0 : ¬ its g f 5 = 0) (h2 : its g f 5 ≤ 2) (hr : rng r 0 16) : rng (columnBy g f r) 0 19 := by
  obtain ⟨-, hwn⟩ := nc_in hI hf hc h0 h2
  obtain ⟨-, -, hcol, -, -, h5, -⟩ := hI.2.2.2 f hf
  obtain ⟨-, -, hcw, -⟩ := hI.2.2.2 _ hwn
  have ha := apart_I hI hf hwn
  unfold columnBy
  split
  · exact held_rng _ (by decide)
  · rename_i hn2
    have h1 : its g f 5 = 1 := (want12 h5 h0 h2).resolve_right hn2
    have hap := nc_apart hc h1
    have e1 : (1 : Int32).toInt = 1 := by decide
    have es : (apart g f (whomN g f) - 1).toInt = (apart g f (whomN g f)).toInt - 1 := by
      unfold rng at hcol hcw
      rw [sub_I (by rw [e1, ha]; split <;> omega) (by rw [e1, ha]; split <;> omega), e1]
    generalize hgo : (if r < apart g f (whomN g f) - 1 then r else apart g f (whomN g f) - 1) = go
    have hg : 0 ≤ go.toInt ∧ go.toInt ≤ (apart g f (whomN g f)).toInt - 1 := by
      unfold rng at hr
      rw [← hgo]
      split
      · rename_i q; rw [lt_I, es] at q; omega
      · rw [es]; omega
    unfold rng at *
    split
    · rename_i q
      rw [lt_I] at q
      rw [if_pos (by omega)] at ha
      rw [add_I (by omega) (by omega)]; omega
    · rename_i q
      rw [lt_I] at q
      have hs : (its g f 2).toInt - (its g (whomN g f) 2).toInt < 0 ∨ 0 ≤ (its g f 2).toInt - (its g (whomN g f) 2).toInt := by omega
      rw [if_neg (by omega)] at ha
      rw [sub_I (by omega) (by omega)]; omega
theorem Inv_works {g : Nat → Int32} {n f : Nat} (hI : Inv g n) (hf : f < n) (hc : content g f = false) : Inv (worksF g n f) n := by
  unfold worksF
  split
  · have hrow := hI.2.2.2 f hf
    have hru := rubs_rng hI hf
    have e0 : (0 : Int32).toInt = 0 := by decide
    have e1 : (1 : Int32).toInt = 1 := by decide
    obtain ⟨-, -, -, -, h4, h5, -⟩ := hrow
    refine Inv_put (Inv_put hI ?_ (fun _ => ?_)) (by omega) (fun _ => ?_)
    · unfold whatW; split; omega; split <;> omega
    · by_cases q0 : its g f 5 = 0
      · have hw : whatW g f = 3 := by simp [whatW, q0]
        have ht : thenW g n f = heldI (its g f 3 - rubs g n f) 0 99 := by simp [thenW, hw]
        rw [hw, ht]
        refine ⟨by omega, by omega, by omega, fun _ => held_rng _ (by decide), by omega, by omega, by omega, by omega, by omega⟩
      · by_cases q2 : its g f 5 ≤ 2
        · have hw : whatW g f = 2 := by simp [whatW, q0, q2]
          have ht : thenW g n f = columnBy g f (rubs g n f) := by simp [thenW, hw]
          rw [hw, ht]
          refine ⟨by omega, by omega, fun _ => col_rng hI hf hc q0 q2 hru, by omega, by omega, by omega, by omega, by omega, by omega⟩
        · have hw : whatW g f = 4 := by simp [whatW, q0, q2]
          have ht : thenW g n f = 1 - its g f 4 := by simp [thenW, hw]
          rw [hw, ht]
          refine ⟨by omega, by omega, by omega, by omega, fun _ => ?_, by omega, by omega, by omega, by omega⟩
          unfold rng at *
          rw [sub_I (by omega) (by omega)]; omega
    · refine ⟨by omega, by omega, by omega, by omega, by omega, by omega, by omega, by omega, fun _ => held_rng _ (by decide)⟩
  · exact hI
theorem Inv_step {g : Nat → Int32} {n f : Nat} (hI : Inv g n) (hf : f < n) : Inv (stepF g n f) n := by
  unfold stepF
  split
  · rename_i h; exact Inv_works hI hf h.2.1
  · exact hI
theorem Inv_pass {g : Nat → Int32} {n : Nat} (hI : Inv g n) : ∀ k, k ≤ n → Inv (passF g n k) n
  | 0, _ => hI
  | k + 1, h => Inv_step (Inv_pass hI k (by omega)) h
theorem Inv_lo {g : Nat → Int32} {n : Nat} {v : Int32} (hI : Inv g n) : Inv (upd g 0 v) n := by
  obtain ⟨h1, h2, h3, h4⟩ := hI
  refine ⟨h1, by rw [pk_un (by omega)]; exact h2, by rw [pk_un (by omega)]; exact h3, fun f hf => ?_⟩
  have key : ∀ k, its (upd g 0 v) f k = its g f k := fun k => pk_un (by omega)
  unfold rowOK
  rw [key, key, key, key, key, key, key, key, key]
  exact h4 f hf
theorem Inv_hour {g : Nat → Int32} {n : Nat} (hI : Inv g n) : Inv (hourF g n) n := Inv_lo (Inv_pass hI n (Nat.le_refl _))
theorem Inv_hours {g : Nat → Int32} {n : Nat} (hI : Inv g n) : ∀ k, Inv (hoursF g n k) n
  | 0 => hI
  | k + 1 => Inv_hour (Inv_hours hI k)
theorem passF_t {g : Nat → Int32} {n k : Nat} (h1 : its (passF g n k) k 7 = 0) (h2 : content (passF g n k) k = false) (h3 : waits (passF g n k) n k = false) : worksF (passF g n k) n k = passF g n (k + 1) := by
  show _ = stepF (passF g n k) n k
  rw [stepF, if_pos ⟨h1, h2, h3⟩]
theorem passF_f {g : Nat → Int32} {n k : Nat} (h : ¬ (its (passF g n k) k 7 = 0 ∧ content (passF g n k) k = false ∧ waits (passF g n k) n k = false)) : passF g n k = passF g n (k + 1) := by
  show _ = stepF (passF g n k) n k
  rw [stepF, if_neg h]
