/-! the gallery: a night's row g in an object and its cells -/
def tl (g : Nat → Int32) : Nat → Int32 := fun k => g (k + 3)
theorem tl_put (g : Nat → Int32) (f w : Nat) (v : Int32) : upd (tl g) (9 * f + w) v = tl (put9 g f w v) := funext fun k => by
  unfold tl put9 upd
  by_cases h : k = 9 * f + w
  · rw [if_pos h, if_pos (by omega)]
  · rw [if_neg h, if_neg (by omega)]
theorem tl_lo (g : Nat → Int32) (k : Nat) (v : Int32) (h : k < 3) : tl g = tl (upd g k v) := funext fun j => by
  unfold tl
  rw [pk_un (by omega)]
theorem gw_eq {cI : ClassId} {h q : Nat} {ho ta fi : Int32} {ce g : Nat → Int32} (e0 : ho = g 0) (e2 : ta = g 2) (e1 : fi = g 1) (ec : ce = tl g) : GW cI h q ho ta fi ce = GW cI h q (g 0) (g 2) (g 1) (tl g) := by
  subst e0 e2 e1 ec
  rfl
def gget (c : Nat → Int32) (f w : Int32) : Int32 := if 0 ≤ f * 9 + w then (if 72 ≤ f * 9 + w then 0 else c (cl (f * 9 + w))) else 0
theorem nI_9 (f w : Nat) : nI f * 9 + nI w = nI (9 * f + w) := by
  show nI f * nI 9 + nI w = _
  rw [pk_mul, nI_add, Nat.mul_comm]
theorem gget_n {g : Nat → Int32} {f w : Nat} (hf : f < 8) (hw : w < 9) : gget (tl g) (nI f) (nI w) = its g f w := by
  unfold gget
  rw [nI_9, if_pos (nI_pos' (by omega)), if_neg (show ¬ (72 : Int32) ≤ nI (9 * f + w) from nI_ge (a := 9 * f + w) (b := 72) (by omega) (by omega)), cl_nI (by omega)]
  rfl
theorem lack_i {n : Nat} {f : Int32} (h8 : n ≤ 8) : (f < 0 ∨ nI n ≤ f) ↔ isFig n f = false := by
  unfold isFig inI
  rw [decide_eq_false_iff_not, lt_I, le_I, le_I, le_I]
  have h0 : (0 : Int32).toInt = 0 := by decide
  have h1 : (1 : Int32).toInt = 1 := by decide
  have hn : (nI n).toInt = n := nI_toInt (by omega)
  rw [sub_I (by rw [hn, h1]; omega) (by rw [hn, h1]; omega), hn, h1, h0]
  omega
theorem fig_m1 {n : Nat} (h8 : n ≤ 8) : isFig n (-1) = false := (lack_i h8).mp (Or.inl (by decide))
theorem abs_ap {g : Nat → Int32} {n f o : Nat} (hI : Inv g n) (hf : f < n) (ho : o < n) : (if 0 ≤ its g o 2 - its g f 2 then its g o 2 - its g f 2 else 0 - (its g o 2 - its g f 2)) = apart g f o := by
  obtain ⟨-, -, h1, -⟩ := hI.2.2.2 f hf
  obtain ⟨-, -, h2, -⟩ := hI.2.2.2 o ho
  unfold rng at h1 h2
  have e := sub_I (x := its g o 2) (y := its g f 2) (by omega) (by omega)
  have h0 : (0 : Int32).toInt = 0 := by decide
  apply Int32.toInt_inj.mp
  rw [apart_I hI hf ho]
  by_cases q : 0 ≤ its g o 2 - its g f 2
  · rw [if_pos q]
    rw [le_I, e, h0] at q
    rw [e]; split <;> omega
  · rw [if_neg q]
    rw [le_I, e, h0] at q
    rw [sub_I (by rw [h0, e]; omega) (by rw [h0, e]; omega), h0, e]; split <;> omega
theorem whom_c {g : Nat → Int32} {n f : Nat} (hI : Inv g n) (hf : f < n) : its g f 6 = -1 ∨ (its g f 6 = nI (whomN g f) ∧ whomN g f < n ∧ ¬ its g f 6 = -1) := by
  by_cases h : its g f 6 = -1
  · exact Or.inl h
  · obtain ⟨h1, h2⟩ := whom_in hI hf h
    exact Or.inr ⟨h1, h2, h⟩
theorem bn_0 {b : Bool} (h : b2i (!b) = 0) : b = true := by cases b with | true => rfl | false => exact absurd h (by decide)
theorem bn_n0 {b : Bool} (h : ¬ b2i (!b) = 0) : b = false := by cases b with | false => rfl | true => exact absurd rfl h
