/-! what the gallery does otherwise than the model, and that it comes to the same -/
def pop1 (x : Int32) : Int32 := x - ((x.toUInt32 >>> (Int32.toUInt32 1 &&& Int32.toUInt32 31)).toInt32 &&& 1431655765)
def pop2 (x : Int32) : Int32 := (x &&& 858993459) + ((x.toUInt32 >>> (Int32.toUInt32 2 &&& Int32.toUInt32 31)).toInt32 &&& 858993459)
def pop3 (x : Int32) : Int32 := (x + (x.toUInt32 >>> (Int32.toUInt32 4 &&& Int32.toUInt32 31)).toInt32) &&& 252645135
def pop4 (x : Int32) : Int32 := x + (x.toUInt32 >>> (Int32.toUInt32 8 &&& Int32.toUInt32 31)).toInt32
def pop5 (x : Int32) : Int32 := x + (x.toUInt32 >>> (Int32.toUInt32 16 &&& Int32.toUInt32 31)).toInt32
def popI (x : Int32) : Int32 := pop5 (pop4 (pop3 (pop2 (pop1 x)))) &&& 63
def setB : List Bool → Nat → Int32 → Int32
  | [], _, a => a
  | b :: l, i, a => setB l (i + 1) (a ||| (if b then bitI i else 0))
def cntB : List Bool → Nat → Nat
  | [], a => a
  | b :: l, a => cntB l (a + (if b then 1 else 0))
theorem pop_8 : ∀ b0 b1 b2 b3 b4 b5 b6 b7 : Bool, popI (setB [b0, b1, b2, b3, b4, b5, b6, b7] 0 0) = nI (cntB [b0, b1, b2, b3, b4, b5, b6, b7] 0) := by decide +kernel
theorem setF_pad (p : Nat → Bool) (n : Nat) : ∀ k, setF (fun j => decide (j < n) && p j) (n + k) = setF p n
  | 0 => by
    have key : ∀ m, m ≤ n → setF (fun j => decide (j < n) && p j) m = setF p m := by
      intro m
      induction m with
      | zero => intro _; rfl
      | succ m ih =>
        intro h
        rw [setF, setF, ih (by omega)]
        have e : (decide (m < n) && p m) = p m := by rw [decide_eq_true (by omega)]; rfl
        rw [e]
    exact key n (Nat.le_refl _)
  | k + 1 => by
    show setF _ (n + k + 1) = _
    rw [setF, setF_pad p n k]
    have e : (decide (n + k < n) && p (n + k)) = false := by rw [decide_eq_false (by omega)]; rfl
    rw [e]
    simp
theorem cntF_pad (p : Nat → Bool) (n : Nat) : ∀ k, cntF (fun j => decide (j < n) && p j) (n + k) = cntF p n
  | 0 => by
    have key : ∀ m, m ≤ n → cntF (fun j => decide (j < n) && p j) m = cntF p m := by
      intro m
      induction m with
      | zero => intro _; rfl
      | succ m ih =>
        intro h
        rw [cntF, cntF, ih (by omega)]
        have e : (decide (m < n) && p m) = p m := by rw [decide_eq_true (by omega)]; rfl
        rw [e]
    exact key n (Nat.le_refl _)
  | k + 1 => by
    show cntF _ (n + k + 1) = _
    rw [cntF, cntF_pad p n k]
    have e : (decide (n + k < n) && p (n + k)) = false := by rw [decide_eq_false (by omega)]; rfl
    rw [e]
    rfl
theorem pop_set (p : Nat → Bool) {n : Nat} (h : n ≤ 8) : popI (setF p n) = nI (cntF p n) := by
  rw [← setF_pad p n (8 - n), ← cntF_pad p n (8 - n), show n + (8 - n) = 8 by omega]
  exact pop_8 _ _ _ _ _ _ _ _
theorem cnt_near {g : Nat → Int32} {f : Nat} : ∀ {n : Nat}, f < n → cntF (fun o => decide (its g o 1 = its g f 1)) n = cntF (nearP g f) n + 1 := by
  have key : ∀ n, n ≤ f → cntF (fun o => decide (its g o 1 = its g f 1)) n = cntF (nearP g f) n := by
    intro n
    induction n with
    | zero => intro _; rfl
    | succ n ih =>
      intro h
      rw [cntF, cntF, ih (by omega)]
      have e : decide (its g n 1 = its g f 1) = nearP g f n := by
        unfold nearP besid
        rw [decide_eq_true (show ¬ n = f by omega), Bool.true_and]
        exact decide_eq_decide.mpr eq_comm
      rw [e]
  intro n
  induction n with
  | zero => intro h; exact absurd h (Nat.not_lt_zero _)
  | succ n ih =>
    intro h
    rw [cntF, cntF]
    by_cases q : n = f
    · subst q
      rw [key n (Nat.le_refl _), decide_eq_true rfl]
      have e : nearP g n n = false := by unfold nearP; rw [decide_eq_false (by simp)]; rfl
      rw [e]
      simp
    · rw [ih (by omega)]
      have e : decide (its g n 1 = its g f 1) = nearP g f n := by
        unfold nearP besid
        rw [decide_eq_true q, Bool.true_and]
        exact decide_eq_decide.mpr eq_comm
      rw [e]
      omega
theorem m8_rng {x : Int32} (h : 0 ≤ x) : ∃ k, k < 8 ∧ m8 x = nI k := by
  have h0 : (0 : Int32).toInt = 0 := by decide
  rw [le_I, h0] at h
  obtain ⟨e1, e2⟩ := nI_of1 h
  have r := x.toInt_lt
  refine ⟨x.toNatClampNeg % 8, Nat.mod_lt _ (by decide), ?_⟩
  unfold m8
  rw [e1]
  have e3 := pk_rem (a := x.toNatClampNeg) (d := 8) (by omega) (by decide) (by decide)
  rw [nI_clamp (by omega)]
  exact e3
theorem m2_01 {x : Int32} (h : 0 ≤ x) : m2 (m8 x) = 0 ∨ m2 (m8 x) = 1 := by
  obtain ⟨k, hk, e⟩ := m8_rng h
  rw [e]
  unfold m2
  have e2 : nI k - nI k / 2 * 2 = nI (k % 2) := pk_rem (a := k) (d := 2) (by omega) (by decide) (by decide)
  rw [e2]
  have : k % 2 = 0 ∨ k % 2 = 1 := by omega
  rcases this with q | q <;> rw [q]
  · left; rfl
  · right; rfl
theorem pass_0 {g : Nat → Int32} {n : Nat} : ∀ k, passF g n k 0 = g 0
  | 0 => rfl
  | k + 1 => by
    show stepF (passF g n k) n k 0 = _
    unfold stepF
    split
    · unfold worksF
      split
      · rw [put_lo (by omega), put_lo (by omega)]; exact pass_0 k
      · exact pass_0 k
    · exact pass_0 k
theorem hours_0 {g : Nat → Int32} {n : Nat} : ∀ k, hoursF g n k 0 = g 0 + nI k
  | 0 => by show g 0 = g 0 + nI 0; rw [nI_0]; simp
  | k + 1 => by
    show hourF (hoursF g n k) n 0 = _
    unfold hourF
    rw [pk_us, pass_0, hours_0 k, nI_succ, Int32.add_assoc]
theorem hours_pos {g : Nat → Int32} {n k : Nat} (h : rng (g 0) 0 200000) (hk : k ≤ 1000) : 0 ≤ hoursF g n k 0 := by
  rw [hours_0, le_I]
  unfold rng at h
  have h0 : (0 : Int32).toInt = 0 := by decide
  have e : (nI k).toInt = k := nI_toInt (by omega)
  rw [add_I (by omega) (by omega)]
  omega
theorem max_held {x r : Int32} (hx : rng x 0 99) (hr : rng r 0 16) : (if (0 : Int32) < x - r then x - r else 0) = heldI (x - r) 0 99 := by
  have h0 : (0 : Int32).toInt = 0 := by decide
  have h9 : (99 : Int32).toInt = 99 := by decide
  unfold rng at hx hr
  have e := sub_I (x := x) (y := r) (by omega) (by omega)
  unfold heldI
  by_cases q : (0 : Int32) < x - r
  · rw [if_pos q]
    rw [lt_I, e] at q
    rw [if_neg (by rw [lt_I, e]; omega), if_neg (by rw [lt_I, e]; omega)]
  · rw [if_neg q]
    rw [lt_I, e] at q
    by_cases z : x - r < 0
    · rw [if_pos z]
    · rw [if_neg z]
      rw [lt_I, e] at z
      rw [if_neg (by rw [lt_I, e]; omega)]
      exact Int32.toInt_inj.mp (by rw [e, h0]; omega)
theorem min_held {x : Int32} (hx : rng x 0 9999) : (if 9999 < x + 1 then 9999 else x + 1) = heldI (x + 1) 0 9999 := by
  have h0 : (0 : Int32).toInt = 0 := by decide
  have h1 : (1 : Int32).toInt = 1 := by decide
  unfold rng at hx
  have e := add_I (x := x) (y := 1) (by omega) (by omega)
  unfold heldI
  rw [if_neg (show ¬ x + 1 < 0 by rw [lt_I, e]; omega)]
theorem near_col {g : Nat → Int32} {n f : Nat} {r : Int32} (hI : Inv g n) (hf : f < n) (hc : content g f = false) (h1 : its g f 5 = 1) (hr : rng r 0 16) :
    (if its g (whomN g f) 2 ≤ its g f 2 then (if its g f 2 - r < its g (whomN g f) 2 + 1 then its g (whomN g f) 2 + 1 else its g f 2 - r) else (if its g (whomN g f) 2 - 1 < its g f 2 + r then its g (whomN g f) 2 - 1 else its g f 2 + r)) = columnBy g f r := by
  have hne0 : ¬ its g f 5 = 0 := by rw [h1]; decide
  have hle2 : its g f 5 ≤ 2 := by rw [h1]; decide
  obtain ⟨-, hwn⟩ := nc_in hI hf hc hne0 hle2
  obtain ⟨-, -, hcol, -⟩ := hI.2.2.2 f hf
  obtain ⟨-, -, hcw, -⟩ := hI.2.2.2 _ hwn
  have ha := apart_I hI hf hwn
  have hap := nc_apart hc h1
  have e1 : (1 : Int32).toInt = 1 := by decide
  unfold rng at hcol hcw hr
  have ea : (apart g f (whomN g f) - 1).toInt = (apart g f (whomN g f)).toInt - 1 := by
    rw [sub_I (by rw [e1, ha]; split <;> omega) (by rw [e1, ha]; split <;> omega), e1]
  have s1 := sub_I (x := its g f 2) (y := r) (by omega) (by omega)
  have s2 := add_I (x := its g f 2) (y := r) (by omega) (by omega)
  have s3 := add_I (x := its g (whomN g f) 2) (y := 1) (by omega) (by omega)
  have s4 := sub_I (x := its g (whomN g f) 2) (y := 1) (by omega) (by omega)
  unfold columnBy
  rw [if_neg (show ¬ its g f 5 = 2 by rw [h1]; decide)]
  apply Int32.toInt_inj.mp
  by_cases q : its g (whomN g f) 2 ≤ its g f 2
  · rw [if_pos q, if_neg (show ¬ its g f 2 < its g (whomN g f) 2 from Int32.not_lt.mpr q)]
    rw [le_I] at q
    rw [if_neg (by omega)] at ha
    by_cases z : r < apart g f (whomN g f) - 1
    · rw [if_pos z]
      rw [lt_I, ea] at z
      by_cases y : its g f 2 - r < its g (whomN g f) 2 + 1
      · rw [lt_I, s1, s3] at y; omega
      · rw [if_neg y]
    · rw [if_neg z]
      rw [lt_I, ea] at z
      have s5 := sub_I (x := its g f 2) (y := apart g f (whomN g f) - 1) (by omega) (by omega)
      rw [s5, ea]
      by_cases y : its g f 2 - r < its g (whomN g f) 2 + 1
      · rw [if_pos y, s3]; omega
      · rw [if_neg y]; rw [lt_I, s1, s3] at y; rw [s1]; omega
  · rw [if_neg q, if_pos (show its g f 2 < its g (whomN g f) 2 from Int32.not_le.mp q)]
    rw [le_I] at q
    rw [if_pos (by omega)] at ha
    by_cases z : r < apart g f (whomN g f) - 1
    · rw [if_pos z]
      rw [lt_I, ea] at z
      by_cases y : its g (whomN g f) 2 - 1 < its g f 2 + r
      · rw [lt_I, s4, s2] at y; omega
      · rw [if_neg y]
    · rw [if_neg z]
      rw [lt_I, ea] at z
      have s5 := add_I (x := its g f 2) (y := apart g f (whomN g f) - 1) (by omega) (by omega)
      rw [s5, ea]
      by_cases y : its g (whomN g f) 2 - 1 < its g f 2 + r
      · rw [if_pos y, s4]; omega
      · rw [if_neg y]; rw [lt_I, s4, s2] at y; rw [s2]; omega
theorem far_col {g : Nat → Int32} {n f : Nat} {r : Int32} (hI : Inv g n) (hf : f < n) (h2 : its g f 5 = 2) (hr : rng r 0 16) :
    (if its g f 2 ≤ its g (whomN g f) 2 then (if its g f 2 - r < 0 then 0 else its g f 2 - r) else (if 19 < its g f 2 + r then 19 else its g f 2 + r)) = columnBy g f r := by
  obtain ⟨-, -, hcol, -⟩ := hI.2.2.2 f hf
  have e0 : (0 : Int32).toInt = 0 := by decide
  have e9 : (19 : Int32).toInt = 19 := by decide
  unfold rng at hcol hr
  have s1 := sub_I (x := its g f 2) (y := r) (by omega) (by omega)
  have s2 := add_I (x := its g f 2) (y := r) (by omega) (by omega)
  unfold columnBy
  rw [if_pos h2]
  unfold heldI
  by_cases q : its g f 2 ≤ its g (whomN g f) 2
  · rw [if_pos q, if_pos q]
    by_cases z : its g f 2 - r < 0
    · rw [if_pos z, if_pos z]
    · rw [if_neg z, if_neg z, if_neg (by rw [lt_I, s1]; omega)]
  · rw [if_neg q, if_neg q, if_neg (show ¬ its g f 2 + r < 0 by rw [lt_I, s2]; omega)]
