/-! the pure picture: a night is a row of numbers g (0 hour, 1 figures, 2 tacky, then nine a figure), n its figures -/
theorem lc_lt {x y : Int64} (h : lg_cmp x y < 0) : ¬ y ≤ x := Int64.not_le.mpr ((lg_cmp_lt x y).mp h)
theorem lc_nlt {x y : Int64} (h : ¬ lg_cmp x y < 0) : y ≤ x := Int64.not_lt.mp (fun q => h ((lg_cmp_lt x y).mpr q))
theorem lc_ge {x y : Int64} (h : 0 ≤ lg_cmp x y) : y ≤ x := (lg_cmp_ge x y).mp h
theorem lc_nge {x y : Int64} (h : ¬ 0 ≤ lg_cmp x y) : ¬ y ≤ x := fun q => h ((lg_cmp_ge x y).mpr q)
theorem lc_gt {x y : Int64} (h : 0 < lg_cmp x y) : ¬ x ≤ y := Int64.not_le.mpr ((lg_cmp_gt x y).mp h)
theorem lc_ngt {x y : Int64} (h : ¬ 0 < lg_cmp x y) : x ≤ y := Int64.not_lt.mp (fun q => h ((lg_cmp_gt x y).mpr q))
theorem lc_le {x y : Int64} (h : lg_cmp x y ≤ 0) : x ≤ y := (lg_cmp_le x y).mp h
theorem lc_nle {x y : Int64} (h : ¬ lg_cmp x y ≤ 0) : ¬ x ≤ y := fun q => h ((lg_cmp_le x y).mpr q)
theorem lc_eq {x y : Int64} (h : lg_cmp x y = 0) : x = y := (lg_cmp_eq x y).mp h
theorem lc_neq {x y : Int64} (h : ¬ lg_cmp x y = 0) : ¬ x = y := fun q => h ((lg_cmp_eq x y).mpr q)
theorem l_nlt {x y : Int64} : ¬ x < y ↔ y ≤ x := Int64.not_lt
theorem i_lt {x y : Int32} : x < y ↔ ¬ y ≤ x := Int32.not_le.symm
theorem i_nlt {x y : Int32} : ¬ x < y ↔ y ≤ x := Int32.not_lt
theorem i_nle {x y : Int32} : ¬ x ≤ y ↔ y < x := Int32.not_le
/-- ints as longs -/
theorem i2l_le (x y : Int32) : x.toInt64 ≤ y.toInt64 ↔ x ≤ y := by
  rw [Int64.le_iff_toInt_le, Int32.le_iff_toInt_le, Int32.toInt_toInt64, Int32.toInt_toInt64]
def inI (v a b : Int32) : Bool := decide (a ≤ v ∧ v ≤ b)
def inL (v a b : Int64) : Bool := decide (a ≤ v ∧ v ≤ b)
theorem inL_i (v a b : Int32) : inL v.toInt64 a.toInt64 b.toInt64 = inI v a b := by simp only [inL, inI, i2l_le]
def its (g : Nat → Int32) (f w : Nat) : Int32 := g (9 * f + w + 3)
def gal (ho fi ta : Int32) (ce : Nat → Int32) : Nat → Int32
  | 0 => ho
  | 1 => fi
  | 2 => ta
  | k + 3 => ce k
theorem gal_eta (g : Nat → Int32) : gal (g 0) (g 1) (g 2) (fun k => g (k + 3)) = g := funext fun k => by
  match k with
  | 0 => rfl
  | 1 => rfl
  | 2 => rfl
  | k + 3 => rfl
def m8 (x : Int32) : Int32 := x - x / 8 * 8
def m2 (x : Int32) : Int32 := x - x / 2 * 2
def isTk (g : Nat → Int32) : Bool := decide (g 2 ≤ m8 (g 0))
def absI (d : Int32) : Int32 := if d < 0 then 0 - d else d
def apart (g : Nat → Int32) (f o : Nat) : Int32 := absI (its g f 2 - its g o 2)
def besid (g : Nat → Int32) (f o : Nat) : Bool := decide (its g f 1 = its g o 1)
def whomN (g : Nat → Int32) (f : Nat) : Nat := (its g f 6).toNatClampNeg
def withW (g : Nat → Int32) (f : Nat) : Bool := if its g f 6 = -1 then false else if its g f 6 = nI f then false else besid g f (whomN g f)
def content (g : Nat → Int32) (f : Nat) : Bool :=
  if its g f 5 = 0 then decide (its g f 3 ≤ 10)
  else if its g f 5 = 1 then !withW g f || decide (apart g f (whomN g f) ≤ 1)
  else if its g f 5 = 2 then !withW g f || decide (10 ≤ apart g f (whomN g f))
  else if its g f 5 = 3 then decide (its g f 4 = 0) else decide (its g f 4 = 1)
def bitI (n : Nat) : Int32 := 1 <<< (nI n &&& 31)
def setF (p : Nat → Bool) : Nat → Int32
  | 0 => 0
  | n + 1 => setF p n ||| (if p n then bitI n else 0)
def cntF (p : Nat → Bool) : Nat → Nat
  | 0 => 0
  | n + 1 => cntF p n + (if p n then 1 else 0)
def anyF (p : Nat → Bool) : Nat → Bool
  | 0 => false
  | n + 1 => anyF p n || p n
def sumF (p : Nat → Int32) : Nat → Int32
  | 0 => 0
  | n + 1 => sumF p n + p n
theorem setF_t {p : Nat → Bool} {n : Nat} (h : p n = true) : setF p n ||| bitI n = setF p (n + 1) := by simp [setF, h]
theorem setF_f {p : Nat → Bool} {n : Nat} (h : p n = false) : setF p n = setF p (n + 1) := by simp [setF, h]
theorem setF_f0 {p : Nat → Bool} {n : Nat} (h : p n = false) : setF p n ||| 0 = setF p (n + 1) := by simp [setF, h]
theorem cntF_t {p : Nat → Bool} {n : Nat} (h : p n = true) : nI (cntF p n) + 1 = nI (cntF p (n + 1)) := by simp [cntF, h, nI_1]
theorem cntF_f {p : Nat → Bool} {n : Nat} (h : p n = false) : nI (cntF p n) = nI (cntF p (n + 1)) := by simp [cntF, h]
theorem cntF_f0 {p : Nat → Bool} {n : Nat} (h : p n = false) : nI (cntF p n) + 0 = nI (cntF p (n + 1)) := by simp [cntF, h]
theorem anyF_o {p : Nat → Bool} {n : Nat} {b : Bool} (h : p n = b) : b2i (anyF p n) ||| b2i b = b2i (anyF p (n + 1)) := by
  subst h
  rw [anyF]
  cases anyF p n <;> cases p n <;> decide
def lampP (g : Nat → Int32) (f o : Nat) : Bool := besid g f o && decide (its g o 4 = 1) && decide (apart g f o ≤ 3)
def lamps (g : Nat → Int32) (n f : Nat) : Int32 := setF (lampP g f) n
def nearP (g : Nat → Int32) (f o : Nat) : Bool := decide (¬ o = f) && besid g f o
def crossP (g : Nat → Int32) (f o : Nat) : Bool := decide (¬ o = f) && besid g f o && !content g o
def plainR (g : Nat → Int32) : Int32 := if isTk g then 2 else 4
def mayorR (g : Nat → Int32) (f : Nat) : Int32 := plainR g + its g f 3 / 20
def rubs (g : Nat → Int32) (n f : Nat) : Int32 :=
  if its g f 0 = 1 then mayorR g f
  else if its g f 0 = 3 then 0
  else if its g f 0 = 4 then (if isTk g then mayorR g f else 2 * mayorR g f)
  else if its g f 0 = 5 then plainR g + nI (cntF (nearP g f) n)
  else plainR g
def seenO (g : Nat → Int32) (n f : Nat) : Bool := decide (¬ lamps g n f &&& (bitI f ^^^ (-1)) = 0)
def waits (g : Nat → Int32) (n f : Nat) : Bool :=
  if its g f 0 = 1 then seenO g n f
  else if its g f 0 = 2 then decide (m8 (g 0) = 0)
  else if its g f 0 = 3 then true
  else if its g f 0 = 4 then seenO g n f && decide (m2 (m8 (g 0)) = 1)
  else if its g f 0 = 5 then decide (m8 (g 0) = 0) || anyF (crossP g f) n
  else false
def heldI (v a b : Int32) : Int32 := if v < a then a else if b < v then b else v
def columnBy (g : Nat → Int32) (f : Nat) (r : Int32) : Int32 :=
  if its g f 5 = 2 then heldI (if its g f 2 ≤ its g (whomN g f) 2 then its g f 2 - r else its g f 2 + r) 0 19
  else if its g f 2 < its g (whomN g f) 2 then its g f 2 + (if r < apart g f (whomN g f) - 1 then r else apart g f (whomN g f) - 1)
  else its g f 2 - (if r < apart g f (whomN g f) - 1 then r else apart g f (whomN g f) - 1)
def whatW (g : Nat → Int32) (f : Nat) : Nat := if its g f 5 = 0 then 3 else if its g f 5 ≤ 2 then 2 else 4
def thenW (g : Nat → Int32) (n f : Nat) : Int32 :=
  if whatW g f = 3 then heldI (its g f 3 - rubs g n f) 0 99 else if whatW g f = 2 then columnBy g f (rubs g n f) else 1 - its g f 4
def put9 (g : Nat → Int32) (f w : Nat) (v : Int32) : Nat → Int32 := upd g (9 * f + w + 3) v
def worksF (g : Nat → Int32) (n f : Nat) : Nat → Int32 :=
  if 0 < rubs g n f ∧ ¬ thenW g n f = its g f (whatW g f) then put9 (put9 g f (whatW g f) (thenW g n f)) f 8 (heldI (its g f 8 + 1) 0 9999) else g
def stepF (g : Nat → Int32) (n f : Nat) : Nat → Int32 := if its g f 7 = 0 ∧ content g f = false ∧ waits g n f = false then worksF g n f else g
def passF (g : Nat → Int32) (n : Nat) : Nat → (Nat → Int32)
  | 0 => g
  | k + 1 => stepF (passF g n k) n k
def hourF (g : Nat → Int32) (n : Nat) : Nat → Int32 := upd (passF g n n) 0 (passF g n n 0 + 1)
def hoursF (g : Nat → Int32) (n : Nat) : Nat → (Nat → Int32)
  | 0 => g
  | k + 1 => hourF (hoursF g n k) n
def contS (g : Nat → Int32) (n : Nat) : Int32 := setF (content g) n
def contN (g : Nat → Int32) (n : Nat) : Nat := cntF (content g) n
/-- what holds of a night -/
def rng (x : Int32) (a b : Int) : Prop := a ≤ x.toInt ∧ x.toInt ≤ b
def rowOK (g : Nat → Int32) (n f : Nat) : Prop := rng (its g f 0) 0 5 ∧ rng (its g f 1) 0 3 ∧ rng (its g f 2) 0 19 ∧ rng (its g f 3) 0 99 ∧ rng (its g f 4) 0 1 ∧ rng (its g f 5) 0 4 ∧ rng (its g f 6) (-1) ((n : Int) - 1) ∧ rng (its g f 7) 0 1 ∧ rng (its g f 8) 0 9999
def Inv (g : Nat → Int32) (n : Nat) : Prop := n ≤ 8 ∧ g 1 = nI n ∧ rng (g 2) 0 8 ∧ ∀ f, f < n → rowOK g n f
theorem rng_nI {x : Int32} {a b : Int} (h : rng x a b) (ha : 0 ≤ a) : x = nI x.toNatClampNeg ∧ (x.toNatClampNeg : Int) = x.toInt := by
  have h1 : 0 ≤ x.toInt := by unfold rng at h; omega
  obtain ⟨j, hj, rfl⟩ := nI_of (x := x) (by rw [Int32.lt_iff_toInt_lt]; simpa using h1)
  rw [nI_clamp hj, nI_toInt hj]
  exact ⟨rfl, rfl⟩
theorem nI_of1 {x : Int32} (h : 0 ≤ x.toInt) : x = nI x.toNatClampNeg ∧ (x.toNatClampNeg : Int) = x.toInt := by
  obtain ⟨j, hj, rfl⟩ := nI_of (x := x) (by rw [Int32.lt_iff_toInt_lt]; simpa using h)
  rw [nI_clamp hj, nI_toInt hj]
  exact ⟨rfl, rfl⟩
theorem whom_in {g : Nat → Int32} {n f : Nat} (hI : Inv g n) (hf : f < n) (h : ¬ its g f 6 = -1) : its g f 6 = nI (whomN g f) ∧ whomN g f < n := by
  obtain ⟨h8, -, -, hr⟩ := hI
  obtain ⟨-, -, -, -, -, -, hw, -⟩ := hr f hf
  unfold rng at hw
  have hm : (-1 : Int32).toInt = -1 := by decide
  have h0 : 0 ≤ (its g f 6).toInt := by
    rcases Int.lt_or_le (its g f 6).toInt 0 with q | q
    · exact absurd (Int32.toInt_inj.mp (by rw [hm]; omega)) h
    · exact q
  obtain ⟨h1, h2⟩ := nI_of1 h0
  refine ⟨h1, ?_⟩
  unfold whomN
  omega
theorem with_in {g : Nat → Int32} {n f : Nat} (hI : Inv g n) (hf : f < n) (h : withW g f = true) : its g f 6 = nI (whomN g f) ∧ whomN g f < n := by
  refine whom_in hI hf (fun q => ?_)
  rw [withW, if_pos q] at h
  cases h
def isFig (n : Nat) (f : Int32) : Bool := inI f 0 (nI n - 1)
def setOK (n : Nat) (w v : Int32) : Bool :=
  if w = 1 then inI v 0 3 else if w = 2 then inI v 0 19 else if w = 3 then inI v 0 99 else if w = 4 then inI v 0 1 else if w = 5 then inI v 0 4 else if w = 6 then (if v = -1 then true else isFig n v) else if w = 7 then inI v 0 1 else decide (w = 8) && inI v 0 9999
def under (k o : Int32) : Bool := decide (o = 0) || decide (k = o) || (decide (k = 4) && decide (o = 1)) || (decide (k = 5) && decide (o = 2))
def seenP (g : Nat → Int32) (n f : Nat) : Bool := decide (¬ lamps g n f = 0)
def outP (g : Nat → Int32) (f : Nat) : Bool := decide (its g f 7 = 1)
theorem inL_c {v a b : Int32} {a' b' : Int64} (ha : a' = a.toInt64) (hb : b' = b.toInt64) : inL v.toInt64 a' b' = inI v a b := by
  rw [ha, hb, inL_i]
theorem rng01 {x : Int32} (h : rng x 0 1) : x = 0 ∨ x = 1 := by
  obtain ⟨h1, h2⟩ := rng_nI h (by decide)
  unfold rng at h
  have h3 : x.toNatClampNeg = 0 ∨ x.toNatClampNeg = 1 := by omega
  rcases h3 with h3 | h3
  · left; rw [h1, h3]; rfl
  · right; rw [h1, h3]; rfl
theorem outF_s {g : Nat → Int32} {n f : Nat} (hI : Inv g n) (hf : f < n) : setF (outP g) f ||| (its g f 7 <<< (nI f &&& 31)) = setF (outP g) (f + 1) := by
  obtain ⟨-, -, -, -, -, -, -, h7, -⟩ := hI.2.2.2 f hf
  rcases rng01 h7 with h | h
  · rw [← setF_f0 (p := outP g) (n := f) (by simp [outP, h]), h]
    congr 1
    simp
  · rw [← setF_t (p := outP g) (n := f) (by simp [outP, h]), h]
    rfl
