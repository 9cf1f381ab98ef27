/-! the text, in pure words: d bytes tp; a token is its first place f, its end tkE f, the next one's place nxt f -/
def byt (tp : Nat → Int32) (d k : Nat) : Int32 := if k < d then tp k else -1
def isLet (b : Int32) : Bool := inI b 97 122
def isDig (b : Int32) : Bool := inI b 48 57
def skp (tp : Nat → Int32) (d i : Nat) : Nat := if _h : i < d ∧ tp i = 32 then skp tp d (i + 1) else i
termination_by d - i
def scn (p : Int32 → Bool) (tp : Nat → Int32) (d i : Nat) : Nat := if _h : i < d ∧ p (tp i) = true then scn p tp d (i + 1) else i
termination_by d - i
def tkE (tp : Nat → Int32) (d f : Nat) : Nat := if f < d then (if isLet (tp f) then scn isLet tp d (f + 1) else if isDig (tp f) then scn isDig tp d (f + 1) else f + 1) else f
def nxt (tp : Nat → Int32) (d f : Nat) : Nat := skp tp d (tkE tp d f)
theorem byt_lt {tp : Nat → Int32} {d k : Nat} (h : k < d) : byt tp d k = tp k := if_pos h
theorem byt_ge {tp : Nat → Int32} {d k : Nat} (h : ¬ k < d) : byt tp d k = -1 := if_neg h
theorem let_m1 : isLet (-1) = false := by decide
theorem dig_m1 : isDig (-1) = false := by decide
theorem byt_sp {tp : Nat → Int32} {d i : Nat} (h : byt tp d i = 32) : i < d ∧ skp tp d i = skp tp d (i + 1) := by
  by_cases q : i < d
  · rw [byt_lt q] at h
    refine ⟨q, ?_⟩
    rw [skp, dif_pos ⟨q, h⟩]
  · rw [byt_ge q] at h
    exact absurd h (by decide)
theorem byt_ns {tp : Nat → Int32} {d i : Nat} (h : ¬ byt tp d i = 32) : skp tp d i = i := by
  rw [skp, dif_neg]
  rintro ⟨q, z⟩
  rw [byt_lt q] at h
  exact h z
theorem skp_ge {tp : Nat → Int32} {d : Nat} : ∀ {i : Nat}, i ≤ d → i ≤ skp tp d i ∧ skp tp d i ≤ d := by
  have key : ∀ (m i : Nat), d - i ≤ m → i ≤ d → i ≤ skp tp d i ∧ skp tp d i ≤ d := by
    intro m
    induction m with
    | zero =>
      intro i hm hi
      rw [skp, dif_neg (by omega)]
      omega
    | succ m ih =>
      intro i hm hi
      rw [skp]
      split
      · rename_i h
        have := ih (i + 1) (by omega) (by omega)
        omega
      · omega
  intro i hi
  exact key (d - i) i (Nat.le_refl _) hi
theorem scn_ge {p : Int32 → Bool} {tp : Nat → Int32} {d : Nat} : ∀ {i : Nat}, i ≤ d → i ≤ scn p tp d i ∧ scn p tp d i ≤ d ∧ ∀ j, i ≤ j → j < scn p tp d i → p (tp j) = true := by
  have key : ∀ (m i : Nat), d - i ≤ m → i ≤ d → i ≤ scn p tp d i ∧ scn p tp d i ≤ d ∧ ∀ j, i ≤ j → j < scn p tp d i → p (tp j) = true := by
    intro m
    induction m with
    | zero =>
      intro i hm hi
      rw [scn, dif_neg (by omega)]
      exact ⟨Nat.le_refl _, hi, fun j h1 h2 => by omega⟩
    | succ m ih =>
      intro i hm hi
      rw [scn]
      split
      · rename_i h
        obtain ⟨a1, a2, a3⟩ := ih (i + 1) (by omega) (by omega)
        refine ⟨by omega, a2, fun j h1 h2 => ?_⟩
        by_cases e : j = i
        · rw [e]; exact h.2
        · exact a3 j (by omega) h2
      · exact ⟨Nat.le_refl _, hi, fun j h1 h2 => by omega⟩
  intro i hi
  exact key (d - i) i (Nat.le_refl _) hi
theorem tkE_ge {tp : Nat → Int32} {d f : Nat} (h : f ≤ d) : f ≤ tkE tp d f ∧ tkE tp d f ≤ d := by
  unfold tkE
  by_cases q : f < d
  · rw [if_pos q]
    split
    · have := scn_ge (p := isLet) (tp := tp) (d := d) (i := f + 1) (by omega); omega
    · split
      · have := scn_ge (p := isDig) (tp := tp) (d := d) (i := f + 1) (by omega); omega
      · omega
  · rw [if_neg q]; omega
theorem tkE_gt {tp : Nat → Int32} {d f : Nat} (q : f < d) : f < tkE tp d f := by
  unfold tkE
  rw [if_pos q]
  split
  · have := scn_ge (p := isLet) (tp := tp) (d := d) (i := f + 1) (by omega); omega
  · split
    · have := scn_ge (p := isDig) (tp := tp) (d := d) (i := f + 1) (by omega); omega
    · omega
theorem skp_le {tp : Nat → Int32} {d i : Nat} (h : i ≤ d) : skp tp d i ≤ d := (skp_ge h).2
theorem tkE_le {tp : Nat → Int32} {d f : Nat} (h : f ≤ d) : tkE tp d f ≤ d := (tkE_ge h).2
theorem nxt_le {tp : Nat → Int32} {d f : Nat} (h : f ≤ d) : nxt tp d f ≤ d := skp_le (tkE_le h)
theorem nxt_ge {tp : Nat → Int32} {d f : Nat} (h : f ≤ d) : f ≤ nxt tp d f := Nat.le_trans (tkE_ge h).1 (skp_ge (tkE_le h)).1
theorem nxt_gt {tp : Nat → Int32} {d f : Nat} (h : f < d) : f < nxt tp d f := Nat.lt_of_lt_of_le (tkE_gt h) (skp_ge (tkE_le (by omega))).1
theorem let_lt {tp : Nat → Int32} {d f : Nat} (h : isLet (byt tp d f) = true) : f < d := by
  by_cases q : f < d
  · exact q
  · rw [byt_ge q] at h; exact absurd h (by decide)
theorem dig_lt {tp : Nat → Int32} {d f : Nat} (h : isDig (byt tp d f) = true) : f < d := by
  by_cases q : f < d
  · exact q
  · rw [byt_ge q] at h; exact absurd h (by decide)
theorem let_rng {b : Int32} (h : isLet b = true) : 97 ≤ b.toInt ∧ b.toInt ≤ 122 := by
  unfold isLet inI at h
  have h := of_decide_eq_true h
  rw [le_I, le_I] at h
  exact h
theorem dig_rng {b : Int32} (h : isDig b = true) : 48 ≤ b.toInt ∧ b.toInt ≤ 57 := by
  unfold isDig inI at h
  have h := of_decide_eq_true h
  rw [le_I, le_I] at h
  exact h
theorem let_dig {b : Int32} (h : isLet b = true) : isDig b = false := by
  cases q : isDig b with
  | false => rfl
  | true =>
    have h1 := let_rng h
    have h2 := dig_rng q
    omega
/-- the rest of a token from j on -/
def scR (w n : Bool) (tp : Nat → Int32) (d j : Nat) : Nat := if w then scn isLet tp d j else if n then scn isDig tp d j else j
theorem tk_0 {tp : Nat → Int32} {d f : Nat} (h : f < d) : tkE tp d f = scR (isLet (byt tp d f)) (isDig (byt tp d f)) tp d (f + 1) := by
  unfold tkE scR
  rw [if_pos h, byt_lt h]
theorem tk_1 {tp : Nat → Int32} {d f : Nat} (h : ¬ f < d) : tkE tp d f = scR (isLet (byt tp d f)) (isDig (byt tp d f)) tp d f := by
  unfold tkE scR
  rw [if_neg h, byt_ge h, let_m1, dig_m1]
  rfl
theorem scn_y {p : Int32 → Bool} {tp : Nat → Int32} {d j : Nat} (hp : p (-1) = false) (h : p (byt tp d j) = true) : j < d ∧ scn p tp d j = scn p tp d (j + 1) := by
  by_cases q : j < d
  · rw [byt_lt q] at h
    refine ⟨q, ?_⟩
    rw [scn, dif_pos ⟨q, h⟩]
  · rw [byt_ge q, hp] at h
    cases h
theorem scn_n {p : Int32 → Bool} {tp : Nat → Int32} {d j : Nat} (h : p (byt tp d j) = false) : scn p tp d j = j := by
  rw [scn, dif_neg]
  rintro ⟨q, z⟩
  rw [byt_lt q, z] at h
  cases h
theorem scR_let {b : Int32} {tp : Nat → Int32} {d j : Nat} (h1 : isLet b = true) (h2 : isLet (byt tp d j) = true) : j < d ∧ scR (isLet b) (isDig b) tp d j = scR (isLet b) (isDig b) tp d (j + 1) := by
  obtain ⟨q, e⟩ := scn_y let_m1 h2
  unfold scR
  rw [h1, if_pos rfl, if_pos rfl]
  exact ⟨q, e⟩
theorem scR_dig {b : Int32} {tp : Nat → Int32} {d j : Nat} (h1 : isDig b = true) (h2 : isDig (byt tp d j) = true) : j < d ∧ scR (isLet b) (isDig b) tp d j = scR (isLet b) (isDig b) tp d (j + 1) := by
  obtain ⟨q, e⟩ := scn_y dig_m1 h2
  have hl : isLet b = false := by
    cases z : isLet b with
    | false => rfl
    | true => exact absurd ((let_dig z).symm.trans h1) (by decide)
  unfold scR
  rw [hl, h1]
  exact ⟨q, e⟩
theorem scR_end {b : Int32} {tp : Nat → Int32} {d j : Nat} (h1 : isLet b = false ∨ isLet (byt tp d j) = false) (h2 : isDig b = false ∨ isDig (byt tp d j) = false) : scR (isLet b) (isDig b) tp d j = j := by
  unfold scR
  cases z : isLet b with
  | true =>
    rw [if_pos rfl]
    exact scn_n (h1.resolve_left (by rw [z]; decide))
  | false =>
    rw [if_neg (by decide)]
    cases y : isDig b with
    | true =>
      rw [if_pos rfl]
      exact scn_n (h2.resolve_left (by rw [y]; decide))
    | false => rw [if_neg (by decide)]
theorem tk_let {tp : Nat → Int32} {d f j : Nat} (h : isLet (byt tp d f) = true) (h1 : f ≤ j) (h2 : j < tkE tp d f) : isLet (tp j) = true := by
  have q := let_lt h
  rw [byt_lt q] at h
  unfold tkE at h2
  rw [if_pos q, if_pos h] at h2
  by_cases e : j = f
  · rw [e]; exact h
  · exact (scn_ge (p := isLet) (tp := tp) (d := d) (i := f + 1) (by omega)).2.2 j (by omega) h2
theorem tk_dig {tp : Nat → Int32} {d f j : Nat} (h : isDig (byt tp d f) = true) (h1 : f ≤ j) (h2 : j < tkE tp d f) : isDig (tp j) = true := by
  have q := dig_lt h
  rw [byt_lt q] at h
  have hl : isLet (tp f) = false := by
    cases z : isLet (tp f) with
    | false => rfl
    | true => exact absurd ((let_dig z).symm.trans h) (by decide)
  unfold tkE at h2
  rw [if_pos q, hl, if_neg (by decide), if_pos h] at h2
  by_cases e : j = f
  · rw [e]; exact h
  · exact (scn_ge (p := isDig) (tp := tp) (d := d) (i := f + 1) (by omega)).2.2 j (by omega) h2
/-! numbers -/
def numI (tp : Nat → Int32) (f : Nat) : Nat → Int32
  | 0 => 0
  | k + 1 => if numI tp f k ≤ 999 then 10 * numI tp f k + tp (f + k) - 48 else numI tp f k
def capI (tp : Nat → Int32) (f : Nat) : Nat → Int32
  | 0 => 0
  | k + 1 => if 1000 < 10 * capI tp f k + tp (f + k) - 48 then 1000 else 10 * capI tp f k + tp (f + k) - 48
theorem num_t {tp : Nat → Int32} {f k : Nat} (h : numI tp f k ≤ 999) : 10 * numI tp f k + tp (f + k) - 48 = numI tp f (k + 1) := by rw [numI, if_pos h]
theorem num_f {tp : Nat → Int32} {f k : Nat} (h : ¬ numI tp f k ≤ 999) : numI tp f k = numI tp f (k + 1) := by rw [numI, if_neg h]
theorem num_s {v b : Int32} (h1 : 0 ≤ v.toInt) (h2 : v.toInt ≤ 1000) (hb : isDig b = true) : (10 * v + b - 48).toInt = 10 * v.toInt + b.toInt - 48 := by
  have hr := dig_rng hb
  have e10 : (10 : Int32).toInt = 10 := by decide
  have e48 : (48 : Int32).toInt = 48 := by decide
  have m : (10 * v).toInt = 10 * v.toInt := by
    rw [mul_I (by rw [e10]; omega) (by rw [e10]; omega), e10]
  have a : (10 * v + b).toInt = 10 * v.toInt + b.toInt := by
    rw [add_I (by rw [m]; omega) (by rw [m]; omega), m]
  rw [sub_I (by rw [a, e48]; omega) (by rw [a, e48]; omega), a, e48]
theorem num_cap {tp : Nat → Int32} {f : Nat} : ∀ {k : Nat}, (∀ j, j < k → isDig (tp (f + j)) = true) → 0 ≤ (numI tp f k).toInt ∧ (numI tp f k).toInt ≤ 9999 ∧ capI tp f k = if numI tp f k ≤ 999 then numI tp f k else 1000
  | 0, _ => ⟨by rw [numI]; decide, by rw [numI]; decide, by rw [numI, if_pos (by decide)]; rfl⟩
  | k + 1, h => by
    obtain ⟨h1, h2, h3⟩ := num_cap (k := k) (fun j hj => h j (by omega))
    have hd := h k (by omega)
    have hr := dig_rng hd
    have e9 : (999 : Int32).toInt = 999 := by decide
    have ek : (1000 : Int32).toInt = 1000 := by decide
    by_cases q : numI tp f k ≤ 999
    · have q' := q
      rw [le_I, e9] at q'
      have e := num_s h1 (by omega) hd
      rw [if_pos q] at h3
      have e2 : numI tp f (k + 1) = 10 * numI tp f k + tp (f + k) - 48 := by rw [numI, if_pos q]
      have e3 : capI tp f (k + 1) = if 1000 < numI tp f (k + 1) then 1000 else numI tp f (k + 1) := by rw [capI, h3, ← e2]
      refine ⟨by rw [e2, e]; omega, by rw [e2, e]; omega, ?_⟩
      rw [e3]
      by_cases z : numI tp f (k + 1) ≤ 999
      · rw [if_pos z, if_neg]
        rw [lt_I, ek]; rw [le_I, e9] at z; omega
      · rw [if_neg z]
        rw [le_I, e9] at z
        by_cases y : 1000 < numI tp f (k + 1)
        · rw [if_pos y]
        · rw [if_neg y]
          rw [lt_I, ek] at y
          exact Int32.toInt_inj.mp (by rw [ek]; omega)
    · rw [if_neg q] at h3
      have e2 : numI tp f (k + 1) = numI tp f k := by rw [numI, if_neg q]
      refine ⟨by rw [e2]; exact h1, by rw [e2]; exact h2, ?_⟩
      rw [e2, if_neg q, capI, h3]
      have e := num_s (v := 1000) (b := tp (f + k)) (by decide) (by decide) hd
      rw [if_pos]
      rw [lt_I, e, ek]; omega
def numV (tp : Nat → Int32) (d f : Nat) : Int32 := numI tp f (tkE tp d f - f)
def numT (tp : Nat → Int32) (d f : Nat) (hi : Int32) : Bool := isDig (byt tp d f) && inI (numV tp d f) 0 hi
def capV (tp : Nat → Int32) (d f : Nat) : Int32 := if isDig (byt tp d f) then capI tp f (tkE tp d f - f) else 0
theorem cap_eq {tp : Nat → Int32} {d f : Nat} {hi : Int32} (h : isDig (byt tp d f) = true) (hh : hi ≤ 999) : (capV tp d f ≤ hi ↔ numT tp d f hi = true) ∧ (numT tp d f hi = true → capV tp d f = numV tp d f) := by
  obtain ⟨h1, h2, h3⟩ := num_cap (tp := tp) (f := f) (k := tkE tp d f - f) (fun j hj => tk_dig h (by omega) (by omega))
  have e0 : (0 : Int32).toInt = 0 := by decide
  have e9 : (999 : Int32).toInt = 999 := by decide
  have ek : (1000 : Int32).toInt = 1000 := by decide
  rw [le_I, e9] at hh
  unfold numT capV numV inI
  rw [h, if_pos rfl, h3]
  simp only [Bool.true_and, decide_eq_true_eq]
  by_cases z : numI tp f (tkE tp d f - f) ≤ 999
  · rw [if_pos z]
    refine ⟨⟨fun q => ⟨?_, q⟩, fun q => q.2⟩, fun _ => rfl⟩
    rw [le_I, e0]; exact h1
  · rw [if_neg z]
    rw [le_I, e9] at z
    refine ⟨⟨fun q => ?_, fun q => ?_⟩, fun q => ?_⟩
    · rw [le_I, ek] at q; omega
    · have := q.2; rw [le_I] at this; omega
    · have := q.2; rw [le_I] at this; omega
theorem numT_n {tp : Nat → Int32} {d f b : Nat} (hb : b < 2147483648) (h : numT tp d f (nI b) = true) : ∃ v, v ≤ b ∧ numV tp d f = nI v := by
  unfold numT at h
  simp only [Bool.and_eq_true] at h
  obtain ⟨k, -, hk, e⟩ := in_nat (a := 0) (b := b) hb h.2 (by omega)
  exact ⟨k, hk, e⟩
theorem numT_f {tp : Nat → Int32} {d f n : Nat} (h8 : n ≤ 8) (h : numT tp d f (nI n - 1) = true) : ∃ v, v < n ∧ numV tp d f = nI v := by
  unfold numT at h
  simp only [Bool.and_eq_true] at h
  exact fig_in h8 h.2
theorem numT_d {tp : Nat → Int32} {d f : Nat} {hi : Int32} (h : numT tp d f hi = true) : isDig (byt tp d f) = true ∧ inI (numV tp d f) 0 hi = true := by
  unfold numT at h
  simpa only [Bool.and_eq_true] using h
/-! words -/
def codL (tp : Nat → Int32) (f : Nat) : Nat → Int64
  | 0 => 0
  | k + 1 => if codL tp f k ≤ 36028797018963967 then 32 * codL tp f k + (tp (f + k) - 96).toInt64 else codL tp f k
theorem cod_t {tp : Nat → Int32} {f k : Nat} (h : codL tp f k ≤ 36028797018963967) : 32 * codL tp f k + (tp (f + k) - 96).toInt64 = codL tp f (k + 1) := by rw [codL, if_pos h]
theorem cod_f {tp : Nat → Int32} {f k : Nat} (h : ¬ codL tp f k ≤ 36028797018963967) : codL tp f k = codL tp f (k + 1) := by rw [codL, if_neg h]
def wrdL (tp : Nat → Int32) (d f : Nat) : Int64 := if isLet (byt tp d f) then codL tp f (tkE tp d f - f) else 0
def wds : List (List Int32) := [[115, 105, 116, 116, 101, 114], [109, 97, 121, 111, 114], [119, 105, 102, 101], [102, 105, 115, 104, 101, 114], [97, 108, 100, 101, 114, 109, 97, 110], [104, 101, 97, 100], [110, 111, 115, 101], [108, 105, 116], [119, 97, 110, 116, 115], [115, 104, 111, 114, 116, 101, 114], [110, 101, 97, 114, 101, 114], [102, 97, 114, 116, 104, 101, 114], [100, 97, 114, 107], [111, 117, 116], [105, 110], [116, 97, 99, 107, 121]]
def wd (i : Nat) : List Int32 := wds.getD i []
def cds : List Nat := [647647410, 13690354, 763077, 211394738, 47384704046, 267300, 474725, 12596, 24165011, 20685869234, 475056306, 6495543474, 132683, 16052, 302, 21007737]
def isWd (tp : Nat → Int32) (d f i : Nat) : Bool := isLet (byt tp d f) && decide (tkE tp d f - f = (wd i).length) && allF (fun j => decide (tp (f + j) = (wd i).getD j 0)) (wd i).length
def codS (s : Nat → Nat) : Nat → Nat
  | 0 => 0
  | k + 1 => 32 * codS s k + s k
def codN (g : Nat → Nat) : Nat → Nat
  | 0 => 0
  | k + 1 => if codN g k ≤ 36028797018963967 then 32 * codN g k + g k else codN g k
theorem cod_eq {g s : Nat → Nat} : ∀ {n k : Nat}, (∀ j, j < k → 1 ≤ g j ∧ g j ≤ 26) → (∀ j, j < n → 1 ≤ s j ∧ s j ≤ 26) → codS s n ≤ 36028797018963967 → (codN g k = codS s n ↔ k = n ∧ ∀ j, j < n → g j = s j)
  | 0, 0, _, _, _ => ⟨fun _ => ⟨rfl, fun j h => absurd h (Nat.not_lt_zero j)⟩, fun _ => rfl⟩
  | 0, k + 1, hg, _, _ => by
    have h1 := hg k (by omega)
    rw [codN, codS]
    refine ⟨fun h => ?_, fun h => by omega⟩
    split at h <;> omega
  | n + 1, 0, _, hs, _ => by
    have h1 := hs n (by omega)
    rw [codN, codS]
    exact ⟨fun h => by omega, fun h => by omega⟩
  | n + 1, k + 1, hg, hs, hb => by
    have h1 := hg k (by omega)
    have h2 := hs n (by omega)
    rw [codS] at hb
    have ih := cod_eq (g := g) (s := s) (n := n) (k := k) (fun j hj => hg j (by omega)) (fun j hj => hs j (by omega)) (by omega)
    rw [codN, codS]
    by_cases q : codN g k ≤ 36028797018963967
    · rw [if_pos q]
      constructor
      · intro h
        have e1 : codN g k = codS s n := by omega
        have e2 : g k = s n := by omega
        obtain ⟨i1, i2⟩ := ih.mp e1
        refine ⟨by omega, fun j hj => ?_⟩
        by_cases z : j = n
        · rw [z, ← e2, i1]
        · exact i2 j (by omega)
      · rintro ⟨a, b⟩
        have e1 := ih.mpr ⟨by omega, fun j hj => b j (by omega)⟩
        have e2 := b n (by omega)
        rw [e1, show k = n by omega, e2]
    · rw [if_neg q]
      constructor
      · intro h; omega
      · rintro ⟨a, b⟩
        have e1 := ih.mpr ⟨by omega, fun j hj => b j (by omega)⟩
        omega
theorem codN_lt {g : Nat → Nat} : ∀ {k : Nat}, (∀ j, j < k → 1 ≤ g j ∧ g j ≤ 26) → codN g k < 2 ^ 61
  | 0, _ => by rw [codN]; decide
  | k + 1, h => by
    have h1 := h k (by omega)
    have ih := codN_lt (k := k) (fun j hj => h j (by omega))
    rw [codN]
    split <;> omega
def dgt (tp : Nat → Int32) (f j : Nat) : Nat := cl (tp (f + j)) - 96
theorem let_cl {b : Int32} (h : isLet b = true) : (cl b : Int) = b.toInt := by
  have hr := let_rng h
  exact (nI_of1 (x := b) (by omega)).2
theorem codL_N {tp : Nat → Int32} {f : Nat} : ∀ {k : Nat}, (∀ j, j < k → isLet (tp (f + j)) = true) → (codL tp f k).toInt = (codN (dgt tp f) k : Nat)
  | 0, _ => rfl
  | k + 1, h => by
    have ih := codL_N (tp := tp) (f := f) (k := k) (fun j hj => h j (by omega))
    have hd := h k (by omega)
    have hr := let_rng hd
    have hc := let_cl hd
    have hg : ∀ j, j < k + 1 → 1 ≤ dgt tp f j ∧ dgt tp f j ≤ 26 := fun j hj => by
      have r := let_rng (h j hj)
      have c := let_cl (h j hj)
      unfold dgt
      omega
    have hb := codN_lt (g := dgt tp f) (k := k) (fun j hj => hg j (by omega))
    have eC : (36028797018963967 : Int64).toInt = 36028797018963967 := by decide
    have e32 : (32 : Int64).toInt = 32 := by decide
    have e96 : (96 : Int32).toInt = 96 := by decide
    rw [codL, codN]
    by_cases q : codL tp f k ≤ 36028797018963967
    · have q' := q
      rw [Int64.le_iff_toInt_le, eC, ih] at q'
      rw [if_pos q, if_pos (by omega)]
      have e1 : (tp (f + k) - 96).toInt64.toInt = (tp (f + k)).toInt - 96 := by
        rw [Int32.toInt_toInt64, sub_I (by rw [e96]; omega) (by rw [e96]; omega), e96]
      have e2 : (32 * codL tp f k).toInt = 32 * (codN (dgt tp f) k : Nat) := by
        rw [Int64.toInt_mul, e32, ih]
        exact Int.bmod_eq_of_le (by omega) (by omega)
      rw [Int64.toInt_add, e2, e1]
      rw [Int.bmod_eq_of_le (by omega) (by omega)]
      unfold dgt
      omega
    · have q' := q
      rw [Int64.le_iff_toInt_le, eC, ih] at q'
      rw [if_neg q, if_neg (by omega)]
      exact ih
theorem wds_ok : ∀ i, i < 16 → codS (fun j => cl ((wd i).getD j 0) - 96) (wd i).length = cds.getD i 0 ∧ cds.getD i 0 ≤ 36028797018963967 ∧ 0 < cds.getD i 0 ∧ (wd i).length ≤ 8 := by decide +kernel
theorem wds_let : ∀ i, i < 16 → ∀ j, j < (wd i).length → isLet ((wd i).getD j 0) = true := by decide +kernel
theorem allF_iff {p : Nat → Bool} : ∀ {m : Nat}, allF p m = true ↔ ∀ j, j < m → p j = true
  | 0 => ⟨fun _ j h => absurd h (Nat.not_lt_zero j), fun _ => rfl⟩
  | m + 1 => by
    rw [allF, Bool.and_eq_true, allF_iff (m := m)]
    constructor
    · rintro ⟨a, b⟩ j hj
      by_cases e : j = m
      · rw [e]; exact b
      · exact a j (by omega)
    · intro h
      exact ⟨fun j hj => h j (by omega), h m (by omega)⟩
theorem wd_iff {tp : Nat → Int32} {d f : Nat} (i : Nat) (c : Int64) (hi : i < 16) (hc : c.toInt = (cds.getD i 0 : Nat)) : wrdL tp d f = c ↔ isWd tp d f i = true := by
  obtain ⟨w1, w2, w3, w4⟩ := wds_ok i hi
  have wl := wds_let i hi
  have e0 : (0 : Int64).toInt = 0 := by decide
  unfold wrdL isWd
  cases hl : isLet (byt tp d f) with
  | false =>
    rw [if_neg (by decide)]
    constructor
    · intro h
      rw [← h, e0] at hc
      omega
    · intro h; simp at h
  | true =>
    rw [if_pos rfl]
    simp only [Bool.true_and, Bool.and_eq_true, decide_eq_true_eq, allF_iff]
    have hle : ∀ j, j < tkE tp d f - f → isLet (tp (f + j)) = true := fun j hj => tk_let hl (by omega) (by omega)
    have hN := codL_N (tp := tp) (f := f) (k := tkE tp d f - f) hle
    have hg : ∀ j, j < tkE tp d f - f → 1 ≤ dgt tp f j ∧ dgt tp f j ≤ 26 := fun j hj => by
      have r := let_rng (hle j hj)
      have q := let_cl (hle j hj)
      unfold dgt
      omega
    have hs : ∀ j, j < (wd i).length → 1 ≤ (fun j => cl ((wd i).getD j 0) - 96) j ∧ (fun j => cl ((wd i).getD j 0) - 96) j ≤ 26 := fun j hj => by
      have r := let_rng (wl j hj)
      have q := let_cl (wl j hj)
      dsimp only
      omega
    have key := cod_eq (g := dgt tp f) (s := fun j => cl ((wd i).getD j 0) - 96) (n := (wd i).length) (k := tkE tp d f - f) hg hs (by rw [w1]; exact w2)
    have e : codL tp f (tkE tp d f - f) = c ↔ codN (dgt tp f) (tkE tp d f - f) = codS (fun j => cl ((wd i).getD j 0) - 96) (wd i).length := by
      rw [← Int64.toInt_inj, hN, hc, w1]
      omega
    rw [e, key]
    constructor
    · rintro ⟨a, b⟩
      refine ⟨a, fun j hj => ?_⟩
      have h1 := b j hj
      have r := let_rng (wl j hj)
      have q := let_cl (wl j hj)
      have r2 := let_rng (hle j (by omega))
      have q2 := let_cl (hle j (by omega))
      unfold dgt at h1
      exact Int32.toInt_inj.mp (by omega)
    · rintro ⟨a, b⟩
      refine ⟨a, fun j hj => ?_⟩
      unfold dgt
      rw [b j hj]
theorem wd_no {tp : Nat → Int32} {d f : Nat} (i : Nat) (c : Int64) (hi : i < 16) (hc : c.toInt = (cds.getD i 0 : Nat)) (h : ¬ wrdL tp d f = c) : isWd tp d f i = false := by
  cases q : isWd tp d f i with
  | false => rfl
  | true => exact absurd ((wd_iff i c hi hc).mpr q) h
theorem wd_lt {tp : Nat → Int32} {d f i : Nat} (h : isWd tp d f i = true) : f < d := by
  unfold isWd at h
  simp only [Bool.and_eq_true] at h
  exact let_lt h.1.1
/-! items -/
def kindS (tp : Nat → Int32) (d f : Nat) : Int32 := if isWd tp d f 0 then 0 else if isWd tp d f 1 then 1 else if isWd tp d f 2 then 2 else if isWd tp d f 3 then 3 else if isWd tp d f 4 then 4 else if isWd tp d f 5 then 5 else -1
def wantS (tp : Nat → Int32) (d f : Nat) : Int32 := if isWd tp d f 9 then 0 else if isWd tp d f 10 then 1 else if isWd tp d f 11 then 2 else if isWd tp d f 12 then 3 else if isWd tp d f 7 then 4 else -1
abbrev PR : Type := Nat ⊕ ((Nat → Int32) × Nat × Nat)
def litI (tp : Nat → Int32) (d : Nat) (g : Nat → Int32) (n f : Nat) : PR := if isWd tp d f 7 then .inr (put9 g n 4 1, n + 1, nxt tp d f) else .inr (g, n + 1, f)
def figI (tp : Nat → Int32) (d : Nat) (g : Nat → Int32) (n f : Nat) (k : Int32) : PR :=
  if n < 8 then
    (if numT tp d (nxt tp d f) 3 then
      (if numT tp d (nxt tp d (nxt tp d f)) 19 then
        (if isWd tp d (nxt tp d (nxt tp d (nxt tp d f))) 6 then
          (if numT tp d (nxt tp d (nxt tp d (nxt tp d (nxt tp d f)))) 99 then
            litI tp d (put9 (addsF g n k (numV tp d (nxt tp d f)) (numV tp d (nxt tp d (nxt tp d f)))) n 3 (numV tp d (nxt tp d (nxt tp d (nxt tp d (nxt tp d f)))))) n (nxt tp d (nxt tp d (nxt tp d (nxt tp d (nxt tp d f)))))
          else .inl (nxt tp d (nxt tp d (nxt tp d (nxt tp d f)))))
        else litI tp d (addsF g n k (numV tp d (nxt tp d f)) (numV tp d (nxt tp d (nxt tp d f)))) n (nxt tp d (nxt tp d (nxt tp d f))))
      else .inl (nxt tp d (nxt tp d f)))
    else .inl (nxt tp d f))
  else .inl f
def wantsI (tp : Nat → Int32) (d : Nat) (g : Nat → Int32) (n f : Nat) : PR :=
  if numT tp d (nxt tp d f) (nI n - 1) then
    (if 0 ≤ wantS tp d (nxt tp d (nxt tp d f)) then
      (if wantS tp d (nxt tp d (nxt tp d f)) = 1 ∨ wantS tp d (nxt tp d (nxt tp d f)) = 2 then
        (if numT tp d (nxt tp d (nxt tp d (nxt tp d f))) (nI n - 1) then
          .inr (put9 (put9 g (cl (numV tp d (nxt tp d f))) 5 (wantS tp d (nxt tp d (nxt tp d f)))) (cl (numV tp d (nxt tp d f))) 6 (numV tp d (nxt tp d (nxt tp d (nxt tp d f)))), n, nxt tp d (nxt tp d (nxt tp d (nxt tp d f))))
        else .inl (nxt tp d (nxt tp d (nxt tp d f))))
      else .inr (put9 g (cl (numV tp d (nxt tp d f))) 5 (wantS tp d (nxt tp d (nxt tp d f))), n, nxt tp d (nxt tp d (nxt tp d f))))
    else .inl (nxt tp d (nxt tp d f)))
  else .inl (nxt tp d f)
def outI (tp : Nat → Int32) (d : Nat) (g : Nat → Int32) (n f : Nat) (o : Int32) : PR :=
  if numT tp d (nxt tp d f) (nI n - 1) then .inr (put9 g (cl (numV tp d (nxt tp d f))) 7 o, n, nxt tp d (nxt tp d f)) else .inl (nxt tp d f)
def tackI (tp : Nat → Int32) (d : Nat) (g : Nat → Int32) (n f : Nat) : PR :=
  if numT tp d (nxt tp d f) 8 then .inr (upd g 2 (numV tp d (nxt tp d f)), n, nxt tp d (nxt tp d f)) else .inl (nxt tp d f)
def itemI (tp : Nat → Int32) (d : Nat) (g : Nat → Int32) (n f : Nat) : PR :=
  if 0 ≤ kindS tp d f then figI tp d g n f (kindS tp d f) else if isWd tp d f 8 then wantsI tp d g n f else if isWd tp d f 13 then outI tp d g n f 1 else if isWd tp d f 14 then outI tp d g n f 0 else if isWd tp d f 15 then tackI tp d g n f else .inl f
