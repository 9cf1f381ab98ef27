def TpI (tp : Nat → Int32) (d : Nat) : Prop := ∀ j, j < d → 0 ≤ tp j
def tokC (b : Int32) : Int32 := if b < 0 then 0 else if isLet b then 1 else if isDig b then 2 else if b = 59 then 3 else 4
theorem tok_c (b : Int32) : (tokC b = 0 ∧ b < 0 ∧ isLet b = false ∧ isDig b = false) ∨ (tokC b = 1 ∧ ¬ b < 0 ∧ isLet b = true ∧ isDig b = false) ∨ (tokC b = 2 ∧ ¬ b < 0 ∧ isLet b = false ∧ isDig b = true) ∨ (tokC b = 3 ∧ ¬ b < 0 ∧ isLet b = false ∧ isDig b = false ∧ b = 59) ∨ (tokC b = 4 ∧ ¬ b < 0 ∧ isLet b = false ∧ isDig b = false ∧ ¬ b = 59) := by
  have e0 : (0 : Int32).toInt = 0 := by decide
  unfold tokC
  by_cases h0 : b < 0
  · left
    refine ⟨if_pos h0, h0, ?_, ?_⟩
    · cases q : isLet b with
      | false => rfl
      | true => have r := let_rng q; rw [lt_I, e0] at h0; omega
    · cases q : isDig b with
      | false => rfl
      | true => have r := dig_rng q; rw [lt_I, e0] at h0; omega
  · right
    rw [if_neg h0]
    cases hl : isLet b with
    | true => left; exact ⟨rfl, h0, rfl, let_dig hl⟩
    | false =>
      right
      cases hd : isDig b with
      | true => left; exact ⟨rfl, h0, rfl, rfl⟩
      | false =>
        right
        by_cases h9 : b = 59
        · left; exact ⟨by rw [if_neg (by decide), if_neg (by decide), if_pos h9], h0, rfl, rfl, h9⟩
        · right; exact ⟨by rw [if_neg (by decide), if_neg (by decide), if_neg h9], h0, rfl, rfl, h9⟩
theorem tok_1 {b : Int32} : tokC b = 1 ↔ isLet b = true := by
  rcases tok_c b with ⟨e, -, h, -⟩ | ⟨e, -, h, -⟩ | ⟨e, -, h, -⟩ | ⟨e, -, h, -⟩ | ⟨e, -, h, -⟩ <;> rw [e, h] <;> decide
theorem tok_2 {b : Int32} : tokC b = 2 ↔ isDig b = true := by
  rcases tok_c b with ⟨e, -, -, h⟩ | ⟨e, -, -, h⟩ | ⟨e, -, -, h⟩ | ⟨e, -, -, h, -⟩ | ⟨e, -, -, h, -⟩ <;> rw [e, h] <;> decide
theorem byt_pos {tp : Nat → Int32} {d k : Nat} (hT : TpI tp d) : byt tp d k < 0 ↔ ¬ k < d := by
  constructor
  · intro h q
    rw [byt_lt q] at h
    exact absurd h (Int32.not_lt.mpr (hT k q))
  · intro q
    rw [byt_ge q]
    decide
theorem tok_0 {tp : Nat → Int32} {d k : Nat} (hT : TpI tp d) : tokC (byt tp d k) = 0 ↔ ¬ k < d := by
  rw [← byt_pos hT]
  rcases tok_c (byt tp d k) with ⟨e, h, -⟩ | ⟨e, h, -⟩ | ⟨e, h, -⟩ | ⟨e, h, -⟩ | ⟨e, h, -⟩
  · exact ⟨fun _ => h, fun _ => e⟩
  all_goals exact ⟨fun z => absurd (e.symm.trans z) (by decide), fun z => absurd z h⟩
theorem tok_3 {tp : Nat → Int32} {d k : Nat} (hk : k < d) : tokC (byt tp d k) = 3 ↔ tp k = 59 := by
  rw [byt_lt hk]
  rcases tok_c (tp k) with ⟨e, h, -⟩ | ⟨e, -, h, -⟩ | ⟨e, -, -, h⟩ | ⟨e, -, -, -, h⟩ | ⟨e, -, -, -, h⟩
  · refine ⟨fun z => absurd (e.symm.trans z) (by decide), fun z => ?_⟩
    rw [z] at h; exact absurd h (by decide)
  · refine ⟨fun z => absurd (e.symm.trans z) (by decide), fun z => ?_⟩
    rw [z] at h; exact absurd h (by decide)
  · refine ⟨fun z => absurd (e.symm.trans z) (by decide), fun z => ?_⟩
    rw [z] at h; exact absurd h (by decide)
  · exact ⟨fun _ => h, fun _ => e⟩
  · exact ⟨fun z => absurd (e.symm.trans z) (by decide), fun z => absurd z h⟩
theorem adv_sg {tp : Nat → Int32} {d f : Nat} (hT : TpI tp d) (h : tokC (byt tp d f) = 3 ∨ tokC (byt tp d f) = 4) : tkE tp d f = f + 1 ∧ capV tp d f = 0 := by
  have hn : f < d := by
    by_cases q : f < d
    · exact q
    · have h0 := (tok_0 hT).mpr q
      rw [h0] at h
      exact absurd h (by decide)
  have hh : isLet (byt tp d f) = false ∧ isDig (byt tp d f) = false := by
    rcases tok_c (byt tp d f) with ⟨e, h1, h2, h3⟩ | ⟨e, h1, h2, h3⟩ | ⟨e, h1, h2, h3⟩ | ⟨e, h1, h2, h3, -⟩ | ⟨e, h1, h2, h3, -⟩
    · exact ⟨h2, h3⟩
    · rw [e] at h; exact absurd h (by decide)
    · rw [e] at h; exact absurd h (by decide)
    · exact ⟨h2, h3⟩
    · exact ⟨h2, h3⟩
  refine ⟨?_, by rw [capV, hh.2]; rfl⟩
  rw [byt_lt hn] at hh
  unfold tkE
  rw [if_pos hn, hh.1, hh.2]
  rfl
theorem adv_in {tp : Nat → Int32} {d f : Nat} (hT : TpI tp d) (h3 : ¬ tokC (byt tp d f) = 3) (h4 : ¬ tokC (byt tp d f) = 4) : tkE tp d f = scR (isLet (byt tp d f)) (isDig (byt tp d f)) tp d f := by
  by_cases q : f < d
  · rw [tk_0 q]
    rcases tok_c (byt tp d f) with ⟨e, -⟩ | ⟨e, -, h, -⟩ | ⟨e, -, -, h⟩ | ⟨e, -⟩ | ⟨e, -⟩
    · exact absurd ((tok_0 hT).mp e) (fun z => z q)
    · exact (scR_let h h).2.symm
    · exact (scR_dig h h).2.symm
    · exact absurd e h3
    · exact absurd e h4
  · exact tk_1 q
theorem scR_out {w n : Bool} {tp : Nat → Int32} {d j : Nat} (h : d ≤ j) : scR w n tp d j = j := by
  unfold scR
  cases w with
  | true => rw [if_pos rfl, scn, dif_neg (by omega)]
  | false =>
    rw [if_neg (by decide)]
    cases n with
    | true => rw [if_pos rfl, scn, dif_neg (by omega)]
    | false => rw [if_neg (by decide)]
theorem adv_end {b : Int32} {tp : Nat → Int32} {d j : Nat} (h : ¬ tokC (byt tp d j) = tokC b) : scR (isLet b) (isDig b) tp d j = j := by
  refine scR_end ?_ ?_
  · cases q : isLet b with
    | false => exact Or.inl rfl
    | true =>
      right
      cases z : isLet (byt tp d j) with
      | false => rfl
      | true => exact absurd ((tok_1.mpr z).trans (tok_1.mpr q).symm) h
  · cases q : isDig b with
    | false => exact Or.inl rfl
    | true =>
      right
      cases z : isDig (byt tp d j) with
      | false => rfl
      | true => exact absurd ((tok_2.mpr z).trans (tok_2.mpr q).symm) h
theorem adv_step {b : Int32} {tp : Nat → Int32} {d j : Nat} (hT : TpI tp d) (hj : j < d) (h : tokC (byt tp d j) = tokC b) (h3 : ¬ tokC b = 3) (h4 : ¬ tokC b = 4) : scR (isLet b) (isDig b) tp d j = scR (isLet b) (isDig b) tp d (j + 1) := by
  rcases tok_c b with ⟨e, -⟩ | ⟨e, -, q, -⟩ | ⟨e, -, -, q⟩ | ⟨e, -⟩ | ⟨e, -⟩
  · exact absurd ((tok_0 hT).mp (h.trans e)) (fun z => z hj)
  · exact (scR_let q (tok_1.mp (h.trans e))).2
  · exact (scR_dig q (tok_2.mp (h.trans e))).2
  · exact absurd e h3
  · exact absurd e h4
theorem cap_s {b : Int32} {tp : Nat → Int32} {d f j : Nat} (h : isDig b = true) (hf : f ≤ j) (hj : byt tp d j = tp j) : (if 1000 < 10 * (if isDig b then capI tp f (j - f) else 0) + byt tp d j - 48 then 1000 else 10 * (if isDig b then capI tp f (j - f) else 0) + byt tp d j - 48) = (if isDig b then capI tp f (j + 1 - f) else 0) := by
  rw [if_pos h, if_pos h, hj, show j + 1 - f = (j - f) + 1 by omega, capI, show f + (j - f) = j by omega]
theorem cap_n {b : Int32} {tp : Nat → Int32} {f j : Nat} (h : ¬ isDig b = true) : (if isDig b then capI tp f (j - f) else 0) = (if isDig b then capI tp f (j + 1 - f) else 0) := by
  rw [if_neg h, if_neg h]
