abbrev VX (cI cJ cO : ClassId) (B : Nat → Nat) (gG tG kG : Nat → Int32) (ik le : Int32) (by_ : Nat → Int32) (tk bg en va tn : Int32) (bO sO : Nat → Int32) (nU : Nat → Int64) (fS cW : Nat → Int32) : va_W :=
  VW cI cJ cO B gG tG kG ik le by_ tk bg en va tn (bO 0) (sO 0) (fun j => nU (40 * 0 + j)) (bO 1) (sO 1) (fun j => nU (40 * 1 + j)) (bO 2) (sO 2) (fun j => nU (40 * 2 + j)) (bO 3) (sO 3) (fun j => nU (40 * 3 + j)) fS cW
theorem sh_c (x : Int32) : inI x 0 3 = false ∨ ∃ k, k < 4 ∧ x = nI k := by
  cases h : inI x 0 3 with
  | false => exact Or.inl rfl
  | true =>
    right
    obtain ⟨k, -, hk, rfl⟩ := in_nat (a := 0) (b := 3) (by decide) h (by decide)
    exact ⟨k, by omega, rfl⟩
theorem sh_y {k : Nat} (h : k < 4) : inI (nI k) 0 3 = true := in_mk (a := 0) (b := 3) (by decide) (by omega) (by omega)
theorem shi_in2 {sO : Nat → Int32} {j : Nat} {i : Int32} (h : ShI sO) (hj : j < 4) (c : inI i 0 (sO j - 1) = true) : ∃ q, q < cl (sO j) ∧ i = nI q := by
  obtain ⟨hz, h40⟩ := sh_n h hj
  unfold inI at c
  have c := of_decide_eq_true c
  have h0 : (0 : Int32).toInt = 0 := by decide
  have h1 : (1 : Int32).toInt = 1 := by decide
  have hn : (nI (cl (sO j))).toInt = cl (sO j) := nI_toInt (by omega)
  rw [hz, le_I, le_I, sub_I (by rw [hn, h1]; omega) (by rw [hn, h1]; omega), hn, h1, h0] at c
  obtain ⟨e1, e2⟩ := nI_of1 c.1
  exact ⟨_, by omega, e1⟩
theorem vx_nd (k : Nat) : va_nd [10 + 2 * k, 11 + 2 * k] = true := by
  simp [va_nd]
section VXS
variable {cI cJ cO : ClassId} {B : Nat → Nat} {gG tG kG : Nat → Int32} {ik le : Int32} {by_ : Nat → Int32} {tk bg en va tn : Int32} {bO sO : Nat → Int32} {nU : Nat → Int64} {fS cW : Nat → Int32} {D : va_G} {H : Heap} {A : Nat → Prop} {k : Nat}
theorem vx_o (hk : k < 4) : (VX cI cJ cO B gG tG kG ik le by_ tk bg en va tn bO sO nU fS cW)[10 + 2 * k]? = some (B (10 + 2 * k), .inr (1, [.int (bO k), .int (sO k), .ref (B (11 + 2 * k))])) :=
  match k, hk with
  | 0, _ => rfl
  | 1, _ => rfl
  | 2, _ => rfl
  | 3, _ => rfl
theorem vx_a (hk : k < 4) : (VX cI cJ cO B gG tG kG ik le by_ tk bg en va tn bO sO nU fS cW)[11 + 2 * k]? = some (B (11 + 2 * k), .inl (cJ, 40, .inr (.inl (fun j => nU (40 * k + j))))) :=
  match k, hk with
  | 0, _ => rfl
  | 1, _ => rfl
  | 2, _ => rfl
  | 3, _ => rfl
theorem vx_is {l0 : Int32} (hk : k < 4) (hz : sO k = l0) : [10 + 2 * k, 11 + 2 * k].map (fun i => (VX cI cJ cO B gG tG kG ik le by_ tk bg en va tn bO sO nU fS cW)[i]?) = (SW cJ (B (10 + 2 * k)) (B (11 + 2 * k)) (bO k) l0 (fun j => nU (40 * k + j))).map some := by
  subst hz
  exact congr (congrArg (fun a b => [a, b]) (vx_o hk)) (vx_a hk)
theorem vx_sub {l0 : Int32} (hP : va_P D vwCl (VX cI cJ cO B gG tG kG ik le by_ tk bg en va tn bO sO nU fS cW) H) (hk : k < 4) (hz : sO k = l0) : va_P D vwCl (SW cJ (B (10 + 2 * k)) (B (11 + 2 * k)) (bO k) l0 (fun j => nU (40 * k + j))) H := by
  subst hz
  intro i q hi
  match i, hi with
  | 0, hi => cases hi; exact hP _ _ (vx_o hk)
  | 1, hi => cases hi; exact hP _ _ (vx_a hk)
theorem vx_seta {u nU' : Nat → Int64} (hP : va_P D vwCl ((VX cI cJ cO B gG tG kG ik le by_ tk bg en va tn bO sO nU fS cW).set (11 + 2 * k) (B (11 + 2 * k), .inl (cJ, 40, .inr (.inl u)))) H) (hD : va_D A ((VX cI cJ cO B gG tG kG ik le by_ tk bg en va tn bO sO nU fS cW).set (11 + 2 * k) (B (11 + 2 * k), .inl (cJ, 40, .inr (.inl u))))) (hk : k < 4)
    (h1 : ∀ j, j < 40 → u j = nU' (40 * k + j)) (h2 : ∀ i, i < 4 → ¬ i = k → ∀ j, j < 40 → nU (40 * i + j) = nU' (40 * i + j)) : va_P D vwCl (VX cI cJ cO B gG tG kG ik le by_ tk bg en va tn bO sO nU' fS cW) H ∧ va_D A (VX cI cJ cO B gG tG kG ik le by_ tk bg en va tn bO sO nU' fS cW) :=
  match k, hk with
  | 0, _ => ⟨(((hP.fl 11 (fun j => nU' (40 * 0 + j)) rfl h1).fl 13 (fun j => nU' (40 * 1 + j)) rfl (h2 1 (by decide) (by decide))).fl 15 (fun j => nU' (40 * 2 + j)) rfl (h2 2 (by decide) (by decide))).fl 17 (fun j => nU' (40 * 3 + j)) rfl (h2 3 (by decide) (by decide)), hD.addr rfl⟩
  | 1, _ => ⟨(((hP.fl 11 (fun j => nU' (40 * 0 + j)) rfl (h2 0 (by decide) (by decide))).fl 13 (fun j => nU' (40 * 1 + j)) rfl h1).fl 15 (fun j => nU' (40 * 2 + j)) rfl (h2 2 (by decide) (by decide))).fl 17 (fun j => nU' (40 * 3 + j)) rfl (h2 3 (by decide) (by decide)), hD.addr rfl⟩
  | 2, _ => ⟨(((hP.fl 11 (fun j => nU' (40 * 0 + j)) rfl (h2 0 (by decide) (by decide))).fl 13 (fun j => nU' (40 * 1 + j)) rfl (h2 1 (by decide) (by decide))).fl 15 (fun j => nU' (40 * 2 + j)) rfl h1).fl 17 (fun j => nU' (40 * 3 + j)) rfl (h2 3 (by decide) (by decide)), hD.addr rfl⟩
  | 3, _ => ⟨(((hP.fl 11 (fun j => nU' (40 * 0 + j)) rfl (h2 0 (by decide) (by decide))).fl 13 (fun j => nU' (40 * 1 + j)) rfl (h2 1 (by decide) (by decide))).fl 15 (fun j => nU' (40 * 2 + j)) rfl (h2 2 (by decide) (by decide))).fl 17 (fun j => nU' (40 * 3 + j)) rfl h1, hD.addr rfl⟩
theorem vx_w {b l0 : Int32} {u : Nat → Int64} (hk : k < 4) : wSet (VX cI cJ cO B gG tG kG ik le by_ tk bg en va tn bO sO nU fS cW) [10 + 2 * k, 11 + 2 * k] (SW cJ (B (10 + 2 * k)) (B (11 + 2 * k)) b l0 u) = (VX cI cJ cO B gG tG kG ik le by_ tk bg en va tn (upd bO k b) (upd sO k l0) nU fS cW).set (11 + 2 * k) (B (11 + 2 * k), .inl (cJ, 40, .inr (.inl u))) :=
  match k, hk with
  | 0, _ => rfl
  | 1, _ => rfl
  | 2, _ => rfl
  | 3, _ => rfl
theorem vx_wr {l0 : Int32} {i : Nat} {v : Int64} (hP : va_P D vwCl (wSet (VX cI cJ cO B gG tG kG ik le by_ tk bg en va tn bO sO nU fS cW) [10 + 2 * k, 11 + 2 * k] (SW cJ (B (10 + 2 * k)) (B (11 + 2 * k)) (bO k) l0 (vp_updL (fun j => nU (40 * k + j)) i v))) H) (hD : va_D A (wSet (VX cI cJ cO B gG tG kG ik le by_ tk bg en va tn bO sO nU fS cW) [10 + 2 * k, 11 + 2 * k] (SW cJ (B (10 + 2 * k)) (B (11 + 2 * k)) (bO k) l0 (vp_updL (fun j => nU (40 * k + j)) i v)))) (hk : k < 4) (hz : sO k = l0) (hi : i < 40) :
    va_P D vwCl (VX cI cJ cO B gG tG kG ik le by_ tk bg en va tn bO sO (vp_updL nU (40 * k + i) v) fS cW) H ∧ va_D A (VX cI cJ cO B gG tG kG ik le by_ tk bg en va tn bO sO (vp_updL nU (40 * k + i) v) fS cW) := by
  subst hz
  rw [vx_w hk, ← upd_same bO k, ← upd_same sO k] at hP hD
  refine vx_seta hP hD hk (fun j hj => ?_) (fun i' hi' hne j hj => ?_)
  · unfold vp_updL
    by_cases e : j = i
    · rw [if_pos e, if_pos (by omega)]
    · rw [if_neg e, if_neg (by omega)]
  · unfold vp_updL
    rw [if_neg (by omega)]
theorem vx_lay {b l0 : Int32} (hP : va_P D vwCl (wSet (VX cI cJ cO B gG tG kG ik le by_ tk bg en va tn bO sO nU fS cW) [10 + 2 * k, 11 + 2 * k] (SW cJ (B (10 + 2 * k)) (B (11 + 2 * k)) b l0 (fun _ => 0))) H) (hD : va_D A (wSet (VX cI cJ cO B gG tG kG ik le by_ tk bg en va tn bO sO nU fS cW) [10 + 2 * k, 11 + 2 * k] (SW cJ (B (10 + 2 * k)) (B (11 + 2 * k)) b l0 (fun _ => 0)))) (hk : k < 4) :
    va_P D vwCl (VX cI cJ cO B gG tG kG ik le by_ tk bg en va tn (upd bO k b) (upd sO k l0) (zeroL nU k 40) fS cW) H ∧ va_D A (VX cI cJ cO B gG tG kG ik le by_ tk bg en va tn (upd bO k b) (upd sO k l0) (zeroL nU k 40) fS cW) := by
  rw [vx_w hk] at hP hD
  refine vx_seta hP hD hk (fun j hj => ?_) (fun i' hi' hne j hj => ?_)
  · unfold zeroL
    rw [if_pos (by omega)]
  · unfold zeroL
    rw [if_neg (by omega)]
theorem vx_cpy {x y a b m : Nat} (hP : va_P D vwCl ((VX cI cJ cO B gG tG kG ik le by_ tk bg en va tn bO sO nU fS cW).set (11 + 2 * y) (B (11 + 2 * y), .inl (cJ, 40, .inr (.inl (va_cpy (fun j => nU (40 * x + j)) (fun j => nU (40 * y + j)) a b m))))) H) (hD : va_D A ((VX cI cJ cO B gG tG kG ik le by_ tk bg en va tn bO sO nU fS cW).set (11 + 2 * y) (B (11 + 2 * y), .inl (cJ, 40, .inr (.inl (va_cpy (fun j => nU (40 * x + j)) (fun j => nU (40 * y + j)) a b m)))))) (hx : x < 4) (hy : y < 4) (ha : a + m ≤ 40) (hb : b + m ≤ 40) :
    va_P D vwCl (VX cI cJ cO B gG tG kG ik le by_ tk bg en va tn bO sO (cpyF nU (40 * x + a) (40 * y + b) m) fS cW) H ∧ va_D A (VX cI cJ cO B gG tG kG ik le by_ tk bg en va tn bO sO (cpyF nU (40 * x + a) (40 * y + b) m) fS cW) := by
  refine vx_seta hP hD hy (fun j hj => ?_) (fun i' hi' hne j hj => ?_)
  · unfold va_cpy cpyF
    by_cases e : b ≤ j ∧ j < b + m
    · rw [if_pos e, if_pos (by omega)]
      show nU (40 * x + (a + (j - b))) = nU (40 * x + a + (40 * y + j - (40 * y + b)))
      congr 1; omega
    · rw [if_neg e, if_neg (by omega)]
  · unfold cpyF
    rw [if_neg (by omega)]
end VXS
section
variable {l : Launch} {D : va_G} {cI cJ cO : ClassId} {B : Nat → Nat} {gG tG kG : Nat → Int32} {ik le : Int32} {by_ : Nat → Int32} {tk bg en va tn : Int32} {bO sO : Nat → Int32} {nU : Nat → Int64} {fS cW : Nat → Int32}

set_option maxHeartbeats 4000000 in
set_option maxRecDepth 100000 in
theorem k_X3_sheet (x : Int32) (b : Int32) (v : Int32) : MU l D (tyA cI cJ cO) yX3_sheet cX3_sheet 5 ((some .int)) 2 43 [.ref (B 0), .int x, .int b, .int v] (VX cI cJ cO B gG tG kG ik le by_ tk bg en va tn bO sO nU fS cW) (fun ov w' => ov = some (.int (shtR x b v)) ∧ w' = (VX cI cJ cO B gG tG kG ik le by_ tk bg en va tn (shtB bO x b v) (shtS sO x b v) (shtU nU x b v) (shtT fS x b v) cW)) := by
  refine MU.mk (by decide) (Nat.le_of_ble_eq_true rfl) ?_
  intro p e s m below meth c ls S hr hlk hP hK hD hS hl
  have S : CallFix p m c cX3_sheet 5 s _ WL RX3 := S
  obtain ⟨hx, hb, hml, hown, hts⟩ := id S
  have hl : lv_has ls 5 [(0, .ref (B 0)), (1, .int x), (2, .int b), (3, .int v)] := hl
  refine lv_aload_n hx hb dX3_sheet_0 rfl (lv_at hl 0 rfl) ?_
  refine lv_iload_n hx hb dX3_sheet_1 rfl (lv_at hl 1 rfl) ?_
  rcases sh_c x with hno | ⟨k, hk, rfl⟩
  · refine ro_V (w := (VX cI cJ cO B gG tG kG ik le by_ tk bg en va tn bO sO nU fS cW)) (rest := []) S hK hP (k_X3_sheetAt_no x hno) gv_X3_175 hd_X3_sheetAt ⟨Nat.le_of_ble_eq_true rfl, Nat.le_of_ble_eq_true rfl⟩ 3 rfl rfl rfl rfl hl.1 (lv_room (Nat.le_of_ble_eq_true rfl)) dX3_sheet_2 ⟨Nat.zero_le _, Nat.zero_le _⟩ ?_
    refine W.eq (g2 := F0 m 5 ls [.null]) rfl ?_
    refine lv_astoreN (lv' := [(4, .null), (0, .ref (B 0)), (1, .int x), (2, .int b), (3, .int v)]) hx hb dX3_sheet_5 hl (by decide) rfl (fun ls hl => ?_)
    refine lv_aloadN hx hb dX3_sheet_7 (lv_at hl 0 rfl) ?_
    refine lv_ifnullN (tgt := 34) hx hb dX3_sheet_9 rfl ?_
    refine lv_aload_n hx hb dX3_sheet_34 rfl (lv_at hl 1 rfl) ?_
    refine lv_ldc (v := (-1000000001)) hx hb hown (hts _ wq_X3_51) dX3_sheet_35 ?_
    refine mu_W (w := (VX cI cJ cO B gG tG kG ik le by_ tk bg en va tn bO sO nU fS cW)) (rest := []) S hK hP hD hS (k_X3_finding 0 (-1000000001) (by decide) (by decide)) gv_X3_52 hd_X3_finding ⟨Nat.le_of_ble_eq_true rfl, Nat.le_of_ble_eq_true rfl⟩ 3 rfl rfl rfl rfl hl.1 (lv_room (Nat.le_of_ble_eq_true rfl)) dX3_sheet_37 ⟨Nat.zero_le _, Nat.zero_le _⟩ (fun ov w' H locs hp hP hD hS => ?_)
    obtain ⟨rfl, rfl⟩ := hp
    have hP : va_P D vwCl (VX cI cJ cO B gG tG kG ik le by_ tk bg en va tn bO sO nU (upd fS 0 (fS 0 + 1)) cW) H := hP
    have hD : va_D _ (VX cI cJ cO B gG tG kG ik le by_ tk bg en va tn bO sO nU (upd fS 0 (fS 0 + 1)) cW) := hD
    refine W.eq (g2 := F0 m 40 ls [.int (-1000000001)]) rfl ?_
    have hE : upd fS 0 (fS 0 + 1) = shtT fS x b v := by simp [shtR, shtT, shtB, shtS, shtU, shtW, shtZ, bitsOk, pk_us, bump, put9, b2i, hno, i_lt, -Int32.not_le, -Int32.not_lt]
    have hW : (VX cI cJ cO B gG tG kG ik le by_ tk bg en va tn bO sO nU (upd fS 0 (fS 0 + 1)) cW) = (VX cI cJ cO B gG tG kG ik le by_ tk bg en va tn bO sO nU (shtT fS x b v) cW) := congrArg (fun z => (VX cI cJ cO B gG tG kG ik le by_ tk bg en va tn bO sO nU z cW)) hE
    have hP : va_P D vwCl (VX cI cJ cO B gG tG kG ik le by_ tk bg en va tn bO sO nU (shtT fS x b v) cW) H := Eq.mp (congrArg (fun z => va_P D vwCl z H) hW) hP
    have hD : va_D _ (VX cI cJ cO B gG tG kG ik le by_ tk bg en va tn bO sO nU (shtT fS x b v) cW) := Eq.mp (congrArg (fun z => va_D _ z) hW) hD
    have hE : bO = shtB bO x b v := by simp [shtR, shtT, shtB, shtS, shtU, shtW, shtZ, bitsOk, pk_us, bump, put9, b2i, hno, i_lt, -Int32.not_le, -Int32.not_lt]
    have hW : (VX cI cJ cO B gG tG kG ik le by_ tk bg en va tn bO sO nU (shtT fS x b v) cW) = (VX cI cJ cO B gG tG kG ik le by_ tk bg en va tn (shtB bO x b v) sO nU (shtT fS x b v) cW) := congrArg (fun z => (VX cI cJ cO B gG tG kG ik le by_ tk bg en va tn z sO nU (shtT fS x b v) cW)) hE
    have hP : va_P D vwCl (VX cI cJ cO B gG tG kG ik le by_ tk bg en va tn (shtB bO x b v) sO nU (shtT fS x b v) cW) H := Eq.mp (congrArg (fun z => va_P D vwCl z H) hW) hP
    have hD : va_D _ (VX cI cJ cO B gG tG kG ik le by_ tk bg en va tn (shtB bO x b v) sO nU (shtT fS x b v) cW) := Eq.mp (congrArg (fun z => va_D _ z) hW) hD
    have hE : sO = shtS sO x b v := by simp [shtR, shtT, shtB, shtS, shtU, shtW, shtZ, bitsOk, pk_us, bump, put9, b2i, hno, i_lt, -Int32.not_le, -Int32.not_lt]
    have hW : (VX cI cJ cO B gG tG kG ik le by_ tk bg en va tn (shtB bO x b v) sO nU (shtT fS x b v) cW) = (VX cI cJ cO B gG tG kG ik le by_ tk bg en va tn (shtB bO x b v) (shtS sO x b v) nU (shtT fS x b v) cW) := congrArg (fun z => (VX cI cJ cO B gG tG kG ik le by_ tk bg en va tn (shtB bO x b v) z nU (shtT fS x b v) cW)) hE
    have hP : va_P D vwCl (VX cI cJ cO B gG tG kG ik le by_ tk bg en va tn (shtB bO x b v) (shtS sO x b v) nU (shtT fS x b v) cW) H := Eq.mp (congrArg (fun z => va_P D vwCl z H) hW) hP
    have hD : va_D _ (VX cI cJ cO B gG tG kG ik le by_ tk bg en va tn (shtB bO x b v) (shtS sO x b v) nU (shtT fS x b v) cW) := Eq.mp (congrArg (fun z => va_D _ z) hW) hD
    have hE : nU = shtU nU x b v := by simp [shtR, shtT, shtB, shtS, shtU, shtW, shtZ, bitsOk, pk_us, bump, put9, b2i, hno, i_lt, -Int32.not_le, -Int32.not_lt]
    have hW : (VX cI cJ cO B gG tG kG ik le by_ tk bg en va tn (shtB bO x b v) (shtS sO x b v) nU (shtT fS x b v) cW) = (VX cI cJ cO B gG tG kG ik le by_ tk bg en va tn (shtB bO x b v) (shtS sO x b v) (shtU nU x b v) (shtT fS x b v) cW) := congrArg (fun z => (VX cI cJ cO B gG tG kG ik le by_ tk bg en va tn (shtB bO x b v) (shtS sO x b v) z (shtT fS x b v) cW)) hE
    have hP : va_P D vwCl (VX cI cJ cO B gG tG kG ik le by_ tk bg en va tn (shtB bO x b v) (shtS sO x b v) (shtU nU x b v) (shtT fS x b v) cW) H := Eq.mp (congrArg (fun z => va_P D vwCl z H) hW) hP
    have hD : va_D _ (VX cI cJ cO B gG tG kG ik le by_ tk bg en va tn (shtB bO x b v) (shtS sO x b v) (shtU nU x b v) (shtT fS x b v) cW) := Eq.mp (congrArg (fun z => va_D _ z) hW) hD
    exact mu_iret (VX cI cJ cO B gG tG kG ik le by_ tk bg en va tn (shtB bO x b v) (shtS sO x b v) (shtU nU x b v) (shtT fS x b v) cW) hx hb hr hlk hP hS rfl (⟨congrArg (fun z => some (Value.int z)) (by simp [shtR, shtT, shtB, shtS, shtU, shtW, shtZ, bitsOk, pk_us, bump, put9, b2i, hno, i_lt, -Int32.not_le, -Int32.not_lt]), rfl⟩) dX3_sheet_40
  · have yk : inI (nI k) 0 3 = true := sh_y hk
    have ek : cl (nI k) = k := cl_nI (by omega)
    refine ro_V (w := (VX cI cJ cO B gG tG kG ik le by_ tk bg en va tn bO sO nU fS cW)) (rest := []) S hK hP (k_X3_sheetAt_k k (by omega)) gv_X3_175 hd_X3_sheetAt ⟨Nat.le_of_ble_eq_true rfl, Nat.le_of_ble_eq_true rfl⟩ 3 rfl rfl rfl rfl hl.1 (lv_room (Nat.le_of_ble_eq_true rfl)) dX3_sheet_2 ⟨Nat.zero_le _, Nat.zero_le _⟩ ?_
    refine W.eq (g2 := F0 m 5 ls [.ref (B (10 + 2 * k))]) rfl ?_
    refine lv_astore (lv' := [(4, .ref (B (10 + 2 * k))), (0, .ref (B 0)), (1, .int (nI k)), (2, .int b), (3, .int v)]) hx hb dX3_sheet_5 hl (by decide) rfl (fun ls hl => ?_)
    refine lv_aload hx hb dX3_sheet_7 (lv_at hl 0 rfl) ?_
    refine lv_ifnull hx hb dX3_sheet_9 ?_
    refine lv_iload_n hx hb dX3_sheet_12 rfl (lv_at hl 3 rfl) ?_
    refine lv_if_eq (tgt := 41) hx hb dX3_sheet_13 rfl (fun c13 => ?_) (fun c13 => ?_)
    · refine lv_iload_n hx hb dX3_sheet_41 rfl (lv_at hl 4 rfl) ?_
      refine lv_if_ge (tgt := 52) hx hb dX3_sheet_42 rfl (fun c42 => ?_) (fun c42 => ?_)
      · refine lv_iload_n hx hb dX3_sheet_52 rfl (lv_at hl 4 rfl) ?_
        refine lv_bipush (v := 40) hx hb dX3_sheet_53 rfl ?_
        refine lv_icmp_le (tgt := 65) hx hb dX3_sheet_55 rfl (fun c55 => ?_) (fun c55 => ?_)
        · refine lv_aload hx hb dX3_sheet_65 (lv_at hl 0 rfl) ?_
          refine lv_iload_n hx hb dX3_sheet_67 rfl (lv_at hl 3 rfl) ?_
          refine lv_iload_n hx hb dX3_sheet_68 rfl (lv_at hl 4 rfl) ?_
          refine mu_V (w := (SW cJ (B (10 + 2 * k)) (B (11 + 2 * k)) (bO k) (sO k) (fun z7 => nU (40 * k + z7)))) (rest := []) S hK hP hD hS (k_X1_lay b v) gv_X3_180 hd_X1_lay ⟨Nat.le_of_ble_eq_true rfl, Nat.le_of_ble_eq_true rfl⟩ [10 + 2 * k, 11 + 2 * k] (vx_nd k) (vx_is (k := k) (by omega) (rfl)) 1 rfl rfl rfl rfl hl.1 (lv_room (Nat.le_of_ble_eq_true rfl)) dX3_sheet_69 ⟨Nat.zero_le _, Nat.zero_le _⟩ (fun ov w' H locs hp hP hD hS => ?_)
          obtain ⟨rfl, rfl⟩ := hp
          obtain ⟨hP, hD⟩ := vx_lay (k := k) hP hD (by omega)
          have hP : va_P D vwCl (VX cI cJ cO B gG tG kG ik le by_ tk bg en va tn (upd bO k b) (upd sO k (shtZ b v)) (zeroL nU k 40) fS cW) H := hP
          have hD : va_D _ (VX cI cJ cO B gG tG kG ik le by_ tk bg en va tn (upd bO k b) (upd sO k (shtZ b v)) (zeroL nU k 40) fS cW) := hD
          refine W.eq (g2 := F0 m 72 ls []) rfl ?_
          refine lv_aload hx hb dX3_sheet_72 (lv_at hl 0 rfl) ?_
          refine va_get (ci := 1) (v := .int ((upd sO k (shtZ b v)) k)) hx hb hts wx_X1 hown hK (vx_sub hP (k := k) (by omega) (rfl)) 0 rfl rfl 1 (by decide) (hts _ wf_X3_184) (fun _ h9 => h9) rfl dX3_sheet_74 ?_
          have hE : fS = shtT fS (nI k) b v := by simp [shtR, shtT, shtB, shtS, shtU, shtW, shtZ, bitsOk, pk_us, bump, put9, b2i, c13, c42, c55, yk, ek, i_lt, -Int32.not_le, -Int32.not_lt]
          have hW : (VX cI cJ cO B gG tG kG ik le by_ tk bg en va tn (upd bO k b) (upd sO k (shtZ b v)) (zeroL nU k 40) fS cW) = (VX cI cJ cO B gG tG kG ik le by_ tk bg en va tn (upd bO k b) (upd sO k (shtZ b v)) (zeroL nU k 40) (shtT fS (nI k) b v) cW) := congrArg (fun z => (VX cI cJ cO B gG tG kG ik le by_ tk bg en va tn (upd bO k b) (upd sO k (shtZ b v)) (zeroL nU k 40) z cW)) hE
          have hP : va_P D vwCl (VX cI cJ cO B gG tG kG ik le by_ tk bg en va tn (upd bO k b) (upd sO k (shtZ b v)) (zeroL nU k 40) (shtT fS (nI k) b v) cW) H := Eq.mp (congrArg (fun z => va_P D vwCl z H) hW) hP
          have hD : va_D _ (VX cI cJ cO B gG tG kG ik le by_ tk bg en va tn (upd bO k b) (upd sO k (shtZ b v)) (zeroL nU k 40) (shtT fS (nI k) b v) cW) := Eq.mp (congrArg (fun z => va_D _ z) hW) hD
          have hE : upd bO k b = shtB bO (nI k) b v := by simp [shtR, shtT, shtB, shtS, shtU, shtW, shtZ, bitsOk, pk_us, bump, put9, b2i, c13, c42, c55, yk, ek, i_lt, -Int32.not_le, -Int32.not_lt]
          have hW : (VX cI cJ cO B gG tG kG ik le by_ tk bg en va tn (upd bO k b) (upd sO k (shtZ b v)) (zeroL nU k 40) (shtT fS (nI k) b v) cW) = (VX cI cJ cO B gG tG kG ik le by_ tk bg en va tn (shtB bO (nI k) b v) (upd sO k (shtZ b v)) (zeroL nU k 40) (shtT fS (nI k) b v) cW) := congrArg (fun z => (VX cI cJ cO B gG tG kG ik le by_ tk bg en va tn z (upd sO k (shtZ b v)) (zeroL nU k 40) (shtT fS (nI k) b v) cW)) hE
          have hP : va_P D vwCl (VX cI cJ cO B gG tG kG ik le by_ tk bg en va tn (shtB bO (nI k) b v) (upd sO k (shtZ b v)) (zeroL nU k 40) (shtT fS (nI k) b v) cW) H := Eq.mp (congrArg (fun z => va_P D vwCl z H) hW) hP
          have hD : va_D _ (VX cI cJ cO B gG tG kG ik le by_ tk bg en va tn (shtB bO (nI k) b v) (upd sO k (shtZ b v)) (zeroL nU k 40) (shtT fS (nI k) b v) cW) := Eq.mp (congrArg (fun z => va_D _ z) hW) hD
          have hE : upd sO k (shtZ b v) = shtS sO (nI k) b v := by simp [shtR, shtT, shtB, shtS, shtU, shtW, shtZ, bitsOk, pk_us, bump, put9, b2i, c13, c42, c55, yk, ek, i_lt, -Int32.not_le, -Int32.not_lt]
          have hW : (VX cI cJ cO B gG tG kG ik le by_ tk bg en va tn (shtB bO (nI k) b v) (upd sO k (shtZ b v)) (zeroL nU k 40) (shtT fS (nI k) b v) cW) = (VX cI cJ cO B gG tG kG ik le by_ tk bg en va tn (shtB bO (nI k) b v) (shtS sO (nI k) b v) (zeroL nU k 40) (shtT fS (nI k) b v) cW) := congrArg (fun z => (VX cI cJ cO B gG tG kG ik le by_ tk bg en va tn (shtB bO (nI k) b v) z (zeroL nU k 40) (shtT fS (nI k) b v) cW)) hE
          have hP : va_P D vwCl (VX cI cJ cO B gG tG kG ik le by_ tk bg en va tn (shtB bO (nI k) b v) (shtS sO (nI k) b v) (zeroL nU k 40) (shtT fS (nI k) b v) cW) H := Eq.mp (congrArg (fun z => va_P D vwCl z H) hW) hP
          have hD : va_D _ (VX cI cJ cO B gG tG kG ik le by_ tk bg en va tn (shtB bO (nI k) b v) (shtS sO (nI k) b v) (zeroL nU k 40) (shtT fS (nI k) b v) cW) := Eq.mp (congrArg (fun z => va_D _ z) hW) hD
          have hE : zeroL nU k 40 = shtU nU (nI k) b v := by simp [shtR, shtT, shtB, shtS, shtU, shtW, shtZ, bitsOk, pk_us, bump, put9, b2i, c13, c42, c55, yk, ek, i_lt, -Int32.not_le, -Int32.not_lt]
          have hW : (VX cI cJ cO B gG tG kG ik le by_ tk bg en va tn (shtB bO (nI k) b v) (shtS sO (nI k) b v) (zeroL nU k 40) (shtT fS (nI k) b v) cW) = (VX cI cJ cO B gG tG kG ik le by_ tk bg en va tn (shtB bO (nI k) b v) (shtS sO (nI k) b v) (shtU nU (nI k) b v) (shtT fS (nI k) b v) cW) := congrArg (fun z => (VX cI cJ cO B gG tG kG ik le by_ tk bg en va tn (shtB bO (nI k) b v) (shtS sO (nI k) b v) z (shtT fS (nI k) b v) cW)) hE
          have hP : va_P D vwCl (VX cI cJ cO B gG tG kG ik le by_ tk bg en va tn (shtB bO (nI k) b v) (shtS sO (nI k) b v) (shtU nU (nI k) b v) (shtT fS (nI k) b v) cW) H := Eq.mp (congrArg (fun z => va_P D vwCl z H) hW) hP
          have hD : va_D _ (VX cI cJ cO B gG tG kG ik le by_ tk bg en va tn (shtB bO (nI k) b v) (shtS sO (nI k) b v) (shtU nU (nI k) b v) (shtT fS (nI k) b v) cW) := Eq.mp (congrArg (fun z => va_D _ z) hW) hD
          exact mu_iret (VX cI cJ cO B gG tG kG ik le by_ tk bg en va tn (shtB bO (nI k) b v) (shtS sO (nI k) b v) (shtU nU (nI k) b v) (shtT fS (nI k) b v) cW) hx hb hr hlk hP hS rfl (⟨congrArg (fun z => some (Value.int z)) (by simp [shtR, shtT, shtB, shtS, shtU, shtW, shtZ, bitsOk, pk_us, bump, put9, b2i, c13, c42, c55, yk, ek, i_lt, -Int32.not_le, -Int32.not_lt]), rfl⟩) dX3_sheet_77
        · refine lv_aload_n hx hb dX3_sheet_58 rfl (lv_at hl 1 rfl) ?_
          refine lv_ldc (v := (-1000000001)) hx hb hown (hts _ wq_X3_51) dX3_sheet_59 ?_
          refine mu_W (w := (VX cI cJ cO B gG tG kG ik le by_ tk bg en va tn bO sO nU fS cW)) (rest := []) S hK hP hD hS (k_X3_finding 0 (-1000000001) (by decide) (by decide)) gv_X3_52 hd_X3_finding ⟨Nat.le_of_ble_eq_true rfl, Nat.le_of_ble_eq_true rfl⟩ 3 rfl rfl rfl rfl hl.1 (lv_room (Nat.le_of_ble_eq_true rfl)) dX3_sheet_61 ⟨Nat.zero_le _, Nat.zero_le _⟩ (fun ov w' H locs hp hP hD hS => ?_)
          obtain ⟨rfl, rfl⟩ := hp
          have hP : va_P D vwCl (VX cI cJ cO B gG tG kG ik le by_ tk bg en va tn bO sO nU (upd fS 0 (fS 0 + 1)) cW) H := hP
          have hD : va_D _ (VX cI cJ cO B gG tG kG ik le by_ tk bg en va tn bO sO nU (upd fS 0 (fS 0 + 1)) cW) := hD
          refine W.eq (g2 := F0 m 64 ls [.int (-1000000001)]) rfl ?_
          have hE : upd fS 0 (fS 0 + 1) = shtT fS (nI k) b v := by simp [shtR, shtT, shtB, shtS, shtU, shtW, shtZ, bitsOk, pk_us, bump, put9, b2i, c13, c42, c55, yk, ek, i_lt, -Int32.not_le, -Int32.not_lt]
          have hW : (VX cI cJ cO B gG tG kG ik le by_ tk bg en va tn bO sO nU (upd fS 0 (fS 0 + 1)) cW) = (VX cI cJ cO B gG tG kG ik le by_ tk bg en va tn bO sO nU (shtT fS (nI k) b v) cW) := congrArg (fun z => (VX cI cJ cO B gG tG kG ik le by_ tk bg en va tn bO sO nU z cW)) hE
          have hP : va_P D vwCl (VX cI cJ cO B gG tG kG ik le by_ tk bg en va tn bO sO nU (shtT fS (nI k) b v) cW) H := Eq.mp (congrArg (fun z => va_P D vwCl z H) hW) hP
          have hD : va_D _ (VX cI cJ cO B gG tG kG ik le by_ tk bg en va tn bO sO nU (shtT fS (nI k) b v) cW) := Eq.mp (congrArg (fun z => va_D _ z) hW) hD
          have hE : bO = shtB bO (nI k) b v := by simp [shtR, shtT, shtB, shtS, shtU, shtW, shtZ, bitsOk, pk_us, bump, put9, b2i, c13, c42, c55, yk, ek, i_lt, -Int32.not_le, -Int32.not_lt]
          have hW : (VX cI cJ cO B gG tG kG ik le by_ tk bg en va tn bO sO nU (shtT fS (nI k) b v) cW) = (VX cI cJ cO B gG tG kG ik le by_ tk bg en va tn (shtB bO (nI k) b v) sO nU (shtT fS (nI k) b v) cW) := congrArg (fun z => (VX cI cJ cO B gG tG kG ik le by_ tk bg en va tn z sO nU (shtT fS (nI k) b v) cW)) hE
          have hP : va_P D vwCl (VX cI cJ cO B gG tG kG ik le by_ tk bg en va tn (shtB bO (nI k) b v) sO nU (shtT fS (nI k) b v) cW) H := Eq.mp (congrArg (fun z => va_P D vwCl z H) hW) hP
          have hD : va_D _ (VX cI cJ cO B gG tG kG ik le by_ tk bg en va tn (shtB bO (nI k) b v) sO nU (shtT fS (nI k) b v) cW) := Eq.mp (congrArg (fun z => va_D _ z) hW) hD
          have hE : sO = shtS sO (nI k) b v := by simp [shtR, shtT, shtB, shtS, shtU, shtW, shtZ, bitsOk, pk_us, bump, put9, b2i, c13, c42, c55, yk, ek, i_lt, -Int32.not_le, -Int32.not_lt]
          have hW : (VX cI cJ cO B gG tG kG ik le by_ tk bg en va tn (shtB bO (nI k) b v) sO nU (shtT fS (nI k) b v) cW) = (VX cI cJ cO B gG tG kG ik le by_ tk bg en va tn (shtB bO (nI k) b v) (shtS sO (nI k) b v) nU (shtT fS (nI k) b v) cW) := congrArg (fun z => (VX cI cJ cO B gG tG kG ik le by_ tk bg en va tn (shtB bO (nI k) b v) z nU (shtT fS (nI k) b v) cW)) hE
          have hP : va_P D vwCl (VX cI cJ cO B gG tG kG ik le by_ tk bg en va tn (shtB bO (nI k) b v) (shtS sO (nI k) b v) nU (shtT fS (nI k) b v) cW) H := Eq.mp (congrArg (fun z => va_P D vwCl z H) hW) hP
          have hD : va_D _ (VX cI cJ cO B gG tG kG ik le by_ tk bg en va tn (shtB bO (nI k) b v) (shtS sO (nI k) b v) nU (shtT fS (nI k) b v) cW) := Eq.mp (congrArg (fun z => va_D _ z) hW) hD
          have hE : nU = shtU nU (nI k) b v := by simp [shtR, shtT, shtB, shtS, shtU, shtW, shtZ, bitsOk, pk_us, bump, put9, b2i, c13, c42, c55, yk, ek, i_lt, -Int32.not_le, -Int32.not_lt]
          have hW : (VX cI cJ cO B gG tG kG ik le by_ tk bg en va tn (shtB bO (nI k) b v) (shtS sO (nI k) b v) nU (shtT fS (nI k) b v) cW) = (VX cI cJ cO B gG tG kG ik le by_ tk bg en va tn (shtB bO (nI k) b v) (shtS sO (nI k) b v) (shtU nU (nI k) b v) (shtT fS (nI k) b v) cW) := congrArg (fun z => (VX cI cJ cO B gG tG kG ik le by_ tk bg en va tn (shtB bO (nI k) b v) (shtS sO (nI k) b v) z (shtT fS (nI k) b v) cW)) hE
          have hP : va_P D vwCl (VX cI cJ cO B gG tG kG ik le by_ tk bg en va tn (shtB bO (nI k) b v) (shtS sO (nI k) b v) (shtU nU (nI k) b v) (shtT fS (nI k) b v) cW) H := Eq.mp (congrArg (fun z => va_P D vwCl z H) hW) hP
          have hD : va_D _ (VX cI cJ cO B gG tG kG ik le by_ tk bg en va tn (shtB bO (nI k) b v) (shtS sO (nI k) b v) (shtU nU (nI k) b v) (shtT fS (nI k) b v) cW) := Eq.mp (congrArg (fun z => va_D _ z) hW) hD
          exact mu_iret (VX cI cJ cO B gG tG kG ik le by_ tk bg en va tn (shtB bO (nI k) b v) (shtS sO (nI k) b v) (shtU nU (nI k) b v) (shtT fS (nI k) b v) cW) hx hb hr hlk hP hS rfl (⟨congrArg (fun z => some (Value.int z)) (by simp [shtR, shtT, shtB, shtS, shtU, shtW, shtZ, bitsOk, pk_us, bump, put9, b2i, c13, c42, c55, yk, ek, i_lt, -Int32.not_le, -Int32.not_lt]), rfl⟩) dX3_sheet_64
      · refine lv_aload_n hx hb dX3_sheet_45 rfl (lv_at hl 1 rfl) ?_
        refine lv_ldc (v := (-1000000007)) hx hb hown (hts _ wq_X3_179) dX3_sheet_46 ?_
        refine mu_W (w := (VX cI cJ cO B gG tG kG ik le by_ tk bg en va tn bO sO nU fS cW)) (rest := []) S hK hP hD hS (k_X3_finding 6 (-1000000007) (by decide) (by decide)) gv_X3_52 hd_X3_finding ⟨Nat.le_of_ble_eq_true rfl, Nat.le_of_ble_eq_true rfl⟩ 3 rfl rfl rfl rfl hl.1 (lv_room (Nat.le_of_ble_eq_true rfl)) dX3_sheet_48 ⟨Nat.zero_le _, Nat.zero_le _⟩ (fun ov w' H locs hp hP hD hS => ?_)
        obtain ⟨rfl, rfl⟩ := hp
        have hP : va_P D vwCl (VX cI cJ cO B gG tG kG ik le by_ tk bg en va tn bO sO nU (upd fS 6 (fS 6 + 1)) cW) H := hP
        have hD : va_D _ (VX cI cJ cO B gG tG kG ik le by_ tk bg en va tn bO sO nU (upd fS 6 (fS 6 + 1)) cW) := hD
        refine W.eq (g2 := F0 m 51 ls [.int (-1000000007)]) rfl ?_
        have hE : upd fS 6 (fS 6 + 1) = shtT fS (nI k) b v := by simp [shtR, shtT, shtB, shtS, shtU, shtW, shtZ, bitsOk, pk_us, bump, put9, b2i, c13, c42, yk, ek, i_lt, -Int32.not_le, -Int32.not_lt]
        have hW : (VX cI cJ cO B gG tG kG ik le by_ tk bg en va tn bO sO nU (upd fS 6 (fS 6 + 1)) cW) = (VX cI cJ cO B gG tG kG ik le by_ tk bg en va tn bO sO nU (shtT fS (nI k) b v) cW) := congrArg (fun z => (VX cI cJ cO B gG tG kG ik le by_ tk bg en va tn bO sO nU z cW)) hE
        have hP : va_P D vwCl (VX cI cJ cO B gG tG kG ik le by_ tk bg en va tn bO sO nU (shtT fS (nI k) b v) cW) H := Eq.mp (congrArg (fun z => va_P D vwCl z H) hW) hP
        have hD : va_D _ (VX cI cJ cO B gG tG kG ik le by_ tk bg en va tn bO sO nU (shtT fS (nI k) b v) cW) := Eq.mp (congrArg (fun z => va_D _ z) hW) hD
        have hE : bO = shtB bO (nI k) b v := by simp [shtR, shtT, shtB, shtS, shtU, shtW, shtZ, bitsOk, pk_us, bump, put9, b2i, c13, c42, yk, ek, i_lt, -Int32.not_le, -Int32.not_lt]
        have hW : (VX cI cJ cO B gG tG kG ik le by_ tk bg en va tn bO sO nU (shtT fS (nI k) b v) cW) = (VX cI cJ cO B gG tG kG ik le by_ tk bg en va tn (shtB bO (nI k) b v) sO nU (shtT fS (nI k) b v) cW) := congrArg (fun z => (VX cI cJ cO B gG tG kG ik le by_ tk bg en va tn z sO nU (shtT fS (nI k) b v) cW)) hE
        have hP : va_P D vwCl (VX cI cJ cO B gG tG kG ik le by_ tk bg en va tn (shtB bO (nI k) b v) sO nU (shtT fS (nI k) b v) cW) H := Eq.mp (congrArg (fun z => va_P D vwCl z H) hW) hP
        have hD : va_D _ (VX cI cJ cO B gG tG kG ik le by_ tk bg en va tn (shtB bO (nI k) b v) sO nU (shtT fS (nI k) b v) cW) := Eq.mp (congrArg (fun z => va_D _ z) hW) hD
        have hE : sO = shtS sO (nI k) b v := by simp [shtR, shtT, shtB, shtS, shtU, shtW, shtZ, bitsOk, pk_us, bump, put9, b2i, c13, c42, yk, ek, i_lt, -Int32.not_le, -Int32.not_lt]
        have hW : (VX cI cJ cO B gG tG kG ik le by_ tk bg en va tn (shtB bO (nI k) b v) sO nU (shtT fS (nI k) b v) cW) = (VX cI cJ cO B gG tG kG ik le by_ tk bg en va tn (shtB bO (nI k) b v) (shtS sO (nI k) b v) nU (shtT fS (nI k) b v) cW) := congrArg (fun z => (VX cI cJ cO B gG tG kG ik le by_ tk bg en va tn (shtB bO (nI k) b v) z nU (shtT fS (nI k) b v) cW)) hE
        have hP : va_P D vwCl (VX cI cJ cO B gG tG kG ik le by_ tk bg en va tn (shtB bO (nI k) b v) (shtS sO (nI k) b v) nU (shtT fS (nI k) b v) cW) H := Eq.mp (congrArg (fun z => va_P D vwCl z H) hW) hP
        have hD : va_D _ (VX cI cJ cO B gG tG kG ik le by_ tk bg en va tn (shtB bO (nI k) b v) (shtS sO (nI k) b v) nU (shtT fS (nI k) b v) cW) := Eq.mp (congrArg (fun z => va_D _ z) hW) hD
        have hE : nU = shtU nU (nI k) b v := by simp [shtR, shtT, shtB, shtS, shtU, shtW, shtZ, bitsOk, pk_us, bump, put9, b2i, c13, c42, yk, ek, i_lt, -Int32.not_le, -Int32.not_lt]
        have hW : (VX cI cJ cO B gG tG kG ik le by_ tk bg en va tn (shtB bO (nI k) b v) (shtS sO (nI k) b v) nU (shtT fS (nI k) b v) cW) = (VX cI cJ cO B gG tG kG ik le by_ tk bg en va tn (shtB bO (nI k) b v) (shtS sO (nI k) b v) (shtU nU (nI k) b v) (shtT fS (nI k) b v) cW) := congrArg (fun z => (VX cI cJ cO B gG tG kG ik le by_ tk bg en va tn (shtB bO (nI k) b v) (shtS sO (nI k) b v) z (shtT fS (nI k) b v) cW)) hE
        have hP : va_P D vwCl (VX cI cJ cO B gG tG kG ik le by_ tk bg en va tn (shtB bO (nI k) b v) (shtS sO (nI k) b v) (shtU nU (nI k) b v) (shtT fS (nI k) b v) cW) H := Eq.mp (congrArg (fun z => va_P D vwCl z H) hW) hP
        have hD : va_D _ (VX cI cJ cO B gG tG kG ik le by_ tk bg en va tn (shtB bO (nI k) b v) (shtS sO (nI k) b v) (shtU nU (nI k) b v) (shtT fS (nI k) b v) cW) := Eq.mp (congrArg (fun z => va_D _ z) hW) hD
        exact mu_iret (VX cI cJ cO B gG tG kG ik le by_ tk bg en va tn (shtB bO (nI k) b v) (shtS sO (nI k) b v) (shtU nU (nI k) b v) (shtT fS (nI k) b v) cW) hx hb hr hlk hP hS rfl (⟨congrArg (fun z => some (Value.int z)) (by simp [shtR, shtT, shtB, shtS, shtU, shtW, shtZ, bitsOk, pk_us, bump, put9, b2i, c13, c42, yk, ek, i_lt, -Int32.not_le, -Int32.not_lt]), rfl⟩) dX3_sheet_51
    · refine lv_iload_n hx hb dX3_sheet_16 rfl (lv_at hl 3 rfl) ?_
      refine lv_bipush (v := 8) hx hb dX3_sheet_17 rfl ?_
      refine lv_icmp_eq (tgt := 41) hx hb dX3_sheet_19 rfl (fun c19 => ?_) (fun c19 => ?_)
      · refine lv_iload_n hx hb dX3_sheet_41 rfl (lv_at hl 4 rfl) ?_
        refine lv_if_ge (tgt := 52) hx hb dX3_sheet_42 rfl (fun c42 => ?_) (fun c42 => ?_)
        · refine lv_iload_n hx hb dX3_sheet_52 rfl (lv_at hl 4 rfl) ?_
          refine lv_bipush (v := 40) hx hb dX3_sheet_53 rfl ?_
          refine lv_icmp_le (tgt := 65) hx hb dX3_sheet_55 rfl (fun c55 => ?_) (fun c55 => ?_)
          · refine lv_aload hx hb dX3_sheet_65 (lv_at hl 0 rfl) ?_
            refine lv_iload_n hx hb dX3_sheet_67 rfl (lv_at hl 3 rfl) ?_
            refine lv_iload_n hx hb dX3_sheet_68 rfl (lv_at hl 4 rfl) ?_
            refine mu_V (w := (SW cJ (B (10 + 2 * k)) (B (11 + 2 * k)) (bO k) (sO k) (fun z7 => nU (40 * k + z7)))) (rest := []) S hK hP hD hS (k_X1_lay b v) gv_X3_180 hd_X1_lay ⟨Nat.le_of_ble_eq_true rfl, Nat.le_of_ble_eq_true rfl⟩ [10 + 2 * k, 11 + 2 * k] (vx_nd k) (vx_is (k := k) (by omega) (rfl)) 1 rfl rfl rfl rfl hl.1 (lv_room (Nat.le_of_ble_eq_true rfl)) dX3_sheet_69 ⟨Nat.zero_le _, Nat.zero_le _⟩ (fun ov w' H locs hp hP hD hS => ?_)
            obtain ⟨rfl, rfl⟩ := hp
            obtain ⟨hP, hD⟩ := vx_lay (k := k) hP hD (by omega)
            have hP : va_P D vwCl (VX cI cJ cO B gG tG kG ik le by_ tk bg en va tn (upd bO k b) (upd sO k (shtZ b v)) (zeroL nU k 40) fS cW) H := hP
            have hD : va_D _ (VX cI cJ cO B gG tG kG ik le by_ tk bg en va tn (upd bO k b) (upd sO k (shtZ b v)) (zeroL nU k 40) fS cW) := hD
            refine W.eq (g2 := F0 m 72 ls []) rfl ?_
            refine lv_aload hx hb dX3_sheet_72 (lv_at hl 0 rfl) ?_
            refine va_get (ci := 1) (v := .int ((upd sO k (shtZ b v)) k)) hx hb hts wx_X1 hown hK (vx_sub hP (k := k) (by omega) (rfl)) 0 rfl rfl 1 (by decide) (hts _ wf_X3_184) (fun _ h9 => h9) rfl dX3_sheet_74 ?_
            have hE : fS = shtT fS (nI k) b v := by simp [shtR, shtT, shtB, shtS, shtU, shtW, shtZ, bitsOk, pk_us, bump, put9, b2i, c13, c19, c42, c55, yk, ek, i_lt, -Int32.not_le, -Int32.not_lt]
            have hW : (VX cI cJ cO B gG tG kG ik le by_ tk bg en va tn (upd bO k b) (upd sO k (shtZ b v)) (zeroL nU k 40) fS cW) = (VX cI cJ cO B gG tG kG ik le by_ tk bg en va tn (upd bO k b) (upd sO k (shtZ b v)) (zeroL nU k 40) (shtT fS (nI k) b v) cW) := congrArg (fun z => (VX cI cJ cO B gG tG kG ik le by_ tk bg en va tn (upd bO k b) (upd sO k (shtZ b v)) (zeroL nU k 40) z cW)) hE
            have hP : va_P D vwCl (VX cI cJ cO B gG tG kG ik le by_ tk bg en va tn (upd bO k b) (upd sO k (shtZ b v)) (zeroL nU k 40) (shtT fS (nI k) b v) cW) H := Eq.mp (congrArg (fun z => va_P D vwCl z H) hW) hP
            have hD : va_D _ (VX cI cJ cO B gG tG kG ik le by_ tk bg en va tn (upd bO k b) (upd sO k (shtZ b v)) (zeroL nU k 40) (shtT fS (nI k) b v) cW) := Eq.mp (congrArg (fun z => va_D _ z) hW) hD
            have hE : upd bO k b = shtB bO (nI k) b v := by simp [shtR, shtT, shtB, shtS, shtU, shtW, shtZ, bitsOk, pk_us, bump, put9, b2i, c13, c19, c42, c55, yk, ek, i_lt, -Int32.not_le, -Int32.not_lt]
            have hW : (VX cI cJ cO B gG tG kG ik le by_ tk bg en va tn (upd bO k b) (upd sO k (shtZ b v)) (zeroL nU k 40) (shtT fS (nI k) b v) cW) = (VX cI cJ cO B gG tG kG ik le by_ tk bg en va tn (shtB bO (nI k) b v) (upd sO k (shtZ b v)) (zeroL nU k 40) (shtT fS (nI k) b v) cW) := congrArg (fun z => (VX cI cJ cO B gG tG kG ik le by_ tk bg en va tn z (upd sO k (shtZ b v)) (zeroL nU k 40) (shtT fS (nI k) b v) cW)) hE
            have hP : va_P D vwCl (VX cI cJ cO B gG tG kG ik le by_ tk bg en va tn (shtB bO (nI k) b v) (upd sO k (shtZ b v)) (zeroL nU k 40) (shtT fS (nI k) b v) cW) H := Eq.mp (congrArg (fun z => va_P D vwCl z H) hW) hP
            have hD : va_D _ (VX cI cJ cO B gG tG kG ik le by_ tk bg en va tn (shtB bO (nI k) b v) (upd sO k (shtZ b v)) (zeroL nU k 40) (shtT fS (nI k) b v) cW) := Eq.mp (congrArg (fun z => va_D _ z) hW) hD
            have hE : upd sO k (shtZ b v) = shtS sO (nI k) b v := by simp [shtR, shtT, shtB, shtS, shtU, shtW, shtZ, bitsOk, pk_us, bump, put9, b2i, c13, c19, c42, c55, yk, ek, i_lt, -Int32.not_le, -Int32.not_lt]
            have hW : (VX cI cJ cO B gG tG kG ik le by_ tk bg en va tn (shtB bO (nI k) b v) (upd sO k (shtZ b v)) (zeroL nU k 40) (shtT fS (nI k) b v) cW) = (VX cI cJ cO B gG tG kG ik le by_ tk bg en va tn (shtB bO (nI k) b v) (shtS sO (nI k) b v) (zeroL nU k 40) (shtT fS (nI k) b v) cW) := congrArg (fun z => (VX cI cJ cO B gG tG kG ik le by_ tk bg en va tn (shtB bO (nI k) b v) z (zeroL nU k 40) (shtT fS (nI k) b v) cW)) hE
            have hP : va_P D vwCl (VX cI cJ cO B gG tG kG ik le by_ tk bg en va tn (shtB bO (nI k) b v) (shtS sO (nI k) b v) (zeroL nU k 40) (shtT fS (nI k) b v) cW) H := Eq.mp (congrArg (fun z => va_P D vwCl z H) hW) hP
            have hD : va_D _ (VX cI cJ cO B gG tG kG ik le by_ tk bg en va tn (shtB bO (nI k) b v) (shtS sO (nI k) b v) (zeroL nU k 40) (shtT fS (nI k) b v) cW) := Eq.mp (congrArg (fun z => va_D _ z) hW) hD
            have hE : zeroL nU k 40 = shtU nU (nI k) b v := by simp [shtR, shtT, shtB, shtS, shtU, shtW, shtZ, bitsOk, pk_us, bump, put9, b2i, c13, c19, c42, c55, yk, ek, i_lt, -Int32.not_le, -Int32.not_lt]
            have hW : (VX cI cJ cO B gG tG kG ik le by_ tk bg en va tn (shtB bO (nI k) b v) (shtS sO (nI k) b v) (zeroL nU k 40) (shtT fS (nI k) b v) cW) = (VX cI cJ cO B gG tG kG ik le by_ tk bg en va tn (shtB bO (nI k) b v) (shtS sO (nI k) b v) (shtU nU (nI k) b v) (shtT fS (nI k) b v) cW) := congrArg (fun z => (VX cI cJ cO B gG tG kG ik le by_ tk bg en va tn (shtB bO (nI k) b v) (shtS sO (nI k) b v) z (shtT fS (nI k) b v) cW)) hE
            have hP : va_P D vwCl (VX cI cJ cO B gG tG kG ik le by_ tk bg en va tn (shtB bO (nI k) b v) (shtS sO (nI k) b v) (shtU nU (nI k) b v) (shtT fS (nI k) b v) cW) H := Eq.mp (congrArg (fun z => va_P D vwCl z H) hW) hP
            have hD : va_D _ (VX cI cJ cO B gG tG kG ik le by_ tk bg en va tn (shtB bO (nI k) b v) (shtS sO (nI k) b v) (shtU nU (nI k) b v) (shtT fS (nI k) b v) cW) := Eq.mp (congrArg (fun z => va_D _ z) hW) hD
            exact mu_iret (VX cI cJ cO B gG tG kG ik le by_ tk bg en va tn (shtB bO (nI k) b v) (shtS sO (nI k) b v) (shtU nU (nI k) b v) (shtT fS (nI k) b v) cW) hx hb hr hlk hP hS rfl (⟨congrArg (fun z => some (Value.int z)) (by simp [shtR, shtT, shtB, shtS, shtU, shtW, shtZ, bitsOk, pk_us, bump, put9, b2i, c13, c19, c42, c55, yk, ek, i_lt, -Int32.not_le, -Int32.not_lt]), rfl⟩) dX3_sheet_77
          · refine lv_aload_n hx hb dX3_sheet_58 rfl (lv_at hl 1 rfl) ?_
            refine lv_ldc (v := (-1000000001)) hx hb hown (hts _ wq_X3_51) dX3_sheet_59 ?_
            refine mu_W (w := (VX cI cJ cO B gG tG kG ik le by_ tk bg en va tn bO sO nU fS cW)) (rest := []) S hK hP hD hS (k_X3_finding 0 (-1000000001) (by decide) (by decide)) gv_X3_52 hd_X3_finding ⟨Nat.le_of_ble_eq_true rfl, Nat.le_of_ble_eq_true rfl⟩ 3 rfl rfl rfl rfl hl.1 (lv_room (Nat.le_of_ble_eq_true rfl)) dX3_sheet_61 ⟨Nat.zero_le _, Nat.zero_le _⟩ (fun ov w' H locs hp hP hD hS => ?_)
            obtain ⟨rfl, rfl⟩ := hp
            have hP : va_P D vwCl (VX cI cJ cO B gG tG kG ik le by_ tk bg en va tn bO sO nU (upd fS 0 (fS 0 + 1)) cW) H := hP
            have hD : va_D _ (VX cI cJ cO B gG tG kG ik le by_ tk bg en va tn bO sO nU (upd fS 0 (fS 0 + 1)) cW) := hD
            refine W.eq (g2 := F0 m 64 ls [.int (-1000000001)]) rfl ?_
            have hE : upd fS 0 (fS 0 + 1) = shtT fS (nI k) b v := by simp [shtR, shtT, shtB, shtS, shtU, shtW, shtZ, bitsOk, pk_us, bump, put9, b2i, c13, c19, c42, c55, yk, ek, i_lt, -Int32.not_le, -Int32.not_lt]
            have hW : (VX cI cJ cO B gG tG kG ik le by_ tk bg en va tn bO sO nU (upd fS 0 (fS 0 + 1)) cW) = (VX cI cJ cO B gG tG kG ik le by_ tk bg en va tn bO sO nU (shtT fS (nI k) b v) cW) := congrArg (fun z => (VX cI cJ cO B gG tG kG ik le by_ tk bg en va tn bO sO nU z cW)) hE
            have hP : va_P D vwCl (VX cI cJ cO B gG tG kG ik le by_ tk bg en va tn bO sO nU (shtT fS (nI k) b v) cW) H := Eq.mp (congrArg (fun z => va_P D vwCl z H) hW) hP
            have hD : va_D _ (VX cI cJ cO B gG tG kG ik le by_ tk bg en va tn bO sO nU (shtT fS (nI k) b v) cW) := Eq.mp (congrArg (fun z => va_D _ z) hW) hD
            have hE : bO = shtB bO (nI k) b v := by simp [shtR, shtT, shtB, shtS, shtU, shtW, shtZ, bitsOk, pk_us, bump, put9, b2i, c13, c19, c42, c55, yk, ek, i_lt, -Int32.not_le, -Int32.not_lt]
            have hW : (VX cI cJ cO B gG tG kG ik le by_ tk bg en va tn bO sO nU (shtT fS (nI k) b v) cW) = (VX cI cJ cO B gG tG kG ik le by_ tk bg en va tn (shtB bO (nI k) b v) sO nU (shtT fS (nI k) b v) cW) := congrArg (fun z => (VX cI cJ cO B gG tG kG ik le by_ tk bg en va tn z sO nU (shtT fS (nI k) b v) cW)) hE
            have hP : va_P D vwCl (VX cI cJ cO B gG tG kG ik le by_ tk bg en va tn (shtB bO (nI k) b v) sO nU (shtT fS (nI k) b v) cW) H := Eq.mp (congrArg (fun z => va_P D vwCl z H) hW) hP
            have hD : va_D _ (VX cI cJ cO B gG tG kG ik le by_ tk bg en va tn (shtB bO (nI k) b v) sO nU (shtT fS (nI k) b v) cW) := Eq.mp (congrArg (fun z => va_D _ z) hW) hD
            have hE : sO = shtS sO (nI k) b v := by simp [shtR, shtT, shtB, shtS, shtU, shtW, shtZ, bitsOk, pk_us, bump, put9, b2i, c13, c19, c42, c55, yk, ek, i_lt, -Int32.not_le, -Int32.not_lt]
            have hW : (VX cI cJ cO B gG tG kG ik le by_ tk bg en va tn (shtB bO (nI k) b v) sO nU (shtT fS (nI k) b v) cW) = (VX cI cJ cO B gG tG kG ik le by_ tk bg en va tn (shtB bO (nI k) b v) (shtS sO (nI k) b v) nU (shtT fS (nI k) b v) cW) := congrArg (fun z => (VX cI cJ cO B gG tG kG ik le by_ tk bg en va tn (shtB bO (nI k) b v) z nU (shtT fS (nI k) b v) cW)) hE
            have hP : va_P D vwCl (VX cI cJ cO B gG tG kG ik le by_ tk bg en va tn (shtB bO (nI k) b v) (shtS sO (nI k) b v) nU (shtT fS (nI k) b v) cW) H := Eq.mp (congrArg (fun z => va_P D vwCl z H) hW) hP
            have hD : va_D _ (VX cI cJ cO B gG tG kG ik le by_ tk bg en va tn (shtB bO (nI k) b v) (shtS sO (nI k) b v) nU (shtT fS (nI k) b v) cW) := Eq.mp (congrArg (fun z => va_D _ z) hW) hD
            have hE : nU = shtU nU (nI k) b v := by simp [shtR, shtT, shtB, shtS, shtU, shtW, shtZ, bitsOk, pk_us, bump, put9, b2i, c13, c19, c42, c55, yk, ek, i_lt, -Int32.not_le, -Int32.not_lt]
            have hW : (VX cI cJ cO B gG tG kG ik le by_ tk bg en va tn (shtB bO (nI k) b v) (shtS sO (nI k) b v) nU (shtT fS (nI k) b v) cW) = (VX cI cJ cO B gG tG kG ik le by_ tk bg en va tn (shtB bO (nI k) b v) (shtS sO (nI k) b v) (shtU nU (nI k) b v) (shtT fS (nI k) b v) cW) := congrArg (fun z => (VX cI cJ cO B gG tG kG ik le by_ tk bg en va tn (shtB bO (nI k) b v) (shtS sO (nI k) b v) z (shtT fS (nI k) b v) cW)) hE
            have hP : va_P D vwCl (VX cI cJ cO B gG tG kG ik le by_ tk bg en va tn (shtB bO (nI k) b v) (shtS sO (nI k) b v) (shtU nU (nI k) b v) (shtT fS (nI k) b v) cW) H := Eq.mp (congrArg (fun z => va_P D vwCl z H) hW) hP
            have hD : va_D _ (VX cI cJ cO B gG tG kG ik le by_ tk bg en va tn (shtB bO (nI k) b v) (shtS sO (nI k) b v) (shtU nU (nI k) b v) (shtT fS (nI k) b v) cW) := Eq.mp (congrArg (fun z => va_D _ z) hW) hD
            exact mu_iret (VX cI cJ cO B gG tG kG ik le by_ tk bg en va tn (shtB bO (nI k) b v) (shtS sO (nI k) b v) (shtU nU (nI k) b v) (shtT fS (nI k) b v) cW) hx hb hr hlk hP hS rfl (⟨congrArg (fun z => some (Value.int z)) (by simp [shtR, shtT, shtB, shtS, shtU, shtW, shtZ, bitsOk, pk_us, bump, put9, b2i, c13, c19, c42, c55, yk, ek, i_lt, -Int32.not_le, -Int32.not_lt]), rfl⟩) dX3_sheet_64
        · refine lv_aload_n hx hb dX3_sheet_45 rfl (lv_at hl 1 rfl) ?_
          refine lv_ldc (v := (-1000000007)) hx hb hown (hts _ wq_X3_179) dX3_sheet_46 ?_
          refine mu_W (w := (VX cI cJ cO B gG tG kG ik le by_ tk bg en va tn bO sO nU fS cW)) (rest := []) S hK hP hD hS (k_X3_finding 6 (-1000000007) (by decide) (by decide)) gv_X3_52 hd_X3_finding ⟨Nat.le_of_ble_eq_true rfl, Nat.le_of_ble_eq_true rfl⟩ 3 rfl rfl rfl rfl hl.1 (lv_room (Nat.le_of_ble_eq_true rfl)) dX3_sheet_48 ⟨Nat.zero_le _, Nat.zero_le _⟩ (fun ov w' H locs hp hP hD hS => ?_)
          obtain ⟨rfl, rfl⟩ := hp
          have hP : va_P D vwCl (VX cI cJ cO B gG tG kG ik le by_ tk bg en va tn bO sO nU (upd fS 6 (fS 6 + 1)) cW) H := hP
          have hD : va_D _ (VX cI cJ cO B gG tG kG ik le by_ tk bg en va tn bO sO nU (upd fS 6 (fS 6 + 1)) cW) := hD
          refine W.eq (g2 := F0 m 51 ls [.int (-1000000007)]) rfl ?_
          have hE : upd fS 6 (fS 6 + 1) = shtT fS (nI k) b v := by simp [shtR, shtT, shtB, shtS, shtU, shtW, shtZ, bitsOk, pk_us, bump, put9, b2i, c13, c19, c42, yk, ek, i_lt, -Int32.not_le, -Int32.not_lt]
          have hW : (VX cI cJ cO B gG tG kG ik le by_ tk bg en va tn bO sO nU (upd fS 6 (fS 6 + 1)) cW) = (VX cI cJ cO B gG tG kG ik le by_ tk bg en va tn bO sO nU (shtT fS (nI k) b v) cW) := congrArg (fun z => (VX cI cJ cO B gG tG kG ik le by_ tk bg en va tn bO sO nU z cW)) hE
          have hP : va_P D vwCl (VX cI cJ cO B gG tG kG ik le by_ tk bg en va tn bO sO nU (shtT fS (nI k) b v) cW) H := Eq.mp (congrArg (fun z => va_P D vwCl z H) hW) hP
          have hD : va_D _ (VX cI cJ cO B gG tG kG ik le by_ tk bg en va tn bO sO nU (shtT fS (nI k) b v) cW) := Eq.mp (congrArg (fun z => va_D _ z) hW) hD
          have hE : bO = shtB bO (nI k) b v := by simp [shtR, shtT, shtB, shtS, shtU, shtW, shtZ, bitsOk, pk_us, bump, put9, b2i, c13, c19, c42, yk, ek, i_lt, -Int32.not_le, -Int32.not_lt]
          have hW : (VX cI cJ cO B gG tG kG ik le by_ tk bg en va tn bO sO nU (shtT fS (nI k) b v) cW) = (VX cI cJ cO B gG tG kG ik le by_ tk bg en va tn (shtB bO (nI k) b v) sO nU (shtT fS (nI k) b v) cW) := congrArg (fun z => (VX cI cJ cO B gG tG kG ik le by_ tk bg en va tn z sO nU (shtT fS (nI k) b v) cW)) hE
          have hP : va_P D vwCl (VX cI cJ cO B gG tG kG ik le by_ tk bg en va tn (shtB bO (nI k) b v) sO nU (shtT fS (nI k) b v) cW) H := Eq.mp (congrArg (fun z => va_P D vwCl z H) hW) hP
          have hD : va_D _ (VX cI cJ cO B gG tG kG ik le by_ tk bg en va tn (shtB bO (nI k) b v) sO nU (shtT fS (nI k) b v) cW) := Eq.mp (congrArg (fun z => va_D _ z) hW) hD
          have hE : sO = shtS sO (nI k) b v := by simp [shtR, shtT, shtB, shtS, shtU, shtW, shtZ, bitsOk, pk_us, bump, put9, b2i, c13, c19, c42, yk, ek, i_lt, -Int32.not_le, -Int32.not_lt]
          have hW : (VX cI cJ cO B gG tG kG ik le by_ tk bg en va tn (shtB bO (nI k) b v) sO nU (shtT fS (nI k) b v) cW) = (VX cI cJ cO B gG tG kG ik le by_ tk bg en va tn (shtB bO (nI k) b v) (shtS sO (nI k) b v) nU (shtT fS (nI k) b v) cW) := congrArg (fun z => (VX cI cJ cO B gG tG kG ik le by_ tk bg en va tn (shtB bO (nI k) b v) z nU (shtT fS (nI k) b v) cW)) hE
          have hP : va_P D vwCl (VX cI cJ cO B gG tG kG ik le by_ tk bg en va tn (shtB bO (nI k) b v) (shtS sO (nI k) b v) nU (shtT fS (nI k) b v) cW) H := Eq.mp (congrArg (fun z => va_P D vwCl z H) hW) hP
          have hD : va_D _ (VX cI cJ cO B gG tG kG ik le by_ tk bg en va tn (shtB bO (nI k) b v) (shtS sO (nI k) b v) nU (shtT fS (nI k) b v) cW) := Eq.mp (congrArg (fun z => va_D _ z) hW) hD
          have hE : nU = shtU nU (nI k) b v := by simp [shtR, shtT, shtB, shtS, shtU, shtW, shtZ, bitsOk, pk_us, bump, put9, b2i, c13, c19, c42, yk, ek, i_lt, -Int32.not_le, -Int32.not_lt]
          have hW : (VX cI cJ cO B gG tG kG ik le by_ tk bg en va tn (shtB bO (nI k) b v) (shtS sO (nI k) b v) nU (shtT fS (nI k) b v) cW) = (VX cI cJ cO B gG tG kG ik le by_ tk bg en va tn (shtB bO (nI k) b v) (shtS sO (nI k) b v) (shtU nU (nI k) b v) (shtT fS (nI k) b v) cW) := congrArg (fun z => (VX cI cJ cO B gG tG kG ik le by_ tk bg en va tn (shtB bO (nI k) b v) (shtS sO (nI k) b v) z (shtT fS (nI k) b v) cW)) hE
          have hP : va_P D vwCl (VX cI cJ cO B gG tG kG ik le by_ tk bg en va tn (shtB bO (nI k) b v) (shtS sO (nI k) b v) (shtU nU (nI k) b v) (shtT fS (nI k) b v) cW) H := Eq.mp (congrArg (fun z => va_P D vwCl z H) hW) hP
          have hD : va_D _ (VX cI cJ cO B gG tG kG ik le by_ tk bg en va tn (shtB bO (nI k) b v) (shtS sO (nI k) b v) (shtU nU (nI k) b v) (shtT fS (nI k) b v) cW) := Eq.mp (congrArg (fun z => va_D _ z) hW) hD
          exact mu_iret (VX cI cJ cO B gG tG kG ik le by_ tk bg en va tn (shtB bO (nI k) b v) (shtS sO (nI k) b v) (shtU nU (nI k) b v) (shtT fS (nI k) b v) cW) hx hb hr hlk hP hS rfl (⟨congrArg (fun z => some (Value.int z)) (by simp [shtR, shtT, shtB, shtS, shtU, shtW, shtZ, bitsOk, pk_us, bump, put9, b2i, c13, c19, c42, yk, ek, i_lt, -Int32.not_le, -Int32.not_lt]), rfl⟩) dX3_sheet_51
      · refine lv_iload_n hx hb dX3_sheet_22 rfl (lv_at hl 3 rfl) ?_
        refine lv_bipush (v := 16) hx hb dX3_sheet_23 rfl ?_
        refine lv_icmp_eq (tgt := 41) hx hb dX3_sheet_25 rfl (fun c25 => ?_) (fun c25 => ?_)
        · refine lv_iload_n hx hb dX3_sheet_41 rfl (lv_at hl 4 rfl) ?_
          refine lv_if_ge (tgt := 52) hx hb dX3_sheet_42 rfl (fun c42 => ?_) (fun c42 => ?_)
          · refine lv_iload_n hx hb dX3_sheet_52 rfl (lv_at hl 4 rfl) ?_
            refine lv_bipush (v := 40) hx hb dX3_sheet_53 rfl ?_
            refine lv_icmp_le (tgt := 65) hx hb dX3_sheet_55 rfl (fun c55 => ?_) (fun c55 => ?_)
            · refine lv_aload hx hb dX3_sheet_65 (lv_at hl 0 rfl) ?_
              refine lv_iload_n hx hb dX3_sheet_67 rfl (lv_at hl 3 rfl) ?_
              refine lv_iload_n hx hb dX3_sheet_68 rfl (lv_at hl 4 rfl) ?_
              refine mu_V (w := (SW cJ (B (10 + 2 * k)) (B (11 + 2 * k)) (bO k) (sO k) (fun z7 => nU (40 * k + z7)))) (rest := []) S hK hP hD hS (k_X1_lay b v) gv_X3_180 hd_X1_lay ⟨Nat.le_of_ble_eq_true rfl, Nat.le_of_ble_eq_true rfl⟩ [10 + 2 * k, 11 + 2 * k] (vx_nd k) (vx_is (k := k) (by omega) (rfl)) 1 rfl rfl rfl rfl hl.1 (lv_room (Nat.le_of_ble_eq_true rfl)) dX3_sheet_69 ⟨Nat.zero_le _, Nat.zero_le _⟩ (fun ov w' H locs hp hP hD hS => ?_)
              obtain ⟨rfl, rfl⟩ := hp
              obtain ⟨hP, hD⟩ := vx_lay (k := k) hP hD (by omega)
              have hP : va_P D vwCl (VX cI cJ cO B gG tG kG ik le by_ tk bg en va tn (upd bO k b) (upd sO k (shtZ b v)) (zeroL nU k 40) fS cW) H := hP
              have hD : va_D _ (VX cI cJ cO B gG tG kG ik le by_ tk bg en va tn (upd bO k b) (upd sO k (shtZ b v)) (zeroL nU k 40) fS cW) := hD
              refine W.eq (g2 := F0 m 72 ls []) rfl ?_
              refine lv_aload hx hb dX3_sheet_72 (lv_at hl 0 rfl) ?_
              refine va_get (ci := 1) (v := .int ((upd sO k (shtZ b v)) k)) hx hb hts wx_X1 hown hK (vx_sub hP (k := k) (by omega) (rfl)) 0 rfl rfl 1 (by decide) (hts _ wf_X3_184) (fun _ h9 => h9) rfl dX3_sheet_74 ?_
              have hE : fS = shtT fS (nI k) b v := by simp [shtR, shtT, shtB, shtS, shtU, shtW, shtZ, bitsOk, pk_us, bump, put9, b2i, c13, c19, c25, c42, c55, yk, ek, i_lt, -Int32.not_le, -Int32.not_lt]
              have hW : (VX cI cJ cO B gG tG kG ik le by_ tk bg en va tn (upd bO k b) (upd sO k (shtZ b v)) (zeroL nU k 40) fS cW) = (VX cI cJ cO B gG tG kG ik le by_ tk bg en va tn (upd bO k b) (upd sO k (shtZ b v)) (zeroL nU k 40) (shtT fS (nI k) b v) cW) := congrArg (fun z => (VX cI cJ cO B gG tG kG ik le by_ tk bg en va tn (upd bO k b) (upd sO k (shtZ b v)) (zeroL nU k 40) z cW)) hE
              have hP : va_P D vwCl (VX cI cJ cO B gG tG kG ik le by_ tk bg en va tn (upd bO k b) (upd sO k (shtZ b v)) (zeroL nU k 40) (shtT fS (nI k) b v) cW) H := Eq.mp (congrArg (fun z => va_P D vwCl z H) hW) hP
              have hD : va_D _ (VX cI cJ cO B gG tG kG ik le by_ tk bg en va tn (upd bO k b) (upd sO k (shtZ b v)) (zeroL nU k 40) (shtT fS (nI k) b v) cW) := Eq.mp (congrArg (fun z => va_D _ z) hW) hD
              have hE : upd bO k b = shtB bO (nI k) b v := by simp [shtR, shtT, shtB, shtS, shtU, shtW, shtZ, bitsOk, pk_us, bump, put9, b2i, c13, c19, c25, c42, c55, yk, ek, i_lt, -Int32.not_le, -Int32.not_lt]
              have hW : (VX cI cJ cO B gG tG kG ik le by_ tk bg en va tn (upd bO k b) (upd sO k (shtZ b v)) (zeroL nU k 40) (shtT fS (nI k) b v) cW) = (VX cI cJ cO B gG tG kG ik le by_ tk bg en va tn (shtB bO (nI k) b v) (upd sO k (shtZ b v)) (zeroL nU k 40) (shtT fS (nI k) b v) cW) := congrArg (fun z => (VX cI cJ cO B gG tG kG ik le by_ tk bg en va tn z (upd sO k (shtZ b v)) (zeroL nU k 40) (shtT fS (nI k) b v) cW)) hE
              have hP : va_P D vwCl (VX cI cJ cO B gG tG kG ik le by_ tk bg en va tn (shtB bO (nI k) b v) (upd sO k (shtZ b v)) (zeroL nU k 40) (shtT fS (nI k) b v) cW) H := Eq.mp (congrArg (fun z => va_P D vwCl z H) hW) hP
              have hD : va_D _ (VX cI cJ cO B gG tG kG ik le by_ tk bg en va tn (shtB bO (nI k) b v) (upd sO k (shtZ b v)) (zeroL nU k 40) (shtT fS (nI k) b v) cW) := Eq.mp (congrArg (fun z => va_D _ z) hW) hD
              have hE : upd sO k (shtZ b v) = shtS sO (nI k) b v := by simp [shtR, shtT, shtB, shtS, shtU, shtW, shtZ, bitsOk, pk_us, bump, put9, b2i, c13, c19, c25, c42, c55, yk, ek, i_lt, -Int32.not_le, -Int32.not_lt]
              have hW : (VX cI cJ cO B gG tG kG ik le by_ tk bg en va tn (shtB bO (nI k) b v) (upd sO k (shtZ b v)) (zeroL nU k 40) (shtT fS (nI k) b v) cW) = (VX cI cJ cO B gG tG kG ik le by_ tk bg en va tn (shtB bO (nI k) b v) (shtS sO (nI k) b v) (zeroL nU k 40) (shtT fS (nI k) b v) cW) := congrArg (fun z => (VX cI cJ cO B gG tG kG ik le by_ tk bg en va tn (shtB bO (nI k) b v) z (zeroL nU k 40) (shtT fS (nI k) b v) cW)) hE
              have hP : va_P D vwCl (VX cI cJ cO B gG tG kG ik le by_ tk bg en va tn (shtB bO (nI k) b v) (shtS sO (nI k) b v) (zeroL nU k 40) (shtT fS (nI k) b v) cW) H := Eq.mp (congrArg (fun z => va_P D vwCl z H) hW) hP
              have hD : va_D _ (VX cI cJ cO B gG tG kG ik le by_ tk bg en va tn (shtB bO (nI k) b v) (shtS sO (nI k) b v) (zeroL nU k 40) (shtT fS (nI k) b v) cW) := Eq.mp (congrArg (fun z => va_D _ z) hW) hD
              have hE : zeroL nU k 40 = shtU nU (nI k) b v := by simp [shtR, shtT, shtB, shtS, shtU, shtW, shtZ, bitsOk, pk_us, bump, put9, b2i, c13, c19, c25, c42, c55, yk, ek, i_lt, -Int32.not_le, -Int32.not_lt]
              have hW : (VX cI cJ cO B gG tG kG ik le by_ tk bg en va tn (shtB bO (nI k) b v) (shtS sO (nI k) b v) (zeroL nU k 40) (shtT fS (nI k) b v) cW) = (VX cI cJ cO B gG tG kG ik le by_ tk bg en va tn (shtB bO (nI k) b v) (shtS sO (nI k) b v) (shtU nU (nI k) b v) (shtT fS (nI k) b v) cW) := congrArg (fun z => (VX cI cJ cO B gG tG kG ik le by_ tk bg en va tn (shtB bO (nI k) b v) (shtS sO (nI k) b v) z (shtT fS (nI k) b v) cW)) hE
              have hP : va_P D vwCl (VX cI cJ cO B gG tG kG ik le by_ tk bg en va tn (shtB bO (nI k) b v) (shtS sO (nI k) b v) (shtU nU (nI k) b v) (shtT fS (nI k) b v) cW) H := Eq.mp (congrArg (fun z => va_P D vwCl z H) hW) hP
              have hD : va_D _ (VX cI cJ cO B gG tG kG ik le by_ tk bg en va tn (shtB bO (nI k) b v) (shtS sO (nI k) b v) (shtU nU (nI k) b v) (shtT fS (nI k) b v) cW) := Eq.mp (congrArg (fun z => va_D _ z) hW) hD
              exact mu_iret (VX cI cJ cO B gG tG kG ik le by_ tk bg en va tn (shtB bO (nI k) b v) (shtS sO (nI k) b v) (shtU nU (nI k) b v) (shtT fS (nI k) b v) cW) hx hb hr hlk hP hS rfl (⟨congrArg (fun z => some (Value.int z)) (by simp [shtR, shtT, shtB, shtS, shtU, shtW, shtZ, bitsOk, pk_us, bump, put9, b2i, c13, c19, c25, c42, c55, yk, ek, i_lt, -Int32.not_le, -Int32.not_lt]), rfl⟩) dX3_sheet_77
            · refine lv_aload_n hx hb dX3_sheet_58 rfl (lv_at hl 1 rfl) ?_
              refine lv_ldc (v := (-1000000001)) hx hb hown (hts _ wq_X3_51) dX3_sheet_59 ?_
              refine mu_W (w := (VX cI cJ cO B gG tG kG ik le by_ tk bg en va tn bO sO nU fS cW)) (rest := []) S hK hP hD hS (k_X3_finding 0 (-1000000001) (by decide) (by decide)) gv_X3_52 hd_X3_finding ⟨Nat.le_of_ble_eq_true rfl, Nat.le_of_ble_eq_true rfl⟩ 3 rfl rfl rfl rfl hl.1 (lv_room (Nat.le_of_ble_eq_true rfl)) dX3_sheet_61 ⟨Nat.zero_le _, Nat.zero_le _⟩ (fun ov w' H locs hp hP hD hS => ?_)
              obtain ⟨rfl, rfl⟩ := hp
              have hP : va_P D vwCl (VX cI cJ cO B gG tG kG ik le by_ tk bg en va tn bO sO nU (upd fS 0 (fS 0 + 1)) cW) H := hP
              have hD : va_D _ (VX cI cJ cO B gG tG kG ik le by_ tk bg en va tn bO sO nU (upd fS 0 (fS 0 + 1)) cW) := hD
              refine W.eq (g2 := F0 m 64 ls [.int (-1000000001)]) rfl ?_
              have hE : upd fS 0 (fS 0 + 1) = shtT fS (nI k) b v := by simp [shtR, shtT, shtB, shtS, shtU, shtW, shtZ, bitsOk, pk_us, bump, put9, b2i, c13, c19, c25, c42, c55, yk, ek, i_lt, -Int32.not_le, -Int32.not_lt]
              have hW : (VX cI cJ cO B gG tG kG ik le by_ tk bg en va tn bO sO nU (upd fS 0 (fS 0 + 1)) cW) = (VX cI cJ cO B gG tG kG ik le by_ tk bg en va tn bO sO nU (shtT fS (nI k) b v) cW) := congrArg (fun z => (VX cI cJ cO B gG tG kG ik le by_ tk bg en va tn bO sO nU z cW)) hE
              have hP : va_P D vwCl (VX cI cJ cO B gG tG kG ik le by_ tk bg en va tn bO sO nU (shtT fS (nI k) b v) cW) H := Eq.mp (congrArg (fun z => va_P D vwCl z H) hW) hP
              have hD : va_D _ (VX cI cJ cO B gG tG kG ik le by_ tk bg en va tn bO sO nU (shtT fS (nI k) b v) cW) := Eq.mp (congrArg (fun z => va_D _ z) hW) hD
              have hE : bO = shtB bO (nI k) b v := by simp [shtR, shtT, shtB, shtS, shtU, shtW, shtZ, bitsOk, pk_us, bump, put9, b2i, c13, c19, c25, c42, c55, yk, ek, i_lt, -Int32.not_le, -Int32.not_lt]
              have hW : (VX cI cJ cO B gG tG kG ik le by_ tk bg en va tn bO sO nU (shtT fS (nI k) b v) cW) = (VX cI cJ cO B gG tG kG ik le by_ tk bg en va tn (shtB bO (nI k) b v) sO nU (shtT fS (nI k) b v) cW) := congrArg (fun z => (VX cI cJ cO B gG tG kG ik le by_ tk bg en va tn z sO nU (shtT fS (nI k) b v) cW)) hE
              have hP : va_P D vwCl (VX cI cJ cO B gG tG kG ik le by_ tk bg en va tn (shtB bO (nI k) b v) sO nU (shtT fS (nI k) b v) cW) H := Eq.mp (congrArg (fun z => va_P D vwCl z H) hW) hP
              have hD : va_D _ (VX cI cJ cO B gG tG kG ik le by_ tk bg en va tn (shtB bO (nI k) b v) sO nU (shtT fS (nI k) b v) cW) := Eq.mp (congrArg (fun z => va_D _ z) hW) hD
              have hE : sO = shtS sO (nI k) b v := by simp [shtR, shtT, shtB, shtS, shtU, shtW, shtZ, bitsOk, pk_us, bump, put9, b2i, c13, c19, c25, c42, c55, yk, ek, i_lt, -Int32.not_le, -Int32.not_lt]
              have hW : (VX cI cJ cO B gG tG kG ik le by_ tk bg en va tn (shtB bO (nI k) b v) sO nU (shtT fS (nI k) b v) cW) = (VX cI cJ cO B gG tG kG ik le by_ tk bg en va tn (shtB bO (nI k) b v) (shtS sO (nI k) b v) nU (shtT fS (nI k) b v) cW) := congrArg (fun z => (VX cI cJ cO B gG tG kG ik le by_ tk bg en va tn (shtB bO (nI k) b v) z nU (shtT fS (nI k) b v) cW)) hE
              have hP : va_P D vwCl (VX cI cJ cO B gG tG kG ik le by_ tk bg en va tn (shtB bO (nI k) b v) (shtS sO (nI k) b v) nU (shtT fS (nI k) b v) cW) H := Eq.mp (congrArg (fun z => va_P D vwCl z H) hW) hP
              have hD : va_D _ (VX cI cJ cO B gG tG kG ik le by_ tk bg en va tn (shtB bO (nI k) b v) (shtS sO (nI k) b v) nU (shtT fS (nI k) b v) cW) := Eq.mp (congrArg (fun z => va_D _ z) hW) hD
              have hE : nU = shtU nU (nI k) b v := by simp [shtR, shtT, shtB, shtS, shtU, shtW, shtZ, bitsOk, pk_us, bump, put9, b2i, c13, c19, c25, c42, c55, yk, ek, i_lt, -Int32.not_le, -Int32.not_lt]
              have hW : (VX cI cJ cO B gG tG kG ik le by_ tk bg en va tn (shtB bO (nI k) b v) (shtS sO (nI k) b v) nU (shtT fS (nI k) b v) cW) = (VX cI cJ cO B gG tG kG ik le by_ tk bg en va tn (shtB bO (nI k) b v) (shtS sO (nI k) b v) (shtU nU (nI k) b v) (shtT fS (nI k) b v) cW) := congrArg (fun z => (VX cI cJ cO B gG tG kG ik le by_ tk bg en va tn (shtB bO (nI k) b v) (shtS sO (nI k) b v) z (shtT fS (nI k) b v) cW)) hE
              have hP : va_P D vwCl (VX cI cJ cO B gG tG kG ik le by_ tk bg en va tn (shtB bO (nI k) b v) (shtS sO (nI k) b v) (shtU nU (nI k) b v) (shtT fS (nI k) b v) cW) H := Eq.mp (congrArg (fun z => va_P D vwCl z H) hW) hP
              have hD : va_D _ (VX cI cJ cO B gG tG kG ik le by_ tk bg en va tn (shtB bO (nI k) b v) (shtS sO (nI k) b v) (shtU nU (nI k) b v) (shtT fS (nI k) b v) cW) := Eq.mp (congrArg (fun z => va_D _ z) hW) hD
              exact mu_iret (VX cI cJ cO B gG tG kG ik le by_ tk bg en va tn (shtB bO (nI k) b v) (shtS sO (nI k) b v) (shtU nU (nI k) b v) (shtT fS (nI k) b v) cW) hx hb hr hlk hP hS rfl (⟨congrArg (fun z => some (Value.int z)) (by simp [shtR, shtT, shtB, shtS, shtU, shtW, shtZ, bitsOk, pk_us, bump, put9, b2i, c13, c19, c25, c42, c55, yk, ek, i_lt, -Int32.not_le, -Int32.not_lt]), rfl⟩) dX3_sheet_64
          · refine lv_aload_n hx hb dX3_sheet_45 rfl (lv_at hl 1 rfl) ?_
            refine lv_ldc (v := (-1000000007)) hx hb hown (hts _ wq_X3_179) dX3_sheet_46 ?_
            refine mu_W (w := (VX cI cJ cO B gG tG kG ik le by_ tk bg en va tn bO sO nU fS cW)) (rest := []) S hK hP hD hS (k_X3_finding 6 (-1000000007) (by decide) (by decide)) gv_X3_52 hd_X3_finding ⟨Nat.le_of_ble_eq_true rfl, Nat.le_of_ble_eq_true rfl⟩ 3 rfl rfl rfl rfl hl.1 (lv_room (Nat.le_of_ble_eq_true rfl)) dX3_sheet_48 ⟨Nat.zero_le _, Nat.zero_le _⟩ (fun ov w' H locs hp hP hD hS => ?_)
            obtain ⟨rfl, rfl⟩ := hp
            have hP : va_P D vwCl (VX cI cJ cO B gG tG kG ik le by_ tk bg en va tn bO sO nU (upd fS 6 (fS 6 + 1)) cW) H := hP
            have hD : va_D _ (VX cI cJ cO B gG tG kG ik le by_ tk bg en va tn bO sO nU (upd fS 6 (fS 6 + 1)) cW) := hD
            refine W.eq (g2 := F0 m 51 ls [.int (-1000000007)]) rfl ?_
            have hE : upd fS 6 (fS 6 + 1) = shtT fS (nI k) b v := by simp [shtR, shtT, shtB, shtS, shtU, shtW, shtZ, bitsOk, pk_us, bump, put9, b2i, c13, c19, c25, c42, yk, ek, i_lt, -Int32.not_le, -Int32.not_lt]
            have hW : (VX cI cJ cO B gG tG kG ik le by_ tk bg en va tn bO sO nU (upd fS 6 (fS 6 + 1)) cW) = (VX cI cJ cO B gG tG kG ik le by_ tk bg en va tn bO sO nU (shtT fS (nI k) b v) cW) := congrArg (fun z => (VX cI cJ cO B gG tG kG ik le by_ tk bg en va tn bO sO nU z cW)) hE
            have hP : va_P D vwCl (VX cI cJ cO B gG tG kG ik le by_ tk bg en va tn bO sO nU (shtT fS (nI k) b v) cW) H := Eq.mp (congrArg (fun z => va_P D vwCl z H) hW) hP
            have hD : va_D _ (VX cI cJ cO B gG tG kG ik le by_ tk bg en va tn bO sO nU (shtT fS (nI k) b v) cW) := Eq.mp (congrArg (fun z => va_D _ z) hW) hD
            have hE : bO = shtB bO (nI k) b v := by simp [shtR, shtT, shtB, shtS, shtU, shtW, shtZ, bitsOk, pk_us, bump, put9, b2i, c13, c19, c25, c42, yk, ek, i_lt, -Int32.not_le, -Int32.not_lt]
            have hW : (VX cI cJ cO B gG tG kG ik le by_ tk bg en va tn bO sO nU (shtT fS (nI k) b v) cW) = (VX cI cJ cO B gG tG kG ik le by_ tk bg en va tn (shtB bO (nI k) b v) sO nU (shtT fS (nI k) b v) cW) := congrArg (fun z => (VX cI cJ cO B gG tG kG ik le by_ tk bg en va tn z sO nU (shtT fS (nI k) b v) cW)) hE
            have hP : va_P D vwCl (VX cI cJ cO B gG tG kG ik le by_ tk bg en va tn (shtB bO (nI k) b v) sO nU (shtT fS (nI k) b v) cW) H := Eq.mp (congrArg (fun z => va_P D vwCl z H) hW) hP
            have hD : va_D _ (VX cI cJ cO B gG tG kG ik le by_ tk bg en va tn (shtB bO (nI k) b v) sO nU (shtT fS (nI k) b v) cW) := Eq.mp (congrArg (fun z => va_D _ z) hW) hD
            have hE : sO = shtS sO (nI k) b v := by simp [shtR, shtT, shtB, shtS, shtU, shtW, shtZ, bitsOk, pk_us, bump, put9, b2i, c13, c19, c25, c42, yk, ek, i_lt, -Int32.not_le, -Int32.not_lt]
            have hW : (VX cI cJ cO B gG tG kG ik le by_ tk bg en va tn (shtB bO (nI k) b v) sO nU (shtT fS (nI k) b v) cW) = (VX cI cJ cO B gG tG kG ik le by_ tk bg en va tn (shtB bO (nI k) b v) (shtS sO (nI k) b v) nU (shtT fS (nI k) b v) cW) := congrArg (fun z => (VX cI cJ cO B gG tG kG ik le by_ tk bg en va tn (shtB bO (nI k) b v) z nU (shtT fS (nI k) b v) cW)) hE
            have hP : va_P D vwCl (VX cI cJ cO B gG tG kG ik le by_ tk bg en va tn (shtB bO (nI k) b v) (shtS sO (nI k) b v) nU (shtT fS (nI k) b v) cW) H := Eq.mp (congrArg (fun z => va_P D vwCl z H) hW) hP
            have hD : va_D _ (VX cI cJ cO B gG tG kG ik le by_ tk bg en va tn (shtB bO (nI k) b v) (shtS sO (nI k) b v) nU (shtT fS (nI k) b v) cW) := Eq.mp (congrArg (fun z => va_D _ z) hW) hD
            have hE : nU = shtU nU (nI k) b v := by simp [shtR, shtT, shtB, shtS, shtU, shtW, shtZ, bitsOk, pk_us, bump, put9, b2i, c13, c19, c25, c42, yk, ek, i_lt, -Int32.not_le, -Int32.not_lt]
            have hW : (VX cI cJ cO B gG tG kG ik le by_ tk bg en va tn (shtB bO (nI k) b v) (shtS sO (nI k) b v) nU (shtT fS (nI k) b v) cW) = (VX cI cJ cO B gG tG kG ik le by_ tk bg en va tn (shtB bO (nI k) b v) (shtS sO (nI k) b v) (shtU nU (nI k) b v) (shtT fS (nI k) b v) cW) := congrArg (fun z => (VX cI cJ cO B gG tG kG ik le by_ tk bg en va tn (shtB bO (nI k) b v) (shtS sO (nI k) b v) z (shtT fS (nI k) b v) cW)) hE
            have hP : va_P D vwCl (VX cI cJ cO B gG tG kG ik le by_ tk bg en va tn (shtB bO (nI k) b v) (shtS sO (nI k) b v) (shtU nU (nI k) b v) (shtT fS (nI k) b v) cW) H := Eq.mp (congrArg (fun z => va_P D vwCl z H) hW) hP
            have hD : va_D _ (VX cI cJ cO B gG tG kG ik le by_ tk bg en va tn (shtB bO (nI k) b v) (shtS sO (nI k) b v) (shtU nU (nI k) b v) (shtT fS (nI k) b v) cW) := Eq.mp (congrArg (fun z => va_D _ z) hW) hD
            exact mu_iret (VX cI cJ cO B gG tG kG ik le by_ tk bg en va tn (shtB bO (nI k) b v) (shtS sO (nI k) b v) (shtU nU (nI k) b v) (shtT fS (nI k) b v) cW) hx hb hr hlk hP hS rfl (⟨congrArg (fun z => some (Value.int z)) (by simp [shtR, shtT, shtB, shtS, shtU, shtW, shtZ, bitsOk, pk_us, bump, put9, b2i, c13, c19, c25, c42, yk, ek, i_lt, -Int32.not_le, -Int32.not_lt]), rfl⟩) dX3_sheet_51
        · refine lv_iload_n hx hb dX3_sheet_28 rfl (lv_at hl 3 rfl) ?_
          refine lv_bipush (v := 64) hx hb dX3_sheet_29 rfl ?_
          refine lv_icmp_eq (tgt := 41) hx hb dX3_sheet_31 rfl (fun c31 => ?_) (fun c31 => ?_)
          · refine lv_iload_n hx hb dX3_sheet_41 rfl (lv_at hl 4 rfl) ?_
            refine lv_if_ge (tgt := 52) hx hb dX3_sheet_42 rfl (fun c42 => ?_) (fun c42 => ?_)
            · refine lv_iload_n hx hb dX3_sheet_52 rfl (lv_at hl 4 rfl) ?_
              refine lv_bipush (v := 40) hx hb dX3_sheet_53 rfl ?_
              refine lv_icmp_le (tgt := 65) hx hb dX3_sheet_55 rfl (fun c55 => ?_) (fun c55 => ?_)
              · refine lv_aload hx hb dX3_sheet_65 (lv_at hl 0 rfl) ?_
                refine lv_iload_n hx hb dX3_sheet_67 rfl (lv_at hl 3 rfl) ?_
                refine lv_iload_n hx hb dX3_sheet_68 rfl (lv_at hl 4 rfl) ?_
                refine mu_V (w := (SW cJ (B (10 + 2 * k)) (B (11 + 2 * k)) (bO k) (sO k) (fun z7 => nU (40 * k + z7)))) (rest := []) S hK hP hD hS (k_X1_lay b v) gv_X3_180 hd_X1_lay ⟨Nat.le_of_ble_eq_true rfl, Nat.le_of_ble_eq_true rfl⟩ [10 + 2 * k, 11 + 2 * k] (vx_nd k) (vx_is (k := k) (by omega) (rfl)) 1 rfl rfl rfl rfl hl.1 (lv_room (Nat.le_of_ble_eq_true rfl)) dX3_sheet_69 ⟨Nat.zero_le _, Nat.zero_le _⟩ (fun ov w' H locs hp hP hD hS => ?_)
                obtain ⟨rfl, rfl⟩ := hp
                obtain ⟨hP, hD⟩ := vx_lay (k := k) hP hD (by omega)
                have hP : va_P D vwCl (VX cI cJ cO B gG tG kG ik le by_ tk bg en va tn (upd bO k b) (upd sO k (shtZ b v)) (zeroL nU k 40) fS cW) H := hP
                have hD : va_D _ (VX cI cJ cO B gG tG kG ik le by_ tk bg en va tn (upd bO k b) (upd sO k (shtZ b v)) (zeroL nU k 40) fS cW) := hD
                refine W.eq (g2 := F0 m 72 ls []) rfl ?_
                refine lv_aload hx hb dX3_sheet_72 (lv_at hl 0 rfl) ?_
                refine va_get (ci := 1) (v := .int ((upd sO k (shtZ b v)) k)) hx hb hts wx_X1 hown hK (vx_sub hP (k := k) (by omega) (rfl)) 0 rfl rfl 1 (by decide) (hts _ wf_X3_184) (fun _ h9 => h9) rfl dX3_sheet_74 ?_
                have hE : fS = shtT fS (nI k) b v := by simp [shtR, shtT, shtB, shtS, shtU, shtW, shtZ, bitsOk, pk_us, bump, put9, b2i, c13, c19, c25, c31, c42, c55, yk, ek, i_lt, -Int32.not_le, -Int32.not_lt]
                have hW : (VX cI cJ cO B gG tG kG ik le by_ tk bg en va tn (upd bO k b) (upd sO k (shtZ b v)) (zeroL nU k 40) fS cW) = (VX cI cJ cO B gG tG kG ik le by_ tk bg en va tn (upd bO k b) (upd sO k (shtZ b v)) (zeroL nU k 40) (shtT fS (nI k) b v) cW) := congrArg (fun z => (VX cI cJ cO B gG tG kG ik le by_ tk bg en va tn (upd bO k b) (upd sO k (shtZ b v)) (zeroL nU k 40) z cW)) hE
                have hP : va_P D vwCl (VX cI cJ cO B gG tG kG ik le by_ tk bg en va tn (upd bO k b) (upd sO k (shtZ b v)) (zeroL nU k 40) (shtT fS (nI k) b v) cW) H := Eq.mp (congrArg (fun z => va_P D vwCl z H) hW) hP
                have hD : va_D _ (VX cI cJ cO B gG tG kG ik le by_ tk bg en va tn (upd bO k b) (upd sO k (shtZ b v)) (zeroL nU k 40) (shtT fS (nI k) b v) cW) := Eq.mp (congrArg (fun z => va_D _ z) hW) hD
                have hE : upd bO k b = shtB bO (nI k) b v := by simp [shtR, shtT, shtB, shtS, shtU, shtW, shtZ, bitsOk, pk_us, bump, put9, b2i, c13, c19, c25, c31, c42, c55, yk, ek, i_lt, -Int32.not_le, -Int32.not_lt]
                have hW : (VX cI cJ cO B gG tG kG ik le by_ tk bg en va tn (upd bO k b) (upd sO k (shtZ b v)) (zeroL nU k 40) (shtT fS (nI k) b v) cW) = (VX cI cJ cO B gG tG kG ik le by_ tk bg en va tn (shtB bO (nI k) b v) (upd sO k (shtZ b v)) (zeroL nU k 40) (shtT fS (nI k) b v) cW) := congrArg (fun z => (VX cI cJ cO B gG tG kG ik le by_ tk bg en va tn z (upd sO k (shtZ b v)) (zeroL nU k 40) (shtT fS (nI k) b v) cW)) hE
                have hP : va_P D vwCl (VX cI cJ cO B gG tG kG ik le by_ tk bg en va tn (shtB bO (nI k) b v) (upd sO k (shtZ b v)) (zeroL nU k 40) (shtT fS (nI k) b v) cW) H := Eq.mp (congrArg (fun z => va_P D vwCl z H) hW) hP
                have hD : va_D _ (VX cI cJ cO B gG tG kG ik le by_ tk bg en va tn (shtB bO (nI k) b v) (upd sO k (shtZ b v)) (zeroL nU k 40) (shtT fS (nI k) b v) cW) := Eq.mp (congrArg (fun z => va_D _ z) hW) hD
                have hE : upd sO k (shtZ b v) = shtS sO (nI k) b v := by simp [shtR, shtT, shtB, shtS, shtU, shtW, shtZ, bitsOk, pk_us, bump, put9, b2i, c13, c19, c25, c31, c42, c55, yk, ek, i_lt, -Int32.not_le, -Int32.not_lt]
                have hW : (VX cI cJ cO B gG tG kG ik le by_ tk bg en va tn (shtB bO (nI k) b v) (upd sO k (shtZ b v)) (zeroL nU k 40) (shtT fS (nI k) b v) cW) = (VX cI cJ cO B gG tG kG ik le by_ tk bg en va tn (shtB bO (nI k) b v) (shtS sO (nI k) b v) (zeroL nU k 40) (shtT fS (nI k) b v) cW) := congrArg (fun z => (VX cI cJ cO B gG tG kG ik le by_ tk bg en va tn (shtB bO (nI k) b v) z (zeroL nU k 40) (shtT fS (nI k) b v) cW)) hE
                have hP : va_P D vwCl (VX cI cJ cO B gG tG kG ik le by_ tk bg en va tn (shtB bO (nI k) b v) (shtS sO (nI k) b v) (zeroL nU k 40) (shtT fS (nI k) b v) cW) H := Eq.mp (congrArg (fun z => va_P D vwCl z H) hW) hP
                have hD : va_D _ (VX cI cJ cO B gG tG kG ik le by_ tk bg en va tn (shtB bO (nI k) b v) (shtS sO (nI k) b v) (zeroL nU k 40) (shtT fS (nI k) b v) cW) := Eq.mp (congrArg (fun z => va_D _ z) hW) hD
                have hE : zeroL nU k 40 = shtU nU (nI k) b v := by simp [shtR, shtT, shtB, shtS, shtU, shtW, shtZ, bitsOk, pk_us, bump, put9, b2i, c13, c19, c25, c31, c42, c55, yk, ek, i_lt, -Int32.not_le, -Int32.not_lt]
                have hW : (VX cI cJ cO B gG tG kG ik le by_ tk bg en va tn (shtB bO (nI k) b v) (shtS sO (nI k) b v) (zeroL nU k 40) (shtT fS (nI k) b v) cW) = (VX cI cJ cO B gG tG kG ik le by_ tk bg en va tn (shtB bO (nI k) b v) (shtS sO (nI k) b v) (shtU nU (nI k) b v) (shtT fS (nI k) b v) cW) := congrArg (fun z => (VX cI cJ cO B gG tG kG ik le by_ tk bg en va tn (shtB bO (nI k) b v) (shtS sO (nI k) b v) z (shtT fS (nI k) b v) cW)) hE
                have hP : va_P D vwCl (VX cI cJ cO B gG tG kG ik le by_ tk bg en va tn (shtB bO (nI k) b v) (shtS sO (nI k) b v) (shtU nU (nI k) b v) (shtT fS (nI k) b v) cW) H := Eq.mp (congrArg (fun z => va_P D vwCl z H) hW) hP
                have hD : va_D _ (VX cI cJ cO B gG tG kG ik le by_ tk bg en va tn (shtB bO (nI k) b v) (shtS sO (nI k) b v) (shtU nU (nI k) b v) (shtT fS (nI k) b v) cW) := Eq.mp (congrArg (fun z => va_D _ z) hW) hD
                exact mu_iret (VX cI cJ cO B gG tG kG ik le by_ tk bg en va tn (shtB bO (nI k) b v) (shtS sO (nI k) b v) (shtU nU (nI k) b v) (shtT fS (nI k) b v) cW) hx hb hr hlk hP hS rfl (⟨congrArg (fun z => some (Value.int z)) (by simp [shtR, shtT, shtB, shtS, shtU, shtW, shtZ, bitsOk, pk_us, bump, put9, b2i, c13, c19, c25, c31, c42, c55, yk, ek, i_lt, -Int32.not_le, -Int32.not_lt]), rfl⟩) dX3_sheet_77
              · refine lv_aload_n hx hb dX3_sheet_58 rfl (lv_at hl 1 rfl) ?_
                refine lv_ldc (v := (-1000000001)) hx hb hown (hts _ wq_X3_51) dX3_sheet_59 ?_
                refine mu_W (w := (VX cI cJ cO B gG tG kG ik le by_ tk bg en va tn bO sO nU fS cW)) (rest := []) S hK hP hD hS (k_X3_finding 0 (-1000000001) (by decide) (by decide)) gv_X3_52 hd_X3_finding ⟨Nat.le_of_ble_eq_true rfl, Nat.le_of_ble_eq_true rfl⟩ 3 rfl rfl rfl rfl hl.1 (lv_room (Nat.le_of_ble_eq_true rfl)) dX3_sheet_61 ⟨Nat.zero_le _, Nat.zero_le _⟩ (fun ov w' H locs hp hP hD hS => ?_)
                obtain ⟨rfl, rfl⟩ := hp
                have hP : va_P D vwCl (VX cI cJ cO B gG tG kG ik le by_ tk bg en va tn bO sO nU (upd fS 0 (fS 0 + 1)) cW) H := hP
                have hD : va_D _ (VX cI cJ cO B gG tG kG ik le by_ tk bg en va tn bO sO nU (upd fS 0 (fS 0 + 1)) cW) := hD
                refine W.eq (g2 := F0 m 64 ls [.int (-1000000001)]) rfl ?_
                have hE : upd fS 0 (fS 0 + 1) = shtT fS (nI k) b v := by simp [shtR, shtT, shtB, shtS, shtU, shtW, shtZ, bitsOk, pk_us, bump, put9, b2i, c13, c19, c25, c31, c42, c55, yk, ek, i_lt, -Int32.not_le, -Int32.not_lt]
                have hW : (VX cI cJ cO B gG tG kG ik le by_ tk bg en va tn bO sO nU (upd fS 0 (fS 0 + 1)) cW) = (VX cI cJ cO B gG tG kG ik le by_ tk bg en va tn bO sO nU (shtT fS (nI k) b v) cW) := congrArg (fun z => (VX cI cJ cO B gG tG kG ik le by_ tk bg en va tn bO sO nU z cW)) hE
                have hP : va_P D vwCl (VX cI cJ cO B gG tG kG ik le by_ tk bg en va tn bO sO nU (shtT fS (nI k) b v) cW) H := Eq.mp (congrArg (fun z => va_P D vwCl z H) hW) hP
                have hD : va_D _ (VX cI cJ cO B gG tG kG ik le by_ tk bg en va tn bO sO nU (shtT fS (nI k) b v) cW) := Eq.mp (congrArg (fun z => va_D _ z) hW) hD
                have hE : bO = shtB bO (nI k) b v := by simp [shtR, shtT, shtB, shtS, shtU, shtW, shtZ, bitsOk, pk_us, bump, put9, b2i, c13, c19, c25, c31, c42, c55, yk, ek, i_lt, -Int32.not_le, -Int32.not_lt]
                have hW : (VX cI cJ cO B gG tG kG ik le by_ tk bg en va tn bO sO nU (shtT fS (nI k) b v) cW) = (VX cI cJ cO B gG tG kG ik le by_ tk bg en va tn (shtB bO (nI k) b v) sO nU (shtT fS (nI k) b v) cW) := congrArg (fun z => (VX cI cJ cO B gG tG kG ik le by_ tk bg en va tn z sO nU (shtT fS (nI k) b v) cW)) hE
                have hP : va_P D vwCl (VX cI cJ cO B gG tG kG ik le by_ tk bg en va tn (shtB bO (nI k) b v) sO nU (shtT fS (nI k) b v) cW) H := Eq.mp (congrArg (fun z => va_P D vwCl z H) hW) hP
                have hD : va_D _ (VX cI cJ cO B gG tG kG ik le by_ tk bg en va tn (shtB bO (nI k) b v) sO nU (shtT fS (nI k) b v) cW) := Eq.mp (congrArg (fun z => va_D _ z) hW) hD
                have hE : sO = shtS sO (nI k) b v := by simp [shtR, shtT, shtB, shtS, shtU, shtW, shtZ, bitsOk, pk_us, bump, put9, b2i, c13, c19, c25, c31, c42, c55, yk, ek, i_lt, -Int32.not_le, -Int32.not_lt]
                have hW : (VX cI cJ cO B gG tG kG ik le by_ tk bg en va tn (shtB bO (nI k) b v) sO nU (shtT fS (nI k) b v) cW) = (VX cI cJ cO B gG tG kG ik le by_ tk bg en va tn (shtB bO (nI k) b v) (shtS sO (nI k) b v) nU (shtT fS (nI k) b v) cW) := congrArg (fun z => (VX cI cJ cO B gG tG kG ik le by_ tk bg en va tn (shtB bO (nI k) b v) z nU (shtT fS (nI k) b v) cW)) hE
                have hP : va_P D vwCl (VX cI cJ cO B gG tG kG ik le by_ tk bg en va tn (shtB bO (nI k) b v) (shtS sO (nI k) b v) nU (shtT fS (nI k) b v) cW) H := Eq.mp (congrArg (fun z => va_P D vwCl z H) hW) hP
                have hD : va_D _ (VX cI cJ cO B gG tG kG ik le by_ tk bg en va tn (shtB bO (nI k) b v) (shtS sO (nI k) b v) nU (shtT fS (nI k) b v) cW) := Eq.mp (congrArg (fun z => va_D _ z) hW) hD
                have hE : nU = shtU nU (nI k) b v := by simp [shtR, shtT, shtB, shtS, shtU, shtW, shtZ, bitsOk, pk_us, bump, put9, b2i, c13, c19, c25, c31, c42, c55, yk, ek, i_lt, -Int32.not_le, -Int32.not_lt]
                have hW : (VX cI cJ cO B gG tG kG ik le by_ tk bg en va tn (shtB bO (nI k) b v) (shtS sO (nI k) b v) nU (shtT fS (nI k) b v) cW) = (VX cI cJ cO B gG tG kG ik le by_ tk bg en va tn (shtB bO (nI k) b v) (shtS sO (nI k) b v) (shtU nU (nI k) b v) (shtT fS (nI k) b v) cW) := congrArg (fun z => (VX cI cJ cO B gG tG kG ik le by_ tk bg en va tn (shtB bO (nI k) b v) (shtS sO (nI k) b v) z (shtT fS (nI k) b v) cW)) hE
                have hP : va_P D vwCl (VX cI cJ cO B gG tG kG ik le by_ tk bg en va tn (shtB bO (nI k) b v) (shtS sO (nI k) b v) (shtU nU (nI k) b v) (shtT fS (nI k) b v) cW) H := Eq.mp (congrArg (fun z => va_P D vwCl z H) hW) hP
                have hD : va_D _ (VX cI cJ cO B gG tG kG ik le by_ tk bg en va tn (shtB bO (nI k) b v) (shtS sO (nI k) b v) (shtU nU (nI k) b v) (shtT fS (nI k) b v) cW) := Eq.mp (congrArg (fun z => va_D _ z) hW) hD
                exact mu_iret (VX cI cJ cO B gG tG kG ik le by_ tk bg en va tn (shtB bO (nI k) b v) (shtS sO (nI k) b v) (shtU nU (nI k) b v) (shtT fS (nI k) b v) cW) hx hb hr hlk hP hS rfl (⟨congrArg (fun z => some (Value.int z)) (by simp [shtR, shtT, shtB, shtS, shtU, shtW, shtZ, bitsOk, pk_us, bump, put9, b2i, c13, c19, c25, c31, c42, c55, yk, ek, i_lt, -Int32.not_le, -Int32.not_lt]), rfl⟩) dX3_sheet_64
            · refine lv_aload_n hx hb dX3_sheet_45 rfl (lv_at hl 1 rfl) ?_
              refine lv_ldc (v := (-1000000007)) hx hb hown (hts _ wq_X3_179) dX3_sheet_46 ?_
              refine mu_W (w := (VX cI cJ cO B gG tG kG ik le by_ tk bg en va tn bO sO nU fS cW)) (rest := []) S hK hP hD hS (k_X3_finding 6 (-1000000007) (by decide) (by decide)) gv_X3_52 hd_X3_finding ⟨Nat.le_of_ble_eq_true rfl, Nat.le_of_ble_eq_true rfl⟩ 3 rfl rfl rfl rfl hl.1 (lv_room (Nat.le_of_ble_eq_true rfl)) dX3_sheet_48 ⟨Nat.zero_le _, Nat.zero_le _⟩ (fun ov w' H locs hp hP hD hS => ?_)
              obtain ⟨rfl, rfl⟩ := hp
              have hP : va_P D vwCl (VX cI cJ cO B gG tG kG ik le by_ tk bg en va tn bO sO nU (upd fS 6 (fS 6 + 1)) cW) H := hP
              have hD : va_D _ (VX cI cJ cO B gG tG kG ik le by_ tk bg en va tn bO sO nU (upd fS 6 (fS 6 + 1)) cW) := hD
              refine W.eq (g2 := F0 m 51 ls [.int (-1000000007)]) rfl ?_
              have hE : upd fS 6 (fS 6 + 1) = shtT fS (nI k) b v := by simp [shtR, shtT, shtB, shtS, shtU, shtW, shtZ, bitsOk, pk_us, bump, put9, b2i, c13, c19, c25, c31, c42, yk, ek, i_lt, -Int32.not_le, -Int32.not_lt]
              have hW : (VX cI cJ cO B gG tG kG ik le by_ tk bg en va tn bO sO nU (upd fS 6 (fS 6 + 1)) cW) = (VX cI cJ cO B gG tG kG ik le by_ tk bg en va tn bO sO nU (shtT fS (nI k) b v) cW) := congrArg (fun z => (VX cI cJ cO B gG tG kG ik le by_ tk bg en va tn bO sO nU z cW)) hE
              have hP : va_P D vwCl (VX cI cJ cO B gG tG kG ik le by_ tk bg en va tn bO sO nU (shtT fS (nI k) b v) cW) H := Eq.mp (congrArg (fun z => va_P D vwCl z H) hW) hP
              have hD : va_D _ (VX cI cJ cO B gG tG kG ik le by_ tk bg en va tn bO sO nU (shtT fS (nI k) b v) cW) := Eq.mp (congrArg (fun z => va_D _ z) hW) hD
              have hE : bO = shtB bO (nI k) b v := by simp [shtR, shtT, shtB, shtS, shtU, shtW, shtZ, bitsOk, pk_us, bump, put9, b2i, c13, c19, c25, c31, c42, yk, ek, i_lt, -Int32.not_le, -Int32.not_lt]
              have hW : (VX cI cJ cO B gG tG kG ik le by_ tk bg en va tn bO sO nU (shtT fS (nI k) b v) cW) = (VX cI cJ cO B gG tG kG ik le by_ tk bg en va tn (shtB bO (nI k) b v) sO nU (shtT fS (nI k) b v) cW) := congrArg (fun z => (VX cI cJ cO B gG tG kG ik le by_ tk bg en va tn z sO nU (shtT fS (nI k) b v) cW)) hE
              have hP : va_P D vwCl (VX cI cJ cO B gG tG kG ik le by_ tk bg en va tn (shtB bO (nI k) b v) sO nU (shtT fS (nI k) b v) cW) H := Eq.mp (congrArg (fun z => va_P D vwCl z H) hW) hP
              have hD : va_D _ (VX cI cJ cO B gG tG kG ik le by_ tk bg en va tn (shtB bO (nI k) b v) sO nU (shtT fS (nI k) b v) cW) := Eq.mp (congrArg (fun z => va_D _ z) hW) hD
              have hE : sO = shtS sO (nI k) b v := by simp [shtR, shtT, shtB, shtS, shtU, shtW, shtZ, bitsOk, pk_us, bump, put9, b2i, c13, c19, c25, c31, c42, yk, ek, i_lt, -Int32.not_le, -Int32.not_lt]
              have hW : (VX cI cJ cO B gG tG kG ik le by_ tk bg en va tn (shtB bO (nI k) b v) sO nU (shtT fS (nI k) b v) cW) = (VX cI cJ cO B gG tG kG ik le by_ tk bg en va tn (shtB bO (nI k) b v) (shtS sO (nI k) b v) nU (shtT fS (nI k) b v) cW) := congrArg (fun z => (VX cI cJ cO B gG tG kG ik le by_ tk bg en va tn (shtB bO (nI k) b v) z nU (shtT fS (nI k) b v) cW)) hE
              have hP : va_P D vwCl (VX cI cJ cO B gG tG kG ik le by_ tk bg en va tn (shtB bO (nI k) b v) (shtS sO (nI k) b v) nU (shtT fS (nI k) b v) cW) H := Eq.mp (congrArg (fun z => va_P D vwCl z H) hW) hP
              have hD : va_D _ (VX cI cJ cO B gG tG kG ik le by_ tk bg en va tn (shtB bO (nI k) b v) (shtS sO (nI k) b v) nU (shtT fS (nI k) b v) cW) := Eq.mp (congrArg (fun z => va_D _ z) hW) hD
              have hE : nU = shtU nU (nI k) b v := by simp [shtR, shtT, shtB, shtS, shtU, shtW, shtZ, bitsOk, pk_us, bump, put9, b2i, c13, c19, c25, c31, c42, yk, ek, i_lt, -Int32.not_le, -Int32.not_lt]
              have hW : (VX cI cJ cO B gG tG kG ik le by_ tk bg en va tn (shtB bO (nI k) b v) (shtS sO (nI k) b v) nU (shtT fS (nI k) b v) cW) = (VX cI cJ cO B gG tG kG ik le by_ tk bg en va tn (shtB bO (nI k) b v) (shtS sO (nI k) b v) (shtU nU (nI k) b v) (shtT fS (nI k) b v) cW) := congrArg (fun z => (VX cI cJ cO B gG tG kG ik le by_ tk bg en va tn (shtB bO (nI k) b v) (shtS sO (nI k) b v) z (shtT fS (nI k) b v) cW)) hE
              have hP : va_P D vwCl (VX cI cJ cO B gG tG kG ik le by_ tk bg en va tn (shtB bO (nI k) b v) (shtS sO (nI k) b v) (shtU nU (nI k) b v) (shtT fS (nI k) b v) cW) H := Eq.mp (congrArg (fun z => va_P D vwCl z H) hW) hP
              have hD : va_D _ (VX cI cJ cO B gG tG kG ik le by_ tk bg en va tn (shtB bO (nI k) b v) (shtS sO (nI k) b v) (shtU nU (nI k) b v) (shtT fS (nI k) b v) cW) := Eq.mp (congrArg (fun z => va_D _ z) hW) hD
              exact mu_iret (VX cI cJ cO B gG tG kG ik le by_ tk bg en va tn (shtB bO (nI k) b v) (shtS sO (nI k) b v) (shtU nU (nI k) b v) (shtT fS (nI k) b v) cW) hx hb hr hlk hP hS rfl (⟨congrArg (fun z => some (Value.int z)) (by simp [shtR, shtT, shtB, shtS, shtU, shtW, shtZ, bitsOk, pk_us, bump, put9, b2i, c13, c19, c25, c31, c42, yk, ek, i_lt, -Int32.not_le, -Int32.not_lt]), rfl⟩) dX3_sheet_51
          · refine lv_aload_n hx hb dX3_sheet_34 rfl (lv_at hl 1 rfl) ?_
            refine lv_ldc (v := (-1000000001)) hx hb hown (hts _ wq_X3_51) dX3_sheet_35 ?_
            refine mu_W (w := (VX cI cJ cO B gG tG kG ik le by_ tk bg en va tn bO sO nU fS cW)) (rest := []) S hK hP hD hS (k_X3_finding 0 (-1000000001) (by decide) (by decide)) gv_X3_52 hd_X3_finding ⟨Nat.le_of_ble_eq_true rfl, Nat.le_of_ble_eq_true rfl⟩ 3 rfl rfl rfl rfl hl.1 (lv_room (Nat.le_of_ble_eq_true rfl)) dX3_sheet_37 ⟨Nat.zero_le _, Nat.zero_le _⟩ (fun ov w' H locs hp hP hD hS => ?_)
            obtain ⟨rfl, rfl⟩ := hp
            have hP : va_P D vwCl (VX cI cJ cO B gG tG kG ik le by_ tk bg en va tn bO sO nU (upd fS 0 (fS 0 + 1)) cW) H := hP
            have hD : va_D _ (VX cI cJ cO B gG tG kG ik le by_ tk bg en va tn bO sO nU (upd fS 0 (fS 0 + 1)) cW) := hD
            refine W.eq (g2 := F0 m 40 ls [.int (-1000000001)]) rfl ?_
            have hE : upd fS 0 (fS 0 + 1) = shtT fS (nI k) b v := by simp [shtR, shtT, shtB, shtS, shtU, shtW, shtZ, bitsOk, pk_us, bump, put9, b2i, c13, c19, c25, c31, yk, ek, i_lt, -Int32.not_le, -Int32.not_lt]
            have hW : (VX cI cJ cO B gG tG kG ik le by_ tk bg en va tn bO sO nU (upd fS 0 (fS 0 + 1)) cW) = (VX cI cJ cO B gG tG kG ik le by_ tk bg en va tn bO sO nU (shtT fS (nI k) b v) cW) := congrArg (fun z => (VX cI cJ cO B gG tG kG ik le by_ tk bg en va tn bO sO nU z cW)) hE
            have hP : va_P D vwCl (VX cI cJ cO B gG tG kG ik le by_ tk bg en va tn bO sO nU (shtT fS (nI k) b v) cW) H := Eq.mp (congrArg (fun z => va_P D vwCl z H) hW) hP
            have hD : va_D _ (VX cI cJ cO B gG tG kG ik le by_ tk bg en va tn bO sO nU (shtT fS (nI k) b v) cW) := Eq.mp (congrArg (fun z => va_D _ z) hW) hD
            have hE : bO = shtB bO (nI k) b v := by simp [shtR, shtT, shtB, shtS, shtU, shtW, shtZ, bitsOk, pk_us, bump, put9, b2i, c13, c19, c25, c31, yk, ek, i_lt, -Int32.not_le, -Int32.not_lt]
            have hW : (VX cI cJ cO B gG tG kG ik le by_ tk bg en va tn bO sO nU (shtT fS (nI k) b v) cW) = (VX cI cJ cO B gG tG kG ik le by_ tk bg en va tn (shtB bO (nI k) b v) sO nU (shtT fS (nI k) b v) cW) := congrArg (fun z => (VX cI cJ cO B gG tG kG ik le by_ tk bg en va tn z sO nU (shtT fS (nI k) b v) cW)) hE
            have hP : va_P D vwCl (VX cI cJ cO B gG tG kG ik le by_ tk bg en va tn (shtB bO (nI k) b v) sO nU (shtT fS (nI k) b v) cW) H := Eq.mp (congrArg (fun z => va_P D vwCl z H) hW) hP
            have hD : va_D _ (VX cI cJ cO B gG tG kG ik le by_ tk bg en va tn (shtB bO (nI k) b v) sO nU (shtT fS (nI k) b v) cW) := Eq.mp (congrArg (fun z => va_D _ z) hW) hD
            have hE : sO = shtS sO (nI k) b v := by simp [shtR, shtT, shtB, shtS, shtU, shtW, shtZ, bitsOk, pk_us, bump, put9, b2i, c13, c19, c25, c31, yk, ek, i_lt, -Int32.not_le, -Int32.not_lt]
            have hW : (VX cI cJ cO B gG tG kG ik le by_ tk bg en va tn (shtB bO (nI k) b v) sO nU (shtT fS (nI k) b v) cW) = (VX cI cJ cO B gG tG kG ik le by_ tk bg en va tn (shtB bO (nI k) b v) (shtS sO (nI k) b v) nU (shtT fS (nI k) b v) cW) := congrArg (fun z => (VX cI cJ cO B gG tG kG ik le by_ tk bg en va tn (shtB bO (nI k) b v) z nU (shtT fS (nI k) b v) cW)) hE
            have hP : va_P D vwCl (VX cI cJ cO B gG tG kG ik le by_ tk bg en va tn (shtB bO (nI k) b v) (shtS sO (nI k) b v) nU (shtT fS (nI k) b v) cW) H := Eq.mp (congrArg (fun z => va_P D vwCl z H) hW) hP
            have hD : va_D _ (VX cI cJ cO B gG tG kG ik le by_ tk bg en va tn (shtB bO (nI k) b v) (shtS sO (nI k) b v) nU (shtT fS (nI k) b v) cW) := Eq.mp (congrArg (fun z => va_D _ z) hW) hD
            have hE : nU = shtU nU (nI k) b v := by simp [shtR, shtT, shtB, shtS, shtU, shtW, shtZ, bitsOk, pk_us, bump, put9, b2i, c13, c19, c25, c31, yk, ek, i_lt, -Int32.not_le, -Int32.not_lt]
            have hW : (VX cI cJ cO B gG tG kG ik le by_ tk bg en va tn (shtB bO (nI k) b v) (shtS sO (nI k) b v) nU (shtT fS (nI k) b v) cW) = (VX cI cJ cO B gG tG kG ik le by_ tk bg en va tn (shtB bO (nI k) b v) (shtS sO (nI k) b v) (shtU nU (nI k) b v) (shtT fS (nI k) b v) cW) := congrArg (fun z => (VX cI cJ cO B gG tG kG ik le by_ tk bg en va tn (shtB bO (nI k) b v) (shtS sO (nI k) b v) z (shtT fS (nI k) b v) cW)) hE
            have hP : va_P D vwCl (VX cI cJ cO B gG tG kG ik le by_ tk bg en va tn (shtB bO (nI k) b v) (shtS sO (nI k) b v) (shtU nU (nI k) b v) (shtT fS (nI k) b v) cW) H := Eq.mp (congrArg (fun z => va_P D vwCl z H) hW) hP
            have hD : va_D _ (VX cI cJ cO B gG tG kG ik le by_ tk bg en va tn (shtB bO (nI k) b v) (shtS sO (nI k) b v) (shtU nU (nI k) b v) (shtT fS (nI k) b v) cW) := Eq.mp (congrArg (fun z => va_D _ z) hW) hD
            exact mu_iret (VX cI cJ cO B gG tG kG ik le by_ tk bg en va tn (shtB bO (nI k) b v) (shtS sO (nI k) b v) (shtU nU (nI k) b v) (shtT fS (nI k) b v) cW) hx hb hr hlk hP hS rfl (⟨congrArg (fun z => some (Value.int z)) (by simp [shtR, shtT, shtB, shtS, shtU, shtW, shtZ, bitsOk, pk_us, bump, put9, b2i, c13, c19, c25, c31, yk, ek, i_lt, -Int32.not_le, -Int32.not_lt]), rfl⟩) dX3_sheet_40

set_option maxHeartbeats 4000000 in
set_option maxRecDepth 100000 in
theorem k_X3_write (x : Int32) (i : Int32) (v : Int64) (hSh : ShI sO) : MU l D (tyA cI cJ cO) yX3_write cX3_write 8 ((some .long)) 2 45 [.ref (B 0), .int x, .int i, .long v] (VX cI cJ cO B gG tG kG ik le by_ tk bg en va tn bO sO nU fS cW) (fun ov w' => ov = some (.long (wrtR bO sO nU x i)) ∧ w' = (VX cI cJ cO B gG tG kG ik le by_ tk bg en va tn bO sO (wrtU bO sO nU x i v) (wrtT fS bO sO x i) cW)) := by
  refine MU.mk (by decide) (Nat.le_of_ble_eq_true rfl) ?_
  intro p e s m below meth c ls S hr hlk hP hK hD hS hl
  have S : CallFix p m c cX3_write 8 s _ WL RX3 := S
  obtain ⟨hx, hb, hml, hown, hts⟩ := id S
  have hl : lv_has ls 8 [(0, .ref (B 0)), (1, .int x), (2, .int i), (3, .long v)] := hl
  refine lv_aload_n hx hb dX3_write_0 rfl (lv_at hl 0 rfl) ?_
  refine lv_iload_n hx hb dX3_write_1 rfl (lv_at hl 1 rfl) ?_
  rcases sh_c x with hno | ⟨k, hk, rfl⟩
  · refine ro_V (w := (VX cI cJ cO B gG tG kG ik le by_ tk bg en va tn bO sO nU fS cW)) (rest := []) S hK hP (k_X3_sheetAt_no x hno) gv_X3_175 hd_X3_sheetAt ⟨Nat.le_of_ble_eq_true rfl, Nat.le_of_ble_eq_true rfl⟩ 3 rfl rfl rfl rfl hl.1 (lv_room (Nat.le_of_ble_eq_true rfl)) dX3_write_2 ⟨Nat.zero_le _, Nat.zero_le _⟩ ?_
    refine W.eq (g2 := F0 m 5 ls [.null]) rfl ?_
    refine lv_astoreN (lv' := [(5, .null), (0, .ref (B 0)), (1, .int x), (2, .int i), (3, .long v)]) hx hb dX3_write_5 hl (by decide) rfl (fun ls hl => ?_)
    refine lv_aloadN hx hb dX3_write_7 (lv_at hl 0 rfl) ?_
    refine lv_ifnonnullN hx hb dX3_write_9 ?_
    refine lv_aload_n hx hb dX3_write_12 rfl (lv_at hl 1 rfl) ?_
    refine lv_ldc (v := (-1000000001)) hx hb hown (hts _ wq_X3_51) dX3_write_13 ?_
    refine mu_W (w := (VX cI cJ cO B gG tG kG ik le by_ tk bg en va tn bO sO nU fS cW)) (rest := []) S hK hP hD hS (k_X3_finding 0 (-1000000001) (by decide) (by decide)) gv_X3_52 hd_X3_finding ⟨Nat.le_of_ble_eq_true rfl, Nat.le_of_ble_eq_true rfl⟩ 3 rfl rfl rfl rfl hl.1 (lv_room (Nat.le_of_ble_eq_true rfl)) dX3_write_15 ⟨Nat.zero_le _, Nat.zero_le _⟩ (fun ov w' H locs hp hP hD hS => ?_)
    obtain ⟨rfl, rfl⟩ := hp
    have hP : va_P D vwCl (VX cI cJ cO B gG tG kG ik le by_ tk bg en va tn bO sO nU (upd fS 0 (fS 0 + 1)) cW) H := hP
    have hD : va_D _ (VX cI cJ cO B gG tG kG ik le by_ tk bg en va tn bO sO nU (upd fS 0 (fS 0 + 1)) cW) := hD
    refine W.eq (g2 := F0 m 18 ls [.int (-1000000001)]) rfl ?_
    refine lv_i2l hx hb dX3_write_18 rfl ?_
    have hE : upd fS 0 (fS 0 + 1) = wrtT fS bO sO x i := by simp [wrtR, wrtT, wrtU, wrtOk, wrT, wrongS, bump, put9, b2i, hno, i_lt, -Int32.not_le, -Int32.not_lt]
    have hW : (VX cI cJ cO B gG tG kG ik le by_ tk bg en va tn bO sO nU (upd fS 0 (fS 0 + 1)) cW) = (VX cI cJ cO B gG tG kG ik le by_ tk bg en va tn bO sO nU (wrtT fS bO sO x i) cW) := congrArg (fun z => (VX cI cJ cO B gG tG kG ik le by_ tk bg en va tn bO sO nU z cW)) hE
    have hP : va_P D vwCl (VX cI cJ cO B gG tG kG ik le by_ tk bg en va tn bO sO nU (wrtT fS bO sO x i) cW) H := Eq.mp (congrArg (fun z => va_P D vwCl z H) hW) hP
    have hD : va_D _ (VX cI cJ cO B gG tG kG ik le by_ tk bg en va tn bO sO nU (wrtT fS bO sO x i) cW) := Eq.mp (congrArg (fun z => va_D _ z) hW) hD
    have hE : nU = wrtU bO sO nU x i v := by simp [wrtR, wrtT, wrtU, wrtOk, wrT, wrongS, bump, put9, b2i, hno, i_lt, -Int32.not_le, -Int32.not_lt]
    have hW : (VX cI cJ cO B gG tG kG ik le by_ tk bg en va tn bO sO nU (wrtT fS bO sO x i) cW) = (VX cI cJ cO B gG tG kG ik le by_ tk bg en va tn bO sO (wrtU bO sO nU x i v) (wrtT fS bO sO x i) cW) := congrArg (fun z => (VX cI cJ cO B gG tG kG ik le by_ tk bg en va tn bO sO z (wrtT fS bO sO x i) cW)) hE
    have hP : va_P D vwCl (VX cI cJ cO B gG tG kG ik le by_ tk bg en va tn bO sO (wrtU bO sO nU x i v) (wrtT fS bO sO x i) cW) H := Eq.mp (congrArg (fun z => va_P D vwCl z H) hW) hP
    have hD : va_D _ (VX cI cJ cO B gG tG kG ik le by_ tk bg en va tn bO sO (wrtU bO sO nU x i v) (wrtT fS bO sO x i) cW) := Eq.mp (congrArg (fun z => va_D _ z) hW) hD
    exact mu_lret (VX cI cJ cO B gG tG kG ik le by_ tk bg en va tn bO sO (wrtU bO sO nU x i v) (wrtT fS bO sO x i) cW) hx hb hr hlk hP hS rfl (⟨congrArg (fun z => some (Value.long z)) (by simp [wrtR, wrtT, wrtU, wrtOk, wrT, wrongS, bump, put9, b2i, hno, i_lt, -Int32.not_le, -Int32.not_lt]), rfl⟩) dX3_write_19
  · have yk : inI (nI k) 0 3 = true := sh_y hk
    have ek : cl (nI k) = k := cl_nI (by omega)
    obtain ⟨hz, hz40⟩ := sh_n hSh hk
    refine ro_V (w := (VX cI cJ cO B gG tG kG ik le by_ tk bg en va tn bO sO nU fS cW)) (rest := []) S hK hP (k_X3_sheetAt_k k (by omega)) gv_X3_175 hd_X3_sheetAt ⟨Nat.le_of_ble_eq_true rfl, Nat.le_of_ble_eq_true rfl⟩ 3 rfl rfl rfl rfl hl.1 (lv_room (Nat.le_of_ble_eq_true rfl)) dX3_write_2 ⟨Nat.zero_le _, Nat.zero_le _⟩ ?_
    refine W.eq (g2 := F0 m 5 ls [.ref (B (10 + 2 * k))]) rfl ?_
    refine lv_astore (lv' := [(5, .ref (B (10 + 2 * k))), (0, .ref (B 0)), (1, .int (nI k)), (2, .int i), (3, .long v)]) hx hb dX3_write_5 hl (by decide) rfl (fun ls hl => ?_)
    refine lv_aload hx hb dX3_write_7 (lv_at hl 0 rfl) ?_
    refine lv_ifnonnull (tgt := 20) hx hb dX3_write_9 rfl ?_
    refine lv_aload hx hb dX3_write_20 (lv_at hl 0 rfl) ?_
    refine ro_V (w := (SW cJ (B (10 + 2 * k)) (B (11 + 2 * k)) (bO k) (sO k) (fun z7 => nU (40 * k + z7)))) (rest := []) S hK (vx_sub hP (k := k) (by omega) (rfl)) (k_X1_isMissing ) gv_X3_185 hd_X1_isMissing ⟨Nat.le_of_ble_eq_true rfl, Nat.le_of_ble_eq_true rfl⟩ 1 rfl rfl rfl rfl hl.1 (lv_room (Nat.le_of_ble_eq_true rfl)) dX3_write_22 ⟨Nat.zero_le _, Nat.zero_le _⟩ ?_
    refine lv_if_eq (tgt := 36) hx hb dX3_write_25 rfl (fun c25 => ?_) (fun c25 => ?_)
    · replace c25 := (b2i_0 _).mp c25
      replace c25 := of_decide_eq_false c25
      refine lv_iload_n hx hb dX3_write_36 rfl (lv_at hl 3 rfl) ?_
      refine lv_iconst (v := 0) hx hb dX3_write_37 rfl ?_
      refine lv_aload hx hb dX3_write_38 (lv_at hl 0 rfl) ?_
      refine va_get (ci := 1) (v := .int (sO k)) hx hb hts wx_X1 hown hK (vx_sub hP (k := k) (by omega) (rfl)) 0 rfl rfl 1 (by decide) (hts _ wf_X3_184) (fun _ h9 => h9) rfl dX3_write_40 ?_
      refine lv_iconst (v := 1) hx hb dX3_write_43 rfl ?_
      refine lv_isub hx hb dX3_write_44 ?_
      refine ro_S (w := []) (rest := []) S hK va_P0 (k_X3_isOutside i 0 ((sO k) - 1)) gs_X3_47 hd_X3_isOutside ⟨Nat.le_of_ble_eq_true rfl, Nat.le_of_ble_eq_true rfl⟩ rfl hl.1 (lv_room (Nat.le_of_ble_eq_true rfl)) dX3_write_45 ⟨Nat.zero_le _, Nat.zero_le _⟩ ?_
      refine lv_if_eq (tgt := 59) hx hb dX3_write_48 rfl (fun c48 => ?_) (fun c48 => ?_)
      · replace c48 := bn_0 c48
        obtain ⟨q, hq, rfl⟩ := shi_in2 hSh hk c48
        have eq0 : cl (nI q) = q := cl_nI (by omega)
        refine lv_aload hx hb dX3_write_59 (lv_at hl 0 rfl) ?_
        refine lv_iload_n hx hb dX3_write_61 rfl (lv_at hl 3 rfl) ?_
        refine ro_V (w := (SW cJ (B (10 + 2 * k)) (B (11 + 2 * k)) (bO k) (nI (cl (sO k))) (fun z7 => nU (40 * k + z7)))) (rest := []) S hK (vx_sub hP (k := k) (by omega) (hz)) (k_X1_get (cl (sO k)) q (by omega) (by omega)) gv_X3_189 hd_X1_get ⟨Nat.le_of_ble_eq_true rfl, Nat.le_of_ble_eq_true rfl⟩ 1 rfl rfl rfl rfl hl.1 (lv_room (Nat.le_of_ble_eq_true rfl)) dX3_write_62 ⟨Nat.zero_le _, Nat.zero_le _⟩ ?_
        refine lv_lstore (lv' := [(6, .long (nU (40 * k + q))), (5, .ref (B (10 + 2 * k))), (0, .ref (B 0)), (1, .int (nI k)), (2, .int (nI q)), (3, .long v)]) hx hb dX3_write_65 hl (by decide) rfl (fun ls hl => ?_)
        refine lv_aload hx hb dX3_write_67 (lv_at hl 1 rfl) ?_
        refine lv_iload_n hx hb dX3_write_69 rfl (lv_at hl 4 rfl) ?_
        refine lv_lload_n hx hb dX3_write_70 rfl (lv_at hl 5 rfl) ?_
        refine mu_V (w := (SW cJ (B (10 + 2 * k)) (B (11 + 2 * k)) (bO k) (nI (cl (sO k))) (fun z7 => nU (40 * k + z7)))) (rest := []) S hK hP hD hS (k_X1_put (cl (sO k)) q v (by omega) (by omega)) gv_X3_192 hd_X1_put ⟨Nat.le_of_ble_eq_true rfl, Nat.le_of_ble_eq_true rfl⟩ [10 + 2 * k, 11 + 2 * k] (vx_nd k) (vx_is (k := k) (by omega) (hz)) 1 rfl rfl rfl rfl hl.1 (lv_room (Nat.le_of_ble_eq_true rfl)) dX3_write_71 ⟨Nat.zero_le _, Nat.zero_le _⟩ (fun ov w' H locs hp hP hD hS => ?_)
        obtain ⟨rfl, rfl⟩ := hp
        obtain ⟨hP, hD⟩ := vx_wr (k := k) hP hD (by omega) (hz) (by omega)
        have hP : va_P D vwCl (VX cI cJ cO B gG tG kG ik le by_ tk bg en va tn bO sO (vp_updL nU (40 * k + q) (narL (bO k) v)) fS cW) H := hP
        have hD : va_D _ (VX cI cJ cO B gG tG kG ik le by_ tk bg en va tn bO sO (vp_updL nU (40 * k + q) (narL (bO k) v)) fS cW) := hD
        refine W.eq (g2 := F0 m 74 ls []) rfl ?_
        refine lv_lload hx hb dX3_write_74 (lv_at hl 0 rfl) ?_
        have hE : fS = wrtT fS bO sO (nI k) (nI q) := by simp [wrtR, wrtT, wrtU, wrtOk, wrT, wrongS, bump, put9, b2i, c25, c48, yk, ek, eq0, i_lt, -Int32.not_le, -Int32.not_lt]
        have hW : (VX cI cJ cO B gG tG kG ik le by_ tk bg en va tn bO sO (vp_updL nU (40 * k + q) (narL (bO k) v)) fS cW) = (VX cI cJ cO B gG tG kG ik le by_ tk bg en va tn bO sO (vp_updL nU (40 * k + q) (narL (bO k) v)) (wrtT fS bO sO (nI k) (nI q)) cW) := congrArg (fun z => (VX cI cJ cO B gG tG kG ik le by_ tk bg en va tn bO sO (vp_updL nU (40 * k + q) (narL (bO k) v)) z cW)) hE
        have hP : va_P D vwCl (VX cI cJ cO B gG tG kG ik le by_ tk bg en va tn bO sO (vp_updL nU (40 * k + q) (narL (bO k) v)) (wrtT fS bO sO (nI k) (nI q)) cW) H := Eq.mp (congrArg (fun z => va_P D vwCl z H) hW) hP
        have hD : va_D _ (VX cI cJ cO B gG tG kG ik le by_ tk bg en va tn bO sO (vp_updL nU (40 * k + q) (narL (bO k) v)) (wrtT fS bO sO (nI k) (nI q)) cW) := Eq.mp (congrArg (fun z => va_D _ z) hW) hD
        have hE : vp_updL nU (40 * k + q) (narL (bO k) v) = wrtU bO sO nU (nI k) (nI q) v := by simp [wrtR, wrtT, wrtU, wrtOk, wrT, wrongS, bump, put9, b2i, c25, c48, yk, ek, eq0, i_lt, -Int32.not_le, -Int32.not_lt]
        have hW : (VX cI cJ cO B gG tG kG ik le by_ tk bg en va tn bO sO (vp_updL nU (40 * k + q) (narL (bO k) v)) (wrtT fS bO sO (nI k) (nI q)) cW) = (VX cI cJ cO B gG tG kG ik le by_ tk bg en va tn bO sO (wrtU bO sO nU (nI k) (nI q) v) (wrtT fS bO sO (nI k) (nI q)) cW) := congrArg (fun z => (VX cI cJ cO B gG tG kG ik le by_ tk bg en va tn bO sO z (wrtT fS bO sO (nI k) (nI q)) cW)) hE
        have hP : va_P D vwCl (VX cI cJ cO B gG tG kG ik le by_ tk bg en va tn bO sO (wrtU bO sO nU (nI k) (nI q) v) (wrtT fS bO sO (nI k) (nI q)) cW) H := Eq.mp (congrArg (fun z => va_P D vwCl z H) hW) hP
        have hD : va_D _ (VX cI cJ cO B gG tG kG ik le by_ tk bg en va tn bO sO (wrtU bO sO nU (nI k) (nI q) v) (wrtT fS bO sO (nI k) (nI q)) cW) := Eq.mp (congrArg (fun z => va_D _ z) hW) hD
        exact mu_lret (VX cI cJ cO B gG tG kG ik le by_ tk bg en va tn bO sO (wrtU bO sO nU (nI k) (nI q) v) (wrtT fS bO sO (nI k) (nI q)) cW) hx hb hr hlk hP hS rfl (⟨congrArg (fun z => some (Value.long z)) (by simp [wrtR, wrtT, wrtU, wrtOk, wrT, wrongS, bump, put9, b2i, c25, c48, yk, ek, eq0, i_lt, -Int32.not_le, -Int32.not_lt]), rfl⟩) dX3_write_76
      · replace c48 := bn_n0 c48
        refine lv_aload_n hx hb dX3_write_51 rfl (lv_at hl 1 rfl) ?_
        refine lv_ldc (v := (-1000000001)) hx hb hown (hts _ wq_X3_51) dX3_write_52 ?_
        refine mu_W (w := (VX cI cJ cO B gG tG kG ik le by_ tk bg en va tn bO sO nU fS cW)) (rest := []) S hK hP hD hS (k_X3_finding 0 (-1000000001) (by decide) (by decide)) gv_X3_52 hd_X3_finding ⟨Nat.le_of_ble_eq_true rfl, Nat.le_of_ble_eq_true rfl⟩ 3 rfl rfl rfl rfl hl.1 (lv_room (Nat.le_of_ble_eq_true rfl)) dX3_write_54 ⟨Nat.zero_le _, Nat.zero_le _⟩ (fun ov w' H locs hp hP hD hS => ?_)
        obtain ⟨rfl, rfl⟩ := hp
        have hP : va_P D vwCl (VX cI cJ cO B gG tG kG ik le by_ tk bg en va tn bO sO nU (upd fS 0 (fS 0 + 1)) cW) H := hP
        have hD : va_D _ (VX cI cJ cO B gG tG kG ik le by_ tk bg en va tn bO sO nU (upd fS 0 (fS 0 + 1)) cW) := hD
        refine W.eq (g2 := F0 m 57 ls [.int (-1000000001)]) rfl ?_
        refine lv_i2l hx hb dX3_write_57 rfl ?_
        have hE : upd fS 0 (fS 0 + 1) = wrtT fS bO sO (nI k) i := by simp [wrtR, wrtT, wrtU, wrtOk, wrT, wrongS, bump, put9, b2i, c25, c48, yk, ek, i_lt, -Int32.not_le, -Int32.not_lt]
        have hW : (VX cI cJ cO B gG tG kG ik le by_ tk bg en va tn bO sO nU (upd fS 0 (fS 0 + 1)) cW) = (VX cI cJ cO B gG tG kG ik le by_ tk bg en va tn bO sO nU (wrtT fS bO sO (nI k) i) cW) := congrArg (fun z => (VX cI cJ cO B gG tG kG ik le by_ tk bg en va tn bO sO nU z cW)) hE
        have hP : va_P D vwCl (VX cI cJ cO B gG tG kG ik le by_ tk bg en va tn bO sO nU (wrtT fS bO sO (nI k) i) cW) H := Eq.mp (congrArg (fun z => va_P D vwCl z H) hW) hP
        have hD : va_D _ (VX cI cJ cO B gG tG kG ik le by_ tk bg en va tn bO sO nU (wrtT fS bO sO (nI k) i) cW) := Eq.mp (congrArg (fun z => va_D _ z) hW) hD
        have hE : nU = wrtU bO sO nU (nI k) i v := by simp [wrtR, wrtT, wrtU, wrtOk, wrT, wrongS, bump, put9, b2i, c25, c48, yk, ek, i_lt, -Int32.not_le, -Int32.not_lt]
        have hW : (VX cI cJ cO B gG tG kG ik le by_ tk bg en va tn bO sO nU (wrtT fS bO sO (nI k) i) cW) = (VX cI cJ cO B gG tG kG ik le by_ tk bg en va tn bO sO (wrtU bO sO nU (nI k) i v) (wrtT fS bO sO (nI k) i) cW) := congrArg (fun z => (VX cI cJ cO B gG tG kG ik le by_ tk bg en va tn bO sO z (wrtT fS bO sO (nI k) i) cW)) hE
        have hP : va_P D vwCl (VX cI cJ cO B gG tG kG ik le by_ tk bg en va tn bO sO (wrtU bO sO nU (nI k) i v) (wrtT fS bO sO (nI k) i) cW) H := Eq.mp (congrArg (fun z => va_P D vwCl z H) hW) hP
        have hD : va_D _ (VX cI cJ cO B gG tG kG ik le by_ tk bg en va tn bO sO (wrtU bO sO nU (nI k) i v) (wrtT fS bO sO (nI k) i) cW) := Eq.mp (congrArg (fun z => va_D _ z) hW) hD
        exact mu_lret (VX cI cJ cO B gG tG kG ik le by_ tk bg en va tn bO sO (wrtU bO sO nU (nI k) i v) (wrtT fS bO sO (nI k) i) cW) hx hb hr hlk hP hS rfl (⟨congrArg (fun z => some (Value.long z)) (by simp [wrtR, wrtT, wrtU, wrtOk, wrT, wrongS, bump, put9, b2i, c25, c48, yk, ek, i_lt, -Int32.not_le, -Int32.not_lt]), rfl⟩) dX3_write_58
    · replace c25 := b2i_n0 c25
      replace c25 := of_decide_eq_true c25
      refine lv_aload_n hx hb dX3_write_28 rfl (lv_at hl 1 rfl) ?_
      refine lv_ldc (v := (-1000000006)) hx hb hown (hts _ wq_X3_188) dX3_write_29 ?_
      refine mu_W (w := (VX cI cJ cO B gG tG kG ik le by_ tk bg en va tn bO sO nU fS cW)) (rest := []) S hK hP hD hS (k_X3_finding 5 (-1000000006) (by decide) (by decide)) gv_X3_52 hd_X3_finding ⟨Nat.le_of_ble_eq_true rfl, Nat.le_of_ble_eq_true rfl⟩ 3 rfl rfl rfl rfl hl.1 (lv_room (Nat.le_of_ble_eq_true rfl)) dX3_write_31 ⟨Nat.zero_le _, Nat.zero_le _⟩ (fun ov w' H locs hp hP hD hS => ?_)
      obtain ⟨rfl, rfl⟩ := hp
      have hP : va_P D vwCl (VX cI cJ cO B gG tG kG ik le by_ tk bg en va tn bO sO nU (upd fS 5 (fS 5 + 1)) cW) H := hP
      have hD : va_D _ (VX cI cJ cO B gG tG kG ik le by_ tk bg en va tn bO sO nU (upd fS 5 (fS 5 + 1)) cW) := hD
      refine W.eq (g2 := F0 m 34 ls [.int (-1000000006)]) rfl ?_
      refine lv_i2l hx hb dX3_write_34 rfl ?_
      have hE : upd fS 5 (fS 5 + 1) = wrtT fS bO sO (nI k) i := by simp [wrtR, wrtT, wrtU, wrtOk, wrT, wrongS, bump, put9, b2i, c25, yk, ek, i_lt, -Int32.not_le, -Int32.not_lt]
      have hW : (VX cI cJ cO B gG tG kG ik le by_ tk bg en va tn bO sO nU (upd fS 5 (fS 5 + 1)) cW) = (VX cI cJ cO B gG tG kG ik le by_ tk bg en va tn bO sO nU (wrtT fS bO sO (nI k) i) cW) := congrArg (fun z => (VX cI cJ cO B gG tG kG ik le by_ tk bg en va tn bO sO nU z cW)) hE
      have hP : va_P D vwCl (VX cI cJ cO B gG tG kG ik le by_ tk bg en va tn bO sO nU (wrtT fS bO sO (nI k) i) cW) H := Eq.mp (congrArg (fun z => va_P D vwCl z H) hW) hP
      have hD : va_D _ (VX cI cJ cO B gG tG kG ik le by_ tk bg en va tn bO sO nU (wrtT fS bO sO (nI k) i) cW) := Eq.mp (congrArg (fun z => va_D _ z) hW) hD
      have hE : nU = wrtU bO sO nU (nI k) i v := by simp [wrtR, wrtT, wrtU, wrtOk, wrT, wrongS, bump, put9, b2i, c25, yk, ek, i_lt, -Int32.not_le, -Int32.not_lt]
      have hW : (VX cI cJ cO B gG tG kG ik le by_ tk bg en va tn bO sO nU (wrtT fS bO sO (nI k) i) cW) = (VX cI cJ cO B gG tG kG ik le by_ tk bg en va tn bO sO (wrtU bO sO nU (nI k) i v) (wrtT fS bO sO (nI k) i) cW) := congrArg (fun z => (VX cI cJ cO B gG tG kG ik le by_ tk bg en va tn bO sO z (wrtT fS bO sO (nI k) i) cW)) hE
      have hP : va_P D vwCl (VX cI cJ cO B gG tG kG ik le by_ tk bg en va tn bO sO (wrtU bO sO nU (nI k) i v) (wrtT fS bO sO (nI k) i) cW) H := Eq.mp (congrArg (fun z => va_P D vwCl z H) hW) hP
      have hD : va_D _ (VX cI cJ cO B gG tG kG ik le by_ tk bg en va tn bO sO (wrtU bO sO nU (nI k) i v) (wrtT fS bO sO (nI k) i) cW) := Eq.mp (congrArg (fun z => va_D _ z) hW) hD
      exact mu_lret (VX cI cJ cO B gG tG kG ik le by_ tk bg en va tn bO sO (wrtU bO sO nU (nI k) i v) (wrtT fS bO sO (nI k) i) cW) hx hb hr hlk hP hS rfl (⟨congrArg (fun z => some (Value.long z)) (by simp [wrtR, wrtT, wrtU, wrtOk, wrT, wrongS, bump, put9, b2i, c25, yk, ek, i_lt, -Int32.not_le, -Int32.not_lt]), rfl⟩) dX3_write_35

end
