theorem hr_le {x : Int32} {j : Nat} (h : rng x 0 200000) (hj : j ≤ 100) : x ≤ 99999 - nI j ↔ x + nI j ≤ 99999 := by
  unfold rng at h
  have e9 : (99999 : Int32).toInt = 99999 := by decide
  have ej : (nI j).toInt = j := nI_toInt (by omega)
  rw [le_I, le_I, sub_I (by omega) (by omega), add_I (by omega) (by omega), e9, ej]
  omega
theorem rng_0 {x : Int32} {b : Int} (h : rng x 0 b) : 0 ≤ x := by
  have h0 : (0 : Int32).toInt = 0 := by decide
  rw [le_I, h0]
  exact h.1
theorem in_no11 {w : Int32} (h9 : ¬ w = 9) (h10 : ¬ w = 10) (h11 : ¬ w = 11) (h : inI w 0 8 = false) : inI w 0 11 = false := by
  cases q : inI w 0 11 with
  | false => rfl
  | true =>
    obtain ⟨k, -, hk, rfl⟩ := in_nat (a := 0) (b := 11) (by decide) q (by decide)
    have a9 : ¬ k = 9 := fun z => h9 (by rw [z]; rfl)
    have a10 : ¬ k = 10 := fun z => h10 (by rw [z]; rfl)
    have a11 : ¬ k = 11 := fun z => h11 (by rw [z]; rfl)
    exact absurd ((in_mk (a := 0) (b := 8) (k := k) (by decide) (by omega) (by omega)).symm.trans h) (by decide)
section
variable {l : Launch} {D : va_G} {cI cJ cO : ClassId} {B : Nat → Nat} {gG tG kG : Nat → Int32} {ik le : Int32} {by_ : Nat → Int32} {tk bg en va tn b0 l0 : Int32} {u0 : Nat → Int64} {b1 l1 : Int32} {u1 : Nat → Int64} {b2 l2 : Int32} {u2 : Nat → Int64} {b3 l3 : Int32} {u3 : Nat → Int64} {fS cW : Nat → Int32}

set_option maxHeartbeats 4000000 in
set_option maxRecDepth 100000 in
theorem k_X3_suppose (f : Nat) (w : Nat) (v : Int32) (hf : f < 8) (hw : w < 9) : MU l D (tyA cI cJ cO) yX3_suppose cX3_suppose 4 none 2 61 [.ref (B 0), .int (nI f), .int (nI w), .int v] (VW cI cJ cO B gG tG kG ik le by_ tk bg en va tn b0 l0 u0 b1 l1 u1 b2 l2 u2 b3 l3 u3 fS cW) (fun ov w' => ov = none ∧ w' = (VW cI cJ cO B gG (put9 gG f w v) kG ik le by_ tk bg en va tn b0 l0 u0 b1 l1 u1 b2 l2 u2 b3 l3 u3 fS cW)) := by
  refine MU.mk (by decide) (Nat.le_of_ble_eq_true rfl) ?_
  intro p e s m below meth c ls S hr hlk hP hK hD hS hl
  have S : CallFix p m c cX3_suppose 4 s _ WL RX3 := S
  obtain ⟨hx, hb, hml, hown, hts⟩ := id S
  have hl : lv_has ls 4 [(0, .ref (B 0)), (1, .int (nI f)), (2, .int (nI w)), (3, .int v)] := hl
  refine lv_aload_n hx hb dX3_suppose_0 rfl (lv_at hl 0 rfl) ?_
  refine va_get (ci := 3) (v := .ref (B 3)) hx hb hts wx_X3 hown hK hP 0 rfl rfl 1 (by decide) (hts _ wf_X3_16) (fun _ h9 => h9) rfl dX3_suppose_1 ?_
  refine lv_aload_n hx hb dX3_suppose_4 rfl (lv_at hl 0 rfl) ?_
  refine va_get (ci := 3) (v := .ref (B 1)) hx hb hts wx_X3 hown hK hP 0 rfl rfl 0 (by decide) (hts _ wf_X3_10) (fun _ h9 => h9) rfl dX3_suppose_5 ?_
  refine mu_V (w := (G2 cI (B 3) (B 4) (tG 0) (tG 2) (tG 1) (tl tG) (B 1) (B 2) (gG 0) (gG 2) (gG 1) (tl gG))) (rest := []) S hK hP hD hS (k_X0_become (g := tG) (g2 := gG)) gv_X3_135 hd_X0_become ⟨Nat.le_of_ble_eq_true rfl, Nat.le_of_ble_eq_true rfl⟩ [3, 4, 1, 2] rfl rfl 0 rfl rfl rfl rfl hl.1 (lv_room (Nat.le_of_ble_eq_true rfl)) dX3_suppose_8 ⟨Nat.zero_le _, Nat.zero_le _⟩ (fun ov w' H locs hp hP hD hS => ?_)
  obtain ⟨rfl, rfl⟩ := hp
  have hP : va_P D vwCl (VW cI cJ cO B gG gG kG ik le by_ tk bg en va tn b0 l0 u0 b1 l1 u1 b2 l2 u2 b3 l3 u3 fS cW) H := hP
  have hD : va_D _ (VW cI cJ cO B gG gG kG ik le by_ tk bg en va tn b0 l0 u0 b1 l1 u1 b2 l2 u2 b3 l3 u3 fS cW) := hD
  refine W.eq (g2 := F0 m 11 ls []) rfl ?_
  refine lv_aload_n hx hb dX3_suppose_11 rfl (lv_at hl 0 rfl) ?_
  refine va_get (ci := 3) (v := .ref (B 3)) hx hb hts wx_X3 hown hK hP 0 rfl rfl 1 (by decide) (hts _ wf_X3_16) (fun _ h9 => h9) rfl dX3_suppose_12 ?_
  refine lv_iload_n hx hb dX3_suppose_15 rfl (lv_at hl 1 rfl) ?_
  refine lv_iload_n hx hb dX3_suppose_16 rfl (lv_at hl 2 rfl) ?_
  refine lv_iload_n hx hb dX3_suppose_17 rfl (lv_at hl 3 rfl) ?_
  refine mu_V (w := (GW cI (B 3) (B 4) (gG 0) (gG 2) (gG 1) (tl gG))) (rest := []) S hK hP hD hS (k_X0_put f w v (by omega) (by omega)) gv_X3_117 hd_X0_put ⟨Nat.le_of_ble_eq_true rfl, Nat.le_of_ble_eq_true rfl⟩ [3, 4] rfl rfl 0 rfl rfl rfl rfl hl.1 (lv_room (Nat.le_of_ble_eq_true rfl)) dX3_suppose_18 ⟨Nat.zero_le _, Nat.zero_le _⟩ (fun ov w' H locs hp hP hD hS => ?_)
  obtain ⟨rfl, rfl⟩ := hp
  have hP : va_P D vwCl (VW cI cJ cO B gG (put9 gG f w v) kG ik le by_ tk bg en va tn b0 l0 u0 b1 l1 u1 b2 l2 u2 b3 l3 u3 fS cW) H := hP
  have hD : va_D _ (VW cI cJ cO B gG (put9 gG f w v) kG ik le by_ tk bg en va tn b0 l0 u0 b1 l1 u1 b2 l2 u2 b3 l3 u3 fS cW) := hD
  refine W.eq (g2 := F0 m 21 ls []) rfl ?_
  exact mu_vret (VW cI cJ cO B gG (put9 gG f w v) kG ik le by_ tk bg en va tn b0 l0 u0 b1 l1 u1 b2 l2 u2 b3 l3 u3 fS cW) hx hb hr hlk hP hS rfl (⟨rfl, rfl⟩) dX3_suppose_21

set_option maxHeartbeats 4000000 in
set_option maxRecDepth 100000 in
theorem k_X3_many (n : Nat) (k : Int32) (hI : Inv gG n) (hh : rng (gG 0) 0 200000) : MU l D (tyA cI cJ cO) yX3_many cX3_many 2 ((some .int)) 5 115 [.ref (B 0), .int k] (VW cI cJ cO B gG tG kG ik le by_ tk bg en va tn b0 l0 u0 b1 l1 u1 b2 l2 u2 b3 l3 u3 fS cW) (fun ov w' => ∃ tG' : Nat → Int32, ov = some (.int (manyR gG n k)) ∧ w' = (VW cI cJ cO B gG tG' kG ik le by_ tk bg en va tn b0 l0 u0 b1 l1 u1 b2 l2 u2 b3 l3 u3 (okT (inI k 0 200) fS) cW)) := by
  refine MU.mk (by decide) (Nat.le_of_ble_eq_true rfl) ?_
  intro p e s m below meth c ls S hr hlk hP hK hD hS hl
  have S : CallFix p m c cX3_many 2 s _ WL RX3 := S
  obtain ⟨hx, hb, hml, hown, hts⟩ := id S
  have hl : lv_has ls 2 [(0, .ref (B 0)), (1, .int k)] := hl
  refine lv_iload_n hx hb dX3_many_0 rfl (lv_at hl 1 rfl) ?_
  refine lv_iconst (v := 0) hx hb dX3_many_1 rfl ?_
  refine lv_sipush (v := 200) hx hb dX3_many_2 rfl ?_
  refine ro_S (w := []) (rest := []) S hK va_P0 (k_X3_isOutside k 0 200) gs_X3_47 hd_X3_isOutside ⟨Nat.le_of_ble_eq_true rfl, Nat.le_of_ble_eq_true rfl⟩ rfl hl.1 (lv_room (Nat.le_of_ble_eq_true rfl)) dX3_many_5 ⟨Nat.zero_le _, Nat.zero_le _⟩ ?_
  refine lv_if_eq (tgt := 18) hx hb dX3_many_8 rfl (fun c8 => ?_) (fun c8 => ?_)
  · replace c8 := bn_0 c8
    obtain ⟨j, hja, hjb, rfl⟩ := in_nat (a := 0) (b := 200) (by decide) c8 (by decide)
    have ej : cl (nI j) = j := cl_nI (by omega)
    refine lv_aload_n hx hb dX3_many_18 rfl (lv_at hl 0 rfl) ?_
    refine va_get (ci := 3) (v := .ref (B 3)) hx hb hts wx_X3 hown hK hP 0 rfl rfl 1 (by decide) (hts _ wf_X3_16) (fun _ h9 => h9) rfl dX3_many_19 ?_
    refine lv_aload_n hx hb dX3_many_22 rfl (lv_at hl 0 rfl) ?_
    refine va_get (ci := 3) (v := .ref (B 1)) hx hb hts wx_X3 hown hK hP 0 rfl rfl 0 (by decide) (hts _ wf_X3_10) (fun _ h9 => h9) rfl dX3_many_23 ?_
    refine mu_V (w := (G2 cI (B 3) (B 4) (tG 0) (tG 2) (tG 1) (tl tG) (B 1) (B 2) (gG 0) (gG 2) (gG 1) (tl gG))) (rest := []) S hK hP hD hS (k_X0_become (g := tG) (g2 := gG)) gv_X3_135 hd_X0_become ⟨Nat.le_of_ble_eq_true rfl, Nat.le_of_ble_eq_true rfl⟩ [3, 4, 1, 2] rfl rfl 0 rfl rfl rfl rfl hl.1 (lv_room (Nat.le_of_ble_eq_true rfl)) dX3_many_26 ⟨Nat.zero_le _, Nat.zero_le _⟩ (fun ov w' H locs hp hP hD hS => ?_)
    obtain ⟨rfl, rfl⟩ := hp
    have hP : va_P D vwCl (VW cI cJ cO B gG gG kG ik le by_ tk bg en va tn b0 l0 u0 b1 l1 u1 b2 l2 u2 b3 l3 u3 fS cW) H := hP
    have hD : va_D _ (VW cI cJ cO B gG gG kG ik le by_ tk bg en va tn b0 l0 u0 b1 l1 u1 b2 l2 u2 b3 l3 u3 fS cW) := hD
    refine W.eq (g2 := F0 m 29 ls []) rfl ?_
    refine lv_aload_n hx hb dX3_many_29 rfl (lv_at hl 0 rfl) ?_
    refine va_get (ci := 3) (v := .ref (B 3)) hx hb hts wx_X3 hown hK hP 0 rfl rfl 1 (by decide) (hts _ wf_X3_16) (fun _ h9 => h9) rfl dX3_many_30 ?_
    refine lv_iload_n hx hb dX3_many_33 rfl (lv_at hl 1 rfl) ?_
    refine mu_V (w := (GW cI (B 3) (B 4) (gG 0) (gG 2) (gG 1) (tl gG))) (rest := []) S hK hP hD hS (k_X0_pass n j hI hh (by omega)) gv_X3_131 hd_X0_pass ⟨Nat.le_of_ble_eq_true rfl, Nat.le_of_ble_eq_true rfl⟩ [3, 4] rfl rfl 0 rfl rfl rfl rfl hl.1 (lv_room (Nat.le_of_ble_eq_true rfl)) dX3_many_34 ⟨Nat.zero_le _, Nat.zero_le _⟩ (fun ov w' H locs hp hP hD hS => ?_)
    obtain ⟨rfl, rfl⟩ := hp
    have hP : va_P D vwCl (VW cI cJ cO B gG (hoursF gG n j) kG ik le by_ tk bg en va tn b0 l0 u0 b1 l1 u1 b2 l2 u2 b3 l3 u3 fS cW) H := hP
    have hD : va_D _ (VW cI cJ cO B gG (hoursF gG n j) kG ik le by_ tk bg en va tn b0 l0 u0 b1 l1 u1 b2 l2 u2 b3 l3 u3 fS cW) := hD
    refine W.eq (g2 := F0 m 37 ls []) rfl ?_
    refine lv_aload_n hx hb dX3_many_37 rfl (lv_at hl 0 rfl) ?_
    refine va_get (ci := 3) (v := .ref (B 3)) hx hb hts wx_X3 hown hK hP 0 rfl rfl 1 (by decide) (hts _ wf_X3_16) (fun _ h9 => h9) rfl dX3_many_38 ?_
    have hI := Inv_hours hI j
    refine ro_V (w := (GW cI (B 3) (B 4) ((hoursF gG n j) 0) ((hoursF gG n j) 2) ((hoursF gG n j) 1) (tl (hoursF gG n j)))) (rest := []) S hK (hP.sub [3, 4] rfl) (k_X0_howManyContent n hI) gv_X3_145 hd_X0_howManyContent ⟨Nat.le_of_ble_eq_true rfl, Nat.le_of_ble_eq_true rfl⟩ 0 rfl rfl rfl rfl hl.1 (lv_room (Nat.le_of_ble_eq_true rfl)) dX3_many_41 ⟨Nat.zero_le _, Nat.zero_le _⟩ ?_
    have hE : fS = okT (inI (nI j) 0 200) fS := by simp [manyR, okT, bump, put9, b2i, c8, ej, i_lt, -Int32.not_le, -Int32.not_lt]
    have hW : (VW cI cJ cO B gG (hoursF gG n j) kG ik le by_ tk bg en va tn b0 l0 u0 b1 l1 u1 b2 l2 u2 b3 l3 u3 fS cW) = (VW cI cJ cO B gG (hoursF gG n j) kG ik le by_ tk bg en va tn b0 l0 u0 b1 l1 u1 b2 l2 u2 b3 l3 u3 (okT (inI (nI j) 0 200) fS) cW) := congrArg (fun z => (VW cI cJ cO B gG (hoursF gG n j) kG ik le by_ tk bg en va tn b0 l0 u0 b1 l1 u1 b2 l2 u2 b3 l3 u3 z cW)) hE
    have hP : va_P D vwCl (VW cI cJ cO B gG (hoursF gG n j) kG ik le by_ tk bg en va tn b0 l0 u0 b1 l1 u1 b2 l2 u2 b3 l3 u3 (okT (inI (nI j) 0 200) fS) cW) H := Eq.mp (congrArg (fun z => va_P D vwCl z H) hW) hP
    have hD : va_D _ (VW cI cJ cO B gG (hoursF gG n j) kG ik le by_ tk bg en va tn b0 l0 u0 b1 l1 u1 b2 l2 u2 b3 l3 u3 (okT (inI (nI j) 0 200) fS) cW) := Eq.mp (congrArg (fun z => va_D _ z) hW) hD
    exact mu_iret (VW cI cJ cO B gG (hoursF gG n j) kG ik le by_ tk bg en va tn b0 l0 u0 b1 l1 u1 b2 l2 u2 b3 l3 u3 (okT (inI (nI j) 0 200) fS) cW) hx hb hr hlk hP hS rfl (⟨(hoursF gG n j), congrArg (fun z => some (Value.int z)) (by simp [manyR, okT, bump, put9, b2i, c8, ej, i_lt, -Int32.not_le, -Int32.not_lt]), rfl⟩) dX3_many_44
  · replace c8 := bn_n0 c8
    refine lv_aload_n hx hb dX3_many_11 rfl (lv_at hl 0 rfl) ?_
    refine lv_ldc (v := (-1000000001)) hx hb hown (hts _ wq_X3_51) dX3_many_12 ?_
    refine mu_W (w := (VW cI cJ cO B gG tG kG ik le by_ tk bg en va tn b0 l0 u0 b1 l1 u1 b2 l2 u2 b3 l3 u3 fS cW)) (rest := []) S hK hP hD hS (k_X3_finding 0 (-1000000001) (by decide) (by decide)) gv_X3_52 hd_X3_finding ⟨Nat.le_of_ble_eq_true rfl, Nat.le_of_ble_eq_true rfl⟩ 3 rfl rfl rfl rfl hl.1 (lv_room (Nat.le_of_ble_eq_true rfl)) dX3_many_14 ⟨Nat.zero_le _, Nat.zero_le _⟩ (fun ov w' H locs hp hP hD hS => ?_)
    obtain ⟨rfl, rfl⟩ := hp
    refine W.eq (g2 := F0 m 17 ls [.int (-1000000001)]) rfl ?_
    have hE : upd fS 0 (fS 0 + 1) = okT (inI k 0 200) fS := by simp [manyR, okT, bump, put9, b2i, c8, i_lt, -Int32.not_le, -Int32.not_lt]
    have hW : (VW cI cJ cO B gG tG kG ik le by_ tk bg en va tn b0 l0 u0 b1 l1 u1 b2 l2 u2 b3 l3 u3 (upd fS 0 (fS 0 + 1)) cW) = (VW cI cJ cO B gG tG kG ik le by_ tk bg en va tn b0 l0 u0 b1 l1 u1 b2 l2 u2 b3 l3 u3 (okT (inI k 0 200) fS) cW) := congrArg (fun z => (VW cI cJ cO B gG tG kG ik le by_ tk bg en va tn b0 l0 u0 b1 l1 u1 b2 l2 u2 b3 l3 u3 z cW)) hE
    have hP : va_P D vwCl (VW cI cJ cO B gG tG kG ik le by_ tk bg en va tn b0 l0 u0 b1 l1 u1 b2 l2 u2 b3 l3 u3 (okT (inI k 0 200) fS) cW) H := Eq.mp (congrArg (fun z => va_P D vwCl z H) hW) hP
    have hD : va_D _ (VW cI cJ cO B gG tG kG ik le by_ tk bg en va tn b0 l0 u0 b1 l1 u1 b2 l2 u2 b3 l3 u3 (okT (inI k 0 200) fS) cW) := Eq.mp (congrArg (fun z => va_D _ z) hW) hD
    exact mu_iret (VW cI cJ cO B gG tG kG ik le by_ tk bg en va tn b0 l0 u0 b1 l1 u1 b2 l2 u2 b3 l3 u3 (okT (inI k 0 200) fS) cW) hx hb hr hlk hP hS rfl (⟨tG, congrArg (fun z => some (Value.int z)) (by simp [manyR, okT, bump, put9, b2i, c8, i_lt, -Int32.not_le, -Int32.not_lt]), rfl⟩) dX3_many_17

set_option maxHeartbeats 4000000 in
set_option maxRecDepth 100000 in
theorem k_X3_hours (n : Nat) (k : Int32) (hI : Inv gG n) (hh : rng (gG 0) 0 200000) : MU l D (tyA cI cJ cO) yX3_hours cX3_hours 2 ((some .int)) 5 115 [.ref (B 0), .int k] (VW cI cJ cO B gG tG kG ik le by_ tk bg en va tn b0 l0 u0 b1 l1 u1 b2 l2 u2 b3 l3 u3 fS cW) (fun ov w' => ov = some (.int (hrsR gG n k)) ∧ w' = (VW cI cJ cO B (hrsG gG n k) tG kG ik le by_ tk bg en va tn b0 l0 u0 b1 l1 u1 b2 l2 u2 b3 l3 u3 (hrsT gG fS k) cW)) := by
  refine MU.mk (by decide) (Nat.le_of_ble_eq_true rfl) ?_
  intro p e s m below meth c ls S hr hlk hP hK hD hS hl
  have S : CallFix p m c cX3_hours 2 s _ WL RX3 := S
  obtain ⟨hx, hb, hml, hown, hts⟩ := id S
  have hl : lv_has ls 2 [(0, .ref (B 0)), (1, .int k)] := hl
  refine lv_iload_n hx hb dX3_hours_0 rfl (lv_at hl 1 rfl) ?_
  refine lv_iconst (v := 1) hx hb dX3_hours_1 rfl ?_
  refine lv_bipush (v := 100) hx hb dX3_hours_2 rfl ?_
  refine ro_S (w := []) (rest := []) S hK va_P0 (k_X3_isOutside k 1 100) gs_X3_47 hd_X3_isOutside ⟨Nat.le_of_ble_eq_true rfl, Nat.le_of_ble_eq_true rfl⟩ rfl hl.1 (lv_room (Nat.le_of_ble_eq_true rfl)) dX3_hours_4 ⟨Nat.zero_le _, Nat.zero_le _⟩ ?_
  refine lv_if_eq (tgt := 17) hx hb dX3_hours_7 rfl (fun c7 => ?_) (fun c7 => ?_)
  · replace c7 := bn_0 c7
    obtain ⟨j, hja, hjb, rfl⟩ := in_nat (a := 1) (b := 100) (by decide) c7 (by decide)
    have ej : cl (nI j) = j := cl_nI (by omega)
    refine lv_aload_n hx hb dX3_hours_17 rfl (lv_at hl 0 rfl) ?_
    refine va_get (ci := 3) (v := .ref (B 1)) hx hb hts wx_X3 hown hK hP 0 rfl rfl 0 (by decide) (hts _ wf_X3_10) (fun _ h9 => h9) rfl dX3_hours_18 ?_
    refine va_get (ci := 0) (v := .int (gG 0)) hx hb hts wx_X0 hown hK hP 1 rfl rfl 0 (by decide) (hts _ wf_X3_60) (fun _ h9 => h9) rfl dX3_hours_21 ?_
    refine lv_ldc (v := 99999) hx hb hown (hts _ wq_X3_129) dX3_hours_24 ?_
    refine lv_iload_n hx hb dX3_hours_26 rfl (lv_at hl 1 rfl) ?_
    refine lv_isub hx hb dX3_hours_27 ?_
    refine lv_icmp_le (tgt := 38) hx hb dX3_hours_28 rfl (fun c28 => ?_) (fun c28 => ?_)
    · replace c28 := (hr_le hh (by omega)).mp c28
      refine lv_aload_n hx hb dX3_hours_38 rfl (lv_at hl 0 rfl) ?_
      refine va_get (ci := 3) (v := .ref (B 1)) hx hb hts wx_X3 hown hK hP 0 rfl rfl 0 (by decide) (hts _ wf_X3_10) (fun _ h9 => h9) rfl dX3_hours_39 ?_
      refine lv_iload_n hx hb dX3_hours_42 rfl (lv_at hl 1 rfl) ?_
      refine mu_V (w := (GW cI (B 1) (B 2) (gG 0) (gG 2) (gG 1) (tl gG))) (rest := []) S hK hP hD hS (k_X0_pass n j hI hh (by omega)) gv_X3_131 hd_X0_pass ⟨Nat.le_of_ble_eq_true rfl, Nat.le_of_ble_eq_true rfl⟩ [1, 2] rfl rfl 0 rfl rfl rfl rfl hl.1 (lv_room (Nat.le_of_ble_eq_true rfl)) dX3_hours_43 ⟨Nat.zero_le _, Nat.zero_le _⟩ (fun ov w' H locs hp hP hD hS => ?_)
      obtain ⟨rfl, rfl⟩ := hp
      have hP : va_P D vwCl (VW cI cJ cO B (hoursF gG n j) tG kG ik le by_ tk bg en va tn b0 l0 u0 b1 l1 u1 b2 l2 u2 b3 l3 u3 fS cW) H := hP
      have hD : va_D _ (VW cI cJ cO B (hoursF gG n j) tG kG ik le by_ tk bg en va tn b0 l0 u0 b1 l1 u1 b2 l2 u2 b3 l3 u3 fS cW) := hD
      refine W.eq (g2 := F0 m 46 ls []) rfl ?_
      refine lv_aload_n hx hb dX3_hours_46 rfl (lv_at hl 0 rfl) ?_
      refine va_get (ci := 3) (v := .ref (B 1)) hx hb hts wx_X3 hown hK hP 0 rfl rfl 0 (by decide) (hts _ wf_X3_10) (fun _ h9 => h9) rfl dX3_hours_47 ?_
      have hI := Inv_hours hI j
      refine ro_V (w := (GW cI (B 1) (B 2) ((hoursF gG n j) 0) ((hoursF gG n j) 2) ((hoursF gG n j) 1) (tl (hoursF gG n j)))) (rest := []) S hK (hP.sub [1, 2] rfl) (k_X0_whoIsContent n hI) gv_X3_71 hd_X0_whoIsContent ⟨Nat.le_of_ble_eq_true rfl, Nat.le_of_ble_eq_true rfl⟩ 0 rfl rfl rfl rfl hl.1 (lv_room (Nat.le_of_ble_eq_true rfl)) dX3_hours_50 ⟨Nat.zero_le _, Nat.zero_le _⟩ ?_
      have hE : hoursF gG n j = hrsG gG n (nI j) := by simp [hrsR, hrsG, hrsT, bump, put9, b2i, c7, c28, ej, i_lt, -Int32.not_le, -Int32.not_lt]
      have hW : (VW cI cJ cO B (hoursF gG n j) tG kG ik le by_ tk bg en va tn b0 l0 u0 b1 l1 u1 b2 l2 u2 b3 l3 u3 fS cW) = (VW cI cJ cO B (hrsG gG n (nI j)) tG kG ik le by_ tk bg en va tn b0 l0 u0 b1 l1 u1 b2 l2 u2 b3 l3 u3 fS cW) := congrArg (fun z => (VW cI cJ cO B z tG kG ik le by_ tk bg en va tn b0 l0 u0 b1 l1 u1 b2 l2 u2 b3 l3 u3 fS cW)) hE
      have hP : va_P D vwCl (VW cI cJ cO B (hrsG gG n (nI j)) tG kG ik le by_ tk bg en va tn b0 l0 u0 b1 l1 u1 b2 l2 u2 b3 l3 u3 fS cW) H := Eq.mp (congrArg (fun z => va_P D vwCl z H) hW) hP
      have hD : va_D _ (VW cI cJ cO B (hrsG gG n (nI j)) tG kG ik le by_ tk bg en va tn b0 l0 u0 b1 l1 u1 b2 l2 u2 b3 l3 u3 fS cW) := Eq.mp (congrArg (fun z => va_D _ z) hW) hD
      have hE : fS = hrsT gG fS (nI j) := by simp [hrsR, hrsG, hrsT, bump, put9, b2i, c7, c28, ej, i_lt, -Int32.not_le, -Int32.not_lt]
      have hW : (VW cI cJ cO B (hrsG gG n (nI j)) tG kG ik le by_ tk bg en va tn b0 l0 u0 b1 l1 u1 b2 l2 u2 b3 l3 u3 fS cW) = (VW cI cJ cO B (hrsG gG n (nI j)) tG kG ik le by_ tk bg en va tn b0 l0 u0 b1 l1 u1 b2 l2 u2 b3 l3 u3 (hrsT gG fS (nI j)) cW) := congrArg (fun z => (VW cI cJ cO B (hrsG gG n (nI j)) tG kG ik le by_ tk bg en va tn b0 l0 u0 b1 l1 u1 b2 l2 u2 b3 l3 u3 z cW)) hE
      have hP : va_P D vwCl (VW cI cJ cO B (hrsG gG n (nI j)) tG kG ik le by_ tk bg en va tn b0 l0 u0 b1 l1 u1 b2 l2 u2 b3 l3 u3 (hrsT gG fS (nI j)) cW) H := Eq.mp (congrArg (fun z => va_P D vwCl z H) hW) hP
      have hD : va_D _ (VW cI cJ cO B (hrsG gG n (nI j)) tG kG ik le by_ tk bg en va tn b0 l0 u0 b1 l1 u1 b2 l2 u2 b3 l3 u3 (hrsT gG fS (nI j)) cW) := Eq.mp (congrArg (fun z => va_D _ z) hW) hD
      exact mu_iret (VW cI cJ cO B (hrsG gG n (nI j)) tG kG ik le by_ tk bg en va tn b0 l0 u0 b1 l1 u1 b2 l2 u2 b3 l3 u3 (hrsT gG fS (nI j)) cW) hx hb hr hlk hP hS rfl (⟨congrArg (fun z => some (Value.int z)) (by simp [hrsR, hrsG, hrsT, bump, put9, b2i, c7, c28, ej, i_lt, -Int32.not_le, -Int32.not_lt]), rfl⟩) dX3_hours_53
    · replace c28 : ¬ gG 0 + nI j ≤ 99999 := fun z9 => c28 ((hr_le hh (by omega)).mpr z9)
      refine lv_aload_n hx hb dX3_hours_31 rfl (lv_at hl 0 rfl) ?_
      refine lv_ldc (v := (-1000000005)) hx hb hown (hts _ wq_X3_130) dX3_hours_32 ?_
      refine mu_W (w := (VW cI cJ cO B gG tG kG ik le by_ tk bg en va tn b0 l0 u0 b1 l1 u1 b2 l2 u2 b3 l3 u3 fS cW)) (rest := []) S hK hP hD hS (k_X3_finding 4 (-1000000005) (by decide) (by decide)) gv_X3_52 hd_X3_finding ⟨Nat.le_of_ble_eq_true rfl, Nat.le_of_ble_eq_true rfl⟩ 3 rfl rfl rfl rfl hl.1 (lv_room (Nat.le_of_ble_eq_true rfl)) dX3_hours_34 ⟨Nat.zero_le _, Nat.zero_le _⟩ (fun ov w' H locs hp hP hD hS => ?_)
      obtain ⟨rfl, rfl⟩ := hp
      refine W.eq (g2 := F0 m 37 ls [.int (-1000000005)]) rfl ?_
      have hE : gG = hrsG gG n (nI j) := by simp [hrsR, hrsG, hrsT, bump, put9, b2i, c7, c28, ej, i_lt, -Int32.not_le, -Int32.not_lt]
      have hW : (VW cI cJ cO B gG tG kG ik le by_ tk bg en va tn b0 l0 u0 b1 l1 u1 b2 l2 u2 b3 l3 u3 (upd fS 4 (fS 4 + 1)) cW) = (VW cI cJ cO B (hrsG gG n (nI j)) tG kG ik le by_ tk bg en va tn b0 l0 u0 b1 l1 u1 b2 l2 u2 b3 l3 u3 (upd fS 4 (fS 4 + 1)) cW) := congrArg (fun z => (VW cI cJ cO B z tG kG ik le by_ tk bg en va tn b0 l0 u0 b1 l1 u1 b2 l2 u2 b3 l3 u3 (upd fS 4 (fS 4 + 1)) cW)) hE
      have hP : va_P D vwCl (VW cI cJ cO B (hrsG gG n (nI j)) tG kG ik le by_ tk bg en va tn b0 l0 u0 b1 l1 u1 b2 l2 u2 b3 l3 u3 (upd fS 4 (fS 4 + 1)) cW) H := Eq.mp (congrArg (fun z => va_P D vwCl z H) hW) hP
      have hD : va_D _ (VW cI cJ cO B (hrsG gG n (nI j)) tG kG ik le by_ tk bg en va tn b0 l0 u0 b1 l1 u1 b2 l2 u2 b3 l3 u3 (upd fS 4 (fS 4 + 1)) cW) := Eq.mp (congrArg (fun z => va_D _ z) hW) hD
      have hE : upd fS 4 (fS 4 + 1) = hrsT gG fS (nI j) := by simp [hrsR, hrsG, hrsT, bump, put9, b2i, c7, c28, ej, i_lt, -Int32.not_le, -Int32.not_lt]
      have hW : (VW cI cJ cO B (hrsG gG n (nI j)) tG kG ik le by_ tk bg en va tn b0 l0 u0 b1 l1 u1 b2 l2 u2 b3 l3 u3 (upd fS 4 (fS 4 + 1)) cW) = (VW cI cJ cO B (hrsG gG n (nI j)) tG kG ik le by_ tk bg en va tn b0 l0 u0 b1 l1 u1 b2 l2 u2 b3 l3 u3 (hrsT gG fS (nI j)) cW) := congrArg (fun z => (VW cI cJ cO B (hrsG gG n (nI j)) tG kG ik le by_ tk bg en va tn b0 l0 u0 b1 l1 u1 b2 l2 u2 b3 l3 u3 z cW)) hE
      have hP : va_P D vwCl (VW cI cJ cO B (hrsG gG n (nI j)) tG kG ik le by_ tk bg en va tn b0 l0 u0 b1 l1 u1 b2 l2 u2 b3 l3 u3 (hrsT gG fS (nI j)) cW) H := Eq.mp (congrArg (fun z => va_P D vwCl z H) hW) hP
      have hD : va_D _ (VW cI cJ cO B (hrsG gG n (nI j)) tG kG ik le by_ tk bg en va tn b0 l0 u0 b1 l1 u1 b2 l2 u2 b3 l3 u3 (hrsT gG fS (nI j)) cW) := Eq.mp (congrArg (fun z => va_D _ z) hW) hD
      exact mu_iret (VW cI cJ cO B (hrsG gG n (nI j)) tG kG ik le by_ tk bg en va tn b0 l0 u0 b1 l1 u1 b2 l2 u2 b3 l3 u3 (hrsT gG fS (nI j)) cW) hx hb hr hlk hP hS rfl (⟨congrArg (fun z => some (Value.int z)) (by simp [hrsR, hrsG, hrsT, bump, put9, b2i, c7, c28, ej, i_lt, -Int32.not_le, -Int32.not_lt]), rfl⟩) dX3_hours_37
  · replace c7 := bn_n0 c7
    refine lv_aload_n hx hb dX3_hours_10 rfl (lv_at hl 0 rfl) ?_
    refine lv_ldc (v := (-1000000001)) hx hb hown (hts _ wq_X3_51) dX3_hours_11 ?_
    refine mu_W (w := (VW cI cJ cO B gG tG kG ik le by_ tk bg en va tn b0 l0 u0 b1 l1 u1 b2 l2 u2 b3 l3 u3 fS cW)) (rest := []) S hK hP hD hS (k_X3_finding 0 (-1000000001) (by decide) (by decide)) gv_X3_52 hd_X3_finding ⟨Nat.le_of_ble_eq_true rfl, Nat.le_of_ble_eq_true rfl⟩ 3 rfl rfl rfl rfl hl.1 (lv_room (Nat.le_of_ble_eq_true rfl)) dX3_hours_13 ⟨Nat.zero_le _, Nat.zero_le _⟩ (fun ov w' H locs hp hP hD hS => ?_)
    obtain ⟨rfl, rfl⟩ := hp
    refine W.eq (g2 := F0 m 16 ls [.int (-1000000001)]) rfl ?_
    have hE : gG = hrsG gG n k := by simp [hrsR, hrsG, hrsT, bump, put9, b2i, c7, i_lt, -Int32.not_le, -Int32.not_lt]
    have hW : (VW cI cJ cO B gG tG kG ik le by_ tk bg en va tn b0 l0 u0 b1 l1 u1 b2 l2 u2 b3 l3 u3 (upd fS 0 (fS 0 + 1)) cW) = (VW cI cJ cO B (hrsG gG n k) tG kG ik le by_ tk bg en va tn b0 l0 u0 b1 l1 u1 b2 l2 u2 b3 l3 u3 (upd fS 0 (fS 0 + 1)) cW) := congrArg (fun z => (VW cI cJ cO B z tG kG ik le by_ tk bg en va tn b0 l0 u0 b1 l1 u1 b2 l2 u2 b3 l3 u3 (upd fS 0 (fS 0 + 1)) cW)) hE
    have hP : va_P D vwCl (VW cI cJ cO B (hrsG gG n k) tG kG ik le by_ tk bg en va tn b0 l0 u0 b1 l1 u1 b2 l2 u2 b3 l3 u3 (upd fS 0 (fS 0 + 1)) cW) H := Eq.mp (congrArg (fun z => va_P D vwCl z H) hW) hP
    have hD : va_D _ (VW cI cJ cO B (hrsG gG n k) tG kG ik le by_ tk bg en va tn b0 l0 u0 b1 l1 u1 b2 l2 u2 b3 l3 u3 (upd fS 0 (fS 0 + 1)) cW) := Eq.mp (congrArg (fun z => va_D _ z) hW) hD
    have hE : upd fS 0 (fS 0 + 1) = hrsT gG fS k := by simp [hrsR, hrsG, hrsT, bump, put9, b2i, c7, i_lt, -Int32.not_le, -Int32.not_lt]
    have hW : (VW cI cJ cO B (hrsG gG n k) tG kG ik le by_ tk bg en va tn b0 l0 u0 b1 l1 u1 b2 l2 u2 b3 l3 u3 (upd fS 0 (fS 0 + 1)) cW) = (VW cI cJ cO B (hrsG gG n k) tG kG ik le by_ tk bg en va tn b0 l0 u0 b1 l1 u1 b2 l2 u2 b3 l3 u3 (hrsT gG fS k) cW) := congrArg (fun z => (VW cI cJ cO B (hrsG gG n k) tG kG ik le by_ tk bg en va tn b0 l0 u0 b1 l1 u1 b2 l2 u2 b3 l3 u3 z cW)) hE
    have hP : va_P D vwCl (VW cI cJ cO B (hrsG gG n k) tG kG ik le by_ tk bg en va tn b0 l0 u0 b1 l1 u1 b2 l2 u2 b3 l3 u3 (hrsT gG fS k) cW) H := Eq.mp (congrArg (fun z => va_P D vwCl z H) hW) hP
    have hD : va_D _ (VW cI cJ cO B (hrsG gG n k) tG kG ik le by_ tk bg en va tn b0 l0 u0 b1 l1 u1 b2 l2 u2 b3 l3 u3 (hrsT gG fS k) cW) := Eq.mp (congrArg (fun z => va_D _ z) hW) hD
    exact mu_iret (VW cI cJ cO B (hrsG gG n k) tG kG ik le by_ tk bg en va tn b0 l0 u0 b1 l1 u1 b2 l2 u2 b3 l3 u3 (hrsT gG fS k) cW) hx hb hr hlk hP hS rfl (⟨congrArg (fun z => some (Value.int z)) (by simp [hrsR, hrsG, hrsT, bump, put9, b2i, c7, i_lt, -Int32.not_le, -Int32.not_lt]), rfl⟩) dX3_hours_16

set_option maxHeartbeats 4000000 in
set_option maxRecDepth 100000 in
theorem k_X3_image : MU l D (tyA cI cJ cO) yX3_image cX3_image 1 ((some .int)) 2 61 [.ref (B 0)] (VW cI cJ cO B gG tG kG ik le by_ tk bg en va tn b0 l0 u0 b1 l1 u1 b2 l2 u2 b3 l3 u3 fS cW) (fun ov w' => ov = some (.int 1) ∧ w' = (VW cI cJ cO B gG tG gG 1 le by_ tk bg en va tn b0 l0 u0 b1 l1 u1 b2 l2 u2 b3 l3 u3 fS cW)) := by
  refine MU.mk (by decide) (Nat.le_of_ble_eq_true rfl) ?_
  intro p e s m below meth c ls S hr hlk hP hK hD hS hl
  have S : CallFix p m c cX3_image 1 s _ WL RX3 := S
  obtain ⟨hx, hb, hml, hown, hts⟩ := id S
  have hl : lv_has ls 1 [(0, .ref (B 0))] := hl
  refine lv_aload_n hx hb dX3_image_0 rfl (lv_at hl 0 rfl) ?_
  refine va_get (ci := 3) (v := .ref (B 5)) hx hb hts wx_X3 hown hK hP 0 rfl rfl 2 (by decide) (hts _ wf_X3_19) (fun _ h9 => h9) rfl dX3_image_1 ?_
  refine lv_aload_n hx hb dX3_image_4 rfl (lv_at hl 0 rfl) ?_
  refine va_get (ci := 3) (v := .ref (B 1)) hx hb hts wx_X3 hown hK hP 0 rfl rfl 0 (by decide) (hts _ wf_X3_10) (fun _ h9 => h9) rfl dX3_image_5 ?_
  refine mu_V (w := (G2 cI (B 5) (B 6) (kG 0) (kG 2) (kG 1) (tl kG) (B 1) (B 2) (gG 0) (gG 2) (gG 1) (tl gG))) (rest := []) S hK hP hD hS (k_X0_become (g := kG) (g2 := gG)) gv_X3_135 hd_X0_become ⟨Nat.le_of_ble_eq_true rfl, Nat.le_of_ble_eq_true rfl⟩ [5, 6, 1, 2] rfl rfl 0 rfl rfl rfl rfl hl.1 (lv_room (Nat.le_of_ble_eq_true rfl)) dX3_image_8 ⟨Nat.zero_le _, Nat.zero_le _⟩ (fun ov w' H locs hp hP hD hS => ?_)
  obtain ⟨rfl, rfl⟩ := hp
  have hP : va_P D vwCl (VW cI cJ cO B gG tG gG ik le by_ tk bg en va tn b0 l0 u0 b1 l1 u1 b2 l2 u2 b3 l3 u3 fS cW) H := hP
  have hD : va_D _ (VW cI cJ cO B gG tG gG ik le by_ tk bg en va tn b0 l0 u0 b1 l1 u1 b2 l2 u2 b3 l3 u3 fS cW) := hD
  refine W.eq (g2 := F0 m 11 ls []) rfl ?_
  refine lv_aload_n hx hb dX3_image_11 rfl (lv_at hl 0 rfl) ?_
  refine lv_iconst (v := 1) hx hb dX3_image_12 rfl ?_
  refine va_put (ci := 3) (v := .int 1) (ty := tyX3 3) hx hb hts wx_X3 tyX3 tyX3_ok nmX3 hown hK hP hD hS 0 rfl rfl 3 (by decide) (hts _ wf_X3_22) (fun _ h9 => h9) rfl (tyX3_ok 3 (by decide)) rfl rfl (Nat.le_of_ble_eq_true rfl) dX3_image_13 (fun H locs hP hD hS => ?_)
  have hP : va_P D vwCl (VW cI cJ cO B gG tG gG 1 le by_ tk bg en va tn b0 l0 u0 b1 l1 u1 b2 l2 u2 b3 l3 u3 fS cW) H := hP
  have hD : va_D _ (VW cI cJ cO B gG tG gG 1 le by_ tk bg en va tn b0 l0 u0 b1 l1 u1 b2 l2 u2 b3 l3 u3 fS cW) := hD
  refine lv_iconst (v := 1) hx hb dX3_image_16 rfl ?_
  exact mu_iret (VW cI cJ cO B gG tG gG 1 le by_ tk bg en va tn b0 l0 u0 b1 l1 u1 b2 l2 u2 b3 l3 u3 fS cW) hx hb hr hlk hP hS rfl (⟨congrArg (fun z => some (Value.int z)) (rfl), rfl⟩) dX3_image_17

set_option maxHeartbeats 4000000 in
set_option maxRecDepth 100000 in
theorem k_X3_undo (ib : Bool) : MU l D (tyA cI cJ cO) yX3_undo cX3_undo 1 ((some .int)) 2 61 [.ref (B 0)] (VW cI cJ cO B gG tG kG (b2i ib) le by_ tk bg en va tn b0 l0 u0 b1 l1 u1 b2 l2 u2 b3 l3 u3 fS cW) (fun ov w' => ov = some (.int (undoR kG ib)) ∧ w' = (VW cI cJ cO B (undoG gG kG ib) tG kG (b2i ib) le by_ tk bg en va tn b0 l0 u0 b1 l1 u1 b2 l2 u2 b3 l3 u3 (undoT fS ib) cW)) := by
  refine MU.mk (by decide) (Nat.le_of_ble_eq_true rfl) ?_
  intro p e s m below meth c ls S hr hlk hP hK hD hS hl
  have S : CallFix p m c cX3_undo 1 s _ WL RX3 := S
  obtain ⟨hx, hb, hml, hown, hts⟩ := id S
  have hl : lv_has ls 1 [(0, .ref (B 0))] := hl
  refine lv_aload_n hx hb dX3_undo_0 rfl (lv_at hl 0 rfl) ?_
  refine va_get (ci := 3) (v := .int (b2i ib)) hx hb hts wx_X3 hown hK hP 0 rfl rfl 3 (by decide) (hts _ wf_X3_22) (fun _ h9 => h9) rfl dX3_undo_1 ?_
  refine lv_if_ne (tgt := 14) hx hb dX3_undo_4 rfl (fun c4 => ?_) (fun c4 => ?_)
  · replace c4 := b2i_n0 c4
    refine lv_aload_n hx hb dX3_undo_14 rfl (lv_at hl 0 rfl) ?_
    refine va_get (ci := 3) (v := .ref (B 1)) hx hb hts wx_X3 hown hK hP 0 rfl rfl 0 (by decide) (hts _ wf_X3_10) (fun _ h9 => h9) rfl dX3_undo_15 ?_
    refine lv_aload_n hx hb dX3_undo_18 rfl (lv_at hl 0 rfl) ?_
    refine va_get (ci := 3) (v := .ref (B 5)) hx hb hts wx_X3 hown hK hP 0 rfl rfl 2 (by decide) (hts _ wf_X3_19) (fun _ h9 => h9) rfl dX3_undo_19 ?_
    refine mu_V (w := (G2 cI (B 1) (B 2) (gG 0) (gG 2) (gG 1) (tl gG) (B 5) (B 6) (kG 0) (kG 2) (kG 1) (tl kG))) (rest := []) S hK hP hD hS (k_X0_become (g := gG) (g2 := kG)) gv_X3_135 hd_X0_become ⟨Nat.le_of_ble_eq_true rfl, Nat.le_of_ble_eq_true rfl⟩ [1, 2, 5, 6] rfl rfl 0 rfl rfl rfl rfl hl.1 (lv_room (Nat.le_of_ble_eq_true rfl)) dX3_undo_22 ⟨Nat.zero_le _, Nat.zero_le _⟩ (fun ov w' H locs hp hP hD hS => ?_)
    obtain ⟨rfl, rfl⟩ := hp
    have hP : va_P D vwCl (VW cI cJ cO B kG tG kG (b2i ib) le by_ tk bg en va tn b0 l0 u0 b1 l1 u1 b2 l2 u2 b3 l3 u3 fS cW) H := hP
    have hD : va_D _ (VW cI cJ cO B kG tG kG (b2i ib) le by_ tk bg en va tn b0 l0 u0 b1 l1 u1 b2 l2 u2 b3 l3 u3 fS cW) := hD
    refine W.eq (g2 := F0 m 25 ls []) rfl ?_
    refine lv_aload_n hx hb dX3_undo_25 rfl (lv_at hl 0 rfl) ?_
    refine va_get (ci := 3) (v := .ref (B 1)) hx hb hts wx_X3 hown hK hP 0 rfl rfl 0 (by decide) (hts _ wf_X3_10) (fun _ h9 => h9) rfl dX3_undo_26 ?_
    refine va_get (ci := 0) (v := .int (kG 1)) hx hb hts wx_X0 hown hK hP 1 rfl rfl 2 (by decide) (hts _ wf_X3_148) (fun _ h9 => h9) rfl dX3_undo_29 ?_
    have hE : kG = undoG gG kG ib := by simp [undoR, undoG, undoT, bump, put9, b2i, c4, i_lt, -Int32.not_le, -Int32.not_lt]
    have hW : (VW cI cJ cO B kG tG kG (b2i ib) le by_ tk bg en va tn b0 l0 u0 b1 l1 u1 b2 l2 u2 b3 l3 u3 fS cW) = (VW cI cJ cO B (undoG gG kG ib) tG kG (b2i ib) le by_ tk bg en va tn b0 l0 u0 b1 l1 u1 b2 l2 u2 b3 l3 u3 fS cW) := congrArg (fun z => (VW cI cJ cO B z tG kG (b2i ib) le by_ tk bg en va tn b0 l0 u0 b1 l1 u1 b2 l2 u2 b3 l3 u3 fS cW)) hE
    have hP : va_P D vwCl (VW cI cJ cO B (undoG gG kG ib) tG kG (b2i ib) le by_ tk bg en va tn b0 l0 u0 b1 l1 u1 b2 l2 u2 b3 l3 u3 fS cW) H := Eq.mp (congrArg (fun z => va_P D vwCl z H) hW) hP
    have hD : va_D _ (VW cI cJ cO B (undoG gG kG ib) tG kG (b2i ib) le by_ tk bg en va tn b0 l0 u0 b1 l1 u1 b2 l2 u2 b3 l3 u3 fS cW) := Eq.mp (congrArg (fun z => va_D _ z) hW) hD
    have hE : fS = undoT fS ib := by simp [undoR, undoG, undoT, bump, put9, b2i, c4, i_lt, -Int32.not_le, -Int32.not_lt]
    have hW : (VW cI cJ cO B (undoG gG kG ib) tG kG (b2i ib) le by_ tk bg en va tn b0 l0 u0 b1 l1 u1 b2 l2 u2 b3 l3 u3 fS cW) = (VW cI cJ cO B (undoG gG kG ib) tG kG (b2i ib) le by_ tk bg en va tn b0 l0 u0 b1 l1 u1 b2 l2 u2 b3 l3 u3 (undoT fS ib) cW) := congrArg (fun z => (VW cI cJ cO B (undoG gG kG ib) tG kG (b2i ib) le by_ tk bg en va tn b0 l0 u0 b1 l1 u1 b2 l2 u2 b3 l3 u3 z cW)) hE
    have hP : va_P D vwCl (VW cI cJ cO B (undoG gG kG ib) tG kG (b2i ib) le by_ tk bg en va tn b0 l0 u0 b1 l1 u1 b2 l2 u2 b3 l3 u3 (undoT fS ib) cW) H := Eq.mp (congrArg (fun z => va_P D vwCl z H) hW) hP
    have hD : va_D _ (VW cI cJ cO B (undoG gG kG ib) tG kG (b2i ib) le by_ tk bg en va tn b0 l0 u0 b1 l1 u1 b2 l2 u2 b3 l3 u3 (undoT fS ib) cW) := Eq.mp (congrArg (fun z => va_D _ z) hW) hD
    exact mu_iret (VW cI cJ cO B (undoG gG kG ib) tG kG (b2i ib) le by_ tk bg en va tn b0 l0 u0 b1 l1 u1 b2 l2 u2 b3 l3 u3 (undoT fS ib) cW) hx hb hr hlk hP hS rfl (⟨congrArg (fun z => some (Value.int z)) (by simp [undoR, undoG, undoT, bump, put9, b2i, c4, i_lt, -Int32.not_le, -Int32.not_lt]), rfl⟩) dX3_undo_32
  · replace c4 := (b2i_0 _).mp c4
    refine lv_aload_n hx hb dX3_undo_7 rfl (lv_at hl 0 rfl) ?_
    refine lv_ldc (v := (-1000000004)) hx hb hown (hts _ wq_X3_154) dX3_undo_8 ?_
    refine mu_W (w := (VW cI cJ cO B gG tG kG (b2i ib) le by_ tk bg en va tn b0 l0 u0 b1 l1 u1 b2 l2 u2 b3 l3 u3 fS cW)) (rest := []) S hK hP hD hS (k_X3_finding 3 (-1000000004) (by decide) (by decide)) gv_X3_52 hd_X3_finding ⟨Nat.le_of_ble_eq_true rfl, Nat.le_of_ble_eq_true rfl⟩ 3 rfl rfl rfl rfl hl.1 (lv_room (Nat.le_of_ble_eq_true rfl)) dX3_undo_10 ⟨Nat.zero_le _, Nat.zero_le _⟩ (fun ov w' H locs hp hP hD hS => ?_)
    obtain ⟨rfl, rfl⟩ := hp
    refine W.eq (g2 := F0 m 13 ls [.int (-1000000004)]) rfl ?_
    have hE : gG = undoG gG kG ib := by simp [undoR, undoG, undoT, bump, put9, b2i, c4, i_lt, -Int32.not_le, -Int32.not_lt]
    have hW : (VW cI cJ cO B gG tG kG (b2i ib) le by_ tk bg en va tn b0 l0 u0 b1 l1 u1 b2 l2 u2 b3 l3 u3 (upd fS 3 (fS 3 + 1)) cW) = (VW cI cJ cO B (undoG gG kG ib) tG kG (b2i ib) le by_ tk bg en va tn b0 l0 u0 b1 l1 u1 b2 l2 u2 b3 l3 u3 (upd fS 3 (fS 3 + 1)) cW) := congrArg (fun z => (VW cI cJ cO B z tG kG (b2i ib) le by_ tk bg en va tn b0 l0 u0 b1 l1 u1 b2 l2 u2 b3 l3 u3 (upd fS 3 (fS 3 + 1)) cW)) hE
    have hP : va_P D vwCl (VW cI cJ cO B (undoG gG kG ib) tG kG (b2i ib) le by_ tk bg en va tn b0 l0 u0 b1 l1 u1 b2 l2 u2 b3 l3 u3 (upd fS 3 (fS 3 + 1)) cW) H := Eq.mp (congrArg (fun z => va_P D vwCl z H) hW) hP
    have hD : va_D _ (VW cI cJ cO B (undoG gG kG ib) tG kG (b2i ib) le by_ tk bg en va tn b0 l0 u0 b1 l1 u1 b2 l2 u2 b3 l3 u3 (upd fS 3 (fS 3 + 1)) cW) := Eq.mp (congrArg (fun z => va_D _ z) hW) hD
    have hE : upd fS 3 (fS 3 + 1) = undoT fS ib := by simp [undoR, undoG, undoT, bump, put9, b2i, c4, i_lt, -Int32.not_le, -Int32.not_lt]
    have hW : (VW cI cJ cO B (undoG gG kG ib) tG kG (b2i ib) le by_ tk bg en va tn b0 l0 u0 b1 l1 u1 b2 l2 u2 b3 l3 u3 (upd fS 3 (fS 3 + 1)) cW) = (VW cI cJ cO B (undoG gG kG ib) tG kG (b2i ib) le by_ tk bg en va tn b0 l0 u0 b1 l1 u1 b2 l2 u2 b3 l3 u3 (undoT fS ib) cW) := congrArg (fun z => (VW cI cJ cO B (undoG gG kG ib) tG kG (b2i ib) le by_ tk bg en va tn b0 l0 u0 b1 l1 u1 b2 l2 u2 b3 l3 u3 z cW)) hE
    have hP : va_P D vwCl (VW cI cJ cO B (undoG gG kG ib) tG kG (b2i ib) le by_ tk bg en va tn b0 l0 u0 b1 l1 u1 b2 l2 u2 b3 l3 u3 (undoT fS ib) cW) H := Eq.mp (congrArg (fun z => va_P D vwCl z H) hW) hP
    have hD : va_D _ (VW cI cJ cO B (undoG gG kG ib) tG kG (b2i ib) le by_ tk bg en va tn b0 l0 u0 b1 l1 u1 b2 l2 u2 b3 l3 u3 (undoT fS ib) cW) := Eq.mp (congrArg (fun z => va_D _ z) hW) hD
    exact mu_iret (VW cI cJ cO B (undoG gG kG ib) tG kG (b2i ib) le by_ tk bg en va tn b0 l0 u0 b1 l1 u1 b2 l2 u2 b3 l3 u3 (undoT fS ib) cW) hx hb hr hlk hP hS rfl (⟨congrArg (fun z => some (Value.int z)) (by simp [undoR, undoG, undoT, bump, put9, b2i, c4, i_lt, -Int32.not_le, -Int32.not_lt]), rfl⟩) dX3_undo_13

set_option maxHeartbeats 4000000 in
set_option maxRecDepth 100000 in
theorem k_X3_tear (ib : Bool) : MU l D (tyA cI cJ cO) yX3_tear cX3_tear 2 ((some .int)) 0 0 [.ref (B 0)] (VW cI cJ cO B gG tG kG (b2i ib) le by_ tk bg en va tn b0 l0 u0 b1 l1 u1 b2 l2 u2 b3 l3 u3 fS cW) (fun ov w' => ov = some (.int (b2i ib)) ∧ w' = (VW cI cJ cO B gG tG kG 0 le by_ tk bg en va tn b0 l0 u0 b1 l1 u1 b2 l2 u2 b3 l3 u3 fS cW)) := by
  refine MU.mk (by decide) (Nat.le_of_ble_eq_true rfl) ?_
  intro p e s m below meth c ls S hr hlk hP hK hD hS hl
  have S : CallFix p m c cX3_tear 2 s _ WL RX3 := S
  obtain ⟨hx, hb, hml, hown, hts⟩ := id S
  have hl : lv_has ls 2 [(0, .ref (B 0))] := hl
  refine lv_aload_n hx hb dX3_tear_0 rfl (lv_at hl 0 rfl) ?_
  refine va_get (ci := 3) (v := .int (b2i ib)) hx hb hts wx_X3 hown hK hP 0 rfl rfl 3 (by decide) (hts _ wf_X3_22) (fun _ h9 => h9) rfl dX3_tear_1 ?_
  refine lv_if_eq (tgt := 11) hx hb dX3_tear_4 rfl (fun c4 => ?_) (fun c4 => ?_)
  · replace c4 := (b2i_0 _).mp c4
    refine lv_iconst (v := 0) hx hb dX3_tear_11 rfl ?_
    refine lv_istore_n (lv' := [(1, .int 0), (0, .ref (B 0))]) hx hb dX3_tear_12 rfl hl (by decide) rfl (fun ls hl => ?_)
    refine lv_aload_n hx hb dX3_tear_13 rfl (lv_at hl 1 rfl) ?_
    refine lv_iconst (v := 0) hx hb dX3_tear_14 rfl ?_
    refine va_put (ci := 3) (v := .int 0) (ty := tyX3 3) hx hb hts wx_X3 tyX3 tyX3_ok nmX3 hown hK hP hD hS 0 rfl rfl 3 (by decide) (hts _ wf_X3_22) (fun _ h9 => h9) rfl (tyX3_ok 3 (by decide)) rfl rfl (Nat.le_of_ble_eq_true rfl) dX3_tear_15 (fun H locs hP hD hS => ?_)
    have hP : va_P D vwCl (VW cI cJ cO B gG tG kG 0 le by_ tk bg en va tn b0 l0 u0 b1 l1 u1 b2 l2 u2 b3 l3 u3 fS cW) H := hP
    have hD : va_D _ (VW cI cJ cO B gG tG kG 0 le by_ tk bg en va tn b0 l0 u0 b1 l1 u1 b2 l2 u2 b3 l3 u3 fS cW) := hD
    refine lv_iload_n hx hb dX3_tear_18 rfl (lv_at hl 0 rfl) ?_
    exact mu_iret (VW cI cJ cO B gG tG kG 0 le by_ tk bg en va tn b0 l0 u0 b1 l1 u1 b2 l2 u2 b3 l3 u3 fS cW) hx hb hr hlk hP hS rfl (⟨congrArg (fun z => some (Value.int z)) (by simp [b2i, bump, put9, b2i, c4, i_lt, -Int32.not_le, -Int32.not_lt]), rfl⟩) dX3_tear_19
  · replace c4 := b2i_n0 c4
    refine lv_iconst (v := 1) hx hb dX3_tear_7 rfl ?_
    refine lv_goto (tgt := 12) hx hb dX3_tear_8 rfl ?_
    refine lv_istore_n (lv' := [(1, .int 1), (0, .ref (B 0))]) hx hb dX3_tear_12 rfl hl (by decide) rfl (fun ls hl => ?_)
    refine lv_aload_n hx hb dX3_tear_13 rfl (lv_at hl 1 rfl) ?_
    refine lv_iconst (v := 0) hx hb dX3_tear_14 rfl ?_
    refine va_put (ci := 3) (v := .int 0) (ty := tyX3 3) hx hb hts wx_X3 tyX3 tyX3_ok nmX3 hown hK hP hD hS 0 rfl rfl 3 (by decide) (hts _ wf_X3_22) (fun _ h9 => h9) rfl (tyX3_ok 3 (by decide)) rfl rfl (Nat.le_of_ble_eq_true rfl) dX3_tear_15 (fun H locs hP hD hS => ?_)
    have hP : va_P D vwCl (VW cI cJ cO B gG tG kG 0 le by_ tk bg en va tn b0 l0 u0 b1 l1 u1 b2 l2 u2 b3 l3 u3 fS cW) H := hP
    have hD : va_D _ (VW cI cJ cO B gG tG kG 0 le by_ tk bg en va tn b0 l0 u0 b1 l1 u1 b2 l2 u2 b3 l3 u3 fS cW) := hD
    refine lv_iload_n hx hb dX3_tear_18 rfl (lv_at hl 0 rfl) ?_
    exact mu_iret (VW cI cJ cO B gG tG kG 0 le by_ tk bg en va tn b0 l0 u0 b1 l1 u1 b2 l2 u2 b3 l3 u3 fS cW) hx hb hr hlk hP hS rfl (⟨congrArg (fun z => some (Value.int z)) (by simp [b2i, bump, put9, b2i, c4, i_lt, -Int32.not_le, -Int32.not_lt]), rfl⟩) dX3_tear_19

set_option maxHeartbeats 4000000 in
set_option maxRecDepth 100000 in
theorem k_X3_wipe : MU l D (tyA cI cJ cO) yX3_wipe cX3_wipe 2 ((some .int)) 0 0 [.ref (B 0)] (VW cI cJ cO B gG tG kG ik le by_ tk bg en va tn b0 l0 u0 b1 l1 u1 b2 l2 u2 b3 l3 u3 fS cW) (fun ov w' => ov = some (.int le) ∧ w' = (VW cI cJ cO B gG tG kG ik 0 by_ tk bg en va tn b0 l0 u0 b1 l1 u1 b2 l2 u2 b3 l3 u3 fS cW)) := by
  refine MU.mk (by decide) (Nat.le_of_ble_eq_true rfl) ?_
  intro p e s m below meth c ls S hr hlk hP hK hD hS hl
  have S : CallFix p m c cX3_wipe 2 s _ WL RX3 := S
  obtain ⟨hx, hb, hml, hown, hts⟩ := id S
  have hl : lv_has ls 2 [(0, .ref (B 0))] := hl
  refine lv_aload_n hx hb dX3_wipe_0 rfl (lv_at hl 0 rfl) ?_
  refine va_get (ci := 3) (v := .ref (B 7)) hx hb hts wx_X3 hown hK hP 0 rfl rfl 4 (by decide) (hts _ wf_X3_29) (fun _ h9 => h9) rfl dX3_wipe_1 ?_
  refine va_get (ci := 2) (v := .int le) hx hb hts wx_X2 hown hK hP 7 rfl rfl 0 (by decide) (hts _ wf_X3_165) (fun _ h9 => h9) rfl dX3_wipe_4 ?_
  refine lv_istore_n (lv' := [(1, .int le), (0, .ref (B 0))]) hx hb dX3_wipe_7 rfl hl (by decide) rfl (fun ls hl => ?_)
  refine lv_aload_n hx hb dX3_wipe_8 rfl (lv_at hl 1 rfl) ?_
  refine va_get (ci := 3) (v := .ref (B 7)) hx hb hts wx_X3 hown hK hP 0 rfl rfl 4 (by decide) (hts _ wf_X3_29) (fun _ h9 => h9) rfl dX3_wipe_9 ?_
  refine lv_iconst (v := 0) hx hb dX3_wipe_12 rfl ?_
  refine va_put (ci := 2) (v := .int 0) (ty := tyX2 0) hx hb hts wx_X2 tyX2 tyX2_ok nmX2 hown hK hP hD hS 7 rfl rfl 0 (by decide) (hts _ wf_X3_165) (fun _ h9 => h9) rfl (tyX2_ok 0 (by decide)) rfl rfl (Nat.le_of_ble_eq_true rfl) dX3_wipe_13 (fun H locs hP hD hS => ?_)
  have hP : va_P D vwCl (VW cI cJ cO B gG tG kG ik 0 by_ tk bg en va tn b0 l0 u0 b1 l1 u1 b2 l2 u2 b3 l3 u3 fS cW) H := hP
  have hD : va_D _ (VW cI cJ cO B gG tG kG ik 0 by_ tk bg en va tn b0 l0 u0 b1 l1 u1 b2 l2 u2 b3 l3 u3 fS cW) := hD
  refine lv_iload_n hx hb dX3_wipe_16 rfl (lv_at hl 0 rfl) ?_
  exact mu_iret (VW cI cJ cO B gG tG kG ik 0 by_ tk bg en va tn b0 l0 u0 b1 l1 u1 b2 l2 u2 b3 l3 u3 fS cW) hx hb hr hlk hP hS rfl (⟨congrArg (fun z => some (Value.int z)) (rfl), rfl⟩) dX3_wipe_17

set_option maxHeartbeats 4000000 in
set_option maxRecDepth 100000 in
theorem k_X3_count (n : Nat) (w : Int32) (hI : Inv gG n) : MU l D (tyA cI cJ cO) yX3_count cX3_count 2 ((some .int)) 2 46 [.ref (B 0), .int w] (VW cI cJ cO B gG tG kG ik le by_ tk bg en va tn b0 l0 u0 b1 l1 u1 b2 l2 u2 b3 l3 u3 fS cW) (fun ov w' => ov = some (.int (countR gG n le w)) ∧ w' = (VW cI cJ cO B gG tG kG ik le by_ tk bg en va tn b0 l0 u0 b1 l1 u1 b2 l2 u2 b3 l3 u3 (countT fS w) cW)) := by
  refine MU.mk (by decide) (Nat.le_of_ble_eq_true rfl) ?_
  intro p e s m below meth c ls S hr hlk hP hK hD hS hl
  have S : CallFix p m c cX3_count 2 s _ WL RX3 := S
  obtain ⟨hx, hb, hml, hown, hts⟩ := id S
  have hl : lv_has ls 2 [(0, .ref (B 0)), (1, .int w)] := hl
  have h8 : n ≤ 8 := hI.1
  refine lv_iload_n hx hb dX3_count_0 rfl (lv_at hl 1 rfl) ?_
  by_cases c1_0 : w = 0
  · refine lv_tableIn (tgt := 32) hx hb dX3_count_1 (by rw [c1_0]; decide) (by rw [c1_0]; decide) (by rw [c1_0]; rfl) rfl ?_
    refine lv_aload_n hx hb dX3_count_32 rfl (lv_at hl 0 rfl) ?_
    refine va_get (ci := 3) (v := .ref (B 1)) hx hb hts wx_X3 hown hK hP 0 rfl rfl 0 (by decide) (hts _ wf_X3_10) (fun _ h9 => h9) rfl dX3_count_33 ?_
    refine va_get (ci := 0) (v := .int (gG 1)) hx hb hts wx_X0 hown hK hP 1 rfl rfl 2 (by decide) (hts _ wf_X3_148) (fun _ h9 => h9) rfl dX3_count_36 ?_
    refine w_i (z := nI n) (hI.2.1) ?_
    have hE : fS = countT fS w := by simp [countR, countT, bump, put9, b2i, c1_0, i_lt, -Int32.not_le, -Int32.not_lt]
    have hW : (VW cI cJ cO B gG tG kG ik le by_ tk bg en va tn b0 l0 u0 b1 l1 u1 b2 l2 u2 b3 l3 u3 fS cW) = (VW cI cJ cO B gG tG kG ik le by_ tk bg en va tn b0 l0 u0 b1 l1 u1 b2 l2 u2 b3 l3 u3 (countT fS w) cW) := congrArg (fun z => (VW cI cJ cO B gG tG kG ik le by_ tk bg en va tn b0 l0 u0 b1 l1 u1 b2 l2 u2 b3 l3 u3 z cW)) hE
    have hP : va_P D vwCl (VW cI cJ cO B gG tG kG ik le by_ tk bg en va tn b0 l0 u0 b1 l1 u1 b2 l2 u2 b3 l3 u3 (countT fS w) cW) s.heap := Eq.mp (congrArg (fun z => va_P D vwCl z s.heap) hW) hP
    have hD : va_D _ (VW cI cJ cO B gG tG kG ik le by_ tk bg en va tn b0 l0 u0 b1 l1 u1 b2 l2 u2 b3 l3 u3 (countT fS w) cW) := Eq.mp (congrArg (fun z => va_D _ z) hW) hD
    exact mu_iret (VW cI cJ cO B gG tG kG ik le by_ tk bg en va tn b0 l0 u0 b1 l1 u1 b2 l2 u2 b3 l3 u3 (countT fS w) cW) hx hb hr hlk hP hS rfl (⟨congrArg (fun z => some (Value.int z)) (by simp [countR, countT, bump, put9, b2i, c1_0, i_lt, -Int32.not_le, -Int32.not_lt]), rfl⟩) dX3_count_39
  by_cases c1_1 : w = 1
  · refine lv_tableIn (tgt := 40) hx hb dX3_count_1 (by rw [c1_1]; decide) (by rw [c1_1]; decide) (by rw [c1_1]; rfl) rfl ?_
    refine lv_aload_n hx hb dX3_count_40 rfl (lv_at hl 0 rfl) ?_
    refine va_get (ci := 3) (v := .ref (B 7)) hx hb hts wx_X3 hown hK hP 0 rfl rfl 4 (by decide) (hts _ wf_X3_29) (fun _ h9 => h9) rfl dX3_count_41 ?_
    refine va_get (ci := 2) (v := .int le) hx hb hts wx_X2 hown hK hP 7 rfl rfl 0 (by decide) (hts _ wf_X3_165) (fun _ h9 => h9) rfl dX3_count_44 ?_
    have hE : fS = countT fS w := by simp [countR, countT, bump, put9, b2i, c1_0, c1_1, i_lt, -Int32.not_le, -Int32.not_lt]
    have hW : (VW cI cJ cO B gG tG kG ik le by_ tk bg en va tn b0 l0 u0 b1 l1 u1 b2 l2 u2 b3 l3 u3 fS cW) = (VW cI cJ cO B gG tG kG ik le by_ tk bg en va tn b0 l0 u0 b1 l1 u1 b2 l2 u2 b3 l3 u3 (countT fS w) cW) := congrArg (fun z => (VW cI cJ cO B gG tG kG ik le by_ tk bg en va tn b0 l0 u0 b1 l1 u1 b2 l2 u2 b3 l3 u3 z cW)) hE
    have hP : va_P D vwCl (VW cI cJ cO B gG tG kG ik le by_ tk bg en va tn b0 l0 u0 b1 l1 u1 b2 l2 u2 b3 l3 u3 (countT fS w) cW) s.heap := Eq.mp (congrArg (fun z => va_P D vwCl z s.heap) hW) hP
    have hD : va_D _ (VW cI cJ cO B gG tG kG ik le by_ tk bg en va tn b0 l0 u0 b1 l1 u1 b2 l2 u2 b3 l3 u3 (countT fS w) cW) := Eq.mp (congrArg (fun z => va_D _ z) hW) hD
    exact mu_iret (VW cI cJ cO B gG tG kG ik le by_ tk bg en va tn b0 l0 u0 b1 l1 u1 b2 l2 u2 b3 l3 u3 (countT fS w) cW) hx hb hr hlk hP hS rfl (⟨congrArg (fun z => some (Value.int z)) (by simp [countR, countT, bump, put9, b2i, c1_0, c1_1, i_lt, -Int32.not_le, -Int32.not_lt]), rfl⟩) dX3_count_47
  by_cases c1_2 : w = 2
  · refine lv_tableIn (tgt := 48) hx hb dX3_count_1 (by rw [c1_2]; decide) (by rw [c1_2]; decide) (by rw [c1_2]; rfl) rfl ?_
    refine lv_aload_n hx hb dX3_count_48 rfl (lv_at hl 0 rfl) ?_
    refine va_get (ci := 3) (v := .ref (B 1)) hx hb hts wx_X3 hown hK hP 0 rfl rfl 0 (by decide) (hts _ wf_X3_10) (fun _ h9 => h9) rfl dX3_count_49 ?_
    refine lv_iconst (v := 4) hx hb dX3_count_52 rfl ?_
    refine ro_V (w := (GW cI (B 1) (B 2) (gG 0) (gG 2) (gG 1) (tl gG))) (rest := []) S hK (hP.sub [1, 2] rfl) (k_X0_sum n 4 hI (by omega)) gv_X3_84 hd_X0_sum ⟨Nat.le_of_ble_eq_true rfl, Nat.le_of_ble_eq_true rfl⟩ 0 rfl rfl rfl rfl hl.1 (lv_room (Nat.le_of_ble_eq_true rfl)) dX3_count_53 ⟨Nat.zero_le _, Nat.zero_le _⟩ ?_
    have hE : fS = countT fS w := by simp [countR, countT, bump, put9, b2i, c1_0, c1_1, c1_2, i_lt, -Int32.not_le, -Int32.not_lt]
    have hW : (VW cI cJ cO B gG tG kG ik le by_ tk bg en va tn b0 l0 u0 b1 l1 u1 b2 l2 u2 b3 l3 u3 fS cW) = (VW cI cJ cO B gG tG kG ik le by_ tk bg en va tn b0 l0 u0 b1 l1 u1 b2 l2 u2 b3 l3 u3 (countT fS w) cW) := congrArg (fun z => (VW cI cJ cO B gG tG kG ik le by_ tk bg en va tn b0 l0 u0 b1 l1 u1 b2 l2 u2 b3 l3 u3 z cW)) hE
    have hP : va_P D vwCl (VW cI cJ cO B gG tG kG ik le by_ tk bg en va tn b0 l0 u0 b1 l1 u1 b2 l2 u2 b3 l3 u3 (countT fS w) cW) s.heap := Eq.mp (congrArg (fun z => va_P D vwCl z s.heap) hW) hP
    have hD : va_D _ (VW cI cJ cO B gG tG kG ik le by_ tk bg en va tn b0 l0 u0 b1 l1 u1 b2 l2 u2 b3 l3 u3 (countT fS w) cW) := Eq.mp (congrArg (fun z => va_D _ z) hW) hD
    exact mu_iret (VW cI cJ cO B gG tG kG ik le by_ tk bg en va tn b0 l0 u0 b1 l1 u1 b2 l2 u2 b3 l3 u3 (countT fS w) cW) hx hb hr hlk hP hS rfl (⟨congrArg (fun z => some (Value.int z)) (by simp [countR, countT, bump, put9, b2i, c1_0, c1_1, c1_2, i_lt, -Int32.not_le, -Int32.not_lt]), rfl⟩) dX3_count_56
  by_cases c1_3 : w = 3
  · refine lv_tableIn (tgt := 57) hx hb dX3_count_1 (by rw [c1_3]; decide) (by rw [c1_3]; decide) (by rw [c1_3]; rfl) rfl ?_
    refine lv_aload_n hx hb dX3_count_57 rfl (lv_at hl 0 rfl) ?_
    refine va_get (ci := 3) (v := .ref (B 1)) hx hb hts wx_X3 hown hK hP 0 rfl rfl 0 (by decide) (hts _ wf_X3_10) (fun _ h9 => h9) rfl dX3_count_58 ?_
    refine lv_iconst (v := 3) hx hb dX3_count_61 rfl ?_
    refine ro_V (w := (GW cI (B 1) (B 2) (gG 0) (gG 2) (gG 1) (tl gG))) (rest := []) S hK (hP.sub [1, 2] rfl) (k_X0_sum n 3 hI (by omega)) gv_X3_84 hd_X0_sum ⟨Nat.le_of_ble_eq_true rfl, Nat.le_of_ble_eq_true rfl⟩ 0 rfl rfl rfl rfl hl.1 (lv_room (Nat.le_of_ble_eq_true rfl)) dX3_count_62 ⟨Nat.zero_le _, Nat.zero_le _⟩ ?_
    have hE : fS = countT fS w := by simp [countR, countT, bump, put9, b2i, c1_0, c1_1, c1_2, c1_3, i_lt, -Int32.not_le, -Int32.not_lt]
    have hW : (VW cI cJ cO B gG tG kG ik le by_ tk bg en va tn b0 l0 u0 b1 l1 u1 b2 l2 u2 b3 l3 u3 fS cW) = (VW cI cJ cO B gG tG kG ik le by_ tk bg en va tn b0 l0 u0 b1 l1 u1 b2 l2 u2 b3 l3 u3 (countT fS w) cW) := congrArg (fun z => (VW cI cJ cO B gG tG kG ik le by_ tk bg en va tn b0 l0 u0 b1 l1 u1 b2 l2 u2 b3 l3 u3 z cW)) hE
    have hP : va_P D vwCl (VW cI cJ cO B gG tG kG ik le by_ tk bg en va tn b0 l0 u0 b1 l1 u1 b2 l2 u2 b3 l3 u3 (countT fS w) cW) s.heap := Eq.mp (congrArg (fun z => va_P D vwCl z s.heap) hW) hP
    have hD : va_D _ (VW cI cJ cO B gG tG kG ik le by_ tk bg en va tn b0 l0 u0 b1 l1 u1 b2 l2 u2 b3 l3 u3 (countT fS w) cW) := Eq.mp (congrArg (fun z => va_D _ z) hW) hD
    exact mu_iret (VW cI cJ cO B gG tG kG ik le by_ tk bg en va tn b0 l0 u0 b1 l1 u1 b2 l2 u2 b3 l3 u3 (countT fS w) cW) hx hb hr hlk hP hS rfl (⟨congrArg (fun z => some (Value.int z)) (by simp [countR, countT, bump, put9, b2i, c1_0, c1_1, c1_2, c1_3, i_lt, -Int32.not_le, -Int32.not_lt]), rfl⟩) dX3_count_65
  refine lv_tableOut (tgt := 66) hx hb dX3_count_1 (by have q0 := lv_neT c1_0 (a := 0) rfl; have q1 := lv_neT c1_1 (a := 1) rfl; have q2 := lv_neT c1_2 (a := 2) rfl; have q3 := lv_neT c1_3 (a := 3) rfl; omega) rfl ?_
  refine lv_aload_n hx hb dX3_count_66 rfl (lv_at hl 0 rfl) ?_
  refine lv_ldc (v := (-1000000001)) hx hb hown (hts _ wq_X3_51) dX3_count_67 ?_
  refine mu_W (w := (VW cI cJ cO B gG tG kG ik le by_ tk bg en va tn b0 l0 u0 b1 l1 u1 b2 l2 u2 b3 l3 u3 fS cW)) (rest := []) S hK hP hD hS (k_X3_finding 0 (-1000000001) (by decide) (by decide)) gv_X3_52 hd_X3_finding ⟨Nat.le_of_ble_eq_true rfl, Nat.le_of_ble_eq_true rfl⟩ 3 rfl rfl rfl rfl hl.1 (lv_room (Nat.le_of_ble_eq_true rfl)) dX3_count_69 ⟨Nat.zero_le _, Nat.zero_le _⟩ (fun ov w' H locs hp hP hD hS => ?_)
  obtain ⟨rfl, rfl⟩ := hp
  refine W.eq (g2 := F0 m 72 ls [.int (-1000000001)]) rfl ?_
  have hE : upd fS 0 (fS 0 + 1) = countT fS w := by simp [countR, countT, bump, put9, b2i, c1_0, c1_1, c1_2, c1_3, i_lt, -Int32.not_le, -Int32.not_lt]
  have hW : (VW cI cJ cO B gG tG kG ik le by_ tk bg en va tn b0 l0 u0 b1 l1 u1 b2 l2 u2 b3 l3 u3 (upd fS 0 (fS 0 + 1)) cW) = (VW cI cJ cO B gG tG kG ik le by_ tk bg en va tn b0 l0 u0 b1 l1 u1 b2 l2 u2 b3 l3 u3 (countT fS w) cW) := congrArg (fun z => (VW cI cJ cO B gG tG kG ik le by_ tk bg en va tn b0 l0 u0 b1 l1 u1 b2 l2 u2 b3 l3 u3 z cW)) hE
  have hP : va_P D vwCl (VW cI cJ cO B gG tG kG ik le by_ tk bg en va tn b0 l0 u0 b1 l1 u1 b2 l2 u2 b3 l3 u3 (countT fS w) cW) H := Eq.mp (congrArg (fun z => va_P D vwCl z H) hW) hP
  have hD : va_D _ (VW cI cJ cO B gG tG kG ik le by_ tk bg en va tn b0 l0 u0 b1 l1 u1 b2 l2 u2 b3 l3 u3 (countT fS w) cW) := Eq.mp (congrArg (fun z => va_D _ z) hW) hD
  exact mu_iret (VW cI cJ cO B gG tG kG ik le by_ tk bg en va tn b0 l0 u0 b1 l1 u1 b2 l2 u2 b3 l3 u3 (countT fS w) cW) hx hb hr hlk hP hS rfl (⟨congrArg (fun z => some (Value.int z)) (by simp [countR, countT, bump, put9, b2i, c1_0, c1_1, c1_2, c1_3, i_lt, -Int32.not_le, -Int32.not_lt]), rfl⟩) dX3_count_72

set_option maxHeartbeats 4000000 in
set_option maxRecDepth 100000 in
theorem k_X3_of (n : Nat) (f : Int32) (w : Int32) (hI : Inv gG n) (hh : rng (gG 0) 0 200000) : MU l D (tyA cI cJ cO) yX3_of cX3_of 3 ((some .int)) 4 91 [.ref (B 0), .int f, .int w] (VW cI cJ cO B gG tG kG ik le by_ tk bg en va tn b0 l0 u0 b1 l1 u1 b2 l2 u2 b3 l3 u3 fS cW) (fun ov w' => ov = some (.int (ofR gG n f w)) ∧ w' = (VW cI cJ cO B gG tG kG ik le by_ tk bg en va tn b0 l0 u0 b1 l1 u1 b2 l2 u2 b3 l3 u3 (okT (isFig n f && inI w 0 11) fS) cW)) := by
  refine MU.mk (by decide) (Nat.le_of_ble_eq_true rfl) ?_
  intro p e s m below meth c ls S hr hlk hP hK hD hS hl
  have S : CallFix p m c cX3_of 3 s _ WL RX3 := S
  obtain ⟨hx, hb, hml, hown, hts⟩ := id S
  have hl : lv_has ls 3 [(0, .ref (B 0)), (1, .int f), (2, .int w)] := hl
  have h8 : n ≤ 8 := hI.1
  refine lv_aload_n hx hb dX3_of_0 rfl (lv_at hl 0 rfl) ?_
  refine va_get (ci := 3) (v := .ref (B 1)) hx hb hts wx_X3 hown hK hP 0 rfl rfl 0 (by decide) (hts _ wf_X3_10) (fun _ h9 => h9) rfl dX3_of_1 ?_
  refine lv_iload_n hx hb dX3_of_4 rfl (lv_at hl 1 rfl) ?_
  refine ro_V (w := (GW cI (B 1) (B 2) (gG 0) (gG 2) (gG 1) (tl gG))) (rest := []) S hK (hP.sub [1, 2] rfl) (k_X0_lacks n f hI) gv_X3_95 hd_X0_lacks ⟨Nat.le_of_ble_eq_true rfl, Nat.le_of_ble_eq_true rfl⟩ 0 rfl rfl rfl rfl hl.1 (lv_room (Nat.le_of_ble_eq_true rfl)) dX3_of_5 ⟨Nat.zero_le _, Nat.zero_le _⟩ ?_
  refine lv_if_eq (tgt := 18) hx hb dX3_of_8 rfl (fun c8 => ?_) (fun c8 => ?_)
  · replace c8 := bn_0 c8
    obtain ⟨k, hk, rfl⟩ := fig_in hI.1 c8
    have h8 := hI.1
    have ek : cl (nI k) = k := cl_nI (by omega)
    refine lv_iload_n hx hb dX3_of_18 rfl (lv_at hl 2 rfl) ?_
    by_cases c19_9 : w = 9
    · refine lv_tableIn (tgt := 44) hx hb dX3_of_19 (by rw [c19_9]; decide) (by rw [c19_9]; decide) (by rw [c19_9]; rfl) rfl ?_
      have qin : inI 9 0 11 = true := by decide
      refine lv_aload_n hx hb dX3_of_44 rfl (lv_at hl 0 rfl) ?_
      refine va_get (ci := 3) (v := .ref (B 1)) hx hb hts wx_X3 hown hK hP 0 rfl rfl 0 (by decide) (hts _ wf_X3_10) (fun _ h9 => h9) rfl dX3_of_45 ?_
      refine lv_iload_n hx hb dX3_of_48 rfl (lv_at hl 1 rfl) ?_
      refine ro_V (w := (GW cI (B 1) (B 2) (gG 0) (gG 2) (gG 1) (tl gG))) (rest := []) S hK (hP.sub [1, 2] rfl) (k_X0_rubs n k hI (by omega)) gv_X3_99 hd_X0_rubs ⟨Nat.le_of_ble_eq_true rfl, Nat.le_of_ble_eq_true rfl⟩ 0 rfl rfl rfl rfl hl.1 (lv_room (Nat.le_of_ble_eq_true rfl)) dX3_of_49 ⟨Nat.zero_le _, Nat.zero_le _⟩ ?_
      have hE : fS = okT (isFig n (nI k) && inI w 0 11) fS := by simp [ofR, okT, bump, put9, b2i, c8, c19_9, ek, qin, i_lt, -Int32.not_le, -Int32.not_lt]
      have hW : (VW cI cJ cO B gG tG kG ik le by_ tk bg en va tn b0 l0 u0 b1 l1 u1 b2 l2 u2 b3 l3 u3 fS cW) = (VW cI cJ cO B gG tG kG ik le by_ tk bg en va tn b0 l0 u0 b1 l1 u1 b2 l2 u2 b3 l3 u3 (okT (isFig n (nI k) && inI w 0 11) fS) cW) := congrArg (fun z => (VW cI cJ cO B gG tG kG ik le by_ tk bg en va tn b0 l0 u0 b1 l1 u1 b2 l2 u2 b3 l3 u3 z cW)) hE
      have hP : va_P D vwCl (VW cI cJ cO B gG tG kG ik le by_ tk bg en va tn b0 l0 u0 b1 l1 u1 b2 l2 u2 b3 l3 u3 (okT (isFig n (nI k) && inI w 0 11) fS) cW) s.heap := Eq.mp (congrArg (fun z => va_P D vwCl z s.heap) hW) hP
      have hD : va_D _ (VW cI cJ cO B gG tG kG ik le by_ tk bg en va tn b0 l0 u0 b1 l1 u1 b2 l2 u2 b3 l3 u3 (okT (isFig n (nI k) && inI w 0 11) fS) cW) := Eq.mp (congrArg (fun z => va_D _ z) hW) hD
      exact mu_iret (VW cI cJ cO B gG tG kG ik le by_ tk bg en va tn b0 l0 u0 b1 l1 u1 b2 l2 u2 b3 l3 u3 (okT (isFig n (nI k) && inI w 0 11) fS) cW) hx hb hr hlk hP hS rfl (⟨congrArg (fun z => some (Value.int z)) (by simp [ofR, okT, bump, put9, b2i, c8, c19_9, ek, qin, i_lt, -Int32.not_le, -Int32.not_lt]), rfl⟩) dX3_of_52
    by_cases c19_10 : w = 10
    · refine lv_tableIn (tgt := 53) hx hb dX3_of_19 (by rw [c19_10]; decide) (by rw [c19_10]; decide) (by rw [c19_10]; rfl) rfl ?_
      have qin : inI 10 0 11 = true := by decide
      refine lv_aload_n hx hb dX3_of_53 rfl (lv_at hl 0 rfl) ?_
      refine va_get (ci := 3) (v := .ref (B 1)) hx hb hts wx_X3 hown hK hP 0 rfl rfl 0 (by decide) (hts _ wf_X3_10) (fun _ h9 => h9) rfl dX3_of_54 ?_
      refine lv_iload_n hx hb dX3_of_57 rfl (lv_at hl 1 rfl) ?_
      have hh := rng_0 hh
      refine ro_V (w := (GW cI (B 1) (B 2) (gG 0) (gG 2) (gG 1) (tl gG))) (rest := []) S hK (hP.sub [1, 2] rfl) (k_X0_isWaiting n k hI (by omega) hh) gv_X3_102 hd_X0_isWaiting ⟨Nat.le_of_ble_eq_true rfl, Nat.le_of_ble_eq_true rfl⟩ 0 rfl rfl rfl rfl hl.1 (lv_room (Nat.le_of_ble_eq_true rfl)) dX3_of_58 ⟨Nat.zero_le _, Nat.zero_le _⟩ ?_
      refine lv_if_eq (tgt := 68) hx hb dX3_of_61 rfl (fun c61 => ?_) (fun c61 => ?_)
      · replace c61 := (b2i_0 _).mp c61
        refine lv_iconst (v := 0) hx hb dX3_of_68 rfl ?_
        have hE : fS = okT (isFig n (nI k) && inI w 0 11) fS := by simp [ofR, okT, bump, put9, b2i, c8, c19_9, c19_10, c61, ek, qin, i_lt, -Int32.not_le, -Int32.not_lt]
        have hW : (VW cI cJ cO B gG tG kG ik le by_ tk bg en va tn b0 l0 u0 b1 l1 u1 b2 l2 u2 b3 l3 u3 fS cW) = (VW cI cJ cO B gG tG kG ik le by_ tk bg en va tn b0 l0 u0 b1 l1 u1 b2 l2 u2 b3 l3 u3 (okT (isFig n (nI k) && inI w 0 11) fS) cW) := congrArg (fun z => (VW cI cJ cO B gG tG kG ik le by_ tk bg en va tn b0 l0 u0 b1 l1 u1 b2 l2 u2 b3 l3 u3 z cW)) hE
        have hP : va_P D vwCl (VW cI cJ cO B gG tG kG ik le by_ tk bg en va tn b0 l0 u0 b1 l1 u1 b2 l2 u2 b3 l3 u3 (okT (isFig n (nI k) && inI w 0 11) fS) cW) s.heap := Eq.mp (congrArg (fun z => va_P D vwCl z s.heap) hW) hP
        have hD : va_D _ (VW cI cJ cO B gG tG kG ik le by_ tk bg en va tn b0 l0 u0 b1 l1 u1 b2 l2 u2 b3 l3 u3 (okT (isFig n (nI k) && inI w 0 11) fS) cW) := Eq.mp (congrArg (fun z => va_D _ z) hW) hD
        exact mu_iret (VW cI cJ cO B gG tG kG ik le by_ tk bg en va tn b0 l0 u0 b1 l1 u1 b2 l2 u2 b3 l3 u3 (okT (isFig n (nI k) && inI w 0 11) fS) cW) hx hb hr hlk hP hS rfl (⟨congrArg (fun z => some (Value.int z)) (by simp [ofR, okT, bump, put9, b2i, c8, c19_9, c19_10, c61, ek, qin, i_lt, -Int32.not_le, -Int32.not_lt]), rfl⟩) dX3_of_69
      · replace c61 := b2i_n0 c61
        refine lv_iconst (v := 1) hx hb dX3_of_64 rfl ?_
        refine lv_goto (tgt := 69) hx hb dX3_of_65 rfl ?_
        have hE : fS = okT (isFig n (nI k) && inI w 0 11) fS := by simp [ofR, okT, bump, put9, b2i, c8, c19_9, c19_10, c61, ek, qin, i_lt, -Int32.not_le, -Int32.not_lt]
        have hW : (VW cI cJ cO B gG tG kG ik le by_ tk bg en va tn b0 l0 u0 b1 l1 u1 b2 l2 u2 b3 l3 u3 fS cW) = (VW cI cJ cO B gG tG kG ik le by_ tk bg en va tn b0 l0 u0 b1 l1 u1 b2 l2 u2 b3 l3 u3 (okT (isFig n (nI k) && inI w 0 11) fS) cW) := congrArg (fun z => (VW cI cJ cO B gG tG kG ik le by_ tk bg en va tn b0 l0 u0 b1 l1 u1 b2 l2 u2 b3 l3 u3 z cW)) hE
        have hP : va_P D vwCl (VW cI cJ cO B gG tG kG ik le by_ tk bg en va tn b0 l0 u0 b1 l1 u1 b2 l2 u2 b3 l3 u3 (okT (isFig n (nI k) && inI w 0 11) fS) cW) s.heap := Eq.mp (congrArg (fun z => va_P D vwCl z s.heap) hW) hP
        have hD : va_D _ (VW cI cJ cO B gG tG kG ik le by_ tk bg en va tn b0 l0 u0 b1 l1 u1 b2 l2 u2 b3 l3 u3 (okT (isFig n (nI k) && inI w 0 11) fS) cW) := Eq.mp (congrArg (fun z => va_D _ z) hW) hD
        exact mu_iret (VW cI cJ cO B gG tG kG ik le by_ tk bg en va tn b0 l0 u0 b1 l1 u1 b2 l2 u2 b3 l3 u3 (okT (isFig n (nI k) && inI w 0 11) fS) cW) hx hb hr hlk hP hS rfl (⟨congrArg (fun z => some (Value.int z)) (by simp [ofR, okT, bump, put9, b2i, c8, c19_9, c19_10, c61, ek, qin, i_lt, -Int32.not_le, -Int32.not_lt]), rfl⟩) dX3_of_69
    by_cases c19_11 : w = 11
    · refine lv_tableIn (tgt := 70) hx hb dX3_of_19 (by rw [c19_11]; decide) (by rw [c19_11]; decide) (by rw [c19_11]; rfl) rfl ?_
      have qin : inI 11 0 11 = true := by decide
      refine lv_aload_n hx hb dX3_of_70 rfl (lv_at hl 0 rfl) ?_
      refine va_get (ci := 3) (v := .ref (B 1)) hx hb hts wx_X3 hown hK hP 0 rfl rfl 0 (by decide) (hts _ wf_X3_10) (fun _ h9 => h9) rfl dX3_of_71 ?_
      refine lv_iload_n hx hb dX3_of_74 rfl (lv_at hl 1 rfl) ?_
      refine ro_V (w := (GW cI (B 1) (B 2) (gG 0) (gG 2) (gG 1) (tl gG))) (rest := []) S hK (hP.sub [1, 2] rfl) (k_X0_isContent n k hI (by omega)) gv_X3_105 hd_X0_isContent ⟨Nat.le_of_ble_eq_true rfl, Nat.le_of_ble_eq_true rfl⟩ 0 rfl rfl rfl rfl hl.1 (lv_room (Nat.le_of_ble_eq_true rfl)) dX3_of_75 ⟨Nat.zero_le _, Nat.zero_le _⟩ ?_
      refine lv_if_eq (tgt := 85) hx hb dX3_of_78 rfl (fun c78 => ?_) (fun c78 => ?_)
      · replace c78 := (b2i_0 _).mp c78
        refine lv_iconst (v := 0) hx hb dX3_of_85 rfl ?_
        have hE : fS = okT (isFig n (nI k) && inI w 0 11) fS := by simp [ofR, okT, bump, put9, b2i, c8, c19_9, c19_10, c19_11, c78, ek, qin, i_lt, -Int32.not_le, -Int32.not_lt]
        have hW : (VW cI cJ cO B gG tG kG ik le by_ tk bg en va tn b0 l0 u0 b1 l1 u1 b2 l2 u2 b3 l3 u3 fS cW) = (VW cI cJ cO B gG tG kG ik le by_ tk bg en va tn b0 l0 u0 b1 l1 u1 b2 l2 u2 b3 l3 u3 (okT (isFig n (nI k) && inI w 0 11) fS) cW) := congrArg (fun z => (VW cI cJ cO B gG tG kG ik le by_ tk bg en va tn b0 l0 u0 b1 l1 u1 b2 l2 u2 b3 l3 u3 z cW)) hE
        have hP : va_P D vwCl (VW cI cJ cO B gG tG kG ik le by_ tk bg en va tn b0 l0 u0 b1 l1 u1 b2 l2 u2 b3 l3 u3 (okT (isFig n (nI k) && inI w 0 11) fS) cW) s.heap := Eq.mp (congrArg (fun z => va_P D vwCl z s.heap) hW) hP
        have hD : va_D _ (VW cI cJ cO B gG tG kG ik le by_ tk bg en va tn b0 l0 u0 b1 l1 u1 b2 l2 u2 b3 l3 u3 (okT (isFig n (nI k) && inI w 0 11) fS) cW) := Eq.mp (congrArg (fun z => va_D _ z) hW) hD
        exact mu_iret (VW cI cJ cO B gG tG kG ik le by_ tk bg en va tn b0 l0 u0 b1 l1 u1 b2 l2 u2 b3 l3 u3 (okT (isFig n (nI k) && inI w 0 11) fS) cW) hx hb hr hlk hP hS rfl (⟨congrArg (fun z => some (Value.int z)) (by simp [ofR, okT, bump, put9, b2i, c8, c19_9, c19_10, c19_11, c78, ek, qin, i_lt, -Int32.not_le, -Int32.not_lt]), rfl⟩) dX3_of_86
      · replace c78 := b2i_n0 c78
        refine lv_iconst (v := 1) hx hb dX3_of_81 rfl ?_
        refine lv_goto (tgt := 86) hx hb dX3_of_82 rfl ?_
        have hE : fS = okT (isFig n (nI k) && inI w 0 11) fS := by simp [ofR, okT, bump, put9, b2i, c8, c19_9, c19_10, c19_11, c78, ek, qin, i_lt, -Int32.not_le, -Int32.not_lt]
        have hW : (VW cI cJ cO B gG tG kG ik le by_ tk bg en va tn b0 l0 u0 b1 l1 u1 b2 l2 u2 b3 l3 u3 fS cW) = (VW cI cJ cO B gG tG kG ik le by_ tk bg en va tn b0 l0 u0 b1 l1 u1 b2 l2 u2 b3 l3 u3 (okT (isFig n (nI k) && inI w 0 11) fS) cW) := congrArg (fun z => (VW cI cJ cO B gG tG kG ik le by_ tk bg en va tn b0 l0 u0 b1 l1 u1 b2 l2 u2 b3 l3 u3 z cW)) hE
        have hP : va_P D vwCl (VW cI cJ cO B gG tG kG ik le by_ tk bg en va tn b0 l0 u0 b1 l1 u1 b2 l2 u2 b3 l3 u3 (okT (isFig n (nI k) && inI w 0 11) fS) cW) s.heap := Eq.mp (congrArg (fun z => va_P D vwCl z s.heap) hW) hP
        have hD : va_D _ (VW cI cJ cO B gG tG kG ik le by_ tk bg en va tn b0 l0 u0 b1 l1 u1 b2 l2 u2 b3 l3 u3 (okT (isFig n (nI k) && inI w 0 11) fS) cW) := Eq.mp (congrArg (fun z => va_D _ z) hW) hD
        exact mu_iret (VW cI cJ cO B gG tG kG ik le by_ tk bg en va tn b0 l0 u0 b1 l1 u1 b2 l2 u2 b3 l3 u3 (okT (isFig n (nI k) && inI w 0 11) fS) cW) hx hb hr hlk hP hS rfl (⟨congrArg (fun z => some (Value.int z)) (by simp [ofR, okT, bump, put9, b2i, c8, c19_9, c19_10, c19_11, c78, ek, qin, i_lt, -Int32.not_le, -Int32.not_lt]), rfl⟩) dX3_of_86
    refine lv_tableOut (tgt := 87) hx hb dX3_of_19 (by have q0 := lv_neT c19_9 (a := 9) rfl; have q1 := lv_neT c19_10 (a := 10) rfl; have q2 := lv_neT c19_11 (a := 11) rfl; omega) rfl ?_
    refine lv_iload_n hx hb dX3_of_87 rfl (lv_at hl 2 rfl) ?_
    refine lv_iconst (v := 0) hx hb dX3_of_88 rfl ?_
    refine lv_bipush (v := 8) hx hb dX3_of_89 rfl ?_
    refine ro_S (w := []) (rest := []) S hK va_P0 (k_X3_isOutside w 0 8) gs_X3_47 hd_X3_isOutside ⟨Nat.le_of_ble_eq_true rfl, Nat.le_of_ble_eq_true rfl⟩ rfl hl.1 (lv_room (Nat.le_of_ble_eq_true rfl)) dX3_of_91 ⟨Nat.zero_le _, Nat.zero_le _⟩ ?_
    refine lv_if_eq (tgt := 106) hx hb dX3_of_94 rfl (fun c94 => ?_) (fun c94 => ?_)
    · replace c94 := bn_0 c94
      obtain ⟨j, hja, hjb, rfl⟩ := in_nat (a := 0) (b := 8) (by decide) c94 (by decide)
      have ej : cl (nI j) = j := cl_nI (by omega)
      have q9 : ¬ nI j = 9 := fun z => absurd (nq_eq (a := j) (b := 9) (by omega) (by omega) z) (by omega)
      have q10 : ¬ nI j = 10 := fun z => absurd (nq_eq (a := j) (b := 10) (by omega) (by omega) z) (by omega)
      have q11 : ¬ nI j = 11 := fun z => absurd (nq_eq (a := j) (b := 11) (by omega) (by omega) z) (by omega)
      have qin : inI (nI j) 0 11 = true := in_mk (a := 0) (b := 11) (by decide) (by omega) (by omega)
      refine lv_aload_n hx hb dX3_of_106 rfl (lv_at hl 0 rfl) ?_
      refine va_get (ci := 3) (v := .ref (B 1)) hx hb hts wx_X3 hown hK hP 0 rfl rfl 0 (by decide) (hts _ wf_X3_10) (fun _ h9 => h9) rfl dX3_of_107 ?_
      refine lv_iload_n hx hb dX3_of_110 rfl (lv_at hl 1 rfl) ?_
      refine lv_iload_n hx hb dX3_of_111 rfl (lv_at hl 2 rfl) ?_
      refine ro_V (w := (GW cI (B 1) (B 2) (gG 0) (gG 2) (gG 1) (tl gG))) (rest := []) S hK (hP.sub [1, 2] rfl) (k_X0_getN k j (by omega) (by omega)) gv_X3_108 hd_X0_get ⟨Nat.le_of_ble_eq_true rfl, Nat.le_of_ble_eq_true rfl⟩ 0 rfl rfl rfl rfl hl.1 (lv_room (Nat.le_of_ble_eq_true rfl)) dX3_of_112 ⟨Nat.zero_le _, Nat.zero_le _⟩ ?_
      have hE : fS = okT (isFig n (nI k) && inI (nI j) 0 11) fS := by simp [ofR, okT, bump, put9, b2i, c8, ek, ej, q9, q10, q11, qin, i_lt, -Int32.not_le, -Int32.not_lt]
      have hW : (VW cI cJ cO B gG tG kG ik le by_ tk bg en va tn b0 l0 u0 b1 l1 u1 b2 l2 u2 b3 l3 u3 fS cW) = (VW cI cJ cO B gG tG kG ik le by_ tk bg en va tn b0 l0 u0 b1 l1 u1 b2 l2 u2 b3 l3 u3 (okT (isFig n (nI k) && inI (nI j) 0 11) fS) cW) := congrArg (fun z => (VW cI cJ cO B gG tG kG ik le by_ tk bg en va tn b0 l0 u0 b1 l1 u1 b2 l2 u2 b3 l3 u3 z cW)) hE
      have hP : va_P D vwCl (VW cI cJ cO B gG tG kG ik le by_ tk bg en va tn b0 l0 u0 b1 l1 u1 b2 l2 u2 b3 l3 u3 (okT (isFig n (nI k) && inI (nI j) 0 11) fS) cW) s.heap := Eq.mp (congrArg (fun z => va_P D vwCl z s.heap) hW) hP
      have hD : va_D _ (VW cI cJ cO B gG tG kG ik le by_ tk bg en va tn b0 l0 u0 b1 l1 u1 b2 l2 u2 b3 l3 u3 (okT (isFig n (nI k) && inI (nI j) 0 11) fS) cW) := Eq.mp (congrArg (fun z => va_D _ z) hW) hD
      exact mu_iret (VW cI cJ cO B gG tG kG ik le by_ tk bg en va tn b0 l0 u0 b1 l1 u1 b2 l2 u2 b3 l3 u3 (okT (isFig n (nI k) && inI (nI j) 0 11) fS) cW) hx hb hr hlk hP hS rfl (⟨congrArg (fun z => some (Value.int z)) (by simp [ofR, okT, bump, put9, b2i, c8, ek, ej, q9, q10, q11, qin, i_lt, -Int32.not_le, -Int32.not_lt]), rfl⟩) dX3_of_115
    · replace c94 := bn_n0 c94
      have qin : inI w 0 11 = false := in_no11 c19_9 c19_10 c19_11 c94
      refine lv_aload_n hx hb dX3_of_97 rfl (lv_at hl 0 rfl) ?_
      refine lv_ldc (v := (-1000000001)) hx hb hown (hts _ wq_X3_51) dX3_of_98 ?_
      refine mu_W (w := (VW cI cJ cO B gG tG kG ik le by_ tk bg en va tn b0 l0 u0 b1 l1 u1 b2 l2 u2 b3 l3 u3 fS cW)) (rest := []) S hK hP hD hS (k_X3_finding 0 (-1000000001) (by decide) (by decide)) gv_X3_52 hd_X3_finding ⟨Nat.le_of_ble_eq_true rfl, Nat.le_of_ble_eq_true rfl⟩ 3 rfl rfl rfl rfl hl.1 (lv_room (Nat.le_of_ble_eq_true rfl)) dX3_of_100 ⟨Nat.zero_le _, Nat.zero_le _⟩ (fun ov w' H locs hp hP hD hS => ?_)
      obtain ⟨rfl, rfl⟩ := hp
      refine W.eq (g2 := F0 m 103 ls [.int (-1000000001)]) rfl ?_
      refine lv_goto (tgt := 115) hx hb dX3_of_103 rfl ?_
      have hE : upd fS 0 (fS 0 + 1) = okT (isFig n (nI k) && inI w 0 11) fS := by simp [ofR, okT, bump, put9, b2i, c8, c19_9, c19_10, c19_11, c94, ek, qin, i_lt, -Int32.not_le, -Int32.not_lt]
      have hW : (VW cI cJ cO B gG tG kG ik le by_ tk bg en va tn b0 l0 u0 b1 l1 u1 b2 l2 u2 b3 l3 u3 (upd fS 0 (fS 0 + 1)) cW) = (VW cI cJ cO B gG tG kG ik le by_ tk bg en va tn b0 l0 u0 b1 l1 u1 b2 l2 u2 b3 l3 u3 (okT (isFig n (nI k) && inI w 0 11) fS) cW) := congrArg (fun z => (VW cI cJ cO B gG tG kG ik le by_ tk bg en va tn b0 l0 u0 b1 l1 u1 b2 l2 u2 b3 l3 u3 z cW)) hE
      have hP : va_P D vwCl (VW cI cJ cO B gG tG kG ik le by_ tk bg en va tn b0 l0 u0 b1 l1 u1 b2 l2 u2 b3 l3 u3 (okT (isFig n (nI k) && inI w 0 11) fS) cW) H := Eq.mp (congrArg (fun z => va_P D vwCl z H) hW) hP
      have hD : va_D _ (VW cI cJ cO B gG tG kG ik le by_ tk bg en va tn b0 l0 u0 b1 l1 u1 b2 l2 u2 b3 l3 u3 (okT (isFig n (nI k) && inI w 0 11) fS) cW) := Eq.mp (congrArg (fun z => va_D _ z) hW) hD
      exact mu_iret (VW cI cJ cO B gG tG kG ik le by_ tk bg en va tn b0 l0 u0 b1 l1 u1 b2 l2 u2 b3 l3 u3 (okT (isFig n (nI k) && inI w 0 11) fS) cW) hx hb hr hlk hP hS rfl (⟨congrArg (fun z => some (Value.int z)) (by simp [ofR, okT, bump, put9, b2i, c8, c19_9, c19_10, c19_11, c94, ek, qin, i_lt, -Int32.not_le, -Int32.not_lt]), rfl⟩) dX3_of_115
  · replace c8 := bn_n0 c8
    refine lv_aload_n hx hb dX3_of_11 rfl (lv_at hl 0 rfl) ?_
    refine lv_ldc (v := (-1000000001)) hx hb hown (hts _ wq_X3_51) dX3_of_12 ?_
    refine mu_W (w := (VW cI cJ cO B gG tG kG ik le by_ tk bg en va tn b0 l0 u0 b1 l1 u1 b2 l2 u2 b3 l3 u3 fS cW)) (rest := []) S hK hP hD hS (k_X3_finding 0 (-1000000001) (by decide) (by decide)) gv_X3_52 hd_X3_finding ⟨Nat.le_of_ble_eq_true rfl, Nat.le_of_ble_eq_true rfl⟩ 3 rfl rfl rfl rfl hl.1 (lv_room (Nat.le_of_ble_eq_true rfl)) dX3_of_14 ⟨Nat.zero_le _, Nat.zero_le _⟩ (fun ov w' H locs hp hP hD hS => ?_)
    obtain ⟨rfl, rfl⟩ := hp
    refine W.eq (g2 := F0 m 17 ls [.int (-1000000001)]) rfl ?_
    have hE : upd fS 0 (fS 0 + 1) = okT (isFig n f && inI w 0 11) fS := by simp [ofR, okT, bump, put9, b2i, c8, i_lt, -Int32.not_le, -Int32.not_lt]
    have hW : (VW cI cJ cO B gG tG kG ik le by_ tk bg en va tn b0 l0 u0 b1 l1 u1 b2 l2 u2 b3 l3 u3 (upd fS 0 (fS 0 + 1)) cW) = (VW cI cJ cO B gG tG kG ik le by_ tk bg en va tn b0 l0 u0 b1 l1 u1 b2 l2 u2 b3 l3 u3 (okT (isFig n f && inI w 0 11) fS) cW) := congrArg (fun z => (VW cI cJ cO B gG tG kG ik le by_ tk bg en va tn b0 l0 u0 b1 l1 u1 b2 l2 u2 b3 l3 u3 z cW)) hE
    have hP : va_P D vwCl (VW cI cJ cO B gG tG kG ik le by_ tk bg en va tn b0 l0 u0 b1 l1 u1 b2 l2 u2 b3 l3 u3 (okT (isFig n f && inI w 0 11) fS) cW) H := Eq.mp (congrArg (fun z => va_P D vwCl z H) hW) hP
    have hD : va_D _ (VW cI cJ cO B gG tG kG ik le by_ tk bg en va tn b0 l0 u0 b1 l1 u1 b2 l2 u2 b3 l3 u3 (okT (isFig n f && inI w 0 11) fS) cW) := Eq.mp (congrArg (fun z => va_D _ z) hW) hD
    exact mu_iret (VW cI cJ cO B gG tG kG ik le by_ tk bg en va tn b0 l0 u0 b1 l1 u1 b2 l2 u2 b3 l3 u3 (okT (isFig n f && inI w 0 11) fS) cW) hx hb hr hlk hP hS rfl (⟨congrArg (fun z => some (Value.int z)) (by simp [ofR, okT, bump, put9, b2i, c8, i_lt, -Int32.not_le, -Int32.not_lt]), rfl⟩) dX3_of_17

end
