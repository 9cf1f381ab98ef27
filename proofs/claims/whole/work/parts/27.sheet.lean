section
variable {l : Launch} {D : va_G} {cI cJ cO : ClassId} {h q h2 q2 : Nat} {g g2 : Nat → Int32}

set_option maxHeartbeats 4000000 in
set_option maxRecDepth 100000 in
theorem k_X0_hang (n : Nat) (k : Int32) (b : Int32) (d : Int32) (hI : Inv g n) (hn : n < 8) : MU l D (tyA cI cJ cO) yX0_hang cX0_hang 5 ((some .int)) 1 24 [.ref h, .int k, .int b, .int d] (GW cI h q (g 0) (g 2) (g 1) (tl g)) (fun ov w' => ov = some (.int (nI n)) ∧ w' = (GW cI h q ((addsF g n k b d) 0) ((addsF g n k b d) 2) ((addsF g n k b d) 1) (tl (addsF g n k b d)))) := by
  refine MU.mk (by decide) (Nat.le_of_ble_eq_true rfl) ?_
  intro p e s m below meth c ls S hr hlk hP hK hD hS hl
  have S : CallFix p m c cX0_hang 5 s _ WL RX0 := S
  obtain ⟨hx, hb, hml, hown, hts⟩ := id S
  have hl : lv_has ls 5 [(0, .ref h), (1, .int k), (2, .int b), (3, .int d)] := hl
  refine lv_aload_n hx hb dX0_hang_0 rfl (lv_at hl 0 rfl) ?_
  refine va_get (ci := 0) (v := .int (g 1)) hx hb hts wx_X0 hown hK hP 0 rfl rfl 2 (by decide) (hts _ wf_X0_18) (fun _ h9 => h9) rfl dX0_hang_1 ?_
  refine w_i (z := nI n) (hI.2.1) ?_
  refine lv_istore (lv' := [(4, .int (nI n)), (0, .ref h), (1, .int k), (2, .int b), (3, .int d)]) hx hb dX0_hang_4 hl (by decide) rfl (fun ls hl => ?_)
  refine lv_aload_n hx hb dX0_hang_6 rfl (lv_at hl 1 rfl) ?_
  refine lv_iload hx hb dX0_hang_7 (lv_at hl 0 rfl) ?_
  refine lv_iconst (v := 0) hx hb dX0_hang_9 rfl ?_
  refine lv_iload_n hx hb dX0_hang_10 rfl (lv_at hl 2 rfl) ?_
  refine mu_W (w := (GW cI h q (g 0) (g 2) (g 1) (tl g))) (rest := []) S hK hP hD hS (k_X0_put n 0 k (by omega) (by omega)) gv_X0_31 hd_X0_put ⟨Nat.le_of_ble_eq_true rfl, Nat.le_of_ble_eq_true rfl⟩ 0 rfl rfl rfl rfl hl.1 (lv_room (Nat.le_of_ble_eq_true rfl)) dX0_hang_11 ⟨Nat.zero_le _, Nat.zero_le _⟩ (fun ov w' H locs hp hP hD hS => ?_)
  obtain ⟨rfl, rfl⟩ := hp
  refine W.eq (g2 := F0 m 14 ls []) rfl ?_
  refine lv_aload_n hx hb dX0_hang_14 rfl (lv_at hl 1 rfl) ?_
  refine lv_iload hx hb dX0_hang_15 (lv_at hl 0 rfl) ?_
  refine lv_iconst (v := 1) hx hb dX0_hang_17 rfl ?_
  refine lv_iload_n hx hb dX0_hang_18 rfl (lv_at hl 3 rfl) ?_
  refine mu_W (w := (GW cI h q ((put9 g n 0 k) 0) ((put9 g n 0 k) 2) ((put9 g n 0 k) 1) (tl (put9 g n 0 k)))) (rest := []) S hK hP hD hS (k_X0_put n 1 b (by omega) (by omega)) gv_X0_31 hd_X0_put ⟨Nat.le_of_ble_eq_true rfl, Nat.le_of_ble_eq_true rfl⟩ 0 rfl rfl rfl rfl hl.1 (lv_room (Nat.le_of_ble_eq_true rfl)) dX0_hang_19 ⟨Nat.zero_le _, Nat.zero_le _⟩ (fun ov w' H locs hp hP hD hS => ?_)
  obtain ⟨rfl, rfl⟩ := hp
  refine W.eq (g2 := F0 m 22 ls []) rfl ?_
  refine lv_aload_n hx hb dX0_hang_22 rfl (lv_at hl 1 rfl) ?_
  refine lv_iload hx hb dX0_hang_23 (lv_at hl 0 rfl) ?_
  refine lv_iconst (v := 2) hx hb dX0_hang_25 rfl ?_
  refine lv_iload_n hx hb dX0_hang_26 rfl (lv_at hl 4 rfl) ?_
  refine mu_W (w := (GW cI h q ((put9 (put9 g n 0 k) n 1 b) 0) ((put9 (put9 g n 0 k) n 1 b) 2) ((put9 (put9 g n 0 k) n 1 b) 1) (tl (put9 (put9 g n 0 k) n 1 b)))) (rest := []) S hK hP hD hS (k_X0_put n 2 d (by omega) (by omega)) gv_X0_31 hd_X0_put ⟨Nat.le_of_ble_eq_true rfl, Nat.le_of_ble_eq_true rfl⟩ 0 rfl rfl rfl rfl hl.1 (lv_room (Nat.le_of_ble_eq_true rfl)) dX0_hang_27 ⟨Nat.zero_le _, Nat.zero_le _⟩ (fun ov w' H locs hp hP hD hS => ?_)
  obtain ⟨rfl, rfl⟩ := hp
  refine W.eq (g2 := F0 m 30 ls []) rfl ?_
  refine lv_aload_n hx hb dX0_hang_30 rfl (lv_at hl 1 rfl) ?_
  refine lv_iload hx hb dX0_hang_31 (lv_at hl 0 rfl) ?_
  refine lv_iconst (v := 3) hx hb dX0_hang_33 rfl ?_
  refine lv_bipush (v := 50) hx hb dX0_hang_34 rfl ?_
  refine mu_W (w := (GW cI h q ((put9 (put9 (put9 g n 0 k) n 1 b) n 2 d) 0) ((put9 (put9 (put9 g n 0 k) n 1 b) n 2 d) 2) ((put9 (put9 (put9 g n 0 k) n 1 b) n 2 d) 1) (tl (put9 (put9 (put9 g n 0 k) n 1 b) n 2 d)))) (rest := []) S hK hP hD hS (k_X0_put n 3 50 (by omega) (by omega)) gv_X0_31 hd_X0_put ⟨Nat.le_of_ble_eq_true rfl, Nat.le_of_ble_eq_true rfl⟩ 0 rfl rfl rfl rfl hl.1 (lv_room (Nat.le_of_ble_eq_true rfl)) dX0_hang_36 ⟨Nat.zero_le _, Nat.zero_le _⟩ (fun ov w' H locs hp hP hD hS => ?_)
  obtain ⟨rfl, rfl⟩ := hp
  refine W.eq (g2 := F0 m 39 ls []) rfl ?_
  refine lv_aload_n hx hb dX0_hang_39 rfl (lv_at hl 1 rfl) ?_
  refine lv_iload hx hb dX0_hang_40 (lv_at hl 0 rfl) ?_
  refine lv_iconst (v := 4) hx hb dX0_hang_42 rfl ?_
  refine lv_iconst (v := 0) hx hb dX0_hang_43 rfl ?_
  refine mu_W (w := (GW cI h q ((put9 (put9 (put9 (put9 g n 0 k) n 1 b) n 2 d) n 3 50) 0) ((put9 (put9 (put9 (put9 g n 0 k) n 1 b) n 2 d) n 3 50) 2) ((put9 (put9 (put9 (put9 g n 0 k) n 1 b) n 2 d) n 3 50) 1) (tl (put9 (put9 (put9 (put9 g n 0 k) n 1 b) n 2 d) n 3 50)))) (rest := []) S hK hP hD hS (k_X0_put n 4 0 (by omega) (by omega)) gv_X0_31 hd_X0_put ⟨Nat.le_of_ble_eq_true rfl, Nat.le_of_ble_eq_true rfl⟩ 0 rfl rfl rfl rfl hl.1 (lv_room (Nat.le_of_ble_eq_true rfl)) dX0_hang_44 ⟨Nat.zero_le _, Nat.zero_le _⟩ (fun ov w' H locs hp hP hD hS => ?_)
  obtain ⟨rfl, rfl⟩ := hp
  refine W.eq (g2 := F0 m 47 ls []) rfl ?_
  refine lv_aload_n hx hb dX0_hang_47 rfl (lv_at hl 1 rfl) ?_
  refine lv_iload hx hb dX0_hang_48 (lv_at hl 0 rfl) ?_
  refine lv_iconst (v := 5) hx hb dX0_hang_50 rfl ?_
  refine lv_iconst (v := 0) hx hb dX0_hang_51 rfl ?_
  refine mu_W (w := (GW cI h q ((put9 (put9 (put9 (put9 (put9 g n 0 k) n 1 b) n 2 d) n 3 50) n 4 0) 0) ((put9 (put9 (put9 (put9 (put9 g n 0 k) n 1 b) n 2 d) n 3 50) n 4 0) 2) ((put9 (put9 (put9 (put9 (put9 g n 0 k) n 1 b) n 2 d) n 3 50) n 4 0) 1) (tl (put9 (put9 (put9 (put9 (put9 g n 0 k) n 1 b) n 2 d) n 3 50) n 4 0)))) (rest := []) S hK hP hD hS (k_X0_put n 5 0 (by omega) (by omega)) gv_X0_31 hd_X0_put ⟨Nat.le_of_ble_eq_true rfl, Nat.le_of_ble_eq_true rfl⟩ 0 rfl rfl rfl rfl hl.1 (lv_room (Nat.le_of_ble_eq_true rfl)) dX0_hang_52 ⟨Nat.zero_le _, Nat.zero_le _⟩ (fun ov w' H locs hp hP hD hS => ?_)
  obtain ⟨rfl, rfl⟩ := hp
  refine W.eq (g2 := F0 m 55 ls []) rfl ?_
  refine lv_aload_n hx hb dX0_hang_55 rfl (lv_at hl 1 rfl) ?_
  refine lv_iload hx hb dX0_hang_56 (lv_at hl 0 rfl) ?_
  refine lv_bipush (v := 6) hx hb dX0_hang_58 rfl ?_
  refine lv_iconst (v := (-1)) hx hb dX0_hang_60 rfl ?_
  refine mu_W (w := (GW cI h q ((put9 (put9 (put9 (put9 (put9 (put9 g n 0 k) n 1 b) n 2 d) n 3 50) n 4 0) n 5 0) 0) ((put9 (put9 (put9 (put9 (put9 (put9 g n 0 k) n 1 b) n 2 d) n 3 50) n 4 0) n 5 0) 2) ((put9 (put9 (put9 (put9 (put9 (put9 g n 0 k) n 1 b) n 2 d) n 3 50) n 4 0) n 5 0) 1) (tl (put9 (put9 (put9 (put9 (put9 (put9 g n 0 k) n 1 b) n 2 d) n 3 50) n 4 0) n 5 0)))) (rest := []) S hK hP hD hS (k_X0_put n 6 (-1) (by omega) (by omega)) gv_X0_31 hd_X0_put ⟨Nat.le_of_ble_eq_true rfl, Nat.le_of_ble_eq_true rfl⟩ 0 rfl rfl rfl rfl hl.1 (lv_room (Nat.le_of_ble_eq_true rfl)) dX0_hang_61 ⟨Nat.zero_le _, Nat.zero_le _⟩ (fun ov w' H locs hp hP hD hS => ?_)
  obtain ⟨rfl, rfl⟩ := hp
  refine W.eq (g2 := F0 m 64 ls []) rfl ?_
  refine lv_aload_n hx hb dX0_hang_64 rfl (lv_at hl 1 rfl) ?_
  refine lv_iload hx hb dX0_hang_65 (lv_at hl 0 rfl) ?_
  refine lv_bipush (v := 7) hx hb dX0_hang_67 rfl ?_
  refine lv_iconst (v := 0) hx hb dX0_hang_69 rfl ?_
  refine mu_W (w := (GW cI h q ((put9 (put9 (put9 (put9 (put9 (put9 (put9 g n 0 k) n 1 b) n 2 d) n 3 50) n 4 0) n 5 0) n 6 (-1)) 0) ((put9 (put9 (put9 (put9 (put9 (put9 (put9 g n 0 k) n 1 b) n 2 d) n 3 50) n 4 0) n 5 0) n 6 (-1)) 2) ((put9 (put9 (put9 (put9 (put9 (put9 (put9 g n 0 k) n 1 b) n 2 d) n 3 50) n 4 0) n 5 0) n 6 (-1)) 1) (tl (put9 (put9 (put9 (put9 (put9 (put9 (put9 g n 0 k) n 1 b) n 2 d) n 3 50) n 4 0) n 5 0) n 6 (-1))))) (rest := []) S hK hP hD hS (k_X0_put n 7 0 (by omega) (by omega)) gv_X0_31 hd_X0_put ⟨Nat.le_of_ble_eq_true rfl, Nat.le_of_ble_eq_true rfl⟩ 0 rfl rfl rfl rfl hl.1 (lv_room (Nat.le_of_ble_eq_true rfl)) dX0_hang_70 ⟨Nat.zero_le _, Nat.zero_le _⟩ (fun ov w' H locs hp hP hD hS => ?_)
  obtain ⟨rfl, rfl⟩ := hp
  refine W.eq (g2 := F0 m 73 ls []) rfl ?_
  refine lv_aload_n hx hb dX0_hang_73 rfl (lv_at hl 1 rfl) ?_
  refine lv_iload hx hb dX0_hang_74 (lv_at hl 0 rfl) ?_
  refine lv_bipush (v := 8) hx hb dX0_hang_76 rfl ?_
  refine lv_iconst (v := 0) hx hb dX0_hang_78 rfl ?_
  refine mu_W (w := (GW cI h q ((put9 (put9 (put9 (put9 (put9 (put9 (put9 (put9 g n 0 k) n 1 b) n 2 d) n 3 50) n 4 0) n 5 0) n 6 (-1)) n 7 0) 0) ((put9 (put9 (put9 (put9 (put9 (put9 (put9 (put9 g n 0 k) n 1 b) n 2 d) n 3 50) n 4 0) n 5 0) n 6 (-1)) n 7 0) 2) ((put9 (put9 (put9 (put9 (put9 (put9 (put9 (put9 g n 0 k) n 1 b) n 2 d) n 3 50) n 4 0) n 5 0) n 6 (-1)) n 7 0) 1) (tl (put9 (put9 (put9 (put9 (put9 (put9 (put9 (put9 g n 0 k) n 1 b) n 2 d) n 3 50) n 4 0) n 5 0) n 6 (-1)) n 7 0)))) (rest := []) S hK hP hD hS (k_X0_put n 8 0 (by omega) (by omega)) gv_X0_31 hd_X0_put ⟨Nat.le_of_ble_eq_true rfl, Nat.le_of_ble_eq_true rfl⟩ 0 rfl rfl rfl rfl hl.1 (lv_room (Nat.le_of_ble_eq_true rfl)) dX0_hang_79 ⟨Nat.zero_le _, Nat.zero_le _⟩ (fun ov w' H locs hp hP hD hS => ?_)
  obtain ⟨rfl, rfl⟩ := hp
  refine W.eq (g2 := F0 m 82 ls []) rfl ?_
  have l0 : (put9 (put9 (put9 (put9 (put9 (put9 (put9 (put9 (put9 g n 0 k) n 1 b) n 2 d) n 3 50) n 4 0) n 5 0) n 6 (-1)) n 7 0) n 8 0) 0 = g 0 := by rw [put_lo (by decide), put_lo (by decide), put_lo (by decide), put_lo (by decide), put_lo (by decide), put_lo (by decide), put_lo (by decide), put_lo (by decide), put_lo (by decide)]
  have l2 : (put9 (put9 (put9 (put9 (put9 (put9 (put9 (put9 (put9 g n 0 k) n 1 b) n 2 d) n 3 50) n 4 0) n 5 0) n 6 (-1)) n 7 0) n 8 0) 2 = g 2 := by rw [put_lo (by decide), put_lo (by decide), put_lo (by decide), put_lo (by decide), put_lo (by decide), put_lo (by decide), put_lo (by decide), put_lo (by decide), put_lo (by decide)]
  refine lv_aload_n hx hb dX0_hang_82 rfl (lv_at hl 1 rfl) ?_
  refine lv_iload hx hb dX0_hang_83 (lv_at hl 0 rfl) ?_
  refine lv_iconst (v := 1) hx hb dX0_hang_85 rfl ?_
  refine lv_iadd hx hb dX0_hang_86 ?_
  refine va_put (ci := 0) (v := .int ((nI n) + 1)) (ty := tyX0 2) hx hb hts wx_X0 tyX0 tyX0_ok nmX0 hown hK hP hD hS 0 rfl rfl 2 (by decide) (hts _ wf_X0_18) (fun _ h9 => h9) rfl (tyX0_ok 2 (by decide)) rfl rfl (Nat.le_of_ble_eq_true rfl) dX0_hang_87 (fun H locs hP hD hS => ?_)
  have hP : va_P D vwCl (GW cI h q ((put9 (put9 (put9 (put9 (put9 (put9 (put9 (put9 (put9 g n 0 k) n 1 b) n 2 d) n 3 50) n 4 0) n 5 0) n 6 (-1)) n 7 0) n 8 0) 0) ((put9 (put9 (put9 (put9 (put9 (put9 (put9 (put9 (put9 g n 0 k) n 1 b) n 2 d) n 3 50) n 4 0) n 5 0) n 6 (-1)) n 7 0) n 8 0) 2) ((nI n) + 1) (tl (put9 (put9 (put9 (put9 (put9 (put9 (put9 (put9 (put9 g n 0 k) n 1 b) n 2 d) n 3 50) n 4 0) n 5 0) n 6 (-1)) n 7 0) n 8 0))) H := hP
  have hD : va_D _ (GW cI h q ((put9 (put9 (put9 (put9 (put9 (put9 (put9 (put9 (put9 g n 0 k) n 1 b) n 2 d) n 3 50) n 4 0) n 5 0) n 6 (-1)) n 7 0) n 8 0) 0) ((put9 (put9 (put9 (put9 (put9 (put9 (put9 (put9 (put9 g n 0 k) n 1 b) n 2 d) n 3 50) n 4 0) n 5 0) n 6 (-1)) n 7 0) n 8 0) 2) ((nI n) + 1) (tl (put9 (put9 (put9 (put9 (put9 (put9 (put9 (put9 (put9 g n 0 k) n 1 b) n 2 d) n 3 50) n 4 0) n 5 0) n 6 (-1)) n 7 0) n 8 0))) := hD
  have hW : (GW cI h q ((put9 (put9 (put9 (put9 (put9 (put9 (put9 (put9 (put9 g n 0 k) n 1 b) n 2 d) n 3 50) n 4 0) n 5 0) n 6 (-1)) n 7 0) n 8 0) 0) ((put9 (put9 (put9 (put9 (put9 (put9 (put9 (put9 (put9 g n 0 k) n 1 b) n 2 d) n 3 50) n 4 0) n 5 0) n 6 (-1)) n 7 0) n 8 0) 2) ((nI n) + 1) (tl (put9 (put9 (put9 (put9 (put9 (put9 (put9 (put9 (put9 g n 0 k) n 1 b) n 2 d) n 3 50) n 4 0) n 5 0) n 6 (-1)) n 7 0) n 8 0))) = (GW cI h q ((addsF g n k b d) 0) ((addsF g n k b d) 2) ((addsF g n k b d) 1) (tl (addsF g n k b d))) := gw_eq (g := addsF g n k b d) (l0.trans adds_lo.1.symm) (l2.trans adds_lo.2.2.symm) (adds_lo.2.1.symm) (adds_tl)
  have hP : va_P D vwCl (GW cI h q ((addsF g n k b d) 0) ((addsF g n k b d) 2) ((addsF g n k b d) 1) (tl (addsF g n k b d))) H := Eq.mp (congrArg (fun z => va_P D vwCl z H) hW) hP
  have hD : va_D _ (GW cI h q ((addsF g n k b d) 0) ((addsF g n k b d) 2) ((addsF g n k b d) 1) (tl (addsF g n k b d))) := Eq.mp (congrArg (fun z => va_D _ z) hW) hD
  refine lv_iload hx hb dX0_hang_90 (lv_at hl 0 rfl) ?_
  exact mu_iret (GW cI h q ((addsF g n k b d) 0) ((addsF g n k b d) 2) ((addsF g n k b d) 1) (tl (addsF g n k b d))) hx hb hr hlk hP hS rfl (⟨rfl, rfl⟩) dX0_hang_92

set_option maxHeartbeats 4000000 in
set_option maxRecDepth 100000 in
theorem k_X0_become : MU l D (tyA cI cJ cO) yX0_become cX0_become 2 none 1 40 [.ref h, .ref h2] (G2 cI h q (g 0) (g 2) (g 1) (tl g) h2 q2 (g2 0) (g2 2) (g2 1) (tl g2)) (fun ov w' => ov = none ∧ w' = (G2 cI h q (g2 0) (g2 2) (g2 1) (tl g2) h2 q2 (g2 0) (g2 2) (g2 1) (tl g2))) := by
  refine MU.mk (by decide) (Nat.le_of_ble_eq_true rfl) ?_
  intro p e s m below meth c ls S hr hlk hP hK hD hS hl
  have S : CallFix p m c cX0_become 2 s _ WL RX0 := S
  obtain ⟨hx, hb, hml, hown, hts⟩ := id S
  have hl : lv_has ls 2 [(0, .ref h), (1, .ref h2)] := hl
  refine lv_aload_n hx hb dX0_become_0 rfl (lv_at hl 1 rfl) ?_
  refine lv_ifnonnull (tgt := 5) hx hb dX0_become_1 rfl ?_
  refine lv_aload_n hx hb dX0_become_5 rfl (lv_at hl 0 rfl) ?_
  refine lv_aload_n hx hb dX0_become_6 rfl (lv_at hl 1 rfl) ?_
  refine va_get (ci := 0) (v := .int (g2 0)) hx hb hts wx_X0 hown hK hP 2 rfl rfl 0 (by decide) (hts _ wf_X0_9) (fun _ h9 => h9) rfl dX0_become_7 ?_
  refine va_put (ci := 0) (v := .int (g2 0)) (ty := tyX0 0) hx hb hts wx_X0 tyX0 tyX0_ok nmX0 hown hK hP hD hS 0 rfl rfl 0 (by decide) (hts _ wf_X0_9) (fun _ h9 => h9) rfl (tyX0_ok 0 (by decide)) rfl rfl (Nat.le_of_ble_eq_true rfl) dX0_become_10 (fun H locs hP hD hS => ?_)
  have hP : va_P D vwCl (G2 cI h q (g2 0) (g 2) (g 1) (tl g) h2 q2 (g2 0) (g2 2) (g2 1) (tl g2)) H := hP
  have hD : va_D _ (G2 cI h q (g2 0) (g 2) (g 1) (tl g) h2 q2 (g2 0) (g2 2) (g2 1) (tl g2)) := hD
  refine lv_aload_n hx hb dX0_become_13 rfl (lv_at hl 0 rfl) ?_
  refine lv_aload_n hx hb dX0_become_14 rfl (lv_at hl 1 rfl) ?_
  refine va_get (ci := 0) (v := .int (g2 2)) hx hb hts wx_X0 hown hK hP 2 rfl rfl 1 (by decide) (hts _ wf_X0_15) (fun _ h9 => h9) rfl dX0_become_15 ?_
  refine va_put (ci := 0) (v := .int (g2 2)) (ty := tyX0 1) hx hb hts wx_X0 tyX0 tyX0_ok nmX0 hown hK hP hD hS 0 rfl rfl 1 (by decide) (hts _ wf_X0_15) (fun _ h9 => h9) rfl (tyX0_ok 1 (by decide)) rfl rfl (Nat.le_of_ble_eq_true rfl) dX0_become_18 (fun H locs hP hD hS => ?_)
  have hP : va_P D vwCl (G2 cI h q (g2 0) (g2 2) (g 1) (tl g) h2 q2 (g2 0) (g2 2) (g2 1) (tl g2)) H := hP
  have hD : va_D _ (G2 cI h q (g2 0) (g2 2) (g 1) (tl g) h2 q2 (g2 0) (g2 2) (g2 1) (tl g2)) := hD
  refine lv_aload_n hx hb dX0_become_21 rfl (lv_at hl 0 rfl) ?_
  refine lv_aload_n hx hb dX0_become_22 rfl (lv_at hl 1 rfl) ?_
  refine va_get (ci := 0) (v := .int (g2 1)) hx hb hts wx_X0 hown hK hP 2 rfl rfl 2 (by decide) (hts _ wf_X0_18) (fun _ h9 => h9) rfl dX0_become_23 ?_
  refine va_put (ci := 0) (v := .int (g2 1)) (ty := tyX0 2) hx hb hts wx_X0 tyX0 tyX0_ok nmX0 hown hK hP hD hS 0 rfl rfl 2 (by decide) (hts _ wf_X0_18) (fun _ h9 => h9) rfl (tyX0_ok 2 (by decide)) rfl rfl (Nat.le_of_ble_eq_true rfl) dX0_become_26 (fun H locs hP hD hS => ?_)
  have hP : va_P D vwCl (G2 cI h q (g2 0) (g2 2) (g2 1) (tl g) h2 q2 (g2 0) (g2 2) (g2 1) (tl g2)) H := hP
  have hD : va_D _ (G2 cI h q (g2 0) (g2 2) (g2 1) (tl g) h2 q2 (g2 0) (g2 2) (g2 1) (tl g2)) := hD
  refine lv_aload_n hx hb dX0_become_29 rfl (lv_at hl 1 rfl) ?_
  refine va_get (ci := 0) (v := .ref q2) hx hb hts wx_X0 hown hK hP 2 rfl rfl 3 (by decide) (hts _ wf_X0_21) (fun _ h9 => h9) rfl dX0_become_30 ?_
  refine lv_iconst (v := 0) hx hb dX0_become_33 rfl ?_
  refine lv_aload_n hx hb dX0_become_34 rfl (lv_at hl 0 rfl) ?_
  refine va_get (ci := 0) (v := .ref q) hx hb hts wx_X0 hown hK hP 0 rfl rfl 3 (by decide) (hts _ wf_X0_21) (fun _ h9 => h9) rfl dX0_become_35 ?_
  refine lv_iconst (v := 0) hx hb dX0_become_38 rfl ?_
  refine lv_bipush (v := 72) hx hb dX0_become_39 rfl ?_
  refine va_copyi hx hb (hml.trans hl.1.symm) hown (hts _ wm_X0_25) (hts _ wv_System_arraycopy_e82) (hts _ wt_System_arraycopy_e82) (hts _ wi_J10) hK hP hD hS 3 1 0 0 rfl rfl rfl rfl rfl (by decide) (by decide) (by decide) (by decide) (by decide) (fun _ _ => rfl) (Nat.le_of_ble_eq_true rfl) (Nat.le_of_ble_eq_true rfl) dX0_become_41 (fun H locs hP hD hS => ?_)
  have hP : va_P D vwCl (G2 cI h q (g2 0) (g2 2) (g2 1) (tl g2) h2 q2 (g2 0) (g2 2) (g2 1) (tl g2)) H := hP.fi 1 (tl g2) rfl (fun j hj => sb_cpy0 hj)
  have hD : va_D _ (G2 cI h q (g2 0) (g2 2) (g2 1) (tl g2) h2 q2 (g2 0) (g2 2) (g2 1) (tl g2)) := hD.addr rfl
  exact mu_vret (G2 cI h q (g2 0) (g2 2) (g2 1) (tl g2) h2 q2 (g2 0) (g2 2) (g2 1) (tl g2)) hx hb hr hlk hP hS rfl (⟨rfl, rfl⟩) dX0_become_44

end
section
variable {l : Launch} {D : va_G} {cI cJ cO : ClassId} {h q : Nat} {bi le : Int32} {nu : Nat → Int64}

set_option maxHeartbeats 4000000 in
set_option maxRecDepth 100000 in
theorem k_X1_isMissing : RO l D (tyA cI cJ cO) yX1_isMissing cX1_isMissing 1 ((some .boolean)) 0 0 [.ref h] (SW cJ h q bi le nu) (.int (b2i (decide (bi = 0)))) := by
  refine RO.mk (by decide) (Nat.le_of_ble_eq_true rfl) ?_
  intro p e s m below meth c ls S hr hlk hP hK hl
  have S : CallFix p m c cX1_isMissing 1 s _ WL RX1 := S
  obtain ⟨hx, hb, hml, hown, hts⟩ := id S
  have hl : lv_has ls 1 [(0, .ref h)] := hl
  refine lv_aload_n hx hb dX1_isMissing_0 rfl (lv_at hl 0 rfl) ?_
  refine va_get (ci := 1) (v := .int bi) hx hb hts wx_X1 hown hK hP 0 rfl rfl 0 (by decide) (hts _ wf_X1_9) (fun _ h9 => h9) rfl dX1_isMissing_1 ?_
  refine lv_if_ne (tgt := 11) hx hb dX1_isMissing_4 rfl (fun c4 => ?_) (fun c4 => ?_)
  · refine lv_iconst (v := 0) hx hb dX1_isMissing_11 rfl ?_
    exact ro_zret hx hb hr hlk (by first | (simp [b2i, c4, i_lt, -Int32.not_le, -Int32.not_lt]; done) | (simp_all; done) | (simp_all [b2i]; done)) dX1_isMissing_12
  · refine lv_iconst (v := 1) hx hb dX1_isMissing_7 rfl ?_
    refine lv_goto (tgt := 12) hx hb dX1_isMissing_8 rfl ?_
    exact ro_zret hx hb hr hlk (by first | (simp [b2i, c4, i_lt, -Int32.not_le, -Int32.not_lt]; done) | (simp_all; done) | (simp_all [b2i]; done)) dX1_isMissing_12

set_option maxHeartbeats 4000000 in
set_option maxRecDepth 100000 in
theorem k_X1_lowest (v : Int64) : RO l D (tyA cI cJ cO) yX1_lowest cX1_lowest 3 ((some .long)) 0 0 [.ref h, .long v] (SW cJ h q bi le nu) (.long (narL bi v)) := by
  refine RO.mk (by decide) (Nat.le_of_ble_eq_true rfl) ?_
  intro p e s m below meth c ls S hr hlk hP hK hl
  have S : CallFix p m c cX1_lowest 3 s _ WL RX1 := S
  obtain ⟨hx, hb, hml, hown, hts⟩ := id S
  have hl : lv_has ls 3 [(0, .ref h), (1, .long v)] := hl
  refine lv_aload_n hx hb dX1_lowest_0 rfl (lv_at hl 0 rfl) ?_
  refine va_get (ci := 1) (v := .int bi) hx hb hts wx_X1 hown hK hP 0 rfl rfl 0 (by decide) (hts _ wf_X1_9) (fun _ h9 => h9) rfl dX1_lowest_1 ?_
  by_cases c4_8 : bi = 8
  · refine lv_lookup (tgt := 32) (off := 28) hx hb dX1_lowest_4 rfl (by rw [c4_8]; rfl) rfl ?_
    refine lv_lload_n hx hb dX1_lowest_32 rfl (lv_at hl 1 rfl) ?_
    refine lv_l2i hx hb dX1_lowest_33 rfl ?_
    refine lv_i2b hx hb dX1_lowest_34 rfl ?_
    refine lv_i2l hx hb dX1_lowest_35 rfl ?_
    exact ro_lret hx hb hr hlk (by rw [narL, if_pos c4_8]) dX1_lowest_36
  by_cases c4_16 : bi = 16
  · refine lv_lookup (tgt := 37) (off := 33) hx hb dX1_lowest_4 rfl (by rw [c4_16]; rfl) rfl ?_
    refine lv_lload_n hx hb dX1_lowest_37 rfl (lv_at hl 1 rfl) ?_
    refine lv_l2i hx hb dX1_lowest_38 rfl ?_
    refine lv_i2s hx hb dX1_lowest_39 rfl ?_
    refine lv_i2l hx hb dX1_lowest_40 rfl ?_
    exact ro_lret hx hb hr hlk (by rw [narL, if_neg c4_8, if_pos c4_16]) dX1_lowest_41
  refine lv_lookup (tgt := 42) (off := 38) hx hb dX1_lowest_4 rfl (by show Op.lookupswitch.offset [(8, 28), (16, 33)] _ _ = _; rw [lv_osw c4_8 (k := 8) (a := 8) (by decide)]; rw [lv_osw c4_16 (k := 16) (a := 16) (by decide)]; rfl) rfl ?_
  refine lv_lload_n hx hb dX1_lowest_42 rfl (lv_at hl 1 rfl) ?_
  exact ro_lret hx hb hr hlk (by rw [narL, if_neg c4_8, if_neg c4_16]) dX1_lowest_43

set_option maxHeartbeats 4000000 in
set_option maxRecDepth 100000 in
theorem k_X1_get (z : Nat) (i : Nat) (hi : i < z) (hz : z ≤ 40) : RO l D (tyA cI cJ cO) yX1_get cX1_get 2 ((some .long)) 0 0 [.ref h, .int (nI i)] (SW cJ h q bi (nI z) nu) (.long (nu i)) := by
  refine RO.mk (by decide) (Nat.le_of_ble_eq_true rfl) ?_
  intro p e s m below meth c ls S hr hlk hP hK hl
  have S : CallFix p m c cX1_get 2 s _ WL RX1 := S
  obtain ⟨hx, hb, hml, hown, hts⟩ := id S
  have hl : lv_has ls 2 [(0, .ref h), (1, .int (nI i))] := hl
  refine lv_iload_n hx hb dX1_get_0 rfl (lv_at hl 1 rfl) ?_
  refine lv_if_lt (tgt := 27) hx hb dX1_get_1 rfl (fun c1 => ?_) (fun c1 => ?_)
  · exact absurd c1 (nI_pos (by omega))
  · refine lv_iload_n hx hb dX1_get_4 rfl (lv_at hl 1 rfl) ?_
    refine lv_aload_n hx hb dX1_get_5 rfl (lv_at hl 0 rfl) ?_
    refine va_get (ci := 1) (v := .int (nI z)) hx hb hts wx_X1 hown hK hP 0 rfl rfl 1 (by decide) (hts _ wf_X1_15) (fun _ h9 => h9) rfl dX1_get_6 ?_
    refine lv_icmp_ge (tgt := 27) hx hb dX1_get_9 rfl (fun c9 => ?_) (fun c9 => ?_)
    · exact absurd (nq_le (by omega) (by omega) c9) (by omega)
    · replace c9 := nq_nle (a := z) (b := i) (by omega) (by omega) c9
      refine lv_iload_n hx hb dX1_get_12 rfl (lv_at hl 1 rfl) ?_
      refine lv_bipush (v := 40) hx hb dX1_get_13 rfl ?_
      refine lv_icmp_ge (tgt := 27) hx hb dX1_get_15 rfl (fun c15 => ?_) (fun c15 => ?_)
      · exact absurd (nq_le (a := 40) (b := i) (by omega) (by omega) c15) (by omega)
      · replace c15 := nq_nle (a := 40) (b := i) (by omega) (by omega) c15
        refine lv_aload_n hx hb dX1_get_18 rfl (lv_at hl 0 rfl) ?_
        refine va_get (ci := 1) (v := .ref q) hx hb hts wx_X1 hown hK hP 0 rfl rfl 2 (by decide) (hts _ wf_X1_18) (fun _ h9 => h9) rfl dX1_get_19 ?_
        refine lv_iload_n hx hb dX1_get_22 rfl (lv_at hl 1 rfl) ?_
        refine la_ld hx hb hK hP 1 1 rfl rfl i (rfl) (by omega) (by decide) dX1_get_23 ?_
        refine lv_goto (tgt := 28) hx hb dX1_get_24 rfl ?_
        exact ro_lret hx hb hr hlk (rfl) dX1_get_28

set_option maxHeartbeats 4000000 in
set_option maxRecDepth 100000 in
theorem k_X1_put (z : Nat) (i : Nat) (v : Int64) (hi : i < z) (hz : z ≤ 40) : MU l D (tyA cI cJ cO) yX1_put cX1_put 4 none 1 22 [.ref h, .int (nI i), .long v] (SW cJ h q bi (nI z) nu) (fun ov w' => ov = none ∧ w' = (SW cJ h q bi (nI z) (vp_updL nu i (narL bi v)))) := by
  refine MU.mk (by decide) (Nat.le_of_ble_eq_true rfl) ?_
  intro p e s m below meth c ls S hr hlk hP hK hD hS hl
  have S : CallFix p m c cX1_put 4 s _ WL RX1 := S
  obtain ⟨hx, hb, hml, hown, hts⟩ := id S
  have hl : lv_has ls 4 [(0, .ref h), (1, .int (nI i)), (2, .long v)] := hl
  refine lv_iload_n hx hb dX1_put_0 rfl (lv_at hl 1 rfl) ?_
  refine lv_if_lt (tgt := 29) hx hb dX1_put_1 rfl (fun c1 => ?_) (fun c1 => ?_)
  · exact absurd c1 (nI_pos (by omega))
  · refine lv_iload_n hx hb dX1_put_4 rfl (lv_at hl 1 rfl) ?_
    refine lv_aload_n hx hb dX1_put_5 rfl (lv_at hl 0 rfl) ?_
    refine va_get (ci := 1) (v := .int (nI z)) hx hb hts wx_X1 hown hK hP 0 rfl rfl 1 (by decide) (hts _ wf_X1_15) (fun _ h9 => h9) rfl dX1_put_6 ?_
    refine lv_icmp_ge (tgt := 29) hx hb dX1_put_9 rfl (fun c9 => ?_) (fun c9 => ?_)
    · exact absurd (nq_le (by omega) (by omega) c9) (by omega)
    · replace c9 := nq_nle (a := z) (b := i) (by omega) (by omega) c9
      refine lv_iload_n hx hb dX1_put_12 rfl (lv_at hl 1 rfl) ?_
      refine lv_bipush (v := 40) hx hb dX1_put_13 rfl ?_
      refine lv_icmp_ge (tgt := 29) hx hb dX1_put_15 rfl (fun c15 => ?_) (fun c15 => ?_)
      · exact absurd (nq_le (a := 40) (b := i) (by omega) (by omega) c15) (by omega)
      · replace c15 := nq_nle (a := 40) (b := i) (by omega) (by omega) c15
        refine lv_aload_n hx hb dX1_put_18 rfl (lv_at hl 0 rfl) ?_
        refine va_get (ci := 1) (v := .ref q) hx hb hts wx_X1 hown hK hP 0 rfl rfl 2 (by decide) (hts _ wf_X1_18) (fun _ h9 => h9) rfl dX1_put_19 ?_
        refine lv_iload_n hx hb dX1_put_22 rfl (lv_at hl 1 rfl) ?_
        refine lv_aload_n hx hb dX1_put_23 rfl (lv_at hl 0 rfl) ?_
        refine lv_lload_n hx hb dX1_put_24 rfl (lv_at hl 2 rfl) ?_
        refine ro_V (w := (SW cJ h q bi (nI z) nu)) (rest := [.int (nI i), .ref q]) S hK hP (k_X1_lowest v) gv_X1_22 hd_X1_lowest ⟨Nat.le_of_ble_eq_true rfl, Nat.le_of_ble_eq_true rfl⟩ 1 rfl rfl rfl rfl hl.1 (lv_room (Nat.le_of_ble_eq_true rfl)) dX1_put_25 ⟨Nat.zero_le _, Nat.zero_le _⟩ ?_
        refine la_st hx hb hK hP hD hS 1 1 rfl rfl i (rfl) (by omega) (by decide) dX1_put_28 (fun H locs hP hD hS => ?_)
        have hP : va_P D vwCl (SW cJ h q bi (nI z) (vp_updL nu i (narL bi v))) H := hP
        have hD : va_D _ (SW cJ h q bi (nI z) (vp_updL nu i (narL bi v))) := hD
        exact mu_vret (SW cJ h q bi (nI z) (vp_updL nu i (narL bi v))) hx hb hr hlk hP hS rfl (⟨rfl, rfl⟩) dX1_put_29

set_option maxHeartbeats 4000000 in
set_option maxRecDepth 100000 in
theorem k_X1_lacks (a : Int32) (k : Int32) : RO l D (tyA cI cJ cO) yX1_lacks cX1_lacks 3 ((some .boolean)) 0 0 [.ref h, .int a, .int k] (SW cJ h q bi le nu) (.int (b2i (!lackS le a k))) := by
  refine RO.mk (by decide) (Nat.le_of_ble_eq_true rfl) ?_
  intro p e s m below meth c ls S hr hlk hP hK hl
  have S : CallFix p m c cX1_lacks 3 s _ WL RX1 := S
  obtain ⟨hx, hb, hml, hown, hts⟩ := id S
  have hl : lv_has ls 3 [(0, .ref h), (1, .int a), (2, .int k)] := hl
  refine lv_iload_n hx hb dX1_lacks_0 rfl (lv_at hl 1 rfl) ?_
  refine lv_if_lt (tgt := 26) hx hb dX1_lacks_1 rfl (fun c1 => ?_) (fun c1 => ?_)
  · replace c1 := Int32.not_le.mpr c1
    refine lv_iconst (v := 1) hx hb dX1_lacks_26 rfl ?_
    refine lv_goto (tgt := 31) hx hb dX1_lacks_27 rfl ?_
    exact ro_zret hx hb hr hlk (by first | (simp [lackS, b2i, c1, i_lt, -Int32.not_le, -Int32.not_lt]; done) | (simp_all; done) | (simp_all [lackS, b2i]; done)) dX1_lacks_31
  · replace c1 := Int32.not_lt.mp c1
    refine lv_iload_n hx hb dX1_lacks_4 rfl (lv_at hl 2 rfl) ?_
    refine lv_if_lt (tgt := 26) hx hb dX1_lacks_5 rfl (fun c5 => ?_) (fun c5 => ?_)
    · replace c5 := Int32.not_le.mpr c5
      refine lv_iconst (v := 1) hx hb dX1_lacks_26 rfl ?_
      refine lv_goto (tgt := 31) hx hb dX1_lacks_27 rfl ?_
      exact ro_zret hx hb hr hlk (by first | (simp [lackS, b2i, c1, c5, i_lt, -Int32.not_le, -Int32.not_lt]; done) | (simp_all; done) | (simp_all [lackS, b2i]; done)) dX1_lacks_31
    · replace c5 := Int32.not_lt.mp c5
      refine lv_iload_n hx hb dX1_lacks_8 rfl (lv_at hl 1 rfl) ?_
      refine lv_aload_n hx hb dX1_lacks_9 rfl (lv_at hl 0 rfl) ?_
      refine va_get (ci := 1) (v := .int le) hx hb hts wx_X1 hown hK hP 0 rfl rfl 1 (by decide) (hts _ wf_X1_15) (fun _ h9 => h9) rfl dX1_lacks_10 ?_
      refine lv_icmp_gt (tgt := 26) hx hb dX1_lacks_13 rfl (fun c13 => ?_) (fun c13 => ?_)
      · replace c13 := Int32.not_le.mpr c13
        refine lv_iconst (v := 1) hx hb dX1_lacks_26 rfl ?_
        refine lv_goto (tgt := 31) hx hb dX1_lacks_27 rfl ?_
        exact ro_zret hx hb hr hlk (by first | (simp [lackS, b2i, c1, c5, c13, i_lt, -Int32.not_le, -Int32.not_lt]; done) | (simp_all; done) | (simp_all [lackS, b2i]; done)) dX1_lacks_31
      · replace c13 := Int32.not_lt.mp c13
        refine lv_iload_n hx hb dX1_lacks_16 rfl (lv_at hl 2 rfl) ?_
        refine lv_aload_n hx hb dX1_lacks_17 rfl (lv_at hl 0 rfl) ?_
        refine va_get (ci := 1) (v := .int le) hx hb hts wx_X1 hown hK hP 0 rfl rfl 1 (by decide) (hts _ wf_X1_15) (fun _ h9 => h9) rfl dX1_lacks_18 ?_
        refine lv_iload_n hx hb dX1_lacks_21 rfl (lv_at hl 1 rfl) ?_
        refine lv_isub hx hb dX1_lacks_22 ?_
        refine lv_icmp_le (tgt := 30) hx hb dX1_lacks_23 rfl (fun c23 => ?_) (fun c23 => ?_)
        · refine lv_iconst (v := 0) hx hb dX1_lacks_30 rfl ?_
          exact ro_zret hx hb hr hlk (by first | (simp [lackS, b2i, c1, c5, c13, c23, i_lt, -Int32.not_le, -Int32.not_lt]; done) | (simp_all; done) | (simp_all [lackS, b2i]; done)) dX1_lacks_31
        · refine lv_iconst (v := 1) hx hb dX1_lacks_26 rfl ?_
          refine lv_goto (tgt := 31) hx hb dX1_lacks_27 rfl ?_
          exact ro_zret hx hb hr hlk (by first | (simp [lackS, b2i, c1, c5, c13, c23, i_lt, -Int32.not_le, -Int32.not_lt]; done) | (simp_all; done) | (simp_all [lackS, b2i]; done)) dX1_lacks_31

set_option maxHeartbeats 4000000 in
set_option maxRecDepth 100000 in
theorem k_X1_lay (b : Int32) (k : Int32) : MU l D (tyA cI cJ cO) yX1_lay cX1_lay 4 none 0 0 [.ref h, .int b, .int k] (SW cJ h q bi le nu) (fun ov w' => ov = none ∧ w' = (SW cJ h q b (shtZ b k) (fun _ => 0))) := by
  refine MU.mk (by decide) (Nat.le_of_ble_eq_true rfl) ?_
  intro p e s m below meth c ls S hr hlk hP hK hD hS hl
  have S : CallFix p m c cX1_lay 4 s _ WL RX1 := S
  obtain ⟨hx, hb, hml, hown, hts⟩ := id S
  have hl : lv_has ls 4 [(0, .ref h), (1, .int b), (2, .int k)] := hl
  refine lv_aload_n hx hb dX1_lay_0 rfl (lv_at hl 0 rfl) ?_
  refine lv_iload_n hx hb dX1_lay_1 rfl (lv_at hl 1 rfl) ?_
  refine va_put (ci := 1) (v := .int b) (ty := tyX1 0) hx hb hts wx_X1 tyX1 tyX1_ok nmX1 hown hK hP hD hS 0 rfl rfl 0 (by decide) (hts _ wf_X1_9) (fun _ h9 => h9) rfl (tyX1_ok 0 (by decide)) rfl rfl (Nat.le_of_ble_eq_true rfl) dX1_lay_2 (fun H locs hP hD hS => ?_)
  have hP : va_P D vwCl (SW cJ h q b le nu) H := hP
  have hD : va_D _ (SW cJ h q b le nu) := hD
  refine lv_aload_n hx hb dX1_lay_5 rfl (lv_at hl 0 rfl) ?_
  refine lv_iload_n hx hb dX1_lay_6 rfl (lv_at hl 1 rfl) ?_
  refine lv_if_ne (tgt := 14) hx hb dX1_lay_7 rfl (fun c7 => ?_) (fun c7 => ?_)
  · refine lv_iload_n hx hb dX1_lay_14 rfl (lv_at hl 2 rfl) ?_
    refine w_i (z := shtZ b k) (by simp [shtZ, c7]) ?_
    refine va_put (ci := 1) (v := .int (shtZ b k)) (ty := tyX1 1) hx hb hts wx_X1 tyX1 tyX1_ok nmX1 hown hK hP hD hS 0 rfl rfl 1 (by decide) (hts _ wf_X1_15) (fun _ h9 => h9) rfl (tyX1_ok 1 (by decide)) rfl rfl (Nat.le_of_ble_eq_true rfl) dX1_lay_15 (fun H locs hP hD hS => ?_)
    have hP : va_P D vwCl (SW cJ h q b (shtZ b k) nu) H := hP
    have hD : va_D _ (SW cJ h q b (shtZ b k) nu) := hD
    refine lv_iconst (v := 0) hx hb dX1_lay_18 rfl ?_
    have hE : nu = zerL nu 0 := zerL_0 _
    have hW : (SW cJ h q b (shtZ b k) nu) = (SW cJ h q b (shtZ b k) (zerL nu 0)) := congrArg (fun z => (SW cJ h q b (shtZ b k) z)) hE
    have hP : va_P D vwCl (SW cJ h q b (shtZ b k) (zerL nu 0)) H := Eq.mp (congrArg (fun z => va_P D vwCl z H) hW) hP
    have hD : va_D _ (SW cJ h q b (shtZ b k) (zerL nu 0)) := Eq.mp (congrArg (fun z => va_D _ z) hW) hD
    refine lv_istore_n (lv' := [(3, .int 0), (0, .ref h), (1, .int b), (2, .int k)]) hx hb dX1_lay_19 rfl hl (by decide) rfl (fun ls hl => ?_)
    refine w_loopH (pc := 20) (st := fun (i : Nat) => []) (μ := fun (i : Nat) => 40 - i) (I := fun (i : Nat) H locs ls => (i ≤ 40) ∧ va_P D vwCl (SW cJ h q b (shtZ b k) (zerL nu i)) H ∧ va_D (fun z9 => z9 ∈ ((SW cJ h q bi le nu)).map (fun z8 => z8.1)) (SW cJ h q b (shtZ b k) (zerL nu i)) ∧ va_S (fun z9 => z9 ∈ ((SW cJ h q bi le nu)).map (fun z8 => z8.1)) s.heap H locs ∧ lv_has ls 4 [(0, .ref h), (1, .int b), (2, .int k), (3, .int (nI i))]) ?_ (0) ⟨Nat.zero_le _, hP, hD, hS, lv_sub hl [1, 2, 3, 0] rfl⟩
    rintro i H locs ls ⟨hi, hP, hD, hS, hl⟩ ih20
    try dsimp only at ih20 ⊢
    refine lv_iload_n hx hb dX1_lay_20 rfl (lv_at hl 3 rfl) ?_
    refine lv_bipush (v := 40) hx hb dX1_lay_21 rfl ?_
    refine lv_icmp_ge (tgt := 39) hx hb dX1_lay_23 rfl (fun c23 => ?_) (fun c23 => ?_)
    · replace c23 := nq_le (a := 40) (b := i) (by omega) (by omega) c23
      have hP : va_P D vwCl (SW cJ h q b (shtZ b k) (fun _ => 0)) H := hP.fl 1 (fun _ => 0) rfl (fun j hj => by simp [zerL]; omega)
      have hD : va_D _ (SW cJ h q b (shtZ b k) (fun _ => 0)) := hD.addr rfl
      exact mu_vret (SW cJ h q b (shtZ b k) (fun _ => 0)) hx hb hr hlk hP hS rfl (⟨rfl, rfl⟩) dX1_lay_39
    · replace c23 := nq_nle (a := 40) (b := i) (by omega) (by omega) c23
      refine lv_aload_n hx hb dX1_lay_26 rfl (lv_at hl 0 rfl) ?_
      refine va_get (ci := 1) (v := .ref q) hx hb hts wx_X1 hown hK hP 0 rfl rfl 2 (by decide) (hts _ wf_X1_18) (fun _ h9 => h9) rfl dX1_lay_27 ?_
      refine lv_iload_n hx hb dX1_lay_30 rfl (lv_at hl 3 rfl) ?_
      refine lv_lconst (v := 0) hx hb dX1_lay_31 rfl ?_
      refine la_st hx hb hK hP hD hS 1 1 rfl rfl i (rfl) (by omega) (by decide) dX1_lay_32 (fun H locs hP hD hS => ?_)
      have hP : va_P D vwCl (SW cJ h q b (shtZ b k) (vp_updL (zerL nu i) i 0)) H := hP
      have hD : va_D _ (SW cJ h q b (shtZ b k) (vp_updL (zerL nu i) i 0)) := hD
      have hE : vp_updL (zerL nu i) i 0 = zerL nu (i + 1) := zerL_s
      have hW : (SW cJ h q b (shtZ b k) (vp_updL (zerL nu i) i 0)) = (SW cJ h q b (shtZ b k) (zerL nu (i + 1))) := congrArg (fun z => (SW cJ h q b (shtZ b k) z)) hE
      have hP : va_P D vwCl (SW cJ h q b (shtZ b k) (zerL nu (i + 1))) H := Eq.mp (congrArg (fun z => va_P D vwCl z H) hW) hP
      have hD : va_D _ (SW cJ h q b (shtZ b k) (zerL nu (i + 1))) := Eq.mp (congrArg (fun z => va_D _ z) hW) hD
      refine lv_iinc (v := nI (i + 1)) (lv' := [(3, .int (nI (i + 1))), (0, .ref h), (1, .int b), (2, .int k)]) hx hb dX1_lay_33 hl (k := 3) rfl (nI_inc _) (by decide) rfl (fun ls hl => ?_)
      refine lv_goto (tgt := 20) hx hb dX1_lay_36 rfl ?_
      exact ih20 (i + 1) _ _ ls (by first | omega | (dsimp only; omega)) ⟨(by omega), hP, hD, hS, lv_sub hl [1, 2, 3, 0] rfl⟩
  · refine lv_iconst (v := 0) hx hb dX1_lay_10 rfl ?_
    refine lv_goto (tgt := 15) hx hb dX1_lay_11 rfl ?_
    refine w_i (z := shtZ b k) (by simp [shtZ, c7]) ?_
    refine va_put (ci := 1) (v := .int (shtZ b k)) (ty := tyX1 1) hx hb hts wx_X1 tyX1 tyX1_ok nmX1 hown hK hP hD hS 0 rfl rfl 1 (by decide) (hts _ wf_X1_15) (fun _ h9 => h9) rfl (tyX1_ok 1 (by decide)) rfl rfl (Nat.le_of_ble_eq_true rfl) dX1_lay_15 (fun H locs hP hD hS => ?_)
    have hP : va_P D vwCl (SW cJ h q b (shtZ b k) nu) H := hP
    have hD : va_D _ (SW cJ h q b (shtZ b k) nu) := hD
    refine lv_iconst (v := 0) hx hb dX1_lay_18 rfl ?_
    have hE : nu = zerL nu 0 := zerL_0 _
    have hW : (SW cJ h q b (shtZ b k) nu) = (SW cJ h q b (shtZ b k) (zerL nu 0)) := congrArg (fun z => (SW cJ h q b (shtZ b k) z)) hE
    have hP : va_P D vwCl (SW cJ h q b (shtZ b k) (zerL nu 0)) H := Eq.mp (congrArg (fun z => va_P D vwCl z H) hW) hP
    have hD : va_D _ (SW cJ h q b (shtZ b k) (zerL nu 0)) := Eq.mp (congrArg (fun z => va_D _ z) hW) hD
    refine lv_istore_n (lv' := [(3, .int 0), (0, .ref h), (1, .int b), (2, .int k)]) hx hb dX1_lay_19 rfl hl (by decide) rfl (fun ls hl => ?_)
    refine w_loopH (pc := 20) (st := fun (i : Nat) => []) (μ := fun (i : Nat) => 40 - i) (I := fun (i : Nat) H locs ls => (i ≤ 40) ∧ va_P D vwCl (SW cJ h q b (shtZ b k) (zerL nu i)) H ∧ va_D (fun z9 => z9 ∈ ((SW cJ h q bi le nu)).map (fun z8 => z8.1)) (SW cJ h q b (shtZ b k) (zerL nu i)) ∧ va_S (fun z9 => z9 ∈ ((SW cJ h q bi le nu)).map (fun z8 => z8.1)) s.heap H locs ∧ lv_has ls 4 [(0, .ref h), (1, .int b), (2, .int k), (3, .int (nI i))]) ?_ (0) ⟨Nat.zero_le _, hP, hD, hS, lv_sub hl [1, 2, 3, 0] rfl⟩
    rintro i H locs ls ⟨hi, hP, hD, hS, hl⟩ ih20
    try dsimp only at ih20 ⊢
    refine lv_iload_n hx hb dX1_lay_20 rfl (lv_at hl 3 rfl) ?_
    refine lv_bipush (v := 40) hx hb dX1_lay_21 rfl ?_
    refine lv_icmp_ge (tgt := 39) hx hb dX1_lay_23 rfl (fun c23 => ?_) (fun c23 => ?_)
    · replace c23 := nq_le (a := 40) (b := i) (by omega) (by omega) c23
      have hP : va_P D vwCl (SW cJ h q b (shtZ b k) (fun _ => 0)) H := hP.fl 1 (fun _ => 0) rfl (fun j hj => by simp [zerL]; omega)
      have hD : va_D _ (SW cJ h q b (shtZ b k) (fun _ => 0)) := hD.addr rfl
      exact mu_vret (SW cJ h q b (shtZ b k) (fun _ => 0)) hx hb hr hlk hP hS rfl (⟨rfl, rfl⟩) dX1_lay_39
    · replace c23 := nq_nle (a := 40) (b := i) (by omega) (by omega) c23
      refine lv_aload_n hx hb dX1_lay_26 rfl (lv_at hl 0 rfl) ?_
      refine va_get (ci := 1) (v := .ref q) hx hb hts wx_X1 hown hK hP 0 rfl rfl 2 (by decide) (hts _ wf_X1_18) (fun _ h9 => h9) rfl dX1_lay_27 ?_
      refine lv_iload_n hx hb dX1_lay_30 rfl (lv_at hl 3 rfl) ?_
      refine lv_lconst (v := 0) hx hb dX1_lay_31 rfl ?_
      refine la_st hx hb hK hP hD hS 1 1 rfl rfl i (rfl) (by omega) (by decide) dX1_lay_32 (fun H locs hP hD hS => ?_)
      have hP : va_P D vwCl (SW cJ h q b (shtZ b k) (vp_updL (zerL nu i) i 0)) H := hP
      have hD : va_D _ (SW cJ h q b (shtZ b k) (vp_updL (zerL nu i) i 0)) := hD
      have hE : vp_updL (zerL nu i) i 0 = zerL nu (i + 1) := zerL_s
      have hW : (SW cJ h q b (shtZ b k) (vp_updL (zerL nu i) i 0)) = (SW cJ h q b (shtZ b k) (zerL nu (i + 1))) := congrArg (fun z => (SW cJ h q b (shtZ b k) z)) hE
      have hP : va_P D vwCl (SW cJ h q b (shtZ b k) (zerL nu (i + 1))) H := Eq.mp (congrArg (fun z => va_P D vwCl z H) hW) hP
      have hD : va_D _ (SW cJ h q b (shtZ b k) (zerL nu (i + 1))) := Eq.mp (congrArg (fun z => va_D _ z) hW) hD
      refine lv_iinc (v := nI (i + 1)) (lv' := [(3, .int (nI (i + 1))), (0, .ref h), (1, .int b), (2, .int k)]) hx hb dX1_lay_33 hl (k := 3) rfl (nI_inc _) (by decide) rfl (fun ls hl => ?_)
      refine lv_goto (tgt := 20) hx hb dX1_lay_36 rfl ?_
      exact ih20 (i + 1) _ _ ls (by first | omega | (dsimp only; omega)) ⟨(by omega), hP, hD, hS, lv_sub hl [1, 2, 3, 0] rfl⟩

end
