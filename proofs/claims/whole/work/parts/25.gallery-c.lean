section
variable {l : Launch} {D : va_G} {cI cJ cO : ClassId} {h q : Nat} {g : Nat → Int32}

set_option maxHeartbeats 4000000 in
set_option maxRecDepth 100000 in
theorem k_X0_replace (f : Nat) (w : Nat) (v : Int32) (hf : f < 8) (hw : w < 9) : MU l D (tyA cI cJ cO) yX0_replace cX0_replace 5 ((some .boolean)) 1 24 [.ref h, .int (nI f), .int (nI w), .int v] (GW cI h q (g 0) (g 2) (g 1) (tl g)) (fun ov w' => ov = some (.int (b2i (decide (¬ its g f w = v)))) ∧ w' = (GW cI h q ((put9 g f w v) 0) ((put9 g f w v) 2) ((put9 g f w v) 1) (tl (put9 g f w v)))) := by
  refine MU.mk (by decide) (Nat.le_of_ble_eq_true rfl) ?_
  intro p e s m below meth c ls S hr hlk hP hK hD hS hl
  have S : CallFix p m c cX0_replace 5 s _ WL RX0 := S
  obtain ⟨hx, hb, hml, hown, hts⟩ := id S
  have hl : lv_has ls 5 [(0, .ref h), (1, .int (nI f)), (2, .int (nI w)), (3, .int v)] := hl
  refine lv_aload_n hx hb dX0_replace_0 rfl (lv_at hl 0 rfl) ?_
  refine lv_iload_n hx hb dX0_replace_1 rfl (lv_at hl 1 rfl) ?_
  refine lv_iload_n hx hb dX0_replace_2 rfl (lv_at hl 2 rfl) ?_
  refine ro_V (w := (GW cI h q (g 0) (g 2) (g 1) (tl g))) (rest := []) S hK hP (k_X0_getN f w (by omega) (by omega)) gv_X0_39 hd_X0_get ⟨Nat.le_of_ble_eq_true rfl, Nat.le_of_ble_eq_true rfl⟩ 0 rfl rfl rfl rfl hl.1 (lv_room (Nat.le_of_ble_eq_true rfl)) dX0_replace_3 ⟨Nat.zero_le _, Nat.zero_le _⟩ ?_
  refine lv_iload_n hx hb dX0_replace_6 rfl (lv_at hl 3 rfl) ?_
  refine lv_icmp_eq (tgt := 14) hx hb dX0_replace_7 rfl (fun c7 => ?_) (fun c7 => ?_)
  · refine lv_iconst (v := 0) hx hb dX0_replace_14 rfl ?_
    refine w_i (z := b2i (decide (¬ its g f w = v))) (by simp [b2i, c7]) ?_
    refine lv_istore (lv' := [(4, .int (b2i (decide (¬ its g f w = v)))), (0, .ref h), (1, .int (nI f)), (2, .int (nI w)), (3, .int v)]) hx hb dX0_replace_15 hl (by decide) rfl (fun ls hl => ?_)
    refine lv_aload_n hx hb dX0_replace_17 rfl (lv_at hl 1 rfl) ?_
    refine lv_iload_n hx hb dX0_replace_18 rfl (lv_at hl 2 rfl) ?_
    refine lv_iload_n hx hb dX0_replace_19 rfl (lv_at hl 3 rfl) ?_
    refine lv_iload_n hx hb dX0_replace_20 rfl (lv_at hl 4 rfl) ?_
    refine mu_W (w := (GW cI h q (g 0) (g 2) (g 1) (tl g))) (rest := []) S hK hP hD hS (k_X0_put f w v (by omega) (by omega)) gv_X0_31 hd_X0_put ⟨Nat.le_of_ble_eq_true rfl, Nat.le_of_ble_eq_true rfl⟩ 0 rfl rfl rfl rfl hl.1 (lv_room (Nat.le_of_ble_eq_true rfl)) dX0_replace_21 ⟨Nat.zero_le _, Nat.zero_le _⟩ (fun ov w' H locs hp hP hD hS => ?_)
    obtain ⟨rfl, rfl⟩ := hp
    refine W.eq (g2 := F0 m 24 ls []) rfl ?_
    refine lv_iload hx hb dX0_replace_24 (lv_at hl 0 rfl) ?_
    exact mu_zret (decide (¬ its g f w = v)) (rfl) (GW cI h q ((put9 g f w v) 0) ((put9 g f w v) 2) ((put9 g f w v) 1) (tl (put9 g f w v))) hx hb hr hlk hP hS rfl (⟨rfl, rfl⟩) dX0_replace_26
  · refine lv_iconst (v := 1) hx hb dX0_replace_10 rfl ?_
    refine lv_goto (tgt := 15) hx hb dX0_replace_11 rfl ?_
    refine w_i (z := b2i (decide (¬ its g f w = v))) (by simp [b2i, c7]) ?_
    refine lv_istore (lv' := [(4, .int (b2i (decide (¬ its g f w = v)))), (0, .ref h), (1, .int (nI f)), (2, .int (nI w)), (3, .int v)]) hx hb dX0_replace_15 hl (by decide) rfl (fun ls hl => ?_)
    refine lv_aload_n hx hb dX0_replace_17 rfl (lv_at hl 1 rfl) ?_
    refine lv_iload_n hx hb dX0_replace_18 rfl (lv_at hl 2 rfl) ?_
    refine lv_iload_n hx hb dX0_replace_19 rfl (lv_at hl 3 rfl) ?_
    refine lv_iload_n hx hb dX0_replace_20 rfl (lv_at hl 4 rfl) ?_
    refine mu_W (w := (GW cI h q (g 0) (g 2) (g 1) (tl g))) (rest := []) S hK hP hD hS (k_X0_put f w v (by omega) (by omega)) gv_X0_31 hd_X0_put ⟨Nat.le_of_ble_eq_true rfl, Nat.le_of_ble_eq_true rfl⟩ 0 rfl rfl rfl rfl hl.1 (lv_room (Nat.le_of_ble_eq_true rfl)) dX0_replace_21 ⟨Nat.zero_le _, Nat.zero_le _⟩ (fun ov w' H locs hp hP hD hS => ?_)
    obtain ⟨rfl, rfl⟩ := hp
    refine W.eq (g2 := F0 m 24 ls []) rfl ?_
    refine lv_iload hx hb dX0_replace_24 (lv_at hl 0 rfl) ?_
    exact mu_zret (decide (¬ its g f w = v)) (rfl) (GW cI h q ((put9 g f w v) 0) ((put9 g f w v) 2) ((put9 g f w v) 1) (tl (put9 g f w v))) hx hb hr hlk hP hS rfl (⟨rfl, rfl⟩) dX0_replace_26

set_option maxHeartbeats 4000000 in
set_option maxRecDepth 100000 in
theorem k_X0_nearer (n : Nat) (f : Nat) (r : Int32) (hI : Inv g n) (hf : f < n) (hc : content g f = false) (h1 : its g f 5 = 1) (hr9 : rng r 0 16) : RO l D (tyA cI cJ cO) yX0_nearer cX0_nearer 5 ((some .int)) 1 23 [.ref h, .int (nI f), .int r] (GW cI h q (g 0) (g 2) (g 1) (tl g)) (.int (columnBy g f r)) := by
  refine RO.mk (by decide) (Nat.le_of_ble_eq_true rfl) ?_
  intro p e s m below meth c ls S hr hlk hP hK hl
  have S : CallFix p m c cX0_nearer 5 s _ WL RX0 := S
  obtain ⟨hx, hb, hml, hown, hts⟩ := id S
  have hl : lv_has ls 5 [(0, .ref h), (1, .int (nI f)), (2, .int r)] := hl
  have h8 : n ≤ 8 := hI.1
  obtain ⟨hw1, hw2⟩ := with_in hI hf (nc_with hc (Or.inl h1))
  refine lv_aload_n hx hb dX0_nearer_0 rfl (lv_at hl 0 rfl) ?_
  refine lv_iload_n hx hb dX0_nearer_1 rfl (lv_at hl 1 rfl) ?_
  refine lv_iconst (v := 2) hx hb dX0_nearer_2 rfl ?_
  refine ro_V (w := (GW cI h q (g 0) (g 2) (g 1) (tl g))) (rest := []) S hK hP (k_X0_getN f 2 (by omega) (by omega)) gv_X0_39 hd_X0_get ⟨Nat.le_of_ble_eq_true rfl, Nat.le_of_ble_eq_true rfl⟩ 0 rfl rfl rfl rfl hl.1 (lv_room (Nat.le_of_ble_eq_true rfl)) dX0_nearer_3 ⟨Nat.zero_le _, Nat.zero_le _⟩ ?_
  refine lv_istore_n (lv' := [(3, .int (its g f 2)), (0, .ref h), (1, .int (nI f)), (2, .int r)]) hx hb dX0_nearer_6 rfl hl (by decide) rfl (fun ls hl => ?_)
  refine lv_aload_n hx hb dX0_nearer_7 rfl (lv_at hl 1 rfl) ?_
  refine lv_aload_n hx hb dX0_nearer_8 rfl (lv_at hl 1 rfl) ?_
  refine lv_iload_n hx hb dX0_nearer_9 rfl (lv_at hl 2 rfl) ?_
  refine lv_bipush (v := 6) hx hb dX0_nearer_10 rfl ?_
  refine ro_V (w := (GW cI h q (g 0) (g 2) (g 1) (tl g))) (rest := [.ref h]) S hK hP (k_X0_getN f 6 (by omega) (by omega)) gv_X0_39 hd_X0_get ⟨Nat.le_of_ble_eq_true rfl, Nat.le_of_ble_eq_true rfl⟩ 0 rfl rfl rfl rfl hl.1 (lv_room (Nat.le_of_ble_eq_true rfl)) dX0_nearer_12 ⟨Nat.zero_le _, Nat.zero_le _⟩ ?_
  refine w_i (z := nI (whomN g f)) (hw1) ?_
  refine lv_iconst (v := 2) hx hb dX0_nearer_15 rfl ?_
  refine ro_V (w := (GW cI h q (g 0) (g 2) (g 1) (tl g))) (rest := []) S hK hP (k_X0_getN (whomN g f) 2 (by omega) (by omega)) gv_X0_39 hd_X0_get ⟨Nat.le_of_ble_eq_true rfl, Nat.le_of_ble_eq_true rfl⟩ 0 rfl rfl rfl rfl hl.1 (lv_room (Nat.le_of_ble_eq_true rfl)) dX0_nearer_16 ⟨Nat.zero_le _, Nat.zero_le _⟩ ?_
  refine lv_istore (lv' := [(4, .int (its g (whomN g f) 2)), (3, .int (its g f 2)), (0, .ref h), (1, .int (nI f)), (2, .int r)]) hx hb dX0_nearer_19 hl (by decide) rfl (fun ls hl => ?_)
  refine lv_iload_n hx hb dX0_nearer_21 rfl (lv_at hl 1 rfl) ?_
  refine lv_iload hx hb dX0_nearer_22 (lv_at hl 0 rfl) ?_
  refine lv_icmp_ge (tgt := 40) hx hb dX0_nearer_24 rfl (fun c24 => ?_) (fun c24 => ?_)
  · refine lv_iload_n hx hb dX0_nearer_40 rfl (lv_at hl 1 rfl) ?_
    refine lv_iload_n hx hb dX0_nearer_41 rfl (lv_at hl 4 rfl) ?_
    refine lv_isub hx hb dX0_nearer_42 ?_
    refine lv_iload hx hb dX0_nearer_43 (lv_at hl 0 rfl) ?_
    refine lv_iconst (v := 1) hx hb dX0_nearer_45 rfl ?_
    refine lv_iadd hx hb dX0_nearer_46 ?_
    refine va_mmax hx hb (hml.trans hl.1.symm) hown (hts _ wm_X0_97) (hts _ wt_J9_max_7cf53) (hts _ wi_J9) (hts _ wc_J9_max_7cf53) (Nat.le_of_ble_eq_true rfl) (Nat.le_of_ble_eq_true rfl) (Nat.zero_le _) (Nat.zero_le _) dX0_nearer_47 ?_
    exact ro_iret hx hb hr hlk (by rw [← near_col hI hf hc h1 hr9, if_pos c24]) dX0_nearer_50
  · refine lv_iload_n hx hb dX0_nearer_27 rfl (lv_at hl 1 rfl) ?_
    refine lv_iload_n hx hb dX0_nearer_28 rfl (lv_at hl 4 rfl) ?_
    refine lv_iadd hx hb dX0_nearer_29 ?_
    refine lv_iload hx hb dX0_nearer_30 (lv_at hl 0 rfl) ?_
    refine lv_iconst (v := 1) hx hb dX0_nearer_32 rfl ?_
    refine lv_isub hx hb dX0_nearer_33 ?_
    refine va_mmin hx hb (hml.trans hl.1.symm) hown (hts _ wm_X0_94) (hts _ wt_J9_min_7cf53) (hts _ wi_J9) (hts _ wc_J9_min_7cf53) (Nat.le_of_ble_eq_true rfl) (Nat.le_of_ble_eq_true rfl) (Nat.zero_le _) (Nat.zero_le _) dX0_nearer_34 ?_
    refine lv_goto (tgt := 50) hx hb dX0_nearer_37 rfl ?_
    exact ro_iret hx hb hr hlk (by rw [← near_col hI hf hc h1 hr9, if_neg c24]) dX0_nearer_50

set_option maxHeartbeats 4000000 in
set_option maxRecDepth 100000 in
theorem k_X0_farther (n : Nat) (f : Nat) (r : Int32) (hI : Inv g n) (hf : f < n) (hc : content g f = false) (h2 : its g f 5 = 2) (hr9 : rng r 0 16) : RO l D (tyA cI cJ cO) yX0_farther cX0_farther 4 ((some .int)) 1 23 [.ref h, .int (nI f), .int r] (GW cI h q (g 0) (g 2) (g 1) (tl g)) (.int (columnBy g f r)) := by
  refine RO.mk (by decide) (Nat.le_of_ble_eq_true rfl) ?_
  intro p e s m below meth c ls S hr hlk hP hK hl
  have S : CallFix p m c cX0_farther 4 s _ WL RX0 := S
  obtain ⟨hx, hb, hml, hown, hts⟩ := id S
  have hl : lv_has ls 4 [(0, .ref h), (1, .int (nI f)), (2, .int r)] := hl
  have h8 : n ≤ 8 := hI.1
  obtain ⟨hw1, hw2⟩ := with_in hI hf (nc_with hc (Or.inr h2))
  refine lv_aload_n hx hb dX0_farther_0 rfl (lv_at hl 0 rfl) ?_
  refine lv_iload_n hx hb dX0_farther_1 rfl (lv_at hl 1 rfl) ?_
  refine lv_iconst (v := 2) hx hb dX0_farther_2 rfl ?_
  refine ro_V (w := (GW cI h q (g 0) (g 2) (g 1) (tl g))) (rest := []) S hK hP (k_X0_getN f 2 (by omega) (by omega)) gv_X0_39 hd_X0_get ⟨Nat.le_of_ble_eq_true rfl, Nat.le_of_ble_eq_true rfl⟩ 0 rfl rfl rfl rfl hl.1 (lv_room (Nat.le_of_ble_eq_true rfl)) dX0_farther_3 ⟨Nat.zero_le _, Nat.zero_le _⟩ ?_
  refine lv_istore_n (lv' := [(3, .int (its g f 2)), (0, .ref h), (1, .int (nI f)), (2, .int r)]) hx hb dX0_farther_6 rfl hl (by decide) rfl (fun ls hl => ?_)
  refine lv_iload_n hx hb dX0_farther_7 rfl (lv_at hl 0 rfl) ?_
  refine lv_aload_n hx hb dX0_farther_8 rfl (lv_at hl 1 rfl) ?_
  refine lv_aload_n hx hb dX0_farther_9 rfl (lv_at hl 1 rfl) ?_
  refine lv_iload_n hx hb dX0_farther_10 rfl (lv_at hl 2 rfl) ?_
  refine lv_bipush (v := 6) hx hb dX0_farther_11 rfl ?_
  refine ro_V (w := (GW cI h q (g 0) (g 2) (g 1) (tl g))) (rest := [.ref h, .int (its g f 2)]) S hK hP (k_X0_getN f 6 (by omega) (by omega)) gv_X0_39 hd_X0_get ⟨Nat.le_of_ble_eq_true rfl, Nat.le_of_ble_eq_true rfl⟩ 0 rfl rfl rfl rfl hl.1 (lv_room (Nat.le_of_ble_eq_true rfl)) dX0_farther_13 ⟨Nat.zero_le _, Nat.zero_le _⟩ ?_
  refine w_i (z := nI (whomN g f)) (hw1) ?_
  refine lv_iconst (v := 2) hx hb dX0_farther_16 rfl ?_
  refine ro_V (w := (GW cI h q (g 0) (g 2) (g 1) (tl g))) (rest := [.int (its g f 2)]) S hK hP (k_X0_getN (whomN g f) 2 (by omega) (by omega)) gv_X0_39 hd_X0_get ⟨Nat.le_of_ble_eq_true rfl, Nat.le_of_ble_eq_true rfl⟩ 0 rfl rfl rfl rfl hl.1 (lv_room (Nat.le_of_ble_eq_true rfl)) dX0_farther_17 ⟨Nat.zero_le _, Nat.zero_le _⟩ ?_
  refine lv_icmp_gt (tgt := 33) hx hb dX0_farther_20 rfl (fun c20 => ?_) (fun c20 => ?_)
  · replace c20 := Int32.not_le.mpr c20
    refine lv_iload_n hx hb dX0_farther_33 rfl (lv_at hl 0 rfl) ?_
    refine lv_iload_n hx hb dX0_farther_34 rfl (lv_at hl 3 rfl) ?_
    refine lv_iadd hx hb dX0_farther_35 ?_
    refine lv_bipush (v := 19) hx hb dX0_farther_36 rfl ?_
    refine va_mmin hx hb (hml.trans hl.1.symm) hown (hts _ wm_X0_94) (hts _ wt_J9_min_7cf53) (hts _ wi_J9) (hts _ wc_J9_min_7cf53) (Nat.le_of_ble_eq_true rfl) (Nat.le_of_ble_eq_true rfl) (Nat.zero_le _) (Nat.zero_le _) dX0_farther_38 ?_
    exact ro_iret hx hb hr hlk (by rw [← far_col hI hf h2 hr9, if_neg c20]) dX0_farther_41
  · replace c20 := Int32.not_lt.mp c20
    refine lv_iload_n hx hb dX0_farther_23 rfl (lv_at hl 0 rfl) ?_
    refine lv_iload_n hx hb dX0_farther_24 rfl (lv_at hl 3 rfl) ?_
    refine lv_isub hx hb dX0_farther_25 ?_
    refine lv_iconst (v := 0) hx hb dX0_farther_26 rfl ?_
    refine va_mmax hx hb (hml.trans hl.1.symm) hown (hts _ wm_X0_97) (hts _ wt_J9_max_7cf53) (hts _ wi_J9) (hts _ wc_J9_max_7cf53) (Nat.le_of_ble_eq_true rfl) (Nat.le_of_ble_eq_true rfl) (Nat.zero_le _) (Nat.zero_le _) dX0_farther_27 ?_
    refine lv_goto (tgt := 41) hx hb dX0_farther_30 rfl ?_
    exact ro_iret hx hb hr hlk (by rw [← far_col hI hf h2 hr9, if_pos c20]) dX0_farther_41

set_option maxHeartbeats 4000000 in
set_option maxRecDepth 100000 in
theorem k_X0_isChangedBy (n : Nat) (f : Nat) (hI : Inv g n) (hf : f < n) (hc : content g f = false) : MU l D (tyA cI cJ cO) yX0_isChangedBy cX0_isChangedBy 3 ((some .boolean)) 2 48 [.ref h, .int (nI f), .int (rubs g n f)] (GW cI h q (g 0) (g 2) (g 1) (tl g)) (fun ov w' => ov = some (.int (b2i (decide (¬ its g f (whatW g f) = thenW g n f)))) ∧ w' = (GW cI h q ((put9 g f (whatW g f) (thenW g n f)) 0) ((put9 g f (whatW g f) (thenW g n f)) 2) ((put9 g f (whatW g f) (thenW g n f)) 1) (tl (put9 g f (whatW g f) (thenW g n f))))) := by
  refine MU.mk (by decide) (Nat.le_of_ble_eq_true rfl) ?_
  intro p e s m below meth c ls S hr hlk hP hK hD hS hl
  have S : CallFix p m c cX0_isChangedBy 3 s _ WL RX0 := S
  obtain ⟨hx, hb, hml, hown, hts⟩ := id S
  have hl : lv_has ls 3 [(0, .ref h), (1, .int (nI f)), (2, .int (rubs g n f))] := hl
  have h8 : n ≤ 8 := hI.1
  have hr9 := rubs_rng hI hf
  refine lv_aload_n hx hb dX0_isChangedBy_0 rfl (lv_at hl 0 rfl) ?_
  refine lv_iload_n hx hb dX0_isChangedBy_1 rfl (lv_at hl 1 rfl) ?_
  refine lv_iconst (v := 5) hx hb dX0_isChangedBy_2 rfl ?_
  refine ro_V (w := (GW cI h q (g 0) (g 2) (g 1) (tl g))) (rest := []) S hK hP (k_X0_getN f 5 (by omega) (by omega)) gv_X0_39 hd_X0_get ⟨Nat.le_of_ble_eq_true rfl, Nat.le_of_ble_eq_true rfl⟩ 0 rfl rfl rfl rfl hl.1 (lv_room (Nat.le_of_ble_eq_true rfl)) dX0_isChangedBy_3 ⟨Nat.zero_le _, Nat.zero_le _⟩ ?_
  by_cases c6_0 : (its g f 5) = 0
  · refine lv_tableIn (tgt := 36) hx hb dX0_isChangedBy_6 (by rw [c6_0]; decide) (by rw [c6_0]; decide) (by rw [c6_0]; rfl) rfl ?_
    have hwt := nose0 (n := n) c6_0
    refine lv_aload_n hx hb dX0_isChangedBy_36 rfl (lv_at hl 0 rfl) ?_
    refine lv_iload_n hx hb dX0_isChangedBy_37 rfl (lv_at hl 1 rfl) ?_
    refine lv_iconst (v := 3) hx hb dX0_isChangedBy_38 rfl ?_
    refine lv_iconst (v := 0) hx hb dX0_isChangedBy_39 rfl ?_
    refine lv_aload_n hx hb dX0_isChangedBy_40 rfl (lv_at hl 0 rfl) ?_
    refine lv_iload_n hx hb dX0_isChangedBy_41 rfl (lv_at hl 1 rfl) ?_
    refine lv_iconst (v := 3) hx hb dX0_isChangedBy_42 rfl ?_
    refine ro_V (w := (GW cI h q (g 0) (g 2) (g 1) (tl g))) (rest := [.int 0, .int 3, .int (nI f), .ref h]) S hK hP (k_X0_getN f 3 (by omega) (by omega)) gv_X0_39 hd_X0_get ⟨Nat.le_of_ble_eq_true rfl, Nat.le_of_ble_eq_true rfl⟩ 0 rfl rfl rfl rfl hl.1 (lv_room (Nat.le_of_ble_eq_true rfl)) dX0_isChangedBy_43 ⟨Nat.zero_le _, Nat.zero_le _⟩ ?_
    refine lv_iload_n hx hb dX0_isChangedBy_46 rfl (lv_at hl 2 rfl) ?_
    refine lv_isub hx hb dX0_isChangedBy_47 ?_
    refine va_mmax hx hb (hml.trans hl.1.symm) hown (hts _ wm_X0_97) (hts _ wt_J9_max_7cf53) (hts _ wi_J9) (hts _ wc_J9_max_7cf53) (Nat.le_of_ble_eq_true rfl) (Nat.le_of_ble_eq_true rfl) (Nat.zero_le _) (Nat.zero_le _) dX0_isChangedBy_48 ?_
    refine w_i (z := heldI (its g f 3 - rubs g n f) 0 99) (max_held (hI.2.2.2 f hf).2.2.2.1 hr9) ?_
    refine mu_W (w := (GW cI h q (g 0) (g 2) (g 1) (tl g))) (rest := []) S hK hP hD hS (k_X0_replace f 3 (heldI (its g f 3 - rubs g n f) 0 99) (by omega) (by omega)) gv_X0_100 hd_X0_replace ⟨Nat.le_of_ble_eq_true rfl, Nat.le_of_ble_eq_true rfl⟩ 0 rfl rfl rfl rfl hl.1 (lv_room (Nat.le_of_ble_eq_true rfl)) dX0_isChangedBy_51 ⟨Nat.zero_le _, Nat.zero_le _⟩ (fun ov w' H locs hp hP hD hS => ?_)
    obtain ⟨rfl, rfl⟩ := hp
    refine W.eq (g2 := F0 m 54 ls [.int (b2i (decide (¬ its g f 3 = (heldI (its g f 3 - rubs g n f) 0 99))))]) rfl ?_
    exact mu_zret (decide (¬ its g f 3 = (heldI (its g f 3 - rubs g n f) 0 99))) (rfl) (GW cI h q ((put9 g f 3 (heldI (its g f 3 - rubs g n f) 0 99)) 0) ((put9 g f 3 (heldI (its g f 3 - rubs g n f) 0 99)) 2) ((put9 g f 3 (heldI (its g f 3 - rubs g n f) 0 99)) 1) (tl (put9 g f 3 (heldI (its g f 3 - rubs g n f) 0 99)))) hx hb hr hlk hP hS rfl (⟨by rw [hwt.1, hwt.2], by rw [hwt.1, hwt.2]⟩) dX0_isChangedBy_54
  by_cases c6_1 : (its g f 5) = 1
  · refine lv_tableIn (tgt := 55) hx hb dX0_isChangedBy_6 (by rw [c6_1]; decide) (by rw [c6_1]; decide) (by rw [c6_1]; rfl) rfl ?_
    have hwt := col12 (n := n) (Or.inl c6_1)
    refine lv_aload_n hx hb dX0_isChangedBy_55 rfl (lv_at hl 0 rfl) ?_
    refine lv_iload_n hx hb dX0_isChangedBy_56 rfl (lv_at hl 1 rfl) ?_
    refine lv_iconst (v := 2) hx hb dX0_isChangedBy_57 rfl ?_
    refine lv_aload_n hx hb dX0_isChangedBy_58 rfl (lv_at hl 0 rfl) ?_
    refine lv_iload_n hx hb dX0_isChangedBy_59 rfl (lv_at hl 1 rfl) ?_
    refine lv_iload_n hx hb dX0_isChangedBy_60 rfl (lv_at hl 2 rfl) ?_
    have h1 := c6_1
    refine ro_V (w := (GW cI h q (g 0) (g 2) (g 1) (tl g))) (rest := [.int 2, .int (nI f), .ref h]) S hK hP (k_X0_nearer n f (rubs g n f) hI hf hc h1 hr9) gv_X0_104 hd_X0_nearer ⟨Nat.le_of_ble_eq_true rfl, Nat.le_of_ble_eq_true rfl⟩ 0 rfl rfl rfl rfl hl.1 (lv_room (Nat.le_of_ble_eq_true rfl)) dX0_isChangedBy_61 ⟨Nat.zero_le _, Nat.zero_le _⟩ ?_
    refine mu_W (w := (GW cI h q (g 0) (g 2) (g 1) (tl g))) (rest := []) S hK hP hD hS (k_X0_replace f 2 (columnBy g f (rubs g n f)) (by omega) (by omega)) gv_X0_100 hd_X0_replace ⟨Nat.le_of_ble_eq_true rfl, Nat.le_of_ble_eq_true rfl⟩ 0 rfl rfl rfl rfl hl.1 (lv_room (Nat.le_of_ble_eq_true rfl)) dX0_isChangedBy_64 ⟨Nat.zero_le _, Nat.zero_le _⟩ (fun ov w' H locs hp hP hD hS => ?_)
    obtain ⟨rfl, rfl⟩ := hp
    refine W.eq (g2 := F0 m 67 ls [.int (b2i (decide (¬ its g f 2 = (columnBy g f (rubs g n f)))))]) rfl ?_
    exact mu_zret (decide (¬ its g f 2 = (columnBy g f (rubs g n f)))) (rfl) (GW cI h q ((put9 g f 2 (columnBy g f (rubs g n f))) 0) ((put9 g f 2 (columnBy g f (rubs g n f))) 2) ((put9 g f 2 (columnBy g f (rubs g n f))) 1) (tl (put9 g f 2 (columnBy g f (rubs g n f))))) hx hb hr hlk hP hS rfl (⟨by rw [hwt.1, hwt.2], by rw [hwt.1, hwt.2]⟩) dX0_isChangedBy_67
  by_cases c6_2 : (its g f 5) = 2
  · refine lv_tableIn (tgt := 68) hx hb dX0_isChangedBy_6 (by rw [c6_2]; decide) (by rw [c6_2]; decide) (by rw [c6_2]; rfl) rfl ?_
    have hwt := col12 (n := n) (Or.inr c6_2)
    refine lv_aload_n hx hb dX0_isChangedBy_68 rfl (lv_at hl 0 rfl) ?_
    refine lv_iload_n hx hb dX0_isChangedBy_69 rfl (lv_at hl 1 rfl) ?_
    refine lv_iconst (v := 2) hx hb dX0_isChangedBy_70 rfl ?_
    refine lv_aload_n hx hb dX0_isChangedBy_71 rfl (lv_at hl 0 rfl) ?_
    refine lv_iload_n hx hb dX0_isChangedBy_72 rfl (lv_at hl 1 rfl) ?_
    refine lv_iload_n hx hb dX0_isChangedBy_73 rfl (lv_at hl 2 rfl) ?_
    have h2 := c6_2
    refine ro_V (w := (GW cI h q (g 0) (g 2) (g 1) (tl g))) (rest := [.int 2, .int (nI f), .ref h]) S hK hP (k_X0_farther n f (rubs g n f) hI hf hc h2 hr9) gv_X0_107 hd_X0_farther ⟨Nat.le_of_ble_eq_true rfl, Nat.le_of_ble_eq_true rfl⟩ 0 rfl rfl rfl rfl hl.1 (lv_room (Nat.le_of_ble_eq_true rfl)) dX0_isChangedBy_74 ⟨Nat.zero_le _, Nat.zero_le _⟩ ?_
    refine mu_W (w := (GW cI h q (g 0) (g 2) (g 1) (tl g))) (rest := []) S hK hP hD hS (k_X0_replace f 2 (columnBy g f (rubs g n f)) (by omega) (by omega)) gv_X0_100 hd_X0_replace ⟨Nat.le_of_ble_eq_true rfl, Nat.le_of_ble_eq_true rfl⟩ 0 rfl rfl rfl rfl hl.1 (lv_room (Nat.le_of_ble_eq_true rfl)) dX0_isChangedBy_77 ⟨Nat.zero_le _, Nat.zero_le _⟩ (fun ov w' H locs hp hP hD hS => ?_)
    obtain ⟨rfl, rfl⟩ := hp
    refine W.eq (g2 := F0 m 80 ls [.int (b2i (decide (¬ its g f 2 = (columnBy g f (rubs g n f)))))]) rfl ?_
    exact mu_zret (decide (¬ its g f 2 = (columnBy g f (rubs g n f)))) (rfl) (GW cI h q ((put9 g f 2 (columnBy g f (rubs g n f))) 0) ((put9 g f 2 (columnBy g f (rubs g n f))) 2) ((put9 g f 2 (columnBy g f (rubs g n f))) 1) (tl (put9 g f 2 (columnBy g f (rubs g n f))))) hx hb hr hlk hP hS rfl (⟨by rw [hwt.1, hwt.2], by rw [hwt.1, hwt.2]⟩) dX0_isChangedBy_80
  by_cases c6_3 : (its g f 5) = 3
  · refine lv_tableIn (tgt := 81) hx hb dX0_isChangedBy_6 (by rw [c6_3]; decide) (by rw [c6_3]; decide) (by rw [c6_3]; rfl) rfl ?_
    have hwt := lamp3 hI hf hc c6_0 c6_1 c6_2 c6_3
    refine lv_aload_n hx hb dX0_isChangedBy_81 rfl (lv_at hl 0 rfl) ?_
    refine lv_iload_n hx hb dX0_isChangedBy_82 rfl (lv_at hl 1 rfl) ?_
    refine lv_iconst (v := 4) hx hb dX0_isChangedBy_83 rfl ?_
    refine lv_iconst (v := 0) hx hb dX0_isChangedBy_84 rfl ?_
    refine mu_W (w := (GW cI h q (g 0) (g 2) (g 1) (tl g))) (rest := []) S hK hP hD hS (k_X0_replace f 4 0 (by omega) (by omega)) gv_X0_100 hd_X0_replace ⟨Nat.le_of_ble_eq_true rfl, Nat.le_of_ble_eq_true rfl⟩ 0 rfl rfl rfl rfl hl.1 (lv_room (Nat.le_of_ble_eq_true rfl)) dX0_isChangedBy_85 ⟨Nat.zero_le _, Nat.zero_le _⟩ (fun ov w' H locs hp hP hD hS => ?_)
    obtain ⟨rfl, rfl⟩ := hp
    refine W.eq (g2 := F0 m 88 ls [.int (b2i (decide (¬ its g f 4 = 0)))]) rfl ?_
    exact mu_zret (decide (¬ its g f 4 = 0)) (rfl) (GW cI h q ((put9 g f 4 0) 0) ((put9 g f 4 0) 2) ((put9 g f 4 0) 1) (tl (put9 g f 4 0))) hx hb hr hlk hP hS rfl (⟨by rw [hwt.1, hwt.2], by rw [hwt.1, hwt.2]⟩) dX0_isChangedBy_88
  refine lv_tableOut (tgt := 89) hx hb dX0_isChangedBy_6 (by have q0 := lv_neT c6_0 (a := 0) rfl; have q1 := lv_neT c6_1 (a := 1) rfl; have q2 := lv_neT c6_2 (a := 2) rfl; have q3 := lv_neT c6_3 (a := 3) rfl; omega) rfl ?_
  have hwt := lamp4 hI hf hc c6_0 c6_1 c6_2 c6_3
  refine lv_aload_n hx hb dX0_isChangedBy_89 rfl (lv_at hl 0 rfl) ?_
  refine lv_iload_n hx hb dX0_isChangedBy_90 rfl (lv_at hl 1 rfl) ?_
  refine lv_iconst (v := 4) hx hb dX0_isChangedBy_91 rfl ?_
  refine lv_iconst (v := 1) hx hb dX0_isChangedBy_92 rfl ?_
  refine mu_W (w := (GW cI h q (g 0) (g 2) (g 1) (tl g))) (rest := []) S hK hP hD hS (k_X0_replace f 4 1 (by omega) (by omega)) gv_X0_100 hd_X0_replace ⟨Nat.le_of_ble_eq_true rfl, Nat.le_of_ble_eq_true rfl⟩ 0 rfl rfl rfl rfl hl.1 (lv_room (Nat.le_of_ble_eq_true rfl)) dX0_isChangedBy_93 ⟨Nat.zero_le _, Nat.zero_le _⟩ (fun ov w' H locs hp hP hD hS => ?_)
  obtain ⟨rfl, rfl⟩ := hp
  refine W.eq (g2 := F0 m 96 ls [.int (b2i (decide (¬ its g f 4 = 1)))]) rfl ?_
  exact mu_zret (decide (¬ its g f 4 = 1)) (rfl) (GW cI h q ((put9 g f 4 1) 0) ((put9 g f 4 1) 2) ((put9 g f 4 1) 1) (tl (put9 g f 4 1))) hx hb hr hlk hP hS rfl (⟨by rw [hwt.1, hwt.2], by rw [hwt.1, hwt.2]⟩) dX0_isChangedBy_96

set_option maxHeartbeats 4000000 in
set_option maxRecDepth 100000 in
theorem k_X0_haveAGo (n : Nat) (f : Nat) (hI : Inv g n) (hf : f < n) (hc : content g f = false) : MU l D (tyA cI cJ cO) yX0_haveAGo cX0_haveAGo 3 none 3 70 [.ref h, .int (nI f)] (GW cI h q (g 0) (g 2) (g 1) (tl g)) (fun ov w' => ov = none ∧ w' = (GW cI h q ((worksF g n f) 0) ((worksF g n f) 2) ((worksF g n f) 1) (tl (worksF g n f)))) := by
  refine MU.mk (by decide) (Nat.le_of_ble_eq_true rfl) ?_
  intro p e s m below meth c ls S hr hlk hP hK hD hS hl
  have S : CallFix p m c cX0_haveAGo 3 s _ WL RX0 := S
  obtain ⟨hx, hb, hml, hown, hts⟩ := id S
  have hl : lv_has ls 3 [(0, .ref h), (1, .int (nI f))] := hl
  have h8 : n ≤ 8 := hI.1
  refine lv_aload_n hx hb dX0_haveAGo_0 rfl (lv_at hl 0 rfl) ?_
  refine lv_iload_n hx hb dX0_haveAGo_1 rfl (lv_at hl 1 rfl) ?_
  refine ro_V (w := (GW cI h q (g 0) (g 2) (g 1) (tl g))) (rest := []) S hK hP (k_X0_rubs n f hI (by omega)) gv_X0_87 hd_X0_rubs ⟨Nat.le_of_ble_eq_true rfl, Nat.le_of_ble_eq_true rfl⟩ 0 rfl rfl rfl rfl hl.1 (lv_room (Nat.le_of_ble_eq_true rfl)) dX0_haveAGo_2 ⟨Nat.zero_le _, Nat.zero_le _⟩ ?_
  refine lv_istore_n (lv' := [(2, .int (rubs g n f)), (0, .ref h), (1, .int (nI f))]) hx hb dX0_haveAGo_5 rfl hl (by decide) rfl (fun ls hl => ?_)
  refine lv_iload_n hx hb dX0_haveAGo_6 rfl (lv_at hl 0 rfl) ?_
  refine lv_if_le (tgt := 41) hx hb dX0_haveAGo_7 rfl (fun c7 => ?_) (fun c7 => ?_)
  · have hE : g = worksF g n f := works_a c7
    have hW : (GW cI h q (g 0) (g 2) (g 1) (tl g)) = (GW cI h q ((worksF g n f) 0) ((worksF g n f) 2) ((worksF g n f) 1) (tl (worksF g n f))) := congrArg (fun z => GW cI h q (z 0) (z 2) (z 1) (tl z)) hE
    have hP : va_P D vwCl (GW cI h q ((worksF g n f) 0) ((worksF g n f) 2) ((worksF g n f) 1) (tl (worksF g n f))) s.heap := Eq.mp (congrArg (fun z => va_P D vwCl z s.heap) hW) hP
    have hD : va_D _ (GW cI h q ((worksF g n f) 0) ((worksF g n f) 2) ((worksF g n f) 1) (tl (worksF g n f))) := Eq.mp (congrArg (fun z => va_D _ z) hW) hD
    exact mu_vret (GW cI h q ((worksF g n f) 0) ((worksF g n f) 2) ((worksF g n f) 1) (tl (worksF g n f))) hx hb hr hlk hP hS rfl (⟨rfl, rfl⟩) dX0_haveAGo_41
  · refine lv_aload_n hx hb dX0_haveAGo_10 rfl (lv_at hl 1 rfl) ?_
    refine lv_iload_n hx hb dX0_haveAGo_11 rfl (lv_at hl 2 rfl) ?_
    refine lv_iload_n hx hb dX0_haveAGo_12 rfl (lv_at hl 0 rfl) ?_
    refine mu_W (w := (GW cI h q (g 0) (g 2) (g 1) (tl g))) (rest := []) S hK hP hD hS (k_X0_isChangedBy n f hI (by omega) hc) gv_X0_90 hd_X0_isChangedBy ⟨Nat.le_of_ble_eq_true rfl, Nat.le_of_ble_eq_true rfl⟩ 0 rfl rfl rfl rfl hl.1 (lv_room (Nat.le_of_ble_eq_true rfl)) dX0_haveAGo_13 ⟨Nat.zero_le _, Nat.zero_le _⟩ (fun ov w' H locs hp hP hD hS => ?_)
    obtain ⟨rfl, rfl⟩ := hp
    refine W.eq (g2 := F0 m 16 ls [.int (b2i (decide (¬ its g f (whatW g f) = thenW g n f)))]) rfl ?_
    refine lv_if_eq (tgt := 41) hx hb dX0_haveAGo_16 rfl (fun c16 => ?_) (fun c16 => ?_)
    · replace c16 := (b2i_0 _).mp c16
      have hE : (put9 g f (whatW g f) (thenW g n f)) = worksF g n f := works_b (Decidable.not_not.mp (of_decide_eq_false c16))
      have hW : (GW cI h q ((put9 g f (whatW g f) (thenW g n f)) 0) ((put9 g f (whatW g f) (thenW g n f)) 2) ((put9 g f (whatW g f) (thenW g n f)) 1) (tl (put9 g f (whatW g f) (thenW g n f)))) = (GW cI h q ((worksF g n f) 0) ((worksF g n f) 2) ((worksF g n f) 1) (tl (worksF g n f))) := congrArg (fun z => GW cI h q (z 0) (z 2) (z 1) (tl z)) hE
      have hP : va_P D vwCl (GW cI h q ((worksF g n f) 0) ((worksF g n f) 2) ((worksF g n f) 1) (tl (worksF g n f))) H := Eq.mp (congrArg (fun z => va_P D vwCl z H) hW) hP
      have hD : va_D _ (GW cI h q ((worksF g n f) 0) ((worksF g n f) 2) ((worksF g n f) 1) (tl (worksF g n f))) := Eq.mp (congrArg (fun z => va_D _ z) hW) hD
      exact mu_vret (GW cI h q ((worksF g n f) 0) ((worksF g n f) 2) ((worksF g n f) 1) (tl (worksF g n f))) hx hb hr hlk hP hS rfl (⟨rfl, rfl⟩) dX0_haveAGo_41
    · replace c16 := b2i_n0 c16
      refine lv_aload_n hx hb dX0_haveAGo_19 rfl (lv_at hl 1 rfl) ?_
      refine lv_iload_n hx hb dX0_haveAGo_20 rfl (lv_at hl 2 rfl) ?_
      refine lv_bipush (v := 8) hx hb dX0_haveAGo_21 rfl ?_
      refine lv_aload_n hx hb dX0_haveAGo_23 rfl (lv_at hl 1 rfl) ?_
      refine lv_iload_n hx hb dX0_haveAGo_24 rfl (lv_at hl 2 rfl) ?_
      refine lv_bipush (v := 8) hx hb dX0_haveAGo_25 rfl ?_
      refine ro_V (w := (GW cI h q ((put9 g f (whatW g f) (thenW g n f)) 0) ((put9 g f (whatW g f) (thenW g n f)) 2) ((put9 g f (whatW g f) (thenW g n f)) 1) (tl (put9 g f (whatW g f) (thenW g n f))))) (rest := [.int 8, .int (nI f), .ref h]) S hK hP (k_X0_getN f 8 (by omega) (by omega)) gv_X0_39 hd_X0_get ⟨Nat.le_of_ble_eq_true rfl, Nat.le_of_ble_eq_true rfl⟩ 0 rfl rfl rfl rfl hl.1 (lv_room (Nat.le_of_ble_eq_true rfl)) dX0_haveAGo_27 ⟨Nat.zero_le _, Nat.zero_le _⟩ ?_
      refine lv_iconst (v := 1) hx hb dX0_haveAGo_30 rfl ?_
      refine lv_iadd hx hb dX0_haveAGo_31 ?_
      refine lv_sipush (v := 9999) hx hb dX0_haveAGo_32 rfl ?_
      refine va_mmin hx hb (hml.trans hl.1.symm) hown (hts _ wm_X0_94) (hts _ wt_J9_min_7cf53) (hts _ wi_J9) (hts _ wc_J9_min_7cf53) (Nat.le_of_ble_eq_true rfl) (Nat.le_of_ble_eq_true rfl) (Nat.zero_le _) (Nat.zero_le _) dX0_haveAGo_35 ?_
      refine w_i (z := heldI (its (put9 g f (whatW g f) (thenW g n f)) f 8 + 1) 0 9999) (min_held (by rw [its_put (fun z => absurd z.2 (by have := what_lt g f; omega)) (by have := what_lt g f; omega) (by omega)]; exact (hI.2.2.2 f hf).2.2.2.2.2.2.2.2)) ?_
      refine mu_W (w := (GW cI h q ((put9 g f (whatW g f) (thenW g n f)) 0) ((put9 g f (whatW g f) (thenW g n f)) 2) ((put9 g f (whatW g f) (thenW g n f)) 1) (tl (put9 g f (whatW g f) (thenW g n f))))) (rest := []) S hK hP hD hS (k_X0_put f 8 (heldI (its (put9 g f (whatW g f) (thenW g n f)) f 8 + 1) 0 9999) (by omega) (by omega)) gv_X0_31 hd_X0_put ⟨Nat.le_of_ble_eq_true rfl, Nat.le_of_ble_eq_true rfl⟩ 0 rfl rfl rfl rfl hl.1 (lv_room (Nat.le_of_ble_eq_true rfl)) dX0_haveAGo_38 ⟨Nat.zero_le _, Nat.zero_le _⟩ (fun ov w' H locs hp hP hD hS => ?_)
      obtain ⟨rfl, rfl⟩ := hp
      refine W.eq (g2 := F0 m 41 ls []) rfl ?_
      have hE : (put9 (put9 g f (whatW g f) (thenW g n f)) f 8 (heldI (its (put9 g f (whatW g f) (thenW g n f)) f 8 + 1) 0 9999)) = worksF g n f := works_c c7 (of_decide_eq_true c16)
      have hW : (GW cI h q ((put9 (put9 g f (whatW g f) (thenW g n f)) f 8 (heldI (its (put9 g f (whatW g f) (thenW g n f)) f 8 + 1) 0 9999)) 0) ((put9 (put9 g f (whatW g f) (thenW g n f)) f 8 (heldI (its (put9 g f (whatW g f) (thenW g n f)) f 8 + 1) 0 9999)) 2) ((put9 (put9 g f (whatW g f) (thenW g n f)) f 8 (heldI (its (put9 g f (whatW g f) (thenW g n f)) f 8 + 1) 0 9999)) 1) (tl (put9 (put9 g f (whatW g f) (thenW g n f)) f 8 (heldI (its (put9 g f (whatW g f) (thenW g n f)) f 8 + 1) 0 9999)))) = (GW cI h q ((worksF g n f) 0) ((worksF g n f) 2) ((worksF g n f) 1) (tl (worksF g n f))) := congrArg (fun z => GW cI h q (z 0) (z 2) (z 1) (tl z)) hE
      have hP : va_P D vwCl (GW cI h q ((worksF g n f) 0) ((worksF g n f) 2) ((worksF g n f) 1) (tl (worksF g n f))) H := Eq.mp (congrArg (fun z => va_P D vwCl z H) hW) hP
      have hD : va_D _ (GW cI h q ((worksF g n f) 0) ((worksF g n f) 2) ((worksF g n f) 1) (tl (worksF g n f))) := Eq.mp (congrArg (fun z => va_D _ z) hW) hD
      exact mu_vret (GW cI h q ((worksF g n f) 0) ((worksF g n f) 2) ((worksF g n f) 1) (tl (worksF g n f))) hx hb hr hlk hP hS rfl (⟨rfl, rfl⟩) dX0_haveAGo_41

set_option maxHeartbeats 4000000 in
set_option maxRecDepth 100000 in
theorem k_X0_pass (n : Nat) (k : Nat) (hI : Inv g n) (hh : rng (g 0) 0 200000) (hk : k ≤ 1000) : MU l D (tyA cI cJ cO) yX0_pass cX0_pass 4 none 4 92 [.ref h, .int (nI k)] (GW cI h q (g 0) (g 2) (g 1) (tl g)) (fun ov w' => ov = none ∧ w' = (GW cI h q ((hoursF g n k) 0) ((hoursF g n k) 2) ((hoursF g n k) 1) (tl (hoursF g n k)))) := by
  refine MU.mk (by decide) (Nat.le_of_ble_eq_true rfl) ?_
  intro p e s m below meth c ls S hr hlk hP hK hD hS hl
  have S : CallFix p m c cX0_pass 4 s _ WL RX0 := S
  obtain ⟨hx, hb, hml, hown, hts⟩ := id S
  have hl : lv_has ls 4 [(0, .ref h), (1, .int (nI k))] := hl
  have h8 : n ≤ 8 := hI.1
  have hI0 := hI
  have hh0 := hh
  refine lv_iconst (v := 0) hx hb dX0_pass_0 rfl ?_
  refine lv_istore_n (lv' := [(2, .int 0), (0, .ref h), (1, .int (nI k))]) hx hb dX0_pass_1 rfl hl (by decide) rfl (fun ls hl => ?_)
  refine w_loopH (pc := 2) (st := fun (j : Nat) => []) (μ := fun (j : Nat) => k - j) (I := fun (j : Nat) H locs ls => (j ≤ k) ∧ va_P D vwCl (GW cI h q ((hoursF g n j) 0) ((hoursF g n j) 2) ((hoursF g n j) 1) (tl (hoursF g n j))) H ∧ va_D (fun z9 => z9 ∈ ((GW cI h q (g 0) (g 2) (g 1) (tl g))).map (fun z8 => z8.1)) (GW cI h q ((hoursF g n j) 0) ((hoursF g n j) 2) ((hoursF g n j) 1) (tl (hoursF g n j))) ∧ va_S (fun z9 => z9 ∈ ((GW cI h q (g 0) (g 2) (g 1) (tl g))).map (fun z8 => z8.1)) s.heap H locs ∧ lv_has ls 4 [(0, .ref h), (1, .int (nI k)), (2, .int (nI j))]) ?_ (0) ⟨Nat.zero_le _, hP, hD, hS, lv_sub hl [1, 2, 0] rfl⟩
  rintro j H locs ls ⟨hj, hP, hD, hS, hl⟩ ih2
  try dsimp only at ih2 ⊢
  have hI1 := Inv_hours hI0 j
  refine lv_iload_n hx hb dX0_pass_2 rfl (lv_at hl 2 rfl) ?_
  refine lv_iload_n hx hb dX0_pass_3 rfl (lv_at hl 1 rfl) ?_
  refine lv_icmp_ge (tgt := 70) hx hb dX0_pass_4 rfl (fun c4 => ?_) (fun c4 => ?_)
  · replace c4 := nq_le (a := k) (b := j) (by omega) (by omega) c4
    obtain rfl : k = j := by omega
    exact mu_vret (GW cI h q ((hoursF g n k) 0) ((hoursF g n k) 2) ((hoursF g n k) 1) (tl (hoursF g n k))) hx hb hr hlk hP hS rfl (⟨rfl, rfl⟩) dX0_pass_70
  · replace c4 := nq_nle (a := k) (b := j) (by omega) (by omega) c4
    refine lv_iconst (v := 0) hx hb dX0_pass_7 rfl ?_
    refine lv_istore_n (lv' := [(3, .int 0), (0, .ref h), (1, .int (nI k)), (2, .int (nI j))]) hx hb dX0_pass_8 rfl hl (by decide) rfl (fun ls hl => ?_)
    refine w_loopH (pc := 9) (st := fun (i : Nat) => []) (μ := fun (i : Nat) => n - i) (I := fun (i : Nat) H locs ls => (i ≤ n) ∧ va_P D vwCl (GW cI h q ((passF (hoursF g n j) n i) 0) ((passF (hoursF g n j) n i) 2) ((passF (hoursF g n j) n i) 1) (tl (passF (hoursF g n j) n i))) H ∧ va_D (fun z9 => z9 ∈ ((GW cI h q (g 0) (g 2) (g 1) (tl g))).map (fun z8 => z8.1)) (GW cI h q ((passF (hoursF g n j) n i) 0) ((passF (hoursF g n j) n i) 2) ((passF (hoursF g n j) n i) 1) (tl (passF (hoursF g n j) n i))) ∧ va_S (fun z9 => z9 ∈ ((GW cI h q (g 0) (g 2) (g 1) (tl g))).map (fun z8 => z8.1)) s.heap H locs ∧ lv_has ls 4 [(0, .ref h), (1, .int (nI k)), (2, .int (nI j)), (3, .int (nI i))]) ?_ (0) ⟨Nat.zero_le _, hP, hD, hS, lv_sub hl [1, 2, 3, 0] rfl⟩
    rintro i H locs ls ⟨hi, hP, hD, hS, hl⟩ ih9
    try dsimp only at ih9 ⊢
    have hI := Inv_pass hI1 i hi
    have hh : 0 ≤ (passF (hoursF g n j) n i) 0 := by rw [pass_0]; exact hours_pos hh0 (by omega)
    refine lv_iload_n hx hb dX0_pass_9 rfl (lv_at hl 3 rfl) ?_
    refine lv_aload_n hx hb dX0_pass_10 rfl (lv_at hl 0 rfl) ?_
    refine va_get (ci := 0) (v := .int ((passF (hoursF g n j) n i) 1)) hx hb hts wx_X0 hown hK hP 0 rfl rfl 2 (by decide) (hts _ wf_X0_18) (fun _ h9 => h9) rfl dX0_pass_11 ?_
    refine w_i (z := nI n) (hI.2.1) ?_
    refine lv_icmp_ge (tgt := 54) hx hb dX0_pass_14 rfl (fun c14 => ?_) (fun c14 => ?_)
    · replace c14 := nq_le (a := n) (b := i) (by omega) (by omega) c14
      obtain rfl : n = i := by omega
      refine lv_aload_n hx hb dX0_pass_54 rfl (lv_at hl 0 rfl) ?_
      refine lv_dup hx hb dX0_pass_55 rfl ?_
      refine va_get (ci := 0) (v := .int ((passF (hoursF g n j) n n) 0)) hx hb hts wx_X0 hown hK hP 0 rfl rfl 0 (by decide) (hts _ wf_X0_9) (fun _ h9 => h9) rfl dX0_pass_56 ?_
      refine lv_iconst (v := 1) hx hb dX0_pass_59 rfl ?_
      refine lv_iadd hx hb dX0_pass_60 ?_
      refine va_put (ci := 0) (v := .int (((passF (hoursF g n j) n n) 0) + 1)) (ty := tyX0 0) hx hb hts wx_X0 tyX0 tyX0_ok nmX0 hown hK hP hD hS 0 rfl rfl 0 (by decide) (hts _ wf_X0_9) (fun _ h9 => h9) rfl (tyX0_ok 0 (by decide)) rfl rfl (Nat.le_of_ble_eq_true rfl) dX0_pass_61 (fun H locs hP hD hS => ?_)
      have hP : va_P D vwCl (GW cI h q (((passF (hoursF g n j) n n) 0) + 1) ((passF (hoursF g n j) n n) 2) ((passF (hoursF g n j) n n) 1) (tl (passF (hoursF g n j) n n))) H := hP
      have hD : va_D _ (GW cI h q (((passF (hoursF g n j) n n) 0) + 1) ((passF (hoursF g n j) n n) 2) ((passF (hoursF g n j) n n) 1) (tl (passF (hoursF g n j) n n))) := hD
      have hW : (GW cI h q (((passF (hoursF g n j) n n) 0) + 1) ((passF (hoursF g n j) n n) 2) ((passF (hoursF g n j) n n) 1) (tl (passF (hoursF g n j) n n))) = (GW cI h q ((hourF (hoursF g n j) n) 0) ((hourF (hoursF g n j) n) 2) ((hourF (hoursF g n j) n) 1) (tl (hourF (hoursF g n j) n))) := gw_eq (g := hourF (hoursF g n j) n) ((pk_us (f := passF (hoursF g n j) n n) (k := 0)).symm) ((pk_un (f := passF (hoursF g n j) n n) (by decide)).symm) ((pk_un (f := passF (hoursF g n j) n n) (by decide)).symm) (tl_lo (passF (hoursF g n j) n n) 0 _ (by decide))
      have hP : va_P D vwCl (GW cI h q ((hourF (hoursF g n j) n) 0) ((hourF (hoursF g n j) n) 2) ((hourF (hoursF g n j) n) 1) (tl (hourF (hoursF g n j) n))) H := Eq.mp (congrArg (fun z => va_P D vwCl z H) hW) hP
      have hD : va_D _ (GW cI h q ((hourF (hoursF g n j) n) 0) ((hourF (hoursF g n j) n) 2) ((hourF (hoursF g n j) n) 1) (tl (hourF (hoursF g n j) n))) := Eq.mp (congrArg (fun z => va_D _ z) hW) hD
      have hE : (hourF (hoursF g n j) n) = hoursF g n (j + 1) := rfl
      have hW : (GW cI h q ((hourF (hoursF g n j) n) 0) ((hourF (hoursF g n j) n) 2) ((hourF (hoursF g n j) n) 1) (tl (hourF (hoursF g n j) n))) = (GW cI h q ((hoursF g n (j + 1)) 0) ((hoursF g n (j + 1)) 2) ((hoursF g n (j + 1)) 1) (tl (hoursF g n (j + 1)))) := congrArg (fun z => GW cI h q (z 0) (z 2) (z 1) (tl z)) hE
      have hP : va_P D vwCl (GW cI h q ((hoursF g n (j + 1)) 0) ((hoursF g n (j + 1)) 2) ((hoursF g n (j + 1)) 1) (tl (hoursF g n (j + 1)))) H := Eq.mp (congrArg (fun z => va_P D vwCl z H) hW) hP
      have hD : va_D _ (GW cI h q ((hoursF g n (j + 1)) 0) ((hoursF g n (j + 1)) 2) ((hoursF g n (j + 1)) 1) (tl (hoursF g n (j + 1)))) := Eq.mp (congrArg (fun z => va_D _ z) hW) hD
      refine lv_iinc (v := nI (j + 1)) (lv' := [(2, .int (nI (j + 1))), (0, .ref h), (1, .int (nI k)), (3, .int (nI n))]) hx hb dX0_pass_64 hl (k := 2) rfl (nI_inc _) (by decide) rfl (fun ls hl => ?_)
      refine lv_goto (tgt := 2) hx hb dX0_pass_67 rfl ?_
      exact ih2 (j + 1) _ _ ls (by first | omega | (dsimp only; omega)) ⟨(by omega), hP, hD, hS, lv_sub hl [1, 2, 0] rfl⟩
    · replace c14 := nq_nle (a := n) (b := i) (by omega) (by omega) c14
      refine lv_aload_n hx hb dX0_pass_17 rfl (lv_at hl 0 rfl) ?_
      refine lv_iload_n hx hb dX0_pass_18 rfl (lv_at hl 3 rfl) ?_
      refine lv_bipush (v := 7) hx hb dX0_pass_19 rfl ?_
      refine ro_V (w := (GW cI h q ((passF (hoursF g n j) n i) 0) ((passF (hoursF g n j) n i) 2) ((passF (hoursF g n j) n i) 1) (tl (passF (hoursF g n j) n i)))) (rest := []) S hK hP (k_X0_getN i 7 (by omega) (by omega)) gv_X0_39 hd_X0_get ⟨Nat.le_of_ble_eq_true rfl, Nat.le_of_ble_eq_true rfl⟩ 0 rfl rfl rfl rfl hl.1 (lv_room (Nat.le_of_ble_eq_true rfl)) dX0_pass_21 ⟨Nat.zero_le _, Nat.zero_le _⟩ ?_
      refine lv_if_ne (tgt := 48) hx hb dX0_pass_24 rfl (fun c24 => ?_) (fun c24 => ?_)
      · have hE : (passF (hoursF g n j) n i) = passF (hoursF g n j) n (i + 1) := passF_f (by simp [c24])
        have hW : (GW cI h q ((passF (hoursF g n j) n i) 0) ((passF (hoursF g n j) n i) 2) ((passF (hoursF g n j) n i) 1) (tl (passF (hoursF g n j) n i))) = (GW cI h q ((passF (hoursF g n j) n (i + 1)) 0) ((passF (hoursF g n j) n (i + 1)) 2) ((passF (hoursF g n j) n (i + 1)) 1) (tl (passF (hoursF g n j) n (i + 1)))) := congrArg (fun z => GW cI h q (z 0) (z 2) (z 1) (tl z)) hE
        have hP : va_P D vwCl (GW cI h q ((passF (hoursF g n j) n (i + 1)) 0) ((passF (hoursF g n j) n (i + 1)) 2) ((passF (hoursF g n j) n (i + 1)) 1) (tl (passF (hoursF g n j) n (i + 1)))) H := Eq.mp (congrArg (fun z => va_P D vwCl z H) hW) hP
        have hD : va_D _ (GW cI h q ((passF (hoursF g n j) n (i + 1)) 0) ((passF (hoursF g n j) n (i + 1)) 2) ((passF (hoursF g n j) n (i + 1)) 1) (tl (passF (hoursF g n j) n (i + 1)))) := Eq.mp (congrArg (fun z => va_D _ z) hW) hD
        refine lv_iinc (v := nI (i + 1)) (lv' := [(3, .int (nI (i + 1))), (0, .ref h), (1, .int (nI k)), (2, .int (nI j))]) hx hb dX0_pass_48 hl (k := 3) rfl (nI_inc _) (by decide) rfl (fun ls hl => ?_)
        refine lv_goto (tgt := 9) hx hb dX0_pass_51 rfl ?_
        exact ih9 (i + 1) _ _ ls (by first | omega | (dsimp only; omega)) ⟨(by omega), hP, hD, hS, lv_sub hl [1, 2, 3, 0] rfl⟩
      · refine lv_aload_n hx hb dX0_pass_27 rfl (lv_at hl 0 rfl) ?_
        refine lv_iload_n hx hb dX0_pass_28 rfl (lv_at hl 3 rfl) ?_
        refine ro_V (w := (GW cI h q ((passF (hoursF g n j) n i) 0) ((passF (hoursF g n j) n i) 2) ((passF (hoursF g n j) n i) 1) (tl (passF (hoursF g n j) n i)))) (rest := []) S hK hP (k_X0_isContent n i hI (by omega)) gv_X0_43 hd_X0_isContent ⟨Nat.le_of_ble_eq_true rfl, Nat.le_of_ble_eq_true rfl⟩ 0 rfl rfl rfl rfl hl.1 (lv_room (Nat.le_of_ble_eq_true rfl)) dX0_pass_29 ⟨Nat.zero_le _, Nat.zero_le _⟩ ?_
        refine lv_if_ne (tgt := 48) hx hb dX0_pass_32 rfl (fun c32 => ?_) (fun c32 => ?_)
        · replace c32 := b2i_n0 c32
          have hE : (passF (hoursF g n j) n i) = passF (hoursF g n j) n (i + 1) := passF_f (by simp [c32])
          have hW : (GW cI h q ((passF (hoursF g n j) n i) 0) ((passF (hoursF g n j) n i) 2) ((passF (hoursF g n j) n i) 1) (tl (passF (hoursF g n j) n i))) = (GW cI h q ((passF (hoursF g n j) n (i + 1)) 0) ((passF (hoursF g n j) n (i + 1)) 2) ((passF (hoursF g n j) n (i + 1)) 1) (tl (passF (hoursF g n j) n (i + 1)))) := congrArg (fun z => GW cI h q (z 0) (z 2) (z 1) (tl z)) hE
          have hP : va_P D vwCl (GW cI h q ((passF (hoursF g n j) n (i + 1)) 0) ((passF (hoursF g n j) n (i + 1)) 2) ((passF (hoursF g n j) n (i + 1)) 1) (tl (passF (hoursF g n j) n (i + 1)))) H := Eq.mp (congrArg (fun z => va_P D vwCl z H) hW) hP
          have hD : va_D _ (GW cI h q ((passF (hoursF g n j) n (i + 1)) 0) ((passF (hoursF g n j) n (i + 1)) 2) ((passF (hoursF g n j) n (i + 1)) 1) (tl (passF (hoursF g n j) n (i + 1)))) := Eq.mp (congrArg (fun z => va_D _ z) hW) hD
          refine lv_iinc (v := nI (i + 1)) (lv' := [(3, .int (nI (i + 1))), (0, .ref h), (1, .int (nI k)), (2, .int (nI j))]) hx hb dX0_pass_48 hl (k := 3) rfl (nI_inc _) (by decide) rfl (fun ls hl => ?_)
          refine lv_goto (tgt := 9) hx hb dX0_pass_51 rfl ?_
          exact ih9 (i + 1) _ _ ls (by first | omega | (dsimp only; omega)) ⟨(by omega), hP, hD, hS, lv_sub hl [1, 2, 3, 0] rfl⟩
        · replace c32 := (b2i_0 _).mp c32
          refine lv_aload_n hx hb dX0_pass_35 rfl (lv_at hl 0 rfl) ?_
          refine lv_iload_n hx hb dX0_pass_36 rfl (lv_at hl 3 rfl) ?_
          refine ro_V (w := (GW cI h q ((passF (hoursF g n j) n i) 0) ((passF (hoursF g n j) n i) 2) ((passF (hoursF g n j) n i) 1) (tl (passF (hoursF g n j) n i)))) (rest := []) S hK hP (k_X0_isWaiting n i hI (by omega) hh) gv_X0_47 hd_X0_isWaiting ⟨Nat.le_of_ble_eq_true rfl, Nat.le_of_ble_eq_true rfl⟩ 0 rfl rfl rfl rfl hl.1 (lv_room (Nat.le_of_ble_eq_true rfl)) dX0_pass_37 ⟨Nat.zero_le _, Nat.zero_le _⟩ ?_
          refine lv_if_ne (tgt := 48) hx hb dX0_pass_40 rfl (fun c40 => ?_) (fun c40 => ?_)
          · replace c40 := b2i_n0 c40
            have hE : (passF (hoursF g n j) n i) = passF (hoursF g n j) n (i + 1) := passF_f (by simp [c40])
            have hW : (GW cI h q ((passF (hoursF g n j) n i) 0) ((passF (hoursF g n j) n i) 2) ((passF (hoursF g n j) n i) 1) (tl (passF (hoursF g n j) n i))) = (GW cI h q ((passF (hoursF g n j) n (i + 1)) 0) ((passF (hoursF g n j) n (i + 1)) 2) ((passF (hoursF g n j) n (i + 1)) 1) (tl (passF (hoursF g n j) n (i + 1)))) := congrArg (fun z => GW cI h q (z 0) (z 2) (z 1) (tl z)) hE
            have hP : va_P D vwCl (GW cI h q ((passF (hoursF g n j) n (i + 1)) 0) ((passF (hoursF g n j) n (i + 1)) 2) ((passF (hoursF g n j) n (i + 1)) 1) (tl (passF (hoursF g n j) n (i + 1)))) H := Eq.mp (congrArg (fun z => va_P D vwCl z H) hW) hP
            have hD : va_D _ (GW cI h q ((passF (hoursF g n j) n (i + 1)) 0) ((passF (hoursF g n j) n (i + 1)) 2) ((passF (hoursF g n j) n (i + 1)) 1) (tl (passF (hoursF g n j) n (i + 1)))) := Eq.mp (congrArg (fun z => va_D _ z) hW) hD
            refine lv_iinc (v := nI (i + 1)) (lv' := [(3, .int (nI (i + 1))), (0, .ref h), (1, .int (nI k)), (2, .int (nI j))]) hx hb dX0_pass_48 hl (k := 3) rfl (nI_inc _) (by decide) rfl (fun ls hl => ?_)
            refine lv_goto (tgt := 9) hx hb dX0_pass_51 rfl ?_
            exact ih9 (i + 1) _ _ ls (by first | omega | (dsimp only; omega)) ⟨(by omega), hP, hD, hS, lv_sub hl [1, 2, 3, 0] rfl⟩
          · replace c40 := (b2i_0 _).mp c40
            refine lv_aload_n hx hb dX0_pass_43 rfl (lv_at hl 0 rfl) ?_
            refine lv_iload_n hx hb dX0_pass_44 rfl (lv_at hl 3 rfl) ?_
            have hc := c32
            refine mu_W (w := (GW cI h q ((passF (hoursF g n j) n i) 0) ((passF (hoursF g n j) n i) 2) ((passF (hoursF g n j) n i) 1) (tl (passF (hoursF g n j) n i)))) (rest := []) S hK hP hD hS (k_X0_haveAGo n i hI (by omega) hc) gv_X0_83 hd_X0_haveAGo ⟨Nat.le_of_ble_eq_true rfl, Nat.le_of_ble_eq_true rfl⟩ 0 rfl rfl rfl rfl hl.1 (lv_room (Nat.le_of_ble_eq_true rfl)) dX0_pass_45 ⟨Nat.zero_le _, Nat.zero_le _⟩ (fun ov w' H locs hp hP hD hS => ?_)
            obtain ⟨rfl, rfl⟩ := hp
            refine W.eq (g2 := F0 m 48 ls []) rfl ?_
            have hE : (worksF (passF (hoursF g n j) n i) n i) = passF (hoursF g n j) n (i + 1) := passF_t c24 c32 c40
            have hW : (GW cI h q ((worksF (passF (hoursF g n j) n i) n i) 0) ((worksF (passF (hoursF g n j) n i) n i) 2) ((worksF (passF (hoursF g n j) n i) n i) 1) (tl (worksF (passF (hoursF g n j) n i) n i))) = (GW cI h q ((passF (hoursF g n j) n (i + 1)) 0) ((passF (hoursF g n j) n (i + 1)) 2) ((passF (hoursF g n j) n (i + 1)) 1) (tl (passF (hoursF g n j) n (i + 1)))) := congrArg (fun z => GW cI h q (z 0) (z 2) (z 1) (tl z)) hE
            have hP : va_P D vwCl (GW cI h q ((passF (hoursF g n j) n (i + 1)) 0) ((passF (hoursF g n j) n (i + 1)) 2) ((passF (hoursF g n j) n (i + 1)) 1) (tl (passF (hoursF g n j) n (i + 1)))) H := Eq.mp (congrArg (fun z => va_P D vwCl z H) hW) hP
            have hD : va_D _ (GW cI h q ((passF (hoursF g n j) n (i + 1)) 0) ((passF (hoursF g n j) n (i + 1)) 2) ((passF (hoursF g n j) n (i + 1)) 1) (tl (passF (hoursF g n j) n (i + 1)))) := Eq.mp (congrArg (fun z => va_D _ z) hW) hD
            refine lv_iinc (v := nI (i + 1)) (lv' := [(3, .int (nI (i + 1))), (0, .ref h), (1, .int (nI k)), (2, .int (nI j))]) hx hb dX0_pass_48 hl (k := 3) rfl (nI_inc _) (by decide) rfl (fun ls hl => ?_)
            refine lv_goto (tgt := 9) hx hb dX0_pass_51 rfl ?_
            exact ih9 (i + 1) _ _ ls (by first | omega | (dsimp only; omega)) ⟨(by omega), hP, hD, hS, lv_sub hl [1, 2, 3, 0] rfl⟩

end
