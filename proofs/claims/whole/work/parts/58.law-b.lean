section
variable {p : Program} {l : Launch} {e : Env} {s : State} {m : MethodId} {below : List Frame} {meth : Method} {c : Code} {H : Heap} {locs : List Loc} {Q : State → Prop} {ls : Array Slot} {D : va_G} {cI cJ cO : ClassId} {B A kA vA : Nat → Nat} {oB : Option Nat} {Ap : Nat → Prop} {b L : Nat} {xs : Nat → Int32}

set_option maxHeartbeats 4000000 in
set_option maxRecDepth 100000 in
theorem law_18 (S : CallFix p m c cL_law 4 s #[Value.ref b] WL RL) (hK : va_K D vwCl (tyA cI cJ cO) s) (hX : va_X b L xs s s.heap) (hbl : b < s.heap.size) (hbA : ¬ Ap b) (hZ : ZS kA vA oB Ap s s.heap) (hL : L ≤ 3072) (i : Nat) (hi : i + 6 ≤ L) (hI0 : LI D cI cJ cO B A Ap H) (hS : va_S Ap s.heap H locs) (hl : lv_has ls 4 [(0, .ref b), (1, .ref (B 0)), (2, .ref (A 0)), (3, .int (nI i))]) (J : ∀ (H : Heap) (locs : List Loc), LI D cI cJ cO B A Ap H → va_S Ap s.heap H locs → W p l e room_1 s m #[Value.ref b] below meth c H locs 32 1267 Q (F0 m 1214 ls [])) : W p l e room_1 s m #[Value.ref b] below meth c H locs 32 1267 Q (F0 m 712 ls []) := by
  obtain ⟨gG, n, tG, kG, kS, kn, ib, d, tp, tk, bg, en, va, tn, bO, sO, nU, fS, cW, oS, aS, cA, fm, tt, vl, wr, mV, hI, hh, hkp, hd, hT, hSh, hP, hD⟩ := hI0
  obtain ⟨hx, hb, hml, hown, hts⟩ := id S
  refine lv_aload_n hx hb dL_law_712 rfl (lv_at hl 1 rfl) ?_
  refine lv_aload_n hx hb dL_law_713 rfl (lv_at hl 0 rfl) ?_
  refine lv_iload_n hx hb dL_law_714 rfl (lv_at hl 3 rfl) ?_
  refine lv_iconst (v := 1) hx hb dL_law_715 rfl ?_
  refine lv_iadd hx hb dL_law_716 ?_
  refine w_i (z := nI (i + 1)) (nI_add i 1) ?_
  refine va_sld hx hb hX hbl hbA hS (vp_in_nI (by omega) (by omega)) dL_law_717 ?_
  refine w_i (z := xs (i + 1)) (congrArg xs (nI_clamp (by omega))) ?_
  refine lx_V (As := [.int (xs (i + 1))]) (rest := []) S hK hP hD hS (k_X3_clash n (xs (i + 1)) hI (rng_w hh (by decide))) gv_L_89 hd_X3_clash ⟨Nat.le_of_ble_eq_true rfl, Nat.le_of_ble_eq_true rfl⟩ 3 rfl rfl rfl rfl hl.1 (lv_room (Nat.le_of_ble_eq_true rfl)) dL_law_718 ⟨Nat.le_of_ble_eq_true rfl, Nat.le_of_ble_eq_true rfl⟩ (fun ov w' H locs hp hP hD hS => ?_)
  obtain ⟨tG1, cW1, rfl, rfl⟩ := hp
  refine W.eq (g2 := F0 m 721 ls [.int (clashR gG n (xs (i + 1)))]) rfl ?_
  refine lv_aload_n hx hb dL_law_721 rfl (lv_at hl 2 rfl) ?_
  refine lv_aload_n hx hb dL_law_722 rfl (lv_at hl 0 rfl) ?_
  refine lv_iload_n hx hb dL_law_723 rfl (lv_at hl 3 rfl) ?_
  refine lv_iconst (v := 1) hx hb dL_law_724 rfl ?_
  refine lv_iadd hx hb dL_law_725 ?_
  refine w_i (z := nI (i + 1)) (nI_add i 1) ?_
  refine va_sld hx hb hX hbl hbA hS (vp_in_nI (by omega) (by omega)) dL_law_726 ?_
  refine w_i (z := xs (i + 1)) (congrArg xs (nI_clamp (by omega))) ?_
  refine ly_V (As := [.int (xs (i + 1))]) (rest := [.int (clashR gG n (xs (i + 1)))]) S hK hP hD hS (k_X4_clash n (xs (i + 1)) hI) gv_L_92 hd_X4_clash ⟨Nat.le_of_ble_eq_true rfl, Nat.le_of_ble_eq_true rfl⟩ 4 rfl rfl rfl rfl hl.1 (lv_room (Nat.le_of_ble_eq_true rfl)) dL_law_727 ⟨Nat.le_of_ble_eq_true rfl, Nat.le_of_ble_eq_true rfl⟩ (fun ov w' H locs hp hP hD hS => ?_)
  obtain ⟨aS1, cA1, rfl, rfl⟩ := hp
  refine W.eq (g2 := F0 m 730 ls [.int (clashR gG n (xs (i + 1))), .int (clashR gG n (xs (i + 1)))]) rfl ?_
  refine lv_icmp_eq (tgt := 1214) hx hb dL_law_730 rfl (fun c9 => ?_) (fun c9 => absurd rfl c9)
  exact J _ _ ⟨gG, n, _, _, _, kn, ib, d, _, _, _, _, _, _, _, _, _, _, _, _, _, _, _, _, _, _, _, hI, hh, hkp, hd, hT, hSh, hP, hD⟩ hS

set_option maxHeartbeats 4000000 in
set_option maxRecDepth 100000 in
theorem law_19 (S : CallFix p m c cL_law 4 s #[Value.ref b] WL RL) (hK : va_K D vwCl (tyA cI cJ cO) s) (hX : va_X b L xs s s.heap) (hbl : b < s.heap.size) (hbA : ¬ Ap b) (hZ : ZS kA vA oB Ap s s.heap) (hL : L ≤ 3072) (i : Nat) (hi : i + 6 ≤ L) (hI0 : LI D cI cJ cO B A Ap H) (hS : va_S Ap s.heap H locs) (hl : lv_has ls 4 [(0, .ref b), (1, .ref (B 0)), (2, .ref (A 0)), (3, .int (nI i))]) (J : ∀ (H : Heap) (locs : List Loc), LI D cI cJ cO B A Ap H → va_S Ap s.heap H locs → W p l e room_1 s m #[Value.ref b] below meth c H locs 32 1267 Q (F0 m 1214 ls [])) : W p l e room_1 s m #[Value.ref b] below meth c H locs 32 1267 Q (F0 m 735 ls []) := by
  obtain ⟨gG, n, tG, kG, kS, kn, ib, d, tp, tk, bg, en, va, tn, bO, sO, nU, fS, cW, oS, aS, cA, fm, tt, vl, wr, mV, hI, hh, hkp, hd, hT, hSh, hP, hD⟩ := hI0
  obtain ⟨hx, hb, hml, hown, hts⟩ := id S
  refine lv_aload_n hx hb dL_law_735 rfl (lv_at hl 1 rfl) ?_
  refine lv_aload_n hx hb dL_law_736 rfl (lv_at hl 0 rfl) ?_
  refine lv_iload_n hx hb dL_law_737 rfl (lv_at hl 3 rfl) ?_
  refine lv_iconst (v := 1) hx hb dL_law_738 rfl ?_
  refine lv_iadd hx hb dL_law_739 ?_
  refine w_i (z := nI (i + 1)) (nI_add i 1) ?_
  refine va_sld hx hb hX hbl hbA hS (vp_in_nI (by omega) (by omega)) dL_law_740 ?_
  refine w_i (z := xs (i + 1)) (congrArg xs (nI_clamp (by omega))) ?_
  refine lv_aload_n hx hb dL_law_741 rfl (lv_at hl 0 rfl) ?_
  refine lv_iload_n hx hb dL_law_742 rfl (lv_at hl 3 rfl) ?_
  refine lv_iconst (v := 2) hx hb dL_law_743 rfl ?_
  refine lv_iadd hx hb dL_law_744 ?_
  refine w_i (z := nI (i + 2)) (nI_add i 2) ?_
  refine va_sld hx hb hX hbl hbA hS (vp_in_nI (by omega) (by omega)) dL_law_745 ?_
  refine w_i (z := xs (i + 2)) (congrArg xs (nI_clamp (by omega))) ?_
  refine lx_V (As := [.int (xs (i + 1)), .int (xs (i + 2))]) (rest := []) S hK hP hD hS (k_X3_want n (xs (i + 1)) (xs (i + 2)) hI (rng_w hh (by decide))) gv_L_93 hd_X3_want ⟨Nat.le_of_ble_eq_true rfl, Nat.le_of_ble_eq_true rfl⟩ 3 rfl rfl rfl rfl hl.1 (lv_room (Nat.le_of_ble_eq_true rfl)) dL_law_746 ⟨Nat.le_of_ble_eq_true rfl, Nat.le_of_ble_eq_true rfl⟩ (fun ov w' H locs hp hP hD hS => ?_)
  obtain ⟨tG1, rfl, rfl⟩ := hp
  refine W.eq (g2 := F0 m 749 ls [.int (wantR gG n (xs (i + 1)) (xs (i + 2)))]) rfl ?_
  refine lv_aload_n hx hb dL_law_749 rfl (lv_at hl 2 rfl) ?_
  refine lv_aload_n hx hb dL_law_750 rfl (lv_at hl 0 rfl) ?_
  refine lv_iload_n hx hb dL_law_751 rfl (lv_at hl 3 rfl) ?_
  refine lv_iconst (v := 1) hx hb dL_law_752 rfl ?_
  refine lv_iadd hx hb dL_law_753 ?_
  refine w_i (z := nI (i + 1)) (nI_add i 1) ?_
  refine va_sld hx hb hX hbl hbA hS (vp_in_nI (by omega) (by omega)) dL_law_754 ?_
  refine w_i (z := xs (i + 1)) (congrArg xs (nI_clamp (by omega))) ?_
  refine lv_aload_n hx hb dL_law_755 rfl (lv_at hl 0 rfl) ?_
  refine lv_iload_n hx hb dL_law_756 rfl (lv_at hl 3 rfl) ?_
  refine lv_iconst (v := 2) hx hb dL_law_757 rfl ?_
  refine lv_iadd hx hb dL_law_758 ?_
  refine w_i (z := nI (i + 2)) (nI_add i 2) ?_
  refine va_sld hx hb hX hbl hbA hS (vp_in_nI (by omega) (by omega)) dL_law_759 ?_
  refine w_i (z := xs (i + 2)) (congrArg xs (nI_clamp (by omega))) ?_
  refine ly_V (As := [.int (xs (i + 1)), .int (xs (i + 2))]) (rest := [.int (wantR gG n (xs (i + 1)) (xs (i + 2)))]) S hK hP hD hS (k_X4_want n (xs (i + 1)) (xs (i + 2)) hI) gv_L_96 hd_X4_want ⟨Nat.le_of_ble_eq_true rfl, Nat.le_of_ble_eq_true rfl⟩ 4 rfl rfl rfl rfl hl.1 (lv_room (Nat.le_of_ble_eq_true rfl)) dL_law_760 ⟨Nat.le_of_ble_eq_true rfl, Nat.le_of_ble_eq_true rfl⟩ (fun ov w' H locs hp hP hD hS => ?_)
  obtain ⟨aS1, rfl, rfl⟩ := hp
  refine W.eq (g2 := F0 m 763 ls [.int (wantR gG n (xs (i + 1)) (xs (i + 2))), .int (wantR gG n (xs (i + 1)) (xs (i + 2)))]) rfl ?_
  refine lv_icmp_eq (tgt := 1214) hx hb dL_law_763 rfl (fun c9 => ?_) (fun c9 => absurd rfl c9)
  exact J _ _ ⟨gG, n, _, _, _, kn, ib, d, _, _, _, _, _, _, _, _, _, _, _, _, _, _, _, _, _, _, _, hI, hh, hkp, hd, hT, hSh, hP, hD⟩ hS

set_option maxHeartbeats 4000000 in
set_option maxRecDepth 100000 in
theorem law_20 (S : CallFix p m c cL_law 4 s #[Value.ref b] WL RL) (hK : va_K D vwCl (tyA cI cJ cO) s) (hX : va_X b L xs s s.heap) (hbl : b < s.heap.size) (hbA : ¬ Ap b) (hZ : ZS kA vA oB Ap s s.heap) (hL : L ≤ 3072) (i : Nat) (hi : i + 6 ≤ L) (hI0 : LI D cI cJ cO B A Ap H) (hS : va_S Ap s.heap H locs) (hl : lv_has ls 4 [(0, .ref b), (1, .ref (B 0)), (2, .ref (A 0)), (3, .int (nI i))]) (J : ∀ (H : Heap) (locs : List Loc), LI D cI cJ cO B A Ap H → va_S Ap s.heap H locs → W p l e room_1 s m #[Value.ref b] below meth c H locs 32 1267 Q (F0 m 1214 ls [])) : W p l e room_1 s m #[Value.ref b] below meth c H locs 32 1267 Q (F0 m 768 ls []) := by
  obtain ⟨gG, n, tG, kG, kS, kn, ib, d, tp, tk, bg, en, va, tn, bO, sO, nU, fS, cW, oS, aS, cA, fm, tt, vl, wr, mV, hI, hh, hkp, hd, hT, hSh, hP, hD⟩ := hI0
  obtain ⟨hx, hb, hml, hown, hts⟩ := id S
  refine lv_aload_n hx hb dL_law_768 rfl (lv_at hl 1 rfl) ?_
  refine lv_aload_n hx hb dL_law_769 rfl (lv_at hl 0 rfl) ?_
  refine lv_iload_n hx hb dL_law_770 rfl (lv_at hl 3 rfl) ?_
  refine lv_iconst (v := 1) hx hb dL_law_771 rfl ?_
  refine lv_iadd hx hb dL_law_772 ?_
  refine w_i (z := nI (i + 1)) (nI_add i 1) ?_
  refine va_sld hx hb hX hbl hbA hS (vp_in_nI (by omega) (by omega)) dL_law_773 ?_
  refine w_i (z := xs (i + 1)) (congrArg xs (nI_clamp (by omega))) ?_
  refine lv_aload_n hx hb dL_law_774 rfl (lv_at hl 0 rfl) ?_
  refine lv_iload_n hx hb dL_law_775 rfl (lv_at hl 3 rfl) ?_
  refine lv_iconst (v := 2) hx hb dL_law_776 rfl ?_
  refine lv_iadd hx hb dL_law_777 ?_
  refine w_i (z := nI (i + 2)) (nI_add i 2) ?_
  refine va_sld hx hb hX hbl hbA hS (vp_in_nI (by omega) (by omega)) dL_law_778 ?_
  refine w_i (z := xs (i + 2)) (congrArg xs (nI_clamp (by omega))) ?_
  refine lx_V (As := [.int (xs (i + 1)), .int (xs (i + 2))]) (rest := []) S hK hP hD hS (k_X3_nose n (xs (i + 1)) (xs (i + 2)) hI (rng_w hh (by decide))) gv_L_97 hd_X3_nose ⟨Nat.le_of_ble_eq_true rfl, Nat.le_of_ble_eq_true rfl⟩ 3 rfl rfl rfl rfl hl.1 (lv_room (Nat.le_of_ble_eq_true rfl)) dL_law_779 ⟨Nat.le_of_ble_eq_true rfl, Nat.le_of_ble_eq_true rfl⟩ (fun ov w' H locs hp hP hD hS => ?_)
  obtain ⟨tG1, rfl, rfl⟩ := hp
  refine W.eq (g2 := F0 m 782 ls [.int (noseR gG n (xs (i + 1)) (xs (i + 2)))]) rfl ?_
  refine lv_aload_n hx hb dL_law_782 rfl (lv_at hl 2 rfl) ?_
  refine lv_aload_n hx hb dL_law_783 rfl (lv_at hl 0 rfl) ?_
  refine lv_iload_n hx hb dL_law_784 rfl (lv_at hl 3 rfl) ?_
  refine lv_iconst (v := 1) hx hb dL_law_785 rfl ?_
  refine lv_iadd hx hb dL_law_786 ?_
  refine w_i (z := nI (i + 1)) (nI_add i 1) ?_
  refine va_sld hx hb hX hbl hbA hS (vp_in_nI (by omega) (by omega)) dL_law_787 ?_
  refine w_i (z := xs (i + 1)) (congrArg xs (nI_clamp (by omega))) ?_
  refine lv_aload_n hx hb dL_law_788 rfl (lv_at hl 0 rfl) ?_
  refine lv_iload_n hx hb dL_law_789 rfl (lv_at hl 3 rfl) ?_
  refine lv_iconst (v := 2) hx hb dL_law_790 rfl ?_
  refine lv_iadd hx hb dL_law_791 ?_
  refine w_i (z := nI (i + 2)) (nI_add i 2) ?_
  refine va_sld hx hb hX hbl hbA hS (vp_in_nI (by omega) (by omega)) dL_law_792 ?_
  refine w_i (z := xs (i + 2)) (congrArg xs (nI_clamp (by omega))) ?_
  refine ly_V (As := [.int (xs (i + 1)), .int (xs (i + 2))]) (rest := [.int (noseR gG n (xs (i + 1)) (xs (i + 2)))]) S hK hP hD hS (k_X4_nose n (xs (i + 1)) (xs (i + 2)) hI) gv_L_100 hd_X4_nose ⟨Nat.le_of_ble_eq_true rfl, Nat.le_of_ble_eq_true rfl⟩ 4 rfl rfl rfl rfl hl.1 (lv_room (Nat.le_of_ble_eq_true rfl)) dL_law_793 ⟨Nat.le_of_ble_eq_true rfl, Nat.le_of_ble_eq_true rfl⟩ (fun ov w' H locs hp hP hD hS => ?_)
  obtain ⟨aS1, rfl, rfl⟩ := hp
  refine W.eq (g2 := F0 m 796 ls [.int (noseR gG n (xs (i + 1)) (xs (i + 2))), .int (noseR gG n (xs (i + 1)) (xs (i + 2)))]) rfl ?_
  refine lv_icmp_eq (tgt := 1214) hx hb dL_law_796 rfl (fun c9 => ?_) (fun c9 => absurd rfl c9)
  exact J _ _ ⟨gG, n, _, _, _, kn, ib, d, _, _, _, _, _, _, _, _, _, _, _, _, _, _, _, _, _, _, _, hI, hh, hkp, hd, hT, hSh, hP, hD⟩ hS

set_option maxHeartbeats 4000000 in
set_option maxRecDepth 100000 in
theorem law_21 (S : CallFix p m c cL_law 4 s #[Value.ref b] WL RL) (hK : va_K D vwCl (tyA cI cJ cO) s) (hX : va_X b L xs s s.heap) (hbl : b < s.heap.size) (hbA : ¬ Ap b) (hZ : ZS kA vA oB Ap s s.heap) (hL : L ≤ 3072) (i : Nat) (hi : i + 6 ≤ L) (hI0 : LI D cI cJ cO B A Ap H) (hS : va_S Ap s.heap H locs) (hl : lv_has ls 4 [(0, .ref b), (1, .ref (B 0)), (2, .ref (A 0)), (3, .int (nI i))]) (J : ∀ (H : Heap) (locs : List Loc), LI D cI cJ cO B A Ap H → va_S Ap s.heap H locs → W p l e room_1 s m #[Value.ref b] below meth c H locs 32 1267 Q (F0 m 1214 ls [])) : W p l e room_1 s m #[Value.ref b] below meth c H locs 32 1267 Q (F0 m 801 ls []) := by
  obtain ⟨gG, n, tG, kG, kS, kn, ib, d, tp, tk, bg, en, va, tn, bO, sO, nU, fS, cW, oS, aS, cA, fm, tt, vl, wr, mV, hI, hh, hkp, hd, hT, hSh, hP, hD⟩ := hI0
  obtain ⟨hx, hb, hml, hown, hts⟩ := id S
  refine lv_aload_n hx hb dL_law_801 rfl (lv_at hl 1 rfl) ?_
  refine lv_aload_n hx hb dL_law_802 rfl (lv_at hl 0 rfl) ?_
  refine lv_iload_n hx hb dL_law_803 rfl (lv_at hl 3 rfl) ?_
  refine lv_iconst (v := 1) hx hb dL_law_804 rfl ?_
  refine lv_iadd hx hb dL_law_805 ?_
  refine w_i (z := nI (i + 1)) (nI_add i 1) ?_
  refine va_sld hx hb hX hbl hbA hS (vp_in_nI (by omega) (by omega)) dL_law_806 ?_
  refine w_i (z := xs (i + 1)) (congrArg xs (nI_clamp (by omega))) ?_
  refine lv_aload_n hx hb dL_law_807 rfl (lv_at hl 0 rfl) ?_
  refine lv_iload_n hx hb dL_law_808 rfl (lv_at hl 3 rfl) ?_
  refine lv_iconst (v := 2) hx hb dL_law_809 rfl ?_
  refine lv_iadd hx hb dL_law_810 ?_
  refine w_i (z := nI (i + 2)) (nI_add i 2) ?_
  refine va_sld hx hb hX hbl hbA hS (vp_in_nI (by omega) (by omega)) dL_law_811 ?_
  refine w_i (z := xs (i + 2)) (congrArg xs (nI_clamp (by omega))) ?_
  refine lx_V (As := [.int (xs (i + 1)), .int (xs (i + 2))]) (rest := []) S hK hP hD hS (k_X3_feed d (xs (i + 1)) (xs (i + 2)) hd) gv_L_101 hd_X3_feed ⟨Nat.le_of_ble_eq_true rfl, Nat.le_of_ble_eq_true rfl⟩ 3 rfl rfl rfl rfl hl.1 (lv_room (Nat.le_of_ble_eq_true rfl)) dL_law_812 ⟨Nat.le_of_ble_eq_true rfl, Nat.le_of_ble_eq_true rfl⟩ (fun ov w' H locs hp hP hD hS => ?_)
  obtain ⟨rfl, rfl⟩ := hp
  refine W.eq (g2 := F0 m 815 ls [.int (feedR d (xs (i + 2)))]) rfl ?_
  refine lv_aload_n hx hb dL_law_815 rfl (lv_at hl 2 rfl) ?_
  refine lv_aload_n hx hb dL_law_816 rfl (lv_at hl 0 rfl) ?_
  refine lv_iload_n hx hb dL_law_817 rfl (lv_at hl 3 rfl) ?_
  refine lv_iconst (v := 1) hx hb dL_law_818 rfl ?_
  refine lv_iadd hx hb dL_law_819 ?_
  refine w_i (z := nI (i + 1)) (nI_add i 1) ?_
  refine va_sld hx hb hX hbl hbA hS (vp_in_nI (by omega) (by omega)) dL_law_820 ?_
  refine w_i (z := xs (i + 1)) (congrArg xs (nI_clamp (by omega))) ?_
  refine lv_aload_n hx hb dL_law_821 rfl (lv_at hl 0 rfl) ?_
  refine lv_iload_n hx hb dL_law_822 rfl (lv_at hl 3 rfl) ?_
  refine lv_iconst (v := 2) hx hb dL_law_823 rfl ?_
  refine lv_iadd hx hb dL_law_824 ?_
  refine w_i (z := nI (i + 2)) (nI_add i 2) ?_
  refine va_sld hx hb hX hbl hbA hS (vp_in_nI (by omega) (by omega)) dL_law_825 ?_
  refine w_i (z := xs (i + 2)) (congrArg xs (nI_clamp (by omega))) ?_
  refine ly_V (As := [.int (xs (i + 1)), .int (xs (i + 2))]) (rest := [.int (feedR d (xs (i + 2)))]) S hK hP hD hS (k_X4_feed d (xs (i + 1)) (xs (i + 2)) hd) gv_L_104 hd_X4_feed ⟨Nat.le_of_ble_eq_true rfl, Nat.le_of_ble_eq_true rfl⟩ 4 rfl rfl rfl rfl hl.1 (lv_room (Nat.le_of_ble_eq_true rfl)) dL_law_826 ⟨Nat.le_of_ble_eq_true rfl, Nat.le_of_ble_eq_true rfl⟩ (fun ov w' H locs hp hP hD hS => ?_)
  obtain ⟨rfl, rfl⟩ := hp
  refine W.eq (g2 := F0 m 829 ls [.int (feedR d (xs (i + 2))), .int (feedR d (xs (i + 2)))]) rfl ?_
  refine lv_icmp_eq (tgt := 1214) hx hb dL_law_829 rfl (fun c9 => ?_) (fun c9 => absurd rfl c9)
  obtain ⟨d1, ed1, hd1, hT1⟩ := feed_k (b := (xs (i + 1))) (k := (xs (i + 2))) hd hT
  rw [ed1] at hP hD
  exact J _ _ ⟨gG, n, _, _, _, kn, ib, d1, _, _, _, _, _, _, _, _, _, _, _, _, _, _, _, _, _, _, _, hI, hh, hkp, hd1, hT1, hSh, hP, hD⟩ hS

set_option maxHeartbeats 4000000 in
set_option maxRecDepth 100000 in
theorem law_22 (S : CallFix p m c cL_law 4 s #[Value.ref b] WL RL) (hK : va_K D vwCl (tyA cI cJ cO) s) (hX : va_X b L xs s s.heap) (hbl : b < s.heap.size) (hbA : ¬ Ap b) (hZ : ZS kA vA oB Ap s s.heap) (hL : L ≤ 3072) (i : Nat) (hi : i + 6 ≤ L) (hI0 : LI D cI cJ cO B A Ap H) (hS : va_S Ap s.heap H locs) (hl : lv_has ls 4 [(0, .ref b), (1, .ref (B 0)), (2, .ref (A 0)), (3, .int (nI i))]) (J : ∀ (H : Heap) (locs : List Loc), LI D cI cJ cO B A Ap H → va_S Ap s.heap H locs → W p l e room_1 s m #[Value.ref b] below meth c H locs 32 1267 Q (F0 m 1214 ls [])) : W p l e room_1 s m #[Value.ref b] below meth c H locs 32 1267 Q (F0 m 834 ls []) := by
  obtain ⟨gG, n, tG, kG, kS, kn, ib, d, tp, tk, bg, en, va, tn, bO, sO, nU, fS, cW, oS, aS, cA, fm, tt, vl, wr, mV, hI, hh, hkp, hd, hT, hSh, hP, hD⟩ := hI0
  obtain ⟨hx, hb, hml, hown, hts⟩ := id S
  refine lv_aload_n hx hb dL_law_834 rfl (lv_at hl 1 rfl) ?_
  refine lx_V (As := []) (rest := []) S hK hP hD hS (k_X3_wipe ) gv_L_105 hd_X3_wipe ⟨Nat.le_of_ble_eq_true rfl, Nat.le_of_ble_eq_true rfl⟩ 3 rfl rfl rfl rfl hl.1 (lv_room (Nat.le_of_ble_eq_true rfl)) dL_law_835 ⟨Nat.le_of_ble_eq_true rfl, Nat.le_of_ble_eq_true rfl⟩ (fun ov w' H locs hp hP hD hS => ?_)
  obtain ⟨rfl, rfl⟩ := hp
  refine W.eq (g2 := F0 m 838 ls [.int (nI d)]) rfl ?_
  refine lv_aload_n hx hb dL_law_838 rfl (lv_at hl 2 rfl) ?_
  refine ly_V (As := []) (rest := [.int (nI d)]) S hK hP hD hS (k_X4_wipe ) gv_L_108 hd_X4_wipe ⟨Nat.le_of_ble_eq_true rfl, Nat.le_of_ble_eq_true rfl⟩ 4 rfl rfl rfl rfl hl.1 (lv_room (Nat.le_of_ble_eq_true rfl)) dL_law_839 ⟨Nat.le_of_ble_eq_true rfl, Nat.le_of_ble_eq_true rfl⟩ (fun ov w' H locs hp hP hD hS => ?_)
  obtain ⟨rfl, rfl⟩ := hp
  refine W.eq (g2 := F0 m 842 ls [.int (nI d), .int (nI d)]) rfl ?_
  refine lv_icmp_eq (tgt := 1214) hx hb dL_law_842 rfl (fun c9 => ?_) (fun c9 => absurd rfl c9)
  exact J _ _ ⟨gG, n, _, _, _, kn, ib, 0, _, _, _, _, _, _, _, _, _, _, _, _, _, _, _, _, _, _, _, hI, hh, hkp, Nat.zero_le _, fun j hj => absurd hj (Nat.not_lt_zero j), hSh, hP, hD⟩ hS

set_option maxHeartbeats 4000000 in
set_option maxRecDepth 100000 in
theorem law_23 (S : CallFix p m c cL_law 4 s #[Value.ref b] WL RL) (hK : va_K D vwCl (tyA cI cJ cO) s) (hX : va_X b L xs s s.heap) (hbl : b < s.heap.size) (hbA : ¬ Ap b) (hZ : ZS kA vA oB Ap s s.heap) (hL : L ≤ 3072) (i : Nat) (hi : i + 6 ≤ L) (hI0 : LI D cI cJ cO B A Ap H) (hS : va_S Ap s.heap H locs) (hl : lv_has ls 4 [(0, .ref b), (1, .ref (B 0)), (2, .ref (A 0)), (3, .int (nI i))]) (J : ∀ (H : Heap) (locs : List Loc), LI D cI cJ cO B A Ap H → va_S Ap s.heap H locs → W p l e room_1 s m #[Value.ref b] below meth c H locs 32 1267 Q (F0 m 1214 ls [])) : W p l e room_1 s m #[Value.ref b] below meth c H locs 32 1267 Q (F0 m 847 ls []) := by
  obtain ⟨gG, n, tG, kG, kS, kn, ib, d, tp, tk, bg, en, va, tn, bO, sO, nU, fS, cW, oS, aS, cA, fm, tt, vl, wr, mV, hI, hh, hkp, hd, hT, hSh, hP, hD⟩ := hI0
  obtain ⟨hx, hb, hml, hown, hts⟩ := id S
  refine lv_aload_n hx hb dL_law_847 rfl (lv_at hl 1 rfl) ?_
  refine lz_V (As := []) (rest := []) S hK hP hD hS hZ (k_X3_night n d hI hd hT) gv_L_109 hd_X3_night ⟨Nat.le_of_ble_eq_true rfl, Nat.le_of_ble_eq_true rfl⟩ 3 rfl rfl rfl rfl hl.1 (lv_room (Nat.le_of_ble_eq_true rfl)) dL_law_848 ⟨Nat.le_of_ble_eq_true rfl, Nat.le_of_ble_eq_true rfl⟩ (fun ov w' H locs hp hP hD hS => ?_)
  obtain ⟨tG1, tk1, bg1, en1, va1, tn1, rfl, rfl⟩ := hp
  refine W.eq (g2 := F0 m 851 ls [.int (nightA (nightP tp d gG n))]) rfl ?_
  refine lv_aload_n hx hb dL_law_851 rfl (lv_at hl 2 rfl) ?_
  refine ly_V (As := []) (rest := [.int (nightA (nightP tp d gG n))]) S hK hP hD hS (k_X4_night n d hI hd) gv_L_112 hd_X4_night ⟨Nat.le_of_ble_eq_true rfl, Nat.le_of_ble_eq_true rfl⟩ 4 rfl rfl rfl rfl hl.1 (lv_room (Nat.le_of_ble_eq_true rfl)) dL_law_852 ⟨Nat.le_of_ble_eq_true rfl, Nat.le_of_ble_eq_true rfl⟩ (fun ov w' H locs hp hP hD hS => ?_)
  obtain ⟨oS1, fm1, tt1, vl1, wr1, rfl, rfl⟩ := hp
  refine W.eq (g2 := F0 m 855 ls [.int (nightA (nightP tp d gG n)), .int (nightA (nightP tp d gG n))]) rfl ?_
  refine lv_icmp_eq (tgt := 1214) hx hb dL_law_855 rfl (fun c9 => ?_) (fun c9 => absurd rfl c9)
  exact J _ _ ⟨nightG (nightP tp d gG n) gG, nightN (nightP tp d gG n) n, _, _, _, kn, ib, 0, _, _, _, _, _, _, _, _, _, _, _, _, _, _, _, _, _, _, _, (Inv_night hI).1, by rw [(Inv_night hI).2]; exact hh, hkp, Nat.zero_le _, fun j hj => absurd hj (Nat.not_lt_zero j), hSh, hP, hD⟩ hS

set_option maxHeartbeats 4000000 in
set_option maxRecDepth 100000 in
theorem law_24 (S : CallFix p m c cL_law 4 s #[Value.ref b] WL RL) (hK : va_K D vwCl (tyA cI cJ cO) s) (hX : va_X b L xs s s.heap) (hbl : b < s.heap.size) (hbA : ¬ Ap b) (hZ : ZS kA vA oB Ap s s.heap) (hL : L ≤ 3072) (i : Nat) (hi : i + 6 ≤ L) (hI0 : LI D cI cJ cO B A Ap H) (hS : va_S Ap s.heap H locs) (hl : lv_has ls 4 [(0, .ref b), (1, .ref (B 0)), (2, .ref (A 0)), (3, .int (nI i))]) (J : ∀ (H : Heap) (locs : List Loc), LI D cI cJ cO B A Ap H → va_S Ap s.heap H locs → W p l e room_1 s m #[Value.ref b] below meth c H locs 32 1267 Q (F0 m 1214 ls [])) : W p l e room_1 s m #[Value.ref b] below meth c H locs 32 1267 Q (F0 m 860 ls []) := by
  obtain ⟨gG, n, tG, kG, kS, kn, ib, d, tp, tk, bg, en, va, tn, bO, sO, nU, fS, cW, oS, aS, cA, fm, tt, vl, wr, mV, hI, hh, hkp, hd, hT, hSh, hP, hD⟩ := hI0
  obtain ⟨hx, hb, hml, hown, hts⟩ := id S
  refine lv_aload_n hx hb dL_law_860 rfl (lv_at hl 1 rfl) ?_
  refine lv_aload_n hx hb dL_law_861 rfl (lv_at hl 0 rfl) ?_
  refine lv_iload_n hx hb dL_law_862 rfl (lv_at hl 3 rfl) ?_
  refine lv_iconst (v := 1) hx hb dL_law_863 rfl ?_
  refine lv_iadd hx hb dL_law_864 ?_
  refine w_i (z := nI (i + 1)) (nI_add i 1) ?_
  refine va_sld hx hb hX hbl hbA hS (vp_in_nI (by omega) (by omega)) dL_law_865 ?_
  refine w_i (z := xs (i + 1)) (congrArg xs (nI_clamp (by omega))) ?_
  refine lv_aload_n hx hb dL_law_866 rfl (lv_at hl 0 rfl) ?_
  refine lv_iload_n hx hb dL_law_867 rfl (lv_at hl 3 rfl) ?_
  refine lv_iconst (v := 2) hx hb dL_law_868 rfl ?_
  refine lv_iadd hx hb dL_law_869 ?_
  refine w_i (z := nI (i + 2)) (nI_add i 2) ?_
  refine va_sld hx hb hX hbl hbA hS (vp_in_nI (by omega) (by omega)) dL_law_870 ?_
  refine w_i (z := xs (i + 2)) (congrArg xs (nI_clamp (by omega))) ?_
  refine lv_aload_n hx hb dL_law_871 rfl (lv_at hl 0 rfl) ?_
  refine lv_iload_n hx hb dL_law_872 rfl (lv_at hl 3 rfl) ?_
  refine lv_iconst (v := 3) hx hb dL_law_873 rfl ?_
  refine lv_iadd hx hb dL_law_874 ?_
  refine w_i (z := nI (i + 3)) (nI_add i 3) ?_
  refine va_sld hx hb hX hbl hbA hS (vp_in_nI (by omega) (by omega)) dL_law_875 ?_
  refine w_i (z := xs (i + 3)) (congrArg xs (nI_clamp (by omega))) ?_
  refine lx_V (As := [.int (xs (i + 1)), .int (xs (i + 2)), .int (xs (i + 3))]) (rest := []) S hK hP hD hS (k_X3_sheet (xs (i + 1)) (xs (i + 2)) (xs (i + 3))) gv_L_113 hd_X3_sheet ⟨Nat.le_of_ble_eq_true rfl, Nat.le_of_ble_eq_true rfl⟩ 3 rfl rfl rfl rfl hl.1 (lv_room (Nat.le_of_ble_eq_true rfl)) dL_law_876 ⟨Nat.le_of_ble_eq_true rfl, Nat.le_of_ble_eq_true rfl⟩ (fun ov w' H locs hp hP hD hS => ?_)
  obtain ⟨rfl, rfl⟩ := hp
  refine W.eq (g2 := F0 m 879 ls [.int (shtR (xs (i + 1)) (xs (i + 2)) (xs (i + 3)))]) rfl ?_
  refine lv_aload_n hx hb dL_law_879 rfl (lv_at hl 2 rfl) ?_
  refine lv_aload_n hx hb dL_law_880 rfl (lv_at hl 0 rfl) ?_
  refine lv_iload_n hx hb dL_law_881 rfl (lv_at hl 3 rfl) ?_
  refine lv_iconst (v := 1) hx hb dL_law_882 rfl ?_
  refine lv_iadd hx hb dL_law_883 ?_
  refine w_i (z := nI (i + 1)) (nI_add i 1) ?_
  refine va_sld hx hb hX hbl hbA hS (vp_in_nI (by omega) (by omega)) dL_law_884 ?_
  refine w_i (z := xs (i + 1)) (congrArg xs (nI_clamp (by omega))) ?_
  refine lv_aload_n hx hb dL_law_885 rfl (lv_at hl 0 rfl) ?_
  refine lv_iload_n hx hb dL_law_886 rfl (lv_at hl 3 rfl) ?_
  refine lv_iconst (v := 2) hx hb dL_law_887 rfl ?_
  refine lv_iadd hx hb dL_law_888 ?_
  refine w_i (z := nI (i + 2)) (nI_add i 2) ?_
  refine va_sld hx hb hX hbl hbA hS (vp_in_nI (by omega) (by omega)) dL_law_889 ?_
  refine w_i (z := xs (i + 2)) (congrArg xs (nI_clamp (by omega))) ?_
  refine lv_aload_n hx hb dL_law_890 rfl (lv_at hl 0 rfl) ?_
  refine lv_iload_n hx hb dL_law_891 rfl (lv_at hl 3 rfl) ?_
  refine lv_iconst (v := 3) hx hb dL_law_892 rfl ?_
  refine lv_iadd hx hb dL_law_893 ?_
  refine w_i (z := nI (i + 3)) (nI_add i 3) ?_
  refine va_sld hx hb hX hbl hbA hS (vp_in_nI (by omega) (by omega)) dL_law_894 ?_
  refine w_i (z := xs (i + 3)) (congrArg xs (nI_clamp (by omega))) ?_
  refine ly_V (As := [.int (xs (i + 1)), .int (xs (i + 2)), .int (xs (i + 3))]) (rest := [.int (shtR (xs (i + 1)) (xs (i + 2)) (xs (i + 3)))]) S hK hP hD hS (k_X4_sheet (xs (i + 1)) (xs (i + 2)) (xs (i + 3))) gv_L_116 hd_X4_sheet ⟨Nat.le_of_ble_eq_true rfl, Nat.le_of_ble_eq_true rfl⟩ 4 rfl rfl rfl rfl hl.1 (lv_room (Nat.le_of_ble_eq_true rfl)) dL_law_895 ⟨Nat.le_of_ble_eq_true rfl, Nat.le_of_ble_eq_true rfl⟩ (fun ov w' H locs hp hP hD hS => ?_)
  obtain ⟨rfl, rfl⟩ := hp
  refine W.eq (g2 := F0 m 898 ls [.int (shtR (xs (i + 1)) (xs (i + 2)) (xs (i + 3))), .int (shtR (xs (i + 1)) (xs (i + 2)) (xs (i + 3)))]) rfl ?_
  refine lv_icmp_eq (tgt := 1214) hx hb dL_law_898 rfl (fun c9 => ?_) (fun c9 => absurd rfl c9)
  exact J _ _ ⟨gG, n, _, _, _, kn, ib, d, _, _, _, _, _, _, _, _, _, _, _, _, _, _, _, _, _, _, _, hI, hh, hkp, hd, hT, sht_k hSh, hP, hD⟩ hS

set_option maxHeartbeats 4000000 in
set_option maxRecDepth 100000 in
theorem law_25 (S : CallFix p m c cL_law 4 s #[Value.ref b] WL RL) (hK : va_K D vwCl (tyA cI cJ cO) s) (hX : va_X b L xs s s.heap) (hbl : b < s.heap.size) (hbA : ¬ Ap b) (hZ : ZS kA vA oB Ap s s.heap) (hL : L ≤ 3072) (i : Nat) (hi : i + 6 ≤ L) (hI0 : LI D cI cJ cO B A Ap H) (hS : va_S Ap s.heap H locs) (hl : lv_has ls 4 [(0, .ref b), (1, .ref (B 0)), (2, .ref (A 0)), (3, .int (nI i))]) (J : ∀ (H : Heap) (locs : List Loc), LI D cI cJ cO B A Ap H → va_S Ap s.heap H locs → W p l e room_1 s m #[Value.ref b] below meth c H locs 32 1267 Q (F0 m 1214 ls [])) : W p l e room_1 s m #[Value.ref b] below meth c H locs 32 1267 Q (F0 m 903 ls []) := by
  obtain ⟨gG, n, tG, kG, kS, kn, ib, d, tp, tk, bg, en, va, tn, bO, sO, nU, fS, cW, oS, aS, cA, fm, tt, vl, wr, mV, hI, hh, hkp, hd, hT, hSh, hP, hD⟩ := hI0
  obtain ⟨hx, hb, hml, hown, hts⟩ := id S
  refine lv_aload_n hx hb dL_law_903 rfl (lv_at hl 1 rfl) ?_
  refine lv_aload_n hx hb dL_law_904 rfl (lv_at hl 0 rfl) ?_
  refine lv_iload_n hx hb dL_law_905 rfl (lv_at hl 3 rfl) ?_
  refine lv_iconst (v := 1) hx hb dL_law_906 rfl ?_
  refine lv_iadd hx hb dL_law_907 ?_
  refine w_i (z := nI (i + 1)) (nI_add i 1) ?_
  refine va_sld hx hb hX hbl hbA hS (vp_in_nI (by omega) (by omega)) dL_law_908 ?_
  refine w_i (z := xs (i + 1)) (congrArg xs (nI_clamp (by omega))) ?_
  refine lv_aload_n hx hb dL_law_909 rfl (lv_at hl 0 rfl) ?_
  refine lv_iload_n hx hb dL_law_910 rfl (lv_at hl 3 rfl) ?_
  refine lv_iconst (v := 2) hx hb dL_law_911 rfl ?_
  refine lv_iadd hx hb dL_law_912 ?_
  refine w_i (z := nI (i + 2)) (nI_add i 2) ?_
  refine va_sld hx hb hX hbl hbA hS (vp_in_nI (by omega) (by omega)) dL_law_913 ?_
  refine w_i (z := xs (i + 2)) (congrArg xs (nI_clamp (by omega))) ?_
  refine lv_aload_n hx hb dL_law_914 rfl (lv_at hl 0 rfl) ?_
  refine lv_iload_n hx hb dL_law_915 rfl (lv_at hl 3 rfl) ?_
  refine lv_iconst (v := 3) hx hb dL_law_916 rfl ?_
  refine lv_iadd hx hb dL_law_917 ?_
  refine w_i (z := nI (i + 3)) (nI_add i 3) ?_
  refine va_sld hx hb hX hbl hbA hS (vp_in_nI (by omega) (by omega)) dL_law_918 ?_
  refine w_i (z := xs (i + 3)) (congrArg xs (nI_clamp (by omega))) ?_
  refine lv_i2l hx hb dL_law_919 rfl ?_
  refine lv_bipush (v := 32) hx hb dL_law_920 rfl ?_
  refine lv_lshl hx hb dL_law_922 rfl ?_
  refine lv_aload_n hx hb dL_law_923 rfl (lv_at hl 0 rfl) ?_
  refine lv_iload_n hx hb dL_law_924 rfl (lv_at hl 3 rfl) ?_
  refine lv_iconst (v := 4) hx hb dL_law_925 rfl ?_
  refine lv_iadd hx hb dL_law_926 ?_
  refine w_i (z := nI (i + 4)) (nI_add i 4) ?_
  refine va_sld hx hb hX hbl hbA hS (vp_in_nI (by omega) (by omega)) dL_law_927 ?_
  refine w_i (z := xs (i + 4)) (congrArg xs (nI_clamp (by omega))) ?_
  refine lv_i2l hx hb dL_law_928 rfl ?_
  refine lv_ldc2 (v := 4294967295) hx hb hown (hts _ wq_L_117) dL_law_929 ?_
  refine lv_land hx hb dL_law_932 ?_
  refine lv_lor hx hb dL_law_933 ?_
  refine lx_V (As := [.int (xs (i + 1)), .int (xs (i + 2)), .long (((Int32.toInt64 (xs (i + 3))) <<< (Int32.toInt64 32 &&& 63)) ||| ((Int32.toInt64 (xs (i + 4))) &&& 4294967295))]) (rest := []) S hK hP hD hS (k_X3_write (xs (i + 1)) (xs (i + 2)) (((Int32.toInt64 (xs (i + 3))) <<< (Int32.toInt64 32 &&& 63)) ||| ((Int32.toInt64 (xs (i + 4))) &&& 4294967295)) hSh) gv_L_119 hd_X3_write ⟨Nat.le_of_ble_eq_true rfl, Nat.le_of_ble_eq_true rfl⟩ 3 rfl rfl rfl rfl hl.1 (lv_room (Nat.le_of_ble_eq_true rfl)) dL_law_934 ⟨Nat.le_of_ble_eq_true rfl, Nat.le_of_ble_eq_true rfl⟩ (fun ov w' H locs hp hP hD hS => ?_)
  obtain ⟨rfl, rfl⟩ := hp
  refine W.eq (g2 := F0 m 937 ls [.long (wrtR bO sO nU (xs (i + 1)) (xs (i + 2)))]) rfl ?_
  refine lv_aload_n hx hb dL_law_937 rfl (lv_at hl 2 rfl) ?_
  refine lv_aload_n hx hb dL_law_938 rfl (lv_at hl 0 rfl) ?_
  refine lv_iload_n hx hb dL_law_939 rfl (lv_at hl 3 rfl) ?_
  refine lv_iconst (v := 1) hx hb dL_law_940 rfl ?_
  refine lv_iadd hx hb dL_law_941 ?_
  refine w_i (z := nI (i + 1)) (nI_add i 1) ?_
  refine va_sld hx hb hX hbl hbA hS (vp_in_nI (by omega) (by omega)) dL_law_942 ?_
  refine w_i (z := xs (i + 1)) (congrArg xs (nI_clamp (by omega))) ?_
  refine lv_aload_n hx hb dL_law_943 rfl (lv_at hl 0 rfl) ?_
  refine lv_iload_n hx hb dL_law_944 rfl (lv_at hl 3 rfl) ?_
  refine lv_iconst (v := 2) hx hb dL_law_945 rfl ?_
  refine lv_iadd hx hb dL_law_946 ?_
  refine w_i (z := nI (i + 2)) (nI_add i 2) ?_
  refine va_sld hx hb hX hbl hbA hS (vp_in_nI (by omega) (by omega)) dL_law_947 ?_
  refine w_i (z := xs (i + 2)) (congrArg xs (nI_clamp (by omega))) ?_
  refine lv_aload_n hx hb dL_law_948 rfl (lv_at hl 0 rfl) ?_
  refine lv_iload_n hx hb dL_law_949 rfl (lv_at hl 3 rfl) ?_
  refine lv_iconst (v := 3) hx hb dL_law_950 rfl ?_
  refine lv_iadd hx hb dL_law_951 ?_
  refine w_i (z := nI (i + 3)) (nI_add i 3) ?_
  refine va_sld hx hb hX hbl hbA hS (vp_in_nI (by omega) (by omega)) dL_law_952 ?_
  refine w_i (z := xs (i + 3)) (congrArg xs (nI_clamp (by omega))) ?_
  refine lv_i2l hx hb dL_law_953 rfl ?_
  refine lv_bipush (v := 32) hx hb dL_law_954 rfl ?_
  refine lv_lshl hx hb dL_law_956 rfl ?_
  refine lv_aload_n hx hb dL_law_957 rfl (lv_at hl 0 rfl) ?_
  refine lv_iload_n hx hb dL_law_958 rfl (lv_at hl 3 rfl) ?_
  refine lv_iconst (v := 4) hx hb dL_law_959 rfl ?_
  refine lv_iadd hx hb dL_law_960 ?_
  refine w_i (z := nI (i + 4)) (nI_add i 4) ?_
  refine va_sld hx hb hX hbl hbA hS (vp_in_nI (by omega) (by omega)) dL_law_961 ?_
  refine w_i (z := xs (i + 4)) (congrArg xs (nI_clamp (by omega))) ?_
  refine lv_i2l hx hb dL_law_962 rfl ?_
  refine lv_ldc2 (v := 4294967295) hx hb hown (hts _ wq_L_117) dL_law_963 ?_
  refine lv_land hx hb dL_law_966 ?_
  refine lv_lor hx hb dL_law_967 ?_
  refine ly_V (As := [.int (xs (i + 1)), .int (xs (i + 2)), .long (((Int32.toInt64 (xs (i + 3))) <<< (Int32.toInt64 32 &&& 63)) ||| ((Int32.toInt64 (xs (i + 4))) &&& 4294967295))]) (rest := [.long (wrtR bO sO nU (xs (i + 1)) (xs (i + 2)))]) S hK hP hD hS (k_X4_write (xs (i + 1)) (xs (i + 2)) (((Int32.toInt64 (xs (i + 3))) <<< (Int32.toInt64 32 &&& 63)) ||| ((Int32.toInt64 (xs (i + 4))) &&& 4294967295)) hSh) gv_L_123 hd_X4_write ⟨Nat.le_of_ble_eq_true rfl, Nat.le_of_ble_eq_true rfl⟩ 4 rfl rfl rfl rfl hl.1 (lv_room (Nat.le_of_ble_eq_true rfl)) dL_law_968 ⟨Nat.le_of_ble_eq_true rfl, Nat.le_of_ble_eq_true rfl⟩ (fun ov w' H locs hp hP hD hS => ?_)
  obtain ⟨rfl, rfl⟩ := hp
  refine W.eq (g2 := F0 m 971 ls [.long (wrtR bO sO nU (xs (i + 1)) (xs (i + 2))), .long (wrtR bO sO nU (xs (i + 1)) (xs (i + 2)))]) rfl ?_
  refine W.lcmp hx hb dL_law_971 ?_
  refine lv_if_eq (tgt := 1214) hx hb dL_law_972 rfl (fun c9 => ?_) (fun c9 => absurd ((lg_cmp_eq _ _).mpr rfl) c9)
  exact J _ _ ⟨gG, n, _, _, _, kn, ib, d, _, _, _, _, _, _, _, _, _, _, _, _, _, _, _, _, _, _, _, hI, hh, hkp, hd, hT, hSh, hP, hD⟩ hS

set_option maxHeartbeats 4000000 in
set_option maxRecDepth 100000 in
theorem law_26 (S : CallFix p m c cL_law 4 s #[Value.ref b] WL RL) (hK : va_K D vwCl (tyA cI cJ cO) s) (hX : va_X b L xs s s.heap) (hbl : b < s.heap.size) (hbA : ¬ Ap b) (hZ : ZS kA vA oB Ap s s.heap) (hL : L ≤ 3072) (i : Nat) (hi : i + 6 ≤ L) (hI0 : LI D cI cJ cO B A Ap H) (hS : va_S Ap s.heap H locs) (hl : lv_has ls 4 [(0, .ref b), (1, .ref (B 0)), (2, .ref (A 0)), (3, .int (nI i))]) (J : ∀ (H : Heap) (locs : List Loc), LI D cI cJ cO B A Ap H → va_S Ap s.heap H locs → W p l e room_1 s m #[Value.ref b] below meth c H locs 32 1267 Q (F0 m 1214 ls [])) : W p l e room_1 s m #[Value.ref b] below meth c H locs 32 1267 Q (F0 m 977 ls []) := by
  obtain ⟨gG, n, tG, kG, kS, kn, ib, d, tp, tk, bg, en, va, tn, bO, sO, nU, fS, cW, oS, aS, cA, fm, tt, vl, wr, mV, hI, hh, hkp, hd, hT, hSh, hP, hD⟩ := hI0
  obtain ⟨hx, hb, hml, hown, hts⟩ := id S
  refine lv_aload_n hx hb dL_law_977 rfl (lv_at hl 1 rfl) ?_
  refine lv_aload_n hx hb dL_law_978 rfl (lv_at hl 0 rfl) ?_
  refine lv_iload_n hx hb dL_law_979 rfl (lv_at hl 3 rfl) ?_
  refine lv_iconst (v := 1) hx hb dL_law_980 rfl ?_
  refine lv_iadd hx hb dL_law_981 ?_
  refine w_i (z := nI (i + 1)) (nI_add i 1) ?_
  refine va_sld hx hb hX hbl hbA hS (vp_in_nI (by omega) (by omega)) dL_law_982 ?_
  refine w_i (z := xs (i + 1)) (congrArg xs (nI_clamp (by omega))) ?_
  refine lv_aload_n hx hb dL_law_983 rfl (lv_at hl 0 rfl) ?_
  refine lv_iload_n hx hb dL_law_984 rfl (lv_at hl 3 rfl) ?_
  refine lv_iconst (v := 2) hx hb dL_law_985 rfl ?_
  refine lv_iadd hx hb dL_law_986 ?_
  refine w_i (z := nI (i + 2)) (nI_add i 2) ?_
  refine va_sld hx hb hX hbl hbA hS (vp_in_nI (by omega) (by omega)) dL_law_987 ?_
  refine w_i (z := xs (i + 2)) (congrArg xs (nI_clamp (by omega))) ?_
  refine lv_aload_n hx hb dL_law_988 rfl (lv_at hl 0 rfl) ?_
  refine lv_iload_n hx hb dL_law_989 rfl (lv_at hl 3 rfl) ?_
  refine lv_iconst (v := 3) hx hb dL_law_990 rfl ?_
  refine lv_iadd hx hb dL_law_991 ?_
  refine w_i (z := nI (i + 3)) (nI_add i 3) ?_
  refine va_sld hx hb hX hbl hbA hS (vp_in_nI (by omega) (by omega)) dL_law_992 ?_
  refine w_i (z := xs (i + 3)) (congrArg xs (nI_clamp (by omega))) ?_
  refine lv_aload_n hx hb dL_law_993 rfl (lv_at hl 0 rfl) ?_
  refine lv_iload_n hx hb dL_law_994 rfl (lv_at hl 3 rfl) ?_
  refine lv_iconst (v := 4) hx hb dL_law_995 rfl ?_
  refine lv_iadd hx hb dL_law_996 ?_
  refine w_i (z := nI (i + 4)) (nI_add i 4) ?_
  refine va_sld hx hb hX hbl hbA hS (vp_in_nI (by omega) (by omega)) dL_law_997 ?_
  refine w_i (z := xs (i + 4)) (congrArg xs (nI_clamp (by omega))) ?_
  refine lv_aload_n hx hb dL_law_998 rfl (lv_at hl 0 rfl) ?_
  refine lv_iload_n hx hb dL_law_999 rfl (lv_at hl 3 rfl) ?_
  refine lv_iconst (v := 5) hx hb dL_law_1000 rfl ?_
  refine lv_iadd hx hb dL_law_1001 ?_
  refine w_i (z := nI (i + 5)) (nI_add i 5) ?_
  refine va_sld hx hb hX hbl hbA hS (vp_in_nI (by omega) (by omega)) dL_law_1002 ?_
  refine w_i (z := xs (i + 5)) (congrArg xs (nI_clamp (by omega))) ?_
  refine lx_V (As := [.int (xs (i + 1)), .int (xs (i + 2)), .int (xs (i + 3)), .int (xs (i + 4)), .int (xs (i + 5))]) (rest := []) S hK hP hD hS (k_X3_copy (xs (i + 1)) (xs (i + 2)) (xs (i + 3)) (xs (i + 4)) (xs (i + 5)) hSh) gv_L_124 hd_X3_copy ⟨Nat.le_of_ble_eq_true rfl, Nat.le_of_ble_eq_true rfl⟩ 3 rfl rfl rfl rfl hl.1 (lv_room (Nat.le_of_ble_eq_true rfl)) dL_law_1003 ⟨Nat.le_of_ble_eq_true rfl, Nat.le_of_ble_eq_true rfl⟩ (fun ov w' H locs hp hP hD hS => ?_)
  obtain ⟨rfl, rfl⟩ := hp
  refine W.eq (g2 := F0 m 1006 ls [.int (cpR (cpW bO sO (xs (i + 1)) (xs (i + 2)) (xs (i + 3)) (xs (i + 4)) (xs (i + 5))) (xs (i + 5)))]) rfl ?_
  refine lv_aload_n hx hb dL_law_1006 rfl (lv_at hl 2 rfl) ?_
  refine lv_aload_n hx hb dL_law_1007 rfl (lv_at hl 0 rfl) ?_
  refine lv_iload_n hx hb dL_law_1008 rfl (lv_at hl 3 rfl) ?_
  refine lv_iconst (v := 1) hx hb dL_law_1009 rfl ?_
  refine lv_iadd hx hb dL_law_1010 ?_
  refine w_i (z := nI (i + 1)) (nI_add i 1) ?_
  refine va_sld hx hb hX hbl hbA hS (vp_in_nI (by omega) (by omega)) dL_law_1011 ?_
  refine w_i (z := xs (i + 1)) (congrArg xs (nI_clamp (by omega))) ?_
  refine lv_aload_n hx hb dL_law_1012 rfl (lv_at hl 0 rfl) ?_
  refine lv_iload_n hx hb dL_law_1013 rfl (lv_at hl 3 rfl) ?_
  refine lv_iconst (v := 2) hx hb dL_law_1014 rfl ?_
  refine lv_iadd hx hb dL_law_1015 ?_
  refine w_i (z := nI (i + 2)) (nI_add i 2) ?_
  refine va_sld hx hb hX hbl hbA hS (vp_in_nI (by omega) (by omega)) dL_law_1016 ?_
  refine w_i (z := xs (i + 2)) (congrArg xs (nI_clamp (by omega))) ?_
  refine lv_aload_n hx hb dL_law_1017 rfl (lv_at hl 0 rfl) ?_
  refine lv_iload_n hx hb dL_law_1018 rfl (lv_at hl 3 rfl) ?_
  refine lv_iconst (v := 3) hx hb dL_law_1019 rfl ?_
  refine lv_iadd hx hb dL_law_1020 ?_
  refine w_i (z := nI (i + 3)) (nI_add i 3) ?_
  refine va_sld hx hb hX hbl hbA hS (vp_in_nI (by omega) (by omega)) dL_law_1021 ?_
  refine w_i (z := xs (i + 3)) (congrArg xs (nI_clamp (by omega))) ?_
  refine lv_aload_n hx hb dL_law_1022 rfl (lv_at hl 0 rfl) ?_
  refine lv_iload_n hx hb dL_law_1023 rfl (lv_at hl 3 rfl) ?_
  refine lv_iconst (v := 4) hx hb dL_law_1024 rfl ?_
  refine lv_iadd hx hb dL_law_1025 ?_
  refine w_i (z := nI (i + 4)) (nI_add i 4) ?_
  refine va_sld hx hb hX hbl hbA hS (vp_in_nI (by omega) (by omega)) dL_law_1026 ?_
  refine w_i (z := xs (i + 4)) (congrArg xs (nI_clamp (by omega))) ?_
  refine lv_aload_n hx hb dL_law_1027 rfl (lv_at hl 0 rfl) ?_
  refine lv_iload_n hx hb dL_law_1028 rfl (lv_at hl 3 rfl) ?_
  refine lv_iconst (v := 5) hx hb dL_law_1029 rfl ?_
  refine lv_iadd hx hb dL_law_1030 ?_
  refine w_i (z := nI (i + 5)) (nI_add i 5) ?_
  refine va_sld hx hb hX hbl hbA hS (vp_in_nI (by omega) (by omega)) dL_law_1031 ?_
  refine w_i (z := xs (i + 5)) (congrArg xs (nI_clamp (by omega))) ?_
  refine ly_V (As := [.int (xs (i + 1)), .int (xs (i + 2)), .int (xs (i + 3)), .int (xs (i + 4)), .int (xs (i + 5))]) (rest := [.int (cpR (cpW bO sO (xs (i + 1)) (xs (i + 2)) (xs (i + 3)) (xs (i + 4)) (xs (i + 5))) (xs (i + 5)))]) S hK hP hD hS (k_X4_copy (xs (i + 1)) (xs (i + 2)) (xs (i + 3)) (xs (i + 4)) (xs (i + 5)) hSh) gv_L_128 hd_X4_copy ⟨Nat.le_of_ble_eq_true rfl, Nat.le_of_ble_eq_true rfl⟩ 4 rfl rfl rfl rfl hl.1 (lv_room (Nat.le_of_ble_eq_true rfl)) dL_law_1032 ⟨Nat.le_of_ble_eq_true rfl, Nat.le_of_ble_eq_true rfl⟩ (fun ov w' H locs hp hP hD hS => ?_)
  obtain ⟨mV1, rfl, rfl⟩ := hp
  refine W.eq (g2 := F0 m 1035 ls [.int (cpR (cpW bO sO (xs (i + 1)) (xs (i + 2)) (xs (i + 3)) (xs (i + 4)) (xs (i + 5))) (xs (i + 5))), .int (cpR (cpW bO sO (xs (i + 1)) (xs (i + 2)) (xs (i + 3)) (xs (i + 4)) (xs (i + 5))) (xs (i + 5)))]) rfl ?_
  refine lv_icmp_eq (tgt := 1214) hx hb dL_law_1035 rfl (fun c9 => ?_) (fun c9 => absurd rfl c9)
  exact J _ _ ⟨gG, n, _, _, _, kn, ib, d, _, _, _, _, _, _, _, _, _, _, _, _, _, _, _, _, _, _, _, hI, hh, hkp, hd, hT, hSh, hP, hD⟩ hS

set_option maxHeartbeats 4000000 in
set_option maxRecDepth 100000 in
theorem law_27 (S : CallFix p m c cL_law 4 s #[Value.ref b] WL RL) (hK : va_K D vwCl (tyA cI cJ cO) s) (hX : va_X b L xs s s.heap) (hbl : b < s.heap.size) (hbA : ¬ Ap b) (hZ : ZS kA vA oB Ap s s.heap) (hL : L ≤ 3072) (i : Nat) (hi : i + 6 ≤ L) (hI0 : LI D cI cJ cO B A Ap H) (hS : va_S Ap s.heap H locs) (hl : lv_has ls 4 [(0, .ref b), (1, .ref (B 0)), (2, .ref (A 0)), (3, .int (nI i))]) (J : ∀ (H : Heap) (locs : List Loc), LI D cI cJ cO B A Ap H → va_S Ap s.heap H locs → W p l e room_1 s m #[Value.ref b] below meth c H locs 32 1267 Q (F0 m 1214 ls [])) : W p l e room_1 s m #[Value.ref b] below meth c H locs 32 1267 Q (F0 m 1040 ls []) := by
  obtain ⟨gG, n, tG, kG, kS, kn, ib, d, tp, tk, bg, en, va, tn, bO, sO, nU, fS, cW, oS, aS, cA, fm, tt, vl, wr, mV, hI, hh, hkp, hd, hT, hSh, hP, hD⟩ := hI0
  obtain ⟨hx, hb, hml, hown, hts⟩ := id S
  refine lv_aload_n hx hb dL_law_1040 rfl (lv_at hl 1 rfl) ?_
  refine lv_aload_n hx hb dL_law_1041 rfl (lv_at hl 0 rfl) ?_
  refine lv_iload_n hx hb dL_law_1042 rfl (lv_at hl 3 rfl) ?_
  refine lv_iconst (v := 1) hx hb dL_law_1043 rfl ?_
  refine lv_iadd hx hb dL_law_1044 ?_
  refine w_i (z := nI (i + 1)) (nI_add i 1) ?_
  refine va_sld hx hb hX hbl hbA hS (vp_in_nI (by omega) (by omega)) dL_law_1045 ?_
  refine w_i (z := xs (i + 1)) (congrArg xs (nI_clamp (by omega))) ?_
  refine lx_V (As := [.int (xs (i + 1))]) (rest := []) S hK hP hD hS (k_X3_lays n (xs (i + 1)) hI hSh) gv_L_129 hd_X3_lays ⟨Nat.le_of_ble_eq_true rfl, Nat.le_of_ble_eq_true rfl⟩ 3 rfl rfl rfl rfl hl.1 (lv_room (Nat.le_of_ble_eq_true rfl)) dL_law_1046 ⟨Nat.le_of_ble_eq_true rfl, Nat.le_of_ble_eq_true rfl⟩ (fun ov w' H locs hp hP hD hS => ?_)
  obtain ⟨rfl, rfl⟩ := hp
  refine W.eq (g2 := F0 m 1049 ls [.int (layR bO sO nU n (xs (i + 1)))]) rfl ?_
  refine lv_aload_n hx hb dL_law_1049 rfl (lv_at hl 2 rfl) ?_
  refine lv_aload_n hx hb dL_law_1050 rfl (lv_at hl 0 rfl) ?_
  refine lv_iload_n hx hb dL_law_1051 rfl (lv_at hl 3 rfl) ?_
  refine lv_iconst (v := 1) hx hb dL_law_1052 rfl ?_
  refine lv_iadd hx hb dL_law_1053 ?_
  refine w_i (z := nI (i + 1)) (nI_add i 1) ?_
  refine va_sld hx hb hX hbl hbA hS (vp_in_nI (by omega) (by omega)) dL_law_1054 ?_
  refine w_i (z := xs (i + 1)) (congrArg xs (nI_clamp (by omega))) ?_
  refine ly_V (As := [.int (xs (i + 1))]) (rest := [.int (layR bO sO nU n (xs (i + 1)))]) S hK hP hD hS (k_X4_lays n (xs (i + 1)) hI hSh) gv_L_132 hd_X4_lays ⟨Nat.le_of_ble_eq_true rfl, Nat.le_of_ble_eq_true rfl⟩ 4 rfl rfl rfl rfl hl.1 (lv_room (Nat.le_of_ble_eq_true rfl)) dL_law_1055 ⟨Nat.le_of_ble_eq_true rfl, Nat.le_of_ble_eq_true rfl⟩ (fun ov w' H locs hp hP hD hS => ?_)
  obtain ⟨rfl, rfl⟩ := hp
  refine W.eq (g2 := F0 m 1058 ls [.int (layR bO sO nU n (xs (i + 1))), .int (layR bO sO nU n (xs (i + 1)))]) rfl ?_
  refine lv_icmp_eq (tgt := 1214) hx hb dL_law_1058 rfl (fun c9 => ?_) (fun c9 => absurd rfl c9)
  exact J _ _ ⟨layS gG bO sO nU n (xs (i + 1)), n, _, _, _, kn, ib, d, _, _, _, _, _, _, _, _, _, _, _, _, _, _, _, _, _, _, _, Inv_lays hI, by rw [lays_0]; exact hh, hkp, hd, hT, hSh, hP, hD⟩ hS

set_option maxHeartbeats 4000000 in
set_option maxRecDepth 100000 in
theorem law_28 (S : CallFix p m c cL_law 4 s #[Value.ref b] WL RL) (hK : va_K D vwCl (tyA cI cJ cO) s) (hX : va_X b L xs s s.heap) (hbl : b < s.heap.size) (hbA : ¬ Ap b) (hZ : ZS kA vA oB Ap s s.heap) (hL : L ≤ 3072) (i : Nat) (hi : i + 6 ≤ L) (hI0 : LI D cI cJ cO B A Ap H) (hS : va_S Ap s.heap H locs) (hl : lv_has ls 4 [(0, .ref b), (1, .ref (B 0)), (2, .ref (A 0)), (3, .int (nI i))]) (J : ∀ (H : Heap) (locs : List Loc), LI D cI cJ cO B A Ap H → va_S Ap s.heap H locs → W p l e room_1 s m #[Value.ref b] below meth c H locs 32 1267 Q (F0 m 1214 ls [])) : W p l e room_1 s m #[Value.ref b] below meth c H locs 32 1267 Q (F0 m 1063 ls []) := by
  obtain ⟨gG, n, tG, kG, kS, kn, ib, d, tp, tk, bg, en, va, tn, bO, sO, nU, fS, cW, oS, aS, cA, fm, tt, vl, wr, mV, hI, hh, hkp, hd, hT, hSh, hP, hD⟩ := hI0
  obtain ⟨hx, hb, hml, hown, hts⟩ := id S
  refine lv_aload_n hx hb dL_law_1063 rfl (lv_at hl 1 rfl) ?_
  refine lv_aload_n hx hb dL_law_1064 rfl (lv_at hl 0 rfl) ?_
  refine lv_iload_n hx hb dL_law_1065 rfl (lv_at hl 3 rfl) ?_
  refine lv_iconst (v := 1) hx hb dL_law_1066 rfl ?_
  refine lv_iadd hx hb dL_law_1067 ?_
  refine w_i (z := nI (i + 1)) (nI_add i 1) ?_
  refine va_sld hx hb hX hbl hbA hS (vp_in_nI (by omega) (by omega)) dL_law_1068 ?_
  refine w_i (z := xs (i + 1)) (congrArg xs (nI_clamp (by omega))) ?_
  refine lv_aload_n hx hb dL_law_1069 rfl (lv_at hl 0 rfl) ?_
  refine lv_iload_n hx hb dL_law_1070 rfl (lv_at hl 3 rfl) ?_
  refine lv_iconst (v := 2) hx hb dL_law_1071 rfl ?_
  refine lv_iadd hx hb dL_law_1072 ?_
  refine w_i (z := nI (i + 2)) (nI_add i 2) ?_
  refine va_sld hx hb hX hbl hbA hS (vp_in_nI (by omega) (by omega)) dL_law_1073 ?_
  refine w_i (z := xs (i + 2)) (congrArg xs (nI_clamp (by omega))) ?_
  refine lx_V (As := [.int (xs (i + 1)), .int (xs (i + 2))]) (rest := []) S hK hP hD hS (k_X3_book n (xs (i + 1)) (xs (i + 2)) hI (rng_w hh (by decide)) hSh) gv_L_133 hd_X3_book ⟨Nat.le_of_ble_eq_true rfl, Nat.le_of_ble_eq_true rfl⟩ 3 rfl rfl rfl rfl hl.1 (lv_room (Nat.le_of_ble_eq_true rfl)) dL_law_1074 ⟨Nat.le_of_ble_eq_true rfl, Nat.le_of_ble_eq_true rfl⟩ (fun ov w' H locs hp hP hD hS => ?_)
  obtain ⟨tG1, rfl, rfl⟩ := hp
  refine W.eq (g2 := F0 m 1077 ls [.int (bokR bO sO n (xs (i + 1)) (xs (i + 2)))]) rfl ?_
  refine lv_aload_n hx hb dL_law_1077 rfl (lv_at hl 2 rfl) ?_
  refine lv_aload_n hx hb dL_law_1078 rfl (lv_at hl 0 rfl) ?_
  refine lv_iload_n hx hb dL_law_1079 rfl (lv_at hl 3 rfl) ?_
  refine lv_iconst (v := 1) hx hb dL_law_1080 rfl ?_
  refine lv_iadd hx hb dL_law_1081 ?_
  refine w_i (z := nI (i + 1)) (nI_add i 1) ?_
  refine va_sld hx hb hX hbl hbA hS (vp_in_nI (by omega) (by omega)) dL_law_1082 ?_
  refine w_i (z := xs (i + 1)) (congrArg xs (nI_clamp (by omega))) ?_
  refine lv_aload_n hx hb dL_law_1083 rfl (lv_at hl 0 rfl) ?_
  refine lv_iload_n hx hb dL_law_1084 rfl (lv_at hl 3 rfl) ?_
  refine lv_iconst (v := 2) hx hb dL_law_1085 rfl ?_
  refine lv_iadd hx hb dL_law_1086 ?_
  refine w_i (z := nI (i + 2)) (nI_add i 2) ?_
  refine va_sld hx hb hX hbl hbA hS (vp_in_nI (by omega) (by omega)) dL_law_1087 ?_
  refine w_i (z := xs (i + 2)) (congrArg xs (nI_clamp (by omega))) ?_
  refine ly_V (As := [.int (xs (i + 1)), .int (xs (i + 2))]) (rest := [.int (bokR bO sO n (xs (i + 1)) (xs (i + 2)))]) S hK hP hD hS (k_X4_book n (xs (i + 1)) (xs (i + 2)) hI hSh) gv_L_136 hd_X4_book ⟨Nat.le_of_ble_eq_true rfl, Nat.le_of_ble_eq_true rfl⟩ 4 rfl rfl rfl rfl hl.1 (lv_room (Nat.le_of_ble_eq_true rfl)) dL_law_1088 ⟨Nat.le_of_ble_eq_true rfl, Nat.le_of_ble_eq_true rfl⟩ (fun ov w' H locs hp hP hD hS => ?_)
  obtain ⟨aS1, rfl, rfl⟩ := hp
  refine W.eq (g2 := F0 m 1091 ls [.int (bokR bO sO n (xs (i + 1)) (xs (i + 2))), .int (bokR bO sO n (xs (i + 1)) (xs (i + 2)))]) rfl ?_
  refine lv_icmp_eq (tgt := 1214) hx hb dL_law_1091 rfl (fun c9 => ?_) (fun c9 => absurd rfl c9)
  exact J _ _ ⟨gG, n, _, _, _, kn, ib, d, _, _, _, _, _, _, _, _, _, _, _, _, _, _, _, _, _, _, _, hI, hh, hkp, hd, hT, hSh, hP, hD⟩ hS

set_option maxHeartbeats 4000000 in
set_option maxRecDepth 100000 in
theorem law_29 (S : CallFix p m c cL_law 4 s #[Value.ref b] WL RL) (hK : va_K D vwCl (tyA cI cJ cO) s) (hX : va_X b L xs s s.heap) (hbl : b < s.heap.size) (hbA : ¬ Ap b) (hZ : ZS kA vA oB Ap s s.heap) (hL : L ≤ 3072) (i : Nat) (hi : i + 6 ≤ L) (hI0 : LI D cI cJ cO B A Ap H) (hS : va_S Ap s.heap H locs) (hl : lv_has ls 4 [(0, .ref b), (1, .ref (B 0)), (2, .ref (A 0)), (3, .int (nI i))]) (J : ∀ (H : Heap) (locs : List Loc), LI D cI cJ cO B A Ap H → va_S Ap s.heap H locs → W p l e room_1 s m #[Value.ref b] below meth c H locs 32 1267 Q (F0 m 1214 ls [])) : W p l e room_1 s m #[Value.ref b] below meth c H locs 32 1267 Q (F0 m 1096 ls []) := by
  obtain ⟨gG, n, tG, kG, kS, kn, ib, d, tp, tk, bg, en, va, tn, bO, sO, nU, fS, cW, oS, aS, cA, fm, tt, vl, wr, mV, hI, hh, hkp, hd, hT, hSh, hP, hD⟩ := hI0
  obtain ⟨hx, hb, hml, hown, hts⟩ := id S
  refine lv_aload_n hx hb dL_law_1096 rfl (lv_at hl 1 rfl) ?_
  refine lv_aload_n hx hb dL_law_1097 rfl (lv_at hl 0 rfl) ?_
  refine lv_iload_n hx hb dL_law_1098 rfl (lv_at hl 3 rfl) ?_
  refine lv_iconst (v := 1) hx hb dL_law_1099 rfl ?_
  refine lv_iadd hx hb dL_law_1100 ?_
  refine w_i (z := nI (i + 1)) (nI_add i 1) ?_
  refine va_sld hx hb hX hbl hbA hS (vp_in_nI (by omega) (by omega)) dL_law_1101 ?_
  refine w_i (z := xs (i + 1)) (congrArg xs (nI_clamp (by omega))) ?_
  refine lv_aload_n hx hb dL_law_1102 rfl (lv_at hl 0 rfl) ?_
  refine lv_iload_n hx hb dL_law_1103 rfl (lv_at hl 3 rfl) ?_
  refine lv_iconst (v := 2) hx hb dL_law_1104 rfl ?_
  refine lv_iadd hx hb dL_law_1105 ?_
  refine w_i (z := nI (i + 2)) (nI_add i 2) ?_
  refine va_sld hx hb hX hbl hbA hS (vp_in_nI (by omega) (by omega)) dL_law_1106 ?_
  refine w_i (z := xs (i + 2)) (congrArg xs (nI_clamp (by omega))) ?_
  refine lx_V (As := [.int (xs (i + 1)), .int (xs (i + 2))]) (rest := []) S hK hP hD hS (k_X3_read n (xs (i + 1)) (xs (i + 2)) hI (rng_w hh (by decide)) hSh) gv_L_137 hd_X3_read ⟨Nat.le_of_ble_eq_true rfl, Nat.le_of_ble_eq_true rfl⟩ 3 rfl rfl rfl rfl hl.1 (lv_room (Nat.le_of_ble_eq_true rfl)) dL_law_1107 ⟨Nat.le_of_ble_eq_true rfl, Nat.le_of_ble_eq_true rfl⟩ (fun ov w' H locs hp hP hD hS => ?_)
  obtain ⟨tG1, rfl, rfl⟩ := hp
  refine W.eq (g2 := F0 m 1110 ls [.int (rdR gG bO sO nU n (xs (i + 1)) (xs (i + 2)))]) rfl ?_
  refine lv_aload_n hx hb dL_law_1110 rfl (lv_at hl 2 rfl) ?_
  refine lv_aload_n hx hb dL_law_1111 rfl (lv_at hl 0 rfl) ?_
  refine lv_iload_n hx hb dL_law_1112 rfl (lv_at hl 3 rfl) ?_
  refine lv_iconst (v := 1) hx hb dL_law_1113 rfl ?_
  refine lv_iadd hx hb dL_law_1114 ?_
  refine w_i (z := nI (i + 1)) (nI_add i 1) ?_
  refine va_sld hx hb hX hbl hbA hS (vp_in_nI (by omega) (by omega)) dL_law_1115 ?_
  refine w_i (z := xs (i + 1)) (congrArg xs (nI_clamp (by omega))) ?_
  refine lv_aload_n hx hb dL_law_1116 rfl (lv_at hl 0 rfl) ?_
  refine lv_iload_n hx hb dL_law_1117 rfl (lv_at hl 3 rfl) ?_
  refine lv_iconst (v := 2) hx hb dL_law_1118 rfl ?_
  refine lv_iadd hx hb dL_law_1119 ?_
  refine w_i (z := nI (i + 2)) (nI_add i 2) ?_
  refine va_sld hx hb hX hbl hbA hS (vp_in_nI (by omega) (by omega)) dL_law_1120 ?_
  refine w_i (z := xs (i + 2)) (congrArg xs (nI_clamp (by omega))) ?_
  refine ly_V (As := [.int (xs (i + 1)), .int (xs (i + 2))]) (rest := [.int (rdR gG bO sO nU n (xs (i + 1)) (xs (i + 2)))]) S hK hP hD hS (k_X4_read n (xs (i + 1)) (xs (i + 2)) hI hSh) gv_L_140 hd_X4_read ⟨Nat.le_of_ble_eq_true rfl, Nat.le_of_ble_eq_true rfl⟩ 4 rfl rfl rfl rfl hl.1 (lv_room (Nat.le_of_ble_eq_true rfl)) dL_law_1121 ⟨Nat.le_of_ble_eq_true rfl, Nat.le_of_ble_eq_true rfl⟩ (fun ov w' H locs hp hP hD hS => ?_)
  obtain ⟨aS1, rfl, rfl⟩ := hp
  refine W.eq (g2 := F0 m 1124 ls [.int (rdR gG bO sO nU n (xs (i + 1)) (xs (i + 2))), .int (rdR gG bO sO nU n (xs (i + 1)) (xs (i + 2)))]) rfl ?_
  refine lv_icmp_eq (tgt := 1214) hx hb dL_law_1124 rfl (fun c9 => ?_) (fun c9 => absurd rfl c9)
  exact J _ _ ⟨gG, n, _, _, _, kn, ib, d, _, _, _, _, _, _, _, _, _, _, _, _, _, _, _, _, _, _, _, hI, hh, hkp, hd, hT, hSh, hP, hD⟩ hS

set_option maxHeartbeats 4000000 in
set_option maxRecDepth 100000 in
theorem law_30 (S : CallFix p m c cL_law 4 s #[Value.ref b] WL RL) (hK : va_K D vwCl (tyA cI cJ cO) s) (hX : va_X b L xs s s.heap) (hbl : b < s.heap.size) (hbA : ¬ Ap b) (hZ : ZS kA vA oB Ap s s.heap) (hL : L ≤ 3072) (i : Nat) (hi : i + 6 ≤ L) (hI0 : LI D cI cJ cO B A Ap H) (hS : va_S Ap s.heap H locs) (hl : lv_has ls 4 [(0, .ref b), (1, .ref (B 0)), (2, .ref (A 0)), (3, .int (nI i))]) (J : ∀ (H : Heap) (locs : List Loc), LI D cI cJ cO B A Ap H → va_S Ap s.heap H locs → W p l e room_1 s m #[Value.ref b] below meth c H locs 32 1267 Q (F0 m 1214 ls [])) : W p l e room_1 s m #[Value.ref b] below meth c H locs 32 1267 Q (F0 m 1129 ls []) := by
  obtain ⟨gG, n, tG, kG, kS, kn, ib, d, tp, tk, bg, en, va, tn, bO, sO, nU, fS, cW, oS, aS, cA, fm, tt, vl, wr, mV, hI, hh, hkp, hd, hT, hSh, hP, hD⟩ := hI0
  obtain ⟨hx, hb, hml, hown, hts⟩ := id S
  refine lv_aload_n hx hb dL_law_1129 rfl (lv_at hl 1 rfl) ?_
  refine lx_V (As := []) (rest := []) S hK hP hD hS (k_X3_image ) gv_L_141 hd_X3_image ⟨Nat.le_of_ble_eq_true rfl, Nat.le_of_ble_eq_true rfl⟩ 3 rfl rfl rfl rfl hl.1 (lv_room (Nat.le_of_ble_eq_true rfl)) dL_law_1130 ⟨Nat.le_of_ble_eq_true rfl, Nat.le_of_ble_eq_true rfl⟩ (fun ov w' H locs hp hP hD hS => ?_)
  obtain ⟨rfl, rfl⟩ := hp
  refine W.eq (g2 := F0 m 1133 ls [.int 1]) rfl ?_
  refine lv_aload_n hx hb dL_law_1133 rfl (lv_at hl 2 rfl) ?_
  refine ly_V (As := []) (rest := [.int 1]) S hK hP hD hS (k_X4_image ) gv_L_144 hd_X4_image ⟨Nat.le_of_ble_eq_true rfl, Nat.le_of_ble_eq_true rfl⟩ 4 rfl rfl rfl rfl hl.1 (lv_room (Nat.le_of_ble_eq_true rfl)) dL_law_1134 ⟨Nat.le_of_ble_eq_true rfl, Nat.le_of_ble_eq_true rfl⟩ (fun ov w' H locs hp hP hD hS => ?_)
  obtain ⟨rfl, rfl⟩ := hp
  refine W.eq (g2 := F0 m 1137 ls [.int 1, .int 1]) rfl ?_
  refine lv_icmp_eq (tgt := 1214) hx hb dL_law_1137 rfl (fun c9 => ?_) (fun c9 => absurd rfl c9)
  exact J _ _ ⟨gG, n, _, _, _, n, true, d, _, _, _, _, _, _, _, _, _, _, _, _, _, _, _, _, _, _, _, hI, hh, fun _ => ⟨rfl, hI, hh⟩, hd, hT, hSh, hP, hD⟩ hS

set_option maxHeartbeats 4000000 in
set_option maxRecDepth 100000 in
theorem law_31 (S : CallFix p m c cL_law 4 s #[Value.ref b] WL RL) (hK : va_K D vwCl (tyA cI cJ cO) s) (hX : va_X b L xs s s.heap) (hbl : b < s.heap.size) (hbA : ¬ Ap b) (hZ : ZS kA vA oB Ap s s.heap) (hL : L ≤ 3072) (i : Nat) (hi : i + 6 ≤ L) (hI0 : LI D cI cJ cO B A Ap H) (hS : va_S Ap s.heap H locs) (hl : lv_has ls 4 [(0, .ref b), (1, .ref (B 0)), (2, .ref (A 0)), (3, .int (nI i))]) (J : ∀ (H : Heap) (locs : List Loc), LI D cI cJ cO B A Ap H → va_S Ap s.heap H locs → W p l e room_1 s m #[Value.ref b] below meth c H locs 32 1267 Q (F0 m 1214 ls [])) : W p l e room_1 s m #[Value.ref b] below meth c H locs 32 1267 Q (F0 m 1142 ls []) := by
  obtain ⟨gG, n, tG, kG, kS, kn, ib, d, tp, tk, bg, en, va, tn, bO, sO, nU, fS, cW, oS, aS, cA, fm, tt, vl, wr, mV, hI, hh, hkp, hd, hT, hSh, hP, hD⟩ := hI0
  obtain ⟨hx, hb, hml, hown, hts⟩ := id S
  cases ib with
  | false =>
    refine lv_aload_n hx hb dL_law_1142 rfl (lv_at hl 1 rfl) ?_
    refine lx_V (As := []) (rest := []) S hK hP hD hS (k_X3_undo false) gv_L_145 hd_X3_undo ⟨Nat.le_of_ble_eq_true rfl, Nat.le_of_ble_eq_true rfl⟩ 3 rfl rfl rfl rfl hl.1 (lv_room (Nat.le_of_ble_eq_true rfl)) dL_law_1143 ⟨Nat.le_of_ble_eq_true rfl, Nat.le_of_ble_eq_true rfl⟩ (fun ov w' H locs hp hP hD hS => ?_)
    obtain ⟨rfl, rfl⟩ := hp
    refine W.eq (g2 := F0 m 1146 ls [.int (undoR kG false)]) rfl ?_
    refine lv_aload_n hx hb dL_law_1146 rfl (lv_at hl 2 rfl) ?_
    refine ly_V (As := []) (rest := [.int (undoR kG false)]) S hK hP hD hS (k_X4_undo false) gv_L_148 hd_X4_undo ⟨Nat.le_of_ble_eq_true rfl, Nat.le_of_ble_eq_true rfl⟩ 4 rfl rfl rfl rfl hl.1 (lv_room (Nat.le_of_ble_eq_true rfl)) dL_law_1147 ⟨Nat.le_of_ble_eq_true rfl, Nat.le_of_ble_eq_true rfl⟩ (fun ov w' H locs hp hP hD hS => ?_)
    obtain ⟨rfl, rfl⟩ := hp
    refine W.eq (g2 := F0 m 1150 ls [.int (undoR kS false), .int (undoR kG false)]) rfl ?_
    refine lv_icmp_eq (tgt := 1214) hx hb dL_law_1150 rfl (fun c9 => ?_) (fun c9 => absurd rfl c9)
    exact J _ _ ⟨gG, n, _, _, _, kn, false, d, _, _, _, _, _, _, _, _, _, _, _, _, _, _, _, _, _, _, _, hI, hh, fun h9 => absurd h9 (by decide), hd, hT, hSh, hP, hD⟩ hS
  | true =>
    obtain ⟨rfl, hIk, hhk⟩ := hkp rfl
    refine lv_aload_n hx hb dL_law_1142 rfl (lv_at hl 1 rfl) ?_
    refine lx_V (As := []) (rest := []) S hK hP hD hS (k_X3_undo true) gv_L_145 hd_X3_undo ⟨Nat.le_of_ble_eq_true rfl, Nat.le_of_ble_eq_true rfl⟩ 3 rfl rfl rfl rfl hl.1 (lv_room (Nat.le_of_ble_eq_true rfl)) dL_law_1143 ⟨Nat.le_of_ble_eq_true rfl, Nat.le_of_ble_eq_true rfl⟩ (fun ov w' H locs hp hP hD hS => ?_)
    obtain ⟨rfl, rfl⟩ := hp
    refine W.eq (g2 := F0 m 1146 ls [.int (undoR kS true)]) rfl ?_
    refine lv_aload_n hx hb dL_law_1146 rfl (lv_at hl 2 rfl) ?_
    refine ly_V (As := []) (rest := [.int (undoR kS true)]) S hK hP hD hS (k_X4_undo true) gv_L_148 hd_X4_undo ⟨Nat.le_of_ble_eq_true rfl, Nat.le_of_ble_eq_true rfl⟩ 4 rfl rfl rfl rfl hl.1 (lv_room (Nat.le_of_ble_eq_true rfl)) dL_law_1147 ⟨Nat.le_of_ble_eq_true rfl, Nat.le_of_ble_eq_true rfl⟩ (fun ov w' H locs hp hP hD hS => ?_)
    obtain ⟨rfl, rfl⟩ := hp
    refine W.eq (g2 := F0 m 1150 ls [.int (undoR kS true), .int (undoR kS true)]) rfl ?_
    refine lv_icmp_eq (tgt := 1214) hx hb dL_law_1150 rfl (fun c9 => ?_) (fun c9 => absurd rfl c9)
    exact J _ _ ⟨kS, kn, _, _, _, kn, true, d, _, _, _, _, _, _, _, _, _, _, _, _, _, _, _, _, _, _, _, hIk, hhk, fun _ => ⟨rfl, hIk, hhk⟩, hd, hT, hSh, hP, hD⟩ hS

set_option maxHeartbeats 4000000 in
set_option maxRecDepth 100000 in
theorem law_32 (S : CallFix p m c cL_law 4 s #[Value.ref b] WL RL) (hK : va_K D vwCl (tyA cI cJ cO) s) (hX : va_X b L xs s s.heap) (hbl : b < s.heap.size) (hbA : ¬ Ap b) (hZ : ZS kA vA oB Ap s s.heap) (hL : L ≤ 3072) (i : Nat) (hi : i + 6 ≤ L) (hI0 : LI D cI cJ cO B A Ap H) (hS : va_S Ap s.heap H locs) (hl : lv_has ls 4 [(0, .ref b), (1, .ref (B 0)), (2, .ref (A 0)), (3, .int (nI i))]) (J : ∀ (H : Heap) (locs : List Loc), LI D cI cJ cO B A Ap H → va_S Ap s.heap H locs → W p l e room_1 s m #[Value.ref b] below meth c H locs 32 1267 Q (F0 m 1214 ls [])) : W p l e room_1 s m #[Value.ref b] below meth c H locs 32 1267 Q (F0 m 1155 ls []) := by
  obtain ⟨gG, n, tG, kG, kS, kn, ib, d, tp, tk, bg, en, va, tn, bO, sO, nU, fS, cW, oS, aS, cA, fm, tt, vl, wr, mV, hI, hh, hkp, hd, hT, hSh, hP, hD⟩ := hI0
  obtain ⟨hx, hb, hml, hown, hts⟩ := id S
  refine lv_aload_n hx hb dL_law_1155 rfl (lv_at hl 1 rfl) ?_
  refine lx_V (As := []) (rest := []) S hK hP hD hS (k_X3_tear ib) gv_L_149 hd_X3_tear ⟨Nat.le_of_ble_eq_true rfl, Nat.le_of_ble_eq_true rfl⟩ 3 rfl rfl rfl rfl hl.1 (lv_room (Nat.le_of_ble_eq_true rfl)) dL_law_1156 ⟨Nat.le_of_ble_eq_true rfl, Nat.le_of_ble_eq_true rfl⟩ (fun ov w' H locs hp hP hD hS => ?_)
  obtain ⟨rfl, rfl⟩ := hp
  refine W.eq (g2 := F0 m 1159 ls [.int (b2i ib)]) rfl ?_
  refine lv_aload_n hx hb dL_law_1159 rfl (lv_at hl 2 rfl) ?_
  refine ly_V (As := []) (rest := [.int (b2i ib)]) S hK hP hD hS (k_X4_tear ib) gv_L_152 hd_X4_tear ⟨Nat.le_of_ble_eq_true rfl, Nat.le_of_ble_eq_true rfl⟩ 4 rfl rfl rfl rfl hl.1 (lv_room (Nat.le_of_ble_eq_true rfl)) dL_law_1160 ⟨Nat.le_of_ble_eq_true rfl, Nat.le_of_ble_eq_true rfl⟩ (fun ov w' H locs hp hP hD hS => ?_)
  obtain ⟨rfl, rfl⟩ := hp
  refine W.eq (g2 := F0 m 1163 ls [.int (b2i ib), .int (b2i ib)]) rfl ?_
  refine lv_icmp_eq (tgt := 1214) hx hb dL_law_1163 rfl (fun c9 => ?_) (fun c9 => absurd rfl c9)
  exact J _ _ ⟨gG, n, _, _, _, kn, false, d, _, _, _, _, _, _, _, _, _, _, _, _, _, _, _, _, _, _, _, hI, hh, fun h9 => absurd h9 (by decide), hd, hT, hSh, hP, hD⟩ hS

set_option maxHeartbeats 4000000 in
set_option maxRecDepth 100000 in
theorem law_33 (S : CallFix p m c cL_law 4 s #[Value.ref b] WL RL) (hK : va_K D vwCl (tyA cI cJ cO) s) (hX : va_X b L xs s s.heap) (hbl : b < s.heap.size) (hbA : ¬ Ap b) (hZ : ZS kA vA oB Ap s s.heap) (hL : L ≤ 3072) (i : Nat) (hi : i + 6 ≤ L) (hI0 : LI D cI cJ cO B A Ap H) (hS : va_S Ap s.heap H locs) (hl : lv_has ls 4 [(0, .ref b), (1, .ref (B 0)), (2, .ref (A 0)), (3, .int (nI i))]) (J : ∀ (H : Heap) (locs : List Loc), LI D cI cJ cO B A Ap H → va_S Ap s.heap H locs → W p l e room_1 s m #[Value.ref b] below meth c H locs 32 1267 Q (F0 m 1214 ls [])) : W p l e room_1 s m #[Value.ref b] below meth c H locs 32 1267 Q (F0 m 1168 ls []) := by
  obtain ⟨gG, n, tG, kG, kS, kn, ib, d, tp, tk, bg, en, va, tn, bO, sO, nU, fS, cW, oS, aS, cA, fm, tt, vl, wr, mV, hI, hh, hkp, hd, hT, hSh, hP, hD⟩ := hI0
  obtain ⟨hx, hb, hml, hown, hts⟩ := id S
  refine lv_aload_n hx hb dL_law_1168 rfl (lv_at hl 1 rfl) ?_
  refine lv_aload_n hx hb dL_law_1169 rfl (lv_at hl 0 rfl) ?_
  refine lv_iload_n hx hb dL_law_1170 rfl (lv_at hl 3 rfl) ?_
  refine lv_iconst (v := 1) hx hb dL_law_1171 rfl ?_
  refine lv_iadd hx hb dL_law_1172 ?_
  refine w_i (z := nI (i + 1)) (nI_add i 1) ?_
  refine va_sld hx hb hX hbl hbA hS (vp_in_nI (by omega) (by omega)) dL_law_1173 ?_
  refine w_i (z := xs (i + 1)) (congrArg xs (nI_clamp (by omega))) ?_
  refine lx_V (As := [.int (xs (i + 1))]) (rest := []) S hK hP hD hS (k_X3_count n (xs (i + 1)) hI) gv_L_153 hd_X3_count ⟨Nat.le_of_ble_eq_true rfl, Nat.le_of_ble_eq_true rfl⟩ 3 rfl rfl rfl rfl hl.1 (lv_room (Nat.le_of_ble_eq_true rfl)) dL_law_1174 ⟨Nat.le_of_ble_eq_true rfl, Nat.le_of_ble_eq_true rfl⟩ (fun ov w' H locs hp hP hD hS => ?_)
  obtain ⟨rfl, rfl⟩ := hp
  refine W.eq (g2 := F0 m 1177 ls [.int (countR gG n (nI d) (xs (i + 1)))]) rfl ?_
  refine lv_aload_n hx hb dL_law_1177 rfl (lv_at hl 2 rfl) ?_
  refine lv_aload_n hx hb dL_law_1178 rfl (lv_at hl 0 rfl) ?_
  refine lv_iload_n hx hb dL_law_1179 rfl (lv_at hl 3 rfl) ?_
  refine lv_iconst (v := 1) hx hb dL_law_1180 rfl ?_
  refine lv_iadd hx hb dL_law_1181 ?_
  refine w_i (z := nI (i + 1)) (nI_add i 1) ?_
  refine va_sld hx hb hX hbl hbA hS (vp_in_nI (by omega) (by omega)) dL_law_1182 ?_
  refine w_i (z := xs (i + 1)) (congrArg xs (nI_clamp (by omega))) ?_
  refine ly_V (As := [.int (xs (i + 1))]) (rest := [.int (countR gG n (nI d) (xs (i + 1)))]) S hK hP hD hS (k_X4_count n (xs (i + 1)) hI) gv_L_156 hd_X4_count ⟨Nat.le_of_ble_eq_true rfl, Nat.le_of_ble_eq_true rfl⟩ 4 rfl rfl rfl rfl hl.1 (lv_room (Nat.le_of_ble_eq_true rfl)) dL_law_1183 ⟨Nat.le_of_ble_eq_true rfl, Nat.le_of_ble_eq_true rfl⟩ (fun ov w' H locs hp hP hD hS => ?_)
  obtain ⟨rfl, rfl⟩ := hp
  refine W.eq (g2 := F0 m 1186 ls [.int (countR gG n (nI d) (xs (i + 1))), .int (countR gG n (nI d) (xs (i + 1)))]) rfl ?_
  refine lv_icmp_eq (tgt := 1214) hx hb dL_law_1186 rfl (fun c9 => ?_) (fun c9 => absurd rfl c9)
  exact J _ _ ⟨gG, n, _, _, _, kn, ib, d, _, _, _, _, _, _, _, _, _, _, _, _, _, _, _, _, _, _, _, hI, hh, hkp, hd, hT, hSh, hP, hD⟩ hS

set_option maxHeartbeats 4000000 in
set_option maxRecDepth 100000 in
theorem law_34 (S : CallFix p m c cL_law 4 s #[Value.ref b] WL RL) (hK : va_K D vwCl (tyA cI cJ cO) s) (hX : va_X b L xs s s.heap) (hbl : b < s.heap.size) (hbA : ¬ Ap b) (hZ : ZS kA vA oB Ap s s.heap) (hL : L ≤ 3072) (i : Nat) (hi : i + 6 ≤ L) (hI0 : LI D cI cJ cO B A Ap H) (hS : va_S Ap s.heap H locs) (hl : lv_has ls 4 [(0, .ref b), (1, .ref (B 0)), (2, .ref (A 0)), (3, .int (nI i))]) (J : ∀ (H : Heap) (locs : List Loc), LI D cI cJ cO B A Ap H → va_S Ap s.heap H locs → W p l e room_1 s m #[Value.ref b] below meth c H locs 32 1267 Q (F0 m 1214 ls [])) : W p l e room_1 s m #[Value.ref b] below meth c H locs 32 1267 Q (F0 m 1191 ls []) := by
  obtain ⟨gG, n, tG, kG, kS, kn, ib, d, tp, tk, bg, en, va, tn, bO, sO, nU, fS, cW, oS, aS, cA, fm, tt, vl, wr, mV, hI, hh, hkp, hd, hT, hSh, hP, hD⟩ := hI0
  obtain ⟨hx, hb, hml, hown, hts⟩ := id S
  refine lv_aload_n hx hb dL_law_1191 rfl (lv_at hl 1 rfl) ?_
  refine lv_aload_n hx hb dL_law_1192 rfl (lv_at hl 0 rfl) ?_
  refine lv_iload_n hx hb dL_law_1193 rfl (lv_at hl 3 rfl) ?_
  refine lv_iconst (v := 1) hx hb dL_law_1194 rfl ?_
  refine lv_iadd hx hb dL_law_1195 ?_
  refine w_i (z := nI (i + 1)) (nI_add i 1) ?_
  refine va_sld hx hb hX hbl hbA hS (vp_in_nI (by omega) (by omega)) dL_law_1196 ?_
  refine w_i (z := xs (i + 1)) (congrArg xs (nI_clamp (by omega))) ?_
  refine lx_V (As := [.int (xs (i + 1))]) (rest := []) S hK hP hD hS (k_X3_status (xs (i + 1))) gv_L_157 hd_X3_status ⟨Nat.le_of_ble_eq_true rfl, Nat.le_of_ble_eq_true rfl⟩ 3 rfl rfl rfl rfl hl.1 (lv_room (Nat.le_of_ble_eq_true rfl)) dL_law_1197 ⟨Nat.le_of_ble_eq_true rfl, Nat.le_of_ble_eq_true rfl⟩ (fun ov w' H locs hp hP hD hS => ?_)
  obtain ⟨rfl, rfl⟩ := hp
  refine W.eq (g2 := F0 m 1200 ls [.int (statR fS (xs (i + 1)))]) rfl ?_
  refine lv_aload_n hx hb dL_law_1200 rfl (lv_at hl 2 rfl) ?_
  refine lv_aload_n hx hb dL_law_1201 rfl (lv_at hl 0 rfl) ?_
  refine lv_iload_n hx hb dL_law_1202 rfl (lv_at hl 3 rfl) ?_
  refine lv_iconst (v := 1) hx hb dL_law_1203 rfl ?_
  refine lv_iadd hx hb dL_law_1204 ?_
  refine w_i (z := nI (i + 1)) (nI_add i 1) ?_
  refine va_sld hx hb hX hbl hbA hS (vp_in_nI (by omega) (by omega)) dL_law_1205 ?_
  refine w_i (z := xs (i + 1)) (congrArg xs (nI_clamp (by omega))) ?_
  refine ly_V (As := [.int (xs (i + 1))]) (rest := [.int (statR fS (xs (i + 1)))]) S hK hP hD hS (k_X4_status (xs (i + 1))) gv_L_160 hd_X4_status ⟨Nat.le_of_ble_eq_true rfl, Nat.le_of_ble_eq_true rfl⟩ 4 rfl rfl rfl rfl hl.1 (lv_room (Nat.le_of_ble_eq_true rfl)) dL_law_1206 ⟨Nat.le_of_ble_eq_true rfl, Nat.le_of_ble_eq_true rfl⟩ (fun ov w' H locs hp hP hD hS => ?_)
  obtain ⟨rfl, rfl⟩ := hp
  refine W.eq (g2 := F0 m 1209 ls [.int (statR fS (xs (i + 1))), .int (statR fS (xs (i + 1)))]) rfl ?_
  refine lv_icmp_eq (tgt := 1214) hx hb dL_law_1209 rfl (fun c9 => ?_) (fun c9 => absurd rfl c9)
  exact J _ _ ⟨gG, n, _, _, _, kn, ib, d, _, _, _, _, _, _, _, _, _, _, _, _, _, _, _, _, _, _, _, hI, hh, hkp, hd, hT, hSh, hP, hD⟩ hS

end
