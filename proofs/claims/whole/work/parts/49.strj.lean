section
variable {l : Launch} {D : va_G} {cI cJ cO : ClassId} {kA vA : Nat → Nat} {oB : Option Nat}

set_option maxHeartbeats 4000000 in
set_option maxRecDepth 100000 in
theorem k_J0_coder_7d493 (i : Nat) (hi : i < 16) : RZ kA vA oB l D (tyA cI cJ cO) yJ0_coder_7d493 cJ0_coder_7d493 1 ((some .byte)) 0 0 [.ref (kA i)] [] (some (.int 0)) := by
  refine RZ.mk (by decide) (Nat.le_of_ble_eq_true rfl) ?_
  intro p e s m below meth c ls S hr hlk hP hK hZ hS hl
  have S : CallFix p m c cJ0_coder_7d493 1 s _ WL RJ0 := S
  obtain ⟨hx, hb, hml, hown, hts⟩ := id S
  have hl : lv_has ls 1 [(0, .ref (kA i))] := hl
  refine va_gets hx hb hZ.2.2.1 hS hown (hts _ wf_J0_38) (fun _ h9 => h9) dJ0_coder_7d493_0 ?_
  refine lv_if_eq (tgt := 13) hx hb dJ0_coder_7d493_3 rfl (fun c3 => ?_) (fun c3 => ?_)
  · exact absurd c3 (by decide)
  · refine lv_aload_n hx hb dJ0_coder_7d493_6 rfl (lv_at hl 0 rfl) ?_
    refine vk_getf hx hb (hZ.1.1 i hi).2.1 hS hown (hts _ wf_J0_15) (fun _ h9 => h9) dJ0_coder_7d493_7 ?_
    refine lv_goto (tgt := 14) hx hb dJ0_coder_7d493_10 rfl ?_
    exact ro_nret hx hb hr hlk (rfl) (rfl) dJ0_coder_7d493_14

set_option maxHeartbeats 4000000 in
set_option maxRecDepth 100000 in
theorem k_J0_isLatin1_aae02 (i : Nat) (hi : i < 16) : RZ kA vA oB l D (tyA cI cJ cO) yJ0_isLatin1_aae02 cJ0_isLatin1_aae02 1 ((some .boolean)) 0 0 [.ref (kA i)] [] (some (.int (b2i true))) := by
  refine RZ.mk (by decide) (Nat.le_of_ble_eq_true rfl) ?_
  intro p e s m below meth c ls S hr hlk hP hK hZ hS hl
  have S : CallFix p m c cJ0_isLatin1_aae02 1 s _ WL RJ0 := S
  obtain ⟨hx, hb, hml, hown, hts⟩ := id S
  have hl : lv_has ls 1 [(0, .ref (kA i))] := hl
  refine va_gets hx hb hZ.2.2.1 hS hown (hts _ wf_J0_38) (fun _ h9 => h9) dJ0_isLatin1_aae02_0 ?_
  refine lv_if_eq (tgt := 17) hx hb dJ0_isLatin1_aae02_3 rfl (fun c3 => ?_) (fun c3 => ?_)
  · exact absurd c3 (by decide)
  · refine lv_aload_n hx hb dJ0_isLatin1_aae02_6 rfl (lv_at hl 0 rfl) ?_
    refine vk_getf hx hb (hZ.1.1 i hi).2.1 hS hown (hts _ wf_J0_15) (fun _ h9 => h9) dJ0_isLatin1_aae02_7 ?_
    refine lv_if_ne (tgt := 17) hx hb dJ0_isLatin1_aae02_10 rfl (fun c10 => ?_) (fun c10 => ?_)
    · exact absurd c10 (by decide)
    · refine lv_iconst (v := 1) hx hb dJ0_isLatin1_aae02_13 rfl ?_
      refine lv_goto (tgt := 18) hx hb dJ0_isLatin1_aae02_14 rfl ?_
      exact ro_zret hx hb hr hlk (rfl) dJ0_isLatin1_aae02_18

set_option maxHeartbeats 4000000 in
set_option maxRecDepth 100000 in
theorem k_J0_length_8abf5 (i : Nat) (hi : i < 16) : RZ kA vA oB l D (tyA cI cJ cO) yJ0_length_8abf5 cJ0_length_8abf5 1 ((some .int)) 1 20 [.ref (kA i)] [] (some (.int (nI (wd i).length))) := by
  refine RZ.mk (by decide) (Nat.le_of_ble_eq_true rfl) ?_
  intro p e s m below meth c ls S hr hlk hP hK hZ hS hl
  have S : CallFix p m c cJ0_length_8abf5 1 s _ WL RJ0 := S
  obtain ⟨hx, hb, hml, hown, hts⟩ := id S
  have hl : lv_has ls 1 [(0, .ref (kA i))] := hl
  have hln := lnJ_ok i hi
  refine lv_aload_n hx hb dJ0_length_8abf5_0 rfl (lv_at hl 0 rfl) ?_
  refine vk_getf hx hb (hZ.1.1 i hi).2.2.1 hS hown (hts _ wf_J0_9) (fun _ h9 => h9) dJ0_length_8abf5_1 ?_
  refine va_tlen hx hb (hZ.1.1 i hi).2.2.2 hS (v := nI (lnJ.getD i 0)) rfl dJ0_length_8abf5_4 ?_
  refine lv_aload_n hx hb dJ0_length_8abf5_5 rfl (lv_at hl 0 rfl) ?_
  refine rz_K (w := []) (rest := [.int (nI (lnJ.getD i 0))]) S hK va_P0 hZ hS hi (k_J0_coder_7d493 i hi) gv_J0_335 hd_J0_coder_7d493 ⟨Nat.le_of_ble_eq_true rfl, Nat.le_of_ble_eq_true rfl⟩ rfl rfl hl.1 (lv_room (Nat.le_of_ble_eq_true rfl)) dJ0_length_8abf5_6 ⟨Nat.zero_le _, Nat.zero_le _⟩ ?_
  refine W.eq (g2 := F0 m 9 ls [.int 0, .int (nI (lnJ.getD i 0))]) rfl ?_
  refine lv_ishr hx hb dJ0_length_8abf5_9 ?_
  exact ro_iret hx hb hr hlk (by rw [hln.1, sc_shr0 (by omega)]) dJ0_length_8abf5_10

set_option maxHeartbeats 4000000 in
set_option maxRecDepth 100000 in
theorem k_J3_checkIndex_n (k : Nat) (n : Nat) (hk : k < n) (hn : n ≤ 1000) : RO l D (tyA cI cJ cO) yJ3_checkIndex_8e157 cJ3_checkIndex_8e157 3 ((some .int)) 0 0 [.int (nI k), .int (nI n), .null] [] (.int (nI k)) := by
  refine RO.mk (by decide) (Nat.le_of_ble_eq_true rfl) ?_
  intro p e s m below meth c ls S hr hlk hP hK hl
  have S : CallFix p m c cJ3_checkIndex_8e157 3 s _ WL RJ3 := S
  obtain ⟨hx, hb, hml, hown, hts⟩ := id S
  have hl : lv_has ls 3 [(0, .int (nI k)), (1, .int (nI n)), (2, .null)] := hl
  refine lv_iload_n hx hb dJ3_checkIndex_8e157_0 rfl (lv_at hl 0 rfl) ?_
  refine lv_if_lt (tgt := 9) hx hb dJ3_checkIndex_8e157_1 rfl (fun c1 => ?_) (fun c1 => ?_)
  · exact absurd c1 (nI_pos (by omega))
  · refine lv_iload_n hx hb dJ3_checkIndex_8e157_4 rfl (lv_at hl 0 rfl) ?_
    refine lv_iload_n hx hb dJ3_checkIndex_8e157_5 rfl (lv_at hl 1 rfl) ?_
    refine lv_icmp_lt (tgt := 16) hx hb dJ3_checkIndex_8e157_6 rfl (fun c6 => ?_) (fun c6 => ?_)
    · replace c6 := nq_lt (a := k) (b := n) (by omega) (by omega) c6
      refine lv_iload_n hx hb dJ3_checkIndex_8e157_16 rfl (lv_at hl 0 rfl) ?_
      exact ro_iret hx hb hr hlk (rfl) dJ3_checkIndex_8e157_17
    · replace c6 := nq_nlt (a := k) (b := n) (by omega) (by omega) c6
      exact absurd c6 (by omega)

set_option maxHeartbeats 4000000 in
set_option maxRecDepth 100000 in
theorem k_J3_checkIndex_r (k : Nat) (n : Nat) (z9 : Nat) (hk : k < n) (hn : n ≤ 1000) : RO l D (tyA cI cJ cO) yJ3_checkIndex_8e157 cJ3_checkIndex_8e157 3 ((some .int)) 0 0 [.int (nI k), .int (nI n), .ref z9] [] (.int (nI k)) := by
  refine RO.mk (by decide) (Nat.le_of_ble_eq_true rfl) ?_
  intro p e s m below meth c ls S hr hlk hP hK hl
  have S : CallFix p m c cJ3_checkIndex_8e157 3 s _ WL RJ3 := S
  obtain ⟨hx, hb, hml, hown, hts⟩ := id S
  have hl : lv_has ls 3 [(0, .int (nI k)), (1, .int (nI n)), (2, .ref z9)] := hl
  refine lv_iload_n hx hb dJ3_checkIndex_8e157_0 rfl (lv_at hl 0 rfl) ?_
  refine lv_if_lt (tgt := 9) hx hb dJ3_checkIndex_8e157_1 rfl (fun c1 => ?_) (fun c1 => ?_)
  · exact absurd c1 (nI_pos (by omega))
  · refine lv_iload_n hx hb dJ3_checkIndex_8e157_4 rfl (lv_at hl 0 rfl) ?_
    refine lv_iload_n hx hb dJ3_checkIndex_8e157_5 rfl (lv_at hl 1 rfl) ?_
    refine lv_icmp_lt (tgt := 16) hx hb dJ3_checkIndex_8e157_6 rfl (fun c6 => ?_) (fun c6 => ?_)
    · replace c6 := nq_lt (a := k) (b := n) (by omega) (by omega) c6
      refine lv_iload_n hx hb dJ3_checkIndex_8e157_16 rfl (lv_at hl 0 rfl) ?_
      exact ro_iret hx hb hr hlk (rfl) dJ3_checkIndex_8e157_17
    · replace c6 := nq_nlt (a := k) (b := n) (by omega) (by omega) c6
      exact absurd c6 (by omega)

set_option maxHeartbeats 4000000 in
set_option maxRecDepth 100000 in
theorem k_J0_checkIndex_df160 (k : Nat) (n : Nat) (hk : k < n) (hn : n ≤ 1000) : RZ kA vA oB l D (tyA cI cJ cO) yJ0_checkIndex_df160 cJ0_checkIndex_df160 2 none 1 22 [.int (nI k), .int (nI n)] [] none := by
  refine RZ.mk (by decide) (Nat.le_of_ble_eq_true rfl) ?_
  intro p e s m below meth c ls S hr hlk hP hK hZ hS hl
  have S : CallFix p m c cJ0_checkIndex_df160 2 s _ WL RJ0 := S
  obtain ⟨hx, hb, hml, hown, hts⟩ := id S
  have hl : lv_has ls 2 [(0, .int (nI k)), (1, .int (nI n))] := hl
  refine lv_iload_n hx hb dJ0_checkIndex_df160_0 rfl (lv_at hl 0 rfl) ?_
  refine lv_iload_n hx hb dJ0_checkIndex_df160_1 rfl (lv_at hl 1 rfl) ?_
  refine va_gets hx hb hZ.2.2.2 hS hown (hts _ wf_J0_1053) (fun _ h9 => h9) dJ0_checkIndex_df160_2 ?_
  rcases oB with _ | z9
  · refine W.eq (g2 := F0 m 5 ls [.null, .int (nI n), .int (nI k)]) rfl ?_
    refine ro_S (w := []) (rest := []) S hK va_P0 (k_J3_checkIndex_n k n (by omega) (by omega)) gs_J0_1059 hd_J3_checkIndex_8e157 ⟨Nat.le_of_ble_eq_true rfl, Nat.le_of_ble_eq_true rfl⟩ rfl hl.1 (lv_room (Nat.le_of_ble_eq_true rfl)) dJ0_checkIndex_df160_5 ⟨Nat.zero_le _, Nat.zero_le _⟩ ?_
    refine lv_pop hx hb dJ0_checkIndex_df160_8 rfl ?_
    exact ro_vret hx hb hr hlk dJ0_checkIndex_df160_9
  · refine W.eq (g2 := F0 m 5 ls [.ref z9, .int (nI n), .int (nI k)]) rfl ?_
    refine ro_S (w := []) (rest := []) S hK va_P0 (k_J3_checkIndex_r k n z9 (by omega) (by omega)) gs_J0_1059 hd_J3_checkIndex_8e157 ⟨Nat.le_of_ble_eq_true rfl, Nat.le_of_ble_eq_true rfl⟩ rfl hl.1 (lv_room (Nat.le_of_ble_eq_true rfl)) dJ0_checkIndex_df160_5 ⟨Nat.zero_le _, Nat.zero_le _⟩ ?_
    refine lv_pop hx hb dJ0_checkIndex_df160_8 rfl ?_
    exact ro_vret hx hb hr hlk dJ0_checkIndex_df160_9

set_option maxHeartbeats 4000000 in
set_option maxRecDepth 100000 in
theorem k_J1_charAt_3b067 (i : Nat) (k : Nat) (hi : i < 16) (hk : k < (wd i).length) : RZ kA vA oB l D (tyA cI cJ cO) yJ1_charAt_3b067 cJ1_charAt_3b067 2 ((some .char)) 2 43 [.ref (vA i), .int (nI k)] [] (some (.int ((wd i).getD k 0))) := by
  refine RZ.mk (by decide) (Nat.le_of_ble_eq_true rfl) ?_
  intro p e s m below meth c ls S hr hlk hP hK hZ hS hl
  have S : CallFix p m c cJ1_charAt_3b067 2 s _ WL RJ1 := S
  obtain ⟨hx, hb, hml, hown, hts⟩ := id S
  have hl : lv_has ls 2 [(0, .ref (vA i)), (1, .int (nI k))] := hl
  have hln := lnJ_ok i hi
  refine lv_iload_n hx hb dJ1_charAt_3b067_0 rfl (lv_at hl 1 rfl) ?_
  refine lv_aload_n hx hb dJ1_charAt_3b067_1 rfl (lv_at hl 0 rfl) ?_
  refine va_tlen hx hb (hZ.1.1 i hi).2.2.2 hS (v := nI (lnJ.getD i 0)) rfl dJ1_charAt_3b067_2 ?_
  refine rz_S (w := []) (rest := []) S hK va_P0 hZ hS (k_J0_checkIndex_df160 k (lnJ.getD i 0) (by omega) (by omega)) gs_J1_9 hd_J0_checkIndex_df160 ⟨Nat.le_of_ble_eq_true rfl, Nat.le_of_ble_eq_true rfl⟩ rfl hl.1 (lv_room (Nat.le_of_ble_eq_true rfl)) dJ1_charAt_3b067_3 ⟨Nat.zero_le _, Nat.zero_le _⟩ ?_
  refine W.eq (g2 := F0 m 6 ls []) rfl ?_
  refine lv_aload_n hx hb dJ1_charAt_3b067_6 rfl (lv_at hl 0 rfl) ?_
  refine lv_iload_n hx hb dJ1_charAt_3b067_7 rfl (lv_at hl 1 rfl) ?_
  refine va_tb hx hb (hZ.1.1 i hi).2.2.2 hS (vp_in_nI (N := lnJ.getD i 0) (by omega) (by omega)) (v := .int ((wd i).getD k 0)) (by rw [nI_clamp (by omega)]; rfl) dJ1_charAt_3b067_8 ?_
  refine lv_sipush (v := 255) hx hb dJ1_charAt_3b067_9 rfl ?_
  refine lv_iand hx hb dJ1_charAt_3b067_12 ?_
  refine lv_i2c hx hb dJ1_charAt_3b067_13 rfl ?_
  exact ro_nret hx hb hr hlk ((chJ_ok hi hk).1) ((chJ_ok hi hk).2) dJ1_charAt_3b067_14

set_option maxHeartbeats 4000000 in
set_option maxRecDepth 100000 in
theorem k_J0_charAt_5068e (i : Nat) (k : Nat) (hi : i < 16) (hk : k < (wd i).length) : RZ kA vA oB l D (tyA cI cJ cO) yJ0_charAt_5068e cJ0_charAt_5068e 2 ((some .char)) 4 85 [.ref (kA i), .int (nI k)] [] (some (.int ((wd i).getD k 0))) := by
  refine RZ.mk (by decide) (Nat.le_of_ble_eq_true rfl) ?_
  intro p e s m below meth c ls S hr hlk hP hK hZ hS hl
  have S : CallFix p m c cJ0_charAt_5068e 2 s _ WL RJ0 := S
  obtain ⟨hx, hb, hml, hown, hts⟩ := id S
  have hl : lv_has ls 2 [(0, .ref (kA i)), (1, .int (nI k))] := hl
  refine lv_aload_n hx hb dJ0_charAt_5068e_0 rfl (lv_at hl 0 rfl) ?_
  refine rz_K (w := []) (rest := []) S hK va_P0 hZ hS hi (k_J0_isLatin1_aae02 i hi) gv_J0_492 hd_J0_isLatin1_aae02 ⟨Nat.le_of_ble_eq_true rfl, Nat.le_of_ble_eq_true rfl⟩ rfl rfl hl.1 (lv_room (Nat.le_of_ble_eq_true rfl)) dJ0_charAt_5068e_1 ⟨Nat.zero_le _, Nat.zero_le _⟩ ?_
  refine W.eq (g2 := F0 m 4 ls [.int 1]) rfl ?_
  refine lv_if_eq (tgt := 16) hx hb dJ0_charAt_5068e_4 rfl (fun c4 => ?_) (fun c4 => ?_)
  · exact absurd c4 (by decide)
  · refine lv_aload_n hx hb dJ0_charAt_5068e_7 rfl (lv_at hl 0 rfl) ?_
    refine vk_getf hx hb (hZ.1.1 i hi).2.2.1 hS hown (hts _ wf_J0_9) (fun _ h9 => h9) dJ0_charAt_5068e_8 ?_
    refine lv_iload_n hx hb dJ0_charAt_5068e_11 rfl (lv_at hl 1 rfl) ?_
    refine rz_S (w := []) (rest := []) S hK va_P0 hZ hS (k_J1_charAt_3b067 i k hi (by omega)) gs_J0_495 hd_J1_charAt_3b067 ⟨Nat.le_of_ble_eq_true rfl, Nat.le_of_ble_eq_true rfl⟩ rfl hl.1 (lv_room (Nat.le_of_ble_eq_true rfl)) dJ0_charAt_5068e_12 ⟨Nat.zero_le _, Nat.zero_le _⟩ ?_
    refine W.eq (g2 := F0 m 15 ls [.int ((wd i).getD k 0)]) rfl ?_
    exact ro_nret hx hb hr hlk (rfl) ((chJ_ok hi hk).2) dJ0_charAt_5068e_15

end
