section
variable {l : Launch} {D : va_G} {cI cJ cO : ClassId} {B : Nat → Nat} {gG tG kG : Nat → Int32} {ik le : Int32} {by_ : Nat → Int32} {tk bg en va tn b0 l0 : Int32} {u0 : Nat → Int64} {b1 l1 : Int32} {u1 : Nat → Int64} {b2 l2 : Int32} {u2 : Nat → Int64} {b3 l3 : Int32} {u3 : Nat → Int64} {fS cW : Nat → Int32}

set_option maxHeartbeats 4000000 in
set_option maxRecDepth 100000 in
theorem k_X3_isOutside (v : Int32) (a : Int32) (b : Int32) : RO l D (tyA cI cJ cO) yX3_isOutside cX3_isOutside 3 ((some .boolean)) 0 0 [.int v, .int a, .int b] [] (.int (b2i (!inI v a b))) := by
  refine RO.mk (by decide) (Nat.le_of_ble_eq_true rfl) ?_
  intro p e s m below meth c ls S hr hlk hP hK hl
  have S : CallFix p m c cX3_isOutside 3 s _ WL RX3 := S
  obtain ⟨hx, hb, hml, hown, hts⟩ := id S
  have hl : lv_has ls 3 [(0, .int v), (1, .int a), (2, .int b)] := hl
  refine lv_iload_n hx hb dX3_isOutside_0 rfl (lv_at hl 0 rfl) ?_
  refine lv_iload_n hx hb dX3_isOutside_1 rfl (lv_at hl 1 rfl) ?_
  refine lv_icmp_lt (tgt := 10) hx hb dX3_isOutside_2 rfl (fun c2 => ?_) (fun c2 => ?_)
  · replace c2 := Int32.not_le.mpr c2
    refine lv_iconst (v := 1) hx hb dX3_isOutside_10 rfl ?_
    refine lv_goto (tgt := 15) hx hb dX3_isOutside_11 rfl ?_
    exact ro_zret hx hb hr hlk (by first | (simp [inI, b2i, c2, i_lt, -Int32.not_le, -Int32.not_lt]; done) | (simp_all; done) | (simp_all [inI, b2i]; done)) dX3_isOutside_15
  · replace c2 := Int32.not_lt.mp c2
    refine lv_iload_n hx hb dX3_isOutside_5 rfl (lv_at hl 0 rfl) ?_
    refine lv_iload_n hx hb dX3_isOutside_6 rfl (lv_at hl 2 rfl) ?_
    refine lv_icmp_le (tgt := 14) hx hb dX3_isOutside_7 rfl (fun c7 => ?_) (fun c7 => ?_)
    · refine lv_iconst (v := 0) hx hb dX3_isOutside_14 rfl ?_
      exact ro_zret hx hb hr hlk (by first | (simp [inI, b2i, c2, c7, i_lt, -Int32.not_le, -Int32.not_lt]; done) | (simp_all; done) | (simp_all [inI, b2i]; done)) dX3_isOutside_15
    · refine lv_iconst (v := 1) hx hb dX3_isOutside_10 rfl ?_
      refine lv_goto (tgt := 15) hx hb dX3_isOutside_11 rfl ?_
      exact ro_zret hx hb hr hlk (by first | (simp [inI, b2i, c2, c7, i_lt, -Int32.not_le, -Int32.not_lt]; done) | (simp_all; done) | (simp_all [inI, b2i]; done)) dX3_isOutside_15

set_option maxHeartbeats 4000000 in
set_option maxRecDepth 100000 in
theorem k_X3_least (w : Int32) : RO l D (tyA cI cJ cO) yX3_least cX3_least 1 ((some .int)) 0 0 [.int w] [] (.int (leastS w)) := by
  refine RO.mk (by decide) (Nat.le_of_ble_eq_true rfl) ?_
  intro p e s m below meth c ls S hr hlk hP hK hl
  have S : CallFix p m c cX3_least 1 s _ WL RX3 := S
  obtain ⟨hx, hb, hml, hown, hts⟩ := id S
  have hl : lv_has ls 1 [(0, .int w)] := hl
  refine lv_iload_n hx hb dX3_least_0 rfl (lv_at hl 0 rfl) ?_
  refine lv_bipush (v := 6) hx hb dX3_least_1 rfl ?_
  refine lv_icmp_ne (tgt := 10) hx hb dX3_least_3 rfl (fun c3 => ?_) (fun c3 => ?_)
  · refine lv_iconst (v := 0) hx hb dX3_least_10 rfl ?_
    exact ro_iret hx hb hr hlk (by first | (simp [leastS, c3, i_lt, -Int32.not_le, -Int32.not_lt]; done) | (simp_all; done) | (simp_all [leastS]; done)) dX3_least_11
  · refine lv_iconst (v := (-1)) hx hb dX3_least_6 rfl ?_
    refine lv_goto (tgt := 11) hx hb dX3_least_7 rfl ?_
    exact ro_iret hx hb hr hlk (by first | (simp [leastS, c3, i_lt, -Int32.not_le, -Int32.not_lt]; done) | (simp_all; done) | (simp_all [leastS]; done)) dX3_least_11

set_option maxHeartbeats 4000000 in
set_option maxRecDepth 100000 in
theorem k_X3_kindAbove (k : Int32) : RO l D (tyA cI cJ cO) yX3_kindAbove cX3_kindAbove 1 ((some .int)) 0 0 [.int k] [] (.int (kindAb k)) := by
  refine RO.mk (by decide) (Nat.le_of_ble_eq_true rfl) ?_
  intro p e s m below meth c ls S hr hlk hP hK hl
  have S : CallFix p m c cX3_kindAbove 1 s _ WL RX3 := S
  obtain ⟨hx, hb, hml, hown, hts⟩ := id S
  have hl : lv_has ls 1 [(0, .int k)] := hl
  refine lv_iload_n hx hb dX3_kindAbove_0 rfl (lv_at hl 0 rfl) ?_
  by_cases c1_4 : k = 4
  · refine lv_lookup (tgt := 28) (off := 27) hx hb dX3_kindAbove_1 rfl (by rw [c1_4]; rfl) rfl ?_
    refine lv_iconst (v := 1) hx hb dX3_kindAbove_28 rfl ?_
    exact ro_iret hx hb hr hlk (by rw [kindAb, if_pos c1_4]) dX3_kindAbove_29
  by_cases c1_5 : k = 5
  · refine lv_lookup (tgt := 30) (off := 29) hx hb dX3_kindAbove_1 rfl (by rw [c1_5]; rfl) rfl ?_
    refine lv_iconst (v := 2) hx hb dX3_kindAbove_30 rfl ?_
    exact ro_iret hx hb hr hlk (by rw [kindAb, if_neg c1_4, if_pos c1_5]) dX3_kindAbove_31
  refine lv_lookup (tgt := 32) (off := 31) hx hb dX3_kindAbove_1 rfl (by show Op.lookupswitch.offset [(4, 27), (5, 29)] _ _ = _; rw [lv_osw c1_4 (k := 4) (a := 4) (by decide)]; rw [lv_osw c1_5 (k := 5) (a := 5) (by decide)]; rfl) rfl ?_
  refine lv_iconst (v := 0) hx hb dX3_kindAbove_32 rfl ?_
  exact ro_iret hx hb hr hlk (by rw [kindAb, if_neg c1_4, if_neg c1_5]) dX3_kindAbove_33

set_option maxHeartbeats 4000000 in
set_option maxRecDepth 100000 in
theorem k_X3_finding (k : Nat) (x : Int32) (hk : k < 7) (hv : x = fnd k) : MU l D (tyA cI cJ cO) yX3_finding cX3_finding 3 ((some .int)) 0 0 [.ref (B 0), .int x] (VW cI cJ cO B gG tG kG ik le by_ tk bg en va tn b0 l0 u0 b1 l1 u1 b2 l2 u2 b3 l3 u3 fS cW) (fun ov w' => ov = some (.int x) ∧ w' = (VW cI cJ cO B gG tG kG ik le by_ tk bg en va tn b0 l0 u0 b1 l1 u1 b2 l2 u2 b3 l3 u3 (upd fS k (fS k + 1)) cW)) := by
  refine MU.mk (by decide) (Nat.le_of_ble_eq_true rfl) ?_
  intro p e s m below meth c ls S hr hlk hP hK hD hS hl
  have S : CallFix p m c cX3_finding 3 s _ WL RX3 := S
  obtain ⟨hx, hb, hml, hown, hts⟩ := id S
  have hl : lv_has ls 3 [(0, .ref (B 0)), (1, .int x)] := hl
  refine lv_ldc (v := (-1000000001)) hx hb hown (hts _ wq_X3_51) dX3_finding_0 ?_
  refine lv_iload_n hx hb dX3_finding_2 rfl (lv_at hl 1 rfl) ?_
  refine lv_isub hx hb dX3_finding_3 ?_
  refine w_i (z := nI k) (by rw [hv]; exact fnd_k k) ?_
  refine lv_istore_n (lv' := [(2, .int (nI k)), (0, .ref (B 0)), (1, .int x)]) hx hb dX3_finding_4 rfl hl (by decide) rfl (fun ls hl => ?_)
  refine lv_iload_n hx hb dX3_finding_5 rfl (lv_at hl 0 rfl) ?_
  refine lv_if_lt (tgt := 25) hx hb dX3_finding_6 rfl (fun c6 => ?_) (fun c6 => ?_)
  · exact absurd c6 (nI_pos (by omega))
  · refine lv_iload_n hx hb dX3_finding_9 rfl (lv_at hl 0 rfl) ?_
    refine lv_bipush (v := 7) hx hb dX3_finding_10 rfl ?_
    refine lv_icmp_ge (tgt := 25) hx hb dX3_finding_12 rfl (fun c12 => ?_) (fun c12 => ?_)
    · exact absurd (nq_le (a := 7) (b := k) (by omega) (by omega) c12) (by omega)
    · replace c12 := nq_nle (a := 7) (b := k) (by omega) (by omega) c12
      refine lv_aload_n hx hb dX3_finding_15 rfl (lv_at hl 1 rfl) ?_
      refine va_get (ci := 3) (v := .ref (B 18)) hx hb hts wx_X3 hown hK hP 0 rfl rfl 6 (by decide) (hts _ wf_X3_40) (fun _ h9 => h9) rfl dX3_finding_16 ?_
      refine lv_iload_n hx hb dX3_finding_19 rfl (lv_at hl 0 rfl) ?_
      refine lv_dup2_11 hx hb dX3_finding_20 rfl rfl ?_
      refine ia_ld hx hb hK hP 18 0 rfl rfl k (rfl) (by omega) (by decide) dX3_finding_21 ?_
      refine lv_iconst (v := 1) hx hb dX3_finding_22 rfl ?_
      refine lv_iadd hx hb dX3_finding_23 ?_
      refine ia_st hx hb hK hP hD hS 18 0 rfl rfl k (rfl) (by omega) (by decide) dX3_finding_24 (fun H locs hP hD hS => ?_)
      have hP : va_P D vwCl (VW cI cJ cO B gG tG kG ik le by_ tk bg en va tn b0 l0 u0 b1 l1 u1 b2 l2 u2 b3 l3 u3 (upd fS k ((fS k) + 1)) cW) H := hP
      have hD : va_D _ (VW cI cJ cO B gG tG kG ik le by_ tk bg en va tn b0 l0 u0 b1 l1 u1 b2 l2 u2 b3 l3 u3 (upd fS k ((fS k) + 1)) cW) := hD
      refine lv_iload_n hx hb dX3_finding_25 rfl (lv_at hl 2 rfl) ?_
      exact mu_iret (VW cI cJ cO B gG tG kG ik le by_ tk bg en va tn b0 l0 u0 b1 l1 u1 b2 l2 u2 b3 l3 u3 (upd fS k ((fS k) + 1)) cW) hx hb hr hlk hP hS rfl (⟨rfl, rfl⟩) dX3_finding_26

set_option maxHeartbeats 4000000 in
set_option maxRecDepth 100000 in
theorem k_X3_greatest (n : Nat) (w : Int32) (hI : Inv gG n) : RO l D (tyA cI cJ cO) yX3_greatest cX3_greatest 2 ((some .int)) 0 0 [.ref (B 0), .int w] (VW cI cJ cO B gG tG kG ik le by_ tk bg en va tn b0 l0 u0 b1 l1 u1 b2 l2 u2 b3 l3 u3 fS cW) (.int (greatS n w)) := by
  refine RO.mk (by decide) (Nat.le_of_ble_eq_true rfl) ?_
  intro p e s m below meth c ls S hr hlk hP hK hl
  have S : CallFix p m c cX3_greatest 2 s _ WL RX3 := S
  obtain ⟨hx, hb, hml, hown, hts⟩ := id S
  have hl : lv_has ls 2 [(0, .ref (B 0)), (1, .int w)] := hl
  refine lv_iload_n hx hb dX3_greatest_0 rfl (lv_at hl 1 rfl) ?_
  by_cases c1_1 : w = 1
  · refine lv_tableIn (tgt := 48) hx hb dX3_greatest_1 (by rw [c1_1]; decide) (by rw [c1_1]; decide) (by rw [c1_1]; rfl) rfl ?_
    refine lv_iconst (v := 3) hx hb dX3_greatest_48 rfl ?_
    exact ro_iret hx hb hr hlk (by simp [greatS, c1_1]) dX3_greatest_49
  by_cases c1_2 : w = 2
  · refine lv_tableIn (tgt := 50) hx hb dX3_greatest_1 (by rw [c1_2]; decide) (by rw [c1_2]; decide) (by rw [c1_2]; rfl) rfl ?_
    refine lv_bipush (v := 19) hx hb dX3_greatest_50 rfl ?_
    exact ro_iret hx hb hr hlk (by simp [greatS, c1_1, c1_2]) dX3_greatest_52
  by_cases c1_3 : w = 3
  · refine lv_tableIn (tgt := 53) hx hb dX3_greatest_1 (by rw [c1_3]; decide) (by rw [c1_3]; decide) (by rw [c1_3]; rfl) rfl ?_
    refine lv_bipush (v := 99) hx hb dX3_greatest_53 rfl ?_
    exact ro_iret hx hb hr hlk (by simp [greatS, c1_1, c1_2, c1_3]) dX3_greatest_55
  by_cases c1_4 : w = 4
  · refine lv_tableIn (tgt := 72) hx hb dX3_greatest_1 (by rw [c1_4]; decide) (by rw [c1_4]; decide) (by rw [c1_4]; rfl) rfl ?_
    refine lv_iconst (v := 1) hx hb dX3_greatest_72 rfl ?_
    exact ro_iret hx hb hr hlk (by simp [greatS, c1_1, c1_2, c1_3, c1_4]) dX3_greatest_73
  by_cases c1_5 : w = 5
  · refine lv_tableIn (tgt := 56) hx hb dX3_greatest_1 (by rw [c1_5]; decide) (by rw [c1_5]; decide) (by rw [c1_5]; rfl) rfl ?_
    refine lv_iconst (v := 4) hx hb dX3_greatest_56 rfl ?_
    exact ro_iret hx hb hr hlk (by simp [greatS, c1_1, c1_2, c1_3, c1_4, c1_5]) dX3_greatest_57
  by_cases c1_6 : w = 6
  · refine lv_tableIn (tgt := 58) hx hb dX3_greatest_1 (by rw [c1_6]; decide) (by rw [c1_6]; decide) (by rw [c1_6]; rfl) rfl ?_
    refine lv_aload_n hx hb dX3_greatest_58 rfl (lv_at hl 0 rfl) ?_
    refine va_get (ci := 3) (v := .ref (B 1)) hx hb hts wx_X3 hown hK hP 0 rfl rfl 0 (by decide) (hts _ wf_X3_10) (fun _ h9 => h9) rfl dX3_greatest_59 ?_
    refine va_get (ci := 0) (v := .int (gG 1)) hx hb hts wx_X0 hown hK hP 1 rfl rfl 2 (by decide) (hts _ wf_X3_148) (fun _ h9 => h9) rfl dX3_greatest_62 ?_
    refine w_i (z := nI n) (hI.2.1) ?_
    refine lv_iconst (v := 1) hx hb dX3_greatest_65 rfl ?_
    refine lv_isub hx hb dX3_greatest_66 ?_
    exact ro_iret hx hb hr hlk (by simp [greatS, c1_1, c1_2, c1_3, c1_4, c1_5, c1_6]) dX3_greatest_67
  by_cases c1_7 : w = 7
  · refine lv_tableIn (tgt := 72) hx hb dX3_greatest_1 (by rw [c1_7]; decide) (by rw [c1_7]; decide) (by rw [c1_7]; rfl) rfl ?_
    refine lv_iconst (v := 1) hx hb dX3_greatest_72 rfl ?_
    exact ro_iret hx hb hr hlk (by simp [greatS, c1_1, c1_2, c1_3, c1_4, c1_5, c1_6, c1_7]) dX3_greatest_73
  by_cases c1_8 : w = 8
  · refine lv_tableIn (tgt := 68) hx hb dX3_greatest_1 (by rw [c1_8]; decide) (by rw [c1_8]; decide) (by rw [c1_8]; rfl) rfl ?_
    refine lv_sipush (v := 9999) hx hb dX3_greatest_68 rfl ?_
    exact ro_iret hx hb hr hlk (by simp [greatS, c1_1, c1_2, c1_3, c1_4, c1_5, c1_6, c1_7, c1_8]) dX3_greatest_71
  refine lv_tableOut (tgt := 72) hx hb dX3_greatest_1 (by have q0 := lv_neT c1_1 (a := 1) rfl; have q1 := lv_neT c1_2 (a := 2) rfl; have q2 := lv_neT c1_3 (a := 3) rfl; have q3 := lv_neT c1_4 (a := 4) rfl; have q4 := lv_neT c1_5 (a := 5) rfl; have q5 := lv_neT c1_6 (a := 6) rfl; have q6 := lv_neT c1_7 (a := 7) rfl; have q7 := lv_neT c1_8 (a := 8) rfl; omega) rfl ?_
  refine lv_iconst (v := 1) hx hb dX3_greatest_72 rfl ?_
  exact ro_iret hx hb hr hlk (by simp [greatS, c1_1, c1_2, c1_3, c1_4, c1_5, c1_6, c1_7, c1_8]) dX3_greatest_73

set_option maxHeartbeats 4000000 in
set_option maxRecDepth 100000 in
theorem k_X3_tacky (n : Nat) (v : Int32) (hI : Inv gG n) : MU l D (tyA cI cJ cO) yX3_tacky cX3_tacky 3 ((some .int)) 1 22 [.ref (B 0), .int v] (VW cI cJ cO B gG tG kG ik le by_ tk bg en va tn b0 l0 u0 b1 l1 u1 b2 l2 u2 b3 l3 u3 fS cW) (fun ov w' => ov = some (.int (tackyR gG v)) ∧ w' = (VW cI cJ cO B (tackyG gG v) tG kG ik le by_ tk bg en va tn b0 l0 u0 b1 l1 u1 b2 l2 u2 b3 l3 u3 (okT (inI v 0 8) fS) cW)) := by
  refine MU.mk (by decide) (Nat.le_of_ble_eq_true rfl) ?_
  intro p e s m below meth c ls S hr hlk hP hK hD hS hl
  have S : CallFix p m c cX3_tacky 3 s _ WL RX3 := S
  obtain ⟨hx, hb, hml, hown, hts⟩ := id S
  have hl : lv_has ls 3 [(0, .ref (B 0)), (1, .int v)] := hl
  refine lv_iload_n hx hb dX3_tacky_0 rfl (lv_at hl 1 rfl) ?_
  refine lv_iconst (v := 0) hx hb dX3_tacky_1 rfl ?_
  refine lv_bipush (v := 8) hx hb dX3_tacky_2 rfl ?_
  refine ro_S (w := []) (rest := []) S hK va_P0 (k_X3_isOutside v 0 8) gs_X3_47 hd_X3_isOutside ⟨Nat.le_of_ble_eq_true rfl, Nat.le_of_ble_eq_true rfl⟩ rfl hl.1 (lv_room (Nat.le_of_ble_eq_true rfl)) dX3_tacky_4 ⟨Nat.zero_le _, Nat.zero_le _⟩ ?_
  refine lv_if_eq (tgt := 17) hx hb dX3_tacky_7 rfl (fun c7 => ?_) (fun c7 => ?_)
  · replace c7 := bn_0 c7
    refine lv_aload_n hx hb dX3_tacky_17 rfl (lv_at hl 0 rfl) ?_
    refine va_get (ci := 3) (v := .ref (B 1)) hx hb hts wx_X3 hown hK hP 0 rfl rfl 0 (by decide) (hts _ wf_X3_10) (fun _ h9 => h9) rfl dX3_tacky_18 ?_
    refine va_get (ci := 0) (v := .int (gG 2)) hx hb hts wx_X0 hown hK hP 1 rfl rfl 1 (by decide) (hts _ wf_X3_56) (fun _ h9 => h9) rfl dX3_tacky_21 ?_
    refine lv_istore_n (lv' := [(2, .int (gG 2)), (0, .ref (B 0)), (1, .int v)]) hx hb dX3_tacky_24 rfl hl (by decide) rfl (fun ls hl => ?_)
    refine lv_aload_n hx hb dX3_tacky_25 rfl (lv_at hl 1 rfl) ?_
    refine va_get (ci := 3) (v := .ref (B 1)) hx hb hts wx_X3 hown hK hP 0 rfl rfl 0 (by decide) (hts _ wf_X3_10) (fun _ h9 => h9) rfl dX3_tacky_26 ?_
    refine lv_iload_n hx hb dX3_tacky_29 rfl (lv_at hl 2 rfl) ?_
    refine va_put (ci := 0) (v := .int v) (ty := tyX0 1) hx hb hts wx_X0 tyX0 tyX0_ok nmX0 hown hK hP hD hS 1 rfl rfl 1 (by decide) (hts _ wf_X3_56) (fun _ h9 => h9) rfl (tyX0_ok 1 (by decide)) rfl rfl (Nat.le_of_ble_eq_true rfl) dX3_tacky_30 (fun H locs hP hD hS => ?_)
    have hP := hP.fi 2 (tl (upd gG 2 v)) rfl (fun z9 _ => congrFun (tl_lo gG 2 _ (by decide)) z9)
    have hP : va_P D vwCl (VW cI cJ cO B (upd gG 2 v) tG kG ik le by_ tk bg en va tn b0 l0 u0 b1 l1 u1 b2 l2 u2 b3 l3 u3 fS cW) H := hP
    have hD : va_D _ (VW cI cJ cO B (upd gG 2 v) tG kG ik le by_ tk bg en va tn b0 l0 u0 b1 l1 u1 b2 l2 u2 b3 l3 u3 fS cW) := hD.addr rfl
    refine lv_iload_n hx hb dX3_tacky_33 rfl (lv_at hl 0 rfl) ?_
    have hE : upd gG 2 v = tackyG gG v := by simp [tackyR, tackyG, okT, bump, put9, b2i, c7, i_lt, -Int32.not_le, -Int32.not_lt]
    have hW : (VW cI cJ cO B (upd gG 2 v) tG kG ik le by_ tk bg en va tn b0 l0 u0 b1 l1 u1 b2 l2 u2 b3 l3 u3 fS cW) = (VW cI cJ cO B (tackyG gG v) tG kG ik le by_ tk bg en va tn b0 l0 u0 b1 l1 u1 b2 l2 u2 b3 l3 u3 fS cW) := congrArg (fun z => (VW cI cJ cO B z tG kG ik le by_ tk bg en va tn b0 l0 u0 b1 l1 u1 b2 l2 u2 b3 l3 u3 fS cW)) hE
    have hP : va_P D vwCl (VW cI cJ cO B (tackyG gG v) tG kG ik le by_ tk bg en va tn b0 l0 u0 b1 l1 u1 b2 l2 u2 b3 l3 u3 fS cW) H := Eq.mp (congrArg (fun z => va_P D vwCl z H) hW) hP
    have hD : va_D _ (VW cI cJ cO B (tackyG gG v) tG kG ik le by_ tk bg en va tn b0 l0 u0 b1 l1 u1 b2 l2 u2 b3 l3 u3 fS cW) := Eq.mp (congrArg (fun z => va_D _ z) hW) hD
    have hE : fS = okT (inI v 0 8) fS := by simp [tackyR, tackyG, okT, bump, put9, b2i, c7, i_lt, -Int32.not_le, -Int32.not_lt]
    have hW : (VW cI cJ cO B (tackyG gG v) tG kG ik le by_ tk bg en va tn b0 l0 u0 b1 l1 u1 b2 l2 u2 b3 l3 u3 fS cW) = (VW cI cJ cO B (tackyG gG v) tG kG ik le by_ tk bg en va tn b0 l0 u0 b1 l1 u1 b2 l2 u2 b3 l3 u3 (okT (inI v 0 8) fS) cW) := congrArg (fun z => (VW cI cJ cO B (tackyG gG v) tG kG ik le by_ tk bg en va tn b0 l0 u0 b1 l1 u1 b2 l2 u2 b3 l3 u3 z cW)) hE
    have hP : va_P D vwCl (VW cI cJ cO B (tackyG gG v) tG kG ik le by_ tk bg en va tn b0 l0 u0 b1 l1 u1 b2 l2 u2 b3 l3 u3 (okT (inI v 0 8) fS) cW) H := Eq.mp (congrArg (fun z => va_P D vwCl z H) hW) hP
    have hD : va_D _ (VW cI cJ cO B (tackyG gG v) tG kG ik le by_ tk bg en va tn b0 l0 u0 b1 l1 u1 b2 l2 u2 b3 l3 u3 (okT (inI v 0 8) fS) cW) := Eq.mp (congrArg (fun z => va_D _ z) hW) hD
    exact mu_iret (VW cI cJ cO B (tackyG gG v) tG kG ik le by_ tk bg en va tn b0 l0 u0 b1 l1 u1 b2 l2 u2 b3 l3 u3 (okT (inI v 0 8) fS) cW) hx hb hr hlk hP hS rfl (⟨congrArg (fun z => some (Value.int z)) (by simp [tackyR, tackyG, okT, bump, put9, b2i, c7, i_lt, -Int32.not_le, -Int32.not_lt]), rfl⟩) dX3_tacky_34
  · replace c7 := bn_n0 c7
    refine lv_aload_n hx hb dX3_tacky_10 rfl (lv_at hl 0 rfl) ?_
    refine lv_ldc (v := (-1000000001)) hx hb hown (hts _ wq_X3_51) dX3_tacky_11 ?_
    refine mu_W (w := (VW cI cJ cO B gG tG kG ik le by_ tk bg en va tn b0 l0 u0 b1 l1 u1 b2 l2 u2 b3 l3 u3 fS cW)) (rest := []) S hK hP hD hS (k_X3_finding 0 (-1000000001) (by decide) (by decide)) gv_X3_52 hd_X3_finding ⟨Nat.le_of_ble_eq_true rfl, Nat.le_of_ble_eq_true rfl⟩ 3 rfl rfl rfl rfl hl.1 (lv_room (Nat.le_of_ble_eq_true rfl)) dX3_tacky_13 ⟨Nat.zero_le _, Nat.zero_le _⟩ (fun ov w' H locs hp hP hD hS => ?_)
    obtain ⟨rfl, rfl⟩ := hp
    refine W.eq (g2 := F0 m 16 ls [.int (-1000000001)]) rfl ?_
    have hE : gG = tackyG gG v := by simp [tackyR, tackyG, okT, bump, put9, b2i, c7, i_lt, -Int32.not_le, -Int32.not_lt]
    have hW : (VW cI cJ cO B gG tG kG ik le by_ tk bg en va tn b0 l0 u0 b1 l1 u1 b2 l2 u2 b3 l3 u3 (upd fS 0 (fS 0 + 1)) cW) = (VW cI cJ cO B (tackyG gG v) tG kG ik le by_ tk bg en va tn b0 l0 u0 b1 l1 u1 b2 l2 u2 b3 l3 u3 (upd fS 0 (fS 0 + 1)) cW) := congrArg (fun z => (VW cI cJ cO B z tG kG ik le by_ tk bg en va tn b0 l0 u0 b1 l1 u1 b2 l2 u2 b3 l3 u3 (upd fS 0 (fS 0 + 1)) cW)) hE
    have hP : va_P D vwCl (VW cI cJ cO B (tackyG gG v) tG kG ik le by_ tk bg en va tn b0 l0 u0 b1 l1 u1 b2 l2 u2 b3 l3 u3 (upd fS 0 (fS 0 + 1)) cW) H := Eq.mp (congrArg (fun z => va_P D vwCl z H) hW) hP
    have hD : va_D _ (VW cI cJ cO B (tackyG gG v) tG kG ik le by_ tk bg en va tn b0 l0 u0 b1 l1 u1 b2 l2 u2 b3 l3 u3 (upd fS 0 (fS 0 + 1)) cW) := Eq.mp (congrArg (fun z => va_D _ z) hW) hD
    have hE : upd fS 0 (fS 0 + 1) = okT (inI v 0 8) fS := by simp [tackyR, tackyG, okT, bump, put9, b2i, c7, i_lt, -Int32.not_le, -Int32.not_lt]
    have hW : (VW cI cJ cO B (tackyG gG v) tG kG ik le by_ tk bg en va tn b0 l0 u0 b1 l1 u1 b2 l2 u2 b3 l3 u3 (upd fS 0 (fS 0 + 1)) cW) = (VW cI cJ cO B (tackyG gG v) tG kG ik le by_ tk bg en va tn b0 l0 u0 b1 l1 u1 b2 l2 u2 b3 l3 u3 (okT (inI v 0 8) fS) cW) := congrArg (fun z => (VW cI cJ cO B (tackyG gG v) tG kG ik le by_ tk bg en va tn b0 l0 u0 b1 l1 u1 b2 l2 u2 b3 l3 u3 z cW)) hE
    have hP : va_P D vwCl (VW cI cJ cO B (tackyG gG v) tG kG ik le by_ tk bg en va tn b0 l0 u0 b1 l1 u1 b2 l2 u2 b3 l3 u3 (okT (inI v 0 8) fS) cW) H := Eq.mp (congrArg (fun z => va_P D vwCl z H) hW) hP
    have hD : va_D _ (VW cI cJ cO B (tackyG gG v) tG kG ik le by_ tk bg en va tn b0 l0 u0 b1 l1 u1 b2 l2 u2 b3 l3 u3 (okT (inI v 0 8) fS) cW) := Eq.mp (congrArg (fun z => va_D _ z) hW) hD
    exact mu_iret (VW cI cJ cO B (tackyG gG v) tG kG ik le by_ tk bg en va tn b0 l0 u0 b1 l1 u1 b2 l2 u2 b3 l3 u3 (okT (inI v 0 8) fS) cW) hx hb hr hlk hP hS rfl (⟨congrArg (fun z => some (Value.int z)) (by simp [tackyR, tackyG, okT, bump, put9, b2i, c7, i_lt, -Int32.not_le, -Int32.not_lt]), rfl⟩) dX3_tacky_16

set_option maxHeartbeats 4000000 in
set_option maxRecDepth 100000 in
theorem k_X3_now (n : Nat) (w : Int32) (hI : Inv gG n) (hh : 0 ≤ gG 0) : MU l D (tyA cI cJ cO) yX3_now cX3_now 2 ((some .int)) 5 113 [.ref (B 0), .int w] (VW cI cJ cO B gG tG kG ik le by_ tk bg en va tn b0 l0 u0 b1 l1 u1 b2 l2 u2 b3 l3 u3 fS cW) (fun ov w' => ov = some (.int (nowR gG n w)) ∧ w' = (VW cI cJ cO B gG tG kG ik le by_ tk bg en va tn b0 l0 u0 b1 l1 u1 b2 l2 u2 b3 l3 u3 (nowT fS w) cW)) := by
  refine MU.mk (by decide) (Nat.le_of_ble_eq_true rfl) ?_
  intro p e s m below meth c ls S hr hlk hP hK hD hS hl
  have S : CallFix p m c cX3_now 2 s _ WL RX3 := S
  obtain ⟨hx, hb, hml, hown, hts⟩ := id S
  have hl : lv_has ls 2 [(0, .ref (B 0)), (1, .int w)] := hl
  have h8 : n ≤ 8 := hI.1
  refine lv_iload_n hx hb dX3_now_0 rfl (lv_at hl 1 rfl) ?_
  by_cases c1_0 : w = 0
  · refine lv_tableIn (tgt := 48) hx hb dX3_now_1 (by rw [c1_0]; decide) (by rw [c1_0]; decide) (by rw [c1_0]; rfl) rfl ?_
    refine lv_aload_n hx hb dX3_now_48 rfl (lv_at hl 0 rfl) ?_
    refine va_get (ci := 3) (v := .ref (B 1)) hx hb hts wx_X3 hown hK hP 0 rfl rfl 0 (by decide) (hts _ wf_X3_10) (fun _ h9 => h9) rfl dX3_now_49 ?_
    refine va_get (ci := 0) (v := .int (gG 0)) hx hb hts wx_X0 hown hK hP 1 rfl rfl 0 (by decide) (hts _ wf_X3_60) (fun _ h9 => h9) rfl dX3_now_52 ?_
    have hE : fS = nowT fS w := by simp [nowR, nowT, bump, put9, b2i, c1_0, i_lt, -Int32.not_le, -Int32.not_lt]
    have hW : (VW cI cJ cO B gG tG kG ik le by_ tk bg en va tn b0 l0 u0 b1 l1 u1 b2 l2 u2 b3 l3 u3 fS cW) = (VW cI cJ cO B gG tG kG ik le by_ tk bg en va tn b0 l0 u0 b1 l1 u1 b2 l2 u2 b3 l3 u3 (nowT fS w) cW) := congrArg (fun z => (VW cI cJ cO B gG tG kG ik le by_ tk bg en va tn b0 l0 u0 b1 l1 u1 b2 l2 u2 b3 l3 u3 z cW)) hE
    have hP : va_P D vwCl (VW cI cJ cO B gG tG kG ik le by_ tk bg en va tn b0 l0 u0 b1 l1 u1 b2 l2 u2 b3 l3 u3 (nowT fS w) cW) s.heap := Eq.mp (congrArg (fun z => va_P D vwCl z s.heap) hW) hP
    have hD : va_D _ (VW cI cJ cO B gG tG kG ik le by_ tk bg en va tn b0 l0 u0 b1 l1 u1 b2 l2 u2 b3 l3 u3 (nowT fS w) cW) := Eq.mp (congrArg (fun z => va_D _ z) hW) hD
    exact mu_iret (VW cI cJ cO B gG tG kG ik le by_ tk bg en va tn b0 l0 u0 b1 l1 u1 b2 l2 u2 b3 l3 u3 (nowT fS w) cW) hx hb hr hlk hP hS rfl (⟨congrArg (fun z => some (Value.int z)) (by simp [nowR, nowT, bump, put9, b2i, c1_0, i_lt, -Int32.not_le, -Int32.not_lt]), rfl⟩) dX3_now_55
  by_cases c1_1 : w = 1
  · refine lv_tableIn (tgt := 56) hx hb dX3_now_1 (by rw [c1_1]; decide) (by rw [c1_1]; decide) (by rw [c1_1]; rfl) rfl ?_
    refine lv_aload_n hx hb dX3_now_56 rfl (lv_at hl 0 rfl) ?_
    refine va_get (ci := 3) (v := .ref (B 1)) hx hb hts wx_X3 hown hK hP 0 rfl rfl 0 (by decide) (hts _ wf_X3_10) (fun _ h9 => h9) rfl dX3_now_57 ?_
    refine ro_V (w := (GW cI (B 1) (B 2) (gG 0) (gG 2) (gG 1) (tl gG))) (rest := []) S hK (hP.sub [1, 2] rfl) (k_X0_hourOfNight ) gv_X3_63 hd_X0_hourOfNight ⟨Nat.le_of_ble_eq_true rfl, Nat.le_of_ble_eq_true rfl⟩ 0 rfl rfl rfl rfl hl.1 (lv_room (Nat.le_of_ble_eq_true rfl)) dX3_now_60 ⟨Nat.zero_le _, Nat.zero_le _⟩ ?_
    have hE : fS = nowT fS w := by simp [nowR, nowT, bump, put9, b2i, c1_0, c1_1, i_lt, -Int32.not_le, -Int32.not_lt]
    have hW : (VW cI cJ cO B gG tG kG ik le by_ tk bg en va tn b0 l0 u0 b1 l1 u1 b2 l2 u2 b3 l3 u3 fS cW) = (VW cI cJ cO B gG tG kG ik le by_ tk bg en va tn b0 l0 u0 b1 l1 u1 b2 l2 u2 b3 l3 u3 (nowT fS w) cW) := congrArg (fun z => (VW cI cJ cO B gG tG kG ik le by_ tk bg en va tn b0 l0 u0 b1 l1 u1 b2 l2 u2 b3 l3 u3 z cW)) hE
    have hP : va_P D vwCl (VW cI cJ cO B gG tG kG ik le by_ tk bg en va tn b0 l0 u0 b1 l1 u1 b2 l2 u2 b3 l3 u3 (nowT fS w) cW) s.heap := Eq.mp (congrArg (fun z => va_P D vwCl z s.heap) hW) hP
    have hD : va_D _ (VW cI cJ cO B gG tG kG ik le by_ tk bg en va tn b0 l0 u0 b1 l1 u1 b2 l2 u2 b3 l3 u3 (nowT fS w) cW) := Eq.mp (congrArg (fun z => va_D _ z) hW) hD
    exact mu_iret (VW cI cJ cO B gG tG kG ik le by_ tk bg en va tn b0 l0 u0 b1 l1 u1 b2 l2 u2 b3 l3 u3 (nowT fS w) cW) hx hb hr hlk hP hS rfl (⟨congrArg (fun z => some (Value.int z)) (by simp [nowR, nowT, bump, put9, b2i, c1_0, c1_1, i_lt, -Int32.not_le, -Int32.not_lt]), rfl⟩) dX3_now_63
  by_cases c1_2 : w = 2
  · refine lv_tableIn (tgt := 64) hx hb dX3_now_1 (by rw [c1_2]; decide) (by rw [c1_2]; decide) (by rw [c1_2]; rfl) rfl ?_
    refine lv_aload_n hx hb dX3_now_64 rfl (lv_at hl 0 rfl) ?_
    refine va_get (ci := 3) (v := .ref (B 1)) hx hb hts wx_X3 hown hK hP 0 rfl rfl 0 (by decide) (hts _ wf_X3_10) (fun _ h9 => h9) rfl dX3_now_65 ?_
    refine ro_V (w := (GW cI (B 1) (B 2) (gG 0) (gG 2) (gG 1) (tl gG))) (rest := []) S hK (hP.sub [1, 2] rfl) (k_X0_isTacky ) gv_X3_67 hd_X0_isTacky ⟨Nat.le_of_ble_eq_true rfl, Nat.le_of_ble_eq_true rfl⟩ 0 rfl rfl rfl rfl hl.1 (lv_room (Nat.le_of_ble_eq_true rfl)) dX3_now_68 ⟨Nat.zero_le _, Nat.zero_le _⟩ ?_
    refine lv_if_eq (tgt := 78) hx hb dX3_now_71 rfl (fun c71 => ?_) (fun c71 => ?_)
    · replace c71 := (b2i_0 _).mp c71
      refine lv_iconst (v := 0) hx hb dX3_now_78 rfl ?_
      have hE : fS = nowT fS w := by simp [nowR, nowT, bump, put9, b2i, c1_0, c1_1, c1_2, c71, i_lt, -Int32.not_le, -Int32.not_lt]
      have hW : (VW cI cJ cO B gG tG kG ik le by_ tk bg en va tn b0 l0 u0 b1 l1 u1 b2 l2 u2 b3 l3 u3 fS cW) = (VW cI cJ cO B gG tG kG ik le by_ tk bg en va tn b0 l0 u0 b1 l1 u1 b2 l2 u2 b3 l3 u3 (nowT fS w) cW) := congrArg (fun z => (VW cI cJ cO B gG tG kG ik le by_ tk bg en va tn b0 l0 u0 b1 l1 u1 b2 l2 u2 b3 l3 u3 z cW)) hE
      have hP : va_P D vwCl (VW cI cJ cO B gG tG kG ik le by_ tk bg en va tn b0 l0 u0 b1 l1 u1 b2 l2 u2 b3 l3 u3 (nowT fS w) cW) s.heap := Eq.mp (congrArg (fun z => va_P D vwCl z s.heap) hW) hP
      have hD : va_D _ (VW cI cJ cO B gG tG kG ik le by_ tk bg en va tn b0 l0 u0 b1 l1 u1 b2 l2 u2 b3 l3 u3 (nowT fS w) cW) := Eq.mp (congrArg (fun z => va_D _ z) hW) hD
      exact mu_iret (VW cI cJ cO B gG tG kG ik le by_ tk bg en va tn b0 l0 u0 b1 l1 u1 b2 l2 u2 b3 l3 u3 (nowT fS w) cW) hx hb hr hlk hP hS rfl (⟨congrArg (fun z => some (Value.int z)) (by simp [nowR, nowT, bump, put9, b2i, c1_0, c1_1, c1_2, c71, i_lt, -Int32.not_le, -Int32.not_lt]), rfl⟩) dX3_now_79
    · replace c71 := b2i_n0 c71
      refine lv_iconst (v := 1) hx hb dX3_now_74 rfl ?_
      refine lv_goto (tgt := 79) hx hb dX3_now_75 rfl ?_
      have hE : fS = nowT fS w := by simp [nowR, nowT, bump, put9, b2i, c1_0, c1_1, c1_2, c71, i_lt, -Int32.not_le, -Int32.not_lt]
      have hW : (VW cI cJ cO B gG tG kG ik le by_ tk bg en va tn b0 l0 u0 b1 l1 u1 b2 l2 u2 b3 l3 u3 fS cW) = (VW cI cJ cO B gG tG kG ik le by_ tk bg en va tn b0 l0 u0 b1 l1 u1 b2 l2 u2 b3 l3 u3 (nowT fS w) cW) := congrArg (fun z => (VW cI cJ cO B gG tG kG ik le by_ tk bg en va tn b0 l0 u0 b1 l1 u1 b2 l2 u2 b3 l3 u3 z cW)) hE
      have hP : va_P D vwCl (VW cI cJ cO B gG tG kG ik le by_ tk bg en va tn b0 l0 u0 b1 l1 u1 b2 l2 u2 b3 l3 u3 (nowT fS w) cW) s.heap := Eq.mp (congrArg (fun z => va_P D vwCl z s.heap) hW) hP
      have hD : va_D _ (VW cI cJ cO B gG tG kG ik le by_ tk bg en va tn b0 l0 u0 b1 l1 u1 b2 l2 u2 b3 l3 u3 (nowT fS w) cW) := Eq.mp (congrArg (fun z => va_D _ z) hW) hD
      exact mu_iret (VW cI cJ cO B gG tG kG ik le by_ tk bg en va tn b0 l0 u0 b1 l1 u1 b2 l2 u2 b3 l3 u3 (nowT fS w) cW) hx hb hr hlk hP hS rfl (⟨congrArg (fun z => some (Value.int z)) (by simp [nowR, nowT, bump, put9, b2i, c1_0, c1_1, c1_2, c71, i_lt, -Int32.not_le, -Int32.not_lt]), rfl⟩) dX3_now_79
  by_cases c1_3 : w = 3
  · refine lv_tableIn (tgt := 80) hx hb dX3_now_1 (by rw [c1_3]; decide) (by rw [c1_3]; decide) (by rw [c1_3]; rfl) rfl ?_
    refine lv_aload_n hx hb dX3_now_80 rfl (lv_at hl 0 rfl) ?_
    refine va_get (ci := 3) (v := .ref (B 1)) hx hb hts wx_X3 hown hK hP 0 rfl rfl 0 (by decide) (hts _ wf_X3_10) (fun _ h9 => h9) rfl dX3_now_81 ?_
    refine ro_V (w := (GW cI (B 1) (B 2) (gG 0) (gG 2) (gG 1) (tl gG))) (rest := []) S hK (hP.sub [1, 2] rfl) (k_X0_whoIsContent n hI) gv_X3_71 hd_X0_whoIsContent ⟨Nat.le_of_ble_eq_true rfl, Nat.le_of_ble_eq_true rfl⟩ 0 rfl rfl rfl rfl hl.1 (lv_room (Nat.le_of_ble_eq_true rfl)) dX3_now_84 ⟨Nat.zero_le _, Nat.zero_le _⟩ ?_
    have hE : fS = nowT fS w := by simp [nowR, nowT, bump, put9, b2i, c1_0, c1_1, c1_2, c1_3, i_lt, -Int32.not_le, -Int32.not_lt]
    have hW : (VW cI cJ cO B gG tG kG ik le by_ tk bg en va tn b0 l0 u0 b1 l1 u1 b2 l2 u2 b3 l3 u3 fS cW) = (VW cI cJ cO B gG tG kG ik le by_ tk bg en va tn b0 l0 u0 b1 l1 u1 b2 l2 u2 b3 l3 u3 (nowT fS w) cW) := congrArg (fun z => (VW cI cJ cO B gG tG kG ik le by_ tk bg en va tn b0 l0 u0 b1 l1 u1 b2 l2 u2 b3 l3 u3 z cW)) hE
    have hP : va_P D vwCl (VW cI cJ cO B gG tG kG ik le by_ tk bg en va tn b0 l0 u0 b1 l1 u1 b2 l2 u2 b3 l3 u3 (nowT fS w) cW) s.heap := Eq.mp (congrArg (fun z => va_P D vwCl z s.heap) hW) hP
    have hD : va_D _ (VW cI cJ cO B gG tG kG ik le by_ tk bg en va tn b0 l0 u0 b1 l1 u1 b2 l2 u2 b3 l3 u3 (nowT fS w) cW) := Eq.mp (congrArg (fun z => va_D _ z) hW) hD
    exact mu_iret (VW cI cJ cO B gG tG kG ik le by_ tk bg en va tn b0 l0 u0 b1 l1 u1 b2 l2 u2 b3 l3 u3 (nowT fS w) cW) hx hb hr hlk hP hS rfl (⟨congrArg (fun z => some (Value.int z)) (by simp [nowR, nowT, bump, put9, b2i, c1_0, c1_1, c1_2, c1_3, i_lt, -Int32.not_le, -Int32.not_lt]), rfl⟩) dX3_now_87
  by_cases c1_4 : w = 4
  · refine lv_tableIn (tgt := 88) hx hb dX3_now_1 (by rw [c1_4]; decide) (by rw [c1_4]; decide) (by rw [c1_4]; rfl) rfl ?_
    refine lv_aload_n hx hb dX3_now_88 rfl (lv_at hl 0 rfl) ?_
    refine va_get (ci := 3) (v := .ref (B 1)) hx hb hts wx_X3 hown hK hP 0 rfl rfl 0 (by decide) (hts _ wf_X3_10) (fun _ h9 => h9) rfl dX3_now_89 ?_
    refine ro_V (w := (GW cI (B 1) (B 2) (gG 0) (gG 2) (gG 1) (tl gG))) (rest := []) S hK (hP.sub [1, 2] rfl) (k_X0_whoIsWaiting n hI hh) gv_X3_74 hd_X0_whoIsWaiting ⟨Nat.le_of_ble_eq_true rfl, Nat.le_of_ble_eq_true rfl⟩ 0 rfl rfl rfl rfl hl.1 (lv_room (Nat.le_of_ble_eq_true rfl)) dX3_now_92 ⟨Nat.zero_le _, Nat.zero_le _⟩ ?_
    have hE : fS = nowT fS w := by simp [nowR, nowT, bump, put9, b2i, c1_0, c1_1, c1_2, c1_3, c1_4, i_lt, -Int32.not_le, -Int32.not_lt]
    have hW : (VW cI cJ cO B gG tG kG ik le by_ tk bg en va tn b0 l0 u0 b1 l1 u1 b2 l2 u2 b3 l3 u3 fS cW) = (VW cI cJ cO B gG tG kG ik le by_ tk bg en va tn b0 l0 u0 b1 l1 u1 b2 l2 u2 b3 l3 u3 (nowT fS w) cW) := congrArg (fun z => (VW cI cJ cO B gG tG kG ik le by_ tk bg en va tn b0 l0 u0 b1 l1 u1 b2 l2 u2 b3 l3 u3 z cW)) hE
    have hP : va_P D vwCl (VW cI cJ cO B gG tG kG ik le by_ tk bg en va tn b0 l0 u0 b1 l1 u1 b2 l2 u2 b3 l3 u3 (nowT fS w) cW) s.heap := Eq.mp (congrArg (fun z => va_P D vwCl z s.heap) hW) hP
    have hD : va_D _ (VW cI cJ cO B gG tG kG ik le by_ tk bg en va tn b0 l0 u0 b1 l1 u1 b2 l2 u2 b3 l3 u3 (nowT fS w) cW) := Eq.mp (congrArg (fun z => va_D _ z) hW) hD
    exact mu_iret (VW cI cJ cO B gG tG kG ik le by_ tk bg en va tn b0 l0 u0 b1 l1 u1 b2 l2 u2 b3 l3 u3 (nowT fS w) cW) hx hb hr hlk hP hS rfl (⟨congrArg (fun z => some (Value.int z)) (by simp [nowR, nowT, bump, put9, b2i, c1_0, c1_1, c1_2, c1_3, c1_4, i_lt, -Int32.not_le, -Int32.not_lt]), rfl⟩) dX3_now_95
  by_cases c1_5 : w = 5
  · refine lv_tableIn (tgt := 96) hx hb dX3_now_1 (by rw [c1_5]; decide) (by rw [c1_5]; decide) (by rw [c1_5]; rfl) rfl ?_
    refine lv_aload_n hx hb dX3_now_96 rfl (lv_at hl 0 rfl) ?_
    refine va_get (ci := 3) (v := .ref (B 1)) hx hb hts wx_X3 hown hK hP 0 rfl rfl 0 (by decide) (hts _ wf_X3_10) (fun _ h9 => h9) rfl dX3_now_97 ?_
    refine ro_V (w := (GW cI (B 1) (B 2) (gG 0) (gG 2) (gG 1) (tl gG))) (rest := []) S hK (hP.sub [1, 2] rfl) (k_X0_whoIsSeen n hI) gv_X3_77 hd_X0_whoIsSeen ⟨Nat.le_of_ble_eq_true rfl, Nat.le_of_ble_eq_true rfl⟩ 0 rfl rfl rfl rfl hl.1 (lv_room (Nat.le_of_ble_eq_true rfl)) dX3_now_100 ⟨Nat.zero_le _, Nat.zero_le _⟩ ?_
    have hE : fS = nowT fS w := by simp [nowR, nowT, bump, put9, b2i, c1_0, c1_1, c1_2, c1_3, c1_4, c1_5, i_lt, -Int32.not_le, -Int32.not_lt]
    have hW : (VW cI cJ cO B gG tG kG ik le by_ tk bg en va tn b0 l0 u0 b1 l1 u1 b2 l2 u2 b3 l3 u3 fS cW) = (VW cI cJ cO B gG tG kG ik le by_ tk bg en va tn b0 l0 u0 b1 l1 u1 b2 l2 u2 b3 l3 u3 (nowT fS w) cW) := congrArg (fun z => (VW cI cJ cO B gG tG kG ik le by_ tk bg en va tn b0 l0 u0 b1 l1 u1 b2 l2 u2 b3 l3 u3 z cW)) hE
    have hP : va_P D vwCl (VW cI cJ cO B gG tG kG ik le by_ tk bg en va tn b0 l0 u0 b1 l1 u1 b2 l2 u2 b3 l3 u3 (nowT fS w) cW) s.heap := Eq.mp (congrArg (fun z => va_P D vwCl z s.heap) hW) hP
    have hD : va_D _ (VW cI cJ cO B gG tG kG ik le by_ tk bg en va tn b0 l0 u0 b1 l1 u1 b2 l2 u2 b3 l3 u3 (nowT fS w) cW) := Eq.mp (congrArg (fun z => va_D _ z) hW) hD
    exact mu_iret (VW cI cJ cO B gG tG kG ik le by_ tk bg en va tn b0 l0 u0 b1 l1 u1 b2 l2 u2 b3 l3 u3 (nowT fS w) cW) hx hb hr hlk hP hS rfl (⟨congrArg (fun z => some (Value.int z)) (by simp [nowR, nowT, bump, put9, b2i, c1_0, c1_1, c1_2, c1_3, c1_4, c1_5, i_lt, -Int32.not_le, -Int32.not_lt]), rfl⟩) dX3_now_103
  by_cases c1_6 : w = 6
  · refine lv_tableIn (tgt := 104) hx hb dX3_now_1 (by rw [c1_6]; decide) (by rw [c1_6]; decide) (by rw [c1_6]; rfl) rfl ?_
    refine lv_aload_n hx hb dX3_now_104 rfl (lv_at hl 0 rfl) ?_
    refine va_get (ci := 3) (v := .ref (B 1)) hx hb hts wx_X3 hown hK hP 0 rfl rfl 0 (by decide) (hts _ wf_X3_10) (fun _ h9 => h9) rfl dX3_now_105 ?_
    refine lv_bipush (v := 7) hx hb dX3_now_108 rfl ?_
    refine lv_iconst (v := 1) hx hb dX3_now_110 rfl ?_
    refine ro_V (w := (GW cI (B 1) (B 2) (gG 0) (gG 2) (gG 1) (tl gG))) (rest := []) S hK (hP.sub [1, 2] rfl) (k_X0_whoHas n 7 1 hI (by omega)) gv_X3_80 hd_X0_whoHas ⟨Nat.le_of_ble_eq_true rfl, Nat.le_of_ble_eq_true rfl⟩ 0 rfl rfl rfl rfl hl.1 (lv_room (Nat.le_of_ble_eq_true rfl)) dX3_now_111 ⟨Nat.zero_le _, Nat.zero_le _⟩ ?_
    refine w_i (z := setF (outP gG) n) (rfl) ?_
    have hE : fS = nowT fS w := by simp [nowR, nowT, bump, put9, b2i, c1_0, c1_1, c1_2, c1_3, c1_4, c1_5, c1_6, i_lt, -Int32.not_le, -Int32.not_lt]
    have hW : (VW cI cJ cO B gG tG kG ik le by_ tk bg en va tn b0 l0 u0 b1 l1 u1 b2 l2 u2 b3 l3 u3 fS cW) = (VW cI cJ cO B gG tG kG ik le by_ tk bg en va tn b0 l0 u0 b1 l1 u1 b2 l2 u2 b3 l3 u3 (nowT fS w) cW) := congrArg (fun z => (VW cI cJ cO B gG tG kG ik le by_ tk bg en va tn b0 l0 u0 b1 l1 u1 b2 l2 u2 b3 l3 u3 z cW)) hE
    have hP : va_P D vwCl (VW cI cJ cO B gG tG kG ik le by_ tk bg en va tn b0 l0 u0 b1 l1 u1 b2 l2 u2 b3 l3 u3 (nowT fS w) cW) s.heap := Eq.mp (congrArg (fun z => va_P D vwCl z s.heap) hW) hP
    have hD : va_D _ (VW cI cJ cO B gG tG kG ik le by_ tk bg en va tn b0 l0 u0 b1 l1 u1 b2 l2 u2 b3 l3 u3 (nowT fS w) cW) := Eq.mp (congrArg (fun z => va_D _ z) hW) hD
    exact mu_iret (VW cI cJ cO B gG tG kG ik le by_ tk bg en va tn b0 l0 u0 b1 l1 u1 b2 l2 u2 b3 l3 u3 (nowT fS w) cW) hx hb hr hlk hP hS rfl (⟨congrArg (fun z => some (Value.int z)) (by simp [nowR, nowT, bump, put9, b2i, c1_0, c1_1, c1_2, c1_3, c1_4, c1_5, c1_6, i_lt, -Int32.not_le, -Int32.not_lt]), rfl⟩) dX3_now_114
  by_cases c1_7 : w = 7
  · refine lv_tableIn (tgt := 115) hx hb dX3_now_1 (by rw [c1_7]; decide) (by rw [c1_7]; decide) (by rw [c1_7]; rfl) rfl ?_
    refine lv_aload_n hx hb dX3_now_115 rfl (lv_at hl 0 rfl) ?_
    refine va_get (ci := 3) (v := .ref (B 1)) hx hb hts wx_X3 hown hK hP 0 rfl rfl 0 (by decide) (hts _ wf_X3_10) (fun _ h9 => h9) rfl dX3_now_116 ?_
    refine lv_bipush (v := 8) hx hb dX3_now_119 rfl ?_
    refine ro_V (w := (GW cI (B 1) (B 2) (gG 0) (gG 2) (gG 1) (tl gG))) (rest := []) S hK (hP.sub [1, 2] rfl) (k_X0_sum n 8 hI (by omega)) gv_X3_84 hd_X0_sum ⟨Nat.le_of_ble_eq_true rfl, Nat.le_of_ble_eq_true rfl⟩ 0 rfl rfl rfl rfl hl.1 (lv_room (Nat.le_of_ble_eq_true rfl)) dX3_now_121 ⟨Nat.zero_le _, Nat.zero_le _⟩ ?_
    have hE : fS = nowT fS w := by simp [nowR, nowT, bump, put9, b2i, c1_0, c1_1, c1_2, c1_3, c1_4, c1_5, c1_6, c1_7, i_lt, -Int32.not_le, -Int32.not_lt]
    have hW : (VW cI cJ cO B gG tG kG ik le by_ tk bg en va tn b0 l0 u0 b1 l1 u1 b2 l2 u2 b3 l3 u3 fS cW) = (VW cI cJ cO B gG tG kG ik le by_ tk bg en va tn b0 l0 u0 b1 l1 u1 b2 l2 u2 b3 l3 u3 (nowT fS w) cW) := congrArg (fun z => (VW cI cJ cO B gG tG kG ik le by_ tk bg en va tn b0 l0 u0 b1 l1 u1 b2 l2 u2 b3 l3 u3 z cW)) hE
    have hP : va_P D vwCl (VW cI cJ cO B gG tG kG ik le by_ tk bg en va tn b0 l0 u0 b1 l1 u1 b2 l2 u2 b3 l3 u3 (nowT fS w) cW) s.heap := Eq.mp (congrArg (fun z => va_P D vwCl z s.heap) hW) hP
    have hD : va_D _ (VW cI cJ cO B gG tG kG ik le by_ tk bg en va tn b0 l0 u0 b1 l1 u1 b2 l2 u2 b3 l3 u3 (nowT fS w) cW) := Eq.mp (congrArg (fun z => va_D _ z) hW) hD
    exact mu_iret (VW cI cJ cO B gG tG kG ik le by_ tk bg en va tn b0 l0 u0 b1 l1 u1 b2 l2 u2 b3 l3 u3 (nowT fS w) cW) hx hb hr hlk hP hS rfl (⟨congrArg (fun z => some (Value.int z)) (by simp [nowR, nowT, bump, put9, b2i, c1_0, c1_1, c1_2, c1_3, c1_4, c1_5, c1_6, c1_7, i_lt, -Int32.not_le, -Int32.not_lt]), rfl⟩) dX3_now_124
  refine lv_tableOut (tgt := 125) hx hb dX3_now_1 (by have q0 := lv_neT c1_0 (a := 0) rfl; have q1 := lv_neT c1_1 (a := 1) rfl; have q2 := lv_neT c1_2 (a := 2) rfl; have q3 := lv_neT c1_3 (a := 3) rfl; have q4 := lv_neT c1_4 (a := 4) rfl; have q5 := lv_neT c1_5 (a := 5) rfl; have q6 := lv_neT c1_6 (a := 6) rfl; have q7 := lv_neT c1_7 (a := 7) rfl; omega) rfl ?_
  refine lv_aload_n hx hb dX3_now_125 rfl (lv_at hl 0 rfl) ?_
  refine lv_ldc (v := (-1000000001)) hx hb hown (hts _ wq_X3_51) dX3_now_126 ?_
  refine mu_W (w := (VW cI cJ cO B gG tG kG ik le by_ tk bg en va tn b0 l0 u0 b1 l1 u1 b2 l2 u2 b3 l3 u3 fS cW)) (rest := []) S hK hP hD hS (k_X3_finding 0 (-1000000001) (by decide) (by decide)) gv_X3_52 hd_X3_finding ⟨Nat.le_of_ble_eq_true rfl, Nat.le_of_ble_eq_true rfl⟩ 3 rfl rfl rfl rfl hl.1 (lv_room (Nat.le_of_ble_eq_true rfl)) dX3_now_128 ⟨Nat.zero_le _, Nat.zero_le _⟩ (fun ov w' H locs hp hP hD hS => ?_)
  obtain ⟨rfl, rfl⟩ := hp
  refine W.eq (g2 := F0 m 131 ls [.int (-1000000001)]) rfl ?_
  have hE : upd fS 0 (fS 0 + 1) = nowT fS w := by simp [nowR, nowT, bump, put9, b2i, c1_0, c1_1, c1_2, c1_3, c1_4, c1_5, c1_6, c1_7, i_lt, -Int32.not_le, -Int32.not_lt]
  have hW : (VW cI cJ cO B gG tG kG ik le by_ tk bg en va tn b0 l0 u0 b1 l1 u1 b2 l2 u2 b3 l3 u3 (upd fS 0 (fS 0 + 1)) cW) = (VW cI cJ cO B gG tG kG ik le by_ tk bg en va tn b0 l0 u0 b1 l1 u1 b2 l2 u2 b3 l3 u3 (nowT fS w) cW) := congrArg (fun z => (VW cI cJ cO B gG tG kG ik le by_ tk bg en va tn b0 l0 u0 b1 l1 u1 b2 l2 u2 b3 l3 u3 z cW)) hE
  have hP : va_P D vwCl (VW cI cJ cO B gG tG kG ik le by_ tk bg en va tn b0 l0 u0 b1 l1 u1 b2 l2 u2 b3 l3 u3 (nowT fS w) cW) H := Eq.mp (congrArg (fun z => va_P D vwCl z H) hW) hP
  have hD : va_D _ (VW cI cJ cO B gG tG kG ik le by_ tk bg en va tn b0 l0 u0 b1 l1 u1 b2 l2 u2 b3 l3 u3 (nowT fS w) cW) := Eq.mp (congrArg (fun z => va_D _ z) hW) hD
  exact mu_iret (VW cI cJ cO B gG tG kG ik le by_ tk bg en va tn b0 l0 u0 b1 l1 u1 b2 l2 u2 b3 l3 u3 (nowT fS w) cW) hx hb hr hlk hP hS rfl (⟨congrArg (fun z => some (Value.int z)) (by simp [nowR, nowT, bump, put9, b2i, c1_0, c1_1, c1_2, c1_3, c1_4, c1_5, c1_6, c1_7, i_lt, -Int32.not_le, -Int32.not_lt]), rfl⟩) dX3_now_131

set_option maxHeartbeats 4000000 in
set_option maxRecDepth 100000 in
theorem k_X3_hangs (n : Nat) (b : Int32) (hI : Inv gG n) : MU l D (tyA cI cJ cO) yX3_hangs cX3_hangs 2 ((some .int)) 2 47 [.ref (B 0), .int b] (VW cI cJ cO B gG tG kG ik le by_ tk bg en va tn b0 l0 u0 b1 l1 u1 b2 l2 u2 b3 l3 u3 fS cW) (fun ov w' => ov = some (.int (hangsR gG n b)) ∧ w' = (VW cI cJ cO B gG tG kG ik le by_ tk bg en va tn b0 l0 u0 b1 l1 u1 b2 l2 u2 b3 l3 u3 (okT (inI b 0 3) fS) cW)) := by
  refine MU.mk (by decide) (Nat.le_of_ble_eq_true rfl) ?_
  intro p e s m below meth c ls S hr hlk hP hK hD hS hl
  have S : CallFix p m c cX3_hangs 2 s _ WL RX3 := S
  obtain ⟨hx, hb, hml, hown, hts⟩ := id S
  have hl : lv_has ls 2 [(0, .ref (B 0)), (1, .int b)] := hl
  have h8 : n ≤ 8 := hI.1
  refine lv_iload_n hx hb dX3_hangs_0 rfl (lv_at hl 1 rfl) ?_
  refine lv_iconst (v := 0) hx hb dX3_hangs_1 rfl ?_
  refine lv_iconst (v := 3) hx hb dX3_hangs_2 rfl ?_
  refine ro_S (w := []) (rest := []) S hK va_P0 (k_X3_isOutside b 0 3) gs_X3_47 hd_X3_isOutside ⟨Nat.le_of_ble_eq_true rfl, Nat.le_of_ble_eq_true rfl⟩ rfl hl.1 (lv_room (Nat.le_of_ble_eq_true rfl)) dX3_hangs_3 ⟨Nat.zero_le _, Nat.zero_le _⟩ ?_
  refine lv_if_eq (tgt := 16) hx hb dX3_hangs_6 rfl (fun c6 => ?_) (fun c6 => ?_)
  · replace c6 := bn_0 c6
    refine lv_aload_n hx hb dX3_hangs_16 rfl (lv_at hl 0 rfl) ?_
    refine va_get (ci := 3) (v := .ref (B 1)) hx hb hts wx_X3 hown hK hP 0 rfl rfl 0 (by decide) (hts _ wf_X3_10) (fun _ h9 => h9) rfl dX3_hangs_17 ?_
    refine lv_iconst (v := 1) hx hb dX3_hangs_20 rfl ?_
    refine lv_iload_n hx hb dX3_hangs_21 rfl (lv_at hl 1 rfl) ?_
    refine ro_V (w := (GW cI (B 1) (B 2) (gG 0) (gG 2) (gG 1) (tl gG))) (rest := []) S hK (hP.sub [1, 2] rfl) (k_X0_whoHas n 1 b hI (by omega)) gv_X3_80 hd_X0_whoHas ⟨Nat.le_of_ble_eq_true rfl, Nat.le_of_ble_eq_true rfl⟩ 0 rfl rfl rfl rfl hl.1 (lv_room (Nat.le_of_ble_eq_true rfl)) dX3_hangs_22 ⟨Nat.zero_le _, Nat.zero_le _⟩ ?_
    refine w_i (z := setF (inP gG b) n) (rfl) ?_
    have hE : fS = okT (inI b 0 3) fS := by simp [hangsR, okT, inP, bump, put9, b2i, c6, i_lt, -Int32.not_le, -Int32.not_lt]
    have hW : (VW cI cJ cO B gG tG kG ik le by_ tk bg en va tn b0 l0 u0 b1 l1 u1 b2 l2 u2 b3 l3 u3 fS cW) = (VW cI cJ cO B gG tG kG ik le by_ tk bg en va tn b0 l0 u0 b1 l1 u1 b2 l2 u2 b3 l3 u3 (okT (inI b 0 3) fS) cW) := congrArg (fun z => (VW cI cJ cO B gG tG kG ik le by_ tk bg en va tn b0 l0 u0 b1 l1 u1 b2 l2 u2 b3 l3 u3 z cW)) hE
    have hP : va_P D vwCl (VW cI cJ cO B gG tG kG ik le by_ tk bg en va tn b0 l0 u0 b1 l1 u1 b2 l2 u2 b3 l3 u3 (okT (inI b 0 3) fS) cW) s.heap := Eq.mp (congrArg (fun z => va_P D vwCl z s.heap) hW) hP
    have hD : va_D _ (VW cI cJ cO B gG tG kG ik le by_ tk bg en va tn b0 l0 u0 b1 l1 u1 b2 l2 u2 b3 l3 u3 (okT (inI b 0 3) fS) cW) := Eq.mp (congrArg (fun z => va_D _ z) hW) hD
    exact mu_iret (VW cI cJ cO B gG tG kG ik le by_ tk bg en va tn b0 l0 u0 b1 l1 u1 b2 l2 u2 b3 l3 u3 (okT (inI b 0 3) fS) cW) hx hb hr hlk hP hS rfl (⟨congrArg (fun z => some (Value.int z)) (by simp [hangsR, okT, inP, bump, put9, b2i, c6, i_lt, -Int32.not_le, -Int32.not_lt]), rfl⟩) dX3_hangs_25
  · replace c6 := bn_n0 c6
    refine lv_aload_n hx hb dX3_hangs_9 rfl (lv_at hl 0 rfl) ?_
    refine lv_ldc (v := (-1000000001)) hx hb hown (hts _ wq_X3_51) dX3_hangs_10 ?_
    refine mu_W (w := (VW cI cJ cO B gG tG kG ik le by_ tk bg en va tn b0 l0 u0 b1 l1 u1 b2 l2 u2 b3 l3 u3 fS cW)) (rest := []) S hK hP hD hS (k_X3_finding 0 (-1000000001) (by decide) (by decide)) gv_X3_52 hd_X3_finding ⟨Nat.le_of_ble_eq_true rfl, Nat.le_of_ble_eq_true rfl⟩ 3 rfl rfl rfl rfl hl.1 (lv_room (Nat.le_of_ble_eq_true rfl)) dX3_hangs_12 ⟨Nat.zero_le _, Nat.zero_le _⟩ (fun ov w' H locs hp hP hD hS => ?_)
    obtain ⟨rfl, rfl⟩ := hp
    refine W.eq (g2 := F0 m 15 ls [.int (-1000000001)]) rfl ?_
    have hE : upd fS 0 (fS 0 + 1) = okT (inI b 0 3) fS := by simp [hangsR, okT, inP, bump, put9, b2i, c6, i_lt, -Int32.not_le, -Int32.not_lt]
    have hW : (VW cI cJ cO B gG tG kG ik le by_ tk bg en va tn b0 l0 u0 b1 l1 u1 b2 l2 u2 b3 l3 u3 (upd fS 0 (fS 0 + 1)) cW) = (VW cI cJ cO B gG tG kG ik le by_ tk bg en va tn b0 l0 u0 b1 l1 u1 b2 l2 u2 b3 l3 u3 (okT (inI b 0 3) fS) cW) := congrArg (fun z => (VW cI cJ cO B gG tG kG ik le by_ tk bg en va tn b0 l0 u0 b1 l1 u1 b2 l2 u2 b3 l3 u3 z cW)) hE
    have hP : va_P D vwCl (VW cI cJ cO B gG tG kG ik le by_ tk bg en va tn b0 l0 u0 b1 l1 u1 b2 l2 u2 b3 l3 u3 (okT (inI b 0 3) fS) cW) H := Eq.mp (congrArg (fun z => va_P D vwCl z H) hW) hP
    have hD : va_D _ (VW cI cJ cO B gG tG kG ik le by_ tk bg en va tn b0 l0 u0 b1 l1 u1 b2 l2 u2 b3 l3 u3 (okT (inI b 0 3) fS) cW) := Eq.mp (congrArg (fun z => va_D _ z) hW) hD
    exact mu_iret (VW cI cJ cO B gG tG kG ik le by_ tk bg en va tn b0 l0 u0 b1 l1 u1 b2 l2 u2 b3 l3 u3 (okT (inI b 0 3) fS) cW) hx hb hr hlk hP hS rfl (⟨congrArg (fun z => some (Value.int z)) (by simp [hangsR, okT, inP, bump, put9, b2i, c6, i_lt, -Int32.not_le, -Int32.not_lt]), rfl⟩) dX3_hangs_15

set_option maxHeartbeats 4000000 in
set_option maxRecDepth 100000 in
theorem k_X3_figure (n : Nat) (k : Int32) (b : Int32) (d : Int32) (hI : Inv gG n) : MU l D (tyA cI cJ cO) yX3_figure cX3_figure 4 ((some .int)) 2 48 [.ref (B 0), .int k, .int b, .int d] (VW cI cJ cO B gG tG kG ik le by_ tk bg en va tn b0 l0 u0 b1 l1 u1 b2 l2 u2 b3 l3 u3 fS cW) (fun ov w' => ov = some (.int (figR n k b d)) ∧ w' = (VW cI cJ cO B (figG gG n k b d) tG kG ik le by_ tk bg en va tn b0 l0 u0 b1 l1 u1 b2 l2 u2 b3 l3 u3 (figT fS n k b d) cW)) := by
  refine MU.mk (by decide) (Nat.le_of_ble_eq_true rfl) ?_
  intro p e s m below meth c ls S hr hlk hP hK hD hS hl
  have S : CallFix p m c cX3_figure 4 s _ WL RX3 := S
  obtain ⟨hx, hb, hml, hown, hts⟩ := id S
  have hl : lv_has ls 4 [(0, .ref (B 0)), (1, .int k), (2, .int b), (3, .int d)] := hl
  have h8 : n ≤ 8 := hI.1
  refine lv_iload_n hx hb dX3_figure_0 rfl (lv_at hl 1 rfl) ?_
  refine lv_iconst (v := 0) hx hb dX3_figure_1 rfl ?_
  refine lv_iconst (v := 5) hx hb dX3_figure_2 rfl ?_
  refine ro_S (w := []) (rest := []) S hK va_P0 (k_X3_isOutside k 0 5) gs_X3_47 hd_X3_isOutside ⟨Nat.le_of_ble_eq_true rfl, Nat.le_of_ble_eq_true rfl⟩ rfl hl.1 (lv_room (Nat.le_of_ble_eq_true rfl)) dX3_figure_3 ⟨Nat.zero_le _, Nat.zero_le _⟩ ?_
  refine lv_if_ne (tgt := 28) hx hb dX3_figure_6 rfl (fun c6 => ?_) (fun c6 => ?_)
  · replace c6 := bn_n0 c6
    refine lv_aload_n hx hb dX3_figure_28 rfl (lv_at hl 0 rfl) ?_
    refine lv_ldc (v := (-1000000001)) hx hb hown (hts _ wq_X3_51) dX3_figure_29 ?_
    refine mu_W (w := (VW cI cJ cO B gG tG kG ik le by_ tk bg en va tn b0 l0 u0 b1 l1 u1 b2 l2 u2 b3 l3 u3 fS cW)) (rest := []) S hK hP hD hS (k_X3_finding 0 (-1000000001) (by decide) (by decide)) gv_X3_52 hd_X3_finding ⟨Nat.le_of_ble_eq_true rfl, Nat.le_of_ble_eq_true rfl⟩ 3 rfl rfl rfl rfl hl.1 (lv_room (Nat.le_of_ble_eq_true rfl)) dX3_figure_31 ⟨Nat.zero_le _, Nat.zero_le _⟩ (fun ov w' H locs hp hP hD hS => ?_)
    obtain ⟨rfl, rfl⟩ := hp
    refine W.eq (g2 := F0 m 34 ls [.int (-1000000001)]) rfl ?_
    have hE : gG = figG gG n k b d := by simp [figR, figOk, figG, figT, bump, put9, b2i, c6, i_lt, -Int32.not_le, -Int32.not_lt]
    have hW : (VW cI cJ cO B gG tG kG ik le by_ tk bg en va tn b0 l0 u0 b1 l1 u1 b2 l2 u2 b3 l3 u3 (upd fS 0 (fS 0 + 1)) cW) = (VW cI cJ cO B (figG gG n k b d) tG kG ik le by_ tk bg en va tn b0 l0 u0 b1 l1 u1 b2 l2 u2 b3 l3 u3 (upd fS 0 (fS 0 + 1)) cW) := congrArg (fun z => (VW cI cJ cO B z tG kG ik le by_ tk bg en va tn b0 l0 u0 b1 l1 u1 b2 l2 u2 b3 l3 u3 (upd fS 0 (fS 0 + 1)) cW)) hE
    have hP : va_P D vwCl (VW cI cJ cO B (figG gG n k b d) tG kG ik le by_ tk bg en va tn b0 l0 u0 b1 l1 u1 b2 l2 u2 b3 l3 u3 (upd fS 0 (fS 0 + 1)) cW) H := Eq.mp (congrArg (fun z => va_P D vwCl z H) hW) hP
    have hD : va_D _ (VW cI cJ cO B (figG gG n k b d) tG kG ik le by_ tk bg en va tn b0 l0 u0 b1 l1 u1 b2 l2 u2 b3 l3 u3 (upd fS 0 (fS 0 + 1)) cW) := Eq.mp (congrArg (fun z => va_D _ z) hW) hD
    have hE : upd fS 0 (fS 0 + 1) = figT fS n k b d := by simp [figR, figOk, figG, figT, bump, put9, b2i, c6, i_lt, -Int32.not_le, -Int32.not_lt]
    have hW : (VW cI cJ cO B (figG gG n k b d) tG kG ik le by_ tk bg en va tn b0 l0 u0 b1 l1 u1 b2 l2 u2 b3 l3 u3 (upd fS 0 (fS 0 + 1)) cW) = (VW cI cJ cO B (figG gG n k b d) tG kG ik le by_ tk bg en va tn b0 l0 u0 b1 l1 u1 b2 l2 u2 b3 l3 u3 (figT fS n k b d) cW) := congrArg (fun z => (VW cI cJ cO B (figG gG n k b d) tG kG ik le by_ tk bg en va tn b0 l0 u0 b1 l1 u1 b2 l2 u2 b3 l3 u3 z cW)) hE
    have hP : va_P D vwCl (VW cI cJ cO B (figG gG n k b d) tG kG ik le by_ tk bg en va tn b0 l0 u0 b1 l1 u1 b2 l2 u2 b3 l3 u3 (figT fS n k b d) cW) H := Eq.mp (congrArg (fun z => va_P D vwCl z H) hW) hP
    have hD : va_D _ (VW cI cJ cO B (figG gG n k b d) tG kG ik le by_ tk bg en va tn b0 l0 u0 b1 l1 u1 b2 l2 u2 b3 l3 u3 (figT fS n k b d) cW) := Eq.mp (congrArg (fun z => va_D _ z) hW) hD
    exact mu_iret (VW cI cJ cO B (figG gG n k b d) tG kG ik le by_ tk bg en va tn b0 l0 u0 b1 l1 u1 b2 l2 u2 b3 l3 u3 (figT fS n k b d) cW) hx hb hr hlk hP hS rfl (⟨congrArg (fun z => some (Value.int z)) (by simp [figR, figOk, figG, figT, bump, put9, b2i, c6, i_lt, -Int32.not_le, -Int32.not_lt]), rfl⟩) dX3_figure_34
  · replace c6 := bn_0 c6
    refine lv_iload_n hx hb dX3_figure_9 rfl (lv_at hl 2 rfl) ?_
    refine lv_iconst (v := 0) hx hb dX3_figure_10 rfl ?_
    refine lv_iconst (v := 3) hx hb dX3_figure_11 rfl ?_
    refine ro_S (w := []) (rest := []) S hK va_P0 (k_X3_isOutside b 0 3) gs_X3_47 hd_X3_isOutside ⟨Nat.le_of_ble_eq_true rfl, Nat.le_of_ble_eq_true rfl⟩ rfl hl.1 (lv_room (Nat.le_of_ble_eq_true rfl)) dX3_figure_12 ⟨Nat.zero_le _, Nat.zero_le _⟩ ?_
    refine lv_if_ne (tgt := 28) hx hb dX3_figure_15 rfl (fun c15 => ?_) (fun c15 => ?_)
    · replace c15 := bn_n0 c15
      refine lv_aload_n hx hb dX3_figure_28 rfl (lv_at hl 0 rfl) ?_
      refine lv_ldc (v := (-1000000001)) hx hb hown (hts _ wq_X3_51) dX3_figure_29 ?_
      refine mu_W (w := (VW cI cJ cO B gG tG kG ik le by_ tk bg en va tn b0 l0 u0 b1 l1 u1 b2 l2 u2 b3 l3 u3 fS cW)) (rest := []) S hK hP hD hS (k_X3_finding 0 (-1000000001) (by decide) (by decide)) gv_X3_52 hd_X3_finding ⟨Nat.le_of_ble_eq_true rfl, Nat.le_of_ble_eq_true rfl⟩ 3 rfl rfl rfl rfl hl.1 (lv_room (Nat.le_of_ble_eq_true rfl)) dX3_figure_31 ⟨Nat.zero_le _, Nat.zero_le _⟩ (fun ov w' H locs hp hP hD hS => ?_)
      obtain ⟨rfl, rfl⟩ := hp
      refine W.eq (g2 := F0 m 34 ls [.int (-1000000001)]) rfl ?_
      have hE : gG = figG gG n k b d := by simp [figR, figOk, figG, figT, bump, put9, b2i, c6, c15, i_lt, -Int32.not_le, -Int32.not_lt]
      have hW : (VW cI cJ cO B gG tG kG ik le by_ tk bg en va tn b0 l0 u0 b1 l1 u1 b2 l2 u2 b3 l3 u3 (upd fS 0 (fS 0 + 1)) cW) = (VW cI cJ cO B (figG gG n k b d) tG kG ik le by_ tk bg en va tn b0 l0 u0 b1 l1 u1 b2 l2 u2 b3 l3 u3 (upd fS 0 (fS 0 + 1)) cW) := congrArg (fun z => (VW cI cJ cO B z tG kG ik le by_ tk bg en va tn b0 l0 u0 b1 l1 u1 b2 l2 u2 b3 l3 u3 (upd fS 0 (fS 0 + 1)) cW)) hE
      have hP : va_P D vwCl (VW cI cJ cO B (figG gG n k b d) tG kG ik le by_ tk bg en va tn b0 l0 u0 b1 l1 u1 b2 l2 u2 b3 l3 u3 (upd fS 0 (fS 0 + 1)) cW) H := Eq.mp (congrArg (fun z => va_P D vwCl z H) hW) hP
      have hD : va_D _ (VW cI cJ cO B (figG gG n k b d) tG kG ik le by_ tk bg en va tn b0 l0 u0 b1 l1 u1 b2 l2 u2 b3 l3 u3 (upd fS 0 (fS 0 + 1)) cW) := Eq.mp (congrArg (fun z => va_D _ z) hW) hD
      have hE : upd fS 0 (fS 0 + 1) = figT fS n k b d := by simp [figR, figOk, figG, figT, bump, put9, b2i, c6, c15, i_lt, -Int32.not_le, -Int32.not_lt]
      have hW : (VW cI cJ cO B (figG gG n k b d) tG kG ik le by_ tk bg en va tn b0 l0 u0 b1 l1 u1 b2 l2 u2 b3 l3 u3 (upd fS 0 (fS 0 + 1)) cW) = (VW cI cJ cO B (figG gG n k b d) tG kG ik le by_ tk bg en va tn b0 l0 u0 b1 l1 u1 b2 l2 u2 b3 l3 u3 (figT fS n k b d) cW) := congrArg (fun z => (VW cI cJ cO B (figG gG n k b d) tG kG ik le by_ tk bg en va tn b0 l0 u0 b1 l1 u1 b2 l2 u2 b3 l3 u3 z cW)) hE
      have hP : va_P D vwCl (VW cI cJ cO B (figG gG n k b d) tG kG ik le by_ tk bg en va tn b0 l0 u0 b1 l1 u1 b2 l2 u2 b3 l3 u3 (figT fS n k b d) cW) H := Eq.mp (congrArg (fun z => va_P D vwCl z H) hW) hP
      have hD : va_D _ (VW cI cJ cO B (figG gG n k b d) tG kG ik le by_ tk bg en va tn b0 l0 u0 b1 l1 u1 b2 l2 u2 b3 l3 u3 (figT fS n k b d) cW) := Eq.mp (congrArg (fun z => va_D _ z) hW) hD
      exact mu_iret (VW cI cJ cO B (figG gG n k b d) tG kG ik le by_ tk bg en va tn b0 l0 u0 b1 l1 u1 b2 l2 u2 b3 l3 u3 (figT fS n k b d) cW) hx hb hr hlk hP hS rfl (⟨congrArg (fun z => some (Value.int z)) (by simp [figR, figOk, figG, figT, bump, put9, b2i, c6, c15, i_lt, -Int32.not_le, -Int32.not_lt]), rfl⟩) dX3_figure_34
    · replace c15 := bn_0 c15
      refine lv_iload_n hx hb dX3_figure_18 rfl (lv_at hl 3 rfl) ?_
      refine lv_iconst (v := 0) hx hb dX3_figure_19 rfl ?_
      refine lv_bipush (v := 19) hx hb dX3_figure_20 rfl ?_
      refine ro_S (w := []) (rest := []) S hK va_P0 (k_X3_isOutside d 0 19) gs_X3_47 hd_X3_isOutside ⟨Nat.le_of_ble_eq_true rfl, Nat.le_of_ble_eq_true rfl⟩ rfl hl.1 (lv_room (Nat.le_of_ble_eq_true rfl)) dX3_figure_22 ⟨Nat.zero_le _, Nat.zero_le _⟩ ?_
      refine lv_if_eq (tgt := 35) hx hb dX3_figure_25 rfl (fun c25 => ?_) (fun c25 => ?_)
      · replace c25 := bn_0 c25
        refine lv_aload_n hx hb dX3_figure_35 rfl (lv_at hl 0 rfl) ?_
        refine va_get (ci := 3) (v := .ref (B 1)) hx hb hts wx_X3 hown hK hP 0 rfl rfl 0 (by decide) (hts _ wf_X3_10) (fun _ h9 => h9) rfl dX3_figure_36 ?_
        refine ro_V (w := (GW cI (B 1) (B 2) (gG 0) (gG 2) (gG 1) (tl gG))) (rest := []) S hK (hP.sub [1, 2] rfl) (k_X0_isFull n hI) gv_X3_87 hd_X0_isFull ⟨Nat.le_of_ble_eq_true rfl, Nat.le_of_ble_eq_true rfl⟩ 0 rfl rfl rfl rfl hl.1 (lv_room (Nat.le_of_ble_eq_true rfl)) dX3_figure_39 ⟨Nat.zero_le _, Nat.zero_le _⟩ ?_
        refine lv_if_eq (tgt := 52) hx hb dX3_figure_42 rfl (fun c42 => ?_) (fun c42 => ?_)
        · replace c42 := (b2i_0 _).mp c42
          have q8 := of_decide_eq_false c42
          have n8 : ¬ n = 8 := by omega
          refine lv_aload_n hx hb dX3_figure_52 rfl (lv_at hl 0 rfl) ?_
          refine va_get (ci := 3) (v := .ref (B 1)) hx hb hts wx_X3 hown hK hP 0 rfl rfl 0 (by decide) (hts _ wf_X3_10) (fun _ h9 => h9) rfl dX3_figure_53 ?_
          refine lv_iload_n hx hb dX3_figure_56 rfl (lv_at hl 1 rfl) ?_
          refine lv_iload_n hx hb dX3_figure_57 rfl (lv_at hl 2 rfl) ?_
          refine lv_iload_n hx hb dX3_figure_58 rfl (lv_at hl 3 rfl) ?_
          refine mu_V (w := (GW cI (B 1) (B 2) (gG 0) (gG 2) (gG 1) (tl gG))) (rest := []) S hK hP hD hS (k_X0_hang n k b d hI (by omega)) gv_X3_91 hd_X0_hang ⟨Nat.le_of_ble_eq_true rfl, Nat.le_of_ble_eq_true rfl⟩ [1, 2] rfl rfl 0 rfl rfl rfl rfl hl.1 (lv_room (Nat.le_of_ble_eq_true rfl)) dX3_figure_59 ⟨Nat.zero_le _, Nat.zero_le _⟩ (fun ov w' H locs hp hP hD hS => ?_)
          obtain ⟨rfl, rfl⟩ := hp
          have hP : va_P D vwCl (VW cI cJ cO B (addsF gG n k b d) tG kG ik le by_ tk bg en va tn b0 l0 u0 b1 l1 u1 b2 l2 u2 b3 l3 u3 fS cW) H := hP
          have hD : va_D _ (VW cI cJ cO B (addsF gG n k b d) tG kG ik le by_ tk bg en va tn b0 l0 u0 b1 l1 u1 b2 l2 u2 b3 l3 u3 fS cW) := hD
          refine W.eq (g2 := F0 m 62 ls [.int (nI n)]) rfl ?_
          have hE : addsF gG n k b d = figG gG n k b d := by simp [figR, figOk, figG, figT, bump, put9, b2i, c6, c15, c25, n8, i_lt, -Int32.not_le, -Int32.not_lt]
          have hW : (VW cI cJ cO B (addsF gG n k b d) tG kG ik le by_ tk bg en va tn b0 l0 u0 b1 l1 u1 b2 l2 u2 b3 l3 u3 fS cW) = (VW cI cJ cO B (figG gG n k b d) tG kG ik le by_ tk bg en va tn b0 l0 u0 b1 l1 u1 b2 l2 u2 b3 l3 u3 fS cW) := congrArg (fun z => (VW cI cJ cO B z tG kG ik le by_ tk bg en va tn b0 l0 u0 b1 l1 u1 b2 l2 u2 b3 l3 u3 fS cW)) hE
          have hP : va_P D vwCl (VW cI cJ cO B (figG gG n k b d) tG kG ik le by_ tk bg en va tn b0 l0 u0 b1 l1 u1 b2 l2 u2 b3 l3 u3 fS cW) H := Eq.mp (congrArg (fun z => va_P D vwCl z H) hW) hP
          have hD : va_D _ (VW cI cJ cO B (figG gG n k b d) tG kG ik le by_ tk bg en va tn b0 l0 u0 b1 l1 u1 b2 l2 u2 b3 l3 u3 fS cW) := Eq.mp (congrArg (fun z => va_D _ z) hW) hD
          have hE : fS = figT fS n k b d := by simp [figR, figOk, figG, figT, bump, put9, b2i, c6, c15, c25, n8, i_lt, -Int32.not_le, -Int32.not_lt]
          have hW : (VW cI cJ cO B (figG gG n k b d) tG kG ik le by_ tk bg en va tn b0 l0 u0 b1 l1 u1 b2 l2 u2 b3 l3 u3 fS cW) = (VW cI cJ cO B (figG gG n k b d) tG kG ik le by_ tk bg en va tn b0 l0 u0 b1 l1 u1 b2 l2 u2 b3 l3 u3 (figT fS n k b d) cW) := congrArg (fun z => (VW cI cJ cO B (figG gG n k b d) tG kG ik le by_ tk bg en va tn b0 l0 u0 b1 l1 u1 b2 l2 u2 b3 l3 u3 z cW)) hE
          have hP : va_P D vwCl (VW cI cJ cO B (figG gG n k b d) tG kG ik le by_ tk bg en va tn b0 l0 u0 b1 l1 u1 b2 l2 u2 b3 l3 u3 (figT fS n k b d) cW) H := Eq.mp (congrArg (fun z => va_P D vwCl z H) hW) hP
          have hD : va_D _ (VW cI cJ cO B (figG gG n k b d) tG kG ik le by_ tk bg en va tn b0 l0 u0 b1 l1 u1 b2 l2 u2 b3 l3 u3 (figT fS n k b d) cW) := Eq.mp (congrArg (fun z => va_D _ z) hW) hD
          exact mu_iret (VW cI cJ cO B (figG gG n k b d) tG kG ik le by_ tk bg en va tn b0 l0 u0 b1 l1 u1 b2 l2 u2 b3 l3 u3 (figT fS n k b d) cW) hx hb hr hlk hP hS rfl (⟨congrArg (fun z => some (Value.int z)) (by simp [figR, figOk, figG, figT, bump, put9, b2i, c6, c15, c25, n8, i_lt, -Int32.not_le, -Int32.not_lt]), rfl⟩) dX3_figure_62
        · replace c42 := b2i_n0 c42
          have q8 := of_decide_eq_true c42
          have n8 : n = 8 := by omega
          refine lv_aload_n hx hb dX3_figure_45 rfl (lv_at hl 0 rfl) ?_
          refine lv_ldc (v := (-1000000002)) hx hb hown (hts _ wq_X3_90) dX3_figure_46 ?_
          refine mu_W (w := (VW cI cJ cO B gG tG kG ik le by_ tk bg en va tn b0 l0 u0 b1 l1 u1 b2 l2 u2 b3 l3 u3 fS cW)) (rest := []) S hK hP hD hS (k_X3_finding 1 (-1000000002) (by decide) (by decide)) gv_X3_52 hd_X3_finding ⟨Nat.le_of_ble_eq_true rfl, Nat.le_of_ble_eq_true rfl⟩ 3 rfl rfl rfl rfl hl.1 (lv_room (Nat.le_of_ble_eq_true rfl)) dX3_figure_48 ⟨Nat.zero_le _, Nat.zero_le _⟩ (fun ov w' H locs hp hP hD hS => ?_)
          obtain ⟨rfl, rfl⟩ := hp
          refine W.eq (g2 := F0 m 51 ls [.int (-1000000002)]) rfl ?_
          have hE : gG = figG gG n k b d := by simp [figR, figOk, figG, figT, bump, put9, b2i, c6, c15, c25, n8, i_lt, -Int32.not_le, -Int32.not_lt]
          have hW : (VW cI cJ cO B gG tG kG ik le by_ tk bg en va tn b0 l0 u0 b1 l1 u1 b2 l2 u2 b3 l3 u3 (upd fS 1 (fS 1 + 1)) cW) = (VW cI cJ cO B (figG gG n k b d) tG kG ik le by_ tk bg en va tn b0 l0 u0 b1 l1 u1 b2 l2 u2 b3 l3 u3 (upd fS 1 (fS 1 + 1)) cW) := congrArg (fun z => (VW cI cJ cO B z tG kG ik le by_ tk bg en va tn b0 l0 u0 b1 l1 u1 b2 l2 u2 b3 l3 u3 (upd fS 1 (fS 1 + 1)) cW)) hE
          have hP : va_P D vwCl (VW cI cJ cO B (figG gG n k b d) tG kG ik le by_ tk bg en va tn b0 l0 u0 b1 l1 u1 b2 l2 u2 b3 l3 u3 (upd fS 1 (fS 1 + 1)) cW) H := Eq.mp (congrArg (fun z => va_P D vwCl z H) hW) hP
          have hD : va_D _ (VW cI cJ cO B (figG gG n k b d) tG kG ik le by_ tk bg en va tn b0 l0 u0 b1 l1 u1 b2 l2 u2 b3 l3 u3 (upd fS 1 (fS 1 + 1)) cW) := Eq.mp (congrArg (fun z => va_D _ z) hW) hD
          have hE : upd fS 1 (fS 1 + 1) = figT fS n k b d := by simp [figR, figOk, figG, figT, bump, put9, b2i, c6, c15, c25, n8, i_lt, -Int32.not_le, -Int32.not_lt]
          have hW : (VW cI cJ cO B (figG gG n k b d) tG kG ik le by_ tk bg en va tn b0 l0 u0 b1 l1 u1 b2 l2 u2 b3 l3 u3 (upd fS 1 (fS 1 + 1)) cW) = (VW cI cJ cO B (figG gG n k b d) tG kG ik le by_ tk bg en va tn b0 l0 u0 b1 l1 u1 b2 l2 u2 b3 l3 u3 (figT fS n k b d) cW) := congrArg (fun z => (VW cI cJ cO B (figG gG n k b d) tG kG ik le by_ tk bg en va tn b0 l0 u0 b1 l1 u1 b2 l2 u2 b3 l3 u3 z cW)) hE
          have hP : va_P D vwCl (VW cI cJ cO B (figG gG n k b d) tG kG ik le by_ tk bg en va tn b0 l0 u0 b1 l1 u1 b2 l2 u2 b3 l3 u3 (figT fS n k b d) cW) H := Eq.mp (congrArg (fun z => va_P D vwCl z H) hW) hP
          have hD : va_D _ (VW cI cJ cO B (figG gG n k b d) tG kG ik le by_ tk bg en va tn b0 l0 u0 b1 l1 u1 b2 l2 u2 b3 l3 u3 (figT fS n k b d) cW) := Eq.mp (congrArg (fun z => va_D _ z) hW) hD
          exact mu_iret (VW cI cJ cO B (figG gG n k b d) tG kG ik le by_ tk bg en va tn b0 l0 u0 b1 l1 u1 b2 l2 u2 b3 l3 u3 (figT fS n k b d) cW) hx hb hr hlk hP hS rfl (⟨congrArg (fun z => some (Value.int z)) (by simp [figR, figOk, figG, figT, bump, put9, b2i, c6, c15, c25, n8, i_lt, -Int32.not_le, -Int32.not_lt]), rfl⟩) dX3_figure_51
      · replace c25 := bn_n0 c25
        refine lv_aload_n hx hb dX3_figure_28 rfl (lv_at hl 0 rfl) ?_
        refine lv_ldc (v := (-1000000001)) hx hb hown (hts _ wq_X3_51) dX3_figure_29 ?_
        refine mu_W (w := (VW cI cJ cO B gG tG kG ik le by_ tk bg en va tn b0 l0 u0 b1 l1 u1 b2 l2 u2 b3 l3 u3 fS cW)) (rest := []) S hK hP hD hS (k_X3_finding 0 (-1000000001) (by decide) (by decide)) gv_X3_52 hd_X3_finding ⟨Nat.le_of_ble_eq_true rfl, Nat.le_of_ble_eq_true rfl⟩ 3 rfl rfl rfl rfl hl.1 (lv_room (Nat.le_of_ble_eq_true rfl)) dX3_figure_31 ⟨Nat.zero_le _, Nat.zero_le _⟩ (fun ov w' H locs hp hP hD hS => ?_)
        obtain ⟨rfl, rfl⟩ := hp
        refine W.eq (g2 := F0 m 34 ls [.int (-1000000001)]) rfl ?_
        have hE : gG = figG gG n k b d := by simp [figR, figOk, figG, figT, bump, put9, b2i, c6, c15, c25, i_lt, -Int32.not_le, -Int32.not_lt]
        have hW : (VW cI cJ cO B gG tG kG ik le by_ tk bg en va tn b0 l0 u0 b1 l1 u1 b2 l2 u2 b3 l3 u3 (upd fS 0 (fS 0 + 1)) cW) = (VW cI cJ cO B (figG gG n k b d) tG kG ik le by_ tk bg en va tn b0 l0 u0 b1 l1 u1 b2 l2 u2 b3 l3 u3 (upd fS 0 (fS 0 + 1)) cW) := congrArg (fun z => (VW cI cJ cO B z tG kG ik le by_ tk bg en va tn b0 l0 u0 b1 l1 u1 b2 l2 u2 b3 l3 u3 (upd fS 0 (fS 0 + 1)) cW)) hE
        have hP : va_P D vwCl (VW cI cJ cO B (figG gG n k b d) tG kG ik le by_ tk bg en va tn b0 l0 u0 b1 l1 u1 b2 l2 u2 b3 l3 u3 (upd fS 0 (fS 0 + 1)) cW) H := Eq.mp (congrArg (fun z => va_P D vwCl z H) hW) hP
        have hD : va_D _ (VW cI cJ cO B (figG gG n k b d) tG kG ik le by_ tk bg en va tn b0 l0 u0 b1 l1 u1 b2 l2 u2 b3 l3 u3 (upd fS 0 (fS 0 + 1)) cW) := Eq.mp (congrArg (fun z => va_D _ z) hW) hD
        have hE : upd fS 0 (fS 0 + 1) = figT fS n k b d := by simp [figR, figOk, figG, figT, bump, put9, b2i, c6, c15, c25, i_lt, -Int32.not_le, -Int32.not_lt]
        have hW : (VW cI cJ cO B (figG gG n k b d) tG kG ik le by_ tk bg en va tn b0 l0 u0 b1 l1 u1 b2 l2 u2 b3 l3 u3 (upd fS 0 (fS 0 + 1)) cW) = (VW cI cJ cO B (figG gG n k b d) tG kG ik le by_ tk bg en va tn b0 l0 u0 b1 l1 u1 b2 l2 u2 b3 l3 u3 (figT fS n k b d) cW) := congrArg (fun z => (VW cI cJ cO B (figG gG n k b d) tG kG ik le by_ tk bg en va tn b0 l0 u0 b1 l1 u1 b2 l2 u2 b3 l3 u3 z cW)) hE
        have hP : va_P D vwCl (VW cI cJ cO B (figG gG n k b d) tG kG ik le by_ tk bg en va tn b0 l0 u0 b1 l1 u1 b2 l2 u2 b3 l3 u3 (figT fS n k b d) cW) H := Eq.mp (congrArg (fun z => va_P D vwCl z H) hW) hP
        have hD : va_D _ (VW cI cJ cO B (figG gG n k b d) tG kG ik le by_ tk bg en va tn b0 l0 u0 b1 l1 u1 b2 l2 u2 b3 l3 u3 (figT fS n k b d) cW) := Eq.mp (congrArg (fun z => va_D _ z) hW) hD
        exact mu_iret (VW cI cJ cO B (figG gG n k b d) tG kG ik le by_ tk bg en va tn b0 l0 u0 b1 l1 u1 b2 l2 u2 b3 l3 u3 (figT fS n k b d) cW) hx hb hr hlk hP hS rfl (⟨congrArg (fun z => some (Value.int z)) (by simp [figR, figOk, figG, figT, bump, put9, b2i, c6, c15, c25, i_lt, -Int32.not_le, -Int32.not_lt]), rfl⟩) dX3_figure_34

set_option maxHeartbeats 4000000 in
set_option maxRecDepth 100000 in
theorem k_X3_seen (n : Nat) (f : Int32) (hI : Inv gG n) : MU l D (tyA cI cJ cO) yX3_seen cX3_seen 2 ((some .int)) 2 48 [.ref (B 0), .int f] (VW cI cJ cO B gG tG kG ik le by_ tk bg en va tn b0 l0 u0 b1 l1 u1 b2 l2 u2 b3 l3 u3 fS cW) (fun ov w' => ov = some (.int (seenR gG n f)) ∧ w' = (VW cI cJ cO B gG tG kG ik le by_ tk bg en va tn b0 l0 u0 b1 l1 u1 b2 l2 u2 b3 l3 u3 (okT (isFig n f) fS) cW)) := by
  refine MU.mk (by decide) (Nat.le_of_ble_eq_true rfl) ?_
  intro p e s m below meth c ls S hr hlk hP hK hD hS hl
  have S : CallFix p m c cX3_seen 2 s _ WL RX3 := S
  obtain ⟨hx, hb, hml, hown, hts⟩ := id S
  have hl : lv_has ls 2 [(0, .ref (B 0)), (1, .int f)] := hl
  refine lv_aload_n hx hb dX3_seen_0 rfl (lv_at hl 0 rfl) ?_
  refine va_get (ci := 3) (v := .ref (B 1)) hx hb hts wx_X3 hown hK hP 0 rfl rfl 0 (by decide) (hts _ wf_X3_10) (fun _ h9 => h9) rfl dX3_seen_1 ?_
  refine lv_iload_n hx hb dX3_seen_4 rfl (lv_at hl 1 rfl) ?_
  refine ro_V (w := (GW cI (B 1) (B 2) (gG 0) (gG 2) (gG 1) (tl gG))) (rest := []) S hK (hP.sub [1, 2] rfl) (k_X0_lacks n f hI) gv_X3_95 hd_X0_lacks ⟨Nat.le_of_ble_eq_true rfl, Nat.le_of_ble_eq_true rfl⟩ 0 rfl rfl rfl rfl hl.1 (lv_room (Nat.le_of_ble_eq_true rfl)) dX3_seen_5 ⟨Nat.zero_le _, Nat.zero_le _⟩ ?_
  refine lv_if_eq (tgt := 18) hx hb dX3_seen_8 rfl (fun c8 => ?_) (fun c8 => ?_)
  · replace c8 := bn_0 c8
    obtain ⟨k, hk, rfl⟩ := fig_in hI.1 c8
    have h8 := hI.1
    have ek : cl (nI k) = k := cl_nI (by omega)
    refine lv_aload_n hx hb dX3_seen_18 rfl (lv_at hl 0 rfl) ?_
    refine va_get (ci := 3) (v := .ref (B 1)) hx hb hts wx_X3 hown hK hP 0 rfl rfl 0 (by decide) (hts _ wf_X3_10) (fun _ h9 => h9) rfl dX3_seen_19 ?_
    refine lv_iload_n hx hb dX3_seen_22 rfl (lv_at hl 1 rfl) ?_
    refine ro_V (w := (GW cI (B 1) (B 2) (gG 0) (gG 2) (gG 1) (tl gG))) (rest := []) S hK (hP.sub [1, 2] rfl) (k_X0_lampsOn n k hI (by omega)) gv_X3_121 hd_X0_lampsOn ⟨Nat.le_of_ble_eq_true rfl, Nat.le_of_ble_eq_true rfl⟩ 0 rfl rfl rfl rfl hl.1 (lv_room (Nat.le_of_ble_eq_true rfl)) dX3_seen_23 ⟨Nat.zero_le _, Nat.zero_le _⟩ ?_
    have hE : fS = okT (isFig n (nI k)) fS := by simp [seenR, okT, bump, put9, b2i, c8, ek, i_lt, -Int32.not_le, -Int32.not_lt]
    have hW : (VW cI cJ cO B gG tG kG ik le by_ tk bg en va tn b0 l0 u0 b1 l1 u1 b2 l2 u2 b3 l3 u3 fS cW) = (VW cI cJ cO B gG tG kG ik le by_ tk bg en va tn b0 l0 u0 b1 l1 u1 b2 l2 u2 b3 l3 u3 (okT (isFig n (nI k)) fS) cW) := congrArg (fun z => (VW cI cJ cO B gG tG kG ik le by_ tk bg en va tn b0 l0 u0 b1 l1 u1 b2 l2 u2 b3 l3 u3 z cW)) hE
    have hP : va_P D vwCl (VW cI cJ cO B gG tG kG ik le by_ tk bg en va tn b0 l0 u0 b1 l1 u1 b2 l2 u2 b3 l3 u3 (okT (isFig n (nI k)) fS) cW) s.heap := Eq.mp (congrArg (fun z => va_P D vwCl z s.heap) hW) hP
    have hD : va_D _ (VW cI cJ cO B gG tG kG ik le by_ tk bg en va tn b0 l0 u0 b1 l1 u1 b2 l2 u2 b3 l3 u3 (okT (isFig n (nI k)) fS) cW) := Eq.mp (congrArg (fun z => va_D _ z) hW) hD
    exact mu_iret (VW cI cJ cO B gG tG kG ik le by_ tk bg en va tn b0 l0 u0 b1 l1 u1 b2 l2 u2 b3 l3 u3 (okT (isFig n (nI k)) fS) cW) hx hb hr hlk hP hS rfl (⟨congrArg (fun z => some (Value.int z)) (by simp [seenR, okT, bump, put9, b2i, c8, ek, i_lt, -Int32.not_le, -Int32.not_lt]), rfl⟩) dX3_seen_26
  · replace c8 := bn_n0 c8
    refine lv_aload_n hx hb dX3_seen_11 rfl (lv_at hl 0 rfl) ?_
    refine lv_ldc (v := (-1000000001)) hx hb hown (hts _ wq_X3_51) dX3_seen_12 ?_
    refine mu_W (w := (VW cI cJ cO B gG tG kG ik le by_ tk bg en va tn b0 l0 u0 b1 l1 u1 b2 l2 u2 b3 l3 u3 fS cW)) (rest := []) S hK hP hD hS (k_X3_finding 0 (-1000000001) (by decide) (by decide)) gv_X3_52 hd_X3_finding ⟨Nat.le_of_ble_eq_true rfl, Nat.le_of_ble_eq_true rfl⟩ 3 rfl rfl rfl rfl hl.1 (lv_room (Nat.le_of_ble_eq_true rfl)) dX3_seen_14 ⟨Nat.zero_le _, Nat.zero_le _⟩ (fun ov w' H locs hp hP hD hS => ?_)
    obtain ⟨rfl, rfl⟩ := hp
    refine W.eq (g2 := F0 m 17 ls [.int (-1000000001)]) rfl ?_
    have hE : upd fS 0 (fS 0 + 1) = okT (isFig n f) fS := by simp [seenR, okT, bump, put9, b2i, c8, i_lt, -Int32.not_le, -Int32.not_lt]
    have hW : (VW cI cJ cO B gG tG kG ik le by_ tk bg en va tn b0 l0 u0 b1 l1 u1 b2 l2 u2 b3 l3 u3 (upd fS 0 (fS 0 + 1)) cW) = (VW cI cJ cO B gG tG kG ik le by_ tk bg en va tn b0 l0 u0 b1 l1 u1 b2 l2 u2 b3 l3 u3 (okT (isFig n f) fS) cW) := congrArg (fun z => (VW cI cJ cO B gG tG kG ik le by_ tk bg en va tn b0 l0 u0 b1 l1 u1 b2 l2 u2 b3 l3 u3 z cW)) hE
    have hP : va_P D vwCl (VW cI cJ cO B gG tG kG ik le by_ tk bg en va tn b0 l0 u0 b1 l1 u1 b2 l2 u2 b3 l3 u3 (okT (isFig n f) fS) cW) H := Eq.mp (congrArg (fun z => va_P D vwCl z H) hW) hP
    have hD : va_D _ (VW cI cJ cO B gG tG kG ik le by_ tk bg en va tn b0 l0 u0 b1 l1 u1 b2 l2 u2 b3 l3 u3 (okT (isFig n f) fS) cW) := Eq.mp (congrArg (fun z => va_D _ z) hW) hD
    exact mu_iret (VW cI cJ cO B gG tG kG ik le by_ tk bg en va tn b0 l0 u0 b1 l1 u1 b2 l2 u2 b3 l3 u3 (okT (isFig n f) fS) cW) hx hb hr hlk hP hS rfl (⟨congrArg (fun z => some (Value.int z)) (by simp [seenR, okT, bump, put9, b2i, c8, i_lt, -Int32.not_le, -Int32.not_lt]), rfl⟩) dX3_seen_17

set_option maxHeartbeats 4000000 in
set_option maxRecDepth 100000 in
theorem k_X3_turn (n : Nat) (f : Int32) (k : Int32) (hI : Inv gG n) : MU l D (tyA cI cJ cO) yX3_turn cX3_turn 4 ((some .int)) 1 24 [.ref (B 0), .int f, .int k] (VW cI cJ cO B gG tG kG ik le by_ tk bg en va tn b0 l0 u0 b1 l1 u1 b2 l2 u2 b3 l3 u3 fS cW) (fun ov w' => ov = some (.int (turnR gG n f k)) ∧ w' = (VW cI cJ cO B (turnG gG n f k) tG kG ik le by_ tk bg en va tn b0 l0 u0 b1 l1 u1 b2 l2 u2 b3 l3 u3 (okT (turnOk n f k) fS) cW)) := by
  refine MU.mk (by decide) (Nat.le_of_ble_eq_true rfl) ?_
  intro p e s m below meth c ls S hr hlk hP hK hD hS hl
  have S : CallFix p m c cX3_turn 4 s _ WL RX3 := S
  obtain ⟨hx, hb, hml, hown, hts⟩ := id S
  have hl : lv_has ls 4 [(0, .ref (B 0)), (1, .int f), (2, .int k)] := hl
  refine lv_aload_n hx hb dX3_turn_0 rfl (lv_at hl 0 rfl) ?_
  refine va_get (ci := 3) (v := .ref (B 1)) hx hb hts wx_X3 hown hK hP 0 rfl rfl 0 (by decide) (hts _ wf_X3_10) (fun _ h9 => h9) rfl dX3_turn_1 ?_
  refine lv_iload_n hx hb dX3_turn_4 rfl (lv_at hl 1 rfl) ?_
  refine ro_V (w := (GW cI (B 1) (B 2) (gG 0) (gG 2) (gG 1) (tl gG))) (rest := []) S hK (hP.sub [1, 2] rfl) (k_X0_lacks n f hI) gv_X3_95 hd_X0_lacks ⟨Nat.le_of_ble_eq_true rfl, Nat.le_of_ble_eq_true rfl⟩ 0 rfl rfl rfl rfl hl.1 (lv_room (Nat.le_of_ble_eq_true rfl)) dX3_turn_5 ⟨Nat.zero_le _, Nat.zero_le _⟩ ?_
  refine lv_if_ne (tgt := 20) hx hb dX3_turn_8 rfl (fun c8 => ?_) (fun c8 => ?_)
  · replace c8 := bn_n0 c8
    refine lv_aload_n hx hb dX3_turn_20 rfl (lv_at hl 0 rfl) ?_
    refine lv_ldc (v := (-1000000001)) hx hb hown (hts _ wq_X3_51) dX3_turn_21 ?_
    refine mu_W (w := (VW cI cJ cO B gG tG kG ik le by_ tk bg en va tn b0 l0 u0 b1 l1 u1 b2 l2 u2 b3 l3 u3 fS cW)) (rest := []) S hK hP hD hS (k_X3_finding 0 (-1000000001) (by decide) (by decide)) gv_X3_52 hd_X3_finding ⟨Nat.le_of_ble_eq_true rfl, Nat.le_of_ble_eq_true rfl⟩ 3 rfl rfl rfl rfl hl.1 (lv_room (Nat.le_of_ble_eq_true rfl)) dX3_turn_23 ⟨Nat.zero_le _, Nat.zero_le _⟩ (fun ov w' H locs hp hP hD hS => ?_)
    obtain ⟨rfl, rfl⟩ := hp
    refine W.eq (g2 := F0 m 26 ls [.int (-1000000001)]) rfl ?_
    have hE : gG = turnG gG n f k := by simp [turnR, turnG, turnOk, okT, bump, put9, b2i, c8, i_lt, -Int32.not_le, -Int32.not_lt]
    have hW : (VW cI cJ cO B gG tG kG ik le by_ tk bg en va tn b0 l0 u0 b1 l1 u1 b2 l2 u2 b3 l3 u3 (upd fS 0 (fS 0 + 1)) cW) = (VW cI cJ cO B (turnG gG n f k) tG kG ik le by_ tk bg en va tn b0 l0 u0 b1 l1 u1 b2 l2 u2 b3 l3 u3 (upd fS 0 (fS 0 + 1)) cW) := congrArg (fun z => (VW cI cJ cO B z tG kG ik le by_ tk bg en va tn b0 l0 u0 b1 l1 u1 b2 l2 u2 b3 l3 u3 (upd fS 0 (fS 0 + 1)) cW)) hE
    have hP : va_P D vwCl (VW cI cJ cO B (turnG gG n f k) tG kG ik le by_ tk bg en va tn b0 l0 u0 b1 l1 u1 b2 l2 u2 b3 l3 u3 (upd fS 0 (fS 0 + 1)) cW) H := Eq.mp (congrArg (fun z => va_P D vwCl z H) hW) hP
    have hD : va_D _ (VW cI cJ cO B (turnG gG n f k) tG kG ik le by_ tk bg en va tn b0 l0 u0 b1 l1 u1 b2 l2 u2 b3 l3 u3 (upd fS 0 (fS 0 + 1)) cW) := Eq.mp (congrArg (fun z => va_D _ z) hW) hD
    have hE : upd fS 0 (fS 0 + 1) = okT (turnOk n f k) fS := by simp [turnR, turnG, turnOk, okT, bump, put9, b2i, c8, i_lt, -Int32.not_le, -Int32.not_lt]
    have hW : (VW cI cJ cO B (turnG gG n f k) tG kG ik le by_ tk bg en va tn b0 l0 u0 b1 l1 u1 b2 l2 u2 b3 l3 u3 (upd fS 0 (fS 0 + 1)) cW) = (VW cI cJ cO B (turnG gG n f k) tG kG ik le by_ tk bg en va tn b0 l0 u0 b1 l1 u1 b2 l2 u2 b3 l3 u3 (okT (turnOk n f k) fS) cW) := congrArg (fun z => (VW cI cJ cO B (turnG gG n f k) tG kG ik le by_ tk bg en va tn b0 l0 u0 b1 l1 u1 b2 l2 u2 b3 l3 u3 z cW)) hE
    have hP : va_P D vwCl (VW cI cJ cO B (turnG gG n f k) tG kG ik le by_ tk bg en va tn b0 l0 u0 b1 l1 u1 b2 l2 u2 b3 l3 u3 (okT (turnOk n f k) fS) cW) H := Eq.mp (congrArg (fun z => va_P D vwCl z H) hW) hP
    have hD : va_D _ (VW cI cJ cO B (turnG gG n f k) tG kG ik le by_ tk bg en va tn b0 l0 u0 b1 l1 u1 b2 l2 u2 b3 l3 u3 (okT (turnOk n f k) fS) cW) := Eq.mp (congrArg (fun z => va_D _ z) hW) hD
    exact mu_iret (VW cI cJ cO B (turnG gG n f k) tG kG ik le by_ tk bg en va tn b0 l0 u0 b1 l1 u1 b2 l2 u2 b3 l3 u3 (okT (turnOk n f k) fS) cW) hx hb hr hlk hP hS rfl (⟨congrArg (fun z => some (Value.int z)) (by simp [turnR, turnG, turnOk, okT, bump, put9, b2i, c8, i_lt, -Int32.not_le, -Int32.not_lt]), rfl⟩) dX3_turn_26
  · replace c8 := bn_0 c8
    obtain ⟨j, hj, rfl⟩ := fig_in hI.1 c8
    have h8 := hI.1
    have ej : cl (nI j) = j := cl_nI (by omega)
    refine lv_iload_n hx hb dX3_turn_11 rfl (lv_at hl 2 rfl) ?_
    refine lv_iconst (v := 0) hx hb dX3_turn_12 rfl ?_
    refine lv_iconst (v := 5) hx hb dX3_turn_13 rfl ?_
    refine ro_S (w := []) (rest := []) S hK va_P0 (k_X3_isOutside k 0 5) gs_X3_47 hd_X3_isOutside ⟨Nat.le_of_ble_eq_true rfl, Nat.le_of_ble_eq_true rfl⟩ rfl hl.1 (lv_room (Nat.le_of_ble_eq_true rfl)) dX3_turn_14 ⟨Nat.zero_le _, Nat.zero_le _⟩ ?_
    refine lv_if_eq (tgt := 27) hx hb dX3_turn_17 rfl (fun c17 => ?_) (fun c17 => ?_)
    · replace c17 := bn_0 c17
      refine lv_aload_n hx hb dX3_turn_27 rfl (lv_at hl 0 rfl) ?_
      refine va_get (ci := 3) (v := .ref (B 1)) hx hb hts wx_X3 hown hK hP 0 rfl rfl 0 (by decide) (hts _ wf_X3_10) (fun _ h9 => h9) rfl dX3_turn_28 ?_
      refine lv_iload_n hx hb dX3_turn_31 rfl (lv_at hl 1 rfl) ?_
      refine lv_iconst (v := 0) hx hb dX3_turn_32 rfl ?_
      refine ro_V (w := (GW cI (B 1) (B 2) (gG 0) (gG 2) (gG 1) (tl gG))) (rest := []) S hK (hP.sub [1, 2] rfl) (k_X0_getN j 0 (by omega) (by omega)) gv_X3_108 hd_X0_get ⟨Nat.le_of_ble_eq_true rfl, Nat.le_of_ble_eq_true rfl⟩ 0 rfl rfl rfl rfl hl.1 (lv_room (Nat.le_of_ble_eq_true rfl)) dX3_turn_33 ⟨Nat.zero_le _, Nat.zero_le _⟩ ?_
      refine lv_istore_n (lv' := [(3, .int (its gG j 0)), (0, .ref (B 0)), (1, .int (nI j)), (2, .int k)]) hx hb dX3_turn_36 rfl hl (by decide) rfl (fun ls hl => ?_)
      refine lv_aload_n hx hb dX3_turn_37 rfl (lv_at hl 1 rfl) ?_
      refine va_get (ci := 3) (v := .ref (B 1)) hx hb hts wx_X3 hown hK hP 0 rfl rfl 0 (by decide) (hts _ wf_X3_10) (fun _ h9 => h9) rfl dX3_turn_38 ?_
      refine lv_iload_n hx hb dX3_turn_41 rfl (lv_at hl 2 rfl) ?_
      refine lv_iconst (v := 0) hx hb dX3_turn_42 rfl ?_
      refine lv_iload_n hx hb dX3_turn_43 rfl (lv_at hl 3 rfl) ?_
      refine mu_V (w := (GW cI (B 1) (B 2) (gG 0) (gG 2) (gG 1) (tl gG))) (rest := []) S hK hP hD hS (k_X0_put j 0 k (by omega) (by omega)) gv_X3_117 hd_X0_put ⟨Nat.le_of_ble_eq_true rfl, Nat.le_of_ble_eq_true rfl⟩ [1, 2] rfl rfl 0 rfl rfl rfl rfl hl.1 (lv_room (Nat.le_of_ble_eq_true rfl)) dX3_turn_44 ⟨Nat.zero_le _, Nat.zero_le _⟩ (fun ov w' H locs hp hP hD hS => ?_)
      obtain ⟨rfl, rfl⟩ := hp
      have hP : va_P D vwCl (VW cI cJ cO B (put9 gG j 0 k) tG kG ik le by_ tk bg en va tn b0 l0 u0 b1 l1 u1 b2 l2 u2 b3 l3 u3 fS cW) H := hP
      have hD : va_D _ (VW cI cJ cO B (put9 gG j 0 k) tG kG ik le by_ tk bg en va tn b0 l0 u0 b1 l1 u1 b2 l2 u2 b3 l3 u3 fS cW) := hD
      refine W.eq (g2 := F0 m 47 ls []) rfl ?_
      refine lv_iload_n hx hb dX3_turn_47 rfl (lv_at hl 0 rfl) ?_
      have hE : put9 gG j 0 k = turnG gG n (nI j) k := by simp [turnR, turnG, turnOk, okT, bump, put9, b2i, c8, c17, ej, i_lt, -Int32.not_le, -Int32.not_lt]
      have hW : (VW cI cJ cO B (put9 gG j 0 k) tG kG ik le by_ tk bg en va tn b0 l0 u0 b1 l1 u1 b2 l2 u2 b3 l3 u3 fS cW) = (VW cI cJ cO B (turnG gG n (nI j) k) tG kG ik le by_ tk bg en va tn b0 l0 u0 b1 l1 u1 b2 l2 u2 b3 l3 u3 fS cW) := congrArg (fun z => (VW cI cJ cO B z tG kG ik le by_ tk bg en va tn b0 l0 u0 b1 l1 u1 b2 l2 u2 b3 l3 u3 fS cW)) hE
      have hP : va_P D vwCl (VW cI cJ cO B (turnG gG n (nI j) k) tG kG ik le by_ tk bg en va tn b0 l0 u0 b1 l1 u1 b2 l2 u2 b3 l3 u3 fS cW) H := Eq.mp (congrArg (fun z => va_P D vwCl z H) hW) hP
      have hD : va_D _ (VW cI cJ cO B (turnG gG n (nI j) k) tG kG ik le by_ tk bg en va tn b0 l0 u0 b1 l1 u1 b2 l2 u2 b3 l3 u3 fS cW) := Eq.mp (congrArg (fun z => va_D _ z) hW) hD
      have hE : fS = okT (turnOk n (nI j) k) fS := by simp [turnR, turnG, turnOk, okT, bump, put9, b2i, c8, c17, ej, i_lt, -Int32.not_le, -Int32.not_lt]
      have hW : (VW cI cJ cO B (turnG gG n (nI j) k) tG kG ik le by_ tk bg en va tn b0 l0 u0 b1 l1 u1 b2 l2 u2 b3 l3 u3 fS cW) = (VW cI cJ cO B (turnG gG n (nI j) k) tG kG ik le by_ tk bg en va tn b0 l0 u0 b1 l1 u1 b2 l2 u2 b3 l3 u3 (okT (turnOk n (nI j) k) fS) cW) := congrArg (fun z => (VW cI cJ cO B (turnG gG n (nI j) k) tG kG ik le by_ tk bg en va tn b0 l0 u0 b1 l1 u1 b2 l2 u2 b3 l3 u3 z cW)) hE
      have hP : va_P D vwCl (VW cI cJ cO B (turnG gG n (nI j) k) tG kG ik le by_ tk bg en va tn b0 l0 u0 b1 l1 u1 b2 l2 u2 b3 l3 u3 (okT (turnOk n (nI j) k) fS) cW) H := Eq.mp (congrArg (fun z => va_P D vwCl z H) hW) hP
      have hD : va_D _ (VW cI cJ cO B (turnG gG n (nI j) k) tG kG ik le by_ tk bg en va tn b0 l0 u0 b1 l1 u1 b2 l2 u2 b3 l3 u3 (okT (turnOk n (nI j) k) fS) cW) := Eq.mp (congrArg (fun z => va_D _ z) hW) hD
      exact mu_iret (VW cI cJ cO B (turnG gG n (nI j) k) tG kG ik le by_ tk bg en va tn b0 l0 u0 b1 l1 u1 b2 l2 u2 b3 l3 u3 (okT (turnOk n (nI j) k) fS) cW) hx hb hr hlk hP hS rfl (⟨congrArg (fun z => some (Value.int z)) (by simp [turnR, turnG, turnOk, okT, bump, put9, b2i, c8, c17, ej, i_lt, -Int32.not_le, -Int32.not_lt]), rfl⟩) dX3_turn_48
    · replace c17 := bn_n0 c17
      refine lv_aload_n hx hb dX3_turn_20 rfl (lv_at hl 0 rfl) ?_
      refine lv_ldc (v := (-1000000001)) hx hb hown (hts _ wq_X3_51) dX3_turn_21 ?_
      refine mu_W (w := (VW cI cJ cO B gG tG kG ik le by_ tk bg en va tn b0 l0 u0 b1 l1 u1 b2 l2 u2 b3 l3 u3 fS cW)) (rest := []) S hK hP hD hS (k_X3_finding 0 (-1000000001) (by decide) (by decide)) gv_X3_52 hd_X3_finding ⟨Nat.le_of_ble_eq_true rfl, Nat.le_of_ble_eq_true rfl⟩ 3 rfl rfl rfl rfl hl.1 (lv_room (Nat.le_of_ble_eq_true rfl)) dX3_turn_23 ⟨Nat.zero_le _, Nat.zero_le _⟩ (fun ov w' H locs hp hP hD hS => ?_)
      obtain ⟨rfl, rfl⟩ := hp
      refine W.eq (g2 := F0 m 26 ls [.int (-1000000001)]) rfl ?_
      have hE : gG = turnG gG n (nI j) k := by simp [turnR, turnG, turnOk, okT, bump, put9, b2i, c8, c17, ej, i_lt, -Int32.not_le, -Int32.not_lt]
      have hW : (VW cI cJ cO B gG tG kG ik le by_ tk bg en va tn b0 l0 u0 b1 l1 u1 b2 l2 u2 b3 l3 u3 (upd fS 0 (fS 0 + 1)) cW) = (VW cI cJ cO B (turnG gG n (nI j) k) tG kG ik le by_ tk bg en va tn b0 l0 u0 b1 l1 u1 b2 l2 u2 b3 l3 u3 (upd fS 0 (fS 0 + 1)) cW) := congrArg (fun z => (VW cI cJ cO B z tG kG ik le by_ tk bg en va tn b0 l0 u0 b1 l1 u1 b2 l2 u2 b3 l3 u3 (upd fS 0 (fS 0 + 1)) cW)) hE
      have hP : va_P D vwCl (VW cI cJ cO B (turnG gG n (nI j) k) tG kG ik le by_ tk bg en va tn b0 l0 u0 b1 l1 u1 b2 l2 u2 b3 l3 u3 (upd fS 0 (fS 0 + 1)) cW) H := Eq.mp (congrArg (fun z => va_P D vwCl z H) hW) hP
      have hD : va_D _ (VW cI cJ cO B (turnG gG n (nI j) k) tG kG ik le by_ tk bg en va tn b0 l0 u0 b1 l1 u1 b2 l2 u2 b3 l3 u3 (upd fS 0 (fS 0 + 1)) cW) := Eq.mp (congrArg (fun z => va_D _ z) hW) hD
      have hE : upd fS 0 (fS 0 + 1) = okT (turnOk n (nI j) k) fS := by simp [turnR, turnG, turnOk, okT, bump, put9, b2i, c8, c17, ej, i_lt, -Int32.not_le, -Int32.not_lt]
      have hW : (VW cI cJ cO B (turnG gG n (nI j) k) tG kG ik le by_ tk bg en va tn b0 l0 u0 b1 l1 u1 b2 l2 u2 b3 l3 u3 (upd fS 0 (fS 0 + 1)) cW) = (VW cI cJ cO B (turnG gG n (nI j) k) tG kG ik le by_ tk bg en va tn b0 l0 u0 b1 l1 u1 b2 l2 u2 b3 l3 u3 (okT (turnOk n (nI j) k) fS) cW) := congrArg (fun z => (VW cI cJ cO B (turnG gG n (nI j) k) tG kG ik le by_ tk bg en va tn b0 l0 u0 b1 l1 u1 b2 l2 u2 b3 l3 u3 z cW)) hE
      have hP : va_P D vwCl (VW cI cJ cO B (turnG gG n (nI j) k) tG kG ik le by_ tk bg en va tn b0 l0 u0 b1 l1 u1 b2 l2 u2 b3 l3 u3 (okT (turnOk n (nI j) k) fS) cW) H := Eq.mp (congrArg (fun z => va_P D vwCl z H) hW) hP
      have hD : va_D _ (VW cI cJ cO B (turnG gG n (nI j) k) tG kG ik le by_ tk bg en va tn b0 l0 u0 b1 l1 u1 b2 l2 u2 b3 l3 u3 (okT (turnOk n (nI j) k) fS) cW) := Eq.mp (congrArg (fun z => va_D _ z) hW) hD
      exact mu_iret (VW cI cJ cO B (turnG gG n (nI j) k) tG kG ik le by_ tk bg en va tn b0 l0 u0 b1 l1 u1 b2 l2 u2 b3 l3 u3 (okT (turnOk n (nI j) k) fS) cW) hx hb hr hlk hP hS rfl (⟨congrArg (fun z => some (Value.int z)) (by simp [turnR, turnG, turnOk, okT, bump, put9, b2i, c8, c17, ej, i_lt, -Int32.not_le, -Int32.not_lt]), rfl⟩) dX3_turn_26

end
