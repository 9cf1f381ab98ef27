section
variable {l : Launch} {D : va_G} {cI cJ cO : ClassId} {h q : Nat} {le : Int32} {by_ : Nat → Int32} {tk bg en va tn : Int32}

set_option maxHeartbeats 4000000 in
set_option maxRecDepth 100000 in
theorem k_X2_take (d : Nat) (b : Int32) (hd : d < 120) : MU l D (tyA cI cJ cO) yX2_take cX2_take 2 none 0 0 [.ref h, .int b] (TW cI h q (nI d) by_ tk bg en va tn) (fun ov w' => ov = none ∧ w' = (TW cI h q (nI (d + 1)) (upd by_ d b) tk bg en va tn)) := by
  refine MU.mk (by decide) (Nat.le_of_ble_eq_true rfl) ?_
  intro p e s m below meth c ls S hr hlk hP hK hD hS hl
  have S : CallFix p m c cX2_take 2 s _ WL RX2 := S
  obtain ⟨hx, hb, hml, hown, hts⟩ := id S
  have hl : lv_has ls 2 [(0, .ref h), (1, .int b)] := hl
  refine lv_aload_n hx hb dX2_take_0 rfl (lv_at hl 0 rfl) ?_
  refine va_get (ci := 2) (v := .int (nI d)) hx hb hts wx_X2 hown hK hP 0 rfl rfl 0 (by decide) (hts _ wf_X2_9) (fun _ h9 => h9) rfl dX2_take_1 ?_
  refine lv_if_lt (tgt := 36) hx hb dX2_take_4 rfl (fun c4 => ?_) (fun c4 => ?_)
  · exact absurd c4 (nI_pos (by omega))
  · refine lv_aload_n hx hb dX2_take_7 rfl (lv_at hl 0 rfl) ?_
    refine va_get (ci := 2) (v := .int (nI d)) hx hb hts wx_X2 hown hK hP 0 rfl rfl 0 (by decide) (hts _ wf_X2_9) (fun _ h9 => h9) rfl dX2_take_8 ?_
    refine lv_bipush (v := 120) hx hb dX2_take_11 rfl ?_
    refine lv_icmp_ge (tgt := 36) hx hb dX2_take_13 rfl (fun c13 => ?_) (fun c13 => ?_)
    · exact absurd (nq_le (a := 120) (b := d) (by omega) (by omega) c13) (by omega)
    · replace c13 := nq_nle (a := 120) (b := d) (by omega) (by omega) c13
      refine lv_aload_n hx hb dX2_take_16 rfl (lv_at hl 0 rfl) ?_
      refine va_get (ci := 2) (v := .ref q) hx hb hts wx_X2 hown hK hP 0 rfl rfl 1 (by decide) (hts _ wf_X2_15) (fun _ h9 => h9) rfl dX2_take_17 ?_
      refine lv_aload_n hx hb dX2_take_20 rfl (lv_at hl 0 rfl) ?_
      refine va_get (ci := 2) (v := .int (nI d)) hx hb hts wx_X2 hown hK hP 0 rfl rfl 0 (by decide) (hts _ wf_X2_9) (fun _ h9 => h9) rfl dX2_take_21 ?_
      refine lv_iload_n hx hb dX2_take_24 rfl (lv_at hl 1 rfl) ?_
      refine ia_st hx hb hK hP hD hS 1 0 rfl rfl d (rfl) (by omega) (by decide) dX2_take_25 (fun H locs hP hD hS => ?_)
      have hP : va_P D vwCl (TW cI h q (nI d) (upd by_ d b) tk bg en va tn) H := hP
      have hD : va_D _ (TW cI h q (nI d) (upd by_ d b) tk bg en va tn) := hD
      refine lv_aload_n hx hb dX2_take_26 rfl (lv_at hl 0 rfl) ?_
      refine lv_dup hx hb dX2_take_27 rfl ?_
      refine va_get (ci := 2) (v := .int (nI d)) hx hb hts wx_X2 hown hK hP 0 rfl rfl 0 (by decide) (hts _ wf_X2_9) (fun _ h9 => h9) rfl dX2_take_28 ?_
      refine lv_iconst (v := 1) hx hb dX2_take_31 rfl ?_
      refine lv_iadd hx hb dX2_take_32 ?_
      refine w_i (z := nI (d + 1)) (nI_1 d) ?_
      refine va_put (ci := 2) (v := .int (nI (d + 1))) (ty := tyX2 0) hx hb hts wx_X2 tyX2 tyX2_ok nmX2 hown hK hP hD hS 0 rfl rfl 0 (by decide) (hts _ wf_X2_9) (fun _ h9 => h9) rfl (tyX2_ok 0 (by decide)) rfl rfl (Nat.le_of_ble_eq_true rfl) dX2_take_33 (fun H locs hP hD hS => ?_)
      have hP : va_P D vwCl (TW cI h q (nI (d + 1)) (upd by_ d b) tk bg en va tn) H := hP
      have hD : va_D _ (TW cI h q (nI (d + 1)) (upd by_ d b) tk bg en va tn) := hD
      exact mu_vret (TW cI h q (nI (d + 1)) (upd by_ d b) tk bg en va tn) hx hb hr hlk hP hS rfl (⟨rfl, rfl⟩) dX2_take_36

end
section
variable {l : Launch} {D : va_G} {cI cJ cO : ClassId} {B : Nat → Nat} {gG tG kG : Nat → Int32} {ik le : Int32} {by_ : Nat → Int32} {tk bg en va tn b0 l0 : Int32} {u0 : Nat → Int64} {b1 l1 : Int32} {u1 : Nat → Int64} {b2 l2 : Int32} {u2 : Nat → Int64} {b3 l3 : Int32} {u3 : Nat → Int64} {fS cW : Nat → Int32}

set_option maxHeartbeats 4000000 in
set_option maxRecDepth 100000 in
theorem k_X3_feed (d : Nat) (b : Int32) (k : Int32) (hd : d ≤ 120) : MU l D (tyA cI cJ cO) yX3_feed cX3_feed 4 ((some .int)) 1 22 [.ref (B 0), .int b, .int k] (VW cI cJ cO B gG tG kG ik (nI d) by_ tk bg en va tn b0 l0 u0 b1 l1 u1 b2 l2 u2 b3 l3 u3 fS cW) (fun ov w' => ov = some (.int (feedR d k)) ∧ w' = (VW cI cJ cO B gG tG kG ik (feedD d k) (feedP by_ d b k) tk bg en va tn b0 l0 u0 b1 l1 u1 b2 l2 u2 b3 l3 u3 (feedT fS d k) cW)) := by
  refine MU.mk (by decide) (Nat.le_of_ble_eq_true rfl) ?_
  intro p e s m below meth c ls S hr hlk hP hK hD hS hl
  have S : CallFix p m c cX3_feed 4 s _ WL RX3 := S
  obtain ⟨hx, hb, hml, hown, hts⟩ := id S
  have hl : lv_has ls 4 [(0, .ref (B 0)), (1, .int b), (2, .int k)] := hl
  refine lv_iload_n hx hb dX3_feed_0 rfl (lv_at hl 2 rfl) ?_
  refine lv_iconst (v := 1) hx hb dX3_feed_1 rfl ?_
  refine lv_iconst (v := 4) hx hb dX3_feed_2 rfl ?_
  refine ro_S (w := []) (rest := []) S hK va_P0 (k_X3_isOutside k 1 4) gs_X3_47 hd_X3_isOutside ⟨Nat.le_of_ble_eq_true rfl, Nat.le_of_ble_eq_true rfl⟩ rfl hl.1 (lv_room (Nat.le_of_ble_eq_true rfl)) dX3_feed_3 ⟨Nat.zero_le _, Nat.zero_le _⟩ ?_
  refine lv_if_eq (tgt := 16) hx hb dX3_feed_6 rfl (fun c6 => ?_) (fun c6 => ?_)
  · replace c6 := bn_0 c6
    obtain ⟨k0, hk0a, hk0b, rfl⟩ := in_nat (a := 1) (b := 4) (by decide) c6 (by decide)
    have ek0 : cl (nI k0) = k0 := cl_nI (by omega)
    refine lv_aload_n hx hb dX3_feed_16 rfl (lv_at hl 0 rfl) ?_
    refine va_get (ci := 3) (v := .ref (B 7)) hx hb hts wx_X3 hown hK hP 0 rfl rfl 4 (by decide) (hts _ wf_X3_29) (fun _ h9 => h9) rfl dX3_feed_17 ?_
    refine va_get (ci := 2) (v := .int (nI d)) hx hb hts wx_X2 hown hK hP 7 rfl rfl 0 (by decide) (hts _ wf_X3_165) (fun _ h9 => h9) rfl dX3_feed_20 ?_
    refine lv_bipush (v := 120) hx hb dX3_feed_23 rfl ?_
    refine lv_iload_n hx hb dX3_feed_25 rfl (lv_at hl 2 rfl) ?_
    refine lv_isub hx hb dX3_feed_26 ?_
    refine w_i (z := nI (120 - k0)) (pk_sub (a := 120) (by omega)) ?_
    refine lv_icmp_le (tgt := 37) hx hb dX3_feed_27 rfl (fun c27 => ?_) (fun c27 => ?_)
    · replace c27 := nq_le (a := d) (b := (120 - k0)) (by omega) (by omega) c27
      have c27s : d + k0 ≤ 120 := by omega
      refine lv_iload_n hx hb dX3_feed_37 rfl (lv_at hl 2 rfl) ?_
      refine lv_iconst (v := 1) hx hb dX3_feed_38 rfl ?_
      refine lv_isub hx hb dX3_feed_39 ?_
      refine w_i (z := nI k0 - nI (0 + 1)) (rfl) ?_
      have hE : by_ = feedF by_ d b k0 0 := feedF_0 _ _ _ _
      have hW : (VW cI cJ cO B gG tG kG ik (nI d) by_ tk bg en va tn b0 l0 u0 b1 l1 u1 b2 l2 u2 b3 l3 u3 fS cW) = (VW cI cJ cO B gG tG kG ik (nI d) (feedF by_ d b k0 0) tk bg en va tn b0 l0 u0 b1 l1 u1 b2 l2 u2 b3 l3 u3 fS cW) := congrArg (fun z => (VW cI cJ cO B gG tG kG ik (nI d) z tk bg en va tn b0 l0 u0 b1 l1 u1 b2 l2 u2 b3 l3 u3 fS cW)) hE
      have hP : va_P D vwCl (VW cI cJ cO B gG tG kG ik (nI d) (feedF by_ d b k0 0) tk bg en va tn b0 l0 u0 b1 l1 u1 b2 l2 u2 b3 l3 u3 fS cW) s.heap := Eq.mp (congrArg (fun z => va_P D vwCl z s.heap) hW) hP
      have hD : va_D _ (VW cI cJ cO B gG tG kG ik (nI d) (feedF by_ d b k0 0) tk bg en va tn b0 l0 u0 b1 l1 u1 b2 l2 u2 b3 l3 u3 fS cW) := Eq.mp (congrArg (fun z => va_D _ z) hW) hD
      have hE : nI d = nI (d + 0) := rfl
      have hW : (VW cI cJ cO B gG tG kG ik (nI d) (feedF by_ d b k0 0) tk bg en va tn b0 l0 u0 b1 l1 u1 b2 l2 u2 b3 l3 u3 fS cW) = (VW cI cJ cO B gG tG kG ik (nI (d + 0)) (feedF by_ d b k0 0) tk bg en va tn b0 l0 u0 b1 l1 u1 b2 l2 u2 b3 l3 u3 fS cW) := congrArg (fun z => (VW cI cJ cO B gG tG kG ik z (feedF by_ d b k0 0) tk bg en va tn b0 l0 u0 b1 l1 u1 b2 l2 u2 b3 l3 u3 fS cW)) hE
      have hP : va_P D vwCl (VW cI cJ cO B gG tG kG ik (nI (d + 0)) (feedF by_ d b k0 0) tk bg en va tn b0 l0 u0 b1 l1 u1 b2 l2 u2 b3 l3 u3 fS cW) s.heap := Eq.mp (congrArg (fun z => va_P D vwCl z s.heap) hW) hP
      have hD : va_D _ (VW cI cJ cO B gG tG kG ik (nI (d + 0)) (feedF by_ d b k0 0) tk bg en va tn b0 l0 u0 b1 l1 u1 b2 l2 u2 b3 l3 u3 fS cW) := Eq.mp (congrArg (fun z => va_D _ z) hW) hD
      refine lv_istore_n (lv' := [(3, .int (nI k0 - nI (0 + 1))), (0, .ref (B 0)), (1, .int b), (2, .int (nI k0))]) hx hb dX3_feed_40 rfl hl (by decide) rfl (fun ls hl => ?_)
      refine w_loopH (pc := 41) (st := fun (i : Nat) => []) (μ := fun (i : Nat) => k0 - i) (I := fun (i : Nat) H locs ls => (i ≤ k0) ∧ va_P D vwCl (VW cI cJ cO B gG tG kG ik (nI (d + i)) (feedF by_ d b k0 i) tk bg en va tn b0 l0 u0 b1 l1 u1 b2 l2 u2 b3 l3 u3 fS cW) H ∧ va_D (fun z9 => z9 ∈ ((VW cI cJ cO B gG tG kG ik (nI d) by_ tk bg en va tn b0 l0 u0 b1 l1 u1 b2 l2 u2 b3 l3 u3 fS cW)).map (fun z8 => z8.1)) (VW cI cJ cO B gG tG kG ik (nI (d + i)) (feedF by_ d b k0 i) tk bg en va tn b0 l0 u0 b1 l1 u1 b2 l2 u2 b3 l3 u3 fS cW) ∧ va_S (fun z9 => z9 ∈ ((VW cI cJ cO B gG tG kG ik (nI d) by_ tk bg en va tn b0 l0 u0 b1 l1 u1 b2 l2 u2 b3 l3 u3 fS cW)).map (fun z8 => z8.1)) s.heap H locs ∧ lv_has ls 4 [(0, .ref (B 0)), (1, .int b), (2, .int (nI k0)), (3, .int (nI k0 - nI (i + 1)))]) ?_ (0) ⟨Nat.zero_le _, hP, hD, hS, lv_sub hl [1, 2, 3, 0] rfl⟩
      rintro i H locs ls ⟨hi, hP, hD, hS, hl⟩ ih41
      try dsimp only at ih41 ⊢
      refine lv_iload_n hx hb dX3_feed_41 rfl (lv_at hl 3 rfl) ?_
      refine lv_if_lt (tgt := 68) hx hb dX3_feed_42 rfl (fun c42 => ?_) (fun c42 => ?_)
      · replace c42 : i = k0 := by have h9 := dn_lt (c := k0) (i := i + 1) (by omega) (by omega) (Int32.not_le.mpr c42); omega
        obtain rfl := c42.symm
        refine lv_aload_n hx hb dX3_feed_68 rfl (lv_at hl 0 rfl) ?_
        refine va_get (ci := 3) (v := .ref (B 7)) hx hb hts wx_X3 hown hK hP 0 rfl rfl 4 (by decide) (hts _ wf_X3_29) (fun _ h9 => h9) rfl dX3_feed_69 ?_
        refine va_get (ci := 2) (v := .int (nI (d + k0))) hx hb hts wx_X2 hown hK hP 7 rfl rfl 0 (by decide) (hts _ wf_X3_165) (fun _ h9 => h9) rfl dX3_feed_72 ?_
        have hE : fS = feedT fS d (nI k0) := by simp [feedR, feedT, feedP, feedD, feedOk, bump, put9, b2i, c6, ek0, c27s, i_lt, -Int32.not_le, -Int32.not_lt]
        have hW : (VW cI cJ cO B gG tG kG ik (nI (d + k0)) (feedF by_ d b k0 k0) tk bg en va tn b0 l0 u0 b1 l1 u1 b2 l2 u2 b3 l3 u3 fS cW) = (VW cI cJ cO B gG tG kG ik (nI (d + k0)) (feedF by_ d b k0 k0) tk bg en va tn b0 l0 u0 b1 l1 u1 b2 l2 u2 b3 l3 u3 (feedT fS d (nI k0)) cW) := congrArg (fun z => (VW cI cJ cO B gG tG kG ik (nI (d + k0)) (feedF by_ d b k0 k0) tk bg en va tn b0 l0 u0 b1 l1 u1 b2 l2 u2 b3 l3 u3 z cW)) hE
        have hP : va_P D vwCl (VW cI cJ cO B gG tG kG ik (nI (d + k0)) (feedF by_ d b k0 k0) tk bg en va tn b0 l0 u0 b1 l1 u1 b2 l2 u2 b3 l3 u3 (feedT fS d (nI k0)) cW) H := Eq.mp (congrArg (fun z => va_P D vwCl z H) hW) hP
        have hD : va_D _ (VW cI cJ cO B gG tG kG ik (nI (d + k0)) (feedF by_ d b k0 k0) tk bg en va tn b0 l0 u0 b1 l1 u1 b2 l2 u2 b3 l3 u3 (feedT fS d (nI k0)) cW) := Eq.mp (congrArg (fun z => va_D _ z) hW) hD
        have hE : feedF by_ d b k0 k0 = feedP by_ d b (nI k0) := by simp [feedR, feedT, feedP, feedD, feedOk, bump, put9, b2i, c6, ek0, c27s, i_lt, -Int32.not_le, -Int32.not_lt]
        have hW : (VW cI cJ cO B gG tG kG ik (nI (d + k0)) (feedF by_ d b k0 k0) tk bg en va tn b0 l0 u0 b1 l1 u1 b2 l2 u2 b3 l3 u3 (feedT fS d (nI k0)) cW) = (VW cI cJ cO B gG tG kG ik (nI (d + k0)) (feedP by_ d b (nI k0)) tk bg en va tn b0 l0 u0 b1 l1 u1 b2 l2 u2 b3 l3 u3 (feedT fS d (nI k0)) cW) := congrArg (fun z => (VW cI cJ cO B gG tG kG ik (nI (d + k0)) z tk bg en va tn b0 l0 u0 b1 l1 u1 b2 l2 u2 b3 l3 u3 (feedT fS d (nI k0)) cW)) hE
        have hP : va_P D vwCl (VW cI cJ cO B gG tG kG ik (nI (d + k0)) (feedP by_ d b (nI k0)) tk bg en va tn b0 l0 u0 b1 l1 u1 b2 l2 u2 b3 l3 u3 (feedT fS d (nI k0)) cW) H := Eq.mp (congrArg (fun z => va_P D vwCl z H) hW) hP
        have hD : va_D _ (VW cI cJ cO B gG tG kG ik (nI (d + k0)) (feedP by_ d b (nI k0)) tk bg en va tn b0 l0 u0 b1 l1 u1 b2 l2 u2 b3 l3 u3 (feedT fS d (nI k0)) cW) := Eq.mp (congrArg (fun z => va_D _ z) hW) hD
        have hE : nI (d + k0) = feedD d (nI k0) := by simp [feedR, feedT, feedP, feedD, feedOk, bump, put9, b2i, c6, ek0, c27s, i_lt, -Int32.not_le, -Int32.not_lt]
        have hW : (VW cI cJ cO B gG tG kG ik (nI (d + k0)) (feedP by_ d b (nI k0)) tk bg en va tn b0 l0 u0 b1 l1 u1 b2 l2 u2 b3 l3 u3 (feedT fS d (nI k0)) cW) = (VW cI cJ cO B gG tG kG ik (feedD d (nI k0)) (feedP by_ d b (nI k0)) tk bg en va tn b0 l0 u0 b1 l1 u1 b2 l2 u2 b3 l3 u3 (feedT fS d (nI k0)) cW) := congrArg (fun z => (VW cI cJ cO B gG tG kG ik z (feedP by_ d b (nI k0)) tk bg en va tn b0 l0 u0 b1 l1 u1 b2 l2 u2 b3 l3 u3 (feedT fS d (nI k0)) cW)) hE
        have hP : va_P D vwCl (VW cI cJ cO B gG tG kG ik (feedD d (nI k0)) (feedP by_ d b (nI k0)) tk bg en va tn b0 l0 u0 b1 l1 u1 b2 l2 u2 b3 l3 u3 (feedT fS d (nI k0)) cW) H := Eq.mp (congrArg (fun z => va_P D vwCl z H) hW) hP
        have hD : va_D _ (VW cI cJ cO B gG tG kG ik (feedD d (nI k0)) (feedP by_ d b (nI k0)) tk bg en va tn b0 l0 u0 b1 l1 u1 b2 l2 u2 b3 l3 u3 (feedT fS d (nI k0)) cW) := Eq.mp (congrArg (fun z => va_D _ z) hW) hD
        exact mu_iret (VW cI cJ cO B gG tG kG ik (feedD d (nI k0)) (feedP by_ d b (nI k0)) tk bg en va tn b0 l0 u0 b1 l1 u1 b2 l2 u2 b3 l3 u3 (feedT fS d (nI k0)) cW) hx hb hr hlk hP hS rfl (⟨congrArg (fun z => some (Value.int z)) (by simp [feedR, feedT, feedP, feedD, feedOk, bump, put9, b2i, c6, ek0, c27s, i_lt, -Int32.not_le, -Int32.not_lt]), rfl⟩) dX3_feed_75
      · replace c42 : i < k0 := by have h9 := dn_ge (c := k0) (i := i + 1) (by omega) (by omega) (Int32.not_lt.mp c42); omega
        refine lv_aload_n hx hb dX3_feed_45 rfl (lv_at hl 0 rfl) ?_
        refine va_get (ci := 3) (v := .ref (B 7)) hx hb hts wx_X3 hown hK hP 0 rfl rfl 4 (by decide) (hts _ wf_X3_29) (fun _ h9 => h9) rfl dX3_feed_46 ?_
        refine lv_iload_n hx hb dX3_feed_49 rfl (lv_at hl 1 rfl) ?_
        refine lv_bipush (v := 8) hx hb dX3_feed_50 rfl ?_
        refine lv_iload_n hx hb dX3_feed_52 rfl (lv_at hl 3 rfl) ?_
        refine lv_imul hx hb dX3_feed_53 ?_
        refine lv_iushr hx hb dX3_feed_54 rfl ?_
        refine lv_sipush (v := 255) hx hb dX3_feed_55 rfl ?_
        refine lv_iand hx hb dX3_feed_58 ?_
        refine w_i (z := byteV b (k0 - 1 - i)) (by rw [pk_sub (by omega), show k0 - (i + 1) = k0 - 1 - i by omega]; exact byte_u b (by omega)) ?_
        refine mu_V (w := (TW cI (B 7) (B 8) (nI (d + i)) (feedF by_ d b k0 i) tk bg en va tn)) (rest := []) S hK hP hD hS (k_X2_take (d + i) (byteV b (k0 - 1 - i)) (by omega)) gv_X3_168 hd_X2_take ⟨Nat.le_of_ble_eq_true rfl, Nat.le_of_ble_eq_true rfl⟩ [7, 8] rfl rfl 2 rfl rfl rfl rfl hl.1 (lv_room (Nat.le_of_ble_eq_true rfl)) dX3_feed_59 ⟨Nat.zero_le _, Nat.zero_le _⟩ (fun ov w' H locs hp hP hD hS => ?_)
        obtain ⟨rfl, rfl⟩ := hp
        have hP : va_P D vwCl (VW cI cJ cO B gG tG kG ik (nI ((d + i) + 1)) (upd (feedF by_ d b k0 i) (d + i) (byteV b (k0 - 1 - i))) tk bg en va tn b0 l0 u0 b1 l1 u1 b2 l2 u2 b3 l3 u3 fS cW) H := hP
        have hD : va_D _ (VW cI cJ cO B gG tG kG ik (nI ((d + i) + 1)) (upd (feedF by_ d b k0 i) (d + i) (byteV b (k0 - 1 - i))) tk bg en va tn b0 l0 u0 b1 l1 u1 b2 l2 u2 b3 l3 u3 fS cW) := hD
        refine W.eq (g2 := F0 m 62 ls []) rfl ?_
        have hE : upd (feedF by_ d b k0 i) (d + i) (byteV b (k0 - 1 - i)) = feedF by_ d b k0 (i + 1) := feedF_s
        have hW : (VW cI cJ cO B gG tG kG ik (nI ((d + i) + 1)) (upd (feedF by_ d b k0 i) (d + i) (byteV b (k0 - 1 - i))) tk bg en va tn b0 l0 u0 b1 l1 u1 b2 l2 u2 b3 l3 u3 fS cW) = (VW cI cJ cO B gG tG kG ik (nI ((d + i) + 1)) (feedF by_ d b k0 (i + 1)) tk bg en va tn b0 l0 u0 b1 l1 u1 b2 l2 u2 b3 l3 u3 fS cW) := congrArg (fun z => (VW cI cJ cO B gG tG kG ik (nI ((d + i) + 1)) z tk bg en va tn b0 l0 u0 b1 l1 u1 b2 l2 u2 b3 l3 u3 fS cW)) hE
        have hP : va_P D vwCl (VW cI cJ cO B gG tG kG ik (nI ((d + i) + 1)) (feedF by_ d b k0 (i + 1)) tk bg en va tn b0 l0 u0 b1 l1 u1 b2 l2 u2 b3 l3 u3 fS cW) H := Eq.mp (congrArg (fun z => va_P D vwCl z H) hW) hP
        have hD : va_D _ (VW cI cJ cO B gG tG kG ik (nI ((d + i) + 1)) (feedF by_ d b k0 (i + 1)) tk bg en va tn b0 l0 u0 b1 l1 u1 b2 l2 u2 b3 l3 u3 fS cW) := Eq.mp (congrArg (fun z => va_D _ z) hW) hD
        have hE : nI ((d + i) + 1) = nI (d + (i + 1)) := rfl
        have hW : (VW cI cJ cO B gG tG kG ik (nI ((d + i) + 1)) (feedF by_ d b k0 (i + 1)) tk bg en va tn b0 l0 u0 b1 l1 u1 b2 l2 u2 b3 l3 u3 fS cW) = (VW cI cJ cO B gG tG kG ik (nI (d + (i + 1))) (feedF by_ d b k0 (i + 1)) tk bg en va tn b0 l0 u0 b1 l1 u1 b2 l2 u2 b3 l3 u3 fS cW) := congrArg (fun z => (VW cI cJ cO B gG tG kG ik z (feedF by_ d b k0 (i + 1)) tk bg en va tn b0 l0 u0 b1 l1 u1 b2 l2 u2 b3 l3 u3 fS cW)) hE
        have hP : va_P D vwCl (VW cI cJ cO B gG tG kG ik (nI (d + (i + 1))) (feedF by_ d b k0 (i + 1)) tk bg en va tn b0 l0 u0 b1 l1 u1 b2 l2 u2 b3 l3 u3 fS cW) H := Eq.mp (congrArg (fun z => va_P D vwCl z H) hW) hP
        have hD : va_D _ (VW cI cJ cO B gG tG kG ik (nI (d + (i + 1))) (feedF by_ d b k0 (i + 1)) tk bg en va tn b0 l0 u0 b1 l1 u1 b2 l2 u2 b3 l3 u3 fS cW) := Eq.mp (congrArg (fun z => va_D _ z) hW) hD
        refine lv_iinc (v := nI k0 - nI (i + 1 + 1)) (lv' := [(3, .int (nI k0 - nI (i + 1 + 1))), (0, .ref (B 0)), (1, .int b), (2, .int (nI k0))]) hx hb dX3_feed_62 hl (k := 3) rfl (dn_inc) (by decide) rfl (fun ls hl => ?_)
        refine lv_goto (tgt := 41) hx hb dX3_feed_65 rfl ?_
        exact ih41 (i + 1) _ _ ls (by first | omega | (dsimp only; omega)) ⟨(by omega), hP, hD, hS, lv_sub hl [1, 2, 3, 0] rfl⟩
    · replace c27 := nq_nle (a := d) (b := (120 - k0)) (by omega) (by omega) c27
      have c27s : ¬ d + k0 ≤ 120 := by omega
      refine lv_aload_n hx hb dX3_feed_30 rfl (lv_at hl 0 rfl) ?_
      refine lv_ldc (v := (-1000000002)) hx hb hown (hts _ wq_X3_90) dX3_feed_31 ?_
      refine mu_W (w := (VW cI cJ cO B gG tG kG ik (nI d) by_ tk bg en va tn b0 l0 u0 b1 l1 u1 b2 l2 u2 b3 l3 u3 fS cW)) (rest := []) S hK hP hD hS (k_X3_finding 1 (-1000000002) (by decide) (by decide)) gv_X3_52 hd_X3_finding ⟨Nat.le_of_ble_eq_true rfl, Nat.le_of_ble_eq_true rfl⟩ 3 rfl rfl rfl rfl hl.1 (lv_room (Nat.le_of_ble_eq_true rfl)) dX3_feed_33 ⟨Nat.zero_le _, Nat.zero_le _⟩ (fun ov w' H locs hp hP hD hS => ?_)
      obtain ⟨rfl, rfl⟩ := hp
      refine W.eq (g2 := F0 m 36 ls [.int (-1000000002)]) rfl ?_
      have hE : upd fS 1 (fS 1 + 1) = feedT fS d (nI k0) := by simp [feedR, feedT, feedP, feedD, feedOk, bump, put9, b2i, c6, ek0, c27s, i_lt, -Int32.not_le, -Int32.not_lt]
      have hW : (VW cI cJ cO B gG tG kG ik (nI d) by_ tk bg en va tn b0 l0 u0 b1 l1 u1 b2 l2 u2 b3 l3 u3 (upd fS 1 (fS 1 + 1)) cW) = (VW cI cJ cO B gG tG kG ik (nI d) by_ tk bg en va tn b0 l0 u0 b1 l1 u1 b2 l2 u2 b3 l3 u3 (feedT fS d (nI k0)) cW) := congrArg (fun z => (VW cI cJ cO B gG tG kG ik (nI d) by_ tk bg en va tn b0 l0 u0 b1 l1 u1 b2 l2 u2 b3 l3 u3 z cW)) hE
      have hP : va_P D vwCl (VW cI cJ cO B gG tG kG ik (nI d) by_ tk bg en va tn b0 l0 u0 b1 l1 u1 b2 l2 u2 b3 l3 u3 (feedT fS d (nI k0)) cW) H := Eq.mp (congrArg (fun z => va_P D vwCl z H) hW) hP
      have hD : va_D _ (VW cI cJ cO B gG tG kG ik (nI d) by_ tk bg en va tn b0 l0 u0 b1 l1 u1 b2 l2 u2 b3 l3 u3 (feedT fS d (nI k0)) cW) := Eq.mp (congrArg (fun z => va_D _ z) hW) hD
      have hE : by_ = feedP by_ d b (nI k0) := by simp [feedR, feedT, feedP, feedD, feedOk, bump, put9, b2i, c6, ek0, c27s, i_lt, -Int32.not_le, -Int32.not_lt]
      have hW : (VW cI cJ cO B gG tG kG ik (nI d) by_ tk bg en va tn b0 l0 u0 b1 l1 u1 b2 l2 u2 b3 l3 u3 (feedT fS d (nI k0)) cW) = (VW cI cJ cO B gG tG kG ik (nI d) (feedP by_ d b (nI k0)) tk bg en va tn b0 l0 u0 b1 l1 u1 b2 l2 u2 b3 l3 u3 (feedT fS d (nI k0)) cW) := congrArg (fun z => (VW cI cJ cO B gG tG kG ik (nI d) z tk bg en va tn b0 l0 u0 b1 l1 u1 b2 l2 u2 b3 l3 u3 (feedT fS d (nI k0)) cW)) hE
      have hP : va_P D vwCl (VW cI cJ cO B gG tG kG ik (nI d) (feedP by_ d b (nI k0)) tk bg en va tn b0 l0 u0 b1 l1 u1 b2 l2 u2 b3 l3 u3 (feedT fS d (nI k0)) cW) H := Eq.mp (congrArg (fun z => va_P D vwCl z H) hW) hP
      have hD : va_D _ (VW cI cJ cO B gG tG kG ik (nI d) (feedP by_ d b (nI k0)) tk bg en va tn b0 l0 u0 b1 l1 u1 b2 l2 u2 b3 l3 u3 (feedT fS d (nI k0)) cW) := Eq.mp (congrArg (fun z => va_D _ z) hW) hD
      have hE : nI d = feedD d (nI k0) := by simp [feedR, feedT, feedP, feedD, feedOk, bump, put9, b2i, c6, ek0, c27s, i_lt, -Int32.not_le, -Int32.not_lt]
      have hW : (VW cI cJ cO B gG tG kG ik (nI d) (feedP by_ d b (nI k0)) tk bg en va tn b0 l0 u0 b1 l1 u1 b2 l2 u2 b3 l3 u3 (feedT fS d (nI k0)) cW) = (VW cI cJ cO B gG tG kG ik (feedD d (nI k0)) (feedP by_ d b (nI k0)) tk bg en va tn b0 l0 u0 b1 l1 u1 b2 l2 u2 b3 l3 u3 (feedT fS d (nI k0)) cW) := congrArg (fun z => (VW cI cJ cO B gG tG kG ik z (feedP by_ d b (nI k0)) tk bg en va tn b0 l0 u0 b1 l1 u1 b2 l2 u2 b3 l3 u3 (feedT fS d (nI k0)) cW)) hE
      have hP : va_P D vwCl (VW cI cJ cO B gG tG kG ik (feedD d (nI k0)) (feedP by_ d b (nI k0)) tk bg en va tn b0 l0 u0 b1 l1 u1 b2 l2 u2 b3 l3 u3 (feedT fS d (nI k0)) cW) H := Eq.mp (congrArg (fun z => va_P D vwCl z H) hW) hP
      have hD : va_D _ (VW cI cJ cO B gG tG kG ik (feedD d (nI k0)) (feedP by_ d b (nI k0)) tk bg en va tn b0 l0 u0 b1 l1 u1 b2 l2 u2 b3 l3 u3 (feedT fS d (nI k0)) cW) := Eq.mp (congrArg (fun z => va_D _ z) hW) hD
      exact mu_iret (VW cI cJ cO B gG tG kG ik (feedD d (nI k0)) (feedP by_ d b (nI k0)) tk bg en va tn b0 l0 u0 b1 l1 u1 b2 l2 u2 b3 l3 u3 (feedT fS d (nI k0)) cW) hx hb hr hlk hP hS rfl (⟨congrArg (fun z => some (Value.int z)) (by simp [feedR, feedT, feedP, feedD, feedOk, bump, put9, b2i, c6, ek0, c27s, i_lt, -Int32.not_le, -Int32.not_lt]), rfl⟩) dX3_feed_36
  · replace c6 := bn_n0 c6
    refine lv_aload_n hx hb dX3_feed_9 rfl (lv_at hl 0 rfl) ?_
    refine lv_ldc (v := (-1000000001)) hx hb hown (hts _ wq_X3_51) dX3_feed_10 ?_
    refine mu_W (w := (VW cI cJ cO B gG tG kG ik (nI d) by_ tk bg en va tn b0 l0 u0 b1 l1 u1 b2 l2 u2 b3 l3 u3 fS cW)) (rest := []) S hK hP hD hS (k_X3_finding 0 (-1000000001) (by decide) (by decide)) gv_X3_52 hd_X3_finding ⟨Nat.le_of_ble_eq_true rfl, Nat.le_of_ble_eq_true rfl⟩ 3 rfl rfl rfl rfl hl.1 (lv_room (Nat.le_of_ble_eq_true rfl)) dX3_feed_12 ⟨Nat.zero_le _, Nat.zero_le _⟩ (fun ov w' H locs hp hP hD hS => ?_)
    obtain ⟨rfl, rfl⟩ := hp
    refine W.eq (g2 := F0 m 15 ls [.int (-1000000001)]) rfl ?_
    have hE : upd fS 0 (fS 0 + 1) = feedT fS d k := by simp [feedR, feedT, feedP, feedD, feedOk, bump, put9, b2i, c6, i_lt, -Int32.not_le, -Int32.not_lt]
    have hW : (VW cI cJ cO B gG tG kG ik (nI d) by_ tk bg en va tn b0 l0 u0 b1 l1 u1 b2 l2 u2 b3 l3 u3 (upd fS 0 (fS 0 + 1)) cW) = (VW cI cJ cO B gG tG kG ik (nI d) by_ tk bg en va tn b0 l0 u0 b1 l1 u1 b2 l2 u2 b3 l3 u3 (feedT fS d k) cW) := congrArg (fun z => (VW cI cJ cO B gG tG kG ik (nI d) by_ tk bg en va tn b0 l0 u0 b1 l1 u1 b2 l2 u2 b3 l3 u3 z cW)) hE
    have hP : va_P D vwCl (VW cI cJ cO B gG tG kG ik (nI d) by_ tk bg en va tn b0 l0 u0 b1 l1 u1 b2 l2 u2 b3 l3 u3 (feedT fS d k) cW) H := Eq.mp (congrArg (fun z => va_P D vwCl z H) hW) hP
    have hD : va_D _ (VW cI cJ cO B gG tG kG ik (nI d) by_ tk bg en va tn b0 l0 u0 b1 l1 u1 b2 l2 u2 b3 l3 u3 (feedT fS d k) cW) := Eq.mp (congrArg (fun z => va_D _ z) hW) hD
    have hE : by_ = feedP by_ d b k := by simp [feedR, feedT, feedP, feedD, feedOk, bump, put9, b2i, c6, i_lt, -Int32.not_le, -Int32.not_lt]
    have hW : (VW cI cJ cO B gG tG kG ik (nI d) by_ tk bg en va tn b0 l0 u0 b1 l1 u1 b2 l2 u2 b3 l3 u3 (feedT fS d k) cW) = (VW cI cJ cO B gG tG kG ik (nI d) (feedP by_ d b k) tk bg en va tn b0 l0 u0 b1 l1 u1 b2 l2 u2 b3 l3 u3 (feedT fS d k) cW) := congrArg (fun z => (VW cI cJ cO B gG tG kG ik (nI d) z tk bg en va tn b0 l0 u0 b1 l1 u1 b2 l2 u2 b3 l3 u3 (feedT fS d k) cW)) hE
    have hP : va_P D vwCl (VW cI cJ cO B gG tG kG ik (nI d) (feedP by_ d b k) tk bg en va tn b0 l0 u0 b1 l1 u1 b2 l2 u2 b3 l3 u3 (feedT fS d k) cW) H := Eq.mp (congrArg (fun z => va_P D vwCl z H) hW) hP
    have hD : va_D _ (VW cI cJ cO B gG tG kG ik (nI d) (feedP by_ d b k) tk bg en va tn b0 l0 u0 b1 l1 u1 b2 l2 u2 b3 l3 u3 (feedT fS d k) cW) := Eq.mp (congrArg (fun z => va_D _ z) hW) hD
    have hE : nI d = feedD d k := by simp [feedR, feedT, feedP, feedD, feedOk, bump, put9, b2i, c6, i_lt, -Int32.not_le, -Int32.not_lt]
    have hW : (VW cI cJ cO B gG tG kG ik (nI d) (feedP by_ d b k) tk bg en va tn b0 l0 u0 b1 l1 u1 b2 l2 u2 b3 l3 u3 (feedT fS d k) cW) = (VW cI cJ cO B gG tG kG ik (feedD d k) (feedP by_ d b k) tk bg en va tn b0 l0 u0 b1 l1 u1 b2 l2 u2 b3 l3 u3 (feedT fS d k) cW) := congrArg (fun z => (VW cI cJ cO B gG tG kG ik z (feedP by_ d b k) tk bg en va tn b0 l0 u0 b1 l1 u1 b2 l2 u2 b3 l3 u3 (feedT fS d k) cW)) hE
    have hP : va_P D vwCl (VW cI cJ cO B gG tG kG ik (feedD d k) (feedP by_ d b k) tk bg en va tn b0 l0 u0 b1 l1 u1 b2 l2 u2 b3 l3 u3 (feedT fS d k) cW) H := Eq.mp (congrArg (fun z => va_P D vwCl z H) hW) hP
    have hD : va_D _ (VW cI cJ cO B gG tG kG ik (feedD d k) (feedP by_ d b k) tk bg en va tn b0 l0 u0 b1 l1 u1 b2 l2 u2 b3 l3 u3 (feedT fS d k) cW) := Eq.mp (congrArg (fun z => va_D _ z) hW) hD
    exact mu_iret (VW cI cJ cO B gG tG kG ik (feedD d k) (feedP by_ d b k) tk bg en va tn b0 l0 u0 b1 l1 u1 b2 l2 u2 b3 l3 u3 (feedT fS d k) cW) hx hb hr hlk hP hS rfl (⟨congrArg (fun z => some (Value.int z)) (by simp [feedR, feedT, feedP, feedD, feedOk, bump, put9, b2i, c6, i_lt, -Int32.not_le, -Int32.not_lt]), rfl⟩) dX3_feed_15

end
