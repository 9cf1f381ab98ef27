section
variable {l : Launch} {D : va_G} {cI cJ cO : ClassId} {A : Nat → Nat} {sS kS oS aS tS : Nat → Int32} {ik : Int32} {cA tp : Nat → Int32} {td fm tt vl wr : Int32} {bO sO : Nat → Int32} {nU mV : Nat → Int64}

set_option maxHeartbeats 4000000 in
set_option maxRecDepth 100000 in
theorem k_X4_byteAt (d : Nat) (k : Nat) (hd : d ≤ 120) (hk : k ≤ 1000) : RO l D (tyA cI cJ cO) yX4_byteAt cX4_byteAt 2 ((some .int)) 0 0 [.ref (A 0), .int (nI k)] (MW cI cJ A sS kS oS aS tS ik cA tp (nI d) fm tt vl wr bO sO nU mV) (.int (byt tp d k)) := by
  refine RO.mk (by decide) (Nat.le_of_ble_eq_true rfl) ?_
  intro p e s m below meth c ls S hr hlk hP hK hl
  have S : CallFix p m c cX4_byteAt 2 s _ WL RX4 := S
  obtain ⟨hx, hb, hml, hown, hts⟩ := id S
  have hl : lv_has ls 2 [(0, .ref (A 0)), (1, .int (nI k))] := hl
  refine lv_iload_n hx hb dX4_byteAt_0 rfl (lv_at hl 1 rfl) ?_
  refine lv_aload_n hx hb dX4_byteAt_1 rfl (lv_at hl 0 rfl) ?_
  refine va_get (ci := 4) (v := .int (nI d)) hx hb hts wx_X4 hown hK hP 0 rfl rfl 8 (by decide) (hts _ wf_X4_207) (fun _ h9 => h9) rfl dX4_byteAt_2 ?_
  refine lv_icmp_ge (tgt := 17) hx hb dX4_byteAt_5 rfl (fun c5 => ?_) (fun c5 => ?_)
  · replace c5 := nq_le (a := d) (b := k) (by omega) (by omega) c5
    refine lv_iconst (v := (-1)) hx hb dX4_byteAt_17 rfl ?_
    exact ro_iret hx hb hr hlk ((byt_ge (by omega)).symm) dX4_byteAt_18
  · replace c5 := nq_nle (a := d) (b := k) (by omega) (by omega) c5
    refine lv_aload_n hx hb dX4_byteAt_8 rfl (lv_at hl 0 rfl) ?_
    refine va_get (ci := 4) (v := .ref (A 7)) hx hb hts wx_X4 hown hK hP 0 rfl rfl 7 (by decide) (hts _ wf_X4_28) (fun _ h9 => h9) rfl dX4_byteAt_9 ?_
    refine lv_iload_n hx hb dX4_byteAt_12 rfl (lv_at hl 1 rfl) ?_
    refine ia_ld hx hb hK hP 7 0 rfl rfl k (rfl) (by omega) (by decide) dX4_byteAt_13 ?_
    refine lv_goto (tgt := 18) hx hb dX4_byteAt_14 rfl ?_
    exact ro_iret hx hb hr hlk ((byt_lt (by omega)).symm) dX4_byteAt_18

set_option maxHeartbeats 4000000 in
set_option maxRecDepth 100000 in
theorem k_X4_token (d : Nat) (i : Nat) (hd : d ≤ 120) (hi : i ≤ d) : MU l D (tyA cI cJ cO) yX4_token cX4_token 3 none 2 45 [.ref (A 0)] (MW cI cJ A sS kS oS aS tS ik cA tp (nI d) fm (nI i) vl wr bO sO nU mV) (fun ov w' => ov = none ∧ w' = (MW cI cJ A sS kS oS aS tS ik cA tp (nI d) (nI (skp tp d i)) (nI (tkE tp d (skp tp d i))) vl wr bO sO nU mV)) := by
  refine MU.mk (by decide) (Nat.le_of_ble_eq_true rfl) ?_
  intro p e s m below meth c ls S hr hlk hP hK hD hS hl
  have S : CallFix p m c cX4_token 3 s _ WL RX4 := S
  obtain ⟨hx, hb, hml, hown, hts⟩ := id S
  have hl : lv_has ls 3 [(0, .ref (A 0))] := hl
  have hsl : skp tp d i ≤ d := skp_le hi
  refine lv_aload_n hx hb dX4_token_0 rfl (lv_at hl 0 rfl) ?_
  refine lv_aload_n hx hb dX4_token_1 rfl (lv_at hl 0 rfl) ?_
  refine va_get (ci := 4) (v := .int (nI i)) hx hb hts wx_X4 hown hK hP 0 rfl rfl 10 (by decide) (hts _ wf_X4_219) (fun _ h9 => h9) rfl dX4_token_2 ?_
  refine va_put (ci := 4) (v := .int (nI i)) (ty := tyX4 9) hx hb hts wx_X4 tyX4 tyX4_ok nmX4 hown hK hP hD hS 0 rfl rfl 9 (by decide) (hts _ wf_X4_222) (fun _ h9 => h9) rfl (tyX4_ok 9 (by decide)) rfl rfl (Nat.le_of_ble_eq_true rfl) dX4_token_5 (fun H locs hP hD hS => ?_)
  have hP : va_P D vwCl (MW cI cJ A sS kS oS aS tS ik cA tp (nI d) (nI i) (nI i) vl wr bO sO nU mV) H := hP
  have hD : va_D _ (MW cI cJ A sS kS oS aS tS ik cA tp (nI d) (nI i) (nI i) vl wr bO sO nU mV) := hD
  refine w_loopH (pc := 8) (st := fun (j : Nat) => []) (μ := fun (j : Nat) => d - j) (I := fun (j : Nat) H locs ls => (j ≤ d) ∧ (skp tp d i = skp tp d j) ∧ va_P D vwCl (MW cI cJ A sS kS oS aS tS ik cA tp (nI d) (nI j) (nI i) vl wr bO sO nU mV) H ∧ va_D (fun z9 => z9 ∈ ((MW cI cJ A sS kS oS aS tS ik cA tp (nI d) fm (nI i) vl wr bO sO nU mV)).map (fun z8 => z8.1)) (MW cI cJ A sS kS oS aS tS ik cA tp (nI d) (nI j) (nI i) vl wr bO sO nU mV) ∧ va_S (fun z9 => z9 ∈ ((MW cI cJ A sS kS oS aS tS ik cA tp (nI d) fm (nI i) vl wr bO sO nU mV)).map (fun z8 => z8.1)) s.heap H locs ∧ lv_has ls 3 [(0, .ref (A 0))]) ?_ (i) ⟨hi, rfl, hP, hD, hS, lv_sub hl [0] rfl⟩
  rintro j H locs ls ⟨hj, hs, hP, hD, hS, hl⟩ ih8
  try dsimp only at ih8 ⊢
  refine lv_aload_n hx hb dX4_token_8 rfl (lv_at hl 0 rfl) ?_
  refine lv_aload_n hx hb dX4_token_9 rfl (lv_at hl 0 rfl) ?_
  refine va_get (ci := 4) (v := .int (nI j)) hx hb hts wx_X4 hown hK hP 0 rfl rfl 9 (by decide) (hts _ wf_X4_222) (fun _ h9 => h9) rfl dX4_token_10 ?_
  refine ro_V (w := (MW cI cJ A sS kS oS aS tS ik cA tp (nI d) (nI j) (nI i) vl wr bO sO nU mV)) (rest := []) S hK hP (k_X4_byteAt d j hd (by omega)) gv_X4_225 hd_X4_byteAt ⟨Nat.le_of_ble_eq_true rfl, Nat.le_of_ble_eq_true rfl⟩ 4 rfl rfl rfl rfl hl.1 (lv_room (Nat.le_of_ble_eq_true rfl)) dX4_token_13 ⟨Nat.zero_le _, Nat.zero_le _⟩ ?_
  refine lv_bipush (v := 32) hx hb dX4_token_16 rfl ?_
  refine lv_icmp_ne (tgt := 34) hx hb dX4_token_18 rfl (fun c18 => ?_) (fun c18 => ?_)
  · have hby := byt_ns c18
    obtain rfl : j = skp tp d i := (hs.trans hby).symm
    refine lv_aload_n hx hb dX4_token_34 rfl (lv_at hl 0 rfl) ?_
    refine lv_aload_n hx hb dX4_token_35 rfl (lv_at hl 0 rfl) ?_
    refine va_get (ci := 4) (v := .int (nI (skp tp d i))) hx hb hts wx_X4 hown hK hP 0 rfl rfl 9 (by decide) (hts _ wf_X4_222) (fun _ h9 => h9) rfl dX4_token_36 ?_
    refine ro_V (w := (MW cI cJ A sS kS oS aS tS ik cA tp (nI d) (nI (skp tp d i)) (nI i) vl wr bO sO nU mV)) (rest := []) S hK hP (k_X4_byteAt d (skp tp d i) hd (by omega)) gv_X4_225 hd_X4_byteAt ⟨Nat.le_of_ble_eq_true rfl, Nat.le_of_ble_eq_true rfl⟩ 4 rfl rfl rfl rfl hl.1 (lv_room (Nat.le_of_ble_eq_true rfl)) dX4_token_39 ⟨Nat.zero_le _, Nat.zero_le _⟩ ?_
    refine ro_S (w := []) (rest := []) S hK va_P0 (k_X4_isLetter (byt tp d (skp tp d i))) gs_X4_228 hd_X4_isLetter ⟨Nat.le_of_ble_eq_true rfl, Nat.le_of_ble_eq_true rfl⟩ rfl hl.1 (lv_room (Nat.le_of_ble_eq_true rfl)) dX4_token_42 ⟨Nat.zero_le _, Nat.zero_le _⟩ ?_
    refine w_i (z := b2i (isLet (byt tp d (skp tp d i)))) (rfl) ?_
    refine lv_istore_n (lv' := [(1, .int (b2i (isLet (byt tp d (skp tp d i))))), (0, .ref (A 0))]) hx hb dX4_token_45 rfl hl (by decide) rfl (fun ls hl => ?_)
    refine lv_aload_n hx hb dX4_token_46 rfl (lv_at hl 1 rfl) ?_
    refine lv_aload_n hx hb dX4_token_47 rfl (lv_at hl 1 rfl) ?_
    refine va_get (ci := 4) (v := .int (nI (skp tp d i))) hx hb hts wx_X4 hown hK hP 0 rfl rfl 9 (by decide) (hts _ wf_X4_222) (fun _ h9 => h9) rfl dX4_token_48 ?_
    refine ro_V (w := (MW cI cJ A sS kS oS aS tS ik cA tp (nI d) (nI (skp tp d i)) (nI i) vl wr bO sO nU mV)) (rest := []) S hK hP (k_X4_byteAt d (skp tp d i) hd (by omega)) gv_X4_225 hd_X4_byteAt ⟨Nat.le_of_ble_eq_true rfl, Nat.le_of_ble_eq_true rfl⟩ 4 rfl rfl rfl rfl hl.1 (lv_room (Nat.le_of_ble_eq_true rfl)) dX4_token_51 ⟨Nat.zero_le _, Nat.zero_le _⟩ ?_
    refine ro_S (w := []) (rest := []) S hK va_P0 (k_X4_isDigit (byt tp d (skp tp d i))) gs_X4_231 hd_X4_isDigit ⟨Nat.le_of_ble_eq_true rfl, Nat.le_of_ble_eq_true rfl⟩ rfl hl.1 (lv_room (Nat.le_of_ble_eq_true rfl)) dX4_token_54 ⟨Nat.zero_le _, Nat.zero_le _⟩ ?_
    refine w_i (z := b2i (isDig (byt tp d (skp tp d i)))) (rfl) ?_
    refine lv_istore_n (lv' := [(2, .int (b2i (isDig (byt tp d (skp tp d i))))), (1, .int (b2i (isLet (byt tp d (skp tp d i))))), (0, .ref (A 0))]) hx hb dX4_token_57 rfl hl (by decide) rfl (fun ls hl => ?_)
    refine lv_aload_n hx hb dX4_token_58 rfl (lv_at hl 2 rfl) ?_
    refine lv_aload_n hx hb dX4_token_59 rfl (lv_at hl 2 rfl) ?_
    refine va_get (ci := 4) (v := .int (nI (skp tp d i))) hx hb hts wx_X4 hown hK hP 0 rfl rfl 9 (by decide) (hts _ wf_X4_222) (fun _ h9 => h9) rfl dX4_token_60 ?_
    refine lv_aload_n hx hb dX4_token_63 rfl (lv_at hl 2 rfl) ?_
    refine va_get (ci := 4) (v := .int (nI d)) hx hb hts wx_X4 hown hK hP 0 rfl rfl 8 (by decide) (hts _ wf_X4_207) (fun _ h9 => h9) rfl dX4_token_64 ?_
    refine lv_icmp_ge (tgt := 79) hx hb dX4_token_67 rfl (fun c67 => ?_) (fun c67 => ?_)
    · replace c67 := nq_le (a := d) (b := (skp tp d i)) (by omega) (by omega) c67
      refine lv_aload_n hx hb dX4_token_79 rfl (lv_at hl 2 rfl) ?_
      refine va_get (ci := 4) (v := .int (nI (skp tp d i))) hx hb hts wx_X4 hown hK hP 0 rfl rfl 9 (by decide) (hts _ wf_X4_222) (fun _ h9 => h9) rfl dX4_token_80 ?_
      refine va_put (ci := 4) (v := .int (nI (skp tp d i))) (ty := tyX4 10) hx hb hts wx_X4 tyX4 tyX4_ok nmX4 hown hK hP hD hS 0 rfl rfl 10 (by decide) (hts _ wf_X4_219) (fun _ h9 => h9) rfl (tyX4_ok 10 (by decide)) rfl rfl (Nat.le_of_ble_eq_true rfl) dX4_token_83 (fun H locs hP hD hS => ?_)
      have hP : va_P D vwCl (MW cI cJ A sS kS oS aS tS ik cA tp (nI d) (nI (skp tp d i)) (nI (skp tp d i)) vl wr bO sO nU mV) H := hP
      have hD : va_D _ (MW cI cJ A sS kS oS aS tS ik cA tp (nI d) (nI (skp tp d i)) (nI (skp tp d i)) vl wr bO sO nU mV) := hD
      refine w_loopH (pc := 86) (st := fun (q : Nat) => []) (μ := fun (q : Nat) => d - q) (I := fun (q : Nat) H locs ls => (q ≤ d) ∧ (tkE tp d (skp tp d i) = scR (isLet (byt tp d (skp tp d i))) (isDig (byt tp d (skp tp d i))) tp d q) ∧ va_P D vwCl (MW cI cJ A sS kS oS aS tS ik cA tp (nI d) (nI (skp tp d i)) (nI q) vl wr bO sO nU mV) H ∧ va_D (fun z9 => z9 ∈ ((MW cI cJ A sS kS oS aS tS ik cA tp (nI d) fm (nI i) vl wr bO sO nU mV)).map (fun z8 => z8.1)) (MW cI cJ A sS kS oS aS tS ik cA tp (nI d) (nI (skp tp d i)) (nI q) vl wr bO sO nU mV) ∧ va_S (fun z9 => z9 ∈ ((MW cI cJ A sS kS oS aS tS ik cA tp (nI d) fm (nI i) vl wr bO sO nU mV)).map (fun z8 => z8.1)) s.heap H locs ∧ lv_has ls 3 [(0, .ref (A 0)), (1, .int (b2i (isLet (byt tp d (skp tp d i))))), (2, .int (b2i (isDig (byt tp d (skp tp d i)))))]) ?_ (skp tp d i) ⟨(by omega), tk_1 (by omega), hP, hD, hS, lv_sub hl [2, 1, 0] rfl⟩
      rintro q H locs ls ⟨hq0, hq, hP, hD, hS, hl⟩ ih86
      try dsimp only at ih86 ⊢
      refine lv_iload_n hx hb dX4_token_86 rfl (lv_at hl 1 rfl) ?_
      refine lv_if_eq (tgt := 104) hx hb dX4_token_87 rfl (fun c87 => ?_) (fun c87 => ?_)
      · replace c87 := (b2i_0 _).mp c87
        refine lv_iload_n hx hb dX4_token_104 rfl (lv_at hl 2 rfl) ?_
        refine lv_if_eq (tgt := 135) hx hb dX4_token_105 rfl (fun c105 => ?_) (fun c105 => ?_)
        · replace c105 := (b2i_0 _).mp c105
          have he := hq.trans (scR_end (Or.inl c87) (Or.inl c105))
          have hE : nI q = nI (tkE tp d (skp tp d i)) := by rw [he]
          have hW : (MW cI cJ A sS kS oS aS tS ik cA tp (nI d) (nI (skp tp d i)) (nI q) vl wr bO sO nU mV) = (MW cI cJ A sS kS oS aS tS ik cA tp (nI d) (nI (skp tp d i)) (nI (tkE tp d (skp tp d i))) vl wr bO sO nU mV) := congrArg (fun z => (MW cI cJ A sS kS oS aS tS ik cA tp (nI d) (nI (skp tp d i)) z vl wr bO sO nU mV)) hE
          have hP : va_P D vwCl (MW cI cJ A sS kS oS aS tS ik cA tp (nI d) (nI (skp tp d i)) (nI (tkE tp d (skp tp d i))) vl wr bO sO nU mV) H := Eq.mp (congrArg (fun z => va_P D vwCl z H) hW) hP
          have hD : va_D _ (MW cI cJ A sS kS oS aS tS ik cA tp (nI d) (nI (skp tp d i)) (nI (tkE tp d (skp tp d i))) vl wr bO sO nU mV) := Eq.mp (congrArg (fun z => va_D _ z) hW) hD
          exact mu_vret (MW cI cJ A sS kS oS aS tS ik cA tp (nI d) (nI (skp tp d i)) (nI (tkE tp d (skp tp d i))) vl wr bO sO nU mV) hx hb hr hlk hP hS rfl (⟨rfl, rfl⟩) dX4_token_135
        · replace c105 := b2i_n0 c105
          refine lv_aload_n hx hb dX4_token_108 rfl (lv_at hl 0 rfl) ?_
          refine lv_aload_n hx hb dX4_token_109 rfl (lv_at hl 0 rfl) ?_
          refine va_get (ci := 4) (v := .int (nI q)) hx hb hts wx_X4 hown hK hP 0 rfl rfl 10 (by decide) (hts _ wf_X4_219) (fun _ h9 => h9) rfl dX4_token_110 ?_
          refine ro_V (w := (MW cI cJ A sS kS oS aS tS ik cA tp (nI d) (nI (skp tp d i)) (nI q) vl wr bO sO nU mV)) (rest := []) S hK hP (k_X4_byteAt d q hd (by omega)) gv_X4_225 hd_X4_byteAt ⟨Nat.le_of_ble_eq_true rfl, Nat.le_of_ble_eq_true rfl⟩ 4 rfl rfl rfl rfl hl.1 (lv_room (Nat.le_of_ble_eq_true rfl)) dX4_token_113 ⟨Nat.zero_le _, Nat.zero_le _⟩ ?_
          refine ro_S (w := []) (rest := []) S hK va_P0 (k_X4_isDigit (byt tp d q)) gs_X4_231 hd_X4_isDigit ⟨Nat.le_of_ble_eq_true rfl, Nat.le_of_ble_eq_true rfl⟩ rfl hl.1 (lv_room (Nat.le_of_ble_eq_true rfl)) dX4_token_116 ⟨Nat.zero_le _, Nat.zero_le _⟩ ?_
          refine w_i (z := b2i (isDig (byt tp d q))) (rfl) ?_
          refine lv_if_eq (tgt := 135) hx hb dX4_token_119 rfl (fun c119 => ?_) (fun c119 => ?_)
          · replace c119 := (b2i_0 _).mp c119
            have he := hq.trans (scR_end (Or.inl c87) (Or.inr c119))
            have hE : nI q = nI (tkE tp d (skp tp d i)) := by rw [he]
            have hW : (MW cI cJ A sS kS oS aS tS ik cA tp (nI d) (nI (skp tp d i)) (nI q) vl wr bO sO nU mV) = (MW cI cJ A sS kS oS aS tS ik cA tp (nI d) (nI (skp tp d i)) (nI (tkE tp d (skp tp d i))) vl wr bO sO nU mV) := congrArg (fun z => (MW cI cJ A sS kS oS aS tS ik cA tp (nI d) (nI (skp tp d i)) z vl wr bO sO nU mV)) hE
            have hP : va_P D vwCl (MW cI cJ A sS kS oS aS tS ik cA tp (nI d) (nI (skp tp d i)) (nI (tkE tp d (skp tp d i))) vl wr bO sO nU mV) H := Eq.mp (congrArg (fun z => va_P D vwCl z H) hW) hP
            have hD : va_D _ (MW cI cJ A sS kS oS aS tS ik cA tp (nI d) (nI (skp tp d i)) (nI (tkE tp d (skp tp d i))) vl wr bO sO nU mV) := Eq.mp (congrArg (fun z => va_D _ z) hW) hD
            exact mu_vret (MW cI cJ A sS kS oS aS tS ik cA tp (nI d) (nI (skp tp d i)) (nI (tkE tp d (skp tp d i))) vl wr bO sO nU mV) hx hb hr hlk hP hS rfl (⟨rfl, rfl⟩) dX4_token_135
          · replace c119 := b2i_n0 c119
            have hx9 := scR_dig c105 c119
            have hx8 := hx9.1
            refine lv_aload_n hx hb dX4_token_122 rfl (lv_at hl 0 rfl) ?_
            refine lv_dup hx hb dX4_token_123 rfl ?_
            refine va_get (ci := 4) (v := .int (nI q)) hx hb hts wx_X4 hown hK hP 0 rfl rfl 10 (by decide) (hts _ wf_X4_219) (fun _ h9 => h9) rfl dX4_token_124 ?_
            refine lv_iconst (v := 1) hx hb dX4_token_127 rfl ?_
            refine lv_iadd hx hb dX4_token_128 ?_
            refine w_i (z := nI (q + 1)) (nI_1 q) ?_
            refine va_put (ci := 4) (v := .int (nI (q + 1))) (ty := tyX4 10) hx hb hts wx_X4 tyX4 tyX4_ok nmX4 hown hK hP hD hS 0 rfl rfl 10 (by decide) (hts _ wf_X4_219) (fun _ h9 => h9) rfl (tyX4_ok 10 (by decide)) rfl rfl (Nat.le_of_ble_eq_true rfl) dX4_token_129 (fun H locs hP hD hS => ?_)
            have hP : va_P D vwCl (MW cI cJ A sS kS oS aS tS ik cA tp (nI d) (nI (skp tp d i)) (nI (q + 1)) vl wr bO sO nU mV) H := hP
            have hD : va_D _ (MW cI cJ A sS kS oS aS tS ik cA tp (nI d) (nI (skp tp d i)) (nI (q + 1)) vl wr bO sO nU mV) := hD
            refine lv_goto (tgt := 86) hx hb dX4_token_132 rfl ?_
            exact ih86 (q + 1) _ _ ls (by first | omega | (dsimp only; omega)) ⟨(by omega), hq.trans hx9.2, hP, hD, hS, lv_sub hl [0, 1, 2] rfl⟩
      · replace c87 := b2i_n0 c87
        refine lv_aload_n hx hb dX4_token_90 rfl (lv_at hl 0 rfl) ?_
        refine lv_aload_n hx hb dX4_token_91 rfl (lv_at hl 0 rfl) ?_
        refine va_get (ci := 4) (v := .int (nI q)) hx hb hts wx_X4 hown hK hP 0 rfl rfl 10 (by decide) (hts _ wf_X4_219) (fun _ h9 => h9) rfl dX4_token_92 ?_
        refine ro_V (w := (MW cI cJ A sS kS oS aS tS ik cA tp (nI d) (nI (skp tp d i)) (nI q) vl wr bO sO nU mV)) (rest := []) S hK hP (k_X4_byteAt d q hd (by omega)) gv_X4_225 hd_X4_byteAt ⟨Nat.le_of_ble_eq_true rfl, Nat.le_of_ble_eq_true rfl⟩ 4 rfl rfl rfl rfl hl.1 (lv_room (Nat.le_of_ble_eq_true rfl)) dX4_token_95 ⟨Nat.zero_le _, Nat.zero_le _⟩ ?_
        refine ro_S (w := []) (rest := []) S hK va_P0 (k_X4_isLetter (byt tp d q)) gs_X4_228 hd_X4_isLetter ⟨Nat.le_of_ble_eq_true rfl, Nat.le_of_ble_eq_true rfl⟩ rfl hl.1 (lv_room (Nat.le_of_ble_eq_true rfl)) dX4_token_98 ⟨Nat.zero_le _, Nat.zero_le _⟩ ?_
        refine w_i (z := b2i (isLet (byt tp d q))) (rfl) ?_
        refine lv_if_ne (tgt := 122) hx hb dX4_token_101 rfl (fun c101 => ?_) (fun c101 => ?_)
        · replace c101 := b2i_n0 c101
          have hx9 := scR_let c87 c101
          have hx8 := hx9.1
          refine lv_aload_n hx hb dX4_token_122 rfl (lv_at hl 0 rfl) ?_
          refine lv_dup hx hb dX4_token_123 rfl ?_
          refine va_get (ci := 4) (v := .int (nI q)) hx hb hts wx_X4 hown hK hP 0 rfl rfl 10 (by decide) (hts _ wf_X4_219) (fun _ h9 => h9) rfl dX4_token_124 ?_
          refine lv_iconst (v := 1) hx hb dX4_token_127 rfl ?_
          refine lv_iadd hx hb dX4_token_128 ?_
          refine w_i (z := nI (q + 1)) (nI_1 q) ?_
          refine va_put (ci := 4) (v := .int (nI (q + 1))) (ty := tyX4 10) hx hb hts wx_X4 tyX4 tyX4_ok nmX4 hown hK hP hD hS 0 rfl rfl 10 (by decide) (hts _ wf_X4_219) (fun _ h9 => h9) rfl (tyX4_ok 10 (by decide)) rfl rfl (Nat.le_of_ble_eq_true rfl) dX4_token_129 (fun H locs hP hD hS => ?_)
          have hP : va_P D vwCl (MW cI cJ A sS kS oS aS tS ik cA tp (nI d) (nI (skp tp d i)) (nI (q + 1)) vl wr bO sO nU mV) H := hP
          have hD : va_D _ (MW cI cJ A sS kS oS aS tS ik cA tp (nI d) (nI (skp tp d i)) (nI (q + 1)) vl wr bO sO nU mV) := hD
          refine lv_goto (tgt := 86) hx hb dX4_token_132 rfl ?_
          exact ih86 (q + 1) _ _ ls (by first | omega | (dsimp only; omega)) ⟨(by omega), hq.trans hx9.2, hP, hD, hS, lv_sub hl [0, 1, 2] rfl⟩
        · replace c101 := (b2i_0 _).mp c101
          refine lv_iload_n hx hb dX4_token_104 rfl (lv_at hl 2 rfl) ?_
          refine lv_if_eq (tgt := 135) hx hb dX4_token_105 rfl (fun c105 => ?_) (fun c105 => ?_)
          · replace c105 := (b2i_0 _).mp c105
            have he := hq.trans (scR_end (Or.inr c101) (Or.inl c105))
            have hE : nI q = nI (tkE tp d (skp tp d i)) := by rw [he]
            have hW : (MW cI cJ A sS kS oS aS tS ik cA tp (nI d) (nI (skp tp d i)) (nI q) vl wr bO sO nU mV) = (MW cI cJ A sS kS oS aS tS ik cA tp (nI d) (nI (skp tp d i)) (nI (tkE tp d (skp tp d i))) vl wr bO sO nU mV) := congrArg (fun z => (MW cI cJ A sS kS oS aS tS ik cA tp (nI d) (nI (skp tp d i)) z vl wr bO sO nU mV)) hE
            have hP : va_P D vwCl (MW cI cJ A sS kS oS aS tS ik cA tp (nI d) (nI (skp tp d i)) (nI (tkE tp d (skp tp d i))) vl wr bO sO nU mV) H := Eq.mp (congrArg (fun z => va_P D vwCl z H) hW) hP
            have hD : va_D _ (MW cI cJ A sS kS oS aS tS ik cA tp (nI d) (nI (skp tp d i)) (nI (tkE tp d (skp tp d i))) vl wr bO sO nU mV) := Eq.mp (congrArg (fun z => va_D _ z) hW) hD
            exact mu_vret (MW cI cJ A sS kS oS aS tS ik cA tp (nI d) (nI (skp tp d i)) (nI (tkE tp d (skp tp d i))) vl wr bO sO nU mV) hx hb hr hlk hP hS rfl (⟨rfl, rfl⟩) dX4_token_135
          · replace c105 := b2i_n0 c105
            refine lv_aload_n hx hb dX4_token_108 rfl (lv_at hl 0 rfl) ?_
            refine lv_aload_n hx hb dX4_token_109 rfl (lv_at hl 0 rfl) ?_
            refine va_get (ci := 4) (v := .int (nI q)) hx hb hts wx_X4 hown hK hP 0 rfl rfl 10 (by decide) (hts _ wf_X4_219) (fun _ h9 => h9) rfl dX4_token_110 ?_
            refine ro_V (w := (MW cI cJ A sS kS oS aS tS ik cA tp (nI d) (nI (skp tp d i)) (nI q) vl wr bO sO nU mV)) (rest := []) S hK hP (k_X4_byteAt d q hd (by omega)) gv_X4_225 hd_X4_byteAt ⟨Nat.le_of_ble_eq_true rfl, Nat.le_of_ble_eq_true rfl⟩ 4 rfl rfl rfl rfl hl.1 (lv_room (Nat.le_of_ble_eq_true rfl)) dX4_token_113 ⟨Nat.zero_le _, Nat.zero_le _⟩ ?_
            refine ro_S (w := []) (rest := []) S hK va_P0 (k_X4_isDigit (byt tp d q)) gs_X4_231 hd_X4_isDigit ⟨Nat.le_of_ble_eq_true rfl, Nat.le_of_ble_eq_true rfl⟩ rfl hl.1 (lv_room (Nat.le_of_ble_eq_true rfl)) dX4_token_116 ⟨Nat.zero_le _, Nat.zero_le _⟩ ?_
            refine w_i (z := b2i (isDig (byt tp d q))) (rfl) ?_
            refine lv_if_eq (tgt := 135) hx hb dX4_token_119 rfl (fun c119 => ?_) (fun c119 => ?_)
            · replace c119 := (b2i_0 _).mp c119
              have he := hq.trans (scR_end (Or.inr c101) (Or.inr c119))
              have hE : nI q = nI (tkE tp d (skp tp d i)) := by rw [he]
              have hW : (MW cI cJ A sS kS oS aS tS ik cA tp (nI d) (nI (skp tp d i)) (nI q) vl wr bO sO nU mV) = (MW cI cJ A sS kS oS aS tS ik cA tp (nI d) (nI (skp tp d i)) (nI (tkE tp d (skp tp d i))) vl wr bO sO nU mV) := congrArg (fun z => (MW cI cJ A sS kS oS aS tS ik cA tp (nI d) (nI (skp tp d i)) z vl wr bO sO nU mV)) hE
              have hP : va_P D vwCl (MW cI cJ A sS kS oS aS tS ik cA tp (nI d) (nI (skp tp d i)) (nI (tkE tp d (skp tp d i))) vl wr bO sO nU mV) H := Eq.mp (congrArg (fun z => va_P D vwCl z H) hW) hP
              have hD : va_D _ (MW cI cJ A sS kS oS aS tS ik cA tp (nI d) (nI (skp tp d i)) (nI (tkE tp d (skp tp d i))) vl wr bO sO nU mV) := Eq.mp (congrArg (fun z => va_D _ z) hW) hD
              exact mu_vret (MW cI cJ A sS kS oS aS tS ik cA tp (nI d) (nI (skp tp d i)) (nI (tkE tp d (skp tp d i))) vl wr bO sO nU mV) hx hb hr hlk hP hS rfl (⟨rfl, rfl⟩) dX4_token_135
            · replace c119 := b2i_n0 c119
              have hx9 := scR_dig c105 c119
              have hx8 := hx9.1
              refine lv_aload_n hx hb dX4_token_122 rfl (lv_at hl 0 rfl) ?_
              refine lv_dup hx hb dX4_token_123 rfl ?_
              refine va_get (ci := 4) (v := .int (nI q)) hx hb hts wx_X4 hown hK hP 0 rfl rfl 10 (by decide) (hts _ wf_X4_219) (fun _ h9 => h9) rfl dX4_token_124 ?_
              refine lv_iconst (v := 1) hx hb dX4_token_127 rfl ?_
              refine lv_iadd hx hb dX4_token_128 ?_
              refine w_i (z := nI (q + 1)) (nI_1 q) ?_
              refine va_put (ci := 4) (v := .int (nI (q + 1))) (ty := tyX4 10) hx hb hts wx_X4 tyX4 tyX4_ok nmX4 hown hK hP hD hS 0 rfl rfl 10 (by decide) (hts _ wf_X4_219) (fun _ h9 => h9) rfl (tyX4_ok 10 (by decide)) rfl rfl (Nat.le_of_ble_eq_true rfl) dX4_token_129 (fun H locs hP hD hS => ?_)
              have hP : va_P D vwCl (MW cI cJ A sS kS oS aS tS ik cA tp (nI d) (nI (skp tp d i)) (nI (q + 1)) vl wr bO sO nU mV) H := hP
              have hD : va_D _ (MW cI cJ A sS kS oS aS tS ik cA tp (nI d) (nI (skp tp d i)) (nI (q + 1)) vl wr bO sO nU mV) := hD
              refine lv_goto (tgt := 86) hx hb dX4_token_132 rfl ?_
              exact ih86 (q + 1) _ _ ls (by first | omega | (dsimp only; omega)) ⟨(by omega), hq.trans hx9.2, hP, hD, hS, lv_sub hl [0, 1, 2] rfl⟩
    · replace c67 := nq_nle (a := d) (b := (skp tp d i)) (by omega) (by omega) c67
      refine lv_aload_n hx hb dX4_token_70 rfl (lv_at hl 2 rfl) ?_
      refine va_get (ci := 4) (v := .int (nI (skp tp d i))) hx hb hts wx_X4 hown hK hP 0 rfl rfl 9 (by decide) (hts _ wf_X4_222) (fun _ h9 => h9) rfl dX4_token_71 ?_
      refine lv_iconst (v := 1) hx hb dX4_token_74 rfl ?_
      refine lv_iadd hx hb dX4_token_75 ?_
      refine w_i (z := nI (skp tp d i + 1)) (nI_1 _) ?_
      refine lv_goto (tgt := 83) hx hb dX4_token_76 rfl ?_
      refine va_put (ci := 4) (v := .int (nI (skp tp d i + 1))) (ty := tyX4 10) hx hb hts wx_X4 tyX4 tyX4_ok nmX4 hown hK hP hD hS 0 rfl rfl 10 (by decide) (hts _ wf_X4_219) (fun _ h9 => h9) rfl (tyX4_ok 10 (by decide)) rfl rfl (Nat.le_of_ble_eq_true rfl) dX4_token_83 (fun H locs hP hD hS => ?_)
      have hP : va_P D vwCl (MW cI cJ A sS kS oS aS tS ik cA tp (nI d) (nI (skp tp d i)) (nI (skp tp d i + 1)) vl wr bO sO nU mV) H := hP
      have hD : va_D _ (MW cI cJ A sS kS oS aS tS ik cA tp (nI d) (nI (skp tp d i)) (nI (skp tp d i + 1)) vl wr bO sO nU mV) := hD
      refine w_loopH (pc := 86) (st := fun (q : Nat) => []) (μ := fun (q : Nat) => d - q) (I := fun (q : Nat) H locs ls => (q ≤ d) ∧ (tkE tp d (skp tp d i) = scR (isLet (byt tp d (skp tp d i))) (isDig (byt tp d (skp tp d i))) tp d q) ∧ va_P D vwCl (MW cI cJ A sS kS oS aS tS ik cA tp (nI d) (nI (skp tp d i)) (nI q) vl wr bO sO nU mV) H ∧ va_D (fun z9 => z9 ∈ ((MW cI cJ A sS kS oS aS tS ik cA tp (nI d) fm (nI i) vl wr bO sO nU mV)).map (fun z8 => z8.1)) (MW cI cJ A sS kS oS aS tS ik cA tp (nI d) (nI (skp tp d i)) (nI q) vl wr bO sO nU mV) ∧ va_S (fun z9 => z9 ∈ ((MW cI cJ A sS kS oS aS tS ik cA tp (nI d) fm (nI i) vl wr bO sO nU mV)).map (fun z8 => z8.1)) s.heap H locs ∧ lv_has ls 3 [(0, .ref (A 0)), (1, .int (b2i (isLet (byt tp d (skp tp d i))))), (2, .int (b2i (isDig (byt tp d (skp tp d i)))))]) ?_ (skp tp d i + 1) ⟨(by omega), tk_0 (by omega), hP, hD, hS, lv_sub hl [2, 1, 0] rfl⟩
      rintro q H locs ls ⟨hq0, hq, hP, hD, hS, hl⟩ ih86
      try dsimp only at ih86 ⊢
      refine lv_iload_n hx hb dX4_token_86 rfl (lv_at hl 1 rfl) ?_
      refine lv_if_eq (tgt := 104) hx hb dX4_token_87 rfl (fun c87 => ?_) (fun c87 => ?_)
      · replace c87 := (b2i_0 _).mp c87
        refine lv_iload_n hx hb dX4_token_104 rfl (lv_at hl 2 rfl) ?_
        refine lv_if_eq (tgt := 135) hx hb dX4_token_105 rfl (fun c105 => ?_) (fun c105 => ?_)
        · replace c105 := (b2i_0 _).mp c105
          have he := hq.trans (scR_end (Or.inl c87) (Or.inl c105))
          have hE : nI q = nI (tkE tp d (skp tp d i)) := by rw [he]
          have hW : (MW cI cJ A sS kS oS aS tS ik cA tp (nI d) (nI (skp tp d i)) (nI q) vl wr bO sO nU mV) = (MW cI cJ A sS kS oS aS tS ik cA tp (nI d) (nI (skp tp d i)) (nI (tkE tp d (skp tp d i))) vl wr bO sO nU mV) := congrArg (fun z => (MW cI cJ A sS kS oS aS tS ik cA tp (nI d) (nI (skp tp d i)) z vl wr bO sO nU mV)) hE
          have hP : va_P D vwCl (MW cI cJ A sS kS oS aS tS ik cA tp (nI d) (nI (skp tp d i)) (nI (tkE tp d (skp tp d i))) vl wr bO sO nU mV) H := Eq.mp (congrArg (fun z => va_P D vwCl z H) hW) hP
          have hD : va_D _ (MW cI cJ A sS kS oS aS tS ik cA tp (nI d) (nI (skp tp d i)) (nI (tkE tp d (skp tp d i))) vl wr bO sO nU mV) := Eq.mp (congrArg (fun z => va_D _ z) hW) hD
          exact mu_vret (MW cI cJ A sS kS oS aS tS ik cA tp (nI d) (nI (skp tp d i)) (nI (tkE tp d (skp tp d i))) vl wr bO sO nU mV) hx hb hr hlk hP hS rfl (⟨rfl, rfl⟩) dX4_token_135
        · replace c105 := b2i_n0 c105
          refine lv_aload_n hx hb dX4_token_108 rfl (lv_at hl 0 rfl) ?_
          refine lv_aload_n hx hb dX4_token_109 rfl (lv_at hl 0 rfl) ?_
          refine va_get (ci := 4) (v := .int (nI q)) hx hb hts wx_X4 hown hK hP 0 rfl rfl 10 (by decide) (hts _ wf_X4_219) (fun _ h9 => h9) rfl dX4_token_110 ?_
          refine ro_V (w := (MW cI cJ A sS kS oS aS tS ik cA tp (nI d) (nI (skp tp d i)) (nI q) vl wr bO sO nU mV)) (rest := []) S hK hP (k_X4_byteAt d q hd (by omega)) gv_X4_225 hd_X4_byteAt ⟨Nat.le_of_ble_eq_true rfl, Nat.le_of_ble_eq_true rfl⟩ 4 rfl rfl rfl rfl hl.1 (lv_room (Nat.le_of_ble_eq_true rfl)) dX4_token_113 ⟨Nat.zero_le _, Nat.zero_le _⟩ ?_
          refine ro_S (w := []) (rest := []) S hK va_P0 (k_X4_isDigit (byt tp d q)) gs_X4_231 hd_X4_isDigit ⟨Nat.le_of_ble_eq_true rfl, Nat.le_of_ble_eq_true rfl⟩ rfl hl.1 (lv_room (Nat.le_of_ble_eq_true rfl)) dX4_token_116 ⟨Nat.zero_le _, Nat.zero_le _⟩ ?_
          refine w_i (z := b2i (isDig (byt tp d q))) (rfl) ?_
          refine lv_if_eq (tgt := 135) hx hb dX4_token_119 rfl (fun c119 => ?_) (fun c119 => ?_)
          · replace c119 := (b2i_0 _).mp c119
            have he := hq.trans (scR_end (Or.inl c87) (Or.inr c119))
            have hE : nI q = nI (tkE tp d (skp tp d i)) := by rw [he]
            have hW : (MW cI cJ A sS kS oS aS tS ik cA tp (nI d) (nI (skp tp d i)) (nI q) vl wr bO sO nU mV) = (MW cI cJ A sS kS oS aS tS ik cA tp (nI d) (nI (skp tp d i)) (nI (tkE tp d (skp tp d i))) vl wr bO sO nU mV) := congrArg (fun z => (MW cI cJ A sS kS oS aS tS ik cA tp (nI d) (nI (skp tp d i)) z vl wr bO sO nU mV)) hE
            have hP : va_P D vwCl (MW cI cJ A sS kS oS aS tS ik cA tp (nI d) (nI (skp tp d i)) (nI (tkE tp d (skp tp d i))) vl wr bO sO nU mV) H := Eq.mp (congrArg (fun z => va_P D vwCl z H) hW) hP
            have hD : va_D _ (MW cI cJ A sS kS oS aS tS ik cA tp (nI d) (nI (skp tp d i)) (nI (tkE tp d (skp tp d i))) vl wr bO sO nU mV) := Eq.mp (congrArg (fun z => va_D _ z) hW) hD
            exact mu_vret (MW cI cJ A sS kS oS aS tS ik cA tp (nI d) (nI (skp tp d i)) (nI (tkE tp d (skp tp d i))) vl wr bO sO nU mV) hx hb hr hlk hP hS rfl (⟨rfl, rfl⟩) dX4_token_135
          · replace c119 := b2i_n0 c119
            have hx9 := scR_dig c105 c119
            have hx8 := hx9.1
            refine lv_aload_n hx hb dX4_token_122 rfl (lv_at hl 0 rfl) ?_
            refine lv_dup hx hb dX4_token_123 rfl ?_
            refine va_get (ci := 4) (v := .int (nI q)) hx hb hts wx_X4 hown hK hP 0 rfl rfl 10 (by decide) (hts _ wf_X4_219) (fun _ h9 => h9) rfl dX4_token_124 ?_
            refine lv_iconst (v := 1) hx hb dX4_token_127 rfl ?_
            refine lv_iadd hx hb dX4_token_128 ?_
            refine w_i (z := nI (q + 1)) (nI_1 q) ?_
            refine va_put (ci := 4) (v := .int (nI (q + 1))) (ty := tyX4 10) hx hb hts wx_X4 tyX4 tyX4_ok nmX4 hown hK hP hD hS 0 rfl rfl 10 (by decide) (hts _ wf_X4_219) (fun _ h9 => h9) rfl (tyX4_ok 10 (by decide)) rfl rfl (Nat.le_of_ble_eq_true rfl) dX4_token_129 (fun H locs hP hD hS => ?_)
            have hP : va_P D vwCl (MW cI cJ A sS kS oS aS tS ik cA tp (nI d) (nI (skp tp d i)) (nI (q + 1)) vl wr bO sO nU mV) H := hP
            have hD : va_D _ (MW cI cJ A sS kS oS aS tS ik cA tp (nI d) (nI (skp tp d i)) (nI (q + 1)) vl wr bO sO nU mV) := hD
            refine lv_goto (tgt := 86) hx hb dX4_token_132 rfl ?_
            exact ih86 (q + 1) _ _ ls (by first | omega | (dsimp only; omega)) ⟨(by omega), hq.trans hx9.2, hP, hD, hS, lv_sub hl [0, 1, 2] rfl⟩
      · replace c87 := b2i_n0 c87
        refine lv_aload_n hx hb dX4_token_90 rfl (lv_at hl 0 rfl) ?_
        refine lv_aload_n hx hb dX4_token_91 rfl (lv_at hl 0 rfl) ?_
        refine va_get (ci := 4) (v := .int (nI q)) hx hb hts wx_X4 hown hK hP 0 rfl rfl 10 (by decide) (hts _ wf_X4_219) (fun _ h9 => h9) rfl dX4_token_92 ?_
        refine ro_V (w := (MW cI cJ A sS kS oS aS tS ik cA tp (nI d) (nI (skp tp d i)) (nI q) vl wr bO sO nU mV)) (rest := []) S hK hP (k_X4_byteAt d q hd (by omega)) gv_X4_225 hd_X4_byteAt ⟨Nat.le_of_ble_eq_true rfl, Nat.le_of_ble_eq_true rfl⟩ 4 rfl rfl rfl rfl hl.1 (lv_room (Nat.le_of_ble_eq_true rfl)) dX4_token_95 ⟨Nat.zero_le _, Nat.zero_le _⟩ ?_
        refine ro_S (w := []) (rest := []) S hK va_P0 (k_X4_isLetter (byt tp d q)) gs_X4_228 hd_X4_isLetter ⟨Nat.le_of_ble_eq_true rfl, Nat.le_of_ble_eq_true rfl⟩ rfl hl.1 (lv_room (Nat.le_of_ble_eq_true rfl)) dX4_token_98 ⟨Nat.zero_le _, Nat.zero_le _⟩ ?_
        refine w_i (z := b2i (isLet (byt tp d q))) (rfl) ?_
        refine lv_if_ne (tgt := 122) hx hb dX4_token_101 rfl (fun c101 => ?_) (fun c101 => ?_)
        · replace c101 := b2i_n0 c101
          have hx9 := scR_let c87 c101
          have hx8 := hx9.1
          refine lv_aload_n hx hb dX4_token_122 rfl (lv_at hl 0 rfl) ?_
          refine lv_dup hx hb dX4_token_123 rfl ?_
          refine va_get (ci := 4) (v := .int (nI q)) hx hb hts wx_X4 hown hK hP 0 rfl rfl 10 (by decide) (hts _ wf_X4_219) (fun _ h9 => h9) rfl dX4_token_124 ?_
          refine lv_iconst (v := 1) hx hb dX4_token_127 rfl ?_
          refine lv_iadd hx hb dX4_token_128 ?_
          refine w_i (z := nI (q + 1)) (nI_1 q) ?_
          refine va_put (ci := 4) (v := .int (nI (q + 1))) (ty := tyX4 10) hx hb hts wx_X4 tyX4 tyX4_ok nmX4 hown hK hP hD hS 0 rfl rfl 10 (by decide) (hts _ wf_X4_219) (fun _ h9 => h9) rfl (tyX4_ok 10 (by decide)) rfl rfl (Nat.le_of_ble_eq_true rfl) dX4_token_129 (fun H locs hP hD hS => ?_)
          have hP : va_P D vwCl (MW cI cJ A sS kS oS aS tS ik cA tp (nI d) (nI (skp tp d i)) (nI (q + 1)) vl wr bO sO nU mV) H := hP
          have hD : va_D _ (MW cI cJ A sS kS oS aS tS ik cA tp (nI d) (nI (skp tp d i)) (nI (q + 1)) vl wr bO sO nU mV) := hD
          refine lv_goto (tgt := 86) hx hb dX4_token_132 rfl ?_
          exact ih86 (q + 1) _ _ ls (by first | omega | (dsimp only; omega)) ⟨(by omega), hq.trans hx9.2, hP, hD, hS, lv_sub hl [0, 1, 2] rfl⟩
        · replace c101 := (b2i_0 _).mp c101
          refine lv_iload_n hx hb dX4_token_104 rfl (lv_at hl 2 rfl) ?_
          refine lv_if_eq (tgt := 135) hx hb dX4_token_105 rfl (fun c105 => ?_) (fun c105 => ?_)
          · replace c105 := (b2i_0 _).mp c105
            have he := hq.trans (scR_end (Or.inr c101) (Or.inl c105))
            have hE : nI q = nI (tkE tp d (skp tp d i)) := by rw [he]
            have hW : (MW cI cJ A sS kS oS aS tS ik cA tp (nI d) (nI (skp tp d i)) (nI q) vl wr bO sO nU mV) = (MW cI cJ A sS kS oS aS tS ik cA tp (nI d) (nI (skp tp d i)) (nI (tkE tp d (skp tp d i))) vl wr bO sO nU mV) := congrArg (fun z => (MW cI cJ A sS kS oS aS tS ik cA tp (nI d) (nI (skp tp d i)) z vl wr bO sO nU mV)) hE
            have hP : va_P D vwCl (MW cI cJ A sS kS oS aS tS ik cA tp (nI d) (nI (skp tp d i)) (nI (tkE tp d (skp tp d i))) vl wr bO sO nU mV) H := Eq.mp (congrArg (fun z => va_P D vwCl z H) hW) hP
            have hD : va_D _ (MW cI cJ A sS kS oS aS tS ik cA tp (nI d) (nI (skp tp d i)) (nI (tkE tp d (skp tp d i))) vl wr bO sO nU mV) := Eq.mp (congrArg (fun z => va_D _ z) hW) hD
            exact mu_vret (MW cI cJ A sS kS oS aS tS ik cA tp (nI d) (nI (skp tp d i)) (nI (tkE tp d (skp tp d i))) vl wr bO sO nU mV) hx hb hr hlk hP hS rfl (⟨rfl, rfl⟩) dX4_token_135
          · replace c105 := b2i_n0 c105
            refine lv_aload_n hx hb dX4_token_108 rfl (lv_at hl 0 rfl) ?_
            refine lv_aload_n hx hb dX4_token_109 rfl (lv_at hl 0 rfl) ?_
            refine va_get (ci := 4) (v := .int (nI q)) hx hb hts wx_X4 hown hK hP 0 rfl rfl 10 (by decide) (hts _ wf_X4_219) (fun _ h9 => h9) rfl dX4_token_110 ?_
            refine ro_V (w := (MW cI cJ A sS kS oS aS tS ik cA tp (nI d) (nI (skp tp d i)) (nI q) vl wr bO sO nU mV)) (rest := []) S hK hP (k_X4_byteAt d q hd (by omega)) gv_X4_225 hd_X4_byteAt ⟨Nat.le_of_ble_eq_true rfl, Nat.le_of_ble_eq_true rfl⟩ 4 rfl rfl rfl rfl hl.1 (lv_room (Nat.le_of_ble_eq_true rfl)) dX4_token_113 ⟨Nat.zero_le _, Nat.zero_le _⟩ ?_
            refine ro_S (w := []) (rest := []) S hK va_P0 (k_X4_isDigit (byt tp d q)) gs_X4_231 hd_X4_isDigit ⟨Nat.le_of_ble_eq_true rfl, Nat.le_of_ble_eq_true rfl⟩ rfl hl.1 (lv_room (Nat.le_of_ble_eq_true rfl)) dX4_token_116 ⟨Nat.zero_le _, Nat.zero_le _⟩ ?_
            refine w_i (z := b2i (isDig (byt tp d q))) (rfl) ?_
            refine lv_if_eq (tgt := 135) hx hb dX4_token_119 rfl (fun c119 => ?_) (fun c119 => ?_)
            · replace c119 := (b2i_0 _).mp c119
              have he := hq.trans (scR_end (Or.inr c101) (Or.inr c119))
              have hE : nI q = nI (tkE tp d (skp tp d i)) := by rw [he]
              have hW : (MW cI cJ A sS kS oS aS tS ik cA tp (nI d) (nI (skp tp d i)) (nI q) vl wr bO sO nU mV) = (MW cI cJ A sS kS oS aS tS ik cA tp (nI d) (nI (skp tp d i)) (nI (tkE tp d (skp tp d i))) vl wr bO sO nU mV) := congrArg (fun z => (MW cI cJ A sS kS oS aS tS ik cA tp (nI d) (nI (skp tp d i)) z vl wr bO sO nU mV)) hE
              have hP : va_P D vwCl (MW cI cJ A sS kS oS aS tS ik cA tp (nI d) (nI (skp tp d i)) (nI (tkE tp d (skp tp d i))) vl wr bO sO nU mV) H := Eq.mp (congrArg (fun z => va_P D vwCl z H) hW) hP
              have hD : va_D _ (MW cI cJ A sS kS oS aS tS ik cA tp (nI d) (nI (skp tp d i)) (nI (tkE tp d (skp tp d i))) vl wr bO sO nU mV) := Eq.mp (congrArg (fun z => va_D _ z) hW) hD
              exact mu_vret (MW cI cJ A sS kS oS aS tS ik cA tp (nI d) (nI (skp tp d i)) (nI (tkE tp d (skp tp d i))) vl wr bO sO nU mV) hx hb hr hlk hP hS rfl (⟨rfl, rfl⟩) dX4_token_135
            · replace c119 := b2i_n0 c119
              have hx9 := scR_dig c105 c119
              have hx8 := hx9.1
              refine lv_aload_n hx hb dX4_token_122 rfl (lv_at hl 0 rfl) ?_
              refine lv_dup hx hb dX4_token_123 rfl ?_
              refine va_get (ci := 4) (v := .int (nI q)) hx hb hts wx_X4 hown hK hP 0 rfl rfl 10 (by decide) (hts _ wf_X4_219) (fun _ h9 => h9) rfl dX4_token_124 ?_
              refine lv_iconst (v := 1) hx hb dX4_token_127 rfl ?_
              refine lv_iadd hx hb dX4_token_128 ?_
              refine w_i (z := nI (q + 1)) (nI_1 q) ?_
              refine va_put (ci := 4) (v := .int (nI (q + 1))) (ty := tyX4 10) hx hb hts wx_X4 tyX4 tyX4_ok nmX4 hown hK hP hD hS 0 rfl rfl 10 (by decide) (hts _ wf_X4_219) (fun _ h9 => h9) rfl (tyX4_ok 10 (by decide)) rfl rfl (Nat.le_of_ble_eq_true rfl) dX4_token_129 (fun H locs hP hD hS => ?_)
              have hP : va_P D vwCl (MW cI cJ A sS kS oS aS tS ik cA tp (nI d) (nI (skp tp d i)) (nI (q + 1)) vl wr bO sO nU mV) H := hP
              have hD : va_D _ (MW cI cJ A sS kS oS aS tS ik cA tp (nI d) (nI (skp tp d i)) (nI (q + 1)) vl wr bO sO nU mV) := hD
              refine lv_goto (tgt := 86) hx hb dX4_token_132 rfl ?_
              exact ih86 (q + 1) _ _ ls (by first | omega | (dsimp only; omega)) ⟨(by omega), hq.trans hx9.2, hP, hD, hS, lv_sub hl [0, 1, 2] rfl⟩
  · have hby := byt_sp c18
    have hby1 := hby.1
    refine lv_aload_n hx hb dX4_token_21 rfl (lv_at hl 0 rfl) ?_
    refine lv_dup hx hb dX4_token_22 rfl ?_
    refine va_get (ci := 4) (v := .int (nI j)) hx hb hts wx_X4 hown hK hP 0 rfl rfl 9 (by decide) (hts _ wf_X4_222) (fun _ h9 => h9) rfl dX4_token_23 ?_
    refine lv_iconst (v := 1) hx hb dX4_token_26 rfl ?_
    refine lv_iadd hx hb dX4_token_27 ?_
    refine w_i (z := nI (j + 1)) (nI_1 j) ?_
    refine va_put (ci := 4) (v := .int (nI (j + 1))) (ty := tyX4 9) hx hb hts wx_X4 tyX4 tyX4_ok nmX4 hown hK hP hD hS 0 rfl rfl 9 (by decide) (hts _ wf_X4_222) (fun _ h9 => h9) rfl (tyX4_ok 9 (by decide)) rfl rfl (Nat.le_of_ble_eq_true rfl) dX4_token_28 (fun H locs hP hD hS => ?_)
    have hP : va_P D vwCl (MW cI cJ A sS kS oS aS tS ik cA tp (nI d) (nI (j + 1)) (nI i) vl wr bO sO nU mV) H := hP
    have hD : va_D _ (MW cI cJ A sS kS oS aS tS ik cA tp (nI d) (nI (j + 1)) (nI i) vl wr bO sO nU mV) := hD
    refine lv_goto (tgt := 8) hx hb dX4_token_31 rfl ?_
    exact ih8 (j + 1) _ _ ls (by first | omega | (dsimp only; omega)) ⟨(by omega), hs.trans hby.2, hP, hD, hS, lv_sub hl [0] rfl⟩

set_option maxHeartbeats 4000000 in
set_option maxRecDepth 100000 in
theorem k_X4_must_t (d : Nat) (f : Nat) (hd : d ≤ 120) (hf : f ≤ d) : MU l D (tyA cI cJ cO) yX4_must cX4_must 2 none 3 67 [.ref (A 0), .int 1] (MW cI cJ A sS kS oS aS tS ik cA tp (nI d) (nI f) (nI (tkE tp d f)) vl 0 bO sO nU mV) (fun ov w' => ov = none ∧ w' = (MW cI cJ A sS kS oS aS tS ik cA tp (nI d) (nI (nxt tp d f)) (nI (tkE tp d (nxt tp d f))) vl 0 bO sO nU mV)) := by
  refine MU.mk (by decide) (Nat.le_of_ble_eq_true rfl) ?_
  intro p e s m below meth c ls S hr hlk hP hK hD hS hl
  have S : CallFix p m c cX4_must 2 s _ WL RX4 := S
  obtain ⟨hx, hb, hml, hown, hts⟩ := id S
  have hl : lv_has ls 2 [(0, .ref (A 0)), (1, .int 1)] := hl
  have hfe := tkE_le (tp := tp) hf
  refine lv_aload_n hx hb dX4_must_0 rfl (lv_at hl 0 rfl) ?_
  refine lv_aload_n hx hb dX4_must_1 rfl (lv_at hl 0 rfl) ?_
  refine va_get (ci := 4) (v := .int 0) hx hb hts wx_X4 hown hK hP 0 rfl rfl 12 (by decide) (hts _ wf_X4_234) (fun _ h9 => h9) rfl dX4_must_2 ?_
  refine lv_if_ne (tgt := 12) hx hb dX4_must_5 rfl (fun c5 => ?_) (fun c5 => ?_)
  · exact absurd c5 (by decide)
  · refine lv_iload_n hx hb dX4_must_8 rfl (lv_at hl 1 rfl) ?_
    refine lv_if_ne (tgt := 16) hx hb dX4_must_9 rfl (fun c9 => ?_) (fun c9 => ?_)
    · refine lv_iconst (v := 0) hx hb dX4_must_16 rfl ?_
      refine va_put (ci := 4) (v := .int 0) (ty := tyX4 12) hx hb hts wx_X4 tyX4 tyX4_ok nmX4 hown hK hP hD hS 0 rfl rfl 12 (by decide) (hts _ wf_X4_234) (fun _ h9 => h9) rfl (tyX4_ok 12 (by decide)) rfl rfl (Nat.le_of_ble_eq_true rfl) dX4_must_17 (fun H locs hP hD hS => ?_)
      have hP : va_P D vwCl (MW cI cJ A sS kS oS aS tS ik cA tp (nI d) (nI f) (nI (tkE tp d f)) vl 0 bO sO nU mV) H := hP
      have hD : va_D _ (MW cI cJ A sS kS oS aS tS ik cA tp (nI d) (nI f) (nI (tkE tp d f)) vl 0 bO sO nU mV) := hD
      refine lv_aload_n hx hb dX4_must_20 rfl (lv_at hl 0 rfl) ?_
      refine va_get (ci := 4) (v := .int 0) hx hb hts wx_X4 hown hK hP 0 rfl rfl 12 (by decide) (hts _ wf_X4_234) (fun _ h9 => h9) rfl dX4_must_21 ?_
      refine lv_if_ne (tgt := 31) hx hb dX4_must_24 rfl (fun c24 => ?_) (fun c24 => ?_)
      · exact absurd c24 (by decide)
      · refine lv_aload_n hx hb dX4_must_27 rfl (lv_at hl 0 rfl) ?_
        refine mu_W (w := (MW cI cJ A sS kS oS aS tS ik cA tp (nI d) (nI f) (nI (tkE tp d f)) vl 0 bO sO nU mV)) (rest := []) S hK hP hD hS (k_X4_token d (tkE tp d f) hd (by omega)) gv_X4_238 hd_X4_token ⟨Nat.le_of_ble_eq_true rfl, Nat.le_of_ble_eq_true rfl⟩ 4 rfl rfl rfl rfl hl.1 (lv_room (Nat.le_of_ble_eq_true rfl)) dX4_must_28 ⟨Nat.zero_le _, Nat.zero_le _⟩ (fun ov w' H locs hp hP hD hS => ?_)
        obtain ⟨rfl, rfl⟩ := hp
        refine W.eq (g2 := F0 m 31 ls []) rfl ?_
        exact mu_vret (MW cI cJ A sS kS oS aS tS ik cA tp (nI d) (nI (nxt tp d f)) (nI (tkE tp d (nxt tp d f))) vl 0 bO sO nU mV) hx hb hr hlk hP hS rfl (⟨rfl, rfl⟩) dX4_must_31
    · exact absurd c9 (by decide)

set_option maxHeartbeats 4000000 in
set_option maxRecDepth 100000 in
theorem k_X4_must_f (d : Nat) (f : Nat) (hd : d ≤ 120) (hf : f ≤ d) : MU l D (tyA cI cJ cO) yX4_must cX4_must 2 none 3 67 [.ref (A 0), .int 0] (MW cI cJ A sS kS oS aS tS ik cA tp (nI d) (nI f) (nI (tkE tp d f)) vl 0 bO sO nU mV) (fun ov w' => ov = none ∧ w' = (MW cI cJ A sS kS oS aS tS ik cA tp (nI d) (nI f) (nI (tkE tp d f)) vl 1 bO sO nU mV)) := by
  refine MU.mk (by decide) (Nat.le_of_ble_eq_true rfl) ?_
  intro p e s m below meth c ls S hr hlk hP hK hD hS hl
  have S : CallFix p m c cX4_must 2 s _ WL RX4 := S
  obtain ⟨hx, hb, hml, hown, hts⟩ := id S
  have hl : lv_has ls 2 [(0, .ref (A 0)), (1, .int 0)] := hl
  refine lv_aload_n hx hb dX4_must_0 rfl (lv_at hl 0 rfl) ?_
  refine lv_aload_n hx hb dX4_must_1 rfl (lv_at hl 0 rfl) ?_
  refine va_get (ci := 4) (v := .int 0) hx hb hts wx_X4 hown hK hP 0 rfl rfl 12 (by decide) (hts _ wf_X4_234) (fun _ h9 => h9) rfl dX4_must_2 ?_
  refine lv_if_ne (tgt := 12) hx hb dX4_must_5 rfl (fun c5 => ?_) (fun c5 => ?_)
  · exact absurd c5 (by decide)
  · refine lv_iload_n hx hb dX4_must_8 rfl (lv_at hl 1 rfl) ?_
    refine lv_if_ne (tgt := 16) hx hb dX4_must_9 rfl (fun c9 => ?_) (fun c9 => ?_)
    · exact absurd c9 (by decide)
    · refine lv_iconst (v := 1) hx hb dX4_must_12 rfl ?_
      refine lv_goto (tgt := 17) hx hb dX4_must_13 rfl ?_
      refine va_put (ci := 4) (v := .int 1) (ty := tyX4 12) hx hb hts wx_X4 tyX4 tyX4_ok nmX4 hown hK hP hD hS 0 rfl rfl 12 (by decide) (hts _ wf_X4_234) (fun _ h9 => h9) rfl (tyX4_ok 12 (by decide)) rfl rfl (Nat.le_of_ble_eq_true rfl) dX4_must_17 (fun H locs hP hD hS => ?_)
      have hP : va_P D vwCl (MW cI cJ A sS kS oS aS tS ik cA tp (nI d) (nI f) (nI (tkE tp d f)) vl 1 bO sO nU mV) H := hP
      have hD : va_D _ (MW cI cJ A sS kS oS aS tS ik cA tp (nI d) (nI f) (nI (tkE tp d f)) vl 1 bO sO nU mV) := hD
      refine lv_aload_n hx hb dX4_must_20 rfl (lv_at hl 0 rfl) ?_
      refine va_get (ci := 4) (v := .int 1) hx hb hts wx_X4 hown hK hP 0 rfl rfl 12 (by decide) (hts _ wf_X4_234) (fun _ h9 => h9) rfl dX4_must_21 ?_
      refine lv_if_ne (tgt := 31) hx hb dX4_must_24 rfl (fun c24 => ?_) (fun c24 => ?_)
      · exact mu_vret (MW cI cJ A sS kS oS aS tS ik cA tp (nI d) (nI f) (nI (tkE tp d f)) vl 1 bO sO nU mV) hx hb hr hlk hP hS rfl (⟨rfl, rfl⟩) dX4_must_31
      · exact absurd c24 (by decide)

set_option maxHeartbeats 4000000 in
set_option maxRecDepth 100000 in
theorem k_X4_must_w (d : Nat) (f : Nat) (x : Int32) (hd : d ≤ 120) (hf : f ≤ d) : MU l D (tyA cI cJ cO) yX4_must cX4_must 2 none 3 67 [.ref (A 0), .int x] (MW cI cJ A sS kS oS aS tS ik cA tp (nI d) (nI f) (nI (tkE tp d f)) vl 1 bO sO nU mV) (fun ov w' => ov = none ∧ w' = (MW cI cJ A sS kS oS aS tS ik cA tp (nI d) (nI f) (nI (tkE tp d f)) vl 1 bO sO nU mV)) := by
  refine MU.mk (by decide) (Nat.le_of_ble_eq_true rfl) ?_
  intro p e s m below meth c ls S hr hlk hP hK hD hS hl
  have S : CallFix p m c cX4_must 2 s _ WL RX4 := S
  obtain ⟨hx, hb, hml, hown, hts⟩ := id S
  have hl : lv_has ls 2 [(0, .ref (A 0)), (1, .int x)] := hl
  refine lv_aload_n hx hb dX4_must_0 rfl (lv_at hl 0 rfl) ?_
  refine lv_aload_n hx hb dX4_must_1 rfl (lv_at hl 0 rfl) ?_
  refine va_get (ci := 4) (v := .int 1) hx hb hts wx_X4 hown hK hP 0 rfl rfl 12 (by decide) (hts _ wf_X4_234) (fun _ h9 => h9) rfl dX4_must_2 ?_
  refine lv_if_ne (tgt := 12) hx hb dX4_must_5 rfl (fun c5 => ?_) (fun c5 => ?_)
  · refine lv_iconst (v := 1) hx hb dX4_must_12 rfl ?_
    refine lv_goto (tgt := 17) hx hb dX4_must_13 rfl ?_
    refine va_put (ci := 4) (v := .int 1) (ty := tyX4 12) hx hb hts wx_X4 tyX4 tyX4_ok nmX4 hown hK hP hD hS 0 rfl rfl 12 (by decide) (hts _ wf_X4_234) (fun _ h9 => h9) rfl (tyX4_ok 12 (by decide)) rfl rfl (Nat.le_of_ble_eq_true rfl) dX4_must_17 (fun H locs hP hD hS => ?_)
    have hP : va_P D vwCl (MW cI cJ A sS kS oS aS tS ik cA tp (nI d) (nI f) (nI (tkE tp d f)) vl 1 bO sO nU mV) H := hP
    have hD : va_D _ (MW cI cJ A sS kS oS aS tS ik cA tp (nI d) (nI f) (nI (tkE tp d f)) vl 1 bO sO nU mV) := hD
    refine lv_aload_n hx hb dX4_must_20 rfl (lv_at hl 0 rfl) ?_
    refine va_get (ci := 4) (v := .int 1) hx hb hts wx_X4 hown hK hP 0 rfl rfl 12 (by decide) (hts _ wf_X4_234) (fun _ h9 => h9) rfl dX4_must_21 ?_
    refine lv_if_ne (tgt := 31) hx hb dX4_must_24 rfl (fun c24 => ?_) (fun c24 => ?_)
    · exact mu_vret (MW cI cJ A sS kS oS aS tS ik cA tp (nI d) (nI f) (nI (tkE tp d f)) vl 1 bO sO nU mV) hx hb hr hlk hP hS rfl (⟨rfl, rfl⟩) dX4_must_31
    · exact absurd c24 (by decide)
  · exact absurd c5 (by decide)

set_option maxHeartbeats 4000000 in
set_option maxRecDepth 100000 in
theorem k_X4_word_t (d : Nat) (f : Nat) (hd : d ≤ 120) (hf : f ≤ d) : RO l D (tyA cI cJ cO) yX4_word cX4_word 4 ((some .long)) 2 45 [.ref (A 0)] (MW cI cJ A sS kS oS aS tS ik cA tp (nI d) (nI f) (nI (tkE tp d f)) vl 0 bO sO nU mV) (.long (wrdL tp d f)) := by
  refine RO.mk (by decide) (Nat.le_of_ble_eq_true rfl) ?_
  intro p e s m below meth c ls S hr hlk hP hK hl
  have S : CallFix p m c cX4_word 4 s _ WL RX4 := S
  obtain ⟨hx, hb, hml, hown, hts⟩ := id S
  have hl : lv_has ls 4 [(0, .ref (A 0))] := hl
  have hfe := tkE_ge (tp := tp) hf
  refine lv_lconst (v := 0) hx hb dX4_word_0 rfl ?_
  refine w_l (z := codL tp f 0) (rfl) ?_
  refine lv_lstore_n (lv' := [(1, .long (codL tp f 0)), (0, .ref (A 0))]) hx hb dX4_word_1 rfl hl (by decide) rfl (fun ls hl => ?_)
  refine lv_aload_n hx hb dX4_word_2 rfl (lv_at hl 1 rfl) ?_
  refine va_get (ci := 4) (v := .int (nI f)) hx hb hts wx_X4 hown hK hP 0 rfl rfl 9 (by decide) (hts _ wf_X4_222) (fun _ h9 => h9) rfl dX4_word_3 ?_
  refine w_i (z := nI (f + 0)) (rfl) ?_
  refine lv_istore_n (lv' := [(3, .int (nI (f + 0))), (1, .long (codL tp f 0)), (0, .ref (A 0))]) hx hb dX4_word_6 rfl hl (by decide) rfl (fun ls hl => ?_)
  refine w_loop (pc := 7) (st := fun (i : Nat) => []) (μ := fun (i : Nat) => tkE tp d f - (f + i)) (I := fun (i : Nat) ls => (f + i ≤ tkE tp d f) ∧ lv_has ls 4 [(0, .ref (A 0)), (1, .long (codL tp f i)), (3, .int (nI (f + i)))]) ?_ (0) ⟨(by omega), lv_sub hl [2, 1, 0] rfl⟩
  rintro i ls ⟨hi, hl⟩ ih7
  try dsimp only at ih7 ⊢
  refine lv_iload_n hx hb dX4_word_7 rfl (lv_at hl 2 rfl) ?_
  refine lv_aload_n hx hb dX4_word_8 rfl (lv_at hl 0 rfl) ?_
  refine va_get (ci := 4) (v := .int (nI (tkE tp d f))) hx hb hts wx_X4 hown hK hP 0 rfl rfl 10 (by decide) (hts _ wf_X4_219) (fun _ h9 => h9) rfl dX4_word_9 ?_
  refine lv_icmp_ge (tgt := 50) hx hb dX4_word_12 rfl (fun c12 => ?_) (fun c12 => ?_)
  · replace c12 := nq_le (a := (tkE tp d f)) (b := (f + i)) (by omega) (by omega) c12
    have hie : i = tkE tp d f - f := by omega
    refine lv_aload_n hx hb dX4_word_50 rfl (lv_at hl 0 rfl) ?_
    refine va_get (ci := 4) (v := .int 0) hx hb hts wx_X4 hown hK hP 0 rfl rfl 12 (by decide) (hts _ wf_X4_234) (fun _ h9 => h9) rfl dX4_word_51 ?_
    refine lv_if_ne (tgt := 71) hx hb dX4_word_54 rfl (fun c54 => ?_) (fun c54 => ?_)
    · exact absurd c54 (by decide)
    · refine lv_aload_n hx hb dX4_word_57 rfl (lv_at hl 0 rfl) ?_
      refine lv_aload_n hx hb dX4_word_58 rfl (lv_at hl 0 rfl) ?_
      refine va_get (ci := 4) (v := .int (nI f)) hx hb hts wx_X4 hown hK hP 0 rfl rfl 9 (by decide) (hts _ wf_X4_222) (fun _ h9 => h9) rfl dX4_word_59 ?_
      refine ro_V (w := (MW cI cJ A sS kS oS aS tS ik cA tp (nI d) (nI f) (nI (tkE tp d f)) vl 0 bO sO nU mV)) (rest := []) S hK hP (k_X4_byteAt d f hd (by omega)) gv_X4_225 hd_X4_byteAt ⟨Nat.le_of_ble_eq_true rfl, Nat.le_of_ble_eq_true rfl⟩ 4 rfl rfl rfl rfl hl.1 (lv_room (Nat.le_of_ble_eq_true rfl)) dX4_word_62 ⟨Nat.zero_le _, Nat.zero_le _⟩ ?_
      refine ro_S (w := []) (rest := []) S hK va_P0 (k_X4_isLetter (byt tp d f)) gs_X4_228 hd_X4_isLetter ⟨Nat.le_of_ble_eq_true rfl, Nat.le_of_ble_eq_true rfl⟩ rfl hl.1 (lv_room (Nat.le_of_ble_eq_true rfl)) dX4_word_65 ⟨Nat.zero_le _, Nat.zero_le _⟩ ?_
      refine w_i (z := b2i (isLet (byt tp d f))) (rfl) ?_
      refine lv_if_ne (tgt := 75) hx hb dX4_word_68 rfl (fun c68 => ?_) (fun c68 => ?_)
      · replace c68 := b2i_n0 c68
        refine lv_lload_n hx hb dX4_word_75 rfl (lv_at hl 1 rfl) ?_
        exact ro_lret hx hb hr hlk (by rw [wrdL, c68, hie]; rfl) dX4_word_76
      · replace c68 := (b2i_0 _).mp c68
        refine lv_lconst (v := 0) hx hb dX4_word_71 rfl ?_
        refine lv_goto (tgt := 76) hx hb dX4_word_72 rfl ?_
        exact ro_lret hx hb hr hlk (by rw [wrdL, c68]; rfl) dX4_word_76
  · replace c12 := nq_nle (a := (tkE tp d f)) (b := (f + i)) (by omega) (by omega) c12
    refine lv_lload_n hx hb dX4_word_15 rfl (lv_at hl 1 rfl) ?_
    refine lv_ldc2 (v := 36028797018963967) hx hb hown (hts _ wq_X4_241) dX4_word_16 ?_
    refine W.lcmp hx hb dX4_word_19 ?_
    refine lv_if_le (tgt := 27) hx hb dX4_word_20 rfl (fun c20 => ?_) (fun c20 => ?_)
    · replace c20 := lc_le c20
      refine lv_ldc2 (v := 32) hx hb hown (hts _ wq_X4_243) dX4_word_27 ?_
      refine lv_lload_n hx hb dX4_word_30 rfl (lv_at hl 1 rfl) ?_
      refine lv_lmul hx hb dX4_word_31 ?_
      refine lv_aload_n hx hb dX4_word_32 rfl (lv_at hl 0 rfl) ?_
      refine va_get (ci := 4) (v := .ref (A 7)) hx hb hts wx_X4 hown hK hP 0 rfl rfl 7 (by decide) (hts _ wf_X4_28) (fun _ h9 => h9) rfl dX4_word_33 ?_
      refine lv_iload_n hx hb dX4_word_36 rfl (lv_at hl 2 rfl) ?_
      refine ia_ld hx hb hK hP 7 0 rfl rfl (f + i) (rfl) (by omega) (by decide) dX4_word_37 ?_
      refine lv_bipush (v := 96) hx hb dX4_word_38 rfl ?_
      refine lv_isub hx hb dX4_word_40 ?_
      refine lv_i2l hx hb dX4_word_41 rfl ?_
      refine lv_ladd hx hb dX4_word_42 ?_
      refine w_l (z := codL tp f (i + 1)) (cod_t c20) ?_
      refine lv_lstore_n (lv' := [(1, .long (codL tp f (i + 1))), (0, .ref (A 0)), (3, .int (nI (f + i)))]) hx hb dX4_word_43 rfl hl (by decide) rfl (fun ls hl => ?_)
      refine lv_iinc (v := nI (f + (i + 1))) (lv' := [(3, .int (nI (f + (i + 1)))), (1, .long (codL tp f (i + 1))), (0, .ref (A 0))]) hx hb dX4_word_44 hl (k := 2) rfl (nI_inc (f + i)) (by decide) rfl (fun ls hl => ?_)
      refine lv_goto (tgt := 7) hx hb dX4_word_47 rfl ?_
      exact ih7 (i + 1) ls (by first | omega | (dsimp only; omega)) ⟨(by omega), lv_sub hl [2, 1, 0] rfl⟩
    · replace c20 := lc_nle c20
      refine lv_lload_n hx hb dX4_word_23 rfl (lv_at hl 1 rfl) ?_
      refine lv_goto (tgt := 43) hx hb dX4_word_24 rfl ?_
      refine w_l (z := codL tp f (i + 1)) (cod_f c20) ?_
      refine lv_lstore_n (lv' := [(1, .long (codL tp f (i + 1))), (0, .ref (A 0)), (3, .int (nI (f + i)))]) hx hb dX4_word_43 rfl hl (by decide) rfl (fun ls hl => ?_)
      refine lv_iinc (v := nI (f + (i + 1))) (lv' := [(3, .int (nI (f + (i + 1)))), (1, .long (codL tp f (i + 1))), (0, .ref (A 0))]) hx hb dX4_word_44 hl (k := 2) rfl (nI_inc (f + i)) (by decide) rfl (fun ls hl => ?_)
      refine lv_goto (tgt := 7) hx hb dX4_word_47 rfl ?_
      exact ih7 (i + 1) ls (by first | omega | (dsimp only; omega)) ⟨(by omega), lv_sub hl [2, 1, 0] rfl⟩

set_option maxHeartbeats 4000000 in
set_option maxRecDepth 100000 in
theorem k_X4_word_w (d : Nat) (f : Nat) (hd : d ≤ 120) (hf : f ≤ d) : RO l D (tyA cI cJ cO) yX4_word cX4_word 4 ((some .long)) 2 45 [.ref (A 0)] (MW cI cJ A sS kS oS aS tS ik cA tp (nI d) (nI f) (nI (tkE tp d f)) vl 1 bO sO nU mV) (.long 0) := by
  refine RO.mk (by decide) (Nat.le_of_ble_eq_true rfl) ?_
  intro p e s m below meth c ls S hr hlk hP hK hl
  have S : CallFix p m c cX4_word 4 s _ WL RX4 := S
  obtain ⟨hx, hb, hml, hown, hts⟩ := id S
  have hl : lv_has ls 4 [(0, .ref (A 0))] := hl
  have hfe := tkE_ge (tp := tp) hf
  refine lv_lconst (v := 0) hx hb dX4_word_0 rfl ?_
  refine w_l (z := codL tp f 0) (rfl) ?_
  refine lv_lstore_n (lv' := [(1, .long (codL tp f 0)), (0, .ref (A 0))]) hx hb dX4_word_1 rfl hl (by decide) rfl (fun ls hl => ?_)
  refine lv_aload_n hx hb dX4_word_2 rfl (lv_at hl 1 rfl) ?_
  refine va_get (ci := 4) (v := .int (nI f)) hx hb hts wx_X4 hown hK hP 0 rfl rfl 9 (by decide) (hts _ wf_X4_222) (fun _ h9 => h9) rfl dX4_word_3 ?_
  refine w_i (z := nI (f + 0)) (rfl) ?_
  refine lv_istore_n (lv' := [(3, .int (nI (f + 0))), (1, .long (codL tp f 0)), (0, .ref (A 0))]) hx hb dX4_word_6 rfl hl (by decide) rfl (fun ls hl => ?_)
  refine w_loop (pc := 7) (st := fun (i : Nat) => []) (μ := fun (i : Nat) => tkE tp d f - (f + i)) (I := fun (i : Nat) ls => (f + i ≤ tkE tp d f) ∧ lv_has ls 4 [(0, .ref (A 0)), (1, .long (codL tp f i)), (3, .int (nI (f + i)))]) ?_ (0) ⟨(by omega), lv_sub hl [2, 1, 0] rfl⟩
  rintro i ls ⟨hi, hl⟩ ih7
  try dsimp only at ih7 ⊢
  refine lv_iload_n hx hb dX4_word_7 rfl (lv_at hl 2 rfl) ?_
  refine lv_aload_n hx hb dX4_word_8 rfl (lv_at hl 0 rfl) ?_
  refine va_get (ci := 4) (v := .int (nI (tkE tp d f))) hx hb hts wx_X4 hown hK hP 0 rfl rfl 10 (by decide) (hts _ wf_X4_219) (fun _ h9 => h9) rfl dX4_word_9 ?_
  refine lv_icmp_ge (tgt := 50) hx hb dX4_word_12 rfl (fun c12 => ?_) (fun c12 => ?_)
  · replace c12 := nq_le (a := (tkE tp d f)) (b := (f + i)) (by omega) (by omega) c12
    have hie : i = tkE tp d f - f := by omega
    refine lv_aload_n hx hb dX4_word_50 rfl (lv_at hl 0 rfl) ?_
    refine va_get (ci := 4) (v := .int 1) hx hb hts wx_X4 hown hK hP 0 rfl rfl 12 (by decide) (hts _ wf_X4_234) (fun _ h9 => h9) rfl dX4_word_51 ?_
    refine lv_if_ne (tgt := 71) hx hb dX4_word_54 rfl (fun c54 => ?_) (fun c54 => ?_)
    · refine lv_lconst (v := 0) hx hb dX4_word_71 rfl ?_
      refine lv_goto (tgt := 76) hx hb dX4_word_72 rfl ?_
      exact ro_lret hx hb hr hlk (rfl) dX4_word_76
    · exact absurd c54 (by decide)
  · replace c12 := nq_nle (a := (tkE tp d f)) (b := (f + i)) (by omega) (by omega) c12
    refine lv_lload_n hx hb dX4_word_15 rfl (lv_at hl 1 rfl) ?_
    refine lv_ldc2 (v := 36028797018963967) hx hb hown (hts _ wq_X4_241) dX4_word_16 ?_
    refine W.lcmp hx hb dX4_word_19 ?_
    refine lv_if_le (tgt := 27) hx hb dX4_word_20 rfl (fun c20 => ?_) (fun c20 => ?_)
    · replace c20 := lc_le c20
      refine lv_ldc2 (v := 32) hx hb hown (hts _ wq_X4_243) dX4_word_27 ?_
      refine lv_lload_n hx hb dX4_word_30 rfl (lv_at hl 1 rfl) ?_
      refine lv_lmul hx hb dX4_word_31 ?_
      refine lv_aload_n hx hb dX4_word_32 rfl (lv_at hl 0 rfl) ?_
      refine va_get (ci := 4) (v := .ref (A 7)) hx hb hts wx_X4 hown hK hP 0 rfl rfl 7 (by decide) (hts _ wf_X4_28) (fun _ h9 => h9) rfl dX4_word_33 ?_
      refine lv_iload_n hx hb dX4_word_36 rfl (lv_at hl 2 rfl) ?_
      refine ia_ld hx hb hK hP 7 0 rfl rfl (f + i) (rfl) (by omega) (by decide) dX4_word_37 ?_
      refine lv_bipush (v := 96) hx hb dX4_word_38 rfl ?_
      refine lv_isub hx hb dX4_word_40 ?_
      refine lv_i2l hx hb dX4_word_41 rfl ?_
      refine lv_ladd hx hb dX4_word_42 ?_
      refine w_l (z := codL tp f (i + 1)) (cod_t c20) ?_
      refine lv_lstore_n (lv' := [(1, .long (codL tp f (i + 1))), (0, .ref (A 0)), (3, .int (nI (f + i)))]) hx hb dX4_word_43 rfl hl (by decide) rfl (fun ls hl => ?_)
      refine lv_iinc (v := nI (f + (i + 1))) (lv' := [(3, .int (nI (f + (i + 1)))), (1, .long (codL tp f (i + 1))), (0, .ref (A 0))]) hx hb dX4_word_44 hl (k := 2) rfl (nI_inc (f + i)) (by decide) rfl (fun ls hl => ?_)
      refine lv_goto (tgt := 7) hx hb dX4_word_47 rfl ?_
      exact ih7 (i + 1) ls (by first | omega | (dsimp only; omega)) ⟨(by omega), lv_sub hl [2, 1, 0] rfl⟩
    · replace c20 := lc_nle c20
      refine lv_lload_n hx hb dX4_word_23 rfl (lv_at hl 1 rfl) ?_
      refine lv_goto (tgt := 43) hx hb dX4_word_24 rfl ?_
      refine w_l (z := codL tp f (i + 1)) (cod_f c20) ?_
      refine lv_lstore_n (lv' := [(1, .long (codL tp f (i + 1))), (0, .ref (A 0)), (3, .int (nI (f + i)))]) hx hb dX4_word_43 rfl hl (by decide) rfl (fun ls hl => ?_)
      refine lv_iinc (v := nI (f + (i + 1))) (lv' := [(3, .int (nI (f + (i + 1)))), (1, .long (codL tp f (i + 1))), (0, .ref (A 0))]) hx hb dX4_word_44 hl (k := 2) rfl (nI_inc (f + i)) (by decide) rfl (fun ls hl => ?_)
      refine lv_goto (tgt := 7) hx hb dX4_word_47 rfl ?_
      exact ih7 (i + 1) ls (by first | omega | (dsimp only; omega)) ⟨(by omega), lv_sub hl [2, 1, 0] rfl⟩

set_option maxHeartbeats 4000000 in
set_option maxRecDepth 100000 in
theorem k_X4_number_t (d : Nat) (f : Nat) (y : Int32) (hd : d ≤ 120) (hf : f ≤ d) (hn : numT tp d f y = true) : MU l D (tyA cI cJ cO) yX4_number cX4_number 6 none 4 88 [.ref (A 0), .int 0, .int y] (MW cI cJ A sS kS oS aS tS ik cA tp (nI d) (nI f) (nI (tkE tp d f)) vl 0 bO sO nU mV) (fun ov w' => ov = none ∧ w' = (MW cI cJ A sS kS oS aS tS ik cA tp (nI d) (nI (nxt tp d f)) (nI (tkE tp d (nxt tp d f))) (numV tp d f) 0 bO sO nU mV)) := by
  refine MU.mk (by decide) (Nat.le_of_ble_eq_true rfl) ?_
  intro p e s m below meth c ls S hr hlk hP hK hD hS hl
  have S : CallFix p m c cX4_number 6 s _ WL RX4 := S
  obtain ⟨hx, hb, hml, hown, hts⟩ := id S
  have hl : lv_has ls 6 [(0, .ref (A 0)), (1, .int 0), (2, .int y)] := hl
  have hfe := tkE_ge (tp := tp) hf
  have hnd := numT_d hn
  refine lv_aload_n hx hb dX4_number_0 rfl (lv_at hl 0 rfl) ?_
  refine va_get (ci := 4) (v := .int 0) hx hb hts wx_X4 hown hK hP 0 rfl rfl 12 (by decide) (hts _ wf_X4_234) (fun _ h9 => h9) rfl dX4_number_1 ?_
  refine lv_if_eq (tgt := 8) hx hb dX4_number_4 rfl (fun c4 => ?_) (fun c4 => ?_)
  · refine lv_aload_n hx hb dX4_number_8 rfl (lv_at hl 0 rfl) ?_
    refine lv_aload_n hx hb dX4_number_9 rfl (lv_at hl 0 rfl) ?_
    refine va_get (ci := 4) (v := .int (nI f)) hx hb hts wx_X4 hown hK hP 0 rfl rfl 9 (by decide) (hts _ wf_X4_222) (fun _ h9 => h9) rfl dX4_number_10 ?_
    refine ro_V (w := (MW cI cJ A sS kS oS aS tS ik cA tp (nI d) (nI f) (nI (tkE tp d f)) vl 0 bO sO nU mV)) (rest := []) S hK hP (k_X4_byteAt d f hd (by omega)) gv_X4_225 hd_X4_byteAt ⟨Nat.le_of_ble_eq_true rfl, Nat.le_of_ble_eq_true rfl⟩ 4 rfl rfl rfl rfl hl.1 (lv_room (Nat.le_of_ble_eq_true rfl)) dX4_number_13 ⟨Nat.zero_le _, Nat.zero_le _⟩ ?_
    refine ro_S (w := []) (rest := []) S hK va_P0 (k_X4_isDigit (byt tp d f)) gs_X4_231 hd_X4_isDigit ⟨Nat.le_of_ble_eq_true rfl, Nat.le_of_ble_eq_true rfl⟩ rfl hl.1 (lv_room (Nat.le_of_ble_eq_true rfl)) dX4_number_16 ⟨Nat.zero_le _, Nat.zero_le _⟩ ?_
    refine w_i (z := b2i (isDig (byt tp d f))) (rfl) ?_
    refine lv_istore_n (lv' := [(3, .int (b2i (isDig (byt tp d f)))), (0, .ref (A 0)), (1, .int 0), (2, .int y)]) hx hb dX4_number_19 rfl hl (by decide) rfl (fun ls hl => ?_)
    refine lv_iconst (v := 0) hx hb dX4_number_20 rfl ?_
    refine w_i (z := numI tp f 0) (rfl) ?_
    refine lv_istore (lv' := [(4, .int (numI tp f 0)), (3, .int (b2i (isDig (byt tp d f)))), (0, .ref (A 0)), (1, .int 0), (2, .int y)]) hx hb dX4_number_21 hl (by decide) rfl (fun ls hl => ?_)
    refine lv_aload_n hx hb dX4_number_23 rfl (lv_at hl 2 rfl) ?_
    refine va_get (ci := 4) (v := .int (nI f)) hx hb hts wx_X4 hown hK hP 0 rfl rfl 9 (by decide) (hts _ wf_X4_222) (fun _ h9 => h9) rfl dX4_number_24 ?_
    refine w_i (z := nI (f + 0)) (rfl) ?_
    refine lv_istore (lv' := [(5, .int (nI (f + 0))), (4, .int (numI tp f 0)), (3, .int (b2i (isDig (byt tp d f)))), (0, .ref (A 0)), (1, .int 0), (2, .int y)]) hx hb dX4_number_27 hl (by decide) rfl (fun ls hl => ?_)
    refine w_loopH (pc := 29) (st := fun (i : Nat) => []) (μ := fun (i : Nat) => tkE tp d f - (f + i)) (I := fun (i : Nat) H locs ls => (f + i ≤ tkE tp d f) ∧ va_P D vwCl (MW cI cJ A sS kS oS aS tS ik cA tp (nI d) (nI f) (nI (tkE tp d f)) vl 0 bO sO nU mV) H ∧ va_D (fun z9 => z9 ∈ ((MW cI cJ A sS kS oS aS tS ik cA tp (nI d) (nI f) (nI (tkE tp d f)) vl 0 bO sO nU mV)).map (fun z8 => z8.1)) (MW cI cJ A sS kS oS aS tS ik cA tp (nI d) (nI f) (nI (tkE tp d f)) vl 0 bO sO nU mV) ∧ va_S (fun z9 => z9 ∈ ((MW cI cJ A sS kS oS aS tS ik cA tp (nI d) (nI f) (nI (tkE tp d f)) vl 0 bO sO nU mV)).map (fun z8 => z8.1)) s.heap H locs ∧ lv_has ls 6 [(0, .ref (A 0)), (1, .int 0), (2, .int y), (3, .int (b2i (isDig (byt tp d f)))), (4, .int (numI tp f i)), (5, .int (nI (f + i)))]) ?_ (0) ⟨(by omega), hP, hD, hS, lv_sub hl [3, 4, 5, 2, 1, 0] rfl⟩
    rintro i H locs ls ⟨hi, hP, hD, hS, hl⟩ ih29
    try dsimp only at ih29 ⊢
    refine lv_iload hx hb dX4_number_29 (lv_at hl 5 rfl) ?_
    refine lv_aload_n hx hb dX4_number_31 rfl (lv_at hl 0 rfl) ?_
    refine va_get (ci := 4) (v := .int (nI (tkE tp d f))) hx hb hts wx_X4 hown hK hP 0 rfl rfl 10 (by decide) (hts _ wf_X4_219) (fun _ h9 => h9) rfl dX4_number_32 ?_
    refine lv_icmp_ge (tgt := 79) hx hb dX4_number_35 rfl (fun c35 => ?_) (fun c35 => ?_)
    · replace c35 := nq_le (a := (tkE tp d f)) (b := (f + i)) (by omega) (by omega) c35
      have hie : isDig (byt tp d f) = true → i = tkE tp d f - f := fun h9 => by omega
      refine lv_aload_n hx hb dX4_number_79 rfl (lv_at hl 0 rfl) ?_
      refine lv_iload hx hb dX4_number_80 (lv_at hl 4 rfl) ?_
      refine va_put (ci := 4) (v := .int (numI tp f i)) (ty := tyX4 11) hx hb hts wx_X4 tyX4 tyX4_ok nmX4 hown hK hP hD hS 0 rfl rfl 11 (by decide) (hts _ wf_X4_245) (fun _ h9 => h9) rfl (tyX4_ok 11 (by decide)) rfl rfl (Nat.le_of_ble_eq_true rfl) dX4_number_82 (fun H locs hP hD hS => ?_)
      have hP : va_P D vwCl (MW cI cJ A sS kS oS aS tS ik cA tp (nI d) (nI f) (nI (tkE tp d f)) (numI tp f i) 0 bO sO nU mV) H := hP
      have hD : va_D _ (MW cI cJ A sS kS oS aS tS ik cA tp (nI d) (nI f) (nI (tkE tp d f)) (numI tp f i) 0 bO sO nU mV) := hD
      refine lv_aload_n hx hb dX4_number_85 rfl (lv_at hl 0 rfl) ?_
      refine lv_iload_n hx hb dX4_number_86 rfl (lv_at hl 3 rfl) ?_
      refine lv_if_eq (tgt := 107) hx hb dX4_number_87 rfl (fun c87 => ?_) (fun c87 => ?_)
      · replace c87 := (b2i_0 _).mp c87
        exact absurd (c87.symm.trans hnd.1) (by decide)
      · replace c87 := b2i_n0 c87
        have hv : numI tp f i = numV tp d f := by rw [numV, ← hie c87]
        have hE : numI tp f i = numV tp d f := hv
        have hW : (MW cI cJ A sS kS oS aS tS ik cA tp (nI d) (nI f) (nI (tkE tp d f)) (numI tp f i) 0 bO sO nU mV) = (MW cI cJ A sS kS oS aS tS ik cA tp (nI d) (nI f) (nI (tkE tp d f)) (numV tp d f) 0 bO sO nU mV) := congrArg (fun z => (MW cI cJ A sS kS oS aS tS ik cA tp (nI d) (nI f) (nI (tkE tp d f)) z 0 bO sO nU mV)) hE
        have hP : va_P D vwCl (MW cI cJ A sS kS oS aS tS ik cA tp (nI d) (nI f) (nI (tkE tp d f)) (numV tp d f) 0 bO sO nU mV) H := Eq.mp (congrArg (fun z => va_P D vwCl z H) hW) hP
        have hD : va_D _ (MW cI cJ A sS kS oS aS tS ik cA tp (nI d) (nI f) (nI (tkE tp d f)) (numV tp d f) 0 bO sO nU mV) := Eq.mp (congrArg (fun z => va_D _ z) hW) hD
        rw [hv] at hl
        refine lv_iload hx hb dX4_number_90 (lv_at hl 4 rfl) ?_
        refine lv_i2l hx hb dX4_number_92 rfl ?_
        refine lv_iload_n hx hb dX4_number_93 rfl (lv_at hl 1 rfl) ?_
        refine lv_i2l hx hb dX4_number_94 rfl ?_
        refine lv_iload_n hx hb dX4_number_95 rfl (lv_at hl 2 rfl) ?_
        refine lv_i2l hx hb dX4_number_96 rfl ?_
        refine ro_S (w := []) (rest := [.ref (A 0)]) S hK va_P0 (k_X4_inI (numV tp d f) 0 y _ _ (rfl) (rfl)) gs_X4_49 hd_X4_in ⟨Nat.le_of_ble_eq_true rfl, Nat.le_of_ble_eq_true rfl⟩ rfl hl.1 (lv_room (Nat.le_of_ble_eq_true rfl)) dX4_number_97 ⟨Nat.zero_le _, Nat.zero_le _⟩ ?_
        refine lv_if_eq (tgt := 107) hx hb dX4_number_100 rfl (fun c100 => ?_) (fun c100 => ?_)
        · replace c100 := (b2i_0 _).mp c100
          exact absurd (c100.symm.trans hnd.2) (by decide)
        · replace c100 := b2i_n0 c100
          refine lv_iconst (v := 1) hx hb dX4_number_103 rfl ?_
          refine lv_goto (tgt := 108) hx hb dX4_number_104 rfl ?_
          refine mu_W (w := (MW cI cJ A sS kS oS aS tS ik cA tp (nI d) (nI f) (nI (tkE tp d f)) (numV tp d f) 0 bO sO nU mV)) (rest := []) S hK hP hD hS (k_X4_must_t d f hd (hf)) gv_X4_248 hd_X4_must ⟨Nat.le_of_ble_eq_true rfl, Nat.le_of_ble_eq_true rfl⟩ 4 rfl rfl rfl rfl hl.1 (lv_room (Nat.le_of_ble_eq_true rfl)) dX4_number_108 ⟨Nat.zero_le _, Nat.zero_le _⟩ (fun ov w' H locs hp hP hD hS => ?_)
          obtain ⟨rfl, rfl⟩ := hp
          refine W.eq (g2 := F0 m 111 ls []) rfl ?_
          exact mu_vret (MW cI cJ A sS kS oS aS tS ik cA tp (nI d) (nI (nxt tp d f)) (nI (tkE tp d (nxt tp d f))) (numV tp d f) 0 bO sO nU mV) hx hb hr hlk hP hS rfl (⟨rfl, rfl⟩) dX4_number_111
    · replace c35 := nq_nle (a := (tkE tp d f)) (b := (f + i)) (by omega) (by omega) c35
      refine lv_iload_n hx hb dX4_number_38 rfl (lv_at hl 3 rfl) ?_
      refine lv_if_eq (tgt := 79) hx hb dX4_number_39 rfl (fun c39 => ?_) (fun c39 => ?_)
      · replace c39 := (b2i_0 _).mp c39
        exact absurd (c39.symm.trans hnd.1) (by decide)
      · replace c39 := b2i_n0 c39
        refine lv_iload hx hb dX4_number_42 (lv_at hl 4 rfl) ?_
        refine lv_sipush (v := 999) hx hb dX4_number_44 rfl ?_
        refine lv_icmp_le (tgt := 55) hx hb dX4_number_47 rfl (fun c47 => ?_) (fun c47 => ?_)
        · refine lv_bipush (v := 10) hx hb dX4_number_55 rfl ?_
          refine lv_iload hx hb dX4_number_57 (lv_at hl 4 rfl) ?_
          refine lv_imul hx hb dX4_number_59 ?_
          refine lv_aload_n hx hb dX4_number_60 rfl (lv_at hl 0 rfl) ?_
          refine va_get (ci := 4) (v := .ref (A 7)) hx hb hts wx_X4 hown hK hP 0 rfl rfl 7 (by decide) (hts _ wf_X4_28) (fun _ h9 => h9) rfl dX4_number_61 ?_
          refine lv_iload hx hb dX4_number_64 (lv_at hl 5 rfl) ?_
          refine ia_ld hx hb hK hP 7 0 rfl rfl (f + i) (rfl) (by omega) (by decide) dX4_number_66 ?_
          refine lv_iadd hx hb dX4_number_67 ?_
          refine lv_bipush (v := 48) hx hb dX4_number_68 rfl ?_
          refine lv_isub hx hb dX4_number_70 ?_
          refine w_i (z := numI tp f (i + 1)) (num_t c47) ?_
          refine lv_istore (lv' := [(4, .int (numI tp f (i + 1))), (0, .ref (A 0)), (1, .int 0), (2, .int y), (3, .int (b2i (isDig (byt tp d f)))), (5, .int (nI (f + i)))]) hx hb dX4_number_71 hl (by decide) rfl (fun ls hl => ?_)
          refine lv_iinc (v := nI (f + (i + 1))) (lv' := [(5, .int (nI (f + (i + 1)))), (4, .int (numI tp f (i + 1))), (0, .ref (A 0)), (1, .int 0), (2, .int y), (3, .int (b2i (isDig (byt tp d f))))]) hx hb dX4_number_73 hl (k := 5) rfl (nI_inc (f + i)) (by decide) rfl (fun ls hl => ?_)
          refine lv_goto (tgt := 29) hx hb dX4_number_76 rfl ?_
          exact ih29 (i + 1) _ _ ls (by first | omega | (dsimp only; omega)) ⟨(by omega), hP, hD, hS, lv_sub hl [2, 3, 4, 5, 1, 0] rfl⟩
        · refine lv_iload hx hb dX4_number_50 (lv_at hl 4 rfl) ?_
          refine lv_goto (tgt := 71) hx hb dX4_number_52 rfl ?_
          refine w_i (z := numI tp f (i + 1)) (num_f c47) ?_
          refine lv_istore (lv' := [(4, .int (numI tp f (i + 1))), (0, .ref (A 0)), (1, .int 0), (2, .int y), (3, .int (b2i (isDig (byt tp d f)))), (5, .int (nI (f + i)))]) hx hb dX4_number_71 hl (by decide) rfl (fun ls hl => ?_)
          refine lv_iinc (v := nI (f + (i + 1))) (lv' := [(5, .int (nI (f + (i + 1)))), (4, .int (numI tp f (i + 1))), (0, .ref (A 0)), (1, .int 0), (2, .int y), (3, .int (b2i (isDig (byt tp d f))))]) hx hb dX4_number_73 hl (k := 5) rfl (nI_inc (f + i)) (by decide) rfl (fun ls hl => ?_)
          refine lv_goto (tgt := 29) hx hb dX4_number_76 rfl ?_
          exact ih29 (i + 1) _ _ ls (by first | omega | (dsimp only; omega)) ⟨(by omega), hP, hD, hS, lv_sub hl [2, 3, 4, 5, 1, 0] rfl⟩
  · exact absurd c4 (by decide)

set_option maxHeartbeats 4000000 in
set_option maxRecDepth 100000 in
theorem k_X4_number_f (d : Nat) (f : Nat) (y : Int32) (hd : d ≤ 120) (hf : f ≤ d) (hn : numT tp d f y = false) : MU l D (tyA cI cJ cO) yX4_number cX4_number 6 none 4 88 [.ref (A 0), .int 0, .int y] (MW cI cJ A sS kS oS aS tS ik cA tp (nI d) (nI f) (nI (tkE tp d f)) vl 0 bO sO nU mV) (fun ov w' => ∃ v9 : Int32, ov = none ∧ w' = (MW cI cJ A sS kS oS aS tS ik cA tp (nI d) (nI f) (nI (tkE tp d f)) v9 1 bO sO nU mV)) := by
  refine MU.mk (by decide) (Nat.le_of_ble_eq_true rfl) ?_
  intro p e s m below meth c ls S hr hlk hP hK hD hS hl
  have S : CallFix p m c cX4_number 6 s _ WL RX4 := S
  obtain ⟨hx, hb, hml, hown, hts⟩ := id S
  have hl : lv_has ls 6 [(0, .ref (A 0)), (1, .int 0), (2, .int y)] := hl
  have hfe := tkE_ge (tp := tp) hf
  refine lv_aload_n hx hb dX4_number_0 rfl (lv_at hl 0 rfl) ?_
  refine va_get (ci := 4) (v := .int 0) hx hb hts wx_X4 hown hK hP 0 rfl rfl 12 (by decide) (hts _ wf_X4_234) (fun _ h9 => h9) rfl dX4_number_1 ?_
  refine lv_if_eq (tgt := 8) hx hb dX4_number_4 rfl (fun c4 => ?_) (fun c4 => ?_)
  · refine lv_aload_n hx hb dX4_number_8 rfl (lv_at hl 0 rfl) ?_
    refine lv_aload_n hx hb dX4_number_9 rfl (lv_at hl 0 rfl) ?_
    refine va_get (ci := 4) (v := .int (nI f)) hx hb hts wx_X4 hown hK hP 0 rfl rfl 9 (by decide) (hts _ wf_X4_222) (fun _ h9 => h9) rfl dX4_number_10 ?_
    refine ro_V (w := (MW cI cJ A sS kS oS aS tS ik cA tp (nI d) (nI f) (nI (tkE tp d f)) vl 0 bO sO nU mV)) (rest := []) S hK hP (k_X4_byteAt d f hd (by omega)) gv_X4_225 hd_X4_byteAt ⟨Nat.le_of_ble_eq_true rfl, Nat.le_of_ble_eq_true rfl⟩ 4 rfl rfl rfl rfl hl.1 (lv_room (Nat.le_of_ble_eq_true rfl)) dX4_number_13 ⟨Nat.zero_le _, Nat.zero_le _⟩ ?_
    refine ro_S (w := []) (rest := []) S hK va_P0 (k_X4_isDigit (byt tp d f)) gs_X4_231 hd_X4_isDigit ⟨Nat.le_of_ble_eq_true rfl, Nat.le_of_ble_eq_true rfl⟩ rfl hl.1 (lv_room (Nat.le_of_ble_eq_true rfl)) dX4_number_16 ⟨Nat.zero_le _, Nat.zero_le _⟩ ?_
    refine w_i (z := b2i (isDig (byt tp d f))) (rfl) ?_
    refine lv_istore_n (lv' := [(3, .int (b2i (isDig (byt tp d f)))), (0, .ref (A 0)), (1, .int 0), (2, .int y)]) hx hb dX4_number_19 rfl hl (by decide) rfl (fun ls hl => ?_)
    refine lv_iconst (v := 0) hx hb dX4_number_20 rfl ?_
    refine w_i (z := numI tp f 0) (rfl) ?_
    refine lv_istore (lv' := [(4, .int (numI tp f 0)), (3, .int (b2i (isDig (byt tp d f)))), (0, .ref (A 0)), (1, .int 0), (2, .int y)]) hx hb dX4_number_21 hl (by decide) rfl (fun ls hl => ?_)
    refine lv_aload_n hx hb dX4_number_23 rfl (lv_at hl 2 rfl) ?_
    refine va_get (ci := 4) (v := .int (nI f)) hx hb hts wx_X4 hown hK hP 0 rfl rfl 9 (by decide) (hts _ wf_X4_222) (fun _ h9 => h9) rfl dX4_number_24 ?_
    refine w_i (z := nI (f + 0)) (rfl) ?_
    refine lv_istore (lv' := [(5, .int (nI (f + 0))), (4, .int (numI tp f 0)), (3, .int (b2i (isDig (byt tp d f)))), (0, .ref (A 0)), (1, .int 0), (2, .int y)]) hx hb dX4_number_27 hl (by decide) rfl (fun ls hl => ?_)
    refine w_loopH (pc := 29) (st := fun (i : Nat) => []) (μ := fun (i : Nat) => tkE tp d f - (f + i)) (I := fun (i : Nat) H locs ls => (f + i ≤ tkE tp d f) ∧ va_P D vwCl (MW cI cJ A sS kS oS aS tS ik cA tp (nI d) (nI f) (nI (tkE tp d f)) vl 0 bO sO nU mV) H ∧ va_D (fun z9 => z9 ∈ ((MW cI cJ A sS kS oS aS tS ik cA tp (nI d) (nI f) (nI (tkE tp d f)) vl 0 bO sO nU mV)).map (fun z8 => z8.1)) (MW cI cJ A sS kS oS aS tS ik cA tp (nI d) (nI f) (nI (tkE tp d f)) vl 0 bO sO nU mV) ∧ va_S (fun z9 => z9 ∈ ((MW cI cJ A sS kS oS aS tS ik cA tp (nI d) (nI f) (nI (tkE tp d f)) vl 0 bO sO nU mV)).map (fun z8 => z8.1)) s.heap H locs ∧ lv_has ls 6 [(0, .ref (A 0)), (1, .int 0), (2, .int y), (3, .int (b2i (isDig (byt tp d f)))), (4, .int (numI tp f i)), (5, .int (nI (f + i)))]) ?_ (0) ⟨(by omega), hP, hD, hS, lv_sub hl [3, 4, 5, 2, 1, 0] rfl⟩
    rintro i H locs ls ⟨hi, hP, hD, hS, hl⟩ ih29
    try dsimp only at ih29 ⊢
    refine lv_iload hx hb dX4_number_29 (lv_at hl 5 rfl) ?_
    refine lv_aload_n hx hb dX4_number_31 rfl (lv_at hl 0 rfl) ?_
    refine va_get (ci := 4) (v := .int (nI (tkE tp d f))) hx hb hts wx_X4 hown hK hP 0 rfl rfl 10 (by decide) (hts _ wf_X4_219) (fun _ h9 => h9) rfl dX4_number_32 ?_
    refine lv_icmp_ge (tgt := 79) hx hb dX4_number_35 rfl (fun c35 => ?_) (fun c35 => ?_)
    · replace c35 := nq_le (a := (tkE tp d f)) (b := (f + i)) (by omega) (by omega) c35
      have hie : isDig (byt tp d f) = true → i = tkE tp d f - f := fun h9 => by omega
      refine lv_aload_n hx hb dX4_number_79 rfl (lv_at hl 0 rfl) ?_
      refine lv_iload hx hb dX4_number_80 (lv_at hl 4 rfl) ?_
      refine va_put (ci := 4) (v := .int (numI tp f i)) (ty := tyX4 11) hx hb hts wx_X4 tyX4 tyX4_ok nmX4 hown hK hP hD hS 0 rfl rfl 11 (by decide) (hts _ wf_X4_245) (fun _ h9 => h9) rfl (tyX4_ok 11 (by decide)) rfl rfl (Nat.le_of_ble_eq_true rfl) dX4_number_82 (fun H locs hP hD hS => ?_)
      have hP : va_P D vwCl (MW cI cJ A sS kS oS aS tS ik cA tp (nI d) (nI f) (nI (tkE tp d f)) (numI tp f i) 0 bO sO nU mV) H := hP
      have hD : va_D _ (MW cI cJ A sS kS oS aS tS ik cA tp (nI d) (nI f) (nI (tkE tp d f)) (numI tp f i) 0 bO sO nU mV) := hD
      refine lv_aload_n hx hb dX4_number_85 rfl (lv_at hl 0 rfl) ?_
      refine lv_iload_n hx hb dX4_number_86 rfl (lv_at hl 3 rfl) ?_
      refine lv_if_eq (tgt := 107) hx hb dX4_number_87 rfl (fun c87 => ?_) (fun c87 => ?_)
      · replace c87 := (b2i_0 _).mp c87
        refine lv_iconst (v := 0) hx hb dX4_number_107 rfl ?_
        refine mu_W (w := (MW cI cJ A sS kS oS aS tS ik cA tp (nI d) (nI f) (nI (tkE tp d f)) (numI tp f i) 0 bO sO nU mV)) (rest := []) S hK hP hD hS (k_X4_must_f d f hd (hf)) gv_X4_248 hd_X4_must ⟨Nat.le_of_ble_eq_true rfl, Nat.le_of_ble_eq_true rfl⟩ 4 rfl rfl rfl rfl hl.1 (lv_room (Nat.le_of_ble_eq_true rfl)) dX4_number_108 ⟨Nat.zero_le _, Nat.zero_le _⟩ (fun ov w' H locs hp hP hD hS => ?_)
        obtain ⟨rfl, rfl⟩ := hp
        refine W.eq (g2 := F0 m 111 ls []) rfl ?_
        exact mu_vret (MW cI cJ A sS kS oS aS tS ik cA tp (nI d) (nI f) (nI (tkE tp d f)) (numI tp f i) 1 bO sO nU mV) hx hb hr hlk hP hS rfl (⟨(numI tp f i), rfl, rfl⟩) dX4_number_111
      · replace c87 := b2i_n0 c87
        have hv : numI tp f i = numV tp d f := by rw [numV, ← hie c87]
        have hE : numI tp f i = numV tp d f := hv
        have hW : (MW cI cJ A sS kS oS aS tS ik cA tp (nI d) (nI f) (nI (tkE tp d f)) (numI tp f i) 0 bO sO nU mV) = (MW cI cJ A sS kS oS aS tS ik cA tp (nI d) (nI f) (nI (tkE tp d f)) (numV tp d f) 0 bO sO nU mV) := congrArg (fun z => (MW cI cJ A sS kS oS aS tS ik cA tp (nI d) (nI f) (nI (tkE tp d f)) z 0 bO sO nU mV)) hE
        have hP : va_P D vwCl (MW cI cJ A sS kS oS aS tS ik cA tp (nI d) (nI f) (nI (tkE tp d f)) (numV tp d f) 0 bO sO nU mV) H := Eq.mp (congrArg (fun z => va_P D vwCl z H) hW) hP
        have hD : va_D _ (MW cI cJ A sS kS oS aS tS ik cA tp (nI d) (nI f) (nI (tkE tp d f)) (numV tp d f) 0 bO sO nU mV) := Eq.mp (congrArg (fun z => va_D _ z) hW) hD
        rw [hv] at hl
        refine lv_iload hx hb dX4_number_90 (lv_at hl 4 rfl) ?_
        refine lv_i2l hx hb dX4_number_92 rfl ?_
        refine lv_iload_n hx hb dX4_number_93 rfl (lv_at hl 1 rfl) ?_
        refine lv_i2l hx hb dX4_number_94 rfl ?_
        refine lv_iload_n hx hb dX4_number_95 rfl (lv_at hl 2 rfl) ?_
        refine lv_i2l hx hb dX4_number_96 rfl ?_
        refine ro_S (w := []) (rest := [.ref (A 0)]) S hK va_P0 (k_X4_inI (numV tp d f) 0 y _ _ (rfl) (rfl)) gs_X4_49 hd_X4_in ⟨Nat.le_of_ble_eq_true rfl, Nat.le_of_ble_eq_true rfl⟩ rfl hl.1 (lv_room (Nat.le_of_ble_eq_true rfl)) dX4_number_97 ⟨Nat.zero_le _, Nat.zero_le _⟩ ?_
        refine lv_if_eq (tgt := 107) hx hb dX4_number_100 rfl (fun c100 => ?_) (fun c100 => ?_)
        · replace c100 := (b2i_0 _).mp c100
          refine lv_iconst (v := 0) hx hb dX4_number_107 rfl ?_
          refine mu_W (w := (MW cI cJ A sS kS oS aS tS ik cA tp (nI d) (nI f) (nI (tkE tp d f)) (numV tp d f) 0 bO sO nU mV)) (rest := []) S hK hP hD hS (k_X4_must_f d f hd (hf)) gv_X4_248 hd_X4_must ⟨Nat.le_of_ble_eq_true rfl, Nat.le_of_ble_eq_true rfl⟩ 4 rfl rfl rfl rfl hl.1 (lv_room (Nat.le_of_ble_eq_true rfl)) dX4_number_108 ⟨Nat.zero_le _, Nat.zero_le _⟩ (fun ov w' H locs hp hP hD hS => ?_)
          obtain ⟨rfl, rfl⟩ := hp
          refine W.eq (g2 := F0 m 111 ls []) rfl ?_
          exact mu_vret (MW cI cJ A sS kS oS aS tS ik cA tp (nI d) (nI f) (nI (tkE tp d f)) (numV tp d f) 1 bO sO nU mV) hx hb hr hlk hP hS rfl (⟨(numV tp d f), rfl, rfl⟩) dX4_number_111
        · replace c100 := b2i_n0 c100
          exact absurd (hn.symm.trans (by rw [numT, c87, show inI (numV tp d f) 0 y = true from c100])) (by decide)
    · replace c35 := nq_nle (a := (tkE tp d f)) (b := (f + i)) (by omega) (by omega) c35
      refine lv_iload_n hx hb dX4_number_38 rfl (lv_at hl 3 rfl) ?_
      refine lv_if_eq (tgt := 79) hx hb dX4_number_39 rfl (fun c39 => ?_) (fun c39 => ?_)
      · replace c39 := (b2i_0 _).mp c39
        have hie : isDig (byt tp d f) = true → i = tkE tp d f - f := fun h9 => by exact absurd (c39.symm.trans h9) (by decide)
        refine lv_aload_n hx hb dX4_number_79 rfl (lv_at hl 0 rfl) ?_
        refine lv_iload hx hb dX4_number_80 (lv_at hl 4 rfl) ?_
        refine va_put (ci := 4) (v := .int (numI tp f i)) (ty := tyX4 11) hx hb hts wx_X4 tyX4 tyX4_ok nmX4 hown hK hP hD hS 0 rfl rfl 11 (by decide) (hts _ wf_X4_245) (fun _ h9 => h9) rfl (tyX4_ok 11 (by decide)) rfl rfl (Nat.le_of_ble_eq_true rfl) dX4_number_82 (fun H locs hP hD hS => ?_)
        have hP : va_P D vwCl (MW cI cJ A sS kS oS aS tS ik cA tp (nI d) (nI f) (nI (tkE tp d f)) (numI tp f i) 0 bO sO nU mV) H := hP
        have hD : va_D _ (MW cI cJ A sS kS oS aS tS ik cA tp (nI d) (nI f) (nI (tkE tp d f)) (numI tp f i) 0 bO sO nU mV) := hD
        refine lv_aload_n hx hb dX4_number_85 rfl (lv_at hl 0 rfl) ?_
        refine lv_iload_n hx hb dX4_number_86 rfl (lv_at hl 3 rfl) ?_
        refine lv_if_eq (tgt := 107) hx hb dX4_number_87 rfl (fun c87 => ?_) (fun c87 => ?_)
        · replace c87 := (b2i_0 _).mp c87
          refine lv_iconst (v := 0) hx hb dX4_number_107 rfl ?_
          refine mu_W (w := (MW cI cJ A sS kS oS aS tS ik cA tp (nI d) (nI f) (nI (tkE tp d f)) (numI tp f i) 0 bO sO nU mV)) (rest := []) S hK hP hD hS (k_X4_must_f d f hd (hf)) gv_X4_248 hd_X4_must ⟨Nat.le_of_ble_eq_true rfl, Nat.le_of_ble_eq_true rfl⟩ 4 rfl rfl rfl rfl hl.1 (lv_room (Nat.le_of_ble_eq_true rfl)) dX4_number_108 ⟨Nat.zero_le _, Nat.zero_le _⟩ (fun ov w' H locs hp hP hD hS => ?_)
          obtain ⟨rfl, rfl⟩ := hp
          refine W.eq (g2 := F0 m 111 ls []) rfl ?_
          exact mu_vret (MW cI cJ A sS kS oS aS tS ik cA tp (nI d) (nI f) (nI (tkE tp d f)) (numI tp f i) 1 bO sO nU mV) hx hb hr hlk hP hS rfl (⟨(numI tp f i), rfl, rfl⟩) dX4_number_111
        · replace c87 := b2i_n0 c87
          have hv : numI tp f i = numV tp d f := by rw [numV, ← hie c87]
          have hE : numI tp f i = numV tp d f := hv
          have hW : (MW cI cJ A sS kS oS aS tS ik cA tp (nI d) (nI f) (nI (tkE tp d f)) (numI tp f i) 0 bO sO nU mV) = (MW cI cJ A sS kS oS aS tS ik cA tp (nI d) (nI f) (nI (tkE tp d f)) (numV tp d f) 0 bO sO nU mV) := congrArg (fun z => (MW cI cJ A sS kS oS aS tS ik cA tp (nI d) (nI f) (nI (tkE tp d f)) z 0 bO sO nU mV)) hE
          have hP : va_P D vwCl (MW cI cJ A sS kS oS aS tS ik cA tp (nI d) (nI f) (nI (tkE tp d f)) (numV tp d f) 0 bO sO nU mV) H := Eq.mp (congrArg (fun z => va_P D vwCl z H) hW) hP
          have hD : va_D _ (MW cI cJ A sS kS oS aS tS ik cA tp (nI d) (nI f) (nI (tkE tp d f)) (numV tp d f) 0 bO sO nU mV) := Eq.mp (congrArg (fun z => va_D _ z) hW) hD
          rw [hv] at hl
          refine lv_iload hx hb dX4_number_90 (lv_at hl 4 rfl) ?_
          refine lv_i2l hx hb dX4_number_92 rfl ?_
          refine lv_iload_n hx hb dX4_number_93 rfl (lv_at hl 1 rfl) ?_
          refine lv_i2l hx hb dX4_number_94 rfl ?_
          refine lv_iload_n hx hb dX4_number_95 rfl (lv_at hl 2 rfl) ?_
          refine lv_i2l hx hb dX4_number_96 rfl ?_
          refine ro_S (w := []) (rest := [.ref (A 0)]) S hK va_P0 (k_X4_inI (numV tp d f) 0 y _ _ (rfl) (rfl)) gs_X4_49 hd_X4_in ⟨Nat.le_of_ble_eq_true rfl, Nat.le_of_ble_eq_true rfl⟩ rfl hl.1 (lv_room (Nat.le_of_ble_eq_true rfl)) dX4_number_97 ⟨Nat.zero_le _, Nat.zero_le _⟩ ?_
          refine lv_if_eq (tgt := 107) hx hb dX4_number_100 rfl (fun c100 => ?_) (fun c100 => ?_)
          · replace c100 := (b2i_0 _).mp c100
            refine lv_iconst (v := 0) hx hb dX4_number_107 rfl ?_
            refine mu_W (w := (MW cI cJ A sS kS oS aS tS ik cA tp (nI d) (nI f) (nI (tkE tp d f)) (numV tp d f) 0 bO sO nU mV)) (rest := []) S hK hP hD hS (k_X4_must_f d f hd (hf)) gv_X4_248 hd_X4_must ⟨Nat.le_of_ble_eq_true rfl, Nat.le_of_ble_eq_true rfl⟩ 4 rfl rfl rfl rfl hl.1 (lv_room (Nat.le_of_ble_eq_true rfl)) dX4_number_108 ⟨Nat.zero_le _, Nat.zero_le _⟩ (fun ov w' H locs hp hP hD hS => ?_)
            obtain ⟨rfl, rfl⟩ := hp
            refine W.eq (g2 := F0 m 111 ls []) rfl ?_
            exact mu_vret (MW cI cJ A sS kS oS aS tS ik cA tp (nI d) (nI f) (nI (tkE tp d f)) (numV tp d f) 1 bO sO nU mV) hx hb hr hlk hP hS rfl (⟨(numV tp d f), rfl, rfl⟩) dX4_number_111
          · replace c100 := b2i_n0 c100
            exact absurd (hn.symm.trans (by rw [numT, c87, show inI (numV tp d f) 0 y = true from c100])) (by decide)
      · replace c39 := b2i_n0 c39
        refine lv_iload hx hb dX4_number_42 (lv_at hl 4 rfl) ?_
        refine lv_sipush (v := 999) hx hb dX4_number_44 rfl ?_
        refine lv_icmp_le (tgt := 55) hx hb dX4_number_47 rfl (fun c47 => ?_) (fun c47 => ?_)
        · refine lv_bipush (v := 10) hx hb dX4_number_55 rfl ?_
          refine lv_iload hx hb dX4_number_57 (lv_at hl 4 rfl) ?_
          refine lv_imul hx hb dX4_number_59 ?_
          refine lv_aload_n hx hb dX4_number_60 rfl (lv_at hl 0 rfl) ?_
          refine va_get (ci := 4) (v := .ref (A 7)) hx hb hts wx_X4 hown hK hP 0 rfl rfl 7 (by decide) (hts _ wf_X4_28) (fun _ h9 => h9) rfl dX4_number_61 ?_
          refine lv_iload hx hb dX4_number_64 (lv_at hl 5 rfl) ?_
          refine ia_ld hx hb hK hP 7 0 rfl rfl (f + i) (rfl) (by omega) (by decide) dX4_number_66 ?_
          refine lv_iadd hx hb dX4_number_67 ?_
          refine lv_bipush (v := 48) hx hb dX4_number_68 rfl ?_
          refine lv_isub hx hb dX4_number_70 ?_
          refine w_i (z := numI tp f (i + 1)) (num_t c47) ?_
          refine lv_istore (lv' := [(4, .int (numI tp f (i + 1))), (0, .ref (A 0)), (1, .int 0), (2, .int y), (3, .int (b2i (isDig (byt tp d f)))), (5, .int (nI (f + i)))]) hx hb dX4_number_71 hl (by decide) rfl (fun ls hl => ?_)
          refine lv_iinc (v := nI (f + (i + 1))) (lv' := [(5, .int (nI (f + (i + 1)))), (4, .int (numI tp f (i + 1))), (0, .ref (A 0)), (1, .int 0), (2, .int y), (3, .int (b2i (isDig (byt tp d f))))]) hx hb dX4_number_73 hl (k := 5) rfl (nI_inc (f + i)) (by decide) rfl (fun ls hl => ?_)
          refine lv_goto (tgt := 29) hx hb dX4_number_76 rfl ?_
          exact ih29 (i + 1) _ _ ls (by first | omega | (dsimp only; omega)) ⟨(by omega), hP, hD, hS, lv_sub hl [2, 3, 4, 5, 1, 0] rfl⟩
        · refine lv_iload hx hb dX4_number_50 (lv_at hl 4 rfl) ?_
          refine lv_goto (tgt := 71) hx hb dX4_number_52 rfl ?_
          refine w_i (z := numI tp f (i + 1)) (num_f c47) ?_
          refine lv_istore (lv' := [(4, .int (numI tp f (i + 1))), (0, .ref (A 0)), (1, .int 0), (2, .int y), (3, .int (b2i (isDig (byt tp d f)))), (5, .int (nI (f + i)))]) hx hb dX4_number_71 hl (by decide) rfl (fun ls hl => ?_)
          refine lv_iinc (v := nI (f + (i + 1))) (lv' := [(5, .int (nI (f + (i + 1)))), (4, .int (numI tp f (i + 1))), (0, .ref (A 0)), (1, .int 0), (2, .int y), (3, .int (b2i (isDig (byt tp d f))))]) hx hb dX4_number_73 hl (k := 5) rfl (nI_inc (f + i)) (by decide) rfl (fun ls hl => ?_)
          refine lv_goto (tgt := 29) hx hb dX4_number_76 rfl ?_
          exact ih29 (i + 1) _ _ ls (by first | omega | (dsimp only; omega)) ⟨(by omega), hP, hD, hS, lv_sub hl [2, 3, 4, 5, 1, 0] rfl⟩
  · exact absurd c4 (by decide)

set_option maxHeartbeats 4000000 in
set_option maxRecDepth 100000 in
theorem k_X4_number_w (x : Int32) (y : Int32) : MU l D (tyA cI cJ cO) yX4_number cX4_number 6 none 4 88 [.ref (A 0), .int x, .int y] (MW cI cJ A sS kS oS aS tS ik cA tp td fm tt vl 1 bO sO nU mV) (fun ov w' => ov = none ∧ w' = (MW cI cJ A sS kS oS aS tS ik cA tp td fm tt vl 1 bO sO nU mV)) := by
  refine MU.mk (by decide) (Nat.le_of_ble_eq_true rfl) ?_
  intro p e s m below meth c ls S hr hlk hP hK hD hS hl
  have S : CallFix p m c cX4_number 6 s _ WL RX4 := S
  obtain ⟨hx, hb, hml, hown, hts⟩ := id S
  have hl : lv_has ls 6 [(0, .ref (A 0)), (1, .int x), (2, .int y)] := hl
  refine lv_aload_n hx hb dX4_number_0 rfl (lv_at hl 0 rfl) ?_
  refine va_get (ci := 4) (v := .int 1) hx hb hts wx_X4 hown hK hP 0 rfl rfl 12 (by decide) (hts _ wf_X4_234) (fun _ h9 => h9) rfl dX4_number_1 ?_
  refine lv_if_eq (tgt := 8) hx hb dX4_number_4 rfl (fun c4 => ?_) (fun c4 => ?_)
  · exact absurd c4 (by decide)
  · exact mu_vret (MW cI cJ A sS kS oS aS tS ik cA tp td fm tt vl 1 bO sO nU mV) hx hb hr hlk hP hS rfl (⟨rfl, rfl⟩) dX4_number_7

set_option maxHeartbeats 4000000 in
set_option maxRecDepth 100000 in
theorem k_X4_kindHere_t (d : Nat) (f : Nat) (hd : d ≤ 120) (hf : f ≤ d) : RO l D (tyA cI cJ cO) yX4_kindHere cX4_kindHere 3 ((some .int)) 3 68 [.ref (A 0)] (MW cI cJ A sS kS oS aS tS ik cA tp (nI d) (nI f) (nI (tkE tp d f)) vl 0 bO sO nU mV) (.int (kindS tp d f)) := by
  refine RO.mk (by decide) (Nat.le_of_ble_eq_true rfl) ?_
  intro p e s m below meth c ls S hr hlk hP hK hl
  have S : CallFix p m c cX4_kindHere 3 s _ WL RX4 := S
  obtain ⟨hx, hb, hml, hown, hts⟩ := id S
  have hl : lv_has ls 3 [(0, .ref (A 0))] := hl
  refine lv_aload_n hx hb dX4_kindHere_0 rfl (lv_at hl 0 rfl) ?_
  refine ro_V (w := (MW cI cJ A sS kS oS aS tS ik cA tp (nI d) (nI f) (nI (tkE tp d f)) vl 0 bO sO nU mV)) (rest := []) S hK hP (k_X4_word_t d f hd (hf)) gv_X4_252 hd_X4_word ⟨Nat.le_of_ble_eq_true rfl, Nat.le_of_ble_eq_true rfl⟩ 4 rfl rfl rfl rfl hl.1 (lv_room (Nat.le_of_ble_eq_true rfl)) dX4_kindHere_1 ⟨Nat.zero_le _, Nat.zero_le _⟩ ?_
  refine lv_lstore_n (lv' := [(1, .long (wrdL tp d f)), (0, .ref (A 0))]) hx hb dX4_kindHere_4 rfl hl (by decide) rfl (fun ls hl => ?_)
  refine lv_lload_n hx hb dX4_kindHere_5 rfl (lv_at hl 0 rfl) ?_
  refine lv_ldc2 (v := 647647410) hx hb hown (hts _ wq_X4_256) dX4_kindHere_6 ?_
  refine W.lcmp hx hb dX4_kindHere_9 ?_
  refine lv_if_ne (tgt := 17) hx hb dX4_kindHere_10 rfl (fun c10 => ?_) (fun c10 => ?_)
  · replace c10 := lc_neq c10
    replace c10 := wd_no 0 647647410 (by decide) (by decide) c10
    refine lv_lload_n hx hb dX4_kindHere_17 rfl (lv_at hl 0 rfl) ?_
    refine lv_ldc2 (v := 13690354) hx hb hown (hts _ wq_X4_258) dX4_kindHere_18 ?_
    refine W.lcmp hx hb dX4_kindHere_21 ?_
    refine lv_if_ne (tgt := 29) hx hb dX4_kindHere_22 rfl (fun c22 => ?_) (fun c22 => ?_)
    · replace c22 := lc_neq c22
      replace c22 := wd_no 1 13690354 (by decide) (by decide) c22
      refine lv_lload_n hx hb dX4_kindHere_29 rfl (lv_at hl 0 rfl) ?_
      refine lv_ldc2 (v := 763077) hx hb hown (hts _ wq_X4_260) dX4_kindHere_30 ?_
      refine W.lcmp hx hb dX4_kindHere_33 ?_
      refine lv_if_ne (tgt := 41) hx hb dX4_kindHere_34 rfl (fun c34 => ?_) (fun c34 => ?_)
      · replace c34 := lc_neq c34
        replace c34 := wd_no 2 763077 (by decide) (by decide) c34
        refine lv_lload_n hx hb dX4_kindHere_41 rfl (lv_at hl 0 rfl) ?_
        refine lv_ldc2 (v := 211394738) hx hb hown (hts _ wq_X4_262) dX4_kindHere_42 ?_
        refine W.lcmp hx hb dX4_kindHere_45 ?_
        refine lv_if_ne (tgt := 53) hx hb dX4_kindHere_46 rfl (fun c46 => ?_) (fun c46 => ?_)
        · replace c46 := lc_neq c46
          replace c46 := wd_no 3 211394738 (by decide) (by decide) c46
          refine lv_lload_n hx hb dX4_kindHere_53 rfl (lv_at hl 0 rfl) ?_
          refine lv_ldc2 (v := 47384704046) hx hb hown (hts _ wq_X4_264) dX4_kindHere_54 ?_
          refine W.lcmp hx hb dX4_kindHere_57 ?_
          refine lv_if_ne (tgt := 65) hx hb dX4_kindHere_58 rfl (fun c58 => ?_) (fun c58 => ?_)
          · replace c58 := lc_neq c58
            replace c58 := wd_no 4 47384704046 (by decide) (by decide) c58
            refine lv_lload_n hx hb dX4_kindHere_65 rfl (lv_at hl 0 rfl) ?_
            refine lv_ldc2 (v := 267300) hx hb hown (hts _ wq_X4_266) dX4_kindHere_66 ?_
            refine W.lcmp hx hb dX4_kindHere_69 ?_
            refine lv_if_ne (tgt := 77) hx hb dX4_kindHere_70 rfl (fun c70 => ?_) (fun c70 => ?_)
            · replace c70 := lc_neq c70
              replace c70 := wd_no 5 267300 (by decide) (by decide) c70
              refine lv_iconst (v := (-1)) hx hb dX4_kindHere_77 rfl ?_
              exact ro_iret hx hb hr hlk (by simp [kindS, c10, c22, c34, c46, c58, c70]) dX4_kindHere_78
            · replace c70 := lc_eq c70
              replace c70 := (wd_iff 5 267300 (by decide) (by decide)).mp c70
              refine lv_iconst (v := 5) hx hb dX4_kindHere_73 rfl ?_
              refine lv_goto (tgt := 78) hx hb dX4_kindHere_74 rfl ?_
              exact ro_iret hx hb hr hlk (by simp [kindS, c10, c22, c34, c46, c58, c70]) dX4_kindHere_78
          · replace c58 := lc_eq c58
            replace c58 := (wd_iff 4 47384704046 (by decide) (by decide)).mp c58
            refine lv_iconst (v := 4) hx hb dX4_kindHere_61 rfl ?_
            refine lv_goto (tgt := 78) hx hb dX4_kindHere_62 rfl ?_
            exact ro_iret hx hb hr hlk (by simp [kindS, c10, c22, c34, c46, c58]) dX4_kindHere_78
        · replace c46 := lc_eq c46
          replace c46 := (wd_iff 3 211394738 (by decide) (by decide)).mp c46
          refine lv_iconst (v := 3) hx hb dX4_kindHere_49 rfl ?_
          refine lv_goto (tgt := 78) hx hb dX4_kindHere_50 rfl ?_
          exact ro_iret hx hb hr hlk (by simp [kindS, c10, c22, c34, c46]) dX4_kindHere_78
      · replace c34 := lc_eq c34
        replace c34 := (wd_iff 2 763077 (by decide) (by decide)).mp c34
        refine lv_iconst (v := 2) hx hb dX4_kindHere_37 rfl ?_
        refine lv_goto (tgt := 78) hx hb dX4_kindHere_38 rfl ?_
        exact ro_iret hx hb hr hlk (by simp [kindS, c10, c22, c34]) dX4_kindHere_78
    · replace c22 := lc_eq c22
      replace c22 := (wd_iff 1 13690354 (by decide) (by decide)).mp c22
      refine lv_iconst (v := 1) hx hb dX4_kindHere_25 rfl ?_
      refine lv_goto (tgt := 78) hx hb dX4_kindHere_26 rfl ?_
      exact ro_iret hx hb hr hlk (by simp [kindS, c10, c22]) dX4_kindHere_78
  · replace c10 := lc_eq c10
    replace c10 := (wd_iff 0 647647410 (by decide) (by decide)).mp c10
    refine lv_iconst (v := 0) hx hb dX4_kindHere_13 rfl ?_
    refine lv_goto (tgt := 78) hx hb dX4_kindHere_14 rfl ?_
    exact ro_iret hx hb hr hlk (by simp [kindS, c10]) dX4_kindHere_78

set_option maxHeartbeats 4000000 in
set_option maxRecDepth 100000 in
theorem k_X4_kindHere_w (d : Nat) (f : Nat) (hd : d ≤ 120) (hf : f ≤ d) : RO l D (tyA cI cJ cO) yX4_kindHere cX4_kindHere 3 ((some .int)) 3 68 [.ref (A 0)] (MW cI cJ A sS kS oS aS tS ik cA tp (nI d) (nI f) (nI (tkE tp d f)) vl 1 bO sO nU mV) (.int (-1)) := by
  refine RO.mk (by decide) (Nat.le_of_ble_eq_true rfl) ?_
  intro p e s m below meth c ls S hr hlk hP hK hl
  have S : CallFix p m c cX4_kindHere 3 s _ WL RX4 := S
  obtain ⟨hx, hb, hml, hown, hts⟩ := id S
  have hl : lv_has ls 3 [(0, .ref (A 0))] := hl
  refine lv_aload_n hx hb dX4_kindHere_0 rfl (lv_at hl 0 rfl) ?_
  refine ro_V (w := (MW cI cJ A sS kS oS aS tS ik cA tp (nI d) (nI f) (nI (tkE tp d f)) vl 1 bO sO nU mV)) (rest := []) S hK hP (k_X4_word_w d f hd (hf)) gv_X4_252 hd_X4_word ⟨Nat.le_of_ble_eq_true rfl, Nat.le_of_ble_eq_true rfl⟩ 4 rfl rfl rfl rfl hl.1 (lv_room (Nat.le_of_ble_eq_true rfl)) dX4_kindHere_1 ⟨Nat.zero_le _, Nat.zero_le _⟩ ?_
  refine lv_lstore_n (lv' := [(1, .long 0), (0, .ref (A 0))]) hx hb dX4_kindHere_4 rfl hl (by decide) rfl (fun ls hl => ?_)
  refine lv_lload_n hx hb dX4_kindHere_5 rfl (lv_at hl 0 rfl) ?_
  refine lv_ldc2 (v := 647647410) hx hb hown (hts _ wq_X4_256) dX4_kindHere_6 ?_
  refine W.lcmp hx hb dX4_kindHere_9 ?_
  refine lv_if_ne (tgt := 17) hx hb dX4_kindHere_10 rfl (fun c10 => ?_) (fun c10 => ?_)
  · replace c10 := lc_neq c10
    refine lv_lload_n hx hb dX4_kindHere_17 rfl (lv_at hl 0 rfl) ?_
    refine lv_ldc2 (v := 13690354) hx hb hown (hts _ wq_X4_258) dX4_kindHere_18 ?_
    refine W.lcmp hx hb dX4_kindHere_21 ?_
    refine lv_if_ne (tgt := 29) hx hb dX4_kindHere_22 rfl (fun c22 => ?_) (fun c22 => ?_)
    · replace c22 := lc_neq c22
      refine lv_lload_n hx hb dX4_kindHere_29 rfl (lv_at hl 0 rfl) ?_
      refine lv_ldc2 (v := 763077) hx hb hown (hts _ wq_X4_260) dX4_kindHere_30 ?_
      refine W.lcmp hx hb dX4_kindHere_33 ?_
      refine lv_if_ne (tgt := 41) hx hb dX4_kindHere_34 rfl (fun c34 => ?_) (fun c34 => ?_)
      · replace c34 := lc_neq c34
        refine lv_lload_n hx hb dX4_kindHere_41 rfl (lv_at hl 0 rfl) ?_
        refine lv_ldc2 (v := 211394738) hx hb hown (hts _ wq_X4_262) dX4_kindHere_42 ?_
        refine W.lcmp hx hb dX4_kindHere_45 ?_
        refine lv_if_ne (tgt := 53) hx hb dX4_kindHere_46 rfl (fun c46 => ?_) (fun c46 => ?_)
        · replace c46 := lc_neq c46
          refine lv_lload_n hx hb dX4_kindHere_53 rfl (lv_at hl 0 rfl) ?_
          refine lv_ldc2 (v := 47384704046) hx hb hown (hts _ wq_X4_264) dX4_kindHere_54 ?_
          refine W.lcmp hx hb dX4_kindHere_57 ?_
          refine lv_if_ne (tgt := 65) hx hb dX4_kindHere_58 rfl (fun c58 => ?_) (fun c58 => ?_)
          · replace c58 := lc_neq c58
            refine lv_lload_n hx hb dX4_kindHere_65 rfl (lv_at hl 0 rfl) ?_
            refine lv_ldc2 (v := 267300) hx hb hown (hts _ wq_X4_266) dX4_kindHere_66 ?_
            refine W.lcmp hx hb dX4_kindHere_69 ?_
            refine lv_if_ne (tgt := 77) hx hb dX4_kindHere_70 rfl (fun c70 => ?_) (fun c70 => ?_)
            · replace c70 := lc_neq c70
              refine lv_iconst (v := (-1)) hx hb dX4_kindHere_77 rfl ?_
              exact ro_iret hx hb hr hlk (rfl) dX4_kindHere_78
            · replace c70 := lc_eq c70
              exact absurd c70 (by decide)
          · replace c58 := lc_eq c58
            exact absurd c58 (by decide)
        · replace c46 := lc_eq c46
          exact absurd c46 (by decide)
      · replace c34 := lc_eq c34
        exact absurd c34 (by decide)
    · replace c22 := lc_eq c22
      exact absurd c22 (by decide)
  · replace c10 := lc_eq c10
    exact absurd c10 (by decide)

set_option maxHeartbeats 4000000 in
set_option maxRecDepth 100000 in
theorem k_X4_wantHere_t (d : Nat) (f : Nat) (hd : d ≤ 120) (hf : f ≤ d) : RO l D (tyA cI cJ cO) yX4_wantHere cX4_wantHere 3 ((some .int)) 3 68 [.ref (A 0)] (MW cI cJ A sS kS oS aS tS ik cA tp (nI d) (nI f) (nI (tkE tp d f)) vl 0 bO sO nU mV) (.int (wantS tp d f)) := by
  refine RO.mk (by decide) (Nat.le_of_ble_eq_true rfl) ?_
  intro p e s m below meth c ls S hr hlk hP hK hl
  have S : CallFix p m c cX4_wantHere 3 s _ WL RX4 := S
  obtain ⟨hx, hb, hml, hown, hts⟩ := id S
  have hl : lv_has ls 3 [(0, .ref (A 0))] := hl
  refine lv_aload_n hx hb dX4_wantHere_0 rfl (lv_at hl 0 rfl) ?_
  refine ro_V (w := (MW cI cJ A sS kS oS aS tS ik cA tp (nI d) (nI f) (nI (tkE tp d f)) vl 0 bO sO nU mV)) (rest := []) S hK hP (k_X4_word_t d f hd (hf)) gv_X4_252 hd_X4_word ⟨Nat.le_of_ble_eq_true rfl, Nat.le_of_ble_eq_true rfl⟩ 4 rfl rfl rfl rfl hl.1 (lv_room (Nat.le_of_ble_eq_true rfl)) dX4_wantHere_1 ⟨Nat.zero_le _, Nat.zero_le _⟩ ?_
  refine lv_lstore_n (lv' := [(1, .long (wrdL tp d f)), (0, .ref (A 0))]) hx hb dX4_wantHere_4 rfl hl (by decide) rfl (fun ls hl => ?_)
  refine lv_lload_n hx hb dX4_wantHere_5 rfl (lv_at hl 0 rfl) ?_
  refine lv_ldc2 (v := 20685869234) hx hb hown (hts _ wq_X4_268) dX4_wantHere_6 ?_
  refine W.lcmp hx hb dX4_wantHere_9 ?_
  refine lv_if_ne (tgt := 17) hx hb dX4_wantHere_10 rfl (fun c10 => ?_) (fun c10 => ?_)
  · replace c10 := lc_neq c10
    replace c10 := wd_no 9 20685869234 (by decide) (by decide) c10
    refine lv_lload_n hx hb dX4_wantHere_17 rfl (lv_at hl 0 rfl) ?_
    refine lv_ldc2 (v := 475056306) hx hb hown (hts _ wq_X4_270) dX4_wantHere_18 ?_
    refine W.lcmp hx hb dX4_wantHere_21 ?_
    refine lv_if_ne (tgt := 29) hx hb dX4_wantHere_22 rfl (fun c22 => ?_) (fun c22 => ?_)
    · replace c22 := lc_neq c22
      replace c22 := wd_no 10 475056306 (by decide) (by decide) c22
      refine lv_lload_n hx hb dX4_wantHere_29 rfl (lv_at hl 0 rfl) ?_
      refine lv_ldc2 (v := 6495543474) hx hb hown (hts _ wq_X4_272) dX4_wantHere_30 ?_
      refine W.lcmp hx hb dX4_wantHere_33 ?_
      refine lv_if_ne (tgt := 41) hx hb dX4_wantHere_34 rfl (fun c34 => ?_) (fun c34 => ?_)
      · replace c34 := lc_neq c34
        replace c34 := wd_no 11 6495543474 (by decide) (by decide) c34
        refine lv_lload_n hx hb dX4_wantHere_41 rfl (lv_at hl 0 rfl) ?_
        refine lv_ldc2 (v := 132683) hx hb hown (hts _ wq_X4_274) dX4_wantHere_42 ?_
        refine W.lcmp hx hb dX4_wantHere_45 ?_
        refine lv_if_ne (tgt := 53) hx hb dX4_wantHere_46 rfl (fun c46 => ?_) (fun c46 => ?_)
        · replace c46 := lc_neq c46
          replace c46 := wd_no 12 132683 (by decide) (by decide) c46
          refine lv_lload_n hx hb dX4_wantHere_53 rfl (lv_at hl 0 rfl) ?_
          refine lv_ldc2 (v := 12596) hx hb hown (hts _ wq_X4_276) dX4_wantHere_54 ?_
          refine W.lcmp hx hb dX4_wantHere_57 ?_
          refine lv_if_ne (tgt := 65) hx hb dX4_wantHere_58 rfl (fun c58 => ?_) (fun c58 => ?_)
          · replace c58 := lc_neq c58
            replace c58 := wd_no 7 12596 (by decide) (by decide) c58
            refine lv_iconst (v := (-1)) hx hb dX4_wantHere_65 rfl ?_
            exact ro_iret hx hb hr hlk (by simp [wantS, c10, c22, c34, c46, c58]) dX4_wantHere_66
          · replace c58 := lc_eq c58
            replace c58 := (wd_iff 7 12596 (by decide) (by decide)).mp c58
            refine lv_iconst (v := 4) hx hb dX4_wantHere_61 rfl ?_
            refine lv_goto (tgt := 66) hx hb dX4_wantHere_62 rfl ?_
            exact ro_iret hx hb hr hlk (by simp [wantS, c10, c22, c34, c46, c58]) dX4_wantHere_66
        · replace c46 := lc_eq c46
          replace c46 := (wd_iff 12 132683 (by decide) (by decide)).mp c46
          refine lv_iconst (v := 3) hx hb dX4_wantHere_49 rfl ?_
          refine lv_goto (tgt := 66) hx hb dX4_wantHere_50 rfl ?_
          exact ro_iret hx hb hr hlk (by simp [wantS, c10, c22, c34, c46]) dX4_wantHere_66
      · replace c34 := lc_eq c34
        replace c34 := (wd_iff 11 6495543474 (by decide) (by decide)).mp c34
        refine lv_iconst (v := 2) hx hb dX4_wantHere_37 rfl ?_
        refine lv_goto (tgt := 66) hx hb dX4_wantHere_38 rfl ?_
        exact ro_iret hx hb hr hlk (by simp [wantS, c10, c22, c34]) dX4_wantHere_66
    · replace c22 := lc_eq c22
      replace c22 := (wd_iff 10 475056306 (by decide) (by decide)).mp c22
      refine lv_iconst (v := 1) hx hb dX4_wantHere_25 rfl ?_
      refine lv_goto (tgt := 66) hx hb dX4_wantHere_26 rfl ?_
      exact ro_iret hx hb hr hlk (by simp [wantS, c10, c22]) dX4_wantHere_66
  · replace c10 := lc_eq c10
    replace c10 := (wd_iff 9 20685869234 (by decide) (by decide)).mp c10
    refine lv_iconst (v := 0) hx hb dX4_wantHere_13 rfl ?_
    refine lv_goto (tgt := 66) hx hb dX4_wantHere_14 rfl ?_
    exact ro_iret hx hb hr hlk (by simp [wantS, c10]) dX4_wantHere_66

set_option maxHeartbeats 4000000 in
set_option maxRecDepth 100000 in
theorem k_X4_wantHere_w (d : Nat) (f : Nat) (hd : d ≤ 120) (hf : f ≤ d) : RO l D (tyA cI cJ cO) yX4_wantHere cX4_wantHere 3 ((some .int)) 3 68 [.ref (A 0)] (MW cI cJ A sS kS oS aS tS ik cA tp (nI d) (nI f) (nI (tkE tp d f)) vl 1 bO sO nU mV) (.int (-1)) := by
  refine RO.mk (by decide) (Nat.le_of_ble_eq_true rfl) ?_
  intro p e s m below meth c ls S hr hlk hP hK hl
  have S : CallFix p m c cX4_wantHere 3 s _ WL RX4 := S
  obtain ⟨hx, hb, hml, hown, hts⟩ := id S
  have hl : lv_has ls 3 [(0, .ref (A 0))] := hl
  refine lv_aload_n hx hb dX4_wantHere_0 rfl (lv_at hl 0 rfl) ?_
  refine ro_V (w := (MW cI cJ A sS kS oS aS tS ik cA tp (nI d) (nI f) (nI (tkE tp d f)) vl 1 bO sO nU mV)) (rest := []) S hK hP (k_X4_word_w d f hd (hf)) gv_X4_252 hd_X4_word ⟨Nat.le_of_ble_eq_true rfl, Nat.le_of_ble_eq_true rfl⟩ 4 rfl rfl rfl rfl hl.1 (lv_room (Nat.le_of_ble_eq_true rfl)) dX4_wantHere_1 ⟨Nat.zero_le _, Nat.zero_le _⟩ ?_
  refine lv_lstore_n (lv' := [(1, .long 0), (0, .ref (A 0))]) hx hb dX4_wantHere_4 rfl hl (by decide) rfl (fun ls hl => ?_)
  refine lv_lload_n hx hb dX4_wantHere_5 rfl (lv_at hl 0 rfl) ?_
  refine lv_ldc2 (v := 20685869234) hx hb hown (hts _ wq_X4_268) dX4_wantHere_6 ?_
  refine W.lcmp hx hb dX4_wantHere_9 ?_
  refine lv_if_ne (tgt := 17) hx hb dX4_wantHere_10 rfl (fun c10 => ?_) (fun c10 => ?_)
  · replace c10 := lc_neq c10
    refine lv_lload_n hx hb dX4_wantHere_17 rfl (lv_at hl 0 rfl) ?_
    refine lv_ldc2 (v := 475056306) hx hb hown (hts _ wq_X4_270) dX4_wantHere_18 ?_
    refine W.lcmp hx hb dX4_wantHere_21 ?_
    refine lv_if_ne (tgt := 29) hx hb dX4_wantHere_22 rfl (fun c22 => ?_) (fun c22 => ?_)
    · replace c22 := lc_neq c22
      refine lv_lload_n hx hb dX4_wantHere_29 rfl (lv_at hl 0 rfl) ?_
      refine lv_ldc2 (v := 6495543474) hx hb hown (hts _ wq_X4_272) dX4_wantHere_30 ?_
      refine W.lcmp hx hb dX4_wantHere_33 ?_
      refine lv_if_ne (tgt := 41) hx hb dX4_wantHere_34 rfl (fun c34 => ?_) (fun c34 => ?_)
      · replace c34 := lc_neq c34
        refine lv_lload_n hx hb dX4_wantHere_41 rfl (lv_at hl 0 rfl) ?_
        refine lv_ldc2 (v := 132683) hx hb hown (hts _ wq_X4_274) dX4_wantHere_42 ?_
        refine W.lcmp hx hb dX4_wantHere_45 ?_
        refine lv_if_ne (tgt := 53) hx hb dX4_wantHere_46 rfl (fun c46 => ?_) (fun c46 => ?_)
        · replace c46 := lc_neq c46
          refine lv_lload_n hx hb dX4_wantHere_53 rfl (lv_at hl 0 rfl) ?_
          refine lv_ldc2 (v := 12596) hx hb hown (hts _ wq_X4_276) dX4_wantHere_54 ?_
          refine W.lcmp hx hb dX4_wantHere_57 ?_
          refine lv_if_ne (tgt := 65) hx hb dX4_wantHere_58 rfl (fun c58 => ?_) (fun c58 => ?_)
          · replace c58 := lc_neq c58
            refine lv_iconst (v := (-1)) hx hb dX4_wantHere_65 rfl ?_
            exact ro_iret hx hb hr hlk (rfl) dX4_wantHere_66
          · replace c58 := lc_eq c58
            exact absurd c58 (by decide)
        · replace c46 := lc_eq c46
          exact absurd c46 (by decide)
      · replace c34 := lc_eq c34
        exact absurd c34 (by decide)
    · replace c22 := lc_eq c22
      exact absurd c22 (by decide)
  · replace c10 := lc_eq c10
    exact absurd c10 (by decide)

end
