section
variable {l : Launch} {D : va_G} {cI cJ cO : ClassId} {kA vA : Nat → Nat} {oB : Option Nat} {h q : Nat} {tp : Nat → Int32} {tk bg en va tn : Int32}

set_option maxHeartbeats 4000000 in
set_option maxRecDepth 100000 in
theorem k_X2_byteAt (d : Nat) (k : Nat) (hd : d ≤ 120) (hk : k ≤ 1000) : RO l D (tyA cI cJ cO) yX2_byteAt cX2_byteAt 2 ((some .int)) 0 0 [.ref h, .int (nI k)] (TW cI h q (nI d) tp tk bg en va tn) (.int (byt tp d k)) := by
  refine RO.mk (by decide) (Nat.le_of_ble_eq_true rfl) ?_
  intro p e s m below meth c ls S hr hlk hP hK hl
  have S : CallFix p m c cX2_byteAt 2 s _ WL RX2 := S
  obtain ⟨hx, hb, hml, hown, hts⟩ := id S
  have hl : lv_has ls 2 [(0, .ref h), (1, .int (nI k))] := hl
  refine lv_iload_n hx hb dX2_byteAt_0 rfl (lv_at hl 1 rfl) ?_
  refine lv_if_lt (tgt := 27) hx hb dX2_byteAt_1 rfl (fun c1 => ?_) (fun c1 => ?_)
  · exact absurd c1 (nI_pos (by omega))
  · refine lv_iload_n hx hb dX2_byteAt_4 rfl (lv_at hl 1 rfl) ?_
    refine lv_aload_n hx hb dX2_byteAt_5 rfl (lv_at hl 0 rfl) ?_
    refine va_get (ci := 2) (v := .int (nI d)) hx hb hts wx_X2 hown hK hP 0 rfl rfl 0 (by decide) (hts _ wf_X2_9) (fun _ h9 => h9) rfl dX2_byteAt_6 ?_
    refine lv_icmp_ge (tgt := 27) hx hb dX2_byteAt_9 rfl (fun c9 => ?_) (fun c9 => ?_)
    · replace c9 := nq_le (a := d) (b := k) (by omega) (by omega) c9
      refine lv_iconst (v := (-1)) hx hb dX2_byteAt_27 rfl ?_
      exact ro_iret hx hb hr hlk ((byt_ge (by omega)).symm) dX2_byteAt_28
    · replace c9 := nq_nle (a := d) (b := k) (by omega) (by omega) c9
      refine lv_iload_n hx hb dX2_byteAt_12 rfl (lv_at hl 1 rfl) ?_
      refine lv_bipush (v := 120) hx hb dX2_byteAt_13 rfl ?_
      refine lv_icmp_ge (tgt := 27) hx hb dX2_byteAt_15 rfl (fun c15 => ?_) (fun c15 => ?_)
      · replace c15 := nq_le (a := 120) (b := k) (by omega) (by omega) c15
        refine lv_iconst (v := (-1)) hx hb dX2_byteAt_27 rfl ?_
        exact ro_iret hx hb hr hlk ((byt_ge (by omega)).symm) dX2_byteAt_28
      · replace c15 := nq_nle (a := 120) (b := k) (by omega) (by omega) c15
        refine lv_aload_n hx hb dX2_byteAt_18 rfl (lv_at hl 0 rfl) ?_
        refine va_get (ci := 2) (v := .ref q) hx hb hts wx_X2 hown hK hP 0 rfl rfl 1 (by decide) (hts _ wf_X2_15) (fun _ h9 => h9) rfl dX2_byteAt_19 ?_
        refine lv_iload_n hx hb dX2_byteAt_22 rfl (lv_at hl 1 rfl) ?_
        refine ia_ld hx hb hK hP 1 0 rfl rfl k (rfl) (by omega) (by decide) dX2_byteAt_23 ?_
        refine lv_goto (tgt := 28) hx hb dX2_byteAt_24 rfl ?_
        exact ro_iret hx hb hr hlk ((byt_lt (by omega)).symm) dX2_byteAt_28

set_option maxHeartbeats 4000000 in
set_option maxRecDepth 100000 in
theorem k_X2_tokenOf (b : Int32) : RO l D (tyA cI cJ cO) yX2_tokenOf cX2_tokenOf 1 ((some .int)) 0 0 [.int b] [] (.int (tokC b)) := by
  refine RO.mk (by decide) (Nat.le_of_ble_eq_true rfl) ?_
  intro p e s m below meth c ls S hr hlk hP hK hl
  have S : CallFix p m c cX2_tokenOf 1 s _ WL RX2 := S
  obtain ⟨hx, hb, hml, hown, hts⟩ := id S
  have hl : lv_has ls 1 [(0, .int b)] := hl
  refine lv_iload_n hx hb dX2_tokenOf_0 rfl (lv_at hl 0 rfl) ?_
  refine lv_if_ge (tgt := 6) hx hb dX2_tokenOf_1 rfl (fun c1 => ?_) (fun c1 => ?_)
  · refine lv_iload_n hx hb dX2_tokenOf_6 rfl (lv_at hl 0 rfl) ?_
    refine lv_bipush (v := 97) hx hb dX2_tokenOf_7 rfl ?_
    refine lv_icmp_lt (tgt := 20) hx hb dX2_tokenOf_9 rfl (fun c9 => ?_) (fun c9 => ?_)
    · replace c9 := Int32.not_le.mpr c9
      refine lv_iload_n hx hb dX2_tokenOf_20 rfl (lv_at hl 0 rfl) ?_
      refine lv_bipush (v := 48) hx hb dX2_tokenOf_21 rfl ?_
      refine lv_icmp_lt (tgt := 34) hx hb dX2_tokenOf_23 rfl (fun c23 => ?_) (fun c23 => ?_)
      · replace c23 := Int32.not_le.mpr c23
        refine lv_iload_n hx hb dX2_tokenOf_34 rfl (lv_at hl 0 rfl) ?_
        refine lv_bipush (v := 59) hx hb dX2_tokenOf_35 rfl ?_
        refine lv_icmp_ne (tgt := 44) hx hb dX2_tokenOf_37 rfl (fun c37 => ?_) (fun c37 => ?_)
        · refine lv_iconst (v := 4) hx hb dX2_tokenOf_44 rfl ?_
          exact ro_iret hx hb hr hlk (by simp [tokC, isLet, isDig, inI, c1, c9, c23, c37, i_lt, -Int32.not_le, -Int32.not_lt]) dX2_tokenOf_45
        · refine lv_iconst (v := 3) hx hb dX2_tokenOf_40 rfl ?_
          refine lv_goto (tgt := 45) hx hb dX2_tokenOf_41 rfl ?_
          exact ro_iret hx hb hr hlk (by simp [tokC, isLet, isDig, inI, c1, c9, c23, c37, i_lt, -Int32.not_le, -Int32.not_lt]) dX2_tokenOf_45
      · replace c23 := Int32.not_lt.mp c23
        refine lv_iload_n hx hb dX2_tokenOf_26 rfl (lv_at hl 0 rfl) ?_
        refine lv_bipush (v := 57) hx hb dX2_tokenOf_27 rfl ?_
        refine lv_icmp_gt (tgt := 34) hx hb dX2_tokenOf_29 rfl (fun c29 => ?_) (fun c29 => ?_)
        · replace c29 := Int32.not_le.mpr c29
          refine lv_iload_n hx hb dX2_tokenOf_34 rfl (lv_at hl 0 rfl) ?_
          refine lv_bipush (v := 59) hx hb dX2_tokenOf_35 rfl ?_
          refine lv_icmp_ne (tgt := 44) hx hb dX2_tokenOf_37 rfl (fun c37 => ?_) (fun c37 => ?_)
          · refine lv_iconst (v := 4) hx hb dX2_tokenOf_44 rfl ?_
            exact ro_iret hx hb hr hlk (by simp [tokC, isLet, isDig, inI, c1, c9, c23, c29, c37, i_lt, -Int32.not_le, -Int32.not_lt]) dX2_tokenOf_45
          · refine lv_iconst (v := 3) hx hb dX2_tokenOf_40 rfl ?_
            refine lv_goto (tgt := 45) hx hb dX2_tokenOf_41 rfl ?_
            exact ro_iret hx hb hr hlk (by simp [tokC, isLet, isDig, inI, c1, c9, c23, c29, c37, i_lt, -Int32.not_le, -Int32.not_lt]) dX2_tokenOf_45
        · replace c29 := Int32.not_lt.mp c29
          refine lv_iconst (v := 2) hx hb dX2_tokenOf_32 rfl ?_
          exact ro_iret hx hb hr hlk (by simp [tokC, isLet, isDig, inI, c1, c9, c23, c29, i_lt, -Int32.not_le, -Int32.not_lt]) dX2_tokenOf_33
    · replace c9 := Int32.not_lt.mp c9
      refine lv_iload_n hx hb dX2_tokenOf_12 rfl (lv_at hl 0 rfl) ?_
      refine lv_bipush (v := 122) hx hb dX2_tokenOf_13 rfl ?_
      refine lv_icmp_gt (tgt := 20) hx hb dX2_tokenOf_15 rfl (fun c15 => ?_) (fun c15 => ?_)
      · replace c15 := Int32.not_le.mpr c15
        refine lv_iload_n hx hb dX2_tokenOf_20 rfl (lv_at hl 0 rfl) ?_
        refine lv_bipush (v := 48) hx hb dX2_tokenOf_21 rfl ?_
        refine lv_icmp_lt (tgt := 34) hx hb dX2_tokenOf_23 rfl (fun c23 => ?_) (fun c23 => ?_)
        · replace c23 := Int32.not_le.mpr c23
          refine lv_iload_n hx hb dX2_tokenOf_34 rfl (lv_at hl 0 rfl) ?_
          refine lv_bipush (v := 59) hx hb dX2_tokenOf_35 rfl ?_
          refine lv_icmp_ne (tgt := 44) hx hb dX2_tokenOf_37 rfl (fun c37 => ?_) (fun c37 => ?_)
          · refine lv_iconst (v := 4) hx hb dX2_tokenOf_44 rfl ?_
            exact ro_iret hx hb hr hlk (by simp [tokC, isLet, isDig, inI, c1, c9, c15, c23, c37, i_lt, -Int32.not_le, -Int32.not_lt]) dX2_tokenOf_45
          · refine lv_iconst (v := 3) hx hb dX2_tokenOf_40 rfl ?_
            refine lv_goto (tgt := 45) hx hb dX2_tokenOf_41 rfl ?_
            exact ro_iret hx hb hr hlk (by simp [tokC, isLet, isDig, inI, c1, c9, c15, c23, c37, i_lt, -Int32.not_le, -Int32.not_lt]) dX2_tokenOf_45
        · replace c23 := Int32.not_lt.mp c23
          refine lv_iload_n hx hb dX2_tokenOf_26 rfl (lv_at hl 0 rfl) ?_
          refine lv_bipush (v := 57) hx hb dX2_tokenOf_27 rfl ?_
          refine lv_icmp_gt (tgt := 34) hx hb dX2_tokenOf_29 rfl (fun c29 => ?_) (fun c29 => ?_)
          · replace c29 := Int32.not_le.mpr c29
            refine lv_iload_n hx hb dX2_tokenOf_34 rfl (lv_at hl 0 rfl) ?_
            refine lv_bipush (v := 59) hx hb dX2_tokenOf_35 rfl ?_
            refine lv_icmp_ne (tgt := 44) hx hb dX2_tokenOf_37 rfl (fun c37 => ?_) (fun c37 => ?_)
            · refine lv_iconst (v := 4) hx hb dX2_tokenOf_44 rfl ?_
              exact ro_iret hx hb hr hlk (by simp [tokC, isLet, isDig, inI, c1, c9, c15, c23, c29, c37, i_lt, -Int32.not_le, -Int32.not_lt]) dX2_tokenOf_45
            · refine lv_iconst (v := 3) hx hb dX2_tokenOf_40 rfl ?_
              refine lv_goto (tgt := 45) hx hb dX2_tokenOf_41 rfl ?_
              exact ro_iret hx hb hr hlk (by simp [tokC, isLet, isDig, inI, c1, c9, c15, c23, c29, c37, i_lt, -Int32.not_le, -Int32.not_lt]) dX2_tokenOf_45
          · replace c29 := Int32.not_lt.mp c29
            refine lv_iconst (v := 2) hx hb dX2_tokenOf_32 rfl ?_
            exact ro_iret hx hb hr hlk (by simp [tokC, isLet, isDig, inI, c1, c9, c15, c23, c29, i_lt, -Int32.not_le, -Int32.not_lt]) dX2_tokenOf_33
      · replace c15 := Int32.not_lt.mp c15
        refine lv_iconst (v := 1) hx hb dX2_tokenOf_18 rfl ?_
        exact ro_iret hx hb hr hlk (by simp [tokC, isLet, isDig, inI, c1, c9, c15, i_lt, -Int32.not_le, -Int32.not_lt]) dX2_tokenOf_19
  · refine lv_iconst (v := 0) hx hb dX2_tokenOf_4 rfl ?_
    exact ro_iret hx hb hr hlk (by simp [tokC, isLet, isDig, inI, c1, i_lt, -Int32.not_le, -Int32.not_lt]) dX2_tokenOf_5

set_option maxHeartbeats 4000000 in
set_option maxRecDepth 100000 in
theorem k_X2_advance (d : Nat) (i : Nat) (hd : d ≤ 120) (hi : i ≤ d) (hT : TpI tp d) : MU l D (tyA cI cJ cO) yX2_advance cX2_advance 1 none 1 21 [.ref h] (TW cI h q (nI d) tp tk bg (nI i) va tn) (fun ov w' => ov = none ∧ w' = (TW cI h q (nI d) tp (tokC (byt tp d (skp tp d i))) (nI (skp tp d i)) (nI (tkE tp d (skp tp d i))) (capV tp d (skp tp d i)) tn)) := by
  refine MU.mk (by decide) (Nat.le_of_ble_eq_true rfl) ?_
  intro p e s m below meth c ls S hr hlk hP hK hD hS hl
  have S : CallFix p m c cX2_advance 1 s _ WL RX2 := S
  obtain ⟨hx, hb, hml, hown, hts⟩ := id S
  have hl : lv_has ls 1 [(0, .ref h)] := hl
  have hsl : skp tp d i ≤ d := skp_le hi
  refine lv_aload_n hx hb dX2_advance_0 rfl (lv_at hl 0 rfl) ?_
  refine lv_aload_n hx hb dX2_advance_1 rfl (lv_at hl 0 rfl) ?_
  refine va_get (ci := 2) (v := .int (nI i)) hx hb hts wx_X2 hown hK hP 0 rfl rfl 4 (by decide) (hts _ wf_X2_25) (fun _ h9 => h9) rfl dX2_advance_2 ?_
  refine va_put (ci := 2) (v := .int (nI i)) (ty := tyX2 3) hx hb hts wx_X2 tyX2 tyX2_ok nmX2 hown hK hP hD hS 0 rfl rfl 3 (by decide) (hts _ wf_X2_22) (fun _ h9 => h9) rfl (tyX2_ok 3 (by decide)) rfl rfl (Nat.le_of_ble_eq_true rfl) dX2_advance_5 (fun H locs hP hD hS => ?_)
  have hP : va_P D vwCl (TW cI h q (nI d) tp tk (nI i) (nI i) va tn) H := hP
  have hD : va_D _ (TW cI h q (nI d) tp tk (nI i) (nI i) va tn) := hD
  refine w_loopH (pc := 8) (st := fun (j : Nat) => []) (μ := fun (j : Nat) => d - j) (I := fun (j : Nat) H locs ls => (j ≤ d) ∧ (skp tp d i = skp tp d j) ∧ va_P D vwCl (TW cI h q (nI d) tp tk (nI j) (nI i) va tn) H ∧ va_D (fun z9 => z9 ∈ ((TW cI h q (nI d) tp tk bg (nI i) va tn)).map (fun z8 => z8.1)) (TW cI h q (nI d) tp tk (nI j) (nI i) va tn) ∧ va_S (fun z9 => z9 ∈ ((TW cI h q (nI d) tp tk bg (nI i) va tn)).map (fun z8 => z8.1)) s.heap H locs ∧ lv_has ls 1 [(0, .ref h)]) ?_ (i) ⟨hi, rfl, hP, hD, hS, lv_sub hl [0] rfl⟩
  rintro j H locs ls ⟨hj, hs, hP, hD, hS, hl⟩ ih8
  try dsimp only at ih8 ⊢
  refine lv_aload_n hx hb dX2_advance_8 rfl (lv_at hl 0 rfl) ?_
  refine va_get (ci := 2) (v := .int (nI j)) hx hb hts wx_X2 hown hK hP 0 rfl rfl 3 (by decide) (hts _ wf_X2_22) (fun _ h9 => h9) rfl dX2_advance_9 ?_
  refine lv_aload_n hx hb dX2_advance_12 rfl (lv_at hl 0 rfl) ?_
  refine va_get (ci := 2) (v := .int (nI d)) hx hb hts wx_X2 hown hK hP 0 rfl rfl 0 (by decide) (hts _ wf_X2_9) (fun _ h9 => h9) rfl dX2_advance_13 ?_
  refine lv_icmp_ge (tgt := 45) hx hb dX2_advance_16 rfl (fun c16 => ?_) (fun c16 => ?_)
  · replace c16 := nq_le (a := d) (b := j) (by omega) (by omega) c16
    have hby := byt_ns (tp := tp) (d := d) (i := j) (by rw [byt_ge (by omega)]; decide)
    obtain rfl : j = skp tp d i := (hs.trans hby).symm
    refine lv_aload_n hx hb dX2_advance_45 rfl (lv_at hl 0 rfl) ?_
    refine lv_aload_n hx hb dX2_advance_46 rfl (lv_at hl 0 rfl) ?_
    refine lv_aload_n hx hb dX2_advance_47 rfl (lv_at hl 0 rfl) ?_
    refine va_get (ci := 2) (v := .int (nI (skp tp d i))) hx hb hts wx_X2 hown hK hP 0 rfl rfl 3 (by decide) (hts _ wf_X2_22) (fun _ h9 => h9) rfl dX2_advance_48 ?_
    refine ro_V (w := (TW cI h q (nI d) tp tk (nI (skp tp d i)) (nI i) va tn)) (rest := [.ref h]) S hK hP (k_X2_byteAt d (skp tp d i) hd (by omega)) gv_X2_122 hd_X2_byteAt ⟨Nat.le_of_ble_eq_true rfl, Nat.le_of_ble_eq_true rfl⟩ 2 rfl rfl rfl rfl hl.1 (lv_room (Nat.le_of_ble_eq_true rfl)) dX2_advance_51 ⟨Nat.zero_le _, Nat.zero_le _⟩ ?_
    refine ro_S (w := []) (rest := [.ref h]) S hK va_P0 (k_X2_tokenOf (byt tp d (skp tp d i))) gs_X2_130 hd_X2_tokenOf ⟨Nat.le_of_ble_eq_true rfl, Nat.le_of_ble_eq_true rfl⟩ rfl hl.1 (lv_room (Nat.le_of_ble_eq_true rfl)) dX2_advance_54 ⟨Nat.zero_le _, Nat.zero_le _⟩ ?_
    refine va_put (ci := 2) (v := .int (tokC (byt tp d (skp tp d i)))) (ty := tyX2 2) hx hb hts wx_X2 tyX2 tyX2_ok nmX2 hown hK hP hD hS 0 rfl rfl 2 (by decide) (hts _ wf_X2_19) (fun _ h9 => h9) rfl (tyX2_ok 2 (by decide)) rfl rfl (Nat.le_of_ble_eq_true rfl) dX2_advance_57 (fun H locs hP hD hS => ?_)
    have hP : va_P D vwCl (TW cI h q (nI d) tp (tokC (byt tp d (skp tp d i))) (nI (skp tp d i)) (nI i) va tn) H := hP
    have hD : va_D _ (TW cI h q (nI d) tp (tokC (byt tp d (skp tp d i))) (nI (skp tp d i)) (nI i) va tn) := hD
    refine lv_aload_n hx hb dX2_advance_60 rfl (lv_at hl 0 rfl) ?_
    refine lv_aload_n hx hb dX2_advance_61 rfl (lv_at hl 0 rfl) ?_
    refine va_get (ci := 2) (v := .int (nI (skp tp d i))) hx hb hts wx_X2 hown hK hP 0 rfl rfl 3 (by decide) (hts _ wf_X2_22) (fun _ h9 => h9) rfl dX2_advance_62 ?_
    refine va_put (ci := 2) (v := .int (nI (skp tp d i))) (ty := tyX2 4) hx hb hts wx_X2 tyX2 tyX2_ok nmX2 hown hK hP hD hS 0 rfl rfl 4 (by decide) (hts _ wf_X2_25) (fun _ h9 => h9) rfl (tyX2_ok 4 (by decide)) rfl rfl (Nat.le_of_ble_eq_true rfl) dX2_advance_65 (fun H locs hP hD hS => ?_)
    have hP : va_P D vwCl (TW cI h q (nI d) tp (tokC (byt tp d (skp tp d i))) (nI (skp tp d i)) (nI (skp tp d i)) va tn) H := hP
    have hD : va_D _ (TW cI h q (nI d) tp (tokC (byt tp d (skp tp d i))) (nI (skp tp d i)) (nI (skp tp d i)) va tn) := hD
    refine lv_aload_n hx hb dX2_advance_68 rfl (lv_at hl 0 rfl) ?_
    refine lv_iconst (v := 0) hx hb dX2_advance_69 rfl ?_
    refine va_put (ci := 2) (v := .int 0) (ty := tyX2 5) hx hb hts wx_X2 tyX2 tyX2_ok nmX2 hown hK hP hD hS 0 rfl rfl 5 (by decide) (hts _ wf_X2_28) (fun _ h9 => h9) rfl (tyX2_ok 5 (by decide)) rfl rfl (Nat.le_of_ble_eq_true rfl) dX2_advance_70 (fun H locs hP hD hS => ?_)
    have hP : va_P D vwCl (TW cI h q (nI d) tp (tokC (byt tp d (skp tp d i))) (nI (skp tp d i)) (nI (skp tp d i)) 0 tn) H := hP
    have hD : va_D _ (TW cI h q (nI d) tp (tokC (byt tp d (skp tp d i))) (nI (skp tp d i)) (nI (skp tp d i)) 0 tn) := hD
    refine lv_aload_n hx hb dX2_advance_73 rfl (lv_at hl 0 rfl) ?_
    refine va_get (ci := 2) (v := .int (tokC (byt tp d (skp tp d i)))) hx hb hts wx_X2 hown hK hP 0 rfl rfl 2 (by decide) (hts _ wf_X2_19) (fun _ h9 => h9) rfl dX2_advance_74 ?_
    refine lv_iconst (v := 3) hx hb dX2_advance_77 rfl ?_
    refine lv_icmp_eq (tgt := 89) hx hb dX2_advance_78 rfl (fun c78 => ?_) (fun c78 => ?_)
    · have h4 := adv_sg hT (Or.inl c78)
      refine lv_aload_n hx hb dX2_advance_89 rfl (lv_at hl 0 rfl) ?_
      refine lv_aload_n hx hb dX2_advance_90 rfl (lv_at hl 0 rfl) ?_
      refine va_get (ci := 2) (v := .int (nI (skp tp d i))) hx hb hts wx_X2 hown hK hP 0 rfl rfl 3 (by decide) (hts _ wf_X2_22) (fun _ h9 => h9) rfl dX2_advance_91 ?_
      refine lv_iconst (v := 1) hx hb dX2_advance_94 rfl ?_
      refine lv_iadd hx hb dX2_advance_95 ?_
      refine w_i (z := nI (skp tp d i + 1)) (nI_1 _) ?_
      refine va_put (ci := 2) (v := .int (nI (skp tp d i + 1))) (ty := tyX2 4) hx hb hts wx_X2 tyX2 tyX2_ok nmX2 hown hK hP hD hS 0 rfl rfl 4 (by decide) (hts _ wf_X2_25) (fun _ h9 => h9) rfl (tyX2_ok 4 (by decide)) rfl rfl (Nat.le_of_ble_eq_true rfl) dX2_advance_96 (fun H locs hP hD hS => ?_)
      have hP : va_P D vwCl (TW cI h q (nI d) tp (tokC (byt tp d (skp tp d i))) (nI (skp tp d i)) (nI (skp tp d i + 1)) 0 tn) H := hP
      have hD : va_D _ (TW cI h q (nI d) tp (tokC (byt tp d (skp tp d i))) (nI (skp tp d i)) (nI (skp tp d i + 1)) 0 tn) := hD
      have hE : nI (skp tp d i + 1) = nI (tkE tp d (skp tp d i)) := by rw [h4.1]
      have hW : (TW cI h q (nI d) tp (tokC (byt tp d (skp tp d i))) (nI (skp tp d i)) (nI (skp tp d i + 1)) 0 tn) = (TW cI h q (nI d) tp (tokC (byt tp d (skp tp d i))) (nI (skp tp d i)) (nI (tkE tp d (skp tp d i))) 0 tn) := congrArg (fun z => (TW cI h q (nI d) tp (tokC (byt tp d (skp tp d i))) (nI (skp tp d i)) z 0 tn)) hE
      have hP : va_P D vwCl (TW cI h q (nI d) tp (tokC (byt tp d (skp tp d i))) (nI (skp tp d i)) (nI (tkE tp d (skp tp d i))) 0 tn) H := Eq.mp (congrArg (fun z => va_P D vwCl z H) hW) hP
      have hD : va_D _ (TW cI h q (nI d) tp (tokC (byt tp d (skp tp d i))) (nI (skp tp d i)) (nI (tkE tp d (skp tp d i))) 0 tn) := Eq.mp (congrArg (fun z => va_D _ z) hW) hD
      have hE : 0 = capV tp d (skp tp d i) := h4.2.symm
      have hW : (TW cI h q (nI d) tp (tokC (byt tp d (skp tp d i))) (nI (skp tp d i)) (nI (tkE tp d (skp tp d i))) 0 tn) = (TW cI h q (nI d) tp (tokC (byt tp d (skp tp d i))) (nI (skp tp d i)) (nI (tkE tp d (skp tp d i))) (capV tp d (skp tp d i)) tn) := congrArg (fun z => (TW cI h q (nI d) tp (tokC (byt tp d (skp tp d i))) (nI (skp tp d i)) (nI (tkE tp d (skp tp d i))) z tn)) hE
      have hP : va_P D vwCl (TW cI h q (nI d) tp (tokC (byt tp d (skp tp d i))) (nI (skp tp d i)) (nI (tkE tp d (skp tp d i))) (capV tp d (skp tp d i)) tn) H := Eq.mp (congrArg (fun z => va_P D vwCl z H) hW) hP
      have hD : va_D _ (TW cI h q (nI d) tp (tokC (byt tp d (skp tp d i))) (nI (skp tp d i)) (nI (tkE tp d (skp tp d i))) (capV tp d (skp tp d i)) tn) := Eq.mp (congrArg (fun z => va_D _ z) hW) hD
      exact mu_vret (TW cI h q (nI d) tp (tokC (byt tp d (skp tp d i))) (nI (skp tp d i)) (nI (tkE tp d (skp tp d i))) (capV tp d (skp tp d i)) tn) hx hb hr hlk hP hS rfl (⟨rfl, rfl⟩) dX2_advance_99
    · refine lv_aload_n hx hb dX2_advance_81 rfl (lv_at hl 0 rfl) ?_
      refine va_get (ci := 2) (v := .int (tokC (byt tp d (skp tp d i)))) hx hb hts wx_X2 hown hK hP 0 rfl rfl 2 (by decide) (hts _ wf_X2_19) (fun _ h9 => h9) rfl dX2_advance_82 ?_
      refine lv_iconst (v := 4) hx hb dX2_advance_85 rfl ?_
      refine lv_icmp_ne (tgt := 100) hx hb dX2_advance_86 rfl (fun c86 => ?_) (fun c86 => ?_)
      · have hE : 0 = (if isDig (byt tp d (skp tp d i)) then capI tp (skp tp d i) ((skp tp d i) - (skp tp d i)) else 0) := by rw [Nat.sub_self]; split <;> rfl
        have hW : (TW cI h q (nI d) tp (tokC (byt tp d (skp tp d i))) (nI (skp tp d i)) (nI (skp tp d i)) 0 tn) = (TW cI h q (nI d) tp (tokC (byt tp d (skp tp d i))) (nI (skp tp d i)) (nI (skp tp d i)) (if isDig (byt tp d (skp tp d i)) then capI tp (skp tp d i) ((skp tp d i) - (skp tp d i)) else 0) tn) := congrArg (fun z => (TW cI h q (nI d) tp (tokC (byt tp d (skp tp d i))) (nI (skp tp d i)) (nI (skp tp d i)) z tn)) hE
        have hP : va_P D vwCl (TW cI h q (nI d) tp (tokC (byt tp d (skp tp d i))) (nI (skp tp d i)) (nI (skp tp d i)) (if isDig (byt tp d (skp tp d i)) then capI tp (skp tp d i) ((skp tp d i) - (skp tp d i)) else 0) tn) H := Eq.mp (congrArg (fun z => va_P D vwCl z H) hW) hP
        have hD : va_D _ (TW cI h q (nI d) tp (tokC (byt tp d (skp tp d i))) (nI (skp tp d i)) (nI (skp tp d i)) (if isDig (byt tp d (skp tp d i)) then capI tp (skp tp d i) ((skp tp d i) - (skp tp d i)) else 0) tn) := Eq.mp (congrArg (fun z => va_D _ z) hW) hD
        refine w_loopH (pc := 100) (st := fun (j : Nat) => []) (μ := fun (j : Nat) => d - j) (I := fun (j : Nat) H locs ls => (skp tp d i ≤ j) ∧ (j ≤ d) ∧ (tkE tp d (skp tp d i) = scR (isLet (byt tp d (skp tp d i))) (isDig (byt tp d (skp tp d i))) tp d j) ∧ va_P D vwCl (TW cI h q (nI d) tp (tokC (byt tp d (skp tp d i))) (nI (skp tp d i)) (nI j) (if isDig (byt tp d (skp tp d i)) then capI tp (skp tp d i) (j - (skp tp d i)) else 0) tn) H ∧ va_D (fun z9 => z9 ∈ ((TW cI h q (nI d) tp tk bg (nI i) va tn)).map (fun z8 => z8.1)) (TW cI h q (nI d) tp (tokC (byt tp d (skp tp d i))) (nI (skp tp d i)) (nI j) (if isDig (byt tp d (skp tp d i)) then capI tp (skp tp d i) (j - (skp tp d i)) else 0) tn) ∧ va_S (fun z9 => z9 ∈ ((TW cI h q (nI d) tp tk bg (nI i) va tn)).map (fun z8 => z8.1)) s.heap H locs ∧ lv_has ls 1 [(0, .ref h)]) ?_ (skp tp d i) ⟨Nat.le_refl _, hsl, adv_in hT c78 c86, hP, hD, hS, lv_sub hl [0] rfl⟩
        rintro j H locs ls ⟨hj0, hj, hq, hP, hD, hS, hl⟩ ih100
        try dsimp only at ih100 ⊢
        refine lv_aload_n hx hb dX2_advance_100 rfl (lv_at hl 0 rfl) ?_
        refine va_get (ci := 2) (v := .int (nI j)) hx hb hts wx_X2 hown hK hP 0 rfl rfl 4 (by decide) (hts _ wf_X2_25) (fun _ h9 => h9) rfl dX2_advance_101 ?_
        refine lv_aload_n hx hb dX2_advance_104 rfl (lv_at hl 0 rfl) ?_
        refine va_get (ci := 2) (v := .int (nI d)) hx hb hts wx_X2 hown hK hP 0 rfl rfl 0 (by decide) (hts _ wf_X2_9) (fun _ h9 => h9) rfl dX2_advance_105 ?_
        refine lv_icmp_ge (tgt := 179) hx hb dX2_advance_108 rfl (fun c108 => ?_) (fun c108 => ?_)
        · replace c108 := nq_le (a := d) (b := j) (by omega) (by omega) c108
          have he := hq.trans (scR_out (by omega))
          have hE : nI j = nI (tkE tp d (skp tp d i)) := by rw [he]
          have hW : (TW cI h q (nI d) tp (tokC (byt tp d (skp tp d i))) (nI (skp tp d i)) (nI j) (if isDig (byt tp d (skp tp d i)) then capI tp (skp tp d i) (j - (skp tp d i)) else 0) tn) = (TW cI h q (nI d) tp (tokC (byt tp d (skp tp d i))) (nI (skp tp d i)) (nI (tkE tp d (skp tp d i))) (if isDig (byt tp d (skp tp d i)) then capI tp (skp tp d i) (j - (skp tp d i)) else 0) tn) := congrArg (fun z => (TW cI h q (nI d) tp (tokC (byt tp d (skp tp d i))) (nI (skp tp d i)) z (if isDig (byt tp d (skp tp d i)) then capI tp (skp tp d i) (j - (skp tp d i)) else 0) tn)) hE
          have hP : va_P D vwCl (TW cI h q (nI d) tp (tokC (byt tp d (skp tp d i))) (nI (skp tp d i)) (nI (tkE tp d (skp tp d i))) (if isDig (byt tp d (skp tp d i)) then capI tp (skp tp d i) (j - (skp tp d i)) else 0) tn) H := Eq.mp (congrArg (fun z => va_P D vwCl z H) hW) hP
          have hD : va_D _ (TW cI h q (nI d) tp (tokC (byt tp d (skp tp d i))) (nI (skp tp d i)) (nI (tkE tp d (skp tp d i))) (if isDig (byt tp d (skp tp d i)) then capI tp (skp tp d i) (j - (skp tp d i)) else 0) tn) := Eq.mp (congrArg (fun z => va_D _ z) hW) hD
          have hE : (if isDig (byt tp d (skp tp d i)) then capI tp (skp tp d i) (j - (skp tp d i)) else 0) = capV tp d (skp tp d i) := by rw [capV, he]
          have hW : (TW cI h q (nI d) tp (tokC (byt tp d (skp tp d i))) (nI (skp tp d i)) (nI (tkE tp d (skp tp d i))) (if isDig (byt tp d (skp tp d i)) then capI tp (skp tp d i) (j - (skp tp d i)) else 0) tn) = (TW cI h q (nI d) tp (tokC (byt tp d (skp tp d i))) (nI (skp tp d i)) (nI (tkE tp d (skp tp d i))) (capV tp d (skp tp d i)) tn) := congrArg (fun z => (TW cI h q (nI d) tp (tokC (byt tp d (skp tp d i))) (nI (skp tp d i)) (nI (tkE tp d (skp tp d i))) z tn)) hE
          have hP : va_P D vwCl (TW cI h q (nI d) tp (tokC (byt tp d (skp tp d i))) (nI (skp tp d i)) (nI (tkE tp d (skp tp d i))) (capV tp d (skp tp d i)) tn) H := Eq.mp (congrArg (fun z => va_P D vwCl z H) hW) hP
          have hD : va_D _ (TW cI h q (nI d) tp (tokC (byt tp d (skp tp d i))) (nI (skp tp d i)) (nI (tkE tp d (skp tp d i))) (capV tp d (skp tp d i)) tn) := Eq.mp (congrArg (fun z => va_D _ z) hW) hD
          exact mu_vret (TW cI h q (nI d) tp (tokC (byt tp d (skp tp d i))) (nI (skp tp d i)) (nI (tkE tp d (skp tp d i))) (capV tp d (skp tp d i)) tn) hx hb hr hlk hP hS rfl (⟨rfl, rfl⟩) dX2_advance_179
        · replace c108 := nq_nle (a := d) (b := j) (by omega) (by omega) c108
          have c108b : j < d := by omega
          refine lv_aload_n hx hb dX2_advance_111 rfl (lv_at hl 0 rfl) ?_
          refine lv_aload_n hx hb dX2_advance_112 rfl (lv_at hl 0 rfl) ?_
          refine va_get (ci := 2) (v := .int (nI j)) hx hb hts wx_X2 hown hK hP 0 rfl rfl 4 (by decide) (hts _ wf_X2_25) (fun _ h9 => h9) rfl dX2_advance_113 ?_
          refine ro_V (w := (TW cI h q (nI d) tp (tokC (byt tp d (skp tp d i))) (nI (skp tp d i)) (nI j) (if isDig (byt tp d (skp tp d i)) then capI tp (skp tp d i) (j - (skp tp d i)) else 0) tn)) (rest := []) S hK hP (k_X2_byteAt d j hd (by omega)) gv_X2_122 hd_X2_byteAt ⟨Nat.le_of_ble_eq_true rfl, Nat.le_of_ble_eq_true rfl⟩ 2 rfl rfl rfl rfl hl.1 (lv_room (Nat.le_of_ble_eq_true rfl)) dX2_advance_116 ⟨Nat.zero_le _, Nat.zero_le _⟩ ?_
          refine ro_S (w := []) (rest := []) S hK va_P0 (k_X2_tokenOf (byt tp d j)) gs_X2_130 hd_X2_tokenOf ⟨Nat.le_of_ble_eq_true rfl, Nat.le_of_ble_eq_true rfl⟩ rfl hl.1 (lv_room (Nat.le_of_ble_eq_true rfl)) dX2_advance_119 ⟨Nat.zero_le _, Nat.zero_le _⟩ ?_
          refine lv_aload_n hx hb dX2_advance_122 rfl (lv_at hl 0 rfl) ?_
          refine va_get (ci := 2) (v := .int (tokC (byt tp d (skp tp d i)))) hx hb hts wx_X2 hown hK hP 0 rfl rfl 2 (by decide) (hts _ wf_X2_19) (fun _ h9 => h9) rfl dX2_advance_123 ?_
          refine lv_icmp_ne (tgt := 179) hx hb dX2_advance_126 rfl (fun c126 => ?_) (fun c126 => ?_)
          · have he := hq.trans (adv_end c126)
            have hE : nI j = nI (tkE tp d (skp tp d i)) := by rw [he]
            have hW : (TW cI h q (nI d) tp (tokC (byt tp d (skp tp d i))) (nI (skp tp d i)) (nI j) (if isDig (byt tp d (skp tp d i)) then capI tp (skp tp d i) (j - (skp tp d i)) else 0) tn) = (TW cI h q (nI d) tp (tokC (byt tp d (skp tp d i))) (nI (skp tp d i)) (nI (tkE tp d (skp tp d i))) (if isDig (byt tp d (skp tp d i)) then capI tp (skp tp d i) (j - (skp tp d i)) else 0) tn) := congrArg (fun z => (TW cI h q (nI d) tp (tokC (byt tp d (skp tp d i))) (nI (skp tp d i)) z (if isDig (byt tp d (skp tp d i)) then capI tp (skp tp d i) (j - (skp tp d i)) else 0) tn)) hE
            have hP : va_P D vwCl (TW cI h q (nI d) tp (tokC (byt tp d (skp tp d i))) (nI (skp tp d i)) (nI (tkE tp d (skp tp d i))) (if isDig (byt tp d (skp tp d i)) then capI tp (skp tp d i) (j - (skp tp d i)) else 0) tn) H := Eq.mp (congrArg (fun z => va_P D vwCl z H) hW) hP
            have hD : va_D _ (TW cI h q (nI d) tp (tokC (byt tp d (skp tp d i))) (nI (skp tp d i)) (nI (tkE tp d (skp tp d i))) (if isDig (byt tp d (skp tp d i)) then capI tp (skp tp d i) (j - (skp tp d i)) else 0) tn) := Eq.mp (congrArg (fun z => va_D _ z) hW) hD
            have hE : (if isDig (byt tp d (skp tp d i)) then capI tp (skp tp d i) (j - (skp tp d i)) else 0) = capV tp d (skp tp d i) := by rw [capV, he]
            have hW : (TW cI h q (nI d) tp (tokC (byt tp d (skp tp d i))) (nI (skp tp d i)) (nI (tkE tp d (skp tp d i))) (if isDig (byt tp d (skp tp d i)) then capI tp (skp tp d i) (j - (skp tp d i)) else 0) tn) = (TW cI h q (nI d) tp (tokC (byt tp d (skp tp d i))) (nI (skp tp d i)) (nI (tkE tp d (skp tp d i))) (capV tp d (skp tp d i)) tn) := congrArg (fun z => (TW cI h q (nI d) tp (tokC (byt tp d (skp tp d i))) (nI (skp tp d i)) (nI (tkE tp d (skp tp d i))) z tn)) hE
            have hP : va_P D vwCl (TW cI h q (nI d) tp (tokC (byt tp d (skp tp d i))) (nI (skp tp d i)) (nI (tkE tp d (skp tp d i))) (capV tp d (skp tp d i)) tn) H := Eq.mp (congrArg (fun z => va_P D vwCl z H) hW) hP
            have hD : va_D _ (TW cI h q (nI d) tp (tokC (byt tp d (skp tp d i))) (nI (skp tp d i)) (nI (tkE tp d (skp tp d i))) (capV tp d (skp tp d i)) tn) := Eq.mp (congrArg (fun z => va_D _ z) hW) hD
            exact mu_vret (TW cI h q (nI d) tp (tokC (byt tp d (skp tp d i))) (nI (skp tp d i)) (nI (tkE tp d (skp tp d i))) (capV tp d (skp tp d i)) tn) hx hb hr hlk hP hS rfl (⟨rfl, rfl⟩) dX2_advance_179
          · have hstp := adv_step hT c108b c126 c78 c86
            refine lv_aload_n hx hb dX2_advance_129 rfl (lv_at hl 0 rfl) ?_
            refine va_get (ci := 2) (v := .int (tokC (byt tp d (skp tp d i)))) hx hb hts wx_X2 hown hK hP 0 rfl rfl 2 (by decide) (hts _ wf_X2_19) (fun _ h9 => h9) rfl dX2_advance_130 ?_
            refine lv_iconst (v := 2) hx hb dX2_advance_133 rfl ?_
            refine lv_icmp_ne (tgt := 166) hx hb dX2_advance_134 rfl (fun c134 => ?_) (fun c134 => ?_)
            · have hE : (if isDig (byt tp d (skp tp d i)) then capI tp (skp tp d i) (j - (skp tp d i)) else 0) = (if isDig (byt tp d (skp tp d i)) then capI tp (skp tp d i) (j + 1 - (skp tp d i)) else 0) := cap_n (fun z => c134 (tok_2.mpr z))
              have hW : (TW cI h q (nI d) tp (tokC (byt tp d (skp tp d i))) (nI (skp tp d i)) (nI j) (if isDig (byt tp d (skp tp d i)) then capI tp (skp tp d i) (j - (skp tp d i)) else 0) tn) = (TW cI h q (nI d) tp (tokC (byt tp d (skp tp d i))) (nI (skp tp d i)) (nI j) (if isDig (byt tp d (skp tp d i)) then capI tp (skp tp d i) (j + 1 - (skp tp d i)) else 0) tn) := congrArg (fun z => (TW cI h q (nI d) tp (tokC (byt tp d (skp tp d i))) (nI (skp tp d i)) (nI j) z tn)) hE
              have hP : va_P D vwCl (TW cI h q (nI d) tp (tokC (byt tp d (skp tp d i))) (nI (skp tp d i)) (nI j) (if isDig (byt tp d (skp tp d i)) then capI tp (skp tp d i) (j + 1 - (skp tp d i)) else 0) tn) H := Eq.mp (congrArg (fun z => va_P D vwCl z H) hW) hP
              have hD : va_D _ (TW cI h q (nI d) tp (tokC (byt tp d (skp tp d i))) (nI (skp tp d i)) (nI j) (if isDig (byt tp d (skp tp d i)) then capI tp (skp tp d i) (j + 1 - (skp tp d i)) else 0) tn) := Eq.mp (congrArg (fun z => va_D _ z) hW) hD
              refine lv_aload_n hx hb dX2_advance_166 rfl (lv_at hl 0 rfl) ?_
              refine lv_dup hx hb dX2_advance_167 rfl ?_
              refine va_get (ci := 2) (v := .int (nI j)) hx hb hts wx_X2 hown hK hP 0 rfl rfl 4 (by decide) (hts _ wf_X2_25) (fun _ h9 => h9) rfl dX2_advance_168 ?_
              refine lv_iconst (v := 1) hx hb dX2_advance_171 rfl ?_
              refine lv_iadd hx hb dX2_advance_172 ?_
              refine w_i (z := nI (j + 1)) (nI_1 j) ?_
              refine va_put (ci := 2) (v := .int (nI (j + 1))) (ty := tyX2 4) hx hb hts wx_X2 tyX2 tyX2_ok nmX2 hown hK hP hD hS 0 rfl rfl 4 (by decide) (hts _ wf_X2_25) (fun _ h9 => h9) rfl (tyX2_ok 4 (by decide)) rfl rfl (Nat.le_of_ble_eq_true rfl) dX2_advance_173 (fun H locs hP hD hS => ?_)
              have hP : va_P D vwCl (TW cI h q (nI d) tp (tokC (byt tp d (skp tp d i))) (nI (skp tp d i)) (nI (j + 1)) (if isDig (byt tp d (skp tp d i)) then capI tp (skp tp d i) (j + 1 - (skp tp d i)) else 0) tn) H := hP
              have hD : va_D _ (TW cI h q (nI d) tp (tokC (byt tp d (skp tp d i))) (nI (skp tp d i)) (nI (j + 1)) (if isDig (byt tp d (skp tp d i)) then capI tp (skp tp d i) (j + 1 - (skp tp d i)) else 0) tn) := hD
              refine lv_goto (tgt := 100) hx hb dX2_advance_176 rfl ?_
              exact ih100 (j + 1) _ _ ls (by first | omega | (dsimp only; omega)) ⟨(by omega), (by omega), hq.trans hstp, hP, hD, hS, lv_sub hl [0] rfl⟩
            · refine lv_aload_n hx hb dX2_advance_137 rfl (lv_at hl 0 rfl) ?_
              refine lv_bipush (v := 10) hx hb dX2_advance_138 rfl ?_
              refine lv_aload_n hx hb dX2_advance_140 rfl (lv_at hl 0 rfl) ?_
              refine va_get (ci := 2) (v := .int (if isDig (byt tp d (skp tp d i)) then capI tp (skp tp d i) (j - (skp tp d i)) else 0)) hx hb hts wx_X2 hown hK hP 0 rfl rfl 5 (by decide) (hts _ wf_X2_28) (fun _ h9 => h9) rfl dX2_advance_141 ?_
              refine lv_imul hx hb dX2_advance_144 ?_
              refine lv_aload_n hx hb dX2_advance_145 rfl (lv_at hl 0 rfl) ?_
              refine lv_aload_n hx hb dX2_advance_146 rfl (lv_at hl 0 rfl) ?_
              refine va_get (ci := 2) (v := .int (nI j)) hx hb hts wx_X2 hown hK hP 0 rfl rfl 4 (by decide) (hts _ wf_X2_25) (fun _ h9 => h9) rfl dX2_advance_147 ?_
              refine ro_V (w := (TW cI h q (nI d) tp (tokC (byt tp d (skp tp d i))) (nI (skp tp d i)) (nI j) (if isDig (byt tp d (skp tp d i)) then capI tp (skp tp d i) (j - (skp tp d i)) else 0) tn)) (rest := [.int (10 * (if isDig (byt tp d (skp tp d i)) then capI tp (skp tp d i) (j - (skp tp d i)) else 0)), .ref h]) S hK hP (k_X2_byteAt d j hd (by omega)) gv_X2_122 hd_X2_byteAt ⟨Nat.le_of_ble_eq_true rfl, Nat.le_of_ble_eq_true rfl⟩ 2 rfl rfl rfl rfl hl.1 (lv_room (Nat.le_of_ble_eq_true rfl)) dX2_advance_150 ⟨Nat.zero_le _, Nat.zero_le _⟩ ?_
              refine lv_iadd hx hb dX2_advance_153 ?_
              refine lv_bipush (v := 48) hx hb dX2_advance_154 rfl ?_
              refine lv_isub hx hb dX2_advance_156 ?_
              refine lv_sipush (v := 1000) hx hb dX2_advance_157 rfl ?_
              refine va_mmin hx hb (hml.trans hl.1.symm) hown (hts _ wm_X2_133) (hts _ wt_J9_min_7cf53) (hts _ wi_J9) (hts _ wc_J9_min_7cf53) (Nat.le_of_ble_eq_true rfl) (Nat.le_of_ble_eq_true rfl) (Nat.zero_le _) (Nat.zero_le _) dX2_advance_160 ?_
              refine va_put (ci := 2) (v := .int (if 1000 < (((10 * (if isDig (byt tp d (skp tp d i)) then capI tp (skp tp d i) (j - (skp tp d i)) else 0)) + (byt tp d j)) - 48) then 1000 else ((10 * (if isDig (byt tp d (skp tp d i)) then capI tp (skp tp d i) (j - (skp tp d i)) else 0)) + (byt tp d j)) - 48)) (ty := tyX2 5) hx hb hts wx_X2 tyX2 tyX2_ok nmX2 hown hK hP hD hS 0 rfl rfl 5 (by decide) (hts _ wf_X2_28) (fun _ h9 => h9) rfl (tyX2_ok 5 (by decide)) rfl rfl (Nat.le_of_ble_eq_true rfl) dX2_advance_163 (fun H locs hP hD hS => ?_)
              have hP : va_P D vwCl (TW cI h q (nI d) tp (tokC (byt tp d (skp tp d i))) (nI (skp tp d i)) (nI j) (if 1000 < (((10 * (if isDig (byt tp d (skp tp d i)) then capI tp (skp tp d i) (j - (skp tp d i)) else 0)) + (byt tp d j)) - 48) then 1000 else ((10 * (if isDig (byt tp d (skp tp d i)) then capI tp (skp tp d i) (j - (skp tp d i)) else 0)) + (byt tp d j)) - 48) tn) H := hP
              have hD : va_D _ (TW cI h q (nI d) tp (tokC (byt tp d (skp tp d i))) (nI (skp tp d i)) (nI j) (if 1000 < (((10 * (if isDig (byt tp d (skp tp d i)) then capI tp (skp tp d i) (j - (skp tp d i)) else 0)) + (byt tp d j)) - 48) then 1000 else ((10 * (if isDig (byt tp d (skp tp d i)) then capI tp (skp tp d i) (j - (skp tp d i)) else 0)) + (byt tp d j)) - 48) tn) := hD
              have hE : (if 1000 < (((10 * (if isDig (byt tp d (skp tp d i)) then capI tp (skp tp d i) (j - (skp tp d i)) else 0)) + (byt tp d j)) - 48) then 1000 else ((10 * (if isDig (byt tp d (skp tp d i)) then capI tp (skp tp d i) (j - (skp tp d i)) else 0)) + (byt tp d j)) - 48) = (if isDig (byt tp d (skp tp d i)) then capI tp (skp tp d i) (j + 1 - (skp tp d i)) else 0) := cap_s (tok_2.mp c134) (by omega) (byt_lt c108b)
              have hW : (TW cI h q (nI d) tp (tokC (byt tp d (skp tp d i))) (nI (skp tp d i)) (nI j) (if 1000 < (((10 * (if isDig (byt tp d (skp tp d i)) then capI tp (skp tp d i) (j - (skp tp d i)) else 0)) + (byt tp d j)) - 48) then 1000 else ((10 * (if isDig (byt tp d (skp tp d i)) then capI tp (skp tp d i) (j - (skp tp d i)) else 0)) + (byt tp d j)) - 48) tn) = (TW cI h q (nI d) tp (tokC (byt tp d (skp tp d i))) (nI (skp tp d i)) (nI j) (if isDig (byt tp d (skp tp d i)) then capI tp (skp tp d i) (j + 1 - (skp tp d i)) else 0) tn) := congrArg (fun z => (TW cI h q (nI d) tp (tokC (byt tp d (skp tp d i))) (nI (skp tp d i)) (nI j) z tn)) hE
              have hP : va_P D vwCl (TW cI h q (nI d) tp (tokC (byt tp d (skp tp d i))) (nI (skp tp d i)) (nI j) (if isDig (byt tp d (skp tp d i)) then capI tp (skp tp d i) (j + 1 - (skp tp d i)) else 0) tn) H := Eq.mp (congrArg (fun z => va_P D vwCl z H) hW) hP
              have hD : va_D _ (TW cI h q (nI d) tp (tokC (byt tp d (skp tp d i))) (nI (skp tp d i)) (nI j) (if isDig (byt tp d (skp tp d i)) then capI tp (skp tp d i) (j + 1 - (skp tp d i)) else 0) tn) := Eq.mp (congrArg (fun z => va_D _ z) hW) hD
              refine lv_aload_n hx hb dX2_advance_166 rfl (lv_at hl 0 rfl) ?_
              refine lv_dup hx hb dX2_advance_167 rfl ?_
              refine va_get (ci := 2) (v := .int (nI j)) hx hb hts wx_X2 hown hK hP 0 rfl rfl 4 (by decide) (hts _ wf_X2_25) (fun _ h9 => h9) rfl dX2_advance_168 ?_
              refine lv_iconst (v := 1) hx hb dX2_advance_171 rfl ?_
              refine lv_iadd hx hb dX2_advance_172 ?_
              refine w_i (z := nI (j + 1)) (nI_1 j) ?_
              refine va_put (ci := 2) (v := .int (nI (j + 1))) (ty := tyX2 4) hx hb hts wx_X2 tyX2 tyX2_ok nmX2 hown hK hP hD hS 0 rfl rfl 4 (by decide) (hts _ wf_X2_25) (fun _ h9 => h9) rfl (tyX2_ok 4 (by decide)) rfl rfl (Nat.le_of_ble_eq_true rfl) dX2_advance_173 (fun H locs hP hD hS => ?_)
              have hP : va_P D vwCl (TW cI h q (nI d) tp (tokC (byt tp d (skp tp d i))) (nI (skp tp d i)) (nI (j + 1)) (if isDig (byt tp d (skp tp d i)) then capI tp (skp tp d i) (j + 1 - (skp tp d i)) else 0) tn) H := hP
              have hD : va_D _ (TW cI h q (nI d) tp (tokC (byt tp d (skp tp d i))) (nI (skp tp d i)) (nI (j + 1)) (if isDig (byt tp d (skp tp d i)) then capI tp (skp tp d i) (j + 1 - (skp tp d i)) else 0) tn) := hD
              refine lv_goto (tgt := 100) hx hb dX2_advance_176 rfl ?_
              exact ih100 (j + 1) _ _ ls (by first | omega | (dsimp only; omega)) ⟨(by omega), (by omega), hq.trans hstp, hP, hD, hS, lv_sub hl [0] rfl⟩
      · have h4 := adv_sg hT (Or.inr c86)
        refine lv_aload_n hx hb dX2_advance_89 rfl (lv_at hl 0 rfl) ?_
        refine lv_aload_n hx hb dX2_advance_90 rfl (lv_at hl 0 rfl) ?_
        refine va_get (ci := 2) (v := .int (nI (skp tp d i))) hx hb hts wx_X2 hown hK hP 0 rfl rfl 3 (by decide) (hts _ wf_X2_22) (fun _ h9 => h9) rfl dX2_advance_91 ?_
        refine lv_iconst (v := 1) hx hb dX2_advance_94 rfl ?_
        refine lv_iadd hx hb dX2_advance_95 ?_
        refine w_i (z := nI (skp tp d i + 1)) (nI_1 _) ?_
        refine va_put (ci := 2) (v := .int (nI (skp tp d i + 1))) (ty := tyX2 4) hx hb hts wx_X2 tyX2 tyX2_ok nmX2 hown hK hP hD hS 0 rfl rfl 4 (by decide) (hts _ wf_X2_25) (fun _ h9 => h9) rfl (tyX2_ok 4 (by decide)) rfl rfl (Nat.le_of_ble_eq_true rfl) dX2_advance_96 (fun H locs hP hD hS => ?_)
        have hP : va_P D vwCl (TW cI h q (nI d) tp (tokC (byt tp d (skp tp d i))) (nI (skp tp d i)) (nI (skp tp d i + 1)) 0 tn) H := hP
        have hD : va_D _ (TW cI h q (nI d) tp (tokC (byt tp d (skp tp d i))) (nI (skp tp d i)) (nI (skp tp d i + 1)) 0 tn) := hD
        have hE : nI (skp tp d i + 1) = nI (tkE tp d (skp tp d i)) := by rw [h4.1]
        have hW : (TW cI h q (nI d) tp (tokC (byt tp d (skp tp d i))) (nI (skp tp d i)) (nI (skp tp d i + 1)) 0 tn) = (TW cI h q (nI d) tp (tokC (byt tp d (skp tp d i))) (nI (skp tp d i)) (nI (tkE tp d (skp tp d i))) 0 tn) := congrArg (fun z => (TW cI h q (nI d) tp (tokC (byt tp d (skp tp d i))) (nI (skp tp d i)) z 0 tn)) hE
        have hP : va_P D vwCl (TW cI h q (nI d) tp (tokC (byt tp d (skp tp d i))) (nI (skp tp d i)) (nI (tkE tp d (skp tp d i))) 0 tn) H := Eq.mp (congrArg (fun z => va_P D vwCl z H) hW) hP
        have hD : va_D _ (TW cI h q (nI d) tp (tokC (byt tp d (skp tp d i))) (nI (skp tp d i)) (nI (tkE tp d (skp tp d i))) 0 tn) := Eq.mp (congrArg (fun z => va_D _ z) hW) hD
        have hE : 0 = capV tp d (skp tp d i) := h4.2.symm
        have hW : (TW cI h q (nI d) tp (tokC (byt tp d (skp tp d i))) (nI (skp tp d i)) (nI (tkE tp d (skp tp d i))) 0 tn) = (TW cI h q (nI d) tp (tokC (byt tp d (skp tp d i))) (nI (skp tp d i)) (nI (tkE tp d (skp tp d i))) (capV tp d (skp tp d i)) tn) := congrArg (fun z => (TW cI h q (nI d) tp (tokC (byt tp d (skp tp d i))) (nI (skp tp d i)) (nI (tkE tp d (skp tp d i))) z tn)) hE
        have hP : va_P D vwCl (TW cI h q (nI d) tp (tokC (byt tp d (skp tp d i))) (nI (skp tp d i)) (nI (tkE tp d (skp tp d i))) (capV tp d (skp tp d i)) tn) H := Eq.mp (congrArg (fun z => va_P D vwCl z H) hW) hP
        have hD : va_D _ (TW cI h q (nI d) tp (tokC (byt tp d (skp tp d i))) (nI (skp tp d i)) (nI (tkE tp d (skp tp d i))) (capV tp d (skp tp d i)) tn) := Eq.mp (congrArg (fun z => va_D _ z) hW) hD
        exact mu_vret (TW cI h q (nI d) tp (tokC (byt tp d (skp tp d i))) (nI (skp tp d i)) (nI (tkE tp d (skp tp d i))) (capV tp d (skp tp d i)) tn) hx hb hr hlk hP hS rfl (⟨rfl, rfl⟩) dX2_advance_99
  · replace c16 := nq_nle (a := d) (b := j) (by omega) (by omega) c16
    refine lv_aload_n hx hb dX2_advance_19 rfl (lv_at hl 0 rfl) ?_
    refine lv_aload_n hx hb dX2_advance_20 rfl (lv_at hl 0 rfl) ?_
    refine va_get (ci := 2) (v := .int (nI j)) hx hb hts wx_X2 hown hK hP 0 rfl rfl 3 (by decide) (hts _ wf_X2_22) (fun _ h9 => h9) rfl dX2_advance_21 ?_
    refine ro_V (w := (TW cI h q (nI d) tp tk (nI j) (nI i) va tn)) (rest := []) S hK hP (k_X2_byteAt d j hd (by omega)) gv_X2_122 hd_X2_byteAt ⟨Nat.le_of_ble_eq_true rfl, Nat.le_of_ble_eq_true rfl⟩ 2 rfl rfl rfl rfl hl.1 (lv_room (Nat.le_of_ble_eq_true rfl)) dX2_advance_24 ⟨Nat.zero_le _, Nat.zero_le _⟩ ?_
    refine lv_bipush (v := 32) hx hb dX2_advance_27 rfl ?_
    refine lv_icmp_ne (tgt := 45) hx hb dX2_advance_29 rfl (fun c29 => ?_) (fun c29 => ?_)
    · have hby := byt_ns c29
      obtain rfl : j = skp tp d i := (hs.trans hby).symm
      refine lv_aload_n hx hb dX2_advance_45 rfl (lv_at hl 0 rfl) ?_
      refine lv_aload_n hx hb dX2_advance_46 rfl (lv_at hl 0 rfl) ?_
      refine lv_aload_n hx hb dX2_advance_47 rfl (lv_at hl 0 rfl) ?_
      refine va_get (ci := 2) (v := .int (nI (skp tp d i))) hx hb hts wx_X2 hown hK hP 0 rfl rfl 3 (by decide) (hts _ wf_X2_22) (fun _ h9 => h9) rfl dX2_advance_48 ?_
      refine ro_V (w := (TW cI h q (nI d) tp tk (nI (skp tp d i)) (nI i) va tn)) (rest := [.ref h]) S hK hP (k_X2_byteAt d (skp tp d i) hd (by omega)) gv_X2_122 hd_X2_byteAt ⟨Nat.le_of_ble_eq_true rfl, Nat.le_of_ble_eq_true rfl⟩ 2 rfl rfl rfl rfl hl.1 (lv_room (Nat.le_of_ble_eq_true rfl)) dX2_advance_51 ⟨Nat.zero_le _, Nat.zero_le _⟩ ?_
      refine ro_S (w := []) (rest := [.ref h]) S hK va_P0 (k_X2_tokenOf (byt tp d (skp tp d i))) gs_X2_130 hd_X2_tokenOf ⟨Nat.le_of_ble_eq_true rfl, Nat.le_of_ble_eq_true rfl⟩ rfl hl.1 (lv_room (Nat.le_of_ble_eq_true rfl)) dX2_advance_54 ⟨Nat.zero_le _, Nat.zero_le _⟩ ?_
      refine va_put (ci := 2) (v := .int (tokC (byt tp d (skp tp d i)))) (ty := tyX2 2) hx hb hts wx_X2 tyX2 tyX2_ok nmX2 hown hK hP hD hS 0 rfl rfl 2 (by decide) (hts _ wf_X2_19) (fun _ h9 => h9) rfl (tyX2_ok 2 (by decide)) rfl rfl (Nat.le_of_ble_eq_true rfl) dX2_advance_57 (fun H locs hP hD hS => ?_)
      have hP : va_P D vwCl (TW cI h q (nI d) tp (tokC (byt tp d (skp tp d i))) (nI (skp tp d i)) (nI i) va tn) H := hP
      have hD : va_D _ (TW cI h q (nI d) tp (tokC (byt tp d (skp tp d i))) (nI (skp tp d i)) (nI i) va tn) := hD
      refine lv_aload_n hx hb dX2_advance_60 rfl (lv_at hl 0 rfl) ?_
      refine lv_aload_n hx hb dX2_advance_61 rfl (lv_at hl 0 rfl) ?_
      refine va_get (ci := 2) (v := .int (nI (skp tp d i))) hx hb hts wx_X2 hown hK hP 0 rfl rfl 3 (by decide) (hts _ wf_X2_22) (fun _ h9 => h9) rfl dX2_advance_62 ?_
      refine va_put (ci := 2) (v := .int (nI (skp tp d i))) (ty := tyX2 4) hx hb hts wx_X2 tyX2 tyX2_ok nmX2 hown hK hP hD hS 0 rfl rfl 4 (by decide) (hts _ wf_X2_25) (fun _ h9 => h9) rfl (tyX2_ok 4 (by decide)) rfl rfl (Nat.le_of_ble_eq_true rfl) dX2_advance_65 (fun H locs hP hD hS => ?_)
      have hP : va_P D vwCl (TW cI h q (nI d) tp (tokC (byt tp d (skp tp d i))) (nI (skp tp d i)) (nI (skp tp d i)) va tn) H := hP
      have hD : va_D _ (TW cI h q (nI d) tp (tokC (byt tp d (skp tp d i))) (nI (skp tp d i)) (nI (skp tp d i)) va tn) := hD
      refine lv_aload_n hx hb dX2_advance_68 rfl (lv_at hl 0 rfl) ?_
      refine lv_iconst (v := 0) hx hb dX2_advance_69 rfl ?_
      refine va_put (ci := 2) (v := .int 0) (ty := tyX2 5) hx hb hts wx_X2 tyX2 tyX2_ok nmX2 hown hK hP hD hS 0 rfl rfl 5 (by decide) (hts _ wf_X2_28) (fun _ h9 => h9) rfl (tyX2_ok 5 (by decide)) rfl rfl (Nat.le_of_ble_eq_true rfl) dX2_advance_70 (fun H locs hP hD hS => ?_)
      have hP : va_P D vwCl (TW cI h q (nI d) tp (tokC (byt tp d (skp tp d i))) (nI (skp tp d i)) (nI (skp tp d i)) 0 tn) H := hP
      have hD : va_D _ (TW cI h q (nI d) tp (tokC (byt tp d (skp tp d i))) (nI (skp tp d i)) (nI (skp tp d i)) 0 tn) := hD
      refine lv_aload_n hx hb dX2_advance_73 rfl (lv_at hl 0 rfl) ?_
      refine va_get (ci := 2) (v := .int (tokC (byt tp d (skp tp d i)))) hx hb hts wx_X2 hown hK hP 0 rfl rfl 2 (by decide) (hts _ wf_X2_19) (fun _ h9 => h9) rfl dX2_advance_74 ?_
      refine lv_iconst (v := 3) hx hb dX2_advance_77 rfl ?_
      refine lv_icmp_eq (tgt := 89) hx hb dX2_advance_78 rfl (fun c78 => ?_) (fun c78 => ?_)
      · have h4 := adv_sg hT (Or.inl c78)
        refine lv_aload_n hx hb dX2_advance_89 rfl (lv_at hl 0 rfl) ?_
        refine lv_aload_n hx hb dX2_advance_90 rfl (lv_at hl 0 rfl) ?_
        refine va_get (ci := 2) (v := .int (nI (skp tp d i))) hx hb hts wx_X2 hown hK hP 0 rfl rfl 3 (by decide) (hts _ wf_X2_22) (fun _ h9 => h9) rfl dX2_advance_91 ?_
        refine lv_iconst (v := 1) hx hb dX2_advance_94 rfl ?_
        refine lv_iadd hx hb dX2_advance_95 ?_
        refine w_i (z := nI (skp tp d i + 1)) (nI_1 _) ?_
        refine va_put (ci := 2) (v := .int (nI (skp tp d i + 1))) (ty := tyX2 4) hx hb hts wx_X2 tyX2 tyX2_ok nmX2 hown hK hP hD hS 0 rfl rfl 4 (by decide) (hts _ wf_X2_25) (fun _ h9 => h9) rfl (tyX2_ok 4 (by decide)) rfl rfl (Nat.le_of_ble_eq_true rfl) dX2_advance_96 (fun H locs hP hD hS => ?_)
        have hP : va_P D vwCl (TW cI h q (nI d) tp (tokC (byt tp d (skp tp d i))) (nI (skp tp d i)) (nI (skp tp d i + 1)) 0 tn) H := hP
        have hD : va_D _ (TW cI h q (nI d) tp (tokC (byt tp d (skp tp d i))) (nI (skp tp d i)) (nI (skp tp d i + 1)) 0 tn) := hD
        have hE : nI (skp tp d i + 1) = nI (tkE tp d (skp tp d i)) := by rw [h4.1]
        have hW : (TW cI h q (nI d) tp (tokC (byt tp d (skp tp d i))) (nI (skp tp d i)) (nI (skp tp d i + 1)) 0 tn) = (TW cI h q (nI d) tp (tokC (byt tp d (skp tp d i))) (nI (skp tp d i)) (nI (tkE tp d (skp tp d i))) 0 tn) := congrArg (fun z => (TW cI h q (nI d) tp (tokC (byt tp d (skp tp d i))) (nI (skp tp d i)) z 0 tn)) hE
        have hP : va_P D vwCl (TW cI h q (nI d) tp (tokC (byt tp d (skp tp d i))) (nI (skp tp d i)) (nI (tkE tp d (skp tp d i))) 0 tn) H := Eq.mp (congrArg (fun z => va_P D vwCl z H) hW) hP
        have hD : va_D _ (TW cI h q (nI d) tp (tokC (byt tp d (skp tp d i))) (nI (skp tp d i)) (nI (tkE tp d (skp tp d i))) 0 tn) := Eq.mp (congrArg (fun z => va_D _ z) hW) hD
        have hE : 0 = capV tp d (skp tp d i) := h4.2.symm
        have hW : (TW cI h q (nI d) tp (tokC (byt tp d (skp tp d i))) (nI (skp tp d i)) (nI (tkE tp d (skp tp d i))) 0 tn) = (TW cI h q (nI d) tp (tokC (byt tp d (skp tp d i))) (nI (skp tp d i)) (nI (tkE tp d (skp tp d i))) (capV tp d (skp tp d i)) tn) := congrArg (fun z => (TW cI h q (nI d) tp (tokC (byt tp d (skp tp d i))) (nI (skp tp d i)) (nI (tkE tp d (skp tp d i))) z tn)) hE
        have hP : va_P D vwCl (TW cI h q (nI d) tp (tokC (byt tp d (skp tp d i))) (nI (skp tp d i)) (nI (tkE tp d (skp tp d i))) (capV tp d (skp tp d i)) tn) H := Eq.mp (congrArg (fun z => va_P D vwCl z H) hW) hP
        have hD : va_D _ (TW cI h q (nI d) tp (tokC (byt tp d (skp tp d i))) (nI (skp tp d i)) (nI (tkE tp d (skp tp d i))) (capV tp d (skp tp d i)) tn) := Eq.mp (congrArg (fun z => va_D _ z) hW) hD
        exact mu_vret (TW cI h q (nI d) tp (tokC (byt tp d (skp tp d i))) (nI (skp tp d i)) (nI (tkE tp d (skp tp d i))) (capV tp d (skp tp d i)) tn) hx hb hr hlk hP hS rfl (⟨rfl, rfl⟩) dX2_advance_99
      · refine lv_aload_n hx hb dX2_advance_81 rfl (lv_at hl 0 rfl) ?_
        refine va_get (ci := 2) (v := .int (tokC (byt tp d (skp tp d i)))) hx hb hts wx_X2 hown hK hP 0 rfl rfl 2 (by decide) (hts _ wf_X2_19) (fun _ h9 => h9) rfl dX2_advance_82 ?_
        refine lv_iconst (v := 4) hx hb dX2_advance_85 rfl ?_
        refine lv_icmp_ne (tgt := 100) hx hb dX2_advance_86 rfl (fun c86 => ?_) (fun c86 => ?_)
        · have hE : 0 = (if isDig (byt tp d (skp tp d i)) then capI tp (skp tp d i) ((skp tp d i) - (skp tp d i)) else 0) := by rw [Nat.sub_self]; split <;> rfl
          have hW : (TW cI h q (nI d) tp (tokC (byt tp d (skp tp d i))) (nI (skp tp d i)) (nI (skp tp d i)) 0 tn) = (TW cI h q (nI d) tp (tokC (byt tp d (skp tp d i))) (nI (skp tp d i)) (nI (skp tp d i)) (if isDig (byt tp d (skp tp d i)) then capI tp (skp tp d i) ((skp tp d i) - (skp tp d i)) else 0) tn) := congrArg (fun z => (TW cI h q (nI d) tp (tokC (byt tp d (skp tp d i))) (nI (skp tp d i)) (nI (skp tp d i)) z tn)) hE
          have hP : va_P D vwCl (TW cI h q (nI d) tp (tokC (byt tp d (skp tp d i))) (nI (skp tp d i)) (nI (skp tp d i)) (if isDig (byt tp d (skp tp d i)) then capI tp (skp tp d i) ((skp tp d i) - (skp tp d i)) else 0) tn) H := Eq.mp (congrArg (fun z => va_P D vwCl z H) hW) hP
          have hD : va_D _ (TW cI h q (nI d) tp (tokC (byt tp d (skp tp d i))) (nI (skp tp d i)) (nI (skp tp d i)) (if isDig (byt tp d (skp tp d i)) then capI tp (skp tp d i) ((skp tp d i) - (skp tp d i)) else 0) tn) := Eq.mp (congrArg (fun z => va_D _ z) hW) hD
          refine w_loopH (pc := 100) (st := fun (j : Nat) => []) (μ := fun (j : Nat) => d - j) (I := fun (j : Nat) H locs ls => (skp tp d i ≤ j) ∧ (j ≤ d) ∧ (tkE tp d (skp tp d i) = scR (isLet (byt tp d (skp tp d i))) (isDig (byt tp d (skp tp d i))) tp d j) ∧ va_P D vwCl (TW cI h q (nI d) tp (tokC (byt tp d (skp tp d i))) (nI (skp tp d i)) (nI j) (if isDig (byt tp d (skp tp d i)) then capI tp (skp tp d i) (j - (skp tp d i)) else 0) tn) H ∧ va_D (fun z9 => z9 ∈ ((TW cI h q (nI d) tp tk bg (nI i) va tn)).map (fun z8 => z8.1)) (TW cI h q (nI d) tp (tokC (byt tp d (skp tp d i))) (nI (skp tp d i)) (nI j) (if isDig (byt tp d (skp tp d i)) then capI tp (skp tp d i) (j - (skp tp d i)) else 0) tn) ∧ va_S (fun z9 => z9 ∈ ((TW cI h q (nI d) tp tk bg (nI i) va tn)).map (fun z8 => z8.1)) s.heap H locs ∧ lv_has ls 1 [(0, .ref h)]) ?_ (skp tp d i) ⟨Nat.le_refl _, hsl, adv_in hT c78 c86, hP, hD, hS, lv_sub hl [0] rfl⟩
          rintro j H locs ls ⟨hj0, hj, hq, hP, hD, hS, hl⟩ ih100
          try dsimp only at ih100 ⊢
          refine lv_aload_n hx hb dX2_advance_100 rfl (lv_at hl 0 rfl) ?_
          refine va_get (ci := 2) (v := .int (nI j)) hx hb hts wx_X2 hown hK hP 0 rfl rfl 4 (by decide) (hts _ wf_X2_25) (fun _ h9 => h9) rfl dX2_advance_101 ?_
          refine lv_aload_n hx hb dX2_advance_104 rfl (lv_at hl 0 rfl) ?_
          refine va_get (ci := 2) (v := .int (nI d)) hx hb hts wx_X2 hown hK hP 0 rfl rfl 0 (by decide) (hts _ wf_X2_9) (fun _ h9 => h9) rfl dX2_advance_105 ?_
          refine lv_icmp_ge (tgt := 179) hx hb dX2_advance_108 rfl (fun c108 => ?_) (fun c108 => ?_)
          · replace c108 := nq_le (a := d) (b := j) (by omega) (by omega) c108
            have he := hq.trans (scR_out (by omega))
            have hE : nI j = nI (tkE tp d (skp tp d i)) := by rw [he]
            have hW : (TW cI h q (nI d) tp (tokC (byt tp d (skp tp d i))) (nI (skp tp d i)) (nI j) (if isDig (byt tp d (skp tp d i)) then capI tp (skp tp d i) (j - (skp tp d i)) else 0) tn) = (TW cI h q (nI d) tp (tokC (byt tp d (skp tp d i))) (nI (skp tp d i)) (nI (tkE tp d (skp tp d i))) (if isDig (byt tp d (skp tp d i)) then capI tp (skp tp d i) (j - (skp tp d i)) else 0) tn) := congrArg (fun z => (TW cI h q (nI d) tp (tokC (byt tp d (skp tp d i))) (nI (skp tp d i)) z (if isDig (byt tp d (skp tp d i)) then capI tp (skp tp d i) (j - (skp tp d i)) else 0) tn)) hE
            have hP : va_P D vwCl (TW cI h q (nI d) tp (tokC (byt tp d (skp tp d i))) (nI (skp tp d i)) (nI (tkE tp d (skp tp d i))) (if isDig (byt tp d (skp tp d i)) then capI tp (skp tp d i) (j - (skp tp d i)) else 0) tn) H := Eq.mp (congrArg (fun z => va_P D vwCl z H) hW) hP
            have hD : va_D _ (TW cI h q (nI d) tp (tokC (byt tp d (skp tp d i))) (nI (skp tp d i)) (nI (tkE tp d (skp tp d i))) (if isDig (byt tp d (skp tp d i)) then capI tp (skp tp d i) (j - (skp tp d i)) else 0) tn) := Eq.mp (congrArg (fun z => va_D _ z) hW) hD
            have hE : (if isDig (byt tp d (skp tp d i)) then capI tp (skp tp d i) (j - (skp tp d i)) else 0) = capV tp d (skp tp d i) := by rw [capV, he]
            have hW : (TW cI h q (nI d) tp (tokC (byt tp d (skp tp d i))) (nI (skp tp d i)) (nI (tkE tp d (skp tp d i))) (if isDig (byt tp d (skp tp d i)) then capI tp (skp tp d i) (j - (skp tp d i)) else 0) tn) = (TW cI h q (nI d) tp (tokC (byt tp d (skp tp d i))) (nI (skp tp d i)) (nI (tkE tp d (skp tp d i))) (capV tp d (skp tp d i)) tn) := congrArg (fun z => (TW cI h q (nI d) tp (tokC (byt tp d (skp tp d i))) (nI (skp tp d i)) (nI (tkE tp d (skp tp d i))) z tn)) hE
            have hP : va_P D vwCl (TW cI h q (nI d) tp (tokC (byt tp d (skp tp d i))) (nI (skp tp d i)) (nI (tkE tp d (skp tp d i))) (capV tp d (skp tp d i)) tn) H := Eq.mp (congrArg (fun z => va_P D vwCl z H) hW) hP
            have hD : va_D _ (TW cI h q (nI d) tp (tokC (byt tp d (skp tp d i))) (nI (skp tp d i)) (nI (tkE tp d (skp tp d i))) (capV tp d (skp tp d i)) tn) := Eq.mp (congrArg (fun z => va_D _ z) hW) hD
            exact mu_vret (TW cI h q (nI d) tp (tokC (byt tp d (skp tp d i))) (nI (skp tp d i)) (nI (tkE tp d (skp tp d i))) (capV tp d (skp tp d i)) tn) hx hb hr hlk hP hS rfl (⟨rfl, rfl⟩) dX2_advance_179
          · replace c108 := nq_nle (a := d) (b := j) (by omega) (by omega) c108
            have c108b : j < d := by omega
            refine lv_aload_n hx hb dX2_advance_111 rfl (lv_at hl 0 rfl) ?_
            refine lv_aload_n hx hb dX2_advance_112 rfl (lv_at hl 0 rfl) ?_
            refine va_get (ci := 2) (v := .int (nI j)) hx hb hts wx_X2 hown hK hP 0 rfl rfl 4 (by decide) (hts _ wf_X2_25) (fun _ h9 => h9) rfl dX2_advance_113 ?_
            refine ro_V (w := (TW cI h q (nI d) tp (tokC (byt tp d (skp tp d i))) (nI (skp tp d i)) (nI j) (if isDig (byt tp d (skp tp d i)) then capI tp (skp tp d i) (j - (skp tp d i)) else 0) tn)) (rest := []) S hK hP (k_X2_byteAt d j hd (by omega)) gv_X2_122 hd_X2_byteAt ⟨Nat.le_of_ble_eq_true rfl, Nat.le_of_ble_eq_true rfl⟩ 2 rfl rfl rfl rfl hl.1 (lv_room (Nat.le_of_ble_eq_true rfl)) dX2_advance_116 ⟨Nat.zero_le _, Nat.zero_le _⟩ ?_
            refine ro_S (w := []) (rest := []) S hK va_P0 (k_X2_tokenOf (byt tp d j)) gs_X2_130 hd_X2_tokenOf ⟨Nat.le_of_ble_eq_true rfl, Nat.le_of_ble_eq_true rfl⟩ rfl hl.1 (lv_room (Nat.le_of_ble_eq_true rfl)) dX2_advance_119 ⟨Nat.zero_le _, Nat.zero_le _⟩ ?_
            refine lv_aload_n hx hb dX2_advance_122 rfl (lv_at hl 0 rfl) ?_
            refine va_get (ci := 2) (v := .int (tokC (byt tp d (skp tp d i)))) hx hb hts wx_X2 hown hK hP 0 rfl rfl 2 (by decide) (hts _ wf_X2_19) (fun _ h9 => h9) rfl dX2_advance_123 ?_
            refine lv_icmp_ne (tgt := 179) hx hb dX2_advance_126 rfl (fun c126 => ?_) (fun c126 => ?_)
            · have he := hq.trans (adv_end c126)
              have hE : nI j = nI (tkE tp d (skp tp d i)) := by rw [he]
              have hW : (TW cI h q (nI d) tp (tokC (byt tp d (skp tp d i))) (nI (skp tp d i)) (nI j) (if isDig (byt tp d (skp tp d i)) then capI tp (skp tp d i) (j - (skp tp d i)) else 0) tn) = (TW cI h q (nI d) tp (tokC (byt tp d (skp tp d i))) (nI (skp tp d i)) (nI (tkE tp d (skp tp d i))) (if isDig (byt tp d (skp tp d i)) then capI tp (skp tp d i) (j - (skp tp d i)) else 0) tn) := congrArg (fun z => (TW cI h q (nI d) tp (tokC (byt tp d (skp tp d i))) (nI (skp tp d i)) z (if isDig (byt tp d (skp tp d i)) then capI tp (skp tp d i) (j - (skp tp d i)) else 0) tn)) hE
              have hP : va_P D vwCl (TW cI h q (nI d) tp (tokC (byt tp d (skp tp d i))) (nI (skp tp d i)) (nI (tkE tp d (skp tp d i))) (if isDig (byt tp d (skp tp d i)) then capI tp (skp tp d i) (j - (skp tp d i)) else 0) tn) H := Eq.mp (congrArg (fun z => va_P D vwCl z H) hW) hP
              have hD : va_D _ (TW cI h q (nI d) tp (tokC (byt tp d (skp tp d i))) (nI (skp tp d i)) (nI (tkE tp d (skp tp d i))) (if isDig (byt tp d (skp tp d i)) then capI tp (skp tp d i) (j - (skp tp d i)) else 0) tn) := Eq.mp (congrArg (fun z => va_D _ z) hW) hD
              have hE : (if isDig (byt tp d (skp tp d i)) then capI tp (skp tp d i) (j - (skp tp d i)) else 0) = capV tp d (skp tp d i) := by rw [capV, he]
              have hW : (TW cI h q (nI d) tp (tokC (byt tp d (skp tp d i))) (nI (skp tp d i)) (nI (tkE tp d (skp tp d i))) (if isDig (byt tp d (skp tp d i)) then capI tp (skp tp d i) (j - (skp tp d i)) else 0) tn) = (TW cI h q (nI d) tp (tokC (byt tp d (skp tp d i))) (nI (skp tp d i)) (nI (tkE tp d (skp tp d i))) (capV tp d (skp tp d i)) tn) := congrArg (fun z => (TW cI h q (nI d) tp (tokC (byt tp d (skp tp d i))) (nI (skp tp d i)) (nI (tkE tp d (skp tp d i))) z tn)) hE
              have hP : va_P D vwCl (TW cI h q (nI d) tp (tokC (byt tp d (skp tp d i))) (nI (skp tp d i)) (nI (tkE tp d (skp tp d i))) (capV tp d (skp tp d i)) tn) H := Eq.mp (congrArg (fun z => va_P D vwCl z H) hW) hP
              have hD : va_D _ (TW cI h q (nI d) tp (tokC (byt tp d (skp tp d i))) (nI (skp tp d i)) (nI (tkE tp d (skp tp d i))) (capV tp d (skp tp d i)) tn) := Eq.mp (congrArg (fun z => va_D _ z) hW) hD
              exact mu_vret (TW cI h q (nI d) tp (tokC (byt tp d (skp tp d i))) (nI (skp tp d i)) (nI (tkE tp d (skp tp d i))) (capV tp d (skp tp d i)) tn) hx hb hr hlk hP hS rfl (⟨rfl, rfl⟩) dX2_advance_179
            · have hstp := adv_step hT c108b c126 c78 c86
              refine lv_aload_n hx hb dX2_advance_129 rfl (lv_at hl 0 rfl) ?_
              refine va_get (ci := 2) (v := .int (tokC (byt tp d (skp tp d i)))) hx hb hts wx_X2 hown hK hP 0 rfl rfl 2 (by decide) (hts _ wf_X2_19) (fun _ h9 => h9) rfl dX2_advance_130 ?_
              refine lv_iconst (v := 2) hx hb dX2_advance_133 rfl ?_
              refine lv_icmp_ne (tgt := 166) hx hb dX2_advance_134 rfl (fun c134 => ?_) (fun c134 => ?_)
              · have hE : (if isDig (byt tp d (skp tp d i)) then capI tp (skp tp d i) (j - (skp tp d i)) else 0) = (if isDig (byt tp d (skp tp d i)) then capI tp (skp tp d i) (j + 1 - (skp tp d i)) else 0) := cap_n (fun z => c134 (tok_2.mpr z))
                have hW : (TW cI h q (nI d) tp (tokC (byt tp d (skp tp d i))) (nI (skp tp d i)) (nI j) (if isDig (byt tp d (skp tp d i)) then capI tp (skp tp d i) (j - (skp tp d i)) else 0) tn) = (TW cI h q (nI d) tp (tokC (byt tp d (skp tp d i))) (nI (skp tp d i)) (nI j) (if isDig (byt tp d (skp tp d i)) then capI tp (skp tp d i) (j + 1 - (skp tp d i)) else 0) tn) := congrArg (fun z => (TW cI h q (nI d) tp (tokC (byt tp d (skp tp d i))) (nI (skp tp d i)) (nI j) z tn)) hE
                have hP : va_P D vwCl (TW cI h q (nI d) tp (tokC (byt tp d (skp tp d i))) (nI (skp tp d i)) (nI j) (if isDig (byt tp d (skp tp d i)) then capI tp (skp tp d i) (j + 1 - (skp tp d i)) else 0) tn) H := Eq.mp (congrArg (fun z => va_P D vwCl z H) hW) hP
                have hD : va_D _ (TW cI h q (nI d) tp (tokC (byt tp d (skp tp d i))) (nI (skp tp d i)) (nI j) (if isDig (byt tp d (skp tp d i)) then capI tp (skp tp d i) (j + 1 - (skp tp d i)) else 0) tn) := Eq.mp (congrArg (fun z => va_D _ z) hW) hD
                refine lv_aload_n hx hb dX2_advance_166 rfl (lv_at hl 0 rfl) ?_
                refine lv_dup hx hb dX2_advance_167 rfl ?_
                refine va_get (ci := 2) (v := .int (nI j)) hx hb hts wx_X2 hown hK hP 0 rfl rfl 4 (by decide) (hts _ wf_X2_25) (fun _ h9 => h9) rfl dX2_advance_168 ?_
                refine lv_iconst (v := 1) hx hb dX2_advance_171 rfl ?_
                refine lv_iadd hx hb dX2_advance_172 ?_
                refine w_i (z := nI (j + 1)) (nI_1 j) ?_
                refine va_put (ci := 2) (v := .int (nI (j + 1))) (ty := tyX2 4) hx hb hts wx_X2 tyX2 tyX2_ok nmX2 hown hK hP hD hS 0 rfl rfl 4 (by decide) (hts _ wf_X2_25) (fun _ h9 => h9) rfl (tyX2_ok 4 (by decide)) rfl rfl (Nat.le_of_ble_eq_true rfl) dX2_advance_173 (fun H locs hP hD hS => ?_)
                have hP : va_P D vwCl (TW cI h q (nI d) tp (tokC (byt tp d (skp tp d i))) (nI (skp tp d i)) (nI (j + 1)) (if isDig (byt tp d (skp tp d i)) then capI tp (skp tp d i) (j + 1 - (skp tp d i)) else 0) tn) H := hP
                have hD : va_D _ (TW cI h q (nI d) tp (tokC (byt tp d (skp tp d i))) (nI (skp tp d i)) (nI (j + 1)) (if isDig (byt tp d (skp tp d i)) then capI tp (skp tp d i) (j + 1 - (skp tp d i)) else 0) tn) := hD
                refine lv_goto (tgt := 100) hx hb dX2_advance_176 rfl ?_
                exact ih100 (j + 1) _ _ ls (by first | omega | (dsimp only; omega)) ⟨(by omega), (by omega), hq.trans hstp, hP, hD, hS, lv_sub hl [0] rfl⟩
              · refine lv_aload_n hx hb dX2_advance_137 rfl (lv_at hl 0 rfl) ?_
                refine lv_bipush (v := 10) hx hb dX2_advance_138 rfl ?_
                refine lv_aload_n hx hb dX2_advance_140 rfl (lv_at hl 0 rfl) ?_
                refine va_get (ci := 2) (v := .int (if isDig (byt tp d (skp tp d i)) then capI tp (skp tp d i) (j - (skp tp d i)) else 0)) hx hb hts wx_X2 hown hK hP 0 rfl rfl 5 (by decide) (hts _ wf_X2_28) (fun _ h9 => h9) rfl dX2_advance_141 ?_
                refine lv_imul hx hb dX2_advance_144 ?_
                refine lv_aload_n hx hb dX2_advance_145 rfl (lv_at hl 0 rfl) ?_
                refine lv_aload_n hx hb dX2_advance_146 rfl (lv_at hl 0 rfl) ?_
                refine va_get (ci := 2) (v := .int (nI j)) hx hb hts wx_X2 hown hK hP 0 rfl rfl 4 (by decide) (hts _ wf_X2_25) (fun _ h9 => h9) rfl dX2_advance_147 ?_
                refine ro_V (w := (TW cI h q (nI d) tp (tokC (byt tp d (skp tp d i))) (nI (skp tp d i)) (nI j) (if isDig (byt tp d (skp tp d i)) then capI tp (skp tp d i) (j - (skp tp d i)) else 0) tn)) (rest := [.int (10 * (if isDig (byt tp d (skp tp d i)) then capI tp (skp tp d i) (j - (skp tp d i)) else 0)), .ref h]) S hK hP (k_X2_byteAt d j hd (by omega)) gv_X2_122 hd_X2_byteAt ⟨Nat.le_of_ble_eq_true rfl, Nat.le_of_ble_eq_true rfl⟩ 2 rfl rfl rfl rfl hl.1 (lv_room (Nat.le_of_ble_eq_true rfl)) dX2_advance_150 ⟨Nat.zero_le _, Nat.zero_le _⟩ ?_
                refine lv_iadd hx hb dX2_advance_153 ?_
                refine lv_bipush (v := 48) hx hb dX2_advance_154 rfl ?_
                refine lv_isub hx hb dX2_advance_156 ?_
                refine lv_sipush (v := 1000) hx hb dX2_advance_157 rfl ?_
                refine va_mmin hx hb (hml.trans hl.1.symm) hown (hts _ wm_X2_133) (hts _ wt_J9_min_7cf53) (hts _ wi_J9) (hts _ wc_J9_min_7cf53) (Nat.le_of_ble_eq_true rfl) (Nat.le_of_ble_eq_true rfl) (Nat.zero_le _) (Nat.zero_le _) dX2_advance_160 ?_
                refine va_put (ci := 2) (v := .int (if 1000 < (((10 * (if isDig (byt tp d (skp tp d i)) then capI tp (skp tp d i) (j - (skp tp d i)) else 0)) + (byt tp d j)) - 48) then 1000 else ((10 * (if isDig (byt tp d (skp tp d i)) then capI tp (skp tp d i) (j - (skp tp d i)) else 0)) + (byt tp d j)) - 48)) (ty := tyX2 5) hx hb hts wx_X2 tyX2 tyX2_ok nmX2 hown hK hP hD hS 0 rfl rfl 5 (by decide) (hts _ wf_X2_28) (fun _ h9 => h9) rfl (tyX2_ok 5 (by decide)) rfl rfl (Nat.le_of_ble_eq_true rfl) dX2_advance_163 (fun H locs hP hD hS => ?_)
                have hP : va_P D vwCl (TW cI h q (nI d) tp (tokC (byt tp d (skp tp d i))) (nI (skp tp d i)) (nI j) (if 1000 < (((10 * (if isDig (byt tp d (skp tp d i)) then capI tp (skp tp d i) (j - (skp tp d i)) else 0)) + (byt tp d j)) - 48) then 1000 else ((10 * (if isDig (byt tp d (skp tp d i)) then capI tp (skp tp d i) (j - (skp tp d i)) else 0)) + (byt tp d j)) - 48) tn) H := hP
                have hD : va_D _ (TW cI h q (nI d) tp (tokC (byt tp d (skp tp d i))) (nI (skp tp d i)) (nI j) (if 1000 < (((10 * (if isDig (byt tp d (skp tp d i)) then capI tp (skp tp d i) (j - (skp tp d i)) else 0)) + (byt tp d j)) - 48) then 1000 else ((10 * (if isDig (byt tp d (skp tp d i)) then capI tp (skp tp d i) (j - (skp tp d i)) else 0)) + (byt tp d j)) - 48) tn) := hD
                have hE : (if 1000 < (((10 * (if isDig (byt tp d (skp tp d i)) then capI tp (skp tp d i) (j - (skp tp d i)) else 0)) + (byt tp d j)) - 48) then 1000 else ((10 * (if isDig (byt tp d (skp tp d i)) then capI tp (skp tp d i) (j - (skp tp d i)) else 0)) + (byt tp d j)) - 48) = (if isDig (byt tp d (skp tp d i)) then capI tp (skp tp d i) (j + 1 - (skp tp d i)) else 0) := cap_s (tok_2.mp c134) (by omega) (byt_lt c108b)
                have hW : (TW cI h q (nI d) tp (tokC (byt tp d (skp tp d i))) (nI (skp tp d i)) (nI j) (if 1000 < (((10 * (if isDig (byt tp d (skp tp d i)) then capI tp (skp tp d i) (j - (skp tp d i)) else 0)) + (byt tp d j)) - 48) then 1000 else ((10 * (if isDig (byt tp d (skp tp d i)) then capI tp (skp tp d i) (j - (skp tp d i)) else 0)) + (byt tp d j)) - 48) tn) = (TW cI h q (nI d) tp (tokC (byt tp d (skp tp d i))) (nI (skp tp d i)) (nI j) (if isDig (byt tp d (skp tp d i)) then capI tp (skp tp d i) (j + 1 - (skp tp d i)) else 0) tn) := congrArg (fun z => (TW cI h q (nI d) tp (tokC (byt tp d (skp tp d i))) (nI (skp tp d i)) (nI j) z tn)) hE
                have hP : va_P D vwCl (TW cI h q (nI d) tp (tokC (byt tp d (skp tp d i))) (nI (skp tp d i)) (nI j) (if isDig (byt tp d (skp tp d i)) then capI tp (skp tp d i) (j + 1 - (skp tp d i)) else 0) tn) H := Eq.mp (congrArg (fun z => va_P D vwCl z H) hW) hP
                have hD : va_D _ (TW cI h q (nI d) tp (tokC (byt tp d (skp tp d i))) (nI (skp tp d i)) (nI j) (if isDig (byt tp d (skp tp d i)) then capI tp (skp tp d i) (j + 1 - (skp tp d i)) else 0) tn) := Eq.mp (congrArg (fun z => va_D _ z) hW) hD
                refine lv_aload_n hx hb dX2_advance_166 rfl (lv_at hl 0 rfl) ?_
                refine lv_dup hx hb dX2_advance_167 rfl ?_
                refine va_get (ci := 2) (v := .int (nI j)) hx hb hts wx_X2 hown hK hP 0 rfl rfl 4 (by decide) (hts _ wf_X2_25) (fun _ h9 => h9) rfl dX2_advance_168 ?_
                refine lv_iconst (v := 1) hx hb dX2_advance_171 rfl ?_
                refine lv_iadd hx hb dX2_advance_172 ?_
                refine w_i (z := nI (j + 1)) (nI_1 j) ?_
                refine va_put (ci := 2) (v := .int (nI (j + 1))) (ty := tyX2 4) hx hb hts wx_X2 tyX2 tyX2_ok nmX2 hown hK hP hD hS 0 rfl rfl 4 (by decide) (hts _ wf_X2_25) (fun _ h9 => h9) rfl (tyX2_ok 4 (by decide)) rfl rfl (Nat.le_of_ble_eq_true rfl) dX2_advance_173 (fun H locs hP hD hS => ?_)
                have hP : va_P D vwCl (TW cI h q (nI d) tp (tokC (byt tp d (skp tp d i))) (nI (skp tp d i)) (nI (j + 1)) (if isDig (byt tp d (skp tp d i)) then capI tp (skp tp d i) (j + 1 - (skp tp d i)) else 0) tn) H := hP
                have hD : va_D _ (TW cI h q (nI d) tp (tokC (byt tp d (skp tp d i))) (nI (skp tp d i)) (nI (j + 1)) (if isDig (byt tp d (skp tp d i)) then capI tp (skp tp d i) (j + 1 - (skp tp d i)) else 0) tn) := hD
                refine lv_goto (tgt := 100) hx hb dX2_advance_176 rfl ?_
                exact ih100 (j + 1) _ _ ls (by first | omega | (dsimp only; omega)) ⟨(by omega), (by omega), hq.trans hstp, hP, hD, hS, lv_sub hl [0] rfl⟩
        · have h4 := adv_sg hT (Or.inr c86)
          refine lv_aload_n hx hb dX2_advance_89 rfl (lv_at hl 0 rfl) ?_
          refine lv_aload_n hx hb dX2_advance_90 rfl (lv_at hl 0 rfl) ?_
          refine va_get (ci := 2) (v := .int (nI (skp tp d i))) hx hb hts wx_X2 hown hK hP 0 rfl rfl 3 (by decide) (hts _ wf_X2_22) (fun _ h9 => h9) rfl dX2_advance_91 ?_
          refine lv_iconst (v := 1) hx hb dX2_advance_94 rfl ?_
          refine lv_iadd hx hb dX2_advance_95 ?_
          refine w_i (z := nI (skp tp d i + 1)) (nI_1 _) ?_
          refine va_put (ci := 2) (v := .int (nI (skp tp d i + 1))) (ty := tyX2 4) hx hb hts wx_X2 tyX2 tyX2_ok nmX2 hown hK hP hD hS 0 rfl rfl 4 (by decide) (hts _ wf_X2_25) (fun _ h9 => h9) rfl (tyX2_ok 4 (by decide)) rfl rfl (Nat.le_of_ble_eq_true rfl) dX2_advance_96 (fun H locs hP hD hS => ?_)
          have hP : va_P D vwCl (TW cI h q (nI d) tp (tokC (byt tp d (skp tp d i))) (nI (skp tp d i)) (nI (skp tp d i + 1)) 0 tn) H := hP
          have hD : va_D _ (TW cI h q (nI d) tp (tokC (byt tp d (skp tp d i))) (nI (skp tp d i)) (nI (skp tp d i + 1)) 0 tn) := hD
          have hE : nI (skp tp d i + 1) = nI (tkE tp d (skp tp d i)) := by rw [h4.1]
          have hW : (TW cI h q (nI d) tp (tokC (byt tp d (skp tp d i))) (nI (skp tp d i)) (nI (skp tp d i + 1)) 0 tn) = (TW cI h q (nI d) tp (tokC (byt tp d (skp tp d i))) (nI (skp tp d i)) (nI (tkE tp d (skp tp d i))) 0 tn) := congrArg (fun z => (TW cI h q (nI d) tp (tokC (byt tp d (skp tp d i))) (nI (skp tp d i)) z 0 tn)) hE
          have hP : va_P D vwCl (TW cI h q (nI d) tp (tokC (byt tp d (skp tp d i))) (nI (skp tp d i)) (nI (tkE tp d (skp tp d i))) 0 tn) H := Eq.mp (congrArg (fun z => va_P D vwCl z H) hW) hP
          have hD : va_D _ (TW cI h q (nI d) tp (tokC (byt tp d (skp tp d i))) (nI (skp tp d i)) (nI (tkE tp d (skp tp d i))) 0 tn) := Eq.mp (congrArg (fun z => va_D _ z) hW) hD
          have hE : 0 = capV tp d (skp tp d i) := h4.2.symm
          have hW : (TW cI h q (nI d) tp (tokC (byt tp d (skp tp d i))) (nI (skp tp d i)) (nI (tkE tp d (skp tp d i))) 0 tn) = (TW cI h q (nI d) tp (tokC (byt tp d (skp tp d i))) (nI (skp tp d i)) (nI (tkE tp d (skp tp d i))) (capV tp d (skp tp d i)) tn) := congrArg (fun z => (TW cI h q (nI d) tp (tokC (byt tp d (skp tp d i))) (nI (skp tp d i)) (nI (tkE tp d (skp tp d i))) z tn)) hE
          have hP : va_P D vwCl (TW cI h q (nI d) tp (tokC (byt tp d (skp tp d i))) (nI (skp tp d i)) (nI (tkE tp d (skp tp d i))) (capV tp d (skp tp d i)) tn) H := Eq.mp (congrArg (fun z => va_P D vwCl z H) hW) hP
          have hD : va_D _ (TW cI h q (nI d) tp (tokC (byt tp d (skp tp d i))) (nI (skp tp d i)) (nI (tkE tp d (skp tp d i))) (capV tp d (skp tp d i)) tn) := Eq.mp (congrArg (fun z => va_D _ z) hW) hD
          exact mu_vret (TW cI h q (nI d) tp (tokC (byt tp d (skp tp d i))) (nI (skp tp d i)) (nI (tkE tp d (skp tp d i))) (capV tp d (skp tp d i)) tn) hx hb hr hlk hP hS rfl (⟨rfl, rfl⟩) dX2_advance_99
    · have hby := byt_sp c29
      have hby1 := hby.1
      refine lv_aload_n hx hb dX2_advance_32 rfl (lv_at hl 0 rfl) ?_
      refine lv_dup hx hb dX2_advance_33 rfl ?_
      refine va_get (ci := 2) (v := .int (nI j)) hx hb hts wx_X2 hown hK hP 0 rfl rfl 3 (by decide) (hts _ wf_X2_22) (fun _ h9 => h9) rfl dX2_advance_34 ?_
      refine lv_iconst (v := 1) hx hb dX2_advance_37 rfl ?_
      refine lv_iadd hx hb dX2_advance_38 ?_
      refine w_i (z := nI (j + 1)) (nI_1 j) ?_
      refine va_put (ci := 2) (v := .int (nI (j + 1))) (ty := tyX2 3) hx hb hts wx_X2 tyX2 tyX2_ok nmX2 hown hK hP hD hS 0 rfl rfl 3 (by decide) (hts _ wf_X2_22) (fun _ h9 => h9) rfl (tyX2_ok 3 (by decide)) rfl rfl (Nat.le_of_ble_eq_true rfl) dX2_advance_39 (fun H locs hP hD hS => ?_)
      have hP : va_P D vwCl (TW cI h q (nI d) tp tk (nI (j + 1)) (nI i) va tn) H := hP
      have hD : va_D _ (TW cI h q (nI d) tp tk (nI (j + 1)) (nI i) va tn) := hD
      refine lv_goto (tgt := 8) hx hb dX2_advance_42 rfl ?_
      exact ih8 (j + 1) _ _ ls (by first | omega | (dsimp only; omega)) ⟨(by omega), hs.trans hby.2, hP, hD, hS, lv_sub hl [0] rfl⟩

end
