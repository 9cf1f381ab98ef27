section
variable {l : Launch} {D : va_G} {cI cJ cO : ClassId} {A : Nat → Nat} {sS kS oS aS tS : Nat → Int32} {ik : Int32} {cA tp : Nat → Int32} {td fm tt vl wr : Int32} {bO sO : Nat → Int32} {nU mV : Nat → Int64}

set_option maxHeartbeats 4000000 in
set_option maxRecDepth 100000 in
theorem k_X4_night (n : Nat) (d : Nat) (hI : Inv sS n) (hd : d ≤ 120) : MU l D (tyA cI cJ cO) yX4_night cX4_night 2 ((some .int)) 7 159 [.ref (A 0)] (MW cI cJ A sS kS oS aS tS ik cA tp (nI d) fm tt vl wr bO sO nU mV) (fun ov w' => ∃ (oS' : Nat → Int32) (fm' tt' vl' wr' : Int32), ov = some (.int (nightA (nightP tp d sS n))) ∧ w' = (MW cI cJ A (nightG (nightP tp d sS n) sS) kS oS' aS tS ik cA tp 0 fm' tt' vl' wr' bO sO nU mV)) := by
  refine MU.mk (by decide) (Nat.le_of_ble_eq_true rfl) ?_
  intro p e s m below meth c ls S hr hlk hP hK hD hS hl
  have S : CallFix p m c cX4_night 2 s _ WL RX4 := S
  obtain ⟨hx, hb, hml, hown, hts⟩ := id S
  have hl : lv_has ls 2 [(0, .ref (A 0))] := hl
  have h8 : n ≤ 8 := hI.1
  have hf : skp tp d 0 ≤ d := skp_le (Nat.zero_le d)
  refine lv_aload_n hx hb dX4_night_0 rfl (lv_at hl 0 rfl) ?_
  refine mu_W (w := (MW cI cJ A sS kS oS aS tS ik cA tp (nI d) fm tt vl wr bO sO nU mV)) (rest := []) S hK hP hD hS (k_X4_saves ) gv_X4_310 hd_X4_saves ⟨Nat.le_of_ble_eq_true rfl, Nat.le_of_ble_eq_true rfl⟩ 4 rfl rfl rfl rfl hl.1 (lv_room (Nat.le_of_ble_eq_true rfl)) dX4_night_1 ⟨Nat.zero_le _, Nat.zero_le _⟩ (fun ov w' H locs hp hP hD hS => ?_)
  obtain ⟨rfl, rfl⟩ := hp
  refine W.eq (g2 := F0 m 4 ls []) rfl ?_
  refine lv_aload_n hx hb dX4_night_4 rfl (lv_at hl 0 rfl) ?_
  refine lv_iconst (v := 0) hx hb dX4_night_5 rfl ?_
  refine va_put (ci := 4) (v := .int 0) (ty := tyX4 12) hx hb hts wx_X4 tyX4 tyX4_ok nmX4 hown hK hP hD hS 0 rfl rfl 12 (by decide) (hts _ wf_X4_234) (fun _ h9 => h9) rfl (tyX4_ok 12 (by decide)) rfl rfl (Nat.le_of_ble_eq_true rfl) dX4_night_6 (fun H locs hP hD hS => ?_)
  have hP : va_P D vwCl (MW cI cJ A sS kS sS aS tS ik cA tp (nI d) fm tt vl 0 bO sO nU mV) H := hP
  have hD : va_D _ (MW cI cJ A sS kS sS aS tS ik cA tp (nI d) fm tt vl 0 bO sO nU mV) := hD
  refine lv_aload_n hx hb dX4_night_9 rfl (lv_at hl 0 rfl) ?_
  refine lv_iconst (v := 0) hx hb dX4_night_10 rfl ?_
  refine va_put (ci := 4) (v := .int 0) (ty := tyX4 10) hx hb hts wx_X4 tyX4 tyX4_ok nmX4 hown hK hP hD hS 0 rfl rfl 10 (by decide) (hts _ wf_X4_219) (fun _ h9 => h9) rfl (tyX4_ok 10 (by decide)) rfl rfl (Nat.le_of_ble_eq_true rfl) dX4_night_11 (fun H locs hP hD hS => ?_)
  have hP : va_P D vwCl (MW cI cJ A sS kS sS aS tS ik cA tp (nI d) fm 0 vl 0 bO sO nU mV) H := hP
  have hD : va_D _ (MW cI cJ A sS kS sS aS tS ik cA tp (nI d) fm 0 vl 0 bO sO nU mV) := hD
  have hE : 0 = nI 0 := rfl
  have hW : (MW cI cJ A sS kS sS aS tS ik cA tp (nI d) fm 0 vl 0 bO sO nU mV) = (MW cI cJ A sS kS sS aS tS ik cA tp (nI d) fm (nI 0) vl 0 bO sO nU mV) := congrArg (fun z => (MW cI cJ A sS kS sS aS tS ik cA tp (nI d) fm z vl 0 bO sO nU mV)) hE
  have hP : va_P D vwCl (MW cI cJ A sS kS sS aS tS ik cA tp (nI d) fm (nI 0) vl 0 bO sO nU mV) H := Eq.mp (congrArg (fun z => va_P D vwCl z H) hW) hP
  have hD : va_D _ (MW cI cJ A sS kS sS aS tS ik cA tp (nI d) fm (nI 0) vl 0 bO sO nU mV) := Eq.mp (congrArg (fun z => va_D _ z) hW) hD
  refine lv_aload_n hx hb dX4_night_14 rfl (lv_at hl 0 rfl) ?_
  refine mu_W (w := (MW cI cJ A sS kS sS aS tS ik cA tp (nI d) fm (nI 0) vl 0 bO sO nU mV)) (rest := []) S hK hP hD hS (k_X4_token d 0 hd (Nat.zero_le d)) gv_X4_238 hd_X4_token ⟨Nat.le_of_ble_eq_true rfl, Nat.le_of_ble_eq_true rfl⟩ 4 rfl rfl rfl rfl hl.1 (lv_room (Nat.le_of_ble_eq_true rfl)) dX4_night_15 ⟨Nat.zero_le _, Nat.zero_le _⟩ (fun ov w' H locs hp hP hD hS => ?_)
  obtain ⟨rfl, rfl⟩ := hp
  refine W.eq (g2 := F0 m 18 ls []) rfl ?_
  refine lv_iconst (v := 1) hx hb dX4_night_18 rfl ?_
  refine w_i (z := nI 1) (rfl) ?_
  refine lv_istore_n (lv' := [(1, .int (nI 1)), (0, .ref (A 0))]) hx hb dX4_night_19 rfl hl (by decide) rfl (fun ls hl => ?_)
  refine lv_aload_n hx hb dX4_night_20 rfl (lv_at hl 1 rfl) ?_
  refine mu_W (w := (MW cI cJ A sS kS sS aS tS ik cA tp (nI d) (nI (skp tp d 0)) (nI (tkE tp d (skp tp d 0))) vl 0 bO sO nU mV)) (rest := []) S hK hP hD hS (k_X4_item n d (skp tp d 0) hI hd (hf)) gv_X4_313 hd_X4_item ⟨Nat.le_of_ble_eq_true rfl, Nat.le_of_ble_eq_true rfl⟩ 4 rfl rfl rfl rfl hl.1 (lv_room (Nat.le_of_ble_eq_true rfl)) dX4_night_21 ⟨Nat.zero_le _, Nat.zero_le _⟩ (fun ov w' H locs hp hP hD hS => ?_)
  obtain ⟨s8, f8, t8, v8, w8, rfl, hit, rfl⟩ := hp
  refine W.eq (g2 := F0 m 24 ls []) rfl ?_
  refine w_loopH (pc := 24) (st := fun (x : (Nat → Int32) × Int32 × Int32 × Int32 × Int32 × Nat × Nat) => match x with | (s9, f9, t9, v9, w9, it, m9) => []) (μ := fun (x : (Nat → Int32) × Int32 × Int32 × Int32 × Int32 × Nat × Nat) => match x with | (s9, f9, t9, v9, w9, it, m9) => m9) (I := fun (x : (Nat → Int32) × Int32 × Int32 × Int32 × Int32 × Nat × Nat) H locs ls => match x with | (s9, f9, t9, v9, w9, it, m9) => (nOK tp d (nightP tp d sS n) s9 f9 t9 w9 it m9) ∧ va_P D vwCl (MW cI cJ A s9 kS sS aS tS ik cA tp (nI d) f9 t9 v9 w9 bO sO nU mV) H ∧ va_D (fun z9 => z9 ∈ ((MW cI cJ A sS kS oS aS tS ik cA tp (nI d) fm tt vl wr bO sO nU mV)).map (fun z8 => z8.1)) (MW cI cJ A s9 kS sS aS tS ik cA tp (nI d) f9 t9 v9 w9 bO sO nU mV) ∧ va_S (fun z9 => z9 ∈ ((MW cI cJ A sS kS oS aS tS ik cA tp (nI d) fm tt vl wr bO sO nU mV)).map (fun z8 => z8.1)) s.heap H locs ∧ lv_has ls 2 [(0, .ref (A 0)), (1, .int (nI it))]) ?_ (s8, f8, t8, v8, w8, 1, 119) ⟨nOK_of hI hf (by omega) rfl hit, hP, hD, hS, lv_sub hl [1, 0] rfl⟩
  rintro ⟨s9, f9, t9, v9, w9, it, m9⟩ H locs ls ⟨hok, hP, hD, hS, hl⟩ ih24
  try dsimp only at ih24 ⊢
  refine lv_aload_n hx hb dX4_night_24 rfl (lv_at hl 0 rfl) ?_
  rcases hok with ⟨p9, hp9, rfl, rfl, hR⟩ | ⟨n9, q9, rfl, hI9, rfl, rfl, hq9, hm9, hR⟩
  · have hP : va_P D vwCl (MW cI cJ A s9 kS sS aS tS ik cA tp (nI d) (nI p9) t9 v9 1 bO sO nU mV) H := hP
    have hD : va_D _ (MW cI cJ A s9 kS sS aS tS ik cA tp (nI d) (nI p9) t9 v9 1 bO sO nU mV) := hD
    refine va_get (ci := 4) (v := .int 1) hx hb hts wx_X4 hown hK hP 0 rfl rfl 12 (by decide) (hts _ wf_X4_234) (fun _ h9 => h9) rfl dX4_night_25 ?_
    refine lv_if_ne (tgt := 59) hx hb dX4_night_28 rfl (fun c28 => ?_) (fun c28 => ?_)
    · refine lv_aload_n hx hb dX4_night_59 rfl (lv_at hl 0 rfl) ?_
      refine lv_aload_n hx hb dX4_night_60 rfl (lv_at hl 0 rfl) ?_
      refine va_get (ci := 4) (v := .int 1) hx hb hts wx_X4 hown hK hP 0 rfl rfl 12 (by decide) (hts _ wf_X4_234) (fun _ h9 => h9) rfl dX4_night_61 ?_
      refine lv_if_ne (tgt := 78) hx hb dX4_night_64 rfl (fun c64 => ?_) (fun c64 => ?_)
      · refine lv_iconst (v := 1) hx hb dX4_night_78 rfl ?_
        refine lv_goto (tgt := 83) hx hb dX4_night_79 rfl ?_
        refine va_put (ci := 4) (v := .int 1) (ty := tyX4 12) hx hb hts wx_X4 tyX4 tyX4_ok nmX4 hown hK hP hD hS 0 rfl rfl 12 (by decide) (hts _ wf_X4_234) (fun _ h9 => h9) rfl (tyX4_ok 12 (by decide)) rfl rfl (Nat.le_of_ble_eq_true rfl) dX4_night_83 (fun H locs hP hD hS => ?_)
        have hP : va_P D vwCl (MW cI cJ A s9 kS sS aS tS ik cA tp (nI d) (nI p9) t9 v9 1 bO sO nU mV) H := hP
        have hD : va_D _ (MW cI cJ A s9 kS sS aS tS ik cA tp (nI d) (nI p9) t9 v9 1 bO sO nU mV) := hD
        refine lv_aload_n hx hb dX4_night_86 rfl (lv_at hl 0 rfl) ?_
        refine va_get (ci := 4) (v := .int 1) hx hb hts wx_X4 hown hK hP 0 rfl rfl 12 (by decide) (hts _ wf_X4_234) (fun _ h9 => h9) rfl dX4_night_87 ?_
        refine lv_if_eq (tgt := 97) hx hb dX4_night_90 rfl (fun c90 => ?_) (fun c90 => ?_)
        · exact absurd c90 (by decide)
        · refine lv_aload_n hx hb dX4_night_93 rfl (lv_at hl 0 rfl) ?_
          refine mu_W (w := (MW cI cJ A s9 kS sS aS tS ik cA tp (nI d) (nI p9) t9 v9 1 bO sO nU mV)) (rest := []) S hK hP hD hS (k_X4_putsBack ) gv_X4_316 hd_X4_putsBack ⟨Nat.le_of_ble_eq_true rfl, Nat.le_of_ble_eq_true rfl⟩ 4 rfl rfl rfl rfl hl.1 (lv_room (Nat.le_of_ble_eq_true rfl)) dX4_night_94 ⟨Nat.zero_le _, Nat.zero_le _⟩ (fun ov w' H locs hp hP hD hS => ?_)
          obtain ⟨rfl, rfl⟩ := hp
          refine W.eq (g2 := F0 m 97 ls []) rfl ?_
          refine lv_aload_n hx hb dX4_night_97 rfl (lv_at hl 0 rfl) ?_
          refine lv_iconst (v := 0) hx hb dX4_night_98 rfl ?_
          refine va_put (ci := 4) (v := .int 0) (ty := tyX4 8) hx hb hts wx_X4 tyX4 tyX4_ok nmX4 hown hK hP hD hS 0 rfl rfl 8 (by decide) (hts _ wf_X4_207) (fun _ h9 => h9) rfl (tyX4_ok 8 (by decide)) rfl rfl (Nat.le_of_ble_eq_true rfl) dX4_night_99 (fun H locs hP hD hS => ?_)
          have hP : va_P D vwCl (MW cI cJ A sS kS sS aS tS ik cA tp 0 (nI p9) t9 v9 1 bO sO nU mV) H := hP
          have hD : va_D _ (MW cI cJ A sS kS sS aS tS ik cA tp 0 (nI p9) t9 v9 1 bO sO nU mV) := hD
          refine lv_aload_n hx hb dX4_night_102 rfl (lv_at hl 0 rfl) ?_
          refine va_get (ci := 4) (v := .int 1) hx hb hts wx_X4 hown hK hP 0 rfl rfl 12 (by decide) (hts _ wf_X4_234) (fun _ h9 => h9) rfl dX4_night_103 ?_
          refine lv_if_eq (tgt := 118) hx hb dX4_night_106 rfl (fun c106 => ?_) (fun c106 => ?_)
          · exact absurd c106 (by decide)
          · refine lv_iconst (v := (-1)) hx hb dX4_night_109 rfl ?_
            refine lv_aload_n hx hb dX4_night_110 rfl (lv_at hl 0 rfl) ?_
            refine va_get (ci := 4) (v := .int (nI p9)) hx hb hts wx_X4 hown hK hP 0 rfl rfl 9 (by decide) (hts _ wf_X4_222) (fun _ h9 => h9) rfl dX4_night_111 ?_
            refine lv_isub hx hb dX4_night_114 ?_
            refine lv_goto (tgt := 119) hx hb dX4_night_115 rfl ?_
            have hA : nightA (nightP tp d sS n) = -1 - nI p9 := by rw [hR]; rfl
            have hG : sS = nightG (nightP tp d sS n) sS := by rw [hR]; rfl
            have hE : sS = nightG (nightP tp d sS n) sS := hG
            have hW : (MW cI cJ A sS kS sS aS tS ik cA tp 0 (nI p9) t9 v9 1 bO sO nU mV) = (MW cI cJ A (nightG (nightP tp d sS n) sS) kS sS aS tS ik cA tp 0 (nI p9) t9 v9 1 bO sO nU mV) := congrArg (fun z => (MW cI cJ A z kS sS aS tS ik cA tp 0 (nI p9) t9 v9 1 bO sO nU mV)) hE
            have hP : va_P D vwCl (MW cI cJ A (nightG (nightP tp d sS n) sS) kS sS aS tS ik cA tp 0 (nI p9) t9 v9 1 bO sO nU mV) H := Eq.mp (congrArg (fun z => va_P D vwCl z H) hW) hP
            have hD : va_D _ (MW cI cJ A (nightG (nightP tp d sS n) sS) kS sS aS tS ik cA tp 0 (nI p9) t9 v9 1 bO sO nU mV) := Eq.mp (congrArg (fun z => va_D _ z) hW) hD
            exact mu_iret (MW cI cJ A (nightG (nightP tp d sS n) sS) kS sS aS tS ik cA tp 0 (nI p9) t9 v9 1 bO sO nU mV) hx hb hr hlk hP hS rfl (⟨sS, (nI p9), t9, v9, 1, congrArg (fun z => some (Value.int z)) (by rw [hA]), rfl⟩) dX4_night_119
      · exact absurd c64 (by decide)
    · exact absurd c28 (by decide)
  · have hP : va_P D vwCl (MW cI cJ A s9 kS sS aS tS ik cA tp (nI d) (nI q9) (nI (tkE tp d q9)) v9 0 bO sO nU mV) H := hP
    have hD : va_D _ (MW cI cJ A s9 kS sS aS tS ik cA tp (nI d) (nI q9) (nI (tkE tp d q9)) v9 0 bO sO nU mV) := hD
    refine va_get (ci := 4) (v := .int 0) hx hb hts wx_X4 hown hK hP 0 rfl rfl 12 (by decide) (hts _ wf_X4_234) (fun _ h9 => h9) rfl dX4_night_25 ?_
    refine lv_if_ne (tgt := 59) hx hb dX4_night_28 rfl (fun c28 => ?_) (fun c28 => ?_)
    · exact absurd c28 (by decide)
    · refine lv_aload_n hx hb dX4_night_31 rfl (lv_at hl 0 rfl) ?_
      refine lv_aload_n hx hb dX4_night_32 rfl (lv_at hl 0 rfl) ?_
      refine va_get (ci := 4) (v := .int (nI q9)) hx hb hts wx_X4 hown hK hP 0 rfl rfl 9 (by decide) (hts _ wf_X4_222) (fun _ h9 => h9) rfl dX4_night_33 ?_
      refine ro_V (w := (MW cI cJ A s9 kS sS aS tS ik cA tp (nI d) (nI q9) (nI (tkE tp d q9)) v9 0 bO sO nU mV)) (rest := []) S hK hP (k_X4_byteAt d q9 hd (by omega)) gv_X4_225 hd_X4_byteAt ⟨Nat.le_of_ble_eq_true rfl, Nat.le_of_ble_eq_true rfl⟩ 4 rfl rfl rfl rfl hl.1 (lv_room (Nat.le_of_ble_eq_true rfl)) dX4_night_36 ⟨Nat.zero_le _, Nat.zero_le _⟩ ?_
      refine lv_bipush (v := 59) hx hb dX4_night_39 rfl ?_
      refine lv_icmp_ne (tgt := 59) hx hb dX4_night_41 rfl (fun c41 => ?_) (fun c41 => ?_)
      · refine lv_aload_n hx hb dX4_night_59 rfl (lv_at hl 0 rfl) ?_
        refine lv_aload_n hx hb dX4_night_60 rfl (lv_at hl 0 rfl) ?_
        refine va_get (ci := 4) (v := .int 0) hx hb hts wx_X4 hown hK hP 0 rfl rfl 12 (by decide) (hts _ wf_X4_234) (fun _ h9 => h9) rfl dX4_night_61 ?_
        refine lv_if_ne (tgt := 78) hx hb dX4_night_64 rfl (fun c64 => ?_) (fun c64 => ?_)
        · exact absurd c64 (by decide)
        · refine lv_aload_n hx hb dX4_night_67 rfl (lv_at hl 0 rfl) ?_
          refine va_get (ci := 4) (v := .int (nI q9)) hx hb hts wx_X4 hown hK hP 0 rfl rfl 9 (by decide) (hts _ wf_X4_222) (fun _ h9 => h9) rfl dX4_night_68 ?_
          refine lv_aload_n hx hb dX4_night_71 rfl (lv_at hl 0 rfl) ?_
          refine va_get (ci := 4) (v := .int (nI d)) hx hb hts wx_X4 hown hK hP 0 rfl rfl 8 (by decide) (hts _ wf_X4_207) (fun _ h9 => h9) rfl dX4_night_72 ?_
          refine lv_icmp_ge (tgt := 82) hx hb dX4_night_75 rfl (fun c75 => ?_) (fun c75 => ?_)
          · replace c75 := nq_le (a := d) (b := q9) (by omega) (by omega) c75
            refine lv_iconst (v := 0) hx hb dX4_night_82 rfl ?_
            refine va_put (ci := 4) (v := .int 0) (ty := tyX4 12) hx hb hts wx_X4 tyX4 tyX4_ok nmX4 hown hK hP hD hS 0 rfl rfl 12 (by decide) (hts _ wf_X4_234) (fun _ h9 => h9) rfl (tyX4_ok 12 (by decide)) rfl rfl (Nat.le_of_ble_eq_true rfl) dX4_night_83 (fun H locs hP hD hS => ?_)
            have hP : va_P D vwCl (MW cI cJ A s9 kS sS aS tS ik cA tp (nI d) (nI q9) (nI (tkE tp d q9)) v9 0 bO sO nU mV) H := hP
            have hD : va_D _ (MW cI cJ A s9 kS sS aS tS ik cA tp (nI d) (nI q9) (nI (tkE tp d q9)) v9 0 bO sO nU mV) := hD
            refine lv_aload_n hx hb dX4_night_86 rfl (lv_at hl 0 rfl) ?_
            refine va_get (ci := 4) (v := .int 0) hx hb hts wx_X4 hown hK hP 0 rfl rfl 12 (by decide) (hts _ wf_X4_234) (fun _ h9 => h9) rfl dX4_night_87 ?_
            refine lv_if_eq (tgt := 97) hx hb dX4_night_90 rfl (fun c90 => ?_) (fun c90 => ?_)
            · refine lv_aload_n hx hb dX4_night_97 rfl (lv_at hl 0 rfl) ?_
              refine lv_iconst (v := 0) hx hb dX4_night_98 rfl ?_
              refine va_put (ci := 4) (v := .int 0) (ty := tyX4 8) hx hb hts wx_X4 tyX4 tyX4_ok nmX4 hown hK hP hD hS 0 rfl rfl 8 (by decide) (hts _ wf_X4_207) (fun _ h9 => h9) rfl (tyX4_ok 8 (by decide)) rfl rfl (Nat.le_of_ble_eq_true rfl) dX4_night_99 (fun H locs hP hD hS => ?_)
              have hP : va_P D vwCl (MW cI cJ A s9 kS sS aS tS ik cA tp 0 (nI q9) (nI (tkE tp d q9)) v9 0 bO sO nU mV) H := hP
              have hD : va_D _ (MW cI cJ A s9 kS sS aS tS ik cA tp 0 (nI q9) (nI (tkE tp d q9)) v9 0 bO sO nU mV) := hD
              refine lv_aload_n hx hb dX4_night_102 rfl (lv_at hl 0 rfl) ?_
              refine va_get (ci := 4) (v := .int 0) hx hb hts wx_X4 hown hK hP 0 rfl rfl 12 (by decide) (hts _ wf_X4_234) (fun _ h9 => h9) rfl dX4_night_103 ?_
              refine lv_if_eq (tgt := 118) hx hb dX4_night_106 rfl (fun c106 => ?_) (fun c106 => ?_)
              · refine lv_iload_n hx hb dX4_night_118 rfl (lv_at hl 1 rfl) ?_
                have hA : nightA (nightP tp d sS n) = nI it := by rw [hR, nightC, if_neg (by omega)]; rfl
                have hG : s9 = nightG (nightP tp d sS n) sS := by rw [hR, nightC, if_neg (by omega)]; rfl
                have hE : s9 = nightG (nightP tp d sS n) sS := hG
                have hW : (MW cI cJ A s9 kS sS aS tS ik cA tp 0 (nI q9) (nI (tkE tp d q9)) v9 0 bO sO nU mV) = (MW cI cJ A (nightG (nightP tp d sS n) sS) kS sS aS tS ik cA tp 0 (nI q9) (nI (tkE tp d q9)) v9 0 bO sO nU mV) := congrArg (fun z => (MW cI cJ A z kS sS aS tS ik cA tp 0 (nI q9) (nI (tkE tp d q9)) v9 0 bO sO nU mV)) hE
                have hP : va_P D vwCl (MW cI cJ A (nightG (nightP tp d sS n) sS) kS sS aS tS ik cA tp 0 (nI q9) (nI (tkE tp d q9)) v9 0 bO sO nU mV) H := Eq.mp (congrArg (fun z => va_P D vwCl z H) hW) hP
                have hD : va_D _ (MW cI cJ A (nightG (nightP tp d sS n) sS) kS sS aS tS ik cA tp 0 (nI q9) (nI (tkE tp d q9)) v9 0 bO sO nU mV) := Eq.mp (congrArg (fun z => va_D _ z) hW) hD
                exact mu_iret (MW cI cJ A (nightG (nightP tp d sS n) sS) kS sS aS tS ik cA tp 0 (nI q9) (nI (tkE tp d q9)) v9 0 bO sO nU mV) hx hb hr hlk hP hS rfl (⟨sS, (nI q9), (nI (tkE tp d q9)), v9, 0, congrArg (fun z => some (Value.int z)) (by rw [hA]), rfl⟩) dX4_night_119
              · exact absurd c106 (by decide)
            · exact absurd c90 (by decide)
          · replace c75 := nq_nle (a := d) (b := q9) (by omega) (by omega) c75
            refine lv_iconst (v := 1) hx hb dX4_night_78 rfl ?_
            refine lv_goto (tgt := 83) hx hb dX4_night_79 rfl ?_
            refine va_put (ci := 4) (v := .int 1) (ty := tyX4 12) hx hb hts wx_X4 tyX4 tyX4_ok nmX4 hown hK hP hD hS 0 rfl rfl 12 (by decide) (hts _ wf_X4_234) (fun _ h9 => h9) rfl (tyX4_ok 12 (by decide)) rfl rfl (Nat.le_of_ble_eq_true rfl) dX4_night_83 (fun H locs hP hD hS => ?_)
            have hP : va_P D vwCl (MW cI cJ A s9 kS sS aS tS ik cA tp (nI d) (nI q9) (nI (tkE tp d q9)) v9 1 bO sO nU mV) H := hP
            have hD : va_D _ (MW cI cJ A s9 kS sS aS tS ik cA tp (nI d) (nI q9) (nI (tkE tp d q9)) v9 1 bO sO nU mV) := hD
            refine lv_aload_n hx hb dX4_night_86 rfl (lv_at hl 0 rfl) ?_
            refine va_get (ci := 4) (v := .int 1) hx hb hts wx_X4 hown hK hP 0 rfl rfl 12 (by decide) (hts _ wf_X4_234) (fun _ h9 => h9) rfl dX4_night_87 ?_
            refine lv_if_eq (tgt := 97) hx hb dX4_night_90 rfl (fun c90 => ?_) (fun c90 => ?_)
            · exact absurd c90 (by decide)
            · refine lv_aload_n hx hb dX4_night_93 rfl (lv_at hl 0 rfl) ?_
              refine mu_W (w := (MW cI cJ A s9 kS sS aS tS ik cA tp (nI d) (nI q9) (nI (tkE tp d q9)) v9 1 bO sO nU mV)) (rest := []) S hK hP hD hS (k_X4_putsBack ) gv_X4_316 hd_X4_putsBack ⟨Nat.le_of_ble_eq_true rfl, Nat.le_of_ble_eq_true rfl⟩ 4 rfl rfl rfl rfl hl.1 (lv_room (Nat.le_of_ble_eq_true rfl)) dX4_night_94 ⟨Nat.zero_le _, Nat.zero_le _⟩ (fun ov w' H locs hp hP hD hS => ?_)
              obtain ⟨rfl, rfl⟩ := hp
              refine W.eq (g2 := F0 m 97 ls []) rfl ?_
              refine lv_aload_n hx hb dX4_night_97 rfl (lv_at hl 0 rfl) ?_
              refine lv_iconst (v := 0) hx hb dX4_night_98 rfl ?_
              refine va_put (ci := 4) (v := .int 0) (ty := tyX4 8) hx hb hts wx_X4 tyX4 tyX4_ok nmX4 hown hK hP hD hS 0 rfl rfl 8 (by decide) (hts _ wf_X4_207) (fun _ h9 => h9) rfl (tyX4_ok 8 (by decide)) rfl rfl (Nat.le_of_ble_eq_true rfl) dX4_night_99 (fun H locs hP hD hS => ?_)
              have hP : va_P D vwCl (MW cI cJ A sS kS sS aS tS ik cA tp 0 (nI q9) (nI (tkE tp d q9)) v9 1 bO sO nU mV) H := hP
              have hD : va_D _ (MW cI cJ A sS kS sS aS tS ik cA tp 0 (nI q9) (nI (tkE tp d q9)) v9 1 bO sO nU mV) := hD
              refine lv_aload_n hx hb dX4_night_102 rfl (lv_at hl 0 rfl) ?_
              refine va_get (ci := 4) (v := .int 1) hx hb hts wx_X4 hown hK hP 0 rfl rfl 12 (by decide) (hts _ wf_X4_234) (fun _ h9 => h9) rfl dX4_night_103 ?_
              refine lv_if_eq (tgt := 118) hx hb dX4_night_106 rfl (fun c106 => ?_) (fun c106 => ?_)
              · exact absurd c106 (by decide)
              · refine lv_iconst (v := (-1)) hx hb dX4_night_109 rfl ?_
                refine lv_aload_n hx hb dX4_night_110 rfl (lv_at hl 0 rfl) ?_
                refine va_get (ci := 4) (v := .int (nI q9)) hx hb hts wx_X4 hown hK hP 0 rfl rfl 9 (by decide) (hts _ wf_X4_222) (fun _ h9 => h9) rfl dX4_night_111 ?_
                refine lv_isub hx hb dX4_night_114 ?_
                refine lv_goto (tgt := 119) hx hb dX4_night_115 rfl ?_
                have hA : nightA (nightP tp d sS n) = -1 - nI q9 := by rw [hR, nightC, if_pos (by omega), if_neg (fun z => c41 (by rw [byt_lt (by omega)]; exact z))]; rfl
                have hG : sS = nightG (nightP tp d sS n) sS := by rw [hR, nightC, if_pos (by omega), if_neg (fun z => c41 (by rw [byt_lt (by omega)]; exact z))]; rfl
                have hE : sS = nightG (nightP tp d sS n) sS := hG
                have hW : (MW cI cJ A sS kS sS aS tS ik cA tp 0 (nI q9) (nI (tkE tp d q9)) v9 1 bO sO nU mV) = (MW cI cJ A (nightG (nightP tp d sS n) sS) kS sS aS tS ik cA tp 0 (nI q9) (nI (tkE tp d q9)) v9 1 bO sO nU mV) := congrArg (fun z => (MW cI cJ A z kS sS aS tS ik cA tp 0 (nI q9) (nI (tkE tp d q9)) v9 1 bO sO nU mV)) hE
                have hP : va_P D vwCl (MW cI cJ A (nightG (nightP tp d sS n) sS) kS sS aS tS ik cA tp 0 (nI q9) (nI (tkE tp d q9)) v9 1 bO sO nU mV) H := Eq.mp (congrArg (fun z => va_P D vwCl z H) hW) hP
                have hD : va_D _ (MW cI cJ A (nightG (nightP tp d sS n) sS) kS sS aS tS ik cA tp 0 (nI q9) (nI (tkE tp d q9)) v9 1 bO sO nU mV) := Eq.mp (congrArg (fun z => va_D _ z) hW) hD
                exact mu_iret (MW cI cJ A (nightG (nightP tp d sS n) sS) kS sS aS tS ik cA tp 0 (nI q9) (nI (tkE tp d q9)) v9 1 bO sO nU mV) hx hb hr hlk hP hS rfl (⟨sS, (nI q9), (nI (tkE tp d q9)), v9, 1, congrArg (fun z => some (Value.int z)) (by rw [hA]), rfl⟩) dX4_night_119
      · have hq59 : q9 < d := by by_cases z : q9 < d; exact z; rw [byt_ge z] at c41; exact absurd c41 (by decide)
        refine lv_aload_n hx hb dX4_night_44 rfl (lv_at hl 0 rfl) ?_
        refine lv_iconst (v := 1) hx hb dX4_night_45 rfl ?_
        refine mu_W (w := (MW cI cJ A s9 kS sS aS tS ik cA tp (nI d) (nI q9) (nI (tkE tp d q9)) v9 0 bO sO nU mV)) (rest := []) S hK hP hD hS (k_X4_must_t d q9 hd (by omega)) gv_X4_248 hd_X4_must ⟨Nat.le_of_ble_eq_true rfl, Nat.le_of_ble_eq_true rfl⟩ 4 rfl rfl rfl rfl hl.1 (lv_room (Nat.le_of_ble_eq_true rfl)) dX4_night_46 ⟨Nat.zero_le _, Nat.zero_le _⟩ (fun ov w' H locs hp hP hD hS => ?_)
        obtain ⟨rfl, rfl⟩ := hp
        refine W.eq (g2 := F0 m 49 ls []) rfl ?_
        refine lv_aload_n hx hb dX4_night_49 rfl (lv_at hl 0 rfl) ?_
        refine mu_W (w := (MW cI cJ A s9 kS sS aS tS ik cA tp (nI d) (nI (nxt tp d q9)) (nI (tkE tp d (nxt tp d q9))) v9 0 bO sO nU mV)) (rest := []) S hK hP hD hS (k_X4_item n9 d (nxt tp d q9) hI9 hd (nxt_le hq9)) gv_X4_313 hd_X4_item ⟨Nat.le_of_ble_eq_true rfl, Nat.le_of_ble_eq_true rfl⟩ 4 rfl rfl rfl rfl hl.1 (lv_room (Nat.le_of_ble_eq_true rfl)) dX4_night_50 ⟨Nat.zero_le _, Nat.zero_le _⟩ (fun ov w' H locs hp hP hD hS => ?_)
        obtain ⟨s10, f10, t10, v10, w10, rfl, hit, rfl⟩ := hp
        refine W.eq (g2 := F0 m 53 ls []) rfl ?_
        have hok2 : nOK tp d (nightP tp d sS n) s10 f10 t10 w10 (it + 1) (m9 - 1) := nOK_of (m := m9 - 1) hI9 (nxt_le hq9) (by have h9 := nxt_gt (tp := tp) hq59; omega) (by rw [hR, nightC, if_pos hq59, if_pos (show tp q9 = 59 from (byt_lt (tp := tp) hq59).symm.trans c41), show m9 - 1 + 1 = m9 by omega]) hit
        refine lv_iinc (v := nI (it + 1)) (lv' := [(1, .int (nI (it + 1))), (0, .ref (A 0))]) hx hb dX4_night_53 hl (k := 1) rfl (nI_inc _) (by decide) rfl (fun ls hl => ?_)
        refine lv_goto (tgt := 24) hx hb dX4_night_56 rfl ?_
        exact ih24 (s10, f10, t10, v10, w10, it + 1, m9 - 1) _ _ ls (by first | omega | (dsimp only; omega)) ⟨hok2, hP, hD, hS, lv_sub hl [1, 0] rfl⟩

end
