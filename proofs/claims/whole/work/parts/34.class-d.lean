theorem hours_rng {g : Nat → Int32} {n k : Nat} (h : rng (g 0) 0 100000) (hk : k ≤ 1000) : rng (hoursF g n k 0) 0 200000 := by
  rw [hours_0]
  unfold rng at *
  have e : (nI k).toInt = k := nI_toInt (by omega)
  rw [add_I (by omega) (by omega)]
  omega
section
variable {l : Launch} {D : va_G} {cI cJ cO : ClassId} {B : Nat → Nat} {gG tG kG : Nat → Int32} {ik le : Int32} {by_ : Nat → Int32} {tk bg en va tn b0 l0 : Int32} {u0 : Nat → Int64} {b1 l1 : Int32} {u1 : Nat → Int64} {b2 l2 : Int32} {u2 : Nat → Int64} {b3 l3 : Int32} {u3 : Nat → Int64} {fS cW : Nat → Int32}

set_option maxHeartbeats 4000000 in
set_option maxRecDepth 100000 in
theorem k_X3_firstContent (n : Nat) (x : Int32) (hI : Inv gG n) (hh : rng (gG 0) 0 100000) : MU l D (tyA cI cJ cO) yX3_firstContent cX3_firstContent 3 ((some .int)) 5 115 [.ref (B 0), .int x] (VW cI cJ cO B gG tG kG ik le by_ tk bg en va tn b0 l0 u0 b1 l1 u1 b2 l2 u2 b3 l3 u3 fS cW) (fun ov w' => ∃ tG' : Nat → Int32, ov = some (.int (toldR (fstN (fcP gG n x) 201))) ∧ w' = (VW cI cJ cO B gG tG' kG ik le by_ tk bg en va tn b0 l0 u0 b1 l1 u1 b2 l2 u2 b3 l3 u3 (toldT fS (fstN (fcP gG n x) 201)) cW)) := by
  refine MU.mk (by decide) (Nat.le_of_ble_eq_true rfl) ?_
  intro p e s m below meth c ls S hr hlk hP hK hD hS hl
  have S : CallFix p m c cX3_firstContent 3 s _ WL RX3 := S
  obtain ⟨hx, hb, hml, hown, hts⟩ := id S
  have hl : lv_has ls 3 [(0, .ref (B 0)), (1, .int x)] := hl
  have h8 : n ≤ 8 := hI.1
  have hI0 := hI
  have hh0 := hh
  refine lv_aload_n hx hb dX3_firstContent_0 rfl (lv_at hl 0 rfl) ?_
  refine va_get (ci := 3) (v := .ref (B 3)) hx hb hts wx_X3 hown hK hP 0 rfl rfl 1 (by decide) (hts _ wf_X3_16) (fun _ h9 => h9) rfl dX3_firstContent_1 ?_
  refine lv_aload_n hx hb dX3_firstContent_4 rfl (lv_at hl 0 rfl) ?_
  refine va_get (ci := 3) (v := .ref (B 1)) hx hb hts wx_X3 hown hK hP 0 rfl rfl 0 (by decide) (hts _ wf_X3_10) (fun _ h9 => h9) rfl dX3_firstContent_5 ?_
  refine mu_V (w := (G2 cI (B 3) (B 4) (tG 0) (tG 2) (tG 1) (tl tG) (B 1) (B 2) (gG 0) (gG 2) (gG 1) (tl gG))) (rest := []) S hK hP hD hS (k_X0_become (g := tG) (g2 := gG)) gv_X3_135 hd_X0_become ⟨Nat.le_of_ble_eq_true rfl, Nat.le_of_ble_eq_true rfl⟩ [3, 4, 1, 2] rfl rfl 0 rfl rfl rfl rfl hl.1 (lv_room (Nat.le_of_ble_eq_true rfl)) dX3_firstContent_8 ⟨Nat.zero_le _, Nat.zero_le _⟩ (fun ov w' H locs hp hP hD hS => ?_)
  obtain ⟨rfl, rfl⟩ := hp
  have hP : va_P D vwCl (VW cI cJ cO B gG gG kG ik le by_ tk bg en va tn b0 l0 u0 b1 l1 u1 b2 l2 u2 b3 l3 u3 fS cW) H := hP
  have hD : va_D _ (VW cI cJ cO B gG gG kG ik le by_ tk bg en va tn b0 l0 u0 b1 l1 u1 b2 l2 u2 b3 l3 u3 fS cW) := hD
  refine W.eq (g2 := F0 m 11 ls []) rfl ?_
  refine lv_iconst (v := 0) hx hb dX3_firstContent_11 rfl ?_
  refine lv_istore_n (lv' := [(2, .int 0), (0, .ref (B 0)), (1, .int x)]) hx hb dX3_firstContent_12 rfl hl (by decide) rfl (fun ls hl => ?_)
  refine w_loopH (pc := 13) (st := fun (i : Nat) => []) (μ := fun (i : Nat) => 201 - i) (I := fun (i : Nat) H locs ls => (i ≤ 201) ∧ (∀ j, j < i → fcP gG n x j = false) ∧ va_P D vwCl (VW cI cJ cO B gG (hoursF gG n i) kG ik le by_ tk bg en va tn b0 l0 u0 b1 l1 u1 b2 l2 u2 b3 l3 u3 fS cW) H ∧ va_D (fun z9 => z9 ∈ ((VW cI cJ cO B gG tG kG ik le by_ tk bg en va tn b0 l0 u0 b1 l1 u1 b2 l2 u2 b3 l3 u3 fS cW)).map (fun z8 => z8.1)) (VW cI cJ cO B gG (hoursF gG n i) kG ik le by_ tk bg en va tn b0 l0 u0 b1 l1 u1 b2 l2 u2 b3 l3 u3 fS cW) ∧ va_S (fun z9 => z9 ∈ ((VW cI cJ cO B gG tG kG ik le by_ tk bg en va tn b0 l0 u0 b1 l1 u1 b2 l2 u2 b3 l3 u3 fS cW)).map (fun z8 => z8.1)) s.heap H locs ∧ lv_has ls 3 [(0, .ref (B 0)), (1, .int x), (2, .int (nI i))]) ?_ (0) ⟨Nat.zero_le _, fun j h => absurd h (Nat.not_lt_zero j), hP, hD, hS, lv_sub hl [1, 2, 0] rfl⟩
  rintro i H locs ls ⟨hi, hbb, hP, hD, hS, hl⟩ ih13
  try dsimp only at ih13 ⊢
  have hI := Inv_hours hI0 i
  have hh : rng (hoursF gG n i 0) 0 200000 := hours_rng hh0 (by omega)
  refine lv_iload_n hx hb dX3_firstContent_13 rfl (lv_at hl 2 rfl) ?_
  refine lv_sipush (v := 200) hx hb dX3_firstContent_14 rfl ?_
  refine lv_icmp_gt (tgt := 49) hx hb dX3_firstContent_17 rfl (fun c17 => ?_) (fun c17 => ?_)
  · replace c17 := nq_lt (a := 200) (b := i) (by omega) (by omega) c17
    have hfs : fstN (fcP gG n x) 201 = 201 := fstN_all (fun j hj => hbb j (by omega))
    refine lv_aload_n hx hb dX3_firstContent_49 rfl (lv_at hl 0 rfl) ?_
    refine lv_ldc (v := (-1000000004)) hx hb hown (hts _ wq_X3_154) dX3_firstContent_50 ?_
    refine mu_W (w := (VW cI cJ cO B gG (hoursF gG n i) kG ik le by_ tk bg en va tn b0 l0 u0 b1 l1 u1 b2 l2 u2 b3 l3 u3 fS cW)) (rest := []) S hK hP hD hS (k_X3_finding 3 (-1000000004) (by decide) (by decide)) gv_X3_52 hd_X3_finding ⟨Nat.le_of_ble_eq_true rfl, Nat.le_of_ble_eq_true rfl⟩ 3 rfl rfl rfl rfl hl.1 (lv_room (Nat.le_of_ble_eq_true rfl)) dX3_firstContent_52 ⟨Nat.zero_le _, Nat.zero_le _⟩ (fun ov w' H locs hp hP hD hS => ?_)
    obtain ⟨rfl, rfl⟩ := hp
    refine W.eq (g2 := F0 m 55 ls [.int (-1000000004)]) rfl ?_
    have hE : upd fS 3 (fS 3 + 1) = toldT fS (fstN (fcP gG n x) 201) := by simp [toldR, toldT, bump, put9, b2i, hfs, i_lt, -Int32.not_le, -Int32.not_lt]
    have hW : (VW cI cJ cO B gG (hoursF gG n i) kG ik le by_ tk bg en va tn b0 l0 u0 b1 l1 u1 b2 l2 u2 b3 l3 u3 (upd fS 3 (fS 3 + 1)) cW) = (VW cI cJ cO B gG (hoursF gG n i) kG ik le by_ tk bg en va tn b0 l0 u0 b1 l1 u1 b2 l2 u2 b3 l3 u3 (toldT fS (fstN (fcP gG n x) 201)) cW) := congrArg (fun z => (VW cI cJ cO B gG (hoursF gG n i) kG ik le by_ tk bg en va tn b0 l0 u0 b1 l1 u1 b2 l2 u2 b3 l3 u3 z cW)) hE
    have hP : va_P D vwCl (VW cI cJ cO B gG (hoursF gG n i) kG ik le by_ tk bg en va tn b0 l0 u0 b1 l1 u1 b2 l2 u2 b3 l3 u3 (toldT fS (fstN (fcP gG n x) 201)) cW) H := Eq.mp (congrArg (fun z => va_P D vwCl z H) hW) hP
    have hD : va_D _ (VW cI cJ cO B gG (hoursF gG n i) kG ik le by_ tk bg en va tn b0 l0 u0 b1 l1 u1 b2 l2 u2 b3 l3 u3 (toldT fS (fstN (fcP gG n x) 201)) cW) := Eq.mp (congrArg (fun z => va_D _ z) hW) hD
    exact mu_iret (VW cI cJ cO B gG (hoursF gG n i) kG ik le by_ tk bg en va tn b0 l0 u0 b1 l1 u1 b2 l2 u2 b3 l3 u3 (toldT fS (fstN (fcP gG n x) 201)) cW) hx hb hr hlk hP hS rfl (⟨(hoursF gG n i), congrArg (fun z => some (Value.int z)) (by simp [toldR, toldT, bump, put9, b2i, hfs, i_lt, -Int32.not_le, -Int32.not_lt]), rfl⟩) dX3_firstContent_55
  · replace c17 := nq_nlt (a := 200) (b := i) (by omega) (by omega) c17
    refine lv_aload_n hx hb dX3_firstContent_20 rfl (lv_at hl 0 rfl) ?_
    refine va_get (ci := 3) (v := .ref (B 3)) hx hb hts wx_X3 hown hK hP 0 rfl rfl 1 (by decide) (hts _ wf_X3_16) (fun _ h9 => h9) rfl dX3_firstContent_21 ?_
    refine ro_V (w := (GW cI (B 3) (B 4) ((hoursF gG n i) 0) ((hoursF gG n i) 2) ((hoursF gG n i) 1) (tl (hoursF gG n i)))) (rest := []) S hK (hP.sub [3, 4] rfl) (k_X0_whoIsContent n hI) gv_X3_71 hd_X0_whoIsContent ⟨Nat.le_of_ble_eq_true rfl, Nat.le_of_ble_eq_true rfl⟩ 0 rfl rfl rfl rfl hl.1 (lv_room (Nat.le_of_ble_eq_true rfl)) dX3_firstContent_24 ⟨Nat.zero_le _, Nat.zero_le _⟩ ?_
    refine lv_iload_n hx hb dX3_firstContent_27 rfl (lv_at hl 1 rfl) ?_
    refine lv_iand hx hb dX3_firstContent_28 ?_
    refine lv_iload_n hx hb dX3_firstContent_29 rfl (lv_at hl 1 rfl) ?_
    refine lv_icmp_ne (tgt := 35) hx hb dX3_firstContent_30 rfl (fun c30 => ?_) (fun c30 => ?_)
    · refine lv_aload_n hx hb dX3_firstContent_35 rfl (lv_at hl 0 rfl) ?_
      refine va_get (ci := 3) (v := .ref (B 3)) hx hb hts wx_X3 hown hK hP 0 rfl rfl 1 (by decide) (hts _ wf_X3_16) (fun _ h9 => h9) rfl dX3_firstContent_36 ?_
      refine lv_iconst (v := 1) hx hb dX3_firstContent_39 rfl ?_
      refine mu_V (w := (GW cI (B 3) (B 4) ((hoursF gG n i) 0) ((hoursF gG n i) 2) ((hoursF gG n i) 1) (tl (hoursF gG n i)))) (rest := []) S hK hP hD hS (k_X0_pass n 1 hI hh (by omega)) gv_X3_131 hd_X0_pass ⟨Nat.le_of_ble_eq_true rfl, Nat.le_of_ble_eq_true rfl⟩ [3, 4] rfl rfl 0 rfl rfl rfl rfl hl.1 (lv_room (Nat.le_of_ble_eq_true rfl)) dX3_firstContent_40 ⟨Nat.zero_le _, Nat.zero_le _⟩ (fun ov w' H locs hp hP hD hS => ?_)
      obtain ⟨rfl, rfl⟩ := hp
      have hP : va_P D vwCl (VW cI cJ cO B gG (hoursF (hoursF gG n i) n 1) kG ik le by_ tk bg en va tn b0 l0 u0 b1 l1 u1 b2 l2 u2 b3 l3 u3 fS cW) H := hP
      have hD : va_D _ (VW cI cJ cO B gG (hoursF (hoursF gG n i) n 1) kG ik le by_ tk bg en va tn b0 l0 u0 b1 l1 u1 b2 l2 u2 b3 l3 u3 fS cW) := hD
      refine W.eq (g2 := F0 m 43 ls []) rfl ?_
      have hE : hoursF (hoursF gG n i) n 1 = hoursF gG n (i + 1) := rfl
      have hW : (VW cI cJ cO B gG (hoursF (hoursF gG n i) n 1) kG ik le by_ tk bg en va tn b0 l0 u0 b1 l1 u1 b2 l2 u2 b3 l3 u3 fS cW) = (VW cI cJ cO B gG (hoursF gG n (i + 1)) kG ik le by_ tk bg en va tn b0 l0 u0 b1 l1 u1 b2 l2 u2 b3 l3 u3 fS cW) := congrArg (fun z => (VW cI cJ cO B gG z kG ik le by_ tk bg en va tn b0 l0 u0 b1 l1 u1 b2 l2 u2 b3 l3 u3 fS cW)) hE
      have hP : va_P D vwCl (VW cI cJ cO B gG (hoursF gG n (i + 1)) kG ik le by_ tk bg en va tn b0 l0 u0 b1 l1 u1 b2 l2 u2 b3 l3 u3 fS cW) H := Eq.mp (congrArg (fun z => va_P D vwCl z H) hW) hP
      have hD : va_D _ (VW cI cJ cO B gG (hoursF gG n (i + 1)) kG ik le by_ tk bg en va tn b0 l0 u0 b1 l1 u1 b2 l2 u2 b3 l3 u3 fS cW) := Eq.mp (congrArg (fun z => va_D _ z) hW) hD
      refine lv_iinc (v := nI (i + 1)) (lv' := [(2, .int (nI (i + 1))), (0, .ref (B 0)), (1, .int x)]) hx hb dX3_firstContent_43 hl (k := 2) rfl (nI_inc _) (by decide) rfl (fun ls hl => ?_)
      refine lv_goto (tgt := 13) hx hb dX3_firstContent_46 rfl ?_
      exact ih13 (i + 1) _ _ ls (by first | omega | (dsimp only; omega)) ⟨(by omega), lt_s hbb (decide_eq_false c30), hP, hD, hS, lv_sub hl [1, 2, 0] rfl⟩
    · have hfs : fstN (fcP gG n x) 201 = i := fstN_at hbb (decide_eq_true c30) (by omega)
      refine lv_iload_n hx hb dX3_firstContent_33 rfl (lv_at hl 2 rfl) ?_
      have hE : fS = toldT fS (fstN (fcP gG n x) 201) := by simp [toldR, toldT, bump, put9, b2i, c17, c30, hfs, i_lt, -Int32.not_le, -Int32.not_lt]
      have hW : (VW cI cJ cO B gG (hoursF gG n i) kG ik le by_ tk bg en va tn b0 l0 u0 b1 l1 u1 b2 l2 u2 b3 l3 u3 fS cW) = (VW cI cJ cO B gG (hoursF gG n i) kG ik le by_ tk bg en va tn b0 l0 u0 b1 l1 u1 b2 l2 u2 b3 l3 u3 (toldT fS (fstN (fcP gG n x) 201)) cW) := congrArg (fun z => (VW cI cJ cO B gG (hoursF gG n i) kG ik le by_ tk bg en va tn b0 l0 u0 b1 l1 u1 b2 l2 u2 b3 l3 u3 z cW)) hE
      have hP : va_P D vwCl (VW cI cJ cO B gG (hoursF gG n i) kG ik le by_ tk bg en va tn b0 l0 u0 b1 l1 u1 b2 l2 u2 b3 l3 u3 (toldT fS (fstN (fcP gG n x) 201)) cW) H := Eq.mp (congrArg (fun z => va_P D vwCl z H) hW) hP
      have hD : va_D _ (VW cI cJ cO B gG (hoursF gG n i) kG ik le by_ tk bg en va tn b0 l0 u0 b1 l1 u1 b2 l2 u2 b3 l3 u3 (toldT fS (fstN (fcP gG n x) 201)) cW) := Eq.mp (congrArg (fun z => va_D _ z) hW) hD
      exact mu_iret (VW cI cJ cO B gG (hoursF gG n i) kG ik le by_ tk bg en va tn b0 l0 u0 b1 l1 u1 b2 l2 u2 b3 l3 u3 (toldT fS (fstN (fcP gG n x) 201)) cW) hx hb hr hlk hP hS rfl (⟨(hoursF gG n i), congrArg (fun z => some (Value.int z)) (by simp [toldR, toldT, bump, put9, b2i, c17, c30, hfs, i_lt, -Int32.not_le, -Int32.not_lt]), rfl⟩) dX3_firstContent_34

set_option maxHeartbeats 4000000 in
set_option maxRecDepth 100000 in
theorem k_X3_when (n : Nat) (f : Int32) (hI : Inv gG n) (hh : rng (gG 0) 0 100000) : MU l D (tyA cI cJ cO) yX3_when cX3_when 2 ((some .int)) 6 137 [.ref (B 0), .int f] (VW cI cJ cO B gG tG kG ik le by_ tk bg en va tn b0 l0 u0 b1 l1 u1 b2 l2 u2 b3 l3 u3 fS cW) (fun ov w' => ∃ tG' : Nat → Int32, ov = some (.int (whenR gG n f)) ∧ w' = (VW cI cJ cO B gG tG' kG ik le by_ tk bg en va tn b0 l0 u0 b1 l1 u1 b2 l2 u2 b3 l3 u3 (whenT gG fS n f) cW)) := by
  refine MU.mk (by decide) (Nat.le_of_ble_eq_true rfl) ?_
  intro p e s m below meth c ls S hr hlk hP hK hD hS hl
  have S : CallFix p m c cX3_when 2 s _ WL RX3 := S
  obtain ⟨hx, hb, hml, hown, hts⟩ := id S
  have hl : lv_has ls 2 [(0, .ref (B 0)), (1, .int f)] := hl
  refine lv_aload_n hx hb dX3_when_0 rfl (lv_at hl 0 rfl) ?_
  refine va_get (ci := 3) (v := .ref (B 1)) hx hb hts wx_X3 hown hK hP 0 rfl rfl 0 (by decide) (hts _ wf_X3_10) (fun _ h9 => h9) rfl dX3_when_1 ?_
  refine lv_iload_n hx hb dX3_when_4 rfl (lv_at hl 1 rfl) ?_
  refine ro_V (w := (GW cI (B 1) (B 2) (gG 0) (gG 2) (gG 1) (tl gG))) (rest := []) S hK (hP.sub [1, 2] rfl) (k_X0_lacks n f hI) gv_X3_95 hd_X0_lacks ⟨Nat.le_of_ble_eq_true rfl, Nat.le_of_ble_eq_true rfl⟩ 0 rfl rfl rfl rfl hl.1 (lv_room (Nat.le_of_ble_eq_true rfl)) dX3_when_5 ⟨Nat.zero_le _, Nat.zero_le _⟩ ?_
  refine lv_if_eq (tgt := 18) hx hb dX3_when_8 rfl (fun c8 => ?_) (fun c8 => ?_)
  · replace c8 := bn_0 c8
    obtain ⟨k, hk, rfl⟩ := fig_in hI.1 c8
    have h8 := hI.1
    have ek : cl (nI k) = k := cl_nI (by omega)
    have hfw := fc_when (g := gG) h8 hk
    refine lv_aload_n hx hb dX3_when_18 rfl (lv_at hl 0 rfl) ?_
    refine lv_iconst (v := 1) hx hb dX3_when_19 rfl ?_
    refine lv_iload_n hx hb dX3_when_20 rfl (lv_at hl 1 rfl) ?_
    refine lv_ishl hx hb dX3_when_21 ?_
    refine w_i (z := bitI k) (rfl) ?_
    refine mu_W (w := (VW cI cJ cO B gG tG kG ik le by_ tk bg en va tn b0 l0 u0 b1 l1 u1 b2 l2 u2 b3 l3 u3 fS cW)) (rest := []) S hK hP hD hS (k_X3_firstContent n (bitI k) hI hh) gv_X3_139 hd_X3_firstContent ⟨Nat.le_of_ble_eq_true rfl, Nat.le_of_ble_eq_true rfl⟩ 3 rfl rfl rfl rfl hl.1 (lv_room (Nat.le_of_ble_eq_true rfl)) dX3_when_22 ⟨Nat.zero_le _, Nat.zero_le _⟩ (fun ov w' H locs hp hP hD hS => ?_)
    obtain ⟨t9, rfl, rfl⟩ := hp
    refine W.eq (g2 := F0 m 25 ls [.int (toldR (fstN (fcP gG n (bitI k)) 201))]) rfl ?_
    have hE : toldT fS (fstN (fcP gG n (bitI k)) 201) = whenT gG fS n (nI k) := by simp [whenR, whenT, bump, put9, b2i, c8, ek, hfw, i_lt, -Int32.not_le, -Int32.not_lt]
    have hW : (VW cI cJ cO B gG t9 kG ik le by_ tk bg en va tn b0 l0 u0 b1 l1 u1 b2 l2 u2 b3 l3 u3 (toldT fS (fstN (fcP gG n (bitI k)) 201)) cW) = (VW cI cJ cO B gG t9 kG ik le by_ tk bg en va tn b0 l0 u0 b1 l1 u1 b2 l2 u2 b3 l3 u3 (whenT gG fS n (nI k)) cW) := congrArg (fun z => (VW cI cJ cO B gG t9 kG ik le by_ tk bg en va tn b0 l0 u0 b1 l1 u1 b2 l2 u2 b3 l3 u3 z cW)) hE
    have hP : va_P D vwCl (VW cI cJ cO B gG t9 kG ik le by_ tk bg en va tn b0 l0 u0 b1 l1 u1 b2 l2 u2 b3 l3 u3 (whenT gG fS n (nI k)) cW) H := Eq.mp (congrArg (fun z => va_P D vwCl z H) hW) hP
    have hD : va_D _ (VW cI cJ cO B gG t9 kG ik le by_ tk bg en va tn b0 l0 u0 b1 l1 u1 b2 l2 u2 b3 l3 u3 (whenT gG fS n (nI k)) cW) := Eq.mp (congrArg (fun z => va_D _ z) hW) hD
    exact mu_iret (VW cI cJ cO B gG t9 kG ik le by_ tk bg en va tn b0 l0 u0 b1 l1 u1 b2 l2 u2 b3 l3 u3 (whenT gG fS n (nI k)) cW) hx hb hr hlk hP hS rfl (⟨t9, congrArg (fun z => some (Value.int z)) (by simp [whenR, whenT, bump, put9, b2i, c8, ek, hfw, i_lt, -Int32.not_le, -Int32.not_lt]), rfl⟩) dX3_when_25
  · replace c8 := bn_n0 c8
    refine lv_aload_n hx hb dX3_when_11 rfl (lv_at hl 0 rfl) ?_
    refine lv_ldc (v := (-1000000001)) hx hb hown (hts _ wq_X3_51) dX3_when_12 ?_
    refine mu_W (w := (VW cI cJ cO B gG tG kG ik le by_ tk bg en va tn b0 l0 u0 b1 l1 u1 b2 l2 u2 b3 l3 u3 fS cW)) (rest := []) S hK hP hD hS (k_X3_finding 0 (-1000000001) (by decide) (by decide)) gv_X3_52 hd_X3_finding ⟨Nat.le_of_ble_eq_true rfl, Nat.le_of_ble_eq_true rfl⟩ 3 rfl rfl rfl rfl hl.1 (lv_room (Nat.le_of_ble_eq_true rfl)) dX3_when_14 ⟨Nat.zero_le _, Nat.zero_le _⟩ (fun ov w' H locs hp hP hD hS => ?_)
    obtain ⟨rfl, rfl⟩ := hp
    refine W.eq (g2 := F0 m 17 ls [.int (-1000000001)]) rfl ?_
    have hE : upd fS 0 (fS 0 + 1) = whenT gG fS n f := by simp [whenR, whenT, bump, put9, b2i, c8, i_lt, -Int32.not_le, -Int32.not_lt]
    have hW : (VW cI cJ cO B gG tG kG ik le by_ tk bg en va tn b0 l0 u0 b1 l1 u1 b2 l2 u2 b3 l3 u3 (upd fS 0 (fS 0 + 1)) cW) = (VW cI cJ cO B gG tG kG ik le by_ tk bg en va tn b0 l0 u0 b1 l1 u1 b2 l2 u2 b3 l3 u3 (whenT gG fS n f) cW) := congrArg (fun z => (VW cI cJ cO B gG tG kG ik le by_ tk bg en va tn b0 l0 u0 b1 l1 u1 b2 l2 u2 b3 l3 u3 z cW)) hE
    have hP : va_P D vwCl (VW cI cJ cO B gG tG kG ik le by_ tk bg en va tn b0 l0 u0 b1 l1 u1 b2 l2 u2 b3 l3 u3 (whenT gG fS n f) cW) H := Eq.mp (congrArg (fun z => va_P D vwCl z H) hW) hP
    have hD : va_D _ (VW cI cJ cO B gG tG kG ik le by_ tk bg en va tn b0 l0 u0 b1 l1 u1 b2 l2 u2 b3 l3 u3 (whenT gG fS n f) cW) := Eq.mp (congrArg (fun z => va_D _ z) hW) hD
    exact mu_iret (VW cI cJ cO B gG tG kG ik le by_ tk bg en va tn b0 l0 u0 b1 l1 u1 b2 l2 u2 b3 l3 u3 (whenT gG fS n f) cW) hx hb hr hlk hP hS rfl (⟨tG, congrArg (fun z => some (Value.int z)) (by simp [whenR, whenT, bump, put9, b2i, c8, i_lt, -Int32.not_le, -Int32.not_lt]), rfl⟩) dX3_when_17

set_option maxHeartbeats 4000000 in
set_option maxRecDepth 100000 in
theorem k_X3_all (n : Nat) (hI : Inv gG n) (hh : rng (gG 0) 0 100000) : MU l D (tyA cI cJ cO) yX3_all cX3_all 1 ((some .int)) 6 137 [.ref (B 0)] (VW cI cJ cO B gG tG kG ik le by_ tk bg en va tn b0 l0 u0 b1 l1 u1 b2 l2 u2 b3 l3 u3 fS cW) (fun ov w' => ∃ tG' : Nat → Int32, ov = some (.int (allR gG n)) ∧ w' = (VW cI cJ cO B gG tG' kG ik le by_ tk bg en va tn b0 l0 u0 b1 l1 u1 b2 l2 u2 b3 l3 u3 (allT gG fS n) cW)) := by
  refine MU.mk (by decide) (Nat.le_of_ble_eq_true rfl) ?_
  intro p e s m below meth c ls S hr hlk hP hK hD hS hl
  have S : CallFix p m c cX3_all 1 s _ WL RX3 := S
  obtain ⟨hx, hb, hml, hown, hts⟩ := id S
  have hl : lv_has ls 1 [(0, .ref (B 0))] := hl
  have hfa := fc_all (g := gG) hI.1
  refine lv_aload_n hx hb dX3_all_0 rfl (lv_at hl 0 rfl) ?_
  refine lv_aload_n hx hb dX3_all_1 rfl (lv_at hl 0 rfl) ?_
  refine va_get (ci := 3) (v := .ref (B 1)) hx hb hts wx_X3 hown hK hP 0 rfl rfl 0 (by decide) (hts _ wf_X3_10) (fun _ h9 => h9) rfl dX3_all_2 ?_
  refine ro_V (w := (GW cI (B 1) (B 2) (gG 0) (gG 2) (gG 1) (tl gG))) (rest := [.ref (B 0)]) S hK (hP.sub [1, 2] rfl) (k_X0_everybody n hI) gv_X3_142 hd_X0_everybody ⟨Nat.le_of_ble_eq_true rfl, Nat.le_of_ble_eq_true rfl⟩ 0 rfl rfl rfl rfl hl.1 (lv_room (Nat.le_of_ble_eq_true rfl)) dX3_all_5 ⟨Nat.zero_le _, Nat.zero_le _⟩ ?_
  refine w_i (z := everyI n) (rfl) ?_
  refine mu_W (w := (VW cI cJ cO B gG tG kG ik le by_ tk bg en va tn b0 l0 u0 b1 l1 u1 b2 l2 u2 b3 l3 u3 fS cW)) (rest := []) S hK hP hD hS (k_X3_firstContent n (everyI n) hI hh) gv_X3_139 hd_X3_firstContent ⟨Nat.le_of_ble_eq_true rfl, Nat.le_of_ble_eq_true rfl⟩ 3 rfl rfl rfl rfl hl.1 (lv_room (Nat.le_of_ble_eq_true rfl)) dX3_all_8 ⟨Nat.zero_le _, Nat.zero_le _⟩ (fun ov w' H locs hp hP hD hS => ?_)
  obtain ⟨t9, rfl, rfl⟩ := hp
  refine W.eq (g2 := F0 m 11 ls [.int (toldR (fstN (fcP gG n (everyI n)) 201))]) rfl ?_
  have hE : toldT fS (fstN (fcP gG n (everyI n)) 201) = allT gG fS n := by simp [allR, allT, bump, put9, b2i, hfa, i_lt, -Int32.not_le, -Int32.not_lt]
  have hW : (VW cI cJ cO B gG t9 kG ik le by_ tk bg en va tn b0 l0 u0 b1 l1 u1 b2 l2 u2 b3 l3 u3 (toldT fS (fstN (fcP gG n (everyI n)) 201)) cW) = (VW cI cJ cO B gG t9 kG ik le by_ tk bg en va tn b0 l0 u0 b1 l1 u1 b2 l2 u2 b3 l3 u3 (allT gG fS n) cW) := congrArg (fun z => (VW cI cJ cO B gG t9 kG ik le by_ tk bg en va tn b0 l0 u0 b1 l1 u1 b2 l2 u2 b3 l3 u3 z cW)) hE
  have hP : va_P D vwCl (VW cI cJ cO B gG t9 kG ik le by_ tk bg en va tn b0 l0 u0 b1 l1 u1 b2 l2 u2 b3 l3 u3 (allT gG fS n) cW) H := Eq.mp (congrArg (fun z => va_P D vwCl z H) hW) hP
  have hD : va_D _ (VW cI cJ cO B gG t9 kG ik le by_ tk bg en va tn b0 l0 u0 b1 l1 u1 b2 l2 u2 b3 l3 u3 (allT gG fS n) cW) := Eq.mp (congrArg (fun z => va_D _ z) hW) hD
  exact mu_iret (VW cI cJ cO B gG t9 kG ik le by_ tk bg en va tn b0 l0 u0 b1 l1 u1 b2 l2 u2 b3 l3 u3 (allT gG fS n) cW) hx hb hr hlk hP hS rfl (⟨t9, congrArg (fun z => some (Value.int z)) (by simp [allR, allT, bump, put9, b2i, hfa, i_lt, -Int32.not_le, -Int32.not_lt]), rfl⟩) dX3_all_11

set_option maxHeartbeats 4000000 in
set_option maxRecDepth 100000 in
theorem k_X3_isUnder (k : Int32) (o : Int32) : RO l D (tyA cI cJ cO) yX3_isUnder cX3_isUnder 2 ((some .boolean)) 1 20 [.int k, .int o] [] (.int (b2i (under k o))) := by
  refine RO.mk (by decide) (Nat.le_of_ble_eq_true rfl) ?_
  intro p e s m below meth c ls S hr hlk hP hK hl
  have S : CallFix p m c cX3_isUnder 2 s _ WL RX3 := S
  obtain ⟨hx, hb, hml, hown, hts⟩ := id S
  have hl : lv_has ls 2 [(0, .int k), (1, .int o)] := hl
  refine lv_iload_n hx hb dX3_isUnder_0 rfl (lv_at hl 0 rfl) ?_
  refine lv_iload_n hx hb dX3_isUnder_1 rfl (lv_at hl 1 rfl) ?_
  refine lv_icmp_eq (tgt := 17) hx hb dX3_isUnder_2 rfl (fun c2 => ?_) (fun c2 => ?_)
  · refine lv_iconst (v := 1) hx hb dX3_isUnder_17 rfl ?_
    refine lv_goto (tgt := 22) hx hb dX3_isUnder_18 rfl ?_
    exact ro_zret hx hb hr hlk (by rw [← under_c]; simp [b2i, c2]) dX3_isUnder_22
  · refine lv_iload_n hx hb dX3_isUnder_5 rfl (lv_at hl 0 rfl) ?_
    refine ro_S (w := []) (rest := []) S hK va_P0 (k_X3_kindAbove k) gs_X3_219 hd_X3_kindAbove ⟨Nat.le_of_ble_eq_true rfl, Nat.le_of_ble_eq_true rfl⟩ rfl hl.1 (lv_room (Nat.le_of_ble_eq_true rfl)) dX3_isUnder_6 ⟨Nat.zero_le _, Nat.zero_le _⟩ ?_
    refine lv_iload_n hx hb dX3_isUnder_9 rfl (lv_at hl 1 rfl) ?_
    refine lv_icmp_eq (tgt := 17) hx hb dX3_isUnder_10 rfl (fun c10 => ?_) (fun c10 => ?_)
    · refine lv_iconst (v := 1) hx hb dX3_isUnder_17 rfl ?_
      refine lv_goto (tgt := 22) hx hb dX3_isUnder_18 rfl ?_
      exact ro_zret hx hb hr hlk (by rw [← under_c]; simp [b2i, c2, c10]) dX3_isUnder_22
    · refine lv_iload_n hx hb dX3_isUnder_13 rfl (lv_at hl 1 rfl) ?_
      refine lv_if_ne (tgt := 21) hx hb dX3_isUnder_14 rfl (fun c14 => ?_) (fun c14 => ?_)
      · refine lv_iconst (v := 0) hx hb dX3_isUnder_21 rfl ?_
        exact ro_zret hx hb hr hlk (by rw [← under_c]; simp [b2i, c2, c10, c14]) dX3_isUnder_22
      · refine lv_iconst (v := 1) hx hb dX3_isUnder_17 rfl ?_
        refine lv_goto (tgt := 22) hx hb dX3_isUnder_18 rfl ?_
        exact ro_zret hx hb hr hlk (by rw [← under_c]; simp [b2i, c2, c10, c14]) dX3_isUnder_22

set_option maxHeartbeats 4000000 in
set_option maxRecDepth 100000 in
theorem k_X3_as (n : Nat) (f : Int32) (k : Int32) (hI : Inv gG n) : MU l D (tyA cI cJ cO) yX3_as cX3_as 3 ((some .int)) 2 41 [.ref (B 0), .int f, .int k] (VW cI cJ cO B gG tG kG ik le by_ tk bg en va tn b0 l0 u0 b1 l1 u1 b2 l2 u2 b3 l3 u3 fS cW) (fun ov w' => ov = some (.int (asR gG n f k)) ∧ w' = (VW cI cJ cO B gG tG kG ik le by_ tk bg en va tn b0 l0 u0 b1 l1 u1 b2 l2 u2 b3 l3 u3 (asT gG fS n f k) cW)) := by
  refine MU.mk (by decide) (Nat.le_of_ble_eq_true rfl) ?_
  intro p e s m below meth c ls S hr hlk hP hK hD hS hl
  have S : CallFix p m c cX3_as 3 s _ WL RX3 := S
  obtain ⟨hx, hb, hml, hown, hts⟩ := id S
  have hl : lv_has ls 3 [(0, .ref (B 0)), (1, .int f), (2, .int k)] := hl
  refine lv_aload_n hx hb dX3_as_0 rfl (lv_at hl 0 rfl) ?_
  refine va_get (ci := 3) (v := .ref (B 1)) hx hb hts wx_X3 hown hK hP 0 rfl rfl 0 (by decide) (hts _ wf_X3_10) (fun _ h9 => h9) rfl dX3_as_1 ?_
  refine lv_iload_n hx hb dX3_as_4 rfl (lv_at hl 1 rfl) ?_
  refine ro_V (w := (GW cI (B 1) (B 2) (gG 0) (gG 2) (gG 1) (tl gG))) (rest := []) S hK (hP.sub [1, 2] rfl) (k_X0_lacks n f hI) gv_X3_95 hd_X0_lacks ⟨Nat.le_of_ble_eq_true rfl, Nat.le_of_ble_eq_true rfl⟩ 0 rfl rfl rfl rfl hl.1 (lv_room (Nat.le_of_ble_eq_true rfl)) dX3_as_5 ⟨Nat.zero_le _, Nat.zero_le _⟩ ?_
  refine lv_if_ne (tgt := 20) hx hb dX3_as_8 rfl (fun c8 => ?_) (fun c8 => ?_)
  · replace c8 := bn_n0 c8
    refine lv_aload_n hx hb dX3_as_20 rfl (lv_at hl 0 rfl) ?_
    refine lv_ldc (v := (-1000000001)) hx hb hown (hts _ wq_X3_51) dX3_as_21 ?_
    refine mu_W (w := (VW cI cJ cO B gG tG kG ik le by_ tk bg en va tn b0 l0 u0 b1 l1 u1 b2 l2 u2 b3 l3 u3 fS cW)) (rest := []) S hK hP hD hS (k_X3_finding 0 (-1000000001) (by decide) (by decide)) gv_X3_52 hd_X3_finding ⟨Nat.le_of_ble_eq_true rfl, Nat.le_of_ble_eq_true rfl⟩ 3 rfl rfl rfl rfl hl.1 (lv_room (Nat.le_of_ble_eq_true rfl)) dX3_as_23 ⟨Nat.zero_le _, Nat.zero_le _⟩ (fun ov w' H locs hp hP hD hS => ?_)
    obtain ⟨rfl, rfl⟩ := hp
    refine W.eq (g2 := F0 m 26 ls [.int (-1000000001)]) rfl ?_
    have hE : upd fS 0 (fS 0 + 1) = asT gG fS n f k := by simp [asR, asT, turnOk, bump, put9, b2i, c8, i_lt, -Int32.not_le, -Int32.not_lt]
    have hW : (VW cI cJ cO B gG tG kG ik le by_ tk bg en va tn b0 l0 u0 b1 l1 u1 b2 l2 u2 b3 l3 u3 (upd fS 0 (fS 0 + 1)) cW) = (VW cI cJ cO B gG tG kG ik le by_ tk bg en va tn b0 l0 u0 b1 l1 u1 b2 l2 u2 b3 l3 u3 (asT gG fS n f k) cW) := congrArg (fun z => (VW cI cJ cO B gG tG kG ik le by_ tk bg en va tn b0 l0 u0 b1 l1 u1 b2 l2 u2 b3 l3 u3 z cW)) hE
    have hP : va_P D vwCl (VW cI cJ cO B gG tG kG ik le by_ tk bg en va tn b0 l0 u0 b1 l1 u1 b2 l2 u2 b3 l3 u3 (asT gG fS n f k) cW) H := Eq.mp (congrArg (fun z => va_P D vwCl z H) hW) hP
    have hD : va_D _ (VW cI cJ cO B gG tG kG ik le by_ tk bg en va tn b0 l0 u0 b1 l1 u1 b2 l2 u2 b3 l3 u3 (asT gG fS n f k) cW) := Eq.mp (congrArg (fun z => va_D _ z) hW) hD
    exact mu_iret (VW cI cJ cO B gG tG kG ik le by_ tk bg en va tn b0 l0 u0 b1 l1 u1 b2 l2 u2 b3 l3 u3 (asT gG fS n f k) cW) hx hb hr hlk hP hS rfl (⟨congrArg (fun z => some (Value.int z)) (by simp [asR, asT, turnOk, bump, put9, b2i, c8, i_lt, -Int32.not_le, -Int32.not_lt]), rfl⟩) dX3_as_26
  · replace c8 := bn_0 c8
    obtain ⟨j, hj, rfl⟩ := fig_in hI.1 c8
    have h8 := hI.1
    have ej : cl (nI j) = j := cl_nI (by omega)
    refine lv_iload_n hx hb dX3_as_11 rfl (lv_at hl 2 rfl) ?_
    refine lv_iconst (v := 0) hx hb dX3_as_12 rfl ?_
    refine lv_iconst (v := 5) hx hb dX3_as_13 rfl ?_
    refine ro_S (w := []) (rest := []) S hK va_P0 (k_X3_isOutside k 0 5) gs_X3_47 hd_X3_isOutside ⟨Nat.le_of_ble_eq_true rfl, Nat.le_of_ble_eq_true rfl⟩ rfl hl.1 (lv_room (Nat.le_of_ble_eq_true rfl)) dX3_as_14 ⟨Nat.zero_le _, Nat.zero_le _⟩ ?_
    refine lv_if_eq (tgt := 27) hx hb dX3_as_17 rfl (fun c17 => ?_) (fun c17 => ?_)
    · replace c17 := bn_0 c17
      refine lv_aload_n hx hb dX3_as_27 rfl (lv_at hl 0 rfl) ?_
      refine va_get (ci := 3) (v := .ref (B 1)) hx hb hts wx_X3 hown hK hP 0 rfl rfl 0 (by decide) (hts _ wf_X3_10) (fun _ h9 => h9) rfl dX3_as_28 ?_
      refine lv_iload_n hx hb dX3_as_31 rfl (lv_at hl 1 rfl) ?_
      refine lv_iconst (v := 0) hx hb dX3_as_32 rfl ?_
      refine ro_V (w := (GW cI (B 1) (B 2) (gG 0) (gG 2) (gG 1) (tl gG))) (rest := []) S hK (hP.sub [1, 2] rfl) (k_X0_getN j 0 (by omega) (by omega)) gv_X3_108 hd_X0_get ⟨Nat.le_of_ble_eq_true rfl, Nat.le_of_ble_eq_true rfl⟩ 0 rfl rfl rfl rfl hl.1 (lv_room (Nat.le_of_ble_eq_true rfl)) dX3_as_33 ⟨Nat.zero_le _, Nat.zero_le _⟩ ?_
      refine lv_iload_n hx hb dX3_as_36 rfl (lv_at hl 2 rfl) ?_
      refine ro_S (w := []) (rest := []) S hK va_P0 (k_X3_isUnder (its gG j 0) k) gs_X3_124 hd_X3_isUnder ⟨Nat.le_of_ble_eq_true rfl, Nat.le_of_ble_eq_true rfl⟩ rfl hl.1 (lv_room (Nat.le_of_ble_eq_true rfl)) dX3_as_37 ⟨Nat.zero_le _, Nat.zero_le _⟩ ?_
      refine lv_if_ne (tgt := 50) hx hb dX3_as_40 rfl (fun c40 => ?_) (fun c40 => ?_)
      · replace c40 := b2i_n0 c40
        refine lv_aload_n hx hb dX3_as_50 rfl (lv_at hl 0 rfl) ?_
        refine va_get (ci := 3) (v := .ref (B 1)) hx hb hts wx_X3 hown hK hP 0 rfl rfl 0 (by decide) (hts _ wf_X3_10) (fun _ h9 => h9) rfl dX3_as_51 ?_
        refine lv_iload_n hx hb dX3_as_54 rfl (lv_at hl 1 rfl) ?_
        refine lv_iconst (v := 3) hx hb dX3_as_55 rfl ?_
        refine ro_V (w := (GW cI (B 1) (B 2) (gG 0) (gG 2) (gG 1) (tl gG))) (rest := []) S hK (hP.sub [1, 2] rfl) (k_X0_getN j 3 (by omega) (by omega)) gv_X3_108 hd_X0_get ⟨Nat.le_of_ble_eq_true rfl, Nat.le_of_ble_eq_true rfl⟩ 0 rfl rfl rfl rfl hl.1 (lv_room (Nat.le_of_ble_eq_true rfl)) dX3_as_56 ⟨Nat.zero_le _, Nat.zero_le _⟩ ?_
        have hE : fS = asT gG fS n (nI j) k := by simp [asR, asT, turnOk, bump, put9, b2i, c8, c17, c40, ej, i_lt, -Int32.not_le, -Int32.not_lt]
        have hW : (VW cI cJ cO B gG tG kG ik le by_ tk bg en va tn b0 l0 u0 b1 l1 u1 b2 l2 u2 b3 l3 u3 fS cW) = (VW cI cJ cO B gG tG kG ik le by_ tk bg en va tn b0 l0 u0 b1 l1 u1 b2 l2 u2 b3 l3 u3 (asT gG fS n (nI j) k) cW) := congrArg (fun z => (VW cI cJ cO B gG tG kG ik le by_ tk bg en va tn b0 l0 u0 b1 l1 u1 b2 l2 u2 b3 l3 u3 z cW)) hE
        have hP : va_P D vwCl (VW cI cJ cO B gG tG kG ik le by_ tk bg en va tn b0 l0 u0 b1 l1 u1 b2 l2 u2 b3 l3 u3 (asT gG fS n (nI j) k) cW) s.heap := Eq.mp (congrArg (fun z => va_P D vwCl z s.heap) hW) hP
        have hD : va_D _ (VW cI cJ cO B gG tG kG ik le by_ tk bg en va tn b0 l0 u0 b1 l1 u1 b2 l2 u2 b3 l3 u3 (asT gG fS n (nI j) k) cW) := Eq.mp (congrArg (fun z => va_D _ z) hW) hD
        exact mu_iret (VW cI cJ cO B gG tG kG ik le by_ tk bg en va tn b0 l0 u0 b1 l1 u1 b2 l2 u2 b3 l3 u3 (asT gG fS n (nI j) k) cW) hx hb hr hlk hP hS rfl (⟨congrArg (fun z => some (Value.int z)) (by simp [asR, asT, turnOk, bump, put9, b2i, c8, c17, c40, ej, i_lt, -Int32.not_le, -Int32.not_lt]), rfl⟩) dX3_as_59
      · replace c40 := (b2i_0 _).mp c40
        refine lv_aload_n hx hb dX3_as_43 rfl (lv_at hl 0 rfl) ?_
        refine lv_ldc (v := (-1000000003)) hx hb hown (hts _ wq_X3_128) dX3_as_44 ?_
        refine mu_W (w := (VW cI cJ cO B gG tG kG ik le by_ tk bg en va tn b0 l0 u0 b1 l1 u1 b2 l2 u2 b3 l3 u3 fS cW)) (rest := []) S hK hP hD hS (k_X3_finding 2 (-1000000003) (by decide) (by decide)) gv_X3_52 hd_X3_finding ⟨Nat.le_of_ble_eq_true rfl, Nat.le_of_ble_eq_true rfl⟩ 3 rfl rfl rfl rfl hl.1 (lv_room (Nat.le_of_ble_eq_true rfl)) dX3_as_46 ⟨Nat.zero_le _, Nat.zero_le _⟩ (fun ov w' H locs hp hP hD hS => ?_)
        obtain ⟨rfl, rfl⟩ := hp
        refine W.eq (g2 := F0 m 49 ls [.int (-1000000003)]) rfl ?_
        have hE : upd fS 2 (fS 2 + 1) = asT gG fS n (nI j) k := by simp [asR, asT, turnOk, bump, put9, b2i, c8, c17, c40, ej, i_lt, -Int32.not_le, -Int32.not_lt]
        have hW : (VW cI cJ cO B gG tG kG ik le by_ tk bg en va tn b0 l0 u0 b1 l1 u1 b2 l2 u2 b3 l3 u3 (upd fS 2 (fS 2 + 1)) cW) = (VW cI cJ cO B gG tG kG ik le by_ tk bg en va tn b0 l0 u0 b1 l1 u1 b2 l2 u2 b3 l3 u3 (asT gG fS n (nI j) k) cW) := congrArg (fun z => (VW cI cJ cO B gG tG kG ik le by_ tk bg en va tn b0 l0 u0 b1 l1 u1 b2 l2 u2 b3 l3 u3 z cW)) hE
        have hP : va_P D vwCl (VW cI cJ cO B gG tG kG ik le by_ tk bg en va tn b0 l0 u0 b1 l1 u1 b2 l2 u2 b3 l3 u3 (asT gG fS n (nI j) k) cW) H := Eq.mp (congrArg (fun z => va_P D vwCl z H) hW) hP
        have hD : va_D _ (VW cI cJ cO B gG tG kG ik le by_ tk bg en va tn b0 l0 u0 b1 l1 u1 b2 l2 u2 b3 l3 u3 (asT gG fS n (nI j) k) cW) := Eq.mp (congrArg (fun z => va_D _ z) hW) hD
        exact mu_iret (VW cI cJ cO B gG tG kG ik le by_ tk bg en va tn b0 l0 u0 b1 l1 u1 b2 l2 u2 b3 l3 u3 (asT gG fS n (nI j) k) cW) hx hb hr hlk hP hS rfl (⟨congrArg (fun z => some (Value.int z)) (by simp [asR, asT, turnOk, bump, put9, b2i, c8, c17, c40, ej, i_lt, -Int32.not_le, -Int32.not_lt]), rfl⟩) dX3_as_49
    · replace c17 := bn_n0 c17
      refine lv_aload_n hx hb dX3_as_20 rfl (lv_at hl 0 rfl) ?_
      refine lv_ldc (v := (-1000000001)) hx hb hown (hts _ wq_X3_51) dX3_as_21 ?_
      refine mu_W (w := (VW cI cJ cO B gG tG kG ik le by_ tk bg en va tn b0 l0 u0 b1 l1 u1 b2 l2 u2 b3 l3 u3 fS cW)) (rest := []) S hK hP hD hS (k_X3_finding 0 (-1000000001) (by decide) (by decide)) gv_X3_52 hd_X3_finding ⟨Nat.le_of_ble_eq_true rfl, Nat.le_of_ble_eq_true rfl⟩ 3 rfl rfl rfl rfl hl.1 (lv_room (Nat.le_of_ble_eq_true rfl)) dX3_as_23 ⟨Nat.zero_le _, Nat.zero_le _⟩ (fun ov w' H locs hp hP hD hS => ?_)
      obtain ⟨rfl, rfl⟩ := hp
      refine W.eq (g2 := F0 m 26 ls [.int (-1000000001)]) rfl ?_
      have hE : upd fS 0 (fS 0 + 1) = asT gG fS n (nI j) k := by simp [asR, asT, turnOk, bump, put9, b2i, c8, c17, ej, i_lt, -Int32.not_le, -Int32.not_lt]
      have hW : (VW cI cJ cO B gG tG kG ik le by_ tk bg en va tn b0 l0 u0 b1 l1 u1 b2 l2 u2 b3 l3 u3 (upd fS 0 (fS 0 + 1)) cW) = (VW cI cJ cO B gG tG kG ik le by_ tk bg en va tn b0 l0 u0 b1 l1 u1 b2 l2 u2 b3 l3 u3 (asT gG fS n (nI j) k) cW) := congrArg (fun z => (VW cI cJ cO B gG tG kG ik le by_ tk bg en va tn b0 l0 u0 b1 l1 u1 b2 l2 u2 b3 l3 u3 z cW)) hE
      have hP : va_P D vwCl (VW cI cJ cO B gG tG kG ik le by_ tk bg en va tn b0 l0 u0 b1 l1 u1 b2 l2 u2 b3 l3 u3 (asT gG fS n (nI j) k) cW) H := Eq.mp (congrArg (fun z => va_P D vwCl z H) hW) hP
      have hD : va_D _ (VW cI cJ cO B gG tG kG ik le by_ tk bg en va tn b0 l0 u0 b1 l1 u1 b2 l2 u2 b3 l3 u3 (asT gG fS n (nI j) k) cW) := Eq.mp (congrArg (fun z => va_D _ z) hW) hD
      exact mu_iret (VW cI cJ cO B gG tG kG ik le by_ tk bg en va tn b0 l0 u0 b1 l1 u1 b2 l2 u2 b3 l3 u3 (asT gG fS n (nI j) k) cW) hx hb hr hlk hP hS rfl (⟨congrArg (fun z => some (Value.int z)) (by simp [asR, asT, turnOk, bump, put9, b2i, c8, c17, ej, i_lt, -Int32.not_le, -Int32.not_lt]), rfl⟩) dX3_as_26

end
