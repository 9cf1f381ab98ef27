section
variable {l : Launch} {D : va_G} {cI cJ cO : ClassId} {A : Nat → Nat} {sS kS oS aS tS : Nat → Int32} {ik : Int32} {cA tp : Nat → Int32} {td fm tt vl wr : Int32} {bO sO : Nat → Int32} {nU mV : Nat → Int64}

set_option maxHeartbeats 4000000 in
set_option maxRecDepth 100000 in
theorem k_X4_tacky (n : Nat) (v : Int32) (hI : Inv sS n) : MU l D (tyA cI cJ cO) yX4_tacky cX4_tacky 2 ((some .int)) 1 25 [.ref (A 0), .int v] (MW cI cJ A sS kS oS aS tS ik cA tp td fm tt vl wr bO sO nU mV) (fun ov w' => ov = some (.int (tackyR sS v)) ∧ w' = (MW cI cJ A (tackyG sS v) kS oS aS (okT (inI v 0 8) tS) ik cA tp td fm tt vl wr bO sO nU mV)) := by
  refine MU.mk (by decide) (Nat.le_of_ble_eq_true rfl) ?_
  intro p e s m below meth c ls S hr hlk hP hK hD hS hl
  have S : CallFix p m c cX4_tacky 2 s _ WL RX4 := S
  obtain ⟨hx, hb, hml, hown, hts⟩ := id S
  have hl : lv_has ls 2 [(0, .ref (A 0)), (1, .int v)] := hl
  refine lv_iload_n hx hb dX4_tacky_0 rfl (lv_at hl 1 rfl) ?_
  refine lv_i2l hx hb dX4_tacky_1 rfl ?_
  refine lv_lconst (v := 0) hx hb dX4_tacky_2 rfl ?_
  refine lv_ldc2 (v := 8) hx hb hown (hts _ wq_X4_58) dX4_tacky_3 ?_
  refine ro_S (w := []) (rest := []) S hK va_P0 (k_X4_inI v 0 8 _ _ (by decide) (by decide)) gs_X4_49 hd_X4_in ⟨Nat.le_of_ble_eq_true rfl, Nat.le_of_ble_eq_true rfl⟩ rfl hl.1 (lv_room (Nat.le_of_ble_eq_true rfl)) dX4_tacky_6 ⟨Nat.zero_le _, Nat.zero_le _⟩ ?_
  refine lv_if_eq (tgt := 21) hx hb dX4_tacky_9 rfl (fun c9 => ?_) (fun c9 => ?_)
  · replace c9 := (b2i_0 _).mp c9
    refine lv_aload_n hx hb dX4_tacky_21 rfl (lv_at hl 0 rfl) ?_
    refine lv_ldc (v := (-1000000001)) hx hb hown (hts _ wq_X4_44) dX4_tacky_22 ?_
    refine mu_W (w := (MW cI cJ A sS kS oS aS tS ik cA tp td fm tt vl wr bO sO nU mV)) (rest := []) S hK hP hD hS (k_X4_finds 0 (-1000000001) (by decide) (by decide)) gv_X4_63 hd_X4_finds ⟨Nat.le_of_ble_eq_true rfl, Nat.le_of_ble_eq_true rfl⟩ 4 rfl rfl rfl rfl hl.1 (lv_room (Nat.le_of_ble_eq_true rfl)) dX4_tacky_24 ⟨Nat.zero_le _, Nat.zero_le _⟩ (fun ov w' H locs hp hP hD hS => ?_)
    obtain ⟨rfl, rfl⟩ := hp
    refine W.eq (g2 := F0 m 27 ls [.int (-1000000001)]) rfl ?_
    have hE : sS = tackyG sS v := by simp [tackyR, tackyG, okT, bump, put9, b2i, c9, i_lt, -Int32.not_le, -Int32.not_lt]
    have hW : (MW cI cJ A sS kS oS aS (upd tS 0 (tS 0 + 1)) ik cA tp td fm tt vl wr bO sO nU mV) = (MW cI cJ A (tackyG sS v) kS oS aS (upd tS 0 (tS 0 + 1)) ik cA tp td fm tt vl wr bO sO nU mV) := congrArg (fun z => (MW cI cJ A z kS oS aS (upd tS 0 (tS 0 + 1)) ik cA tp td fm tt vl wr bO sO nU mV)) hE
    have hP : va_P D vwCl (MW cI cJ A (tackyG sS v) kS oS aS (upd tS 0 (tS 0 + 1)) ik cA tp td fm tt vl wr bO sO nU mV) H := Eq.mp (congrArg (fun z => va_P D vwCl z H) hW) hP
    have hD : va_D _ (MW cI cJ A (tackyG sS v) kS oS aS (upd tS 0 (tS 0 + 1)) ik cA tp td fm tt vl wr bO sO nU mV) := Eq.mp (congrArg (fun z => va_D _ z) hW) hD
    have hE : upd tS 0 (tS 0 + 1) = okT (inI v 0 8) tS := by simp [tackyR, tackyG, okT, bump, put9, b2i, c9, i_lt, -Int32.not_le, -Int32.not_lt]
    have hW : (MW cI cJ A (tackyG sS v) kS oS aS (upd tS 0 (tS 0 + 1)) ik cA tp td fm tt vl wr bO sO nU mV) = (MW cI cJ A (tackyG sS v) kS oS aS (okT (inI v 0 8) tS) ik cA tp td fm tt vl wr bO sO nU mV) := congrArg (fun z => (MW cI cJ A (tackyG sS v) kS oS aS z ik cA tp td fm tt vl wr bO sO nU mV)) hE
    have hP : va_P D vwCl (MW cI cJ A (tackyG sS v) kS oS aS (okT (inI v 0 8) tS) ik cA tp td fm tt vl wr bO sO nU mV) H := Eq.mp (congrArg (fun z => va_P D vwCl z H) hW) hP
    have hD : va_D _ (MW cI cJ A (tackyG sS v) kS oS aS (okT (inI v 0 8) tS) ik cA tp td fm tt vl wr bO sO nU mV) := Eq.mp (congrArg (fun z => va_D _ z) hW) hD
    exact mu_iret (MW cI cJ A (tackyG sS v) kS oS aS (okT (inI v 0 8) tS) ik cA tp td fm tt vl wr bO sO nU mV) hx hb hr hlk hP hS rfl (⟨congrArg (fun z => some (Value.int z)) (by simp [tackyR, tackyG, okT, bump, put9, b2i, c9, i_lt, -Int32.not_le, -Int32.not_lt]), rfl⟩) dX4_tacky_27
  · replace c9 := b2i_n0 c9
    refine lv_aload_n hx hb dX4_tacky_12 rfl (lv_at hl 0 rfl) ?_
    refine lv_iconst (v := 2) hx hb dX4_tacky_13 rfl ?_
    refine lv_iload_n hx hb dX4_tacky_14 rfl (lv_at hl 1 rfl) ?_
    refine mu_W (w := (MW cI cJ A sS kS oS aS tS ik cA tp td fm tt vl wr bO sO nU mV)) (rest := []) S hK hP hD hS (k_X4_becomes 2 v (by omega)) gv_X4_60 hd_X4_becomes ⟨Nat.le_of_ble_eq_true rfl, Nat.le_of_ble_eq_true rfl⟩ 4 rfl rfl rfl rfl hl.1 (lv_room (Nat.le_of_ble_eq_true rfl)) dX4_tacky_15 ⟨Nat.zero_le _, Nat.zero_le _⟩ (fun ov w' H locs hp hP hD hS => ?_)
    obtain ⟨rfl, rfl⟩ := hp
    refine W.eq (g2 := F0 m 18 ls [.int (sS 2)]) rfl ?_
    refine lv_goto (tgt := 27) hx hb dX4_tacky_18 rfl ?_
    have hE : upd sS 2 v = tackyG sS v := by simp [tackyR, tackyG, okT, bump, put9, b2i, c9, i_lt, -Int32.not_le, -Int32.not_lt]
    have hW : (MW cI cJ A (upd sS 2 v) kS oS aS tS ik cA tp td fm tt vl wr bO sO nU mV) = (MW cI cJ A (tackyG sS v) kS oS aS tS ik cA tp td fm tt vl wr bO sO nU mV) := congrArg (fun z => (MW cI cJ A z kS oS aS tS ik cA tp td fm tt vl wr bO sO nU mV)) hE
    have hP : va_P D vwCl (MW cI cJ A (tackyG sS v) kS oS aS tS ik cA tp td fm tt vl wr bO sO nU mV) H := Eq.mp (congrArg (fun z => va_P D vwCl z H) hW) hP
    have hD : va_D _ (MW cI cJ A (tackyG sS v) kS oS aS tS ik cA tp td fm tt vl wr bO sO nU mV) := Eq.mp (congrArg (fun z => va_D _ z) hW) hD
    have hE : tS = okT (inI v 0 8) tS := by simp [tackyR, tackyG, okT, bump, put9, b2i, c9, i_lt, -Int32.not_le, -Int32.not_lt]
    have hW : (MW cI cJ A (tackyG sS v) kS oS aS tS ik cA tp td fm tt vl wr bO sO nU mV) = (MW cI cJ A (tackyG sS v) kS oS aS (okT (inI v 0 8) tS) ik cA tp td fm tt vl wr bO sO nU mV) := congrArg (fun z => (MW cI cJ A (tackyG sS v) kS oS aS z ik cA tp td fm tt vl wr bO sO nU mV)) hE
    have hP : va_P D vwCl (MW cI cJ A (tackyG sS v) kS oS aS (okT (inI v 0 8) tS) ik cA tp td fm tt vl wr bO sO nU mV) H := Eq.mp (congrArg (fun z => va_P D vwCl z H) hW) hP
    have hD : va_D _ (MW cI cJ A (tackyG sS v) kS oS aS (okT (inI v 0 8) tS) ik cA tp td fm tt vl wr bO sO nU mV) := Eq.mp (congrArg (fun z => va_D _ z) hW) hD
    exact mu_iret (MW cI cJ A (tackyG sS v) kS oS aS (okT (inI v 0 8) tS) ik cA tp td fm tt vl wr bO sO nU mV) hx hb hr hlk hP hS rfl (⟨congrArg (fun z => some (Value.int z)) (by simp [tackyR, tackyG, okT, bump, put9, b2i, c9, i_lt, -Int32.not_le, -Int32.not_lt]), rfl⟩) dX4_tacky_27

set_option maxHeartbeats 4000000 in
set_option maxRecDepth 100000 in
theorem k_X4_now (n : Nat) (w : Int32) (hI : Inv sS n) : MU l D (tyA cI cJ cO) yX4_now cX4_now 2 ((some .int)) 8 176 [.ref (A 0), .int w] (MW cI cJ A sS kS oS aS tS ik cA tp td fm tt vl wr bO sO nU mV) (fun ov w' => ov = some (.int (nowR sS n w)) ∧ w' = (MW cI cJ A sS kS oS aS (nowT tS w) ik cA tp td fm tt vl wr bO sO nU mV)) := by
  refine MU.mk (by decide) (Nat.le_of_ble_eq_true rfl) ?_
  intro p e s m below meth c ls S hr hlk hP hK hD hS hl
  have S : CallFix p m c cX4_now 2 s _ WL RX4 := S
  obtain ⟨hx, hb, hml, hown, hts⟩ := id S
  have hl : lv_has ls 2 [(0, .ref (A 0)), (1, .int w)] := hl
  have h8 : n ≤ 8 := hI.1
  refine lv_iload_n hx hb dX4_now_0 rfl (lv_at hl 1 rfl) ?_
  by_cases c1_0 : w = 0
  · refine lv_tableIn (tgt := 48) hx hb dX4_now_1 (by rw [c1_0]; decide) (by rw [c1_0]; decide) (by rw [c1_0]; rfl) rfl ?_
    refine lv_aload_n hx hb dX4_now_48 rfl (lv_at hl 0 rfl) ?_
    refine va_get (ci := 4) (v := .ref (A 1)) hx hb hts wx_X4 hown hK hP 0 rfl rfl 0 (by decide) (hts _ wf_X4_7) (fun _ h9 => h9) rfl dX4_now_49 ?_
    refine lv_iconst (v := 0) hx hb dX4_now_52 rfl ?_
    refine ia_ld hx hb hK hP 1 0 rfl rfl 0 (rfl) (by omega) (by decide) dX4_now_53 ?_
    have hE : tS = nowT tS w := by simp [nowR, nowT, bump, put9, b2i, c1_0, i_lt, -Int32.not_le, -Int32.not_lt]
    have hW : (MW cI cJ A sS kS oS aS tS ik cA tp td fm tt vl wr bO sO nU mV) = (MW cI cJ A sS kS oS aS (nowT tS w) ik cA tp td fm tt vl wr bO sO nU mV) := congrArg (fun z => (MW cI cJ A sS kS oS aS z ik cA tp td fm tt vl wr bO sO nU mV)) hE
    have hP : va_P D vwCl (MW cI cJ A sS kS oS aS (nowT tS w) ik cA tp td fm tt vl wr bO sO nU mV) s.heap := Eq.mp (congrArg (fun z => va_P D vwCl z s.heap) hW) hP
    have hD : va_D _ (MW cI cJ A sS kS oS aS (nowT tS w) ik cA tp td fm tt vl wr bO sO nU mV) := Eq.mp (congrArg (fun z => va_D _ z) hW) hD
    exact mu_iret (MW cI cJ A sS kS oS aS (nowT tS w) ik cA tp td fm tt vl wr bO sO nU mV) hx hb hr hlk hP hS rfl (⟨congrArg (fun z => some (Value.int z)) (by simp [nowR, nowT, bump, put9, b2i, c1_0, i_lt, -Int32.not_le, -Int32.not_lt]), rfl⟩) dX4_now_54
  by_cases c1_1 : w = 1
  · refine lv_tableIn (tgt := 55) hx hb dX4_now_1 (by rw [c1_1]; decide) (by rw [c1_1]; decide) (by rw [c1_1]; rfl) rfl ?_
    refine lv_aload_n hx hb dX4_now_55 rfl (lv_at hl 0 rfl) ?_
    refine ro_V (w := (MW cI cJ A sS kS oS aS tS ik cA tp td fm tt vl wr bO sO nU mV)) (rest := []) S hK hP (k_X4_ofNight ) gv_X4_67 hd_X4_ofNight ⟨Nat.le_of_ble_eq_true rfl, Nat.le_of_ble_eq_true rfl⟩ 4 rfl rfl rfl rfl hl.1 (lv_room (Nat.le_of_ble_eq_true rfl)) dX4_now_56 ⟨Nat.zero_le _, Nat.zero_le _⟩ ?_
    have hE : tS = nowT tS w := by simp [nowR, nowT, bump, put9, b2i, c1_0, c1_1, i_lt, -Int32.not_le, -Int32.not_lt]
    have hW : (MW cI cJ A sS kS oS aS tS ik cA tp td fm tt vl wr bO sO nU mV) = (MW cI cJ A sS kS oS aS (nowT tS w) ik cA tp td fm tt vl wr bO sO nU mV) := congrArg (fun z => (MW cI cJ A sS kS oS aS z ik cA tp td fm tt vl wr bO sO nU mV)) hE
    have hP : va_P D vwCl (MW cI cJ A sS kS oS aS (nowT tS w) ik cA tp td fm tt vl wr bO sO nU mV) s.heap := Eq.mp (congrArg (fun z => va_P D vwCl z s.heap) hW) hP
    have hD : va_D _ (MW cI cJ A sS kS oS aS (nowT tS w) ik cA tp td fm tt vl wr bO sO nU mV) := Eq.mp (congrArg (fun z => va_D _ z) hW) hD
    exact mu_iret (MW cI cJ A sS kS oS aS (nowT tS w) ik cA tp td fm tt vl wr bO sO nU mV) hx hb hr hlk hP hS rfl (⟨congrArg (fun z => some (Value.int z)) (by simp [nowR, nowT, bump, put9, b2i, c1_0, c1_1, i_lt, -Int32.not_le, -Int32.not_lt]), rfl⟩) dX4_now_59
  by_cases c1_2 : w = 2
  · refine lv_tableIn (tgt := 60) hx hb dX4_now_1 (by rw [c1_2]; decide) (by rw [c1_2]; decide) (by rw [c1_2]; rfl) rfl ?_
    refine lv_aload_n hx hb dX4_now_60 rfl (lv_at hl 0 rfl) ?_
    refine ro_V (w := (MW cI cJ A sS kS oS aS tS ik cA tp td fm tt vl wr bO sO nU mV)) (rest := []) S hK hP (k_X4_isTacky ) gv_X4_85 hd_X4_isTacky ⟨Nat.le_of_ble_eq_true rfl, Nat.le_of_ble_eq_true rfl⟩ 4 rfl rfl rfl rfl hl.1 (lv_room (Nat.le_of_ble_eq_true rfl)) dX4_now_61 ⟨Nat.zero_le _, Nat.zero_le _⟩ ?_
    refine lv_if_eq (tgt := 71) hx hb dX4_now_64 rfl (fun c64 => ?_) (fun c64 => ?_)
    · replace c64 := (b2i_0 _).mp c64
      refine lv_iconst (v := 0) hx hb dX4_now_71 rfl ?_
      have hE : tS = nowT tS w := by simp [nowR, nowT, bump, put9, b2i, c1_0, c1_1, c1_2, c64, i_lt, -Int32.not_le, -Int32.not_lt]
      have hW : (MW cI cJ A sS kS oS aS tS ik cA tp td fm tt vl wr bO sO nU mV) = (MW cI cJ A sS kS oS aS (nowT tS w) ik cA tp td fm tt vl wr bO sO nU mV) := congrArg (fun z => (MW cI cJ A sS kS oS aS z ik cA tp td fm tt vl wr bO sO nU mV)) hE
      have hP : va_P D vwCl (MW cI cJ A sS kS oS aS (nowT tS w) ik cA tp td fm tt vl wr bO sO nU mV) s.heap := Eq.mp (congrArg (fun z => va_P D vwCl z s.heap) hW) hP
      have hD : va_D _ (MW cI cJ A sS kS oS aS (nowT tS w) ik cA tp td fm tt vl wr bO sO nU mV) := Eq.mp (congrArg (fun z => va_D _ z) hW) hD
      exact mu_iret (MW cI cJ A sS kS oS aS (nowT tS w) ik cA tp td fm tt vl wr bO sO nU mV) hx hb hr hlk hP hS rfl (⟨congrArg (fun z => some (Value.int z)) (by simp [nowR, nowT, bump, put9, b2i, c1_0, c1_1, c1_2, c64, i_lt, -Int32.not_le, -Int32.not_lt]), rfl⟩) dX4_now_72
    · replace c64 := b2i_n0 c64
      refine lv_iconst (v := 1) hx hb dX4_now_67 rfl ?_
      refine lv_goto (tgt := 72) hx hb dX4_now_68 rfl ?_
      have hE : tS = nowT tS w := by simp [nowR, nowT, bump, put9, b2i, c1_0, c1_1, c1_2, c64, i_lt, -Int32.not_le, -Int32.not_lt]
      have hW : (MW cI cJ A sS kS oS aS tS ik cA tp td fm tt vl wr bO sO nU mV) = (MW cI cJ A sS kS oS aS (nowT tS w) ik cA tp td fm tt vl wr bO sO nU mV) := congrArg (fun z => (MW cI cJ A sS kS oS aS z ik cA tp td fm tt vl wr bO sO nU mV)) hE
      have hP : va_P D vwCl (MW cI cJ A sS kS oS aS (nowT tS w) ik cA tp td fm tt vl wr bO sO nU mV) s.heap := Eq.mp (congrArg (fun z => va_P D vwCl z s.heap) hW) hP
      have hD : va_D _ (MW cI cJ A sS kS oS aS (nowT tS w) ik cA tp td fm tt vl wr bO sO nU mV) := Eq.mp (congrArg (fun z => va_D _ z) hW) hD
      exact mu_iret (MW cI cJ A sS kS oS aS (nowT tS w) ik cA tp td fm tt vl wr bO sO nU mV) hx hb hr hlk hP hS rfl (⟨congrArg (fun z => some (Value.int z)) (by simp [nowR, nowT, bump, put9, b2i, c1_0, c1_1, c1_2, c64, i_lt, -Int32.not_le, -Int32.not_lt]), rfl⟩) dX4_now_72
  by_cases c1_3 : w = 3
  · refine lv_tableIn (tgt := 73) hx hb dX4_now_1 (by rw [c1_3]; decide) (by rw [c1_3]; decide) (by rw [c1_3]; rfl) rfl ?_
    refine lv_aload_n hx hb dX4_now_73 rfl (lv_at hl 0 rfl) ?_
    refine ro_V (w := (MW cI cJ A sS kS oS aS tS ik cA tp td fm tt vl wr bO sO nU mV)) (rest := []) S hK hP (k_X4_content n hI) gv_X4_101 hd_X4_content ⟨Nat.le_of_ble_eq_true rfl, Nat.le_of_ble_eq_true rfl⟩ 4 rfl rfl rfl rfl hl.1 (lv_room (Nat.le_of_ble_eq_true rfl)) dX4_now_74 ⟨Nat.zero_le _, Nat.zero_le _⟩ ?_
    have hE : tS = nowT tS w := by simp [nowR, nowT, bump, put9, b2i, c1_0, c1_1, c1_2, c1_3, i_lt, -Int32.not_le, -Int32.not_lt]
    have hW : (MW cI cJ A sS kS oS aS tS ik cA tp td fm tt vl wr bO sO nU mV) = (MW cI cJ A sS kS oS aS (nowT tS w) ik cA tp td fm tt vl wr bO sO nU mV) := congrArg (fun z => (MW cI cJ A sS kS oS aS z ik cA tp td fm tt vl wr bO sO nU mV)) hE
    have hP : va_P D vwCl (MW cI cJ A sS kS oS aS (nowT tS w) ik cA tp td fm tt vl wr bO sO nU mV) s.heap := Eq.mp (congrArg (fun z => va_P D vwCl z s.heap) hW) hP
    have hD : va_D _ (MW cI cJ A sS kS oS aS (nowT tS w) ik cA tp td fm tt vl wr bO sO nU mV) := Eq.mp (congrArg (fun z => va_D _ z) hW) hD
    exact mu_iret (MW cI cJ A sS kS oS aS (nowT tS w) ik cA tp td fm tt vl wr bO sO nU mV) hx hb hr hlk hP hS rfl (⟨congrArg (fun z => some (Value.int z)) (by simp [nowR, nowT, bump, put9, b2i, c1_0, c1_1, c1_2, c1_3, i_lt, -Int32.not_le, -Int32.not_lt]), rfl⟩) dX4_now_77
  by_cases c1_4 : w = 4
  · refine lv_tableIn (tgt := 78) hx hb dX4_now_1 (by rw [c1_4]; decide) (by rw [c1_4]; decide) (by rw [c1_4]; rfl) rfl ?_
    refine lv_aload_n hx hb dX4_now_78 rfl (lv_at hl 0 rfl) ?_
    refine ro_V (w := (MW cI cJ A sS kS oS aS tS ik cA tp td fm tt vl wr bO sO nU mV)) (rest := []) S hK hP (k_X4_waiting n hI) gv_X4_104 hd_X4_waiting ⟨Nat.le_of_ble_eq_true rfl, Nat.le_of_ble_eq_true rfl⟩ 4 rfl rfl rfl rfl hl.1 (lv_room (Nat.le_of_ble_eq_true rfl)) dX4_now_79 ⟨Nat.zero_le _, Nat.zero_le _⟩ ?_
    have hE : tS = nowT tS w := by simp [nowR, nowT, bump, put9, b2i, c1_0, c1_1, c1_2, c1_3, c1_4, i_lt, -Int32.not_le, -Int32.not_lt]
    have hW : (MW cI cJ A sS kS oS aS tS ik cA tp td fm tt vl wr bO sO nU mV) = (MW cI cJ A sS kS oS aS (nowT tS w) ik cA tp td fm tt vl wr bO sO nU mV) := congrArg (fun z => (MW cI cJ A sS kS oS aS z ik cA tp td fm tt vl wr bO sO nU mV)) hE
    have hP : va_P D vwCl (MW cI cJ A sS kS oS aS (nowT tS w) ik cA tp td fm tt vl wr bO sO nU mV) s.heap := Eq.mp (congrArg (fun z => va_P D vwCl z s.heap) hW) hP
    have hD : va_D _ (MW cI cJ A sS kS oS aS (nowT tS w) ik cA tp td fm tt vl wr bO sO nU mV) := Eq.mp (congrArg (fun z => va_D _ z) hW) hD
    exact mu_iret (MW cI cJ A sS kS oS aS (nowT tS w) ik cA tp td fm tt vl wr bO sO nU mV) hx hb hr hlk hP hS rfl (⟨congrArg (fun z => some (Value.int z)) (by simp [nowR, nowT, bump, put9, b2i, c1_0, c1_1, c1_2, c1_3, c1_4, i_lt, -Int32.not_le, -Int32.not_lt]), rfl⟩) dX4_now_82
  by_cases c1_5 : w = 5
  · refine lv_tableIn (tgt := 83) hx hb dX4_now_1 (by rw [c1_5]; decide) (by rw [c1_5]; decide) (by rw [c1_5]; rfl) rfl ?_
    refine lv_aload_n hx hb dX4_now_83 rfl (lv_at hl 0 rfl) ?_
    refine ro_V (w := (MW cI cJ A sS kS oS aS tS ik cA tp td fm tt vl wr bO sO nU mV)) (rest := []) S hK hP (k_X4_seenOnes n hI) gv_X4_107 hd_X4_seenOnes ⟨Nat.le_of_ble_eq_true rfl, Nat.le_of_ble_eq_true rfl⟩ 4 rfl rfl rfl rfl hl.1 (lv_room (Nat.le_of_ble_eq_true rfl)) dX4_now_84 ⟨Nat.zero_le _, Nat.zero_le _⟩ ?_
    have hE : tS = nowT tS w := by simp [nowR, nowT, bump, put9, b2i, c1_0, c1_1, c1_2, c1_3, c1_4, c1_5, i_lt, -Int32.not_le, -Int32.not_lt]
    have hW : (MW cI cJ A sS kS oS aS tS ik cA tp td fm tt vl wr bO sO nU mV) = (MW cI cJ A sS kS oS aS (nowT tS w) ik cA tp td fm tt vl wr bO sO nU mV) := congrArg (fun z => (MW cI cJ A sS kS oS aS z ik cA tp td fm tt vl wr bO sO nU mV)) hE
    have hP : va_P D vwCl (MW cI cJ A sS kS oS aS (nowT tS w) ik cA tp td fm tt vl wr bO sO nU mV) s.heap := Eq.mp (congrArg (fun z => va_P D vwCl z s.heap) hW) hP
    have hD : va_D _ (MW cI cJ A sS kS oS aS (nowT tS w) ik cA tp td fm tt vl wr bO sO nU mV) := Eq.mp (congrArg (fun z => va_D _ z) hW) hD
    exact mu_iret (MW cI cJ A sS kS oS aS (nowT tS w) ik cA tp td fm tt vl wr bO sO nU mV) hx hb hr hlk hP hS rfl (⟨congrArg (fun z => some (Value.int z)) (by simp [nowR, nowT, bump, put9, b2i, c1_0, c1_1, c1_2, c1_3, c1_4, c1_5, i_lt, -Int32.not_le, -Int32.not_lt]), rfl⟩) dX4_now_87
  by_cases c1_6 : w = 6
  · refine lv_tableIn (tgt := 88) hx hb dX4_now_1 (by rw [c1_6]; decide) (by rw [c1_6]; decide) (by rw [c1_6]; rfl) rfl ?_
    refine lv_aload_n hx hb dX4_now_88 rfl (lv_at hl 0 rfl) ?_
    refine ro_V (w := (MW cI cJ A sS kS oS aS tS ik cA tp td fm tt vl wr bO sO nU mV)) (rest := []) S hK hP (k_X4_outOnes n hI) gv_X4_110 hd_X4_outOnes ⟨Nat.le_of_ble_eq_true rfl, Nat.le_of_ble_eq_true rfl⟩ 4 rfl rfl rfl rfl hl.1 (lv_room (Nat.le_of_ble_eq_true rfl)) dX4_now_89 ⟨Nat.zero_le _, Nat.zero_le _⟩ ?_
    have hE : tS = nowT tS w := by simp [nowR, nowT, bump, put9, b2i, c1_0, c1_1, c1_2, c1_3, c1_4, c1_5, c1_6, i_lt, -Int32.not_le, -Int32.not_lt]
    have hW : (MW cI cJ A sS kS oS aS tS ik cA tp td fm tt vl wr bO sO nU mV) = (MW cI cJ A sS kS oS aS (nowT tS w) ik cA tp td fm tt vl wr bO sO nU mV) := congrArg (fun z => (MW cI cJ A sS kS oS aS z ik cA tp td fm tt vl wr bO sO nU mV)) hE
    have hP : va_P D vwCl (MW cI cJ A sS kS oS aS (nowT tS w) ik cA tp td fm tt vl wr bO sO nU mV) s.heap := Eq.mp (congrArg (fun z => va_P D vwCl z s.heap) hW) hP
    have hD : va_D _ (MW cI cJ A sS kS oS aS (nowT tS w) ik cA tp td fm tt vl wr bO sO nU mV) := Eq.mp (congrArg (fun z => va_D _ z) hW) hD
    exact mu_iret (MW cI cJ A sS kS oS aS (nowT tS w) ik cA tp td fm tt vl wr bO sO nU mV) hx hb hr hlk hP hS rfl (⟨congrArg (fun z => some (Value.int z)) (by simp [nowR, nowT, bump, put9, b2i, c1_0, c1_1, c1_2, c1_3, c1_4, c1_5, c1_6, i_lt, -Int32.not_le, -Int32.not_lt]), rfl⟩) dX4_now_92
  by_cases c1_7 : w = 7
  · refine lv_tableIn (tgt := 93) hx hb dX4_now_1 (by rw [c1_7]; decide) (by rw [c1_7]; decide) (by rw [c1_7]; rfl) rfl ?_
    refine lv_aload_n hx hb dX4_now_93 rfl (lv_at hl 0 rfl) ?_
    refine lv_bipush (v := 8) hx hb dX4_now_94 rfl ?_
    refine ro_V (w := (MW cI cJ A sS kS oS aS tS ik cA tp td fm tt vl wr bO sO nU mV)) (rest := []) S hK hP (k_X4_together n 8 hI (by omega)) gv_X4_113 hd_X4_together ⟨Nat.le_of_ble_eq_true rfl, Nat.le_of_ble_eq_true rfl⟩ 4 rfl rfl rfl rfl hl.1 (lv_room (Nat.le_of_ble_eq_true rfl)) dX4_now_96 ⟨Nat.zero_le _, Nat.zero_le _⟩ ?_
    have hE : tS = nowT tS w := by simp [nowR, nowT, bump, put9, b2i, c1_0, c1_1, c1_2, c1_3, c1_4, c1_5, c1_6, c1_7, i_lt, -Int32.not_le, -Int32.not_lt]
    have hW : (MW cI cJ A sS kS oS aS tS ik cA tp td fm tt vl wr bO sO nU mV) = (MW cI cJ A sS kS oS aS (nowT tS w) ik cA tp td fm tt vl wr bO sO nU mV) := congrArg (fun z => (MW cI cJ A sS kS oS aS z ik cA tp td fm tt vl wr bO sO nU mV)) hE
    have hP : va_P D vwCl (MW cI cJ A sS kS oS aS (nowT tS w) ik cA tp td fm tt vl wr bO sO nU mV) s.heap := Eq.mp (congrArg (fun z => va_P D vwCl z s.heap) hW) hP
    have hD : va_D _ (MW cI cJ A sS kS oS aS (nowT tS w) ik cA tp td fm tt vl wr bO sO nU mV) := Eq.mp (congrArg (fun z => va_D _ z) hW) hD
    exact mu_iret (MW cI cJ A sS kS oS aS (nowT tS w) ik cA tp td fm tt vl wr bO sO nU mV) hx hb hr hlk hP hS rfl (⟨congrArg (fun z => some (Value.int z)) (by simp [nowR, nowT, bump, put9, b2i, c1_0, c1_1, c1_2, c1_3, c1_4, c1_5, c1_6, c1_7, i_lt, -Int32.not_le, -Int32.not_lt]), rfl⟩) dX4_now_99
  refine lv_tableOut (tgt := 100) hx hb dX4_now_1 (by have q0 := lv_neT c1_0 (a := 0) rfl; have q1 := lv_neT c1_1 (a := 1) rfl; have q2 := lv_neT c1_2 (a := 2) rfl; have q3 := lv_neT c1_3 (a := 3) rfl; have q4 := lv_neT c1_4 (a := 4) rfl; have q5 := lv_neT c1_5 (a := 5) rfl; have q6 := lv_neT c1_6 (a := 6) rfl; have q7 := lv_neT c1_7 (a := 7) rfl; omega) rfl ?_
  refine lv_aload_n hx hb dX4_now_100 rfl (lv_at hl 0 rfl) ?_
  refine lv_ldc (v := (-1000000001)) hx hb hown (hts _ wq_X4_44) dX4_now_101 ?_
  refine mu_W (w := (MW cI cJ A sS kS oS aS tS ik cA tp td fm tt vl wr bO sO nU mV)) (rest := []) S hK hP hD hS (k_X4_finds 0 (-1000000001) (by decide) (by decide)) gv_X4_63 hd_X4_finds ⟨Nat.le_of_ble_eq_true rfl, Nat.le_of_ble_eq_true rfl⟩ 4 rfl rfl rfl rfl hl.1 (lv_room (Nat.le_of_ble_eq_true rfl)) dX4_now_103 ⟨Nat.zero_le _, Nat.zero_le _⟩ (fun ov w' H locs hp hP hD hS => ?_)
  obtain ⟨rfl, rfl⟩ := hp
  refine W.eq (g2 := F0 m 106 ls [.int (-1000000001)]) rfl ?_
  have hE : upd tS 0 (tS 0 + 1) = nowT tS w := by simp [nowR, nowT, bump, put9, b2i, c1_0, c1_1, c1_2, c1_3, c1_4, c1_5, c1_6, c1_7, i_lt, -Int32.not_le, -Int32.not_lt]
  have hW : (MW cI cJ A sS kS oS aS (upd tS 0 (tS 0 + 1)) ik cA tp td fm tt vl wr bO sO nU mV) = (MW cI cJ A sS kS oS aS (nowT tS w) ik cA tp td fm tt vl wr bO sO nU mV) := congrArg (fun z => (MW cI cJ A sS kS oS aS z ik cA tp td fm tt vl wr bO sO nU mV)) hE
  have hP : va_P D vwCl (MW cI cJ A sS kS oS aS (nowT tS w) ik cA tp td fm tt vl wr bO sO nU mV) H := Eq.mp (congrArg (fun z => va_P D vwCl z H) hW) hP
  have hD : va_D _ (MW cI cJ A sS kS oS aS (nowT tS w) ik cA tp td fm tt vl wr bO sO nU mV) := Eq.mp (congrArg (fun z => va_D _ z) hW) hD
  exact mu_iret (MW cI cJ A sS kS oS aS (nowT tS w) ik cA tp td fm tt vl wr bO sO nU mV) hx hb hr hlk hP hS rfl (⟨congrArg (fun z => some (Value.int z)) (by simp [nowR, nowT, bump, put9, b2i, c1_0, c1_1, c1_2, c1_3, c1_4, c1_5, c1_6, c1_7, i_lt, -Int32.not_le, -Int32.not_lt]), rfl⟩) dX4_now_106

set_option maxHeartbeats 4000000 in
set_option maxRecDepth 100000 in
theorem k_X4_hangs (n : Nat) (b : Int32) (hI : Inv sS n) : MU l D (tyA cI cJ cO) yX4_hangs cX4_hangs 4 ((some .int)) 2 43 [.ref (A 0), .int b] (MW cI cJ A sS kS oS aS tS ik cA tp td fm tt vl wr bO sO nU mV) (fun ov w' => ov = some (.int (hangsR sS n b)) ∧ w' = (MW cI cJ A sS kS oS aS (okT (inI b 0 3) tS) ik cA tp td fm tt vl wr bO sO nU mV)) := by
  refine MU.mk (by decide) (Nat.le_of_ble_eq_true rfl) ?_
  intro p e s m below meth c ls S hr hlk hP hK hD hS hl
  have S : CallFix p m c cX4_hangs 4 s _ WL RX4 := S
  obtain ⟨hx, hb, hml, hown, hts⟩ := id S
  have hl : lv_has ls 4 [(0, .ref (A 0)), (1, .int b)] := hl
  have h8 : n ≤ 8 := hI.1
  refine lv_iload_n hx hb dX4_hangs_0 rfl (lv_at hl 1 rfl) ?_
  refine lv_i2l hx hb dX4_hangs_1 rfl ?_
  refine lv_lconst (v := 0) hx hb dX4_hangs_2 rfl ?_
  refine lv_ldc2 (v := 3) hx hb hown (hts _ wq_X4_116) dX4_hangs_3 ?_
  refine ro_S (w := []) (rest := []) S hK va_P0 (k_X4_inI b 0 3 _ _ (by decide) (by decide)) gs_X4_49 hd_X4_in ⟨Nat.le_of_ble_eq_true rfl, Nat.le_of_ble_eq_true rfl⟩ rfl hl.1 (lv_room (Nat.le_of_ble_eq_true rfl)) dX4_hangs_6 ⟨Nat.zero_le _, Nat.zero_le _⟩ ?_
  refine lv_if_ne (tgt := 19) hx hb dX4_hangs_9 rfl (fun c9 => ?_) (fun c9 => ?_)
  · replace c9 := b2i_n0 c9
    refine lv_iconst (v := 0) hx hb dX4_hangs_19 rfl ?_
    refine lv_istore_n (lv' := [(2, .int 0), (0, .ref (A 0)), (1, .int b)]) hx hb dX4_hangs_20 rfl hl (by decide) rfl (fun ls hl => ?_)
    refine lv_iconst (v := 0) hx hb dX4_hangs_21 rfl ?_
    refine lv_istore_n (lv' := [(3, .int 0), (2, .int 0), (0, .ref (A 0)), (1, .int b)]) hx hb dX4_hangs_22 rfl hl (by decide) rfl (fun ls hl => ?_)
    refine w_loopH (pc := 23) (st := fun (i : Nat) => []) (μ := fun (i : Nat) => n - i) (I := fun (i : Nat) H locs ls => (i ≤ n) ∧ va_P D vwCl (MW cI cJ A sS kS oS aS tS ik cA tp td fm tt vl wr bO sO nU mV) H ∧ va_D (fun z9 => z9 ∈ ((MW cI cJ A sS kS oS aS tS ik cA tp td fm tt vl wr bO sO nU mV)).map (fun z8 => z8.1)) (MW cI cJ A sS kS oS aS tS ik cA tp td fm tt vl wr bO sO nU mV) ∧ va_S (fun z9 => z9 ∈ ((MW cI cJ A sS kS oS aS tS ik cA tp td fm tt vl wr bO sO nU mV)).map (fun z8 => z8.1)) s.heap H locs ∧ lv_has ls 4 [(0, .ref (A 0)), (1, .int b), (2, .int (setF (inP sS b) i)), (3, .int (nI i))]) ?_ (0) ⟨Nat.zero_le _, hP, hD, hS, lv_sub hl [2, 3, 1, 0] rfl⟩
    rintro i H locs ls ⟨hi, hP, hD, hS, hl⟩ ih23
    try dsimp only at ih23 ⊢
    refine lv_iload_n hx hb dX4_hangs_23 rfl (lv_at hl 3 rfl) ?_
    refine lv_aload_n hx hb dX4_hangs_24 rfl (lv_at hl 0 rfl) ?_
    refine va_get (ci := 4) (v := .ref (A 1)) hx hb hts wx_X4 hown hK hP 0 rfl rfl 0 (by decide) (hts _ wf_X4_7) (fun _ h9 => h9) rfl dX4_hangs_25 ?_
    refine lv_iconst (v := 1) hx hb dX4_hangs_28 rfl ?_
    refine ia_ld hx hb hK hP 1 0 rfl rfl 1 (rfl) (by omega) (by decide) dX4_hangs_29 ?_
    refine w_i (z := nI n) (hI.2.1) ?_
    refine lv_icmp_ge (tgt := 59) hx hb dX4_hangs_30 rfl (fun c30 => ?_) (fun c30 => ?_)
    · replace c30 := nq_le (a := n) (b := i) (by omega) (by omega) c30
      obtain rfl : n = i := by omega
      refine lv_iload_n hx hb dX4_hangs_59 rfl (lv_at hl 2 rfl) ?_
      have hE : tS = okT (inI b 0 3) tS := by simp [hangsR, okT, bump, put9, b2i, c9, c30, i_lt, -Int32.not_le, -Int32.not_lt]
      have hW : (MW cI cJ A sS kS oS aS tS ik cA tp td fm tt vl wr bO sO nU mV) = (MW cI cJ A sS kS oS aS (okT (inI b 0 3) tS) ik cA tp td fm tt vl wr bO sO nU mV) := congrArg (fun z => (MW cI cJ A sS kS oS aS z ik cA tp td fm tt vl wr bO sO nU mV)) hE
      have hP : va_P D vwCl (MW cI cJ A sS kS oS aS (okT (inI b 0 3) tS) ik cA tp td fm tt vl wr bO sO nU mV) H := Eq.mp (congrArg (fun z => va_P D vwCl z H) hW) hP
      have hD : va_D _ (MW cI cJ A sS kS oS aS (okT (inI b 0 3) tS) ik cA tp td fm tt vl wr bO sO nU mV) := Eq.mp (congrArg (fun z => va_D _ z) hW) hD
      exact mu_iret (MW cI cJ A sS kS oS aS (okT (inI b 0 3) tS) ik cA tp td fm tt vl wr bO sO nU mV) hx hb hr hlk hP hS rfl (⟨congrArg (fun z => some (Value.int z)) (by simp [hangsR, okT, bump, put9, b2i, c9, c30, i_lt, -Int32.not_le, -Int32.not_lt]), rfl⟩) dX4_hangs_60
    · replace c30 := nq_nle (a := n) (b := i) (by omega) (by omega) c30
      refine lv_iload_n hx hb dX4_hangs_33 rfl (lv_at hl 2 rfl) ?_
      refine lv_aload_n hx hb dX4_hangs_34 rfl (lv_at hl 0 rfl) ?_
      refine lv_iload_n hx hb dX4_hangs_35 rfl (lv_at hl 3 rfl) ?_
      refine lv_iconst (v := 1) hx hb dX4_hangs_36 rfl ?_
      refine ro_V (w := (MW cI cJ A sS kS oS aS tS ik cA tp td fm tt vl wr bO sO nU mV)) (rest := [.int (setF (inP sS b) i)]) S hK hP (k_X4_its i 1 (by omega) (by omega)) gv_X4_55 hd_X4_its ⟨Nat.le_of_ble_eq_true rfl, Nat.le_of_ble_eq_true rfl⟩ 4 rfl rfl rfl rfl hl.1 (lv_room (Nat.le_of_ble_eq_true rfl)) dX4_hangs_37 ⟨Nat.zero_le _, Nat.zero_le _⟩ ?_
      refine lv_iload_n hx hb dX4_hangs_40 rfl (lv_at hl 1 rfl) ?_
      refine lv_icmp_ne (tgt := 50) hx hb dX4_hangs_41 rfl (fun c41 => ?_) (fun c41 => ?_)
      · refine lv_iconst (v := 0) hx hb dX4_hangs_50 rfl ?_
        refine lv_ior hx hb dX4_hangs_51 ?_
        refine w_i (z := setF (inP sS b) (i + 1)) (setF_f0 (by simp [inP, c41])) ?_
        refine lv_istore_n (lv' := [(2, .int (setF (inP sS b) (i + 1))), (0, .ref (A 0)), (1, .int b), (3, .int (nI i))]) hx hb dX4_hangs_52 rfl hl (by decide) rfl (fun ls hl => ?_)
        refine lv_iinc (v := nI (i + 1)) (lv' := [(3, .int (nI (i + 1))), (2, .int (setF (inP sS b) (i + 1))), (0, .ref (A 0)), (1, .int b)]) hx hb dX4_hangs_53 hl (k := 3) rfl (nI_inc _) (by decide) rfl (fun ls hl => ?_)
        refine lv_goto (tgt := 23) hx hb dX4_hangs_56 rfl ?_
        exact ih23 (i + 1) _ _ ls (by first | omega | (dsimp only; omega)) ⟨(by omega), hP, hD, hS, lv_sub hl [2, 3, 1, 0] rfl⟩
      · refine lv_iconst (v := 1) hx hb dX4_hangs_44 rfl ?_
        refine lv_iload_n hx hb dX4_hangs_45 rfl (lv_at hl 3 rfl) ?_
        refine lv_ishl hx hb dX4_hangs_46 ?_
        refine lv_goto (tgt := 51) hx hb dX4_hangs_47 rfl ?_
        refine lv_ior hx hb dX4_hangs_51 ?_
        refine w_i (z := setF (inP sS b) (i + 1)) (setF_t (by simp [inP, c41])) ?_
        refine lv_istore_n (lv' := [(2, .int (setF (inP sS b) (i + 1))), (0, .ref (A 0)), (1, .int b), (3, .int (nI i))]) hx hb dX4_hangs_52 rfl hl (by decide) rfl (fun ls hl => ?_)
        refine lv_iinc (v := nI (i + 1)) (lv' := [(3, .int (nI (i + 1))), (2, .int (setF (inP sS b) (i + 1))), (0, .ref (A 0)), (1, .int b)]) hx hb dX4_hangs_53 hl (k := 3) rfl (nI_inc _) (by decide) rfl (fun ls hl => ?_)
        refine lv_goto (tgt := 23) hx hb dX4_hangs_56 rfl ?_
        exact ih23 (i + 1) _ _ ls (by first | omega | (dsimp only; omega)) ⟨(by omega), hP, hD, hS, lv_sub hl [2, 3, 1, 0] rfl⟩
  · replace c9 := (b2i_0 _).mp c9
    refine lv_aload_n hx hb dX4_hangs_12 rfl (lv_at hl 0 rfl) ?_
    refine lv_ldc (v := (-1000000001)) hx hb hown (hts _ wq_X4_44) dX4_hangs_13 ?_
    refine mu_W (w := (MW cI cJ A sS kS oS aS tS ik cA tp td fm tt vl wr bO sO nU mV)) (rest := []) S hK hP hD hS (k_X4_finds 0 (-1000000001) (by decide) (by decide)) gv_X4_63 hd_X4_finds ⟨Nat.le_of_ble_eq_true rfl, Nat.le_of_ble_eq_true rfl⟩ 4 rfl rfl rfl rfl hl.1 (lv_room (Nat.le_of_ble_eq_true rfl)) dX4_hangs_15 ⟨Nat.zero_le _, Nat.zero_le _⟩ (fun ov w' H locs hp hP hD hS => ?_)
    obtain ⟨rfl, rfl⟩ := hp
    refine W.eq (g2 := F0 m 18 ls [.int (-1000000001)]) rfl ?_
    have hE : upd tS 0 (tS 0 + 1) = okT (inI b 0 3) tS := by simp [hangsR, okT, bump, put9, b2i, c9, i_lt, -Int32.not_le, -Int32.not_lt]
    have hW : (MW cI cJ A sS kS oS aS (upd tS 0 (tS 0 + 1)) ik cA tp td fm tt vl wr bO sO nU mV) = (MW cI cJ A sS kS oS aS (okT (inI b 0 3) tS) ik cA tp td fm tt vl wr bO sO nU mV) := congrArg (fun z => (MW cI cJ A sS kS oS aS z ik cA tp td fm tt vl wr bO sO nU mV)) hE
    have hP : va_P D vwCl (MW cI cJ A sS kS oS aS (okT (inI b 0 3) tS) ik cA tp td fm tt vl wr bO sO nU mV) H := Eq.mp (congrArg (fun z => va_P D vwCl z H) hW) hP
    have hD : va_D _ (MW cI cJ A sS kS oS aS (okT (inI b 0 3) tS) ik cA tp td fm tt vl wr bO sO nU mV) := Eq.mp (congrArg (fun z => va_D _ z) hW) hD
    exact mu_iret (MW cI cJ A sS kS oS aS (okT (inI b 0 3) tS) ik cA tp td fm tt vl wr bO sO nU mV) hx hb hr hlk hP hS rfl (⟨congrArg (fun z => some (Value.int z)) (by simp [hangsR, okT, bump, put9, b2i, c9, i_lt, -Int32.not_le, -Int32.not_lt]), rfl⟩) dX4_hangs_18

set_option maxHeartbeats 4000000 in
set_option maxRecDepth 100000 in
theorem k_X4_figure (n : Nat) (k : Int32) (b : Int32) (d : Int32) (hI : Inv sS n) : MU l D (tyA cI cJ cO) yX4_figure cX4_figure 4 ((some .int)) 2 46 [.ref (A 0), .int k, .int b, .int d] (MW cI cJ A sS kS oS aS tS ik cA tp td fm tt vl wr bO sO nU mV) (fun ov w' => ov = some (.int (figR n k b d)) ∧ w' = (MW cI cJ A (figG sS n k b d) kS oS aS (figT tS n k b d) ik cA tp td fm tt vl wr bO sO nU mV)) := by
  refine MU.mk (by decide) (Nat.le_of_ble_eq_true rfl) ?_
  intro p e s m below meth c ls S hr hlk hP hK hD hS hl
  have S : CallFix p m c cX4_figure 4 s _ WL RX4 := S
  obtain ⟨hx, hb, hml, hown, hts⟩ := id S
  have hl : lv_has ls 4 [(0, .ref (A 0)), (1, .int k), (2, .int b), (3, .int d)] := hl
  have h8 : n ≤ 8 := hI.1
  refine lv_iload_n hx hb dX4_figure_0 rfl (lv_at hl 1 rfl) ?_
  refine ro_S (w := []) (rest := []) S hK va_P0 (k_X4_isKind k) gs_X4_118 hd_X4_isKind ⟨Nat.le_of_ble_eq_true rfl, Nat.le_of_ble_eq_true rfl⟩ rfl hl.1 (lv_room (Nat.le_of_ble_eq_true rfl)) dX4_figure_1 ⟨Nat.zero_le _, Nat.zero_le _⟩ ?_
  refine lv_if_eq (tgt := 31) hx hb dX4_figure_4 rfl (fun c4 => ?_) (fun c4 => ?_)
  · replace c4 := (b2i_0 _).mp c4
    refine lv_aload_n hx hb dX4_figure_31 rfl (lv_at hl 0 rfl) ?_
    refine lv_ldc (v := (-1000000001)) hx hb hown (hts _ wq_X4_44) dX4_figure_32 ?_
    refine mu_W (w := (MW cI cJ A sS kS oS aS tS ik cA tp td fm tt vl wr bO sO nU mV)) (rest := []) S hK hP hD hS (k_X4_finds 0 (-1000000001) (by decide) (by decide)) gv_X4_63 hd_X4_finds ⟨Nat.le_of_ble_eq_true rfl, Nat.le_of_ble_eq_true rfl⟩ 4 rfl rfl rfl rfl hl.1 (lv_room (Nat.le_of_ble_eq_true rfl)) dX4_figure_34 ⟨Nat.zero_le _, Nat.zero_le _⟩ (fun ov w' H locs hp hP hD hS => ?_)
    obtain ⟨rfl, rfl⟩ := hp
    refine W.eq (g2 := F0 m 37 ls [.int (-1000000001)]) rfl ?_
    have hE : sS = figG sS n k b d := by simp [figR, figOk, figG, figT, bump, put9, b2i, c4, i_lt, -Int32.not_le, -Int32.not_lt]
    have hW : (MW cI cJ A sS kS oS aS (upd tS 0 (tS 0 + 1)) ik cA tp td fm tt vl wr bO sO nU mV) = (MW cI cJ A (figG sS n k b d) kS oS aS (upd tS 0 (tS 0 + 1)) ik cA tp td fm tt vl wr bO sO nU mV) := congrArg (fun z => (MW cI cJ A z kS oS aS (upd tS 0 (tS 0 + 1)) ik cA tp td fm tt vl wr bO sO nU mV)) hE
    have hP : va_P D vwCl (MW cI cJ A (figG sS n k b d) kS oS aS (upd tS 0 (tS 0 + 1)) ik cA tp td fm tt vl wr bO sO nU mV) H := Eq.mp (congrArg (fun z => va_P D vwCl z H) hW) hP
    have hD : va_D _ (MW cI cJ A (figG sS n k b d) kS oS aS (upd tS 0 (tS 0 + 1)) ik cA tp td fm tt vl wr bO sO nU mV) := Eq.mp (congrArg (fun z => va_D _ z) hW) hD
    have hE : upd tS 0 (tS 0 + 1) = figT tS n k b d := by simp [figR, figOk, figG, figT, bump, put9, b2i, c4, i_lt, -Int32.not_le, -Int32.not_lt]
    have hW : (MW cI cJ A (figG sS n k b d) kS oS aS (upd tS 0 (tS 0 + 1)) ik cA tp td fm tt vl wr bO sO nU mV) = (MW cI cJ A (figG sS n k b d) kS oS aS (figT tS n k b d) ik cA tp td fm tt vl wr bO sO nU mV) := congrArg (fun z => (MW cI cJ A (figG sS n k b d) kS oS aS z ik cA tp td fm tt vl wr bO sO nU mV)) hE
    have hP : va_P D vwCl (MW cI cJ A (figG sS n k b d) kS oS aS (figT tS n k b d) ik cA tp td fm tt vl wr bO sO nU mV) H := Eq.mp (congrArg (fun z => va_P D vwCl z H) hW) hP
    have hD : va_D _ (MW cI cJ A (figG sS n k b d) kS oS aS (figT tS n k b d) ik cA tp td fm tt vl wr bO sO nU mV) := Eq.mp (congrArg (fun z => va_D _ z) hW) hD
    exact mu_iret (MW cI cJ A (figG sS n k b d) kS oS aS (figT tS n k b d) ik cA tp td fm tt vl wr bO sO nU mV) hx hb hr hlk hP hS rfl (⟨congrArg (fun z => some (Value.int z)) (by simp [figR, figOk, figG, figT, bump, put9, b2i, c4, i_lt, -Int32.not_le, -Int32.not_lt]), rfl⟩) dX4_figure_37
  · replace c4 := b2i_n0 c4
    refine lv_iload_n hx hb dX4_figure_7 rfl (lv_at hl 2 rfl) ?_
    refine lv_i2l hx hb dX4_figure_8 rfl ?_
    refine lv_lconst (v := 0) hx hb dX4_figure_9 rfl ?_
    refine lv_ldc2 (v := 3) hx hb hown (hts _ wq_X4_116) dX4_figure_10 ?_
    refine ro_S (w := []) (rest := []) S hK va_P0 (k_X4_inI b 0 3 _ _ (by decide) (by decide)) gs_X4_49 hd_X4_in ⟨Nat.le_of_ble_eq_true rfl, Nat.le_of_ble_eq_true rfl⟩ rfl hl.1 (lv_room (Nat.le_of_ble_eq_true rfl)) dX4_figure_13 ⟨Nat.zero_le _, Nat.zero_le _⟩ ?_
    refine lv_if_eq (tgt := 31) hx hb dX4_figure_16 rfl (fun c16 => ?_) (fun c16 => ?_)
    · replace c16 := (b2i_0 _).mp c16
      refine lv_aload_n hx hb dX4_figure_31 rfl (lv_at hl 0 rfl) ?_
      refine lv_ldc (v := (-1000000001)) hx hb hown (hts _ wq_X4_44) dX4_figure_32 ?_
      refine mu_W (w := (MW cI cJ A sS kS oS aS tS ik cA tp td fm tt vl wr bO sO nU mV)) (rest := []) S hK hP hD hS (k_X4_finds 0 (-1000000001) (by decide) (by decide)) gv_X4_63 hd_X4_finds ⟨Nat.le_of_ble_eq_true rfl, Nat.le_of_ble_eq_true rfl⟩ 4 rfl rfl rfl rfl hl.1 (lv_room (Nat.le_of_ble_eq_true rfl)) dX4_figure_34 ⟨Nat.zero_le _, Nat.zero_le _⟩ (fun ov w' H locs hp hP hD hS => ?_)
      obtain ⟨rfl, rfl⟩ := hp
      refine W.eq (g2 := F0 m 37 ls [.int (-1000000001)]) rfl ?_
      have hE : sS = figG sS n k b d := by simp [figR, figOk, figG, figT, bump, put9, b2i, c4, c16, i_lt, -Int32.not_le, -Int32.not_lt]
      have hW : (MW cI cJ A sS kS oS aS (upd tS 0 (tS 0 + 1)) ik cA tp td fm tt vl wr bO sO nU mV) = (MW cI cJ A (figG sS n k b d) kS oS aS (upd tS 0 (tS 0 + 1)) ik cA tp td fm tt vl wr bO sO nU mV) := congrArg (fun z => (MW cI cJ A z kS oS aS (upd tS 0 (tS 0 + 1)) ik cA tp td fm tt vl wr bO sO nU mV)) hE
      have hP : va_P D vwCl (MW cI cJ A (figG sS n k b d) kS oS aS (upd tS 0 (tS 0 + 1)) ik cA tp td fm tt vl wr bO sO nU mV) H := Eq.mp (congrArg (fun z => va_P D vwCl z H) hW) hP
      have hD : va_D _ (MW cI cJ A (figG sS n k b d) kS oS aS (upd tS 0 (tS 0 + 1)) ik cA tp td fm tt vl wr bO sO nU mV) := Eq.mp (congrArg (fun z => va_D _ z) hW) hD
      have hE : upd tS 0 (tS 0 + 1) = figT tS n k b d := by simp [figR, figOk, figG, figT, bump, put9, b2i, c4, c16, i_lt, -Int32.not_le, -Int32.not_lt]
      have hW : (MW cI cJ A (figG sS n k b d) kS oS aS (upd tS 0 (tS 0 + 1)) ik cA tp td fm tt vl wr bO sO nU mV) = (MW cI cJ A (figG sS n k b d) kS oS aS (figT tS n k b d) ik cA tp td fm tt vl wr bO sO nU mV) := congrArg (fun z => (MW cI cJ A (figG sS n k b d) kS oS aS z ik cA tp td fm tt vl wr bO sO nU mV)) hE
      have hP : va_P D vwCl (MW cI cJ A (figG sS n k b d) kS oS aS (figT tS n k b d) ik cA tp td fm tt vl wr bO sO nU mV) H := Eq.mp (congrArg (fun z => va_P D vwCl z H) hW) hP
      have hD : va_D _ (MW cI cJ A (figG sS n k b d) kS oS aS (figT tS n k b d) ik cA tp td fm tt vl wr bO sO nU mV) := Eq.mp (congrArg (fun z => va_D _ z) hW) hD
      exact mu_iret (MW cI cJ A (figG sS n k b d) kS oS aS (figT tS n k b d) ik cA tp td fm tt vl wr bO sO nU mV) hx hb hr hlk hP hS rfl (⟨congrArg (fun z => some (Value.int z)) (by simp [figR, figOk, figG, figT, bump, put9, b2i, c4, c16, i_lt, -Int32.not_le, -Int32.not_lt]), rfl⟩) dX4_figure_37
    · replace c16 := b2i_n0 c16
      refine lv_iload_n hx hb dX4_figure_19 rfl (lv_at hl 3 rfl) ?_
      refine lv_i2l hx hb dX4_figure_20 rfl ?_
      refine lv_lconst (v := 0) hx hb dX4_figure_21 rfl ?_
      refine lv_ldc2 (v := 19) hx hb hown (hts _ wq_X4_121) dX4_figure_22 ?_
      refine ro_S (w := []) (rest := []) S hK va_P0 (k_X4_inI d 0 19 _ _ (by decide) (by decide)) gs_X4_49 hd_X4_in ⟨Nat.le_of_ble_eq_true rfl, Nat.le_of_ble_eq_true rfl⟩ rfl hl.1 (lv_room (Nat.le_of_ble_eq_true rfl)) dX4_figure_25 ⟨Nat.zero_le _, Nat.zero_le _⟩ ?_
      refine lv_if_ne (tgt := 38) hx hb dX4_figure_28 rfl (fun c28 => ?_) (fun c28 => ?_)
      · replace c28 := b2i_n0 c28
        refine lv_aload_n hx hb dX4_figure_38 rfl (lv_at hl 0 rfl) ?_
        refine va_get (ci := 4) (v := .ref (A 1)) hx hb hts wx_X4 hown hK hP 0 rfl rfl 0 (by decide) (hts _ wf_X4_7) (fun _ h9 => h9) rfl dX4_figure_39 ?_
        refine lv_iconst (v := 1) hx hb dX4_figure_42 rfl ?_
        refine ia_ld hx hb hK hP 1 0 rfl rfl 1 (rfl) (by omega) (by decide) dX4_figure_43 ?_
        refine w_i (z := nI n) (hI.2.1) ?_
        refine lv_bipush (v := 8) hx hb dX4_figure_44 rfl ?_
        refine lv_icmp_ne (tgt := 58) hx hb dX4_figure_46 rfl (fun c46 => ?_) (fun c46 => ?_)
        · replace c46 := nq_ne (a := n) (b := 8) (by omega) (by omega) c46
          refine lv_aload_n hx hb dX4_figure_58 rfl (lv_at hl 0 rfl) ?_
          refine lv_iload_n hx hb dX4_figure_59 rfl (lv_at hl 1 rfl) ?_
          refine lv_iload_n hx hb dX4_figure_60 rfl (lv_at hl 2 rfl) ?_
          refine lv_iload_n hx hb dX4_figure_61 rfl (lv_at hl 3 rfl) ?_
          refine mu_W (w := (MW cI cJ A sS kS oS aS tS ik cA tp td fm tt vl wr bO sO nU mV)) (rest := []) S hK hP hD hS (k_X4_adds n k b d hI (by omega)) gv_X4_124 hd_X4_adds ⟨Nat.le_of_ble_eq_true rfl, Nat.le_of_ble_eq_true rfl⟩ 4 rfl rfl rfl rfl hl.1 (lv_room (Nat.le_of_ble_eq_true rfl)) dX4_figure_62 ⟨Nat.zero_le _, Nat.zero_le _⟩ (fun ov w' H locs hp hP hD hS => ?_)
          obtain ⟨rfl, rfl⟩ := hp
          refine W.eq (g2 := F0 m 65 ls [.int (nI n)]) rfl ?_
          have hE : addsF sS n k b d = figG sS n k b d := by simp [figR, figOk, figG, figT, bump, put9, b2i, c4, c16, c28, c46, i_lt, -Int32.not_le, -Int32.not_lt]
          have hW : (MW cI cJ A (addsF sS n k b d) kS oS aS tS ik cA tp td fm tt vl wr bO sO nU mV) = (MW cI cJ A (figG sS n k b d) kS oS aS tS ik cA tp td fm tt vl wr bO sO nU mV) := congrArg (fun z => (MW cI cJ A z kS oS aS tS ik cA tp td fm tt vl wr bO sO nU mV)) hE
          have hP : va_P D vwCl (MW cI cJ A (figG sS n k b d) kS oS aS tS ik cA tp td fm tt vl wr bO sO nU mV) H := Eq.mp (congrArg (fun z => va_P D vwCl z H) hW) hP
          have hD : va_D _ (MW cI cJ A (figG sS n k b d) kS oS aS tS ik cA tp td fm tt vl wr bO sO nU mV) := Eq.mp (congrArg (fun z => va_D _ z) hW) hD
          have hE : tS = figT tS n k b d := by simp [figR, figOk, figG, figT, bump, put9, b2i, c4, c16, c28, c46, i_lt, -Int32.not_le, -Int32.not_lt]
          have hW : (MW cI cJ A (figG sS n k b d) kS oS aS tS ik cA tp td fm tt vl wr bO sO nU mV) = (MW cI cJ A (figG sS n k b d) kS oS aS (figT tS n k b d) ik cA tp td fm tt vl wr bO sO nU mV) := congrArg (fun z => (MW cI cJ A (figG sS n k b d) kS oS aS z ik cA tp td fm tt vl wr bO sO nU mV)) hE
          have hP : va_P D vwCl (MW cI cJ A (figG sS n k b d) kS oS aS (figT tS n k b d) ik cA tp td fm tt vl wr bO sO nU mV) H := Eq.mp (congrArg (fun z => va_P D vwCl z H) hW) hP
          have hD : va_D _ (MW cI cJ A (figG sS n k b d) kS oS aS (figT tS n k b d) ik cA tp td fm tt vl wr bO sO nU mV) := Eq.mp (congrArg (fun z => va_D _ z) hW) hD
          exact mu_iret (MW cI cJ A (figG sS n k b d) kS oS aS (figT tS n k b d) ik cA tp td fm tt vl wr bO sO nU mV) hx hb hr hlk hP hS rfl (⟨congrArg (fun z => some (Value.int z)) (by simp [figR, figOk, figG, figT, bump, put9, b2i, c4, c16, c28, c46, i_lt, -Int32.not_le, -Int32.not_lt]), rfl⟩) dX4_figure_65
        · replace c46 := nq_eq (a := n) (b := 8) (by omega) (by omega) c46
          refine lv_aload_n hx hb dX4_figure_49 rfl (lv_at hl 0 rfl) ?_
          refine lv_ldc (v := (-1000000002)) hx hb hown (hts _ wq_X4_123) dX4_figure_50 ?_
          refine mu_W (w := (MW cI cJ A sS kS oS aS tS ik cA tp td fm tt vl wr bO sO nU mV)) (rest := []) S hK hP hD hS (k_X4_finds 1 (-1000000002) (by decide) (by decide)) gv_X4_63 hd_X4_finds ⟨Nat.le_of_ble_eq_true rfl, Nat.le_of_ble_eq_true rfl⟩ 4 rfl rfl rfl rfl hl.1 (lv_room (Nat.le_of_ble_eq_true rfl)) dX4_figure_52 ⟨Nat.zero_le _, Nat.zero_le _⟩ (fun ov w' H locs hp hP hD hS => ?_)
          obtain ⟨rfl, rfl⟩ := hp
          refine W.eq (g2 := F0 m 55 ls [.int (-1000000002)]) rfl ?_
          refine lv_goto (tgt := 65) hx hb dX4_figure_55 rfl ?_
          have hE : sS = figG sS n k b d := by simp [figR, figOk, figG, figT, bump, put9, b2i, c4, c16, c28, c46, i_lt, -Int32.not_le, -Int32.not_lt]
          have hW : (MW cI cJ A sS kS oS aS (upd tS 1 (tS 1 + 1)) ik cA tp td fm tt vl wr bO sO nU mV) = (MW cI cJ A (figG sS n k b d) kS oS aS (upd tS 1 (tS 1 + 1)) ik cA tp td fm tt vl wr bO sO nU mV) := congrArg (fun z => (MW cI cJ A z kS oS aS (upd tS 1 (tS 1 + 1)) ik cA tp td fm tt vl wr bO sO nU mV)) hE
          have hP : va_P D vwCl (MW cI cJ A (figG sS n k b d) kS oS aS (upd tS 1 (tS 1 + 1)) ik cA tp td fm tt vl wr bO sO nU mV) H := Eq.mp (congrArg (fun z => va_P D vwCl z H) hW) hP
          have hD : va_D _ (MW cI cJ A (figG sS n k b d) kS oS aS (upd tS 1 (tS 1 + 1)) ik cA tp td fm tt vl wr bO sO nU mV) := Eq.mp (congrArg (fun z => va_D _ z) hW) hD
          have hE : upd tS 1 (tS 1 + 1) = figT tS n k b d := by simp [figR, figOk, figG, figT, bump, put9, b2i, c4, c16, c28, c46, i_lt, -Int32.not_le, -Int32.not_lt]
          have hW : (MW cI cJ A (figG sS n k b d) kS oS aS (upd tS 1 (tS 1 + 1)) ik cA tp td fm tt vl wr bO sO nU mV) = (MW cI cJ A (figG sS n k b d) kS oS aS (figT tS n k b d) ik cA tp td fm tt vl wr bO sO nU mV) := congrArg (fun z => (MW cI cJ A (figG sS n k b d) kS oS aS z ik cA tp td fm tt vl wr bO sO nU mV)) hE
          have hP : va_P D vwCl (MW cI cJ A (figG sS n k b d) kS oS aS (figT tS n k b d) ik cA tp td fm tt vl wr bO sO nU mV) H := Eq.mp (congrArg (fun z => va_P D vwCl z H) hW) hP
          have hD : va_D _ (MW cI cJ A (figG sS n k b d) kS oS aS (figT tS n k b d) ik cA tp td fm tt vl wr bO sO nU mV) := Eq.mp (congrArg (fun z => va_D _ z) hW) hD
          exact mu_iret (MW cI cJ A (figG sS n k b d) kS oS aS (figT tS n k b d) ik cA tp td fm tt vl wr bO sO nU mV) hx hb hr hlk hP hS rfl (⟨congrArg (fun z => some (Value.int z)) (by simp [figR, figOk, figG, figT, bump, put9, b2i, c4, c16, c28, c46, i_lt, -Int32.not_le, -Int32.not_lt]), rfl⟩) dX4_figure_65
      · replace c28 := (b2i_0 _).mp c28
        refine lv_aload_n hx hb dX4_figure_31 rfl (lv_at hl 0 rfl) ?_
        refine lv_ldc (v := (-1000000001)) hx hb hown (hts _ wq_X4_44) dX4_figure_32 ?_
        refine mu_W (w := (MW cI cJ A sS kS oS aS tS ik cA tp td fm tt vl wr bO sO nU mV)) (rest := []) S hK hP hD hS (k_X4_finds 0 (-1000000001) (by decide) (by decide)) gv_X4_63 hd_X4_finds ⟨Nat.le_of_ble_eq_true rfl, Nat.le_of_ble_eq_true rfl⟩ 4 rfl rfl rfl rfl hl.1 (lv_room (Nat.le_of_ble_eq_true rfl)) dX4_figure_34 ⟨Nat.zero_le _, Nat.zero_le _⟩ (fun ov w' H locs hp hP hD hS => ?_)
        obtain ⟨rfl, rfl⟩ := hp
        refine W.eq (g2 := F0 m 37 ls [.int (-1000000001)]) rfl ?_
        have hE : sS = figG sS n k b d := by simp [figR, figOk, figG, figT, bump, put9, b2i, c4, c16, c28, i_lt, -Int32.not_le, -Int32.not_lt]
        have hW : (MW cI cJ A sS kS oS aS (upd tS 0 (tS 0 + 1)) ik cA tp td fm tt vl wr bO sO nU mV) = (MW cI cJ A (figG sS n k b d) kS oS aS (upd tS 0 (tS 0 + 1)) ik cA tp td fm tt vl wr bO sO nU mV) := congrArg (fun z => (MW cI cJ A z kS oS aS (upd tS 0 (tS 0 + 1)) ik cA tp td fm tt vl wr bO sO nU mV)) hE
        have hP : va_P D vwCl (MW cI cJ A (figG sS n k b d) kS oS aS (upd tS 0 (tS 0 + 1)) ik cA tp td fm tt vl wr bO sO nU mV) H := Eq.mp (congrArg (fun z => va_P D vwCl z H) hW) hP
        have hD : va_D _ (MW cI cJ A (figG sS n k b d) kS oS aS (upd tS 0 (tS 0 + 1)) ik cA tp td fm tt vl wr bO sO nU mV) := Eq.mp (congrArg (fun z => va_D _ z) hW) hD
        have hE : upd tS 0 (tS 0 + 1) = figT tS n k b d := by simp [figR, figOk, figG, figT, bump, put9, b2i, c4, c16, c28, i_lt, -Int32.not_le, -Int32.not_lt]
        have hW : (MW cI cJ A (figG sS n k b d) kS oS aS (upd tS 0 (tS 0 + 1)) ik cA tp td fm tt vl wr bO sO nU mV) = (MW cI cJ A (figG sS n k b d) kS oS aS (figT tS n k b d) ik cA tp td fm tt vl wr bO sO nU mV) := congrArg (fun z => (MW cI cJ A (figG sS n k b d) kS oS aS z ik cA tp td fm tt vl wr bO sO nU mV)) hE
        have hP : va_P D vwCl (MW cI cJ A (figG sS n k b d) kS oS aS (figT tS n k b d) ik cA tp td fm tt vl wr bO sO nU mV) H := Eq.mp (congrArg (fun z => va_P D vwCl z H) hW) hP
        have hD : va_D _ (MW cI cJ A (figG sS n k b d) kS oS aS (figT tS n k b d) ik cA tp td fm tt vl wr bO sO nU mV) := Eq.mp (congrArg (fun z => va_D _ z) hW) hD
        exact mu_iret (MW cI cJ A (figG sS n k b d) kS oS aS (figT tS n k b d) ik cA tp td fm tt vl wr bO sO nU mV) hx hb hr hlk hP hS rfl (⟨congrArg (fun z => some (Value.int z)) (by simp [figR, figOk, figG, figT, bump, put9, b2i, c4, c16, c28, i_lt, -Int32.not_le, -Int32.not_lt]), rfl⟩) dX4_figure_37

set_option maxHeartbeats 4000000 in
set_option maxRecDepth 100000 in
theorem k_X4_of (n : Nat) (f : Int32) (w : Int32) (hI : Inv sS n) : MU l D (tyA cI cJ cO) yX4_of cX4_of 3 ((some .int)) 7 154 [.ref (A 0), .int f, .int w] (MW cI cJ A sS kS oS aS tS ik cA tp td fm tt vl wr bO sO nU mV) (fun ov w' => ov = some (.int (ofR sS n f w)) ∧ w' = (MW cI cJ A sS kS oS aS (okT (isFig n f && inI w 0 11) tS) ik cA tp td fm tt vl wr bO sO nU mV)) := by
  refine MU.mk (by decide) (Nat.le_of_ble_eq_true rfl) ?_
  intro p e s m below meth c ls S hr hlk hP hK hD hS hl
  have S : CallFix p m c cX4_of 3 s _ WL RX4 := S
  obtain ⟨hx, hb, hml, hown, hts⟩ := id S
  have hl : lv_has ls 3 [(0, .ref (A 0)), (1, .int f), (2, .int w)] := hl
  have h8 : n ≤ 8 := hI.1
  refine lv_aload_n hx hb dX4_of_0 rfl (lv_at hl 0 rfl) ?_
  refine lv_iload_n hx hb dX4_of_1 rfl (lv_at hl 1 rfl) ?_
  refine ro_V (w := (MW cI cJ A sS kS oS aS tS ik cA tp td fm tt vl wr bO sO nU mV)) (rest := []) S hK hP (k_X4_isFigure n f hI) gv_X4_128 hd_X4_isFigure ⟨Nat.le_of_ble_eq_true rfl, Nat.le_of_ble_eq_true rfl⟩ 4 rfl rfl rfl rfl hl.1 (lv_room (Nat.le_of_ble_eq_true rfl)) dX4_of_2 ⟨Nat.zero_le _, Nat.zero_le _⟩ ?_
  refine lv_if_eq (tgt := 20) hx hb dX4_of_5 rfl (fun c5 => ?_) (fun c5 => ?_)
  · replace c5 := (b2i_0 _).mp c5
    refine lv_aload_n hx hb dX4_of_20 rfl (lv_at hl 0 rfl) ?_
    refine lv_ldc (v := (-1000000001)) hx hb hown (hts _ wq_X4_44) dX4_of_21 ?_
    refine mu_W (w := (MW cI cJ A sS kS oS aS tS ik cA tp td fm tt vl wr bO sO nU mV)) (rest := []) S hK hP hD hS (k_X4_finds 0 (-1000000001) (by decide) (by decide)) gv_X4_63 hd_X4_finds ⟨Nat.le_of_ble_eq_true rfl, Nat.le_of_ble_eq_true rfl⟩ 4 rfl rfl rfl rfl hl.1 (lv_room (Nat.le_of_ble_eq_true rfl)) dX4_of_23 ⟨Nat.zero_le _, Nat.zero_le _⟩ (fun ov w' H locs hp hP hD hS => ?_)
    obtain ⟨rfl, rfl⟩ := hp
    refine W.eq (g2 := F0 m 26 ls [.int (-1000000001)]) rfl ?_
    have hE : upd tS 0 (tS 0 + 1) = okT (isFig n f && inI w 0 11) tS := by simp [ofR, okT, bump, put9, b2i, c5, i_lt, -Int32.not_le, -Int32.not_lt]
    have hW : (MW cI cJ A sS kS oS aS (upd tS 0 (tS 0 + 1)) ik cA tp td fm tt vl wr bO sO nU mV) = (MW cI cJ A sS kS oS aS (okT (isFig n f && inI w 0 11) tS) ik cA tp td fm tt vl wr bO sO nU mV) := congrArg (fun z => (MW cI cJ A sS kS oS aS z ik cA tp td fm tt vl wr bO sO nU mV)) hE
    have hP : va_P D vwCl (MW cI cJ A sS kS oS aS (okT (isFig n f && inI w 0 11) tS) ik cA tp td fm tt vl wr bO sO nU mV) H := Eq.mp (congrArg (fun z => va_P D vwCl z H) hW) hP
    have hD : va_D _ (MW cI cJ A sS kS oS aS (okT (isFig n f && inI w 0 11) tS) ik cA tp td fm tt vl wr bO sO nU mV) := Eq.mp (congrArg (fun z => va_D _ z) hW) hD
    exact mu_iret (MW cI cJ A sS kS oS aS (okT (isFig n f && inI w 0 11) tS) ik cA tp td fm tt vl wr bO sO nU mV) hx hb hr hlk hP hS rfl (⟨congrArg (fun z => some (Value.int z)) (by simp [ofR, okT, bump, put9, b2i, c5, i_lt, -Int32.not_le, -Int32.not_lt]), rfl⟩) dX4_of_26
  · replace c5 := b2i_n0 c5
    obtain ⟨k, hk, rfl⟩ := fig_in hI.1 c5
    have h8 := hI.1
    have ek : cl (nI k) = k := cl_nI (by omega)
    refine lv_iload_n hx hb dX4_of_8 rfl (lv_at hl 2 rfl) ?_
    refine lv_i2l hx hb dX4_of_9 rfl ?_
    refine lv_lconst (v := 0) hx hb dX4_of_10 rfl ?_
    refine lv_ldc2 (v := 11) hx hb hown (hts _ wq_X4_131) dX4_of_11 ?_
    refine ro_S (w := []) (rest := []) S hK va_P0 (k_X4_inI w 0 11 _ _ (by decide) (by decide)) gs_X4_49 hd_X4_in ⟨Nat.le_of_ble_eq_true rfl, Nat.le_of_ble_eq_true rfl⟩ rfl hl.1 (lv_room (Nat.le_of_ble_eq_true rfl)) dX4_of_14 ⟨Nat.zero_le _, Nat.zero_le _⟩ ?_
    refine lv_if_ne (tgt := 27) hx hb dX4_of_17 rfl (fun c17 => ?_) (fun c17 => ?_)
    · replace c17 := b2i_n0 c17
      obtain ⟨j, hja, hjb, rfl⟩ := in_nat (a := 0) (b := 11) (by decide) c17 (by decide)
      have ej : cl (nI j) = j := cl_nI (by omega)
      refine lv_iload_n hx hb dX4_of_27 rfl (lv_at hl 2 rfl) ?_
      by_cases c28_9 : (nI j) = 9
      · refine lv_tableIn (tgt := 56) hx hb dX4_of_28 (by rw [c28_9]; decide) (by rw [c28_9]; decide) (by rw [c28_9]; rfl) rfl ?_
        rw [c28_9] at c17 ej
        refine lv_aload_n hx hb dX4_of_56 rfl (lv_at hl 0 rfl) ?_
        refine lv_iload_n hx hb dX4_of_57 rfl (lv_at hl 1 rfl) ?_
        refine ro_V (w := (MW cI cJ A sS kS oS aS tS ik cA tp td fm tt vl wr bO sO nU mV)) (rest := []) S hK hP (k_X4_rubsOf n k hI (by omega)) gv_X4_133 hd_X4_rubsOf ⟨Nat.le_of_ble_eq_true rfl, Nat.le_of_ble_eq_true rfl⟩ 4 rfl rfl rfl rfl hl.1 (lv_room (Nat.le_of_ble_eq_true rfl)) dX4_of_58 ⟨Nat.zero_le _, Nat.zero_le _⟩ ?_
        have hE : tS = okT (isFig n (nI k) && inI (nI j) 0 11) tS := by simp [ofR, okT, bump, put9, b2i, c5, c17, c28_9, ek, ej, i_lt, -Int32.not_le, -Int32.not_lt]
        have hW : (MW cI cJ A sS kS oS aS tS ik cA tp td fm tt vl wr bO sO nU mV) = (MW cI cJ A sS kS oS aS (okT (isFig n (nI k) && inI (nI j) 0 11) tS) ik cA tp td fm tt vl wr bO sO nU mV) := congrArg (fun z => (MW cI cJ A sS kS oS aS z ik cA tp td fm tt vl wr bO sO nU mV)) hE
        have hP : va_P D vwCl (MW cI cJ A sS kS oS aS (okT (isFig n (nI k) && inI (nI j) 0 11) tS) ik cA tp td fm tt vl wr bO sO nU mV) s.heap := Eq.mp (congrArg (fun z => va_P D vwCl z s.heap) hW) hP
        have hD : va_D _ (MW cI cJ A sS kS oS aS (okT (isFig n (nI k) && inI (nI j) 0 11) tS) ik cA tp td fm tt vl wr bO sO nU mV) := Eq.mp (congrArg (fun z => va_D _ z) hW) hD
        exact mu_iret (MW cI cJ A sS kS oS aS (okT (isFig n (nI k) && inI (nI j) 0 11) tS) ik cA tp td fm tt vl wr bO sO nU mV) hx hb hr hlk hP hS rfl (⟨congrArg (fun z => some (Value.int z)) (by simp [ofR, okT, bump, put9, b2i, c5, c17, c28_9, ek, ej, i_lt, -Int32.not_le, -Int32.not_lt]), rfl⟩) dX4_of_61
      by_cases c28_10 : (nI j) = 10
      · refine lv_tableIn (tgt := 62) hx hb dX4_of_28 (by rw [c28_10]; decide) (by rw [c28_10]; decide) (by rw [c28_10]; rfl) rfl ?_
        rw [c28_10] at c17 ej
        refine lv_aload_n hx hb dX4_of_62 rfl (lv_at hl 0 rfl) ?_
        refine lv_iload_n hx hb dX4_of_63 rfl (lv_at hl 1 rfl) ?_
        refine ro_V (w := (MW cI cJ A sS kS oS aS tS ik cA tp td fm tt vl wr bO sO nU mV)) (rest := []) S hK hP (k_X4_isWaiting n k hI (by omega)) gv_X4_98 hd_X4_isWaiting ⟨Nat.le_of_ble_eq_true rfl, Nat.le_of_ble_eq_true rfl⟩ 4 rfl rfl rfl rfl hl.1 (lv_room (Nat.le_of_ble_eq_true rfl)) dX4_of_64 ⟨Nat.zero_le _, Nat.zero_le _⟩ ?_
        refine lv_if_eq (tgt := 74) hx hb dX4_of_67 rfl (fun c67 => ?_) (fun c67 => ?_)
        · replace c67 := (b2i_0 _).mp c67
          refine lv_iconst (v := 0) hx hb dX4_of_74 rfl ?_
          have hE : tS = okT (isFig n (nI k) && inI (nI j) 0 11) tS := by simp [ofR, okT, bump, put9, b2i, c5, c17, c28_9, c28_10, c67, ek, ej, i_lt, -Int32.not_le, -Int32.not_lt]
          have hW : (MW cI cJ A sS kS oS aS tS ik cA tp td fm tt vl wr bO sO nU mV) = (MW cI cJ A sS kS oS aS (okT (isFig n (nI k) && inI (nI j) 0 11) tS) ik cA tp td fm tt vl wr bO sO nU mV) := congrArg (fun z => (MW cI cJ A sS kS oS aS z ik cA tp td fm tt vl wr bO sO nU mV)) hE
          have hP : va_P D vwCl (MW cI cJ A sS kS oS aS (okT (isFig n (nI k) && inI (nI j) 0 11) tS) ik cA tp td fm tt vl wr bO sO nU mV) s.heap := Eq.mp (congrArg (fun z => va_P D vwCl z s.heap) hW) hP
          have hD : va_D _ (MW cI cJ A sS kS oS aS (okT (isFig n (nI k) && inI (nI j) 0 11) tS) ik cA tp td fm tt vl wr bO sO nU mV) := Eq.mp (congrArg (fun z => va_D _ z) hW) hD
          exact mu_iret (MW cI cJ A sS kS oS aS (okT (isFig n (nI k) && inI (nI j) 0 11) tS) ik cA tp td fm tt vl wr bO sO nU mV) hx hb hr hlk hP hS rfl (⟨congrArg (fun z => some (Value.int z)) (by simp [ofR, okT, bump, put9, b2i, c5, c17, c28_9, c28_10, c67, ek, ej, i_lt, -Int32.not_le, -Int32.not_lt]), rfl⟩) dX4_of_75
        · replace c67 := b2i_n0 c67
          refine lv_iconst (v := 1) hx hb dX4_of_70 rfl ?_
          refine lv_goto (tgt := 75) hx hb dX4_of_71 rfl ?_
          have hE : tS = okT (isFig n (nI k) && inI (nI j) 0 11) tS := by simp [ofR, okT, bump, put9, b2i, c5, c17, c28_9, c28_10, c67, ek, ej, i_lt, -Int32.not_le, -Int32.not_lt]
          have hW : (MW cI cJ A sS kS oS aS tS ik cA tp td fm tt vl wr bO sO nU mV) = (MW cI cJ A sS kS oS aS (okT (isFig n (nI k) && inI (nI j) 0 11) tS) ik cA tp td fm tt vl wr bO sO nU mV) := congrArg (fun z => (MW cI cJ A sS kS oS aS z ik cA tp td fm tt vl wr bO sO nU mV)) hE
          have hP : va_P D vwCl (MW cI cJ A sS kS oS aS (okT (isFig n (nI k) && inI (nI j) 0 11) tS) ik cA tp td fm tt vl wr bO sO nU mV) s.heap := Eq.mp (congrArg (fun z => va_P D vwCl z s.heap) hW) hP
          have hD : va_D _ (MW cI cJ A sS kS oS aS (okT (isFig n (nI k) && inI (nI j) 0 11) tS) ik cA tp td fm tt vl wr bO sO nU mV) := Eq.mp (congrArg (fun z => va_D _ z) hW) hD
          exact mu_iret (MW cI cJ A sS kS oS aS (okT (isFig n (nI k) && inI (nI j) 0 11) tS) ik cA tp td fm tt vl wr bO sO nU mV) hx hb hr hlk hP hS rfl (⟨congrArg (fun z => some (Value.int z)) (by simp [ofR, okT, bump, put9, b2i, c5, c17, c28_9, c28_10, c67, ek, ej, i_lt, -Int32.not_le, -Int32.not_lt]), rfl⟩) dX4_of_75
      by_cases c28_11 : (nI j) = 11
      · refine lv_tableIn (tgt := 76) hx hb dX4_of_28 (by rw [c28_11]; decide) (by rw [c28_11]; decide) (by rw [c28_11]; rfl) rfl ?_
        rw [c28_11] at c17 ej
        refine lv_aload_n hx hb dX4_of_76 rfl (lv_at hl 0 rfl) ?_
        refine lv_iload_n hx hb dX4_of_77 rfl (lv_at hl 1 rfl) ?_
        refine ro_V (w := (MW cI cJ A sS kS oS aS tS ik cA tp td fm tt vl wr bO sO nU mV)) (rest := []) S hK hP (k_X4_isContent n k hI (by omega)) gv_X4_82 hd_X4_isContent ⟨Nat.le_of_ble_eq_true rfl, Nat.le_of_ble_eq_true rfl⟩ 4 rfl rfl rfl rfl hl.1 (lv_room (Nat.le_of_ble_eq_true rfl)) dX4_of_78 ⟨Nat.zero_le _, Nat.zero_le _⟩ ?_
        refine lv_if_eq (tgt := 88) hx hb dX4_of_81 rfl (fun c81 => ?_) (fun c81 => ?_)
        · replace c81 := (b2i_0 _).mp c81
          refine lv_iconst (v := 0) hx hb dX4_of_88 rfl ?_
          have hE : tS = okT (isFig n (nI k) && inI (nI j) 0 11) tS := by simp [ofR, okT, bump, put9, b2i, c5, c17, c28_9, c28_10, c28_11, c81, ek, ej, i_lt, -Int32.not_le, -Int32.not_lt]
          have hW : (MW cI cJ A sS kS oS aS tS ik cA tp td fm tt vl wr bO sO nU mV) = (MW cI cJ A sS kS oS aS (okT (isFig n (nI k) && inI (nI j) 0 11) tS) ik cA tp td fm tt vl wr bO sO nU mV) := congrArg (fun z => (MW cI cJ A sS kS oS aS z ik cA tp td fm tt vl wr bO sO nU mV)) hE
          have hP : va_P D vwCl (MW cI cJ A sS kS oS aS (okT (isFig n (nI k) && inI (nI j) 0 11) tS) ik cA tp td fm tt vl wr bO sO nU mV) s.heap := Eq.mp (congrArg (fun z => va_P D vwCl z s.heap) hW) hP
          have hD : va_D _ (MW cI cJ A sS kS oS aS (okT (isFig n (nI k) && inI (nI j) 0 11) tS) ik cA tp td fm tt vl wr bO sO nU mV) := Eq.mp (congrArg (fun z => va_D _ z) hW) hD
          exact mu_iret (MW cI cJ A sS kS oS aS (okT (isFig n (nI k) && inI (nI j) 0 11) tS) ik cA tp td fm tt vl wr bO sO nU mV) hx hb hr hlk hP hS rfl (⟨congrArg (fun z => some (Value.int z)) (by simp [ofR, okT, bump, put9, b2i, c5, c17, c28_9, c28_10, c28_11, c81, ek, ej, i_lt, -Int32.not_le, -Int32.not_lt]), rfl⟩) dX4_of_89
        · replace c81 := b2i_n0 c81
          refine lv_iconst (v := 1) hx hb dX4_of_84 rfl ?_
          refine lv_goto (tgt := 89) hx hb dX4_of_85 rfl ?_
          have hE : tS = okT (isFig n (nI k) && inI (nI j) 0 11) tS := by simp [ofR, okT, bump, put9, b2i, c5, c17, c28_9, c28_10, c28_11, c81, ek, ej, i_lt, -Int32.not_le, -Int32.not_lt]
          have hW : (MW cI cJ A sS kS oS aS tS ik cA tp td fm tt vl wr bO sO nU mV) = (MW cI cJ A sS kS oS aS (okT (isFig n (nI k) && inI (nI j) 0 11) tS) ik cA tp td fm tt vl wr bO sO nU mV) := congrArg (fun z => (MW cI cJ A sS kS oS aS z ik cA tp td fm tt vl wr bO sO nU mV)) hE
          have hP : va_P D vwCl (MW cI cJ A sS kS oS aS (okT (isFig n (nI k) && inI (nI j) 0 11) tS) ik cA tp td fm tt vl wr bO sO nU mV) s.heap := Eq.mp (congrArg (fun z => va_P D vwCl z s.heap) hW) hP
          have hD : va_D _ (MW cI cJ A sS kS oS aS (okT (isFig n (nI k) && inI (nI j) 0 11) tS) ik cA tp td fm tt vl wr bO sO nU mV) := Eq.mp (congrArg (fun z => va_D _ z) hW) hD
          exact mu_iret (MW cI cJ A sS kS oS aS (okT (isFig n (nI k) && inI (nI j) 0 11) tS) ik cA tp td fm tt vl wr bO sO nU mV) hx hb hr hlk hP hS rfl (⟨congrArg (fun z => some (Value.int z)) (by simp [ofR, okT, bump, put9, b2i, c5, c17, c28_9, c28_10, c28_11, c81, ek, ej, i_lt, -Int32.not_le, -Int32.not_lt]), rfl⟩) dX4_of_89
      refine lv_tableOut (tgt := 90) hx hb dX4_of_28 (by have q0 := lv_neT c28_9 (a := 9) rfl; have q1 := lv_neT c28_10 (a := 10) rfl; have q2 := lv_neT c28_11 (a := 11) rfl; omega) rfl ?_
      have q9 : ¬ j = 9 := fun q => c28_9 (by rw [q]; rfl)
      have q10 : ¬ j = 10 := fun q => c28_10 (by rw [q]; rfl)
      have q11 : ¬ j = 11 := fun q => c28_11 (by rw [q]; rfl)
      refine lv_aload_n hx hb dX4_of_90 rfl (lv_at hl 0 rfl) ?_
      refine lv_iload_n hx hb dX4_of_91 rfl (lv_at hl 1 rfl) ?_
      refine lv_iload_n hx hb dX4_of_92 rfl (lv_at hl 2 rfl) ?_
      refine ro_V (w := (MW cI cJ A sS kS oS aS tS ik cA tp td fm tt vl wr bO sO nU mV)) (rest := []) S hK hP (k_X4_its k j (by omega) (by omega)) gv_X4_55 hd_X4_its ⟨Nat.le_of_ble_eq_true rfl, Nat.le_of_ble_eq_true rfl⟩ 4 rfl rfl rfl rfl hl.1 (lv_room (Nat.le_of_ble_eq_true rfl)) dX4_of_93 ⟨Nat.zero_le _, Nat.zero_le _⟩ ?_
      have hE : tS = okT (isFig n (nI k) && inI (nI j) 0 11) tS := by simp [ofR, okT, bump, put9, b2i, c5, c17, c28_9, c28_10, c28_11, ek, ej, i_lt, -Int32.not_le, -Int32.not_lt]
      have hW : (MW cI cJ A sS kS oS aS tS ik cA tp td fm tt vl wr bO sO nU mV) = (MW cI cJ A sS kS oS aS (okT (isFig n (nI k) && inI (nI j) 0 11) tS) ik cA tp td fm tt vl wr bO sO nU mV) := congrArg (fun z => (MW cI cJ A sS kS oS aS z ik cA tp td fm tt vl wr bO sO nU mV)) hE
      have hP : va_P D vwCl (MW cI cJ A sS kS oS aS (okT (isFig n (nI k) && inI (nI j) 0 11) tS) ik cA tp td fm tt vl wr bO sO nU mV) s.heap := Eq.mp (congrArg (fun z => va_P D vwCl z s.heap) hW) hP
      have hD : va_D _ (MW cI cJ A sS kS oS aS (okT (isFig n (nI k) && inI (nI j) 0 11) tS) ik cA tp td fm tt vl wr bO sO nU mV) := Eq.mp (congrArg (fun z => va_D _ z) hW) hD
      exact mu_iret (MW cI cJ A sS kS oS aS (okT (isFig n (nI k) && inI (nI j) 0 11) tS) ik cA tp td fm tt vl wr bO sO nU mV) hx hb hr hlk hP hS rfl (⟨congrArg (fun z => some (Value.int z)) (by simp [ofR, okT, bump, put9, b2i, c5, c17, c28_9, c28_10, c28_11, ek, ej, i_lt, -Int32.not_le, -Int32.not_lt]), rfl⟩) dX4_of_96
    · replace c17 := (b2i_0 _).mp c17
      refine lv_aload_n hx hb dX4_of_20 rfl (lv_at hl 0 rfl) ?_
      refine lv_ldc (v := (-1000000001)) hx hb hown (hts _ wq_X4_44) dX4_of_21 ?_
      refine mu_W (w := (MW cI cJ A sS kS oS aS tS ik cA tp td fm tt vl wr bO sO nU mV)) (rest := []) S hK hP hD hS (k_X4_finds 0 (-1000000001) (by decide) (by decide)) gv_X4_63 hd_X4_finds ⟨Nat.le_of_ble_eq_true rfl, Nat.le_of_ble_eq_true rfl⟩ 4 rfl rfl rfl rfl hl.1 (lv_room (Nat.le_of_ble_eq_true rfl)) dX4_of_23 ⟨Nat.zero_le _, Nat.zero_le _⟩ (fun ov w' H locs hp hP hD hS => ?_)
      obtain ⟨rfl, rfl⟩ := hp
      refine W.eq (g2 := F0 m 26 ls [.int (-1000000001)]) rfl ?_
      have hE : upd tS 0 (tS 0 + 1) = okT (isFig n (nI k) && inI w 0 11) tS := by simp [ofR, okT, bump, put9, b2i, c5, c17, ek, i_lt, -Int32.not_le, -Int32.not_lt]
      have hW : (MW cI cJ A sS kS oS aS (upd tS 0 (tS 0 + 1)) ik cA tp td fm tt vl wr bO sO nU mV) = (MW cI cJ A sS kS oS aS (okT (isFig n (nI k) && inI w 0 11) tS) ik cA tp td fm tt vl wr bO sO nU mV) := congrArg (fun z => (MW cI cJ A sS kS oS aS z ik cA tp td fm tt vl wr bO sO nU mV)) hE
      have hP : va_P D vwCl (MW cI cJ A sS kS oS aS (okT (isFig n (nI k) && inI w 0 11) tS) ik cA tp td fm tt vl wr bO sO nU mV) H := Eq.mp (congrArg (fun z => va_P D vwCl z H) hW) hP
      have hD : va_D _ (MW cI cJ A sS kS oS aS (okT (isFig n (nI k) && inI w 0 11) tS) ik cA tp td fm tt vl wr bO sO nU mV) := Eq.mp (congrArg (fun z => va_D _ z) hW) hD
      exact mu_iret (MW cI cJ A sS kS oS aS (okT (isFig n (nI k) && inI w 0 11) tS) ik cA tp td fm tt vl wr bO sO nU mV) hx hb hr hlk hP hS rfl (⟨congrArg (fun z => some (Value.int z)) (by simp [ofR, okT, bump, put9, b2i, c5, c17, ek, i_lt, -Int32.not_le, -Int32.not_lt]), rfl⟩) dX4_of_26

set_option maxHeartbeats 4000000 in
set_option maxRecDepth 100000 in
theorem k_X4_set (n : Nat) (f : Int32) (w : Int32) (v : Int32) (hI : Inv sS n) : MU l D (tyA cI cJ cO) yX4_set cX4_set 4 ((some .int)) 3 68 [.ref (A 0), .int f, .int w, .int v] (MW cI cJ A sS kS oS aS tS ik cA tp td fm tt vl wr bO sO nU mV) (fun ov w' => ov = some (.int (setR sS n f w v)) ∧ w' = (MW cI cJ A (setG sS n f w v) kS oS aS (okT (isFig n f && setOK n w v) tS) ik cA tp td fm tt vl wr bO sO nU mV)) := by
  refine MU.mk (by decide) (Nat.le_of_ble_eq_true rfl) ?_
  intro p e s m below meth c ls S hr hlk hP hK hD hS hl
  have S : CallFix p m c cX4_set 4 s _ WL RX4 := S
  obtain ⟨hx, hb, hml, hown, hts⟩ := id S
  have hl : lv_has ls 4 [(0, .ref (A 0)), (1, .int f), (2, .int w), (3, .int v)] := hl
  refine lv_aload_n hx hb dX4_set_0 rfl (lv_at hl 0 rfl) ?_
  refine lv_iload_n hx hb dX4_set_1 rfl (lv_at hl 1 rfl) ?_
  refine ro_V (w := (MW cI cJ A sS kS oS aS tS ik cA tp td fm tt vl wr bO sO nU mV)) (rest := []) S hK hP (k_X4_isFigure n f hI) gv_X4_128 hd_X4_isFigure ⟨Nat.le_of_ble_eq_true rfl, Nat.le_of_ble_eq_true rfl⟩ 4 rfl rfl rfl rfl hl.1 (lv_room (Nat.le_of_ble_eq_true rfl)) dX4_set_2 ⟨Nat.zero_le _, Nat.zero_le _⟩ ?_
  refine lv_if_eq (tgt := 30) hx hb dX4_set_5 rfl (fun c5 => ?_) (fun c5 => ?_)
  · replace c5 := (b2i_0 _).mp c5
    refine lv_aload_n hx hb dX4_set_30 rfl (lv_at hl 0 rfl) ?_
    refine lv_ldc (v := (-1000000001)) hx hb hown (hts _ wq_X4_44) dX4_set_31 ?_
    refine mu_W (w := (MW cI cJ A sS kS oS aS tS ik cA tp td fm tt vl wr bO sO nU mV)) (rest := []) S hK hP hD hS (k_X4_finds 0 (-1000000001) (by decide) (by decide)) gv_X4_63 hd_X4_finds ⟨Nat.le_of_ble_eq_true rfl, Nat.le_of_ble_eq_true rfl⟩ 4 rfl rfl rfl rfl hl.1 (lv_room (Nat.le_of_ble_eq_true rfl)) dX4_set_33 ⟨Nat.zero_le _, Nat.zero_le _⟩ (fun ov w' H locs hp hP hD hS => ?_)
    obtain ⟨rfl, rfl⟩ := hp
    refine W.eq (g2 := F0 m 36 ls [.int (-1000000001)]) rfl ?_
    have hE : sS = setG sS n f w v := by simp [setR, setG, okT, its, bump, put9, b2i, c5, i_lt, -Int32.not_le, -Int32.not_lt]
    have hW : (MW cI cJ A sS kS oS aS (upd tS 0 (tS 0 + 1)) ik cA tp td fm tt vl wr bO sO nU mV) = (MW cI cJ A (setG sS n f w v) kS oS aS (upd tS 0 (tS 0 + 1)) ik cA tp td fm tt vl wr bO sO nU mV) := congrArg (fun z => (MW cI cJ A z kS oS aS (upd tS 0 (tS 0 + 1)) ik cA tp td fm tt vl wr bO sO nU mV)) hE
    have hP : va_P D vwCl (MW cI cJ A (setG sS n f w v) kS oS aS (upd tS 0 (tS 0 + 1)) ik cA tp td fm tt vl wr bO sO nU mV) H := Eq.mp (congrArg (fun z => va_P D vwCl z H) hW) hP
    have hD : va_D _ (MW cI cJ A (setG sS n f w v) kS oS aS (upd tS 0 (tS 0 + 1)) ik cA tp td fm tt vl wr bO sO nU mV) := Eq.mp (congrArg (fun z => va_D _ z) hW) hD
    have hE : upd tS 0 (tS 0 + 1) = okT (isFig n f && setOK n w v) tS := by simp [setR, setG, okT, its, bump, put9, b2i, c5, i_lt, -Int32.not_le, -Int32.not_lt]
    have hW : (MW cI cJ A (setG sS n f w v) kS oS aS (upd tS 0 (tS 0 + 1)) ik cA tp td fm tt vl wr bO sO nU mV) = (MW cI cJ A (setG sS n f w v) kS oS aS (okT (isFig n f && setOK n w v) tS) ik cA tp td fm tt vl wr bO sO nU mV) := congrArg (fun z => (MW cI cJ A (setG sS n f w v) kS oS aS z ik cA tp td fm tt vl wr bO sO nU mV)) hE
    have hP : va_P D vwCl (MW cI cJ A (setG sS n f w v) kS oS aS (okT (isFig n f && setOK n w v) tS) ik cA tp td fm tt vl wr bO sO nU mV) H := Eq.mp (congrArg (fun z => va_P D vwCl z H) hW) hP
    have hD : va_D _ (MW cI cJ A (setG sS n f w v) kS oS aS (okT (isFig n f && setOK n w v) tS) ik cA tp td fm tt vl wr bO sO nU mV) := Eq.mp (congrArg (fun z => va_D _ z) hW) hD
    exact mu_iret (MW cI cJ A (setG sS n f w v) kS oS aS (okT (isFig n f && setOK n w v) tS) ik cA tp td fm tt vl wr bO sO nU mV) hx hb hr hlk hP hS rfl (⟨congrArg (fun z => some (Value.int z)) (by simp [setR, setG, okT, its, bump, put9, b2i, c5, i_lt, -Int32.not_le, -Int32.not_lt]), rfl⟩) dX4_set_36
  · replace c5 := b2i_n0 c5
    obtain ⟨k, hk, rfl⟩ := fig_in hI.1 c5
    have h8 := hI.1
    have ek : cl (nI k) = k := cl_nI (by omega)
    refine lv_aload_n hx hb dX4_set_8 rfl (lv_at hl 0 rfl) ?_
    refine lv_iload_n hx hb dX4_set_9 rfl (lv_at hl 2 rfl) ?_
    refine lv_iload_n hx hb dX4_set_10 rfl (lv_at hl 3 rfl) ?_
    refine ro_V (w := (MW cI cJ A sS kS oS aS tS ik cA tp td fm tt vl wr bO sO nU mV)) (rest := []) S hK hP (k_X4_isSet n w v hI) gv_X4_142 hd_X4_isSet ⟨Nat.le_of_ble_eq_true rfl, Nat.le_of_ble_eq_true rfl⟩ 4 rfl rfl rfl rfl hl.1 (lv_room (Nat.le_of_ble_eq_true rfl)) dX4_set_11 ⟨Nat.zero_le _, Nat.zero_le _⟩ ?_
    refine lv_if_eq (tgt := 30) hx hb dX4_set_14 rfl (fun c14 => ?_) (fun c14 => ?_)
    · replace c14 := (b2i_0 _).mp c14
      refine lv_aload_n hx hb dX4_set_30 rfl (lv_at hl 0 rfl) ?_
      refine lv_ldc (v := (-1000000001)) hx hb hown (hts _ wq_X4_44) dX4_set_31 ?_
      refine mu_W (w := (MW cI cJ A sS kS oS aS tS ik cA tp td fm tt vl wr bO sO nU mV)) (rest := []) S hK hP hD hS (k_X4_finds 0 (-1000000001) (by decide) (by decide)) gv_X4_63 hd_X4_finds ⟨Nat.le_of_ble_eq_true rfl, Nat.le_of_ble_eq_true rfl⟩ 4 rfl rfl rfl rfl hl.1 (lv_room (Nat.le_of_ble_eq_true rfl)) dX4_set_33 ⟨Nat.zero_le _, Nat.zero_le _⟩ (fun ov w' H locs hp hP hD hS => ?_)
      obtain ⟨rfl, rfl⟩ := hp
      refine W.eq (g2 := F0 m 36 ls [.int (-1000000001)]) rfl ?_
      have hE : sS = setG sS n (nI k) w v := by simp [setR, setG, okT, its, bump, put9, b2i, c5, c14, ek, i_lt, -Int32.not_le, -Int32.not_lt]
      have hW : (MW cI cJ A sS kS oS aS (upd tS 0 (tS 0 + 1)) ik cA tp td fm tt vl wr bO sO nU mV) = (MW cI cJ A (setG sS n (nI k) w v) kS oS aS (upd tS 0 (tS 0 + 1)) ik cA tp td fm tt vl wr bO sO nU mV) := congrArg (fun z => (MW cI cJ A z kS oS aS (upd tS 0 (tS 0 + 1)) ik cA tp td fm tt vl wr bO sO nU mV)) hE
      have hP : va_P D vwCl (MW cI cJ A (setG sS n (nI k) w v) kS oS aS (upd tS 0 (tS 0 + 1)) ik cA tp td fm tt vl wr bO sO nU mV) H := Eq.mp (congrArg (fun z => va_P D vwCl z H) hW) hP
      have hD : va_D _ (MW cI cJ A (setG sS n (nI k) w v) kS oS aS (upd tS 0 (tS 0 + 1)) ik cA tp td fm tt vl wr bO sO nU mV) := Eq.mp (congrArg (fun z => va_D _ z) hW) hD
      have hE : upd tS 0 (tS 0 + 1) = okT (isFig n (nI k) && setOK n w v) tS := by simp [setR, setG, okT, its, bump, put9, b2i, c5, c14, ek, i_lt, -Int32.not_le, -Int32.not_lt]
      have hW : (MW cI cJ A (setG sS n (nI k) w v) kS oS aS (upd tS 0 (tS 0 + 1)) ik cA tp td fm tt vl wr bO sO nU mV) = (MW cI cJ A (setG sS n (nI k) w v) kS oS aS (okT (isFig n (nI k) && setOK n w v) tS) ik cA tp td fm tt vl wr bO sO nU mV) := congrArg (fun z => (MW cI cJ A (setG sS n (nI k) w v) kS oS aS z ik cA tp td fm tt vl wr bO sO nU mV)) hE
      have hP : va_P D vwCl (MW cI cJ A (setG sS n (nI k) w v) kS oS aS (okT (isFig n (nI k) && setOK n w v) tS) ik cA tp td fm tt vl wr bO sO nU mV) H := Eq.mp (congrArg (fun z => va_P D vwCl z H) hW) hP
      have hD : va_D _ (MW cI cJ A (setG sS n (nI k) w v) kS oS aS (okT (isFig n (nI k) && setOK n w v) tS) ik cA tp td fm tt vl wr bO sO nU mV) := Eq.mp (congrArg (fun z => va_D _ z) hW) hD
      exact mu_iret (MW cI cJ A (setG sS n (nI k) w v) kS oS aS (okT (isFig n (nI k) && setOK n w v) tS) ik cA tp td fm tt vl wr bO sO nU mV) hx hb hr hlk hP hS rfl (⟨congrArg (fun z => some (Value.int z)) (by simp [setR, setG, okT, its, bump, put9, b2i, c5, c14, ek, i_lt, -Int32.not_le, -Int32.not_lt]), rfl⟩) dX4_set_36
    · replace c14 := b2i_n0 c14
      obtain ⟨j, hja, hjb, rfl⟩ := set_in c14
      have ej : cl (nI j) = j := cl_nI (by omega)
      refine lv_aload_n hx hb dX4_set_17 rfl (lv_at hl 0 rfl) ?_
      refine lv_iload_n hx hb dX4_set_18 rfl (lv_at hl 1 rfl) ?_
      refine lv_iload_n hx hb dX4_set_19 rfl (lv_at hl 2 rfl) ?_
      refine ro_S (w := []) (rest := [.ref (A 0)]) S hK va_P0 (k_X4_spot k j) gs_X4_45 hd_X4_spot ⟨Nat.le_of_ble_eq_true rfl, Nat.le_of_ble_eq_true rfl⟩ rfl hl.1 (lv_room (Nat.le_of_ble_eq_true rfl)) dX4_set_20 ⟨Nat.zero_le _, Nat.zero_le _⟩ ?_
      refine lv_iload_n hx hb dX4_set_23 rfl (lv_at hl 3 rfl) ?_
      refine mu_W (w := (MW cI cJ A sS kS oS aS tS ik cA tp td fm tt vl wr bO sO nU mV)) (rest := []) S hK hP hD hS (k_X4_becomes (9 * k + j + 3) v (by omega)) gv_X4_60 hd_X4_becomes ⟨Nat.le_of_ble_eq_true rfl, Nat.le_of_ble_eq_true rfl⟩ 4 rfl rfl rfl rfl hl.1 (lv_room (Nat.le_of_ble_eq_true rfl)) dX4_set_24 ⟨Nat.zero_le _, Nat.zero_le _⟩ (fun ov w' H locs hp hP hD hS => ?_)
      obtain ⟨rfl, rfl⟩ := hp
      refine W.eq (g2 := F0 m 27 ls [.int (sS (9 * k + j + 3))]) rfl ?_
      refine lv_goto (tgt := 36) hx hb dX4_set_27 rfl ?_
      have hE : upd sS (9 * k + j + 3) v = setG sS n (nI k) (nI j) v := by simp [setR, setG, okT, its, bump, put9, b2i, c5, c14, ek, ej, i_lt, -Int32.not_le, -Int32.not_lt]
      have hW : (MW cI cJ A (upd sS (9 * k + j + 3) v) kS oS aS tS ik cA tp td fm tt vl wr bO sO nU mV) = (MW cI cJ A (setG sS n (nI k) (nI j) v) kS oS aS tS ik cA tp td fm tt vl wr bO sO nU mV) := congrArg (fun z => (MW cI cJ A z kS oS aS tS ik cA tp td fm tt vl wr bO sO nU mV)) hE
      have hP : va_P D vwCl (MW cI cJ A (setG sS n (nI k) (nI j) v) kS oS aS tS ik cA tp td fm tt vl wr bO sO nU mV) H := Eq.mp (congrArg (fun z => va_P D vwCl z H) hW) hP
      have hD : va_D _ (MW cI cJ A (setG sS n (nI k) (nI j) v) kS oS aS tS ik cA tp td fm tt vl wr bO sO nU mV) := Eq.mp (congrArg (fun z => va_D _ z) hW) hD
      have hE : tS = okT (isFig n (nI k) && setOK n (nI j) v) tS := by simp [setR, setG, okT, its, bump, put9, b2i, c5, c14, ek, ej, i_lt, -Int32.not_le, -Int32.not_lt]
      have hW : (MW cI cJ A (setG sS n (nI k) (nI j) v) kS oS aS tS ik cA tp td fm tt vl wr bO sO nU mV) = (MW cI cJ A (setG sS n (nI k) (nI j) v) kS oS aS (okT (isFig n (nI k) && setOK n (nI j) v) tS) ik cA tp td fm tt vl wr bO sO nU mV) := congrArg (fun z => (MW cI cJ A (setG sS n (nI k) (nI j) v) kS oS aS z ik cA tp td fm tt vl wr bO sO nU mV)) hE
      have hP : va_P D vwCl (MW cI cJ A (setG sS n (nI k) (nI j) v) kS oS aS (okT (isFig n (nI k) && setOK n (nI j) v) tS) ik cA tp td fm tt vl wr bO sO nU mV) H := Eq.mp (congrArg (fun z => va_P D vwCl z H) hW) hP
      have hD : va_D _ (MW cI cJ A (setG sS n (nI k) (nI j) v) kS oS aS (okT (isFig n (nI k) && setOK n (nI j) v) tS) ik cA tp td fm tt vl wr bO sO nU mV) := Eq.mp (congrArg (fun z => va_D _ z) hW) hD
      exact mu_iret (MW cI cJ A (setG sS n (nI k) (nI j) v) kS oS aS (okT (isFig n (nI k) && setOK n (nI j) v) tS) ik cA tp td fm tt vl wr bO sO nU mV) hx hb hr hlk hP hS rfl (⟨congrArg (fun z => some (Value.int z)) (by simp [setR, setG, okT, its, bump, put9, b2i, c5, c14, ek, ej, i_lt, -Int32.not_le, -Int32.not_lt]), rfl⟩) dX4_set_36

set_option maxHeartbeats 4000000 in
set_option maxRecDepth 100000 in
theorem k_X4_seen (n : Nat) (f : Int32) (hI : Inv sS n) : MU l D (tyA cI cJ cO) yX4_seen cX4_seen 2 ((some .int)) 4 89 [.ref (A 0), .int f] (MW cI cJ A sS kS oS aS tS ik cA tp td fm tt vl wr bO sO nU mV) (fun ov w' => ov = some (.int (seenR sS n f)) ∧ w' = (MW cI cJ A sS kS oS aS (okT (isFig n f) tS) ik cA tp td fm tt vl wr bO sO nU mV)) := by
  refine MU.mk (by decide) (Nat.le_of_ble_eq_true rfl) ?_
  intro p e s m below meth c ls S hr hlk hP hK hD hS hl
  have S : CallFix p m c cX4_seen 2 s _ WL RX4 := S
  obtain ⟨hx, hb, hml, hown, hts⟩ := id S
  have hl : lv_has ls 2 [(0, .ref (A 0)), (1, .int f)] := hl
  refine lv_aload_n hx hb dX4_seen_0 rfl (lv_at hl 0 rfl) ?_
  refine lv_iload_n hx hb dX4_seen_1 rfl (lv_at hl 1 rfl) ?_
  refine ro_V (w := (MW cI cJ A sS kS oS aS tS ik cA tp td fm tt vl wr bO sO nU mV)) (rest := []) S hK hP (k_X4_isFigure n f hI) gv_X4_128 hd_X4_isFigure ⟨Nat.le_of_ble_eq_true rfl, Nat.le_of_ble_eq_true rfl⟩ 4 rfl rfl rfl rfl hl.1 (lv_room (Nat.le_of_ble_eq_true rfl)) dX4_seen_2 ⟨Nat.zero_le _, Nat.zero_le _⟩ ?_
  refine lv_if_eq (tgt := 16) hx hb dX4_seen_5 rfl (fun c5 => ?_) (fun c5 => ?_)
  · replace c5 := (b2i_0 _).mp c5
    refine lv_aload_n hx hb dX4_seen_16 rfl (lv_at hl 0 rfl) ?_
    refine lv_ldc (v := (-1000000001)) hx hb hown (hts _ wq_X4_44) dX4_seen_17 ?_
    refine mu_W (w := (MW cI cJ A sS kS oS aS tS ik cA tp td fm tt vl wr bO sO nU mV)) (rest := []) S hK hP hD hS (k_X4_finds 0 (-1000000001) (by decide) (by decide)) gv_X4_63 hd_X4_finds ⟨Nat.le_of_ble_eq_true rfl, Nat.le_of_ble_eq_true rfl⟩ 4 rfl rfl rfl rfl hl.1 (lv_room (Nat.le_of_ble_eq_true rfl)) dX4_seen_19 ⟨Nat.zero_le _, Nat.zero_le _⟩ (fun ov w' H locs hp hP hD hS => ?_)
    obtain ⟨rfl, rfl⟩ := hp
    refine W.eq (g2 := F0 m 22 ls [.int (-1000000001)]) rfl ?_
    have hE : upd tS 0 (tS 0 + 1) = okT (isFig n f) tS := by simp [seenR, okT, bump, put9, b2i, c5, i_lt, -Int32.not_le, -Int32.not_lt]
    have hW : (MW cI cJ A sS kS oS aS (upd tS 0 (tS 0 + 1)) ik cA tp td fm tt vl wr bO sO nU mV) = (MW cI cJ A sS kS oS aS (okT (isFig n f) tS) ik cA tp td fm tt vl wr bO sO nU mV) := congrArg (fun z => (MW cI cJ A sS kS oS aS z ik cA tp td fm tt vl wr bO sO nU mV)) hE
    have hP : va_P D vwCl (MW cI cJ A sS kS oS aS (okT (isFig n f) tS) ik cA tp td fm tt vl wr bO sO nU mV) H := Eq.mp (congrArg (fun z => va_P D vwCl z H) hW) hP
    have hD : va_D _ (MW cI cJ A sS kS oS aS (okT (isFig n f) tS) ik cA tp td fm tt vl wr bO sO nU mV) := Eq.mp (congrArg (fun z => va_D _ z) hW) hD
    exact mu_iret (MW cI cJ A sS kS oS aS (okT (isFig n f) tS) ik cA tp td fm tt vl wr bO sO nU mV) hx hb hr hlk hP hS rfl (⟨congrArg (fun z => some (Value.int z)) (by simp [seenR, okT, bump, put9, b2i, c5, i_lt, -Int32.not_le, -Int32.not_lt]), rfl⟩) dX4_seen_22
  · replace c5 := b2i_n0 c5
    obtain ⟨k, hk, rfl⟩ := fig_in hI.1 c5
    have h8 := hI.1
    have ek : cl (nI k) = k := cl_nI (by omega)
    refine lv_aload_n hx hb dX4_seen_8 rfl (lv_at hl 0 rfl) ?_
    refine lv_iload_n hx hb dX4_seen_9 rfl (lv_at hl 1 rfl) ?_
    refine ro_V (w := (MW cI cJ A sS kS oS aS tS ik cA tp td fm tt vl wr bO sO nU mV)) (rest := []) S hK hP (k_X4_lampsOn n k hI (by omega)) gv_X4_92 hd_X4_lampsOn ⟨Nat.le_of_ble_eq_true rfl, Nat.le_of_ble_eq_true rfl⟩ 4 rfl rfl rfl rfl hl.1 (lv_room (Nat.le_of_ble_eq_true rfl)) dX4_seen_10 ⟨Nat.zero_le _, Nat.zero_le _⟩ ?_
    refine lv_goto (tgt := 22) hx hb dX4_seen_13 rfl ?_
    have hE : tS = okT (isFig n (nI k)) tS := by simp [seenR, okT, bump, put9, b2i, c5, ek, i_lt, -Int32.not_le, -Int32.not_lt]
    have hW : (MW cI cJ A sS kS oS aS tS ik cA tp td fm tt vl wr bO sO nU mV) = (MW cI cJ A sS kS oS aS (okT (isFig n (nI k)) tS) ik cA tp td fm tt vl wr bO sO nU mV) := congrArg (fun z => (MW cI cJ A sS kS oS aS z ik cA tp td fm tt vl wr bO sO nU mV)) hE
    have hP : va_P D vwCl (MW cI cJ A sS kS oS aS (okT (isFig n (nI k)) tS) ik cA tp td fm tt vl wr bO sO nU mV) s.heap := Eq.mp (congrArg (fun z => va_P D vwCl z s.heap) hW) hP
    have hD : va_D _ (MW cI cJ A sS kS oS aS (okT (isFig n (nI k)) tS) ik cA tp td fm tt vl wr bO sO nU mV) := Eq.mp (congrArg (fun z => va_D _ z) hW) hD
    exact mu_iret (MW cI cJ A sS kS oS aS (okT (isFig n (nI k)) tS) ik cA tp td fm tt vl wr bO sO nU mV) hx hb hr hlk hP hS rfl (⟨congrArg (fun z => some (Value.int z)) (by simp [seenR, okT, bump, put9, b2i, c5, ek, i_lt, -Int32.not_le, -Int32.not_lt]), rfl⟩) dX4_seen_22

set_option maxHeartbeats 4000000 in
set_option maxRecDepth 100000 in
theorem k_X4_turn (n : Nat) (f : Int32) (k : Int32) (hI : Inv sS n) : MU l D (tyA cI cJ cO) yX4_turn cX4_turn 3 ((some .int)) 2 46 [.ref (A 0), .int f, .int k] (MW cI cJ A sS kS oS aS tS ik cA tp td fm tt vl wr bO sO nU mV) (fun ov w' => ov = some (.int (turnR sS n f k)) ∧ w' = (MW cI cJ A (turnG sS n f k) kS oS aS (okT (turnOk n f k) tS) ik cA tp td fm tt vl wr bO sO nU mV)) := by
  refine MU.mk (by decide) (Nat.le_of_ble_eq_true rfl) ?_
  intro p e s m below meth c ls S hr hlk hP hK hD hS hl
  have S : CallFix p m c cX4_turn 3 s _ WL RX4 := S
  obtain ⟨hx, hb, hml, hown, hts⟩ := id S
  have hl : lv_has ls 3 [(0, .ref (A 0)), (1, .int f), (2, .int k)] := hl
  refine lv_aload_n hx hb dX4_turn_0 rfl (lv_at hl 0 rfl) ?_
  refine lv_iload_n hx hb dX4_turn_1 rfl (lv_at hl 1 rfl) ?_
  refine ro_V (w := (MW cI cJ A sS kS oS aS tS ik cA tp td fm tt vl wr bO sO nU mV)) (rest := []) S hK hP (k_X4_isFigure n f hI) gv_X4_128 hd_X4_isFigure ⟨Nat.le_of_ble_eq_true rfl, Nat.le_of_ble_eq_true rfl⟩ 4 rfl rfl rfl rfl hl.1 (lv_room (Nat.le_of_ble_eq_true rfl)) dX4_turn_2 ⟨Nat.zero_le _, Nat.zero_le _⟩ ?_
  refine lv_if_eq (tgt := 28) hx hb dX4_turn_5 rfl (fun c5 => ?_) (fun c5 => ?_)
  · replace c5 := (b2i_0 _).mp c5
    refine lv_aload_n hx hb dX4_turn_28 rfl (lv_at hl 0 rfl) ?_
    refine lv_ldc (v := (-1000000001)) hx hb hown (hts _ wq_X4_44) dX4_turn_29 ?_
    refine mu_W (w := (MW cI cJ A sS kS oS aS tS ik cA tp td fm tt vl wr bO sO nU mV)) (rest := []) S hK hP hD hS (k_X4_finds 0 (-1000000001) (by decide) (by decide)) gv_X4_63 hd_X4_finds ⟨Nat.le_of_ble_eq_true rfl, Nat.le_of_ble_eq_true rfl⟩ 4 rfl rfl rfl rfl hl.1 (lv_room (Nat.le_of_ble_eq_true rfl)) dX4_turn_31 ⟨Nat.zero_le _, Nat.zero_le _⟩ (fun ov w' H locs hp hP hD hS => ?_)
    obtain ⟨rfl, rfl⟩ := hp
    refine W.eq (g2 := F0 m 34 ls [.int (-1000000001)]) rfl ?_
    have hE : sS = turnG sS n f k := by simp [turnR, turnG, turnOk, okT, its, bump, put9, b2i, c5, i_lt, -Int32.not_le, -Int32.not_lt]
    have hW : (MW cI cJ A sS kS oS aS (upd tS 0 (tS 0 + 1)) ik cA tp td fm tt vl wr bO sO nU mV) = (MW cI cJ A (turnG sS n f k) kS oS aS (upd tS 0 (tS 0 + 1)) ik cA tp td fm tt vl wr bO sO nU mV) := congrArg (fun z => (MW cI cJ A z kS oS aS (upd tS 0 (tS 0 + 1)) ik cA tp td fm tt vl wr bO sO nU mV)) hE
    have hP : va_P D vwCl (MW cI cJ A (turnG sS n f k) kS oS aS (upd tS 0 (tS 0 + 1)) ik cA tp td fm tt vl wr bO sO nU mV) H := Eq.mp (congrArg (fun z => va_P D vwCl z H) hW) hP
    have hD : va_D _ (MW cI cJ A (turnG sS n f k) kS oS aS (upd tS 0 (tS 0 + 1)) ik cA tp td fm tt vl wr bO sO nU mV) := Eq.mp (congrArg (fun z => va_D _ z) hW) hD
    have hE : upd tS 0 (tS 0 + 1) = okT (turnOk n f k) tS := by simp [turnR, turnG, turnOk, okT, its, bump, put9, b2i, c5, i_lt, -Int32.not_le, -Int32.not_lt]
    have hW : (MW cI cJ A (turnG sS n f k) kS oS aS (upd tS 0 (tS 0 + 1)) ik cA tp td fm tt vl wr bO sO nU mV) = (MW cI cJ A (turnG sS n f k) kS oS aS (okT (turnOk n f k) tS) ik cA tp td fm tt vl wr bO sO nU mV) := congrArg (fun z => (MW cI cJ A (turnG sS n f k) kS oS aS z ik cA tp td fm tt vl wr bO sO nU mV)) hE
    have hP : va_P D vwCl (MW cI cJ A (turnG sS n f k) kS oS aS (okT (turnOk n f k) tS) ik cA tp td fm tt vl wr bO sO nU mV) H := Eq.mp (congrArg (fun z => va_P D vwCl z H) hW) hP
    have hD : va_D _ (MW cI cJ A (turnG sS n f k) kS oS aS (okT (turnOk n f k) tS) ik cA tp td fm tt vl wr bO sO nU mV) := Eq.mp (congrArg (fun z => va_D _ z) hW) hD
    exact mu_iret (MW cI cJ A (turnG sS n f k) kS oS aS (okT (turnOk n f k) tS) ik cA tp td fm tt vl wr bO sO nU mV) hx hb hr hlk hP hS rfl (⟨congrArg (fun z => some (Value.int z)) (by simp [turnR, turnG, turnOk, okT, its, bump, put9, b2i, c5, i_lt, -Int32.not_le, -Int32.not_lt]), rfl⟩) dX4_turn_34
  · replace c5 := b2i_n0 c5
    obtain ⟨j, hj, rfl⟩ := fig_in hI.1 c5
    have h8 := hI.1
    have ej : cl (nI j) = j := cl_nI (by omega)
    refine lv_iload_n hx hb dX4_turn_8 rfl (lv_at hl 2 rfl) ?_
    refine ro_S (w := []) (rest := []) S hK va_P0 (k_X4_isKind k) gs_X4_118 hd_X4_isKind ⟨Nat.le_of_ble_eq_true rfl, Nat.le_of_ble_eq_true rfl⟩ rfl hl.1 (lv_room (Nat.le_of_ble_eq_true rfl)) dX4_turn_9 ⟨Nat.zero_le _, Nat.zero_le _⟩ ?_
    refine lv_if_eq (tgt := 28) hx hb dX4_turn_12 rfl (fun c12 => ?_) (fun c12 => ?_)
    · replace c12 := (b2i_0 _).mp c12
      refine lv_aload_n hx hb dX4_turn_28 rfl (lv_at hl 0 rfl) ?_
      refine lv_ldc (v := (-1000000001)) hx hb hown (hts _ wq_X4_44) dX4_turn_29 ?_
      refine mu_W (w := (MW cI cJ A sS kS oS aS tS ik cA tp td fm tt vl wr bO sO nU mV)) (rest := []) S hK hP hD hS (k_X4_finds 0 (-1000000001) (by decide) (by decide)) gv_X4_63 hd_X4_finds ⟨Nat.le_of_ble_eq_true rfl, Nat.le_of_ble_eq_true rfl⟩ 4 rfl rfl rfl rfl hl.1 (lv_room (Nat.le_of_ble_eq_true rfl)) dX4_turn_31 ⟨Nat.zero_le _, Nat.zero_le _⟩ (fun ov w' H locs hp hP hD hS => ?_)
      obtain ⟨rfl, rfl⟩ := hp
      refine W.eq (g2 := F0 m 34 ls [.int (-1000000001)]) rfl ?_
      have hE : sS = turnG sS n (nI j) k := by simp [turnR, turnG, turnOk, okT, its, bump, put9, b2i, c5, c12, ej, i_lt, -Int32.not_le, -Int32.not_lt]
      have hW : (MW cI cJ A sS kS oS aS (upd tS 0 (tS 0 + 1)) ik cA tp td fm tt vl wr bO sO nU mV) = (MW cI cJ A (turnG sS n (nI j) k) kS oS aS (upd tS 0 (tS 0 + 1)) ik cA tp td fm tt vl wr bO sO nU mV) := congrArg (fun z => (MW cI cJ A z kS oS aS (upd tS 0 (tS 0 + 1)) ik cA tp td fm tt vl wr bO sO nU mV)) hE
      have hP : va_P D vwCl (MW cI cJ A (turnG sS n (nI j) k) kS oS aS (upd tS 0 (tS 0 + 1)) ik cA tp td fm tt vl wr bO sO nU mV) H := Eq.mp (congrArg (fun z => va_P D vwCl z H) hW) hP
      have hD : va_D _ (MW cI cJ A (turnG sS n (nI j) k) kS oS aS (upd tS 0 (tS 0 + 1)) ik cA tp td fm tt vl wr bO sO nU mV) := Eq.mp (congrArg (fun z => va_D _ z) hW) hD
      have hE : upd tS 0 (tS 0 + 1) = okT (turnOk n (nI j) k) tS := by simp [turnR, turnG, turnOk, okT, its, bump, put9, b2i, c5, c12, ej, i_lt, -Int32.not_le, -Int32.not_lt]
      have hW : (MW cI cJ A (turnG sS n (nI j) k) kS oS aS (upd tS 0 (tS 0 + 1)) ik cA tp td fm tt vl wr bO sO nU mV) = (MW cI cJ A (turnG sS n (nI j) k) kS oS aS (okT (turnOk n (nI j) k) tS) ik cA tp td fm tt vl wr bO sO nU mV) := congrArg (fun z => (MW cI cJ A (turnG sS n (nI j) k) kS oS aS z ik cA tp td fm tt vl wr bO sO nU mV)) hE
      have hP : va_P D vwCl (MW cI cJ A (turnG sS n (nI j) k) kS oS aS (okT (turnOk n (nI j) k) tS) ik cA tp td fm tt vl wr bO sO nU mV) H := Eq.mp (congrArg (fun z => va_P D vwCl z H) hW) hP
      have hD : va_D _ (MW cI cJ A (turnG sS n (nI j) k) kS oS aS (okT (turnOk n (nI j) k) tS) ik cA tp td fm tt vl wr bO sO nU mV) := Eq.mp (congrArg (fun z => va_D _ z) hW) hD
      exact mu_iret (MW cI cJ A (turnG sS n (nI j) k) kS oS aS (okT (turnOk n (nI j) k) tS) ik cA tp td fm tt vl wr bO sO nU mV) hx hb hr hlk hP hS rfl (⟨congrArg (fun z => some (Value.int z)) (by simp [turnR, turnG, turnOk, okT, its, bump, put9, b2i, c5, c12, ej, i_lt, -Int32.not_le, -Int32.not_lt]), rfl⟩) dX4_turn_34
    · replace c12 := b2i_n0 c12
      refine lv_aload_n hx hb dX4_turn_15 rfl (lv_at hl 0 rfl) ?_
      refine lv_iload_n hx hb dX4_turn_16 rfl (lv_at hl 1 rfl) ?_
      refine lv_iconst (v := 0) hx hb dX4_turn_17 rfl ?_
      refine ro_S (w := []) (rest := [.ref (A 0)]) S hK va_P0 (k_X4_spot j 0) gs_X4_45 hd_X4_spot ⟨Nat.le_of_ble_eq_true rfl, Nat.le_of_ble_eq_true rfl⟩ rfl hl.1 (lv_room (Nat.le_of_ble_eq_true rfl)) dX4_turn_18 ⟨Nat.zero_le _, Nat.zero_le _⟩ ?_
      refine lv_iload_n hx hb dX4_turn_21 rfl (lv_at hl 2 rfl) ?_
      refine mu_W (w := (MW cI cJ A sS kS oS aS tS ik cA tp td fm tt vl wr bO sO nU mV)) (rest := []) S hK hP hD hS (k_X4_becomes (9 * j + 0 + 3) k (by omega)) gv_X4_60 hd_X4_becomes ⟨Nat.le_of_ble_eq_true rfl, Nat.le_of_ble_eq_true rfl⟩ 4 rfl rfl rfl rfl hl.1 (lv_room (Nat.le_of_ble_eq_true rfl)) dX4_turn_22 ⟨Nat.zero_le _, Nat.zero_le _⟩ (fun ov w' H locs hp hP hD hS => ?_)
      obtain ⟨rfl, rfl⟩ := hp
      refine W.eq (g2 := F0 m 25 ls [.int (sS (9 * j + 0 + 3))]) rfl ?_
      refine lv_goto (tgt := 34) hx hb dX4_turn_25 rfl ?_
      have hE : upd sS (9 * j + 0 + 3) k = turnG sS n (nI j) k := by simp [turnR, turnG, turnOk, okT, its, bump, put9, b2i, c5, c12, ej, i_lt, -Int32.not_le, -Int32.not_lt]
      have hW : (MW cI cJ A (upd sS (9 * j + 0 + 3) k) kS oS aS tS ik cA tp td fm tt vl wr bO sO nU mV) = (MW cI cJ A (turnG sS n (nI j) k) kS oS aS tS ik cA tp td fm tt vl wr bO sO nU mV) := congrArg (fun z => (MW cI cJ A z kS oS aS tS ik cA tp td fm tt vl wr bO sO nU mV)) hE
      have hP : va_P D vwCl (MW cI cJ A (turnG sS n (nI j) k) kS oS aS tS ik cA tp td fm tt vl wr bO sO nU mV) H := Eq.mp (congrArg (fun z => va_P D vwCl z H) hW) hP
      have hD : va_D _ (MW cI cJ A (turnG sS n (nI j) k) kS oS aS tS ik cA tp td fm tt vl wr bO sO nU mV) := Eq.mp (congrArg (fun z => va_D _ z) hW) hD
      have hE : tS = okT (turnOk n (nI j) k) tS := by simp [turnR, turnG, turnOk, okT, its, bump, put9, b2i, c5, c12, ej, i_lt, -Int32.not_le, -Int32.not_lt]
      have hW : (MW cI cJ A (turnG sS n (nI j) k) kS oS aS tS ik cA tp td fm tt vl wr bO sO nU mV) = (MW cI cJ A (turnG sS n (nI j) k) kS oS aS (okT (turnOk n (nI j) k) tS) ik cA tp td fm tt vl wr bO sO nU mV) := congrArg (fun z => (MW cI cJ A (turnG sS n (nI j) k) kS oS aS z ik cA tp td fm tt vl wr bO sO nU mV)) hE
      have hP : va_P D vwCl (MW cI cJ A (turnG sS n (nI j) k) kS oS aS (okT (turnOk n (nI j) k) tS) ik cA tp td fm tt vl wr bO sO nU mV) H := Eq.mp (congrArg (fun z => va_P D vwCl z H) hW) hP
      have hD : va_D _ (MW cI cJ A (turnG sS n (nI j) k) kS oS aS (okT (turnOk n (nI j) k) tS) ik cA tp td fm tt vl wr bO sO nU mV) := Eq.mp (congrArg (fun z => va_D _ z) hW) hD
      exact mu_iret (MW cI cJ A (turnG sS n (nI j) k) kS oS aS (okT (turnOk n (nI j) k) tS) ik cA tp td fm tt vl wr bO sO nU mV) hx hb hr hlk hP hS rfl (⟨congrArg (fun z => some (Value.int z)) (by simp [turnR, turnG, turnOk, okT, its, bump, put9, b2i, c5, c12, ej, i_lt, -Int32.not_le, -Int32.not_lt]), rfl⟩) dX4_turn_34

set_option maxHeartbeats 4000000 in
set_option maxRecDepth 100000 in
theorem k_X4_as (n : Nat) (f : Int32) (k : Int32) (hI : Inv sS n) : MU l D (tyA cI cJ cO) yX4_as cX4_as 3 ((some .int)) 2 46 [.ref (A 0), .int f, .int k] (MW cI cJ A sS kS oS aS tS ik cA tp td fm tt vl wr bO sO nU mV) (fun ov w' => ov = some (.int (asR sS n f k)) ∧ w' = (MW cI cJ A sS kS oS aS (asT sS tS n f k) ik cA tp td fm tt vl wr bO sO nU mV)) := by
  refine MU.mk (by decide) (Nat.le_of_ble_eq_true rfl) ?_
  intro p e s m below meth c ls S hr hlk hP hK hD hS hl
  have S : CallFix p m c cX4_as 3 s _ WL RX4 := S
  obtain ⟨hx, hb, hml, hown, hts⟩ := id S
  have hl : lv_has ls 3 [(0, .ref (A 0)), (1, .int f), (2, .int k)] := hl
  refine lv_aload_n hx hb dX4_as_0 rfl (lv_at hl 0 rfl) ?_
  refine lv_iload_n hx hb dX4_as_1 rfl (lv_at hl 1 rfl) ?_
  refine ro_V (w := (MW cI cJ A sS kS oS aS tS ik cA tp td fm tt vl wr bO sO nU mV)) (rest := []) S hK hP (k_X4_isFigure n f hI) gv_X4_128 hd_X4_isFigure ⟨Nat.le_of_ble_eq_true rfl, Nat.le_of_ble_eq_true rfl⟩ 4 rfl rfl rfl rfl hl.1 (lv_room (Nat.le_of_ble_eq_true rfl)) dX4_as_2 ⟨Nat.zero_le _, Nat.zero_le _⟩ ?_
  refine lv_if_eq (tgt := 15) hx hb dX4_as_5 rfl (fun c5 => ?_) (fun c5 => ?_)
  · replace c5 := (b2i_0 _).mp c5
    refine lv_aload_n hx hb dX4_as_15 rfl (lv_at hl 0 rfl) ?_
    refine lv_ldc (v := (-1000000001)) hx hb hown (hts _ wq_X4_44) dX4_as_16 ?_
    refine mu_W (w := (MW cI cJ A sS kS oS aS tS ik cA tp td fm tt vl wr bO sO nU mV)) (rest := []) S hK hP hD hS (k_X4_finds 0 (-1000000001) (by decide) (by decide)) gv_X4_63 hd_X4_finds ⟨Nat.le_of_ble_eq_true rfl, Nat.le_of_ble_eq_true rfl⟩ 4 rfl rfl rfl rfl hl.1 (lv_room (Nat.le_of_ble_eq_true rfl)) dX4_as_18 ⟨Nat.zero_le _, Nat.zero_le _⟩ (fun ov w' H locs hp hP hD hS => ?_)
    obtain ⟨rfl, rfl⟩ := hp
    refine W.eq (g2 := F0 m 21 ls [.int (-1000000001)]) rfl ?_
    have hE : upd tS 0 (tS 0 + 1) = asT sS tS n f k := by simp [asR, asT, turnOk, bump, put9, b2i, c5, i_lt, -Int32.not_le, -Int32.not_lt]
    have hW : (MW cI cJ A sS kS oS aS (upd tS 0 (tS 0 + 1)) ik cA tp td fm tt vl wr bO sO nU mV) = (MW cI cJ A sS kS oS aS (asT sS tS n f k) ik cA tp td fm tt vl wr bO sO nU mV) := congrArg (fun z => (MW cI cJ A sS kS oS aS z ik cA tp td fm tt vl wr bO sO nU mV)) hE
    have hP : va_P D vwCl (MW cI cJ A sS kS oS aS (asT sS tS n f k) ik cA tp td fm tt vl wr bO sO nU mV) H := Eq.mp (congrArg (fun z => va_P D vwCl z H) hW) hP
    have hD : va_D _ (MW cI cJ A sS kS oS aS (asT sS tS n f k) ik cA tp td fm tt vl wr bO sO nU mV) := Eq.mp (congrArg (fun z => va_D _ z) hW) hD
    exact mu_iret (MW cI cJ A sS kS oS aS (asT sS tS n f k) ik cA tp td fm tt vl wr bO sO nU mV) hx hb hr hlk hP hS rfl (⟨congrArg (fun z => some (Value.int z)) (by simp [asR, asT, turnOk, bump, put9, b2i, c5, i_lt, -Int32.not_le, -Int32.not_lt]), rfl⟩) dX4_as_21
  · replace c5 := b2i_n0 c5
    obtain ⟨j, hj, rfl⟩ := fig_in hI.1 c5
    have h8 := hI.1
    have ej : cl (nI j) = j := cl_nI (by omega)
    refine lv_iload_n hx hb dX4_as_8 rfl (lv_at hl 2 rfl) ?_
    refine ro_S (w := []) (rest := []) S hK va_P0 (k_X4_isKind k) gs_X4_118 hd_X4_isKind ⟨Nat.le_of_ble_eq_true rfl, Nat.le_of_ble_eq_true rfl⟩ rfl hl.1 (lv_room (Nat.le_of_ble_eq_true rfl)) dX4_as_9 ⟨Nat.zero_le _, Nat.zero_le _⟩ ?_
    refine lv_if_ne (tgt := 22) hx hb dX4_as_12 rfl (fun c12 => ?_) (fun c12 => ?_)
    · replace c12 := b2i_n0 c12
      refine lv_aload_n hx hb dX4_as_22 rfl (lv_at hl 0 rfl) ?_
      refine lv_iload_n hx hb dX4_as_23 rfl (lv_at hl 1 rfl) ?_
      refine lv_iconst (v := 0) hx hb dX4_as_24 rfl ?_
      refine ro_V (w := (MW cI cJ A sS kS oS aS tS ik cA tp td fm tt vl wr bO sO nU mV)) (rest := []) S hK hP (k_X4_its j 0 (by omega) (by omega)) gv_X4_55 hd_X4_its ⟨Nat.le_of_ble_eq_true rfl, Nat.le_of_ble_eq_true rfl⟩ 4 rfl rfl rfl rfl hl.1 (lv_room (Nat.le_of_ble_eq_true rfl)) dX4_as_25 ⟨Nat.zero_le _, Nat.zero_le _⟩ ?_
      refine lv_iload_n hx hb dX4_as_28 rfl (lv_at hl 2 rfl) ?_
      refine ro_S (w := []) (rest := []) S hK va_P0 (k_X4_isUnder (its sS j 0) k) gs_X4_145 hd_X4_isUnder ⟨Nat.le_of_ble_eq_true rfl, Nat.le_of_ble_eq_true rfl⟩ rfl hl.1 (lv_room (Nat.le_of_ble_eq_true rfl)) dX4_as_29 ⟨Nat.zero_le _, Nat.zero_le _⟩ ?_
      refine lv_if_eq (tgt := 44) hx hb dX4_as_32 rfl (fun c32 => ?_) (fun c32 => ?_)
      · replace c32 := (b2i_0 _).mp c32
        refine lv_aload_n hx hb dX4_as_44 rfl (lv_at hl 0 rfl) ?_
        refine lv_ldc (v := (-1000000003)) hx hb hown (hts _ wq_X4_148) dX4_as_45 ?_
        refine mu_W (w := (MW cI cJ A sS kS oS aS tS ik cA tp td fm tt vl wr bO sO nU mV)) (rest := []) S hK hP hD hS (k_X4_finds 2 (-1000000003) (by decide) (by decide)) gv_X4_63 hd_X4_finds ⟨Nat.le_of_ble_eq_true rfl, Nat.le_of_ble_eq_true rfl⟩ 4 rfl rfl rfl rfl hl.1 (lv_room (Nat.le_of_ble_eq_true rfl)) dX4_as_47 ⟨Nat.zero_le _, Nat.zero_le _⟩ (fun ov w' H locs hp hP hD hS => ?_)
        obtain ⟨rfl, rfl⟩ := hp
        refine W.eq (g2 := F0 m 50 ls [.int (-1000000003)]) rfl ?_
        have hE : upd tS 2 (tS 2 + 1) = asT sS tS n (nI j) k := by simp [asR, asT, turnOk, bump, put9, b2i, c5, c12, c32, ej, i_lt, -Int32.not_le, -Int32.not_lt]
        have hW : (MW cI cJ A sS kS oS aS (upd tS 2 (tS 2 + 1)) ik cA tp td fm tt vl wr bO sO nU mV) = (MW cI cJ A sS kS oS aS (asT sS tS n (nI j) k) ik cA tp td fm tt vl wr bO sO nU mV) := congrArg (fun z => (MW cI cJ A sS kS oS aS z ik cA tp td fm tt vl wr bO sO nU mV)) hE
        have hP : va_P D vwCl (MW cI cJ A sS kS oS aS (asT sS tS n (nI j) k) ik cA tp td fm tt vl wr bO sO nU mV) H := Eq.mp (congrArg (fun z => va_P D vwCl z H) hW) hP
        have hD : va_D _ (MW cI cJ A sS kS oS aS (asT sS tS n (nI j) k) ik cA tp td fm tt vl wr bO sO nU mV) := Eq.mp (congrArg (fun z => va_D _ z) hW) hD
        exact mu_iret (MW cI cJ A sS kS oS aS (asT sS tS n (nI j) k) ik cA tp td fm tt vl wr bO sO nU mV) hx hb hr hlk hP hS rfl (⟨congrArg (fun z => some (Value.int z)) (by simp [asR, asT, turnOk, bump, put9, b2i, c5, c12, c32, ej, i_lt, -Int32.not_le, -Int32.not_lt]), rfl⟩) dX4_as_50
      · replace c32 := b2i_n0 c32
        refine lv_aload_n hx hb dX4_as_35 rfl (lv_at hl 0 rfl) ?_
        refine lv_iload_n hx hb dX4_as_36 rfl (lv_at hl 1 rfl) ?_
        refine lv_iconst (v := 3) hx hb dX4_as_37 rfl ?_
        refine ro_V (w := (MW cI cJ A sS kS oS aS tS ik cA tp td fm tt vl wr bO sO nU mV)) (rest := []) S hK hP (k_X4_its j 3 (by omega) (by omega)) gv_X4_55 hd_X4_its ⟨Nat.le_of_ble_eq_true rfl, Nat.le_of_ble_eq_true rfl⟩ 4 rfl rfl rfl rfl hl.1 (lv_room (Nat.le_of_ble_eq_true rfl)) dX4_as_38 ⟨Nat.zero_le _, Nat.zero_le _⟩ ?_
        refine lv_goto (tgt := 50) hx hb dX4_as_41 rfl ?_
        have hE : tS = asT sS tS n (nI j) k := by simp [asR, asT, turnOk, bump, put9, b2i, c5, c12, c32, ej, i_lt, -Int32.not_le, -Int32.not_lt]
        have hW : (MW cI cJ A sS kS oS aS tS ik cA tp td fm tt vl wr bO sO nU mV) = (MW cI cJ A sS kS oS aS (asT sS tS n (nI j) k) ik cA tp td fm tt vl wr bO sO nU mV) := congrArg (fun z => (MW cI cJ A sS kS oS aS z ik cA tp td fm tt vl wr bO sO nU mV)) hE
        have hP : va_P D vwCl (MW cI cJ A sS kS oS aS (asT sS tS n (nI j) k) ik cA tp td fm tt vl wr bO sO nU mV) s.heap := Eq.mp (congrArg (fun z => va_P D vwCl z s.heap) hW) hP
        have hD : va_D _ (MW cI cJ A sS kS oS aS (asT sS tS n (nI j) k) ik cA tp td fm tt vl wr bO sO nU mV) := Eq.mp (congrArg (fun z => va_D _ z) hW) hD
        exact mu_iret (MW cI cJ A sS kS oS aS (asT sS tS n (nI j) k) ik cA tp td fm tt vl wr bO sO nU mV) hx hb hr hlk hP hS rfl (⟨congrArg (fun z => some (Value.int z)) (by simp [asR, asT, turnOk, bump, put9, b2i, c5, c12, c32, ej, i_lt, -Int32.not_le, -Int32.not_lt]), rfl⟩) dX4_as_50
    · replace c12 := (b2i_0 _).mp c12
      refine lv_aload_n hx hb dX4_as_15 rfl (lv_at hl 0 rfl) ?_
      refine lv_ldc (v := (-1000000001)) hx hb hown (hts _ wq_X4_44) dX4_as_16 ?_
      refine mu_W (w := (MW cI cJ A sS kS oS aS tS ik cA tp td fm tt vl wr bO sO nU mV)) (rest := []) S hK hP hD hS (k_X4_finds 0 (-1000000001) (by decide) (by decide)) gv_X4_63 hd_X4_finds ⟨Nat.le_of_ble_eq_true rfl, Nat.le_of_ble_eq_true rfl⟩ 4 rfl rfl rfl rfl hl.1 (lv_room (Nat.le_of_ble_eq_true rfl)) dX4_as_18 ⟨Nat.zero_le _, Nat.zero_le _⟩ (fun ov w' H locs hp hP hD hS => ?_)
      obtain ⟨rfl, rfl⟩ := hp
      refine W.eq (g2 := F0 m 21 ls [.int (-1000000001)]) rfl ?_
      have hE : upd tS 0 (tS 0 + 1) = asT sS tS n (nI j) k := by simp [asR, asT, turnOk, bump, put9, b2i, c5, c12, ej, i_lt, -Int32.not_le, -Int32.not_lt]
      have hW : (MW cI cJ A sS kS oS aS (upd tS 0 (tS 0 + 1)) ik cA tp td fm tt vl wr bO sO nU mV) = (MW cI cJ A sS kS oS aS (asT sS tS n (nI j) k) ik cA tp td fm tt vl wr bO sO nU mV) := congrArg (fun z => (MW cI cJ A sS kS oS aS z ik cA tp td fm tt vl wr bO sO nU mV)) hE
      have hP : va_P D vwCl (MW cI cJ A sS kS oS aS (asT sS tS n (nI j) k) ik cA tp td fm tt vl wr bO sO nU mV) H := Eq.mp (congrArg (fun z => va_P D vwCl z H) hW) hP
      have hD : va_D _ (MW cI cJ A sS kS oS aS (asT sS tS n (nI j) k) ik cA tp td fm tt vl wr bO sO nU mV) := Eq.mp (congrArg (fun z => va_D _ z) hW) hD
      exact mu_iret (MW cI cJ A sS kS oS aS (asT sS tS n (nI j) k) ik cA tp td fm tt vl wr bO sO nU mV) hx hb hr hlk hP hS rfl (⟨congrArg (fun z => some (Value.int z)) (by simp [asR, asT, turnOk, bump, put9, b2i, c5, c12, ej, i_lt, -Int32.not_le, -Int32.not_lt]), rfl⟩) dX4_as_21

set_option maxHeartbeats 4000000 in
set_option maxRecDepth 100000 in
theorem k_X4_hours (n : Nat) (k : Int32) (hI : Inv sS n) : MU l D (tyA cI cJ cO) yX4_hours cX4_hours 2 ((some .int)) 9 197 [.ref (A 0), .int k] (MW cI cJ A sS kS oS aS tS ik cA tp td fm tt vl wr bO sO nU mV) (fun ov w' => ov = some (.int (hrsR sS n k)) ∧ w' = (MW cI cJ A (hrsG sS n k) kS oS aS (hrsT sS tS k) ik cA tp td fm tt vl wr bO sO nU mV)) := by
  refine MU.mk (by decide) (Nat.le_of_ble_eq_true rfl) ?_
  intro p e s m below meth c ls S hr hlk hP hK hD hS hl
  have S : CallFix p m c cX4_hours 2 s _ WL RX4 := S
  obtain ⟨hx, hb, hml, hown, hts⟩ := id S
  have hl : lv_has ls 2 [(0, .ref (A 0)), (1, .int k)] := hl
  refine lv_iload_n hx hb dX4_hours_0 rfl (lv_at hl 1 rfl) ?_
  refine lv_i2l hx hb dX4_hours_1 rfl ?_
  refine lv_lconst (v := 1) hx hb dX4_hours_2 rfl ?_
  refine lv_ldc2 (v := 100) hx hb hown (hts _ wq_X4_162) dX4_hours_3 ?_
  refine ro_S (w := []) (rest := []) S hK va_P0 (k_X4_inI k 1 100 _ _ (by decide) (by decide)) gs_X4_49 hd_X4_in ⟨Nat.le_of_ble_eq_true rfl, Nat.le_of_ble_eq_true rfl⟩ rfl hl.1 (lv_room (Nat.le_of_ble_eq_true rfl)) dX4_hours_6 ⟨Nat.zero_le _, Nat.zero_le _⟩ ?_
  refine lv_if_ne (tgt := 19) hx hb dX4_hours_9 rfl (fun c9 => ?_) (fun c9 => ?_)
  · replace c9 := b2i_n0 c9
    obtain ⟨j, hja, hjb, rfl⟩ := in_nat (a := 1) (b := 100) (by decide) c9 (by decide)
    have ej : cl (nI j) = j := cl_nI (by omega)
    refine lv_aload_n hx hb dX4_hours_19 rfl (lv_at hl 0 rfl) ?_
    refine va_get (ci := 4) (v := .ref (A 1)) hx hb hts wx_X4 hown hK hP 0 rfl rfl 0 (by decide) (hts _ wf_X4_7) (fun _ h9 => h9) rfl dX4_hours_20 ?_
    refine lv_iconst (v := 0) hx hb dX4_hours_23 rfl ?_
    refine ia_ld hx hb hK hP 1 0 rfl rfl 0 (rfl) (by omega) (by decide) dX4_hours_24 ?_
    refine lv_iload_n hx hb dX4_hours_25 rfl (lv_at hl 1 rfl) ?_
    refine lv_iadd hx hb dX4_hours_26 ?_
    refine lv_ldc (v := 99999) hx hb hown (hts _ wq_X4_164) dX4_hours_27 ?_
    refine lv_icmp_le (tgt := 39) hx hb dX4_hours_29 rfl (fun c29 => ?_) (fun c29 => ?_)
    · refine lv_aload_n hx hb dX4_hours_39 rfl (lv_at hl 0 rfl) ?_
      refine lv_iload_n hx hb dX4_hours_40 rfl (lv_at hl 1 rfl) ?_
      refine mu_W (w := (MW cI cJ A sS kS oS aS tS ik cA tp td fm tt vl wr bO sO nU mV)) (rest := []) S hK hP hD hS (k_X4_hoursGo n j hI (by omega)) gv_X4_166 hd_X4_hoursGo ⟨Nat.le_of_ble_eq_true rfl, Nat.le_of_ble_eq_true rfl⟩ 4 rfl rfl rfl rfl hl.1 (lv_room (Nat.le_of_ble_eq_true rfl)) dX4_hours_41 ⟨Nat.zero_le _, Nat.zero_le _⟩ (fun ov w' H locs hp hP hD hS => ?_)
      obtain ⟨rfl, rfl⟩ := hp
      refine W.eq (g2 := F0 m 44 ls []) rfl ?_
      refine lv_aload_n hx hb dX4_hours_44 rfl (lv_at hl 0 rfl) ?_
      have hI := Inv_hours hI j
      refine ro_V (w := (MW cI cJ A (hoursF sS n j) kS oS aS tS ik cA tp td fm tt vl wr bO sO nU mV)) (rest := []) S hK hP (k_X4_content n hI) gv_X4_101 hd_X4_content ⟨Nat.le_of_ble_eq_true rfl, Nat.le_of_ble_eq_true rfl⟩ 4 rfl rfl rfl rfl hl.1 (lv_room (Nat.le_of_ble_eq_true rfl)) dX4_hours_45 ⟨Nat.zero_le _, Nat.zero_le _⟩ ?_
      have hE : hoursF sS n j = hrsG sS n (nI j) := by simp [hrsR, hrsG, hrsT, bump, put9, b2i, c9, c29, ej, i_lt, -Int32.not_le, -Int32.not_lt]
      have hW : (MW cI cJ A (hoursF sS n j) kS oS aS tS ik cA tp td fm tt vl wr bO sO nU mV) = (MW cI cJ A (hrsG sS n (nI j)) kS oS aS tS ik cA tp td fm tt vl wr bO sO nU mV) := congrArg (fun z => (MW cI cJ A z kS oS aS tS ik cA tp td fm tt vl wr bO sO nU mV)) hE
      have hP : va_P D vwCl (MW cI cJ A (hrsG sS n (nI j)) kS oS aS tS ik cA tp td fm tt vl wr bO sO nU mV) H := Eq.mp (congrArg (fun z => va_P D vwCl z H) hW) hP
      have hD : va_D _ (MW cI cJ A (hrsG sS n (nI j)) kS oS aS tS ik cA tp td fm tt vl wr bO sO nU mV) := Eq.mp (congrArg (fun z => va_D _ z) hW) hD
      have hE : tS = hrsT sS tS (nI j) := by simp [hrsR, hrsG, hrsT, bump, put9, b2i, c9, c29, ej, i_lt, -Int32.not_le, -Int32.not_lt]
      have hW : (MW cI cJ A (hrsG sS n (nI j)) kS oS aS tS ik cA tp td fm tt vl wr bO sO nU mV) = (MW cI cJ A (hrsG sS n (nI j)) kS oS aS (hrsT sS tS (nI j)) ik cA tp td fm tt vl wr bO sO nU mV) := congrArg (fun z => (MW cI cJ A (hrsG sS n (nI j)) kS oS aS z ik cA tp td fm tt vl wr bO sO nU mV)) hE
      have hP : va_P D vwCl (MW cI cJ A (hrsG sS n (nI j)) kS oS aS (hrsT sS tS (nI j)) ik cA tp td fm tt vl wr bO sO nU mV) H := Eq.mp (congrArg (fun z => va_P D vwCl z H) hW) hP
      have hD : va_D _ (MW cI cJ A (hrsG sS n (nI j)) kS oS aS (hrsT sS tS (nI j)) ik cA tp td fm tt vl wr bO sO nU mV) := Eq.mp (congrArg (fun z => va_D _ z) hW) hD
      exact mu_iret (MW cI cJ A (hrsG sS n (nI j)) kS oS aS (hrsT sS tS (nI j)) ik cA tp td fm tt vl wr bO sO nU mV) hx hb hr hlk hP hS rfl (⟨congrArg (fun z => some (Value.int z)) (by simp [hrsR, hrsG, hrsT, bump, put9, b2i, c9, c29, ej, i_lt, -Int32.not_le, -Int32.not_lt]), rfl⟩) dX4_hours_48
    · refine lv_aload_n hx hb dX4_hours_32 rfl (lv_at hl 0 rfl) ?_
      refine lv_ldc (v := (-1000000005)) hx hb hown (hts _ wq_X4_165) dX4_hours_33 ?_
      refine mu_W (w := (MW cI cJ A sS kS oS aS tS ik cA tp td fm tt vl wr bO sO nU mV)) (rest := []) S hK hP hD hS (k_X4_finds 4 (-1000000005) (by decide) (by decide)) gv_X4_63 hd_X4_finds ⟨Nat.le_of_ble_eq_true rfl, Nat.le_of_ble_eq_true rfl⟩ 4 rfl rfl rfl rfl hl.1 (lv_room (Nat.le_of_ble_eq_true rfl)) dX4_hours_35 ⟨Nat.zero_le _, Nat.zero_le _⟩ (fun ov w' H locs hp hP hD hS => ?_)
      obtain ⟨rfl, rfl⟩ := hp
      refine W.eq (g2 := F0 m 38 ls [.int (-1000000005)]) rfl ?_
      have hE : sS = hrsG sS n (nI j) := by simp [hrsR, hrsG, hrsT, bump, put9, b2i, c9, c29, ej, i_lt, -Int32.not_le, -Int32.not_lt]
      have hW : (MW cI cJ A sS kS oS aS (upd tS 4 (tS 4 + 1)) ik cA tp td fm tt vl wr bO sO nU mV) = (MW cI cJ A (hrsG sS n (nI j)) kS oS aS (upd tS 4 (tS 4 + 1)) ik cA tp td fm tt vl wr bO sO nU mV) := congrArg (fun z => (MW cI cJ A z kS oS aS (upd tS 4 (tS 4 + 1)) ik cA tp td fm tt vl wr bO sO nU mV)) hE
      have hP : va_P D vwCl (MW cI cJ A (hrsG sS n (nI j)) kS oS aS (upd tS 4 (tS 4 + 1)) ik cA tp td fm tt vl wr bO sO nU mV) H := Eq.mp (congrArg (fun z => va_P D vwCl z H) hW) hP
      have hD : va_D _ (MW cI cJ A (hrsG sS n (nI j)) kS oS aS (upd tS 4 (tS 4 + 1)) ik cA tp td fm tt vl wr bO sO nU mV) := Eq.mp (congrArg (fun z => va_D _ z) hW) hD
      have hE : upd tS 4 (tS 4 + 1) = hrsT sS tS (nI j) := by simp [hrsR, hrsG, hrsT, bump, put9, b2i, c9, c29, ej, i_lt, -Int32.not_le, -Int32.not_lt]
      have hW : (MW cI cJ A (hrsG sS n (nI j)) kS oS aS (upd tS 4 (tS 4 + 1)) ik cA tp td fm tt vl wr bO sO nU mV) = (MW cI cJ A (hrsG sS n (nI j)) kS oS aS (hrsT sS tS (nI j)) ik cA tp td fm tt vl wr bO sO nU mV) := congrArg (fun z => (MW cI cJ A (hrsG sS n (nI j)) kS oS aS z ik cA tp td fm tt vl wr bO sO nU mV)) hE
      have hP : va_P D vwCl (MW cI cJ A (hrsG sS n (nI j)) kS oS aS (hrsT sS tS (nI j)) ik cA tp td fm tt vl wr bO sO nU mV) H := Eq.mp (congrArg (fun z => va_P D vwCl z H) hW) hP
      have hD : va_D _ (MW cI cJ A (hrsG sS n (nI j)) kS oS aS (hrsT sS tS (nI j)) ik cA tp td fm tt vl wr bO sO nU mV) := Eq.mp (congrArg (fun z => va_D _ z) hW) hD
      exact mu_iret (MW cI cJ A (hrsG sS n (nI j)) kS oS aS (hrsT sS tS (nI j)) ik cA tp td fm tt vl wr bO sO nU mV) hx hb hr hlk hP hS rfl (⟨congrArg (fun z => some (Value.int z)) (by simp [hrsR, hrsG, hrsT, bump, put9, b2i, c9, c29, ej, i_lt, -Int32.not_le, -Int32.not_lt]), rfl⟩) dX4_hours_38
  · replace c9 := (b2i_0 _).mp c9
    refine lv_aload_n hx hb dX4_hours_12 rfl (lv_at hl 0 rfl) ?_
    refine lv_ldc (v := (-1000000001)) hx hb hown (hts _ wq_X4_44) dX4_hours_13 ?_
    refine mu_W (w := (MW cI cJ A sS kS oS aS tS ik cA tp td fm tt vl wr bO sO nU mV)) (rest := []) S hK hP hD hS (k_X4_finds 0 (-1000000001) (by decide) (by decide)) gv_X4_63 hd_X4_finds ⟨Nat.le_of_ble_eq_true rfl, Nat.le_of_ble_eq_true rfl⟩ 4 rfl rfl rfl rfl hl.1 (lv_room (Nat.le_of_ble_eq_true rfl)) dX4_hours_15 ⟨Nat.zero_le _, Nat.zero_le _⟩ (fun ov w' H locs hp hP hD hS => ?_)
    obtain ⟨rfl, rfl⟩ := hp
    refine W.eq (g2 := F0 m 18 ls [.int (-1000000001)]) rfl ?_
    have hE : sS = hrsG sS n k := by simp [hrsR, hrsG, hrsT, bump, put9, b2i, c9, i_lt, -Int32.not_le, -Int32.not_lt]
    have hW : (MW cI cJ A sS kS oS aS (upd tS 0 (tS 0 + 1)) ik cA tp td fm tt vl wr bO sO nU mV) = (MW cI cJ A (hrsG sS n k) kS oS aS (upd tS 0 (tS 0 + 1)) ik cA tp td fm tt vl wr bO sO nU mV) := congrArg (fun z => (MW cI cJ A z kS oS aS (upd tS 0 (tS 0 + 1)) ik cA tp td fm tt vl wr bO sO nU mV)) hE
    have hP : va_P D vwCl (MW cI cJ A (hrsG sS n k) kS oS aS (upd tS 0 (tS 0 + 1)) ik cA tp td fm tt vl wr bO sO nU mV) H := Eq.mp (congrArg (fun z => va_P D vwCl z H) hW) hP
    have hD : va_D _ (MW cI cJ A (hrsG sS n k) kS oS aS (upd tS 0 (tS 0 + 1)) ik cA tp td fm tt vl wr bO sO nU mV) := Eq.mp (congrArg (fun z => va_D _ z) hW) hD
    have hE : upd tS 0 (tS 0 + 1) = hrsT sS tS k := by simp [hrsR, hrsG, hrsT, bump, put9, b2i, c9, i_lt, -Int32.not_le, -Int32.not_lt]
    have hW : (MW cI cJ A (hrsG sS n k) kS oS aS (upd tS 0 (tS 0 + 1)) ik cA tp td fm tt vl wr bO sO nU mV) = (MW cI cJ A (hrsG sS n k) kS oS aS (hrsT sS tS k) ik cA tp td fm tt vl wr bO sO nU mV) := congrArg (fun z => (MW cI cJ A (hrsG sS n k) kS oS aS z ik cA tp td fm tt vl wr bO sO nU mV)) hE
    have hP : va_P D vwCl (MW cI cJ A (hrsG sS n k) kS oS aS (hrsT sS tS k) ik cA tp td fm tt vl wr bO sO nU mV) H := Eq.mp (congrArg (fun z => va_P D vwCl z H) hW) hP
    have hD : va_D _ (MW cI cJ A (hrsG sS n k) kS oS aS (hrsT sS tS k) ik cA tp td fm tt vl wr bO sO nU mV) := Eq.mp (congrArg (fun z => va_D _ z) hW) hD
    exact mu_iret (MW cI cJ A (hrsG sS n k) kS oS aS (hrsT sS tS k) ik cA tp td fm tt vl wr bO sO nU mV) hx hb hr hlk hP hS rfl (⟨congrArg (fun z => some (Value.int z)) (by simp [hrsR, hrsG, hrsT, bump, put9, b2i, c9, i_lt, -Int32.not_le, -Int32.not_lt]), rfl⟩) dX4_hours_18

set_option maxHeartbeats 4000000 in
set_option maxRecDepth 100000 in
theorem k_X4_on (n : Nat) (f : Int32) (k : Int32) (w : Int32) (hI : Inv sS n) : MU l D (tyA cI cJ cO) yX4_on cX4_on 4 ((some .int)) 10 219 [.ref (A 0), .int f, .int k, .int w] (MW cI cJ A sS kS oS aS tS ik cA tp td fm tt vl wr bO sO nU mV) (fun ov w' => ∃ aS' : Nat → Int32, ov = some (.int (onR sS n f k w)) ∧ w' = (MW cI cJ A sS kS oS aS' (okT (onOk n f k w) tS) ik cA tp td fm tt vl wr bO sO nU mV)) := by
  refine MU.mk (by decide) (Nat.le_of_ble_eq_true rfl) ?_
  intro p e s m below meth c ls S hr hlk hP hK hD hS hl
  have S : CallFix p m c cX4_on 4 s _ WL RX4 := S
  obtain ⟨hx, hb, hml, hown, hts⟩ := id S
  have hl : lv_has ls 4 [(0, .ref (A 0)), (1, .int f), (2, .int k), (3, .int w)] := hl
  refine lv_aload_n hx hb dX4_on_0 rfl (lv_at hl 0 rfl) ?_
  refine lv_iload_n hx hb dX4_on_1 rfl (lv_at hl 1 rfl) ?_
  refine ro_V (w := (MW cI cJ A sS kS oS aS tS ik cA tp td fm tt vl wr bO sO nU mV)) (rest := []) S hK hP (k_X4_isFigure n f hI) gv_X4_128 hd_X4_isFigure ⟨Nat.le_of_ble_eq_true rfl, Nat.le_of_ble_eq_true rfl⟩ 4 rfl rfl rfl rfl hl.1 (lv_room (Nat.le_of_ble_eq_true rfl)) dX4_on_2 ⟨Nat.zero_le _, Nat.zero_le _⟩ ?_
  refine lv_if_eq (tgt := 27) hx hb dX4_on_5 rfl (fun c5 => ?_) (fun c5 => ?_)
  · replace c5 := (b2i_0 _).mp c5
    refine lv_aload_n hx hb dX4_on_27 rfl (lv_at hl 0 rfl) ?_
    refine lv_ldc (v := (-1000000001)) hx hb hown (hts _ wq_X4_44) dX4_on_28 ?_
    refine mu_W (w := (MW cI cJ A sS kS oS aS tS ik cA tp td fm tt vl wr bO sO nU mV)) (rest := []) S hK hP hD hS (k_X4_finds 0 (-1000000001) (by decide) (by decide)) gv_X4_63 hd_X4_finds ⟨Nat.le_of_ble_eq_true rfl, Nat.le_of_ble_eq_true rfl⟩ 4 rfl rfl rfl rfl hl.1 (lv_room (Nat.le_of_ble_eq_true rfl)) dX4_on_30 ⟨Nat.zero_le _, Nat.zero_le _⟩ (fun ov w' H locs hp hP hD hS => ?_)
    obtain ⟨rfl, rfl⟩ := hp
    refine W.eq (g2 := F0 m 33 ls [.int (-1000000001)]) rfl ?_
    have hE : upd tS 0 (tS 0 + 1) = okT (onOk n f k w) tS := by simp [onR, onOk, okT, its, bump, put9, b2i, c5, i_lt, -Int32.not_le, -Int32.not_lt]
    have hW : (MW cI cJ A sS kS oS aS (upd tS 0 (tS 0 + 1)) ik cA tp td fm tt vl wr bO sO nU mV) = (MW cI cJ A sS kS oS aS (okT (onOk n f k w) tS) ik cA tp td fm tt vl wr bO sO nU mV) := congrArg (fun z => (MW cI cJ A sS kS oS aS z ik cA tp td fm tt vl wr bO sO nU mV)) hE
    have hP : va_P D vwCl (MW cI cJ A sS kS oS aS (okT (onOk n f k w) tS) ik cA tp td fm tt vl wr bO sO nU mV) H := Eq.mp (congrArg (fun z => va_P D vwCl z H) hW) hP
    have hD : va_D _ (MW cI cJ A sS kS oS aS (okT (onOk n f k w) tS) ik cA tp td fm tt vl wr bO sO nU mV) := Eq.mp (congrArg (fun z => va_D _ z) hW) hD
    exact mu_iret (MW cI cJ A sS kS oS aS (okT (onOk n f k w) tS) ik cA tp td fm tt vl wr bO sO nU mV) hx hb hr hlk hP hS rfl (⟨aS, congrArg (fun z => some (Value.int z)) (by simp [onR, onOk, okT, its, bump, put9, b2i, c5, i_lt, -Int32.not_le, -Int32.not_lt]), rfl⟩) dX4_on_33
  · replace c5 := b2i_n0 c5
    obtain ⟨i, hi, rfl⟩ := fig_in hI.1 c5
    have h8 := hI.1
    have ei : cl (nI i) = i := cl_nI (by omega)
    refine lv_iload_n hx hb dX4_on_8 rfl (lv_at hl 2 rfl) ?_
    refine ro_S (w := []) (rest := []) S hK va_P0 (k_X4_isAhead k) gs_X4_180 hd_X4_isAhead ⟨Nat.le_of_ble_eq_true rfl, Nat.le_of_ble_eq_true rfl⟩ rfl hl.1 (lv_room (Nat.le_of_ble_eq_true rfl)) dX4_on_9 ⟨Nat.zero_le _, Nat.zero_le _⟩ ?_
    refine lv_if_eq (tgt := 27) hx hb dX4_on_12 rfl (fun c12 => ?_) (fun c12 => ?_)
    · replace c12 := (b2i_0 _).mp c12
      refine lv_aload_n hx hb dX4_on_27 rfl (lv_at hl 0 rfl) ?_
      refine lv_ldc (v := (-1000000001)) hx hb hown (hts _ wq_X4_44) dX4_on_28 ?_
      refine mu_W (w := (MW cI cJ A sS kS oS aS tS ik cA tp td fm tt vl wr bO sO nU mV)) (rest := []) S hK hP hD hS (k_X4_finds 0 (-1000000001) (by decide) (by decide)) gv_X4_63 hd_X4_finds ⟨Nat.le_of_ble_eq_true rfl, Nat.le_of_ble_eq_true rfl⟩ 4 rfl rfl rfl rfl hl.1 (lv_room (Nat.le_of_ble_eq_true rfl)) dX4_on_30 ⟨Nat.zero_le _, Nat.zero_le _⟩ (fun ov w' H locs hp hP hD hS => ?_)
      obtain ⟨rfl, rfl⟩ := hp
      refine W.eq (g2 := F0 m 33 ls [.int (-1000000001)]) rfl ?_
      have hE : upd tS 0 (tS 0 + 1) = okT (onOk n (nI i) k w) tS := by simp [onR, onOk, okT, its, bump, put9, b2i, c5, c12, ei, i_lt, -Int32.not_le, -Int32.not_lt]
      have hW : (MW cI cJ A sS kS oS aS (upd tS 0 (tS 0 + 1)) ik cA tp td fm tt vl wr bO sO nU mV) = (MW cI cJ A sS kS oS aS (okT (onOk n (nI i) k w) tS) ik cA tp td fm tt vl wr bO sO nU mV) := congrArg (fun z => (MW cI cJ A sS kS oS aS z ik cA tp td fm tt vl wr bO sO nU mV)) hE
      have hP : va_P D vwCl (MW cI cJ A sS kS oS aS (okT (onOk n (nI i) k w) tS) ik cA tp td fm tt vl wr bO sO nU mV) H := Eq.mp (congrArg (fun z => va_P D vwCl z H) hW) hP
      have hD : va_D _ (MW cI cJ A sS kS oS aS (okT (onOk n (nI i) k w) tS) ik cA tp td fm tt vl wr bO sO nU mV) := Eq.mp (congrArg (fun z => va_D _ z) hW) hD
      exact mu_iret (MW cI cJ A sS kS oS aS (okT (onOk n (nI i) k w) tS) ik cA tp td fm tt vl wr bO sO nU mV) hx hb hr hlk hP hS rfl (⟨aS, congrArg (fun z => some (Value.int z)) (by simp [onR, onOk, okT, its, bump, put9, b2i, c5, c12, ei, i_lt, -Int32.not_le, -Int32.not_lt]), rfl⟩) dX4_on_33
    · replace c12 := b2i_n0 c12
      obtain ⟨j, hja, hjb, rfl⟩ := in_nat (a := 0) (b := 200) (by decide) c12 (by decide)
      have ej : cl (nI j) = j := cl_nI (by omega)
      refine lv_iload_n hx hb dX4_on_15 rfl (lv_at hl 3 rfl) ?_
      refine lv_i2l hx hb dX4_on_16 rfl ?_
      refine lv_lconst (v := 0) hx hb dX4_on_17 rfl ?_
      refine lv_ldc2 (v := 3) hx hb hown (hts _ wq_X4_116) dX4_on_18 ?_
      refine ro_S (w := []) (rest := []) S hK va_P0 (k_X4_inI w 0 3 _ _ (by decide) (by decide)) gs_X4_49 hd_X4_in ⟨Nat.le_of_ble_eq_true rfl, Nat.le_of_ble_eq_true rfl⟩ rfl hl.1 (lv_room (Nat.le_of_ble_eq_true rfl)) dX4_on_21 ⟨Nat.zero_le _, Nat.zero_le _⟩ ?_
      refine lv_if_ne (tgt := 34) hx hb dX4_on_24 rfl (fun c24 => ?_) (fun c24 => ?_)
      · replace c24 := b2i_n0 c24
        obtain ⟨u, hua, hub, rfl⟩ := in_nat (a := 0) (b := 3) (by decide) c24 (by decide)
        have eu : cl (nI u) = u := cl_nI (by omega)
        refine lv_aload_n hx hb dX4_on_34 rfl (lv_at hl 0 rfl) ?_
        refine lv_iload_n hx hb dX4_on_35 rfl (lv_at hl 1 rfl) ?_
        refine lv_iload_n hx hb dX4_on_36 rfl (lv_at hl 3 rfl) ?_
        refine lv_iconst (v := 3) hx hb dX4_on_37 rfl ?_
        refine lv_icmp_ne (tgt := 46) hx hb dX4_on_38 rfl (fun c38 => ?_) (fun c38 => ?_)
        · replace c38 := nq_ne (a := u) (b := 3) (by omega) (by omega) c38
          have c38n : ¬ nI u = 3 := fun z => c38 (nq_eq (a := u) (b := 3) (by omega) (by omega) z)
          refine lv_iconst (v := 2) hx hb dX4_on_46 rfl ?_
          refine lv_iload_n hx hb dX4_on_47 rfl (lv_at hl 3 rfl) ?_
          refine lv_iadd hx hb dX4_on_48 ?_
          refine w_i (z := nI (2 + u)) (nI_add 2 u) ?_
          refine ro_S (w := []) (rest := [.ref (A 0)]) S hK va_P0 (k_X4_spot i (2 + u)) gs_X4_45 hd_X4_spot ⟨Nat.le_of_ble_eq_true rfl, Nat.le_of_ble_eq_true rfl⟩ rfl hl.1 (lv_room (Nat.le_of_ble_eq_true rfl)) dX4_on_49 ⟨Nat.zero_le _, Nat.zero_le _⟩ ?_
          refine lv_iload_n hx hb dX4_on_52 rfl (lv_at hl 2 rfl) ?_
          refine mu_W (w := (MW cI cJ A sS kS oS aS tS ik cA tp td fm tt vl wr bO sO nU mV)) (rest := []) S hK hP hD hS (k_X4_behind n (9 * i + (2 + u) + 3) j hI (by omega) (by omega)) gv_X4_183 hd_X4_behind ⟨Nat.le_of_ble_eq_true rfl, Nat.le_of_ble_eq_true rfl⟩ 4 rfl rfl rfl rfl hl.1 (lv_room (Nat.le_of_ble_eq_true rfl)) dX4_on_53 ⟨Nat.zero_le _, Nat.zero_le _⟩ (fun ov w' H locs hp hP hD hS => ?_)
          obtain ⟨rfl, rfl⟩ := hp
          refine W.eq (g2 := F0 m 56 ls [.int (hoursF sS n j (9 * i + (2 + u) + 3))]) rfl ?_
          have hE : tS = okT (onOk n (nI i) (nI j) (nI u)) tS := by simp [onR, onOk, okT, its, bump, put9, b2i, c5, c12, c24, c38, ei, ej, eu, c38n, i_lt, -Int32.not_le, -Int32.not_lt]
          have hW : (MW cI cJ A sS kS oS sS tS ik cA tp td fm tt vl wr bO sO nU mV) = (MW cI cJ A sS kS oS sS (okT (onOk n (nI i) (nI j) (nI u)) tS) ik cA tp td fm tt vl wr bO sO nU mV) := congrArg (fun z => (MW cI cJ A sS kS oS sS z ik cA tp td fm tt vl wr bO sO nU mV)) hE
          have hP : va_P D vwCl (MW cI cJ A sS kS oS sS (okT (onOk n (nI i) (nI j) (nI u)) tS) ik cA tp td fm tt vl wr bO sO nU mV) H := Eq.mp (congrArg (fun z => va_P D vwCl z H) hW) hP
          have hD : va_D _ (MW cI cJ A sS kS oS sS (okT (onOk n (nI i) (nI j) (nI u)) tS) ik cA tp td fm tt vl wr bO sO nU mV) := Eq.mp (congrArg (fun z => va_D _ z) hW) hD
          exact mu_iret (MW cI cJ A sS kS oS sS (okT (onOk n (nI i) (nI j) (nI u)) tS) ik cA tp td fm tt vl wr bO sO nU mV) hx hb hr hlk hP hS rfl (⟨sS, congrArg (fun z => some (Value.int z)) (by simp [onR, onOk, okT, its, bump, put9, b2i, c5, c12, c24, c38, ei, ej, eu, c38n, i_lt, -Int32.not_le, -Int32.not_lt]), rfl⟩) dX4_on_56
        · replace c38 := nq_eq (a := u) (b := 3) (by omega) (by omega) c38
          subst c38
          have e33 : nI 3 = 3 := rfl
          rw [e33] at c24 eu
          refine lv_bipush (v := 8) hx hb dX4_on_41 rfl ?_
          refine lv_goto (tgt := 49) hx hb dX4_on_43 rfl ?_
          refine ro_S (w := []) (rest := [.ref (A 0)]) S hK va_P0 (k_X4_spot i 8) gs_X4_45 hd_X4_spot ⟨Nat.le_of_ble_eq_true rfl, Nat.le_of_ble_eq_true rfl⟩ rfl hl.1 (lv_room (Nat.le_of_ble_eq_true rfl)) dX4_on_49 ⟨Nat.zero_le _, Nat.zero_le _⟩ ?_
          refine lv_iload_n hx hb dX4_on_52 rfl (lv_at hl 2 rfl) ?_
          refine mu_W (w := (MW cI cJ A sS kS oS aS tS ik cA tp td fm tt vl wr bO sO nU mV)) (rest := []) S hK hP hD hS (k_X4_behind n (9 * i + 8 + 3) j hI (by omega) (by omega)) gv_X4_183 hd_X4_behind ⟨Nat.le_of_ble_eq_true rfl, Nat.le_of_ble_eq_true rfl⟩ 4 rfl rfl rfl rfl hl.1 (lv_room (Nat.le_of_ble_eq_true rfl)) dX4_on_53 ⟨Nat.zero_le _, Nat.zero_le _⟩ (fun ov w' H locs hp hP hD hS => ?_)
          obtain ⟨rfl, rfl⟩ := hp
          refine W.eq (g2 := F0 m 56 ls [.int (hoursF sS n j (9 * i + 8 + 3))]) rfl ?_
          have hE : tS = okT (onOk n (nI i) (nI j) (nI 3)) tS := by simp [onR, onOk, okT, its, bump, put9, b2i, c5, c12, c24, ei, ej, eu, e33, i_lt, -Int32.not_le, -Int32.not_lt]
          have hW : (MW cI cJ A sS kS oS sS tS ik cA tp td fm tt vl wr bO sO nU mV) = (MW cI cJ A sS kS oS sS (okT (onOk n (nI i) (nI j) (nI 3)) tS) ik cA tp td fm tt vl wr bO sO nU mV) := congrArg (fun z => (MW cI cJ A sS kS oS sS z ik cA tp td fm tt vl wr bO sO nU mV)) hE
          have hP : va_P D vwCl (MW cI cJ A sS kS oS sS (okT (onOk n (nI i) (nI j) (nI 3)) tS) ik cA tp td fm tt vl wr bO sO nU mV) H := Eq.mp (congrArg (fun z => va_P D vwCl z H) hW) hP
          have hD : va_D _ (MW cI cJ A sS kS oS sS (okT (onOk n (nI i) (nI j) (nI 3)) tS) ik cA tp td fm tt vl wr bO sO nU mV) := Eq.mp (congrArg (fun z => va_D _ z) hW) hD
          exact mu_iret (MW cI cJ A sS kS oS sS (okT (onOk n (nI i) (nI j) (nI 3)) tS) ik cA tp td fm tt vl wr bO sO nU mV) hx hb hr hlk hP hS rfl (⟨sS, congrArg (fun z => some (Value.int z)) (by simp [onR, onOk, okT, its, bump, put9, b2i, c5, c12, c24, ei, ej, eu, e33, i_lt, -Int32.not_le, -Int32.not_lt]), rfl⟩) dX4_on_56
      · replace c24 := (b2i_0 _).mp c24
        refine lv_aload_n hx hb dX4_on_27 rfl (lv_at hl 0 rfl) ?_
        refine lv_ldc (v := (-1000000001)) hx hb hown (hts _ wq_X4_44) dX4_on_28 ?_
        refine mu_W (w := (MW cI cJ A sS kS oS aS tS ik cA tp td fm tt vl wr bO sO nU mV)) (rest := []) S hK hP hD hS (k_X4_finds 0 (-1000000001) (by decide) (by decide)) gv_X4_63 hd_X4_finds ⟨Nat.le_of_ble_eq_true rfl, Nat.le_of_ble_eq_true rfl⟩ 4 rfl rfl rfl rfl hl.1 (lv_room (Nat.le_of_ble_eq_true rfl)) dX4_on_30 ⟨Nat.zero_le _, Nat.zero_le _⟩ (fun ov w' H locs hp hP hD hS => ?_)
        obtain ⟨rfl, rfl⟩ := hp
        refine W.eq (g2 := F0 m 33 ls [.int (-1000000001)]) rfl ?_
        have hE : upd tS 0 (tS 0 + 1) = okT (onOk n (nI i) (nI j) w) tS := by simp [onR, onOk, okT, its, bump, put9, b2i, c5, c12, c24, ei, ej, i_lt, -Int32.not_le, -Int32.not_lt]
        have hW : (MW cI cJ A sS kS oS aS (upd tS 0 (tS 0 + 1)) ik cA tp td fm tt vl wr bO sO nU mV) = (MW cI cJ A sS kS oS aS (okT (onOk n (nI i) (nI j) w) tS) ik cA tp td fm tt vl wr bO sO nU mV) := congrArg (fun z => (MW cI cJ A sS kS oS aS z ik cA tp td fm tt vl wr bO sO nU mV)) hE
        have hP : va_P D vwCl (MW cI cJ A sS kS oS aS (okT (onOk n (nI i) (nI j) w) tS) ik cA tp td fm tt vl wr bO sO nU mV) H := Eq.mp (congrArg (fun z => va_P D vwCl z H) hW) hP
        have hD : va_D _ (MW cI cJ A sS kS oS aS (okT (onOk n (nI i) (nI j) w) tS) ik cA tp td fm tt vl wr bO sO nU mV) := Eq.mp (congrArg (fun z => va_D _ z) hW) hD
        exact mu_iret (MW cI cJ A sS kS oS aS (okT (onOk n (nI i) (nI j) w) tS) ik cA tp td fm tt vl wr bO sO nU mV) hx hb hr hlk hP hS rfl (⟨aS, congrArg (fun z => some (Value.int z)) (by simp [onR, onOk, okT, its, bump, put9, b2i, c5, c12, c24, ei, ej, i_lt, -Int32.not_le, -Int32.not_lt]), rfl⟩) dX4_on_33

set_option maxHeartbeats 4000000 in
set_option maxRecDepth 100000 in
theorem k_X4_many (n : Nat) (k : Int32) (hI : Inv sS n) : MU l D (tyA cI cJ cO) yX4_many cX4_many 2 ((some .int)) 10 218 [.ref (A 0), .int k] (MW cI cJ A sS kS oS aS tS ik cA tp td fm tt vl wr bO sO nU mV) (fun ov w' => ∃ aS' : Nat → Int32, ov = some (.int (manyR sS n k)) ∧ w' = (MW cI cJ A sS kS oS aS' (okT (inI k 0 200) tS) ik cA tp td fm tt vl wr bO sO nU mV)) := by
  refine MU.mk (by decide) (Nat.le_of_ble_eq_true rfl) ?_
  intro p e s m below meth c ls S hr hlk hP hK hD hS hl
  have S : CallFix p m c cX4_many 2 s _ WL RX4 := S
  obtain ⟨hx, hb, hml, hown, hts⟩ := id S
  have hl : lv_has ls 2 [(0, .ref (A 0)), (1, .int k)] := hl
  refine lv_iload_n hx hb dX4_many_0 rfl (lv_at hl 1 rfl) ?_
  refine ro_S (w := []) (rest := []) S hK va_P0 (k_X4_isAhead k) gs_X4_180 hd_X4_isAhead ⟨Nat.le_of_ble_eq_true rfl, Nat.le_of_ble_eq_true rfl⟩ rfl hl.1 (lv_room (Nat.le_of_ble_eq_true rfl)) dX4_many_1 ⟨Nat.zero_le _, Nat.zero_le _⟩ ?_
  refine lv_if_eq (tgt := 15) hx hb dX4_many_4 rfl (fun c4 => ?_) (fun c4 => ?_)
  · replace c4 := (b2i_0 _).mp c4
    refine lv_aload_n hx hb dX4_many_15 rfl (lv_at hl 0 rfl) ?_
    refine lv_ldc (v := (-1000000001)) hx hb hown (hts _ wq_X4_44) dX4_many_16 ?_
    refine mu_W (w := (MW cI cJ A sS kS oS aS tS ik cA tp td fm tt vl wr bO sO nU mV)) (rest := []) S hK hP hD hS (k_X4_finds 0 (-1000000001) (by decide) (by decide)) gv_X4_63 hd_X4_finds ⟨Nat.le_of_ble_eq_true rfl, Nat.le_of_ble_eq_true rfl⟩ 4 rfl rfl rfl rfl hl.1 (lv_room (Nat.le_of_ble_eq_true rfl)) dX4_many_18 ⟨Nat.zero_le _, Nat.zero_le _⟩ (fun ov w' H locs hp hP hD hS => ?_)
    obtain ⟨rfl, rfl⟩ := hp
    refine W.eq (g2 := F0 m 21 ls [.int (-1000000001)]) rfl ?_
    have hE : upd tS 0 (tS 0 + 1) = okT (inI k 0 200) tS := by simp [manyR, okT, bump, put9, b2i, c4, i_lt, -Int32.not_le, -Int32.not_lt]
    have hW : (MW cI cJ A sS kS oS aS (upd tS 0 (tS 0 + 1)) ik cA tp td fm tt vl wr bO sO nU mV) = (MW cI cJ A sS kS oS aS (okT (inI k 0 200) tS) ik cA tp td fm tt vl wr bO sO nU mV) := congrArg (fun z => (MW cI cJ A sS kS oS aS z ik cA tp td fm tt vl wr bO sO nU mV)) hE
    have hP : va_P D vwCl (MW cI cJ A sS kS oS aS (okT (inI k 0 200) tS) ik cA tp td fm tt vl wr bO sO nU mV) H := Eq.mp (congrArg (fun z => va_P D vwCl z H) hW) hP
    have hD : va_D _ (MW cI cJ A sS kS oS aS (okT (inI k 0 200) tS) ik cA tp td fm tt vl wr bO sO nU mV) := Eq.mp (congrArg (fun z => va_D _ z) hW) hD
    exact mu_iret (MW cI cJ A sS kS oS aS (okT (inI k 0 200) tS) ik cA tp td fm tt vl wr bO sO nU mV) hx hb hr hlk hP hS rfl (⟨aS, congrArg (fun z => some (Value.int z)) (by simp [manyR, okT, bump, put9, b2i, c4, i_lt, -Int32.not_le, -Int32.not_lt]), rfl⟩) dX4_many_21
  · replace c4 := b2i_n0 c4
    obtain ⟨j, hja, hjb, rfl⟩ := in_nat (a := 0) (b := 200) (by decide) c4 (by decide)
    have ej : cl (nI j) = j := cl_nI (by omega)
    refine lv_aload_n hx hb dX4_many_7 rfl (lv_at hl 0 rfl) ?_
    refine lv_iload_n hx hb dX4_many_8 rfl (lv_at hl 1 rfl) ?_
    refine mu_W (w := (MW cI cJ A sS kS oS aS tS ik cA tp td fm tt vl wr bO sO nU mV)) (rest := []) S hK hP hD hS (k_X4_manyBehind n j hI (by omega)) gv_X4_190 hd_X4_manyBehind ⟨Nat.le_of_ble_eq_true rfl, Nat.le_of_ble_eq_true rfl⟩ 4 rfl rfl rfl rfl hl.1 (lv_room (Nat.le_of_ble_eq_true rfl)) dX4_many_9 ⟨Nat.zero_le _, Nat.zero_le _⟩ (fun ov w' H locs hp hP hD hS => ?_)
    obtain ⟨rfl, rfl⟩ := hp
    refine W.eq (g2 := F0 m 12 ls [.int (nI (contN (hoursF sS n j) n))]) rfl ?_
    refine lv_goto (tgt := 21) hx hb dX4_many_12 rfl ?_
    have hE : tS = okT (inI (nI j) 0 200) tS := by simp [manyR, okT, bump, put9, b2i, c4, ej, i_lt, -Int32.not_le, -Int32.not_lt]
    have hW : (MW cI cJ A sS kS oS sS tS ik cA tp td fm tt vl wr bO sO nU mV) = (MW cI cJ A sS kS oS sS (okT (inI (nI j) 0 200) tS) ik cA tp td fm tt vl wr bO sO nU mV) := congrArg (fun z => (MW cI cJ A sS kS oS sS z ik cA tp td fm tt vl wr bO sO nU mV)) hE
    have hP : va_P D vwCl (MW cI cJ A sS kS oS sS (okT (inI (nI j) 0 200) tS) ik cA tp td fm tt vl wr bO sO nU mV) H := Eq.mp (congrArg (fun z => va_P D vwCl z H) hW) hP
    have hD : va_D _ (MW cI cJ A sS kS oS sS (okT (inI (nI j) 0 200) tS) ik cA tp td fm tt vl wr bO sO nU mV) := Eq.mp (congrArg (fun z => va_D _ z) hW) hD
    exact mu_iret (MW cI cJ A sS kS oS sS (okT (inI (nI j) 0 200) tS) ik cA tp td fm tt vl wr bO sO nU mV) hx hb hr hlk hP hS rfl (⟨sS, congrArg (fun z => some (Value.int z)) (by simp [manyR, okT, bump, put9, b2i, c4, ej, i_lt, -Int32.not_le, -Int32.not_lt]), rfl⟩) dX4_many_21

set_option maxHeartbeats 4000000 in
set_option maxRecDepth 100000 in
theorem k_X4_count (n : Nat) (w : Int32) (hI : Inv sS n) : MU l D (tyA cI cJ cO) yX4_count cX4_count 2 ((some .int)) 3 66 [.ref (A 0), .int w] (MW cI cJ A sS kS oS aS tS ik cA tp td fm tt vl wr bO sO nU mV) (fun ov w' => ov = some (.int (countR sS n td w)) ∧ w' = (MW cI cJ A sS kS oS aS (countT tS w) ik cA tp td fm tt vl wr bO sO nU mV)) := by
  refine MU.mk (by decide) (Nat.le_of_ble_eq_true rfl) ?_
  intro p e s m below meth c ls S hr hlk hP hK hD hS hl
  have S : CallFix p m c cX4_count 2 s _ WL RX4 := S
  obtain ⟨hx, hb, hml, hown, hts⟩ := id S
  have hl : lv_has ls 2 [(0, .ref (A 0)), (1, .int w)] := hl
  have h8 : n ≤ 8 := hI.1
  refine lv_iload_n hx hb dX4_count_0 rfl (lv_at hl 1 rfl) ?_
  by_cases c1_0 : w = 0
  · refine lv_tableIn (tgt := 32) hx hb dX4_count_1 (by rw [c1_0]; decide) (by rw [c1_0]; decide) (by rw [c1_0]; rfl) rfl ?_
    refine lv_aload_n hx hb dX4_count_32 rfl (lv_at hl 0 rfl) ?_
    refine va_get (ci := 4) (v := .ref (A 1)) hx hb hts wx_X4 hown hK hP 0 rfl rfl 0 (by decide) (hts _ wf_X4_7) (fun _ h9 => h9) rfl dX4_count_33 ?_
    refine lv_iconst (v := 1) hx hb dX4_count_36 rfl ?_
    refine ia_ld hx hb hK hP 1 0 rfl rfl 1 (rfl) (by omega) (by decide) dX4_count_37 ?_
    refine w_i (z := nI n) (hI.2.1) ?_
    have hE : tS = countT tS w := by simp [countR, countT, bump, put9, b2i, c1_0, i_lt, -Int32.not_le, -Int32.not_lt]
    have hW : (MW cI cJ A sS kS oS aS tS ik cA tp td fm tt vl wr bO sO nU mV) = (MW cI cJ A sS kS oS aS (countT tS w) ik cA tp td fm tt vl wr bO sO nU mV) := congrArg (fun z => (MW cI cJ A sS kS oS aS z ik cA tp td fm tt vl wr bO sO nU mV)) hE
    have hP : va_P D vwCl (MW cI cJ A sS kS oS aS (countT tS w) ik cA tp td fm tt vl wr bO sO nU mV) s.heap := Eq.mp (congrArg (fun z => va_P D vwCl z s.heap) hW) hP
    have hD : va_D _ (MW cI cJ A sS kS oS aS (countT tS w) ik cA tp td fm tt vl wr bO sO nU mV) := Eq.mp (congrArg (fun z => va_D _ z) hW) hD
    exact mu_iret (MW cI cJ A sS kS oS aS (countT tS w) ik cA tp td fm tt vl wr bO sO nU mV) hx hb hr hlk hP hS rfl (⟨congrArg (fun z => some (Value.int z)) (by simp [countR, countT, bump, put9, b2i, c1_0, i_lt, -Int32.not_le, -Int32.not_lt]), rfl⟩) dX4_count_38
  by_cases c1_1 : w = 1
  · refine lv_tableIn (tgt := 39) hx hb dX4_count_1 (by rw [c1_1]; decide) (by rw [c1_1]; decide) (by rw [c1_1]; rfl) rfl ?_
    refine lv_aload_n hx hb dX4_count_39 rfl (lv_at hl 0 rfl) ?_
    refine va_get (ci := 4) (v := .int td) hx hb hts wx_X4 hown hK hP 0 rfl rfl 8 (by decide) (hts _ wf_X4_207) (fun _ h9 => h9) rfl dX4_count_40 ?_
    have hE : tS = countT tS w := by simp [countR, countT, bump, put9, b2i, c1_0, c1_1, i_lt, -Int32.not_le, -Int32.not_lt]
    have hW : (MW cI cJ A sS kS oS aS tS ik cA tp td fm tt vl wr bO sO nU mV) = (MW cI cJ A sS kS oS aS (countT tS w) ik cA tp td fm tt vl wr bO sO nU mV) := congrArg (fun z => (MW cI cJ A sS kS oS aS z ik cA tp td fm tt vl wr bO sO nU mV)) hE
    have hP : va_P D vwCl (MW cI cJ A sS kS oS aS (countT tS w) ik cA tp td fm tt vl wr bO sO nU mV) s.heap := Eq.mp (congrArg (fun z => va_P D vwCl z s.heap) hW) hP
    have hD : va_D _ (MW cI cJ A sS kS oS aS (countT tS w) ik cA tp td fm tt vl wr bO sO nU mV) := Eq.mp (congrArg (fun z => va_D _ z) hW) hD
    exact mu_iret (MW cI cJ A sS kS oS aS (countT tS w) ik cA tp td fm tt vl wr bO sO nU mV) hx hb hr hlk hP hS rfl (⟨congrArg (fun z => some (Value.int z)) (by simp [countR, countT, bump, put9, b2i, c1_0, c1_1, i_lt, -Int32.not_le, -Int32.not_lt]), rfl⟩) dX4_count_43
  by_cases c1_2 : w = 2
  · refine lv_tableIn (tgt := 44) hx hb dX4_count_1 (by rw [c1_2]; decide) (by rw [c1_2]; decide) (by rw [c1_2]; rfl) rfl ?_
    refine lv_aload_n hx hb dX4_count_44 rfl (lv_at hl 0 rfl) ?_
    refine lv_iconst (v := 4) hx hb dX4_count_45 rfl ?_
    refine ro_V (w := (MW cI cJ A sS kS oS aS tS ik cA tp td fm tt vl wr bO sO nU mV)) (rest := []) S hK hP (k_X4_together n 4 hI (by omega)) gv_X4_113 hd_X4_together ⟨Nat.le_of_ble_eq_true rfl, Nat.le_of_ble_eq_true rfl⟩ 4 rfl rfl rfl rfl hl.1 (lv_room (Nat.le_of_ble_eq_true rfl)) dX4_count_46 ⟨Nat.zero_le _, Nat.zero_le _⟩ ?_
    have hE : tS = countT tS w := by simp [countR, countT, bump, put9, b2i, c1_0, c1_1, c1_2, i_lt, -Int32.not_le, -Int32.not_lt]
    have hW : (MW cI cJ A sS kS oS aS tS ik cA tp td fm tt vl wr bO sO nU mV) = (MW cI cJ A sS kS oS aS (countT tS w) ik cA tp td fm tt vl wr bO sO nU mV) := congrArg (fun z => (MW cI cJ A sS kS oS aS z ik cA tp td fm tt vl wr bO sO nU mV)) hE
    have hP : va_P D vwCl (MW cI cJ A sS kS oS aS (countT tS w) ik cA tp td fm tt vl wr bO sO nU mV) s.heap := Eq.mp (congrArg (fun z => va_P D vwCl z s.heap) hW) hP
    have hD : va_D _ (MW cI cJ A sS kS oS aS (countT tS w) ik cA tp td fm tt vl wr bO sO nU mV) := Eq.mp (congrArg (fun z => va_D _ z) hW) hD
    exact mu_iret (MW cI cJ A sS kS oS aS (countT tS w) ik cA tp td fm tt vl wr bO sO nU mV) hx hb hr hlk hP hS rfl (⟨congrArg (fun z => some (Value.int z)) (by simp [countR, countT, bump, put9, b2i, c1_0, c1_1, c1_2, i_lt, -Int32.not_le, -Int32.not_lt]), rfl⟩) dX4_count_49
  by_cases c1_3 : w = 3
  · refine lv_tableIn (tgt := 50) hx hb dX4_count_1 (by rw [c1_3]; decide) (by rw [c1_3]; decide) (by rw [c1_3]; rfl) rfl ?_
    refine lv_aload_n hx hb dX4_count_50 rfl (lv_at hl 0 rfl) ?_
    refine lv_iconst (v := 3) hx hb dX4_count_51 rfl ?_
    refine ro_V (w := (MW cI cJ A sS kS oS aS tS ik cA tp td fm tt vl wr bO sO nU mV)) (rest := []) S hK hP (k_X4_together n 3 hI (by omega)) gv_X4_113 hd_X4_together ⟨Nat.le_of_ble_eq_true rfl, Nat.le_of_ble_eq_true rfl⟩ 4 rfl rfl rfl rfl hl.1 (lv_room (Nat.le_of_ble_eq_true rfl)) dX4_count_52 ⟨Nat.zero_le _, Nat.zero_le _⟩ ?_
    have hE : tS = countT tS w := by simp [countR, countT, bump, put9, b2i, c1_0, c1_1, c1_2, c1_3, i_lt, -Int32.not_le, -Int32.not_lt]
    have hW : (MW cI cJ A sS kS oS aS tS ik cA tp td fm tt vl wr bO sO nU mV) = (MW cI cJ A sS kS oS aS (countT tS w) ik cA tp td fm tt vl wr bO sO nU mV) := congrArg (fun z => (MW cI cJ A sS kS oS aS z ik cA tp td fm tt vl wr bO sO nU mV)) hE
    have hP : va_P D vwCl (MW cI cJ A sS kS oS aS (countT tS w) ik cA tp td fm tt vl wr bO sO nU mV) s.heap := Eq.mp (congrArg (fun z => va_P D vwCl z s.heap) hW) hP
    have hD : va_D _ (MW cI cJ A sS kS oS aS (countT tS w) ik cA tp td fm tt vl wr bO sO nU mV) := Eq.mp (congrArg (fun z => va_D _ z) hW) hD
    exact mu_iret (MW cI cJ A sS kS oS aS (countT tS w) ik cA tp td fm tt vl wr bO sO nU mV) hx hb hr hlk hP hS rfl (⟨congrArg (fun z => some (Value.int z)) (by simp [countR, countT, bump, put9, b2i, c1_0, c1_1, c1_2, c1_3, i_lt, -Int32.not_le, -Int32.not_lt]), rfl⟩) dX4_count_55
  refine lv_tableOut (tgt := 56) hx hb dX4_count_1 (by have q0 := lv_neT c1_0 (a := 0) rfl; have q1 := lv_neT c1_1 (a := 1) rfl; have q2 := lv_neT c1_2 (a := 2) rfl; have q3 := lv_neT c1_3 (a := 3) rfl; omega) rfl ?_
  refine lv_aload_n hx hb dX4_count_56 rfl (lv_at hl 0 rfl) ?_
  refine lv_ldc (v := (-1000000001)) hx hb hown (hts _ wq_X4_44) dX4_count_57 ?_
  refine mu_W (w := (MW cI cJ A sS kS oS aS tS ik cA tp td fm tt vl wr bO sO nU mV)) (rest := []) S hK hP hD hS (k_X4_finds 0 (-1000000001) (by decide) (by decide)) gv_X4_63 hd_X4_finds ⟨Nat.le_of_ble_eq_true rfl, Nat.le_of_ble_eq_true rfl⟩ 4 rfl rfl rfl rfl hl.1 (lv_room (Nat.le_of_ble_eq_true rfl)) dX4_count_59 ⟨Nat.zero_le _, Nat.zero_le _⟩ (fun ov w' H locs hp hP hD hS => ?_)
  obtain ⟨rfl, rfl⟩ := hp
  refine W.eq (g2 := F0 m 62 ls [.int (-1000000001)]) rfl ?_
  have hE : upd tS 0 (tS 0 + 1) = countT tS w := by simp [countR, countT, bump, put9, b2i, c1_0, c1_1, c1_2, c1_3, i_lt, -Int32.not_le, -Int32.not_lt]
  have hW : (MW cI cJ A sS kS oS aS (upd tS 0 (tS 0 + 1)) ik cA tp td fm tt vl wr bO sO nU mV) = (MW cI cJ A sS kS oS aS (countT tS w) ik cA tp td fm tt vl wr bO sO nU mV) := congrArg (fun z => (MW cI cJ A sS kS oS aS z ik cA tp td fm tt vl wr bO sO nU mV)) hE
  have hP : va_P D vwCl (MW cI cJ A sS kS oS aS (countT tS w) ik cA tp td fm tt vl wr bO sO nU mV) H := Eq.mp (congrArg (fun z => va_P D vwCl z H) hW) hP
  have hD : va_D _ (MW cI cJ A sS kS oS aS (countT tS w) ik cA tp td fm tt vl wr bO sO nU mV) := Eq.mp (congrArg (fun z => va_D _ z) hW) hD
  exact mu_iret (MW cI cJ A sS kS oS aS (countT tS w) ik cA tp td fm tt vl wr bO sO nU mV) hx hb hr hlk hP hS rfl (⟨congrArg (fun z => some (Value.int z)) (by simp [countR, countT, bump, put9, b2i, c1_0, c1_1, c1_2, c1_3, i_lt, -Int32.not_le, -Int32.not_lt]), rfl⟩) dX4_count_62

set_option maxHeartbeats 4000000 in
set_option maxRecDepth 100000 in
theorem k_X4_status (w : Int32) : MU l D (tyA cI cJ cO) yX4_status cX4_status 4 ((some .int)) 1 25 [.ref (A 0), .int w] (MW cI cJ A sS kS oS aS tS ik cA tp td fm tt vl wr bO sO nU mV) (fun ov w' => ov = some (.int (statR tS w)) ∧ w' = (MW cI cJ A sS kS oS aS (okT (inI w (-1) 6) tS) ik cA tp td fm tt vl wr bO sO nU mV)) := by
  refine MU.mk (by decide) (Nat.le_of_ble_eq_true rfl) ?_
  intro p e s m below meth c ls S hr hlk hP hK hD hS hl
  have S : CallFix p m c cX4_status 4 s _ WL RX4 := S
  obtain ⟨hx, hb, hml, hown, hts⟩ := id S
  have hl : lv_has ls 4 [(0, .ref (A 0)), (1, .int w)] := hl
  refine lv_iload_n hx hb dX4_status_0 rfl (lv_at hl 1 rfl) ?_
  refine lv_i2l hx hb dX4_status_1 rfl ?_
  refine lv_ldc2 (v := (-1)) hx hb hown (hts _ wq_X4_340) dX4_status_2 ?_
  refine lv_ldc2 (v := 6) hx hb hown (hts _ wq_X4_342) dX4_status_5 ?_
  refine ro_S (w := []) (rest := []) S hK va_P0 (k_X4_inI w (-1) 6 _ _ (by decide) (by decide)) gs_X4_49 hd_X4_in ⟨Nat.le_of_ble_eq_true rfl, Nat.le_of_ble_eq_true rfl⟩ rfl hl.1 (lv_room (Nat.le_of_ble_eq_true rfl)) dX4_status_8 ⟨Nat.zero_le _, Nat.zero_le _⟩ ?_
  refine lv_if_ne (tgt := 21) hx hb dX4_status_11 rfl (fun c11 => ?_) (fun c11 => ?_)
  · replace c11 := b2i_n0 c11
    refine lv_iconst (v := 0) hx hb dX4_status_21 rfl ?_
    refine lv_istore_n (lv' := [(2, .int 0), (0, .ref (A 0)), (1, .int w)]) hx hb dX4_status_22 rfl hl (by decide) rfl (fun ls hl => ?_)
    refine lv_iconst (v := 0) hx hb dX4_status_23 rfl ?_
    refine lv_istore_n (lv' := [(3, .int 0), (2, .int 0), (0, .ref (A 0)), (1, .int w)]) hx hb dX4_status_24 rfl hl (by decide) rfl (fun ls hl => ?_)
    refine w_loopH (pc := 25) (st := fun (i : Nat) => []) (μ := fun (i : Nat) => 7 - i) (I := fun (i : Nat) H locs ls => (i ≤ 7) ∧ va_P D vwCl (MW cI cJ A sS kS oS aS tS ik cA tp td fm tt vl wr bO sO nU mV) H ∧ va_D (fun z9 => z9 ∈ ((MW cI cJ A sS kS oS aS tS ik cA tp td fm tt vl wr bO sO nU mV)).map (fun z8 => z8.1)) (MW cI cJ A sS kS oS aS tS ik cA tp td fm tt vl wr bO sO nU mV) ∧ va_S (fun z9 => z9 ∈ ((MW cI cJ A sS kS oS aS tS ik cA tp td fm tt vl wr bO sO nU mV)).map (fun z8 => z8.1)) s.heap H locs ∧ lv_has ls 4 [(0, .ref (A 0)), (1, .int w), (2, .int (sumF (statP tS w) i)), (3, .int (nI i))]) ?_ (0) ⟨Nat.zero_le _, hP, hD, hS, lv_sub hl [2, 3, 1, 0] rfl⟩
    rintro i H locs ls ⟨hi, hP, hD, hS, hl⟩ ih25
    try dsimp only at ih25 ⊢
    refine lv_iload_n hx hb dX4_status_25 rfl (lv_at hl 3 rfl) ?_
    refine lv_bipush (v := 7) hx hb dX4_status_26 rfl ?_
    refine lv_icmp_ge (tgt := 59) hx hb dX4_status_28 rfl (fun c28 => ?_) (fun c28 => ?_)
    · replace c28 := nq_le (a := 7) (b := i) (by omega) (by omega) c28
      obtain rfl : i = 7 := by omega
      refine lv_iload_n hx hb dX4_status_59 rfl (lv_at hl 2 rfl) ?_
      have hE : tS = okT (inI w (-1) 6) tS := by simp [statR, okT, bump, put9, b2i, c11, c28, i_lt, -Int32.not_le, -Int32.not_lt]
      have hW : (MW cI cJ A sS kS oS aS tS ik cA tp td fm tt vl wr bO sO nU mV) = (MW cI cJ A sS kS oS aS (okT (inI w (-1) 6) tS) ik cA tp td fm tt vl wr bO sO nU mV) := congrArg (fun z => (MW cI cJ A sS kS oS aS z ik cA tp td fm tt vl wr bO sO nU mV)) hE
      have hP : va_P D vwCl (MW cI cJ A sS kS oS aS (okT (inI w (-1) 6) tS) ik cA tp td fm tt vl wr bO sO nU mV) H := Eq.mp (congrArg (fun z => va_P D vwCl z H) hW) hP
      have hD : va_D _ (MW cI cJ A sS kS oS aS (okT (inI w (-1) 6) tS) ik cA tp td fm tt vl wr bO sO nU mV) := Eq.mp (congrArg (fun z => va_D _ z) hW) hD
      exact mu_iret (MW cI cJ A sS kS oS aS (okT (inI w (-1) 6) tS) ik cA tp td fm tt vl wr bO sO nU mV) hx hb hr hlk hP hS rfl (⟨congrArg (fun z => some (Value.int z)) (by simp [statR, okT, bump, put9, b2i, c11, c28, i_lt, -Int32.not_le, -Int32.not_lt]), rfl⟩) dX4_status_60
    · replace c28 := nq_nle (a := 7) (b := i) (by omega) (by omega) c28
      refine lv_iload_n hx hb dX4_status_31 rfl (lv_at hl 2 rfl) ?_
      refine lv_iload_n hx hb dX4_status_32 rfl (lv_at hl 1 rfl) ?_
      refine lv_if_lt (tgt := 41) hx hb dX4_status_33 rfl (fun c33 => ?_) (fun c33 => ?_)
      · replace c33 := Int32.not_le.mpr c33
        refine lv_aload_n hx hb dX4_status_41 rfl (lv_at hl 0 rfl) ?_
        refine va_get (ci := 4) (v := .ref (A 5)) hx hb hts wx_X4 hown hK hP 0 rfl rfl 4 (by decide) (hts _ wf_X4_22) (fun _ h9 => h9) rfl dX4_status_42 ?_
        refine lv_iload_n hx hb dX4_status_45 rfl (lv_at hl 3 rfl) ?_
        refine ia_ld hx hb hK hP 5 0 rfl rfl i (rfl) (by omega) (by decide) dX4_status_46 ?_
        refine lv_goto (tgt := 51) hx hb dX4_status_47 rfl ?_
        refine lv_iadd hx hb dX4_status_51 ?_
        refine w_i (z := sumF (statP tS w) (i + 1)) (by simp [sumF, statP, i_lt, -Int32.not_le, -Int32.not_lt, c11, c28, c33]) ?_
        refine lv_istore_n (lv' := [(2, .int (sumF (statP tS w) (i + 1))), (0, .ref (A 0)), (1, .int w), (3, .int (nI i))]) hx hb dX4_status_52 rfl hl (by decide) rfl (fun ls hl => ?_)
        refine lv_iinc (v := nI (i + 1)) (lv' := [(3, .int (nI (i + 1))), (2, .int (sumF (statP tS w) (i + 1))), (0, .ref (A 0)), (1, .int w)]) hx hb dX4_status_53 hl (k := 3) rfl (nI_inc _) (by decide) rfl (fun ls hl => ?_)
        refine lv_goto (tgt := 25) hx hb dX4_status_56 rfl ?_
        exact ih25 (i + 1) _ _ ls (by first | omega | (dsimp only; omega)) ⟨(by omega), hP, hD, hS, lv_sub hl [2, 3, 1, 0] rfl⟩
      · replace c33 := Int32.not_lt.mp c33
        refine lv_iload_n hx hb dX4_status_36 rfl (lv_at hl 3 rfl) ?_
        refine lv_iload_n hx hb dX4_status_37 rfl (lv_at hl 1 rfl) ?_
        refine lv_icmp_ne (tgt := 50) hx hb dX4_status_38 rfl (fun c38 => ?_) (fun c38 => ?_)
        · refine lv_iconst (v := 0) hx hb dX4_status_50 rfl ?_
          refine lv_iadd hx hb dX4_status_51 ?_
          refine w_i (z := sumF (statP tS w) (i + 1)) (by simp [sumF, statP, i_lt, -Int32.not_le, -Int32.not_lt, c11, c28, c33, c38]) ?_
          refine lv_istore_n (lv' := [(2, .int (sumF (statP tS w) (i + 1))), (0, .ref (A 0)), (1, .int w), (3, .int (nI i))]) hx hb dX4_status_52 rfl hl (by decide) rfl (fun ls hl => ?_)
          refine lv_iinc (v := nI (i + 1)) (lv' := [(3, .int (nI (i + 1))), (2, .int (sumF (statP tS w) (i + 1))), (0, .ref (A 0)), (1, .int w)]) hx hb dX4_status_53 hl (k := 3) rfl (nI_inc _) (by decide) rfl (fun ls hl => ?_)
          refine lv_goto (tgt := 25) hx hb dX4_status_56 rfl ?_
          exact ih25 (i + 1) _ _ ls (by first | omega | (dsimp only; omega)) ⟨(by omega), hP, hD, hS, lv_sub hl [2, 3, 1, 0] rfl⟩
        · refine lv_aload_n hx hb dX4_status_41 rfl (lv_at hl 0 rfl) ?_
          refine va_get (ci := 4) (v := .ref (A 5)) hx hb hts wx_X4 hown hK hP 0 rfl rfl 4 (by decide) (hts _ wf_X4_22) (fun _ h9 => h9) rfl dX4_status_42 ?_
          refine lv_iload_n hx hb dX4_status_45 rfl (lv_at hl 3 rfl) ?_
          refine ia_ld hx hb hK hP 5 0 rfl rfl i (rfl) (by omega) (by decide) dX4_status_46 ?_
          refine lv_goto (tgt := 51) hx hb dX4_status_47 rfl ?_
          refine lv_iadd hx hb dX4_status_51 ?_
          refine w_i (z := sumF (statP tS w) (i + 1)) (by simp [sumF, statP, i_lt, -Int32.not_le, -Int32.not_lt, c11, c28, c33, c38]) ?_
          refine lv_istore_n (lv' := [(2, .int (sumF (statP tS w) (i + 1))), (0, .ref (A 0)), (1, .int w), (3, .int (nI i))]) hx hb dX4_status_52 rfl hl (by decide) rfl (fun ls hl => ?_)
          refine lv_iinc (v := nI (i + 1)) (lv' := [(3, .int (nI (i + 1))), (2, .int (sumF (statP tS w) (i + 1))), (0, .ref (A 0)), (1, .int w)]) hx hb dX4_status_53 hl (k := 3) rfl (nI_inc _) (by decide) rfl (fun ls hl => ?_)
          refine lv_goto (tgt := 25) hx hb dX4_status_56 rfl ?_
          exact ih25 (i + 1) _ _ ls (by first | omega | (dsimp only; omega)) ⟨(by omega), hP, hD, hS, lv_sub hl [2, 3, 1, 0] rfl⟩
  · replace c11 := (b2i_0 _).mp c11
    refine lv_aload_n hx hb dX4_status_14 rfl (lv_at hl 0 rfl) ?_
    refine lv_ldc (v := (-1000000001)) hx hb hown (hts _ wq_X4_44) dX4_status_15 ?_
    refine mu_W (w := (MW cI cJ A sS kS oS aS tS ik cA tp td fm tt vl wr bO sO nU mV)) (rest := []) S hK hP hD hS (k_X4_finds 0 (-1000000001) (by decide) (by decide)) gv_X4_63 hd_X4_finds ⟨Nat.le_of_ble_eq_true rfl, Nat.le_of_ble_eq_true rfl⟩ 4 rfl rfl rfl rfl hl.1 (lv_room (Nat.le_of_ble_eq_true rfl)) dX4_status_17 ⟨Nat.zero_le _, Nat.zero_le _⟩ (fun ov w' H locs hp hP hD hS => ?_)
    obtain ⟨rfl, rfl⟩ := hp
    refine W.eq (g2 := F0 m 20 ls [.int (-1000000001)]) rfl ?_
    have hE : upd tS 0 (tS 0 + 1) = okT (inI w (-1) 6) tS := by simp [statR, okT, bump, put9, b2i, c11, i_lt, -Int32.not_le, -Int32.not_lt]
    have hW : (MW cI cJ A sS kS oS aS (upd tS 0 (tS 0 + 1)) ik cA tp td fm tt vl wr bO sO nU mV) = (MW cI cJ A sS kS oS aS (okT (inI w (-1) 6) tS) ik cA tp td fm tt vl wr bO sO nU mV) := congrArg (fun z => (MW cI cJ A sS kS oS aS z ik cA tp td fm tt vl wr bO sO nU mV)) hE
    have hP : va_P D vwCl (MW cI cJ A sS kS oS aS (okT (inI w (-1) 6) tS) ik cA tp td fm tt vl wr bO sO nU mV) H := Eq.mp (congrArg (fun z => va_P D vwCl z H) hW) hP
    have hD : va_D _ (MW cI cJ A sS kS oS aS (okT (inI w (-1) 6) tS) ik cA tp td fm tt vl wr bO sO nU mV) := Eq.mp (congrArg (fun z => va_D _ z) hW) hD
    exact mu_iret (MW cI cJ A sS kS oS aS (okT (inI w (-1) 6) tS) ik cA tp td fm tt vl wr bO sO nU mV) hx hb hr hlk hP hS rfl (⟨congrArg (fun z => some (Value.int z)) (by simp [statR, okT, bump, put9, b2i, c11, i_lt, -Int32.not_le, -Int32.not_lt]), rfl⟩) dX4_status_20

set_option maxHeartbeats 4000000 in
set_option maxRecDepth 100000 in
theorem k_X4_image : MU l D (tyA cI cJ cO) yX4_image cX4_image 2 ((some .int)) 0 0 [.ref (A 0)] (MW cI cJ A sS kS oS aS tS ik cA tp td fm tt vl wr bO sO nU mV) (fun ov w' => ov = some (.int 1) ∧ w' = (MW cI cJ A sS sS oS aS tS 1 cA tp td fm tt vl wr bO sO nU mV)) := by
  refine MU.mk (by decide) (Nat.le_of_ble_eq_true rfl) ?_
  intro p e s m below meth c ls S hr hlk hP hK hD hS hl
  have S : CallFix p m c cX4_image 2 s _ WL RX4 := S
  obtain ⟨hx, hb, hml, hown, hts⟩ := id S
  have hl : lv_has ls 2 [(0, .ref (A 0))] := hl
  refine lv_iconst (v := 0) hx hb dX4_image_0 rfl ?_
  have hE : kS = fillF sS kS 0 := fillF_0 _ _
  have hW : (MW cI cJ A sS kS oS aS tS ik cA tp td fm tt vl wr bO sO nU mV) = (MW cI cJ A sS (fillF sS kS 0) oS aS tS ik cA tp td fm tt vl wr bO sO nU mV) := congrArg (fun z => (MW cI cJ A sS z oS aS tS ik cA tp td fm tt vl wr bO sO nU mV)) hE
  have hP : va_P D vwCl (MW cI cJ A sS (fillF sS kS 0) oS aS tS ik cA tp td fm tt vl wr bO sO nU mV) s.heap := Eq.mp (congrArg (fun z => va_P D vwCl z s.heap) hW) hP
  have hD : va_D _ (MW cI cJ A sS (fillF sS kS 0) oS aS tS ik cA tp td fm tt vl wr bO sO nU mV) := Eq.mp (congrArg (fun z => va_D _ z) hW) hD
  refine lv_istore_n (lv' := [(1, .int 0), (0, .ref (A 0))]) hx hb dX4_image_1 rfl hl (by decide) rfl (fun ls hl => ?_)
  refine w_loopH (pc := 2) (st := fun (i : Nat) => []) (μ := fun (i : Nat) => 75 - i) (I := fun (i : Nat) H locs ls => (i ≤ 75) ∧ va_P D vwCl (MW cI cJ A sS (fillF sS kS i) oS aS tS ik cA tp td fm tt vl wr bO sO nU mV) H ∧ va_D (fun z9 => z9 ∈ ((MW cI cJ A sS kS oS aS tS ik cA tp td fm tt vl wr bO sO nU mV)).map (fun z8 => z8.1)) (MW cI cJ A sS (fillF sS kS i) oS aS tS ik cA tp td fm tt vl wr bO sO nU mV) ∧ va_S (fun z9 => z9 ∈ ((MW cI cJ A sS kS oS aS tS ik cA tp td fm tt vl wr bO sO nU mV)).map (fun z8 => z8.1)) s.heap H locs ∧ lv_has ls 2 [(0, .ref (A 0)), (1, .int (nI i))]) ?_ (0) ⟨Nat.zero_le _, hP, hD, hS, lv_sub hl [1, 0] rfl⟩
  rintro i H locs ls ⟨hi, hP, hD, hS, hl⟩ ih2
  try dsimp only at ih2 ⊢
  refine lv_iload_n hx hb dX4_image_2 rfl (lv_at hl 1 rfl) ?_
  refine lv_bipush (v := 75) hx hb dX4_image_3 rfl ?_
  refine lv_icmp_ge (tgt := 26) hx hb dX4_image_5 rfl (fun c5 => ?_) (fun c5 => ?_)
  · replace c5 := nq_le (a := 75) (b := i) (by omega) (by omega) c5
    have hP : va_P D vwCl (MW cI cJ A sS sS oS aS tS ik cA tp td fm tt vl wr bO sO nU mV) H := hP.fi 2 sS rfl (fun j hj => fillF_in (by omega))
    have hD : va_D _ (MW cI cJ A sS sS oS aS tS ik cA tp td fm tt vl wr bO sO nU mV) := hD.addr rfl
    refine lv_aload_n hx hb dX4_image_26 rfl (lv_at hl 0 rfl) ?_
    refine lv_iconst (v := 1) hx hb dX4_image_27 rfl ?_
    refine va_put (ci := 4) (v := .int 1) (ty := tyX4 5) hx hb hts wx_X4 tyX4 tyX4_ok nmX4 hown hK hP hD hS 0 rfl rfl 5 (by decide) (hts _ wf_X4_337) (fun _ h9 => h9) rfl (tyX4_ok 5 (by decide)) rfl rfl (Nat.le_of_ble_eq_true rfl) dX4_image_28 (fun H locs hP hD hS => ?_)
    have hP : va_P D vwCl (MW cI cJ A sS sS oS aS tS 1 cA tp td fm tt vl wr bO sO nU mV) H := hP
    have hD : va_D _ (MW cI cJ A sS sS oS aS tS 1 cA tp td fm tt vl wr bO sO nU mV) := hD
    refine lv_iconst (v := 1) hx hb dX4_image_31 rfl ?_
    exact mu_iret (MW cI cJ A sS sS oS aS tS 1 cA tp td fm tt vl wr bO sO nU mV) hx hb hr hlk hP hS rfl (⟨rfl, rfl⟩) dX4_image_32
  · replace c5 := nq_nle (a := 75) (b := i) (by omega) (by omega) c5
    refine lv_aload_n hx hb dX4_image_8 rfl (lv_at hl 0 rfl) ?_
    refine va_get (ci := 4) (v := .ref (A 2)) hx hb hts wx_X4 hown hK hP 0 rfl rfl 1 (by decide) (hts _ wf_X4_13) (fun _ h9 => h9) rfl dX4_image_9 ?_
    refine lv_iload_n hx hb dX4_image_12 rfl (lv_at hl 1 rfl) ?_
    refine lv_aload_n hx hb dX4_image_13 rfl (lv_at hl 0 rfl) ?_
    refine va_get (ci := 4) (v := .ref (A 1)) hx hb hts wx_X4 hown hK hP 0 rfl rfl 0 (by decide) (hts _ wf_X4_7) (fun _ h9 => h9) rfl dX4_image_14 ?_
    refine lv_iload_n hx hb dX4_image_17 rfl (lv_at hl 1 rfl) ?_
    refine ia_ld hx hb hK hP 1 0 rfl rfl i (rfl) (by omega) (by decide) dX4_image_18 ?_
    refine ia_st hx hb hK hP hD hS 2 0 rfl rfl i (rfl) (by omega) (by decide) dX4_image_19 (fun H locs hP hD hS => ?_)
    have hP : va_P D vwCl (MW cI cJ A sS (upd (fillF sS kS i) i (sS i)) oS aS tS ik cA tp td fm tt vl wr bO sO nU mV) H := hP
    have hD : va_D _ (MW cI cJ A sS (upd (fillF sS kS i) i (sS i)) oS aS tS ik cA tp td fm tt vl wr bO sO nU mV) := hD
    have hE : upd (fillF sS kS i) i (sS i) = fillF sS kS (i + 1) := fillF_s _ _ _
    have hW : (MW cI cJ A sS (upd (fillF sS kS i) i (sS i)) oS aS tS ik cA tp td fm tt vl wr bO sO nU mV) = (MW cI cJ A sS (fillF sS kS (i + 1)) oS aS tS ik cA tp td fm tt vl wr bO sO nU mV) := congrArg (fun z => (MW cI cJ A sS z oS aS tS ik cA tp td fm tt vl wr bO sO nU mV)) hE
    have hP : va_P D vwCl (MW cI cJ A sS (fillF sS kS (i + 1)) oS aS tS ik cA tp td fm tt vl wr bO sO nU mV) H := Eq.mp (congrArg (fun z => va_P D vwCl z H) hW) hP
    have hD : va_D _ (MW cI cJ A sS (fillF sS kS (i + 1)) oS aS tS ik cA tp td fm tt vl wr bO sO nU mV) := Eq.mp (congrArg (fun z => va_D _ z) hW) hD
    refine lv_iinc (v := nI (i + 1)) (lv' := [(1, .int (nI (i + 1))), (0, .ref (A 0))]) hx hb dX4_image_20 hl (k := 1) rfl (nI_inc _) (by decide) rfl (fun ls hl => ?_)
    refine lv_goto (tgt := 2) hx hb dX4_image_23 rfl ?_
    exact ih2 (i + 1) _ _ ls (by first | omega | (dsimp only; omega)) ⟨(by omega), hP, hD, hS, lv_sub hl [1, 0] rfl⟩

set_option maxHeartbeats 4000000 in
set_option maxRecDepth 100000 in
theorem k_X4_undo (ib : Bool) : MU l D (tyA cI cJ cO) yX4_undo cX4_undo 2 ((some .int)) 1 21 [.ref (A 0)] (MW cI cJ A sS kS oS aS tS (b2i ib) cA tp td fm tt vl wr bO sO nU mV) (fun ov w' => ov = some (.int (undoR kS ib)) ∧ w' = (MW cI cJ A (undoG sS kS ib) kS oS aS (undoT tS ib) (b2i ib) cA tp td fm tt vl wr bO sO nU mV)) := by
  refine MU.mk (by decide) (Nat.le_of_ble_eq_true rfl) ?_
  intro p e s m below meth c ls S hr hlk hP hK hD hS hl
  have S : CallFix p m c cX4_undo 2 s _ WL RX4 := S
  obtain ⟨hx, hb, hml, hown, hts⟩ := id S
  have hl : lv_has ls 2 [(0, .ref (A 0))] := hl
  refine lv_aload_n hx hb dX4_undo_0 rfl (lv_at hl 0 rfl) ?_
  refine va_get (ci := 4) (v := .int (b2i ib)) hx hb hts wx_X4 hown hK hP 0 rfl rfl 5 (by decide) (hts _ wf_X4_337) (fun _ h9 => h9) rfl dX4_undo_1 ?_
  refine lv_if_ne (tgt := 14) hx hb dX4_undo_4 rfl (fun c4 => ?_) (fun c4 => ?_)
  · replace c4 := b2i_n0 c4
    refine lv_iconst (v := 0) hx hb dX4_undo_14 rfl ?_
    have hE : sS = fillF kS sS 0 := fillF_0 _ _
    have hW : (MW cI cJ A sS kS oS aS tS (b2i ib) cA tp td fm tt vl wr bO sO nU mV) = (MW cI cJ A (fillF kS sS 0) kS oS aS tS (b2i ib) cA tp td fm tt vl wr bO sO nU mV) := congrArg (fun z => (MW cI cJ A z kS oS aS tS (b2i ib) cA tp td fm tt vl wr bO sO nU mV)) hE
    have hP : va_P D vwCl (MW cI cJ A (fillF kS sS 0) kS oS aS tS (b2i ib) cA tp td fm tt vl wr bO sO nU mV) s.heap := Eq.mp (congrArg (fun z => va_P D vwCl z s.heap) hW) hP
    have hD : va_D _ (MW cI cJ A (fillF kS sS 0) kS oS aS tS (b2i ib) cA tp td fm tt vl wr bO sO nU mV) := Eq.mp (congrArg (fun z => va_D _ z) hW) hD
    refine lv_istore_n (lv' := [(1, .int 0), (0, .ref (A 0))]) hx hb dX4_undo_15 rfl hl (by decide) rfl (fun ls hl => ?_)
    refine w_loopH (pc := 16) (st := fun (i : Nat) => []) (μ := fun (i : Nat) => 75 - i) (I := fun (i : Nat) H locs ls => (i ≤ 75) ∧ va_P D vwCl (MW cI cJ A (fillF kS sS i) kS oS aS tS (b2i ib) cA tp td fm tt vl wr bO sO nU mV) H ∧ va_D (fun z9 => z9 ∈ ((MW cI cJ A sS kS oS aS tS (b2i ib) cA tp td fm tt vl wr bO sO nU mV)).map (fun z8 => z8.1)) (MW cI cJ A (fillF kS sS i) kS oS aS tS (b2i ib) cA tp td fm tt vl wr bO sO nU mV) ∧ va_S (fun z9 => z9 ∈ ((MW cI cJ A sS kS oS aS tS (b2i ib) cA tp td fm tt vl wr bO sO nU mV)).map (fun z8 => z8.1)) s.heap H locs ∧ lv_has ls 2 [(0, .ref (A 0)), (1, .int (nI i))]) ?_ (0) ⟨Nat.zero_le _, hP, hD, hS, lv_sub hl [1, 0] rfl⟩
    rintro i H locs ls ⟨hi, hP, hD, hS, hl⟩ ih16
    try dsimp only at ih16 ⊢
    refine lv_iload_n hx hb dX4_undo_16 rfl (lv_at hl 1 rfl) ?_
    refine lv_bipush (v := 75) hx hb dX4_undo_17 rfl ?_
    refine lv_icmp_ge (tgt := 40) hx hb dX4_undo_19 rfl (fun c19 => ?_) (fun c19 => ?_)
    · replace c19 := nq_le (a := 75) (b := i) (by omega) (by omega) c19
      have hP : va_P D vwCl (MW cI cJ A kS kS oS aS tS (b2i ib) cA tp td fm tt vl wr bO sO nU mV) H := hP.fi 1 kS rfl (fun j hj => fillF_in (by omega))
      have hD : va_D _ (MW cI cJ A kS kS oS aS tS (b2i ib) cA tp td fm tt vl wr bO sO nU mV) := hD.addr rfl
      refine lv_aload_n hx hb dX4_undo_40 rfl (lv_at hl 0 rfl) ?_
      refine va_get (ci := 4) (v := .ref (A 1)) hx hb hts wx_X4 hown hK hP 0 rfl rfl 0 (by decide) (hts _ wf_X4_7) (fun _ h9 => h9) rfl dX4_undo_41 ?_
      refine lv_iconst (v := 1) hx hb dX4_undo_44 rfl ?_
      refine ia_ld hx hb hK hP 1 0 rfl rfl 1 (rfl) (by omega) (by decide) dX4_undo_45 ?_
      have hE : kS = undoG sS kS ib := by simp [undoR, undoG, undoT, bump, put9, b2i, c4, c19, i_lt, -Int32.not_le, -Int32.not_lt]
      have hW : (MW cI cJ A kS kS oS aS tS (b2i ib) cA tp td fm tt vl wr bO sO nU mV) = (MW cI cJ A (undoG sS kS ib) kS oS aS tS (b2i ib) cA tp td fm tt vl wr bO sO nU mV) := congrArg (fun z => (MW cI cJ A z kS oS aS tS (b2i ib) cA tp td fm tt vl wr bO sO nU mV)) hE
      have hP : va_P D vwCl (MW cI cJ A (undoG sS kS ib) kS oS aS tS (b2i ib) cA tp td fm tt vl wr bO sO nU mV) H := Eq.mp (congrArg (fun z => va_P D vwCl z H) hW) hP
      have hD : va_D _ (MW cI cJ A (undoG sS kS ib) kS oS aS tS (b2i ib) cA tp td fm tt vl wr bO sO nU mV) := Eq.mp (congrArg (fun z => va_D _ z) hW) hD
      have hE : tS = undoT tS ib := by simp [undoR, undoG, undoT, bump, put9, b2i, c4, c19, i_lt, -Int32.not_le, -Int32.not_lt]
      have hW : (MW cI cJ A (undoG sS kS ib) kS oS aS tS (b2i ib) cA tp td fm tt vl wr bO sO nU mV) = (MW cI cJ A (undoG sS kS ib) kS oS aS (undoT tS ib) (b2i ib) cA tp td fm tt vl wr bO sO nU mV) := congrArg (fun z => (MW cI cJ A (undoG sS kS ib) kS oS aS z (b2i ib) cA tp td fm tt vl wr bO sO nU mV)) hE
      have hP : va_P D vwCl (MW cI cJ A (undoG sS kS ib) kS oS aS (undoT tS ib) (b2i ib) cA tp td fm tt vl wr bO sO nU mV) H := Eq.mp (congrArg (fun z => va_P D vwCl z H) hW) hP
      have hD : va_D _ (MW cI cJ A (undoG sS kS ib) kS oS aS (undoT tS ib) (b2i ib) cA tp td fm tt vl wr bO sO nU mV) := Eq.mp (congrArg (fun z => va_D _ z) hW) hD
      exact mu_iret (MW cI cJ A (undoG sS kS ib) kS oS aS (undoT tS ib) (b2i ib) cA tp td fm tt vl wr bO sO nU mV) hx hb hr hlk hP hS rfl (⟨congrArg (fun z => some (Value.int z)) (by simp [undoR, undoG, undoT, bump, put9, b2i, c4, c19, i_lt, -Int32.not_le, -Int32.not_lt]), rfl⟩) dX4_undo_46
    · replace c19 := nq_nle (a := 75) (b := i) (by omega) (by omega) c19
      refine lv_aload_n hx hb dX4_undo_22 rfl (lv_at hl 0 rfl) ?_
      refine va_get (ci := 4) (v := .ref (A 1)) hx hb hts wx_X4 hown hK hP 0 rfl rfl 0 (by decide) (hts _ wf_X4_7) (fun _ h9 => h9) rfl dX4_undo_23 ?_
      refine lv_iload_n hx hb dX4_undo_26 rfl (lv_at hl 1 rfl) ?_
      refine lv_aload_n hx hb dX4_undo_27 rfl (lv_at hl 0 rfl) ?_
      refine va_get (ci := 4) (v := .ref (A 2)) hx hb hts wx_X4 hown hK hP 0 rfl rfl 1 (by decide) (hts _ wf_X4_13) (fun _ h9 => h9) rfl dX4_undo_28 ?_
      refine lv_iload_n hx hb dX4_undo_31 rfl (lv_at hl 1 rfl) ?_
      refine ia_ld hx hb hK hP 2 0 rfl rfl i (rfl) (by omega) (by decide) dX4_undo_32 ?_
      refine ia_st hx hb hK hP hD hS 1 0 rfl rfl i (rfl) (by omega) (by decide) dX4_undo_33 (fun H locs hP hD hS => ?_)
      have hP : va_P D vwCl (MW cI cJ A (upd (fillF kS sS i) i (kS i)) kS oS aS tS (b2i ib) cA tp td fm tt vl wr bO sO nU mV) H := hP
      have hD : va_D _ (MW cI cJ A (upd (fillF kS sS i) i (kS i)) kS oS aS tS (b2i ib) cA tp td fm tt vl wr bO sO nU mV) := hD
      have hE : upd (fillF kS sS i) i (kS i) = fillF kS sS (i + 1) := fillF_s _ _ _
      have hW : (MW cI cJ A (upd (fillF kS sS i) i (kS i)) kS oS aS tS (b2i ib) cA tp td fm tt vl wr bO sO nU mV) = (MW cI cJ A (fillF kS sS (i + 1)) kS oS aS tS (b2i ib) cA tp td fm tt vl wr bO sO nU mV) := congrArg (fun z => (MW cI cJ A z kS oS aS tS (b2i ib) cA tp td fm tt vl wr bO sO nU mV)) hE
      have hP : va_P D vwCl (MW cI cJ A (fillF kS sS (i + 1)) kS oS aS tS (b2i ib) cA tp td fm tt vl wr bO sO nU mV) H := Eq.mp (congrArg (fun z => va_P D vwCl z H) hW) hP
      have hD : va_D _ (MW cI cJ A (fillF kS sS (i + 1)) kS oS aS tS (b2i ib) cA tp td fm tt vl wr bO sO nU mV) := Eq.mp (congrArg (fun z => va_D _ z) hW) hD
      refine lv_iinc (v := nI (i + 1)) (lv' := [(1, .int (nI (i + 1))), (0, .ref (A 0))]) hx hb dX4_undo_34 hl (k := 1) rfl (nI_inc _) (by decide) rfl (fun ls hl => ?_)
      refine lv_goto (tgt := 16) hx hb dX4_undo_37 rfl ?_
      exact ih16 (i + 1) _ _ ls (by first | omega | (dsimp only; omega)) ⟨(by omega), hP, hD, hS, lv_sub hl [1, 0] rfl⟩
  · replace c4 := (b2i_0 _).mp c4
    refine lv_aload_n hx hb dX4_undo_7 rfl (lv_at hl 0 rfl) ?_
    refine lv_ldc (v := (-1000000004)) hx hb hown (hts _ wq_X4_186) dX4_undo_8 ?_
    refine mu_W (w := (MW cI cJ A sS kS oS aS tS (b2i ib) cA tp td fm tt vl wr bO sO nU mV)) (rest := []) S hK hP hD hS (k_X4_finds 3 (-1000000004) (by decide) (by decide)) gv_X4_63 hd_X4_finds ⟨Nat.le_of_ble_eq_true rfl, Nat.le_of_ble_eq_true rfl⟩ 4 rfl rfl rfl rfl hl.1 (lv_room (Nat.le_of_ble_eq_true rfl)) dX4_undo_10 ⟨Nat.zero_le _, Nat.zero_le _⟩ (fun ov w' H locs hp hP hD hS => ?_)
    obtain ⟨rfl, rfl⟩ := hp
    refine W.eq (g2 := F0 m 13 ls [.int (-1000000004)]) rfl ?_
    have hE : sS = undoG sS kS ib := by simp [undoR, undoG, undoT, bump, put9, b2i, c4, i_lt, -Int32.not_le, -Int32.not_lt]
    have hW : (MW cI cJ A sS kS oS aS (upd tS 3 (tS 3 + 1)) (b2i ib) cA tp td fm tt vl wr bO sO nU mV) = (MW cI cJ A (undoG sS kS ib) kS oS aS (upd tS 3 (tS 3 + 1)) (b2i ib) cA tp td fm tt vl wr bO sO nU mV) := congrArg (fun z => (MW cI cJ A z kS oS aS (upd tS 3 (tS 3 + 1)) (b2i ib) cA tp td fm tt vl wr bO sO nU mV)) hE
    have hP : va_P D vwCl (MW cI cJ A (undoG sS kS ib) kS oS aS (upd tS 3 (tS 3 + 1)) (b2i ib) cA tp td fm tt vl wr bO sO nU mV) H := Eq.mp (congrArg (fun z => va_P D vwCl z H) hW) hP
    have hD : va_D _ (MW cI cJ A (undoG sS kS ib) kS oS aS (upd tS 3 (tS 3 + 1)) (b2i ib) cA tp td fm tt vl wr bO sO nU mV) := Eq.mp (congrArg (fun z => va_D _ z) hW) hD
    have hE : upd tS 3 (tS 3 + 1) = undoT tS ib := by simp [undoR, undoG, undoT, bump, put9, b2i, c4, i_lt, -Int32.not_le, -Int32.not_lt]
    have hW : (MW cI cJ A (undoG sS kS ib) kS oS aS (upd tS 3 (tS 3 + 1)) (b2i ib) cA tp td fm tt vl wr bO sO nU mV) = (MW cI cJ A (undoG sS kS ib) kS oS aS (undoT tS ib) (b2i ib) cA tp td fm tt vl wr bO sO nU mV) := congrArg (fun z => (MW cI cJ A (undoG sS kS ib) kS oS aS z (b2i ib) cA tp td fm tt vl wr bO sO nU mV)) hE
    have hP : va_P D vwCl (MW cI cJ A (undoG sS kS ib) kS oS aS (undoT tS ib) (b2i ib) cA tp td fm tt vl wr bO sO nU mV) H := Eq.mp (congrArg (fun z => va_P D vwCl z H) hW) hP
    have hD : va_D _ (MW cI cJ A (undoG sS kS ib) kS oS aS (undoT tS ib) (b2i ib) cA tp td fm tt vl wr bO sO nU mV) := Eq.mp (congrArg (fun z => va_D _ z) hW) hD
    exact mu_iret (MW cI cJ A (undoG sS kS ib) kS oS aS (undoT tS ib) (b2i ib) cA tp td fm tt vl wr bO sO nU mV) hx hb hr hlk hP hS rfl (⟨congrArg (fun z => some (Value.int z)) (by simp [undoR, undoG, undoT, bump, put9, b2i, c4, i_lt, -Int32.not_le, -Int32.not_lt]), rfl⟩) dX4_undo_13

set_option maxHeartbeats 4000000 in
set_option maxRecDepth 100000 in
theorem k_X4_tear (ib : Bool) : MU l D (tyA cI cJ cO) yX4_tear cX4_tear 2 ((some .int)) 0 0 [.ref (A 0)] (MW cI cJ A sS kS oS aS tS (b2i ib) cA tp td fm tt vl wr bO sO nU mV) (fun ov w' => ov = some (.int (b2i ib)) ∧ w' = (MW cI cJ A sS kS oS aS tS 0 cA tp td fm tt vl wr bO sO nU mV)) := by
  refine MU.mk (by decide) (Nat.le_of_ble_eq_true rfl) ?_
  intro p e s m below meth c ls S hr hlk hP hK hD hS hl
  have S : CallFix p m c cX4_tear 2 s _ WL RX4 := S
  obtain ⟨hx, hb, hml, hown, hts⟩ := id S
  have hl : lv_has ls 2 [(0, .ref (A 0))] := hl
  refine lv_aload_n hx hb dX4_tear_0 rfl (lv_at hl 0 rfl) ?_
  refine va_get (ci := 4) (v := .int (b2i ib)) hx hb hts wx_X4 hown hK hP 0 rfl rfl 5 (by decide) (hts _ wf_X4_337) (fun _ h9 => h9) rfl dX4_tear_1 ?_
  refine lv_if_eq (tgt := 11) hx hb dX4_tear_4 rfl (fun c4 => ?_) (fun c4 => ?_)
  · replace c4 := (b2i_0 _).mp c4
    refine lv_iconst (v := 0) hx hb dX4_tear_11 rfl ?_
    refine lv_istore_n (lv' := [(1, .int 0), (0, .ref (A 0))]) hx hb dX4_tear_12 rfl hl (by decide) rfl (fun ls hl => ?_)
    refine lv_aload_n hx hb dX4_tear_13 rfl (lv_at hl 1 rfl) ?_
    refine lv_iconst (v := 0) hx hb dX4_tear_14 rfl ?_
    refine va_put (ci := 4) (v := .int 0) (ty := tyX4 5) hx hb hts wx_X4 tyX4 tyX4_ok nmX4 hown hK hP hD hS 0 rfl rfl 5 (by decide) (hts _ wf_X4_337) (fun _ h9 => h9) rfl (tyX4_ok 5 (by decide)) rfl rfl (Nat.le_of_ble_eq_true rfl) dX4_tear_15 (fun H locs hP hD hS => ?_)
    have hP : va_P D vwCl (MW cI cJ A sS kS oS aS tS 0 cA tp td fm tt vl wr bO sO nU mV) H := hP
    have hD : va_D _ (MW cI cJ A sS kS oS aS tS 0 cA tp td fm tt vl wr bO sO nU mV) := hD
    refine lv_iload_n hx hb dX4_tear_18 rfl (lv_at hl 0 rfl) ?_
    exact mu_iret (MW cI cJ A sS kS oS aS tS 0 cA tp td fm tt vl wr bO sO nU mV) hx hb hr hlk hP hS rfl (⟨congrArg (fun z => some (Value.int z)) (by simp [b2i, bump, put9, b2i, c4, i_lt, -Int32.not_le, -Int32.not_lt]), rfl⟩) dX4_tear_19
  · replace c4 := b2i_n0 c4
    refine lv_iconst (v := 1) hx hb dX4_tear_7 rfl ?_
    refine lv_goto (tgt := 12) hx hb dX4_tear_8 rfl ?_
    refine lv_istore_n (lv' := [(1, .int 1), (0, .ref (A 0))]) hx hb dX4_tear_12 rfl hl (by decide) rfl (fun ls hl => ?_)
    refine lv_aload_n hx hb dX4_tear_13 rfl (lv_at hl 1 rfl) ?_
    refine lv_iconst (v := 0) hx hb dX4_tear_14 rfl ?_
    refine va_put (ci := 4) (v := .int 0) (ty := tyX4 5) hx hb hts wx_X4 tyX4 tyX4_ok nmX4 hown hK hP hD hS 0 rfl rfl 5 (by decide) (hts _ wf_X4_337) (fun _ h9 => h9) rfl (tyX4_ok 5 (by decide)) rfl rfl (Nat.le_of_ble_eq_true rfl) dX4_tear_15 (fun H locs hP hD hS => ?_)
    have hP : va_P D vwCl (MW cI cJ A sS kS oS aS tS 0 cA tp td fm tt vl wr bO sO nU mV) H := hP
    have hD : va_D _ (MW cI cJ A sS kS oS aS tS 0 cA tp td fm tt vl wr bO sO nU mV) := hD
    refine lv_iload_n hx hb dX4_tear_18 rfl (lv_at hl 0 rfl) ?_
    exact mu_iret (MW cI cJ A sS kS oS aS tS 0 cA tp td fm tt vl wr bO sO nU mV) hx hb hr hlk hP hS rfl (⟨congrArg (fun z => some (Value.int z)) (by simp [b2i, bump, put9, b2i, c4, i_lt, -Int32.not_le, -Int32.not_lt]), rfl⟩) dX4_tear_19

set_option maxHeartbeats 4000000 in
set_option maxRecDepth 100000 in
theorem k_X4_wipe : MU l D (tyA cI cJ cO) yX4_wipe cX4_wipe 2 ((some .int)) 0 0 [.ref (A 0)] (MW cI cJ A sS kS oS aS tS ik cA tp td fm tt vl wr bO sO nU mV) (fun ov w' => ov = some (.int td) ∧ w' = (MW cI cJ A sS kS oS aS tS ik cA tp 0 fm tt vl wr bO sO nU mV)) := by
  refine MU.mk (by decide) (Nat.le_of_ble_eq_true rfl) ?_
  intro p e s m below meth c ls S hr hlk hP hK hD hS hl
  have S : CallFix p m c cX4_wipe 2 s _ WL RX4 := S
  obtain ⟨hx, hb, hml, hown, hts⟩ := id S
  have hl : lv_has ls 2 [(0, .ref (A 0))] := hl
  refine lv_aload_n hx hb dX4_wipe_0 rfl (lv_at hl 0 rfl) ?_
  refine va_get (ci := 4) (v := .int td) hx hb hts wx_X4 hown hK hP 0 rfl rfl 8 (by decide) (hts _ wf_X4_207) (fun _ h9 => h9) rfl dX4_wipe_1 ?_
  refine lv_istore_n (lv' := [(1, .int td), (0, .ref (A 0))]) hx hb dX4_wipe_4 rfl hl (by decide) rfl (fun ls hl => ?_)
  refine lv_aload_n hx hb dX4_wipe_5 rfl (lv_at hl 1 rfl) ?_
  refine lv_iconst (v := 0) hx hb dX4_wipe_6 rfl ?_
  refine va_put (ci := 4) (v := .int 0) (ty := tyX4 8) hx hb hts wx_X4 tyX4 tyX4_ok nmX4 hown hK hP hD hS 0 rfl rfl 8 (by decide) (hts _ wf_X4_207) (fun _ h9 => h9) rfl (tyX4_ok 8 (by decide)) rfl rfl (Nat.le_of_ble_eq_true rfl) dX4_wipe_7 (fun H locs hP hD hS => ?_)
  have hP : va_P D vwCl (MW cI cJ A sS kS oS aS tS ik cA tp 0 fm tt vl wr bO sO nU mV) H := hP
  have hD : va_D _ (MW cI cJ A sS kS oS aS tS ik cA tp 0 fm tt vl wr bO sO nU mV) := hD
  refine lv_iload_n hx hb dX4_wipe_10 rfl (lv_at hl 0 rfl) ?_
  exact mu_iret (MW cI cJ A sS kS oS aS tS ik cA tp 0 fm tt vl wr bO sO nU mV) hx hb hr hlk hP hS rfl (⟨congrArg (fun z => some (Value.int z)) (rfl), rfl⟩) dX4_wipe_11

set_option maxHeartbeats 4000000 in
set_option maxRecDepth 100000 in
theorem k_X4_toldAt (j : Nat) (hj : j < 1000) : MU l D (tyA cI cJ cO) yX4_toldAt cX4_toldAt 3 ((some .int)) 1 22 [.ref (A 0), .int (nI j)] (MW cI cJ A sS kS oS aS tS ik cA tp td fm tt vl wr bO sO nU mV) (fun ov w' => ov = some (.int (toldR j)) ∧ w' = (MW cI cJ A aS kS oS aS (toldT tS j) ik cA tp td fm tt vl wr bO sO nU mV)) := by
  refine MU.mk (by decide) (Nat.le_of_ble_eq_true rfl) ?_
  intro p e s m below meth c ls S hr hlk hP hK hD hS hl
  have S : CallFix p m c cX4_toldAt 3 s _ WL RX4 := S
  obtain ⟨hx, hb, hml, hown, hts⟩ := id S
  have hl : lv_has ls 3 [(0, .ref (A 0)), (1, .int (nI j))] := hl
  refine lv_aload_n hx hb dX4_toldAt_0 rfl (lv_at hl 0 rfl) ?_
  refine lv_iload_n hx hb dX4_toldAt_1 rfl (lv_at hl 1 rfl) ?_
  refine mu_W (w := (MW cI cJ A sS kS oS aS tS ik cA tp td fm tt vl wr bO sO nU mV)) (rest := []) S hK hP hD hS (k_X4_takesBack (nI j)) gv_X4_174 hd_X4_takesBack ⟨Nat.le_of_ble_eq_true rfl, Nat.le_of_ble_eq_true rfl⟩ 4 rfl rfl rfl rfl hl.1 (lv_room (Nat.le_of_ble_eq_true rfl)) dX4_toldAt_2 ⟨Nat.zero_le _, Nat.zero_le _⟩ (fun ov w' H locs hp hP hD hS => ?_)
  obtain ⟨rfl, rfl⟩ := hp
  refine W.eq (g2 := F0 m 5 ls [.int (nI j)]) rfl ?_
  refine lv_istore_n (lv' := [(2, .int (nI j)), (0, .ref (A 0)), (1, .int (nI j))]) hx hb dX4_toldAt_5 rfl hl (by decide) rfl (fun ls hl => ?_)
  refine lv_iload_n hx hb dX4_toldAt_6 rfl (lv_at hl 0 rfl) ?_
  refine lv_sipush (v := 200) hx hb dX4_toldAt_7 rfl ?_
  refine lv_icmp_le (tgt := 22) hx hb dX4_toldAt_10 rfl (fun c10 => ?_) (fun c10 => ?_)
  · replace c10 := nq_le (a := j) (b := 200) (by omega) (by omega) c10
    refine lv_iload_n hx hb dX4_toldAt_22 rfl (lv_at hl 0 rfl) ?_
    have hE : tS = toldT tS j := by simp [toldR, toldT, bump, put9, b2i, c10, i_lt, -Int32.not_le, -Int32.not_lt]
    have hW : (MW cI cJ A aS kS oS aS tS ik cA tp td fm tt vl wr bO sO nU mV) = (MW cI cJ A aS kS oS aS (toldT tS j) ik cA tp td fm tt vl wr bO sO nU mV) := congrArg (fun z => (MW cI cJ A aS kS oS aS z ik cA tp td fm tt vl wr bO sO nU mV)) hE
    have hP : va_P D vwCl (MW cI cJ A aS kS oS aS (toldT tS j) ik cA tp td fm tt vl wr bO sO nU mV) H := Eq.mp (congrArg (fun z => va_P D vwCl z H) hW) hP
    have hD : va_D _ (MW cI cJ A aS kS oS aS (toldT tS j) ik cA tp td fm tt vl wr bO sO nU mV) := Eq.mp (congrArg (fun z => va_D _ z) hW) hD
    exact mu_iret (MW cI cJ A aS kS oS aS (toldT tS j) ik cA tp td fm tt vl wr bO sO nU mV) hx hb hr hlk hP hS rfl (⟨congrArg (fun z => some (Value.int z)) (by simp [toldR, toldT, bump, put9, b2i, c10, i_lt, -Int32.not_le, -Int32.not_lt]), rfl⟩) dX4_toldAt_23
  · replace c10 := nq_nle (a := j) (b := 200) (by omega) (by omega) c10
    refine lv_aload_n hx hb dX4_toldAt_13 rfl (lv_at hl 1 rfl) ?_
    refine lv_ldc (v := (-1000000004)) hx hb hown (hts _ wq_X4_186) dX4_toldAt_14 ?_
    refine mu_W (w := (MW cI cJ A aS kS oS aS tS ik cA tp td fm tt vl wr bO sO nU mV)) (rest := []) S hK hP hD hS (k_X4_finds 3 (-1000000004) (by decide) (by decide)) gv_X4_63 hd_X4_finds ⟨Nat.le_of_ble_eq_true rfl, Nat.le_of_ble_eq_true rfl⟩ 4 rfl rfl rfl rfl hl.1 (lv_room (Nat.le_of_ble_eq_true rfl)) dX4_toldAt_16 ⟨Nat.zero_le _, Nat.zero_le _⟩ (fun ov w' H locs hp hP hD hS => ?_)
    obtain ⟨rfl, rfl⟩ := hp
    refine W.eq (g2 := F0 m 19 ls [.int (-1000000004)]) rfl ?_
    refine lv_goto (tgt := 23) hx hb dX4_toldAt_19 rfl ?_
    have hE : upd tS 3 (tS 3 + 1) = toldT tS j := by simp [toldR, toldT, bump, put9, b2i, c10, i_lt, -Int32.not_le, -Int32.not_lt]
    have hW : (MW cI cJ A aS kS oS aS (upd tS 3 (tS 3 + 1)) ik cA tp td fm tt vl wr bO sO nU mV) = (MW cI cJ A aS kS oS aS (toldT tS j) ik cA tp td fm tt vl wr bO sO nU mV) := congrArg (fun z => (MW cI cJ A aS kS oS aS z ik cA tp td fm tt vl wr bO sO nU mV)) hE
    have hP : va_P D vwCl (MW cI cJ A aS kS oS aS (toldT tS j) ik cA tp td fm tt vl wr bO sO nU mV) H := Eq.mp (congrArg (fun z => va_P D vwCl z H) hW) hP
    have hD : va_D _ (MW cI cJ A aS kS oS aS (toldT tS j) ik cA tp td fm tt vl wr bO sO nU mV) := Eq.mp (congrArg (fun z => va_D _ z) hW) hD
    exact mu_iret (MW cI cJ A aS kS oS aS (toldT tS j) ik cA tp td fm tt vl wr bO sO nU mV) hx hb hr hlk hP hS rfl (⟨congrArg (fun z => some (Value.int z)) (by simp [toldR, toldT, bump, put9, b2i, c10, i_lt, -Int32.not_le, -Int32.not_lt]), rfl⟩) dX4_toldAt_23

set_option maxHeartbeats 4000000 in
set_option maxRecDepth 100000 in
theorem k_X4_when (n : Nat) (f : Int32) (hI : Inv sS n) : MU l D (tyA cI cJ cO) yX4_when cX4_when 3 ((some .int)) 8 175 [.ref (A 0), .int f] (MW cI cJ A sS kS oS aS tS ik cA tp td fm tt vl wr bO sO nU mV) (fun ov w' => ∃ aS' : Nat → Int32, ov = some (.int (whenR sS n f)) ∧ w' = (MW cI cJ A sS kS oS aS' (whenT sS tS n f) ik cA tp td fm tt vl wr bO sO nU mV)) := by
  refine MU.mk (by decide) (Nat.le_of_ble_eq_true rfl) ?_
  intro p e s m below meth c ls S hr hlk hP hK hD hS hl
  have S : CallFix p m c cX4_when 3 s _ WL RX4 := S
  obtain ⟨hx, hb, hml, hown, hts⟩ := id S
  have hl : lv_has ls 3 [(0, .ref (A 0)), (1, .int f)] := hl
  have hI0 := hI
  refine lv_aload_n hx hb dX4_when_0 rfl (lv_at hl 0 rfl) ?_
  refine lv_iload_n hx hb dX4_when_1 rfl (lv_at hl 1 rfl) ?_
  refine ro_V (w := (MW cI cJ A sS kS oS aS tS ik cA tp td fm tt vl wr bO sO nU mV)) (rest := []) S hK hP (k_X4_isFigure n f hI) gv_X4_128 hd_X4_isFigure ⟨Nat.le_of_ble_eq_true rfl, Nat.le_of_ble_eq_true rfl⟩ 4 rfl rfl rfl rfl hl.1 (lv_room (Nat.le_of_ble_eq_true rfl)) dX4_when_2 ⟨Nat.zero_le _, Nat.zero_le _⟩ ?_
  refine lv_if_ne (tgt := 15) hx hb dX4_when_5 rfl (fun c5 => ?_) (fun c5 => ?_)
  · replace c5 := b2i_n0 c5
    obtain ⟨k, hk, rfl⟩ := fig_in hI.1 c5
    have h8 := hI.1
    have ek : cl (nI k) = k := cl_nI (by omega)
    refine lv_aload_n hx hb dX4_when_15 rfl (lv_at hl 0 rfl) ?_
    refine mu_W (w := (MW cI cJ A sS kS oS aS tS ik cA tp td fm tt vl wr bO sO nU mV)) (rest := []) S hK hP hD hS (k_X4_laysAside ) gv_X4_171 hd_X4_laysAside ⟨Nat.le_of_ble_eq_true rfl, Nat.le_of_ble_eq_true rfl⟩ 4 rfl rfl rfl rfl hl.1 (lv_room (Nat.le_of_ble_eq_true rfl)) dX4_when_16 ⟨Nat.zero_le _, Nat.zero_le _⟩ (fun ov w' H locs hp hP hD hS => ?_)
    obtain ⟨rfl, rfl⟩ := hp
    refine W.eq (g2 := F0 m 19 ls []) rfl ?_
    refine lv_iconst (v := 0) hx hb dX4_when_19 rfl ?_
    refine lv_istore_n (lv' := [(2, .int 0), (0, .ref (A 0)), (1, .int (nI k))]) hx hb dX4_when_20 rfl hl (by decide) rfl (fun ls hl => ?_)
    refine w_loopH (pc := 21) (st := fun (i : Nat) => []) (μ := fun (i : Nat) => 201 - i) (I := fun (i : Nat) H locs ls => (i ≤ 201) ∧ (∀ j, j < i → whenP sS n k j = false) ∧ va_P D vwCl (MW cI cJ A (hoursF sS n i) kS oS sS tS ik cA tp td fm tt vl wr bO sO nU mV) H ∧ va_D (fun z9 => z9 ∈ ((MW cI cJ A sS kS oS aS tS ik cA tp td fm tt vl wr bO sO nU mV)).map (fun z8 => z8.1)) (MW cI cJ A (hoursF sS n i) kS oS sS tS ik cA tp td fm tt vl wr bO sO nU mV) ∧ va_S (fun z9 => z9 ∈ ((MW cI cJ A sS kS oS aS tS ik cA tp td fm tt vl wr bO sO nU mV)).map (fun z8 => z8.1)) s.heap H locs ∧ lv_has ls 3 [(0, .ref (A 0)), (1, .int (nI k)), (2, .int (nI i))]) ?_ (0) ⟨Nat.zero_le _, fun j h => absurd h (Nat.not_lt_zero j), hP, hD, hS, lv_sub hl [1, 2, 0] rfl⟩
    rintro i H locs ls ⟨hi, hbb, hP, hD, hS, hl⟩ ih21
    try dsimp only at ih21 ⊢
    have hI := Inv_hours hI0 i
    have hcn : contN (hoursF sS n i) n ≤ n := cntF_le _ _
    refine lv_iload_n hx hb dX4_when_21 rfl (lv_at hl 2 rfl) ?_
    refine lv_sipush (v := 200) hx hb dX4_when_22 rfl ?_
    refine lv_icmp_gt (tgt := 46) hx hb dX4_when_25 rfl (fun c25 => ?_) (fun c25 => ?_)
    · replace c25 := nq_lt (a := 200) (b := i) (by omega) (by omega) c25
      have hfs : fstN (whenP sS n k) 201 = i := (fstN_all (p := whenP sS n k) (m := 201) (fun j hj => hbb j (by omega))).trans (by omega)
      refine lv_aload_n hx hb dX4_when_46 rfl (lv_at hl 0 rfl) ?_
      refine lv_iload_n hx hb dX4_when_47 rfl (lv_at hl 2 rfl) ?_
      refine mu_W (w := (MW cI cJ A (hoursF sS n i) kS oS sS tS ik cA tp td fm tt vl wr bO sO nU mV)) (rest := []) S hK hP hD hS (k_X4_toldAt i (by omega)) gv_X4_187 hd_X4_toldAt ⟨Nat.le_of_ble_eq_true rfl, Nat.le_of_ble_eq_true rfl⟩ 4 rfl rfl rfl rfl hl.1 (lv_room (Nat.le_of_ble_eq_true rfl)) dX4_when_48 ⟨Nat.zero_le _, Nat.zero_le _⟩ (fun ov w' H locs hp hP hD hS => ?_)
      obtain ⟨rfl, rfl⟩ := hp
      refine W.eq (g2 := F0 m 51 ls [.int (toldR i)]) rfl ?_
      have hE : toldT tS i = whenT sS tS n (nI k) := by simp [whenR, whenT, bump, put9, b2i, c5, c25, ek, hfs, i_lt, -Int32.not_le, -Int32.not_lt]
      have hW : (MW cI cJ A sS kS oS sS (toldT tS i) ik cA tp td fm tt vl wr bO sO nU mV) = (MW cI cJ A sS kS oS sS (whenT sS tS n (nI k)) ik cA tp td fm tt vl wr bO sO nU mV) := congrArg (fun z => (MW cI cJ A sS kS oS sS z ik cA tp td fm tt vl wr bO sO nU mV)) hE
      have hP : va_P D vwCl (MW cI cJ A sS kS oS sS (whenT sS tS n (nI k)) ik cA tp td fm tt vl wr bO sO nU mV) H := Eq.mp (congrArg (fun z => va_P D vwCl z H) hW) hP
      have hD : va_D _ (MW cI cJ A sS kS oS sS (whenT sS tS n (nI k)) ik cA tp td fm tt vl wr bO sO nU mV) := Eq.mp (congrArg (fun z => va_D _ z) hW) hD
      exact mu_iret (MW cI cJ A sS kS oS sS (whenT sS tS n (nI k)) ik cA tp td fm tt vl wr bO sO nU mV) hx hb hr hlk hP hS rfl (⟨sS, congrArg (fun z => some (Value.int z)) (by simp [whenR, whenT, bump, put9, b2i, c5, c25, ek, hfs, i_lt, -Int32.not_le, -Int32.not_lt]), rfl⟩) dX4_when_51
    · replace c25 := nq_nlt (a := 200) (b := i) (by omega) (by omega) c25
      refine lv_aload_n hx hb dX4_when_28 rfl (lv_at hl 0 rfl) ?_
      refine lv_iload_n hx hb dX4_when_29 rfl (lv_at hl 1 rfl) ?_
      refine ro_V (w := (MW cI cJ A (hoursF sS n i) kS oS sS tS ik cA tp td fm tt vl wr bO sO nU mV)) (rest := []) S hK hP (k_X4_isContent n k hI (by omega)) gv_X4_82 hd_X4_isContent ⟨Nat.le_of_ble_eq_true rfl, Nat.le_of_ble_eq_true rfl⟩ 4 rfl rfl rfl rfl hl.1 (lv_room (Nat.le_of_ble_eq_true rfl)) dX4_when_30 ⟨Nat.zero_le _, Nat.zero_le _⟩ ?_
      refine lv_if_ne (tgt := 46) hx hb dX4_when_33 rfl (fun c33 => ?_) (fun c33 => ?_)
      · replace c33 := b2i_n0 c33
        have hfs : fstN (whenP sS n k) 201 = i := fstN_at hbb c33 (by omega)
        refine lv_aload_n hx hb dX4_when_46 rfl (lv_at hl 0 rfl) ?_
        refine lv_iload_n hx hb dX4_when_47 rfl (lv_at hl 2 rfl) ?_
        refine mu_W (w := (MW cI cJ A (hoursF sS n i) kS oS sS tS ik cA tp td fm tt vl wr bO sO nU mV)) (rest := []) S hK hP hD hS (k_X4_toldAt i (by omega)) gv_X4_187 hd_X4_toldAt ⟨Nat.le_of_ble_eq_true rfl, Nat.le_of_ble_eq_true rfl⟩ 4 rfl rfl rfl rfl hl.1 (lv_room (Nat.le_of_ble_eq_true rfl)) dX4_when_48 ⟨Nat.zero_le _, Nat.zero_le _⟩ (fun ov w' H locs hp hP hD hS => ?_)
        obtain ⟨rfl, rfl⟩ := hp
        refine W.eq (g2 := F0 m 51 ls [.int (toldR i)]) rfl ?_
        have hE : toldT tS i = whenT sS tS n (nI k) := by simp [whenR, whenT, bump, put9, b2i, c5, c25, c33, ek, hfs, i_lt, -Int32.not_le, -Int32.not_lt]
        have hW : (MW cI cJ A sS kS oS sS (toldT tS i) ik cA tp td fm tt vl wr bO sO nU mV) = (MW cI cJ A sS kS oS sS (whenT sS tS n (nI k)) ik cA tp td fm tt vl wr bO sO nU mV) := congrArg (fun z => (MW cI cJ A sS kS oS sS z ik cA tp td fm tt vl wr bO sO nU mV)) hE
        have hP : va_P D vwCl (MW cI cJ A sS kS oS sS (whenT sS tS n (nI k)) ik cA tp td fm tt vl wr bO sO nU mV) H := Eq.mp (congrArg (fun z => va_P D vwCl z H) hW) hP
        have hD : va_D _ (MW cI cJ A sS kS oS sS (whenT sS tS n (nI k)) ik cA tp td fm tt vl wr bO sO nU mV) := Eq.mp (congrArg (fun z => va_D _ z) hW) hD
        exact mu_iret (MW cI cJ A sS kS oS sS (whenT sS tS n (nI k)) ik cA tp td fm tt vl wr bO sO nU mV) hx hb hr hlk hP hS rfl (⟨sS, congrArg (fun z => some (Value.int z)) (by simp [whenR, whenT, bump, put9, b2i, c5, c25, c33, ek, hfs, i_lt, -Int32.not_le, -Int32.not_lt]), rfl⟩) dX4_when_51
      · replace c33 := (b2i_0 _).mp c33
        have hb2 : ∀ j, j < i + 1 → whenP sS n k j = false := lt_s hbb (c33)
        refine lv_aload_n hx hb dX4_when_36 rfl (lv_at hl 0 rfl) ?_
        refine mu_W (w := (MW cI cJ A (hoursF sS n i) kS oS sS tS ik cA tp td fm tt vl wr bO sO nU mV)) (rest := []) S hK hP hD hS (k_X4_hour n hI) gv_X4_159 hd_X4_hour ⟨Nat.le_of_ble_eq_true rfl, Nat.le_of_ble_eq_true rfl⟩ 4 rfl rfl rfl rfl hl.1 (lv_room (Nat.le_of_ble_eq_true rfl)) dX4_when_37 ⟨Nat.zero_le _, Nat.zero_le _⟩ (fun ov w' H locs hp hP hD hS => ?_)
        obtain ⟨rfl, rfl⟩ := hp
        refine W.eq (g2 := F0 m 40 ls []) rfl ?_
        have hE : hourF (hoursF sS n i) n = hoursF sS n (i + 1) := rfl
        have hW : (MW cI cJ A (hourF (hoursF sS n i) n) kS oS sS tS ik cA tp td fm tt vl wr bO sO nU mV) = (MW cI cJ A (hoursF sS n (i + 1)) kS oS sS tS ik cA tp td fm tt vl wr bO sO nU mV) := congrArg (fun z => (MW cI cJ A z kS oS sS tS ik cA tp td fm tt vl wr bO sO nU mV)) hE
        have hP : va_P D vwCl (MW cI cJ A (hoursF sS n (i + 1)) kS oS sS tS ik cA tp td fm tt vl wr bO sO nU mV) H := Eq.mp (congrArg (fun z => va_P D vwCl z H) hW) hP
        have hD : va_D _ (MW cI cJ A (hoursF sS n (i + 1)) kS oS sS tS ik cA tp td fm tt vl wr bO sO nU mV) := Eq.mp (congrArg (fun z => va_D _ z) hW) hD
        refine lv_iinc (v := nI (i + 1)) (lv' := [(2, .int (nI (i + 1))), (0, .ref (A 0)), (1, .int (nI k))]) hx hb dX4_when_40 hl (k := 2) rfl (nI_inc _) (by decide) rfl (fun ls hl => ?_)
        refine lv_goto (tgt := 21) hx hb dX4_when_43 rfl ?_
        exact ih21 (i + 1) _ _ ls (by first | omega | (dsimp only; omega)) ⟨(by omega), hb2, hP, hD, hS, lv_sub hl [1, 2, 0] rfl⟩
  · replace c5 := (b2i_0 _).mp c5
    refine lv_aload_n hx hb dX4_when_8 rfl (lv_at hl 0 rfl) ?_
    refine lv_ldc (v := (-1000000001)) hx hb hown (hts _ wq_X4_44) dX4_when_9 ?_
    refine mu_W (w := (MW cI cJ A sS kS oS aS tS ik cA tp td fm tt vl wr bO sO nU mV)) (rest := []) S hK hP hD hS (k_X4_finds 0 (-1000000001) (by decide) (by decide)) gv_X4_63 hd_X4_finds ⟨Nat.le_of_ble_eq_true rfl, Nat.le_of_ble_eq_true rfl⟩ 4 rfl rfl rfl rfl hl.1 (lv_room (Nat.le_of_ble_eq_true rfl)) dX4_when_11 ⟨Nat.zero_le _, Nat.zero_le _⟩ (fun ov w' H locs hp hP hD hS => ?_)
    obtain ⟨rfl, rfl⟩ := hp
    refine W.eq (g2 := F0 m 14 ls [.int (-1000000001)]) rfl ?_
    have hE : upd tS 0 (tS 0 + 1) = whenT sS tS n f := by simp [whenR, whenT, bump, put9, b2i, c5, i_lt, -Int32.not_le, -Int32.not_lt]
    have hW : (MW cI cJ A sS kS oS aS (upd tS 0 (tS 0 + 1)) ik cA tp td fm tt vl wr bO sO nU mV) = (MW cI cJ A sS kS oS aS (whenT sS tS n f) ik cA tp td fm tt vl wr bO sO nU mV) := congrArg (fun z => (MW cI cJ A sS kS oS aS z ik cA tp td fm tt vl wr bO sO nU mV)) hE
    have hP : va_P D vwCl (MW cI cJ A sS kS oS aS (whenT sS tS n f) ik cA tp td fm tt vl wr bO sO nU mV) H := Eq.mp (congrArg (fun z => va_P D vwCl z H) hW) hP
    have hD : va_D _ (MW cI cJ A sS kS oS aS (whenT sS tS n f) ik cA tp td fm tt vl wr bO sO nU mV) := Eq.mp (congrArg (fun z => va_D _ z) hW) hD
    exact mu_iret (MW cI cJ A sS kS oS aS (whenT sS tS n f) ik cA tp td fm tt vl wr bO sO nU mV) hx hb hr hlk hP hS rfl (⟨aS, congrArg (fun z => some (Value.int z)) (by simp [whenR, whenT, bump, put9, b2i, c5, i_lt, -Int32.not_le, -Int32.not_lt]), rfl⟩) dX4_when_14

set_option maxHeartbeats 4000000 in
set_option maxRecDepth 100000 in
theorem k_X4_all (n : Nat) (hI : Inv sS n) : MU l D (tyA cI cJ cO) yX4_all cX4_all 2 ((some .int)) 8 175 [.ref (A 0)] (MW cI cJ A sS kS oS aS tS ik cA tp td fm tt vl wr bO sO nU mV) (fun ov w' => ∃ aS' : Nat → Int32, ov = some (.int (allR sS n)) ∧ w' = (MW cI cJ A sS kS oS aS' (allT sS tS n) ik cA tp td fm tt vl wr bO sO nU mV)) := by
  refine MU.mk (by decide) (Nat.le_of_ble_eq_true rfl) ?_
  intro p e s m below meth c ls S hr hlk hP hK hD hS hl
  have S : CallFix p m c cX4_all 2 s _ WL RX4 := S
  obtain ⟨hx, hb, hml, hown, hts⟩ := id S
  have hl : lv_has ls 2 [(0, .ref (A 0))] := hl
  have hI0 := hI
  have h8 := hI.1
  refine lv_aload_n hx hb dX4_all_0 rfl (lv_at hl 0 rfl) ?_
  refine mu_W (w := (MW cI cJ A sS kS oS aS tS ik cA tp td fm tt vl wr bO sO nU mV)) (rest := []) S hK hP hD hS (k_X4_laysAside ) gv_X4_171 hd_X4_laysAside ⟨Nat.le_of_ble_eq_true rfl, Nat.le_of_ble_eq_true rfl⟩ 4 rfl rfl rfl rfl hl.1 (lv_room (Nat.le_of_ble_eq_true rfl)) dX4_all_1 ⟨Nat.zero_le _, Nat.zero_le _⟩ (fun ov w' H locs hp hP hD hS => ?_)
  obtain ⟨rfl, rfl⟩ := hp
  refine W.eq (g2 := F0 m 4 ls []) rfl ?_
  refine lv_iconst (v := 0) hx hb dX4_all_4 rfl ?_
  refine lv_istore_n (lv' := [(1, .int 0), (0, .ref (A 0))]) hx hb dX4_all_5 rfl hl (by decide) rfl (fun ls hl => ?_)
  refine w_loopH (pc := 6) (st := fun (i : Nat) => []) (μ := fun (i : Nat) => 201 - i) (I := fun (i : Nat) H locs ls => (i ≤ 201) ∧ (∀ j, j < i → allP sS n j = false) ∧ va_P D vwCl (MW cI cJ A (hoursF sS n i) kS oS sS tS ik cA tp td fm tt vl wr bO sO nU mV) H ∧ va_D (fun z9 => z9 ∈ ((MW cI cJ A sS kS oS aS tS ik cA tp td fm tt vl wr bO sO nU mV)).map (fun z8 => z8.1)) (MW cI cJ A (hoursF sS n i) kS oS sS tS ik cA tp td fm tt vl wr bO sO nU mV) ∧ va_S (fun z9 => z9 ∈ ((MW cI cJ A sS kS oS aS tS ik cA tp td fm tt vl wr bO sO nU mV)).map (fun z8 => z8.1)) s.heap H locs ∧ lv_has ls 2 [(0, .ref (A 0)), (1, .int (nI i))]) ?_ (0) ⟨Nat.zero_le _, fun j h => absurd h (Nat.not_lt_zero j), hP, hD, hS, lv_sub hl [1, 0] rfl⟩
  rintro i H locs ls ⟨hi, hbb, hP, hD, hS, hl⟩ ih6
  try dsimp only at ih6 ⊢
  have hI := Inv_hours hI0 i
  have hcn : contN (hoursF sS n i) n ≤ n := cntF_le _ _
  refine lv_iload_n hx hb dX4_all_6 rfl (lv_at hl 1 rfl) ?_
  refine lv_sipush (v := 200) hx hb dX4_all_7 rfl ?_
  refine lv_icmp_gt (tgt := 36) hx hb dX4_all_10 rfl (fun c10 => ?_) (fun c10 => ?_)
  · replace c10 := nq_lt (a := 200) (b := i) (by omega) (by omega) c10
    have hfs : fstN (allP sS n) 201 = i := (fstN_all (p := allP sS n) (m := 201) (fun j hj => hbb j (by omega))).trans (by omega)
    refine lv_aload_n hx hb dX4_all_36 rfl (lv_at hl 0 rfl) ?_
    refine lv_iload_n hx hb dX4_all_37 rfl (lv_at hl 1 rfl) ?_
    refine mu_W (w := (MW cI cJ A (hoursF sS n i) kS oS sS tS ik cA tp td fm tt vl wr bO sO nU mV)) (rest := []) S hK hP hD hS (k_X4_toldAt i (by omega)) gv_X4_187 hd_X4_toldAt ⟨Nat.le_of_ble_eq_true rfl, Nat.le_of_ble_eq_true rfl⟩ 4 rfl rfl rfl rfl hl.1 (lv_room (Nat.le_of_ble_eq_true rfl)) dX4_all_38 ⟨Nat.zero_le _, Nat.zero_le _⟩ (fun ov w' H locs hp hP hD hS => ?_)
    obtain ⟨rfl, rfl⟩ := hp
    refine W.eq (g2 := F0 m 41 ls [.int (toldR i)]) rfl ?_
    have hE : toldT tS i = allT sS tS n := by simp [allR, allT, bump, put9, b2i, c10, hfs, i_lt, -Int32.not_le, -Int32.not_lt]
    have hW : (MW cI cJ A sS kS oS sS (toldT tS i) ik cA tp td fm tt vl wr bO sO nU mV) = (MW cI cJ A sS kS oS sS (allT sS tS n) ik cA tp td fm tt vl wr bO sO nU mV) := congrArg (fun z => (MW cI cJ A sS kS oS sS z ik cA tp td fm tt vl wr bO sO nU mV)) hE
    have hP : va_P D vwCl (MW cI cJ A sS kS oS sS (allT sS tS n) ik cA tp td fm tt vl wr bO sO nU mV) H := Eq.mp (congrArg (fun z => va_P D vwCl z H) hW) hP
    have hD : va_D _ (MW cI cJ A sS kS oS sS (allT sS tS n) ik cA tp td fm tt vl wr bO sO nU mV) := Eq.mp (congrArg (fun z => va_D _ z) hW) hD
    exact mu_iret (MW cI cJ A sS kS oS sS (allT sS tS n) ik cA tp td fm tt vl wr bO sO nU mV) hx hb hr hlk hP hS rfl (⟨sS, congrArg (fun z => some (Value.int z)) (by simp [allR, allT, bump, put9, b2i, c10, hfs, i_lt, -Int32.not_le, -Int32.not_lt]), rfl⟩) dX4_all_41
  · replace c10 := nq_nlt (a := 200) (b := i) (by omega) (by omega) c10
    refine lv_aload_n hx hb dX4_all_13 rfl (lv_at hl 0 rfl) ?_
    refine ro_V (w := (MW cI cJ A (hoursF sS n i) kS oS sS tS ik cA tp td fm tt vl wr bO sO nU mV)) (rest := []) S hK hP (k_X4_contentMany n hI) gv_X4_177 hd_X4_contentMany ⟨Nat.le_of_ble_eq_true rfl, Nat.le_of_ble_eq_true rfl⟩ 4 rfl rfl rfl rfl hl.1 (lv_room (Nat.le_of_ble_eq_true rfl)) dX4_all_14 ⟨Nat.zero_le _, Nat.zero_le _⟩ ?_
    refine lv_aload_n hx hb dX4_all_17 rfl (lv_at hl 0 rfl) ?_
    refine va_get (ci := 4) (v := .ref (A 1)) hx hb hts wx_X4 hown hK hP 0 rfl rfl 0 (by decide) (hts _ wf_X4_7) (fun _ h9 => h9) rfl dX4_all_18 ?_
    refine lv_iconst (v := 1) hx hb dX4_all_21 rfl ?_
    refine ia_ld hx hb hK hP 1 0 rfl rfl 1 (rfl) (by omega) (by decide) dX4_all_22 ?_
    refine w_i (z := nI n) (hI.2.1) ?_
    refine lv_icmp_ge (tgt := 36) hx hb dX4_all_23 rfl (fun c23 => ?_) (fun c23 => ?_)
    · replace c23 := nq_le (a := n) (b := (contN (hoursF sS n i) n)) (by omega) (by omega) c23
      have hfs : fstN (allP sS n) 201 = i := fstN_at hbb (decide_eq_true c23) (by omega)
      refine lv_aload_n hx hb dX4_all_36 rfl (lv_at hl 0 rfl) ?_
      refine lv_iload_n hx hb dX4_all_37 rfl (lv_at hl 1 rfl) ?_
      refine mu_W (w := (MW cI cJ A (hoursF sS n i) kS oS sS tS ik cA tp td fm tt vl wr bO sO nU mV)) (rest := []) S hK hP hD hS (k_X4_toldAt i (by omega)) gv_X4_187 hd_X4_toldAt ⟨Nat.le_of_ble_eq_true rfl, Nat.le_of_ble_eq_true rfl⟩ 4 rfl rfl rfl rfl hl.1 (lv_room (Nat.le_of_ble_eq_true rfl)) dX4_all_38 ⟨Nat.zero_le _, Nat.zero_le _⟩ (fun ov w' H locs hp hP hD hS => ?_)
      obtain ⟨rfl, rfl⟩ := hp
      refine W.eq (g2 := F0 m 41 ls [.int (toldR i)]) rfl ?_
      have hE : toldT tS i = allT sS tS n := by simp [allR, allT, bump, put9, b2i, c10, c23, hfs, i_lt, -Int32.not_le, -Int32.not_lt]
      have hW : (MW cI cJ A sS kS oS sS (toldT tS i) ik cA tp td fm tt vl wr bO sO nU mV) = (MW cI cJ A sS kS oS sS (allT sS tS n) ik cA tp td fm tt vl wr bO sO nU mV) := congrArg (fun z => (MW cI cJ A sS kS oS sS z ik cA tp td fm tt vl wr bO sO nU mV)) hE
      have hP : va_P D vwCl (MW cI cJ A sS kS oS sS (allT sS tS n) ik cA tp td fm tt vl wr bO sO nU mV) H := Eq.mp (congrArg (fun z => va_P D vwCl z H) hW) hP
      have hD : va_D _ (MW cI cJ A sS kS oS sS (allT sS tS n) ik cA tp td fm tt vl wr bO sO nU mV) := Eq.mp (congrArg (fun z => va_D _ z) hW) hD
      exact mu_iret (MW cI cJ A sS kS oS sS (allT sS tS n) ik cA tp td fm tt vl wr bO sO nU mV) hx hb hr hlk hP hS rfl (⟨sS, congrArg (fun z => some (Value.int z)) (by simp [allR, allT, bump, put9, b2i, c10, c23, hfs, i_lt, -Int32.not_le, -Int32.not_lt]), rfl⟩) dX4_all_41
    · replace c23 := nq_nle (a := n) (b := (contN (hoursF sS n i) n)) (by omega) (by omega) c23
      have hb2 : ∀ j, j < i + 1 → allP sS n j = false := lt_s hbb (decide_eq_false (by omega))
      refine lv_aload_n hx hb dX4_all_26 rfl (lv_at hl 0 rfl) ?_
      refine mu_W (w := (MW cI cJ A (hoursF sS n i) kS oS sS tS ik cA tp td fm tt vl wr bO sO nU mV)) (rest := []) S hK hP hD hS (k_X4_hour n hI) gv_X4_159 hd_X4_hour ⟨Nat.le_of_ble_eq_true rfl, Nat.le_of_ble_eq_true rfl⟩ 4 rfl rfl rfl rfl hl.1 (lv_room (Nat.le_of_ble_eq_true rfl)) dX4_all_27 ⟨Nat.zero_le _, Nat.zero_le _⟩ (fun ov w' H locs hp hP hD hS => ?_)
      obtain ⟨rfl, rfl⟩ := hp
      refine W.eq (g2 := F0 m 30 ls []) rfl ?_
      have hE : hourF (hoursF sS n i) n = hoursF sS n (i + 1) := rfl
      have hW : (MW cI cJ A (hourF (hoursF sS n i) n) kS oS sS tS ik cA tp td fm tt vl wr bO sO nU mV) = (MW cI cJ A (hoursF sS n (i + 1)) kS oS sS tS ik cA tp td fm tt vl wr bO sO nU mV) := congrArg (fun z => (MW cI cJ A z kS oS sS tS ik cA tp td fm tt vl wr bO sO nU mV)) hE
      have hP : va_P D vwCl (MW cI cJ A (hoursF sS n (i + 1)) kS oS sS tS ik cA tp td fm tt vl wr bO sO nU mV) H := Eq.mp (congrArg (fun z => va_P D vwCl z H) hW) hP
      have hD : va_D _ (MW cI cJ A (hoursF sS n (i + 1)) kS oS sS tS ik cA tp td fm tt vl wr bO sO nU mV) := Eq.mp (congrArg (fun z => va_D _ z) hW) hD
      refine lv_iinc (v := nI (i + 1)) (lv' := [(1, .int (nI (i + 1))), (0, .ref (A 0))]) hx hb dX4_all_30 hl (k := 1) rfl (nI_inc _) (by decide) rfl (fun ls hl => ?_)
      refine lv_goto (tgt := 6) hx hb dX4_all_33 rfl ?_
      exact ih6 (i + 1) _ _ ls (by first | omega | (dsimp only; omega)) ⟨(by omega), hb2, hP, hD, hS, lv_sub hl [1, 0] rfl⟩

end
