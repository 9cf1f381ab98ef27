section
variable {l : Launch} {D : va_G} {cI cJ cO : ClassId} {A : Nat → Nat} {sS kS oS aS tS : Nat → Int32} {ik : Int32} {cA tp : Nat → Int32} {td fm tt vl wr : Int32} {bO sO : Nat → Int32} {nU mV : Nat → Int64}

set_option maxHeartbeats 4000000 in
set_option maxRecDepth 100000 in
theorem k_X4_lays (n : Nat) (x : Int32) (hI : Inv sS n) (hSh : ShI sO) : MU l D (tyA cI cJ cO) yX4_lays cX4_lays 6 ((some .int)) 3 66 [.ref (A 0), .int x] (MW cI cJ A sS kS oS aS tS ik cA tp td fm tt vl wr bO sO nU mV) (fun ov w' => ov = some (.int (layR bO sO nU n x)) ∧ w' = (MW cI cJ A (layS sS bO sO nU n x) kS oS aS (wrT tS (wrongS bO x)) ik cA tp td fm tt vl wr bO sO nU mV)) := by
  refine MU.mk (by decide) (Nat.le_of_ble_eq_true rfl) ?_
  intro p e s m below meth c ls S hr hlk hP hK hD hS hl
  have S : CallFix p m c cX4_lays 6 s _ WL RX4 := S
  obtain ⟨hx, hb, hml, hown, hts⟩ := id S
  have hl : lv_has ls 6 [(0, .ref (A 0)), (1, .int x)] := hl
  have h8 : n ≤ 8 := hI.1
  have hI0 := hI
  refine lv_aload_n hx hb dX4_lays_0 rfl (lv_at hl 0 rfl) ?_
  refine lv_iload_n hx hb dX4_lays_1 rfl (lv_at hl 1 rfl) ?_
  refine ro_V (w := (MW cI cJ A sS kS oS aS tS ik cA tp td fm tt vl wr bO sO nU mV)) (rest := []) S hK hP (k_X4_wrongSheet x) gv_X4_324 hd_X4_wrongSheet ⟨Nat.le_of_ble_eq_true rfl, Nat.le_of_ble_eq_true rfl⟩ 4 rfl rfl rfl rfl hl.1 (lv_room (Nat.le_of_ble_eq_true rfl)) dX4_lays_2 ⟨Nat.zero_le _, Nat.zero_le _⟩ ?_
  rcases wrong_c bO x with ⟨hs0, hw⟩ | ⟨j, hs0, rfl, hs1, hw⟩ | ⟨j, hs0, rfl, hs1, hw⟩
  · refine w_i (z := (-1000000001)) (hw) ?_
    refine lv_istore_n (lv' := [(2, .int (-1000000001)), (0, .ref (A 0)), (1, .int x)]) hx hb dX4_lays_5 rfl hl (by decide) rfl (fun ls hl => ?_)
    refine lv_iload_n hx hb dX4_lays_6 rfl (lv_at hl 0 rfl) ?_
    refine lv_if_eq (tgt := 16) hx hb dX4_lays_7 rfl (fun c7 => ?_) (fun c7 => ?_)
    · exact absurd c7 (by decide)
    · refine lv_aload_n hx hb dX4_lays_10 rfl (lv_at hl 1 rfl) ?_
      refine lv_iload_n hx hb dX4_lays_11 rfl (lv_at hl 0 rfl) ?_
      refine mu_W (w := (MW cI cJ A sS kS oS aS tS ik cA tp td fm tt vl wr bO sO nU mV)) (rest := []) S hK hP hD hS (k_X4_finds 0 (-1000000001) (by decide) (by decide)) gv_X4_63 hd_X4_finds ⟨Nat.le_of_ble_eq_true rfl, Nat.le_of_ble_eq_true rfl⟩ 4 rfl rfl rfl rfl hl.1 (lv_room (Nat.le_of_ble_eq_true rfl)) dX4_lays_12 ⟨Nat.zero_le _, Nat.zero_le _⟩ (fun ov w' H locs hp hP hD hS => ?_)
      obtain ⟨rfl, rfl⟩ := hp
      refine W.eq (g2 := F0 m 15 ls [.int (-1000000001)]) rfl ?_
      have hE : sS = layS sS bO sO nU n x := by simp [layR, layS, wrT, bump, put9, b2i, c7, hw, i_lt, -Int32.not_le, -Int32.not_lt]
      have hW : (MW cI cJ A sS kS oS aS (upd tS 0 (tS 0 + 1)) ik cA tp td fm tt vl wr bO sO nU mV) = (MW cI cJ A (layS sS bO sO nU n x) kS oS aS (upd tS 0 (tS 0 + 1)) ik cA tp td fm tt vl wr bO sO nU mV) := congrArg (fun z => (MW cI cJ A z kS oS aS (upd tS 0 (tS 0 + 1)) ik cA tp td fm tt vl wr bO sO nU mV)) hE
      have hP : va_P D vwCl (MW cI cJ A (layS sS bO sO nU n x) kS oS aS (upd tS 0 (tS 0 + 1)) ik cA tp td fm tt vl wr bO sO nU mV) H := Eq.mp (congrArg (fun z => va_P D vwCl z H) hW) hP
      have hD : va_D _ (MW cI cJ A (layS sS bO sO nU n x) kS oS aS (upd tS 0 (tS 0 + 1)) ik cA tp td fm tt vl wr bO sO nU mV) := Eq.mp (congrArg (fun z => va_D _ z) hW) hD
      have hE : upd tS 0 (tS 0 + 1) = wrT tS (wrongS bO x) := by simp [layR, layS, wrT, bump, put9, b2i, c7, hw, i_lt, -Int32.not_le, -Int32.not_lt]
      have hW : (MW cI cJ A (layS sS bO sO nU n x) kS oS aS (upd tS 0 (tS 0 + 1)) ik cA tp td fm tt vl wr bO sO nU mV) = (MW cI cJ A (layS sS bO sO nU n x) kS oS aS (wrT tS (wrongS bO x)) ik cA tp td fm tt vl wr bO sO nU mV) := congrArg (fun z => (MW cI cJ A (layS sS bO sO nU n x) kS oS aS z ik cA tp td fm tt vl wr bO sO nU mV)) hE
      have hP : va_P D vwCl (MW cI cJ A (layS sS bO sO nU n x) kS oS aS (wrT tS (wrongS bO x)) ik cA tp td fm tt vl wr bO sO nU mV) H := Eq.mp (congrArg (fun z => va_P D vwCl z H) hW) hP
      have hD : va_D _ (MW cI cJ A (layS sS bO sO nU n x) kS oS aS (wrT tS (wrongS bO x)) ik cA tp td fm tt vl wr bO sO nU mV) := Eq.mp (congrArg (fun z => va_D _ z) hW) hD
      exact mu_iret (MW cI cJ A (layS sS bO sO nU n x) kS oS aS (wrT tS (wrongS bO x)) ik cA tp td fm tt vl wr bO sO nU mV) hx hb hr hlk hP hS rfl (⟨congrArg (fun z => some (Value.int z)) (by simp [layR, layS, wrT, bump, put9, b2i, c7, hw, i_lt, -Int32.not_le, -Int32.not_lt]), rfl⟩) dX4_lays_15
  · have ej : cl (nI j) = j := cl_nI (by omega)
    refine w_i (z := (-1000000006)) (hw) ?_
    refine lv_istore_n (lv' := [(2, .int (-1000000006)), (0, .ref (A 0)), (1, .int (nI j))]) hx hb dX4_lays_5 rfl hl (by decide) rfl (fun ls hl => ?_)
    refine lv_iload_n hx hb dX4_lays_6 rfl (lv_at hl 0 rfl) ?_
    refine lv_if_eq (tgt := 16) hx hb dX4_lays_7 rfl (fun c7 => ?_) (fun c7 => ?_)
    · exact absurd c7 (by decide)
    · refine lv_aload_n hx hb dX4_lays_10 rfl (lv_at hl 1 rfl) ?_
      refine lv_iload_n hx hb dX4_lays_11 rfl (lv_at hl 0 rfl) ?_
      refine mu_W (w := (MW cI cJ A sS kS oS aS tS ik cA tp td fm tt vl wr bO sO nU mV)) (rest := []) S hK hP hD hS (k_X4_finds 5 (-1000000006) (by decide) (by decide)) gv_X4_63 hd_X4_finds ⟨Nat.le_of_ble_eq_true rfl, Nat.le_of_ble_eq_true rfl⟩ 4 rfl rfl rfl rfl hl.1 (lv_room (Nat.le_of_ble_eq_true rfl)) dX4_lays_12 ⟨Nat.zero_le _, Nat.zero_le _⟩ (fun ov w' H locs hp hP hD hS => ?_)
      obtain ⟨rfl, rfl⟩ := hp
      refine W.eq (g2 := F0 m 15 ls [.int (-1000000006)]) rfl ?_
      have hE : sS = layS sS bO sO nU n (nI j) := by simp [layR, layS, wrT, bump, put9, b2i, c7, ej, hw, i_lt, -Int32.not_le, -Int32.not_lt]
      have hW : (MW cI cJ A sS kS oS aS (upd tS 5 (tS 5 + 1)) ik cA tp td fm tt vl wr bO sO nU mV) = (MW cI cJ A (layS sS bO sO nU n (nI j)) kS oS aS (upd tS 5 (tS 5 + 1)) ik cA tp td fm tt vl wr bO sO nU mV) := congrArg (fun z => (MW cI cJ A z kS oS aS (upd tS 5 (tS 5 + 1)) ik cA tp td fm tt vl wr bO sO nU mV)) hE
      have hP : va_P D vwCl (MW cI cJ A (layS sS bO sO nU n (nI j)) kS oS aS (upd tS 5 (tS 5 + 1)) ik cA tp td fm tt vl wr bO sO nU mV) H := Eq.mp (congrArg (fun z => va_P D vwCl z H) hW) hP
      have hD : va_D _ (MW cI cJ A (layS sS bO sO nU n (nI j)) kS oS aS (upd tS 5 (tS 5 + 1)) ik cA tp td fm tt vl wr bO sO nU mV) := Eq.mp (congrArg (fun z => va_D _ z) hW) hD
      have hE : upd tS 5 (tS 5 + 1) = wrT tS (wrongS bO (nI j)) := by simp [layR, layS, wrT, bump, put9, b2i, c7, ej, hw, i_lt, -Int32.not_le, -Int32.not_lt]
      have hW : (MW cI cJ A (layS sS bO sO nU n (nI j)) kS oS aS (upd tS 5 (tS 5 + 1)) ik cA tp td fm tt vl wr bO sO nU mV) = (MW cI cJ A (layS sS bO sO nU n (nI j)) kS oS aS (wrT tS (wrongS bO (nI j))) ik cA tp td fm tt vl wr bO sO nU mV) := congrArg (fun z => (MW cI cJ A (layS sS bO sO nU n (nI j)) kS oS aS z ik cA tp td fm tt vl wr bO sO nU mV)) hE
      have hP : va_P D vwCl (MW cI cJ A (layS sS bO sO nU n (nI j)) kS oS aS (wrT tS (wrongS bO (nI j))) ik cA tp td fm tt vl wr bO sO nU mV) H := Eq.mp (congrArg (fun z => va_P D vwCl z H) hW) hP
      have hD : va_D _ (MW cI cJ A (layS sS bO sO nU n (nI j)) kS oS aS (wrT tS (wrongS bO (nI j))) ik cA tp td fm tt vl wr bO sO nU mV) := Eq.mp (congrArg (fun z => va_D _ z) hW) hD
      exact mu_iret (MW cI cJ A (layS sS bO sO nU n (nI j)) kS oS aS (wrT tS (wrongS bO (nI j))) ik cA tp td fm tt vl wr bO sO nU mV) hx hb hr hlk hP hS rfl (⟨congrArg (fun z => some (Value.int z)) (by simp [layR, layS, wrT, bump, put9, b2i, c7, ej, hw, i_lt, -Int32.not_le, -Int32.not_lt]), rfl⟩) dX4_lays_15
  · have ej : cl (nI j) = j := cl_nI (by omega)
    obtain ⟨hz, hz40⟩ := sh_n hSh hs0
    refine w_i (z := 0) (hw) ?_
    refine lv_istore_n (lv' := [(2, .int 0), (0, .ref (A 0)), (1, .int (nI j))]) hx hb dX4_lays_5 rfl hl (by decide) rfl (fun ls hl => ?_)
    refine lv_iload_n hx hb dX4_lays_6 rfl (lv_at hl 0 rfl) ?_
    refine lv_if_eq (tgt := 16) hx hb dX4_lays_7 rfl (fun c7 => ?_) (fun c7 => ?_)
    · refine lv_iconst (v := 0) hx hb dX4_lays_16 rfl ?_
      refine w_i (z := nI (cntF (layP nU j) 0)) (rfl) ?_
      refine lv_istore_n (lv' := [(3, .int (nI (cntF (layP nU j) 0))), (2, .int 0), (0, .ref (A 0)), (1, .int (nI j))]) hx hb dX4_lays_17 rfl hl (by decide) rfl (fun ls hl => ?_)
      refine lv_iconst (v := 0) hx hb dX4_lays_18 rfl ?_
      have hE : sS = layG sS nU j 0 := rfl
      have hW : (MW cI cJ A sS kS oS aS tS ik cA tp td fm tt vl wr bO sO nU mV) = (MW cI cJ A (layG sS nU j 0) kS oS aS tS ik cA tp td fm tt vl wr bO sO nU mV) := congrArg (fun z => (MW cI cJ A z kS oS aS tS ik cA tp td fm tt vl wr bO sO nU mV)) hE
      have hP : va_P D vwCl (MW cI cJ A (layG sS nU j 0) kS oS aS tS ik cA tp td fm tt vl wr bO sO nU mV) s.heap := Eq.mp (congrArg (fun z => va_P D vwCl z s.heap) hW) hP
      have hD : va_D _ (MW cI cJ A (layG sS nU j 0) kS oS aS tS ik cA tp td fm tt vl wr bO sO nU mV) := Eq.mp (congrArg (fun z => va_D _ z) hW) hD
      refine lv_istore (lv' := [(4, .int 0), (3, .int (nI (cntF (layP nU j) 0))), (2, .int 0), (0, .ref (A 0)), (1, .int (nI j))]) hx hb dX4_lays_19 hl (by decide) rfl (fun ls hl => ?_)
      refine w_loopH (pc := 21) (st := fun (i : Nat) => []) (μ := fun (i : Nat) => n - i) (I := fun (i : Nat) H locs ls => (i ≤ cl (sO j)) ∧ (i ≤ n) ∧ va_P D vwCl (MW cI cJ A (layG sS nU j i) kS oS aS tS ik cA tp td fm tt vl wr bO sO nU mV) H ∧ va_D (fun z9 => z9 ∈ ((MW cI cJ A sS kS oS aS tS ik cA tp td fm tt vl wr bO sO nU mV)).map (fun z8 => z8.1)) (MW cI cJ A (layG sS nU j i) kS oS aS tS ik cA tp td fm tt vl wr bO sO nU mV) ∧ va_S (fun z9 => z9 ∈ ((MW cI cJ A sS kS oS aS tS ik cA tp td fm tt vl wr bO sO nU mV)).map (fun z8 => z8.1)) s.heap H locs ∧ lv_has ls 6 [(0, .ref (A 0)), (1, .int (nI j)), (2, .int 0), (3, .int (nI (cntF (layP nU j) i))), (4, .int (nI i))]) ?_ (0) ⟨Nat.zero_le _, Nat.zero_le _, hP, hD, hS, lv_sub hl [3, 4, 2, 1, 0] rfl⟩
      rintro i H locs ls ⟨hi, hi2, hP, hD, hS, hl⟩ ih21
      try dsimp only at ih21 ⊢
      have hI := Inv_lay (u := nU) (k := j) hI0 i
      refine lv_iload hx hb dX4_lays_21 (lv_at hl 4 rfl) ?_
      refine lv_aload_n hx hb dX4_lays_23 rfl (lv_at hl 0 rfl) ?_
      refine va_get (ci := 4) (v := .ref (A 9)) hx hb hts wx_X4 hown hK hP 0 rfl rfl 14 (by decide) (hts _ wf_X4_34) (fun _ h9 => h9) rfl dX4_lays_24 ?_
      refine lv_iload_n hx hb dX4_lays_27 rfl (lv_at hl 1 rfl) ?_
      refine ia_ld hx hb hK hP 9 0 rfl rfl j (rfl) (by omega) (by decide) dX4_lays_28 ?_
      refine w_i (z := nI (cl (sO j))) (hz) ?_
      refine lv_icmp_ge (tgt := 122) hx hb dX4_lays_29 rfl (fun c29 => ?_) (fun c29 => ?_)
      · replace c29 := nq_le (a := (cl (sO j))) (b := i) (by omega) (by omega) c29
        have hm : layM sO n j = i := by unfold layM; omega
        refine lv_iload_n hx hb dX4_lays_122 rfl (lv_at hl 3 rfl) ?_
        have hE : layG sS nU j i = layS sS bO sO nU n (nI j) := by simp [layR, layS, wrT, bump, put9, b2i, c7, c29, ej, hs1, hw, hm, i_lt, -Int32.not_le, -Int32.not_lt]
        have hW : (MW cI cJ A (layG sS nU j i) kS oS aS tS ik cA tp td fm tt vl wr bO sO nU mV) = (MW cI cJ A (layS sS bO sO nU n (nI j)) kS oS aS tS ik cA tp td fm tt vl wr bO sO nU mV) := congrArg (fun z => (MW cI cJ A z kS oS aS tS ik cA tp td fm tt vl wr bO sO nU mV)) hE
        have hP : va_P D vwCl (MW cI cJ A (layS sS bO sO nU n (nI j)) kS oS aS tS ik cA tp td fm tt vl wr bO sO nU mV) H := Eq.mp (congrArg (fun z => va_P D vwCl z H) hW) hP
        have hD : va_D _ (MW cI cJ A (layS sS bO sO nU n (nI j)) kS oS aS tS ik cA tp td fm tt vl wr bO sO nU mV) := Eq.mp (congrArg (fun z => va_D _ z) hW) hD
        have hE : tS = wrT tS (wrongS bO (nI j)) := by simp [layR, layS, wrT, bump, put9, b2i, c7, c29, ej, hs1, hw, hm, i_lt, -Int32.not_le, -Int32.not_lt]
        have hW : (MW cI cJ A (layS sS bO sO nU n (nI j)) kS oS aS tS ik cA tp td fm tt vl wr bO sO nU mV) = (MW cI cJ A (layS sS bO sO nU n (nI j)) kS oS aS (wrT tS (wrongS bO (nI j))) ik cA tp td fm tt vl wr bO sO nU mV) := congrArg (fun z => (MW cI cJ A (layS sS bO sO nU n (nI j)) kS oS aS z ik cA tp td fm tt vl wr bO sO nU mV)) hE
        have hP : va_P D vwCl (MW cI cJ A (layS sS bO sO nU n (nI j)) kS oS aS (wrT tS (wrongS bO (nI j))) ik cA tp td fm tt vl wr bO sO nU mV) H := Eq.mp (congrArg (fun z => va_P D vwCl z H) hW) hP
        have hD : va_D _ (MW cI cJ A (layS sS bO sO nU n (nI j)) kS oS aS (wrT tS (wrongS bO (nI j))) ik cA tp td fm tt vl wr bO sO nU mV) := Eq.mp (congrArg (fun z => va_D _ z) hW) hD
        exact mu_iret (MW cI cJ A (layS sS bO sO nU n (nI j)) kS oS aS (wrT tS (wrongS bO (nI j))) ik cA tp td fm tt vl wr bO sO nU mV) hx hb hr hlk hP hS rfl (⟨congrArg (fun z => some (Value.int z)) (by simp [layR, layS, wrT, bump, put9, b2i, c7, c29, ej, hs1, hw, hm, i_lt, -Int32.not_le, -Int32.not_lt]), rfl⟩) dX4_lays_123
      · replace c29 := nq_nle (a := (cl (sO j))) (b := i) (by omega) (by omega) c29
        refine lv_iload hx hb dX4_lays_32 (lv_at hl 4 rfl) ?_
        refine lv_aload_n hx hb dX4_lays_34 rfl (lv_at hl 0 rfl) ?_
        refine va_get (ci := 4) (v := .ref (A 1)) hx hb hts wx_X4 hown hK hP 0 rfl rfl 0 (by decide) (hts _ wf_X4_7) (fun _ h9 => h9) rfl dX4_lays_35 ?_
        refine lv_iconst (v := 1) hx hb dX4_lays_38 rfl ?_
        refine ia_ld hx hb hK hP 1 0 rfl rfl 1 (rfl) (by omega) (by decide) dX4_lays_39 ?_
        refine w_i (z := nI n) (hI.2.1) ?_
        refine lv_icmp_ge (tgt := 122) hx hb dX4_lays_40 rfl (fun c40 => ?_) (fun c40 => ?_)
        · replace c40 := nq_le (a := n) (b := i) (by omega) (by omega) c40
          have hm : layM sO n j = i := by unfold layM; omega
          refine lv_iload_n hx hb dX4_lays_122 rfl (lv_at hl 3 rfl) ?_
          have hE : layG sS nU j i = layS sS bO sO nU n (nI j) := by simp [layR, layS, wrT, bump, put9, b2i, c7, c29, c40, ej, hs1, hw, hm, i_lt, -Int32.not_le, -Int32.not_lt]
          have hW : (MW cI cJ A (layG sS nU j i) kS oS aS tS ik cA tp td fm tt vl wr bO sO nU mV) = (MW cI cJ A (layS sS bO sO nU n (nI j)) kS oS aS tS ik cA tp td fm tt vl wr bO sO nU mV) := congrArg (fun z => (MW cI cJ A z kS oS aS tS ik cA tp td fm tt vl wr bO sO nU mV)) hE
          have hP : va_P D vwCl (MW cI cJ A (layS sS bO sO nU n (nI j)) kS oS aS tS ik cA tp td fm tt vl wr bO sO nU mV) H := Eq.mp (congrArg (fun z => va_P D vwCl z H) hW) hP
          have hD : va_D _ (MW cI cJ A (layS sS bO sO nU n (nI j)) kS oS aS tS ik cA tp td fm tt vl wr bO sO nU mV) := Eq.mp (congrArg (fun z => va_D _ z) hW) hD
          have hE : tS = wrT tS (wrongS bO (nI j)) := by simp [layR, layS, wrT, bump, put9, b2i, c7, c29, c40, ej, hs1, hw, hm, i_lt, -Int32.not_le, -Int32.not_lt]
          have hW : (MW cI cJ A (layS sS bO sO nU n (nI j)) kS oS aS tS ik cA tp td fm tt vl wr bO sO nU mV) = (MW cI cJ A (layS sS bO sO nU n (nI j)) kS oS aS (wrT tS (wrongS bO (nI j))) ik cA tp td fm tt vl wr bO sO nU mV) := congrArg (fun z => (MW cI cJ A (layS sS bO sO nU n (nI j)) kS oS aS z ik cA tp td fm tt vl wr bO sO nU mV)) hE
          have hP : va_P D vwCl (MW cI cJ A (layS sS bO sO nU n (nI j)) kS oS aS (wrT tS (wrongS bO (nI j))) ik cA tp td fm tt vl wr bO sO nU mV) H := Eq.mp (congrArg (fun z => va_P D vwCl z H) hW) hP
          have hD : va_D _ (MW cI cJ A (layS sS bO sO nU n (nI j)) kS oS aS (wrT tS (wrongS bO (nI j))) ik cA tp td fm tt vl wr bO sO nU mV) := Eq.mp (congrArg (fun z => va_D _ z) hW) hD
          exact mu_iret (MW cI cJ A (layS sS bO sO nU n (nI j)) kS oS aS (wrT tS (wrongS bO (nI j))) ik cA tp td fm tt vl wr bO sO nU mV) hx hb hr hlk hP hS rfl (⟨congrArg (fun z => some (Value.int z)) (by simp [layR, layS, wrT, bump, put9, b2i, c7, c29, c40, ej, hs1, hw, hm, i_lt, -Int32.not_le, -Int32.not_lt]), rfl⟩) dX4_lays_123
        · replace c40 := nq_nle (a := n) (b := i) (by omega) (by omega) c40
          refine lv_aload_n hx hb dX4_lays_43 rfl (lv_at hl 0 rfl) ?_
          refine va_get (ci := 4) (v := .ref (A 10)) hx hb hts wx_X4 hown hK hP 0 rfl rfl 15 (by decide) (hts _ wf_X4_37) (fun _ h9 => h9) rfl dX4_lays_44 ?_
          refine lv_bipush (v := 40) hx hb dX4_lays_47 rfl ?_
          refine lv_iload_n hx hb dX4_lays_49 rfl (lv_at hl 1 rfl) ?_
          refine lv_imul hx hb dX4_lays_50 ?_
          refine lv_iload hx hb dX4_lays_51 (lv_at hl 4 rfl) ?_
          refine lv_iadd hx hb dX4_lays_53 ?_
          refine la_ld hx hb hK hP 10 1 rfl rfl (40 * j + i) (nI_40 j i) (by omega) (by decide) dX4_lays_54 ?_
          refine lv_lconst (v := 0) hx hb dX4_lays_55 rfl ?_
          refine lv_ldc2 (v := 99) hx hb hown (hts _ wq_X4_136) dX4_lays_56 ?_
          refine ro_S (w := []) (rest := []) S hK va_P0 (k_X4_in (nU (40 * j + i)) 0 99) gs_X4_49 hd_X4_in ⟨Nat.le_of_ble_eq_true rfl, Nat.le_of_ble_eq_true rfl⟩ rfl hl.1 (lv_room (Nat.le_of_ble_eq_true rfl)) dX4_lays_59 ⟨Nat.zero_le _, Nat.zero_le _⟩ ?_
          refine w_i (z := b2i (layP nU j i)) (rfl) ?_
          refine lv_istore (lv' := [(5, .int (b2i (layP nU j i))), (0, .ref (A 0)), (1, .int (nI j)), (2, .int 0), (3, .int (nI (cntF (layP nU j) i))), (4, .int (nI i))]) hx hb dX4_lays_62 hl (by decide) rfl (fun ls hl => ?_)
          refine lv_aload_n hx hb dX4_lays_64 rfl (lv_at hl 1 rfl) ?_
          refine va_get (ci := 4) (v := .ref (A 1)) hx hb hts wx_X4 hown hK hP 0 rfl rfl 0 (by decide) (hts _ wf_X4_7) (fun _ h9 => h9) rfl dX4_lays_65 ?_
          refine lv_iload hx hb dX4_lays_68 (lv_at hl 5 rfl) ?_
          refine lv_iconst (v := 3) hx hb dX4_lays_70 rfl ?_
          refine ro_S (w := []) (rest := [.ref (A 1)]) S hK va_P0 (k_X4_spot i 3) gs_X4_45 hd_X4_spot ⟨Nat.le_of_ble_eq_true rfl, Nat.le_of_ble_eq_true rfl⟩ rfl hl.1 (lv_room (Nat.le_of_ble_eq_true rfl)) dX4_lays_71 ⟨Nat.zero_le _, Nat.zero_le _⟩ ?_
          refine lv_iload hx hb dX4_lays_74 (lv_at hl 0 rfl) ?_
          refine lv_if_eq (tgt := 95) hx hb dX4_lays_76 rfl (fun c76 => ?_) (fun c76 => ?_)
          · replace c76 := (b2i_0 _).mp c76
            refine lv_aload_n hx hb dX4_lays_95 rfl (lv_at hl 1 rfl) ?_
            refine lv_iload hx hb dX4_lays_96 (lv_at hl 5 rfl) ?_
            refine lv_iconst (v := 3) hx hb dX4_lays_98 rfl ?_
            refine ro_V (w := (MW cI cJ A (layG sS nU j i) kS oS aS tS ik cA tp td fm tt vl wr bO sO nU mV)) (rest := [.int (nI (9 * i + 3 + 3)), .ref (A 1)]) S hK hP (k_X4_its i 3 (by omega) (by omega)) gv_X4_55 hd_X4_its ⟨Nat.le_of_ble_eq_true rfl, Nat.le_of_ble_eq_true rfl⟩ 4 rfl rfl rfl rfl hl.1 (lv_room (Nat.le_of_ble_eq_true rfl)) dX4_lays_99 ⟨Nat.zero_le _, Nat.zero_le _⟩ ?_
            refine ia_st hx hb hK hP hD hS 1 0 rfl rfl (9 * i + 3 + 3) (rfl) (by omega) (by decide) dX4_lays_102 (fun H locs hP hD hS => ?_)
            have hP : va_P D vwCl (MW cI cJ A (upd (layG sS nU j i) (9 * i + 3 + 3) (its (layG sS nU j i) i 3)) kS oS aS tS ik cA tp td fm tt vl wr bO sO nU mV) H := hP
            have hD : va_D _ (MW cI cJ A (upd (layG sS nU j i) (9 * i + 3 + 3) (its (layG sS nU j i) i 3)) kS oS aS tS ik cA tp td fm tt vl wr bO sO nU mV) := hD
            have hE : upd (layG sS nU j i) (9 * i + 3 + 3) (its (layG sS nU j i) i 3) = layG sS nU j (i + 1) := by rw [layG, c76]; exact (upd_same _ _).symm
            have hW : (MW cI cJ A (upd (layG sS nU j i) (9 * i + 3 + 3) (its (layG sS nU j i) i 3)) kS oS aS tS ik cA tp td fm tt vl wr bO sO nU mV) = (MW cI cJ A (layG sS nU j (i + 1)) kS oS aS tS ik cA tp td fm tt vl wr bO sO nU mV) := congrArg (fun z => (MW cI cJ A z kS oS aS tS ik cA tp td fm tt vl wr bO sO nU mV)) hE
            have hP : va_P D vwCl (MW cI cJ A (layG sS nU j (i + 1)) kS oS aS tS ik cA tp td fm tt vl wr bO sO nU mV) H := Eq.mp (congrArg (fun z => va_P D vwCl z H) hW) hP
            have hD : va_D _ (MW cI cJ A (layG sS nU j (i + 1)) kS oS aS tS ik cA tp td fm tt vl wr bO sO nU mV) := Eq.mp (congrArg (fun z => va_D _ z) hW) hD
            refine lv_iload_n hx hb dX4_lays_103 rfl (lv_at hl 4 rfl) ?_
            refine lv_iload hx hb dX4_lays_104 (lv_at hl 0 rfl) ?_
            refine lv_if_eq (tgt := 113) hx hb dX4_lays_106 rfl (fun c106 => ?_) (fun c106 => ?_)
            · replace c106 := (b2i_0 _).mp c106
              refine lv_iconst (v := 0) hx hb dX4_lays_113 rfl ?_
              refine lv_iadd hx hb dX4_lays_114 ?_
              refine w_i (z := nI (cntF (layP nU j) (i + 1))) (cntF_f0 c76) ?_
              refine lv_istore_n (lv' := [(3, .int (nI (cntF (layP nU j) (i + 1)))), (5, .int (b2i (layP nU j i))), (0, .ref (A 0)), (1, .int (nI j)), (2, .int 0), (4, .int (nI i))]) hx hb dX4_lays_115 rfl hl (by decide) rfl (fun ls hl => ?_)
              refine lv_iinc (v := nI (i + 1)) (lv' := [(4, .int (nI (i + 1))), (3, .int (nI (cntF (layP nU j) (i + 1)))), (5, .int (b2i (layP nU j i))), (0, .ref (A 0)), (1, .int (nI j)), (2, .int 0)]) hx hb dX4_lays_116 hl (k := 5) rfl (nI_inc _) (by decide) rfl (fun ls hl => ?_)
              refine lv_goto (tgt := 21) hx hb dX4_lays_119 rfl ?_
              exact ih21 (i + 1) _ _ ls (by first | omega | (dsimp only; omega)) ⟨(by omega), (by omega), hP, hD, hS, lv_sub hl [3, 4, 5, 1, 0] rfl⟩
            · replace c106 := b2i_n0 c106
              exact absurd (c76.symm.trans c106) (by decide)
          · replace c76 := b2i_n0 c76
            refine lv_aload_n hx hb dX4_lays_79 rfl (lv_at hl 1 rfl) ?_
            refine va_get (ci := 4) (v := .ref (A 10)) hx hb hts wx_X4 hown hK hP 0 rfl rfl 15 (by decide) (hts _ wf_X4_37) (fun _ h9 => h9) rfl dX4_lays_80 ?_
            refine lv_bipush (v := 40) hx hb dX4_lays_83 rfl ?_
            refine lv_iload_n hx hb dX4_lays_85 rfl (lv_at hl 2 rfl) ?_
            refine lv_imul hx hb dX4_lays_86 ?_
            refine lv_iload hx hb dX4_lays_87 (lv_at hl 5 rfl) ?_
            refine lv_iadd hx hb dX4_lays_89 ?_
            refine la_ld hx hb hK hP 10 1 rfl rfl (40 * j + i) (nI_40 j i) (by omega) (by decide) dX4_lays_90 ?_
            refine lv_l2i hx hb dX4_lays_91 rfl ?_
            refine lv_goto (tgt := 102) hx hb dX4_lays_92 rfl ?_
            refine ia_st hx hb hK hP hD hS 1 0 rfl rfl (9 * i + 3 + 3) (rfl) (by omega) (by decide) dX4_lays_102 (fun H locs hP hD hS => ?_)
            have hP : va_P D vwCl (MW cI cJ A (upd (layG sS nU j i) (9 * i + 3 + 3) (Int64.toInt32 (nU (40 * j + i)))) kS oS aS tS ik cA tp td fm tt vl wr bO sO nU mV) H := hP
            have hD : va_D _ (MW cI cJ A (upd (layG sS nU j i) (9 * i + 3 + 3) (Int64.toInt32 (nU (40 * j + i)))) kS oS aS tS ik cA tp td fm tt vl wr bO sO nU mV) := hD
            have hE : upd (layG sS nU j i) (9 * i + 3 + 3) (Int64.toInt32 (nU (40 * j + i))) = layG sS nU j (i + 1) := by rw [layG, if_pos c76]; rfl
            have hW : (MW cI cJ A (upd (layG sS nU j i) (9 * i + 3 + 3) (Int64.toInt32 (nU (40 * j + i)))) kS oS aS tS ik cA tp td fm tt vl wr bO sO nU mV) = (MW cI cJ A (layG sS nU j (i + 1)) kS oS aS tS ik cA tp td fm tt vl wr bO sO nU mV) := congrArg (fun z => (MW cI cJ A z kS oS aS tS ik cA tp td fm tt vl wr bO sO nU mV)) hE
            have hP : va_P D vwCl (MW cI cJ A (layG sS nU j (i + 1)) kS oS aS tS ik cA tp td fm tt vl wr bO sO nU mV) H := Eq.mp (congrArg (fun z => va_P D vwCl z H) hW) hP
            have hD : va_D _ (MW cI cJ A (layG sS nU j (i + 1)) kS oS aS tS ik cA tp td fm tt vl wr bO sO nU mV) := Eq.mp (congrArg (fun z => va_D _ z) hW) hD
            refine lv_iload_n hx hb dX4_lays_103 rfl (lv_at hl 4 rfl) ?_
            refine lv_iload hx hb dX4_lays_104 (lv_at hl 0 rfl) ?_
            refine lv_if_eq (tgt := 113) hx hb dX4_lays_106 rfl (fun c106 => ?_) (fun c106 => ?_)
            · replace c106 := (b2i_0 _).mp c106
              exact absurd (c76.symm.trans c106) (by decide)
            · replace c106 := b2i_n0 c106
              refine lv_iconst (v := 1) hx hb dX4_lays_109 rfl ?_
              refine lv_goto (tgt := 114) hx hb dX4_lays_110 rfl ?_
              refine lv_iadd hx hb dX4_lays_114 ?_
              refine w_i (z := nI (cntF (layP nU j) (i + 1))) (cntF_t c76) ?_
              refine lv_istore_n (lv' := [(3, .int (nI (cntF (layP nU j) (i + 1)))), (5, .int (b2i (layP nU j i))), (0, .ref (A 0)), (1, .int (nI j)), (2, .int 0), (4, .int (nI i))]) hx hb dX4_lays_115 rfl hl (by decide) rfl (fun ls hl => ?_)
              refine lv_iinc (v := nI (i + 1)) (lv' := [(4, .int (nI (i + 1))), (3, .int (nI (cntF (layP nU j) (i + 1)))), (5, .int (b2i (layP nU j i))), (0, .ref (A 0)), (1, .int (nI j)), (2, .int 0)]) hx hb dX4_lays_116 hl (k := 5) rfl (nI_inc _) (by decide) rfl (fun ls hl => ?_)
              refine lv_goto (tgt := 21) hx hb dX4_lays_119 rfl ?_
              exact ih21 (i + 1) _ _ ls (by first | omega | (dsimp only; omega)) ⟨(by omega), (by omega), hP, hD, hS, lv_sub hl [3, 4, 5, 1, 0] rfl⟩
    · exact absurd c7 (by decide)

set_option maxHeartbeats 4000000 in
set_option maxRecDepth 100000 in
theorem k_X4_booked (f : Nat) (hf : f < 8) : RO l D (tyA cI cJ cO) yX4_booked cX4_booked 2 ((some .int)) 2 43 [.ref (A 0), .int (nI f)] (MW cI cJ A sS kS oS aS tS ik cA tp td fm tt vl wr bO sO nU mV) (.int (look sS f)) := by
  refine RO.mk (by decide) (Nat.le_of_ble_eq_true rfl) ?_
  intro p e s m below meth c ls S hr hlk hP hK hl
  have S : CallFix p m c cX4_booked 2 s _ WL RX4 := S
  obtain ⟨hx, hb, hml, hown, hts⟩ := id S
  have hl : lv_has ls 2 [(0, .ref (A 0)), (1, .int (nI f))] := hl
  refine lv_bipush (v := 100) hx hb dX4_booked_0 rfl ?_
  refine lv_aload_n hx hb dX4_booked_2 rfl (lv_at hl 0 rfl) ?_
  refine lv_iload_n hx hb dX4_booked_3 rfl (lv_at hl 1 rfl) ?_
  refine lv_iconst (v := 2) hx hb dX4_booked_4 rfl ?_
  refine ro_V (w := (MW cI cJ A sS kS oS aS tS ik cA tp td fm tt vl wr bO sO nU mV)) (rest := [.int 100]) S hK hP (k_X4_its f 2 (by omega) (by omega)) gv_X4_55 hd_X4_its ⟨Nat.le_of_ble_eq_true rfl, Nat.le_of_ble_eq_true rfl⟩ 4 rfl rfl rfl rfl hl.1 (lv_room (Nat.le_of_ble_eq_true rfl)) dX4_booked_5 ⟨Nat.zero_le _, Nat.zero_le _⟩ ?_
  refine lv_imul hx hb dX4_booked_8 ?_
  refine lv_aload_n hx hb dX4_booked_9 rfl (lv_at hl 0 rfl) ?_
  refine lv_iload_n hx hb dX4_booked_10 rfl (lv_at hl 1 rfl) ?_
  refine lv_iconst (v := 3) hx hb dX4_booked_11 rfl ?_
  refine ro_V (w := (MW cI cJ A sS kS oS aS tS ik cA tp td fm tt vl wr bO sO nU mV)) (rest := [.int (100 * (its sS f 2))]) S hK hP (k_X4_its f 3 (by omega) (by omega)) gv_X4_55 hd_X4_its ⟨Nat.le_of_ble_eq_true rfl, Nat.le_of_ble_eq_true rfl⟩ 4 rfl rfl rfl rfl hl.1 (lv_room (Nat.le_of_ble_eq_true rfl)) dX4_booked_12 ⟨Nat.zero_le _, Nat.zero_le _⟩ ?_
  refine lv_iadd hx hb dX4_booked_15 ?_
  exact ro_iret hx hb hr hlk (rfl) dX4_booked_16

set_option maxHeartbeats 4000000 in
set_option maxRecDepth 100000 in
theorem k_X4_book (n : Nat) (x : Int32) (f : Int32) (hI : Inv sS n) (hSh : ShI sO) : MU l D (tyA cI cJ cO) yX4_book cX4_book 5 ((some .int)) 8 175 [.ref (A 0), .int x, .int f] (MW cI cJ A sS kS oS aS tS ik cA tp td fm tt vl wr bO sO nU mV) (fun ov w' => ∃ aS' : Nat → Int32, ov = some (.int (bokR bO sO n x f)) ∧ w' = (MW cI cJ A sS kS oS aS' (bokT tS bO n x f) ik cA tp td fm tt vl wr bO sO (bokN sS bO sO nU n x f) mV)) := by
  refine MU.mk (by decide) (Nat.le_of_ble_eq_true rfl) ?_
  intro p e s m below meth c ls S hr hlk hP hK hD hS hl
  have S : CallFix p m c cX4_book 5 s _ WL RX4 := S
  obtain ⟨hx, hb, hml, hown, hts⟩ := id S
  have hl : lv_has ls 5 [(0, .ref (A 0)), (1, .int x), (2, .int f)] := hl
  have h8 : n ≤ 8 := hI.1
  have hI0 := hI
  refine lv_aload_n hx hb dX4_book_0 rfl (lv_at hl 0 rfl) ?_
  refine lv_iload_n hx hb dX4_book_1 rfl (lv_at hl 1 rfl) ?_
  refine ro_V (w := (MW cI cJ A sS kS oS aS tS ik cA tp td fm tt vl wr bO sO nU mV)) (rest := []) S hK hP (k_X4_wrongSheet x) gv_X4_324 hd_X4_wrongSheet ⟨Nat.le_of_ble_eq_true rfl, Nat.le_of_ble_eq_true rfl⟩ 4 rfl rfl rfl rfl hl.1 (lv_room (Nat.le_of_ble_eq_true rfl)) dX4_book_2 ⟨Nat.zero_le _, Nat.zero_le _⟩ ?_
  rcases wrong_c bO x with ⟨hs0, hw⟩ | ⟨j, hs0, rfl, hs1, hw⟩ | ⟨j, hs0, rfl, hs1, hw⟩
  · refine w_i (z := (-1000000001)) (hw) ?_
    refine lv_istore_n (lv' := [(3, .int (-1000000001)), (0, .ref (A 0)), (1, .int x), (2, .int f)]) hx hb dX4_book_5 rfl hl (by decide) rfl (fun ls hl => ?_)
    refine lv_iload_n hx hb dX4_book_6 rfl (lv_at hl 0 rfl) ?_
    refine lv_if_eq (tgt := 16) hx hb dX4_book_7 rfl (fun c7 => ?_) (fun c7 => ?_)
    · exact absurd c7 (by decide)
    · refine lv_aload_n hx hb dX4_book_10 rfl (lv_at hl 1 rfl) ?_
      refine lv_iload_n hx hb dX4_book_11 rfl (lv_at hl 0 rfl) ?_
      refine mu_W (w := (MW cI cJ A sS kS oS aS tS ik cA tp td fm tt vl wr bO sO nU mV)) (rest := []) S hK hP hD hS (k_X4_finds 0 (-1000000001) (by decide) (by decide)) gv_X4_63 hd_X4_finds ⟨Nat.le_of_ble_eq_true rfl, Nat.le_of_ble_eq_true rfl⟩ 4 rfl rfl rfl rfl hl.1 (lv_room (Nat.le_of_ble_eq_true rfl)) dX4_book_12 ⟨Nat.zero_le _, Nat.zero_le _⟩ (fun ov w' H locs hp hP hD hS => ?_)
      obtain ⟨rfl, rfl⟩ := hp
      refine W.eq (g2 := F0 m 15 ls [.int (-1000000001)]) rfl ?_
      have hE : upd tS 0 (tS 0 + 1) = bokT tS bO n x f := by simp [bokR, bokT, bokN, wrT, bump, put9, b2i, c7, hw, i_lt, -Int32.not_le, -Int32.not_lt]
      have hW : (MW cI cJ A sS kS oS aS (upd tS 0 (tS 0 + 1)) ik cA tp td fm tt vl wr bO sO nU mV) = (MW cI cJ A sS kS oS aS (bokT tS bO n x f) ik cA tp td fm tt vl wr bO sO nU mV) := congrArg (fun z => (MW cI cJ A sS kS oS aS z ik cA tp td fm tt vl wr bO sO nU mV)) hE
      have hP : va_P D vwCl (MW cI cJ A sS kS oS aS (bokT tS bO n x f) ik cA tp td fm tt vl wr bO sO nU mV) H := Eq.mp (congrArg (fun z => va_P D vwCl z H) hW) hP
      have hD : va_D _ (MW cI cJ A sS kS oS aS (bokT tS bO n x f) ik cA tp td fm tt vl wr bO sO nU mV) := Eq.mp (congrArg (fun z => va_D _ z) hW) hD
      have hE : nU = bokN sS bO sO nU n x f := by simp [bokR, bokT, bokN, wrT, bump, put9, b2i, c7, hw, i_lt, -Int32.not_le, -Int32.not_lt]
      have hW : (MW cI cJ A sS kS oS aS (bokT tS bO n x f) ik cA tp td fm tt vl wr bO sO nU mV) = (MW cI cJ A sS kS oS aS (bokT tS bO n x f) ik cA tp td fm tt vl wr bO sO (bokN sS bO sO nU n x f) mV) := congrArg (fun z => (MW cI cJ A sS kS oS aS (bokT tS bO n x f) ik cA tp td fm tt vl wr bO sO z mV)) hE
      have hP : va_P D vwCl (MW cI cJ A sS kS oS aS (bokT tS bO n x f) ik cA tp td fm tt vl wr bO sO (bokN sS bO sO nU n x f) mV) H := Eq.mp (congrArg (fun z => va_P D vwCl z H) hW) hP
      have hD : va_D _ (MW cI cJ A sS kS oS aS (bokT tS bO n x f) ik cA tp td fm tt vl wr bO sO (bokN sS bO sO nU n x f) mV) := Eq.mp (congrArg (fun z => va_D _ z) hW) hD
      exact mu_iret (MW cI cJ A sS kS oS aS (bokT tS bO n x f) ik cA tp td fm tt vl wr bO sO (bokN sS bO sO nU n x f) mV) hx hb hr hlk hP hS rfl (⟨aS, congrArg (fun z => some (Value.int z)) (by simp [bokR, bokT, bokN, wrT, bump, put9, b2i, c7, hw, i_lt, -Int32.not_le, -Int32.not_lt]), rfl⟩) dX4_book_15
  · have ej : cl (nI j) = j := cl_nI (by omega)
    refine w_i (z := (-1000000006)) (hw) ?_
    refine lv_istore_n (lv' := [(3, .int (-1000000006)), (0, .ref (A 0)), (1, .int (nI j)), (2, .int f)]) hx hb dX4_book_5 rfl hl (by decide) rfl (fun ls hl => ?_)
    refine lv_iload_n hx hb dX4_book_6 rfl (lv_at hl 0 rfl) ?_
    refine lv_if_eq (tgt := 16) hx hb dX4_book_7 rfl (fun c7 => ?_) (fun c7 => ?_)
    · exact absurd c7 (by decide)
    · refine lv_aload_n hx hb dX4_book_10 rfl (lv_at hl 1 rfl) ?_
      refine lv_iload_n hx hb dX4_book_11 rfl (lv_at hl 0 rfl) ?_
      refine mu_W (w := (MW cI cJ A sS kS oS aS tS ik cA tp td fm tt vl wr bO sO nU mV)) (rest := []) S hK hP hD hS (k_X4_finds 5 (-1000000006) (by decide) (by decide)) gv_X4_63 hd_X4_finds ⟨Nat.le_of_ble_eq_true rfl, Nat.le_of_ble_eq_true rfl⟩ 4 rfl rfl rfl rfl hl.1 (lv_room (Nat.le_of_ble_eq_true rfl)) dX4_book_12 ⟨Nat.zero_le _, Nat.zero_le _⟩ (fun ov w' H locs hp hP hD hS => ?_)
      obtain ⟨rfl, rfl⟩ := hp
      refine W.eq (g2 := F0 m 15 ls [.int (-1000000006)]) rfl ?_
      have hE : upd tS 5 (tS 5 + 1) = bokT tS bO n (nI j) f := by simp [bokR, bokT, bokN, wrT, bump, put9, b2i, c7, ej, hw, i_lt, -Int32.not_le, -Int32.not_lt]
      have hW : (MW cI cJ A sS kS oS aS (upd tS 5 (tS 5 + 1)) ik cA tp td fm tt vl wr bO sO nU mV) = (MW cI cJ A sS kS oS aS (bokT tS bO n (nI j) f) ik cA tp td fm tt vl wr bO sO nU mV) := congrArg (fun z => (MW cI cJ A sS kS oS aS z ik cA tp td fm tt vl wr bO sO nU mV)) hE
      have hP : va_P D vwCl (MW cI cJ A sS kS oS aS (bokT tS bO n (nI j) f) ik cA tp td fm tt vl wr bO sO nU mV) H := Eq.mp (congrArg (fun z => va_P D vwCl z H) hW) hP
      have hD : va_D _ (MW cI cJ A sS kS oS aS (bokT tS bO n (nI j) f) ik cA tp td fm tt vl wr bO sO nU mV) := Eq.mp (congrArg (fun z => va_D _ z) hW) hD
      have hE : nU = bokN sS bO sO nU n (nI j) f := by simp [bokR, bokT, bokN, wrT, bump, put9, b2i, c7, ej, hw, i_lt, -Int32.not_le, -Int32.not_lt]
      have hW : (MW cI cJ A sS kS oS aS (bokT tS bO n (nI j) f) ik cA tp td fm tt vl wr bO sO nU mV) = (MW cI cJ A sS kS oS aS (bokT tS bO n (nI j) f) ik cA tp td fm tt vl wr bO sO (bokN sS bO sO nU n (nI j) f) mV) := congrArg (fun z => (MW cI cJ A sS kS oS aS (bokT tS bO n (nI j) f) ik cA tp td fm tt vl wr bO sO z mV)) hE
      have hP : va_P D vwCl (MW cI cJ A sS kS oS aS (bokT tS bO n (nI j) f) ik cA tp td fm tt vl wr bO sO (bokN sS bO sO nU n (nI j) f) mV) H := Eq.mp (congrArg (fun z => va_P D vwCl z H) hW) hP
      have hD : va_D _ (MW cI cJ A sS kS oS aS (bokT tS bO n (nI j) f) ik cA tp td fm tt vl wr bO sO (bokN sS bO sO nU n (nI j) f) mV) := Eq.mp (congrArg (fun z => va_D _ z) hW) hD
      exact mu_iret (MW cI cJ A sS kS oS aS (bokT tS bO n (nI j) f) ik cA tp td fm tt vl wr bO sO (bokN sS bO sO nU n (nI j) f) mV) hx hb hr hlk hP hS rfl (⟨aS, congrArg (fun z => some (Value.int z)) (by simp [bokR, bokT, bokN, wrT, bump, put9, b2i, c7, ej, hw, i_lt, -Int32.not_le, -Int32.not_lt]), rfl⟩) dX4_book_15
  · have ej : cl (nI j) = j := cl_nI (by omega)
    obtain ⟨hz, hz40⟩ := sh_n hSh hs0
    refine w_i (z := 0) (hw) ?_
    refine lv_istore_n (lv' := [(3, .int 0), (0, .ref (A 0)), (1, .int (nI j)), (2, .int f)]) hx hb dX4_book_5 rfl hl (by decide) rfl (fun ls hl => ?_)
    refine lv_iload_n hx hb dX4_book_6 rfl (lv_at hl 0 rfl) ?_
    refine lv_if_eq (tgt := 16) hx hb dX4_book_7 rfl (fun c7 => ?_) (fun c7 => ?_)
    · refine lv_aload_n hx hb dX4_book_16 rfl (lv_at hl 1 rfl) ?_
      refine lv_iload_n hx hb dX4_book_17 rfl (lv_at hl 3 rfl) ?_
      refine ro_V (w := (MW cI cJ A sS kS oS aS tS ik cA tp td fm tt vl wr bO sO nU mV)) (rest := []) S hK hP (k_X4_isFigure n f hI) gv_X4_128 hd_X4_isFigure ⟨Nat.le_of_ble_eq_true rfl, Nat.le_of_ble_eq_true rfl⟩ 4 rfl rfl rfl rfl hl.1 (lv_room (Nat.le_of_ble_eq_true rfl)) dX4_book_18 ⟨Nat.zero_le _, Nat.zero_le _⟩ ?_
      refine lv_if_ne (tgt := 31) hx hb dX4_book_21 rfl (fun c21 => ?_) (fun c21 => ?_)
      · replace c21 := b2i_n0 c21
        obtain ⟨k0, hk0, rfl⟩ := fig_in hI.1 c21
        have h8 := hI.1
        have ek0 : cl (nI k0) = k0 := cl_nI (by omega)
        refine lv_aload_n hx hb dX4_book_31 rfl (lv_at hl 1 rfl) ?_
        refine mu_W (w := (MW cI cJ A sS kS oS aS tS ik cA tp td fm tt vl wr bO sO nU mV)) (rest := []) S hK hP hD hS (k_X4_laysAside ) gv_X4_171 hd_X4_laysAside ⟨Nat.le_of_ble_eq_true rfl, Nat.le_of_ble_eq_true rfl⟩ 4 rfl rfl rfl rfl hl.1 (lv_room (Nat.le_of_ble_eq_true rfl)) dX4_book_32 ⟨Nat.zero_le _, Nat.zero_le _⟩ (fun ov w' H locs hp hP hD hS => ?_)
        obtain ⟨rfl, rfl⟩ := hp
        refine W.eq (g2 := F0 m 35 ls []) rfl ?_
        refine lv_iconst (v := 0) hx hb dX4_book_35 rfl ?_
        have hE : nU = bokU sS n k0 (bO j) nU j 0 := bokU_0 _ _ _ _ _ _
        have hW : (MW cI cJ A sS kS oS sS tS ik cA tp td fm tt vl wr bO sO nU mV) = (MW cI cJ A sS kS oS sS tS ik cA tp td fm tt vl wr bO sO (bokU sS n k0 (bO j) nU j 0) mV) := congrArg (fun z => (MW cI cJ A sS kS oS sS tS ik cA tp td fm tt vl wr bO sO z mV)) hE
        have hP : va_P D vwCl (MW cI cJ A sS kS oS sS tS ik cA tp td fm tt vl wr bO sO (bokU sS n k0 (bO j) nU j 0) mV) H := Eq.mp (congrArg (fun z => va_P D vwCl z H) hW) hP
        have hD : va_D _ (MW cI cJ A sS kS oS sS tS ik cA tp td fm tt vl wr bO sO (bokU sS n k0 (bO j) nU j 0) mV) := Eq.mp (congrArg (fun z => va_D _ z) hW) hD
        refine lv_istore (lv' := [(4, .int 0), (3, .int 0), (0, .ref (A 0)), (1, .int (nI j)), (2, .int (nI k0))]) hx hb dX4_book_36 hl (by decide) rfl (fun ls hl => ?_)
        refine w_loopH (pc := 38) (st := fun (i : Nat) => []) (μ := fun (i : Nat) => cl (sO j) - i) (I := fun (i : Nat) H locs ls => (i ≤ cl (sO j)) ∧ va_P D vwCl (MW cI cJ A (hoursF sS n i) kS oS sS tS ik cA tp td fm tt vl wr bO sO (bokU sS n k0 (bO j) nU j i) mV) H ∧ va_D (fun z9 => z9 ∈ ((MW cI cJ A sS kS oS aS tS ik cA tp td fm tt vl wr bO sO nU mV)).map (fun z8 => z8.1)) (MW cI cJ A (hoursF sS n i) kS oS sS tS ik cA tp td fm tt vl wr bO sO (bokU sS n k0 (bO j) nU j i) mV) ∧ va_S (fun z9 => z9 ∈ ((MW cI cJ A sS kS oS aS tS ik cA tp td fm tt vl wr bO sO nU mV)).map (fun z8 => z8.1)) s.heap H locs ∧ lv_has ls 5 [(0, .ref (A 0)), (1, .int (nI j)), (2, .int (nI k0)), (3, .int 0), (4, .int (nI i))]) ?_ (0) ⟨Nat.zero_le _, hP, hD, hS, lv_sub hl [2, 3, 4, 1, 0] rfl⟩
        rintro i H locs ls ⟨hi, hP, hD, hS, hl⟩ ih38
        try dsimp only at ih38 ⊢
        have hI := Inv_hours hI0 i
        refine lv_iload hx hb dX4_book_38 (lv_at hl 4 rfl) ?_
        refine lv_aload_n hx hb dX4_book_40 rfl (lv_at hl 0 rfl) ?_
        refine va_get (ci := 4) (v := .ref (A 9)) hx hb hts wx_X4 hown hK hP 0 rfl rfl 14 (by decide) (hts _ wf_X4_34) (fun _ h9 => h9) rfl dX4_book_41 ?_
        refine lv_iload_n hx hb dX4_book_44 rfl (lv_at hl 1 rfl) ?_
        refine ia_ld hx hb hK hP 9 0 rfl rfl j (rfl) (by omega) (by decide) dX4_book_45 ?_
        refine w_i (z := nI (cl (sO j))) (hz) ?_
        refine lv_icmp_ge (tgt := 86) hx hb dX4_book_46 rfl (fun c46 => ?_) (fun c46 => ?_)
        · replace c46 := nq_le (a := (cl (sO j))) (b := i) (by omega) (by omega) c46
          have hie : i = cl (sO j) := by omega
          have hE : bokU sS n k0 (bO j) nU j i = bokU sS n k0 (bO j) nU j (cl (sO j)) := by rw [hie]
          have hW : (MW cI cJ A (hoursF sS n i) kS oS sS tS ik cA tp td fm tt vl wr bO sO (bokU sS n k0 (bO j) nU j i) mV) = (MW cI cJ A (hoursF sS n i) kS oS sS tS ik cA tp td fm tt vl wr bO sO (bokU sS n k0 (bO j) nU j (cl (sO j))) mV) := congrArg (fun z => (MW cI cJ A (hoursF sS n i) kS oS sS tS ik cA tp td fm tt vl wr bO sO z mV)) hE
          have hP : va_P D vwCl (MW cI cJ A (hoursF sS n i) kS oS sS tS ik cA tp td fm tt vl wr bO sO (bokU sS n k0 (bO j) nU j (cl (sO j))) mV) H := Eq.mp (congrArg (fun z => va_P D vwCl z H) hW) hP
          have hD : va_D _ (MW cI cJ A (hoursF sS n i) kS oS sS tS ik cA tp td fm tt vl wr bO sO (bokU sS n k0 (bO j) nU j (cl (sO j))) mV) := Eq.mp (congrArg (fun z => va_D _ z) hW) hD
          refine lv_aload_n hx hb dX4_book_86 rfl (lv_at hl 0 rfl) ?_
          refine lv_aload_n hx hb dX4_book_87 rfl (lv_at hl 0 rfl) ?_
          refine va_get (ci := 4) (v := .ref (A 9)) hx hb hts wx_X4 hown hK hP 0 rfl rfl 14 (by decide) (hts _ wf_X4_34) (fun _ h9 => h9) rfl dX4_book_88 ?_
          refine lv_iload_n hx hb dX4_book_91 rfl (lv_at hl 1 rfl) ?_
          refine ia_ld hx hb hK hP 9 0 rfl rfl j (rfl) (by omega) (by decide) dX4_book_92 ?_
          refine w_i (z := nI (cl (sO j))) (hz) ?_
          refine mu_W (w := (MW cI cJ A (hoursF sS n i) kS oS sS tS ik cA tp td fm tt vl wr bO sO (bokU sS n k0 (bO j) nU j (cl (sO j))) mV)) (rest := []) S hK hP hD hS (k_X4_takesBack (nI (cl (sO j)))) gv_X4_174 hd_X4_takesBack ⟨Nat.le_of_ble_eq_true rfl, Nat.le_of_ble_eq_true rfl⟩ 4 rfl rfl rfl rfl hl.1 (lv_room (Nat.le_of_ble_eq_true rfl)) dX4_book_93 ⟨Nat.zero_le _, Nat.zero_le _⟩ (fun ov w' H locs hp hP hD hS => ?_)
          obtain ⟨rfl, rfl⟩ := hp
          refine W.eq (g2 := F0 m 96 ls [.int (nI (cl (sO j)))]) rfl ?_
          have hE : tS = bokT tS bO n (nI j) (nI k0) := by simp [bokR, bokT, bokN, wrT, bump, put9, b2i, c7, c21, c46, ej, hs1, hw, ek0, hz.symm, i_lt, -Int32.not_le, -Int32.not_lt]
          have hW : (MW cI cJ A sS kS oS sS tS ik cA tp td fm tt vl wr bO sO (bokU sS n k0 (bO j) nU j (cl (sO j))) mV) = (MW cI cJ A sS kS oS sS (bokT tS bO n (nI j) (nI k0)) ik cA tp td fm tt vl wr bO sO (bokU sS n k0 (bO j) nU j (cl (sO j))) mV) := congrArg (fun z => (MW cI cJ A sS kS oS sS z ik cA tp td fm tt vl wr bO sO (bokU sS n k0 (bO j) nU j (cl (sO j))) mV)) hE
          have hP : va_P D vwCl (MW cI cJ A sS kS oS sS (bokT tS bO n (nI j) (nI k0)) ik cA tp td fm tt vl wr bO sO (bokU sS n k0 (bO j) nU j (cl (sO j))) mV) H := Eq.mp (congrArg (fun z => va_P D vwCl z H) hW) hP
          have hD : va_D _ (MW cI cJ A sS kS oS sS (bokT tS bO n (nI j) (nI k0)) ik cA tp td fm tt vl wr bO sO (bokU sS n k0 (bO j) nU j (cl (sO j))) mV) := Eq.mp (congrArg (fun z => va_D _ z) hW) hD
          have hE : bokU sS n k0 (bO j) nU j (cl (sO j)) = bokN sS bO sO nU n (nI j) (nI k0) := by simp [bokR, bokT, bokN, wrT, bump, put9, b2i, c7, c21, c46, ej, hs1, hw, ek0, hz.symm, i_lt, -Int32.not_le, -Int32.not_lt]
          have hW : (MW cI cJ A sS kS oS sS (bokT tS bO n (nI j) (nI k0)) ik cA tp td fm tt vl wr bO sO (bokU sS n k0 (bO j) nU j (cl (sO j))) mV) = (MW cI cJ A sS kS oS sS (bokT tS bO n (nI j) (nI k0)) ik cA tp td fm tt vl wr bO sO (bokN sS bO sO nU n (nI j) (nI k0)) mV) := congrArg (fun z => (MW cI cJ A sS kS oS sS (bokT tS bO n (nI j) (nI k0)) ik cA tp td fm tt vl wr bO sO z mV)) hE
          have hP : va_P D vwCl (MW cI cJ A sS kS oS sS (bokT tS bO n (nI j) (nI k0)) ik cA tp td fm tt vl wr bO sO (bokN sS bO sO nU n (nI j) (nI k0)) mV) H := Eq.mp (congrArg (fun z => va_P D vwCl z H) hW) hP
          have hD : va_D _ (MW cI cJ A sS kS oS sS (bokT tS bO n (nI j) (nI k0)) ik cA tp td fm tt vl wr bO sO (bokN sS bO sO nU n (nI j) (nI k0)) mV) := Eq.mp (congrArg (fun z => va_D _ z) hW) hD
          exact mu_iret (MW cI cJ A sS kS oS sS (bokT tS bO n (nI j) (nI k0)) ik cA tp td fm tt vl wr bO sO (bokN sS bO sO nU n (nI j) (nI k0)) mV) hx hb hr hlk hP hS rfl (⟨sS, congrArg (fun z => some (Value.int z)) (by simp [bokR, bokT, bokN, wrT, bump, put9, b2i, c7, c21, c46, ej, hs1, hw, ek0, hz.symm, i_lt, -Int32.not_le, -Int32.not_lt]), rfl⟩) dX4_book_96
        · replace c46 := nq_nle (a := (cl (sO j))) (b := i) (by omega) (by omega) c46
          refine lv_aload_n hx hb dX4_book_49 rfl (lv_at hl 0 rfl) ?_
          refine va_get (ci := 4) (v := .ref (A 10)) hx hb hts wx_X4 hown hK hP 0 rfl rfl 15 (by decide) (hts _ wf_X4_37) (fun _ h9 => h9) rfl dX4_book_50 ?_
          refine lv_bipush (v := 40) hx hb dX4_book_53 rfl ?_
          refine lv_iload_n hx hb dX4_book_55 rfl (lv_at hl 1 rfl) ?_
          refine lv_imul hx hb dX4_book_56 ?_
          refine lv_iload hx hb dX4_book_57 (lv_at hl 4 rfl) ?_
          refine lv_iadd hx hb dX4_book_59 ?_
          refine lv_aload_n hx hb dX4_book_60 rfl (lv_at hl 0 rfl) ?_
          refine va_get (ci := 4) (v := .ref (A 8)) hx hb hts wx_X4 hown hK hP 0 rfl rfl 13 (by decide) (hts _ wf_X4_31) (fun _ h9 => h9) rfl dX4_book_61 ?_
          refine lv_iload_n hx hb dX4_book_64 rfl (lv_at hl 1 rfl) ?_
          refine ia_ld hx hb hK hP 8 0 rfl rfl j (rfl) (by omega) (by decide) dX4_book_65 ?_
          refine lv_aload_n hx hb dX4_book_66 rfl (lv_at hl 0 rfl) ?_
          refine lv_iload_n hx hb dX4_book_67 rfl (lv_at hl 2 rfl) ?_
          refine ro_V (w := (MW cI cJ A (hoursF sS n i) kS oS sS tS ik cA tp td fm tt vl wr bO sO (bokU sS n k0 (bO j) nU j i) mV)) (rest := [.int (bO j), .int ((40 * (nI j)) + (nI i)), .ref (A 10)]) S hK hP (k_X4_booked k0 (by omega)) gv_X4_331 hd_X4_booked ⟨Nat.le_of_ble_eq_true rfl, Nat.le_of_ble_eq_true rfl⟩ 4 rfl rfl rfl rfl hl.1 (lv_room (Nat.le_of_ble_eq_true rfl)) dX4_book_68 ⟨Nat.zero_le _, Nat.zero_le _⟩ ?_
          refine lv_i2l hx hb dX4_book_71 rfl ?_
          refine ro_S (w := []) (rest := [.int ((40 * (nI j)) + (nI i)), .ref (A 10)]) S hK va_P0 (k_X4_narrowed (bO j) (Int32.toInt64 (look (hoursF sS n i) k0))) gs_X4_327 hd_X4_narrowed ⟨Nat.le_of_ble_eq_true rfl, Nat.le_of_ble_eq_true rfl⟩ rfl hl.1 (lv_room (Nat.le_of_ble_eq_true rfl)) dX4_book_72 ⟨Nat.zero_le _, Nat.zero_le _⟩ ?_
          refine w_l (z := bokV sS n k0 (bO j) i) (rfl) ?_
          refine la_st hx hb hK hP hD hS 10 1 rfl rfl (40 * j + i) (nI_40 j i) (by omega) (by decide) dX4_book_75 (fun H locs hP hD hS => ?_)
          have hP : va_P D vwCl (MW cI cJ A (hoursF sS n i) kS oS sS tS ik cA tp td fm tt vl wr bO sO (vp_updL (bokU sS n k0 (bO j) nU j i) (40 * j + i) (bokV sS n k0 (bO j) i)) mV) H := hP
          have hD : va_D _ (MW cI cJ A (hoursF sS n i) kS oS sS tS ik cA tp td fm tt vl wr bO sO (vp_updL (bokU sS n k0 (bO j) nU j i) (40 * j + i) (bokV sS n k0 (bO j) i)) mV) := hD
          have hE : vp_updL (bokU sS n k0 (bO j) nU j i) (40 * j + i) (bokV sS n k0 (bO j) i) = bokU sS n k0 (bO j) nU j (i + 1) := bokU_s
          have hW : (MW cI cJ A (hoursF sS n i) kS oS sS tS ik cA tp td fm tt vl wr bO sO (vp_updL (bokU sS n k0 (bO j) nU j i) (40 * j + i) (bokV sS n k0 (bO j) i)) mV) = (MW cI cJ A (hoursF sS n i) kS oS sS tS ik cA tp td fm tt vl wr bO sO (bokU sS n k0 (bO j) nU j (i + 1)) mV) := congrArg (fun z => (MW cI cJ A (hoursF sS n i) kS oS sS tS ik cA tp td fm tt vl wr bO sO z mV)) hE
          have hP : va_P D vwCl (MW cI cJ A (hoursF sS n i) kS oS sS tS ik cA tp td fm tt vl wr bO sO (bokU sS n k0 (bO j) nU j (i + 1)) mV) H := Eq.mp (congrArg (fun z => va_P D vwCl z H) hW) hP
          have hD : va_D _ (MW cI cJ A (hoursF sS n i) kS oS sS tS ik cA tp td fm tt vl wr bO sO (bokU sS n k0 (bO j) nU j (i + 1)) mV) := Eq.mp (congrArg (fun z => va_D _ z) hW) hD
          refine lv_aload_n hx hb dX4_book_76 rfl (lv_at hl 0 rfl) ?_
          refine mu_W (w := (MW cI cJ A (hoursF sS n i) kS oS sS tS ik cA tp td fm tt vl wr bO sO (bokU sS n k0 (bO j) nU j (i + 1)) mV)) (rest := []) S hK hP hD hS (k_X4_hour n hI) gv_X4_159 hd_X4_hour ⟨Nat.le_of_ble_eq_true rfl, Nat.le_of_ble_eq_true rfl⟩ 4 rfl rfl rfl rfl hl.1 (lv_room (Nat.le_of_ble_eq_true rfl)) dX4_book_77 ⟨Nat.zero_le _, Nat.zero_le _⟩ (fun ov w' H locs hp hP hD hS => ?_)
          obtain ⟨rfl, rfl⟩ := hp
          refine W.eq (g2 := F0 m 80 ls []) rfl ?_
          have hE : hourF (hoursF sS n i) n = hoursF sS n (i + 1) := rfl
          have hW : (MW cI cJ A (hourF (hoursF sS n i) n) kS oS sS tS ik cA tp td fm tt vl wr bO sO (bokU sS n k0 (bO j) nU j (i + 1)) mV) = (MW cI cJ A (hoursF sS n (i + 1)) kS oS sS tS ik cA tp td fm tt vl wr bO sO (bokU sS n k0 (bO j) nU j (i + 1)) mV) := congrArg (fun z => (MW cI cJ A z kS oS sS tS ik cA tp td fm tt vl wr bO sO (bokU sS n k0 (bO j) nU j (i + 1)) mV)) hE
          have hP : va_P D vwCl (MW cI cJ A (hoursF sS n (i + 1)) kS oS sS tS ik cA tp td fm tt vl wr bO sO (bokU sS n k0 (bO j) nU j (i + 1)) mV) H := Eq.mp (congrArg (fun z => va_P D vwCl z H) hW) hP
          have hD : va_D _ (MW cI cJ A (hoursF sS n (i + 1)) kS oS sS tS ik cA tp td fm tt vl wr bO sO (bokU sS n k0 (bO j) nU j (i + 1)) mV) := Eq.mp (congrArg (fun z => va_D _ z) hW) hD
          refine lv_iinc (v := nI (i + 1)) (lv' := [(4, .int (nI (i + 1))), (0, .ref (A 0)), (1, .int (nI j)), (2, .int (nI k0)), (3, .int 0)]) hx hb dX4_book_80 hl (k := 4) rfl (nI_inc _) (by decide) rfl (fun ls hl => ?_)
          refine lv_goto (tgt := 38) hx hb dX4_book_83 rfl ?_
          exact ih38 (i + 1) _ _ ls (by first | omega | (dsimp only; omega)) ⟨(by omega), hP, hD, hS, lv_sub hl [1, 2, 3, 4, 0] rfl⟩
      · replace c21 := (b2i_0 _).mp c21
        refine lv_aload_n hx hb dX4_book_24 rfl (lv_at hl 1 rfl) ?_
        refine lv_ldc (v := (-1000000001)) hx hb hown (hts _ wq_X4_44) dX4_book_25 ?_
        refine mu_W (w := (MW cI cJ A sS kS oS aS tS ik cA tp td fm tt vl wr bO sO nU mV)) (rest := []) S hK hP hD hS (k_X4_finds 0 (-1000000001) (by decide) (by decide)) gv_X4_63 hd_X4_finds ⟨Nat.le_of_ble_eq_true rfl, Nat.le_of_ble_eq_true rfl⟩ 4 rfl rfl rfl rfl hl.1 (lv_room (Nat.le_of_ble_eq_true rfl)) dX4_book_27 ⟨Nat.zero_le _, Nat.zero_le _⟩ (fun ov w' H locs hp hP hD hS => ?_)
        obtain ⟨rfl, rfl⟩ := hp
        refine W.eq (g2 := F0 m 30 ls [.int (-1000000001)]) rfl ?_
        have hE : upd tS 0 (tS 0 + 1) = bokT tS bO n (nI j) f := by simp [bokR, bokT, bokN, wrT, bump, put9, b2i, c7, c21, ej, hs1, hw, i_lt, -Int32.not_le, -Int32.not_lt]
        have hW : (MW cI cJ A sS kS oS aS (upd tS 0 (tS 0 + 1)) ik cA tp td fm tt vl wr bO sO nU mV) = (MW cI cJ A sS kS oS aS (bokT tS bO n (nI j) f) ik cA tp td fm tt vl wr bO sO nU mV) := congrArg (fun z => (MW cI cJ A sS kS oS aS z ik cA tp td fm tt vl wr bO sO nU mV)) hE
        have hP : va_P D vwCl (MW cI cJ A sS kS oS aS (bokT tS bO n (nI j) f) ik cA tp td fm tt vl wr bO sO nU mV) H := Eq.mp (congrArg (fun z => va_P D vwCl z H) hW) hP
        have hD : va_D _ (MW cI cJ A sS kS oS aS (bokT tS bO n (nI j) f) ik cA tp td fm tt vl wr bO sO nU mV) := Eq.mp (congrArg (fun z => va_D _ z) hW) hD
        have hE : nU = bokN sS bO sO nU n (nI j) f := by simp [bokR, bokT, bokN, wrT, bump, put9, b2i, c7, c21, ej, hs1, hw, i_lt, -Int32.not_le, -Int32.not_lt]
        have hW : (MW cI cJ A sS kS oS aS (bokT tS bO n (nI j) f) ik cA tp td fm tt vl wr bO sO nU mV) = (MW cI cJ A sS kS oS aS (bokT tS bO n (nI j) f) ik cA tp td fm tt vl wr bO sO (bokN sS bO sO nU n (nI j) f) mV) := congrArg (fun z => (MW cI cJ A sS kS oS aS (bokT tS bO n (nI j) f) ik cA tp td fm tt vl wr bO sO z mV)) hE
        have hP : va_P D vwCl (MW cI cJ A sS kS oS aS (bokT tS bO n (nI j) f) ik cA tp td fm tt vl wr bO sO (bokN sS bO sO nU n (nI j) f) mV) H := Eq.mp (congrArg (fun z => va_P D vwCl z H) hW) hP
        have hD : va_D _ (MW cI cJ A sS kS oS aS (bokT tS bO n (nI j) f) ik cA tp td fm tt vl wr bO sO (bokN sS bO sO nU n (nI j) f) mV) := Eq.mp (congrArg (fun z => va_D _ z) hW) hD
        exact mu_iret (MW cI cJ A sS kS oS aS (bokT tS bO n (nI j) f) ik cA tp td fm tt vl wr bO sO (bokN sS bO sO nU n (nI j) f) mV) hx hb hr hlk hP hS rfl (⟨aS, congrArg (fun z => some (Value.int z)) (by simp [bokR, bokT, bokN, wrT, bump, put9, b2i, c7, c21, ej, hs1, hw, i_lt, -Int32.not_le, -Int32.not_lt]), rfl⟩) dX4_book_30
    · exact absurd c7 (by decide)

set_option maxHeartbeats 4000000 in
set_option maxRecDepth 100000 in
theorem k_X4_isBook (n : Nat) (j : Nat) (f : Nat) (z : Nat) (hI : Inv sS n) (hj : j < 4) (hf : f < n) (hz : sO j = nI z) (hz40 : z ≤ 40) : MU l D (tyA cI cJ cO) yX4_isBook cX4_isBook 4 ((some .boolean)) 8 175 [.ref (A 0), .int (nI j), .int (nI f)] (MW cI cJ A sS kS oS aS tS ik cA tp td fm tt vl wr bO sO nU mV) (fun ov w' => ∃ i' : Nat, ov = some (.int (b2i (allF (rdP sS n f nU j) z))) ∧ w' = (MW cI cJ A (hoursF sS n i') kS oS aS tS ik cA tp td fm tt vl wr bO sO nU mV)) := by
  refine MU.mk (by decide) (Nat.le_of_ble_eq_true rfl) ?_
  intro p e s m below meth c ls S hr hlk hP hK hD hS hl
  have S : CallFix p m c cX4_isBook 4 s _ WL RX4 := S
  obtain ⟨hx, hb, hml, hown, hts⟩ := id S
  have hl : lv_has ls 4 [(0, .ref (A 0)), (1, .int (nI j)), (2, .int (nI f))] := hl
  have h8 : n ≤ 8 := hI.1
  have hI0 := hI
  refine lv_iconst (v := 0) hx hb dX4_isBook_0 rfl ?_
  refine lv_istore_n (lv' := [(3, .int 0), (0, .ref (A 0)), (1, .int (nI j)), (2, .int (nI f))]) hx hb dX4_isBook_1 rfl hl (by decide) rfl (fun ls hl => ?_)
  refine w_loopH (pc := 2) (st := fun (i : Nat) => []) (μ := fun (i : Nat) => z - i) (I := fun (i : Nat) H locs ls => (i ≤ z) ∧ (∀ a, a < i → (rdP sS n f nU j) a = true) ∧ va_P D vwCl (MW cI cJ A (hoursF sS n i) kS oS aS tS ik cA tp td fm tt vl wr bO sO nU mV) H ∧ va_D (fun z9 => z9 ∈ ((MW cI cJ A sS kS oS aS tS ik cA tp td fm tt vl wr bO sO nU mV)).map (fun z8 => z8.1)) (MW cI cJ A (hoursF sS n i) kS oS aS tS ik cA tp td fm tt vl wr bO sO nU mV) ∧ va_S (fun z9 => z9 ∈ ((MW cI cJ A sS kS oS aS tS ik cA tp td fm tt vl wr bO sO nU mV)).map (fun z8 => z8.1)) s.heap H locs ∧ lv_has ls 4 [(0, .ref (A 0)), (1, .int (nI j)), (2, .int (nI f)), (3, .int (nI i))]) ?_ (0) ⟨Nat.zero_le _, fun a h => absurd h (Nat.not_lt_zero a), hP, hD, hS, lv_sub hl [1, 2, 3, 0] rfl⟩
  rintro i H locs ls ⟨hi, hall, hP, hD, hS, hl⟩ ih2
  try dsimp only at ih2 ⊢
  have hI := Inv_hours hI0 i
  refine lv_iload_n hx hb dX4_isBook_2 rfl (lv_at hl 3 rfl) ?_
  refine lv_aload_n hx hb dX4_isBook_3 rfl (lv_at hl 0 rfl) ?_
  refine va_get (ci := 4) (v := .ref (A 9)) hx hb hts wx_X4 hown hK hP 0 rfl rfl 14 (by decide) (hts _ wf_X4_34) (fun _ h9 => h9) rfl dX4_isBook_4 ?_
  refine lv_iload_n hx hb dX4_isBook_7 rfl (lv_at hl 1 rfl) ?_
  refine ia_ld hx hb hK hP 9 0 rfl rfl j (rfl) (by omega) (by decide) dX4_isBook_8 ?_
  refine w_i (z := nI z) (hz) ?_
  refine lv_icmp_ge (tgt := 45) hx hb dX4_isBook_9 rfl (fun c9 => ?_) (fun c9 => ?_)
  · replace c9 := nq_le (a := z) (b := i) (by omega) (by omega) c9
    refine lv_iconst (v := 1) hx hb dX4_isBook_45 rfl ?_
    exact mu_zret true (rfl) (MW cI cJ A (hoursF sS n i) kS oS aS tS ik cA tp td fm tt vl wr bO sO nU mV) hx hb hr hlk hP hS rfl (⟨i, congrArg (fun z => some (Value.int (b2i z))) (allF_t (fun a ha => hall a (by omega))).symm, rfl⟩) dX4_isBook_46
  · replace c9 := nq_nle (a := z) (b := i) (by omega) (by omega) c9
    refine lv_aload_n hx hb dX4_isBook_12 rfl (lv_at hl 0 rfl) ?_
    refine va_get (ci := 4) (v := .ref (A 10)) hx hb hts wx_X4 hown hK hP 0 rfl rfl 15 (by decide) (hts _ wf_X4_37) (fun _ h9 => h9) rfl dX4_isBook_13 ?_
    refine lv_bipush (v := 40) hx hb dX4_isBook_16 rfl ?_
    refine lv_iload_n hx hb dX4_isBook_18 rfl (lv_at hl 1 rfl) ?_
    refine lv_imul hx hb dX4_isBook_19 ?_
    refine lv_iload_n hx hb dX4_isBook_20 rfl (lv_at hl 3 rfl) ?_
    refine lv_iadd hx hb dX4_isBook_21 ?_
    refine la_ld hx hb hK hP 10 1 rfl rfl (40 * j + i) (nI_40 j i) (by omega) (by decide) dX4_isBook_22 ?_
    refine lv_aload_n hx hb dX4_isBook_23 rfl (lv_at hl 0 rfl) ?_
    refine lv_iload_n hx hb dX4_isBook_24 rfl (lv_at hl 2 rfl) ?_
    refine ro_V (w := (MW cI cJ A (hoursF sS n i) kS oS aS tS ik cA tp td fm tt vl wr bO sO nU mV)) (rest := [.long (nU (40 * j + i))]) S hK hP (k_X4_booked f (by omega)) gv_X4_331 hd_X4_booked ⟨Nat.le_of_ble_eq_true rfl, Nat.le_of_ble_eq_true rfl⟩ 4 rfl rfl rfl rfl hl.1 (lv_room (Nat.le_of_ble_eq_true rfl)) dX4_isBook_25 ⟨Nat.zero_le _, Nat.zero_le _⟩ ?_
    refine lv_i2l hx hb dX4_isBook_28 rfl ?_
    refine W.lcmp hx hb dX4_isBook_29 ?_
    refine lv_if_eq (tgt := 35) hx hb dX4_isBook_30 rfl (fun c30 => ?_) (fun c30 => ?_)
    · replace c30 := lc_eq c30
      refine lv_aload_n hx hb dX4_isBook_35 rfl (lv_at hl 0 rfl) ?_
      refine mu_W (w := (MW cI cJ A (hoursF sS n i) kS oS aS tS ik cA tp td fm tt vl wr bO sO nU mV)) (rest := []) S hK hP hD hS (k_X4_hour n hI) gv_X4_159 hd_X4_hour ⟨Nat.le_of_ble_eq_true rfl, Nat.le_of_ble_eq_true rfl⟩ 4 rfl rfl rfl rfl hl.1 (lv_room (Nat.le_of_ble_eq_true rfl)) dX4_isBook_36 ⟨Nat.zero_le _, Nat.zero_le _⟩ (fun ov w' H locs hp hP hD hS => ?_)
      obtain ⟨rfl, rfl⟩ := hp
      refine W.eq (g2 := F0 m 39 ls []) rfl ?_
      have hE : hourF (hoursF sS n i) n = hoursF sS n (i + 1) := rfl
      have hW : (MW cI cJ A (hourF (hoursF sS n i) n) kS oS aS tS ik cA tp td fm tt vl wr bO sO nU mV) = (MW cI cJ A (hoursF sS n (i + 1)) kS oS aS tS ik cA tp td fm tt vl wr bO sO nU mV) := congrArg (fun z => (MW cI cJ A z kS oS aS tS ik cA tp td fm tt vl wr bO sO nU mV)) hE
      have hP : va_P D vwCl (MW cI cJ A (hoursF sS n (i + 1)) kS oS aS tS ik cA tp td fm tt vl wr bO sO nU mV) H := Eq.mp (congrArg (fun z => va_P D vwCl z H) hW) hP
      have hD : va_D _ (MW cI cJ A (hoursF sS n (i + 1)) kS oS aS tS ik cA tp td fm tt vl wr bO sO nU mV) := Eq.mp (congrArg (fun z => va_D _ z) hW) hD
      refine lv_iinc (v := nI (i + 1)) (lv' := [(3, .int (nI (i + 1))), (0, .ref (A 0)), (1, .int (nI j)), (2, .int (nI f))]) hx hb dX4_isBook_39 hl (k := 3) rfl (nI_inc _) (by decide) rfl (fun ls hl => ?_)
      refine lv_goto (tgt := 2) hx hb dX4_isBook_42 rfl ?_
      exact ih2 (i + 1) _ _ ls (by first | omega | (dsimp only; omega)) ⟨(by omega), lt_s hall (decide_eq_true c30), hP, hD, hS, lv_sub hl [1, 2, 3, 0] rfl⟩
    · replace c30 := lc_neq c30
      refine lv_iconst (v := 0) hx hb dX4_isBook_33 rfl ?_
      exact mu_zret false (rfl) (MW cI cJ A (hoursF sS n i) kS oS aS tS ik cA tp td fm tt vl wr bO sO nU mV) hx hb hr hlk hP hS rfl (⟨i, congrArg (fun z => some (Value.int (b2i z))) (allF_f (decide_eq_false c30) (show i < z by omega)).symm, rfl⟩) dX4_isBook_34

set_option maxHeartbeats 4000000 in
set_option maxRecDepth 100000 in
theorem k_X4_read (n : Nat) (x : Int32) (f : Int32) (hI : Inv sS n) (hSh : ShI sO) : MU l D (tyA cI cJ cO) yX4_read cX4_read 6 ((some .int)) 9 198 [.ref (A 0), .int x, .int f] (MW cI cJ A sS kS oS aS tS ik cA tp td fm tt vl wr bO sO nU mV) (fun ov w' => ∃ aS' : Nat → Int32, ov = some (.int (rdR sS bO sO nU n x f)) ∧ w' = (MW cI cJ A sS kS oS aS' (bokT tS bO n x f) ik cA tp td fm tt vl wr bO sO nU mV)) := by
  refine MU.mk (by decide) (Nat.le_of_ble_eq_true rfl) ?_
  intro p e s m below meth c ls S hr hlk hP hK hD hS hl
  have S : CallFix p m c cX4_read 6 s _ WL RX4 := S
  obtain ⟨hx, hb, hml, hown, hts⟩ := id S
  have hl : lv_has ls 6 [(0, .ref (A 0)), (1, .int x), (2, .int f)] := hl
  have h8 : n ≤ 8 := hI.1
  have hI0 := hI
  refine lv_aload_n hx hb dX4_read_0 rfl (lv_at hl 0 rfl) ?_
  refine lv_iload_n hx hb dX4_read_1 rfl (lv_at hl 1 rfl) ?_
  refine ro_V (w := (MW cI cJ A sS kS oS aS tS ik cA tp td fm tt vl wr bO sO nU mV)) (rest := []) S hK hP (k_X4_wrongSheet x) gv_X4_324 hd_X4_wrongSheet ⟨Nat.le_of_ble_eq_true rfl, Nat.le_of_ble_eq_true rfl⟩ 4 rfl rfl rfl rfl hl.1 (lv_room (Nat.le_of_ble_eq_true rfl)) dX4_read_2 ⟨Nat.zero_le _, Nat.zero_le _⟩ ?_
  rcases wrong_c bO x with ⟨hs0, hw⟩ | ⟨j, hs0, rfl, hs1, hw⟩ | ⟨j, hs0, rfl, hs1, hw⟩
  · refine w_i (z := (-1000000001)) (hw) ?_
    refine lv_istore_n (lv' := [(3, .int (-1000000001)), (0, .ref (A 0)), (1, .int x), (2, .int f)]) hx hb dX4_read_5 rfl hl (by decide) rfl (fun ls hl => ?_)
    refine lv_iload_n hx hb dX4_read_6 rfl (lv_at hl 0 rfl) ?_
    refine lv_if_eq (tgt := 16) hx hb dX4_read_7 rfl (fun c7 => ?_) (fun c7 => ?_)
    · exact absurd c7 (by decide)
    · refine lv_aload_n hx hb dX4_read_10 rfl (lv_at hl 1 rfl) ?_
      refine lv_iload_n hx hb dX4_read_11 rfl (lv_at hl 0 rfl) ?_
      refine mu_W (w := (MW cI cJ A sS kS oS aS tS ik cA tp td fm tt vl wr bO sO nU mV)) (rest := []) S hK hP hD hS (k_X4_finds 0 (-1000000001) (by decide) (by decide)) gv_X4_63 hd_X4_finds ⟨Nat.le_of_ble_eq_true rfl, Nat.le_of_ble_eq_true rfl⟩ 4 rfl rfl rfl rfl hl.1 (lv_room (Nat.le_of_ble_eq_true rfl)) dX4_read_12 ⟨Nat.zero_le _, Nat.zero_le _⟩ (fun ov w' H locs hp hP hD hS => ?_)
      obtain ⟨rfl, rfl⟩ := hp
      refine W.eq (g2 := F0 m 15 ls [.int (-1000000001)]) rfl ?_
      have hE : upd tS 0 (tS 0 + 1) = bokT tS bO n x f := by simp [rdR, bokT, wrT, bump, put9, b2i, c7, hw, i_lt, -Int32.not_le, -Int32.not_lt]
      have hW : (MW cI cJ A sS kS oS aS (upd tS 0 (tS 0 + 1)) ik cA tp td fm tt vl wr bO sO nU mV) = (MW cI cJ A sS kS oS aS (bokT tS bO n x f) ik cA tp td fm tt vl wr bO sO nU mV) := congrArg (fun z => (MW cI cJ A sS kS oS aS z ik cA tp td fm tt vl wr bO sO nU mV)) hE
      have hP : va_P D vwCl (MW cI cJ A sS kS oS aS (bokT tS bO n x f) ik cA tp td fm tt vl wr bO sO nU mV) H := Eq.mp (congrArg (fun z => va_P D vwCl z H) hW) hP
      have hD : va_D _ (MW cI cJ A sS kS oS aS (bokT tS bO n x f) ik cA tp td fm tt vl wr bO sO nU mV) := Eq.mp (congrArg (fun z => va_D _ z) hW) hD
      exact mu_iret (MW cI cJ A sS kS oS aS (bokT tS bO n x f) ik cA tp td fm tt vl wr bO sO nU mV) hx hb hr hlk hP hS rfl (⟨aS, congrArg (fun z => some (Value.int z)) (by simp [rdR, bokT, wrT, bump, put9, b2i, c7, hw, i_lt, -Int32.not_le, -Int32.not_lt]), rfl⟩) dX4_read_15
  · have ej : cl (nI j) = j := cl_nI (by omega)
    refine w_i (z := (-1000000006)) (hw) ?_
    refine lv_istore_n (lv' := [(3, .int (-1000000006)), (0, .ref (A 0)), (1, .int (nI j)), (2, .int f)]) hx hb dX4_read_5 rfl hl (by decide) rfl (fun ls hl => ?_)
    refine lv_iload_n hx hb dX4_read_6 rfl (lv_at hl 0 rfl) ?_
    refine lv_if_eq (tgt := 16) hx hb dX4_read_7 rfl (fun c7 => ?_) (fun c7 => ?_)
    · exact absurd c7 (by decide)
    · refine lv_aload_n hx hb dX4_read_10 rfl (lv_at hl 1 rfl) ?_
      refine lv_iload_n hx hb dX4_read_11 rfl (lv_at hl 0 rfl) ?_
      refine mu_W (w := (MW cI cJ A sS kS oS aS tS ik cA tp td fm tt vl wr bO sO nU mV)) (rest := []) S hK hP hD hS (k_X4_finds 5 (-1000000006) (by decide) (by decide)) gv_X4_63 hd_X4_finds ⟨Nat.le_of_ble_eq_true rfl, Nat.le_of_ble_eq_true rfl⟩ 4 rfl rfl rfl rfl hl.1 (lv_room (Nat.le_of_ble_eq_true rfl)) dX4_read_12 ⟨Nat.zero_le _, Nat.zero_le _⟩ (fun ov w' H locs hp hP hD hS => ?_)
      obtain ⟨rfl, rfl⟩ := hp
      refine W.eq (g2 := F0 m 15 ls [.int (-1000000006)]) rfl ?_
      have hE : upd tS 5 (tS 5 + 1) = bokT tS bO n (nI j) f := by simp [rdR, bokT, wrT, bump, put9, b2i, c7, ej, hw, i_lt, -Int32.not_le, -Int32.not_lt]
      have hW : (MW cI cJ A sS kS oS aS (upd tS 5 (tS 5 + 1)) ik cA tp td fm tt vl wr bO sO nU mV) = (MW cI cJ A sS kS oS aS (bokT tS bO n (nI j) f) ik cA tp td fm tt vl wr bO sO nU mV) := congrArg (fun z => (MW cI cJ A sS kS oS aS z ik cA tp td fm tt vl wr bO sO nU mV)) hE
      have hP : va_P D vwCl (MW cI cJ A sS kS oS aS (bokT tS bO n (nI j) f) ik cA tp td fm tt vl wr bO sO nU mV) H := Eq.mp (congrArg (fun z => va_P D vwCl z H) hW) hP
      have hD : va_D _ (MW cI cJ A sS kS oS aS (bokT tS bO n (nI j) f) ik cA tp td fm tt vl wr bO sO nU mV) := Eq.mp (congrArg (fun z => va_D _ z) hW) hD
      exact mu_iret (MW cI cJ A sS kS oS aS (bokT tS bO n (nI j) f) ik cA tp td fm tt vl wr bO sO nU mV) hx hb hr hlk hP hS rfl (⟨aS, congrArg (fun z => some (Value.int z)) (by simp [rdR, bokT, wrT, bump, put9, b2i, c7, ej, hw, i_lt, -Int32.not_le, -Int32.not_lt]), rfl⟩) dX4_read_15
  · have ej : cl (nI j) = j := cl_nI (by omega)
    obtain ⟨hz, hz40⟩ := sh_n hSh hs0
    refine w_i (z := 0) (hw) ?_
    refine lv_istore_n (lv' := [(3, .int 0), (0, .ref (A 0)), (1, .int (nI j)), (2, .int f)]) hx hb dX4_read_5 rfl hl (by decide) rfl (fun ls hl => ?_)
    refine lv_iload_n hx hb dX4_read_6 rfl (lv_at hl 0 rfl) ?_
    refine lv_if_eq (tgt := 16) hx hb dX4_read_7 rfl (fun c7 => ?_) (fun c7 => ?_)
    · refine lv_aload_n hx hb dX4_read_16 rfl (lv_at hl 1 rfl) ?_
      refine lv_iload_n hx hb dX4_read_17 rfl (lv_at hl 3 rfl) ?_
      refine ro_V (w := (MW cI cJ A sS kS oS aS tS ik cA tp td fm tt vl wr bO sO nU mV)) (rest := []) S hK hP (k_X4_isFigure n f hI) gv_X4_128 hd_X4_isFigure ⟨Nat.le_of_ble_eq_true rfl, Nat.le_of_ble_eq_true rfl⟩ 4 rfl rfl rfl rfl hl.1 (lv_room (Nat.le_of_ble_eq_true rfl)) dX4_read_18 ⟨Nat.zero_le _, Nat.zero_le _⟩ ?_
      refine lv_if_ne (tgt := 31) hx hb dX4_read_21 rfl (fun c21 => ?_) (fun c21 => ?_)
      · replace c21 := b2i_n0 c21
        obtain ⟨k0, hk0, rfl⟩ := fig_in hI.1 c21
        have h8 := hI.1
        have ek0 : cl (nI k0) = k0 := cl_nI (by omega)
        refine lv_aload_n hx hb dX4_read_31 rfl (lv_at hl 1 rfl) ?_
        refine mu_W (w := (MW cI cJ A sS kS oS aS tS ik cA tp td fm tt vl wr bO sO nU mV)) (rest := []) S hK hP hD hS (k_X4_laysAside ) gv_X4_171 hd_X4_laysAside ⟨Nat.le_of_ble_eq_true rfl, Nat.le_of_ble_eq_true rfl⟩ 4 rfl rfl rfl rfl hl.1 (lv_room (Nat.le_of_ble_eq_true rfl)) dX4_read_32 ⟨Nat.zero_le _, Nat.zero_le _⟩ (fun ov w' H locs hp hP hD hS => ?_)
        obtain ⟨rfl, rfl⟩ := hp
        refine W.eq (g2 := F0 m 35 ls []) rfl ?_
        refine lv_iconst (v := 0) hx hb dX4_read_35 rfl ?_
        refine w_i (z := nI (cntF (rdQ sS n k0 nU j (cl (sO j))) 0)) (rfl) ?_
        refine lv_istore (lv' := [(4, .int (nI (cntF (rdQ sS n k0 nU j (cl (sO j))) 0))), (3, .int 0), (0, .ref (A 0)), (1, .int (nI j)), (2, .int (nI k0))]) hx hb dX4_read_36 hl (by decide) rfl (fun ls hl => ?_)
        refine lv_iconst (v := 0) hx hb dX4_read_38 rfl ?_
        refine lv_istore (lv' := [(5, .int 0), (4, .int (nI (cntF (rdQ sS n k0 nU j (cl (sO j))) 0))), (3, .int 0), (0, .ref (A 0)), (1, .int (nI j)), (2, .int (nI k0))]) hx hb dX4_read_39 hl (by decide) rfl (fun ls hl => ?_)
        refine w_loopH (pc := 41) (st := fun (i : Nat) => []) (μ := fun (i : Nat) => 30 - i) (I := fun (i : Nat) H locs ls => (i ≤ 30) ∧ va_P D vwCl (MW cI cJ A sS kS oS sS tS ik cA tp td fm tt vl wr bO sO nU mV) H ∧ va_D (fun z9 => z9 ∈ ((MW cI cJ A sS kS oS aS tS ik cA tp td fm tt vl wr bO sO nU mV)).map (fun z8 => z8.1)) (MW cI cJ A sS kS oS sS tS ik cA tp td fm tt vl wr bO sO nU mV) ∧ va_S (fun z9 => z9 ∈ ((MW cI cJ A sS kS oS aS tS ik cA tp td fm tt vl wr bO sO nU mV)).map (fun z8 => z8.1)) s.heap H locs ∧ lv_has ls 6 [(0, .ref (A 0)), (1, .int (nI j)), (2, .int (nI k0)), (3, .int 0), (4, .int (nI (cntF (rdQ sS n k0 nU j (cl (sO j))) i))), (5, .int (nI i))]) ?_ (0) ⟨Nat.zero_le _, hP, hD, hS, lv_sub hl [3, 4, 5, 2, 1, 0] rfl⟩
        rintro i H locs ls ⟨hi, hP, hD, hS, hl⟩ ih41
        try dsimp only at ih41 ⊢
        refine lv_iload hx hb dX4_read_41 (lv_at hl 5 rfl) ?_
        refine lv_bipush (v := 30) hx hb dX4_read_43 rfl ?_
        refine lv_icmp_ge (tgt := 105) hx hb dX4_read_45 rfl (fun c45 => ?_) (fun c45 => ?_)
        · replace c45 := nq_le (a := 30) (b := i) (by omega) (by omega) c45
          obtain rfl : i = 30 := by omega
          refine lv_iload hx hb dX4_read_105 (lv_at hl 4 rfl) ?_
          have hE : tS = bokT tS bO n (nI j) (nI k0) := by simp [rdR, bokT, wrT, bump, put9, b2i, c7, c21, c45, ej, hs1, hw, ek0, i_lt, -Int32.not_le, -Int32.not_lt]
          have hW : (MW cI cJ A sS kS oS sS tS ik cA tp td fm tt vl wr bO sO nU mV) = (MW cI cJ A sS kS oS sS (bokT tS bO n (nI j) (nI k0)) ik cA tp td fm tt vl wr bO sO nU mV) := congrArg (fun z => (MW cI cJ A sS kS oS sS z ik cA tp td fm tt vl wr bO sO nU mV)) hE
          have hP : va_P D vwCl (MW cI cJ A sS kS oS sS (bokT tS bO n (nI j) (nI k0)) ik cA tp td fm tt vl wr bO sO nU mV) H := Eq.mp (congrArg (fun z => va_P D vwCl z H) hW) hP
          have hD : va_D _ (MW cI cJ A sS kS oS sS (bokT tS bO n (nI j) (nI k0)) ik cA tp td fm tt vl wr bO sO nU mV) := Eq.mp (congrArg (fun z => va_D _ z) hW) hD
          exact mu_iret (MW cI cJ A sS kS oS sS (bokT tS bO n (nI j) (nI k0)) ik cA tp td fm tt vl wr bO sO nU mV) hx hb hr hlk hP hS rfl (⟨sS, congrArg (fun z => some (Value.int z)) (by simp [rdR, bokT, wrT, bump, put9, b2i, c7, c21, c45, ej, hs1, hw, ek0, i_lt, -Int32.not_le, -Int32.not_lt]), rfl⟩) dX4_read_107
        · replace c45 := nq_nle (a := 30) (b := i) (by omega) (by omega) c45
          have hi30 : i < 30 := by omega
          refine lv_aload_n hx hb dX4_read_48 rfl (lv_at hl 0 rfl) ?_
          refine va_get (ci := 4) (v := .ref (A 1)) hx hb hts wx_X4 hown hK hP 0 rfl rfl 0 (by decide) (hts _ wf_X4_7) (fun _ h9 => h9) rfl dX4_read_49 ?_
          refine lv_iload_n hx hb dX4_read_52 rfl (lv_at hl 2 rfl) ?_
          refine lv_iconst (v := 0) hx hb dX4_read_53 rfl ?_
          refine ro_S (w := []) (rest := [.ref (A 1)]) S hK va_P0 (k_X4_spot k0 0) gs_X4_45 hd_X4_spot ⟨Nat.le_of_ble_eq_true rfl, Nat.le_of_ble_eq_true rfl⟩ rfl hl.1 (lv_room (Nat.le_of_ble_eq_true rfl)) dX4_read_54 ⟨Nat.zero_le _, Nat.zero_le _⟩ ?_
          refine lv_iload hx hb dX4_read_57 (lv_at hl 5 rfl) ?_
          refine lv_iconst (v := 5) hx hb dX4_read_59 rfl ?_
          refine lv_idiv hx hb dX4_read_60 (by decide) ?_
          refine w_i (z := nI (i / 5)) (pk_div (d := 5) (by omega) (by decide) (by decide)) ?_
          refine ia_st hx hb hK hP hD hS 1 0 rfl rfl (9 * k0 + 0 + 3) (rfl) (by omega) (by decide) dX4_read_61 (fun H locs hP hD hS => ?_)
          have hP : va_P D vwCl (MW cI cJ A (upd sS (9 * k0 + 0 + 3) (nI (i / 5))) kS oS sS tS ik cA tp td fm tt vl wr bO sO nU mV) H := hP
          have hD : va_D _ (MW cI cJ A (upd sS (9 * k0 + 0 + 3) (nI (i / 5))) kS oS sS tS ik cA tp td fm tt vl wr bO sO nU mV) := hD
          refine lv_aload_n hx hb dX4_read_62 rfl (lv_at hl 0 rfl) ?_
          refine va_get (ci := 4) (v := .ref (A 1)) hx hb hts wx_X4 hown hK hP 0 rfl rfl 0 (by decide) (hts _ wf_X4_7) (fun _ h9 => h9) rfl dX4_read_63 ?_
          refine lv_iload_n hx hb dX4_read_66 rfl (lv_at hl 2 rfl) ?_
          refine lv_iconst (v := 5) hx hb dX4_read_67 rfl ?_
          refine ro_S (w := []) (rest := [.ref (A 1)]) S hK va_P0 (k_X4_spot k0 5) gs_X4_45 hd_X4_spot ⟨Nat.le_of_ble_eq_true rfl, Nat.le_of_ble_eq_true rfl⟩ rfl hl.1 (lv_room (Nat.le_of_ble_eq_true rfl)) dX4_read_68 ⟨Nat.zero_le _, Nat.zero_le _⟩ ?_
          refine lv_iload hx hb dX4_read_71 (lv_at hl 5 rfl) ?_
          refine lv_iconst (v := 5) hx hb dX4_read_73 rfl ?_
          refine lv_irem hx hb dX4_read_74 (by decide) ?_
          refine w_i (z := nI (i % 5)) (pk_rem (d := 5) (by omega) (by decide) (by decide)) ?_
          refine ia_st hx hb hK hP hD hS 1 0 rfl rfl (9 * k0 + 5 + 3) (rfl) (by omega) (by decide) dX4_read_75 (fun H locs hP hD hS => ?_)
          have hP : va_P D vwCl (MW cI cJ A (upd (upd sS (9 * k0 + 0 + 3) (nI (i / 5))) (9 * k0 + 5 + 3) (nI (i % 5))) kS oS sS tS ik cA tp td fm tt vl wr bO sO nU mV) H := hP
          have hD : va_D _ (MW cI cJ A (upd (upd sS (9 * k0 + 0 + 3) (nI (i / 5))) (9 * k0 + 5 + 3) (nI (i % 5))) kS oS sS tS ik cA tp td fm tt vl wr bO sO nU mV) := hD
          have hE : upd (upd sS (9 * k0 + 0 + 3) (nI (i / 5))) (9 * k0 + 5 + 3) (nI (i % 5)) = rdG sS k0 i := rfl
          have hW : (MW cI cJ A (upd (upd sS (9 * k0 + 0 + 3) (nI (i / 5))) (9 * k0 + 5 + 3) (nI (i % 5))) kS oS sS tS ik cA tp td fm tt vl wr bO sO nU mV) = (MW cI cJ A (rdG sS k0 i) kS oS sS tS ik cA tp td fm tt vl wr bO sO nU mV) := congrArg (fun z => (MW cI cJ A z kS oS sS tS ik cA tp td fm tt vl wr bO sO nU mV)) hE
          have hP : va_P D vwCl (MW cI cJ A (rdG sS k0 i) kS oS sS tS ik cA tp td fm tt vl wr bO sO nU mV) H := Eq.mp (congrArg (fun z => va_P D vwCl z H) hW) hP
          have hD : va_D _ (MW cI cJ A (rdG sS k0 i) kS oS sS tS ik cA tp td fm tt vl wr bO sO nU mV) := Eq.mp (congrArg (fun z => va_D _ z) hW) hD
          have hI := Inv_rd (f := k0) hI0 hi30
          refine lv_aload_n hx hb dX4_read_76 rfl (lv_at hl 0 rfl) ?_
          refine lv_iload hx hb dX4_read_77 (lv_at hl 4 rfl) ?_
          refine lv_aload_n hx hb dX4_read_79 rfl (lv_at hl 0 rfl) ?_
          refine lv_iload_n hx hb dX4_read_80 rfl (lv_at hl 1 rfl) ?_
          refine lv_iload_n hx hb dX4_read_81 rfl (lv_at hl 2 rfl) ?_
          refine mu_W (w := (MW cI cJ A (rdG sS k0 i) kS oS sS tS ik cA tp td fm tt vl wr bO sO nU mV)) (rest := [.int (nI (cntF (rdQ sS n k0 nU j (cl (sO j))) i)), .ref (A 0)]) S hK hP hD hS (k_X4_isBook n j k0 (cl (sO j)) hI (by omega) (by omega) hz hz40) gv_X4_334 hd_X4_isBook ⟨Nat.le_of_ble_eq_true rfl, Nat.le_of_ble_eq_true rfl⟩ 4 rfl rfl rfl rfl hl.1 (lv_room (Nat.le_of_ble_eq_true rfl)) dX4_read_82 ⟨Nat.zero_le _, Nat.zero_le _⟩ (fun ov w' H locs hp hP hD hS => ?_)
          obtain ⟨i9, rfl, rfl⟩ := hp
          refine W.eq (g2 := F0 m 85 ls [.int (b2i (allF (rdP (rdG sS k0 i) n k0 nU j) (cl (sO j)))), .int (nI (cntF (rdQ sS n k0 nU j (cl (sO j))) i)), .ref (A 0)]) rfl ?_
          refine lv_if_eq (tgt := 92) hx hb dX4_read_85 rfl (fun c85 => ?_) (fun c85 => ?_)
          · replace c85 := (b2i_0 _).mp c85
            refine lv_iconst (v := 0) hx hb dX4_read_92 rfl ?_
            refine lv_iadd hx hb dX4_read_93 ?_
            refine mu_W (w := (MW cI cJ A (hoursF (rdG sS k0 i) n i9) kS oS sS tS ik cA tp td fm tt vl wr bO sO nU mV)) (rest := []) S hK hP hD hS (k_X4_takesBack ((nI (cntF (rdQ sS n k0 nU j (cl (sO j))) i)) + 0)) gv_X4_174 hd_X4_takesBack ⟨Nat.le_of_ble_eq_true rfl, Nat.le_of_ble_eq_true rfl⟩ 4 rfl rfl rfl rfl hl.1 (lv_room (Nat.le_of_ble_eq_true rfl)) dX4_read_94 ⟨Nat.zero_le _, Nat.zero_le _⟩ (fun ov w' H locs hp hP hD hS => ?_)
            obtain ⟨rfl, rfl⟩ := hp
            refine W.eq (g2 := F0 m 97 ls [.int ((nI (cntF (rdQ sS n k0 nU j (cl (sO j))) i)) + 0)]) rfl ?_
            refine w_i (z := nI (cntF (rdQ sS n k0 nU j (cl (sO j))) (i + 1))) (cntF_f0 c85) ?_
            have hI := hI0
            refine lv_istore (lv' := [(4, .int (nI (cntF (rdQ sS n k0 nU j (cl (sO j))) (i + 1)))), (0, .ref (A 0)), (1, .int (nI j)), (2, .int (nI k0)), (3, .int 0), (5, .int (nI i))]) hx hb dX4_read_97 hl (by decide) rfl (fun ls hl => ?_)
            refine lv_iinc (v := nI (i + 1)) (lv' := [(5, .int (nI (i + 1))), (4, .int (nI (cntF (rdQ sS n k0 nU j (cl (sO j))) (i + 1)))), (0, .ref (A 0)), (1, .int (nI j)), (2, .int (nI k0)), (3, .int 0)]) hx hb dX4_read_99 hl (k := 5) rfl (nI_inc _) (by decide) rfl (fun ls hl => ?_)
            refine lv_goto (tgt := 41) hx hb dX4_read_102 rfl ?_
            exact ih41 (i + 1) _ _ ls (by first | omega | (dsimp only; omega)) ⟨(by omega), hP, hD, hS, lv_sub hl [2, 3, 4, 5, 1, 0] rfl⟩
          · replace c85 := b2i_n0 c85
            refine lv_iconst (v := 1) hx hb dX4_read_88 rfl ?_
            refine lv_goto (tgt := 93) hx hb dX4_read_89 rfl ?_
            refine lv_iadd hx hb dX4_read_93 ?_
            refine mu_W (w := (MW cI cJ A (hoursF (rdG sS k0 i) n i9) kS oS sS tS ik cA tp td fm tt vl wr bO sO nU mV)) (rest := []) S hK hP hD hS (k_X4_takesBack ((nI (cntF (rdQ sS n k0 nU j (cl (sO j))) i)) + 1)) gv_X4_174 hd_X4_takesBack ⟨Nat.le_of_ble_eq_true rfl, Nat.le_of_ble_eq_true rfl⟩ 4 rfl rfl rfl rfl hl.1 (lv_room (Nat.le_of_ble_eq_true rfl)) dX4_read_94 ⟨Nat.zero_le _, Nat.zero_le _⟩ (fun ov w' H locs hp hP hD hS => ?_)
            obtain ⟨rfl, rfl⟩ := hp
            refine W.eq (g2 := F0 m 97 ls [.int ((nI (cntF (rdQ sS n k0 nU j (cl (sO j))) i)) + 1)]) rfl ?_
            refine w_i (z := nI (cntF (rdQ sS n k0 nU j (cl (sO j))) (i + 1))) (cntF_t c85) ?_
            have hI := hI0
            refine lv_istore (lv' := [(4, .int (nI (cntF (rdQ sS n k0 nU j (cl (sO j))) (i + 1)))), (0, .ref (A 0)), (1, .int (nI j)), (2, .int (nI k0)), (3, .int 0), (5, .int (nI i))]) hx hb dX4_read_97 hl (by decide) rfl (fun ls hl => ?_)
            refine lv_iinc (v := nI (i + 1)) (lv' := [(5, .int (nI (i + 1))), (4, .int (nI (cntF (rdQ sS n k0 nU j (cl (sO j))) (i + 1)))), (0, .ref (A 0)), (1, .int (nI j)), (2, .int (nI k0)), (3, .int 0)]) hx hb dX4_read_99 hl (k := 5) rfl (nI_inc _) (by decide) rfl (fun ls hl => ?_)
            refine lv_goto (tgt := 41) hx hb dX4_read_102 rfl ?_
            exact ih41 (i + 1) _ _ ls (by first | omega | (dsimp only; omega)) ⟨(by omega), hP, hD, hS, lv_sub hl [2, 3, 4, 5, 1, 0] rfl⟩
      · replace c21 := (b2i_0 _).mp c21
        refine lv_aload_n hx hb dX4_read_24 rfl (lv_at hl 1 rfl) ?_
        refine lv_ldc (v := (-1000000001)) hx hb hown (hts _ wq_X4_44) dX4_read_25 ?_
        refine mu_W (w := (MW cI cJ A sS kS oS aS tS ik cA tp td fm tt vl wr bO sO nU mV)) (rest := []) S hK hP hD hS (k_X4_finds 0 (-1000000001) (by decide) (by decide)) gv_X4_63 hd_X4_finds ⟨Nat.le_of_ble_eq_true rfl, Nat.le_of_ble_eq_true rfl⟩ 4 rfl rfl rfl rfl hl.1 (lv_room (Nat.le_of_ble_eq_true rfl)) dX4_read_27 ⟨Nat.zero_le _, Nat.zero_le _⟩ (fun ov w' H locs hp hP hD hS => ?_)
        obtain ⟨rfl, rfl⟩ := hp
        refine W.eq (g2 := F0 m 30 ls [.int (-1000000001)]) rfl ?_
        have hE : upd tS 0 (tS 0 + 1) = bokT tS bO n (nI j) f := by simp [rdR, bokT, wrT, bump, put9, b2i, c7, c21, ej, hs1, hw, i_lt, -Int32.not_le, -Int32.not_lt]
        have hW : (MW cI cJ A sS kS oS aS (upd tS 0 (tS 0 + 1)) ik cA tp td fm tt vl wr bO sO nU mV) = (MW cI cJ A sS kS oS aS (bokT tS bO n (nI j) f) ik cA tp td fm tt vl wr bO sO nU mV) := congrArg (fun z => (MW cI cJ A sS kS oS aS z ik cA tp td fm tt vl wr bO sO nU mV)) hE
        have hP : va_P D vwCl (MW cI cJ A sS kS oS aS (bokT tS bO n (nI j) f) ik cA tp td fm tt vl wr bO sO nU mV) H := Eq.mp (congrArg (fun z => va_P D vwCl z H) hW) hP
        have hD : va_D _ (MW cI cJ A sS kS oS aS (bokT tS bO n (nI j) f) ik cA tp td fm tt vl wr bO sO nU mV) := Eq.mp (congrArg (fun z => va_D _ z) hW) hD
        exact mu_iret (MW cI cJ A sS kS oS aS (bokT tS bO n (nI j) f) ik cA tp td fm tt vl wr bO sO nU mV) hx hb hr hlk hP hS rfl (⟨aS, congrArg (fun z => some (Value.int z)) (by simp [rdR, bokT, wrT, bump, put9, b2i, c7, c21, ej, hs1, hw, i_lt, -Int32.not_le, -Int32.not_lt]), rfl⟩) dX4_read_30
    · exact absurd c7 (by decide)

end
