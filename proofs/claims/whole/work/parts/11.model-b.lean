section
variable {l : Launch} {D : va_G} {cI cJ cO : ClassId} {A : Nat → Nat} {sS kS oS aS tS : Nat → Int32} {ik : Int32} {cA tp : Nat → Int32} {td fm tt vl wr : Int32} {bO sO : Nat → Int32} {nU mV : Nat → Int64}

set_option maxHeartbeats 4000000 in
set_option maxRecDepth 100000 in
theorem k_X4_finds (k : Nat) (x : Int32) (hk : k < 7) (hv : x = fnd k) : MU l D (tyA cI cJ cO) yX4_finds cX4_finds 2 ((some .int)) 0 0 [.ref (A 0), .int x] (MW cI cJ A sS kS oS aS tS ik cA tp td fm tt vl wr bO sO nU mV) (fun ov w' => ov = some (.int x) ∧ w' = (MW cI cJ A sS kS oS aS (upd tS k (tS k + 1)) ik cA tp td fm tt vl wr bO sO nU mV)) := by
  refine MU.mk (by decide) (Nat.le_of_ble_eq_true rfl) ?_
  intro p e s m below meth c ls S hr hlk hP hK hD hS hl
  have S : CallFix p m c cX4_finds 2 s _ WL RX4 := S
  obtain ⟨hx, hb, hml, hown, hts⟩ := id S
  have hl : lv_has ls 2 [(0, .ref (A 0)), (1, .int x)] := hl
  refine lv_aload_n hx hb dX4_finds_0 rfl (lv_at hl 0 rfl) ?_
  refine va_get (ci := 4) (v := .ref (A 5)) hx hb hts wx_X4 hown hK hP 0 rfl rfl 4 (by decide) (hts _ wf_X4_22) (fun _ h9 => h9) rfl dX4_finds_1 ?_
  refine lv_ldc (v := (-1000000001)) hx hb hown (hts _ wq_X4_44) dX4_finds_4 ?_
  refine lv_iload_n hx hb dX4_finds_6 rfl (lv_at hl 1 rfl) ?_
  refine lv_isub hx hb dX4_finds_7 ?_
  refine lv_dup2_11 hx hb dX4_finds_8 rfl rfl ?_
  refine ia_ld hx hb hK hP 5 0 rfl rfl k (by rw [hv]; exact fnd_k k) (by omega) (by decide) dX4_finds_9 ?_
  refine lv_iconst (v := 1) hx hb dX4_finds_10 rfl ?_
  refine lv_iadd hx hb dX4_finds_11 ?_
  refine ia_st hx hb hK hP hD hS 5 0 rfl rfl k (by rw [hv]; exact fnd_k k) (by omega) (by decide) dX4_finds_12 (fun H locs hP hD hS => ?_)
  have hP : va_P D vwCl (MW cI cJ A sS kS oS aS (upd tS k ((tS k) + 1)) ik cA tp td fm tt vl wr bO sO nU mV) H := hP
  have hD : va_D _ (MW cI cJ A sS kS oS aS (upd tS k ((tS k) + 1)) ik cA tp td fm tt vl wr bO sO nU mV) := hD
  refine lv_iload_n hx hb dX4_finds_13 rfl (lv_at hl 1 rfl) ?_
  exact mu_iret (MW cI cJ A sS kS oS aS (upd tS k ((tS k) + 1)) ik cA tp td fm tt vl wr bO sO nU mV) hx hb hr hlk hP hS rfl (⟨rfl, rfl⟩) dX4_finds_14

set_option maxHeartbeats 4000000 in
set_option maxRecDepth 100000 in
theorem k_X4_becomes (k : Nat) (v : Int32) (hk : k < 75) : MU l D (tyA cI cJ cO) yX4_becomes cX4_becomes 4 ((some .int)) 0 0 [.ref (A 0), .int (nI k), .int v] (MW cI cJ A sS kS oS aS tS ik cA tp td fm tt vl wr bO sO nU mV) (fun ov w' => ov = some (.int (sS k)) ∧ w' = (MW cI cJ A (upd sS k v) kS oS aS tS ik cA tp td fm tt vl wr bO sO nU mV)) := by
  refine MU.mk (by decide) (Nat.le_of_ble_eq_true rfl) ?_
  intro p e s m below meth c ls S hr hlk hP hK hD hS hl
  have S : CallFix p m c cX4_becomes 4 s _ WL RX4 := S
  obtain ⟨hx, hb, hml, hown, hts⟩ := id S
  have hl : lv_has ls 4 [(0, .ref (A 0)), (1, .int (nI k)), (2, .int v)] := hl
  refine lv_aload_n hx hb dX4_becomes_0 rfl (lv_at hl 0 rfl) ?_
  refine va_get (ci := 4) (v := .ref (A 1)) hx hb hts wx_X4 hown hK hP 0 rfl rfl 0 (by decide) (hts _ wf_X4_7) (fun _ h9 => h9) rfl dX4_becomes_1 ?_
  refine lv_iload_n hx hb dX4_becomes_4 rfl (lv_at hl 1 rfl) ?_
  refine ia_ld hx hb hK hP 1 0 rfl rfl k (rfl) (by omega) (by decide) dX4_becomes_5 ?_
  refine lv_istore_n (lv' := [(3, .int (sS k)), (0, .ref (A 0)), (1, .int (nI k)), (2, .int v)]) hx hb dX4_becomes_6 rfl hl (by decide) rfl (fun ls hl => ?_)
  refine lv_aload_n hx hb dX4_becomes_7 rfl (lv_at hl 1 rfl) ?_
  refine va_get (ci := 4) (v := .ref (A 1)) hx hb hts wx_X4 hown hK hP 0 rfl rfl 0 (by decide) (hts _ wf_X4_7) (fun _ h9 => h9) rfl dX4_becomes_8 ?_
  refine lv_iload_n hx hb dX4_becomes_11 rfl (lv_at hl 2 rfl) ?_
  refine lv_iload_n hx hb dX4_becomes_12 rfl (lv_at hl 3 rfl) ?_
  refine ia_st hx hb hK hP hD hS 1 0 rfl rfl k (rfl) (by omega) (by decide) dX4_becomes_13 (fun H locs hP hD hS => ?_)
  have hP : va_P D vwCl (MW cI cJ A (upd sS k v) kS oS aS tS ik cA tp td fm tt vl wr bO sO nU mV) H := hP
  have hD : va_D _ (MW cI cJ A (upd sS k v) kS oS aS tS ik cA tp td fm tt vl wr bO sO nU mV) := hD
  refine lv_iload_n hx hb dX4_becomes_14 rfl (lv_at hl 0 rfl) ?_
  exact mu_iret (MW cI cJ A (upd sS k v) kS oS aS tS ik cA tp td fm tt vl wr bO sO nU mV) hx hb hr hlk hP hS rfl (⟨rfl, rfl⟩) dX4_becomes_15

set_option maxHeartbeats 4000000 in
set_option maxRecDepth 100000 in
theorem k_X4_saves : MU l D (tyA cI cJ cO) yX4_saves cX4_saves 2 none 0 0 [.ref (A 0)] (MW cI cJ A sS kS oS aS tS ik cA tp td fm tt vl wr bO sO nU mV) (fun ov w' => ov = none ∧ w' = (MW cI cJ A sS kS sS aS tS ik cA tp td fm tt vl wr bO sO nU mV)) := by
  refine MU.mk (by decide) (Nat.le_of_ble_eq_true rfl) ?_
  intro p e s m below meth c ls S hr hlk hP hK hD hS hl
  have S : CallFix p m c cX4_saves 2 s _ WL RX4 := S
  obtain ⟨hx, hb, hml, hown, hts⟩ := id S
  have hl : lv_has ls 2 [(0, .ref (A 0))] := hl
  refine lv_iconst (v := 0) hx hb dX4_saves_0 rfl ?_
  have hE : oS = fillF sS oS 0 := fillF_0 _ _
  have hW : (MW cI cJ A sS kS oS aS tS ik cA tp td fm tt vl wr bO sO nU mV) = (MW cI cJ A sS kS (fillF sS oS 0) aS tS ik cA tp td fm tt vl wr bO sO nU mV) := congrArg (fun z => (MW cI cJ A sS kS z aS tS ik cA tp td fm tt vl wr bO sO nU mV)) hE
  have hP : va_P D vwCl (MW cI cJ A sS kS (fillF sS oS 0) aS tS ik cA tp td fm tt vl wr bO sO nU mV) s.heap := Eq.mp (congrArg (fun z => va_P D vwCl z s.heap) hW) hP
  have hD : va_D _ (MW cI cJ A sS kS (fillF sS oS 0) aS tS ik cA tp td fm tt vl wr bO sO nU mV) := Eq.mp (congrArg (fun z => va_D _ z) hW) hD
  refine lv_istore_n (lv' := [(1, .int 0), (0, .ref (A 0))]) hx hb dX4_saves_1 rfl hl (by decide) rfl (fun ls hl => ?_)
  refine w_loopH (pc := 2) (st := fun (i : Nat) => []) (μ := fun (i : Nat) => 75 - i) (I := fun (i : Nat) H locs ls => (i ≤ 75) ∧ va_P D vwCl (MW cI cJ A sS kS (fillF sS oS i) aS tS ik cA tp td fm tt vl wr bO sO nU mV) H ∧ va_D (fun z9 => z9 ∈ ((MW cI cJ A sS kS oS aS tS ik cA tp td fm tt vl wr bO sO nU mV)).map (fun z8 => z8.1)) (MW cI cJ A sS kS (fillF sS oS i) aS tS ik cA tp td fm tt vl wr bO sO nU mV) ∧ va_S (fun z9 => z9 ∈ ((MW cI cJ A sS kS oS aS tS ik cA tp td fm tt vl wr bO sO nU mV)).map (fun z8 => z8.1)) s.heap H locs ∧ lv_has ls 2 [(0, .ref (A 0)), (1, .int (nI i))]) ?_ (0) ⟨Nat.zero_le _, hP, hD, hS, lv_sub hl [1, 0] rfl⟩
  rintro i H locs ls ⟨hi, hP, hD, hS, hl⟩ ih2
  try dsimp only at ih2 ⊢
  refine lv_iload_n hx hb dX4_saves_2 rfl (lv_at hl 1 rfl) ?_
  refine lv_bipush (v := 75) hx hb dX4_saves_3 rfl ?_
  refine lv_icmp_ge (tgt := 26) hx hb dX4_saves_5 rfl (fun c5 => ?_) (fun c5 => ?_)
  · replace c5 := nq_le (a := 75) (b := i) (by omega) (by omega) c5
    have hP : va_P D vwCl (MW cI cJ A sS kS sS aS tS ik cA tp td fm tt vl wr bO sO nU mV) H := hP.fi 3 sS rfl (fun j hj => fillF_in (by omega))
    have hD : va_D _ (MW cI cJ A sS kS sS aS tS ik cA tp td fm tt vl wr bO sO nU mV) := hD.addr rfl
    exact mu_vret (MW cI cJ A sS kS sS aS tS ik cA tp td fm tt vl wr bO sO nU mV) hx hb hr hlk hP hS rfl (⟨rfl, rfl⟩) dX4_saves_26
  · replace c5 := nq_nle (a := 75) (b := i) (by omega) (by omega) c5
    refine lv_aload_n hx hb dX4_saves_8 rfl (lv_at hl 0 rfl) ?_
    refine va_get (ci := 4) (v := .ref (A 3)) hx hb hts wx_X4 hown hK hP 0 rfl rfl 2 (by decide) (hts _ wf_X4_16) (fun _ h9 => h9) rfl dX4_saves_9 ?_
    refine lv_iload_n hx hb dX4_saves_12 rfl (lv_at hl 1 rfl) ?_
    refine lv_aload_n hx hb dX4_saves_13 rfl (lv_at hl 0 rfl) ?_
    refine va_get (ci := 4) (v := .ref (A 1)) hx hb hts wx_X4 hown hK hP 0 rfl rfl 0 (by decide) (hts _ wf_X4_7) (fun _ h9 => h9) rfl dX4_saves_14 ?_
    refine lv_iload_n hx hb dX4_saves_17 rfl (lv_at hl 1 rfl) ?_
    refine ia_ld hx hb hK hP 1 0 rfl rfl i (rfl) (by omega) (by decide) dX4_saves_18 ?_
    refine ia_st hx hb hK hP hD hS 3 0 rfl rfl i (rfl) (by omega) (by decide) dX4_saves_19 (fun H locs hP hD hS => ?_)
    have hP : va_P D vwCl (MW cI cJ A sS kS (upd (fillF sS oS i) i (sS i)) aS tS ik cA tp td fm tt vl wr bO sO nU mV) H := hP
    have hD : va_D _ (MW cI cJ A sS kS (upd (fillF sS oS i) i (sS i)) aS tS ik cA tp td fm tt vl wr bO sO nU mV) := hD
    have hE : upd (fillF sS oS i) i (sS i) = fillF sS oS (i + 1) := fillF_s _ _ _
    have hW : (MW cI cJ A sS kS (upd (fillF sS oS i) i (sS i)) aS tS ik cA tp td fm tt vl wr bO sO nU mV) = (MW cI cJ A sS kS (fillF sS oS (i + 1)) aS tS ik cA tp td fm tt vl wr bO sO nU mV) := congrArg (fun z => (MW cI cJ A sS kS z aS tS ik cA tp td fm tt vl wr bO sO nU mV)) hE
    have hP : va_P D vwCl (MW cI cJ A sS kS (fillF sS oS (i + 1)) aS tS ik cA tp td fm tt vl wr bO sO nU mV) H := Eq.mp (congrArg (fun z => va_P D vwCl z H) hW) hP
    have hD : va_D _ (MW cI cJ A sS kS (fillF sS oS (i + 1)) aS tS ik cA tp td fm tt vl wr bO sO nU mV) := Eq.mp (congrArg (fun z => va_D _ z) hW) hD
    refine lv_iinc (v := nI (i + 1)) (lv' := [(1, .int (nI (i + 1))), (0, .ref (A 0))]) hx hb dX4_saves_20 hl (k := 1) rfl (nI_inc _) (by decide) rfl (fun ls hl => ?_)
    refine lv_goto (tgt := 2) hx hb dX4_saves_23 rfl ?_
    exact ih2 (i + 1) _ _ ls (by first | omega | (dsimp only; omega)) ⟨(by omega), hP, hD, hS, lv_sub hl [1, 0] rfl⟩

set_option maxHeartbeats 4000000 in
set_option maxRecDepth 100000 in
theorem k_X4_putsBack : MU l D (tyA cI cJ cO) yX4_putsBack cX4_putsBack 2 none 0 0 [.ref (A 0)] (MW cI cJ A sS kS oS aS tS ik cA tp td fm tt vl wr bO sO nU mV) (fun ov w' => ov = none ∧ w' = (MW cI cJ A oS kS oS aS tS ik cA tp td fm tt vl wr bO sO nU mV)) := by
  refine MU.mk (by decide) (Nat.le_of_ble_eq_true rfl) ?_
  intro p e s m below meth c ls S hr hlk hP hK hD hS hl
  have S : CallFix p m c cX4_putsBack 2 s _ WL RX4 := S
  obtain ⟨hx, hb, hml, hown, hts⟩ := id S
  have hl : lv_has ls 2 [(0, .ref (A 0))] := hl
  refine lv_iconst (v := 0) hx hb dX4_putsBack_0 rfl ?_
  have hE : sS = fillF oS sS 0 := fillF_0 _ _
  have hW : (MW cI cJ A sS kS oS aS tS ik cA tp td fm tt vl wr bO sO nU mV) = (MW cI cJ A (fillF oS sS 0) kS oS aS tS ik cA tp td fm tt vl wr bO sO nU mV) := congrArg (fun z => (MW cI cJ A z kS oS aS tS ik cA tp td fm tt vl wr bO sO nU mV)) hE
  have hP : va_P D vwCl (MW cI cJ A (fillF oS sS 0) kS oS aS tS ik cA tp td fm tt vl wr bO sO nU mV) s.heap := Eq.mp (congrArg (fun z => va_P D vwCl z s.heap) hW) hP
  have hD : va_D _ (MW cI cJ A (fillF oS sS 0) kS oS aS tS ik cA tp td fm tt vl wr bO sO nU mV) := Eq.mp (congrArg (fun z => va_D _ z) hW) hD
  refine lv_istore_n (lv' := [(1, .int 0), (0, .ref (A 0))]) hx hb dX4_putsBack_1 rfl hl (by decide) rfl (fun ls hl => ?_)
  refine w_loopH (pc := 2) (st := fun (i : Nat) => []) (μ := fun (i : Nat) => 75 - i) (I := fun (i : Nat) H locs ls => (i ≤ 75) ∧ va_P D vwCl (MW cI cJ A (fillF oS sS i) kS oS aS tS ik cA tp td fm tt vl wr bO sO nU mV) H ∧ va_D (fun z9 => z9 ∈ ((MW cI cJ A sS kS oS aS tS ik cA tp td fm tt vl wr bO sO nU mV)).map (fun z8 => z8.1)) (MW cI cJ A (fillF oS sS i) kS oS aS tS ik cA tp td fm tt vl wr bO sO nU mV) ∧ va_S (fun z9 => z9 ∈ ((MW cI cJ A sS kS oS aS tS ik cA tp td fm tt vl wr bO sO nU mV)).map (fun z8 => z8.1)) s.heap H locs ∧ lv_has ls 2 [(0, .ref (A 0)), (1, .int (nI i))]) ?_ (0) ⟨Nat.zero_le _, hP, hD, hS, lv_sub hl [1, 0] rfl⟩
  rintro i H locs ls ⟨hi, hP, hD, hS, hl⟩ ih2
  try dsimp only at ih2 ⊢
  refine lv_iload_n hx hb dX4_putsBack_2 rfl (lv_at hl 1 rfl) ?_
  refine lv_bipush (v := 75) hx hb dX4_putsBack_3 rfl ?_
  refine lv_icmp_ge (tgt := 26) hx hb dX4_putsBack_5 rfl (fun c5 => ?_) (fun c5 => ?_)
  · replace c5 := nq_le (a := 75) (b := i) (by omega) (by omega) c5
    have hP : va_P D vwCl (MW cI cJ A oS kS oS aS tS ik cA tp td fm tt vl wr bO sO nU mV) H := hP.fi 1 oS rfl (fun j hj => fillF_in (by omega))
    have hD : va_D _ (MW cI cJ A oS kS oS aS tS ik cA tp td fm tt vl wr bO sO nU mV) := hD.addr rfl
    exact mu_vret (MW cI cJ A oS kS oS aS tS ik cA tp td fm tt vl wr bO sO nU mV) hx hb hr hlk hP hS rfl (⟨rfl, rfl⟩) dX4_putsBack_26
  · replace c5 := nq_nle (a := 75) (b := i) (by omega) (by omega) c5
    refine lv_aload_n hx hb dX4_putsBack_8 rfl (lv_at hl 0 rfl) ?_
    refine va_get (ci := 4) (v := .ref (A 1)) hx hb hts wx_X4 hown hK hP 0 rfl rfl 0 (by decide) (hts _ wf_X4_7) (fun _ h9 => h9) rfl dX4_putsBack_9 ?_
    refine lv_iload_n hx hb dX4_putsBack_12 rfl (lv_at hl 1 rfl) ?_
    refine lv_aload_n hx hb dX4_putsBack_13 rfl (lv_at hl 0 rfl) ?_
    refine va_get (ci := 4) (v := .ref (A 3)) hx hb hts wx_X4 hown hK hP 0 rfl rfl 2 (by decide) (hts _ wf_X4_16) (fun _ h9 => h9) rfl dX4_putsBack_14 ?_
    refine lv_iload_n hx hb dX4_putsBack_17 rfl (lv_at hl 1 rfl) ?_
    refine ia_ld hx hb hK hP 3 0 rfl rfl i (rfl) (by omega) (by decide) dX4_putsBack_18 ?_
    refine ia_st hx hb hK hP hD hS 1 0 rfl rfl i (rfl) (by omega) (by decide) dX4_putsBack_19 (fun H locs hP hD hS => ?_)
    have hP : va_P D vwCl (MW cI cJ A (upd (fillF oS sS i) i (oS i)) kS oS aS tS ik cA tp td fm tt vl wr bO sO nU mV) H := hP
    have hD : va_D _ (MW cI cJ A (upd (fillF oS sS i) i (oS i)) kS oS aS tS ik cA tp td fm tt vl wr bO sO nU mV) := hD
    have hE : upd (fillF oS sS i) i (oS i) = fillF oS sS (i + 1) := fillF_s _ _ _
    have hW : (MW cI cJ A (upd (fillF oS sS i) i (oS i)) kS oS aS tS ik cA tp td fm tt vl wr bO sO nU mV) = (MW cI cJ A (fillF oS sS (i + 1)) kS oS aS tS ik cA tp td fm tt vl wr bO sO nU mV) := congrArg (fun z => (MW cI cJ A z kS oS aS tS ik cA tp td fm tt vl wr bO sO nU mV)) hE
    have hP : va_P D vwCl (MW cI cJ A (fillF oS sS (i + 1)) kS oS aS tS ik cA tp td fm tt vl wr bO sO nU mV) H := Eq.mp (congrArg (fun z => va_P D vwCl z H) hW) hP
    have hD : va_D _ (MW cI cJ A (fillF oS sS (i + 1)) kS oS aS tS ik cA tp td fm tt vl wr bO sO nU mV) := Eq.mp (congrArg (fun z => va_D _ z) hW) hD
    refine lv_iinc (v := nI (i + 1)) (lv' := [(1, .int (nI (i + 1))), (0, .ref (A 0))]) hx hb dX4_putsBack_20 hl (k := 1) rfl (nI_inc _) (by decide) rfl (fun ls hl => ?_)
    refine lv_goto (tgt := 2) hx hb dX4_putsBack_23 rfl ?_
    exact ih2 (i + 1) _ _ ls (by first | omega | (dsimp only; omega)) ⟨(by omega), hP, hD, hS, lv_sub hl [1, 0] rfl⟩

set_option maxHeartbeats 4000000 in
set_option maxRecDepth 100000 in
theorem k_X4_laysAside : MU l D (tyA cI cJ cO) yX4_laysAside cX4_laysAside 2 none 0 0 [.ref (A 0)] (MW cI cJ A sS kS oS aS tS ik cA tp td fm tt vl wr bO sO nU mV) (fun ov w' => ov = none ∧ w' = (MW cI cJ A sS kS oS sS tS ik cA tp td fm tt vl wr bO sO nU mV)) := by
  refine MU.mk (by decide) (Nat.le_of_ble_eq_true rfl) ?_
  intro p e s m below meth c ls S hr hlk hP hK hD hS hl
  have S : CallFix p m c cX4_laysAside 2 s _ WL RX4 := S
  obtain ⟨hx, hb, hml, hown, hts⟩ := id S
  have hl : lv_has ls 2 [(0, .ref (A 0))] := hl
  refine lv_iconst (v := 0) hx hb dX4_laysAside_0 rfl ?_
  have hE : aS = fillF sS aS 0 := fillF_0 _ _
  have hW : (MW cI cJ A sS kS oS aS tS ik cA tp td fm tt vl wr bO sO nU mV) = (MW cI cJ A sS kS oS (fillF sS aS 0) tS ik cA tp td fm tt vl wr bO sO nU mV) := congrArg (fun z => (MW cI cJ A sS kS oS z tS ik cA tp td fm tt vl wr bO sO nU mV)) hE
  have hP : va_P D vwCl (MW cI cJ A sS kS oS (fillF sS aS 0) tS ik cA tp td fm tt vl wr bO sO nU mV) s.heap := Eq.mp (congrArg (fun z => va_P D vwCl z s.heap) hW) hP
  have hD : va_D _ (MW cI cJ A sS kS oS (fillF sS aS 0) tS ik cA tp td fm tt vl wr bO sO nU mV) := Eq.mp (congrArg (fun z => va_D _ z) hW) hD
  refine lv_istore_n (lv' := [(1, .int 0), (0, .ref (A 0))]) hx hb dX4_laysAside_1 rfl hl (by decide) rfl (fun ls hl => ?_)
  refine w_loopH (pc := 2) (st := fun (i : Nat) => []) (μ := fun (i : Nat) => 75 - i) (I := fun (i : Nat) H locs ls => (i ≤ 75) ∧ va_P D vwCl (MW cI cJ A sS kS oS (fillF sS aS i) tS ik cA tp td fm tt vl wr bO sO nU mV) H ∧ va_D (fun z9 => z9 ∈ ((MW cI cJ A sS kS oS aS tS ik cA tp td fm tt vl wr bO sO nU mV)).map (fun z8 => z8.1)) (MW cI cJ A sS kS oS (fillF sS aS i) tS ik cA tp td fm tt vl wr bO sO nU mV) ∧ va_S (fun z9 => z9 ∈ ((MW cI cJ A sS kS oS aS tS ik cA tp td fm tt vl wr bO sO nU mV)).map (fun z8 => z8.1)) s.heap H locs ∧ lv_has ls 2 [(0, .ref (A 0)), (1, .int (nI i))]) ?_ (0) ⟨Nat.zero_le _, hP, hD, hS, lv_sub hl [1, 0] rfl⟩
  rintro i H locs ls ⟨hi, hP, hD, hS, hl⟩ ih2
  try dsimp only at ih2 ⊢
  refine lv_iload_n hx hb dX4_laysAside_2 rfl (lv_at hl 1 rfl) ?_
  refine lv_bipush (v := 75) hx hb dX4_laysAside_3 rfl ?_
  refine lv_icmp_ge (tgt := 26) hx hb dX4_laysAside_5 rfl (fun c5 => ?_) (fun c5 => ?_)
  · replace c5 := nq_le (a := 75) (b := i) (by omega) (by omega) c5
    have hP : va_P D vwCl (MW cI cJ A sS kS oS sS tS ik cA tp td fm tt vl wr bO sO nU mV) H := hP.fi 4 sS rfl (fun j hj => fillF_in (by omega))
    have hD : va_D _ (MW cI cJ A sS kS oS sS tS ik cA tp td fm tt vl wr bO sO nU mV) := hD.addr rfl
    exact mu_vret (MW cI cJ A sS kS oS sS tS ik cA tp td fm tt vl wr bO sO nU mV) hx hb hr hlk hP hS rfl (⟨rfl, rfl⟩) dX4_laysAside_26
  · replace c5 := nq_nle (a := 75) (b := i) (by omega) (by omega) c5
    refine lv_aload_n hx hb dX4_laysAside_8 rfl (lv_at hl 0 rfl) ?_
    refine va_get (ci := 4) (v := .ref (A 4)) hx hb hts wx_X4 hown hK hP 0 rfl rfl 3 (by decide) (hts _ wf_X4_19) (fun _ h9 => h9) rfl dX4_laysAside_9 ?_
    refine lv_iload_n hx hb dX4_laysAside_12 rfl (lv_at hl 1 rfl) ?_
    refine lv_aload_n hx hb dX4_laysAside_13 rfl (lv_at hl 0 rfl) ?_
    refine va_get (ci := 4) (v := .ref (A 1)) hx hb hts wx_X4 hown hK hP 0 rfl rfl 0 (by decide) (hts _ wf_X4_7) (fun _ h9 => h9) rfl dX4_laysAside_14 ?_
    refine lv_iload_n hx hb dX4_laysAside_17 rfl (lv_at hl 1 rfl) ?_
    refine ia_ld hx hb hK hP 1 0 rfl rfl i (rfl) (by omega) (by decide) dX4_laysAside_18 ?_
    refine ia_st hx hb hK hP hD hS 4 0 rfl rfl i (rfl) (by omega) (by decide) dX4_laysAside_19 (fun H locs hP hD hS => ?_)
    have hP : va_P D vwCl (MW cI cJ A sS kS oS (upd (fillF sS aS i) i (sS i)) tS ik cA tp td fm tt vl wr bO sO nU mV) H := hP
    have hD : va_D _ (MW cI cJ A sS kS oS (upd (fillF sS aS i) i (sS i)) tS ik cA tp td fm tt vl wr bO sO nU mV) := hD
    have hE : upd (fillF sS aS i) i (sS i) = fillF sS aS (i + 1) := fillF_s _ _ _
    have hW : (MW cI cJ A sS kS oS (upd (fillF sS aS i) i (sS i)) tS ik cA tp td fm tt vl wr bO sO nU mV) = (MW cI cJ A sS kS oS (fillF sS aS (i + 1)) tS ik cA tp td fm tt vl wr bO sO nU mV) := congrArg (fun z => (MW cI cJ A sS kS oS z tS ik cA tp td fm tt vl wr bO sO nU mV)) hE
    have hP : va_P D vwCl (MW cI cJ A sS kS oS (fillF sS aS (i + 1)) tS ik cA tp td fm tt vl wr bO sO nU mV) H := Eq.mp (congrArg (fun z => va_P D vwCl z H) hW) hP
    have hD : va_D _ (MW cI cJ A sS kS oS (fillF sS aS (i + 1)) tS ik cA tp td fm tt vl wr bO sO nU mV) := Eq.mp (congrArg (fun z => va_D _ z) hW) hD
    refine lv_iinc (v := nI (i + 1)) (lv' := [(1, .int (nI (i + 1))), (0, .ref (A 0))]) hx hb dX4_laysAside_20 hl (k := 1) rfl (nI_inc _) (by decide) rfl (fun ls hl => ?_)
    refine lv_goto (tgt := 2) hx hb dX4_laysAside_23 rfl ?_
    exact ih2 (i + 1) _ _ ls (by first | omega | (dsimp only; omega)) ⟨(by omega), hP, hD, hS, lv_sub hl [1, 0] rfl⟩

set_option maxHeartbeats 4000000 in
set_option maxRecDepth 100000 in
theorem k_X4_takesBack (v : Int32) : MU l D (tyA cI cJ cO) yX4_takesBack cX4_takesBack 3 ((some .int)) 0 0 [.ref (A 0), .int v] (MW cI cJ A sS kS oS aS tS ik cA tp td fm tt vl wr bO sO nU mV) (fun ov w' => ov = some (.int v) ∧ w' = (MW cI cJ A aS kS oS aS tS ik cA tp td fm tt vl wr bO sO nU mV)) := by
  refine MU.mk (by decide) (Nat.le_of_ble_eq_true rfl) ?_
  intro p e s m below meth c ls S hr hlk hP hK hD hS hl
  have S : CallFix p m c cX4_takesBack 3 s _ WL RX4 := S
  obtain ⟨hx, hb, hml, hown, hts⟩ := id S
  have hl : lv_has ls 3 [(0, .ref (A 0)), (1, .int v)] := hl
  refine lv_iconst (v := 0) hx hb dX4_takesBack_0 rfl ?_
  have hE : sS = fillF aS sS 0 := fillF_0 _ _
  have hW : (MW cI cJ A sS kS oS aS tS ik cA tp td fm tt vl wr bO sO nU mV) = (MW cI cJ A (fillF aS sS 0) kS oS aS tS ik cA tp td fm tt vl wr bO sO nU mV) := congrArg (fun z => (MW cI cJ A z kS oS aS tS ik cA tp td fm tt vl wr bO sO nU mV)) hE
  have hP : va_P D vwCl (MW cI cJ A (fillF aS sS 0) kS oS aS tS ik cA tp td fm tt vl wr bO sO nU mV) s.heap := Eq.mp (congrArg (fun z => va_P D vwCl z s.heap) hW) hP
  have hD : va_D _ (MW cI cJ A (fillF aS sS 0) kS oS aS tS ik cA tp td fm tt vl wr bO sO nU mV) := Eq.mp (congrArg (fun z => va_D _ z) hW) hD
  refine lv_istore_n (lv' := [(2, .int 0), (0, .ref (A 0)), (1, .int v)]) hx hb dX4_takesBack_1 rfl hl (by decide) rfl (fun ls hl => ?_)
  refine w_loopH (pc := 2) (st := fun (i : Nat) => []) (μ := fun (i : Nat) => 75 - i) (I := fun (i : Nat) H locs ls => (i ≤ 75) ∧ va_P D vwCl (MW cI cJ A (fillF aS sS i) kS oS aS tS ik cA tp td fm tt vl wr bO sO nU mV) H ∧ va_D (fun z9 => z9 ∈ ((MW cI cJ A sS kS oS aS tS ik cA tp td fm tt vl wr bO sO nU mV)).map (fun z8 => z8.1)) (MW cI cJ A (fillF aS sS i) kS oS aS tS ik cA tp td fm tt vl wr bO sO nU mV) ∧ va_S (fun z9 => z9 ∈ ((MW cI cJ A sS kS oS aS tS ik cA tp td fm tt vl wr bO sO nU mV)).map (fun z8 => z8.1)) s.heap H locs ∧ lv_has ls 3 [(0, .ref (A 0)), (1, .int v), (2, .int (nI i))]) ?_ (0) ⟨Nat.zero_le _, hP, hD, hS, lv_sub hl [1, 2, 0] rfl⟩
  rintro i H locs ls ⟨hi, hP, hD, hS, hl⟩ ih2
  try dsimp only at ih2 ⊢
  refine lv_iload_n hx hb dX4_takesBack_2 rfl (lv_at hl 2 rfl) ?_
  refine lv_bipush (v := 75) hx hb dX4_takesBack_3 rfl ?_
  refine lv_icmp_ge (tgt := 26) hx hb dX4_takesBack_5 rfl (fun c5 => ?_) (fun c5 => ?_)
  · replace c5 := nq_le (a := 75) (b := i) (by omega) (by omega) c5
    have hP : va_P D vwCl (MW cI cJ A aS kS oS aS tS ik cA tp td fm tt vl wr bO sO nU mV) H := hP.fi 1 aS rfl (fun j hj => fillF_in (by omega))
    have hD : va_D _ (MW cI cJ A aS kS oS aS tS ik cA tp td fm tt vl wr bO sO nU mV) := hD.addr rfl
    refine lv_iload_n hx hb dX4_takesBack_26 rfl (lv_at hl 1 rfl) ?_
    exact mu_iret (MW cI cJ A aS kS oS aS tS ik cA tp td fm tt vl wr bO sO nU mV) hx hb hr hlk hP hS rfl (⟨rfl, rfl⟩) dX4_takesBack_27
  · replace c5 := nq_nle (a := 75) (b := i) (by omega) (by omega) c5
    refine lv_aload_n hx hb dX4_takesBack_8 rfl (lv_at hl 0 rfl) ?_
    refine va_get (ci := 4) (v := .ref (A 1)) hx hb hts wx_X4 hown hK hP 0 rfl rfl 0 (by decide) (hts _ wf_X4_7) (fun _ h9 => h9) rfl dX4_takesBack_9 ?_
    refine lv_iload_n hx hb dX4_takesBack_12 rfl (lv_at hl 2 rfl) ?_
    refine lv_aload_n hx hb dX4_takesBack_13 rfl (lv_at hl 0 rfl) ?_
    refine va_get (ci := 4) (v := .ref (A 4)) hx hb hts wx_X4 hown hK hP 0 rfl rfl 3 (by decide) (hts _ wf_X4_19) (fun _ h9 => h9) rfl dX4_takesBack_14 ?_
    refine lv_iload_n hx hb dX4_takesBack_17 rfl (lv_at hl 2 rfl) ?_
    refine ia_ld hx hb hK hP 4 0 rfl rfl i (rfl) (by omega) (by decide) dX4_takesBack_18 ?_
    refine ia_st hx hb hK hP hD hS 1 0 rfl rfl i (rfl) (by omega) (by decide) dX4_takesBack_19 (fun H locs hP hD hS => ?_)
    have hP : va_P D vwCl (MW cI cJ A (upd (fillF aS sS i) i (aS i)) kS oS aS tS ik cA tp td fm tt vl wr bO sO nU mV) H := hP
    have hD : va_D _ (MW cI cJ A (upd (fillF aS sS i) i (aS i)) kS oS aS tS ik cA tp td fm tt vl wr bO sO nU mV) := hD
    have hE : upd (fillF aS sS i) i (aS i) = fillF aS sS (i + 1) := fillF_s _ _ _
    have hW : (MW cI cJ A (upd (fillF aS sS i) i (aS i)) kS oS aS tS ik cA tp td fm tt vl wr bO sO nU mV) = (MW cI cJ A (fillF aS sS (i + 1)) kS oS aS tS ik cA tp td fm tt vl wr bO sO nU mV) := congrArg (fun z => (MW cI cJ A z kS oS aS tS ik cA tp td fm tt vl wr bO sO nU mV)) hE
    have hP : va_P D vwCl (MW cI cJ A (fillF aS sS (i + 1)) kS oS aS tS ik cA tp td fm tt vl wr bO sO nU mV) H := Eq.mp (congrArg (fun z => va_P D vwCl z H) hW) hP
    have hD : va_D _ (MW cI cJ A (fillF aS sS (i + 1)) kS oS aS tS ik cA tp td fm tt vl wr bO sO nU mV) := Eq.mp (congrArg (fun z => va_D _ z) hW) hD
    refine lv_iinc (v := nI (i + 1)) (lv' := [(2, .int (nI (i + 1))), (0, .ref (A 0)), (1, .int v)]) hx hb dX4_takesBack_20 hl (k := 2) rfl (nI_inc _) (by decide) rfl (fun ls hl => ?_)
    refine lv_goto (tgt := 2) hx hb dX4_takesBack_23 rfl ?_
    exact ih2 (i + 1) _ _ ls (by first | omega | (dsimp only; omega)) ⟨(by omega), hP, hD, hS, lv_sub hl [1, 2, 0] rfl⟩

set_option maxHeartbeats 4000000 in
set_option maxRecDepth 100000 in
theorem k_X4_adds (n : Nat) (k : Int32) (b : Int32) (d : Int32) (hI : Inv sS n) (hn : n < 8) : MU l D (tyA cI cJ cO) yX4_adds cX4_adds 6 ((some .int)) 1 21 [.ref (A 0), .int k, .int b, .int d] (MW cI cJ A sS kS oS aS tS ik cA tp td fm tt vl wr bO sO nU mV) (fun ov w' => ov = some (.int (nI n)) ∧ w' = (MW cI cJ A (addsF sS n k b d) kS oS aS tS ik cA tp td fm tt vl wr bO sO nU mV)) := by
  refine MU.mk (by decide) (Nat.le_of_ble_eq_true rfl) ?_
  intro p e s m below meth c ls S hr hlk hP hK hD hS hl
  have S : CallFix p m c cX4_adds 6 s _ WL RX4 := S
  obtain ⟨hx, hb, hml, hown, hts⟩ := id S
  have hl : lv_has ls 6 [(0, .ref (A 0)), (1, .int k), (2, .int b), (3, .int d)] := hl
  refine lv_aload_n hx hb dX4_adds_0 rfl (lv_at hl 0 rfl) ?_
  refine va_get (ci := 4) (v := .ref (A 1)) hx hb hts wx_X4 hown hK hP 0 rfl rfl 0 (by decide) (hts _ wf_X4_7) (fun _ h9 => h9) rfl dX4_adds_1 ?_
  refine lv_iconst (v := 1) hx hb dX4_adds_4 rfl ?_
  refine ia_ld hx hb hK hP 1 0 rfl rfl 1 (rfl) (by omega) (by decide) dX4_adds_5 ?_
  refine w_i (z := nI n) (hI.2.1) ?_
  refine lv_istore (lv' := [(4, .int (nI n)), (0, .ref (A 0)), (1, .int k), (2, .int b), (3, .int d)]) hx hb dX4_adds_6 hl (by decide) rfl (fun ls hl => ?_)
  refine lv_aload_n hx hb dX4_adds_8 rfl (lv_at hl 1 rfl) ?_
  refine va_get (ci := 4) (v := .ref (A 1)) hx hb hts wx_X4 hown hK hP 0 rfl rfl 0 (by decide) (hts _ wf_X4_7) (fun _ h9 => h9) rfl dX4_adds_9 ?_
  refine lv_iconst (v := 1) hx hb dX4_adds_12 rfl ?_
  refine lv_dup2_11 hx hb dX4_adds_13 rfl rfl ?_
  refine ia_ld hx hb hK hP 1 0 rfl rfl 1 (rfl) (by omega) (by decide) dX4_adds_14 ?_
  refine w_i (z := nI n) (hI.2.1) ?_
  refine lv_iconst (v := 1) hx hb dX4_adds_15 rfl ?_
  refine lv_iadd hx hb dX4_adds_16 ?_
  refine ia_st hx hb hK hP hD hS 1 0 rfl rfl 1 (rfl) (by omega) (by decide) dX4_adds_17 (fun H locs hP hD hS => ?_)
  have hP : va_P D vwCl (MW cI cJ A (upd sS 1 ((nI n) + 1)) kS oS aS tS ik cA tp td fm tt vl wr bO sO nU mV) H := hP
  have hD : va_D _ (MW cI cJ A (upd sS 1 ((nI n) + 1)) kS oS aS tS ik cA tp td fm tt vl wr bO sO nU mV) := hD
  refine lv_iconst (v := 0) hx hb dX4_adds_18 rfl ?_
  have hE : upd sS 1 ((nI n) + 1) = zeroF (upd sS 1 (nI n + 1)) n 0 := zeroF_0 _ _
  have hW : (MW cI cJ A (upd sS 1 ((nI n) + 1)) kS oS aS tS ik cA tp td fm tt vl wr bO sO nU mV) = (MW cI cJ A (zeroF (upd sS 1 (nI n + 1)) n 0) kS oS aS tS ik cA tp td fm tt vl wr bO sO nU mV) := congrArg (fun z => (MW cI cJ A z kS oS aS tS ik cA tp td fm tt vl wr bO sO nU mV)) hE
  have hP : va_P D vwCl (MW cI cJ A (zeroF (upd sS 1 (nI n + 1)) n 0) kS oS aS tS ik cA tp td fm tt vl wr bO sO nU mV) H := Eq.mp (congrArg (fun z => va_P D vwCl z H) hW) hP
  have hD : va_D _ (MW cI cJ A (zeroF (upd sS 1 (nI n + 1)) n 0) kS oS aS tS ik cA tp td fm tt vl wr bO sO nU mV) := Eq.mp (congrArg (fun z => va_D _ z) hW) hD
  refine lv_istore (lv' := [(5, .int 0), (4, .int (nI n)), (0, .ref (A 0)), (1, .int k), (2, .int b), (3, .int d)]) hx hb dX4_adds_19 hl (by decide) rfl (fun ls hl => ?_)
  refine w_loopH (pc := 21) (st := fun (i : Nat) => []) (μ := fun (i : Nat) => 9 - i) (I := fun (i : Nat) H locs ls => (i ≤ 9) ∧ va_P D vwCl (MW cI cJ A (zeroF (upd sS 1 (nI n + 1)) n i) kS oS aS tS ik cA tp td fm tt vl wr bO sO nU mV) H ∧ va_D (fun z9 => z9 ∈ ((MW cI cJ A sS kS oS aS tS ik cA tp td fm tt vl wr bO sO nU mV)).map (fun z8 => z8.1)) (MW cI cJ A (zeroF (upd sS 1 (nI n + 1)) n i) kS oS aS tS ik cA tp td fm tt vl wr bO sO nU mV) ∧ va_S (fun z9 => z9 ∈ ((MW cI cJ A sS kS oS aS tS ik cA tp td fm tt vl wr bO sO nU mV)).map (fun z8 => z8.1)) s.heap H locs ∧ lv_has ls 6 [(0, .ref (A 0)), (1, .int k), (2, .int b), (3, .int d), (4, .int (nI n)), (5, .int (nI i))]) ?_ (0) ⟨Nat.zero_le _, hP, hD, hS, lv_sub hl [2, 3, 4, 5, 1, 0] rfl⟩
  rintro i H locs ls ⟨hi, hP, hD, hS, hl⟩ ih21
  try dsimp only at ih21 ⊢
  refine lv_iload hx hb dX4_adds_21 (lv_at hl 5 rfl) ?_
  refine lv_bipush (v := 8) hx hb dX4_adds_23 rfl ?_
  refine lv_icmp_gt (tgt := 47) hx hb dX4_adds_25 rfl (fun c25 => ?_) (fun c25 => ?_)
  · replace c25 := nq_lt (a := 8) (b := i) (by omega) (by omega) c25
    obtain rfl : i = 9 := by omega
    refine lv_aload_n hx hb dX4_adds_47 rfl (lv_at hl 0 rfl) ?_
    refine va_get (ci := 4) (v := .ref (A 1)) hx hb hts wx_X4 hown hK hP 0 rfl rfl 0 (by decide) (hts _ wf_X4_7) (fun _ h9 => h9) rfl dX4_adds_48 ?_
    refine lv_iload hx hb dX4_adds_51 (lv_at hl 4 rfl) ?_
    refine lv_iconst (v := 0) hx hb dX4_adds_53 rfl ?_
    refine ro_S (w := []) (rest := [.ref (A 1)]) S hK va_P0 (k_X4_spot n 0) gs_X4_45 hd_X4_spot ⟨Nat.le_of_ble_eq_true rfl, Nat.le_of_ble_eq_true rfl⟩ rfl hl.1 (lv_room (Nat.le_of_ble_eq_true rfl)) dX4_adds_54 ⟨Nat.zero_le _, Nat.zero_le _⟩ ?_
    refine lv_iload_n hx hb dX4_adds_57 rfl (lv_at hl 1 rfl) ?_
    refine ia_st hx hb hK hP hD hS 1 0 rfl rfl (9 * n + 0 + 3) (rfl) (by omega) (by decide) dX4_adds_58 (fun H locs hP hD hS => ?_)
    have hP : va_P D vwCl (MW cI cJ A (upd (zeroF (upd sS 1 (nI n + 1)) n 9) (9 * n + 0 + 3) k) kS oS aS tS ik cA tp td fm tt vl wr bO sO nU mV) H := hP
    have hD : va_D _ (MW cI cJ A (upd (zeroF (upd sS 1 (nI n + 1)) n 9) (9 * n + 0 + 3) k) kS oS aS tS ik cA tp td fm tt vl wr bO sO nU mV) := hD
    refine lv_aload_n hx hb dX4_adds_59 rfl (lv_at hl 0 rfl) ?_
    refine va_get (ci := 4) (v := .ref (A 1)) hx hb hts wx_X4 hown hK hP 0 rfl rfl 0 (by decide) (hts _ wf_X4_7) (fun _ h9 => h9) rfl dX4_adds_60 ?_
    refine lv_iload hx hb dX4_adds_63 (lv_at hl 4 rfl) ?_
    refine lv_iconst (v := 1) hx hb dX4_adds_65 rfl ?_
    refine ro_S (w := []) (rest := [.ref (A 1)]) S hK va_P0 (k_X4_spot n 1) gs_X4_45 hd_X4_spot ⟨Nat.le_of_ble_eq_true rfl, Nat.le_of_ble_eq_true rfl⟩ rfl hl.1 (lv_room (Nat.le_of_ble_eq_true rfl)) dX4_adds_66 ⟨Nat.zero_le _, Nat.zero_le _⟩ ?_
    refine lv_iload_n hx hb dX4_adds_69 rfl (lv_at hl 2 rfl) ?_
    refine ia_st hx hb hK hP hD hS 1 0 rfl rfl (9 * n + 1 + 3) (rfl) (by omega) (by decide) dX4_adds_70 (fun H locs hP hD hS => ?_)
    have hP : va_P D vwCl (MW cI cJ A (upd (upd (zeroF (upd sS 1 (nI n + 1)) n 9) (9 * n + 0 + 3) k) (9 * n + 1 + 3) b) kS oS aS tS ik cA tp td fm tt vl wr bO sO nU mV) H := hP
    have hD : va_D _ (MW cI cJ A (upd (upd (zeroF (upd sS 1 (nI n + 1)) n 9) (9 * n + 0 + 3) k) (9 * n + 1 + 3) b) kS oS aS tS ik cA tp td fm tt vl wr bO sO nU mV) := hD
    refine lv_aload_n hx hb dX4_adds_71 rfl (lv_at hl 0 rfl) ?_
    refine va_get (ci := 4) (v := .ref (A 1)) hx hb hts wx_X4 hown hK hP 0 rfl rfl 0 (by decide) (hts _ wf_X4_7) (fun _ h9 => h9) rfl dX4_adds_72 ?_
    refine lv_iload hx hb dX4_adds_75 (lv_at hl 4 rfl) ?_
    refine lv_iconst (v := 2) hx hb dX4_adds_77 rfl ?_
    refine ro_S (w := []) (rest := [.ref (A 1)]) S hK va_P0 (k_X4_spot n 2) gs_X4_45 hd_X4_spot ⟨Nat.le_of_ble_eq_true rfl, Nat.le_of_ble_eq_true rfl⟩ rfl hl.1 (lv_room (Nat.le_of_ble_eq_true rfl)) dX4_adds_78 ⟨Nat.zero_le _, Nat.zero_le _⟩ ?_
    refine lv_iload_n hx hb dX4_adds_81 rfl (lv_at hl 3 rfl) ?_
    refine ia_st hx hb hK hP hD hS 1 0 rfl rfl (9 * n + 2 + 3) (rfl) (by omega) (by decide) dX4_adds_82 (fun H locs hP hD hS => ?_)
    have hP : va_P D vwCl (MW cI cJ A (upd (upd (upd (zeroF (upd sS 1 (nI n + 1)) n 9) (9 * n + 0 + 3) k) (9 * n + 1 + 3) b) (9 * n + 2 + 3) d) kS oS aS tS ik cA tp td fm tt vl wr bO sO nU mV) H := hP
    have hD : va_D _ (MW cI cJ A (upd (upd (upd (zeroF (upd sS 1 (nI n + 1)) n 9) (9 * n + 0 + 3) k) (9 * n + 1 + 3) b) (9 * n + 2 + 3) d) kS oS aS tS ik cA tp td fm tt vl wr bO sO nU mV) := hD
    refine lv_aload_n hx hb dX4_adds_83 rfl (lv_at hl 0 rfl) ?_
    refine va_get (ci := 4) (v := .ref (A 1)) hx hb hts wx_X4 hown hK hP 0 rfl rfl 0 (by decide) (hts _ wf_X4_7) (fun _ h9 => h9) rfl dX4_adds_84 ?_
    refine lv_iload hx hb dX4_adds_87 (lv_at hl 4 rfl) ?_
    refine lv_iconst (v := 3) hx hb dX4_adds_89 rfl ?_
    refine ro_S (w := []) (rest := [.ref (A 1)]) S hK va_P0 (k_X4_spot n 3) gs_X4_45 hd_X4_spot ⟨Nat.le_of_ble_eq_true rfl, Nat.le_of_ble_eq_true rfl⟩ rfl hl.1 (lv_room (Nat.le_of_ble_eq_true rfl)) dX4_adds_90 ⟨Nat.zero_le _, Nat.zero_le _⟩ ?_
    refine lv_bipush (v := 50) hx hb dX4_adds_93 rfl ?_
    refine ia_st hx hb hK hP hD hS 1 0 rfl rfl (9 * n + 3 + 3) (rfl) (by omega) (by decide) dX4_adds_95 (fun H locs hP hD hS => ?_)
    have hP : va_P D vwCl (MW cI cJ A (upd (upd (upd (upd (zeroF (upd sS 1 (nI n + 1)) n 9) (9 * n + 0 + 3) k) (9 * n + 1 + 3) b) (9 * n + 2 + 3) d) (9 * n + 3 + 3) 50) kS oS aS tS ik cA tp td fm tt vl wr bO sO nU mV) H := hP
    have hD : va_D _ (MW cI cJ A (upd (upd (upd (upd (zeroF (upd sS 1 (nI n + 1)) n 9) (9 * n + 0 + 3) k) (9 * n + 1 + 3) b) (9 * n + 2 + 3) d) (9 * n + 3 + 3) 50) kS oS aS tS ik cA tp td fm tt vl wr bO sO nU mV) := hD
    refine lv_aload_n hx hb dX4_adds_96 rfl (lv_at hl 0 rfl) ?_
    refine va_get (ci := 4) (v := .ref (A 1)) hx hb hts wx_X4 hown hK hP 0 rfl rfl 0 (by decide) (hts _ wf_X4_7) (fun _ h9 => h9) rfl dX4_adds_97 ?_
    refine lv_iload hx hb dX4_adds_100 (lv_at hl 4 rfl) ?_
    refine lv_bipush (v := 6) hx hb dX4_adds_102 rfl ?_
    refine ro_S (w := []) (rest := [.ref (A 1)]) S hK va_P0 (k_X4_spot n 6) gs_X4_45 hd_X4_spot ⟨Nat.le_of_ble_eq_true rfl, Nat.le_of_ble_eq_true rfl⟩ rfl hl.1 (lv_room (Nat.le_of_ble_eq_true rfl)) dX4_adds_104 ⟨Nat.zero_le _, Nat.zero_le _⟩ ?_
    refine lv_iconst (v := (-1)) hx hb dX4_adds_107 rfl ?_
    refine ia_st hx hb hK hP hD hS 1 0 rfl rfl (9 * n + 6 + 3) (rfl) (by omega) (by decide) dX4_adds_108 (fun H locs hP hD hS => ?_)
    have hP : va_P D vwCl (MW cI cJ A (upd (upd (upd (upd (upd (zeroF (upd sS 1 (nI n + 1)) n 9) (9 * n + 0 + 3) k) (9 * n + 1 + 3) b) (9 * n + 2 + 3) d) (9 * n + 3 + 3) 50) (9 * n + 6 + 3) (-1)) kS oS aS tS ik cA tp td fm tt vl wr bO sO nU mV) H := hP
    have hD : va_D _ (MW cI cJ A (upd (upd (upd (upd (upd (zeroF (upd sS 1 (nI n + 1)) n 9) (9 * n + 0 + 3) k) (9 * n + 1 + 3) b) (9 * n + 2 + 3) d) (9 * n + 3 + 3) 50) (9 * n + 6 + 3) (-1)) kS oS aS tS ik cA tp td fm tt vl wr bO sO nU mV) := hD
    refine lv_iload hx hb dX4_adds_109 (lv_at hl 4 rfl) ?_
    exact mu_iret (MW cI cJ A (upd (upd (upd (upd (upd (zeroF (upd sS 1 (nI n + 1)) n 9) (9 * n + 0 + 3) k) (9 * n + 1 + 3) b) (9 * n + 2 + 3) d) (9 * n + 3 + 3) 50) (9 * n + 6 + 3) (-1)) kS oS aS tS ik cA tp td fm tt vl wr bO sO nU mV) hx hb hr hlk hP hS rfl (⟨rfl, rfl⟩) dX4_adds_111
  · replace c25 := nq_nlt (a := 8) (b := i) (by omega) (by omega) c25
    refine lv_aload_n hx hb dX4_adds_28 rfl (lv_at hl 0 rfl) ?_
    refine va_get (ci := 4) (v := .ref (A 1)) hx hb hts wx_X4 hown hK hP 0 rfl rfl 0 (by decide) (hts _ wf_X4_7) (fun _ h9 => h9) rfl dX4_adds_29 ?_
    refine lv_iload hx hb dX4_adds_32 (lv_at hl 4 rfl) ?_
    refine lv_iload hx hb dX4_adds_34 (lv_at hl 5 rfl) ?_
    refine ro_S (w := []) (rest := [.ref (A 1)]) S hK va_P0 (k_X4_spot n i) gs_X4_45 hd_X4_spot ⟨Nat.le_of_ble_eq_true rfl, Nat.le_of_ble_eq_true rfl⟩ rfl hl.1 (lv_room (Nat.le_of_ble_eq_true rfl)) dX4_adds_36 ⟨Nat.zero_le _, Nat.zero_le _⟩ ?_
    refine lv_iconst (v := 0) hx hb dX4_adds_39 rfl ?_
    refine ia_st hx hb hK hP hD hS 1 0 rfl rfl (9 * n + i + 3) (rfl) (by omega) (by decide) dX4_adds_40 (fun H locs hP hD hS => ?_)
    have hP : va_P D vwCl (MW cI cJ A (upd (zeroF (upd sS 1 (nI n + 1)) n i) (9 * n + i + 3) 0) kS oS aS tS ik cA tp td fm tt vl wr bO sO nU mV) H := hP
    have hD : va_D _ (MW cI cJ A (upd (zeroF (upd sS 1 (nI n + 1)) n i) (9 * n + i + 3) 0) kS oS aS tS ik cA tp td fm tt vl wr bO sO nU mV) := hD
    have hE : upd (zeroF (upd sS 1 (nI n + 1)) n i) (9 * n + i + 3) 0 = zeroF (upd sS 1 (nI n + 1)) n (i + 1) := zeroF_s _ _ _
    have hW : (MW cI cJ A (upd (zeroF (upd sS 1 (nI n + 1)) n i) (9 * n + i + 3) 0) kS oS aS tS ik cA tp td fm tt vl wr bO sO nU mV) = (MW cI cJ A (zeroF (upd sS 1 (nI n + 1)) n (i + 1)) kS oS aS tS ik cA tp td fm tt vl wr bO sO nU mV) := congrArg (fun z => (MW cI cJ A z kS oS aS tS ik cA tp td fm tt vl wr bO sO nU mV)) hE
    have hP : va_P D vwCl (MW cI cJ A (zeroF (upd sS 1 (nI n + 1)) n (i + 1)) kS oS aS tS ik cA tp td fm tt vl wr bO sO nU mV) H := Eq.mp (congrArg (fun z => va_P D vwCl z H) hW) hP
    have hD : va_D _ (MW cI cJ A (zeroF (upd sS 1 (nI n + 1)) n (i + 1)) kS oS aS tS ik cA tp td fm tt vl wr bO sO nU mV) := Eq.mp (congrArg (fun z => va_D _ z) hW) hD
    refine lv_iinc (v := nI (i + 1)) (lv' := [(5, .int (nI (i + 1))), (0, .ref (A 0)), (1, .int k), (2, .int b), (3, .int d), (4, .int (nI n))]) hx hb dX4_adds_41 hl (k := 5) rfl (nI_inc _) (by decide) rfl (fun ls hl => ?_)
    refine lv_goto (tgt := 21) hx hb dX4_adds_44 rfl ?_
    exact ih21 (i + 1) _ _ ls (by first | omega | (dsimp only; omega)) ⟨(by omega), hP, hD, hS, lv_sub hl [1, 2, 3, 4, 5, 0] rfl⟩

set_option maxHeartbeats 4000000 in
set_option maxRecDepth 100000 in
theorem k_X4_works (n : Nat) (f : Nat) (hI : Inv sS n) (hf : f < n) (hc : content sS f = false) : MU l D (tyA cI cJ cO) yX4_works cX4_works 6 none 5 111 [.ref (A 0), .int (nI f)] (MW cI cJ A sS kS oS aS tS ik cA tp td fm tt vl wr bO sO nU mV) (fun ov w' => ov = none ∧ w' = (MW cI cJ A (worksF sS n f) kS oS aS tS ik cA tp td fm tt vl wr bO sO nU mV)) := by
  refine MU.mk (by decide) (Nat.le_of_ble_eq_true rfl) ?_
  intro p e s m below meth c ls S hr hlk hP hK hD hS hl
  have S : CallFix p m c cX4_works 6 s _ WL RX4 := S
  obtain ⟨hx, hb, hml, hown, hts⟩ := id S
  have hl : lv_has ls 6 [(0, .ref (A 0)), (1, .int (nI f))] := hl
  have h8 : n ≤ 8 := hI.1
  refine lv_aload_n hx hb dX4_works_0 rfl (lv_at hl 0 rfl) ?_
  refine lv_iload_n hx hb dX4_works_1 rfl (lv_at hl 1 rfl) ?_
  refine ro_V (w := (MW cI cJ A sS kS oS aS tS ik cA tp td fm tt vl wr bO sO nU mV)) (rest := []) S hK hP (k_X4_rubsOf n f hI (by omega)) gv_X4_133 hd_X4_rubsOf ⟨Nat.le_of_ble_eq_true rfl, Nat.le_of_ble_eq_true rfl⟩ 4 rfl rfl rfl rfl hl.1 (lv_room (Nat.le_of_ble_eq_true rfl)) dX4_works_2 ⟨Nat.zero_le _, Nat.zero_le _⟩ ?_
  refine lv_istore_n (lv' := [(2, .int (rubs sS n f)), (0, .ref (A 0)), (1, .int (nI f))]) hx hb dX4_works_5 rfl hl (by decide) rfl (fun ls hl => ?_)
  refine lv_aload_n hx hb dX4_works_6 rfl (lv_at hl 1 rfl) ?_
  refine lv_iload_n hx hb dX4_works_7 rfl (lv_at hl 2 rfl) ?_
  refine lv_iconst (v := 5) hx hb dX4_works_8 rfl ?_
  refine ro_V (w := (MW cI cJ A sS kS oS aS tS ik cA tp td fm tt vl wr bO sO nU mV)) (rest := []) S hK hP (k_X4_its f 5 (by omega) (by omega)) gv_X4_55 hd_X4_its ⟨Nat.le_of_ble_eq_true rfl, Nat.le_of_ble_eq_true rfl⟩ 4 rfl rfl rfl rfl hl.1 (lv_room (Nat.le_of_ble_eq_true rfl)) dX4_works_9 ⟨Nat.zero_le _, Nat.zero_le _⟩ ?_
  refine lv_if_ne (tgt := 19) hx hb dX4_works_12 rfl (fun c12 => ?_) (fun c12 => ?_)
  · refine lv_aload_n hx hb dX4_works_19 rfl (lv_at hl 1 rfl) ?_
    refine lv_iload_n hx hb dX4_works_20 rfl (lv_at hl 2 rfl) ?_
    refine lv_iconst (v := 5) hx hb dX4_works_21 rfl ?_
    refine ro_V (w := (MW cI cJ A sS kS oS aS tS ik cA tp td fm tt vl wr bO sO nU mV)) (rest := []) S hK hP (k_X4_its f 5 (by omega) (by omega)) gv_X4_55 hd_X4_its ⟨Nat.le_of_ble_eq_true rfl, Nat.le_of_ble_eq_true rfl⟩ 4 rfl rfl rfl rfl hl.1 (lv_room (Nat.le_of_ble_eq_true rfl)) dX4_works_22 ⟨Nat.zero_le _, Nat.zero_le _⟩ ?_
    refine lv_iconst (v := 2) hx hb dX4_works_25 rfl ?_
    refine lv_icmp_gt (tgt := 33) hx hb dX4_works_26 rfl (fun c26 => ?_) (fun c26 => ?_)
    · replace c26 := Int32.not_le.mpr c26
      refine lv_iconst (v := 4) hx hb dX4_works_33 rfl ?_
      refine lv_istore_n (lv' := [(3, .int 4), (2, .int (rubs sS n f)), (0, .ref (A 0)), (1, .int (nI f))]) hx hb dX4_works_34 rfl hl (by decide) rfl (fun ls hl => ?_)
      refine lv_aload_n hx hb dX4_works_35 rfl (lv_at hl 2 rfl) ?_
      refine lv_iload_n hx hb dX4_works_36 rfl (lv_at hl 3 rfl) ?_
      refine lv_iload_n hx hb dX4_works_37 rfl (lv_at hl 0 rfl) ?_
      refine ro_V (w := (MW cI cJ A sS kS oS aS tS ik cA tp td fm tt vl wr bO sO nU mV)) (rest := []) S hK hP (k_X4_its f 4 (by omega) (by omega)) gv_X4_55 hd_X4_its ⟨Nat.le_of_ble_eq_true rfl, Nat.le_of_ble_eq_true rfl⟩ 4 rfl rfl rfl rfl hl.1 (lv_room (Nat.le_of_ble_eq_true rfl)) dX4_works_38 ⟨Nat.zero_le _, Nat.zero_le _⟩ ?_
      refine lv_istore (lv' := [(4, .int (its sS f 4)), (3, .int 4), (2, .int (rubs sS n f)), (0, .ref (A 0)), (1, .int (nI f))]) hx hb dX4_works_41 hl (by decide) rfl (fun ls hl => ?_)
      refine lv_iload_n hx hb dX4_works_43 rfl (lv_at hl 1 rfl) ?_
      refine lv_iconst (v := 3) hx hb dX4_works_44 rfl ?_
      refine lv_icmp_ne (tgt := 61) hx hb dX4_works_45 rfl (fun c45 => ?_) (fun c45 => ?_)
      · refine lv_iload_n hx hb dX4_works_61 rfl (lv_at hl 1 rfl) ?_
        refine lv_iconst (v := 2) hx hb dX4_works_62 rfl ?_
        refine lv_icmp_ne (tgt := 75) hx hb dX4_works_63 rfl (fun c63 => ?_) (fun c63 => ?_)
        · refine lv_iconst (v := 1) hx hb dX4_works_75 rfl ?_
          refine lv_iload hx hb dX4_works_76 (lv_at hl 0 rfl) ?_
          refine lv_isub hx hb dX4_works_78 ?_
          refine lv_istore (lv' := [(5, .int (1 - (its sS f 4))), (4, .int (its sS f 4)), (3, .int 4), (2, .int (rubs sS n f)), (0, .ref (A 0)), (1, .int (nI f))]) hx hb dX4_works_79 hl (by decide) rfl (fun ls hl => ?_)
          refine lv_iload_n hx hb dX4_works_81 rfl (lv_at hl 3 rfl) ?_
          refine lv_if_le (tgt := 131) hx hb dX4_works_82 rfl (fun c82 => ?_) (fun c82 => ?_)
          · have hE : sS = worksF sS n f := by first | (simp [worksF, whatW, thenW, put9, its_u8 _ _ 4 _ (by decide), its_u8 _ _ 3 _ (by decide), its_u8 _ _ 2 _ (by decide), i_lt, -Int32.not_le, -Int32.not_lt, c12, c26, c45, c63, c82]; done) | (simp_all [worksF, whatW, thenW, put9, i_lt, -Int32.not_le, -Int32.not_lt]; done)
            have hW : (MW cI cJ A sS kS oS aS tS ik cA tp td fm tt vl wr bO sO nU mV) = (MW cI cJ A (worksF sS n f) kS oS aS tS ik cA tp td fm tt vl wr bO sO nU mV) := congrArg (fun z => (MW cI cJ A z kS oS aS tS ik cA tp td fm tt vl wr bO sO nU mV)) hE
            have hP : va_P D vwCl (MW cI cJ A (worksF sS n f) kS oS aS tS ik cA tp td fm tt vl wr bO sO nU mV) s.heap := Eq.mp (congrArg (fun z => va_P D vwCl z s.heap) hW) hP
            have hD : va_D _ (MW cI cJ A (worksF sS n f) kS oS aS tS ik cA tp td fm tt vl wr bO sO nU mV) := Eq.mp (congrArg (fun z => va_D _ z) hW) hD
            exact mu_vret (MW cI cJ A (worksF sS n f) kS oS aS tS ik cA tp td fm tt vl wr bO sO nU mV) hx hb hr hlk hP hS rfl (⟨rfl, rfl⟩) dX4_works_131
          · refine lv_iload hx hb dX4_works_85 (lv_at hl 0 rfl) ?_
            refine lv_iload hx hb dX4_works_87 (lv_at hl 1 rfl) ?_
            refine lv_icmp_eq (tgt := 131) hx hb dX4_works_89 rfl (fun c89 => ?_) (fun c89 => ?_)
            · have hE : sS = worksF sS n f := by first | (simp [worksF, whatW, thenW, put9, its_u8 _ _ 4 _ (by decide), its_u8 _ _ 3 _ (by decide), its_u8 _ _ 2 _ (by decide), i_lt, -Int32.not_le, -Int32.not_lt, c12, c26, c45, c63, c82, c89]; done) | (simp_all [worksF, whatW, thenW, put9, i_lt, -Int32.not_le, -Int32.not_lt]; done)
              have hW : (MW cI cJ A sS kS oS aS tS ik cA tp td fm tt vl wr bO sO nU mV) = (MW cI cJ A (worksF sS n f) kS oS aS tS ik cA tp td fm tt vl wr bO sO nU mV) := congrArg (fun z => (MW cI cJ A z kS oS aS tS ik cA tp td fm tt vl wr bO sO nU mV)) hE
              have hP : va_P D vwCl (MW cI cJ A (worksF sS n f) kS oS aS tS ik cA tp td fm tt vl wr bO sO nU mV) s.heap := Eq.mp (congrArg (fun z => va_P D vwCl z s.heap) hW) hP
              have hD : va_D _ (MW cI cJ A (worksF sS n f) kS oS aS tS ik cA tp td fm tt vl wr bO sO nU mV) := Eq.mp (congrArg (fun z => va_D _ z) hW) hD
              exact mu_vret (MW cI cJ A (worksF sS n f) kS oS aS tS ik cA tp td fm tt vl wr bO sO nU mV) hx hb hr hlk hP hS rfl (⟨rfl, rfl⟩) dX4_works_131
            · refine lv_aload_n hx hb dX4_works_92 rfl (lv_at hl 4 rfl) ?_
              refine va_get (ci := 4) (v := .ref (A 1)) hx hb hts wx_X4 hown hK hP 0 rfl rfl 0 (by decide) (hts _ wf_X4_7) (fun _ h9 => h9) rfl dX4_works_93 ?_
              refine lv_iload_n hx hb dX4_works_96 rfl (lv_at hl 5 rfl) ?_
              refine lv_iload_n hx hb dX4_works_97 rfl (lv_at hl 2 rfl) ?_
              refine ro_S (w := []) (rest := [.ref (A 1)]) S hK va_P0 (k_X4_spot f 4) gs_X4_45 hd_X4_spot ⟨Nat.le_of_ble_eq_true rfl, Nat.le_of_ble_eq_true rfl⟩ rfl hl.1 (lv_room (Nat.le_of_ble_eq_true rfl)) dX4_works_98 ⟨Nat.zero_le _, Nat.zero_le _⟩ ?_
              refine lv_iload hx hb dX4_works_101 (lv_at hl 0 rfl) ?_
              refine ia_st hx hb hK hP hD hS 1 0 rfl rfl (9 * f + 4 + 3) (rfl) (by omega) (by decide) dX4_works_103 (fun H locs hP hD hS => ?_)
              have hP : va_P D vwCl (MW cI cJ A (upd sS (9 * f + 4 + 3) (1 - (its sS f 4))) kS oS aS tS ik cA tp td fm tt vl wr bO sO nU mV) H := hP
              have hD : va_D _ (MW cI cJ A (upd sS (9 * f + 4 + 3) (1 - (its sS f 4))) kS oS aS tS ik cA tp td fm tt vl wr bO sO nU mV) := hD
              refine lv_aload_n hx hb dX4_works_104 rfl (lv_at hl 4 rfl) ?_
              refine va_get (ci := 4) (v := .ref (A 1)) hx hb hts wx_X4 hown hK hP 0 rfl rfl 0 (by decide) (hts _ wf_X4_7) (fun _ h9 => h9) rfl dX4_works_105 ?_
              refine lv_iload_n hx hb dX4_works_108 rfl (lv_at hl 5 rfl) ?_
              refine lv_bipush (v := 8) hx hb dX4_works_109 rfl ?_
              refine ro_S (w := []) (rest := [.ref (A 1)]) S hK va_P0 (k_X4_spot f 8) gs_X4_45 hd_X4_spot ⟨Nat.le_of_ble_eq_true rfl, Nat.le_of_ble_eq_true rfl⟩ rfl hl.1 (lv_room (Nat.le_of_ble_eq_true rfl)) dX4_works_111 ⟨Nat.zero_le _, Nat.zero_le _⟩ ?_
              refine lv_aload_n hx hb dX4_works_114 rfl (lv_at hl 4 rfl) ?_
              refine lv_iload_n hx hb dX4_works_115 rfl (lv_at hl 5 rfl) ?_
              refine lv_bipush (v := 8) hx hb dX4_works_116 rfl ?_
              refine ro_V (w := (MW cI cJ A (upd sS (9 * f + 4 + 3) (1 - (its sS f 4))) kS oS aS tS ik cA tp td fm tt vl wr bO sO nU mV)) (rest := [.int (nI (9 * f + 8 + 3)), .ref (A 1)]) S hK hP (k_X4_its f 8 (by omega) (by omega)) gv_X4_55 hd_X4_its ⟨Nat.le_of_ble_eq_true rfl, Nat.le_of_ble_eq_true rfl⟩ 4 rfl rfl rfl rfl hl.1 (lv_room (Nat.le_of_ble_eq_true rfl)) dX4_works_118 ⟨Nat.zero_le _, Nat.zero_le _⟩ ?_
              refine lv_iconst (v := 1) hx hb dX4_works_121 rfl ?_
              refine lv_iadd hx hb dX4_works_122 ?_
              refine lv_iconst (v := 0) hx hb dX4_works_123 rfl ?_
              refine lv_sipush (v := 9999) hx hb dX4_works_124 rfl ?_
              refine ro_S (w := []) (rest := [.int (nI (9 * f + 8 + 3)), .ref (A 1)]) S hK va_P0 (k_X4_held ((its (upd sS (9 * f + 4 + 3) (1 - (its sS f 4))) f 8) + 1) 0 9999) gs_X4_149 hd_X4_held ⟨Nat.le_of_ble_eq_true rfl, Nat.le_of_ble_eq_true rfl⟩ rfl hl.1 (lv_room (Nat.le_of_ble_eq_true rfl)) dX4_works_127 ⟨Nat.zero_le _, Nat.zero_le _⟩ ?_
              refine ia_st hx hb hK hP hD hS 1 0 rfl rfl (9 * f + 8 + 3) (rfl) (by omega) (by decide) dX4_works_130 (fun H locs hP hD hS => ?_)
              have hP : va_P D vwCl (MW cI cJ A (upd (upd sS (9 * f + 4 + 3) (1 - (its sS f 4))) (9 * f + 8 + 3) (heldI ((its (upd sS (9 * f + 4 + 3) (1 - (its sS f 4))) f 8) + 1) 0 9999)) kS oS aS tS ik cA tp td fm tt vl wr bO sO nU mV) H := hP
              have hD : va_D _ (MW cI cJ A (upd (upd sS (9 * f + 4 + 3) (1 - (its sS f 4))) (9 * f + 8 + 3) (heldI ((its (upd sS (9 * f + 4 + 3) (1 - (its sS f 4))) f 8) + 1) 0 9999)) kS oS aS tS ik cA tp td fm tt vl wr bO sO nU mV) := hD
              have hE : upd (upd sS (9 * f + 4 + 3) (1 - (its sS f 4))) (9 * f + 8 + 3) (heldI ((its (upd sS (9 * f + 4 + 3) (1 - (its sS f 4))) f 8) + 1) 0 9999) = worksF sS n f := by first | (simp [worksF, whatW, thenW, put9, its_u8 _ _ 4 _ (by decide), its_u8 _ _ 3 _ (by decide), its_u8 _ _ 2 _ (by decide), i_lt, -Int32.not_le, -Int32.not_lt, c12, c26, c45, c63, c82, c89]; done) | (simp_all [worksF, whatW, thenW, put9, i_lt, -Int32.not_le, -Int32.not_lt]; done)
              have hW : (MW cI cJ A (upd (upd sS (9 * f + 4 + 3) (1 - (its sS f 4))) (9 * f + 8 + 3) (heldI ((its (upd sS (9 * f + 4 + 3) (1 - (its sS f 4))) f 8) + 1) 0 9999)) kS oS aS tS ik cA tp td fm tt vl wr bO sO nU mV) = (MW cI cJ A (worksF sS n f) kS oS aS tS ik cA tp td fm tt vl wr bO sO nU mV) := congrArg (fun z => (MW cI cJ A z kS oS aS tS ik cA tp td fm tt vl wr bO sO nU mV)) hE
              have hP : va_P D vwCl (MW cI cJ A (worksF sS n f) kS oS aS tS ik cA tp td fm tt vl wr bO sO nU mV) H := Eq.mp (congrArg (fun z => va_P D vwCl z H) hW) hP
              have hD : va_D _ (MW cI cJ A (worksF sS n f) kS oS aS tS ik cA tp td fm tt vl wr bO sO nU mV) := Eq.mp (congrArg (fun z => va_D _ z) hW) hD
              exact mu_vret (MW cI cJ A (worksF sS n f) kS oS aS tS ik cA tp td fm tt vl wr bO sO nU mV) hx hb hr hlk hP hS rfl (⟨rfl, rfl⟩) dX4_works_131
        · exact absurd c63 (by decide)
      · exact absurd c45 (by decide)
    · replace c26 := Int32.not_lt.mp c26
      refine lv_iconst (v := 2) hx hb dX4_works_29 rfl ?_
      refine lv_goto (tgt := 34) hx hb dX4_works_30 rfl ?_
      refine lv_istore_n (lv' := [(3, .int 2), (2, .int (rubs sS n f)), (0, .ref (A 0)), (1, .int (nI f))]) hx hb dX4_works_34 rfl hl (by decide) rfl (fun ls hl => ?_)
      refine lv_aload_n hx hb dX4_works_35 rfl (lv_at hl 2 rfl) ?_
      refine lv_iload_n hx hb dX4_works_36 rfl (lv_at hl 3 rfl) ?_
      refine lv_iload_n hx hb dX4_works_37 rfl (lv_at hl 0 rfl) ?_
      refine ro_V (w := (MW cI cJ A sS kS oS aS tS ik cA tp td fm tt vl wr bO sO nU mV)) (rest := []) S hK hP (k_X4_its f 2 (by omega) (by omega)) gv_X4_55 hd_X4_its ⟨Nat.le_of_ble_eq_true rfl, Nat.le_of_ble_eq_true rfl⟩ 4 rfl rfl rfl rfl hl.1 (lv_room (Nat.le_of_ble_eq_true rfl)) dX4_works_38 ⟨Nat.zero_le _, Nat.zero_le _⟩ ?_
      refine lv_istore (lv' := [(4, .int (its sS f 2)), (3, .int 2), (2, .int (rubs sS n f)), (0, .ref (A 0)), (1, .int (nI f))]) hx hb dX4_works_41 hl (by decide) rfl (fun ls hl => ?_)
      refine lv_iload_n hx hb dX4_works_43 rfl (lv_at hl 1 rfl) ?_
      refine lv_iconst (v := 3) hx hb dX4_works_44 rfl ?_
      refine lv_icmp_ne (tgt := 61) hx hb dX4_works_45 rfl (fun c45 => ?_) (fun c45 => ?_)
      · refine lv_iload_n hx hb dX4_works_61 rfl (lv_at hl 1 rfl) ?_
        refine lv_iconst (v := 2) hx hb dX4_works_62 rfl ?_
        refine lv_icmp_ne (tgt := 75) hx hb dX4_works_63 rfl (fun c63 => ?_) (fun c63 => ?_)
        · exact absurd c63 (by decide)
        · refine lv_aload_n hx hb dX4_works_66 rfl (lv_at hl 3 rfl) ?_
          refine lv_iload_n hx hb dX4_works_67 rfl (lv_at hl 4 rfl) ?_
          refine lv_iload_n hx hb dX4_works_68 rfl (lv_at hl 2 rfl) ?_
          have hw := nc_in hI hf hc (by assumption) (by assumption)
          refine ro_V (w := (MW cI cJ A sS kS oS aS tS ik cA tp td fm tt vl wr bO sO nU mV)) (rest := []) S hK hP (k_X4_columnBy n f (rubs sS n f) hI (by omega) hw) gv_X4_152 hd_X4_columnBy ⟨Nat.le_of_ble_eq_true rfl, Nat.le_of_ble_eq_true rfl⟩ 4 rfl rfl rfl rfl hl.1 (lv_room (Nat.le_of_ble_eq_true rfl)) dX4_works_69 ⟨Nat.zero_le _, Nat.zero_le _⟩ ?_
          refine lv_goto (tgt := 79) hx hb dX4_works_72 rfl ?_
          refine lv_istore (lv' := [(5, .int (columnBy sS f (rubs sS n f))), (4, .int (its sS f 2)), (3, .int 2), (2, .int (rubs sS n f)), (0, .ref (A 0)), (1, .int (nI f))]) hx hb dX4_works_79 hl (by decide) rfl (fun ls hl => ?_)
          refine lv_iload_n hx hb dX4_works_81 rfl (lv_at hl 3 rfl) ?_
          refine lv_if_le (tgt := 131) hx hb dX4_works_82 rfl (fun c82 => ?_) (fun c82 => ?_)
          · have hE : sS = worksF sS n f := by first | (simp [worksF, whatW, thenW, put9, its_u8 _ _ 4 _ (by decide), its_u8 _ _ 3 _ (by decide), its_u8 _ _ 2 _ (by decide), i_lt, -Int32.not_le, -Int32.not_lt, c12, c26, c45, c63, c82]; done) | (simp_all [worksF, whatW, thenW, put9, i_lt, -Int32.not_le, -Int32.not_lt]; done)
            have hW : (MW cI cJ A sS kS oS aS tS ik cA tp td fm tt vl wr bO sO nU mV) = (MW cI cJ A (worksF sS n f) kS oS aS tS ik cA tp td fm tt vl wr bO sO nU mV) := congrArg (fun z => (MW cI cJ A z kS oS aS tS ik cA tp td fm tt vl wr bO sO nU mV)) hE
            have hP : va_P D vwCl (MW cI cJ A (worksF sS n f) kS oS aS tS ik cA tp td fm tt vl wr bO sO nU mV) s.heap := Eq.mp (congrArg (fun z => va_P D vwCl z s.heap) hW) hP
            have hD : va_D _ (MW cI cJ A (worksF sS n f) kS oS aS tS ik cA tp td fm tt vl wr bO sO nU mV) := Eq.mp (congrArg (fun z => va_D _ z) hW) hD
            exact mu_vret (MW cI cJ A (worksF sS n f) kS oS aS tS ik cA tp td fm tt vl wr bO sO nU mV) hx hb hr hlk hP hS rfl (⟨rfl, rfl⟩) dX4_works_131
          · refine lv_iload hx hb dX4_works_85 (lv_at hl 0 rfl) ?_
            refine lv_iload hx hb dX4_works_87 (lv_at hl 1 rfl) ?_
            refine lv_icmp_eq (tgt := 131) hx hb dX4_works_89 rfl (fun c89 => ?_) (fun c89 => ?_)
            · have hE : sS = worksF sS n f := by first | (simp [worksF, whatW, thenW, put9, its_u8 _ _ 4 _ (by decide), its_u8 _ _ 3 _ (by decide), its_u8 _ _ 2 _ (by decide), i_lt, -Int32.not_le, -Int32.not_lt, c12, c26, c45, c63, c82, c89]; done) | (simp_all [worksF, whatW, thenW, put9, i_lt, -Int32.not_le, -Int32.not_lt]; done)
              have hW : (MW cI cJ A sS kS oS aS tS ik cA tp td fm tt vl wr bO sO nU mV) = (MW cI cJ A (worksF sS n f) kS oS aS tS ik cA tp td fm tt vl wr bO sO nU mV) := congrArg (fun z => (MW cI cJ A z kS oS aS tS ik cA tp td fm tt vl wr bO sO nU mV)) hE
              have hP : va_P D vwCl (MW cI cJ A (worksF sS n f) kS oS aS tS ik cA tp td fm tt vl wr bO sO nU mV) s.heap := Eq.mp (congrArg (fun z => va_P D vwCl z s.heap) hW) hP
              have hD : va_D _ (MW cI cJ A (worksF sS n f) kS oS aS tS ik cA tp td fm tt vl wr bO sO nU mV) := Eq.mp (congrArg (fun z => va_D _ z) hW) hD
              exact mu_vret (MW cI cJ A (worksF sS n f) kS oS aS tS ik cA tp td fm tt vl wr bO sO nU mV) hx hb hr hlk hP hS rfl (⟨rfl, rfl⟩) dX4_works_131
            · refine lv_aload_n hx hb dX4_works_92 rfl (lv_at hl 4 rfl) ?_
              refine va_get (ci := 4) (v := .ref (A 1)) hx hb hts wx_X4 hown hK hP 0 rfl rfl 0 (by decide) (hts _ wf_X4_7) (fun _ h9 => h9) rfl dX4_works_93 ?_
              refine lv_iload_n hx hb dX4_works_96 rfl (lv_at hl 5 rfl) ?_
              refine lv_iload_n hx hb dX4_works_97 rfl (lv_at hl 2 rfl) ?_
              refine ro_S (w := []) (rest := [.ref (A 1)]) S hK va_P0 (k_X4_spot f 2) gs_X4_45 hd_X4_spot ⟨Nat.le_of_ble_eq_true rfl, Nat.le_of_ble_eq_true rfl⟩ rfl hl.1 (lv_room (Nat.le_of_ble_eq_true rfl)) dX4_works_98 ⟨Nat.zero_le _, Nat.zero_le _⟩ ?_
              refine lv_iload hx hb dX4_works_101 (lv_at hl 0 rfl) ?_
              refine ia_st hx hb hK hP hD hS 1 0 rfl rfl (9 * f + 2 + 3) (rfl) (by omega) (by decide) dX4_works_103 (fun H locs hP hD hS => ?_)
              have hP : va_P D vwCl (MW cI cJ A (upd sS (9 * f + 2 + 3) (columnBy sS f (rubs sS n f))) kS oS aS tS ik cA tp td fm tt vl wr bO sO nU mV) H := hP
              have hD : va_D _ (MW cI cJ A (upd sS (9 * f + 2 + 3) (columnBy sS f (rubs sS n f))) kS oS aS tS ik cA tp td fm tt vl wr bO sO nU mV) := hD
              refine lv_aload_n hx hb dX4_works_104 rfl (lv_at hl 4 rfl) ?_
              refine va_get (ci := 4) (v := .ref (A 1)) hx hb hts wx_X4 hown hK hP 0 rfl rfl 0 (by decide) (hts _ wf_X4_7) (fun _ h9 => h9) rfl dX4_works_105 ?_
              refine lv_iload_n hx hb dX4_works_108 rfl (lv_at hl 5 rfl) ?_
              refine lv_bipush (v := 8) hx hb dX4_works_109 rfl ?_
              refine ro_S (w := []) (rest := [.ref (A 1)]) S hK va_P0 (k_X4_spot f 8) gs_X4_45 hd_X4_spot ⟨Nat.le_of_ble_eq_true rfl, Nat.le_of_ble_eq_true rfl⟩ rfl hl.1 (lv_room (Nat.le_of_ble_eq_true rfl)) dX4_works_111 ⟨Nat.zero_le _, Nat.zero_le _⟩ ?_
              refine lv_aload_n hx hb dX4_works_114 rfl (lv_at hl 4 rfl) ?_
              refine lv_iload_n hx hb dX4_works_115 rfl (lv_at hl 5 rfl) ?_
              refine lv_bipush (v := 8) hx hb dX4_works_116 rfl ?_
              refine ro_V (w := (MW cI cJ A (upd sS (9 * f + 2 + 3) (columnBy sS f (rubs sS n f))) kS oS aS tS ik cA tp td fm tt vl wr bO sO nU mV)) (rest := [.int (nI (9 * f + 8 + 3)), .ref (A 1)]) S hK hP (k_X4_its f 8 (by omega) (by omega)) gv_X4_55 hd_X4_its ⟨Nat.le_of_ble_eq_true rfl, Nat.le_of_ble_eq_true rfl⟩ 4 rfl rfl rfl rfl hl.1 (lv_room (Nat.le_of_ble_eq_true rfl)) dX4_works_118 ⟨Nat.zero_le _, Nat.zero_le _⟩ ?_
              refine lv_iconst (v := 1) hx hb dX4_works_121 rfl ?_
              refine lv_iadd hx hb dX4_works_122 ?_
              refine lv_iconst (v := 0) hx hb dX4_works_123 rfl ?_
              refine lv_sipush (v := 9999) hx hb dX4_works_124 rfl ?_
              refine ro_S (w := []) (rest := [.int (nI (9 * f + 8 + 3)), .ref (A 1)]) S hK va_P0 (k_X4_held ((its (upd sS (9 * f + 2 + 3) (columnBy sS f (rubs sS n f))) f 8) + 1) 0 9999) gs_X4_149 hd_X4_held ⟨Nat.le_of_ble_eq_true rfl, Nat.le_of_ble_eq_true rfl⟩ rfl hl.1 (lv_room (Nat.le_of_ble_eq_true rfl)) dX4_works_127 ⟨Nat.zero_le _, Nat.zero_le _⟩ ?_
              refine ia_st hx hb hK hP hD hS 1 0 rfl rfl (9 * f + 8 + 3) (rfl) (by omega) (by decide) dX4_works_130 (fun H locs hP hD hS => ?_)
              have hP : va_P D vwCl (MW cI cJ A (upd (upd sS (9 * f + 2 + 3) (columnBy sS f (rubs sS n f))) (9 * f + 8 + 3) (heldI ((its (upd sS (9 * f + 2 + 3) (columnBy sS f (rubs sS n f))) f 8) + 1) 0 9999)) kS oS aS tS ik cA tp td fm tt vl wr bO sO nU mV) H := hP
              have hD : va_D _ (MW cI cJ A (upd (upd sS (9 * f + 2 + 3) (columnBy sS f (rubs sS n f))) (9 * f + 8 + 3) (heldI ((its (upd sS (9 * f + 2 + 3) (columnBy sS f (rubs sS n f))) f 8) + 1) 0 9999)) kS oS aS tS ik cA tp td fm tt vl wr bO sO nU mV) := hD
              have hE : upd (upd sS (9 * f + 2 + 3) (columnBy sS f (rubs sS n f))) (9 * f + 8 + 3) (heldI ((its (upd sS (9 * f + 2 + 3) (columnBy sS f (rubs sS n f))) f 8) + 1) 0 9999) = worksF sS n f := by first | (simp [worksF, whatW, thenW, put9, its_u8 _ _ 4 _ (by decide), its_u8 _ _ 3 _ (by decide), its_u8 _ _ 2 _ (by decide), i_lt, -Int32.not_le, -Int32.not_lt, c12, c26, c45, c63, c82, c89]; done) | (simp_all [worksF, whatW, thenW, put9, i_lt, -Int32.not_le, -Int32.not_lt]; done)
              have hW : (MW cI cJ A (upd (upd sS (9 * f + 2 + 3) (columnBy sS f (rubs sS n f))) (9 * f + 8 + 3) (heldI ((its (upd sS (9 * f + 2 + 3) (columnBy sS f (rubs sS n f))) f 8) + 1) 0 9999)) kS oS aS tS ik cA tp td fm tt vl wr bO sO nU mV) = (MW cI cJ A (worksF sS n f) kS oS aS tS ik cA tp td fm tt vl wr bO sO nU mV) := congrArg (fun z => (MW cI cJ A z kS oS aS tS ik cA tp td fm tt vl wr bO sO nU mV)) hE
              have hP : va_P D vwCl (MW cI cJ A (worksF sS n f) kS oS aS tS ik cA tp td fm tt vl wr bO sO nU mV) H := Eq.mp (congrArg (fun z => va_P D vwCl z H) hW) hP
              have hD : va_D _ (MW cI cJ A (worksF sS n f) kS oS aS tS ik cA tp td fm tt vl wr bO sO nU mV) := Eq.mp (congrArg (fun z => va_D _ z) hW) hD
              exact mu_vret (MW cI cJ A (worksF sS n f) kS oS aS tS ik cA tp td fm tt vl wr bO sO nU mV) hx hb hr hlk hP hS rfl (⟨rfl, rfl⟩) dX4_works_131
      · exact absurd c45 (by decide)
  · refine lv_iconst (v := 3) hx hb dX4_works_15 rfl ?_
    refine lv_goto (tgt := 34) hx hb dX4_works_16 rfl ?_
    refine lv_istore_n (lv' := [(3, .int 3), (2, .int (rubs sS n f)), (0, .ref (A 0)), (1, .int (nI f))]) hx hb dX4_works_34 rfl hl (by decide) rfl (fun ls hl => ?_)
    refine lv_aload_n hx hb dX4_works_35 rfl (lv_at hl 2 rfl) ?_
    refine lv_iload_n hx hb dX4_works_36 rfl (lv_at hl 3 rfl) ?_
    refine lv_iload_n hx hb dX4_works_37 rfl (lv_at hl 0 rfl) ?_
    refine ro_V (w := (MW cI cJ A sS kS oS aS tS ik cA tp td fm tt vl wr bO sO nU mV)) (rest := []) S hK hP (k_X4_its f 3 (by omega) (by omega)) gv_X4_55 hd_X4_its ⟨Nat.le_of_ble_eq_true rfl, Nat.le_of_ble_eq_true rfl⟩ 4 rfl rfl rfl rfl hl.1 (lv_room (Nat.le_of_ble_eq_true rfl)) dX4_works_38 ⟨Nat.zero_le _, Nat.zero_le _⟩ ?_
    refine lv_istore (lv' := [(4, .int (its sS f 3)), (3, .int 3), (2, .int (rubs sS n f)), (0, .ref (A 0)), (1, .int (nI f))]) hx hb dX4_works_41 hl (by decide) rfl (fun ls hl => ?_)
    refine lv_iload_n hx hb dX4_works_43 rfl (lv_at hl 1 rfl) ?_
    refine lv_iconst (v := 3) hx hb dX4_works_44 rfl ?_
    refine lv_icmp_ne (tgt := 61) hx hb dX4_works_45 rfl (fun c45 => ?_) (fun c45 => ?_)
    · exact absurd c45 (by decide)
    · refine lv_iload hx hb dX4_works_48 (lv_at hl 0 rfl) ?_
      refine lv_iload_n hx hb dX4_works_50 rfl (lv_at hl 2 rfl) ?_
      refine lv_isub hx hb dX4_works_51 ?_
      refine lv_iconst (v := 0) hx hb dX4_works_52 rfl ?_
      refine lv_bipush (v := 99) hx hb dX4_works_53 rfl ?_
      refine ro_S (w := []) (rest := []) S hK va_P0 (k_X4_held ((its sS f 3) - (rubs sS n f)) 0 99) gs_X4_149 hd_X4_held ⟨Nat.le_of_ble_eq_true rfl, Nat.le_of_ble_eq_true rfl⟩ rfl hl.1 (lv_room (Nat.le_of_ble_eq_true rfl)) dX4_works_55 ⟨Nat.zero_le _, Nat.zero_le _⟩ ?_
      refine lv_goto (tgt := 79) hx hb dX4_works_58 rfl ?_
      refine lv_istore (lv' := [(5, .int (heldI ((its sS f 3) - (rubs sS n f)) 0 99)), (4, .int (its sS f 3)), (3, .int 3), (2, .int (rubs sS n f)), (0, .ref (A 0)), (1, .int (nI f))]) hx hb dX4_works_79 hl (by decide) rfl (fun ls hl => ?_)
      refine lv_iload_n hx hb dX4_works_81 rfl (lv_at hl 3 rfl) ?_
      refine lv_if_le (tgt := 131) hx hb dX4_works_82 rfl (fun c82 => ?_) (fun c82 => ?_)
      · have hE : sS = worksF sS n f := by first | (simp [worksF, whatW, thenW, put9, its_u8 _ _ 4 _ (by decide), its_u8 _ _ 3 _ (by decide), its_u8 _ _ 2 _ (by decide), i_lt, -Int32.not_le, -Int32.not_lt, c12, c45, c82]; done) | (simp_all [worksF, whatW, thenW, put9, i_lt, -Int32.not_le, -Int32.not_lt]; done)
        have hW : (MW cI cJ A sS kS oS aS tS ik cA tp td fm tt vl wr bO sO nU mV) = (MW cI cJ A (worksF sS n f) kS oS aS tS ik cA tp td fm tt vl wr bO sO nU mV) := congrArg (fun z => (MW cI cJ A z kS oS aS tS ik cA tp td fm tt vl wr bO sO nU mV)) hE
        have hP : va_P D vwCl (MW cI cJ A (worksF sS n f) kS oS aS tS ik cA tp td fm tt vl wr bO sO nU mV) s.heap := Eq.mp (congrArg (fun z => va_P D vwCl z s.heap) hW) hP
        have hD : va_D _ (MW cI cJ A (worksF sS n f) kS oS aS tS ik cA tp td fm tt vl wr bO sO nU mV) := Eq.mp (congrArg (fun z => va_D _ z) hW) hD
        exact mu_vret (MW cI cJ A (worksF sS n f) kS oS aS tS ik cA tp td fm tt vl wr bO sO nU mV) hx hb hr hlk hP hS rfl (⟨rfl, rfl⟩) dX4_works_131
      · refine lv_iload hx hb dX4_works_85 (lv_at hl 0 rfl) ?_
        refine lv_iload hx hb dX4_works_87 (lv_at hl 1 rfl) ?_
        refine lv_icmp_eq (tgt := 131) hx hb dX4_works_89 rfl (fun c89 => ?_) (fun c89 => ?_)
        · have hE : sS = worksF sS n f := by first | (simp [worksF, whatW, thenW, put9, its_u8 _ _ 4 _ (by decide), its_u8 _ _ 3 _ (by decide), its_u8 _ _ 2 _ (by decide), i_lt, -Int32.not_le, -Int32.not_lt, c12, c45, c82, c89]; done) | (simp_all [worksF, whatW, thenW, put9, i_lt, -Int32.not_le, -Int32.not_lt]; done)
          have hW : (MW cI cJ A sS kS oS aS tS ik cA tp td fm tt vl wr bO sO nU mV) = (MW cI cJ A (worksF sS n f) kS oS aS tS ik cA tp td fm tt vl wr bO sO nU mV) := congrArg (fun z => (MW cI cJ A z kS oS aS tS ik cA tp td fm tt vl wr bO sO nU mV)) hE
          have hP : va_P D vwCl (MW cI cJ A (worksF sS n f) kS oS aS tS ik cA tp td fm tt vl wr bO sO nU mV) s.heap := Eq.mp (congrArg (fun z => va_P D vwCl z s.heap) hW) hP
          have hD : va_D _ (MW cI cJ A (worksF sS n f) kS oS aS tS ik cA tp td fm tt vl wr bO sO nU mV) := Eq.mp (congrArg (fun z => va_D _ z) hW) hD
          exact mu_vret (MW cI cJ A (worksF sS n f) kS oS aS tS ik cA tp td fm tt vl wr bO sO nU mV) hx hb hr hlk hP hS rfl (⟨rfl, rfl⟩) dX4_works_131
        · refine lv_aload_n hx hb dX4_works_92 rfl (lv_at hl 4 rfl) ?_
          refine va_get (ci := 4) (v := .ref (A 1)) hx hb hts wx_X4 hown hK hP 0 rfl rfl 0 (by decide) (hts _ wf_X4_7) (fun _ h9 => h9) rfl dX4_works_93 ?_
          refine lv_iload_n hx hb dX4_works_96 rfl (lv_at hl 5 rfl) ?_
          refine lv_iload_n hx hb dX4_works_97 rfl (lv_at hl 2 rfl) ?_
          refine ro_S (w := []) (rest := [.ref (A 1)]) S hK va_P0 (k_X4_spot f 3) gs_X4_45 hd_X4_spot ⟨Nat.le_of_ble_eq_true rfl, Nat.le_of_ble_eq_true rfl⟩ rfl hl.1 (lv_room (Nat.le_of_ble_eq_true rfl)) dX4_works_98 ⟨Nat.zero_le _, Nat.zero_le _⟩ ?_
          refine lv_iload hx hb dX4_works_101 (lv_at hl 0 rfl) ?_
          refine ia_st hx hb hK hP hD hS 1 0 rfl rfl (9 * f + 3 + 3) (rfl) (by omega) (by decide) dX4_works_103 (fun H locs hP hD hS => ?_)
          have hP : va_P D vwCl (MW cI cJ A (upd sS (9 * f + 3 + 3) (heldI ((its sS f 3) - (rubs sS n f)) 0 99)) kS oS aS tS ik cA tp td fm tt vl wr bO sO nU mV) H := hP
          have hD : va_D _ (MW cI cJ A (upd sS (9 * f + 3 + 3) (heldI ((its sS f 3) - (rubs sS n f)) 0 99)) kS oS aS tS ik cA tp td fm tt vl wr bO sO nU mV) := hD
          refine lv_aload_n hx hb dX4_works_104 rfl (lv_at hl 4 rfl) ?_
          refine va_get (ci := 4) (v := .ref (A 1)) hx hb hts wx_X4 hown hK hP 0 rfl rfl 0 (by decide) (hts _ wf_X4_7) (fun _ h9 => h9) rfl dX4_works_105 ?_
          refine lv_iload_n hx hb dX4_works_108 rfl (lv_at hl 5 rfl) ?_
          refine lv_bipush (v := 8) hx hb dX4_works_109 rfl ?_
          refine ro_S (w := []) (rest := [.ref (A 1)]) S hK va_P0 (k_X4_spot f 8) gs_X4_45 hd_X4_spot ⟨Nat.le_of_ble_eq_true rfl, Nat.le_of_ble_eq_true rfl⟩ rfl hl.1 (lv_room (Nat.le_of_ble_eq_true rfl)) dX4_works_111 ⟨Nat.zero_le _, Nat.zero_le _⟩ ?_
          refine lv_aload_n hx hb dX4_works_114 rfl (lv_at hl 4 rfl) ?_
          refine lv_iload_n hx hb dX4_works_115 rfl (lv_at hl 5 rfl) ?_
          refine lv_bipush (v := 8) hx hb dX4_works_116 rfl ?_
          refine ro_V (w := (MW cI cJ A (upd sS (9 * f + 3 + 3) (heldI ((its sS f 3) - (rubs sS n f)) 0 99)) kS oS aS tS ik cA tp td fm tt vl wr bO sO nU mV)) (rest := [.int (nI (9 * f + 8 + 3)), .ref (A 1)]) S hK hP (k_X4_its f 8 (by omega) (by omega)) gv_X4_55 hd_X4_its ⟨Nat.le_of_ble_eq_true rfl, Nat.le_of_ble_eq_true rfl⟩ 4 rfl rfl rfl rfl hl.1 (lv_room (Nat.le_of_ble_eq_true rfl)) dX4_works_118 ⟨Nat.zero_le _, Nat.zero_le _⟩ ?_
          refine lv_iconst (v := 1) hx hb dX4_works_121 rfl ?_
          refine lv_iadd hx hb dX4_works_122 ?_
          refine lv_iconst (v := 0) hx hb dX4_works_123 rfl ?_
          refine lv_sipush (v := 9999) hx hb dX4_works_124 rfl ?_
          refine ro_S (w := []) (rest := [.int (nI (9 * f + 8 + 3)), .ref (A 1)]) S hK va_P0 (k_X4_held ((its (upd sS (9 * f + 3 + 3) (heldI ((its sS f 3) - (rubs sS n f)) 0 99)) f 8) + 1) 0 9999) gs_X4_149 hd_X4_held ⟨Nat.le_of_ble_eq_true rfl, Nat.le_of_ble_eq_true rfl⟩ rfl hl.1 (lv_room (Nat.le_of_ble_eq_true rfl)) dX4_works_127 ⟨Nat.zero_le _, Nat.zero_le _⟩ ?_
          refine ia_st hx hb hK hP hD hS 1 0 rfl rfl (9 * f + 8 + 3) (rfl) (by omega) (by decide) dX4_works_130 (fun H locs hP hD hS => ?_)
          have hP : va_P D vwCl (MW cI cJ A (upd (upd sS (9 * f + 3 + 3) (heldI ((its sS f 3) - (rubs sS n f)) 0 99)) (9 * f + 8 + 3) (heldI ((its (upd sS (9 * f + 3 + 3) (heldI ((its sS f 3) - (rubs sS n f)) 0 99)) f 8) + 1) 0 9999)) kS oS aS tS ik cA tp td fm tt vl wr bO sO nU mV) H := hP
          have hD : va_D _ (MW cI cJ A (upd (upd sS (9 * f + 3 + 3) (heldI ((its sS f 3) - (rubs sS n f)) 0 99)) (9 * f + 8 + 3) (heldI ((its (upd sS (9 * f + 3 + 3) (heldI ((its sS f 3) - (rubs sS n f)) 0 99)) f 8) + 1) 0 9999)) kS oS aS tS ik cA tp td fm tt vl wr bO sO nU mV) := hD
          have hE : upd (upd sS (9 * f + 3 + 3) (heldI ((its sS f 3) - (rubs sS n f)) 0 99)) (9 * f + 8 + 3) (heldI ((its (upd sS (9 * f + 3 + 3) (heldI ((its sS f 3) - (rubs sS n f)) 0 99)) f 8) + 1) 0 9999) = worksF sS n f := by first | (simp [worksF, whatW, thenW, put9, its_u8 _ _ 4 _ (by decide), its_u8 _ _ 3 _ (by decide), its_u8 _ _ 2 _ (by decide), i_lt, -Int32.not_le, -Int32.not_lt, c12, c45, c82, c89]; done) | (simp_all [worksF, whatW, thenW, put9, i_lt, -Int32.not_le, -Int32.not_lt]; done)
          have hW : (MW cI cJ A (upd (upd sS (9 * f + 3 + 3) (heldI ((its sS f 3) - (rubs sS n f)) 0 99)) (9 * f + 8 + 3) (heldI ((its (upd sS (9 * f + 3 + 3) (heldI ((its sS f 3) - (rubs sS n f)) 0 99)) f 8) + 1) 0 9999)) kS oS aS tS ik cA tp td fm tt vl wr bO sO nU mV) = (MW cI cJ A (worksF sS n f) kS oS aS tS ik cA tp td fm tt vl wr bO sO nU mV) := congrArg (fun z => (MW cI cJ A z kS oS aS tS ik cA tp td fm tt vl wr bO sO nU mV)) hE
          have hP : va_P D vwCl (MW cI cJ A (worksF sS n f) kS oS aS tS ik cA tp td fm tt vl wr bO sO nU mV) H := Eq.mp (congrArg (fun z => va_P D vwCl z H) hW) hP
          have hD : va_D _ (MW cI cJ A (worksF sS n f) kS oS aS tS ik cA tp td fm tt vl wr bO sO nU mV) := Eq.mp (congrArg (fun z => va_D _ z) hW) hD
          exact mu_vret (MW cI cJ A (worksF sS n f) kS oS aS tS ik cA tp td fm tt vl wr bO sO nU mV) hx hb hr hlk hP hS rfl (⟨rfl, rfl⟩) dX4_works_131

set_option maxHeartbeats 4000000 in
set_option maxRecDepth 100000 in
theorem k_X4_hour (n : Nat) (hI : Inv sS n) : MU l D (tyA cI cJ cO) yX4_hour cX4_hour 2 none 7 154 [.ref (A 0)] (MW cI cJ A sS kS oS aS tS ik cA tp td fm tt vl wr bO sO nU mV) (fun ov w' => ov = none ∧ w' = (MW cI cJ A (hourF sS n) kS oS aS tS ik cA tp td fm tt vl wr bO sO nU mV)) := by
  refine MU.mk (by decide) (Nat.le_of_ble_eq_true rfl) ?_
  intro p e s m below meth c ls S hr hlk hP hK hD hS hl
  have S : CallFix p m c cX4_hour 2 s _ WL RX4 := S
  obtain ⟨hx, hb, hml, hown, hts⟩ := id S
  have hl : lv_has ls 2 [(0, .ref (A 0))] := hl
  have h8 : n ≤ 8 := hI.1
  have hI0 := hI
  refine lv_iconst (v := 0) hx hb dX4_hour_0 rfl ?_
  refine lv_istore_n (lv' := [(1, .int 0), (0, .ref (A 0))]) hx hb dX4_hour_1 rfl hl (by decide) rfl (fun ls hl => ?_)
  refine w_loopH (pc := 2) (st := fun (i : Nat) => []) (μ := fun (i : Nat) => n - i) (I := fun (i : Nat) H locs ls => (i ≤ n) ∧ va_P D vwCl (MW cI cJ A (passF sS n i) kS oS aS tS ik cA tp td fm tt vl wr bO sO nU mV) H ∧ va_D (fun z9 => z9 ∈ ((MW cI cJ A sS kS oS aS tS ik cA tp td fm tt vl wr bO sO nU mV)).map (fun z8 => z8.1)) (MW cI cJ A (passF sS n i) kS oS aS tS ik cA tp td fm tt vl wr bO sO nU mV) ∧ va_S (fun z9 => z9 ∈ ((MW cI cJ A sS kS oS aS tS ik cA tp td fm tt vl wr bO sO nU mV)).map (fun z8 => z8.1)) s.heap H locs ∧ lv_has ls 2 [(0, .ref (A 0)), (1, .int (nI i))]) ?_ (0) ⟨Nat.zero_le _, hP, hD, hS, lv_sub hl [1, 0] rfl⟩
  rintro i H locs ls ⟨hi, hP, hD, hS, hl⟩ ih2
  try dsimp only at ih2 ⊢
  have hI := Inv_pass hI0 i hi
  refine lv_iload_n hx hb dX4_hour_2 rfl (lv_at hl 1 rfl) ?_
  refine lv_aload_n hx hb dX4_hour_3 rfl (lv_at hl 0 rfl) ?_
  refine va_get (ci := 4) (v := .ref (A 1)) hx hb hts wx_X4 hown hK hP 0 rfl rfl 0 (by decide) (hts _ wf_X4_7) (fun _ h9 => h9) rfl dX4_hour_4 ?_
  refine lv_iconst (v := 1) hx hb dX4_hour_7 rfl ?_
  refine ia_ld hx hb hK hP 1 0 rfl rfl 1 (rfl) (by omega) (by decide) dX4_hour_8 ?_
  refine w_i (z := nI n) (hI.2.1) ?_
  refine lv_icmp_ge (tgt := 49) hx hb dX4_hour_9 rfl (fun c9 => ?_) (fun c9 => ?_)
  · replace c9 := nq_le (a := n) (b := i) (by omega) (by omega) c9
    obtain rfl : n = i := by omega
    refine lv_aload_n hx hb dX4_hour_49 rfl (lv_at hl 0 rfl) ?_
    refine va_get (ci := 4) (v := .ref (A 1)) hx hb hts wx_X4 hown hK hP 0 rfl rfl 0 (by decide) (hts _ wf_X4_7) (fun _ h9 => h9) rfl dX4_hour_50 ?_
    refine lv_iconst (v := 0) hx hb dX4_hour_53 rfl ?_
    refine lv_dup2_11 hx hb dX4_hour_54 rfl rfl ?_
    refine ia_ld hx hb hK hP 1 0 rfl rfl 0 (rfl) (by omega) (by decide) dX4_hour_55 ?_
    refine lv_iconst (v := 1) hx hb dX4_hour_56 rfl ?_
    refine lv_iadd hx hb dX4_hour_57 ?_
    refine ia_st hx hb hK hP hD hS 1 0 rfl rfl 0 (rfl) (by omega) (by decide) dX4_hour_58 (fun H locs hP hD hS => ?_)
    have hP : va_P D vwCl (MW cI cJ A (upd (passF sS n n) 0 (((passF sS n n) 0) + 1)) kS oS aS tS ik cA tp td fm tt vl wr bO sO nU mV) H := hP
    have hD : va_D _ (MW cI cJ A (upd (passF sS n n) 0 (((passF sS n n) 0) + 1)) kS oS aS tS ik cA tp td fm tt vl wr bO sO nU mV) := hD
    exact mu_vret (MW cI cJ A (upd (passF sS n n) 0 (((passF sS n n) 0) + 1)) kS oS aS tS ik cA tp td fm tt vl wr bO sO nU mV) hx hb hr hlk hP hS rfl (⟨rfl, rfl⟩) dX4_hour_59
  · replace c9 := nq_nle (a := n) (b := i) (by omega) (by omega) c9
    refine lv_aload_n hx hb dX4_hour_12 rfl (lv_at hl 0 rfl) ?_
    refine lv_iload_n hx hb dX4_hour_13 rfl (lv_at hl 1 rfl) ?_
    refine lv_bipush (v := 7) hx hb dX4_hour_14 rfl ?_
    refine ro_V (w := (MW cI cJ A (passF sS n i) kS oS aS tS ik cA tp td fm tt vl wr bO sO nU mV)) (rest := []) S hK hP (k_X4_its i 7 (by omega) (by omega)) gv_X4_55 hd_X4_its ⟨Nat.le_of_ble_eq_true rfl, Nat.le_of_ble_eq_true rfl⟩ 4 rfl rfl rfl rfl hl.1 (lv_room (Nat.le_of_ble_eq_true rfl)) dX4_hour_16 ⟨Nat.zero_le _, Nat.zero_le _⟩ ?_
    refine lv_if_ne (tgt := 43) hx hb dX4_hour_19 rfl (fun c19 => ?_) (fun c19 => ?_)
    · have hE : passF sS n i = passF sS n (i + 1) := passF_f (by simp [c19])
      have hW : (MW cI cJ A (passF sS n i) kS oS aS tS ik cA tp td fm tt vl wr bO sO nU mV) = (MW cI cJ A (passF sS n (i + 1)) kS oS aS tS ik cA tp td fm tt vl wr bO sO nU mV) := congrArg (fun z => (MW cI cJ A z kS oS aS tS ik cA tp td fm tt vl wr bO sO nU mV)) hE
      have hP : va_P D vwCl (MW cI cJ A (passF sS n (i + 1)) kS oS aS tS ik cA tp td fm tt vl wr bO sO nU mV) H := Eq.mp (congrArg (fun z => va_P D vwCl z H) hW) hP
      have hD : va_D _ (MW cI cJ A (passF sS n (i + 1)) kS oS aS tS ik cA tp td fm tt vl wr bO sO nU mV) := Eq.mp (congrArg (fun z => va_D _ z) hW) hD
      refine lv_iinc (v := nI (i + 1)) (lv' := [(1, .int (nI (i + 1))), (0, .ref (A 0))]) hx hb dX4_hour_43 hl (k := 1) rfl (nI_inc _) (by decide) rfl (fun ls hl => ?_)
      refine lv_goto (tgt := 2) hx hb dX4_hour_46 rfl ?_
      exact ih2 (i + 1) _ _ ls (by first | omega | (dsimp only; omega)) ⟨(by omega), hP, hD, hS, lv_sub hl [1, 0] rfl⟩
    · refine lv_aload_n hx hb dX4_hour_22 rfl (lv_at hl 0 rfl) ?_
      refine lv_iload_n hx hb dX4_hour_23 rfl (lv_at hl 1 rfl) ?_
      refine ro_V (w := (MW cI cJ A (passF sS n i) kS oS aS tS ik cA tp td fm tt vl wr bO sO nU mV)) (rest := []) S hK hP (k_X4_isContent n i hI (by omega)) gv_X4_82 hd_X4_isContent ⟨Nat.le_of_ble_eq_true rfl, Nat.le_of_ble_eq_true rfl⟩ 4 rfl rfl rfl rfl hl.1 (lv_room (Nat.le_of_ble_eq_true rfl)) dX4_hour_24 ⟨Nat.zero_le _, Nat.zero_le _⟩ ?_
      refine lv_if_ne (tgt := 43) hx hb dX4_hour_27 rfl (fun c27 => ?_) (fun c27 => ?_)
      · replace c27 := b2i_n0 c27
        have hE : passF sS n i = passF sS n (i + 1) := passF_f (by simp [c27])
        have hW : (MW cI cJ A (passF sS n i) kS oS aS tS ik cA tp td fm tt vl wr bO sO nU mV) = (MW cI cJ A (passF sS n (i + 1)) kS oS aS tS ik cA tp td fm tt vl wr bO sO nU mV) := congrArg (fun z => (MW cI cJ A z kS oS aS tS ik cA tp td fm tt vl wr bO sO nU mV)) hE
        have hP : va_P D vwCl (MW cI cJ A (passF sS n (i + 1)) kS oS aS tS ik cA tp td fm tt vl wr bO sO nU mV) H := Eq.mp (congrArg (fun z => va_P D vwCl z H) hW) hP
        have hD : va_D _ (MW cI cJ A (passF sS n (i + 1)) kS oS aS tS ik cA tp td fm tt vl wr bO sO nU mV) := Eq.mp (congrArg (fun z => va_D _ z) hW) hD
        refine lv_iinc (v := nI (i + 1)) (lv' := [(1, .int (nI (i + 1))), (0, .ref (A 0))]) hx hb dX4_hour_43 hl (k := 1) rfl (nI_inc _) (by decide) rfl (fun ls hl => ?_)
        refine lv_goto (tgt := 2) hx hb dX4_hour_46 rfl ?_
        exact ih2 (i + 1) _ _ ls (by first | omega | (dsimp only; omega)) ⟨(by omega), hP, hD, hS, lv_sub hl [1, 0] rfl⟩
      · replace c27 := (b2i_0 _).mp c27
        refine lv_aload_n hx hb dX4_hour_30 rfl (lv_at hl 0 rfl) ?_
        refine lv_iload_n hx hb dX4_hour_31 rfl (lv_at hl 1 rfl) ?_
        refine ro_V (w := (MW cI cJ A (passF sS n i) kS oS aS tS ik cA tp td fm tt vl wr bO sO nU mV)) (rest := []) S hK hP (k_X4_isWaiting n i hI (by omega)) gv_X4_98 hd_X4_isWaiting ⟨Nat.le_of_ble_eq_true rfl, Nat.le_of_ble_eq_true rfl⟩ 4 rfl rfl rfl rfl hl.1 (lv_room (Nat.le_of_ble_eq_true rfl)) dX4_hour_32 ⟨Nat.zero_le _, Nat.zero_le _⟩ ?_
        refine lv_if_ne (tgt := 43) hx hb dX4_hour_35 rfl (fun c35 => ?_) (fun c35 => ?_)
        · replace c35 := b2i_n0 c35
          have hE : passF sS n i = passF sS n (i + 1) := passF_f (by simp [c35])
          have hW : (MW cI cJ A (passF sS n i) kS oS aS tS ik cA tp td fm tt vl wr bO sO nU mV) = (MW cI cJ A (passF sS n (i + 1)) kS oS aS tS ik cA tp td fm tt vl wr bO sO nU mV) := congrArg (fun z => (MW cI cJ A z kS oS aS tS ik cA tp td fm tt vl wr bO sO nU mV)) hE
          have hP : va_P D vwCl (MW cI cJ A (passF sS n (i + 1)) kS oS aS tS ik cA tp td fm tt vl wr bO sO nU mV) H := Eq.mp (congrArg (fun z => va_P D vwCl z H) hW) hP
          have hD : va_D _ (MW cI cJ A (passF sS n (i + 1)) kS oS aS tS ik cA tp td fm tt vl wr bO sO nU mV) := Eq.mp (congrArg (fun z => va_D _ z) hW) hD
          refine lv_iinc (v := nI (i + 1)) (lv' := [(1, .int (nI (i + 1))), (0, .ref (A 0))]) hx hb dX4_hour_43 hl (k := 1) rfl (nI_inc _) (by decide) rfl (fun ls hl => ?_)
          refine lv_goto (tgt := 2) hx hb dX4_hour_46 rfl ?_
          exact ih2 (i + 1) _ _ ls (by first | omega | (dsimp only; omega)) ⟨(by omega), hP, hD, hS, lv_sub hl [1, 0] rfl⟩
        · replace c35 := (b2i_0 _).mp c35
          refine lv_aload_n hx hb dX4_hour_38 rfl (lv_at hl 0 rfl) ?_
          refine lv_iload_n hx hb dX4_hour_39 rfl (lv_at hl 1 rfl) ?_
          have hc := c27
          refine mu_W (w := (MW cI cJ A (passF sS n i) kS oS aS tS ik cA tp td fm tt vl wr bO sO nU mV)) (rest := []) S hK hP hD hS (k_X4_works n i hI (by omega) hc) gv_X4_155 hd_X4_works ⟨Nat.le_of_ble_eq_true rfl, Nat.le_of_ble_eq_true rfl⟩ 4 rfl rfl rfl rfl hl.1 (lv_room (Nat.le_of_ble_eq_true rfl)) dX4_hour_40 ⟨Nat.zero_le _, Nat.zero_le _⟩ (fun ov w' H locs hp hP hD hS => ?_)
          obtain ⟨rfl, rfl⟩ := hp
          refine W.eq (g2 := F0 m 43 ls []) rfl ?_
          have hE : worksF (passF sS n i) n i = passF sS n (i + 1) := passF_t c19 c27 c35
          have hW : (MW cI cJ A (worksF (passF sS n i) n i) kS oS aS tS ik cA tp td fm tt vl wr bO sO nU mV) = (MW cI cJ A (passF sS n (i + 1)) kS oS aS tS ik cA tp td fm tt vl wr bO sO nU mV) := congrArg (fun z => (MW cI cJ A z kS oS aS tS ik cA tp td fm tt vl wr bO sO nU mV)) hE
          have hP : va_P D vwCl (MW cI cJ A (passF sS n (i + 1)) kS oS aS tS ik cA tp td fm tt vl wr bO sO nU mV) H := Eq.mp (congrArg (fun z => va_P D vwCl z H) hW) hP
          have hD : va_D _ (MW cI cJ A (passF sS n (i + 1)) kS oS aS tS ik cA tp td fm tt vl wr bO sO nU mV) := Eq.mp (congrArg (fun z => va_D _ z) hW) hD
          refine lv_iinc (v := nI (i + 1)) (lv' := [(1, .int (nI (i + 1))), (0, .ref (A 0))]) hx hb dX4_hour_43 hl (k := 1) rfl (nI_inc _) (by decide) rfl (fun ls hl => ?_)
          refine lv_goto (tgt := 2) hx hb dX4_hour_46 rfl ?_
          exact ih2 (i + 1) _ _ ls (by first | omega | (dsimp only; omega)) ⟨(by omega), hP, hD, hS, lv_sub hl [1, 0] rfl⟩

set_option maxHeartbeats 4000000 in
set_option maxRecDepth 100000 in
theorem k_X4_hoursGo (n : Nat) (k : Nat) (hI : Inv sS n) (hk : k < 1000) : MU l D (tyA cI cJ cO) yX4_hoursGo cX4_hoursGo 3 none 8 175 [.ref (A 0), .int (nI k)] (MW cI cJ A sS kS oS aS tS ik cA tp td fm tt vl wr bO sO nU mV) (fun ov w' => ov = none ∧ w' = (MW cI cJ A (hoursF sS n k) kS oS aS tS ik cA tp td fm tt vl wr bO sO nU mV)) := by
  refine MU.mk (by decide) (Nat.le_of_ble_eq_true rfl) ?_
  intro p e s m below meth c ls S hr hlk hP hK hD hS hl
  have S : CallFix p m c cX4_hoursGo 3 s _ WL RX4 := S
  obtain ⟨hx, hb, hml, hown, hts⟩ := id S
  have hl : lv_has ls 3 [(0, .ref (A 0)), (1, .int (nI k))] := hl
  have hI0 := hI
  refine lv_iconst (v := 0) hx hb dX4_hoursGo_0 rfl ?_
  refine lv_istore_n (lv' := [(2, .int 0), (0, .ref (A 0)), (1, .int (nI k))]) hx hb dX4_hoursGo_1 rfl hl (by decide) rfl (fun ls hl => ?_)
  refine w_loopH (pc := 2) (st := fun (i : Nat) => []) (μ := fun (i : Nat) => k - i) (I := fun (i : Nat) H locs ls => (i ≤ k) ∧ va_P D vwCl (MW cI cJ A (hoursF sS n i) kS oS aS tS ik cA tp td fm tt vl wr bO sO nU mV) H ∧ va_D (fun z9 => z9 ∈ ((MW cI cJ A sS kS oS aS tS ik cA tp td fm tt vl wr bO sO nU mV)).map (fun z8 => z8.1)) (MW cI cJ A (hoursF sS n i) kS oS aS tS ik cA tp td fm tt vl wr bO sO nU mV) ∧ va_S (fun z9 => z9 ∈ ((MW cI cJ A sS kS oS aS tS ik cA tp td fm tt vl wr bO sO nU mV)).map (fun z8 => z8.1)) s.heap H locs ∧ lv_has ls 3 [(0, .ref (A 0)), (1, .int (nI k)), (2, .int (nI i))]) ?_ (0) ⟨Nat.zero_le _, hP, hD, hS, lv_sub hl [1, 2, 0] rfl⟩
  rintro i H locs ls ⟨hi, hP, hD, hS, hl⟩ ih2
  try dsimp only at ih2 ⊢
  have hI := Inv_hours hI0 i
  refine lv_iload_n hx hb dX4_hoursGo_2 rfl (lv_at hl 2 rfl) ?_
  refine lv_iload_n hx hb dX4_hoursGo_3 rfl (lv_at hl 1 rfl) ?_
  refine lv_icmp_ge (tgt := 17) hx hb dX4_hoursGo_4 rfl (fun c4 => ?_) (fun c4 => ?_)
  · replace c4 := nq_le (a := k) (b := i) (by omega) (by omega) c4
    obtain rfl : k = i := by omega
    exact mu_vret (MW cI cJ A (hoursF sS n k) kS oS aS tS ik cA tp td fm tt vl wr bO sO nU mV) hx hb hr hlk hP hS rfl (⟨rfl, rfl⟩) dX4_hoursGo_17
  · replace c4 := nq_nle (a := k) (b := i) (by omega) (by omega) c4
    refine lv_aload_n hx hb dX4_hoursGo_7 rfl (lv_at hl 0 rfl) ?_
    refine mu_W (w := (MW cI cJ A (hoursF sS n i) kS oS aS tS ik cA tp td fm tt vl wr bO sO nU mV)) (rest := []) S hK hP hD hS (k_X4_hour n hI) gv_X4_159 hd_X4_hour ⟨Nat.le_of_ble_eq_true rfl, Nat.le_of_ble_eq_true rfl⟩ 4 rfl rfl rfl rfl hl.1 (lv_room (Nat.le_of_ble_eq_true rfl)) dX4_hoursGo_8 ⟨Nat.zero_le _, Nat.zero_le _⟩ (fun ov w' H locs hp hP hD hS => ?_)
    obtain ⟨rfl, rfl⟩ := hp
    refine W.eq (g2 := F0 m 11 ls []) rfl ?_
    have hE : hourF (hoursF sS n i) n = hoursF sS n (i + 1) := rfl
    have hW : (MW cI cJ A (hourF (hoursF sS n i) n) kS oS aS tS ik cA tp td fm tt vl wr bO sO nU mV) = (MW cI cJ A (hoursF sS n (i + 1)) kS oS aS tS ik cA tp td fm tt vl wr bO sO nU mV) := congrArg (fun z => (MW cI cJ A z kS oS aS tS ik cA tp td fm tt vl wr bO sO nU mV)) hE
    have hP : va_P D vwCl (MW cI cJ A (hoursF sS n (i + 1)) kS oS aS tS ik cA tp td fm tt vl wr bO sO nU mV) H := Eq.mp (congrArg (fun z => va_P D vwCl z H) hW) hP
    have hD : va_D _ (MW cI cJ A (hoursF sS n (i + 1)) kS oS aS tS ik cA tp td fm tt vl wr bO sO nU mV) := Eq.mp (congrArg (fun z => va_D _ z) hW) hD
    refine lv_iinc (v := nI (i + 1)) (lv' := [(2, .int (nI (i + 1))), (0, .ref (A 0)), (1, .int (nI k))]) hx hb dX4_hoursGo_11 hl (k := 2) rfl (nI_inc _) (by decide) rfl (fun ls hl => ?_)
    refine lv_goto (tgt := 2) hx hb dX4_hoursGo_14 rfl ?_
    exact ih2 (i + 1) _ _ ls (by first | omega | (dsimp only; omega)) ⟨(by omega), hP, hD, hS, lv_sub hl [1, 2, 0] rfl⟩

set_option maxHeartbeats 4000000 in
set_option maxRecDepth 100000 in
theorem k_X4_behind (n : Nat) (j : Nat) (k : Nat) (hI : Inv sS n) (hj : j < 75) (hk : k < 1000) : MU l D (tyA cI cJ cO) yX4_behind cX4_behind 3 ((some .int)) 9 197 [.ref (A 0), .int (nI j), .int (nI k)] (MW cI cJ A sS kS oS aS tS ik cA tp td fm tt vl wr bO sO nU mV) (fun ov w' => ov = some (.int (hoursF sS n k j)) ∧ w' = (MW cI cJ A sS kS oS sS tS ik cA tp td fm tt vl wr bO sO nU mV)) := by
  refine MU.mk (by decide) (Nat.le_of_ble_eq_true rfl) ?_
  intro p e s m below meth c ls S hr hlk hP hK hD hS hl
  have S : CallFix p m c cX4_behind 3 s _ WL RX4 := S
  obtain ⟨hx, hb, hml, hown, hts⟩ := id S
  have hl : lv_has ls 3 [(0, .ref (A 0)), (1, .int (nI j)), (2, .int (nI k))] := hl
  refine lv_aload_n hx hb dX4_behind_0 rfl (lv_at hl 0 rfl) ?_
  refine mu_W (w := (MW cI cJ A sS kS oS aS tS ik cA tp td fm tt vl wr bO sO nU mV)) (rest := []) S hK hP hD hS (k_X4_laysAside ) gv_X4_171 hd_X4_laysAside ⟨Nat.le_of_ble_eq_true rfl, Nat.le_of_ble_eq_true rfl⟩ 4 rfl rfl rfl rfl hl.1 (lv_room (Nat.le_of_ble_eq_true rfl)) dX4_behind_1 ⟨Nat.zero_le _, Nat.zero_le _⟩ (fun ov w' H locs hp hP hD hS => ?_)
  obtain ⟨rfl, rfl⟩ := hp
  refine W.eq (g2 := F0 m 4 ls []) rfl ?_
  refine lv_aload_n hx hb dX4_behind_4 rfl (lv_at hl 0 rfl) ?_
  refine lv_iload_n hx hb dX4_behind_5 rfl (lv_at hl 2 rfl) ?_
  refine mu_W (w := (MW cI cJ A sS kS oS sS tS ik cA tp td fm tt vl wr bO sO nU mV)) (rest := []) S hK hP hD hS (k_X4_hoursGo n k hI (by omega)) gv_X4_166 hd_X4_hoursGo ⟨Nat.le_of_ble_eq_true rfl, Nat.le_of_ble_eq_true rfl⟩ 4 rfl rfl rfl rfl hl.1 (lv_room (Nat.le_of_ble_eq_true rfl)) dX4_behind_6 ⟨Nat.zero_le _, Nat.zero_le _⟩ (fun ov w' H locs hp hP hD hS => ?_)
  obtain ⟨rfl, rfl⟩ := hp
  refine W.eq (g2 := F0 m 9 ls []) rfl ?_
  refine lv_aload_n hx hb dX4_behind_9 rfl (lv_at hl 0 rfl) ?_
  refine lv_aload_n hx hb dX4_behind_10 rfl (lv_at hl 0 rfl) ?_
  refine va_get (ci := 4) (v := .ref (A 1)) hx hb hts wx_X4 hown hK hP 0 rfl rfl 0 (by decide) (hts _ wf_X4_7) (fun _ h9 => h9) rfl dX4_behind_11 ?_
  refine lv_iload_n hx hb dX4_behind_14 rfl (lv_at hl 1 rfl) ?_
  refine ia_ld hx hb hK hP 1 0 rfl rfl j (rfl) (by omega) (by decide) dX4_behind_15 ?_
  refine mu_W (w := (MW cI cJ A (hoursF sS n k) kS oS sS tS ik cA tp td fm tt vl wr bO sO nU mV)) (rest := []) S hK hP hD hS (k_X4_takesBack ((hoursF sS n k) j)) gv_X4_174 hd_X4_takesBack ⟨Nat.le_of_ble_eq_true rfl, Nat.le_of_ble_eq_true rfl⟩ 4 rfl rfl rfl rfl hl.1 (lv_room (Nat.le_of_ble_eq_true rfl)) dX4_behind_16 ⟨Nat.zero_le _, Nat.zero_le _⟩ (fun ov w' H locs hp hP hD hS => ?_)
  obtain ⟨rfl, rfl⟩ := hp
  refine W.eq (g2 := F0 m 19 ls [.int ((hoursF sS n k) j)]) rfl ?_
  exact mu_iret (MW cI cJ A sS kS oS sS tS ik cA tp td fm tt vl wr bO sO nU mV) hx hb hr hlk hP hS rfl (⟨rfl, rfl⟩) dX4_behind_19

set_option maxHeartbeats 4000000 in
set_option maxRecDepth 100000 in
theorem k_X4_manyBehind (n : Nat) (k : Nat) (hI : Inv sS n) (hk : k < 1000) : MU l D (tyA cI cJ cO) yX4_manyBehind cX4_manyBehind 2 ((some .int)) 9 197 [.ref (A 0), .int (nI k)] (MW cI cJ A sS kS oS aS tS ik cA tp td fm tt vl wr bO sO nU mV) (fun ov w' => ov = some (.int (nI (contN (hoursF sS n k) n))) ∧ w' = (MW cI cJ A sS kS oS sS tS ik cA tp td fm tt vl wr bO sO nU mV)) := by
  refine MU.mk (by decide) (Nat.le_of_ble_eq_true rfl) ?_
  intro p e s m below meth c ls S hr hlk hP hK hD hS hl
  have S : CallFix p m c cX4_manyBehind 2 s _ WL RX4 := S
  obtain ⟨hx, hb, hml, hown, hts⟩ := id S
  have hl : lv_has ls 2 [(0, .ref (A 0)), (1, .int (nI k))] := hl
  refine lv_aload_n hx hb dX4_manyBehind_0 rfl (lv_at hl 0 rfl) ?_
  refine mu_W (w := (MW cI cJ A sS kS oS aS tS ik cA tp td fm tt vl wr bO sO nU mV)) (rest := []) S hK hP hD hS (k_X4_laysAside ) gv_X4_171 hd_X4_laysAside ⟨Nat.le_of_ble_eq_true rfl, Nat.le_of_ble_eq_true rfl⟩ 4 rfl rfl rfl rfl hl.1 (lv_room (Nat.le_of_ble_eq_true rfl)) dX4_manyBehind_1 ⟨Nat.zero_le _, Nat.zero_le _⟩ (fun ov w' H locs hp hP hD hS => ?_)
  obtain ⟨rfl, rfl⟩ := hp
  refine W.eq (g2 := F0 m 4 ls []) rfl ?_
  refine lv_aload_n hx hb dX4_manyBehind_4 rfl (lv_at hl 0 rfl) ?_
  refine lv_iload_n hx hb dX4_manyBehind_5 rfl (lv_at hl 1 rfl) ?_
  refine mu_W (w := (MW cI cJ A sS kS oS sS tS ik cA tp td fm tt vl wr bO sO nU mV)) (rest := []) S hK hP hD hS (k_X4_hoursGo n k hI (by omega)) gv_X4_166 hd_X4_hoursGo ⟨Nat.le_of_ble_eq_true rfl, Nat.le_of_ble_eq_true rfl⟩ 4 rfl rfl rfl rfl hl.1 (lv_room (Nat.le_of_ble_eq_true rfl)) dX4_manyBehind_6 ⟨Nat.zero_le _, Nat.zero_le _⟩ (fun ov w' H locs hp hP hD hS => ?_)
  obtain ⟨rfl, rfl⟩ := hp
  refine W.eq (g2 := F0 m 9 ls []) rfl ?_
  refine lv_aload_n hx hb dX4_manyBehind_9 rfl (lv_at hl 0 rfl) ?_
  refine lv_aload_n hx hb dX4_manyBehind_10 rfl (lv_at hl 0 rfl) ?_
  have hI := Inv_hours hI k
  refine ro_V (w := (MW cI cJ A (hoursF sS n k) kS oS sS tS ik cA tp td fm tt vl wr bO sO nU mV)) (rest := [.ref (A 0)]) S hK hP (k_X4_contentMany n hI) gv_X4_177 hd_X4_contentMany ⟨Nat.le_of_ble_eq_true rfl, Nat.le_of_ble_eq_true rfl⟩ 4 rfl rfl rfl rfl hl.1 (lv_room (Nat.le_of_ble_eq_true rfl)) dX4_manyBehind_11 ⟨Nat.zero_le _, Nat.zero_le _⟩ ?_
  refine mu_W (w := (MW cI cJ A (hoursF sS n k) kS oS sS tS ik cA tp td fm tt vl wr bO sO nU mV)) (rest := []) S hK hP hD hS (k_X4_takesBack (nI (contN (hoursF sS n k) n))) gv_X4_174 hd_X4_takesBack ⟨Nat.le_of_ble_eq_true rfl, Nat.le_of_ble_eq_true rfl⟩ 4 rfl rfl rfl rfl hl.1 (lv_room (Nat.le_of_ble_eq_true rfl)) dX4_manyBehind_14 ⟨Nat.zero_le _, Nat.zero_le _⟩ (fun ov w' H locs hp hP hD hS => ?_)
  obtain ⟨rfl, rfl⟩ := hp
  refine W.eq (g2 := F0 m 17 ls [.int (nI (contN (hoursF sS n k) n))]) rfl ?_
  exact mu_iret (MW cI cJ A sS kS oS sS tS ik cA tp td fm tt vl wr bO sO nU mV) hx hb hr hlk hP hS rfl (⟨rfl, rfl⟩) dX4_manyBehind_17

end
