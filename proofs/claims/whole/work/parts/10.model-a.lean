theorem nI_spot (f w : Nat) : (3 + 9 * nI f) + nI w = nI (9 * f + w + 3) := by
  show (nI 3 + nI 9 * nI f) + nI w = _
  rw [pk_mul, nI_add, nI_add]; congr 1; omega
section
variable {l : Launch} {D : va_G} {cI cJ cO : ClassId} {A : Nat → Nat} {sS kS oS aS tS : Nat → Int32} {ik : Int32} {cA tp : Nat → Int32} {td fm tt vl wr : Int32} {bO sO : Nat → Int32} {nU mV : Nat → Int64}

set_option maxHeartbeats 4000000 in
set_option maxRecDepth 100000 in
theorem k_X4_in (v : Int64) (a : Int64) (b : Int64) : RO l D (tyA cI cJ cO) yX4_in cX4_in 6 ((some .boolean)) 0 0 [.long v, .long a, .long b] [] (.int (b2i (inL v a b))) := by
  refine RO.mk (by decide) (Nat.le_of_ble_eq_true rfl) ?_
  intro p e s m below meth c ls S hr hlk hP hK hl
  have S : CallFix p m c cX4_in 6 s _ WL RX4 := S
  obtain ⟨hx, hb, hml, hown, hts⟩ := id S
  have hl : lv_has ls 6 [(0, .long v), (2, .long a), (4, .long b)] := hl
  refine lv_lload_n hx hb dX4_in_0 rfl (lv_at hl 0 rfl) ?_
  refine lv_lload_n hx hb dX4_in_1 rfl (lv_at hl 1 rfl) ?_
  refine W.lcmp hx hb dX4_in_2 ?_
  refine lv_if_lt (tgt := 17) hx hb dX4_in_3 rfl (fun c3 => ?_) (fun c3 => ?_)
  · replace c3 := lc_lt c3
    refine lv_iconst (v := 0) hx hb dX4_in_17 rfl ?_
    exact ro_zret hx hb hr hlk (by first | (simp [inL, b2i, c3, i_lt, -Int32.not_le, -Int32.not_lt]; done) | (simp_all; done) | (simp_all [inL, b2i]; done)) dX4_in_18
  · replace c3 := lc_nlt c3
    refine lv_lload_n hx hb dX4_in_6 rfl (lv_at hl 0 rfl) ?_
    refine lv_lload hx hb dX4_in_7 (lv_at hl 2 rfl) ?_
    refine W.lcmp hx hb dX4_in_9 ?_
    refine lv_if_gt (tgt := 17) hx hb dX4_in_10 rfl (fun c10 => ?_) (fun c10 => ?_)
    · replace c10 := lc_gt c10
      refine lv_iconst (v := 0) hx hb dX4_in_17 rfl ?_
      exact ro_zret hx hb hr hlk (by first | (simp [inL, b2i, c3, c10, i_lt, -Int32.not_le, -Int32.not_lt]; done) | (simp_all; done) | (simp_all [inL, b2i]; done)) dX4_in_18
    · replace c10 := lc_ngt c10
      refine lv_iconst (v := 1) hx hb dX4_in_13 rfl ?_
      refine lv_goto (tgt := 18) hx hb dX4_in_14 rfl ?_
      exact ro_zret hx hb hr hlk (by first | (simp [inL, b2i, c3, c10, i_lt, -Int32.not_le, -Int32.not_lt]; done) | (simp_all; done) | (simp_all [inL, b2i]; done)) dX4_in_18

theorem k_X4_inI (v a b : Int32) (a' b' : Int64) (ha : a' = a.toInt64) (hb : b' = b.toInt64) : RO l D (tyA cI cJ cO) yX4_in cX4_in 6 (some .boolean) 0 0 [.long v.toInt64, .long a', .long b'] [] (.int (b2i (inI v a b))) := by
  have h := k_X4_in (l := l) (D := D) (cI := cI) (cJ := cJ) (cO := cO) v.toInt64 a' b'
  rw [inL_c ha hb] at h
  exact h

set_option maxHeartbeats 4000000 in
set_option maxRecDepth 100000 in
theorem k_X4_spot (f : Nat) (w : Nat) : RO l D (tyA cI cJ cO) yX4_spot cX4_spot 2 ((some .int)) 0 0 [.int (nI f), .int (nI w)] [] (.int (nI (9 * f + w + 3))) := by
  refine RO.mk (by decide) (Nat.le_of_ble_eq_true rfl) ?_
  intro p e s m below meth c ls S hr hlk hP hK hl
  have S : CallFix p m c cX4_spot 2 s _ WL RX4 := S
  obtain ⟨hx, hb, hml, hown, hts⟩ := id S
  have hl : lv_has ls 2 [(0, .int (nI f)), (1, .int (nI w))] := hl
  refine lv_iconst (v := 3) hx hb dX4_spot_0 rfl ?_
  refine lv_bipush (v := 9) hx hb dX4_spot_1 rfl ?_
  refine lv_iload_n hx hb dX4_spot_3 rfl (lv_at hl 0 rfl) ?_
  refine lv_imul hx hb dX4_spot_4 ?_
  refine lv_iadd hx hb dX4_spot_5 ?_
  refine lv_iload_n hx hb dX4_spot_6 rfl (lv_at hl 1 rfl) ?_
  refine lv_iadd hx hb dX4_spot_7 ?_
  exact ro_iret hx hb hr hlk (nI_spot f w) dX4_spot_8

set_option maxHeartbeats 4000000 in
set_option maxRecDepth 100000 in
theorem k_X4_its (f : Nat) (w : Nat) (hf : f < 8) (hw : w < 9) : RO l D (tyA cI cJ cO) yX4_its cX4_its 3 ((some .int)) 1 21 [.ref (A 0), .int (nI f), .int (nI w)] (MW cI cJ A sS kS oS aS tS ik cA tp td fm tt vl wr bO sO nU mV) (.int (its sS f w)) := by
  refine RO.mk (by decide) (Nat.le_of_ble_eq_true rfl) ?_
  intro p e s m below meth c ls S hr hlk hP hK hl
  have S : CallFix p m c cX4_its 3 s _ WL RX4 := S
  obtain ⟨hx, hb, hml, hown, hts⟩ := id S
  have hl : lv_has ls 3 [(0, .ref (A 0)), (1, .int (nI f)), (2, .int (nI w))] := hl
  refine lv_aload_n hx hb dX4_its_0 rfl (lv_at hl 0 rfl) ?_
  refine va_get (ci := 4) (v := .ref (A 1)) hx hb hts wx_X4 hown hK hP 0 rfl rfl 0 (by decide) (hts _ wf_X4_7) (fun _ h9 => h9) rfl dX4_its_1 ?_
  refine lv_iload_n hx hb dX4_its_4 rfl (lv_at hl 1 rfl) ?_
  refine lv_iload_n hx hb dX4_its_5 rfl (lv_at hl 2 rfl) ?_
  refine ro_S (w := []) (rest := [.ref (A 1)]) S hK va_P0 (k_X4_spot f w) gs_X4_45 hd_X4_spot ⟨Nat.le_of_ble_eq_true rfl, Nat.le_of_ble_eq_true rfl⟩ rfl hl.1 (lv_room (Nat.le_of_ble_eq_true rfl)) dX4_its_6 ⟨Nat.zero_le _, Nat.zero_le _⟩ ?_
  refine ia_ld hx hb hK hP 1 0 rfl rfl (9 * f + w + 3) (rfl) (by omega) (by decide) dX4_its_9 ?_
  exact ro_iret hx hb hr hlk (rfl) dX4_its_10

set_option maxHeartbeats 4000000 in
set_option maxRecDepth 100000 in
theorem k_X4_isFigure (n : Nat) (f : Int32) (hI : Inv sS n) : RO l D (tyA cI cJ cO) yX4_isFigure cX4_isFigure 2 ((some .boolean)) 1 25 [.ref (A 0), .int f] (MW cI cJ A sS kS oS aS tS ik cA tp td fm tt vl wr bO sO nU mV) (.int (b2i (isFig n f))) := by
  refine RO.mk (by decide) (Nat.le_of_ble_eq_true rfl) ?_
  intro p e s m below meth c ls S hr hlk hP hK hl
  have S : CallFix p m c cX4_isFigure 2 s _ WL RX4 := S
  obtain ⟨hx, hb, hml, hown, hts⟩ := id S
  have hl : lv_has ls 2 [(0, .ref (A 0)), (1, .int f)] := hl
  refine lv_iload_n hx hb dX4_isFigure_0 rfl (lv_at hl 1 rfl) ?_
  refine lv_i2l hx hb dX4_isFigure_1 rfl ?_
  refine lv_lconst (v := 0) hx hb dX4_isFigure_2 rfl ?_
  refine lv_aload_n hx hb dX4_isFigure_3 rfl (lv_at hl 0 rfl) ?_
  refine va_get (ci := 4) (v := .ref (A 1)) hx hb hts wx_X4 hown hK hP 0 rfl rfl 0 (by decide) (hts _ wf_X4_7) (fun _ h9 => h9) rfl dX4_isFigure_4 ?_
  refine lv_iconst (v := 1) hx hb dX4_isFigure_7 rfl ?_
  refine ia_ld hx hb hK hP 1 0 rfl rfl 1 (rfl) (by omega) (by decide) dX4_isFigure_8 ?_
  refine w_i (z := nI n) (hI.2.1) ?_
  refine lv_iconst (v := 1) hx hb dX4_isFigure_9 rfl ?_
  refine lv_isub hx hb dX4_isFigure_10 ?_
  refine lv_i2l hx hb dX4_isFigure_11 rfl ?_
  refine ro_S (w := []) (rest := []) S hK va_P0 (k_X4_inI f 0 ((nI n) - 1) _ _ (by decide) (rfl)) gs_X4_49 hd_X4_in ⟨Nat.le_of_ble_eq_true rfl, Nat.le_of_ble_eq_true rfl⟩ rfl hl.1 (lv_room (Nat.le_of_ble_eq_true rfl)) dX4_isFigure_12 ⟨Nat.zero_le _, Nat.zero_le _⟩ ?_
  exact ro_zret hx hb hr hlk (rfl) dX4_isFigure_15

set_option maxHeartbeats 4000000 in
set_option maxRecDepth 100000 in
theorem k_X4_isKind (k : Int32) : RO l D (tyA cI cJ cO) yX4_isKind cX4_isKind 1 ((some .boolean)) 1 25 [.int k] [] (.int (b2i (inI k 0 5))) := by
  refine RO.mk (by decide) (Nat.le_of_ble_eq_true rfl) ?_
  intro p e s m below meth c ls S hr hlk hP hK hl
  have S : CallFix p m c cX4_isKind 1 s _ WL RX4 := S
  obtain ⟨hx, hb, hml, hown, hts⟩ := id S
  have hl : lv_has ls 1 [(0, .int k)] := hl
  refine lv_iload_n hx hb dX4_isKind_0 rfl (lv_at hl 0 rfl) ?_
  refine lv_i2l hx hb dX4_isKind_1 rfl ?_
  refine lv_lconst (v := 0) hx hb dX4_isKind_2 rfl ?_
  refine lv_ldc2 (v := 5) hx hb hown (hts _ wq_X4_53) dX4_isKind_3 ?_
  refine ro_S (w := []) (rest := []) S hK va_P0 (k_X4_inI k 0 5 _ _ (by decide) (by decide)) gs_X4_49 hd_X4_in ⟨Nat.le_of_ble_eq_true rfl, Nat.le_of_ble_eq_true rfl⟩ rfl hl.1 (lv_room (Nat.le_of_ble_eq_true rfl)) dX4_isKind_6 ⟨Nat.zero_le _, Nat.zero_le _⟩ ?_
  exact ro_zret hx hb hr hlk (rfl) dX4_isKind_9

set_option maxHeartbeats 4000000 in
set_option maxRecDepth 100000 in
theorem k_X4_held (v : Int32) (a : Int32) (b : Int32) : RO l D (tyA cI cJ cO) yX4_held cX4_held 3 ((some .int)) 0 0 [.int v, .int a, .int b] [] (.int (heldI v a b)) := by
  refine RO.mk (by decide) (Nat.le_of_ble_eq_true rfl) ?_
  intro p e s m below meth c ls S hr hlk hP hK hl
  have S : CallFix p m c cX4_held 3 s _ WL RX4 := S
  obtain ⟨hx, hb, hml, hown, hts⟩ := id S
  have hl : lv_has ls 3 [(0, .int v), (1, .int a), (2, .int b)] := hl
  refine lv_iload_n hx hb dX4_held_0 rfl (lv_at hl 0 rfl) ?_
  refine lv_iload_n hx hb dX4_held_1 rfl (lv_at hl 1 rfl) ?_
  refine lv_icmp_ge (tgt := 9) hx hb dX4_held_2 rfl (fun c2 => ?_) (fun c2 => ?_)
  · refine lv_iload_n hx hb dX4_held_9 rfl (lv_at hl 0 rfl) ?_
    refine lv_iload_n hx hb dX4_held_10 rfl (lv_at hl 2 rfl) ?_
    refine lv_icmp_le (tgt := 18) hx hb dX4_held_11 rfl (fun c11 => ?_) (fun c11 => ?_)
    · refine lv_iload_n hx hb dX4_held_18 rfl (lv_at hl 0 rfl) ?_
      exact ro_iret hx hb hr hlk (by first | (simp [heldI, c2, c11, i_lt, -Int32.not_le, -Int32.not_lt]; done) | (simp_all; done) | (simp_all [heldI]; done)) dX4_held_19
    · refine lv_iload_n hx hb dX4_held_14 rfl (lv_at hl 2 rfl) ?_
      refine lv_goto (tgt := 19) hx hb dX4_held_15 rfl ?_
      exact ro_iret hx hb hr hlk (by first | (simp [heldI, c2, c11, i_lt, -Int32.not_le, -Int32.not_lt]; done) | (simp_all; done) | (simp_all [heldI]; done)) dX4_held_19
  · refine lv_iload_n hx hb dX4_held_5 rfl (lv_at hl 1 rfl) ?_
    refine lv_goto (tgt := 19) hx hb dX4_held_6 rfl ?_
    exact ro_iret hx hb hr hlk (by first | (simp [heldI, c2, i_lt, -Int32.not_le, -Int32.not_lt]; done) | (simp_all; done) | (simp_all [heldI]; done)) dX4_held_19

set_option maxHeartbeats 4000000 in
set_option maxRecDepth 100000 in
theorem k_X4_together (n : Nat) (w : Nat) (hI : Inv sS n) (hw : w < 9) : RO l D (tyA cI cJ cO) yX4_together cX4_together 4 ((some .int)) 2 43 [.ref (A 0), .int (nI w)] (MW cI cJ A sS kS oS aS tS ik cA tp td fm tt vl wr bO sO nU mV) (.int (sumF (fun f => its sS f w) n)) := by
  refine RO.mk (by decide) (Nat.le_of_ble_eq_true rfl) ?_
  intro p e s m below meth c ls S hr hlk hP hK hl
  have S : CallFix p m c cX4_together 4 s _ WL RX4 := S
  obtain ⟨hx, hb, hml, hown, hts⟩ := id S
  have hl : lv_has ls 4 [(0, .ref (A 0)), (1, .int (nI w))] := hl
  have h8 : n ≤ 8 := hI.1
  refine lv_iconst (v := 0) hx hb dX4_together_0 rfl ?_
  refine lv_istore_n (lv' := [(2, .int 0), (0, .ref (A 0)), (1, .int (nI w))]) hx hb dX4_together_1 rfl hl (by decide) rfl (fun ls hl => ?_)
  refine lv_iconst (v := 0) hx hb dX4_together_2 rfl ?_
  refine lv_istore_n (lv' := [(3, .int 0), (2, .int 0), (0, .ref (A 0)), (1, .int (nI w))]) hx hb dX4_together_3 rfl hl (by decide) rfl (fun ls hl => ?_)
  refine w_loop (pc := 4) (st := fun (i : Nat) => []) (μ := fun (i : Nat) => n - i) (I := fun (i : Nat) ls => (i ≤ n) ∧ lv_has ls 4 [(0, .ref (A 0)), (1, .int (nI w)), (2, .int (sumF (fun f => its sS f w) i)), (3, .int (nI i))]) ?_ (0) ⟨Nat.zero_le _, lv_sub hl [2, 3, 1, 0] rfl⟩
  rintro i ls ⟨hi, hl⟩ ih4
  try dsimp only at ih4 ⊢
  refine lv_iload_n hx hb dX4_together_4 rfl (lv_at hl 3 rfl) ?_
  refine lv_aload_n hx hb dX4_together_5 rfl (lv_at hl 0 rfl) ?_
  refine va_get (ci := 4) (v := .ref (A 1)) hx hb hts wx_X4 hown hK hP 0 rfl rfl 0 (by decide) (hts _ wf_X4_7) (fun _ h9 => h9) rfl dX4_together_6 ?_
  refine lv_iconst (v := 1) hx hb dX4_together_9 rfl ?_
  refine ia_ld hx hb hK hP 1 0 rfl rfl 1 (rfl) (by omega) (by decide) dX4_together_10 ?_
  refine w_i (z := nI n) (hI.2.1) ?_
  refine lv_icmp_ge (tgt := 29) hx hb dX4_together_11 rfl (fun c11 => ?_) (fun c11 => ?_)
  · replace c11 := nq_le (a := n) (b := i) (by omega) (by omega) c11
    refine lv_iload_n hx hb dX4_together_29 rfl (lv_at hl 2 rfl) ?_
    exact ro_iret hx hb hr hlk (by rw [show i = n by omega]) dX4_together_30
  · replace c11 := nq_nle (a := n) (b := i) (by omega) (by omega) c11
    refine lv_iload_n hx hb dX4_together_14 rfl (lv_at hl 2 rfl) ?_
    refine lv_aload_n hx hb dX4_together_15 rfl (lv_at hl 0 rfl) ?_
    refine lv_iload_n hx hb dX4_together_16 rfl (lv_at hl 3 rfl) ?_
    refine lv_iload_n hx hb dX4_together_17 rfl (lv_at hl 1 rfl) ?_
    refine ro_V (w := (MW cI cJ A sS kS oS aS tS ik cA tp td fm tt vl wr bO sO nU mV)) (rest := [.int (sumF (fun f => its sS f w) i)]) S hK hP (k_X4_its i w (by omega) (by omega)) gv_X4_55 hd_X4_its ⟨Nat.le_of_ble_eq_true rfl, Nat.le_of_ble_eq_true rfl⟩ 4 rfl rfl rfl rfl hl.1 (lv_room (Nat.le_of_ble_eq_true rfl)) dX4_together_18 ⟨Nat.zero_le _, Nat.zero_le _⟩ ?_
    refine lv_iadd hx hb dX4_together_21 ?_
    refine w_i (z := sumF (fun f => its sS f w) (i + 1)) (rfl) ?_
    refine lv_istore_n (lv' := [(2, .int (sumF (fun f => its sS f w) (i + 1))), (0, .ref (A 0)), (1, .int (nI w)), (3, .int (nI i))]) hx hb dX4_together_22 rfl hl (by decide) rfl (fun ls hl => ?_)
    refine lv_iinc (v := nI (i + 1)) (lv' := [(3, .int (nI (i + 1))), (2, .int (sumF (fun f => its sS f w) (i + 1))), (0, .ref (A 0)), (1, .int (nI w))]) hx hb dX4_together_23 hl (k := 3) rfl (nI_inc _) (by decide) rfl (fun ls hl => ?_)
    refine lv_goto (tgt := 4) hx hb dX4_together_26 rfl ?_
    exact ih4 (i + 1) ls (by first | omega | (dsimp only; omega)) ⟨(by omega), lv_sub hl [2, 3, 1, 0] rfl⟩

set_option maxHeartbeats 4000000 in
set_option maxRecDepth 100000 in
theorem k_X4_ofNight : RO l D (tyA cI cJ cO) yX4_ofNight cX4_ofNight 1 ((some .int)) 0 0 [.ref (A 0)] (MW cI cJ A sS kS oS aS tS ik cA tp td fm tt vl wr bO sO nU mV) (.int (m8 (sS 0))) := by
  refine RO.mk (by decide) (Nat.le_of_ble_eq_true rfl) ?_
  intro p e s m below meth c ls S hr hlk hP hK hl
  have S : CallFix p m c cX4_ofNight 1 s _ WL RX4 := S
  obtain ⟨hx, hb, hml, hown, hts⟩ := id S
  have hl : lv_has ls 1 [(0, .ref (A 0))] := hl
  refine lv_aload_n hx hb dX4_ofNight_0 rfl (lv_at hl 0 rfl) ?_
  refine va_get (ci := 4) (v := .ref (A 1)) hx hb hts wx_X4 hown hK hP 0 rfl rfl 0 (by decide) (hts _ wf_X4_7) (fun _ h9 => h9) rfl dX4_ofNight_1 ?_
  refine lv_iconst (v := 0) hx hb dX4_ofNight_4 rfl ?_
  refine ia_ld hx hb hK hP 1 0 rfl rfl 0 (rfl) (by omega) (by decide) dX4_ofNight_5 ?_
  refine lv_bipush (v := 8) hx hb dX4_ofNight_6 rfl ?_
  refine lv_irem hx hb dX4_ofNight_8 (by decide) ?_
  exact ro_iret hx hb hr hlk (rfl) dX4_ofNight_9

set_option maxHeartbeats 4000000 in
set_option maxRecDepth 100000 in
theorem k_X4_isTacky : RO l D (tyA cI cJ cO) yX4_isTacky cX4_isTacky 1 ((some .boolean)) 1 20 [.ref (A 0)] (MW cI cJ A sS kS oS aS tS ik cA tp td fm tt vl wr bO sO nU mV) (.int (b2i (isTk sS))) := by
  refine RO.mk (by decide) (Nat.le_of_ble_eq_true rfl) ?_
  intro p e s m below meth c ls S hr hlk hP hK hl
  have S : CallFix p m c cX4_isTacky 1 s _ WL RX4 := S
  obtain ⟨hx, hb, hml, hown, hts⟩ := id S
  have hl : lv_has ls 1 [(0, .ref (A 0))] := hl
  refine lv_aload_n hx hb dX4_isTacky_0 rfl (lv_at hl 0 rfl) ?_
  refine ro_V (w := (MW cI cJ A sS kS oS aS tS ik cA tp td fm tt vl wr bO sO nU mV)) (rest := []) S hK hP (k_X4_ofNight ) gv_X4_67 hd_X4_ofNight ⟨Nat.le_of_ble_eq_true rfl, Nat.le_of_ble_eq_true rfl⟩ 4 rfl rfl rfl rfl hl.1 (lv_room (Nat.le_of_ble_eq_true rfl)) dX4_isTacky_1 ⟨Nat.zero_le _, Nat.zero_le _⟩ ?_
  refine lv_aload_n hx hb dX4_isTacky_4 rfl (lv_at hl 0 rfl) ?_
  refine va_get (ci := 4) (v := .ref (A 1)) hx hb hts wx_X4 hown hK hP 0 rfl rfl 0 (by decide) (hts _ wf_X4_7) (fun _ h9 => h9) rfl dX4_isTacky_5 ?_
  refine lv_iconst (v := 2) hx hb dX4_isTacky_8 rfl ?_
  refine ia_ld hx hb hK hP 1 0 rfl rfl 2 (rfl) (by omega) (by decide) dX4_isTacky_9 ?_
  refine lv_icmp_lt (tgt := 17) hx hb dX4_isTacky_10 rfl (fun c10 => ?_) (fun c10 => ?_)
  · replace c10 := Int32.not_le.mpr c10
    refine lv_iconst (v := 0) hx hb dX4_isTacky_17 rfl ?_
    exact ro_zret hx hb hr hlk (by first | (simp [isTk, b2i, c10, i_lt, -Int32.not_le, -Int32.not_lt]; done) | (simp_all; done) | (simp_all [isTk, b2i]; done)) dX4_isTacky_18
  · replace c10 := Int32.not_lt.mp c10
    refine lv_iconst (v := 1) hx hb dX4_isTacky_13 rfl ?_
    refine lv_goto (tgt := 18) hx hb dX4_isTacky_14 rfl ?_
    exact ro_zret hx hb hr hlk (by first | (simp [isTk, b2i, c10, i_lt, -Int32.not_le, -Int32.not_lt]; done) | (simp_all; done) | (simp_all [isTk, b2i]; done)) dX4_isTacky_18

set_option maxHeartbeats 4000000 in
set_option maxRecDepth 100000 in
theorem k_X4_apart (f : Nat) (o : Nat) (hf : f < 8) (ho : o < 8) : RO l D (tyA cI cJ cO) yX4_apart cX4_apart 4 ((some .int)) 2 43 [.ref (A 0), .int (nI f), .int (nI o)] (MW cI cJ A sS kS oS aS tS ik cA tp td fm tt vl wr bO sO nU mV) (.int (apart sS f o)) := by
  refine RO.mk (by decide) (Nat.le_of_ble_eq_true rfl) ?_
  intro p e s m below meth c ls S hr hlk hP hK hl
  have S : CallFix p m c cX4_apart 4 s _ WL RX4 := S
  obtain ⟨hx, hb, hml, hown, hts⟩ := id S
  have hl : lv_has ls 4 [(0, .ref (A 0)), (1, .int (nI f)), (2, .int (nI o))] := hl
  refine lv_aload_n hx hb dX4_apart_0 rfl (lv_at hl 0 rfl) ?_
  refine lv_iload_n hx hb dX4_apart_1 rfl (lv_at hl 1 rfl) ?_
  refine lv_iconst (v := 2) hx hb dX4_apart_2 rfl ?_
  refine ro_V (w := (MW cI cJ A sS kS oS aS tS ik cA tp td fm tt vl wr bO sO nU mV)) (rest := []) S hK hP (k_X4_its f 2 (by omega) (by omega)) gv_X4_55 hd_X4_its ⟨Nat.le_of_ble_eq_true rfl, Nat.le_of_ble_eq_true rfl⟩ 4 rfl rfl rfl rfl hl.1 (lv_room (Nat.le_of_ble_eq_true rfl)) dX4_apart_3 ⟨Nat.zero_le _, Nat.zero_le _⟩ ?_
  refine lv_aload_n hx hb dX4_apart_6 rfl (lv_at hl 0 rfl) ?_
  refine lv_iload_n hx hb dX4_apart_7 rfl (lv_at hl 2 rfl) ?_
  refine lv_iconst (v := 2) hx hb dX4_apart_8 rfl ?_
  refine ro_V (w := (MW cI cJ A sS kS oS aS tS ik cA tp td fm tt vl wr bO sO nU mV)) (rest := [.int (its sS f 2)]) S hK hP (k_X4_its o 2 (by omega) (by omega)) gv_X4_55 hd_X4_its ⟨Nat.le_of_ble_eq_true rfl, Nat.le_of_ble_eq_true rfl⟩ 4 rfl rfl rfl rfl hl.1 (lv_room (Nat.le_of_ble_eq_true rfl)) dX4_apart_9 ⟨Nat.zero_le _, Nat.zero_le _⟩ ?_
  refine lv_isub hx hb dX4_apart_12 ?_
  refine lv_istore_n (lv' := [(3, .int ((its sS f 2) - (its sS o 2))), (0, .ref (A 0)), (1, .int (nI f)), (2, .int (nI o))]) hx hb dX4_apart_13 rfl hl (by decide) rfl (fun ls hl => ?_)
  refine lv_iload_n hx hb dX4_apart_14 rfl (lv_at hl 0 rfl) ?_
  refine lv_if_ge (tgt := 24) hx hb dX4_apart_15 rfl (fun c15 => ?_) (fun c15 => ?_)
  · refine lv_iload_n hx hb dX4_apart_24 rfl (lv_at hl 0 rfl) ?_
    exact ro_iret hx hb hr hlk (by first | (simp [apart, absI, c15, i_lt, -Int32.not_le, -Int32.not_lt]; done) | (simp_all; done) | (simp_all [apart, absI]; done)) dX4_apart_25
  · refine lv_iconst (v := 0) hx hb dX4_apart_18 rfl ?_
    refine lv_iload_n hx hb dX4_apart_19 rfl (lv_at hl 0 rfl) ?_
    refine lv_isub hx hb dX4_apart_20 ?_
    refine lv_goto (tgt := 25) hx hb dX4_apart_21 rfl ?_
    exact ro_iret hx hb hr hlk (by first | (simp [apart, absI, c15, i_lt, -Int32.not_le, -Int32.not_lt]; done) | (simp_all; done) | (simp_all [apart, absI]; done)) dX4_apart_25

set_option maxHeartbeats 4000000 in
set_option maxRecDepth 100000 in
theorem k_X4_isBeside (f : Nat) (o : Nat) (hf : f < 8) (ho : o < 8) : RO l D (tyA cI cJ cO) yX4_isBeside cX4_isBeside 3 ((some .boolean)) 2 43 [.ref (A 0), .int (nI f), .int (nI o)] (MW cI cJ A sS kS oS aS tS ik cA tp td fm tt vl wr bO sO nU mV) (.int (b2i (besid sS f o))) := by
  refine RO.mk (by decide) (Nat.le_of_ble_eq_true rfl) ?_
  intro p e s m below meth c ls S hr hlk hP hK hl
  have S : CallFix p m c cX4_isBeside 3 s _ WL RX4 := S
  obtain ⟨hx, hb, hml, hown, hts⟩ := id S
  have hl : lv_has ls 3 [(0, .ref (A 0)), (1, .int (nI f)), (2, .int (nI o))] := hl
  refine lv_aload_n hx hb dX4_isBeside_0 rfl (lv_at hl 0 rfl) ?_
  refine lv_iload_n hx hb dX4_isBeside_1 rfl (lv_at hl 1 rfl) ?_
  refine lv_iconst (v := 1) hx hb dX4_isBeside_2 rfl ?_
  refine ro_V (w := (MW cI cJ A sS kS oS aS tS ik cA tp td fm tt vl wr bO sO nU mV)) (rest := []) S hK hP (k_X4_its f 1 (by omega) (by omega)) gv_X4_55 hd_X4_its ⟨Nat.le_of_ble_eq_true rfl, Nat.le_of_ble_eq_true rfl⟩ 4 rfl rfl rfl rfl hl.1 (lv_room (Nat.le_of_ble_eq_true rfl)) dX4_isBeside_3 ⟨Nat.zero_le _, Nat.zero_le _⟩ ?_
  refine lv_aload_n hx hb dX4_isBeside_6 rfl (lv_at hl 0 rfl) ?_
  refine lv_iload_n hx hb dX4_isBeside_7 rfl (lv_at hl 2 rfl) ?_
  refine lv_iconst (v := 1) hx hb dX4_isBeside_8 rfl ?_
  refine ro_V (w := (MW cI cJ A sS kS oS aS tS ik cA tp td fm tt vl wr bO sO nU mV)) (rest := [.int (its sS f 1)]) S hK hP (k_X4_its o 1 (by omega) (by omega)) gv_X4_55 hd_X4_its ⟨Nat.le_of_ble_eq_true rfl, Nat.le_of_ble_eq_true rfl⟩ 4 rfl rfl rfl rfl hl.1 (lv_room (Nat.le_of_ble_eq_true rfl)) dX4_isBeside_9 ⟨Nat.zero_le _, Nat.zero_le _⟩ ?_
  refine lv_icmp_ne (tgt := 19) hx hb dX4_isBeside_12 rfl (fun c12 => ?_) (fun c12 => ?_)
  · refine lv_iconst (v := 0) hx hb dX4_isBeside_19 rfl ?_
    exact ro_zret hx hb hr hlk (by first | (simp [besid, b2i, c12, i_lt, -Int32.not_le, -Int32.not_lt]; done) | (simp_all; done) | (simp_all [besid, b2i]; done)) dX4_isBeside_20
  · refine lv_iconst (v := 1) hx hb dX4_isBeside_15 rfl ?_
    refine lv_goto (tgt := 20) hx hb dX4_isBeside_16 rfl ?_
    exact ro_zret hx hb hr hlk (by first | (simp [besid, b2i, c12, i_lt, -Int32.not_le, -Int32.not_lt]; done) | (simp_all; done) | (simp_all [besid, b2i]; done)) dX4_isBeside_20

set_option maxHeartbeats 4000000 in
set_option maxRecDepth 100000 in
theorem k_X4_isWithWhom (n : Nat) (f : Nat) (hI : Inv sS n) (hf : f < n) : RO l D (tyA cI cJ cO) yX4_isWithWhom cX4_isWithWhom 3 ((some .boolean)) 3 65 [.ref (A 0), .int (nI f)] (MW cI cJ A sS kS oS aS tS ik cA tp td fm tt vl wr bO sO nU mV) (.int (b2i (withW sS f))) := by
  refine RO.mk (by decide) (Nat.le_of_ble_eq_true rfl) ?_
  intro p e s m below meth c ls S hr hlk hP hK hl
  have S : CallFix p m c cX4_isWithWhom 3 s _ WL RX4 := S
  obtain ⟨hx, hb, hml, hown, hts⟩ := id S
  have hl : lv_has ls 3 [(0, .ref (A 0)), (1, .int (nI f))] := hl
  have h8 : n ≤ 8 := hI.1
  refine lv_aload_n hx hb dX4_isWithWhom_0 rfl (lv_at hl 0 rfl) ?_
  refine lv_iload_n hx hb dX4_isWithWhom_1 rfl (lv_at hl 1 rfl) ?_
  refine lv_bipush (v := 6) hx hb dX4_isWithWhom_2 rfl ?_
  refine ro_V (w := (MW cI cJ A sS kS oS aS tS ik cA tp td fm tt vl wr bO sO nU mV)) (rest := []) S hK hP (k_X4_its f 6 (by omega) (by omega)) gv_X4_55 hd_X4_its ⟨Nat.le_of_ble_eq_true rfl, Nat.le_of_ble_eq_true rfl⟩ 4 rfl rfl rfl rfl hl.1 (lv_room (Nat.le_of_ble_eq_true rfl)) dX4_isWithWhom_4 ⟨Nat.zero_le _, Nat.zero_le _⟩ ?_
  refine lv_istore_n (lv' := [(2, .int (its sS f 6)), (0, .ref (A 0)), (1, .int (nI f))]) hx hb dX4_isWithWhom_7 rfl hl (by decide) rfl (fun ls hl => ?_)
  refine lv_iload_n hx hb dX4_isWithWhom_8 rfl (lv_at hl 0 rfl) ?_
  refine lv_iconst (v := (-1)) hx hb dX4_isWithWhom_9 rfl ?_
  refine lv_icmp_eq (tgt := 31) hx hb dX4_isWithWhom_10 rfl (fun c10 => ?_) (fun c10 => ?_)
  · refine lv_iconst (v := 0) hx hb dX4_isWithWhom_31 rfl ?_
    exact ro_zret hx hb hr hlk (by first | (simp [withW, b2i, c10, i_lt, -Int32.not_le, -Int32.not_lt]; done) | (simp_all; done) | (simp_all [withW, b2i]; done)) dX4_isWithWhom_32
  · refine lv_iload_n hx hb dX4_isWithWhom_13 rfl (lv_at hl 0 rfl) ?_
    refine lv_iload_n hx hb dX4_isWithWhom_14 rfl (lv_at hl 2 rfl) ?_
    refine lv_icmp_eq (tgt := 31) hx hb dX4_isWithWhom_15 rfl (fun c15 => ?_) (fun c15 => ?_)
    · refine lv_iconst (v := 0) hx hb dX4_isWithWhom_31 rfl ?_
      exact ro_zret hx hb hr hlk (by first | (simp [withW, b2i, c10, c15, i_lt, -Int32.not_le, -Int32.not_lt]; done) | (simp_all; done) | (simp_all [withW, b2i]; done)) dX4_isWithWhom_32
    · refine lv_aload_n hx hb dX4_isWithWhom_18 rfl (lv_at hl 1 rfl) ?_
      refine lv_iload_n hx hb dX4_isWithWhom_19 rfl (lv_at hl 2 rfl) ?_
      refine lv_iload_n hx hb dX4_isWithWhom_20 rfl (lv_at hl 0 rfl) ?_
      have hw := whom_in hI hf (by assumption)
      have hw1 := hw.1
      have hw2 := hw.2
      refine w_i (z := nI (whomN sS f)) (hw1) ?_
      refine ro_V (w := (MW cI cJ A sS kS oS aS tS ik cA tp td fm tt vl wr bO sO nU mV)) (rest := []) S hK hP (k_X4_isBeside f (whomN sS f) (by omega) (by omega)) gv_X4_71 hd_X4_isBeside ⟨Nat.le_of_ble_eq_true rfl, Nat.le_of_ble_eq_true rfl⟩ 4 rfl rfl rfl rfl hl.1 (lv_room (Nat.le_of_ble_eq_true rfl)) dX4_isWithWhom_21 ⟨Nat.zero_le _, Nat.zero_le _⟩ ?_
      refine lv_if_eq (tgt := 31) hx hb dX4_isWithWhom_24 rfl (fun c24 => ?_) (fun c24 => ?_)
      · replace c24 := (b2i_0 _).mp c24
        refine lv_iconst (v := 0) hx hb dX4_isWithWhom_31 rfl ?_
        exact ro_zret hx hb hr hlk (by first | (simp [withW, b2i, c10, c15, c24, i_lt, -Int32.not_le, -Int32.not_lt]; done) | (simp_all; done) | (simp_all [withW, b2i]; done)) dX4_isWithWhom_32
      · replace c24 := b2i_n0 c24
        refine lv_iconst (v := 1) hx hb dX4_isWithWhom_27 rfl ?_
        refine lv_goto (tgt := 32) hx hb dX4_isWithWhom_28 rfl ?_
        exact ro_zret hx hb hr hlk (by first | (simp [withW, b2i, c10, c15, c24, i_lt, -Int32.not_le, -Int32.not_lt]; done) | (simp_all; done) | (simp_all [withW, b2i]; done)) dX4_isWithWhom_32

set_option maxHeartbeats 4000000 in
set_option maxRecDepth 100000 in
theorem k_X4_isContent (n : Nat) (f : Nat) (hI : Inv sS n) (hf : f < n) : RO l D (tyA cI cJ cO) yX4_isContent cX4_isContent 2 ((some .boolean)) 4 87 [.ref (A 0), .int (nI f)] (MW cI cJ A sS kS oS aS tS ik cA tp td fm tt vl wr bO sO nU mV) (.int (b2i (content sS f))) := by
  refine RO.mk (by decide) (Nat.le_of_ble_eq_true rfl) ?_
  intro p e s m below meth c ls S hr hlk hP hK hl
  have S : CallFix p m c cX4_isContent 2 s _ WL RX4 := S
  obtain ⟨hx, hb, hml, hown, hts⟩ := id S
  have hl : lv_has ls 2 [(0, .ref (A 0)), (1, .int (nI f))] := hl
  have h8 : n ≤ 8 := hI.1
  refine lv_aload_n hx hb dX4_isContent_0 rfl (lv_at hl 0 rfl) ?_
  refine lv_iload_n hx hb dX4_isContent_1 rfl (lv_at hl 1 rfl) ?_
  refine lv_iconst (v := 5) hx hb dX4_isContent_2 rfl ?_
  refine ro_V (w := (MW cI cJ A sS kS oS aS tS ik cA tp td fm tt vl wr bO sO nU mV)) (rest := []) S hK hP (k_X4_its f 5 (by omega) (by omega)) gv_X4_55 hd_X4_its ⟨Nat.le_of_ble_eq_true rfl, Nat.le_of_ble_eq_true rfl⟩ 4 rfl rfl rfl rfl hl.1 (lv_room (Nat.le_of_ble_eq_true rfl)) dX4_isContent_3 ⟨Nat.zero_le _, Nat.zero_le _⟩ ?_
  by_cases c6_0 : (its sS f 5) = 0
  · refine lv_tableIn (tgt := 36) hx hb dX4_isContent_6 (by rw [c6_0]; decide) (by rw [c6_0]; decide) (by rw [c6_0]; rfl) rfl ?_
    refine lv_aload_n hx hb dX4_isContent_36 rfl (lv_at hl 0 rfl) ?_
    refine lv_iload_n hx hb dX4_isContent_37 rfl (lv_at hl 1 rfl) ?_
    refine lv_iconst (v := 3) hx hb dX4_isContent_38 rfl ?_
    refine ro_V (w := (MW cI cJ A sS kS oS aS tS ik cA tp td fm tt vl wr bO sO nU mV)) (rest := []) S hK hP (k_X4_its f 3 (by omega) (by omega)) gv_X4_55 hd_X4_its ⟨Nat.le_of_ble_eq_true rfl, Nat.le_of_ble_eq_true rfl⟩ 4 rfl rfl rfl rfl hl.1 (lv_room (Nat.le_of_ble_eq_true rfl)) dX4_isContent_39 ⟨Nat.zero_le _, Nat.zero_le _⟩ ?_
    refine lv_bipush (v := 10) hx hb dX4_isContent_42 rfl ?_
    refine lv_icmp_gt (tgt := 51) hx hb dX4_isContent_44 rfl (fun c44 => ?_) (fun c44 => ?_)
    · replace c44 := Int32.not_le.mpr c44
      refine lv_iconst (v := 0) hx hb dX4_isContent_51 rfl ?_
      exact ro_zret hx hb hr hlk (by first | (simp [content, b2i, c6_0, c44, i_lt, -Int32.not_le, -Int32.not_lt]; done) | (simp_all; done) | (simp_all [content, b2i]; done)) dX4_isContent_52
    · replace c44 := Int32.not_lt.mp c44
      refine lv_iconst (v := 1) hx hb dX4_isContent_47 rfl ?_
      refine lv_goto (tgt := 52) hx hb dX4_isContent_48 rfl ?_
      exact ro_zret hx hb hr hlk (by first | (simp [content, b2i, c6_0, c44, i_lt, -Int32.not_le, -Int32.not_lt]; done) | (simp_all; done) | (simp_all [content, b2i]; done)) dX4_isContent_52
  by_cases c6_1 : (its sS f 5) = 1
  · refine lv_tableIn (tgt := 53) hx hb dX4_isContent_6 (by rw [c6_1]; decide) (by rw [c6_1]; decide) (by rw [c6_1]; rfl) rfl ?_
    refine lv_aload_n hx hb dX4_isContent_53 rfl (lv_at hl 0 rfl) ?_
    refine lv_iload_n hx hb dX4_isContent_54 rfl (lv_at hl 1 rfl) ?_
    refine ro_V (w := (MW cI cJ A sS kS oS aS tS ik cA tp td fm tt vl wr bO sO nU mV)) (rest := []) S hK hP (k_X4_isWithWhom n f hI (by omega)) gv_X4_75 hd_X4_isWithWhom ⟨Nat.le_of_ble_eq_true rfl, Nat.le_of_ble_eq_true rfl⟩ 4 rfl rfl rfl rfl hl.1 (lv_room (Nat.le_of_ble_eq_true rfl)) dX4_isContent_55 ⟨Nat.zero_le _, Nat.zero_le _⟩ ?_
    refine lv_if_eq (tgt := 77) hx hb dX4_isContent_58 rfl (fun c58 => ?_) (fun c58 => ?_)
    · replace c58 := (b2i_0 _).mp c58
      refine lv_iconst (v := 1) hx hb dX4_isContent_77 rfl ?_
      refine lv_goto (tgt := 82) hx hb dX4_isContent_78 rfl ?_
      exact ro_zret hx hb hr hlk (by first | (simp [content, b2i, c6_0, c6_1, c58, i_lt, -Int32.not_le, -Int32.not_lt]; done) | (simp_all; done) | (simp_all [content, b2i]; done)) dX4_isContent_82
    · replace c58 := b2i_n0 c58
      refine lv_aload_n hx hb dX4_isContent_61 rfl (lv_at hl 0 rfl) ?_
      refine lv_iload_n hx hb dX4_isContent_62 rfl (lv_at hl 1 rfl) ?_
      refine lv_aload_n hx hb dX4_isContent_63 rfl (lv_at hl 0 rfl) ?_
      refine lv_iload_n hx hb dX4_isContent_64 rfl (lv_at hl 1 rfl) ?_
      refine lv_bipush (v := 6) hx hb dX4_isContent_65 rfl ?_
      refine ro_V (w := (MW cI cJ A sS kS oS aS tS ik cA tp td fm tt vl wr bO sO nU mV)) (rest := [.int (nI f), .ref (A 0)]) S hK hP (k_X4_its f 6 (by omega) (by omega)) gv_X4_55 hd_X4_its ⟨Nat.le_of_ble_eq_true rfl, Nat.le_of_ble_eq_true rfl⟩ 4 rfl rfl rfl rfl hl.1 (lv_room (Nat.le_of_ble_eq_true rfl)) dX4_isContent_67 ⟨Nat.zero_le _, Nat.zero_le _⟩ ?_
      have hw := with_in hI hf (by assumption)
      have hw1 := hw.1
      have hw2 := hw.2
      refine w_i (z := nI (whomN sS f)) (hw1) ?_
      refine ro_V (w := (MW cI cJ A sS kS oS aS tS ik cA tp td fm tt vl wr bO sO nU mV)) (rest := []) S hK hP (k_X4_apart f (whomN sS f) (by omega) (by omega)) gv_X4_79 hd_X4_apart ⟨Nat.le_of_ble_eq_true rfl, Nat.le_of_ble_eq_true rfl⟩ 4 rfl rfl rfl rfl hl.1 (lv_room (Nat.le_of_ble_eq_true rfl)) dX4_isContent_70 ⟨Nat.zero_le _, Nat.zero_le _⟩ ?_
      refine lv_iconst (v := 1) hx hb dX4_isContent_73 rfl ?_
      refine lv_icmp_gt (tgt := 81) hx hb dX4_isContent_74 rfl (fun c74 => ?_) (fun c74 => ?_)
      · replace c74 := Int32.not_le.mpr c74
        refine lv_iconst (v := 0) hx hb dX4_isContent_81 rfl ?_
        exact ro_zret hx hb hr hlk (by first | (simp [content, b2i, c6_0, c6_1, c58, c74, i_lt, -Int32.not_le, -Int32.not_lt]; done) | (simp_all; done) | (simp_all [content, b2i]; done)) dX4_isContent_82
      · replace c74 := Int32.not_lt.mp c74
        refine lv_iconst (v := 1) hx hb dX4_isContent_77 rfl ?_
        refine lv_goto (tgt := 82) hx hb dX4_isContent_78 rfl ?_
        exact ro_zret hx hb hr hlk (by first | (simp [content, b2i, c6_0, c6_1, c58, c74, i_lt, -Int32.not_le, -Int32.not_lt]; done) | (simp_all; done) | (simp_all [content, b2i]; done)) dX4_isContent_82
  by_cases c6_2 : (its sS f 5) = 2
  · refine lv_tableIn (tgt := 83) hx hb dX4_isContent_6 (by rw [c6_2]; decide) (by rw [c6_2]; decide) (by rw [c6_2]; rfl) rfl ?_
    refine lv_aload_n hx hb dX4_isContent_83 rfl (lv_at hl 0 rfl) ?_
    refine lv_iload_n hx hb dX4_isContent_84 rfl (lv_at hl 1 rfl) ?_
    refine ro_V (w := (MW cI cJ A sS kS oS aS tS ik cA tp td fm tt vl wr bO sO nU mV)) (rest := []) S hK hP (k_X4_isWithWhom n f hI (by omega)) gv_X4_75 hd_X4_isWithWhom ⟨Nat.le_of_ble_eq_true rfl, Nat.le_of_ble_eq_true rfl⟩ 4 rfl rfl rfl rfl hl.1 (lv_room (Nat.le_of_ble_eq_true rfl)) dX4_isContent_85 ⟨Nat.zero_le _, Nat.zero_le _⟩ ?_
    refine lv_if_eq (tgt := 108) hx hb dX4_isContent_88 rfl (fun c88 => ?_) (fun c88 => ?_)
    · replace c88 := (b2i_0 _).mp c88
      refine lv_iconst (v := 1) hx hb dX4_isContent_108 rfl ?_
      refine lv_goto (tgt := 113) hx hb dX4_isContent_109 rfl ?_
      exact ro_zret hx hb hr hlk (by first | (simp [content, b2i, c6_0, c6_1, c6_2, c88, i_lt, -Int32.not_le, -Int32.not_lt]; done) | (simp_all; done) | (simp_all [content, b2i]; done)) dX4_isContent_113
    · replace c88 := b2i_n0 c88
      refine lv_aload_n hx hb dX4_isContent_91 rfl (lv_at hl 0 rfl) ?_
      refine lv_iload_n hx hb dX4_isContent_92 rfl (lv_at hl 1 rfl) ?_
      refine lv_aload_n hx hb dX4_isContent_93 rfl (lv_at hl 0 rfl) ?_
      refine lv_iload_n hx hb dX4_isContent_94 rfl (lv_at hl 1 rfl) ?_
      refine lv_bipush (v := 6) hx hb dX4_isContent_95 rfl ?_
      refine ro_V (w := (MW cI cJ A sS kS oS aS tS ik cA tp td fm tt vl wr bO sO nU mV)) (rest := [.int (nI f), .ref (A 0)]) S hK hP (k_X4_its f 6 (by omega) (by omega)) gv_X4_55 hd_X4_its ⟨Nat.le_of_ble_eq_true rfl, Nat.le_of_ble_eq_true rfl⟩ 4 rfl rfl rfl rfl hl.1 (lv_room (Nat.le_of_ble_eq_true rfl)) dX4_isContent_97 ⟨Nat.zero_le _, Nat.zero_le _⟩ ?_
      have hw := with_in hI hf (by assumption)
      have hw1 := hw.1
      have hw2 := hw.2
      refine w_i (z := nI (whomN sS f)) (hw1) ?_
      refine ro_V (w := (MW cI cJ A sS kS oS aS tS ik cA tp td fm tt vl wr bO sO nU mV)) (rest := []) S hK hP (k_X4_apart f (whomN sS f) (by omega) (by omega)) gv_X4_79 hd_X4_apart ⟨Nat.le_of_ble_eq_true rfl, Nat.le_of_ble_eq_true rfl⟩ 4 rfl rfl rfl rfl hl.1 (lv_room (Nat.le_of_ble_eq_true rfl)) dX4_isContent_100 ⟨Nat.zero_le _, Nat.zero_le _⟩ ?_
      refine lv_bipush (v := 10) hx hb dX4_isContent_103 rfl ?_
      refine lv_icmp_lt (tgt := 112) hx hb dX4_isContent_105 rfl (fun c105 => ?_) (fun c105 => ?_)
      · replace c105 := Int32.not_le.mpr c105
        refine lv_iconst (v := 0) hx hb dX4_isContent_112 rfl ?_
        exact ro_zret hx hb hr hlk (by first | (simp [content, b2i, c6_0, c6_1, c6_2, c88, c105, i_lt, -Int32.not_le, -Int32.not_lt]; done) | (simp_all; done) | (simp_all [content, b2i]; done)) dX4_isContent_113
      · replace c105 := Int32.not_lt.mp c105
        refine lv_iconst (v := 1) hx hb dX4_isContent_108 rfl ?_
        refine lv_goto (tgt := 113) hx hb dX4_isContent_109 rfl ?_
        exact ro_zret hx hb hr hlk (by first | (simp [content, b2i, c6_0, c6_1, c6_2, c88, c105, i_lt, -Int32.not_le, -Int32.not_lt]; done) | (simp_all; done) | (simp_all [content, b2i]; done)) dX4_isContent_113
  by_cases c6_3 : (its sS f 5) = 3
  · refine lv_tableIn (tgt := 114) hx hb dX4_isContent_6 (by rw [c6_3]; decide) (by rw [c6_3]; decide) (by rw [c6_3]; rfl) rfl ?_
    refine lv_aload_n hx hb dX4_isContent_114 rfl (lv_at hl 0 rfl) ?_
    refine lv_iload_n hx hb dX4_isContent_115 rfl (lv_at hl 1 rfl) ?_
    refine lv_iconst (v := 4) hx hb dX4_isContent_116 rfl ?_
    refine ro_V (w := (MW cI cJ A sS kS oS aS tS ik cA tp td fm tt vl wr bO sO nU mV)) (rest := []) S hK hP (k_X4_its f 4 (by omega) (by omega)) gv_X4_55 hd_X4_its ⟨Nat.le_of_ble_eq_true rfl, Nat.le_of_ble_eq_true rfl⟩ 4 rfl rfl rfl rfl hl.1 (lv_room (Nat.le_of_ble_eq_true rfl)) dX4_isContent_117 ⟨Nat.zero_le _, Nat.zero_le _⟩ ?_
    refine lv_if_ne (tgt := 127) hx hb dX4_isContent_120 rfl (fun c120 => ?_) (fun c120 => ?_)
    · refine lv_iconst (v := 0) hx hb dX4_isContent_127 rfl ?_
      exact ro_zret hx hb hr hlk (by first | (simp [content, b2i, c6_0, c6_1, c6_2, c6_3, c120, i_lt, -Int32.not_le, -Int32.not_lt]; done) | (simp_all; done) | (simp_all [content, b2i]; done)) dX4_isContent_128
    · refine lv_iconst (v := 1) hx hb dX4_isContent_123 rfl ?_
      refine lv_goto (tgt := 128) hx hb dX4_isContent_124 rfl ?_
      exact ro_zret hx hb hr hlk (by first | (simp [content, b2i, c6_0, c6_1, c6_2, c6_3, c120, i_lt, -Int32.not_le, -Int32.not_lt]; done) | (simp_all; done) | (simp_all [content, b2i]; done)) dX4_isContent_128
  refine lv_tableOut (tgt := 129) hx hb dX4_isContent_6 (by have q0 := lv_neT c6_0 (a := 0) rfl; have q1 := lv_neT c6_1 (a := 1) rfl; have q2 := lv_neT c6_2 (a := 2) rfl; have q3 := lv_neT c6_3 (a := 3) rfl; omega) rfl ?_
  refine lv_aload_n hx hb dX4_isContent_129 rfl (lv_at hl 0 rfl) ?_
  refine lv_iload_n hx hb dX4_isContent_130 rfl (lv_at hl 1 rfl) ?_
  refine lv_iconst (v := 4) hx hb dX4_isContent_131 rfl ?_
  refine ro_V (w := (MW cI cJ A sS kS oS aS tS ik cA tp td fm tt vl wr bO sO nU mV)) (rest := []) S hK hP (k_X4_its f 4 (by omega) (by omega)) gv_X4_55 hd_X4_its ⟨Nat.le_of_ble_eq_true rfl, Nat.le_of_ble_eq_true rfl⟩ 4 rfl rfl rfl rfl hl.1 (lv_room (Nat.le_of_ble_eq_true rfl)) dX4_isContent_132 ⟨Nat.zero_le _, Nat.zero_le _⟩ ?_
  refine lv_iconst (v := 1) hx hb dX4_isContent_135 rfl ?_
  refine lv_icmp_ne (tgt := 143) hx hb dX4_isContent_136 rfl (fun c136 => ?_) (fun c136 => ?_)
  · refine lv_iconst (v := 0) hx hb dX4_isContent_143 rfl ?_
    exact ro_zret hx hb hr hlk (by first | (simp [content, b2i, c6_0, c6_1, c6_2, c6_3, c136, i_lt, -Int32.not_le, -Int32.not_lt]; done) | (simp_all; done) | (simp_all [content, b2i]; done)) dX4_isContent_144
  · refine lv_iconst (v := 1) hx hb dX4_isContent_139 rfl ?_
    refine lv_goto (tgt := 144) hx hb dX4_isContent_140 rfl ?_
    exact ro_zret hx hb hr hlk (by first | (simp [content, b2i, c6_0, c6_1, c6_2, c6_3, c136, i_lt, -Int32.not_le, -Int32.not_lt]; done) | (simp_all; done) | (simp_all [content, b2i]; done)) dX4_isContent_144

set_option maxHeartbeats 4000000 in
set_option maxRecDepth 100000 in
theorem k_X4_lampsOn (n : Nat) (f : Nat) (hI : Inv sS n) (hf : f < n) : RO l D (tyA cI cJ cO) yX4_lampsOn cX4_lampsOn 4 ((some .int)) 3 66 [.ref (A 0), .int (nI f)] (MW cI cJ A sS kS oS aS tS ik cA tp td fm tt vl wr bO sO nU mV) (.int (lamps sS n f)) := by
  refine RO.mk (by decide) (Nat.le_of_ble_eq_true rfl) ?_
  intro p e s m below meth c ls S hr hlk hP hK hl
  have S : CallFix p m c cX4_lampsOn 4 s _ WL RX4 := S
  obtain ⟨hx, hb, hml, hown, hts⟩ := id S
  have hl : lv_has ls 4 [(0, .ref (A 0)), (1, .int (nI f))] := hl
  have h8 : n ≤ 8 := hI.1
  refine lv_iconst (v := 0) hx hb dX4_lampsOn_0 rfl ?_
  refine lv_istore_n (lv' := [(2, .int 0), (0, .ref (A 0)), (1, .int (nI f))]) hx hb dX4_lampsOn_1 rfl hl (by decide) rfl (fun ls hl => ?_)
  refine lv_iconst (v := 0) hx hb dX4_lampsOn_2 rfl ?_
  refine lv_istore_n (lv' := [(3, .int 0), (2, .int 0), (0, .ref (A 0)), (1, .int (nI f))]) hx hb dX4_lampsOn_3 rfl hl (by decide) rfl (fun ls hl => ?_)
  refine w_loop (pc := 4) (st := fun (i : Nat) => []) (μ := fun (i : Nat) => n - i) (I := fun (i : Nat) ls => (i ≤ n) ∧ lv_has ls 4 [(0, .ref (A 0)), (1, .int (nI f)), (2, .int (setF (lampP sS f) i)), (3, .int (nI i))]) ?_ (0) ⟨Nat.zero_le _, lv_sub hl [2, 3, 1, 0] rfl⟩
  rintro i ls ⟨hi, hl⟩ ih4
  try dsimp only at ih4 ⊢
  refine lv_iload_n hx hb dX4_lampsOn_4 rfl (lv_at hl 3 rfl) ?_
  refine lv_aload_n hx hb dX4_lampsOn_5 rfl (lv_at hl 0 rfl) ?_
  refine va_get (ci := 4) (v := .ref (A 1)) hx hb hts wx_X4 hown hK hP 0 rfl rfl 0 (by decide) (hts _ wf_X4_7) (fun _ h9 => h9) rfl dX4_lampsOn_6 ?_
  refine lv_iconst (v := 1) hx hb dX4_lampsOn_9 rfl ?_
  refine ia_ld hx hb hK hP 1 0 rfl rfl 1 (rfl) (by omega) (by decide) dX4_lampsOn_10 ?_
  refine w_i (z := nI n) (hI.2.1) ?_
  refine lv_icmp_ge (tgt := 59) hx hb dX4_lampsOn_11 rfl (fun c11 => ?_) (fun c11 => ?_)
  · replace c11 := nq_le (a := n) (b := i) (by omega) (by omega) c11
    refine lv_iload_n hx hb dX4_lampsOn_59 rfl (lv_at hl 2 rfl) ?_
    exact ro_iret hx hb hr hlk (by rw [show i = n by omega]; rfl) dX4_lampsOn_60
  · replace c11 := nq_nle (a := n) (b := i) (by omega) (by omega) c11
    refine lv_iload_n hx hb dX4_lampsOn_14 rfl (lv_at hl 2 rfl) ?_
    refine lv_aload_n hx hb dX4_lampsOn_15 rfl (lv_at hl 0 rfl) ?_
    refine lv_iload_n hx hb dX4_lampsOn_16 rfl (lv_at hl 1 rfl) ?_
    refine lv_iload_n hx hb dX4_lampsOn_17 rfl (lv_at hl 3 rfl) ?_
    refine ro_V (w := (MW cI cJ A sS kS oS aS tS ik cA tp td fm tt vl wr bO sO nU mV)) (rest := [.int (setF (lampP sS f) i)]) S hK hP (k_X4_isBeside f i (by omega) (by omega)) gv_X4_71 hd_X4_isBeside ⟨Nat.le_of_ble_eq_true rfl, Nat.le_of_ble_eq_true rfl⟩ 4 rfl rfl rfl rfl hl.1 (lv_room (Nat.le_of_ble_eq_true rfl)) dX4_lampsOn_18 ⟨Nat.zero_le _, Nat.zero_le _⟩ ?_
    refine lv_if_eq (tgt := 50) hx hb dX4_lampsOn_21 rfl (fun c21 => ?_) (fun c21 => ?_)
    · replace c21 := (b2i_0 _).mp c21
      refine lv_iconst (v := 0) hx hb dX4_lampsOn_50 rfl ?_
      refine lv_ior hx hb dX4_lampsOn_51 ?_
      refine w_i (z := setF (lampP sS f) (i + 1)) (setF_f0 (by simp [lampP, c11, c21])) ?_
      refine lv_istore_n (lv' := [(2, .int (setF (lampP sS f) (i + 1))), (0, .ref (A 0)), (1, .int (nI f)), (3, .int (nI i))]) hx hb dX4_lampsOn_52 rfl hl (by decide) rfl (fun ls hl => ?_)
      refine lv_iinc (v := nI (i + 1)) (lv' := [(3, .int (nI (i + 1))), (2, .int (setF (lampP sS f) (i + 1))), (0, .ref (A 0)), (1, .int (nI f))]) hx hb dX4_lampsOn_53 hl (k := 3) rfl (nI_inc _) (by decide) rfl (fun ls hl => ?_)
      refine lv_goto (tgt := 4) hx hb dX4_lampsOn_56 rfl ?_
      exact ih4 (i + 1) ls (by first | omega | (dsimp only; omega)) ⟨(by omega), lv_sub hl [2, 3, 1, 0] rfl⟩
    · replace c21 := b2i_n0 c21
      refine lv_aload_n hx hb dX4_lampsOn_24 rfl (lv_at hl 0 rfl) ?_
      refine lv_iload_n hx hb dX4_lampsOn_25 rfl (lv_at hl 3 rfl) ?_
      refine lv_iconst (v := 4) hx hb dX4_lampsOn_26 rfl ?_
      refine ro_V (w := (MW cI cJ A sS kS oS aS tS ik cA tp td fm tt vl wr bO sO nU mV)) (rest := [.int (setF (lampP sS f) i)]) S hK hP (k_X4_its i 4 (by omega) (by omega)) gv_X4_55 hd_X4_its ⟨Nat.le_of_ble_eq_true rfl, Nat.le_of_ble_eq_true rfl⟩ 4 rfl rfl rfl rfl hl.1 (lv_room (Nat.le_of_ble_eq_true rfl)) dX4_lampsOn_27 ⟨Nat.zero_le _, Nat.zero_le _⟩ ?_
      refine lv_iconst (v := 1) hx hb dX4_lampsOn_30 rfl ?_
      refine lv_icmp_ne (tgt := 50) hx hb dX4_lampsOn_31 rfl (fun c31 => ?_) (fun c31 => ?_)
      · refine lv_iconst (v := 0) hx hb dX4_lampsOn_50 rfl ?_
        refine lv_ior hx hb dX4_lampsOn_51 ?_
        refine w_i (z := setF (lampP sS f) (i + 1)) (setF_f0 (by simp [lampP, c11, c21, c31])) ?_
        refine lv_istore_n (lv' := [(2, .int (setF (lampP sS f) (i + 1))), (0, .ref (A 0)), (1, .int (nI f)), (3, .int (nI i))]) hx hb dX4_lampsOn_52 rfl hl (by decide) rfl (fun ls hl => ?_)
        refine lv_iinc (v := nI (i + 1)) (lv' := [(3, .int (nI (i + 1))), (2, .int (setF (lampP sS f) (i + 1))), (0, .ref (A 0)), (1, .int (nI f))]) hx hb dX4_lampsOn_53 hl (k := 3) rfl (nI_inc _) (by decide) rfl (fun ls hl => ?_)
        refine lv_goto (tgt := 4) hx hb dX4_lampsOn_56 rfl ?_
        exact ih4 (i + 1) ls (by first | omega | (dsimp only; omega)) ⟨(by omega), lv_sub hl [2, 3, 1, 0] rfl⟩
      · refine lv_aload_n hx hb dX4_lampsOn_34 rfl (lv_at hl 0 rfl) ?_
        refine lv_iload_n hx hb dX4_lampsOn_35 rfl (lv_at hl 1 rfl) ?_
        refine lv_iload_n hx hb dX4_lampsOn_36 rfl (lv_at hl 3 rfl) ?_
        refine ro_V (w := (MW cI cJ A sS kS oS aS tS ik cA tp td fm tt vl wr bO sO nU mV)) (rest := [.int (setF (lampP sS f) i)]) S hK hP (k_X4_apart f i (by omega) (by omega)) gv_X4_79 hd_X4_apart ⟨Nat.le_of_ble_eq_true rfl, Nat.le_of_ble_eq_true rfl⟩ 4 rfl rfl rfl rfl hl.1 (lv_room (Nat.le_of_ble_eq_true rfl)) dX4_lampsOn_37 ⟨Nat.zero_le _, Nat.zero_le _⟩ ?_
        refine lv_iconst (v := 3) hx hb dX4_lampsOn_40 rfl ?_
        refine lv_icmp_gt (tgt := 50) hx hb dX4_lampsOn_41 rfl (fun c41 => ?_) (fun c41 => ?_)
        · replace c41 := Int32.not_le.mpr c41
          refine lv_iconst (v := 0) hx hb dX4_lampsOn_50 rfl ?_
          refine lv_ior hx hb dX4_lampsOn_51 ?_
          refine w_i (z := setF (lampP sS f) (i + 1)) (setF_f0 (by simp [lampP, c11, c21, c31, c41])) ?_
          refine lv_istore_n (lv' := [(2, .int (setF (lampP sS f) (i + 1))), (0, .ref (A 0)), (1, .int (nI f)), (3, .int (nI i))]) hx hb dX4_lampsOn_52 rfl hl (by decide) rfl (fun ls hl => ?_)
          refine lv_iinc (v := nI (i + 1)) (lv' := [(3, .int (nI (i + 1))), (2, .int (setF (lampP sS f) (i + 1))), (0, .ref (A 0)), (1, .int (nI f))]) hx hb dX4_lampsOn_53 hl (k := 3) rfl (nI_inc _) (by decide) rfl (fun ls hl => ?_)
          refine lv_goto (tgt := 4) hx hb dX4_lampsOn_56 rfl ?_
          exact ih4 (i + 1) ls (by first | omega | (dsimp only; omega)) ⟨(by omega), lv_sub hl [2, 3, 1, 0] rfl⟩
        · replace c41 := Int32.not_lt.mp c41
          refine lv_iconst (v := 1) hx hb dX4_lampsOn_44 rfl ?_
          refine lv_iload_n hx hb dX4_lampsOn_45 rfl (lv_at hl 3 rfl) ?_
          refine lv_ishl hx hb dX4_lampsOn_46 ?_
          refine lv_goto (tgt := 51) hx hb dX4_lampsOn_47 rfl ?_
          refine lv_ior hx hb dX4_lampsOn_51 ?_
          refine w_i (z := setF (lampP sS f) (i + 1)) (setF_t (by simp [lampP, c11, c21, c31, c41])) ?_
          refine lv_istore_n (lv' := [(2, .int (setF (lampP sS f) (i + 1))), (0, .ref (A 0)), (1, .int (nI f)), (3, .int (nI i))]) hx hb dX4_lampsOn_52 rfl hl (by decide) rfl (fun ls hl => ?_)
          refine lv_iinc (v := nI (i + 1)) (lv' := [(3, .int (nI (i + 1))), (2, .int (setF (lampP sS f) (i + 1))), (0, .ref (A 0)), (1, .int (nI f))]) hx hb dX4_lampsOn_53 hl (k := 3) rfl (nI_inc _) (by decide) rfl (fun ls hl => ?_)
          refine lv_goto (tgt := 4) hx hb dX4_lampsOn_56 rfl ?_
          exact ih4 (i + 1) ls (by first | omega | (dsimp only; omega)) ⟨(by omega), lv_sub hl [2, 3, 1, 0] rfl⟩

set_option maxHeartbeats 4000000 in
set_option maxRecDepth 100000 in
theorem k_X4_beside (n : Nat) (f : Nat) (hI : Inv sS n) (hf : f < n) : RO l D (tyA cI cJ cO) yX4_beside cX4_beside 4 ((some .int)) 3 65 [.ref (A 0), .int (nI f)] (MW cI cJ A sS kS oS aS tS ik cA tp td fm tt vl wr bO sO nU mV) (.int (nI (cntF (nearP sS f) n))) := by
  refine RO.mk (by decide) (Nat.le_of_ble_eq_true rfl) ?_
  intro p e s m below meth c ls S hr hlk hP hK hl
  have S : CallFix p m c cX4_beside 4 s _ WL RX4 := S
  obtain ⟨hx, hb, hml, hown, hts⟩ := id S
  have hl : lv_has ls 4 [(0, .ref (A 0)), (1, .int (nI f))] := hl
  have h8 : n ≤ 8 := hI.1
  refine lv_iconst (v := 0) hx hb dX4_beside_0 rfl ?_
  refine lv_istore_n (lv' := [(2, .int 0), (0, .ref (A 0)), (1, .int (nI f))]) hx hb dX4_beside_1 rfl hl (by decide) rfl (fun ls hl => ?_)
  refine lv_iconst (v := 0) hx hb dX4_beside_2 rfl ?_
  refine lv_istore_n (lv' := [(3, .int 0), (2, .int 0), (0, .ref (A 0)), (1, .int (nI f))]) hx hb dX4_beside_3 rfl hl (by decide) rfl (fun ls hl => ?_)
  refine w_loop (pc := 4) (st := fun (i : Nat) => []) (μ := fun (i : Nat) => n - i) (I := fun (i : Nat) ls => (i ≤ n) ∧ lv_has ls 4 [(0, .ref (A 0)), (1, .int (nI f)), (2, .int (nI (cntF (nearP sS f) i))), (3, .int (nI i))]) ?_ (0) ⟨Nat.zero_le _, lv_sub hl [2, 3, 1, 0] rfl⟩
  rintro i ls ⟨hi, hl⟩ ih4
  try dsimp only at ih4 ⊢
  refine lv_iload_n hx hb dX4_beside_4 rfl (lv_at hl 3 rfl) ?_
  refine lv_aload_n hx hb dX4_beside_5 rfl (lv_at hl 0 rfl) ?_
  refine va_get (ci := 4) (v := .ref (A 1)) hx hb hts wx_X4 hown hK hP 0 rfl rfl 0 (by decide) (hts _ wf_X4_7) (fun _ h9 => h9) rfl dX4_beside_6 ?_
  refine lv_iconst (v := 1) hx hb dX4_beside_9 rfl ?_
  refine ia_ld hx hb hK hP 1 0 rfl rfl 1 (rfl) (by omega) (by decide) dX4_beside_10 ?_
  refine w_i (z := nI n) (hI.2.1) ?_
  refine lv_icmp_ge (tgt := 42) hx hb dX4_beside_11 rfl (fun c11 => ?_) (fun c11 => ?_)
  · replace c11 := nq_le (a := n) (b := i) (by omega) (by omega) c11
    refine lv_iload_n hx hb dX4_beside_42 rfl (lv_at hl 2 rfl) ?_
    exact ro_iret hx hb hr hlk (by rw [show i = n by omega]) dX4_beside_43
  · replace c11 := nq_nle (a := n) (b := i) (by omega) (by omega) c11
    refine lv_iload_n hx hb dX4_beside_14 rfl (lv_at hl 2 rfl) ?_
    refine lv_iload_n hx hb dX4_beside_15 rfl (lv_at hl 3 rfl) ?_
    refine lv_iload_n hx hb dX4_beside_16 rfl (lv_at hl 1 rfl) ?_
    refine lv_icmp_eq (tgt := 33) hx hb dX4_beside_17 rfl (fun c17 => ?_) (fun c17 => ?_)
    · replace c17 := nq_eq (a := i) (b := f) (by omega) (by omega) c17
      refine lv_iconst (v := 0) hx hb dX4_beside_33 rfl ?_
      refine lv_iadd hx hb dX4_beside_34 ?_
      refine w_i (z := nI (cntF (nearP sS f) (i + 1))) (cntF_f0 (by simp [nearP, c11, c17])) ?_
      refine lv_istore_n (lv' := [(2, .int (nI (cntF (nearP sS f) (i + 1)))), (0, .ref (A 0)), (1, .int (nI f)), (3, .int (nI i))]) hx hb dX4_beside_35 rfl hl (by decide) rfl (fun ls hl => ?_)
      refine lv_iinc (v := nI (i + 1)) (lv' := [(3, .int (nI (i + 1))), (2, .int (nI (cntF (nearP sS f) (i + 1)))), (0, .ref (A 0)), (1, .int (nI f))]) hx hb dX4_beside_36 hl (k := 3) rfl (nI_inc _) (by decide) rfl (fun ls hl => ?_)
      refine lv_goto (tgt := 4) hx hb dX4_beside_39 rfl ?_
      exact ih4 (i + 1) ls (by first | omega | (dsimp only; omega)) ⟨(by omega), lv_sub hl [2, 3, 1, 0] rfl⟩
    · replace c17 := nq_ne (a := i) (b := f) (by omega) (by omega) c17
      refine lv_aload_n hx hb dX4_beside_20 rfl (lv_at hl 0 rfl) ?_
      refine lv_iload_n hx hb dX4_beside_21 rfl (lv_at hl 1 rfl) ?_
      refine lv_iload_n hx hb dX4_beside_22 rfl (lv_at hl 3 rfl) ?_
      refine ro_V (w := (MW cI cJ A sS kS oS aS tS ik cA tp td fm tt vl wr bO sO nU mV)) (rest := [.int (nI (cntF (nearP sS f) i))]) S hK hP (k_X4_isBeside f i (by omega) (by omega)) gv_X4_71 hd_X4_isBeside ⟨Nat.le_of_ble_eq_true rfl, Nat.le_of_ble_eq_true rfl⟩ 4 rfl rfl rfl rfl hl.1 (lv_room (Nat.le_of_ble_eq_true rfl)) dX4_beside_23 ⟨Nat.zero_le _, Nat.zero_le _⟩ ?_
      refine lv_if_eq (tgt := 33) hx hb dX4_beside_26 rfl (fun c26 => ?_) (fun c26 => ?_)
      · replace c26 := (b2i_0 _).mp c26
        refine lv_iconst (v := 0) hx hb dX4_beside_33 rfl ?_
        refine lv_iadd hx hb dX4_beside_34 ?_
        refine w_i (z := nI (cntF (nearP sS f) (i + 1))) (cntF_f0 (by simp [nearP, c11, c17, c26])) ?_
        refine lv_istore_n (lv' := [(2, .int (nI (cntF (nearP sS f) (i + 1)))), (0, .ref (A 0)), (1, .int (nI f)), (3, .int (nI i))]) hx hb dX4_beside_35 rfl hl (by decide) rfl (fun ls hl => ?_)
        refine lv_iinc (v := nI (i + 1)) (lv' := [(3, .int (nI (i + 1))), (2, .int (nI (cntF (nearP sS f) (i + 1)))), (0, .ref (A 0)), (1, .int (nI f))]) hx hb dX4_beside_36 hl (k := 3) rfl (nI_inc _) (by decide) rfl (fun ls hl => ?_)
        refine lv_goto (tgt := 4) hx hb dX4_beside_39 rfl ?_
        exact ih4 (i + 1) ls (by first | omega | (dsimp only; omega)) ⟨(by omega), lv_sub hl [2, 3, 1, 0] rfl⟩
      · replace c26 := b2i_n0 c26
        refine lv_iconst (v := 1) hx hb dX4_beside_29 rfl ?_
        refine lv_goto (tgt := 34) hx hb dX4_beside_30 rfl ?_
        refine lv_iadd hx hb dX4_beside_34 ?_
        refine w_i (z := nI (cntF (nearP sS f) (i + 1))) (cntF_t (by simp [nearP, c11, c17, c26])) ?_
        refine lv_istore_n (lv' := [(2, .int (nI (cntF (nearP sS f) (i + 1)))), (0, .ref (A 0)), (1, .int (nI f)), (3, .int (nI i))]) hx hb dX4_beside_35 rfl hl (by decide) rfl (fun ls hl => ?_)
        refine lv_iinc (v := nI (i + 1)) (lv' := [(3, .int (nI (i + 1))), (2, .int (nI (cntF (nearP sS f) (i + 1)))), (0, .ref (A 0)), (1, .int (nI f))]) hx hb dX4_beside_36 hl (k := 3) rfl (nI_inc _) (by decide) rfl (fun ls hl => ?_)
        refine lv_goto (tgt := 4) hx hb dX4_beside_39 rfl ?_
        exact ih4 (i + 1) ls (by first | omega | (dsimp only; omega)) ⟨(by omega), lv_sub hl [2, 3, 1, 0] rfl⟩

set_option maxHeartbeats 4000000 in
set_option maxRecDepth 100000 in
theorem k_X4_isAnyOtherCross (n : Nat) (f : Nat) (hI : Inv sS n) (hf : f < n) : RO l D (tyA cI cJ cO) yX4_isAnyOtherCross cX4_isAnyOtherCross 4 ((some .boolean)) 5 108 [.ref (A 0), .int (nI f)] (MW cI cJ A sS kS oS aS tS ik cA tp td fm tt vl wr bO sO nU mV) (.int (b2i (anyF (crossP sS f) n))) := by
  refine RO.mk (by decide) (Nat.le_of_ble_eq_true rfl) ?_
  intro p e s m below meth c ls S hr hlk hP hK hl
  have S : CallFix p m c cX4_isAnyOtherCross 4 s _ WL RX4 := S
  obtain ⟨hx, hb, hml, hown, hts⟩ := id S
  have hl : lv_has ls 4 [(0, .ref (A 0)), (1, .int (nI f))] := hl
  have h8 : n ≤ 8 := hI.1
  refine lv_iconst (v := 0) hx hb dX4_isAnyOtherCross_0 rfl ?_
  refine lv_istore_n (lv' := [(2, .int 0), (0, .ref (A 0)), (1, .int (nI f))]) hx hb dX4_isAnyOtherCross_1 rfl hl (by decide) rfl (fun ls hl => ?_)
  refine lv_iconst (v := 0) hx hb dX4_isAnyOtherCross_2 rfl ?_
  refine lv_istore_n (lv' := [(3, .int 0), (2, .int 0), (0, .ref (A 0)), (1, .int (nI f))]) hx hb dX4_isAnyOtherCross_3 rfl hl (by decide) rfl (fun ls hl => ?_)
  refine w_loop (pc := 4) (st := fun (i : Nat) => []) (μ := fun (i : Nat) => n - i) (I := fun (i : Nat) ls => (i ≤ n) ∧ lv_has ls 4 [(0, .ref (A 0)), (1, .int (nI f)), (2, .int (b2i (anyF (crossP sS f) i))), (3, .int (nI i))]) ?_ (0) ⟨Nat.zero_le _, lv_sub hl [2, 3, 1, 0] rfl⟩
  rintro i ls ⟨hi, hl⟩ ih4
  try dsimp only at ih4 ⊢
  refine lv_iload_n hx hb dX4_isAnyOtherCross_4 rfl (lv_at hl 3 rfl) ?_
  refine lv_aload_n hx hb dX4_isAnyOtherCross_5 rfl (lv_at hl 0 rfl) ?_
  refine va_get (ci := 4) (v := .ref (A 1)) hx hb hts wx_X4 hown hK hP 0 rfl rfl 0 (by decide) (hts _ wf_X4_7) (fun _ h9 => h9) rfl dX4_isAnyOtherCross_6 ?_
  refine lv_iconst (v := 1) hx hb dX4_isAnyOtherCross_9 rfl ?_
  refine ia_ld hx hb hK hP 1 0 rfl rfl 1 (rfl) (by omega) (by decide) dX4_isAnyOtherCross_10 ?_
  refine w_i (z := nI n) (hI.2.1) ?_
  refine lv_icmp_ge (tgt := 50) hx hb dX4_isAnyOtherCross_11 rfl (fun c11 => ?_) (fun c11 => ?_)
  · replace c11 := nq_le (a := n) (b := i) (by omega) (by omega) c11
    refine lv_iload_n hx hb dX4_isAnyOtherCross_50 rfl (lv_at hl 2 rfl) ?_
    exact ro_zret hx hb hr hlk (by rw [show i = n by omega]) dX4_isAnyOtherCross_51
  · replace c11 := nq_nle (a := n) (b := i) (by omega) (by omega) c11
    refine lv_iload_n hx hb dX4_isAnyOtherCross_14 rfl (lv_at hl 2 rfl) ?_
    refine lv_iload_n hx hb dX4_isAnyOtherCross_15 rfl (lv_at hl 3 rfl) ?_
    refine lv_iload_n hx hb dX4_isAnyOtherCross_16 rfl (lv_at hl 1 rfl) ?_
    refine lv_icmp_eq (tgt := 41) hx hb dX4_isAnyOtherCross_17 rfl (fun c17 => ?_) (fun c17 => ?_)
    · replace c17 := nq_eq (a := i) (b := f) (by omega) (by omega) c17
      refine lv_iconst (v := 0) hx hb dX4_isAnyOtherCross_41 rfl ?_
      refine lv_ior hx hb dX4_isAnyOtherCross_42 ?_
      refine w_i (z := b2i (anyF (crossP sS f) (i + 1))) (anyF_o (b := false) (by simp [crossP, c11, c17])) ?_
      refine lv_istore_n (lv' := [(2, .int (b2i (anyF (crossP sS f) (i + 1)))), (0, .ref (A 0)), (1, .int (nI f)), (3, .int (nI i))]) hx hb dX4_isAnyOtherCross_43 rfl hl (by decide) rfl (fun ls hl => ?_)
      refine lv_iinc (v := nI (i + 1)) (lv' := [(3, .int (nI (i + 1))), (2, .int (b2i (anyF (crossP sS f) (i + 1)))), (0, .ref (A 0)), (1, .int (nI f))]) hx hb dX4_isAnyOtherCross_44 hl (k := 3) rfl (nI_inc _) (by decide) rfl (fun ls hl => ?_)
      refine lv_goto (tgt := 4) hx hb dX4_isAnyOtherCross_47 rfl ?_
      exact ih4 (i + 1) ls (by first | omega | (dsimp only; omega)) ⟨(by omega), lv_sub hl [2, 3, 1, 0] rfl⟩
    · replace c17 := nq_ne (a := i) (b := f) (by omega) (by omega) c17
      refine lv_aload_n hx hb dX4_isAnyOtherCross_20 rfl (lv_at hl 0 rfl) ?_
      refine lv_iload_n hx hb dX4_isAnyOtherCross_21 rfl (lv_at hl 1 rfl) ?_
      refine lv_iload_n hx hb dX4_isAnyOtherCross_22 rfl (lv_at hl 3 rfl) ?_
      refine ro_V (w := (MW cI cJ A sS kS oS aS tS ik cA tp td fm tt vl wr bO sO nU mV)) (rest := [.int (b2i (anyF (crossP sS f) i))]) S hK hP (k_X4_isBeside f i (by omega) (by omega)) gv_X4_71 hd_X4_isBeside ⟨Nat.le_of_ble_eq_true rfl, Nat.le_of_ble_eq_true rfl⟩ 4 rfl rfl rfl rfl hl.1 (lv_room (Nat.le_of_ble_eq_true rfl)) dX4_isAnyOtherCross_23 ⟨Nat.zero_le _, Nat.zero_le _⟩ ?_
      refine lv_if_eq (tgt := 41) hx hb dX4_isAnyOtherCross_26 rfl (fun c26 => ?_) (fun c26 => ?_)
      · replace c26 := (b2i_0 _).mp c26
        refine lv_iconst (v := 0) hx hb dX4_isAnyOtherCross_41 rfl ?_
        refine lv_ior hx hb dX4_isAnyOtherCross_42 ?_
        refine w_i (z := b2i (anyF (crossP sS f) (i + 1))) (anyF_o (b := false) (by simp [crossP, c11, c17, c26])) ?_
        refine lv_istore_n (lv' := [(2, .int (b2i (anyF (crossP sS f) (i + 1)))), (0, .ref (A 0)), (1, .int (nI f)), (3, .int (nI i))]) hx hb dX4_isAnyOtherCross_43 rfl hl (by decide) rfl (fun ls hl => ?_)
        refine lv_iinc (v := nI (i + 1)) (lv' := [(3, .int (nI (i + 1))), (2, .int (b2i (anyF (crossP sS f) (i + 1)))), (0, .ref (A 0)), (1, .int (nI f))]) hx hb dX4_isAnyOtherCross_44 hl (k := 3) rfl (nI_inc _) (by decide) rfl (fun ls hl => ?_)
        refine lv_goto (tgt := 4) hx hb dX4_isAnyOtherCross_47 rfl ?_
        exact ih4 (i + 1) ls (by first | omega | (dsimp only; omega)) ⟨(by omega), lv_sub hl [2, 3, 1, 0] rfl⟩
      · replace c26 := b2i_n0 c26
        refine lv_aload_n hx hb dX4_isAnyOtherCross_29 rfl (lv_at hl 0 rfl) ?_
        refine lv_iload_n hx hb dX4_isAnyOtherCross_30 rfl (lv_at hl 3 rfl) ?_
        refine ro_V (w := (MW cI cJ A sS kS oS aS tS ik cA tp td fm tt vl wr bO sO nU mV)) (rest := [.int (b2i (anyF (crossP sS f) i))]) S hK hP (k_X4_isContent n i hI (by omega)) gv_X4_82 hd_X4_isContent ⟨Nat.le_of_ble_eq_true rfl, Nat.le_of_ble_eq_true rfl⟩ 4 rfl rfl rfl rfl hl.1 (lv_room (Nat.le_of_ble_eq_true rfl)) dX4_isAnyOtherCross_31 ⟨Nat.zero_le _, Nat.zero_le _⟩ ?_
        refine lv_if_ne (tgt := 41) hx hb dX4_isAnyOtherCross_34 rfl (fun c34 => ?_) (fun c34 => ?_)
        · replace c34 := b2i_n0 c34
          refine lv_iconst (v := 0) hx hb dX4_isAnyOtherCross_41 rfl ?_
          refine lv_ior hx hb dX4_isAnyOtherCross_42 ?_
          refine w_i (z := b2i (anyF (crossP sS f) (i + 1))) (anyF_o (b := false) (by simp [crossP, c11, c17, c26, c34])) ?_
          refine lv_istore_n (lv' := [(2, .int (b2i (anyF (crossP sS f) (i + 1)))), (0, .ref (A 0)), (1, .int (nI f)), (3, .int (nI i))]) hx hb dX4_isAnyOtherCross_43 rfl hl (by decide) rfl (fun ls hl => ?_)
          refine lv_iinc (v := nI (i + 1)) (lv' := [(3, .int (nI (i + 1))), (2, .int (b2i (anyF (crossP sS f) (i + 1)))), (0, .ref (A 0)), (1, .int (nI f))]) hx hb dX4_isAnyOtherCross_44 hl (k := 3) rfl (nI_inc _) (by decide) rfl (fun ls hl => ?_)
          refine lv_goto (tgt := 4) hx hb dX4_isAnyOtherCross_47 rfl ?_
          exact ih4 (i + 1) ls (by first | omega | (dsimp only; omega)) ⟨(by omega), lv_sub hl [2, 3, 1, 0] rfl⟩
        · replace c34 := (b2i_0 _).mp c34
          refine lv_iconst (v := 1) hx hb dX4_isAnyOtherCross_37 rfl ?_
          refine lv_goto (tgt := 42) hx hb dX4_isAnyOtherCross_38 rfl ?_
          refine lv_ior hx hb dX4_isAnyOtherCross_42 ?_
          refine w_i (z := b2i (anyF (crossP sS f) (i + 1))) (anyF_o (b := true) (by simp [crossP, c11, c17, c26, c34])) ?_
          refine lv_istore_n (lv' := [(2, .int (b2i (anyF (crossP sS f) (i + 1)))), (0, .ref (A 0)), (1, .int (nI f)), (3, .int (nI i))]) hx hb dX4_isAnyOtherCross_43 rfl hl (by decide) rfl (fun ls hl => ?_)
          refine lv_iinc (v := nI (i + 1)) (lv' := [(3, .int (nI (i + 1))), (2, .int (b2i (anyF (crossP sS f) (i + 1)))), (0, .ref (A 0)), (1, .int (nI f))]) hx hb dX4_isAnyOtherCross_44 hl (k := 3) rfl (nI_inc _) (by decide) rfl (fun ls hl => ?_)
          refine lv_goto (tgt := 4) hx hb dX4_isAnyOtherCross_47 rfl ?_
          exact ih4 (i + 1) ls (by first | omega | (dsimp only; omega)) ⟨(by omega), lv_sub hl [2, 3, 1, 0] rfl⟩

set_option maxHeartbeats 4000000 in
set_option maxRecDepth 100000 in
theorem k_X4_rubsOf (n : Nat) (f : Nat) (hI : Inv sS n) (hf : f < n) : RO l D (tyA cI cJ cO) yX4_rubsOf cX4_rubsOf 4 ((some .int)) 4 88 [.ref (A 0), .int (nI f)] (MW cI cJ A sS kS oS aS tS ik cA tp td fm tt vl wr bO sO nU mV) (.int (rubs sS n f)) := by
  refine RO.mk (by decide) (Nat.le_of_ble_eq_true rfl) ?_
  intro p e s m below meth c ls S hr hlk hP hK hl
  have S : CallFix p m c cX4_rubsOf 4 s _ WL RX4 := S
  obtain ⟨hx, hb, hml, hown, hts⟩ := id S
  have hl : lv_has ls 4 [(0, .ref (A 0)), (1, .int (nI f))] := hl
  have h8 : n ≤ 8 := hI.1
  refine lv_aload_n hx hb dX4_rubsOf_0 rfl (lv_at hl 0 rfl) ?_
  refine ro_V (w := (MW cI cJ A sS kS oS aS tS ik cA tp td fm tt vl wr bO sO nU mV)) (rest := []) S hK hP (k_X4_isTacky ) gv_X4_85 hd_X4_isTacky ⟨Nat.le_of_ble_eq_true rfl, Nat.le_of_ble_eq_true rfl⟩ 4 rfl rfl rfl rfl hl.1 (lv_room (Nat.le_of_ble_eq_true rfl)) dX4_rubsOf_1 ⟨Nat.zero_le _, Nat.zero_le _⟩ ?_
  refine lv_if_eq (tgt := 11) hx hb dX4_rubsOf_4 rfl (fun c4 => ?_) (fun c4 => ?_)
  · replace c4 := (b2i_0 _).mp c4
    refine lv_iconst (v := 4) hx hb dX4_rubsOf_11 rfl ?_
    refine lv_istore_n (lv' := [(2, .int 4), (0, .ref (A 0)), (1, .int (nI f))]) hx hb dX4_rubsOf_12 rfl hl (by decide) rfl (fun ls hl => ?_)
    refine lv_iload_n hx hb dX4_rubsOf_13 rfl (lv_at hl 0 rfl) ?_
    refine lv_aload_n hx hb dX4_rubsOf_14 rfl (lv_at hl 1 rfl) ?_
    refine lv_iload_n hx hb dX4_rubsOf_15 rfl (lv_at hl 2 rfl) ?_
    refine lv_iconst (v := 3) hx hb dX4_rubsOf_16 rfl ?_
    refine ro_V (w := (MW cI cJ A sS kS oS aS tS ik cA tp td fm tt vl wr bO sO nU mV)) (rest := [.int 4]) S hK hP (k_X4_its f 3 (by omega) (by omega)) gv_X4_55 hd_X4_its ⟨Nat.le_of_ble_eq_true rfl, Nat.le_of_ble_eq_true rfl⟩ 4 rfl rfl rfl rfl hl.1 (lv_room (Nat.le_of_ble_eq_true rfl)) dX4_rubsOf_17 ⟨Nat.zero_le _, Nat.zero_le _⟩ ?_
    refine lv_bipush (v := 20) hx hb dX4_rubsOf_20 rfl ?_
    refine lv_idiv hx hb dX4_rubsOf_22 (by decide) ?_
    refine lv_iadd hx hb dX4_rubsOf_23 ?_
    refine lv_istore_n (lv' := [(3, .int (4 + ((its sS f 3) / 20))), (2, .int 4), (0, .ref (A 0)), (1, .int (nI f))]) hx hb dX4_rubsOf_24 rfl hl (by decide) rfl (fun ls hl => ?_)
    refine lv_aload_n hx hb dX4_rubsOf_25 rfl (lv_at hl 2 rfl) ?_
    refine lv_iload_n hx hb dX4_rubsOf_26 rfl (lv_at hl 3 rfl) ?_
    refine lv_iconst (v := 0) hx hb dX4_rubsOf_27 rfl ?_
    refine ro_V (w := (MW cI cJ A sS kS oS aS tS ik cA tp td fm tt vl wr bO sO nU mV)) (rest := []) S hK hP (k_X4_its f 0 (by omega) (by omega)) gv_X4_55 hd_X4_its ⟨Nat.le_of_ble_eq_true rfl, Nat.le_of_ble_eq_true rfl⟩ 4 rfl rfl rfl rfl hl.1 (lv_room (Nat.le_of_ble_eq_true rfl)) dX4_rubsOf_28 ⟨Nat.zero_le _, Nat.zero_le _⟩ ?_
    by_cases c31_1 : (its sS f 0) = 1
    · refine lv_tableIn (tgt := 64) hx hb dX4_rubsOf_31 (by rw [c31_1]; decide) (by rw [c31_1]; decide) (by rw [c31_1]; rfl) rfl ?_
      refine lv_iload_n hx hb dX4_rubsOf_64 rfl (lv_at hl 0 rfl) ?_
      exact ro_iret hx hb hr hlk (by first | (simp [rubs, plainR, mayorR, c4, c31_1, i_lt, -Int32.not_le, -Int32.not_lt]; done) | (simp_all; done) | (simp_all [rubs, plainR, mayorR]; done)) dX4_rubsOf_65
    by_cases c31_2 : (its sS f 0) = 2
    · refine lv_tableIn (tgt := 91) hx hb dX4_rubsOf_31 (by rw [c31_2]; decide) (by rw [c31_2]; decide) (by rw [c31_2]; rfl) rfl ?_
      refine lv_iload_n hx hb dX4_rubsOf_91 rfl (lv_at hl 1 rfl) ?_
      exact ro_iret hx hb hr hlk (by first | (simp [rubs, plainR, mayorR, c4, c31_1, c31_2, i_lt, -Int32.not_le, -Int32.not_lt]; done) | (simp_all; done) | (simp_all [rubs, plainR, mayorR]; done)) dX4_rubsOf_92
    by_cases c31_3 : (its sS f 0) = 3
    · refine lv_tableIn (tgt := 66) hx hb dX4_rubsOf_31 (by rw [c31_3]; decide) (by rw [c31_3]; decide) (by rw [c31_3]; rfl) rfl ?_
      refine lv_iconst (v := 0) hx hb dX4_rubsOf_66 rfl ?_
      exact ro_iret hx hb hr hlk (by first | (simp [rubs, plainR, mayorR, c4, c31_1, c31_2, c31_3, i_lt, -Int32.not_le, -Int32.not_lt]; done) | (simp_all; done) | (simp_all [rubs, plainR, mayorR]; done)) dX4_rubsOf_67
    by_cases c31_4 : (its sS f 0) = 4
    · refine lv_tableIn (tgt := 68) hx hb dX4_rubsOf_31 (by rw [c31_4]; decide) (by rw [c31_4]; decide) (by rw [c31_4]; rfl) rfl ?_
      refine lv_aload_n hx hb dX4_rubsOf_68 rfl (lv_at hl 2 rfl) ?_
      refine ro_V (w := (MW cI cJ A sS kS oS aS tS ik cA tp td fm tt vl wr bO sO nU mV)) (rest := []) S hK hP (k_X4_isTacky ) gv_X4_85 hd_X4_isTacky ⟨Nat.le_of_ble_eq_true rfl, Nat.le_of_ble_eq_true rfl⟩ 4 rfl rfl rfl rfl hl.1 (lv_room (Nat.le_of_ble_eq_true rfl)) dX4_rubsOf_69 ⟨Nat.zero_le _, Nat.zero_le _⟩ ?_
      refine lv_if_eq (tgt := 79) hx hb dX4_rubsOf_72 rfl (fun c72 => ?_) (fun c72 => ?_)
      · replace c72 := (b2i_0 _).mp c72
        refine lv_iconst (v := 2) hx hb dX4_rubsOf_79 rfl ?_
        refine lv_iload_n hx hb dX4_rubsOf_80 rfl (lv_at hl 0 rfl) ?_
        refine lv_imul hx hb dX4_rubsOf_81 ?_
        exact ro_iret hx hb hr hlk (by first | (simp [rubs, plainR, mayorR, c4, c31_1, c31_2, c31_3, c31_4, c72, i_lt, -Int32.not_le, -Int32.not_lt]; done) | (simp_all; done) | (simp_all [rubs, plainR, mayorR]; done)) dX4_rubsOf_82
      · replace c72 := b2i_n0 c72
        refine lv_iload_n hx hb dX4_rubsOf_75 rfl (lv_at hl 0 rfl) ?_
        refine lv_goto (tgt := 82) hx hb dX4_rubsOf_76 rfl ?_
        exact ro_iret hx hb hr hlk (by first | (simp [rubs, plainR, mayorR, c4, c31_1, c31_2, c31_3, c31_4, c72, i_lt, -Int32.not_le, -Int32.not_lt]; done) | (simp_all; done) | (simp_all [rubs, plainR, mayorR]; done)) dX4_rubsOf_82
    by_cases c31_5 : (its sS f 0) = 5
    · refine lv_tableIn (tgt := 83) hx hb dX4_rubsOf_31 (by rw [c31_5]; decide) (by rw [c31_5]; decide) (by rw [c31_5]; rfl) rfl ?_
      refine lv_iload_n hx hb dX4_rubsOf_83 rfl (lv_at hl 1 rfl) ?_
      refine lv_aload_n hx hb dX4_rubsOf_84 rfl (lv_at hl 2 rfl) ?_
      refine lv_iload_n hx hb dX4_rubsOf_85 rfl (lv_at hl 3 rfl) ?_
      refine ro_V (w := (MW cI cJ A sS kS oS aS tS ik cA tp td fm tt vl wr bO sO nU mV)) (rest := [.int 4]) S hK hP (k_X4_beside n f hI (by omega)) gv_X4_89 hd_X4_beside ⟨Nat.le_of_ble_eq_true rfl, Nat.le_of_ble_eq_true rfl⟩ 4 rfl rfl rfl rfl hl.1 (lv_room (Nat.le_of_ble_eq_true rfl)) dX4_rubsOf_86 ⟨Nat.zero_le _, Nat.zero_le _⟩ ?_
      refine lv_iadd hx hb dX4_rubsOf_89 ?_
      exact ro_iret hx hb hr hlk (by first | (simp [rubs, plainR, mayorR, c4, c31_1, c31_2, c31_3, c31_4, c31_5, i_lt, -Int32.not_le, -Int32.not_lt]; done) | (simp_all; done) | (simp_all [rubs, plainR, mayorR]; done)) dX4_rubsOf_90
    refine lv_tableOut (tgt := 91) hx hb dX4_rubsOf_31 (by have q0 := lv_neT c31_1 (a := 1) rfl; have q1 := lv_neT c31_2 (a := 2) rfl; have q2 := lv_neT c31_3 (a := 3) rfl; have q3 := lv_neT c31_4 (a := 4) rfl; have q4 := lv_neT c31_5 (a := 5) rfl; omega) rfl ?_
    refine lv_iload_n hx hb dX4_rubsOf_91 rfl (lv_at hl 1 rfl) ?_
    exact ro_iret hx hb hr hlk (by first | (simp [rubs, plainR, mayorR, c4, c31_1, c31_2, c31_3, c31_4, c31_5, i_lt, -Int32.not_le, -Int32.not_lt]; done) | (simp_all; done) | (simp_all [rubs, plainR, mayorR]; done)) dX4_rubsOf_92
  · replace c4 := b2i_n0 c4
    refine lv_iconst (v := 2) hx hb dX4_rubsOf_7 rfl ?_
    refine lv_goto (tgt := 12) hx hb dX4_rubsOf_8 rfl ?_
    refine lv_istore_n (lv' := [(2, .int 2), (0, .ref (A 0)), (1, .int (nI f))]) hx hb dX4_rubsOf_12 rfl hl (by decide) rfl (fun ls hl => ?_)
    refine lv_iload_n hx hb dX4_rubsOf_13 rfl (lv_at hl 0 rfl) ?_
    refine lv_aload_n hx hb dX4_rubsOf_14 rfl (lv_at hl 1 rfl) ?_
    refine lv_iload_n hx hb dX4_rubsOf_15 rfl (lv_at hl 2 rfl) ?_
    refine lv_iconst (v := 3) hx hb dX4_rubsOf_16 rfl ?_
    refine ro_V (w := (MW cI cJ A sS kS oS aS tS ik cA tp td fm tt vl wr bO sO nU mV)) (rest := [.int 2]) S hK hP (k_X4_its f 3 (by omega) (by omega)) gv_X4_55 hd_X4_its ⟨Nat.le_of_ble_eq_true rfl, Nat.le_of_ble_eq_true rfl⟩ 4 rfl rfl rfl rfl hl.1 (lv_room (Nat.le_of_ble_eq_true rfl)) dX4_rubsOf_17 ⟨Nat.zero_le _, Nat.zero_le _⟩ ?_
    refine lv_bipush (v := 20) hx hb dX4_rubsOf_20 rfl ?_
    refine lv_idiv hx hb dX4_rubsOf_22 (by decide) ?_
    refine lv_iadd hx hb dX4_rubsOf_23 ?_
    refine lv_istore_n (lv' := [(3, .int (2 + ((its sS f 3) / 20))), (2, .int 2), (0, .ref (A 0)), (1, .int (nI f))]) hx hb dX4_rubsOf_24 rfl hl (by decide) rfl (fun ls hl => ?_)
    refine lv_aload_n hx hb dX4_rubsOf_25 rfl (lv_at hl 2 rfl) ?_
    refine lv_iload_n hx hb dX4_rubsOf_26 rfl (lv_at hl 3 rfl) ?_
    refine lv_iconst (v := 0) hx hb dX4_rubsOf_27 rfl ?_
    refine ro_V (w := (MW cI cJ A sS kS oS aS tS ik cA tp td fm tt vl wr bO sO nU mV)) (rest := []) S hK hP (k_X4_its f 0 (by omega) (by omega)) gv_X4_55 hd_X4_its ⟨Nat.le_of_ble_eq_true rfl, Nat.le_of_ble_eq_true rfl⟩ 4 rfl rfl rfl rfl hl.1 (lv_room (Nat.le_of_ble_eq_true rfl)) dX4_rubsOf_28 ⟨Nat.zero_le _, Nat.zero_le _⟩ ?_
    by_cases c31_1 : (its sS f 0) = 1
    · refine lv_tableIn (tgt := 64) hx hb dX4_rubsOf_31 (by rw [c31_1]; decide) (by rw [c31_1]; decide) (by rw [c31_1]; rfl) rfl ?_
      refine lv_iload_n hx hb dX4_rubsOf_64 rfl (lv_at hl 0 rfl) ?_
      exact ro_iret hx hb hr hlk (by first | (simp [rubs, plainR, mayorR, c4, c31_1, i_lt, -Int32.not_le, -Int32.not_lt]; done) | (simp_all; done) | (simp_all [rubs, plainR, mayorR]; done)) dX4_rubsOf_65
    by_cases c31_2 : (its sS f 0) = 2
    · refine lv_tableIn (tgt := 91) hx hb dX4_rubsOf_31 (by rw [c31_2]; decide) (by rw [c31_2]; decide) (by rw [c31_2]; rfl) rfl ?_
      refine lv_iload_n hx hb dX4_rubsOf_91 rfl (lv_at hl 1 rfl) ?_
      exact ro_iret hx hb hr hlk (by first | (simp [rubs, plainR, mayorR, c4, c31_1, c31_2, i_lt, -Int32.not_le, -Int32.not_lt]; done) | (simp_all; done) | (simp_all [rubs, plainR, mayorR]; done)) dX4_rubsOf_92
    by_cases c31_3 : (its sS f 0) = 3
    · refine lv_tableIn (tgt := 66) hx hb dX4_rubsOf_31 (by rw [c31_3]; decide) (by rw [c31_3]; decide) (by rw [c31_3]; rfl) rfl ?_
      refine lv_iconst (v := 0) hx hb dX4_rubsOf_66 rfl ?_
      exact ro_iret hx hb hr hlk (by first | (simp [rubs, plainR, mayorR, c4, c31_1, c31_2, c31_3, i_lt, -Int32.not_le, -Int32.not_lt]; done) | (simp_all; done) | (simp_all [rubs, plainR, mayorR]; done)) dX4_rubsOf_67
    by_cases c31_4 : (its sS f 0) = 4
    · refine lv_tableIn (tgt := 68) hx hb dX4_rubsOf_31 (by rw [c31_4]; decide) (by rw [c31_4]; decide) (by rw [c31_4]; rfl) rfl ?_
      refine lv_aload_n hx hb dX4_rubsOf_68 rfl (lv_at hl 2 rfl) ?_
      refine ro_V (w := (MW cI cJ A sS kS oS aS tS ik cA tp td fm tt vl wr bO sO nU mV)) (rest := []) S hK hP (k_X4_isTacky ) gv_X4_85 hd_X4_isTacky ⟨Nat.le_of_ble_eq_true rfl, Nat.le_of_ble_eq_true rfl⟩ 4 rfl rfl rfl rfl hl.1 (lv_room (Nat.le_of_ble_eq_true rfl)) dX4_rubsOf_69 ⟨Nat.zero_le _, Nat.zero_le _⟩ ?_
      refine lv_if_eq (tgt := 79) hx hb dX4_rubsOf_72 rfl (fun c72 => ?_) (fun c72 => ?_)
      · replace c72 := (b2i_0 _).mp c72
        refine lv_iconst (v := 2) hx hb dX4_rubsOf_79 rfl ?_
        refine lv_iload_n hx hb dX4_rubsOf_80 rfl (lv_at hl 0 rfl) ?_
        refine lv_imul hx hb dX4_rubsOf_81 ?_
        exact ro_iret hx hb hr hlk (by first | (simp [rubs, plainR, mayorR, c4, c31_1, c31_2, c31_3, c31_4, c72, i_lt, -Int32.not_le, -Int32.not_lt]; done) | (simp_all; done) | (simp_all [rubs, plainR, mayorR]; done)) dX4_rubsOf_82
      · replace c72 := b2i_n0 c72
        refine lv_iload_n hx hb dX4_rubsOf_75 rfl (lv_at hl 0 rfl) ?_
        refine lv_goto (tgt := 82) hx hb dX4_rubsOf_76 rfl ?_
        exact ro_iret hx hb hr hlk (by first | (simp [rubs, plainR, mayorR, c4, c31_1, c31_2, c31_3, c31_4, c72, i_lt, -Int32.not_le, -Int32.not_lt]; done) | (simp_all; done) | (simp_all [rubs, plainR, mayorR]; done)) dX4_rubsOf_82
    by_cases c31_5 : (its sS f 0) = 5
    · refine lv_tableIn (tgt := 83) hx hb dX4_rubsOf_31 (by rw [c31_5]; decide) (by rw [c31_5]; decide) (by rw [c31_5]; rfl) rfl ?_
      refine lv_iload_n hx hb dX4_rubsOf_83 rfl (lv_at hl 1 rfl) ?_
      refine lv_aload_n hx hb dX4_rubsOf_84 rfl (lv_at hl 2 rfl) ?_
      refine lv_iload_n hx hb dX4_rubsOf_85 rfl (lv_at hl 3 rfl) ?_
      refine ro_V (w := (MW cI cJ A sS kS oS aS tS ik cA tp td fm tt vl wr bO sO nU mV)) (rest := [.int 2]) S hK hP (k_X4_beside n f hI (by omega)) gv_X4_89 hd_X4_beside ⟨Nat.le_of_ble_eq_true rfl, Nat.le_of_ble_eq_true rfl⟩ 4 rfl rfl rfl rfl hl.1 (lv_room (Nat.le_of_ble_eq_true rfl)) dX4_rubsOf_86 ⟨Nat.zero_le _, Nat.zero_le _⟩ ?_
      refine lv_iadd hx hb dX4_rubsOf_89 ?_
      exact ro_iret hx hb hr hlk (by first | (simp [rubs, plainR, mayorR, c4, c31_1, c31_2, c31_3, c31_4, c31_5, i_lt, -Int32.not_le, -Int32.not_lt]; done) | (simp_all; done) | (simp_all [rubs, plainR, mayorR]; done)) dX4_rubsOf_90
    refine lv_tableOut (tgt := 91) hx hb dX4_rubsOf_31 (by have q0 := lv_neT c31_1 (a := 1) rfl; have q1 := lv_neT c31_2 (a := 2) rfl; have q2 := lv_neT c31_3 (a := 3) rfl; have q3 := lv_neT c31_4 (a := 4) rfl; have q4 := lv_neT c31_5 (a := 5) rfl; omega) rfl ?_
    refine lv_iload_n hx hb dX4_rubsOf_91 rfl (lv_at hl 1 rfl) ?_
    exact ro_iret hx hb hr hlk (by first | (simp [rubs, plainR, mayorR, c4, c31_1, c31_2, c31_3, c31_4, c31_5, i_lt, -Int32.not_le, -Int32.not_lt]; done) | (simp_all; done) | (simp_all [rubs, plainR, mayorR]; done)) dX4_rubsOf_92

set_option maxHeartbeats 4000000 in
set_option maxRecDepth 100000 in
theorem k_X4_isWaiting (n : Nat) (f : Nat) (hI : Inv sS n) (hf : f < n) : RO l D (tyA cI cJ cO) yX4_isWaiting cX4_isWaiting 4 ((some .boolean)) 6 131 [.ref (A 0), .int (nI f)] (MW cI cJ A sS kS oS aS tS ik cA tp td fm tt vl wr bO sO nU mV) (.int (b2i (waits sS n f))) := by
  refine RO.mk (by decide) (Nat.le_of_ble_eq_true rfl) ?_
  intro p e s m below meth c ls S hr hlk hP hK hl
  have S : CallFix p m c cX4_isWaiting 4 s _ WL RX4 := S
  obtain ⟨hx, hb, hml, hown, hts⟩ := id S
  have hl : lv_has ls 4 [(0, .ref (A 0)), (1, .int (nI f))] := hl
  have h8 : n ≤ 8 := hI.1
  refine lv_aload_n hx hb dX4_isWaiting_0 rfl (lv_at hl 0 rfl) ?_
  refine lv_iload_n hx hb dX4_isWaiting_1 rfl (lv_at hl 1 rfl) ?_
  refine ro_V (w := (MW cI cJ A sS kS oS aS tS ik cA tp td fm tt vl wr bO sO nU mV)) (rest := []) S hK hP (k_X4_lampsOn n f hI (by omega)) gv_X4_92 hd_X4_lampsOn ⟨Nat.le_of_ble_eq_true rfl, Nat.le_of_ble_eq_true rfl⟩ 4 rfl rfl rfl rfl hl.1 (lv_room (Nat.le_of_ble_eq_true rfl)) dX4_isWaiting_2 ⟨Nat.zero_le _, Nat.zero_le _⟩ ?_
  refine lv_iconst (v := 1) hx hb dX4_isWaiting_5 rfl ?_
  refine lv_iload_n hx hb dX4_isWaiting_6 rfl (lv_at hl 1 rfl) ?_
  refine lv_ishl hx hb dX4_isWaiting_7 ?_
  refine lv_iconst (v := (-1)) hx hb dX4_isWaiting_8 rfl ?_
  refine lv_ixor hx hb dX4_isWaiting_9 ?_
  refine lv_iand hx hb dX4_isWaiting_10 ?_
  refine lv_if_eq (tgt := 18) hx hb dX4_isWaiting_11 rfl (fun c11 => ?_) (fun c11 => ?_)
  · replace c11 : seenO sS n f = false := decide_eq_false (fun h9 => h9 c11)
    refine lv_iconst (v := 0) hx hb dX4_isWaiting_18 rfl ?_
    refine lv_istore_n (lv' := [(2, .int 0), (0, .ref (A 0)), (1, .int (nI f))]) hx hb dX4_isWaiting_19 rfl hl (by decide) rfl (fun ls hl => ?_)
    refine lv_aload_n hx hb dX4_isWaiting_20 rfl (lv_at hl 1 rfl) ?_
    refine ro_V (w := (MW cI cJ A sS kS oS aS tS ik cA tp td fm tt vl wr bO sO nU mV)) (rest := []) S hK hP (k_X4_ofNight ) gv_X4_67 hd_X4_ofNight ⟨Nat.le_of_ble_eq_true rfl, Nat.le_of_ble_eq_true rfl⟩ 4 rfl rfl rfl rfl hl.1 (lv_room (Nat.le_of_ble_eq_true rfl)) dX4_isWaiting_21 ⟨Nat.zero_le _, Nat.zero_le _⟩ ?_
    refine lv_if_ne (tgt := 31) hx hb dX4_isWaiting_24 rfl (fun c24 => ?_) (fun c24 => ?_)
    · refine lv_iconst (v := 0) hx hb dX4_isWaiting_31 rfl ?_
      refine lv_istore_n (lv' := [(3, .int 0), (2, .int 0), (0, .ref (A 0)), (1, .int (nI f))]) hx hb dX4_isWaiting_32 rfl hl (by decide) rfl (fun ls hl => ?_)
      refine lv_aload_n hx hb dX4_isWaiting_33 rfl (lv_at hl 2 rfl) ?_
      refine lv_iload_n hx hb dX4_isWaiting_34 rfl (lv_at hl 3 rfl) ?_
      refine lv_iconst (v := 0) hx hb dX4_isWaiting_35 rfl ?_
      refine ro_V (w := (MW cI cJ A sS kS oS aS tS ik cA tp td fm tt vl wr bO sO nU mV)) (rest := []) S hK hP (k_X4_its f 0 (by omega) (by omega)) gv_X4_55 hd_X4_its ⟨Nat.le_of_ble_eq_true rfl, Nat.le_of_ble_eq_true rfl⟩ 4 rfl rfl rfl rfl hl.1 (lv_room (Nat.le_of_ble_eq_true rfl)) dX4_isWaiting_36 ⟨Nat.zero_le _, Nat.zero_le _⟩ ?_
      by_cases c39_1 : (its sS f 0) = 1
      · refine lv_tableIn (tgt := 72) hx hb dX4_isWaiting_39 (by rw [c39_1]; decide) (by rw [c39_1]; decide) (by rw [c39_1]; rfl) rfl ?_
        refine lv_iload_n hx hb dX4_isWaiting_72 rfl (lv_at hl 1 rfl) ?_
        exact ro_zret hx hb hr hlk (by first | (simp [waits, m2, b2i, c11, c24, c39_1, i_lt, -Int32.not_le, -Int32.not_lt]; done) | (simp_all; done) | (simp_all [waits, m2, b2i]; done)) dX4_isWaiting_73
      by_cases c39_2 : (its sS f 0) = 2
      · refine lv_tableIn (tgt := 74) hx hb dX4_isWaiting_39 (by rw [c39_2]; decide) (by rw [c39_2]; decide) (by rw [c39_2]; rfl) rfl ?_
        refine lv_iload_n hx hb dX4_isWaiting_74 rfl (lv_at hl 0 rfl) ?_
        exact ro_zret hx hb hr hlk (by first | (simp [waits, m2, b2i, c11, c24, c39_1, c39_2, i_lt, -Int32.not_le, -Int32.not_lt]; done) | (simp_all; done) | (simp_all [waits, m2, b2i]; done)) dX4_isWaiting_75
      by_cases c39_3 : (its sS f 0) = 3
      · refine lv_tableIn (tgt := 76) hx hb dX4_isWaiting_39 (by rw [c39_3]; decide) (by rw [c39_3]; decide) (by rw [c39_3]; rfl) rfl ?_
        refine lv_iconst (v := 1) hx hb dX4_isWaiting_76 rfl ?_
        exact ro_zret hx hb hr hlk (by first | (simp [waits, m2, b2i, c11, c24, c39_1, c39_2, c39_3, i_lt, -Int32.not_le, -Int32.not_lt]; done) | (simp_all; done) | (simp_all [waits, m2, b2i]; done)) dX4_isWaiting_77
      by_cases c39_4 : (its sS f 0) = 4
      · refine lv_tableIn (tgt := 78) hx hb dX4_isWaiting_39 (by rw [c39_4]; decide) (by rw [c39_4]; decide) (by rw [c39_4]; rfl) rfl ?_
        refine lv_iload_n hx hb dX4_isWaiting_78 rfl (lv_at hl 1 rfl) ?_
        refine lv_if_eq (tgt := 96) hx hb dX4_isWaiting_79 rfl (fun c79 => ?_) (fun c79 => ?_)
        · refine lv_iconst (v := 0) hx hb dX4_isWaiting_96 rfl ?_
          exact ro_zret hx hb hr hlk (by first | (simp [waits, m2, b2i, c11, c24, c39_1, c39_2, c39_3, c39_4, c79, i_lt, -Int32.not_le, -Int32.not_lt]; done) | (simp_all; done) | (simp_all [waits, m2, b2i]; done)) dX4_isWaiting_97
        · exact absurd c79 (by decide)
      by_cases c39_5 : (its sS f 0) = 5
      · refine lv_tableIn (tgt := 98) hx hb dX4_isWaiting_39 (by rw [c39_5]; decide) (by rw [c39_5]; decide) (by rw [c39_5]; rfl) rfl ?_
        refine lv_iload_n hx hb dX4_isWaiting_98 rfl (lv_at hl 0 rfl) ?_
        refine lv_if_ne (tgt := 110) hx hb dX4_isWaiting_99 rfl (fun c99 => ?_) (fun c99 => ?_)
        · exact absurd c99 (by decide)
        · refine lv_aload_n hx hb dX4_isWaiting_102 rfl (lv_at hl 2 rfl) ?_
          refine lv_iload_n hx hb dX4_isWaiting_103 rfl (lv_at hl 3 rfl) ?_
          refine ro_V (w := (MW cI cJ A sS kS oS aS tS ik cA tp td fm tt vl wr bO sO nU mV)) (rest := []) S hK hP (k_X4_isAnyOtherCross n f hI (by omega)) gv_X4_95 hd_X4_isAnyOtherCross ⟨Nat.le_of_ble_eq_true rfl, Nat.le_of_ble_eq_true rfl⟩ 4 rfl rfl rfl rfl hl.1 (lv_room (Nat.le_of_ble_eq_true rfl)) dX4_isWaiting_104 ⟨Nat.zero_le _, Nat.zero_le _⟩ ?_
          refine lv_if_eq (tgt := 114) hx hb dX4_isWaiting_107 rfl (fun c107 => ?_) (fun c107 => ?_)
          · replace c107 := (b2i_0 _).mp c107
            refine lv_iconst (v := 0) hx hb dX4_isWaiting_114 rfl ?_
            exact ro_zret hx hb hr hlk (by first | (simp [waits, m2, b2i, c11, c24, c39_1, c39_2, c39_3, c39_4, c39_5, c99, c107, i_lt, -Int32.not_le, -Int32.not_lt]; done) | (simp_all; done) | (simp_all [waits, m2, b2i]; done)) dX4_isWaiting_115
          · replace c107 := b2i_n0 c107
            refine lv_iconst (v := 1) hx hb dX4_isWaiting_110 rfl ?_
            refine lv_goto (tgt := 115) hx hb dX4_isWaiting_111 rfl ?_
            exact ro_zret hx hb hr hlk (by first | (simp [waits, m2, b2i, c11, c24, c39_1, c39_2, c39_3, c39_4, c39_5, c99, c107, i_lt, -Int32.not_le, -Int32.not_lt]; done) | (simp_all; done) | (simp_all [waits, m2, b2i]; done)) dX4_isWaiting_115
      refine lv_tableOut (tgt := 116) hx hb dX4_isWaiting_39 (by have q0 := lv_neT c39_1 (a := 1) rfl; have q1 := lv_neT c39_2 (a := 2) rfl; have q2 := lv_neT c39_3 (a := 3) rfl; have q3 := lv_neT c39_4 (a := 4) rfl; have q4 := lv_neT c39_5 (a := 5) rfl; omega) rfl ?_
      refine lv_iconst (v := 0) hx hb dX4_isWaiting_116 rfl ?_
      exact ro_zret hx hb hr hlk (by first | (simp [waits, m2, b2i, c11, c24, c39_1, c39_2, c39_3, c39_4, c39_5, i_lt, -Int32.not_le, -Int32.not_lt]; done) | (simp_all; done) | (simp_all [waits, m2, b2i]; done)) dX4_isWaiting_117
    · refine lv_iconst (v := 1) hx hb dX4_isWaiting_27 rfl ?_
      refine lv_goto (tgt := 32) hx hb dX4_isWaiting_28 rfl ?_
      refine lv_istore_n (lv' := [(3, .int 1), (2, .int 0), (0, .ref (A 0)), (1, .int (nI f))]) hx hb dX4_isWaiting_32 rfl hl (by decide) rfl (fun ls hl => ?_)
      refine lv_aload_n hx hb dX4_isWaiting_33 rfl (lv_at hl 2 rfl) ?_
      refine lv_iload_n hx hb dX4_isWaiting_34 rfl (lv_at hl 3 rfl) ?_
      refine lv_iconst (v := 0) hx hb dX4_isWaiting_35 rfl ?_
      refine ro_V (w := (MW cI cJ A sS kS oS aS tS ik cA tp td fm tt vl wr bO sO nU mV)) (rest := []) S hK hP (k_X4_its f 0 (by omega) (by omega)) gv_X4_55 hd_X4_its ⟨Nat.le_of_ble_eq_true rfl, Nat.le_of_ble_eq_true rfl⟩ 4 rfl rfl rfl rfl hl.1 (lv_room (Nat.le_of_ble_eq_true rfl)) dX4_isWaiting_36 ⟨Nat.zero_le _, Nat.zero_le _⟩ ?_
      by_cases c39_1 : (its sS f 0) = 1
      · refine lv_tableIn (tgt := 72) hx hb dX4_isWaiting_39 (by rw [c39_1]; decide) (by rw [c39_1]; decide) (by rw [c39_1]; rfl) rfl ?_
        refine lv_iload_n hx hb dX4_isWaiting_72 rfl (lv_at hl 1 rfl) ?_
        exact ro_zret hx hb hr hlk (by first | (simp [waits, m2, b2i, c11, c24, c39_1, i_lt, -Int32.not_le, -Int32.not_lt]; done) | (simp_all; done) | (simp_all [waits, m2, b2i]; done)) dX4_isWaiting_73
      by_cases c39_2 : (its sS f 0) = 2
      · refine lv_tableIn (tgt := 74) hx hb dX4_isWaiting_39 (by rw [c39_2]; decide) (by rw [c39_2]; decide) (by rw [c39_2]; rfl) rfl ?_
        refine lv_iload_n hx hb dX4_isWaiting_74 rfl (lv_at hl 0 rfl) ?_
        exact ro_zret hx hb hr hlk (by first | (simp [waits, m2, b2i, c11, c24, c39_1, c39_2, i_lt, -Int32.not_le, -Int32.not_lt]; done) | (simp_all; done) | (simp_all [waits, m2, b2i]; done)) dX4_isWaiting_75
      by_cases c39_3 : (its sS f 0) = 3
      · refine lv_tableIn (tgt := 76) hx hb dX4_isWaiting_39 (by rw [c39_3]; decide) (by rw [c39_3]; decide) (by rw [c39_3]; rfl) rfl ?_
        refine lv_iconst (v := 1) hx hb dX4_isWaiting_76 rfl ?_
        exact ro_zret hx hb hr hlk (by first | (simp [waits, m2, b2i, c11, c24, c39_1, c39_2, c39_3, i_lt, -Int32.not_le, -Int32.not_lt]; done) | (simp_all; done) | (simp_all [waits, m2, b2i]; done)) dX4_isWaiting_77
      by_cases c39_4 : (its sS f 0) = 4
      · refine lv_tableIn (tgt := 78) hx hb dX4_isWaiting_39 (by rw [c39_4]; decide) (by rw [c39_4]; decide) (by rw [c39_4]; rfl) rfl ?_
        refine lv_iload_n hx hb dX4_isWaiting_78 rfl (lv_at hl 1 rfl) ?_
        refine lv_if_eq (tgt := 96) hx hb dX4_isWaiting_79 rfl (fun c79 => ?_) (fun c79 => ?_)
        · refine lv_iconst (v := 0) hx hb dX4_isWaiting_96 rfl ?_
          exact ro_zret hx hb hr hlk (by first | (simp [waits, m2, b2i, c11, c24, c39_1, c39_2, c39_3, c39_4, c79, i_lt, -Int32.not_le, -Int32.not_lt]; done) | (simp_all; done) | (simp_all [waits, m2, b2i]; done)) dX4_isWaiting_97
        · exact absurd c79 (by decide)
      by_cases c39_5 : (its sS f 0) = 5
      · refine lv_tableIn (tgt := 98) hx hb dX4_isWaiting_39 (by rw [c39_5]; decide) (by rw [c39_5]; decide) (by rw [c39_5]; rfl) rfl ?_
        refine lv_iload_n hx hb dX4_isWaiting_98 rfl (lv_at hl 0 rfl) ?_
        refine lv_if_ne (tgt := 110) hx hb dX4_isWaiting_99 rfl (fun c99 => ?_) (fun c99 => ?_)
        · refine lv_iconst (v := 1) hx hb dX4_isWaiting_110 rfl ?_
          refine lv_goto (tgt := 115) hx hb dX4_isWaiting_111 rfl ?_
          exact ro_zret hx hb hr hlk (by first | (simp [waits, m2, b2i, c11, c24, c39_1, c39_2, c39_3, c39_4, c39_5, c99, i_lt, -Int32.not_le, -Int32.not_lt]; done) | (simp_all; done) | (simp_all [waits, m2, b2i]; done)) dX4_isWaiting_115
        · exact absurd c99 (by decide)
      refine lv_tableOut (tgt := 116) hx hb dX4_isWaiting_39 (by have q0 := lv_neT c39_1 (a := 1) rfl; have q1 := lv_neT c39_2 (a := 2) rfl; have q2 := lv_neT c39_3 (a := 3) rfl; have q3 := lv_neT c39_4 (a := 4) rfl; have q4 := lv_neT c39_5 (a := 5) rfl; omega) rfl ?_
      refine lv_iconst (v := 0) hx hb dX4_isWaiting_116 rfl ?_
      exact ro_zret hx hb hr hlk (by first | (simp [waits, m2, b2i, c11, c24, c39_1, c39_2, c39_3, c39_4, c39_5, i_lt, -Int32.not_le, -Int32.not_lt]; done) | (simp_all; done) | (simp_all [waits, m2, b2i]; done)) dX4_isWaiting_117
  · replace c11 : seenO sS n f = true := decide_eq_true c11
    refine lv_iconst (v := 1) hx hb dX4_isWaiting_14 rfl ?_
    refine lv_goto (tgt := 19) hx hb dX4_isWaiting_15 rfl ?_
    refine lv_istore_n (lv' := [(2, .int 1), (0, .ref (A 0)), (1, .int (nI f))]) hx hb dX4_isWaiting_19 rfl hl (by decide) rfl (fun ls hl => ?_)
    refine lv_aload_n hx hb dX4_isWaiting_20 rfl (lv_at hl 1 rfl) ?_
    refine ro_V (w := (MW cI cJ A sS kS oS aS tS ik cA tp td fm tt vl wr bO sO nU mV)) (rest := []) S hK hP (k_X4_ofNight ) gv_X4_67 hd_X4_ofNight ⟨Nat.le_of_ble_eq_true rfl, Nat.le_of_ble_eq_true rfl⟩ 4 rfl rfl rfl rfl hl.1 (lv_room (Nat.le_of_ble_eq_true rfl)) dX4_isWaiting_21 ⟨Nat.zero_le _, Nat.zero_le _⟩ ?_
    refine lv_if_ne (tgt := 31) hx hb dX4_isWaiting_24 rfl (fun c24 => ?_) (fun c24 => ?_)
    · refine lv_iconst (v := 0) hx hb dX4_isWaiting_31 rfl ?_
      refine lv_istore_n (lv' := [(3, .int 0), (2, .int 1), (0, .ref (A 0)), (1, .int (nI f))]) hx hb dX4_isWaiting_32 rfl hl (by decide) rfl (fun ls hl => ?_)
      refine lv_aload_n hx hb dX4_isWaiting_33 rfl (lv_at hl 2 rfl) ?_
      refine lv_iload_n hx hb dX4_isWaiting_34 rfl (lv_at hl 3 rfl) ?_
      refine lv_iconst (v := 0) hx hb dX4_isWaiting_35 rfl ?_
      refine ro_V (w := (MW cI cJ A sS kS oS aS tS ik cA tp td fm tt vl wr bO sO nU mV)) (rest := []) S hK hP (k_X4_its f 0 (by omega) (by omega)) gv_X4_55 hd_X4_its ⟨Nat.le_of_ble_eq_true rfl, Nat.le_of_ble_eq_true rfl⟩ 4 rfl rfl rfl rfl hl.1 (lv_room (Nat.le_of_ble_eq_true rfl)) dX4_isWaiting_36 ⟨Nat.zero_le _, Nat.zero_le _⟩ ?_
      by_cases c39_1 : (its sS f 0) = 1
      · refine lv_tableIn (tgt := 72) hx hb dX4_isWaiting_39 (by rw [c39_1]; decide) (by rw [c39_1]; decide) (by rw [c39_1]; rfl) rfl ?_
        refine lv_iload_n hx hb dX4_isWaiting_72 rfl (lv_at hl 1 rfl) ?_
        exact ro_zret hx hb hr hlk (by first | (simp [waits, m2, b2i, c11, c24, c39_1, i_lt, -Int32.not_le, -Int32.not_lt]; done) | (simp_all; done) | (simp_all [waits, m2, b2i]; done)) dX4_isWaiting_73
      by_cases c39_2 : (its sS f 0) = 2
      · refine lv_tableIn (tgt := 74) hx hb dX4_isWaiting_39 (by rw [c39_2]; decide) (by rw [c39_2]; decide) (by rw [c39_2]; rfl) rfl ?_
        refine lv_iload_n hx hb dX4_isWaiting_74 rfl (lv_at hl 0 rfl) ?_
        exact ro_zret hx hb hr hlk (by first | (simp [waits, m2, b2i, c11, c24, c39_1, c39_2, i_lt, -Int32.not_le, -Int32.not_lt]; done) | (simp_all; done) | (simp_all [waits, m2, b2i]; done)) dX4_isWaiting_75
      by_cases c39_3 : (its sS f 0) = 3
      · refine lv_tableIn (tgt := 76) hx hb dX4_isWaiting_39 (by rw [c39_3]; decide) (by rw [c39_3]; decide) (by rw [c39_3]; rfl) rfl ?_
        refine lv_iconst (v := 1) hx hb dX4_isWaiting_76 rfl ?_
        exact ro_zret hx hb hr hlk (by first | (simp [waits, m2, b2i, c11, c24, c39_1, c39_2, c39_3, i_lt, -Int32.not_le, -Int32.not_lt]; done) | (simp_all; done) | (simp_all [waits, m2, b2i]; done)) dX4_isWaiting_77
      by_cases c39_4 : (its sS f 0) = 4
      · refine lv_tableIn (tgt := 78) hx hb dX4_isWaiting_39 (by rw [c39_4]; decide) (by rw [c39_4]; decide) (by rw [c39_4]; rfl) rfl ?_
        refine lv_iload_n hx hb dX4_isWaiting_78 rfl (lv_at hl 1 rfl) ?_
        refine lv_if_eq (tgt := 96) hx hb dX4_isWaiting_79 rfl (fun c79 => ?_) (fun c79 => ?_)
        · exact absurd c79 (by decide)
        · refine lv_aload_n hx hb dX4_isWaiting_82 rfl (lv_at hl 2 rfl) ?_
          refine ro_V (w := (MW cI cJ A sS kS oS aS tS ik cA tp td fm tt vl wr bO sO nU mV)) (rest := []) S hK hP (k_X4_ofNight ) gv_X4_67 hd_X4_ofNight ⟨Nat.le_of_ble_eq_true rfl, Nat.le_of_ble_eq_true rfl⟩ 4 rfl rfl rfl rfl hl.1 (lv_room (Nat.le_of_ble_eq_true rfl)) dX4_isWaiting_83 ⟨Nat.zero_le _, Nat.zero_le _⟩ ?_
          refine lv_iconst (v := 2) hx hb dX4_isWaiting_86 rfl ?_
          refine lv_irem hx hb dX4_isWaiting_87 (by decide) ?_
          refine lv_iconst (v := 1) hx hb dX4_isWaiting_88 rfl ?_
          refine lv_icmp_ne (tgt := 96) hx hb dX4_isWaiting_89 rfl (fun c89 => ?_) (fun c89 => ?_)
          · refine lv_iconst (v := 0) hx hb dX4_isWaiting_96 rfl ?_
            exact ro_zret hx hb hr hlk (by first | (simp [waits, m2, b2i, c11, c24, c39_1, c39_2, c39_3, c39_4, c79, c89, i_lt, -Int32.not_le, -Int32.not_lt]; done) | (simp_all; done) | (simp_all [waits, m2, b2i]; done)) dX4_isWaiting_97
          · refine lv_iconst (v := 1) hx hb dX4_isWaiting_92 rfl ?_
            refine lv_goto (tgt := 97) hx hb dX4_isWaiting_93 rfl ?_
            exact ro_zret hx hb hr hlk (by first | (simp [waits, m2, b2i, c11, c24, c39_1, c39_2, c39_3, c39_4, c79, c89, i_lt, -Int32.not_le, -Int32.not_lt]; done) | (simp_all; done) | (simp_all [waits, m2, b2i]; done)) dX4_isWaiting_97
      by_cases c39_5 : (its sS f 0) = 5
      · refine lv_tableIn (tgt := 98) hx hb dX4_isWaiting_39 (by rw [c39_5]; decide) (by rw [c39_5]; decide) (by rw [c39_5]; rfl) rfl ?_
        refine lv_iload_n hx hb dX4_isWaiting_98 rfl (lv_at hl 0 rfl) ?_
        refine lv_if_ne (tgt := 110) hx hb dX4_isWaiting_99 rfl (fun c99 => ?_) (fun c99 => ?_)
        · exact absurd c99 (by decide)
        · refine lv_aload_n hx hb dX4_isWaiting_102 rfl (lv_at hl 2 rfl) ?_
          refine lv_iload_n hx hb dX4_isWaiting_103 rfl (lv_at hl 3 rfl) ?_
          refine ro_V (w := (MW cI cJ A sS kS oS aS tS ik cA tp td fm tt vl wr bO sO nU mV)) (rest := []) S hK hP (k_X4_isAnyOtherCross n f hI (by omega)) gv_X4_95 hd_X4_isAnyOtherCross ⟨Nat.le_of_ble_eq_true rfl, Nat.le_of_ble_eq_true rfl⟩ 4 rfl rfl rfl rfl hl.1 (lv_room (Nat.le_of_ble_eq_true rfl)) dX4_isWaiting_104 ⟨Nat.zero_le _, Nat.zero_le _⟩ ?_
          refine lv_if_eq (tgt := 114) hx hb dX4_isWaiting_107 rfl (fun c107 => ?_) (fun c107 => ?_)
          · replace c107 := (b2i_0 _).mp c107
            refine lv_iconst (v := 0) hx hb dX4_isWaiting_114 rfl ?_
            exact ro_zret hx hb hr hlk (by first | (simp [waits, m2, b2i, c11, c24, c39_1, c39_2, c39_3, c39_4, c39_5, c99, c107, i_lt, -Int32.not_le, -Int32.not_lt]; done) | (simp_all; done) | (simp_all [waits, m2, b2i]; done)) dX4_isWaiting_115
          · replace c107 := b2i_n0 c107
            refine lv_iconst (v := 1) hx hb dX4_isWaiting_110 rfl ?_
            refine lv_goto (tgt := 115) hx hb dX4_isWaiting_111 rfl ?_
            exact ro_zret hx hb hr hlk (by first | (simp [waits, m2, b2i, c11, c24, c39_1, c39_2, c39_3, c39_4, c39_5, c99, c107, i_lt, -Int32.not_le, -Int32.not_lt]; done) | (simp_all; done) | (simp_all [waits, m2, b2i]; done)) dX4_isWaiting_115
      refine lv_tableOut (tgt := 116) hx hb dX4_isWaiting_39 (by have q0 := lv_neT c39_1 (a := 1) rfl; have q1 := lv_neT c39_2 (a := 2) rfl; have q2 := lv_neT c39_3 (a := 3) rfl; have q3 := lv_neT c39_4 (a := 4) rfl; have q4 := lv_neT c39_5 (a := 5) rfl; omega) rfl ?_
      refine lv_iconst (v := 0) hx hb dX4_isWaiting_116 rfl ?_
      exact ro_zret hx hb hr hlk (by first | (simp [waits, m2, b2i, c11, c24, c39_1, c39_2, c39_3, c39_4, c39_5, i_lt, -Int32.not_le, -Int32.not_lt]; done) | (simp_all; done) | (simp_all [waits, m2, b2i]; done)) dX4_isWaiting_117
    · refine lv_iconst (v := 1) hx hb dX4_isWaiting_27 rfl ?_
      refine lv_goto (tgt := 32) hx hb dX4_isWaiting_28 rfl ?_
      refine lv_istore_n (lv' := [(3, .int 1), (2, .int 1), (0, .ref (A 0)), (1, .int (nI f))]) hx hb dX4_isWaiting_32 rfl hl (by decide) rfl (fun ls hl => ?_)
      refine lv_aload_n hx hb dX4_isWaiting_33 rfl (lv_at hl 2 rfl) ?_
      refine lv_iload_n hx hb dX4_isWaiting_34 rfl (lv_at hl 3 rfl) ?_
      refine lv_iconst (v := 0) hx hb dX4_isWaiting_35 rfl ?_
      refine ro_V (w := (MW cI cJ A sS kS oS aS tS ik cA tp td fm tt vl wr bO sO nU mV)) (rest := []) S hK hP (k_X4_its f 0 (by omega) (by omega)) gv_X4_55 hd_X4_its ⟨Nat.le_of_ble_eq_true rfl, Nat.le_of_ble_eq_true rfl⟩ 4 rfl rfl rfl rfl hl.1 (lv_room (Nat.le_of_ble_eq_true rfl)) dX4_isWaiting_36 ⟨Nat.zero_le _, Nat.zero_le _⟩ ?_
      by_cases c39_1 : (its sS f 0) = 1
      · refine lv_tableIn (tgt := 72) hx hb dX4_isWaiting_39 (by rw [c39_1]; decide) (by rw [c39_1]; decide) (by rw [c39_1]; rfl) rfl ?_
        refine lv_iload_n hx hb dX4_isWaiting_72 rfl (lv_at hl 1 rfl) ?_
        exact ro_zret hx hb hr hlk (by first | (simp [waits, m2, b2i, c11, c24, c39_1, i_lt, -Int32.not_le, -Int32.not_lt]; done) | (simp_all; done) | (simp_all [waits, m2, b2i]; done)) dX4_isWaiting_73
      by_cases c39_2 : (its sS f 0) = 2
      · refine lv_tableIn (tgt := 74) hx hb dX4_isWaiting_39 (by rw [c39_2]; decide) (by rw [c39_2]; decide) (by rw [c39_2]; rfl) rfl ?_
        refine lv_iload_n hx hb dX4_isWaiting_74 rfl (lv_at hl 0 rfl) ?_
        exact ro_zret hx hb hr hlk (by first | (simp [waits, m2, b2i, c11, c24, c39_1, c39_2, i_lt, -Int32.not_le, -Int32.not_lt]; done) | (simp_all; done) | (simp_all [waits, m2, b2i]; done)) dX4_isWaiting_75
      by_cases c39_3 : (its sS f 0) = 3
      · refine lv_tableIn (tgt := 76) hx hb dX4_isWaiting_39 (by rw [c39_3]; decide) (by rw [c39_3]; decide) (by rw [c39_3]; rfl) rfl ?_
        refine lv_iconst (v := 1) hx hb dX4_isWaiting_76 rfl ?_
        exact ro_zret hx hb hr hlk (by first | (simp [waits, m2, b2i, c11, c24, c39_1, c39_2, c39_3, i_lt, -Int32.not_le, -Int32.not_lt]; done) | (simp_all; done) | (simp_all [waits, m2, b2i]; done)) dX4_isWaiting_77
      by_cases c39_4 : (its sS f 0) = 4
      · refine lv_tableIn (tgt := 78) hx hb dX4_isWaiting_39 (by rw [c39_4]; decide) (by rw [c39_4]; decide) (by rw [c39_4]; rfl) rfl ?_
        refine lv_iload_n hx hb dX4_isWaiting_78 rfl (lv_at hl 1 rfl) ?_
        refine lv_if_eq (tgt := 96) hx hb dX4_isWaiting_79 rfl (fun c79 => ?_) (fun c79 => ?_)
        · exact absurd c79 (by decide)
        · refine lv_aload_n hx hb dX4_isWaiting_82 rfl (lv_at hl 2 rfl) ?_
          refine ro_V (w := (MW cI cJ A sS kS oS aS tS ik cA tp td fm tt vl wr bO sO nU mV)) (rest := []) S hK hP (k_X4_ofNight ) gv_X4_67 hd_X4_ofNight ⟨Nat.le_of_ble_eq_true rfl, Nat.le_of_ble_eq_true rfl⟩ 4 rfl rfl rfl rfl hl.1 (lv_room (Nat.le_of_ble_eq_true rfl)) dX4_isWaiting_83 ⟨Nat.zero_le _, Nat.zero_le _⟩ ?_
          refine lv_iconst (v := 2) hx hb dX4_isWaiting_86 rfl ?_
          refine lv_irem hx hb dX4_isWaiting_87 (by decide) ?_
          refine lv_iconst (v := 1) hx hb dX4_isWaiting_88 rfl ?_
          refine lv_icmp_ne (tgt := 96) hx hb dX4_isWaiting_89 rfl (fun c89 => ?_) (fun c89 => ?_)
          · refine lv_iconst (v := 0) hx hb dX4_isWaiting_96 rfl ?_
            exact ro_zret hx hb hr hlk (by first | (simp [waits, m2, b2i, c11, c24, c39_1, c39_2, c39_3, c39_4, c79, c89, i_lt, -Int32.not_le, -Int32.not_lt]; done) | (simp_all; done) | (simp_all [waits, m2, b2i]; done)) dX4_isWaiting_97
          · refine lv_iconst (v := 1) hx hb dX4_isWaiting_92 rfl ?_
            refine lv_goto (tgt := 97) hx hb dX4_isWaiting_93 rfl ?_
            exact ro_zret hx hb hr hlk (by first | (simp [waits, m2, b2i, c11, c24, c39_1, c39_2, c39_3, c39_4, c79, c89, i_lt, -Int32.not_le, -Int32.not_lt]; done) | (simp_all; done) | (simp_all [waits, m2, b2i]; done)) dX4_isWaiting_97
      by_cases c39_5 : (its sS f 0) = 5
      · refine lv_tableIn (tgt := 98) hx hb dX4_isWaiting_39 (by rw [c39_5]; decide) (by rw [c39_5]; decide) (by rw [c39_5]; rfl) rfl ?_
        refine lv_iload_n hx hb dX4_isWaiting_98 rfl (lv_at hl 0 rfl) ?_
        refine lv_if_ne (tgt := 110) hx hb dX4_isWaiting_99 rfl (fun c99 => ?_) (fun c99 => ?_)
        · refine lv_iconst (v := 1) hx hb dX4_isWaiting_110 rfl ?_
          refine lv_goto (tgt := 115) hx hb dX4_isWaiting_111 rfl ?_
          exact ro_zret hx hb hr hlk (by first | (simp [waits, m2, b2i, c11, c24, c39_1, c39_2, c39_3, c39_4, c39_5, c99, i_lt, -Int32.not_le, -Int32.not_lt]; done) | (simp_all; done) | (simp_all [waits, m2, b2i]; done)) dX4_isWaiting_115
        · exact absurd c99 (by decide)
      refine lv_tableOut (tgt := 116) hx hb dX4_isWaiting_39 (by have q0 := lv_neT c39_1 (a := 1) rfl; have q1 := lv_neT c39_2 (a := 2) rfl; have q2 := lv_neT c39_3 (a := 3) rfl; have q3 := lv_neT c39_4 (a := 4) rfl; have q4 := lv_neT c39_5 (a := 5) rfl; omega) rfl ?_
      refine lv_iconst (v := 0) hx hb dX4_isWaiting_116 rfl ?_
      exact ro_zret hx hb hr hlk (by first | (simp [waits, m2, b2i, c11, c24, c39_1, c39_2, c39_3, c39_4, c39_5, i_lt, -Int32.not_le, -Int32.not_lt]; done) | (simp_all; done) | (simp_all [waits, m2, b2i]; done)) dX4_isWaiting_117

set_option maxHeartbeats 4000000 in
set_option maxRecDepth 100000 in
theorem k_X4_content (n : Nat) (hI : Inv sS n) : RO l D (tyA cI cJ cO) yX4_content cX4_content 3 ((some .int)) 5 108 [.ref (A 0)] (MW cI cJ A sS kS oS aS tS ik cA tp td fm tt vl wr bO sO nU mV) (.int (contS sS n)) := by
  refine RO.mk (by decide) (Nat.le_of_ble_eq_true rfl) ?_
  intro p e s m below meth c ls S hr hlk hP hK hl
  have S : CallFix p m c cX4_content 3 s _ WL RX4 := S
  obtain ⟨hx, hb, hml, hown, hts⟩ := id S
  have hl : lv_has ls 3 [(0, .ref (A 0))] := hl
  have h8 : n ≤ 8 := hI.1
  refine lv_iconst (v := 0) hx hb dX4_content_0 rfl ?_
  refine lv_istore_n (lv' := [(1, .int 0), (0, .ref (A 0))]) hx hb dX4_content_1 rfl hl (by decide) rfl (fun ls hl => ?_)
  refine lv_iconst (v := 0) hx hb dX4_content_2 rfl ?_
  refine lv_istore_n (lv' := [(2, .int 0), (1, .int 0), (0, .ref (A 0))]) hx hb dX4_content_3 rfl hl (by decide) rfl (fun ls hl => ?_)
  refine w_loop (pc := 4) (st := fun (i : Nat) => []) (μ := fun (i : Nat) => n - i) (I := fun (i : Nat) ls => (i ≤ n) ∧ lv_has ls 3 [(0, .ref (A 0)), (1, .int (setF (content sS) i)), (2, .int (nI i))]) ?_ (0) ⟨Nat.zero_le _, lv_sub hl [2, 1, 0] rfl⟩
  rintro i ls ⟨hi, hl⟩ ih4
  try dsimp only at ih4 ⊢
  refine lv_iload_n hx hb dX4_content_4 rfl (lv_at hl 2 rfl) ?_
  refine lv_aload_n hx hb dX4_content_5 rfl (lv_at hl 0 rfl) ?_
  refine va_get (ci := 4) (v := .ref (A 1)) hx hb hts wx_X4 hown hK hP 0 rfl rfl 0 (by decide) (hts _ wf_X4_7) (fun _ h9 => h9) rfl dX4_content_6 ?_
  refine lv_iconst (v := 1) hx hb dX4_content_9 rfl ?_
  refine ia_ld hx hb hK hP 1 0 rfl rfl 1 (rfl) (by omega) (by decide) dX4_content_10 ?_
  refine w_i (z := nI n) (hI.2.1) ?_
  refine lv_icmp_ge (tgt := 38) hx hb dX4_content_11 rfl (fun c11 => ?_) (fun c11 => ?_)
  · replace c11 := nq_le (a := n) (b := i) (by omega) (by omega) c11
    refine lv_iload_n hx hb dX4_content_38 rfl (lv_at hl 1 rfl) ?_
    exact ro_iret hx hb hr hlk (by rw [show i = n by omega]; rfl) dX4_content_39
  · replace c11 := nq_nle (a := n) (b := i) (by omega) (by omega) c11
    refine lv_iload_n hx hb dX4_content_14 rfl (lv_at hl 1 rfl) ?_
    refine lv_aload_n hx hb dX4_content_15 rfl (lv_at hl 0 rfl) ?_
    refine lv_iload_n hx hb dX4_content_16 rfl (lv_at hl 2 rfl) ?_
    refine ro_V (w := (MW cI cJ A sS kS oS aS tS ik cA tp td fm tt vl wr bO sO nU mV)) (rest := [.int (setF (content sS) i)]) S hK hP (k_X4_isContent n i hI (by omega)) gv_X4_82 hd_X4_isContent ⟨Nat.le_of_ble_eq_true rfl, Nat.le_of_ble_eq_true rfl⟩ 4 rfl rfl rfl rfl hl.1 (lv_room (Nat.le_of_ble_eq_true rfl)) dX4_content_17 ⟨Nat.zero_le _, Nat.zero_le _⟩ ?_
    refine lv_if_eq (tgt := 29) hx hb dX4_content_20 rfl (fun c20 => ?_) (fun c20 => ?_)
    · replace c20 := (b2i_0 _).mp c20
      refine lv_iconst (v := 0) hx hb dX4_content_29 rfl ?_
      refine lv_ior hx hb dX4_content_30 ?_
      refine w_i (z := setF (content sS) (i + 1)) (setF_f0 c20) ?_
      refine lv_istore_n (lv' := [(1, .int (setF (content sS) (i + 1))), (0, .ref (A 0)), (2, .int (nI i))]) hx hb dX4_content_31 rfl hl (by decide) rfl (fun ls hl => ?_)
      refine lv_iinc (v := nI (i + 1)) (lv' := [(2, .int (nI (i + 1))), (1, .int (setF (content sS) (i + 1))), (0, .ref (A 0))]) hx hb dX4_content_32 hl (k := 2) rfl (nI_inc _) (by decide) rfl (fun ls hl => ?_)
      refine lv_goto (tgt := 4) hx hb dX4_content_35 rfl ?_
      exact ih4 (i + 1) ls (by first | omega | (dsimp only; omega)) ⟨(by omega), lv_sub hl [2, 1, 0] rfl⟩
    · replace c20 := b2i_n0 c20
      refine lv_iconst (v := 1) hx hb dX4_content_23 rfl ?_
      refine lv_iload_n hx hb dX4_content_24 rfl (lv_at hl 2 rfl) ?_
      refine lv_ishl hx hb dX4_content_25 ?_
      refine lv_goto (tgt := 30) hx hb dX4_content_26 rfl ?_
      refine lv_ior hx hb dX4_content_30 ?_
      refine w_i (z := setF (content sS) (i + 1)) (setF_t c20) ?_
      refine lv_istore_n (lv' := [(1, .int (setF (content sS) (i + 1))), (0, .ref (A 0)), (2, .int (nI i))]) hx hb dX4_content_31 rfl hl (by decide) rfl (fun ls hl => ?_)
      refine lv_iinc (v := nI (i + 1)) (lv' := [(2, .int (nI (i + 1))), (1, .int (setF (content sS) (i + 1))), (0, .ref (A 0))]) hx hb dX4_content_32 hl (k := 2) rfl (nI_inc _) (by decide) rfl (fun ls hl => ?_)
      refine lv_goto (tgt := 4) hx hb dX4_content_35 rfl ?_
      exact ih4 (i + 1) ls (by first | omega | (dsimp only; omega)) ⟨(by omega), lv_sub hl [2, 1, 0] rfl⟩

set_option maxHeartbeats 4000000 in
set_option maxRecDepth 100000 in
theorem k_X4_outOnes (n : Nat) (hI : Inv sS n) : RO l D (tyA cI cJ cO) yX4_outOnes cX4_outOnes 3 ((some .int)) 2 43 [.ref (A 0)] (MW cI cJ A sS kS oS aS tS ik cA tp td fm tt vl wr bO sO nU mV) (.int (setF (outP sS) n)) := by
  refine RO.mk (by decide) (Nat.le_of_ble_eq_true rfl) ?_
  intro p e s m below meth c ls S hr hlk hP hK hl
  have S : CallFix p m c cX4_outOnes 3 s _ WL RX4 := S
  obtain ⟨hx, hb, hml, hown, hts⟩ := id S
  have hl : lv_has ls 3 [(0, .ref (A 0))] := hl
  have h8 : n ≤ 8 := hI.1
  refine lv_iconst (v := 0) hx hb dX4_outOnes_0 rfl ?_
  refine lv_istore_n (lv' := [(1, .int 0), (0, .ref (A 0))]) hx hb dX4_outOnes_1 rfl hl (by decide) rfl (fun ls hl => ?_)
  refine lv_iconst (v := 0) hx hb dX4_outOnes_2 rfl ?_
  refine lv_istore_n (lv' := [(2, .int 0), (1, .int 0), (0, .ref (A 0))]) hx hb dX4_outOnes_3 rfl hl (by decide) rfl (fun ls hl => ?_)
  refine w_loop (pc := 4) (st := fun (i : Nat) => []) (μ := fun (i : Nat) => n - i) (I := fun (i : Nat) ls => (i ≤ n) ∧ lv_has ls 3 [(0, .ref (A 0)), (1, .int (setF (outP sS) i)), (2, .int (nI i))]) ?_ (0) ⟨Nat.zero_le _, lv_sub hl [2, 1, 0] rfl⟩
  rintro i ls ⟨hi, hl⟩ ih4
  try dsimp only at ih4 ⊢
  refine lv_iload_n hx hb dX4_outOnes_4 rfl (lv_at hl 2 rfl) ?_
  refine lv_aload_n hx hb dX4_outOnes_5 rfl (lv_at hl 0 rfl) ?_
  refine va_get (ci := 4) (v := .ref (A 1)) hx hb hts wx_X4 hown hK hP 0 rfl rfl 0 (by decide) (hts _ wf_X4_7) (fun _ h9 => h9) rfl dX4_outOnes_6 ?_
  refine lv_iconst (v := 1) hx hb dX4_outOnes_9 rfl ?_
  refine ia_ld hx hb hK hP 1 0 rfl rfl 1 (rfl) (by omega) (by decide) dX4_outOnes_10 ?_
  refine w_i (z := nI n) (hI.2.1) ?_
  refine lv_icmp_ge (tgt := 32) hx hb dX4_outOnes_11 rfl (fun c11 => ?_) (fun c11 => ?_)
  · replace c11 := nq_le (a := n) (b := i) (by omega) (by omega) c11
    refine lv_iload_n hx hb dX4_outOnes_32 rfl (lv_at hl 1 rfl) ?_
    exact ro_iret hx hb hr hlk (by rw [show i = n by omega]) dX4_outOnes_33
  · replace c11 := nq_nle (a := n) (b := i) (by omega) (by omega) c11
    refine lv_iload_n hx hb dX4_outOnes_14 rfl (lv_at hl 1 rfl) ?_
    refine lv_aload_n hx hb dX4_outOnes_15 rfl (lv_at hl 0 rfl) ?_
    refine lv_iload_n hx hb dX4_outOnes_16 rfl (lv_at hl 2 rfl) ?_
    refine lv_bipush (v := 7) hx hb dX4_outOnes_17 rfl ?_
    refine ro_V (w := (MW cI cJ A sS kS oS aS tS ik cA tp td fm tt vl wr bO sO nU mV)) (rest := [.int (setF (outP sS) i)]) S hK hP (k_X4_its i 7 (by omega) (by omega)) gv_X4_55 hd_X4_its ⟨Nat.le_of_ble_eq_true rfl, Nat.le_of_ble_eq_true rfl⟩ 4 rfl rfl rfl rfl hl.1 (lv_room (Nat.le_of_ble_eq_true rfl)) dX4_outOnes_19 ⟨Nat.zero_le _, Nat.zero_le _⟩ ?_
    refine lv_iload_n hx hb dX4_outOnes_22 rfl (lv_at hl 2 rfl) ?_
    refine lv_ishl hx hb dX4_outOnes_23 ?_
    refine lv_ior hx hb dX4_outOnes_24 ?_
    refine w_i (z := setF (outP sS) (i + 1)) (outF_s hI (by omega)) ?_
    refine lv_istore_n (lv' := [(1, .int (setF (outP sS) (i + 1))), (0, .ref (A 0)), (2, .int (nI i))]) hx hb dX4_outOnes_25 rfl hl (by decide) rfl (fun ls hl => ?_)
    refine lv_iinc (v := nI (i + 1)) (lv' := [(2, .int (nI (i + 1))), (1, .int (setF (outP sS) (i + 1))), (0, .ref (A 0))]) hx hb dX4_outOnes_26 hl (k := 2) rfl (nI_inc _) (by decide) rfl (fun ls hl => ?_)
    refine lv_goto (tgt := 4) hx hb dX4_outOnes_29 rfl ?_
    exact ih4 (i + 1) ls (by first | omega | (dsimp only; omega)) ⟨(by omega), lv_sub hl [2, 1, 0] rfl⟩

set_option maxHeartbeats 4000000 in
set_option maxRecDepth 100000 in
theorem k_X4_contentMany (n : Nat) (hI : Inv sS n) : RO l D (tyA cI cJ cO) yX4_contentMany cX4_contentMany 3 ((some .int)) 5 108 [.ref (A 0)] (MW cI cJ A sS kS oS aS tS ik cA tp td fm tt vl wr bO sO nU mV) (.int (nI (contN sS n))) := by
  refine RO.mk (by decide) (Nat.le_of_ble_eq_true rfl) ?_
  intro p e s m below meth c ls S hr hlk hP hK hl
  have S : CallFix p m c cX4_contentMany 3 s _ WL RX4 := S
  obtain ⟨hx, hb, hml, hown, hts⟩ := id S
  have hl : lv_has ls 3 [(0, .ref (A 0))] := hl
  have h8 : n ≤ 8 := hI.1
  refine lv_iconst (v := 0) hx hb dX4_contentMany_0 rfl ?_
  refine lv_istore_n (lv' := [(1, .int 0), (0, .ref (A 0))]) hx hb dX4_contentMany_1 rfl hl (by decide) rfl (fun ls hl => ?_)
  refine lv_iconst (v := 0) hx hb dX4_contentMany_2 rfl ?_
  refine lv_istore_n (lv' := [(2, .int 0), (1, .int 0), (0, .ref (A 0))]) hx hb dX4_contentMany_3 rfl hl (by decide) rfl (fun ls hl => ?_)
  refine w_loop (pc := 4) (st := fun (i : Nat) => []) (μ := fun (i : Nat) => n - i) (I := fun (i : Nat) ls => (i ≤ n) ∧ lv_has ls 3 [(0, .ref (A 0)), (1, .int (nI (cntF (content sS) i))), (2, .int (nI i))]) ?_ (0) ⟨Nat.zero_le _, lv_sub hl [2, 1, 0] rfl⟩
  rintro i ls ⟨hi, hl⟩ ih4
  try dsimp only at ih4 ⊢
  refine lv_iload_n hx hb dX4_contentMany_4 rfl (lv_at hl 2 rfl) ?_
  refine lv_aload_n hx hb dX4_contentMany_5 rfl (lv_at hl 0 rfl) ?_
  refine va_get (ci := 4) (v := .ref (A 1)) hx hb hts wx_X4 hown hK hP 0 rfl rfl 0 (by decide) (hts _ wf_X4_7) (fun _ h9 => h9) rfl dX4_contentMany_6 ?_
  refine lv_iconst (v := 1) hx hb dX4_contentMany_9 rfl ?_
  refine ia_ld hx hb hK hP 1 0 rfl rfl 1 (rfl) (by omega) (by decide) dX4_contentMany_10 ?_
  refine w_i (z := nI n) (hI.2.1) ?_
  refine lv_icmp_ge (tgt := 36) hx hb dX4_contentMany_11 rfl (fun c11 => ?_) (fun c11 => ?_)
  · replace c11 := nq_le (a := n) (b := i) (by omega) (by omega) c11
    refine lv_iload_n hx hb dX4_contentMany_36 rfl (lv_at hl 1 rfl) ?_
    exact ro_iret hx hb hr hlk (by rw [show i = n by omega]; rfl) dX4_contentMany_37
  · replace c11 := nq_nle (a := n) (b := i) (by omega) (by omega) c11
    refine lv_iload_n hx hb dX4_contentMany_14 rfl (lv_at hl 1 rfl) ?_
    refine lv_aload_n hx hb dX4_contentMany_15 rfl (lv_at hl 0 rfl) ?_
    refine lv_iload_n hx hb dX4_contentMany_16 rfl (lv_at hl 2 rfl) ?_
    refine ro_V (w := (MW cI cJ A sS kS oS aS tS ik cA tp td fm tt vl wr bO sO nU mV)) (rest := [.int (nI (cntF (content sS) i))]) S hK hP (k_X4_isContent n i hI (by omega)) gv_X4_82 hd_X4_isContent ⟨Nat.le_of_ble_eq_true rfl, Nat.le_of_ble_eq_true rfl⟩ 4 rfl rfl rfl rfl hl.1 (lv_room (Nat.le_of_ble_eq_true rfl)) dX4_contentMany_17 ⟨Nat.zero_le _, Nat.zero_le _⟩ ?_
    refine lv_if_eq (tgt := 27) hx hb dX4_contentMany_20 rfl (fun c20 => ?_) (fun c20 => ?_)
    · replace c20 := (b2i_0 _).mp c20
      refine lv_iconst (v := 0) hx hb dX4_contentMany_27 rfl ?_
      refine lv_iadd hx hb dX4_contentMany_28 ?_
      refine w_i (z := nI (cntF (content sS) (i + 1))) (cntF_f0 c20) ?_
      refine lv_istore_n (lv' := [(1, .int (nI (cntF (content sS) (i + 1)))), (0, .ref (A 0)), (2, .int (nI i))]) hx hb dX4_contentMany_29 rfl hl (by decide) rfl (fun ls hl => ?_)
      refine lv_iinc (v := nI (i + 1)) (lv' := [(2, .int (nI (i + 1))), (1, .int (nI (cntF (content sS) (i + 1)))), (0, .ref (A 0))]) hx hb dX4_contentMany_30 hl (k := 2) rfl (nI_inc _) (by decide) rfl (fun ls hl => ?_)
      refine lv_goto (tgt := 4) hx hb dX4_contentMany_33 rfl ?_
      exact ih4 (i + 1) ls (by first | omega | (dsimp only; omega)) ⟨(by omega), lv_sub hl [2, 1, 0] rfl⟩
    · replace c20 := b2i_n0 c20
      refine lv_iconst (v := 1) hx hb dX4_contentMany_23 rfl ?_
      refine lv_goto (tgt := 28) hx hb dX4_contentMany_24 rfl ?_
      refine lv_iadd hx hb dX4_contentMany_28 ?_
      refine w_i (z := nI (cntF (content sS) (i + 1))) (cntF_t c20) ?_
      refine lv_istore_n (lv' := [(1, .int (nI (cntF (content sS) (i + 1)))), (0, .ref (A 0)), (2, .int (nI i))]) hx hb dX4_contentMany_29 rfl hl (by decide) rfl (fun ls hl => ?_)
      refine lv_iinc (v := nI (i + 1)) (lv' := [(2, .int (nI (i + 1))), (1, .int (nI (cntF (content sS) (i + 1)))), (0, .ref (A 0))]) hx hb dX4_contentMany_30 hl (k := 2) rfl (nI_inc _) (by decide) rfl (fun ls hl => ?_)
      refine lv_goto (tgt := 4) hx hb dX4_contentMany_33 rfl ?_
      exact ih4 (i + 1) ls (by first | omega | (dsimp only; omega)) ⟨(by omega), lv_sub hl [2, 1, 0] rfl⟩

set_option maxHeartbeats 4000000 in
set_option maxRecDepth 100000 in
theorem k_X4_waiting (n : Nat) (hI : Inv sS n) : RO l D (tyA cI cJ cO) yX4_waiting cX4_waiting 3 ((some .int)) 7 154 [.ref (A 0)] (MW cI cJ A sS kS oS aS tS ik cA tp td fm tt vl wr bO sO nU mV) (.int (setF (waits sS n) n)) := by
  refine RO.mk (by decide) (Nat.le_of_ble_eq_true rfl) ?_
  intro p e s m below meth c ls S hr hlk hP hK hl
  have S : CallFix p m c cX4_waiting 3 s _ WL RX4 := S
  obtain ⟨hx, hb, hml, hown, hts⟩ := id S
  have hl : lv_has ls 3 [(0, .ref (A 0))] := hl
  have h8 : n ≤ 8 := hI.1
  refine lv_iconst (v := 0) hx hb dX4_waiting_0 rfl ?_
  refine lv_istore_n (lv' := [(1, .int 0), (0, .ref (A 0))]) hx hb dX4_waiting_1 rfl hl (by decide) rfl (fun ls hl => ?_)
  refine lv_iconst (v := 0) hx hb dX4_waiting_2 rfl ?_
  refine lv_istore_n (lv' := [(2, .int 0), (1, .int 0), (0, .ref (A 0))]) hx hb dX4_waiting_3 rfl hl (by decide) rfl (fun ls hl => ?_)
  refine w_loop (pc := 4) (st := fun (i : Nat) => []) (μ := fun (i : Nat) => n - i) (I := fun (i : Nat) ls => (i ≤ n) ∧ lv_has ls 3 [(0, .ref (A 0)), (1, .int (setF (waits sS n) i)), (2, .int (nI i))]) ?_ (0) ⟨Nat.zero_le _, lv_sub hl [2, 1, 0] rfl⟩
  rintro i ls ⟨hi, hl⟩ ih4
  try dsimp only at ih4 ⊢
  refine lv_iload_n hx hb dX4_waiting_4 rfl (lv_at hl 2 rfl) ?_
  refine lv_aload_n hx hb dX4_waiting_5 rfl (lv_at hl 0 rfl) ?_
  refine va_get (ci := 4) (v := .ref (A 1)) hx hb hts wx_X4 hown hK hP 0 rfl rfl 0 (by decide) (hts _ wf_X4_7) (fun _ h9 => h9) rfl dX4_waiting_6 ?_
  refine lv_iconst (v := 1) hx hb dX4_waiting_9 rfl ?_
  refine ia_ld hx hb hK hP 1 0 rfl rfl 1 (rfl) (by omega) (by decide) dX4_waiting_10 ?_
  refine w_i (z := nI n) (hI.2.1) ?_
  refine lv_icmp_ge (tgt := 38) hx hb dX4_waiting_11 rfl (fun c11 => ?_) (fun c11 => ?_)
  · replace c11 := nq_le (a := n) (b := i) (by omega) (by omega) c11
    refine lv_iload_n hx hb dX4_waiting_38 rfl (lv_at hl 1 rfl) ?_
    exact ro_iret hx hb hr hlk (by rw [show i = n by omega]) dX4_waiting_39
  · replace c11 := nq_nle (a := n) (b := i) (by omega) (by omega) c11
    refine lv_iload_n hx hb dX4_waiting_14 rfl (lv_at hl 1 rfl) ?_
    refine lv_aload_n hx hb dX4_waiting_15 rfl (lv_at hl 0 rfl) ?_
    refine lv_iload_n hx hb dX4_waiting_16 rfl (lv_at hl 2 rfl) ?_
    refine ro_V (w := (MW cI cJ A sS kS oS aS tS ik cA tp td fm tt vl wr bO sO nU mV)) (rest := [.int (setF (waits sS n) i)]) S hK hP (k_X4_isWaiting n i hI (by omega)) gv_X4_98 hd_X4_isWaiting ⟨Nat.le_of_ble_eq_true rfl, Nat.le_of_ble_eq_true rfl⟩ 4 rfl rfl rfl rfl hl.1 (lv_room (Nat.le_of_ble_eq_true rfl)) dX4_waiting_17 ⟨Nat.zero_le _, Nat.zero_le _⟩ ?_
    refine lv_if_eq (tgt := 29) hx hb dX4_waiting_20 rfl (fun c20 => ?_) (fun c20 => ?_)
    · replace c20 := (b2i_0 _).mp c20
      refine lv_iconst (v := 0) hx hb dX4_waiting_29 rfl ?_
      refine lv_ior hx hb dX4_waiting_30 ?_
      refine w_i (z := setF (waits sS n) (i + 1)) (setF_f0 c20) ?_
      refine lv_istore_n (lv' := [(1, .int (setF (waits sS n) (i + 1))), (0, .ref (A 0)), (2, .int (nI i))]) hx hb dX4_waiting_31 rfl hl (by decide) rfl (fun ls hl => ?_)
      refine lv_iinc (v := nI (i + 1)) (lv' := [(2, .int (nI (i + 1))), (1, .int (setF (waits sS n) (i + 1))), (0, .ref (A 0))]) hx hb dX4_waiting_32 hl (k := 2) rfl (nI_inc _) (by decide) rfl (fun ls hl => ?_)
      refine lv_goto (tgt := 4) hx hb dX4_waiting_35 rfl ?_
      exact ih4 (i + 1) ls (by first | omega | (dsimp only; omega)) ⟨(by omega), lv_sub hl [2, 1, 0] rfl⟩
    · replace c20 := b2i_n0 c20
      refine lv_iconst (v := 1) hx hb dX4_waiting_23 rfl ?_
      refine lv_iload_n hx hb dX4_waiting_24 rfl (lv_at hl 2 rfl) ?_
      refine lv_ishl hx hb dX4_waiting_25 ?_
      refine lv_goto (tgt := 30) hx hb dX4_waiting_26 rfl ?_
      refine lv_ior hx hb dX4_waiting_30 ?_
      refine w_i (z := setF (waits sS n) (i + 1)) (setF_t c20) ?_
      refine lv_istore_n (lv' := [(1, .int (setF (waits sS n) (i + 1))), (0, .ref (A 0)), (2, .int (nI i))]) hx hb dX4_waiting_31 rfl hl (by decide) rfl (fun ls hl => ?_)
      refine lv_iinc (v := nI (i + 1)) (lv' := [(2, .int (nI (i + 1))), (1, .int (setF (waits sS n) (i + 1))), (0, .ref (A 0))]) hx hb dX4_waiting_32 hl (k := 2) rfl (nI_inc _) (by decide) rfl (fun ls hl => ?_)
      refine lv_goto (tgt := 4) hx hb dX4_waiting_35 rfl ?_
      exact ih4 (i + 1) ls (by first | omega | (dsimp only; omega)) ⟨(by omega), lv_sub hl [2, 1, 0] rfl⟩

set_option maxHeartbeats 4000000 in
set_option maxRecDepth 100000 in
theorem k_X4_seenOnes (n : Nat) (hI : Inv sS n) : RO l D (tyA cI cJ cO) yX4_seenOnes cX4_seenOnes 3 ((some .int)) 4 89 [.ref (A 0)] (MW cI cJ A sS kS oS aS tS ik cA tp td fm tt vl wr bO sO nU mV) (.int (setF (seenP sS n) n)) := by
  refine RO.mk (by decide) (Nat.le_of_ble_eq_true rfl) ?_
  intro p e s m below meth c ls S hr hlk hP hK hl
  have S : CallFix p m c cX4_seenOnes 3 s _ WL RX4 := S
  obtain ⟨hx, hb, hml, hown, hts⟩ := id S
  have hl : lv_has ls 3 [(0, .ref (A 0))] := hl
  have h8 : n ≤ 8 := hI.1
  refine lv_iconst (v := 0) hx hb dX4_seenOnes_0 rfl ?_
  refine lv_istore_n (lv' := [(1, .int 0), (0, .ref (A 0))]) hx hb dX4_seenOnes_1 rfl hl (by decide) rfl (fun ls hl => ?_)
  refine lv_iconst (v := 0) hx hb dX4_seenOnes_2 rfl ?_
  refine lv_istore_n (lv' := [(2, .int 0), (1, .int 0), (0, .ref (A 0))]) hx hb dX4_seenOnes_3 rfl hl (by decide) rfl (fun ls hl => ?_)
  refine w_loop (pc := 4) (st := fun (i : Nat) => []) (μ := fun (i : Nat) => n - i) (I := fun (i : Nat) ls => (i ≤ n) ∧ lv_has ls 3 [(0, .ref (A 0)), (1, .int (setF (seenP sS n) i)), (2, .int (nI i))]) ?_ (0) ⟨Nat.zero_le _, lv_sub hl [2, 1, 0] rfl⟩
  rintro i ls ⟨hi, hl⟩ ih4
  try dsimp only at ih4 ⊢
  refine lv_iload_n hx hb dX4_seenOnes_4 rfl (lv_at hl 2 rfl) ?_
  refine lv_aload_n hx hb dX4_seenOnes_5 rfl (lv_at hl 0 rfl) ?_
  refine va_get (ci := 4) (v := .ref (A 1)) hx hb hts wx_X4 hown hK hP 0 rfl rfl 0 (by decide) (hts _ wf_X4_7) (fun _ h9 => h9) rfl dX4_seenOnes_6 ?_
  refine lv_iconst (v := 1) hx hb dX4_seenOnes_9 rfl ?_
  refine ia_ld hx hb hK hP 1 0 rfl rfl 1 (rfl) (by omega) (by decide) dX4_seenOnes_10 ?_
  refine w_i (z := nI n) (hI.2.1) ?_
  refine lv_icmp_ge (tgt := 38) hx hb dX4_seenOnes_11 rfl (fun c11 => ?_) (fun c11 => ?_)
  · replace c11 := nq_le (a := n) (b := i) (by omega) (by omega) c11
    refine lv_iload_n hx hb dX4_seenOnes_38 rfl (lv_at hl 1 rfl) ?_
    exact ro_iret hx hb hr hlk (by rw [show i = n by omega]) dX4_seenOnes_39
  · replace c11 := nq_nle (a := n) (b := i) (by omega) (by omega) c11
    refine lv_iload_n hx hb dX4_seenOnes_14 rfl (lv_at hl 1 rfl) ?_
    refine lv_aload_n hx hb dX4_seenOnes_15 rfl (lv_at hl 0 rfl) ?_
    refine lv_iload_n hx hb dX4_seenOnes_16 rfl (lv_at hl 2 rfl) ?_
    refine ro_V (w := (MW cI cJ A sS kS oS aS tS ik cA tp td fm tt vl wr bO sO nU mV)) (rest := [.int (setF (seenP sS n) i)]) S hK hP (k_X4_lampsOn n i hI (by omega)) gv_X4_92 hd_X4_lampsOn ⟨Nat.le_of_ble_eq_true rfl, Nat.le_of_ble_eq_true rfl⟩ 4 rfl rfl rfl rfl hl.1 (lv_room (Nat.le_of_ble_eq_true rfl)) dX4_seenOnes_17 ⟨Nat.zero_le _, Nat.zero_le _⟩ ?_
    refine lv_if_eq (tgt := 29) hx hb dX4_seenOnes_20 rfl (fun c20 => ?_) (fun c20 => ?_)
    · refine lv_iconst (v := 0) hx hb dX4_seenOnes_29 rfl ?_
      refine lv_ior hx hb dX4_seenOnes_30 ?_
      refine w_i (z := setF (seenP sS n) (i + 1)) (setF_f0 (by simp [seenP, c20])) ?_
      refine lv_istore_n (lv' := [(1, .int (setF (seenP sS n) (i + 1))), (0, .ref (A 0)), (2, .int (nI i))]) hx hb dX4_seenOnes_31 rfl hl (by decide) rfl (fun ls hl => ?_)
      refine lv_iinc (v := nI (i + 1)) (lv' := [(2, .int (nI (i + 1))), (1, .int (setF (seenP sS n) (i + 1))), (0, .ref (A 0))]) hx hb dX4_seenOnes_32 hl (k := 2) rfl (nI_inc _) (by decide) rfl (fun ls hl => ?_)
      refine lv_goto (tgt := 4) hx hb dX4_seenOnes_35 rfl ?_
      exact ih4 (i + 1) ls (by first | omega | (dsimp only; omega)) ⟨(by omega), lv_sub hl [2, 1, 0] rfl⟩
    · refine lv_iconst (v := 1) hx hb dX4_seenOnes_23 rfl ?_
      refine lv_iload_n hx hb dX4_seenOnes_24 rfl (lv_at hl 2 rfl) ?_
      refine lv_ishl hx hb dX4_seenOnes_25 ?_
      refine lv_goto (tgt := 30) hx hb dX4_seenOnes_26 rfl ?_
      refine lv_ior hx hb dX4_seenOnes_30 ?_
      refine w_i (z := setF (seenP sS n) (i + 1)) (setF_t (by simp [seenP, c20])) ?_
      refine lv_istore_n (lv' := [(1, .int (setF (seenP sS n) (i + 1))), (0, .ref (A 0)), (2, .int (nI i))]) hx hb dX4_seenOnes_31 rfl hl (by decide) rfl (fun ls hl => ?_)
      refine lv_iinc (v := nI (i + 1)) (lv' := [(2, .int (nI (i + 1))), (1, .int (setF (seenP sS n) (i + 1))), (0, .ref (A 0))]) hx hb dX4_seenOnes_32 hl (k := 2) rfl (nI_inc _) (by decide) rfl (fun ls hl => ?_)
      refine lv_goto (tgt := 4) hx hb dX4_seenOnes_35 rfl ?_
      exact ih4 (i + 1) ls (by first | omega | (dsimp only; omega)) ⟨(by omega), lv_sub hl [2, 1, 0] rfl⟩

set_option maxHeartbeats 4000000 in
set_option maxRecDepth 100000 in
theorem k_X4_isSet (n : Nat) (w : Int32) (v : Int32) (hI : Inv sS n) : RO l D (tyA cI cJ cO) yX4_isSet cX4_isSet 3 ((some .boolean)) 2 46 [.ref (A 0), .int w, .int v] (MW cI cJ A sS kS oS aS tS ik cA tp td fm tt vl wr bO sO nU mV) (.int (b2i (setOK n w v))) := by
  refine RO.mk (by decide) (Nat.le_of_ble_eq_true rfl) ?_
  intro p e s m below meth c ls S hr hlk hP hK hl
  have S : CallFix p m c cX4_isSet 3 s _ WL RX4 := S
  obtain ⟨hx, hb, hml, hown, hts⟩ := id S
  have hl : lv_has ls 3 [(0, .ref (A 0)), (1, .int w), (2, .int v)] := hl
  have h8 : n ≤ 8 := hI.1
  refine lv_iload_n hx hb dX4_isSet_0 rfl (lv_at hl 1 rfl) ?_
  by_cases c1_1 : w = 1
  · refine lv_tableIn (tgt := 44) hx hb dX4_isSet_1 (by rw [c1_1]; decide) (by rw [c1_1]; decide) (by rw [c1_1]; rfl) rfl ?_
    refine lv_iload_n hx hb dX4_isSet_44 rfl (lv_at hl 2 rfl) ?_
    refine lv_i2l hx hb dX4_isSet_45 rfl ?_
    refine lv_lconst (v := 0) hx hb dX4_isSet_46 rfl ?_
    refine lv_ldc2 (v := 3) hx hb hown (hts _ wq_X4_116) dX4_isSet_47 ?_
    refine ro_S (w := []) (rest := []) S hK va_P0 (k_X4_inI v 0 3 _ _ (by decide) (by decide)) gs_X4_49 hd_X4_in ⟨Nat.le_of_ble_eq_true rfl, Nat.le_of_ble_eq_true rfl⟩ rfl hl.1 (lv_room (Nat.le_of_ble_eq_true rfl)) dX4_isSet_50 ⟨Nat.zero_le _, Nat.zero_le _⟩ ?_
    exact ro_zret hx hb hr hlk (by first | (simp [setOK, b2i, c1_1, i_lt, -Int32.not_le, -Int32.not_lt]; done) | (simp_all; done) | (simp_all [setOK, b2i]; done)) dX4_isSet_53
  by_cases c1_2 : w = 2
  · refine lv_tableIn (tgt := 54) hx hb dX4_isSet_1 (by rw [c1_2]; decide) (by rw [c1_2]; decide) (by rw [c1_2]; rfl) rfl ?_
    refine lv_iload_n hx hb dX4_isSet_54 rfl (lv_at hl 2 rfl) ?_
    refine lv_i2l hx hb dX4_isSet_55 rfl ?_
    refine lv_lconst (v := 0) hx hb dX4_isSet_56 rfl ?_
    refine lv_ldc2 (v := 19) hx hb hown (hts _ wq_X4_121) dX4_isSet_57 ?_
    refine ro_S (w := []) (rest := []) S hK va_P0 (k_X4_inI v 0 19 _ _ (by decide) (by decide)) gs_X4_49 hd_X4_in ⟨Nat.le_of_ble_eq_true rfl, Nat.le_of_ble_eq_true rfl⟩ rfl hl.1 (lv_room (Nat.le_of_ble_eq_true rfl)) dX4_isSet_60 ⟨Nat.zero_le _, Nat.zero_le _⟩ ?_
    exact ro_zret hx hb hr hlk (by first | (simp [setOK, b2i, c1_1, c1_2, i_lt, -Int32.not_le, -Int32.not_lt]; done) | (simp_all; done) | (simp_all [setOK, b2i]; done)) dX4_isSet_63
  by_cases c1_3 : w = 3
  · refine lv_tableIn (tgt := 64) hx hb dX4_isSet_1 (by rw [c1_3]; decide) (by rw [c1_3]; decide) (by rw [c1_3]; rfl) rfl ?_
    refine lv_iload_n hx hb dX4_isSet_64 rfl (lv_at hl 2 rfl) ?_
    refine lv_i2l hx hb dX4_isSet_65 rfl ?_
    refine lv_lconst (v := 0) hx hb dX4_isSet_66 rfl ?_
    refine lv_ldc2 (v := 99) hx hb hown (hts _ wq_X4_136) dX4_isSet_67 ?_
    refine ro_S (w := []) (rest := []) S hK va_P0 (k_X4_inI v 0 99 _ _ (by decide) (by decide)) gs_X4_49 hd_X4_in ⟨Nat.le_of_ble_eq_true rfl, Nat.le_of_ble_eq_true rfl⟩ rfl hl.1 (lv_room (Nat.le_of_ble_eq_true rfl)) dX4_isSet_70 ⟨Nat.zero_le _, Nat.zero_le _⟩ ?_
    exact ro_zret hx hb hr hlk (by first | (simp [setOK, b2i, c1_1, c1_2, c1_3, i_lt, -Int32.not_le, -Int32.not_lt]; done) | (simp_all; done) | (simp_all [setOK, b2i]; done)) dX4_isSet_73
  by_cases c1_4 : w = 4
  · refine lv_tableIn (tgt := 74) hx hb dX4_isSet_1 (by rw [c1_4]; decide) (by rw [c1_4]; decide) (by rw [c1_4]; rfl) rfl ?_
    refine lv_iload_n hx hb dX4_isSet_74 rfl (lv_at hl 2 rfl) ?_
    refine lv_i2l hx hb dX4_isSet_75 rfl ?_
    refine lv_lconst (v := 0) hx hb dX4_isSet_76 rfl ?_
    refine lv_lconst (v := 1) hx hb dX4_isSet_77 rfl ?_
    refine ro_S (w := []) (rest := []) S hK va_P0 (k_X4_inI v 0 1 _ _ (by decide) (by decide)) gs_X4_49 hd_X4_in ⟨Nat.le_of_ble_eq_true rfl, Nat.le_of_ble_eq_true rfl⟩ rfl hl.1 (lv_room (Nat.le_of_ble_eq_true rfl)) dX4_isSet_78 ⟨Nat.zero_le _, Nat.zero_le _⟩ ?_
    exact ro_zret hx hb hr hlk (by first | (simp [setOK, b2i, c1_1, c1_2, c1_3, c1_4, i_lt, -Int32.not_le, -Int32.not_lt]; done) | (simp_all; done) | (simp_all [setOK, b2i]; done)) dX4_isSet_81
  by_cases c1_5 : w = 5
  · refine lv_tableIn (tgt := 82) hx hb dX4_isSet_1 (by rw [c1_5]; decide) (by rw [c1_5]; decide) (by rw [c1_5]; rfl) rfl ?_
    refine lv_iload_n hx hb dX4_isSet_82 rfl (lv_at hl 2 rfl) ?_
    refine lv_i2l hx hb dX4_isSet_83 rfl ?_
    refine lv_lconst (v := 0) hx hb dX4_isSet_84 rfl ?_
    refine lv_ldc2 (v := 4) hx hb hown (hts _ wq_X4_138) dX4_isSet_85 ?_
    refine ro_S (w := []) (rest := []) S hK va_P0 (k_X4_inI v 0 4 _ _ (by decide) (by decide)) gs_X4_49 hd_X4_in ⟨Nat.le_of_ble_eq_true rfl, Nat.le_of_ble_eq_true rfl⟩ rfl hl.1 (lv_room (Nat.le_of_ble_eq_true rfl)) dX4_isSet_88 ⟨Nat.zero_le _, Nat.zero_le _⟩ ?_
    exact ro_zret hx hb hr hlk (by first | (simp [setOK, b2i, c1_1, c1_2, c1_3, c1_4, c1_5, i_lt, -Int32.not_le, -Int32.not_lt]; done) | (simp_all; done) | (simp_all [setOK, b2i]; done)) dX4_isSet_91
  by_cases c1_6 : w = 6
  · refine lv_tableIn (tgt := 92) hx hb dX4_isSet_1 (by rw [c1_6]; decide) (by rw [c1_6]; decide) (by rw [c1_6]; rfl) rfl ?_
    refine lv_iload_n hx hb dX4_isSet_92 rfl (lv_at hl 2 rfl) ?_
    refine lv_iconst (v := (-1)) hx hb dX4_isSet_93 rfl ?_
    refine lv_icmp_eq (tgt := 105) hx hb dX4_isSet_94 rfl (fun c94 => ?_) (fun c94 => ?_)
    · refine lv_iconst (v := 1) hx hb dX4_isSet_105 rfl ?_
      refine lv_goto (tgt := 110) hx hb dX4_isSet_106 rfl ?_
      exact ro_zret hx hb hr hlk (by first | (simp [setOK, b2i, c1_1, c1_2, c1_3, c1_4, c1_5, c1_6, c94, i_lt, -Int32.not_le, -Int32.not_lt]; done) | (simp_all; done) | (simp_all [setOK, b2i]; done)) dX4_isSet_110
    · refine lv_aload_n hx hb dX4_isSet_97 rfl (lv_at hl 0 rfl) ?_
      refine lv_iload_n hx hb dX4_isSet_98 rfl (lv_at hl 2 rfl) ?_
      refine ro_V (w := (MW cI cJ A sS kS oS aS tS ik cA tp td fm tt vl wr bO sO nU mV)) (rest := []) S hK hP (k_X4_isFigure n v hI) gv_X4_128 hd_X4_isFigure ⟨Nat.le_of_ble_eq_true rfl, Nat.le_of_ble_eq_true rfl⟩ 4 rfl rfl rfl rfl hl.1 (lv_room (Nat.le_of_ble_eq_true rfl)) dX4_isSet_99 ⟨Nat.zero_le _, Nat.zero_le _⟩ ?_
      refine lv_if_eq (tgt := 109) hx hb dX4_isSet_102 rfl (fun c102 => ?_) (fun c102 => ?_)
      · replace c102 := (b2i_0 _).mp c102
        refine lv_iconst (v := 0) hx hb dX4_isSet_109 rfl ?_
        exact ro_zret hx hb hr hlk (by first | (simp [setOK, b2i, c1_1, c1_2, c1_3, c1_4, c1_5, c1_6, c94, c102, i_lt, -Int32.not_le, -Int32.not_lt]; done) | (simp_all; done) | (simp_all [setOK, b2i]; done)) dX4_isSet_110
      · replace c102 := b2i_n0 c102
        refine lv_iconst (v := 1) hx hb dX4_isSet_105 rfl ?_
        refine lv_goto (tgt := 110) hx hb dX4_isSet_106 rfl ?_
        exact ro_zret hx hb hr hlk (by first | (simp [setOK, b2i, c1_1, c1_2, c1_3, c1_4, c1_5, c1_6, c94, c102, i_lt, -Int32.not_le, -Int32.not_lt]; done) | (simp_all; done) | (simp_all [setOK, b2i]; done)) dX4_isSet_110
  by_cases c1_7 : w = 7
  · refine lv_tableIn (tgt := 74) hx hb dX4_isSet_1 (by rw [c1_7]; decide) (by rw [c1_7]; decide) (by rw [c1_7]; rfl) rfl ?_
    refine lv_iload_n hx hb dX4_isSet_74 rfl (lv_at hl 2 rfl) ?_
    refine lv_i2l hx hb dX4_isSet_75 rfl ?_
    refine lv_lconst (v := 0) hx hb dX4_isSet_76 rfl ?_
    refine lv_lconst (v := 1) hx hb dX4_isSet_77 rfl ?_
    refine ro_S (w := []) (rest := []) S hK va_P0 (k_X4_inI v 0 1 _ _ (by decide) (by decide)) gs_X4_49 hd_X4_in ⟨Nat.le_of_ble_eq_true rfl, Nat.le_of_ble_eq_true rfl⟩ rfl hl.1 (lv_room (Nat.le_of_ble_eq_true rfl)) dX4_isSet_78 ⟨Nat.zero_le _, Nat.zero_le _⟩ ?_
    exact ro_zret hx hb hr hlk (by first | (simp [setOK, b2i, c1_1, c1_2, c1_3, c1_4, c1_5, c1_6, c1_7, i_lt, -Int32.not_le, -Int32.not_lt]; done) | (simp_all; done) | (simp_all [setOK, b2i]; done)) dX4_isSet_81
  refine lv_tableOut (tgt := 111) hx hb dX4_isSet_1 (by have q0 := lv_neT c1_1 (a := 1) rfl; have q1 := lv_neT c1_2 (a := 2) rfl; have q2 := lv_neT c1_3 (a := 3) rfl; have q3 := lv_neT c1_4 (a := 4) rfl; have q4 := lv_neT c1_5 (a := 5) rfl; have q5 := lv_neT c1_6 (a := 6) rfl; have q6 := lv_neT c1_7 (a := 7) rfl; omega) rfl ?_
  refine lv_iload_n hx hb dX4_isSet_111 rfl (lv_at hl 1 rfl) ?_
  refine lv_bipush (v := 8) hx hb dX4_isSet_112 rfl ?_
  refine lv_icmp_ne (tgt := 133) hx hb dX4_isSet_114 rfl (fun c114 => ?_) (fun c114 => ?_)
  · refine lv_iconst (v := 0) hx hb dX4_isSet_133 rfl ?_
    exact ro_zret hx hb hr hlk (by first | (simp [setOK, b2i, c1_1, c1_2, c1_3, c1_4, c1_5, c1_6, c1_7, c114, i_lt, -Int32.not_le, -Int32.not_lt]; done) | (simp_all; done) | (simp_all [setOK, b2i]; done)) dX4_isSet_134
  · refine lv_iload_n hx hb dX4_isSet_117 rfl (lv_at hl 2 rfl) ?_
    refine lv_i2l hx hb dX4_isSet_118 rfl ?_
    refine lv_lconst (v := 0) hx hb dX4_isSet_119 rfl ?_
    refine lv_ldc2 (v := 9999) hx hb hown (hts _ wq_X4_140) dX4_isSet_120 ?_
    refine ro_S (w := []) (rest := []) S hK va_P0 (k_X4_inI v 0 9999 _ _ (by decide) (by decide)) gs_X4_49 hd_X4_in ⟨Nat.le_of_ble_eq_true rfl, Nat.le_of_ble_eq_true rfl⟩ rfl hl.1 (lv_room (Nat.le_of_ble_eq_true rfl)) dX4_isSet_123 ⟨Nat.zero_le _, Nat.zero_le _⟩ ?_
    refine lv_if_eq (tgt := 133) hx hb dX4_isSet_126 rfl (fun c126 => ?_) (fun c126 => ?_)
    · replace c126 := (b2i_0 _).mp c126
      refine lv_iconst (v := 0) hx hb dX4_isSet_133 rfl ?_
      exact ro_zret hx hb hr hlk (by first | (simp [setOK, b2i, c1_1, c1_2, c1_3, c1_4, c1_5, c1_6, c1_7, c114, c126, i_lt, -Int32.not_le, -Int32.not_lt]; done) | (simp_all; done) | (simp_all [setOK, b2i]; done)) dX4_isSet_134
    · replace c126 := b2i_n0 c126
      refine lv_iconst (v := 1) hx hb dX4_isSet_129 rfl ?_
      refine lv_goto (tgt := 134) hx hb dX4_isSet_130 rfl ?_
      exact ro_zret hx hb hr hlk (by first | (simp [setOK, b2i, c1_1, c1_2, c1_3, c1_4, c1_5, c1_6, c1_7, c114, c126, i_lt, -Int32.not_le, -Int32.not_lt]; done) | (simp_all; done) | (simp_all [setOK, b2i]; done)) dX4_isSet_134

set_option maxHeartbeats 4000000 in
set_option maxRecDepth 100000 in
theorem k_X4_isUnder (k : Int32) (o : Int32) : RO l D (tyA cI cJ cO) yX4_isUnder cX4_isUnder 2 ((some .boolean)) 0 0 [.int k, .int o] [] (.int (b2i (under k o))) := by
  refine RO.mk (by decide) (Nat.le_of_ble_eq_true rfl) ?_
  intro p e s m below meth c ls S hr hlk hP hK hl
  have S : CallFix p m c cX4_isUnder 2 s _ WL RX4 := S
  obtain ⟨hx, hb, hml, hown, hts⟩ := id S
  have hl : lv_has ls 2 [(0, .int k), (1, .int o)] := hl
  refine lv_iload_n hx hb dX4_isUnder_0 rfl (lv_at hl 1 rfl) ?_
  refine lv_if_eq (tgt := 29) hx hb dX4_isUnder_1 rfl (fun c1 => ?_) (fun c1 => ?_)
  · refine lv_iconst (v := 1) hx hb dX4_isUnder_29 rfl ?_
    refine lv_goto (tgt := 34) hx hb dX4_isUnder_30 rfl ?_
    exact ro_zret hx hb hr hlk (by first | (simp [under, b2i, c1, i_lt, -Int32.not_le, -Int32.not_lt]; done) | (simp_all; done) | (simp_all [under, b2i]; done)) dX4_isUnder_34
  · refine lv_iload_n hx hb dX4_isUnder_4 rfl (lv_at hl 0 rfl) ?_
    refine lv_iload_n hx hb dX4_isUnder_5 rfl (lv_at hl 1 rfl) ?_
    refine lv_icmp_eq (tgt := 29) hx hb dX4_isUnder_6 rfl (fun c6 => ?_) (fun c6 => ?_)
    · refine lv_iconst (v := 1) hx hb dX4_isUnder_29 rfl ?_
      refine lv_goto (tgt := 34) hx hb dX4_isUnder_30 rfl ?_
      exact ro_zret hx hb hr hlk (by first | (simp [under, b2i, c1, c6, i_lt, -Int32.not_le, -Int32.not_lt]; done) | (simp_all; done) | (simp_all [under, b2i]; done)) dX4_isUnder_34
    · refine lv_iload_n hx hb dX4_isUnder_9 rfl (lv_at hl 0 rfl) ?_
      refine lv_iconst (v := 4) hx hb dX4_isUnder_10 rfl ?_
      refine lv_icmp_ne (tgt := 19) hx hb dX4_isUnder_11 rfl (fun c11 => ?_) (fun c11 => ?_)
      · refine lv_iload_n hx hb dX4_isUnder_19 rfl (lv_at hl 0 rfl) ?_
        refine lv_iconst (v := 5) hx hb dX4_isUnder_20 rfl ?_
        refine lv_icmp_ne (tgt := 33) hx hb dX4_isUnder_21 rfl (fun c21 => ?_) (fun c21 => ?_)
        · refine lv_iconst (v := 0) hx hb dX4_isUnder_33 rfl ?_
          exact ro_zret hx hb hr hlk (by first | (simp [under, b2i, c1, c6, c11, c21, i_lt, -Int32.not_le, -Int32.not_lt]; done) | (simp_all; done) | (simp_all [under, b2i]; done)) dX4_isUnder_34
        · refine lv_iload_n hx hb dX4_isUnder_24 rfl (lv_at hl 1 rfl) ?_
          refine lv_iconst (v := 2) hx hb dX4_isUnder_25 rfl ?_
          refine lv_icmp_ne (tgt := 33) hx hb dX4_isUnder_26 rfl (fun c26 => ?_) (fun c26 => ?_)
          · refine lv_iconst (v := 0) hx hb dX4_isUnder_33 rfl ?_
            exact ro_zret hx hb hr hlk (by first | (simp [under, b2i, c1, c6, c11, c21, c26, i_lt, -Int32.not_le, -Int32.not_lt]; done) | (simp_all; done) | (simp_all [under, b2i]; done)) dX4_isUnder_34
          · refine lv_iconst (v := 1) hx hb dX4_isUnder_29 rfl ?_
            refine lv_goto (tgt := 34) hx hb dX4_isUnder_30 rfl ?_
            exact ro_zret hx hb hr hlk (by first | (simp [under, b2i, c1, c6, c11, c21, c26, i_lt, -Int32.not_le, -Int32.not_lt]; done) | (simp_all; done) | (simp_all [under, b2i]; done)) dX4_isUnder_34
      · refine lv_iload_n hx hb dX4_isUnder_14 rfl (lv_at hl 1 rfl) ?_
        refine lv_iconst (v := 1) hx hb dX4_isUnder_15 rfl ?_
        refine lv_icmp_eq (tgt := 29) hx hb dX4_isUnder_16 rfl (fun c16 => ?_) (fun c16 => ?_)
        · refine lv_iconst (v := 1) hx hb dX4_isUnder_29 rfl ?_
          refine lv_goto (tgt := 34) hx hb dX4_isUnder_30 rfl ?_
          exact ro_zret hx hb hr hlk (by first | (simp [under, b2i, c1, c6, c11, c16, i_lt, -Int32.not_le, -Int32.not_lt]; done) | (simp_all; done) | (simp_all [under, b2i]; done)) dX4_isUnder_34
        · refine lv_iload_n hx hb dX4_isUnder_19 rfl (lv_at hl 0 rfl) ?_
          refine lv_iconst (v := 5) hx hb dX4_isUnder_20 rfl ?_
          refine lv_icmp_ne (tgt := 33) hx hb dX4_isUnder_21 rfl (fun c21 => ?_) (fun c21 => ?_)
          · refine lv_iconst (v := 0) hx hb dX4_isUnder_33 rfl ?_
            exact ro_zret hx hb hr hlk (by first | (simp [under, b2i, c1, c6, c11, c16, c21, i_lt, -Int32.not_le, -Int32.not_lt]; done) | (simp_all; done) | (simp_all [under, b2i]; done)) dX4_isUnder_34
          · refine lv_iload_n hx hb dX4_isUnder_24 rfl (lv_at hl 1 rfl) ?_
            refine lv_iconst (v := 2) hx hb dX4_isUnder_25 rfl ?_
            refine lv_icmp_ne (tgt := 33) hx hb dX4_isUnder_26 rfl (fun c26 => ?_) (fun c26 => ?_)
            · refine lv_iconst (v := 0) hx hb dX4_isUnder_33 rfl ?_
              exact ro_zret hx hb hr hlk (by first | (simp [under, b2i, c1, c6, c11, c16, c21, c26, i_lt, -Int32.not_le, -Int32.not_lt]; done) | (simp_all; done) | (simp_all [under, b2i]; done)) dX4_isUnder_34
            · refine lv_iconst (v := 1) hx hb dX4_isUnder_29 rfl ?_
              refine lv_goto (tgt := 34) hx hb dX4_isUnder_30 rfl ?_
              exact ro_zret hx hb hr hlk (by first | (simp [under, b2i, c1, c6, c11, c16, c21, c26, i_lt, -Int32.not_le, -Int32.not_lt]; done) | (simp_all; done) | (simp_all [under, b2i]; done)) dX4_isUnder_34

set_option maxHeartbeats 4000000 in
set_option maxRecDepth 100000 in
theorem k_X4_isAhead (k : Int32) : RO l D (tyA cI cJ cO) yX4_isAhead cX4_isAhead 1 ((some .boolean)) 1 25 [.int k] [] (.int (b2i (inI k 0 200))) := by
  refine RO.mk (by decide) (Nat.le_of_ble_eq_true rfl) ?_
  intro p e s m below meth c ls S hr hlk hP hK hl
  have S : CallFix p m c cX4_isAhead 1 s _ WL RX4 := S
  obtain ⟨hx, hb, hml, hown, hts⟩ := id S
  have hl : lv_has ls 1 [(0, .int k)] := hl
  refine lv_iload_n hx hb dX4_isAhead_0 rfl (lv_at hl 0 rfl) ?_
  refine lv_i2l hx hb dX4_isAhead_1 rfl ?_
  refine lv_lconst (v := 0) hx hb dX4_isAhead_2 rfl ?_
  refine lv_ldc2 (v := 200) hx hb hown (hts _ wq_X4_169) dX4_isAhead_3 ?_
  refine ro_S (w := []) (rest := []) S hK va_P0 (k_X4_inI k 0 200 _ _ (by decide) (by decide)) gs_X4_49 hd_X4_in ⟨Nat.le_of_ble_eq_true rfl, Nat.le_of_ble_eq_true rfl⟩ rfl hl.1 (lv_room (Nat.le_of_ble_eq_true rfl)) dX4_isAhead_6 ⟨Nat.zero_le _, Nat.zero_le _⟩ ?_
  exact ro_zret hx hb hr hlk (rfl) dX4_isAhead_9

set_option maxHeartbeats 4000000 in
set_option maxRecDepth 100000 in
theorem k_X4_isSoon (k : Int32) : RO l D (tyA cI cJ cO) yX4_isSoon cX4_isSoon 1 ((some .boolean)) 1 25 [.int k] [] (.int (b2i (inI k 1 40))) := by
  refine RO.mk (by decide) (Nat.le_of_ble_eq_true rfl) ?_
  intro p e s m below meth c ls S hr hlk hP hK hl
  have S : CallFix p m c cX4_isSoon 1 s _ WL RX4 := S
  obtain ⟨hx, hb, hml, hown, hts⟩ := id S
  have hl : lv_has ls 1 [(0, .int k)] := hl
  refine lv_iload_n hx hb dX4_isSoon_0 rfl (lv_at hl 0 rfl) ?_
  refine lv_i2l hx hb dX4_isSoon_1 rfl ?_
  refine lv_lconst (v := 1) hx hb dX4_isSoon_2 rfl ?_
  refine lv_ldc2 (v := 40) hx hb hown (hts _ wq_X4_193) dX4_isSoon_3 ?_
  refine ro_S (w := []) (rest := []) S hK va_P0 (k_X4_inI k 1 40 _ _ (by decide) (by decide)) gs_X4_49 hd_X4_in ⟨Nat.le_of_ble_eq_true rfl, Nat.le_of_ble_eq_true rfl⟩ rfl hl.1 (lv_room (Nat.le_of_ble_eq_true rfl)) dX4_isSoon_6 ⟨Nat.zero_le _, Nat.zero_le _⟩ ?_
  exact ro_zret hx hb hr hlk (rfl) dX4_isSoon_9

set_option maxHeartbeats 4000000 in
set_option maxRecDepth 100000 in
theorem k_X4_isOne (k : Int32) : RO l D (tyA cI cJ cO) yX4_isOne cX4_isOne 1 ((some .boolean)) 1 25 [.int k] [] (.int (b2i (inI k 0 3))) := by
  refine RO.mk (by decide) (Nat.le_of_ble_eq_true rfl) ?_
  intro p e s m below meth c ls S hr hlk hP hK hl
  have S : CallFix p m c cX4_isOne 1 s _ WL RX4 := S
  obtain ⟨hx, hb, hml, hown, hts⟩ := id S
  have hl : lv_has ls 1 [(0, .int k)] := hl
  refine lv_iload_n hx hb dX4_isOne_0 rfl (lv_at hl 0 rfl) ?_
  refine lv_i2l hx hb dX4_isOne_1 rfl ?_
  refine lv_lconst (v := 0) hx hb dX4_isOne_2 rfl ?_
  refine lv_ldc2 (v := 3) hx hb hown (hts _ wq_X4_116) dX4_isOne_3 ?_
  refine ro_S (w := []) (rest := []) S hK va_P0 (k_X4_inI k 0 3 _ _ (by decide) (by decide)) gs_X4_49 hd_X4_in ⟨Nat.le_of_ble_eq_true rfl, Nat.le_of_ble_eq_true rfl⟩ rfl hl.1 (lv_room (Nat.le_of_ble_eq_true rfl)) dX4_isOne_6 ⟨Nat.zero_le _, Nat.zero_le _⟩ ?_
  exact ro_zret hx hb hr hlk (rfl) dX4_isOne_9

set_option maxHeartbeats 4000000 in
set_option maxRecDepth 100000 in
theorem k_X4_isLetter (k : Int32) : RO l D (tyA cI cJ cO) yX4_isLetter cX4_isLetter 1 ((some .boolean)) 1 25 [.int k] [] (.int (b2i (inI k 97 122))) := by
  refine RO.mk (by decide) (Nat.le_of_ble_eq_true rfl) ?_
  intro p e s m below meth c ls S hr hlk hP hK hl
  have S : CallFix p m c cX4_isLetter 1 s _ WL RX4 := S
  obtain ⟨hx, hb, hml, hown, hts⟩ := id S
  have hl : lv_has ls 1 [(0, .int k)] := hl
  refine lv_iload_n hx hb dX4_isLetter_0 rfl (lv_at hl 0 rfl) ?_
  refine lv_i2l hx hb dX4_isLetter_1 rfl ?_
  refine lv_ldc2 (v := 97) hx hb hown (hts _ wq_X4_211) dX4_isLetter_2 ?_
  refine lv_ldc2 (v := 122) hx hb hown (hts _ wq_X4_213) dX4_isLetter_5 ?_
  refine ro_S (w := []) (rest := []) S hK va_P0 (k_X4_inI k 97 122 _ _ (by decide) (by decide)) gs_X4_49 hd_X4_in ⟨Nat.le_of_ble_eq_true rfl, Nat.le_of_ble_eq_true rfl⟩ rfl hl.1 (lv_room (Nat.le_of_ble_eq_true rfl)) dX4_isLetter_8 ⟨Nat.zero_le _, Nat.zero_le _⟩ ?_
  exact ro_zret hx hb hr hlk (rfl) dX4_isLetter_11

set_option maxHeartbeats 4000000 in
set_option maxRecDepth 100000 in
theorem k_X4_isDigit (k : Int32) : RO l D (tyA cI cJ cO) yX4_isDigit cX4_isDigit 1 ((some .boolean)) 1 25 [.int k] [] (.int (b2i (inI k 48 57))) := by
  refine RO.mk (by decide) (Nat.le_of_ble_eq_true rfl) ?_
  intro p e s m below meth c ls S hr hlk hP hK hl
  have S : CallFix p m c cX4_isDigit 1 s _ WL RX4 := S
  obtain ⟨hx, hb, hml, hown, hts⟩ := id S
  have hl : lv_has ls 1 [(0, .int k)] := hl
  refine lv_iload_n hx hb dX4_isDigit_0 rfl (lv_at hl 0 rfl) ?_
  refine lv_i2l hx hb dX4_isDigit_1 rfl ?_
  refine lv_ldc2 (v := 48) hx hb hown (hts _ wq_X4_215) dX4_isDigit_2 ?_
  refine lv_ldc2 (v := 57) hx hb hown (hts _ wq_X4_217) dX4_isDigit_5 ?_
  refine ro_S (w := []) (rest := []) S hK va_P0 (k_X4_inI k 48 57 _ _ (by decide) (by decide)) gs_X4_49 hd_X4_in ⟨Nat.le_of_ble_eq_true rfl, Nat.le_of_ble_eq_true rfl⟩ rfl hl.1 (lv_room (Nat.le_of_ble_eq_true rfl)) dX4_isDigit_8 ⟨Nat.zero_le _, Nat.zero_le _⟩ ?_
  exact ro_zret hx hb hr hlk (rfl) dX4_isDigit_11

set_option maxHeartbeats 4000000 in
set_option maxRecDepth 100000 in
theorem k_X4_columnBy (n : Nat) (f : Nat) (r : Int32) (hI : Inv sS n) (hf : f < n) (hw : its sS f 6 = nI (whomN sS f) ∧ whomN sS f < n) : RO l D (tyA cI cJ cO) yX4_columnBy cX4_columnBy 7 ((some .int)) 3 66 [.ref (A 0), .int (nI f), .int r] (MW cI cJ A sS kS oS aS tS ik cA tp td fm tt vl wr bO sO nU mV) (.int (columnBy sS f r)) := by
  refine RO.mk (by decide) (Nat.le_of_ble_eq_true rfl) ?_
  intro p e s m below meth c ls S hr hlk hP hK hl
  have S : CallFix p m c cX4_columnBy 7 s _ WL RX4 := S
  obtain ⟨hx, hb, hml, hown, hts⟩ := id S
  have hl : lv_has ls 7 [(0, .ref (A 0)), (1, .int (nI f)), (2, .int r)] := hl
  have h8 : n ≤ 8 := hI.1
  have hw1 := hw.1
  have hw2 := hw.2
  refine lv_aload_n hx hb dX4_columnBy_0 rfl (lv_at hl 0 rfl) ?_
  refine lv_iload_n hx hb dX4_columnBy_1 rfl (lv_at hl 1 rfl) ?_
  refine lv_iconst (v := 2) hx hb dX4_columnBy_2 rfl ?_
  refine ro_V (w := (MW cI cJ A sS kS oS aS tS ik cA tp td fm tt vl wr bO sO nU mV)) (rest := []) S hK hP (k_X4_its f 2 (by omega) (by omega)) gv_X4_55 hd_X4_its ⟨Nat.le_of_ble_eq_true rfl, Nat.le_of_ble_eq_true rfl⟩ 4 rfl rfl rfl rfl hl.1 (lv_room (Nat.le_of_ble_eq_true rfl)) dX4_columnBy_3 ⟨Nat.zero_le _, Nat.zero_le _⟩ ?_
  refine lv_istore_n (lv' := [(3, .int (its sS f 2)), (0, .ref (A 0)), (1, .int (nI f)), (2, .int r)]) hx hb dX4_columnBy_6 rfl hl (by decide) rfl (fun ls hl => ?_)
  refine lv_aload_n hx hb dX4_columnBy_7 rfl (lv_at hl 1 rfl) ?_
  refine va_get (ci := 4) (v := .ref (A 1)) hx hb hts wx_X4 hown hK hP 0 rfl rfl 0 (by decide) (hts _ wf_X4_7) (fun _ h9 => h9) rfl dX4_columnBy_8 ?_
  refine lv_aload_n hx hb dX4_columnBy_11 rfl (lv_at hl 1 rfl) ?_
  refine lv_iload_n hx hb dX4_columnBy_12 rfl (lv_at hl 2 rfl) ?_
  refine lv_bipush (v := 6) hx hb dX4_columnBy_13 rfl ?_
  refine ro_V (w := (MW cI cJ A sS kS oS aS tS ik cA tp td fm tt vl wr bO sO nU mV)) (rest := [.ref (A 1)]) S hK hP (k_X4_its f 6 (by omega) (by omega)) gv_X4_55 hd_X4_its ⟨Nat.le_of_ble_eq_true rfl, Nat.le_of_ble_eq_true rfl⟩ 4 rfl rfl rfl rfl hl.1 (lv_room (Nat.le_of_ble_eq_true rfl)) dX4_columnBy_15 ⟨Nat.zero_le _, Nat.zero_le _⟩ ?_
  refine w_i (z := nI (whomN sS f)) (hw1) ?_
  refine lv_iconst (v := 2) hx hb dX4_columnBy_18 rfl ?_
  refine ro_S (w := []) (rest := [.ref (A 1)]) S hK va_P0 (k_X4_spot (whomN sS f) 2) gs_X4_45 hd_X4_spot ⟨Nat.le_of_ble_eq_true rfl, Nat.le_of_ble_eq_true rfl⟩ rfl hl.1 (lv_room (Nat.le_of_ble_eq_true rfl)) dX4_columnBy_19 ⟨Nat.zero_le _, Nat.zero_le _⟩ ?_
  refine ia_ld hx hb hK hP 1 0 rfl rfl (9 * (whomN sS f) + 2 + 3) (rfl) (by omega) (by decide) dX4_columnBy_22 ?_
  refine w_i (z := its sS (whomN sS f) 2) (rfl) ?_
  refine lv_istore (lv' := [(4, .int (its sS (whomN sS f) 2)), (3, .int (its sS f 2)), (0, .ref (A 0)), (1, .int (nI f)), (2, .int r)]) hx hb dX4_columnBy_23 hl (by decide) rfl (fun ls hl => ?_)
  refine lv_aload_n hx hb dX4_columnBy_25 rfl (lv_at hl 2 rfl) ?_
  refine lv_iload_n hx hb dX4_columnBy_26 rfl (lv_at hl 3 rfl) ?_
  refine lv_iconst (v := 5) hx hb dX4_columnBy_27 rfl ?_
  refine ro_V (w := (MW cI cJ A sS kS oS aS tS ik cA tp td fm tt vl wr bO sO nU mV)) (rest := []) S hK hP (k_X4_its f 5 (by omega) (by omega)) gv_X4_55 hd_X4_its ⟨Nat.le_of_ble_eq_true rfl, Nat.le_of_ble_eq_true rfl⟩ 4 rfl rfl rfl rfl hl.1 (lv_room (Nat.le_of_ble_eq_true rfl)) dX4_columnBy_28 ⟨Nat.zero_le _, Nat.zero_le _⟩ ?_
  refine lv_iconst (v := 2) hx hb dX4_columnBy_31 rfl ?_
  refine lv_icmp_ne (tgt := 57) hx hb dX4_columnBy_32 rfl (fun c32 => ?_) (fun c32 => ?_)
  · refine lv_aload_n hx hb dX4_columnBy_57 rfl (lv_at hl 2 rfl) ?_
    refine lv_iload_n hx hb dX4_columnBy_58 rfl (lv_at hl 3 rfl) ?_
    refine lv_aload_n hx hb dX4_columnBy_59 rfl (lv_at hl 2 rfl) ?_
    refine lv_iload_n hx hb dX4_columnBy_60 rfl (lv_at hl 3 rfl) ?_
    refine lv_bipush (v := 6) hx hb dX4_columnBy_61 rfl ?_
    refine ro_V (w := (MW cI cJ A sS kS oS aS tS ik cA tp td fm tt vl wr bO sO nU mV)) (rest := [.int (nI f), .ref (A 0)]) S hK hP (k_X4_its f 6 (by omega) (by omega)) gv_X4_55 hd_X4_its ⟨Nat.le_of_ble_eq_true rfl, Nat.le_of_ble_eq_true rfl⟩ 4 rfl rfl rfl rfl hl.1 (lv_room (Nat.le_of_ble_eq_true rfl)) dX4_columnBy_63 ⟨Nat.zero_le _, Nat.zero_le _⟩ ?_
    refine w_i (z := nI (whomN sS f)) (hw1) ?_
    refine ro_V (w := (MW cI cJ A sS kS oS aS tS ik cA tp td fm tt vl wr bO sO nU mV)) (rest := []) S hK hP (k_X4_apart f (whomN sS f) (by omega) (by omega)) gv_X4_79 hd_X4_apart ⟨Nat.le_of_ble_eq_true rfl, Nat.le_of_ble_eq_true rfl⟩ 4 rfl rfl rfl rfl hl.1 (lv_room (Nat.le_of_ble_eq_true rfl)) dX4_columnBy_66 ⟨Nat.zero_le _, Nat.zero_le _⟩ ?_
    refine lv_iconst (v := 1) hx hb dX4_columnBy_69 rfl ?_
    refine lv_isub hx hb dX4_columnBy_70 ?_
    refine lv_istore (lv' := [(5, .int ((apart sS f (whomN sS f)) - 1)), (4, .int (its sS (whomN sS f) 2)), (3, .int (its sS f 2)), (0, .ref (A 0)), (1, .int (nI f)), (2, .int r)]) hx hb dX4_columnBy_71 hl (by decide) rfl (fun ls hl => ?_)
    refine lv_iload_n hx hb dX4_columnBy_73 rfl (lv_at hl 5 rfl) ?_
    refine lv_iload hx hb dX4_columnBy_74 (lv_at hl 0 rfl) ?_
    refine lv_icmp_ge (tgt := 83) hx hb dX4_columnBy_76 rfl (fun c76 => ?_) (fun c76 => ?_)
    · refine lv_iload hx hb dX4_columnBy_83 (lv_at hl 0 rfl) ?_
      refine lv_istore (lv' := [(6, .int ((apart sS f (whomN sS f)) - 1)), (5, .int ((apart sS f (whomN sS f)) - 1)), (4, .int (its sS (whomN sS f) 2)), (3, .int (its sS f 2)), (0, .ref (A 0)), (1, .int (nI f)), (2, .int r)]) hx hb dX4_columnBy_85 hl (by decide) rfl (fun ls hl => ?_)
      refine lv_iload_n hx hb dX4_columnBy_87 rfl (lv_at hl 3 rfl) ?_
      refine lv_iload hx hb dX4_columnBy_88 (lv_at hl 2 rfl) ?_
      refine lv_icmp_ge (tgt := 100) hx hb dX4_columnBy_90 rfl (fun c90 => ?_) (fun c90 => ?_)
      · refine lv_iload_n hx hb dX4_columnBy_100 rfl (lv_at hl 3 rfl) ?_
        refine lv_iload hx hb dX4_columnBy_101 (lv_at hl 0 rfl) ?_
        refine lv_isub hx hb dX4_columnBy_103 ?_
        exact ro_iret hx hb hr hlk (by first | (simp [columnBy, c32, c76, c90, i_lt, -Int32.not_le, -Int32.not_lt]; done) | (simp_all; done) | (simp_all [columnBy]; done)) dX4_columnBy_104
      · refine lv_iload_n hx hb dX4_columnBy_93 rfl (lv_at hl 3 rfl) ?_
        refine lv_iload hx hb dX4_columnBy_94 (lv_at hl 0 rfl) ?_
        refine lv_iadd hx hb dX4_columnBy_96 ?_
        refine lv_goto (tgt := 104) hx hb dX4_columnBy_97 rfl ?_
        exact ro_iret hx hb hr hlk (by first | (simp [columnBy, c32, c76, c90, i_lt, -Int32.not_le, -Int32.not_lt]; done) | (simp_all; done) | (simp_all [columnBy]; done)) dX4_columnBy_104
    · refine lv_iload_n hx hb dX4_columnBy_79 rfl (lv_at hl 5 rfl) ?_
      refine lv_goto (tgt := 85) hx hb dX4_columnBy_80 rfl ?_
      refine lv_istore (lv' := [(6, .int r), (5, .int ((apart sS f (whomN sS f)) - 1)), (4, .int (its sS (whomN sS f) 2)), (3, .int (its sS f 2)), (0, .ref (A 0)), (1, .int (nI f)), (2, .int r)]) hx hb dX4_columnBy_85 hl (by decide) rfl (fun ls hl => ?_)
      refine lv_iload_n hx hb dX4_columnBy_87 rfl (lv_at hl 3 rfl) ?_
      refine lv_iload hx hb dX4_columnBy_88 (lv_at hl 2 rfl) ?_
      refine lv_icmp_ge (tgt := 100) hx hb dX4_columnBy_90 rfl (fun c90 => ?_) (fun c90 => ?_)
      · refine lv_iload_n hx hb dX4_columnBy_100 rfl (lv_at hl 3 rfl) ?_
        refine lv_iload hx hb dX4_columnBy_101 (lv_at hl 0 rfl) ?_
        refine lv_isub hx hb dX4_columnBy_103 ?_
        exact ro_iret hx hb hr hlk (by first | (simp [columnBy, c32, c76, c90, i_lt, -Int32.not_le, -Int32.not_lt]; done) | (simp_all; done) | (simp_all [columnBy]; done)) dX4_columnBy_104
      · refine lv_iload_n hx hb dX4_columnBy_93 rfl (lv_at hl 3 rfl) ?_
        refine lv_iload hx hb dX4_columnBy_94 (lv_at hl 0 rfl) ?_
        refine lv_iadd hx hb dX4_columnBy_96 ?_
        refine lv_goto (tgt := 104) hx hb dX4_columnBy_97 rfl ?_
        exact ro_iret hx hb hr hlk (by first | (simp [columnBy, c32, c76, c90, i_lt, -Int32.not_le, -Int32.not_lt]; done) | (simp_all; done) | (simp_all [columnBy]; done)) dX4_columnBy_104
  · refine lv_iload_n hx hb dX4_columnBy_35 rfl (lv_at hl 1 rfl) ?_
    refine lv_iload hx hb dX4_columnBy_36 (lv_at hl 0 rfl) ?_
    refine lv_icmp_gt (tgt := 47) hx hb dX4_columnBy_38 rfl (fun c38 => ?_) (fun c38 => ?_)
    · replace c38 := Int32.not_le.mpr c38
      refine lv_iload_n hx hb dX4_columnBy_47 rfl (lv_at hl 1 rfl) ?_
      refine lv_iload_n hx hb dX4_columnBy_48 rfl (lv_at hl 4 rfl) ?_
      refine lv_iadd hx hb dX4_columnBy_49 ?_
      refine lv_iconst (v := 0) hx hb dX4_columnBy_50 rfl ?_
      refine lv_bipush (v := 19) hx hb dX4_columnBy_51 rfl ?_
      refine ro_S (w := []) (rest := []) S hK va_P0 (k_X4_held ((its sS f 2) + r) 0 19) gs_X4_149 hd_X4_held ⟨Nat.le_of_ble_eq_true rfl, Nat.le_of_ble_eq_true rfl⟩ rfl hl.1 (lv_room (Nat.le_of_ble_eq_true rfl)) dX4_columnBy_53 ⟨Nat.zero_le _, Nat.zero_le _⟩ ?_
      exact ro_iret hx hb hr hlk (by first | (simp [columnBy, c32, c38, i_lt, -Int32.not_le, -Int32.not_lt]; done) | (simp_all; done) | (simp_all [columnBy]; done)) dX4_columnBy_56
    · replace c38 := Int32.not_lt.mp c38
      refine lv_iload_n hx hb dX4_columnBy_41 rfl (lv_at hl 1 rfl) ?_
      refine lv_iload_n hx hb dX4_columnBy_42 rfl (lv_at hl 4 rfl) ?_
      refine lv_isub hx hb dX4_columnBy_43 ?_
      refine lv_goto (tgt := 50) hx hb dX4_columnBy_44 rfl ?_
      refine lv_iconst (v := 0) hx hb dX4_columnBy_50 rfl ?_
      refine lv_bipush (v := 19) hx hb dX4_columnBy_51 rfl ?_
      refine ro_S (w := []) (rest := []) S hK va_P0 (k_X4_held ((its sS f 2) - r) 0 19) gs_X4_149 hd_X4_held ⟨Nat.le_of_ble_eq_true rfl, Nat.le_of_ble_eq_true rfl⟩ rfl hl.1 (lv_room (Nat.le_of_ble_eq_true rfl)) dX4_columnBy_53 ⟨Nat.zero_le _, Nat.zero_le _⟩ ?_
      exact ro_iret hx hb hr hlk (by first | (simp [columnBy, c32, c38, i_lt, -Int32.not_le, -Int32.not_lt]; done) | (simp_all; done) | (simp_all [columnBy]; done)) dX4_columnBy_56

end
