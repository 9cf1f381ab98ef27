theorem cl_ge {x : Int32} (h : 0 ≤ x) : x = nI (cl x) := by
  have h0 : (0 : Int32).toInt = 0 := by decide
  rw [le_I, h0] at h
  exact (nI_of1 h).1
theorem cl_lt {x : Int32} (h : 0 ≤ x) (h2 : ¬ 72 ≤ x) : cl x < 72 := by
  have h0 : (0 : Int32).toInt = 0 := by decide
  have h7 : (72 : Int32).toInt = 72 := by decide
  rw [le_I, h0] at h
  rw [le_I, h7] at h2
  have e := (nI_of1 h).2
  unfold cl
  omega
section
variable {l : Launch} {D : va_G} {cI cJ cO : ClassId} {h q : Nat} {g : Nat → Int32}

set_option maxHeartbeats 4000000 in
set_option maxRecDepth 100000 in
theorem k_X0_get (f : Int32) (w : Int32) : RO l D (tyA cI cJ cO) yX0_get cX0_get 4 ((some .int)) 0 0 [.ref h, .int f, .int w] (GW cI h q (g 0) (g 2) (g 1) (tl g)) (.int (gget (tl g) f w)) := by
  refine RO.mk (by decide) (Nat.le_of_ble_eq_true rfl) ?_
  intro p e s m below meth c ls S hr hlk hP hK hl
  have S : CallFix p m c cX0_get 4 s _ WL RX0 := S
  obtain ⟨hx, hb, hml, hown, hts⟩ := id S
  have hl : lv_has ls 4 [(0, .ref h), (1, .int f), (2, .int w)] := hl
  refine lv_iload_n hx hb dX0_get_0 rfl (lv_at hl 1 rfl) ?_
  refine lv_bipush (v := 9) hx hb dX0_get_1 rfl ?_
  refine lv_imul hx hb dX0_get_3 ?_
  refine lv_iload_n hx hb dX0_get_4 rfl (lv_at hl 2 rfl) ?_
  refine lv_iadd hx hb dX0_get_5 ?_
  refine lv_istore_n (lv' := [(3, .int ((f * 9) + w)), (0, .ref h), (1, .int f), (2, .int w)]) hx hb dX0_get_6 rfl hl (by decide) rfl (fun ls hl => ?_)
  refine lv_iload_n hx hb dX0_get_7 rfl (lv_at hl 0 rfl) ?_
  refine lv_if_lt (tgt := 26) hx hb dX0_get_8 rfl (fun c8 => ?_) (fun c8 => ?_)
  · replace c8 := Int32.not_le.mpr c8
    refine lv_iconst (v := 0) hx hb dX0_get_26 rfl ?_
    exact ro_iret hx hb hr hlk (by first | (simp [gget, cl, c8, i_lt, -Int32.not_le, -Int32.not_lt]; done) | (simp_all; done) | (simp_all [gget, cl]; done)) dX0_get_27
  · replace c8 := Int32.not_lt.mp c8
    refine lv_iload_n hx hb dX0_get_11 rfl (lv_at hl 0 rfl) ?_
    refine lv_bipush (v := 72) hx hb dX0_get_12 rfl ?_
    refine lv_icmp_ge (tgt := 26) hx hb dX0_get_14 rfl (fun c14 => ?_) (fun c14 => ?_)
    · refine lv_iconst (v := 0) hx hb dX0_get_26 rfl ?_
      exact ro_iret hx hb hr hlk (by first | (simp [gget, cl, c8, c14, i_lt, -Int32.not_le, -Int32.not_lt]; done) | (simp_all; done) | (simp_all [gget, cl]; done)) dX0_get_27
    · refine lv_aload_n hx hb dX0_get_17 rfl (lv_at hl 1 rfl) ?_
      refine va_get (ci := 0) (v := .ref q) hx hb hts wx_X0 hown hK hP 0 rfl rfl 3 (by decide) (hts _ wf_X0_21) (fun _ h9 => h9) rfl dX0_get_18 ?_
      refine lv_iload_n hx hb dX0_get_21 rfl (lv_at hl 0 rfl) ?_
      refine ia_ld hx hb hK hP 1 0 rfl rfl (cl (f * 9 + w)) (cl_ge c8) (cl_lt c8 c14) (by decide) dX0_get_22 ?_
      refine lv_goto (tgt := 27) hx hb dX0_get_23 rfl ?_
      exact ro_iret hx hb hr hlk (by first | (simp [gget, cl, c8, c14, i_lt, -Int32.not_le, -Int32.not_lt]; done) | (simp_all; done) | (simp_all [gget, cl]; done)) dX0_get_27

theorem k_X0_getN (f w : Nat) (hf : f < 8) (hw : w < 9) : RO l D (tyA cI cJ cO) yX0_get cX0_get 4 (some .int) 0 0 [.ref h, .int (nI f), .int (nI w)] (GW cI h q (g 0) (g 2) (g 1) (tl g)) (.int (its g f w)) := by
  have h9 := k_X0_get (l := l) (D := D) (cI := cI) (cJ := cJ) (cO := cO) (h := h) (q := q) (g := g) (nI f) (nI w)
  rw [gget_n hf hw] at h9
  exact h9

set_option maxHeartbeats 4000000 in
set_option maxRecDepth 100000 in
theorem k_X0_lacks (n : Nat) (f : Int32) (hI : Inv g n) : RO l D (tyA cI cJ cO) yX0_lacks cX0_lacks 2 ((some .boolean)) 0 0 [.ref h, .int f] (GW cI h q (g 0) (g 2) (g 1) (tl g)) (.int (b2i (!isFig n f))) := by
  refine RO.mk (by decide) (Nat.le_of_ble_eq_true rfl) ?_
  intro p e s m below meth c ls S hr hlk hP hK hl
  have S : CallFix p m c cX0_lacks 2 s _ WL RX0 := S
  obtain ⟨hx, hb, hml, hown, hts⟩ := id S
  have hl : lv_has ls 2 [(0, .ref h), (1, .int f)] := hl
  refine lv_iload_n hx hb dX0_lacks_0 rfl (lv_at hl 1 rfl) ?_
  refine lv_if_lt (tgt := 12) hx hb dX0_lacks_1 rfl (fun c1 => ?_) (fun c1 => ?_)
  · replace c1 := Int32.not_le.mpr c1
    refine lv_iconst (v := 1) hx hb dX0_lacks_12 rfl ?_
    refine lv_goto (tgt := 17) hx hb dX0_lacks_13 rfl ?_
    exact ro_zret hx hb hr hlk (by rw [show isFig n f = false from (lack_i hI.1).mp (Or.inl (Int32.not_le.mp c1))]; rfl) dX0_lacks_17
  · replace c1 := Int32.not_lt.mp c1
    refine lv_iload_n hx hb dX0_lacks_4 rfl (lv_at hl 1 rfl) ?_
    refine lv_aload_n hx hb dX0_lacks_5 rfl (lv_at hl 0 rfl) ?_
    refine va_get (ci := 0) (v := .int (g 1)) hx hb hts wx_X0 hown hK hP 0 rfl rfl 2 (by decide) (hts _ wf_X0_18) (fun _ h9 => h9) rfl dX0_lacks_6 ?_
    refine w_i (z := nI n) (hI.2.1) ?_
    refine lv_icmp_lt (tgt := 16) hx hb dX0_lacks_9 rfl (fun c9 => ?_) (fun c9 => ?_)
    · replace c9 := Int32.not_le.mpr c9
      refine lv_iconst (v := 0) hx hb dX0_lacks_16 rfl ?_
      exact ro_zret hx hb hr hlk (by rw [show isFig n f = true from by cases h9 : isFig n f with | true => rfl | false => exact absurd ((lack_i hI.1).mpr h9) (by rintro (z | z); exact absurd z (Int32.not_lt.mpr c1); exact absurd z c9)]; rfl) dX0_lacks_17
    · replace c9 := Int32.not_lt.mp c9
      refine lv_iconst (v := 1) hx hb dX0_lacks_12 rfl ?_
      refine lv_goto (tgt := 17) hx hb dX0_lacks_13 rfl ?_
      exact ro_zret hx hb hr hlk (by rw [show isFig n f = false from (lack_i hI.1).mp (Or.inr c9)]; rfl) dX0_lacks_17

set_option maxHeartbeats 4000000 in
set_option maxRecDepth 100000 in
theorem k_X0_hourOfNight : RO l D (tyA cI cJ cO) yX0_hourOfNight cX0_hourOfNight 1 ((some .int)) 0 0 [.ref h] (GW cI h q (g 0) (g 2) (g 1) (tl g)) (.int (m8 (g 0))) := by
  refine RO.mk (by decide) (Nat.le_of_ble_eq_true rfl) ?_
  intro p e s m below meth c ls S hr hlk hP hK hl
  have S : CallFix p m c cX0_hourOfNight 1 s _ WL RX0 := S
  obtain ⟨hx, hb, hml, hown, hts⟩ := id S
  have hl : lv_has ls 1 [(0, .ref h)] := hl
  refine lv_aload_n hx hb dX0_hourOfNight_0 rfl (lv_at hl 0 rfl) ?_
  refine va_get (ci := 0) (v := .int (g 0)) hx hb hts wx_X0 hown hK hP 0 rfl rfl 0 (by decide) (hts _ wf_X0_9) (fun _ h9 => h9) rfl dX0_hourOfNight_1 ?_
  refine lv_bipush (v := 8) hx hb dX0_hourOfNight_4 rfl ?_
  refine lv_irem hx hb dX0_hourOfNight_6 (by decide) ?_
  exact ro_iret hx hb hr hlk (rfl) dX0_hourOfNight_7

set_option maxHeartbeats 4000000 in
set_option maxRecDepth 100000 in
theorem k_X0_isTacky : RO l D (tyA cI cJ cO) yX0_isTacky cX0_isTacky 1 ((some .boolean)) 1 20 [.ref h] (GW cI h q (g 0) (g 2) (g 1) (tl g)) (.int (b2i (isTk g))) := by
  refine RO.mk (by decide) (Nat.le_of_ble_eq_true rfl) ?_
  intro p e s m below meth c ls S hr hlk hP hK hl
  have S : CallFix p m c cX0_isTacky 1 s _ WL RX0 := S
  obtain ⟨hx, hb, hml, hown, hts⟩ := id S
  have hl : lv_has ls 1 [(0, .ref h)] := hl
  refine lv_aload_n hx hb dX0_isTacky_0 rfl (lv_at hl 0 rfl) ?_
  refine ro_V (w := (GW cI h q (g 0) (g 2) (g 1) (tl g))) (rest := []) S hK hP (k_X0_hourOfNight ) gv_X0_35 hd_X0_hourOfNight ⟨Nat.le_of_ble_eq_true rfl, Nat.le_of_ble_eq_true rfl⟩ 0 rfl rfl rfl rfl hl.1 (lv_room (Nat.le_of_ble_eq_true rfl)) dX0_isTacky_1 ⟨Nat.zero_le _, Nat.zero_le _⟩ ?_
  refine lv_aload_n hx hb dX0_isTacky_4 rfl (lv_at hl 0 rfl) ?_
  refine va_get (ci := 0) (v := .int (g 2)) hx hb hts wx_X0 hown hK hP 0 rfl rfl 1 (by decide) (hts _ wf_X0_15) (fun _ h9 => h9) rfl dX0_isTacky_5 ?_
  refine lv_icmp_lt (tgt := 15) hx hb dX0_isTacky_8 rfl (fun c8 => ?_) (fun c8 => ?_)
  · replace c8 := Int32.not_le.mpr c8
    refine lv_iconst (v := 0) hx hb dX0_isTacky_15 rfl ?_
    exact ro_zret hx hb hr hlk (by first | (simp [isTk, b2i, c8, i_lt, -Int32.not_le, -Int32.not_lt]; done) | (simp_all; done) | (simp_all [isTk, b2i]; done)) dX0_isTacky_16
  · replace c8 := Int32.not_lt.mp c8
    refine lv_iconst (v := 1) hx hb dX0_isTacky_11 rfl ?_
    refine lv_goto (tgt := 16) hx hb dX0_isTacky_12 rfl ?_
    exact ro_zret hx hb hr hlk (by first | (simp [isTk, b2i, c8, i_lt, -Int32.not_le, -Int32.not_lt]; done) | (simp_all; done) | (simp_all [isTk, b2i]; done)) dX0_isTacky_16

set_option maxHeartbeats 4000000 in
set_option maxRecDepth 100000 in
theorem k_X0_sum (n : Nat) (w : Nat) (hI : Inv g n) (hw : w < 9) : RO l D (tyA cI cJ cO) yX0_sum cX0_sum 4 ((some .int)) 1 23 [.ref h, .int (nI w)] (GW cI h q (g 0) (g 2) (g 1) (tl g)) (.int (sumF (fun f => its g f w) n)) := by
  refine RO.mk (by decide) (Nat.le_of_ble_eq_true rfl) ?_
  intro p e s m below meth c ls S hr hlk hP hK hl
  have S : CallFix p m c cX0_sum 4 s _ WL RX0 := S
  obtain ⟨hx, hb, hml, hown, hts⟩ := id S
  have hl : lv_has ls 4 [(0, .ref h), (1, .int (nI w))] := hl
  have h8 : n ≤ 8 := hI.1
  refine lv_iconst (v := 0) hx hb dX0_sum_0 rfl ?_
  refine lv_istore_n (lv' := [(2, .int 0), (0, .ref h), (1, .int (nI w))]) hx hb dX0_sum_1 rfl hl (by decide) rfl (fun ls hl => ?_)
  refine lv_iconst (v := 0) hx hb dX0_sum_2 rfl ?_
  refine lv_istore_n (lv' := [(3, .int 0), (2, .int 0), (0, .ref h), (1, .int (nI w))]) hx hb dX0_sum_3 rfl hl (by decide) rfl (fun ls hl => ?_)
  refine w_loop (pc := 4) (st := fun (i : Nat) => []) (μ := fun (i : Nat) => n - i) (I := fun (i : Nat) ls => (i ≤ n) ∧ lv_has ls 4 [(0, .ref h), (1, .int (nI w)), (2, .int (sumF (fun f => its g f w) i)), (3, .int (nI i))]) ?_ (0) ⟨Nat.zero_le _, lv_sub hl [2, 3, 1, 0] rfl⟩
  rintro i ls ⟨hi, hl⟩ ih4
  try dsimp only at ih4 ⊢
  refine lv_iload_n hx hb dX0_sum_4 rfl (lv_at hl 3 rfl) ?_
  refine lv_aload_n hx hb dX0_sum_5 rfl (lv_at hl 0 rfl) ?_
  refine va_get (ci := 0) (v := .int (g 1)) hx hb hts wx_X0 hown hK hP 0 rfl rfl 2 (by decide) (hts _ wf_X0_18) (fun _ h9 => h9) rfl dX0_sum_6 ?_
  refine w_i (z := nI n) (hI.2.1) ?_
  refine lv_icmp_ge (tgt := 27) hx hb dX0_sum_9 rfl (fun c9 => ?_) (fun c9 => ?_)
  · replace c9 := nq_le (a := n) (b := i) (by omega) (by omega) c9
    refine lv_iload_n hx hb dX0_sum_27 rfl (lv_at hl 2 rfl) ?_
    exact ro_iret hx hb hr hlk (by rw [show i = n by omega]) dX0_sum_28
  · replace c9 := nq_nle (a := n) (b := i) (by omega) (by omega) c9
    refine lv_iload_n hx hb dX0_sum_12 rfl (lv_at hl 2 rfl) ?_
    refine lv_aload_n hx hb dX0_sum_13 rfl (lv_at hl 0 rfl) ?_
    refine lv_iload_n hx hb dX0_sum_14 rfl (lv_at hl 3 rfl) ?_
    refine lv_iload_n hx hb dX0_sum_15 rfl (lv_at hl 1 rfl) ?_
    refine ro_V (w := (GW cI h q (g 0) (g 2) (g 1) (tl g))) (rest := [.int (sumF (fun f => its g f w) i)]) S hK hP (k_X0_getN i w (by omega) (by omega)) gv_X0_39 hd_X0_get ⟨Nat.le_of_ble_eq_true rfl, Nat.le_of_ble_eq_true rfl⟩ 0 rfl rfl rfl rfl hl.1 (lv_room (Nat.le_of_ble_eq_true rfl)) dX0_sum_16 ⟨Nat.zero_le _, Nat.zero_le _⟩ ?_
    refine lv_iadd hx hb dX0_sum_19 ?_
    refine w_i (z := sumF (fun f => its g f w) (i + 1)) (rfl) ?_
    refine lv_istore_n (lv' := [(2, .int (sumF (fun f => its g f w) (i + 1))), (0, .ref h), (1, .int (nI w)), (3, .int (nI i))]) hx hb dX0_sum_20 rfl hl (by decide) rfl (fun ls hl => ?_)
    refine lv_iinc (v := nI (i + 1)) (lv' := [(3, .int (nI (i + 1))), (2, .int (sumF (fun f => its g f w) (i + 1))), (0, .ref h), (1, .int (nI w))]) hx hb dX0_sum_21 hl (k := 3) rfl (nI_inc _) (by decide) rfl (fun ls hl => ?_)
    refine lv_goto (tgt := 4) hx hb dX0_sum_24 rfl ?_
    exact ih4 (i + 1) ls (by first | omega | (dsimp only; omega)) ⟨(by omega), lv_sub hl [2, 3, 1, 0] rfl⟩

set_option maxHeartbeats 4000000 in
set_option maxRecDepth 100000 in
theorem k_X0_whoHas (n : Nat) (w : Nat) (v : Int32) (hI : Inv g n) (hw : w < 9) : RO l D (tyA cI cJ cO) yX0_whoHas cX0_whoHas 5 ((some .int)) 1 23 [.ref h, .int (nI w), .int v] (GW cI h q (g 0) (g 2) (g 1) (tl g)) (.int (setF (fun f => decide (its g f w = v)) n)) := by
  refine RO.mk (by decide) (Nat.le_of_ble_eq_true rfl) ?_
  intro p e s m below meth c ls S hr hlk hP hK hl
  have S : CallFix p m c cX0_whoHas 5 s _ WL RX0 := S
  obtain ⟨hx, hb, hml, hown, hts⟩ := id S
  have hl : lv_has ls 5 [(0, .ref h), (1, .int (nI w)), (2, .int v)] := hl
  have h8 : n ≤ 8 := hI.1
  refine lv_iconst (v := 0) hx hb dX0_whoHas_0 rfl ?_
  refine lv_istore_n (lv' := [(3, .int 0), (0, .ref h), (1, .int (nI w)), (2, .int v)]) hx hb dX0_whoHas_1 rfl hl (by decide) rfl (fun ls hl => ?_)
  refine lv_iconst (v := 0) hx hb dX0_whoHas_2 rfl ?_
  refine lv_istore (lv' := [(4, .int 0), (3, .int 0), (0, .ref h), (1, .int (nI w)), (2, .int v)]) hx hb dX0_whoHas_3 hl (by decide) rfl (fun ls hl => ?_)
  refine w_loop (pc := 5) (st := fun (i : Nat) => []) (μ := fun (i : Nat) => n - i) (I := fun (i : Nat) ls => (i ≤ n) ∧ lv_has ls 5 [(0, .ref h), (1, .int (nI w)), (2, .int v), (3, .int (setF (fun f => decide (its g f w = v)) i)), (4, .int (nI i))]) ?_ (0) ⟨Nat.zero_le _, lv_sub hl [2, 3, 4, 1, 0] rfl⟩
  rintro i ls ⟨hi, hl⟩ ih5
  try dsimp only at ih5 ⊢
  refine lv_iload hx hb dX0_whoHas_5 (lv_at hl 4 rfl) ?_
  refine lv_aload_n hx hb dX0_whoHas_7 rfl (lv_at hl 0 rfl) ?_
  refine va_get (ci := 0) (v := .int (g 1)) hx hb hts wx_X0 hown hK hP 0 rfl rfl 2 (by decide) (hts _ wf_X0_18) (fun _ h9 => h9) rfl dX0_whoHas_8 ?_
  refine w_i (z := nI n) (hI.2.1) ?_
  refine lv_icmp_ge (tgt := 38) hx hb dX0_whoHas_11 rfl (fun c11 => ?_) (fun c11 => ?_)
  · replace c11 := nq_le (a := n) (b := i) (by omega) (by omega) c11
    refine lv_iload_n hx hb dX0_whoHas_38 rfl (lv_at hl 3 rfl) ?_
    exact ro_iret hx hb hr hlk (by rw [show i = n by omega]) dX0_whoHas_39
  · replace c11 := nq_nle (a := n) (b := i) (by omega) (by omega) c11
    refine lv_aload_n hx hb dX0_whoHas_14 rfl (lv_at hl 0 rfl) ?_
    refine lv_iload hx hb dX0_whoHas_15 (lv_at hl 4 rfl) ?_
    refine lv_iload_n hx hb dX0_whoHas_17 rfl (lv_at hl 1 rfl) ?_
    refine ro_V (w := (GW cI h q (g 0) (g 2) (g 1) (tl g))) (rest := []) S hK hP (k_X0_getN i w (by omega) (by omega)) gv_X0_39 hd_X0_get ⟨Nat.le_of_ble_eq_true rfl, Nat.le_of_ble_eq_true rfl⟩ 0 rfl rfl rfl rfl hl.1 (lv_room (Nat.le_of_ble_eq_true rfl)) dX0_whoHas_18 ⟨Nat.zero_le _, Nat.zero_le _⟩ ?_
    refine lv_iload_n hx hb dX0_whoHas_21 rfl (lv_at hl 2 rfl) ?_
    refine lv_icmp_ne (tgt := 32) hx hb dX0_whoHas_22 rfl (fun c22 => ?_) (fun c22 => ?_)
    · rw [show setF (fun f => decide (its g f w = v)) i = setF (fun f => decide (its g f w = v)) (i + 1) from setF_f (decide_eq_false c22)] at hl
      refine lv_iinc (v := nI (i + 1)) (lv' := [(4, .int (nI (i + 1))), (0, .ref h), (1, .int (nI w)), (2, .int v), (3, .int (setF (fun f => decide (its g f w = v)) (i + 1)))]) hx hb dX0_whoHas_32 hl (k := 4) rfl (nI_inc _) (by decide) rfl (fun ls hl => ?_)
      refine lv_goto (tgt := 5) hx hb dX0_whoHas_35 rfl ?_
      exact ih5 (i + 1) ls (by first | omega | (dsimp only; omega)) ⟨(by omega), lv_sub hl [1, 2, 3, 4, 0] rfl⟩
    · refine lv_iload_n hx hb dX0_whoHas_25 rfl (lv_at hl 3 rfl) ?_
      refine lv_iconst (v := 1) hx hb dX0_whoHas_26 rfl ?_
      refine lv_iload hx hb dX0_whoHas_27 (lv_at hl 4 rfl) ?_
      refine lv_ishl hx hb dX0_whoHas_29 ?_
      refine lv_ior hx hb dX0_whoHas_30 ?_
      refine w_i (z := setF (fun f => decide (its g f w = v)) (i + 1)) (setF_t (decide_eq_true c22)) ?_
      refine lv_istore_n (lv' := [(3, .int (setF (fun f => decide (its g f w = v)) (i + 1))), (0, .ref h), (1, .int (nI w)), (2, .int v), (4, .int (nI i))]) hx hb dX0_whoHas_31 rfl hl (by decide) rfl (fun ls hl => ?_)
      refine lv_iinc (v := nI (i + 1)) (lv' := [(4, .int (nI (i + 1))), (3, .int (setF (fun f => decide (its g f w = v)) (i + 1))), (0, .ref h), (1, .int (nI w)), (2, .int v)]) hx hb dX0_whoHas_32 hl (k := 4) rfl (nI_inc _) (by decide) rfl (fun ls hl => ?_)
      refine lv_goto (tgt := 5) hx hb dX0_whoHas_35 rfl ?_
      exact ih5 (i + 1) ls (by first | omega | (dsimp only; omega)) ⟨(by omega), lv_sub hl [2, 3, 4, 1, 0] rfl⟩

end
