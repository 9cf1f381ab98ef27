theorem anyF_y {p : Nat → Bool} {j : Nat} (hj : p j = true) : ∀ {m : Nat}, j < m → anyF p m = true
  | 0, h => absurd h (Nat.not_lt_zero _)
  | m + 1, h => by
    rw [anyF]
    rcases Nat.lt_or_ge j m with q | q
    · rw [anyF_y hj q]; rfl
    · obtain rfl : j = m := by omega
      rw [hj]; simp
theorem anyF_n {p : Nat → Bool} : ∀ {m : Nat}, (∀ j, j < m → p j = false) → anyF p m = false
  | 0, _ => rfl
  | m + 1, h => by rw [anyF, anyF_n (fun j hj => h j (by omega)), h m (by omega)]; rfl
theorem rub_h (x : Int32) (k : Nat) : (x + nI (k + 1)) - 1 = x + nI k := by
  rw [nI_succ, ← Int32.add_assoc, Int32.add_sub_cancel]
section
variable {l : Launch} {D : va_G} {cI cJ cO : ClassId} {h q : Nat} {g : Nat → Int32}

set_option maxHeartbeats 4000000 in
set_option maxRecDepth 100000 in
theorem k_J6_bitCount_0f7a4 (x : Int32) : RO l D (tyA cI cJ cO) yJ6_bitCount_0f7a4 cJ6_bitCount_0f7a4 1 ((some .int)) 0 0 [.int x] [] (.int (popI x)) := by
  refine RO.mk (by decide) (Nat.le_of_ble_eq_true rfl) ?_
  intro p e s m below meth c ls S hr hlk hP hK hl
  have S : CallFix p m c cJ6_bitCount_0f7a4 1 s _ WL RJ6 := S
  obtain ⟨hx, hb, hml, hown, hts⟩ := id S
  have hl : lv_has ls 1 [(0, .int x)] := hl
  refine lv_iload_n hx hb dJ6_bitCount_0f7a4_0 rfl (lv_at hl 0 rfl) ?_
  refine lv_iload_n hx hb dJ6_bitCount_0f7a4_1 rfl (lv_at hl 0 rfl) ?_
  refine lv_iconst (v := 1) hx hb dJ6_bitCount_0f7a4_2 rfl ?_
  refine lv_iushr hx hb dJ6_bitCount_0f7a4_3 rfl ?_
  refine lv_ldcw (v := 1431655765) hx hb hown (hts _ wq_J6_265) dJ6_bitCount_0f7a4_4 ?_
  refine lv_iand hx hb dJ6_bitCount_0f7a4_7 ?_
  refine lv_isub hx hb dJ6_bitCount_0f7a4_8 ?_
  refine w_i (z := pop1 x) (rfl) ?_
  refine lv_istore_n (lv' := [(0, .int (pop1 x))]) hx hb dJ6_bitCount_0f7a4_9 rfl hl (by decide) rfl (fun ls hl => ?_)
  refine lv_iload_n hx hb dJ6_bitCount_0f7a4_10 rfl (lv_at hl 0 rfl) ?_
  refine lv_ldcw (v := 858993459) hx hb hown (hts _ wq_J6_266) dJ6_bitCount_0f7a4_11 ?_
  refine lv_iand hx hb dJ6_bitCount_0f7a4_14 ?_
  refine lv_iload_n hx hb dJ6_bitCount_0f7a4_15 rfl (lv_at hl 0 rfl) ?_
  refine lv_iconst (v := 2) hx hb dJ6_bitCount_0f7a4_16 rfl ?_
  refine lv_iushr hx hb dJ6_bitCount_0f7a4_17 rfl ?_
  refine lv_ldcw (v := 858993459) hx hb hown (hts _ wq_J6_266) dJ6_bitCount_0f7a4_18 ?_
  refine lv_iand hx hb dJ6_bitCount_0f7a4_21 ?_
  refine lv_iadd hx hb dJ6_bitCount_0f7a4_22 ?_
  refine w_i (z := pop2 (pop1 x)) (rfl) ?_
  refine lv_istore_n (lv' := [(0, .int (pop2 (pop1 x)))]) hx hb dJ6_bitCount_0f7a4_23 rfl hl (by decide) rfl (fun ls hl => ?_)
  refine lv_iload_n hx hb dJ6_bitCount_0f7a4_24 rfl (lv_at hl 0 rfl) ?_
  refine lv_iload_n hx hb dJ6_bitCount_0f7a4_25 rfl (lv_at hl 0 rfl) ?_
  refine lv_iconst (v := 4) hx hb dJ6_bitCount_0f7a4_26 rfl ?_
  refine lv_iushr hx hb dJ6_bitCount_0f7a4_27 rfl ?_
  refine lv_iadd hx hb dJ6_bitCount_0f7a4_28 ?_
  refine lv_ldcw (v := 252645135) hx hb hown (hts _ wq_J6_267) dJ6_bitCount_0f7a4_29 ?_
  refine lv_iand hx hb dJ6_bitCount_0f7a4_32 ?_
  refine w_i (z := pop3 (pop2 (pop1 x))) (rfl) ?_
  refine lv_istore_n (lv' := [(0, .int (pop3 (pop2 (pop1 x))))]) hx hb dJ6_bitCount_0f7a4_33 rfl hl (by decide) rfl (fun ls hl => ?_)
  refine lv_iload_n hx hb dJ6_bitCount_0f7a4_34 rfl (lv_at hl 0 rfl) ?_
  refine lv_iload_n hx hb dJ6_bitCount_0f7a4_35 rfl (lv_at hl 0 rfl) ?_
  refine lv_bipush (v := 8) hx hb dJ6_bitCount_0f7a4_36 rfl ?_
  refine lv_iushr hx hb dJ6_bitCount_0f7a4_38 rfl ?_
  refine lv_iadd hx hb dJ6_bitCount_0f7a4_39 ?_
  refine w_i (z := pop4 (pop3 (pop2 (pop1 x)))) (rfl) ?_
  refine lv_istore_n (lv' := [(0, .int (pop4 (pop3 (pop2 (pop1 x)))))]) hx hb dJ6_bitCount_0f7a4_40 rfl hl (by decide) rfl (fun ls hl => ?_)
  refine lv_iload_n hx hb dJ6_bitCount_0f7a4_41 rfl (lv_at hl 0 rfl) ?_
  refine lv_iload_n hx hb dJ6_bitCount_0f7a4_42 rfl (lv_at hl 0 rfl) ?_
  refine lv_bipush (v := 16) hx hb dJ6_bitCount_0f7a4_43 rfl ?_
  refine lv_iushr hx hb dJ6_bitCount_0f7a4_45 rfl ?_
  refine lv_iadd hx hb dJ6_bitCount_0f7a4_46 ?_
  refine w_i (z := pop5 (pop4 (pop3 (pop2 (pop1 x))))) (rfl) ?_
  refine lv_istore_n (lv' := [(0, .int (pop5 (pop4 (pop3 (pop2 (pop1 x))))))]) hx hb dJ6_bitCount_0f7a4_47 rfl hl (by decide) rfl (fun ls hl => ?_)
  refine lv_iload_n hx hb dJ6_bitCount_0f7a4_48 rfl (lv_at hl 0 rfl) ?_
  refine lv_bipush (v := 63) hx hb dJ6_bitCount_0f7a4_49 rfl ?_
  refine lv_iand hx hb dJ6_bitCount_0f7a4_51 ?_
  exact ro_iret hx hb hr hlk (rfl) dJ6_bitCount_0f7a4_52

set_option maxHeartbeats 4000000 in
set_option maxRecDepth 100000 in
theorem k_X0_put (f : Nat) (w : Nat) (v : Int32) (hf : f < 8) (hw : w < 9) : MU l D (tyA cI cJ cO) yX0_put cX0_put 5 none 0 0 [.ref h, .int (nI f), .int (nI w), .int v] (GW cI h q (g 0) (g 2) (g 1) (tl g)) (fun ov w' => ov = none ∧ w' = (GW cI h q ((put9 g f w v) 0) ((put9 g f w v) 2) ((put9 g f w v) 1) (tl (put9 g f w v)))) := by
  refine MU.mk (by decide) (Nat.le_of_ble_eq_true rfl) ?_
  intro p e s m below meth c ls S hr hlk hP hK hD hS hl
  have S : CallFix p m c cX0_put 5 s _ WL RX0 := S
  obtain ⟨hx, hb, hml, hown, hts⟩ := id S
  have hl : lv_has ls 5 [(0, .ref h), (1, .int (nI f)), (2, .int (nI w)), (3, .int v)] := hl
  refine lv_iload_n hx hb dX0_put_0 rfl (lv_at hl 1 rfl) ?_
  refine lv_bipush (v := 9) hx hb dX0_put_1 rfl ?_
  refine lv_imul hx hb dX0_put_3 ?_
  refine lv_iload_n hx hb dX0_put_4 rfl (lv_at hl 2 rfl) ?_
  refine lv_iadd hx hb dX0_put_5 ?_
  refine w_i (z := nI (9 * f + w)) (nI_9 f w) ?_
  refine lv_istore (lv' := [(4, .int (nI (9 * f + w))), (0, .ref h), (1, .int (nI f)), (2, .int (nI w)), (3, .int v)]) hx hb dX0_put_6 hl (by decide) rfl (fun ls hl => ?_)
  refine lv_iload hx hb dX0_put_8 (lv_at hl 0 rfl) ?_
  refine lv_if_lt (tgt := 28) hx hb dX0_put_10 rfl (fun c10 => ?_) (fun c10 => ?_)
  · exact absurd c10 (nI_pos (by omega))
  · refine lv_iload hx hb dX0_put_13 (lv_at hl 0 rfl) ?_
    refine lv_bipush (v := 72) hx hb dX0_put_15 rfl ?_
    refine lv_icmp_ge (tgt := 28) hx hb dX0_put_17 rfl (fun c17 => ?_) (fun c17 => ?_)
    · exact absurd c17 (nI_ge (a := 9 * f + w) (b := 72) (by omega) (by omega))
    · replace c17 := nq_nle (a := 72) (b := (9 * f + w)) (by omega) (by omega) c17
      refine lv_aload_n hx hb dX0_put_20 rfl (lv_at hl 1 rfl) ?_
      refine va_get (ci := 0) (v := .ref q) hx hb hts wx_X0 hown hK hP 0 rfl rfl 3 (by decide) (hts _ wf_X0_21) (fun _ h9 => h9) rfl dX0_put_21 ?_
      refine lv_iload hx hb dX0_put_24 (lv_at hl 0 rfl) ?_
      refine lv_iload_n hx hb dX0_put_26 rfl (lv_at hl 4 rfl) ?_
      refine ia_st hx hb hK hP hD hS 1 0 rfl rfl (9 * f + w) (rfl) (by omega) (by decide) dX0_put_27 (fun H locs hP hD hS => ?_)
      have hP : va_P D vwCl (GW cI h q (g 0) (g 2) (g 1) (upd (tl g) (9 * f + w) v)) H := hP
      have hD : va_D _ (GW cI h q (g 0) (g 2) (g 1) (upd (tl g) (9 * f + w) v)) := hD
      have hW : (GW cI h q (g 0) (g 2) (g 1) (upd (tl g) (9 * f + w) v)) = (GW cI h q ((put9 g f w v) 0) ((put9 g f w v) 2) ((put9 g f w v) 1) (tl (put9 g f w v))) := gw_eq (g := put9 g f w v) ((put_lo (by omega)).symm) ((put_lo (by omega)).symm) ((put_lo (by omega)).symm) (tl_put _ _ _ _)
      have hP : va_P D vwCl (GW cI h q ((put9 g f w v) 0) ((put9 g f w v) 2) ((put9 g f w v) 1) (tl (put9 g f w v))) H := Eq.mp (congrArg (fun z => va_P D vwCl z H) hW) hP
      have hD : va_D _ (GW cI h q ((put9 g f w v) 0) ((put9 g f w v) 2) ((put9 g f w v) 1) (tl (put9 g f w v))) := Eq.mp (congrArg (fun z => va_D _ z) hW) hD
      exact mu_vret (GW cI h q ((put9 g f w v) 0) ((put9 g f w v) 2) ((put9 g f w v) 1) (tl (put9 g f w v))) hx hb hr hlk hP hS rfl (⟨rfl, rfl⟩) dX0_put_28

set_option maxHeartbeats 4000000 in
set_option maxRecDepth 100000 in
theorem k_X0_isFull (n : Nat) (hI : Inv g n) : RO l D (tyA cI cJ cO) yX0_isFull cX0_isFull 1 ((some .boolean)) 0 0 [.ref h] (GW cI h q (g 0) (g 2) (g 1) (tl g)) (.int (b2i (decide (8 ≤ n)))) := by
  refine RO.mk (by decide) (Nat.le_of_ble_eq_true rfl) ?_
  intro p e s m below meth c ls S hr hlk hP hK hl
  have S : CallFix p m c cX0_isFull 1 s _ WL RX0 := S
  obtain ⟨hx, hb, hml, hown, hts⟩ := id S
  have hl : lv_has ls 1 [(0, .ref h)] := hl
  have h8 : n ≤ 8 := hI.1
  refine lv_aload_n hx hb dX0_isFull_0 rfl (lv_at hl 0 rfl) ?_
  refine va_get (ci := 0) (v := .int (g 1)) hx hb hts wx_X0 hown hK hP 0 rfl rfl 2 (by decide) (hts _ wf_X0_18) (fun _ h9 => h9) rfl dX0_isFull_1 ?_
  refine w_i (z := nI n) (hI.2.1) ?_
  refine lv_bipush (v := 8) hx hb dX0_isFull_4 rfl ?_
  refine lv_icmp_lt (tgt := 13) hx hb dX0_isFull_6 rfl (fun c6 => ?_) (fun c6 => ?_)
  · replace c6 := nq_lt (a := n) (b := 8) (by omega) (by omega) c6
    refine lv_iconst (v := 0) hx hb dX0_isFull_13 rfl ?_
    exact ro_zret hx hb hr hlk (by first | (simp [b2i, c6, i_lt, -Int32.not_le, -Int32.not_lt]; done) | (simp_all; done) | (simp_all [b2i]; done)) dX0_isFull_14
  · replace c6 := nq_nlt (a := n) (b := 8) (by omega) (by omega) c6
    refine lv_iconst (v := 1) hx hb dX0_isFull_9 rfl ?_
    refine lv_goto (tgt := 14) hx hb dX0_isFull_10 rfl ?_
    exact ro_zret hx hb hr hlk (by first | (simp [b2i, c6, i_lt, -Int32.not_le, -Int32.not_lt]; done) | (simp_all; done) | (simp_all [b2i]; done)) dX0_isFull_14

set_option maxHeartbeats 4000000 in
set_option maxRecDepth 100000 in
theorem k_X0_everybody (n : Nat) (hI : Inv g n) : RO l D (tyA cI cJ cO) yX0_everybody cX0_everybody 1 ((some .int)) 0 0 [.ref h] (GW cI h q (g 0) (g 2) (g 1) (tl g)) (.int ((1 <<< (nI n &&& 31)) - 1)) := by
  refine RO.mk (by decide) (Nat.le_of_ble_eq_true rfl) ?_
  intro p e s m below meth c ls S hr hlk hP hK hl
  have S : CallFix p m c cX0_everybody 1 s _ WL RX0 := S
  obtain ⟨hx, hb, hml, hown, hts⟩ := id S
  have hl : lv_has ls 1 [(0, .ref h)] := hl
  refine lv_iconst (v := 1) hx hb dX0_everybody_0 rfl ?_
  refine lv_aload_n hx hb dX0_everybody_1 rfl (lv_at hl 0 rfl) ?_
  refine va_get (ci := 0) (v := .int (g 1)) hx hb hts wx_X0 hown hK hP 0 rfl rfl 2 (by decide) (hts _ wf_X0_18) (fun _ h9 => h9) rfl dX0_everybody_2 ?_
  refine w_i (z := nI n) (hI.2.1) ?_
  refine lv_ishl hx hb dX0_everybody_5 ?_
  refine lv_iconst (v := 1) hx hb dX0_everybody_6 rfl ?_
  refine lv_isub hx hb dX0_everybody_7 ?_
  exact ro_iret hx hb hr hlk (rfl) dX0_everybody_8

set_option maxHeartbeats 4000000 in
set_option maxRecDepth 100000 in
theorem k_X0_look (f : Nat) (hf : f < 8) : RO l D (tyA cI cJ cO) yX0_look cX0_look 2 ((some .int)) 1 23 [.ref h, .int (nI f)] (GW cI h q (g 0) (g 2) (g 1) (tl g)) (.int (look g f)) := by
  refine RO.mk (by decide) (Nat.le_of_ble_eq_true rfl) ?_
  intro p e s m below meth c ls S hr hlk hP hK hl
  have S : CallFix p m c cX0_look 2 s _ WL RX0 := S
  obtain ⟨hx, hb, hml, hown, hts⟩ := id S
  have hl : lv_has ls 2 [(0, .ref h), (1, .int (nI f))] := hl
  refine lv_bipush (v := 100) hx hb dX0_look_0 rfl ?_
  refine lv_aload_n hx hb dX0_look_2 rfl (lv_at hl 0 rfl) ?_
  refine lv_iload_n hx hb dX0_look_3 rfl (lv_at hl 1 rfl) ?_
  refine lv_iconst (v := 2) hx hb dX0_look_4 rfl ?_
  refine ro_V (w := (GW cI h q (g 0) (g 2) (g 1) (tl g))) (rest := [.int 100]) S hK hP (k_X0_getN f 2 (by omega) (by omega)) gv_X0_39 hd_X0_get ⟨Nat.le_of_ble_eq_true rfl, Nat.le_of_ble_eq_true rfl⟩ 0 rfl rfl rfl rfl hl.1 (lv_room (Nat.le_of_ble_eq_true rfl)) dX0_look_5 ⟨Nat.zero_le _, Nat.zero_le _⟩ ?_
  refine lv_imul hx hb dX0_look_8 ?_
  refine lv_aload_n hx hb dX0_look_9 rfl (lv_at hl 0 rfl) ?_
  refine lv_iload_n hx hb dX0_look_10 rfl (lv_at hl 1 rfl) ?_
  refine lv_iconst (v := 3) hx hb dX0_look_11 rfl ?_
  refine ro_V (w := (GW cI h q (g 0) (g 2) (g 1) (tl g))) (rest := [.int (100 * (its g f 2))]) S hK hP (k_X0_getN f 3 (by omega) (by omega)) gv_X0_39 hd_X0_get ⟨Nat.le_of_ble_eq_true rfl, Nat.le_of_ble_eq_true rfl⟩ 0 rfl rfl rfl rfl hl.1 (lv_room (Nat.le_of_ble_eq_true rfl)) dX0_look_12 ⟨Nat.zero_le _, Nat.zero_le _⟩ ?_
  refine lv_iadd hx hb dX0_look_15 ?_
  exact ro_iret hx hb hr hlk (rfl) dX0_look_16

set_option maxHeartbeats 4000000 in
set_option maxRecDepth 100000 in
theorem k_X0_lampsOn (n : Nat) (f : Nat) (hI : Inv g n) (hf : f < n) : RO l D (tyA cI cJ cO) yX0_lampsOn cX0_lampsOn 6 ((some .int)) 1 23 [.ref h, .int (nI f)] (GW cI h q (g 0) (g 2) (g 1) (tl g)) (.int (lamps g n f)) := by
  refine RO.mk (by decide) (Nat.le_of_ble_eq_true rfl) ?_
  intro p e s m below meth c ls S hr hlk hP hK hl
  have S : CallFix p m c cX0_lampsOn 6 s _ WL RX0 := S
  obtain ⟨hx, hb, hml, hown, hts⟩ := id S
  have hl : lv_has ls 6 [(0, .ref h), (1, .int (nI f))] := hl
  have h8 : n ≤ 8 := hI.1
  refine lv_aload_n hx hb dX0_lampsOn_0 rfl (lv_at hl 0 rfl) ?_
  refine lv_iload_n hx hb dX0_lampsOn_1 rfl (lv_at hl 1 rfl) ?_
  refine lv_iconst (v := 1) hx hb dX0_lampsOn_2 rfl ?_
  refine ro_V (w := (GW cI h q (g 0) (g 2) (g 1) (tl g))) (rest := []) S hK hP (k_X0_getN f 1 (by omega) (by omega)) gv_X0_39 hd_X0_get ⟨Nat.le_of_ble_eq_true rfl, Nat.le_of_ble_eq_true rfl⟩ 0 rfl rfl rfl rfl hl.1 (lv_room (Nat.le_of_ble_eq_true rfl)) dX0_lampsOn_3 ⟨Nat.zero_le _, Nat.zero_le _⟩ ?_
  refine lv_istore_n (lv' := [(2, .int (its g f 1)), (0, .ref h), (1, .int (nI f))]) hx hb dX0_lampsOn_6 rfl hl (by decide) rfl (fun ls hl => ?_)
  refine lv_aload_n hx hb dX0_lampsOn_7 rfl (lv_at hl 1 rfl) ?_
  refine lv_iload_n hx hb dX0_lampsOn_8 rfl (lv_at hl 2 rfl) ?_
  refine lv_iconst (v := 2) hx hb dX0_lampsOn_9 rfl ?_
  refine ro_V (w := (GW cI h q (g 0) (g 2) (g 1) (tl g))) (rest := []) S hK hP (k_X0_getN f 2 (by omega) (by omega)) gv_X0_39 hd_X0_get ⟨Nat.le_of_ble_eq_true rfl, Nat.le_of_ble_eq_true rfl⟩ 0 rfl rfl rfl rfl hl.1 (lv_room (Nat.le_of_ble_eq_true rfl)) dX0_lampsOn_10 ⟨Nat.zero_le _, Nat.zero_le _⟩ ?_
  refine lv_istore_n (lv' := [(3, .int (its g f 2)), (2, .int (its g f 1)), (0, .ref h), (1, .int (nI f))]) hx hb dX0_lampsOn_13 rfl hl (by decide) rfl (fun ls hl => ?_)
  refine lv_iconst (v := 0) hx hb dX0_lampsOn_14 rfl ?_
  refine lv_istore (lv' := [(4, .int 0), (3, .int (its g f 2)), (2, .int (its g f 1)), (0, .ref h), (1, .int (nI f))]) hx hb dX0_lampsOn_15 hl (by decide) rfl (fun ls hl => ?_)
  refine lv_iconst (v := 0) hx hb dX0_lampsOn_17 rfl ?_
  refine lv_istore (lv' := [(5, .int 0), (4, .int 0), (3, .int (its g f 2)), (2, .int (its g f 1)), (0, .ref h), (1, .int (nI f))]) hx hb dX0_lampsOn_18 hl (by decide) rfl (fun ls hl => ?_)
  refine w_loop (pc := 20) (st := fun (i : Nat) => []) (μ := fun (i : Nat) => n - i) (I := fun (i : Nat) ls => (i ≤ n) ∧ lv_has ls 6 [(0, .ref h), (1, .int (nI f)), (2, .int (its g f 1)), (3, .int (its g f 2)), (4, .int (setF (lampP g f) i)), (5, .int (nI i))]) ?_ (0) ⟨Nat.zero_le _, lv_sub hl [4, 5, 3, 2, 1, 0] rfl⟩
  rintro i ls ⟨hi, hl⟩ ih20
  try dsimp only at ih20 ⊢
  refine lv_iload hx hb dX0_lampsOn_20 (lv_at hl 5 rfl) ?_
  refine lv_aload_n hx hb dX0_lampsOn_22 rfl (lv_at hl 0 rfl) ?_
  refine va_get (ci := 0) (v := .int (g 1)) hx hb hts wx_X0 hown hK hP 0 rfl rfl 2 (by decide) (hts _ wf_X0_18) (fun _ h9 => h9) rfl dX0_lampsOn_23 ?_
  refine w_i (z := nI n) (hI.2.1) ?_
  refine lv_icmp_ge (tgt := 82) hx hb dX0_lampsOn_26 rfl (fun c26 => ?_) (fun c26 => ?_)
  · replace c26 := nq_le (a := n) (b := i) (by omega) (by omega) c26
    refine lv_iload hx hb dX0_lampsOn_82 (lv_at hl 4 rfl) ?_
    exact ro_iret hx hb hr hlk (by rw [show i = n by omega]; rfl) dX0_lampsOn_84
  · replace c26 := nq_nle (a := n) (b := i) (by omega) (by omega) c26
    refine lv_aload_n hx hb dX0_lampsOn_29 rfl (lv_at hl 0 rfl) ?_
    refine lv_iload hx hb dX0_lampsOn_30 (lv_at hl 5 rfl) ?_
    refine lv_iconst (v := 4) hx hb dX0_lampsOn_32 rfl ?_
    refine ro_V (w := (GW cI h q (g 0) (g 2) (g 1) (tl g))) (rest := []) S hK hP (k_X0_getN i 4 (by omega) (by omega)) gv_X0_39 hd_X0_get ⟨Nat.le_of_ble_eq_true rfl, Nat.le_of_ble_eq_true rfl⟩ 0 rfl rfl rfl rfl hl.1 (lv_room (Nat.le_of_ble_eq_true rfl)) dX0_lampsOn_33 ⟨Nat.zero_le _, Nat.zero_le _⟩ ?_
    refine lv_iconst (v := 1) hx hb dX0_lampsOn_36 rfl ?_
    refine lv_icmp_ne (tgt := 76) hx hb dX0_lampsOn_37 rfl (fun c37 => ?_) (fun c37 => ?_)
    · rw [show setF (lampP g f) i = setF (lampP g f) (i + 1) from setF_f (by simp [lampP, besid, c37])] at hl
      refine lv_iinc (v := nI (i + 1)) (lv' := [(5, .int (nI (i + 1))), (0, .ref h), (1, .int (nI f)), (2, .int (its g f 1)), (3, .int (its g f 2)), (4, .int (setF (lampP g f) (i + 1)))]) hx hb dX0_lampsOn_76 hl (k := 5) rfl (nI_inc _) (by decide) rfl (fun ls hl => ?_)
      refine lv_goto (tgt := 20) hx hb dX0_lampsOn_79 rfl ?_
      exact ih20 (i + 1) ls (by first | omega | (dsimp only; omega)) ⟨(by omega), lv_sub hl [1, 2, 3, 4, 5, 0] rfl⟩
    · refine lv_aload_n hx hb dX0_lampsOn_40 rfl (lv_at hl 0 rfl) ?_
      refine lv_iload hx hb dX0_lampsOn_41 (lv_at hl 5 rfl) ?_
      refine lv_iconst (v := 1) hx hb dX0_lampsOn_43 rfl ?_
      refine ro_V (w := (GW cI h q (g 0) (g 2) (g 1) (tl g))) (rest := []) S hK hP (k_X0_getN i 1 (by omega) (by omega)) gv_X0_39 hd_X0_get ⟨Nat.le_of_ble_eq_true rfl, Nat.le_of_ble_eq_true rfl⟩ 0 rfl rfl rfl rfl hl.1 (lv_room (Nat.le_of_ble_eq_true rfl)) dX0_lampsOn_44 ⟨Nat.zero_le _, Nat.zero_le _⟩ ?_
      refine lv_iload_n hx hb dX0_lampsOn_47 rfl (lv_at hl 2 rfl) ?_
      refine lv_icmp_ne (tgt := 76) hx hb dX0_lampsOn_48 rfl (fun c48 => ?_) (fun c48 => ?_)
      · have c48s : ¬ its g f 1 = its g i 1 := fun z => c48 z.symm
        rw [show setF (lampP g f) i = setF (lampP g f) (i + 1) from setF_f (by simp [lampP, besid, c37, c48s])] at hl
        refine lv_iinc (v := nI (i + 1)) (lv' := [(5, .int (nI (i + 1))), (0, .ref h), (1, .int (nI f)), (2, .int (its g f 1)), (3, .int (its g f 2)), (4, .int (setF (lampP g f) (i + 1)))]) hx hb dX0_lampsOn_76 hl (k := 5) rfl (nI_inc _) (by decide) rfl (fun ls hl => ?_)
        refine lv_goto (tgt := 20) hx hb dX0_lampsOn_79 rfl ?_
        exact ih20 (i + 1) ls (by first | omega | (dsimp only; omega)) ⟨(by omega), lv_sub hl [1, 2, 3, 4, 5, 0] rfl⟩
      · have c48s : its g f 1 = its g i 1 := c48.symm
        refine lv_aload_n hx hb dX0_lampsOn_51 rfl (lv_at hl 0 rfl) ?_
        refine lv_iload hx hb dX0_lampsOn_52 (lv_at hl 5 rfl) ?_
        refine lv_iconst (v := 2) hx hb dX0_lampsOn_54 rfl ?_
        refine ro_V (w := (GW cI h q (g 0) (g 2) (g 1) (tl g))) (rest := []) S hK hP (k_X0_getN i 2 (by omega) (by omega)) gv_X0_39 hd_X0_get ⟨Nat.le_of_ble_eq_true rfl, Nat.le_of_ble_eq_true rfl⟩ 0 rfl rfl rfl rfl hl.1 (lv_room (Nat.le_of_ble_eq_true rfl)) dX0_lampsOn_55 ⟨Nat.zero_le _, Nat.zero_le _⟩ ?_
        refine lv_iload_n hx hb dX0_lampsOn_58 rfl (lv_at hl 3 rfl) ?_
        refine lv_isub hx hb dX0_lampsOn_59 ?_
        refine va_mabs hx hb (hml.trans hl.1.symm) hown (hts _ wm_X0_62) (hts _ wt_J9_abs_0f7a4) (hts _ wi_J9) (hts _ wc_J9_abs_0f7a4) (Nat.le_of_ble_eq_true rfl) (Nat.le_of_ble_eq_true rfl) (Nat.zero_le _) (Nat.zero_le _) dX0_lampsOn_60 ?_
        refine w_i (z := apart g f i) (abs_ap hI hf (by omega)) ?_
        refine lv_iconst (v := 3) hx hb dX0_lampsOn_63 rfl ?_
        refine lv_icmp_gt (tgt := 76) hx hb dX0_lampsOn_64 rfl (fun c64 => ?_) (fun c64 => ?_)
        · replace c64 := Int32.not_le.mpr c64
          rw [show setF (lampP g f) i = setF (lampP g f) (i + 1) from setF_f (by simp [lampP, besid, c37, c48s, c64])] at hl
          refine lv_iinc (v := nI (i + 1)) (lv' := [(5, .int (nI (i + 1))), (0, .ref h), (1, .int (nI f)), (2, .int (its g f 1)), (3, .int (its g f 2)), (4, .int (setF (lampP g f) (i + 1)))]) hx hb dX0_lampsOn_76 hl (k := 5) rfl (nI_inc _) (by decide) rfl (fun ls hl => ?_)
          refine lv_goto (tgt := 20) hx hb dX0_lampsOn_79 rfl ?_
          exact ih20 (i + 1) ls (by first | omega | (dsimp only; omega)) ⟨(by omega), lv_sub hl [1, 2, 3, 4, 5, 0] rfl⟩
        · replace c64 := Int32.not_lt.mp c64
          refine lv_iload hx hb dX0_lampsOn_67 (lv_at hl 4 rfl) ?_
          refine lv_iconst (v := 1) hx hb dX0_lampsOn_69 rfl ?_
          refine lv_iload hx hb dX0_lampsOn_70 (lv_at hl 5 rfl) ?_
          refine lv_ishl hx hb dX0_lampsOn_72 ?_
          refine lv_ior hx hb dX0_lampsOn_73 ?_
          refine w_i (z := setF (lampP g f) (i + 1)) (setF_t (by simp [lampP, besid, c37, c48s, c64])) ?_
          refine lv_istore (lv' := [(4, .int (setF (lampP g f) (i + 1))), (0, .ref h), (1, .int (nI f)), (2, .int (its g f 1)), (3, .int (its g f 2)), (5, .int (nI i))]) hx hb dX0_lampsOn_74 hl (by decide) rfl (fun ls hl => ?_)
          refine lv_iinc (v := nI (i + 1)) (lv' := [(5, .int (nI (i + 1))), (4, .int (setF (lampP g f) (i + 1))), (0, .ref h), (1, .int (nI f)), (2, .int (its g f 1)), (3, .int (its g f 2))]) hx hb dX0_lampsOn_76 hl (k := 5) rfl (nI_inc _) (by decide) rfl (fun ls hl => ?_)
          refine lv_goto (tgt := 20) hx hb dX0_lampsOn_79 rfl ?_
          exact ih20 (i + 1) ls (by first | omega | (dsimp only; omega)) ⟨(by omega), lv_sub hl [2, 3, 4, 5, 1, 0] rfl⟩

set_option maxHeartbeats 4000000 in
set_option maxRecDepth 100000 in
theorem k_X0_isSeenByAnother (n : Nat) (f : Nat) (hI : Inv g n) (hf : f < n) : RO l D (tyA cI cJ cO) yX0_isSeenByAnother cX0_isSeenByAnother 2 ((some .boolean)) 2 48 [.ref h, .int (nI f)] (GW cI h q (g 0) (g 2) (g 1) (tl g)) (.int (b2i (seenO g n f))) := by
  refine RO.mk (by decide) (Nat.le_of_ble_eq_true rfl) ?_
  intro p e s m below meth c ls S hr hlk hP hK hl
  have S : CallFix p m c cX0_isSeenByAnother 2 s _ WL RX0 := S
  obtain ⟨hx, hb, hml, hown, hts⟩ := id S
  have hl : lv_has ls 2 [(0, .ref h), (1, .int (nI f))] := hl
  refine lv_aload_n hx hb dX0_isSeenByAnother_0 rfl (lv_at hl 0 rfl) ?_
  refine lv_iload_n hx hb dX0_isSeenByAnother_1 rfl (lv_at hl 1 rfl) ?_
  refine ro_V (w := (GW cI h q (g 0) (g 2) (g 1) (tl g))) (rest := []) S hK hP (k_X0_lampsOn n f hI (by omega)) gv_X0_50 hd_X0_lampsOn ⟨Nat.le_of_ble_eq_true rfl, Nat.le_of_ble_eq_true rfl⟩ 0 rfl rfl rfl rfl hl.1 (lv_room (Nat.le_of_ble_eq_true rfl)) dX0_isSeenByAnother_2 ⟨Nat.zero_le _, Nat.zero_le _⟩ ?_
  refine lv_iconst (v := 1) hx hb dX0_isSeenByAnother_5 rfl ?_
  refine lv_iload_n hx hb dX0_isSeenByAnother_6 rfl (lv_at hl 1 rfl) ?_
  refine lv_ishl hx hb dX0_isSeenByAnother_7 ?_
  refine lv_iconst (v := (-1)) hx hb dX0_isSeenByAnother_8 rfl ?_
  refine lv_ixor hx hb dX0_isSeenByAnother_9 ?_
  refine lv_iand hx hb dX0_isSeenByAnother_10 ?_
  refine lv_if_eq (tgt := 18) hx hb dX0_isSeenByAnother_11 rfl (fun c11 => ?_) (fun c11 => ?_)
  · refine lv_iconst (v := 0) hx hb dX0_isSeenByAnother_18 rfl ?_
    exact ro_zret hx hb hr hlk (congrArg b2i (decide_eq_false (fun h9 => h9 c11)).symm) dX0_isSeenByAnother_19
  · refine lv_iconst (v := 1) hx hb dX0_isSeenByAnother_14 rfl ?_
    refine lv_goto (tgt := 19) hx hb dX0_isSeenByAnother_15 rfl ?_
    exact ro_zret hx hb hr hlk (congrArg b2i (decide_eq_true c11).symm) dX0_isSeenByAnother_19

set_option maxHeartbeats 4000000 in
set_option maxRecDepth 100000 in
theorem k_X0_isContent (n : Nat) (f : Nat) (hI : Inv g n) (hf : f < n) : RO l D (tyA cI cJ cO) yX0_isContent cX0_isContent 5 ((some .boolean)) 1 23 [.ref h, .int (nI f)] (GW cI h q (g 0) (g 2) (g 1) (tl g)) (.int (b2i (content g f))) := by
  refine RO.mk (by decide) (Nat.le_of_ble_eq_true rfl) ?_
  intro p e s m below meth c ls S hr hlk hP hK hl
  have S : CallFix p m c cX0_isContent 5 s _ WL RX0 := S
  obtain ⟨hx, hb, hml, hown, hts⟩ := id S
  have hl : lv_has ls 5 [(0, .ref h), (1, .int (nI f))] := hl
  have h8 : n ≤ 8 := hI.1
  refine lv_aload_n hx hb dX0_isContent_0 rfl (lv_at hl 0 rfl) ?_
  refine lv_iload_n hx hb dX0_isContent_1 rfl (lv_at hl 1 rfl) ?_
  refine lv_bipush (v := 6) hx hb dX0_isContent_2 rfl ?_
  refine ro_V (w := (GW cI h q (g 0) (g 2) (g 1) (tl g))) (rest := []) S hK hP (k_X0_getN f 6 (by omega) (by omega)) gv_X0_39 hd_X0_get ⟨Nat.le_of_ble_eq_true rfl, Nat.le_of_ble_eq_true rfl⟩ 0 rfl rfl rfl rfl hl.1 (lv_room (Nat.le_of_ble_eq_true rfl)) dX0_isContent_4 ⟨Nat.zero_le _, Nat.zero_le _⟩ ?_
  rcases whom_c hI hf with hw1 | ⟨hw1, hw2, hw3⟩
  · refine w_i (z := (-1)) (hw1) ?_
    have hm1 := fig_m1 hI.1
    refine lv_istore_n (lv' := [(2, .int (-1)), (0, .ref h), (1, .int (nI f))]) hx hb dX0_isContent_7 rfl hl (by decide) rfl (fun ls hl => ?_)
    refine lv_aload_n hx hb dX0_isContent_8 rfl (lv_at hl 1 rfl) ?_
    refine lv_iload_n hx hb dX0_isContent_9 rfl (lv_at hl 0 rfl) ?_
    refine ro_V (w := (GW cI h q (g 0) (g 2) (g 1) (tl g))) (rest := []) S hK hP (k_X0_lacks n (-1) hI) gv_X0_67 hd_X0_lacks ⟨Nat.le_of_ble_eq_true rfl, Nat.le_of_ble_eq_true rfl⟩ 0 rfl rfl rfl rfl hl.1 (lv_room (Nat.le_of_ble_eq_true rfl)) dX0_isContent_10 ⟨Nat.zero_le _, Nat.zero_le _⟩ ?_
    refine lv_if_ne (tgt := 36) hx hb dX0_isContent_13 rfl (fun c13 => ?_) (fun c13 => ?_)
    · replace c13 := bn_n0 c13
      refine lv_iconst (v := 1) hx hb dX0_isContent_36 rfl ?_
      refine lv_goto (tgt := 41) hx hb dX0_isContent_37 rfl ?_
      refine lv_istore_n (lv' := [(3, .int 1), (2, .int (-1)), (0, .ref h), (1, .int (nI f))]) hx hb dX0_isContent_41 rfl hl (by decide) rfl (fun ls hl => ?_)
      refine lv_aload_n hx hb dX0_isContent_42 rfl (lv_at hl 2 rfl) ?_
      refine lv_iload_n hx hb dX0_isContent_43 rfl (lv_at hl 1 rfl) ?_
      refine lv_iconst (v := 2) hx hb dX0_isContent_44 rfl ?_
      refine ro_V (w := (GW cI h q (g 0) (g 2) (g 1) (tl g))) (rest := []) S hK hP (k_X0_get (-1) 2) gv_X0_39 hd_X0_get ⟨Nat.le_of_ble_eq_true rfl, Nat.le_of_ble_eq_true rfl⟩ 0 rfl rfl rfl rfl hl.1 (lv_room (Nat.le_of_ble_eq_true rfl)) dX0_isContent_45 ⟨Nat.zero_le _, Nat.zero_le _⟩ ?_
      refine lv_aload_n hx hb dX0_isContent_48 rfl (lv_at hl 2 rfl) ?_
      refine lv_iload_n hx hb dX0_isContent_49 rfl (lv_at hl 3 rfl) ?_
      refine lv_iconst (v := 2) hx hb dX0_isContent_50 rfl ?_
      refine ro_V (w := (GW cI h q (g 0) (g 2) (g 1) (tl g))) (rest := [.int (gget (tl g) (-1) 2)]) S hK hP (k_X0_getN f 2 (by omega) (by omega)) gv_X0_39 hd_X0_get ⟨Nat.le_of_ble_eq_true rfl, Nat.le_of_ble_eq_true rfl⟩ 0 rfl rfl rfl rfl hl.1 (lv_room (Nat.le_of_ble_eq_true rfl)) dX0_isContent_51 ⟨Nat.zero_le _, Nat.zero_le _⟩ ?_
      refine lv_isub hx hb dX0_isContent_54 ?_
      refine va_mabs hx hb (hml.trans hl.1.symm) hown (hts _ wm_X0_62) (hts _ wt_J9_abs_0f7a4) (hts _ wi_J9) (hts _ wc_J9_abs_0f7a4) (Nat.le_of_ble_eq_true rfl) (Nat.le_of_ble_eq_true rfl) (Nat.zero_le _) (Nat.zero_le _) dX0_isContent_55 ?_
      refine lv_istore (lv' := [(4, .int (if 0 ≤ (gget (tl g) (-1) 2) - (its g f 2) then (gget (tl g) (-1) 2) - (its g f 2) else 0 - ((gget (tl g) (-1) 2) - (its g f 2)))), (3, .int 1), (2, .int (-1)), (0, .ref h), (1, .int (nI f))]) hx hb dX0_isContent_58 hl (by decide) rfl (fun ls hl => ?_)
      refine lv_aload_n hx hb dX0_isContent_60 rfl (lv_at hl 3 rfl) ?_
      refine lv_iload_n hx hb dX0_isContent_61 rfl (lv_at hl 4 rfl) ?_
      refine lv_iconst (v := 5) hx hb dX0_isContent_62 rfl ?_
      refine ro_V (w := (GW cI h q (g 0) (g 2) (g 1) (tl g))) (rest := []) S hK hP (k_X0_getN f 5 (by omega) (by omega)) gv_X0_39 hd_X0_get ⟨Nat.le_of_ble_eq_true rfl, Nat.le_of_ble_eq_true rfl⟩ 0 rfl rfl rfl rfl hl.1 (lv_room (Nat.le_of_ble_eq_true rfl)) dX0_isContent_63 ⟨Nat.zero_le _, Nat.zero_le _⟩ ?_
      by_cases c66_0 : (its g f 5) = 0
      · refine lv_tableIn (tgt := 96) hx hb dX0_isContent_66 (by rw [c66_0]; decide) (by rw [c66_0]; decide) (by rw [c66_0]; rfl) rfl ?_
        refine lv_aload_n hx hb dX0_isContent_96 rfl (lv_at hl 3 rfl) ?_
        refine lv_iload_n hx hb dX0_isContent_97 rfl (lv_at hl 4 rfl) ?_
        refine lv_iconst (v := 3) hx hb dX0_isContent_98 rfl ?_
        refine ro_V (w := (GW cI h q (g 0) (g 2) (g 1) (tl g))) (rest := []) S hK hP (k_X0_getN f 3 (by omega) (by omega)) gv_X0_39 hd_X0_get ⟨Nat.le_of_ble_eq_true rfl, Nat.le_of_ble_eq_true rfl⟩ 0 rfl rfl rfl rfl hl.1 (lv_room (Nat.le_of_ble_eq_true rfl)) dX0_isContent_99 ⟨Nat.zero_le _, Nat.zero_le _⟩ ?_
        refine lv_bipush (v := 10) hx hb dX0_isContent_102 rfl ?_
        refine lv_icmp_gt (tgt := 111) hx hb dX0_isContent_104 rfl (fun c104 => ?_) (fun c104 => ?_)
        · replace c104 := Int32.not_le.mpr c104
          refine lv_iconst (v := 0) hx hb dX0_isContent_111 rfl ?_
          exact ro_zret hx hb hr hlk (by simp [content, withW, besid, b2i, c13, c66_0, c104, hw1, hm1, i_lt, -Int32.not_le, -Int32.not_lt]) dX0_isContent_112
        · replace c104 := Int32.not_lt.mp c104
          refine lv_iconst (v := 1) hx hb dX0_isContent_107 rfl ?_
          refine lv_goto (tgt := 112) hx hb dX0_isContent_108 rfl ?_
          exact ro_zret hx hb hr hlk (by simp [content, withW, besid, b2i, c13, c66_0, c104, hw1, hm1, i_lt, -Int32.not_le, -Int32.not_lt]) dX0_isContent_112
      by_cases c66_1 : (its g f 5) = 1
      · refine lv_tableIn (tgt := 113) hx hb dX0_isContent_66 (by rw [c66_1]; decide) (by rw [c66_1]; decide) (by rw [c66_1]; rfl) rfl ?_
        refine lv_iload_n hx hb dX0_isContent_113 rfl (lv_at hl 1 rfl) ?_
        refine lv_if_ne (tgt := 123) hx hb dX0_isContent_114 rfl (fun c114 => ?_) (fun c114 => ?_)
        · refine lv_iconst (v := 1) hx hb dX0_isContent_123 rfl ?_
          refine lv_goto (tgt := 128) hx hb dX0_isContent_124 rfl ?_
          exact ro_zret hx hb hr hlk (by simp [content, withW, besid, b2i, c13, c66_0, c66_1, c114, hw1, hm1, i_lt, -Int32.not_le, -Int32.not_lt]) dX0_isContent_128
        · exact absurd c114 (by decide)
      by_cases c66_2 : (its g f 5) = 2
      · refine lv_tableIn (tgt := 129) hx hb dX0_isContent_66 (by rw [c66_2]; decide) (by rw [c66_2]; decide) (by rw [c66_2]; rfl) rfl ?_
        refine lv_iload_n hx hb dX0_isContent_129 rfl (lv_at hl 1 rfl) ?_
        refine lv_if_ne (tgt := 140) hx hb dX0_isContent_130 rfl (fun c130 => ?_) (fun c130 => ?_)
        · refine lv_iconst (v := 1) hx hb dX0_isContent_140 rfl ?_
          refine lv_goto (tgt := 145) hx hb dX0_isContent_141 rfl ?_
          exact ro_zret hx hb hr hlk (by simp [content, withW, besid, b2i, c13, c66_0, c66_1, c66_2, c130, hw1, hm1, i_lt, -Int32.not_le, -Int32.not_lt]) dX0_isContent_145
        · exact absurd c130 (by decide)
      by_cases c66_3 : (its g f 5) = 3
      · refine lv_tableIn (tgt := 146) hx hb dX0_isContent_66 (by rw [c66_3]; decide) (by rw [c66_3]; decide) (by rw [c66_3]; rfl) rfl ?_
        refine lv_aload_n hx hb dX0_isContent_146 rfl (lv_at hl 3 rfl) ?_
        refine lv_iload_n hx hb dX0_isContent_147 rfl (lv_at hl 4 rfl) ?_
        refine lv_iconst (v := 4) hx hb dX0_isContent_148 rfl ?_
        refine ro_V (w := (GW cI h q (g 0) (g 2) (g 1) (tl g))) (rest := []) S hK hP (k_X0_getN f 4 (by omega) (by omega)) gv_X0_39 hd_X0_get ⟨Nat.le_of_ble_eq_true rfl, Nat.le_of_ble_eq_true rfl⟩ 0 rfl rfl rfl rfl hl.1 (lv_room (Nat.le_of_ble_eq_true rfl)) dX0_isContent_149 ⟨Nat.zero_le _, Nat.zero_le _⟩ ?_
        refine lv_if_ne (tgt := 159) hx hb dX0_isContent_152 rfl (fun c152 => ?_) (fun c152 => ?_)
        · refine lv_iconst (v := 0) hx hb dX0_isContent_159 rfl ?_
          exact ro_zret hx hb hr hlk (by simp [content, withW, besid, b2i, c13, c66_0, c66_1, c66_2, c66_3, c152, hw1, hm1, i_lt, -Int32.not_le, -Int32.not_lt]) dX0_isContent_160
        · refine lv_iconst (v := 1) hx hb dX0_isContent_155 rfl ?_
          refine lv_goto (tgt := 160) hx hb dX0_isContent_156 rfl ?_
          exact ro_zret hx hb hr hlk (by simp [content, withW, besid, b2i, c13, c66_0, c66_1, c66_2, c66_3, c152, hw1, hm1, i_lt, -Int32.not_le, -Int32.not_lt]) dX0_isContent_160
      refine lv_tableOut (tgt := 161) hx hb dX0_isContent_66 (by have q0 := lv_neT c66_0 (a := 0) rfl; have q1 := lv_neT c66_1 (a := 1) rfl; have q2 := lv_neT c66_2 (a := 2) rfl; have q3 := lv_neT c66_3 (a := 3) rfl; omega) rfl ?_
      refine lv_aload_n hx hb dX0_isContent_161 rfl (lv_at hl 3 rfl) ?_
      refine lv_iload_n hx hb dX0_isContent_162 rfl (lv_at hl 4 rfl) ?_
      refine lv_iconst (v := 4) hx hb dX0_isContent_163 rfl ?_
      refine ro_V (w := (GW cI h q (g 0) (g 2) (g 1) (tl g))) (rest := []) S hK hP (k_X0_getN f 4 (by omega) (by omega)) gv_X0_39 hd_X0_get ⟨Nat.le_of_ble_eq_true rfl, Nat.le_of_ble_eq_true rfl⟩ 0 rfl rfl rfl rfl hl.1 (lv_room (Nat.le_of_ble_eq_true rfl)) dX0_isContent_164 ⟨Nat.zero_le _, Nat.zero_le _⟩ ?_
      refine lv_iconst (v := 1) hx hb dX0_isContent_167 rfl ?_
      refine lv_icmp_ne (tgt := 175) hx hb dX0_isContent_168 rfl (fun c168 => ?_) (fun c168 => ?_)
      · refine lv_iconst (v := 0) hx hb dX0_isContent_175 rfl ?_
        exact ro_zret hx hb hr hlk (by simp [content, withW, besid, b2i, c13, c66_0, c66_1, c66_2, c66_3, c168, hw1, hm1, i_lt, -Int32.not_le, -Int32.not_lt]) dX0_isContent_176
      · refine lv_iconst (v := 1) hx hb dX0_isContent_171 rfl ?_
        refine lv_goto (tgt := 176) hx hb dX0_isContent_172 rfl ?_
        exact ro_zret hx hb hr hlk (by simp [content, withW, besid, b2i, c13, c66_0, c66_1, c66_2, c66_3, c168, hw1, hm1, i_lt, -Int32.not_le, -Int32.not_lt]) dX0_isContent_176
    · replace c13 := bn_0 c13
      exact absurd c13 (by rw [hm1]; decide)
  · refine w_i (z := nI (whomN g f)) (hw1) ?_
    have hfg := fig_mk hI.1 hw2
    refine lv_istore_n (lv' := [(2, .int (nI (whomN g f))), (0, .ref h), (1, .int (nI f))]) hx hb dX0_isContent_7 rfl hl (by decide) rfl (fun ls hl => ?_)
    refine lv_aload_n hx hb dX0_isContent_8 rfl (lv_at hl 1 rfl) ?_
    refine lv_iload_n hx hb dX0_isContent_9 rfl (lv_at hl 0 rfl) ?_
    refine ro_V (w := (GW cI h q (g 0) (g 2) (g 1) (tl g))) (rest := []) S hK hP (k_X0_lacks n (nI (whomN g f)) hI) gv_X0_67 hd_X0_lacks ⟨Nat.le_of_ble_eq_true rfl, Nat.le_of_ble_eq_true rfl⟩ 0 rfl rfl rfl rfl hl.1 (lv_room (Nat.le_of_ble_eq_true rfl)) dX0_isContent_10 ⟨Nat.zero_le _, Nat.zero_le _⟩ ?_
    refine lv_if_ne (tgt := 36) hx hb dX0_isContent_13 rfl (fun c13 => ?_) (fun c13 => ?_)
    · replace c13 := bn_n0 c13
      exact absurd c13 (by rw [hfg]; decide)
    · replace c13 := bn_0 c13
      refine lv_iload_n hx hb dX0_isContent_16 rfl (lv_at hl 0 rfl) ?_
      refine lv_iload_n hx hb dX0_isContent_17 rfl (lv_at hl 2 rfl) ?_
      refine lv_icmp_eq (tgt := 36) hx hb dX0_isContent_18 rfl (fun c18 => ?_) (fun c18 => ?_)
      · replace c18 := nq_eq (a := (whomN g f)) (b := f) (by omega) (by omega) c18
        have c18w : its g f 6 = nI f := by rw [hw1, c18]
        refine lv_iconst (v := 1) hx hb dX0_isContent_36 rfl ?_
        refine lv_goto (tgt := 41) hx hb dX0_isContent_37 rfl ?_
        refine lv_istore_n (lv' := [(3, .int 1), (2, .int (nI (whomN g f))), (0, .ref h), (1, .int (nI f))]) hx hb dX0_isContent_41 rfl hl (by decide) rfl (fun ls hl => ?_)
        refine lv_aload_n hx hb dX0_isContent_42 rfl (lv_at hl 2 rfl) ?_
        refine lv_iload_n hx hb dX0_isContent_43 rfl (lv_at hl 1 rfl) ?_
        refine lv_iconst (v := 2) hx hb dX0_isContent_44 rfl ?_
        refine ro_V (w := (GW cI h q (g 0) (g 2) (g 1) (tl g))) (rest := []) S hK hP (k_X0_getN (whomN g f) 2 (by omega) (by omega)) gv_X0_39 hd_X0_get ⟨Nat.le_of_ble_eq_true rfl, Nat.le_of_ble_eq_true rfl⟩ 0 rfl rfl rfl rfl hl.1 (lv_room (Nat.le_of_ble_eq_true rfl)) dX0_isContent_45 ⟨Nat.zero_le _, Nat.zero_le _⟩ ?_
        refine lv_aload_n hx hb dX0_isContent_48 rfl (lv_at hl 2 rfl) ?_
        refine lv_iload_n hx hb dX0_isContent_49 rfl (lv_at hl 3 rfl) ?_
        refine lv_iconst (v := 2) hx hb dX0_isContent_50 rfl ?_
        refine ro_V (w := (GW cI h q (g 0) (g 2) (g 1) (tl g))) (rest := [.int (its g (whomN g f) 2)]) S hK hP (k_X0_getN f 2 (by omega) (by omega)) gv_X0_39 hd_X0_get ⟨Nat.le_of_ble_eq_true rfl, Nat.le_of_ble_eq_true rfl⟩ 0 rfl rfl rfl rfl hl.1 (lv_room (Nat.le_of_ble_eq_true rfl)) dX0_isContent_51 ⟨Nat.zero_le _, Nat.zero_le _⟩ ?_
        refine lv_isub hx hb dX0_isContent_54 ?_
        refine va_mabs hx hb (hml.trans hl.1.symm) hown (hts _ wm_X0_62) (hts _ wt_J9_abs_0f7a4) (hts _ wi_J9) (hts _ wc_J9_abs_0f7a4) (Nat.le_of_ble_eq_true rfl) (Nat.le_of_ble_eq_true rfl) (Nat.zero_le _) (Nat.zero_le _) dX0_isContent_55 ?_
        refine w_i (z := apart g f (whomN g f)) (abs_ap hI hf hw2) ?_
        refine lv_istore (lv' := [(4, .int (apart g f (whomN g f))), (3, .int 1), (2, .int (nI (whomN g f))), (0, .ref h), (1, .int (nI f))]) hx hb dX0_isContent_58 hl (by decide) rfl (fun ls hl => ?_)
        refine lv_aload_n hx hb dX0_isContent_60 rfl (lv_at hl 3 rfl) ?_
        refine lv_iload_n hx hb dX0_isContent_61 rfl (lv_at hl 4 rfl) ?_
        refine lv_iconst (v := 5) hx hb dX0_isContent_62 rfl ?_
        refine ro_V (w := (GW cI h q (g 0) (g 2) (g 1) (tl g))) (rest := []) S hK hP (k_X0_getN f 5 (by omega) (by omega)) gv_X0_39 hd_X0_get ⟨Nat.le_of_ble_eq_true rfl, Nat.le_of_ble_eq_true rfl⟩ 0 rfl rfl rfl rfl hl.1 (lv_room (Nat.le_of_ble_eq_true rfl)) dX0_isContent_63 ⟨Nat.zero_le _, Nat.zero_le _⟩ ?_
        by_cases c66_0 : (its g f 5) = 0
        · refine lv_tableIn (tgt := 96) hx hb dX0_isContent_66 (by rw [c66_0]; decide) (by rw [c66_0]; decide) (by rw [c66_0]; rfl) rfl ?_
          refine lv_aload_n hx hb dX0_isContent_96 rfl (lv_at hl 3 rfl) ?_
          refine lv_iload_n hx hb dX0_isContent_97 rfl (lv_at hl 4 rfl) ?_
          refine lv_iconst (v := 3) hx hb dX0_isContent_98 rfl ?_
          refine ro_V (w := (GW cI h q (g 0) (g 2) (g 1) (tl g))) (rest := []) S hK hP (k_X0_getN f 3 (by omega) (by omega)) gv_X0_39 hd_X0_get ⟨Nat.le_of_ble_eq_true rfl, Nat.le_of_ble_eq_true rfl⟩ 0 rfl rfl rfl rfl hl.1 (lv_room (Nat.le_of_ble_eq_true rfl)) dX0_isContent_99 ⟨Nat.zero_le _, Nat.zero_le _⟩ ?_
          refine lv_bipush (v := 10) hx hb dX0_isContent_102 rfl ?_
          refine lv_icmp_gt (tgt := 111) hx hb dX0_isContent_104 rfl (fun c104 => ?_) (fun c104 => ?_)
          · replace c104 := Int32.not_le.mpr c104
            refine lv_iconst (v := 0) hx hb dX0_isContent_111 rfl ?_
            exact ro_zret hx hb hr hlk (by simp [content, withW, besid, b2i, c13, c66_0, c104, hfg, c18w, i_lt, -Int32.not_le, -Int32.not_lt]) dX0_isContent_112
          · replace c104 := Int32.not_lt.mp c104
            refine lv_iconst (v := 1) hx hb dX0_isContent_107 rfl ?_
            refine lv_goto (tgt := 112) hx hb dX0_isContent_108 rfl ?_
            exact ro_zret hx hb hr hlk (by simp [content, withW, besid, b2i, c13, c66_0, c104, hfg, c18w, i_lt, -Int32.not_le, -Int32.not_lt]) dX0_isContent_112
        by_cases c66_1 : (its g f 5) = 1
        · refine lv_tableIn (tgt := 113) hx hb dX0_isContent_66 (by rw [c66_1]; decide) (by rw [c66_1]; decide) (by rw [c66_1]; rfl) rfl ?_
          refine lv_iload_n hx hb dX0_isContent_113 rfl (lv_at hl 1 rfl) ?_
          refine lv_if_ne (tgt := 123) hx hb dX0_isContent_114 rfl (fun c114 => ?_) (fun c114 => ?_)
          · refine lv_iconst (v := 1) hx hb dX0_isContent_123 rfl ?_
            refine lv_goto (tgt := 128) hx hb dX0_isContent_124 rfl ?_
            exact ro_zret hx hb hr hlk (by simp [content, withW, besid, b2i, c13, c66_0, c66_1, c114, hfg, c18w, i_lt, -Int32.not_le, -Int32.not_lt]) dX0_isContent_128
          · exact absurd c114 (by decide)
        by_cases c66_2 : (its g f 5) = 2
        · refine lv_tableIn (tgt := 129) hx hb dX0_isContent_66 (by rw [c66_2]; decide) (by rw [c66_2]; decide) (by rw [c66_2]; rfl) rfl ?_
          refine lv_iload_n hx hb dX0_isContent_129 rfl (lv_at hl 1 rfl) ?_
          refine lv_if_ne (tgt := 140) hx hb dX0_isContent_130 rfl (fun c130 => ?_) (fun c130 => ?_)
          · refine lv_iconst (v := 1) hx hb dX0_isContent_140 rfl ?_
            refine lv_goto (tgt := 145) hx hb dX0_isContent_141 rfl ?_
            exact ro_zret hx hb hr hlk (by simp [content, withW, besid, b2i, c13, c66_0, c66_1, c66_2, c130, hfg, c18w, i_lt, -Int32.not_le, -Int32.not_lt]) dX0_isContent_145
          · exact absurd c130 (by decide)
        by_cases c66_3 : (its g f 5) = 3
        · refine lv_tableIn (tgt := 146) hx hb dX0_isContent_66 (by rw [c66_3]; decide) (by rw [c66_3]; decide) (by rw [c66_3]; rfl) rfl ?_
          refine lv_aload_n hx hb dX0_isContent_146 rfl (lv_at hl 3 rfl) ?_
          refine lv_iload_n hx hb dX0_isContent_147 rfl (lv_at hl 4 rfl) ?_
          refine lv_iconst (v := 4) hx hb dX0_isContent_148 rfl ?_
          refine ro_V (w := (GW cI h q (g 0) (g 2) (g 1) (tl g))) (rest := []) S hK hP (k_X0_getN f 4 (by omega) (by omega)) gv_X0_39 hd_X0_get ⟨Nat.le_of_ble_eq_true rfl, Nat.le_of_ble_eq_true rfl⟩ 0 rfl rfl rfl rfl hl.1 (lv_room (Nat.le_of_ble_eq_true rfl)) dX0_isContent_149 ⟨Nat.zero_le _, Nat.zero_le _⟩ ?_
          refine lv_if_ne (tgt := 159) hx hb dX0_isContent_152 rfl (fun c152 => ?_) (fun c152 => ?_)
          · refine lv_iconst (v := 0) hx hb dX0_isContent_159 rfl ?_
            exact ro_zret hx hb hr hlk (by simp [content, withW, besid, b2i, c13, c66_0, c66_1, c66_2, c66_3, c152, hfg, c18w, i_lt, -Int32.not_le, -Int32.not_lt]) dX0_isContent_160
          · refine lv_iconst (v := 1) hx hb dX0_isContent_155 rfl ?_
            refine lv_goto (tgt := 160) hx hb dX0_isContent_156 rfl ?_
            exact ro_zret hx hb hr hlk (by simp [content, withW, besid, b2i, c13, c66_0, c66_1, c66_2, c66_3, c152, hfg, c18w, i_lt, -Int32.not_le, -Int32.not_lt]) dX0_isContent_160
        refine lv_tableOut (tgt := 161) hx hb dX0_isContent_66 (by have q0 := lv_neT c66_0 (a := 0) rfl; have q1 := lv_neT c66_1 (a := 1) rfl; have q2 := lv_neT c66_2 (a := 2) rfl; have q3 := lv_neT c66_3 (a := 3) rfl; omega) rfl ?_
        refine lv_aload_n hx hb dX0_isContent_161 rfl (lv_at hl 3 rfl) ?_
        refine lv_iload_n hx hb dX0_isContent_162 rfl (lv_at hl 4 rfl) ?_
        refine lv_iconst (v := 4) hx hb dX0_isContent_163 rfl ?_
        refine ro_V (w := (GW cI h q (g 0) (g 2) (g 1) (tl g))) (rest := []) S hK hP (k_X0_getN f 4 (by omega) (by omega)) gv_X0_39 hd_X0_get ⟨Nat.le_of_ble_eq_true rfl, Nat.le_of_ble_eq_true rfl⟩ 0 rfl rfl rfl rfl hl.1 (lv_room (Nat.le_of_ble_eq_true rfl)) dX0_isContent_164 ⟨Nat.zero_le _, Nat.zero_le _⟩ ?_
        refine lv_iconst (v := 1) hx hb dX0_isContent_167 rfl ?_
        refine lv_icmp_ne (tgt := 175) hx hb dX0_isContent_168 rfl (fun c168 => ?_) (fun c168 => ?_)
        · refine lv_iconst (v := 0) hx hb dX0_isContent_175 rfl ?_
          exact ro_zret hx hb hr hlk (by simp [content, withW, besid, b2i, c13, c66_0, c66_1, c66_2, c66_3, c168, hfg, c18w, i_lt, -Int32.not_le, -Int32.not_lt]) dX0_isContent_176
        · refine lv_iconst (v := 1) hx hb dX0_isContent_171 rfl ?_
          refine lv_goto (tgt := 176) hx hb dX0_isContent_172 rfl ?_
          exact ro_zret hx hb hr hlk (by simp [content, withW, besid, b2i, c13, c66_0, c66_1, c66_2, c66_3, c168, hfg, c18w, i_lt, -Int32.not_le, -Int32.not_lt]) dX0_isContent_176
      · replace c18 := nq_ne (a := (whomN g f)) (b := f) (by omega) (by omega) c18
        have c18w : ¬ its g f 6 = nI f := by rw [hw1]; exact fun z => c18 (nq_eq (by omega) (by omega) z)
        refine lv_aload_n hx hb dX0_isContent_21 rfl (lv_at hl 1 rfl) ?_
        refine lv_iload_n hx hb dX0_isContent_22 rfl (lv_at hl 0 rfl) ?_
        refine lv_iconst (v := 1) hx hb dX0_isContent_23 rfl ?_
        refine ro_V (w := (GW cI h q (g 0) (g 2) (g 1) (tl g))) (rest := []) S hK hP (k_X0_getN (whomN g f) 1 (by omega) (by omega)) gv_X0_39 hd_X0_get ⟨Nat.le_of_ble_eq_true rfl, Nat.le_of_ble_eq_true rfl⟩ 0 rfl rfl rfl rfl hl.1 (lv_room (Nat.le_of_ble_eq_true rfl)) dX0_isContent_24 ⟨Nat.zero_le _, Nat.zero_le _⟩ ?_
        refine lv_aload_n hx hb dX0_isContent_27 rfl (lv_at hl 1 rfl) ?_
        refine lv_iload_n hx hb dX0_isContent_28 rfl (lv_at hl 2 rfl) ?_
        refine lv_iconst (v := 1) hx hb dX0_isContent_29 rfl ?_
        refine ro_V (w := (GW cI h q (g 0) (g 2) (g 1) (tl g))) (rest := [.int (its g (whomN g f) 1)]) S hK hP (k_X0_getN f 1 (by omega) (by omega)) gv_X0_39 hd_X0_get ⟨Nat.le_of_ble_eq_true rfl, Nat.le_of_ble_eq_true rfl⟩ 0 rfl rfl rfl rfl hl.1 (lv_room (Nat.le_of_ble_eq_true rfl)) dX0_isContent_30 ⟨Nat.zero_le _, Nat.zero_le _⟩ ?_
        refine lv_icmp_eq (tgt := 40) hx hb dX0_isContent_33 rfl (fun c33 => ?_) (fun c33 => ?_)
        · have c33s : its g f 1 = its g (whomN g f) 1 := c33.symm
          refine lv_iconst (v := 0) hx hb dX0_isContent_40 rfl ?_
          refine lv_istore_n (lv' := [(3, .int 0), (2, .int (nI (whomN g f))), (0, .ref h), (1, .int (nI f))]) hx hb dX0_isContent_41 rfl hl (by decide) rfl (fun ls hl => ?_)
          refine lv_aload_n hx hb dX0_isContent_42 rfl (lv_at hl 2 rfl) ?_
          refine lv_iload_n hx hb dX0_isContent_43 rfl (lv_at hl 1 rfl) ?_
          refine lv_iconst (v := 2) hx hb dX0_isContent_44 rfl ?_
          refine ro_V (w := (GW cI h q (g 0) (g 2) (g 1) (tl g))) (rest := []) S hK hP (k_X0_getN (whomN g f) 2 (by omega) (by omega)) gv_X0_39 hd_X0_get ⟨Nat.le_of_ble_eq_true rfl, Nat.le_of_ble_eq_true rfl⟩ 0 rfl rfl rfl rfl hl.1 (lv_room (Nat.le_of_ble_eq_true rfl)) dX0_isContent_45 ⟨Nat.zero_le _, Nat.zero_le _⟩ ?_
          refine lv_aload_n hx hb dX0_isContent_48 rfl (lv_at hl 2 rfl) ?_
          refine lv_iload_n hx hb dX0_isContent_49 rfl (lv_at hl 3 rfl) ?_
          refine lv_iconst (v := 2) hx hb dX0_isContent_50 rfl ?_
          refine ro_V (w := (GW cI h q (g 0) (g 2) (g 1) (tl g))) (rest := [.int (its g (whomN g f) 2)]) S hK hP (k_X0_getN f 2 (by omega) (by omega)) gv_X0_39 hd_X0_get ⟨Nat.le_of_ble_eq_true rfl, Nat.le_of_ble_eq_true rfl⟩ 0 rfl rfl rfl rfl hl.1 (lv_room (Nat.le_of_ble_eq_true rfl)) dX0_isContent_51 ⟨Nat.zero_le _, Nat.zero_le _⟩ ?_
          refine lv_isub hx hb dX0_isContent_54 ?_
          refine va_mabs hx hb (hml.trans hl.1.symm) hown (hts _ wm_X0_62) (hts _ wt_J9_abs_0f7a4) (hts _ wi_J9) (hts _ wc_J9_abs_0f7a4) (Nat.le_of_ble_eq_true rfl) (Nat.le_of_ble_eq_true rfl) (Nat.zero_le _) (Nat.zero_le _) dX0_isContent_55 ?_
          refine w_i (z := apart g f (whomN g f)) (abs_ap hI hf hw2) ?_
          refine lv_istore (lv' := [(4, .int (apart g f (whomN g f))), (3, .int 0), (2, .int (nI (whomN g f))), (0, .ref h), (1, .int (nI f))]) hx hb dX0_isContent_58 hl (by decide) rfl (fun ls hl => ?_)
          refine lv_aload_n hx hb dX0_isContent_60 rfl (lv_at hl 3 rfl) ?_
          refine lv_iload_n hx hb dX0_isContent_61 rfl (lv_at hl 4 rfl) ?_
          refine lv_iconst (v := 5) hx hb dX0_isContent_62 rfl ?_
          refine ro_V (w := (GW cI h q (g 0) (g 2) (g 1) (tl g))) (rest := []) S hK hP (k_X0_getN f 5 (by omega) (by omega)) gv_X0_39 hd_X0_get ⟨Nat.le_of_ble_eq_true rfl, Nat.le_of_ble_eq_true rfl⟩ 0 rfl rfl rfl rfl hl.1 (lv_room (Nat.le_of_ble_eq_true rfl)) dX0_isContent_63 ⟨Nat.zero_le _, Nat.zero_le _⟩ ?_
          by_cases c66_0 : (its g f 5) = 0
          · refine lv_tableIn (tgt := 96) hx hb dX0_isContent_66 (by rw [c66_0]; decide) (by rw [c66_0]; decide) (by rw [c66_0]; rfl) rfl ?_
            refine lv_aload_n hx hb dX0_isContent_96 rfl (lv_at hl 3 rfl) ?_
            refine lv_iload_n hx hb dX0_isContent_97 rfl (lv_at hl 4 rfl) ?_
            refine lv_iconst (v := 3) hx hb dX0_isContent_98 rfl ?_
            refine ro_V (w := (GW cI h q (g 0) (g 2) (g 1) (tl g))) (rest := []) S hK hP (k_X0_getN f 3 (by omega) (by omega)) gv_X0_39 hd_X0_get ⟨Nat.le_of_ble_eq_true rfl, Nat.le_of_ble_eq_true rfl⟩ 0 rfl rfl rfl rfl hl.1 (lv_room (Nat.le_of_ble_eq_true rfl)) dX0_isContent_99 ⟨Nat.zero_le _, Nat.zero_le _⟩ ?_
            refine lv_bipush (v := 10) hx hb dX0_isContent_102 rfl ?_
            refine lv_icmp_gt (tgt := 111) hx hb dX0_isContent_104 rfl (fun c104 => ?_) (fun c104 => ?_)
            · replace c104 := Int32.not_le.mpr c104
              refine lv_iconst (v := 0) hx hb dX0_isContent_111 rfl ?_
              exact ro_zret hx hb hr hlk (by simp [content, withW, besid, b2i, c13, c66_0, c104, hw3, hfg, c18w, c33s, i_lt, -Int32.not_le, -Int32.not_lt]) dX0_isContent_112
            · replace c104 := Int32.not_lt.mp c104
              refine lv_iconst (v := 1) hx hb dX0_isContent_107 rfl ?_
              refine lv_goto (tgt := 112) hx hb dX0_isContent_108 rfl ?_
              exact ro_zret hx hb hr hlk (by simp [content, withW, besid, b2i, c13, c66_0, c104, hw3, hfg, c18w, c33s, i_lt, -Int32.not_le, -Int32.not_lt]) dX0_isContent_112
          by_cases c66_1 : (its g f 5) = 1
          · refine lv_tableIn (tgt := 113) hx hb dX0_isContent_66 (by rw [c66_1]; decide) (by rw [c66_1]; decide) (by rw [c66_1]; rfl) rfl ?_
            refine lv_iload_n hx hb dX0_isContent_113 rfl (lv_at hl 1 rfl) ?_
            refine lv_if_ne (tgt := 123) hx hb dX0_isContent_114 rfl (fun c114 => ?_) (fun c114 => ?_)
            · exact absurd c114 (by decide)
            · refine lv_iload hx hb dX0_isContent_117 (lv_at hl 0 rfl) ?_
              refine lv_iconst (v := 1) hx hb dX0_isContent_119 rfl ?_
              refine lv_icmp_gt (tgt := 127) hx hb dX0_isContent_120 rfl (fun c120 => ?_) (fun c120 => ?_)
              · replace c120 := Int32.not_le.mpr c120
                refine lv_iconst (v := 0) hx hb dX0_isContent_127 rfl ?_
                exact ro_zret hx hb hr hlk (by simp [content, withW, besid, b2i, c13, c66_0, c66_1, c114, c120, hw3, hfg, c18w, c33s, i_lt, -Int32.not_le, -Int32.not_lt]) dX0_isContent_128
              · replace c120 := Int32.not_lt.mp c120
                refine lv_iconst (v := 1) hx hb dX0_isContent_123 rfl ?_
                refine lv_goto (tgt := 128) hx hb dX0_isContent_124 rfl ?_
                exact ro_zret hx hb hr hlk (by simp [content, withW, besid, b2i, c13, c66_0, c66_1, c114, c120, hw3, hfg, c18w, c33s, i_lt, -Int32.not_le, -Int32.not_lt]) dX0_isContent_128
          by_cases c66_2 : (its g f 5) = 2
          · refine lv_tableIn (tgt := 129) hx hb dX0_isContent_66 (by rw [c66_2]; decide) (by rw [c66_2]; decide) (by rw [c66_2]; rfl) rfl ?_
            refine lv_iload_n hx hb dX0_isContent_129 rfl (lv_at hl 1 rfl) ?_
            refine lv_if_ne (tgt := 140) hx hb dX0_isContent_130 rfl (fun c130 => ?_) (fun c130 => ?_)
            · exact absurd c130 (by decide)
            · refine lv_iload hx hb dX0_isContent_133 (lv_at hl 0 rfl) ?_
              refine lv_bipush (v := 10) hx hb dX0_isContent_135 rfl ?_
              refine lv_icmp_lt (tgt := 144) hx hb dX0_isContent_137 rfl (fun c137 => ?_) (fun c137 => ?_)
              · replace c137 := Int32.not_le.mpr c137
                refine lv_iconst (v := 0) hx hb dX0_isContent_144 rfl ?_
                exact ro_zret hx hb hr hlk (by simp [content, withW, besid, b2i, c13, c66_0, c66_1, c66_2, c130, c137, hw3, hfg, c18w, c33s, i_lt, -Int32.not_le, -Int32.not_lt]) dX0_isContent_145
              · replace c137 := Int32.not_lt.mp c137
                refine lv_iconst (v := 1) hx hb dX0_isContent_140 rfl ?_
                refine lv_goto (tgt := 145) hx hb dX0_isContent_141 rfl ?_
                exact ro_zret hx hb hr hlk (by simp [content, withW, besid, b2i, c13, c66_0, c66_1, c66_2, c130, c137, hw3, hfg, c18w, c33s, i_lt, -Int32.not_le, -Int32.not_lt]) dX0_isContent_145
          by_cases c66_3 : (its g f 5) = 3
          · refine lv_tableIn (tgt := 146) hx hb dX0_isContent_66 (by rw [c66_3]; decide) (by rw [c66_3]; decide) (by rw [c66_3]; rfl) rfl ?_
            refine lv_aload_n hx hb dX0_isContent_146 rfl (lv_at hl 3 rfl) ?_
            refine lv_iload_n hx hb dX0_isContent_147 rfl (lv_at hl 4 rfl) ?_
            refine lv_iconst (v := 4) hx hb dX0_isContent_148 rfl ?_
            refine ro_V (w := (GW cI h q (g 0) (g 2) (g 1) (tl g))) (rest := []) S hK hP (k_X0_getN f 4 (by omega) (by omega)) gv_X0_39 hd_X0_get ⟨Nat.le_of_ble_eq_true rfl, Nat.le_of_ble_eq_true rfl⟩ 0 rfl rfl rfl rfl hl.1 (lv_room (Nat.le_of_ble_eq_true rfl)) dX0_isContent_149 ⟨Nat.zero_le _, Nat.zero_le _⟩ ?_
            refine lv_if_ne (tgt := 159) hx hb dX0_isContent_152 rfl (fun c152 => ?_) (fun c152 => ?_)
            · refine lv_iconst (v := 0) hx hb dX0_isContent_159 rfl ?_
              exact ro_zret hx hb hr hlk (by simp [content, withW, besid, b2i, c13, c66_0, c66_1, c66_2, c66_3, c152, hw3, hfg, c18w, c33s, i_lt, -Int32.not_le, -Int32.not_lt]) dX0_isContent_160
            · refine lv_iconst (v := 1) hx hb dX0_isContent_155 rfl ?_
              refine lv_goto (tgt := 160) hx hb dX0_isContent_156 rfl ?_
              exact ro_zret hx hb hr hlk (by simp [content, withW, besid, b2i, c13, c66_0, c66_1, c66_2, c66_3, c152, hw3, hfg, c18w, c33s, i_lt, -Int32.not_le, -Int32.not_lt]) dX0_isContent_160
          refine lv_tableOut (tgt := 161) hx hb dX0_isContent_66 (by have q0 := lv_neT c66_0 (a := 0) rfl; have q1 := lv_neT c66_1 (a := 1) rfl; have q2 := lv_neT c66_2 (a := 2) rfl; have q3 := lv_neT c66_3 (a := 3) rfl; omega) rfl ?_
          refine lv_aload_n hx hb dX0_isContent_161 rfl (lv_at hl 3 rfl) ?_
          refine lv_iload_n hx hb dX0_isContent_162 rfl (lv_at hl 4 rfl) ?_
          refine lv_iconst (v := 4) hx hb dX0_isContent_163 rfl ?_
          refine ro_V (w := (GW cI h q (g 0) (g 2) (g 1) (tl g))) (rest := []) S hK hP (k_X0_getN f 4 (by omega) (by omega)) gv_X0_39 hd_X0_get ⟨Nat.le_of_ble_eq_true rfl, Nat.le_of_ble_eq_true rfl⟩ 0 rfl rfl rfl rfl hl.1 (lv_room (Nat.le_of_ble_eq_true rfl)) dX0_isContent_164 ⟨Nat.zero_le _, Nat.zero_le _⟩ ?_
          refine lv_iconst (v := 1) hx hb dX0_isContent_167 rfl ?_
          refine lv_icmp_ne (tgt := 175) hx hb dX0_isContent_168 rfl (fun c168 => ?_) (fun c168 => ?_)
          · refine lv_iconst (v := 0) hx hb dX0_isContent_175 rfl ?_
            exact ro_zret hx hb hr hlk (by simp [content, withW, besid, b2i, c13, c66_0, c66_1, c66_2, c66_3, c168, hw3, hfg, c18w, c33s, i_lt, -Int32.not_le, -Int32.not_lt]) dX0_isContent_176
          · refine lv_iconst (v := 1) hx hb dX0_isContent_171 rfl ?_
            refine lv_goto (tgt := 176) hx hb dX0_isContent_172 rfl ?_
            exact ro_zret hx hb hr hlk (by simp [content, withW, besid, b2i, c13, c66_0, c66_1, c66_2, c66_3, c168, hw3, hfg, c18w, c33s, i_lt, -Int32.not_le, -Int32.not_lt]) dX0_isContent_176
        · have c33s : ¬ its g f 1 = its g (whomN g f) 1 := fun z => c33 z.symm
          refine lv_iconst (v := 1) hx hb dX0_isContent_36 rfl ?_
          refine lv_goto (tgt := 41) hx hb dX0_isContent_37 rfl ?_
          refine lv_istore_n (lv' := [(3, .int 1), (2, .int (nI (whomN g f))), (0, .ref h), (1, .int (nI f))]) hx hb dX0_isContent_41 rfl hl (by decide) rfl (fun ls hl => ?_)
          refine lv_aload_n hx hb dX0_isContent_42 rfl (lv_at hl 2 rfl) ?_
          refine lv_iload_n hx hb dX0_isContent_43 rfl (lv_at hl 1 rfl) ?_
          refine lv_iconst (v := 2) hx hb dX0_isContent_44 rfl ?_
          refine ro_V (w := (GW cI h q (g 0) (g 2) (g 1) (tl g))) (rest := []) S hK hP (k_X0_getN (whomN g f) 2 (by omega) (by omega)) gv_X0_39 hd_X0_get ⟨Nat.le_of_ble_eq_true rfl, Nat.le_of_ble_eq_true rfl⟩ 0 rfl rfl rfl rfl hl.1 (lv_room (Nat.le_of_ble_eq_true rfl)) dX0_isContent_45 ⟨Nat.zero_le _, Nat.zero_le _⟩ ?_
          refine lv_aload_n hx hb dX0_isContent_48 rfl (lv_at hl 2 rfl) ?_
          refine lv_iload_n hx hb dX0_isContent_49 rfl (lv_at hl 3 rfl) ?_
          refine lv_iconst (v := 2) hx hb dX0_isContent_50 rfl ?_
          refine ro_V (w := (GW cI h q (g 0) (g 2) (g 1) (tl g))) (rest := [.int (its g (whomN g f) 2)]) S hK hP (k_X0_getN f 2 (by omega) (by omega)) gv_X0_39 hd_X0_get ⟨Nat.le_of_ble_eq_true rfl, Nat.le_of_ble_eq_true rfl⟩ 0 rfl rfl rfl rfl hl.1 (lv_room (Nat.le_of_ble_eq_true rfl)) dX0_isContent_51 ⟨Nat.zero_le _, Nat.zero_le _⟩ ?_
          refine lv_isub hx hb dX0_isContent_54 ?_
          refine va_mabs hx hb (hml.trans hl.1.symm) hown (hts _ wm_X0_62) (hts _ wt_J9_abs_0f7a4) (hts _ wi_J9) (hts _ wc_J9_abs_0f7a4) (Nat.le_of_ble_eq_true rfl) (Nat.le_of_ble_eq_true rfl) (Nat.zero_le _) (Nat.zero_le _) dX0_isContent_55 ?_
          refine w_i (z := apart g f (whomN g f)) (abs_ap hI hf hw2) ?_
          refine lv_istore (lv' := [(4, .int (apart g f (whomN g f))), (3, .int 1), (2, .int (nI (whomN g f))), (0, .ref h), (1, .int (nI f))]) hx hb dX0_isContent_58 hl (by decide) rfl (fun ls hl => ?_)
          refine lv_aload_n hx hb dX0_isContent_60 rfl (lv_at hl 3 rfl) ?_
          refine lv_iload_n hx hb dX0_isContent_61 rfl (lv_at hl 4 rfl) ?_
          refine lv_iconst (v := 5) hx hb dX0_isContent_62 rfl ?_
          refine ro_V (w := (GW cI h q (g 0) (g 2) (g 1) (tl g))) (rest := []) S hK hP (k_X0_getN f 5 (by omega) (by omega)) gv_X0_39 hd_X0_get ⟨Nat.le_of_ble_eq_true rfl, Nat.le_of_ble_eq_true rfl⟩ 0 rfl rfl rfl rfl hl.1 (lv_room (Nat.le_of_ble_eq_true rfl)) dX0_isContent_63 ⟨Nat.zero_le _, Nat.zero_le _⟩ ?_
          by_cases c66_0 : (its g f 5) = 0
          · refine lv_tableIn (tgt := 96) hx hb dX0_isContent_66 (by rw [c66_0]; decide) (by rw [c66_0]; decide) (by rw [c66_0]; rfl) rfl ?_
            refine lv_aload_n hx hb dX0_isContent_96 rfl (lv_at hl 3 rfl) ?_
            refine lv_iload_n hx hb dX0_isContent_97 rfl (lv_at hl 4 rfl) ?_
            refine lv_iconst (v := 3) hx hb dX0_isContent_98 rfl ?_
            refine ro_V (w := (GW cI h q (g 0) (g 2) (g 1) (tl g))) (rest := []) S hK hP (k_X0_getN f 3 (by omega) (by omega)) gv_X0_39 hd_X0_get ⟨Nat.le_of_ble_eq_true rfl, Nat.le_of_ble_eq_true rfl⟩ 0 rfl rfl rfl rfl hl.1 (lv_room (Nat.le_of_ble_eq_true rfl)) dX0_isContent_99 ⟨Nat.zero_le _, Nat.zero_le _⟩ ?_
            refine lv_bipush (v := 10) hx hb dX0_isContent_102 rfl ?_
            refine lv_icmp_gt (tgt := 111) hx hb dX0_isContent_104 rfl (fun c104 => ?_) (fun c104 => ?_)
            · replace c104 := Int32.not_le.mpr c104
              refine lv_iconst (v := 0) hx hb dX0_isContent_111 rfl ?_
              exact ro_zret hx hb hr hlk (by simp [content, withW, besid, b2i, c13, c66_0, c104, hw3, hfg, c18w, c33s, i_lt, -Int32.not_le, -Int32.not_lt]) dX0_isContent_112
            · replace c104 := Int32.not_lt.mp c104
              refine lv_iconst (v := 1) hx hb dX0_isContent_107 rfl ?_
              refine lv_goto (tgt := 112) hx hb dX0_isContent_108 rfl ?_
              exact ro_zret hx hb hr hlk (by simp [content, withW, besid, b2i, c13, c66_0, c104, hw3, hfg, c18w, c33s, i_lt, -Int32.not_le, -Int32.not_lt]) dX0_isContent_112
          by_cases c66_1 : (its g f 5) = 1
          · refine lv_tableIn (tgt := 113) hx hb dX0_isContent_66 (by rw [c66_1]; decide) (by rw [c66_1]; decide) (by rw [c66_1]; rfl) rfl ?_
            refine lv_iload_n hx hb dX0_isContent_113 rfl (lv_at hl 1 rfl) ?_
            refine lv_if_ne (tgt := 123) hx hb dX0_isContent_114 rfl (fun c114 => ?_) (fun c114 => ?_)
            · refine lv_iconst (v := 1) hx hb dX0_isContent_123 rfl ?_
              refine lv_goto (tgt := 128) hx hb dX0_isContent_124 rfl ?_
              exact ro_zret hx hb hr hlk (by simp [content, withW, besid, b2i, c13, c66_0, c66_1, c114, hw3, hfg, c18w, c33s, i_lt, -Int32.not_le, -Int32.not_lt]) dX0_isContent_128
            · exact absurd c114 (by decide)
          by_cases c66_2 : (its g f 5) = 2
          · refine lv_tableIn (tgt := 129) hx hb dX0_isContent_66 (by rw [c66_2]; decide) (by rw [c66_2]; decide) (by rw [c66_2]; rfl) rfl ?_
            refine lv_iload_n hx hb dX0_isContent_129 rfl (lv_at hl 1 rfl) ?_
            refine lv_if_ne (tgt := 140) hx hb dX0_isContent_130 rfl (fun c130 => ?_) (fun c130 => ?_)
            · refine lv_iconst (v := 1) hx hb dX0_isContent_140 rfl ?_
              refine lv_goto (tgt := 145) hx hb dX0_isContent_141 rfl ?_
              exact ro_zret hx hb hr hlk (by simp [content, withW, besid, b2i, c13, c66_0, c66_1, c66_2, c130, hw3, hfg, c18w, c33s, i_lt, -Int32.not_le, -Int32.not_lt]) dX0_isContent_145
            · exact absurd c130 (by decide)
          by_cases c66_3 : (its g f 5) = 3
          · refine lv_tableIn (tgt := 146) hx hb dX0_isContent_66 (by rw [c66_3]; decide) (by rw [c66_3]; decide) (by rw [c66_3]; rfl) rfl ?_
            refine lv_aload_n hx hb dX0_isContent_146 rfl (lv_at hl 3 rfl) ?_
            refine lv_iload_n hx hb dX0_isContent_147 rfl (lv_at hl 4 rfl) ?_
            refine lv_iconst (v := 4) hx hb dX0_isContent_148 rfl ?_
            refine ro_V (w := (GW cI h q (g 0) (g 2) (g 1) (tl g))) (rest := []) S hK hP (k_X0_getN f 4 (by omega) (by omega)) gv_X0_39 hd_X0_get ⟨Nat.le_of_ble_eq_true rfl, Nat.le_of_ble_eq_true rfl⟩ 0 rfl rfl rfl rfl hl.1 (lv_room (Nat.le_of_ble_eq_true rfl)) dX0_isContent_149 ⟨Nat.zero_le _, Nat.zero_le _⟩ ?_
            refine lv_if_ne (tgt := 159) hx hb dX0_isContent_152 rfl (fun c152 => ?_) (fun c152 => ?_)
            · refine lv_iconst (v := 0) hx hb dX0_isContent_159 rfl ?_
              exact ro_zret hx hb hr hlk (by simp [content, withW, besid, b2i, c13, c66_0, c66_1, c66_2, c66_3, c152, hw3, hfg, c18w, c33s, i_lt, -Int32.not_le, -Int32.not_lt]) dX0_isContent_160
            · refine lv_iconst (v := 1) hx hb dX0_isContent_155 rfl ?_
              refine lv_goto (tgt := 160) hx hb dX0_isContent_156 rfl ?_
              exact ro_zret hx hb hr hlk (by simp [content, withW, besid, b2i, c13, c66_0, c66_1, c66_2, c66_3, c152, hw3, hfg, c18w, c33s, i_lt, -Int32.not_le, -Int32.not_lt]) dX0_isContent_160
          refine lv_tableOut (tgt := 161) hx hb dX0_isContent_66 (by have q0 := lv_neT c66_0 (a := 0) rfl; have q1 := lv_neT c66_1 (a := 1) rfl; have q2 := lv_neT c66_2 (a := 2) rfl; have q3 := lv_neT c66_3 (a := 3) rfl; omega) rfl ?_
          refine lv_aload_n hx hb dX0_isContent_161 rfl (lv_at hl 3 rfl) ?_
          refine lv_iload_n hx hb dX0_isContent_162 rfl (lv_at hl 4 rfl) ?_
          refine lv_iconst (v := 4) hx hb dX0_isContent_163 rfl ?_
          refine ro_V (w := (GW cI h q (g 0) (g 2) (g 1) (tl g))) (rest := []) S hK hP (k_X0_getN f 4 (by omega) (by omega)) gv_X0_39 hd_X0_get ⟨Nat.le_of_ble_eq_true rfl, Nat.le_of_ble_eq_true rfl⟩ 0 rfl rfl rfl rfl hl.1 (lv_room (Nat.le_of_ble_eq_true rfl)) dX0_isContent_164 ⟨Nat.zero_le _, Nat.zero_le _⟩ ?_
          refine lv_iconst (v := 1) hx hb dX0_isContent_167 rfl ?_
          refine lv_icmp_ne (tgt := 175) hx hb dX0_isContent_168 rfl (fun c168 => ?_) (fun c168 => ?_)
          · refine lv_iconst (v := 0) hx hb dX0_isContent_175 rfl ?_
            exact ro_zret hx hb hr hlk (by simp [content, withW, besid, b2i, c13, c66_0, c66_1, c66_2, c66_3, c168, hw3, hfg, c18w, c33s, i_lt, -Int32.not_le, -Int32.not_lt]) dX0_isContent_176
          · refine lv_iconst (v := 1) hx hb dX0_isContent_171 rfl ?_
            refine lv_goto (tgt := 176) hx hb dX0_isContent_172 rfl ?_
            exact ro_zret hx hb hr hlk (by simp [content, withW, besid, b2i, c13, c66_0, c66_1, c66_2, c66_3, c168, hw3, hfg, c18w, c33s, i_lt, -Int32.not_le, -Int32.not_lt]) dX0_isContent_176

set_option maxHeartbeats 4000000 in
set_option maxRecDepth 100000 in
theorem k_X0_whoIsContent (n : Nat) (hI : Inv g n) : RO l D (tyA cI cJ cO) yX0_whoIsContent cX0_whoIsContent 3 ((some .int)) 2 47 [.ref h] (GW cI h q (g 0) (g 2) (g 1) (tl g)) (.int (contS g n)) := by
  refine RO.mk (by decide) (Nat.le_of_ble_eq_true rfl) ?_
  intro p e s m below meth c ls S hr hlk hP hK hl
  have S : CallFix p m c cX0_whoIsContent 3 s _ WL RX0 := S
  obtain ⟨hx, hb, hml, hown, hts⟩ := id S
  have hl : lv_has ls 3 [(0, .ref h)] := hl
  have h8 : n ≤ 8 := hI.1
  refine lv_iconst (v := 0) hx hb dX0_whoIsContent_0 rfl ?_
  refine lv_istore_n (lv' := [(1, .int 0), (0, .ref h)]) hx hb dX0_whoIsContent_1 rfl hl (by decide) rfl (fun ls hl => ?_)
  refine lv_iconst (v := 0) hx hb dX0_whoIsContent_2 rfl ?_
  refine lv_istore_n (lv' := [(2, .int 0), (1, .int 0), (0, .ref h)]) hx hb dX0_whoIsContent_3 rfl hl (by decide) rfl (fun ls hl => ?_)
  refine w_loop (pc := 4) (st := fun (i : Nat) => []) (μ := fun (i : Nat) => n - i) (I := fun (i : Nat) ls => (i ≤ n) ∧ lv_has ls 3 [(0, .ref h), (1, .int (setF (content g) i)), (2, .int (nI i))]) ?_ (0) ⟨Nat.zero_le _, lv_sub hl [2, 1, 0] rfl⟩
  rintro i ls ⟨hi, hl⟩ ih4
  try dsimp only at ih4 ⊢
  refine lv_iload_n hx hb dX0_whoIsContent_4 rfl (lv_at hl 2 rfl) ?_
  refine lv_aload_n hx hb dX0_whoIsContent_5 rfl (lv_at hl 0 rfl) ?_
  refine va_get (ci := 0) (v := .int (g 1)) hx hb hts wx_X0 hown hK hP 0 rfl rfl 2 (by decide) (hts _ wf_X0_18) (fun _ h9 => h9) rfl dX0_whoIsContent_6 ?_
  refine w_i (z := nI n) (hI.2.1) ?_
  refine lv_icmp_ge (tgt := 32) hx hb dX0_whoIsContent_9 rfl (fun c9 => ?_) (fun c9 => ?_)
  · replace c9 := nq_le (a := n) (b := i) (by omega) (by omega) c9
    refine lv_iload_n hx hb dX0_whoIsContent_32 rfl (lv_at hl 1 rfl) ?_
    exact ro_iret hx hb hr hlk (by rw [show i = n by omega]; rfl) dX0_whoIsContent_33
  · replace c9 := nq_nle (a := n) (b := i) (by omega) (by omega) c9
    refine lv_aload_n hx hb dX0_whoIsContent_12 rfl (lv_at hl 0 rfl) ?_
    refine lv_iload_n hx hb dX0_whoIsContent_13 rfl (lv_at hl 2 rfl) ?_
    refine ro_V (w := (GW cI h q (g 0) (g 2) (g 1) (tl g))) (rest := []) S hK hP (k_X0_isContent n i hI (by omega)) gv_X0_43 hd_X0_isContent ⟨Nat.le_of_ble_eq_true rfl, Nat.le_of_ble_eq_true rfl⟩ 0 rfl rfl rfl rfl hl.1 (lv_room (Nat.le_of_ble_eq_true rfl)) dX0_whoIsContent_14 ⟨Nat.zero_le _, Nat.zero_le _⟩ ?_
    refine lv_if_eq (tgt := 26) hx hb dX0_whoIsContent_17 rfl (fun c17 => ?_) (fun c17 => ?_)
    · replace c17 := (b2i_0 _).mp c17
      rw [show setF (content g) i = setF (content g) (i + 1) from setF_f c17] at hl
      refine lv_iinc (v := nI (i + 1)) (lv' := [(2, .int (nI (i + 1))), (0, .ref h), (1, .int (setF (content g) (i + 1)))]) hx hb dX0_whoIsContent_26 hl (k := 2) rfl (nI_inc _) (by decide) rfl (fun ls hl => ?_)
      refine lv_goto (tgt := 4) hx hb dX0_whoIsContent_29 rfl ?_
      exact ih4 (i + 1) ls (by first | omega | (dsimp only; omega)) ⟨(by omega), lv_sub hl [1, 2, 0] rfl⟩
    · replace c17 := b2i_n0 c17
      refine lv_iload_n hx hb dX0_whoIsContent_20 rfl (lv_at hl 1 rfl) ?_
      refine lv_iconst (v := 1) hx hb dX0_whoIsContent_21 rfl ?_
      refine lv_iload_n hx hb dX0_whoIsContent_22 rfl (lv_at hl 2 rfl) ?_
      refine lv_ishl hx hb dX0_whoIsContent_23 ?_
      refine lv_ior hx hb dX0_whoIsContent_24 ?_
      refine w_i (z := setF (content g) (i + 1)) (setF_t c17) ?_
      refine lv_istore_n (lv' := [(1, .int (setF (content g) (i + 1))), (0, .ref h), (2, .int (nI i))]) hx hb dX0_whoIsContent_25 rfl hl (by decide) rfl (fun ls hl => ?_)
      refine lv_iinc (v := nI (i + 1)) (lv' := [(2, .int (nI (i + 1))), (1, .int (setF (content g) (i + 1))), (0, .ref h)]) hx hb dX0_whoIsContent_26 hl (k := 2) rfl (nI_inc _) (by decide) rfl (fun ls hl => ?_)
      refine lv_goto (tgt := 4) hx hb dX0_whoIsContent_29 rfl ?_
      exact ih4 (i + 1) ls (by first | omega | (dsimp only; omega)) ⟨(by omega), lv_sub hl [2, 1, 0] rfl⟩

set_option maxHeartbeats 4000000 in
set_option maxRecDepth 100000 in
theorem k_X0_isAnotherDiscontent (n : Nat) (f : Nat) (hI : Inv g n) (hf : f < n) : RO l D (tyA cI cJ cO) yX0_isAnotherDiscontent cX0_isAnotherDiscontent 4 ((some .boolean)) 2 47 [.ref h, .int (nI f)] (GW cI h q (g 0) (g 2) (g 1) (tl g)) (.int (b2i (anyF (crossP g f) n))) := by
  refine RO.mk (by decide) (Nat.le_of_ble_eq_true rfl) ?_
  intro p e s m below meth c ls S hr hlk hP hK hl
  have S : CallFix p m c cX0_isAnotherDiscontent 4 s _ WL RX0 := S
  obtain ⟨hx, hb, hml, hown, hts⟩ := id S
  have hl : lv_has ls 4 [(0, .ref h), (1, .int (nI f))] := hl
  have h8 : n ≤ 8 := hI.1
  refine lv_aload_n hx hb dX0_isAnotherDiscontent_0 rfl (lv_at hl 0 rfl) ?_
  refine lv_iload_n hx hb dX0_isAnotherDiscontent_1 rfl (lv_at hl 1 rfl) ?_
  refine lv_iconst (v := 1) hx hb dX0_isAnotherDiscontent_2 rfl ?_
  refine ro_V (w := (GW cI h q (g 0) (g 2) (g 1) (tl g))) (rest := []) S hK hP (k_X0_getN f 1 (by omega) (by omega)) gv_X0_39 hd_X0_get ⟨Nat.le_of_ble_eq_true rfl, Nat.le_of_ble_eq_true rfl⟩ 0 rfl rfl rfl rfl hl.1 (lv_room (Nat.le_of_ble_eq_true rfl)) dX0_isAnotherDiscontent_3 ⟨Nat.zero_le _, Nat.zero_le _⟩ ?_
  refine lv_istore_n (lv' := [(2, .int (its g f 1)), (0, .ref h), (1, .int (nI f))]) hx hb dX0_isAnotherDiscontent_6 rfl hl (by decide) rfl (fun ls hl => ?_)
  refine lv_iconst (v := 0) hx hb dX0_isAnotherDiscontent_7 rfl ?_
  refine lv_istore_n (lv' := [(3, .int 0), (2, .int (its g f 1)), (0, .ref h), (1, .int (nI f))]) hx hb dX0_isAnotherDiscontent_8 rfl hl (by decide) rfl (fun ls hl => ?_)
  refine w_loop (pc := 9) (st := fun (i : Nat) => []) (μ := fun (i : Nat) => n - i) (I := fun (i : Nat) ls => (i ≤ n) ∧ (∀ j, j < i → crossP g f j = false) ∧ lv_has ls 4 [(0, .ref h), (1, .int (nI f)), (2, .int (its g f 1)), (3, .int (nI i))]) ?_ (0) ⟨Nat.zero_le _, fun j h => absurd h (Nat.not_lt_zero j), lv_sub hl [2, 3, 1, 0] rfl⟩
  rintro i ls ⟨hi, hno, hl⟩ ih9
  try dsimp only at ih9 ⊢
  refine lv_iload_n hx hb dX0_isAnotherDiscontent_9 rfl (lv_at hl 3 rfl) ?_
  refine lv_aload_n hx hb dX0_isAnotherDiscontent_10 rfl (lv_at hl 0 rfl) ?_
  refine va_get (ci := 0) (v := .int (g 1)) hx hb hts wx_X0 hown hK hP 0 rfl rfl 2 (by decide) (hts _ wf_X0_18) (fun _ h9 => h9) rfl dX0_isAnotherDiscontent_11 ?_
  refine w_i (z := nI n) (hI.2.1) ?_
  refine lv_icmp_ge (tgt := 48) hx hb dX0_isAnotherDiscontent_14 rfl (fun c14 => ?_) (fun c14 => ?_)
  · replace c14 := nq_le (a := n) (b := i) (by omega) (by omega) c14
    refine lv_iconst (v := 0) hx hb dX0_isAnotherDiscontent_48 rfl ?_
    exact ro_zret hx hb hr hlk (congrArg b2i (anyF_n (fun j hj => hno j (by omega))).symm) dX0_isAnotherDiscontent_49
  · replace c14 := nq_nle (a := n) (b := i) (by omega) (by omega) c14
    refine lv_iload_n hx hb dX0_isAnotherDiscontent_17 rfl (lv_at hl 3 rfl) ?_
    refine lv_iload_n hx hb dX0_isAnotherDiscontent_18 rfl (lv_at hl 1 rfl) ?_
    refine lv_icmp_eq (tgt := 42) hx hb dX0_isAnotherDiscontent_19 rfl (fun c19 => ?_) (fun c19 => ?_)
    · replace c19 := nq_eq (a := i) (b := f) (by omega) (by omega) c19
      refine lv_iinc (v := nI (i + 1)) (lv' := [(3, .int (nI (i + 1))), (0, .ref h), (1, .int (nI f)), (2, .int (its g f 1))]) hx hb dX0_isAnotherDiscontent_42 hl (k := 3) rfl (nI_inc _) (by decide) rfl (fun ls hl => ?_)
      refine lv_goto (tgt := 9) hx hb dX0_isAnotherDiscontent_45 rfl ?_
      exact ih9 (i + 1) ls (by first | omega | (dsimp only; omega)) ⟨(by omega), lt_s hno (by simp [crossP, besid, c19]), lv_sub hl [1, 2, 3, 0] rfl⟩
    · replace c19 := nq_ne (a := i) (b := f) (by omega) (by omega) c19
      refine lv_aload_n hx hb dX0_isAnotherDiscontent_22 rfl (lv_at hl 0 rfl) ?_
      refine lv_iload_n hx hb dX0_isAnotherDiscontent_23 rfl (lv_at hl 3 rfl) ?_
      refine lv_iconst (v := 1) hx hb dX0_isAnotherDiscontent_24 rfl ?_
      refine ro_V (w := (GW cI h q (g 0) (g 2) (g 1) (tl g))) (rest := []) S hK hP (k_X0_getN i 1 (by omega) (by omega)) gv_X0_39 hd_X0_get ⟨Nat.le_of_ble_eq_true rfl, Nat.le_of_ble_eq_true rfl⟩ 0 rfl rfl rfl rfl hl.1 (lv_room (Nat.le_of_ble_eq_true rfl)) dX0_isAnotherDiscontent_25 ⟨Nat.zero_le _, Nat.zero_le _⟩ ?_
      refine lv_iload_n hx hb dX0_isAnotherDiscontent_28 rfl (lv_at hl 2 rfl) ?_
      refine lv_icmp_ne (tgt := 42) hx hb dX0_isAnotherDiscontent_29 rfl (fun c29 => ?_) (fun c29 => ?_)
      · have c29s : ¬ its g f 1 = its g i 1 := fun z => c29 z.symm
        refine lv_iinc (v := nI (i + 1)) (lv' := [(3, .int (nI (i + 1))), (0, .ref h), (1, .int (nI f)), (2, .int (its g f 1))]) hx hb dX0_isAnotherDiscontent_42 hl (k := 3) rfl (nI_inc _) (by decide) rfl (fun ls hl => ?_)
        refine lv_goto (tgt := 9) hx hb dX0_isAnotherDiscontent_45 rfl ?_
        exact ih9 (i + 1) ls (by first | omega | (dsimp only; omega)) ⟨(by omega), lt_s hno (by simp [crossP, besid, c19, c29s]), lv_sub hl [1, 2, 3, 0] rfl⟩
      · have c29s : its g f 1 = its g i 1 := c29.symm
        refine lv_aload_n hx hb dX0_isAnotherDiscontent_32 rfl (lv_at hl 0 rfl) ?_
        refine lv_iload_n hx hb dX0_isAnotherDiscontent_33 rfl (lv_at hl 3 rfl) ?_
        refine ro_V (w := (GW cI h q (g 0) (g 2) (g 1) (tl g))) (rest := []) S hK hP (k_X0_isContent n i hI (by omega)) gv_X0_43 hd_X0_isContent ⟨Nat.le_of_ble_eq_true rfl, Nat.le_of_ble_eq_true rfl⟩ 0 rfl rfl rfl rfl hl.1 (lv_room (Nat.le_of_ble_eq_true rfl)) dX0_isAnotherDiscontent_34 ⟨Nat.zero_le _, Nat.zero_le _⟩ ?_
        refine lv_if_ne (tgt := 42) hx hb dX0_isAnotherDiscontent_37 rfl (fun c37 => ?_) (fun c37 => ?_)
        · replace c37 := b2i_n0 c37
          refine lv_iinc (v := nI (i + 1)) (lv' := [(3, .int (nI (i + 1))), (0, .ref h), (1, .int (nI f)), (2, .int (its g f 1))]) hx hb dX0_isAnotherDiscontent_42 hl (k := 3) rfl (nI_inc _) (by decide) rfl (fun ls hl => ?_)
          refine lv_goto (tgt := 9) hx hb dX0_isAnotherDiscontent_45 rfl ?_
          exact ih9 (i + 1) ls (by first | omega | (dsimp only; omega)) ⟨(by omega), lt_s hno (by simp [crossP, besid, c19, c29s, c37]), lv_sub hl [1, 2, 3, 0] rfl⟩
        · replace c37 := (b2i_0 _).mp c37
          refine lv_iconst (v := 1) hx hb dX0_isAnotherDiscontent_40 rfl ?_
          exact ro_zret hx hb hr hlk (congrArg b2i (anyF_y (p := crossP g f) (j := i) (by simp [crossP, besid, c19, c29s, c37]) (by omega)).symm) dX0_isAnotherDiscontent_41

set_option maxHeartbeats 4000000 in
set_option maxRecDepth 100000 in
theorem k_X0_rubs (n : Nat) (f : Nat) (hI : Inv g n) (hf : f < n) : RO l D (tyA cI cJ cO) yX0_rubs cX0_rubs 4 ((some .int)) 2 47 [.ref h, .int (nI f)] (GW cI h q (g 0) (g 2) (g 1) (tl g)) (.int (rubs g n f)) := by
  refine RO.mk (by decide) (Nat.le_of_ble_eq_true rfl) ?_
  intro p e s m below meth c ls S hr hlk hP hK hl
  have S : CallFix p m c cX0_rubs 4 s _ WL RX0 := S
  obtain ⟨hx, hb, hml, hown, hts⟩ := id S
  have hl : lv_has ls 4 [(0, .ref h), (1, .int (nI f))] := hl
  have h8 : n ≤ 8 := hI.1
  refine lv_aload_n hx hb dX0_rubs_0 rfl (lv_at hl 0 rfl) ?_
  refine ro_V (w := (GW cI h q (g 0) (g 2) (g 1) (tl g))) (rest := []) S hK hP (k_X0_isTacky ) gv_X0_70 hd_X0_isTacky ⟨Nat.le_of_ble_eq_true rfl, Nat.le_of_ble_eq_true rfl⟩ 0 rfl rfl rfl rfl hl.1 (lv_room (Nat.le_of_ble_eq_true rfl)) dX0_rubs_1 ⟨Nat.zero_le _, Nat.zero_le _⟩ ?_
  refine lv_if_eq (tgt := 11) hx hb dX0_rubs_4 rfl (fun c4 => ?_) (fun c4 => ?_)
  · replace c4 := (b2i_0 _).mp c4
    refine lv_iconst (v := 4) hx hb dX0_rubs_11 rfl ?_
    refine lv_istore_n (lv' := [(2, .int 4), (0, .ref h), (1, .int (nI f))]) hx hb dX0_rubs_12 rfl hl (by decide) rfl (fun ls hl => ?_)
    refine lv_iload_n hx hb dX0_rubs_13 rfl (lv_at hl 0 rfl) ?_
    refine lv_aload_n hx hb dX0_rubs_14 rfl (lv_at hl 1 rfl) ?_
    refine lv_iload_n hx hb dX0_rubs_15 rfl (lv_at hl 2 rfl) ?_
    refine lv_iconst (v := 3) hx hb dX0_rubs_16 rfl ?_
    refine ro_V (w := (GW cI h q (g 0) (g 2) (g 1) (tl g))) (rest := [.int 4]) S hK hP (k_X0_getN f 3 (by omega) (by omega)) gv_X0_39 hd_X0_get ⟨Nat.le_of_ble_eq_true rfl, Nat.le_of_ble_eq_true rfl⟩ 0 rfl rfl rfl rfl hl.1 (lv_room (Nat.le_of_ble_eq_true rfl)) dX0_rubs_17 ⟨Nat.zero_le _, Nat.zero_le _⟩ ?_
    refine lv_bipush (v := 20) hx hb dX0_rubs_20 rfl ?_
    refine lv_idiv hx hb dX0_rubs_22 (by decide) ?_
    refine lv_iadd hx hb dX0_rubs_23 ?_
    refine lv_istore_n (lv' := [(3, .int (4 + ((its g f 3) / 20))), (2, .int 4), (0, .ref h), (1, .int (nI f))]) hx hb dX0_rubs_24 rfl hl (by decide) rfl (fun ls hl => ?_)
    refine lv_aload_n hx hb dX0_rubs_25 rfl (lv_at hl 2 rfl) ?_
    refine lv_iload_n hx hb dX0_rubs_26 rfl (lv_at hl 3 rfl) ?_
    refine lv_iconst (v := 0) hx hb dX0_rubs_27 rfl ?_
    refine ro_V (w := (GW cI h q (g 0) (g 2) (g 1) (tl g))) (rest := []) S hK hP (k_X0_getN f 0 (by omega) (by omega)) gv_X0_39 hd_X0_get ⟨Nat.le_of_ble_eq_true rfl, Nat.le_of_ble_eq_true rfl⟩ 0 rfl rfl rfl rfl hl.1 (lv_room (Nat.le_of_ble_eq_true rfl)) dX0_rubs_28 ⟨Nat.zero_le _, Nat.zero_le _⟩ ?_
    by_cases c31_1 : (its g f 0) = 1
    · refine lv_tableIn (tgt := 64) hx hb dX0_rubs_31 (by rw [c31_1]; decide) (by rw [c31_1]; decide) (by rw [c31_1]; rfl) rfl ?_
      refine lv_iload_n hx hb dX0_rubs_64 rfl (lv_at hl 0 rfl) ?_
      exact ro_iret hx hb hr hlk (by first | (simp [rubs, plainR, mayorR, c4, c31_1, i_lt, -Int32.not_le, -Int32.not_lt]; done) | (simp_all; done) | (simp_all [rubs, plainR, mayorR]; done)) dX0_rubs_65
    by_cases c31_2 : (its g f 0) = 2
    · refine lv_tableIn (tgt := 102) hx hb dX0_rubs_31 (by rw [c31_2]; decide) (by rw [c31_2]; decide) (by rw [c31_2]; rfl) rfl ?_
      refine lv_iload_n hx hb dX0_rubs_102 rfl (lv_at hl 1 rfl) ?_
      exact ro_iret hx hb hr hlk (by first | (simp [rubs, plainR, mayorR, c4, c31_1, c31_2, i_lt, -Int32.not_le, -Int32.not_lt]; done) | (simp_all; done) | (simp_all [rubs, plainR, mayorR]; done)) dX0_rubs_103
    by_cases c31_3 : (its g f 0) = 3
    · refine lv_tableIn (tgt := 66) hx hb dX0_rubs_31 (by rw [c31_3]; decide) (by rw [c31_3]; decide) (by rw [c31_3]; rfl) rfl ?_
      refine lv_iconst (v := 0) hx hb dX0_rubs_66 rfl ?_
      exact ro_iret hx hb hr hlk (by first | (simp [rubs, plainR, mayorR, c4, c31_1, c31_2, c31_3, i_lt, -Int32.not_le, -Int32.not_lt]; done) | (simp_all; done) | (simp_all [rubs, plainR, mayorR]; done)) dX0_rubs_67
    by_cases c31_4 : (its g f 0) = 4
    · refine lv_tableIn (tgt := 68) hx hb dX0_rubs_31 (by rw [c31_4]; decide) (by rw [c31_4]; decide) (by rw [c31_4]; rfl) rfl ?_
      refine lv_aload_n hx hb dX0_rubs_68 rfl (lv_at hl 2 rfl) ?_
      refine ro_V (w := (GW cI h q (g 0) (g 2) (g 1) (tl g))) (rest := []) S hK hP (k_X0_isTacky ) gv_X0_70 hd_X0_isTacky ⟨Nat.le_of_ble_eq_true rfl, Nat.le_of_ble_eq_true rfl⟩ 0 rfl rfl rfl rfl hl.1 (lv_room (Nat.le_of_ble_eq_true rfl)) dX0_rubs_69 ⟨Nat.zero_le _, Nat.zero_le _⟩ ?_
      refine lv_if_eq (tgt := 79) hx hb dX0_rubs_72 rfl (fun c72 => ?_) (fun c72 => ?_)
      · replace c72 := (b2i_0 _).mp c72
        refine lv_iconst (v := 2) hx hb dX0_rubs_79 rfl ?_
        refine lv_iload_n hx hb dX0_rubs_80 rfl (lv_at hl 0 rfl) ?_
        refine lv_imul hx hb dX0_rubs_81 ?_
        exact ro_iret hx hb hr hlk (by first | (simp [rubs, plainR, mayorR, c4, c31_1, c31_2, c31_3, c31_4, c72, i_lt, -Int32.not_le, -Int32.not_lt]; done) | (simp_all; done) | (simp_all [rubs, plainR, mayorR]; done)) dX0_rubs_82
      · replace c72 := b2i_n0 c72
        exact absurd (c4.symm.trans c72) (by decide)
    by_cases c31_5 : (its g f 0) = 5
    · refine lv_tableIn (tgt := 83) hx hb dX0_rubs_31 (by rw [c31_5]; decide) (by rw [c31_5]; decide) (by rw [c31_5]; rfl) rfl ?_
      refine lv_iload_n hx hb dX0_rubs_83 rfl (lv_at hl 1 rfl) ?_
      refine lv_aload_n hx hb dX0_rubs_84 rfl (lv_at hl 2 rfl) ?_
      refine lv_iconst (v := 1) hx hb dX0_rubs_85 rfl ?_
      refine lv_aload_n hx hb dX0_rubs_86 rfl (lv_at hl 2 rfl) ?_
      refine lv_iload_n hx hb dX0_rubs_87 rfl (lv_at hl 3 rfl) ?_
      refine lv_iconst (v := 1) hx hb dX0_rubs_88 rfl ?_
      refine ro_V (w := (GW cI h q (g 0) (g 2) (g 1) (tl g))) (rest := [.int 1, .ref h, .int 4]) S hK hP (k_X0_getN f 1 (by omega) (by omega)) gv_X0_39 hd_X0_get ⟨Nat.le_of_ble_eq_true rfl, Nat.le_of_ble_eq_true rfl⟩ 0 rfl rfl rfl rfl hl.1 (lv_room (Nat.le_of_ble_eq_true rfl)) dX0_rubs_89 ⟨Nat.zero_le _, Nat.zero_le _⟩ ?_
      refine ro_V (w := (GW cI h q (g 0) (g 2) (g 1) (tl g))) (rest := [.int 4]) S hK hP (k_X0_whoHas n 1 (its g f 1) hI (by omega)) gv_X0_74 hd_X0_whoHas ⟨Nat.le_of_ble_eq_true rfl, Nat.le_of_ble_eq_true rfl⟩ 0 rfl rfl rfl rfl hl.1 (lv_room (Nat.le_of_ble_eq_true rfl)) dX0_rubs_92 ⟨Nat.zero_le _, Nat.zero_le _⟩ ?_
      refine ro_S (w := []) (rest := [.int 4]) S hK va_P0 (k_J6_bitCount_0f7a4 (setF (fun o9 => decide (its g o9 1 = (its g f 1))) n)) gs_X0_57 hd_J6_bitCount_0f7a4 ⟨Nat.le_of_ble_eq_true rfl, Nat.le_of_ble_eq_true rfl⟩ rfl hl.1 (lv_room (Nat.le_of_ble_eq_true rfl)) dX0_rubs_95 ⟨Nat.zero_le _, Nat.zero_le _⟩ ?_
      refine w_i (z := nI (cntF (nearP g f) n + 1)) (by rw [pop_set _ hI.1, cnt_near hf]) ?_
      refine lv_iadd hx hb dX0_rubs_98 ?_
      refine lv_iconst (v := 1) hx hb dX0_rubs_99 rfl ?_
      refine lv_isub hx hb dX0_rubs_100 ?_
      refine w_i (z := 4 + nI (cntF (nearP g f) n)) (rub_h _ _) ?_
      exact ro_iret hx hb hr hlk (by first | (simp [rubs, plainR, mayorR, c4, c31_1, c31_2, c31_3, c31_4, c31_5, i_lt, -Int32.not_le, -Int32.not_lt]; done) | (simp_all; done) | (simp_all [rubs, plainR, mayorR]; done)) dX0_rubs_101
    refine lv_tableOut (tgt := 102) hx hb dX0_rubs_31 (by have q0 := lv_neT c31_1 (a := 1) rfl; have q1 := lv_neT c31_2 (a := 2) rfl; have q2 := lv_neT c31_3 (a := 3) rfl; have q3 := lv_neT c31_4 (a := 4) rfl; have q4 := lv_neT c31_5 (a := 5) rfl; omega) rfl ?_
    refine lv_iload_n hx hb dX0_rubs_102 rfl (lv_at hl 1 rfl) ?_
    exact ro_iret hx hb hr hlk (by first | (simp [rubs, plainR, mayorR, c4, c31_1, c31_2, c31_3, c31_4, c31_5, i_lt, -Int32.not_le, -Int32.not_lt]; done) | (simp_all; done) | (simp_all [rubs, plainR, mayorR]; done)) dX0_rubs_103
  · replace c4 := b2i_n0 c4
    refine lv_iconst (v := 2) hx hb dX0_rubs_7 rfl ?_
    refine lv_goto (tgt := 12) hx hb dX0_rubs_8 rfl ?_
    refine lv_istore_n (lv' := [(2, .int 2), (0, .ref h), (1, .int (nI f))]) hx hb dX0_rubs_12 rfl hl (by decide) rfl (fun ls hl => ?_)
    refine lv_iload_n hx hb dX0_rubs_13 rfl (lv_at hl 0 rfl) ?_
    refine lv_aload_n hx hb dX0_rubs_14 rfl (lv_at hl 1 rfl) ?_
    refine lv_iload_n hx hb dX0_rubs_15 rfl (lv_at hl 2 rfl) ?_
    refine lv_iconst (v := 3) hx hb dX0_rubs_16 rfl ?_
    refine ro_V (w := (GW cI h q (g 0) (g 2) (g 1) (tl g))) (rest := [.int 2]) S hK hP (k_X0_getN f 3 (by omega) (by omega)) gv_X0_39 hd_X0_get ⟨Nat.le_of_ble_eq_true rfl, Nat.le_of_ble_eq_true rfl⟩ 0 rfl rfl rfl rfl hl.1 (lv_room (Nat.le_of_ble_eq_true rfl)) dX0_rubs_17 ⟨Nat.zero_le _, Nat.zero_le _⟩ ?_
    refine lv_bipush (v := 20) hx hb dX0_rubs_20 rfl ?_
    refine lv_idiv hx hb dX0_rubs_22 (by decide) ?_
    refine lv_iadd hx hb dX0_rubs_23 ?_
    refine lv_istore_n (lv' := [(3, .int (2 + ((its g f 3) / 20))), (2, .int 2), (0, .ref h), (1, .int (nI f))]) hx hb dX0_rubs_24 rfl hl (by decide) rfl (fun ls hl => ?_)
    refine lv_aload_n hx hb dX0_rubs_25 rfl (lv_at hl 2 rfl) ?_
    refine lv_iload_n hx hb dX0_rubs_26 rfl (lv_at hl 3 rfl) ?_
    refine lv_iconst (v := 0) hx hb dX0_rubs_27 rfl ?_
    refine ro_V (w := (GW cI h q (g 0) (g 2) (g 1) (tl g))) (rest := []) S hK hP (k_X0_getN f 0 (by omega) (by omega)) gv_X0_39 hd_X0_get ⟨Nat.le_of_ble_eq_true rfl, Nat.le_of_ble_eq_true rfl⟩ 0 rfl rfl rfl rfl hl.1 (lv_room (Nat.le_of_ble_eq_true rfl)) dX0_rubs_28 ⟨Nat.zero_le _, Nat.zero_le _⟩ ?_
    by_cases c31_1 : (its g f 0) = 1
    · refine lv_tableIn (tgt := 64) hx hb dX0_rubs_31 (by rw [c31_1]; decide) (by rw [c31_1]; decide) (by rw [c31_1]; rfl) rfl ?_
      refine lv_iload_n hx hb dX0_rubs_64 rfl (lv_at hl 0 rfl) ?_
      exact ro_iret hx hb hr hlk (by first | (simp [rubs, plainR, mayorR, c4, c31_1, i_lt, -Int32.not_le, -Int32.not_lt]; done) | (simp_all; done) | (simp_all [rubs, plainR, mayorR]; done)) dX0_rubs_65
    by_cases c31_2 : (its g f 0) = 2
    · refine lv_tableIn (tgt := 102) hx hb dX0_rubs_31 (by rw [c31_2]; decide) (by rw [c31_2]; decide) (by rw [c31_2]; rfl) rfl ?_
      refine lv_iload_n hx hb dX0_rubs_102 rfl (lv_at hl 1 rfl) ?_
      exact ro_iret hx hb hr hlk (by first | (simp [rubs, plainR, mayorR, c4, c31_1, c31_2, i_lt, -Int32.not_le, -Int32.not_lt]; done) | (simp_all; done) | (simp_all [rubs, plainR, mayorR]; done)) dX0_rubs_103
    by_cases c31_3 : (its g f 0) = 3
    · refine lv_tableIn (tgt := 66) hx hb dX0_rubs_31 (by rw [c31_3]; decide) (by rw [c31_3]; decide) (by rw [c31_3]; rfl) rfl ?_
      refine lv_iconst (v := 0) hx hb dX0_rubs_66 rfl ?_
      exact ro_iret hx hb hr hlk (by first | (simp [rubs, plainR, mayorR, c4, c31_1, c31_2, c31_3, i_lt, -Int32.not_le, -Int32.not_lt]; done) | (simp_all; done) | (simp_all [rubs, plainR, mayorR]; done)) dX0_rubs_67
    by_cases c31_4 : (its g f 0) = 4
    · refine lv_tableIn (tgt := 68) hx hb dX0_rubs_31 (by rw [c31_4]; decide) (by rw [c31_4]; decide) (by rw [c31_4]; rfl) rfl ?_
      refine lv_aload_n hx hb dX0_rubs_68 rfl (lv_at hl 2 rfl) ?_
      refine ro_V (w := (GW cI h q (g 0) (g 2) (g 1) (tl g))) (rest := []) S hK hP (k_X0_isTacky ) gv_X0_70 hd_X0_isTacky ⟨Nat.le_of_ble_eq_true rfl, Nat.le_of_ble_eq_true rfl⟩ 0 rfl rfl rfl rfl hl.1 (lv_room (Nat.le_of_ble_eq_true rfl)) dX0_rubs_69 ⟨Nat.zero_le _, Nat.zero_le _⟩ ?_
      refine lv_if_eq (tgt := 79) hx hb dX0_rubs_72 rfl (fun c72 => ?_) (fun c72 => ?_)
      · replace c72 := (b2i_0 _).mp c72
        exact absurd (c4.symm.trans c72) (by decide)
      · replace c72 := b2i_n0 c72
        refine lv_iload_n hx hb dX0_rubs_75 rfl (lv_at hl 0 rfl) ?_
        refine lv_goto (tgt := 82) hx hb dX0_rubs_76 rfl ?_
        exact ro_iret hx hb hr hlk (by first | (simp [rubs, plainR, mayorR, c4, c31_1, c31_2, c31_3, c31_4, c72, i_lt, -Int32.not_le, -Int32.not_lt]; done) | (simp_all; done) | (simp_all [rubs, plainR, mayorR]; done)) dX0_rubs_82
    by_cases c31_5 : (its g f 0) = 5
    · refine lv_tableIn (tgt := 83) hx hb dX0_rubs_31 (by rw [c31_5]; decide) (by rw [c31_5]; decide) (by rw [c31_5]; rfl) rfl ?_
      refine lv_iload_n hx hb dX0_rubs_83 rfl (lv_at hl 1 rfl) ?_
      refine lv_aload_n hx hb dX0_rubs_84 rfl (lv_at hl 2 rfl) ?_
      refine lv_iconst (v := 1) hx hb dX0_rubs_85 rfl ?_
      refine lv_aload_n hx hb dX0_rubs_86 rfl (lv_at hl 2 rfl) ?_
      refine lv_iload_n hx hb dX0_rubs_87 rfl (lv_at hl 3 rfl) ?_
      refine lv_iconst (v := 1) hx hb dX0_rubs_88 rfl ?_
      refine ro_V (w := (GW cI h q (g 0) (g 2) (g 1) (tl g))) (rest := [.int 1, .ref h, .int 2]) S hK hP (k_X0_getN f 1 (by omega) (by omega)) gv_X0_39 hd_X0_get ⟨Nat.le_of_ble_eq_true rfl, Nat.le_of_ble_eq_true rfl⟩ 0 rfl rfl rfl rfl hl.1 (lv_room (Nat.le_of_ble_eq_true rfl)) dX0_rubs_89 ⟨Nat.zero_le _, Nat.zero_le _⟩ ?_
      refine ro_V (w := (GW cI h q (g 0) (g 2) (g 1) (tl g))) (rest := [.int 2]) S hK hP (k_X0_whoHas n 1 (its g f 1) hI (by omega)) gv_X0_74 hd_X0_whoHas ⟨Nat.le_of_ble_eq_true rfl, Nat.le_of_ble_eq_true rfl⟩ 0 rfl rfl rfl rfl hl.1 (lv_room (Nat.le_of_ble_eq_true rfl)) dX0_rubs_92 ⟨Nat.zero_le _, Nat.zero_le _⟩ ?_
      refine ro_S (w := []) (rest := [.int 2]) S hK va_P0 (k_J6_bitCount_0f7a4 (setF (fun o9 => decide (its g o9 1 = (its g f 1))) n)) gs_X0_57 hd_J6_bitCount_0f7a4 ⟨Nat.le_of_ble_eq_true rfl, Nat.le_of_ble_eq_true rfl⟩ rfl hl.1 (lv_room (Nat.le_of_ble_eq_true rfl)) dX0_rubs_95 ⟨Nat.zero_le _, Nat.zero_le _⟩ ?_
      refine w_i (z := nI (cntF (nearP g f) n + 1)) (by rw [pop_set _ hI.1, cnt_near hf]) ?_
      refine lv_iadd hx hb dX0_rubs_98 ?_
      refine lv_iconst (v := 1) hx hb dX0_rubs_99 rfl ?_
      refine lv_isub hx hb dX0_rubs_100 ?_
      refine w_i (z := 2 + nI (cntF (nearP g f) n)) (rub_h _ _) ?_
      exact ro_iret hx hb hr hlk (by first | (simp [rubs, plainR, mayorR, c4, c31_1, c31_2, c31_3, c31_4, c31_5, i_lt, -Int32.not_le, -Int32.not_lt]; done) | (simp_all; done) | (simp_all [rubs, plainR, mayorR]; done)) dX0_rubs_101
    refine lv_tableOut (tgt := 102) hx hb dX0_rubs_31 (by have q0 := lv_neT c31_1 (a := 1) rfl; have q1 := lv_neT c31_2 (a := 2) rfl; have q2 := lv_neT c31_3 (a := 3) rfl; have q3 := lv_neT c31_4 (a := 4) rfl; have q4 := lv_neT c31_5 (a := 5) rfl; omega) rfl ?_
    refine lv_iload_n hx hb dX0_rubs_102 rfl (lv_at hl 1 rfl) ?_
    exact ro_iret hx hb hr hlk (by first | (simp [rubs, plainR, mayorR, c4, c31_1, c31_2, c31_3, c31_4, c31_5, i_lt, -Int32.not_le, -Int32.not_lt]; done) | (simp_all; done) | (simp_all [rubs, plainR, mayorR]; done)) dX0_rubs_103

set_option maxHeartbeats 4000000 in
set_option maxRecDepth 100000 in
theorem k_X0_isWaiting (n : Nat) (f : Nat) (hI : Inv g n) (hf : f < n) (hh : 0 ≤ g 0) : RO l D (tyA cI cJ cO) yX0_isWaiting cX0_isWaiting 2 ((some .boolean)) 3 70 [.ref h, .int (nI f)] (GW cI h q (g 0) (g 2) (g 1) (tl g)) (.int (b2i (waits g n f))) := by
  refine RO.mk (by decide) (Nat.le_of_ble_eq_true rfl) ?_
  intro p e s m below meth c ls S hr hlk hP hK hl
  have S : CallFix p m c cX0_isWaiting 2 s _ WL RX0 := S
  obtain ⟨hx, hb, hml, hown, hts⟩ := id S
  have hl : lv_has ls 2 [(0, .ref h), (1, .int (nI f))] := hl
  have h8 : n ≤ 8 := hI.1
  refine lv_aload_n hx hb dX0_isWaiting_0 rfl (lv_at hl 0 rfl) ?_
  refine lv_iload_n hx hb dX0_isWaiting_1 rfl (lv_at hl 1 rfl) ?_
  refine lv_iconst (v := 0) hx hb dX0_isWaiting_2 rfl ?_
  refine ro_V (w := (GW cI h q (g 0) (g 2) (g 1) (tl g))) (rest := []) S hK hP (k_X0_getN f 0 (by omega) (by omega)) gv_X0_39 hd_X0_get ⟨Nat.le_of_ble_eq_true rfl, Nat.le_of_ble_eq_true rfl⟩ 0 rfl rfl rfl rfl hl.1 (lv_room (Nat.le_of_ble_eq_true rfl)) dX0_isWaiting_3 ⟨Nat.zero_le _, Nat.zero_le _⟩ ?_
  by_cases c6_1 : (its g f 0) = 1
  · refine lv_tableIn (tgt := 40) hx hb dX0_isWaiting_6 (by rw [c6_1]; decide) (by rw [c6_1]; decide) (by rw [c6_1]; rfl) rfl ?_
    refine lv_aload_n hx hb dX0_isWaiting_40 rfl (lv_at hl 0 rfl) ?_
    refine lv_iload_n hx hb dX0_isWaiting_41 rfl (lv_at hl 1 rfl) ?_
    refine ro_V (w := (GW cI h q (g 0) (g 2) (g 1) (tl g))) (rest := []) S hK hP (k_X0_isSeenByAnother n f hI (by omega)) gv_X0_77 hd_X0_isSeenByAnother ⟨Nat.le_of_ble_eq_true rfl, Nat.le_of_ble_eq_true rfl⟩ 0 rfl rfl rfl rfl hl.1 (lv_room (Nat.le_of_ble_eq_true rfl)) dX0_isWaiting_42 ⟨Nat.zero_le _, Nat.zero_le _⟩ ?_
    exact ro_zret hx hb hr hlk (by simp [waits, b2i, c6_1]) dX0_isWaiting_45
  by_cases c6_2 : (its g f 0) = 2
  · refine lv_tableIn (tgt := 46) hx hb dX0_isWaiting_6 (by rw [c6_2]; decide) (by rw [c6_2]; decide) (by rw [c6_2]; rfl) rfl ?_
    refine lv_aload_n hx hb dX0_isWaiting_46 rfl (lv_at hl 0 rfl) ?_
    refine ro_V (w := (GW cI h q (g 0) (g 2) (g 1) (tl g))) (rest := []) S hK hP (k_X0_hourOfNight ) gv_X0_35 hd_X0_hourOfNight ⟨Nat.le_of_ble_eq_true rfl, Nat.le_of_ble_eq_true rfl⟩ 0 rfl rfl rfl rfl hl.1 (lv_room (Nat.le_of_ble_eq_true rfl)) dX0_isWaiting_47 ⟨Nat.zero_le _, Nat.zero_le _⟩ ?_
    refine lv_if_ne (tgt := 57) hx hb dX0_isWaiting_50 rfl (fun c50 => ?_) (fun c50 => ?_)
    · refine lv_iconst (v := 0) hx hb dX0_isWaiting_57 rfl ?_
      exact ro_zret hx hb hr hlk (by simp [waits, b2i, c6_1, c6_2, c50]) dX0_isWaiting_58
    · refine lv_iconst (v := 1) hx hb dX0_isWaiting_53 rfl ?_
      refine lv_goto (tgt := 58) hx hb dX0_isWaiting_54 rfl ?_
      exact ro_zret hx hb hr hlk (by simp [waits, b2i, c6_1, c6_2, c50]) dX0_isWaiting_58
  by_cases c6_3 : (its g f 0) = 3
  · refine lv_tableIn (tgt := 59) hx hb dX0_isWaiting_6 (by rw [c6_3]; decide) (by rw [c6_3]; decide) (by rw [c6_3]; rfl) rfl ?_
    refine lv_iconst (v := 1) hx hb dX0_isWaiting_59 rfl ?_
    exact ro_zret hx hb hr hlk (by simp [waits, b2i, c6_1, c6_2, c6_3]) dX0_isWaiting_60
  by_cases c6_4 : (its g f 0) = 4
  · refine lv_tableIn (tgt := 61) hx hb dX0_isWaiting_6 (by rw [c6_4]; decide) (by rw [c6_4]; decide) (by rw [c6_4]; rfl) rfl ?_
    refine lv_aload_n hx hb dX0_isWaiting_61 rfl (lv_at hl 0 rfl) ?_
    refine ro_V (w := (GW cI h q (g 0) (g 2) (g 1) (tl g))) (rest := []) S hK hP (k_X0_hourOfNight ) gv_X0_35 hd_X0_hourOfNight ⟨Nat.le_of_ble_eq_true rfl, Nat.le_of_ble_eq_true rfl⟩ 0 rfl rfl rfl rfl hl.1 (lv_room (Nat.le_of_ble_eq_true rfl)) dX0_isWaiting_62 ⟨Nat.zero_le _, Nat.zero_le _⟩ ?_
    refine lv_iconst (v := 2) hx hb dX0_isWaiting_65 rfl ?_
    refine lv_irem hx hb dX0_isWaiting_66 (by decide) ?_
    refine lv_if_eq (tgt := 82) hx hb dX0_isWaiting_67 rfl (fun c67 => ?_) (fun c67 => ?_)
    · have c67m : ¬ m2 (m8 (g 0)) = 1 := fun z => absurd (c67.symm.trans z) (by decide)
      refine lv_iconst (v := 0) hx hb dX0_isWaiting_82 rfl ?_
      exact ro_zret hx hb hr hlk (by simp [waits, b2i, c6_1, c6_2, c6_3, c6_4, c67m]) dX0_isWaiting_83
    · have c67m : m2 (m8 (g 0)) = 1 := (m2_01 hh).resolve_left c67
      refine lv_aload_n hx hb dX0_isWaiting_70 rfl (lv_at hl 0 rfl) ?_
      refine lv_iload_n hx hb dX0_isWaiting_71 rfl (lv_at hl 1 rfl) ?_
      refine ro_V (w := (GW cI h q (g 0) (g 2) (g 1) (tl g))) (rest := []) S hK hP (k_X0_isSeenByAnother n f hI (by omega)) gv_X0_77 hd_X0_isSeenByAnother ⟨Nat.le_of_ble_eq_true rfl, Nat.le_of_ble_eq_true rfl⟩ 0 rfl rfl rfl rfl hl.1 (lv_room (Nat.le_of_ble_eq_true rfl)) dX0_isWaiting_72 ⟨Nat.zero_le _, Nat.zero_le _⟩ ?_
      refine lv_if_eq (tgt := 82) hx hb dX0_isWaiting_75 rfl (fun c75 => ?_) (fun c75 => ?_)
      · replace c75 := (b2i_0 _).mp c75
        refine lv_iconst (v := 0) hx hb dX0_isWaiting_82 rfl ?_
        exact ro_zret hx hb hr hlk (by simp [waits, b2i, c6_1, c6_2, c6_3, c6_4, c75, c67m]) dX0_isWaiting_83
      · replace c75 := b2i_n0 c75
        refine lv_iconst (v := 1) hx hb dX0_isWaiting_78 rfl ?_
        refine lv_goto (tgt := 83) hx hb dX0_isWaiting_79 rfl ?_
        exact ro_zret hx hb hr hlk (by simp [waits, b2i, c6_1, c6_2, c6_3, c6_4, c75, c67m]) dX0_isWaiting_83
  by_cases c6_5 : (its g f 0) = 5
  · refine lv_tableIn (tgt := 84) hx hb dX0_isWaiting_6 (by rw [c6_5]; decide) (by rw [c6_5]; decide) (by rw [c6_5]; rfl) rfl ?_
    refine lv_aload_n hx hb dX0_isWaiting_84 rfl (lv_at hl 0 rfl) ?_
    refine ro_V (w := (GW cI h q (g 0) (g 2) (g 1) (tl g))) (rest := []) S hK hP (k_X0_hourOfNight ) gv_X0_35 hd_X0_hourOfNight ⟨Nat.le_of_ble_eq_true rfl, Nat.le_of_ble_eq_true rfl⟩ 0 rfl rfl rfl rfl hl.1 (lv_room (Nat.le_of_ble_eq_true rfl)) dX0_isWaiting_85 ⟨Nat.zero_le _, Nat.zero_le _⟩ ?_
    refine lv_if_eq (tgt := 99) hx hb dX0_isWaiting_88 rfl (fun c88 => ?_) (fun c88 => ?_)
    · refine lv_iconst (v := 1) hx hb dX0_isWaiting_99 rfl ?_
      refine lv_goto (tgt := 104) hx hb dX0_isWaiting_100 rfl ?_
      exact ro_zret hx hb hr hlk (by simp [waits, b2i, c6_1, c6_2, c6_3, c6_4, c6_5, c88]) dX0_isWaiting_104
    · refine lv_aload_n hx hb dX0_isWaiting_91 rfl (lv_at hl 0 rfl) ?_
      refine lv_iload_n hx hb dX0_isWaiting_92 rfl (lv_at hl 1 rfl) ?_
      refine ro_V (w := (GW cI h q (g 0) (g 2) (g 1) (tl g))) (rest := []) S hK hP (k_X0_isAnotherDiscontent n f hI (by omega)) gv_X0_80 hd_X0_isAnotherDiscontent ⟨Nat.le_of_ble_eq_true rfl, Nat.le_of_ble_eq_true rfl⟩ 0 rfl rfl rfl rfl hl.1 (lv_room (Nat.le_of_ble_eq_true rfl)) dX0_isWaiting_93 ⟨Nat.zero_le _, Nat.zero_le _⟩ ?_
      refine lv_if_eq (tgt := 103) hx hb dX0_isWaiting_96 rfl (fun c96 => ?_) (fun c96 => ?_)
      · replace c96 := (b2i_0 _).mp c96
        refine lv_iconst (v := 0) hx hb dX0_isWaiting_103 rfl ?_
        exact ro_zret hx hb hr hlk (by simp [waits, b2i, c6_1, c6_2, c6_3, c6_4, c6_5, c88, c96]) dX0_isWaiting_104
      · replace c96 := b2i_n0 c96
        refine lv_iconst (v := 1) hx hb dX0_isWaiting_99 rfl ?_
        refine lv_goto (tgt := 104) hx hb dX0_isWaiting_100 rfl ?_
        exact ro_zret hx hb hr hlk (by simp [waits, b2i, c6_1, c6_2, c6_3, c6_4, c6_5, c88, c96]) dX0_isWaiting_104
  refine lv_tableOut (tgt := 105) hx hb dX0_isWaiting_6 (by have q0 := lv_neT c6_1 (a := 1) rfl; have q1 := lv_neT c6_2 (a := 2) rfl; have q2 := lv_neT c6_3 (a := 3) rfl; have q3 := lv_neT c6_4 (a := 4) rfl; have q4 := lv_neT c6_5 (a := 5) rfl; omega) rfl ?_
  refine lv_iconst (v := 0) hx hb dX0_isWaiting_105 rfl ?_
  exact ro_zret hx hb hr hlk (by simp [waits, b2i, c6_1, c6_2, c6_3, c6_4, c6_5]) dX0_isWaiting_106

set_option maxHeartbeats 4000000 in
set_option maxRecDepth 100000 in
theorem k_X0_whoIsWaiting (n : Nat) (hI : Inv g n) (hh : 0 ≤ g 0) : RO l D (tyA cI cJ cO) yX0_whoIsWaiting cX0_whoIsWaiting 3 ((some .int)) 4 91 [.ref h] (GW cI h q (g 0) (g 2) (g 1) (tl g)) (.int (setF (waits g n) n)) := by
  refine RO.mk (by decide) (Nat.le_of_ble_eq_true rfl) ?_
  intro p e s m below meth c ls S hr hlk hP hK hl
  have S : CallFix p m c cX0_whoIsWaiting 3 s _ WL RX0 := S
  obtain ⟨hx, hb, hml, hown, hts⟩ := id S
  have hl : lv_has ls 3 [(0, .ref h)] := hl
  have h8 : n ≤ 8 := hI.1
  refine lv_iconst (v := 0) hx hb dX0_whoIsWaiting_0 rfl ?_
  refine lv_istore_n (lv' := [(1, .int 0), (0, .ref h)]) hx hb dX0_whoIsWaiting_1 rfl hl (by decide) rfl (fun ls hl => ?_)
  refine lv_iconst (v := 0) hx hb dX0_whoIsWaiting_2 rfl ?_
  refine lv_istore_n (lv' := [(2, .int 0), (1, .int 0), (0, .ref h)]) hx hb dX0_whoIsWaiting_3 rfl hl (by decide) rfl (fun ls hl => ?_)
  refine w_loop (pc := 4) (st := fun (i : Nat) => []) (μ := fun (i : Nat) => n - i) (I := fun (i : Nat) ls => (i ≤ n) ∧ lv_has ls 3 [(0, .ref h), (1, .int (setF (waits g n) i)), (2, .int (nI i))]) ?_ (0) ⟨Nat.zero_le _, lv_sub hl [2, 1, 0] rfl⟩
  rintro i ls ⟨hi, hl⟩ ih4
  try dsimp only at ih4 ⊢
  refine lv_iload_n hx hb dX0_whoIsWaiting_4 rfl (lv_at hl 2 rfl) ?_
  refine lv_aload_n hx hb dX0_whoIsWaiting_5 rfl (lv_at hl 0 rfl) ?_
  refine va_get (ci := 0) (v := .int (g 1)) hx hb hts wx_X0 hown hK hP 0 rfl rfl 2 (by decide) (hts _ wf_X0_18) (fun _ h9 => h9) rfl dX0_whoIsWaiting_6 ?_
  refine w_i (z := nI n) (hI.2.1) ?_
  refine lv_icmp_ge (tgt := 32) hx hb dX0_whoIsWaiting_9 rfl (fun c9 => ?_) (fun c9 => ?_)
  · replace c9 := nq_le (a := n) (b := i) (by omega) (by omega) c9
    refine lv_iload_n hx hb dX0_whoIsWaiting_32 rfl (lv_at hl 1 rfl) ?_
    exact ro_iret hx hb hr hlk (by rw [show i = n by omega]) dX0_whoIsWaiting_33
  · replace c9 := nq_nle (a := n) (b := i) (by omega) (by omega) c9
    refine lv_aload_n hx hb dX0_whoIsWaiting_12 rfl (lv_at hl 0 rfl) ?_
    refine lv_iload_n hx hb dX0_whoIsWaiting_13 rfl (lv_at hl 2 rfl) ?_
    refine ro_V (w := (GW cI h q (g 0) (g 2) (g 1) (tl g))) (rest := []) S hK hP (k_X0_isWaiting n i hI (by omega) hh) gv_X0_47 hd_X0_isWaiting ⟨Nat.le_of_ble_eq_true rfl, Nat.le_of_ble_eq_true rfl⟩ 0 rfl rfl rfl rfl hl.1 (lv_room (Nat.le_of_ble_eq_true rfl)) dX0_whoIsWaiting_14 ⟨Nat.zero_le _, Nat.zero_le _⟩ ?_
    refine lv_if_eq (tgt := 26) hx hb dX0_whoIsWaiting_17 rfl (fun c17 => ?_) (fun c17 => ?_)
    · replace c17 := (b2i_0 _).mp c17
      rw [show setF (waits g n) i = setF (waits g n) (i + 1) from setF_f c17] at hl
      refine lv_iinc (v := nI (i + 1)) (lv' := [(2, .int (nI (i + 1))), (0, .ref h), (1, .int (setF (waits g n) (i + 1)))]) hx hb dX0_whoIsWaiting_26 hl (k := 2) rfl (nI_inc _) (by decide) rfl (fun ls hl => ?_)
      refine lv_goto (tgt := 4) hx hb dX0_whoIsWaiting_29 rfl ?_
      exact ih4 (i + 1) ls (by first | omega | (dsimp only; omega)) ⟨(by omega), lv_sub hl [1, 2, 0] rfl⟩
    · replace c17 := b2i_n0 c17
      refine lv_iload_n hx hb dX0_whoIsWaiting_20 rfl (lv_at hl 1 rfl) ?_
      refine lv_iconst (v := 1) hx hb dX0_whoIsWaiting_21 rfl ?_
      refine lv_iload_n hx hb dX0_whoIsWaiting_22 rfl (lv_at hl 2 rfl) ?_
      refine lv_ishl hx hb dX0_whoIsWaiting_23 ?_
      refine lv_ior hx hb dX0_whoIsWaiting_24 ?_
      refine w_i (z := setF (waits g n) (i + 1)) (setF_t c17) ?_
      refine lv_istore_n (lv' := [(1, .int (setF (waits g n) (i + 1))), (0, .ref h), (2, .int (nI i))]) hx hb dX0_whoIsWaiting_25 rfl hl (by decide) rfl (fun ls hl => ?_)
      refine lv_iinc (v := nI (i + 1)) (lv' := [(2, .int (nI (i + 1))), (1, .int (setF (waits g n) (i + 1))), (0, .ref h)]) hx hb dX0_whoIsWaiting_26 hl (k := 2) rfl (nI_inc _) (by decide) rfl (fun ls hl => ?_)
      refine lv_goto (tgt := 4) hx hb dX0_whoIsWaiting_29 rfl ?_
      exact ih4 (i + 1) ls (by first | omega | (dsimp only; omega)) ⟨(by omega), lv_sub hl [2, 1, 0] rfl⟩

set_option maxHeartbeats 4000000 in
set_option maxRecDepth 100000 in
theorem k_X0_whoIsSeen (n : Nat) (hI : Inv g n) : RO l D (tyA cI cJ cO) yX0_whoIsSeen cX0_whoIsSeen 3 ((some .int)) 2 48 [.ref h] (GW cI h q (g 0) (g 2) (g 1) (tl g)) (.int (setF (seenP g n) n)) := by
  refine RO.mk (by decide) (Nat.le_of_ble_eq_true rfl) ?_
  intro p e s m below meth c ls S hr hlk hP hK hl
  have S : CallFix p m c cX0_whoIsSeen 3 s _ WL RX0 := S
  obtain ⟨hx, hb, hml, hown, hts⟩ := id S
  have hl : lv_has ls 3 [(0, .ref h)] := hl
  have h8 : n ≤ 8 := hI.1
  refine lv_iconst (v := 0) hx hb dX0_whoIsSeen_0 rfl ?_
  refine lv_istore_n (lv' := [(1, .int 0), (0, .ref h)]) hx hb dX0_whoIsSeen_1 rfl hl (by decide) rfl (fun ls hl => ?_)
  refine lv_iconst (v := 0) hx hb dX0_whoIsSeen_2 rfl ?_
  refine lv_istore_n (lv' := [(2, .int 0), (1, .int 0), (0, .ref h)]) hx hb dX0_whoIsSeen_3 rfl hl (by decide) rfl (fun ls hl => ?_)
  refine w_loop (pc := 4) (st := fun (i : Nat) => []) (μ := fun (i : Nat) => n - i) (I := fun (i : Nat) ls => (i ≤ n) ∧ lv_has ls 3 [(0, .ref h), (1, .int (setF (seenP g n) i)), (2, .int (nI i))]) ?_ (0) ⟨Nat.zero_le _, lv_sub hl [2, 1, 0] rfl⟩
  rintro i ls ⟨hi, hl⟩ ih4
  try dsimp only at ih4 ⊢
  refine lv_iload_n hx hb dX0_whoIsSeen_4 rfl (lv_at hl 2 rfl) ?_
  refine lv_aload_n hx hb dX0_whoIsSeen_5 rfl (lv_at hl 0 rfl) ?_
  refine va_get (ci := 0) (v := .int (g 1)) hx hb hts wx_X0 hown hK hP 0 rfl rfl 2 (by decide) (hts _ wf_X0_18) (fun _ h9 => h9) rfl dX0_whoIsSeen_6 ?_
  refine w_i (z := nI n) (hI.2.1) ?_
  refine lv_icmp_ge (tgt := 32) hx hb dX0_whoIsSeen_9 rfl (fun c9 => ?_) (fun c9 => ?_)
  · replace c9 := nq_le (a := n) (b := i) (by omega) (by omega) c9
    refine lv_iload_n hx hb dX0_whoIsSeen_32 rfl (lv_at hl 1 rfl) ?_
    exact ro_iret hx hb hr hlk (by rw [show i = n by omega]) dX0_whoIsSeen_33
  · replace c9 := nq_nle (a := n) (b := i) (by omega) (by omega) c9
    refine lv_aload_n hx hb dX0_whoIsSeen_12 rfl (lv_at hl 0 rfl) ?_
    refine lv_iload_n hx hb dX0_whoIsSeen_13 rfl (lv_at hl 2 rfl) ?_
    refine ro_V (w := (GW cI h q (g 0) (g 2) (g 1) (tl g))) (rest := []) S hK hP (k_X0_lampsOn n i hI (by omega)) gv_X0_50 hd_X0_lampsOn ⟨Nat.le_of_ble_eq_true rfl, Nat.le_of_ble_eq_true rfl⟩ 0 rfl rfl rfl rfl hl.1 (lv_room (Nat.le_of_ble_eq_true rfl)) dX0_whoIsSeen_14 ⟨Nat.zero_le _, Nat.zero_le _⟩ ?_
    refine lv_if_eq (tgt := 26) hx hb dX0_whoIsSeen_17 rfl (fun c17 => ?_) (fun c17 => ?_)
    · rw [show setF (seenP g n) i = setF (seenP g n) (i + 1) from setF_f (decide_eq_false (fun h9 => h9 c17))] at hl
      refine lv_iinc (v := nI (i + 1)) (lv' := [(2, .int (nI (i + 1))), (0, .ref h), (1, .int (setF (seenP g n) (i + 1)))]) hx hb dX0_whoIsSeen_26 hl (k := 2) rfl (nI_inc _) (by decide) rfl (fun ls hl => ?_)
      refine lv_goto (tgt := 4) hx hb dX0_whoIsSeen_29 rfl ?_
      exact ih4 (i + 1) ls (by first | omega | (dsimp only; omega)) ⟨(by omega), lv_sub hl [1, 2, 0] rfl⟩
    · refine lv_iload_n hx hb dX0_whoIsSeen_20 rfl (lv_at hl 1 rfl) ?_
      refine lv_iconst (v := 1) hx hb dX0_whoIsSeen_21 rfl ?_
      refine lv_iload_n hx hb dX0_whoIsSeen_22 rfl (lv_at hl 2 rfl) ?_
      refine lv_ishl hx hb dX0_whoIsSeen_23 ?_
      refine lv_ior hx hb dX0_whoIsSeen_24 ?_
      refine w_i (z := setF (seenP g n) (i + 1)) (setF_t (decide_eq_true c17)) ?_
      refine lv_istore_n (lv' := [(1, .int (setF (seenP g n) (i + 1))), (0, .ref h), (2, .int (nI i))]) hx hb dX0_whoIsSeen_25 rfl hl (by decide) rfl (fun ls hl => ?_)
      refine lv_iinc (v := nI (i + 1)) (lv' := [(2, .int (nI (i + 1))), (1, .int (setF (seenP g n) (i + 1))), (0, .ref h)]) hx hb dX0_whoIsSeen_26 hl (k := 2) rfl (nI_inc _) (by decide) rfl (fun ls hl => ?_)
      refine lv_goto (tgt := 4) hx hb dX0_whoIsSeen_29 rfl ?_
      exact ih4 (i + 1) ls (by first | omega | (dsimp only; omega)) ⟨(by omega), lv_sub hl [2, 1, 0] rfl⟩

set_option maxHeartbeats 4000000 in
set_option maxRecDepth 100000 in
theorem k_X0_howManyContent (n : Nat) (hI : Inv g n) : RO l D (tyA cI cJ cO) yX0_howManyContent cX0_howManyContent 1 ((some .int)) 3 69 [.ref h] (GW cI h q (g 0) (g 2) (g 1) (tl g)) (.int (nI (contN g n))) := by
  refine RO.mk (by decide) (Nat.le_of_ble_eq_true rfl) ?_
  intro p e s m below meth c ls S hr hlk hP hK hl
  have S : CallFix p m c cX0_howManyContent 1 s _ WL RX0 := S
  obtain ⟨hx, hb, hml, hown, hts⟩ := id S
  have hl : lv_has ls 1 [(0, .ref h)] := hl
  refine lv_aload_n hx hb dX0_howManyContent_0 rfl (lv_at hl 0 rfl) ?_
  refine ro_V (w := (GW cI h q (g 0) (g 2) (g 1) (tl g))) (rest := []) S hK hP (k_X0_whoIsContent n hI) gv_X0_54 hd_X0_whoIsContent ⟨Nat.le_of_ble_eq_true rfl, Nat.le_of_ble_eq_true rfl⟩ 0 rfl rfl rfl rfl hl.1 (lv_room (Nat.le_of_ble_eq_true rfl)) dX0_howManyContent_1 ⟨Nat.zero_le _, Nat.zero_le _⟩ ?_
  refine ro_S (w := []) (rest := []) S hK va_P0 (k_J6_bitCount_0f7a4 (contS g n)) gs_X0_57 hd_J6_bitCount_0f7a4 ⟨Nat.le_of_ble_eq_true rfl, Nat.le_of_ble_eq_true rfl⟩ rfl hl.1 (lv_room (Nat.le_of_ble_eq_true rfl)) dX0_howManyContent_4 ⟨Nat.zero_le _, Nat.zero_le _⟩ ?_
  refine w_i (z := nI (contN g n)) (pop_set _ hI.1) ?_
  exact ro_iret hx hb hr hlk (rfl) dX0_howManyContent_7

end
