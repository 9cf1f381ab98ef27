theorem u_3 {u : Nat} (h : u ≤ 3) (c0 : ¬ nI u = 0) (c1 : ¬ nI u = 1) (c2 : ¬ nI u = 2) : u = 3 := by
  have a0 : ¬ u = 0 := fun z => c0 (by rw [z]; rfl)
  have a1 : ¬ u = 1 := fun z => c1 (by rw [z]; rfl)
  have a2 : ¬ u = 2 := fun z => c2 (by rw [z]; rfl)
  omega
theorem wh_eq {n : Nat} {v : Int32} (h8 : n ≤ 8) : inI v (-1) (nI n - 1) = if v = -1 then true else isFig n v := by
  have e0 : (0 : Int32).toInt = 0 := by decide
  have e1 : (1 : Int32).toInt = 1 := by decide
  have em : (-1 : Int32).toInt = -1 := by decide
  have hn : (nI n).toInt = n := nI_toInt (by omega)
  have es : (nI n - 1).toInt = (n : Int) - 1 := by rw [sub_I (by rw [hn, e1]; omega) (by rw [hn, e1]; omega), hn, e1]
  by_cases q : v = -1
  · rw [if_pos q, q]
    unfold inI
    refine decide_eq_true ⟨Int32.le_refl _, ?_⟩
    rw [le_I, es, em]; omega
  · rw [if_neg q]
    unfold isFig inI
    refine decide_eq_decide.mpr ?_
    rw [le_I, le_I, le_I, es, em, e0]
    have : ¬ v.toInt = -1 := fun z => q (Int32.toInt_inj.mp (by rw [z, em]))
    omega
theorem set_eq {n j : Nat} {v : Int32} (h8 : n ≤ 8) (h1 : 1 ≤ j) (h2 : j ≤ 8) : inI v (leastS (nI j)) (greatS n (nI j)) = setOK n (nI j) v := by
  rcases (show j = 1 ∨ j = 2 ∨ j = 3 ∨ j = 4 ∨ j = 5 ∨ j = 6 ∨ j = 7 ∨ j = 8 by omega) with rfl | rfl | rfl | rfl | rfl | rfl | rfl | rfl
  · rfl
  · rfl
  · rfl
  · rfl
  · rfl
  · show inI v (-1) (nI n - 1) = if v = -1 then true else isFig n v
    exact wh_eq h8
  · rfl
  · show inI v 0 9999 = (decide ((8 : Int32) = 8) && inI v 0 9999)
    simp
theorem set_ok {n j : Nat} {v : Int32} (h8 : n ≤ 8) (h1 : 1 ≤ j) (h2 : j ≤ 8) (h : inI v (leastS (nI j)) (greatS n (nI j)) = true) : setOK n (nI j) v = true := (set_eq h8 h1 h2).symm.trans h
theorem set_no {n j : Nat} {v : Int32} (h8 : n ≤ 8) (h1 : 1 ≤ j) (h2 : j ≤ 8) (h : inI v (leastS (nI j)) (greatS n (nI j)) = false) : setOK n (nI j) v = false := (set_eq h8 h1 h2).symm.trans h
theorem set_no2 {n : Nat} {w v : Int32} (h : inI w 1 8 = false) : setOK n w v = false := by
  cases q : setOK n w v with
  | false => rfl
  | true =>
    obtain ⟨j, h1, h2, rfl⟩ := set_in q
    exact absurd ((in_mk (a := 1) (b := 8) (k := j) (by decide) (by omega) (by omega)).symm.trans h) (by decide)
theorem st_in {w : Int32} (h : inI w (-1) 6 = true) (h0 : 0 ≤ w) : ∃ j, j < 7 ∧ w = nI j := by
  unfold inI at h
  have h := of_decide_eq_true h
  have e0 : (0 : Int32).toInt = 0 := by decide
  have e6 : (6 : Int32).toInt = 6 := by decide
  rw [le_I, e0] at h0
  have h6 := h.2
  rw [le_I, e6] at h6
  obtain ⟨e1, e2⟩ := nI_of1 h0
  exact ⟨_, by omega, e1⟩
theorem stat_j (t : Nat → Int32) {j : Nat} (hj : j < 7) : sumF (statP t (nI j)) 7 = t j := by
  have hn : ¬ nI j < 0 := nI_pos (by omega)
  have e : ∀ k, k < 7 → statP t (nI j) k = if k = j then t k else 0 := fun k hk => by
    unfold statP
    by_cases q : k = j
    · rw [if_pos (Or.inr (by rw [q])), if_pos q]
    · rw [if_neg (fun z => z.elim hn (fun y => q (nq_eq (by omega) (by omega) y))), if_neg q]
  simp only [sumF]
  rw [e 0 (by omega), e 1 (by omega), e 2 (by omega), e 3 (by omega), e 4 (by omega), e 5 (by omega), e 6 (by omega)]
  rcases (show j = 0 ∨ j = 1 ∨ j = 2 ∨ j = 3 ∨ j = 4 ∨ j = 5 ∨ j = 6 by omega) with rfl | rfl | rfl | rfl | rfl | rfl | rfl <;> simp
section
variable {l : Launch} {D : va_G} {cI cJ cO : ClassId} {B : Nat → Nat} {gG tG kG : Nat → Int32} {ik le : Int32} {by_ : Nat → Int32} {tk bg en va tn b0 l0 : Int32} {u0 : Nat → Int64} {b1 l1 : Int32} {u1 : Nat → Int64} {b2 l2 : Int32} {u2 : Nat → Int64} {b3 l3 : Int32} {u3 : Nat → Int64} {fS cW : Nat → Int32}

set_option maxHeartbeats 4000000 in
set_option maxRecDepth 100000 in
theorem k_X3_on (n : Nat) (f : Int32) (k : Int32) (w : Int32) (hI : Inv gG n) (hh : rng (gG 0) 0 200000) : MU l D (tyA cI cJ cO) yX3_on cX3_on 4 ((some .int)) 5 115 [.ref (B 0), .int f, .int k, .int w] (VW cI cJ cO B gG tG kG ik le by_ tk bg en va tn b0 l0 u0 b1 l1 u1 b2 l2 u2 b3 l3 u3 fS cW) (fun ov w' => ∃ tG' : Nat → Int32, ov = some (.int (onR gG n f k w)) ∧ w' = (VW cI cJ cO B gG tG' kG ik le by_ tk bg en va tn b0 l0 u0 b1 l1 u1 b2 l2 u2 b3 l3 u3 (okT (onOk n f k w) fS) cW)) := by
  refine MU.mk (by decide) (Nat.le_of_ble_eq_true rfl) ?_
  intro p e s m below meth c ls S hr hlk hP hK hD hS hl
  have S : CallFix p m c cX3_on 4 s _ WL RX3 := S
  obtain ⟨hx, hb, hml, hown, hts⟩ := id S
  have hl : lv_has ls 4 [(0, .ref (B 0)), (1, .int f), (2, .int k), (3, .int w)] := hl
  have h8 : n ≤ 8 := hI.1
  refine lv_aload_n hx hb dX3_on_0 rfl (lv_at hl 0 rfl) ?_
  refine va_get (ci := 3) (v := .ref (B 1)) hx hb hts wx_X3 hown hK hP 0 rfl rfl 0 (by decide) (hts _ wf_X3_10) (fun _ h9 => h9) rfl dX3_on_1 ?_
  refine lv_iload_n hx hb dX3_on_4 rfl (lv_at hl 1 rfl) ?_
  refine ro_V (w := (GW cI (B 1) (B 2) (gG 0) (gG 2) (gG 1) (tl gG))) (rest := []) S hK (hP.sub [1, 2] rfl) (k_X0_lacks n f hI) gv_X3_95 hd_X0_lacks ⟨Nat.le_of_ble_eq_true rfl, Nat.le_of_ble_eq_true rfl⟩ 0 rfl rfl rfl rfl hl.1 (lv_room (Nat.le_of_ble_eq_true rfl)) dX3_on_5 ⟨Nat.zero_le _, Nat.zero_le _⟩ ?_
  refine lv_if_ne (tgt := 31) hx hb dX3_on_8 rfl (fun c8 => ?_) (fun c8 => ?_)
  · replace c8 := bn_n0 c8
    refine lv_aload_n hx hb dX3_on_31 rfl (lv_at hl 0 rfl) ?_
    refine lv_ldc (v := (-1000000001)) hx hb hown (hts _ wq_X3_51) dX3_on_32 ?_
    refine mu_W (w := (VW cI cJ cO B gG tG kG ik le by_ tk bg en va tn b0 l0 u0 b1 l1 u1 b2 l2 u2 b3 l3 u3 fS cW)) (rest := []) S hK hP hD hS (k_X3_finding 0 (-1000000001) (by decide) (by decide)) gv_X3_52 hd_X3_finding ⟨Nat.le_of_ble_eq_true rfl, Nat.le_of_ble_eq_true rfl⟩ 3 rfl rfl rfl rfl hl.1 (lv_room (Nat.le_of_ble_eq_true rfl)) dX3_on_34 ⟨Nat.zero_le _, Nat.zero_le _⟩ (fun ov w' H locs hp hP hD hS => ?_)
    obtain ⟨rfl, rfl⟩ := hp
    refine W.eq (g2 := F0 m 37 ls [.int (-1000000001)]) rfl ?_
    have hE : upd fS 0 (fS 0 + 1) = okT (onOk n f k w) fS := by simp [onR, onOk, okT, bump, put9, b2i, c8, i_lt, -Int32.not_le, -Int32.not_lt]
    have hW : (VW cI cJ cO B gG tG kG ik le by_ tk bg en va tn b0 l0 u0 b1 l1 u1 b2 l2 u2 b3 l3 u3 (upd fS 0 (fS 0 + 1)) cW) = (VW cI cJ cO B gG tG kG ik le by_ tk bg en va tn b0 l0 u0 b1 l1 u1 b2 l2 u2 b3 l3 u3 (okT (onOk n f k w) fS) cW) := congrArg (fun z => (VW cI cJ cO B gG tG kG ik le by_ tk bg en va tn b0 l0 u0 b1 l1 u1 b2 l2 u2 b3 l3 u3 z cW)) hE
    have hP : va_P D vwCl (VW cI cJ cO B gG tG kG ik le by_ tk bg en va tn b0 l0 u0 b1 l1 u1 b2 l2 u2 b3 l3 u3 (okT (onOk n f k w) fS) cW) H := Eq.mp (congrArg (fun z => va_P D vwCl z H) hW) hP
    have hD : va_D _ (VW cI cJ cO B gG tG kG ik le by_ tk bg en va tn b0 l0 u0 b1 l1 u1 b2 l2 u2 b3 l3 u3 (okT (onOk n f k w) fS) cW) := Eq.mp (congrArg (fun z => va_D _ z) hW) hD
    exact mu_iret (VW cI cJ cO B gG tG kG ik le by_ tk bg en va tn b0 l0 u0 b1 l1 u1 b2 l2 u2 b3 l3 u3 (okT (onOk n f k w) fS) cW) hx hb hr hlk hP hS rfl (⟨tG, congrArg (fun z => some (Value.int z)) (by simp [onR, onOk, okT, bump, put9, b2i, c8, i_lt, -Int32.not_le, -Int32.not_lt]), rfl⟩) dX3_on_37
  · replace c8 := bn_0 c8
    obtain ⟨i, hi, rfl⟩ := fig_in hI.1 c8
    have h8 := hI.1
    have ei : cl (nI i) = i := cl_nI (by omega)
    refine lv_iload_n hx hb dX3_on_11 rfl (lv_at hl 2 rfl) ?_
    refine lv_iconst (v := 0) hx hb dX3_on_12 rfl ?_
    refine lv_sipush (v := 200) hx hb dX3_on_13 rfl ?_
    refine ro_S (w := []) (rest := []) S hK va_P0 (k_X3_isOutside k 0 200) gs_X3_47 hd_X3_isOutside ⟨Nat.le_of_ble_eq_true rfl, Nat.le_of_ble_eq_true rfl⟩ rfl hl.1 (lv_room (Nat.le_of_ble_eq_true rfl)) dX3_on_16 ⟨Nat.zero_le _, Nat.zero_le _⟩ ?_
    refine lv_if_ne (tgt := 31) hx hb dX3_on_19 rfl (fun c19 => ?_) (fun c19 => ?_)
    · replace c19 := bn_n0 c19
      refine lv_aload_n hx hb dX3_on_31 rfl (lv_at hl 0 rfl) ?_
      refine lv_ldc (v := (-1000000001)) hx hb hown (hts _ wq_X3_51) dX3_on_32 ?_
      refine mu_W (w := (VW cI cJ cO B gG tG kG ik le by_ tk bg en va tn b0 l0 u0 b1 l1 u1 b2 l2 u2 b3 l3 u3 fS cW)) (rest := []) S hK hP hD hS (k_X3_finding 0 (-1000000001) (by decide) (by decide)) gv_X3_52 hd_X3_finding ⟨Nat.le_of_ble_eq_true rfl, Nat.le_of_ble_eq_true rfl⟩ 3 rfl rfl rfl rfl hl.1 (lv_room (Nat.le_of_ble_eq_true rfl)) dX3_on_34 ⟨Nat.zero_le _, Nat.zero_le _⟩ (fun ov w' H locs hp hP hD hS => ?_)
      obtain ⟨rfl, rfl⟩ := hp
      refine W.eq (g2 := F0 m 37 ls [.int (-1000000001)]) rfl ?_
      have hE : upd fS 0 (fS 0 + 1) = okT (onOk n (nI i) k w) fS := by simp [onR, onOk, okT, bump, put9, b2i, c8, c19, ei, i_lt, -Int32.not_le, -Int32.not_lt]
      have hW : (VW cI cJ cO B gG tG kG ik le by_ tk bg en va tn b0 l0 u0 b1 l1 u1 b2 l2 u2 b3 l3 u3 (upd fS 0 (fS 0 + 1)) cW) = (VW cI cJ cO B gG tG kG ik le by_ tk bg en va tn b0 l0 u0 b1 l1 u1 b2 l2 u2 b3 l3 u3 (okT (onOk n (nI i) k w) fS) cW) := congrArg (fun z => (VW cI cJ cO B gG tG kG ik le by_ tk bg en va tn b0 l0 u0 b1 l1 u1 b2 l2 u2 b3 l3 u3 z cW)) hE
      have hP : va_P D vwCl (VW cI cJ cO B gG tG kG ik le by_ tk bg en va tn b0 l0 u0 b1 l1 u1 b2 l2 u2 b3 l3 u3 (okT (onOk n (nI i) k w) fS) cW) H := Eq.mp (congrArg (fun z => va_P D vwCl z H) hW) hP
      have hD : va_D _ (VW cI cJ cO B gG tG kG ik le by_ tk bg en va tn b0 l0 u0 b1 l1 u1 b2 l2 u2 b3 l3 u3 (okT (onOk n (nI i) k w) fS) cW) := Eq.mp (congrArg (fun z => va_D _ z) hW) hD
      exact mu_iret (VW cI cJ cO B gG tG kG ik le by_ tk bg en va tn b0 l0 u0 b1 l1 u1 b2 l2 u2 b3 l3 u3 (okT (onOk n (nI i) k w) fS) cW) hx hb hr hlk hP hS rfl (⟨tG, congrArg (fun z => some (Value.int z)) (by simp [onR, onOk, okT, bump, put9, b2i, c8, c19, ei, i_lt, -Int32.not_le, -Int32.not_lt]), rfl⟩) dX3_on_37
    · replace c19 := bn_0 c19
      obtain ⟨j, hja, hjb, rfl⟩ := in_nat (a := 0) (b := 200) (by decide) c19 (by decide)
      have ej : cl (nI j) = j := cl_nI (by omega)
      refine lv_iload_n hx hb dX3_on_22 rfl (lv_at hl 3 rfl) ?_
      refine lv_iconst (v := 0) hx hb dX3_on_23 rfl ?_
      refine lv_iconst (v := 3) hx hb dX3_on_24 rfl ?_
      refine ro_S (w := []) (rest := []) S hK va_P0 (k_X3_isOutside w 0 3) gs_X3_47 hd_X3_isOutside ⟨Nat.le_of_ble_eq_true rfl, Nat.le_of_ble_eq_true rfl⟩ rfl hl.1 (lv_room (Nat.le_of_ble_eq_true rfl)) dX3_on_25 ⟨Nat.zero_le _, Nat.zero_le _⟩ ?_
      refine lv_if_eq (tgt := 38) hx hb dX3_on_28 rfl (fun c28 => ?_) (fun c28 => ?_)
      · replace c28 := bn_0 c28
        obtain ⟨u, hua, hub, rfl⟩ := in_nat (a := 0) (b := 3) (by decide) c28 (by decide)
        have eu : cl (nI u) = u := cl_nI (by omega)
        refine lv_aload_n hx hb dX3_on_38 rfl (lv_at hl 0 rfl) ?_
        refine va_get (ci := 3) (v := .ref (B 3)) hx hb hts wx_X3 hown hK hP 0 rfl rfl 1 (by decide) (hts _ wf_X3_16) (fun _ h9 => h9) rfl dX3_on_39 ?_
        refine lv_aload_n hx hb dX3_on_42 rfl (lv_at hl 0 rfl) ?_
        refine va_get (ci := 3) (v := .ref (B 1)) hx hb hts wx_X3 hown hK hP 0 rfl rfl 0 (by decide) (hts _ wf_X3_10) (fun _ h9 => h9) rfl dX3_on_43 ?_
        refine mu_V (w := (G2 cI (B 3) (B 4) (tG 0) (tG 2) (tG 1) (tl tG) (B 1) (B 2) (gG 0) (gG 2) (gG 1) (tl gG))) (rest := []) S hK hP hD hS (k_X0_become (g := tG) (g2 := gG)) gv_X3_135 hd_X0_become ⟨Nat.le_of_ble_eq_true rfl, Nat.le_of_ble_eq_true rfl⟩ [3, 4, 1, 2] rfl rfl 0 rfl rfl rfl rfl hl.1 (lv_room (Nat.le_of_ble_eq_true rfl)) dX3_on_46 ⟨Nat.zero_le _, Nat.zero_le _⟩ (fun ov w' H locs hp hP hD hS => ?_)
        obtain ⟨rfl, rfl⟩ := hp
        have hP : va_P D vwCl (VW cI cJ cO B gG gG kG ik le by_ tk bg en va tn b0 l0 u0 b1 l1 u1 b2 l2 u2 b3 l3 u3 fS cW) H := hP
        have hD : va_D _ (VW cI cJ cO B gG gG kG ik le by_ tk bg en va tn b0 l0 u0 b1 l1 u1 b2 l2 u2 b3 l3 u3 fS cW) := hD
        refine W.eq (g2 := F0 m 49 ls []) rfl ?_
        refine lv_aload_n hx hb dX3_on_49 rfl (lv_at hl 0 rfl) ?_
        refine va_get (ci := 3) (v := .ref (B 3)) hx hb hts wx_X3 hown hK hP 0 rfl rfl 1 (by decide) (hts _ wf_X3_16) (fun _ h9 => h9) rfl dX3_on_50 ?_
        refine lv_iload_n hx hb dX3_on_53 rfl (lv_at hl 2 rfl) ?_
        refine mu_V (w := (GW cI (B 3) (B 4) (gG 0) (gG 2) (gG 1) (tl gG))) (rest := []) S hK hP hD hS (k_X0_pass n j hI hh (by omega)) gv_X3_131 hd_X0_pass ⟨Nat.le_of_ble_eq_true rfl, Nat.le_of_ble_eq_true rfl⟩ [3, 4] rfl rfl 0 rfl rfl rfl rfl hl.1 (lv_room (Nat.le_of_ble_eq_true rfl)) dX3_on_54 ⟨Nat.zero_le _, Nat.zero_le _⟩ (fun ov w' H locs hp hP hD hS => ?_)
        obtain ⟨rfl, rfl⟩ := hp
        have hP : va_P D vwCl (VW cI cJ cO B gG (hoursF gG n j) kG ik le by_ tk bg en va tn b0 l0 u0 b1 l1 u1 b2 l2 u2 b3 l3 u3 fS cW) H := hP
        have hD : va_D _ (VW cI cJ cO B gG (hoursF gG n j) kG ik le by_ tk bg en va tn b0 l0 u0 b1 l1 u1 b2 l2 u2 b3 l3 u3 fS cW) := hD
        refine W.eq (g2 := F0 m 57 ls []) rfl ?_
        refine lv_iload_n hx hb dX3_on_57 rfl (lv_at hl 3 rfl) ?_
        by_cases c58_0 : (nI u) = 0
        · refine lv_tableIn (tgt := 84) hx hb dX3_on_58 (by rw [c58_0]; decide) (by rw [c58_0]; decide) (by rw [c58_0]; rfl) rfl ?_
          obtain rfl : u = 0 := nq_eq (a := u) (b := 0) (by omega) (by omega) c58_0
          have e3n : ¬ nI 0 = 3 := by decide
          refine lv_aload_n hx hb dX3_on_84 rfl (lv_at hl 0 rfl) ?_
          refine va_get (ci := 3) (v := .ref (B 3)) hx hb hts wx_X3 hown hK hP 0 rfl rfl 1 (by decide) (hts _ wf_X3_16) (fun _ h9 => h9) rfl dX3_on_85 ?_
          refine lv_iload_n hx hb dX3_on_88 rfl (lv_at hl 1 rfl) ?_
          refine lv_iconst (v := 2) hx hb dX3_on_89 rfl ?_
          refine ro_V (w := (GW cI (B 3) (B 4) ((hoursF gG n j) 0) ((hoursF gG n j) 2) ((hoursF gG n j) 1) (tl (hoursF gG n j)))) (rest := []) S hK (hP.sub [3, 4] rfl) (k_X0_getN i 2 (by omega) (by omega)) gv_X3_108 hd_X0_get ⟨Nat.le_of_ble_eq_true rfl, Nat.le_of_ble_eq_true rfl⟩ 0 rfl rfl rfl rfl hl.1 (lv_room (Nat.le_of_ble_eq_true rfl)) dX3_on_90 ⟨Nat.zero_le _, Nat.zero_le _⟩ ?_
          have hE : fS = okT (onOk n (nI i) (nI j) (nI 0)) fS := by simp [onR, onOk, okT, bump, put9, b2i, c8, c19, c28, ei, ej, eu, e3n, i_lt, -Int32.not_le, -Int32.not_lt]
          have hW : (VW cI cJ cO B gG (hoursF gG n j) kG ik le by_ tk bg en va tn b0 l0 u0 b1 l1 u1 b2 l2 u2 b3 l3 u3 fS cW) = (VW cI cJ cO B gG (hoursF gG n j) kG ik le by_ tk bg en va tn b0 l0 u0 b1 l1 u1 b2 l2 u2 b3 l3 u3 (okT (onOk n (nI i) (nI j) (nI 0)) fS) cW) := congrArg (fun z => (VW cI cJ cO B gG (hoursF gG n j) kG ik le by_ tk bg en va tn b0 l0 u0 b1 l1 u1 b2 l2 u2 b3 l3 u3 z cW)) hE
          have hP : va_P D vwCl (VW cI cJ cO B gG (hoursF gG n j) kG ik le by_ tk bg en va tn b0 l0 u0 b1 l1 u1 b2 l2 u2 b3 l3 u3 (okT (onOk n (nI i) (nI j) (nI 0)) fS) cW) H := Eq.mp (congrArg (fun z => va_P D vwCl z H) hW) hP
          have hD : va_D _ (VW cI cJ cO B gG (hoursF gG n j) kG ik le by_ tk bg en va tn b0 l0 u0 b1 l1 u1 b2 l2 u2 b3 l3 u3 (okT (onOk n (nI i) (nI j) (nI 0)) fS) cW) := Eq.mp (congrArg (fun z => va_D _ z) hW) hD
          exact mu_iret (VW cI cJ cO B gG (hoursF gG n j) kG ik le by_ tk bg en va tn b0 l0 u0 b1 l1 u1 b2 l2 u2 b3 l3 u3 (okT (onOk n (nI i) (nI j) (nI 0)) fS) cW) hx hb hr hlk hP hS rfl (⟨(hoursF gG n j), congrArg (fun z => some (Value.int z)) (by simp [onR, onOk, okT, bump, put9, b2i, c8, c19, c28, ei, ej, eu, e3n, i_lt, -Int32.not_le, -Int32.not_lt]), rfl⟩) dX3_on_93
        by_cases c58_1 : (nI u) = 1
        · refine lv_tableIn (tgt := 94) hx hb dX3_on_58 (by rw [c58_1]; decide) (by rw [c58_1]; decide) (by rw [c58_1]; rfl) rfl ?_
          obtain rfl : u = 1 := nq_eq (a := u) (b := 1) (by omega) (by omega) c58_1
          have e3n : ¬ nI 1 = 3 := by decide
          refine lv_aload_n hx hb dX3_on_94 rfl (lv_at hl 0 rfl) ?_
          refine va_get (ci := 3) (v := .ref (B 3)) hx hb hts wx_X3 hown hK hP 0 rfl rfl 1 (by decide) (hts _ wf_X3_16) (fun _ h9 => h9) rfl dX3_on_95 ?_
          refine lv_iload_n hx hb dX3_on_98 rfl (lv_at hl 1 rfl) ?_
          refine lv_iconst (v := 3) hx hb dX3_on_99 rfl ?_
          refine ro_V (w := (GW cI (B 3) (B 4) ((hoursF gG n j) 0) ((hoursF gG n j) 2) ((hoursF gG n j) 1) (tl (hoursF gG n j)))) (rest := []) S hK (hP.sub [3, 4] rfl) (k_X0_getN i 3 (by omega) (by omega)) gv_X3_108 hd_X0_get ⟨Nat.le_of_ble_eq_true rfl, Nat.le_of_ble_eq_true rfl⟩ 0 rfl rfl rfl rfl hl.1 (lv_room (Nat.le_of_ble_eq_true rfl)) dX3_on_100 ⟨Nat.zero_le _, Nat.zero_le _⟩ ?_
          have hE : fS = okT (onOk n (nI i) (nI j) (nI 1)) fS := by simp [onR, onOk, okT, bump, put9, b2i, c8, c19, c28, ei, ej, eu, e3n, i_lt, -Int32.not_le, -Int32.not_lt]
          have hW : (VW cI cJ cO B gG (hoursF gG n j) kG ik le by_ tk bg en va tn b0 l0 u0 b1 l1 u1 b2 l2 u2 b3 l3 u3 fS cW) = (VW cI cJ cO B gG (hoursF gG n j) kG ik le by_ tk bg en va tn b0 l0 u0 b1 l1 u1 b2 l2 u2 b3 l3 u3 (okT (onOk n (nI i) (nI j) (nI 1)) fS) cW) := congrArg (fun z => (VW cI cJ cO B gG (hoursF gG n j) kG ik le by_ tk bg en va tn b0 l0 u0 b1 l1 u1 b2 l2 u2 b3 l3 u3 z cW)) hE
          have hP : va_P D vwCl (VW cI cJ cO B gG (hoursF gG n j) kG ik le by_ tk bg en va tn b0 l0 u0 b1 l1 u1 b2 l2 u2 b3 l3 u3 (okT (onOk n (nI i) (nI j) (nI 1)) fS) cW) H := Eq.mp (congrArg (fun z => va_P D vwCl z H) hW) hP
          have hD : va_D _ (VW cI cJ cO B gG (hoursF gG n j) kG ik le by_ tk bg en va tn b0 l0 u0 b1 l1 u1 b2 l2 u2 b3 l3 u3 (okT (onOk n (nI i) (nI j) (nI 1)) fS) cW) := Eq.mp (congrArg (fun z => va_D _ z) hW) hD
          exact mu_iret (VW cI cJ cO B gG (hoursF gG n j) kG ik le by_ tk bg en va tn b0 l0 u0 b1 l1 u1 b2 l2 u2 b3 l3 u3 (okT (onOk n (nI i) (nI j) (nI 1)) fS) cW) hx hb hr hlk hP hS rfl (⟨(hoursF gG n j), congrArg (fun z => some (Value.int z)) (by simp [onR, onOk, okT, bump, put9, b2i, c8, c19, c28, ei, ej, eu, e3n, i_lt, -Int32.not_le, -Int32.not_lt]), rfl⟩) dX3_on_103
        by_cases c58_2 : (nI u) = 2
        · refine lv_tableIn (tgt := 104) hx hb dX3_on_58 (by rw [c58_2]; decide) (by rw [c58_2]; decide) (by rw [c58_2]; rfl) rfl ?_
          obtain rfl : u = 2 := nq_eq (a := u) (b := 2) (by omega) (by omega) c58_2
          have e3n : ¬ nI 2 = 3 := by decide
          refine lv_aload_n hx hb dX3_on_104 rfl (lv_at hl 0 rfl) ?_
          refine va_get (ci := 3) (v := .ref (B 3)) hx hb hts wx_X3 hown hK hP 0 rfl rfl 1 (by decide) (hts _ wf_X3_16) (fun _ h9 => h9) rfl dX3_on_105 ?_
          refine lv_iload_n hx hb dX3_on_108 rfl (lv_at hl 1 rfl) ?_
          refine lv_iconst (v := 4) hx hb dX3_on_109 rfl ?_
          refine ro_V (w := (GW cI (B 3) (B 4) ((hoursF gG n j) 0) ((hoursF gG n j) 2) ((hoursF gG n j) 1) (tl (hoursF gG n j)))) (rest := []) S hK (hP.sub [3, 4] rfl) (k_X0_getN i 4 (by omega) (by omega)) gv_X3_108 hd_X0_get ⟨Nat.le_of_ble_eq_true rfl, Nat.le_of_ble_eq_true rfl⟩ 0 rfl rfl rfl rfl hl.1 (lv_room (Nat.le_of_ble_eq_true rfl)) dX3_on_110 ⟨Nat.zero_le _, Nat.zero_le _⟩ ?_
          have hE : fS = okT (onOk n (nI i) (nI j) (nI 2)) fS := by simp [onR, onOk, okT, bump, put9, b2i, c8, c19, c28, ei, ej, eu, e3n, i_lt, -Int32.not_le, -Int32.not_lt]
          have hW : (VW cI cJ cO B gG (hoursF gG n j) kG ik le by_ tk bg en va tn b0 l0 u0 b1 l1 u1 b2 l2 u2 b3 l3 u3 fS cW) = (VW cI cJ cO B gG (hoursF gG n j) kG ik le by_ tk bg en va tn b0 l0 u0 b1 l1 u1 b2 l2 u2 b3 l3 u3 (okT (onOk n (nI i) (nI j) (nI 2)) fS) cW) := congrArg (fun z => (VW cI cJ cO B gG (hoursF gG n j) kG ik le by_ tk bg en va tn b0 l0 u0 b1 l1 u1 b2 l2 u2 b3 l3 u3 z cW)) hE
          have hP : va_P D vwCl (VW cI cJ cO B gG (hoursF gG n j) kG ik le by_ tk bg en va tn b0 l0 u0 b1 l1 u1 b2 l2 u2 b3 l3 u3 (okT (onOk n (nI i) (nI j) (nI 2)) fS) cW) H := Eq.mp (congrArg (fun z => va_P D vwCl z H) hW) hP
          have hD : va_D _ (VW cI cJ cO B gG (hoursF gG n j) kG ik le by_ tk bg en va tn b0 l0 u0 b1 l1 u1 b2 l2 u2 b3 l3 u3 (okT (onOk n (nI i) (nI j) (nI 2)) fS) cW) := Eq.mp (congrArg (fun z => va_D _ z) hW) hD
          exact mu_iret (VW cI cJ cO B gG (hoursF gG n j) kG ik le by_ tk bg en va tn b0 l0 u0 b1 l1 u1 b2 l2 u2 b3 l3 u3 (okT (onOk n (nI i) (nI j) (nI 2)) fS) cW) hx hb hr hlk hP hS rfl (⟨(hoursF gG n j), congrArg (fun z => some (Value.int z)) (by simp [onR, onOk, okT, bump, put9, b2i, c8, c19, c28, ei, ej, eu, e3n, i_lt, -Int32.not_le, -Int32.not_lt]), rfl⟩) dX3_on_113
        refine lv_tableOut (tgt := 114) hx hb dX3_on_58 (by have q0 := lv_neT c58_0 (a := 0) rfl; have q1 := lv_neT c58_1 (a := 1) rfl; have q2 := lv_neT c58_2 (a := 2) rfl; omega) rfl ?_
        obtain rfl := u_3 (by omega) c58_0 c58_1 c58_2
        have e3t : (nI 3 = 3) = True := eq_true rfl
        refine lv_aload_n hx hb dX3_on_114 rfl (lv_at hl 0 rfl) ?_
        refine va_get (ci := 3) (v := .ref (B 3)) hx hb hts wx_X3 hown hK hP 0 rfl rfl 1 (by decide) (hts _ wf_X3_16) (fun _ h9 => h9) rfl dX3_on_115 ?_
        refine lv_iload_n hx hb dX3_on_118 rfl (lv_at hl 1 rfl) ?_
        refine lv_bipush (v := 8) hx hb dX3_on_119 rfl ?_
        refine ro_V (w := (GW cI (B 3) (B 4) ((hoursF gG n j) 0) ((hoursF gG n j) 2) ((hoursF gG n j) 1) (tl (hoursF gG n j)))) (rest := []) S hK (hP.sub [3, 4] rfl) (k_X0_getN i 8 (by omega) (by omega)) gv_X3_108 hd_X0_get ⟨Nat.le_of_ble_eq_true rfl, Nat.le_of_ble_eq_true rfl⟩ 0 rfl rfl rfl rfl hl.1 (lv_room (Nat.le_of_ble_eq_true rfl)) dX3_on_121 ⟨Nat.zero_le _, Nat.zero_le _⟩ ?_
        have hE : fS = okT (onOk n (nI i) (nI j) (nI 3)) fS := by simp [onR, onOk, okT, bump, put9, b2i, c8, c19, c28, ei, ej, eu, e3t, i_lt, -Int32.not_le, -Int32.not_lt]
        have hW : (VW cI cJ cO B gG (hoursF gG n j) kG ik le by_ tk bg en va tn b0 l0 u0 b1 l1 u1 b2 l2 u2 b3 l3 u3 fS cW) = (VW cI cJ cO B gG (hoursF gG n j) kG ik le by_ tk bg en va tn b0 l0 u0 b1 l1 u1 b2 l2 u2 b3 l3 u3 (okT (onOk n (nI i) (nI j) (nI 3)) fS) cW) := congrArg (fun z => (VW cI cJ cO B gG (hoursF gG n j) kG ik le by_ tk bg en va tn b0 l0 u0 b1 l1 u1 b2 l2 u2 b3 l3 u3 z cW)) hE
        have hP : va_P D vwCl (VW cI cJ cO B gG (hoursF gG n j) kG ik le by_ tk bg en va tn b0 l0 u0 b1 l1 u1 b2 l2 u2 b3 l3 u3 (okT (onOk n (nI i) (nI j) (nI 3)) fS) cW) H := Eq.mp (congrArg (fun z => va_P D vwCl z H) hW) hP
        have hD : va_D _ (VW cI cJ cO B gG (hoursF gG n j) kG ik le by_ tk bg en va tn b0 l0 u0 b1 l1 u1 b2 l2 u2 b3 l3 u3 (okT (onOk n (nI i) (nI j) (nI 3)) fS) cW) := Eq.mp (congrArg (fun z => va_D _ z) hW) hD
        exact mu_iret (VW cI cJ cO B gG (hoursF gG n j) kG ik le by_ tk bg en va tn b0 l0 u0 b1 l1 u1 b2 l2 u2 b3 l3 u3 (okT (onOk n (nI i) (nI j) (nI 3)) fS) cW) hx hb hr hlk hP hS rfl (⟨(hoursF gG n j), congrArg (fun z => some (Value.int z)) (by simp [onR, onOk, okT, bump, put9, b2i, c8, c19, c28, ei, ej, eu, e3t, i_lt, -Int32.not_le, -Int32.not_lt]), rfl⟩) dX3_on_124
      · replace c28 := bn_n0 c28
        refine lv_aload_n hx hb dX3_on_31 rfl (lv_at hl 0 rfl) ?_
        refine lv_ldc (v := (-1000000001)) hx hb hown (hts _ wq_X3_51) dX3_on_32 ?_
        refine mu_W (w := (VW cI cJ cO B gG tG kG ik le by_ tk bg en va tn b0 l0 u0 b1 l1 u1 b2 l2 u2 b3 l3 u3 fS cW)) (rest := []) S hK hP hD hS (k_X3_finding 0 (-1000000001) (by decide) (by decide)) gv_X3_52 hd_X3_finding ⟨Nat.le_of_ble_eq_true rfl, Nat.le_of_ble_eq_true rfl⟩ 3 rfl rfl rfl rfl hl.1 (lv_room (Nat.le_of_ble_eq_true rfl)) dX3_on_34 ⟨Nat.zero_le _, Nat.zero_le _⟩ (fun ov w' H locs hp hP hD hS => ?_)
        obtain ⟨rfl, rfl⟩ := hp
        refine W.eq (g2 := F0 m 37 ls [.int (-1000000001)]) rfl ?_
        have hE : upd fS 0 (fS 0 + 1) = okT (onOk n (nI i) (nI j) w) fS := by simp [onR, onOk, okT, bump, put9, b2i, c8, c19, c28, ei, ej, i_lt, -Int32.not_le, -Int32.not_lt]
        have hW : (VW cI cJ cO B gG tG kG ik le by_ tk bg en va tn b0 l0 u0 b1 l1 u1 b2 l2 u2 b3 l3 u3 (upd fS 0 (fS 0 + 1)) cW) = (VW cI cJ cO B gG tG kG ik le by_ tk bg en va tn b0 l0 u0 b1 l1 u1 b2 l2 u2 b3 l3 u3 (okT (onOk n (nI i) (nI j) w) fS) cW) := congrArg (fun z => (VW cI cJ cO B gG tG kG ik le by_ tk bg en va tn b0 l0 u0 b1 l1 u1 b2 l2 u2 b3 l3 u3 z cW)) hE
        have hP : va_P D vwCl (VW cI cJ cO B gG tG kG ik le by_ tk bg en va tn b0 l0 u0 b1 l1 u1 b2 l2 u2 b3 l3 u3 (okT (onOk n (nI i) (nI j) w) fS) cW) H := Eq.mp (congrArg (fun z => va_P D vwCl z H) hW) hP
        have hD : va_D _ (VW cI cJ cO B gG tG kG ik le by_ tk bg en va tn b0 l0 u0 b1 l1 u1 b2 l2 u2 b3 l3 u3 (okT (onOk n (nI i) (nI j) w) fS) cW) := Eq.mp (congrArg (fun z => va_D _ z) hW) hD
        exact mu_iret (VW cI cJ cO B gG tG kG ik le by_ tk bg en va tn b0 l0 u0 b1 l1 u1 b2 l2 u2 b3 l3 u3 (okT (onOk n (nI i) (nI j) w) fS) cW) hx hb hr hlk hP hS rfl (⟨tG, congrArg (fun z => some (Value.int z)) (by simp [onR, onOk, okT, bump, put9, b2i, c8, c19, c28, ei, ej, i_lt, -Int32.not_le, -Int32.not_lt]), rfl⟩) dX3_on_37

set_option maxHeartbeats 4000000 in
set_option maxRecDepth 100000 in
theorem k_X3_set (n : Nat) (f : Int32) (w : Int32) (v : Int32) (hI : Inv gG n) : MU l D (tyA cI cJ cO) yX3_set cX3_set 5 ((some .int)) 1 24 [.ref (B 0), .int f, .int w, .int v] (VW cI cJ cO B gG tG kG ik le by_ tk bg en va tn b0 l0 u0 b1 l1 u1 b2 l2 u2 b3 l3 u3 fS cW) (fun ov w' => ov = some (.int (setR gG n f w v)) ∧ w' = (VW cI cJ cO B (setG gG n f w v) tG kG ik le by_ tk bg en va tn b0 l0 u0 b1 l1 u1 b2 l2 u2 b3 l3 u3 (okT (isFig n f && setOK n w v) fS) cW)) := by
  refine MU.mk (by decide) (Nat.le_of_ble_eq_true rfl) ?_
  intro p e s m below meth c ls S hr hlk hP hK hD hS hl
  have S : CallFix p m c cX3_set 5 s _ WL RX3 := S
  obtain ⟨hx, hb, hml, hown, hts⟩ := id S
  have hl : lv_has ls 5 [(0, .ref (B 0)), (1, .int f), (2, .int w), (3, .int v)] := hl
  have h8 : n ≤ 8 := hI.1
  refine lv_aload_n hx hb dX3_set_0 rfl (lv_at hl 0 rfl) ?_
  refine va_get (ci := 3) (v := .ref (B 1)) hx hb hts wx_X3 hown hK hP 0 rfl rfl 0 (by decide) (hts _ wf_X3_10) (fun _ h9 => h9) rfl dX3_set_1 ?_
  refine lv_iload_n hx hb dX3_set_4 rfl (lv_at hl 1 rfl) ?_
  refine ro_V (w := (GW cI (B 1) (B 2) (gG 0) (gG 2) (gG 1) (tl gG))) (rest := []) S hK (hP.sub [1, 2] rfl) (k_X0_lacks n f hI) gv_X3_95 hd_X0_lacks ⟨Nat.le_of_ble_eq_true rfl, Nat.le_of_ble_eq_true rfl⟩ 0 rfl rfl rfl rfl hl.1 (lv_room (Nat.le_of_ble_eq_true rfl)) dX3_set_5 ⟨Nat.zero_le _, Nat.zero_le _⟩ ?_
  refine lv_if_ne (tgt := 37) hx hb dX3_set_8 rfl (fun c8 => ?_) (fun c8 => ?_)
  · replace c8 := bn_n0 c8
    refine lv_aload_n hx hb dX3_set_37 rfl (lv_at hl 0 rfl) ?_
    refine lv_ldc (v := (-1000000001)) hx hb hown (hts _ wq_X3_51) dX3_set_38 ?_
    refine mu_W (w := (VW cI cJ cO B gG tG kG ik le by_ tk bg en va tn b0 l0 u0 b1 l1 u1 b2 l2 u2 b3 l3 u3 fS cW)) (rest := []) S hK hP hD hS (k_X3_finding 0 (-1000000001) (by decide) (by decide)) gv_X3_52 hd_X3_finding ⟨Nat.le_of_ble_eq_true rfl, Nat.le_of_ble_eq_true rfl⟩ 3 rfl rfl rfl rfl hl.1 (lv_room (Nat.le_of_ble_eq_true rfl)) dX3_set_40 ⟨Nat.zero_le _, Nat.zero_le _⟩ (fun ov w' H locs hp hP hD hS => ?_)
    obtain ⟨rfl, rfl⟩ := hp
    refine W.eq (g2 := F0 m 43 ls [.int (-1000000001)]) rfl ?_
    have hE : gG = setG gG n f w v := by simp [setR, setG, okT, bump, put9, b2i, c8, i_lt, -Int32.not_le, -Int32.not_lt]
    have hW : (VW cI cJ cO B gG tG kG ik le by_ tk bg en va tn b0 l0 u0 b1 l1 u1 b2 l2 u2 b3 l3 u3 (upd fS 0 (fS 0 + 1)) cW) = (VW cI cJ cO B (setG gG n f w v) tG kG ik le by_ tk bg en va tn b0 l0 u0 b1 l1 u1 b2 l2 u2 b3 l3 u3 (upd fS 0 (fS 0 + 1)) cW) := congrArg (fun z => (VW cI cJ cO B z tG kG ik le by_ tk bg en va tn b0 l0 u0 b1 l1 u1 b2 l2 u2 b3 l3 u3 (upd fS 0 (fS 0 + 1)) cW)) hE
    have hP : va_P D vwCl (VW cI cJ cO B (setG gG n f w v) tG kG ik le by_ tk bg en va tn b0 l0 u0 b1 l1 u1 b2 l2 u2 b3 l3 u3 (upd fS 0 (fS 0 + 1)) cW) H := Eq.mp (congrArg (fun z => va_P D vwCl z H) hW) hP
    have hD : va_D _ (VW cI cJ cO B (setG gG n f w v) tG kG ik le by_ tk bg en va tn b0 l0 u0 b1 l1 u1 b2 l2 u2 b3 l3 u3 (upd fS 0 (fS 0 + 1)) cW) := Eq.mp (congrArg (fun z => va_D _ z) hW) hD
    have hE : upd fS 0 (fS 0 + 1) = okT (isFig n f && setOK n w v) fS := by simp [setR, setG, okT, bump, put9, b2i, c8, i_lt, -Int32.not_le, -Int32.not_lt]
    have hW : (VW cI cJ cO B (setG gG n f w v) tG kG ik le by_ tk bg en va tn b0 l0 u0 b1 l1 u1 b2 l2 u2 b3 l3 u3 (upd fS 0 (fS 0 + 1)) cW) = (VW cI cJ cO B (setG gG n f w v) tG kG ik le by_ tk bg en va tn b0 l0 u0 b1 l1 u1 b2 l2 u2 b3 l3 u3 (okT (isFig n f && setOK n w v) fS) cW) := congrArg (fun z => (VW cI cJ cO B (setG gG n f w v) tG kG ik le by_ tk bg en va tn b0 l0 u0 b1 l1 u1 b2 l2 u2 b3 l3 u3 z cW)) hE
    have hP : va_P D vwCl (VW cI cJ cO B (setG gG n f w v) tG kG ik le by_ tk bg en va tn b0 l0 u0 b1 l1 u1 b2 l2 u2 b3 l3 u3 (okT (isFig n f && setOK n w v) fS) cW) H := Eq.mp (congrArg (fun z => va_P D vwCl z H) hW) hP
    have hD : va_D _ (VW cI cJ cO B (setG gG n f w v) tG kG ik le by_ tk bg en va tn b0 l0 u0 b1 l1 u1 b2 l2 u2 b3 l3 u3 (okT (isFig n f && setOK n w v) fS) cW) := Eq.mp (congrArg (fun z => va_D _ z) hW) hD
    exact mu_iret (VW cI cJ cO B (setG gG n f w v) tG kG ik le by_ tk bg en va tn b0 l0 u0 b1 l1 u1 b2 l2 u2 b3 l3 u3 (okT (isFig n f && setOK n w v) fS) cW) hx hb hr hlk hP hS rfl (⟨congrArg (fun z => some (Value.int z)) (by simp [setR, setG, okT, bump, put9, b2i, c8, i_lt, -Int32.not_le, -Int32.not_lt]), rfl⟩) dX3_set_43
  · replace c8 := bn_0 c8
    obtain ⟨k, hk, rfl⟩ := fig_in hI.1 c8
    have h8 := hI.1
    have ek : cl (nI k) = k := cl_nI (by omega)
    refine lv_iload_n hx hb dX3_set_11 rfl (lv_at hl 2 rfl) ?_
    refine lv_iconst (v := 1) hx hb dX3_set_12 rfl ?_
    refine lv_bipush (v := 8) hx hb dX3_set_13 rfl ?_
    refine ro_S (w := []) (rest := []) S hK va_P0 (k_X3_isOutside w 1 8) gs_X3_47 hd_X3_isOutside ⟨Nat.le_of_ble_eq_true rfl, Nat.le_of_ble_eq_true rfl⟩ rfl hl.1 (lv_room (Nat.le_of_ble_eq_true rfl)) dX3_set_15 ⟨Nat.zero_le _, Nat.zero_le _⟩ ?_
    refine lv_if_ne (tgt := 37) hx hb dX3_set_18 rfl (fun c18 => ?_) (fun c18 => ?_)
    · replace c18 := bn_n0 c18
      have c34s : setOK n w v = false := set_no2 c18
      refine lv_aload_n hx hb dX3_set_37 rfl (lv_at hl 0 rfl) ?_
      refine lv_ldc (v := (-1000000001)) hx hb hown (hts _ wq_X3_51) dX3_set_38 ?_
      refine mu_W (w := (VW cI cJ cO B gG tG kG ik le by_ tk bg en va tn b0 l0 u0 b1 l1 u1 b2 l2 u2 b3 l3 u3 fS cW)) (rest := []) S hK hP hD hS (k_X3_finding 0 (-1000000001) (by decide) (by decide)) gv_X3_52 hd_X3_finding ⟨Nat.le_of_ble_eq_true rfl, Nat.le_of_ble_eq_true rfl⟩ 3 rfl rfl rfl rfl hl.1 (lv_room (Nat.le_of_ble_eq_true rfl)) dX3_set_40 ⟨Nat.zero_le _, Nat.zero_le _⟩ (fun ov w' H locs hp hP hD hS => ?_)
      obtain ⟨rfl, rfl⟩ := hp
      refine W.eq (g2 := F0 m 43 ls [.int (-1000000001)]) rfl ?_
      have hE : gG = setG gG n (nI k) w v := by simp [setR, setG, okT, bump, put9, b2i, c8, c18, ek, c34s, i_lt, -Int32.not_le, -Int32.not_lt]
      have hW : (VW cI cJ cO B gG tG kG ik le by_ tk bg en va tn b0 l0 u0 b1 l1 u1 b2 l2 u2 b3 l3 u3 (upd fS 0 (fS 0 + 1)) cW) = (VW cI cJ cO B (setG gG n (nI k) w v) tG kG ik le by_ tk bg en va tn b0 l0 u0 b1 l1 u1 b2 l2 u2 b3 l3 u3 (upd fS 0 (fS 0 + 1)) cW) := congrArg (fun z => (VW cI cJ cO B z tG kG ik le by_ tk bg en va tn b0 l0 u0 b1 l1 u1 b2 l2 u2 b3 l3 u3 (upd fS 0 (fS 0 + 1)) cW)) hE
      have hP : va_P D vwCl (VW cI cJ cO B (setG gG n (nI k) w v) tG kG ik le by_ tk bg en va tn b0 l0 u0 b1 l1 u1 b2 l2 u2 b3 l3 u3 (upd fS 0 (fS 0 + 1)) cW) H := Eq.mp (congrArg (fun z => va_P D vwCl z H) hW) hP
      have hD : va_D _ (VW cI cJ cO B (setG gG n (nI k) w v) tG kG ik le by_ tk bg en va tn b0 l0 u0 b1 l1 u1 b2 l2 u2 b3 l3 u3 (upd fS 0 (fS 0 + 1)) cW) := Eq.mp (congrArg (fun z => va_D _ z) hW) hD
      have hE : upd fS 0 (fS 0 + 1) = okT (isFig n (nI k) && setOK n w v) fS := by simp [setR, setG, okT, bump, put9, b2i, c8, c18, ek, c34s, i_lt, -Int32.not_le, -Int32.not_lt]
      have hW : (VW cI cJ cO B (setG gG n (nI k) w v) tG kG ik le by_ tk bg en va tn b0 l0 u0 b1 l1 u1 b2 l2 u2 b3 l3 u3 (upd fS 0 (fS 0 + 1)) cW) = (VW cI cJ cO B (setG gG n (nI k) w v) tG kG ik le by_ tk bg en va tn b0 l0 u0 b1 l1 u1 b2 l2 u2 b3 l3 u3 (okT (isFig n (nI k) && setOK n w v) fS) cW) := congrArg (fun z => (VW cI cJ cO B (setG gG n (nI k) w v) tG kG ik le by_ tk bg en va tn b0 l0 u0 b1 l1 u1 b2 l2 u2 b3 l3 u3 z cW)) hE
      have hP : va_P D vwCl (VW cI cJ cO B (setG gG n (nI k) w v) tG kG ik le by_ tk bg en va tn b0 l0 u0 b1 l1 u1 b2 l2 u2 b3 l3 u3 (okT (isFig n (nI k) && setOK n w v) fS) cW) H := Eq.mp (congrArg (fun z => va_P D vwCl z H) hW) hP
      have hD : va_D _ (VW cI cJ cO B (setG gG n (nI k) w v) tG kG ik le by_ tk bg en va tn b0 l0 u0 b1 l1 u1 b2 l2 u2 b3 l3 u3 (okT (isFig n (nI k) && setOK n w v) fS) cW) := Eq.mp (congrArg (fun z => va_D _ z) hW) hD
      exact mu_iret (VW cI cJ cO B (setG gG n (nI k) w v) tG kG ik le by_ tk bg en va tn b0 l0 u0 b1 l1 u1 b2 l2 u2 b3 l3 u3 (okT (isFig n (nI k) && setOK n w v) fS) cW) hx hb hr hlk hP hS rfl (⟨congrArg (fun z => some (Value.int z)) (by simp [setR, setG, okT, bump, put9, b2i, c8, c18, ek, c34s, i_lt, -Int32.not_le, -Int32.not_lt]), rfl⟩) dX3_set_43
    · replace c18 := bn_0 c18
      obtain ⟨j, hja, hjb, rfl⟩ := in_nat (a := 1) (b := 8) (by decide) c18 (by decide)
      have ej : cl (nI j) = j := cl_nI (by omega)
      refine lv_iload_n hx hb dX3_set_21 rfl (lv_at hl 3 rfl) ?_
      refine lv_iload_n hx hb dX3_set_22 rfl (lv_at hl 2 rfl) ?_
      refine ro_S (w := []) (rest := [.int v]) S hK va_P0 (k_X3_least (nI j)) gs_X3_111 hd_X3_least ⟨Nat.le_of_ble_eq_true rfl, Nat.le_of_ble_eq_true rfl⟩ rfl hl.1 (lv_room (Nat.le_of_ble_eq_true rfl)) dX3_set_23 ⟨Nat.zero_le _, Nat.zero_le _⟩ ?_
      refine lv_aload_n hx hb dX3_set_26 rfl (lv_at hl 0 rfl) ?_
      refine lv_iload_n hx hb dX3_set_27 rfl (lv_at hl 2 rfl) ?_
      refine ro_V (w := (VW cI cJ cO B gG tG kG ik le by_ tk bg en va tn b0 l0 u0 b1 l1 u1 b2 l2 u2 b3 l3 u3 fS cW)) (rest := [.int (leastS (nI j)), .int v]) S hK hP (k_X3_greatest n (nI j) hI) gv_X3_114 hd_X3_greatest ⟨Nat.le_of_ble_eq_true rfl, Nat.le_of_ble_eq_true rfl⟩ 3 rfl rfl rfl rfl hl.1 (lv_room (Nat.le_of_ble_eq_true rfl)) dX3_set_28 ⟨Nat.zero_le _, Nat.zero_le _⟩ ?_
      refine ro_S (w := []) (rest := []) S hK va_P0 (k_X3_isOutside v (leastS (nI j)) (greatS n (nI j))) gs_X3_47 hd_X3_isOutside ⟨Nat.le_of_ble_eq_true rfl, Nat.le_of_ble_eq_true rfl⟩ rfl hl.1 (lv_room (Nat.le_of_ble_eq_true rfl)) dX3_set_31 ⟨Nat.zero_le _, Nat.zero_le _⟩ ?_
      refine lv_if_eq (tgt := 44) hx hb dX3_set_34 rfl (fun c34 => ?_) (fun c34 => ?_)
      · replace c34 := bn_0 c34
        have c34s : setOK n (nI j) v = true := set_ok hI.1 hja hjb c34
        refine lv_aload_n hx hb dX3_set_44 rfl (lv_at hl 0 rfl) ?_
        refine va_get (ci := 3) (v := .ref (B 1)) hx hb hts wx_X3 hown hK hP 0 rfl rfl 0 (by decide) (hts _ wf_X3_10) (fun _ h9 => h9) rfl dX3_set_45 ?_
        refine lv_iload_n hx hb dX3_set_48 rfl (lv_at hl 1 rfl) ?_
        refine lv_iload_n hx hb dX3_set_49 rfl (lv_at hl 2 rfl) ?_
        refine ro_V (w := (GW cI (B 1) (B 2) (gG 0) (gG 2) (gG 1) (tl gG))) (rest := []) S hK (hP.sub [1, 2] rfl) (k_X0_getN k j (by omega) (by omega)) gv_X3_108 hd_X0_get ⟨Nat.le_of_ble_eq_true rfl, Nat.le_of_ble_eq_true rfl⟩ 0 rfl rfl rfl rfl hl.1 (lv_room (Nat.le_of_ble_eq_true rfl)) dX3_set_50 ⟨Nat.zero_le _, Nat.zero_le _⟩ ?_
        refine lv_istore (lv' := [(4, .int (its gG k j)), (0, .ref (B 0)), (1, .int (nI k)), (2, .int (nI j)), (3, .int v)]) hx hb dX3_set_53 hl (by decide) rfl (fun ls hl => ?_)
        refine lv_aload_n hx hb dX3_set_55 rfl (lv_at hl 1 rfl) ?_
        refine va_get (ci := 3) (v := .ref (B 1)) hx hb hts wx_X3 hown hK hP 0 rfl rfl 0 (by decide) (hts _ wf_X3_10) (fun _ h9 => h9) rfl dX3_set_56 ?_
        refine lv_iload_n hx hb dX3_set_59 rfl (lv_at hl 2 rfl) ?_
        refine lv_iload_n hx hb dX3_set_60 rfl (lv_at hl 3 rfl) ?_
        refine lv_iload_n hx hb dX3_set_61 rfl (lv_at hl 4 rfl) ?_
        refine mu_V (w := (GW cI (B 1) (B 2) (gG 0) (gG 2) (gG 1) (tl gG))) (rest := []) S hK hP hD hS (k_X0_put k j v (by omega) (by omega)) gv_X3_117 hd_X0_put ⟨Nat.le_of_ble_eq_true rfl, Nat.le_of_ble_eq_true rfl⟩ [1, 2] rfl rfl 0 rfl rfl rfl rfl hl.1 (lv_room (Nat.le_of_ble_eq_true rfl)) dX3_set_62 ⟨Nat.zero_le _, Nat.zero_le _⟩ (fun ov w' H locs hp hP hD hS => ?_)
        obtain ⟨rfl, rfl⟩ := hp
        have hP : va_P D vwCl (VW cI cJ cO B (put9 gG k j v) tG kG ik le by_ tk bg en va tn b0 l0 u0 b1 l1 u1 b2 l2 u2 b3 l3 u3 fS cW) H := hP
        have hD : va_D _ (VW cI cJ cO B (put9 gG k j v) tG kG ik le by_ tk bg en va tn b0 l0 u0 b1 l1 u1 b2 l2 u2 b3 l3 u3 fS cW) := hD
        refine W.eq (g2 := F0 m 65 ls []) rfl ?_
        refine lv_iload hx hb dX3_set_65 (lv_at hl 0 rfl) ?_
        have hE : put9 gG k j v = setG gG n (nI k) (nI j) v := by simp [setR, setG, okT, bump, put9, b2i, c8, ek, ej, c34s, i_lt, -Int32.not_le, -Int32.not_lt]
        have hW : (VW cI cJ cO B (put9 gG k j v) tG kG ik le by_ tk bg en va tn b0 l0 u0 b1 l1 u1 b2 l2 u2 b3 l3 u3 fS cW) = (VW cI cJ cO B (setG gG n (nI k) (nI j) v) tG kG ik le by_ tk bg en va tn b0 l0 u0 b1 l1 u1 b2 l2 u2 b3 l3 u3 fS cW) := congrArg (fun z => (VW cI cJ cO B z tG kG ik le by_ tk bg en va tn b0 l0 u0 b1 l1 u1 b2 l2 u2 b3 l3 u3 fS cW)) hE
        have hP : va_P D vwCl (VW cI cJ cO B (setG gG n (nI k) (nI j) v) tG kG ik le by_ tk bg en va tn b0 l0 u0 b1 l1 u1 b2 l2 u2 b3 l3 u3 fS cW) H := Eq.mp (congrArg (fun z => va_P D vwCl z H) hW) hP
        have hD : va_D _ (VW cI cJ cO B (setG gG n (nI k) (nI j) v) tG kG ik le by_ tk bg en va tn b0 l0 u0 b1 l1 u1 b2 l2 u2 b3 l3 u3 fS cW) := Eq.mp (congrArg (fun z => va_D _ z) hW) hD
        have hE : fS = okT (isFig n (nI k) && setOK n (nI j) v) fS := by simp [setR, setG, okT, bump, put9, b2i, c8, ek, ej, c34s, i_lt, -Int32.not_le, -Int32.not_lt]
        have hW : (VW cI cJ cO B (setG gG n (nI k) (nI j) v) tG kG ik le by_ tk bg en va tn b0 l0 u0 b1 l1 u1 b2 l2 u2 b3 l3 u3 fS cW) = (VW cI cJ cO B (setG gG n (nI k) (nI j) v) tG kG ik le by_ tk bg en va tn b0 l0 u0 b1 l1 u1 b2 l2 u2 b3 l3 u3 (okT (isFig n (nI k) && setOK n (nI j) v) fS) cW) := congrArg (fun z => (VW cI cJ cO B (setG gG n (nI k) (nI j) v) tG kG ik le by_ tk bg en va tn b0 l0 u0 b1 l1 u1 b2 l2 u2 b3 l3 u3 z cW)) hE
        have hP : va_P D vwCl (VW cI cJ cO B (setG gG n (nI k) (nI j) v) tG kG ik le by_ tk bg en va tn b0 l0 u0 b1 l1 u1 b2 l2 u2 b3 l3 u3 (okT (isFig n (nI k) && setOK n (nI j) v) fS) cW) H := Eq.mp (congrArg (fun z => va_P D vwCl z H) hW) hP
        have hD : va_D _ (VW cI cJ cO B (setG gG n (nI k) (nI j) v) tG kG ik le by_ tk bg en va tn b0 l0 u0 b1 l1 u1 b2 l2 u2 b3 l3 u3 (okT (isFig n (nI k) && setOK n (nI j) v) fS) cW) := Eq.mp (congrArg (fun z => va_D _ z) hW) hD
        exact mu_iret (VW cI cJ cO B (setG gG n (nI k) (nI j) v) tG kG ik le by_ tk bg en va tn b0 l0 u0 b1 l1 u1 b2 l2 u2 b3 l3 u3 (okT (isFig n (nI k) && setOK n (nI j) v) fS) cW) hx hb hr hlk hP hS rfl (⟨congrArg (fun z => some (Value.int z)) (by simp [setR, setG, okT, bump, put9, b2i, c8, ek, ej, c34s, i_lt, -Int32.not_le, -Int32.not_lt]), rfl⟩) dX3_set_67
      · replace c34 := bn_n0 c34
        have c34s : setOK n (nI j) v = false := set_no hI.1 hja hjb c34
        refine lv_aload_n hx hb dX3_set_37 rfl (lv_at hl 0 rfl) ?_
        refine lv_ldc (v := (-1000000001)) hx hb hown (hts _ wq_X3_51) dX3_set_38 ?_
        refine mu_W (w := (VW cI cJ cO B gG tG kG ik le by_ tk bg en va tn b0 l0 u0 b1 l1 u1 b2 l2 u2 b3 l3 u3 fS cW)) (rest := []) S hK hP hD hS (k_X3_finding 0 (-1000000001) (by decide) (by decide)) gv_X3_52 hd_X3_finding ⟨Nat.le_of_ble_eq_true rfl, Nat.le_of_ble_eq_true rfl⟩ 3 rfl rfl rfl rfl hl.1 (lv_room (Nat.le_of_ble_eq_true rfl)) dX3_set_40 ⟨Nat.zero_le _, Nat.zero_le _⟩ (fun ov w' H locs hp hP hD hS => ?_)
        obtain ⟨rfl, rfl⟩ := hp
        refine W.eq (g2 := F0 m 43 ls [.int (-1000000001)]) rfl ?_
        have hE : gG = setG gG n (nI k) (nI j) v := by simp [setR, setG, okT, bump, put9, b2i, c8, ek, ej, c34s, i_lt, -Int32.not_le, -Int32.not_lt]
        have hW : (VW cI cJ cO B gG tG kG ik le by_ tk bg en va tn b0 l0 u0 b1 l1 u1 b2 l2 u2 b3 l3 u3 (upd fS 0 (fS 0 + 1)) cW) = (VW cI cJ cO B (setG gG n (nI k) (nI j) v) tG kG ik le by_ tk bg en va tn b0 l0 u0 b1 l1 u1 b2 l2 u2 b3 l3 u3 (upd fS 0 (fS 0 + 1)) cW) := congrArg (fun z => (VW cI cJ cO B z tG kG ik le by_ tk bg en va tn b0 l0 u0 b1 l1 u1 b2 l2 u2 b3 l3 u3 (upd fS 0 (fS 0 + 1)) cW)) hE
        have hP : va_P D vwCl (VW cI cJ cO B (setG gG n (nI k) (nI j) v) tG kG ik le by_ tk bg en va tn b0 l0 u0 b1 l1 u1 b2 l2 u2 b3 l3 u3 (upd fS 0 (fS 0 + 1)) cW) H := Eq.mp (congrArg (fun z => va_P D vwCl z H) hW) hP
        have hD : va_D _ (VW cI cJ cO B (setG gG n (nI k) (nI j) v) tG kG ik le by_ tk bg en va tn b0 l0 u0 b1 l1 u1 b2 l2 u2 b3 l3 u3 (upd fS 0 (fS 0 + 1)) cW) := Eq.mp (congrArg (fun z => va_D _ z) hW) hD
        have hE : upd fS 0 (fS 0 + 1) = okT (isFig n (nI k) && setOK n (nI j) v) fS := by simp [setR, setG, okT, bump, put9, b2i, c8, ek, ej, c34s, i_lt, -Int32.not_le, -Int32.not_lt]
        have hW : (VW cI cJ cO B (setG gG n (nI k) (nI j) v) tG kG ik le by_ tk bg en va tn b0 l0 u0 b1 l1 u1 b2 l2 u2 b3 l3 u3 (upd fS 0 (fS 0 + 1)) cW) = (VW cI cJ cO B (setG gG n (nI k) (nI j) v) tG kG ik le by_ tk bg en va tn b0 l0 u0 b1 l1 u1 b2 l2 u2 b3 l3 u3 (okT (isFig n (nI k) && setOK n (nI j) v) fS) cW) := congrArg (fun z => (VW cI cJ cO B (setG gG n (nI k) (nI j) v) tG kG ik le by_ tk bg en va tn b0 l0 u0 b1 l1 u1 b2 l2 u2 b3 l3 u3 z cW)) hE
        have hP : va_P D vwCl (VW cI cJ cO B (setG gG n (nI k) (nI j) v) tG kG ik le by_ tk bg en va tn b0 l0 u0 b1 l1 u1 b2 l2 u2 b3 l3 u3 (okT (isFig n (nI k) && setOK n (nI j) v) fS) cW) H := Eq.mp (congrArg (fun z => va_P D vwCl z H) hW) hP
        have hD : va_D _ (VW cI cJ cO B (setG gG n (nI k) (nI j) v) tG kG ik le by_ tk bg en va tn b0 l0 u0 b1 l1 u1 b2 l2 u2 b3 l3 u3 (okT (isFig n (nI k) && setOK n (nI j) v) fS) cW) := Eq.mp (congrArg (fun z => va_D _ z) hW) hD
        exact mu_iret (VW cI cJ cO B (setG gG n (nI k) (nI j) v) tG kG ik le by_ tk bg en va tn b0 l0 u0 b1 l1 u1 b2 l2 u2 b3 l3 u3 (okT (isFig n (nI k) && setOK n (nI j) v) fS) cW) hx hb hr hlk hP hS rfl (⟨congrArg (fun z => some (Value.int z)) (by simp [setR, setG, okT, bump, put9, b2i, c8, ek, ej, c34s, i_lt, -Int32.not_le, -Int32.not_lt]), rfl⟩) dX3_set_43

set_option maxHeartbeats 4000000 in
set_option maxRecDepth 100000 in
theorem k_X3_status (w : Int32) : MU l D (tyA cI cJ cO) yX3_status cX3_status 4 ((some .int)) 1 22 [.ref (B 0), .int w] (VW cI cJ cO B gG tG kG ik le by_ tk bg en va tn b0 l0 u0 b1 l1 u1 b2 l2 u2 b3 l3 u3 fS cW) (fun ov w' => ov = some (.int (statR fS w)) ∧ w' = (VW cI cJ cO B gG tG kG ik le by_ tk bg en va tn b0 l0 u0 b1 l1 u1 b2 l2 u2 b3 l3 u3 (okT (inI w (-1) 6) fS) cW)) := by
  refine MU.mk (by decide) (Nat.le_of_ble_eq_true rfl) ?_
  intro p e s m below meth c ls S hr hlk hP hK hD hS hl
  have S : CallFix p m c cX3_status 4 s _ WL RX3 := S
  obtain ⟨hx, hb, hml, hown, hts⟩ := id S
  have hl : lv_has ls 4 [(0, .ref (B 0)), (1, .int w)] := hl
  refine lv_iload_n hx hb dX3_status_0 rfl (lv_at hl 1 rfl) ?_
  refine lv_iconst (v := (-1)) hx hb dX3_status_1 rfl ?_
  refine lv_bipush (v := 6) hx hb dX3_status_2 rfl ?_
  refine ro_S (w := []) (rest := []) S hK va_P0 (k_X3_isOutside w (-1) 6) gs_X3_47 hd_X3_isOutside ⟨Nat.le_of_ble_eq_true rfl, Nat.le_of_ble_eq_true rfl⟩ rfl hl.1 (lv_room (Nat.le_of_ble_eq_true rfl)) dX3_status_4 ⟨Nat.zero_le _, Nat.zero_le _⟩ ?_
  refine lv_if_eq (tgt := 17) hx hb dX3_status_7 rfl (fun c7 => ?_) (fun c7 => ?_)
  · replace c7 := bn_0 c7
    refine lv_iload_n hx hb dX3_status_17 rfl (lv_at hl 1 rfl) ?_
    refine lv_if_lt (tgt := 28) hx hb dX3_status_18 rfl (fun c18 => ?_) (fun c18 => ?_)
    · replace c18 := Int32.not_le.mpr c18
      have hw0 : w < 0 := Int32.not_le.mp c18
      refine lv_iconst (v := 0) hx hb dX3_status_28 rfl ?_
      refine lv_istore_n (lv' := [(2, .int 0), (0, .ref (B 0)), (1, .int w)]) hx hb dX3_status_29 rfl hl (by decide) rfl (fun ls hl => ?_)
      refine lv_iconst (v := 0) hx hb dX3_status_30 rfl ?_
      refine lv_istore_n (lv' := [(3, .int 0), (2, .int 0), (0, .ref (B 0)), (1, .int w)]) hx hb dX3_status_31 rfl hl (by decide) rfl (fun ls hl => ?_)
      refine w_loopH (pc := 32) (st := fun (i : Nat) => []) (μ := fun (i : Nat) => 7 - i) (I := fun (i : Nat) H locs ls => (i ≤ 7) ∧ va_P D vwCl (VW cI cJ cO B gG tG kG ik le by_ tk bg en va tn b0 l0 u0 b1 l1 u1 b2 l2 u2 b3 l3 u3 fS cW) H ∧ va_D (fun z9 => z9 ∈ ((VW cI cJ cO B gG tG kG ik le by_ tk bg en va tn b0 l0 u0 b1 l1 u1 b2 l2 u2 b3 l3 u3 fS cW)).map (fun z8 => z8.1)) (VW cI cJ cO B gG tG kG ik le by_ tk bg en va tn b0 l0 u0 b1 l1 u1 b2 l2 u2 b3 l3 u3 fS cW) ∧ va_S (fun z9 => z9 ∈ ((VW cI cJ cO B gG tG kG ik le by_ tk bg en va tn b0 l0 u0 b1 l1 u1 b2 l2 u2 b3 l3 u3 fS cW)).map (fun z8 => z8.1)) s.heap H locs ∧ lv_has ls 4 [(0, .ref (B 0)), (1, .int w), (2, .int (sumF (statP fS w) i)), (3, .int (nI i))]) ?_ (0) ⟨Nat.zero_le _, hP, hD, hS, lv_sub hl [2, 3, 1, 0] rfl⟩
      rintro i H locs ls ⟨hi, hP, hD, hS, hl⟩ ih32
      try dsimp only at ih32 ⊢
      refine lv_iload_n hx hb dX3_status_32 rfl (lv_at hl 3 rfl) ?_
      refine lv_bipush (v := 7) hx hb dX3_status_33 rfl ?_
      refine lv_icmp_ge (tgt := 53) hx hb dX3_status_35 rfl (fun c35 => ?_) (fun c35 => ?_)
      · replace c35 := nq_le (a := 7) (b := i) (by omega) (by omega) c35
        obtain rfl : i = 7 := by omega
        refine lv_iload_n hx hb dX3_status_53 rfl (lv_at hl 2 rfl) ?_
        have hE : fS = okT (inI w (-1) 6) fS := by simp [statR, okT, bump, put9, b2i, c7, c18, c35, i_lt, -Int32.not_le, -Int32.not_lt]
        have hW : (VW cI cJ cO B gG tG kG ik le by_ tk bg en va tn b0 l0 u0 b1 l1 u1 b2 l2 u2 b3 l3 u3 fS cW) = (VW cI cJ cO B gG tG kG ik le by_ tk bg en va tn b0 l0 u0 b1 l1 u1 b2 l2 u2 b3 l3 u3 (okT (inI w (-1) 6) fS) cW) := congrArg (fun z => (VW cI cJ cO B gG tG kG ik le by_ tk bg en va tn b0 l0 u0 b1 l1 u1 b2 l2 u2 b3 l3 u3 z cW)) hE
        have hP : va_P D vwCl (VW cI cJ cO B gG tG kG ik le by_ tk bg en va tn b0 l0 u0 b1 l1 u1 b2 l2 u2 b3 l3 u3 (okT (inI w (-1) 6) fS) cW) H := Eq.mp (congrArg (fun z => va_P D vwCl z H) hW) hP
        have hD : va_D _ (VW cI cJ cO B gG tG kG ik le by_ tk bg en va tn b0 l0 u0 b1 l1 u1 b2 l2 u2 b3 l3 u3 (okT (inI w (-1) 6) fS) cW) := Eq.mp (congrArg (fun z => va_D _ z) hW) hD
        exact mu_iret (VW cI cJ cO B gG tG kG ik le by_ tk bg en va tn b0 l0 u0 b1 l1 u1 b2 l2 u2 b3 l3 u3 (okT (inI w (-1) 6) fS) cW) hx hb hr hlk hP hS rfl (⟨congrArg (fun z => some (Value.int z)) (by simp [statR, okT, bump, put9, b2i, c7, c18, c35, i_lt, -Int32.not_le, -Int32.not_lt]), rfl⟩) dX3_status_54
      · replace c35 := nq_nle (a := 7) (b := i) (by omega) (by omega) c35
        refine lv_iload_n hx hb dX3_status_38 rfl (lv_at hl 2 rfl) ?_
        refine lv_aload_n hx hb dX3_status_39 rfl (lv_at hl 0 rfl) ?_
        refine va_get (ci := 3) (v := .ref (B 18)) hx hb hts wx_X3 hown hK hP 0 rfl rfl 6 (by decide) (hts _ wf_X3_40) (fun _ h9 => h9) rfl dX3_status_40 ?_
        refine lv_iload_n hx hb dX3_status_43 rfl (lv_at hl 3 rfl) ?_
        refine ia_ld hx hb hK hP 18 0 rfl rfl i (rfl) (by omega) (by decide) dX3_status_44 ?_
        refine lv_iadd hx hb dX3_status_45 ?_
        refine w_i (z := sumF (statP fS w) (i + 1)) (by simp [sumF, statP, hw0]) ?_
        refine lv_istore_n (lv' := [(2, .int (sumF (statP fS w) (i + 1))), (0, .ref (B 0)), (1, .int w), (3, .int (nI i))]) hx hb dX3_status_46 rfl hl (by decide) rfl (fun ls hl => ?_)
        refine lv_iinc (v := nI (i + 1)) (lv' := [(3, .int (nI (i + 1))), (2, .int (sumF (statP fS w) (i + 1))), (0, .ref (B 0)), (1, .int w)]) hx hb dX3_status_47 hl (k := 3) rfl (nI_inc _) (by decide) rfl (fun ls hl => ?_)
        refine lv_goto (tgt := 32) hx hb dX3_status_50 rfl ?_
        exact ih32 (i + 1) _ _ ls (by first | omega | (dsimp only; omega)) ⟨(by omega), hP, hD, hS, lv_sub hl [2, 3, 1, 0] rfl⟩
    · replace c18 := Int32.not_lt.mp c18
      obtain ⟨j, hj, rfl⟩ := st_in c7 c18
      have hst := stat_j fS hj
      refine lv_aload_n hx hb dX3_status_21 rfl (lv_at hl 0 rfl) ?_
      refine va_get (ci := 3) (v := .ref (B 18)) hx hb hts wx_X3 hown hK hP 0 rfl rfl 6 (by decide) (hts _ wf_X3_40) (fun _ h9 => h9) rfl dX3_status_22 ?_
      refine lv_iload_n hx hb dX3_status_25 rfl (lv_at hl 1 rfl) ?_
      refine ia_ld hx hb hK hP 18 0 rfl rfl j (rfl) (by omega) (by decide) dX3_status_26 ?_
      have hE : fS = okT (inI (nI j) (-1) 6) fS := by simp [statR, okT, bump, put9, b2i, c7, c18, hst, i_lt, -Int32.not_le, -Int32.not_lt]
      have hW : (VW cI cJ cO B gG tG kG ik le by_ tk bg en va tn b0 l0 u0 b1 l1 u1 b2 l2 u2 b3 l3 u3 fS cW) = (VW cI cJ cO B gG tG kG ik le by_ tk bg en va tn b0 l0 u0 b1 l1 u1 b2 l2 u2 b3 l3 u3 (okT (inI (nI j) (-1) 6) fS) cW) := congrArg (fun z => (VW cI cJ cO B gG tG kG ik le by_ tk bg en va tn b0 l0 u0 b1 l1 u1 b2 l2 u2 b3 l3 u3 z cW)) hE
      have hP : va_P D vwCl (VW cI cJ cO B gG tG kG ik le by_ tk bg en va tn b0 l0 u0 b1 l1 u1 b2 l2 u2 b3 l3 u3 (okT (inI (nI j) (-1) 6) fS) cW) s.heap := Eq.mp (congrArg (fun z => va_P D vwCl z s.heap) hW) hP
      have hD : va_D _ (VW cI cJ cO B gG tG kG ik le by_ tk bg en va tn b0 l0 u0 b1 l1 u1 b2 l2 u2 b3 l3 u3 (okT (inI (nI j) (-1) 6) fS) cW) := Eq.mp (congrArg (fun z => va_D _ z) hW) hD
      exact mu_iret (VW cI cJ cO B gG tG kG ik le by_ tk bg en va tn b0 l0 u0 b1 l1 u1 b2 l2 u2 b3 l3 u3 (okT (inI (nI j) (-1) 6) fS) cW) hx hb hr hlk hP hS rfl (⟨congrArg (fun z => some (Value.int z)) (by simp [statR, okT, bump, put9, b2i, c7, c18, hst, i_lt, -Int32.not_le, -Int32.not_lt]), rfl⟩) dX3_status_27
  · replace c7 := bn_n0 c7
    refine lv_aload_n hx hb dX3_status_10 rfl (lv_at hl 0 rfl) ?_
    refine lv_ldc (v := (-1000000001)) hx hb hown (hts _ wq_X3_51) dX3_status_11 ?_
    refine mu_W (w := (VW cI cJ cO B gG tG kG ik le by_ tk bg en va tn b0 l0 u0 b1 l1 u1 b2 l2 u2 b3 l3 u3 fS cW)) (rest := []) S hK hP hD hS (k_X3_finding 0 (-1000000001) (by decide) (by decide)) gv_X3_52 hd_X3_finding ⟨Nat.le_of_ble_eq_true rfl, Nat.le_of_ble_eq_true rfl⟩ 3 rfl rfl rfl rfl hl.1 (lv_room (Nat.le_of_ble_eq_true rfl)) dX3_status_13 ⟨Nat.zero_le _, Nat.zero_le _⟩ (fun ov w' H locs hp hP hD hS => ?_)
    obtain ⟨rfl, rfl⟩ := hp
    refine W.eq (g2 := F0 m 16 ls [.int (-1000000001)]) rfl ?_
    have hE : upd fS 0 (fS 0 + 1) = okT (inI w (-1) 6) fS := by simp [statR, okT, bump, put9, b2i, c7, i_lt, -Int32.not_le, -Int32.not_lt]
    have hW : (VW cI cJ cO B gG tG kG ik le by_ tk bg en va tn b0 l0 u0 b1 l1 u1 b2 l2 u2 b3 l3 u3 (upd fS 0 (fS 0 + 1)) cW) = (VW cI cJ cO B gG tG kG ik le by_ tk bg en va tn b0 l0 u0 b1 l1 u1 b2 l2 u2 b3 l3 u3 (okT (inI w (-1) 6) fS) cW) := congrArg (fun z => (VW cI cJ cO B gG tG kG ik le by_ tk bg en va tn b0 l0 u0 b1 l1 u1 b2 l2 u2 b3 l3 u3 z cW)) hE
    have hP : va_P D vwCl (VW cI cJ cO B gG tG kG ik le by_ tk bg en va tn b0 l0 u0 b1 l1 u1 b2 l2 u2 b3 l3 u3 (okT (inI w (-1) 6) fS) cW) H := Eq.mp (congrArg (fun z => va_P D vwCl z H) hW) hP
    have hD : va_D _ (VW cI cJ cO B gG tG kG ik le by_ tk bg en va tn b0 l0 u0 b1 l1 u1 b2 l2 u2 b3 l3 u3 (okT (inI w (-1) 6) fS) cW) := Eq.mp (congrArg (fun z => va_D _ z) hW) hD
    exact mu_iret (VW cI cJ cO B gG tG kG ik le by_ tk bg en va tn b0 l0 u0 b1 l1 u1 b2 l2 u2 b3 l3 u3 (okT (inI w (-1) 6) fS) cW) hx hb hr hlk hP hS rfl (⟨congrArg (fun z => some (Value.int z)) (by simp [statR, okT, bump, put9, b2i, c7, i_lt, -Int32.not_le, -Int32.not_lt]), rfl⟩) dX3_status_16

end
