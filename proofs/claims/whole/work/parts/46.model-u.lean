section
variable {l : Launch} {D : va_G} {cI cJ cO : ClassId} {A : Nat → Nat} {sS kS oS aS tS : Nat → Int32} {ik : Int32} {cA tp : Nat → Int32} {td fm tt vl wr : Int32} {bO sO : Nat → Int32} {nU mV : Nat → Int64}

set_option maxHeartbeats 4000000 in
set_option maxRecDepth 100000 in
theorem k_X4_figureItem (n : Nat) (d : Nat) (f : Nat) (k : Int32) (hI : Inv sS n) (hd : d ≤ 120) (hf : f ≤ d) : MU l D (tyA cI cJ cO) yX4_figureItem cX4_figureItem 4 none 5 113 [.ref (A 0), .int k] (MW cI cJ A sS kS oS aS tS ik cA tp (nI d) (nI f) (nI (tkE tp d f)) vl 0 bO sO nU mV) (fun ov w' => ∃ (s9 : Nat → Int32) (f9 t9 v9 w9 : Int32), ov = none ∧ itR tp d (figI tp d sS n f k) s9 f9 t9 w9 ∧ w' = (MW cI cJ A s9 kS oS aS tS ik cA tp (nI d) f9 t9 v9 w9 bO sO nU mV)) := by
  refine MU.mk (by decide) (Nat.le_of_ble_eq_true rfl) ?_
  intro p e s m below meth c ls S hr hlk hP hK hD hS hl
  have S : CallFix p m c cX4_figureItem 4 s _ WL RX4 := S
  obtain ⟨hx, hb, hml, hown, hts⟩ := id S
  have hl : lv_has ls 4 [(0, .ref (A 0)), (1, .int k)] := hl
  have h8 : n ≤ 8 := hI.1
  refine lv_aload_n hx hb dX4_figureItem_0 rfl (lv_at hl 0 rfl) ?_
  refine lv_aload_n hx hb dX4_figureItem_1 rfl (lv_at hl 0 rfl) ?_
  refine va_get (ci := 4) (v := .ref (A 1)) hx hb hts wx_X4 hown hK hP 0 rfl rfl 0 (by decide) (hts _ wf_X4_7) (fun _ h9 => h9) rfl dX4_figureItem_2 ?_
  refine lv_iconst (v := 1) hx hb dX4_figureItem_5 rfl ?_
  refine ia_ld hx hb hK hP 1 0 rfl rfl 1 (rfl) (by omega) (by decide) dX4_figureItem_6 ?_
  refine w_i (z := nI n) (hI.2.1) ?_
  refine lv_bipush (v := 8) hx hb dX4_figureItem_7 rfl ?_
  refine lv_icmp_ge (tgt := 16) hx hb dX4_figureItem_9 rfl (fun c9 => ?_) (fun c9 => ?_)
  · replace c9 := nq_le (a := 8) (b := n) (by omega) (by omega) c9
    have h8n : ¬ n < 8 := by omega
    refine lv_iconst (v := 0) hx hb dX4_figureItem_16 rfl ?_
    refine mu_W (w := (MW cI cJ A sS kS oS aS tS ik cA tp (nI d) (nI f) (nI (tkE tp d f)) vl 0 bO sO nU mV)) (rest := []) S hK hP hD hS (k_X4_must_f d f hd (hf)) gv_X4_248 hd_X4_must ⟨Nat.le_of_ble_eq_true rfl, Nat.le_of_ble_eq_true rfl⟩ 4 rfl rfl rfl rfl hl.1 (lv_room (Nat.le_of_ble_eq_true rfl)) dX4_figureItem_17 ⟨Nat.zero_le _, Nat.zero_le _⟩ (fun ov w' H locs hp hP hD hS => ?_)
    obtain ⟨rfl, rfl⟩ := hp
    refine W.eq (g2 := F0 m 20 ls []) rfl ?_
    refine lv_aload_n hx hb dX4_figureItem_20 rfl (lv_at hl 0 rfl) ?_
    refine lv_iconst (v := 0) hx hb dX4_figureItem_21 rfl ?_
    refine lv_iconst (v := 3) hx hb dX4_figureItem_22 rfl ?_
    refine mu_W (w := (MW cI cJ A sS kS oS aS tS ik cA tp (nI d) (nI f) (nI (tkE tp d f)) vl 1 bO sO nU mV)) (rest := []) S hK hP hD hS (k_X4_number_w 0 3) gv_X4_278 hd_X4_number ⟨Nat.le_of_ble_eq_true rfl, Nat.le_of_ble_eq_true rfl⟩ 4 rfl rfl rfl rfl hl.1 (lv_room (Nat.le_of_ble_eq_true rfl)) dX4_figureItem_23 ⟨Nat.zero_le _, Nat.zero_le _⟩ (fun ov w' H locs hp hP hD hS => ?_)
    obtain ⟨rfl, rfl⟩ := hp
    refine W.eq (g2 := F0 m 26 ls []) rfl ?_
    refine lv_aload_n hx hb dX4_figureItem_26 rfl (lv_at hl 0 rfl) ?_
    refine va_get (ci := 4) (v := .int vl) hx hb hts wx_X4 hown hK hP 0 rfl rfl 11 (by decide) (hts _ wf_X4_245) (fun _ h9 => h9) rfl dX4_figureItem_27 ?_
    refine lv_istore_n (lv' := [(2, .int vl), (0, .ref (A 0)), (1, .int k)]) hx hb dX4_figureItem_30 rfl hl (by decide) rfl (fun ls hl => ?_)
    refine lv_aload_n hx hb dX4_figureItem_31 rfl (lv_at hl 1 rfl) ?_
    refine lv_iconst (v := 0) hx hb dX4_figureItem_32 rfl ?_
    refine lv_bipush (v := 19) hx hb dX4_figureItem_33 rfl ?_
    refine mu_W (w := (MW cI cJ A sS kS oS aS tS ik cA tp (nI d) (nI f) (nI (tkE tp d f)) vl 1 bO sO nU mV)) (rest := []) S hK hP hD hS (k_X4_number_w 0 19) gv_X4_278 hd_X4_number ⟨Nat.le_of_ble_eq_true rfl, Nat.le_of_ble_eq_true rfl⟩ 4 rfl rfl rfl rfl hl.1 (lv_room (Nat.le_of_ble_eq_true rfl)) dX4_figureItem_35 ⟨Nat.zero_le _, Nat.zero_le _⟩ (fun ov w' H locs hp hP hD hS => ?_)
    obtain ⟨rfl, rfl⟩ := hp
    refine W.eq (g2 := F0 m 38 ls []) rfl ?_
    refine lv_aload_n hx hb dX4_figureItem_38 rfl (lv_at hl 1 rfl) ?_
    refine va_get (ci := 4) (v := .int 1) hx hb hts wx_X4 hown hK hP 0 rfl rfl 12 (by decide) (hts _ wf_X4_234) (fun _ h9 => h9) rfl dX4_figureItem_39 ?_
    refine lv_if_eq (tgt := 46) hx hb dX4_figureItem_42 rfl (fun c42 => ?_) (fun c42 => ?_)
    · exact absurd c42 (by decide)
    · exact mu_vret (MW cI cJ A sS kS oS aS tS ik cA tp (nI d) (nI f) (nI (tkE tp d f)) vl 1 bO sO nU mV) hx hb hr hlk hP hS rfl (⟨sS, (nI f), (nI (tkE tp d f)), vl, 1, rfl, by simp [itR, figI, litI, c42, h8n, put9], rfl⟩) dX4_figureItem_45
  · replace c9 := nq_nle (a := 8) (b := n) (by omega) (by omega) c9
    have h8n : n < 8 := by omega
    refine lv_iconst (v := 1) hx hb dX4_figureItem_12 rfl ?_
    refine lv_goto (tgt := 17) hx hb dX4_figureItem_13 rfl ?_
    refine mu_W (w := (MW cI cJ A sS kS oS aS tS ik cA tp (nI d) (nI f) (nI (tkE tp d f)) vl 0 bO sO nU mV)) (rest := []) S hK hP hD hS (k_X4_must_t d f hd (hf)) gv_X4_248 hd_X4_must ⟨Nat.le_of_ble_eq_true rfl, Nat.le_of_ble_eq_true rfl⟩ 4 rfl rfl rfl rfl hl.1 (lv_room (Nat.le_of_ble_eq_true rfl)) dX4_figureItem_17 ⟨Nat.zero_le _, Nat.zero_le _⟩ (fun ov w' H locs hp hP hD hS => ?_)
    obtain ⟨rfl, rfl⟩ := hp
    refine W.eq (g2 := F0 m 20 ls []) rfl ?_
    refine lv_aload_n hx hb dX4_figureItem_20 rfl (lv_at hl 0 rfl) ?_
    refine lv_iconst (v := 0) hx hb dX4_figureItem_21 rfl ?_
    refine lv_iconst (v := 3) hx hb dX4_figureItem_22 rfl ?_
    rcases Bool.eq_false_or_eq_true (numT tp d (nxt tp d f) 3) with n23 | n23
    · refine mu_W (w := (MW cI cJ A sS kS oS aS tS ik cA tp (nI d) (nI (nxt tp d f)) (nI (tkE tp d (nxt tp d f))) vl 0 bO sO nU mV)) (rest := []) S hK hP hD hS (k_X4_number_t d (nxt tp d f) 3 hd (nxt_le (hf)) n23) gv_X4_278 hd_X4_number ⟨Nat.le_of_ble_eq_true rfl, Nat.le_of_ble_eq_true rfl⟩ 4 rfl rfl rfl rfl hl.1 (lv_room (Nat.le_of_ble_eq_true rfl)) dX4_figureItem_23 ⟨Nat.zero_le _, Nat.zero_le _⟩ (fun ov w' H locs hp hP hD hS => ?_)
      obtain ⟨rfl, rfl⟩ := hp
      refine W.eq (g2 := F0 m 26 ls []) rfl ?_
      refine lv_aload_n hx hb dX4_figureItem_26 rfl (lv_at hl 0 rfl) ?_
      refine va_get (ci := 4) (v := .int (numV tp d (nxt tp d f))) hx hb hts wx_X4 hown hK hP 0 rfl rfl 11 (by decide) (hts _ wf_X4_245) (fun _ h9 => h9) rfl dX4_figureItem_27 ?_
      refine lv_istore_n (lv' := [(2, .int (numV tp d (nxt tp d f))), (0, .ref (A 0)), (1, .int k)]) hx hb dX4_figureItem_30 rfl hl (by decide) rfl (fun ls hl => ?_)
      refine lv_aload_n hx hb dX4_figureItem_31 rfl (lv_at hl 1 rfl) ?_
      refine lv_iconst (v := 0) hx hb dX4_figureItem_32 rfl ?_
      refine lv_bipush (v := 19) hx hb dX4_figureItem_33 rfl ?_
      rcases Bool.eq_false_or_eq_true (numT tp d (nxt tp d (nxt tp d f)) 19) with n35 | n35
      · refine mu_W (w := (MW cI cJ A sS kS oS aS tS ik cA tp (nI d) (nI (nxt tp d (nxt tp d f))) (nI (tkE tp d (nxt tp d (nxt tp d f)))) (numV tp d (nxt tp d f)) 0 bO sO nU mV)) (rest := []) S hK hP hD hS (k_X4_number_t d (nxt tp d (nxt tp d f)) 19 hd (nxt_le (nxt_le (hf))) n35) gv_X4_278 hd_X4_number ⟨Nat.le_of_ble_eq_true rfl, Nat.le_of_ble_eq_true rfl⟩ 4 rfl rfl rfl rfl hl.1 (lv_room (Nat.le_of_ble_eq_true rfl)) dX4_figureItem_35 ⟨Nat.zero_le _, Nat.zero_le _⟩ (fun ov w' H locs hp hP hD hS => ?_)
        obtain ⟨rfl, rfl⟩ := hp
        refine W.eq (g2 := F0 m 38 ls []) rfl ?_
        refine lv_aload_n hx hb dX4_figureItem_38 rfl (lv_at hl 1 rfl) ?_
        refine va_get (ci := 4) (v := .int 0) hx hb hts wx_X4 hown hK hP 0 rfl rfl 12 (by decide) (hts _ wf_X4_234) (fun _ h9 => h9) rfl dX4_figureItem_39 ?_
        refine lv_if_eq (tgt := 46) hx hb dX4_figureItem_42 rfl (fun c42 => ?_) (fun c42 => ?_)
        · refine lv_aload_n hx hb dX4_figureItem_46 rfl (lv_at hl 1 rfl) ?_
          refine lv_iload_n hx hb dX4_figureItem_47 rfl (lv_at hl 2 rfl) ?_
          refine lv_iload_n hx hb dX4_figureItem_48 rfl (lv_at hl 0 rfl) ?_
          refine lv_aload_n hx hb dX4_figureItem_49 rfl (lv_at hl 1 rfl) ?_
          refine va_get (ci := 4) (v := .int (numV tp d (nxt tp d (nxt tp d f)))) hx hb hts wx_X4 hown hK hP 0 rfl rfl 11 (by decide) (hts _ wf_X4_245) (fun _ h9 => h9) rfl dX4_figureItem_50 ?_
          refine mu_W (w := (MW cI cJ A sS kS oS aS tS ik cA tp (nI d) (nI (nxt tp d (nxt tp d (nxt tp d f)))) (nI (tkE tp d (nxt tp d (nxt tp d (nxt tp d f))))) (numV tp d (nxt tp d (nxt tp d f))) 0 bO sO nU mV)) (rest := []) S hK hP hD hS (k_X4_adds n k (numV tp d (nxt tp d f)) (numV tp d (nxt tp d (nxt tp d f))) hI (by omega)) gv_X4_124 hd_X4_adds ⟨Nat.le_of_ble_eq_true rfl, Nat.le_of_ble_eq_true rfl⟩ 4 rfl rfl rfl rfl hl.1 (lv_room (Nat.le_of_ble_eq_true rfl)) dX4_figureItem_53 ⟨Nat.zero_le _, Nat.zero_le _⟩ (fun ov w' H locs hp hP hD hS => ?_)
          obtain ⟨rfl, rfl⟩ := hp
          refine W.eq (g2 := F0 m 56 ls [.int (nI n)]) rfl ?_
          refine lv_istore_n (lv' := [(3, .int (nI n)), (2, .int (numV tp d (nxt tp d f))), (0, .ref (A 0)), (1, .int k)]) hx hb dX4_figureItem_56 rfl hl (by decide) rfl (fun ls hl => ?_)
          refine lv_aload_n hx hb dX4_figureItem_57 rfl (lv_at hl 2 rfl) ?_
          refine ro_V (w := (MW cI cJ A (addsF sS n k (numV tp d (nxt tp d f)) (numV tp d (nxt tp d (nxt tp d f)))) kS oS aS tS ik cA tp (nI d) (nI (nxt tp d (nxt tp d (nxt tp d f)))) (nI (tkE tp d (nxt tp d (nxt tp d (nxt tp d f))))) (numV tp d (nxt tp d (nxt tp d f))) 0 bO sO nU mV)) (rest := []) S hK hP (k_X4_word_t d (nxt tp d (nxt tp d (nxt tp d f))) hd (nxt_le (nxt_le (nxt_le (hf))))) gv_X4_252 hd_X4_word ⟨Nat.le_of_ble_eq_true rfl, Nat.le_of_ble_eq_true rfl⟩ 4 rfl rfl rfl rfl hl.1 (lv_room (Nat.le_of_ble_eq_true rfl)) dX4_figureItem_58 ⟨Nat.zero_le _, Nat.zero_le _⟩ ?_
          refine lv_ldc2 (v := 474725) hx hb hown (hts _ wq_X4_282) dX4_figureItem_61 ?_
          refine W.lcmp hx hb dX4_figureItem_64 ?_
          refine lv_if_ne (tgt := 94) hx hb dX4_figureItem_65 rfl (fun c65 => ?_) (fun c65 => ?_)
          · replace c65 := lc_neq c65
            replace c65 := wd_no 6 474725 (by decide) (by decide) c65
            refine lv_aload_n hx hb dX4_figureItem_94 rfl (lv_at hl 2 rfl) ?_
            refine ro_V (w := (MW cI cJ A (addsF sS n k (numV tp d (nxt tp d f)) (numV tp d (nxt tp d (nxt tp d f)))) kS oS aS tS ik cA tp (nI d) (nI (nxt tp d (nxt tp d (nxt tp d f)))) (nI (tkE tp d (nxt tp d (nxt tp d (nxt tp d f))))) (numV tp d (nxt tp d (nxt tp d f))) 0 bO sO nU mV)) (rest := []) S hK hP (k_X4_word_t d (nxt tp d (nxt tp d (nxt tp d f))) hd (nxt_le (nxt_le (nxt_le (hf))))) gv_X4_252 hd_X4_word ⟨Nat.le_of_ble_eq_true rfl, Nat.le_of_ble_eq_true rfl⟩ 4 rfl rfl rfl rfl hl.1 (lv_room (Nat.le_of_ble_eq_true rfl)) dX4_figureItem_95 ⟨Nat.zero_le _, Nat.zero_le _⟩ ?_
            refine lv_ldc2 (v := 12596) hx hb hown (hts _ wq_X4_276) dX4_figureItem_98 ?_
            refine W.lcmp hx hb dX4_figureItem_101 ?_
            refine lv_if_ne (tgt := 121) hx hb dX4_figureItem_102 rfl (fun c102 => ?_) (fun c102 => ?_)
            · replace c102 := lc_neq c102
              replace c102 := wd_no 7 12596 (by decide) (by decide) c102
              exact mu_vret (MW cI cJ A (addsF sS n k (numV tp d (nxt tp d f)) (numV tp d (nxt tp d (nxt tp d f)))) kS oS aS tS ik cA tp (nI d) (nI (nxt tp d (nxt tp d (nxt tp d f)))) (nI (tkE tp d (nxt tp d (nxt tp d (nxt tp d f))))) (numV tp d (nxt tp d (nxt tp d f))) 0 bO sO nU mV) hx hb hr hlk hP hS rfl (⟨(addsF sS n k (numV tp d (nxt tp d f)) (numV tp d (nxt tp d (nxt tp d f)))), (nI (nxt tp d (nxt tp d (nxt tp d f)))), (nI (tkE tp d (nxt tp d (nxt tp d (nxt tp d f))))), (numV tp d (nxt tp d (nxt tp d f))), 0, rfl, by simp [itR, figI, litI, c42, c65, c102, h8n, n23, n35, put9], rfl⟩) dX4_figureItem_121
            · replace c102 := lc_eq c102
              replace c102 := (wd_iff 7 12596 (by decide) (by decide)).mp c102
              refine lv_aload_n hx hb dX4_figureItem_105 rfl (lv_at hl 2 rfl) ?_
              refine lv_iconst (v := 1) hx hb dX4_figureItem_106 rfl ?_
              refine mu_W (w := (MW cI cJ A (addsF sS n k (numV tp d (nxt tp d f)) (numV tp d (nxt tp d (nxt tp d f)))) kS oS aS tS ik cA tp (nI d) (nI (nxt tp d (nxt tp d (nxt tp d f)))) (nI (tkE tp d (nxt tp d (nxt tp d (nxt tp d f))))) (numV tp d (nxt tp d (nxt tp d f))) 0 bO sO nU mV)) (rest := []) S hK hP hD hS (k_X4_must_t d (nxt tp d (nxt tp d (nxt tp d f))) hd (nxt_le (nxt_le (nxt_le (hf))))) gv_X4_248 hd_X4_must ⟨Nat.le_of_ble_eq_true rfl, Nat.le_of_ble_eq_true rfl⟩ 4 rfl rfl rfl rfl hl.1 (lv_room (Nat.le_of_ble_eq_true rfl)) dX4_figureItem_107 ⟨Nat.zero_le _, Nat.zero_le _⟩ (fun ov w' H locs hp hP hD hS => ?_)
              obtain ⟨rfl, rfl⟩ := hp
              refine W.eq (g2 := F0 m 110 ls []) rfl ?_
              refine lv_aload_n hx hb dX4_figureItem_110 rfl (lv_at hl 2 rfl) ?_
              refine va_get (ci := 4) (v := .ref (A 1)) hx hb hts wx_X4 hown hK hP 0 rfl rfl 0 (by decide) (hts _ wf_X4_7) (fun _ h9 => h9) rfl dX4_figureItem_111 ?_
              refine lv_iload_n hx hb dX4_figureItem_114 rfl (lv_at hl 0 rfl) ?_
              refine lv_iconst (v := 4) hx hb dX4_figureItem_115 rfl ?_
              refine ro_S (w := []) (rest := [.ref (A 1)]) S hK va_P0 (k_X4_spot n 4) gs_X4_45 hd_X4_spot ⟨Nat.le_of_ble_eq_true rfl, Nat.le_of_ble_eq_true rfl⟩ rfl hl.1 (lv_room (Nat.le_of_ble_eq_true rfl)) dX4_figureItem_116 ⟨Nat.zero_le _, Nat.zero_le _⟩ ?_
              refine lv_iconst (v := 1) hx hb dX4_figureItem_119 rfl ?_
              refine ia_st hx hb hK hP hD hS 1 0 rfl rfl (9 * n + 4 + 3) (rfl) (by omega) (by decide) dX4_figureItem_120 (fun H locs hP hD hS => ?_)
              have hP : va_P D vwCl (MW cI cJ A (upd (addsF sS n k (numV tp d (nxt tp d f)) (numV tp d (nxt tp d (nxt tp d f)))) (9 * n + 4 + 3) 1) kS oS aS tS ik cA tp (nI d) (nI (nxt tp d (nxt tp d (nxt tp d (nxt tp d f))))) (nI (tkE tp d (nxt tp d (nxt tp d (nxt tp d (nxt tp d f)))))) (numV tp d (nxt tp d (nxt tp d f))) 0 bO sO nU mV) H := hP
              have hD : va_D _ (MW cI cJ A (upd (addsF sS n k (numV tp d (nxt tp d f)) (numV tp d (nxt tp d (nxt tp d f)))) (9 * n + 4 + 3) 1) kS oS aS tS ik cA tp (nI d) (nI (nxt tp d (nxt tp d (nxt tp d (nxt tp d f))))) (nI (tkE tp d (nxt tp d (nxt tp d (nxt tp d (nxt tp d f)))))) (numV tp d (nxt tp d (nxt tp d f))) 0 bO sO nU mV) := hD
              exact mu_vret (MW cI cJ A (upd (addsF sS n k (numV tp d (nxt tp d f)) (numV tp d (nxt tp d (nxt tp d f)))) (9 * n + 4 + 3) 1) kS oS aS tS ik cA tp (nI d) (nI (nxt tp d (nxt tp d (nxt tp d (nxt tp d f))))) (nI (tkE tp d (nxt tp d (nxt tp d (nxt tp d (nxt tp d f)))))) (numV tp d (nxt tp d (nxt tp d f))) 0 bO sO nU mV) hx hb hr hlk hP hS rfl (⟨(upd (addsF sS n k (numV tp d (nxt tp d f)) (numV tp d (nxt tp d (nxt tp d f)))) (9 * n + 4 + 3) 1), (nI (nxt tp d (nxt tp d (nxt tp d (nxt tp d f))))), (nI (tkE tp d (nxt tp d (nxt tp d (nxt tp d (nxt tp d f)))))), (numV tp d (nxt tp d (nxt tp d f))), 0, rfl, by simp [itR, figI, litI, c42, c65, c102, h8n, n23, n35, put9], rfl⟩) dX4_figureItem_121
          · replace c65 := lc_eq c65
            replace c65 := (wd_iff 6 474725 (by decide) (by decide)).mp c65
            refine lv_aload_n hx hb dX4_figureItem_68 rfl (lv_at hl 2 rfl) ?_
            refine lv_iconst (v := 1) hx hb dX4_figureItem_69 rfl ?_
            refine mu_W (w := (MW cI cJ A (addsF sS n k (numV tp d (nxt tp d f)) (numV tp d (nxt tp d (nxt tp d f)))) kS oS aS tS ik cA tp (nI d) (nI (nxt tp d (nxt tp d (nxt tp d f)))) (nI (tkE tp d (nxt tp d (nxt tp d (nxt tp d f))))) (numV tp d (nxt tp d (nxt tp d f))) 0 bO sO nU mV)) (rest := []) S hK hP hD hS (k_X4_must_t d (nxt tp d (nxt tp d (nxt tp d f))) hd (nxt_le (nxt_le (nxt_le (hf))))) gv_X4_248 hd_X4_must ⟨Nat.le_of_ble_eq_true rfl, Nat.le_of_ble_eq_true rfl⟩ 4 rfl rfl rfl rfl hl.1 (lv_room (Nat.le_of_ble_eq_true rfl)) dX4_figureItem_70 ⟨Nat.zero_le _, Nat.zero_le _⟩ (fun ov w' H locs hp hP hD hS => ?_)
            obtain ⟨rfl, rfl⟩ := hp
            refine W.eq (g2 := F0 m 73 ls []) rfl ?_
            refine lv_aload_n hx hb dX4_figureItem_73 rfl (lv_at hl 2 rfl) ?_
            refine lv_iconst (v := 0) hx hb dX4_figureItem_74 rfl ?_
            refine lv_bipush (v := 99) hx hb dX4_figureItem_75 rfl ?_
            rcases Bool.eq_false_or_eq_true (numT tp d (nxt tp d (nxt tp d (nxt tp d (nxt tp d f)))) 99) with n77 | n77
            · refine mu_W (w := (MW cI cJ A (addsF sS n k (numV tp d (nxt tp d f)) (numV tp d (nxt tp d (nxt tp d f)))) kS oS aS tS ik cA tp (nI d) (nI (nxt tp d (nxt tp d (nxt tp d (nxt tp d f))))) (nI (tkE tp d (nxt tp d (nxt tp d (nxt tp d (nxt tp d f)))))) (numV tp d (nxt tp d (nxt tp d f))) 0 bO sO nU mV)) (rest := []) S hK hP hD hS (k_X4_number_t d (nxt tp d (nxt tp d (nxt tp d (nxt tp d f)))) 99 hd (nxt_le (nxt_le (nxt_le (nxt_le (hf))))) n77) gv_X4_278 hd_X4_number ⟨Nat.le_of_ble_eq_true rfl, Nat.le_of_ble_eq_true rfl⟩ 4 rfl rfl rfl rfl hl.1 (lv_room (Nat.le_of_ble_eq_true rfl)) dX4_figureItem_77 ⟨Nat.zero_le _, Nat.zero_le _⟩ (fun ov w' H locs hp hP hD hS => ?_)
              obtain ⟨rfl, rfl⟩ := hp
              refine W.eq (g2 := F0 m 80 ls []) rfl ?_
              refine lv_aload_n hx hb dX4_figureItem_80 rfl (lv_at hl 2 rfl) ?_
              refine va_get (ci := 4) (v := .ref (A 1)) hx hb hts wx_X4 hown hK hP 0 rfl rfl 0 (by decide) (hts _ wf_X4_7) (fun _ h9 => h9) rfl dX4_figureItem_81 ?_
              refine lv_iload_n hx hb dX4_figureItem_84 rfl (lv_at hl 0 rfl) ?_
              refine lv_iconst (v := 3) hx hb dX4_figureItem_85 rfl ?_
              refine ro_S (w := []) (rest := [.ref (A 1)]) S hK va_P0 (k_X4_spot n 3) gs_X4_45 hd_X4_spot ⟨Nat.le_of_ble_eq_true rfl, Nat.le_of_ble_eq_true rfl⟩ rfl hl.1 (lv_room (Nat.le_of_ble_eq_true rfl)) dX4_figureItem_86 ⟨Nat.zero_le _, Nat.zero_le _⟩ ?_
              refine lv_aload_n hx hb dX4_figureItem_89 rfl (lv_at hl 2 rfl) ?_
              refine va_get (ci := 4) (v := .int (numV tp d (nxt tp d (nxt tp d (nxt tp d (nxt tp d f)))))) hx hb hts wx_X4 hown hK hP 0 rfl rfl 11 (by decide) (hts _ wf_X4_245) (fun _ h9 => h9) rfl dX4_figureItem_90 ?_
              refine ia_st hx hb hK hP hD hS 1 0 rfl rfl (9 * n + 3 + 3) (rfl) (by omega) (by decide) dX4_figureItem_93 (fun H locs hP hD hS => ?_)
              have hP : va_P D vwCl (MW cI cJ A (upd (addsF sS n k (numV tp d (nxt tp d f)) (numV tp d (nxt tp d (nxt tp d f)))) (9 * n + 3 + 3) (numV tp d (nxt tp d (nxt tp d (nxt tp d (nxt tp d f)))))) kS oS aS tS ik cA tp (nI d) (nI (nxt tp d (nxt tp d (nxt tp d (nxt tp d (nxt tp d f)))))) (nI (tkE tp d (nxt tp d (nxt tp d (nxt tp d (nxt tp d (nxt tp d f))))))) (numV tp d (nxt tp d (nxt tp d (nxt tp d (nxt tp d f))))) 0 bO sO nU mV) H := hP
              have hD : va_D _ (MW cI cJ A (upd (addsF sS n k (numV tp d (nxt tp d f)) (numV tp d (nxt tp d (nxt tp d f)))) (9 * n + 3 + 3) (numV tp d (nxt tp d (nxt tp d (nxt tp d (nxt tp d f)))))) kS oS aS tS ik cA tp (nI d) (nI (nxt tp d (nxt tp d (nxt tp d (nxt tp d (nxt tp d f)))))) (nI (tkE tp d (nxt tp d (nxt tp d (nxt tp d (nxt tp d (nxt tp d f))))))) (numV tp d (nxt tp d (nxt tp d (nxt tp d (nxt tp d f))))) 0 bO sO nU mV) := hD
              refine lv_aload_n hx hb dX4_figureItem_94 rfl (lv_at hl 2 rfl) ?_
              refine ro_V (w := (MW cI cJ A (upd (addsF sS n k (numV tp d (nxt tp d f)) (numV tp d (nxt tp d (nxt tp d f)))) (9 * n + 3 + 3) (numV tp d (nxt tp d (nxt tp d (nxt tp d (nxt tp d f)))))) kS oS aS tS ik cA tp (nI d) (nI (nxt tp d (nxt tp d (nxt tp d (nxt tp d (nxt tp d f)))))) (nI (tkE tp d (nxt tp d (nxt tp d (nxt tp d (nxt tp d (nxt tp d f))))))) (numV tp d (nxt tp d (nxt tp d (nxt tp d (nxt tp d f))))) 0 bO sO nU mV)) (rest := []) S hK hP (k_X4_word_t d (nxt tp d (nxt tp d (nxt tp d (nxt tp d (nxt tp d f))))) hd (nxt_le (nxt_le (nxt_le (nxt_le (nxt_le (hf))))))) gv_X4_252 hd_X4_word ⟨Nat.le_of_ble_eq_true rfl, Nat.le_of_ble_eq_true rfl⟩ 4 rfl rfl rfl rfl hl.1 (lv_room (Nat.le_of_ble_eq_true rfl)) dX4_figureItem_95 ⟨Nat.zero_le _, Nat.zero_le _⟩ ?_
              refine lv_ldc2 (v := 12596) hx hb hown (hts _ wq_X4_276) dX4_figureItem_98 ?_
              refine W.lcmp hx hb dX4_figureItem_101 ?_
              refine lv_if_ne (tgt := 121) hx hb dX4_figureItem_102 rfl (fun c102 => ?_) (fun c102 => ?_)
              · replace c102 := lc_neq c102
                replace c102 := wd_no 7 12596 (by decide) (by decide) c102
                exact mu_vret (MW cI cJ A (upd (addsF sS n k (numV tp d (nxt tp d f)) (numV tp d (nxt tp d (nxt tp d f)))) (9 * n + 3 + 3) (numV tp d (nxt tp d (nxt tp d (nxt tp d (nxt tp d f)))))) kS oS aS tS ik cA tp (nI d) (nI (nxt tp d (nxt tp d (nxt tp d (nxt tp d (nxt tp d f)))))) (nI (tkE tp d (nxt tp d (nxt tp d (nxt tp d (nxt tp d (nxt tp d f))))))) (numV tp d (nxt tp d (nxt tp d (nxt tp d (nxt tp d f))))) 0 bO sO nU mV) hx hb hr hlk hP hS rfl (⟨(upd (addsF sS n k (numV tp d (nxt tp d f)) (numV tp d (nxt tp d (nxt tp d f)))) (9 * n + 3 + 3) (numV tp d (nxt tp d (nxt tp d (nxt tp d (nxt tp d f)))))), (nI (nxt tp d (nxt tp d (nxt tp d (nxt tp d (nxt tp d f)))))), (nI (tkE tp d (nxt tp d (nxt tp d (nxt tp d (nxt tp d (nxt tp d f))))))), (numV tp d (nxt tp d (nxt tp d (nxt tp d (nxt tp d f))))), 0, rfl, by simp [itR, figI, litI, c42, c65, c102, h8n, n23, n35, n77, put9], rfl⟩) dX4_figureItem_121
              · replace c102 := lc_eq c102
                replace c102 := (wd_iff 7 12596 (by decide) (by decide)).mp c102
                refine lv_aload_n hx hb dX4_figureItem_105 rfl (lv_at hl 2 rfl) ?_
                refine lv_iconst (v := 1) hx hb dX4_figureItem_106 rfl ?_
                refine mu_W (w := (MW cI cJ A (upd (addsF sS n k (numV tp d (nxt tp d f)) (numV tp d (nxt tp d (nxt tp d f)))) (9 * n + 3 + 3) (numV tp d (nxt tp d (nxt tp d (nxt tp d (nxt tp d f)))))) kS oS aS tS ik cA tp (nI d) (nI (nxt tp d (nxt tp d (nxt tp d (nxt tp d (nxt tp d f)))))) (nI (tkE tp d (nxt tp d (nxt tp d (nxt tp d (nxt tp d (nxt tp d f))))))) (numV tp d (nxt tp d (nxt tp d (nxt tp d (nxt tp d f))))) 0 bO sO nU mV)) (rest := []) S hK hP hD hS (k_X4_must_t d (nxt tp d (nxt tp d (nxt tp d (nxt tp d (nxt tp d f))))) hd (nxt_le (nxt_le (nxt_le (nxt_le (nxt_le (hf))))))) gv_X4_248 hd_X4_must ⟨Nat.le_of_ble_eq_true rfl, Nat.le_of_ble_eq_true rfl⟩ 4 rfl rfl rfl rfl hl.1 (lv_room (Nat.le_of_ble_eq_true rfl)) dX4_figureItem_107 ⟨Nat.zero_le _, Nat.zero_le _⟩ (fun ov w' H locs hp hP hD hS => ?_)
                obtain ⟨rfl, rfl⟩ := hp
                refine W.eq (g2 := F0 m 110 ls []) rfl ?_
                refine lv_aload_n hx hb dX4_figureItem_110 rfl (lv_at hl 2 rfl) ?_
                refine va_get (ci := 4) (v := .ref (A 1)) hx hb hts wx_X4 hown hK hP 0 rfl rfl 0 (by decide) (hts _ wf_X4_7) (fun _ h9 => h9) rfl dX4_figureItem_111 ?_
                refine lv_iload_n hx hb dX4_figureItem_114 rfl (lv_at hl 0 rfl) ?_
                refine lv_iconst (v := 4) hx hb dX4_figureItem_115 rfl ?_
                refine ro_S (w := []) (rest := [.ref (A 1)]) S hK va_P0 (k_X4_spot n 4) gs_X4_45 hd_X4_spot ⟨Nat.le_of_ble_eq_true rfl, Nat.le_of_ble_eq_true rfl⟩ rfl hl.1 (lv_room (Nat.le_of_ble_eq_true rfl)) dX4_figureItem_116 ⟨Nat.zero_le _, Nat.zero_le _⟩ ?_
                refine lv_iconst (v := 1) hx hb dX4_figureItem_119 rfl ?_
                refine ia_st hx hb hK hP hD hS 1 0 rfl rfl (9 * n + 4 + 3) (rfl) (by omega) (by decide) dX4_figureItem_120 (fun H locs hP hD hS => ?_)
                have hP : va_P D vwCl (MW cI cJ A (upd (upd (addsF sS n k (numV tp d (nxt tp d f)) (numV tp d (nxt tp d (nxt tp d f)))) (9 * n + 3 + 3) (numV tp d (nxt tp d (nxt tp d (nxt tp d (nxt tp d f)))))) (9 * n + 4 + 3) 1) kS oS aS tS ik cA tp (nI d) (nI (nxt tp d (nxt tp d (nxt tp d (nxt tp d (nxt tp d (nxt tp d f))))))) (nI (tkE tp d (nxt tp d (nxt tp d (nxt tp d (nxt tp d (nxt tp d (nxt tp d f)))))))) (numV tp d (nxt tp d (nxt tp d (nxt tp d (nxt tp d f))))) 0 bO sO nU mV) H := hP
                have hD : va_D _ (MW cI cJ A (upd (upd (addsF sS n k (numV tp d (nxt tp d f)) (numV tp d (nxt tp d (nxt tp d f)))) (9 * n + 3 + 3) (numV tp d (nxt tp d (nxt tp d (nxt tp d (nxt tp d f)))))) (9 * n + 4 + 3) 1) kS oS aS tS ik cA tp (nI d) (nI (nxt tp d (nxt tp d (nxt tp d (nxt tp d (nxt tp d (nxt tp d f))))))) (nI (tkE tp d (nxt tp d (nxt tp d (nxt tp d (nxt tp d (nxt tp d (nxt tp d f)))))))) (numV tp d (nxt tp d (nxt tp d (nxt tp d (nxt tp d f))))) 0 bO sO nU mV) := hD
                exact mu_vret (MW cI cJ A (upd (upd (addsF sS n k (numV tp d (nxt tp d f)) (numV tp d (nxt tp d (nxt tp d f)))) (9 * n + 3 + 3) (numV tp d (nxt tp d (nxt tp d (nxt tp d (nxt tp d f)))))) (9 * n + 4 + 3) 1) kS oS aS tS ik cA tp (nI d) (nI (nxt tp d (nxt tp d (nxt tp d (nxt tp d (nxt tp d (nxt tp d f))))))) (nI (tkE tp d (nxt tp d (nxt tp d (nxt tp d (nxt tp d (nxt tp d (nxt tp d f)))))))) (numV tp d (nxt tp d (nxt tp d (nxt tp d (nxt tp d f))))) 0 bO sO nU mV) hx hb hr hlk hP hS rfl (⟨(upd (upd (addsF sS n k (numV tp d (nxt tp d f)) (numV tp d (nxt tp d (nxt tp d f)))) (9 * n + 3 + 3) (numV tp d (nxt tp d (nxt tp d (nxt tp d (nxt tp d f)))))) (9 * n + 4 + 3) 1), (nI (nxt tp d (nxt tp d (nxt tp d (nxt tp d (nxt tp d (nxt tp d f))))))), (nI (tkE tp d (nxt tp d (nxt tp d (nxt tp d (nxt tp d (nxt tp d (nxt tp d f)))))))), (numV tp d (nxt tp d (nxt tp d (nxt tp d (nxt tp d f))))), 0, rfl, by simp [itR, figI, litI, c42, c65, c102, h8n, n23, n35, n77, put9], rfl⟩) dX4_figureItem_121
            · refine mu_W (w := (MW cI cJ A (addsF sS n k (numV tp d (nxt tp d f)) (numV tp d (nxt tp d (nxt tp d f)))) kS oS aS tS ik cA tp (nI d) (nI (nxt tp d (nxt tp d (nxt tp d (nxt tp d f))))) (nI (tkE tp d (nxt tp d (nxt tp d (nxt tp d (nxt tp d f)))))) (numV tp d (nxt tp d (nxt tp d f))) 0 bO sO nU mV)) (rest := []) S hK hP hD hS (k_X4_number_f d (nxt tp d (nxt tp d (nxt tp d (nxt tp d f)))) 99 hd (nxt_le (nxt_le (nxt_le (nxt_le (hf))))) n77) gv_X4_278 hd_X4_number ⟨Nat.le_of_ble_eq_true rfl, Nat.le_of_ble_eq_true rfl⟩ 4 rfl rfl rfl rfl hl.1 (lv_room (Nat.le_of_ble_eq_true rfl)) dX4_figureItem_77 ⟨Nat.zero_le _, Nat.zero_le _⟩ (fun ov w' H locs hp hP hD hS => ?_)
              obtain ⟨v77, rfl, rfl⟩ := hp
              refine W.eq (g2 := F0 m 80 ls []) rfl ?_
              refine lv_aload_n hx hb dX4_figureItem_80 rfl (lv_at hl 2 rfl) ?_
              refine va_get (ci := 4) (v := .ref (A 1)) hx hb hts wx_X4 hown hK hP 0 rfl rfl 0 (by decide) (hts _ wf_X4_7) (fun _ h9 => h9) rfl dX4_figureItem_81 ?_
              refine lv_iload_n hx hb dX4_figureItem_84 rfl (lv_at hl 0 rfl) ?_
              refine lv_iconst (v := 3) hx hb dX4_figureItem_85 rfl ?_
              refine ro_S (w := []) (rest := [.ref (A 1)]) S hK va_P0 (k_X4_spot n 3) gs_X4_45 hd_X4_spot ⟨Nat.le_of_ble_eq_true rfl, Nat.le_of_ble_eq_true rfl⟩ rfl hl.1 (lv_room (Nat.le_of_ble_eq_true rfl)) dX4_figureItem_86 ⟨Nat.zero_le _, Nat.zero_le _⟩ ?_
              refine lv_aload_n hx hb dX4_figureItem_89 rfl (lv_at hl 2 rfl) ?_
              refine va_get (ci := 4) (v := .int v77) hx hb hts wx_X4 hown hK hP 0 rfl rfl 11 (by decide) (hts _ wf_X4_245) (fun _ h9 => h9) rfl dX4_figureItem_90 ?_
              refine ia_st hx hb hK hP hD hS 1 0 rfl rfl (9 * n + 3 + 3) (rfl) (by omega) (by decide) dX4_figureItem_93 (fun H locs hP hD hS => ?_)
              have hP : va_P D vwCl (MW cI cJ A (upd (addsF sS n k (numV tp d (nxt tp d f)) (numV tp d (nxt tp d (nxt tp d f)))) (9 * n + 3 + 3) v77) kS oS aS tS ik cA tp (nI d) (nI (nxt tp d (nxt tp d (nxt tp d (nxt tp d f))))) (nI (tkE tp d (nxt tp d (nxt tp d (nxt tp d (nxt tp d f)))))) v77 1 bO sO nU mV) H := hP
              have hD : va_D _ (MW cI cJ A (upd (addsF sS n k (numV tp d (nxt tp d f)) (numV tp d (nxt tp d (nxt tp d f)))) (9 * n + 3 + 3) v77) kS oS aS tS ik cA tp (nI d) (nI (nxt tp d (nxt tp d (nxt tp d (nxt tp d f))))) (nI (tkE tp d (nxt tp d (nxt tp d (nxt tp d (nxt tp d f)))))) v77 1 bO sO nU mV) := hD
              refine lv_aload_n hx hb dX4_figureItem_94 rfl (lv_at hl 2 rfl) ?_
              refine ro_V (w := (MW cI cJ A (upd (addsF sS n k (numV tp d (nxt tp d f)) (numV tp d (nxt tp d (nxt tp d f)))) (9 * n + 3 + 3) v77) kS oS aS tS ik cA tp (nI d) (nI (nxt tp d (nxt tp d (nxt tp d (nxt tp d f))))) (nI (tkE tp d (nxt tp d (nxt tp d (nxt tp d (nxt tp d f)))))) v77 1 bO sO nU mV)) (rest := []) S hK hP (k_X4_word_w d (nxt tp d (nxt tp d (nxt tp d (nxt tp d f)))) hd (nxt_le (nxt_le (nxt_le (nxt_le (hf)))))) gv_X4_252 hd_X4_word ⟨Nat.le_of_ble_eq_true rfl, Nat.le_of_ble_eq_true rfl⟩ 4 rfl rfl rfl rfl hl.1 (lv_room (Nat.le_of_ble_eq_true rfl)) dX4_figureItem_95 ⟨Nat.zero_le _, Nat.zero_le _⟩ ?_
              refine lv_ldc2 (v := 12596) hx hb hown (hts _ wq_X4_276) dX4_figureItem_98 ?_
              refine W.lcmp hx hb dX4_figureItem_101 ?_
              refine lv_if_ne (tgt := 121) hx hb dX4_figureItem_102 rfl (fun c102 => ?_) (fun c102 => ?_)
              · replace c102 := lc_neq c102
                exact mu_vret (MW cI cJ A (upd (addsF sS n k (numV tp d (nxt tp d f)) (numV tp d (nxt tp d (nxt tp d f)))) (9 * n + 3 + 3) v77) kS oS aS tS ik cA tp (nI d) (nI (nxt tp d (nxt tp d (nxt tp d (nxt tp d f))))) (nI (tkE tp d (nxt tp d (nxt tp d (nxt tp d (nxt tp d f)))))) v77 1 bO sO nU mV) hx hb hr hlk hP hS rfl (⟨(upd (addsF sS n k (numV tp d (nxt tp d f)) (numV tp d (nxt tp d (nxt tp d f)))) (9 * n + 3 + 3) v77), (nI (nxt tp d (nxt tp d (nxt tp d (nxt tp d f))))), (nI (tkE tp d (nxt tp d (nxt tp d (nxt tp d (nxt tp d f)))))), v77, 1, rfl, by simp [itR, figI, litI, c42, c65, h8n, n23, n35, n77, put9], rfl⟩) dX4_figureItem_121
              · replace c102 := lc_eq c102
                exact absurd c102 (by decide)
        · exact absurd c42 (by decide)
      · refine mu_W (w := (MW cI cJ A sS kS oS aS tS ik cA tp (nI d) (nI (nxt tp d (nxt tp d f))) (nI (tkE tp d (nxt tp d (nxt tp d f)))) (numV tp d (nxt tp d f)) 0 bO sO nU mV)) (rest := []) S hK hP hD hS (k_X4_number_f d (nxt tp d (nxt tp d f)) 19 hd (nxt_le (nxt_le (hf))) n35) gv_X4_278 hd_X4_number ⟨Nat.le_of_ble_eq_true rfl, Nat.le_of_ble_eq_true rfl⟩ 4 rfl rfl rfl rfl hl.1 (lv_room (Nat.le_of_ble_eq_true rfl)) dX4_figureItem_35 ⟨Nat.zero_le _, Nat.zero_le _⟩ (fun ov w' H locs hp hP hD hS => ?_)
        obtain ⟨v35, rfl, rfl⟩ := hp
        refine W.eq (g2 := F0 m 38 ls []) rfl ?_
        refine lv_aload_n hx hb dX4_figureItem_38 rfl (lv_at hl 1 rfl) ?_
        refine va_get (ci := 4) (v := .int 1) hx hb hts wx_X4 hown hK hP 0 rfl rfl 12 (by decide) (hts _ wf_X4_234) (fun _ h9 => h9) rfl dX4_figureItem_39 ?_
        refine lv_if_eq (tgt := 46) hx hb dX4_figureItem_42 rfl (fun c42 => ?_) (fun c42 => ?_)
        · exact absurd c42 (by decide)
        · exact mu_vret (MW cI cJ A sS kS oS aS tS ik cA tp (nI d) (nI (nxt tp d (nxt tp d f))) (nI (tkE tp d (nxt tp d (nxt tp d f)))) v35 1 bO sO nU mV) hx hb hr hlk hP hS rfl (⟨sS, (nI (nxt tp d (nxt tp d f))), (nI (tkE tp d (nxt tp d (nxt tp d f)))), v35, 1, rfl, by simp [itR, figI, litI, c42, h8n, n23, n35, put9], rfl⟩) dX4_figureItem_45
    · refine mu_W (w := (MW cI cJ A sS kS oS aS tS ik cA tp (nI d) (nI (nxt tp d f)) (nI (tkE tp d (nxt tp d f))) vl 0 bO sO nU mV)) (rest := []) S hK hP hD hS (k_X4_number_f d (nxt tp d f) 3 hd (nxt_le (hf)) n23) gv_X4_278 hd_X4_number ⟨Nat.le_of_ble_eq_true rfl, Nat.le_of_ble_eq_true rfl⟩ 4 rfl rfl rfl rfl hl.1 (lv_room (Nat.le_of_ble_eq_true rfl)) dX4_figureItem_23 ⟨Nat.zero_le _, Nat.zero_le _⟩ (fun ov w' H locs hp hP hD hS => ?_)
      obtain ⟨v23, rfl, rfl⟩ := hp
      refine W.eq (g2 := F0 m 26 ls []) rfl ?_
      refine lv_aload_n hx hb dX4_figureItem_26 rfl (lv_at hl 0 rfl) ?_
      refine va_get (ci := 4) (v := .int v23) hx hb hts wx_X4 hown hK hP 0 rfl rfl 11 (by decide) (hts _ wf_X4_245) (fun _ h9 => h9) rfl dX4_figureItem_27 ?_
      refine lv_istore_n (lv' := [(2, .int v23), (0, .ref (A 0)), (1, .int k)]) hx hb dX4_figureItem_30 rfl hl (by decide) rfl (fun ls hl => ?_)
      refine lv_aload_n hx hb dX4_figureItem_31 rfl (lv_at hl 1 rfl) ?_
      refine lv_iconst (v := 0) hx hb dX4_figureItem_32 rfl ?_
      refine lv_bipush (v := 19) hx hb dX4_figureItem_33 rfl ?_
      refine mu_W (w := (MW cI cJ A sS kS oS aS tS ik cA tp (nI d) (nI (nxt tp d f)) (nI (tkE tp d (nxt tp d f))) v23 1 bO sO nU mV)) (rest := []) S hK hP hD hS (k_X4_number_w 0 19) gv_X4_278 hd_X4_number ⟨Nat.le_of_ble_eq_true rfl, Nat.le_of_ble_eq_true rfl⟩ 4 rfl rfl rfl rfl hl.1 (lv_room (Nat.le_of_ble_eq_true rfl)) dX4_figureItem_35 ⟨Nat.zero_le _, Nat.zero_le _⟩ (fun ov w' H locs hp hP hD hS => ?_)
      obtain ⟨rfl, rfl⟩ := hp
      refine W.eq (g2 := F0 m 38 ls []) rfl ?_
      refine lv_aload_n hx hb dX4_figureItem_38 rfl (lv_at hl 1 rfl) ?_
      refine va_get (ci := 4) (v := .int 1) hx hb hts wx_X4 hown hK hP 0 rfl rfl 12 (by decide) (hts _ wf_X4_234) (fun _ h9 => h9) rfl dX4_figureItem_39 ?_
      refine lv_if_eq (tgt := 46) hx hb dX4_figureItem_42 rfl (fun c42 => ?_) (fun c42 => ?_)
      · exact absurd c42 (by decide)
      · exact mu_vret (MW cI cJ A sS kS oS aS tS ik cA tp (nI d) (nI (nxt tp d f)) (nI (tkE tp d (nxt tp d f))) v23 1 bO sO nU mV) hx hb hr hlk hP hS rfl (⟨sS, (nI (nxt tp d f)), (nI (tkE tp d (nxt tp d f))), v23, 1, rfl, by simp [itR, figI, litI, c42, h8n, n23, put9], rfl⟩) dX4_figureItem_45

set_option maxHeartbeats 4000000 in
set_option maxRecDepth 100000 in
theorem k_X4_wantsItem (n : Nat) (d : Nat) (f : Nat) (hI : Inv sS n) (hd : d ≤ 120) (hf : f ≤ d) : MU l D (tyA cI cJ cO) yX4_wantsItem cX4_wantsItem 3 none 5 113 [.ref (A 0)] (MW cI cJ A sS kS oS aS tS ik cA tp (nI d) (nI f) (nI (tkE tp d f)) vl 0 bO sO nU mV) (fun ov w' => ∃ (s9 : Nat → Int32) (f9 t9 v9 w9 : Int32), ov = none ∧ itR tp d (wantsI tp d sS n f) s9 f9 t9 w9 ∧ w' = (MW cI cJ A s9 kS oS aS tS ik cA tp (nI d) f9 t9 v9 w9 bO sO nU mV)) := by
  refine MU.mk (by decide) (Nat.le_of_ble_eq_true rfl) ?_
  intro p e s m below meth c ls S hr hlk hP hK hD hS hl
  have S : CallFix p m c cX4_wantsItem 3 s _ WL RX4 := S
  obtain ⟨hx, hb, hml, hown, hts⟩ := id S
  have hl : lv_has ls 3 [(0, .ref (A 0))] := hl
  have h8 : n ≤ 8 := hI.1
  refine lv_aload_n hx hb dX4_wantsItem_0 rfl (lv_at hl 0 rfl) ?_
  refine lv_iconst (v := 1) hx hb dX4_wantsItem_1 rfl ?_
  refine mu_W (w := (MW cI cJ A sS kS oS aS tS ik cA tp (nI d) (nI f) (nI (tkE tp d f)) vl 0 bO sO nU mV)) (rest := []) S hK hP hD hS (k_X4_must_t d f hd (hf)) gv_X4_248 hd_X4_must ⟨Nat.le_of_ble_eq_true rfl, Nat.le_of_ble_eq_true rfl⟩ 4 rfl rfl rfl rfl hl.1 (lv_room (Nat.le_of_ble_eq_true rfl)) dX4_wantsItem_2 ⟨Nat.zero_le _, Nat.zero_le _⟩ (fun ov w' H locs hp hP hD hS => ?_)
  obtain ⟨rfl, rfl⟩ := hp
  refine W.eq (g2 := F0 m 5 ls []) rfl ?_
  refine lv_aload_n hx hb dX4_wantsItem_5 rfl (lv_at hl 0 rfl) ?_
  refine lv_iconst (v := 0) hx hb dX4_wantsItem_6 rfl ?_
  refine lv_aload_n hx hb dX4_wantsItem_7 rfl (lv_at hl 0 rfl) ?_
  refine va_get (ci := 4) (v := .ref (A 1)) hx hb hts wx_X4 hown hK hP 0 rfl rfl 0 (by decide) (hts _ wf_X4_7) (fun _ h9 => h9) rfl dX4_wantsItem_8 ?_
  refine lv_iconst (v := 1) hx hb dX4_wantsItem_11 rfl ?_
  refine ia_ld hx hb hK hP 1 0 rfl rfl 1 (rfl) (by omega) (by decide) dX4_wantsItem_12 ?_
  refine w_i (z := nI n) (hI.2.1) ?_
  refine lv_iconst (v := 1) hx hb dX4_wantsItem_13 rfl ?_
  refine lv_isub hx hb dX4_wantsItem_14 ?_
  rcases Bool.eq_false_or_eq_true (numT tp d (nxt tp d f) (nI n - 1)) with n15 | n15
  · obtain ⟨u15, hu15, eu15⟩ := numT_f h8 n15
    have ec15 : cl (nI u15) = u15 := cl_nI (by omega)
    refine mu_W (w := (MW cI cJ A sS kS oS aS tS ik cA tp (nI d) (nI (nxt tp d f)) (nI (tkE tp d (nxt tp d f))) vl 0 bO sO nU mV)) (rest := []) S hK hP hD hS (k_X4_number_t d (nxt tp d f) ((nI n) - 1) hd (nxt_le (hf)) n15) gv_X4_278 hd_X4_number ⟨Nat.le_of_ble_eq_true rfl, Nat.le_of_ble_eq_true rfl⟩ 4 rfl rfl rfl rfl hl.1 (lv_room (Nat.le_of_ble_eq_true rfl)) dX4_wantsItem_15 ⟨Nat.zero_le _, Nat.zero_le _⟩ (fun ov w' H locs hp hP hD hS => ?_)
    obtain ⟨rfl, rfl⟩ := hp
    refine W.eq (g2 := F0 m 18 ls []) rfl ?_
    refine lv_aload_n hx hb dX4_wantsItem_18 rfl (lv_at hl 0 rfl) ?_
    refine va_get (ci := 4) (v := .int (numV tp d (nxt tp d f))) hx hb hts wx_X4 hown hK hP 0 rfl rfl 11 (by decide) (hts _ wf_X4_245) (fun _ h9 => h9) rfl dX4_wantsItem_19 ?_
    refine w_i (z := nI u15) (eu15) ?_
    refine lv_istore_n (lv' := [(1, .int (nI u15)), (0, .ref (A 0))]) hx hb dX4_wantsItem_22 rfl hl (by decide) rfl (fun ls hl => ?_)
    refine lv_aload_n hx hb dX4_wantsItem_23 rfl (lv_at hl 1 rfl) ?_
    refine ro_V (w := (MW cI cJ A sS kS oS aS tS ik cA tp (nI d) (nI (nxt tp d (nxt tp d f))) (nI (tkE tp d (nxt tp d (nxt tp d f)))) (numV tp d (nxt tp d f)) 0 bO sO nU mV)) (rest := []) S hK hP (k_X4_wantHere_t d (nxt tp d (nxt tp d f)) hd (nxt_le (nxt_le (hf)))) gv_X4_284 hd_X4_wantHere ⟨Nat.le_of_ble_eq_true rfl, Nat.le_of_ble_eq_true rfl⟩ 4 rfl rfl rfl rfl hl.1 (lv_room (Nat.le_of_ble_eq_true rfl)) dX4_wantsItem_24 ⟨Nat.zero_le _, Nat.zero_le _⟩ ?_
    refine lv_istore_n (lv' := [(2, .int (wantS tp d (nxt tp d (nxt tp d f)))), (1, .int (nI u15)), (0, .ref (A 0))]) hx hb dX4_wantsItem_27 rfl hl (by decide) rfl (fun ls hl => ?_)
    refine lv_aload_n hx hb dX4_wantsItem_28 rfl (lv_at hl 2 rfl) ?_
    refine lv_iload_n hx hb dX4_wantsItem_29 rfl (lv_at hl 0 rfl) ?_
    refine lv_if_lt (tgt := 37) hx hb dX4_wantsItem_30 rfl (fun c30 => ?_) (fun c30 => ?_)
    · replace c30 := Int32.not_le.mpr c30
      refine lv_iconst (v := 0) hx hb dX4_wantsItem_37 rfl ?_
      refine mu_W (w := (MW cI cJ A sS kS oS aS tS ik cA tp (nI d) (nI (nxt tp d (nxt tp d f))) (nI (tkE tp d (nxt tp d (nxt tp d f)))) (numV tp d (nxt tp d f)) 0 bO sO nU mV)) (rest := []) S hK hP hD hS (k_X4_must_f d (nxt tp d (nxt tp d f)) hd (nxt_le (nxt_le (hf)))) gv_X4_248 hd_X4_must ⟨Nat.le_of_ble_eq_true rfl, Nat.le_of_ble_eq_true rfl⟩ 4 rfl rfl rfl rfl hl.1 (lv_room (Nat.le_of_ble_eq_true rfl)) dX4_wantsItem_38 ⟨Nat.zero_le _, Nat.zero_le _⟩ (fun ov w' H locs hp hP hD hS => ?_)
      obtain ⟨rfl, rfl⟩ := hp
      refine W.eq (g2 := F0 m 41 ls []) rfl ?_
      refine lv_aload_n hx hb dX4_wantsItem_41 rfl (lv_at hl 2 rfl) ?_
      refine va_get (ci := 4) (v := .int 1) hx hb hts wx_X4 hown hK hP 0 rfl rfl 12 (by decide) (hts _ wf_X4_234) (fun _ h9 => h9) rfl dX4_wantsItem_42 ?_
      refine lv_if_eq (tgt := 49) hx hb dX4_wantsItem_45 rfl (fun c45 => ?_) (fun c45 => ?_)
      · exact absurd c45 (by decide)
      · exact mu_vret (MW cI cJ A sS kS oS aS tS ik cA tp (nI d) (nI (nxt tp d (nxt tp d f))) (nI (tkE tp d (nxt tp d (nxt tp d f)))) (numV tp d (nxt tp d f)) 1 bO sO nU mV) hx hb hr hlk hP hS rfl (⟨sS, (nI (nxt tp d (nxt tp d f))), (nI (tkE tp d (nxt tp d (nxt tp d f)))), (numV tp d (nxt tp d f)), 1, rfl, by simp [itR, wantsI, c30, c45, n15, eu15, ec15, put9], rfl⟩) dX4_wantsItem_48
    · replace c30 := Int32.not_lt.mp c30
      refine lv_iconst (v := 1) hx hb dX4_wantsItem_33 rfl ?_
      refine lv_goto (tgt := 38) hx hb dX4_wantsItem_34 rfl ?_
      refine mu_W (w := (MW cI cJ A sS kS oS aS tS ik cA tp (nI d) (nI (nxt tp d (nxt tp d f))) (nI (tkE tp d (nxt tp d (nxt tp d f)))) (numV tp d (nxt tp d f)) 0 bO sO nU mV)) (rest := []) S hK hP hD hS (k_X4_must_t d (nxt tp d (nxt tp d f)) hd (nxt_le (nxt_le (hf)))) gv_X4_248 hd_X4_must ⟨Nat.le_of_ble_eq_true rfl, Nat.le_of_ble_eq_true rfl⟩ 4 rfl rfl rfl rfl hl.1 (lv_room (Nat.le_of_ble_eq_true rfl)) dX4_wantsItem_38 ⟨Nat.zero_le _, Nat.zero_le _⟩ (fun ov w' H locs hp hP hD hS => ?_)
      obtain ⟨rfl, rfl⟩ := hp
      refine W.eq (g2 := F0 m 41 ls []) rfl ?_
      refine lv_aload_n hx hb dX4_wantsItem_41 rfl (lv_at hl 2 rfl) ?_
      refine va_get (ci := 4) (v := .int 0) hx hb hts wx_X4 hown hK hP 0 rfl rfl 12 (by decide) (hts _ wf_X4_234) (fun _ h9 => h9) rfl dX4_wantsItem_42 ?_
      refine lv_if_eq (tgt := 49) hx hb dX4_wantsItem_45 rfl (fun c45 => ?_) (fun c45 => ?_)
      · refine lv_aload_n hx hb dX4_wantsItem_49 rfl (lv_at hl 2 rfl) ?_
        refine va_get (ci := 4) (v := .ref (A 1)) hx hb hts wx_X4 hown hK hP 0 rfl rfl 0 (by decide) (hts _ wf_X4_7) (fun _ h9 => h9) rfl dX4_wantsItem_50 ?_
        refine lv_iload_n hx hb dX4_wantsItem_53 rfl (lv_at hl 1 rfl) ?_
        refine lv_iconst (v := 5) hx hb dX4_wantsItem_54 rfl ?_
        refine ro_S (w := []) (rest := [.ref (A 1)]) S hK va_P0 (k_X4_spot u15 5) gs_X4_45 hd_X4_spot ⟨Nat.le_of_ble_eq_true rfl, Nat.le_of_ble_eq_true rfl⟩ rfl hl.1 (lv_room (Nat.le_of_ble_eq_true rfl)) dX4_wantsItem_55 ⟨Nat.zero_le _, Nat.zero_le _⟩ ?_
        refine lv_iload_n hx hb dX4_wantsItem_58 rfl (lv_at hl 0 rfl) ?_
        refine ia_st hx hb hK hP hD hS 1 0 rfl rfl (9 * u15 + 5 + 3) (rfl) (by omega) (by decide) dX4_wantsItem_59 (fun H locs hP hD hS => ?_)
        have hP : va_P D vwCl (MW cI cJ A (upd sS (9 * u15 + 5 + 3) (wantS tp d (nxt tp d (nxt tp d f)))) kS oS aS tS ik cA tp (nI d) (nI (nxt tp d (nxt tp d (nxt tp d f)))) (nI (tkE tp d (nxt tp d (nxt tp d (nxt tp d f))))) (numV tp d (nxt tp d f)) 0 bO sO nU mV) H := hP
        have hD : va_D _ (MW cI cJ A (upd sS (9 * u15 + 5 + 3) (wantS tp d (nxt tp d (nxt tp d f)))) kS oS aS tS ik cA tp (nI d) (nI (nxt tp d (nxt tp d (nxt tp d f)))) (nI (tkE tp d (nxt tp d (nxt tp d (nxt tp d f))))) (numV tp d (nxt tp d f)) 0 bO sO nU mV) := hD
        refine lv_iload_n hx hb dX4_wantsItem_60 rfl (lv_at hl 0 rfl) ?_
        refine lv_iconst (v := 1) hx hb dX4_wantsItem_61 rfl ?_
        refine lv_icmp_eq (tgt := 70) hx hb dX4_wantsItem_62 rfl (fun c62 => ?_) (fun c62 => ?_)
        · refine lv_aload_n hx hb dX4_wantsItem_70 rfl (lv_at hl 2 rfl) ?_
          refine lv_iconst (v := 0) hx hb dX4_wantsItem_71 rfl ?_
          refine lv_aload_n hx hb dX4_wantsItem_72 rfl (lv_at hl 2 rfl) ?_
          refine va_get (ci := 4) (v := .ref (A 1)) hx hb hts wx_X4 hown hK hP 0 rfl rfl 0 (by decide) (hts _ wf_X4_7) (fun _ h9 => h9) rfl dX4_wantsItem_73 ?_
          refine lv_iconst (v := 1) hx hb dX4_wantsItem_76 rfl ?_
          refine ia_ld hx hb hK hP 1 0 rfl rfl 1 (rfl) (by omega) (by decide) dX4_wantsItem_77 ?_
          refine w_i (z := nI n) (by rw [pk_un (by omega)]; exact hI.2.1) ?_
          refine lv_iconst (v := 1) hx hb dX4_wantsItem_78 rfl ?_
          refine lv_isub hx hb dX4_wantsItem_79 ?_
          rcases Bool.eq_false_or_eq_true (numT tp d (nxt tp d (nxt tp d (nxt tp d f))) (nI n - 1)) with n80 | n80
          · refine mu_W (w := (MW cI cJ A (upd sS (9 * u15 + 5 + 3) (wantS tp d (nxt tp d (nxt tp d f)))) kS oS aS tS ik cA tp (nI d) (nI (nxt tp d (nxt tp d (nxt tp d f)))) (nI (tkE tp d (nxt tp d (nxt tp d (nxt tp d f))))) (numV tp d (nxt tp d f)) 0 bO sO nU mV)) (rest := []) S hK hP hD hS (k_X4_number_t d (nxt tp d (nxt tp d (nxt tp d f))) ((nI n) - 1) hd (nxt_le (nxt_le (nxt_le (hf)))) n80) gv_X4_278 hd_X4_number ⟨Nat.le_of_ble_eq_true rfl, Nat.le_of_ble_eq_true rfl⟩ 4 rfl rfl rfl rfl hl.1 (lv_room (Nat.le_of_ble_eq_true rfl)) dX4_wantsItem_80 ⟨Nat.zero_le _, Nat.zero_le _⟩ (fun ov w' H locs hp hP hD hS => ?_)
            obtain ⟨rfl, rfl⟩ := hp
            refine W.eq (g2 := F0 m 83 ls []) rfl ?_
            refine lv_aload_n hx hb dX4_wantsItem_83 rfl (lv_at hl 2 rfl) ?_
            refine va_get (ci := 4) (v := .ref (A 1)) hx hb hts wx_X4 hown hK hP 0 rfl rfl 0 (by decide) (hts _ wf_X4_7) (fun _ h9 => h9) rfl dX4_wantsItem_84 ?_
            refine lv_iload_n hx hb dX4_wantsItem_87 rfl (lv_at hl 1 rfl) ?_
            refine lv_bipush (v := 6) hx hb dX4_wantsItem_88 rfl ?_
            refine ro_S (w := []) (rest := [.ref (A 1)]) S hK va_P0 (k_X4_spot u15 6) gs_X4_45 hd_X4_spot ⟨Nat.le_of_ble_eq_true rfl, Nat.le_of_ble_eq_true rfl⟩ rfl hl.1 (lv_room (Nat.le_of_ble_eq_true rfl)) dX4_wantsItem_90 ⟨Nat.zero_le _, Nat.zero_le _⟩ ?_
            refine lv_aload_n hx hb dX4_wantsItem_93 rfl (lv_at hl 2 rfl) ?_
            refine va_get (ci := 4) (v := .int (numV tp d (nxt tp d (nxt tp d (nxt tp d f))))) hx hb hts wx_X4 hown hK hP 0 rfl rfl 11 (by decide) (hts _ wf_X4_245) (fun _ h9 => h9) rfl dX4_wantsItem_94 ?_
            refine ia_st hx hb hK hP hD hS 1 0 rfl rfl (9 * u15 + 6 + 3) (rfl) (by omega) (by decide) dX4_wantsItem_97 (fun H locs hP hD hS => ?_)
            have hP : va_P D vwCl (MW cI cJ A (upd (upd sS (9 * u15 + 5 + 3) (wantS tp d (nxt tp d (nxt tp d f)))) (9 * u15 + 6 + 3) (numV tp d (nxt tp d (nxt tp d (nxt tp d f))))) kS oS aS tS ik cA tp (nI d) (nI (nxt tp d (nxt tp d (nxt tp d (nxt tp d f))))) (nI (tkE tp d (nxt tp d (nxt tp d (nxt tp d (nxt tp d f)))))) (numV tp d (nxt tp d (nxt tp d (nxt tp d f)))) 0 bO sO nU mV) H := hP
            have hD : va_D _ (MW cI cJ A (upd (upd sS (9 * u15 + 5 + 3) (wantS tp d (nxt tp d (nxt tp d f)))) (9 * u15 + 6 + 3) (numV tp d (nxt tp d (nxt tp d (nxt tp d f))))) kS oS aS tS ik cA tp (nI d) (nI (nxt tp d (nxt tp d (nxt tp d (nxt tp d f))))) (nI (tkE tp d (nxt tp d (nxt tp d (nxt tp d (nxt tp d f)))))) (numV tp d (nxt tp d (nxt tp d (nxt tp d f)))) 0 bO sO nU mV) := hD
            exact mu_vret (MW cI cJ A (upd (upd sS (9 * u15 + 5 + 3) (wantS tp d (nxt tp d (nxt tp d f)))) (9 * u15 + 6 + 3) (numV tp d (nxt tp d (nxt tp d (nxt tp d f))))) kS oS aS tS ik cA tp (nI d) (nI (nxt tp d (nxt tp d (nxt tp d (nxt tp d f))))) (nI (tkE tp d (nxt tp d (nxt tp d (nxt tp d (nxt tp d f)))))) (numV tp d (nxt tp d (nxt tp d (nxt tp d f)))) 0 bO sO nU mV) hx hb hr hlk hP hS rfl (⟨(upd (upd sS (9 * u15 + 5 + 3) (wantS tp d (nxt tp d (nxt tp d f)))) (9 * u15 + 6 + 3) (numV tp d (nxt tp d (nxt tp d (nxt tp d f))))), (nI (nxt tp d (nxt tp d (nxt tp d (nxt tp d f))))), (nI (tkE tp d (nxt tp d (nxt tp d (nxt tp d (nxt tp d f)))))), (numV tp d (nxt tp d (nxt tp d (nxt tp d f)))), 0, rfl, by simp [itR, wantsI, c30, c45, c62, n15, eu15, ec15, n80, put9], rfl⟩) dX4_wantsItem_98
          · refine mu_W (w := (MW cI cJ A (upd sS (9 * u15 + 5 + 3) (wantS tp d (nxt tp d (nxt tp d f)))) kS oS aS tS ik cA tp (nI d) (nI (nxt tp d (nxt tp d (nxt tp d f)))) (nI (tkE tp d (nxt tp d (nxt tp d (nxt tp d f))))) (numV tp d (nxt tp d f)) 0 bO sO nU mV)) (rest := []) S hK hP hD hS (k_X4_number_f d (nxt tp d (nxt tp d (nxt tp d f))) ((nI n) - 1) hd (nxt_le (nxt_le (nxt_le (hf)))) n80) gv_X4_278 hd_X4_number ⟨Nat.le_of_ble_eq_true rfl, Nat.le_of_ble_eq_true rfl⟩ 4 rfl rfl rfl rfl hl.1 (lv_room (Nat.le_of_ble_eq_true rfl)) dX4_wantsItem_80 ⟨Nat.zero_le _, Nat.zero_le _⟩ (fun ov w' H locs hp hP hD hS => ?_)
            obtain ⟨v80, rfl, rfl⟩ := hp
            refine W.eq (g2 := F0 m 83 ls []) rfl ?_
            refine lv_aload_n hx hb dX4_wantsItem_83 rfl (lv_at hl 2 rfl) ?_
            refine va_get (ci := 4) (v := .ref (A 1)) hx hb hts wx_X4 hown hK hP 0 rfl rfl 0 (by decide) (hts _ wf_X4_7) (fun _ h9 => h9) rfl dX4_wantsItem_84 ?_
            refine lv_iload_n hx hb dX4_wantsItem_87 rfl (lv_at hl 1 rfl) ?_
            refine lv_bipush (v := 6) hx hb dX4_wantsItem_88 rfl ?_
            refine ro_S (w := []) (rest := [.ref (A 1)]) S hK va_P0 (k_X4_spot u15 6) gs_X4_45 hd_X4_spot ⟨Nat.le_of_ble_eq_true rfl, Nat.le_of_ble_eq_true rfl⟩ rfl hl.1 (lv_room (Nat.le_of_ble_eq_true rfl)) dX4_wantsItem_90 ⟨Nat.zero_le _, Nat.zero_le _⟩ ?_
            refine lv_aload_n hx hb dX4_wantsItem_93 rfl (lv_at hl 2 rfl) ?_
            refine va_get (ci := 4) (v := .int v80) hx hb hts wx_X4 hown hK hP 0 rfl rfl 11 (by decide) (hts _ wf_X4_245) (fun _ h9 => h9) rfl dX4_wantsItem_94 ?_
            refine ia_st hx hb hK hP hD hS 1 0 rfl rfl (9 * u15 + 6 + 3) (rfl) (by omega) (by decide) dX4_wantsItem_97 (fun H locs hP hD hS => ?_)
            have hP : va_P D vwCl (MW cI cJ A (upd (upd sS (9 * u15 + 5 + 3) (wantS tp d (nxt tp d (nxt tp d f)))) (9 * u15 + 6 + 3) v80) kS oS aS tS ik cA tp (nI d) (nI (nxt tp d (nxt tp d (nxt tp d f)))) (nI (tkE tp d (nxt tp d (nxt tp d (nxt tp d f))))) v80 1 bO sO nU mV) H := hP
            have hD : va_D _ (MW cI cJ A (upd (upd sS (9 * u15 + 5 + 3) (wantS tp d (nxt tp d (nxt tp d f)))) (9 * u15 + 6 + 3) v80) kS oS aS tS ik cA tp (nI d) (nI (nxt tp d (nxt tp d (nxt tp d f)))) (nI (tkE tp d (nxt tp d (nxt tp d (nxt tp d f))))) v80 1 bO sO nU mV) := hD
            exact mu_vret (MW cI cJ A (upd (upd sS (9 * u15 + 5 + 3) (wantS tp d (nxt tp d (nxt tp d f)))) (9 * u15 + 6 + 3) v80) kS oS aS tS ik cA tp (nI d) (nI (nxt tp d (nxt tp d (nxt tp d f)))) (nI (tkE tp d (nxt tp d (nxt tp d (nxt tp d f))))) v80 1 bO sO nU mV) hx hb hr hlk hP hS rfl (⟨(upd (upd sS (9 * u15 + 5 + 3) (wantS tp d (nxt tp d (nxt tp d f)))) (9 * u15 + 6 + 3) v80), (nI (nxt tp d (nxt tp d (nxt tp d f)))), (nI (tkE tp d (nxt tp d (nxt tp d (nxt tp d f))))), v80, 1, rfl, by simp [itR, wantsI, c30, c45, c62, n15, eu15, ec15, n80, put9], rfl⟩) dX4_wantsItem_98
        · refine lv_iload_n hx hb dX4_wantsItem_65 rfl (lv_at hl 0 rfl) ?_
          refine lv_iconst (v := 2) hx hb dX4_wantsItem_66 rfl ?_
          refine lv_icmp_ne (tgt := 98) hx hb dX4_wantsItem_67 rfl (fun c67 => ?_) (fun c67 => ?_)
          · exact mu_vret (MW cI cJ A (upd sS (9 * u15 + 5 + 3) (wantS tp d (nxt tp d (nxt tp d f)))) kS oS aS tS ik cA tp (nI d) (nI (nxt tp d (nxt tp d (nxt tp d f)))) (nI (tkE tp d (nxt tp d (nxt tp d (nxt tp d f))))) (numV tp d (nxt tp d f)) 0 bO sO nU mV) hx hb hr hlk hP hS rfl (⟨(upd sS (9 * u15 + 5 + 3) (wantS tp d (nxt tp d (nxt tp d f)))), (nI (nxt tp d (nxt tp d (nxt tp d f)))), (nI (tkE tp d (nxt tp d (nxt tp d (nxt tp d f))))), (numV tp d (nxt tp d f)), 0, rfl, by simp [itR, wantsI, c30, c45, c62, c67, n15, eu15, ec15, put9], rfl⟩) dX4_wantsItem_98
          · refine lv_aload_n hx hb dX4_wantsItem_70 rfl (lv_at hl 2 rfl) ?_
            refine lv_iconst (v := 0) hx hb dX4_wantsItem_71 rfl ?_
            refine lv_aload_n hx hb dX4_wantsItem_72 rfl (lv_at hl 2 rfl) ?_
            refine va_get (ci := 4) (v := .ref (A 1)) hx hb hts wx_X4 hown hK hP 0 rfl rfl 0 (by decide) (hts _ wf_X4_7) (fun _ h9 => h9) rfl dX4_wantsItem_73 ?_
            refine lv_iconst (v := 1) hx hb dX4_wantsItem_76 rfl ?_
            refine ia_ld hx hb hK hP 1 0 rfl rfl 1 (rfl) (by omega) (by decide) dX4_wantsItem_77 ?_
            refine w_i (z := nI n) (by rw [pk_un (by omega)]; exact hI.2.1) ?_
            refine lv_iconst (v := 1) hx hb dX4_wantsItem_78 rfl ?_
            refine lv_isub hx hb dX4_wantsItem_79 ?_
            rcases Bool.eq_false_or_eq_true (numT tp d (nxt tp d (nxt tp d (nxt tp d f))) (nI n - 1)) with n80 | n80
            · refine mu_W (w := (MW cI cJ A (upd sS (9 * u15 + 5 + 3) (wantS tp d (nxt tp d (nxt tp d f)))) kS oS aS tS ik cA tp (nI d) (nI (nxt tp d (nxt tp d (nxt tp d f)))) (nI (tkE tp d (nxt tp d (nxt tp d (nxt tp d f))))) (numV tp d (nxt tp d f)) 0 bO sO nU mV)) (rest := []) S hK hP hD hS (k_X4_number_t d (nxt tp d (nxt tp d (nxt tp d f))) ((nI n) - 1) hd (nxt_le (nxt_le (nxt_le (hf)))) n80) gv_X4_278 hd_X4_number ⟨Nat.le_of_ble_eq_true rfl, Nat.le_of_ble_eq_true rfl⟩ 4 rfl rfl rfl rfl hl.1 (lv_room (Nat.le_of_ble_eq_true rfl)) dX4_wantsItem_80 ⟨Nat.zero_le _, Nat.zero_le _⟩ (fun ov w' H locs hp hP hD hS => ?_)
              obtain ⟨rfl, rfl⟩ := hp
              refine W.eq (g2 := F0 m 83 ls []) rfl ?_
              refine lv_aload_n hx hb dX4_wantsItem_83 rfl (lv_at hl 2 rfl) ?_
              refine va_get (ci := 4) (v := .ref (A 1)) hx hb hts wx_X4 hown hK hP 0 rfl rfl 0 (by decide) (hts _ wf_X4_7) (fun _ h9 => h9) rfl dX4_wantsItem_84 ?_
              refine lv_iload_n hx hb dX4_wantsItem_87 rfl (lv_at hl 1 rfl) ?_
              refine lv_bipush (v := 6) hx hb dX4_wantsItem_88 rfl ?_
              refine ro_S (w := []) (rest := [.ref (A 1)]) S hK va_P0 (k_X4_spot u15 6) gs_X4_45 hd_X4_spot ⟨Nat.le_of_ble_eq_true rfl, Nat.le_of_ble_eq_true rfl⟩ rfl hl.1 (lv_room (Nat.le_of_ble_eq_true rfl)) dX4_wantsItem_90 ⟨Nat.zero_le _, Nat.zero_le _⟩ ?_
              refine lv_aload_n hx hb dX4_wantsItem_93 rfl (lv_at hl 2 rfl) ?_
              refine va_get (ci := 4) (v := .int (numV tp d (nxt tp d (nxt tp d (nxt tp d f))))) hx hb hts wx_X4 hown hK hP 0 rfl rfl 11 (by decide) (hts _ wf_X4_245) (fun _ h9 => h9) rfl dX4_wantsItem_94 ?_
              refine ia_st hx hb hK hP hD hS 1 0 rfl rfl (9 * u15 + 6 + 3) (rfl) (by omega) (by decide) dX4_wantsItem_97 (fun H locs hP hD hS => ?_)
              have hP : va_P D vwCl (MW cI cJ A (upd (upd sS (9 * u15 + 5 + 3) (wantS tp d (nxt tp d (nxt tp d f)))) (9 * u15 + 6 + 3) (numV tp d (nxt tp d (nxt tp d (nxt tp d f))))) kS oS aS tS ik cA tp (nI d) (nI (nxt tp d (nxt tp d (nxt tp d (nxt tp d f))))) (nI (tkE tp d (nxt tp d (nxt tp d (nxt tp d (nxt tp d f)))))) (numV tp d (nxt tp d (nxt tp d (nxt tp d f)))) 0 bO sO nU mV) H := hP
              have hD : va_D _ (MW cI cJ A (upd (upd sS (9 * u15 + 5 + 3) (wantS tp d (nxt tp d (nxt tp d f)))) (9 * u15 + 6 + 3) (numV tp d (nxt tp d (nxt tp d (nxt tp d f))))) kS oS aS tS ik cA tp (nI d) (nI (nxt tp d (nxt tp d (nxt tp d (nxt tp d f))))) (nI (tkE tp d (nxt tp d (nxt tp d (nxt tp d (nxt tp d f)))))) (numV tp d (nxt tp d (nxt tp d (nxt tp d f)))) 0 bO sO nU mV) := hD
              exact mu_vret (MW cI cJ A (upd (upd sS (9 * u15 + 5 + 3) (wantS tp d (nxt tp d (nxt tp d f)))) (9 * u15 + 6 + 3) (numV tp d (nxt tp d (nxt tp d (nxt tp d f))))) kS oS aS tS ik cA tp (nI d) (nI (nxt tp d (nxt tp d (nxt tp d (nxt tp d f))))) (nI (tkE tp d (nxt tp d (nxt tp d (nxt tp d (nxt tp d f)))))) (numV tp d (nxt tp d (nxt tp d (nxt tp d f)))) 0 bO sO nU mV) hx hb hr hlk hP hS rfl (⟨(upd (upd sS (9 * u15 + 5 + 3) (wantS tp d (nxt tp d (nxt tp d f)))) (9 * u15 + 6 + 3) (numV tp d (nxt tp d (nxt tp d (nxt tp d f))))), (nI (nxt tp d (nxt tp d (nxt tp d (nxt tp d f))))), (nI (tkE tp d (nxt tp d (nxt tp d (nxt tp d (nxt tp d f)))))), (numV tp d (nxt tp d (nxt tp d (nxt tp d f)))), 0, rfl, by simp [itR, wantsI, c30, c45, c62, c67, n15, eu15, ec15, n80, put9], rfl⟩) dX4_wantsItem_98
            · refine mu_W (w := (MW cI cJ A (upd sS (9 * u15 + 5 + 3) (wantS tp d (nxt tp d (nxt tp d f)))) kS oS aS tS ik cA tp (nI d) (nI (nxt tp d (nxt tp d (nxt tp d f)))) (nI (tkE tp d (nxt tp d (nxt tp d (nxt tp d f))))) (numV tp d (nxt tp d f)) 0 bO sO nU mV)) (rest := []) S hK hP hD hS (k_X4_number_f d (nxt tp d (nxt tp d (nxt tp d f))) ((nI n) - 1) hd (nxt_le (nxt_le (nxt_le (hf)))) n80) gv_X4_278 hd_X4_number ⟨Nat.le_of_ble_eq_true rfl, Nat.le_of_ble_eq_true rfl⟩ 4 rfl rfl rfl rfl hl.1 (lv_room (Nat.le_of_ble_eq_true rfl)) dX4_wantsItem_80 ⟨Nat.zero_le _, Nat.zero_le _⟩ (fun ov w' H locs hp hP hD hS => ?_)
              obtain ⟨v80, rfl, rfl⟩ := hp
              refine W.eq (g2 := F0 m 83 ls []) rfl ?_
              refine lv_aload_n hx hb dX4_wantsItem_83 rfl (lv_at hl 2 rfl) ?_
              refine va_get (ci := 4) (v := .ref (A 1)) hx hb hts wx_X4 hown hK hP 0 rfl rfl 0 (by decide) (hts _ wf_X4_7) (fun _ h9 => h9) rfl dX4_wantsItem_84 ?_
              refine lv_iload_n hx hb dX4_wantsItem_87 rfl (lv_at hl 1 rfl) ?_
              refine lv_bipush (v := 6) hx hb dX4_wantsItem_88 rfl ?_
              refine ro_S (w := []) (rest := [.ref (A 1)]) S hK va_P0 (k_X4_spot u15 6) gs_X4_45 hd_X4_spot ⟨Nat.le_of_ble_eq_true rfl, Nat.le_of_ble_eq_true rfl⟩ rfl hl.1 (lv_room (Nat.le_of_ble_eq_true rfl)) dX4_wantsItem_90 ⟨Nat.zero_le _, Nat.zero_le _⟩ ?_
              refine lv_aload_n hx hb dX4_wantsItem_93 rfl (lv_at hl 2 rfl) ?_
              refine va_get (ci := 4) (v := .int v80) hx hb hts wx_X4 hown hK hP 0 rfl rfl 11 (by decide) (hts _ wf_X4_245) (fun _ h9 => h9) rfl dX4_wantsItem_94 ?_
              refine ia_st hx hb hK hP hD hS 1 0 rfl rfl (9 * u15 + 6 + 3) (rfl) (by omega) (by decide) dX4_wantsItem_97 (fun H locs hP hD hS => ?_)
              have hP : va_P D vwCl (MW cI cJ A (upd (upd sS (9 * u15 + 5 + 3) (wantS tp d (nxt tp d (nxt tp d f)))) (9 * u15 + 6 + 3) v80) kS oS aS tS ik cA tp (nI d) (nI (nxt tp d (nxt tp d (nxt tp d f)))) (nI (tkE tp d (nxt tp d (nxt tp d (nxt tp d f))))) v80 1 bO sO nU mV) H := hP
              have hD : va_D _ (MW cI cJ A (upd (upd sS (9 * u15 + 5 + 3) (wantS tp d (nxt tp d (nxt tp d f)))) (9 * u15 + 6 + 3) v80) kS oS aS tS ik cA tp (nI d) (nI (nxt tp d (nxt tp d (nxt tp d f)))) (nI (tkE tp d (nxt tp d (nxt tp d (nxt tp d f))))) v80 1 bO sO nU mV) := hD
              exact mu_vret (MW cI cJ A (upd (upd sS (9 * u15 + 5 + 3) (wantS tp d (nxt tp d (nxt tp d f)))) (9 * u15 + 6 + 3) v80) kS oS aS tS ik cA tp (nI d) (nI (nxt tp d (nxt tp d (nxt tp d f)))) (nI (tkE tp d (nxt tp d (nxt tp d (nxt tp d f))))) v80 1 bO sO nU mV) hx hb hr hlk hP hS rfl (⟨(upd (upd sS (9 * u15 + 5 + 3) (wantS tp d (nxt tp d (nxt tp d f)))) (9 * u15 + 6 + 3) v80), (nI (nxt tp d (nxt tp d (nxt tp d f)))), (nI (tkE tp d (nxt tp d (nxt tp d (nxt tp d f))))), v80, 1, rfl, by simp [itR, wantsI, c30, c45, c62, c67, n15, eu15, ec15, n80, put9], rfl⟩) dX4_wantsItem_98
      · exact absurd c45 (by decide)
  · refine mu_W (w := (MW cI cJ A sS kS oS aS tS ik cA tp (nI d) (nI (nxt tp d f)) (nI (tkE tp d (nxt tp d f))) vl 0 bO sO nU mV)) (rest := []) S hK hP hD hS (k_X4_number_f d (nxt tp d f) ((nI n) - 1) hd (nxt_le (hf)) n15) gv_X4_278 hd_X4_number ⟨Nat.le_of_ble_eq_true rfl, Nat.le_of_ble_eq_true rfl⟩ 4 rfl rfl rfl rfl hl.1 (lv_room (Nat.le_of_ble_eq_true rfl)) dX4_wantsItem_15 ⟨Nat.zero_le _, Nat.zero_le _⟩ (fun ov w' H locs hp hP hD hS => ?_)
    obtain ⟨v15, rfl, rfl⟩ := hp
    refine W.eq (g2 := F0 m 18 ls []) rfl ?_
    refine lv_aload_n hx hb dX4_wantsItem_18 rfl (lv_at hl 0 rfl) ?_
    refine va_get (ci := 4) (v := .int v15) hx hb hts wx_X4 hown hK hP 0 rfl rfl 11 (by decide) (hts _ wf_X4_245) (fun _ h9 => h9) rfl dX4_wantsItem_19 ?_
    refine lv_istore_n (lv' := [(1, .int v15), (0, .ref (A 0))]) hx hb dX4_wantsItem_22 rfl hl (by decide) rfl (fun ls hl => ?_)
    refine lv_aload_n hx hb dX4_wantsItem_23 rfl (lv_at hl 1 rfl) ?_
    refine ro_V (w := (MW cI cJ A sS kS oS aS tS ik cA tp (nI d) (nI (nxt tp d f)) (nI (tkE tp d (nxt tp d f))) v15 1 bO sO nU mV)) (rest := []) S hK hP (k_X4_wantHere_w d (nxt tp d f) hd (nxt_le (hf))) gv_X4_284 hd_X4_wantHere ⟨Nat.le_of_ble_eq_true rfl, Nat.le_of_ble_eq_true rfl⟩ 4 rfl rfl rfl rfl hl.1 (lv_room (Nat.le_of_ble_eq_true rfl)) dX4_wantsItem_24 ⟨Nat.zero_le _, Nat.zero_le _⟩ ?_
    refine lv_istore_n (lv' := [(2, .int (-1)), (1, .int v15), (0, .ref (A 0))]) hx hb dX4_wantsItem_27 rfl hl (by decide) rfl (fun ls hl => ?_)
    refine lv_aload_n hx hb dX4_wantsItem_28 rfl (lv_at hl 2 rfl) ?_
    refine lv_iload_n hx hb dX4_wantsItem_29 rfl (lv_at hl 0 rfl) ?_
    refine lv_if_lt (tgt := 37) hx hb dX4_wantsItem_30 rfl (fun c30 => ?_) (fun c30 => ?_)
    · refine lv_iconst (v := 0) hx hb dX4_wantsItem_37 rfl ?_
      refine mu_W (w := (MW cI cJ A sS kS oS aS tS ik cA tp (nI d) (nI (nxt tp d f)) (nI (tkE tp d (nxt tp d f))) v15 1 bO sO nU mV)) (rest := []) S hK hP hD hS (k_X4_must_w d (nxt tp d f) 0 hd (nxt_le (hf))) gv_X4_248 hd_X4_must ⟨Nat.le_of_ble_eq_true rfl, Nat.le_of_ble_eq_true rfl⟩ 4 rfl rfl rfl rfl hl.1 (lv_room (Nat.le_of_ble_eq_true rfl)) dX4_wantsItem_38 ⟨Nat.zero_le _, Nat.zero_le _⟩ (fun ov w' H locs hp hP hD hS => ?_)
      obtain ⟨rfl, rfl⟩ := hp
      refine W.eq (g2 := F0 m 41 ls []) rfl ?_
      refine lv_aload_n hx hb dX4_wantsItem_41 rfl (lv_at hl 2 rfl) ?_
      refine va_get (ci := 4) (v := .int 1) hx hb hts wx_X4 hown hK hP 0 rfl rfl 12 (by decide) (hts _ wf_X4_234) (fun _ h9 => h9) rfl dX4_wantsItem_42 ?_
      refine lv_if_eq (tgt := 49) hx hb dX4_wantsItem_45 rfl (fun c45 => ?_) (fun c45 => ?_)
      · exact absurd c45 (by decide)
      · exact mu_vret (MW cI cJ A sS kS oS aS tS ik cA tp (nI d) (nI (nxt tp d f)) (nI (tkE tp d (nxt tp d f))) v15 1 bO sO nU mV) hx hb hr hlk hP hS rfl (⟨sS, (nI (nxt tp d f)), (nI (tkE tp d (nxt tp d f))), v15, 1, rfl, by simp [itR, wantsI, c30, c45, n15, put9], rfl⟩) dX4_wantsItem_48
    · exact absurd c30 (by decide)

set_option maxHeartbeats 4000000 in
set_option maxRecDepth 100000 in
theorem k_X4_outItem (n : Nat) (d : Nat) (f : Nat) (o : Int32) (hI : Inv sS n) (hd : d ≤ 120) (hf : f ≤ d) : MU l D (tyA cI cJ cO) yX4_outItem cX4_outItem 2 none 5 113 [.ref (A 0), .int o] (MW cI cJ A sS kS oS aS tS ik cA tp (nI d) (nI f) (nI (tkE tp d f)) vl 0 bO sO nU mV) (fun ov w' => ∃ (s9 : Nat → Int32) (f9 t9 v9 w9 : Int32), ov = none ∧ itR tp d (outI tp d sS n f o) s9 f9 t9 w9 ∧ w' = (MW cI cJ A s9 kS oS aS tS ik cA tp (nI d) f9 t9 v9 w9 bO sO nU mV)) := by
  refine MU.mk (by decide) (Nat.le_of_ble_eq_true rfl) ?_
  intro p e s m below meth c ls S hr hlk hP hK hD hS hl
  have S : CallFix p m c cX4_outItem 2 s _ WL RX4 := S
  obtain ⟨hx, hb, hml, hown, hts⟩ := id S
  have hl : lv_has ls 2 [(0, .ref (A 0)), (1, .int o)] := hl
  have h8 : n ≤ 8 := hI.1
  refine lv_aload_n hx hb dX4_outItem_0 rfl (lv_at hl 0 rfl) ?_
  refine lv_iconst (v := 1) hx hb dX4_outItem_1 rfl ?_
  refine mu_W (w := (MW cI cJ A sS kS oS aS tS ik cA tp (nI d) (nI f) (nI (tkE tp d f)) vl 0 bO sO nU mV)) (rest := []) S hK hP hD hS (k_X4_must_t d f hd (hf)) gv_X4_248 hd_X4_must ⟨Nat.le_of_ble_eq_true rfl, Nat.le_of_ble_eq_true rfl⟩ 4 rfl rfl rfl rfl hl.1 (lv_room (Nat.le_of_ble_eq_true rfl)) dX4_outItem_2 ⟨Nat.zero_le _, Nat.zero_le _⟩ (fun ov w' H locs hp hP hD hS => ?_)
  obtain ⟨rfl, rfl⟩ := hp
  refine W.eq (g2 := F0 m 5 ls []) rfl ?_
  refine lv_aload_n hx hb dX4_outItem_5 rfl (lv_at hl 0 rfl) ?_
  refine lv_iconst (v := 0) hx hb dX4_outItem_6 rfl ?_
  refine lv_aload_n hx hb dX4_outItem_7 rfl (lv_at hl 0 rfl) ?_
  refine va_get (ci := 4) (v := .ref (A 1)) hx hb hts wx_X4 hown hK hP 0 rfl rfl 0 (by decide) (hts _ wf_X4_7) (fun _ h9 => h9) rfl dX4_outItem_8 ?_
  refine lv_iconst (v := 1) hx hb dX4_outItem_11 rfl ?_
  refine ia_ld hx hb hK hP 1 0 rfl rfl 1 (rfl) (by omega) (by decide) dX4_outItem_12 ?_
  refine w_i (z := nI n) (hI.2.1) ?_
  refine lv_iconst (v := 1) hx hb dX4_outItem_13 rfl ?_
  refine lv_isub hx hb dX4_outItem_14 ?_
  rcases Bool.eq_false_or_eq_true (numT tp d (nxt tp d f) (nI n - 1)) with n15 | n15
  · obtain ⟨u15, hu15, eu15⟩ := numT_f h8 n15
    have ec15 : cl (nI u15) = u15 := cl_nI (by omega)
    refine mu_W (w := (MW cI cJ A sS kS oS aS tS ik cA tp (nI d) (nI (nxt tp d f)) (nI (tkE tp d (nxt tp d f))) vl 0 bO sO nU mV)) (rest := []) S hK hP hD hS (k_X4_number_t d (nxt tp d f) ((nI n) - 1) hd (nxt_le (hf)) n15) gv_X4_278 hd_X4_number ⟨Nat.le_of_ble_eq_true rfl, Nat.le_of_ble_eq_true rfl⟩ 4 rfl rfl rfl rfl hl.1 (lv_room (Nat.le_of_ble_eq_true rfl)) dX4_outItem_15 ⟨Nat.zero_le _, Nat.zero_le _⟩ (fun ov w' H locs hp hP hD hS => ?_)
    obtain ⟨rfl, rfl⟩ := hp
    refine W.eq (g2 := F0 m 18 ls []) rfl ?_
    refine lv_aload_n hx hb dX4_outItem_18 rfl (lv_at hl 0 rfl) ?_
    refine va_get (ci := 4) (v := .int 0) hx hb hts wx_X4 hown hK hP 0 rfl rfl 12 (by decide) (hts _ wf_X4_234) (fun _ h9 => h9) rfl dX4_outItem_19 ?_
    refine lv_if_ne (tgt := 40) hx hb dX4_outItem_22 rfl (fun c22 => ?_) (fun c22 => ?_)
    · exact absurd c22 (by decide)
    · refine lv_aload_n hx hb dX4_outItem_25 rfl (lv_at hl 0 rfl) ?_
      refine va_get (ci := 4) (v := .ref (A 1)) hx hb hts wx_X4 hown hK hP 0 rfl rfl 0 (by decide) (hts _ wf_X4_7) (fun _ h9 => h9) rfl dX4_outItem_26 ?_
      refine lv_aload_n hx hb dX4_outItem_29 rfl (lv_at hl 0 rfl) ?_
      refine va_get (ci := 4) (v := .int (numV tp d (nxt tp d f))) hx hb hts wx_X4 hown hK hP 0 rfl rfl 11 (by decide) (hts _ wf_X4_245) (fun _ h9 => h9) rfl dX4_outItem_30 ?_
      refine w_i (z := nI u15) (eu15) ?_
      refine lv_bipush (v := 7) hx hb dX4_outItem_33 rfl ?_
      refine ro_S (w := []) (rest := [.ref (A 1)]) S hK va_P0 (k_X4_spot u15 7) gs_X4_45 hd_X4_spot ⟨Nat.le_of_ble_eq_true rfl, Nat.le_of_ble_eq_true rfl⟩ rfl hl.1 (lv_room (Nat.le_of_ble_eq_true rfl)) dX4_outItem_35 ⟨Nat.zero_le _, Nat.zero_le _⟩ ?_
      refine lv_iload_n hx hb dX4_outItem_38 rfl (lv_at hl 1 rfl) ?_
      refine ia_st hx hb hK hP hD hS 1 0 rfl rfl (9 * u15 + 7 + 3) (rfl) (by omega) (by decide) dX4_outItem_39 (fun H locs hP hD hS => ?_)
      have hP : va_P D vwCl (MW cI cJ A (upd sS (9 * u15 + 7 + 3) o) kS oS aS tS ik cA tp (nI d) (nI (nxt tp d (nxt tp d f))) (nI (tkE tp d (nxt tp d (nxt tp d f)))) (numV tp d (nxt tp d f)) 0 bO sO nU mV) H := hP
      have hD : va_D _ (MW cI cJ A (upd sS (9 * u15 + 7 + 3) o) kS oS aS tS ik cA tp (nI d) (nI (nxt tp d (nxt tp d f))) (nI (tkE tp d (nxt tp d (nxt tp d f)))) (numV tp d (nxt tp d f)) 0 bO sO nU mV) := hD
      exact mu_vret (MW cI cJ A (upd sS (9 * u15 + 7 + 3) o) kS oS aS tS ik cA tp (nI d) (nI (nxt tp d (nxt tp d f))) (nI (tkE tp d (nxt tp d (nxt tp d f)))) (numV tp d (nxt tp d f)) 0 bO sO nU mV) hx hb hr hlk hP hS rfl (⟨(upd sS (9 * u15 + 7 + 3) o), (nI (nxt tp d (nxt tp d f))), (nI (tkE tp d (nxt tp d (nxt tp d f)))), (numV tp d (nxt tp d f)), 0, rfl, by simp [itR, outI, c22, n15, eu15, ec15, put9], rfl⟩) dX4_outItem_40
  · refine mu_W (w := (MW cI cJ A sS kS oS aS tS ik cA tp (nI d) (nI (nxt tp d f)) (nI (tkE tp d (nxt tp d f))) vl 0 bO sO nU mV)) (rest := []) S hK hP hD hS (k_X4_number_f d (nxt tp d f) ((nI n) - 1) hd (nxt_le (hf)) n15) gv_X4_278 hd_X4_number ⟨Nat.le_of_ble_eq_true rfl, Nat.le_of_ble_eq_true rfl⟩ 4 rfl rfl rfl rfl hl.1 (lv_room (Nat.le_of_ble_eq_true rfl)) dX4_outItem_15 ⟨Nat.zero_le _, Nat.zero_le _⟩ (fun ov w' H locs hp hP hD hS => ?_)
    obtain ⟨v15, rfl, rfl⟩ := hp
    refine W.eq (g2 := F0 m 18 ls []) rfl ?_
    refine lv_aload_n hx hb dX4_outItem_18 rfl (lv_at hl 0 rfl) ?_
    refine va_get (ci := 4) (v := .int 1) hx hb hts wx_X4 hown hK hP 0 rfl rfl 12 (by decide) (hts _ wf_X4_234) (fun _ h9 => h9) rfl dX4_outItem_19 ?_
    refine lv_if_ne (tgt := 40) hx hb dX4_outItem_22 rfl (fun c22 => ?_) (fun c22 => ?_)
    · exact mu_vret (MW cI cJ A sS kS oS aS tS ik cA tp (nI d) (nI (nxt tp d f)) (nI (tkE tp d (nxt tp d f))) v15 1 bO sO nU mV) hx hb hr hlk hP hS rfl (⟨sS, (nI (nxt tp d f)), (nI (tkE tp d (nxt tp d f))), v15, 1, rfl, by simp [itR, outI, c22, n15, put9], rfl⟩) dX4_outItem_40
    · exact absurd c22 (by decide)

set_option maxHeartbeats 4000000 in
set_option maxRecDepth 100000 in
theorem k_X4_tackyItem (n : Nat) (d : Nat) (f : Nat) (hI : Inv sS n) (hd : d ≤ 120) (hf : f ≤ d) : MU l D (tyA cI cJ cO) yX4_tackyItem cX4_tackyItem 1 none 5 113 [.ref (A 0)] (MW cI cJ A sS kS oS aS tS ik cA tp (nI d) (nI f) (nI (tkE tp d f)) vl 0 bO sO nU mV) (fun ov w' => ∃ (s9 : Nat → Int32) (f9 t9 v9 w9 : Int32), ov = none ∧ itR tp d (tackI tp d sS n f) s9 f9 t9 w9 ∧ w' = (MW cI cJ A s9 kS oS aS tS ik cA tp (nI d) f9 t9 v9 w9 bO sO nU mV)) := by
  refine MU.mk (by decide) (Nat.le_of_ble_eq_true rfl) ?_
  intro p e s m below meth c ls S hr hlk hP hK hD hS hl
  have S : CallFix p m c cX4_tackyItem 1 s _ WL RX4 := S
  obtain ⟨hx, hb, hml, hown, hts⟩ := id S
  have hl : lv_has ls 1 [(0, .ref (A 0))] := hl
  have h8 : n ≤ 8 := hI.1
  refine lv_aload_n hx hb dX4_tackyItem_0 rfl (lv_at hl 0 rfl) ?_
  refine lv_iconst (v := 1) hx hb dX4_tackyItem_1 rfl ?_
  refine mu_W (w := (MW cI cJ A sS kS oS aS tS ik cA tp (nI d) (nI f) (nI (tkE tp d f)) vl 0 bO sO nU mV)) (rest := []) S hK hP hD hS (k_X4_must_t d f hd (hf)) gv_X4_248 hd_X4_must ⟨Nat.le_of_ble_eq_true rfl, Nat.le_of_ble_eq_true rfl⟩ 4 rfl rfl rfl rfl hl.1 (lv_room (Nat.le_of_ble_eq_true rfl)) dX4_tackyItem_2 ⟨Nat.zero_le _, Nat.zero_le _⟩ (fun ov w' H locs hp hP hD hS => ?_)
  obtain ⟨rfl, rfl⟩ := hp
  refine W.eq (g2 := F0 m 5 ls []) rfl ?_
  refine lv_aload_n hx hb dX4_tackyItem_5 rfl (lv_at hl 0 rfl) ?_
  refine lv_iconst (v := 0) hx hb dX4_tackyItem_6 rfl ?_
  refine lv_bipush (v := 8) hx hb dX4_tackyItem_7 rfl ?_
  rcases Bool.eq_false_or_eq_true (numT tp d (nxt tp d f) 8) with n9 | n9
  · refine mu_W (w := (MW cI cJ A sS kS oS aS tS ik cA tp (nI d) (nI (nxt tp d f)) (nI (tkE tp d (nxt tp d f))) vl 0 bO sO nU mV)) (rest := []) S hK hP hD hS (k_X4_number_t d (nxt tp d f) 8 hd (nxt_le (hf)) n9) gv_X4_278 hd_X4_number ⟨Nat.le_of_ble_eq_true rfl, Nat.le_of_ble_eq_true rfl⟩ 4 rfl rfl rfl rfl hl.1 (lv_room (Nat.le_of_ble_eq_true rfl)) dX4_tackyItem_9 ⟨Nat.zero_le _, Nat.zero_le _⟩ (fun ov w' H locs hp hP hD hS => ?_)
    obtain ⟨rfl, rfl⟩ := hp
    refine W.eq (g2 := F0 m 12 ls []) rfl ?_
    refine lv_aload_n hx hb dX4_tackyItem_12 rfl (lv_at hl 0 rfl) ?_
    refine va_get (ci := 4) (v := .ref (A 1)) hx hb hts wx_X4 hown hK hP 0 rfl rfl 0 (by decide) (hts _ wf_X4_7) (fun _ h9 => h9) rfl dX4_tackyItem_13 ?_
    refine lv_iconst (v := 2) hx hb dX4_tackyItem_16 rfl ?_
    refine lv_aload_n hx hb dX4_tackyItem_17 rfl (lv_at hl 0 rfl) ?_
    refine va_get (ci := 4) (v := .int 0) hx hb hts wx_X4 hown hK hP 0 rfl rfl 12 (by decide) (hts _ wf_X4_234) (fun _ h9 => h9) rfl dX4_tackyItem_18 ?_
    refine lv_if_eq (tgt := 33) hx hb dX4_tackyItem_21 rfl (fun c21 => ?_) (fun c21 => ?_)
    · refine lv_aload_n hx hb dX4_tackyItem_33 rfl (lv_at hl 0 rfl) ?_
      refine va_get (ci := 4) (v := .int (numV tp d (nxt tp d f))) hx hb hts wx_X4 hown hK hP 0 rfl rfl 11 (by decide) (hts _ wf_X4_245) (fun _ h9 => h9) rfl dX4_tackyItem_34 ?_
      refine ia_st hx hb hK hP hD hS 1 0 rfl rfl 2 (rfl) (by omega) (by decide) dX4_tackyItem_37 (fun H locs hP hD hS => ?_)
      have hP : va_P D vwCl (MW cI cJ A (upd sS 2 (numV tp d (nxt tp d f))) kS oS aS tS ik cA tp (nI d) (nI (nxt tp d (nxt tp d f))) (nI (tkE tp d (nxt tp d (nxt tp d f)))) (numV tp d (nxt tp d f)) 0 bO sO nU mV) H := hP
      have hD : va_D _ (MW cI cJ A (upd sS 2 (numV tp d (nxt tp d f))) kS oS aS tS ik cA tp (nI d) (nI (nxt tp d (nxt tp d f))) (nI (tkE tp d (nxt tp d (nxt tp d f)))) (numV tp d (nxt tp d f)) 0 bO sO nU mV) := hD
      exact mu_vret (MW cI cJ A (upd sS 2 (numV tp d (nxt tp d f))) kS oS aS tS ik cA tp (nI d) (nI (nxt tp d (nxt tp d f))) (nI (tkE tp d (nxt tp d (nxt tp d f)))) (numV tp d (nxt tp d f)) 0 bO sO nU mV) hx hb hr hlk hP hS rfl (⟨(upd sS 2 (numV tp d (nxt tp d f))), (nI (nxt tp d (nxt tp d f))), (nI (tkE tp d (nxt tp d (nxt tp d f)))), (numV tp d (nxt tp d f)), 0, rfl, by simp [itR, tackI, c21, n9, put9], rfl⟩) dX4_tackyItem_38
    · exact absurd c21 (by decide)
  · refine mu_W (w := (MW cI cJ A sS kS oS aS tS ik cA tp (nI d) (nI (nxt tp d f)) (nI (tkE tp d (nxt tp d f))) vl 0 bO sO nU mV)) (rest := []) S hK hP hD hS (k_X4_number_f d (nxt tp d f) 8 hd (nxt_le (hf)) n9) gv_X4_278 hd_X4_number ⟨Nat.le_of_ble_eq_true rfl, Nat.le_of_ble_eq_true rfl⟩ 4 rfl rfl rfl rfl hl.1 (lv_room (Nat.le_of_ble_eq_true rfl)) dX4_tackyItem_9 ⟨Nat.zero_le _, Nat.zero_le _⟩ (fun ov w' H locs hp hP hD hS => ?_)
    obtain ⟨v9, rfl, rfl⟩ := hp
    refine W.eq (g2 := F0 m 12 ls []) rfl ?_
    refine lv_aload_n hx hb dX4_tackyItem_12 rfl (lv_at hl 0 rfl) ?_
    refine va_get (ci := 4) (v := .ref (A 1)) hx hb hts wx_X4 hown hK hP 0 rfl rfl 0 (by decide) (hts _ wf_X4_7) (fun _ h9 => h9) rfl dX4_tackyItem_13 ?_
    refine lv_iconst (v := 2) hx hb dX4_tackyItem_16 rfl ?_
    refine lv_aload_n hx hb dX4_tackyItem_17 rfl (lv_at hl 0 rfl) ?_
    refine va_get (ci := 4) (v := .int 1) hx hb hts wx_X4 hown hK hP 0 rfl rfl 12 (by decide) (hts _ wf_X4_234) (fun _ h9 => h9) rfl dX4_tackyItem_18 ?_
    refine lv_if_eq (tgt := 33) hx hb dX4_tackyItem_21 rfl (fun c21 => ?_) (fun c21 => ?_)
    · exact absurd c21 (by decide)
    · refine lv_aload_n hx hb dX4_tackyItem_24 rfl (lv_at hl 0 rfl) ?_
      refine va_get (ci := 4) (v := .ref (A 1)) hx hb hts wx_X4 hown hK hP 0 rfl rfl 0 (by decide) (hts _ wf_X4_7) (fun _ h9 => h9) rfl dX4_tackyItem_25 ?_
      refine lv_iconst (v := 2) hx hb dX4_tackyItem_28 rfl ?_
      refine ia_ld hx hb hK hP 1 0 rfl rfl 2 (rfl) (by omega) (by decide) dX4_tackyItem_29 ?_
      refine lv_goto (tgt := 37) hx hb dX4_tackyItem_30 rfl ?_
      refine ia_st hx hb hK hP hD hS 1 0 rfl rfl 2 (rfl) (by omega) (by decide) dX4_tackyItem_37 (fun H locs hP hD hS => ?_)
      have hP : va_P D vwCl (MW cI cJ A (upd sS 2 (sS 2)) kS oS aS tS ik cA tp (nI d) (nI (nxt tp d f)) (nI (tkE tp d (nxt tp d f))) v9 1 bO sO nU mV) H := hP
      have hD : va_D _ (MW cI cJ A (upd sS 2 (sS 2)) kS oS aS tS ik cA tp (nI d) (nI (nxt tp d f)) (nI (tkE tp d (nxt tp d f))) v9 1 bO sO nU mV) := hD
      exact mu_vret (MW cI cJ A (upd sS 2 (sS 2)) kS oS aS tS ik cA tp (nI d) (nI (nxt tp d f)) (nI (tkE tp d (nxt tp d f))) v9 1 bO sO nU mV) hx hb hr hlk hP hS rfl (⟨(upd sS 2 (sS 2)), (nI (nxt tp d f)), (nI (tkE tp d (nxt tp d f))), v9, 1, rfl, by simp [itR, tackI, c21, n9, put9], rfl⟩) dX4_tackyItem_38

set_option maxHeartbeats 4000000 in
set_option maxRecDepth 100000 in
theorem k_X4_item (n : Nat) (d : Nat) (f : Nat) (hI : Inv sS n) (hd : d ≤ 120) (hf : f ≤ d) : MU l D (tyA cI cJ cO) yX4_item cX4_item 4 none 6 136 [.ref (A 0)] (MW cI cJ A sS kS oS aS tS ik cA tp (nI d) (nI f) (nI (tkE tp d f)) vl 0 bO sO nU mV) (fun ov w' => ∃ (s9 : Nat → Int32) (f9 t9 v9 w9 : Int32), ov = none ∧ itR tp d (itemI tp d sS n f) s9 f9 t9 w9 ∧ w' = (MW cI cJ A s9 kS oS aS tS ik cA tp (nI d) f9 t9 v9 w9 bO sO nU mV)) := by
  refine MU.mk (by decide) (Nat.le_of_ble_eq_true rfl) ?_
  intro p e s m below meth c ls S hr hlk hP hK hD hS hl
  have S : CallFix p m c cX4_item 4 s _ WL RX4 := S
  obtain ⟨hx, hb, hml, hown, hts⟩ := id S
  have hl : lv_has ls 4 [(0, .ref (A 0))] := hl
  have h8 : n ≤ 8 := hI.1
  refine lv_aload_n hx hb dX4_item_0 rfl (lv_at hl 0 rfl) ?_
  refine ro_V (w := (MW cI cJ A sS kS oS aS tS ik cA tp (nI d) (nI f) (nI (tkE tp d f)) vl 0 bO sO nU mV)) (rest := []) S hK hP (k_X4_kindHere_t d f hd (hf)) gv_X4_287 hd_X4_kindHere ⟨Nat.le_of_ble_eq_true rfl, Nat.le_of_ble_eq_true rfl⟩ 4 rfl rfl rfl rfl hl.1 (lv_room (Nat.le_of_ble_eq_true rfl)) dX4_item_1 ⟨Nat.zero_le _, Nat.zero_le _⟩ ?_
  refine lv_istore_n (lv' := [(1, .int (kindS tp d f)), (0, .ref (A 0))]) hx hb dX4_item_4 rfl hl (by decide) rfl (fun ls hl => ?_)
  refine lv_aload_n hx hb dX4_item_5 rfl (lv_at hl 1 rfl) ?_
  refine ro_V (w := (MW cI cJ A sS kS oS aS tS ik cA tp (nI d) (nI f) (nI (tkE tp d f)) vl 0 bO sO nU mV)) (rest := []) S hK hP (k_X4_word_t d f hd (hf)) gv_X4_252 hd_X4_word ⟨Nat.le_of_ble_eq_true rfl, Nat.le_of_ble_eq_true rfl⟩ 4 rfl rfl rfl rfl hl.1 (lv_room (Nat.le_of_ble_eq_true rfl)) dX4_item_6 ⟨Nat.zero_le _, Nat.zero_le _⟩ ?_
  refine lv_lstore_n (lv' := [(2, .long (wrdL tp d f)), (1, .int (kindS tp d f)), (0, .ref (A 0))]) hx hb dX4_item_9 rfl hl (by decide) rfl (fun ls hl => ?_)
  refine lv_iload_n hx hb dX4_item_10 rfl (lv_at hl 1 rfl) ?_
  refine lv_if_lt (tgt := 22) hx hb dX4_item_11 rfl (fun c11 => ?_) (fun c11 => ?_)
  · replace c11 := Int32.not_le.mpr c11
    refine lv_lload_n hx hb dX4_item_22 rfl (lv_at hl 0 rfl) ?_
    refine lv_ldc2 (v := 24165011) hx hb hown (hts _ wq_X4_293) dX4_item_23 ?_
    refine W.lcmp hx hb dX4_item_26 ?_
    refine lv_if_ne (tgt := 37) hx hb dX4_item_27 rfl (fun c27 => ?_) (fun c27 => ?_)
    · replace c27 := lc_neq c27
      replace c27 := wd_no 8 24165011 (by decide) (by decide) c27
      refine lv_lload_n hx hb dX4_item_37 rfl (lv_at hl 0 rfl) ?_
      refine lv_ldc2 (v := 16052) hx hb hown (hts _ wq_X4_298) dX4_item_38 ?_
      refine W.lcmp hx hb dX4_item_41 ?_
      refine lv_if_eq (tgt := 53) hx hb dX4_item_42 rfl (fun c42 => ?_) (fun c42 => ?_)
      · replace c42 := lc_eq c42
        replace c42 := (wd_iff 13 16052 (by decide) (by decide)).mp c42
        refine lv_aload_n hx hb dX4_item_53 rfl (lv_at hl 2 rfl) ?_
        refine lv_lload_n hx hb dX4_item_54 rfl (lv_at hl 0 rfl) ?_
        refine lv_ldc2 (v := 16052) hx hb hown (hts _ wq_X4_298) dX4_item_55 ?_
        refine W.lcmp hx hb dX4_item_58 ?_
        refine lv_if_ne (tgt := 66) hx hb dX4_item_59 rfl (fun c59 => ?_) (fun c59 => ?_)
        · replace c59 := lc_neq c59
          exact absurd ((wd_iff 13 16052 (by decide) (by decide)).mpr c42) c59
        · replace c59 := lc_eq c59
          replace c59 := (wd_iff 13 16052 (by decide) (by decide)).mp c59
          refine lv_iconst (v := 1) hx hb dX4_item_62 rfl ?_
          refine lv_goto (tgt := 67) hx hb dX4_item_63 rfl ?_
          refine mu_W (w := (MW cI cJ A sS kS oS aS tS ik cA tp (nI d) (nI f) (nI (tkE tp d f)) vl 0 bO sO nU mV)) (rest := []) S hK hP hD hS (k_X4_outItem n d f 1 hI hd (hf)) gv_X4_302 hd_X4_outItem ⟨Nat.le_of_ble_eq_true rfl, Nat.le_of_ble_eq_true rfl⟩ 4 rfl rfl rfl rfl hl.1 (lv_room (Nat.le_of_ble_eq_true rfl)) dX4_item_67 ⟨Nat.zero_le _, Nat.zero_le _⟩ (fun ov w' H locs hp hP hD hS => ?_)
          obtain ⟨s9, f9, t9, v9, w9, rfl, hit, rfl⟩ := hp
          refine W.eq (g2 := F0 m 70 ls []) rfl ?_
          refine lv_goto (tgt := 93) hx hb dX4_item_70 rfl ?_
          exact mu_vret (MW cI cJ A s9 kS oS aS tS ik cA tp (nI d) f9 t9 v9 w9 bO sO nU mV) hx hb hr hlk hP hS rfl (⟨s9, f9, t9, v9, w9, rfl, by rw [show itemI tp d sS n f = outI tp d sS n f 1 from by simp [itemI, c11, c27, c42, c59]]; exact hit, rfl⟩) dX4_item_93
      · replace c42 := lc_neq c42
        replace c42 := wd_no 13 16052 (by decide) (by decide) c42
        refine lv_lload_n hx hb dX4_item_45 rfl (lv_at hl 0 rfl) ?_
        refine lv_ldc2 (v := 302) hx hb hown (hts _ wq_X4_300) dX4_item_46 ?_
        refine W.lcmp hx hb dX4_item_49 ?_
        refine lv_if_ne (tgt := 73) hx hb dX4_item_50 rfl (fun c50 => ?_) (fun c50 => ?_)
        · replace c50 := lc_neq c50
          replace c50 := wd_no 14 302 (by decide) (by decide) c50
          refine lv_lload_n hx hb dX4_item_73 rfl (lv_at hl 0 rfl) ?_
          refine lv_ldc2 (v := 21007737) hx hb hown (hts _ wq_X4_305) dX4_item_74 ?_
          refine W.lcmp hx hb dX4_item_77 ?_
          refine lv_if_ne (tgt := 88) hx hb dX4_item_78 rfl (fun c78 => ?_) (fun c78 => ?_)
          · replace c78 := lc_neq c78
            replace c78 := wd_no 15 21007737 (by decide) (by decide) c78
            refine lv_aload_n hx hb dX4_item_88 rfl (lv_at hl 2 rfl) ?_
            refine lv_iconst (v := 0) hx hb dX4_item_89 rfl ?_
            refine mu_W (w := (MW cI cJ A sS kS oS aS tS ik cA tp (nI d) (nI f) (nI (tkE tp d f)) vl 0 bO sO nU mV)) (rest := []) S hK hP hD hS (k_X4_must_f d f hd (hf)) gv_X4_248 hd_X4_must ⟨Nat.le_of_ble_eq_true rfl, Nat.le_of_ble_eq_true rfl⟩ 4 rfl rfl rfl rfl hl.1 (lv_room (Nat.le_of_ble_eq_true rfl)) dX4_item_90 ⟨Nat.zero_le _, Nat.zero_le _⟩ (fun ov w' H locs hp hP hD hS => ?_)
            obtain ⟨rfl, rfl⟩ := hp
            refine W.eq (g2 := F0 m 93 ls []) rfl ?_
            exact mu_vret (MW cI cJ A sS kS oS aS tS ik cA tp (nI d) (nI f) (nI (tkE tp d f)) vl 1 bO sO nU mV) hx hb hr hlk hP hS rfl (⟨sS, (nI f), (nI (tkE tp d f)), vl, 1, rfl, by simp [itR, itemI, c11, c27, c42, c50, c78], rfl⟩) dX4_item_93
          · replace c78 := lc_eq c78
            replace c78 := (wd_iff 15 21007737 (by decide) (by decide)).mp c78
            refine lv_aload_n hx hb dX4_item_81 rfl (lv_at hl 2 rfl) ?_
            refine mu_W (w := (MW cI cJ A sS kS oS aS tS ik cA tp (nI d) (nI f) (nI (tkE tp d f)) vl 0 bO sO nU mV)) (rest := []) S hK hP hD hS (k_X4_tackyItem n d f hI hd (hf)) gv_X4_307 hd_X4_tackyItem ⟨Nat.le_of_ble_eq_true rfl, Nat.le_of_ble_eq_true rfl⟩ 4 rfl rfl rfl rfl hl.1 (lv_room (Nat.le_of_ble_eq_true rfl)) dX4_item_82 ⟨Nat.zero_le _, Nat.zero_le _⟩ (fun ov w' H locs hp hP hD hS => ?_)
            obtain ⟨s9, f9, t9, v9, w9, rfl, hit, rfl⟩ := hp
            refine W.eq (g2 := F0 m 85 ls []) rfl ?_
            refine lv_goto (tgt := 93) hx hb dX4_item_85 rfl ?_
            exact mu_vret (MW cI cJ A s9 kS oS aS tS ik cA tp (nI d) f9 t9 v9 w9 bO sO nU mV) hx hb hr hlk hP hS rfl (⟨s9, f9, t9, v9, w9, rfl, by rw [show itemI tp d sS n f = tackI tp d sS n f from by simp [itemI, c11, c27, c42, c50, c78]]; exact hit, rfl⟩) dX4_item_93
        · replace c50 := lc_eq c50
          replace c50 := (wd_iff 14 302 (by decide) (by decide)).mp c50
          refine lv_aload_n hx hb dX4_item_53 rfl (lv_at hl 2 rfl) ?_
          refine lv_lload_n hx hb dX4_item_54 rfl (lv_at hl 0 rfl) ?_
          refine lv_ldc2 (v := 16052) hx hb hown (hts _ wq_X4_298) dX4_item_55 ?_
          refine W.lcmp hx hb dX4_item_58 ?_
          refine lv_if_ne (tgt := 66) hx hb dX4_item_59 rfl (fun c59 => ?_) (fun c59 => ?_)
          · replace c59 := lc_neq c59
            replace c59 := wd_no 13 16052 (by decide) (by decide) c59
            refine lv_iconst (v := 0) hx hb dX4_item_66 rfl ?_
            refine mu_W (w := (MW cI cJ A sS kS oS aS tS ik cA tp (nI d) (nI f) (nI (tkE tp d f)) vl 0 bO sO nU mV)) (rest := []) S hK hP hD hS (k_X4_outItem n d f 0 hI hd (hf)) gv_X4_302 hd_X4_outItem ⟨Nat.le_of_ble_eq_true rfl, Nat.le_of_ble_eq_true rfl⟩ 4 rfl rfl rfl rfl hl.1 (lv_room (Nat.le_of_ble_eq_true rfl)) dX4_item_67 ⟨Nat.zero_le _, Nat.zero_le _⟩ (fun ov w' H locs hp hP hD hS => ?_)
            obtain ⟨s9, f9, t9, v9, w9, rfl, hit, rfl⟩ := hp
            refine W.eq (g2 := F0 m 70 ls []) rfl ?_
            refine lv_goto (tgt := 93) hx hb dX4_item_70 rfl ?_
            exact mu_vret (MW cI cJ A s9 kS oS aS tS ik cA tp (nI d) f9 t9 v9 w9 bO sO nU mV) hx hb hr hlk hP hS rfl (⟨s9, f9, t9, v9, w9, rfl, by rw [show itemI tp d sS n f = outI tp d sS n f 0 from by simp [itemI, c11, c27, c42, c50, c59]]; exact hit, rfl⟩) dX4_item_93
          · replace c59 := lc_eq c59
            exact absurd ((wd_iff 13 16052 (by decide) (by decide)).mp c59) (by rw [c42]; decide)
    · replace c27 := lc_eq c27
      replace c27 := (wd_iff 8 24165011 (by decide) (by decide)).mp c27
      refine lv_aload_n hx hb dX4_item_30 rfl (lv_at hl 2 rfl) ?_
      refine mu_W (w := (MW cI cJ A sS kS oS aS tS ik cA tp (nI d) (nI f) (nI (tkE tp d f)) vl 0 bO sO nU mV)) (rest := []) S hK hP hD hS (k_X4_wantsItem n d f hI hd (hf)) gv_X4_295 hd_X4_wantsItem ⟨Nat.le_of_ble_eq_true rfl, Nat.le_of_ble_eq_true rfl⟩ 4 rfl rfl rfl rfl hl.1 (lv_room (Nat.le_of_ble_eq_true rfl)) dX4_item_31 ⟨Nat.zero_le _, Nat.zero_le _⟩ (fun ov w' H locs hp hP hD hS => ?_)
      obtain ⟨s9, f9, t9, v9, w9, rfl, hit, rfl⟩ := hp
      refine W.eq (g2 := F0 m 34 ls []) rfl ?_
      refine lv_goto (tgt := 93) hx hb dX4_item_34 rfl ?_
      exact mu_vret (MW cI cJ A s9 kS oS aS tS ik cA tp (nI d) f9 t9 v9 w9 bO sO nU mV) hx hb hr hlk hP hS rfl (⟨s9, f9, t9, v9, w9, rfl, by rw [show itemI tp d sS n f = wantsI tp d sS n f from by simp [itemI, c11, c27]]; exact hit, rfl⟩) dX4_item_93
  · replace c11 := Int32.not_lt.mp c11
    refine lv_aload_n hx hb dX4_item_14 rfl (lv_at hl 2 rfl) ?_
    refine lv_iload_n hx hb dX4_item_15 rfl (lv_at hl 1 rfl) ?_
    refine mu_W (w := (MW cI cJ A sS kS oS aS tS ik cA tp (nI d) (nI f) (nI (tkE tp d f)) vl 0 bO sO nU mV)) (rest := []) S hK hP hD hS (k_X4_figureItem n d f (kindS tp d f) hI hd (hf)) gv_X4_290 hd_X4_figureItem ⟨Nat.le_of_ble_eq_true rfl, Nat.le_of_ble_eq_true rfl⟩ 4 rfl rfl rfl rfl hl.1 (lv_room (Nat.le_of_ble_eq_true rfl)) dX4_item_16 ⟨Nat.zero_le _, Nat.zero_le _⟩ (fun ov w' H locs hp hP hD hS => ?_)
    obtain ⟨s9, f9, t9, v9, w9, rfl, hit, rfl⟩ := hp
    refine W.eq (g2 := F0 m 19 ls []) rfl ?_
    refine lv_goto (tgt := 93) hx hb dX4_item_19 rfl ?_
    exact mu_vret (MW cI cJ A s9 kS oS aS tS ik cA tp (nI d) f9 t9 v9 w9 bO sO nU mV) hx hb hr hlk hP hS rfl (⟨s9, f9, t9, v9, w9, rfl, by rw [show itemI tp d sS n f = figI tp d sS n f (kindS tp d f) from by simp [itemI, c11]]; exact hit, rfl⟩) dX4_item_93

end
