abbrev TG (cI : ClassId) (h q : Nat) (le : Int32) (by_ : Nat → Int32) (tk bg en va tn : Int32) (h2 q2 : Nat) (g : Nat → Int32) : va_W := [(h, .inr (2, [.int le, .ref q, .int tk, .int bg, .int en, .int va, .int tn])), (q, .inl (cI, 120, .inl by_)), (h2, .inr (0, [.int (g 0), .int (g 2), .int (g 1), .ref q2])), (q2, .inl (cI, 72, .inl (tl g)))]
theorem tw_ad {cI : ClassId} {h q : Nat} {le : Int32} {by_ : Nat → Int32} {tk bg en va tn : Int32} : (TW cI h q le by_ tk bg en va tn).map (fun q => q.1) = [h, q] := rfl
theorem tg_ad {cI : ClassId} {h q : Nat} {le : Int32} {by_ : Nat → Int32} {tk bg en va tn : Int32} {h2 q2 : Nat} {g : Nat → Int32} : (TG cI h q le by_ tk bg en va tn h2 q2 g).map (fun q => q.1) = [h, q, h2, q2] := rfl
theorem fi_999 {n : Nat} (h8 : n ≤ 8) : nI n - 1 ≤ 999 := by
  have h1 : (1 : Int32).toInt = 1 := by decide
  have h9 : (999 : Int32).toInt = 999 := by decide
  have hn : (nI n).toInt = n := nI_toInt (by omega)
  rw [le_I, sub_I (by rw [hn, h1]; omega) (by rw [hn, h1]; omega), hn, h1, h9]
  omega
theorem wd_f1 {tp : Nat → Int32} {d f i : Nat} (h : ¬ isLet (byt tp d f) = true) : isWd tp d f i = false := by
  unfold isWd
  rw [Bool.eq_false_iff.mpr h]
  rfl
theorem wd_f2 {tp : Nat → Int32} {d f i : Nat} (h : ¬ tkE tp d f - f = (wd i).length) : isWd tp d f i = false := by
  unfold isWd
  rw [decide_eq_false h]
  simp
theorem wd_f3 {tp : Nat → Int32} {d f i j : Nat} (hj : j < (wd i).length) (h : ¬ tp (f + j) = (wd i).getD j 0) : isWd tp d f i = false := by
  unfold isWd
  rw [allF_f (p := fun j => decide (tp (f + j) = (wd i).getD j 0)) (j := j) (decide_eq_false h) hj]
  simp
theorem wd_y {tp : Nat → Int32} {d f i : Nat} (h1 : isLet (byt tp d f) = true) (h2 : tkE tp d f - f = (wd i).length) (h3 : ∀ a, a < (wd i).length → tp (f + a) = (wd i).getD a 0) : isWd tp d f i = true := by
  unfold isWd
  rw [h1, decide_eq_true h2, allF_t (fun a ha => decide_eq_true (h3 a ha))]
  rfl
theorem wd_s {tp : Nat → Int32} {f j : Nat} {L : List Int32} (h : ∀ a, a < j → tp (f + a) = L.getD a 0) (h2 : tp (f + j) = L.getD j 0) : ∀ a, a < j + 1 → tp (f + a) = L.getD a 0 := fun a ha => by
  by_cases e : a = j
  · rw [e]; exact h2
  · exact h a (by omega)
theorem put_comm {g : Nat → Int32} {f a b : Nat} {x y : Int32} (h : ¬ a = b) : put9 (put9 g f a x) f b y = put9 (put9 g f b y) f a x := funext fun j => by
  unfold put9 upd
  by_cases h1 : j = 9 * f + b + 3
  · rw [if_pos h1, if_neg (by omega), if_pos h1]
  · rw [if_neg h1]
    by_cases h2 : j = 9 * f + a + 3
    · rw [if_pos h2, if_pos h2]
    · rw [if_neg h2, if_neg h2, if_neg h1]
def clR (r : PR) (b : Bool) (g : Nat → Int32) (f : Nat) : Prop :=
  match r with
  | .inl p => b = false ∧ f = p
  | .inr x => b = true ∧ g = x.1 ∧ f = x.2.2
section
variable {l : Launch} {D : va_G} {cI cJ cO : ClassId} {kA vA : Nat → Nat} {oB : Option Nat} {h q h2 q2 : Nat} {tp : Nat → Int32} {tk bg en va tn : Int32} {g : Nat → Int32}

set_option maxHeartbeats 4000000 in
set_option maxRecDepth 100000 in
theorem k_X2_takesNumber_t (d : Nat) (f : Nat) (y : Int32) (hd : d ≤ 120) (hf : f ≤ d) (hT : TpI tp d) (hy : y ≤ 999) (hn : numT tp d f y = true) : MU l D (tyA cI cJ cO) yX2_takesNumber cX2_takesNumber 2 ((some .boolean)) 2 41 [.ref h, .int y] (TW cI h q (nI d) tp (tokC (byt tp d f)) (nI f) (nI (tkE tp d f)) (capV tp d f) tn) (fun ov w' => ov = some (.int (b2i true)) ∧ w' = (TW cI h q (nI d) tp (tokC (byt tp d (nxt tp d f))) (nI (nxt tp d f)) (nI (tkE tp d (nxt tp d f))) (capV tp d (nxt tp d f)) (numV tp d f))) := by
  refine MU.mk (by decide) (Nat.le_of_ble_eq_true rfl) ?_
  intro p e s m below meth c ls S hr hlk hP hK hD hS hl
  have S : CallFix p m c cX2_takesNumber 2 s _ WL RX2 := S
  obtain ⟨hx, hb, hml, hown, hts⟩ := id S
  have hl : lv_has ls 2 [(0, .ref h), (1, .int y)] := hl
  have hnd := numT_d hn
  refine lv_aload_n hx hb dX2_takesNumber_0 rfl (lv_at hl 0 rfl) ?_
  refine va_get (ci := 2) (v := .int (tokC (byt tp d f))) hx hb hts wx_X2 hown hK hP 0 rfl rfl 2 (by decide) (hts _ wf_X2_19) (fun _ h9 => h9) rfl dX2_takesNumber_1 ?_
  refine lv_iconst (v := 2) hx hb dX2_takesNumber_4 rfl ?_
  refine lv_icmp_ne (tgt := 16) hx hb dX2_takesNumber_5 rfl (fun c5 => ?_) (fun c5 => ?_)
  · exact absurd (tok_2.mpr hnd.1) c5
  · refine lv_aload_n hx hb dX2_takesNumber_8 rfl (lv_at hl 0 rfl) ?_
    refine va_get (ci := 2) (v := .int (capV tp d f)) hx hb hts wx_X2 hown hK hP 0 rfl rfl 5 (by decide) (hts _ wf_X2_28) (fun _ h9 => h9) rfl dX2_takesNumber_9 ?_
    refine lv_iload_n hx hb dX2_takesNumber_12 rfl (lv_at hl 1 rfl) ?_
    refine lv_icmp_le (tgt := 18) hx hb dX2_takesNumber_13 rfl (fun c13 => ?_) (fun c13 => ?_)
    · refine lv_aload_n hx hb dX2_takesNumber_18 rfl (lv_at hl 0 rfl) ?_
      refine lv_aload_n hx hb dX2_takesNumber_19 rfl (lv_at hl 0 rfl) ?_
      refine va_get (ci := 2) (v := .int (capV tp d f)) hx hb hts wx_X2 hown hK hP 0 rfl rfl 5 (by decide) (hts _ wf_X2_28) (fun _ h9 => h9) rfl dX2_takesNumber_20 ?_
      refine w_i (z := numV tp d f) ((cap_eq hnd.1 hy).2 hn) ?_
      refine va_put (ci := 2) (v := .int (numV tp d f)) (ty := tyX2 6) hx hb hts wx_X2 tyX2 tyX2_ok nmX2 hown hK hP hD hS 0 rfl rfl 6 (by decide) (hts _ wf_X2_31) (fun _ h9 => h9) rfl (tyX2_ok 6 (by decide)) rfl rfl (Nat.le_of_ble_eq_true rfl) dX2_takesNumber_23 (fun H locs hP hD hS => ?_)
      have hP : va_P D vwCl (TW cI h q (nI d) tp (tokC (byt tp d f)) (nI f) (nI (tkE tp d f)) (capV tp d f) (numV tp d f)) H := hP
      have hD : va_D _ (TW cI h q (nI d) tp (tokC (byt tp d f)) (nI f) (nI (tkE tp d f)) (capV tp d f) (numV tp d f)) := hD
      refine lv_aload_n hx hb dX2_takesNumber_26 rfl (lv_at hl 0 rfl) ?_
      refine mu_W (w := (TW cI h q (nI d) tp (tokC (byt tp d f)) (nI f) (nI (tkE tp d f)) (capV tp d f) (numV tp d f))) (rest := []) S hK hP hD hS (k_X2_advance d (tkE tp d f) hd (tkE_le (hf)) hT) gv_X2_34 hd_X2_advance ⟨Nat.le_of_ble_eq_true rfl, Nat.le_of_ble_eq_true rfl⟩ 2 rfl rfl rfl rfl hl.1 (lv_room (Nat.le_of_ble_eq_true rfl)) dX2_takesNumber_27 ⟨Nat.zero_le _, Nat.zero_le _⟩ (fun ov w' H locs hp hP hD hS => ?_)
      obtain ⟨rfl, rfl⟩ := hp
      refine W.eq (g2 := F0 m 30 ls []) rfl ?_
      refine lv_iconst (v := 1) hx hb dX2_takesNumber_30 rfl ?_
      exact mu_zret true (rfl) (TW cI h q (nI d) tp (tokC (byt tp d (nxt tp d f))) (nI (nxt tp d f)) (nI (tkE tp d (nxt tp d f))) (capV tp d (nxt tp d f)) (numV tp d f)) hx hb hr hlk hP hS (tw_ad.trans tw_ad.symm) (⟨rfl, rfl⟩) dX2_takesNumber_31
    · exact absurd ((cap_eq hnd.1 hy).1.mpr hn) c13

set_option maxHeartbeats 4000000 in
set_option maxRecDepth 100000 in
theorem k_X2_takesNumber_f (d : Nat) (f : Nat) (y : Int32) (hd : d ≤ 120) (hf : f ≤ d) (hT : TpI tp d) (hy : y ≤ 999) (hn : numT tp d f y = false) : MU l D (tyA cI cJ cO) yX2_takesNumber cX2_takesNumber 2 ((some .boolean)) 2 41 [.ref h, .int y] (TW cI h q (nI d) tp (tokC (byt tp d f)) (nI f) (nI (tkE tp d f)) (capV tp d f) tn) (fun ov w' => ov = some (.int (b2i false)) ∧ w' = (TW cI h q (nI d) tp (tokC (byt tp d f)) (nI f) (nI (tkE tp d f)) (capV tp d f) tn)) := by
  refine MU.mk (by decide) (Nat.le_of_ble_eq_true rfl) ?_
  intro p e s m below meth c ls S hr hlk hP hK hD hS hl
  have S : CallFix p m c cX2_takesNumber 2 s _ WL RX2 := S
  obtain ⟨hx, hb, hml, hown, hts⟩ := id S
  have hl : lv_has ls 2 [(0, .ref h), (1, .int y)] := hl
  refine lv_aload_n hx hb dX2_takesNumber_0 rfl (lv_at hl 0 rfl) ?_
  refine va_get (ci := 2) (v := .int (tokC (byt tp d f))) hx hb hts wx_X2 hown hK hP 0 rfl rfl 2 (by decide) (hts _ wf_X2_19) (fun _ h9 => h9) rfl dX2_takesNumber_1 ?_
  refine lv_iconst (v := 2) hx hb dX2_takesNumber_4 rfl ?_
  refine lv_icmp_ne (tgt := 16) hx hb dX2_takesNumber_5 rfl (fun c5 => ?_) (fun c5 => ?_)
  · refine lv_iconst (v := 0) hx hb dX2_takesNumber_16 rfl ?_
    exact mu_zret false (rfl) (TW cI h q (nI d) tp (tokC (byt tp d f)) (nI f) (nI (tkE tp d f)) (capV tp d f) tn) hx hb hr hlk hP hS (tw_ad.trans tw_ad.symm) (⟨rfl, rfl⟩) dX2_takesNumber_17
  · refine lv_aload_n hx hb dX2_takesNumber_8 rfl (lv_at hl 0 rfl) ?_
    refine va_get (ci := 2) (v := .int (capV tp d f)) hx hb hts wx_X2 hown hK hP 0 rfl rfl 5 (by decide) (hts _ wf_X2_28) (fun _ h9 => h9) rfl dX2_takesNumber_9 ?_
    refine lv_iload_n hx hb dX2_takesNumber_12 rfl (lv_at hl 1 rfl) ?_
    refine lv_icmp_le (tgt := 18) hx hb dX2_takesNumber_13 rfl (fun c13 => ?_) (fun c13 => ?_)
    · exact absurd (hn.symm.trans ((cap_eq (tok_2.mp c5) hy).1.mp c13)) (by decide)
    · refine lv_iconst (v := 0) hx hb dX2_takesNumber_16 rfl ?_
      exact mu_zret false (rfl) (TW cI h q (nI d) tp (tokC (byt tp d f)) (nI f) (nI (tkE tp d f)) (capV tp d f) tn) hx hb hr hlk hP hS (tw_ad.trans tw_ad.symm) (⟨rfl, rfl⟩) dX2_takesNumber_17

set_option maxHeartbeats 4000000 in
set_option maxRecDepth 100000 in
theorem k_X2_isWord (i : Nat) (d : Nat) (f : Nat) (hi : i < 16) (hd : d ≤ 120) (hf : f ≤ d) : RZ kA vA oB l D (tyA cI cJ cO) yX2_isWord cX2_isWord 3 ((some .boolean)) 5 106 [.ref h, .ref (kA i)] (TW cI h q (nI d) tp (tokC (byt tp d f)) (nI f) (nI (tkE tp d f)) (capV tp d f) tn) (some (.int (b2i (isWd tp d f i)))) := by
  refine RZ.mk (by decide) (Nat.le_of_ble_eq_true rfl) ?_
  intro p e s m below meth c ls S hr hlk hP hK hZ hS hl
  have S : CallFix p m c cX2_isWord 3 s _ WL RX2 := S
  obtain ⟨hx, hb, hml, hown, hts⟩ := id S
  have hl : lv_has ls 3 [(0, .ref h), (1, .ref (kA i))] := hl
  have hln := lnJ_ok i hi
  have hfe := tkE_ge (tp := tp) hf
  refine lv_aload_n hx hb dX2_isWord_0 rfl (lv_at hl 0 rfl) ?_
  refine va_get (ci := 2) (v := .int (tokC (byt tp d f))) hx hb hts wx_X2 hown hK hP 0 rfl rfl 2 (by decide) (hts _ wf_X2_19) (fun _ h9 => h9) rfl dX2_isWord_1 ?_
  refine lv_iconst (v := 1) hx hb dX2_isWord_4 rfl ?_
  refine lv_icmp_ne (tgt := 24) hx hb dX2_isWord_5 rfl (fun c5 => ?_) (fun c5 => ?_)
  · refine lv_iconst (v := 0) hx hb dX2_isWord_24 rfl ?_
    exact ro_zret hx hb hr hlk (by rw [wd_f1 (fun z => c5 (tok_1.mpr z))]; rfl) dX2_isWord_25
  · refine lv_aload_n hx hb dX2_isWord_8 rfl (lv_at hl 0 rfl) ?_
    refine va_get (ci := 2) (v := .int (nI (tkE tp d f))) hx hb hts wx_X2 hown hK hP 0 rfl rfl 4 (by decide) (hts _ wf_X2_25) (fun _ h9 => h9) rfl dX2_isWord_9 ?_
    refine lv_aload_n hx hb dX2_isWord_12 rfl (lv_at hl 0 rfl) ?_
    refine va_get (ci := 2) (v := .int (nI f)) hx hb hts wx_X2 hown hK hP 0 rfl rfl 3 (by decide) (hts _ wf_X2_22) (fun _ h9 => h9) rfl dX2_isWord_13 ?_
    refine lv_isub hx hb dX2_isWord_16 ?_
    refine w_i (z := nI (tkE tp d f - f)) (pk_sub hfe.1) ?_
    refine lv_aload_n hx hb dX2_isWord_17 rfl (lv_at hl 1 rfl) ?_
    refine rz_K (w := []) (rest := [.int (nI (tkE tp d f - f))]) S hK va_P0 hZ hS hi (k_J0_length_8abf5 i hi) gv_X2_118 hd_J0_length_8abf5 ⟨Nat.le_of_ble_eq_true rfl, Nat.le_of_ble_eq_true rfl⟩ rfl rfl hl.1 (lv_room (Nat.le_of_ble_eq_true rfl)) dX2_isWord_18 ⟨Nat.zero_le _, Nat.zero_le _⟩ ?_
    refine W.eq (g2 := F0 m 21 ls [.int (nI ((wd i).length)), .int (nI (tkE tp d f - f))]) rfl ?_
    refine lv_icmp_eq (tgt := 26) hx hb dX2_isWord_21 rfl (fun c21 => ?_) (fun c21 => ?_)
    · replace c21 := nq_eq (a := (tkE tp d f - f)) (b := ((wd i).length)) (by omega) (by omega) c21
      refine lv_iconst (v := 0) hx hb dX2_isWord_26 rfl ?_
      refine lv_istore_n (lv' := [(2, .int 0), (0, .ref h), (1, .ref (kA i))]) hx hb dX2_isWord_27 rfl hl (by decide) rfl (fun ls hl => ?_)
      refine w_loop (pc := 28) (st := fun (j : Nat) => []) (μ := fun (j : Nat) => (wd i).length - j) (I := fun (j : Nat) ls => (j ≤ (wd i).length) ∧ (∀ a, a < j → tp (f + a) = (wd i).getD a 0) ∧ lv_has ls 3 [(0, .ref h), (1, .ref (kA i)), (2, .int (nI j))]) ?_ (0) ⟨Nat.zero_le _, fun a ha => absurd ha (Nat.not_lt_zero a), lv_sub hl [1, 2, 0] rfl⟩
      rintro j ls ⟨hj, hall, hl⟩ ih28
      try dsimp only at ih28 ⊢
      refine lv_iload_n hx hb dX2_isWord_28 rfl (lv_at hl 2 rfl) ?_
      refine lv_aload_n hx hb dX2_isWord_29 rfl (lv_at hl 1 rfl) ?_
      refine rz_K (w := []) (rest := [.int (nI j)]) S hK va_P0 hZ hS hi (k_J0_length_8abf5 i hi) gv_X2_118 hd_J0_length_8abf5 ⟨Nat.le_of_ble_eq_true rfl, Nat.le_of_ble_eq_true rfl⟩ rfl rfl hl.1 (lv_room (Nat.le_of_ble_eq_true rfl)) dX2_isWord_30 ⟨Nat.zero_le _, Nat.zero_le _⟩ ?_
      refine W.eq (g2 := F0 m 33 ls [.int (nI ((wd i).length)), .int (nI j)]) rfl ?_
      refine lv_icmp_ge (tgt := 62) hx hb dX2_isWord_33 rfl (fun c33 => ?_) (fun c33 => ?_)
      · replace c33 := nq_le (a := ((wd i).length)) (b := j) (by omega) (by omega) c33
        refine lv_iconst (v := 1) hx hb dX2_isWord_62 rfl ?_
        exact ro_zret hx hb hr hlk (by rw [wd_y (tok_1.mp c5) c21 (fun a ha => hall a (by omega))]; rfl) dX2_isWord_63
      · replace c33 := nq_nle (a := ((wd i).length)) (b := j) (by omega) (by omega) c33
        refine lv_aload_n hx hb dX2_isWord_36 rfl (lv_at hl 0 rfl) ?_
        refine lv_aload_n hx hb dX2_isWord_37 rfl (lv_at hl 0 rfl) ?_
        refine va_get (ci := 2) (v := .int (nI f)) hx hb hts wx_X2 hown hK hP 0 rfl rfl 3 (by decide) (hts _ wf_X2_22) (fun _ h9 => h9) rfl dX2_isWord_38 ?_
        refine lv_iload_n hx hb dX2_isWord_41 rfl (lv_at hl 2 rfl) ?_
        refine lv_iadd hx hb dX2_isWord_42 ?_
        refine w_i (z := nI (f + j)) (nI_add f j) ?_
        refine ro_V (w := (TW cI h q (nI d) tp (tokC (byt tp d f)) (nI f) (nI (tkE tp d f)) (capV tp d f) tn)) (rest := []) S hK hP (k_X2_byteAt d (f + j) hd (by omega)) gv_X2_122 hd_X2_byteAt ⟨Nat.le_of_ble_eq_true rfl, Nat.le_of_ble_eq_true rfl⟩ 2 rfl rfl rfl rfl hl.1 (lv_room (Nat.le_of_ble_eq_true rfl)) dX2_isWord_43 ⟨Nat.zero_le _, Nat.zero_le _⟩ ?_
        refine w_i (z := tp (f + j)) (byt_lt (by omega)) ?_
        refine lv_aload_n hx hb dX2_isWord_46 rfl (lv_at hl 1 rfl) ?_
        refine lv_iload_n hx hb dX2_isWord_47 rfl (lv_at hl 2 rfl) ?_
        refine rz_K (w := []) (rest := [.int (tp (f + j))]) S hK va_P0 hZ hS hi (k_J0_charAt_5068e i j hi (by omega)) gv_X2_126 hd_J0_charAt_5068e ⟨Nat.le_of_ble_eq_true rfl, Nat.le_of_ble_eq_true rfl⟩ rfl rfl hl.1 (lv_room (Nat.le_of_ble_eq_true rfl)) dX2_isWord_48 ⟨Nat.zero_le _, Nat.zero_le _⟩ ?_
        refine W.eq (g2 := F0 m 51 ls [.int ((wd i).getD j 0), .int (tp (f + j))]) rfl ?_
        refine lv_icmp_eq (tgt := 56) hx hb dX2_isWord_51 rfl (fun c51 => ?_) (fun c51 => ?_)
        · refine lv_iinc (v := nI (j + 1)) (lv' := [(2, .int (nI (j + 1))), (0, .ref h), (1, .ref (kA i))]) hx hb dX2_isWord_56 hl (k := 2) rfl (nI_inc _) (by decide) rfl (fun ls hl => ?_)
          refine lv_goto (tgt := 28) hx hb dX2_isWord_59 rfl ?_
          exact ih28 (j + 1) ls (by first | omega | (dsimp only; omega)) ⟨(by omega), wd_s hall c51, lv_sub hl [1, 2, 0] rfl⟩
        · refine lv_iconst (v := 0) hx hb dX2_isWord_54 rfl ?_
          exact ro_zret hx hb hr hlk (by rw [wd_f3 (show j < (wd i).length by omega) c51]; rfl) dX2_isWord_55
    · replace c21 := nq_ne (a := (tkE tp d f - f)) (b := ((wd i).length)) (by omega) (by omega) c21
      refine lv_iconst (v := 0) hx hb dX2_isWord_24 rfl ?_
      exact ro_zret hx hb hr hlk (by rw [wd_f2 c21]; rfl) dX2_isWord_25

set_option maxHeartbeats 4000000 in
set_option maxRecDepth 100000 in
theorem k_X2_kindNamed (d : Nat) (f : Nat) (hd : d ≤ 120) (hf : f ≤ d) : RZ kA vA oB l D (tyA cI cJ cO) yX2_kindNamed cX2_kindNamed 1 ((some .int)) 6 128 [.ref h] (TW cI h q (nI d) tp (tokC (byt tp d f)) (nI f) (nI (tkE tp d f)) (capV tp d f) tn) (some (.int (kindS tp d f))) := by
  refine RZ.mk (by decide) (Nat.le_of_ble_eq_true rfl) ?_
  intro p e s m below meth c ls S hr hlk hP hK hZ hS hl
  have S : CallFix p m c cX2_kindNamed 1 s _ WL RX2 := S
  obtain ⟨hx, hb, hml, hown, hts⟩ := id S
  have hl : lv_has ls 1 [(0, .ref h)] := hl
  refine lv_aload_n hx hb dX2_kindNamed_0 rfl (lv_at hl 0 rfl) ?_
  refine va_ldcS (q := kA 0) hx hb hown (hZ.2.1 0 (by decide)) dX2_kindNamed_1 ?_
  refine rz_V (w := (TW cI h q (nI d) tp (tokC (byt tp d f)) (nI f) (nI (tkE tp d f)) (capV tp d f) tn)) (rest := []) S hK hP hZ hS (k_X2_isWord 0 d f (by decide) hd (hf)) gv_X2_51 hd_X2_isWord ⟨Nat.le_of_ble_eq_true rfl, Nat.le_of_ble_eq_true rfl⟩ 2 rfl rfl rfl rfl hl.1 (lv_room (Nat.le_of_ble_eq_true rfl)) dX2_kindNamed_3 ⟨Nat.zero_le _, Nat.zero_le _⟩ ?_
  refine W.eq (g2 := F0 m 6 ls [.int (b2i (isWd tp d f 0))]) rfl ?_
  refine lv_if_eq (tgt := 11) hx hb dX2_kindNamed_6 rfl (fun c6 => ?_) (fun c6 => ?_)
  · replace c6 := (b2i_0 _).mp c6
    refine lv_aload_n hx hb dX2_kindNamed_11 rfl (lv_at hl 0 rfl) ?_
    refine va_ldcS (q := kA 1) hx hb hown (hZ.2.1 1 (by decide)) dX2_kindNamed_12 ?_
    refine rz_V (w := (TW cI h q (nI d) tp (tokC (byt tp d f)) (nI f) (nI (tkE tp d f)) (capV tp d f) tn)) (rest := []) S hK hP hZ hS (k_X2_isWord 1 d f (by decide) hd (hf)) gv_X2_51 hd_X2_isWord ⟨Nat.le_of_ble_eq_true rfl, Nat.le_of_ble_eq_true rfl⟩ 2 rfl rfl rfl rfl hl.1 (lv_room (Nat.le_of_ble_eq_true rfl)) dX2_kindNamed_14 ⟨Nat.zero_le _, Nat.zero_le _⟩ ?_
    refine W.eq (g2 := F0 m 17 ls [.int (b2i (isWd tp d f 1))]) rfl ?_
    refine lv_if_eq (tgt := 22) hx hb dX2_kindNamed_17 rfl (fun c17 => ?_) (fun c17 => ?_)
    · replace c17 := (b2i_0 _).mp c17
      refine lv_aload_n hx hb dX2_kindNamed_22 rfl (lv_at hl 0 rfl) ?_
      refine va_ldcS (q := kA 2) hx hb hown (hZ.2.1 2 (by decide)) dX2_kindNamed_23 ?_
      refine rz_V (w := (TW cI h q (nI d) tp (tokC (byt tp d f)) (nI f) (nI (tkE tp d f)) (capV tp d f) tn)) (rest := []) S hK hP hZ hS (k_X2_isWord 2 d f (by decide) hd (hf)) gv_X2_51 hd_X2_isWord ⟨Nat.le_of_ble_eq_true rfl, Nat.le_of_ble_eq_true rfl⟩ 2 rfl rfl rfl rfl hl.1 (lv_room (Nat.le_of_ble_eq_true rfl)) dX2_kindNamed_25 ⟨Nat.zero_le _, Nat.zero_le _⟩ ?_
      refine W.eq (g2 := F0 m 28 ls [.int (b2i (isWd tp d f 2))]) rfl ?_
      refine lv_if_eq (tgt := 33) hx hb dX2_kindNamed_28 rfl (fun c28 => ?_) (fun c28 => ?_)
      · replace c28 := (b2i_0 _).mp c28
        refine lv_aload_n hx hb dX2_kindNamed_33 rfl (lv_at hl 0 rfl) ?_
        refine va_ldcS (q := kA 3) hx hb hown (hZ.2.1 3 (by decide)) dX2_kindNamed_34 ?_
        refine rz_V (w := (TW cI h q (nI d) tp (tokC (byt tp d f)) (nI f) (nI (tkE tp d f)) (capV tp d f) tn)) (rest := []) S hK hP hZ hS (k_X2_isWord 3 d f (by decide) hd (hf)) gv_X2_51 hd_X2_isWord ⟨Nat.le_of_ble_eq_true rfl, Nat.le_of_ble_eq_true rfl⟩ 2 rfl rfl rfl rfl hl.1 (lv_room (Nat.le_of_ble_eq_true rfl)) dX2_kindNamed_36 ⟨Nat.zero_le _, Nat.zero_le _⟩ ?_
        refine W.eq (g2 := F0 m 39 ls [.int (b2i (isWd tp d f 3))]) rfl ?_
        refine lv_if_eq (tgt := 44) hx hb dX2_kindNamed_39 rfl (fun c39 => ?_) (fun c39 => ?_)
        · replace c39 := (b2i_0 _).mp c39
          refine lv_aload_n hx hb dX2_kindNamed_44 rfl (lv_at hl 0 rfl) ?_
          refine va_ldcS (q := kA 4) hx hb hown (hZ.2.1 4 (by decide)) dX2_kindNamed_45 ?_
          refine rz_V (w := (TW cI h q (nI d) tp (tokC (byt tp d f)) (nI f) (nI (tkE tp d f)) (capV tp d f) tn)) (rest := []) S hK hP hZ hS (k_X2_isWord 4 d f (by decide) hd (hf)) gv_X2_51 hd_X2_isWord ⟨Nat.le_of_ble_eq_true rfl, Nat.le_of_ble_eq_true rfl⟩ 2 rfl rfl rfl rfl hl.1 (lv_room (Nat.le_of_ble_eq_true rfl)) dX2_kindNamed_47 ⟨Nat.zero_le _, Nat.zero_le _⟩ ?_
          refine W.eq (g2 := F0 m 50 ls [.int (b2i (isWd tp d f 4))]) rfl ?_
          refine lv_if_eq (tgt := 55) hx hb dX2_kindNamed_50 rfl (fun c50 => ?_) (fun c50 => ?_)
          · replace c50 := (b2i_0 _).mp c50
            refine lv_aload_n hx hb dX2_kindNamed_55 rfl (lv_at hl 0 rfl) ?_
            refine va_ldcS (q := kA 5) hx hb hown (hZ.2.1 5 (by decide)) dX2_kindNamed_56 ?_
            refine rz_V (w := (TW cI h q (nI d) tp (tokC (byt tp d f)) (nI f) (nI (tkE tp d f)) (capV tp d f) tn)) (rest := []) S hK hP hZ hS (k_X2_isWord 5 d f (by decide) hd (hf)) gv_X2_51 hd_X2_isWord ⟨Nat.le_of_ble_eq_true rfl, Nat.le_of_ble_eq_true rfl⟩ 2 rfl rfl rfl rfl hl.1 (lv_room (Nat.le_of_ble_eq_true rfl)) dX2_kindNamed_58 ⟨Nat.zero_le _, Nat.zero_le _⟩ ?_
            refine W.eq (g2 := F0 m 61 ls [.int (b2i (isWd tp d f 5))]) rfl ?_
            refine lv_if_eq (tgt := 68) hx hb dX2_kindNamed_61 rfl (fun c61 => ?_) (fun c61 => ?_)
            · replace c61 := (b2i_0 _).mp c61
              refine lv_iconst (v := (-1)) hx hb dX2_kindNamed_68 rfl ?_
              exact ro_iret hx hb hr hlk (by simp [kindS, c6, c17, c28, c39, c50, c61]) dX2_kindNamed_69
            · replace c61 := b2i_n0 c61
              refine lv_iconst (v := 5) hx hb dX2_kindNamed_64 rfl ?_
              refine lv_goto (tgt := 69) hx hb dX2_kindNamed_65 rfl ?_
              exact ro_iret hx hb hr hlk (by simp [kindS, c6, c17, c28, c39, c50, c61]) dX2_kindNamed_69
          · replace c50 := b2i_n0 c50
            refine lv_iconst (v := 4) hx hb dX2_kindNamed_53 rfl ?_
            exact ro_iret hx hb hr hlk (by simp [kindS, c6, c17, c28, c39, c50]) dX2_kindNamed_54
        · replace c39 := b2i_n0 c39
          refine lv_iconst (v := 3) hx hb dX2_kindNamed_42 rfl ?_
          exact ro_iret hx hb hr hlk (by simp [kindS, c6, c17, c28, c39]) dX2_kindNamed_43
      · replace c28 := b2i_n0 c28
        refine lv_iconst (v := 2) hx hb dX2_kindNamed_31 rfl ?_
        exact ro_iret hx hb hr hlk (by simp [kindS, c6, c17, c28]) dX2_kindNamed_32
    · replace c17 := b2i_n0 c17
      refine lv_iconst (v := 1) hx hb dX2_kindNamed_20 rfl ?_
      exact ro_iret hx hb hr hlk (by simp [kindS, c6, c17]) dX2_kindNamed_21
  · replace c6 := b2i_n0 c6
    refine lv_iconst (v := 0) hx hb dX2_kindNamed_9 rfl ?_
    exact ro_iret hx hb hr hlk (by simp [kindS, c6]) dX2_kindNamed_10

set_option maxHeartbeats 4000000 in
set_option maxRecDepth 100000 in
theorem k_X2_wantNamed (d : Nat) (f : Nat) (hd : d ≤ 120) (hf : f ≤ d) : RZ kA vA oB l D (tyA cI cJ cO) yX2_wantNamed cX2_wantNamed 1 ((some .int)) 6 128 [.ref h] (TW cI h q (nI d) tp (tokC (byt tp d f)) (nI f) (nI (tkE tp d f)) (capV tp d f) tn) (some (.int (wantS tp d f))) := by
  refine RZ.mk (by decide) (Nat.le_of_ble_eq_true rfl) ?_
  intro p e s m below meth c ls S hr hlk hP hK hZ hS hl
  have S : CallFix p m c cX2_wantNamed 1 s _ WL RX2 := S
  obtain ⟨hx, hb, hml, hown, hts⟩ := id S
  have hl : lv_has ls 1 [(0, .ref h)] := hl
  refine lv_aload_n hx hb dX2_wantNamed_0 rfl (lv_at hl 0 rfl) ?_
  refine va_ldcS (q := kA 9) hx hb hown (hZ.2.1 9 (by decide)) dX2_wantNamed_1 ?_
  refine rz_V (w := (TW cI h q (nI d) tp (tokC (byt tp d f)) (nI f) (nI (tkE tp d f)) (capV tp d f) tn)) (rest := []) S hK hP hZ hS (k_X2_isWord 9 d f (by decide) hd (hf)) gv_X2_51 hd_X2_isWord ⟨Nat.le_of_ble_eq_true rfl, Nat.le_of_ble_eq_true rfl⟩ 2 rfl rfl rfl rfl hl.1 (lv_room (Nat.le_of_ble_eq_true rfl)) dX2_wantNamed_3 ⟨Nat.zero_le _, Nat.zero_le _⟩ ?_
  refine W.eq (g2 := F0 m 6 ls [.int (b2i (isWd tp d f 9))]) rfl ?_
  refine lv_if_eq (tgt := 11) hx hb dX2_wantNamed_6 rfl (fun c6 => ?_) (fun c6 => ?_)
  · replace c6 := (b2i_0 _).mp c6
    refine lv_aload_n hx hb dX2_wantNamed_11 rfl (lv_at hl 0 rfl) ?_
    refine va_ldcS (q := kA 10) hx hb hown (hZ.2.1 10 (by decide)) dX2_wantNamed_12 ?_
    refine rz_V (w := (TW cI h q (nI d) tp (tokC (byt tp d f)) (nI f) (nI (tkE tp d f)) (capV tp d f) tn)) (rest := []) S hK hP hZ hS (k_X2_isWord 10 d f (by decide) hd (hf)) gv_X2_51 hd_X2_isWord ⟨Nat.le_of_ble_eq_true rfl, Nat.le_of_ble_eq_true rfl⟩ 2 rfl rfl rfl rfl hl.1 (lv_room (Nat.le_of_ble_eq_true rfl)) dX2_wantNamed_14 ⟨Nat.zero_le _, Nat.zero_le _⟩ ?_
    refine W.eq (g2 := F0 m 17 ls [.int (b2i (isWd tp d f 10))]) rfl ?_
    refine lv_if_eq (tgt := 22) hx hb dX2_wantNamed_17 rfl (fun c17 => ?_) (fun c17 => ?_)
    · replace c17 := (b2i_0 _).mp c17
      refine lv_aload_n hx hb dX2_wantNamed_22 rfl (lv_at hl 0 rfl) ?_
      refine va_ldcS (q := kA 11) hx hb hown (hZ.2.1 11 (by decide)) dX2_wantNamed_23 ?_
      refine rz_V (w := (TW cI h q (nI d) tp (tokC (byt tp d f)) (nI f) (nI (tkE tp d f)) (capV tp d f) tn)) (rest := []) S hK hP hZ hS (k_X2_isWord 11 d f (by decide) hd (hf)) gv_X2_51 hd_X2_isWord ⟨Nat.le_of_ble_eq_true rfl, Nat.le_of_ble_eq_true rfl⟩ 2 rfl rfl rfl rfl hl.1 (lv_room (Nat.le_of_ble_eq_true rfl)) dX2_wantNamed_25 ⟨Nat.zero_le _, Nat.zero_le _⟩ ?_
      refine W.eq (g2 := F0 m 28 ls [.int (b2i (isWd tp d f 11))]) rfl ?_
      refine lv_if_eq (tgt := 33) hx hb dX2_wantNamed_28 rfl (fun c28 => ?_) (fun c28 => ?_)
      · replace c28 := (b2i_0 _).mp c28
        refine lv_aload_n hx hb dX2_wantNamed_33 rfl (lv_at hl 0 rfl) ?_
        refine va_ldcS (q := kA 12) hx hb hown (hZ.2.1 12 (by decide)) dX2_wantNamed_34 ?_
        refine rz_V (w := (TW cI h q (nI d) tp (tokC (byt tp d f)) (nI f) (nI (tkE tp d f)) (capV tp d f) tn)) (rest := []) S hK hP hZ hS (k_X2_isWord 12 d f (by decide) hd (hf)) gv_X2_51 hd_X2_isWord ⟨Nat.le_of_ble_eq_true rfl, Nat.le_of_ble_eq_true rfl⟩ 2 rfl rfl rfl rfl hl.1 (lv_room (Nat.le_of_ble_eq_true rfl)) dX2_wantNamed_36 ⟨Nat.zero_le _, Nat.zero_le _⟩ ?_
        refine W.eq (g2 := F0 m 39 ls [.int (b2i (isWd tp d f 12))]) rfl ?_
        refine lv_if_eq (tgt := 44) hx hb dX2_wantNamed_39 rfl (fun c39 => ?_) (fun c39 => ?_)
        · replace c39 := (b2i_0 _).mp c39
          refine lv_aload_n hx hb dX2_wantNamed_44 rfl (lv_at hl 0 rfl) ?_
          refine va_ldcS (q := kA 7) hx hb hown (hZ.2.1 7 (by decide)) dX2_wantNamed_45 ?_
          refine rz_V (w := (TW cI h q (nI d) tp (tokC (byt tp d f)) (nI f) (nI (tkE tp d f)) (capV tp d f) tn)) (rest := []) S hK hP hZ hS (k_X2_isWord 7 d f (by decide) hd (hf)) gv_X2_51 hd_X2_isWord ⟨Nat.le_of_ble_eq_true rfl, Nat.le_of_ble_eq_true rfl⟩ 2 rfl rfl rfl rfl hl.1 (lv_room (Nat.le_of_ble_eq_true rfl)) dX2_wantNamed_47 ⟨Nat.zero_le _, Nat.zero_le _⟩ ?_
          refine W.eq (g2 := F0 m 50 ls [.int (b2i (isWd tp d f 7))]) rfl ?_
          refine lv_if_eq (tgt := 57) hx hb dX2_wantNamed_50 rfl (fun c50 => ?_) (fun c50 => ?_)
          · replace c50 := (b2i_0 _).mp c50
            refine lv_iconst (v := (-1)) hx hb dX2_wantNamed_57 rfl ?_
            exact ro_iret hx hb hr hlk (by simp [wantS, c6, c17, c28, c39, c50]) dX2_wantNamed_58
          · replace c50 := b2i_n0 c50
            refine lv_iconst (v := 4) hx hb dX2_wantNamed_53 rfl ?_
            refine lv_goto (tgt := 58) hx hb dX2_wantNamed_54 rfl ?_
            exact ro_iret hx hb hr hlk (by simp [wantS, c6, c17, c28, c39, c50]) dX2_wantNamed_58
        · replace c39 := b2i_n0 c39
          refine lv_iconst (v := 3) hx hb dX2_wantNamed_42 rfl ?_
          exact ro_iret hx hb hr hlk (by simp [wantS, c6, c17, c28, c39]) dX2_wantNamed_43
      · replace c28 := b2i_n0 c28
        refine lv_iconst (v := 2) hx hb dX2_wantNamed_31 rfl ?_
        exact ro_iret hx hb hr hlk (by simp [wantS, c6, c17, c28]) dX2_wantNamed_32
    · replace c17 := b2i_n0 c17
      refine lv_iconst (v := 1) hx hb dX2_wantNamed_20 rfl ?_
      exact ro_iret hx hb hr hlk (by simp [wantS, c6, c17]) dX2_wantNamed_21
  · replace c6 := b2i_n0 c6
    refine lv_iconst (v := 0) hx hb dX2_wantNamed_9 rfl ?_
    exact ro_iret hx hb hr hlk (by simp [wantS, c6]) dX2_wantNamed_10

set_option maxHeartbeats 4000000 in
set_option maxRecDepth 100000 in
theorem k_X2_isLetting (n : Nat) (d : Nat) (f : Nat) (o : Int32) (hI : Inv g n) (hd : d ≤ 120) (hf : f ≤ d) (hT : TpI tp d) : MU l D (tyA cI cJ cO) yX2_isLetting cX2_isLetting 3 ((some .boolean)) 3 62 [.ref h, .ref h2, .int o] (TG cI h q (nI d) tp (tokC (byt tp d f)) (nI f) (nI (tkE tp d f)) (capV tp d f) tn h2 q2 g) (fun ov w' => ∃ (b9 : Bool) (g9 : Nat → Int32) (f9 : Nat) (n9 : Int32), ov = some (.int (b2i b9)) ∧ clR (outI tp d g n f o) b9 g9 f9 ∧ w' = (TG cI h q (nI d) tp (tokC (byt tp d f9)) (nI f9) (nI (tkE tp d f9)) (capV tp d f9) n9 h2 q2 g9)) := by
  refine MU.mk (by decide) (Nat.le_of_ble_eq_true rfl) ?_
  intro p e s m below meth c ls S hr hlk hP hK hD hS hl
  have S : CallFix p m c cX2_isLetting 3 s _ WL RX2 := S
  obtain ⟨hx, hb, hml, hown, hts⟩ := id S
  have hl : lv_has ls 3 [(0, .ref h), (1, .ref h2), (2, .int o)] := hl
  have h8 : n ≤ 8 := hI.1
  refine lv_aload_n hx hb dX2_isLetting_0 rfl (lv_at hl 0 rfl) ?_
  refine mu_V (w := (TW cI h q (nI d) tp (tokC (byt tp d f)) (nI f) (nI (tkE tp d f)) (capV tp d f) tn)) (rest := []) S hK hP hD hS (k_X2_advance d (tkE tp d f) hd (tkE_le (hf)) hT) gv_X2_34 hd_X2_advance ⟨Nat.le_of_ble_eq_true rfl, Nat.le_of_ble_eq_true rfl⟩ [0, 1] rfl rfl 2 rfl rfl rfl rfl hl.1 (lv_room (Nat.le_of_ble_eq_true rfl)) dX2_isLetting_1 ⟨Nat.zero_le _, Nat.zero_le _⟩ (fun ov w' H locs hp hP hD hS => ?_)
  obtain ⟨rfl, rfl⟩ := hp
  have hP : va_P D vwCl (TG cI h q (nI d) tp (tokC (byt tp d (nxt tp d f))) (nI (nxt tp d f)) (nI (tkE tp d (nxt tp d f))) (capV tp d (nxt tp d f)) tn h2 q2 g) H := hP
  have hD : va_D _ (TG cI h q (nI d) tp (tokC (byt tp d (nxt tp d f))) (nI (nxt tp d f)) (nI (tkE tp d (nxt tp d f))) (capV tp d (nxt tp d f)) tn h2 q2 g) := hD
  refine W.eq (g2 := F0 m 4 ls []) rfl ?_
  refine lv_aload_n hx hb dX2_isLetting_4 rfl (lv_at hl 0 rfl) ?_
  refine lv_aload_n hx hb dX2_isLetting_5 rfl (lv_at hl 1 rfl) ?_
  refine va_get (ci := 0) (v := .int (g 1)) hx hb hts wx_X0 hown hK hP 2 rfl rfl 2 (by decide) (hts _ wf_X2_92) (fun _ h9 => h9) rfl dX2_isLetting_6 ?_
  refine w_i (z := nI n) (hI.2.1) ?_
  refine lv_iconst (v := 1) hx hb dX2_isLetting_9 rfl ?_
  refine lv_isub hx hb dX2_isLetting_10 ?_
  rcases Bool.eq_false_or_eq_true (numT tp d (nxt tp d f) (nI n - 1)) with n11 | n11
  · obtain ⟨u11, hu11, eu11⟩ := numT_f h8 n11
    have ec11 : cl (nI u11) = u11 := cl_nI (by omega)
    refine mu_V (w := (TW cI h q (nI d) tp (tokC (byt tp d (nxt tp d f))) (nI (nxt tp d f)) (nI (tkE tp d (nxt tp d f))) (capV tp d (nxt tp d f)) tn)) (rest := []) S hK hP hD hS (k_X2_takesNumber_t d (nxt tp d f) ((nI n) - 1) hd (nxt_le (hf)) hT (fi_999 h8) n11) gv_X2_67 hd_X2_takesNumber ⟨Nat.le_of_ble_eq_true rfl, Nat.le_of_ble_eq_true rfl⟩ [0, 1] rfl rfl 2 rfl rfl rfl rfl hl.1 (lv_room (Nat.le_of_ble_eq_true rfl)) dX2_isLetting_11 ⟨Nat.zero_le _, Nat.zero_le _⟩ (fun ov w' H locs hp hP hD hS => ?_)
    obtain ⟨rfl, rfl⟩ := hp
    have hP : va_P D vwCl (TG cI h q (nI d) tp (tokC (byt tp d (nxt tp d (nxt tp d f)))) (nI (nxt tp d (nxt tp d f))) (nI (tkE tp d (nxt tp d (nxt tp d f)))) (capV tp d (nxt tp d (nxt tp d f))) (numV tp d (nxt tp d f)) h2 q2 g) H := hP
    have hD : va_D _ (TG cI h q (nI d) tp (tokC (byt tp d (nxt tp d (nxt tp d f)))) (nI (nxt tp d (nxt tp d f))) (nI (tkE tp d (nxt tp d (nxt tp d f)))) (capV tp d (nxt tp d (nxt tp d f))) (numV tp d (nxt tp d f)) h2 q2 g) := hD
    refine W.eq (g2 := F0 m 14 ls [.int 1]) rfl ?_
    refine lv_if_ne (tgt := 19) hx hb dX2_isLetting_14 rfl (fun c14 => ?_) (fun c14 => ?_)
    · refine lv_aload_n hx hb dX2_isLetting_19 rfl (lv_at hl 1 rfl) ?_
      refine lv_aload_n hx hb dX2_isLetting_20 rfl (lv_at hl 0 rfl) ?_
      refine va_get (ci := 2) (v := .int (numV tp d (nxt tp d f))) hx hb hts wx_X2 hown hK hP 0 rfl rfl 6 (by decide) (hts _ wf_X2_31) (fun _ h9 => h9) rfl dX2_isLetting_21 ?_
      refine w_i (z := nI u11) (eu11) ?_
      refine lv_bipush (v := 7) hx hb dX2_isLetting_24 rfl ?_
      refine lv_iload_n hx hb dX2_isLetting_26 rfl (lv_at hl 2 rfl) ?_
      refine mu_V (w := (GW cI h2 q2 (g 0) (g 2) (g 1) (tl g))) (rest := []) S hK hP hD hS (k_X0_put u11 7 o (by omega) (by omega)) gv_X2_86 hd_X0_put ⟨Nat.le_of_ble_eq_true rfl, Nat.le_of_ble_eq_true rfl⟩ [2, 3] rfl rfl 0 rfl rfl rfl rfl hl.1 (lv_room (Nat.le_of_ble_eq_true rfl)) dX2_isLetting_27 ⟨Nat.zero_le _, Nat.zero_le _⟩ (fun ov w' H locs hp hP hD hS => ?_)
      obtain ⟨rfl, rfl⟩ := hp
      have hP : va_P D vwCl (TG cI h q (nI d) tp (tokC (byt tp d (nxt tp d (nxt tp d f)))) (nI (nxt tp d (nxt tp d f))) (nI (tkE tp d (nxt tp d (nxt tp d f)))) (capV tp d (nxt tp d (nxt tp d f))) (numV tp d (nxt tp d f)) h2 q2 (put9 g u11 7 o)) H := hP
      have hD : va_D _ (TG cI h q (nI d) tp (tokC (byt tp d (nxt tp d (nxt tp d f)))) (nI (nxt tp d (nxt tp d f))) (nI (tkE tp d (nxt tp d (nxt tp d f)))) (capV tp d (nxt tp d (nxt tp d f))) (numV tp d (nxt tp d f)) h2 q2 (put9 g u11 7 o)) := hD
      refine W.eq (g2 := F0 m 30 ls []) rfl ?_
      refine lv_iconst (v := 1) hx hb dX2_isLetting_30 rfl ?_
      exact mu_zret true (rfl) (TG cI h q (nI d) tp (tokC (byt tp d (nxt tp d (nxt tp d f)))) (nI (nxt tp d (nxt tp d f))) (nI (tkE tp d (nxt tp d (nxt tp d f)))) (capV tp d (nxt tp d (nxt tp d f))) (numV tp d (nxt tp d f)) h2 q2 (put9 g u11 7 o)) hx hb hr hlk hP hS (tg_ad.trans tg_ad.symm) (⟨true, (put9 g u11 7 o), (nxt tp d (nxt tp d f)), (numV tp d (nxt tp d f)), rfl, by simp [clR, outI, c14, n11, eu11, ec11], rfl⟩) dX2_isLetting_31
    · exact absurd c14 (by decide)
  · refine mu_V (w := (TW cI h q (nI d) tp (tokC (byt tp d (nxt tp d f))) (nI (nxt tp d f)) (nI (tkE tp d (nxt tp d f))) (capV tp d (nxt tp d f)) tn)) (rest := []) S hK hP hD hS (k_X2_takesNumber_f d (nxt tp d f) ((nI n) - 1) hd (nxt_le (hf)) hT (fi_999 h8) n11) gv_X2_67 hd_X2_takesNumber ⟨Nat.le_of_ble_eq_true rfl, Nat.le_of_ble_eq_true rfl⟩ [0, 1] rfl rfl 2 rfl rfl rfl rfl hl.1 (lv_room (Nat.le_of_ble_eq_true rfl)) dX2_isLetting_11 ⟨Nat.zero_le _, Nat.zero_le _⟩ (fun ov w' H locs hp hP hD hS => ?_)
    obtain ⟨rfl, rfl⟩ := hp
    have hP : va_P D vwCl (TG cI h q (nI d) tp (tokC (byt tp d (nxt tp d f))) (nI (nxt tp d f)) (nI (tkE tp d (nxt tp d f))) (capV tp d (nxt tp d f)) tn h2 q2 g) H := hP
    have hD : va_D _ (TG cI h q (nI d) tp (tokC (byt tp d (nxt tp d f))) (nI (nxt tp d f)) (nI (tkE tp d (nxt tp d f))) (capV tp d (nxt tp d f)) tn h2 q2 g) := hD
    refine W.eq (g2 := F0 m 14 ls [.int 0]) rfl ?_
    refine lv_if_ne (tgt := 19) hx hb dX2_isLetting_14 rfl (fun c14 => ?_) (fun c14 => ?_)
    · exact absurd c14 (by decide)
    · refine lv_iconst (v := 0) hx hb dX2_isLetting_17 rfl ?_
      exact mu_zret false (rfl) (TG cI h q (nI d) tp (tokC (byt tp d (nxt tp d f))) (nI (nxt tp d f)) (nI (tkE tp d (nxt tp d f))) (capV tp d (nxt tp d f)) tn h2 q2 g) hx hb hr hlk hP hS (tg_ad.trans tg_ad.symm) (⟨false, g, (nxt tp d f), tn, rfl, by simp [clR, outI, c14, n11], rfl⟩) dX2_isLetting_18

set_option maxHeartbeats 4000000 in
set_option maxRecDepth 100000 in
theorem k_X2_isFigure (n : Nat) (d : Nat) (f : Nat) (k : Int32) (hI : Inv g n) (hd : d ≤ 120) (hf : f ≤ d) (hT : TpI tp d) : MZ kA vA oB l D (tyA cI cJ cO) yX2_isFigure cX2_isFigure 5 ((some .boolean)) 6 128 [.ref h, .ref h2, .int k] (TG cI h q (nI d) tp (tokC (byt tp d f)) (nI f) (nI (tkE tp d f)) (capV tp d f) tn h2 q2 g) (fun ov w' => ∃ (b9 : Bool) (g9 : Nat → Int32) (f9 : Nat) (n9 : Int32), ov = some (.int (b2i b9)) ∧ clR (figI tp d g n f k) b9 g9 f9 ∧ w' = (TG cI h q (nI d) tp (tokC (byt tp d f9)) (nI f9) (nI (tkE tp d f9)) (capV tp d f9) n9 h2 q2 g9)) := by
  refine MZ.mk (by decide) (Nat.le_of_ble_eq_true rfl) ?_
  intro p e s m below meth c ls S hr hlk hP hK hD hS hZ hl
  have S : CallFix p m c cX2_isFigure 5 s _ WL RX2 := S
  obtain ⟨hx, hb, hml, hown, hts⟩ := id S
  have hl : lv_has ls 5 [(0, .ref h), (1, .ref h2), (2, .int k)] := hl
  have h8 : n ≤ 8 := hI.1
  refine lv_aload_n hx hb dX2_isFigure_0 rfl (lv_at hl 1 rfl) ?_
  refine ro_V (w := (GW cI h2 q2 (g 0) (g 2) (g 1) (tl g))) (rest := []) S hK (hP.sub [2, 3] rfl) (k_X0_isFull n hI) gv_X2_76 hd_X0_isFull ⟨Nat.le_of_ble_eq_true rfl, Nat.le_of_ble_eq_true rfl⟩ 0 rfl rfl rfl rfl hl.1 (lv_room (Nat.le_of_ble_eq_true rfl)) dX2_isFigure_1 ⟨Nat.zero_le _, Nat.zero_le _⟩ ?_
  refine lv_if_eq (tgt := 9) hx hb dX2_isFigure_4 rfl (fun c4 => ?_) (fun c4 => ?_)
  · replace c4 := (b2i_0 _).mp c4
    have h8n : n < 8 := by have h9 := of_decide_eq_false c4; omega
    refine lv_aload_n hx hb dX2_isFigure_9 rfl (lv_at hl 0 rfl) ?_
    refine mu_V (w := (TW cI h q (nI d) tp (tokC (byt tp d f)) (nI f) (nI (tkE tp d f)) (capV tp d f) tn)) (rest := []) S hK hP hD hS (k_X2_advance d (tkE tp d f) hd (tkE_le (hf)) hT) gv_X2_34 hd_X2_advance ⟨Nat.le_of_ble_eq_true rfl, Nat.le_of_ble_eq_true rfl⟩ [0, 1] rfl rfl 2 rfl rfl rfl rfl hl.1 (lv_room (Nat.le_of_ble_eq_true rfl)) dX2_isFigure_10 ⟨Nat.zero_le _, Nat.zero_le _⟩ (fun ov w' H locs hp hP hD hS => ?_)
    obtain ⟨rfl, rfl⟩ := hp
    have hP : va_P D vwCl (TG cI h q (nI d) tp (tokC (byt tp d (nxt tp d f))) (nI (nxt tp d f)) (nI (tkE tp d (nxt tp d f))) (capV tp d (nxt tp d f)) tn h2 q2 g) H := hP
    have hD : va_D _ (TG cI h q (nI d) tp (tokC (byt tp d (nxt tp d f))) (nI (nxt tp d f)) (nI (tkE tp d (nxt tp d f))) (capV tp d (nxt tp d f)) tn h2 q2 g) := hD
    refine W.eq (g2 := F0 m 13 ls []) rfl ?_
    refine lv_aload_n hx hb dX2_isFigure_13 rfl (lv_at hl 0 rfl) ?_
    refine lv_iconst (v := 3) hx hb dX2_isFigure_14 rfl ?_
    rcases Bool.eq_false_or_eq_true (numT tp d (nxt tp d f) 3) with n15 | n15
    · refine mu_V (w := (TW cI h q (nI d) tp (tokC (byt tp d (nxt tp d f))) (nI (nxt tp d f)) (nI (tkE tp d (nxt tp d f))) (capV tp d (nxt tp d f)) tn)) (rest := []) S hK hP hD hS (k_X2_takesNumber_t d (nxt tp d f) 3 hd (nxt_le (hf)) hT (by decide) n15) gv_X2_67 hd_X2_takesNumber ⟨Nat.le_of_ble_eq_true rfl, Nat.le_of_ble_eq_true rfl⟩ [0, 1] rfl rfl 2 rfl rfl rfl rfl hl.1 (lv_room (Nat.le_of_ble_eq_true rfl)) dX2_isFigure_15 ⟨Nat.zero_le _, Nat.zero_le _⟩ (fun ov w' H locs hp hP hD hS => ?_)
      obtain ⟨rfl, rfl⟩ := hp
      have hP : va_P D vwCl (TG cI h q (nI d) tp (tokC (byt tp d (nxt tp d (nxt tp d f)))) (nI (nxt tp d (nxt tp d f))) (nI (tkE tp d (nxt tp d (nxt tp d f)))) (capV tp d (nxt tp d (nxt tp d f))) (numV tp d (nxt tp d f)) h2 q2 g) H := hP
      have hD : va_D _ (TG cI h q (nI d) tp (tokC (byt tp d (nxt tp d (nxt tp d f)))) (nI (nxt tp d (nxt tp d f))) (nI (tkE tp d (nxt tp d (nxt tp d f)))) (capV tp d (nxt tp d (nxt tp d f))) (numV tp d (nxt tp d f)) h2 q2 g) := hD
      refine W.eq (g2 := F0 m 18 ls [.int 1]) rfl ?_
      refine lv_if_ne (tgt := 23) hx hb dX2_isFigure_18 rfl (fun c18 => ?_) (fun c18 => ?_)
      · refine lv_aload_n hx hb dX2_isFigure_23 rfl (lv_at hl 0 rfl) ?_
        refine va_get (ci := 2) (v := .int (numV tp d (nxt tp d f))) hx hb hts wx_X2 hown hK hP 0 rfl rfl 6 (by decide) (hts _ wf_X2_31) (fun _ h9 => h9) rfl dX2_isFigure_24 ?_
        refine lv_istore_n (lv' := [(3, .int (numV tp d (nxt tp d f))), (0, .ref h), (1, .ref h2), (2, .int k)]) hx hb dX2_isFigure_27 rfl hl (by decide) rfl (fun ls hl => ?_)
        refine lv_aload_n hx hb dX2_isFigure_28 rfl (lv_at hl 1 rfl) ?_
        refine lv_bipush (v := 19) hx hb dX2_isFigure_29 rfl ?_
        rcases Bool.eq_false_or_eq_true (numT tp d (nxt tp d (nxt tp d f)) 19) with n31 | n31
        · refine mu_V (w := (TW cI h q (nI d) tp (tokC (byt tp d (nxt tp d (nxt tp d f)))) (nI (nxt tp d (nxt tp d f))) (nI (tkE tp d (nxt tp d (nxt tp d f)))) (capV tp d (nxt tp d (nxt tp d f))) (numV tp d (nxt tp d f)))) (rest := []) S hK hP hD hS (k_X2_takesNumber_t d (nxt tp d (nxt tp d f)) 19 hd (nxt_le (nxt_le (hf))) hT (by decide) n31) gv_X2_67 hd_X2_takesNumber ⟨Nat.le_of_ble_eq_true rfl, Nat.le_of_ble_eq_true rfl⟩ [0, 1] rfl rfl 2 rfl rfl rfl rfl hl.1 (lv_room (Nat.le_of_ble_eq_true rfl)) dX2_isFigure_31 ⟨Nat.zero_le _, Nat.zero_le _⟩ (fun ov w' H locs hp hP hD hS => ?_)
          obtain ⟨rfl, rfl⟩ := hp
          have hP : va_P D vwCl (TG cI h q (nI d) tp (tokC (byt tp d (nxt tp d (nxt tp d (nxt tp d f))))) (nI (nxt tp d (nxt tp d (nxt tp d f)))) (nI (tkE tp d (nxt tp d (nxt tp d (nxt tp d f))))) (capV tp d (nxt tp d (nxt tp d (nxt tp d f)))) (numV tp d (nxt tp d (nxt tp d f))) h2 q2 g) H := hP
          have hD : va_D _ (TG cI h q (nI d) tp (tokC (byt tp d (nxt tp d (nxt tp d (nxt tp d f))))) (nI (nxt tp d (nxt tp d (nxt tp d f)))) (nI (tkE tp d (nxt tp d (nxt tp d (nxt tp d f))))) (capV tp d (nxt tp d (nxt tp d (nxt tp d f)))) (numV tp d (nxt tp d (nxt tp d f))) h2 q2 g) := hD
          refine W.eq (g2 := F0 m 34 ls [.int 1]) rfl ?_
          refine lv_if_ne (tgt := 39) hx hb dX2_isFigure_34 rfl (fun c34 => ?_) (fun c34 => ?_)
          · refine lv_aload_n hx hb dX2_isFigure_39 rfl (lv_at hl 2 rfl) ?_
            refine lv_iload_n hx hb dX2_isFigure_40 rfl (lv_at hl 3 rfl) ?_
            refine lv_iload_n hx hb dX2_isFigure_41 rfl (lv_at hl 0 rfl) ?_
            refine lv_aload_n hx hb dX2_isFigure_42 rfl (lv_at hl 1 rfl) ?_
            refine va_get (ci := 2) (v := .int (numV tp d (nxt tp d (nxt tp d f)))) hx hb hts wx_X2 hown hK hP 0 rfl rfl 6 (by decide) (hts _ wf_X2_31) (fun _ h9 => h9) rfl dX2_isFigure_43 ?_
            refine mu_V (w := (GW cI h2 q2 (g 0) (g 2) (g 1) (tl g))) (rest := []) S hK hP hD hS (k_X0_hang n k (numV tp d (nxt tp d f)) (numV tp d (nxt tp d (nxt tp d f))) hI (by omega)) gv_X2_80 hd_X0_hang ⟨Nat.le_of_ble_eq_true rfl, Nat.le_of_ble_eq_true rfl⟩ [2, 3] rfl rfl 0 rfl rfl rfl rfl hl.1 (lv_room (Nat.le_of_ble_eq_true rfl)) dX2_isFigure_46 ⟨Nat.zero_le _, Nat.zero_le _⟩ (fun ov w' H locs hp hP hD hS => ?_)
            obtain ⟨rfl, rfl⟩ := hp
            have hP : va_P D vwCl (TG cI h q (nI d) tp (tokC (byt tp d (nxt tp d (nxt tp d (nxt tp d f))))) (nI (nxt tp d (nxt tp d (nxt tp d f)))) (nI (tkE tp d (nxt tp d (nxt tp d (nxt tp d f))))) (capV tp d (nxt tp d (nxt tp d (nxt tp d f)))) (numV tp d (nxt tp d (nxt tp d f))) h2 q2 (addsF g n k (numV tp d (nxt tp d f)) (numV tp d (nxt tp d (nxt tp d f))))) H := hP
            have hD : va_D _ (TG cI h q (nI d) tp (tokC (byt tp d (nxt tp d (nxt tp d (nxt tp d f))))) (nI (nxt tp d (nxt tp d (nxt tp d f)))) (nI (tkE tp d (nxt tp d (nxt tp d (nxt tp d f))))) (capV tp d (nxt tp d (nxt tp d (nxt tp d f)))) (numV tp d (nxt tp d (nxt tp d f))) h2 q2 (addsF g n k (numV tp d (nxt tp d f)) (numV tp d (nxt tp d (nxt tp d f))))) := hD
            refine W.eq (g2 := F0 m 49 ls [.int (nI n)]) rfl ?_
            refine lv_istore (lv' := [(4, .int (nI n)), (3, .int (numV tp d (nxt tp d f))), (0, .ref h), (1, .ref h2), (2, .int k)]) hx hb dX2_isFigure_49 hl (by decide) rfl (fun ls hl => ?_)
            refine lv_aload_n hx hb dX2_isFigure_51 rfl (lv_at hl 2 rfl) ?_
            refine va_ldcS (q := kA 6) hx hb hown (hZ.2.1 6 (by decide)) dX2_isFigure_52 ?_
            refine rz_V (w := (TW cI h q (nI d) tp (tokC (byt tp d (nxt tp d (nxt tp d (nxt tp d f))))) (nI (nxt tp d (nxt tp d (nxt tp d f)))) (nI (tkE tp d (nxt tp d (nxt tp d (nxt tp d f))))) (capV tp d (nxt tp d (nxt tp d (nxt tp d f)))) (numV tp d (nxt tp d (nxt tp d f))))) (rest := []) S hK (hP.sub [0, 1] rfl) hZ hS (k_X2_isWord 6 d (nxt tp d (nxt tp d (nxt tp d f))) (by decide) hd (nxt_le (nxt_le (nxt_le (hf))))) gv_X2_51 hd_X2_isWord ⟨Nat.le_of_ble_eq_true rfl, Nat.le_of_ble_eq_true rfl⟩ 2 rfl rfl rfl rfl hl.1 (lv_room (Nat.le_of_ble_eq_true rfl)) dX2_isFigure_54 ⟨Nat.zero_le _, Nat.zero_le _⟩ ?_
            refine W.eq (g2 := F0 m 57 ls [.int (b2i (isWd tp d (nxt tp d (nxt tp d (nxt tp d f))) 6))]) rfl ?_
            refine lv_if_eq (tgt := 86) hx hb dX2_isFigure_57 rfl (fun c57 => ?_) (fun c57 => ?_)
            · replace c57 := (b2i_0 _).mp c57
              refine lv_aload_n hx hb dX2_isFigure_86 rfl (lv_at hl 2 rfl) ?_
              refine va_ldcS (q := kA 7) hx hb hown (hZ.2.1 7 (by decide)) dX2_isFigure_87 ?_
              refine rz_V (w := (TW cI h q (nI d) tp (tokC (byt tp d (nxt tp d (nxt tp d (nxt tp d f))))) (nI (nxt tp d (nxt tp d (nxt tp d f)))) (nI (tkE tp d (nxt tp d (nxt tp d (nxt tp d f))))) (capV tp d (nxt tp d (nxt tp d (nxt tp d f)))) (numV tp d (nxt tp d (nxt tp d f))))) (rest := []) S hK (hP.sub [0, 1] rfl) hZ hS (k_X2_isWord 7 d (nxt tp d (nxt tp d (nxt tp d f))) (by decide) hd (nxt_le (nxt_le (nxt_le (hf))))) gv_X2_51 hd_X2_isWord ⟨Nat.le_of_ble_eq_true rfl, Nat.le_of_ble_eq_true rfl⟩ 2 rfl rfl rfl rfl hl.1 (lv_room (Nat.le_of_ble_eq_true rfl)) dX2_isFigure_89 ⟨Nat.zero_le _, Nat.zero_le _⟩ ?_
              refine W.eq (g2 := F0 m 92 ls [.int (b2i (isWd tp d (nxt tp d (nxt tp d (nxt tp d f))) 7))]) rfl ?_
              refine lv_if_eq (tgt := 107) hx hb dX2_isFigure_92 rfl (fun c92 => ?_) (fun c92 => ?_)
              · replace c92 := (b2i_0 _).mp c92
                refine lv_iconst (v := 1) hx hb dX2_isFigure_107 rfl ?_
                exact mu_zret true (rfl) (TG cI h q (nI d) tp (tokC (byt tp d (nxt tp d (nxt tp d (nxt tp d f))))) (nI (nxt tp d (nxt tp d (nxt tp d f)))) (nI (tkE tp d (nxt tp d (nxt tp d (nxt tp d f))))) (capV tp d (nxt tp d (nxt tp d (nxt tp d f)))) (numV tp d (nxt tp d (nxt tp d f))) h2 q2 (addsF g n k (numV tp d (nxt tp d f)) (numV tp d (nxt tp d (nxt tp d f))))) hx hb hr hlk hP hS (tg_ad.trans tg_ad.symm) (⟨true, (addsF g n k (numV tp d (nxt tp d f)) (numV tp d (nxt tp d (nxt tp d f)))), (nxt tp d (nxt tp d (nxt tp d f))), (numV tp d (nxt tp d (nxt tp d f))), rfl, by simp [clR, figI, litI, c18, c34, c57, c92, h8n, n15, n31], rfl⟩) dX2_isFigure_108
              · replace c92 := b2i_n0 c92
                refine lv_aload_n hx hb dX2_isFigure_95 rfl (lv_at hl 2 rfl) ?_
                refine mu_V (w := (TW cI h q (nI d) tp (tokC (byt tp d (nxt tp d (nxt tp d (nxt tp d f))))) (nI (nxt tp d (nxt tp d (nxt tp d f)))) (nI (tkE tp d (nxt tp d (nxt tp d (nxt tp d f))))) (capV tp d (nxt tp d (nxt tp d (nxt tp d f)))) (numV tp d (nxt tp d (nxt tp d f))))) (rest := []) S hK hP hD hS (k_X2_advance d (tkE tp d (nxt tp d (nxt tp d (nxt tp d f)))) hd (tkE_le (nxt_le (nxt_le (nxt_le (hf))))) hT) gv_X2_34 hd_X2_advance ⟨Nat.le_of_ble_eq_true rfl, Nat.le_of_ble_eq_true rfl⟩ [0, 1] rfl rfl 2 rfl rfl rfl rfl hl.1 (lv_room (Nat.le_of_ble_eq_true rfl)) dX2_isFigure_96 ⟨Nat.zero_le _, Nat.zero_le _⟩ (fun ov w' H locs hp hP hD hS => ?_)
                obtain ⟨rfl, rfl⟩ := hp
                have hP : va_P D vwCl (TG cI h q (nI d) tp (tokC (byt tp d (nxt tp d (nxt tp d (nxt tp d (nxt tp d f)))))) (nI (nxt tp d (nxt tp d (nxt tp d (nxt tp d f))))) (nI (tkE tp d (nxt tp d (nxt tp d (nxt tp d (nxt tp d f)))))) (capV tp d (nxt tp d (nxt tp d (nxt tp d (nxt tp d f))))) (numV tp d (nxt tp d (nxt tp d f))) h2 q2 (addsF g n k (numV tp d (nxt tp d f)) (numV tp d (nxt tp d (nxt tp d f))))) H := hP
                have hD : va_D _ (TG cI h q (nI d) tp (tokC (byt tp d (nxt tp d (nxt tp d (nxt tp d (nxt tp d f)))))) (nI (nxt tp d (nxt tp d (nxt tp d (nxt tp d f))))) (nI (tkE tp d (nxt tp d (nxt tp d (nxt tp d (nxt tp d f)))))) (capV tp d (nxt tp d (nxt tp d (nxt tp d (nxt tp d f))))) (numV tp d (nxt tp d (nxt tp d f))) h2 q2 (addsF g n k (numV tp d (nxt tp d f)) (numV tp d (nxt tp d (nxt tp d f))))) := hD
                refine W.eq (g2 := F0 m 99 ls []) rfl ?_
                refine lv_aload_n hx hb dX2_isFigure_99 rfl (lv_at hl 3 rfl) ?_
                refine lv_iload hx hb dX2_isFigure_100 (lv_at hl 0 rfl) ?_
                refine lv_iconst (v := 4) hx hb dX2_isFigure_102 rfl ?_
                refine lv_iconst (v := 1) hx hb dX2_isFigure_103 rfl ?_
                refine mu_V (w := (GW cI h2 q2 ((addsF g n k (numV tp d (nxt tp d f)) (numV tp d (nxt tp d (nxt tp d f)))) 0) ((addsF g n k (numV tp d (nxt tp d f)) (numV tp d (nxt tp d (nxt tp d f)))) 2) ((addsF g n k (numV tp d (nxt tp d f)) (numV tp d (nxt tp d (nxt tp d f)))) 1) (tl (addsF g n k (numV tp d (nxt tp d f)) (numV tp d (nxt tp d (nxt tp d f))))))) (rest := []) S hK hP hD hS (k_X0_put n 4 1 (by omega) (by omega)) gv_X2_86 hd_X0_put ⟨Nat.le_of_ble_eq_true rfl, Nat.le_of_ble_eq_true rfl⟩ [2, 3] rfl rfl 0 rfl rfl rfl rfl hl.1 (lv_room (Nat.le_of_ble_eq_true rfl)) dX2_isFigure_104 ⟨Nat.zero_le _, Nat.zero_le _⟩ (fun ov w' H locs hp hP hD hS => ?_)
                obtain ⟨rfl, rfl⟩ := hp
                have hP : va_P D vwCl (TG cI h q (nI d) tp (tokC (byt tp d (nxt tp d (nxt tp d (nxt tp d (nxt tp d f)))))) (nI (nxt tp d (nxt tp d (nxt tp d (nxt tp d f))))) (nI (tkE tp d (nxt tp d (nxt tp d (nxt tp d (nxt tp d f)))))) (capV tp d (nxt tp d (nxt tp d (nxt tp d (nxt tp d f))))) (numV tp d (nxt tp d (nxt tp d f))) h2 q2 (put9 (addsF g n k (numV tp d (nxt tp d f)) (numV tp d (nxt tp d (nxt tp d f)))) n 4 1)) H := hP
                have hD : va_D _ (TG cI h q (nI d) tp (tokC (byt tp d (nxt tp d (nxt tp d (nxt tp d (nxt tp d f)))))) (nI (nxt tp d (nxt tp d (nxt tp d (nxt tp d f))))) (nI (tkE tp d (nxt tp d (nxt tp d (nxt tp d (nxt tp d f)))))) (capV tp d (nxt tp d (nxt tp d (nxt tp d (nxt tp d f))))) (numV tp d (nxt tp d (nxt tp d f))) h2 q2 (put9 (addsF g n k (numV tp d (nxt tp d f)) (numV tp d (nxt tp d (nxt tp d f)))) n 4 1)) := hD
                refine W.eq (g2 := F0 m 107 ls []) rfl ?_
                refine lv_iconst (v := 1) hx hb dX2_isFigure_107 rfl ?_
                exact mu_zret true (rfl) (TG cI h q (nI d) tp (tokC (byt tp d (nxt tp d (nxt tp d (nxt tp d (nxt tp d f)))))) (nI (nxt tp d (nxt tp d (nxt tp d (nxt tp d f))))) (nI (tkE tp d (nxt tp d (nxt tp d (nxt tp d (nxt tp d f)))))) (capV tp d (nxt tp d (nxt tp d (nxt tp d (nxt tp d f))))) (numV tp d (nxt tp d (nxt tp d f))) h2 q2 (put9 (addsF g n k (numV tp d (nxt tp d f)) (numV tp d (nxt tp d (nxt tp d f)))) n 4 1)) hx hb hr hlk hP hS (tg_ad.trans tg_ad.symm) (⟨true, (put9 (addsF g n k (numV tp d (nxt tp d f)) (numV tp d (nxt tp d (nxt tp d f)))) n 4 1), (nxt tp d (nxt tp d (nxt tp d (nxt tp d f)))), (numV tp d (nxt tp d (nxt tp d f))), rfl, by simp [clR, figI, litI, c18, c34, c57, c92, h8n, n15, n31], rfl⟩) dX2_isFigure_108
            · replace c57 := b2i_n0 c57
              refine lv_aload_n hx hb dX2_isFigure_60 rfl (lv_at hl 2 rfl) ?_
              refine mu_V (w := (TW cI h q (nI d) tp (tokC (byt tp d (nxt tp d (nxt tp d (nxt tp d f))))) (nI (nxt tp d (nxt tp d (nxt tp d f)))) (nI (tkE tp d (nxt tp d (nxt tp d (nxt tp d f))))) (capV tp d (nxt tp d (nxt tp d (nxt tp d f)))) (numV tp d (nxt tp d (nxt tp d f))))) (rest := []) S hK hP hD hS (k_X2_advance d (tkE tp d (nxt tp d (nxt tp d (nxt tp d f)))) hd (tkE_le (nxt_le (nxt_le (nxt_le (hf))))) hT) gv_X2_34 hd_X2_advance ⟨Nat.le_of_ble_eq_true rfl, Nat.le_of_ble_eq_true rfl⟩ [0, 1] rfl rfl 2 rfl rfl rfl rfl hl.1 (lv_room (Nat.le_of_ble_eq_true rfl)) dX2_isFigure_61 ⟨Nat.zero_le _, Nat.zero_le _⟩ (fun ov w' H locs hp hP hD hS => ?_)
              obtain ⟨rfl, rfl⟩ := hp
              have hP : va_P D vwCl (TG cI h q (nI d) tp (tokC (byt tp d (nxt tp d (nxt tp d (nxt tp d (nxt tp d f)))))) (nI (nxt tp d (nxt tp d (nxt tp d (nxt tp d f))))) (nI (tkE tp d (nxt tp d (nxt tp d (nxt tp d (nxt tp d f)))))) (capV tp d (nxt tp d (nxt tp d (nxt tp d (nxt tp d f))))) (numV tp d (nxt tp d (nxt tp d f))) h2 q2 (addsF g n k (numV tp d (nxt tp d f)) (numV tp d (nxt tp d (nxt tp d f))))) H := hP
              have hD : va_D _ (TG cI h q (nI d) tp (tokC (byt tp d (nxt tp d (nxt tp d (nxt tp d (nxt tp d f)))))) (nI (nxt tp d (nxt tp d (nxt tp d (nxt tp d f))))) (nI (tkE tp d (nxt tp d (nxt tp d (nxt tp d (nxt tp d f)))))) (capV tp d (nxt tp d (nxt tp d (nxt tp d (nxt tp d f))))) (numV tp d (nxt tp d (nxt tp d f))) h2 q2 (addsF g n k (numV tp d (nxt tp d f)) (numV tp d (nxt tp d (nxt tp d f))))) := hD
              refine W.eq (g2 := F0 m 64 ls []) rfl ?_
              refine lv_aload_n hx hb dX2_isFigure_64 rfl (lv_at hl 2 rfl) ?_
              refine lv_bipush (v := 99) hx hb dX2_isFigure_65 rfl ?_
              rcases Bool.eq_false_or_eq_true (numT tp d (nxt tp d (nxt tp d (nxt tp d (nxt tp d f)))) 99) with n67 | n67
              · refine mu_V (w := (TW cI h q (nI d) tp (tokC (byt tp d (nxt tp d (nxt tp d (nxt tp d (nxt tp d f)))))) (nI (nxt tp d (nxt tp d (nxt tp d (nxt tp d f))))) (nI (tkE tp d (nxt tp d (nxt tp d (nxt tp d (nxt tp d f)))))) (capV tp d (nxt tp d (nxt tp d (nxt tp d (nxt tp d f))))) (numV tp d (nxt tp d (nxt tp d f))))) (rest := []) S hK hP hD hS (k_X2_takesNumber_t d (nxt tp d (nxt tp d (nxt tp d (nxt tp d f)))) 99 hd (nxt_le (nxt_le (nxt_le (nxt_le (hf))))) hT (by decide) n67) gv_X2_67 hd_X2_takesNumber ⟨Nat.le_of_ble_eq_true rfl, Nat.le_of_ble_eq_true rfl⟩ [0, 1] rfl rfl 2 rfl rfl rfl rfl hl.1 (lv_room (Nat.le_of_ble_eq_true rfl)) dX2_isFigure_67 ⟨Nat.zero_le _, Nat.zero_le _⟩ (fun ov w' H locs hp hP hD hS => ?_)
                obtain ⟨rfl, rfl⟩ := hp
                have hP : va_P D vwCl (TG cI h q (nI d) tp (tokC (byt tp d (nxt tp d (nxt tp d (nxt tp d (nxt tp d (nxt tp d f))))))) (nI (nxt tp d (nxt tp d (nxt tp d (nxt tp d (nxt tp d f)))))) (nI (tkE tp d (nxt tp d (nxt tp d (nxt tp d (nxt tp d (nxt tp d f))))))) (capV tp d (nxt tp d (nxt tp d (nxt tp d (nxt tp d (nxt tp d f)))))) (numV tp d (nxt tp d (nxt tp d (nxt tp d (nxt tp d f))))) h2 q2 (addsF g n k (numV tp d (nxt tp d f)) (numV tp d (nxt tp d (nxt tp d f))))) H := hP
                have hD : va_D _ (TG cI h q (nI d) tp (tokC (byt tp d (nxt tp d (nxt tp d (nxt tp d (nxt tp d (nxt tp d f))))))) (nI (nxt tp d (nxt tp d (nxt tp d (nxt tp d (nxt tp d f)))))) (nI (tkE tp d (nxt tp d (nxt tp d (nxt tp d (nxt tp d (nxt tp d f))))))) (capV tp d (nxt tp d (nxt tp d (nxt tp d (nxt tp d (nxt tp d f)))))) (numV tp d (nxt tp d (nxt tp d (nxt tp d (nxt tp d f))))) h2 q2 (addsF g n k (numV tp d (nxt tp d f)) (numV tp d (nxt tp d (nxt tp d f))))) := hD
                refine W.eq (g2 := F0 m 70 ls [.int 1]) rfl ?_
                refine lv_if_ne (tgt := 75) hx hb dX2_isFigure_70 rfl (fun c70 => ?_) (fun c70 => ?_)
                · refine lv_aload_n hx hb dX2_isFigure_75 rfl (lv_at hl 3 rfl) ?_
                  refine lv_iload hx hb dX2_isFigure_76 (lv_at hl 0 rfl) ?_
                  refine lv_iconst (v := 3) hx hb dX2_isFigure_78 rfl ?_
                  refine lv_aload_n hx hb dX2_isFigure_79 rfl (lv_at hl 2 rfl) ?_
                  refine va_get (ci := 2) (v := .int (numV tp d (nxt tp d (nxt tp d (nxt tp d (nxt tp d f)))))) hx hb hts wx_X2 hown hK hP 0 rfl rfl 6 (by decide) (hts _ wf_X2_31) (fun _ h9 => h9) rfl dX2_isFigure_80 ?_
                  refine mu_V (w := (GW cI h2 q2 ((addsF g n k (numV tp d (nxt tp d f)) (numV tp d (nxt tp d (nxt tp d f)))) 0) ((addsF g n k (numV tp d (nxt tp d f)) (numV tp d (nxt tp d (nxt tp d f)))) 2) ((addsF g n k (numV tp d (nxt tp d f)) (numV tp d (nxt tp d (nxt tp d f)))) 1) (tl (addsF g n k (numV tp d (nxt tp d f)) (numV tp d (nxt tp d (nxt tp d f))))))) (rest := []) S hK hP hD hS (k_X0_put n 3 (numV tp d (nxt tp d (nxt tp d (nxt tp d (nxt tp d f))))) (by omega) (by omega)) gv_X2_86 hd_X0_put ⟨Nat.le_of_ble_eq_true rfl, Nat.le_of_ble_eq_true rfl⟩ [2, 3] rfl rfl 0 rfl rfl rfl rfl hl.1 (lv_room (Nat.le_of_ble_eq_true rfl)) dX2_isFigure_83 ⟨Nat.zero_le _, Nat.zero_le _⟩ (fun ov w' H locs hp hP hD hS => ?_)
                  obtain ⟨rfl, rfl⟩ := hp
                  have hP : va_P D vwCl (TG cI h q (nI d) tp (tokC (byt tp d (nxt tp d (nxt tp d (nxt tp d (nxt tp d (nxt tp d f))))))) (nI (nxt tp d (nxt tp d (nxt tp d (nxt tp d (nxt tp d f)))))) (nI (tkE tp d (nxt tp d (nxt tp d (nxt tp d (nxt tp d (nxt tp d f))))))) (capV tp d (nxt tp d (nxt tp d (nxt tp d (nxt tp d (nxt tp d f)))))) (numV tp d (nxt tp d (nxt tp d (nxt tp d (nxt tp d f))))) h2 q2 (put9 (addsF g n k (numV tp d (nxt tp d f)) (numV tp d (nxt tp d (nxt tp d f)))) n 3 (numV tp d (nxt tp d (nxt tp d (nxt tp d (nxt tp d f))))))) H := hP
                  have hD : va_D _ (TG cI h q (nI d) tp (tokC (byt tp d (nxt tp d (nxt tp d (nxt tp d (nxt tp d (nxt tp d f))))))) (nI (nxt tp d (nxt tp d (nxt tp d (nxt tp d (nxt tp d f)))))) (nI (tkE tp d (nxt tp d (nxt tp d (nxt tp d (nxt tp d (nxt tp d f))))))) (capV tp d (nxt tp d (nxt tp d (nxt tp d (nxt tp d (nxt tp d f)))))) (numV tp d (nxt tp d (nxt tp d (nxt tp d (nxt tp d f))))) h2 q2 (put9 (addsF g n k (numV tp d (nxt tp d f)) (numV tp d (nxt tp d (nxt tp d f)))) n 3 (numV tp d (nxt tp d (nxt tp d (nxt tp d (nxt tp d f))))))) := hD
                  refine W.eq (g2 := F0 m 86 ls []) rfl ?_
                  refine lv_aload_n hx hb dX2_isFigure_86 rfl (lv_at hl 2 rfl) ?_
                  refine va_ldcS (q := kA 7) hx hb hown (hZ.2.1 7 (by decide)) dX2_isFigure_87 ?_
                  refine rz_V (w := (TW cI h q (nI d) tp (tokC (byt tp d (nxt tp d (nxt tp d (nxt tp d (nxt tp d (nxt tp d f))))))) (nI (nxt tp d (nxt tp d (nxt tp d (nxt tp d (nxt tp d f)))))) (nI (tkE tp d (nxt tp d (nxt tp d (nxt tp d (nxt tp d (nxt tp d f))))))) (capV tp d (nxt tp d (nxt tp d (nxt tp d (nxt tp d (nxt tp d f)))))) (numV tp d (nxt tp d (nxt tp d (nxt tp d (nxt tp d f))))))) (rest := []) S hK (hP.sub [0, 1] rfl) hZ hS (k_X2_isWord 7 d (nxt tp d (nxt tp d (nxt tp d (nxt tp d (nxt tp d f))))) (by decide) hd (nxt_le (nxt_le (nxt_le (nxt_le (nxt_le (hf))))))) gv_X2_51 hd_X2_isWord ⟨Nat.le_of_ble_eq_true rfl, Nat.le_of_ble_eq_true rfl⟩ 2 rfl rfl rfl rfl hl.1 (lv_room (Nat.le_of_ble_eq_true rfl)) dX2_isFigure_89 ⟨Nat.zero_le _, Nat.zero_le _⟩ ?_
                  refine W.eq (g2 := F0 m 92 ls [.int (b2i (isWd tp d (nxt tp d (nxt tp d (nxt tp d (nxt tp d (nxt tp d f))))) 7))]) rfl ?_
                  refine lv_if_eq (tgt := 107) hx hb dX2_isFigure_92 rfl (fun c92 => ?_) (fun c92 => ?_)
                  · replace c92 := (b2i_0 _).mp c92
                    refine lv_iconst (v := 1) hx hb dX2_isFigure_107 rfl ?_
                    exact mu_zret true (rfl) (TG cI h q (nI d) tp (tokC (byt tp d (nxt tp d (nxt tp d (nxt tp d (nxt tp d (nxt tp d f))))))) (nI (nxt tp d (nxt tp d (nxt tp d (nxt tp d (nxt tp d f)))))) (nI (tkE tp d (nxt tp d (nxt tp d (nxt tp d (nxt tp d (nxt tp d f))))))) (capV tp d (nxt tp d (nxt tp d (nxt tp d (nxt tp d (nxt tp d f)))))) (numV tp d (nxt tp d (nxt tp d (nxt tp d (nxt tp d f))))) h2 q2 (put9 (addsF g n k (numV tp d (nxt tp d f)) (numV tp d (nxt tp d (nxt tp d f)))) n 3 (numV tp d (nxt tp d (nxt tp d (nxt tp d (nxt tp d f))))))) hx hb hr hlk hP hS (tg_ad.trans tg_ad.symm) (⟨true, (put9 (addsF g n k (numV tp d (nxt tp d f)) (numV tp d (nxt tp d (nxt tp d f)))) n 3 (numV tp d (nxt tp d (nxt tp d (nxt tp d (nxt tp d f)))))), (nxt tp d (nxt tp d (nxt tp d (nxt tp d (nxt tp d f))))), (numV tp d (nxt tp d (nxt tp d (nxt tp d (nxt tp d f))))), rfl, by simp [clR, figI, litI, c18, c34, c57, c70, c92, h8n, n15, n31, n67], rfl⟩) dX2_isFigure_108
                  · replace c92 := b2i_n0 c92
                    refine lv_aload_n hx hb dX2_isFigure_95 rfl (lv_at hl 2 rfl) ?_
                    refine mu_V (w := (TW cI h q (nI d) tp (tokC (byt tp d (nxt tp d (nxt tp d (nxt tp d (nxt tp d (nxt tp d f))))))) (nI (nxt tp d (nxt tp d (nxt tp d (nxt tp d (nxt tp d f)))))) (nI (tkE tp d (nxt tp d (nxt tp d (nxt tp d (nxt tp d (nxt tp d f))))))) (capV tp d (nxt tp d (nxt tp d (nxt tp d (nxt tp d (nxt tp d f)))))) (numV tp d (nxt tp d (nxt tp d (nxt tp d (nxt tp d f))))))) (rest := []) S hK hP hD hS (k_X2_advance d (tkE tp d (nxt tp d (nxt tp d (nxt tp d (nxt tp d (nxt tp d f)))))) hd (tkE_le (nxt_le (nxt_le (nxt_le (nxt_le (nxt_le (hf))))))) hT) gv_X2_34 hd_X2_advance ⟨Nat.le_of_ble_eq_true rfl, Nat.le_of_ble_eq_true rfl⟩ [0, 1] rfl rfl 2 rfl rfl rfl rfl hl.1 (lv_room (Nat.le_of_ble_eq_true rfl)) dX2_isFigure_96 ⟨Nat.zero_le _, Nat.zero_le _⟩ (fun ov w' H locs hp hP hD hS => ?_)
                    obtain ⟨rfl, rfl⟩ := hp
                    have hP : va_P D vwCl (TG cI h q (nI d) tp (tokC (byt tp d (nxt tp d (nxt tp d (nxt tp d (nxt tp d (nxt tp d (nxt tp d f)))))))) (nI (nxt tp d (nxt tp d (nxt tp d (nxt tp d (nxt tp d (nxt tp d f))))))) (nI (tkE tp d (nxt tp d (nxt tp d (nxt tp d (nxt tp d (nxt tp d (nxt tp d f)))))))) (capV tp d (nxt tp d (nxt tp d (nxt tp d (nxt tp d (nxt tp d (nxt tp d f))))))) (numV tp d (nxt tp d (nxt tp d (nxt tp d (nxt tp d f))))) h2 q2 (put9 (addsF g n k (numV tp d (nxt tp d f)) (numV tp d (nxt tp d (nxt tp d f)))) n 3 (numV tp d (nxt tp d (nxt tp d (nxt tp d (nxt tp d f))))))) H := hP
                    have hD : va_D _ (TG cI h q (nI d) tp (tokC (byt tp d (nxt tp d (nxt tp d (nxt tp d (nxt tp d (nxt tp d (nxt tp d f)))))))) (nI (nxt tp d (nxt tp d (nxt tp d (nxt tp d (nxt tp d (nxt tp d f))))))) (nI (tkE tp d (nxt tp d (nxt tp d (nxt tp d (nxt tp d (nxt tp d (nxt tp d f)))))))) (capV tp d (nxt tp d (nxt tp d (nxt tp d (nxt tp d (nxt tp d (nxt tp d f))))))) (numV tp d (nxt tp d (nxt tp d (nxt tp d (nxt tp d f))))) h2 q2 (put9 (addsF g n k (numV tp d (nxt tp d f)) (numV tp d (nxt tp d (nxt tp d f)))) n 3 (numV tp d (nxt tp d (nxt tp d (nxt tp d (nxt tp d f))))))) := hD
                    refine W.eq (g2 := F0 m 99 ls []) rfl ?_
                    refine lv_aload_n hx hb dX2_isFigure_99 rfl (lv_at hl 3 rfl) ?_
                    refine lv_iload hx hb dX2_isFigure_100 (lv_at hl 0 rfl) ?_
                    refine lv_iconst (v := 4) hx hb dX2_isFigure_102 rfl ?_
                    refine lv_iconst (v := 1) hx hb dX2_isFigure_103 rfl ?_
                    refine mu_V (w := (GW cI h2 q2 ((put9 (addsF g n k (numV tp d (nxt tp d f)) (numV tp d (nxt tp d (nxt tp d f)))) n 3 (numV tp d (nxt tp d (nxt tp d (nxt tp d (nxt tp d f)))))) 0) ((put9 (addsF g n k (numV tp d (nxt tp d f)) (numV tp d (nxt tp d (nxt tp d f)))) n 3 (numV tp d (nxt tp d (nxt tp d (nxt tp d (nxt tp d f)))))) 2) ((put9 (addsF g n k (numV tp d (nxt tp d f)) (numV tp d (nxt tp d (nxt tp d f)))) n 3 (numV tp d (nxt tp d (nxt tp d (nxt tp d (nxt tp d f)))))) 1) (tl (put9 (addsF g n k (numV tp d (nxt tp d f)) (numV tp d (nxt tp d (nxt tp d f)))) n 3 (numV tp d (nxt tp d (nxt tp d (nxt tp d (nxt tp d f))))))))) (rest := []) S hK hP hD hS (k_X0_put n 4 1 (by omega) (by omega)) gv_X2_86 hd_X0_put ⟨Nat.le_of_ble_eq_true rfl, Nat.le_of_ble_eq_true rfl⟩ [2, 3] rfl rfl 0 rfl rfl rfl rfl hl.1 (lv_room (Nat.le_of_ble_eq_true rfl)) dX2_isFigure_104 ⟨Nat.zero_le _, Nat.zero_le _⟩ (fun ov w' H locs hp hP hD hS => ?_)
                    obtain ⟨rfl, rfl⟩ := hp
                    have hP : va_P D vwCl (TG cI h q (nI d) tp (tokC (byt tp d (nxt tp d (nxt tp d (nxt tp d (nxt tp d (nxt tp d (nxt tp d f)))))))) (nI (nxt tp d (nxt tp d (nxt tp d (nxt tp d (nxt tp d (nxt tp d f))))))) (nI (tkE tp d (nxt tp d (nxt tp d (nxt tp d (nxt tp d (nxt tp d (nxt tp d f)))))))) (capV tp d (nxt tp d (nxt tp d (nxt tp d (nxt tp d (nxt tp d (nxt tp d f))))))) (numV tp d (nxt tp d (nxt tp d (nxt tp d (nxt tp d f))))) h2 q2 (put9 (put9 (addsF g n k (numV tp d (nxt tp d f)) (numV tp d (nxt tp d (nxt tp d f)))) n 3 (numV tp d (nxt tp d (nxt tp d (nxt tp d (nxt tp d f)))))) n 4 1)) H := hP
                    have hD : va_D _ (TG cI h q (nI d) tp (tokC (byt tp d (nxt tp d (nxt tp d (nxt tp d (nxt tp d (nxt tp d (nxt tp d f)))))))) (nI (nxt tp d (nxt tp d (nxt tp d (nxt tp d (nxt tp d (nxt tp d f))))))) (nI (tkE tp d (nxt tp d (nxt tp d (nxt tp d (nxt tp d (nxt tp d (nxt tp d f)))))))) (capV tp d (nxt tp d (nxt tp d (nxt tp d (nxt tp d (nxt tp d (nxt tp d f))))))) (numV tp d (nxt tp d (nxt tp d (nxt tp d (nxt tp d f))))) h2 q2 (put9 (put9 (addsF g n k (numV tp d (nxt tp d f)) (numV tp d (nxt tp d (nxt tp d f)))) n 3 (numV tp d (nxt tp d (nxt tp d (nxt tp d (nxt tp d f)))))) n 4 1)) := hD
                    refine W.eq (g2 := F0 m 107 ls []) rfl ?_
                    refine lv_iconst (v := 1) hx hb dX2_isFigure_107 rfl ?_
                    exact mu_zret true (rfl) (TG cI h q (nI d) tp (tokC (byt tp d (nxt tp d (nxt tp d (nxt tp d (nxt tp d (nxt tp d (nxt tp d f)))))))) (nI (nxt tp d (nxt tp d (nxt tp d (nxt tp d (nxt tp d (nxt tp d f))))))) (nI (tkE tp d (nxt tp d (nxt tp d (nxt tp d (nxt tp d (nxt tp d (nxt tp d f)))))))) (capV tp d (nxt tp d (nxt tp d (nxt tp d (nxt tp d (nxt tp d (nxt tp d f))))))) (numV tp d (nxt tp d (nxt tp d (nxt tp d (nxt tp d f))))) h2 q2 (put9 (put9 (addsF g n k (numV tp d (nxt tp d f)) (numV tp d (nxt tp d (nxt tp d f)))) n 3 (numV tp d (nxt tp d (nxt tp d (nxt tp d (nxt tp d f)))))) n 4 1)) hx hb hr hlk hP hS (tg_ad.trans tg_ad.symm) (⟨true, (put9 (put9 (addsF g n k (numV tp d (nxt tp d f)) (numV tp d (nxt tp d (nxt tp d f)))) n 3 (numV tp d (nxt tp d (nxt tp d (nxt tp d (nxt tp d f)))))) n 4 1), (nxt tp d (nxt tp d (nxt tp d (nxt tp d (nxt tp d (nxt tp d f)))))), (numV tp d (nxt tp d (nxt tp d (nxt tp d (nxt tp d f))))), rfl, by simp [clR, figI, litI, c18, c34, c57, c70, c92, h8n, n15, n31, n67], rfl⟩) dX2_isFigure_108
                · exact absurd c70 (by decide)
              · refine mu_V (w := (TW cI h q (nI d) tp (tokC (byt tp d (nxt tp d (nxt tp d (nxt tp d (nxt tp d f)))))) (nI (nxt tp d (nxt tp d (nxt tp d (nxt tp d f))))) (nI (tkE tp d (nxt tp d (nxt tp d (nxt tp d (nxt tp d f)))))) (capV tp d (nxt tp d (nxt tp d (nxt tp d (nxt tp d f))))) (numV tp d (nxt tp d (nxt tp d f))))) (rest := []) S hK hP hD hS (k_X2_takesNumber_f d (nxt tp d (nxt tp d (nxt tp d (nxt tp d f)))) 99 hd (nxt_le (nxt_le (nxt_le (nxt_le (hf))))) hT (by decide) n67) gv_X2_67 hd_X2_takesNumber ⟨Nat.le_of_ble_eq_true rfl, Nat.le_of_ble_eq_true rfl⟩ [0, 1] rfl rfl 2 rfl rfl rfl rfl hl.1 (lv_room (Nat.le_of_ble_eq_true rfl)) dX2_isFigure_67 ⟨Nat.zero_le _, Nat.zero_le _⟩ (fun ov w' H locs hp hP hD hS => ?_)
                obtain ⟨rfl, rfl⟩ := hp
                have hP : va_P D vwCl (TG cI h q (nI d) tp (tokC (byt tp d (nxt tp d (nxt tp d (nxt tp d (nxt tp d f)))))) (nI (nxt tp d (nxt tp d (nxt tp d (nxt tp d f))))) (nI (tkE tp d (nxt tp d (nxt tp d (nxt tp d (nxt tp d f)))))) (capV tp d (nxt tp d (nxt tp d (nxt tp d (nxt tp d f))))) (numV tp d (nxt tp d (nxt tp d f))) h2 q2 (addsF g n k (numV tp d (nxt tp d f)) (numV tp d (nxt tp d (nxt tp d f))))) H := hP
                have hD : va_D _ (TG cI h q (nI d) tp (tokC (byt tp d (nxt tp d (nxt tp d (nxt tp d (nxt tp d f)))))) (nI (nxt tp d (nxt tp d (nxt tp d (nxt tp d f))))) (nI (tkE tp d (nxt tp d (nxt tp d (nxt tp d (nxt tp d f)))))) (capV tp d (nxt tp d (nxt tp d (nxt tp d (nxt tp d f))))) (numV tp d (nxt tp d (nxt tp d f))) h2 q2 (addsF g n k (numV tp d (nxt tp d f)) (numV tp d (nxt tp d (nxt tp d f))))) := hD
                refine W.eq (g2 := F0 m 70 ls [.int 0]) rfl ?_
                refine lv_if_ne (tgt := 75) hx hb dX2_isFigure_70 rfl (fun c70 => ?_) (fun c70 => ?_)
                · exact absurd c70 (by decide)
                · refine lv_iconst (v := 0) hx hb dX2_isFigure_73 rfl ?_
                  exact mu_zret false (rfl) (TG cI h q (nI d) tp (tokC (byt tp d (nxt tp d (nxt tp d (nxt tp d (nxt tp d f)))))) (nI (nxt tp d (nxt tp d (nxt tp d (nxt tp d f))))) (nI (tkE tp d (nxt tp d (nxt tp d (nxt tp d (nxt tp d f)))))) (capV tp d (nxt tp d (nxt tp d (nxt tp d (nxt tp d f))))) (numV tp d (nxt tp d (nxt tp d f))) h2 q2 (addsF g n k (numV tp d (nxt tp d f)) (numV tp d (nxt tp d (nxt tp d f))))) hx hb hr hlk hP hS (tg_ad.trans tg_ad.symm) (⟨false, (addsF g n k (numV tp d (nxt tp d f)) (numV tp d (nxt tp d (nxt tp d f)))), (nxt tp d (nxt tp d (nxt tp d (nxt tp d f)))), (numV tp d (nxt tp d (nxt tp d f))), rfl, by simp [clR, figI, litI, c18, c34, c57, c70, h8n, n15, n31, n67], rfl⟩) dX2_isFigure_74
          · exact absurd c34 (by decide)
        · refine mu_V (w := (TW cI h q (nI d) tp (tokC (byt tp d (nxt tp d (nxt tp d f)))) (nI (nxt tp d (nxt tp d f))) (nI (tkE tp d (nxt tp d (nxt tp d f)))) (capV tp d (nxt tp d (nxt tp d f))) (numV tp d (nxt tp d f)))) (rest := []) S hK hP hD hS (k_X2_takesNumber_f d (nxt tp d (nxt tp d f)) 19 hd (nxt_le (nxt_le (hf))) hT (by decide) n31) gv_X2_67 hd_X2_takesNumber ⟨Nat.le_of_ble_eq_true rfl, Nat.le_of_ble_eq_true rfl⟩ [0, 1] rfl rfl 2 rfl rfl rfl rfl hl.1 (lv_room (Nat.le_of_ble_eq_true rfl)) dX2_isFigure_31 ⟨Nat.zero_le _, Nat.zero_le _⟩ (fun ov w' H locs hp hP hD hS => ?_)
          obtain ⟨rfl, rfl⟩ := hp
          have hP : va_P D vwCl (TG cI h q (nI d) tp (tokC (byt tp d (nxt tp d (nxt tp d f)))) (nI (nxt tp d (nxt tp d f))) (nI (tkE tp d (nxt tp d (nxt tp d f)))) (capV tp d (nxt tp d (nxt tp d f))) (numV tp d (nxt tp d f)) h2 q2 g) H := hP
          have hD : va_D _ (TG cI h q (nI d) tp (tokC (byt tp d (nxt tp d (nxt tp d f)))) (nI (nxt tp d (nxt tp d f))) (nI (tkE tp d (nxt tp d (nxt tp d f)))) (capV tp d (nxt tp d (nxt tp d f))) (numV tp d (nxt tp d f)) h2 q2 g) := hD
          refine W.eq (g2 := F0 m 34 ls [.int 0]) rfl ?_
          refine lv_if_ne (tgt := 39) hx hb dX2_isFigure_34 rfl (fun c34 => ?_) (fun c34 => ?_)
          · exact absurd c34 (by decide)
          · refine lv_iconst (v := 0) hx hb dX2_isFigure_37 rfl ?_
            exact mu_zret false (rfl) (TG cI h q (nI d) tp (tokC (byt tp d (nxt tp d (nxt tp d f)))) (nI (nxt tp d (nxt tp d f))) (nI (tkE tp d (nxt tp d (nxt tp d f)))) (capV tp d (nxt tp d (nxt tp d f))) (numV tp d (nxt tp d f)) h2 q2 g) hx hb hr hlk hP hS (tg_ad.trans tg_ad.symm) (⟨false, g, (nxt tp d (nxt tp d f)), (numV tp d (nxt tp d f)), rfl, by simp [clR, figI, litI, c18, c34, h8n, n15, n31], rfl⟩) dX2_isFigure_38
      · exact absurd c18 (by decide)
    · refine mu_V (w := (TW cI h q (nI d) tp (tokC (byt tp d (nxt tp d f))) (nI (nxt tp d f)) (nI (tkE tp d (nxt tp d f))) (capV tp d (nxt tp d f)) tn)) (rest := []) S hK hP hD hS (k_X2_takesNumber_f d (nxt tp d f) 3 hd (nxt_le (hf)) hT (by decide) n15) gv_X2_67 hd_X2_takesNumber ⟨Nat.le_of_ble_eq_true rfl, Nat.le_of_ble_eq_true rfl⟩ [0, 1] rfl rfl 2 rfl rfl rfl rfl hl.1 (lv_room (Nat.le_of_ble_eq_true rfl)) dX2_isFigure_15 ⟨Nat.zero_le _, Nat.zero_le _⟩ (fun ov w' H locs hp hP hD hS => ?_)
      obtain ⟨rfl, rfl⟩ := hp
      have hP : va_P D vwCl (TG cI h q (nI d) tp (tokC (byt tp d (nxt tp d f))) (nI (nxt tp d f)) (nI (tkE tp d (nxt tp d f))) (capV tp d (nxt tp d f)) tn h2 q2 g) H := hP
      have hD : va_D _ (TG cI h q (nI d) tp (tokC (byt tp d (nxt tp d f))) (nI (nxt tp d f)) (nI (tkE tp d (nxt tp d f))) (capV tp d (nxt tp d f)) tn h2 q2 g) := hD
      refine W.eq (g2 := F0 m 18 ls [.int 0]) rfl ?_
      refine lv_if_ne (tgt := 23) hx hb dX2_isFigure_18 rfl (fun c18 => ?_) (fun c18 => ?_)
      · exact absurd c18 (by decide)
      · refine lv_iconst (v := 0) hx hb dX2_isFigure_21 rfl ?_
        exact mu_zret false (rfl) (TG cI h q (nI d) tp (tokC (byt tp d (nxt tp d f))) (nI (nxt tp d f)) (nI (tkE tp d (nxt tp d f))) (capV tp d (nxt tp d f)) tn h2 q2 g) hx hb hr hlk hP hS (tg_ad.trans tg_ad.symm) (⟨false, g, (nxt tp d f), tn, rfl, by simp [clR, figI, litI, c18, h8n, n15], rfl⟩) dX2_isFigure_22
  · replace c4 := b2i_n0 c4
    have h8n : ¬ n < 8 := by have h9 := of_decide_eq_true c4; omega
    refine lv_iconst (v := 0) hx hb dX2_isFigure_7 rfl ?_
    exact mu_zret false (rfl) (TG cI h q (nI d) tp (tokC (byt tp d f)) (nI f) (nI (tkE tp d f)) (capV tp d f) tn h2 q2 g) hx hb hr hlk hP hS (tg_ad.trans tg_ad.symm) (⟨false, g, f, tn, rfl, by simp [clR, figI, litI, h8n], rfl⟩) dX2_isFigure_8

set_option maxHeartbeats 4000000 in
set_option maxRecDepth 100000 in
theorem k_X2_isWanting (n : Nat) (d : Nat) (f : Nat) (hI : Inv g n) (hd : d ≤ 120) (hf : f ≤ d) (hT : TpI tp d) : MZ kA vA oB l D (tyA cI cJ cO) yX2_isWanting cX2_isWanting 4 ((some .boolean)) 7 148 [.ref h, .ref h2] (TG cI h q (nI d) tp (tokC (byt tp d f)) (nI f) (nI (tkE tp d f)) (capV tp d f) tn h2 q2 g) (fun ov w' => ∃ (b9 : Bool) (g9 : Nat → Int32) (f9 : Nat) (n9 : Int32), ov = some (.int (b2i b9)) ∧ clR (wantsI tp d g n f) b9 g9 f9 ∧ w' = (TG cI h q (nI d) tp (tokC (byt tp d f9)) (nI f9) (nI (tkE tp d f9)) (capV tp d f9) n9 h2 q2 g9)) := by
  refine MZ.mk (by decide) (Nat.le_of_ble_eq_true rfl) ?_
  intro p e s m below meth c ls S hr hlk hP hK hD hS hZ hl
  have S : CallFix p m c cX2_isWanting 4 s _ WL RX2 := S
  obtain ⟨hx, hb, hml, hown, hts⟩ := id S
  have hl : lv_has ls 4 [(0, .ref h), (1, .ref h2)] := hl
  have h8 : n ≤ 8 := hI.1
  refine lv_aload_n hx hb dX2_isWanting_0 rfl (lv_at hl 0 rfl) ?_
  refine mu_V (w := (TW cI h q (nI d) tp (tokC (byt tp d f)) (nI f) (nI (tkE tp d f)) (capV tp d f) tn)) (rest := []) S hK hP hD hS (k_X2_advance d (tkE tp d f) hd (tkE_le (hf)) hT) gv_X2_34 hd_X2_advance ⟨Nat.le_of_ble_eq_true rfl, Nat.le_of_ble_eq_true rfl⟩ [0, 1] rfl rfl 2 rfl rfl rfl rfl hl.1 (lv_room (Nat.le_of_ble_eq_true rfl)) dX2_isWanting_1 ⟨Nat.zero_le _, Nat.zero_le _⟩ (fun ov w' H locs hp hP hD hS => ?_)
  obtain ⟨rfl, rfl⟩ := hp
  have hP : va_P D vwCl (TG cI h q (nI d) tp (tokC (byt tp d (nxt tp d f))) (nI (nxt tp d f)) (nI (tkE tp d (nxt tp d f))) (capV tp d (nxt tp d f)) tn h2 q2 g) H := hP
  have hD : va_D _ (TG cI h q (nI d) tp (tokC (byt tp d (nxt tp d f))) (nI (nxt tp d f)) (nI (tkE tp d (nxt tp d f))) (capV tp d (nxt tp d f)) tn h2 q2 g) := hD
  refine W.eq (g2 := F0 m 4 ls []) rfl ?_
  refine lv_aload_n hx hb dX2_isWanting_4 rfl (lv_at hl 0 rfl) ?_
  refine lv_aload_n hx hb dX2_isWanting_5 rfl (lv_at hl 1 rfl) ?_
  refine va_get (ci := 0) (v := .int (g 1)) hx hb hts wx_X0 hown hK hP 2 rfl rfl 2 (by decide) (hts _ wf_X2_92) (fun _ h9 => h9) rfl dX2_isWanting_6 ?_
  refine w_i (z := nI n) (hI.2.1) ?_
  refine lv_iconst (v := 1) hx hb dX2_isWanting_9 rfl ?_
  refine lv_isub hx hb dX2_isWanting_10 ?_
  rcases Bool.eq_false_or_eq_true (numT tp d (nxt tp d f) (nI n - 1)) with n11 | n11
  · obtain ⟨u11, hu11, eu11⟩ := numT_f h8 n11
    have ec11 : cl (nI u11) = u11 := cl_nI (by omega)
    refine mu_V (w := (TW cI h q (nI d) tp (tokC (byt tp d (nxt tp d f))) (nI (nxt tp d f)) (nI (tkE tp d (nxt tp d f))) (capV tp d (nxt tp d f)) tn)) (rest := []) S hK hP hD hS (k_X2_takesNumber_t d (nxt tp d f) ((nI n) - 1) hd (nxt_le (hf)) hT (fi_999 h8) n11) gv_X2_67 hd_X2_takesNumber ⟨Nat.le_of_ble_eq_true rfl, Nat.le_of_ble_eq_true rfl⟩ [0, 1] rfl rfl 2 rfl rfl rfl rfl hl.1 (lv_room (Nat.le_of_ble_eq_true rfl)) dX2_isWanting_11 ⟨Nat.zero_le _, Nat.zero_le _⟩ (fun ov w' H locs hp hP hD hS => ?_)
    obtain ⟨rfl, rfl⟩ := hp
    have hP : va_P D vwCl (TG cI h q (nI d) tp (tokC (byt tp d (nxt tp d (nxt tp d f)))) (nI (nxt tp d (nxt tp d f))) (nI (tkE tp d (nxt tp d (nxt tp d f)))) (capV tp d (nxt tp d (nxt tp d f))) (numV tp d (nxt tp d f)) h2 q2 g) H := hP
    have hD : va_D _ (TG cI h q (nI d) tp (tokC (byt tp d (nxt tp d (nxt tp d f)))) (nI (nxt tp d (nxt tp d f))) (nI (tkE tp d (nxt tp d (nxt tp d f)))) (capV tp d (nxt tp d (nxt tp d f))) (numV tp d (nxt tp d f)) h2 q2 g) := hD
    refine W.eq (g2 := F0 m 14 ls [.int 1]) rfl ?_
    refine lv_if_ne (tgt := 19) hx hb dX2_isWanting_14 rfl (fun c14 => ?_) (fun c14 => ?_)
    · refine lv_aload_n hx hb dX2_isWanting_19 rfl (lv_at hl 0 rfl) ?_
      refine va_get (ci := 2) (v := .int (numV tp d (nxt tp d f))) hx hb hts wx_X2 hown hK hP 0 rfl rfl 6 (by decide) (hts _ wf_X2_31) (fun _ h9 => h9) rfl dX2_isWanting_20 ?_
      refine w_i (z := nI u11) (eu11) ?_
      refine lv_istore_n (lv' := [(2, .int (nI u11)), (0, .ref h), (1, .ref h2)]) hx hb dX2_isWanting_23 rfl hl (by decide) rfl (fun ls hl => ?_)
      refine lv_aload_n hx hb dX2_isWanting_24 rfl (lv_at hl 1 rfl) ?_
      refine rz_V (w := (TW cI h q (nI d) tp (tokC (byt tp d (nxt tp d (nxt tp d f)))) (nI (nxt tp d (nxt tp d f))) (nI (tkE tp d (nxt tp d (nxt tp d f)))) (capV tp d (nxt tp d (nxt tp d f))) (numV tp d (nxt tp d f)))) (rest := []) S hK (hP.sub [0, 1] rfl) hZ hS (k_X2_wantNamed d (nxt tp d (nxt tp d f)) hd (nxt_le (nxt_le (hf)))) gv_X2_95 hd_X2_wantNamed ⟨Nat.le_of_ble_eq_true rfl, Nat.le_of_ble_eq_true rfl⟩ 2 rfl rfl rfl rfl hl.1 (lv_room (Nat.le_of_ble_eq_true rfl)) dX2_isWanting_25 ⟨Nat.zero_le _, Nat.zero_le _⟩ ?_
      refine W.eq (g2 := F0 m 28 ls [.int (wantS tp d (nxt tp d (nxt tp d f)))]) rfl ?_
      refine lv_istore_n (lv' := [(3, .int (wantS tp d (nxt tp d (nxt tp d f)))), (2, .int (nI u11)), (0, .ref h), (1, .ref h2)]) hx hb dX2_isWanting_28 rfl hl (by decide) rfl (fun ls hl => ?_)
      refine lv_iload_n hx hb dX2_isWanting_29 rfl (lv_at hl 0 rfl) ?_
      refine lv_if_ge (tgt := 35) hx hb dX2_isWanting_30 rfl (fun c30 => ?_) (fun c30 => ?_)
      · refine lv_aload_n hx hb dX2_isWanting_35 rfl (lv_at hl 2 rfl) ?_
        refine mu_V (w := (TW cI h q (nI d) tp (tokC (byt tp d (nxt tp d (nxt tp d f)))) (nI (nxt tp d (nxt tp d f))) (nI (tkE tp d (nxt tp d (nxt tp d f)))) (capV tp d (nxt tp d (nxt tp d f))) (numV tp d (nxt tp d f)))) (rest := []) S hK hP hD hS (k_X2_advance d (tkE tp d (nxt tp d (nxt tp d f))) hd (tkE_le (nxt_le (nxt_le (hf)))) hT) gv_X2_34 hd_X2_advance ⟨Nat.le_of_ble_eq_true rfl, Nat.le_of_ble_eq_true rfl⟩ [0, 1] rfl rfl 2 rfl rfl rfl rfl hl.1 (lv_room (Nat.le_of_ble_eq_true rfl)) dX2_isWanting_36 ⟨Nat.zero_le _, Nat.zero_le _⟩ (fun ov w' H locs hp hP hD hS => ?_)
        obtain ⟨rfl, rfl⟩ := hp
        have hP : va_P D vwCl (TG cI h q (nI d) tp (tokC (byt tp d (nxt tp d (nxt tp d (nxt tp d f))))) (nI (nxt tp d (nxt tp d (nxt tp d f)))) (nI (tkE tp d (nxt tp d (nxt tp d (nxt tp d f))))) (capV tp d (nxt tp d (nxt tp d (nxt tp d f)))) (numV tp d (nxt tp d f)) h2 q2 g) H := hP
        have hD : va_D _ (TG cI h q (nI d) tp (tokC (byt tp d (nxt tp d (nxt tp d (nxt tp d f))))) (nI (nxt tp d (nxt tp d (nxt tp d f)))) (nI (tkE tp d (nxt tp d (nxt tp d (nxt tp d f))))) (capV tp d (nxt tp d (nxt tp d (nxt tp d f)))) (numV tp d (nxt tp d f)) h2 q2 g) := hD
        refine W.eq (g2 := F0 m 39 ls []) rfl ?_
        refine lv_iload_n hx hb dX2_isWanting_39 rfl (lv_at hl 0 rfl) ?_
        refine lv_iconst (v := 1) hx hb dX2_isWanting_40 rfl ?_
        refine lv_icmp_eq (tgt := 49) hx hb dX2_isWanting_41 rfl (fun c41 => ?_) (fun c41 => ?_)
        · refine lv_aload_n hx hb dX2_isWanting_49 rfl (lv_at hl 2 rfl) ?_
          refine lv_aload_n hx hb dX2_isWanting_50 rfl (lv_at hl 3 rfl) ?_
          refine va_get (ci := 0) (v := .int (g 1)) hx hb hts wx_X0 hown hK hP 2 rfl rfl 2 (by decide) (hts _ wf_X2_92) (fun _ h9 => h9) rfl dX2_isWanting_51 ?_
          refine w_i (z := nI n) (hI.2.1) ?_
          refine lv_iconst (v := 1) hx hb dX2_isWanting_54 rfl ?_
          refine lv_isub hx hb dX2_isWanting_55 ?_
          rcases Bool.eq_false_or_eq_true (numT tp d (nxt tp d (nxt tp d (nxt tp d f))) (nI n - 1)) with n56 | n56
          · refine mu_V (w := (TW cI h q (nI d) tp (tokC (byt tp d (nxt tp d (nxt tp d (nxt tp d f))))) (nI (nxt tp d (nxt tp d (nxt tp d f)))) (nI (tkE tp d (nxt tp d (nxt tp d (nxt tp d f))))) (capV tp d (nxt tp d (nxt tp d (nxt tp d f)))) (numV tp d (nxt tp d f)))) (rest := []) S hK hP hD hS (k_X2_takesNumber_t d (nxt tp d (nxt tp d (nxt tp d f))) ((nI n) - 1) hd (nxt_le (nxt_le (nxt_le (hf)))) hT (fi_999 h8) n56) gv_X2_67 hd_X2_takesNumber ⟨Nat.le_of_ble_eq_true rfl, Nat.le_of_ble_eq_true rfl⟩ [0, 1] rfl rfl 2 rfl rfl rfl rfl hl.1 (lv_room (Nat.le_of_ble_eq_true rfl)) dX2_isWanting_56 ⟨Nat.zero_le _, Nat.zero_le _⟩ (fun ov w' H locs hp hP hD hS => ?_)
            obtain ⟨rfl, rfl⟩ := hp
            have hP : va_P D vwCl (TG cI h q (nI d) tp (tokC (byt tp d (nxt tp d (nxt tp d (nxt tp d (nxt tp d f)))))) (nI (nxt tp d (nxt tp d (nxt tp d (nxt tp d f))))) (nI (tkE tp d (nxt tp d (nxt tp d (nxt tp d (nxt tp d f)))))) (capV tp d (nxt tp d (nxt tp d (nxt tp d (nxt tp d f))))) (numV tp d (nxt tp d (nxt tp d (nxt tp d f)))) h2 q2 g) H := hP
            have hD : va_D _ (TG cI h q (nI d) tp (tokC (byt tp d (nxt tp d (nxt tp d (nxt tp d (nxt tp d f)))))) (nI (nxt tp d (nxt tp d (nxt tp d (nxt tp d f))))) (nI (tkE tp d (nxt tp d (nxt tp d (nxt tp d (nxt tp d f)))))) (capV tp d (nxt tp d (nxt tp d (nxt tp d (nxt tp d f))))) (numV tp d (nxt tp d (nxt tp d (nxt tp d f)))) h2 q2 g) := hD
            refine W.eq (g2 := F0 m 59 ls [.int 1]) rfl ?_
            refine lv_if_ne (tgt := 64) hx hb dX2_isWanting_59 rfl (fun c59 => ?_) (fun c59 => ?_)
            · refine lv_aload_n hx hb dX2_isWanting_64 rfl (lv_at hl 3 rfl) ?_
              refine lv_iload_n hx hb dX2_isWanting_65 rfl (lv_at hl 1 rfl) ?_
              refine lv_bipush (v := 6) hx hb dX2_isWanting_66 rfl ?_
              refine lv_aload_n hx hb dX2_isWanting_68 rfl (lv_at hl 2 rfl) ?_
              refine va_get (ci := 2) (v := .int (numV tp d (nxt tp d (nxt tp d (nxt tp d f))))) hx hb hts wx_X2 hown hK hP 0 rfl rfl 6 (by decide) (hts _ wf_X2_31) (fun _ h9 => h9) rfl dX2_isWanting_69 ?_
              refine mu_V (w := (GW cI h2 q2 (g 0) (g 2) (g 1) (tl g))) (rest := []) S hK hP hD hS (k_X0_put u11 6 (numV tp d (nxt tp d (nxt tp d (nxt tp d f)))) (by omega) (by omega)) gv_X2_86 hd_X0_put ⟨Nat.le_of_ble_eq_true rfl, Nat.le_of_ble_eq_true rfl⟩ [2, 3] rfl rfl 0 rfl rfl rfl rfl hl.1 (lv_room (Nat.le_of_ble_eq_true rfl)) dX2_isWanting_72 ⟨Nat.zero_le _, Nat.zero_le _⟩ (fun ov w' H locs hp hP hD hS => ?_)
              obtain ⟨rfl, rfl⟩ := hp
              have hP : va_P D vwCl (TG cI h q (nI d) tp (tokC (byt tp d (nxt tp d (nxt tp d (nxt tp d (nxt tp d f)))))) (nI (nxt tp d (nxt tp d (nxt tp d (nxt tp d f))))) (nI (tkE tp d (nxt tp d (nxt tp d (nxt tp d (nxt tp d f)))))) (capV tp d (nxt tp d (nxt tp d (nxt tp d (nxt tp d f))))) (numV tp d (nxt tp d (nxt tp d (nxt tp d f)))) h2 q2 (put9 g u11 6 (numV tp d (nxt tp d (nxt tp d (nxt tp d f)))))) H := hP
              have hD : va_D _ (TG cI h q (nI d) tp (tokC (byt tp d (nxt tp d (nxt tp d (nxt tp d (nxt tp d f)))))) (nI (nxt tp d (nxt tp d (nxt tp d (nxt tp d f))))) (nI (tkE tp d (nxt tp d (nxt tp d (nxt tp d (nxt tp d f)))))) (capV tp d (nxt tp d (nxt tp d (nxt tp d (nxt tp d f))))) (numV tp d (nxt tp d (nxt tp d (nxt tp d f)))) h2 q2 (put9 g u11 6 (numV tp d (nxt tp d (nxt tp d (nxt tp d f)))))) := hD
              refine W.eq (g2 := F0 m 75 ls []) rfl ?_
              refine lv_aload_n hx hb dX2_isWanting_75 rfl (lv_at hl 3 rfl) ?_
              refine lv_iload_n hx hb dX2_isWanting_76 rfl (lv_at hl 1 rfl) ?_
              refine lv_iconst (v := 5) hx hb dX2_isWanting_77 rfl ?_
              refine lv_iload_n hx hb dX2_isWanting_78 rfl (lv_at hl 0 rfl) ?_
              refine mu_V (w := (GW cI h2 q2 ((put9 g u11 6 (numV tp d (nxt tp d (nxt tp d (nxt tp d f))))) 0) ((put9 g u11 6 (numV tp d (nxt tp d (nxt tp d (nxt tp d f))))) 2) ((put9 g u11 6 (numV tp d (nxt tp d (nxt tp d (nxt tp d f))))) 1) (tl (put9 g u11 6 (numV tp d (nxt tp d (nxt tp d (nxt tp d f)))))))) (rest := []) S hK hP hD hS (k_X0_put u11 5 (wantS tp d (nxt tp d (nxt tp d f))) (by omega) (by omega)) gv_X2_86 hd_X0_put ⟨Nat.le_of_ble_eq_true rfl, Nat.le_of_ble_eq_true rfl⟩ [2, 3] rfl rfl 0 rfl rfl rfl rfl hl.1 (lv_room (Nat.le_of_ble_eq_true rfl)) dX2_isWanting_79 ⟨Nat.zero_le _, Nat.zero_le _⟩ (fun ov w' H locs hp hP hD hS => ?_)
              obtain ⟨rfl, rfl⟩ := hp
              have hP : va_P D vwCl (TG cI h q (nI d) tp (tokC (byt tp d (nxt tp d (nxt tp d (nxt tp d (nxt tp d f)))))) (nI (nxt tp d (nxt tp d (nxt tp d (nxt tp d f))))) (nI (tkE tp d (nxt tp d (nxt tp d (nxt tp d (nxt tp d f)))))) (capV tp d (nxt tp d (nxt tp d (nxt tp d (nxt tp d f))))) (numV tp d (nxt tp d (nxt tp d (nxt tp d f)))) h2 q2 (put9 (put9 g u11 6 (numV tp d (nxt tp d (nxt tp d (nxt tp d f))))) u11 5 (wantS tp d (nxt tp d (nxt tp d f))))) H := hP
              have hD : va_D _ (TG cI h q (nI d) tp (tokC (byt tp d (nxt tp d (nxt tp d (nxt tp d (nxt tp d f)))))) (nI (nxt tp d (nxt tp d (nxt tp d (nxt tp d f))))) (nI (tkE tp d (nxt tp d (nxt tp d (nxt tp d (nxt tp d f)))))) (capV tp d (nxt tp d (nxt tp d (nxt tp d (nxt tp d f))))) (numV tp d (nxt tp d (nxt tp d (nxt tp d f)))) h2 q2 (put9 (put9 g u11 6 (numV tp d (nxt tp d (nxt tp d (nxt tp d f))))) u11 5 (wantS tp d (nxt tp d (nxt tp d f))))) := hD
              refine W.eq (g2 := F0 m 82 ls []) rfl ?_
              have hE : put9 (put9 g u11 6 (numV tp d (nxt tp d (nxt tp d (nxt tp d f))))) u11 5 (wantS tp d (nxt tp d (nxt tp d f))) = put9 (put9 g u11 5 (wantS tp d (nxt tp d (nxt tp d f)))) u11 6 (numV tp d (nxt tp d (nxt tp d (nxt tp d f)))) := put_comm (by decide)
              have hW : (TG cI h q (nI d) tp (tokC (byt tp d (nxt tp d (nxt tp d (nxt tp d (nxt tp d f)))))) (nI (nxt tp d (nxt tp d (nxt tp d (nxt tp d f))))) (nI (tkE tp d (nxt tp d (nxt tp d (nxt tp d (nxt tp d f)))))) (capV tp d (nxt tp d (nxt tp d (nxt tp d (nxt tp d f))))) (numV tp d (nxt tp d (nxt tp d (nxt tp d f)))) h2 q2 (put9 (put9 g u11 6 (numV tp d (nxt tp d (nxt tp d (nxt tp d f))))) u11 5 (wantS tp d (nxt tp d (nxt tp d f))))) = (TG cI h q (nI d) tp (tokC (byt tp d (nxt tp d (nxt tp d (nxt tp d (nxt tp d f)))))) (nI (nxt tp d (nxt tp d (nxt tp d (nxt tp d f))))) (nI (tkE tp d (nxt tp d (nxt tp d (nxt tp d (nxt tp d f)))))) (capV tp d (nxt tp d (nxt tp d (nxt tp d (nxt tp d f))))) (numV tp d (nxt tp d (nxt tp d (nxt tp d f)))) h2 q2 (put9 (put9 g u11 5 (wantS tp d (nxt tp d (nxt tp d f)))) u11 6 (numV tp d (nxt tp d (nxt tp d (nxt tp d f)))))) := congrArg (fun z => (TG cI h q (nI d) tp (tokC (byt tp d (nxt tp d (nxt tp d (nxt tp d (nxt tp d f)))))) (nI (nxt tp d (nxt tp d (nxt tp d (nxt tp d f))))) (nI (tkE tp d (nxt tp d (nxt tp d (nxt tp d (nxt tp d f)))))) (capV tp d (nxt tp d (nxt tp d (nxt tp d (nxt tp d f))))) (numV tp d (nxt tp d (nxt tp d (nxt tp d f)))) h2 q2 z)) hE
              have hP : va_P D vwCl (TG cI h q (nI d) tp (tokC (byt tp d (nxt tp d (nxt tp d (nxt tp d (nxt tp d f)))))) (nI (nxt tp d (nxt tp d (nxt tp d (nxt tp d f))))) (nI (tkE tp d (nxt tp d (nxt tp d (nxt tp d (nxt tp d f)))))) (capV tp d (nxt tp d (nxt tp d (nxt tp d (nxt tp d f))))) (numV tp d (nxt tp d (nxt tp d (nxt tp d f)))) h2 q2 (put9 (put9 g u11 5 (wantS tp d (nxt tp d (nxt tp d f)))) u11 6 (numV tp d (nxt tp d (nxt tp d (nxt tp d f)))))) H := Eq.mp (congrArg (fun z => va_P D vwCl z H) hW) hP
              have hD : va_D _ (TG cI h q (nI d) tp (tokC (byt tp d (nxt tp d (nxt tp d (nxt tp d (nxt tp d f)))))) (nI (nxt tp d (nxt tp d (nxt tp d (nxt tp d f))))) (nI (tkE tp d (nxt tp d (nxt tp d (nxt tp d (nxt tp d f)))))) (capV tp d (nxt tp d (nxt tp d (nxt tp d (nxt tp d f))))) (numV tp d (nxt tp d (nxt tp d (nxt tp d f)))) h2 q2 (put9 (put9 g u11 5 (wantS tp d (nxt tp d (nxt tp d f)))) u11 6 (numV tp d (nxt tp d (nxt tp d (nxt tp d f)))))) := Eq.mp (congrArg (fun z => va_D _ z) hW) hD
              refine lv_iconst (v := 1) hx hb dX2_isWanting_82 rfl ?_
              exact mu_zret true (rfl) (TG cI h q (nI d) tp (tokC (byt tp d (nxt tp d (nxt tp d (nxt tp d (nxt tp d f)))))) (nI (nxt tp d (nxt tp d (nxt tp d (nxt tp d f))))) (nI (tkE tp d (nxt tp d (nxt tp d (nxt tp d (nxt tp d f)))))) (capV tp d (nxt tp d (nxt tp d (nxt tp d (nxt tp d f))))) (numV tp d (nxt tp d (nxt tp d (nxt tp d f)))) h2 q2 (put9 (put9 g u11 5 (wantS tp d (nxt tp d (nxt tp d f)))) u11 6 (numV tp d (nxt tp d (nxt tp d (nxt tp d f)))))) hx hb hr hlk hP hS (tg_ad.trans tg_ad.symm) (⟨true, (put9 (put9 g u11 5 (wantS tp d (nxt tp d (nxt tp d f)))) u11 6 (numV tp d (nxt tp d (nxt tp d (nxt tp d f))))), (nxt tp d (nxt tp d (nxt tp d (nxt tp d f)))), (numV tp d (nxt tp d (nxt tp d (nxt tp d f)))), rfl, by simp [clR, wantsI, c14, c30, c41, c59, n11, eu11, ec11, n56], rfl⟩) dX2_isWanting_83
            · exact absurd c59 (by decide)
          · refine mu_V (w := (TW cI h q (nI d) tp (tokC (byt tp d (nxt tp d (nxt tp d (nxt tp d f))))) (nI (nxt tp d (nxt tp d (nxt tp d f)))) (nI (tkE tp d (nxt tp d (nxt tp d (nxt tp d f))))) (capV tp d (nxt tp d (nxt tp d (nxt tp d f)))) (numV tp d (nxt tp d f)))) (rest := []) S hK hP hD hS (k_X2_takesNumber_f d (nxt tp d (nxt tp d (nxt tp d f))) ((nI n) - 1) hd (nxt_le (nxt_le (nxt_le (hf)))) hT (fi_999 h8) n56) gv_X2_67 hd_X2_takesNumber ⟨Nat.le_of_ble_eq_true rfl, Nat.le_of_ble_eq_true rfl⟩ [0, 1] rfl rfl 2 rfl rfl rfl rfl hl.1 (lv_room (Nat.le_of_ble_eq_true rfl)) dX2_isWanting_56 ⟨Nat.zero_le _, Nat.zero_le _⟩ (fun ov w' H locs hp hP hD hS => ?_)
            obtain ⟨rfl, rfl⟩ := hp
            have hP : va_P D vwCl (TG cI h q (nI d) tp (tokC (byt tp d (nxt tp d (nxt tp d (nxt tp d f))))) (nI (nxt tp d (nxt tp d (nxt tp d f)))) (nI (tkE tp d (nxt tp d (nxt tp d (nxt tp d f))))) (capV tp d (nxt tp d (nxt tp d (nxt tp d f)))) (numV tp d (nxt tp d f)) h2 q2 g) H := hP
            have hD : va_D _ (TG cI h q (nI d) tp (tokC (byt tp d (nxt tp d (nxt tp d (nxt tp d f))))) (nI (nxt tp d (nxt tp d (nxt tp d f)))) (nI (tkE tp d (nxt tp d (nxt tp d (nxt tp d f))))) (capV tp d (nxt tp d (nxt tp d (nxt tp d f)))) (numV tp d (nxt tp d f)) h2 q2 g) := hD
            refine W.eq (g2 := F0 m 59 ls [.int 0]) rfl ?_
            refine lv_if_ne (tgt := 64) hx hb dX2_isWanting_59 rfl (fun c59 => ?_) (fun c59 => ?_)
            · exact absurd c59 (by decide)
            · refine lv_iconst (v := 0) hx hb dX2_isWanting_62 rfl ?_
              exact mu_zret false (rfl) (TG cI h q (nI d) tp (tokC (byt tp d (nxt tp d (nxt tp d (nxt tp d f))))) (nI (nxt tp d (nxt tp d (nxt tp d f)))) (nI (tkE tp d (nxt tp d (nxt tp d (nxt tp d f))))) (capV tp d (nxt tp d (nxt tp d (nxt tp d f)))) (numV tp d (nxt tp d f)) h2 q2 g) hx hb hr hlk hP hS (tg_ad.trans tg_ad.symm) (⟨false, g, (nxt tp d (nxt tp d (nxt tp d f))), (numV tp d (nxt tp d f)), rfl, by simp [clR, wantsI, c14, c30, c41, c59, n11, eu11, ec11, n56], rfl⟩) dX2_isWanting_63
        · refine lv_iload_n hx hb dX2_isWanting_44 rfl (lv_at hl 0 rfl) ?_
          refine lv_iconst (v := 2) hx hb dX2_isWanting_45 rfl ?_
          refine lv_icmp_ne (tgt := 75) hx hb dX2_isWanting_46 rfl (fun c46 => ?_) (fun c46 => ?_)
          · refine lv_aload_n hx hb dX2_isWanting_75 rfl (lv_at hl 3 rfl) ?_
            refine lv_iload_n hx hb dX2_isWanting_76 rfl (lv_at hl 1 rfl) ?_
            refine lv_iconst (v := 5) hx hb dX2_isWanting_77 rfl ?_
            refine lv_iload_n hx hb dX2_isWanting_78 rfl (lv_at hl 0 rfl) ?_
            refine mu_V (w := (GW cI h2 q2 (g 0) (g 2) (g 1) (tl g))) (rest := []) S hK hP hD hS (k_X0_put u11 5 (wantS tp d (nxt tp d (nxt tp d f))) (by omega) (by omega)) gv_X2_86 hd_X0_put ⟨Nat.le_of_ble_eq_true rfl, Nat.le_of_ble_eq_true rfl⟩ [2, 3] rfl rfl 0 rfl rfl rfl rfl hl.1 (lv_room (Nat.le_of_ble_eq_true rfl)) dX2_isWanting_79 ⟨Nat.zero_le _, Nat.zero_le _⟩ (fun ov w' H locs hp hP hD hS => ?_)
            obtain ⟨rfl, rfl⟩ := hp
            have hP : va_P D vwCl (TG cI h q (nI d) tp (tokC (byt tp d (nxt tp d (nxt tp d (nxt tp d f))))) (nI (nxt tp d (nxt tp d (nxt tp d f)))) (nI (tkE tp d (nxt tp d (nxt tp d (nxt tp d f))))) (capV tp d (nxt tp d (nxt tp d (nxt tp d f)))) (numV tp d (nxt tp d f)) h2 q2 (put9 g u11 5 (wantS tp d (nxt tp d (nxt tp d f))))) H := hP
            have hD : va_D _ (TG cI h q (nI d) tp (tokC (byt tp d (nxt tp d (nxt tp d (nxt tp d f))))) (nI (nxt tp d (nxt tp d (nxt tp d f)))) (nI (tkE tp d (nxt tp d (nxt tp d (nxt tp d f))))) (capV tp d (nxt tp d (nxt tp d (nxt tp d f)))) (numV tp d (nxt tp d f)) h2 q2 (put9 g u11 5 (wantS tp d (nxt tp d (nxt tp d f))))) := hD
            refine W.eq (g2 := F0 m 82 ls []) rfl ?_
            refine lv_iconst (v := 1) hx hb dX2_isWanting_82 rfl ?_
            exact mu_zret true (rfl) (TG cI h q (nI d) tp (tokC (byt tp d (nxt tp d (nxt tp d (nxt tp d f))))) (nI (nxt tp d (nxt tp d (nxt tp d f)))) (nI (tkE tp d (nxt tp d (nxt tp d (nxt tp d f))))) (capV tp d (nxt tp d (nxt tp d (nxt tp d f)))) (numV tp d (nxt tp d f)) h2 q2 (put9 g u11 5 (wantS tp d (nxt tp d (nxt tp d f))))) hx hb hr hlk hP hS (tg_ad.trans tg_ad.symm) (⟨true, (put9 g u11 5 (wantS tp d (nxt tp d (nxt tp d f)))), (nxt tp d (nxt tp d (nxt tp d f))), (numV tp d (nxt tp d f)), rfl, by simp [clR, wantsI, c14, c30, c41, c46, n11, eu11, ec11], rfl⟩) dX2_isWanting_83
          · refine lv_aload_n hx hb dX2_isWanting_49 rfl (lv_at hl 2 rfl) ?_
            refine lv_aload_n hx hb dX2_isWanting_50 rfl (lv_at hl 3 rfl) ?_
            refine va_get (ci := 0) (v := .int (g 1)) hx hb hts wx_X0 hown hK hP 2 rfl rfl 2 (by decide) (hts _ wf_X2_92) (fun _ h9 => h9) rfl dX2_isWanting_51 ?_
            refine w_i (z := nI n) (hI.2.1) ?_
            refine lv_iconst (v := 1) hx hb dX2_isWanting_54 rfl ?_
            refine lv_isub hx hb dX2_isWanting_55 ?_
            rcases Bool.eq_false_or_eq_true (numT tp d (nxt tp d (nxt tp d (nxt tp d f))) (nI n - 1)) with n56 | n56
            · refine mu_V (w := (TW cI h q (nI d) tp (tokC (byt tp d (nxt tp d (nxt tp d (nxt tp d f))))) (nI (nxt tp d (nxt tp d (nxt tp d f)))) (nI (tkE tp d (nxt tp d (nxt tp d (nxt tp d f))))) (capV tp d (nxt tp d (nxt tp d (nxt tp d f)))) (numV tp d (nxt tp d f)))) (rest := []) S hK hP hD hS (k_X2_takesNumber_t d (nxt tp d (nxt tp d (nxt tp d f))) ((nI n) - 1) hd (nxt_le (nxt_le (nxt_le (hf)))) hT (fi_999 h8) n56) gv_X2_67 hd_X2_takesNumber ⟨Nat.le_of_ble_eq_true rfl, Nat.le_of_ble_eq_true rfl⟩ [0, 1] rfl rfl 2 rfl rfl rfl rfl hl.1 (lv_room (Nat.le_of_ble_eq_true rfl)) dX2_isWanting_56 ⟨Nat.zero_le _, Nat.zero_le _⟩ (fun ov w' H locs hp hP hD hS => ?_)
              obtain ⟨rfl, rfl⟩ := hp
              have hP : va_P D vwCl (TG cI h q (nI d) tp (tokC (byt tp d (nxt tp d (nxt tp d (nxt tp d (nxt tp d f)))))) (nI (nxt tp d (nxt tp d (nxt tp d (nxt tp d f))))) (nI (tkE tp d (nxt tp d (nxt tp d (nxt tp d (nxt tp d f)))))) (capV tp d (nxt tp d (nxt tp d (nxt tp d (nxt tp d f))))) (numV tp d (nxt tp d (nxt tp d (nxt tp d f)))) h2 q2 g) H := hP
              have hD : va_D _ (TG cI h q (nI d) tp (tokC (byt tp d (nxt tp d (nxt tp d (nxt tp d (nxt tp d f)))))) (nI (nxt tp d (nxt tp d (nxt tp d (nxt tp d f))))) (nI (tkE tp d (nxt tp d (nxt tp d (nxt tp d (nxt tp d f)))))) (capV tp d (nxt tp d (nxt tp d (nxt tp d (nxt tp d f))))) (numV tp d (nxt tp d (nxt tp d (nxt tp d f)))) h2 q2 g) := hD
              refine W.eq (g2 := F0 m 59 ls [.int 1]) rfl ?_
              refine lv_if_ne (tgt := 64) hx hb dX2_isWanting_59 rfl (fun c59 => ?_) (fun c59 => ?_)
              · refine lv_aload_n hx hb dX2_isWanting_64 rfl (lv_at hl 3 rfl) ?_
                refine lv_iload_n hx hb dX2_isWanting_65 rfl (lv_at hl 1 rfl) ?_
                refine lv_bipush (v := 6) hx hb dX2_isWanting_66 rfl ?_
                refine lv_aload_n hx hb dX2_isWanting_68 rfl (lv_at hl 2 rfl) ?_
                refine va_get (ci := 2) (v := .int (numV tp d (nxt tp d (nxt tp d (nxt tp d f))))) hx hb hts wx_X2 hown hK hP 0 rfl rfl 6 (by decide) (hts _ wf_X2_31) (fun _ h9 => h9) rfl dX2_isWanting_69 ?_
                refine mu_V (w := (GW cI h2 q2 (g 0) (g 2) (g 1) (tl g))) (rest := []) S hK hP hD hS (k_X0_put u11 6 (numV tp d (nxt tp d (nxt tp d (nxt tp d f)))) (by omega) (by omega)) gv_X2_86 hd_X0_put ⟨Nat.le_of_ble_eq_true rfl, Nat.le_of_ble_eq_true rfl⟩ [2, 3] rfl rfl 0 rfl rfl rfl rfl hl.1 (lv_room (Nat.le_of_ble_eq_true rfl)) dX2_isWanting_72 ⟨Nat.zero_le _, Nat.zero_le _⟩ (fun ov w' H locs hp hP hD hS => ?_)
                obtain ⟨rfl, rfl⟩ := hp
                have hP : va_P D vwCl (TG cI h q (nI d) tp (tokC (byt tp d (nxt tp d (nxt tp d (nxt tp d (nxt tp d f)))))) (nI (nxt tp d (nxt tp d (nxt tp d (nxt tp d f))))) (nI (tkE tp d (nxt tp d (nxt tp d (nxt tp d (nxt tp d f)))))) (capV tp d (nxt tp d (nxt tp d (nxt tp d (nxt tp d f))))) (numV tp d (nxt tp d (nxt tp d (nxt tp d f)))) h2 q2 (put9 g u11 6 (numV tp d (nxt tp d (nxt tp d (nxt tp d f)))))) H := hP
                have hD : va_D _ (TG cI h q (nI d) tp (tokC (byt tp d (nxt tp d (nxt tp d (nxt tp d (nxt tp d f)))))) (nI (nxt tp d (nxt tp d (nxt tp d (nxt tp d f))))) (nI (tkE tp d (nxt tp d (nxt tp d (nxt tp d (nxt tp d f)))))) (capV tp d (nxt tp d (nxt tp d (nxt tp d (nxt tp d f))))) (numV tp d (nxt tp d (nxt tp d (nxt tp d f)))) h2 q2 (put9 g u11 6 (numV tp d (nxt tp d (nxt tp d (nxt tp d f)))))) := hD
                refine W.eq (g2 := F0 m 75 ls []) rfl ?_
                refine lv_aload_n hx hb dX2_isWanting_75 rfl (lv_at hl 3 rfl) ?_
                refine lv_iload_n hx hb dX2_isWanting_76 rfl (lv_at hl 1 rfl) ?_
                refine lv_iconst (v := 5) hx hb dX2_isWanting_77 rfl ?_
                refine lv_iload_n hx hb dX2_isWanting_78 rfl (lv_at hl 0 rfl) ?_
                refine mu_V (w := (GW cI h2 q2 ((put9 g u11 6 (numV tp d (nxt tp d (nxt tp d (nxt tp d f))))) 0) ((put9 g u11 6 (numV tp d (nxt tp d (nxt tp d (nxt tp d f))))) 2) ((put9 g u11 6 (numV tp d (nxt tp d (nxt tp d (nxt tp d f))))) 1) (tl (put9 g u11 6 (numV tp d (nxt tp d (nxt tp d (nxt tp d f)))))))) (rest := []) S hK hP hD hS (k_X0_put u11 5 (wantS tp d (nxt tp d (nxt tp d f))) (by omega) (by omega)) gv_X2_86 hd_X0_put ⟨Nat.le_of_ble_eq_true rfl, Nat.le_of_ble_eq_true rfl⟩ [2, 3] rfl rfl 0 rfl rfl rfl rfl hl.1 (lv_room (Nat.le_of_ble_eq_true rfl)) dX2_isWanting_79 ⟨Nat.zero_le _, Nat.zero_le _⟩ (fun ov w' H locs hp hP hD hS => ?_)
                obtain ⟨rfl, rfl⟩ := hp
                have hP : va_P D vwCl (TG cI h q (nI d) tp (tokC (byt tp d (nxt tp d (nxt tp d (nxt tp d (nxt tp d f)))))) (nI (nxt tp d (nxt tp d (nxt tp d (nxt tp d f))))) (nI (tkE tp d (nxt tp d (nxt tp d (nxt tp d (nxt tp d f)))))) (capV tp d (nxt tp d (nxt tp d (nxt tp d (nxt tp d f))))) (numV tp d (nxt tp d (nxt tp d (nxt tp d f)))) h2 q2 (put9 (put9 g u11 6 (numV tp d (nxt tp d (nxt tp d (nxt tp d f))))) u11 5 (wantS tp d (nxt tp d (nxt tp d f))))) H := hP
                have hD : va_D _ (TG cI h q (nI d) tp (tokC (byt tp d (nxt tp d (nxt tp d (nxt tp d (nxt tp d f)))))) (nI (nxt tp d (nxt tp d (nxt tp d (nxt tp d f))))) (nI (tkE tp d (nxt tp d (nxt tp d (nxt tp d (nxt tp d f)))))) (capV tp d (nxt tp d (nxt tp d (nxt tp d (nxt tp d f))))) (numV tp d (nxt tp d (nxt tp d (nxt tp d f)))) h2 q2 (put9 (put9 g u11 6 (numV tp d (nxt tp d (nxt tp d (nxt tp d f))))) u11 5 (wantS tp d (nxt tp d (nxt tp d f))))) := hD
                refine W.eq (g2 := F0 m 82 ls []) rfl ?_
                have hE : put9 (put9 g u11 6 (numV tp d (nxt tp d (nxt tp d (nxt tp d f))))) u11 5 (wantS tp d (nxt tp d (nxt tp d f))) = put9 (put9 g u11 5 (wantS tp d (nxt tp d (nxt tp d f)))) u11 6 (numV tp d (nxt tp d (nxt tp d (nxt tp d f)))) := put_comm (by decide)
                have hW : (TG cI h q (nI d) tp (tokC (byt tp d (nxt tp d (nxt tp d (nxt tp d (nxt tp d f)))))) (nI (nxt tp d (nxt tp d (nxt tp d (nxt tp d f))))) (nI (tkE tp d (nxt tp d (nxt tp d (nxt tp d (nxt tp d f)))))) (capV tp d (nxt tp d (nxt tp d (nxt tp d (nxt tp d f))))) (numV tp d (nxt tp d (nxt tp d (nxt tp d f)))) h2 q2 (put9 (put9 g u11 6 (numV tp d (nxt tp d (nxt tp d (nxt tp d f))))) u11 5 (wantS tp d (nxt tp d (nxt tp d f))))) = (TG cI h q (nI d) tp (tokC (byt tp d (nxt tp d (nxt tp d (nxt tp d (nxt tp d f)))))) (nI (nxt tp d (nxt tp d (nxt tp d (nxt tp d f))))) (nI (tkE tp d (nxt tp d (nxt tp d (nxt tp d (nxt tp d f)))))) (capV tp d (nxt tp d (nxt tp d (nxt tp d (nxt tp d f))))) (numV tp d (nxt tp d (nxt tp d (nxt tp d f)))) h2 q2 (put9 (put9 g u11 5 (wantS tp d (nxt tp d (nxt tp d f)))) u11 6 (numV tp d (nxt tp d (nxt tp d (nxt tp d f)))))) := congrArg (fun z => (TG cI h q (nI d) tp (tokC (byt tp d (nxt tp d (nxt tp d (nxt tp d (nxt tp d f)))))) (nI (nxt tp d (nxt tp d (nxt tp d (nxt tp d f))))) (nI (tkE tp d (nxt tp d (nxt tp d (nxt tp d (nxt tp d f)))))) (capV tp d (nxt tp d (nxt tp d (nxt tp d (nxt tp d f))))) (numV tp d (nxt tp d (nxt tp d (nxt tp d f)))) h2 q2 z)) hE
                have hP : va_P D vwCl (TG cI h q (nI d) tp (tokC (byt tp d (nxt tp d (nxt tp d (nxt tp d (nxt tp d f)))))) (nI (nxt tp d (nxt tp d (nxt tp d (nxt tp d f))))) (nI (tkE tp d (nxt tp d (nxt tp d (nxt tp d (nxt tp d f)))))) (capV tp d (nxt tp d (nxt tp d (nxt tp d (nxt tp d f))))) (numV tp d (nxt tp d (nxt tp d (nxt tp d f)))) h2 q2 (put9 (put9 g u11 5 (wantS tp d (nxt tp d (nxt tp d f)))) u11 6 (numV tp d (nxt tp d (nxt tp d (nxt tp d f)))))) H := Eq.mp (congrArg (fun z => va_P D vwCl z H) hW) hP
                have hD : va_D _ (TG cI h q (nI d) tp (tokC (byt tp d (nxt tp d (nxt tp d (nxt tp d (nxt tp d f)))))) (nI (nxt tp d (nxt tp d (nxt tp d (nxt tp d f))))) (nI (tkE tp d (nxt tp d (nxt tp d (nxt tp d (nxt tp d f)))))) (capV tp d (nxt tp d (nxt tp d (nxt tp d (nxt tp d f))))) (numV tp d (nxt tp d (nxt tp d (nxt tp d f)))) h2 q2 (put9 (put9 g u11 5 (wantS tp d (nxt tp d (nxt tp d f)))) u11 6 (numV tp d (nxt tp d (nxt tp d (nxt tp d f)))))) := Eq.mp (congrArg (fun z => va_D _ z) hW) hD
                refine lv_iconst (v := 1) hx hb dX2_isWanting_82 rfl ?_
                exact mu_zret true (rfl) (TG cI h q (nI d) tp (tokC (byt tp d (nxt tp d (nxt tp d (nxt tp d (nxt tp d f)))))) (nI (nxt tp d (nxt tp d (nxt tp d (nxt tp d f))))) (nI (tkE tp d (nxt tp d (nxt tp d (nxt tp d (nxt tp d f)))))) (capV tp d (nxt tp d (nxt tp d (nxt tp d (nxt tp d f))))) (numV tp d (nxt tp d (nxt tp d (nxt tp d f)))) h2 q2 (put9 (put9 g u11 5 (wantS tp d (nxt tp d (nxt tp d f)))) u11 6 (numV tp d (nxt tp d (nxt tp d (nxt tp d f)))))) hx hb hr hlk hP hS (tg_ad.trans tg_ad.symm) (⟨true, (put9 (put9 g u11 5 (wantS tp d (nxt tp d (nxt tp d f)))) u11 6 (numV tp d (nxt tp d (nxt tp d (nxt tp d f))))), (nxt tp d (nxt tp d (nxt tp d (nxt tp d f)))), (numV tp d (nxt tp d (nxt tp d (nxt tp d f)))), rfl, by simp [clR, wantsI, c14, c30, c41, c46, c59, n11, eu11, ec11, n56], rfl⟩) dX2_isWanting_83
              · exact absurd c59 (by decide)
            · refine mu_V (w := (TW cI h q (nI d) tp (tokC (byt tp d (nxt tp d (nxt tp d (nxt tp d f))))) (nI (nxt tp d (nxt tp d (nxt tp d f)))) (nI (tkE tp d (nxt tp d (nxt tp d (nxt tp d f))))) (capV tp d (nxt tp d (nxt tp d (nxt tp d f)))) (numV tp d (nxt tp d f)))) (rest := []) S hK hP hD hS (k_X2_takesNumber_f d (nxt tp d (nxt tp d (nxt tp d f))) ((nI n) - 1) hd (nxt_le (nxt_le (nxt_le (hf)))) hT (fi_999 h8) n56) gv_X2_67 hd_X2_takesNumber ⟨Nat.le_of_ble_eq_true rfl, Nat.le_of_ble_eq_true rfl⟩ [0, 1] rfl rfl 2 rfl rfl rfl rfl hl.1 (lv_room (Nat.le_of_ble_eq_true rfl)) dX2_isWanting_56 ⟨Nat.zero_le _, Nat.zero_le _⟩ (fun ov w' H locs hp hP hD hS => ?_)
              obtain ⟨rfl, rfl⟩ := hp
              have hP : va_P D vwCl (TG cI h q (nI d) tp (tokC (byt tp d (nxt tp d (nxt tp d (nxt tp d f))))) (nI (nxt tp d (nxt tp d (nxt tp d f)))) (nI (tkE tp d (nxt tp d (nxt tp d (nxt tp d f))))) (capV tp d (nxt tp d (nxt tp d (nxt tp d f)))) (numV tp d (nxt tp d f)) h2 q2 g) H := hP
              have hD : va_D _ (TG cI h q (nI d) tp (tokC (byt tp d (nxt tp d (nxt tp d (nxt tp d f))))) (nI (nxt tp d (nxt tp d (nxt tp d f)))) (nI (tkE tp d (nxt tp d (nxt tp d (nxt tp d f))))) (capV tp d (nxt tp d (nxt tp d (nxt tp d f)))) (numV tp d (nxt tp d f)) h2 q2 g) := hD
              refine W.eq (g2 := F0 m 59 ls [.int 0]) rfl ?_
              refine lv_if_ne (tgt := 64) hx hb dX2_isWanting_59 rfl (fun c59 => ?_) (fun c59 => ?_)
              · exact absurd c59 (by decide)
              · refine lv_iconst (v := 0) hx hb dX2_isWanting_62 rfl ?_
                exact mu_zret false (rfl) (TG cI h q (nI d) tp (tokC (byt tp d (nxt tp d (nxt tp d (nxt tp d f))))) (nI (nxt tp d (nxt tp d (nxt tp d f)))) (nI (tkE tp d (nxt tp d (nxt tp d (nxt tp d f))))) (capV tp d (nxt tp d (nxt tp d (nxt tp d f)))) (numV tp d (nxt tp d f)) h2 q2 g) hx hb hr hlk hP hS (tg_ad.trans tg_ad.symm) (⟨false, g, (nxt tp d (nxt tp d (nxt tp d f))), (numV tp d (nxt tp d f)), rfl, by simp [clR, wantsI, c14, c30, c41, c46, c59, n11, eu11, ec11, n56], rfl⟩) dX2_isWanting_63
      · refine lv_iconst (v := 0) hx hb dX2_isWanting_33 rfl ?_
        exact mu_zret false (rfl) (TG cI h q (nI d) tp (tokC (byt tp d (nxt tp d (nxt tp d f)))) (nI (nxt tp d (nxt tp d f))) (nI (tkE tp d (nxt tp d (nxt tp d f)))) (capV tp d (nxt tp d (nxt tp d f))) (numV tp d (nxt tp d f)) h2 q2 g) hx hb hr hlk hP hS (tg_ad.trans tg_ad.symm) (⟨false, g, (nxt tp d (nxt tp d f)), (numV tp d (nxt tp d f)), rfl, by simp [clR, wantsI, c14, c30, n11, eu11, ec11], rfl⟩) dX2_isWanting_34
    · exact absurd c14 (by decide)
  · refine mu_V (w := (TW cI h q (nI d) tp (tokC (byt tp d (nxt tp d f))) (nI (nxt tp d f)) (nI (tkE tp d (nxt tp d f))) (capV tp d (nxt tp d f)) tn)) (rest := []) S hK hP hD hS (k_X2_takesNumber_f d (nxt tp d f) ((nI n) - 1) hd (nxt_le (hf)) hT (fi_999 h8) n11) gv_X2_67 hd_X2_takesNumber ⟨Nat.le_of_ble_eq_true rfl, Nat.le_of_ble_eq_true rfl⟩ [0, 1] rfl rfl 2 rfl rfl rfl rfl hl.1 (lv_room (Nat.le_of_ble_eq_true rfl)) dX2_isWanting_11 ⟨Nat.zero_le _, Nat.zero_le _⟩ (fun ov w' H locs hp hP hD hS => ?_)
    obtain ⟨rfl, rfl⟩ := hp
    have hP : va_P D vwCl (TG cI h q (nI d) tp (tokC (byt tp d (nxt tp d f))) (nI (nxt tp d f)) (nI (tkE tp d (nxt tp d f))) (capV tp d (nxt tp d f)) tn h2 q2 g) H := hP
    have hD : va_D _ (TG cI h q (nI d) tp (tokC (byt tp d (nxt tp d f))) (nI (nxt tp d f)) (nI (tkE tp d (nxt tp d f))) (capV tp d (nxt tp d f)) tn h2 q2 g) := hD
    refine W.eq (g2 := F0 m 14 ls [.int 0]) rfl ?_
    refine lv_if_ne (tgt := 19) hx hb dX2_isWanting_14 rfl (fun c14 => ?_) (fun c14 => ?_)
    · exact absurd c14 (by decide)
    · refine lv_iconst (v := 0) hx hb dX2_isWanting_17 rfl ?_
      exact mu_zret false (rfl) (TG cI h q (nI d) tp (tokC (byt tp d (nxt tp d f))) (nI (nxt tp d f)) (nI (tkE tp d (nxt tp d f))) (capV tp d (nxt tp d f)) tn h2 q2 g) hx hb hr hlk hP hS (tg_ad.trans tg_ad.symm) (⟨false, g, (nxt tp d f), tn, rfl, by simp [clR, wantsI, c14, n11], rfl⟩) dX2_isWanting_18

set_option maxHeartbeats 4000000 in
set_option maxRecDepth 100000 in
theorem k_X2_isItem (n : Nat) (d : Nat) (f : Nat) (hI : Inv g n) (hd : d ≤ 120) (hf : f ≤ d) (hT : TpI tp d) : MZ kA vA oB l D (tyA cI cJ cO) yX2_isItem cX2_isItem 3 ((some .boolean)) 8 171 [.ref h, .ref h2] (TG cI h q (nI d) tp (tokC (byt tp d f)) (nI f) (nI (tkE tp d f)) (capV tp d f) tn h2 q2 g) (fun ov w' => ∃ (b9 : Bool) (g9 : Nat → Int32) (f9 : Nat) (n9 : Int32), ov = some (.int (b2i b9)) ∧ clR (itemI tp d g n f) b9 g9 f9 ∧ w' = (TG cI h q (nI d) tp (tokC (byt tp d f9)) (nI f9) (nI (tkE tp d f9)) (capV tp d f9) n9 h2 q2 g9)) := by
  refine MZ.mk (by decide) (Nat.le_of_ble_eq_true rfl) ?_
  intro p e s m below meth c ls S hr hlk hP hK hD hS hZ hl
  have S : CallFix p m c cX2_isItem 3 s _ WL RX2 := S
  obtain ⟨hx, hb, hml, hown, hts⟩ := id S
  have hl : lv_has ls 3 [(0, .ref h), (1, .ref h2)] := hl
  have h8 : n ≤ 8 := hI.1
  refine lv_aload_n hx hb dX2_isItem_0 rfl (lv_at hl 0 rfl) ?_
  refine rz_V (w := (TW cI h q (nI d) tp (tokC (byt tp d f)) (nI f) (nI (tkE tp d f)) (capV tp d f) tn)) (rest := []) S hK (hP.sub [0, 1] rfl) hZ hS (k_X2_kindNamed d f hd (hf)) gv_X2_41 hd_X2_kindNamed ⟨Nat.le_of_ble_eq_true rfl, Nat.le_of_ble_eq_true rfl⟩ 2 rfl rfl rfl rfl hl.1 (lv_room (Nat.le_of_ble_eq_true rfl)) dX2_isItem_1 ⟨Nat.zero_le _, Nat.zero_le _⟩ ?_
  refine W.eq (g2 := F0 m 4 ls [.int (kindS tp d f)]) rfl ?_
  refine lv_istore_n (lv' := [(2, .int (kindS tp d f)), (0, .ref h), (1, .ref h2)]) hx hb dX2_isItem_4 rfl hl (by decide) rfl (fun ls hl => ?_)
  refine lv_iload_n hx hb dX2_isItem_5 rfl (lv_at hl 0 rfl) ?_
  refine lv_if_lt (tgt := 16) hx hb dX2_isItem_6 rfl (fun c6 => ?_) (fun c6 => ?_)
  · replace c6 := Int32.not_le.mpr c6
    refine lv_aload_n hx hb dX2_isItem_16 rfl (lv_at hl 1 rfl) ?_
    refine va_ldcS (q := kA 8) hx hb hown (hZ.2.1 8 (by decide)) dX2_isItem_17 ?_
    refine rz_V (w := (TW cI h q (nI d) tp (tokC (byt tp d f)) (nI f) (nI (tkE tp d f)) (capV tp d f) tn)) (rest := []) S hK (hP.sub [0, 1] rfl) hZ hS (k_X2_isWord 8 d f (by decide) hd (hf)) gv_X2_51 hd_X2_isWord ⟨Nat.le_of_ble_eq_true rfl, Nat.le_of_ble_eq_true rfl⟩ 2 rfl rfl rfl rfl hl.1 (lv_room (Nat.le_of_ble_eq_true rfl)) dX2_isItem_19 ⟨Nat.zero_le _, Nat.zero_le _⟩ ?_
    refine W.eq (g2 := F0 m 22 ls [.int (b2i (isWd tp d f 8))]) rfl ?_
    refine lv_if_eq (tgt := 31) hx hb dX2_isItem_22 rfl (fun c22 => ?_) (fun c22 => ?_)
    · replace c22 := (b2i_0 _).mp c22
      refine lv_aload_n hx hb dX2_isItem_31 rfl (lv_at hl 1 rfl) ?_
      refine va_ldcS (q := kA 13) hx hb hown (hZ.2.1 13 (by decide)) dX2_isItem_32 ?_
      refine rz_V (w := (TW cI h q (nI d) tp (tokC (byt tp d f)) (nI f) (nI (tkE tp d f)) (capV tp d f) tn)) (rest := []) S hK (hP.sub [0, 1] rfl) hZ hS (k_X2_isWord 13 d f (by decide) hd (hf)) gv_X2_51 hd_X2_isWord ⟨Nat.le_of_ble_eq_true rfl, Nat.le_of_ble_eq_true rfl⟩ 2 rfl rfl rfl rfl hl.1 (lv_room (Nat.le_of_ble_eq_true rfl)) dX2_isItem_34 ⟨Nat.zero_le _, Nat.zero_le _⟩ ?_
      refine W.eq (g2 := F0 m 37 ls [.int (b2i (isWd tp d f 13))]) rfl ?_
      refine lv_if_eq (tgt := 47) hx hb dX2_isItem_37 rfl (fun c37 => ?_) (fun c37 => ?_)
      · replace c37 := (b2i_0 _).mp c37
        refine lv_aload_n hx hb dX2_isItem_47 rfl (lv_at hl 1 rfl) ?_
        refine va_ldcS (q := kA 14) hx hb hown (hZ.2.1 14 (by decide)) dX2_isItem_48 ?_
        refine rz_V (w := (TW cI h q (nI d) tp (tokC (byt tp d f)) (nI f) (nI (tkE tp d f)) (capV tp d f) tn)) (rest := []) S hK (hP.sub [0, 1] rfl) hZ hS (k_X2_isWord 14 d f (by decide) hd (hf)) gv_X2_51 hd_X2_isWord ⟨Nat.le_of_ble_eq_true rfl, Nat.le_of_ble_eq_true rfl⟩ 2 rfl rfl rfl rfl hl.1 (lv_room (Nat.le_of_ble_eq_true rfl)) dX2_isItem_50 ⟨Nat.zero_le _, Nat.zero_le _⟩ ?_
        refine W.eq (g2 := F0 m 53 ls [.int (b2i (isWd tp d f 14))]) rfl ?_
        refine lv_if_eq (tgt := 63) hx hb dX2_isItem_53 rfl (fun c53 => ?_) (fun c53 => ?_)
        · replace c53 := (b2i_0 _).mp c53
          refine lv_aload_n hx hb dX2_isItem_63 rfl (lv_at hl 1 rfl) ?_
          refine va_ldcS (q := kA 15) hx hb hown (hZ.2.1 15 (by decide)) dX2_isItem_64 ?_
          refine rz_V (w := (TW cI h q (nI d) tp (tokC (byt tp d f)) (nI f) (nI (tkE tp d f)) (capV tp d f) tn)) (rest := []) S hK (hP.sub [0, 1] rfl) hZ hS (k_X2_isWord 15 d f (by decide) hd (hf)) gv_X2_51 hd_X2_isWord ⟨Nat.le_of_ble_eq_true rfl, Nat.le_of_ble_eq_true rfl⟩ 2 rfl rfl rfl rfl hl.1 (lv_room (Nat.le_of_ble_eq_true rfl)) dX2_isItem_66 ⟨Nat.zero_le _, Nat.zero_le _⟩ ?_
          refine W.eq (g2 := F0 m 69 ls [.int (b2i (isWd tp d f 15))]) rfl ?_
          refine lv_if_eq (tgt := 97) hx hb dX2_isItem_69 rfl (fun c69 => ?_) (fun c69 => ?_)
          · replace c69 := (b2i_0 _).mp c69
            refine lv_iconst (v := 0) hx hb dX2_isItem_97 rfl ?_
            exact mu_zret false (rfl) (TG cI h q (nI d) tp (tokC (byt tp d f)) (nI f) (nI (tkE tp d f)) (capV tp d f) tn h2 q2 g) hx hb hr hlk hP hS (tg_ad.trans tg_ad.symm) (⟨false, g, f, tn, rfl, by simp [clR, itemI, tackI, c6, c22, c37, c53, c69], rfl⟩) dX2_isItem_98
          · replace c69 := b2i_n0 c69
            refine lv_aload_n hx hb dX2_isItem_72 rfl (lv_at hl 1 rfl) ?_
            refine mu_V (w := (TW cI h q (nI d) tp (tokC (byt tp d f)) (nI f) (nI (tkE tp d f)) (capV tp d f) tn)) (rest := []) S hK hP hD hS (k_X2_advance d (tkE tp d f) hd (tkE_le (hf)) hT) gv_X2_34 hd_X2_advance ⟨Nat.le_of_ble_eq_true rfl, Nat.le_of_ble_eq_true rfl⟩ [0, 1] rfl rfl 2 rfl rfl rfl rfl hl.1 (lv_room (Nat.le_of_ble_eq_true rfl)) dX2_isItem_73 ⟨Nat.zero_le _, Nat.zero_le _⟩ (fun ov w' H locs hp hP hD hS => ?_)
            obtain ⟨rfl, rfl⟩ := hp
            have hP : va_P D vwCl (TG cI h q (nI d) tp (tokC (byt tp d (nxt tp d f))) (nI (nxt tp d f)) (nI (tkE tp d (nxt tp d f))) (capV tp d (nxt tp d f)) tn h2 q2 g) H := hP
            have hD : va_D _ (TG cI h q (nI d) tp (tokC (byt tp d (nxt tp d f))) (nI (nxt tp d f)) (nI (tkE tp d (nxt tp d f))) (capV tp d (nxt tp d f)) tn h2 q2 g) := hD
            refine W.eq (g2 := F0 m 76 ls []) rfl ?_
            refine lv_aload_n hx hb dX2_isItem_76 rfl (lv_at hl 1 rfl) ?_
            refine lv_bipush (v := 8) hx hb dX2_isItem_77 rfl ?_
            rcases Bool.eq_false_or_eq_true (numT tp d (nxt tp d f) 8) with n79 | n79
            · refine mu_V (w := (TW cI h q (nI d) tp (tokC (byt tp d (nxt tp d f))) (nI (nxt tp d f)) (nI (tkE tp d (nxt tp d f))) (capV tp d (nxt tp d f)) tn)) (rest := []) S hK hP hD hS (k_X2_takesNumber_t d (nxt tp d f) 8 hd (nxt_le (hf)) hT (by decide) n79) gv_X2_67 hd_X2_takesNumber ⟨Nat.le_of_ble_eq_true rfl, Nat.le_of_ble_eq_true rfl⟩ [0, 1] rfl rfl 2 rfl rfl rfl rfl hl.1 (lv_room (Nat.le_of_ble_eq_true rfl)) dX2_isItem_79 ⟨Nat.zero_le _, Nat.zero_le _⟩ (fun ov w' H locs hp hP hD hS => ?_)
              obtain ⟨rfl, rfl⟩ := hp
              have hP : va_P D vwCl (TG cI h q (nI d) tp (tokC (byt tp d (nxt tp d (nxt tp d f)))) (nI (nxt tp d (nxt tp d f))) (nI (tkE tp d (nxt tp d (nxt tp d f)))) (capV tp d (nxt tp d (nxt tp d f))) (numV tp d (nxt tp d f)) h2 q2 g) H := hP
              have hD : va_D _ (TG cI h q (nI d) tp (tokC (byt tp d (nxt tp d (nxt tp d f)))) (nI (nxt tp d (nxt tp d f))) (nI (tkE tp d (nxt tp d (nxt tp d f)))) (capV tp d (nxt tp d (nxt tp d f))) (numV tp d (nxt tp d f)) h2 q2 g) := hD
              refine W.eq (g2 := F0 m 82 ls [.int 1]) rfl ?_
              refine lv_if_ne (tgt := 87) hx hb dX2_isItem_82 rfl (fun c82 => ?_) (fun c82 => ?_)
              · refine lv_aload_n hx hb dX2_isItem_87 rfl (lv_at hl 2 rfl) ?_
                refine lv_aload_n hx hb dX2_isItem_88 rfl (lv_at hl 1 rfl) ?_
                refine va_get (ci := 2) (v := .int (numV tp d (nxt tp d f))) hx hb hts wx_X2 hown hK hP 0 rfl rfl 6 (by decide) (hts _ wf_X2_31) (fun _ h9 => h9) rfl dX2_isItem_89 ?_
                refine va_put (ci := 0) (v := .int (numV tp d (nxt tp d f))) (ty := tyX0 1) hx hb hts wx_X0 tyX0 tyX0_ok nmX0 hown hK hP hD hS 2 rfl rfl 1 (by decide) (hts _ wf_X2_71) (fun _ h9 => h9) rfl (tyX0_ok 1 (by decide)) rfl rfl (Nat.le_of_ble_eq_true rfl) dX2_isItem_92 (fun H locs hP hD hS => ?_)
                have hP := hP.fi 3 (tl (upd g 2 (numV tp d (nxt tp d f)))) rfl (fun z9 _ => congrFun (tl_lo g 2 _ (by decide)) z9)
                have hP : va_P D vwCl (TG cI h q (nI d) tp (tokC (byt tp d (nxt tp d (nxt tp d f)))) (nI (nxt tp d (nxt tp d f))) (nI (tkE tp d (nxt tp d (nxt tp d f)))) (capV tp d (nxt tp d (nxt tp d f))) (numV tp d (nxt tp d f)) h2 q2 (upd g 2 (numV tp d (nxt tp d f)))) H := hP
                have hD : va_D _ (TG cI h q (nI d) tp (tokC (byt tp d (nxt tp d (nxt tp d f)))) (nI (nxt tp d (nxt tp d f))) (nI (tkE tp d (nxt tp d (nxt tp d f)))) (capV tp d (nxt tp d (nxt tp d f))) (numV tp d (nxt tp d f)) h2 q2 (upd g 2 (numV tp d (nxt tp d f)))) := hD.addr rfl
                refine lv_iconst (v := 1) hx hb dX2_isItem_95 rfl ?_
                exact mu_zret true (rfl) (TG cI h q (nI d) tp (tokC (byt tp d (nxt tp d (nxt tp d f)))) (nI (nxt tp d (nxt tp d f))) (nI (tkE tp d (nxt tp d (nxt tp d f)))) (capV tp d (nxt tp d (nxt tp d f))) (numV tp d (nxt tp d f)) h2 q2 (upd g 2 (numV tp d (nxt tp d f)))) hx hb hr hlk hP hS (tg_ad.trans tg_ad.symm) (⟨true, (upd g 2 (numV tp d (nxt tp d f))), (nxt tp d (nxt tp d f)), (numV tp d (nxt tp d f)), rfl, by simp [clR, itemI, tackI, c6, c22, c37, c53, c69, c82, n79], rfl⟩) dX2_isItem_96
              · exact absurd c82 (by decide)
            · refine mu_V (w := (TW cI h q (nI d) tp (tokC (byt tp d (nxt tp d f))) (nI (nxt tp d f)) (nI (tkE tp d (nxt tp d f))) (capV tp d (nxt tp d f)) tn)) (rest := []) S hK hP hD hS (k_X2_takesNumber_f d (nxt tp d f) 8 hd (nxt_le (hf)) hT (by decide) n79) gv_X2_67 hd_X2_takesNumber ⟨Nat.le_of_ble_eq_true rfl, Nat.le_of_ble_eq_true rfl⟩ [0, 1] rfl rfl 2 rfl rfl rfl rfl hl.1 (lv_room (Nat.le_of_ble_eq_true rfl)) dX2_isItem_79 ⟨Nat.zero_le _, Nat.zero_le _⟩ (fun ov w' H locs hp hP hD hS => ?_)
              obtain ⟨rfl, rfl⟩ := hp
              have hP : va_P D vwCl (TG cI h q (nI d) tp (tokC (byt tp d (nxt tp d f))) (nI (nxt tp d f)) (nI (tkE tp d (nxt tp d f))) (capV tp d (nxt tp d f)) tn h2 q2 g) H := hP
              have hD : va_D _ (TG cI h q (nI d) tp (tokC (byt tp d (nxt tp d f))) (nI (nxt tp d f)) (nI (tkE tp d (nxt tp d f))) (capV tp d (nxt tp d f)) tn h2 q2 g) := hD
              refine W.eq (g2 := F0 m 82 ls [.int 0]) rfl ?_
              refine lv_if_ne (tgt := 87) hx hb dX2_isItem_82 rfl (fun c82 => ?_) (fun c82 => ?_)
              · exact absurd c82 (by decide)
              · refine lv_iconst (v := 0) hx hb dX2_isItem_85 rfl ?_
                exact mu_zret false (rfl) (TG cI h q (nI d) tp (tokC (byt tp d (nxt tp d f))) (nI (nxt tp d f)) (nI (tkE tp d (nxt tp d f))) (capV tp d (nxt tp d f)) tn h2 q2 g) hx hb hr hlk hP hS (tg_ad.trans tg_ad.symm) (⟨false, g, (nxt tp d f), tn, rfl, by simp [clR, itemI, tackI, c6, c22, c37, c53, c69, c82, n79], rfl⟩) dX2_isItem_86
        · replace c53 := b2i_n0 c53
          refine lv_aload_n hx hb dX2_isItem_56 rfl (lv_at hl 1 rfl) ?_
          refine lv_aload_n hx hb dX2_isItem_57 rfl (lv_at hl 2 rfl) ?_
          refine lv_iconst (v := 0) hx hb dX2_isItem_58 rfl ?_
          refine mu_W (w := (TG cI h q (nI d) tp (tokC (byt tp d f)) (nI f) (nI (tkE tp d f)) (capV tp d f) tn h2 q2 g)) (rest := []) S hK hP hD hS (k_X2_isLetting n d f 0 hI hd (hf) hT) gv_X2_60 hd_X2_isLetting ⟨Nat.le_of_ble_eq_true rfl, Nat.le_of_ble_eq_true rfl⟩ 2 rfl rfl rfl rfl hl.1 (lv_room (Nat.le_of_ble_eq_true rfl)) dX2_isItem_59 ⟨Nat.zero_le _, Nat.zero_le _⟩ (fun ov w' H locs hp hP hD hS => ?_)
          obtain ⟨b9, g9, f9, n9, rfl, hit, rfl⟩ := hp
          refine W.eq (g2 := F0 m 62 ls [.int (b2i b9)]) rfl ?_
          exact mu_zret b9 (rfl) (TG cI h q (nI d) tp (tokC (byt tp d f9)) (nI f9) (nI (tkE tp d f9)) (capV tp d f9) n9 h2 q2 g9) hx hb hr hlk hP hS (tg_ad.trans tg_ad.symm) (⟨b9, g9, f9, n9, rfl, by rw [show itemI tp d g n f = outI tp d g n f 0 from by simp [itemI, c6, c22, c37, c53]]; exact hit, rfl⟩) dX2_isItem_62
      · replace c37 := b2i_n0 c37
        refine lv_aload_n hx hb dX2_isItem_40 rfl (lv_at hl 1 rfl) ?_
        refine lv_aload_n hx hb dX2_isItem_41 rfl (lv_at hl 2 rfl) ?_
        refine lv_iconst (v := 1) hx hb dX2_isItem_42 rfl ?_
        refine mu_W (w := (TG cI h q (nI d) tp (tokC (byt tp d f)) (nI f) (nI (tkE tp d f)) (capV tp d f) tn h2 q2 g)) (rest := []) S hK hP hD hS (k_X2_isLetting n d f 1 hI hd (hf) hT) gv_X2_60 hd_X2_isLetting ⟨Nat.le_of_ble_eq_true rfl, Nat.le_of_ble_eq_true rfl⟩ 2 rfl rfl rfl rfl hl.1 (lv_room (Nat.le_of_ble_eq_true rfl)) dX2_isItem_43 ⟨Nat.zero_le _, Nat.zero_le _⟩ (fun ov w' H locs hp hP hD hS => ?_)
        obtain ⟨b9, g9, f9, n9, rfl, hit, rfl⟩ := hp
        refine W.eq (g2 := F0 m 46 ls [.int (b2i b9)]) rfl ?_
        exact mu_zret b9 (rfl) (TG cI h q (nI d) tp (tokC (byt tp d f9)) (nI f9) (nI (tkE tp d f9)) (capV tp d f9) n9 h2 q2 g9) hx hb hr hlk hP hS (tg_ad.trans tg_ad.symm) (⟨b9, g9, f9, n9, rfl, by rw [show itemI tp d g n f = outI tp d g n f 1 from by simp [itemI, c6, c22, c37]]; exact hit, rfl⟩) dX2_isItem_46
    · replace c22 := b2i_n0 c22
      refine lv_aload_n hx hb dX2_isItem_25 rfl (lv_at hl 1 rfl) ?_
      refine lv_aload_n hx hb dX2_isItem_26 rfl (lv_at hl 2 rfl) ?_
      refine mz_V (w := (TG cI h q (nI d) tp (tokC (byt tp d f)) (nI f) (nI (tkE tp d f)) (capV tp d f) tn h2 q2 g)) (rest := []) S hK hP hD hS hZ (k_X2_isWanting n d f hI hd (hf) hT) gv_X2_55 hd_X2_isWanting ⟨Nat.le_of_ble_eq_true rfl, Nat.le_of_ble_eq_true rfl⟩ [0, 1, 2, 3] rfl rfl 2 rfl rfl rfl rfl hl.1 (lv_room (Nat.le_of_ble_eq_true rfl)) dX2_isItem_27 ⟨Nat.zero_le _, Nat.zero_le _⟩ (fun ov w' H locs hp hP hD hS => ?_)
      obtain ⟨b9, g9, f9, n9, rfl, hit, rfl⟩ := hp
      have hP : va_P D vwCl (TG cI h q (nI d) tp (tokC (byt tp d f9)) (nI f9) (nI (tkE tp d f9)) (capV tp d f9) n9 h2 q2 g9) H := hP
      have hD : va_D _ (TG cI h q (nI d) tp (tokC (byt tp d f9)) (nI f9) (nI (tkE tp d f9)) (capV tp d f9) n9 h2 q2 g9) := hD
      refine W.eq (g2 := F0 m 30 ls [.int (b2i b9)]) rfl ?_
      exact mu_zret b9 (rfl) (TG cI h q (nI d) tp (tokC (byt tp d f9)) (nI f9) (nI (tkE tp d f9)) (capV tp d f9) n9 h2 q2 g9) hx hb hr hlk hP hS (tg_ad.trans tg_ad.symm) (⟨b9, g9, f9, n9, rfl, by rw [show itemI tp d g n f = wantsI tp d g n f from by simp [itemI, c6, c22]]; exact hit, rfl⟩) dX2_isItem_30
  · replace c6 := Int32.not_lt.mp c6
    refine lv_aload_n hx hb dX2_isItem_9 rfl (lv_at hl 1 rfl) ?_
    refine lv_aload_n hx hb dX2_isItem_10 rfl (lv_at hl 2 rfl) ?_
    refine lv_iload_n hx hb dX2_isItem_11 rfl (lv_at hl 0 rfl) ?_
    refine mz_V (w := (TG cI h q (nI d) tp (tokC (byt tp d f)) (nI f) (nI (tkE tp d f)) (capV tp d f) tn h2 q2 g)) (rest := []) S hK hP hD hS hZ (k_X2_isFigure n d f (kindS tp d f) hI hd (hf) hT) gv_X2_45 hd_X2_isFigure ⟨Nat.le_of_ble_eq_true rfl, Nat.le_of_ble_eq_true rfl⟩ [0, 1, 2, 3] rfl rfl 2 rfl rfl rfl rfl hl.1 (lv_room (Nat.le_of_ble_eq_true rfl)) dX2_isItem_12 ⟨Nat.zero_le _, Nat.zero_le _⟩ (fun ov w' H locs hp hP hD hS => ?_)
    obtain ⟨b9, g9, f9, n9, rfl, hit, rfl⟩ := hp
    have hP : va_P D vwCl (TG cI h q (nI d) tp (tokC (byt tp d f9)) (nI f9) (nI (tkE tp d f9)) (capV tp d f9) n9 h2 q2 g9) H := hP
    have hD : va_D _ (TG cI h q (nI d) tp (tokC (byt tp d f9)) (nI f9) (nI (tkE tp d f9)) (capV tp d f9) n9 h2 q2 g9) := hD
    refine W.eq (g2 := F0 m 15 ls [.int (b2i b9)]) rfl ?_
    exact mu_zret b9 (rfl) (TG cI h q (nI d) tp (tokC (byt tp d f9)) (nI f9) (nI (tkE tp d f9)) (capV tp d f9) n9 h2 q2 g9) hx hb hr hlk hP hS (tg_ad.trans tg_ad.symm) (⟨b9, g9, f9, n9, rfl, by rw [show itemI tp d g n f = figI tp d g n f (kindS tp d f) from by simp [itemI, c6]]; exact hit, rfl⟩) dX2_isItem_15

end
