theorem clR_c {r : PR} {b : Bool} {g : Nat → Int32} {f : Nat} (h : clR r b g f) : (b = false ∧ r = .inl f) ∨ (∃ x, b = true ∧ r = .inr x ∧ g = x.1 ∧ f = x.2.2) := by
  cases r with
  | inl p => exact Or.inl ⟨h.1, by rw [h.2]⟩
  | inr x => exact Or.inr ⟨x, h.1, rfl, h.2.1, h.2.2⟩
def telR (d : Nat) (r : PR) (g : Nat → Int32) : Prop := match r with
  | .inl p => p ≤ d
  | .inr x => x.1 = g ∧ x.2.2 ≤ 120
theorem tel_c {d : Nat} {r : PR} {g : Nat → Int32} (h : telR d r g) : (∃ p, p ≤ d ∧ r = .inl p) ∨ (∃ x, r = .inr x ∧ x.1 = g ∧ x.2.2 ≤ 120) := by
  cases r with
  | inl p => exact Or.inl ⟨p, h, rfl⟩
  | inr x => exact Or.inr ⟨x, rfl, h.1, h.2⟩
theorem m1_neg {p : Nat} (h : p ≤ 120) : ¬ 0 ≤ -1 - nI p := by
  have e1 : (-1 : Int32).toInt = -1 := by decide
  have e0 : (0 : Int32).toInt = 0 := by decide
  have hn : (nI p).toInt = p := nI_toInt (by omega)
  rw [le_I, sub_I (by rw [hn, e1]; omega) (by rw [hn, e1]; omega), hn, e1, e0]
  omega
theorem vx_ad {cI cJ cO : ClassId} {B : Nat → Nat} {gG tG kG : Nat → Int32} {ik le : Int32} {by_ : Nat → Int32} {tk bg en va tn : Int32} {bO sO : Nat → Int32} {nU : Nat → Int64} {fS cW : Nat → Int32} : (VX cI cJ cO B gG tG kG ik le by_ tk bg en va tn bO sO nU fS cW).map (fun q => q.1) = [B 0, B 1, B 2, B 3, B 4, B 5, B 6, B 7, B 8, B 9, B 10, B 11, B 12, B 13, B 14, B 15, B 16, B 17, B 18, B 19] := rfl
section
variable {l : Launch} {D : va_G} {cI cJ cO : ClassId} {kA vA : Nat → Nat} {oB : Option Nat} {h q h2 q2 : Nat} {tp : Nat → Int32} {tk bg en va tn : Int32} {g : Nat → Int32}

set_option maxHeartbeats 4000000 in
set_option maxRecDepth 100000 in
theorem k_X2_tell (n : Nat) (d : Nat) (hI : Inv g n) (hd : d ≤ 120) (hT : TpI tp d) : MZ kA vA oB l D (tyA cI cJ cO) yX2_tell cX2_tell 3 ((some .int)) 9 193 [.ref h, .ref h2] (TG cI h q (nI d) tp tk bg en va tn h2 q2 g) (fun ov w' => ∃ (g9 : Nat → Int32) (f9 : Nat) (n9 : Int32), ov = some (.int (nightA (nightP tp d g n))) ∧ telR d (nightP tp d g n) g9 ∧ w' = (TG cI h q (nI d) tp (tokC (byt tp d f9)) (nI f9) (nI (tkE tp d f9)) (capV tp d f9) n9 h2 q2 g9)) := by
  refine MZ.mk (by decide) (Nat.le_of_ble_eq_true rfl) ?_
  intro p e s m below meth c ls S hr hlk hP hK hD hS hZ hl
  have S : CallFix p m c cX2_tell 3 s _ WL RX2 := S
  obtain ⟨hx, hb, hml, hown, hts⟩ := id S
  have hl : lv_has ls 3 [(0, .ref h), (1, .ref h2)] := hl
  have h8 : n ≤ 8 := hI.1
  refine lv_aload_n hx hb dX2_tell_0 rfl (lv_at hl 0 rfl) ?_
  refine lv_iconst (v := 0) hx hb dX2_tell_1 rfl ?_
  refine va_put (ci := 2) (v := .int 0) (ty := tyX2 4) hx hb hts wx_X2 tyX2 tyX2_ok nmX2 hown hK hP hD hS 0 rfl rfl 4 (by decide) (hts _ wf_X2_25) (fun _ h9 => h9) rfl (tyX2_ok 4 (by decide)) rfl rfl (Nat.le_of_ble_eq_true rfl) dX2_tell_2 (fun H locs hP hD hS => ?_)
  have hP : va_P D vwCl (TG cI h q (nI d) tp tk bg 0 va tn h2 q2 g) H := hP
  have hD : va_D _ (TG cI h q (nI d) tp tk bg 0 va tn h2 q2 g) := hD
  have hE : 0 = nI 0 := rfl
  have hW : (TG cI h q (nI d) tp tk bg 0 va tn h2 q2 g) = (TG cI h q (nI d) tp tk bg (nI 0) va tn h2 q2 g) := congrArg (fun z => (TG cI h q (nI d) tp tk bg z va tn h2 q2 g)) hE
  have hP : va_P D vwCl (TG cI h q (nI d) tp tk bg (nI 0) va tn h2 q2 g) H := Eq.mp (congrArg (fun z => va_P D vwCl z H) hW) hP
  have hD : va_D _ (TG cI h q (nI d) tp tk bg (nI 0) va tn h2 q2 g) := Eq.mp (congrArg (fun z => va_D _ z) hW) hD
  refine lv_aload_n hx hb dX2_tell_5 rfl (lv_at hl 0 rfl) ?_
  refine mu_V (w := (TW cI h q (nI d) tp tk bg (nI 0) va tn)) (rest := []) S hK hP hD hS (k_X2_advance d 0 hd (Nat.zero_le d) hT) gv_X2_34 hd_X2_advance ⟨Nat.le_of_ble_eq_true rfl, Nat.le_of_ble_eq_true rfl⟩ [0, 1] rfl rfl 2 rfl rfl rfl rfl hl.1 (lv_room (Nat.le_of_ble_eq_true rfl)) dX2_tell_6 ⟨Nat.zero_le _, Nat.zero_le _⟩ (fun ov w' H locs hp hP hD hS => ?_)
  obtain ⟨rfl, rfl⟩ := hp
  have hP : va_P D vwCl (TG cI h q (nI d) tp (tokC (byt tp d (skp tp d 0))) (nI (skp tp d 0)) (nI (tkE tp d (skp tp d 0))) (capV tp d (skp tp d 0)) tn h2 q2 g) H := hP
  have hD : va_D _ (TG cI h q (nI d) tp (tokC (byt tp d (skp tp d 0))) (nI (skp tp d 0)) (nI (tkE tp d (skp tp d 0))) (capV tp d (skp tp d 0)) tn h2 q2 g) := hD
  refine W.eq (g2 := F0 m 9 ls []) rfl ?_
  refine lv_iconst (v := 1) hx hb dX2_tell_9 rfl ?_
  refine w_i (z := nI 1) (rfl) ?_
  refine lv_istore_n (lv' := [(2, .int (nI 1)), (0, .ref h), (1, .ref h2)]) hx hb dX2_tell_10 rfl hl (by decide) rfl (fun ls hl => ?_)
  refine w_loopH (pc := 11) (st := fun (x : Nat × Nat × (Nat → Int32) × Int32 × Nat) => match x with | (it, f9, g9, n9, k9) => []) (μ := fun (x : Nat × Nat × (Nat → Int32) × Int32 × Nat) => match x with | (it, f9, g9, n9, k9) => 121 - it) (I := fun (x : Nat × Nat × (Nat → Int32) × Int32 × Nat) H locs ls => match x with | (it, f9, g9, n9, k9) => (f9 ≤ d) ∧ (Inv g9 k9) ∧ (1 ≤ it) ∧ (it ≤ 121) ∧ ((nightP tp d g n) = nightI tp d (121 - it) g9 k9 f9 it) ∧ va_P D vwCl (TG cI h q (nI d) tp (tokC (byt tp d f9)) (nI f9) (nI (tkE tp d f9)) (capV tp d f9) n9 h2 q2 g9) H ∧ va_D (fun z9 => z9 ∈ ((TG cI h q (nI d) tp tk bg en va tn h2 q2 g)).map (fun z8 => z8.1)) (TG cI h q (nI d) tp (tokC (byt tp d f9)) (nI f9) (nI (tkE tp d f9)) (capV tp d f9) n9 h2 q2 g9) ∧ va_S (fun z9 => z9 ∈ ((TG cI h q (nI d) tp tk bg en va tn h2 q2 g)).map (fun z8 => z8.1)) s.heap H locs ∧ lv_has ls 3 [(0, .ref h), (1, .ref h2), (2, .int (nI it))]) ?_ (1, skp tp d 0, g, tn, n) ⟨skp_le (Nat.zero_le d), hI, Nat.le_refl _, (by decide), rfl, hP, hD, hS, lv_sub hl [1, 2, 0] rfl⟩
  rintro ⟨it, f9, g9, n9, k9⟩ H locs ls ⟨hf9, hI9, hi1, hi2, hR, hP, hD, hS, hl⟩ ih11
  try dsimp only at ih11 ⊢
  refine lv_iload_n hx hb dX2_tell_11 rfl (lv_at hl 2 rfl) ?_
  refine lv_bipush (v := 120) hx hb dX2_tell_12 rfl ?_
  refine lv_icmp_gt (tgt := 66) hx hb dX2_tell_14 rfl (fun c14 => ?_) (fun c14 => ?_)
  · replace c14 := nq_lt (a := 120) (b := it) (by omega) (by omega) c14
    have hRR : (nightP tp d g n) = .inl f9 := by rw [hR, show 121 - it = 0 by omega, nightI]
    refine lv_iconst (v := (-1)) hx hb dX2_tell_66 rfl ?_
    refine lv_aload_n hx hb dX2_tell_67 rfl (lv_at hl 0 rfl) ?_
    refine va_get (ci := 2) (v := .int (nI f9)) hx hb hts wx_X2 hown hK hP 0 rfl rfl 3 (by decide) (hts _ wf_X2_22) (fun _ h9 => h9) rfl dX2_tell_68 ?_
    refine lv_isub hx hb dX2_tell_71 ?_
    exact mu_iret (TG cI h q (nI d) tp (tokC (byt tp d f9)) (nI f9) (nI (tkE tp d f9)) (capV tp d f9) n9 h2 q2 g9) hx hb hr hlk hP hS (tg_ad.trans tg_ad.symm) (⟨g9, f9, n9, congrArg (fun z => some (Value.int z)) (by rw [hRR]; rfl), by rw [hRR]; exact hf9, rfl⟩) dX2_tell_72
  · replace c14 := nq_nlt (a := 120) (b := it) (by omega) (by omega) c14
    refine lv_aload_n hx hb dX2_tell_17 rfl (lv_at hl 0 rfl) ?_
    refine lv_aload_n hx hb dX2_tell_18 rfl (lv_at hl 1 rfl) ?_
    refine mz_V (w := (TG cI h q (nI d) tp (tokC (byt tp d f9)) (nI f9) (nI (tkE tp d f9)) (capV tp d f9) n9 h2 q2 g9)) (rest := []) S hK hP hD hS hZ (k_X2_isItem k9 d f9 hI9 hd (by omega) hT) gv_X2_37 hd_X2_isItem ⟨Nat.le_of_ble_eq_true rfl, Nat.le_of_ble_eq_true rfl⟩ [0, 1, 2, 3] rfl rfl 2 rfl rfl rfl rfl hl.1 (lv_room (Nat.le_of_ble_eq_true rfl)) dX2_tell_19 ⟨Nat.zero_le _, Nat.zero_le _⟩ (fun ov w' H locs hp hP hD hS => ?_)
    obtain ⟨b8, g8, f8, n8, rfl, hit, rfl⟩ := hp
    have hP : va_P D vwCl (TG cI h q (nI d) tp (tokC (byt tp d f8)) (nI f8) (nI (tkE tp d f8)) (capV tp d f8) n8 h2 q2 g8) H := hP
    have hD : va_D _ (TG cI h q (nI d) tp (tokC (byt tp d f8)) (nI f8) (nI (tkE tp d f8)) (capV tp d f8) n8 h2 q2 g8) := hD
    refine W.eq (g2 := F0 m 22 ls [.int (b2i b8)]) rfl ?_
    have ho := item_ok (tp := tp) hI9 hf9
    rcases clR_c hit with ⟨rfl, hr1⟩ | ⟨x8, rfl, hr1, rfl, rfl⟩
    · rw [hr1] at ho
      have hRR : (nightP tp d g n) = .inl f8 := by rw [hR, show 121 - it = 120 - it + 1 by omega]; exact night_l hr1
      refine W.eq (g2 := F0 m 22 ls [.int 0]) rfl ?_
      refine lv_if_ne (tgt := 32) hx hb dX2_tell_22 rfl (fun c22 => ?_) (fun c22 => ?_)
      · exact absurd c22 (by decide)
      · refine lv_iconst (v := (-1)) hx hb dX2_tell_25 rfl ?_
        refine lv_aload_n hx hb dX2_tell_26 rfl (lv_at hl 0 rfl) ?_
        refine va_get (ci := 2) (v := .int (nI f8)) hx hb hts wx_X2 hown hK hP 0 rfl rfl 3 (by decide) (hts _ wf_X2_22) (fun _ h9 => h9) rfl dX2_tell_27 ?_
        refine lv_isub hx hb dX2_tell_30 ?_
        exact mu_iret (TG cI h q (nI d) tp (tokC (byt tp d f8)) (nI f8) (nI (tkE tp d f8)) (capV tp d f8) n8 h2 q2 g8) hx hb hr hlk hP hS (tg_ad.trans tg_ad.symm) (⟨g8, f8, n8, congrArg (fun z => some (Value.int z)) (by rw [hRR]; rfl), by rw [hRR]; exact ho, rfl⟩) dX2_tell_31
    · rw [hr1] at ho
      obtain ⟨ho1, ho2, ho3, ho4⟩ := ho
      have hR2 : (nightP tp d g n) = nightC tp d (120 - it) x8.1 x8.2.1 x8.2.2 it := by rw [hR, show 121 - it = 120 - it + 1 by omega]; exact night_r hr1
      refine W.eq (g2 := F0 m 22 ls [.int 1]) rfl ?_
      refine lv_if_ne (tgt := 32) hx hb dX2_tell_22 rfl (fun c22 => ?_) (fun c22 => ?_)
      · refine lv_aload_n hx hb dX2_tell_32 rfl (lv_at hl 0 rfl) ?_
        refine va_get (ci := 2) (v := .int (tokC (byt tp d x8.2.2))) hx hb hts wx_X2 hown hK hP 0 rfl rfl 2 (by decide) (hts _ wf_X2_19) (fun _ h9 => h9) rfl dX2_tell_33 ?_
        refine lv_if_ne (tgt := 41) hx hb dX2_tell_36 rfl (fun c36 => ?_) (fun c36 => ?_)
        · have hlt : x8.2.2 < d := by by_cases z : x8.2.2 < d; exact z; exact absurd ((tok_0 hT).mpr z) c36
          refine lv_aload_n hx hb dX2_tell_41 rfl (lv_at hl 0 rfl) ?_
          refine va_get (ci := 2) (v := .int (tokC (byt tp d x8.2.2))) hx hb hts wx_X2 hown hK hP 0 rfl rfl 2 (by decide) (hts _ wf_X2_19) (fun _ h9 => h9) rfl dX2_tell_42 ?_
          refine lv_iconst (v := 3) hx hb dX2_tell_45 rfl ?_
          refine lv_icmp_eq (tgt := 56) hx hb dX2_tell_46 rfl (fun c46 => ?_) (fun c46 => ?_)
          · have hR3 : (nightP tp d g n) = nightI tp d (121 - (it + 1)) x8.1 x8.2.1 (nxt tp d x8.2.2) (it + 1) := by rw [hR2, nightC, if_pos hlt, if_pos ((tok_3 hlt).mp c46), show 121 - (it + 1) = 120 - it by omega]
            refine lv_aload_n hx hb dX2_tell_56 rfl (lv_at hl 0 rfl) ?_
            refine mu_V (w := (TW cI h q (nI d) tp (tokC (byt tp d x8.2.2)) (nI x8.2.2) (nI (tkE tp d x8.2.2)) (capV tp d x8.2.2) n8)) (rest := []) S hK hP hD hS (k_X2_advance d (tkE tp d x8.2.2) hd (tkE_le (by omega)) hT) gv_X2_34 hd_X2_advance ⟨Nat.le_of_ble_eq_true rfl, Nat.le_of_ble_eq_true rfl⟩ [0, 1] rfl rfl 2 rfl rfl rfl rfl hl.1 (lv_room (Nat.le_of_ble_eq_true rfl)) dX2_tell_57 ⟨Nat.zero_le _, Nat.zero_le _⟩ (fun ov w' H locs hp hP hD hS => ?_)
            obtain ⟨rfl, rfl⟩ := hp
            have hP : va_P D vwCl (TG cI h q (nI d) tp (tokC (byt tp d (nxt tp d x8.2.2))) (nI (nxt tp d x8.2.2)) (nI (tkE tp d (nxt tp d x8.2.2))) (capV tp d (nxt tp d x8.2.2)) n8 h2 q2 x8.1) H := hP
            have hD : va_D _ (TG cI h q (nI d) tp (tokC (byt tp d (nxt tp d x8.2.2))) (nI (nxt tp d x8.2.2)) (nI (tkE tp d (nxt tp d x8.2.2))) (capV tp d (nxt tp d x8.2.2)) n8 h2 q2 x8.1) := hD
            refine W.eq (g2 := F0 m 60 ls []) rfl ?_
            refine lv_iinc (v := nI (it + 1)) (lv' := [(2, .int (nI (it + 1))), (0, .ref h), (1, .ref h2)]) hx hb dX2_tell_60 hl (k := 2) rfl (nI_inc _) (by decide) rfl (fun ls hl => ?_)
            refine lv_goto (tgt := 11) hx hb dX2_tell_63 rfl ?_
            exact ih11 (it + 1, nxt tp d x8.2.2, x8.1, n8, x8.2.1) _ _ ls (by first | omega | (dsimp only; omega)) ⟨nxt_le ho2, ho3, (by omega), (by omega), hR3, hP, hD, hS, lv_sub hl [1, 2, 0] rfl⟩
          · have hRR : (nightP tp d g n) = .inl x8.2.2 := by rw [hR2, nightC, if_pos hlt, if_neg (fun z => c46 ((tok_3 hlt).mpr z))]
            refine lv_iconst (v := (-1)) hx hb dX2_tell_49 rfl ?_
            refine lv_aload_n hx hb dX2_tell_50 rfl (lv_at hl 0 rfl) ?_
            refine va_get (ci := 2) (v := .int (nI x8.2.2)) hx hb hts wx_X2 hown hK hP 0 rfl rfl 3 (by decide) (hts _ wf_X2_22) (fun _ h9 => h9) rfl dX2_tell_51 ?_
            refine lv_isub hx hb dX2_tell_54 ?_
            exact mu_iret (TG cI h q (nI d) tp (tokC (byt tp d x8.2.2)) (nI x8.2.2) (nI (tkE tp d x8.2.2)) (capV tp d x8.2.2) n8 h2 q2 x8.1) hx hb hr hlk hP hS (tg_ad.trans tg_ad.symm) (⟨x8.1, x8.2.2, n8, congrArg (fun z => some (Value.int z)) (by rw [hRR]; rfl), by rw [hRR]; exact ho2, rfl⟩) dX2_tell_55
        · have hRR : (nightP tp d g n) = .inr (x8.1, x8.2.1, it) := by rw [hR2, nightC, if_neg ((tok_0 hT).mp c36)]
          refine lv_iload_n hx hb dX2_tell_39 rfl (lv_at hl 2 rfl) ?_
          exact mu_iret (TG cI h q (nI d) tp (tokC (byt tp d x8.2.2)) (nI x8.2.2) (nI (tkE tp d x8.2.2)) (capV tp d x8.2.2) n8 h2 q2 x8.1) hx hb hr hlk hP hS (tg_ad.trans tg_ad.symm) (⟨x8.1, x8.2.2, n8, congrArg (fun z => some (Value.int z)) (by rw [hRR]; rfl), by rw [hRR]; exact ⟨rfl, by show it ≤ 120; omega⟩, rfl⟩) dX2_tell_40
      · exact absurd c22 (by decide)

end
section
variable {kA vA : Nat → Nat} {oB : Option Nat}
variable {l : Launch} {D : va_G} {cI cJ cO : ClassId} {B : Nat → Nat} {gG tG kG : Nat → Int32} {ik le : Int32} {tp : Nat → Int32} {tk bg en va tn : Int32} {bO sO : Nat → Int32} {nU : Nat → Int64} {fS cW : Nat → Int32}

set_option maxHeartbeats 4000000 in
set_option maxRecDepth 100000 in
theorem k_X3_night (n : Nat) (d : Nat) (hI : Inv gG n) (hd : d ≤ 120) (hT : TpI tp d) : MZ kA vA oB l D (tyA cI cJ cO) yX3_night cX3_night 2 ((some .int)) 10 215 [.ref (B 0)] (VX cI cJ cO B gG tG kG ik (nI d) tp tk bg en va tn bO sO nU fS cW) (fun ov w' => ∃ (tG' : Nat → Int32) (tk' bg' en' va' tn' : Int32), ov = some (.int (nightA (nightP tp d gG n))) ∧ w' = (VX cI cJ cO B (nightG (nightP tp d gG n) gG) tG' kG ik 0 tp tk' bg' en' va' tn' bO sO nU fS cW)) := by
  refine MZ.mk (by decide) (Nat.le_of_ble_eq_true rfl) ?_
  intro p e s m below meth c ls S hr hlk hP hK hD hS hZ hl
  have S : CallFix p m c cX3_night 2 s _ WL RX3 := S
  obtain ⟨hx, hb, hml, hown, hts⟩ := id S
  have hl : lv_has ls 2 [(0, .ref (B 0))] := hl
  have h8 : n ≤ 8 := hI.1
  refine lv_aload_n hx hb dX3_night_0 rfl (lv_at hl 0 rfl) ?_
  refine va_get (ci := 3) (v := .ref (B 3)) hx hb hts wx_X3 hown hK hP 0 rfl rfl 1 (by decide) (hts _ wf_X3_16) (fun _ h9 => h9) rfl dX3_night_1 ?_
  refine lv_aload_n hx hb dX3_night_4 rfl (lv_at hl 0 rfl) ?_
  refine va_get (ci := 3) (v := .ref (B 1)) hx hb hts wx_X3 hown hK hP 0 rfl rfl 0 (by decide) (hts _ wf_X3_10) (fun _ h9 => h9) rfl dX3_night_5 ?_
  refine mu_V (w := (G2 cI (B 3) (B 4) (tG 0) (tG 2) (tG 1) (tl tG) (B 1) (B 2) (gG 0) (gG 2) (gG 1) (tl gG))) (rest := []) S hK hP hD hS (k_X0_become (g := tG) (g2 := gG)) gv_X3_135 hd_X0_become ⟨Nat.le_of_ble_eq_true rfl, Nat.le_of_ble_eq_true rfl⟩ [3, 4, 1, 2] rfl rfl 0 rfl rfl rfl rfl hl.1 (lv_room (Nat.le_of_ble_eq_true rfl)) dX3_night_8 ⟨Nat.zero_le _, Nat.zero_le _⟩ (fun ov w' H locs hp hP hD hS => ?_)
  obtain ⟨rfl, rfl⟩ := hp
  have hP : va_P D vwCl (VX cI cJ cO B gG gG kG ik (nI d) tp tk bg en va tn bO sO nU fS cW) H := hP
  have hD : va_D _ (VX cI cJ cO B gG gG kG ik (nI d) tp tk bg en va tn bO sO nU fS cW) := hD
  refine W.eq (g2 := F0 m 11 ls []) rfl ?_
  refine lv_aload_n hx hb dX3_night_11 rfl (lv_at hl 0 rfl) ?_
  refine va_get (ci := 3) (v := .ref (B 7)) hx hb hts wx_X3 hown hK hP 0 rfl rfl 4 (by decide) (hts _ wf_X3_29) (fun _ h9 => h9) rfl dX3_night_12 ?_
  refine lv_aload_n hx hb dX3_night_15 rfl (lv_at hl 0 rfl) ?_
  refine va_get (ci := 3) (v := .ref (B 3)) hx hb hts wx_X3 hown hK hP 0 rfl rfl 1 (by decide) (hts _ wf_X3_16) (fun _ h9 => h9) rfl dX3_night_16 ?_
  refine mz_V (w := (TG cI (B 7) (B 8) (nI d) tp tk bg en va tn (B 3) (B 4) gG)) (rest := []) S hK hP hD hS hZ (k_X2_tell n d hI hd hT) gv_X3_171 hd_X2_tell ⟨Nat.le_of_ble_eq_true rfl, Nat.le_of_ble_eq_true rfl⟩ [7, 8, 3, 4] rfl rfl 2 rfl rfl rfl rfl hl.1 (lv_room (Nat.le_of_ble_eq_true rfl)) dX3_night_19 ⟨Nat.zero_le _, Nat.zero_le _⟩ (fun ov w' H locs hp hP hD hS => ?_)
  obtain ⟨g9, f9, n9, rfl, htl, rfl⟩ := hp
  have hP : va_P D vwCl (VX cI cJ cO B gG g9 kG ik (nI d) tp (tokC (byt tp d f9)) (nI f9) (nI (tkE tp d f9)) (capV tp d f9) n9 bO sO nU fS cW) H := hP
  have hD : va_D _ (VX cI cJ cO B gG g9 kG ik (nI d) tp (tokC (byt tp d f9)) (nI f9) (nI (tkE tp d f9)) (capV tp d f9) n9 bO sO nU fS cW) := hD
  refine W.eq (g2 := F0 m 22 ls [.int (nightA (nightP tp d gG n))]) rfl ?_
  rcases tel_c htl with ⟨p9, hp9, hR⟩ | ⟨x9, hR, hx1, hx2⟩
  · refine w_i (z := -1 - nI p9) (by rw [hR]; rfl) ?_
    refine lv_istore_n (lv' := [(1, .int (-1 - nI p9)), (0, .ref (B 0))]) hx hb dX3_night_22 rfl hl (by decide) rfl (fun ls hl => ?_)
    refine lv_aload_n hx hb dX3_night_23 rfl (lv_at hl 1 rfl) ?_
    refine va_get (ci := 3) (v := .ref (B 7)) hx hb hts wx_X3 hown hK hP 0 rfl rfl 4 (by decide) (hts _ wf_X3_29) (fun _ h9 => h9) rfl dX3_night_24 ?_
    refine lv_iconst (v := 0) hx hb dX3_night_27 rfl ?_
    refine va_put (ci := 2) (v := .int 0) (ty := tyX2 0) hx hb hts wx_X2 tyX2 tyX2_ok nmX2 hown hK hP hD hS 7 rfl rfl 0 (by decide) (hts _ wf_X3_165) (fun _ h9 => h9) rfl (tyX2_ok 0 (by decide)) rfl rfl (Nat.le_of_ble_eq_true rfl) dX3_night_28 (fun H locs hP hD hS => ?_)
    have hP : va_P D vwCl (VX cI cJ cO B gG g9 kG ik 0 tp (tokC (byt tp d f9)) (nI f9) (nI (tkE tp d f9)) (capV tp d f9) n9 bO sO nU fS cW) H := hP
    have hD : va_D _ (VX cI cJ cO B gG g9 kG ik 0 tp (tokC (byt tp d f9)) (nI f9) (nI (tkE tp d f9)) (capV tp d f9) n9 bO sO nU fS cW) := hD
    refine lv_iload_n hx hb dX3_night_31 rfl (lv_at hl 0 rfl) ?_
    refine lv_if_lt (tgt := 46) hx hb dX3_night_32 rfl (fun c32 => ?_) (fun c32 => ?_)
    · replace c32 := Int32.not_le.mpr c32
      refine lv_iload_n hx hb dX3_night_46 rfl (lv_at hl 0 rfl) ?_
      have hE : gG = nightG (nightP tp d gG n) gG := by rw [hR]; rfl
      have hW : (VX cI cJ cO B gG g9 kG ik 0 tp (tokC (byt tp d f9)) (nI f9) (nI (tkE tp d f9)) (capV tp d f9) n9 bO sO nU fS cW) = (VX cI cJ cO B (nightG (nightP tp d gG n) gG) g9 kG ik 0 tp (tokC (byt tp d f9)) (nI f9) (nI (tkE tp d f9)) (capV tp d f9) n9 bO sO nU fS cW) := congrArg (fun z => (VX cI cJ cO B z g9 kG ik 0 tp (tokC (byt tp d f9)) (nI f9) (nI (tkE tp d f9)) (capV tp d f9) n9 bO sO nU fS cW)) hE
      have hP : va_P D vwCl (VX cI cJ cO B (nightG (nightP tp d gG n) gG) g9 kG ik 0 tp (tokC (byt tp d f9)) (nI f9) (nI (tkE tp d f9)) (capV tp d f9) n9 bO sO nU fS cW) H := Eq.mp (congrArg (fun z => va_P D vwCl z H) hW) hP
      have hD : va_D _ (VX cI cJ cO B (nightG (nightP tp d gG n) gG) g9 kG ik 0 tp (tokC (byt tp d f9)) (nI f9) (nI (tkE tp d f9)) (capV tp d f9) n9 bO sO nU fS cW) := Eq.mp (congrArg (fun z => va_D _ z) hW) hD
      exact mu_iret (VX cI cJ cO B (nightG (nightP tp d gG n) gG) g9 kG ik 0 tp (tokC (byt tp d f9)) (nI f9) (nI (tkE tp d f9)) (capV tp d f9) n9 bO sO nU fS cW) hx hb hr hlk hP hS (vx_ad.trans vx_ad.symm) (⟨g9, (tokC (byt tp d f9)), (nI f9), (nI (tkE tp d f9)), (capV tp d f9), n9, congrArg (fun z => some (Value.int z)) (by rw [hR]; rfl), rfl⟩) dX3_night_47
    · replace c32 := Int32.not_lt.mp c32
      exact absurd c32 (m1_neg (by omega))
  · refine w_i (z := nI x9.2.2) (by rw [hR]; rfl) ?_
    refine lv_istore_n (lv' := [(1, .int (nI x9.2.2)), (0, .ref (B 0))]) hx hb dX3_night_22 rfl hl (by decide) rfl (fun ls hl => ?_)
    refine lv_aload_n hx hb dX3_night_23 rfl (lv_at hl 1 rfl) ?_
    refine va_get (ci := 3) (v := .ref (B 7)) hx hb hts wx_X3 hown hK hP 0 rfl rfl 4 (by decide) (hts _ wf_X3_29) (fun _ h9 => h9) rfl dX3_night_24 ?_
    refine lv_iconst (v := 0) hx hb dX3_night_27 rfl ?_
    refine va_put (ci := 2) (v := .int 0) (ty := tyX2 0) hx hb hts wx_X2 tyX2 tyX2_ok nmX2 hown hK hP hD hS 7 rfl rfl 0 (by decide) (hts _ wf_X3_165) (fun _ h9 => h9) rfl (tyX2_ok 0 (by decide)) rfl rfl (Nat.le_of_ble_eq_true rfl) dX3_night_28 (fun H locs hP hD hS => ?_)
    have hP : va_P D vwCl (VX cI cJ cO B gG g9 kG ik 0 tp (tokC (byt tp d f9)) (nI f9) (nI (tkE tp d f9)) (capV tp d f9) n9 bO sO nU fS cW) H := hP
    have hD : va_D _ (VX cI cJ cO B gG g9 kG ik 0 tp (tokC (byt tp d f9)) (nI f9) (nI (tkE tp d f9)) (capV tp d f9) n9 bO sO nU fS cW) := hD
    refine lv_iload_n hx hb dX3_night_31 rfl (lv_at hl 0 rfl) ?_
    refine lv_if_lt (tgt := 46) hx hb dX3_night_32 rfl (fun c32 => ?_) (fun c32 => ?_)
    · exact absurd c32 (nI_pos (by omega))
    · refine lv_aload_n hx hb dX3_night_35 rfl (lv_at hl 1 rfl) ?_
      refine va_get (ci := 3) (v := .ref (B 1)) hx hb hts wx_X3 hown hK hP 0 rfl rfl 0 (by decide) (hts _ wf_X3_10) (fun _ h9 => h9) rfl dX3_night_36 ?_
      refine lv_aload_n hx hb dX3_night_39 rfl (lv_at hl 1 rfl) ?_
      refine va_get (ci := 3) (v := .ref (B 3)) hx hb hts wx_X3 hown hK hP 0 rfl rfl 1 (by decide) (hts _ wf_X3_16) (fun _ h9 => h9) rfl dX3_night_40 ?_
      refine mu_V (w := (G2 cI (B 1) (B 2) (gG 0) (gG 2) (gG 1) (tl gG) (B 3) (B 4) (g9 0) (g9 2) (g9 1) (tl g9))) (rest := []) S hK hP hD hS (k_X0_become (g := gG) (g2 := g9)) gv_X3_135 hd_X0_become ⟨Nat.le_of_ble_eq_true rfl, Nat.le_of_ble_eq_true rfl⟩ [1, 2, 3, 4] rfl rfl 0 rfl rfl rfl rfl hl.1 (lv_room (Nat.le_of_ble_eq_true rfl)) dX3_night_43 ⟨Nat.zero_le _, Nat.zero_le _⟩ (fun ov w' H locs hp hP hD hS => ?_)
      obtain ⟨rfl, rfl⟩ := hp
      have hP : va_P D vwCl (VX cI cJ cO B g9 g9 kG ik 0 tp (tokC (byt tp d f9)) (nI f9) (nI (tkE tp d f9)) (capV tp d f9) n9 bO sO nU fS cW) H := hP
      have hD : va_D _ (VX cI cJ cO B g9 g9 kG ik 0 tp (tokC (byt tp d f9)) (nI f9) (nI (tkE tp d f9)) (capV tp d f9) n9 bO sO nU fS cW) := hD
      refine W.eq (g2 := F0 m 46 ls []) rfl ?_
      refine lv_iload_n hx hb dX3_night_46 rfl (lv_at hl 0 rfl) ?_
      have hE : g9 = nightG (nightP tp d gG n) gG := by rw [hR]; exact hx1.symm
      have hW : (VX cI cJ cO B g9 g9 kG ik 0 tp (tokC (byt tp d f9)) (nI f9) (nI (tkE tp d f9)) (capV tp d f9) n9 bO sO nU fS cW) = (VX cI cJ cO B (nightG (nightP tp d gG n) gG) g9 kG ik 0 tp (tokC (byt tp d f9)) (nI f9) (nI (tkE tp d f9)) (capV tp d f9) n9 bO sO nU fS cW) := congrArg (fun z => (VX cI cJ cO B z g9 kG ik 0 tp (tokC (byt tp d f9)) (nI f9) (nI (tkE tp d f9)) (capV tp d f9) n9 bO sO nU fS cW)) hE
      have hP : va_P D vwCl (VX cI cJ cO B (nightG (nightP tp d gG n) gG) g9 kG ik 0 tp (tokC (byt tp d f9)) (nI f9) (nI (tkE tp d f9)) (capV tp d f9) n9 bO sO nU fS cW) H := Eq.mp (congrArg (fun z => va_P D vwCl z H) hW) hP
      have hD : va_D _ (VX cI cJ cO B (nightG (nightP tp d gG n) gG) g9 kG ik 0 tp (tokC (byt tp d f9)) (nI f9) (nI (tkE tp d f9)) (capV tp d f9) n9 bO sO nU fS cW) := Eq.mp (congrArg (fun z => va_D _ z) hW) hD
      exact mu_iret (VX cI cJ cO B (nightG (nightP tp d gG n) gG) g9 kG ik 0 tp (tokC (byt tp d f9)) (nI f9) (nI (tkE tp d f9)) (capV tp d f9) n9 bO sO nU fS cW) hx hb hr hlk hP hS (vx_ad.trans vx_ad.symm) (⟨g9, (tokC (byt tp d f9)), (nI f9), (nI (tkE tp d f9)), (capV tp d f9), n9, congrArg (fun z => some (Value.int z)) (by rw [hR]; rfl), rfl⟩) dX3_night_47

end
