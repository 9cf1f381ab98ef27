section
variable {l : Launch} {D : va_G} {cI cJ cO : ClassId} {A : Nat → Nat} {sS kS oS aS tS : Nat → Int32} {ik : Int32} {cA tp : Nat → Int32} {td fm tt vl wr : Int32} {bO sO : Nat → Int32} {nU mV : Nat → Int64}

set_option maxHeartbeats 4000000 in
set_option maxRecDepth 100000 in
theorem k_X4_mostBy (n : Nat) (j : Nat) (u : Nat) (k : Nat) (hIv : ∀ v, v ≤ u → Inv (upd sS j (nI v)) n) (hj : j < 75) (hu : u < 100) (hk : k < 1000) : MU l D (tyA cI cJ cO) yX4_mostBy cX4_mostBy 9 ((some .int)) 10 218 [.ref (A 0), .int (nI j), .int (nI u), .int (nI k)] (MW cI cJ A sS kS oS aS tS ik cA tp td fm tt vl wr bO sO nU mV) (fun ov w' => ∃ aS' : Nat → Int32, ov = some (.int (mostB sS n k j (u + 1))) ∧ w' = (MW cI cJ A sS kS oS aS' tS ik cA tp td fm tt vl wr bO sO nU mV)) := by
  refine MU.mk (by decide) (Nat.le_of_ble_eq_true rfl) ?_
  intro p e s m below meth c ls S hr hlk hP hK hD hS hl
  have S : CallFix p m c cX4_mostBy 9 s _ WL RX4 := S
  obtain ⟨hx, hb, hml, hown, hts⟩ := id S
  have hl : lv_has ls 9 [(0, .ref (A 0)), (1, .int (nI j)), (2, .int (nI u)), (3, .int (nI k))] := hl
  refine lv_aload_n hx hb dX4_mostBy_0 rfl (lv_at hl 0 rfl) ?_
  refine va_get (ci := 4) (v := .ref (A 1)) hx hb hts wx_X4 hown hK hP 0 rfl rfl 0 (by decide) (hts _ wf_X4_7) (fun _ h9 => h9) rfl dX4_mostBy_1 ?_
  refine lv_iload_n hx hb dX4_mostBy_4 rfl (lv_at hl 1 rfl) ?_
  refine ia_ld hx hb hK hP 1 0 rfl rfl j (rfl) (by omega) (by decide) dX4_mostBy_5 ?_
  refine lv_istore (lv' := [(4, .int (sS j)), (0, .ref (A 0)), (1, .int (nI j)), (2, .int (nI u)), (3, .int (nI k))]) hx hb dX4_mostBy_6 hl (by decide) rfl (fun ls hl => ?_)
  refine lv_iconst (v := 0) hx hb dX4_mostBy_8 rfl ?_
  refine w_i (z := (bestF yesP (mostV sS n k j) 0 0).1) (by rw [bestF]) ?_
  refine lv_istore (lv' := [(5, .int ((bestF yesP (mostV sS n k j) 0 0).1)), (4, .int (sS j)), (0, .ref (A 0)), (1, .int (nI j)), (2, .int (nI u)), (3, .int (nI k))]) hx hb dX4_mostBy_9 hl (by decide) rfl (fun ls hl => ?_)
  refine lv_iconst (v := (-1)) hx hb dX4_mostBy_11 rfl ?_
  refine w_i (z := (bestF yesP (mostV sS n k j) 0 0).2) (by rw [bestF]) ?_
  refine lv_istore (lv' := [(6, .int ((bestF yesP (mostV sS n k j) 0 0).2)), (5, .int ((bestF yesP (mostV sS n k j) 0 0).1)), (4, .int (sS j)), (0, .ref (A 0)), (1, .int (nI j)), (2, .int (nI u)), (3, .int (nI k))]) hx hb dX4_mostBy_12 hl (by decide) rfl (fun ls hl => ?_)
  refine lv_iconst (v := 0) hx hb dX4_mostBy_14 rfl ?_
  have hE : sS = upd sS j (sS j) := upd_same _ _
  have hW : (MW cI cJ A sS kS oS aS tS ik cA tp td fm tt vl wr bO sO nU mV) = (MW cI cJ A (upd sS j (sS j)) kS oS aS tS ik cA tp td fm tt vl wr bO sO nU mV) := congrArg (fun z => (MW cI cJ A z kS oS aS tS ik cA tp td fm tt vl wr bO sO nU mV)) hE
  have hP : va_P D vwCl (MW cI cJ A (upd sS j (sS j)) kS oS aS tS ik cA tp td fm tt vl wr bO sO nU mV) s.heap := Eq.mp (congrArg (fun z => va_P D vwCl z s.heap) hW) hP
  have hD : va_D _ (MW cI cJ A (upd sS j (sS j)) kS oS aS tS ik cA tp td fm tt vl wr bO sO nU mV) := Eq.mp (congrArg (fun z => va_D _ z) hW) hD
  refine lv_istore (lv' := [(7, .int 0), (6, .int ((bestF yesP (mostV sS n k j) 0 0).2)), (5, .int ((bestF yesP (mostV sS n k j) 0 0).1)), (4, .int (sS j)), (0, .ref (A 0)), (1, .int (nI j)), (2, .int (nI u)), (3, .int (nI k))]) hx hb dX4_mostBy_15 hl (by decide) rfl (fun ls hl => ?_)
  refine w_loopH (pc := 17) (st := fun (x : Nat × Int32 × (Nat → Int32)) => match x with | (i, x, a) => []) (μ := fun (x : Nat × Int32 × (Nat → Int32)) => match x with | (i, x, a) => (u + 1) - i) (I := fun (x : Nat × Int32 × (Nat → Int32)) H locs ls => match x with | (i, x, a) => (i ≤ u + 1) ∧ va_P D vwCl (MW cI cJ A (upd sS j x) kS oS a tS ik cA tp td fm tt vl wr bO sO nU mV) H ∧ va_D (fun z9 => z9 ∈ ((MW cI cJ A sS kS oS aS tS ik cA tp td fm tt vl wr bO sO nU mV)).map (fun z8 => z8.1)) (MW cI cJ A (upd sS j x) kS oS a tS ik cA tp td fm tt vl wr bO sO nU mV) ∧ va_S (fun z9 => z9 ∈ ((MW cI cJ A sS kS oS aS tS ik cA tp td fm tt vl wr bO sO nU mV)).map (fun z8 => z8.1)) s.heap H locs ∧ lv_has ls 9 [(0, .ref (A 0)), (1, .int (nI j)), (2, .int (nI u)), (3, .int (nI k)), (4, .int (sS j)), (5, .int ((bestF yesP (mostV sS n k j) 0 i).1)), (6, .int ((bestF yesP (mostV sS n k j) 0 i).2)), (7, .int (nI i))]) ?_ (0, sS j, aS) ⟨Nat.zero_le _, hP, hD, hS, lv_sub hl [4, 5, 6, 7, 3, 2, 1, 0] rfl⟩
  rintro ⟨i, x, a⟩ H locs ls ⟨hi, hP, hD, hS, hl⟩ ih17
  try dsimp only at ih17 ⊢
  refine lv_iload hx hb dX4_mostBy_17 (lv_at hl 7 rfl) ?_
  refine lv_iload_n hx hb dX4_mostBy_19 rfl (lv_at hl 2 rfl) ?_
  refine lv_icmp_gt (tgt := 76) hx hb dX4_mostBy_20 rfl (fun c20 => ?_) (fun c20 => ?_)
  · replace c20 := nq_lt (a := u) (b := i) (by omega) (by omega) c20
    refine lv_aload_n hx hb dX4_mostBy_76 rfl (lv_at hl 0 rfl) ?_
    refine va_get (ci := 4) (v := .ref (A 1)) hx hb hts wx_X4 hown hK hP 0 rfl rfl 0 (by decide) (hts _ wf_X4_7) (fun _ h9 => h9) rfl dX4_mostBy_77 ?_
    refine lv_iload_n hx hb dX4_mostBy_80 rfl (lv_at hl 1 rfl) ?_
    refine lv_iload hx hb dX4_mostBy_81 (lv_at hl 4 rfl) ?_
    refine ia_st hx hb hK hP hD hS 1 0 rfl rfl j (rfl) (by omega) (by decide) dX4_mostBy_83 (fun H locs hP hD hS => ?_)
    have hP : va_P D vwCl (MW cI cJ A (upd (upd sS j x) j (sS j)) kS oS a tS ik cA tp td fm tt vl wr bO sO nU mV) H := hP
    have hD : va_D _ (MW cI cJ A (upd (upd sS j x) j (sS j)) kS oS a tS ik cA tp td fm tt vl wr bO sO nU mV) := hD
    have hE : upd (upd sS j x) j (sS j) = sS := upd_back _ _ _
    have hW : (MW cI cJ A (upd (upd sS j x) j (sS j)) kS oS a tS ik cA tp td fm tt vl wr bO sO nU mV) = (MW cI cJ A sS kS oS a tS ik cA tp td fm tt vl wr bO sO nU mV) := congrArg (fun z => (MW cI cJ A z kS oS a tS ik cA tp td fm tt vl wr bO sO nU mV)) hE
    have hP : va_P D vwCl (MW cI cJ A sS kS oS a tS ik cA tp td fm tt vl wr bO sO nU mV) H := Eq.mp (congrArg (fun z => va_P D vwCl z H) hW) hP
    have hD : va_D _ (MW cI cJ A sS kS oS a tS ik cA tp td fm tt vl wr bO sO nU mV) := Eq.mp (congrArg (fun z => va_D _ z) hW) hD
    obtain rfl : i = u + 1 := by omega
    refine lv_iload hx hb dX4_mostBy_84 (lv_at hl 5 rfl) ?_
    exact mu_iret (MW cI cJ A sS kS oS a tS ik cA tp td fm tt vl wr bO sO nU mV) hx hb hr hlk hP hS rfl (⟨a, congrArg (fun z => some (Value.int z)) (by simp [mostB, bump, put9, b2i, c20, i_lt, -Int32.not_le, -Int32.not_lt]), rfl⟩) dX4_mostBy_86
  · replace c20 := nq_nlt (a := u) (b := i) (by omega) (by omega) c20
    refine lv_aload_n hx hb dX4_mostBy_23 rfl (lv_at hl 0 rfl) ?_
    refine va_get (ci := 4) (v := .ref (A 1)) hx hb hts wx_X4 hown hK hP 0 rfl rfl 0 (by decide) (hts _ wf_X4_7) (fun _ h9 => h9) rfl dX4_mostBy_24 ?_
    refine lv_iload_n hx hb dX4_mostBy_27 rfl (lv_at hl 1 rfl) ?_
    refine lv_iload hx hb dX4_mostBy_28 (lv_at hl 7 rfl) ?_
    refine ia_st hx hb hK hP hD hS 1 0 rfl rfl j (rfl) (by omega) (by decide) dX4_mostBy_30 (fun H locs hP hD hS => ?_)
    have hP : va_P D vwCl (MW cI cJ A (upd (upd sS j x) j (nI i)) kS oS a tS ik cA tp td fm tt vl wr bO sO nU mV) H := hP
    have hD : va_D _ (MW cI cJ A (upd (upd sS j x) j (nI i)) kS oS a tS ik cA tp td fm tt vl wr bO sO nU mV) := hD
    have hE : upd (upd sS j x) j (nI i) = upd sS j (nI i) := upd_upd _ _ _ _
    have hW : (MW cI cJ A (upd (upd sS j x) j (nI i)) kS oS a tS ik cA tp td fm tt vl wr bO sO nU mV) = (MW cI cJ A (upd sS j (nI i)) kS oS a tS ik cA tp td fm tt vl wr bO sO nU mV) := congrArg (fun z => (MW cI cJ A z kS oS a tS ik cA tp td fm tt vl wr bO sO nU mV)) hE
    have hP : va_P D vwCl (MW cI cJ A (upd sS j (nI i)) kS oS a tS ik cA tp td fm tt vl wr bO sO nU mV) H := Eq.mp (congrArg (fun z => va_P D vwCl z H) hW) hP
    have hD : va_D _ (MW cI cJ A (upd sS j (nI i)) kS oS a tS ik cA tp td fm tt vl wr bO sO nU mV) := Eq.mp (congrArg (fun z => va_D _ z) hW) hD
    refine lv_aload_n hx hb dX4_mostBy_31 rfl (lv_at hl 0 rfl) ?_
    refine lv_iload_n hx hb dX4_mostBy_32 rfl (lv_at hl 3 rfl) ?_
    have hI := hIv i (by omega)
    refine mu_W (w := (MW cI cJ A (upd sS j (nI i)) kS oS a tS ik cA tp td fm tt vl wr bO sO nU mV)) (rest := []) S hK hP hD hS (k_X4_manyBehind n k hI (by omega)) gv_X4_190 hd_X4_manyBehind ⟨Nat.le_of_ble_eq_true rfl, Nat.le_of_ble_eq_true rfl⟩ 4 rfl rfl rfl rfl hl.1 (lv_room (Nat.le_of_ble_eq_true rfl)) dX4_mostBy_33 ⟨Nat.zero_le _, Nat.zero_le _⟩ (fun ov w' H locs hp hP hD hS => ?_)
    obtain ⟨rfl, rfl⟩ := hp
    refine W.eq (g2 := F0 m 36 ls [.int (nI (contN (hoursF (upd sS j (nI i)) n k) n))]) rfl ?_
    refine w_i (z := mostV sS n k j i) (rfl) ?_
    refine lv_istore (lv' := [(8, .int (mostV sS n k j i)), (0, .ref (A 0)), (1, .int (nI j)), (2, .int (nI u)), (3, .int (nI k)), (4, .int (sS j)), (5, .int ((bestF yesP (mostV sS n k j) 0 i).1)), (6, .int ((bestF yesP (mostV sS n k j) 0 i).2)), (7, .int (nI i))]) hx hb dX4_mostBy_36 hl (by decide) rfl (fun ls hl => ?_)
    refine lv_iload hx hb dX4_mostBy_38 (lv_at hl 0 rfl) ?_
    refine lv_iload hx hb dX4_mostBy_40 (lv_at hl 7 rfl) ?_
    refine lv_icmp_le (tgt := 50) hx hb dX4_mostBy_42 rfl (fun c42 => ?_) (fun c42 => ?_)
    · refine lv_iload hx hb dX4_mostBy_50 (lv_at hl 6 rfl) ?_
      refine w_i (z := (bestF yesP (mostV sS n k j) 0 (i + 1)).1) (congrArg Prod.fst (best_f (fun _ => c42))) ?_
      refine lv_istore (lv' := [(5, .int ((bestF yesP (mostV sS n k j) 0 (i + 1)).1)), (8, .int (mostV sS n k j i)), (0, .ref (A 0)), (1, .int (nI j)), (2, .int (nI u)), (3, .int (nI k)), (4, .int (sS j)), (6, .int ((bestF yesP (mostV sS n k j) 0 i).2)), (7, .int (nI i))]) hx hb dX4_mostBy_52 hl (by decide) rfl (fun ls hl => ?_)
      refine lv_iload hx hb dX4_mostBy_54 (lv_at hl 1 rfl) ?_
      refine lv_iload hx hb dX4_mostBy_56 (lv_at hl 7 rfl) ?_
      refine lv_icmp_le (tgt := 66) hx hb dX4_mostBy_58 rfl (fun c58 => ?_) (fun c58 => ?_)
      · refine lv_iload hx hb dX4_mostBy_66 (lv_at hl 7 rfl) ?_
        refine w_i (z := (bestF yesP (mostV sS n k j) 0 (i + 1)).2) (congrArg Prod.snd (best_f (fun _ => c42))) ?_
        refine lv_istore (lv' := [(6, .int ((bestF yesP (mostV sS n k j) 0 (i + 1)).2)), (5, .int ((bestF yesP (mostV sS n k j) 0 (i + 1)).1)), (8, .int (mostV sS n k j i)), (0, .ref (A 0)), (1, .int (nI j)), (2, .int (nI u)), (3, .int (nI k)), (4, .int (sS j)), (7, .int (nI i))]) hx hb dX4_mostBy_68 hl (by decide) rfl (fun ls hl => ?_)
        refine lv_iinc (v := nI (i + 1)) (lv' := [(7, .int (nI (i + 1))), (6, .int ((bestF yesP (mostV sS n k j) 0 (i + 1)).2)), (5, .int ((bestF yesP (mostV sS n k j) 0 (i + 1)).1)), (8, .int (mostV sS n k j i)), (0, .ref (A 0)), (1, .int (nI j)), (2, .int (nI u)), (3, .int (nI k)), (4, .int (sS j))]) hx hb dX4_mostBy_70 hl (k := 8) rfl (nI_inc _) (by decide) rfl (fun ls hl => ?_)
        refine lv_goto (tgt := 17) hx hb dX4_mostBy_73 rfl ?_
        exact ih17 (i + 1, nI i, upd sS j (nI i)) _ _ ls (by first | omega | (dsimp only; omega)) ⟨(by omega), hP, hD, hS, lv_sub hl [4, 5, 6, 7, 8, 2, 1, 0] rfl⟩
      · exact absurd c42 c58
    · refine lv_iload hx hb dX4_mostBy_45 (lv_at hl 8 rfl) ?_
      refine lv_goto (tgt := 52) hx hb dX4_mostBy_47 rfl ?_
      refine w_i (z := (bestF yesP (mostV sS n k j) 0 (i + 1)).1) (congrArg Prod.fst (best_t (rfl) c42)) ?_
      refine lv_istore (lv' := [(5, .int ((bestF yesP (mostV sS n k j) 0 (i + 1)).1)), (8, .int (mostV sS n k j i)), (0, .ref (A 0)), (1, .int (nI j)), (2, .int (nI u)), (3, .int (nI k)), (4, .int (sS j)), (6, .int ((bestF yesP (mostV sS n k j) 0 i).2)), (7, .int (nI i))]) hx hb dX4_mostBy_52 hl (by decide) rfl (fun ls hl => ?_)
      refine lv_iload hx hb dX4_mostBy_54 (lv_at hl 1 rfl) ?_
      refine lv_iload hx hb dX4_mostBy_56 (lv_at hl 7 rfl) ?_
      refine lv_icmp_le (tgt := 66) hx hb dX4_mostBy_58 rfl (fun c58 => ?_) (fun c58 => ?_)
      · exact absurd c58 c42
      · refine lv_iload hx hb dX4_mostBy_61 (lv_at hl 1 rfl) ?_
        refine lv_goto (tgt := 68) hx hb dX4_mostBy_63 rfl ?_
        refine w_i (z := (bestF yesP (mostV sS n k j) 0 (i + 1)).2) (congrArg Prod.snd (best_t (rfl) c42)) ?_
        refine lv_istore (lv' := [(6, .int ((bestF yesP (mostV sS n k j) 0 (i + 1)).2)), (5, .int ((bestF yesP (mostV sS n k j) 0 (i + 1)).1)), (8, .int (mostV sS n k j i)), (0, .ref (A 0)), (1, .int (nI j)), (2, .int (nI u)), (3, .int (nI k)), (4, .int (sS j)), (7, .int (nI i))]) hx hb dX4_mostBy_68 hl (by decide) rfl (fun ls hl => ?_)
        refine lv_iinc (v := nI (i + 1)) (lv' := [(7, .int (nI (i + 1))), (6, .int ((bestF yesP (mostV sS n k j) 0 (i + 1)).2)), (5, .int ((bestF yesP (mostV sS n k j) 0 (i + 1)).1)), (8, .int (mostV sS n k j i)), (0, .ref (A 0)), (1, .int (nI j)), (2, .int (nI u)), (3, .int (nI k)), (4, .int (sS j))]) hx hb dX4_mostBy_70 hl (k := 8) rfl (nI_inc _) (by decide) rfl (fun ls hl => ?_)
        refine lv_goto (tgt := 17) hx hb dX4_mostBy_73 rfl ?_
        exact ih17 (i + 1, nI i, upd sS j (nI i)) _ _ ls (by first | omega | (dsimp only; omega)) ⟨(by omega), hP, hD, hS, lv_sub hl [4, 5, 6, 7, 8, 2, 1, 0] rfl⟩

set_option maxHeartbeats 4000000 in
set_option maxRecDepth 100000 in
theorem k_X4_place (n : Nat) (f : Int32) (k : Int32) (hI : Inv sS n) : MU l D (tyA cI cJ cO) yX4_place cX4_place 3 ((some .int)) 11 246 [.ref (A 0), .int f, .int k] (MW cI cJ A sS kS oS aS tS ik cA tp td fm tt vl wr bO sO nU mV) (fun ov w' => ∃ aS' : Nat → Int32, ov = some (.int (placeR sS n f k)) ∧ w' = (MW cI cJ A sS kS oS aS' (okT (soonOk n f k) tS) ik cA tp td fm tt vl wr bO sO nU mV)) := by
  refine MU.mk (by decide) (Nat.le_of_ble_eq_true rfl) ?_
  intro p e s m below meth c ls S hr hlk hP hK hD hS hl
  have S : CallFix p m c cX4_place 3 s _ WL RX4 := S
  obtain ⟨hx, hb, hml, hown, hts⟩ := id S
  have hl : lv_has ls 3 [(0, .ref (A 0)), (1, .int f), (2, .int k)] := hl
  refine lv_aload_n hx hb dX4_place_0 rfl (lv_at hl 0 rfl) ?_
  refine lv_iload_n hx hb dX4_place_1 rfl (lv_at hl 1 rfl) ?_
  refine ro_V (w := (MW cI cJ A sS kS oS aS tS ik cA tp td fm tt vl wr bO sO nU mV)) (rest := []) S hK hP (k_X4_isFigure n f hI) gv_X4_128 hd_X4_isFigure ⟨Nat.le_of_ble_eq_true rfl, Nat.le_of_ble_eq_true rfl⟩ 4 rfl rfl rfl rfl hl.1 (lv_room (Nat.le_of_ble_eq_true rfl)) dX4_place_2 ⟨Nat.zero_le _, Nat.zero_le _⟩ ?_
  refine lv_if_eq (tgt := 30) hx hb dX4_place_5 rfl (fun c5 => ?_) (fun c5 => ?_)
  · replace c5 := (b2i_0 _).mp c5
    refine lv_aload_n hx hb dX4_place_30 rfl (lv_at hl 0 rfl) ?_
    refine lv_ldc (v := (-1000000001)) hx hb hown (hts _ wq_X4_44) dX4_place_31 ?_
    refine mu_W (w := (MW cI cJ A sS kS oS aS tS ik cA tp td fm tt vl wr bO sO nU mV)) (rest := []) S hK hP hD hS (k_X4_finds 0 (-1000000001) (by decide) (by decide)) gv_X4_63 hd_X4_finds ⟨Nat.le_of_ble_eq_true rfl, Nat.le_of_ble_eq_true rfl⟩ 4 rfl rfl rfl rfl hl.1 (lv_room (Nat.le_of_ble_eq_true rfl)) dX4_place_33 ⟨Nat.zero_le _, Nat.zero_le _⟩ (fun ov w' H locs hp hP hD hS => ?_)
    obtain ⟨rfl, rfl⟩ := hp
    refine W.eq (g2 := F0 m 36 ls [.int (-1000000001)]) rfl ?_
    have hE : upd tS 0 (tS 0 + 1) = okT (soonOk n f k) tS := by simp [placeR, soonOk, okT, bump, put9, b2i, c5, i_lt, -Int32.not_le, -Int32.not_lt]
    have hW : (MW cI cJ A sS kS oS aS (upd tS 0 (tS 0 + 1)) ik cA tp td fm tt vl wr bO sO nU mV) = (MW cI cJ A sS kS oS aS (okT (soonOk n f k) tS) ik cA tp td fm tt vl wr bO sO nU mV) := congrArg (fun z => (MW cI cJ A sS kS oS aS z ik cA tp td fm tt vl wr bO sO nU mV)) hE
    have hP : va_P D vwCl (MW cI cJ A sS kS oS aS (okT (soonOk n f k) tS) ik cA tp td fm tt vl wr bO sO nU mV) H := Eq.mp (congrArg (fun z => va_P D vwCl z H) hW) hP
    have hD : va_D _ (MW cI cJ A sS kS oS aS (okT (soonOk n f k) tS) ik cA tp td fm tt vl wr bO sO nU mV) := Eq.mp (congrArg (fun z => va_D _ z) hW) hD
    exact mu_iret (MW cI cJ A sS kS oS aS (okT (soonOk n f k) tS) ik cA tp td fm tt vl wr bO sO nU mV) hx hb hr hlk hP hS rfl (⟨aS, congrArg (fun z => some (Value.int z)) (by simp [placeR, soonOk, okT, bump, put9, b2i, c5, i_lt, -Int32.not_le, -Int32.not_lt]), rfl⟩) dX4_place_36
  · replace c5 := b2i_n0 c5
    obtain ⟨i, hi, rfl⟩ := fig_in hI.1 c5
    have h8 := hI.1
    have ei : cl (nI i) = i := cl_nI (by omega)
    refine lv_iload_n hx hb dX4_place_8 rfl (lv_at hl 2 rfl) ?_
    refine ro_S (w := []) (rest := []) S hK va_P0 (k_X4_isSoon k) gs_X4_195 hd_X4_isSoon ⟨Nat.le_of_ble_eq_true rfl, Nat.le_of_ble_eq_true rfl⟩ rfl hl.1 (lv_room (Nat.le_of_ble_eq_true rfl)) dX4_place_9 ⟨Nat.zero_le _, Nat.zero_le _⟩ ?_
    refine lv_if_eq (tgt := 30) hx hb dX4_place_12 rfl (fun c12 => ?_) (fun c12 => ?_)
    · replace c12 := (b2i_0 _).mp c12
      refine lv_aload_n hx hb dX4_place_30 rfl (lv_at hl 0 rfl) ?_
      refine lv_ldc (v := (-1000000001)) hx hb hown (hts _ wq_X4_44) dX4_place_31 ?_
      refine mu_W (w := (MW cI cJ A sS kS oS aS tS ik cA tp td fm tt vl wr bO sO nU mV)) (rest := []) S hK hP hD hS (k_X4_finds 0 (-1000000001) (by decide) (by decide)) gv_X4_63 hd_X4_finds ⟨Nat.le_of_ble_eq_true rfl, Nat.le_of_ble_eq_true rfl⟩ 4 rfl rfl rfl rfl hl.1 (lv_room (Nat.le_of_ble_eq_true rfl)) dX4_place_33 ⟨Nat.zero_le _, Nat.zero_le _⟩ (fun ov w' H locs hp hP hD hS => ?_)
      obtain ⟨rfl, rfl⟩ := hp
      refine W.eq (g2 := F0 m 36 ls [.int (-1000000001)]) rfl ?_
      have hE : upd tS 0 (tS 0 + 1) = okT (soonOk n (nI i) k) tS := by simp [placeR, soonOk, okT, bump, put9, b2i, c5, c12, ei, i_lt, -Int32.not_le, -Int32.not_lt]
      have hW : (MW cI cJ A sS kS oS aS (upd tS 0 (tS 0 + 1)) ik cA tp td fm tt vl wr bO sO nU mV) = (MW cI cJ A sS kS oS aS (okT (soonOk n (nI i) k) tS) ik cA tp td fm tt vl wr bO sO nU mV) := congrArg (fun z => (MW cI cJ A sS kS oS aS z ik cA tp td fm tt vl wr bO sO nU mV)) hE
      have hP : va_P D vwCl (MW cI cJ A sS kS oS aS (okT (soonOk n (nI i) k) tS) ik cA tp td fm tt vl wr bO sO nU mV) H := Eq.mp (congrArg (fun z => va_P D vwCl z H) hW) hP
      have hD : va_D _ (MW cI cJ A sS kS oS aS (okT (soonOk n (nI i) k) tS) ik cA tp td fm tt vl wr bO sO nU mV) := Eq.mp (congrArg (fun z => va_D _ z) hW) hD
      exact mu_iret (MW cI cJ A sS kS oS aS (okT (soonOk n (nI i) k) tS) ik cA tp td fm tt vl wr bO sO nU mV) hx hb hr hlk hP hS rfl (⟨aS, congrArg (fun z => some (Value.int z)) (by simp [placeR, soonOk, okT, bump, put9, b2i, c5, c12, ei, i_lt, -Int32.not_le, -Int32.not_lt]), rfl⟩) dX4_place_36
    · replace c12 := b2i_n0 c12
      obtain ⟨j, hja, hjb, rfl⟩ := in_nat (a := 1) (b := 40) (by decide) c12 (by decide)
      have ej : cl (nI j) = j := cl_nI (by omega)
      refine lv_aload_n hx hb dX4_place_15 rfl (lv_at hl 0 rfl) ?_
      refine lv_iload_n hx hb dX4_place_16 rfl (lv_at hl 1 rfl) ?_
      refine lv_iconst (v := 2) hx hb dX4_place_17 rfl ?_
      refine ro_S (w := []) (rest := [.ref (A 0)]) S hK va_P0 (k_X4_spot i 2) gs_X4_45 hd_X4_spot ⟨Nat.le_of_ble_eq_true rfl, Nat.le_of_ble_eq_true rfl⟩ rfl hl.1 (lv_room (Nat.le_of_ble_eq_true rfl)) dX4_place_18 ⟨Nat.zero_le _, Nat.zero_le _⟩ ?_
      refine lv_bipush (v := 19) hx hb dX4_place_21 rfl ?_
      refine lv_iload_n hx hb dX4_place_23 rfl (lv_at hl 2 rfl) ?_
      have hIv : ∀ v, v ≤ 19 → Inv (upd sS (9 * i + 2 + 3) (nI v)) n := fun v hv => Inv_pv (f := i) (w := 2) (v := v) (b := 19) hI hv (by omega)
      refine mu_W (w := (MW cI cJ A sS kS oS aS tS ik cA tp td fm tt vl wr bO sO nU mV)) (rest := []) S hK hP hD hS (k_X4_mostBy n (9 * i + 2 + 3) 19 j hIv (by omega) (by omega) (by omega)) gv_X4_200 hd_X4_mostBy ⟨Nat.le_of_ble_eq_true rfl, Nat.le_of_ble_eq_true rfl⟩ 4 rfl rfl rfl rfl hl.1 (lv_room (Nat.le_of_ble_eq_true rfl)) dX4_place_24 ⟨Nat.zero_le _, Nat.zero_le _⟩ (fun ov w' H locs hp hP hD hS => ?_)
      obtain ⟨a9, rfl, rfl⟩ := hp
      refine W.eq (g2 := F0 m 27 ls [.int (mostB sS n j (9 * i + 2 + 3) (19 + 1))]) rfl ?_
      refine lv_goto (tgt := 36) hx hb dX4_place_27 rfl ?_
      have hE : tS = okT (soonOk n (nI i) (nI j)) tS := by simp [placeR, soonOk, okT, bump, put9, b2i, c5, c12, ei, ej, i_lt, -Int32.not_le, -Int32.not_lt]
      have hW : (MW cI cJ A sS kS oS a9 tS ik cA tp td fm tt vl wr bO sO nU mV) = (MW cI cJ A sS kS oS a9 (okT (soonOk n (nI i) (nI j)) tS) ik cA tp td fm tt vl wr bO sO nU mV) := congrArg (fun z => (MW cI cJ A sS kS oS a9 z ik cA tp td fm tt vl wr bO sO nU mV)) hE
      have hP : va_P D vwCl (MW cI cJ A sS kS oS a9 (okT (soonOk n (nI i) (nI j)) tS) ik cA tp td fm tt vl wr bO sO nU mV) H := Eq.mp (congrArg (fun z => va_P D vwCl z H) hW) hP
      have hD : va_D _ (MW cI cJ A sS kS oS a9 (okT (soonOk n (nI i) (nI j)) tS) ik cA tp td fm tt vl wr bO sO nU mV) := Eq.mp (congrArg (fun z => va_D _ z) hW) hD
      exact mu_iret (MW cI cJ A sS kS oS a9 (okT (soonOk n (nI i) (nI j)) tS) ik cA tp td fm tt vl wr bO sO nU mV) hx hb hr hlk hP hS rfl (⟨a9, congrArg (fun z => some (Value.int z)) (by simp [placeR, soonOk, okT, bump, put9, b2i, c5, c12, ei, ej, i_lt, -Int32.not_le, -Int32.not_lt]), rfl⟩) dX4_place_36

set_option maxHeartbeats 4000000 in
set_option maxRecDepth 100000 in
theorem k_X4_want (n : Nat) (f : Int32) (k : Int32) (hI : Inv sS n) : MU l D (tyA cI cJ cO) yX4_want cX4_want 3 ((some .int)) 11 246 [.ref (A 0), .int f, .int k] (MW cI cJ A sS kS oS aS tS ik cA tp td fm tt vl wr bO sO nU mV) (fun ov w' => ∃ aS' : Nat → Int32, ov = some (.int (wantR sS n f k)) ∧ w' = (MW cI cJ A sS kS oS aS' (okT (soonOk n f k) tS) ik cA tp td fm tt vl wr bO sO nU mV)) := by
  refine MU.mk (by decide) (Nat.le_of_ble_eq_true rfl) ?_
  intro p e s m below meth c ls S hr hlk hP hK hD hS hl
  have S : CallFix p m c cX4_want 3 s _ WL RX4 := S
  obtain ⟨hx, hb, hml, hown, hts⟩ := id S
  have hl : lv_has ls 3 [(0, .ref (A 0)), (1, .int f), (2, .int k)] := hl
  refine lv_aload_n hx hb dX4_want_0 rfl (lv_at hl 0 rfl) ?_
  refine lv_iload_n hx hb dX4_want_1 rfl (lv_at hl 1 rfl) ?_
  refine ro_V (w := (MW cI cJ A sS kS oS aS tS ik cA tp td fm tt vl wr bO sO nU mV)) (rest := []) S hK hP (k_X4_isFigure n f hI) gv_X4_128 hd_X4_isFigure ⟨Nat.le_of_ble_eq_true rfl, Nat.le_of_ble_eq_true rfl⟩ 4 rfl rfl rfl rfl hl.1 (lv_room (Nat.le_of_ble_eq_true rfl)) dX4_want_2 ⟨Nat.zero_le _, Nat.zero_le _⟩ ?_
  refine lv_if_eq (tgt := 29) hx hb dX4_want_5 rfl (fun c5 => ?_) (fun c5 => ?_)
  · replace c5 := (b2i_0 _).mp c5
    refine lv_aload_n hx hb dX4_want_29 rfl (lv_at hl 0 rfl) ?_
    refine lv_ldc (v := (-1000000001)) hx hb hown (hts _ wq_X4_44) dX4_want_30 ?_
    refine mu_W (w := (MW cI cJ A sS kS oS aS tS ik cA tp td fm tt vl wr bO sO nU mV)) (rest := []) S hK hP hD hS (k_X4_finds 0 (-1000000001) (by decide) (by decide)) gv_X4_63 hd_X4_finds ⟨Nat.le_of_ble_eq_true rfl, Nat.le_of_ble_eq_true rfl⟩ 4 rfl rfl rfl rfl hl.1 (lv_room (Nat.le_of_ble_eq_true rfl)) dX4_want_32 ⟨Nat.zero_le _, Nat.zero_le _⟩ (fun ov w' H locs hp hP hD hS => ?_)
    obtain ⟨rfl, rfl⟩ := hp
    refine W.eq (g2 := F0 m 35 ls [.int (-1000000001)]) rfl ?_
    have hE : upd tS 0 (tS 0 + 1) = okT (soonOk n f k) tS := by simp [wantR, soonOk, okT, bump, put9, b2i, c5, i_lt, -Int32.not_le, -Int32.not_lt]
    have hW : (MW cI cJ A sS kS oS aS (upd tS 0 (tS 0 + 1)) ik cA tp td fm tt vl wr bO sO nU mV) = (MW cI cJ A sS kS oS aS (okT (soonOk n f k) tS) ik cA tp td fm tt vl wr bO sO nU mV) := congrArg (fun z => (MW cI cJ A sS kS oS aS z ik cA tp td fm tt vl wr bO sO nU mV)) hE
    have hP : va_P D vwCl (MW cI cJ A sS kS oS aS (okT (soonOk n f k) tS) ik cA tp td fm tt vl wr bO sO nU mV) H := Eq.mp (congrArg (fun z => va_P D vwCl z H) hW) hP
    have hD : va_D _ (MW cI cJ A sS kS oS aS (okT (soonOk n f k) tS) ik cA tp td fm tt vl wr bO sO nU mV) := Eq.mp (congrArg (fun z => va_D _ z) hW) hD
    exact mu_iret (MW cI cJ A sS kS oS aS (okT (soonOk n f k) tS) ik cA tp td fm tt vl wr bO sO nU mV) hx hb hr hlk hP hS rfl (⟨aS, congrArg (fun z => some (Value.int z)) (by simp [wantR, soonOk, okT, bump, put9, b2i, c5, i_lt, -Int32.not_le, -Int32.not_lt]), rfl⟩) dX4_want_35
  · replace c5 := b2i_n0 c5
    obtain ⟨i, hi, rfl⟩ := fig_in hI.1 c5
    have h8 := hI.1
    have ei : cl (nI i) = i := cl_nI (by omega)
    refine lv_iload_n hx hb dX4_want_8 rfl (lv_at hl 2 rfl) ?_
    refine ro_S (w := []) (rest := []) S hK va_P0 (k_X4_isSoon k) gs_X4_195 hd_X4_isSoon ⟨Nat.le_of_ble_eq_true rfl, Nat.le_of_ble_eq_true rfl⟩ rfl hl.1 (lv_room (Nat.le_of_ble_eq_true rfl)) dX4_want_9 ⟨Nat.zero_le _, Nat.zero_le _⟩ ?_
    refine lv_if_eq (tgt := 29) hx hb dX4_want_12 rfl (fun c12 => ?_) (fun c12 => ?_)
    · replace c12 := (b2i_0 _).mp c12
      refine lv_aload_n hx hb dX4_want_29 rfl (lv_at hl 0 rfl) ?_
      refine lv_ldc (v := (-1000000001)) hx hb hown (hts _ wq_X4_44) dX4_want_30 ?_
      refine mu_W (w := (MW cI cJ A sS kS oS aS tS ik cA tp td fm tt vl wr bO sO nU mV)) (rest := []) S hK hP hD hS (k_X4_finds 0 (-1000000001) (by decide) (by decide)) gv_X4_63 hd_X4_finds ⟨Nat.le_of_ble_eq_true rfl, Nat.le_of_ble_eq_true rfl⟩ 4 rfl rfl rfl rfl hl.1 (lv_room (Nat.le_of_ble_eq_true rfl)) dX4_want_32 ⟨Nat.zero_le _, Nat.zero_le _⟩ (fun ov w' H locs hp hP hD hS => ?_)
      obtain ⟨rfl, rfl⟩ := hp
      refine W.eq (g2 := F0 m 35 ls [.int (-1000000001)]) rfl ?_
      have hE : upd tS 0 (tS 0 + 1) = okT (soonOk n (nI i) k) tS := by simp [wantR, soonOk, okT, bump, put9, b2i, c5, c12, ei, i_lt, -Int32.not_le, -Int32.not_lt]
      have hW : (MW cI cJ A sS kS oS aS (upd tS 0 (tS 0 + 1)) ik cA tp td fm tt vl wr bO sO nU mV) = (MW cI cJ A sS kS oS aS (okT (soonOk n (nI i) k) tS) ik cA tp td fm tt vl wr bO sO nU mV) := congrArg (fun z => (MW cI cJ A sS kS oS aS z ik cA tp td fm tt vl wr bO sO nU mV)) hE
      have hP : va_P D vwCl (MW cI cJ A sS kS oS aS (okT (soonOk n (nI i) k) tS) ik cA tp td fm tt vl wr bO sO nU mV) H := Eq.mp (congrArg (fun z => va_P D vwCl z H) hW) hP
      have hD : va_D _ (MW cI cJ A sS kS oS aS (okT (soonOk n (nI i) k) tS) ik cA tp td fm tt vl wr bO sO nU mV) := Eq.mp (congrArg (fun z => va_D _ z) hW) hD
      exact mu_iret (MW cI cJ A sS kS oS aS (okT (soonOk n (nI i) k) tS) ik cA tp td fm tt vl wr bO sO nU mV) hx hb hr hlk hP hS rfl (⟨aS, congrArg (fun z => some (Value.int z)) (by simp [wantR, soonOk, okT, bump, put9, b2i, c5, c12, ei, i_lt, -Int32.not_le, -Int32.not_lt]), rfl⟩) dX4_want_35
    · replace c12 := b2i_n0 c12
      obtain ⟨j, hja, hjb, rfl⟩ := in_nat (a := 1) (b := 40) (by decide) c12 (by decide)
      have ej : cl (nI j) = j := cl_nI (by omega)
      refine lv_aload_n hx hb dX4_want_15 rfl (lv_at hl 0 rfl) ?_
      refine lv_iload_n hx hb dX4_want_16 rfl (lv_at hl 1 rfl) ?_
      refine lv_iconst (v := 5) hx hb dX4_want_17 rfl ?_
      refine ro_S (w := []) (rest := [.ref (A 0)]) S hK va_P0 (k_X4_spot i 5) gs_X4_45 hd_X4_spot ⟨Nat.le_of_ble_eq_true rfl, Nat.le_of_ble_eq_true rfl⟩ rfl hl.1 (lv_room (Nat.le_of_ble_eq_true rfl)) dX4_want_18 ⟨Nat.zero_le _, Nat.zero_le _⟩ ?_
      refine lv_iconst (v := 4) hx hb dX4_want_21 rfl ?_
      refine lv_iload_n hx hb dX4_want_22 rfl (lv_at hl 2 rfl) ?_
      have hIv : ∀ v, v ≤ 4 → Inv (upd sS (9 * i + 5 + 3) (nI v)) n := fun v hv => Inv_pv (f := i) (w := 5) (v := v) (b := 4) hI hv (by omega)
      refine mu_W (w := (MW cI cJ A sS kS oS aS tS ik cA tp td fm tt vl wr bO sO nU mV)) (rest := []) S hK hP hD hS (k_X4_mostBy n (9 * i + 5 + 3) 4 j hIv (by omega) (by omega) (by omega)) gv_X4_200 hd_X4_mostBy ⟨Nat.le_of_ble_eq_true rfl, Nat.le_of_ble_eq_true rfl⟩ 4 rfl rfl rfl rfl hl.1 (lv_room (Nat.le_of_ble_eq_true rfl)) dX4_want_23 ⟨Nat.zero_le _, Nat.zero_le _⟩ (fun ov w' H locs hp hP hD hS => ?_)
      obtain ⟨a9, rfl, rfl⟩ := hp
      refine W.eq (g2 := F0 m 26 ls [.int (mostB sS n j (9 * i + 5 + 3) (4 + 1))]) rfl ?_
      refine lv_goto (tgt := 35) hx hb dX4_want_26 rfl ?_
      have hE : tS = okT (soonOk n (nI i) (nI j)) tS := by simp [wantR, soonOk, okT, bump, put9, b2i, c5, c12, ei, ej, i_lt, -Int32.not_le, -Int32.not_lt]
      have hW : (MW cI cJ A sS kS oS a9 tS ik cA tp td fm tt vl wr bO sO nU mV) = (MW cI cJ A sS kS oS a9 (okT (soonOk n (nI i) (nI j)) tS) ik cA tp td fm tt vl wr bO sO nU mV) := congrArg (fun z => (MW cI cJ A sS kS oS a9 z ik cA tp td fm tt vl wr bO sO nU mV)) hE
      have hP : va_P D vwCl (MW cI cJ A sS kS oS a9 (okT (soonOk n (nI i) (nI j)) tS) ik cA tp td fm tt vl wr bO sO nU mV) H := Eq.mp (congrArg (fun z => va_P D vwCl z H) hW) hP
      have hD : va_D _ (MW cI cJ A sS kS oS a9 (okT (soonOk n (nI i) (nI j)) tS) ik cA tp td fm tt vl wr bO sO nU mV) := Eq.mp (congrArg (fun z => va_D _ z) hW) hD
      exact mu_iret (MW cI cJ A sS kS oS a9 (okT (soonOk n (nI i) (nI j)) tS) ik cA tp td fm tt vl wr bO sO nU mV) hx hb hr hlk hP hS rfl (⟨a9, congrArg (fun z => some (Value.int z)) (by simp [wantR, soonOk, okT, bump, put9, b2i, c5, c12, ei, ej, i_lt, -Int32.not_le, -Int32.not_lt]), rfl⟩) dX4_want_35

set_option maxHeartbeats 4000000 in
set_option maxRecDepth 100000 in
theorem k_X4_porter (n : Nat) (k : Int32) (hI : Inv sS n) : MU l D (tyA cI cJ cO) yX4_porter cX4_porter 6 ((some .int)) 10 218 [.ref (A 0), .int k] (MW cI cJ A sS kS oS aS tS ik cA tp td fm tt vl wr bO sO nU mV) (fun ov w' => ∃ aS' : Nat → Int32, ov = some (.int (porterR sS n k)) ∧ w' = (MW cI cJ A sS kS oS aS' (porterT sS tS n k) ik cA tp td fm tt vl wr bO sO nU mV)) := by
  refine MU.mk (by decide) (Nat.le_of_ble_eq_true rfl) ?_
  intro p e s m below meth c ls S hr hlk hP hK hD hS hl
  have S : CallFix p m c cX4_porter 6 s _ WL RX4 := S
  obtain ⟨hx, hb, hml, hown, hts⟩ := id S
  have hl : lv_has ls 6 [(0, .ref (A 0)), (1, .int k)] := hl
  have h8 : n ≤ 8 := hI.1
  have hI0 := hI
  refine lv_iload_n hx hb dX4_porter_0 rfl (lv_at hl 1 rfl) ?_
  refine ro_S (w := []) (rest := []) S hK va_P0 (k_X4_isSoon k) gs_X4_195 hd_X4_isSoon ⟨Nat.le_of_ble_eq_true rfl, Nat.le_of_ble_eq_true rfl⟩ rfl hl.1 (lv_room (Nat.le_of_ble_eq_true rfl)) dX4_porter_1 ⟨Nat.zero_le _, Nat.zero_le _⟩ ?_
  refine lv_if_ne (tgt := 14) hx hb dX4_porter_4 rfl (fun c4 => ?_) (fun c4 => ?_)
  · replace c4 := b2i_n0 c4
    obtain ⟨j, hja, hjb, rfl⟩ := in_nat (a := 1) (b := 40) (by decide) c4 (by decide)
    have ej : cl (nI j) = j := cl_nI (by omega)
    refine lv_iconst (v := (-1)) hx hb dX4_porter_14 rfl ?_
    refine w_i (z := (bestF (freeP sS) (porterV sS n j) (-1) 0).1) (by rw [bestF]) ?_
    refine lv_istore_n (lv' := [(2, .int ((bestF (freeP sS) (porterV sS n j) (-1) 0).1)), (0, .ref (A 0)), (1, .int (nI j))]) hx hb dX4_porter_15 rfl hl (by decide) rfl (fun ls hl => ?_)
    refine lv_iconst (v := (-1)) hx hb dX4_porter_16 rfl ?_
    refine w_i (z := (bestF (freeP sS) (porterV sS n j) (-1) 0).2) (by rw [bestF]) ?_
    refine lv_istore_n (lv' := [(3, .int ((bestF (freeP sS) (porterV sS n j) (-1) 0).2)), (2, .int ((bestF (freeP sS) (porterV sS n j) (-1) 0).1)), (0, .ref (A 0)), (1, .int (nI j))]) hx hb dX4_porter_17 rfl hl (by decide) rfl (fun ls hl => ?_)
    refine lv_iconst (v := 0) hx hb dX4_porter_18 rfl ?_
    refine lv_istore (lv' := [(4, .int 0), (3, .int ((bestF (freeP sS) (porterV sS n j) (-1) 0).2)), (2, .int ((bestF (freeP sS) (porterV sS n j) (-1) 0).1)), (0, .ref (A 0)), (1, .int (nI j))]) hx hb dX4_porter_19 hl (by decide) rfl (fun ls hl => ?_)
    refine w_loopH (pc := 21) (st := fun (x : Nat × (Nat → Int32)) => match x with | (i, a) => []) (μ := fun (x : Nat × (Nat → Int32)) => match x with | (i, a) => n - i) (I := fun (x : Nat × (Nat → Int32)) H locs ls => match x with | (i, a) => (i ≤ n) ∧ va_P D vwCl (MW cI cJ A sS kS oS a tS ik cA tp td fm tt vl wr bO sO nU mV) H ∧ va_D (fun z9 => z9 ∈ ((MW cI cJ A sS kS oS aS tS ik cA tp td fm tt vl wr bO sO nU mV)).map (fun z8 => z8.1)) (MW cI cJ A sS kS oS a tS ik cA tp td fm tt vl wr bO sO nU mV) ∧ va_S (fun z9 => z9 ∈ ((MW cI cJ A sS kS oS aS tS ik cA tp td fm tt vl wr bO sO nU mV)).map (fun z8 => z8.1)) s.heap H locs ∧ lv_has ls 6 [(0, .ref (A 0)), (1, .int (nI j)), (2, .int ((bestF (freeP sS) (porterV sS n j) (-1) i).1)), (3, .int ((bestF (freeP sS) (porterV sS n j) (-1) i).2)), (4, .int (nI i))]) ?_ (0, aS) ⟨Nat.zero_le _, hP, hD, hS, lv_sub hl [3, 4, 2, 1, 0] rfl⟩
    rintro ⟨i, a⟩ H locs ls ⟨hi, hP, hD, hS, hl⟩ ih21
    try dsimp only at ih21 ⊢
    refine lv_iload hx hb dX4_porter_21 (lv_at hl 4 rfl) ?_
    refine lv_aload_n hx hb dX4_porter_23 rfl (lv_at hl 0 rfl) ?_
    refine va_get (ci := 4) (v := .ref (A 1)) hx hb hts wx_X4 hown hK hP 0 rfl rfl 0 (by decide) (hts _ wf_X4_7) (fun _ h9 => h9) rfl dX4_porter_24 ?_
    refine lv_iconst (v := 1) hx hb dX4_porter_27 rfl ?_
    refine ia_ld hx hb hK hP 1 0 rfl rfl 1 (rfl) (by omega) (by decide) dX4_porter_28 ?_
    refine w_i (z := nI n) (hI.2.1) ?_
    refine lv_icmp_ge (tgt := 108) hx hb dX4_porter_29 rfl (fun c29 => ?_) (fun c29 => ?_)
    · replace c29 := nq_le (a := n) (b := i) (by omega) (by omega) c29
      obtain rfl : n = i := by omega
      refine lv_iload_n hx hb dX4_porter_108 rfl (lv_at hl 2 rfl) ?_
      refine lv_if_ge (tgt := 121) hx hb dX4_porter_109 rfl (fun c109 => ?_) (fun c109 => ?_)
      · refine lv_iload_n hx hb dX4_porter_121 rfl (lv_at hl 2 rfl) ?_
        have hE : tS = porterT sS tS n (nI j) := by simp [porterR, porterB, porterT, bump, put9, b2i, c4, c29, c109, ej, i_lt, -Int32.not_le, -Int32.not_lt]
        have hW : (MW cI cJ A sS kS oS a tS ik cA tp td fm tt vl wr bO sO nU mV) = (MW cI cJ A sS kS oS a (porterT sS tS n (nI j)) ik cA tp td fm tt vl wr bO sO nU mV) := congrArg (fun z => (MW cI cJ A sS kS oS a z ik cA tp td fm tt vl wr bO sO nU mV)) hE
        have hP : va_P D vwCl (MW cI cJ A sS kS oS a (porterT sS tS n (nI j)) ik cA tp td fm tt vl wr bO sO nU mV) H := Eq.mp (congrArg (fun z => va_P D vwCl z H) hW) hP
        have hD : va_D _ (MW cI cJ A sS kS oS a (porterT sS tS n (nI j)) ik cA tp td fm tt vl wr bO sO nU mV) := Eq.mp (congrArg (fun z => va_D _ z) hW) hD
        exact mu_iret (MW cI cJ A sS kS oS a (porterT sS tS n (nI j)) ik cA tp td fm tt vl wr bO sO nU mV) hx hb hr hlk hP hS rfl (⟨a, congrArg (fun z => some (Value.int z)) (by simp [porterR, porterB, porterT, bump, put9, b2i, c4, c29, c109, ej, i_lt, -Int32.not_le, -Int32.not_lt]), rfl⟩) dX4_porter_122
      · refine lv_aload_n hx hb dX4_porter_112 rfl (lv_at hl 0 rfl) ?_
        refine lv_ldc (v := (-1000000004)) hx hb hown (hts _ wq_X4_186) dX4_porter_113 ?_
        refine mu_W (w := (MW cI cJ A sS kS oS a tS ik cA tp td fm tt vl wr bO sO nU mV)) (rest := []) S hK hP hD hS (k_X4_finds 3 (-1000000004) (by decide) (by decide)) gv_X4_63 hd_X4_finds ⟨Nat.le_of_ble_eq_true rfl, Nat.le_of_ble_eq_true rfl⟩ 4 rfl rfl rfl rfl hl.1 (lv_room (Nat.le_of_ble_eq_true rfl)) dX4_porter_115 ⟨Nat.zero_le _, Nat.zero_le _⟩ (fun ov w' H locs hp hP hD hS => ?_)
        obtain ⟨rfl, rfl⟩ := hp
        refine W.eq (g2 := F0 m 118 ls [.int (-1000000004)]) rfl ?_
        refine lv_goto (tgt := 122) hx hb dX4_porter_118 rfl ?_
        have hE : upd tS 3 (tS 3 + 1) = porterT sS tS n (nI j) := by simp [porterR, porterB, porterT, bump, put9, b2i, c4, c29, c109, ej, i_lt, -Int32.not_le, -Int32.not_lt]
        have hW : (MW cI cJ A sS kS oS a (upd tS 3 (tS 3 + 1)) ik cA tp td fm tt vl wr bO sO nU mV) = (MW cI cJ A sS kS oS a (porterT sS tS n (nI j)) ik cA tp td fm tt vl wr bO sO nU mV) := congrArg (fun z => (MW cI cJ A sS kS oS a z ik cA tp td fm tt vl wr bO sO nU mV)) hE
        have hP : va_P D vwCl (MW cI cJ A sS kS oS a (porterT sS tS n (nI j)) ik cA tp td fm tt vl wr bO sO nU mV) H := Eq.mp (congrArg (fun z => va_P D vwCl z H) hW) hP
        have hD : va_D _ (MW cI cJ A sS kS oS a (porterT sS tS n (nI j)) ik cA tp td fm tt vl wr bO sO nU mV) := Eq.mp (congrArg (fun z => va_D _ z) hW) hD
        exact mu_iret (MW cI cJ A sS kS oS a (porterT sS tS n (nI j)) ik cA tp td fm tt vl wr bO sO nU mV) hx hb hr hlk hP hS rfl (⟨a, congrArg (fun z => some (Value.int z)) (by simp [porterR, porterB, porterT, bump, put9, b2i, c4, c29, c109, ej, i_lt, -Int32.not_le, -Int32.not_lt]), rfl⟩) dX4_porter_122
    · replace c29 := nq_nle (a := n) (b := i) (by omega) (by omega) c29
      refine lv_aload_n hx hb dX4_porter_32 rfl (lv_at hl 0 rfl) ?_
      refine lv_iload hx hb dX4_porter_33 (lv_at hl 4 rfl) ?_
      refine lv_bipush (v := 7) hx hb dX4_porter_35 rfl ?_
      refine ro_V (w := (MW cI cJ A sS kS oS a tS ik cA tp td fm tt vl wr bO sO nU mV)) (rest := []) S hK hP (k_X4_its i 7 (by omega) (by omega)) gv_X4_55 hd_X4_its ⟨Nat.le_of_ble_eq_true rfl, Nat.le_of_ble_eq_true rfl⟩ 4 rfl rfl rfl rfl hl.1 (lv_room (Nat.le_of_ble_eq_true rfl)) dX4_porter_37 ⟨Nat.zero_le _, Nat.zero_le _⟩ ?_
      refine lv_if_ne (tgt := 102) hx hb dX4_porter_40 rfl (fun c40 => ?_) (fun c40 => ?_)
      · rw [show bestF (freeP sS) (porterV sS n j) (-1) i = bestF (freeP sS) (porterV sS n j) (-1) (i + 1) from best_f (fun h9 => absurd (of_decide_eq_true h9) c40)] at hl
        refine lv_iinc (v := nI (i + 1)) (lv' := [(4, .int (nI (i + 1))), (0, .ref (A 0)), (1, .int (nI j)), (2, .int ((bestF (freeP sS) (porterV sS n j) (-1) (i + 1)).1)), (3, .int ((bestF (freeP sS) (porterV sS n j) (-1) (i + 1)).2))]) hx hb dX4_porter_102 hl (k := 4) rfl (nI_inc _) (by decide) rfl (fun ls hl => ?_)
        refine lv_goto (tgt := 21) hx hb dX4_porter_105 rfl ?_
        exact ih21 (i + 1, a) _ _ ls (by first | omega | (dsimp only; omega)) ⟨(by omega), hP, hD, hS, lv_sub hl [1, 2, 3, 4, 0] rfl⟩
      · refine lv_aload_n hx hb dX4_porter_43 rfl (lv_at hl 0 rfl) ?_
        refine va_get (ci := 4) (v := .ref (A 1)) hx hb hts wx_X4 hown hK hP 0 rfl rfl 0 (by decide) (hts _ wf_X4_7) (fun _ h9 => h9) rfl dX4_porter_44 ?_
        refine lv_iload hx hb dX4_porter_47 (lv_at hl 4 rfl) ?_
        refine lv_bipush (v := 7) hx hb dX4_porter_49 rfl ?_
        refine ro_S (w := []) (rest := [.ref (A 1)]) S hK va_P0 (k_X4_spot i 7) gs_X4_45 hd_X4_spot ⟨Nat.le_of_ble_eq_true rfl, Nat.le_of_ble_eq_true rfl⟩ rfl hl.1 (lv_room (Nat.le_of_ble_eq_true rfl)) dX4_porter_51 ⟨Nat.zero_le _, Nat.zero_le _⟩ ?_
        refine lv_iconst (v := 1) hx hb dX4_porter_54 rfl ?_
        refine ia_st hx hb hK hP hD hS 1 0 rfl rfl (9 * i + 7 + 3) (rfl) (by omega) (by decide) dX4_porter_55 (fun H locs hP hD hS => ?_)
        have hP : va_P D vwCl (MW cI cJ A (upd sS (9 * i + 7 + 3) 1) kS oS a tS ik cA tp td fm tt vl wr bO sO nU mV) H := hP
        have hD : va_D _ (MW cI cJ A (upd sS (9 * i + 7 + 3) 1) kS oS a tS ik cA tp td fm tt vl wr bO sO nU mV) := hD
        refine lv_aload_n hx hb dX4_porter_56 rfl (lv_at hl 0 rfl) ?_
        refine lv_iload_n hx hb dX4_porter_57 rfl (lv_at hl 1 rfl) ?_
        have hI : Inv (upd sS (9 * i + 7 + 3) 1) n := Inv_pv (f := i) (w := 7) (v := 1) (b := 1) hI (by omega) (by omega)
        refine mu_W (w := (MW cI cJ A (upd sS (9 * i + 7 + 3) 1) kS oS a tS ik cA tp td fm tt vl wr bO sO nU mV)) (rest := []) S hK hP hD hS (k_X4_manyBehind n j hI (by omega)) gv_X4_190 hd_X4_manyBehind ⟨Nat.le_of_ble_eq_true rfl, Nat.le_of_ble_eq_true rfl⟩ 4 rfl rfl rfl rfl hl.1 (lv_room (Nat.le_of_ble_eq_true rfl)) dX4_porter_58 ⟨Nat.zero_le _, Nat.zero_le _⟩ (fun ov w' H locs hp hP hD hS => ?_)
        obtain ⟨rfl, rfl⟩ := hp
        refine W.eq (g2 := F0 m 61 ls [.int (nI (contN (hoursF (upd sS (9 * i + 7 + 3) 1) n j) n))]) rfl ?_
        refine w_i (z := porterV sS n j i) (rfl) ?_
        refine lv_istore (lv' := [(5, .int (porterV sS n j i)), (0, .ref (A 0)), (1, .int (nI j)), (2, .int ((bestF (freeP sS) (porterV sS n j) (-1) i).1)), (3, .int ((bestF (freeP sS) (porterV sS n j) (-1) i).2)), (4, .int (nI i))]) hx hb dX4_porter_61 hl (by decide) rfl (fun ls hl => ?_)
        refine lv_aload_n hx hb dX4_porter_63 rfl (lv_at hl 1 rfl) ?_
        refine va_get (ci := 4) (v := .ref (A 1)) hx hb hts wx_X4 hown hK hP 0 rfl rfl 0 (by decide) (hts _ wf_X4_7) (fun _ h9 => h9) rfl dX4_porter_64 ?_
        refine lv_iload hx hb dX4_porter_67 (lv_at hl 5 rfl) ?_
        refine lv_bipush (v := 7) hx hb dX4_porter_69 rfl ?_
        refine ro_S (w := []) (rest := [.ref (A 1)]) S hK va_P0 (k_X4_spot i 7) gs_X4_45 hd_X4_spot ⟨Nat.le_of_ble_eq_true rfl, Nat.le_of_ble_eq_true rfl⟩ rfl hl.1 (lv_room (Nat.le_of_ble_eq_true rfl)) dX4_porter_71 ⟨Nat.zero_le _, Nat.zero_le _⟩ ?_
        refine lv_iconst (v := 0) hx hb dX4_porter_74 rfl ?_
        refine ia_st hx hb hK hP hD hS 1 0 rfl rfl (9 * i + 7 + 3) (rfl) (by omega) (by decide) dX4_porter_75 (fun H locs hP hD hS => ?_)
        have hP : va_P D vwCl (MW cI cJ A (upd (upd sS (9 * i + 7 + 3) 1) (9 * i + 7 + 3) 0) kS oS (upd sS (9 * i + 7 + 3) 1) tS ik cA tp td fm tt vl wr bO sO nU mV) H := hP
        have hD : va_D _ (MW cI cJ A (upd (upd sS (9 * i + 7 + 3) 1) (9 * i + 7 + 3) 0) kS oS (upd sS (9 * i + 7 + 3) 1) tS ik cA tp td fm tt vl wr bO sO nU mV) := hD
        have hE : upd (upd sS (9 * i + 7 + 3) 1) (9 * i + 7 + 3) 0 = sS := by have h9 := upd_back sS (9 * i + 7 + 3) 1; rwa [show sS (9 * i + 7 + 3) = 0 from c40] at h9
        have hW : (MW cI cJ A (upd (upd sS (9 * i + 7 + 3) 1) (9 * i + 7 + 3) 0) kS oS (upd sS (9 * i + 7 + 3) 1) tS ik cA tp td fm tt vl wr bO sO nU mV) = (MW cI cJ A sS kS oS (upd sS (9 * i + 7 + 3) 1) tS ik cA tp td fm tt vl wr bO sO nU mV) := congrArg (fun z => (MW cI cJ A z kS oS (upd sS (9 * i + 7 + 3) 1) tS ik cA tp td fm tt vl wr bO sO nU mV)) hE
        have hP : va_P D vwCl (MW cI cJ A sS kS oS (upd sS (9 * i + 7 + 3) 1) tS ik cA tp td fm tt vl wr bO sO nU mV) H := Eq.mp (congrArg (fun z => va_P D vwCl z H) hW) hP
        have hD : va_D _ (MW cI cJ A sS kS oS (upd sS (9 * i + 7 + 3) 1) tS ik cA tp td fm tt vl wr bO sO nU mV) := Eq.mp (congrArg (fun z => va_D _ z) hW) hD
        have hI := hI0
        refine lv_iload hx hb dX4_porter_76 (lv_at hl 0 rfl) ?_
        refine lv_iload_n hx hb dX4_porter_78 rfl (lv_at hl 4 rfl) ?_
        refine lv_icmp_le (tgt := 87) hx hb dX4_porter_79 rfl (fun c79 => ?_) (fun c79 => ?_)
        · refine lv_iload_n hx hb dX4_porter_87 rfl (lv_at hl 3 rfl) ?_
          refine w_i (z := (bestF (freeP sS) (porterV sS n j) (-1) (i + 1)).1) (congrArg Prod.fst (best_f (fun _ => c79))) ?_
          refine lv_istore_n (lv' := [(2, .int ((bestF (freeP sS) (porterV sS n j) (-1) (i + 1)).1)), (5, .int (porterV sS n j i)), (0, .ref (A 0)), (1, .int (nI j)), (3, .int ((bestF (freeP sS) (porterV sS n j) (-1) i).2)), (4, .int (nI i))]) hx hb dX4_porter_88 rfl hl (by decide) rfl (fun ls hl => ?_)
          refine lv_iload hx hb dX4_porter_89 (lv_at hl 1 rfl) ?_
          refine lv_iload_n hx hb dX4_porter_91 rfl (lv_at hl 4 rfl) ?_
          refine lv_icmp_le (tgt := 100) hx hb dX4_porter_92 rfl (fun c92 => ?_) (fun c92 => ?_)
          · refine lv_iload_n hx hb dX4_porter_100 rfl (lv_at hl 4 rfl) ?_
            refine w_i (z := (bestF (freeP sS) (porterV sS n j) (-1) (i + 1)).2) (congrArg Prod.snd (best_f (fun _ => c79))) ?_
            refine lv_istore_n (lv' := [(3, .int ((bestF (freeP sS) (porterV sS n j) (-1) (i + 1)).2)), (2, .int ((bestF (freeP sS) (porterV sS n j) (-1) (i + 1)).1)), (5, .int (porterV sS n j i)), (0, .ref (A 0)), (1, .int (nI j)), (4, .int (nI i))]) hx hb dX4_porter_101 rfl hl (by decide) rfl (fun ls hl => ?_)
            refine lv_iinc (v := nI (i + 1)) (lv' := [(4, .int (nI (i + 1))), (3, .int ((bestF (freeP sS) (porterV sS n j) (-1) (i + 1)).2)), (2, .int ((bestF (freeP sS) (porterV sS n j) (-1) (i + 1)).1)), (5, .int (porterV sS n j i)), (0, .ref (A 0)), (1, .int (nI j))]) hx hb dX4_porter_102 hl (k := 5) rfl (nI_inc _) (by decide) rfl (fun ls hl => ?_)
            refine lv_goto (tgt := 21) hx hb dX4_porter_105 rfl ?_
            exact ih21 (i + 1, upd sS (9 * i + 7 + 3) 1) _ _ ls (by first | omega | (dsimp only; omega)) ⟨(by omega), hP, hD, hS, lv_sub hl [4, 5, 2, 1, 0] rfl⟩
          · exact absurd c79 c92
        · refine lv_iload hx hb dX4_porter_82 (lv_at hl 5 rfl) ?_
          refine lv_goto (tgt := 88) hx hb dX4_porter_84 rfl ?_
          refine w_i (z := (bestF (freeP sS) (porterV sS n j) (-1) (i + 1)).1) (congrArg Prod.fst (best_t (decide_eq_true c40) c79)) ?_
          refine lv_istore_n (lv' := [(2, .int ((bestF (freeP sS) (porterV sS n j) (-1) (i + 1)).1)), (5, .int (porterV sS n j i)), (0, .ref (A 0)), (1, .int (nI j)), (3, .int ((bestF (freeP sS) (porterV sS n j) (-1) i).2)), (4, .int (nI i))]) hx hb dX4_porter_88 rfl hl (by decide) rfl (fun ls hl => ?_)
          refine lv_iload hx hb dX4_porter_89 (lv_at hl 1 rfl) ?_
          refine lv_iload_n hx hb dX4_porter_91 rfl (lv_at hl 4 rfl) ?_
          refine lv_icmp_le (tgt := 100) hx hb dX4_porter_92 rfl (fun c92 => ?_) (fun c92 => ?_)
          · exact absurd c92 c79
          · refine lv_iload hx hb dX4_porter_95 (lv_at hl 1 rfl) ?_
            refine lv_goto (tgt := 101) hx hb dX4_porter_97 rfl ?_
            refine w_i (z := (bestF (freeP sS) (porterV sS n j) (-1) (i + 1)).2) (congrArg Prod.snd (best_t (decide_eq_true c40) c79)) ?_
            refine lv_istore_n (lv' := [(3, .int ((bestF (freeP sS) (porterV sS n j) (-1) (i + 1)).2)), (2, .int ((bestF (freeP sS) (porterV sS n j) (-1) (i + 1)).1)), (5, .int (porterV sS n j i)), (0, .ref (A 0)), (1, .int (nI j)), (4, .int (nI i))]) hx hb dX4_porter_101 rfl hl (by decide) rfl (fun ls hl => ?_)
            refine lv_iinc (v := nI (i + 1)) (lv' := [(4, .int (nI (i + 1))), (3, .int ((bestF (freeP sS) (porterV sS n j) (-1) (i + 1)).2)), (2, .int ((bestF (freeP sS) (porterV sS n j) (-1) (i + 1)).1)), (5, .int (porterV sS n j i)), (0, .ref (A 0)), (1, .int (nI j))]) hx hb dX4_porter_102 hl (k := 5) rfl (nI_inc _) (by decide) rfl (fun ls hl => ?_)
            refine lv_goto (tgt := 21) hx hb dX4_porter_105 rfl ?_
            exact ih21 (i + 1, upd sS (9 * i + 7 + 3) 1) _ _ ls (by first | omega | (dsimp only; omega)) ⟨(by omega), hP, hD, hS, lv_sub hl [4, 5, 2, 1, 0] rfl⟩
  · replace c4 := (b2i_0 _).mp c4
    refine lv_aload_n hx hb dX4_porter_7 rfl (lv_at hl 0 rfl) ?_
    refine lv_ldc (v := (-1000000001)) hx hb hown (hts _ wq_X4_44) dX4_porter_8 ?_
    refine mu_W (w := (MW cI cJ A sS kS oS aS tS ik cA tp td fm tt vl wr bO sO nU mV)) (rest := []) S hK hP hD hS (k_X4_finds 0 (-1000000001) (by decide) (by decide)) gv_X4_63 hd_X4_finds ⟨Nat.le_of_ble_eq_true rfl, Nat.le_of_ble_eq_true rfl⟩ 4 rfl rfl rfl rfl hl.1 (lv_room (Nat.le_of_ble_eq_true rfl)) dX4_porter_10 ⟨Nat.zero_le _, Nat.zero_le _⟩ (fun ov w' H locs hp hP hD hS => ?_)
    obtain ⟨rfl, rfl⟩ := hp
    refine W.eq (g2 := F0 m 13 ls [.int (-1000000001)]) rfl ?_
    have hE : upd tS 0 (tS 0 + 1) = porterT sS tS n k := by simp [porterR, porterB, porterT, bump, put9, b2i, c4, i_lt, -Int32.not_le, -Int32.not_lt]
    have hW : (MW cI cJ A sS kS oS aS (upd tS 0 (tS 0 + 1)) ik cA tp td fm tt vl wr bO sO nU mV) = (MW cI cJ A sS kS oS aS (porterT sS tS n k) ik cA tp td fm tt vl wr bO sO nU mV) := congrArg (fun z => (MW cI cJ A sS kS oS aS z ik cA tp td fm tt vl wr bO sO nU mV)) hE
    have hP : va_P D vwCl (MW cI cJ A sS kS oS aS (porterT sS tS n k) ik cA tp td fm tt vl wr bO sO nU mV) H := Eq.mp (congrArg (fun z => va_P D vwCl z H) hW) hP
    have hD : va_D _ (MW cI cJ A sS kS oS aS (porterT sS tS n k) ik cA tp td fm tt vl wr bO sO nU mV) := Eq.mp (congrArg (fun z => va_D _ z) hW) hD
    exact mu_iret (MW cI cJ A sS kS oS aS (porterT sS tS n k) ik cA tp td fm tt vl wr bO sO nU mV) hx hb hr hlk hP hS rfl (⟨aS, congrArg (fun z => some (Value.int z)) (by simp [porterR, porterB, porterT, bump, put9, b2i, c4, i_lt, -Int32.not_le, -Int32.not_lt]), rfl⟩) dX4_porter_13

set_option maxHeartbeats 4000000 in
set_option maxRecDepth 100000 in
theorem k_X4_kind (n : Nat) (f : Int32) (k : Int32) (hI : Inv sS n) : MU l D (tyA cI cJ cO) yX4_kind cX4_kind 8 ((some .int)) 10 219 [.ref (A 0), .int f, .int k] (MW cI cJ A sS kS oS aS tS ik cA tp td fm tt vl wr bO sO nU mV) (fun ov w' => ∃ aS' : Nat → Int32, ov = some (.int (kindR sS n f k)) ∧ w' = (MW cI cJ A sS kS oS aS' (okT (kindOk n f k) tS) ik cA tp td fm tt vl wr bO sO nU mV)) := by
  refine MU.mk (by decide) (Nat.le_of_ble_eq_true rfl) ?_
  intro p e s m below meth c ls S hr hlk hP hK hD hS hl
  have S : CallFix p m c cX4_kind 8 s _ WL RX4 := S
  obtain ⟨hx, hb, hml, hown, hts⟩ := id S
  have hl : lv_has ls 8 [(0, .ref (A 0)), (1, .int f), (2, .int k)] := hl
  have h8 : n ≤ 8 := hI.1
  have hI0 := hI
  refine lv_aload_n hx hb dX4_kind_0 rfl (lv_at hl 0 rfl) ?_
  refine lv_iload_n hx hb dX4_kind_1 rfl (lv_at hl 1 rfl) ?_
  refine ro_V (w := (MW cI cJ A sS kS oS aS tS ik cA tp td fm tt vl wr bO sO nU mV)) (rest := []) S hK hP (k_X4_isFigure n f hI) gv_X4_128 hd_X4_isFigure ⟨Nat.le_of_ble_eq_true rfl, Nat.le_of_ble_eq_true rfl⟩ 4 rfl rfl rfl rfl hl.1 (lv_room (Nat.le_of_ble_eq_true rfl)) dX4_kind_2 ⟨Nat.zero_le _, Nat.zero_le _⟩ ?_
  refine lv_if_eq (tgt := 20) hx hb dX4_kind_5 rfl (fun c5 => ?_) (fun c5 => ?_)
  · replace c5 := (b2i_0 _).mp c5
    refine lv_aload_n hx hb dX4_kind_20 rfl (lv_at hl 0 rfl) ?_
    refine lv_ldc (v := (-1000000001)) hx hb hown (hts _ wq_X4_44) dX4_kind_21 ?_
    refine mu_W (w := (MW cI cJ A sS kS oS aS tS ik cA tp td fm tt vl wr bO sO nU mV)) (rest := []) S hK hP hD hS (k_X4_finds 0 (-1000000001) (by decide) (by decide)) gv_X4_63 hd_X4_finds ⟨Nat.le_of_ble_eq_true rfl, Nat.le_of_ble_eq_true rfl⟩ 4 rfl rfl rfl rfl hl.1 (lv_room (Nat.le_of_ble_eq_true rfl)) dX4_kind_23 ⟨Nat.zero_le _, Nat.zero_le _⟩ (fun ov w' H locs hp hP hD hS => ?_)
    obtain ⟨rfl, rfl⟩ := hp
    refine W.eq (g2 := F0 m 26 ls [.int (-1000000001)]) rfl ?_
    have hE : upd tS 0 (tS 0 + 1) = okT (kindOk n f k) tS := by simp [kindR, kindOk, okT, bump, put9, b2i, c5, i_lt, -Int32.not_le, -Int32.not_lt]
    have hW : (MW cI cJ A sS kS oS aS (upd tS 0 (tS 0 + 1)) ik cA tp td fm tt vl wr bO sO nU mV) = (MW cI cJ A sS kS oS aS (okT (kindOk n f k) tS) ik cA tp td fm tt vl wr bO sO nU mV) := congrArg (fun z => (MW cI cJ A sS kS oS aS z ik cA tp td fm tt vl wr bO sO nU mV)) hE
    have hP : va_P D vwCl (MW cI cJ A sS kS oS aS (okT (kindOk n f k) tS) ik cA tp td fm tt vl wr bO sO nU mV) H := Eq.mp (congrArg (fun z => va_P D vwCl z H) hW) hP
    have hD : va_D _ (MW cI cJ A sS kS oS aS (okT (kindOk n f k) tS) ik cA tp td fm tt vl wr bO sO nU mV) := Eq.mp (congrArg (fun z => va_D _ z) hW) hD
    exact mu_iret (MW cI cJ A sS kS oS aS (okT (kindOk n f k) tS) ik cA tp td fm tt vl wr bO sO nU mV) hx hb hr hlk hP hS rfl (⟨aS, congrArg (fun z => some (Value.int z)) (by simp [kindR, kindOk, okT, bump, put9, b2i, c5, i_lt, -Int32.not_le, -Int32.not_lt]), rfl⟩) dX4_kind_26
  · replace c5 := b2i_n0 c5
    obtain ⟨i0, hi0, rfl⟩ := fig_in hI.1 c5
    have h8 := hI.1
    have ei0 : cl (nI i0) = i0 := cl_nI (by omega)
    refine lv_iload_n hx hb dX4_kind_8 rfl (lv_at hl 2 rfl) ?_
    refine lv_i2l hx hb dX4_kind_9 rfl ?_
    refine lv_lconst (v := 1) hx hb dX4_kind_10 rfl ?_
    refine lv_ldc2 (v := 60) hx hb hown (hts _ wq_X4_198) dX4_kind_11 ?_
    refine ro_S (w := []) (rest := []) S hK va_P0 (k_X4_inI k 1 60 _ _ (by decide) (by decide)) gs_X4_49 hd_X4_in ⟨Nat.le_of_ble_eq_true rfl, Nat.le_of_ble_eq_true rfl⟩ rfl hl.1 (lv_room (Nat.le_of_ble_eq_true rfl)) dX4_kind_14 ⟨Nat.zero_le _, Nat.zero_le _⟩ ?_
    refine lv_if_ne (tgt := 27) hx hb dX4_kind_17 rfl (fun c17 => ?_) (fun c17 => ?_)
    · replace c17 := b2i_n0 c17
      obtain ⟨j, hja, hjb, rfl⟩ := in_nat (a := 1) (b := 60) (by decide) c17 (by decide)
      have ej : cl (nI j) = j := cl_nI (by omega)
      refine lv_aload_n hx hb dX4_kind_27 rfl (lv_at hl 0 rfl) ?_
      refine lv_iload_n hx hb dX4_kind_28 rfl (lv_at hl 1 rfl) ?_
      refine lv_iconst (v := 0) hx hb dX4_kind_29 rfl ?_
      refine ro_V (w := (MW cI cJ A sS kS oS aS tS ik cA tp td fm tt vl wr bO sO nU mV)) (rest := []) S hK hP (k_X4_its i0 0 (by omega) (by omega)) gv_X4_55 hd_X4_its ⟨Nat.le_of_ble_eq_true rfl, Nat.le_of_ble_eq_true rfl⟩ 4 rfl rfl rfl rfl hl.1 (lv_room (Nat.le_of_ble_eq_true rfl)) dX4_kind_30 ⟨Nat.zero_le _, Nat.zero_le _⟩ ?_
      refine lv_istore_n (lv' := [(3, .int (its sS i0 0)), (0, .ref (A 0)), (1, .int (nI i0)), (2, .int (nI j))]) hx hb dX4_kind_33 rfl hl (by decide) rfl (fun ls hl => ?_)
      refine lv_iconst (v := 0) hx hb dX4_kind_34 rfl ?_
      refine w_i (z := (bestF yesP (kindV sS n i0 j) 0 0).1) (by rw [bestF]) ?_
      refine lv_istore (lv' := [(4, .int ((bestF yesP (kindV sS n i0 j) 0 0).1)), (3, .int (its sS i0 0)), (0, .ref (A 0)), (1, .int (nI i0)), (2, .int (nI j))]) hx hb dX4_kind_35 hl (by decide) rfl (fun ls hl => ?_)
      refine lv_iconst (v := (-1)) hx hb dX4_kind_37 rfl ?_
      refine w_i (z := (bestF yesP (kindV sS n i0 j) 0 0).2) (by rw [bestF]) ?_
      refine lv_istore (lv' := [(5, .int ((bestF yesP (kindV sS n i0 j) 0 0).2)), (4, .int ((bestF yesP (kindV sS n i0 j) 0 0).1)), (3, .int (its sS i0 0)), (0, .ref (A 0)), (1, .int (nI i0)), (2, .int (nI j))]) hx hb dX4_kind_38 hl (by decide) rfl (fun ls hl => ?_)
      refine lv_iconst (v := 0) hx hb dX4_kind_40 rfl ?_
      have hE : sS = upd sS (9 * i0 + 0 + 3) (sS (9 * i0 + 0 + 3)) := upd_same _ _
      have hW : (MW cI cJ A sS kS oS aS tS ik cA tp td fm tt vl wr bO sO nU mV) = (MW cI cJ A (upd sS (9 * i0 + 0 + 3) (sS (9 * i0 + 0 + 3))) kS oS aS tS ik cA tp td fm tt vl wr bO sO nU mV) := congrArg (fun z => (MW cI cJ A z kS oS aS tS ik cA tp td fm tt vl wr bO sO nU mV)) hE
      have hP : va_P D vwCl (MW cI cJ A (upd sS (9 * i0 + 0 + 3) (sS (9 * i0 + 0 + 3))) kS oS aS tS ik cA tp td fm tt vl wr bO sO nU mV) s.heap := Eq.mp (congrArg (fun z => va_P D vwCl z s.heap) hW) hP
      have hD : va_D _ (MW cI cJ A (upd sS (9 * i0 + 0 + 3) (sS (9 * i0 + 0 + 3))) kS oS aS tS ik cA tp td fm tt vl wr bO sO nU mV) := Eq.mp (congrArg (fun z => va_D _ z) hW) hD
      refine lv_istore (lv' := [(6, .int 0), (5, .int ((bestF yesP (kindV sS n i0 j) 0 0).2)), (4, .int ((bestF yesP (kindV sS n i0 j) 0 0).1)), (3, .int (its sS i0 0)), (0, .ref (A 0)), (1, .int (nI i0)), (2, .int (nI j))]) hx hb dX4_kind_41 hl (by decide) rfl (fun ls hl => ?_)
      refine w_loopH (pc := 43) (st := fun (x : Nat × Int32 × (Nat → Int32)) => match x with | (i, x, a) => []) (μ := fun (x : Nat × Int32 × (Nat → Int32)) => match x with | (i, x, a) => 6 - i) (I := fun (x : Nat × Int32 × (Nat → Int32)) H locs ls => match x with | (i, x, a) => (i ≤ 6) ∧ va_P D vwCl (MW cI cJ A (upd sS (9 * i0 + 0 + 3) x) kS oS a tS ik cA tp td fm tt vl wr bO sO nU mV) H ∧ va_D (fun z9 => z9 ∈ ((MW cI cJ A sS kS oS aS tS ik cA tp td fm tt vl wr bO sO nU mV)).map (fun z8 => z8.1)) (MW cI cJ A (upd sS (9 * i0 + 0 + 3) x) kS oS a tS ik cA tp td fm tt vl wr bO sO nU mV) ∧ va_S (fun z9 => z9 ∈ ((MW cI cJ A sS kS oS aS tS ik cA tp td fm tt vl wr bO sO nU mV)).map (fun z8 => z8.1)) s.heap H locs ∧ lv_has ls 8 [(0, .ref (A 0)), (1, .int (nI i0)), (2, .int (nI j)), (3, .int (its sS i0 0)), (4, .int ((bestF yesP (kindV sS n i0 j) 0 i).1)), (5, .int ((bestF yesP (kindV sS n i0 j) 0 i).2)), (6, .int (nI i))]) ?_ (0, sS (9 * i0 + 0 + 3), aS) ⟨Nat.zero_le _, hP, hD, hS, lv_sub hl [4, 5, 6, 3, 2, 1, 0] rfl⟩
      rintro ⟨i, x, a⟩ H locs ls ⟨hi, hP, hD, hS, hl⟩ ih43
      try dsimp only at ih43 ⊢
      refine lv_iload hx hb dX4_kind_43 (lv_at hl 6 rfl) ?_
      refine lv_iconst (v := 5) hx hb dX4_kind_45 rfl ?_
      refine lv_icmp_gt (tgt := 112) hx hb dX4_kind_46 rfl (fun c46 => ?_) (fun c46 => ?_)
      · replace c46 := nq_lt (a := 5) (b := i) (by omega) (by omega) c46
        refine lv_aload_n hx hb dX4_kind_112 rfl (lv_at hl 0 rfl) ?_
        refine va_get (ci := 4) (v := .ref (A 1)) hx hb hts wx_X4 hown hK hP 0 rfl rfl 0 (by decide) (hts _ wf_X4_7) (fun _ h9 => h9) rfl dX4_kind_113 ?_
        refine lv_iload_n hx hb dX4_kind_116 rfl (lv_at hl 1 rfl) ?_
        refine lv_iconst (v := 0) hx hb dX4_kind_117 rfl ?_
        refine ro_S (w := []) (rest := [.ref (A 1)]) S hK va_P0 (k_X4_spot i0 0) gs_X4_45 hd_X4_spot ⟨Nat.le_of_ble_eq_true rfl, Nat.le_of_ble_eq_true rfl⟩ rfl hl.1 (lv_room (Nat.le_of_ble_eq_true rfl)) dX4_kind_118 ⟨Nat.zero_le _, Nat.zero_le _⟩ ?_
        refine lv_iload_n hx hb dX4_kind_121 rfl (lv_at hl 3 rfl) ?_
        refine ia_st hx hb hK hP hD hS 1 0 rfl rfl (9 * i0 + 0 + 3) (rfl) (by omega) (by decide) dX4_kind_122 (fun H locs hP hD hS => ?_)
        have hP : va_P D vwCl (MW cI cJ A (upd (upd sS (9 * i0 + 0 + 3) x) (9 * i0 + 0 + 3) (its sS i0 0)) kS oS a tS ik cA tp td fm tt vl wr bO sO nU mV) H := hP
        have hD : va_D _ (MW cI cJ A (upd (upd sS (9 * i0 + 0 + 3) x) (9 * i0 + 0 + 3) (its sS i0 0)) kS oS a tS ik cA tp td fm tt vl wr bO sO nU mV) := hD
        have hE : upd (upd sS (9 * i0 + 0 + 3) x) (9 * i0 + 0 + 3) (its sS i0 0) = sS := upd_back _ _ _
        have hW : (MW cI cJ A (upd (upd sS (9 * i0 + 0 + 3) x) (9 * i0 + 0 + 3) (its sS i0 0)) kS oS a tS ik cA tp td fm tt vl wr bO sO nU mV) = (MW cI cJ A sS kS oS a tS ik cA tp td fm tt vl wr bO sO nU mV) := congrArg (fun z => (MW cI cJ A z kS oS a tS ik cA tp td fm tt vl wr bO sO nU mV)) hE
        have hP : va_P D vwCl (MW cI cJ A sS kS oS a tS ik cA tp td fm tt vl wr bO sO nU mV) H := Eq.mp (congrArg (fun z => va_P D vwCl z H) hW) hP
        have hD : va_D _ (MW cI cJ A sS kS oS a tS ik cA tp td fm tt vl wr bO sO nU mV) := Eq.mp (congrArg (fun z => va_D _ z) hW) hD
        obtain rfl : i = 6 := by omega
        refine lv_iload hx hb dX4_kind_123 (lv_at hl 4 rfl) ?_
        have hE : tS = okT (kindOk n (nI i0) (nI j)) tS := by simp [kindR, kindOk, okT, bump, put9, b2i, c5, c17, c46, ei0, ej, i_lt, -Int32.not_le, -Int32.not_lt]
        have hW : (MW cI cJ A sS kS oS a tS ik cA tp td fm tt vl wr bO sO nU mV) = (MW cI cJ A sS kS oS a (okT (kindOk n (nI i0) (nI j)) tS) ik cA tp td fm tt vl wr bO sO nU mV) := congrArg (fun z => (MW cI cJ A sS kS oS a z ik cA tp td fm tt vl wr bO sO nU mV)) hE
        have hP : va_P D vwCl (MW cI cJ A sS kS oS a (okT (kindOk n (nI i0) (nI j)) tS) ik cA tp td fm tt vl wr bO sO nU mV) H := Eq.mp (congrArg (fun z => va_P D vwCl z H) hW) hP
        have hD : va_D _ (MW cI cJ A sS kS oS a (okT (kindOk n (nI i0) (nI j)) tS) ik cA tp td fm tt vl wr bO sO nU mV) := Eq.mp (congrArg (fun z => va_D _ z) hW) hD
        exact mu_iret (MW cI cJ A sS kS oS a (okT (kindOk n (nI i0) (nI j)) tS) ik cA tp td fm tt vl wr bO sO nU mV) hx hb hr hlk hP hS rfl (⟨a, congrArg (fun z => some (Value.int z)) (by simp [kindR, kindOk, okT, bump, put9, b2i, c5, c17, c46, ei0, ej, i_lt, -Int32.not_le, -Int32.not_lt]), rfl⟩) dX4_kind_125
      · replace c46 := nq_nlt (a := 5) (b := i) (by omega) (by omega) c46
        refine lv_aload_n hx hb dX4_kind_49 rfl (lv_at hl 0 rfl) ?_
        refine va_get (ci := 4) (v := .ref (A 1)) hx hb hts wx_X4 hown hK hP 0 rfl rfl 0 (by decide) (hts _ wf_X4_7) (fun _ h9 => h9) rfl dX4_kind_50 ?_
        refine lv_iload_n hx hb dX4_kind_53 rfl (lv_at hl 1 rfl) ?_
        refine lv_iconst (v := 0) hx hb dX4_kind_54 rfl ?_
        refine ro_S (w := []) (rest := [.ref (A 1)]) S hK va_P0 (k_X4_spot i0 0) gs_X4_45 hd_X4_spot ⟨Nat.le_of_ble_eq_true rfl, Nat.le_of_ble_eq_true rfl⟩ rfl hl.1 (lv_room (Nat.le_of_ble_eq_true rfl)) dX4_kind_55 ⟨Nat.zero_le _, Nat.zero_le _⟩ ?_
        refine lv_iload hx hb dX4_kind_58 (lv_at hl 6 rfl) ?_
        refine ia_st hx hb hK hP hD hS 1 0 rfl rfl (9 * i0 + 0 + 3) (rfl) (by omega) (by decide) dX4_kind_60 (fun H locs hP hD hS => ?_)
        have hP : va_P D vwCl (MW cI cJ A (upd (upd sS (9 * i0 + 0 + 3) x) (9 * i0 + 0 + 3) (nI i)) kS oS a tS ik cA tp td fm tt vl wr bO sO nU mV) H := hP
        have hD : va_D _ (MW cI cJ A (upd (upd sS (9 * i0 + 0 + 3) x) (9 * i0 + 0 + 3) (nI i)) kS oS a tS ik cA tp td fm tt vl wr bO sO nU mV) := hD
        have hE : upd (upd sS (9 * i0 + 0 + 3) x) (9 * i0 + 0 + 3) (nI i) = upd sS (9 * i0 + 0 + 3) (nI i) := upd_upd _ _ _ _
        have hW : (MW cI cJ A (upd (upd sS (9 * i0 + 0 + 3) x) (9 * i0 + 0 + 3) (nI i)) kS oS a tS ik cA tp td fm tt vl wr bO sO nU mV) = (MW cI cJ A (upd sS (9 * i0 + 0 + 3) (nI i)) kS oS a tS ik cA tp td fm tt vl wr bO sO nU mV) := congrArg (fun z => (MW cI cJ A z kS oS a tS ik cA tp td fm tt vl wr bO sO nU mV)) hE
        have hP : va_P D vwCl (MW cI cJ A (upd sS (9 * i0 + 0 + 3) (nI i)) kS oS a tS ik cA tp td fm tt vl wr bO sO nU mV) H := Eq.mp (congrArg (fun z => va_P D vwCl z H) hW) hP
        have hD : va_D _ (MW cI cJ A (upd sS (9 * i0 + 0 + 3) (nI i)) kS oS a tS ik cA tp td fm tt vl wr bO sO nU mV) := Eq.mp (congrArg (fun z => va_D _ z) hW) hD
        have hI : Inv (upd sS (9 * i0 + 0 + 3) (nI i)) n := Inv_pv (f := i0) (w := 0) (v := i) (b := 5) hI0 (by omega) (by omega)
        refine lv_aload_n hx hb dX4_kind_61 rfl (lv_at hl 0 rfl) ?_
        refine lv_iload_n hx hb dX4_kind_62 rfl (lv_at hl 1 rfl) ?_
        refine lv_bipush (v := 8) hx hb dX4_kind_63 rfl ?_
        refine ro_S (w := []) (rest := [.ref (A 0)]) S hK va_P0 (k_X4_spot i0 8) gs_X4_45 hd_X4_spot ⟨Nat.le_of_ble_eq_true rfl, Nat.le_of_ble_eq_true rfl⟩ rfl hl.1 (lv_room (Nat.le_of_ble_eq_true rfl)) dX4_kind_65 ⟨Nat.zero_le _, Nat.zero_le _⟩ ?_
        refine lv_iload_n hx hb dX4_kind_68 rfl (lv_at hl 2 rfl) ?_
        refine mu_W (w := (MW cI cJ A (upd sS (9 * i0 + 0 + 3) (nI i)) kS oS a tS ik cA tp td fm tt vl wr bO sO nU mV)) (rest := []) S hK hP hD hS (k_X4_behind n (9 * i0 + 8 + 3) j hI (by omega) (by omega)) gv_X4_183 hd_X4_behind ⟨Nat.le_of_ble_eq_true rfl, Nat.le_of_ble_eq_true rfl⟩ 4 rfl rfl rfl rfl hl.1 (lv_room (Nat.le_of_ble_eq_true rfl)) dX4_kind_69 ⟨Nat.zero_le _, Nat.zero_le _⟩ (fun ov w' H locs hp hP hD hS => ?_)
        obtain ⟨rfl, rfl⟩ := hp
        refine W.eq (g2 := F0 m 72 ls [.int (hoursF (upd sS (9 * i0 + 0 + 3) (nI i)) n j (9 * i0 + 8 + 3))]) rfl ?_
        refine w_i (z := kindV sS n i0 j i) (rfl) ?_
        refine lv_istore (lv' := [(7, .int (kindV sS n i0 j i)), (0, .ref (A 0)), (1, .int (nI i0)), (2, .int (nI j)), (3, .int (its sS i0 0)), (4, .int ((bestF yesP (kindV sS n i0 j) 0 i).1)), (5, .int ((bestF yesP (kindV sS n i0 j) 0 i).2)), (6, .int (nI i))]) hx hb dX4_kind_72 hl (by decide) rfl (fun ls hl => ?_)
        refine lv_iload hx hb dX4_kind_74 (lv_at hl 0 rfl) ?_
        refine lv_iload hx hb dX4_kind_76 (lv_at hl 6 rfl) ?_
        refine lv_icmp_le (tgt := 86) hx hb dX4_kind_78 rfl (fun c78 => ?_) (fun c78 => ?_)
        · refine lv_iload hx hb dX4_kind_86 (lv_at hl 5 rfl) ?_
          refine w_i (z := (bestF yesP (kindV sS n i0 j) 0 (i + 1)).1) (congrArg Prod.fst (best_f (fun _ => c78))) ?_
          refine lv_istore (lv' := [(4, .int ((bestF yesP (kindV sS n i0 j) 0 (i + 1)).1)), (7, .int (kindV sS n i0 j i)), (0, .ref (A 0)), (1, .int (nI i0)), (2, .int (nI j)), (3, .int (its sS i0 0)), (5, .int ((bestF yesP (kindV sS n i0 j) 0 i).2)), (6, .int (nI i))]) hx hb dX4_kind_88 hl (by decide) rfl (fun ls hl => ?_)
          refine lv_iload hx hb dX4_kind_90 (lv_at hl 1 rfl) ?_
          refine lv_iload hx hb dX4_kind_92 (lv_at hl 6 rfl) ?_
          refine lv_icmp_le (tgt := 102) hx hb dX4_kind_94 rfl (fun c94 => ?_) (fun c94 => ?_)
          · refine lv_iload hx hb dX4_kind_102 (lv_at hl 6 rfl) ?_
            refine w_i (z := (bestF yesP (kindV sS n i0 j) 0 (i + 1)).2) (congrArg Prod.snd (best_f (fun _ => c78))) ?_
            refine lv_istore (lv' := [(5, .int ((bestF yesP (kindV sS n i0 j) 0 (i + 1)).2)), (4, .int ((bestF yesP (kindV sS n i0 j) 0 (i + 1)).1)), (7, .int (kindV sS n i0 j i)), (0, .ref (A 0)), (1, .int (nI i0)), (2, .int (nI j)), (3, .int (its sS i0 0)), (6, .int (nI i))]) hx hb dX4_kind_104 hl (by decide) rfl (fun ls hl => ?_)
            refine lv_iinc (v := nI (i + 1)) (lv' := [(6, .int (nI (i + 1))), (5, .int ((bestF yesP (kindV sS n i0 j) 0 (i + 1)).2)), (4, .int ((bestF yesP (kindV sS n i0 j) 0 (i + 1)).1)), (7, .int (kindV sS n i0 j i)), (0, .ref (A 0)), (1, .int (nI i0)), (2, .int (nI j)), (3, .int (its sS i0 0))]) hx hb dX4_kind_106 hl (k := 7) rfl (nI_inc _) (by decide) rfl (fun ls hl => ?_)
            refine lv_goto (tgt := 43) hx hb dX4_kind_109 rfl ?_
            exact ih43 (i + 1, nI i, upd sS (9 * i0 + 0 + 3) (nI i)) _ _ ls (by first | omega | (dsimp only; omega)) ⟨(by omega), hP, hD, hS, lv_sub hl [4, 5, 6, 7, 2, 1, 0] rfl⟩
          · exact absurd c78 c94
        · refine lv_iload hx hb dX4_kind_81 (lv_at hl 7 rfl) ?_
          refine lv_goto (tgt := 88) hx hb dX4_kind_83 rfl ?_
          refine w_i (z := (bestF yesP (kindV sS n i0 j) 0 (i + 1)).1) (congrArg Prod.fst (best_t (rfl) c78)) ?_
          refine lv_istore (lv' := [(4, .int ((bestF yesP (kindV sS n i0 j) 0 (i + 1)).1)), (7, .int (kindV sS n i0 j i)), (0, .ref (A 0)), (1, .int (nI i0)), (2, .int (nI j)), (3, .int (its sS i0 0)), (5, .int ((bestF yesP (kindV sS n i0 j) 0 i).2)), (6, .int (nI i))]) hx hb dX4_kind_88 hl (by decide) rfl (fun ls hl => ?_)
          refine lv_iload hx hb dX4_kind_90 (lv_at hl 1 rfl) ?_
          refine lv_iload hx hb dX4_kind_92 (lv_at hl 6 rfl) ?_
          refine lv_icmp_le (tgt := 102) hx hb dX4_kind_94 rfl (fun c94 => ?_) (fun c94 => ?_)
          · exact absurd c94 c78
          · refine lv_iload hx hb dX4_kind_97 (lv_at hl 1 rfl) ?_
            refine lv_goto (tgt := 104) hx hb dX4_kind_99 rfl ?_
            refine w_i (z := (bestF yesP (kindV sS n i0 j) 0 (i + 1)).2) (congrArg Prod.snd (best_t (rfl) c78)) ?_
            refine lv_istore (lv' := [(5, .int ((bestF yesP (kindV sS n i0 j) 0 (i + 1)).2)), (4, .int ((bestF yesP (kindV sS n i0 j) 0 (i + 1)).1)), (7, .int (kindV sS n i0 j i)), (0, .ref (A 0)), (1, .int (nI i0)), (2, .int (nI j)), (3, .int (its sS i0 0)), (6, .int (nI i))]) hx hb dX4_kind_104 hl (by decide) rfl (fun ls hl => ?_)
            refine lv_iinc (v := nI (i + 1)) (lv' := [(6, .int (nI (i + 1))), (5, .int ((bestF yesP (kindV sS n i0 j) 0 (i + 1)).2)), (4, .int ((bestF yesP (kindV sS n i0 j) 0 (i + 1)).1)), (7, .int (kindV sS n i0 j i)), (0, .ref (A 0)), (1, .int (nI i0)), (2, .int (nI j)), (3, .int (its sS i0 0))]) hx hb dX4_kind_106 hl (k := 7) rfl (nI_inc _) (by decide) rfl (fun ls hl => ?_)
            refine lv_goto (tgt := 43) hx hb dX4_kind_109 rfl ?_
            exact ih43 (i + 1, nI i, upd sS (9 * i0 + 0 + 3) (nI i)) _ _ ls (by first | omega | (dsimp only; omega)) ⟨(by omega), hP, hD, hS, lv_sub hl [4, 5, 6, 7, 2, 1, 0] rfl⟩
    · replace c17 := (b2i_0 _).mp c17
      refine lv_aload_n hx hb dX4_kind_20 rfl (lv_at hl 0 rfl) ?_
      refine lv_ldc (v := (-1000000001)) hx hb hown (hts _ wq_X4_44) dX4_kind_21 ?_
      refine mu_W (w := (MW cI cJ A sS kS oS aS tS ik cA tp td fm tt vl wr bO sO nU mV)) (rest := []) S hK hP hD hS (k_X4_finds 0 (-1000000001) (by decide) (by decide)) gv_X4_63 hd_X4_finds ⟨Nat.le_of_ble_eq_true rfl, Nat.le_of_ble_eq_true rfl⟩ 4 rfl rfl rfl rfl hl.1 (lv_room (Nat.le_of_ble_eq_true rfl)) dX4_kind_23 ⟨Nat.zero_le _, Nat.zero_le _⟩ (fun ov w' H locs hp hP hD hS => ?_)
      obtain ⟨rfl, rfl⟩ := hp
      refine W.eq (g2 := F0 m 26 ls [.int (-1000000001)]) rfl ?_
      have hE : upd tS 0 (tS 0 + 1) = okT (kindOk n (nI i0) k) tS := by simp [kindR, kindOk, okT, bump, put9, b2i, c5, c17, ei0, i_lt, -Int32.not_le, -Int32.not_lt]
      have hW : (MW cI cJ A sS kS oS aS (upd tS 0 (tS 0 + 1)) ik cA tp td fm tt vl wr bO sO nU mV) = (MW cI cJ A sS kS oS aS (okT (kindOk n (nI i0) k) tS) ik cA tp td fm tt vl wr bO sO nU mV) := congrArg (fun z => (MW cI cJ A sS kS oS aS z ik cA tp td fm tt vl wr bO sO nU mV)) hE
      have hP : va_P D vwCl (MW cI cJ A sS kS oS aS (okT (kindOk n (nI i0) k) tS) ik cA tp td fm tt vl wr bO sO nU mV) H := Eq.mp (congrArg (fun z => va_P D vwCl z H) hW) hP
      have hD : va_D _ (MW cI cJ A sS kS oS aS (okT (kindOk n (nI i0) k) tS) ik cA tp td fm tt vl wr bO sO nU mV) := Eq.mp (congrArg (fun z => va_D _ z) hW) hD
      exact mu_iret (MW cI cJ A sS kS oS aS (okT (kindOk n (nI i0) k) tS) ik cA tp td fm tt vl wr bO sO nU mV) hx hb hr hlk hP hS rfl (⟨aS, congrArg (fun z => some (Value.int z)) (by simp [kindR, kindOk, okT, bump, put9, b2i, c5, c17, ei0, i_lt, -Int32.not_le, -Int32.not_lt]), rfl⟩) dX4_kind_26

set_option maxHeartbeats 4000000 in
set_option maxRecDepth 100000 in
theorem k_X4_by (n : Nat) (k : Int32) (v : Int32) (hI : Inv sS n) : MU l D (tyA cI cJ cO) yX4_by cX4_by 6 ((some .int)) 10 218 [.ref (A 0), .int k, .int v] (MW cI cJ A sS kS oS aS tS ik cA tp td fm tt vl wr bO sO nU mV) (fun ov w' => ∃ aS' : Nat → Int32, ov = some (.int (byR sS n k v)) ∧ w' = (MW cI cJ A sS kS oS aS' (byT sS tS n k v) ik cA tp td fm tt vl wr bO sO nU mV)) := by
  refine MU.mk (by decide) (Nat.le_of_ble_eq_true rfl) ?_
  intro p e s m below meth c ls S hr hlk hP hK hD hS hl
  have S : CallFix p m c cX4_by 6 s _ WL RX4 := S
  obtain ⟨hx, hb, hml, hown, hts⟩ := id S
  have hl : lv_has ls 6 [(0, .ref (A 0)), (1, .int k), (2, .int v)] := hl
  have h8 : n ≤ 8 := hI.1
  have hI0 := hI
  refine lv_iload_n hx hb dX4_by_0 rfl (lv_at hl 1 rfl) ?_
  refine ro_S (w := []) (rest := []) S hK va_P0 (k_X4_isSoon k) gs_X4_195 hd_X4_isSoon ⟨Nat.le_of_ble_eq_true rfl, Nat.le_of_ble_eq_true rfl⟩ rfl hl.1 (lv_room (Nat.le_of_ble_eq_true rfl)) dX4_by_1 ⟨Nat.zero_le _, Nat.zero_le _⟩ ?_
  refine lv_if_eq (tgt := 19) hx hb dX4_by_4 rfl (fun c4 => ?_) (fun c4 => ?_)
  · replace c4 := (b2i_0 _).mp c4
    refine lv_aload_n hx hb dX4_by_19 rfl (lv_at hl 0 rfl) ?_
    refine lv_ldc (v := (-1000000001)) hx hb hown (hts _ wq_X4_44) dX4_by_20 ?_
    refine mu_W (w := (MW cI cJ A sS kS oS aS tS ik cA tp td fm tt vl wr bO sO nU mV)) (rest := []) S hK hP hD hS (k_X4_finds 0 (-1000000001) (by decide) (by decide)) gv_X4_63 hd_X4_finds ⟨Nat.le_of_ble_eq_true rfl, Nat.le_of_ble_eq_true rfl⟩ 4 rfl rfl rfl rfl hl.1 (lv_room (Nat.le_of_ble_eq_true rfl)) dX4_by_22 ⟨Nat.zero_le _, Nat.zero_le _⟩ (fun ov w' H locs hp hP hD hS => ?_)
    obtain ⟨rfl, rfl⟩ := hp
    refine W.eq (g2 := F0 m 25 ls [.int (-1000000001)]) rfl ?_
    have hE : upd tS 0 (tS 0 + 1) = byT sS tS n k v := by simp [byR, byT, byOk, byJ, bump, put9, b2i, c4, i_lt, -Int32.not_le, -Int32.not_lt]
    have hW : (MW cI cJ A sS kS oS aS (upd tS 0 (tS 0 + 1)) ik cA tp td fm tt vl wr bO sO nU mV) = (MW cI cJ A sS kS oS aS (byT sS tS n k v) ik cA tp td fm tt vl wr bO sO nU mV) := congrArg (fun z => (MW cI cJ A sS kS oS aS z ik cA tp td fm tt vl wr bO sO nU mV)) hE
    have hP : va_P D vwCl (MW cI cJ A sS kS oS aS (byT sS tS n k v) ik cA tp td fm tt vl wr bO sO nU mV) H := Eq.mp (congrArg (fun z => va_P D vwCl z H) hW) hP
    have hD : va_D _ (MW cI cJ A sS kS oS aS (byT sS tS n k v) ik cA tp td fm tt vl wr bO sO nU mV) := Eq.mp (congrArg (fun z => va_D _ z) hW) hD
    exact mu_iret (MW cI cJ A sS kS oS aS (byT sS tS n k v) ik cA tp td fm tt vl wr bO sO nU mV) hx hb hr hlk hP hS rfl (⟨aS, congrArg (fun z => some (Value.int z)) (by simp [byR, byT, byOk, byJ, bump, put9, b2i, c4, i_lt, -Int32.not_le, -Int32.not_lt]), rfl⟩) dX4_by_25
  · replace c4 := b2i_n0 c4
    obtain ⟨j0, hj0a, hj0b, rfl⟩ := in_nat (a := 1) (b := 40) (by decide) c4 (by decide)
    have ej0 : cl (nI j0) = j0 := cl_nI (by omega)
    refine lv_iload_n hx hb dX4_by_7 rfl (lv_at hl 2 rfl) ?_
    refine lv_i2l hx hb dX4_by_8 rfl ?_
    refine lv_lconst (v := 0) hx hb dX4_by_9 rfl ?_
    refine lv_ldc2 (v := 8) hx hb hown (hts _ wq_X4_58) dX4_by_10 ?_
    refine ro_S (w := []) (rest := []) S hK va_P0 (k_X4_inI v 0 8 _ _ (by decide) (by decide)) gs_X4_49 hd_X4_in ⟨Nat.le_of_ble_eq_true rfl, Nat.le_of_ble_eq_true rfl⟩ rfl hl.1 (lv_room (Nat.le_of_ble_eq_true rfl)) dX4_by_13 ⟨Nat.zero_le _, Nat.zero_le _⟩ ?_
    refine lv_if_ne (tgt := 26) hx hb dX4_by_16 rfl (fun c16 => ?_) (fun c16 => ?_)
    · replace c16 := b2i_n0 c16
      refine lv_aload_n hx hb dX4_by_26 rfl (lv_at hl 0 rfl) ?_
      refine va_get (ci := 4) (v := .ref (A 1)) hx hb hts wx_X4 hown hK hP 0 rfl rfl 0 (by decide) (hts _ wf_X4_7) (fun _ h9 => h9) rfl dX4_by_27 ?_
      refine lv_iconst (v := 2) hx hb dX4_by_30 rfl ?_
      refine ia_ld hx hb hK hP 1 0 rfl rfl 2 (rfl) (by omega) (by decide) dX4_by_31 ?_
      refine lv_istore_n (lv' := [(3, .int (sS 2)), (0, .ref (A 0)), (1, .int (nI j0)), (2, .int v)]) hx hb dX4_by_32 rfl hl (by decide) rfl (fun ls hl => ?_)
      refine lv_iconst (v := (-1)) hx hb dX4_by_33 rfl ?_
      refine lv_istore (lv' := [(4, .int (-1)), (3, .int (sS 2)), (0, .ref (A 0)), (1, .int (nI j0)), (2, .int v)]) hx hb dX4_by_34 hl (by decide) rfl (fun ls hl => ?_)
      refine lv_iconst (v := 0) hx hb dX4_by_36 rfl ?_
      have hE : sS = upd sS 2 (sS 2) := upd_same _ _
      have hW : (MW cI cJ A sS kS oS aS tS ik cA tp td fm tt vl wr bO sO nU mV) = (MW cI cJ A (upd sS 2 (sS 2)) kS oS aS tS ik cA tp td fm tt vl wr bO sO nU mV) := congrArg (fun z => (MW cI cJ A z kS oS aS tS ik cA tp td fm tt vl wr bO sO nU mV)) hE
      have hP : va_P D vwCl (MW cI cJ A (upd sS 2 (sS 2)) kS oS aS tS ik cA tp td fm tt vl wr bO sO nU mV) s.heap := Eq.mp (congrArg (fun z => va_P D vwCl z s.heap) hW) hP
      have hD : va_D _ (MW cI cJ A (upd sS 2 (sS 2)) kS oS aS tS ik cA tp td fm tt vl wr bO sO nU mV) := Eq.mp (congrArg (fun z => va_D _ z) hW) hD
      refine lv_istore (lv' := [(5, .int 0), (4, .int (-1)), (3, .int (sS 2)), (0, .ref (A 0)), (1, .int (nI j0)), (2, .int v)]) hx hb dX4_by_37 hl (by decide) rfl (fun ls hl => ?_)
      refine w_loopH (pc := 39) (st := fun (x : Nat × Int32 × Int32 × (Nat → Int32)) => match x with | (i, fo, x, a) => []) (μ := fun (x : Nat × Int32 × Int32 × (Nat → Int32)) => match x with | (i, fo, x, a) => 9 - i) (I := fun (x : Nat × Int32 × Int32 × (Nat → Int32)) H locs ls => match x with | (i, fo, x, a) => (i ≤ 9) ∧ ((fo = -1 ∧ ∀ j, j < i → byP sS n (nI j0) v j = false) ∨ (∃ k, i = k + 1 ∧ fo = nI k ∧ byP sS n (nI j0) v k = true ∧ ∀ j, j < k → byP sS n (nI j0) v j = false)) ∧ va_P D vwCl (MW cI cJ A (upd sS 2 x) kS oS a tS ik cA tp td fm tt vl wr bO sO nU mV) H ∧ va_D (fun z9 => z9 ∈ ((MW cI cJ A sS kS oS aS tS ik cA tp td fm tt vl wr bO sO nU mV)).map (fun z8 => z8.1)) (MW cI cJ A (upd sS 2 x) kS oS a tS ik cA tp td fm tt vl wr bO sO nU mV) ∧ va_S (fun z9 => z9 ∈ ((MW cI cJ A sS kS oS aS tS ik cA tp td fm tt vl wr bO sO nU mV)).map (fun z8 => z8.1)) s.heap H locs ∧ lv_has ls 6 [(0, .ref (A 0)), (1, .int (nI j0)), (2, .int v), (3, .int (sS 2)), (4, .int fo), (5, .int (nI i))]) ?_ (0, -1, sS 2, aS) ⟨Nat.zero_le _, Or.inl ⟨rfl, fun j h => absurd h (Nat.not_lt_zero j)⟩, hP, hD, hS, lv_sub hl [3, 4, 5, 2, 1, 0] rfl⟩
      rintro ⟨i, fo, x, a⟩ H locs ls ⟨hi, hfo, hP, hD, hS, hl⟩ ih39
      try dsimp only at ih39 ⊢
      refine lv_iload hx hb dX4_by_39 (lv_at hl 5 rfl) ?_
      refine lv_bipush (v := 8) hx hb dX4_by_41 rfl ?_
      refine lv_icmp_gt (tgt := 82) hx hb dX4_by_43 rfl (fun c43 => ?_) (fun c43 => ?_)
      · replace c43 := nq_lt (a := 8) (b := i) (by omega) (by omega) c43
        have hx9 : i = 9 ∨ 0 ≤ fo := Or.inl (by omega)
        refine lv_aload_n hx hb dX4_by_82 rfl (lv_at hl 0 rfl) ?_
        refine va_get (ci := 4) (v := .ref (A 1)) hx hb hts wx_X4 hown hK hP 0 rfl rfl 0 (by decide) (hts _ wf_X4_7) (fun _ h9 => h9) rfl dX4_by_83 ?_
        refine lv_iconst (v := 2) hx hb dX4_by_86 rfl ?_
        refine lv_iload_n hx hb dX4_by_87 rfl (lv_at hl 3 rfl) ?_
        refine ia_st hx hb hK hP hD hS 1 0 rfl rfl 2 (rfl) (by omega) (by decide) dX4_by_88 (fun H locs hP hD hS => ?_)
        have hP : va_P D vwCl (MW cI cJ A (upd (upd sS 2 x) 2 (sS 2)) kS oS a tS ik cA tp td fm tt vl wr bO sO nU mV) H := hP
        have hD : va_D _ (MW cI cJ A (upd (upd sS 2 x) 2 (sS 2)) kS oS a tS ik cA tp td fm tt vl wr bO sO nU mV) := hD
        have hE : upd (upd sS 2 x) 2 (sS 2) = sS := upd_back _ _ _
        have hW : (MW cI cJ A (upd (upd sS 2 x) 2 (sS 2)) kS oS a tS ik cA tp td fm tt vl wr bO sO nU mV) = (MW cI cJ A sS kS oS a tS ik cA tp td fm tt vl wr bO sO nU mV) := congrArg (fun z => (MW cI cJ A z kS oS a tS ik cA tp td fm tt vl wr bO sO nU mV)) hE
        have hP : va_P D vwCl (MW cI cJ A sS kS oS a tS ik cA tp td fm tt vl wr bO sO nU mV) H := Eq.mp (congrArg (fun z => va_P D vwCl z H) hW) hP
        have hD : va_D _ (MW cI cJ A sS kS oS a tS ik cA tp td fm tt vl wr bO sO nU mV) := Eq.mp (congrArg (fun z => va_D _ z) hW) hD
        rcases by_end hfo hi (by decide) hx9 with ⟨rfl, hfs⟩ | ⟨j9, hj9, rfl, hfs⟩
        · refine lv_iload hx hb dX4_by_89 (lv_at hl 4 rfl) ?_
          refine lv_if_ge (tgt := 103) hx hb dX4_by_91 rfl (fun c91 => ?_) (fun c91 => ?_)
          · exact absurd c91 (by decide)
          · refine lv_aload_n hx hb dX4_by_94 rfl (lv_at hl 0 rfl) ?_
            refine lv_ldc (v := (-1000000004)) hx hb hown (hts _ wq_X4_186) dX4_by_95 ?_
            refine mu_W (w := (MW cI cJ A sS kS oS a tS ik cA tp td fm tt vl wr bO sO nU mV)) (rest := []) S hK hP hD hS (k_X4_finds 3 (-1000000004) (by decide) (by decide)) gv_X4_63 hd_X4_finds ⟨Nat.le_of_ble_eq_true rfl, Nat.le_of_ble_eq_true rfl⟩ 4 rfl rfl rfl rfl hl.1 (lv_room (Nat.le_of_ble_eq_true rfl)) dX4_by_97 ⟨Nat.zero_le _, Nat.zero_le _⟩ (fun ov w' H locs hp hP hD hS => ?_)
            obtain ⟨rfl, rfl⟩ := hp
            refine W.eq (g2 := F0 m 100 ls [.int (-1000000004)]) rfl ?_
            refine lv_goto (tgt := 105) hx hb dX4_by_100 rfl ?_
            have hE : upd tS 3 (tS 3 + 1) = byT sS tS n (nI j0) v := by simp [byR, byT, byOk, byJ, bump, put9, b2i, c4, c16, c43, c91, ej0, hfs, i_lt, -Int32.not_le, -Int32.not_lt]
            have hW : (MW cI cJ A sS kS oS a (upd tS 3 (tS 3 + 1)) ik cA tp td fm tt vl wr bO sO nU mV) = (MW cI cJ A sS kS oS a (byT sS tS n (nI j0) v) ik cA tp td fm tt vl wr bO sO nU mV) := congrArg (fun z => (MW cI cJ A sS kS oS a z ik cA tp td fm tt vl wr bO sO nU mV)) hE
            have hP : va_P D vwCl (MW cI cJ A sS kS oS a (byT sS tS n (nI j0) v) ik cA tp td fm tt vl wr bO sO nU mV) H := Eq.mp (congrArg (fun z => va_P D vwCl z H) hW) hP
            have hD : va_D _ (MW cI cJ A sS kS oS a (byT sS tS n (nI j0) v) ik cA tp td fm tt vl wr bO sO nU mV) := Eq.mp (congrArg (fun z => va_D _ z) hW) hD
            exact mu_iret (MW cI cJ A sS kS oS a (byT sS tS n (nI j0) v) ik cA tp td fm tt vl wr bO sO nU mV) hx hb hr hlk hP hS rfl (⟨a, congrArg (fun z => some (Value.int z)) (by simp [byR, byT, byOk, byJ, bump, put9, b2i, c4, c16, c43, c91, ej0, hfs, i_lt, -Int32.not_le, -Int32.not_lt]), rfl⟩) dX4_by_105
        · have j9n : ¬ j9 = 9 := by omega
          refine lv_iload hx hb dX4_by_89 (lv_at hl 4 rfl) ?_
          refine lv_if_ge (tgt := 103) hx hb dX4_by_91 rfl (fun c91 => ?_) (fun c91 => ?_)
          · refine lv_iload hx hb dX4_by_103 (lv_at hl 4 rfl) ?_
            have hE : tS = byT sS tS n (nI j0) v := by simp [byR, byT, byOk, byJ, bump, put9, b2i, c4, c16, c43, c91, ej0, hfs, j9n, i_lt, -Int32.not_le, -Int32.not_lt]
            have hW : (MW cI cJ A sS kS oS a tS ik cA tp td fm tt vl wr bO sO nU mV) = (MW cI cJ A sS kS oS a (byT sS tS n (nI j0) v) ik cA tp td fm tt vl wr bO sO nU mV) := congrArg (fun z => (MW cI cJ A sS kS oS a z ik cA tp td fm tt vl wr bO sO nU mV)) hE
            have hP : va_P D vwCl (MW cI cJ A sS kS oS a (byT sS tS n (nI j0) v) ik cA tp td fm tt vl wr bO sO nU mV) H := Eq.mp (congrArg (fun z => va_P D vwCl z H) hW) hP
            have hD : va_D _ (MW cI cJ A sS kS oS a (byT sS tS n (nI j0) v) ik cA tp td fm tt vl wr bO sO nU mV) := Eq.mp (congrArg (fun z => va_D _ z) hW) hD
            exact mu_iret (MW cI cJ A sS kS oS a (byT sS tS n (nI j0) v) ik cA tp td fm tt vl wr bO sO nU mV) hx hb hr hlk hP hS rfl (⟨a, congrArg (fun z => some (Value.int z)) (by simp [byR, byT, byOk, byJ, bump, put9, b2i, c4, c16, c43, c91, ej0, hfs, j9n, i_lt, -Int32.not_le, -Int32.not_lt]), rfl⟩) dX4_by_105
          · exact absurd (nI_pos' (by omega)) c91
      · replace c43 := nq_nlt (a := 8) (b := i) (by omega) (by omega) c43
        refine lv_iload hx hb dX4_by_46 (lv_at hl 4 rfl) ?_
        refine lv_if_ge (tgt := 82) hx hb dX4_by_48 rfl (fun c48 => ?_) (fun c48 => ?_)
        · have hx9 : i = 9 ∨ 0 ≤ fo := Or.inr c48
          refine lv_aload_n hx hb dX4_by_82 rfl (lv_at hl 0 rfl) ?_
          refine va_get (ci := 4) (v := .ref (A 1)) hx hb hts wx_X4 hown hK hP 0 rfl rfl 0 (by decide) (hts _ wf_X4_7) (fun _ h9 => h9) rfl dX4_by_83 ?_
          refine lv_iconst (v := 2) hx hb dX4_by_86 rfl ?_
          refine lv_iload_n hx hb dX4_by_87 rfl (lv_at hl 3 rfl) ?_
          refine ia_st hx hb hK hP hD hS 1 0 rfl rfl 2 (rfl) (by omega) (by decide) dX4_by_88 (fun H locs hP hD hS => ?_)
          have hP : va_P D vwCl (MW cI cJ A (upd (upd sS 2 x) 2 (sS 2)) kS oS a tS ik cA tp td fm tt vl wr bO sO nU mV) H := hP
          have hD : va_D _ (MW cI cJ A (upd (upd sS 2 x) 2 (sS 2)) kS oS a tS ik cA tp td fm tt vl wr bO sO nU mV) := hD
          have hE : upd (upd sS 2 x) 2 (sS 2) = sS := upd_back _ _ _
          have hW : (MW cI cJ A (upd (upd sS 2 x) 2 (sS 2)) kS oS a tS ik cA tp td fm tt vl wr bO sO nU mV) = (MW cI cJ A sS kS oS a tS ik cA tp td fm tt vl wr bO sO nU mV) := congrArg (fun z => (MW cI cJ A z kS oS a tS ik cA tp td fm tt vl wr bO sO nU mV)) hE
          have hP : va_P D vwCl (MW cI cJ A sS kS oS a tS ik cA tp td fm tt vl wr bO sO nU mV) H := Eq.mp (congrArg (fun z => va_P D vwCl z H) hW) hP
          have hD : va_D _ (MW cI cJ A sS kS oS a tS ik cA tp td fm tt vl wr bO sO nU mV) := Eq.mp (congrArg (fun z => va_D _ z) hW) hD
          rcases by_end hfo hi (by decide) hx9 with ⟨rfl, hfs⟩ | ⟨j9, hj9, rfl, hfs⟩
          · refine lv_iload hx hb dX4_by_89 (lv_at hl 4 rfl) ?_
            refine lv_if_ge (tgt := 103) hx hb dX4_by_91 rfl (fun c91 => ?_) (fun c91 => ?_)
            · exact absurd c91 (by decide)
            · refine lv_aload_n hx hb dX4_by_94 rfl (lv_at hl 0 rfl) ?_
              refine lv_ldc (v := (-1000000004)) hx hb hown (hts _ wq_X4_186) dX4_by_95 ?_
              refine mu_W (w := (MW cI cJ A sS kS oS a tS ik cA tp td fm tt vl wr bO sO nU mV)) (rest := []) S hK hP hD hS (k_X4_finds 3 (-1000000004) (by decide) (by decide)) gv_X4_63 hd_X4_finds ⟨Nat.le_of_ble_eq_true rfl, Nat.le_of_ble_eq_true rfl⟩ 4 rfl rfl rfl rfl hl.1 (lv_room (Nat.le_of_ble_eq_true rfl)) dX4_by_97 ⟨Nat.zero_le _, Nat.zero_le _⟩ (fun ov w' H locs hp hP hD hS => ?_)
              obtain ⟨rfl, rfl⟩ := hp
              refine W.eq (g2 := F0 m 100 ls [.int (-1000000004)]) rfl ?_
              refine lv_goto (tgt := 105) hx hb dX4_by_100 rfl ?_
              have hE : upd tS 3 (tS 3 + 1) = byT sS tS n (nI j0) v := by simp [byR, byT, byOk, byJ, bump, put9, b2i, c4, c16, c43, c48, c91, ej0, hfs, i_lt, -Int32.not_le, -Int32.not_lt]
              have hW : (MW cI cJ A sS kS oS a (upd tS 3 (tS 3 + 1)) ik cA tp td fm tt vl wr bO sO nU mV) = (MW cI cJ A sS kS oS a (byT sS tS n (nI j0) v) ik cA tp td fm tt vl wr bO sO nU mV) := congrArg (fun z => (MW cI cJ A sS kS oS a z ik cA tp td fm tt vl wr bO sO nU mV)) hE
              have hP : va_P D vwCl (MW cI cJ A sS kS oS a (byT sS tS n (nI j0) v) ik cA tp td fm tt vl wr bO sO nU mV) H := Eq.mp (congrArg (fun z => va_P D vwCl z H) hW) hP
              have hD : va_D _ (MW cI cJ A sS kS oS a (byT sS tS n (nI j0) v) ik cA tp td fm tt vl wr bO sO nU mV) := Eq.mp (congrArg (fun z => va_D _ z) hW) hD
              exact mu_iret (MW cI cJ A sS kS oS a (byT sS tS n (nI j0) v) ik cA tp td fm tt vl wr bO sO nU mV) hx hb hr hlk hP hS rfl (⟨a, congrArg (fun z => some (Value.int z)) (by simp [byR, byT, byOk, byJ, bump, put9, b2i, c4, c16, c43, c48, c91, ej0, hfs, i_lt, -Int32.not_le, -Int32.not_lt]), rfl⟩) dX4_by_105
          · have j9n : ¬ j9 = 9 := by omega
            refine lv_iload hx hb dX4_by_89 (lv_at hl 4 rfl) ?_
            refine lv_if_ge (tgt := 103) hx hb dX4_by_91 rfl (fun c91 => ?_) (fun c91 => ?_)
            · refine lv_iload hx hb dX4_by_103 (lv_at hl 4 rfl) ?_
              have hE : tS = byT sS tS n (nI j0) v := by simp [byR, byT, byOk, byJ, bump, put9, b2i, c4, c16, c43, c48, c91, ej0, hfs, j9n, i_lt, -Int32.not_le, -Int32.not_lt]
              have hW : (MW cI cJ A sS kS oS a tS ik cA tp td fm tt vl wr bO sO nU mV) = (MW cI cJ A sS kS oS a (byT sS tS n (nI j0) v) ik cA tp td fm tt vl wr bO sO nU mV) := congrArg (fun z => (MW cI cJ A sS kS oS a z ik cA tp td fm tt vl wr bO sO nU mV)) hE
              have hP : va_P D vwCl (MW cI cJ A sS kS oS a (byT sS tS n (nI j0) v) ik cA tp td fm tt vl wr bO sO nU mV) H := Eq.mp (congrArg (fun z => va_P D vwCl z H) hW) hP
              have hD : va_D _ (MW cI cJ A sS kS oS a (byT sS tS n (nI j0) v) ik cA tp td fm tt vl wr bO sO nU mV) := Eq.mp (congrArg (fun z => va_D _ z) hW) hD
              exact mu_iret (MW cI cJ A sS kS oS a (byT sS tS n (nI j0) v) ik cA tp td fm tt vl wr bO sO nU mV) hx hb hr hlk hP hS rfl (⟨a, congrArg (fun z => some (Value.int z)) (by simp [byR, byT, byOk, byJ, bump, put9, b2i, c4, c16, c43, c48, c91, ej0, hfs, j9n, i_lt, -Int32.not_le, -Int32.not_lt]), rfl⟩) dX4_by_105
            · exact absurd (nI_pos' (by omega)) c91
        · have hfo1 : fo = -1 ∧ ∀ j, j < i → byP sS n (nI j0) v j = false := hfo.resolve_right (fun ⟨k, e1, e2, e3, e4⟩ => c48 (by rw [e2]; exact nI_pos' (by omega)))
          refine lv_aload_n hx hb dX4_by_51 rfl (lv_at hl 0 rfl) ?_
          refine va_get (ci := 4) (v := .ref (A 1)) hx hb hts wx_X4 hown hK hP 0 rfl rfl 0 (by decide) (hts _ wf_X4_7) (fun _ h9 => h9) rfl dX4_by_52 ?_
          refine lv_iconst (v := 2) hx hb dX4_by_55 rfl ?_
          refine lv_iload hx hb dX4_by_56 (lv_at hl 5 rfl) ?_
          refine ia_st hx hb hK hP hD hS 1 0 rfl rfl 2 (rfl) (by omega) (by decide) dX4_by_58 (fun H locs hP hD hS => ?_)
          have hP : va_P D vwCl (MW cI cJ A (upd (upd sS 2 x) 2 (nI i)) kS oS a tS ik cA tp td fm tt vl wr bO sO nU mV) H := hP
          have hD : va_D _ (MW cI cJ A (upd (upd sS 2 x) 2 (nI i)) kS oS a tS ik cA tp td fm tt vl wr bO sO nU mV) := hD
          have hE : upd (upd sS 2 x) 2 (nI i) = upd sS 2 (nI i) := upd_upd _ _ _ _
          have hW : (MW cI cJ A (upd (upd sS 2 x) 2 (nI i)) kS oS a tS ik cA tp td fm tt vl wr bO sO nU mV) = (MW cI cJ A (upd sS 2 (nI i)) kS oS a tS ik cA tp td fm tt vl wr bO sO nU mV) := congrArg (fun z => (MW cI cJ A z kS oS a tS ik cA tp td fm tt vl wr bO sO nU mV)) hE
          have hP : va_P D vwCl (MW cI cJ A (upd sS 2 (nI i)) kS oS a tS ik cA tp td fm tt vl wr bO sO nU mV) H := Eq.mp (congrArg (fun z => va_P D vwCl z H) hW) hP
          have hD : va_D _ (MW cI cJ A (upd sS 2 (nI i)) kS oS a tS ik cA tp td fm tt vl wr bO sO nU mV) := Eq.mp (congrArg (fun z => va_D _ z) hW) hD
          have hI : Inv (upd sS 2 (nI i)) n := Inv_tk hI0 (by omega)
          refine lv_aload_n hx hb dX4_by_59 rfl (lv_at hl 0 rfl) ?_
          refine lv_iload_n hx hb dX4_by_60 rfl (lv_at hl 1 rfl) ?_
          refine mu_W (w := (MW cI cJ A (upd sS 2 (nI i)) kS oS a tS ik cA tp td fm tt vl wr bO sO nU mV)) (rest := []) S hK hP hD hS (k_X4_manyBehind n j0 hI (by omega)) gv_X4_190 hd_X4_manyBehind ⟨Nat.le_of_ble_eq_true rfl, Nat.le_of_ble_eq_true rfl⟩ 4 rfl rfl rfl rfl hl.1 (lv_room (Nat.le_of_ble_eq_true rfl)) dX4_by_61 ⟨Nat.zero_le _, Nat.zero_le _⟩ (fun ov w' H locs hp hP hD hS => ?_)
          obtain ⟨rfl, rfl⟩ := hp
          refine W.eq (g2 := F0 m 64 ls [.int (nI (contN (hoursF (upd sS 2 (nI i)) n j0) n))]) rfl ?_
          refine lv_iload_n hx hb dX4_by_64 rfl (lv_at hl 2 rfl) ?_
          refine lv_icmp_lt (tgt := 73) hx hb dX4_by_65 rfl (fun c65 => ?_) (fun c65 => ?_)
          · replace c65 := Int32.not_le.mpr c65
            have hfo2 : ((-1 : Int32) = -1 ∧ ∀ j, j < i + 1 → byP sS n (nI j0) v j = false) ∨ (∃ k, i + 1 = k + 1 ∧ (-1 : Int32) = nI k ∧ byP sS n (nI j0) v k = true ∧ ∀ j, j < k → byP sS n (nI j0) v j = false) := Or.inl ⟨rfl, lt_s hfo1.2 (decide_eq_false (by rw [ej0]; exact c65))⟩
            refine lv_iconst (v := (-1)) hx hb dX4_by_73 rfl ?_
            refine lv_istore (lv' := [(4, .int (-1)), (0, .ref (A 0)), (1, .int (nI j0)), (2, .int v), (3, .int (sS 2)), (5, .int (nI i))]) hx hb dX4_by_74 hl (by decide) rfl (fun ls hl => ?_)
            refine lv_iinc (v := nI (i + 1)) (lv' := [(5, .int (nI (i + 1))), (4, .int (-1)), (0, .ref (A 0)), (1, .int (nI j0)), (2, .int v), (3, .int (sS 2))]) hx hb dX4_by_76 hl (k := 5) rfl (nI_inc _) (by decide) rfl (fun ls hl => ?_)
            refine lv_goto (tgt := 39) hx hb dX4_by_79 rfl ?_
            exact ih39 (i + 1, (-1), nI i, upd sS 2 (nI i)) _ _ ls (by first | omega | (dsimp only; omega)) ⟨(by omega), hfo2, hP, hD, hS, lv_sub hl [2, 3, 4, 5, 1, 0] rfl⟩
          · replace c65 := Int32.not_lt.mp c65
            have hfo2 : (nI i = -1 ∧ ∀ j, j < i + 1 → byP sS n (nI j0) v j = false) ∨ (∃ k, i + 1 = k + 1 ∧ nI i = nI k ∧ byP sS n (nI j0) v k = true ∧ ∀ j, j < k → byP sS n (nI j0) v j = false) := Or.inr ⟨i, rfl, rfl, decide_eq_true (by rw [ej0]; exact c65), hfo1.2⟩
            refine lv_iload hx hb dX4_by_68 (lv_at hl 5 rfl) ?_
            refine lv_goto (tgt := 74) hx hb dX4_by_70 rfl ?_
            refine lv_istore (lv' := [(4, .int (nI i)), (0, .ref (A 0)), (1, .int (nI j0)), (2, .int v), (3, .int (sS 2)), (5, .int (nI i))]) hx hb dX4_by_74 hl (by decide) rfl (fun ls hl => ?_)
            refine lv_iinc (v := nI (i + 1)) (lv' := [(5, .int (nI (i + 1))), (4, .int (nI i)), (0, .ref (A 0)), (1, .int (nI j0)), (2, .int v), (3, .int (sS 2))]) hx hb dX4_by_76 hl (k := 5) rfl (nI_inc _) (by decide) rfl (fun ls hl => ?_)
            refine lv_goto (tgt := 39) hx hb dX4_by_79 rfl ?_
            exact ih39 (i + 1, nI i, nI i, upd sS 2 (nI i)) _ _ ls (by first | omega | (dsimp only; omega)) ⟨(by omega), hfo2, hP, hD, hS, lv_sub hl [2, 3, 4, 5, 1, 0] rfl⟩
    · replace c16 := (b2i_0 _).mp c16
      refine lv_aload_n hx hb dX4_by_19 rfl (lv_at hl 0 rfl) ?_
      refine lv_ldc (v := (-1000000001)) hx hb hown (hts _ wq_X4_44) dX4_by_20 ?_
      refine mu_W (w := (MW cI cJ A sS kS oS aS tS ik cA tp td fm tt vl wr bO sO nU mV)) (rest := []) S hK hP hD hS (k_X4_finds 0 (-1000000001) (by decide) (by decide)) gv_X4_63 hd_X4_finds ⟨Nat.le_of_ble_eq_true rfl, Nat.le_of_ble_eq_true rfl⟩ 4 rfl rfl rfl rfl hl.1 (lv_room (Nat.le_of_ble_eq_true rfl)) dX4_by_22 ⟨Nat.zero_le _, Nat.zero_le _⟩ (fun ov w' H locs hp hP hD hS => ?_)
      obtain ⟨rfl, rfl⟩ := hp
      refine W.eq (g2 := F0 m 25 ls [.int (-1000000001)]) rfl ?_
      have hE : upd tS 0 (tS 0 + 1) = byT sS tS n (nI j0) v := by simp [byR, byT, byOk, byJ, bump, put9, b2i, c4, c16, ej0, i_lt, -Int32.not_le, -Int32.not_lt]
      have hW : (MW cI cJ A sS kS oS aS (upd tS 0 (tS 0 + 1)) ik cA tp td fm tt vl wr bO sO nU mV) = (MW cI cJ A sS kS oS aS (byT sS tS n (nI j0) v) ik cA tp td fm tt vl wr bO sO nU mV) := congrArg (fun z => (MW cI cJ A sS kS oS aS z ik cA tp td fm tt vl wr bO sO nU mV)) hE
      have hP : va_P D vwCl (MW cI cJ A sS kS oS aS (byT sS tS n (nI j0) v) ik cA tp td fm tt vl wr bO sO nU mV) H := Eq.mp (congrArg (fun z => va_P D vwCl z H) hW) hP
      have hD : va_D _ (MW cI cJ A sS kS oS aS (byT sS tS n (nI j0) v) ik cA tp td fm tt vl wr bO sO nU mV) := Eq.mp (congrArg (fun z => va_D _ z) hW) hD
      exact mu_iret (MW cI cJ A sS kS oS aS (byT sS tS n (nI j0) v) ik cA tp td fm tt vl wr bO sO nU mV) hx hb hr hlk hP hS rfl (⟨aS, congrArg (fun z => some (Value.int z)) (by simp [byR, byT, byOk, byJ, bump, put9, b2i, c4, c16, ej0, i_lt, -Int32.not_le, -Int32.not_lt]), rfl⟩) dX4_by_25

set_option maxHeartbeats 4000000 in
set_option maxRecDepth 100000 in
theorem k_X4_nose (n : Nat) (f : Int32) (k : Int32) (hI : Inv sS n) : MU l D (tyA cI cJ cO) yX4_nose cX4_nose 7 ((some .int)) 10 219 [.ref (A 0), .int f, .int k] (MW cI cJ A sS kS oS aS tS ik cA tp td fm tt vl wr bO sO nU mV) (fun ov w' => ∃ aS' : Nat → Int32, ov = some (.int (noseR sS n f k)) ∧ w' = (MW cI cJ A sS kS oS aS' (noseT sS tS n f k) ik cA tp td fm tt vl wr bO sO nU mV)) := by
  refine MU.mk (by decide) (Nat.le_of_ble_eq_true rfl) ?_
  intro p e s m below meth c ls S hr hlk hP hK hD hS hl
  have S : CallFix p m c cX4_nose 7 s _ WL RX4 := S
  obtain ⟨hx, hb, hml, hown, hts⟩ := id S
  have hl : lv_has ls 7 [(0, .ref (A 0)), (1, .int f), (2, .int k)] := hl
  have h8 : n ≤ 8 := hI.1
  have hI0 := hI
  refine lv_aload_n hx hb dX4_nose_0 rfl (lv_at hl 0 rfl) ?_
  refine lv_iload_n hx hb dX4_nose_1 rfl (lv_at hl 1 rfl) ?_
  refine ro_V (w := (MW cI cJ A sS kS oS aS tS ik cA tp td fm tt vl wr bO sO nU mV)) (rest := []) S hK hP (k_X4_isFigure n f hI) gv_X4_128 hd_X4_isFigure ⟨Nat.le_of_ble_eq_true rfl, Nat.le_of_ble_eq_true rfl⟩ 4 rfl rfl rfl rfl hl.1 (lv_room (Nat.le_of_ble_eq_true rfl)) dX4_nose_2 ⟨Nat.zero_le _, Nat.zero_le _⟩ ?_
  refine lv_if_eq (tgt := 20) hx hb dX4_nose_5 rfl (fun c5 => ?_) (fun c5 => ?_)
  · replace c5 := (b2i_0 _).mp c5
    refine lv_aload_n hx hb dX4_nose_20 rfl (lv_at hl 0 rfl) ?_
    refine lv_ldc (v := (-1000000001)) hx hb hown (hts _ wq_X4_44) dX4_nose_21 ?_
    refine mu_W (w := (MW cI cJ A sS kS oS aS tS ik cA tp td fm tt vl wr bO sO nU mV)) (rest := []) S hK hP hD hS (k_X4_finds 0 (-1000000001) (by decide) (by decide)) gv_X4_63 hd_X4_finds ⟨Nat.le_of_ble_eq_true rfl, Nat.le_of_ble_eq_true rfl⟩ 4 rfl rfl rfl rfl hl.1 (lv_room (Nat.le_of_ble_eq_true rfl)) dX4_nose_23 ⟨Nat.zero_le _, Nat.zero_le _⟩ (fun ov w' H locs hp hP hD hS => ?_)
    obtain ⟨rfl, rfl⟩ := hp
    refine W.eq (g2 := F0 m 26 ls [.int (-1000000001)]) rfl ?_
    have hE : upd tS 0 (tS 0 + 1) = noseT sS tS n f k := by simp [noseR, noseT, noseOk, noseJ, bump, put9, b2i, c5, i_lt, -Int32.not_le, -Int32.not_lt]
    have hW : (MW cI cJ A sS kS oS aS (upd tS 0 (tS 0 + 1)) ik cA tp td fm tt vl wr bO sO nU mV) = (MW cI cJ A sS kS oS aS (noseT sS tS n f k) ik cA tp td fm tt vl wr bO sO nU mV) := congrArg (fun z => (MW cI cJ A sS kS oS aS z ik cA tp td fm tt vl wr bO sO nU mV)) hE
    have hP : va_P D vwCl (MW cI cJ A sS kS oS aS (noseT sS tS n f k) ik cA tp td fm tt vl wr bO sO nU mV) H := Eq.mp (congrArg (fun z => va_P D vwCl z H) hW) hP
    have hD : va_D _ (MW cI cJ A sS kS oS aS (noseT sS tS n f k) ik cA tp td fm tt vl wr bO sO nU mV) := Eq.mp (congrArg (fun z => va_D _ z) hW) hD
    exact mu_iret (MW cI cJ A sS kS oS aS (noseT sS tS n f k) ik cA tp td fm tt vl wr bO sO nU mV) hx hb hr hlk hP hS rfl (⟨aS, congrArg (fun z => some (Value.int z)) (by simp [noseR, noseT, noseOk, noseJ, bump, put9, b2i, c5, i_lt, -Int32.not_le, -Int32.not_lt]), rfl⟩) dX4_nose_26
  · replace c5 := b2i_n0 c5
    obtain ⟨i0, hi0, rfl⟩ := fig_in hI.1 c5
    have h8 := hI.1
    have ei0 : cl (nI i0) = i0 := cl_nI (by omega)
    refine lv_iload_n hx hb dX4_nose_8 rfl (lv_at hl 2 rfl) ?_
    refine lv_i2l hx hb dX4_nose_9 rfl ?_
    refine lv_lconst (v := 0) hx hb dX4_nose_10 rfl ?_
    refine lv_ldc2 (v := 40) hx hb hown (hts _ wq_X4_193) dX4_nose_11 ?_
    refine ro_S (w := []) (rest := []) S hK va_P0 (k_X4_inI k 0 40 _ _ (by decide) (by decide)) gs_X4_49 hd_X4_in ⟨Nat.le_of_ble_eq_true rfl, Nat.le_of_ble_eq_true rfl⟩ rfl hl.1 (lv_room (Nat.le_of_ble_eq_true rfl)) dX4_nose_14 ⟨Nat.zero_le _, Nat.zero_le _⟩ ?_
    refine lv_if_ne (tgt := 27) hx hb dX4_nose_17 rfl (fun c17 => ?_) (fun c17 => ?_)
    · replace c17 := b2i_n0 c17
      obtain ⟨j0, hj0a, hj0b, rfl⟩ := in_nat (a := 0) (b := 40) (by decide) c17 (by decide)
      have ej0 : cl (nI j0) = j0 := cl_nI (by omega)
      refine lv_iload_n hx hb dX4_nose_27 rfl (lv_at hl 1 rfl) ?_
      refine lv_iconst (v := 3) hx hb dX4_nose_28 rfl ?_
      refine ro_S (w := []) (rest := []) S hK va_P0 (k_X4_spot i0 3) gs_X4_45 hd_X4_spot ⟨Nat.le_of_ble_eq_true rfl, Nat.le_of_ble_eq_true rfl⟩ rfl hl.1 (lv_room (Nat.le_of_ble_eq_true rfl)) dX4_nose_29 ⟨Nat.zero_le _, Nat.zero_le _⟩ ?_
      refine lv_istore_n (lv' := [(3, .int (nI (9 * i0 + 3 + 3))), (0, .ref (A 0)), (1, .int (nI i0)), (2, .int (nI j0))]) hx hb dX4_nose_32 rfl hl (by decide) rfl (fun ls hl => ?_)
      refine lv_aload_n hx hb dX4_nose_33 rfl (lv_at hl 1 rfl) ?_
      refine va_get (ci := 4) (v := .ref (A 1)) hx hb hts wx_X4 hown hK hP 0 rfl rfl 0 (by decide) (hts _ wf_X4_7) (fun _ h9 => h9) rfl dX4_nose_34 ?_
      refine lv_iload_n hx hb dX4_nose_37 rfl (lv_at hl 0 rfl) ?_
      refine ia_ld hx hb hK hP 1 0 rfl rfl (9 * i0 + 3 + 3) (rfl) (by omega) (by decide) dX4_nose_38 ?_
      refine lv_istore (lv' := [(4, .int (sS (9 * i0 + 3 + 3))), (3, .int (nI (9 * i0 + 3 + 3))), (0, .ref (A 0)), (1, .int (nI i0)), (2, .int (nI j0))]) hx hb dX4_nose_39 hl (by decide) rfl (fun ls hl => ?_)
      refine lv_iconst (v := (-1)) hx hb dX4_nose_41 rfl ?_
      refine lv_istore (lv' := [(5, .int (-1)), (4, .int (sS (9 * i0 + 3 + 3))), (3, .int (nI (9 * i0 + 3 + 3))), (0, .ref (A 0)), (1, .int (nI i0)), (2, .int (nI j0))]) hx hb dX4_nose_42 hl (by decide) rfl (fun ls hl => ?_)
      refine lv_bipush (v := 99) hx hb dX4_nose_44 rfl ?_
      refine w_i (z := nI 99 - nI 0) (by decide) ?_
      have hE : sS = upd sS (9 * i0 + 3 + 3) (sS (9 * i0 + 3 + 3)) := upd_same _ _
      have hW : (MW cI cJ A sS kS oS aS tS ik cA tp td fm tt vl wr bO sO nU mV) = (MW cI cJ A (upd sS (9 * i0 + 3 + 3) (sS (9 * i0 + 3 + 3))) kS oS aS tS ik cA tp td fm tt vl wr bO sO nU mV) := congrArg (fun z => (MW cI cJ A z kS oS aS tS ik cA tp td fm tt vl wr bO sO nU mV)) hE
      have hP : va_P D vwCl (MW cI cJ A (upd sS (9 * i0 + 3 + 3) (sS (9 * i0 + 3 + 3))) kS oS aS tS ik cA tp td fm tt vl wr bO sO nU mV) s.heap := Eq.mp (congrArg (fun z => va_P D vwCl z s.heap) hW) hP
      have hD : va_D _ (MW cI cJ A (upd sS (9 * i0 + 3 + 3) (sS (9 * i0 + 3 + 3))) kS oS aS tS ik cA tp td fm tt vl wr bO sO nU mV) := Eq.mp (congrArg (fun z => va_D _ z) hW) hD
      refine lv_istore (lv' := [(6, .int (nI 99 - nI 0)), (5, .int (-1)), (4, .int (sS (9 * i0 + 3 + 3))), (3, .int (nI (9 * i0 + 3 + 3))), (0, .ref (A 0)), (1, .int (nI i0)), (2, .int (nI j0))]) hx hb dX4_nose_46 hl (by decide) rfl (fun ls hl => ?_)
      refine w_loopH (pc := 48) (st := fun (x : Nat × Int32 × Int32 × (Nat → Int32)) => match x with | (i, fo, x, a) => []) (μ := fun (x : Nat × Int32 × Int32 × (Nat → Int32)) => match x with | (i, fo, x, a) => 100 - i) (I := fun (x : Nat × Int32 × Int32 × (Nat → Int32)) H locs ls => match x with | (i, fo, x, a) => (i ≤ 100) ∧ ((fo = -1 ∧ ∀ j, j < i → noseP sS n i0 j0 j = false) ∨ (∃ k, i = k + 1 ∧ fo = nI (99 - k) ∧ noseP sS n i0 j0 k = true ∧ ∀ j, j < k → noseP sS n i0 j0 j = false)) ∧ va_P D vwCl (MW cI cJ A (upd sS (9 * i0 + 3 + 3) x) kS oS a tS ik cA tp td fm tt vl wr bO sO nU mV) H ∧ va_D (fun z9 => z9 ∈ ((MW cI cJ A sS kS oS aS tS ik cA tp td fm tt vl wr bO sO nU mV)).map (fun z8 => z8.1)) (MW cI cJ A (upd sS (9 * i0 + 3 + 3) x) kS oS a tS ik cA tp td fm tt vl wr bO sO nU mV) ∧ va_S (fun z9 => z9 ∈ ((MW cI cJ A sS kS oS aS tS ik cA tp td fm tt vl wr bO sO nU mV)).map (fun z8 => z8.1)) s.heap H locs ∧ lv_has ls 7 [(0, .ref (A 0)), (1, .int (nI i0)), (2, .int (nI j0)), (3, .int (nI (9 * i0 + 3 + 3))), (4, .int (sS (9 * i0 + 3 + 3))), (5, .int fo), (6, .int (nI 99 - nI i))]) ?_ (0, -1, sS (9 * i0 + 3 + 3), aS) ⟨Nat.zero_le _, Or.inl ⟨rfl, fun j h => absurd h (Nat.not_lt_zero j)⟩, hP, hD, hS, lv_sub hl [4, 5, 6, 3, 2, 1, 0] rfl⟩
      rintro ⟨i, fo, x, a⟩ H locs ls ⟨hi, hfo, hP, hD, hS, hl⟩ ih48
      try dsimp only at ih48 ⊢
      refine lv_iload hx hb dX4_nose_48 (lv_at hl 6 rfl) ?_
      refine lv_if_lt (tgt := 91) hx hb dX4_nose_50 rfl (fun c50 => ?_) (fun c50 => ?_)
      · replace c50 := dn_lt (c := 99) hi (by decide) (Int32.not_le.mpr c50)
        have hx9 : i = 100 ∨ 0 ≤ fo := Or.inl c50
        refine lv_aload_n hx hb dX4_nose_91 rfl (lv_at hl 0 rfl) ?_
        refine va_get (ci := 4) (v := .ref (A 1)) hx hb hts wx_X4 hown hK hP 0 rfl rfl 0 (by decide) (hts _ wf_X4_7) (fun _ h9 => h9) rfl dX4_nose_92 ?_
        refine lv_iload_n hx hb dX4_nose_95 rfl (lv_at hl 3 rfl) ?_
        refine lv_iload hx hb dX4_nose_96 (lv_at hl 4 rfl) ?_
        refine ia_st hx hb hK hP hD hS 1 0 rfl rfl (9 * i0 + 3 + 3) (rfl) (by omega) (by decide) dX4_nose_98 (fun H locs hP hD hS => ?_)
        have hP : va_P D vwCl (MW cI cJ A (upd (upd sS (9 * i0 + 3 + 3) x) (9 * i0 + 3 + 3) (sS (9 * i0 + 3 + 3))) kS oS a tS ik cA tp td fm tt vl wr bO sO nU mV) H := hP
        have hD : va_D _ (MW cI cJ A (upd (upd sS (9 * i0 + 3 + 3) x) (9 * i0 + 3 + 3) (sS (9 * i0 + 3 + 3))) kS oS a tS ik cA tp td fm tt vl wr bO sO nU mV) := hD
        have hE : upd (upd sS (9 * i0 + 3 + 3) x) (9 * i0 + 3 + 3) (sS (9 * i0 + 3 + 3)) = sS := upd_back _ _ _
        have hW : (MW cI cJ A (upd (upd sS (9 * i0 + 3 + 3) x) (9 * i0 + 3 + 3) (sS (9 * i0 + 3 + 3))) kS oS a tS ik cA tp td fm tt vl wr bO sO nU mV) = (MW cI cJ A sS kS oS a tS ik cA tp td fm tt vl wr bO sO nU mV) := congrArg (fun z => (MW cI cJ A z kS oS a tS ik cA tp td fm tt vl wr bO sO nU mV)) hE
        have hP : va_P D vwCl (MW cI cJ A sS kS oS a tS ik cA tp td fm tt vl wr bO sO nU mV) H := Eq.mp (congrArg (fun z => va_P D vwCl z H) hW) hP
        have hD : va_D _ (MW cI cJ A sS kS oS a tS ik cA tp td fm tt vl wr bO sO nU mV) := Eq.mp (congrArg (fun z => va_D _ z) hW) hD
        rcases by_endD hfo hi hx9 with ⟨rfl, hfs⟩ | ⟨j9, hj9, rfl, hfs⟩
        · refine lv_iload hx hb dX4_nose_99 (lv_at hl 5 rfl) ?_
          refine lv_if_ge (tgt := 113) hx hb dX4_nose_101 rfl (fun c101 => ?_) (fun c101 => ?_)
          · exact absurd c101 (by decide)
          · refine lv_aload_n hx hb dX4_nose_104 rfl (lv_at hl 0 rfl) ?_
            refine lv_ldc (v := (-1000000004)) hx hb hown (hts _ wq_X4_186) dX4_nose_105 ?_
            refine mu_W (w := (MW cI cJ A sS kS oS a tS ik cA tp td fm tt vl wr bO sO nU mV)) (rest := []) S hK hP hD hS (k_X4_finds 3 (-1000000004) (by decide) (by decide)) gv_X4_63 hd_X4_finds ⟨Nat.le_of_ble_eq_true rfl, Nat.le_of_ble_eq_true rfl⟩ 4 rfl rfl rfl rfl hl.1 (lv_room (Nat.le_of_ble_eq_true rfl)) dX4_nose_107 ⟨Nat.zero_le _, Nat.zero_le _⟩ (fun ov w' H locs hp hP hD hS => ?_)
            obtain ⟨rfl, rfl⟩ := hp
            refine W.eq (g2 := F0 m 110 ls [.int (-1000000004)]) rfl ?_
            refine lv_goto (tgt := 115) hx hb dX4_nose_110 rfl ?_
            have hE : upd tS 3 (tS 3 + 1) = noseT sS tS n (nI i0) (nI j0) := by simp [noseR, noseT, noseOk, noseJ, bump, put9, b2i, c5, c17, c50, c101, ei0, ej0, hfs, i_lt, -Int32.not_le, -Int32.not_lt]
            have hW : (MW cI cJ A sS kS oS a (upd tS 3 (tS 3 + 1)) ik cA tp td fm tt vl wr bO sO nU mV) = (MW cI cJ A sS kS oS a (noseT sS tS n (nI i0) (nI j0)) ik cA tp td fm tt vl wr bO sO nU mV) := congrArg (fun z => (MW cI cJ A sS kS oS a z ik cA tp td fm tt vl wr bO sO nU mV)) hE
            have hP : va_P D vwCl (MW cI cJ A sS kS oS a (noseT sS tS n (nI i0) (nI j0)) ik cA tp td fm tt vl wr bO sO nU mV) H := Eq.mp (congrArg (fun z => va_P D vwCl z H) hW) hP
            have hD : va_D _ (MW cI cJ A sS kS oS a (noseT sS tS n (nI i0) (nI j0)) ik cA tp td fm tt vl wr bO sO nU mV) := Eq.mp (congrArg (fun z => va_D _ z) hW) hD
            exact mu_iret (MW cI cJ A sS kS oS a (noseT sS tS n (nI i0) (nI j0)) ik cA tp td fm tt vl wr bO sO nU mV) hx hb hr hlk hP hS rfl (⟨a, congrArg (fun z => some (Value.int z)) (by simp [noseR, noseT, noseOk, noseJ, bump, put9, b2i, c5, c17, c50, c101, ei0, ej0, hfs, i_lt, -Int32.not_le, -Int32.not_lt]), rfl⟩) dX4_nose_115
        · have j9n : ¬ j9 = 100 := by omega
          refine lv_iload hx hb dX4_nose_99 (lv_at hl 5 rfl) ?_
          refine lv_if_ge (tgt := 113) hx hb dX4_nose_101 rfl (fun c101 => ?_) (fun c101 => ?_)
          · refine lv_iload hx hb dX4_nose_113 (lv_at hl 5 rfl) ?_
            have hE : tS = noseT sS tS n (nI i0) (nI j0) := by simp [noseR, noseT, noseOk, noseJ, bump, put9, b2i, c5, c17, c50, c101, ei0, ej0, hfs, j9n, i_lt, -Int32.not_le, -Int32.not_lt]
            have hW : (MW cI cJ A sS kS oS a tS ik cA tp td fm tt vl wr bO sO nU mV) = (MW cI cJ A sS kS oS a (noseT sS tS n (nI i0) (nI j0)) ik cA tp td fm tt vl wr bO sO nU mV) := congrArg (fun z => (MW cI cJ A sS kS oS a z ik cA tp td fm tt vl wr bO sO nU mV)) hE
            have hP : va_P D vwCl (MW cI cJ A sS kS oS a (noseT sS tS n (nI i0) (nI j0)) ik cA tp td fm tt vl wr bO sO nU mV) H := Eq.mp (congrArg (fun z => va_P D vwCl z H) hW) hP
            have hD : va_D _ (MW cI cJ A sS kS oS a (noseT sS tS n (nI i0) (nI j0)) ik cA tp td fm tt vl wr bO sO nU mV) := Eq.mp (congrArg (fun z => va_D _ z) hW) hD
            exact mu_iret (MW cI cJ A sS kS oS a (noseT sS tS n (nI i0) (nI j0)) ik cA tp td fm tt vl wr bO sO nU mV) hx hb hr hlk hP hS rfl (⟨a, congrArg (fun z => some (Value.int z)) (by simp [noseR, noseT, noseOk, noseJ, bump, put9, b2i, c5, c17, c50, c101, ei0, ej0, hfs, j9n, i_lt, -Int32.not_le, -Int32.not_lt]), rfl⟩) dX4_nose_115
          · exact absurd (nI_pos' (by omega)) c101
      · replace c50 := dn_ge (c := 99) hi (by decide) (Int32.not_lt.mp c50)
        refine lv_iload hx hb dX4_nose_53 (lv_at hl 5 rfl) ?_
        refine lv_if_ge (tgt := 91) hx hb dX4_nose_55 rfl (fun c55 => ?_) (fun c55 => ?_)
        · have hx9 : i = 100 ∨ 0 ≤ fo := Or.inr c55
          refine lv_aload_n hx hb dX4_nose_91 rfl (lv_at hl 0 rfl) ?_
          refine va_get (ci := 4) (v := .ref (A 1)) hx hb hts wx_X4 hown hK hP 0 rfl rfl 0 (by decide) (hts _ wf_X4_7) (fun _ h9 => h9) rfl dX4_nose_92 ?_
          refine lv_iload_n hx hb dX4_nose_95 rfl (lv_at hl 3 rfl) ?_
          refine lv_iload hx hb dX4_nose_96 (lv_at hl 4 rfl) ?_
          refine ia_st hx hb hK hP hD hS 1 0 rfl rfl (9 * i0 + 3 + 3) (rfl) (by omega) (by decide) dX4_nose_98 (fun H locs hP hD hS => ?_)
          have hP : va_P D vwCl (MW cI cJ A (upd (upd sS (9 * i0 + 3 + 3) x) (9 * i0 + 3 + 3) (sS (9 * i0 + 3 + 3))) kS oS a tS ik cA tp td fm tt vl wr bO sO nU mV) H := hP
          have hD : va_D _ (MW cI cJ A (upd (upd sS (9 * i0 + 3 + 3) x) (9 * i0 + 3 + 3) (sS (9 * i0 + 3 + 3))) kS oS a tS ik cA tp td fm tt vl wr bO sO nU mV) := hD
          have hE : upd (upd sS (9 * i0 + 3 + 3) x) (9 * i0 + 3 + 3) (sS (9 * i0 + 3 + 3)) = sS := upd_back _ _ _
          have hW : (MW cI cJ A (upd (upd sS (9 * i0 + 3 + 3) x) (9 * i0 + 3 + 3) (sS (9 * i0 + 3 + 3))) kS oS a tS ik cA tp td fm tt vl wr bO sO nU mV) = (MW cI cJ A sS kS oS a tS ik cA tp td fm tt vl wr bO sO nU mV) := congrArg (fun z => (MW cI cJ A z kS oS a tS ik cA tp td fm tt vl wr bO sO nU mV)) hE
          have hP : va_P D vwCl (MW cI cJ A sS kS oS a tS ik cA tp td fm tt vl wr bO sO nU mV) H := Eq.mp (congrArg (fun z => va_P D vwCl z H) hW) hP
          have hD : va_D _ (MW cI cJ A sS kS oS a tS ik cA tp td fm tt vl wr bO sO nU mV) := Eq.mp (congrArg (fun z => va_D _ z) hW) hD
          rcases by_endD hfo hi hx9 with ⟨rfl, hfs⟩ | ⟨j9, hj9, rfl, hfs⟩
          · refine lv_iload hx hb dX4_nose_99 (lv_at hl 5 rfl) ?_
            refine lv_if_ge (tgt := 113) hx hb dX4_nose_101 rfl (fun c101 => ?_) (fun c101 => ?_)
            · exact absurd c101 (by decide)
            · refine lv_aload_n hx hb dX4_nose_104 rfl (lv_at hl 0 rfl) ?_
              refine lv_ldc (v := (-1000000004)) hx hb hown (hts _ wq_X4_186) dX4_nose_105 ?_
              refine mu_W (w := (MW cI cJ A sS kS oS a tS ik cA tp td fm tt vl wr bO sO nU mV)) (rest := []) S hK hP hD hS (k_X4_finds 3 (-1000000004) (by decide) (by decide)) gv_X4_63 hd_X4_finds ⟨Nat.le_of_ble_eq_true rfl, Nat.le_of_ble_eq_true rfl⟩ 4 rfl rfl rfl rfl hl.1 (lv_room (Nat.le_of_ble_eq_true rfl)) dX4_nose_107 ⟨Nat.zero_le _, Nat.zero_le _⟩ (fun ov w' H locs hp hP hD hS => ?_)
              obtain ⟨rfl, rfl⟩ := hp
              refine W.eq (g2 := F0 m 110 ls [.int (-1000000004)]) rfl ?_
              refine lv_goto (tgt := 115) hx hb dX4_nose_110 rfl ?_
              have hE : upd tS 3 (tS 3 + 1) = noseT sS tS n (nI i0) (nI j0) := by simp [noseR, noseT, noseOk, noseJ, bump, put9, b2i, c5, c17, c50, c55, c101, ei0, ej0, hfs, i_lt, -Int32.not_le, -Int32.not_lt]
              have hW : (MW cI cJ A sS kS oS a (upd tS 3 (tS 3 + 1)) ik cA tp td fm tt vl wr bO sO nU mV) = (MW cI cJ A sS kS oS a (noseT sS tS n (nI i0) (nI j0)) ik cA tp td fm tt vl wr bO sO nU mV) := congrArg (fun z => (MW cI cJ A sS kS oS a z ik cA tp td fm tt vl wr bO sO nU mV)) hE
              have hP : va_P D vwCl (MW cI cJ A sS kS oS a (noseT sS tS n (nI i0) (nI j0)) ik cA tp td fm tt vl wr bO sO nU mV) H := Eq.mp (congrArg (fun z => va_P D vwCl z H) hW) hP
              have hD : va_D _ (MW cI cJ A sS kS oS a (noseT sS tS n (nI i0) (nI j0)) ik cA tp td fm tt vl wr bO sO nU mV) := Eq.mp (congrArg (fun z => va_D _ z) hW) hD
              exact mu_iret (MW cI cJ A sS kS oS a (noseT sS tS n (nI i0) (nI j0)) ik cA tp td fm tt vl wr bO sO nU mV) hx hb hr hlk hP hS rfl (⟨a, congrArg (fun z => some (Value.int z)) (by simp [noseR, noseT, noseOk, noseJ, bump, put9, b2i, c5, c17, c50, c55, c101, ei0, ej0, hfs, i_lt, -Int32.not_le, -Int32.not_lt]), rfl⟩) dX4_nose_115
          · have j9n : ¬ j9 = 100 := by omega
            refine lv_iload hx hb dX4_nose_99 (lv_at hl 5 rfl) ?_
            refine lv_if_ge (tgt := 113) hx hb dX4_nose_101 rfl (fun c101 => ?_) (fun c101 => ?_)
            · refine lv_iload hx hb dX4_nose_113 (lv_at hl 5 rfl) ?_
              have hE : tS = noseT sS tS n (nI i0) (nI j0) := by simp [noseR, noseT, noseOk, noseJ, bump, put9, b2i, c5, c17, c50, c55, c101, ei0, ej0, hfs, j9n, i_lt, -Int32.not_le, -Int32.not_lt]
              have hW : (MW cI cJ A sS kS oS a tS ik cA tp td fm tt vl wr bO sO nU mV) = (MW cI cJ A sS kS oS a (noseT sS tS n (nI i0) (nI j0)) ik cA tp td fm tt vl wr bO sO nU mV) := congrArg (fun z => (MW cI cJ A sS kS oS a z ik cA tp td fm tt vl wr bO sO nU mV)) hE
              have hP : va_P D vwCl (MW cI cJ A sS kS oS a (noseT sS tS n (nI i0) (nI j0)) ik cA tp td fm tt vl wr bO sO nU mV) H := Eq.mp (congrArg (fun z => va_P D vwCl z H) hW) hP
              have hD : va_D _ (MW cI cJ A sS kS oS a (noseT sS tS n (nI i0) (nI j0)) ik cA tp td fm tt vl wr bO sO nU mV) := Eq.mp (congrArg (fun z => va_D _ z) hW) hD
              exact mu_iret (MW cI cJ A sS kS oS a (noseT sS tS n (nI i0) (nI j0)) ik cA tp td fm tt vl wr bO sO nU mV) hx hb hr hlk hP hS rfl (⟨a, congrArg (fun z => some (Value.int z)) (by simp [noseR, noseT, noseOk, noseJ, bump, put9, b2i, c5, c17, c50, c55, c101, ei0, ej0, hfs, j9n, i_lt, -Int32.not_le, -Int32.not_lt]), rfl⟩) dX4_nose_115
            · exact absurd (nI_pos' (by omega)) c101
        · have hfo1 : fo = -1 ∧ ∀ j, j < i → noseP sS n i0 j0 j = false := hfo.resolve_right (fun ⟨k, e1, e2, e3, e4⟩ => c55 (by rw [e2]; exact nI_pos' (by omega)))
          refine lv_aload_n hx hb dX4_nose_58 rfl (lv_at hl 0 rfl) ?_
          refine va_get (ci := 4) (v := .ref (A 1)) hx hb hts wx_X4 hown hK hP 0 rfl rfl 0 (by decide) (hts _ wf_X4_7) (fun _ h9 => h9) rfl dX4_nose_59 ?_
          refine lv_iload_n hx hb dX4_nose_62 rfl (lv_at hl 3 rfl) ?_
          refine lv_iload hx hb dX4_nose_63 (lv_at hl 6 rfl) ?_
          refine w_i (z := nI (99 - i)) (pk_sub (by omega)) ?_
          refine ia_st hx hb hK hP hD hS 1 0 rfl rfl (9 * i0 + 3 + 3) (rfl) (by omega) (by decide) dX4_nose_65 (fun H locs hP hD hS => ?_)
          have hP : va_P D vwCl (MW cI cJ A (upd (upd sS (9 * i0 + 3 + 3) x) (9 * i0 + 3 + 3) (nI (99 - i))) kS oS a tS ik cA tp td fm tt vl wr bO sO nU mV) H := hP
          have hD : va_D _ (MW cI cJ A (upd (upd sS (9 * i0 + 3 + 3) x) (9 * i0 + 3 + 3) (nI (99 - i))) kS oS a tS ik cA tp td fm tt vl wr bO sO nU mV) := hD
          have hE : upd (upd sS (9 * i0 + 3 + 3) x) (9 * i0 + 3 + 3) (nI (99 - i)) = upd sS (9 * i0 + 3 + 3) (nI (99 - i)) := upd_upd _ _ _ _
          have hW : (MW cI cJ A (upd (upd sS (9 * i0 + 3 + 3) x) (9 * i0 + 3 + 3) (nI (99 - i))) kS oS a tS ik cA tp td fm tt vl wr bO sO nU mV) = (MW cI cJ A (upd sS (9 * i0 + 3 + 3) (nI (99 - i))) kS oS a tS ik cA tp td fm tt vl wr bO sO nU mV) := congrArg (fun z => (MW cI cJ A z kS oS a tS ik cA tp td fm tt vl wr bO sO nU mV)) hE
          have hP : va_P D vwCl (MW cI cJ A (upd sS (9 * i0 + 3 + 3) (nI (99 - i))) kS oS a tS ik cA tp td fm tt vl wr bO sO nU mV) H := Eq.mp (congrArg (fun z => va_P D vwCl z H) hW) hP
          have hD : va_D _ (MW cI cJ A (upd sS (9 * i0 + 3 + 3) (nI (99 - i))) kS oS a tS ik cA tp td fm tt vl wr bO sO nU mV) := Eq.mp (congrArg (fun z => va_D _ z) hW) hD
          have hI : Inv (upd sS (9 * i0 + 3 + 3) (nI (99 - i))) n := Inv_pv (f := i0) (w := 3) (v := 99 - i) (b := 99) hI0 (by omega) (by omega)
          refine lv_aload_n hx hb dX4_nose_66 rfl (lv_at hl 0 rfl) ?_
          refine lv_iload_n hx hb dX4_nose_67 rfl (lv_at hl 3 rfl) ?_
          refine lv_iload_n hx hb dX4_nose_68 rfl (lv_at hl 2 rfl) ?_
          refine mu_W (w := (MW cI cJ A (upd sS (9 * i0 + 3 + 3) (nI (99 - i))) kS oS a tS ik cA tp td fm tt vl wr bO sO nU mV)) (rest := []) S hK hP hD hS (k_X4_behind n (9 * i0 + 3 + 3) j0 hI (by omega) (by omega)) gv_X4_183 hd_X4_behind ⟨Nat.le_of_ble_eq_true rfl, Nat.le_of_ble_eq_true rfl⟩ 4 rfl rfl rfl rfl hl.1 (lv_room (Nat.le_of_ble_eq_true rfl)) dX4_nose_69 ⟨Nat.zero_le _, Nat.zero_le _⟩ (fun ov w' H locs hp hP hD hS => ?_)
          obtain ⟨rfl, rfl⟩ := hp
          refine W.eq (g2 := F0 m 72 ls [.int (hoursF (upd sS (9 * i0 + 3 + 3) (nI (99 - i))) n j0 (9 * i0 + 3 + 3))]) rfl ?_
          refine lv_bipush (v := 10) hx hb dX4_nose_72 rfl ?_
          refine lv_icmp_gt (tgt := 82) hx hb dX4_nose_74 rfl (fun c74 => ?_) (fun c74 => ?_)
          · replace c74 := Int32.not_le.mpr c74
            have hfo2 : ((-1 : Int32) = -1 ∧ ∀ j, j < i + 1 → noseP sS n i0 j0 j = false) ∨ (∃ k, i + 1 = k + 1 ∧ (-1 : Int32) = nI (99 - k) ∧ noseP sS n i0 j0 k = true ∧ ∀ j, j < k → noseP sS n i0 j0 j = false) := Or.inl ⟨rfl, lt_s hfo1.2 (decide_eq_false c74)⟩
            refine lv_iconst (v := (-1)) hx hb dX4_nose_82 rfl ?_
            refine lv_istore (lv' := [(5, .int (-1)), (0, .ref (A 0)), (1, .int (nI i0)), (2, .int (nI j0)), (3, .int (nI (9 * i0 + 3 + 3))), (4, .int (sS (9 * i0 + 3 + 3))), (6, .int (nI 99 - nI i))]) hx hb dX4_nose_83 hl (by decide) rfl (fun ls hl => ?_)
            refine lv_iinc (v := nI 99 - nI (i + 1)) (lv' := [(6, .int (nI 99 - nI (i + 1))), (5, .int (-1)), (0, .ref (A 0)), (1, .int (nI i0)), (2, .int (nI j0)), (3, .int (nI (9 * i0 + 3 + 3))), (4, .int (sS (9 * i0 + 3 + 3)))]) hx hb dX4_nose_85 hl (k := 6) rfl (dn_inc) (by decide) rfl (fun ls hl => ?_)
            refine lv_goto (tgt := 48) hx hb dX4_nose_88 rfl ?_
            exact ih48 (i + 1, (-1), nI (99 - i), upd sS (9 * i0 + 3 + 3) (nI (99 - i))) _ _ ls (by first | omega | (dsimp only; omega)) ⟨(by omega), hfo2, hP, hD, hS, lv_sub hl [2, 3, 4, 5, 6, 1, 0] rfl⟩
          · replace c74 := Int32.not_lt.mp c74
            have hfo2 : (nI (99 - i) = -1 ∧ ∀ j, j < i + 1 → noseP sS n i0 j0 j = false) ∨ (∃ k, i + 1 = k + 1 ∧ nI (99 - i) = nI (99 - k) ∧ noseP sS n i0 j0 k = true ∧ ∀ j, j < k → noseP sS n i0 j0 j = false) := Or.inr ⟨i, rfl, rfl, decide_eq_true c74, hfo1.2⟩
            refine lv_iload hx hb dX4_nose_77 (lv_at hl 6 rfl) ?_
            refine w_i (z := nI (99 - i)) (pk_sub (by omega)) ?_
            refine lv_goto (tgt := 83) hx hb dX4_nose_79 rfl ?_
            refine lv_istore (lv' := [(5, .int (nI (99 - i))), (0, .ref (A 0)), (1, .int (nI i0)), (2, .int (nI j0)), (3, .int (nI (9 * i0 + 3 + 3))), (4, .int (sS (9 * i0 + 3 + 3))), (6, .int (nI 99 - nI i))]) hx hb dX4_nose_83 hl (by decide) rfl (fun ls hl => ?_)
            refine lv_iinc (v := nI 99 - nI (i + 1)) (lv' := [(6, .int (nI 99 - nI (i + 1))), (5, .int (nI (99 - i))), (0, .ref (A 0)), (1, .int (nI i0)), (2, .int (nI j0)), (3, .int (nI (9 * i0 + 3 + 3))), (4, .int (sS (9 * i0 + 3 + 3)))]) hx hb dX4_nose_85 hl (k := 6) rfl (dn_inc) (by decide) rfl (fun ls hl => ?_)
            refine lv_goto (tgt := 48) hx hb dX4_nose_88 rfl ?_
            exact ih48 (i + 1, nI (99 - i), nI (99 - i), upd sS (9 * i0 + 3 + 3) (nI (99 - i))) _ _ ls (by first | omega | (dsimp only; omega)) ⟨(by omega), hfo2, hP, hD, hS, lv_sub hl [2, 3, 4, 5, 6, 1, 0] rfl⟩
    · replace c17 := (b2i_0 _).mp c17
      refine lv_aload_n hx hb dX4_nose_20 rfl (lv_at hl 0 rfl) ?_
      refine lv_ldc (v := (-1000000001)) hx hb hown (hts _ wq_X4_44) dX4_nose_21 ?_
      refine mu_W (w := (MW cI cJ A sS kS oS aS tS ik cA tp td fm tt vl wr bO sO nU mV)) (rest := []) S hK hP hD hS (k_X4_finds 0 (-1000000001) (by decide) (by decide)) gv_X4_63 hd_X4_finds ⟨Nat.le_of_ble_eq_true rfl, Nat.le_of_ble_eq_true rfl⟩ 4 rfl rfl rfl rfl hl.1 (lv_room (Nat.le_of_ble_eq_true rfl)) dX4_nose_23 ⟨Nat.zero_le _, Nat.zero_le _⟩ (fun ov w' H locs hp hP hD hS => ?_)
      obtain ⟨rfl, rfl⟩ := hp
      refine W.eq (g2 := F0 m 26 ls [.int (-1000000001)]) rfl ?_
      have hE : upd tS 0 (tS 0 + 1) = noseT sS tS n (nI i0) k := by simp [noseR, noseT, noseOk, noseJ, bump, put9, b2i, c5, c17, ei0, i_lt, -Int32.not_le, -Int32.not_lt]
      have hW : (MW cI cJ A sS kS oS aS (upd tS 0 (tS 0 + 1)) ik cA tp td fm tt vl wr bO sO nU mV) = (MW cI cJ A sS kS oS aS (noseT sS tS n (nI i0) k) ik cA tp td fm tt vl wr bO sO nU mV) := congrArg (fun z => (MW cI cJ A sS kS oS aS z ik cA tp td fm tt vl wr bO sO nU mV)) hE
      have hP : va_P D vwCl (MW cI cJ A sS kS oS aS (noseT sS tS n (nI i0) k) ik cA tp td fm tt vl wr bO sO nU mV) H := Eq.mp (congrArg (fun z => va_P D vwCl z H) hW) hP
      have hD : va_D _ (MW cI cJ A sS kS oS aS (noseT sS tS n (nI i0) k) ik cA tp td fm tt vl wr bO sO nU mV) := Eq.mp (congrArg (fun z => va_D _ z) hW) hD
      exact mu_iret (MW cI cJ A sS kS oS aS (noseT sS tS n (nI i0) k) ik cA tp td fm tt vl wr bO sO nU mV) hx hb hr hlk hP hS rfl (⟨aS, congrArg (fun z => some (Value.int z)) (by simp [noseR, noseT, noseOk, noseJ, bump, put9, b2i, c5, c17, ei0, i_lt, -Int32.not_le, -Int32.not_lt]), rfl⟩) dX4_nose_26

end
