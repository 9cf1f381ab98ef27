theorem best_pos {ok : Nat → Bool} {val : Nat → Int32} : ∀ {m : Nat}, m < 1000 → (bestF ok val (-1) m).1 = -1 ∨ 0 ≤ (bestF ok val (-1) m).1
  | 0, _ => by rw [bestF]; exact Or.inl rfl
  | m + 1, h => by
    rw [bestF]
    split
    · right; exact nI_pos' (by omega)
    · exact best_pos (by omega)
section
variable {l : Launch} {D : va_G} {cI cJ cO : ClassId} {B : Nat → Nat} {gG tG kG : Nat → Int32} {ik le : Int32} {by_ : Nat → Int32} {tk bg en va tn b0 l0 : Int32} {u0 : Nat → Int64} {b1 l1 : Int32} {u1 : Nat → Int64} {b2 l2 : Int32} {u2 : Nat → Int64} {b3 l3 : Int32} {u3 : Nat → Int64} {fS cW : Nat → Int32}

set_option maxHeartbeats 4000000 in
set_option maxRecDepth 100000 in
theorem k_X3_mostContentWith (n : Nat) (f : Nat) (w : Nat) (u : Nat) (k : Nat) (hIv : ∀ v, v ≤ u → Inv (upd gG (9 * f + w + 3) (nI v)) n) (hh : rng (gG 0) 0 200000) (hf : f < 8) (hw : w < 9) (hu : u < 100) (hk : k ≤ 1000) : MU l D (tyA cI cJ cO) yX3_mostContentWith cX3_mostContentWith 9 ((some .int)) 5 115 [.ref (B 0), .int (nI f), .int (nI w), .int (nI u), .int (nI k)] (VW cI cJ cO B gG tG kG ik le by_ tk bg en va tn b0 l0 u0 b1 l1 u1 b2 l2 u2 b3 l3 u3 fS cW) (fun ov w' => ∃ tG' : Nat → Int32, ov = some (.int (mostB gG n k (9 * f + w + 3) (u + 1))) ∧ w' = (VW cI cJ cO B gG tG' kG ik le by_ tk bg en va tn b0 l0 u0 b1 l1 u1 b2 l2 u2 b3 l3 u3 fS cW)) := by
  refine MU.mk (by decide) (Nat.le_of_ble_eq_true rfl) ?_
  intro p e s m below meth c ls S hr hlk hP hK hD hS hl
  have S : CallFix p m c cX3_mostContentWith 9 s _ WL RX3 := S
  obtain ⟨hx, hb, hml, hown, hts⟩ := id S
  have hl : lv_has ls 9 [(0, .ref (B 0)), (1, .int (nI f)), (2, .int (nI w)), (3, .int (nI u)), (4, .int (nI k))] := hl
  have hh0 := hh
  refine lv_iconst (v := 0) hx hb dX3_mostContentWith_0 rfl ?_
  refine w_i (z := (bestF yesP (mostV gG n k (9 * f + w + 3)) 0 0).1) (by rw [bestF]) ?_
  refine lv_istore (lv' := [(5, .int ((bestF yesP (mostV gG n k (9 * f + w + 3)) 0 0).1)), (0, .ref (B 0)), (1, .int (nI f)), (2, .int (nI w)), (3, .int (nI u)), (4, .int (nI k))]) hx hb dX3_mostContentWith_1 hl (by decide) rfl (fun ls hl => ?_)
  refine lv_iconst (v := (-1)) hx hb dX3_mostContentWith_3 rfl ?_
  refine w_i (z := (bestF yesP (mostV gG n k (9 * f + w + 3)) 0 0).2) (by rw [bestF]) ?_
  refine lv_istore (lv' := [(6, .int ((bestF yesP (mostV gG n k (9 * f + w + 3)) 0 0).2)), (5, .int ((bestF yesP (mostV gG n k (9 * f + w + 3)) 0 0).1)), (0, .ref (B 0)), (1, .int (nI f)), (2, .int (nI w)), (3, .int (nI u)), (4, .int (nI k))]) hx hb dX3_mostContentWith_4 hl (by decide) rfl (fun ls hl => ?_)
  refine lv_iconst (v := 0) hx hb dX3_mostContentWith_6 rfl ?_
  refine lv_istore (lv' := [(7, .int 0), (6, .int ((bestF yesP (mostV gG n k (9 * f + w + 3)) 0 0).2)), (5, .int ((bestF yesP (mostV gG n k (9 * f + w + 3)) 0 0).1)), (0, .ref (B 0)), (1, .int (nI f)), (2, .int (nI w)), (3, .int (nI u)), (4, .int (nI k))]) hx hb dX3_mostContentWith_7 hl (by decide) rfl (fun ls hl => ?_)
  refine w_loopH (pc := 9) (st := fun (x : Nat × (Nat → Int32)) => match x with | (i, t) => []) (μ := fun (x : Nat × (Nat → Int32)) => match x with | (i, t) => (u + 1) - i) (I := fun (x : Nat × (Nat → Int32)) H locs ls => match x with | (i, t) => (i ≤ u + 1) ∧ va_P D vwCl (VW cI cJ cO B gG t kG ik le by_ tk bg en va tn b0 l0 u0 b1 l1 u1 b2 l2 u2 b3 l3 u3 fS cW) H ∧ va_D (fun z9 => z9 ∈ ((VW cI cJ cO B gG tG kG ik le by_ tk bg en va tn b0 l0 u0 b1 l1 u1 b2 l2 u2 b3 l3 u3 fS cW)).map (fun z8 => z8.1)) (VW cI cJ cO B gG t kG ik le by_ tk bg en va tn b0 l0 u0 b1 l1 u1 b2 l2 u2 b3 l3 u3 fS cW) ∧ va_S (fun z9 => z9 ∈ ((VW cI cJ cO B gG tG kG ik le by_ tk bg en va tn b0 l0 u0 b1 l1 u1 b2 l2 u2 b3 l3 u3 fS cW)).map (fun z8 => z8.1)) s.heap H locs ∧ lv_has ls 9 [(0, .ref (B 0)), (1, .int (nI f)), (2, .int (nI w)), (3, .int (nI u)), (4, .int (nI k)), (5, .int ((bestF yesP (mostV gG n k (9 * f + w + 3)) 0 i).1)), (6, .int ((bestF yesP (mostV gG n k (9 * f + w + 3)) 0 i).2)), (7, .int (nI i))]) ?_ (0, tG) ⟨Nat.zero_le _, hP, hD, hS, lv_sub hl [3, 4, 5, 6, 7, 2, 1, 0] rfl⟩
  rintro ⟨i, t⟩ H locs ls ⟨hi, hP, hD, hS, hl⟩ ih9
  try dsimp only at ih9 ⊢
  refine lv_iload hx hb dX3_mostContentWith_9 (lv_at hl 7 rfl) ?_
  refine lv_iload_n hx hb dX3_mostContentWith_11 rfl (lv_at hl 3 rfl) ?_
  refine lv_icmp_gt (tgt := 62) hx hb dX3_mostContentWith_12 rfl (fun c12 => ?_) (fun c12 => ?_)
  · replace c12 := nq_lt (a := u) (b := i) (by omega) (by omega) c12
    obtain rfl : i = u + 1 := by omega
    refine lv_iload hx hb dX3_mostContentWith_62 (lv_at hl 5 rfl) ?_
    exact mu_iret (VW cI cJ cO B gG t kG ik le by_ tk bg en va tn b0 l0 u0 b1 l1 u1 b2 l2 u2 b3 l3 u3 fS cW) hx hb hr hlk hP hS rfl (⟨t, congrArg (fun z => some (Value.int z)) (by simp [mostB, bump, put9, b2i, c12, i_lt, -Int32.not_le, -Int32.not_lt]), rfl⟩) dX3_mostContentWith_64
  · replace c12 := nq_nlt (a := u) (b := i) (by omega) (by omega) c12
    refine lv_aload_n hx hb dX3_mostContentWith_15 rfl (lv_at hl 0 rfl) ?_
    refine lv_iload_n hx hb dX3_mostContentWith_16 rfl (lv_at hl 1 rfl) ?_
    refine lv_iload_n hx hb dX3_mostContentWith_17 rfl (lv_at hl 2 rfl) ?_
    refine lv_iload hx hb dX3_mostContentWith_18 (lv_at hl 7 rfl) ?_
    refine mu_W (w := (VW cI cJ cO B gG t kG ik le by_ tk bg en va tn b0 l0 u0 b1 l1 u1 b2 l2 u2 b3 l3 u3 fS cW)) (rest := []) S hK hP hD hS (k_X3_suppose f w (nI i) (by omega) (by omega)) gv_X3_151 hd_X3_suppose ⟨Nat.le_of_ble_eq_true rfl, Nat.le_of_ble_eq_true rfl⟩ 3 rfl rfl rfl rfl hl.1 (lv_room (Nat.le_of_ble_eq_true rfl)) dX3_mostContentWith_20 ⟨Nat.zero_le _, Nat.zero_le _⟩ (fun ov w' H locs hp hP hD hS => ?_)
    obtain ⟨rfl, rfl⟩ := hp
    refine W.eq (g2 := F0 m 23 ls []) rfl ?_
    refine lv_aload_n hx hb dX3_mostContentWith_23 rfl (lv_at hl 0 rfl) ?_
    refine va_get (ci := 3) (v := .ref (B 3)) hx hb hts wx_X3 hown hK hP 0 rfl rfl 1 (by decide) (hts _ wf_X3_16) (fun _ h9 => h9) rfl dX3_mostContentWith_24 ?_
    refine lv_iload hx hb dX3_mostContentWith_27 (lv_at hl 4 rfl) ?_
    have hI : Inv (put9 gG f w (nI i)) n := hIv i (by omega)
    have hh : rng ((put9 gG f w (nI i)) 0) 0 200000 := by rw [put_lo (by decide)]; exact hh0
    refine mu_V (w := (GW cI (B 3) (B 4) ((put9 gG f w (nI i)) 0) ((put9 gG f w (nI i)) 2) ((put9 gG f w (nI i)) 1) (tl (put9 gG f w (nI i))))) (rest := []) S hK hP hD hS (k_X0_pass n k hI hh (by omega)) gv_X3_131 hd_X0_pass ⟨Nat.le_of_ble_eq_true rfl, Nat.le_of_ble_eq_true rfl⟩ [3, 4] rfl rfl 0 rfl rfl rfl rfl hl.1 (lv_room (Nat.le_of_ble_eq_true rfl)) dX3_mostContentWith_29 ⟨Nat.zero_le _, Nat.zero_le _⟩ (fun ov w' H locs hp hP hD hS => ?_)
    obtain ⟨rfl, rfl⟩ := hp
    have hP : va_P D vwCl (VW cI cJ cO B gG (hoursF (put9 gG f w (nI i)) n k) kG ik le by_ tk bg en va tn b0 l0 u0 b1 l1 u1 b2 l2 u2 b3 l3 u3 fS cW) H := hP
    have hD : va_D _ (VW cI cJ cO B gG (hoursF (put9 gG f w (nI i)) n k) kG ik le by_ tk bg en va tn b0 l0 u0 b1 l1 u1 b2 l2 u2 b3 l3 u3 fS cW) := hD
    refine W.eq (g2 := F0 m 32 ls []) rfl ?_
    refine lv_aload_n hx hb dX3_mostContentWith_32 rfl (lv_at hl 0 rfl) ?_
    refine va_get (ci := 3) (v := .ref (B 3)) hx hb hts wx_X3 hown hK hP 0 rfl rfl 1 (by decide) (hts _ wf_X3_16) (fun _ h9 => h9) rfl dX3_mostContentWith_33 ?_
    have hI := Inv_hours hI k
    refine ro_V (w := (GW cI (B 3) (B 4) ((hoursF (put9 gG f w (nI i)) n k) 0) ((hoursF (put9 gG f w (nI i)) n k) 2) ((hoursF (put9 gG f w (nI i)) n k) 1) (tl (hoursF (put9 gG f w (nI i)) n k)))) (rest := []) S hK (hP.sub [3, 4] rfl) (k_X0_howManyContent n hI) gv_X3_145 hd_X0_howManyContent ⟨Nat.le_of_ble_eq_true rfl, Nat.le_of_ble_eq_true rfl⟩ 0 rfl rfl rfl rfl hl.1 (lv_room (Nat.le_of_ble_eq_true rfl)) dX3_mostContentWith_36 ⟨Nat.zero_le _, Nat.zero_le _⟩ ?_
    refine w_i (z := mostV gG n k (9 * f + w + 3) i) (rfl) ?_
    refine lv_istore (lv' := [(8, .int (mostV gG n k (9 * f + w + 3) i)), (0, .ref (B 0)), (1, .int (nI f)), (2, .int (nI w)), (3, .int (nI u)), (4, .int (nI k)), (5, .int ((bestF yesP (mostV gG n k (9 * f + w + 3)) 0 i).1)), (6, .int ((bestF yesP (mostV gG n k (9 * f + w + 3)) 0 i).2)), (7, .int (nI i))]) hx hb dX3_mostContentWith_39 hl (by decide) rfl (fun ls hl => ?_)
    refine lv_iload hx hb dX3_mostContentWith_41 (lv_at hl 0 rfl) ?_
    refine lv_iload hx hb dX3_mostContentWith_43 (lv_at hl 7 rfl) ?_
    refine lv_icmp_le (tgt := 56) hx hb dX3_mostContentWith_45 rfl (fun c45 => ?_) (fun c45 => ?_)
    · rw [show bestF yesP (mostV gG n k (9 * f + w + 3)) 0 i = bestF yesP (mostV gG n k (9 * f + w + 3)) 0 (i + 1) from best_f (fun _ => c45)] at hl
      refine lv_iinc (v := nI (i + 1)) (lv' := [(7, .int (nI (i + 1))), (8, .int (mostV gG n k (9 * f + w + 3) i)), (0, .ref (B 0)), (1, .int (nI f)), (2, .int (nI w)), (3, .int (nI u)), (4, .int (nI k)), (5, .int ((bestF yesP (mostV gG n k (9 * f + w + 3)) 0 (i + 1)).1)), (6, .int ((bestF yesP (mostV gG n k (9 * f + w + 3)) 0 (i + 1)).2))]) hx hb dX3_mostContentWith_56 hl (k := 8) rfl (nI_inc _) (by decide) rfl (fun ls hl => ?_)
      refine lv_goto (tgt := 9) hx hb dX3_mostContentWith_59 rfl ?_
      exact ih9 (i + 1, hoursF (put9 gG f w (nI i)) n k) _ _ ls (by first | omega | (dsimp only; omega)) ⟨(by omega), hP, hD, hS, lv_sub hl [2, 3, 4, 5, 6, 7, 8, 0] rfl⟩
    · refine lv_iload hx hb dX3_mostContentWith_48 (lv_at hl 0 rfl) ?_
      refine w_i (z := (bestF yesP (mostV gG n k (9 * f + w + 3)) 0 (i + 1)).2) (congrArg Prod.snd (best_t (rfl) c45)) ?_
      refine lv_istore (lv' := [(6, .int ((bestF yesP (mostV gG n k (9 * f + w + 3)) 0 (i + 1)).2)), (8, .int (mostV gG n k (9 * f + w + 3) i)), (0, .ref (B 0)), (1, .int (nI f)), (2, .int (nI w)), (3, .int (nI u)), (4, .int (nI k)), (5, .int ((bestF yesP (mostV gG n k (9 * f + w + 3)) 0 i).1)), (7, .int (nI i))]) hx hb dX3_mostContentWith_50 hl (by decide) rfl (fun ls hl => ?_)
      refine lv_iload hx hb dX3_mostContentWith_52 (lv_at hl 8 rfl) ?_
      refine w_i (z := (bestF yesP (mostV gG n k (9 * f + w + 3)) 0 (i + 1)).1) (congrArg Prod.fst (best_t (rfl) c45)) ?_
      refine lv_istore (lv' := [(5, .int ((bestF yesP (mostV gG n k (9 * f + w + 3)) 0 (i + 1)).1)), (6, .int ((bestF yesP (mostV gG n k (9 * f + w + 3)) 0 (i + 1)).2)), (8, .int (mostV gG n k (9 * f + w + 3) i)), (0, .ref (B 0)), (1, .int (nI f)), (2, .int (nI w)), (3, .int (nI u)), (4, .int (nI k)), (7, .int (nI i))]) hx hb dX3_mostContentWith_54 hl (by decide) rfl (fun ls hl => ?_)
      refine lv_iinc (v := nI (i + 1)) (lv' := [(7, .int (nI (i + 1))), (5, .int ((bestF yesP (mostV gG n k (9 * f + w + 3)) 0 (i + 1)).1)), (6, .int ((bestF yesP (mostV gG n k (9 * f + w + 3)) 0 (i + 1)).2)), (8, .int (mostV gG n k (9 * f + w + 3) i)), (0, .ref (B 0)), (1, .int (nI f)), (2, .int (nI w)), (3, .int (nI u)), (4, .int (nI k))]) hx hb dX3_mostContentWith_56 hl (k := 8) rfl (nI_inc _) (by decide) rfl (fun ls hl => ?_)
      refine lv_goto (tgt := 9) hx hb dX3_mostContentWith_59 rfl ?_
      exact ih9 (i + 1, hoursF (put9 gG f w (nI i)) n k) _ _ ls (by first | omega | (dsimp only; omega)) ⟨(by omega), hP, hD, hS, lv_sub hl [4, 5, 6, 7, 8, 1, 2, 0] rfl⟩

set_option maxHeartbeats 4000000 in
set_option maxRecDepth 100000 in
theorem k_X3_place (n : Nat) (f : Int32) (k : Int32) (hI : Inv gG n) (hh : rng (gG 0) 0 200000) : MU l D (tyA cI cJ cO) yX3_place cX3_place 3 ((some .int)) 6 143 [.ref (B 0), .int f, .int k] (VW cI cJ cO B gG tG kG ik le by_ tk bg en va tn b0 l0 u0 b1 l1 u1 b2 l2 u2 b3 l3 u3 fS cW) (fun ov w' => ∃ tG' : Nat → Int32, ov = some (.int (placeR gG n f k)) ∧ w' = (VW cI cJ cO B gG tG' kG ik le by_ tk bg en va tn b0 l0 u0 b1 l1 u1 b2 l2 u2 b3 l3 u3 (okT (soonOk n f k) fS) cW)) := by
  refine MU.mk (by decide) (Nat.le_of_ble_eq_true rfl) ?_
  intro p e s m below meth c ls S hr hlk hP hK hD hS hl
  have S : CallFix p m c cX3_place 3 s _ WL RX3 := S
  obtain ⟨hx, hb, hml, hown, hts⟩ := id S
  have hl : lv_has ls 3 [(0, .ref (B 0)), (1, .int f), (2, .int k)] := hl
  refine lv_aload_n hx hb dX3_place_0 rfl (lv_at hl 0 rfl) ?_
  refine va_get (ci := 3) (v := .ref (B 1)) hx hb hts wx_X3 hown hK hP 0 rfl rfl 0 (by decide) (hts _ wf_X3_10) (fun _ h9 => h9) rfl dX3_place_1 ?_
  refine lv_iload_n hx hb dX3_place_4 rfl (lv_at hl 1 rfl) ?_
  refine ro_V (w := (GW cI (B 1) (B 2) (gG 0) (gG 2) (gG 1) (tl gG))) (rest := []) S hK (hP.sub [1, 2] rfl) (k_X0_lacks n f hI) gv_X3_95 hd_X0_lacks ⟨Nat.le_of_ble_eq_true rfl, Nat.le_of_ble_eq_true rfl⟩ 0 rfl rfl rfl rfl hl.1 (lv_room (Nat.le_of_ble_eq_true rfl)) dX3_place_5 ⟨Nat.zero_le _, Nat.zero_le _⟩ ?_
  refine lv_if_ne (tgt := 21) hx hb dX3_place_8 rfl (fun c8 => ?_) (fun c8 => ?_)
  · replace c8 := bn_n0 c8
    refine lv_aload_n hx hb dX3_place_21 rfl (lv_at hl 0 rfl) ?_
    refine lv_ldc (v := (-1000000001)) hx hb hown (hts _ wq_X3_51) dX3_place_22 ?_
    refine mu_W (w := (VW cI cJ cO B gG tG kG ik le by_ tk bg en va tn b0 l0 u0 b1 l1 u1 b2 l2 u2 b3 l3 u3 fS cW)) (rest := []) S hK hP hD hS (k_X3_finding 0 (-1000000001) (by decide) (by decide)) gv_X3_52 hd_X3_finding ⟨Nat.le_of_ble_eq_true rfl, Nat.le_of_ble_eq_true rfl⟩ 3 rfl rfl rfl rfl hl.1 (lv_room (Nat.le_of_ble_eq_true rfl)) dX3_place_24 ⟨Nat.zero_le _, Nat.zero_le _⟩ (fun ov w' H locs hp hP hD hS => ?_)
    obtain ⟨rfl, rfl⟩ := hp
    refine W.eq (g2 := F0 m 27 ls [.int (-1000000001)]) rfl ?_
    have hE : upd fS 0 (fS 0 + 1) = okT (soonOk n f k) fS := by simp [placeR, soonOk, okT, bump, put9, b2i, c8, i_lt, -Int32.not_le, -Int32.not_lt]
    have hW : (VW cI cJ cO B gG tG kG ik le by_ tk bg en va tn b0 l0 u0 b1 l1 u1 b2 l2 u2 b3 l3 u3 (upd fS 0 (fS 0 + 1)) cW) = (VW cI cJ cO B gG tG kG ik le by_ tk bg en va tn b0 l0 u0 b1 l1 u1 b2 l2 u2 b3 l3 u3 (okT (soonOk n f k) fS) cW) := congrArg (fun z => (VW cI cJ cO B gG tG kG ik le by_ tk bg en va tn b0 l0 u0 b1 l1 u1 b2 l2 u2 b3 l3 u3 z cW)) hE
    have hP : va_P D vwCl (VW cI cJ cO B gG tG kG ik le by_ tk bg en va tn b0 l0 u0 b1 l1 u1 b2 l2 u2 b3 l3 u3 (okT (soonOk n f k) fS) cW) H := Eq.mp (congrArg (fun z => va_P D vwCl z H) hW) hP
    have hD : va_D _ (VW cI cJ cO B gG tG kG ik le by_ tk bg en va tn b0 l0 u0 b1 l1 u1 b2 l2 u2 b3 l3 u3 (okT (soonOk n f k) fS) cW) := Eq.mp (congrArg (fun z => va_D _ z) hW) hD
    exact mu_iret (VW cI cJ cO B gG tG kG ik le by_ tk bg en va tn b0 l0 u0 b1 l1 u1 b2 l2 u2 b3 l3 u3 (okT (soonOk n f k) fS) cW) hx hb hr hlk hP hS rfl (⟨tG, congrArg (fun z => some (Value.int z)) (by simp [placeR, soonOk, okT, bump, put9, b2i, c8, i_lt, -Int32.not_le, -Int32.not_lt]), rfl⟩) dX3_place_27
  · replace c8 := bn_0 c8
    obtain ⟨i, hi, rfl⟩ := fig_in hI.1 c8
    have h8 := hI.1
    have ei : cl (nI i) = i := cl_nI (by omega)
    refine lv_iload_n hx hb dX3_place_11 rfl (lv_at hl 2 rfl) ?_
    refine lv_iconst (v := 1) hx hb dX3_place_12 rfl ?_
    refine lv_bipush (v := 40) hx hb dX3_place_13 rfl ?_
    refine ro_S (w := []) (rest := []) S hK va_P0 (k_X3_isOutside k 1 40) gs_X3_47 hd_X3_isOutside ⟨Nat.le_of_ble_eq_true rfl, Nat.le_of_ble_eq_true rfl⟩ rfl hl.1 (lv_room (Nat.le_of_ble_eq_true rfl)) dX3_place_15 ⟨Nat.zero_le _, Nat.zero_le _⟩ ?_
    refine lv_if_eq (tgt := 28) hx hb dX3_place_18 rfl (fun c18 => ?_) (fun c18 => ?_)
    · replace c18 := bn_0 c18
      obtain ⟨j, hja, hjb, rfl⟩ := in_nat (a := 1) (b := 40) (by decide) c18 (by decide)
      have ej : cl (nI j) = j := cl_nI (by omega)
      refine lv_aload_n hx hb dX3_place_28 rfl (lv_at hl 0 rfl) ?_
      refine lv_iload_n hx hb dX3_place_29 rfl (lv_at hl 1 rfl) ?_
      refine lv_iconst (v := 2) hx hb dX3_place_30 rfl ?_
      refine lv_bipush (v := 19) hx hb dX3_place_31 rfl ?_
      refine lv_iload_n hx hb dX3_place_33 rfl (lv_at hl 2 rfl) ?_
      have hIv : ∀ v, v ≤ 19 → Inv (upd gG (9 * i + 2 + 3) (nI v)) n := fun v hv => Inv_pv (f := i) (w := 2) (v := v) (b := 19) hI hv (by omega)
      refine mu_W (w := (VW cI cJ cO B gG tG kG ik le by_ tk bg en va tn b0 l0 u0 b1 l1 u1 b2 l2 u2 b3 l3 u3 fS cW)) (rest := []) S hK hP hD hS (k_X3_mostContentWith n i 2 19 j hIv hh (by omega) (by omega) (by omega) (by omega)) gv_X3_155 hd_X3_mostContentWith ⟨Nat.le_of_ble_eq_true rfl, Nat.le_of_ble_eq_true rfl⟩ 3 rfl rfl rfl rfl hl.1 (lv_room (Nat.le_of_ble_eq_true rfl)) dX3_place_34 ⟨Nat.zero_le _, Nat.zero_le _⟩ (fun ov w' H locs hp hP hD hS => ?_)
      obtain ⟨t9, rfl, rfl⟩ := hp
      refine W.eq (g2 := F0 m 37 ls [.int (mostB gG n j (9 * i + 2 + 3) (19 + 1))]) rfl ?_
      have hE : fS = okT (soonOk n (nI i) (nI j)) fS := by simp [placeR, soonOk, okT, bump, put9, b2i, c8, c18, ei, ej, i_lt, -Int32.not_le, -Int32.not_lt]
      have hW : (VW cI cJ cO B gG t9 kG ik le by_ tk bg en va tn b0 l0 u0 b1 l1 u1 b2 l2 u2 b3 l3 u3 fS cW) = (VW cI cJ cO B gG t9 kG ik le by_ tk bg en va tn b0 l0 u0 b1 l1 u1 b2 l2 u2 b3 l3 u3 (okT (soonOk n (nI i) (nI j)) fS) cW) := congrArg (fun z => (VW cI cJ cO B gG t9 kG ik le by_ tk bg en va tn b0 l0 u0 b1 l1 u1 b2 l2 u2 b3 l3 u3 z cW)) hE
      have hP : va_P D vwCl (VW cI cJ cO B gG t9 kG ik le by_ tk bg en va tn b0 l0 u0 b1 l1 u1 b2 l2 u2 b3 l3 u3 (okT (soonOk n (nI i) (nI j)) fS) cW) H := Eq.mp (congrArg (fun z => va_P D vwCl z H) hW) hP
      have hD : va_D _ (VW cI cJ cO B gG t9 kG ik le by_ tk bg en va tn b0 l0 u0 b1 l1 u1 b2 l2 u2 b3 l3 u3 (okT (soonOk n (nI i) (nI j)) fS) cW) := Eq.mp (congrArg (fun z => va_D _ z) hW) hD
      exact mu_iret (VW cI cJ cO B gG t9 kG ik le by_ tk bg en va tn b0 l0 u0 b1 l1 u1 b2 l2 u2 b3 l3 u3 (okT (soonOk n (nI i) (nI j)) fS) cW) hx hb hr hlk hP hS rfl (⟨t9, congrArg (fun z => some (Value.int z)) (by simp [placeR, soonOk, okT, bump, put9, b2i, c8, c18, ei, ej, i_lt, -Int32.not_le, -Int32.not_lt]), rfl⟩) dX3_place_37
    · replace c18 := bn_n0 c18
      refine lv_aload_n hx hb dX3_place_21 rfl (lv_at hl 0 rfl) ?_
      refine lv_ldc (v := (-1000000001)) hx hb hown (hts _ wq_X3_51) dX3_place_22 ?_
      refine mu_W (w := (VW cI cJ cO B gG tG kG ik le by_ tk bg en va tn b0 l0 u0 b1 l1 u1 b2 l2 u2 b3 l3 u3 fS cW)) (rest := []) S hK hP hD hS (k_X3_finding 0 (-1000000001) (by decide) (by decide)) gv_X3_52 hd_X3_finding ⟨Nat.le_of_ble_eq_true rfl, Nat.le_of_ble_eq_true rfl⟩ 3 rfl rfl rfl rfl hl.1 (lv_room (Nat.le_of_ble_eq_true rfl)) dX3_place_24 ⟨Nat.zero_le _, Nat.zero_le _⟩ (fun ov w' H locs hp hP hD hS => ?_)
      obtain ⟨rfl, rfl⟩ := hp
      refine W.eq (g2 := F0 m 27 ls [.int (-1000000001)]) rfl ?_
      have hE : upd fS 0 (fS 0 + 1) = okT (soonOk n (nI i) k) fS := by simp [placeR, soonOk, okT, bump, put9, b2i, c8, c18, ei, i_lt, -Int32.not_le, -Int32.not_lt]
      have hW : (VW cI cJ cO B gG tG kG ik le by_ tk bg en va tn b0 l0 u0 b1 l1 u1 b2 l2 u2 b3 l3 u3 (upd fS 0 (fS 0 + 1)) cW) = (VW cI cJ cO B gG tG kG ik le by_ tk bg en va tn b0 l0 u0 b1 l1 u1 b2 l2 u2 b3 l3 u3 (okT (soonOk n (nI i) k) fS) cW) := congrArg (fun z => (VW cI cJ cO B gG tG kG ik le by_ tk bg en va tn b0 l0 u0 b1 l1 u1 b2 l2 u2 b3 l3 u3 z cW)) hE
      have hP : va_P D vwCl (VW cI cJ cO B gG tG kG ik le by_ tk bg en va tn b0 l0 u0 b1 l1 u1 b2 l2 u2 b3 l3 u3 (okT (soonOk n (nI i) k) fS) cW) H := Eq.mp (congrArg (fun z => va_P D vwCl z H) hW) hP
      have hD : va_D _ (VW cI cJ cO B gG tG kG ik le by_ tk bg en va tn b0 l0 u0 b1 l1 u1 b2 l2 u2 b3 l3 u3 (okT (soonOk n (nI i) k) fS) cW) := Eq.mp (congrArg (fun z => va_D _ z) hW) hD
      exact mu_iret (VW cI cJ cO B gG tG kG ik le by_ tk bg en va tn b0 l0 u0 b1 l1 u1 b2 l2 u2 b3 l3 u3 (okT (soonOk n (nI i) k) fS) cW) hx hb hr hlk hP hS rfl (⟨tG, congrArg (fun z => some (Value.int z)) (by simp [placeR, soonOk, okT, bump, put9, b2i, c8, c18, ei, i_lt, -Int32.not_le, -Int32.not_lt]), rfl⟩) dX3_place_27

set_option maxHeartbeats 4000000 in
set_option maxRecDepth 100000 in
theorem k_X3_want (n : Nat) (f : Int32) (k : Int32) (hI : Inv gG n) (hh : rng (gG 0) 0 200000) : MU l D (tyA cI cJ cO) yX3_want cX3_want 3 ((some .int)) 6 143 [.ref (B 0), .int f, .int k] (VW cI cJ cO B gG tG kG ik le by_ tk bg en va tn b0 l0 u0 b1 l1 u1 b2 l2 u2 b3 l3 u3 fS cW) (fun ov w' => ∃ tG' : Nat → Int32, ov = some (.int (wantR gG n f k)) ∧ w' = (VW cI cJ cO B gG tG' kG ik le by_ tk bg en va tn b0 l0 u0 b1 l1 u1 b2 l2 u2 b3 l3 u3 (okT (soonOk n f k) fS) cW)) := by
  refine MU.mk (by decide) (Nat.le_of_ble_eq_true rfl) ?_
  intro p e s m below meth c ls S hr hlk hP hK hD hS hl
  have S : CallFix p m c cX3_want 3 s _ WL RX3 := S
  obtain ⟨hx, hb, hml, hown, hts⟩ := id S
  have hl : lv_has ls 3 [(0, .ref (B 0)), (1, .int f), (2, .int k)] := hl
  refine lv_aload_n hx hb dX3_want_0 rfl (lv_at hl 0 rfl) ?_
  refine va_get (ci := 3) (v := .ref (B 1)) hx hb hts wx_X3 hown hK hP 0 rfl rfl 0 (by decide) (hts _ wf_X3_10) (fun _ h9 => h9) rfl dX3_want_1 ?_
  refine lv_iload_n hx hb dX3_want_4 rfl (lv_at hl 1 rfl) ?_
  refine ro_V (w := (GW cI (B 1) (B 2) (gG 0) (gG 2) (gG 1) (tl gG))) (rest := []) S hK (hP.sub [1, 2] rfl) (k_X0_lacks n f hI) gv_X3_95 hd_X0_lacks ⟨Nat.le_of_ble_eq_true rfl, Nat.le_of_ble_eq_true rfl⟩ 0 rfl rfl rfl rfl hl.1 (lv_room (Nat.le_of_ble_eq_true rfl)) dX3_want_5 ⟨Nat.zero_le _, Nat.zero_le _⟩ ?_
  refine lv_if_ne (tgt := 21) hx hb dX3_want_8 rfl (fun c8 => ?_) (fun c8 => ?_)
  · replace c8 := bn_n0 c8
    refine lv_aload_n hx hb dX3_want_21 rfl (lv_at hl 0 rfl) ?_
    refine lv_ldc (v := (-1000000001)) hx hb hown (hts _ wq_X3_51) dX3_want_22 ?_
    refine mu_W (w := (VW cI cJ cO B gG tG kG ik le by_ tk bg en va tn b0 l0 u0 b1 l1 u1 b2 l2 u2 b3 l3 u3 fS cW)) (rest := []) S hK hP hD hS (k_X3_finding 0 (-1000000001) (by decide) (by decide)) gv_X3_52 hd_X3_finding ⟨Nat.le_of_ble_eq_true rfl, Nat.le_of_ble_eq_true rfl⟩ 3 rfl rfl rfl rfl hl.1 (lv_room (Nat.le_of_ble_eq_true rfl)) dX3_want_24 ⟨Nat.zero_le _, Nat.zero_le _⟩ (fun ov w' H locs hp hP hD hS => ?_)
    obtain ⟨rfl, rfl⟩ := hp
    refine W.eq (g2 := F0 m 27 ls [.int (-1000000001)]) rfl ?_
    have hE : upd fS 0 (fS 0 + 1) = okT (soonOk n f k) fS := by simp [wantR, soonOk, okT, bump, put9, b2i, c8, i_lt, -Int32.not_le, -Int32.not_lt]
    have hW : (VW cI cJ cO B gG tG kG ik le by_ tk bg en va tn b0 l0 u0 b1 l1 u1 b2 l2 u2 b3 l3 u3 (upd fS 0 (fS 0 + 1)) cW) = (VW cI cJ cO B gG tG kG ik le by_ tk bg en va tn b0 l0 u0 b1 l1 u1 b2 l2 u2 b3 l3 u3 (okT (soonOk n f k) fS) cW) := congrArg (fun z => (VW cI cJ cO B gG tG kG ik le by_ tk bg en va tn b0 l0 u0 b1 l1 u1 b2 l2 u2 b3 l3 u3 z cW)) hE
    have hP : va_P D vwCl (VW cI cJ cO B gG tG kG ik le by_ tk bg en va tn b0 l0 u0 b1 l1 u1 b2 l2 u2 b3 l3 u3 (okT (soonOk n f k) fS) cW) H := Eq.mp (congrArg (fun z => va_P D vwCl z H) hW) hP
    have hD : va_D _ (VW cI cJ cO B gG tG kG ik le by_ tk bg en va tn b0 l0 u0 b1 l1 u1 b2 l2 u2 b3 l3 u3 (okT (soonOk n f k) fS) cW) := Eq.mp (congrArg (fun z => va_D _ z) hW) hD
    exact mu_iret (VW cI cJ cO B gG tG kG ik le by_ tk bg en va tn b0 l0 u0 b1 l1 u1 b2 l2 u2 b3 l3 u3 (okT (soonOk n f k) fS) cW) hx hb hr hlk hP hS rfl (⟨tG, congrArg (fun z => some (Value.int z)) (by simp [wantR, soonOk, okT, bump, put9, b2i, c8, i_lt, -Int32.not_le, -Int32.not_lt]), rfl⟩) dX3_want_27
  · replace c8 := bn_0 c8
    obtain ⟨i, hi, rfl⟩ := fig_in hI.1 c8
    have h8 := hI.1
    have ei : cl (nI i) = i := cl_nI (by omega)
    refine lv_iload_n hx hb dX3_want_11 rfl (lv_at hl 2 rfl) ?_
    refine lv_iconst (v := 1) hx hb dX3_want_12 rfl ?_
    refine lv_bipush (v := 40) hx hb dX3_want_13 rfl ?_
    refine ro_S (w := []) (rest := []) S hK va_P0 (k_X3_isOutside k 1 40) gs_X3_47 hd_X3_isOutside ⟨Nat.le_of_ble_eq_true rfl, Nat.le_of_ble_eq_true rfl⟩ rfl hl.1 (lv_room (Nat.le_of_ble_eq_true rfl)) dX3_want_15 ⟨Nat.zero_le _, Nat.zero_le _⟩ ?_
    refine lv_if_eq (tgt := 28) hx hb dX3_want_18 rfl (fun c18 => ?_) (fun c18 => ?_)
    · replace c18 := bn_0 c18
      obtain ⟨j, hja, hjb, rfl⟩ := in_nat (a := 1) (b := 40) (by decide) c18 (by decide)
      have ej : cl (nI j) = j := cl_nI (by omega)
      refine lv_aload_n hx hb dX3_want_28 rfl (lv_at hl 0 rfl) ?_
      refine lv_iload_n hx hb dX3_want_29 rfl (lv_at hl 1 rfl) ?_
      refine lv_iconst (v := 5) hx hb dX3_want_30 rfl ?_
      refine lv_iconst (v := 4) hx hb dX3_want_31 rfl ?_
      refine lv_iload_n hx hb dX3_want_32 rfl (lv_at hl 2 rfl) ?_
      have hIv : ∀ v, v ≤ 4 → Inv (upd gG (9 * i + 5 + 3) (nI v)) n := fun v hv => Inv_pv (f := i) (w := 5) (v := v) (b := 4) hI hv (by omega)
      refine mu_W (w := (VW cI cJ cO B gG tG kG ik le by_ tk bg en va tn b0 l0 u0 b1 l1 u1 b2 l2 u2 b3 l3 u3 fS cW)) (rest := []) S hK hP hD hS (k_X3_mostContentWith n i 5 4 j hIv hh (by omega) (by omega) (by omega) (by omega)) gv_X3_155 hd_X3_mostContentWith ⟨Nat.le_of_ble_eq_true rfl, Nat.le_of_ble_eq_true rfl⟩ 3 rfl rfl rfl rfl hl.1 (lv_room (Nat.le_of_ble_eq_true rfl)) dX3_want_33 ⟨Nat.zero_le _, Nat.zero_le _⟩ (fun ov w' H locs hp hP hD hS => ?_)
      obtain ⟨t9, rfl, rfl⟩ := hp
      refine W.eq (g2 := F0 m 36 ls [.int (mostB gG n j (9 * i + 5 + 3) (4 + 1))]) rfl ?_
      have hE : fS = okT (soonOk n (nI i) (nI j)) fS := by simp [wantR, soonOk, okT, bump, put9, b2i, c8, c18, ei, ej, i_lt, -Int32.not_le, -Int32.not_lt]
      have hW : (VW cI cJ cO B gG t9 kG ik le by_ tk bg en va tn b0 l0 u0 b1 l1 u1 b2 l2 u2 b3 l3 u3 fS cW) = (VW cI cJ cO B gG t9 kG ik le by_ tk bg en va tn b0 l0 u0 b1 l1 u1 b2 l2 u2 b3 l3 u3 (okT (soonOk n (nI i) (nI j)) fS) cW) := congrArg (fun z => (VW cI cJ cO B gG t9 kG ik le by_ tk bg en va tn b0 l0 u0 b1 l1 u1 b2 l2 u2 b3 l3 u3 z cW)) hE
      have hP : va_P D vwCl (VW cI cJ cO B gG t9 kG ik le by_ tk bg en va tn b0 l0 u0 b1 l1 u1 b2 l2 u2 b3 l3 u3 (okT (soonOk n (nI i) (nI j)) fS) cW) H := Eq.mp (congrArg (fun z => va_P D vwCl z H) hW) hP
      have hD : va_D _ (VW cI cJ cO B gG t9 kG ik le by_ tk bg en va tn b0 l0 u0 b1 l1 u1 b2 l2 u2 b3 l3 u3 (okT (soonOk n (nI i) (nI j)) fS) cW) := Eq.mp (congrArg (fun z => va_D _ z) hW) hD
      exact mu_iret (VW cI cJ cO B gG t9 kG ik le by_ tk bg en va tn b0 l0 u0 b1 l1 u1 b2 l2 u2 b3 l3 u3 (okT (soonOk n (nI i) (nI j)) fS) cW) hx hb hr hlk hP hS rfl (⟨t9, congrArg (fun z => some (Value.int z)) (by simp [wantR, soonOk, okT, bump, put9, b2i, c8, c18, ei, ej, i_lt, -Int32.not_le, -Int32.not_lt]), rfl⟩) dX3_want_36
    · replace c18 := bn_n0 c18
      refine lv_aload_n hx hb dX3_want_21 rfl (lv_at hl 0 rfl) ?_
      refine lv_ldc (v := (-1000000001)) hx hb hown (hts _ wq_X3_51) dX3_want_22 ?_
      refine mu_W (w := (VW cI cJ cO B gG tG kG ik le by_ tk bg en va tn b0 l0 u0 b1 l1 u1 b2 l2 u2 b3 l3 u3 fS cW)) (rest := []) S hK hP hD hS (k_X3_finding 0 (-1000000001) (by decide) (by decide)) gv_X3_52 hd_X3_finding ⟨Nat.le_of_ble_eq_true rfl, Nat.le_of_ble_eq_true rfl⟩ 3 rfl rfl rfl rfl hl.1 (lv_room (Nat.le_of_ble_eq_true rfl)) dX3_want_24 ⟨Nat.zero_le _, Nat.zero_le _⟩ (fun ov w' H locs hp hP hD hS => ?_)
      obtain ⟨rfl, rfl⟩ := hp
      refine W.eq (g2 := F0 m 27 ls [.int (-1000000001)]) rfl ?_
      have hE : upd fS 0 (fS 0 + 1) = okT (soonOk n (nI i) k) fS := by simp [wantR, soonOk, okT, bump, put9, b2i, c8, c18, ei, i_lt, -Int32.not_le, -Int32.not_lt]
      have hW : (VW cI cJ cO B gG tG kG ik le by_ tk bg en va tn b0 l0 u0 b1 l1 u1 b2 l2 u2 b3 l3 u3 (upd fS 0 (fS 0 + 1)) cW) = (VW cI cJ cO B gG tG kG ik le by_ tk bg en va tn b0 l0 u0 b1 l1 u1 b2 l2 u2 b3 l3 u3 (okT (soonOk n (nI i) k) fS) cW) := congrArg (fun z => (VW cI cJ cO B gG tG kG ik le by_ tk bg en va tn b0 l0 u0 b1 l1 u1 b2 l2 u2 b3 l3 u3 z cW)) hE
      have hP : va_P D vwCl (VW cI cJ cO B gG tG kG ik le by_ tk bg en va tn b0 l0 u0 b1 l1 u1 b2 l2 u2 b3 l3 u3 (okT (soonOk n (nI i) k) fS) cW) H := Eq.mp (congrArg (fun z => va_P D vwCl z H) hW) hP
      have hD : va_D _ (VW cI cJ cO B gG tG kG ik le by_ tk bg en va tn b0 l0 u0 b1 l1 u1 b2 l2 u2 b3 l3 u3 (okT (soonOk n (nI i) k) fS) cW) := Eq.mp (congrArg (fun z => va_D _ z) hW) hD
      exact mu_iret (VW cI cJ cO B gG tG kG ik le by_ tk bg en va tn b0 l0 u0 b1 l1 u1 b2 l2 u2 b3 l3 u3 (okT (soonOk n (nI i) k) fS) cW) hx hb hr hlk hP hS rfl (⟨tG, congrArg (fun z => some (Value.int z)) (by simp [wantR, soonOk, okT, bump, put9, b2i, c8, c18, ei, i_lt, -Int32.not_le, -Int32.not_lt]), rfl⟩) dX3_want_27

set_option maxHeartbeats 4000000 in
set_option maxRecDepth 100000 in
theorem k_X3_kind (n : Nat) (f : Int32) (k : Int32) (hI : Inv gG n) (hh : rng (gG 0) 0 200000) : MU l D (tyA cI cJ cO) yX3_kind cX3_kind 7 ((some .int)) 5 115 [.ref (B 0), .int f, .int k] (VW cI cJ cO B gG tG kG ik le by_ tk bg en va tn b0 l0 u0 b1 l1 u1 b2 l2 u2 b3 l3 u3 fS cW) (fun ov w' => ∃ tG' : Nat → Int32, ov = some (.int (kindR gG n f k)) ∧ w' = (VW cI cJ cO B gG tG' kG ik le by_ tk bg en va tn b0 l0 u0 b1 l1 u1 b2 l2 u2 b3 l3 u3 (okT (kindOk n f k) fS) cW)) := by
  refine MU.mk (by decide) (Nat.le_of_ble_eq_true rfl) ?_
  intro p e s m below meth c ls S hr hlk hP hK hD hS hl
  have S : CallFix p m c cX3_kind 7 s _ WL RX3 := S
  obtain ⟨hx, hb, hml, hown, hts⟩ := id S
  have hl : lv_has ls 7 [(0, .ref (B 0)), (1, .int f), (2, .int k)] := hl
  have h8 : n ≤ 8 := hI.1
  have hI0 := hI
  have hh0 := hh
  refine lv_aload_n hx hb dX3_kind_0 rfl (lv_at hl 0 rfl) ?_
  refine va_get (ci := 3) (v := .ref (B 1)) hx hb hts wx_X3 hown hK hP 0 rfl rfl 0 (by decide) (hts _ wf_X3_10) (fun _ h9 => h9) rfl dX3_kind_1 ?_
  refine lv_iload_n hx hb dX3_kind_4 rfl (lv_at hl 1 rfl) ?_
  refine ro_V (w := (GW cI (B 1) (B 2) (gG 0) (gG 2) (gG 1) (tl gG))) (rest := []) S hK (hP.sub [1, 2] rfl) (k_X0_lacks n f hI) gv_X3_95 hd_X0_lacks ⟨Nat.le_of_ble_eq_true rfl, Nat.le_of_ble_eq_true rfl⟩ 0 rfl rfl rfl rfl hl.1 (lv_room (Nat.le_of_ble_eq_true rfl)) dX3_kind_5 ⟨Nat.zero_le _, Nat.zero_le _⟩ ?_
  refine lv_if_ne (tgt := 21) hx hb dX3_kind_8 rfl (fun c8 => ?_) (fun c8 => ?_)
  · replace c8 := bn_n0 c8
    refine lv_aload_n hx hb dX3_kind_21 rfl (lv_at hl 0 rfl) ?_
    refine lv_ldc (v := (-1000000001)) hx hb hown (hts _ wq_X3_51) dX3_kind_22 ?_
    refine mu_W (w := (VW cI cJ cO B gG tG kG ik le by_ tk bg en va tn b0 l0 u0 b1 l1 u1 b2 l2 u2 b3 l3 u3 fS cW)) (rest := []) S hK hP hD hS (k_X3_finding 0 (-1000000001) (by decide) (by decide)) gv_X3_52 hd_X3_finding ⟨Nat.le_of_ble_eq_true rfl, Nat.le_of_ble_eq_true rfl⟩ 3 rfl rfl rfl rfl hl.1 (lv_room (Nat.le_of_ble_eq_true rfl)) dX3_kind_24 ⟨Nat.zero_le _, Nat.zero_le _⟩ (fun ov w' H locs hp hP hD hS => ?_)
    obtain ⟨rfl, rfl⟩ := hp
    refine W.eq (g2 := F0 m 27 ls [.int (-1000000001)]) rfl ?_
    have hE : upd fS 0 (fS 0 + 1) = okT (kindOk n f k) fS := by simp [kindR, kindOk, okT, bump, put9, b2i, c8, i_lt, -Int32.not_le, -Int32.not_lt]
    have hW : (VW cI cJ cO B gG tG kG ik le by_ tk bg en va tn b0 l0 u0 b1 l1 u1 b2 l2 u2 b3 l3 u3 (upd fS 0 (fS 0 + 1)) cW) = (VW cI cJ cO B gG tG kG ik le by_ tk bg en va tn b0 l0 u0 b1 l1 u1 b2 l2 u2 b3 l3 u3 (okT (kindOk n f k) fS) cW) := congrArg (fun z => (VW cI cJ cO B gG tG kG ik le by_ tk bg en va tn b0 l0 u0 b1 l1 u1 b2 l2 u2 b3 l3 u3 z cW)) hE
    have hP : va_P D vwCl (VW cI cJ cO B gG tG kG ik le by_ tk bg en va tn b0 l0 u0 b1 l1 u1 b2 l2 u2 b3 l3 u3 (okT (kindOk n f k) fS) cW) H := Eq.mp (congrArg (fun z => va_P D vwCl z H) hW) hP
    have hD : va_D _ (VW cI cJ cO B gG tG kG ik le by_ tk bg en va tn b0 l0 u0 b1 l1 u1 b2 l2 u2 b3 l3 u3 (okT (kindOk n f k) fS) cW) := Eq.mp (congrArg (fun z => va_D _ z) hW) hD
    exact mu_iret (VW cI cJ cO B gG tG kG ik le by_ tk bg en va tn b0 l0 u0 b1 l1 u1 b2 l2 u2 b3 l3 u3 (okT (kindOk n f k) fS) cW) hx hb hr hlk hP hS rfl (⟨tG, congrArg (fun z => some (Value.int z)) (by simp [kindR, kindOk, okT, bump, put9, b2i, c8, i_lt, -Int32.not_le, -Int32.not_lt]), rfl⟩) dX3_kind_27
  · replace c8 := bn_0 c8
    obtain ⟨i0, hi0, rfl⟩ := fig_in hI.1 c8
    have h8 := hI.1
    have ei0 : cl (nI i0) = i0 := cl_nI (by omega)
    refine lv_iload_n hx hb dX3_kind_11 rfl (lv_at hl 2 rfl) ?_
    refine lv_iconst (v := 1) hx hb dX3_kind_12 rfl ?_
    refine lv_bipush (v := 60) hx hb dX3_kind_13 rfl ?_
    refine ro_S (w := []) (rest := []) S hK va_P0 (k_X3_isOutside k 1 60) gs_X3_47 hd_X3_isOutside ⟨Nat.le_of_ble_eq_true rfl, Nat.le_of_ble_eq_true rfl⟩ rfl hl.1 (lv_room (Nat.le_of_ble_eq_true rfl)) dX3_kind_15 ⟨Nat.zero_le _, Nat.zero_le _⟩ ?_
    refine lv_if_eq (tgt := 28) hx hb dX3_kind_18 rfl (fun c18 => ?_) (fun c18 => ?_)
    · replace c18 := bn_0 c18
      obtain ⟨j, hja, hjb, rfl⟩ := in_nat (a := 1) (b := 60) (by decide) c18 (by decide)
      have ej : cl (nI j) = j := cl_nI (by omega)
      refine lv_iconst (v := 0) hx hb dX3_kind_28 rfl ?_
      refine w_i (z := (bestF yesP (kindV gG n i0 j) 0 0).1) (by rw [bestF]) ?_
      refine lv_istore_n (lv' := [(3, .int ((bestF yesP (kindV gG n i0 j) 0 0).1)), (0, .ref (B 0)), (1, .int (nI i0)), (2, .int (nI j))]) hx hb dX3_kind_29 rfl hl (by decide) rfl (fun ls hl => ?_)
      refine lv_iconst (v := (-1)) hx hb dX3_kind_30 rfl ?_
      refine w_i (z := (bestF yesP (kindV gG n i0 j) 0 0).2) (by rw [bestF]) ?_
      refine lv_istore (lv' := [(4, .int ((bestF yesP (kindV gG n i0 j) 0 0).2)), (3, .int ((bestF yesP (kindV gG n i0 j) 0 0).1)), (0, .ref (B 0)), (1, .int (nI i0)), (2, .int (nI j))]) hx hb dX3_kind_31 hl (by decide) rfl (fun ls hl => ?_)
      refine lv_iconst (v := 0) hx hb dX3_kind_33 rfl ?_
      refine lv_istore (lv' := [(5, .int 0), (4, .int ((bestF yesP (kindV gG n i0 j) 0 0).2)), (3, .int ((bestF yesP (kindV gG n i0 j) 0 0).1)), (0, .ref (B 0)), (1, .int (nI i0)), (2, .int (nI j))]) hx hb dX3_kind_34 hl (by decide) rfl (fun ls hl => ?_)
      refine w_loopH (pc := 36) (st := fun (x : Nat × (Nat → Int32)) => match x with | (i, t) => []) (μ := fun (x : Nat × (Nat → Int32)) => match x with | (i, t) => 6 - i) (I := fun (x : Nat × (Nat → Int32)) H locs ls => match x with | (i, t) => (i ≤ 6) ∧ va_P D vwCl (VW cI cJ cO B gG t kG ik le by_ tk bg en va tn b0 l0 u0 b1 l1 u1 b2 l2 u2 b3 l3 u3 fS cW) H ∧ va_D (fun z9 => z9 ∈ ((VW cI cJ cO B gG tG kG ik le by_ tk bg en va tn b0 l0 u0 b1 l1 u1 b2 l2 u2 b3 l3 u3 fS cW)).map (fun z8 => z8.1)) (VW cI cJ cO B gG t kG ik le by_ tk bg en va tn b0 l0 u0 b1 l1 u1 b2 l2 u2 b3 l3 u3 fS cW) ∧ va_S (fun z9 => z9 ∈ ((VW cI cJ cO B gG tG kG ik le by_ tk bg en va tn b0 l0 u0 b1 l1 u1 b2 l2 u2 b3 l3 u3 fS cW)).map (fun z8 => z8.1)) s.heap H locs ∧ lv_has ls 7 [(0, .ref (B 0)), (1, .int (nI i0)), (2, .int (nI j)), (3, .int ((bestF yesP (kindV gG n i0 j) 0 i).1)), (4, .int ((bestF yesP (kindV gG n i0 j) 0 i).2)), (5, .int (nI i))]) ?_ (0, tG) ⟨Nat.zero_le _, hP, hD, hS, lv_sub hl [3, 4, 5, 2, 1, 0] rfl⟩
      rintro ⟨i, t⟩ H locs ls ⟨hi, hP, hD, hS, hl⟩ ih36
      try dsimp only at ih36 ⊢
      refine lv_iload hx hb dX3_kind_36 (lv_at hl 5 rfl) ?_
      refine lv_iconst (v := 5) hx hb dX3_kind_38 rfl ?_
      refine lv_icmp_gt (tgt := 90) hx hb dX3_kind_39 rfl (fun c39 => ?_) (fun c39 => ?_)
      · replace c39 := nq_lt (a := 5) (b := i) (by omega) (by omega) c39
        obtain rfl : i = 6 := by omega
        refine lv_iload_n hx hb dX3_kind_90 rfl (lv_at hl 3 rfl) ?_
        have hE : fS = okT (kindOk n (nI i0) (nI j)) fS := by simp [kindR, kindOk, okT, bump, put9, b2i, c8, c18, c39, ei0, ej, i_lt, -Int32.not_le, -Int32.not_lt]
        have hW : (VW cI cJ cO B gG t kG ik le by_ tk bg en va tn b0 l0 u0 b1 l1 u1 b2 l2 u2 b3 l3 u3 fS cW) = (VW cI cJ cO B gG t kG ik le by_ tk bg en va tn b0 l0 u0 b1 l1 u1 b2 l2 u2 b3 l3 u3 (okT (kindOk n (nI i0) (nI j)) fS) cW) := congrArg (fun z => (VW cI cJ cO B gG t kG ik le by_ tk bg en va tn b0 l0 u0 b1 l1 u1 b2 l2 u2 b3 l3 u3 z cW)) hE
        have hP : va_P D vwCl (VW cI cJ cO B gG t kG ik le by_ tk bg en va tn b0 l0 u0 b1 l1 u1 b2 l2 u2 b3 l3 u3 (okT (kindOk n (nI i0) (nI j)) fS) cW) H := Eq.mp (congrArg (fun z => va_P D vwCl z H) hW) hP
        have hD : va_D _ (VW cI cJ cO B gG t kG ik le by_ tk bg en va tn b0 l0 u0 b1 l1 u1 b2 l2 u2 b3 l3 u3 (okT (kindOk n (nI i0) (nI j)) fS) cW) := Eq.mp (congrArg (fun z => va_D _ z) hW) hD
        exact mu_iret (VW cI cJ cO B gG t kG ik le by_ tk bg en va tn b0 l0 u0 b1 l1 u1 b2 l2 u2 b3 l3 u3 (okT (kindOk n (nI i0) (nI j)) fS) cW) hx hb hr hlk hP hS rfl (⟨t, congrArg (fun z => some (Value.int z)) (by simp [kindR, kindOk, okT, bump, put9, b2i, c8, c18, c39, ei0, ej, i_lt, -Int32.not_le, -Int32.not_lt]), rfl⟩) dX3_kind_91
      · replace c39 := nq_nlt (a := 5) (b := i) (by omega) (by omega) c39
        refine lv_aload_n hx hb dX3_kind_42 rfl (lv_at hl 0 rfl) ?_
        refine lv_iload_n hx hb dX3_kind_43 rfl (lv_at hl 1 rfl) ?_
        refine lv_iconst (v := 0) hx hb dX3_kind_44 rfl ?_
        refine lv_iload hx hb dX3_kind_45 (lv_at hl 5 rfl) ?_
        refine mu_W (w := (VW cI cJ cO B gG t kG ik le by_ tk bg en va tn b0 l0 u0 b1 l1 u1 b2 l2 u2 b3 l3 u3 fS cW)) (rest := []) S hK hP hD hS (k_X3_suppose i0 0 (nI i) (by omega) (by omega)) gv_X3_151 hd_X3_suppose ⟨Nat.le_of_ble_eq_true rfl, Nat.le_of_ble_eq_true rfl⟩ 3 rfl rfl rfl rfl hl.1 (lv_room (Nat.le_of_ble_eq_true rfl)) dX3_kind_47 ⟨Nat.zero_le _, Nat.zero_le _⟩ (fun ov w' H locs hp hP hD hS => ?_)
        obtain ⟨rfl, rfl⟩ := hp
        refine W.eq (g2 := F0 m 50 ls []) rfl ?_
        refine lv_aload_n hx hb dX3_kind_50 rfl (lv_at hl 0 rfl) ?_
        refine va_get (ci := 3) (v := .ref (B 3)) hx hb hts wx_X3 hown hK hP 0 rfl rfl 1 (by decide) (hts _ wf_X3_16) (fun _ h9 => h9) rfl dX3_kind_51 ?_
        refine lv_iload_n hx hb dX3_kind_54 rfl (lv_at hl 2 rfl) ?_
        have hI : Inv (put9 gG i0 0 (nI i)) n := Inv_pv (f := i0) (w := 0) (v := i) (b := 5) hI0 (by omega) (by omega)
        have hh : rng ((put9 gG i0 0 (nI i)) 0) 0 200000 := by rw [put_lo (by decide)]; exact hh0
        refine mu_V (w := (GW cI (B 3) (B 4) ((put9 gG i0 0 (nI i)) 0) ((put9 gG i0 0 (nI i)) 2) ((put9 gG i0 0 (nI i)) 1) (tl (put9 gG i0 0 (nI i))))) (rest := []) S hK hP hD hS (k_X0_pass n j hI hh (by omega)) gv_X3_131 hd_X0_pass ⟨Nat.le_of_ble_eq_true rfl, Nat.le_of_ble_eq_true rfl⟩ [3, 4] rfl rfl 0 rfl rfl rfl rfl hl.1 (lv_room (Nat.le_of_ble_eq_true rfl)) dX3_kind_55 ⟨Nat.zero_le _, Nat.zero_le _⟩ (fun ov w' H locs hp hP hD hS => ?_)
        obtain ⟨rfl, rfl⟩ := hp
        have hP : va_P D vwCl (VW cI cJ cO B gG (hoursF (put9 gG i0 0 (nI i)) n j) kG ik le by_ tk bg en va tn b0 l0 u0 b1 l1 u1 b2 l2 u2 b3 l3 u3 fS cW) H := hP
        have hD : va_D _ (VW cI cJ cO B gG (hoursF (put9 gG i0 0 (nI i)) n j) kG ik le by_ tk bg en va tn b0 l0 u0 b1 l1 u1 b2 l2 u2 b3 l3 u3 fS cW) := hD
        refine W.eq (g2 := F0 m 58 ls []) rfl ?_
        refine lv_aload_n hx hb dX3_kind_58 rfl (lv_at hl 0 rfl) ?_
        refine va_get (ci := 3) (v := .ref (B 3)) hx hb hts wx_X3 hown hK hP 0 rfl rfl 1 (by decide) (hts _ wf_X3_16) (fun _ h9 => h9) rfl dX3_kind_59 ?_
        refine lv_iload_n hx hb dX3_kind_62 rfl (lv_at hl 1 rfl) ?_
        refine lv_bipush (v := 8) hx hb dX3_kind_63 rfl ?_
        refine ro_V (w := (GW cI (B 3) (B 4) ((hoursF (put9 gG i0 0 (nI i)) n j) 0) ((hoursF (put9 gG i0 0 (nI i)) n j) 2) ((hoursF (put9 gG i0 0 (nI i)) n j) 1) (tl (hoursF (put9 gG i0 0 (nI i)) n j)))) (rest := []) S hK (hP.sub [3, 4] rfl) (k_X0_getN i0 8 (by omega) (by omega)) gv_X3_108 hd_X0_get ⟨Nat.le_of_ble_eq_true rfl, Nat.le_of_ble_eq_true rfl⟩ 0 rfl rfl rfl rfl hl.1 (lv_room (Nat.le_of_ble_eq_true rfl)) dX3_kind_65 ⟨Nat.zero_le _, Nat.zero_le _⟩ ?_
        refine w_i (z := kindV gG n i0 j i) (rfl) ?_
        refine lv_istore (lv' := [(6, .int (kindV gG n i0 j i)), (0, .ref (B 0)), (1, .int (nI i0)), (2, .int (nI j)), (3, .int ((bestF yesP (kindV gG n i0 j) 0 i).1)), (4, .int ((bestF yesP (kindV gG n i0 j) 0 i).2)), (5, .int (nI i))]) hx hb dX3_kind_68 hl (by decide) rfl (fun ls hl => ?_)
        refine lv_iload hx hb dX3_kind_70 (lv_at hl 0 rfl) ?_
        refine lv_iload hx hb dX3_kind_72 (lv_at hl 5 rfl) ?_
        refine lv_icmp_le (tgt := 84) hx hb dX3_kind_74 rfl (fun c74 => ?_) (fun c74 => ?_)
        · rw [show bestF yesP (kindV gG n i0 j) 0 i = bestF yesP (kindV gG n i0 j) 0 (i + 1) from best_f (fun _ => c74)] at hl
          refine lv_iinc (v := nI (i + 1)) (lv' := [(5, .int (nI (i + 1))), (6, .int (kindV gG n i0 j i)), (0, .ref (B 0)), (1, .int (nI i0)), (2, .int (nI j)), (3, .int ((bestF yesP (kindV gG n i0 j) 0 (i + 1)).1)), (4, .int ((bestF yesP (kindV gG n i0 j) 0 (i + 1)).2))]) hx hb dX3_kind_84 hl (k := 6) rfl (nI_inc _) (by decide) rfl (fun ls hl => ?_)
          refine lv_goto (tgt := 36) hx hb dX3_kind_87 rfl ?_
          exact ih36 (i + 1, hoursF (put9 gG i0 0 (nI i)) n j) _ _ ls (by first | omega | (dsimp only; omega)) ⟨(by omega), hP, hD, hS, lv_sub hl [2, 3, 4, 5, 6, 0] rfl⟩
        · refine lv_iload hx hb dX3_kind_77 (lv_at hl 0 rfl) ?_
          refine w_i (z := (bestF yesP (kindV gG n i0 j) 0 (i + 1)).2) (congrArg Prod.snd (best_t (rfl) c74)) ?_
          refine lv_istore (lv' := [(4, .int ((bestF yesP (kindV gG n i0 j) 0 (i + 1)).2)), (6, .int (kindV gG n i0 j i)), (0, .ref (B 0)), (1, .int (nI i0)), (2, .int (nI j)), (3, .int ((bestF yesP (kindV gG n i0 j) 0 i).1)), (5, .int (nI i))]) hx hb dX3_kind_79 hl (by decide) rfl (fun ls hl => ?_)
          refine lv_iload hx hb dX3_kind_81 (lv_at hl 6 rfl) ?_
          refine w_i (z := (bestF yesP (kindV gG n i0 j) 0 (i + 1)).1) (congrArg Prod.fst (best_t (rfl) c74)) ?_
          refine lv_istore_n (lv' := [(3, .int ((bestF yesP (kindV gG n i0 j) 0 (i + 1)).1)), (4, .int ((bestF yesP (kindV gG n i0 j) 0 (i + 1)).2)), (6, .int (kindV gG n i0 j i)), (0, .ref (B 0)), (1, .int (nI i0)), (2, .int (nI j)), (5, .int (nI i))]) hx hb dX3_kind_83 rfl hl (by decide) rfl (fun ls hl => ?_)
          refine lv_iinc (v := nI (i + 1)) (lv' := [(5, .int (nI (i + 1))), (3, .int ((bestF yesP (kindV gG n i0 j) 0 (i + 1)).1)), (4, .int ((bestF yesP (kindV gG n i0 j) 0 (i + 1)).2)), (6, .int (kindV gG n i0 j i)), (0, .ref (B 0)), (1, .int (nI i0)), (2, .int (nI j))]) hx hb dX3_kind_84 hl (k := 6) rfl (nI_inc _) (by decide) rfl (fun ls hl => ?_)
          refine lv_goto (tgt := 36) hx hb dX3_kind_87 rfl ?_
          exact ih36 (i + 1, hoursF (put9 gG i0 0 (nI i)) n j) _ _ ls (by first | omega | (dsimp only; omega)) ⟨(by omega), hP, hD, hS, lv_sub hl [4, 5, 6, 1, 2, 0] rfl⟩
    · replace c18 := bn_n0 c18
      refine lv_aload_n hx hb dX3_kind_21 rfl (lv_at hl 0 rfl) ?_
      refine lv_ldc (v := (-1000000001)) hx hb hown (hts _ wq_X3_51) dX3_kind_22 ?_
      refine mu_W (w := (VW cI cJ cO B gG tG kG ik le by_ tk bg en va tn b0 l0 u0 b1 l1 u1 b2 l2 u2 b3 l3 u3 fS cW)) (rest := []) S hK hP hD hS (k_X3_finding 0 (-1000000001) (by decide) (by decide)) gv_X3_52 hd_X3_finding ⟨Nat.le_of_ble_eq_true rfl, Nat.le_of_ble_eq_true rfl⟩ 3 rfl rfl rfl rfl hl.1 (lv_room (Nat.le_of_ble_eq_true rfl)) dX3_kind_24 ⟨Nat.zero_le _, Nat.zero_le _⟩ (fun ov w' H locs hp hP hD hS => ?_)
      obtain ⟨rfl, rfl⟩ := hp
      refine W.eq (g2 := F0 m 27 ls [.int (-1000000001)]) rfl ?_
      have hE : upd fS 0 (fS 0 + 1) = okT (kindOk n (nI i0) k) fS := by simp [kindR, kindOk, okT, bump, put9, b2i, c8, c18, ei0, i_lt, -Int32.not_le, -Int32.not_lt]
      have hW : (VW cI cJ cO B gG tG kG ik le by_ tk bg en va tn b0 l0 u0 b1 l1 u1 b2 l2 u2 b3 l3 u3 (upd fS 0 (fS 0 + 1)) cW) = (VW cI cJ cO B gG tG kG ik le by_ tk bg en va tn b0 l0 u0 b1 l1 u1 b2 l2 u2 b3 l3 u3 (okT (kindOk n (nI i0) k) fS) cW) := congrArg (fun z => (VW cI cJ cO B gG tG kG ik le by_ tk bg en va tn b0 l0 u0 b1 l1 u1 b2 l2 u2 b3 l3 u3 z cW)) hE
      have hP : va_P D vwCl (VW cI cJ cO B gG tG kG ik le by_ tk bg en va tn b0 l0 u0 b1 l1 u1 b2 l2 u2 b3 l3 u3 (okT (kindOk n (nI i0) k) fS) cW) H := Eq.mp (congrArg (fun z => va_P D vwCl z H) hW) hP
      have hD : va_D _ (VW cI cJ cO B gG tG kG ik le by_ tk bg en va tn b0 l0 u0 b1 l1 u1 b2 l2 u2 b3 l3 u3 (okT (kindOk n (nI i0) k) fS) cW) := Eq.mp (congrArg (fun z => va_D _ z) hW) hD
      exact mu_iret (VW cI cJ cO B gG tG kG ik le by_ tk bg en va tn b0 l0 u0 b1 l1 u1 b2 l2 u2 b3 l3 u3 (okT (kindOk n (nI i0) k) fS) cW) hx hb hr hlk hP hS rfl (⟨tG, congrArg (fun z => some (Value.int z)) (by simp [kindR, kindOk, okT, bump, put9, b2i, c8, c18, ei0, i_lt, -Int32.not_le, -Int32.not_lt]), rfl⟩) dX3_kind_27

set_option maxHeartbeats 4000000 in
set_option maxRecDepth 100000 in
theorem k_X3_porter (n : Nat) (k : Int32) (hI : Inv gG n) (hh : rng (gG 0) 0 200000) : MU l D (tyA cI cJ cO) yX3_porter cX3_porter 6 ((some .int)) 5 115 [.ref (B 0), .int k] (VW cI cJ cO B gG tG kG ik le by_ tk bg en va tn b0 l0 u0 b1 l1 u1 b2 l2 u2 b3 l3 u3 fS cW) (fun ov w' => ∃ tG' : Nat → Int32, ov = some (.int (porterR gG n k)) ∧ w' = (VW cI cJ cO B gG tG' kG ik le by_ tk bg en va tn b0 l0 u0 b1 l1 u1 b2 l2 u2 b3 l3 u3 (porterT gG fS n k) cW)) := by
  refine MU.mk (by decide) (Nat.le_of_ble_eq_true rfl) ?_
  intro p e s m below meth c ls S hr hlk hP hK hD hS hl
  have S : CallFix p m c cX3_porter 6 s _ WL RX3 := S
  obtain ⟨hx, hb, hml, hown, hts⟩ := id S
  have hl : lv_has ls 6 [(0, .ref (B 0)), (1, .int k)] := hl
  have h8 : n ≤ 8 := hI.1
  have hI0 := hI
  have hh0 := hh
  refine lv_iload_n hx hb dX3_porter_0 rfl (lv_at hl 1 rfl) ?_
  refine lv_iconst (v := 1) hx hb dX3_porter_1 rfl ?_
  refine lv_bipush (v := 40) hx hb dX3_porter_2 rfl ?_
  refine ro_S (w := []) (rest := []) S hK va_P0 (k_X3_isOutside k 1 40) gs_X3_47 hd_X3_isOutside ⟨Nat.le_of_ble_eq_true rfl, Nat.le_of_ble_eq_true rfl⟩ rfl hl.1 (lv_room (Nat.le_of_ble_eq_true rfl)) dX3_porter_4 ⟨Nat.zero_le _, Nat.zero_le _⟩ ?_
  refine lv_if_eq (tgt := 17) hx hb dX3_porter_7 rfl (fun c7 => ?_) (fun c7 => ?_)
  · replace c7 := bn_0 c7
    obtain ⟨j, hja, hjb, rfl⟩ := in_nat (a := 1) (b := 40) (by decide) c7 (by decide)
    have ej : cl (nI j) = j := cl_nI (by omega)
    refine lv_iconst (v := (-1)) hx hb dX3_porter_17 rfl ?_
    refine w_i (z := (bestF (freeP gG) (porterV gG n j) (-1) 0).1) (by rw [bestF]) ?_
    refine lv_istore_n (lv' := [(2, .int ((bestF (freeP gG) (porterV gG n j) (-1) 0).1)), (0, .ref (B 0)), (1, .int (nI j))]) hx hb dX3_porter_18 rfl hl (by decide) rfl (fun ls hl => ?_)
    refine lv_iconst (v := (-1)) hx hb dX3_porter_19 rfl ?_
    refine w_i (z := (bestF (freeP gG) (porterV gG n j) (-1) 0).2) (by rw [bestF]) ?_
    refine lv_istore_n (lv' := [(3, .int ((bestF (freeP gG) (porterV gG n j) (-1) 0).2)), (2, .int ((bestF (freeP gG) (porterV gG n j) (-1) 0).1)), (0, .ref (B 0)), (1, .int (nI j))]) hx hb dX3_porter_20 rfl hl (by decide) rfl (fun ls hl => ?_)
    refine lv_iconst (v := 0) hx hb dX3_porter_21 rfl ?_
    refine lv_istore (lv' := [(4, .int 0), (3, .int ((bestF (freeP gG) (porterV gG n j) (-1) 0).2)), (2, .int ((bestF (freeP gG) (porterV gG n j) (-1) 0).1)), (0, .ref (B 0)), (1, .int (nI j))]) hx hb dX3_porter_22 hl (by decide) rfl (fun ls hl => ?_)
    refine w_loopH (pc := 24) (st := fun (x : Nat × (Nat → Int32)) => match x with | (i, t) => []) (μ := fun (x : Nat × (Nat → Int32)) => match x with | (i, t) => n - i) (I := fun (x : Nat × (Nat → Int32)) H locs ls => match x with | (i, t) => (i ≤ n) ∧ va_P D vwCl (VW cI cJ cO B gG t kG ik le by_ tk bg en va tn b0 l0 u0 b1 l1 u1 b2 l2 u2 b3 l3 u3 fS cW) H ∧ va_D (fun z9 => z9 ∈ ((VW cI cJ cO B gG tG kG ik le by_ tk bg en va tn b0 l0 u0 b1 l1 u1 b2 l2 u2 b3 l3 u3 fS cW)).map (fun z8 => z8.1)) (VW cI cJ cO B gG t kG ik le by_ tk bg en va tn b0 l0 u0 b1 l1 u1 b2 l2 u2 b3 l3 u3 fS cW) ∧ va_S (fun z9 => z9 ∈ ((VW cI cJ cO B gG tG kG ik le by_ tk bg en va tn b0 l0 u0 b1 l1 u1 b2 l2 u2 b3 l3 u3 fS cW)).map (fun z8 => z8.1)) s.heap H locs ∧ lv_has ls 6 [(0, .ref (B 0)), (1, .int (nI j)), (2, .int ((bestF (freeP gG) (porterV gG n j) (-1) i).1)), (3, .int ((bestF (freeP gG) (porterV gG n j) (-1) i).2)), (4, .int (nI i))]) ?_ (0, tG) ⟨Nat.zero_le _, hP, hD, hS, lv_sub hl [3, 4, 2, 1, 0] rfl⟩
    rintro ⟨i, t⟩ H locs ls ⟨hi, hP, hD, hS, hl⟩ ih24
    try dsimp only at ih24 ⊢
    have hI := hI0
    refine lv_iload hx hb dX3_porter_24 (lv_at hl 4 rfl) ?_
    refine lv_aload_n hx hb dX3_porter_26 rfl (lv_at hl 0 rfl) ?_
    refine va_get (ci := 3) (v := .ref (B 1)) hx hb hts wx_X3 hown hK hP 0 rfl rfl 0 (by decide) (hts _ wf_X3_10) (fun _ h9 => h9) rfl dX3_porter_27 ?_
    refine va_get (ci := 0) (v := .int (gG 1)) hx hb hts wx_X0 hown hK hP 1 rfl rfl 2 (by decide) (hts _ wf_X3_148) (fun _ h9 => h9) rfl dX3_porter_30 ?_
    refine w_i (z := nI n) (hI.2.1) ?_
    refine lv_icmp_ge (tgt := 94) hx hb dX3_porter_33 rfl (fun c33 => ?_) (fun c33 => ?_)
    · replace c33 := nq_le (a := n) (b := i) (by omega) (by omega) c33
      obtain rfl : n = i := by omega
      refine lv_iload_n hx hb dX3_porter_94 rfl (lv_at hl 2 rfl) ?_
      refine lv_iconst (v := (-1)) hx hb dX3_porter_95 rfl ?_
      refine lv_icmp_ne (tgt := 108) hx hb dX3_porter_96 rfl (fun c96 => ?_) (fun c96 => ?_)
      · have c96p : 0 ≤ (bestF (freeP gG) (porterV gG n j) (-1) n).1 := (best_pos (by omega)).resolve_left c96
        refine lv_iload_n hx hb dX3_porter_108 rfl (lv_at hl 2 rfl) ?_
        have hE : fS = porterT gG fS n (nI j) := by simp [porterR, porterB, porterT, bump, put9, b2i, c7, c33, ej, c96p, i_lt, -Int32.not_le, -Int32.not_lt]
        have hW : (VW cI cJ cO B gG t kG ik le by_ tk bg en va tn b0 l0 u0 b1 l1 u1 b2 l2 u2 b3 l3 u3 fS cW) = (VW cI cJ cO B gG t kG ik le by_ tk bg en va tn b0 l0 u0 b1 l1 u1 b2 l2 u2 b3 l3 u3 (porterT gG fS n (nI j)) cW) := congrArg (fun z => (VW cI cJ cO B gG t kG ik le by_ tk bg en va tn b0 l0 u0 b1 l1 u1 b2 l2 u2 b3 l3 u3 z cW)) hE
        have hP : va_P D vwCl (VW cI cJ cO B gG t kG ik le by_ tk bg en va tn b0 l0 u0 b1 l1 u1 b2 l2 u2 b3 l3 u3 (porterT gG fS n (nI j)) cW) H := Eq.mp (congrArg (fun z => va_P D vwCl z H) hW) hP
        have hD : va_D _ (VW cI cJ cO B gG t kG ik le by_ tk bg en va tn b0 l0 u0 b1 l1 u1 b2 l2 u2 b3 l3 u3 (porterT gG fS n (nI j)) cW) := Eq.mp (congrArg (fun z => va_D _ z) hW) hD
        exact mu_iret (VW cI cJ cO B gG t kG ik le by_ tk bg en va tn b0 l0 u0 b1 l1 u1 b2 l2 u2 b3 l3 u3 (porterT gG fS n (nI j)) cW) hx hb hr hlk hP hS rfl (⟨t, congrArg (fun z => some (Value.int z)) (by simp [porterR, porterB, porterT, bump, put9, b2i, c7, c33, ej, c96p, i_lt, -Int32.not_le, -Int32.not_lt]), rfl⟩) dX3_porter_109
      · have c96p : ¬ 0 ≤ (bestF (freeP gG) (porterV gG n j) (-1) n).1 := by rw [c96]; decide
        refine lv_aload_n hx hb dX3_porter_99 rfl (lv_at hl 0 rfl) ?_
        refine lv_ldc (v := (-1000000004)) hx hb hown (hts _ wq_X3_154) dX3_porter_100 ?_
        refine mu_W (w := (VW cI cJ cO B gG t kG ik le by_ tk bg en va tn b0 l0 u0 b1 l1 u1 b2 l2 u2 b3 l3 u3 fS cW)) (rest := []) S hK hP hD hS (k_X3_finding 3 (-1000000004) (by decide) (by decide)) gv_X3_52 hd_X3_finding ⟨Nat.le_of_ble_eq_true rfl, Nat.le_of_ble_eq_true rfl⟩ 3 rfl rfl rfl rfl hl.1 (lv_room (Nat.le_of_ble_eq_true rfl)) dX3_porter_102 ⟨Nat.zero_le _, Nat.zero_le _⟩ (fun ov w' H locs hp hP hD hS => ?_)
        obtain ⟨rfl, rfl⟩ := hp
        refine W.eq (g2 := F0 m 105 ls [.int (-1000000004)]) rfl ?_
        refine lv_goto (tgt := 109) hx hb dX3_porter_105 rfl ?_
        have hE : upd fS 3 (fS 3 + 1) = porterT gG fS n (nI j) := by simp [porterR, porterB, porterT, bump, put9, b2i, c7, c33, ej, c96p, i_lt, -Int32.not_le, -Int32.not_lt]
        have hW : (VW cI cJ cO B gG t kG ik le by_ tk bg en va tn b0 l0 u0 b1 l1 u1 b2 l2 u2 b3 l3 u3 (upd fS 3 (fS 3 + 1)) cW) = (VW cI cJ cO B gG t kG ik le by_ tk bg en va tn b0 l0 u0 b1 l1 u1 b2 l2 u2 b3 l3 u3 (porterT gG fS n (nI j)) cW) := congrArg (fun z => (VW cI cJ cO B gG t kG ik le by_ tk bg en va tn b0 l0 u0 b1 l1 u1 b2 l2 u2 b3 l3 u3 z cW)) hE
        have hP : va_P D vwCl (VW cI cJ cO B gG t kG ik le by_ tk bg en va tn b0 l0 u0 b1 l1 u1 b2 l2 u2 b3 l3 u3 (porterT gG fS n (nI j)) cW) H := Eq.mp (congrArg (fun z => va_P D vwCl z H) hW) hP
        have hD : va_D _ (VW cI cJ cO B gG t kG ik le by_ tk bg en va tn b0 l0 u0 b1 l1 u1 b2 l2 u2 b3 l3 u3 (porterT gG fS n (nI j)) cW) := Eq.mp (congrArg (fun z => va_D _ z) hW) hD
        exact mu_iret (VW cI cJ cO B gG t kG ik le by_ tk bg en va tn b0 l0 u0 b1 l1 u1 b2 l2 u2 b3 l3 u3 (porterT gG fS n (nI j)) cW) hx hb hr hlk hP hS rfl (⟨t, congrArg (fun z => some (Value.int z)) (by simp [porterR, porterB, porterT, bump, put9, b2i, c7, c33, ej, c96p, i_lt, -Int32.not_le, -Int32.not_lt]), rfl⟩) dX3_porter_109
    · replace c33 := nq_nle (a := n) (b := i) (by omega) (by omega) c33
      refine lv_aload_n hx hb dX3_porter_36 rfl (lv_at hl 0 rfl) ?_
      refine va_get (ci := 3) (v := .ref (B 1)) hx hb hts wx_X3 hown hK hP 0 rfl rfl 0 (by decide) (hts _ wf_X3_10) (fun _ h9 => h9) rfl dX3_porter_37 ?_
      refine lv_iload hx hb dX3_porter_40 (lv_at hl 4 rfl) ?_
      refine lv_bipush (v := 7) hx hb dX3_porter_42 rfl ?_
      refine ro_V (w := (GW cI (B 1) (B 2) (gG 0) (gG 2) (gG 1) (tl gG))) (rest := []) S hK (hP.sub [1, 2] rfl) (k_X0_getN i 7 (by omega) (by omega)) gv_X3_108 hd_X0_get ⟨Nat.le_of_ble_eq_true rfl, Nat.le_of_ble_eq_true rfl⟩ 0 rfl rfl rfl rfl hl.1 (lv_room (Nat.le_of_ble_eq_true rfl)) dX3_porter_44 ⟨Nat.zero_le _, Nat.zero_le _⟩ ?_
      refine lv_if_ne (tgt := 88) hx hb dX3_porter_47 rfl (fun c47 => ?_) (fun c47 => ?_)
      · rw [show bestF (freeP gG) (porterV gG n j) (-1) i = bestF (freeP gG) (porterV gG n j) (-1) (i + 1) from best_f (fun h9 => absurd (of_decide_eq_true h9) c47)] at hl
        refine lv_iinc (v := nI (i + 1)) (lv' := [(4, .int (nI (i + 1))), (0, .ref (B 0)), (1, .int (nI j)), (2, .int ((bestF (freeP gG) (porterV gG n j) (-1) (i + 1)).1)), (3, .int ((bestF (freeP gG) (porterV gG n j) (-1) (i + 1)).2))]) hx hb dX3_porter_88 hl (k := 4) rfl (nI_inc _) (by decide) rfl (fun ls hl => ?_)
        refine lv_goto (tgt := 24) hx hb dX3_porter_91 rfl ?_
        exact ih24 (i + 1, t) _ _ ls (by first | omega | (dsimp only; omega)) ⟨(by omega), hP, hD, hS, lv_sub hl [1, 2, 3, 4, 0] rfl⟩
      · refine lv_aload_n hx hb dX3_porter_50 rfl (lv_at hl 0 rfl) ?_
        refine lv_iload hx hb dX3_porter_51 (lv_at hl 4 rfl) ?_
        refine lv_bipush (v := 7) hx hb dX3_porter_53 rfl ?_
        refine lv_iconst (v := 1) hx hb dX3_porter_55 rfl ?_
        refine mu_W (w := (VW cI cJ cO B gG t kG ik le by_ tk bg en va tn b0 l0 u0 b1 l1 u1 b2 l2 u2 b3 l3 u3 fS cW)) (rest := []) S hK hP hD hS (k_X3_suppose i 7 1 (by omega) (by omega)) gv_X3_151 hd_X3_suppose ⟨Nat.le_of_ble_eq_true rfl, Nat.le_of_ble_eq_true rfl⟩ 3 rfl rfl rfl rfl hl.1 (lv_room (Nat.le_of_ble_eq_true rfl)) dX3_porter_56 ⟨Nat.zero_le _, Nat.zero_le _⟩ (fun ov w' H locs hp hP hD hS => ?_)
        obtain ⟨rfl, rfl⟩ := hp
        refine W.eq (g2 := F0 m 59 ls []) rfl ?_
        refine lv_aload_n hx hb dX3_porter_59 rfl (lv_at hl 0 rfl) ?_
        refine va_get (ci := 3) (v := .ref (B 3)) hx hb hts wx_X3 hown hK hP 0 rfl rfl 1 (by decide) (hts _ wf_X3_16) (fun _ h9 => h9) rfl dX3_porter_60 ?_
        refine lv_iload_n hx hb dX3_porter_63 rfl (lv_at hl 1 rfl) ?_
        have hI : Inv (put9 gG i 7 1) n := Inv_pv (f := i) (w := 7) (v := 1) (b := 1) hI0 (by omega) (by omega)
        have hh : rng ((put9 gG i 7 1) 0) 0 200000 := by rw [put_lo (by decide)]; exact hh0
        refine mu_V (w := (GW cI (B 3) (B 4) ((put9 gG i 7 1) 0) ((put9 gG i 7 1) 2) ((put9 gG i 7 1) 1) (tl (put9 gG i 7 1)))) (rest := []) S hK hP hD hS (k_X0_pass n j hI hh (by omega)) gv_X3_131 hd_X0_pass ⟨Nat.le_of_ble_eq_true rfl, Nat.le_of_ble_eq_true rfl⟩ [3, 4] rfl rfl 0 rfl rfl rfl rfl hl.1 (lv_room (Nat.le_of_ble_eq_true rfl)) dX3_porter_64 ⟨Nat.zero_le _, Nat.zero_le _⟩ (fun ov w' H locs hp hP hD hS => ?_)
        obtain ⟨rfl, rfl⟩ := hp
        have hP : va_P D vwCl (VW cI cJ cO B gG (hoursF (put9 gG i 7 1) n j) kG ik le by_ tk bg en va tn b0 l0 u0 b1 l1 u1 b2 l2 u2 b3 l3 u3 fS cW) H := hP
        have hD : va_D _ (VW cI cJ cO B gG (hoursF (put9 gG i 7 1) n j) kG ik le by_ tk bg en va tn b0 l0 u0 b1 l1 u1 b2 l2 u2 b3 l3 u3 fS cW) := hD
        refine W.eq (g2 := F0 m 67 ls []) rfl ?_
        refine lv_aload_n hx hb dX3_porter_67 rfl (lv_at hl 0 rfl) ?_
        refine va_get (ci := 3) (v := .ref (B 3)) hx hb hts wx_X3 hown hK hP 0 rfl rfl 1 (by decide) (hts _ wf_X3_16) (fun _ h9 => h9) rfl dX3_porter_68 ?_
        have hI := Inv_hours hI j
        refine ro_V (w := (GW cI (B 3) (B 4) ((hoursF (put9 gG i 7 1) n j) 0) ((hoursF (put9 gG i 7 1) n j) 2) ((hoursF (put9 gG i 7 1) n j) 1) (tl (hoursF (put9 gG i 7 1) n j)))) (rest := []) S hK (hP.sub [3, 4] rfl) (k_X0_howManyContent n hI) gv_X3_145 hd_X0_howManyContent ⟨Nat.le_of_ble_eq_true rfl, Nat.le_of_ble_eq_true rfl⟩ 0 rfl rfl rfl rfl hl.1 (lv_room (Nat.le_of_ble_eq_true rfl)) dX3_porter_71 ⟨Nat.zero_le _, Nat.zero_le _⟩ ?_
        refine w_i (z := porterV gG n j i) (rfl) ?_
        refine lv_istore (lv' := [(5, .int (porterV gG n j i)), (0, .ref (B 0)), (1, .int (nI j)), (2, .int ((bestF (freeP gG) (porterV gG n j) (-1) i).1)), (3, .int ((bestF (freeP gG) (porterV gG n j) (-1) i).2)), (4, .int (nI i))]) hx hb dX3_porter_74 hl (by decide) rfl (fun ls hl => ?_)
        refine lv_iload hx hb dX3_porter_76 (lv_at hl 0 rfl) ?_
        refine lv_iload_n hx hb dX3_porter_78 rfl (lv_at hl 4 rfl) ?_
        refine lv_icmp_le (tgt := 88) hx hb dX3_porter_79 rfl (fun c79 => ?_) (fun c79 => ?_)
        · rw [show bestF (freeP gG) (porterV gG n j) (-1) i = bestF (freeP gG) (porterV gG n j) (-1) (i + 1) from best_f (fun _ => c79)] at hl
          refine lv_iinc (v := nI (i + 1)) (lv' := [(4, .int (nI (i + 1))), (5, .int (porterV gG n j i)), (0, .ref (B 0)), (1, .int (nI j)), (2, .int ((bestF (freeP gG) (porterV gG n j) (-1) (i + 1)).1)), (3, .int ((bestF (freeP gG) (porterV gG n j) (-1) (i + 1)).2))]) hx hb dX3_porter_88 hl (k := 5) rfl (nI_inc _) (by decide) rfl (fun ls hl => ?_)
          refine lv_goto (tgt := 24) hx hb dX3_porter_91 rfl ?_
          exact ih24 (i + 1, hoursF (put9 gG i 7 1) n j) _ _ ls (by first | omega | (dsimp only; omega)) ⟨(by omega), hP, hD, hS, lv_sub hl [2, 3, 4, 5, 0] rfl⟩
        · refine lv_iload hx hb dX3_porter_82 (lv_at hl 0 rfl) ?_
          refine w_i (z := (bestF (freeP gG) (porterV gG n j) (-1) (i + 1)).2) (congrArg Prod.snd (best_t (decide_eq_true c47) c79)) ?_
          refine lv_istore_n (lv' := [(3, .int ((bestF (freeP gG) (porterV gG n j) (-1) (i + 1)).2)), (5, .int (porterV gG n j i)), (0, .ref (B 0)), (1, .int (nI j)), (2, .int ((bestF (freeP gG) (porterV gG n j) (-1) i).1)), (4, .int (nI i))]) hx hb dX3_porter_84 rfl hl (by decide) rfl (fun ls hl => ?_)
          refine lv_iload hx hb dX3_porter_85 (lv_at hl 5 rfl) ?_
          refine w_i (z := (bestF (freeP gG) (porterV gG n j) (-1) (i + 1)).1) (congrArg Prod.fst (best_t (decide_eq_true c47) c79)) ?_
          refine lv_istore_n (lv' := [(2, .int ((bestF (freeP gG) (porterV gG n j) (-1) (i + 1)).1)), (3, .int ((bestF (freeP gG) (porterV gG n j) (-1) (i + 1)).2)), (5, .int (porterV gG n j i)), (0, .ref (B 0)), (1, .int (nI j)), (4, .int (nI i))]) hx hb dX3_porter_87 rfl hl (by decide) rfl (fun ls hl => ?_)
          refine lv_iinc (v := nI (i + 1)) (lv' := [(4, .int (nI (i + 1))), (2, .int ((bestF (freeP gG) (porterV gG n j) (-1) (i + 1)).1)), (3, .int ((bestF (freeP gG) (porterV gG n j) (-1) (i + 1)).2)), (5, .int (porterV gG n j i)), (0, .ref (B 0)), (1, .int (nI j))]) hx hb dX3_porter_88 hl (k := 5) rfl (nI_inc _) (by decide) rfl (fun ls hl => ?_)
          refine lv_goto (tgt := 24) hx hb dX3_porter_91 rfl ?_
          exact ih24 (i + 1, hoursF (put9 gG i 7 1) n j) _ _ ls (by first | omega | (dsimp only; omega)) ⟨(by omega), hP, hD, hS, lv_sub hl [4, 5, 1, 2, 0] rfl⟩
  · replace c7 := bn_n0 c7
    refine lv_aload_n hx hb dX3_porter_10 rfl (lv_at hl 0 rfl) ?_
    refine lv_ldc (v := (-1000000001)) hx hb hown (hts _ wq_X3_51) dX3_porter_11 ?_
    refine mu_W (w := (VW cI cJ cO B gG tG kG ik le by_ tk bg en va tn b0 l0 u0 b1 l1 u1 b2 l2 u2 b3 l3 u3 fS cW)) (rest := []) S hK hP hD hS (k_X3_finding 0 (-1000000001) (by decide) (by decide)) gv_X3_52 hd_X3_finding ⟨Nat.le_of_ble_eq_true rfl, Nat.le_of_ble_eq_true rfl⟩ 3 rfl rfl rfl rfl hl.1 (lv_room (Nat.le_of_ble_eq_true rfl)) dX3_porter_13 ⟨Nat.zero_le _, Nat.zero_le _⟩ (fun ov w' H locs hp hP hD hS => ?_)
    obtain ⟨rfl, rfl⟩ := hp
    refine W.eq (g2 := F0 m 16 ls [.int (-1000000001)]) rfl ?_
    have hE : upd fS 0 (fS 0 + 1) = porterT gG fS n k := by simp [porterR, porterB, porterT, bump, put9, b2i, c7, i_lt, -Int32.not_le, -Int32.not_lt]
    have hW : (VW cI cJ cO B gG tG kG ik le by_ tk bg en va tn b0 l0 u0 b1 l1 u1 b2 l2 u2 b3 l3 u3 (upd fS 0 (fS 0 + 1)) cW) = (VW cI cJ cO B gG tG kG ik le by_ tk bg en va tn b0 l0 u0 b1 l1 u1 b2 l2 u2 b3 l3 u3 (porterT gG fS n k) cW) := congrArg (fun z => (VW cI cJ cO B gG tG kG ik le by_ tk bg en va tn b0 l0 u0 b1 l1 u1 b2 l2 u2 b3 l3 u3 z cW)) hE
    have hP : va_P D vwCl (VW cI cJ cO B gG tG kG ik le by_ tk bg en va tn b0 l0 u0 b1 l1 u1 b2 l2 u2 b3 l3 u3 (porterT gG fS n k) cW) H := Eq.mp (congrArg (fun z => va_P D vwCl z H) hW) hP
    have hD : va_D _ (VW cI cJ cO B gG tG kG ik le by_ tk bg en va tn b0 l0 u0 b1 l1 u1 b2 l2 u2 b3 l3 u3 (porterT gG fS n k) cW) := Eq.mp (congrArg (fun z => va_D _ z) hW) hD
    exact mu_iret (VW cI cJ cO B gG tG kG ik le by_ tk bg en va tn b0 l0 u0 b1 l1 u1 b2 l2 u2 b3 l3 u3 (porterT gG fS n k) cW) hx hb hr hlk hP hS rfl (⟨tG, congrArg (fun z => some (Value.int z)) (by simp [porterR, porterB, porterT, bump, put9, b2i, c7, i_lt, -Int32.not_le, -Int32.not_lt]), rfl⟩) dX3_porter_16

set_option maxHeartbeats 4000000 in
set_option maxRecDepth 100000 in
theorem k_X3_by (n : Nat) (k : Int32) (v : Int32) (hI : Inv gG n) (hh : rng (gG 0) 0 200000) : MU l D (tyA cI cJ cO) yX3_by cX3_by 4 ((some .int)) 5 115 [.ref (B 0), .int k, .int v] (VW cI cJ cO B gG tG kG ik le by_ tk bg en va tn b0 l0 u0 b1 l1 u1 b2 l2 u2 b3 l3 u3 fS cW) (fun ov w' => ∃ tG' : Nat → Int32, ov = some (.int (byR gG n k v)) ∧ w' = (VW cI cJ cO B gG tG' kG ik le by_ tk bg en va tn b0 l0 u0 b1 l1 u1 b2 l2 u2 b3 l3 u3 (byT gG fS n k v) cW)) := by
  refine MU.mk (by decide) (Nat.le_of_ble_eq_true rfl) ?_
  intro p e s m below meth c ls S hr hlk hP hK hD hS hl
  have S : CallFix p m c cX3_by 4 s _ WL RX3 := S
  obtain ⟨hx, hb, hml, hown, hts⟩ := id S
  have hl : lv_has ls 4 [(0, .ref (B 0)), (1, .int k), (2, .int v)] := hl
  have h8 : n ≤ 8 := hI.1
  have hI0 := hI
  have hh0 := hh
  refine lv_iload_n hx hb dX3_by_0 rfl (lv_at hl 1 rfl) ?_
  refine lv_iconst (v := 1) hx hb dX3_by_1 rfl ?_
  refine lv_bipush (v := 40) hx hb dX3_by_2 rfl ?_
  refine ro_S (w := []) (rest := []) S hK va_P0 (k_X3_isOutside k 1 40) gs_X3_47 hd_X3_isOutside ⟨Nat.le_of_ble_eq_true rfl, Nat.le_of_ble_eq_true rfl⟩ rfl hl.1 (lv_room (Nat.le_of_ble_eq_true rfl)) dX3_by_4 ⟨Nat.zero_le _, Nat.zero_le _⟩ ?_
  refine lv_if_ne (tgt := 20) hx hb dX3_by_7 rfl (fun c7 => ?_) (fun c7 => ?_)
  · replace c7 := bn_n0 c7
    refine lv_aload_n hx hb dX3_by_20 rfl (lv_at hl 0 rfl) ?_
    refine lv_ldc (v := (-1000000001)) hx hb hown (hts _ wq_X3_51) dX3_by_21 ?_
    refine mu_W (w := (VW cI cJ cO B gG tG kG ik le by_ tk bg en va tn b0 l0 u0 b1 l1 u1 b2 l2 u2 b3 l3 u3 fS cW)) (rest := []) S hK hP hD hS (k_X3_finding 0 (-1000000001) (by decide) (by decide)) gv_X3_52 hd_X3_finding ⟨Nat.le_of_ble_eq_true rfl, Nat.le_of_ble_eq_true rfl⟩ 3 rfl rfl rfl rfl hl.1 (lv_room (Nat.le_of_ble_eq_true rfl)) dX3_by_23 ⟨Nat.zero_le _, Nat.zero_le _⟩ (fun ov w' H locs hp hP hD hS => ?_)
    obtain ⟨rfl, rfl⟩ := hp
    refine W.eq (g2 := F0 m 26 ls [.int (-1000000001)]) rfl ?_
    have hE : upd fS 0 (fS 0 + 1) = byT gG fS n k v := by simp [byR, byT, byOk, byJ, bump, put9, b2i, c7, i_lt, -Int32.not_le, -Int32.not_lt]
    have hW : (VW cI cJ cO B gG tG kG ik le by_ tk bg en va tn b0 l0 u0 b1 l1 u1 b2 l2 u2 b3 l3 u3 (upd fS 0 (fS 0 + 1)) cW) = (VW cI cJ cO B gG tG kG ik le by_ tk bg en va tn b0 l0 u0 b1 l1 u1 b2 l2 u2 b3 l3 u3 (byT gG fS n k v) cW) := congrArg (fun z => (VW cI cJ cO B gG tG kG ik le by_ tk bg en va tn b0 l0 u0 b1 l1 u1 b2 l2 u2 b3 l3 u3 z cW)) hE
    have hP : va_P D vwCl (VW cI cJ cO B gG tG kG ik le by_ tk bg en va tn b0 l0 u0 b1 l1 u1 b2 l2 u2 b3 l3 u3 (byT gG fS n k v) cW) H := Eq.mp (congrArg (fun z => va_P D vwCl z H) hW) hP
    have hD : va_D _ (VW cI cJ cO B gG tG kG ik le by_ tk bg en va tn b0 l0 u0 b1 l1 u1 b2 l2 u2 b3 l3 u3 (byT gG fS n k v) cW) := Eq.mp (congrArg (fun z => va_D _ z) hW) hD
    exact mu_iret (VW cI cJ cO B gG tG kG ik le by_ tk bg en va tn b0 l0 u0 b1 l1 u1 b2 l2 u2 b3 l3 u3 (byT gG fS n k v) cW) hx hb hr hlk hP hS rfl (⟨tG, congrArg (fun z => some (Value.int z)) (by simp [byR, byT, byOk, byJ, bump, put9, b2i, c7, i_lt, -Int32.not_le, -Int32.not_lt]), rfl⟩) dX3_by_26
  · replace c7 := bn_0 c7
    obtain ⟨j0, hj0a, hj0b, rfl⟩ := in_nat (a := 1) (b := 40) (by decide) c7 (by decide)
    have ej0 : cl (nI j0) = j0 := cl_nI (by omega)
    refine lv_iload_n hx hb dX3_by_10 rfl (lv_at hl 2 rfl) ?_
    refine lv_iconst (v := 0) hx hb dX3_by_11 rfl ?_
    refine lv_bipush (v := 8) hx hb dX3_by_12 rfl ?_
    refine ro_S (w := []) (rest := []) S hK va_P0 (k_X3_isOutside v 0 8) gs_X3_47 hd_X3_isOutside ⟨Nat.le_of_ble_eq_true rfl, Nat.le_of_ble_eq_true rfl⟩ rfl hl.1 (lv_room (Nat.le_of_ble_eq_true rfl)) dX3_by_14 ⟨Nat.zero_le _, Nat.zero_le _⟩ ?_
    refine lv_if_eq (tgt := 27) hx hb dX3_by_17 rfl (fun c17 => ?_) (fun c17 => ?_)
    · replace c17 := bn_0 c17
      refine lv_iconst (v := 0) hx hb dX3_by_27 rfl ?_
      refine lv_istore_n (lv' := [(3, .int 0), (0, .ref (B 0)), (1, .int (nI j0)), (2, .int v)]) hx hb dX3_by_28 rfl hl (by decide) rfl (fun ls hl => ?_)
      refine w_loopH (pc := 29) (st := fun (x : Nat × (Nat → Int32)) => match x with | (i, t) => []) (μ := fun (x : Nat × (Nat → Int32)) => match x with | (i, t) => 9 - i) (I := fun (x : Nat × (Nat → Int32)) H locs ls => match x with | (i, t) => (i ≤ 9) ∧ (∀ j, j < i → byP gG n (nI j0) v j = false) ∧ va_P D vwCl (VW cI cJ cO B gG t kG ik le by_ tk bg en va tn b0 l0 u0 b1 l1 u1 b2 l2 u2 b3 l3 u3 fS cW) H ∧ va_D (fun z9 => z9 ∈ ((VW cI cJ cO B gG tG kG ik le by_ tk bg en va tn b0 l0 u0 b1 l1 u1 b2 l2 u2 b3 l3 u3 fS cW)).map (fun z8 => z8.1)) (VW cI cJ cO B gG t kG ik le by_ tk bg en va tn b0 l0 u0 b1 l1 u1 b2 l2 u2 b3 l3 u3 fS cW) ∧ va_S (fun z9 => z9 ∈ ((VW cI cJ cO B gG tG kG ik le by_ tk bg en va tn b0 l0 u0 b1 l1 u1 b2 l2 u2 b3 l3 u3 fS cW)).map (fun z8 => z8.1)) s.heap H locs ∧ lv_has ls 4 [(0, .ref (B 0)), (1, .int (nI j0)), (2, .int v), (3, .int (nI i))]) ?_ (0, tG) ⟨Nat.zero_le _, fun j h => absurd h (Nat.not_lt_zero j), hP, hD, hS, lv_sub hl [1, 2, 3, 0] rfl⟩
      rintro ⟨i, t⟩ H locs ls ⟨hi, hbb, hP, hD, hS, hl⟩ ih29
      try dsimp only at ih29 ⊢
      refine lv_iload_n hx hb dX3_by_29 rfl (lv_at hl 3 rfl) ?_
      refine lv_bipush (v := 8) hx hb dX3_by_30 rfl ?_
      refine lv_icmp_gt (tgt := 81) hx hb dX3_by_32 rfl (fun c32 => ?_) (fun c32 => ?_)
      · replace c32 := nq_lt (a := 8) (b := i) (by omega) (by omega) c32
        have hfs : fstN (byP gG n (nI j0) v) 9 = 9 := fstN_all (fun j hj => hbb j (by omega))
        refine lv_aload_n hx hb dX3_by_81 rfl (lv_at hl 0 rfl) ?_
        refine lv_ldc (v := (-1000000004)) hx hb hown (hts _ wq_X3_154) dX3_by_82 ?_
        refine mu_W (w := (VW cI cJ cO B gG t kG ik le by_ tk bg en va tn b0 l0 u0 b1 l1 u1 b2 l2 u2 b3 l3 u3 fS cW)) (rest := []) S hK hP hD hS (k_X3_finding 3 (-1000000004) (by decide) (by decide)) gv_X3_52 hd_X3_finding ⟨Nat.le_of_ble_eq_true rfl, Nat.le_of_ble_eq_true rfl⟩ 3 rfl rfl rfl rfl hl.1 (lv_room (Nat.le_of_ble_eq_true rfl)) dX3_by_84 ⟨Nat.zero_le _, Nat.zero_le _⟩ (fun ov w' H locs hp hP hD hS => ?_)
        obtain ⟨rfl, rfl⟩ := hp
        refine W.eq (g2 := F0 m 87 ls [.int (-1000000004)]) rfl ?_
        have hE : upd fS 3 (fS 3 + 1) = byT gG fS n (nI j0) v := by simp [byR, byT, byOk, byJ, bump, put9, b2i, c7, c17, c32, ej0, hfs, i_lt, -Int32.not_le, -Int32.not_lt]
        have hW : (VW cI cJ cO B gG t kG ik le by_ tk bg en va tn b0 l0 u0 b1 l1 u1 b2 l2 u2 b3 l3 u3 (upd fS 3 (fS 3 + 1)) cW) = (VW cI cJ cO B gG t kG ik le by_ tk bg en va tn b0 l0 u0 b1 l1 u1 b2 l2 u2 b3 l3 u3 (byT gG fS n (nI j0) v) cW) := congrArg (fun z => (VW cI cJ cO B gG t kG ik le by_ tk bg en va tn b0 l0 u0 b1 l1 u1 b2 l2 u2 b3 l3 u3 z cW)) hE
        have hP : va_P D vwCl (VW cI cJ cO B gG t kG ik le by_ tk bg en va tn b0 l0 u0 b1 l1 u1 b2 l2 u2 b3 l3 u3 (byT gG fS n (nI j0) v) cW) H := Eq.mp (congrArg (fun z => va_P D vwCl z H) hW) hP
        have hD : va_D _ (VW cI cJ cO B gG t kG ik le by_ tk bg en va tn b0 l0 u0 b1 l1 u1 b2 l2 u2 b3 l3 u3 (byT gG fS n (nI j0) v) cW) := Eq.mp (congrArg (fun z => va_D _ z) hW) hD
        exact mu_iret (VW cI cJ cO B gG t kG ik le by_ tk bg en va tn b0 l0 u0 b1 l1 u1 b2 l2 u2 b3 l3 u3 (byT gG fS n (nI j0) v) cW) hx hb hr hlk hP hS rfl (⟨t, congrArg (fun z => some (Value.int z)) (by simp [byR, byT, byOk, byJ, bump, put9, b2i, c7, c17, c32, ej0, hfs, i_lt, -Int32.not_le, -Int32.not_lt]), rfl⟩) dX3_by_87
      · replace c32 := nq_nlt (a := 8) (b := i) (by omega) (by omega) c32
        refine lv_aload_n hx hb dX3_by_35 rfl (lv_at hl 0 rfl) ?_
        refine va_get (ci := 3) (v := .ref (B 3)) hx hb hts wx_X3 hown hK hP 0 rfl rfl 1 (by decide) (hts _ wf_X3_16) (fun _ h9 => h9) rfl dX3_by_36 ?_
        refine lv_aload_n hx hb dX3_by_39 rfl (lv_at hl 0 rfl) ?_
        refine va_get (ci := 3) (v := .ref (B 1)) hx hb hts wx_X3 hown hK hP 0 rfl rfl 0 (by decide) (hts _ wf_X3_10) (fun _ h9 => h9) rfl dX3_by_40 ?_
        refine mu_V (w := (G2 cI (B 3) (B 4) (t 0) (t 2) (t 1) (tl t) (B 1) (B 2) (gG 0) (gG 2) (gG 1) (tl gG))) (rest := []) S hK hP hD hS (k_X0_become (g := t) (g2 := gG)) gv_X3_135 hd_X0_become ⟨Nat.le_of_ble_eq_true rfl, Nat.le_of_ble_eq_true rfl⟩ [3, 4, 1, 2] rfl rfl 0 rfl rfl rfl rfl hl.1 (lv_room (Nat.le_of_ble_eq_true rfl)) dX3_by_43 ⟨Nat.zero_le _, Nat.zero_le _⟩ (fun ov w' H locs hp hP hD hS => ?_)
        obtain ⟨rfl, rfl⟩ := hp
        have hP : va_P D vwCl (VW cI cJ cO B gG gG kG ik le by_ tk bg en va tn b0 l0 u0 b1 l1 u1 b2 l2 u2 b3 l3 u3 fS cW) H := hP
        have hD : va_D _ (VW cI cJ cO B gG gG kG ik le by_ tk bg en va tn b0 l0 u0 b1 l1 u1 b2 l2 u2 b3 l3 u3 fS cW) := hD
        refine W.eq (g2 := F0 m 46 ls []) rfl ?_
        refine lv_aload_n hx hb dX3_by_46 rfl (lv_at hl 0 rfl) ?_
        refine va_get (ci := 3) (v := .ref (B 3)) hx hb hts wx_X3 hown hK hP 0 rfl rfl 1 (by decide) (hts _ wf_X3_16) (fun _ h9 => h9) rfl dX3_by_47 ?_
        refine lv_iload_n hx hb dX3_by_50 rfl (lv_at hl 3 rfl) ?_
        refine va_put (ci := 0) (v := .int (nI i)) (ty := tyX0 1) hx hb hts wx_X0 tyX0 tyX0_ok nmX0 hown hK hP hD hS 3 rfl rfl 1 (by decide) (hts _ wf_X3_56) (fun _ h9 => h9) rfl (tyX0_ok 1 (by decide)) rfl rfl (Nat.le_of_ble_eq_true rfl) dX3_by_51 (fun H locs hP hD hS => ?_)
        have hP := hP.fi 4 (tl (upd gG 2 (nI i))) rfl (fun z9 _ => congrFun (tl_lo gG 2 _ (by decide)) z9)
        have hP : va_P D vwCl (VW cI cJ cO B gG (upd gG 2 (nI i)) kG ik le by_ tk bg en va tn b0 l0 u0 b1 l1 u1 b2 l2 u2 b3 l3 u3 fS cW) H := hP
        have hD : va_D _ (VW cI cJ cO B gG (upd gG 2 (nI i)) kG ik le by_ tk bg en va tn b0 l0 u0 b1 l1 u1 b2 l2 u2 b3 l3 u3 fS cW) := hD.addr rfl
        refine lv_aload_n hx hb dX3_by_54 rfl (lv_at hl 0 rfl) ?_
        refine va_get (ci := 3) (v := .ref (B 3)) hx hb hts wx_X3 hown hK hP 0 rfl rfl 1 (by decide) (hts _ wf_X3_16) (fun _ h9 => h9) rfl dX3_by_55 ?_
        refine lv_iload_n hx hb dX3_by_58 rfl (lv_at hl 1 rfl) ?_
        have hI : Inv (upd gG 2 (nI i)) n := Inv_tk hI0 (by omega)
        have hh : rng ((upd gG 2 (nI i)) 0) 0 200000 := by rw [pk_un (by decide)]; exact hh0
        refine mu_V (w := (GW cI (B 3) (B 4) ((upd gG 2 (nI i)) 0) ((upd gG 2 (nI i)) 2) ((upd gG 2 (nI i)) 1) (tl (upd gG 2 (nI i))))) (rest := []) S hK hP hD hS (k_X0_pass n j0 hI hh (by omega)) gv_X3_131 hd_X0_pass ⟨Nat.le_of_ble_eq_true rfl, Nat.le_of_ble_eq_true rfl⟩ [3, 4] rfl rfl 0 rfl rfl rfl rfl hl.1 (lv_room (Nat.le_of_ble_eq_true rfl)) dX3_by_59 ⟨Nat.zero_le _, Nat.zero_le _⟩ (fun ov w' H locs hp hP hD hS => ?_)
        obtain ⟨rfl, rfl⟩ := hp
        have hP : va_P D vwCl (VW cI cJ cO B gG (hoursF (upd gG 2 (nI i)) n j0) kG ik le by_ tk bg en va tn b0 l0 u0 b1 l1 u1 b2 l2 u2 b3 l3 u3 fS cW) H := hP
        have hD : va_D _ (VW cI cJ cO B gG (hoursF (upd gG 2 (nI i)) n j0) kG ik le by_ tk bg en va tn b0 l0 u0 b1 l1 u1 b2 l2 u2 b3 l3 u3 fS cW) := hD
        refine W.eq (g2 := F0 m 62 ls []) rfl ?_
        refine lv_aload_n hx hb dX3_by_62 rfl (lv_at hl 0 rfl) ?_
        refine va_get (ci := 3) (v := .ref (B 3)) hx hb hts wx_X3 hown hK hP 0 rfl rfl 1 (by decide) (hts _ wf_X3_16) (fun _ h9 => h9) rfl dX3_by_63 ?_
        have hI := Inv_hours hI j0
        refine ro_V (w := (GW cI (B 3) (B 4) ((hoursF (upd gG 2 (nI i)) n j0) 0) ((hoursF (upd gG 2 (nI i)) n j0) 2) ((hoursF (upd gG 2 (nI i)) n j0) 1) (tl (hoursF (upd gG 2 (nI i)) n j0)))) (rest := []) S hK (hP.sub [3, 4] rfl) (k_X0_howManyContent n hI) gv_X3_145 hd_X0_howManyContent ⟨Nat.le_of_ble_eq_true rfl, Nat.le_of_ble_eq_true rfl⟩ 0 rfl rfl rfl rfl hl.1 (lv_room (Nat.le_of_ble_eq_true rfl)) dX3_by_66 ⟨Nat.zero_le _, Nat.zero_le _⟩ ?_
        refine w_i (z := manyV (upd gG 2 (nI i)) n j0) (rfl) ?_
        refine lv_iload_n hx hb dX3_by_69 rfl (lv_at hl 2 rfl) ?_
        refine lv_icmp_lt (tgt := 75) hx hb dX3_by_70 rfl (fun c70 => ?_) (fun c70 => ?_)
        · replace c70 := Int32.not_le.mpr c70
          refine lv_iinc (v := nI (i + 1)) (lv' := [(3, .int (nI (i + 1))), (0, .ref (B 0)), (1, .int (nI j0)), (2, .int v)]) hx hb dX3_by_75 hl (k := 3) rfl (nI_inc _) (by decide) rfl (fun ls hl => ?_)
          refine lv_goto (tgt := 29) hx hb dX3_by_78 rfl ?_
          exact ih29 (i + 1, hoursF (upd gG 2 (nI i)) n j0) _ _ ls (by first | omega | (dsimp only; omega)) ⟨(by omega), lt_s hbb (decide_eq_false (by rw [ej0]; exact c70)), hP, hD, hS, lv_sub hl [1, 2, 3, 0] rfl⟩
        · replace c70 := Int32.not_lt.mp c70
          have hfs : fstN (byP gG n (nI j0) v) 9 = i := fstN_at hbb (decide_eq_true (by rw [ej0]; exact c70)) (by omega)
          have hi9 : ¬ i = 9 := by omega
          refine lv_iload_n hx hb dX3_by_73 rfl (lv_at hl 3 rfl) ?_
          have hE : fS = byT gG fS n (nI j0) v := by simp [byR, byT, byOk, byJ, bump, put9, b2i, c7, c17, c32, c70, ej0, hfs, hi9, i_lt, -Int32.not_le, -Int32.not_lt]
          have hW : (VW cI cJ cO B gG (hoursF (upd gG 2 (nI i)) n j0) kG ik le by_ tk bg en va tn b0 l0 u0 b1 l1 u1 b2 l2 u2 b3 l3 u3 fS cW) = (VW cI cJ cO B gG (hoursF (upd gG 2 (nI i)) n j0) kG ik le by_ tk bg en va tn b0 l0 u0 b1 l1 u1 b2 l2 u2 b3 l3 u3 (byT gG fS n (nI j0) v) cW) := congrArg (fun z => (VW cI cJ cO B gG (hoursF (upd gG 2 (nI i)) n j0) kG ik le by_ tk bg en va tn b0 l0 u0 b1 l1 u1 b2 l2 u2 b3 l3 u3 z cW)) hE
          have hP : va_P D vwCl (VW cI cJ cO B gG (hoursF (upd gG 2 (nI i)) n j0) kG ik le by_ tk bg en va tn b0 l0 u0 b1 l1 u1 b2 l2 u2 b3 l3 u3 (byT gG fS n (nI j0) v) cW) H := Eq.mp (congrArg (fun z => va_P D vwCl z H) hW) hP
          have hD : va_D _ (VW cI cJ cO B gG (hoursF (upd gG 2 (nI i)) n j0) kG ik le by_ tk bg en va tn b0 l0 u0 b1 l1 u1 b2 l2 u2 b3 l3 u3 (byT gG fS n (nI j0) v) cW) := Eq.mp (congrArg (fun z => va_D _ z) hW) hD
          exact mu_iret (VW cI cJ cO B gG (hoursF (upd gG 2 (nI i)) n j0) kG ik le by_ tk bg en va tn b0 l0 u0 b1 l1 u1 b2 l2 u2 b3 l3 u3 (byT gG fS n (nI j0) v) cW) hx hb hr hlk hP hS rfl (⟨(hoursF (upd gG 2 (nI i)) n j0), congrArg (fun z => some (Value.int z)) (by simp [byR, byT, byOk, byJ, bump, put9, b2i, c7, c17, c32, c70, ej0, hfs, hi9, i_lt, -Int32.not_le, -Int32.not_lt]), rfl⟩) dX3_by_74
    · replace c17 := bn_n0 c17
      refine lv_aload_n hx hb dX3_by_20 rfl (lv_at hl 0 rfl) ?_
      refine lv_ldc (v := (-1000000001)) hx hb hown (hts _ wq_X3_51) dX3_by_21 ?_
      refine mu_W (w := (VW cI cJ cO B gG tG kG ik le by_ tk bg en va tn b0 l0 u0 b1 l1 u1 b2 l2 u2 b3 l3 u3 fS cW)) (rest := []) S hK hP hD hS (k_X3_finding 0 (-1000000001) (by decide) (by decide)) gv_X3_52 hd_X3_finding ⟨Nat.le_of_ble_eq_true rfl, Nat.le_of_ble_eq_true rfl⟩ 3 rfl rfl rfl rfl hl.1 (lv_room (Nat.le_of_ble_eq_true rfl)) dX3_by_23 ⟨Nat.zero_le _, Nat.zero_le _⟩ (fun ov w' H locs hp hP hD hS => ?_)
      obtain ⟨rfl, rfl⟩ := hp
      refine W.eq (g2 := F0 m 26 ls [.int (-1000000001)]) rfl ?_
      have hE : upd fS 0 (fS 0 + 1) = byT gG fS n (nI j0) v := by simp [byR, byT, byOk, byJ, bump, put9, b2i, c7, c17, ej0, i_lt, -Int32.not_le, -Int32.not_lt]
      have hW : (VW cI cJ cO B gG tG kG ik le by_ tk bg en va tn b0 l0 u0 b1 l1 u1 b2 l2 u2 b3 l3 u3 (upd fS 0 (fS 0 + 1)) cW) = (VW cI cJ cO B gG tG kG ik le by_ tk bg en va tn b0 l0 u0 b1 l1 u1 b2 l2 u2 b3 l3 u3 (byT gG fS n (nI j0) v) cW) := congrArg (fun z => (VW cI cJ cO B gG tG kG ik le by_ tk bg en va tn b0 l0 u0 b1 l1 u1 b2 l2 u2 b3 l3 u3 z cW)) hE
      have hP : va_P D vwCl (VW cI cJ cO B gG tG kG ik le by_ tk bg en va tn b0 l0 u0 b1 l1 u1 b2 l2 u2 b3 l3 u3 (byT gG fS n (nI j0) v) cW) H := Eq.mp (congrArg (fun z => va_P D vwCl z H) hW) hP
      have hD : va_D _ (VW cI cJ cO B gG tG kG ik le by_ tk bg en va tn b0 l0 u0 b1 l1 u1 b2 l2 u2 b3 l3 u3 (byT gG fS n (nI j0) v) cW) := Eq.mp (congrArg (fun z => va_D _ z) hW) hD
      exact mu_iret (VW cI cJ cO B gG tG kG ik le by_ tk bg en va tn b0 l0 u0 b1 l1 u1 b2 l2 u2 b3 l3 u3 (byT gG fS n (nI j0) v) cW) hx hb hr hlk hP hS rfl (⟨tG, congrArg (fun z => some (Value.int z)) (by simp [byR, byT, byOk, byJ, bump, put9, b2i, c7, c17, ej0, i_lt, -Int32.not_le, -Int32.not_lt]), rfl⟩) dX3_by_26

set_option maxHeartbeats 4000000 in
set_option maxRecDepth 100000 in
theorem k_X3_nose (n : Nat) (f : Int32) (k : Int32) (hI : Inv gG n) (hh : rng (gG 0) 0 200000) : MU l D (tyA cI cJ cO) yX3_nose cX3_nose 4 ((some .int)) 5 115 [.ref (B 0), .int f, .int k] (VW cI cJ cO B gG tG kG ik le by_ tk bg en va tn b0 l0 u0 b1 l1 u1 b2 l2 u2 b3 l3 u3 fS cW) (fun ov w' => ∃ tG' : Nat → Int32, ov = some (.int (noseR gG n f k)) ∧ w' = (VW cI cJ cO B gG tG' kG ik le by_ tk bg en va tn b0 l0 u0 b1 l1 u1 b2 l2 u2 b3 l3 u3 (noseT gG fS n f k) cW)) := by
  refine MU.mk (by decide) (Nat.le_of_ble_eq_true rfl) ?_
  intro p e s m below meth c ls S hr hlk hP hK hD hS hl
  have S : CallFix p m c cX3_nose 4 s _ WL RX3 := S
  obtain ⟨hx, hb, hml, hown, hts⟩ := id S
  have hl : lv_has ls 4 [(0, .ref (B 0)), (1, .int f), (2, .int k)] := hl
  have h8 : n ≤ 8 := hI.1
  have hI0 := hI
  have hh0 := hh
  refine lv_aload_n hx hb dX3_nose_0 rfl (lv_at hl 0 rfl) ?_
  refine va_get (ci := 3) (v := .ref (B 1)) hx hb hts wx_X3 hown hK hP 0 rfl rfl 0 (by decide) (hts _ wf_X3_10) (fun _ h9 => h9) rfl dX3_nose_1 ?_
  refine lv_iload_n hx hb dX3_nose_4 rfl (lv_at hl 1 rfl) ?_
  refine ro_V (w := (GW cI (B 1) (B 2) (gG 0) (gG 2) (gG 1) (tl gG))) (rest := []) S hK (hP.sub [1, 2] rfl) (k_X0_lacks n f hI) gv_X3_95 hd_X0_lacks ⟨Nat.le_of_ble_eq_true rfl, Nat.le_of_ble_eq_true rfl⟩ 0 rfl rfl rfl rfl hl.1 (lv_room (Nat.le_of_ble_eq_true rfl)) dX3_nose_5 ⟨Nat.zero_le _, Nat.zero_le _⟩ ?_
  refine lv_if_ne (tgt := 21) hx hb dX3_nose_8 rfl (fun c8 => ?_) (fun c8 => ?_)
  · replace c8 := bn_n0 c8
    refine lv_aload_n hx hb dX3_nose_21 rfl (lv_at hl 0 rfl) ?_
    refine lv_ldc (v := (-1000000001)) hx hb hown (hts _ wq_X3_51) dX3_nose_22 ?_
    refine mu_W (w := (VW cI cJ cO B gG tG kG ik le by_ tk bg en va tn b0 l0 u0 b1 l1 u1 b2 l2 u2 b3 l3 u3 fS cW)) (rest := []) S hK hP hD hS (k_X3_finding 0 (-1000000001) (by decide) (by decide)) gv_X3_52 hd_X3_finding ⟨Nat.le_of_ble_eq_true rfl, Nat.le_of_ble_eq_true rfl⟩ 3 rfl rfl rfl rfl hl.1 (lv_room (Nat.le_of_ble_eq_true rfl)) dX3_nose_24 ⟨Nat.zero_le _, Nat.zero_le _⟩ (fun ov w' H locs hp hP hD hS => ?_)
    obtain ⟨rfl, rfl⟩ := hp
    refine W.eq (g2 := F0 m 27 ls [.int (-1000000001)]) rfl ?_
    have hE : upd fS 0 (fS 0 + 1) = noseT gG fS n f k := by simp [noseR, noseT, noseOk, noseJ, bump, put9, b2i, c8, i_lt, -Int32.not_le, -Int32.not_lt]
    have hW : (VW cI cJ cO B gG tG kG ik le by_ tk bg en va tn b0 l0 u0 b1 l1 u1 b2 l2 u2 b3 l3 u3 (upd fS 0 (fS 0 + 1)) cW) = (VW cI cJ cO B gG tG kG ik le by_ tk bg en va tn b0 l0 u0 b1 l1 u1 b2 l2 u2 b3 l3 u3 (noseT gG fS n f k) cW) := congrArg (fun z => (VW cI cJ cO B gG tG kG ik le by_ tk bg en va tn b0 l0 u0 b1 l1 u1 b2 l2 u2 b3 l3 u3 z cW)) hE
    have hP : va_P D vwCl (VW cI cJ cO B gG tG kG ik le by_ tk bg en va tn b0 l0 u0 b1 l1 u1 b2 l2 u2 b3 l3 u3 (noseT gG fS n f k) cW) H := Eq.mp (congrArg (fun z => va_P D vwCl z H) hW) hP
    have hD : va_D _ (VW cI cJ cO B gG tG kG ik le by_ tk bg en va tn b0 l0 u0 b1 l1 u1 b2 l2 u2 b3 l3 u3 (noseT gG fS n f k) cW) := Eq.mp (congrArg (fun z => va_D _ z) hW) hD
    exact mu_iret (VW cI cJ cO B gG tG kG ik le by_ tk bg en va tn b0 l0 u0 b1 l1 u1 b2 l2 u2 b3 l3 u3 (noseT gG fS n f k) cW) hx hb hr hlk hP hS rfl (⟨tG, congrArg (fun z => some (Value.int z)) (by simp [noseR, noseT, noseOk, noseJ, bump, put9, b2i, c8, i_lt, -Int32.not_le, -Int32.not_lt]), rfl⟩) dX3_nose_27
  · replace c8 := bn_0 c8
    obtain ⟨i0, hi0, rfl⟩ := fig_in hI.1 c8
    have h8 := hI.1
    have ei0 : cl (nI i0) = i0 := cl_nI (by omega)
    refine lv_iload_n hx hb dX3_nose_11 rfl (lv_at hl 2 rfl) ?_
    refine lv_iconst (v := 0) hx hb dX3_nose_12 rfl ?_
    refine lv_bipush (v := 40) hx hb dX3_nose_13 rfl ?_
    refine ro_S (w := []) (rest := []) S hK va_P0 (k_X3_isOutside k 0 40) gs_X3_47 hd_X3_isOutside ⟨Nat.le_of_ble_eq_true rfl, Nat.le_of_ble_eq_true rfl⟩ rfl hl.1 (lv_room (Nat.le_of_ble_eq_true rfl)) dX3_nose_15 ⟨Nat.zero_le _, Nat.zero_le _⟩ ?_
    refine lv_if_eq (tgt := 28) hx hb dX3_nose_18 rfl (fun c18 => ?_) (fun c18 => ?_)
    · replace c18 := bn_0 c18
      obtain ⟨j0, hj0a, hj0b, rfl⟩ := in_nat (a := 0) (b := 40) (by decide) c18 (by decide)
      have ej0 : cl (nI j0) = j0 := cl_nI (by omega)
      refine lv_bipush (v := 99) hx hb dX3_nose_28 rfl ?_
      refine w_i (z := nI 99 - nI 0) (by decide) ?_
      refine lv_istore_n (lv' := [(3, .int (nI 99 - nI 0)), (0, .ref (B 0)), (1, .int (nI i0)), (2, .int (nI j0))]) hx hb dX3_nose_30 rfl hl (by decide) rfl (fun ls hl => ?_)
      refine w_loopH (pc := 31) (st := fun (x : Nat × (Nat → Int32)) => match x with | (i, t) => []) (μ := fun (x : Nat × (Nat → Int32)) => match x with | (i, t) => 100 - i) (I := fun (x : Nat × (Nat → Int32)) H locs ls => match x with | (i, t) => (i ≤ 100) ∧ (∀ j, j < i → noseP gG n i0 j0 j = false) ∧ va_P D vwCl (VW cI cJ cO B gG t kG ik le by_ tk bg en va tn b0 l0 u0 b1 l1 u1 b2 l2 u2 b3 l3 u3 fS cW) H ∧ va_D (fun z9 => z9 ∈ ((VW cI cJ cO B gG tG kG ik le by_ tk bg en va tn b0 l0 u0 b1 l1 u1 b2 l2 u2 b3 l3 u3 fS cW)).map (fun z8 => z8.1)) (VW cI cJ cO B gG t kG ik le by_ tk bg en va tn b0 l0 u0 b1 l1 u1 b2 l2 u2 b3 l3 u3 fS cW) ∧ va_S (fun z9 => z9 ∈ ((VW cI cJ cO B gG tG kG ik le by_ tk bg en va tn b0 l0 u0 b1 l1 u1 b2 l2 u2 b3 l3 u3 fS cW)).map (fun z8 => z8.1)) s.heap H locs ∧ lv_has ls 4 [(0, .ref (B 0)), (1, .int (nI i0)), (2, .int (nI j0)), (3, .int (nI 99 - nI i))]) ?_ (0, tG) ⟨Nat.zero_le _, fun j h => absurd h (Nat.not_lt_zero j), hP, hD, hS, lv_sub hl [1, 2, 3, 0] rfl⟩
      rintro ⟨i, t⟩ H locs ls ⟨hi, hbb, hP, hD, hS, hl⟩ ih31
      try dsimp only at ih31 ⊢
      refine lv_iload_n hx hb dX3_nose_31 rfl (lv_at hl 3 rfl) ?_
      refine lv_if_lt (tgt := 72) hx hb dX3_nose_32 rfl (fun c32 => ?_) (fun c32 => ?_)
      · replace c32 := dn_lt (c := 99) hi (by decide) (Int32.not_le.mpr c32)
        have hfs : fstN (noseP gG n i0 j0) 100 = 100 := fstN_all (fun j hj => hbb j (by omega))
        refine lv_aload_n hx hb dX3_nose_72 rfl (lv_at hl 0 rfl) ?_
        refine lv_ldc (v := (-1000000004)) hx hb hown (hts _ wq_X3_154) dX3_nose_73 ?_
        refine mu_W (w := (VW cI cJ cO B gG t kG ik le by_ tk bg en va tn b0 l0 u0 b1 l1 u1 b2 l2 u2 b3 l3 u3 fS cW)) (rest := []) S hK hP hD hS (k_X3_finding 3 (-1000000004) (by decide) (by decide)) gv_X3_52 hd_X3_finding ⟨Nat.le_of_ble_eq_true rfl, Nat.le_of_ble_eq_true rfl⟩ 3 rfl rfl rfl rfl hl.1 (lv_room (Nat.le_of_ble_eq_true rfl)) dX3_nose_75 ⟨Nat.zero_le _, Nat.zero_le _⟩ (fun ov w' H locs hp hP hD hS => ?_)
        obtain ⟨rfl, rfl⟩ := hp
        refine W.eq (g2 := F0 m 78 ls [.int (-1000000004)]) rfl ?_
        have hE : upd fS 3 (fS 3 + 1) = noseT gG fS n (nI i0) (nI j0) := by simp [noseR, noseT, noseOk, noseJ, bump, put9, b2i, c8, c18, ei0, ej0, hfs, i_lt, -Int32.not_le, -Int32.not_lt]
        have hW : (VW cI cJ cO B gG t kG ik le by_ tk bg en va tn b0 l0 u0 b1 l1 u1 b2 l2 u2 b3 l3 u3 (upd fS 3 (fS 3 + 1)) cW) = (VW cI cJ cO B gG t kG ik le by_ tk bg en va tn b0 l0 u0 b1 l1 u1 b2 l2 u2 b3 l3 u3 (noseT gG fS n (nI i0) (nI j0)) cW) := congrArg (fun z => (VW cI cJ cO B gG t kG ik le by_ tk bg en va tn b0 l0 u0 b1 l1 u1 b2 l2 u2 b3 l3 u3 z cW)) hE
        have hP : va_P D vwCl (VW cI cJ cO B gG t kG ik le by_ tk bg en va tn b0 l0 u0 b1 l1 u1 b2 l2 u2 b3 l3 u3 (noseT gG fS n (nI i0) (nI j0)) cW) H := Eq.mp (congrArg (fun z => va_P D vwCl z H) hW) hP
        have hD : va_D _ (VW cI cJ cO B gG t kG ik le by_ tk bg en va tn b0 l0 u0 b1 l1 u1 b2 l2 u2 b3 l3 u3 (noseT gG fS n (nI i0) (nI j0)) cW) := Eq.mp (congrArg (fun z => va_D _ z) hW) hD
        exact mu_iret (VW cI cJ cO B gG t kG ik le by_ tk bg en va tn b0 l0 u0 b1 l1 u1 b2 l2 u2 b3 l3 u3 (noseT gG fS n (nI i0) (nI j0)) cW) hx hb hr hlk hP hS rfl (⟨t, congrArg (fun z => some (Value.int z)) (by simp [noseR, noseT, noseOk, noseJ, bump, put9, b2i, c8, c18, ei0, ej0, hfs, i_lt, -Int32.not_le, -Int32.not_lt]), rfl⟩) dX3_nose_78
      · replace c32 := dn_ge (c := 99) hi (by decide) (Int32.not_lt.mp c32)
        refine lv_aload_n hx hb dX3_nose_35 rfl (lv_at hl 0 rfl) ?_
        refine lv_iload_n hx hb dX3_nose_36 rfl (lv_at hl 1 rfl) ?_
        refine lv_iconst (v := 3) hx hb dX3_nose_37 rfl ?_
        refine lv_iload_n hx hb dX3_nose_38 rfl (lv_at hl 3 rfl) ?_
        refine w_i (z := nI (99 - i)) (pk_sub (by omega)) ?_
        refine mu_W (w := (VW cI cJ cO B gG t kG ik le by_ tk bg en va tn b0 l0 u0 b1 l1 u1 b2 l2 u2 b3 l3 u3 fS cW)) (rest := []) S hK hP hD hS (k_X3_suppose i0 3 (nI (99 - i)) (by omega) (by omega)) gv_X3_151 hd_X3_suppose ⟨Nat.le_of_ble_eq_true rfl, Nat.le_of_ble_eq_true rfl⟩ 3 rfl rfl rfl rfl hl.1 (lv_room (Nat.le_of_ble_eq_true rfl)) dX3_nose_39 ⟨Nat.zero_le _, Nat.zero_le _⟩ (fun ov w' H locs hp hP hD hS => ?_)
        obtain ⟨rfl, rfl⟩ := hp
        refine W.eq (g2 := F0 m 42 ls []) rfl ?_
        refine lv_aload_n hx hb dX3_nose_42 rfl (lv_at hl 0 rfl) ?_
        refine va_get (ci := 3) (v := .ref (B 3)) hx hb hts wx_X3 hown hK hP 0 rfl rfl 1 (by decide) (hts _ wf_X3_16) (fun _ h9 => h9) rfl dX3_nose_43 ?_
        refine lv_iload_n hx hb dX3_nose_46 rfl (lv_at hl 2 rfl) ?_
        have hI : Inv (put9 gG i0 3 (nI (99 - i))) n := Inv_pv (f := i0) (w := 3) (v := 99 - i) (b := 99) hI0 (by omega) (by omega)
        have hh : rng ((put9 gG i0 3 (nI (99 - i))) 0) 0 200000 := by rw [put_lo (by decide)]; exact hh0
        refine mu_V (w := (GW cI (B 3) (B 4) ((put9 gG i0 3 (nI (99 - i))) 0) ((put9 gG i0 3 (nI (99 - i))) 2) ((put9 gG i0 3 (nI (99 - i))) 1) (tl (put9 gG i0 3 (nI (99 - i)))))) (rest := []) S hK hP hD hS (k_X0_pass n j0 hI hh (by omega)) gv_X3_131 hd_X0_pass ⟨Nat.le_of_ble_eq_true rfl, Nat.le_of_ble_eq_true rfl⟩ [3, 4] rfl rfl 0 rfl rfl rfl rfl hl.1 (lv_room (Nat.le_of_ble_eq_true rfl)) dX3_nose_47 ⟨Nat.zero_le _, Nat.zero_le _⟩ (fun ov w' H locs hp hP hD hS => ?_)
        obtain ⟨rfl, rfl⟩ := hp
        have hP : va_P D vwCl (VW cI cJ cO B gG (hoursF (put9 gG i0 3 (nI (99 - i))) n j0) kG ik le by_ tk bg en va tn b0 l0 u0 b1 l1 u1 b2 l2 u2 b3 l3 u3 fS cW) H := hP
        have hD : va_D _ (VW cI cJ cO B gG (hoursF (put9 gG i0 3 (nI (99 - i))) n j0) kG ik le by_ tk bg en va tn b0 l0 u0 b1 l1 u1 b2 l2 u2 b3 l3 u3 fS cW) := hD
        refine W.eq (g2 := F0 m 50 ls []) rfl ?_
        refine lv_aload_n hx hb dX3_nose_50 rfl (lv_at hl 0 rfl) ?_
        refine va_get (ci := 3) (v := .ref (B 3)) hx hb hts wx_X3 hown hK hP 0 rfl rfl 1 (by decide) (hts _ wf_X3_16) (fun _ h9 => h9) rfl dX3_nose_51 ?_
        refine lv_iload_n hx hb dX3_nose_54 rfl (lv_at hl 1 rfl) ?_
        refine lv_iconst (v := 3) hx hb dX3_nose_55 rfl ?_
        refine ro_V (w := (GW cI (B 3) (B 4) ((hoursF (put9 gG i0 3 (nI (99 - i))) n j0) 0) ((hoursF (put9 gG i0 3 (nI (99 - i))) n j0) 2) ((hoursF (put9 gG i0 3 (nI (99 - i))) n j0) 1) (tl (hoursF (put9 gG i0 3 (nI (99 - i))) n j0)))) (rest := []) S hK (hP.sub [3, 4] rfl) (k_X0_getN i0 3 (by omega) (by omega)) gv_X3_108 hd_X0_get ⟨Nat.le_of_ble_eq_true rfl, Nat.le_of_ble_eq_true rfl⟩ 0 rfl rfl rfl rfl hl.1 (lv_room (Nat.le_of_ble_eq_true rfl)) dX3_nose_56 ⟨Nat.zero_le _, Nat.zero_le _⟩ ?_
        refine lv_bipush (v := 10) hx hb dX3_nose_59 rfl ?_
        refine lv_icmp_gt (tgt := 66) hx hb dX3_nose_61 rfl (fun c61 => ?_) (fun c61 => ?_)
        · replace c61 := Int32.not_le.mpr c61
          refine lv_iinc (v := nI 99 - nI (i + 1)) (lv' := [(3, .int (nI 99 - nI (i + 1))), (0, .ref (B 0)), (1, .int (nI i0)), (2, .int (nI j0))]) hx hb dX3_nose_66 hl (k := 3) rfl (dn_inc) (by decide) rfl (fun ls hl => ?_)
          refine lv_goto (tgt := 31) hx hb dX3_nose_69 rfl ?_
          exact ih31 (i + 1, hoursF (put9 gG i0 3 (nI (99 - i))) n j0) _ _ ls (by first | omega | (dsimp only; omega)) ⟨(by omega), lt_s hbb (decide_eq_false c61), hP, hD, hS, lv_sub hl [1, 2, 3, 0] rfl⟩
        · replace c61 := Int32.not_lt.mp c61
          have hfs : fstN (noseP gG n i0 j0) 100 = i := fstN_at hbb (decide_eq_true c61) (by omega)
          have hi9 : ¬ i = 100 := by omega
          refine lv_iload_n hx hb dX3_nose_64 rfl (lv_at hl 3 rfl) ?_
          refine w_i (z := nI (99 - i)) (pk_sub (by omega)) ?_
          have hE : fS = noseT gG fS n (nI i0) (nI j0) := by simp [noseR, noseT, noseOk, noseJ, bump, put9, b2i, c8, c18, c32, c61, ei0, ej0, hfs, hi9, i_lt, -Int32.not_le, -Int32.not_lt]
          have hW : (VW cI cJ cO B gG (hoursF (put9 gG i0 3 (nI (99 - i))) n j0) kG ik le by_ tk bg en va tn b0 l0 u0 b1 l1 u1 b2 l2 u2 b3 l3 u3 fS cW) = (VW cI cJ cO B gG (hoursF (put9 gG i0 3 (nI (99 - i))) n j0) kG ik le by_ tk bg en va tn b0 l0 u0 b1 l1 u1 b2 l2 u2 b3 l3 u3 (noseT gG fS n (nI i0) (nI j0)) cW) := congrArg (fun z => (VW cI cJ cO B gG (hoursF (put9 gG i0 3 (nI (99 - i))) n j0) kG ik le by_ tk bg en va tn b0 l0 u0 b1 l1 u1 b2 l2 u2 b3 l3 u3 z cW)) hE
          have hP : va_P D vwCl (VW cI cJ cO B gG (hoursF (put9 gG i0 3 (nI (99 - i))) n j0) kG ik le by_ tk bg en va tn b0 l0 u0 b1 l1 u1 b2 l2 u2 b3 l3 u3 (noseT gG fS n (nI i0) (nI j0)) cW) H := Eq.mp (congrArg (fun z => va_P D vwCl z H) hW) hP
          have hD : va_D _ (VW cI cJ cO B gG (hoursF (put9 gG i0 3 (nI (99 - i))) n j0) kG ik le by_ tk bg en va tn b0 l0 u0 b1 l1 u1 b2 l2 u2 b3 l3 u3 (noseT gG fS n (nI i0) (nI j0)) cW) := Eq.mp (congrArg (fun z => va_D _ z) hW) hD
          exact mu_iret (VW cI cJ cO B gG (hoursF (put9 gG i0 3 (nI (99 - i))) n j0) kG ik le by_ tk bg en va tn b0 l0 u0 b1 l1 u1 b2 l2 u2 b3 l3 u3 (noseT gG fS n (nI i0) (nI j0)) cW) hx hb hr hlk hP hS rfl (⟨(hoursF (put9 gG i0 3 (nI (99 - i))) n j0), congrArg (fun z => some (Value.int z)) (by simp [noseR, noseT, noseOk, noseJ, bump, put9, b2i, c8, c18, c32, c61, ei0, ej0, hfs, hi9, i_lt, -Int32.not_le, -Int32.not_lt]), rfl⟩) dX3_nose_65
    · replace c18 := bn_n0 c18
      refine lv_aload_n hx hb dX3_nose_21 rfl (lv_at hl 0 rfl) ?_
      refine lv_ldc (v := (-1000000001)) hx hb hown (hts _ wq_X3_51) dX3_nose_22 ?_
      refine mu_W (w := (VW cI cJ cO B gG tG kG ik le by_ tk bg en va tn b0 l0 u0 b1 l1 u1 b2 l2 u2 b3 l3 u3 fS cW)) (rest := []) S hK hP hD hS (k_X3_finding 0 (-1000000001) (by decide) (by decide)) gv_X3_52 hd_X3_finding ⟨Nat.le_of_ble_eq_true rfl, Nat.le_of_ble_eq_true rfl⟩ 3 rfl rfl rfl rfl hl.1 (lv_room (Nat.le_of_ble_eq_true rfl)) dX3_nose_24 ⟨Nat.zero_le _, Nat.zero_le _⟩ (fun ov w' H locs hp hP hD hS => ?_)
      obtain ⟨rfl, rfl⟩ := hp
      refine W.eq (g2 := F0 m 27 ls [.int (-1000000001)]) rfl ?_
      have hE : upd fS 0 (fS 0 + 1) = noseT gG fS n (nI i0) k := by simp [noseR, noseT, noseOk, noseJ, bump, put9, b2i, c8, c18, ei0, i_lt, -Int32.not_le, -Int32.not_lt]
      have hW : (VW cI cJ cO B gG tG kG ik le by_ tk bg en va tn b0 l0 u0 b1 l1 u1 b2 l2 u2 b3 l3 u3 (upd fS 0 (fS 0 + 1)) cW) = (VW cI cJ cO B gG tG kG ik le by_ tk bg en va tn b0 l0 u0 b1 l1 u1 b2 l2 u2 b3 l3 u3 (noseT gG fS n (nI i0) k) cW) := congrArg (fun z => (VW cI cJ cO B gG tG kG ik le by_ tk bg en va tn b0 l0 u0 b1 l1 u1 b2 l2 u2 b3 l3 u3 z cW)) hE
      have hP : va_P D vwCl (VW cI cJ cO B gG tG kG ik le by_ tk bg en va tn b0 l0 u0 b1 l1 u1 b2 l2 u2 b3 l3 u3 (noseT gG fS n (nI i0) k) cW) H := Eq.mp (congrArg (fun z => va_P D vwCl z H) hW) hP
      have hD : va_D _ (VW cI cJ cO B gG tG kG ik le by_ tk bg en va tn b0 l0 u0 b1 l1 u1 b2 l2 u2 b3 l3 u3 (noseT gG fS n (nI i0) k) cW) := Eq.mp (congrArg (fun z => va_D _ z) hW) hD
      exact mu_iret (VW cI cJ cO B gG tG kG ik le by_ tk bg en va tn b0 l0 u0 b1 l1 u1 b2 l2 u2 b3 l3 u3 (noseT gG fS n (nI i0) k) cW) hx hb hr hlk hP hS rfl (⟨tG, congrArg (fun z => some (Value.int z)) (by simp [noseR, noseT, noseOk, noseJ, bump, put9, b2i, c8, c18, ei0, i_lt, -Int32.not_le, -Int32.not_lt]), rfl⟩) dX3_nose_27

end
