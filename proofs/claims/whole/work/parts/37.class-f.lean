def cwM (c : Nat → Int32) (i a : Nat) : Nat → Int32 := fun b => if b < a then cwF c b (i + 1) else cwF c b i
theorem sr1_here {P : Nat → Nat → Bool} {n f j : Nat} {fo : Int32} (h : P f j = true) (hj : j < n) : sr1 P n f fo (n - j) = nI (10 * f + j) := by
  obtain ⟨m, hm⟩ : ∃ m, n - j = m + 1 := ⟨n - j - 1, by omega⟩
  rw [hm, sr1, show n - (m + 1) = j by omega, if_pos h]
theorem sr1_next {P : Nat → Nat → Bool} {n f j : Nat} {fo : Int32} (h : P f j = false) (hj : j < n) : sr1 P n f fo (n - j) = sr1 P n f fo (n - (j + 1)) := by
  obtain ⟨m, hm⟩ : ∃ m, n - j = m + 1 := ⟨n - j - 1, by omega⟩
  rw [hm, sr1, show n - (m + 1) = j by omega, h, show n - (j + 1) = m by omega]
  rfl
theorem sr2_open {P : Nat → Nat → Bool} {n i : Nat} (hi : i < n) : sr2 P n (n - i) = sr1 P n i (sr2 P n (n - (i + 1))) (n - (i + 1)) := by
  obtain ⟨m, hm⟩ : ∃ m, n - i = m + 1 := ⟨n - i - 1, by omega⟩
  rw [hm, sr2, show n - (m + 1) = i by omega, show n - (i + 1) = m by omega]
theorem cwM_0 (c : Nat → Int32) (i : Nat) : (fun a => cwF c a i) = cwM c i 0 := funext fun b => by simp [cwM]
theorem cwM_t {c : Nat → Int32} {i a : Nat} (h : bitP (c i) a = true) : upd (cwM c i a) a (cwM c i a a ||| c i) = cwM c i (a + 1) := funext fun b => by
  simp only [upd, cwM]
  split
  · rename_i e; subst e
    rw [if_neg (by omega), if_pos (by omega), cwF, h]
    rfl
  · split
    · rw [if_pos (by omega)]
    · rw [if_neg (by omega)]
theorem cwM_f {c : Nat → Int32} {i a : Nat} (h : bitP (c i) a = false) : cwM c i a = cwM c i (a + 1) := funext fun b => by
  simp only [cwM]
  by_cases e : b = a
  · subst e
    rw [if_neg (by omega), if_pos (by omega), cwF, h]
    simp
  · by_cases q : b < a
    · rw [if_pos q, if_pos (by omega)]
    · rw [if_neg q, if_neg (by omega)]
theorem cwM_in {c : Nat → Int32} {i a b : Nat} (h : b < a) : cwM c i a b = cwF c b (i + 1) := by
  simp only [cwM]
  rw [if_pos h]
section
variable {l : Launch} {D : va_G} {cI cJ cO : ClassId} {B : Nat → Nat} {gG tG kG : Nat → Int32} {ik le : Int32} {by_ : Nat → Int32} {tk bg en va tn b0 l0 : Int32} {u0 : Nat → Int64} {b1 l1 : Int32} {u1 : Nat → Int64} {b2 l2 : Int32} {u2 : Nat → Int64} {b3 l3 : Int32} {u3 : Nat → Int64} {fS cW : Nat → Int32}

set_option maxHeartbeats 4000000 in
set_option maxRecDepth 100000 in
theorem k_X3_gatherContentWith (n : Nat) (k : Nat) (hI : Inv gG n) (hh : rng (gG 0) 0 100000) (hk : k ≤ 60) : MU l D (tyA cI cJ cO) yX3_gatherContentWith cX3_gatherContentWith 5 none 5 115 [.ref (B 0), .int (nI k)] (VW cI cJ cO B gG tG kG ik le by_ tk bg en va tn b0 l0 u0 b1 l1 u1 b2 l2 u2 b3 l3 u3 fS cW) (fun ov w' => ∃ tG' : Nat → Int32, ov = none ∧ w' = (VW cI cJ cO B gG tG' kG ik le by_ tk bg en va tn b0 l0 u0 b1 l1 u1 b2 l2 u2 b3 l3 u3 fS (fun a => cwF (clA gG n) a (k + 1)))) := by
  refine MU.mk (by decide) (Nat.le_of_ble_eq_true rfl) ?_
  intro p e s m below meth c ls S hr hlk hP hK hD hS hl
  have S : CallFix p m c cX3_gatherContentWith 5 s _ WL RX3 := S
  obtain ⟨hx, hb, hml, hown, hts⟩ := id S
  have hl : lv_has ls 5 [(0, .ref (B 0)), (1, .int (nI k))] := hl
  have h8 : n ≤ 8 := hI.1
  have hI0 := hI
  have hh0 := hh
  refine lv_iconst (v := 0) hx hb dX3_gatherContentWith_0 rfl ?_
  have hE : cW = fillF (fun _ => 0) cW 0 := fillF_0 _ _
  have hW : (VW cI cJ cO B gG tG kG ik le by_ tk bg en va tn b0 l0 u0 b1 l1 u1 b2 l2 u2 b3 l3 u3 fS cW) = (VW cI cJ cO B gG tG kG ik le by_ tk bg en va tn b0 l0 u0 b1 l1 u1 b2 l2 u2 b3 l3 u3 fS (fillF (fun _ => 0) cW 0)) := congrArg (fun z => (VW cI cJ cO B gG tG kG ik le by_ tk bg en va tn b0 l0 u0 b1 l1 u1 b2 l2 u2 b3 l3 u3 fS z)) hE
  have hP : va_P D vwCl (VW cI cJ cO B gG tG kG ik le by_ tk bg en va tn b0 l0 u0 b1 l1 u1 b2 l2 u2 b3 l3 u3 fS (fillF (fun _ => 0) cW 0)) s.heap := Eq.mp (congrArg (fun z => va_P D vwCl z s.heap) hW) hP
  have hD : va_D _ (VW cI cJ cO B gG tG kG ik le by_ tk bg en va tn b0 l0 u0 b1 l1 u1 b2 l2 u2 b3 l3 u3 fS (fillF (fun _ => 0) cW 0)) := Eq.mp (congrArg (fun z => va_D _ z) hW) hD
  refine lv_istore_n (lv' := [(2, .int 0), (0, .ref (B 0)), (1, .int (nI k))]) hx hb dX3_gatherContentWith_1 rfl hl (by decide) rfl (fun ls hl => ?_)
  refine w_loopH (pc := 2) (st := fun (i : Nat) => []) (μ := fun (i : Nat) => 8 - i) (I := fun (i : Nat) H locs ls => (i ≤ 8) ∧ va_P D vwCl (VW cI cJ cO B gG tG kG ik le by_ tk bg en va tn b0 l0 u0 b1 l1 u1 b2 l2 u2 b3 l3 u3 fS (fillF (fun _ => 0) cW i)) H ∧ va_D (fun z9 => z9 ∈ ((VW cI cJ cO B gG tG kG ik le by_ tk bg en va tn b0 l0 u0 b1 l1 u1 b2 l2 u2 b3 l3 u3 fS cW)).map (fun z8 => z8.1)) (VW cI cJ cO B gG tG kG ik le by_ tk bg en va tn b0 l0 u0 b1 l1 u1 b2 l2 u2 b3 l3 u3 fS (fillF (fun _ => 0) cW i)) ∧ va_S (fun z9 => z9 ∈ ((VW cI cJ cO B gG tG kG ik le by_ tk bg en va tn b0 l0 u0 b1 l1 u1 b2 l2 u2 b3 l3 u3 fS cW)).map (fun z8 => z8.1)) s.heap H locs ∧ lv_has ls 5 [(0, .ref (B 0)), (1, .int (nI k)), (2, .int (nI i))]) ?_ (0) ⟨Nat.zero_le _, hP, hD, hS, lv_sub hl [1, 2, 0] rfl⟩
  rintro i H locs ls ⟨hi, hP, hD, hS, hl⟩ ih2
  try dsimp only at ih2 ⊢
  refine lv_iload_n hx hb dX3_gatherContentWith_2 rfl (lv_at hl 2 rfl) ?_
  refine lv_bipush (v := 8) hx hb dX3_gatherContentWith_3 rfl ?_
  refine lv_icmp_ge (tgt := 21) hx hb dX3_gatherContentWith_5 rfl (fun c5 => ?_) (fun c5 => ?_)
  · replace c5 := nq_le (a := 8) (b := i) (by omega) (by omega) c5
    have hP : va_P D vwCl (VW cI cJ cO B gG tG kG ik le by_ tk bg en va tn b0 l0 u0 b1 l1 u1 b2 l2 u2 b3 l3 u3 fS (fun a => cwF (clA gG n) a 0)) H := hP.fi 19 (fun a => cwF (clA gG n) a 0) rfl (fun j hj => fillF_in (by omega))
    have hD : va_D _ (VW cI cJ cO B gG tG kG ik le by_ tk bg en va tn b0 l0 u0 b1 l1 u1 b2 l2 u2 b3 l3 u3 fS (fun a => cwF (clA gG n) a 0)) := hD.addr rfl
    refine lv_aload_n hx hb dX3_gatherContentWith_21 rfl (lv_at hl 0 rfl) ?_
    refine va_get (ci := 3) (v := .ref (B 3)) hx hb hts wx_X3 hown hK hP 0 rfl rfl 1 (by decide) (hts _ wf_X3_16) (fun _ h9 => h9) rfl dX3_gatherContentWith_22 ?_
    refine lv_aload_n hx hb dX3_gatherContentWith_25 rfl (lv_at hl 0 rfl) ?_
    refine va_get (ci := 3) (v := .ref (B 1)) hx hb hts wx_X3 hown hK hP 0 rfl rfl 0 (by decide) (hts _ wf_X3_10) (fun _ h9 => h9) rfl dX3_gatherContentWith_26 ?_
    refine mu_V (w := (G2 cI (B 3) (B 4) (tG 0) (tG 2) (tG 1) (tl tG) (B 1) (B 2) (gG 0) (gG 2) (gG 1) (tl gG))) (rest := []) S hK hP hD hS (k_X0_become (g := tG) (g2 := gG)) gv_X3_135 hd_X0_become ⟨Nat.le_of_ble_eq_true rfl, Nat.le_of_ble_eq_true rfl⟩ [3, 4, 1, 2] rfl rfl 0 rfl rfl rfl rfl hl.1 (lv_room (Nat.le_of_ble_eq_true rfl)) dX3_gatherContentWith_29 ⟨Nat.zero_le _, Nat.zero_le _⟩ (fun ov w' H locs hp hP hD hS => ?_)
    obtain ⟨rfl, rfl⟩ := hp
    have hP : va_P D vwCl (VW cI cJ cO B gG gG kG ik le by_ tk bg en va tn b0 l0 u0 b1 l1 u1 b2 l2 u2 b3 l3 u3 fS (fun a => cwF (clA gG n) a 0)) H := hP
    have hD : va_D _ (VW cI cJ cO B gG gG kG ik le by_ tk bg en va tn b0 l0 u0 b1 l1 u1 b2 l2 u2 b3 l3 u3 fS (fun a => cwF (clA gG n) a 0)) := hD
    refine W.eq (g2 := F0 m 32 ls []) rfl ?_
    refine lv_iconst (v := 0) hx hb dX3_gatherContentWith_32 rfl ?_
    refine lv_istore_n (lv' := [(2, .int 0), (0, .ref (B 0)), (1, .int (nI k))]) hx hb dX3_gatherContentWith_33 rfl hl (by decide) rfl (fun ls hl => ?_)
    refine w_loopH (pc := 34) (st := fun (i : Nat) => []) (μ := fun (i : Nat) => k + 1 - i) (I := fun (i : Nat) H locs ls => (i ≤ k + 1) ∧ va_P D vwCl (VW cI cJ cO B gG (hoursF gG n i) kG ik le by_ tk bg en va tn b0 l0 u0 b1 l1 u1 b2 l2 u2 b3 l3 u3 fS (fun a => cwF (clA gG n) a i)) H ∧ va_D (fun z9 => z9 ∈ ((VW cI cJ cO B gG tG kG ik le by_ tk bg en va tn b0 l0 u0 b1 l1 u1 b2 l2 u2 b3 l3 u3 fS cW)).map (fun z8 => z8.1)) (VW cI cJ cO B gG (hoursF gG n i) kG ik le by_ tk bg en va tn b0 l0 u0 b1 l1 u1 b2 l2 u2 b3 l3 u3 fS (fun a => cwF (clA gG n) a i)) ∧ va_S (fun z9 => z9 ∈ ((VW cI cJ cO B gG tG kG ik le by_ tk bg en va tn b0 l0 u0 b1 l1 u1 b2 l2 u2 b3 l3 u3 fS cW)).map (fun z8 => z8.1)) s.heap H locs ∧ lv_has ls 5 [(0, .ref (B 0)), (1, .int (nI k)), (2, .int (nI i))]) ?_ (0) ⟨Nat.zero_le _, hP, hD, hS, lv_sub hl [1, 2, 0] rfl⟩
    rintro i H locs ls ⟨hi, hP, hD, hS, hl⟩ ih34
    try dsimp only at ih34 ⊢
    have hI := Inv_hours hI0 i
    have hh : rng (hoursF gG n i 0) 0 200000 := hours_rng hh0 (by omega)
    refine lv_iload_n hx hb dX3_gatherContentWith_34 rfl (lv_at hl 2 rfl) ?_
    refine lv_iload_n hx hb dX3_gatherContentWith_35 rfl (lv_at hl 1 rfl) ?_
    refine lv_icmp_gt (tgt := 98) hx hb dX3_gatherContentWith_36 rfl (fun c36 => ?_) (fun c36 => ?_)
    · replace c36 := nq_lt (a := k) (b := i) (by omega) (by omega) c36
      obtain rfl : i = k + 1 := by omega
      exact mu_vret (VW cI cJ cO B gG (hoursF gG n (k + 1)) kG ik le by_ tk bg en va tn b0 l0 u0 b1 l1 u1 b2 l2 u2 b3 l3 u3 fS (fun a => cwF (clA gG n) a (k + 1))) hx hb hr hlk hP hS rfl (⟨(hoursF gG n (k + 1)), rfl, rfl⟩) dX3_gatherContentWith_98
    · replace c36 := nq_nlt (a := k) (b := i) (by omega) (by omega) c36
      refine lv_aload_n hx hb dX3_gatherContentWith_39 rfl (lv_at hl 0 rfl) ?_
      refine va_get (ci := 3) (v := .ref (B 3)) hx hb hts wx_X3 hown hK hP 0 rfl rfl 1 (by decide) (hts _ wf_X3_16) (fun _ h9 => h9) rfl dX3_gatherContentWith_40 ?_
      refine ro_V (w := (GW cI (B 3) (B 4) ((hoursF gG n i) 0) ((hoursF gG n i) 2) ((hoursF gG n i) 1) (tl (hoursF gG n i)))) (rest := []) S hK (hP.sub [3, 4] rfl) (k_X0_whoIsContent n hI) gv_X3_71 hd_X0_whoIsContent ⟨Nat.le_of_ble_eq_true rfl, Nat.le_of_ble_eq_true rfl⟩ 0 rfl rfl rfl rfl hl.1 (lv_room (Nat.le_of_ble_eq_true rfl)) dX3_gatherContentWith_43 ⟨Nat.zero_le _, Nat.zero_le _⟩ ?_
      refine w_i (z := clA gG n i) (rfl) ?_
      refine lv_istore_n (lv' := [(3, .int (clA gG n i)), (0, .ref (B 0)), (1, .int (nI k)), (2, .int (nI i))]) hx hb dX3_gatherContentWith_46 rfl hl (by decide) rfl (fun ls hl => ?_)
      refine lv_iconst (v := 0) hx hb dX3_gatherContentWith_47 rfl ?_
      have hE : (fun a => cwF (clA gG n) a i) = cwM (clA gG n) i 0 := cwM_0 _ _
      have hW : (VW cI cJ cO B gG (hoursF gG n i) kG ik le by_ tk bg en va tn b0 l0 u0 b1 l1 u1 b2 l2 u2 b3 l3 u3 fS (fun a => cwF (clA gG n) a i)) = (VW cI cJ cO B gG (hoursF gG n i) kG ik le by_ tk bg en va tn b0 l0 u0 b1 l1 u1 b2 l2 u2 b3 l3 u3 fS (cwM (clA gG n) i 0)) := congrArg (fun z => (VW cI cJ cO B gG (hoursF gG n i) kG ik le by_ tk bg en va tn b0 l0 u0 b1 l1 u1 b2 l2 u2 b3 l3 u3 fS z)) hE
      have hP : va_P D vwCl (VW cI cJ cO B gG (hoursF gG n i) kG ik le by_ tk bg en va tn b0 l0 u0 b1 l1 u1 b2 l2 u2 b3 l3 u3 fS (cwM (clA gG n) i 0)) H := Eq.mp (congrArg (fun z => va_P D vwCl z H) hW) hP
      have hD : va_D _ (VW cI cJ cO B gG (hoursF gG n i) kG ik le by_ tk bg en va tn b0 l0 u0 b1 l1 u1 b2 l2 u2 b3 l3 u3 fS (cwM (clA gG n) i 0)) := Eq.mp (congrArg (fun z => va_D _ z) hW) hD
      refine lv_istore (lv' := [(4, .int 0), (3, .int (clA gG n i)), (0, .ref (B 0)), (1, .int (nI k)), (2, .int (nI i))]) hx hb dX3_gatherContentWith_48 hl (by decide) rfl (fun ls hl => ?_)
      refine w_loopH (pc := 50) (st := fun (a : Nat) => []) (μ := fun (a : Nat) => 8 - a) (I := fun (a : Nat) H locs ls => (a ≤ 8) ∧ va_P D vwCl (VW cI cJ cO B gG (hoursF gG n i) kG ik le by_ tk bg en va tn b0 l0 u0 b1 l1 u1 b2 l2 u2 b3 l3 u3 fS (cwM (clA gG n) i a)) H ∧ va_D (fun z9 => z9 ∈ ((VW cI cJ cO B gG tG kG ik le by_ tk bg en va tn b0 l0 u0 b1 l1 u1 b2 l2 u2 b3 l3 u3 fS cW)).map (fun z8 => z8.1)) (VW cI cJ cO B gG (hoursF gG n i) kG ik le by_ tk bg en va tn b0 l0 u0 b1 l1 u1 b2 l2 u2 b3 l3 u3 fS (cwM (clA gG n) i a)) ∧ va_S (fun z9 => z9 ∈ ((VW cI cJ cO B gG tG kG ik le by_ tk bg en va tn b0 l0 u0 b1 l1 u1 b2 l2 u2 b3 l3 u3 fS cW)).map (fun z8 => z8.1)) s.heap H locs ∧ lv_has ls 5 [(0, .ref (B 0)), (1, .int (nI k)), (2, .int (nI i)), (3, .int (clA gG n i)), (4, .int (nI a))]) ?_ (0) ⟨Nat.zero_le _, hP, hD, hS, lv_sub hl [2, 3, 4, 1, 0] rfl⟩
      rintro a H locs ls ⟨ha, hP, hD, hS, hl⟩ ih50
      try dsimp only at ih50 ⊢
      refine lv_iload hx hb dX3_gatherContentWith_50 (lv_at hl 4 rfl) ?_
      refine lv_bipush (v := 8) hx hb dX3_gatherContentWith_52 rfl ?_
      refine lv_icmp_ge (tgt := 84) hx hb dX3_gatherContentWith_54 rfl (fun c54 => ?_) (fun c54 => ?_)
      · replace c54 := nq_le (a := 8) (b := a) (by omega) (by omega) c54
        have hP : va_P D vwCl (VW cI cJ cO B gG (hoursF gG n i) kG ik le by_ tk bg en va tn b0 l0 u0 b1 l1 u1 b2 l2 u2 b3 l3 u3 fS (fun a => cwF (clA gG n) a (i + 1))) H := hP.fi 19 (fun a => cwF (clA gG n) a (i + 1)) rfl (fun j hj => cwM_in (by omega))
        have hD : va_D _ (VW cI cJ cO B gG (hoursF gG n i) kG ik le by_ tk bg en va tn b0 l0 u0 b1 l1 u1 b2 l2 u2 b3 l3 u3 fS (fun a => cwF (clA gG n) a (i + 1))) := hD.addr rfl
        refine lv_aload_n hx hb dX3_gatherContentWith_84 rfl (lv_at hl 0 rfl) ?_
        refine va_get (ci := 3) (v := .ref (B 3)) hx hb hts wx_X3 hown hK hP 0 rfl rfl 1 (by decide) (hts _ wf_X3_16) (fun _ h9 => h9) rfl dX3_gatherContentWith_85 ?_
        refine lv_iconst (v := 1) hx hb dX3_gatherContentWith_88 rfl ?_
        refine mu_V (w := (GW cI (B 3) (B 4) ((hoursF gG n i) 0) ((hoursF gG n i) 2) ((hoursF gG n i) 1) (tl (hoursF gG n i)))) (rest := []) S hK hP hD hS (k_X0_pass n 1 hI hh (by omega)) gv_X3_131 hd_X0_pass ⟨Nat.le_of_ble_eq_true rfl, Nat.le_of_ble_eq_true rfl⟩ [3, 4] rfl rfl 0 rfl rfl rfl rfl hl.1 (lv_room (Nat.le_of_ble_eq_true rfl)) dX3_gatherContentWith_89 ⟨Nat.zero_le _, Nat.zero_le _⟩ (fun ov w' H locs hp hP hD hS => ?_)
        obtain ⟨rfl, rfl⟩ := hp
        have hP : va_P D vwCl (VW cI cJ cO B gG (hoursF (hoursF gG n i) n 1) kG ik le by_ tk bg en va tn b0 l0 u0 b1 l1 u1 b2 l2 u2 b3 l3 u3 fS (fun a => cwF (clA gG n) a (i + 1))) H := hP
        have hD : va_D _ (VW cI cJ cO B gG (hoursF (hoursF gG n i) n 1) kG ik le by_ tk bg en va tn b0 l0 u0 b1 l1 u1 b2 l2 u2 b3 l3 u3 fS (fun a => cwF (clA gG n) a (i + 1))) := hD
        refine W.eq (g2 := F0 m 92 ls []) rfl ?_
        have hE : hoursF (hoursF gG n i) n 1 = hoursF gG n (i + 1) := rfl
        have hW : (VW cI cJ cO B gG (hoursF (hoursF gG n i) n 1) kG ik le by_ tk bg en va tn b0 l0 u0 b1 l1 u1 b2 l2 u2 b3 l3 u3 fS (fun a => cwF (clA gG n) a (i + 1))) = (VW cI cJ cO B gG (hoursF gG n (i + 1)) kG ik le by_ tk bg en va tn b0 l0 u0 b1 l1 u1 b2 l2 u2 b3 l3 u3 fS (fun a => cwF (clA gG n) a (i + 1))) := congrArg (fun z => (VW cI cJ cO B gG z kG ik le by_ tk bg en va tn b0 l0 u0 b1 l1 u1 b2 l2 u2 b3 l3 u3 fS (fun a => cwF (clA gG n) a (i + 1)))) hE
        have hP : va_P D vwCl (VW cI cJ cO B gG (hoursF gG n (i + 1)) kG ik le by_ tk bg en va tn b0 l0 u0 b1 l1 u1 b2 l2 u2 b3 l3 u3 fS (fun a => cwF (clA gG n) a (i + 1))) H := Eq.mp (congrArg (fun z => va_P D vwCl z H) hW) hP
        have hD : va_D _ (VW cI cJ cO B gG (hoursF gG n (i + 1)) kG ik le by_ tk bg en va tn b0 l0 u0 b1 l1 u1 b2 l2 u2 b3 l3 u3 fS (fun a => cwF (clA gG n) a (i + 1))) := Eq.mp (congrArg (fun z => va_D _ z) hW) hD
        refine lv_iinc (v := nI (i + 1)) (lv' := [(2, .int (nI (i + 1))), (0, .ref (B 0)), (1, .int (nI k)), (3, .int (clA gG n i)), (4, .int (nI a))]) hx hb dX3_gatherContentWith_92 hl (k := 2) rfl (nI_inc _) (by decide) rfl (fun ls hl => ?_)
        refine lv_goto (tgt := 34) hx hb dX3_gatherContentWith_95 rfl ?_
        exact ih34 (i + 1) _ _ ls (by first | omega | (dsimp only; omega)) ⟨(by omega), hP, hD, hS, lv_sub hl [1, 2, 0] rfl⟩
      · replace c54 := nq_nle (a := 8) (b := a) (by omega) (by omega) c54
        refine lv_iload_n hx hb dX3_gatherContentWith_57 rfl (lv_at hl 3 rfl) ?_
        refine lv_iload hx hb dX3_gatherContentWith_58 (lv_at hl 4 rfl) ?_
        refine lv_ishr hx hb dX3_gatherContentWith_60 ?_
        refine lv_iconst (v := 1) hx hb dX3_gatherContentWith_61 rfl ?_
        refine lv_iand hx hb dX3_gatherContentWith_62 ?_
        refine lv_iconst (v := 1) hx hb dX3_gatherContentWith_63 rfl ?_
        refine lv_icmp_ne (tgt := 78) hx hb dX3_gatherContentWith_64 rfl (fun c64 => ?_) (fun c64 => ?_)
        · have hE : cwM (clA gG n) i a = cwM (clA gG n) i (a + 1) := cwM_f (decide_eq_false c64)
          have hW : (VW cI cJ cO B gG (hoursF gG n i) kG ik le by_ tk bg en va tn b0 l0 u0 b1 l1 u1 b2 l2 u2 b3 l3 u3 fS (cwM (clA gG n) i a)) = (VW cI cJ cO B gG (hoursF gG n i) kG ik le by_ tk bg en va tn b0 l0 u0 b1 l1 u1 b2 l2 u2 b3 l3 u3 fS (cwM (clA gG n) i (a + 1))) := congrArg (fun z => (VW cI cJ cO B gG (hoursF gG n i) kG ik le by_ tk bg en va tn b0 l0 u0 b1 l1 u1 b2 l2 u2 b3 l3 u3 fS z)) hE
          have hP : va_P D vwCl (VW cI cJ cO B gG (hoursF gG n i) kG ik le by_ tk bg en va tn b0 l0 u0 b1 l1 u1 b2 l2 u2 b3 l3 u3 fS (cwM (clA gG n) i (a + 1))) H := Eq.mp (congrArg (fun z => va_P D vwCl z H) hW) hP
          have hD : va_D _ (VW cI cJ cO B gG (hoursF gG n i) kG ik le by_ tk bg en va tn b0 l0 u0 b1 l1 u1 b2 l2 u2 b3 l3 u3 fS (cwM (clA gG n) i (a + 1))) := Eq.mp (congrArg (fun z => va_D _ z) hW) hD
          refine lv_iinc (v := nI (a + 1)) (lv' := [(4, .int (nI (a + 1))), (0, .ref (B 0)), (1, .int (nI k)), (2, .int (nI i)), (3, .int (clA gG n i))]) hx hb dX3_gatherContentWith_78 hl (k := 4) rfl (nI_inc _) (by decide) rfl (fun ls hl => ?_)
          refine lv_goto (tgt := 50) hx hb dX3_gatherContentWith_81 rfl ?_
          exact ih50 (a + 1) _ _ ls (by first | omega | (dsimp only; omega)) ⟨(by omega), hP, hD, hS, lv_sub hl [1, 2, 3, 4, 0] rfl⟩
        · refine lv_aload_n hx hb dX3_gatherContentWith_67 rfl (lv_at hl 0 rfl) ?_
          refine va_get (ci := 3) (v := .ref (B 19)) hx hb hts wx_X3 hown hK hP 0 rfl rfl 7 (by decide) (hts _ wf_X3_44) (fun _ h9 => h9) rfl dX3_gatherContentWith_68 ?_
          refine lv_iload hx hb dX3_gatherContentWith_71 (lv_at hl 4 rfl) ?_
          refine lv_dup2_11 hx hb dX3_gatherContentWith_73 rfl rfl ?_
          refine ia_ld hx hb hK hP 19 0 rfl rfl a (rfl) (by omega) (by decide) dX3_gatherContentWith_74 ?_
          refine lv_iload_n hx hb dX3_gatherContentWith_75 rfl (lv_at hl 3 rfl) ?_
          refine lv_ior hx hb dX3_gatherContentWith_76 ?_
          refine ia_st hx hb hK hP hD hS 19 0 rfl rfl a (rfl) (by omega) (by decide) dX3_gatherContentWith_77 (fun H locs hP hD hS => ?_)
          have hP : va_P D vwCl (VW cI cJ cO B gG (hoursF gG n i) kG ik le by_ tk bg en va tn b0 l0 u0 b1 l1 u1 b2 l2 u2 b3 l3 u3 fS (upd (cwM (clA gG n) i a) a (((cwM (clA gG n) i a) a) ||| (clA gG n i)))) H := hP
          have hD : va_D _ (VW cI cJ cO B gG (hoursF gG n i) kG ik le by_ tk bg en va tn b0 l0 u0 b1 l1 u1 b2 l2 u2 b3 l3 u3 fS (upd (cwM (clA gG n) i a) a (((cwM (clA gG n) i a) a) ||| (clA gG n i)))) := hD
          have hE : upd (cwM (clA gG n) i a) a (((cwM (clA gG n) i a) a) ||| (clA gG n i)) = cwM (clA gG n) i (a + 1) := cwM_t (decide_eq_true c64)
          have hW : (VW cI cJ cO B gG (hoursF gG n i) kG ik le by_ tk bg en va tn b0 l0 u0 b1 l1 u1 b2 l2 u2 b3 l3 u3 fS (upd (cwM (clA gG n) i a) a (((cwM (clA gG n) i a) a) ||| (clA gG n i)))) = (VW cI cJ cO B gG (hoursF gG n i) kG ik le by_ tk bg en va tn b0 l0 u0 b1 l1 u1 b2 l2 u2 b3 l3 u3 fS (cwM (clA gG n) i (a + 1))) := congrArg (fun z => (VW cI cJ cO B gG (hoursF gG n i) kG ik le by_ tk bg en va tn b0 l0 u0 b1 l1 u1 b2 l2 u2 b3 l3 u3 fS z)) hE
          have hP : va_P D vwCl (VW cI cJ cO B gG (hoursF gG n i) kG ik le by_ tk bg en va tn b0 l0 u0 b1 l1 u1 b2 l2 u2 b3 l3 u3 fS (cwM (clA gG n) i (a + 1))) H := Eq.mp (congrArg (fun z => va_P D vwCl z H) hW) hP
          have hD : va_D _ (VW cI cJ cO B gG (hoursF gG n i) kG ik le by_ tk bg en va tn b0 l0 u0 b1 l1 u1 b2 l2 u2 b3 l3 u3 fS (cwM (clA gG n) i (a + 1))) := Eq.mp (congrArg (fun z => va_D _ z) hW) hD
          refine lv_iinc (v := nI (a + 1)) (lv' := [(4, .int (nI (a + 1))), (0, .ref (B 0)), (1, .int (nI k)), (2, .int (nI i)), (3, .int (clA gG n i))]) hx hb dX3_gatherContentWith_78 hl (k := 4) rfl (nI_inc _) (by decide) rfl (fun ls hl => ?_)
          refine lv_goto (tgt := 50) hx hb dX3_gatherContentWith_81 rfl ?_
          exact ih50 (a + 1) _ _ ls (by first | omega | (dsimp only; omega)) ⟨(by omega), hP, hD, hS, lv_sub hl [1, 2, 3, 4, 0] rfl⟩
  · replace c5 := nq_nle (a := 8) (b := i) (by omega) (by omega) c5
    refine lv_aload_n hx hb dX3_gatherContentWith_8 rfl (lv_at hl 0 rfl) ?_
    refine va_get (ci := 3) (v := .ref (B 19)) hx hb hts wx_X3 hown hK hP 0 rfl rfl 7 (by decide) (hts _ wf_X3_44) (fun _ h9 => h9) rfl dX3_gatherContentWith_9 ?_
    refine lv_iload_n hx hb dX3_gatherContentWith_12 rfl (lv_at hl 2 rfl) ?_
    refine lv_iconst (v := 0) hx hb dX3_gatherContentWith_13 rfl ?_
    refine ia_st hx hb hK hP hD hS 19 0 rfl rfl i (rfl) (by omega) (by decide) dX3_gatherContentWith_14 (fun H locs hP hD hS => ?_)
    have hP : va_P D vwCl (VW cI cJ cO B gG tG kG ik le by_ tk bg en va tn b0 l0 u0 b1 l1 u1 b2 l2 u2 b3 l3 u3 fS (upd (fillF (fun _ => 0) cW i) i 0)) H := hP
    have hD : va_D _ (VW cI cJ cO B gG tG kG ik le by_ tk bg en va tn b0 l0 u0 b1 l1 u1 b2 l2 u2 b3 l3 u3 fS (upd (fillF (fun _ => 0) cW i) i 0)) := hD
    have hE : upd (fillF (fun _ => 0) cW i) i 0 = fillF (fun _ => 0) cW (i + 1) := fillF_s (fun _ => 0) _ _
    have hW : (VW cI cJ cO B gG tG kG ik le by_ tk bg en va tn b0 l0 u0 b1 l1 u1 b2 l2 u2 b3 l3 u3 fS (upd (fillF (fun _ => 0) cW i) i 0)) = (VW cI cJ cO B gG tG kG ik le by_ tk bg en va tn b0 l0 u0 b1 l1 u1 b2 l2 u2 b3 l3 u3 fS (fillF (fun _ => 0) cW (i + 1))) := congrArg (fun z => (VW cI cJ cO B gG tG kG ik le by_ tk bg en va tn b0 l0 u0 b1 l1 u1 b2 l2 u2 b3 l3 u3 fS z)) hE
    have hP : va_P D vwCl (VW cI cJ cO B gG tG kG ik le by_ tk bg en va tn b0 l0 u0 b1 l1 u1 b2 l2 u2 b3 l3 u3 fS (fillF (fun _ => 0) cW (i + 1))) H := Eq.mp (congrArg (fun z => va_P D vwCl z H) hW) hP
    have hD : va_D _ (VW cI cJ cO B gG tG kG ik le by_ tk bg en va tn b0 l0 u0 b1 l1 u1 b2 l2 u2 b3 l3 u3 fS (fillF (fun _ => 0) cW (i + 1))) := Eq.mp (congrArg (fun z => va_D _ z) hW) hD
    refine lv_iinc (v := nI (i + 1)) (lv' := [(2, .int (nI (i + 1))), (0, .ref (B 0)), (1, .int (nI k))]) hx hb dX3_gatherContentWith_15 hl (k := 2) rfl (nI_inc _) (by decide) rfl (fun ls hl => ?_)
    refine lv_goto (tgt := 2) hx hb dX3_gatherContentWith_18 rfl ?_
    exact ih2 (i + 1) _ _ ls (by first | omega | (dsimp only; omega)) ⟨(by omega), hP, hD, hS, lv_sub hl [1, 2, 0] rfl⟩

set_option maxHeartbeats 4000000 in
set_option maxRecDepth 100000 in
theorem k_X3_wantsClash (a : Nat) (b : Nat) (ha : a < 8) (hb9 : b < 8) : RO l D (tyA cI cJ cO) yX3_wantsClash cX3_wantsClash 3 ((some .boolean)) 1 22 [.ref (B 0), .int (nI a), .int (nI b)] (VW cI cJ cO B gG tG kG ik le by_ tk bg en va tn b0 l0 u0 b1 l1 u1 b2 l2 u2 b3 l3 u3 fS cW) (.int (b2i (!decide (cW a = 0) && !decide (cW b = 0) && !bitP (cW a) b))) := by
  refine RO.mk (by decide) (Nat.le_of_ble_eq_true rfl) ?_
  intro p e s m below meth c ls S hr hlk hP hK hl
  have S : CallFix p m c cX3_wantsClash 3 s _ WL RX3 := S
  obtain ⟨hx, hb, hml, hown, hts⟩ := id S
  have hl : lv_has ls 3 [(0, .ref (B 0)), (1, .int (nI a)), (2, .int (nI b))] := hl
  refine lv_iload_n hx hb dX3_wantsClash_0 rfl (lv_at hl 1 rfl) ?_
  refine lv_iconst (v := 0) hx hb dX3_wantsClash_1 rfl ?_
  refine lv_bipush (v := 7) hx hb dX3_wantsClash_2 rfl ?_
  refine ro_S (w := []) (rest := []) S hK va_P0 (k_X3_isOutside (nI a) 0 7) gs_X3_47 hd_X3_isOutside ⟨Nat.le_of_ble_eq_true rfl, Nat.le_of_ble_eq_true rfl⟩ rfl hl.1 (lv_room (Nat.le_of_ble_eq_true rfl)) dX3_wantsClash_4 ⟨Nat.zero_le _, Nat.zero_le _⟩ ?_
  refine lv_if_ne (tgt := 20) hx hb dX3_wantsClash_7 rfl (fun c7 => ?_) (fun c7 => ?_)
  · replace c7 := bn_n0 c7
    exact absurd ((in_mk (a := 0) (b := 7) (k := a) (by decide) (by omega) (by omega)).symm.trans c7) (by decide)
  · replace c7 := bn_0 c7
    refine lv_iload_n hx hb dX3_wantsClash_10 rfl (lv_at hl 2 rfl) ?_
    refine lv_iconst (v := 0) hx hb dX3_wantsClash_11 rfl ?_
    refine lv_bipush (v := 7) hx hb dX3_wantsClash_12 rfl ?_
    refine ro_S (w := []) (rest := []) S hK va_P0 (k_X3_isOutside (nI b) 0 7) gs_X3_47 hd_X3_isOutside ⟨Nat.le_of_ble_eq_true rfl, Nat.le_of_ble_eq_true rfl⟩ rfl hl.1 (lv_room (Nat.le_of_ble_eq_true rfl)) dX3_wantsClash_14 ⟨Nat.zero_le _, Nat.zero_le _⟩ ?_
    refine lv_if_eq (tgt := 22) hx hb dX3_wantsClash_17 rfl (fun c17 => ?_) (fun c17 => ?_)
    · replace c17 := bn_0 c17
      refine lv_aload_n hx hb dX3_wantsClash_22 rfl (lv_at hl 0 rfl) ?_
      refine va_get (ci := 3) (v := .ref (B 19)) hx hb hts wx_X3 hown hK hP 0 rfl rfl 7 (by decide) (hts _ wf_X3_44) (fun _ h9 => h9) rfl dX3_wantsClash_23 ?_
      refine lv_iload_n hx hb dX3_wantsClash_26 rfl (lv_at hl 1 rfl) ?_
      refine ia_ld hx hb hK hP 19 0 rfl rfl a (rfl) (by omega) (by decide) dX3_wantsClash_27 ?_
      refine lv_if_eq (tgt := 57) hx hb dX3_wantsClash_28 rfl (fun c28 => ?_) (fun c28 => ?_)
      · refine lv_iconst (v := 0) hx hb dX3_wantsClash_57 rfl ?_
        exact ro_zret hx hb hr hlk (by simp [b2i, c7, c17, c28]) dX3_wantsClash_58
      · refine lv_aload_n hx hb dX3_wantsClash_31 rfl (lv_at hl 0 rfl) ?_
        refine va_get (ci := 3) (v := .ref (B 19)) hx hb hts wx_X3 hown hK hP 0 rfl rfl 7 (by decide) (hts _ wf_X3_44) (fun _ h9 => h9) rfl dX3_wantsClash_32 ?_
        refine lv_iload_n hx hb dX3_wantsClash_35 rfl (lv_at hl 2 rfl) ?_
        refine ia_ld hx hb hK hP 19 0 rfl rfl b (rfl) (by omega) (by decide) dX3_wantsClash_36 ?_
        refine lv_if_eq (tgt := 57) hx hb dX3_wantsClash_37 rfl (fun c37 => ?_) (fun c37 => ?_)
        · refine lv_iconst (v := 0) hx hb dX3_wantsClash_57 rfl ?_
          exact ro_zret hx hb hr hlk (by simp [b2i, c7, c17, c28, c37]) dX3_wantsClash_58
        · refine lv_aload_n hx hb dX3_wantsClash_40 rfl (lv_at hl 0 rfl) ?_
          refine va_get (ci := 3) (v := .ref (B 19)) hx hb hts wx_X3 hown hK hP 0 rfl rfl 7 (by decide) (hts _ wf_X3_44) (fun _ h9 => h9) rfl dX3_wantsClash_41 ?_
          refine lv_iload_n hx hb dX3_wantsClash_44 rfl (lv_at hl 1 rfl) ?_
          refine ia_ld hx hb hK hP 19 0 rfl rfl a (rfl) (by omega) (by decide) dX3_wantsClash_45 ?_
          refine lv_iload_n hx hb dX3_wantsClash_46 rfl (lv_at hl 2 rfl) ?_
          refine lv_ishr hx hb dX3_wantsClash_47 ?_
          refine lv_iconst (v := 1) hx hb dX3_wantsClash_48 rfl ?_
          refine lv_iand hx hb dX3_wantsClash_49 ?_
          refine lv_if_ne (tgt := 57) hx hb dX3_wantsClash_50 rfl (fun c50 => ?_) (fun c50 => ?_)
          · have c50b : bitP (cW a) b = true := by cases h9 : bitP (cW a) b with | true => rfl | false => exact absurd ((bit01 _ (by omega)).mpr h9) c50
            refine lv_iconst (v := 0) hx hb dX3_wantsClash_57 rfl ?_
            exact ro_zret hx hb hr hlk (by simp [b2i, c7, c17, c28, c37, c50b]) dX3_wantsClash_58
          · have c50b := (bit01 _ (by omega)).mp c50
            refine lv_iconst (v := 1) hx hb dX3_wantsClash_53 rfl ?_
            refine lv_goto (tgt := 58) hx hb dX3_wantsClash_54 rfl ?_
            exact ro_zret hx hb hr hlk (by simp [b2i, c7, c17, c28, c37, c50b]) dX3_wantsClash_58
    · replace c17 := bn_n0 c17
      exact absurd ((in_mk (a := 0) (b := 7) (k := b) (by decide) (by omega) (by omega)).symm.trans c17) (by decide)

set_option maxHeartbeats 4000000 in
set_option maxRecDepth 100000 in
theorem k_X3_clash (n : Nat) (k : Int32) (hI : Inv gG n) (hh : rng (gG 0) 0 100000) : MU l D (tyA cI cJ cO) yX3_clash cX3_clash 4 ((some .int)) 6 139 [.ref (B 0), .int k] (VW cI cJ cO B gG tG kG ik le by_ tk bg en va tn b0 l0 u0 b1 l1 u1 b2 l2 u2 b3 l3 u3 fS cW) (fun ov w' => ∃ tG' : Nat → Int32, ∃ cW' : Nat → Int32, ov = some (.int (clashR gG n k)) ∧ w' = (VW cI cJ cO B gG tG' kG ik le by_ tk bg en va tn b0 l0 u0 b1 l1 u1 b2 l2 u2 b3 l3 u3 (clashT gG fS n k) cW')) := by
  refine MU.mk (by decide) (Nat.le_of_ble_eq_true rfl) ?_
  intro p e s m below meth c ls S hr hlk hP hK hD hS hl
  have S : CallFix p m c cX3_clash 4 s _ WL RX3 := S
  obtain ⟨hx, hb, hml, hown, hts⟩ := id S
  have hl : lv_has ls 4 [(0, .ref (B 0)), (1, .int k)] := hl
  have h8 : n ≤ 8 := hI.1
  refine lv_iload_n hx hb dX3_clash_0 rfl (lv_at hl 1 rfl) ?_
  refine lv_iconst (v := 1) hx hb dX3_clash_1 rfl ?_
  refine lv_bipush (v := 60) hx hb dX3_clash_2 rfl ?_
  refine ro_S (w := []) (rest := []) S hK va_P0 (k_X3_isOutside k 1 60) gs_X3_47 hd_X3_isOutside ⟨Nat.le_of_ble_eq_true rfl, Nat.le_of_ble_eq_true rfl⟩ rfl hl.1 (lv_room (Nat.le_of_ble_eq_true rfl)) dX3_clash_4 ⟨Nat.zero_le _, Nat.zero_le _⟩ ?_
  refine lv_if_eq (tgt := 17) hx hb dX3_clash_7 rfl (fun c7 => ?_) (fun c7 => ?_)
  · replace c7 := bn_0 c7
    obtain ⟨k0, hk0a, hk0b, rfl⟩ := in_nat (a := 1) (b := 60) (by decide) c7 (by decide)
    have ek0 : cl (nI k0) = k0 := cl_nI (by omega)
    refine lv_aload_n hx hb dX3_clash_17 rfl (lv_at hl 0 rfl) ?_
    refine lv_iload_n hx hb dX3_clash_18 rfl (lv_at hl 1 rfl) ?_
    refine mu_W (w := (VW cI cJ cO B gG tG kG ik le by_ tk bg en va tn b0 l0 u0 b1 l1 u1 b2 l2 u2 b3 l3 u3 fS cW)) (rest := []) S hK hP hD hS (k_X3_gatherContentWith n k0 hI hh (by omega)) gv_X3_159 hd_X3_gatherContentWith ⟨Nat.le_of_ble_eq_true rfl, Nat.le_of_ble_eq_true rfl⟩ 3 rfl rfl rfl rfl hl.1 (lv_room (Nat.le_of_ble_eq_true rfl)) dX3_clash_19 ⟨Nat.zero_le _, Nat.zero_le _⟩ (fun ov w' H locs hp hP hD hS => ?_)
    obtain ⟨t9, rfl, rfl⟩ := hp
    refine W.eq (g2 := F0 m 22 ls []) rfl ?_
    refine lv_iconst (v := 0) hx hb dX3_clash_22 rfl ?_
    refine lv_istore_n (lv' := [(2, .int 0), (0, .ref (B 0)), (1, .int (nI k0))]) hx hb dX3_clash_23 rfl hl (by decide) rfl (fun ls hl => ?_)
    refine w_loopH (pc := 24) (st := fun (i : Nat) => []) (μ := fun (i : Nat) => n - i) (I := fun (i : Nat) H locs ls => (i ≤ n) ∧ (sr2 (clB (clA gG n) (k0 + 1)) n n = sr2 (clB (clA gG n) (k0 + 1)) n (n - i)) ∧ va_P D vwCl (VW cI cJ cO B gG t9 kG ik le by_ tk bg en va tn b0 l0 u0 b1 l1 u1 b2 l2 u2 b3 l3 u3 fS (fun a => cwF (clA gG n) a (k0 + 1))) H ∧ va_D (fun z9 => z9 ∈ ((VW cI cJ cO B gG tG kG ik le by_ tk bg en va tn b0 l0 u0 b1 l1 u1 b2 l2 u2 b3 l3 u3 fS cW)).map (fun z8 => z8.1)) (VW cI cJ cO B gG t9 kG ik le by_ tk bg en va tn b0 l0 u0 b1 l1 u1 b2 l2 u2 b3 l3 u3 fS (fun a => cwF (clA gG n) a (k0 + 1))) ∧ va_S (fun z9 => z9 ∈ ((VW cI cJ cO B gG tG kG ik le by_ tk bg en va tn b0 l0 u0 b1 l1 u1 b2 l2 u2 b3 l3 u3 fS cW)).map (fun z8 => z8.1)) s.heap H locs ∧ lv_has ls 4 [(0, .ref (B 0)), (1, .int (nI k0)), (2, .int (nI i))]) ?_ (0) ⟨Nat.zero_le _, rfl, hP, hD, hS, lv_sub hl [1, 2, 0] rfl⟩
    rintro i H locs ls ⟨hi, hsr, hP, hD, hS, hl⟩ ih24
    try dsimp only at ih24 ⊢
    refine lv_iload_n hx hb dX3_clash_24 rfl (lv_at hl 2 rfl) ?_
    refine lv_aload_n hx hb dX3_clash_25 rfl (lv_at hl 0 rfl) ?_
    refine va_get (ci := 3) (v := .ref (B 1)) hx hb hts wx_X3 hown hK hP 0 rfl rfl 0 (by decide) (hts _ wf_X3_10) (fun _ h9 => h9) rfl dX3_clash_26 ?_
    refine va_get (ci := 0) (v := .int (gG 1)) hx hb hts wx_X0 hown hK hP 1 rfl rfl 2 (by decide) (hts _ wf_X3_148) (fun _ h9 => h9) rfl dX3_clash_29 ?_
    refine w_i (z := nI n) (hI.2.1) ?_
    refine lv_icmp_ge (tgt := 78) hx hb dX3_clash_32 rfl (fun c32 => ?_) (fun c32 => ?_)
    · replace c32 := nq_le (a := n) (b := i) (by omega) (by omega) c32
      have hs2 : sr2 (clB (clA gG n) (k0 + 1)) n n = -1 := by rw [hsr, show n - i = 0 by omega, sr2]
      refine lv_aload_n hx hb dX3_clash_78 rfl (lv_at hl 0 rfl) ?_
      refine lv_ldc (v := (-1000000004)) hx hb hown (hts _ wq_X3_154) dX3_clash_79 ?_
      refine mu_W (w := (VW cI cJ cO B gG t9 kG ik le by_ tk bg en va tn b0 l0 u0 b1 l1 u1 b2 l2 u2 b3 l3 u3 fS (fun a => cwF (clA gG n) a (k0 + 1)))) (rest := []) S hK hP hD hS (k_X3_finding 3 (-1000000004) (by decide) (by decide)) gv_X3_52 hd_X3_finding ⟨Nat.le_of_ble_eq_true rfl, Nat.le_of_ble_eq_true rfl⟩ 3 rfl rfl rfl rfl hl.1 (lv_room (Nat.le_of_ble_eq_true rfl)) dX3_clash_81 ⟨Nat.zero_le _, Nat.zero_le _⟩ (fun ov w' H locs hp hP hD hS => ?_)
      obtain ⟨rfl, rfl⟩ := hp
      refine W.eq (g2 := F0 m 84 ls [.int (-1000000004)]) rfl ?_
      have hE : upd fS 3 (fS 3 + 1) = clashT gG fS n (nI k0) := by simp [clashR, clashT, clashB, bump, put9, b2i, c7, ek0, hs2, i_lt, -Int32.not_le, -Int32.not_lt]
      have hW : (VW cI cJ cO B gG t9 kG ik le by_ tk bg en va tn b0 l0 u0 b1 l1 u1 b2 l2 u2 b3 l3 u3 (upd fS 3 (fS 3 + 1)) (fun a => cwF (clA gG n) a (k0 + 1))) = (VW cI cJ cO B gG t9 kG ik le by_ tk bg en va tn b0 l0 u0 b1 l1 u1 b2 l2 u2 b3 l3 u3 (clashT gG fS n (nI k0)) (fun a => cwF (clA gG n) a (k0 + 1))) := congrArg (fun z => (VW cI cJ cO B gG t9 kG ik le by_ tk bg en va tn b0 l0 u0 b1 l1 u1 b2 l2 u2 b3 l3 u3 z (fun a => cwF (clA gG n) a (k0 + 1)))) hE
      have hP : va_P D vwCl (VW cI cJ cO B gG t9 kG ik le by_ tk bg en va tn b0 l0 u0 b1 l1 u1 b2 l2 u2 b3 l3 u3 (clashT gG fS n (nI k0)) (fun a => cwF (clA gG n) a (k0 + 1))) H := Eq.mp (congrArg (fun z => va_P D vwCl z H) hW) hP
      have hD : va_D _ (VW cI cJ cO B gG t9 kG ik le by_ tk bg en va tn b0 l0 u0 b1 l1 u1 b2 l2 u2 b3 l3 u3 (clashT gG fS n (nI k0)) (fun a => cwF (clA gG n) a (k0 + 1))) := Eq.mp (congrArg (fun z => va_D _ z) hW) hD
      exact mu_iret (VW cI cJ cO B gG t9 kG ik le by_ tk bg en va tn b0 l0 u0 b1 l1 u1 b2 l2 u2 b3 l3 u3 (clashT gG fS n (nI k0)) (fun a => cwF (clA gG n) a (k0 + 1))) hx hb hr hlk hP hS rfl (⟨t9, (fun a => cwF (clA gG n) a (k0 + 1)), congrArg (fun z => some (Value.int z)) (by simp [clashR, clashT, clashB, bump, put9, b2i, c7, ek0, hs2, i_lt, -Int32.not_le, -Int32.not_lt]), rfl⟩) dX3_clash_84
    · replace c32 := nq_nle (a := n) (b := i) (by omega) (by omega) c32
      refine lv_iload_n hx hb dX3_clash_35 rfl (lv_at hl 2 rfl) ?_
      refine lv_iconst (v := 1) hx hb dX3_clash_36 rfl ?_
      refine lv_iadd hx hb dX3_clash_37 ?_
      refine w_i (z := nI (i + 1)) (nI_1 i) ?_
      refine lv_istore_n (lv' := [(3, .int (nI (i + 1))), (0, .ref (B 0)), (1, .int (nI k0)), (2, .int (nI i))]) hx hb dX3_clash_38 rfl hl (by decide) rfl (fun ls hl => ?_)
      refine w_loopH (pc := 39) (st := fun (j : Nat) => []) (μ := fun (j : Nat) => n - j) (I := fun (j : Nat) H locs ls => (i + 1 ≤ j) ∧ (j ≤ n) ∧ (sr2 (clB (clA gG n) (k0 + 1)) n n = sr1 (clB (clA gG n) (k0 + 1)) n i (sr2 (clB (clA gG n) (k0 + 1)) n (n - (i + 1))) (n - j)) ∧ va_P D vwCl (VW cI cJ cO B gG t9 kG ik le by_ tk bg en va tn b0 l0 u0 b1 l1 u1 b2 l2 u2 b3 l3 u3 fS (fun a => cwF (clA gG n) a (k0 + 1))) H ∧ va_D (fun z9 => z9 ∈ ((VW cI cJ cO B gG tG kG ik le by_ tk bg en va tn b0 l0 u0 b1 l1 u1 b2 l2 u2 b3 l3 u3 fS cW)).map (fun z8 => z8.1)) (VW cI cJ cO B gG t9 kG ik le by_ tk bg en va tn b0 l0 u0 b1 l1 u1 b2 l2 u2 b3 l3 u3 fS (fun a => cwF (clA gG n) a (k0 + 1))) ∧ va_S (fun z9 => z9 ∈ ((VW cI cJ cO B gG tG kG ik le by_ tk bg en va tn b0 l0 u0 b1 l1 u1 b2 l2 u2 b3 l3 u3 fS cW)).map (fun z8 => z8.1)) s.heap H locs ∧ lv_has ls 4 [(0, .ref (B 0)), (1, .int (nI k0)), (2, .int (nI i)), (3, .int (nI j))]) ?_ (i + 1) ⟨Nat.le_refl _, (by omega), (by rw [hsr]; exact sr2_open (by omega)), hP, hD, hS, lv_sub hl [1, 2, 3, 0] rfl⟩
      rintro j H locs ls ⟨hj, hjn, hsj, hP, hD, hS, hl⟩ ih39
      try dsimp only at ih39 ⊢
      refine lv_iload_n hx hb dX3_clash_39 rfl (lv_at hl 3 rfl) ?_
      refine lv_aload_n hx hb dX3_clash_40 rfl (lv_at hl 0 rfl) ?_
      refine va_get (ci := 3) (v := .ref (B 1)) hx hb hts wx_X3 hown hK hP 0 rfl rfl 0 (by decide) (hts _ wf_X3_10) (fun _ h9 => h9) rfl dX3_clash_41 ?_
      refine va_get (ci := 0) (v := .int (gG 1)) hx hb hts wx_X0 hown hK hP 1 rfl rfl 2 (by decide) (hts _ wf_X3_148) (fun _ h9 => h9) rfl dX3_clash_44 ?_
      refine w_i (z := nI n) (hI.2.1) ?_
      refine lv_icmp_ge (tgt := 72) hx hb dX3_clash_47 rfl (fun c47 => ?_) (fun c47 => ?_)
      · replace c47 := nq_le (a := n) (b := j) (by omega) (by omega) c47
        have hsr2 : sr2 (clB (clA gG n) (k0 + 1)) n n = sr2 (clB (clA gG n) (k0 + 1)) n (n - (i + 1)) := by rw [hsj, show n - j = 0 by omega, sr1]
        refine lv_iinc (v := nI (i + 1)) (lv' := [(2, .int (nI (i + 1))), (0, .ref (B 0)), (1, .int (nI k0)), (3, .int (nI j))]) hx hb dX3_clash_72 hl (k := 2) rfl (nI_inc _) (by decide) rfl (fun ls hl => ?_)
        refine lv_goto (tgt := 24) hx hb dX3_clash_75 rfl ?_
        exact ih24 (i + 1) _ _ ls (by first | omega | (dsimp only; omega)) ⟨(by omega), hsr2, hP, hD, hS, lv_sub hl [1, 2, 0] rfl⟩
      · replace c47 := nq_nle (a := n) (b := j) (by omega) (by omega) c47
        refine lv_aload_n hx hb dX3_clash_50 rfl (lv_at hl 0 rfl) ?_
        refine lv_iload_n hx hb dX3_clash_51 rfl (lv_at hl 2 rfl) ?_
        refine lv_iload_n hx hb dX3_clash_52 rfl (lv_at hl 3 rfl) ?_
        refine ro_V (w := (VW cI cJ cO B gG t9 kG ik le by_ tk bg en va tn b0 l0 u0 b1 l1 u1 b2 l2 u2 b3 l3 u3 fS (fun a => cwF (clA gG n) a (k0 + 1)))) (rest := []) S hK hP (k_X3_wantsClash i j (by omega) (by omega)) gv_X3_162 hd_X3_wantsClash ⟨Nat.le_of_ble_eq_true rfl, Nat.le_of_ble_eq_true rfl⟩ 3 rfl rfl rfl rfl hl.1 (lv_room (Nat.le_of_ble_eq_true rfl)) dX3_clash_53 ⟨Nat.zero_le _, Nat.zero_le _⟩ ?_
        refine w_i (z := b2i ((clB (clA gG n) (k0 + 1)) i j)) (congrArg b2i (cw_clash _ (by omega) (by omega) _)) ?_
        refine lv_if_eq (tgt := 66) hx hb dX3_clash_56 rfl (fun c56 => ?_) (fun c56 => ?_)
        · replace c56 := (b2i_0 _).mp c56
          refine lv_iinc (v := nI (j + 1)) (lv' := [(3, .int (nI (j + 1))), (0, .ref (B 0)), (1, .int (nI k0)), (2, .int (nI i))]) hx hb dX3_clash_66 hl (k := 3) rfl (nI_inc _) (by decide) rfl (fun ls hl => ?_)
          refine lv_goto (tgt := 39) hx hb dX3_clash_69 rfl ?_
          exact ih39 (j + 1) _ _ ls (by first | omega | (dsimp only; omega)) ⟨(by omega), (by omega), (by rw [hsj]; exact sr1_next c56 (by omega)), hP, hD, hS, lv_sub hl [1, 2, 3, 0] rfl⟩
        · replace c56 := b2i_n0 c56
          have hs2 : sr2 (clB (clA gG n) (k0 + 1)) n n = nI (10 * i + j) := by rw [hsj]; exact sr1_here c56 (by omega)
          have hp2 : 0 ≤ nI (10 * i + j) := nI_pos' (by omega)
          refine lv_bipush (v := 10) hx hb dX3_clash_59 rfl ?_
          refine lv_iload_n hx hb dX3_clash_61 rfl (lv_at hl 2 rfl) ?_
          refine lv_imul hx hb dX3_clash_62 ?_
          refine lv_iload_n hx hb dX3_clash_63 rfl (lv_at hl 3 rfl) ?_
          refine lv_iadd hx hb dX3_clash_64 ?_
          refine w_i (z := nI (10 * i + j)) (by show nI 10 * nI i + nI j = _; rw [pk_mul, nI_add]) ?_
          have hE : fS = clashT gG fS n (nI k0) := by simp [clashR, clashT, clashB, bump, put9, b2i, c7, c32, c47, c56, ek0, hs2, hp2, i_lt, -Int32.not_le, -Int32.not_lt]
          have hW : (VW cI cJ cO B gG t9 kG ik le by_ tk bg en va tn b0 l0 u0 b1 l1 u1 b2 l2 u2 b3 l3 u3 fS (fun a => cwF (clA gG n) a (k0 + 1))) = (VW cI cJ cO B gG t9 kG ik le by_ tk bg en va tn b0 l0 u0 b1 l1 u1 b2 l2 u2 b3 l3 u3 (clashT gG fS n (nI k0)) (fun a => cwF (clA gG n) a (k0 + 1))) := congrArg (fun z => (VW cI cJ cO B gG t9 kG ik le by_ tk bg en va tn b0 l0 u0 b1 l1 u1 b2 l2 u2 b3 l3 u3 z (fun a => cwF (clA gG n) a (k0 + 1)))) hE
          have hP : va_P D vwCl (VW cI cJ cO B gG t9 kG ik le by_ tk bg en va tn b0 l0 u0 b1 l1 u1 b2 l2 u2 b3 l3 u3 (clashT gG fS n (nI k0)) (fun a => cwF (clA gG n) a (k0 + 1))) H := Eq.mp (congrArg (fun z => va_P D vwCl z H) hW) hP
          have hD : va_D _ (VW cI cJ cO B gG t9 kG ik le by_ tk bg en va tn b0 l0 u0 b1 l1 u1 b2 l2 u2 b3 l3 u3 (clashT gG fS n (nI k0)) (fun a => cwF (clA gG n) a (k0 + 1))) := Eq.mp (congrArg (fun z => va_D _ z) hW) hD
          exact mu_iret (VW cI cJ cO B gG t9 kG ik le by_ tk bg en va tn b0 l0 u0 b1 l1 u1 b2 l2 u2 b3 l3 u3 (clashT gG fS n (nI k0)) (fun a => cwF (clA gG n) a (k0 + 1))) hx hb hr hlk hP hS rfl (⟨t9, (fun a => cwF (clA gG n) a (k0 + 1)), congrArg (fun z => some (Value.int z)) (by simp [clashR, clashT, clashB, bump, put9, b2i, c7, c32, c47, c56, ek0, hs2, hp2, i_lt, -Int32.not_le, -Int32.not_lt]), rfl⟩) dX3_clash_65
  · replace c7 := bn_n0 c7
    refine lv_aload_n hx hb dX3_clash_10 rfl (lv_at hl 0 rfl) ?_
    refine lv_ldc (v := (-1000000001)) hx hb hown (hts _ wq_X3_51) dX3_clash_11 ?_
    refine mu_W (w := (VW cI cJ cO B gG tG kG ik le by_ tk bg en va tn b0 l0 u0 b1 l1 u1 b2 l2 u2 b3 l3 u3 fS cW)) (rest := []) S hK hP hD hS (k_X3_finding 0 (-1000000001) (by decide) (by decide)) gv_X3_52 hd_X3_finding ⟨Nat.le_of_ble_eq_true rfl, Nat.le_of_ble_eq_true rfl⟩ 3 rfl rfl rfl rfl hl.1 (lv_room (Nat.le_of_ble_eq_true rfl)) dX3_clash_13 ⟨Nat.zero_le _, Nat.zero_le _⟩ (fun ov w' H locs hp hP hD hS => ?_)
    obtain ⟨rfl, rfl⟩ := hp
    refine W.eq (g2 := F0 m 16 ls [.int (-1000000001)]) rfl ?_
    have hE : upd fS 0 (fS 0 + 1) = clashT gG fS n k := by simp [clashR, clashT, clashB, bump, put9, b2i, c7, i_lt, -Int32.not_le, -Int32.not_lt]
    have hW : (VW cI cJ cO B gG tG kG ik le by_ tk bg en va tn b0 l0 u0 b1 l1 u1 b2 l2 u2 b3 l3 u3 (upd fS 0 (fS 0 + 1)) cW) = (VW cI cJ cO B gG tG kG ik le by_ tk bg en va tn b0 l0 u0 b1 l1 u1 b2 l2 u2 b3 l3 u3 (clashT gG fS n k) cW) := congrArg (fun z => (VW cI cJ cO B gG tG kG ik le by_ tk bg en va tn b0 l0 u0 b1 l1 u1 b2 l2 u2 b3 l3 u3 z cW)) hE
    have hP : va_P D vwCl (VW cI cJ cO B gG tG kG ik le by_ tk bg en va tn b0 l0 u0 b1 l1 u1 b2 l2 u2 b3 l3 u3 (clashT gG fS n k) cW) H := Eq.mp (congrArg (fun z => va_P D vwCl z H) hW) hP
    have hD : va_D _ (VW cI cJ cO B gG tG kG ik le by_ tk bg en va tn b0 l0 u0 b1 l1 u1 b2 l2 u2 b3 l3 u3 (clashT gG fS n k) cW) := Eq.mp (congrArg (fun z => va_D _ z) hW) hD
    exact mu_iret (VW cI cJ cO B gG tG kG ik le by_ tk bg en va tn b0 l0 u0 b1 l1 u1 b2 l2 u2 b3 l3 u3 (clashT gG fS n k) cW) hx hb hr hlk hP hS rfl (⟨tG, cW, congrArg (fun z => some (Value.int z)) (by simp [clashR, clashT, clashB, bump, put9, b2i, c7, i_lt, -Int32.not_le, -Int32.not_lt]), rfl⟩) dX3_clash_16

end
