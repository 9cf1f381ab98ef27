theorem lack_t {z a k : Int32} (h : lackS z a k = true) : 0 ≤ a ∧ 0 ≤ k ∧ a ≤ z ∧ k ≤ z - a := by
  unfold lackS at h
  simp only [Bool.and_eq_true, decide_eq_true_eq] at h
  exact ⟨h.1.1.1, h.1.1.2, h.1.2, h.2⟩
theorem cp_in2 {sO : Nat → Int32} {x y : Nat} {a b k : Int32} (h : ShI sO) (hx : x < 4) (hy : y < 4) (h1 : lackS (sO x) a k = true) (h2 : lackS (sO y) b k = true) : ∃ a0 b0 k0 : Nat, a = nI a0 ∧ b = nI b0 ∧ k = nI k0 ∧ a0 + k0 ≤ 40 ∧ b0 + k0 ≤ 40 ∧ (0 ≤ a ∧ 0 ≤ b ∧ 0 ≤ k ∧ k ≤ sO x - a ∧ k ≤ sO y - b) := by
  obtain ⟨p1, p2, -, p4⟩ := lack_t h1
  obtain ⟨q1, -, -, q4⟩ := lack_t h2
  obtain ⟨a0, b0, k0, e1, e2, e3, e4, e5⟩ := cp_in h hx hy p1 q1 p2 p4 q4
  exact ⟨a0, b0, k0, e1, e2, e3, e4, e5, p1, q1, p2, p4, q4⟩
theorem lack_of {sO : Nat → Int32} {x : Nat} {a k : Int32} (h : ShI sO) (hx : x < 4) (h1 : 0 ≤ a) (h2 : 0 ≤ k) (h3 : k ≤ sO x - a) : lackS (sO x) a k = true := by
  have g := h x hx
  have ra := a.toInt_lt
  have e0 : (0 : Int32).toInt = 0 := by decide
  unfold rng at g
  have hs : (sO x - a).toInt = (sO x).toInt - a.toInt := by
    rw [le_I, e0] at h1
    exact sub_I (by omega) (by omega)
  unfold lackS
  simp only [Bool.and_eq_true, decide_eq_true_eq]
  refine ⟨⟨⟨h1, h2⟩, ?_⟩, h3⟩
  rw [le_I, hs] at h3
  rw [le_I, e0] at h2
  rw [le_I]
  omega
theorem cp_no {sO : Nat → Int32} {x : Nat} {a b k z : Int32} (h : ShI sO) (hx : x < 4) (h1 : lackS (sO x) a k = false) : ¬ (0 ≤ a ∧ 0 ≤ b ∧ 0 ≤ k ∧ k ≤ sO x - a ∧ k ≤ z - b) := fun q => absurd ((lack_of h hx q.1 q.2.2.1 q.2.2.2.1).symm.trans h1) (by decide)
theorem cp_no2 {sO : Nat → Int32} {x y : Nat} {a b k : Int32} (h : ShI sO) (hy : y < 4) (h1 : lackS (sO y) b k = false) : ¬ (0 ≤ a ∧ 0 ≤ b ∧ 0 ≤ k ∧ k ≤ sO x - a ∧ k ≤ sO y - b) := fun q => absurd ((lack_of h hy q.2.1 q.2.2.1 q.2.2.2.2).symm.trans h1) (by decide)
section
variable {l : Launch} {D : va_G} {cI cJ cO : ClassId} {B : Nat → Nat} {gG tG kG : Nat → Int32} {ik le : Int32} {by_ : Nat → Int32} {tk bg en va tn : Int32} {bO sO : Nat → Int32} {nU : Nat → Int64} {fS cW : Nat → Int32}

set_option maxHeartbeats 4000000 in
set_option maxRecDepth 100000 in
theorem k_X3_copy (x : Int32) (a : Int32) (y : Int32) (b : Int32) (k : Int32) (hSh : ShI sO) : MU l D (tyA cI cJ cO) yX3_copy cX3_copy 8 ((some .int)) 2 43 [.ref (B 0), .int x, .int a, .int y, .int b, .int k] (VX cI cJ cO B gG tG kG ik le by_ tk bg en va tn bO sO nU fS cW) (fun ov w' => ov = some (.int (cpR (cpW bO sO x a y b k) k)) ∧ w' = (VX cI cJ cO B gG tG kG ik le by_ tk bg en va tn bO sO (cpU nU (cpW bO sO x a y b k) x a y b k) (cpT fS (cpW bO sO x a y b k)) cW)) := by
  refine MU.mk (by decide) (Nat.le_of_ble_eq_true rfl) ?_
  intro p e s m below meth c ls S hr hlk hP hK hD hS hl
  have S : CallFix p m c cX3_copy 8 s _ WL RX3 := S
  obtain ⟨hx, hb, hml, hown, hts⟩ := id S
  have hl : lv_has ls 8 [(0, .ref (B 0)), (1, .int x), (2, .int a), (3, .int y), (4, .int b), (5, .int k)] := hl
  refine lv_aload_n hx hb dX3_copy_0 rfl (lv_at hl 0 rfl) ?_
  refine lv_iload_n hx hb dX3_copy_1 rfl (lv_at hl 1 rfl) ?_
  rcases sh_c x with hnx | ⟨x0, hx0, rfl⟩
  · refine ro_V (w := (VX cI cJ cO B gG tG kG ik le by_ tk bg en va tn bO sO nU fS cW)) (rest := []) S hK hP (k_X3_sheetAt_no x hnx) gv_X3_175 hd_X3_sheetAt ⟨Nat.le_of_ble_eq_true rfl, Nat.le_of_ble_eq_true rfl⟩ 3 rfl rfl rfl rfl hl.1 (lv_room (Nat.le_of_ble_eq_true rfl)) dX3_copy_2 ⟨Nat.zero_le _, Nat.zero_le _⟩ ?_
    refine W.eq (g2 := F0 m 5 ls [.null]) rfl ?_
    refine lv_astoreN (lv' := [(6, .null), (0, .ref (B 0)), (1, .int x), (2, .int a), (3, .int y), (4, .int b), (5, .int k)]) hx hb dX3_copy_5 hl (by decide) rfl (fun ls hl => ?_)
    refine lv_aload_n hx hb dX3_copy_7 rfl (lv_at hl 1 rfl) ?_
    refine lv_iload_n hx hb dX3_copy_8 rfl (lv_at hl 4 rfl) ?_
    rcases sh_c y with hny | ⟨y0, hy0, rfl⟩
    · refine ro_V (w := (VX cI cJ cO B gG tG kG ik le by_ tk bg en va tn bO sO nU fS cW)) (rest := []) S hK hP (k_X3_sheetAt_no y hny) gv_X3_175 hd_X3_sheetAt ⟨Nat.le_of_ble_eq_true rfl, Nat.le_of_ble_eq_true rfl⟩ 3 rfl rfl rfl rfl hl.1 (lv_room (Nat.le_of_ble_eq_true rfl)) dX3_copy_9 ⟨Nat.zero_le _, Nat.zero_le _⟩ ?_
      refine W.eq (g2 := F0 m 12 ls [.null]) rfl ?_
      refine lv_astoreN (lv' := [(7, .null), (6, .null), (0, .ref (B 0)), (1, .int x), (2, .int a), (3, .int y), (4, .int b), (5, .int k)]) hx hb dX3_copy_12 hl (by decide) rfl (fun ls hl => ?_)
      refine lv_aloadN hx hb dX3_copy_14 (lv_at hl 1 rfl) ?_
      refine lv_ifnullN (tgt := 24) hx hb dX3_copy_16 rfl ?_
      refine lv_aload_n hx hb dX3_copy_24 rfl (lv_at hl 2 rfl) ?_
      refine lv_ldc (v := (-1000000001)) hx hb hown (hts _ wq_X3_51) dX3_copy_25 ?_
      refine mu_W (w := (VX cI cJ cO B gG tG kG ik le by_ tk bg en va tn bO sO nU fS cW)) (rest := []) S hK hP hD hS (k_X3_finding 0 (-1000000001) (by decide) (by decide)) gv_X3_52 hd_X3_finding ⟨Nat.le_of_ble_eq_true rfl, Nat.le_of_ble_eq_true rfl⟩ 3 rfl rfl rfl rfl hl.1 (lv_room (Nat.le_of_ble_eq_true rfl)) dX3_copy_27 ⟨Nat.zero_le _, Nat.zero_le _⟩ (fun ov w' H locs hp hP hD hS => ?_)
      obtain ⟨rfl, rfl⟩ := hp
      have hP : va_P D vwCl (VX cI cJ cO B gG tG kG ik le by_ tk bg en va tn bO sO nU (upd fS 0 (fS 0 + 1)) cW) H := hP
      have hD : va_D _ (VX cI cJ cO B gG tG kG ik le by_ tk bg en va tn bO sO nU (upd fS 0 (fS 0 + 1)) cW) := hD
      refine W.eq (g2 := F0 m 30 ls [.int (-1000000001)]) rfl ?_
      have hE : upd fS 0 (fS 0 + 1) = cpT fS (cpW bO sO x a y b k) := by simp [cpR, cpT, cpU, cpW, bump, put9, b2i, hnx, hny, i_lt, -Int32.not_le, -Int32.not_lt]
      have hW : (VX cI cJ cO B gG tG kG ik le by_ tk bg en va tn bO sO nU (upd fS 0 (fS 0 + 1)) cW) = (VX cI cJ cO B gG tG kG ik le by_ tk bg en va tn bO sO nU (cpT fS (cpW bO sO x a y b k)) cW) := congrArg (fun z => (VX cI cJ cO B gG tG kG ik le by_ tk bg en va tn bO sO nU z cW)) hE
      have hP : va_P D vwCl (VX cI cJ cO B gG tG kG ik le by_ tk bg en va tn bO sO nU (cpT fS (cpW bO sO x a y b k)) cW) H := Eq.mp (congrArg (fun z => va_P D vwCl z H) hW) hP
      have hD : va_D _ (VX cI cJ cO B gG tG kG ik le by_ tk bg en va tn bO sO nU (cpT fS (cpW bO sO x a y b k)) cW) := Eq.mp (congrArg (fun z => va_D _ z) hW) hD
      have hE : nU = cpU nU (cpW bO sO x a y b k) x a y b k := by simp [cpR, cpT, cpU, cpW, bump, put9, b2i, hnx, hny, i_lt, -Int32.not_le, -Int32.not_lt]
      have hW : (VX cI cJ cO B gG tG kG ik le by_ tk bg en va tn bO sO nU (cpT fS (cpW bO sO x a y b k)) cW) = (VX cI cJ cO B gG tG kG ik le by_ tk bg en va tn bO sO (cpU nU (cpW bO sO x a y b k) x a y b k) (cpT fS (cpW bO sO x a y b k)) cW) := congrArg (fun z => (VX cI cJ cO B gG tG kG ik le by_ tk bg en va tn bO sO z (cpT fS (cpW bO sO x a y b k)) cW)) hE
      have hP : va_P D vwCl (VX cI cJ cO B gG tG kG ik le by_ tk bg en va tn bO sO (cpU nU (cpW bO sO x a y b k) x a y b k) (cpT fS (cpW bO sO x a y b k)) cW) H := Eq.mp (congrArg (fun z => va_P D vwCl z H) hW) hP
      have hD : va_D _ (VX cI cJ cO B gG tG kG ik le by_ tk bg en va tn bO sO (cpU nU (cpW bO sO x a y b k) x a y b k) (cpT fS (cpW bO sO x a y b k)) cW) := Eq.mp (congrArg (fun z => va_D _ z) hW) hD
      exact mu_iret (VX cI cJ cO B gG tG kG ik le by_ tk bg en va tn bO sO (cpU nU (cpW bO sO x a y b k) x a y b k) (cpT fS (cpW bO sO x a y b k)) cW) hx hb hr hlk hP hS rfl (⟨congrArg (fun z => some (Value.int z)) (by simp [cpR, cpT, cpU, cpW, bump, put9, b2i, hnx, hny, i_lt, -Int32.not_le, -Int32.not_lt]), rfl⟩) dX3_copy_30
    · have yy0 : inI (nI y0) 0 3 = true := sh_y hy0
      have ey0 : cl (nI y0) = y0 := cl_nI (by omega)
      refine ro_V (w := (VX cI cJ cO B gG tG kG ik le by_ tk bg en va tn bO sO nU fS cW)) (rest := []) S hK hP (k_X3_sheetAt_k y0 (by omega)) gv_X3_175 hd_X3_sheetAt ⟨Nat.le_of_ble_eq_true rfl, Nat.le_of_ble_eq_true rfl⟩ 3 rfl rfl rfl rfl hl.1 (lv_room (Nat.le_of_ble_eq_true rfl)) dX3_copy_9 ⟨Nat.zero_le _, Nat.zero_le _⟩ ?_
      refine W.eq (g2 := F0 m 12 ls [.ref (B (10 + 2 * y0))]) rfl ?_
      refine lv_astore (lv' := [(7, .ref (B (10 + 2 * y0))), (6, .null), (0, .ref (B 0)), (1, .int x), (2, .int a), (3, .int (nI y0)), (4, .int b), (5, .int k)]) hx hb dX3_copy_12 hl (by decide) rfl (fun ls hl => ?_)
      refine lv_aloadN hx hb dX3_copy_14 (lv_at hl 1 rfl) ?_
      refine lv_ifnullN (tgt := 24) hx hb dX3_copy_16 rfl ?_
      refine lv_aload_n hx hb dX3_copy_24 rfl (lv_at hl 2 rfl) ?_
      refine lv_ldc (v := (-1000000001)) hx hb hown (hts _ wq_X3_51) dX3_copy_25 ?_
      refine mu_W (w := (VX cI cJ cO B gG tG kG ik le by_ tk bg en va tn bO sO nU fS cW)) (rest := []) S hK hP hD hS (k_X3_finding 0 (-1000000001) (by decide) (by decide)) gv_X3_52 hd_X3_finding ⟨Nat.le_of_ble_eq_true rfl, Nat.le_of_ble_eq_true rfl⟩ 3 rfl rfl rfl rfl hl.1 (lv_room (Nat.le_of_ble_eq_true rfl)) dX3_copy_27 ⟨Nat.zero_le _, Nat.zero_le _⟩ (fun ov w' H locs hp hP hD hS => ?_)
      obtain ⟨rfl, rfl⟩ := hp
      have hP : va_P D vwCl (VX cI cJ cO B gG tG kG ik le by_ tk bg en va tn bO sO nU (upd fS 0 (fS 0 + 1)) cW) H := hP
      have hD : va_D _ (VX cI cJ cO B gG tG kG ik le by_ tk bg en va tn bO sO nU (upd fS 0 (fS 0 + 1)) cW) := hD
      refine W.eq (g2 := F0 m 30 ls [.int (-1000000001)]) rfl ?_
      have hE : upd fS 0 (fS 0 + 1) = cpT fS (cpW bO sO x a (nI y0) b k) := by simp [cpR, cpT, cpU, cpW, bump, put9, b2i, hnx, yy0, ey0, i_lt, -Int32.not_le, -Int32.not_lt]
      have hW : (VX cI cJ cO B gG tG kG ik le by_ tk bg en va tn bO sO nU (upd fS 0 (fS 0 + 1)) cW) = (VX cI cJ cO B gG tG kG ik le by_ tk bg en va tn bO sO nU (cpT fS (cpW bO sO x a (nI y0) b k)) cW) := congrArg (fun z => (VX cI cJ cO B gG tG kG ik le by_ tk bg en va tn bO sO nU z cW)) hE
      have hP : va_P D vwCl (VX cI cJ cO B gG tG kG ik le by_ tk bg en va tn bO sO nU (cpT fS (cpW bO sO x a (nI y0) b k)) cW) H := Eq.mp (congrArg (fun z => va_P D vwCl z H) hW) hP
      have hD : va_D _ (VX cI cJ cO B gG tG kG ik le by_ tk bg en va tn bO sO nU (cpT fS (cpW bO sO x a (nI y0) b k)) cW) := Eq.mp (congrArg (fun z => va_D _ z) hW) hD
      have hE : nU = cpU nU (cpW bO sO x a (nI y0) b k) x a (nI y0) b k := by simp [cpR, cpT, cpU, cpW, bump, put9, b2i, hnx, yy0, ey0, i_lt, -Int32.not_le, -Int32.not_lt]
      have hW : (VX cI cJ cO B gG tG kG ik le by_ tk bg en va tn bO sO nU (cpT fS (cpW bO sO x a (nI y0) b k)) cW) = (VX cI cJ cO B gG tG kG ik le by_ tk bg en va tn bO sO (cpU nU (cpW bO sO x a (nI y0) b k) x a (nI y0) b k) (cpT fS (cpW bO sO x a (nI y0) b k)) cW) := congrArg (fun z => (VX cI cJ cO B gG tG kG ik le by_ tk bg en va tn bO sO z (cpT fS (cpW bO sO x a (nI y0) b k)) cW)) hE
      have hP : va_P D vwCl (VX cI cJ cO B gG tG kG ik le by_ tk bg en va tn bO sO (cpU nU (cpW bO sO x a (nI y0) b k) x a (nI y0) b k) (cpT fS (cpW bO sO x a (nI y0) b k)) cW) H := Eq.mp (congrArg (fun z => va_P D vwCl z H) hW) hP
      have hD : va_D _ (VX cI cJ cO B gG tG kG ik le by_ tk bg en va tn bO sO (cpU nU (cpW bO sO x a (nI y0) b k) x a (nI y0) b k) (cpT fS (cpW bO sO x a (nI y0) b k)) cW) := Eq.mp (congrArg (fun z => va_D _ z) hW) hD
      exact mu_iret (VX cI cJ cO B gG tG kG ik le by_ tk bg en va tn bO sO (cpU nU (cpW bO sO x a (nI y0) b k) x a (nI y0) b k) (cpT fS (cpW bO sO x a (nI y0) b k)) cW) hx hb hr hlk hP hS rfl (⟨congrArg (fun z => some (Value.int z)) (by simp [cpR, cpT, cpU, cpW, bump, put9, b2i, hnx, yy0, ey0, i_lt, -Int32.not_le, -Int32.not_lt]), rfl⟩) dX3_copy_30
  · have yx0 : inI (nI x0) 0 3 = true := sh_y hx0
    have ex0 : cl (nI x0) = x0 := cl_nI (by omega)
    refine ro_V (w := (VX cI cJ cO B gG tG kG ik le by_ tk bg en va tn bO sO nU fS cW)) (rest := []) S hK hP (k_X3_sheetAt_k x0 (by omega)) gv_X3_175 hd_X3_sheetAt ⟨Nat.le_of_ble_eq_true rfl, Nat.le_of_ble_eq_true rfl⟩ 3 rfl rfl rfl rfl hl.1 (lv_room (Nat.le_of_ble_eq_true rfl)) dX3_copy_2 ⟨Nat.zero_le _, Nat.zero_le _⟩ ?_
    refine W.eq (g2 := F0 m 5 ls [.ref (B (10 + 2 * x0))]) rfl ?_
    refine lv_astore (lv' := [(6, .ref (B (10 + 2 * x0))), (0, .ref (B 0)), (1, .int (nI x0)), (2, .int a), (3, .int y), (4, .int b), (5, .int k)]) hx hb dX3_copy_5 hl (by decide) rfl (fun ls hl => ?_)
    refine lv_aload_n hx hb dX3_copy_7 rfl (lv_at hl 1 rfl) ?_
    refine lv_iload_n hx hb dX3_copy_8 rfl (lv_at hl 4 rfl) ?_
    rcases sh_c y with hny | ⟨y0, hy0, rfl⟩
    · refine ro_V (w := (VX cI cJ cO B gG tG kG ik le by_ tk bg en va tn bO sO nU fS cW)) (rest := []) S hK hP (k_X3_sheetAt_no y hny) gv_X3_175 hd_X3_sheetAt ⟨Nat.le_of_ble_eq_true rfl, Nat.le_of_ble_eq_true rfl⟩ 3 rfl rfl rfl rfl hl.1 (lv_room (Nat.le_of_ble_eq_true rfl)) dX3_copy_9 ⟨Nat.zero_le _, Nat.zero_le _⟩ ?_
      refine W.eq (g2 := F0 m 12 ls [.null]) rfl ?_
      refine lv_astoreN (lv' := [(7, .null), (6, .ref (B (10 + 2 * x0))), (0, .ref (B 0)), (1, .int (nI x0)), (2, .int a), (3, .int y), (4, .int b), (5, .int k)]) hx hb dX3_copy_12 hl (by decide) rfl (fun ls hl => ?_)
      refine lv_aload hx hb dX3_copy_14 (lv_at hl 1 rfl) ?_
      refine lv_ifnull hx hb dX3_copy_16 ?_
      refine lv_aloadN hx hb dX3_copy_19 (lv_at hl 0 rfl) ?_
      refine lv_ifnonnullN hx hb dX3_copy_21 ?_
      refine lv_aload_n hx hb dX3_copy_24 rfl (lv_at hl 2 rfl) ?_
      refine lv_ldc (v := (-1000000001)) hx hb hown (hts _ wq_X3_51) dX3_copy_25 ?_
      refine mu_W (w := (VX cI cJ cO B gG tG kG ik le by_ tk bg en va tn bO sO nU fS cW)) (rest := []) S hK hP hD hS (k_X3_finding 0 (-1000000001) (by decide) (by decide)) gv_X3_52 hd_X3_finding ⟨Nat.le_of_ble_eq_true rfl, Nat.le_of_ble_eq_true rfl⟩ 3 rfl rfl rfl rfl hl.1 (lv_room (Nat.le_of_ble_eq_true rfl)) dX3_copy_27 ⟨Nat.zero_le _, Nat.zero_le _⟩ (fun ov w' H locs hp hP hD hS => ?_)
      obtain ⟨rfl, rfl⟩ := hp
      have hP : va_P D vwCl (VX cI cJ cO B gG tG kG ik le by_ tk bg en va tn bO sO nU (upd fS 0 (fS 0 + 1)) cW) H := hP
      have hD : va_D _ (VX cI cJ cO B gG tG kG ik le by_ tk bg en va tn bO sO nU (upd fS 0 (fS 0 + 1)) cW) := hD
      refine W.eq (g2 := F0 m 30 ls [.int (-1000000001)]) rfl ?_
      have hE : upd fS 0 (fS 0 + 1) = cpT fS (cpW bO sO (nI x0) a y b k) := by simp [cpR, cpT, cpU, cpW, bump, put9, b2i, yx0, ex0, hny, i_lt, -Int32.not_le, -Int32.not_lt]
      have hW : (VX cI cJ cO B gG tG kG ik le by_ tk bg en va tn bO sO nU (upd fS 0 (fS 0 + 1)) cW) = (VX cI cJ cO B gG tG kG ik le by_ tk bg en va tn bO sO nU (cpT fS (cpW bO sO (nI x0) a y b k)) cW) := congrArg (fun z => (VX cI cJ cO B gG tG kG ik le by_ tk bg en va tn bO sO nU z cW)) hE
      have hP : va_P D vwCl (VX cI cJ cO B gG tG kG ik le by_ tk bg en va tn bO sO nU (cpT fS (cpW bO sO (nI x0) a y b k)) cW) H := Eq.mp (congrArg (fun z => va_P D vwCl z H) hW) hP
      have hD : va_D _ (VX cI cJ cO B gG tG kG ik le by_ tk bg en va tn bO sO nU (cpT fS (cpW bO sO (nI x0) a y b k)) cW) := Eq.mp (congrArg (fun z => va_D _ z) hW) hD
      have hE : nU = cpU nU (cpW bO sO (nI x0) a y b k) (nI x0) a y b k := by simp [cpR, cpT, cpU, cpW, bump, put9, b2i, yx0, ex0, hny, i_lt, -Int32.not_le, -Int32.not_lt]
      have hW : (VX cI cJ cO B gG tG kG ik le by_ tk bg en va tn bO sO nU (cpT fS (cpW bO sO (nI x0) a y b k)) cW) = (VX cI cJ cO B gG tG kG ik le by_ tk bg en va tn bO sO (cpU nU (cpW bO sO (nI x0) a y b k) (nI x0) a y b k) (cpT fS (cpW bO sO (nI x0) a y b k)) cW) := congrArg (fun z => (VX cI cJ cO B gG tG kG ik le by_ tk bg en va tn bO sO z (cpT fS (cpW bO sO (nI x0) a y b k)) cW)) hE
      have hP : va_P D vwCl (VX cI cJ cO B gG tG kG ik le by_ tk bg en va tn bO sO (cpU nU (cpW bO sO (nI x0) a y b k) (nI x0) a y b k) (cpT fS (cpW bO sO (nI x0) a y b k)) cW) H := Eq.mp (congrArg (fun z => va_P D vwCl z H) hW) hP
      have hD : va_D _ (VX cI cJ cO B gG tG kG ik le by_ tk bg en va tn bO sO (cpU nU (cpW bO sO (nI x0) a y b k) (nI x0) a y b k) (cpT fS (cpW bO sO (nI x0) a y b k)) cW) := Eq.mp (congrArg (fun z => va_D _ z) hW) hD
      exact mu_iret (VX cI cJ cO B gG tG kG ik le by_ tk bg en va tn bO sO (cpU nU (cpW bO sO (nI x0) a y b k) (nI x0) a y b k) (cpT fS (cpW bO sO (nI x0) a y b k)) cW) hx hb hr hlk hP hS rfl (⟨congrArg (fun z => some (Value.int z)) (by simp [cpR, cpT, cpU, cpW, bump, put9, b2i, yx0, ex0, hny, i_lt, -Int32.not_le, -Int32.not_lt]), rfl⟩) dX3_copy_30
    · have yy0 : inI (nI y0) 0 3 = true := sh_y hy0
      have ey0 : cl (nI y0) = y0 := cl_nI (by omega)
      refine ro_V (w := (VX cI cJ cO B gG tG kG ik le by_ tk bg en va tn bO sO nU fS cW)) (rest := []) S hK hP (k_X3_sheetAt_k y0 (by omega)) gv_X3_175 hd_X3_sheetAt ⟨Nat.le_of_ble_eq_true rfl, Nat.le_of_ble_eq_true rfl⟩ 3 rfl rfl rfl rfl hl.1 (lv_room (Nat.le_of_ble_eq_true rfl)) dX3_copy_9 ⟨Nat.zero_le _, Nat.zero_le _⟩ ?_
      refine W.eq (g2 := F0 m 12 ls [.ref (B (10 + 2 * y0))]) rfl ?_
      refine lv_astore (lv' := [(7, .ref (B (10 + 2 * y0))), (6, .ref (B (10 + 2 * x0))), (0, .ref (B 0)), (1, .int (nI x0)), (2, .int a), (3, .int (nI y0)), (4, .int b), (5, .int k)]) hx hb dX3_copy_12 hl (by decide) rfl (fun ls hl => ?_)
      refine lv_aload hx hb dX3_copy_14 (lv_at hl 1 rfl) ?_
      refine lv_ifnull hx hb dX3_copy_16 ?_
      refine lv_aload hx hb dX3_copy_19 (lv_at hl 0 rfl) ?_
      refine lv_ifnonnull (tgt := 31) hx hb dX3_copy_21 rfl ?_
      refine lv_aload hx hb dX3_copy_31 (lv_at hl 1 rfl) ?_
      refine ro_V (w := (SW cJ (B (10 + 2 * x0)) (B (11 + 2 * x0)) (bO x0) (sO x0) (fun z7 => nU (40 * x0 + z7)))) (rest := []) S hK (vx_sub hP (k := x0) (by omega) (rfl)) (k_X1_isMissing ) gv_X3_185 hd_X1_isMissing ⟨Nat.le_of_ble_eq_true rfl, Nat.le_of_ble_eq_true rfl⟩ 1 rfl rfl rfl rfl hl.1 (lv_room (Nat.le_of_ble_eq_true rfl)) dX3_copy_33 ⟨Nat.zero_le _, Nat.zero_le _⟩ ?_
      refine lv_if_ne (tgt := 47) hx hb dX3_copy_36 rfl (fun c36 => ?_) (fun c36 => ?_)
      · replace c36 := b2i_n0 c36
        replace c36 := of_decide_eq_true c36
        refine lv_aload_n hx hb dX3_copy_47 rfl (lv_at hl 2 rfl) ?_
        refine lv_ldc (v := (-1000000006)) hx hb hown (hts _ wq_X3_188) dX3_copy_48 ?_
        refine mu_W (w := (VX cI cJ cO B gG tG kG ik le by_ tk bg en va tn bO sO nU fS cW)) (rest := []) S hK hP hD hS (k_X3_finding 5 (-1000000006) (by decide) (by decide)) gv_X3_52 hd_X3_finding ⟨Nat.le_of_ble_eq_true rfl, Nat.le_of_ble_eq_true rfl⟩ 3 rfl rfl rfl rfl hl.1 (lv_room (Nat.le_of_ble_eq_true rfl)) dX3_copy_50 ⟨Nat.zero_le _, Nat.zero_le _⟩ (fun ov w' H locs hp hP hD hS => ?_)
        obtain ⟨rfl, rfl⟩ := hp
        have hP : va_P D vwCl (VX cI cJ cO B gG tG kG ik le by_ tk bg en va tn bO sO nU (upd fS 5 (fS 5 + 1)) cW) H := hP
        have hD : va_D _ (VX cI cJ cO B gG tG kG ik le by_ tk bg en va tn bO sO nU (upd fS 5 (fS 5 + 1)) cW) := hD
        refine W.eq (g2 := F0 m 53 ls [.int (-1000000006)]) rfl ?_
        have hE : upd fS 5 (fS 5 + 1) = cpT fS (cpW bO sO (nI x0) a (nI y0) b k) := by simp [cpR, cpT, cpU, cpW, bump, put9, b2i, c36, yx0, ex0, yy0, ey0, i_lt, -Int32.not_le, -Int32.not_lt]
        have hW : (VX cI cJ cO B gG tG kG ik le by_ tk bg en va tn bO sO nU (upd fS 5 (fS 5 + 1)) cW) = (VX cI cJ cO B gG tG kG ik le by_ tk bg en va tn bO sO nU (cpT fS (cpW bO sO (nI x0) a (nI y0) b k)) cW) := congrArg (fun z => (VX cI cJ cO B gG tG kG ik le by_ tk bg en va tn bO sO nU z cW)) hE
        have hP : va_P D vwCl (VX cI cJ cO B gG tG kG ik le by_ tk bg en va tn bO sO nU (cpT fS (cpW bO sO (nI x0) a (nI y0) b k)) cW) H := Eq.mp (congrArg (fun z => va_P D vwCl z H) hW) hP
        have hD : va_D _ (VX cI cJ cO B gG tG kG ik le by_ tk bg en va tn bO sO nU (cpT fS (cpW bO sO (nI x0) a (nI y0) b k)) cW) := Eq.mp (congrArg (fun z => va_D _ z) hW) hD
        have hE : nU = cpU nU (cpW bO sO (nI x0) a (nI y0) b k) (nI x0) a (nI y0) b k := by simp [cpR, cpT, cpU, cpW, bump, put9, b2i, c36, yx0, ex0, yy0, ey0, i_lt, -Int32.not_le, -Int32.not_lt]
        have hW : (VX cI cJ cO B gG tG kG ik le by_ tk bg en va tn bO sO nU (cpT fS (cpW bO sO (nI x0) a (nI y0) b k)) cW) = (VX cI cJ cO B gG tG kG ik le by_ tk bg en va tn bO sO (cpU nU (cpW bO sO (nI x0) a (nI y0) b k) (nI x0) a (nI y0) b k) (cpT fS (cpW bO sO (nI x0) a (nI y0) b k)) cW) := congrArg (fun z => (VX cI cJ cO B gG tG kG ik le by_ tk bg en va tn bO sO z (cpT fS (cpW bO sO (nI x0) a (nI y0) b k)) cW)) hE
        have hP : va_P D vwCl (VX cI cJ cO B gG tG kG ik le by_ tk bg en va tn bO sO (cpU nU (cpW bO sO (nI x0) a (nI y0) b k) (nI x0) a (nI y0) b k) (cpT fS (cpW bO sO (nI x0) a (nI y0) b k)) cW) H := Eq.mp (congrArg (fun z => va_P D vwCl z H) hW) hP
        have hD : va_D _ (VX cI cJ cO B gG tG kG ik le by_ tk bg en va tn bO sO (cpU nU (cpW bO sO (nI x0) a (nI y0) b k) (nI x0) a (nI y0) b k) (cpT fS (cpW bO sO (nI x0) a (nI y0) b k)) cW) := Eq.mp (congrArg (fun z => va_D _ z) hW) hD
        exact mu_iret (VX cI cJ cO B gG tG kG ik le by_ tk bg en va tn bO sO (cpU nU (cpW bO sO (nI x0) a (nI y0) b k) (nI x0) a (nI y0) b k) (cpT fS (cpW bO sO (nI x0) a (nI y0) b k)) cW) hx hb hr hlk hP hS rfl (⟨congrArg (fun z => some (Value.int z)) (by simp [cpR, cpT, cpU, cpW, bump, put9, b2i, c36, yx0, ex0, yy0, ey0, i_lt, -Int32.not_le, -Int32.not_lt]), rfl⟩) dX3_copy_53
      · replace c36 := (b2i_0 _).mp c36
        replace c36 := of_decide_eq_false c36
        refine lv_aload hx hb dX3_copy_39 (lv_at hl 0 rfl) ?_
        refine ro_V (w := (SW cJ (B (10 + 2 * y0)) (B (11 + 2 * y0)) (bO y0) (sO y0) (fun z7 => nU (40 * y0 + z7)))) (rest := []) S hK (vx_sub hP (k := y0) (by omega) (rfl)) (k_X1_isMissing ) gv_X3_185 hd_X1_isMissing ⟨Nat.le_of_ble_eq_true rfl, Nat.le_of_ble_eq_true rfl⟩ 1 rfl rfl rfl rfl hl.1 (lv_room (Nat.le_of_ble_eq_true rfl)) dX3_copy_41 ⟨Nat.zero_le _, Nat.zero_le _⟩ ?_
        refine lv_if_eq (tgt := 54) hx hb dX3_copy_44 rfl (fun c44 => ?_) (fun c44 => ?_)
        · replace c44 := (b2i_0 _).mp c44
          replace c44 := of_decide_eq_false c44
          refine lv_aload hx hb dX3_copy_54 (lv_at hl 1 rfl) ?_
          refine va_get (ci := 1) (v := .int (bO x0)) hx hb hts wx_X1 hown hK (vx_sub hP (k := x0) (by omega) (rfl)) 0 rfl rfl 0 (by decide) (hts _ wf_X3_195) (fun _ h9 => h9) rfl dX3_copy_56 ?_
          refine lv_aload hx hb dX3_copy_59 (lv_at hl 0 rfl) ?_
          refine va_get (ci := 1) (v := .int (bO y0)) hx hb hts wx_X1 hown hK (vx_sub hP (k := y0) (by omega) (rfl)) 0 rfl rfl 0 (by decide) (hts _ wf_X3_195) (fun _ h9 => h9) rfl dX3_copy_61 ?_
          refine lv_icmp_eq (tgt := 74) hx hb dX3_copy_64 rfl (fun c64 => ?_) (fun c64 => ?_)
          · refine lv_aload hx hb dX3_copy_74 (lv_at hl 1 rfl) ?_
            refine lv_iload_n hx hb dX3_copy_76 rfl (lv_at hl 4 rfl) ?_
            refine lv_iload hx hb dX3_copy_77 (lv_at hl 7 rfl) ?_
            refine ro_V (w := (SW cJ (B (10 + 2 * x0)) (B (11 + 2 * x0)) (bO x0) (sO x0) (fun z7 => nU (40 * x0 + z7)))) (rest := []) S hK (vx_sub hP (k := x0) (by omega) (rfl)) (k_X1_lacks a k) gv_X3_198 hd_X1_lacks ⟨Nat.le_of_ble_eq_true rfl, Nat.le_of_ble_eq_true rfl⟩ 1 rfl rfl rfl rfl hl.1 (lv_room (Nat.le_of_ble_eq_true rfl)) dX3_copy_79 ⟨Nat.zero_le _, Nat.zero_le _⟩ ?_
            refine lv_if_ne (tgt := 97) hx hb dX3_copy_82 rfl (fun c82 => ?_) (fun c82 => ?_)
            · replace c82 := bn_n0 c82
              have hok := cp_no (b := b) (z := sO y0) hSh hx0 c82
              refine lv_aload_n hx hb dX3_copy_97 rfl (lv_at hl 2 rfl) ?_
              refine lv_ldc (v := (-1000000001)) hx hb hown (hts _ wq_X3_51) dX3_copy_98 ?_
              refine mu_W (w := (VX cI cJ cO B gG tG kG ik le by_ tk bg en va tn bO sO nU fS cW)) (rest := []) S hK hP hD hS (k_X3_finding 0 (-1000000001) (by decide) (by decide)) gv_X3_52 hd_X3_finding ⟨Nat.le_of_ble_eq_true rfl, Nat.le_of_ble_eq_true rfl⟩ 3 rfl rfl rfl rfl hl.1 (lv_room (Nat.le_of_ble_eq_true rfl)) dX3_copy_100 ⟨Nat.zero_le _, Nat.zero_le _⟩ (fun ov w' H locs hp hP hD hS => ?_)
              obtain ⟨rfl, rfl⟩ := hp
              have hP : va_P D vwCl (VX cI cJ cO B gG tG kG ik le by_ tk bg en va tn bO sO nU (upd fS 0 (fS 0 + 1)) cW) H := hP
              have hD : va_D _ (VX cI cJ cO B gG tG kG ik le by_ tk bg en va tn bO sO nU (upd fS 0 (fS 0 + 1)) cW) := hD
              refine W.eq (g2 := F0 m 103 ls [.int (-1000000001)]) rfl ?_
              have hE : upd fS 0 (fS 0 + 1) = cpT fS (cpW bO sO (nI x0) a (nI y0) b k) := by simp [cpR, cpT, cpU, cpW, bump, put9, b2i, c36, c44, c64, yx0, ex0, yy0, ey0, hok, i_lt, -Int32.not_le, -Int32.not_lt]
              have hW : (VX cI cJ cO B gG tG kG ik le by_ tk bg en va tn bO sO nU (upd fS 0 (fS 0 + 1)) cW) = (VX cI cJ cO B gG tG kG ik le by_ tk bg en va tn bO sO nU (cpT fS (cpW bO sO (nI x0) a (nI y0) b k)) cW) := congrArg (fun z => (VX cI cJ cO B gG tG kG ik le by_ tk bg en va tn bO sO nU z cW)) hE
              have hP : va_P D vwCl (VX cI cJ cO B gG tG kG ik le by_ tk bg en va tn bO sO nU (cpT fS (cpW bO sO (nI x0) a (nI y0) b k)) cW) H := Eq.mp (congrArg (fun z => va_P D vwCl z H) hW) hP
              have hD : va_D _ (VX cI cJ cO B gG tG kG ik le by_ tk bg en va tn bO sO nU (cpT fS (cpW bO sO (nI x0) a (nI y0) b k)) cW) := Eq.mp (congrArg (fun z => va_D _ z) hW) hD
              have hE : nU = cpU nU (cpW bO sO (nI x0) a (nI y0) b k) (nI x0) a (nI y0) b k := by simp [cpR, cpT, cpU, cpW, bump, put9, b2i, c36, c44, c64, yx0, ex0, yy0, ey0, hok, i_lt, -Int32.not_le, -Int32.not_lt]
              have hW : (VX cI cJ cO B gG tG kG ik le by_ tk bg en va tn bO sO nU (cpT fS (cpW bO sO (nI x0) a (nI y0) b k)) cW) = (VX cI cJ cO B gG tG kG ik le by_ tk bg en va tn bO sO (cpU nU (cpW bO sO (nI x0) a (nI y0) b k) (nI x0) a (nI y0) b k) (cpT fS (cpW bO sO (nI x0) a (nI y0) b k)) cW) := congrArg (fun z => (VX cI cJ cO B gG tG kG ik le by_ tk bg en va tn bO sO z (cpT fS (cpW bO sO (nI x0) a (nI y0) b k)) cW)) hE
              have hP : va_P D vwCl (VX cI cJ cO B gG tG kG ik le by_ tk bg en va tn bO sO (cpU nU (cpW bO sO (nI x0) a (nI y0) b k) (nI x0) a (nI y0) b k) (cpT fS (cpW bO sO (nI x0) a (nI y0) b k)) cW) H := Eq.mp (congrArg (fun z => va_P D vwCl z H) hW) hP
              have hD : va_D _ (VX cI cJ cO B gG tG kG ik le by_ tk bg en va tn bO sO (cpU nU (cpW bO sO (nI x0) a (nI y0) b k) (nI x0) a (nI y0) b k) (cpT fS (cpW bO sO (nI x0) a (nI y0) b k)) cW) := Eq.mp (congrArg (fun z => va_D _ z) hW) hD
              exact mu_iret (VX cI cJ cO B gG tG kG ik le by_ tk bg en va tn bO sO (cpU nU (cpW bO sO (nI x0) a (nI y0) b k) (nI x0) a (nI y0) b k) (cpT fS (cpW bO sO (nI x0) a (nI y0) b k)) cW) hx hb hr hlk hP hS rfl (⟨congrArg (fun z => some (Value.int z)) (by simp [cpR, cpT, cpU, cpW, bump, put9, b2i, c36, c44, c64, yx0, ex0, yy0, ey0, hok, i_lt, -Int32.not_le, -Int32.not_lt]), rfl⟩) dX3_copy_103
            · replace c82 := bn_0 c82
              refine lv_aload hx hb dX3_copy_85 (lv_at hl 0 rfl) ?_
              refine lv_iload hx hb dX3_copy_87 (lv_at hl 6 rfl) ?_
              refine lv_iload hx hb dX3_copy_89 (lv_at hl 7 rfl) ?_
              refine ro_V (w := (SW cJ (B (10 + 2 * y0)) (B (11 + 2 * y0)) (bO y0) (sO y0) (fun z7 => nU (40 * y0 + z7)))) (rest := []) S hK (vx_sub hP (k := y0) (by omega) (rfl)) (k_X1_lacks b k) gv_X3_198 hd_X1_lacks ⟨Nat.le_of_ble_eq_true rfl, Nat.le_of_ble_eq_true rfl⟩ 1 rfl rfl rfl rfl hl.1 (lv_room (Nat.le_of_ble_eq_true rfl)) dX3_copy_91 ⟨Nat.zero_le _, Nat.zero_le _⟩ ?_
              refine lv_if_eq (tgt := 104) hx hb dX3_copy_94 rfl (fun c94 => ?_) (fun c94 => ?_)
              · replace c94 := bn_0 c94
                obtain ⟨a0, b0, k0, rfl, rfl, rfl, hka, hkb, hok⟩ := cp_in2 hSh hx0 hy0 c82 c94
                have ea0 : cl (nI a0) = a0 := cl_nI (by omega)
                have eb0 : cl (nI b0) = b0 := cl_nI (by omega)
                have ek0 : cl (nI k0) = k0 := cl_nI (by omega)
                refine lv_aload hx hb dX3_copy_104 (lv_at hl 1 rfl) ?_
                refine va_get (ci := 1) (v := .ref (B (11 + 2 * x0))) hx hb hts wx_X1 hown hK (vx_sub hP (k := x0) (by omega) (rfl)) 0 rfl rfl 2 (by decide) (hts _ wf_X3_200) (fun _ h9 => h9) rfl dX3_copy_106 ?_
                refine lv_iload_n hx hb dX3_copy_109 rfl (lv_at hl 4 rfl) ?_
                refine lv_aload hx hb dX3_copy_110 (lv_at hl 0 rfl) ?_
                refine va_get (ci := 1) (v := .ref (B (11 + 2 * y0))) hx hb hts wx_X1 hown hK (vx_sub hP (k := y0) (by omega) (rfl)) 0 rfl rfl 2 (by decide) (hts _ wf_X3_200) (fun _ h9 => h9) rfl dX3_copy_112 ?_
                refine lv_iload hx hb dX3_copy_115 (lv_at hl 6 rfl) ?_
                refine lv_iload hx hb dX3_copy_117 (lv_at hl 7 rfl) ?_
                refine va_copyl hx hb (hml.trans hl.1.symm) hown (hts _ wm_X3_204) (hts _ wv_System_arraycopy_e82) (hts _ wt_System_arraycopy_e82) (hts _ wi_J10) hK hP hD hS (11 + 2 * x0) (11 + 2 * y0) 1 1 (vx_a (by omega)) (vx_a (by omega)) rfl rfl rfl (nI_pos (by omega)) (nI_pos (by omega)) (nI_pos (by omega)) (by rw [nI_clamp (by omega), nI_clamp (by omega)]; omega) (by rw [nI_clamp (by omega), nI_clamp (by omega)]; omega) (fun _ _ => rfl) (Nat.le_of_ble_eq_true rfl) (Nat.le_of_ble_eq_true rfl) dX3_copy_119 (fun H locs hP hD hS => ?_)
                rw [nI_clamp (show a0 < 2147483648 by omega), nI_clamp (show b0 < 2147483648 by omega), nI_clamp (show k0 < 2147483648 by omega)] at hP hD
                obtain ⟨hP, hD⟩ := vx_cpy (x := x0) (y := y0) (a := a0) (b := b0) (m := k0) hP hD (by omega) (by omega) (by omega) (by omega)
                have hP : va_P D vwCl (VX cI cJ cO B gG tG kG ik le by_ tk bg en va tn bO sO (cpyF nU (40 * x0 + a0) (40 * y0 + b0) k0) fS cW) H := hP
                have hD : va_D _ (VX cI cJ cO B gG tG kG ik le by_ tk bg en va tn bO sO (cpyF nU (40 * x0 + a0) (40 * y0 + b0) k0) fS cW) := hD
                refine lv_iload hx hb dX3_copy_122 (lv_at hl 7 rfl) ?_
                have hE : fS = cpT fS (cpW bO sO (nI x0) (nI a0) (nI y0) (nI b0) (nI k0)) := by simp [cpR, cpT, cpU, cpW, bump, put9, b2i, c36, c44, c64, yx0, ex0, yy0, ey0, ea0, eb0, ek0, hok, i_lt, -Int32.not_le, -Int32.not_lt]
                have hW : (VX cI cJ cO B gG tG kG ik le by_ tk bg en va tn bO sO (cpyF nU (40 * x0 + a0) (40 * y0 + b0) k0) fS cW) = (VX cI cJ cO B gG tG kG ik le by_ tk bg en va tn bO sO (cpyF nU (40 * x0 + a0) (40 * y0 + b0) k0) (cpT fS (cpW bO sO (nI x0) (nI a0) (nI y0) (nI b0) (nI k0))) cW) := congrArg (fun z => (VX cI cJ cO B gG tG kG ik le by_ tk bg en va tn bO sO (cpyF nU (40 * x0 + a0) (40 * y0 + b0) k0) z cW)) hE
                have hP : va_P D vwCl (VX cI cJ cO B gG tG kG ik le by_ tk bg en va tn bO sO (cpyF nU (40 * x0 + a0) (40 * y0 + b0) k0) (cpT fS (cpW bO sO (nI x0) (nI a0) (nI y0) (nI b0) (nI k0))) cW) H := Eq.mp (congrArg (fun z => va_P D vwCl z H) hW) hP
                have hD : va_D _ (VX cI cJ cO B gG tG kG ik le by_ tk bg en va tn bO sO (cpyF nU (40 * x0 + a0) (40 * y0 + b0) k0) (cpT fS (cpW bO sO (nI x0) (nI a0) (nI y0) (nI b0) (nI k0))) cW) := Eq.mp (congrArg (fun z => va_D _ z) hW) hD
                have hE : cpyF nU (40 * x0 + a0) (40 * y0 + b0) k0 = cpU nU (cpW bO sO (nI x0) (nI a0) (nI y0) (nI b0) (nI k0)) (nI x0) (nI a0) (nI y0) (nI b0) (nI k0) := by simp [cpR, cpT, cpU, cpW, bump, put9, b2i, c36, c44, c64, yx0, ex0, yy0, ey0, ea0, eb0, ek0, hok, i_lt, -Int32.not_le, -Int32.not_lt]
                have hW : (VX cI cJ cO B gG tG kG ik le by_ tk bg en va tn bO sO (cpyF nU (40 * x0 + a0) (40 * y0 + b0) k0) (cpT fS (cpW bO sO (nI x0) (nI a0) (nI y0) (nI b0) (nI k0))) cW) = (VX cI cJ cO B gG tG kG ik le by_ tk bg en va tn bO sO (cpU nU (cpW bO sO (nI x0) (nI a0) (nI y0) (nI b0) (nI k0)) (nI x0) (nI a0) (nI y0) (nI b0) (nI k0)) (cpT fS (cpW bO sO (nI x0) (nI a0) (nI y0) (nI b0) (nI k0))) cW) := congrArg (fun z => (VX cI cJ cO B gG tG kG ik le by_ tk bg en va tn bO sO z (cpT fS (cpW bO sO (nI x0) (nI a0) (nI y0) (nI b0) (nI k0))) cW)) hE
                have hP : va_P D vwCl (VX cI cJ cO B gG tG kG ik le by_ tk bg en va tn bO sO (cpU nU (cpW bO sO (nI x0) (nI a0) (nI y0) (nI b0) (nI k0)) (nI x0) (nI a0) (nI y0) (nI b0) (nI k0)) (cpT fS (cpW bO sO (nI x0) (nI a0) (nI y0) (nI b0) (nI k0))) cW) H := Eq.mp (congrArg (fun z => va_P D vwCl z H) hW) hP
                have hD : va_D _ (VX cI cJ cO B gG tG kG ik le by_ tk bg en va tn bO sO (cpU nU (cpW bO sO (nI x0) (nI a0) (nI y0) (nI b0) (nI k0)) (nI x0) (nI a0) (nI y0) (nI b0) (nI k0)) (cpT fS (cpW bO sO (nI x0) (nI a0) (nI y0) (nI b0) (nI k0))) cW) := Eq.mp (congrArg (fun z => va_D _ z) hW) hD
                exact mu_iret (VX cI cJ cO B gG tG kG ik le by_ tk bg en va tn bO sO (cpU nU (cpW bO sO (nI x0) (nI a0) (nI y0) (nI b0) (nI k0)) (nI x0) (nI a0) (nI y0) (nI b0) (nI k0)) (cpT fS (cpW bO sO (nI x0) (nI a0) (nI y0) (nI b0) (nI k0))) cW) hx hb hr hlk hP hS rfl (⟨congrArg (fun z => some (Value.int z)) (by simp [cpR, cpT, cpU, cpW, bump, put9, b2i, c36, c44, c64, yx0, ex0, yy0, ey0, ea0, eb0, ek0, hok, i_lt, -Int32.not_le, -Int32.not_lt]), rfl⟩) dX3_copy_124
              · replace c94 := bn_n0 c94
                have hok := cp_no2 (x := x0) (a := a) hSh hy0 c94
                refine lv_aload_n hx hb dX3_copy_97 rfl (lv_at hl 2 rfl) ?_
                refine lv_ldc (v := (-1000000001)) hx hb hown (hts _ wq_X3_51) dX3_copy_98 ?_
                refine mu_W (w := (VX cI cJ cO B gG tG kG ik le by_ tk bg en va tn bO sO nU fS cW)) (rest := []) S hK hP hD hS (k_X3_finding 0 (-1000000001) (by decide) (by decide)) gv_X3_52 hd_X3_finding ⟨Nat.le_of_ble_eq_true rfl, Nat.le_of_ble_eq_true rfl⟩ 3 rfl rfl rfl rfl hl.1 (lv_room (Nat.le_of_ble_eq_true rfl)) dX3_copy_100 ⟨Nat.zero_le _, Nat.zero_le _⟩ (fun ov w' H locs hp hP hD hS => ?_)
                obtain ⟨rfl, rfl⟩ := hp
                have hP : va_P D vwCl (VX cI cJ cO B gG tG kG ik le by_ tk bg en va tn bO sO nU (upd fS 0 (fS 0 + 1)) cW) H := hP
                have hD : va_D _ (VX cI cJ cO B gG tG kG ik le by_ tk bg en va tn bO sO nU (upd fS 0 (fS 0 + 1)) cW) := hD
                refine W.eq (g2 := F0 m 103 ls [.int (-1000000001)]) rfl ?_
                have hE : upd fS 0 (fS 0 + 1) = cpT fS (cpW bO sO (nI x0) a (nI y0) b k) := by simp [cpR, cpT, cpU, cpW, bump, put9, b2i, c36, c44, c64, yx0, ex0, yy0, ey0, hok, i_lt, -Int32.not_le, -Int32.not_lt]
                have hW : (VX cI cJ cO B gG tG kG ik le by_ tk bg en va tn bO sO nU (upd fS 0 (fS 0 + 1)) cW) = (VX cI cJ cO B gG tG kG ik le by_ tk bg en va tn bO sO nU (cpT fS (cpW bO sO (nI x0) a (nI y0) b k)) cW) := congrArg (fun z => (VX cI cJ cO B gG tG kG ik le by_ tk bg en va tn bO sO nU z cW)) hE
                have hP : va_P D vwCl (VX cI cJ cO B gG tG kG ik le by_ tk bg en va tn bO sO nU (cpT fS (cpW bO sO (nI x0) a (nI y0) b k)) cW) H := Eq.mp (congrArg (fun z => va_P D vwCl z H) hW) hP
                have hD : va_D _ (VX cI cJ cO B gG tG kG ik le by_ tk bg en va tn bO sO nU (cpT fS (cpW bO sO (nI x0) a (nI y0) b k)) cW) := Eq.mp (congrArg (fun z => va_D _ z) hW) hD
                have hE : nU = cpU nU (cpW bO sO (nI x0) a (nI y0) b k) (nI x0) a (nI y0) b k := by simp [cpR, cpT, cpU, cpW, bump, put9, b2i, c36, c44, c64, yx0, ex0, yy0, ey0, hok, i_lt, -Int32.not_le, -Int32.not_lt]
                have hW : (VX cI cJ cO B gG tG kG ik le by_ tk bg en va tn bO sO nU (cpT fS (cpW bO sO (nI x0) a (nI y0) b k)) cW) = (VX cI cJ cO B gG tG kG ik le by_ tk bg en va tn bO sO (cpU nU (cpW bO sO (nI x0) a (nI y0) b k) (nI x0) a (nI y0) b k) (cpT fS (cpW bO sO (nI x0) a (nI y0) b k)) cW) := congrArg (fun z => (VX cI cJ cO B gG tG kG ik le by_ tk bg en va tn bO sO z (cpT fS (cpW bO sO (nI x0) a (nI y0) b k)) cW)) hE
                have hP : va_P D vwCl (VX cI cJ cO B gG tG kG ik le by_ tk bg en va tn bO sO (cpU nU (cpW bO sO (nI x0) a (nI y0) b k) (nI x0) a (nI y0) b k) (cpT fS (cpW bO sO (nI x0) a (nI y0) b k)) cW) H := Eq.mp (congrArg (fun z => va_P D vwCl z H) hW) hP
                have hD : va_D _ (VX cI cJ cO B gG tG kG ik le by_ tk bg en va tn bO sO (cpU nU (cpW bO sO (nI x0) a (nI y0) b k) (nI x0) a (nI y0) b k) (cpT fS (cpW bO sO (nI x0) a (nI y0) b k)) cW) := Eq.mp (congrArg (fun z => va_D _ z) hW) hD
                exact mu_iret (VX cI cJ cO B gG tG kG ik le by_ tk bg en va tn bO sO (cpU nU (cpW bO sO (nI x0) a (nI y0) b k) (nI x0) a (nI y0) b k) (cpT fS (cpW bO sO (nI x0) a (nI y0) b k)) cW) hx hb hr hlk hP hS rfl (⟨congrArg (fun z => some (Value.int z)) (by simp [cpR, cpT, cpU, cpW, bump, put9, b2i, c36, c44, c64, yx0, ex0, yy0, ey0, hok, i_lt, -Int32.not_le, -Int32.not_lt]), rfl⟩) dX3_copy_103
          · refine lv_aload_n hx hb dX3_copy_67 rfl (lv_at hl 2 rfl) ?_
            refine lv_ldc (v := (-1000000003)) hx hb hown (hts _ wq_X3_128) dX3_copy_68 ?_
            refine mu_W (w := (VX cI cJ cO B gG tG kG ik le by_ tk bg en va tn bO sO nU fS cW)) (rest := []) S hK hP hD hS (k_X3_finding 2 (-1000000003) (by decide) (by decide)) gv_X3_52 hd_X3_finding ⟨Nat.le_of_ble_eq_true rfl, Nat.le_of_ble_eq_true rfl⟩ 3 rfl rfl rfl rfl hl.1 (lv_room (Nat.le_of_ble_eq_true rfl)) dX3_copy_70 ⟨Nat.zero_le _, Nat.zero_le _⟩ (fun ov w' H locs hp hP hD hS => ?_)
            obtain ⟨rfl, rfl⟩ := hp
            have hP : va_P D vwCl (VX cI cJ cO B gG tG kG ik le by_ tk bg en va tn bO sO nU (upd fS 2 (fS 2 + 1)) cW) H := hP
            have hD : va_D _ (VX cI cJ cO B gG tG kG ik le by_ tk bg en va tn bO sO nU (upd fS 2 (fS 2 + 1)) cW) := hD
            refine W.eq (g2 := F0 m 73 ls [.int (-1000000003)]) rfl ?_
            have hE : upd fS 2 (fS 2 + 1) = cpT fS (cpW bO sO (nI x0) a (nI y0) b k) := by simp [cpR, cpT, cpU, cpW, bump, put9, b2i, c36, c44, c64, yx0, ex0, yy0, ey0, i_lt, -Int32.not_le, -Int32.not_lt]
            have hW : (VX cI cJ cO B gG tG kG ik le by_ tk bg en va tn bO sO nU (upd fS 2 (fS 2 + 1)) cW) = (VX cI cJ cO B gG tG kG ik le by_ tk bg en va tn bO sO nU (cpT fS (cpW bO sO (nI x0) a (nI y0) b k)) cW) := congrArg (fun z => (VX cI cJ cO B gG tG kG ik le by_ tk bg en va tn bO sO nU z cW)) hE
            have hP : va_P D vwCl (VX cI cJ cO B gG tG kG ik le by_ tk bg en va tn bO sO nU (cpT fS (cpW bO sO (nI x0) a (nI y0) b k)) cW) H := Eq.mp (congrArg (fun z => va_P D vwCl z H) hW) hP
            have hD : va_D _ (VX cI cJ cO B gG tG kG ik le by_ tk bg en va tn bO sO nU (cpT fS (cpW bO sO (nI x0) a (nI y0) b k)) cW) := Eq.mp (congrArg (fun z => va_D _ z) hW) hD
            have hE : nU = cpU nU (cpW bO sO (nI x0) a (nI y0) b k) (nI x0) a (nI y0) b k := by simp [cpR, cpT, cpU, cpW, bump, put9, b2i, c36, c44, c64, yx0, ex0, yy0, ey0, i_lt, -Int32.not_le, -Int32.not_lt]
            have hW : (VX cI cJ cO B gG tG kG ik le by_ tk bg en va tn bO sO nU (cpT fS (cpW bO sO (nI x0) a (nI y0) b k)) cW) = (VX cI cJ cO B gG tG kG ik le by_ tk bg en va tn bO sO (cpU nU (cpW bO sO (nI x0) a (nI y0) b k) (nI x0) a (nI y0) b k) (cpT fS (cpW bO sO (nI x0) a (nI y0) b k)) cW) := congrArg (fun z => (VX cI cJ cO B gG tG kG ik le by_ tk bg en va tn bO sO z (cpT fS (cpW bO sO (nI x0) a (nI y0) b k)) cW)) hE
            have hP : va_P D vwCl (VX cI cJ cO B gG tG kG ik le by_ tk bg en va tn bO sO (cpU nU (cpW bO sO (nI x0) a (nI y0) b k) (nI x0) a (nI y0) b k) (cpT fS (cpW bO sO (nI x0) a (nI y0) b k)) cW) H := Eq.mp (congrArg (fun z => va_P D vwCl z H) hW) hP
            have hD : va_D _ (VX cI cJ cO B gG tG kG ik le by_ tk bg en va tn bO sO (cpU nU (cpW bO sO (nI x0) a (nI y0) b k) (nI x0) a (nI y0) b k) (cpT fS (cpW bO sO (nI x0) a (nI y0) b k)) cW) := Eq.mp (congrArg (fun z => va_D _ z) hW) hD
            exact mu_iret (VX cI cJ cO B gG tG kG ik le by_ tk bg en va tn bO sO (cpU nU (cpW bO sO (nI x0) a (nI y0) b k) (nI x0) a (nI y0) b k) (cpT fS (cpW bO sO (nI x0) a (nI y0) b k)) cW) hx hb hr hlk hP hS rfl (⟨congrArg (fun z => some (Value.int z)) (by simp [cpR, cpT, cpU, cpW, bump, put9, b2i, c36, c44, c64, yx0, ex0, yy0, ey0, i_lt, -Int32.not_le, -Int32.not_lt]), rfl⟩) dX3_copy_73
        · replace c44 := b2i_n0 c44
          replace c44 := of_decide_eq_true c44
          refine lv_aload_n hx hb dX3_copy_47 rfl (lv_at hl 2 rfl) ?_
          refine lv_ldc (v := (-1000000006)) hx hb hown (hts _ wq_X3_188) dX3_copy_48 ?_
          refine mu_W (w := (VX cI cJ cO B gG tG kG ik le by_ tk bg en va tn bO sO nU fS cW)) (rest := []) S hK hP hD hS (k_X3_finding 5 (-1000000006) (by decide) (by decide)) gv_X3_52 hd_X3_finding ⟨Nat.le_of_ble_eq_true rfl, Nat.le_of_ble_eq_true rfl⟩ 3 rfl rfl rfl rfl hl.1 (lv_room (Nat.le_of_ble_eq_true rfl)) dX3_copy_50 ⟨Nat.zero_le _, Nat.zero_le _⟩ (fun ov w' H locs hp hP hD hS => ?_)
          obtain ⟨rfl, rfl⟩ := hp
          have hP : va_P D vwCl (VX cI cJ cO B gG tG kG ik le by_ tk bg en va tn bO sO nU (upd fS 5 (fS 5 + 1)) cW) H := hP
          have hD : va_D _ (VX cI cJ cO B gG tG kG ik le by_ tk bg en va tn bO sO nU (upd fS 5 (fS 5 + 1)) cW) := hD
          refine W.eq (g2 := F0 m 53 ls [.int (-1000000006)]) rfl ?_
          have hE : upd fS 5 (fS 5 + 1) = cpT fS (cpW bO sO (nI x0) a (nI y0) b k) := by simp [cpR, cpT, cpU, cpW, bump, put9, b2i, c36, c44, yx0, ex0, yy0, ey0, i_lt, -Int32.not_le, -Int32.not_lt]
          have hW : (VX cI cJ cO B gG tG kG ik le by_ tk bg en va tn bO sO nU (upd fS 5 (fS 5 + 1)) cW) = (VX cI cJ cO B gG tG kG ik le by_ tk bg en va tn bO sO nU (cpT fS (cpW bO sO (nI x0) a (nI y0) b k)) cW) := congrArg (fun z => (VX cI cJ cO B gG tG kG ik le by_ tk bg en va tn bO sO nU z cW)) hE
          have hP : va_P D vwCl (VX cI cJ cO B gG tG kG ik le by_ tk bg en va tn bO sO nU (cpT fS (cpW bO sO (nI x0) a (nI y0) b k)) cW) H := Eq.mp (congrArg (fun z => va_P D vwCl z H) hW) hP
          have hD : va_D _ (VX cI cJ cO B gG tG kG ik le by_ tk bg en va tn bO sO nU (cpT fS (cpW bO sO (nI x0) a (nI y0) b k)) cW) := Eq.mp (congrArg (fun z => va_D _ z) hW) hD
          have hE : nU = cpU nU (cpW bO sO (nI x0) a (nI y0) b k) (nI x0) a (nI y0) b k := by simp [cpR, cpT, cpU, cpW, bump, put9, b2i, c36, c44, yx0, ex0, yy0, ey0, i_lt, -Int32.not_le, -Int32.not_lt]
          have hW : (VX cI cJ cO B gG tG kG ik le by_ tk bg en va tn bO sO nU (cpT fS (cpW bO sO (nI x0) a (nI y0) b k)) cW) = (VX cI cJ cO B gG tG kG ik le by_ tk bg en va tn bO sO (cpU nU (cpW bO sO (nI x0) a (nI y0) b k) (nI x0) a (nI y0) b k) (cpT fS (cpW bO sO (nI x0) a (nI y0) b k)) cW) := congrArg (fun z => (VX cI cJ cO B gG tG kG ik le by_ tk bg en va tn bO sO z (cpT fS (cpW bO sO (nI x0) a (nI y0) b k)) cW)) hE
          have hP : va_P D vwCl (VX cI cJ cO B gG tG kG ik le by_ tk bg en va tn bO sO (cpU nU (cpW bO sO (nI x0) a (nI y0) b k) (nI x0) a (nI y0) b k) (cpT fS (cpW bO sO (nI x0) a (nI y0) b k)) cW) H := Eq.mp (congrArg (fun z => va_P D vwCl z H) hW) hP
          have hD : va_D _ (VX cI cJ cO B gG tG kG ik le by_ tk bg en va tn bO sO (cpU nU (cpW bO sO (nI x0) a (nI y0) b k) (nI x0) a (nI y0) b k) (cpT fS (cpW bO sO (nI x0) a (nI y0) b k)) cW) := Eq.mp (congrArg (fun z => va_D _ z) hW) hD
          exact mu_iret (VX cI cJ cO B gG tG kG ik le by_ tk bg en va tn bO sO (cpU nU (cpW bO sO (nI x0) a (nI y0) b k) (nI x0) a (nI y0) b k) (cpT fS (cpW bO sO (nI x0) a (nI y0) b k)) cW) hx hb hr hlk hP hS rfl (⟨congrArg (fun z => some (Value.int z)) (by simp [cpR, cpT, cpU, cpW, bump, put9, b2i, c36, c44, yx0, ex0, yy0, ey0, i_lt, -Int32.not_le, -Int32.not_lt]), rfl⟩) dX3_copy_53

set_option maxHeartbeats 4000000 in
set_option maxRecDepth 100000 in
theorem k_X3_lays (n : Nat) (x : Int32) (hI : Inv gG n) (hSh : ShI sO) : MU l D (tyA cI cJ cO) yX3_lays cX3_lays 7 ((some .int)) 2 43 [.ref (B 0), .int x] (VX cI cJ cO B gG tG kG ik le by_ tk bg en va tn bO sO nU fS cW) (fun ov w' => ov = some (.int (layR bO sO nU n x)) ∧ w' = (VX cI cJ cO B (layS gG bO sO nU n x) tG kG ik le by_ tk bg en va tn bO sO nU (wrT fS (wrongS bO x)) cW)) := by
  refine MU.mk (by decide) (Nat.le_of_ble_eq_true rfl) ?_
  intro p e s m below meth c ls S hr hlk hP hK hD hS hl
  have S : CallFix p m c cX3_lays 7 s _ WL RX3 := S
  obtain ⟨hx, hb, hml, hown, hts⟩ := id S
  have hl : lv_has ls 7 [(0, .ref (B 0)), (1, .int x)] := hl
  have h8 : n ≤ 8 := hI.1
  have hI0 := hI
  refine lv_aload_n hx hb dX3_lays_0 rfl (lv_at hl 0 rfl) ?_
  refine lv_iload_n hx hb dX3_lays_1 rfl (lv_at hl 1 rfl) ?_
  rcases sh_c x with hno | ⟨k, hk, rfl⟩
  · refine ro_V (w := (VX cI cJ cO B gG tG kG ik le by_ tk bg en va tn bO sO nU fS cW)) (rest := []) S hK hP (k_X3_sheetAt_no x hno) gv_X3_175 hd_X3_sheetAt ⟨Nat.le_of_ble_eq_true rfl, Nat.le_of_ble_eq_true rfl⟩ 3 rfl rfl rfl rfl hl.1 (lv_room (Nat.le_of_ble_eq_true rfl)) dX3_lays_2 ⟨Nat.zero_le _, Nat.zero_le _⟩ ?_
    refine W.eq (g2 := F0 m 5 ls [.null]) rfl ?_
    refine lv_astore_nN (lv' := [(2, .null), (0, .ref (B 0)), (1, .int x)]) hx hb dX3_lays_5 rfl hl (by decide) rfl (fun ls hl => ?_)
    refine lv_aload_nN hx hb dX3_lays_6 rfl (lv_at hl 0 rfl) ?_
    refine lv_ifnonnullN hx hb dX3_lays_7 ?_
    refine lv_aload_n hx hb dX3_lays_10 rfl (lv_at hl 1 rfl) ?_
    refine lv_ldc (v := (-1000000001)) hx hb hown (hts _ wq_X3_51) dX3_lays_11 ?_
    refine mu_W (w := (VX cI cJ cO B gG tG kG ik le by_ tk bg en va tn bO sO nU fS cW)) (rest := []) S hK hP hD hS (k_X3_finding 0 (-1000000001) (by decide) (by decide)) gv_X3_52 hd_X3_finding ⟨Nat.le_of_ble_eq_true rfl, Nat.le_of_ble_eq_true rfl⟩ 3 rfl rfl rfl rfl hl.1 (lv_room (Nat.le_of_ble_eq_true rfl)) dX3_lays_13 ⟨Nat.zero_le _, Nat.zero_le _⟩ (fun ov w' H locs hp hP hD hS => ?_)
    obtain ⟨rfl, rfl⟩ := hp
    have hP : va_P D vwCl (VX cI cJ cO B gG tG kG ik le by_ tk bg en va tn bO sO nU (upd fS 0 (fS 0 + 1)) cW) H := hP
    have hD : va_D _ (VX cI cJ cO B gG tG kG ik le by_ tk bg en va tn bO sO nU (upd fS 0 (fS 0 + 1)) cW) := hD
    refine W.eq (g2 := F0 m 16 ls [.int (-1000000001)]) rfl ?_
    have hE : gG = layS gG bO sO nU n x := by simp [layR, layS, wrT, wrongS, bump, put9, b2i, hno, i_lt, -Int32.not_le, -Int32.not_lt]
    have hW : (VX cI cJ cO B gG tG kG ik le by_ tk bg en va tn bO sO nU (upd fS 0 (fS 0 + 1)) cW) = (VX cI cJ cO B (layS gG bO sO nU n x) tG kG ik le by_ tk bg en va tn bO sO nU (upd fS 0 (fS 0 + 1)) cW) := congrArg (fun z => (VX cI cJ cO B z tG kG ik le by_ tk bg en va tn bO sO nU (upd fS 0 (fS 0 + 1)) cW)) hE
    have hP : va_P D vwCl (VX cI cJ cO B (layS gG bO sO nU n x) tG kG ik le by_ tk bg en va tn bO sO nU (upd fS 0 (fS 0 + 1)) cW) H := Eq.mp (congrArg (fun z => va_P D vwCl z H) hW) hP
    have hD : va_D _ (VX cI cJ cO B (layS gG bO sO nU n x) tG kG ik le by_ tk bg en va tn bO sO nU (upd fS 0 (fS 0 + 1)) cW) := Eq.mp (congrArg (fun z => va_D _ z) hW) hD
    have hE : upd fS 0 (fS 0 + 1) = wrT fS (wrongS bO x) := by simp [layR, layS, wrT, wrongS, bump, put9, b2i, hno, i_lt, -Int32.not_le, -Int32.not_lt]
    have hW : (VX cI cJ cO B (layS gG bO sO nU n x) tG kG ik le by_ tk bg en va tn bO sO nU (upd fS 0 (fS 0 + 1)) cW) = (VX cI cJ cO B (layS gG bO sO nU n x) tG kG ik le by_ tk bg en va tn bO sO nU (wrT fS (wrongS bO x)) cW) := congrArg (fun z => (VX cI cJ cO B (layS gG bO sO nU n x) tG kG ik le by_ tk bg en va tn bO sO nU z cW)) hE
    have hP : va_P D vwCl (VX cI cJ cO B (layS gG bO sO nU n x) tG kG ik le by_ tk bg en va tn bO sO nU (wrT fS (wrongS bO x)) cW) H := Eq.mp (congrArg (fun z => va_P D vwCl z H) hW) hP
    have hD : va_D _ (VX cI cJ cO B (layS gG bO sO nU n x) tG kG ik le by_ tk bg en va tn bO sO nU (wrT fS (wrongS bO x)) cW) := Eq.mp (congrArg (fun z => va_D _ z) hW) hD
    exact mu_iret (VX cI cJ cO B (layS gG bO sO nU n x) tG kG ik le by_ tk bg en va tn bO sO nU (wrT fS (wrongS bO x)) cW) hx hb hr hlk hP hS rfl (⟨congrArg (fun z => some (Value.int z)) (by simp [layR, layS, wrT, wrongS, bump, put9, b2i, hno, i_lt, -Int32.not_le, -Int32.not_lt]), rfl⟩) dX3_lays_16
  · have yk : inI (nI k) 0 3 = true := sh_y hk
    have ek : cl (nI k) = k := cl_nI (by omega)
    obtain ⟨hz, hz40⟩ := sh_n hSh hk
    refine ro_V (w := (VX cI cJ cO B gG tG kG ik le by_ tk bg en va tn bO sO nU fS cW)) (rest := []) S hK hP (k_X3_sheetAt_k k (by omega)) gv_X3_175 hd_X3_sheetAt ⟨Nat.le_of_ble_eq_true rfl, Nat.le_of_ble_eq_true rfl⟩ 3 rfl rfl rfl rfl hl.1 (lv_room (Nat.le_of_ble_eq_true rfl)) dX3_lays_2 ⟨Nat.zero_le _, Nat.zero_le _⟩ ?_
    refine W.eq (g2 := F0 m 5 ls [.ref (B (10 + 2 * k))]) rfl ?_
    refine lv_astore_n (lv' := [(2, .ref (B (10 + 2 * k))), (0, .ref (B 0)), (1, .int (nI k))]) hx hb dX3_lays_5 rfl hl (by decide) rfl (fun ls hl => ?_)
    refine lv_aload_n hx hb dX3_lays_6 rfl (lv_at hl 0 rfl) ?_
    refine lv_ifnonnull (tgt := 17) hx hb dX3_lays_7 rfl ?_
    refine lv_aload_n hx hb dX3_lays_17 rfl (lv_at hl 0 rfl) ?_
    refine ro_V (w := (SW cJ (B (10 + 2 * k)) (B (11 + 2 * k)) (bO k) (sO k) (fun z7 => nU (40 * k + z7)))) (rest := []) S hK (vx_sub hP (k := k) (by omega) (rfl)) (k_X1_isMissing ) gv_X3_185 hd_X1_isMissing ⟨Nat.le_of_ble_eq_true rfl, Nat.le_of_ble_eq_true rfl⟩ 1 rfl rfl rfl rfl hl.1 (lv_room (Nat.le_of_ble_eq_true rfl)) dX3_lays_18 ⟨Nat.zero_le _, Nat.zero_le _⟩ ?_
    refine lv_if_eq (tgt := 31) hx hb dX3_lays_21 rfl (fun c21 => ?_) (fun c21 => ?_)
    · replace c21 := (b2i_0 _).mp c21
      replace c21 := of_decide_eq_false c21
      refine lv_iconst (v := 0) hx hb dX3_lays_31 rfl ?_
      refine w_i (z := nI (cntF (layP nU k) 0)) (rfl) ?_
      refine lv_istore_n (lv' := [(3, .int (nI (cntF (layP nU k) 0))), (2, .ref (B (10 + 2 * k))), (0, .ref (B 0)), (1, .int (nI k))]) hx hb dX3_lays_32 rfl hl (by decide) rfl (fun ls hl => ?_)
      refine lv_iconst (v := 0) hx hb dX3_lays_33 rfl ?_
      have hE : gG = layG gG nU k 0 := rfl
      have hW : (VX cI cJ cO B gG tG kG ik le by_ tk bg en va tn bO sO nU fS cW) = (VX cI cJ cO B (layG gG nU k 0) tG kG ik le by_ tk bg en va tn bO sO nU fS cW) := congrArg (fun z => (VX cI cJ cO B z tG kG ik le by_ tk bg en va tn bO sO nU fS cW)) hE
      have hP : va_P D vwCl (VX cI cJ cO B (layG gG nU k 0) tG kG ik le by_ tk bg en va tn bO sO nU fS cW) s.heap := Eq.mp (congrArg (fun z => va_P D vwCl z s.heap) hW) hP
      have hD : va_D _ (VX cI cJ cO B (layG gG nU k 0) tG kG ik le by_ tk bg en va tn bO sO nU fS cW) := Eq.mp (congrArg (fun z => va_D _ z) hW) hD
      refine lv_istore (lv' := [(4, .int 0), (3, .int (nI (cntF (layP nU k) 0))), (2, .ref (B (10 + 2 * k))), (0, .ref (B 0)), (1, .int (nI k))]) hx hb dX3_lays_34 hl (by decide) rfl (fun ls hl => ?_)
      refine w_loopH (pc := 36) (st := fun (i : Nat) => []) (μ := fun (i : Nat) => n - i) (I := fun (i : Nat) H locs ls => (i ≤ cl (sO k)) ∧ (i ≤ n) ∧ va_P D vwCl (VX cI cJ cO B (layG gG nU k i) tG kG ik le by_ tk bg en va tn bO sO nU fS cW) H ∧ va_D (fun z9 => z9 ∈ ((VX cI cJ cO B gG tG kG ik le by_ tk bg en va tn bO sO nU fS cW)).map (fun z8 => z8.1)) (VX cI cJ cO B (layG gG nU k i) tG kG ik le by_ tk bg en va tn bO sO nU fS cW) ∧ va_S (fun z9 => z9 ∈ ((VX cI cJ cO B gG tG kG ik le by_ tk bg en va tn bO sO nU fS cW)).map (fun z8 => z8.1)) s.heap H locs ∧ lv_has ls 7 [(0, .ref (B 0)), (1, .int (nI k)), (2, .ref (B (10 + 2 * k))), (3, .int (nI (cntF (layP nU k) i))), (4, .int (nI i))]) ?_ (0) ⟨Nat.zero_le _, Nat.zero_le _, hP, hD, hS, lv_sub hl [3, 4, 2, 1, 0] rfl⟩
      rintro i H locs ls ⟨hi, hi2, hP, hD, hS, hl⟩ ih36
      try dsimp only at ih36 ⊢
      have hI := Inv_lay (u := nU) (k := k) hI0 i
      refine lv_iload hx hb dX3_lays_36 (lv_at hl 4 rfl) ?_
      refine lv_aload_n hx hb dX3_lays_38 rfl (lv_at hl 2 rfl) ?_
      refine va_get (ci := 1) (v := .int (sO k)) hx hb hts wx_X1 hown hK (vx_sub hP (k := k) (by omega) (rfl)) 0 rfl rfl 1 (by decide) (hts _ wf_X3_184) (fun _ h9 => h9) rfl dX3_lays_39 ?_
      refine w_i (z := nI (cl (sO k))) (hz) ?_
      refine lv_icmp_ge (tgt := 103) hx hb dX3_lays_42 rfl (fun c42 => ?_) (fun c42 => ?_)
      · replace c42 := nq_le (a := (cl (sO k))) (b := i) (by omega) (by omega) c42
        have hm : layM sO n k = i := by unfold layM; omega
        refine lv_iload_n hx hb dX3_lays_103 rfl (lv_at hl 3 rfl) ?_
        have hE : layG gG nU k i = layS gG bO sO nU n (nI k) := by simp [layR, layS, wrT, wrongS, bump, put9, b2i, c21, c42, yk, ek, hm, i_lt, -Int32.not_le, -Int32.not_lt]
        have hW : (VX cI cJ cO B (layG gG nU k i) tG kG ik le by_ tk bg en va tn bO sO nU fS cW) = (VX cI cJ cO B (layS gG bO sO nU n (nI k)) tG kG ik le by_ tk bg en va tn bO sO nU fS cW) := congrArg (fun z => (VX cI cJ cO B z tG kG ik le by_ tk bg en va tn bO sO nU fS cW)) hE
        have hP : va_P D vwCl (VX cI cJ cO B (layS gG bO sO nU n (nI k)) tG kG ik le by_ tk bg en va tn bO sO nU fS cW) H := Eq.mp (congrArg (fun z => va_P D vwCl z H) hW) hP
        have hD : va_D _ (VX cI cJ cO B (layS gG bO sO nU n (nI k)) tG kG ik le by_ tk bg en va tn bO sO nU fS cW) := Eq.mp (congrArg (fun z => va_D _ z) hW) hD
        have hE : fS = wrT fS (wrongS bO (nI k)) := by simp [layR, layS, wrT, wrongS, bump, put9, b2i, c21, c42, yk, ek, hm, i_lt, -Int32.not_le, -Int32.not_lt]
        have hW : (VX cI cJ cO B (layS gG bO sO nU n (nI k)) tG kG ik le by_ tk bg en va tn bO sO nU fS cW) = (VX cI cJ cO B (layS gG bO sO nU n (nI k)) tG kG ik le by_ tk bg en va tn bO sO nU (wrT fS (wrongS bO (nI k))) cW) := congrArg (fun z => (VX cI cJ cO B (layS gG bO sO nU n (nI k)) tG kG ik le by_ tk bg en va tn bO sO nU z cW)) hE
        have hP : va_P D vwCl (VX cI cJ cO B (layS gG bO sO nU n (nI k)) tG kG ik le by_ tk bg en va tn bO sO nU (wrT fS (wrongS bO (nI k))) cW) H := Eq.mp (congrArg (fun z => va_P D vwCl z H) hW) hP
        have hD : va_D _ (VX cI cJ cO B (layS gG bO sO nU n (nI k)) tG kG ik le by_ tk bg en va tn bO sO nU (wrT fS (wrongS bO (nI k))) cW) := Eq.mp (congrArg (fun z => va_D _ z) hW) hD
        exact mu_iret (VX cI cJ cO B (layS gG bO sO nU n (nI k)) tG kG ik le by_ tk bg en va tn bO sO nU (wrT fS (wrongS bO (nI k))) cW) hx hb hr hlk hP hS rfl (⟨congrArg (fun z => some (Value.int z)) (by simp [layR, layS, wrT, wrongS, bump, put9, b2i, c21, c42, yk, ek, hm, i_lt, -Int32.not_le, -Int32.not_lt]), rfl⟩) dX3_lays_104
      · replace c42 := nq_nle (a := (cl (sO k))) (b := i) (by omega) (by omega) c42
        refine lv_iload hx hb dX3_lays_45 (lv_at hl 4 rfl) ?_
        refine lv_aload_n hx hb dX3_lays_47 rfl (lv_at hl 0 rfl) ?_
        refine va_get (ci := 3) (v := .ref (B 1)) hx hb hts wx_X3 hown hK hP 0 rfl rfl 0 (by decide) (hts _ wf_X3_10) (fun _ h9 => h9) rfl dX3_lays_48 ?_
        refine va_get (ci := 0) (v := .int ((layG gG nU k i) 1)) hx hb hts wx_X0 hown hK hP 1 rfl rfl 2 (by decide) (hts _ wf_X3_148) (fun _ h9 => h9) rfl dX3_lays_51 ?_
        refine w_i (z := nI n) (hI.2.1) ?_
        refine lv_icmp_ge (tgt := 103) hx hb dX3_lays_54 rfl (fun c54 => ?_) (fun c54 => ?_)
        · replace c54 := nq_le (a := n) (b := i) (by omega) (by omega) c54
          have hm : layM sO n k = i := by unfold layM; omega
          refine lv_iload_n hx hb dX3_lays_103 rfl (lv_at hl 3 rfl) ?_
          have hE : layG gG nU k i = layS gG bO sO nU n (nI k) := by simp [layR, layS, wrT, wrongS, bump, put9, b2i, c21, c42, c54, yk, ek, hm, i_lt, -Int32.not_le, -Int32.not_lt]
          have hW : (VX cI cJ cO B (layG gG nU k i) tG kG ik le by_ tk bg en va tn bO sO nU fS cW) = (VX cI cJ cO B (layS gG bO sO nU n (nI k)) tG kG ik le by_ tk bg en va tn bO sO nU fS cW) := congrArg (fun z => (VX cI cJ cO B z tG kG ik le by_ tk bg en va tn bO sO nU fS cW)) hE
          have hP : va_P D vwCl (VX cI cJ cO B (layS gG bO sO nU n (nI k)) tG kG ik le by_ tk bg en va tn bO sO nU fS cW) H := Eq.mp (congrArg (fun z => va_P D vwCl z H) hW) hP
          have hD : va_D _ (VX cI cJ cO B (layS gG bO sO nU n (nI k)) tG kG ik le by_ tk bg en va tn bO sO nU fS cW) := Eq.mp (congrArg (fun z => va_D _ z) hW) hD
          have hE : fS = wrT fS (wrongS bO (nI k)) := by simp [layR, layS, wrT, wrongS, bump, put9, b2i, c21, c42, c54, yk, ek, hm, i_lt, -Int32.not_le, -Int32.not_lt]
          have hW : (VX cI cJ cO B (layS gG bO sO nU n (nI k)) tG kG ik le by_ tk bg en va tn bO sO nU fS cW) = (VX cI cJ cO B (layS gG bO sO nU n (nI k)) tG kG ik le by_ tk bg en va tn bO sO nU (wrT fS (wrongS bO (nI k))) cW) := congrArg (fun z => (VX cI cJ cO B (layS gG bO sO nU n (nI k)) tG kG ik le by_ tk bg en va tn bO sO nU z cW)) hE
          have hP : va_P D vwCl (VX cI cJ cO B (layS gG bO sO nU n (nI k)) tG kG ik le by_ tk bg en va tn bO sO nU (wrT fS (wrongS bO (nI k))) cW) H := Eq.mp (congrArg (fun z => va_P D vwCl z H) hW) hP
          have hD : va_D _ (VX cI cJ cO B (layS gG bO sO nU n (nI k)) tG kG ik le by_ tk bg en va tn bO sO nU (wrT fS (wrongS bO (nI k))) cW) := Eq.mp (congrArg (fun z => va_D _ z) hW) hD
          exact mu_iret (VX cI cJ cO B (layS gG bO sO nU n (nI k)) tG kG ik le by_ tk bg en va tn bO sO nU (wrT fS (wrongS bO (nI k))) cW) hx hb hr hlk hP hS rfl (⟨congrArg (fun z => some (Value.int z)) (by simp [layR, layS, wrT, wrongS, bump, put9, b2i, c21, c42, c54, yk, ek, hm, i_lt, -Int32.not_le, -Int32.not_lt]), rfl⟩) dX3_lays_104
        · replace c54 := nq_nle (a := n) (b := i) (by omega) (by omega) c54
          refine lv_aload_n hx hb dX3_lays_57 rfl (lv_at hl 2 rfl) ?_
          refine lv_iload hx hb dX3_lays_58 (lv_at hl 4 rfl) ?_
          refine ro_V (w := (SW cJ (B (10 + 2 * k)) (B (11 + 2 * k)) (bO k) (nI (cl (sO k))) (fun z7 => nU (40 * k + z7)))) (rest := []) S hK (vx_sub hP (k := k) (by omega) (hz)) (k_X1_get (cl (sO k)) i (by omega) (by omega)) gv_X3_189 hd_X1_get ⟨Nat.le_of_ble_eq_true rfl, Nat.le_of_ble_eq_true rfl⟩ 1 rfl rfl rfl rfl hl.1 (lv_room (Nat.le_of_ble_eq_true rfl)) dX3_lays_60 ⟨Nat.zero_le _, Nat.zero_le _⟩ ?_
          refine lv_lstore (lv' := [(5, .long (nU (40 * k + i))), (0, .ref (B 0)), (1, .int (nI k)), (2, .ref (B (10 + 2 * k))), (3, .int (nI (cntF (layP nU k) i))), (4, .int (nI i))]) hx hb dX3_lays_63 hl (by decide) rfl (fun ls hl => ?_)
          refine lv_lload hx hb dX3_lays_65 (lv_at hl 0 rfl) ?_
          refine lv_lconst (v := 0) hx hb dX3_lays_67 rfl ?_
          refine W.lcmp hx hb dX3_lays_68 ?_
          refine lv_if_lt (tgt := 97) hx hb dX3_lays_69 rfl (fun c69 => ?_) (fun c69 => ?_)
          · replace c69 := lc_lt c69
            have hlp : layP nU k i = false := decide_eq_false (fun h9 => c69 h9.1)
            have hE : layG gG nU k i = layG gG nU k (i + 1) := by rw [layG, hlp]; rfl
            have hW : (VX cI cJ cO B (layG gG nU k i) tG kG ik le by_ tk bg en va tn bO sO nU fS cW) = (VX cI cJ cO B (layG gG nU k (i + 1)) tG kG ik le by_ tk bg en va tn bO sO nU fS cW) := congrArg (fun z => (VX cI cJ cO B z tG kG ik le by_ tk bg en va tn bO sO nU fS cW)) hE
            have hP : va_P D vwCl (VX cI cJ cO B (layG gG nU k (i + 1)) tG kG ik le by_ tk bg en va tn bO sO nU fS cW) H := Eq.mp (congrArg (fun z => va_P D vwCl z H) hW) hP
            have hD : va_D _ (VX cI cJ cO B (layG gG nU k (i + 1)) tG kG ik le by_ tk bg en va tn bO sO nU fS cW) := Eq.mp (congrArg (fun z => va_D _ z) hW) hD
            rw [show nI (cntF (layP nU k) i) = nI (cntF (layP nU k) (i + 1)) from by rw [cntF, hlp]; rfl] at hl
            refine lv_iinc (v := nI (i + 1)) (lv' := [(4, .int (nI (i + 1))), (5, .long (nU (40 * k + i))), (0, .ref (B 0)), (1, .int (nI k)), (2, .ref (B (10 + 2 * k))), (3, .int (nI (cntF (layP nU k) (i + 1))))]) hx hb dX3_lays_97 hl (k := 5) rfl (nI_inc _) (by decide) rfl (fun ls hl => ?_)
            refine lv_goto (tgt := 36) hx hb dX3_lays_100 rfl ?_
            exact ih36 (i + 1) _ _ ls (by first | omega | (dsimp only; omega)) ⟨(by omega), (by omega), hP, hD, hS, lv_sub hl [2, 3, 4, 5, 0] rfl⟩
          · replace c69 := lc_nlt c69
            refine lv_lload hx hb dX3_lays_72 (lv_at hl 0 rfl) ?_
            refine lv_ldc2 (v := 99) hx hb hown (hts _ wq_X3_210) dX3_lays_74 ?_
            refine W.lcmp hx hb dX3_lays_77 ?_
            refine lv_if_gt (tgt := 97) hx hb dX3_lays_78 rfl (fun c78 => ?_) (fun c78 => ?_)
            · replace c78 := lc_gt c78
              have hlp : layP nU k i = false := decide_eq_false (fun h9 => c78 h9.2)
              have hE : layG gG nU k i = layG gG nU k (i + 1) := by rw [layG, hlp]; rfl
              have hW : (VX cI cJ cO B (layG gG nU k i) tG kG ik le by_ tk bg en va tn bO sO nU fS cW) = (VX cI cJ cO B (layG gG nU k (i + 1)) tG kG ik le by_ tk bg en va tn bO sO nU fS cW) := congrArg (fun z => (VX cI cJ cO B z tG kG ik le by_ tk bg en va tn bO sO nU fS cW)) hE
              have hP : va_P D vwCl (VX cI cJ cO B (layG gG nU k (i + 1)) tG kG ik le by_ tk bg en va tn bO sO nU fS cW) H := Eq.mp (congrArg (fun z => va_P D vwCl z H) hW) hP
              have hD : va_D _ (VX cI cJ cO B (layG gG nU k (i + 1)) tG kG ik le by_ tk bg en va tn bO sO nU fS cW) := Eq.mp (congrArg (fun z => va_D _ z) hW) hD
              rw [show nI (cntF (layP nU k) i) = nI (cntF (layP nU k) (i + 1)) from by rw [cntF, hlp]; rfl] at hl
              refine lv_iinc (v := nI (i + 1)) (lv' := [(4, .int (nI (i + 1))), (5, .long (nU (40 * k + i))), (0, .ref (B 0)), (1, .int (nI k)), (2, .ref (B (10 + 2 * k))), (3, .int (nI (cntF (layP nU k) (i + 1))))]) hx hb dX3_lays_97 hl (k := 5) rfl (nI_inc _) (by decide) rfl (fun ls hl => ?_)
              refine lv_goto (tgt := 36) hx hb dX3_lays_100 rfl ?_
              exact ih36 (i + 1) _ _ ls (by first | omega | (dsimp only; omega)) ⟨(by omega), (by omega), hP, hD, hS, lv_sub hl [2, 3, 4, 5, 0] rfl⟩
            · replace c78 := lc_ngt c78
              refine lv_aload_n hx hb dX3_lays_81 rfl (lv_at hl 1 rfl) ?_
              refine va_get (ci := 3) (v := .ref (B 1)) hx hb hts wx_X3 hown hK hP 0 rfl rfl 0 (by decide) (hts _ wf_X3_10) (fun _ h9 => h9) rfl dX3_lays_82 ?_
              refine lv_iload hx hb dX3_lays_85 (lv_at hl 5 rfl) ?_
              refine lv_iconst (v := 3) hx hb dX3_lays_87 rfl ?_
              refine lv_lload hx hb dX3_lays_88 (lv_at hl 0 rfl) ?_
              refine lv_l2i hx hb dX3_lays_90 rfl ?_
              refine mu_V (w := (GW cI (B 1) (B 2) ((layG gG nU k i) 0) ((layG gG nU k i) 2) ((layG gG nU k i) 1) (tl (layG gG nU k i)))) (rest := []) S hK hP hD hS (k_X0_put i 3 (Int64.toInt32 (nU (40 * k + i))) (by omega) (by omega)) gv_X3_117 hd_X0_put ⟨Nat.le_of_ble_eq_true rfl, Nat.le_of_ble_eq_true rfl⟩ [1, 2] rfl rfl 0 rfl rfl rfl rfl hl.1 (lv_room (Nat.le_of_ble_eq_true rfl)) dX3_lays_91 ⟨Nat.zero_le _, Nat.zero_le _⟩ (fun ov w' H locs hp hP hD hS => ?_)
              obtain ⟨rfl, rfl⟩ := hp
              have hP : va_P D vwCl (VX cI cJ cO B (put9 (layG gG nU k i) i 3 (Int64.toInt32 (nU (40 * k + i)))) tG kG ik le by_ tk bg en va tn bO sO nU fS cW) H := hP
              have hD : va_D _ (VX cI cJ cO B (put9 (layG gG nU k i) i 3 (Int64.toInt32 (nU (40 * k + i)))) tG kG ik le by_ tk bg en va tn bO sO nU fS cW) := hD
              refine W.eq (g2 := F0 m 94 ls []) rfl ?_
              refine lv_iinc (v := nI (cntF (layP nU k) i + 1)) (lv' := [(3, .int (nI (cntF (layP nU k) i + 1))), (5, .long (nU (40 * k + i))), (0, .ref (B 0)), (1, .int (nI k)), (2, .ref (B (10 + 2 * k))), (4, .int (nI i))]) hx hb dX3_lays_94 hl (k := 4) rfl (nI_inc _) (by decide) rfl (fun ls hl => ?_)
              have hlp : layP nU k i = true := decide_eq_true ⟨c69, c78⟩
              have hE : put9 (layG gG nU k i) i 3 (Int64.toInt32 (nU (40 * k + i))) = layG gG nU k (i + 1) := by rw [layG, hlp]; rfl
              have hW : (VX cI cJ cO B (put9 (layG gG nU k i) i 3 (Int64.toInt32 (nU (40 * k + i)))) tG kG ik le by_ tk bg en va tn bO sO nU fS cW) = (VX cI cJ cO B (layG gG nU k (i + 1)) tG kG ik le by_ tk bg en va tn bO sO nU fS cW) := congrArg (fun z => (VX cI cJ cO B z tG kG ik le by_ tk bg en va tn bO sO nU fS cW)) hE
              have hP : va_P D vwCl (VX cI cJ cO B (layG gG nU k (i + 1)) tG kG ik le by_ tk bg en va tn bO sO nU fS cW) H := Eq.mp (congrArg (fun z => va_P D vwCl z H) hW) hP
              have hD : va_D _ (VX cI cJ cO B (layG gG nU k (i + 1)) tG kG ik le by_ tk bg en va tn bO sO nU fS cW) := Eq.mp (congrArg (fun z => va_D _ z) hW) hD
              rw [show nI (cntF (layP nU k) i + 1) = nI (cntF (layP nU k) (i + 1)) from by rw [cntF, hlp]; rfl] at hl
              refine lv_iinc (v := nI (i + 1)) (lv' := [(4, .int (nI (i + 1))), (3, .int (nI (cntF (layP nU k) (i + 1)))), (5, .long (nU (40 * k + i))), (0, .ref (B 0)), (1, .int (nI k)), (2, .ref (B (10 + 2 * k)))]) hx hb dX3_lays_97 hl (k := 5) rfl (nI_inc _) (by decide) rfl (fun ls hl => ?_)
              refine lv_goto (tgt := 36) hx hb dX3_lays_100 rfl ?_
              exact ih36 (i + 1) _ _ ls (by first | omega | (dsimp only; omega)) ⟨(by omega), (by omega), hP, hD, hS, lv_sub hl [3, 4, 5, 1, 0] rfl⟩
    · replace c21 := b2i_n0 c21
      replace c21 := of_decide_eq_true c21
      refine lv_aload_n hx hb dX3_lays_24 rfl (lv_at hl 1 rfl) ?_
      refine lv_ldc (v := (-1000000006)) hx hb hown (hts _ wq_X3_188) dX3_lays_25 ?_
      refine mu_W (w := (VX cI cJ cO B gG tG kG ik le by_ tk bg en va tn bO sO nU fS cW)) (rest := []) S hK hP hD hS (k_X3_finding 5 (-1000000006) (by decide) (by decide)) gv_X3_52 hd_X3_finding ⟨Nat.le_of_ble_eq_true rfl, Nat.le_of_ble_eq_true rfl⟩ 3 rfl rfl rfl rfl hl.1 (lv_room (Nat.le_of_ble_eq_true rfl)) dX3_lays_27 ⟨Nat.zero_le _, Nat.zero_le _⟩ (fun ov w' H locs hp hP hD hS => ?_)
      obtain ⟨rfl, rfl⟩ := hp
      have hP : va_P D vwCl (VX cI cJ cO B gG tG kG ik le by_ tk bg en va tn bO sO nU (upd fS 5 (fS 5 + 1)) cW) H := hP
      have hD : va_D _ (VX cI cJ cO B gG tG kG ik le by_ tk bg en va tn bO sO nU (upd fS 5 (fS 5 + 1)) cW) := hD
      refine W.eq (g2 := F0 m 30 ls [.int (-1000000006)]) rfl ?_
      have hE : gG = layS gG bO sO nU n (nI k) := by simp [layR, layS, wrT, wrongS, bump, put9, b2i, c21, yk, ek, i_lt, -Int32.not_le, -Int32.not_lt]
      have hW : (VX cI cJ cO B gG tG kG ik le by_ tk bg en va tn bO sO nU (upd fS 5 (fS 5 + 1)) cW) = (VX cI cJ cO B (layS gG bO sO nU n (nI k)) tG kG ik le by_ tk bg en va tn bO sO nU (upd fS 5 (fS 5 + 1)) cW) := congrArg (fun z => (VX cI cJ cO B z tG kG ik le by_ tk bg en va tn bO sO nU (upd fS 5 (fS 5 + 1)) cW)) hE
      have hP : va_P D vwCl (VX cI cJ cO B (layS gG bO sO nU n (nI k)) tG kG ik le by_ tk bg en va tn bO sO nU (upd fS 5 (fS 5 + 1)) cW) H := Eq.mp (congrArg (fun z => va_P D vwCl z H) hW) hP
      have hD : va_D _ (VX cI cJ cO B (layS gG bO sO nU n (nI k)) tG kG ik le by_ tk bg en va tn bO sO nU (upd fS 5 (fS 5 + 1)) cW) := Eq.mp (congrArg (fun z => va_D _ z) hW) hD
      have hE : upd fS 5 (fS 5 + 1) = wrT fS (wrongS bO (nI k)) := by simp [layR, layS, wrT, wrongS, bump, put9, b2i, c21, yk, ek, i_lt, -Int32.not_le, -Int32.not_lt]
      have hW : (VX cI cJ cO B (layS gG bO sO nU n (nI k)) tG kG ik le by_ tk bg en va tn bO sO nU (upd fS 5 (fS 5 + 1)) cW) = (VX cI cJ cO B (layS gG bO sO nU n (nI k)) tG kG ik le by_ tk bg en va tn bO sO nU (wrT fS (wrongS bO (nI k))) cW) := congrArg (fun z => (VX cI cJ cO B (layS gG bO sO nU n (nI k)) tG kG ik le by_ tk bg en va tn bO sO nU z cW)) hE
      have hP : va_P D vwCl (VX cI cJ cO B (layS gG bO sO nU n (nI k)) tG kG ik le by_ tk bg en va tn bO sO nU (wrT fS (wrongS bO (nI k))) cW) H := Eq.mp (congrArg (fun z => va_P D vwCl z H) hW) hP
      have hD : va_D _ (VX cI cJ cO B (layS gG bO sO nU n (nI k)) tG kG ik le by_ tk bg en va tn bO sO nU (wrT fS (wrongS bO (nI k))) cW) := Eq.mp (congrArg (fun z => va_D _ z) hW) hD
      exact mu_iret (VX cI cJ cO B (layS gG bO sO nU n (nI k)) tG kG ik le by_ tk bg en va tn bO sO nU (wrT fS (wrongS bO (nI k))) cW) hx hb hr hlk hP hS rfl (⟨congrArg (fun z => some (Value.int z)) (by simp [layR, layS, wrT, wrongS, bump, put9, b2i, c21, yk, ek, i_lt, -Int32.not_le, -Int32.not_lt]), rfl⟩) dX3_lays_30

set_option maxHeartbeats 4000000 in
set_option maxRecDepth 100000 in
theorem k_X3_book (n : Nat) (x : Int32) (f : Int32) (hI : Inv gG n) (hh : rng (gG 0) 0 100000) (hSh : ShI sO) : MU l D (tyA cI cJ cO) yX3_book cX3_book 5 ((some .int)) 5 115 [.ref (B 0), .int x, .int f] (VX cI cJ cO B gG tG kG ik le by_ tk bg en va tn bO sO nU fS cW) (fun ov w' => ∃ tG' : Nat → Int32, ov = some (.int (bokR bO sO n x f)) ∧ w' = (VX cI cJ cO B gG tG' kG ik le by_ tk bg en va tn bO sO (bokN gG bO sO nU n x f) (bokT fS bO n x f) cW)) := by
  refine MU.mk (by decide) (Nat.le_of_ble_eq_true rfl) ?_
  intro p e s m below meth c ls S hr hlk hP hK hD hS hl
  have S : CallFix p m c cX3_book 5 s _ WL RX3 := S
  obtain ⟨hx, hb, hml, hown, hts⟩ := id S
  have hl : lv_has ls 5 [(0, .ref (B 0)), (1, .int x), (2, .int f)] := hl
  have h8 : n ≤ 8 := hI.1
  have hI0 := hI
  have hh0 := hh
  refine lv_aload_n hx hb dX3_book_0 rfl (lv_at hl 0 rfl) ?_
  refine lv_iload_n hx hb dX3_book_1 rfl (lv_at hl 1 rfl) ?_
  rcases sh_c x with hno | ⟨k, hk, rfl⟩
  · refine ro_V (w := (VX cI cJ cO B gG tG kG ik le by_ tk bg en va tn bO sO nU fS cW)) (rest := []) S hK hP (k_X3_sheetAt_no x hno) gv_X3_175 hd_X3_sheetAt ⟨Nat.le_of_ble_eq_true rfl, Nat.le_of_ble_eq_true rfl⟩ 3 rfl rfl rfl rfl hl.1 (lv_room (Nat.le_of_ble_eq_true rfl)) dX3_book_2 ⟨Nat.zero_le _, Nat.zero_le _⟩ ?_
    refine W.eq (g2 := F0 m 5 ls [.null]) rfl ?_
    refine lv_astore_nN (lv' := [(3, .null), (0, .ref (B 0)), (1, .int x), (2, .int f)]) hx hb dX3_book_5 rfl hl (by decide) rfl (fun ls hl => ?_)
    refine lv_aload_nN hx hb dX3_book_6 rfl (lv_at hl 0 rfl) ?_
    refine lv_ifnonnullN hx hb dX3_book_7 ?_
    refine lv_aload_n hx hb dX3_book_10 rfl (lv_at hl 1 rfl) ?_
    refine lv_ldc (v := (-1000000001)) hx hb hown (hts _ wq_X3_51) dX3_book_11 ?_
    refine mu_W (w := (VX cI cJ cO B gG tG kG ik le by_ tk bg en va tn bO sO nU fS cW)) (rest := []) S hK hP hD hS (k_X3_finding 0 (-1000000001) (by decide) (by decide)) gv_X3_52 hd_X3_finding ⟨Nat.le_of_ble_eq_true rfl, Nat.le_of_ble_eq_true rfl⟩ 3 rfl rfl rfl rfl hl.1 (lv_room (Nat.le_of_ble_eq_true rfl)) dX3_book_13 ⟨Nat.zero_le _, Nat.zero_le _⟩ (fun ov w' H locs hp hP hD hS => ?_)
    obtain ⟨rfl, rfl⟩ := hp
    have hP : va_P D vwCl (VX cI cJ cO B gG tG kG ik le by_ tk bg en va tn bO sO nU (upd fS 0 (fS 0 + 1)) cW) H := hP
    have hD : va_D _ (VX cI cJ cO B gG tG kG ik le by_ tk bg en va tn bO sO nU (upd fS 0 (fS 0 + 1)) cW) := hD
    refine W.eq (g2 := F0 m 16 ls [.int (-1000000001)]) rfl ?_
    have hE : upd fS 0 (fS 0 + 1) = bokT fS bO n x f := by simp [bokR, bokT, bokN, wrT, wrongS, bump, put9, b2i, hno, i_lt, -Int32.not_le, -Int32.not_lt]
    have hW : (VX cI cJ cO B gG tG kG ik le by_ tk bg en va tn bO sO nU (upd fS 0 (fS 0 + 1)) cW) = (VX cI cJ cO B gG tG kG ik le by_ tk bg en va tn bO sO nU (bokT fS bO n x f) cW) := congrArg (fun z => (VX cI cJ cO B gG tG kG ik le by_ tk bg en va tn bO sO nU z cW)) hE
    have hP : va_P D vwCl (VX cI cJ cO B gG tG kG ik le by_ tk bg en va tn bO sO nU (bokT fS bO n x f) cW) H := Eq.mp (congrArg (fun z => va_P D vwCl z H) hW) hP
    have hD : va_D _ (VX cI cJ cO B gG tG kG ik le by_ tk bg en va tn bO sO nU (bokT fS bO n x f) cW) := Eq.mp (congrArg (fun z => va_D _ z) hW) hD
    have hE : nU = bokN gG bO sO nU n x f := by simp [bokR, bokT, bokN, wrT, wrongS, bump, put9, b2i, hno, i_lt, -Int32.not_le, -Int32.not_lt]
    have hW : (VX cI cJ cO B gG tG kG ik le by_ tk bg en va tn bO sO nU (bokT fS bO n x f) cW) = (VX cI cJ cO B gG tG kG ik le by_ tk bg en va tn bO sO (bokN gG bO sO nU n x f) (bokT fS bO n x f) cW) := congrArg (fun z => (VX cI cJ cO B gG tG kG ik le by_ tk bg en va tn bO sO z (bokT fS bO n x f) cW)) hE
    have hP : va_P D vwCl (VX cI cJ cO B gG tG kG ik le by_ tk bg en va tn bO sO (bokN gG bO sO nU n x f) (bokT fS bO n x f) cW) H := Eq.mp (congrArg (fun z => va_P D vwCl z H) hW) hP
    have hD : va_D _ (VX cI cJ cO B gG tG kG ik le by_ tk bg en va tn bO sO (bokN gG bO sO nU n x f) (bokT fS bO n x f) cW) := Eq.mp (congrArg (fun z => va_D _ z) hW) hD
    exact mu_iret (VX cI cJ cO B gG tG kG ik le by_ tk bg en va tn bO sO (bokN gG bO sO nU n x f) (bokT fS bO n x f) cW) hx hb hr hlk hP hS rfl (⟨tG, congrArg (fun z => some (Value.int z)) (by simp [bokR, bokT, bokN, wrT, wrongS, bump, put9, b2i, hno, i_lt, -Int32.not_le, -Int32.not_lt]), rfl⟩) dX3_book_16
  · have yk : inI (nI k) 0 3 = true := sh_y hk
    have ek : cl (nI k) = k := cl_nI (by omega)
    obtain ⟨hz, hz40⟩ := sh_n hSh hk
    refine ro_V (w := (VX cI cJ cO B gG tG kG ik le by_ tk bg en va tn bO sO nU fS cW)) (rest := []) S hK hP (k_X3_sheetAt_k k (by omega)) gv_X3_175 hd_X3_sheetAt ⟨Nat.le_of_ble_eq_true rfl, Nat.le_of_ble_eq_true rfl⟩ 3 rfl rfl rfl rfl hl.1 (lv_room (Nat.le_of_ble_eq_true rfl)) dX3_book_2 ⟨Nat.zero_le _, Nat.zero_le _⟩ ?_
    refine W.eq (g2 := F0 m 5 ls [.ref (B (10 + 2 * k))]) rfl ?_
    refine lv_astore_n (lv' := [(3, .ref (B (10 + 2 * k))), (0, .ref (B 0)), (1, .int (nI k)), (2, .int f)]) hx hb dX3_book_5 rfl hl (by decide) rfl (fun ls hl => ?_)
    refine lv_aload_n hx hb dX3_book_6 rfl (lv_at hl 0 rfl) ?_
    refine lv_ifnonnull (tgt := 17) hx hb dX3_book_7 rfl ?_
    refine lv_aload_n hx hb dX3_book_17 rfl (lv_at hl 0 rfl) ?_
    refine ro_V (w := (SW cJ (B (10 + 2 * k)) (B (11 + 2 * k)) (bO k) (sO k) (fun z7 => nU (40 * k + z7)))) (rest := []) S hK (vx_sub hP (k := k) (by omega) (rfl)) (k_X1_isMissing ) gv_X3_185 hd_X1_isMissing ⟨Nat.le_of_ble_eq_true rfl, Nat.le_of_ble_eq_true rfl⟩ 1 rfl rfl rfl rfl hl.1 (lv_room (Nat.le_of_ble_eq_true rfl)) dX3_book_18 ⟨Nat.zero_le _, Nat.zero_le _⟩ ?_
    refine lv_if_eq (tgt := 31) hx hb dX3_book_21 rfl (fun c21 => ?_) (fun c21 => ?_)
    · replace c21 := (b2i_0 _).mp c21
      replace c21 := of_decide_eq_false c21
      refine lv_aload_n hx hb dX3_book_31 rfl (lv_at hl 1 rfl) ?_
      refine va_get (ci := 3) (v := .ref (B 1)) hx hb hts wx_X3 hown hK hP 0 rfl rfl 0 (by decide) (hts _ wf_X3_10) (fun _ h9 => h9) rfl dX3_book_32 ?_
      refine lv_iload_n hx hb dX3_book_35 rfl (lv_at hl 3 rfl) ?_
      refine ro_V (w := (GW cI (B 1) (B 2) (gG 0) (gG 2) (gG 1) (tl gG))) (rest := []) S hK (hP.sub [1, 2] rfl) (k_X0_lacks n f hI) gv_X3_95 hd_X0_lacks ⟨Nat.le_of_ble_eq_true rfl, Nat.le_of_ble_eq_true rfl⟩ 0 rfl rfl rfl rfl hl.1 (lv_room (Nat.le_of_ble_eq_true rfl)) dX3_book_36 ⟨Nat.zero_le _, Nat.zero_le _⟩ ?_
      refine lv_if_eq (tgt := 49) hx hb dX3_book_39 rfl (fun c39 => ?_) (fun c39 => ?_)
      · replace c39 := bn_0 c39
        obtain ⟨k0, hk0, rfl⟩ := fig_in hI.1 c39
        have h8 := hI.1
        have ek0 : cl (nI k0) = k0 := cl_nI (by omega)
        refine lv_aload_n hx hb dX3_book_49 rfl (lv_at hl 1 rfl) ?_
        refine va_get (ci := 3) (v := .ref (B 3)) hx hb hts wx_X3 hown hK hP 0 rfl rfl 1 (by decide) (hts _ wf_X3_16) (fun _ h9 => h9) rfl dX3_book_50 ?_
        refine lv_aload_n hx hb dX3_book_53 rfl (lv_at hl 1 rfl) ?_
        refine va_get (ci := 3) (v := .ref (B 1)) hx hb hts wx_X3 hown hK hP 0 rfl rfl 0 (by decide) (hts _ wf_X3_10) (fun _ h9 => h9) rfl dX3_book_54 ?_
        refine mu_V (w := (G2 cI (B 3) (B 4) (tG 0) (tG 2) (tG 1) (tl tG) (B 1) (B 2) (gG 0) (gG 2) (gG 1) (tl gG))) (rest := []) S hK hP hD hS (k_X0_become (g := tG) (g2 := gG)) gv_X3_135 hd_X0_become ⟨Nat.le_of_ble_eq_true rfl, Nat.le_of_ble_eq_true rfl⟩ [3, 4, 1, 2] rfl rfl 0 rfl rfl rfl rfl hl.1 (lv_room (Nat.le_of_ble_eq_true rfl)) dX3_book_57 ⟨Nat.zero_le _, Nat.zero_le _⟩ (fun ov w' H locs hp hP hD hS => ?_)
        obtain ⟨rfl, rfl⟩ := hp
        have hP : va_P D vwCl (VX cI cJ cO B gG gG kG ik le by_ tk bg en va tn bO sO nU fS cW) H := hP
        have hD : va_D _ (VX cI cJ cO B gG gG kG ik le by_ tk bg en va tn bO sO nU fS cW) := hD
        refine W.eq (g2 := F0 m 60 ls []) rfl ?_
        refine lv_iconst (v := 0) hx hb dX3_book_60 rfl ?_
        have hE : gG = hoursF gG n 0 := rfl
        have hW : (VX cI cJ cO B gG gG kG ik le by_ tk bg en va tn bO sO nU fS cW) = (VX cI cJ cO B gG (hoursF gG n 0) kG ik le by_ tk bg en va tn bO sO nU fS cW) := congrArg (fun z => (VX cI cJ cO B gG z kG ik le by_ tk bg en va tn bO sO nU fS cW)) hE
        have hP : va_P D vwCl (VX cI cJ cO B gG (hoursF gG n 0) kG ik le by_ tk bg en va tn bO sO nU fS cW) H := Eq.mp (congrArg (fun z => va_P D vwCl z H) hW) hP
        have hD : va_D _ (VX cI cJ cO B gG (hoursF gG n 0) kG ik le by_ tk bg en va tn bO sO nU fS cW) := Eq.mp (congrArg (fun z => va_D _ z) hW) hD
        have hE : nU = bokU gG n k0 (bO k) nU k 0 := bokU_0 _ _ _ _ _ _
        have hW : (VX cI cJ cO B gG (hoursF gG n 0) kG ik le by_ tk bg en va tn bO sO nU fS cW) = (VX cI cJ cO B gG (hoursF gG n 0) kG ik le by_ tk bg en va tn bO sO (bokU gG n k0 (bO k) nU k 0) fS cW) := congrArg (fun z => (VX cI cJ cO B gG (hoursF gG n 0) kG ik le by_ tk bg en va tn bO sO z fS cW)) hE
        have hP : va_P D vwCl (VX cI cJ cO B gG (hoursF gG n 0) kG ik le by_ tk bg en va tn bO sO (bokU gG n k0 (bO k) nU k 0) fS cW) H := Eq.mp (congrArg (fun z => va_P D vwCl z H) hW) hP
        have hD : va_D _ (VX cI cJ cO B gG (hoursF gG n 0) kG ik le by_ tk bg en va tn bO sO (bokU gG n k0 (bO k) nU k 0) fS cW) := Eq.mp (congrArg (fun z => va_D _ z) hW) hD
        refine lv_istore (lv' := [(4, .int 0), (3, .ref (B (10 + 2 * k))), (0, .ref (B 0)), (1, .int (nI k)), (2, .int (nI k0))]) hx hb dX3_book_61 hl (by decide) rfl (fun ls hl => ?_)
        refine w_loopH (pc := 63) (st := fun (i : Nat) => []) (μ := fun (i : Nat) => cl (sO k) - i) (I := fun (i : Nat) H locs ls => (i ≤ cl (sO k)) ∧ va_P D vwCl (VX cI cJ cO B gG (hoursF gG n i) kG ik le by_ tk bg en va tn bO sO (bokU gG n k0 (bO k) nU k i) fS cW) H ∧ va_D (fun z9 => z9 ∈ ((VX cI cJ cO B gG tG kG ik le by_ tk bg en va tn bO sO nU fS cW)).map (fun z8 => z8.1)) (VX cI cJ cO B gG (hoursF gG n i) kG ik le by_ tk bg en va tn bO sO (bokU gG n k0 (bO k) nU k i) fS cW) ∧ va_S (fun z9 => z9 ∈ ((VX cI cJ cO B gG tG kG ik le by_ tk bg en va tn bO sO nU fS cW)).map (fun z8 => z8.1)) s.heap H locs ∧ lv_has ls 5 [(0, .ref (B 0)), (1, .int (nI k)), (2, .int (nI k0)), (3, .ref (B (10 + 2 * k))), (4, .int (nI i))]) ?_ (0) ⟨Nat.zero_le _, hP, hD, hS, lv_sub hl [2, 3, 4, 1, 0] rfl⟩
        rintro i H locs ls ⟨hi, hP, hD, hS, hl⟩ ih63
        try dsimp only at ih63 ⊢
        have hI := Inv_hours hI0 i
        have hh : rng (hoursF gG n i 0) 0 200000 := hours_rng hh0 (by omega)
        refine lv_iload hx hb dX3_book_63 (lv_at hl 4 rfl) ?_
        refine lv_aload_n hx hb dX3_book_65 rfl (lv_at hl 3 rfl) ?_
        refine va_get (ci := 1) (v := .int (sO k)) hx hb hts wx_X1 hown hK (vx_sub hP (k := k) (by omega) (rfl)) 0 rfl rfl 1 (by decide) (hts _ wf_X3_184) (fun _ h9 => h9) rfl dX3_book_66 ?_
        refine w_i (z := nI (cl (sO k))) (hz) ?_
        refine lv_icmp_ge (tgt := 101) hx hb dX3_book_69 rfl (fun c69 => ?_) (fun c69 => ?_)
        · replace c69 := nq_le (a := (cl (sO k))) (b := i) (by omega) (by omega) c69
          have hie : i = cl (sO k) := by omega
          have hE : bokU gG n k0 (bO k) nU k i = bokU gG n k0 (bO k) nU k (cl (sO k)) := by rw [hie]
          have hW : (VX cI cJ cO B gG (hoursF gG n i) kG ik le by_ tk bg en va tn bO sO (bokU gG n k0 (bO k) nU k i) fS cW) = (VX cI cJ cO B gG (hoursF gG n i) kG ik le by_ tk bg en va tn bO sO (bokU gG n k0 (bO k) nU k (cl (sO k))) fS cW) := congrArg (fun z => (VX cI cJ cO B gG (hoursF gG n i) kG ik le by_ tk bg en va tn bO sO z fS cW)) hE
          have hP : va_P D vwCl (VX cI cJ cO B gG (hoursF gG n i) kG ik le by_ tk bg en va tn bO sO (bokU gG n k0 (bO k) nU k (cl (sO k))) fS cW) H := Eq.mp (congrArg (fun z => va_P D vwCl z H) hW) hP
          have hD : va_D _ (VX cI cJ cO B gG (hoursF gG n i) kG ik le by_ tk bg en va tn bO sO (bokU gG n k0 (bO k) nU k (cl (sO k))) fS cW) := Eq.mp (congrArg (fun z => va_D _ z) hW) hD
          refine lv_aload_n hx hb dX3_book_101 rfl (lv_at hl 3 rfl) ?_
          refine va_get (ci := 1) (v := .int (sO k)) hx hb hts wx_X1 hown hK (vx_sub hP (k := k) (by omega) (rfl)) 0 rfl rfl 1 (by decide) (hts _ wf_X3_184) (fun _ h9 => h9) rfl dX3_book_102 ?_
          refine w_i (z := nI (cl (sO k))) (hz) ?_
          have hE : fS = bokT fS bO n (nI k) (nI k0) := by simp [bokR, bokT, bokN, wrT, wrongS, bump, put9, b2i, c21, c39, c69, yk, ek, ek0, hz.symm, i_lt, -Int32.not_le, -Int32.not_lt]
          have hW : (VX cI cJ cO B gG (hoursF gG n i) kG ik le by_ tk bg en va tn bO sO (bokU gG n k0 (bO k) nU k (cl (sO k))) fS cW) = (VX cI cJ cO B gG (hoursF gG n i) kG ik le by_ tk bg en va tn bO sO (bokU gG n k0 (bO k) nU k (cl (sO k))) (bokT fS bO n (nI k) (nI k0)) cW) := congrArg (fun z => (VX cI cJ cO B gG (hoursF gG n i) kG ik le by_ tk bg en va tn bO sO (bokU gG n k0 (bO k) nU k (cl (sO k))) z cW)) hE
          have hP : va_P D vwCl (VX cI cJ cO B gG (hoursF gG n i) kG ik le by_ tk bg en va tn bO sO (bokU gG n k0 (bO k) nU k (cl (sO k))) (bokT fS bO n (nI k) (nI k0)) cW) H := Eq.mp (congrArg (fun z => va_P D vwCl z H) hW) hP
          have hD : va_D _ (VX cI cJ cO B gG (hoursF gG n i) kG ik le by_ tk bg en va tn bO sO (bokU gG n k0 (bO k) nU k (cl (sO k))) (bokT fS bO n (nI k) (nI k0)) cW) := Eq.mp (congrArg (fun z => va_D _ z) hW) hD
          have hE : bokU gG n k0 (bO k) nU k (cl (sO k)) = bokN gG bO sO nU n (nI k) (nI k0) := by simp [bokR, bokT, bokN, wrT, wrongS, bump, put9, b2i, c21, c39, c69, yk, ek, ek0, hz.symm, i_lt, -Int32.not_le, -Int32.not_lt]
          have hW : (VX cI cJ cO B gG (hoursF gG n i) kG ik le by_ tk bg en va tn bO sO (bokU gG n k0 (bO k) nU k (cl (sO k))) (bokT fS bO n (nI k) (nI k0)) cW) = (VX cI cJ cO B gG (hoursF gG n i) kG ik le by_ tk bg en va tn bO sO (bokN gG bO sO nU n (nI k) (nI k0)) (bokT fS bO n (nI k) (nI k0)) cW) := congrArg (fun z => (VX cI cJ cO B gG (hoursF gG n i) kG ik le by_ tk bg en va tn bO sO z (bokT fS bO n (nI k) (nI k0)) cW)) hE
          have hP : va_P D vwCl (VX cI cJ cO B gG (hoursF gG n i) kG ik le by_ tk bg en va tn bO sO (bokN gG bO sO nU n (nI k) (nI k0)) (bokT fS bO n (nI k) (nI k0)) cW) H := Eq.mp (congrArg (fun z => va_P D vwCl z H) hW) hP
          have hD : va_D _ (VX cI cJ cO B gG (hoursF gG n i) kG ik le by_ tk bg en va tn bO sO (bokN gG bO sO nU n (nI k) (nI k0)) (bokT fS bO n (nI k) (nI k0)) cW) := Eq.mp (congrArg (fun z => va_D _ z) hW) hD
          exact mu_iret (VX cI cJ cO B gG (hoursF gG n i) kG ik le by_ tk bg en va tn bO sO (bokN gG bO sO nU n (nI k) (nI k0)) (bokT fS bO n (nI k) (nI k0)) cW) hx hb hr hlk hP hS rfl (⟨(hoursF gG n i), congrArg (fun z => some (Value.int z)) (by simp [bokR, bokT, bokN, wrT, wrongS, bump, put9, b2i, c21, c39, c69, yk, ek, ek0, hz.symm, i_lt, -Int32.not_le, -Int32.not_lt]), rfl⟩) dX3_book_105
        · replace c69 := nq_nle (a := (cl (sO k))) (b := i) (by omega) (by omega) c69
          refine lv_aload_n hx hb dX3_book_72 rfl (lv_at hl 3 rfl) ?_
          refine lv_iload hx hb dX3_book_73 (lv_at hl 4 rfl) ?_
          refine lv_aload_n hx hb dX3_book_75 rfl (lv_at hl 0 rfl) ?_
          refine va_get (ci := 3) (v := .ref (B 3)) hx hb hts wx_X3 hown hK hP 0 rfl rfl 1 (by decide) (hts _ wf_X3_16) (fun _ h9 => h9) rfl dX3_book_76 ?_
          refine lv_iload_n hx hb dX3_book_79 rfl (lv_at hl 2 rfl) ?_
          refine ro_V (w := (GW cI (B 3) (B 4) ((hoursF gG n i) 0) ((hoursF gG n i) 2) ((hoursF gG n i) 1) (tl (hoursF gG n i)))) (rest := [.int (nI i), .ref (B (10 + 2 * k))]) S hK (hP.sub [3, 4] rfl) (k_X0_look k0 (by omega)) gv_X3_212 hd_X0_look ⟨Nat.le_of_ble_eq_true rfl, Nat.le_of_ble_eq_true rfl⟩ 0 rfl rfl rfl rfl hl.1 (lv_room (Nat.le_of_ble_eq_true rfl)) dX3_book_80 ⟨Nat.zero_le _, Nat.zero_le _⟩ ?_
          refine lv_i2l hx hb dX3_book_83 rfl ?_
          refine w_l (z := (look (hoursF gG n i) k0).toInt64) (rfl) ?_
          refine mu_V (w := (SW cJ (B (10 + 2 * k)) (B (11 + 2 * k)) (bO k) (nI (cl (sO k))) (fun z7 => (bokU gG n k0 (bO k) nU k i) (40 * k + z7)))) (rest := []) S hK hP hD hS (k_X1_put (cl (sO k)) i ((look (hoursF gG n i) k0).toInt64) (by omega) (by omega)) gv_X3_192 hd_X1_put ⟨Nat.le_of_ble_eq_true rfl, Nat.le_of_ble_eq_true rfl⟩ [10 + 2 * k, 11 + 2 * k] (vx_nd k) (vx_is (k := k) (by omega) (hz)) 1 rfl rfl rfl rfl hl.1 (lv_room (Nat.le_of_ble_eq_true rfl)) dX3_book_84 ⟨Nat.zero_le _, Nat.zero_le _⟩ (fun ov w' H locs hp hP hD hS => ?_)
          obtain ⟨rfl, rfl⟩ := hp
          obtain ⟨hP, hD⟩ := vx_wr (k := k) hP hD (by omega) (hz) (by omega)
          have hP : va_P D vwCl (VX cI cJ cO B gG (hoursF gG n i) kG ik le by_ tk bg en va tn bO sO (vp_updL (bokU gG n k0 (bO k) nU k i) (40 * k + i) (narL (bO k) ((look (hoursF gG n i) k0).toInt64))) fS cW) H := hP
          have hD : va_D _ (VX cI cJ cO B gG (hoursF gG n i) kG ik le by_ tk bg en va tn bO sO (vp_updL (bokU gG n k0 (bO k) nU k i) (40 * k + i) (narL (bO k) ((look (hoursF gG n i) k0).toInt64))) fS cW) := hD
          refine W.eq (g2 := F0 m 87 ls []) rfl ?_
          have hE : vp_updL (bokU gG n k0 (bO k) nU k i) (40 * k + i) (narL (bO k) ((look (hoursF gG n i) k0).toInt64)) = bokU gG n k0 (bO k) nU k (i + 1) := bokU_s
          have hW : (VX cI cJ cO B gG (hoursF gG n i) kG ik le by_ tk bg en va tn bO sO (vp_updL (bokU gG n k0 (bO k) nU k i) (40 * k + i) (narL (bO k) ((look (hoursF gG n i) k0).toInt64))) fS cW) = (VX cI cJ cO B gG (hoursF gG n i) kG ik le by_ tk bg en va tn bO sO (bokU gG n k0 (bO k) nU k (i + 1)) fS cW) := congrArg (fun z => (VX cI cJ cO B gG (hoursF gG n i) kG ik le by_ tk bg en va tn bO sO z fS cW)) hE
          have hP : va_P D vwCl (VX cI cJ cO B gG (hoursF gG n i) kG ik le by_ tk bg en va tn bO sO (bokU gG n k0 (bO k) nU k (i + 1)) fS cW) H := Eq.mp (congrArg (fun z => va_P D vwCl z H) hW) hP
          have hD : va_D _ (VX cI cJ cO B gG (hoursF gG n i) kG ik le by_ tk bg en va tn bO sO (bokU gG n k0 (bO k) nU k (i + 1)) fS cW) := Eq.mp (congrArg (fun z => va_D _ z) hW) hD
          refine lv_aload_n hx hb dX3_book_87 rfl (lv_at hl 0 rfl) ?_
          refine va_get (ci := 3) (v := .ref (B 3)) hx hb hts wx_X3 hown hK hP 0 rfl rfl 1 (by decide) (hts _ wf_X3_16) (fun _ h9 => h9) rfl dX3_book_88 ?_
          refine lv_iconst (v := 1) hx hb dX3_book_91 rfl ?_
          refine mu_V (w := (GW cI (B 3) (B 4) ((hoursF gG n i) 0) ((hoursF gG n i) 2) ((hoursF gG n i) 1) (tl (hoursF gG n i)))) (rest := []) S hK hP hD hS (k_X0_pass n 1 hI hh (by omega)) gv_X3_131 hd_X0_pass ⟨Nat.le_of_ble_eq_true rfl, Nat.le_of_ble_eq_true rfl⟩ [3, 4] rfl rfl 0 rfl rfl rfl rfl hl.1 (lv_room (Nat.le_of_ble_eq_true rfl)) dX3_book_92 ⟨Nat.zero_le _, Nat.zero_le _⟩ (fun ov w' H locs hp hP hD hS => ?_)
          obtain ⟨rfl, rfl⟩ := hp
          have hP : va_P D vwCl (VX cI cJ cO B gG (hoursF (hoursF gG n i) n 1) kG ik le by_ tk bg en va tn bO sO (bokU gG n k0 (bO k) nU k (i + 1)) fS cW) H := hP
          have hD : va_D _ (VX cI cJ cO B gG (hoursF (hoursF gG n i) n 1) kG ik le by_ tk bg en va tn bO sO (bokU gG n k0 (bO k) nU k (i + 1)) fS cW) := hD
          refine W.eq (g2 := F0 m 95 ls []) rfl ?_
          have hE : hoursF (hoursF gG n i) n 1 = hoursF gG n (i + 1) := rfl
          have hW : (VX cI cJ cO B gG (hoursF (hoursF gG n i) n 1) kG ik le by_ tk bg en va tn bO sO (bokU gG n k0 (bO k) nU k (i + 1)) fS cW) = (VX cI cJ cO B gG (hoursF gG n (i + 1)) kG ik le by_ tk bg en va tn bO sO (bokU gG n k0 (bO k) nU k (i + 1)) fS cW) := congrArg (fun z => (VX cI cJ cO B gG z kG ik le by_ tk bg en va tn bO sO (bokU gG n k0 (bO k) nU k (i + 1)) fS cW)) hE
          have hP : va_P D vwCl (VX cI cJ cO B gG (hoursF gG n (i + 1)) kG ik le by_ tk bg en va tn bO sO (bokU gG n k0 (bO k) nU k (i + 1)) fS cW) H := Eq.mp (congrArg (fun z => va_P D vwCl z H) hW) hP
          have hD : va_D _ (VX cI cJ cO B gG (hoursF gG n (i + 1)) kG ik le by_ tk bg en va tn bO sO (bokU gG n k0 (bO k) nU k (i + 1)) fS cW) := Eq.mp (congrArg (fun z => va_D _ z) hW) hD
          refine lv_iinc (v := nI (i + 1)) (lv' := [(4, .int (nI (i + 1))), (0, .ref (B 0)), (1, .int (nI k)), (2, .int (nI k0)), (3, .ref (B (10 + 2 * k)))]) hx hb dX3_book_95 hl (k := 4) rfl (nI_inc _) (by decide) rfl (fun ls hl => ?_)
          refine lv_goto (tgt := 63) hx hb dX3_book_98 rfl ?_
          exact ih63 (i + 1) _ _ ls (by first | omega | (dsimp only; omega)) ⟨(by omega), hP, hD, hS, lv_sub hl [1, 2, 3, 4, 0] rfl⟩
      · replace c39 := bn_n0 c39
        refine lv_aload_n hx hb dX3_book_42 rfl (lv_at hl 1 rfl) ?_
        refine lv_ldc (v := (-1000000001)) hx hb hown (hts _ wq_X3_51) dX3_book_43 ?_
        refine mu_W (w := (VX cI cJ cO B gG tG kG ik le by_ tk bg en va tn bO sO nU fS cW)) (rest := []) S hK hP hD hS (k_X3_finding 0 (-1000000001) (by decide) (by decide)) gv_X3_52 hd_X3_finding ⟨Nat.le_of_ble_eq_true rfl, Nat.le_of_ble_eq_true rfl⟩ 3 rfl rfl rfl rfl hl.1 (lv_room (Nat.le_of_ble_eq_true rfl)) dX3_book_45 ⟨Nat.zero_le _, Nat.zero_le _⟩ (fun ov w' H locs hp hP hD hS => ?_)
        obtain ⟨rfl, rfl⟩ := hp
        have hP : va_P D vwCl (VX cI cJ cO B gG tG kG ik le by_ tk bg en va tn bO sO nU (upd fS 0 (fS 0 + 1)) cW) H := hP
        have hD : va_D _ (VX cI cJ cO B gG tG kG ik le by_ tk bg en va tn bO sO nU (upd fS 0 (fS 0 + 1)) cW) := hD
        refine W.eq (g2 := F0 m 48 ls [.int (-1000000001)]) rfl ?_
        have hE : upd fS 0 (fS 0 + 1) = bokT fS bO n (nI k) f := by simp [bokR, bokT, bokN, wrT, wrongS, bump, put9, b2i, c21, c39, yk, ek, i_lt, -Int32.not_le, -Int32.not_lt]
        have hW : (VX cI cJ cO B gG tG kG ik le by_ tk bg en va tn bO sO nU (upd fS 0 (fS 0 + 1)) cW) = (VX cI cJ cO B gG tG kG ik le by_ tk bg en va tn bO sO nU (bokT fS bO n (nI k) f) cW) := congrArg (fun z => (VX cI cJ cO B gG tG kG ik le by_ tk bg en va tn bO sO nU z cW)) hE
        have hP : va_P D vwCl (VX cI cJ cO B gG tG kG ik le by_ tk bg en va tn bO sO nU (bokT fS bO n (nI k) f) cW) H := Eq.mp (congrArg (fun z => va_P D vwCl z H) hW) hP
        have hD : va_D _ (VX cI cJ cO B gG tG kG ik le by_ tk bg en va tn bO sO nU (bokT fS bO n (nI k) f) cW) := Eq.mp (congrArg (fun z => va_D _ z) hW) hD
        have hE : nU = bokN gG bO sO nU n (nI k) f := by simp [bokR, bokT, bokN, wrT, wrongS, bump, put9, b2i, c21, c39, yk, ek, i_lt, -Int32.not_le, -Int32.not_lt]
        have hW : (VX cI cJ cO B gG tG kG ik le by_ tk bg en va tn bO sO nU (bokT fS bO n (nI k) f) cW) = (VX cI cJ cO B gG tG kG ik le by_ tk bg en va tn bO sO (bokN gG bO sO nU n (nI k) f) (bokT fS bO n (nI k) f) cW) := congrArg (fun z => (VX cI cJ cO B gG tG kG ik le by_ tk bg en va tn bO sO z (bokT fS bO n (nI k) f) cW)) hE
        have hP : va_P D vwCl (VX cI cJ cO B gG tG kG ik le by_ tk bg en va tn bO sO (bokN gG bO sO nU n (nI k) f) (bokT fS bO n (nI k) f) cW) H := Eq.mp (congrArg (fun z => va_P D vwCl z H) hW) hP
        have hD : va_D _ (VX cI cJ cO B gG tG kG ik le by_ tk bg en va tn bO sO (bokN gG bO sO nU n (nI k) f) (bokT fS bO n (nI k) f) cW) := Eq.mp (congrArg (fun z => va_D _ z) hW) hD
        exact mu_iret (VX cI cJ cO B gG tG kG ik le by_ tk bg en va tn bO sO (bokN gG bO sO nU n (nI k) f) (bokT fS bO n (nI k) f) cW) hx hb hr hlk hP hS rfl (⟨tG, congrArg (fun z => some (Value.int z)) (by simp [bokR, bokT, bokN, wrT, wrongS, bump, put9, b2i, c21, c39, yk, ek, i_lt, -Int32.not_le, -Int32.not_lt]), rfl⟩) dX3_book_48
    · replace c21 := b2i_n0 c21
      replace c21 := of_decide_eq_true c21
      refine lv_aload_n hx hb dX3_book_24 rfl (lv_at hl 1 rfl) ?_
      refine lv_ldc (v := (-1000000006)) hx hb hown (hts _ wq_X3_188) dX3_book_25 ?_
      refine mu_W (w := (VX cI cJ cO B gG tG kG ik le by_ tk bg en va tn bO sO nU fS cW)) (rest := []) S hK hP hD hS (k_X3_finding 5 (-1000000006) (by decide) (by decide)) gv_X3_52 hd_X3_finding ⟨Nat.le_of_ble_eq_true rfl, Nat.le_of_ble_eq_true rfl⟩ 3 rfl rfl rfl rfl hl.1 (lv_room (Nat.le_of_ble_eq_true rfl)) dX3_book_27 ⟨Nat.zero_le _, Nat.zero_le _⟩ (fun ov w' H locs hp hP hD hS => ?_)
      obtain ⟨rfl, rfl⟩ := hp
      have hP : va_P D vwCl (VX cI cJ cO B gG tG kG ik le by_ tk bg en va tn bO sO nU (upd fS 5 (fS 5 + 1)) cW) H := hP
      have hD : va_D _ (VX cI cJ cO B gG tG kG ik le by_ tk bg en va tn bO sO nU (upd fS 5 (fS 5 + 1)) cW) := hD
      refine W.eq (g2 := F0 m 30 ls [.int (-1000000006)]) rfl ?_
      have hE : upd fS 5 (fS 5 + 1) = bokT fS bO n (nI k) f := by simp [bokR, bokT, bokN, wrT, wrongS, bump, put9, b2i, c21, yk, ek, i_lt, -Int32.not_le, -Int32.not_lt]
      have hW : (VX cI cJ cO B gG tG kG ik le by_ tk bg en va tn bO sO nU (upd fS 5 (fS 5 + 1)) cW) = (VX cI cJ cO B gG tG kG ik le by_ tk bg en va tn bO sO nU (bokT fS bO n (nI k) f) cW) := congrArg (fun z => (VX cI cJ cO B gG tG kG ik le by_ tk bg en va tn bO sO nU z cW)) hE
      have hP : va_P D vwCl (VX cI cJ cO B gG tG kG ik le by_ tk bg en va tn bO sO nU (bokT fS bO n (nI k) f) cW) H := Eq.mp (congrArg (fun z => va_P D vwCl z H) hW) hP
      have hD : va_D _ (VX cI cJ cO B gG tG kG ik le by_ tk bg en va tn bO sO nU (bokT fS bO n (nI k) f) cW) := Eq.mp (congrArg (fun z => va_D _ z) hW) hD
      have hE : nU = bokN gG bO sO nU n (nI k) f := by simp [bokR, bokT, bokN, wrT, wrongS, bump, put9, b2i, c21, yk, ek, i_lt, -Int32.not_le, -Int32.not_lt]
      have hW : (VX cI cJ cO B gG tG kG ik le by_ tk bg en va tn bO sO nU (bokT fS bO n (nI k) f) cW) = (VX cI cJ cO B gG tG kG ik le by_ tk bg en va tn bO sO (bokN gG bO sO nU n (nI k) f) (bokT fS bO n (nI k) f) cW) := congrArg (fun z => (VX cI cJ cO B gG tG kG ik le by_ tk bg en va tn bO sO z (bokT fS bO n (nI k) f) cW)) hE
      have hP : va_P D vwCl (VX cI cJ cO B gG tG kG ik le by_ tk bg en va tn bO sO (bokN gG bO sO nU n (nI k) f) (bokT fS bO n (nI k) f) cW) H := Eq.mp (congrArg (fun z => va_P D vwCl z H) hW) hP
      have hD : va_D _ (VX cI cJ cO B gG tG kG ik le by_ tk bg en va tn bO sO (bokN gG bO sO nU n (nI k) f) (bokT fS bO n (nI k) f) cW) := Eq.mp (congrArg (fun z => va_D _ z) hW) hD
      exact mu_iret (VX cI cJ cO B gG tG kG ik le by_ tk bg en va tn bO sO (bokN gG bO sO nU n (nI k) f) (bokT fS bO n (nI k) f) cW) hx hb hr hlk hP hS rfl (⟨tG, congrArg (fun z => some (Value.int z)) (by simp [bokR, bokT, bokN, wrT, wrongS, bump, put9, b2i, c21, yk, ek, i_lt, -Int32.not_le, -Int32.not_lt]), rfl⟩) dX3_book_30

set_option maxHeartbeats 4000000 in
set_option maxRecDepth 100000 in
theorem k_X3_trialGoesAs (n : Nat) (k : Nat) (f : Nat) (hI : Inv tG n) (hh : rng (tG 0) 0 100000) (hk : k < 4) (hf : f < n) (hSh : ShI sO) : MU l D (tyA cI cJ cO) yX3_trialGoesAs cX3_trialGoesAs 4 ((some .boolean)) 5 115 [.ref (B 0), .ref (B (10 + 2 * k)), .int (nI f)] (VX cI cJ cO B gG tG kG ik le by_ tk bg en va tn bO sO nU fS cW) (fun ov w' => ∃ i' : Nat, ov = some (.int (b2i (allF (rdP tG n f nU k) (cl (sO k))))) ∧ w' = (VX cI cJ cO B gG (hoursF tG n i') kG ik le by_ tk bg en va tn bO sO nU fS cW)) := by
  refine MU.mk (by decide) (Nat.le_of_ble_eq_true rfl) ?_
  intro p e s m below meth c ls S hr hlk hP hK hD hS hl
  have S : CallFix p m c cX3_trialGoesAs 4 s _ WL RX3 := S
  obtain ⟨hx, hb, hml, hown, hts⟩ := id S
  have hl : lv_has ls 4 [(0, .ref (B 0)), (1, .ref (B (10 + 2 * k))), (2, .int (nI f))] := hl
  have h8 : n ≤ 8 := hI.1
  obtain ⟨hz, hz40⟩ := sh_n hSh hk
  have hI0 := hI
  have hh0 := hh
  refine lv_iconst (v := 0) hx hb dX3_trialGoesAs_0 rfl ?_
  have hE : tG = hoursF tG n 0 := rfl
  have hW : (VX cI cJ cO B gG tG kG ik le by_ tk bg en va tn bO sO nU fS cW) = (VX cI cJ cO B gG (hoursF tG n 0) kG ik le by_ tk bg en va tn bO sO nU fS cW) := congrArg (fun z => (VX cI cJ cO B gG z kG ik le by_ tk bg en va tn bO sO nU fS cW)) hE
  have hP : va_P D vwCl (VX cI cJ cO B gG (hoursF tG n 0) kG ik le by_ tk bg en va tn bO sO nU fS cW) s.heap := Eq.mp (congrArg (fun z => va_P D vwCl z s.heap) hW) hP
  have hD : va_D _ (VX cI cJ cO B gG (hoursF tG n 0) kG ik le by_ tk bg en va tn bO sO nU fS cW) := Eq.mp (congrArg (fun z => va_D _ z) hW) hD
  refine lv_istore_n (lv' := [(3, .int 0), (0, .ref (B 0)), (1, .ref (B (10 + 2 * k))), (2, .int (nI f))]) hx hb dX3_trialGoesAs_1 rfl hl (by decide) rfl (fun ls hl => ?_)
  refine w_loopH (pc := 2) (st := fun (i : Nat) => []) (μ := fun (i : Nat) => cl (sO k) - i) (I := fun (i : Nat) H locs ls => (i ≤ cl (sO k)) ∧ (∀ a, a < i → (rdP tG n f nU k) a = true) ∧ va_P D vwCl (VX cI cJ cO B gG (hoursF tG n i) kG ik le by_ tk bg en va tn bO sO nU fS cW) H ∧ va_D (fun z9 => z9 ∈ ((VX cI cJ cO B gG tG kG ik le by_ tk bg en va tn bO sO nU fS cW)).map (fun z8 => z8.1)) (VX cI cJ cO B gG (hoursF tG n i) kG ik le by_ tk bg en va tn bO sO nU fS cW) ∧ va_S (fun z9 => z9 ∈ ((VX cI cJ cO B gG tG kG ik le by_ tk bg en va tn bO sO nU fS cW)).map (fun z8 => z8.1)) s.heap H locs ∧ lv_has ls 4 [(0, .ref (B 0)), (1, .ref (B (10 + 2 * k))), (2, .int (nI f)), (3, .int (nI i))]) ?_ (0) ⟨Nat.zero_le _, fun a h => absurd h (Nat.not_lt_zero a), hP, hD, hS, lv_sub hl [1, 2, 3, 0] rfl⟩
  rintro i H locs ls ⟨hi, hall, hP, hD, hS, hl⟩ ih2
  try dsimp only at ih2 ⊢
  have hI := Inv_hours hI0 i
  have hh : rng (hoursF tG n i 0) 0 200000 := hours_rng hh0 (by omega)
  refine lv_iload_n hx hb dX3_trialGoesAs_2 rfl (lv_at hl 3 rfl) ?_
  refine lv_aload_n hx hb dX3_trialGoesAs_3 rfl (lv_at hl 1 rfl) ?_
  refine va_get (ci := 1) (v := .int (sO k)) hx hb hts wx_X1 hown hK (vx_sub hP (k := k) (by omega) (rfl)) 0 rfl rfl 1 (by decide) (hts _ wf_X3_184) (fun _ h9 => h9) rfl dX3_trialGoesAs_4 ?_
  refine w_i (z := nI (cl (sO k))) (hz) ?_
  refine lv_icmp_ge (tgt := 44) hx hb dX3_trialGoesAs_7 rfl (fun c7 => ?_) (fun c7 => ?_)
  · replace c7 := nq_le (a := (cl (sO k))) (b := i) (by omega) (by omega) c7
    refine lv_iconst (v := 1) hx hb dX3_trialGoesAs_44 rfl ?_
    exact mu_zret true (rfl) (VX cI cJ cO B gG (hoursF tG n i) kG ik le by_ tk bg en va tn bO sO nU fS cW) hx hb hr hlk hP hS rfl (⟨i, congrArg (fun z => some (Value.int (b2i z))) (allF_t (fun a ha => hall a (by omega))).symm, rfl⟩) dX3_trialGoesAs_45
  · replace c7 := nq_nle (a := (cl (sO k))) (b := i) (by omega) (by omega) c7
    refine lv_aload_n hx hb dX3_trialGoesAs_10 rfl (lv_at hl 1 rfl) ?_
    refine lv_iload_n hx hb dX3_trialGoesAs_11 rfl (lv_at hl 3 rfl) ?_
    refine ro_V (w := (SW cJ (B (10 + 2 * k)) (B (11 + 2 * k)) (bO k) (nI (cl (sO k))) (fun z7 => nU (40 * k + z7)))) (rest := []) S hK (vx_sub hP (k := k) (by omega) (hz)) (k_X1_get (cl (sO k)) i (by omega) (by omega)) gv_X3_189 hd_X1_get ⟨Nat.le_of_ble_eq_true rfl, Nat.le_of_ble_eq_true rfl⟩ 1 rfl rfl rfl rfl hl.1 (lv_room (Nat.le_of_ble_eq_true rfl)) dX3_trialGoesAs_12 ⟨Nat.zero_le _, Nat.zero_le _⟩ ?_
    refine lv_aload_n hx hb dX3_trialGoesAs_15 rfl (lv_at hl 0 rfl) ?_
    refine va_get (ci := 3) (v := .ref (B 3)) hx hb hts wx_X3 hown hK hP 0 rfl rfl 1 (by decide) (hts _ wf_X3_16) (fun _ h9 => h9) rfl dX3_trialGoesAs_16 ?_
    refine lv_iload_n hx hb dX3_trialGoesAs_19 rfl (lv_at hl 2 rfl) ?_
    refine ro_V (w := (GW cI (B 3) (B 4) ((hoursF tG n i) 0) ((hoursF tG n i) 2) ((hoursF tG n i) 1) (tl (hoursF tG n i)))) (rest := [.long (nU (40 * k + i))]) S hK (hP.sub [3, 4] rfl) (k_X0_look f (by omega)) gv_X3_212 hd_X0_look ⟨Nat.le_of_ble_eq_true rfl, Nat.le_of_ble_eq_true rfl⟩ 0 rfl rfl rfl rfl hl.1 (lv_room (Nat.le_of_ble_eq_true rfl)) dX3_trialGoesAs_20 ⟨Nat.zero_le _, Nat.zero_le _⟩ ?_
    refine lv_i2l hx hb dX3_trialGoesAs_23 rfl ?_
    refine W.lcmp hx hb dX3_trialGoesAs_24 ?_
    refine lv_if_eq (tgt := 30) hx hb dX3_trialGoesAs_25 rfl (fun c25 => ?_) (fun c25 => ?_)
    · replace c25 := lc_eq c25
      refine lv_aload_n hx hb dX3_trialGoesAs_30 rfl (lv_at hl 0 rfl) ?_
      refine va_get (ci := 3) (v := .ref (B 3)) hx hb hts wx_X3 hown hK hP 0 rfl rfl 1 (by decide) (hts _ wf_X3_16) (fun _ h9 => h9) rfl dX3_trialGoesAs_31 ?_
      refine lv_iconst (v := 1) hx hb dX3_trialGoesAs_34 rfl ?_
      refine mu_V (w := (GW cI (B 3) (B 4) ((hoursF tG n i) 0) ((hoursF tG n i) 2) ((hoursF tG n i) 1) (tl (hoursF tG n i)))) (rest := []) S hK hP hD hS (k_X0_pass n 1 hI hh (by omega)) gv_X3_131 hd_X0_pass ⟨Nat.le_of_ble_eq_true rfl, Nat.le_of_ble_eq_true rfl⟩ [3, 4] rfl rfl 0 rfl rfl rfl rfl hl.1 (lv_room (Nat.le_of_ble_eq_true rfl)) dX3_trialGoesAs_35 ⟨Nat.zero_le _, Nat.zero_le _⟩ (fun ov w' H locs hp hP hD hS => ?_)
      obtain ⟨rfl, rfl⟩ := hp
      have hP : va_P D vwCl (VX cI cJ cO B gG (hoursF (hoursF tG n i) n 1) kG ik le by_ tk bg en va tn bO sO nU fS cW) H := hP
      have hD : va_D _ (VX cI cJ cO B gG (hoursF (hoursF tG n i) n 1) kG ik le by_ tk bg en va tn bO sO nU fS cW) := hD
      refine W.eq (g2 := F0 m 38 ls []) rfl ?_
      have hE : hoursF (hoursF tG n i) n 1 = hoursF tG n (i + 1) := rfl
      have hW : (VX cI cJ cO B gG (hoursF (hoursF tG n i) n 1) kG ik le by_ tk bg en va tn bO sO nU fS cW) = (VX cI cJ cO B gG (hoursF tG n (i + 1)) kG ik le by_ tk bg en va tn bO sO nU fS cW) := congrArg (fun z => (VX cI cJ cO B gG z kG ik le by_ tk bg en va tn bO sO nU fS cW)) hE
      have hP : va_P D vwCl (VX cI cJ cO B gG (hoursF tG n (i + 1)) kG ik le by_ tk bg en va tn bO sO nU fS cW) H := Eq.mp (congrArg (fun z => va_P D vwCl z H) hW) hP
      have hD : va_D _ (VX cI cJ cO B gG (hoursF tG n (i + 1)) kG ik le by_ tk bg en va tn bO sO nU fS cW) := Eq.mp (congrArg (fun z => va_D _ z) hW) hD
      refine lv_iinc (v := nI (i + 1)) (lv' := [(3, .int (nI (i + 1))), (0, .ref (B 0)), (1, .ref (B (10 + 2 * k))), (2, .int (nI f))]) hx hb dX3_trialGoesAs_38 hl (k := 3) rfl (nI_inc _) (by decide) rfl (fun ls hl => ?_)
      refine lv_goto (tgt := 2) hx hb dX3_trialGoesAs_41 rfl ?_
      exact ih2 (i + 1) _ _ ls (by first | omega | (dsimp only; omega)) ⟨(by omega), lt_s hall (decide_eq_true c25), hP, hD, hS, lv_sub hl [1, 2, 3, 0] rfl⟩
    · replace c25 := lc_neq c25
      refine lv_iconst (v := 0) hx hb dX3_trialGoesAs_28 rfl ?_
      exact mu_zret false (rfl) (VX cI cJ cO B gG (hoursF tG n i) kG ik le by_ tk bg en va tn bO sO nU fS cW) hx hb hr hlk hP hS rfl (⟨i, congrArg (fun z => some (Value.int (b2i z))) (allF_f (decide_eq_false c25) (show i < cl (sO k) by omega)).symm, rfl⟩) dX3_trialGoesAs_29

set_option maxHeartbeats 4000000 in
set_option maxRecDepth 100000 in
theorem k_X3_read (n : Nat) (x : Int32) (f : Int32) (hI : Inv gG n) (hh : rng (gG 0) 0 100000) (hSh : ShI sO) : MU l D (tyA cI cJ cO) yX3_read cX3_read 7 ((some .int)) 6 138 [.ref (B 0), .int x, .int f] (VX cI cJ cO B gG tG kG ik le by_ tk bg en va tn bO sO nU fS cW) (fun ov w' => ∃ tG' : Nat → Int32, ov = some (.int (rdR gG bO sO nU n x f)) ∧ w' = (VX cI cJ cO B gG tG' kG ik le by_ tk bg en va tn bO sO nU (bokT fS bO n x f) cW)) := by
  refine MU.mk (by decide) (Nat.le_of_ble_eq_true rfl) ?_
  intro p e s m below meth c ls S hr hlk hP hK hD hS hl
  have S : CallFix p m c cX3_read 7 s _ WL RX3 := S
  obtain ⟨hx, hb, hml, hown, hts⟩ := id S
  have hl : lv_has ls 7 [(0, .ref (B 0)), (1, .int x), (2, .int f)] := hl
  have h8 : n ≤ 8 := hI.1
  have hI0 := hI
  have hh0 := hh
  refine lv_aload_n hx hb dX3_read_0 rfl (lv_at hl 0 rfl) ?_
  refine lv_iload_n hx hb dX3_read_1 rfl (lv_at hl 1 rfl) ?_
  rcases sh_c x with hno | ⟨k, hk, rfl⟩
  · refine ro_V (w := (VX cI cJ cO B gG tG kG ik le by_ tk bg en va tn bO sO nU fS cW)) (rest := []) S hK hP (k_X3_sheetAt_no x hno) gv_X3_175 hd_X3_sheetAt ⟨Nat.le_of_ble_eq_true rfl, Nat.le_of_ble_eq_true rfl⟩ 3 rfl rfl rfl rfl hl.1 (lv_room (Nat.le_of_ble_eq_true rfl)) dX3_read_2 ⟨Nat.zero_le _, Nat.zero_le _⟩ ?_
    refine W.eq (g2 := F0 m 5 ls [.null]) rfl ?_
    refine lv_astore_nN (lv' := [(3, .null), (0, .ref (B 0)), (1, .int x), (2, .int f)]) hx hb dX3_read_5 rfl hl (by decide) rfl (fun ls hl => ?_)
    refine lv_aload_nN hx hb dX3_read_6 rfl (lv_at hl 0 rfl) ?_
    refine lv_ifnonnullN hx hb dX3_read_7 ?_
    refine lv_aload_n hx hb dX3_read_10 rfl (lv_at hl 1 rfl) ?_
    refine lv_ldc (v := (-1000000001)) hx hb hown (hts _ wq_X3_51) dX3_read_11 ?_
    refine mu_W (w := (VX cI cJ cO B gG tG kG ik le by_ tk bg en va tn bO sO nU fS cW)) (rest := []) S hK hP hD hS (k_X3_finding 0 (-1000000001) (by decide) (by decide)) gv_X3_52 hd_X3_finding ⟨Nat.le_of_ble_eq_true rfl, Nat.le_of_ble_eq_true rfl⟩ 3 rfl rfl rfl rfl hl.1 (lv_room (Nat.le_of_ble_eq_true rfl)) dX3_read_13 ⟨Nat.zero_le _, Nat.zero_le _⟩ (fun ov w' H locs hp hP hD hS => ?_)
    obtain ⟨rfl, rfl⟩ := hp
    have hP : va_P D vwCl (VX cI cJ cO B gG tG kG ik le by_ tk bg en va tn bO sO nU (upd fS 0 (fS 0 + 1)) cW) H := hP
    have hD : va_D _ (VX cI cJ cO B gG tG kG ik le by_ tk bg en va tn bO sO nU (upd fS 0 (fS 0 + 1)) cW) := hD
    refine W.eq (g2 := F0 m 16 ls [.int (-1000000001)]) rfl ?_
    have hE : upd fS 0 (fS 0 + 1) = bokT fS bO n x f := by simp [rdR, bokT, wrT, wrongS, bump, put9, b2i, hno, i_lt, -Int32.not_le, -Int32.not_lt]
    have hW : (VX cI cJ cO B gG tG kG ik le by_ tk bg en va tn bO sO nU (upd fS 0 (fS 0 + 1)) cW) = (VX cI cJ cO B gG tG kG ik le by_ tk bg en va tn bO sO nU (bokT fS bO n x f) cW) := congrArg (fun z => (VX cI cJ cO B gG tG kG ik le by_ tk bg en va tn bO sO nU z cW)) hE
    have hP : va_P D vwCl (VX cI cJ cO B gG tG kG ik le by_ tk bg en va tn bO sO nU (bokT fS bO n x f) cW) H := Eq.mp (congrArg (fun z => va_P D vwCl z H) hW) hP
    have hD : va_D _ (VX cI cJ cO B gG tG kG ik le by_ tk bg en va tn bO sO nU (bokT fS bO n x f) cW) := Eq.mp (congrArg (fun z => va_D _ z) hW) hD
    exact mu_iret (VX cI cJ cO B gG tG kG ik le by_ tk bg en va tn bO sO nU (bokT fS bO n x f) cW) hx hb hr hlk hP hS rfl (⟨tG, congrArg (fun z => some (Value.int z)) (by simp [rdR, bokT, wrT, wrongS, bump, put9, b2i, hno, i_lt, -Int32.not_le, -Int32.not_lt]), rfl⟩) dX3_read_16
  · have yk : inI (nI k) 0 3 = true := sh_y hk
    have ek : cl (nI k) = k := cl_nI (by omega)
    obtain ⟨hz, hz40⟩ := sh_n hSh hk
    refine ro_V (w := (VX cI cJ cO B gG tG kG ik le by_ tk bg en va tn bO sO nU fS cW)) (rest := []) S hK hP (k_X3_sheetAt_k k (by omega)) gv_X3_175 hd_X3_sheetAt ⟨Nat.le_of_ble_eq_true rfl, Nat.le_of_ble_eq_true rfl⟩ 3 rfl rfl rfl rfl hl.1 (lv_room (Nat.le_of_ble_eq_true rfl)) dX3_read_2 ⟨Nat.zero_le _, Nat.zero_le _⟩ ?_
    refine W.eq (g2 := F0 m 5 ls [.ref (B (10 + 2 * k))]) rfl ?_
    refine lv_astore_n (lv' := [(3, .ref (B (10 + 2 * k))), (0, .ref (B 0)), (1, .int (nI k)), (2, .int f)]) hx hb dX3_read_5 rfl hl (by decide) rfl (fun ls hl => ?_)
    refine lv_aload_n hx hb dX3_read_6 rfl (lv_at hl 0 rfl) ?_
    refine lv_ifnonnull (tgt := 17) hx hb dX3_read_7 rfl ?_
    refine lv_aload_n hx hb dX3_read_17 rfl (lv_at hl 0 rfl) ?_
    refine ro_V (w := (SW cJ (B (10 + 2 * k)) (B (11 + 2 * k)) (bO k) (sO k) (fun z7 => nU (40 * k + z7)))) (rest := []) S hK (vx_sub hP (k := k) (by omega) (rfl)) (k_X1_isMissing ) gv_X3_185 hd_X1_isMissing ⟨Nat.le_of_ble_eq_true rfl, Nat.le_of_ble_eq_true rfl⟩ 1 rfl rfl rfl rfl hl.1 (lv_room (Nat.le_of_ble_eq_true rfl)) dX3_read_18 ⟨Nat.zero_le _, Nat.zero_le _⟩ ?_
    refine lv_if_eq (tgt := 31) hx hb dX3_read_21 rfl (fun c21 => ?_) (fun c21 => ?_)
    · replace c21 := (b2i_0 _).mp c21
      replace c21 := of_decide_eq_false c21
      refine lv_aload_n hx hb dX3_read_31 rfl (lv_at hl 1 rfl) ?_
      refine va_get (ci := 3) (v := .ref (B 1)) hx hb hts wx_X3 hown hK hP 0 rfl rfl 0 (by decide) (hts _ wf_X3_10) (fun _ h9 => h9) rfl dX3_read_32 ?_
      refine lv_iload_n hx hb dX3_read_35 rfl (lv_at hl 3 rfl) ?_
      refine ro_V (w := (GW cI (B 1) (B 2) (gG 0) (gG 2) (gG 1) (tl gG))) (rest := []) S hK (hP.sub [1, 2] rfl) (k_X0_lacks n f hI) gv_X3_95 hd_X0_lacks ⟨Nat.le_of_ble_eq_true rfl, Nat.le_of_ble_eq_true rfl⟩ 0 rfl rfl rfl rfl hl.1 (lv_room (Nat.le_of_ble_eq_true rfl)) dX3_read_36 ⟨Nat.zero_le _, Nat.zero_le _⟩ ?_
      refine lv_if_eq (tgt := 49) hx hb dX3_read_39 rfl (fun c39 => ?_) (fun c39 => ?_)
      · replace c39 := bn_0 c39
        obtain ⟨k0, hk0, rfl⟩ := fig_in hI.1 c39
        have h8 := hI.1
        have ek0 : cl (nI k0) = k0 := cl_nI (by omega)
        refine lv_iconst (v := 0) hx hb dX3_read_49 rfl ?_
        refine w_i (z := nI (cntF (rdQ gG n k0 nU k (cl (sO k))) (5 * 0))) (rfl) ?_
        refine lv_istore (lv' := [(4, .int (nI (cntF (rdQ gG n k0 nU k (cl (sO k))) (5 * 0)))), (3, .ref (B (10 + 2 * k))), (0, .ref (B 0)), (1, .int (nI k)), (2, .int (nI k0))]) hx hb dX3_read_50 hl (by decide) rfl (fun ls hl => ?_)
        refine lv_iconst (v := 0) hx hb dX3_read_52 rfl ?_
        refine lv_istore (lv' := [(5, .int 0), (4, .int (nI (cntF (rdQ gG n k0 nU k (cl (sO k))) (5 * 0)))), (3, .ref (B (10 + 2 * k))), (0, .ref (B 0)), (1, .int (nI k)), (2, .int (nI k0))]) hx hb dX3_read_53 hl (by decide) rfl (fun ls hl => ?_)
        refine w_loopH (pc := 55) (st := fun (x : Nat × (Nat → Int32)) => match x with | (a, t) => []) (μ := fun (x : Nat × (Nat → Int32)) => match x with | (a, t) => 6 - a) (I := fun (x : Nat × (Nat → Int32)) H locs ls => match x with | (a, t) => (a ≤ 6) ∧ va_P D vwCl (VX cI cJ cO B gG t kG ik le by_ tk bg en va tn bO sO nU fS cW) H ∧ va_D (fun z9 => z9 ∈ ((VX cI cJ cO B gG tG kG ik le by_ tk bg en va tn bO sO nU fS cW)).map (fun z8 => z8.1)) (VX cI cJ cO B gG t kG ik le by_ tk bg en va tn bO sO nU fS cW) ∧ va_S (fun z9 => z9 ∈ ((VX cI cJ cO B gG tG kG ik le by_ tk bg en va tn bO sO nU fS cW)).map (fun z8 => z8.1)) s.heap H locs ∧ lv_has ls 7 [(0, .ref (B 0)), (1, .int (nI k)), (2, .int (nI k0)), (3, .ref (B (10 + 2 * k))), (4, .int (nI (cntF (rdQ gG n k0 nU k (cl (sO k))) (5 * a)))), (5, .int (nI a))]) ?_ (0, tG) ⟨Nat.zero_le _, hP, hD, hS, lv_sub hl [3, 4, 5, 2, 1, 0] rfl⟩
        rintro ⟨a, t⟩ H locs ls ⟨ha, hP, hD, hS, hl⟩ ih55
        try dsimp only at ih55 ⊢
        refine lv_iload hx hb dX3_read_55 (lv_at hl 5 rfl) ?_
        refine lv_iconst (v := 5) hx hb dX3_read_57 rfl ?_
        refine lv_icmp_gt (tgt := 113) hx hb dX3_read_58 rfl (fun c58 => ?_) (fun c58 => ?_)
        · replace c58 := nq_lt (a := 5) (b := a) (by omega) (by omega) c58
          obtain rfl : a = 6 := by omega
          refine lv_iload hx hb dX3_read_113 (lv_at hl 4 rfl) ?_
          have hE : fS = bokT fS bO n (nI k) (nI k0) := by simp [rdR, bokT, wrT, wrongS, bump, put9, b2i, c21, c39, c58, yk, ek, ek0, i_lt, -Int32.not_le, -Int32.not_lt]
          have hW : (VX cI cJ cO B gG t kG ik le by_ tk bg en va tn bO sO nU fS cW) = (VX cI cJ cO B gG t kG ik le by_ tk bg en va tn bO sO nU (bokT fS bO n (nI k) (nI k0)) cW) := congrArg (fun z => (VX cI cJ cO B gG t kG ik le by_ tk bg en va tn bO sO nU z cW)) hE
          have hP : va_P D vwCl (VX cI cJ cO B gG t kG ik le by_ tk bg en va tn bO sO nU (bokT fS bO n (nI k) (nI k0)) cW) H := Eq.mp (congrArg (fun z => va_P D vwCl z H) hW) hP
          have hD : va_D _ (VX cI cJ cO B gG t kG ik le by_ tk bg en va tn bO sO nU (bokT fS bO n (nI k) (nI k0)) cW) := Eq.mp (congrArg (fun z => va_D _ z) hW) hD
          exact mu_iret (VX cI cJ cO B gG t kG ik le by_ tk bg en va tn bO sO nU (bokT fS bO n (nI k) (nI k0)) cW) hx hb hr hlk hP hS rfl (⟨t, congrArg (fun z => some (Value.int z)) (by simp [rdR, bokT, wrT, wrongS, bump, put9, b2i, c21, c39, c58, yk, ek, ek0, i_lt, -Int32.not_le, -Int32.not_lt]), rfl⟩) dX3_read_115
        · replace c58 := nq_nlt (a := 5) (b := a) (by omega) (by omega) c58
          refine lv_iconst (v := 0) hx hb dX3_read_61 rfl ?_
          refine lv_istore (lv' := [(6, .int 0), (0, .ref (B 0)), (1, .int (nI k)), (2, .int (nI k0)), (3, .ref (B (10 + 2 * k))), (4, .int (nI (cntF (rdQ gG n k0 nU k (cl (sO k))) (5 * a)))), (5, .int (nI a))]) hx hb dX3_read_62 hl (by decide) rfl (fun ls hl => ?_)
          refine w_loopH (pc := 64) (st := fun (x : Nat × (Nat → Int32)) => match x with | (b, t2) => []) (μ := fun (x : Nat × (Nat → Int32)) => match x with | (b, t2) => 5 - b) (I := fun (x : Nat × (Nat → Int32)) H locs ls => match x with | (b, t2) => (b ≤ 5) ∧ va_P D vwCl (VX cI cJ cO B gG t2 kG ik le by_ tk bg en va tn bO sO nU fS cW) H ∧ va_D (fun z9 => z9 ∈ ((VX cI cJ cO B gG tG kG ik le by_ tk bg en va tn bO sO nU fS cW)).map (fun z8 => z8.1)) (VX cI cJ cO B gG t2 kG ik le by_ tk bg en va tn bO sO nU fS cW) ∧ va_S (fun z9 => z9 ∈ ((VX cI cJ cO B gG tG kG ik le by_ tk bg en va tn bO sO nU fS cW)).map (fun z8 => z8.1)) s.heap H locs ∧ lv_has ls 7 [(0, .ref (B 0)), (1, .int (nI k)), (2, .int (nI k0)), (3, .ref (B (10 + 2 * k))), (4, .int (nI (cntF (rdQ gG n k0 nU k (cl (sO k))) (5 * a + b)))), (5, .int (nI a)), (6, .int (nI b))]) ?_ (0, t) ⟨Nat.zero_le _, hP, hD, hS, lv_sub hl [1, 2, 3, 4, 5, 6, 0] rfl⟩
          rintro ⟨b, t2⟩ H locs ls ⟨hb9, hP, hD, hS, hl⟩ ih64
          try dsimp only at ih64 ⊢
          refine lv_iload hx hb dX3_read_64 (lv_at hl 6 rfl) ?_
          refine lv_iconst (v := 4) hx hb dX3_read_66 rfl ?_
          refine lv_icmp_gt (tgt := 107) hx hb dX3_read_67 rfl (fun c67 => ?_) (fun c67 => ?_)
          · replace c67 := nq_lt (a := 4) (b := b) (by omega) (by omega) c67
            obtain rfl : b = 5 := by omega
            refine lv_iinc (v := nI (a + 1)) (lv' := [(5, .int (nI (a + 1))), (0, .ref (B 0)), (1, .int (nI k)), (2, .int (nI k0)), (3, .ref (B (10 + 2 * k))), (4, .int (nI (cntF (rdQ gG n k0 nU k (cl (sO k))) (5 * a + 5)))), (6, .int (nI 5))]) hx hb dX3_read_107 hl (k := 5) rfl (nI_inc _) (by decide) rfl (fun ls hl => ?_)
            refine lv_goto (tgt := 55) hx hb dX3_read_110 rfl ?_
            exact ih55 (a + 1, t2) _ _ ls (by first | omega | (dsimp only; omega)) ⟨(by omega), hP, hD, hS, lv_sub hl [1, 2, 3, 4, 5, 0] rfl⟩
          · replace c67 := nq_nlt (a := 4) (b := b) (by omega) (by omega) c67
            refine lv_aload_n hx hb dX3_read_70 rfl (lv_at hl 0 rfl) ?_
            refine lv_iload_n hx hb dX3_read_71 rfl (lv_at hl 2 rfl) ?_
            refine lv_iconst (v := 0) hx hb dX3_read_72 rfl ?_
            refine lv_iload hx hb dX3_read_73 (lv_at hl 5 rfl) ?_
            refine mu_W (w := (VX cI cJ cO B gG t2 kG ik le by_ tk bg en va tn bO sO nU fS cW)) (rest := []) S hK hP hD hS (k_X3_suppose k0 0 (nI a) (by omega) (by omega)) gv_X3_151 hd_X3_suppose ⟨Nat.le_of_ble_eq_true rfl, Nat.le_of_ble_eq_true rfl⟩ 3 rfl rfl rfl rfl hl.1 (lv_room (Nat.le_of_ble_eq_true rfl)) dX3_read_75 ⟨Nat.zero_le _, Nat.zero_le _⟩ (fun ov w' H locs hp hP hD hS => ?_)
            obtain ⟨rfl, rfl⟩ := hp
            have hP : va_P D vwCl (VX cI cJ cO B gG (put9 gG k0 0 (nI a)) kG ik le by_ tk bg en va tn bO sO nU fS cW) H := hP
            have hD : va_D _ (VX cI cJ cO B gG (put9 gG k0 0 (nI a)) kG ik le by_ tk bg en va tn bO sO nU fS cW) := hD
            refine W.eq (g2 := F0 m 78 ls []) rfl ?_
            refine lv_aload_n hx hb dX3_read_78 rfl (lv_at hl 0 rfl) ?_
            refine va_get (ci := 3) (v := .ref (B 3)) hx hb hts wx_X3 hown hK hP 0 rfl rfl 1 (by decide) (hts _ wf_X3_16) (fun _ h9 => h9) rfl dX3_read_79 ?_
            refine lv_iload_n hx hb dX3_read_82 rfl (lv_at hl 2 rfl) ?_
            refine lv_iconst (v := 5) hx hb dX3_read_83 rfl ?_
            refine lv_iload hx hb dX3_read_84 (lv_at hl 6 rfl) ?_
            refine mu_V (w := (GW cI (B 3) (B 4) ((put9 gG k0 0 (nI a)) 0) ((put9 gG k0 0 (nI a)) 2) ((put9 gG k0 0 (nI a)) 1) (tl (put9 gG k0 0 (nI a))))) (rest := []) S hK hP hD hS (k_X0_put k0 5 (nI b) (by omega) (by omega)) gv_X3_117 hd_X0_put ⟨Nat.le_of_ble_eq_true rfl, Nat.le_of_ble_eq_true rfl⟩ [3, 4] rfl rfl 0 rfl rfl rfl rfl hl.1 (lv_room (Nat.le_of_ble_eq_true rfl)) dX3_read_86 ⟨Nat.zero_le _, Nat.zero_le _⟩ (fun ov w' H locs hp hP hD hS => ?_)
            obtain ⟨rfl, rfl⟩ := hp
            have hP : va_P D vwCl (VX cI cJ cO B gG (put9 (put9 gG k0 0 (nI a)) k0 5 (nI b)) kG ik le by_ tk bg en va tn bO sO nU fS cW) H := hP
            have hD : va_D _ (VX cI cJ cO B gG (put9 (put9 gG k0 0 (nI a)) k0 5 (nI b)) kG ik le by_ tk bg en va tn bO sO nU fS cW) := hD
            refine W.eq (g2 := F0 m 89 ls []) rfl ?_
            have hE : put9 (put9 gG k0 0 (nI a)) k0 5 (nI b) = rdG gG k0 (5 * a + b) := by rw [rdG, show (5 * a + b) / 5 = a by omega, show (5 * a + b) % 5 = b by omega]
            have hW : (VX cI cJ cO B gG (put9 (put9 gG k0 0 (nI a)) k0 5 (nI b)) kG ik le by_ tk bg en va tn bO sO nU fS cW) = (VX cI cJ cO B gG (rdG gG k0 (5 * a + b)) kG ik le by_ tk bg en va tn bO sO nU fS cW) := congrArg (fun z => (VX cI cJ cO B gG z kG ik le by_ tk bg en va tn bO sO nU fS cW)) hE
            have hP : va_P D vwCl (VX cI cJ cO B gG (rdG gG k0 (5 * a + b)) kG ik le by_ tk bg en va tn bO sO nU fS cW) H := Eq.mp (congrArg (fun z => va_P D vwCl z H) hW) hP
            have hD : va_D _ (VX cI cJ cO B gG (rdG gG k0 (5 * a + b)) kG ik le by_ tk bg en va tn bO sO nU fS cW) := Eq.mp (congrArg (fun z => va_D _ z) hW) hD
            have hI : Inv (rdG gG k0 (5 * a + b)) n := Inv_rd (f := k0) hI0 (by omega)
            have hh : rng (rdG gG k0 (5 * a + b) 0) 0 100000 := by rw [rdG, put_lo (by decide), put_lo (by decide)]; exact hh0
            refine lv_aload_n hx hb dX3_read_89 rfl (lv_at hl 0 rfl) ?_
            refine lv_aload_n hx hb dX3_read_90 rfl (lv_at hl 3 rfl) ?_
            refine lv_iload_n hx hb dX3_read_91 rfl (lv_at hl 2 rfl) ?_
            refine mu_W (w := (VX cI cJ cO B gG (rdG gG k0 (5 * a + b)) kG ik le by_ tk bg en va tn bO sO nU fS cW)) (rest := []) S hK hP hD hS (k_X3_trialGoesAs n k k0 hI hh (by omega) (by omega) hSh) gv_X3_215 hd_X3_trialGoesAs ⟨Nat.le_of_ble_eq_true rfl, Nat.le_of_ble_eq_true rfl⟩ 3 rfl rfl rfl rfl hl.1 (lv_room (Nat.le_of_ble_eq_true rfl)) dX3_read_92 ⟨Nat.zero_le _, Nat.zero_le _⟩ (fun ov w' H locs hp hP hD hS => ?_)
            obtain ⟨i9, rfl, rfl⟩ := hp
            have hP : va_P D vwCl (VX cI cJ cO B gG (hoursF (rdG gG k0 (5 * a + b)) n i9) kG ik le by_ tk bg en va tn bO sO nU fS cW) H := hP
            have hD : va_D _ (VX cI cJ cO B gG (hoursF (rdG gG k0 (5 * a + b)) n i9) kG ik le by_ tk bg en va tn bO sO nU fS cW) := hD
            refine W.eq (g2 := F0 m 95 ls [.int (b2i (allF (rdP (rdG gG k0 (5 * a + b)) n k0 nU k) (cl (sO k))))]) rfl ?_
            refine lv_if_eq (tgt := 101) hx hb dX3_read_95 rfl (fun c95 => ?_) (fun c95 => ?_)
            · replace c95 := (b2i_0 _).mp c95
              rw [show nI (cntF (rdQ gG n k0 nU k (cl (sO k))) (5 * a + b)) = nI (cntF (rdQ gG n k0 nU k (cl (sO k))) (5 * a + b + 1)) from by rw [cntF, show rdQ gG n k0 nU k (cl (sO k)) (5 * a + b) = false from c95]; rfl] at hl
              refine lv_iinc (v := nI (b + 1)) (lv' := [(6, .int (nI (b + 1))), (0, .ref (B 0)), (1, .int (nI k)), (2, .int (nI k0)), (3, .ref (B (10 + 2 * k))), (4, .int (nI (cntF (rdQ gG n k0 nU k (cl (sO k))) (5 * a + b + 1)))), (5, .int (nI a))]) hx hb dX3_read_101 hl (k := 6) rfl (nI_inc _) (by decide) rfl (fun ls hl => ?_)
              refine lv_goto (tgt := 64) hx hb dX3_read_104 rfl ?_
              exact ih64 (b + 1, hoursF (rdG gG k0 (5 * a + b)) n i9) _ _ ls (by first | omega | (dsimp only; omega)) ⟨(by omega), hP, hD, hS, lv_sub hl [1, 2, 3, 4, 5, 6, 0] rfl⟩
            · replace c95 := b2i_n0 c95
              refine lv_iinc (v := nI (cntF (rdQ gG n k0 nU k (cl (sO k))) (5 * a + b) + 1)) (lv' := [(4, .int (nI (cntF (rdQ gG n k0 nU k (cl (sO k))) (5 * a + b) + 1))), (0, .ref (B 0)), (1, .int (nI k)), (2, .int (nI k0)), (3, .ref (B (10 + 2 * k))), (5, .int (nI a)), (6, .int (nI b))]) hx hb dX3_read_98 hl (k := 4) rfl (nI_inc _) (by decide) rfl (fun ls hl => ?_)
              rw [show nI (cntF (rdQ gG n k0 nU k (cl (sO k))) (5 * a + b) + 1) = nI (cntF (rdQ gG n k0 nU k (cl (sO k))) (5 * a + b + 1)) from by rw [cntF, show rdQ gG n k0 nU k (cl (sO k)) (5 * a + b) = true from c95]; rfl] at hl
              refine lv_iinc (v := nI (b + 1)) (lv' := [(6, .int (nI (b + 1))), (4, .int (nI (cntF (rdQ gG n k0 nU k (cl (sO k))) (5 * a + b + 1)))), (0, .ref (B 0)), (1, .int (nI k)), (2, .int (nI k0)), (3, .ref (B (10 + 2 * k))), (5, .int (nI a))]) hx hb dX3_read_101 hl (k := 6) rfl (nI_inc _) (by decide) rfl (fun ls hl => ?_)
              refine lv_goto (tgt := 64) hx hb dX3_read_104 rfl ?_
              exact ih64 (b + 1, hoursF (rdG gG k0 (5 * a + b)) n i9) _ _ ls (by first | omega | (dsimp only; omega)) ⟨(by omega), hP, hD, hS, lv_sub hl [2, 3, 4, 5, 1, 6, 0] rfl⟩
      · replace c39 := bn_n0 c39
        refine lv_aload_n hx hb dX3_read_42 rfl (lv_at hl 1 rfl) ?_
        refine lv_ldc (v := (-1000000001)) hx hb hown (hts _ wq_X3_51) dX3_read_43 ?_
        refine mu_W (w := (VX cI cJ cO B gG tG kG ik le by_ tk bg en va tn bO sO nU fS cW)) (rest := []) S hK hP hD hS (k_X3_finding 0 (-1000000001) (by decide) (by decide)) gv_X3_52 hd_X3_finding ⟨Nat.le_of_ble_eq_true rfl, Nat.le_of_ble_eq_true rfl⟩ 3 rfl rfl rfl rfl hl.1 (lv_room (Nat.le_of_ble_eq_true rfl)) dX3_read_45 ⟨Nat.zero_le _, Nat.zero_le _⟩ (fun ov w' H locs hp hP hD hS => ?_)
        obtain ⟨rfl, rfl⟩ := hp
        have hP : va_P D vwCl (VX cI cJ cO B gG tG kG ik le by_ tk bg en va tn bO sO nU (upd fS 0 (fS 0 + 1)) cW) H := hP
        have hD : va_D _ (VX cI cJ cO B gG tG kG ik le by_ tk bg en va tn bO sO nU (upd fS 0 (fS 0 + 1)) cW) := hD
        refine W.eq (g2 := F0 m 48 ls [.int (-1000000001)]) rfl ?_
        have hE : upd fS 0 (fS 0 + 1) = bokT fS bO n (nI k) f := by simp [rdR, bokT, wrT, wrongS, bump, put9, b2i, c21, c39, yk, ek, i_lt, -Int32.not_le, -Int32.not_lt]
        have hW : (VX cI cJ cO B gG tG kG ik le by_ tk bg en va tn bO sO nU (upd fS 0 (fS 0 + 1)) cW) = (VX cI cJ cO B gG tG kG ik le by_ tk bg en va tn bO sO nU (bokT fS bO n (nI k) f) cW) := congrArg (fun z => (VX cI cJ cO B gG tG kG ik le by_ tk bg en va tn bO sO nU z cW)) hE
        have hP : va_P D vwCl (VX cI cJ cO B gG tG kG ik le by_ tk bg en va tn bO sO nU (bokT fS bO n (nI k) f) cW) H := Eq.mp (congrArg (fun z => va_P D vwCl z H) hW) hP
        have hD : va_D _ (VX cI cJ cO B gG tG kG ik le by_ tk bg en va tn bO sO nU (bokT fS bO n (nI k) f) cW) := Eq.mp (congrArg (fun z => va_D _ z) hW) hD
        exact mu_iret (VX cI cJ cO B gG tG kG ik le by_ tk bg en va tn bO sO nU (bokT fS bO n (nI k) f) cW) hx hb hr hlk hP hS rfl (⟨tG, congrArg (fun z => some (Value.int z)) (by simp [rdR, bokT, wrT, wrongS, bump, put9, b2i, c21, c39, yk, ek, i_lt, -Int32.not_le, -Int32.not_lt]), rfl⟩) dX3_read_48
    · replace c21 := b2i_n0 c21
      replace c21 := of_decide_eq_true c21
      refine lv_aload_n hx hb dX3_read_24 rfl (lv_at hl 1 rfl) ?_
      refine lv_ldc (v := (-1000000006)) hx hb hown (hts _ wq_X3_188) dX3_read_25 ?_
      refine mu_W (w := (VX cI cJ cO B gG tG kG ik le by_ tk bg en va tn bO sO nU fS cW)) (rest := []) S hK hP hD hS (k_X3_finding 5 (-1000000006) (by decide) (by decide)) gv_X3_52 hd_X3_finding ⟨Nat.le_of_ble_eq_true rfl, Nat.le_of_ble_eq_true rfl⟩ 3 rfl rfl rfl rfl hl.1 (lv_room (Nat.le_of_ble_eq_true rfl)) dX3_read_27 ⟨Nat.zero_le _, Nat.zero_le _⟩ (fun ov w' H locs hp hP hD hS => ?_)
      obtain ⟨rfl, rfl⟩ := hp
      have hP : va_P D vwCl (VX cI cJ cO B gG tG kG ik le by_ tk bg en va tn bO sO nU (upd fS 5 (fS 5 + 1)) cW) H := hP
      have hD : va_D _ (VX cI cJ cO B gG tG kG ik le by_ tk bg en va tn bO sO nU (upd fS 5 (fS 5 + 1)) cW) := hD
      refine W.eq (g2 := F0 m 30 ls [.int (-1000000006)]) rfl ?_
      have hE : upd fS 5 (fS 5 + 1) = bokT fS bO n (nI k) f := by simp [rdR, bokT, wrT, wrongS, bump, put9, b2i, c21, yk, ek, i_lt, -Int32.not_le, -Int32.not_lt]
      have hW : (VX cI cJ cO B gG tG kG ik le by_ tk bg en va tn bO sO nU (upd fS 5 (fS 5 + 1)) cW) = (VX cI cJ cO B gG tG kG ik le by_ tk bg en va tn bO sO nU (bokT fS bO n (nI k) f) cW) := congrArg (fun z => (VX cI cJ cO B gG tG kG ik le by_ tk bg en va tn bO sO nU z cW)) hE
      have hP : va_P D vwCl (VX cI cJ cO B gG tG kG ik le by_ tk bg en va tn bO sO nU (bokT fS bO n (nI k) f) cW) H := Eq.mp (congrArg (fun z => va_P D vwCl z H) hW) hP
      have hD : va_D _ (VX cI cJ cO B gG tG kG ik le by_ tk bg en va tn bO sO nU (bokT fS bO n (nI k) f) cW) := Eq.mp (congrArg (fun z => va_D _ z) hW) hD
      exact mu_iret (VX cI cJ cO B gG tG kG ik le by_ tk bg en va tn bO sO nU (bokT fS bO n (nI k) f) cW) hx hb hr hlk hP hS rfl (⟨tG, congrArg (fun z => some (Value.int z)) (by simp [rdR, bokT, wrT, wrongS, bump, put9, b2i, c21, yk, ek, i_lt, -Int32.not_le, -Int32.not_lt]), rfl⟩) dX3_read_30

end
