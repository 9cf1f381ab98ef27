/-! the law's entry: the String constants, the classes, the two new objects -/
def FLC : List Cond := flatC (Jvm.Cond.and given_1 narrow_1)
abbrev tmJ (i : Nat) : Term := Term.string RX2 (ixJ.getD i 0)
theorem fl_ex : ∀ i, i < 16 → Cond.exactly (tmJ i) "java/lang/String" ∈ FLC := by decide +kernel
theorem fl_co : ∀ i, i < 16 → Cond.eq (.field (tmJ i) "java/lang/String" "coder" "B") (.int 0) ∈ FLC := by decide +kernel
theorem fl_ar : ∀ i, i < 16 → Cond.arrayOf (.field (tmJ i) "java/lang/String" "value" "[B") .byte ∈ FLC := by decide +kernel
theorem fl_le : ∀ i, i < 16 → Cond.eq (.length (.field (tmJ i) "java/lang/String" "value" "[B")) (.int (Int32.ofNat (lnJ.getD i 0))) ∈ FLC := by decide +kernel
theorem fl_el : ∀ i, i < 16 → ∀ j, j < lnJ.getD i 0 → Cond.eq (.elem (.field (tmJ i) "java/lang/String" "value" "[B") (.int (Int32.ofNat j))) (.int ((wds.getD i []).getD j 0)) ∈ FLC := by decide +kernel
def ixN : List (List Nat) := [[0, 28, 37, 49, 64, 76, 89, 102, 118, 137, 156, 177, 196, 215, 234, 257], [0, 0, 38, 50, 65, 77, 90, 103, 119, 138, 157, 178, 197, 216, 235, 258], [0, 0, 0, 51, 66, 78, 91, 104, 120, 139, 158, 179, 198, 217, 236, 259], [0, 0, 0, 0, 67, 79, 92, 105, 121, 140, 159, 180, 199, 218, 237, 260], [0, 0, 0, 0, 0, 80, 93, 106, 122, 141, 160, 181, 200, 219, 238, 261], [0, 0, 0, 0, 0, 0, 94, 107, 123, 142, 161, 182, 201, 220, 239, 262], [0, 0, 0, 0, 0, 0, 0, 108, 124, 143, 162, 183, 202, 221, 240, 263], [0, 0, 0, 0, 0, 0, 0, 0, 125, 144, 163, 184, 203, 222, 241, 264], [0, 0, 0, 0, 0, 0, 0, 0, 0, 145, 164, 185, 204, 223, 242, 265], [0, 0, 0, 0, 0, 0, 0, 0, 0, 0, 165, 186, 205, 224, 243, 266], [0, 0, 0, 0, 0, 0, 0, 0, 0, 0, 0, 187, 206, 225, 244, 267], [0, 0, 0, 0, 0, 0, 0, 0, 0, 0, 0, 0, 207, 226, 245, 268], [0, 0, 0, 0, 0, 0, 0, 0, 0, 0, 0, 0, 0, 227, 246, 269], [0, 0, 0, 0, 0, 0, 0, 0, 0, 0, 0, 0, 0, 0, 247, 270], [0, 0, 0, 0, 0, 0, 0, 0, 0, 0, 0, 0, 0, 0, 0, 271], [0, 0, 0, 0, 0, 0, 0, 0, 0, 0, 0, 0, 0, 0, 0, 0]]
theorem fl_nx : ∀ i, i < 16 → ∀ j, j < 16 → i < j → FLC[(ixN.getD i []).getD j 0]? = some (Cond.not (Cond.eq (tmJ i) (tmJ j))) := by decide +kernel
theorem fl_ne : ∀ i, i < 16 → ∀ j, j < 16 → i ≠ j → (Cond.not (Cond.eq (tmJ i) (tmJ j)) ∈ FLC ∨ Cond.not (Cond.eq (tmJ j) (tmJ i)) ∈ FLC) := fun i hi j hj hij => by
  rcases Nat.lt_or_ge i j with h | h
  · exact Or.inl (List.mem_of_getElem? (fl_nx i hi j hj h))
  · exact Or.inr (List.mem_of_getElem? (fl_nx j hj i hi (by omega)))
theorem fl_cs : Cond.eq (.static "java/lang/String" "COMPACT_STRINGS" "Z") (.int 1) ∈ FLC := by decide +kernel
theorem fl_sf : Cond.isRef (.static "jdk/internal/util/Preconditions" "SIOOBE_FORMATTER" "Ljava/util/function/BiFunction;") ∈ FLC := by decide +kernel
theorem fl_ln : ∀ i, i < 16 → lnJ.getD i 0 < 2 ^ 31 := by decide +kernel
theorem tb_sr : ∀ i, i < 16 → Cond.stringRef RX2 (ixJ.getD i 0) (txJ.getD i "") ∈ tables_1 := by decide +kernel
theorem tb_l1 : Cond.laysStatic "java/lang/String" "COMPACT_STRINGS" "Z" ∈ tables_1 := List.mem_append_right _ (List.mem_append_left _ (List.mem_of_getElem? (i := 202) (by decide +kernel)))
theorem tb_l2 : Cond.laysStatic "jdk/internal/util/Preconditions" "SIOOBE_FORMATTER" "Ljava/util/function/BiFunction;" ∈ tables_1 := List.mem_append_right _ (List.mem_append_left _ (List.mem_of_getElem? (i := 218) (by decide +kernel)))
theorem tb_ao : Cond.arrayOver (.object "VarnishNight$Sheet") ∈ tables_1 := List.mem_append_left _ (List.mem_of_getElem? (i := 76) (by decide +kernel))
theorem z_start {s : State} {a : Array Value} (hts : ∀ w ∈ lw_tbl, w.before a s = true) (hgv : (Jvm.Cond.and given_1 narrow_1).before a s = true) {Ap : Nat → Prop} (hA : ∀ q : Nat, q < s.heap.size → ¬ Ap q) : ∃ (kA vA : Nat → Nat) (oB : Option Nat), ZS kA vA oB Ap s s.heap := by
  have hs := flat_of_before _ hgv
  have ht : ∀ w ∈ tables_1, w.before a s = true := fun w h => hts w (List.mem_append_right _ h)
  obtain ⟨kA, vA, h1, h2⟩ := vk_Sof (args := a) (s := s) (N := 16) (tm := tmJ) (len := lnJ) (byt := wds) (A := Ap) fl_ln (fun i hi => hs _ (fl_ex i hi)) (fun i hi => hs _ (fl_co i hi)) (fun i hi => hs _ (fl_ar i hi)) (fun i hi => hs _ (fl_le i hi)) (fun i hi j hj => hs _ (fl_el i hi j hj))
    (fun i j hi hj hij => (fl_ne i hi j hj hij).imp (hs _) (hs _)) hA
  have hz1 := va_Zof (A := Ap) (ht _ tb_l1) (hts _ (WL_lw _ wi_J0)) (va_eqt (hs _ fl_cs)) hA
  have hz2 := va_Zqof (A := Ap) (ht _ tb_l2) (hts _ (WL_lw _ wi_J3)) (hs _ fl_sf) hA
  have hr : ∀ i, i < 16 → vk_R RX2 (ixJ.getD i 0) (txJ.getD i "") (kA i) s := fun i hi => vk_R.of (ht _ (tb_sr i hi)) (h2 i hi)
  rcases hz2 with hz2 | ⟨t, hz2⟩
  · exact ⟨kA, vA, none, h1, hr, hz1, hz2⟩
  · exact ⟨kA, vA, some t, h1, hr, hz1, hz2⟩
theorem k_start {s : State} {a : Array Value} (hts : ∀ w ∈ lw_tbl, w.before a s = true) : ∃ (D : va_G) (cI cJ cO : ClassId), va_K D vwCl (tyA cI cJ cO) s := by
  have hw : ∀ w ∈ WL, w.before a s = true := fun w h => hts w (WL_lw w h)
  obtain ⟨c0, i0, h0⟩ := u_known (C := RX0) (T := TX0) (N := 4) (n := 4) hw wx_X0 (hw _ wj_X0)
  obtain ⟨c1, i1, h1⟩ := u_known (C := RX1) (T := TX1) (N := 3) (n := 3) hw wx_X1 (hw _ wj_X1)
  obtain ⟨c2, i2, h2⟩ := u_known (C := RX2) (T := TX2) (N := 7) (n := 7) hw wx_X2 (hw _ wj_X2)
  obtain ⟨c3, i3, h3⟩ := u_known (C := RX3) (T := TX3) (N := 8) (n := 8) hw wx_X3 (hw _ wj_X3)
  obtain ⟨c4, i4, h4⟩ := u_known (C := RX4) (T := TX4) (N := 17) (n := 17) hw wx_X4 (hw _ wj_X4)
  obtain ⟨cI, kI, pI, a1, a2, a3⟩ := Cond.arrayClass_spec (hw _ wa_int)
  obtain ⟨cJ, kJ, pJ, b1, b2, b3⟩ := Cond.arrayClass_spec (hw _ wa_long)
  obtain ⟨pO, cO, kO, d1, d2, d3, d4, d5⟩ := Cond.arrayOver_spec (hts _ (List.mem_append_right _ tb_ao))
  refine ⟨(fun k => if k = 0 then c0 else if k = 1 then c1 else if k = 2 then c2 else if k = 3 then c3 else c4, fun k => if k = 0 then i0 else if k = 1 then i1 else if k = 2 then i2 else if k = 3 then i3 else i4), cI, cJ, cO, ?_, ?_⟩
  · intro k q hq
    match k, hq with
    | 0, hq => cases hq; exact h0
    | 1, hq => cases hq; exact h1
    | 2, hq => cases hq; exact h2
    | 3, hq => cases hq; exact h3
    | 4, hq => cases hq; exact h4
    | k + 5, hq => simp at hq
  · intro k q hq
    match k, hq with
    | 0, hq => cases hq; exact ⟨fun n z => ⟨(fun k h => by cases h), kI, a2, pI, a3⟩, a1⟩
    | 1, hq => cases hq; exact ⟨fun n z => ⟨(fun k h => by cases h), kJ, b2, pJ, b3⟩, b1⟩
    | 2, hq => cases hq; exact ⟨fun n z => ⟨(fun k h => by cases h), kO, d3, pO, d4⟩, kO, pO, d3, d4, d1, d5⟩
    | k + 3, hq => simp at hq
theorem dfX3 : ∀ j, j < 8 → defaultValue (tyX3 j) = vp_V [.null, .null, .null, .int 0, .null, .null, .null, .null] j := fun j hj => by rcases (show j = 0 ∨ j = 1 ∨ j = 2 ∨ j = 3 ∨ j = 4 ∨ j = 5 ∨ j = 6 ∨ j = 7 by omega) with rfl | rfl | rfl | rfl | rfl | rfl | rfl | rfl <;> rfl
theorem dfX4 : ∀ j, j < 17 → defaultValue (tyX4 j) = vp_V [.null, .null, .null, .null, .null, .int 0, .null, .null, .int 0, .int 0, .int 0, .int 0, .int 0, .null, .null, .null, .null] j := fun j hj => by rcases (show j = 0 ∨ j = 1 ∨ j = 2 ∨ j = 3 ∨ j = 4 ∨ j = 5 ∨ j = 6 ∨ j = 7 ∨ j = 8 ∨ j = 9 ∨ j = 10 ∨ j = 11 ∨ j = 12 ∨ j = 13 ∨ j = 14 ∨ j = 15 ∨ j = 16 by omega) with rfl | rfl | rfl | rfl | rfl | rfl | rfl | rfl | rfl | rfl | rfl | rfl | rfl | rfl | rfl | rfl | rfl <;> rfl
theorem hdc_X3 : yX3_init.cls ≠ "java/lang/invoke/MethodHandle" ∧ yX3_init.cls ≠ "java/lang/invoke/VarHandle" ∧ (parseMethodDescriptor yX3_init.desc).map (fun d => d.parameters.length) = some 0 := by decide +kernel
theorem hdc_X4 : yX4_init.cls ≠ "java/lang/invoke/MethodHandle" ∧ yX4_init.cls ≠ "java/lang/invoke/VarHandle" ∧ (parseMethodDescriptor yX4_init.desc).map (fun d => d.parameters.length) = some 0 := by decide +kernel
theorem g0_eq : upd (fun _ => 0) 2 4 = g0 := funext fun k => by
  match k with
  | 0 => rfl
  | 1 => rfl
  | 2 => rfl
  | k + 3 => rfl
theorem rng_00 : rng (0 : Int32) 0 40 := ⟨by decide, by decide⟩
theorem ShI_0 : ShI (fun _ => 0) := fun _ _ => rng_00
theorem Inv_g0 : Inv g0 0 := ⟨by decide, rfl, ⟨by decide, by decide⟩, fun f hf => absurd hf (Nat.not_lt_zero f)⟩
set_option maxHeartbeats 4000000 in
set_option maxRecDepth 100000 in
theorem whole_start {p : Program} {e : Env} {s : State} {m : MethodId} {below : List Frame} {meth : Method} {c : Code} (l : Launch) (hflags : l.flags = flags0) {b L : Nat} {xs : Nat → Int32} (hL : L ≤ 3072) (C0 : lw_At p s m meth c b L xs) : W p l e room_1 s m #[Value.ref b] below meth c s.heap [] 0 0 (lw_Z below #[Value.ref b] s) (entryFrame m ([Value.ref b] : List Value).toArray 4) := by
  obtain ⟨hx, hb, hr, hml, hown, hts0, hX, hbl, hlocks, hgv⟩ := id C0
  obtain ⟨D, cI, cJ, cO, hK⟩ := k_start hts0
  obtain ⟨kA, vA, oB, hZ⟩ := z_start (Ap := fun q : Nat => s.heap.size ≤ q) hts0 hgv (fun q hq => Nat.not_le.mpr hq)
  have hao : va_AO "VarnishNight$Sheet" s := va_AO.of (hts0 _ (List.mem_append_right _ tb_ao))
  have S : CallFix p m c cL_law 4 s #[Value.ref b] WL RL := ⟨hx, hb, hml, hown, fun w h => hts0 w (WL_lw w h)⟩
  have hts : ∀ w ∈ WL, w.before #[Value.ref b] s = true := fun w h => hts0 w (WL_lw w h)
  have hown : s.vm.findClass RL = some m.cls := hown
  have hA : ∀ q : Nat, s.heap.size ≤ q → (fun q : Nat => s.heap.size ≤ q) q := fun _ h => h
  have hS : va_S (fun q : Nat => s.heap.size ≤ q) s.heap s.heap [] := va_S.rf
  have hP : va_P D vwCl [] s.heap := va_P0
  have hD : va_D (fun q : Nat => s.heap.size ≤ q) [] := ⟨fun i j p q h => by simp at h, fun k q h => by simp at h⟩
  have hl := lv_entry ([.ref b]) (n := 4) (Nat.le_of_ble_eq_true rfl)
  rw [lg_entry_eq]
  generalize (lg_sl ([.ref b]) ++ List.replicate (4 - (lg_sl ([.ref b])).length) Slot.unset).toArray = ls at hl ⊢
  have hl : lv_has ls 4 [(0, .ref b)] := hl
  refine va_new (ci := 3) (fs := [.null, .null, .null, .int 0, .null, .null, .null, .null]) (C := RX3) (T := TX3) (N := 8) hx hb hts wx_X3 tyX3 tyX3_ok hown (hts _ wk_L_7) (hts _ wj_X3) (hts _ wi_X3) hK hP hD hS hA rfl dfX3 (Nat.le_of_ble_eq_true rfl) (Nat.le_of_ble_eq_true rfl) dL_law_0 (fun q1 H hP hD hS => ?_)
  refine lv_dup hx hb dL_law_3 rfl ?_
  refine nw_I (ws := []) (a := q1) (rest := [.ref q1]) S hK hP hD hS hA (k_X3_init q1) (fun U g mk av h9 => va_AO.moved (u := U) (U := U.calling g mk av) (Vm.Alike.refl U.vm) h9) (fun U hW => va_AO.moved hW.alike hao) wc_X3_init wi_X3 wm_L_9 wn_X3_init rfl hdc_X3 ⟨Nat.le_of_ble_eq_true rfl, Nat.le_of_ble_eq_true rfl⟩ hl.1 (lv_room (Nat.le_of_ble_eq_true rfl)) dL_law_4 ⟨Nat.le_of_ble_eq_true rfl, Nat.le_of_ble_eq_true rfl⟩ (fun w' H locs hp hP hD hS => ?_)
  obtain ⟨B, rfl, rfl⟩ := hp
  refine lv_astore_n (lv' := [(1, .ref (B 0)), (0, .ref b)]) hx hb dL_law_7 rfl hl (by decide) rfl (fun ls hl => ?_)
  refine va_new (ci := 4) (fs := [.null, .null, .null, .null, .null, .int 0, .null, .null, .int 0, .int 0, .int 0, .int 0, .int 0, .null, .null, .null, .null]) (C := RX4) (T := TX4) (N := 17) hx hb hts wx_X4 tyX4 tyX4_ok hown (hts _ wk_L_10) (hts _ wj_X4) (hts _ wi_X4) hK hP hD hS hA rfl dfX4 (Nat.le_of_ble_eq_true rfl) (Nat.le_of_ble_eq_true rfl) dL_law_8 (fun q2 H hP hD hS => ?_)
  refine lv_dup hx hb dL_law_11 rfl ?_
  refine nw_I (a := q2) (rest := [.ref q2]) S hK hP hD hS hA (k_X4_init q2) (fun _ _ _ _ h9 => h9) (fun _ _ => trivial) wc_X4_init wi_X4 wm_L_12 wn_X4_init rfl hdc_X4 ⟨Nat.le_of_ble_eq_true rfl, Nat.le_of_ble_eq_true rfl⟩ hl.1 (lv_room (Nat.le_of_ble_eq_true rfl)) dL_law_12 ⟨Nat.le_of_ble_eq_true rfl, Nat.le_of_ble_eq_true rfl⟩ (fun w' H locs hp hP hD hS => ?_)
  obtain ⟨A, rfl, rfl⟩ := hp
  rw [g0_eq] at hP hD
  refine lv_astore_n (lv' := [(2, .ref (A 0)), (1, .ref (B 0)), (0, .ref b)]) hx hb dL_law_15 rfl hl (by decide) rfl (fun ls hl => ?_)
  refine lv_iconst (v := 0) hx hb dL_law_16 rfl ?_
  refine lv_istore_n (lv' := [(3, .int (nI 0)), (2, .ref (A 0)), (1, .ref (B 0)), (0, .ref b)]) hx hb dL_law_17 rfl hl (by decide) rfl (fun ls hl => ?_)
  refine W.widen (k := 32) (n := 1267) (Nat.le_of_ble_eq_true rfl) (Nat.le_of_ble_eq_true rfl) ?_
  have hLI : LI D cI cJ cO B A (fun q : Nat => s.heap.size ≤ q) H := ⟨g0, 0, g0, g0, (fun _ => 0), 0, false, 0, (fun _ => 0), 0, 0, 0, 0, 0, (fun _ => 0), (fun _ => 0), (fun _ => 0), (fun _ => 0), (fun _ => 0), (fun _ => 0), (fun _ => 0), (fun _ => 0), 0, 0, 0, 0, (fun _ => 0), Inv_g0, ⟨by decide, by decide⟩, fun h9 => absurd h9 (by decide), Nat.zero_le _, fun j hj => absurd hj (Nat.not_lt_zero j), ShI_0, hP, hD⟩
  exact law_loop hr hlocks S hK hX hbl hZ hL (L + 7) 0 H locs ls (by omega) (by omega) hLI hS (lv_sub hl [3, 2, 1, 0] rfl)
