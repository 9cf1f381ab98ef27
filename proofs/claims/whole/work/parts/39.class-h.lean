section AA
variable {p : Program} {l : Launch} {e : Env} {R : Room} {s : State} {m : MethodId} {args : Array Value} {below : List Frame} {meth : Method} {c : Code} {H : Heap} {locs : List Loc} {cells slots : Nat} {Q : State → Prop}
variable {cc : ByteArray} {pc : Nat} {ls : Array Slot} {rest : List Value} {D : va_G} {ty : List (ClassId × FieldType)} {ws : va_W} {a : Nat}
theorem aa_ld (hx : p.tables.exec = Jvm.exec) (hb : c.code = cc) (hK : va_K D vwCl ty s) (hP : va_P D vwCl ws H) (q0 t0 : Nat) {cA : ClassId} {C : String} {N : Nat} {f : Nat → Option Nat} (ha : ws[q0]? = some (a, .inl (cA, N, .inr (.inr (.inr (.inr f)))))) (ht : ty[t0]? = some (cA, .object C)) {i : Int32} (k : Nat) {r : Nat} (hi : i = nI k) (hk : k < N) (hN : N < 2147483648) (hr : f k = some r) (hdg : decode cc pc = .ok (.aaload, 1))
    (kk : W p l e R s m args below meth c H locs cells slots Q (F0 m (pc + 1) ls (.ref r :: rest))) : W p l e R s m args below meth c H locs cells slots Q (F0 m pc ls (.int i :: .ref a :: rest)) := by
  subst hi
  refine va_aldq hx hb hK hP q0 t0 ha ht (vp_in_nI hk hN) hdg ?_
  rw [nI_clamp (by omega), hr]
  exact kk
theorem ro_aret {v : Value} {C : String} (hx : p.tables.exec = Jvm.exec) (hb : c.code = cc) (hr : meth.sig.returnType = some (.object C)) (hlocks : meth.locks = false) (hv : v = .null ∨ ∃ a, v = .ref a) (hdg : decode cc pc = .ok (.areturn, 1)) :
    W p l e R s m args below meth c s.heap [] cells slots (MQ below (fun _ st o t => o = .returned (some v) ∧ t.heap = st.heap) args s cells slots (fun _ => False)) (F0 m pc ls [v]) :=
  W.aret hx hb hr (Or.inl ⟨_, rfl⟩) hv (fun t ht hW => ⟨rfl, ht⟩) (fun q h => by cases h) hdg
end AA
section
variable {l : Launch} {D : va_G} {cI cJ cO : ClassId} {B : Nat → Nat} {gG tG kG : Nat → Int32} {ik le : Int32} {by_ : Nat → Int32} {tk bg en va tn b0 l0 : Int32} {u0 : Nat → Int64} {b1 l1 : Int32} {u1 : Nat → Int64} {b2 l2 : Int32} {u2 : Nat → Int64} {b3 l3 : Int32} {u3 : Nat → Int64} {fS cW : Nat → Int32}

set_option maxHeartbeats 4000000 in
set_option maxRecDepth 100000 in
theorem k_X3_sheetAt_no (x : Int32) (hno : inI x 0 3 = false) : RO l D (tyA cI cJ cO) yX3_sheetAt cX3_sheetAt 2 ((some (.object "VarnishNight$Sheet"))) 1 22 [.ref (B 0), .int x] (VW cI cJ cO B gG tG kG ik le by_ tk bg en va tn b0 l0 u0 b1 l1 u1 b2 l2 u2 b3 l3 u3 fS cW) .null := by
  refine RO.mk (by decide) (Nat.le_of_ble_eq_true rfl) ?_
  intro p e s m below meth c ls S hr hlk hP hK hl
  have S : CallFix p m c cX3_sheetAt 2 s _ WL RX3 := S
  obtain ⟨hx, hb, hml, hown, hts⟩ := id S
  have hl : lv_has ls 2 [(0, .ref (B 0)), (1, .int x)] := hl
  refine lv_iload_n hx hb dX3_sheetAt_0 rfl (lv_at hl 1 rfl) ?_
  refine lv_iconst (v := 0) hx hb dX3_sheetAt_1 rfl ?_
  refine lv_iconst (v := 3) hx hb dX3_sheetAt_2 rfl ?_
  refine ro_S (w := []) (rest := []) S hK va_P0 (k_X3_isOutside x 0 3) gs_X3_47 hd_X3_isOutside ⟨Nat.le_of_ble_eq_true rfl, Nat.le_of_ble_eq_true rfl⟩ rfl hl.1 (lv_room (Nat.le_of_ble_eq_true rfl)) dX3_sheetAt_3 ⟨Nat.zero_le _, Nat.zero_le _⟩ ?_
  refine lv_if_eq (tgt := 13) hx hb dX3_sheetAt_6 rfl (fun c6 => ?_) (fun c6 => ?_)
  · replace c6 := bn_0 c6
    exact absurd (c6.symm.trans hno) (by decide)
  · replace c6 := bn_n0 c6
    refine lv_null hx hb dX3_sheetAt_9 ?_
    refine lv_goto (tgt := 19) hx hb dX3_sheetAt_10 rfl ?_
    exact ro_aret hx hb hr hlk (Or.inl rfl) dX3_sheetAt_19

set_option maxHeartbeats 4000000 in
set_option maxRecDepth 100000 in
theorem k_X3_sheetAt_k (k : Nat) (hk : k < 4) : RO l D (tyA cI cJ cO) yX3_sheetAt cX3_sheetAt 2 ((some (.object "VarnishNight$Sheet"))) 1 22 [.ref (B 0), .int (nI k)] (VW cI cJ cO B gG tG kG ik le by_ tk bg en va tn b0 l0 u0 b1 l1 u1 b2 l2 u2 b3 l3 u3 fS cW) (.ref (B (10 + 2 * k))) := by
  refine RO.mk (by decide) (Nat.le_of_ble_eq_true rfl) ?_
  intro p e s m below meth c ls S hr hlk hP hK hl
  have S : CallFix p m c cX3_sheetAt 2 s _ WL RX3 := S
  obtain ⟨hx, hb, hml, hown, hts⟩ := id S
  have hl : lv_has ls 2 [(0, .ref (B 0)), (1, .int (nI k))] := hl
  refine lv_iload_n hx hb dX3_sheetAt_0 rfl (lv_at hl 1 rfl) ?_
  refine lv_iconst (v := 0) hx hb dX3_sheetAt_1 rfl ?_
  refine lv_iconst (v := 3) hx hb dX3_sheetAt_2 rfl ?_
  refine ro_S (w := []) (rest := []) S hK va_P0 (k_X3_isOutside (nI k) 0 3) gs_X3_47 hd_X3_isOutside ⟨Nat.le_of_ble_eq_true rfl, Nat.le_of_ble_eq_true rfl⟩ rfl hl.1 (lv_room (Nat.le_of_ble_eq_true rfl)) dX3_sheetAt_3 ⟨Nat.zero_le _, Nat.zero_le _⟩ ?_
  refine lv_if_eq (tgt := 13) hx hb dX3_sheetAt_6 rfl (fun c6 => ?_) (fun c6 => ?_)
  · replace c6 := bn_0 c6
    refine lv_aload_n hx hb dX3_sheetAt_13 rfl (lv_at hl 0 rfl) ?_
    refine va_get (ci := 3) (v := .ref (B 9)) hx hb hts wx_X3 hown hK hP 0 rfl rfl 5 (by decide) (hts _ wf_X3_35) (fun _ h9 => h9) rfl dX3_sheetAt_14 ?_
    refine lv_iload_n hx hb dX3_sheetAt_17 rfl (lv_at hl 1 rfl) ?_
    refine aa_ld hx hb hK hP 9 2 rfl rfl k (r := B (10 + 2 * k)) rfl (by omega) (by decide) rfl dX3_sheetAt_18 ?_
    exact ro_aret hx hb hr hlk (Or.inr ⟨_, rfl⟩) dX3_sheetAt_19
  · replace c6 := bn_n0 c6
    exact absurd ((in_mk (a := 0) (b := 3) (k := k) (by decide) (by omega) (by omega)).symm.trans c6) (by decide)

end
