section
variable {p : Program} {l : Launch} {e : Env} {s : State} {m : MethodId} {below : List Frame} {meth : Method} {c : Code} {H : Heap} {locs : List Loc} {Q : State → Prop} {ls : Array Slot} {D : va_G} {cI cJ cO : ClassId} {B A kA vA : Nat → Nat} {oB : Option Nat} {Ap : Nat → Prop} {b L : Nat} {xs : Nat → Int32}

set_option maxHeartbeats 4000000 in
set_option maxRecDepth 100000 in
theorem law_0 (S : CallFix p m c cL_law 4 s #[Value.ref b] WL RL) (hK : va_K D vwCl (tyA cI cJ cO) s) (hX : va_X b L xs s s.heap) (hbl : b < s.heap.size) (hbA : ¬ Ap b) (hZ : ZS kA vA oB Ap s s.heap) (hL : L ≤ 3072) (i : Nat) (hi : i + 6 ≤ L) (hI0 : LI D cI cJ cO B A Ap H) (hS : va_S Ap s.heap H locs) (hl : lv_has ls 4 [(0, .ref b), (1, .ref (B 0)), (2, .ref (A 0)), (3, .int (nI i))]) (J : ∀ (H : Heap) (locs : List Loc), LI D cI cJ cO B A Ap H → va_S Ap s.heap H locs → W p l e room_1 s m #[Value.ref b] below meth c H locs 32 1267 Q (F0 m 1214 ls [])) : W p l e room_1 s m #[Value.ref b] below meth c H locs 32 1267 Q (F0 m 188 ls []) := by
  obtain ⟨gG, n, tG, kG, kS, kn, ib, d, tp, tk, bg, en, va, tn, bO, sO, nU, fS, cW, oS, aS, cA, fm, tt, vl, wr, mV, hI, hh, hkp, hd, hT, hSh, hP, hD⟩ := hI0
  obtain ⟨hx, hb, hml, hown, hts⟩ := id S
  refine lv_aload_n hx hb dL_law_188 rfl (lv_at hl 1 rfl) ?_
  refine lv_aload_n hx hb dL_law_189 rfl (lv_at hl 0 rfl) ?_
  refine lv_iload_n hx hb dL_law_190 rfl (lv_at hl 3 rfl) ?_
  refine lv_iconst (v := 1) hx hb dL_law_191 rfl ?_
  refine lv_iadd hx hb dL_law_192 ?_
  refine w_i (z := nI (i + 1)) (nI_add i 1) ?_
  refine va_sld hx hb hX hbl hbA hS (vp_in_nI (by omega) (by omega)) dL_law_193 ?_
  refine w_i (z := xs (i + 1)) (congrArg xs (nI_clamp (by omega))) ?_
  refine lx_V (As := [.int (xs (i + 1))]) (rest := []) S hK hP hD hS (k_X3_tacky n (xs (i + 1)) hI) gv_L_13 hd_X3_tacky ⟨Nat.le_of_ble_eq_true rfl, Nat.le_of_ble_eq_true rfl⟩ 3 rfl rfl rfl rfl hl.1 (lv_room (Nat.le_of_ble_eq_true rfl)) dL_law_194 ⟨Nat.le_of_ble_eq_true rfl, Nat.le_of_ble_eq_true rfl⟩ (fun ov w' H locs hp hP hD hS => ?_)
  obtain ⟨rfl, rfl⟩ := hp
  refine W.eq (g2 := F0 m 197 ls [.int (tackyR gG (xs (i + 1)))]) rfl ?_
  refine lv_aload_n hx hb dL_law_197 rfl (lv_at hl 2 rfl) ?_
  refine lv_aload_n hx hb dL_law_198 rfl (lv_at hl 0 rfl) ?_
  refine lv_iload_n hx hb dL_law_199 rfl (lv_at hl 3 rfl) ?_
  refine lv_iconst (v := 1) hx hb dL_law_200 rfl ?_
  refine lv_iadd hx hb dL_law_201 ?_
  refine w_i (z := nI (i + 1)) (nI_add i 1) ?_
  refine va_sld hx hb hX hbl hbA hS (vp_in_nI (by omega) (by omega)) dL_law_202 ?_
  refine w_i (z := xs (i + 1)) (congrArg xs (nI_clamp (by omega))) ?_
  refine ly_V (As := [.int (xs (i + 1))]) (rest := [.int (tackyR gG (xs (i + 1)))]) S hK hP hD hS (k_X4_tacky n (xs (i + 1)) hI) gv_L_17 hd_X4_tacky ⟨Nat.le_of_ble_eq_true rfl, Nat.le_of_ble_eq_true rfl⟩ 4 rfl rfl rfl rfl hl.1 (lv_room (Nat.le_of_ble_eq_true rfl)) dL_law_203 ⟨Nat.le_of_ble_eq_true rfl, Nat.le_of_ble_eq_true rfl⟩ (fun ov w' H locs hp hP hD hS => ?_)
  obtain ⟨rfl, rfl⟩ := hp
  refine W.eq (g2 := F0 m 206 ls [.int (tackyR gG (xs (i + 1))), .int (tackyR gG (xs (i + 1)))]) rfl ?_
  refine lv_icmp_eq (tgt := 1214) hx hb dL_law_206 rfl (fun c9 => ?_) (fun c9 => absurd rfl c9)
  exact J _ _ ⟨tackyG gG (xs (i + 1)), n, _, _, _, kn, ib, d, _, _, _, _, _, _, _, _, _, _, _, _, _, _, _, _, _, _, _, Inv_tacky hI, by rw [tacky_0]; exact hh, hkp, hd, hT, hSh, hP, hD⟩ hS

set_option maxHeartbeats 4000000 in
set_option maxRecDepth 100000 in
theorem law_1 (S : CallFix p m c cL_law 4 s #[Value.ref b] WL RL) (hK : va_K D vwCl (tyA cI cJ cO) s) (hX : va_X b L xs s s.heap) (hbl : b < s.heap.size) (hbA : ¬ Ap b) (hZ : ZS kA vA oB Ap s s.heap) (hL : L ≤ 3072) (i : Nat) (hi : i + 6 ≤ L) (hI0 : LI D cI cJ cO B A Ap H) (hS : va_S Ap s.heap H locs) (hl : lv_has ls 4 [(0, .ref b), (1, .ref (B 0)), (2, .ref (A 0)), (3, .int (nI i))]) (J : ∀ (H : Heap) (locs : List Loc), LI D cI cJ cO B A Ap H → va_S Ap s.heap H locs → W p l e room_1 s m #[Value.ref b] below meth c H locs 32 1267 Q (F0 m 1214 ls [])) : W p l e room_1 s m #[Value.ref b] below meth c H locs 32 1267 Q (F0 m 211 ls []) := by
  obtain ⟨gG, n, tG, kG, kS, kn, ib, d, tp, tk, bg, en, va, tn, bO, sO, nU, fS, cW, oS, aS, cA, fm, tt, vl, wr, mV, hI, hh, hkp, hd, hT, hSh, hP, hD⟩ := hI0
  obtain ⟨hx, hb, hml, hown, hts⟩ := id S
  refine lv_aload_n hx hb dL_law_211 rfl (lv_at hl 1 rfl) ?_
  refine lv_aload_n hx hb dL_law_212 rfl (lv_at hl 0 rfl) ?_
  refine lv_iload_n hx hb dL_law_213 rfl (lv_at hl 3 rfl) ?_
  refine lv_iconst (v := 1) hx hb dL_law_214 rfl ?_
  refine lv_iadd hx hb dL_law_215 ?_
  refine w_i (z := nI (i + 1)) (nI_add i 1) ?_
  refine va_sld hx hb hX hbl hbA hS (vp_in_nI (by omega) (by omega)) dL_law_216 ?_
  refine w_i (z := xs (i + 1)) (congrArg xs (nI_clamp (by omega))) ?_
  refine lx_V (As := [.int (xs (i + 1))]) (rest := []) S hK hP hD hS (k_X3_now n (xs (i + 1)) hI (rng_0 hh)) gv_L_18 hd_X3_now ⟨Nat.le_of_ble_eq_true rfl, Nat.le_of_ble_eq_true rfl⟩ 3 rfl rfl rfl rfl hl.1 (lv_room (Nat.le_of_ble_eq_true rfl)) dL_law_217 ⟨Nat.le_of_ble_eq_true rfl, Nat.le_of_ble_eq_true rfl⟩ (fun ov w' H locs hp hP hD hS => ?_)
  obtain ⟨rfl, rfl⟩ := hp
  refine W.eq (g2 := F0 m 220 ls [.int (nowR gG n (xs (i + 1)))]) rfl ?_
  refine lv_aload_n hx hb dL_law_220 rfl (lv_at hl 2 rfl) ?_
  refine lv_aload_n hx hb dL_law_221 rfl (lv_at hl 0 rfl) ?_
  refine lv_iload_n hx hb dL_law_222 rfl (lv_at hl 3 rfl) ?_
  refine lv_iconst (v := 1) hx hb dL_law_223 rfl ?_
  refine lv_iadd hx hb dL_law_224 ?_
  refine w_i (z := nI (i + 1)) (nI_add i 1) ?_
  refine va_sld hx hb hX hbl hbA hS (vp_in_nI (by omega) (by omega)) dL_law_225 ?_
  refine w_i (z := xs (i + 1)) (congrArg xs (nI_clamp (by omega))) ?_
  refine ly_V (As := [.int (xs (i + 1))]) (rest := [.int (nowR gG n (xs (i + 1)))]) S hK hP hD hS (k_X4_now n (xs (i + 1)) hI) gv_L_21 hd_X4_now ⟨Nat.le_of_ble_eq_true rfl, Nat.le_of_ble_eq_true rfl⟩ 4 rfl rfl rfl rfl hl.1 (lv_room (Nat.le_of_ble_eq_true rfl)) dL_law_226 ⟨Nat.le_of_ble_eq_true rfl, Nat.le_of_ble_eq_true rfl⟩ (fun ov w' H locs hp hP hD hS => ?_)
  obtain ⟨rfl, rfl⟩ := hp
  refine W.eq (g2 := F0 m 229 ls [.int (nowR gG n (xs (i + 1))), .int (nowR gG n (xs (i + 1)))]) rfl ?_
  refine lv_icmp_eq (tgt := 1214) hx hb dL_law_229 rfl (fun c9 => ?_) (fun c9 => absurd rfl c9)
  exact J _ _ ⟨gG, n, _, _, _, kn, ib, d, _, _, _, _, _, _, _, _, _, _, _, _, _, _, _, _, _, _, _, hI, hh, hkp, hd, hT, hSh, hP, hD⟩ hS

set_option maxHeartbeats 4000000 in
set_option maxRecDepth 100000 in
theorem law_2 (S : CallFix p m c cL_law 4 s #[Value.ref b] WL RL) (hK : va_K D vwCl (tyA cI cJ cO) s) (hX : va_X b L xs s s.heap) (hbl : b < s.heap.size) (hbA : ¬ Ap b) (hZ : ZS kA vA oB Ap s s.heap) (hL : L ≤ 3072) (i : Nat) (hi : i + 6 ≤ L) (hI0 : LI D cI cJ cO B A Ap H) (hS : va_S Ap s.heap H locs) (hl : lv_has ls 4 [(0, .ref b), (1, .ref (B 0)), (2, .ref (A 0)), (3, .int (nI i))]) (J : ∀ (H : Heap) (locs : List Loc), LI D cI cJ cO B A Ap H → va_S Ap s.heap H locs → W p l e room_1 s m #[Value.ref b] below meth c H locs 32 1267 Q (F0 m 1214 ls [])) : W p l e room_1 s m #[Value.ref b] below meth c H locs 32 1267 Q (F0 m 234 ls []) := by
  obtain ⟨gG, n, tG, kG, kS, kn, ib, d, tp, tk, bg, en, va, tn, bO, sO, nU, fS, cW, oS, aS, cA, fm, tt, vl, wr, mV, hI, hh, hkp, hd, hT, hSh, hP, hD⟩ := hI0
  obtain ⟨hx, hb, hml, hown, hts⟩ := id S
  refine lv_aload_n hx hb dL_law_234 rfl (lv_at hl 1 rfl) ?_
  refine lv_aload_n hx hb dL_law_235 rfl (lv_at hl 0 rfl) ?_
  refine lv_iload_n hx hb dL_law_236 rfl (lv_at hl 3 rfl) ?_
  refine lv_iconst (v := 1) hx hb dL_law_237 rfl ?_
  refine lv_iadd hx hb dL_law_238 ?_
  refine w_i (z := nI (i + 1)) (nI_add i 1) ?_
  refine va_sld hx hb hX hbl hbA hS (vp_in_nI (by omega) (by omega)) dL_law_239 ?_
  refine w_i (z := xs (i + 1)) (congrArg xs (nI_clamp (by omega))) ?_
  refine lx_V (As := [.int (xs (i + 1))]) (rest := []) S hK hP hD hS (k_X3_hangs n (xs (i + 1)) hI) gv_L_22 hd_X3_hangs ⟨Nat.le_of_ble_eq_true rfl, Nat.le_of_ble_eq_true rfl⟩ 3 rfl rfl rfl rfl hl.1 (lv_room (Nat.le_of_ble_eq_true rfl)) dL_law_240 ⟨Nat.le_of_ble_eq_true rfl, Nat.le_of_ble_eq_true rfl⟩ (fun ov w' H locs hp hP hD hS => ?_)
  obtain ⟨rfl, rfl⟩ := hp
  refine W.eq (g2 := F0 m 243 ls [.int (hangsR gG n (xs (i + 1)))]) rfl ?_
  refine lv_aload_n hx hb dL_law_243 rfl (lv_at hl 2 rfl) ?_
  refine lv_aload_n hx hb dL_law_244 rfl (lv_at hl 0 rfl) ?_
  refine lv_iload_n hx hb dL_law_245 rfl (lv_at hl 3 rfl) ?_
  refine lv_iconst (v := 1) hx hb dL_law_246 rfl ?_
  refine lv_iadd hx hb dL_law_247 ?_
  refine w_i (z := nI (i + 1)) (nI_add i 1) ?_
  refine va_sld hx hb hX hbl hbA hS (vp_in_nI (by omega) (by omega)) dL_law_248 ?_
  refine w_i (z := xs (i + 1)) (congrArg xs (nI_clamp (by omega))) ?_
  refine ly_V (As := [.int (xs (i + 1))]) (rest := [.int (hangsR gG n (xs (i + 1)))]) S hK hP hD hS (k_X4_hangs n (xs (i + 1)) hI) gv_L_25 hd_X4_hangs ⟨Nat.le_of_ble_eq_true rfl, Nat.le_of_ble_eq_true rfl⟩ 4 rfl rfl rfl rfl hl.1 (lv_room (Nat.le_of_ble_eq_true rfl)) dL_law_249 ⟨Nat.le_of_ble_eq_true rfl, Nat.le_of_ble_eq_true rfl⟩ (fun ov w' H locs hp hP hD hS => ?_)
  obtain ⟨rfl, rfl⟩ := hp
  refine W.eq (g2 := F0 m 252 ls [.int (hangsR gG n (xs (i + 1))), .int (hangsR gG n (xs (i + 1)))]) rfl ?_
  refine lv_icmp_eq (tgt := 1214) hx hb dL_law_252 rfl (fun c9 => ?_) (fun c9 => absurd rfl c9)
  exact J _ _ ⟨gG, n, _, _, _, kn, ib, d, _, _, _, _, _, _, _, _, _, _, _, _, _, _, _, _, _, _, _, hI, hh, hkp, hd, hT, hSh, hP, hD⟩ hS

set_option maxHeartbeats 4000000 in
set_option maxRecDepth 100000 in
theorem law_3 (S : CallFix p m c cL_law 4 s #[Value.ref b] WL RL) (hK : va_K D vwCl (tyA cI cJ cO) s) (hX : va_X b L xs s s.heap) (hbl : b < s.heap.size) (hbA : ¬ Ap b) (hZ : ZS kA vA oB Ap s s.heap) (hL : L ≤ 3072) (i : Nat) (hi : i + 6 ≤ L) (hI0 : LI D cI cJ cO B A Ap H) (hS : va_S Ap s.heap H locs) (hl : lv_has ls 4 [(0, .ref b), (1, .ref (B 0)), (2, .ref (A 0)), (3, .int (nI i))]) (J : ∀ (H : Heap) (locs : List Loc), LI D cI cJ cO B A Ap H → va_S Ap s.heap H locs → W p l e room_1 s m #[Value.ref b] below meth c H locs 32 1267 Q (F0 m 1214 ls [])) : W p l e room_1 s m #[Value.ref b] below meth c H locs 32 1267 Q (F0 m 257 ls []) := by
  obtain ⟨gG, n, tG, kG, kS, kn, ib, d, tp, tk, bg, en, va, tn, bO, sO, nU, fS, cW, oS, aS, cA, fm, tt, vl, wr, mV, hI, hh, hkp, hd, hT, hSh, hP, hD⟩ := hI0
  obtain ⟨hx, hb, hml, hown, hts⟩ := id S
  refine lv_aload_n hx hb dL_law_257 rfl (lv_at hl 1 rfl) ?_
  refine lv_aload_n hx hb dL_law_258 rfl (lv_at hl 0 rfl) ?_
  refine lv_iload_n hx hb dL_law_259 rfl (lv_at hl 3 rfl) ?_
  refine lv_iconst (v := 1) hx hb dL_law_260 rfl ?_
  refine lv_iadd hx hb dL_law_261 ?_
  refine w_i (z := nI (i + 1)) (nI_add i 1) ?_
  refine va_sld hx hb hX hbl hbA hS (vp_in_nI (by omega) (by omega)) dL_law_262 ?_
  refine w_i (z := xs (i + 1)) (congrArg xs (nI_clamp (by omega))) ?_
  refine lv_aload_n hx hb dL_law_263 rfl (lv_at hl 0 rfl) ?_
  refine lv_iload_n hx hb dL_law_264 rfl (lv_at hl 3 rfl) ?_
  refine lv_iconst (v := 2) hx hb dL_law_265 rfl ?_
  refine lv_iadd hx hb dL_law_266 ?_
  refine w_i (z := nI (i + 2)) (nI_add i 2) ?_
  refine va_sld hx hb hX hbl hbA hS (vp_in_nI (by omega) (by omega)) dL_law_267 ?_
  refine w_i (z := xs (i + 2)) (congrArg xs (nI_clamp (by omega))) ?_
  refine lv_aload_n hx hb dL_law_268 rfl (lv_at hl 0 rfl) ?_
  refine lv_iload_n hx hb dL_law_269 rfl (lv_at hl 3 rfl) ?_
  refine lv_iconst (v := 3) hx hb dL_law_270 rfl ?_
  refine lv_iadd hx hb dL_law_271 ?_
  refine w_i (z := nI (i + 3)) (nI_add i 3) ?_
  refine va_sld hx hb hX hbl hbA hS (vp_in_nI (by omega) (by omega)) dL_law_272 ?_
  refine w_i (z := xs (i + 3)) (congrArg xs (nI_clamp (by omega))) ?_
  refine lx_V (As := [.int (xs (i + 1)), .int (xs (i + 2)), .int (xs (i + 3))]) (rest := []) S hK hP hD hS (k_X3_figure n (xs (i + 1)) (xs (i + 2)) (xs (i + 3)) hI) gv_L_26 hd_X3_figure ⟨Nat.le_of_ble_eq_true rfl, Nat.le_of_ble_eq_true rfl⟩ 3 rfl rfl rfl rfl hl.1 (lv_room (Nat.le_of_ble_eq_true rfl)) dL_law_273 ⟨Nat.le_of_ble_eq_true rfl, Nat.le_of_ble_eq_true rfl⟩ (fun ov w' H locs hp hP hD hS => ?_)
  obtain ⟨rfl, rfl⟩ := hp
  refine W.eq (g2 := F0 m 276 ls [.int (figR n (xs (i + 1)) (xs (i + 2)) (xs (i + 3)))]) rfl ?_
  refine lv_aload_n hx hb dL_law_276 rfl (lv_at hl 2 rfl) ?_
  refine lv_aload_n hx hb dL_law_277 rfl (lv_at hl 0 rfl) ?_
  refine lv_iload_n hx hb dL_law_278 rfl (lv_at hl 3 rfl) ?_
  refine lv_iconst (v := 1) hx hb dL_law_279 rfl ?_
  refine lv_iadd hx hb dL_law_280 ?_
  refine w_i (z := nI (i + 1)) (nI_add i 1) ?_
  refine va_sld hx hb hX hbl hbA hS (vp_in_nI (by omega) (by omega)) dL_law_281 ?_
  refine w_i (z := xs (i + 1)) (congrArg xs (nI_clamp (by omega))) ?_
  refine lv_aload_n hx hb dL_law_282 rfl (lv_at hl 0 rfl) ?_
  refine lv_iload_n hx hb dL_law_283 rfl (lv_at hl 3 rfl) ?_
  refine lv_iconst (v := 2) hx hb dL_law_284 rfl ?_
  refine lv_iadd hx hb dL_law_285 ?_
  refine w_i (z := nI (i + 2)) (nI_add i 2) ?_
  refine va_sld hx hb hX hbl hbA hS (vp_in_nI (by omega) (by omega)) dL_law_286 ?_
  refine w_i (z := xs (i + 2)) (congrArg xs (nI_clamp (by omega))) ?_
  refine lv_aload_n hx hb dL_law_287 rfl (lv_at hl 0 rfl) ?_
  refine lv_iload_n hx hb dL_law_288 rfl (lv_at hl 3 rfl) ?_
  refine lv_iconst (v := 3) hx hb dL_law_289 rfl ?_
  refine lv_iadd hx hb dL_law_290 ?_
  refine w_i (z := nI (i + 3)) (nI_add i 3) ?_
  refine va_sld hx hb hX hbl hbA hS (vp_in_nI (by omega) (by omega)) dL_law_291 ?_
  refine w_i (z := xs (i + 3)) (congrArg xs (nI_clamp (by omega))) ?_
  refine ly_V (As := [.int (xs (i + 1)), .int (xs (i + 2)), .int (xs (i + 3))]) (rest := [.int (figR n (xs (i + 1)) (xs (i + 2)) (xs (i + 3)))]) S hK hP hD hS (k_X4_figure n (xs (i + 1)) (xs (i + 2)) (xs (i + 3)) hI) gv_L_30 hd_X4_figure ⟨Nat.le_of_ble_eq_true rfl, Nat.le_of_ble_eq_true rfl⟩ 4 rfl rfl rfl rfl hl.1 (lv_room (Nat.le_of_ble_eq_true rfl)) dL_law_292 ⟨Nat.le_of_ble_eq_true rfl, Nat.le_of_ble_eq_true rfl⟩ (fun ov w' H locs hp hP hD hS => ?_)
  obtain ⟨rfl, rfl⟩ := hp
  refine W.eq (g2 := F0 m 295 ls [.int (figR n (xs (i + 1)) (xs (i + 2)) (xs (i + 3))), .int (figR n (xs (i + 1)) (xs (i + 2)) (xs (i + 3)))]) rfl ?_
  refine lv_icmp_eq (tgt := 1214) hx hb dL_law_295 rfl (fun c9 => ?_) (fun c9 => absurd rfl c9)
  exact J _ _ ⟨figG gG n (xs (i + 1)) (xs (i + 2)) (xs (i + 3)), figN n (xs (i + 1)) (xs (i + 2)) (xs (i + 3)), _, _, _, kn, ib, d, _, _, _, _, _, _, _, _, _, _, _, _, _, _, _, _, _, _, _, Inv_fig hI, by rw [fig_0]; exact hh, hkp, hd, hT, hSh, hP, hD⟩ hS

set_option maxHeartbeats 4000000 in
set_option maxRecDepth 100000 in
theorem law_4 (S : CallFix p m c cL_law 4 s #[Value.ref b] WL RL) (hK : va_K D vwCl (tyA cI cJ cO) s) (hX : va_X b L xs s s.heap) (hbl : b < s.heap.size) (hbA : ¬ Ap b) (hZ : ZS kA vA oB Ap s s.heap) (hL : L ≤ 3072) (i : Nat) (hi : i + 6 ≤ L) (hI0 : LI D cI cJ cO B A Ap H) (hS : va_S Ap s.heap H locs) (hl : lv_has ls 4 [(0, .ref b), (1, .ref (B 0)), (2, .ref (A 0)), (3, .int (nI i))]) (J : ∀ (H : Heap) (locs : List Loc), LI D cI cJ cO B A Ap H → va_S Ap s.heap H locs → W p l e room_1 s m #[Value.ref b] below meth c H locs 32 1267 Q (F0 m 1214 ls [])) : W p l e room_1 s m #[Value.ref b] below meth c H locs 32 1267 Q (F0 m 300 ls []) := by
  obtain ⟨gG, n, tG, kG, kS, kn, ib, d, tp, tk, bg, en, va, tn, bO, sO, nU, fS, cW, oS, aS, cA, fm, tt, vl, wr, mV, hI, hh, hkp, hd, hT, hSh, hP, hD⟩ := hI0
  obtain ⟨hx, hb, hml, hown, hts⟩ := id S
  refine lv_aload_n hx hb dL_law_300 rfl (lv_at hl 1 rfl) ?_
  refine lv_aload_n hx hb dL_law_301 rfl (lv_at hl 0 rfl) ?_
  refine lv_iload_n hx hb dL_law_302 rfl (lv_at hl 3 rfl) ?_
  refine lv_iconst (v := 1) hx hb dL_law_303 rfl ?_
  refine lv_iadd hx hb dL_law_304 ?_
  refine w_i (z := nI (i + 1)) (nI_add i 1) ?_
  refine va_sld hx hb hX hbl hbA hS (vp_in_nI (by omega) (by omega)) dL_law_305 ?_
  refine w_i (z := xs (i + 1)) (congrArg xs (nI_clamp (by omega))) ?_
  refine lv_aload_n hx hb dL_law_306 rfl (lv_at hl 0 rfl) ?_
  refine lv_iload_n hx hb dL_law_307 rfl (lv_at hl 3 rfl) ?_
  refine lv_iconst (v := 2) hx hb dL_law_308 rfl ?_
  refine lv_iadd hx hb dL_law_309 ?_
  refine w_i (z := nI (i + 2)) (nI_add i 2) ?_
  refine va_sld hx hb hX hbl hbA hS (vp_in_nI (by omega) (by omega)) dL_law_310 ?_
  refine w_i (z := xs (i + 2)) (congrArg xs (nI_clamp (by omega))) ?_
  refine lx_V (As := [.int (xs (i + 1)), .int (xs (i + 2))]) (rest := []) S hK hP hD hS (k_X3_of n (xs (i + 1)) (xs (i + 2)) hI (rng_w hh (by decide))) gv_L_31 hd_X3_of ⟨Nat.le_of_ble_eq_true rfl, Nat.le_of_ble_eq_true rfl⟩ 3 rfl rfl rfl rfl hl.1 (lv_room (Nat.le_of_ble_eq_true rfl)) dL_law_311 ⟨Nat.le_of_ble_eq_true rfl, Nat.le_of_ble_eq_true rfl⟩ (fun ov w' H locs hp hP hD hS => ?_)
  obtain ⟨rfl, rfl⟩ := hp
  refine W.eq (g2 := F0 m 314 ls [.int (ofR gG n (xs (i + 1)) (xs (i + 2)))]) rfl ?_
  refine lv_aload_n hx hb dL_law_314 rfl (lv_at hl 2 rfl) ?_
  refine lv_aload_n hx hb dL_law_315 rfl (lv_at hl 0 rfl) ?_
  refine lv_iload_n hx hb dL_law_316 rfl (lv_at hl 3 rfl) ?_
  refine lv_iconst (v := 1) hx hb dL_law_317 rfl ?_
  refine lv_iadd hx hb dL_law_318 ?_
  refine w_i (z := nI (i + 1)) (nI_add i 1) ?_
  refine va_sld hx hb hX hbl hbA hS (vp_in_nI (by omega) (by omega)) dL_law_319 ?_
  refine w_i (z := xs (i + 1)) (congrArg xs (nI_clamp (by omega))) ?_
  refine lv_aload_n hx hb dL_law_320 rfl (lv_at hl 0 rfl) ?_
  refine lv_iload_n hx hb dL_law_321 rfl (lv_at hl 3 rfl) ?_
  refine lv_iconst (v := 2) hx hb dL_law_322 rfl ?_
  refine lv_iadd hx hb dL_law_323 ?_
  refine w_i (z := nI (i + 2)) (nI_add i 2) ?_
  refine va_sld hx hb hX hbl hbA hS (vp_in_nI (by omega) (by omega)) dL_law_324 ?_
  refine w_i (z := xs (i + 2)) (congrArg xs (nI_clamp (by omega))) ?_
  refine ly_V (As := [.int (xs (i + 1)), .int (xs (i + 2))]) (rest := [.int (ofR gG n (xs (i + 1)) (xs (i + 2)))]) S hK hP hD hS (k_X4_of n (xs (i + 1)) (xs (i + 2)) hI) gv_L_35 hd_X4_of ⟨Nat.le_of_ble_eq_true rfl, Nat.le_of_ble_eq_true rfl⟩ 4 rfl rfl rfl rfl hl.1 (lv_room (Nat.le_of_ble_eq_true rfl)) dL_law_325 ⟨Nat.le_of_ble_eq_true rfl, Nat.le_of_ble_eq_true rfl⟩ (fun ov w' H locs hp hP hD hS => ?_)
  obtain ⟨rfl, rfl⟩ := hp
  refine W.eq (g2 := F0 m 328 ls [.int (ofR gG n (xs (i + 1)) (xs (i + 2))), .int (ofR gG n (xs (i + 1)) (xs (i + 2)))]) rfl ?_
  refine lv_icmp_eq (tgt := 1214) hx hb dL_law_328 rfl (fun c9 => ?_) (fun c9 => absurd rfl c9)
  exact J _ _ ⟨gG, n, _, _, _, kn, ib, d, _, _, _, _, _, _, _, _, _, _, _, _, _, _, _, _, _, _, _, hI, hh, hkp, hd, hT, hSh, hP, hD⟩ hS

set_option maxHeartbeats 4000000 in
set_option maxRecDepth 100000 in
theorem law_5 (S : CallFix p m c cL_law 4 s #[Value.ref b] WL RL) (hK : va_K D vwCl (tyA cI cJ cO) s) (hX : va_X b L xs s s.heap) (hbl : b < s.heap.size) (hbA : ¬ Ap b) (hZ : ZS kA vA oB Ap s s.heap) (hL : L ≤ 3072) (i : Nat) (hi : i + 6 ≤ L) (hI0 : LI D cI cJ cO B A Ap H) (hS : va_S Ap s.heap H locs) (hl : lv_has ls 4 [(0, .ref b), (1, .ref (B 0)), (2, .ref (A 0)), (3, .int (nI i))]) (J : ∀ (H : Heap) (locs : List Loc), LI D cI cJ cO B A Ap H → va_S Ap s.heap H locs → W p l e room_1 s m #[Value.ref b] below meth c H locs 32 1267 Q (F0 m 1214 ls [])) : W p l e room_1 s m #[Value.ref b] below meth c H locs 32 1267 Q (F0 m 333 ls []) := by
  obtain ⟨gG, n, tG, kG, kS, kn, ib, d, tp, tk, bg, en, va, tn, bO, sO, nU, fS, cW, oS, aS, cA, fm, tt, vl, wr, mV, hI, hh, hkp, hd, hT, hSh, hP, hD⟩ := hI0
  obtain ⟨hx, hb, hml, hown, hts⟩ := id S
  refine lv_aload_n hx hb dL_law_333 rfl (lv_at hl 1 rfl) ?_
  refine lv_aload_n hx hb dL_law_334 rfl (lv_at hl 0 rfl) ?_
  refine lv_iload_n hx hb dL_law_335 rfl (lv_at hl 3 rfl) ?_
  refine lv_iconst (v := 1) hx hb dL_law_336 rfl ?_
  refine lv_iadd hx hb dL_law_337 ?_
  refine w_i (z := nI (i + 1)) (nI_add i 1) ?_
  refine va_sld hx hb hX hbl hbA hS (vp_in_nI (by omega) (by omega)) dL_law_338 ?_
  refine w_i (z := xs (i + 1)) (congrArg xs (nI_clamp (by omega))) ?_
  refine lv_aload_n hx hb dL_law_339 rfl (lv_at hl 0 rfl) ?_
  refine lv_iload_n hx hb dL_law_340 rfl (lv_at hl 3 rfl) ?_
  refine lv_iconst (v := 2) hx hb dL_law_341 rfl ?_
  refine lv_iadd hx hb dL_law_342 ?_
  refine w_i (z := nI (i + 2)) (nI_add i 2) ?_
  refine va_sld hx hb hX hbl hbA hS (vp_in_nI (by omega) (by omega)) dL_law_343 ?_
  refine w_i (z := xs (i + 2)) (congrArg xs (nI_clamp (by omega))) ?_
  refine lv_aload_n hx hb dL_law_344 rfl (lv_at hl 0 rfl) ?_
  refine lv_iload_n hx hb dL_law_345 rfl (lv_at hl 3 rfl) ?_
  refine lv_iconst (v := 3) hx hb dL_law_346 rfl ?_
  refine lv_iadd hx hb dL_law_347 ?_
  refine w_i (z := nI (i + 3)) (nI_add i 3) ?_
  refine va_sld hx hb hX hbl hbA hS (vp_in_nI (by omega) (by omega)) dL_law_348 ?_
  refine w_i (z := xs (i + 3)) (congrArg xs (nI_clamp (by omega))) ?_
  refine lx_V (As := [.int (xs (i + 1)), .int (xs (i + 2)), .int (xs (i + 3))]) (rest := []) S hK hP hD hS (k_X3_set n (xs (i + 1)) (xs (i + 2)) (xs (i + 3)) hI) gv_L_36 hd_X3_set ⟨Nat.le_of_ble_eq_true rfl, Nat.le_of_ble_eq_true rfl⟩ 3 rfl rfl rfl rfl hl.1 (lv_room (Nat.le_of_ble_eq_true rfl)) dL_law_349 ⟨Nat.le_of_ble_eq_true rfl, Nat.le_of_ble_eq_true rfl⟩ (fun ov w' H locs hp hP hD hS => ?_)
  obtain ⟨rfl, rfl⟩ := hp
  refine W.eq (g2 := F0 m 352 ls [.int (setR gG n (xs (i + 1)) (xs (i + 2)) (xs (i + 3)))]) rfl ?_
  refine lv_aload_n hx hb dL_law_352 rfl (lv_at hl 2 rfl) ?_
  refine lv_aload_n hx hb dL_law_353 rfl (lv_at hl 0 rfl) ?_
  refine lv_iload_n hx hb dL_law_354 rfl (lv_at hl 3 rfl) ?_
  refine lv_iconst (v := 1) hx hb dL_law_355 rfl ?_
  refine lv_iadd hx hb dL_law_356 ?_
  refine w_i (z := nI (i + 1)) (nI_add i 1) ?_
  refine va_sld hx hb hX hbl hbA hS (vp_in_nI (by omega) (by omega)) dL_law_357 ?_
  refine w_i (z := xs (i + 1)) (congrArg xs (nI_clamp (by omega))) ?_
  refine lv_aload_n hx hb dL_law_358 rfl (lv_at hl 0 rfl) ?_
  refine lv_iload_n hx hb dL_law_359 rfl (lv_at hl 3 rfl) ?_
  refine lv_iconst (v := 2) hx hb dL_law_360 rfl ?_
  refine lv_iadd hx hb dL_law_361 ?_
  refine w_i (z := nI (i + 2)) (nI_add i 2) ?_
  refine va_sld hx hb hX hbl hbA hS (vp_in_nI (by omega) (by omega)) dL_law_362 ?_
  refine w_i (z := xs (i + 2)) (congrArg xs (nI_clamp (by omega))) ?_
  refine lv_aload_n hx hb dL_law_363 rfl (lv_at hl 0 rfl) ?_
  refine lv_iload_n hx hb dL_law_364 rfl (lv_at hl 3 rfl) ?_
  refine lv_iconst (v := 3) hx hb dL_law_365 rfl ?_
  refine lv_iadd hx hb dL_law_366 ?_
  refine w_i (z := nI (i + 3)) (nI_add i 3) ?_
  refine va_sld hx hb hX hbl hbA hS (vp_in_nI (by omega) (by omega)) dL_law_367 ?_
  refine w_i (z := xs (i + 3)) (congrArg xs (nI_clamp (by omega))) ?_
  refine ly_V (As := [.int (xs (i + 1)), .int (xs (i + 2)), .int (xs (i + 3))]) (rest := [.int (setR gG n (xs (i + 1)) (xs (i + 2)) (xs (i + 3)))]) S hK hP hD hS (k_X4_set n (xs (i + 1)) (xs (i + 2)) (xs (i + 3)) hI) gv_L_39 hd_X4_set ⟨Nat.le_of_ble_eq_true rfl, Nat.le_of_ble_eq_true rfl⟩ 4 rfl rfl rfl rfl hl.1 (lv_room (Nat.le_of_ble_eq_true rfl)) dL_law_368 ⟨Nat.le_of_ble_eq_true rfl, Nat.le_of_ble_eq_true rfl⟩ (fun ov w' H locs hp hP hD hS => ?_)
  obtain ⟨rfl, rfl⟩ := hp
  refine W.eq (g2 := F0 m 371 ls [.int (setR gG n (xs (i + 1)) (xs (i + 2)) (xs (i + 3))), .int (setR gG n (xs (i + 1)) (xs (i + 2)) (xs (i + 3)))]) rfl ?_
  refine lv_icmp_eq (tgt := 1214) hx hb dL_law_371 rfl (fun c9 => ?_) (fun c9 => absurd rfl c9)
  exact J _ _ ⟨setG gG n (xs (i + 1)) (xs (i + 2)) (xs (i + 3)), n, _, _, _, kn, ib, d, _, _, _, _, _, _, _, _, _, _, _, _, _, _, _, _, _, _, _, Inv_set hI, by rw [set_0]; exact hh, hkp, hd, hT, hSh, hP, hD⟩ hS

set_option maxHeartbeats 4000000 in
set_option maxRecDepth 100000 in
theorem law_6 (S : CallFix p m c cL_law 4 s #[Value.ref b] WL RL) (hK : va_K D vwCl (tyA cI cJ cO) s) (hX : va_X b L xs s s.heap) (hbl : b < s.heap.size) (hbA : ¬ Ap b) (hZ : ZS kA vA oB Ap s s.heap) (hL : L ≤ 3072) (i : Nat) (hi : i + 6 ≤ L) (hI0 : LI D cI cJ cO B A Ap H) (hS : va_S Ap s.heap H locs) (hl : lv_has ls 4 [(0, .ref b), (1, .ref (B 0)), (2, .ref (A 0)), (3, .int (nI i))]) (J : ∀ (H : Heap) (locs : List Loc), LI D cI cJ cO B A Ap H → va_S Ap s.heap H locs → W p l e room_1 s m #[Value.ref b] below meth c H locs 32 1267 Q (F0 m 1214 ls [])) : W p l e room_1 s m #[Value.ref b] below meth c H locs 32 1267 Q (F0 m 376 ls []) := by
  obtain ⟨gG, n, tG, kG, kS, kn, ib, d, tp, tk, bg, en, va, tn, bO, sO, nU, fS, cW, oS, aS, cA, fm, tt, vl, wr, mV, hI, hh, hkp, hd, hT, hSh, hP, hD⟩ := hI0
  obtain ⟨hx, hb, hml, hown, hts⟩ := id S
  refine lv_aload_n hx hb dL_law_376 rfl (lv_at hl 1 rfl) ?_
  refine lv_aload_n hx hb dL_law_377 rfl (lv_at hl 0 rfl) ?_
  refine lv_iload_n hx hb dL_law_378 rfl (lv_at hl 3 rfl) ?_
  refine lv_iconst (v := 1) hx hb dL_law_379 rfl ?_
  refine lv_iadd hx hb dL_law_380 ?_
  refine w_i (z := nI (i + 1)) (nI_add i 1) ?_
  refine va_sld hx hb hX hbl hbA hS (vp_in_nI (by omega) (by omega)) dL_law_381 ?_
  refine w_i (z := xs (i + 1)) (congrArg xs (nI_clamp (by omega))) ?_
  refine lx_V (As := [.int (xs (i + 1))]) (rest := []) S hK hP hD hS (k_X3_seen n (xs (i + 1)) hI) gv_L_40 hd_X3_seen ⟨Nat.le_of_ble_eq_true rfl, Nat.le_of_ble_eq_true rfl⟩ 3 rfl rfl rfl rfl hl.1 (lv_room (Nat.le_of_ble_eq_true rfl)) dL_law_382 ⟨Nat.le_of_ble_eq_true rfl, Nat.le_of_ble_eq_true rfl⟩ (fun ov w' H locs hp hP hD hS => ?_)
  obtain ⟨rfl, rfl⟩ := hp
  refine W.eq (g2 := F0 m 385 ls [.int (seenR gG n (xs (i + 1)))]) rfl ?_
  refine lv_aload_n hx hb dL_law_385 rfl (lv_at hl 2 rfl) ?_
  refine lv_aload_n hx hb dL_law_386 rfl (lv_at hl 0 rfl) ?_
  refine lv_iload_n hx hb dL_law_387 rfl (lv_at hl 3 rfl) ?_
  refine lv_iconst (v := 1) hx hb dL_law_388 rfl ?_
  refine lv_iadd hx hb dL_law_389 ?_
  refine w_i (z := nI (i + 1)) (nI_add i 1) ?_
  refine va_sld hx hb hX hbl hbA hS (vp_in_nI (by omega) (by omega)) dL_law_390 ?_
  refine w_i (z := xs (i + 1)) (congrArg xs (nI_clamp (by omega))) ?_
  refine ly_V (As := [.int (xs (i + 1))]) (rest := [.int (seenR gG n (xs (i + 1)))]) S hK hP hD hS (k_X4_seen n (xs (i + 1)) hI) gv_L_43 hd_X4_seen ⟨Nat.le_of_ble_eq_true rfl, Nat.le_of_ble_eq_true rfl⟩ 4 rfl rfl rfl rfl hl.1 (lv_room (Nat.le_of_ble_eq_true rfl)) dL_law_391 ⟨Nat.le_of_ble_eq_true rfl, Nat.le_of_ble_eq_true rfl⟩ (fun ov w' H locs hp hP hD hS => ?_)
  obtain ⟨rfl, rfl⟩ := hp
  refine W.eq (g2 := F0 m 394 ls [.int (seenR gG n (xs (i + 1))), .int (seenR gG n (xs (i + 1)))]) rfl ?_
  refine lv_icmp_eq (tgt := 1214) hx hb dL_law_394 rfl (fun c9 => ?_) (fun c9 => absurd rfl c9)
  exact J _ _ ⟨gG, n, _, _, _, kn, ib, d, _, _, _, _, _, _, _, _, _, _, _, _, _, _, _, _, _, _, _, hI, hh, hkp, hd, hT, hSh, hP, hD⟩ hS

set_option maxHeartbeats 4000000 in
set_option maxRecDepth 100000 in
theorem law_7 (S : CallFix p m c cL_law 4 s #[Value.ref b] WL RL) (hK : va_K D vwCl (tyA cI cJ cO) s) (hX : va_X b L xs s s.heap) (hbl : b < s.heap.size) (hbA : ¬ Ap b) (hZ : ZS kA vA oB Ap s s.heap) (hL : L ≤ 3072) (i : Nat) (hi : i + 6 ≤ L) (hI0 : LI D cI cJ cO B A Ap H) (hS : va_S Ap s.heap H locs) (hl : lv_has ls 4 [(0, .ref b), (1, .ref (B 0)), (2, .ref (A 0)), (3, .int (nI i))]) (J : ∀ (H : Heap) (locs : List Loc), LI D cI cJ cO B A Ap H → va_S Ap s.heap H locs → W p l e room_1 s m #[Value.ref b] below meth c H locs 32 1267 Q (F0 m 1214 ls [])) : W p l e room_1 s m #[Value.ref b] below meth c H locs 32 1267 Q (F0 m 399 ls []) := by
  obtain ⟨gG, n, tG, kG, kS, kn, ib, d, tp, tk, bg, en, va, tn, bO, sO, nU, fS, cW, oS, aS, cA, fm, tt, vl, wr, mV, hI, hh, hkp, hd, hT, hSh, hP, hD⟩ := hI0
  obtain ⟨hx, hb, hml, hown, hts⟩ := id S
  refine lv_aload_n hx hb dL_law_399 rfl (lv_at hl 1 rfl) ?_
  refine lv_aload_n hx hb dL_law_400 rfl (lv_at hl 0 rfl) ?_
  refine lv_iload_n hx hb dL_law_401 rfl (lv_at hl 3 rfl) ?_
  refine lv_iconst (v := 1) hx hb dL_law_402 rfl ?_
  refine lv_iadd hx hb dL_law_403 ?_
  refine w_i (z := nI (i + 1)) (nI_add i 1) ?_
  refine va_sld hx hb hX hbl hbA hS (vp_in_nI (by omega) (by omega)) dL_law_404 ?_
  refine w_i (z := xs (i + 1)) (congrArg xs (nI_clamp (by omega))) ?_
  refine lv_aload_n hx hb dL_law_405 rfl (lv_at hl 0 rfl) ?_
  refine lv_iload_n hx hb dL_law_406 rfl (lv_at hl 3 rfl) ?_
  refine lv_iconst (v := 2) hx hb dL_law_407 rfl ?_
  refine lv_iadd hx hb dL_law_408 ?_
  refine w_i (z := nI (i + 2)) (nI_add i 2) ?_
  refine va_sld hx hb hX hbl hbA hS (vp_in_nI (by omega) (by omega)) dL_law_409 ?_
  refine w_i (z := xs (i + 2)) (congrArg xs (nI_clamp (by omega))) ?_
  refine lx_V (As := [.int (xs (i + 1)), .int (xs (i + 2))]) (rest := []) S hK hP hD hS (k_X3_turn n (xs (i + 1)) (xs (i + 2)) hI) gv_L_44 hd_X3_turn ⟨Nat.le_of_ble_eq_true rfl, Nat.le_of_ble_eq_true rfl⟩ 3 rfl rfl rfl rfl hl.1 (lv_room (Nat.le_of_ble_eq_true rfl)) dL_law_410 ⟨Nat.le_of_ble_eq_true rfl, Nat.le_of_ble_eq_true rfl⟩ (fun ov w' H locs hp hP hD hS => ?_)
  obtain ⟨rfl, rfl⟩ := hp
  refine W.eq (g2 := F0 m 413 ls [.int (turnR gG n (xs (i + 1)) (xs (i + 2)))]) rfl ?_
  refine lv_aload_n hx hb dL_law_413 rfl (lv_at hl 2 rfl) ?_
  refine lv_aload_n hx hb dL_law_414 rfl (lv_at hl 0 rfl) ?_
  refine lv_iload_n hx hb dL_law_415 rfl (lv_at hl 3 rfl) ?_
  refine lv_iconst (v := 1) hx hb dL_law_416 rfl ?_
  refine lv_iadd hx hb dL_law_417 ?_
  refine w_i (z := nI (i + 1)) (nI_add i 1) ?_
  refine va_sld hx hb hX hbl hbA hS (vp_in_nI (by omega) (by omega)) dL_law_418 ?_
  refine w_i (z := xs (i + 1)) (congrArg xs (nI_clamp (by omega))) ?_
  refine lv_aload_n hx hb dL_law_419 rfl (lv_at hl 0 rfl) ?_
  refine lv_iload_n hx hb dL_law_420 rfl (lv_at hl 3 rfl) ?_
  refine lv_iconst (v := 2) hx hb dL_law_421 rfl ?_
  refine lv_iadd hx hb dL_law_422 ?_
  refine w_i (z := nI (i + 2)) (nI_add i 2) ?_
  refine va_sld hx hb hX hbl hbA hS (vp_in_nI (by omega) (by omega)) dL_law_423 ?_
  refine w_i (z := xs (i + 2)) (congrArg xs (nI_clamp (by omega))) ?_
  refine ly_V (As := [.int (xs (i + 1)), .int (xs (i + 2))]) (rest := [.int (turnR gG n (xs (i + 1)) (xs (i + 2)))]) S hK hP hD hS (k_X4_turn n (xs (i + 1)) (xs (i + 2)) hI) gv_L_47 hd_X4_turn ⟨Nat.le_of_ble_eq_true rfl, Nat.le_of_ble_eq_true rfl⟩ 4 rfl rfl rfl rfl hl.1 (lv_room (Nat.le_of_ble_eq_true rfl)) dL_law_424 ⟨Nat.le_of_ble_eq_true rfl, Nat.le_of_ble_eq_true rfl⟩ (fun ov w' H locs hp hP hD hS => ?_)
  obtain ⟨rfl, rfl⟩ := hp
  refine W.eq (g2 := F0 m 427 ls [.int (turnR gG n (xs (i + 1)) (xs (i + 2))), .int (turnR gG n (xs (i + 1)) (xs (i + 2)))]) rfl ?_
  refine lv_icmp_eq (tgt := 1214) hx hb dL_law_427 rfl (fun c9 => ?_) (fun c9 => absurd rfl c9)
  exact J _ _ ⟨turnG gG n (xs (i + 1)) (xs (i + 2)), n, _, _, _, kn, ib, d, _, _, _, _, _, _, _, _, _, _, _, _, _, _, _, _, _, _, _, Inv_turn hI, by rw [turn_0]; exact hh, hkp, hd, hT, hSh, hP, hD⟩ hS

set_option maxHeartbeats 4000000 in
set_option maxRecDepth 100000 in
theorem law_8 (S : CallFix p m c cL_law 4 s #[Value.ref b] WL RL) (hK : va_K D vwCl (tyA cI cJ cO) s) (hX : va_X b L xs s s.heap) (hbl : b < s.heap.size) (hbA : ¬ Ap b) (hZ : ZS kA vA oB Ap s s.heap) (hL : L ≤ 3072) (i : Nat) (hi : i + 6 ≤ L) (hI0 : LI D cI cJ cO B A Ap H) (hS : va_S Ap s.heap H locs) (hl : lv_has ls 4 [(0, .ref b), (1, .ref (B 0)), (2, .ref (A 0)), (3, .int (nI i))]) (J : ∀ (H : Heap) (locs : List Loc), LI D cI cJ cO B A Ap H → va_S Ap s.heap H locs → W p l e room_1 s m #[Value.ref b] below meth c H locs 32 1267 Q (F0 m 1214 ls [])) : W p l e room_1 s m #[Value.ref b] below meth c H locs 32 1267 Q (F0 m 432 ls []) := by
  obtain ⟨gG, n, tG, kG, kS, kn, ib, d, tp, tk, bg, en, va, tn, bO, sO, nU, fS, cW, oS, aS, cA, fm, tt, vl, wr, mV, hI, hh, hkp, hd, hT, hSh, hP, hD⟩ := hI0
  obtain ⟨hx, hb, hml, hown, hts⟩ := id S
  refine lv_aload_n hx hb dL_law_432 rfl (lv_at hl 1 rfl) ?_
  refine lv_aload_n hx hb dL_law_433 rfl (lv_at hl 0 rfl) ?_
  refine lv_iload_n hx hb dL_law_434 rfl (lv_at hl 3 rfl) ?_
  refine lv_iconst (v := 1) hx hb dL_law_435 rfl ?_
  refine lv_iadd hx hb dL_law_436 ?_
  refine w_i (z := nI (i + 1)) (nI_add i 1) ?_
  refine va_sld hx hb hX hbl hbA hS (vp_in_nI (by omega) (by omega)) dL_law_437 ?_
  refine w_i (z := xs (i + 1)) (congrArg xs (nI_clamp (by omega))) ?_
  refine lv_aload_n hx hb dL_law_438 rfl (lv_at hl 0 rfl) ?_
  refine lv_iload_n hx hb dL_law_439 rfl (lv_at hl 3 rfl) ?_
  refine lv_iconst (v := 2) hx hb dL_law_440 rfl ?_
  refine lv_iadd hx hb dL_law_441 ?_
  refine w_i (z := nI (i + 2)) (nI_add i 2) ?_
  refine va_sld hx hb hX hbl hbA hS (vp_in_nI (by omega) (by omega)) dL_law_442 ?_
  refine w_i (z := xs (i + 2)) (congrArg xs (nI_clamp (by omega))) ?_
  refine lx_V (As := [.int (xs (i + 1)), .int (xs (i + 2))]) (rest := []) S hK hP hD hS (k_X3_as n (xs (i + 1)) (xs (i + 2)) hI) gv_L_48 hd_X3_as ⟨Nat.le_of_ble_eq_true rfl, Nat.le_of_ble_eq_true rfl⟩ 3 rfl rfl rfl rfl hl.1 (lv_room (Nat.le_of_ble_eq_true rfl)) dL_law_443 ⟨Nat.le_of_ble_eq_true rfl, Nat.le_of_ble_eq_true rfl⟩ (fun ov w' H locs hp hP hD hS => ?_)
  obtain ⟨rfl, rfl⟩ := hp
  refine W.eq (g2 := F0 m 446 ls [.int (asR gG n (xs (i + 1)) (xs (i + 2)))]) rfl ?_
  refine lv_aload_n hx hb dL_law_446 rfl (lv_at hl 2 rfl) ?_
  refine lv_aload_n hx hb dL_law_447 rfl (lv_at hl 0 rfl) ?_
  refine lv_iload_n hx hb dL_law_448 rfl (lv_at hl 3 rfl) ?_
  refine lv_iconst (v := 1) hx hb dL_law_449 rfl ?_
  refine lv_iadd hx hb dL_law_450 ?_
  refine w_i (z := nI (i + 1)) (nI_add i 1) ?_
  refine va_sld hx hb hX hbl hbA hS (vp_in_nI (by omega) (by omega)) dL_law_451 ?_
  refine w_i (z := xs (i + 1)) (congrArg xs (nI_clamp (by omega))) ?_
  refine lv_aload_n hx hb dL_law_452 rfl (lv_at hl 0 rfl) ?_
  refine lv_iload_n hx hb dL_law_453 rfl (lv_at hl 3 rfl) ?_
  refine lv_iconst (v := 2) hx hb dL_law_454 rfl ?_
  refine lv_iadd hx hb dL_law_455 ?_
  refine w_i (z := nI (i + 2)) (nI_add i 2) ?_
  refine va_sld hx hb hX hbl hbA hS (vp_in_nI (by omega) (by omega)) dL_law_456 ?_
  refine w_i (z := xs (i + 2)) (congrArg xs (nI_clamp (by omega))) ?_
  refine ly_V (As := [.int (xs (i + 1)), .int (xs (i + 2))]) (rest := [.int (asR gG n (xs (i + 1)) (xs (i + 2)))]) S hK hP hD hS (k_X4_as n (xs (i + 1)) (xs (i + 2)) hI) gv_L_51 hd_X4_as ⟨Nat.le_of_ble_eq_true rfl, Nat.le_of_ble_eq_true rfl⟩ 4 rfl rfl rfl rfl hl.1 (lv_room (Nat.le_of_ble_eq_true rfl)) dL_law_457 ⟨Nat.le_of_ble_eq_true rfl, Nat.le_of_ble_eq_true rfl⟩ (fun ov w' H locs hp hP hD hS => ?_)
  obtain ⟨rfl, rfl⟩ := hp
  refine W.eq (g2 := F0 m 460 ls [.int (asR gG n (xs (i + 1)) (xs (i + 2))), .int (asR gG n (xs (i + 1)) (xs (i + 2)))]) rfl ?_
  refine lv_icmp_eq (tgt := 1214) hx hb dL_law_460 rfl (fun c9 => ?_) (fun c9 => absurd rfl c9)
  exact J _ _ ⟨gG, n, _, _, _, kn, ib, d, _, _, _, _, _, _, _, _, _, _, _, _, _, _, _, _, _, _, _, hI, hh, hkp, hd, hT, hSh, hP, hD⟩ hS

set_option maxHeartbeats 4000000 in
set_option maxRecDepth 100000 in
theorem law_9 (S : CallFix p m c cL_law 4 s #[Value.ref b] WL RL) (hK : va_K D vwCl (tyA cI cJ cO) s) (hX : va_X b L xs s s.heap) (hbl : b < s.heap.size) (hbA : ¬ Ap b) (hZ : ZS kA vA oB Ap s s.heap) (hL : L ≤ 3072) (i : Nat) (hi : i + 6 ≤ L) (hI0 : LI D cI cJ cO B A Ap H) (hS : va_S Ap s.heap H locs) (hl : lv_has ls 4 [(0, .ref b), (1, .ref (B 0)), (2, .ref (A 0)), (3, .int (nI i))]) (J : ∀ (H : Heap) (locs : List Loc), LI D cI cJ cO B A Ap H → va_S Ap s.heap H locs → W p l e room_1 s m #[Value.ref b] below meth c H locs 32 1267 Q (F0 m 1214 ls [])) : W p l e room_1 s m #[Value.ref b] below meth c H locs 32 1267 Q (F0 m 465 ls []) := by
  obtain ⟨gG, n, tG, kG, kS, kn, ib, d, tp, tk, bg, en, va, tn, bO, sO, nU, fS, cW, oS, aS, cA, fm, tt, vl, wr, mV, hI, hh, hkp, hd, hT, hSh, hP, hD⟩ := hI0
  obtain ⟨hx, hb, hml, hown, hts⟩ := id S
  refine lv_aload_n hx hb dL_law_465 rfl (lv_at hl 1 rfl) ?_
  refine lv_aload_n hx hb dL_law_466 rfl (lv_at hl 0 rfl) ?_
  refine lv_iload_n hx hb dL_law_467 rfl (lv_at hl 3 rfl) ?_
  refine lv_iconst (v := 1) hx hb dL_law_468 rfl ?_
  refine lv_iadd hx hb dL_law_469 ?_
  refine w_i (z := nI (i + 1)) (nI_add i 1) ?_
  refine va_sld hx hb hX hbl hbA hS (vp_in_nI (by omega) (by omega)) dL_law_470 ?_
  refine w_i (z := xs (i + 1)) (congrArg xs (nI_clamp (by omega))) ?_
  refine lx_V (As := [.int (xs (i + 1))]) (rest := []) S hK hP hD hS (k_X3_hours n (xs (i + 1)) hI (rng_w hh (by decide))) gv_L_52 hd_X3_hours ⟨Nat.le_of_ble_eq_true rfl, Nat.le_of_ble_eq_true rfl⟩ 3 rfl rfl rfl rfl hl.1 (lv_room (Nat.le_of_ble_eq_true rfl)) dL_law_471 ⟨Nat.le_of_ble_eq_true rfl, Nat.le_of_ble_eq_true rfl⟩ (fun ov w' H locs hp hP hD hS => ?_)
  obtain ⟨rfl, rfl⟩ := hp
  refine W.eq (g2 := F0 m 474 ls [.int (hrsR gG n (xs (i + 1)))]) rfl ?_
  refine lv_aload_n hx hb dL_law_474 rfl (lv_at hl 2 rfl) ?_
  refine lv_aload_n hx hb dL_law_475 rfl (lv_at hl 0 rfl) ?_
  refine lv_iload_n hx hb dL_law_476 rfl (lv_at hl 3 rfl) ?_
  refine lv_iconst (v := 1) hx hb dL_law_477 rfl ?_
  refine lv_iadd hx hb dL_law_478 ?_
  refine w_i (z := nI (i + 1)) (nI_add i 1) ?_
  refine va_sld hx hb hX hbl hbA hS (vp_in_nI (by omega) (by omega)) dL_law_479 ?_
  refine w_i (z := xs (i + 1)) (congrArg xs (nI_clamp (by omega))) ?_
  refine ly_V (As := [.int (xs (i + 1))]) (rest := [.int (hrsR gG n (xs (i + 1)))]) S hK hP hD hS (k_X4_hours n (xs (i + 1)) hI) gv_L_55 hd_X4_hours ⟨Nat.le_of_ble_eq_true rfl, Nat.le_of_ble_eq_true rfl⟩ 4 rfl rfl rfl rfl hl.1 (lv_room (Nat.le_of_ble_eq_true rfl)) dL_law_480 ⟨Nat.le_of_ble_eq_true rfl, Nat.le_of_ble_eq_true rfl⟩ (fun ov w' H locs hp hP hD hS => ?_)
  obtain ⟨rfl, rfl⟩ := hp
  refine W.eq (g2 := F0 m 483 ls [.int (hrsR gG n (xs (i + 1))), .int (hrsR gG n (xs (i + 1)))]) rfl ?_
  refine lv_icmp_eq (tgt := 1214) hx hb dL_law_483 rfl (fun c9 => ?_) (fun c9 => absurd rfl c9)
  exact J _ _ ⟨hrsG gG n (xs (i + 1)), n, _, _, _, kn, ib, d, _, _, _, _, _, _, _, _, _, _, _, _, _, _, _, _, _, _, _, Inv_hrs hI, hrs_0 hh, hkp, hd, hT, hSh, hP, hD⟩ hS

set_option maxHeartbeats 4000000 in
set_option maxRecDepth 100000 in
theorem law_10 (S : CallFix p m c cL_law 4 s #[Value.ref b] WL RL) (hK : va_K D vwCl (tyA cI cJ cO) s) (hX : va_X b L xs s s.heap) (hbl : b < s.heap.size) (hbA : ¬ Ap b) (hZ : ZS kA vA oB Ap s s.heap) (hL : L ≤ 3072) (i : Nat) (hi : i + 6 ≤ L) (hI0 : LI D cI cJ cO B A Ap H) (hS : va_S Ap s.heap H locs) (hl : lv_has ls 4 [(0, .ref b), (1, .ref (B 0)), (2, .ref (A 0)), (3, .int (nI i))]) (J : ∀ (H : Heap) (locs : List Loc), LI D cI cJ cO B A Ap H → va_S Ap s.heap H locs → W p l e room_1 s m #[Value.ref b] below meth c H locs 32 1267 Q (F0 m 1214 ls [])) : W p l e room_1 s m #[Value.ref b] below meth c H locs 32 1267 Q (F0 m 488 ls []) := by
  obtain ⟨gG, n, tG, kG, kS, kn, ib, d, tp, tk, bg, en, va, tn, bO, sO, nU, fS, cW, oS, aS, cA, fm, tt, vl, wr, mV, hI, hh, hkp, hd, hT, hSh, hP, hD⟩ := hI0
  obtain ⟨hx, hb, hml, hown, hts⟩ := id S
  refine lv_aload_n hx hb dL_law_488 rfl (lv_at hl 1 rfl) ?_
  refine lv_aload_n hx hb dL_law_489 rfl (lv_at hl 0 rfl) ?_
  refine lv_iload_n hx hb dL_law_490 rfl (lv_at hl 3 rfl) ?_
  refine lv_iconst (v := 1) hx hb dL_law_491 rfl ?_
  refine lv_iadd hx hb dL_law_492 ?_
  refine w_i (z := nI (i + 1)) (nI_add i 1) ?_
  refine va_sld hx hb hX hbl hbA hS (vp_in_nI (by omega) (by omega)) dL_law_493 ?_
  refine w_i (z := xs (i + 1)) (congrArg xs (nI_clamp (by omega))) ?_
  refine lv_aload_n hx hb dL_law_494 rfl (lv_at hl 0 rfl) ?_
  refine lv_iload_n hx hb dL_law_495 rfl (lv_at hl 3 rfl) ?_
  refine lv_iconst (v := 2) hx hb dL_law_496 rfl ?_
  refine lv_iadd hx hb dL_law_497 ?_
  refine w_i (z := nI (i + 2)) (nI_add i 2) ?_
  refine va_sld hx hb hX hbl hbA hS (vp_in_nI (by omega) (by omega)) dL_law_498 ?_
  refine w_i (z := xs (i + 2)) (congrArg xs (nI_clamp (by omega))) ?_
  refine lv_aload_n hx hb dL_law_499 rfl (lv_at hl 0 rfl) ?_
  refine lv_iload_n hx hb dL_law_500 rfl (lv_at hl 3 rfl) ?_
  refine lv_iconst (v := 3) hx hb dL_law_501 rfl ?_
  refine lv_iadd hx hb dL_law_502 ?_
  refine w_i (z := nI (i + 3)) (nI_add i 3) ?_
  refine va_sld hx hb hX hbl hbA hS (vp_in_nI (by omega) (by omega)) dL_law_503 ?_
  refine w_i (z := xs (i + 3)) (congrArg xs (nI_clamp (by omega))) ?_
  refine lx_V (As := [.int (xs (i + 1)), .int (xs (i + 2)), .int (xs (i + 3))]) (rest := []) S hK hP hD hS (k_X3_on n (xs (i + 1)) (xs (i + 2)) (xs (i + 3)) hI (rng_w hh (by decide))) gv_L_56 hd_X3_on ⟨Nat.le_of_ble_eq_true rfl, Nat.le_of_ble_eq_true rfl⟩ 3 rfl rfl rfl rfl hl.1 (lv_room (Nat.le_of_ble_eq_true rfl)) dL_law_504 ⟨Nat.le_of_ble_eq_true rfl, Nat.le_of_ble_eq_true rfl⟩ (fun ov w' H locs hp hP hD hS => ?_)
  obtain ⟨tG1, rfl, rfl⟩ := hp
  refine W.eq (g2 := F0 m 507 ls [.int (onR gG n (xs (i + 1)) (xs (i + 2)) (xs (i + 3)))]) rfl ?_
  refine lv_aload_n hx hb dL_law_507 rfl (lv_at hl 2 rfl) ?_
  refine lv_aload_n hx hb dL_law_508 rfl (lv_at hl 0 rfl) ?_
  refine lv_iload_n hx hb dL_law_509 rfl (lv_at hl 3 rfl) ?_
  refine lv_iconst (v := 1) hx hb dL_law_510 rfl ?_
  refine lv_iadd hx hb dL_law_511 ?_
  refine w_i (z := nI (i + 1)) (nI_add i 1) ?_
  refine va_sld hx hb hX hbl hbA hS (vp_in_nI (by omega) (by omega)) dL_law_512 ?_
  refine w_i (z := xs (i + 1)) (congrArg xs (nI_clamp (by omega))) ?_
  refine lv_aload_n hx hb dL_law_513 rfl (lv_at hl 0 rfl) ?_
  refine lv_iload_n hx hb dL_law_514 rfl (lv_at hl 3 rfl) ?_
  refine lv_iconst (v := 2) hx hb dL_law_515 rfl ?_
  refine lv_iadd hx hb dL_law_516 ?_
  refine w_i (z := nI (i + 2)) (nI_add i 2) ?_
  refine va_sld hx hb hX hbl hbA hS (vp_in_nI (by omega) (by omega)) dL_law_517 ?_
  refine w_i (z := xs (i + 2)) (congrArg xs (nI_clamp (by omega))) ?_
  refine lv_aload_n hx hb dL_law_518 rfl (lv_at hl 0 rfl) ?_
  refine lv_iload_n hx hb dL_law_519 rfl (lv_at hl 3 rfl) ?_
  refine lv_iconst (v := 3) hx hb dL_law_520 rfl ?_
  refine lv_iadd hx hb dL_law_521 ?_
  refine w_i (z := nI (i + 3)) (nI_add i 3) ?_
  refine va_sld hx hb hX hbl hbA hS (vp_in_nI (by omega) (by omega)) dL_law_522 ?_
  refine w_i (z := xs (i + 3)) (congrArg xs (nI_clamp (by omega))) ?_
  refine ly_V (As := [.int (xs (i + 1)), .int (xs (i + 2)), .int (xs (i + 3))]) (rest := [.int (onR gG n (xs (i + 1)) (xs (i + 2)) (xs (i + 3)))]) S hK hP hD hS (k_X4_on n (xs (i + 1)) (xs (i + 2)) (xs (i + 3)) hI) gv_L_59 hd_X4_on ⟨Nat.le_of_ble_eq_true rfl, Nat.le_of_ble_eq_true rfl⟩ 4 rfl rfl rfl rfl hl.1 (lv_room (Nat.le_of_ble_eq_true rfl)) dL_law_523 ⟨Nat.le_of_ble_eq_true rfl, Nat.le_of_ble_eq_true rfl⟩ (fun ov w' H locs hp hP hD hS => ?_)
  obtain ⟨aS1, rfl, rfl⟩ := hp
  refine W.eq (g2 := F0 m 526 ls [.int (onR gG n (xs (i + 1)) (xs (i + 2)) (xs (i + 3))), .int (onR gG n (xs (i + 1)) (xs (i + 2)) (xs (i + 3)))]) rfl ?_
  refine lv_icmp_eq (tgt := 1214) hx hb dL_law_526 rfl (fun c9 => ?_) (fun c9 => absurd rfl c9)
  exact J _ _ ⟨gG, n, _, _, _, kn, ib, d, _, _, _, _, _, _, _, _, _, _, _, _, _, _, _, _, _, _, _, hI, hh, hkp, hd, hT, hSh, hP, hD⟩ hS

set_option maxHeartbeats 4000000 in
set_option maxRecDepth 100000 in
theorem law_11 (S : CallFix p m c cL_law 4 s #[Value.ref b] WL RL) (hK : va_K D vwCl (tyA cI cJ cO) s) (hX : va_X b L xs s s.heap) (hbl : b < s.heap.size) (hbA : ¬ Ap b) (hZ : ZS kA vA oB Ap s s.heap) (hL : L ≤ 3072) (i : Nat) (hi : i + 6 ≤ L) (hI0 : LI D cI cJ cO B A Ap H) (hS : va_S Ap s.heap H locs) (hl : lv_has ls 4 [(0, .ref b), (1, .ref (B 0)), (2, .ref (A 0)), (3, .int (nI i))]) (J : ∀ (H : Heap) (locs : List Loc), LI D cI cJ cO B A Ap H → va_S Ap s.heap H locs → W p l e room_1 s m #[Value.ref b] below meth c H locs 32 1267 Q (F0 m 1214 ls [])) : W p l e room_1 s m #[Value.ref b] below meth c H locs 32 1267 Q (F0 m 531 ls []) := by
  obtain ⟨gG, n, tG, kG, kS, kn, ib, d, tp, tk, bg, en, va, tn, bO, sO, nU, fS, cW, oS, aS, cA, fm, tt, vl, wr, mV, hI, hh, hkp, hd, hT, hSh, hP, hD⟩ := hI0
  obtain ⟨hx, hb, hml, hown, hts⟩ := id S
  refine lv_aload_n hx hb dL_law_531 rfl (lv_at hl 1 rfl) ?_
  refine lv_aload_n hx hb dL_law_532 rfl (lv_at hl 0 rfl) ?_
  refine lv_iload_n hx hb dL_law_533 rfl (lv_at hl 3 rfl) ?_
  refine lv_iconst (v := 1) hx hb dL_law_534 rfl ?_
  refine lv_iadd hx hb dL_law_535 ?_
  refine w_i (z := nI (i + 1)) (nI_add i 1) ?_
  refine va_sld hx hb hX hbl hbA hS (vp_in_nI (by omega) (by omega)) dL_law_536 ?_
  refine w_i (z := xs (i + 1)) (congrArg xs (nI_clamp (by omega))) ?_
  refine lx_V (As := [.int (xs (i + 1))]) (rest := []) S hK hP hD hS (k_X3_when n (xs (i + 1)) hI (rng_w hh (by decide))) gv_L_60 hd_X3_when ⟨Nat.le_of_ble_eq_true rfl, Nat.le_of_ble_eq_true rfl⟩ 3 rfl rfl rfl rfl hl.1 (lv_room (Nat.le_of_ble_eq_true rfl)) dL_law_537 ⟨Nat.le_of_ble_eq_true rfl, Nat.le_of_ble_eq_true rfl⟩ (fun ov w' H locs hp hP hD hS => ?_)
  obtain ⟨tG1, rfl, rfl⟩ := hp
  refine W.eq (g2 := F0 m 540 ls [.int (whenR gG n (xs (i + 1)))]) rfl ?_
  refine lv_aload_n hx hb dL_law_540 rfl (lv_at hl 2 rfl) ?_
  refine lv_aload_n hx hb dL_law_541 rfl (lv_at hl 0 rfl) ?_
  refine lv_iload_n hx hb dL_law_542 rfl (lv_at hl 3 rfl) ?_
  refine lv_iconst (v := 1) hx hb dL_law_543 rfl ?_
  refine lv_iadd hx hb dL_law_544 ?_
  refine w_i (z := nI (i + 1)) (nI_add i 1) ?_
  refine va_sld hx hb hX hbl hbA hS (vp_in_nI (by omega) (by omega)) dL_law_545 ?_
  refine w_i (z := xs (i + 1)) (congrArg xs (nI_clamp (by omega))) ?_
  refine ly_V (As := [.int (xs (i + 1))]) (rest := [.int (whenR gG n (xs (i + 1)))]) S hK hP hD hS (k_X4_when n (xs (i + 1)) hI) gv_L_63 hd_X4_when ⟨Nat.le_of_ble_eq_true rfl, Nat.le_of_ble_eq_true rfl⟩ 4 rfl rfl rfl rfl hl.1 (lv_room (Nat.le_of_ble_eq_true rfl)) dL_law_546 ⟨Nat.le_of_ble_eq_true rfl, Nat.le_of_ble_eq_true rfl⟩ (fun ov w' H locs hp hP hD hS => ?_)
  obtain ⟨aS1, rfl, rfl⟩ := hp
  refine W.eq (g2 := F0 m 549 ls [.int (whenR gG n (xs (i + 1))), .int (whenR gG n (xs (i + 1)))]) rfl ?_
  refine lv_icmp_eq (tgt := 1214) hx hb dL_law_549 rfl (fun c9 => ?_) (fun c9 => absurd rfl c9)
  exact J _ _ ⟨gG, n, _, _, _, kn, ib, d, _, _, _, _, _, _, _, _, _, _, _, _, _, _, _, _, _, _, _, hI, hh, hkp, hd, hT, hSh, hP, hD⟩ hS

set_option maxHeartbeats 4000000 in
set_option maxRecDepth 100000 in
theorem law_12 (S : CallFix p m c cL_law 4 s #[Value.ref b] WL RL) (hK : va_K D vwCl (tyA cI cJ cO) s) (hX : va_X b L xs s s.heap) (hbl : b < s.heap.size) (hbA : ¬ Ap b) (hZ : ZS kA vA oB Ap s s.heap) (hL : L ≤ 3072) (i : Nat) (hi : i + 6 ≤ L) (hI0 : LI D cI cJ cO B A Ap H) (hS : va_S Ap s.heap H locs) (hl : lv_has ls 4 [(0, .ref b), (1, .ref (B 0)), (2, .ref (A 0)), (3, .int (nI i))]) (J : ∀ (H : Heap) (locs : List Loc), LI D cI cJ cO B A Ap H → va_S Ap s.heap H locs → W p l e room_1 s m #[Value.ref b] below meth c H locs 32 1267 Q (F0 m 1214 ls [])) : W p l e room_1 s m #[Value.ref b] below meth c H locs 32 1267 Q (F0 m 554 ls []) := by
  obtain ⟨gG, n, tG, kG, kS, kn, ib, d, tp, tk, bg, en, va, tn, bO, sO, nU, fS, cW, oS, aS, cA, fm, tt, vl, wr, mV, hI, hh, hkp, hd, hT, hSh, hP, hD⟩ := hI0
  obtain ⟨hx, hb, hml, hown, hts⟩ := id S
  refine lv_aload_n hx hb dL_law_554 rfl (lv_at hl 1 rfl) ?_
  refine lx_V (As := []) (rest := []) S hK hP hD hS (k_X3_all n hI (rng_w hh (by decide))) gv_L_64 hd_X3_all ⟨Nat.le_of_ble_eq_true rfl, Nat.le_of_ble_eq_true rfl⟩ 3 rfl rfl rfl rfl hl.1 (lv_room (Nat.le_of_ble_eq_true rfl)) dL_law_555 ⟨Nat.le_of_ble_eq_true rfl, Nat.le_of_ble_eq_true rfl⟩ (fun ov w' H locs hp hP hD hS => ?_)
  obtain ⟨tG1, rfl, rfl⟩ := hp
  refine W.eq (g2 := F0 m 558 ls [.int (allR gG n)]) rfl ?_
  refine lv_aload_n hx hb dL_law_558 rfl (lv_at hl 2 rfl) ?_
  refine ly_V (As := []) (rest := [.int (allR gG n)]) S hK hP hD hS (k_X4_all n hI) gv_L_68 hd_X4_all ⟨Nat.le_of_ble_eq_true rfl, Nat.le_of_ble_eq_true rfl⟩ 4 rfl rfl rfl rfl hl.1 (lv_room (Nat.le_of_ble_eq_true rfl)) dL_law_559 ⟨Nat.le_of_ble_eq_true rfl, Nat.le_of_ble_eq_true rfl⟩ (fun ov w' H locs hp hP hD hS => ?_)
  obtain ⟨aS1, rfl, rfl⟩ := hp
  refine W.eq (g2 := F0 m 562 ls [.int (allR gG n), .int (allR gG n)]) rfl ?_
  refine lv_icmp_eq (tgt := 1214) hx hb dL_law_562 rfl (fun c9 => ?_) (fun c9 => absurd rfl c9)
  exact J _ _ ⟨gG, n, _, _, _, kn, ib, d, _, _, _, _, _, _, _, _, _, _, _, _, _, _, _, _, _, _, _, hI, hh, hkp, hd, hT, hSh, hP, hD⟩ hS

set_option maxHeartbeats 4000000 in
set_option maxRecDepth 100000 in
theorem law_13 (S : CallFix p m c cL_law 4 s #[Value.ref b] WL RL) (hK : va_K D vwCl (tyA cI cJ cO) s) (hX : va_X b L xs s s.heap) (hbl : b < s.heap.size) (hbA : ¬ Ap b) (hZ : ZS kA vA oB Ap s s.heap) (hL : L ≤ 3072) (i : Nat) (hi : i + 6 ≤ L) (hI0 : LI D cI cJ cO B A Ap H) (hS : va_S Ap s.heap H locs) (hl : lv_has ls 4 [(0, .ref b), (1, .ref (B 0)), (2, .ref (A 0)), (3, .int (nI i))]) (J : ∀ (H : Heap) (locs : List Loc), LI D cI cJ cO B A Ap H → va_S Ap s.heap H locs → W p l e room_1 s m #[Value.ref b] below meth c H locs 32 1267 Q (F0 m 1214 ls [])) : W p l e room_1 s m #[Value.ref b] below meth c H locs 32 1267 Q (F0 m 567 ls []) := by
  obtain ⟨gG, n, tG, kG, kS, kn, ib, d, tp, tk, bg, en, va, tn, bO, sO, nU, fS, cW, oS, aS, cA, fm, tt, vl, wr, mV, hI, hh, hkp, hd, hT, hSh, hP, hD⟩ := hI0
  obtain ⟨hx, hb, hml, hown, hts⟩ := id S
  refine lv_aload_n hx hb dL_law_567 rfl (lv_at hl 1 rfl) ?_
  refine lv_aload_n hx hb dL_law_568 rfl (lv_at hl 0 rfl) ?_
  refine lv_iload_n hx hb dL_law_569 rfl (lv_at hl 3 rfl) ?_
  refine lv_iconst (v := 1) hx hb dL_law_570 rfl ?_
  refine lv_iadd hx hb dL_law_571 ?_
  refine w_i (z := nI (i + 1)) (nI_add i 1) ?_
  refine va_sld hx hb hX hbl hbA hS (vp_in_nI (by omega) (by omega)) dL_law_572 ?_
  refine w_i (z := xs (i + 1)) (congrArg xs (nI_clamp (by omega))) ?_
  refine lx_V (As := [.int (xs (i + 1))]) (rest := []) S hK hP hD hS (k_X3_many n (xs (i + 1)) hI (rng_w hh (by decide))) gv_L_69 hd_X3_many ⟨Nat.le_of_ble_eq_true rfl, Nat.le_of_ble_eq_true rfl⟩ 3 rfl rfl rfl rfl hl.1 (lv_room (Nat.le_of_ble_eq_true rfl)) dL_law_573 ⟨Nat.le_of_ble_eq_true rfl, Nat.le_of_ble_eq_true rfl⟩ (fun ov w' H locs hp hP hD hS => ?_)
  obtain ⟨tG1, rfl, rfl⟩ := hp
  refine W.eq (g2 := F0 m 576 ls [.int (manyR gG n (xs (i + 1)))]) rfl ?_
  refine lv_aload_n hx hb dL_law_576 rfl (lv_at hl 2 rfl) ?_
  refine lv_aload_n hx hb dL_law_577 rfl (lv_at hl 0 rfl) ?_
  refine lv_iload_n hx hb dL_law_578 rfl (lv_at hl 3 rfl) ?_
  refine lv_iconst (v := 1) hx hb dL_law_579 rfl ?_
  refine lv_iadd hx hb dL_law_580 ?_
  refine w_i (z := nI (i + 1)) (nI_add i 1) ?_
  refine va_sld hx hb hX hbl hbA hS (vp_in_nI (by omega) (by omega)) dL_law_581 ?_
  refine w_i (z := xs (i + 1)) (congrArg xs (nI_clamp (by omega))) ?_
  refine ly_V (As := [.int (xs (i + 1))]) (rest := [.int (manyR gG n (xs (i + 1)))]) S hK hP hD hS (k_X4_many n (xs (i + 1)) hI) gv_L_72 hd_X4_many ⟨Nat.le_of_ble_eq_true rfl, Nat.le_of_ble_eq_true rfl⟩ 4 rfl rfl rfl rfl hl.1 (lv_room (Nat.le_of_ble_eq_true rfl)) dL_law_582 ⟨Nat.le_of_ble_eq_true rfl, Nat.le_of_ble_eq_true rfl⟩ (fun ov w' H locs hp hP hD hS => ?_)
  obtain ⟨aS1, rfl, rfl⟩ := hp
  refine W.eq (g2 := F0 m 585 ls [.int (manyR gG n (xs (i + 1))), .int (manyR gG n (xs (i + 1)))]) rfl ?_
  refine lv_icmp_eq (tgt := 1214) hx hb dL_law_585 rfl (fun c9 => ?_) (fun c9 => absurd rfl c9)
  exact J _ _ ⟨gG, n, _, _, _, kn, ib, d, _, _, _, _, _, _, _, _, _, _, _, _, _, _, _, _, _, _, _, hI, hh, hkp, hd, hT, hSh, hP, hD⟩ hS

set_option maxHeartbeats 4000000 in
set_option maxRecDepth 100000 in
theorem law_14 (S : CallFix p m c cL_law 4 s #[Value.ref b] WL RL) (hK : va_K D vwCl (tyA cI cJ cO) s) (hX : va_X b L xs s s.heap) (hbl : b < s.heap.size) (hbA : ¬ Ap b) (hZ : ZS kA vA oB Ap s s.heap) (hL : L ≤ 3072) (i : Nat) (hi : i + 6 ≤ L) (hI0 : LI D cI cJ cO B A Ap H) (hS : va_S Ap s.heap H locs) (hl : lv_has ls 4 [(0, .ref b), (1, .ref (B 0)), (2, .ref (A 0)), (3, .int (nI i))]) (J : ∀ (H : Heap) (locs : List Loc), LI D cI cJ cO B A Ap H → va_S Ap s.heap H locs → W p l e room_1 s m #[Value.ref b] below meth c H locs 32 1267 Q (F0 m 1214 ls [])) : W p l e room_1 s m #[Value.ref b] below meth c H locs 32 1267 Q (F0 m 590 ls []) := by
  obtain ⟨gG, n, tG, kG, kS, kn, ib, d, tp, tk, bg, en, va, tn, bO, sO, nU, fS, cW, oS, aS, cA, fm, tt, vl, wr, mV, hI, hh, hkp, hd, hT, hSh, hP, hD⟩ := hI0
  obtain ⟨hx, hb, hml, hown, hts⟩ := id S
  refine lv_aload_n hx hb dL_law_590 rfl (lv_at hl 1 rfl) ?_
  refine lv_aload_n hx hb dL_law_591 rfl (lv_at hl 0 rfl) ?_
  refine lv_iload_n hx hb dL_law_592 rfl (lv_at hl 3 rfl) ?_
  refine lv_iconst (v := 1) hx hb dL_law_593 rfl ?_
  refine lv_iadd hx hb dL_law_594 ?_
  refine w_i (z := nI (i + 1)) (nI_add i 1) ?_
  refine va_sld hx hb hX hbl hbA hS (vp_in_nI (by omega) (by omega)) dL_law_595 ?_
  refine w_i (z := xs (i + 1)) (congrArg xs (nI_clamp (by omega))) ?_
  refine lx_V (As := [.int (xs (i + 1))]) (rest := []) S hK hP hD hS (k_X3_porter n (xs (i + 1)) hI (rng_w hh (by decide))) gv_L_73 hd_X3_porter ⟨Nat.le_of_ble_eq_true rfl, Nat.le_of_ble_eq_true rfl⟩ 3 rfl rfl rfl rfl hl.1 (lv_room (Nat.le_of_ble_eq_true rfl)) dL_law_596 ⟨Nat.le_of_ble_eq_true rfl, Nat.le_of_ble_eq_true rfl⟩ (fun ov w' H locs hp hP hD hS => ?_)
  obtain ⟨tG1, rfl, rfl⟩ := hp
  refine W.eq (g2 := F0 m 599 ls [.int (porterR gG n (xs (i + 1)))]) rfl ?_
  refine lv_aload_n hx hb dL_law_599 rfl (lv_at hl 2 rfl) ?_
  refine lv_aload_n hx hb dL_law_600 rfl (lv_at hl 0 rfl) ?_
  refine lv_iload_n hx hb dL_law_601 rfl (lv_at hl 3 rfl) ?_
  refine lv_iconst (v := 1) hx hb dL_law_602 rfl ?_
  refine lv_iadd hx hb dL_law_603 ?_
  refine w_i (z := nI (i + 1)) (nI_add i 1) ?_
  refine va_sld hx hb hX hbl hbA hS (vp_in_nI (by omega) (by omega)) dL_law_604 ?_
  refine w_i (z := xs (i + 1)) (congrArg xs (nI_clamp (by omega))) ?_
  refine ly_V (As := [.int (xs (i + 1))]) (rest := [.int (porterR gG n (xs (i + 1)))]) S hK hP hD hS (k_X4_porter n (xs (i + 1)) hI) gv_L_76 hd_X4_porter ⟨Nat.le_of_ble_eq_true rfl, Nat.le_of_ble_eq_true rfl⟩ 4 rfl rfl rfl rfl hl.1 (lv_room (Nat.le_of_ble_eq_true rfl)) dL_law_605 ⟨Nat.le_of_ble_eq_true rfl, Nat.le_of_ble_eq_true rfl⟩ (fun ov w' H locs hp hP hD hS => ?_)
  obtain ⟨aS1, rfl, rfl⟩ := hp
  refine W.eq (g2 := F0 m 608 ls [.int (porterR gG n (xs (i + 1))), .int (porterR gG n (xs (i + 1)))]) rfl ?_
  refine lv_icmp_eq (tgt := 1214) hx hb dL_law_608 rfl (fun c9 => ?_) (fun c9 => absurd rfl c9)
  exact J _ _ ⟨gG, n, _, _, _, kn, ib, d, _, _, _, _, _, _, _, _, _, _, _, _, _, _, _, _, _, _, _, hI, hh, hkp, hd, hT, hSh, hP, hD⟩ hS

set_option maxHeartbeats 4000000 in
set_option maxRecDepth 100000 in
theorem law_15 (S : CallFix p m c cL_law 4 s #[Value.ref b] WL RL) (hK : va_K D vwCl (tyA cI cJ cO) s) (hX : va_X b L xs s s.heap) (hbl : b < s.heap.size) (hbA : ¬ Ap b) (hZ : ZS kA vA oB Ap s s.heap) (hL : L ≤ 3072) (i : Nat) (hi : i + 6 ≤ L) (hI0 : LI D cI cJ cO B A Ap H) (hS : va_S Ap s.heap H locs) (hl : lv_has ls 4 [(0, .ref b), (1, .ref (B 0)), (2, .ref (A 0)), (3, .int (nI i))]) (J : ∀ (H : Heap) (locs : List Loc), LI D cI cJ cO B A Ap H → va_S Ap s.heap H locs → W p l e room_1 s m #[Value.ref b] below meth c H locs 32 1267 Q (F0 m 1214 ls [])) : W p l e room_1 s m #[Value.ref b] below meth c H locs 32 1267 Q (F0 m 613 ls []) := by
  obtain ⟨gG, n, tG, kG, kS, kn, ib, d, tp, tk, bg, en, va, tn, bO, sO, nU, fS, cW, oS, aS, cA, fm, tt, vl, wr, mV, hI, hh, hkp, hd, hT, hSh, hP, hD⟩ := hI0
  obtain ⟨hx, hb, hml, hown, hts⟩ := id S
  refine lv_aload_n hx hb dL_law_613 rfl (lv_at hl 1 rfl) ?_
  refine lv_aload_n hx hb dL_law_614 rfl (lv_at hl 0 rfl) ?_
  refine lv_iload_n hx hb dL_law_615 rfl (lv_at hl 3 rfl) ?_
  refine lv_iconst (v := 1) hx hb dL_law_616 rfl ?_
  refine lv_iadd hx hb dL_law_617 ?_
  refine w_i (z := nI (i + 1)) (nI_add i 1) ?_
  refine va_sld hx hb hX hbl hbA hS (vp_in_nI (by omega) (by omega)) dL_law_618 ?_
  refine w_i (z := xs (i + 1)) (congrArg xs (nI_clamp (by omega))) ?_
  refine lv_aload_n hx hb dL_law_619 rfl (lv_at hl 0 rfl) ?_
  refine lv_iload_n hx hb dL_law_620 rfl (lv_at hl 3 rfl) ?_
  refine lv_iconst (v := 2) hx hb dL_law_621 rfl ?_
  refine lv_iadd hx hb dL_law_622 ?_
  refine w_i (z := nI (i + 2)) (nI_add i 2) ?_
  refine va_sld hx hb hX hbl hbA hS (vp_in_nI (by omega) (by omega)) dL_law_623 ?_
  refine w_i (z := xs (i + 2)) (congrArg xs (nI_clamp (by omega))) ?_
  refine lx_V (As := [.int (xs (i + 1)), .int (xs (i + 2))]) (rest := []) S hK hP hD hS (k_X3_by n (xs (i + 1)) (xs (i + 2)) hI (rng_w hh (by decide))) gv_L_77 hd_X3_by ⟨Nat.le_of_ble_eq_true rfl, Nat.le_of_ble_eq_true rfl⟩ 3 rfl rfl rfl rfl hl.1 (lv_room (Nat.le_of_ble_eq_true rfl)) dL_law_624 ⟨Nat.le_of_ble_eq_true rfl, Nat.le_of_ble_eq_true rfl⟩ (fun ov w' H locs hp hP hD hS => ?_)
  obtain ⟨tG1, rfl, rfl⟩ := hp
  refine W.eq (g2 := F0 m 627 ls [.int (byR gG n (xs (i + 1)) (xs (i + 2)))]) rfl ?_
  refine lv_aload_n hx hb dL_law_627 rfl (lv_at hl 2 rfl) ?_
  refine lv_aload_n hx hb dL_law_628 rfl (lv_at hl 0 rfl) ?_
  refine lv_iload_n hx hb dL_law_629 rfl (lv_at hl 3 rfl) ?_
  refine lv_iconst (v := 1) hx hb dL_law_630 rfl ?_
  refine lv_iadd hx hb dL_law_631 ?_
  refine w_i (z := nI (i + 1)) (nI_add i 1) ?_
  refine va_sld hx hb hX hbl hbA hS (vp_in_nI (by omega) (by omega)) dL_law_632 ?_
  refine w_i (z := xs (i + 1)) (congrArg xs (nI_clamp (by omega))) ?_
  refine lv_aload_n hx hb dL_law_633 rfl (lv_at hl 0 rfl) ?_
  refine lv_iload_n hx hb dL_law_634 rfl (lv_at hl 3 rfl) ?_
  refine lv_iconst (v := 2) hx hb dL_law_635 rfl ?_
  refine lv_iadd hx hb dL_law_636 ?_
  refine w_i (z := nI (i + 2)) (nI_add i 2) ?_
  refine va_sld hx hb hX hbl hbA hS (vp_in_nI (by omega) (by omega)) dL_law_637 ?_
  refine w_i (z := xs (i + 2)) (congrArg xs (nI_clamp (by omega))) ?_
  refine ly_V (As := [.int (xs (i + 1)), .int (xs (i + 2))]) (rest := [.int (byR gG n (xs (i + 1)) (xs (i + 2)))]) S hK hP hD hS (k_X4_by n (xs (i + 1)) (xs (i + 2)) hI) gv_L_80 hd_X4_by ⟨Nat.le_of_ble_eq_true rfl, Nat.le_of_ble_eq_true rfl⟩ 4 rfl rfl rfl rfl hl.1 (lv_room (Nat.le_of_ble_eq_true rfl)) dL_law_638 ⟨Nat.le_of_ble_eq_true rfl, Nat.le_of_ble_eq_true rfl⟩ (fun ov w' H locs hp hP hD hS => ?_)
  obtain ⟨aS1, rfl, rfl⟩ := hp
  refine W.eq (g2 := F0 m 641 ls [.int (byR gG n (xs (i + 1)) (xs (i + 2))), .int (byR gG n (xs (i + 1)) (xs (i + 2)))]) rfl ?_
  refine lv_icmp_eq (tgt := 1214) hx hb dL_law_641 rfl (fun c9 => ?_) (fun c9 => absurd rfl c9)
  exact J _ _ ⟨gG, n, _, _, _, kn, ib, d, _, _, _, _, _, _, _, _, _, _, _, _, _, _, _, _, _, _, _, hI, hh, hkp, hd, hT, hSh, hP, hD⟩ hS

set_option maxHeartbeats 4000000 in
set_option maxRecDepth 100000 in
theorem law_16 (S : CallFix p m c cL_law 4 s #[Value.ref b] WL RL) (hK : va_K D vwCl (tyA cI cJ cO) s) (hX : va_X b L xs s s.heap) (hbl : b < s.heap.size) (hbA : ¬ Ap b) (hZ : ZS kA vA oB Ap s s.heap) (hL : L ≤ 3072) (i : Nat) (hi : i + 6 ≤ L) (hI0 : LI D cI cJ cO B A Ap H) (hS : va_S Ap s.heap H locs) (hl : lv_has ls 4 [(0, .ref b), (1, .ref (B 0)), (2, .ref (A 0)), (3, .int (nI i))]) (J : ∀ (H : Heap) (locs : List Loc), LI D cI cJ cO B A Ap H → va_S Ap s.heap H locs → W p l e room_1 s m #[Value.ref b] below meth c H locs 32 1267 Q (F0 m 1214 ls [])) : W p l e room_1 s m #[Value.ref b] below meth c H locs 32 1267 Q (F0 m 646 ls []) := by
  obtain ⟨gG, n, tG, kG, kS, kn, ib, d, tp, tk, bg, en, va, tn, bO, sO, nU, fS, cW, oS, aS, cA, fm, tt, vl, wr, mV, hI, hh, hkp, hd, hT, hSh, hP, hD⟩ := hI0
  obtain ⟨hx, hb, hml, hown, hts⟩ := id S
  refine lv_aload_n hx hb dL_law_646 rfl (lv_at hl 1 rfl) ?_
  refine lv_aload_n hx hb dL_law_647 rfl (lv_at hl 0 rfl) ?_
  refine lv_iload_n hx hb dL_law_648 rfl (lv_at hl 3 rfl) ?_
  refine lv_iconst (v := 1) hx hb dL_law_649 rfl ?_
  refine lv_iadd hx hb dL_law_650 ?_
  refine w_i (z := nI (i + 1)) (nI_add i 1) ?_
  refine va_sld hx hb hX hbl hbA hS (vp_in_nI (by omega) (by omega)) dL_law_651 ?_
  refine w_i (z := xs (i + 1)) (congrArg xs (nI_clamp (by omega))) ?_
  refine lv_aload_n hx hb dL_law_652 rfl (lv_at hl 0 rfl) ?_
  refine lv_iload_n hx hb dL_law_653 rfl (lv_at hl 3 rfl) ?_
  refine lv_iconst (v := 2) hx hb dL_law_654 rfl ?_
  refine lv_iadd hx hb dL_law_655 ?_
  refine w_i (z := nI (i + 2)) (nI_add i 2) ?_
  refine va_sld hx hb hX hbl hbA hS (vp_in_nI (by omega) (by omega)) dL_law_656 ?_
  refine w_i (z := xs (i + 2)) (congrArg xs (nI_clamp (by omega))) ?_
  refine lx_V (As := [.int (xs (i + 1)), .int (xs (i + 2))]) (rest := []) S hK hP hD hS (k_X3_kind n (xs (i + 1)) (xs (i + 2)) hI (rng_w hh (by decide))) gv_L_81 hd_X3_kind ⟨Nat.le_of_ble_eq_true rfl, Nat.le_of_ble_eq_true rfl⟩ 3 rfl rfl rfl rfl hl.1 (lv_room (Nat.le_of_ble_eq_true rfl)) dL_law_657 ⟨Nat.le_of_ble_eq_true rfl, Nat.le_of_ble_eq_true rfl⟩ (fun ov w' H locs hp hP hD hS => ?_)
  obtain ⟨tG1, rfl, rfl⟩ := hp
  refine W.eq (g2 := F0 m 660 ls [.int (kindR gG n (xs (i + 1)) (xs (i + 2)))]) rfl ?_
  refine lv_aload_n hx hb dL_law_660 rfl (lv_at hl 2 rfl) ?_
  refine lv_aload_n hx hb dL_law_661 rfl (lv_at hl 0 rfl) ?_
  refine lv_iload_n hx hb dL_law_662 rfl (lv_at hl 3 rfl) ?_
  refine lv_iconst (v := 1) hx hb dL_law_663 rfl ?_
  refine lv_iadd hx hb dL_law_664 ?_
  refine w_i (z := nI (i + 1)) (nI_add i 1) ?_
  refine va_sld hx hb hX hbl hbA hS (vp_in_nI (by omega) (by omega)) dL_law_665 ?_
  refine w_i (z := xs (i + 1)) (congrArg xs (nI_clamp (by omega))) ?_
  refine lv_aload_n hx hb dL_law_666 rfl (lv_at hl 0 rfl) ?_
  refine lv_iload_n hx hb dL_law_667 rfl (lv_at hl 3 rfl) ?_
  refine lv_iconst (v := 2) hx hb dL_law_668 rfl ?_
  refine lv_iadd hx hb dL_law_669 ?_
  refine w_i (z := nI (i + 2)) (nI_add i 2) ?_
  refine va_sld hx hb hX hbl hbA hS (vp_in_nI (by omega) (by omega)) dL_law_670 ?_
  refine w_i (z := xs (i + 2)) (congrArg xs (nI_clamp (by omega))) ?_
  refine ly_V (As := [.int (xs (i + 1)), .int (xs (i + 2))]) (rest := [.int (kindR gG n (xs (i + 1)) (xs (i + 2)))]) S hK hP hD hS (k_X4_kind n (xs (i + 1)) (xs (i + 2)) hI) gv_L_84 hd_X4_kind ⟨Nat.le_of_ble_eq_true rfl, Nat.le_of_ble_eq_true rfl⟩ 4 rfl rfl rfl rfl hl.1 (lv_room (Nat.le_of_ble_eq_true rfl)) dL_law_671 ⟨Nat.le_of_ble_eq_true rfl, Nat.le_of_ble_eq_true rfl⟩ (fun ov w' H locs hp hP hD hS => ?_)
  obtain ⟨aS1, rfl, rfl⟩ := hp
  refine W.eq (g2 := F0 m 674 ls [.int (kindR gG n (xs (i + 1)) (xs (i + 2))), .int (kindR gG n (xs (i + 1)) (xs (i + 2)))]) rfl ?_
  refine lv_icmp_eq (tgt := 1214) hx hb dL_law_674 rfl (fun c9 => ?_) (fun c9 => absurd rfl c9)
  exact J _ _ ⟨gG, n, _, _, _, kn, ib, d, _, _, _, _, _, _, _, _, _, _, _, _, _, _, _, _, _, _, _, hI, hh, hkp, hd, hT, hSh, hP, hD⟩ hS

set_option maxHeartbeats 4000000 in
set_option maxRecDepth 100000 in
theorem law_17 (S : CallFix p m c cL_law 4 s #[Value.ref b] WL RL) (hK : va_K D vwCl (tyA cI cJ cO) s) (hX : va_X b L xs s s.heap) (hbl : b < s.heap.size) (hbA : ¬ Ap b) (hZ : ZS kA vA oB Ap s s.heap) (hL : L ≤ 3072) (i : Nat) (hi : i + 6 ≤ L) (hI0 : LI D cI cJ cO B A Ap H) (hS : va_S Ap s.heap H locs) (hl : lv_has ls 4 [(0, .ref b), (1, .ref (B 0)), (2, .ref (A 0)), (3, .int (nI i))]) (J : ∀ (H : Heap) (locs : List Loc), LI D cI cJ cO B A Ap H → va_S Ap s.heap H locs → W p l e room_1 s m #[Value.ref b] below meth c H locs 32 1267 Q (F0 m 1214 ls [])) : W p l e room_1 s m #[Value.ref b] below meth c H locs 32 1267 Q (F0 m 679 ls []) := by
  obtain ⟨gG, n, tG, kG, kS, kn, ib, d, tp, tk, bg, en, va, tn, bO, sO, nU, fS, cW, oS, aS, cA, fm, tt, vl, wr, mV, hI, hh, hkp, hd, hT, hSh, hP, hD⟩ := hI0
  obtain ⟨hx, hb, hml, hown, hts⟩ := id S
  refine lv_aload_n hx hb dL_law_679 rfl (lv_at hl 1 rfl) ?_
  refine lv_aload_n hx hb dL_law_680 rfl (lv_at hl 0 rfl) ?_
  refine lv_iload_n hx hb dL_law_681 rfl (lv_at hl 3 rfl) ?_
  refine lv_iconst (v := 1) hx hb dL_law_682 rfl ?_
  refine lv_iadd hx hb dL_law_683 ?_
  refine w_i (z := nI (i + 1)) (nI_add i 1) ?_
  refine va_sld hx hb hX hbl hbA hS (vp_in_nI (by omega) (by omega)) dL_law_684 ?_
  refine w_i (z := xs (i + 1)) (congrArg xs (nI_clamp (by omega))) ?_
  refine lv_aload_n hx hb dL_law_685 rfl (lv_at hl 0 rfl) ?_
  refine lv_iload_n hx hb dL_law_686 rfl (lv_at hl 3 rfl) ?_
  refine lv_iconst (v := 2) hx hb dL_law_687 rfl ?_
  refine lv_iadd hx hb dL_law_688 ?_
  refine w_i (z := nI (i + 2)) (nI_add i 2) ?_
  refine va_sld hx hb hX hbl hbA hS (vp_in_nI (by omega) (by omega)) dL_law_689 ?_
  refine w_i (z := xs (i + 2)) (congrArg xs (nI_clamp (by omega))) ?_
  refine lx_V (As := [.int (xs (i + 1)), .int (xs (i + 2))]) (rest := []) S hK hP hD hS (k_X3_place n (xs (i + 1)) (xs (i + 2)) hI (rng_w hh (by decide))) gv_L_85 hd_X3_place ⟨Nat.le_of_ble_eq_true rfl, Nat.le_of_ble_eq_true rfl⟩ 3 rfl rfl rfl rfl hl.1 (lv_room (Nat.le_of_ble_eq_true rfl)) dL_law_690 ⟨Nat.le_of_ble_eq_true rfl, Nat.le_of_ble_eq_true rfl⟩ (fun ov w' H locs hp hP hD hS => ?_)
  obtain ⟨tG1, rfl, rfl⟩ := hp
  refine W.eq (g2 := F0 m 693 ls [.int (placeR gG n (xs (i + 1)) (xs (i + 2)))]) rfl ?_
  refine lv_aload_n hx hb dL_law_693 rfl (lv_at hl 2 rfl) ?_
  refine lv_aload_n hx hb dL_law_694 rfl (lv_at hl 0 rfl) ?_
  refine lv_iload_n hx hb dL_law_695 rfl (lv_at hl 3 rfl) ?_
  refine lv_iconst (v := 1) hx hb dL_law_696 rfl ?_
  refine lv_iadd hx hb dL_law_697 ?_
  refine w_i (z := nI (i + 1)) (nI_add i 1) ?_
  refine va_sld hx hb hX hbl hbA hS (vp_in_nI (by omega) (by omega)) dL_law_698 ?_
  refine w_i (z := xs (i + 1)) (congrArg xs (nI_clamp (by omega))) ?_
  refine lv_aload_n hx hb dL_law_699 rfl (lv_at hl 0 rfl) ?_
  refine lv_iload_n hx hb dL_law_700 rfl (lv_at hl 3 rfl) ?_
  refine lv_iconst (v := 2) hx hb dL_law_701 rfl ?_
  refine lv_iadd hx hb dL_law_702 ?_
  refine w_i (z := nI (i + 2)) (nI_add i 2) ?_
  refine va_sld hx hb hX hbl hbA hS (vp_in_nI (by omega) (by omega)) dL_law_703 ?_
  refine w_i (z := xs (i + 2)) (congrArg xs (nI_clamp (by omega))) ?_
  refine ly_V (As := [.int (xs (i + 1)), .int (xs (i + 2))]) (rest := [.int (placeR gG n (xs (i + 1)) (xs (i + 2)))]) S hK hP hD hS (k_X4_place n (xs (i + 1)) (xs (i + 2)) hI) gv_L_88 hd_X4_place ⟨Nat.le_of_ble_eq_true rfl, Nat.le_of_ble_eq_true rfl⟩ 4 rfl rfl rfl rfl hl.1 (lv_room (Nat.le_of_ble_eq_true rfl)) dL_law_704 ⟨Nat.le_of_ble_eq_true rfl, Nat.le_of_ble_eq_true rfl⟩ (fun ov w' H locs hp hP hD hS => ?_)
  obtain ⟨aS1, rfl, rfl⟩ := hp
  refine W.eq (g2 := F0 m 707 ls [.int (placeR gG n (xs (i + 1)) (xs (i + 2))), .int (placeR gG n (xs (i + 1)) (xs (i + 2)))]) rfl ?_
  refine lv_icmp_eq (tgt := 1214) hx hb dL_law_707 rfl (fun c9 => ?_) (fun c9 => absurd rfl c9)
  exact J _ _ ⟨gG, n, _, _, _, kn, ib, d, _, _, _, _, _, _, _, _, _, _, _, _, _, _, _, _, _, _, _, hI, hh, hkp, hd, hT, hSh, hP, hD⟩ hS

end
