/-! the law: its calls, over the class's world beside the model's -/
section LAWR
variable {p : Program} {l : Launch} {e : Env} {R : Room} {s : State} {m : MethodId} {args : Array Value} {below : List Frame} {meth : Method} {c : Code} {H : Heap} {locs : List Loc} {cells slots : Nat} {Q : State → Prop}
variable {cc b : ByteArray} {pc nL n ix fr lo : Nat} {ls : Array Slot} {As rest st0 : List Value} {D : va_G} {ty : List (ClassId × FieldType)} {own : String} {y : MethodName} {ret : Option FieldType} {X Y : va_W} {a : Nat} {A : Nat → Prop} {kA vA : Nat → Nat} {oB : Option Nat}
theorem ap_P {X' : va_W} {H1 : Heap} (hP : va_P D vwCl (X ++ Y) H) (hD : va_D A (X ++ Y)) (ha : X'.map (fun q => q.1) = X.map (fun q => q.1)) (hk : ∀ q : Nat, q < H.size → ¬ q ∈ X.map (fun q => q.1) → H1[q]? = H[q]?) (hP1 : va_P D vwCl X' H1) : va_P D vwCl (X' ++ Y) H1 ∧ va_D A (X' ++ Y) := by
  refine ⟨va_P.app hP1 (fun k q hq => ?_), hD.addr (by rw [List.map_append, List.map_append, ha])⟩
  have h1 : (X ++ Y)[X.length + k]? = some q := by rw [List.getElem?_append_right (by omega), Nat.add_sub_cancel_left]; exact hq
  have h2 := hP _ q h1
  refine h2.kept (hk q.1 h2.lt (fun hm => ?_))
  obtain ⟨x, hx, he⟩ := List.mem_map.mp hm
  obtain ⟨j, hj⟩ := List.getElem?_of_mem hx
  have hl := (List.getElem?_eq_some_iff.mp hj).1
  have h3 : (X ++ Y)[j]? = some x := by rw [List.getElem?_append_left hl]; exact hj
  have := hD.1 j (X.length + k) x q h3 h1 he
  omega
theorem ap_Q {Y' : va_W} {H1 : Heap} (hP : va_P D vwCl (X ++ Y) H) (hD : va_D A (X ++ Y)) (ha : Y'.map (fun q => q.1) = Y.map (fun q => q.1)) (hk : ∀ q : Nat, q < H.size → ¬ q ∈ Y.map (fun q => q.1) → H1[q]? = H[q]?) (hP1 : va_P D vwCl Y' H1) : va_P D vwCl (X ++ Y') H1 ∧ va_D A (X ++ Y') := by
  refine ⟨va_P.app (fun k q hq => ?_) hP1, hD.addr (by rw [List.map_append, List.map_append, ha])⟩
  have hl := (List.getElem?_eq_some_iff.mp hq).1
  have h1 : (X ++ Y)[k]? = some q := by rw [List.getElem?_append_left hl]; exact hq
  have h2 := hP _ q h1
  refine h2.kept (hk q.1 h2.lt (fun hm => ?_))
  obtain ⟨x, hx, he⟩ := List.mem_map.mp hm
  obtain ⟨j, hj⟩ := List.getElem?_of_mem hx
  have h3 : (X ++ Y)[X.length + j]? = some x := by rw [List.getElem?_append_right (by omega), Nat.add_sub_cancel_left]; exact hj
  have := hD.1 (X.length + j) k x q h3 h1 he
  omega
theorem ap_x (hP : va_P D vwCl (X ++ Y) H) : va_P D vwCl X H := fun k q hq => hP k q (by rw [List.getElem?_append_left (List.getElem?_eq_some_iff.mp hq).1]; exact hq)
theorem ap_y (hP : va_P D vwCl (X ++ Y) H) : va_P D vwCl Y H := fun k q hq => hP (X.length + k) q (by rw [List.getElem?_append_right (by omega), Nat.add_sub_cancel_left]; exact hq)
theorem ap_dx (hD : va_D A (X ++ Y)) : va_D A X := ⟨fun i j x z hi hj h => hD.1 i j x z (by rw [List.getElem?_append_left (List.getElem?_eq_some_iff.mp hi).1]; exact hi) (by rw [List.getElem?_append_left (List.getElem?_eq_some_iff.mp hj).1]; exact hj) h, fun k q hq => hD.2 k q (by rw [List.getElem?_append_left (List.getElem?_eq_some_iff.mp hq).1]; exact hq)⟩
theorem ap_dy (hD : va_D A (X ++ Y)) : va_D A Y := ⟨fun i j x z hi hj h => by
    have := hD.1 (X.length + i) (X.length + j) x z (by rw [List.getElem?_append_right (by omega), Nat.add_sub_cancel_left]; exact hi) (by rw [List.getElem?_append_right (by omega), Nat.add_sub_cancel_left]; exact hj) h
    omega, fun k q hq => hD.2 (X.length + k) q (by rw [List.getElem?_append_right (by omega), Nat.add_sub_cancel_left]; exact hq)⟩
theorem mem_A {w : va_W} (hD : va_D A w) : ∀ q, q ∈ w.map (fun q => q.1) → A q := by
  intro q hq
  obtain ⟨x, hx, rfl⟩ := List.mem_map.mp hq
  obtain ⟨k, hk⟩ := List.getElem?_of_mem hx
  exact hD.2 k x hk
theorem lx_V {H0 : Heap} {post : Option Value → va_W → Prop} (S : CallFix p m c cc nL s args WL own) (hK : va_K D vwCl ty s) (hP : va_P D vwCl (X ++ Y) H) (hD : va_D A (X ++ Y)) (hS : va_S A H0 H locs) (hM : MU l D ty y b n ret fr lo (.ref a :: As) X post) (hG : GoodIn WL (wsV own ix y.cls y (wC y b n ret)))
    (hd : y.cls = y.cls ∧ y.cls ≠ "java/lang/invoke/MethodHandle" ∧ y.cls ≠ "java/lang/invoke/VarHandle" ∧ (parseMethodDescriptor y.desc).map (fun d => d.parameters.length) = some As.length) (hR : fr + 1 ≤ R.frames ∧ 8 + (n + 11) + lo ≤ R.locals)
    (ci : Nat) {q : vw_C} {fs : List Value} (hc : vwCl[ci]? = some q) (hq : q.1 = y.cls) (he : X[0]? = some (a, .inr (ci, fs)))
    (hst : st0 = As.reverse ++ .ref a :: rest) (hsz : ls.size = nL) (hW : 2 * (F0 m pc ls st0).monitorRoom + (rest.map fun v => v.category).sum ≤ 8) (hdg : decode cc pc = .ok (.invokevirtual ix, 3)) (hf : cells ≤ R.cells ∧ slots ≤ R.slots)
    (kk : ∀ (ov : Option Value) (X' : va_W) (H1 : Heap) (locs1 : List Loc), post ov X' → va_P D vwCl (X' ++ Y) H1 → va_D A (X' ++ Y) → va_S A H0 H1 locs1 → W p l e R s m args below meth c H1 locs1 cells slots Q (F0 m (pc + 3) ls (ov.toList ++ rest))) : W p l e R s m args below meth c H locs cells slots Q (F0 m pc ls st0) := by
  have hPc := ap_x hP
  have hDc := ap_dx hD
  have hA := mem_A hDc
  have hr := va_runV (e := e) (below := below) (meth := meth) (locs := locs) (cells := cells) (slots := slots) (H := H) (g := F0 m pc ls st0) (rest := rest) S hM (cwV (C := y.cls) As.length S.2.2.2.2 hG rfl rfl rfl hd hR) ⟨mu_blind, by obtain ⟨cell, g1, g2, g3⟩ := va_recv hK hPc hc he; exact ⟨cell, g1, g2, by rw [← hq]; exact g3⟩, fun U hU hW => ⟨rfl, by rw [hU]; exact hPc, va_K.moved hW.alike hK, hDc.weaken (fun _ _ _ _ => trivial)⟩⟩ rfl rfl hsz hst hW hdg hf
  intro T hT X0
  obtain ⟨v', st₀, t, T', L, h0, X', hL, e1, e2, ⟨ov, w', hv, hp, ha, hP1, hz, hk⟩, st⟩ := hr T hT X0
  cases hv
  rw [h0] at hz hk
  have hj := ap_P (X' := w') hP hD ha hk hP1
  rw [← e1] at hj hz
  obtain ⟨t2, a1, b1⟩ := kk _ w' T'.heap (locs ++ L) hp hj.1 hj.2 ⟨Nat.le_trans hS.1 hz, fun q h1 h2 => by rw [e1, hk q (Nat.lt_of_lt_of_le h1 hS.1) (fun z => h2 (hA q z))]; exact hS.2.1 q h1 h2, fun q hq => by
      rcases List.mem_append.mp hq with h | h
      · exact hS.2.2 q h
      · exact hA _ (hL q h)⟩ T' rfl X'
  exact ⟨t2, st t2 a1, b1⟩
theorem ly_V {H0 : Heap} {post : Option Value → va_W → Prop} (S : CallFix p m c cc nL s args WL own) (hK : va_K D vwCl ty s) (hP : va_P D vwCl (X ++ Y) H) (hD : va_D A (X ++ Y)) (hS : va_S A H0 H locs) (hM : MU l D ty y b n ret fr lo (.ref a :: As) Y post) (hG : GoodIn WL (wsV own ix y.cls y (wC y b n ret)))
    (hd : y.cls = y.cls ∧ y.cls ≠ "java/lang/invoke/MethodHandle" ∧ y.cls ≠ "java/lang/invoke/VarHandle" ∧ (parseMethodDescriptor y.desc).map (fun d => d.parameters.length) = some As.length) (hR : fr + 1 ≤ R.frames ∧ 8 + (n + 11) + lo ≤ R.locals)
    (ci : Nat) {q : vw_C} {fs : List Value} (hc : vwCl[ci]? = some q) (hq : q.1 = y.cls) (he : Y[0]? = some (a, .inr (ci, fs)))
    (hst : st0 = As.reverse ++ .ref a :: rest) (hsz : ls.size = nL) (hW : 2 * (F0 m pc ls st0).monitorRoom + (rest.map fun v => v.category).sum ≤ 8) (hdg : decode cc pc = .ok (.invokevirtual ix, 3)) (hf : cells ≤ R.cells ∧ slots ≤ R.slots)
    (kk : ∀ (ov : Option Value) (Y' : va_W) (H1 : Heap) (locs1 : List Loc), post ov Y' → va_P D vwCl (X ++ Y') H1 → va_D A (X ++ Y') → va_S A H0 H1 locs1 → W p l e R s m args below meth c H1 locs1 cells slots Q (F0 m (pc + 3) ls (ov.toList ++ rest))) : W p l e R s m args below meth c H locs cells slots Q (F0 m pc ls st0) := by
  have hPc := ap_y hP
  have hDc := ap_dy hD
  have hA := mem_A hDc
  have hr := va_runV (e := e) (below := below) (meth := meth) (locs := locs) (cells := cells) (slots := slots) (H := H) (g := F0 m pc ls st0) (rest := rest) S hM (cwV (C := y.cls) As.length S.2.2.2.2 hG rfl rfl rfl hd hR) ⟨mu_blind, by obtain ⟨cell, g1, g2, g3⟩ := va_recv hK hPc hc he; exact ⟨cell, g1, g2, by rw [← hq]; exact g3⟩, fun U hU hW => ⟨rfl, by rw [hU]; exact hPc, va_K.moved hW.alike hK, hDc.weaken (fun _ _ _ _ => trivial)⟩⟩ rfl rfl hsz hst hW hdg hf
  intro T hT X0
  obtain ⟨v', st₀, t, T', L, h0, X', hL, e1, e2, ⟨ov, w', hv, hp, ha, hP1, hz, hk⟩, st⟩ := hr T hT X0
  cases hv
  rw [h0] at hz hk
  have hj := ap_Q (Y' := w') hP hD ha hk hP1
  rw [← e1] at hj hz
  obtain ⟨t2, a1, b1⟩ := kk _ w' T'.heap (locs ++ L) hp hj.1 hj.2 ⟨Nat.le_trans hS.1 hz, fun q h1 h2 => by rw [e1, hk q (Nat.lt_of_lt_of_le h1 hS.1) (fun z => h2 (hA q z))]; exact hS.2.1 q h1 h2, fun q hq => by
      rcases List.mem_append.mp hq with h | h
      · exact hS.2.2 q h
      · exact hA _ (hL q h)⟩ T' rfl X'
  exact ⟨t2, st t2 a1, b1⟩
theorem lz_V {post : Option Value → va_W → Prop} (S : CallFix p m c cc nL s args WL own) (hK : va_K D vwCl ty s) (hP : va_P D vwCl (X ++ Y) H) (hD : va_D A (X ++ Y)) (hS : va_S A s.heap H locs) (hZ : ZS kA vA oB A s s.heap) (hM : MZ kA vA oB l D ty y b n ret fr lo (.ref a :: As) X post) (hG : GoodIn WL (wsV own ix y.cls y (wC y b n ret)))
    (hd : y.cls = y.cls ∧ y.cls ≠ "java/lang/invoke/MethodHandle" ∧ y.cls ≠ "java/lang/invoke/VarHandle" ∧ (parseMethodDescriptor y.desc).map (fun d => d.parameters.length) = some As.length) (hR : fr + 1 ≤ R.frames ∧ 8 + (n + 11) + lo ≤ R.locals)
    (ci : Nat) {q : vw_C} {fs : List Value} (hc : vwCl[ci]? = some q) (hq : q.1 = y.cls) (he : X[0]? = some (a, .inr (ci, fs)))
    (hst : st0 = As.reverse ++ .ref a :: rest) (hsz : ls.size = nL) (hW : 2 * (F0 m pc ls st0).monitorRoom + (rest.map fun v => v.category).sum ≤ 8) (hdg : decode cc pc = .ok (.invokevirtual ix, 3)) (hf : cells ≤ R.cells ∧ slots ≤ R.slots)
    (kk : ∀ (ov : Option Value) (X' : va_W) (H1 : Heap) (locs1 : List Loc), post ov X' → va_P D vwCl (X' ++ Y) H1 → va_D A (X' ++ Y) → va_S A s.heap H1 locs1 → W p l e R s m args below meth c H1 locs1 cells slots Q (F0 m (pc + 3) ls (ov.toList ++ rest))) : W p l e R s m args below meth c H locs cells slots Q (F0 m pc ls st0) := by
  have hPc := ap_x hP
  have hDc := ap_dx hD
  have hA := mem_A hDc
  have hr := va_runV (e := e) (below := below) (meth := meth) (locs := locs) (cells := cells) (slots := slots) (H := H) (g := F0 m pc ls st0) (rest := rest) S hM (cwV (C := y.cls) As.length S.2.2.2.2 hG rfl rfl rfl hd hR) ⟨mz_blind, by obtain ⟨cell, g1, g2, g3⟩ := va_recv hK hPc hc he; exact ⟨cell, g1, g2, by rw [← hq]; exact g3⟩, fun U hU hW => ⟨rfl, by rw [hU]; exact hPc, va_K.moved hW.alike hK, hDc.weaken (fun _ _ _ _ => trivial), by rw [hU]; exact hZ.go hS hW hA⟩⟩ rfl rfl hsz hst hW hdg hf
  intro T hT X0
  obtain ⟨v', st₀, t, T', L, h0, X', hL, e1, e2, ⟨ov, w', hv, hp, ha, hP1, hz, hk⟩, st⟩ := hr T hT X0
  cases hv
  rw [h0] at hz hk
  have hj := ap_P (X' := w') hP hD ha hk hP1
  rw [← e1] at hj hz
  obtain ⟨t2, a1, b1⟩ := kk _ w' T'.heap (locs ++ L) hp hj.1 hj.2 ⟨Nat.le_trans hS.1 hz, fun q h1 h2 => by rw [e1, hk q (Nat.lt_of_lt_of_le h1 hS.1) (fun z => h2 (hA q z))]; exact hS.2.1 q h1 h2, fun q hq => by
      rcases List.mem_append.mp hq with h | h
      · exact hS.2.2 q h
      · exact hA _ (hL q h)⟩ T' rfl X'
  exact ⟨t2, st t2 a1, b1⟩
end LAWR
/-- between two calls: what the class keeps is what the model keeps -/
def LI (D : va_G) (cI cJ cO : ClassId) (B A : Nat → Nat) (Ap : Nat → Prop) (H : Heap) : Prop :=
  ∃ (gG : Nat → Int32) (n : Nat) (tG kG kS : Nat → Int32) (kn : Nat) (ib : Bool) (d : Nat) (tp : Nat → Int32) (tk bg en va tn : Int32) (bO sO : Nat → Int32) (nU : Nat → Int64) (fS cW oS aS cA : Nat → Int32) (fm tt vl wr : Int32) (mV : Nat → Int64),
    Inv gG n ∧ rng (gG 0) 0 99999 ∧ (ib = true → kS = kG ∧ Inv kG kn ∧ rng (kG 0) 0 99999) ∧ d ≤ 120 ∧ TpI tp d ∧ ShI sO ∧ va_P D vwCl (VX cI cJ cO B gG tG kG (b2i ib) (nI d) tp tk bg en va tn bO sO nU fS cW ++ MW cI cJ A gG kS oS aS fS (b2i ib) cA tp (nI d) fm tt vl wr bO sO nU mV) H ∧ va_D Ap (VX cI cJ cO B gG tG kG (b2i ib) (nI d) tp tk bg en va tn bO sO nU fS cW ++ MW cI cJ A gG kS oS aS fS (b2i ib) cA tp (nI d) fm tt vl wr bO sO nU mV)
theorem rng_w {x : Int32} {b : Int} (h : rng x 0 99999) (hb : 99999 ≤ b) : rng x 0 b := ⟨h.1, by have := h.2; omega⟩
theorem byteV_pos {b : Int32} {k : Nat} : 0 ≤ byteV b k := by
  obtain ⟨j, hj, e⟩ := pk_andE (b >>> ((8 * nI k) &&& 31)) (m := 255) 8 (by decide)
  unfold byteV
  rw [e]
  exact nI_pos' (by omega)
theorem feed_k {tp : Nat → Int32} {d : Nat} {b k : Int32} (hd : d ≤ 120) (hT : TpI tp d) : ∃ d', feedD d k = nI d' ∧ d' ≤ 120 ∧ TpI (feedP tp d b k) d' := by
  unfold feedD feedP
  cases h1 : inI k 1 4 with
  | false => exact ⟨d, rfl, hd, hT⟩
  | true =>
    rw [if_pos rfl, if_pos rfl]
    cases h2 : feedOk d k with
    | false => exact ⟨d, rfl, hd, hT⟩
    | true =>
      rw [if_pos rfl, if_pos rfl]
      unfold feedOk at h2
      refine ⟨d + cl k, rfl, of_decide_eq_true h2, fun j hj => ?_⟩
      unfold feedF
      by_cases q : d ≤ j ∧ j < d + cl k
      · rw [if_pos q]; exact byteV_pos
      · rw [if_neg q]; exact hT j (by omega)
theorem sht_k {sO : Nat → Int32} {x b v : Int32} (h : ShI sO) : ShI (shtS sO x b v) := by
  unfold shtS
  by_cases q : shtW x b v = 0
  · rw [if_pos q]
    intro i hi
    unfold upd
    split
    · unfold shtZ
      by_cases hb : b = 0
      · rw [if_pos hb]; exact ⟨by decide, by decide⟩
      · rw [if_neg hb]
        unfold shtW at q
        have e0 : (0 : Int32).toInt = 0 := by decide
        have e40 : (40 : Int32).toInt = 40 := by decide
        by_cases c1 : inI x 0 3 = true
        · rw [if_pos c1] at q
          by_cases c2 : bitsOk b = true
          · rw [if_pos c2] at q
            by_cases c3 : 0 ≤ v
            · rw [if_pos c3] at q
              by_cases c4 : v ≤ 40
              · rw [le_I, e0] at c3
                rw [le_I, e40] at c4
                exact ⟨c3, c4⟩
              · rw [if_neg c4] at q; exact absurd q (by decide)
            · rw [if_neg c3] at q; exact absurd q (by decide)
          · rw [if_neg c2] at q; exact absurd q (by decide)
        · rw [if_neg c1] at q; exact absurd q (by decide)
    · exact h i hi
  · rw [if_neg q]; exact h
