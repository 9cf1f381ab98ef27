/-! contracts over a world of fixed cells, and the rows that call by them -/
theorem va_D.addr {A : Nat → Prop} {ws ws' : va_W} (h : va_D A ws) (e : ws'.map (fun q => q.1) = ws.map (fun q => q.1)) : va_D A ws' := by
  have key : ∀ (k : Nat) (q : Nat × va_E), ws'[k]? = some q → ∃ q0, ws[k]? = some q0 ∧ q0.1 = q.1 := by
    intro k q hk
    have h1 : (ws'.map (fun q => q.1))[k]? = some q.1 := by rw [List.getElem?_map, hk]; rfl
    rw [e, List.getElem?_map] at h1
    cases hq : ws[k]? with
    | none => rw [hq] at h1; cases h1
    | some q0 => rw [hq] at h1; exact ⟨q0, rfl, Option.some.inj h1⟩
  refine ⟨fun i j x y hi hj hxy => ?_, fun k q hk => ?_⟩
  · obtain ⟨x0, h1, h2⟩ := key i x hi
    obtain ⟨y0, h3, h4⟩ := key j y hj
    exact h.1 i j x0 y0 h1 h3 (h2.trans (hxy.trans h4.symm))
  · obtain ⟨q0, h1, h2⟩ := key k q hk
    rw [← h2]
    exact h.2 k q0 h1
/-- cells at places become others -/
def wSet : va_W → List Nat → va_W → va_W
  | ws, i :: is, e :: w => wSet (ws.set i e) is w
  | ws, _, _ => ws
theorem wSet_get : ∀ (is : List Nat) (w ws : va_W) (k : Nat) (q : Nat × va_E), is.length = w.length → (wSet ws is w)[k]? = some q → q ∈ w ∨ (k ∉ is ∧ ws[k]? = some q)
  | [], w, ws, k, q, _, h => by
    right
    refine ⟨List.not_mem_nil, ?_⟩
    cases w <;> exact h
  | i :: is, [], ws, k, q, hl, h => by cases hl
  | i :: is, e :: w, ws, k, q, hl, h => by
    rcases wSet_get is w (ws.set i e) k q (Nat.succ.inj hl) h with h1 | ⟨h1, h2⟩
    · exact Or.inl (List.mem_cons_of_mem _ h1)
    · by_cases hk : k = i
      · subst hk
        rw [List.getElem?_set] at h2
        split at h2
        · split at h2
          · cases h2
            exact Or.inl List.mem_cons_self
          · cases h2
        · exact absurd rfl (by assumption)
      · rw [List.getElem?_set_ne (Ne.symm hk)] at h2
        exact Or.inr ⟨fun hm => (List.mem_cons.mp hm).elim hk h1, h2⟩
theorem set_self_of {α : Type} : ∀ (l : List α) (i : Nat) (x : α), l[i]? = some x → l.set i x = l
  | [], i, x, h => by simp at h
  | a :: l, 0, x, h => by simp at h; subst h; rfl
  | a :: l, i + 1, x, h => by
    rw [List.getElem?_cons_succ] at h
    rw [List.set_cons_succ, set_self_of l i x h]
theorem wSet_addr : ∀ (is : List Nat) (w ws wc : va_W), is.map (fun i => ws[i]?) = wc.map some → w.map (fun q => q.1) = wc.map (fun q => q.1) → (∀ A : Nat → Prop, va_D A ws → True) → (wSet ws is w).map (fun q => q.1) = ws.map (fun q => q.1) := by
  have gen : ∀ (is : List Nat) (w ws : va_W), (∀ (j i : Nat) (e : Nat × va_E), is[j]? = some i → w[j]? = some e → (ws.map (fun q => q.1))[i]? = some e.1) → (wSet ws is w).map (fun q => q.1) = ws.map (fun q => q.1) := by
    intro is
    induction is with
    | nil => intro w ws _; cases w <;> rfl
    | cons i is ih =>
      intro w ws h
      cases w with
      | nil => rfl
      | cons e w =>
        have h0 := h 0 i e rfl rfl
        have hs : (ws.set i e).map (fun q => q.1) = ws.map (fun q => q.1) := by
          rw [List.map_set]
          exact set_self_of _ _ _ h0
        show (wSet (ws.set i e) is w).map (fun q => q.1) = _
        rw [ih w (ws.set i e) (fun j i' e' h1 h2 => by rw [hs]; exact h (j + 1) i' e' h1 h2), hs]
  intro is w ws wc hC ha _
  refine gen is w ws (fun j i e h1 h2 => ?_)
  have h3 : (wc.map (fun q => q.1))[j]? = some e.1 := by rw [← ha, List.getElem?_map, h2]; rfl
  rw [List.getElem?_map] at h3
  cases hq : wc[j]? with
  | none => rw [hq] at h3; cases h3
  | some q =>
    rw [hq] at h3
    have h4 : (is.map (fun i => ws[i]?))[j]? = some (some q) := by rw [hC, List.getElem?_map, hq]; rfl
    rw [List.getElem?_map, h1] at h4
    have h5 : ws[i]? = some q := Option.some.inj h4
    rw [List.getElem?_map, h5]
    exact h3
theorem wSet_P {A : Nat → Prop} {D : va_G} {cl : List vw_C} {ws wc w : va_W} {H H1 : Heap} (hP : va_P D cl ws H) (hD : va_D A ws) (is : List Nat) (hC : is.map (fun i => ws[i]?) = wc.map some) (ha : w.map (fun q => q.1) = wc.map (fun q => q.1))
    (hk : ∀ q : Nat, q < H.size → ¬ q ∈ wc.map (fun q => q.1) → H1[q]? = H[q]?) (hP1 : va_P D cl w H1) : va_P D cl (wSet ws is w) H1 ∧ va_D A (wSet ws is w) := by
  have hlen : is.length = w.length := by
    have h1 := congrArg List.length hC
    have h2 := congrArg List.length ha
    simp at h1 h2
    omega
  refine ⟨fun k q hq => ?_, hD.addr (wSet_addr is w ws wc hC ha (fun _ _ => trivial))⟩
  rcases wSet_get is w ws k q hlen hq with h | ⟨h1, h2⟩
  · obtain ⟨j, hj⟩ := List.getElem?_of_mem h
    exact hP1 j q hj
  · have h0 := hP k q h2
    refine h0.kept (hk q.1 h0.lt (fun hm => ?_))
    obtain ⟨q2, hm2, he⟩ := List.mem_map.mp hm
    obtain ⟨j, hj⟩ := List.getElem?_of_mem hm2
    have h4 : (is.map (fun i => ws[i]?))[j]? = some (some q2) := by rw [hC, List.getElem?_map, hj]; rfl
    rw [List.getElem?_map] at h4
    cases hi : is[j]? with
    | none => rw [hi] at h4; cases h4
    | some i =>
      rw [hi] at h4
      have h5 : ws[i]? = some q2 := Option.some.inj h4
      have h6 := hD.1 i k q2 q h5 h2 he
      subst h6
      exact h1 (List.mem_of_getElem? hi)
theorem arrV_congr {cA : ClassId} {n : Nat} {f g : Nat → Value} (h : ∀ j, j < n → f j = g j) : arrV cA n f = arrV cA n g := by
  unfold arrV
  congr 1
  refine congrArg _ (funext fun j => h j.val j.isLt)
/-- an array's row may be any that is the same within its length -/
theorem va_P.fi {D : va_G} {cl : List vw_C} {ws : va_W} {H : Heap} (h : va_P D cl ws H) (k : Nat) {a : Nat} {cA : ClassId} {n : Nat} {f : Nat → Int32} (g : Nat → Int32) (hk : ws[k]? = some (a, .inl (cA, n, .inl f))) (hg : ∀ j, j < n → f j = g j) : va_P D cl (ws.set k (a, .inl (cA, n, .inl g))) H := by
  intro i q hi
  rw [List.getElem?_set] at hi
  split at hi
  · split at hi
    · cases hi
      have h1 := h k _ hk
      show H[a]? = some (vp_cell cA (n, .inl g))
      rw [vp_cell_i, arrV_congr (g := fun j => .int (f j)) (fun j hj => by rw [hg j hj]), ← vp_cell_i]
      exact h1
    · cases hi
  · exact h i q hi
theorem va_P.fl {D : va_G} {cl : List vw_C} {ws : va_W} {H : Heap} (h : va_P D cl ws H) (k : Nat) {a : Nat} {cA : ClassId} {n : Nat} {f : Nat → Int64} (g : Nat → Int64) (hk : ws[k]? = some (a, .inl (cA, n, .inr (.inl f)))) (hg : ∀ j, j < n → f j = g j) : va_P D cl (ws.set k (a, .inl (cA, n, .inr (.inl g)))) H := by
  intro i q hi
  rw [List.getElem?_set] at hi
  split at hi
  · split at hi
    · cases hi
      have h1 := h k _ hk
      show H[a]? = some (vp_cell cA (n, .inr (.inl g)))
      rw [vp_cell_l, arrV_congr (g := fun j => .long (f j)) (fun j hj => by rw [hg j hj]), ← vp_cell_l]
      exact h1
    · cases hi
  · exact h i q hi
def b2i (b : Bool) : Int32 := if b then 1 else 0
theorem b2i_t : b2i true = 1 := rfl
theorem b2i_f : b2i false = 0 := rfl
theorem b2i_0 (b : Bool) : b2i b = 0 ↔ b = false := by cases b <;> decide
theorem b2i_1 (b : Bool) : b2i b = 1 ↔ b = true := by cases b <;> decide
theorem b2i_n (b : Bool) : narrow .boolean (.int (b2i b)) = .int (b2i b) := by cases b <;> rfl
theorem b2i_fit (b : Bool) : fits .boolean (.int (b2i b)) = true := by cases b <;> rfl
theorem b2i_if (b : Bool) : (if b = true then (1 : Int32) else 0) = b2i b := rfl
/-- a method that reads alone: it answers v, the heap stays -/
def RO (l : Launch) (D : va_G) (ty : List (ClassId × FieldType)) (y : MethodName) (b : ByteArray) (n : Nat) (r : Option FieldType) (fr lo : Nat) (av : List Value) (w : va_W) (v : Value) : Prop :=
  Met l y (wC y b n r) { frames := fr, cells := 0, slots := 0, locals := lo } (va_Pc av (fun U => va_P D vwCl w U.heap ∧ va_K D vwCl ty U)) (fun _ st o t => o = .returned (some v) ∧ t.heap = st.heap) 0 0 (fun _ => False)
/-- a method that writes within its world alone -/
def MU (l : Launch) (D : va_G) (ty : List (ClassId × FieldType)) (y : MethodName) (b : ByteArray) (n : Nat) (r : Option FieldType) (fr lo : Nat) (av : List Value) (w : va_W) (post : Option Value → va_W → Prop) : Prop :=
  Met l y (wC y b n r) { frames := fr, cells := 0, slots := 0, locals := lo } (va_Pc av (fun U => va_P D vwCl w U.heap ∧ va_K D vwCl ty U ∧ va_D (fun _ => True) w))
    (fun _ st o t => ∃ (ov : Option Value) (w' : va_W), o = .returned ov ∧ post ov w' ∧ w'.map (fun q => q.1) = w.map (fun q => q.1) ∧ va_P D vwCl w' t.heap ∧ va_F (fun q => q ∈ w.map (fun q => q.1)) st t) 0 0 (fun q => q ∈ w.map (fun q => q.1))
section CALLS
variable {p : Program} {l : Launch} {e : Env} {R : Room} {s : State} {m : MethodId} {args : Array Value} {below : List Frame} {meth : Method} {c : Code} {H : Heap} {locs : List Loc} {cells slots : Nat} {Q : State → Prop}
variable {cc b : ByteArray} {pc nL n ix fr lo : Nat} {ls : Array Slot} {As rest st0 : List Value} {D : va_G} {ty : List (ClassId × FieldType)} {own : String} {y : MethodName} {ret : Option FieldType} {w ws : va_W} {v : Value} {a : Nat}
theorem ro_blind {av : List Value} : FrameBlind (va_Pc av (fun U => va_P D vwCl w U.heap ∧ va_K D vwCl ty U)) := fun a U g mk q => ⟨q.1, q.2.1, va_K.moved (u := U) (U := U.calling g mk a) (Vm.Alike.refl U.vm) q.2.2⟩
theorem mu_blind {av : List Value} : FrameBlind (va_Pc av (fun U => va_P D vwCl w U.heap ∧ va_K D vwCl ty U ∧ va_D (fun _ => True) w)) := fun a U g mk q => ⟨q.1, q.2.1, va_K.moved (u := U) (U := U.calling g mk a) (Vm.Alike.refl U.vm) q.2.2.1, q.2.2.2⟩
theorem ro_go (hr : va_Run p l e R s m args below meth c H locs cells slots 0 0 (F0 m pc ls st0) rest (fun st o t => o = .returned (some v) ∧ t.heap = st.heap) (fun _ => False))
    (kk : W p l e R s m args below meth c H locs cells slots Q (F0 m (pc + 3) ls (v :: rest))) : W p l e R s m args below meth c H locs cells slots Q (F0 m pc ls st0) := by
  intro T hT X
  obtain ⟨v', st₀, t, T', L, h0, X', hL, e1, e2, ⟨hv, hh⟩, st⟩ := hr T hT X
  cases hv
  have hL0 : L = [] := by
    cases L with
    | nil => rfl
    | cons q L => exact (hL q List.mem_cons_self).elim
  subst hL0
  rw [List.append_nil] at X'
  obtain ⟨t2, a1, b1⟩ := kk T' (by rw [e1, hh, h0]) X'
  exact ⟨t2, st t2 a1, b1⟩
/-- a call of a reading method of an object -/
theorem ro_V (S : CallFix p m c cc nL s args WL own) (hK : va_K D vwCl ty s) (hP : va_P D vwCl w H) (hM : RO l D ty y b n ret fr lo (.ref a :: As) w v) (hG : GoodIn WL (wsV own ix y.cls y (wC y b n ret)))
    (hd : y.cls = y.cls ∧ y.cls ≠ "java/lang/invoke/MethodHandle" ∧ y.cls ≠ "java/lang/invoke/VarHandle" ∧ (parseMethodDescriptor y.desc).map (fun d => d.parameters.length) = some As.length) (hR : fr + 1 ≤ R.frames ∧ 8 + (n + 11) + lo ≤ R.locals)
    (ci : Nat) {q : vw_C} {fs : List Value} (hc : vwCl[ci]? = some q) (hq : q.1 = y.cls) (he : w[0]? = some (a, .inr (ci, fs)))
    (hst : st0 = As.reverse ++ .ref a :: rest) (hsz : ls.size = nL) (hW : 2 * (F0 m pc ls st0).monitorRoom + (rest.map fun v => v.category).sum ≤ 8) (hdg : decode cc pc = .ok (.invokevirtual ix, 3)) (hf : cells ≤ R.cells ∧ slots ≤ R.slots)
    (kk : W p l e R s m args below meth c H locs cells slots Q (F0 m (pc + 3) ls (v :: rest))) : W p l e R s m args below meth c H locs cells slots Q (F0 m pc ls st0) :=
  ro_go (va_runV S hM (cwV (C := y.cls) As.length S.2.2.2.2 hG rfl rfl rfl hd hR) ⟨ro_blind, by obtain ⟨cell, g1, g2, g3⟩ := va_recv hK hP hc he; exact ⟨cell, g1, g2, by rw [← hq]; exact g3⟩, fun U hU hW => ⟨rfl, by rw [hU]; exact hP, va_K.moved hW.alike hK⟩⟩ rfl rfl hsz hst hW hdg hf) kk
/-- a call of a static method that reads alone -/
theorem ro_S (S : CallFix p m c cc nL s args WL own) (hK : va_K D vwCl ty s) (hP : va_P D vwCl w H) (hM : RO l D ty y b n ret fr lo As w v) (hG : GoodIn WL (va_wsS own ix y (wC y b n ret)))
    (hd : y.cls ≠ "java/lang/invoke/MethodHandle" ∧ y.cls ≠ "java/lang/invoke/VarHandle" ∧ (parseMethodDescriptor y.desc).map (fun d => d.parameters.length) = some As.length) (hR : fr + 1 ≤ R.frames ∧ 8 + (n + 11) + lo ≤ R.locals)
    (hst : st0 = As.reverse ++ rest) (hsz : ls.size = nL) (hW : 2 * (F0 m pc ls st0).monitorRoom + (rest.map fun v => v.category).sum ≤ 8) (hdg : decode cc pc = .ok (.invokestatic ix, 3)) (hf : cells ≤ R.cells ∧ slots ≤ R.slots)
    (kk : W p l e R s m args below meth c H locs cells slots Q (F0 m (pc + 3) ls (v :: rest))) : W p l e R s m args below meth c H locs cells slots Q (F0 m pc ls st0) :=
  ro_go (va_runS S hM (va_cwS As.length S.2.2.2.2 hG rfl rfl rfl hd hR) ⟨ro_blind, fun U hU hW => ⟨rfl, by rw [hU]; exact hP, va_K.moved hW.alike hK⟩⟩ rfl rfl hsz hst hW hdg hf) kk
/-- a call of a writing method of an object -/
theorem mu_V {A : Nat → Prop} {H0 : Heap} {post : Option Value → va_W → Prop} (S : CallFix p m c cc nL s args WL own) (hK : va_K D vwCl ty s) (hP : va_P D vwCl ws H) (hD : va_D A ws) (hS : va_S A H0 H locs) (hM : MU l D ty y b n ret fr lo (.ref a :: As) w post) (hG : GoodIn WL (wsV own ix y.cls y (wC y b n ret)))
    (hd : y.cls = y.cls ∧ y.cls ≠ "java/lang/invoke/MethodHandle" ∧ y.cls ≠ "java/lang/invoke/VarHandle" ∧ (parseMethodDescriptor y.desc).map (fun d => d.parameters.length) = some As.length) (hR : fr + 1 ≤ R.frames ∧ 8 + (n + 11) + lo ≤ R.locals)
    (is : List Nat) (hn : va_nd is = true) (hw : is.map (fun i => ws[i]?) = w.map some) (ci : Nat) {q : vw_C} {fs : List Value} (hc : vwCl[ci]? = some q) (hq : q.1 = y.cls) (he : w[0]? = some (a, .inr (ci, fs)))
    (hst : st0 = As.reverse ++ .ref a :: rest) (hsz : ls.size = nL) (hW : 2 * (F0 m pc ls st0).monitorRoom + (rest.map fun v => v.category).sum ≤ 8) (hdg : decode cc pc = .ok (.invokevirtual ix, 3)) (hf : cells ≤ R.cells ∧ slots ≤ R.slots)
    (kk : ∀ (ov : Option Value) (w' : va_W) (H1 : Heap) (locs1 : List Loc), post ov w' → va_P D vwCl (wSet ws is w') H1 → va_D A (wSet ws is w') → va_S A H0 H1 locs1 → W p l e R s m args below meth c H1 locs1 cells slots Q (F0 m (pc + 3) ls (ov.toList ++ rest))) : W p l e R s m args below meth c H locs cells slots Q (F0 m pc ls st0) := by
  have hDc : va_D A w := hD.sub is hn hw
  have hPc : va_P D vwCl w H := by
    intro k x hk
    have h1 : (is.map (fun i => ws[i]?))[k]? = some (some x) := by rw [hw, List.getElem?_map, hk]; rfl
    rw [List.getElem?_map] at h1
    cases hi : is[k]? with
    | none => rw [hi] at h1; cases h1
    | some i => rw [hi] at h1; exact hP i x (Option.some.inj h1)
  have hA : ∀ q, q ∈ w.map (fun q => q.1) → A q := by
    intro q hq
    obtain ⟨x, hx, rfl⟩ := List.mem_map.mp hq
    obtain ⟨k, hk⟩ := List.getElem?_of_mem hx
    exact hDc.2 k x hk
  have hr := va_runV (e := e) (below := below) (meth := meth) (locs := locs) (cells := cells) (slots := slots) (H := H) (g := F0 m pc ls st0) (rest := rest) S hM (cwV (C := y.cls) As.length S.2.2.2.2 hG rfl rfl rfl hd hR) ⟨mu_blind, by obtain ⟨cell, g1, g2, g3⟩ := va_recv hK hPc hc he; exact ⟨cell, g1, g2, by rw [← hq]; exact g3⟩, fun U hU hW => ⟨rfl, by rw [hU]; exact hPc, va_K.moved hW.alike hK, hDc.weaken (fun _ _ _ _ => trivial)⟩⟩ rfl rfl hsz hst hW hdg hf
  intro T hT X
  obtain ⟨v', st₀, t, T', L, h0, X', hL, e1, e2, ⟨ov, w', hv, hp, ha, hP1, hz, hk⟩, st⟩ := hr T hT X
  cases hv
  rw [h0] at hz hk
  have hj := wSet_P (w := w') hP hD is hw ha hk hP1
  rw [← e1] at hj hz
  obtain ⟨t2, a1, b1⟩ := kk _ w' T'.heap (locs ++ L) hp hj.1 hj.2 ⟨Nat.le_trans hS.1 hz, fun q h1 h2 => by rw [e1, hk q (Nat.lt_of_lt_of_le h1 hS.1) (fun z => h2 (hA q z))]; exact hS.2.1 q h1 h2, fun q hq => by
      rcases List.mem_append.mp hq with h | h
      · exact hS.2.2 q h
      · exact hA _ (hL q h)⟩ T' rfl X'
  exact ⟨t2, st t2 a1, b1⟩
/-- a call of a writing method whose world is the caller's own -/
theorem mu_W {A : Nat → Prop} {H0 : Heap} {post : Option Value → va_W → Prop} (S : CallFix p m c cc nL s args WL own) (hK : va_K D vwCl ty s) (hP : va_P D vwCl w H) (hD : va_D A w) (hS : va_S A H0 H locs) (hM : MU l D ty y b n ret fr lo (.ref a :: As) w post) (hG : GoodIn WL (wsV own ix y.cls y (wC y b n ret)))
    (hd : y.cls = y.cls ∧ y.cls ≠ "java/lang/invoke/MethodHandle" ∧ y.cls ≠ "java/lang/invoke/VarHandle" ∧ (parseMethodDescriptor y.desc).map (fun d => d.parameters.length) = some As.length) (hR : fr + 1 ≤ R.frames ∧ 8 + (n + 11) + lo ≤ R.locals)
    (ci : Nat) {q : vw_C} {fs : List Value} (hc : vwCl[ci]? = some q) (hq : q.1 = y.cls) (he : w[0]? = some (a, .inr (ci, fs)))
    (hst : st0 = As.reverse ++ .ref a :: rest) (hsz : ls.size = nL) (hW : 2 * (F0 m pc ls st0).monitorRoom + (rest.map fun v => v.category).sum ≤ 8) (hdg : decode cc pc = .ok (.invokevirtual ix, 3)) (hf : cells ≤ R.cells ∧ slots ≤ R.slots)
    (kk : ∀ (ov : Option Value) (w' : va_W) (H1 : Heap) (locs1 : List Loc), post ov w' → va_P D vwCl w' H1 → va_D A w' → va_S A H0 H1 locs1 → W p l e R s m args below meth c H1 locs1 cells slots Q (F0 m (pc + 3) ls (ov.toList ++ rest))) : W p l e R s m args below meth c H locs cells slots Q (F0 m pc ls st0) := by
  have hA : ∀ q, q ∈ w.map (fun q => q.1) → A q := by
    intro q hq
    obtain ⟨x, hx, rfl⟩ := List.mem_map.mp hq
    obtain ⟨k, hk⟩ := List.getElem?_of_mem hx
    exact hD.2 k x hk
  have hr := va_runV (e := e) (below := below) (meth := meth) (locs := locs) (cells := cells) (slots := slots) (H := H) (g := F0 m pc ls st0) (rest := rest) S hM (cwV (C := y.cls) As.length S.2.2.2.2 hG rfl rfl rfl hd hR) ⟨mu_blind, by obtain ⟨cell, g1, g2, g3⟩ := va_recv hK hP hc he; exact ⟨cell, g1, g2, by rw [← hq]; exact g3⟩, fun U hU hW => ⟨rfl, by rw [hU]; exact hP, va_K.moved hW.alike hK, hD.weaken (fun _ _ _ _ => trivial)⟩⟩ rfl rfl hsz hst hW hdg hf
  intro T hT X
  obtain ⟨v', st₀, t, T', L, h0, X', hL, e1, e2, ⟨ov, w', hv, hp, ha, hP1, hz, hk⟩, st⟩ := hr T hT X
  cases hv
  rw [h0] at hz hk
  rw [← e1] at hz hP1
  obtain ⟨t2, a1, b1⟩ := kk _ w' T'.heap (locs ++ L) hp hP1 (hD.addr ha) ⟨Nat.le_trans hS.1 hz, fun q h1 h2 => by rw [e1, hk q (Nat.lt_of_lt_of_le h1 hS.1) (fun z => h2 (hA q z))]; exact hS.2.1 q h1 h2, fun q hq => by
      rcases List.mem_append.mp hq with h | h
      · exact hS.2.2 q h
      · exact hA _ (hL q h)⟩ T' rfl X'
  exact ⟨t2, st t2 a1, b1⟩
/-- an int row read, or written, at a place -/
theorem ia_ld (hx : p.tables.exec = Jvm.exec) (hb : c.code = cc) (hK : va_K D vwCl ty s) (hP : va_P D vwCl ws H) (q0 t0 : Nat) {cA : ClassId} {N : Nat} {f : Nat → Int32} (ha : ws[q0]? = some (a, .inl (cA, N, .inl f))) (ht : ty[t0]? = some (cA, .int)) {i : Int32} (k : Nat) (hi : i = nI k) (hk : k < N) (hN : N < 2147483648) (hdg : decode cc pc = .ok (.iaload, 1))
    (kk : W p l e R s m args below meth c H locs cells slots Q (F0 m (pc + 1) ls (.int (f k) :: rest))) : W p l e R s m args below meth c H locs cells slots Q (F0 m pc ls (.int i :: .ref a :: rest)) := by
  subst hi
  refine va_iald hx hb hK hP q0 t0 ha ht (vp_in_nI hk hN) hdg ?_
  rw [nI_clamp (by omega)]
  exact kk
theorem ia_st {A : Nat → Prop} {H0 : Heap} (hx : p.tables.exec = Jvm.exec) (hb : c.code = cc) (hK : va_K D vwCl ty s) (hP : va_P D vwCl ws H) (hD : va_D A ws) (hS : va_S A H0 H locs) (q0 t0 : Nat) {cA : ClassId} {N : Nat} {f : Nat → Int32} (ha : ws[q0]? = some (a, .inl (cA, N, .inl f))) (ht : ty[t0]? = some (cA, .int)) {i x : Int32} (k : Nat) (hi : i = nI k) (hk : k < N) (hN : N < 2147483648) (hdg : decode cc pc = .ok (.iastore, 1))
    (kk : ∀ (H1 : Heap) (locs1 : List Loc), va_P D vwCl (ws.set q0 (a, .inl (cA, N, .inl (upd f k x)))) H1 → va_D A (ws.set q0 (a, .inl (cA, N, .inl (upd f k x)))) → va_S A H0 H1 locs1 → W p l e R s m args below meth c H1 locs1 cells slots Q (F0 m (pc + 1) ls rest)) : W p l e R s m args below meth c H locs cells slots Q (F0 m pc ls (.int x :: .int i :: .ref a :: rest)) := by
  subst hi
  refine va_iast hx hb hK hP hD hS q0 t0 ha ht (vp_in_nI hk hN) hdg ?_
  rw [nI_clamp (by omega)]
  exact kk
theorem la_ld (hx : p.tables.exec = Jvm.exec) (hb : c.code = cc) (hK : va_K D vwCl ty s) (hP : va_P D vwCl ws H) (q0 t0 : Nat) {cA : ClassId} {N : Nat} {f : Nat → Int64} (ha : ws[q0]? = some (a, .inl (cA, N, .inr (.inl f)))) (ht : ty[t0]? = some (cA, .long)) {i : Int32} (k : Nat) (hi : i = nI k) (hk : k < N) (hN : N < 2147483648) (hdg : decode cc pc = .ok (.laload, 1))
    (kk : W p l e R s m args below meth c H locs cells slots Q (F0 m (pc + 1) ls (.long (f k) :: rest))) : W p l e R s m args below meth c H locs cells slots Q (F0 m pc ls (.int i :: .ref a :: rest)) := by
  subst hi
  refine va_lald hx hb hK hP q0 t0 ha ht (vp_in_nI hk hN) hdg ?_
  rw [nI_clamp (by omega)]
  exact kk
theorem la_st {A : Nat → Prop} {H0 : Heap} (hx : p.tables.exec = Jvm.exec) (hb : c.code = cc) (hK : va_K D vwCl ty s) (hP : va_P D vwCl ws H) (hD : va_D A ws) (hS : va_S A H0 H locs) (q0 t0 : Nat) {cA : ClassId} {N : Nat} {f : Nat → Int64} (ha : ws[q0]? = some (a, .inl (cA, N, .inr (.inl f)))) (ht : ty[t0]? = some (cA, .long)) {i : Int32} {x : Int64} (k : Nat) (hi : i = nI k) (hk : k < N) (hN : N < 2147483648) (hdg : decode cc pc = .ok (.lastore, 1))
    (kk : ∀ (H1 : Heap) (locs1 : List Loc), va_P D vwCl (ws.set q0 (a, .inl (cA, N, .inr (.inl (vp_updL f k x))))) H1 → va_D A (ws.set q0 (a, .inl (cA, N, .inr (.inl (vp_updL f k x))))) → va_S A H0 H1 locs1 → W p l e R s m args below meth c H1 locs1 cells slots Q (F0 m (pc + 1) ls rest)) : W p l e R s m args below meth c H locs cells slots Q (F0 m pc ls (.long x :: .int i :: .ref a :: rest)) := by
  subst hi
  refine va_last hx hb hK hP hD hS q0 t0 ha ht (vp_in_nI hk hN) hdg ?_
  rw [nI_clamp (by omega)]
  exact kk
/-- a value's name is another one that it is -/
theorem w_i {x z : Int32} (h : x = z) (kk : W p l e R s m args below meth c H locs cells slots Q (F0 m pc ls (.int z :: rest))) : W p l e R s m args below meth c H locs cells slots Q (F0 m pc ls (.int x :: rest)) := by
  subst h
  exact kk
theorem w_l {x z : Int64} (h : x = z) (kk : W p l e R s m args below meth c H locs cells slots Q (F0 m pc ls (.long z :: rest))) : W p l e R s m args below meth c H locs cells slots Q (F0 m pc ls (.long x :: rest)) := by
  subst h
  exact kk
/-- the start of a reading method -/
theorem RO.mk {av : List Value} (hy : plainName y.cls = true) (hn : (lg_sl av).length ≤ n)
    (body : ∀ (p : Program) (e : Env) (s : State) (m : MethodId) (below : List Frame) (meth : Method) (c : Code) (ls : Array Slot), CallFix p m c b n s av.toArray WL y.cls → meth.sig.returnType = ret → meth.locks = false → va_P D vwCl w s.heap → va_K D vwCl ty s → lv_has ls n (lv_args 0 av) →
      W p l e { frames := fr, cells := 0, slots := 0, locals := lo } s m av.toArray below meth c s.heap [] 0 0 (MQ below (fun _ st o t => o = .returned (some v) ∧ t.heap = st.heap) av.toArray s 0 0 (fun _ => False)) (F0 m 0 ls [])) : RO l D ty y b n ret fr lo av w v := by
  refine Met.ofW (cc := b) (maxL := n) (ret := ret) hy rfl ?_
  intro p e s m args below meth c s₁ B hml hv
  obtain ⟨rfl, hP, hK⟩ := hv
  have hts := atoms_spec (ws := wC y b n ret) B.pre
  have hl := lv_entry av (n := n) hn
  rw [lg_entry_eq]
  exact body p e s m below meth c _ ⟨B.exec, B.bytes, hml, findClass_of_methodNamed B.named, fun w h => hts w (List.mem_cons_of_mem _ h)⟩ B.returns B.notSynchronized hP hK hl
/-- the start of a writing method -/
theorem MU.mk {av : List Value} {post : Option Value → va_W → Prop} (hy : plainName y.cls = true) (hn : (lg_sl av).length ≤ n)
    (body : ∀ (p : Program) (e : Env) (s : State) (m : MethodId) (below : List Frame) (meth : Method) (c : Code) (ls : Array Slot), CallFix p m c b n s av.toArray WL y.cls → meth.sig.returnType = ret → meth.locks = false → va_P D vwCl w s.heap → va_K D vwCl ty s → va_D (fun q => q ∈ w.map (fun q => q.1)) w → va_S (fun q => q ∈ w.map (fun q => q.1)) s.heap s.heap [] → lv_has ls n (lv_args 0 av) →
      W p l e { frames := fr, cells := 0, slots := 0, locals := lo } s m av.toArray below meth c s.heap [] 0 0 (MQ below (fun _ st o t => ∃ (ov : Option Value) (w' : va_W), o = .returned ov ∧ post ov w' ∧ w'.map (fun q => q.1) = w.map (fun q => q.1) ∧ va_P D vwCl w' t.heap ∧ va_F (fun q => q ∈ w.map (fun q => q.1)) st t) av.toArray s 0 0 (fun q => q ∈ w.map (fun q => q.1))) (F0 m 0 ls [])) : MU l D ty y b n ret fr lo av w post := by
  refine Met.ofW (cc := b) (maxL := n) (ret := ret) hy rfl ?_
  intro p e s m args below meth c s₁ B hml hv
  obtain ⟨rfl, hP, hK, hD⟩ := hv
  have hts := atoms_spec (ws := wC y b n ret) B.pre
  have hl := lv_entry av (n := n) hn
  rw [lg_entry_eq]
  exact body p e s m below meth c _ ⟨B.exec, B.bytes, hml, findClass_of_methodNamed B.named, fun w h => hts w (List.mem_cons_of_mem _ h)⟩ B.returns B.notSynchronized hP hK (hD.weaken (fun k q hk _ => List.mem_map.mpr ⟨q, List.mem_of_getElem? hk, rfl⟩)) va_S.rf hl
theorem ro_iret {r x : Int32} (hx : p.tables.exec = Jvm.exec) (hb : c.code = cc) (hr : meth.sig.returnType = some .int) (hlocks : meth.locks = false) (h : x = r) (hdg : decode cc pc = .ok (.ireturn, 1)) :
    W p l e R s m args below meth c s.heap [] cells slots (MQ below (fun _ st o t => o = .returned (some (.int r)) ∧ t.heap = st.heap) args s cells slots (fun _ => False)) (F0 m pc ls [.int x]) := by
  subst h
  exact W.iret hx hb hr (fun t ht hW => ⟨rfl, ht⟩) (fun q h => by cases h) hdg
theorem ro_zret {r : Bool} {x : Int32} (hx : p.tables.exec = Jvm.exec) (hb : c.code = cc) (hr : meth.sig.returnType = some .boolean) (hlocks : meth.locks = false) (h : x = b2i r) (hdg : decode cc pc = .ok (.ireturn, 1)) :
    W p l e R s m args below meth c s.heap [] cells slots (MQ below (fun _ st o t => o = .returned (some (.int (b2i r))) ∧ t.heap = st.heap) args s cells slots (fun _ => False)) (F0 m pc ls [.int x]) := by
  subst h
  exact W.zret hx hb hr (b2i_n r) (fun t ht hW => ⟨rfl, ht⟩) (fun q h => by cases h) hdg
theorem ro_lret {r x : Int64} (hx : p.tables.exec = Jvm.exec) (hb : c.code = cc) (hr : meth.sig.returnType = some .long) (hlocks : meth.locks = false) (h : x = r) (hdg : decode cc pc = .ok (.lreturn, 1)) :
    W p l e R s m args below meth c s.heap [] cells slots (MQ below (fun _ st o t => o = .returned (some (.long r)) ∧ t.heap = st.heap) args s cells slots (fun _ => False)) (F0 m pc ls [.long x]) := by
  subst h
  exact W.lret hx hb hr (fun t ht hW => ⟨rfl, ht⟩) (fun q h => by cases h) hdg
theorem mu_iret {post : Option Value → va_W → Prop} {x : Int32} (w' : va_W) (hx : p.tables.exec = Jvm.exec) (hb : c.code = cc) (hr : meth.sig.returnType = some .int) (hlocks : meth.locks = false) (hP : va_P D vwCl w' H) (hS : va_S (fun q => q ∈ w.map (fun q => q.1)) s.heap H locs) (ha : w'.map (fun q => q.1) = w.map (fun q => q.1)) (hp : post (some (.int x)) w') (hdg : decode cc pc = .ok (.ireturn, 1)) :
    W p l e R s m args below meth c H locs cells slots (MQ below (fun _ st o t => ∃ (ov : Option Value) (w' : va_W), o = .returned ov ∧ post ov w' ∧ w'.map (fun q => q.1) = w.map (fun q => q.1) ∧ va_P D vwCl w' t.heap ∧ va_F (fun q => q ∈ w.map (fun q => q.1)) st t) args s cells slots (fun q => q ∈ w.map (fun q => q.1))) (F0 m pc ls [.int x]) :=
  W.iret hx hb hr (fun t ht hW => ⟨_, w', rfl, hp, ha, by rw [ht]; exact hP, hS.F ht⟩) hS.2.2 hdg
theorem mu_zret {post : Option Value → va_W → Prop} {x : Int32} (r : Bool) (hxr : x = b2i r) (w' : va_W) (hx : p.tables.exec = Jvm.exec) (hb : c.code = cc) (hr : meth.sig.returnType = some .boolean) (hlocks : meth.locks = false) (hP : va_P D vwCl w' H) (hS : va_S (fun q => q ∈ w.map (fun q => q.1)) s.heap H locs) (ha : w'.map (fun q => q.1) = w.map (fun q => q.1)) (hp : post (some (.int (b2i r))) w') (hdg : decode cc pc = .ok (.ireturn, 1)) :
    W p l e R s m args below meth c H locs cells slots (MQ below (fun _ st o t => ∃ (ov : Option Value) (w' : va_W), o = .returned ov ∧ post ov w' ∧ w'.map (fun q => q.1) = w.map (fun q => q.1) ∧ va_P D vwCl w' t.heap ∧ va_F (fun q => q ∈ w.map (fun q => q.1)) st t) args s cells slots (fun q => q ∈ w.map (fun q => q.1))) (F0 m pc ls [.int x]) := by
  subst hxr
  exact W.zret hx hb hr (b2i_n r) (fun t ht hW => ⟨_, w', rfl, hp, ha, by rw [ht]; exact hP, hS.F ht⟩) hS.2.2 hdg
theorem mu_lret {post : Option Value → va_W → Prop} {x : Int64} (w' : va_W) (hx : p.tables.exec = Jvm.exec) (hb : c.code = cc) (hr : meth.sig.returnType = some .long) (hlocks : meth.locks = false) (hP : va_P D vwCl w' H) (hS : va_S (fun q => q ∈ w.map (fun q => q.1)) s.heap H locs) (ha : w'.map (fun q => q.1) = w.map (fun q => q.1)) (hp : post (some (.long x)) w') (hdg : decode cc pc = .ok (.lreturn, 1)) :
    W p l e R s m args below meth c H locs cells slots (MQ below (fun _ st o t => ∃ (ov : Option Value) (w' : va_W), o = .returned ov ∧ post ov w' ∧ w'.map (fun q => q.1) = w.map (fun q => q.1) ∧ va_P D vwCl w' t.heap ∧ va_F (fun q => q ∈ w.map (fun q => q.1)) st t) args s cells slots (fun q => q ∈ w.map (fun q => q.1))) (F0 m pc ls [.long x]) :=
  W.lret hx hb hr (fun t ht hW => ⟨_, w', rfl, hp, ha, by rw [ht]; exact hP, hS.F ht⟩) hS.2.2 hdg
theorem mu_vret {post : Option Value → va_W → Prop} (w' : va_W) (hx : p.tables.exec = Jvm.exec) (hb : c.code = cc) (hr : meth.sig.returnType = none) (hlocks : meth.locks = false) (hP : va_P D vwCl w' H) (hS : va_S (fun q => q ∈ w.map (fun q => q.1)) s.heap H locs) (ha : w'.map (fun q => q.1) = w.map (fun q => q.1)) (hp : post none w') (hdg : decode cc pc = .ok (.return_, 1)) :
    W p l e R s m args below meth c H locs cells slots (MQ below (fun _ st o t => ∃ (ov : Option Value) (w' : va_W), o = .returned ov ∧ post ov w' ∧ w'.map (fun q => q.1) = w.map (fun q => q.1) ∧ va_P D vwCl w' t.heap ∧ va_F (fun q => q ∈ w.map (fun q => q.1)) st t) args s cells slots (fun q => q ∈ w.map (fun q => q.1))) (F0 m pc ls []) :=
  W.vret hx hb hr (fun t ht hW => ⟨_, w', rfl, hp, ha, by rw [ht]; exact hP, hS.F ht⟩) hS.2.2 hdg
end CALLS
