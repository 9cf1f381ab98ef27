/-! methods that read the String constants: the constants and the statics lie outside the worlds -/
def lnJ : List Nat := [6, 5, 4, 6, 8, 4, 4, 3, 5, 7, 6, 7, 4, 3, 2, 5]
def ixJ : List Nat := [98, 100, 102, 104, 106, 108, 84, 90, 49, 110, 112, 114, 116, 58, 63, 65]
def txJ : List String := ["sitter", "mayor", "wife", "fisher", "alderman", "head", "nose", "lit", "wants", "shorter", "nearer", "farther", "dark", "out", "in", "tacky"]
theorem lnJ_ok : ∀ i, i < 16 → lnJ.getD i 0 = (wd i).length ∧ (wd i).length ≤ 8 := by decide +kernel
theorem chJ_and : ∀ i, i < 16 → ∀ k, k < (wd i).length → (wd i).getD k 0 &&& 255 = (wd i).getD k 0 := by decide +kernel
theorem chJ_ok {i k : Nat} (hi : i < 16) (hk : k < (wd i).length) : (((wd i).getD k 0 &&& 255).toUInt32 % 65536).toInt32 = (wd i).getD k 0 ∧ narrow .char (.int ((wd i).getD k 0)) = .int ((wd i).getD k 0) := by
  have h := sc_nar ((wd i).getD k 0)
  rw [chJ_and i hi k hk] at h
  refine ⟨?_, h⟩
  rw [sc_c2]
  exact chJ_and i hi k hk
def ZS (kA vA : Nat → Nat) (oB : Option Nat) (A : Nat → Prop) (U : State) (H : Heap) : Prop :=
  vk_S 16 lnJ wds kA vA A U H ∧ (∀ i, i < 16 → vk_R RX2 (ixJ.getD i 0) (txJ.getD i "") (kA i) U) ∧ va_Z "java/lang/String" "COMPACT_STRINGS" "Z" (.int 1) A U H ∧ va_Z "jdk/internal/util/Preconditions" "SIOOBE_FORMATTER" "Ljava/util/function/BiFunction;" (va_rf oB) A U H
theorem ZS.go {kA vA : Nat → Nat} {oB : Option Nat} {A B : Nat → Prop} {s U : State} {H : Heap} {locs : List Loc} (h : ZS kA vA oB A s s.heap) (hS : va_S A s.heap H locs) (hW : s.WarmedH U.vm) (hAB : ∀ q, B q → A q) : ZS kA vA oB B U H :=
  ⟨vk_S.moved hW.alike ((h.1.kept hS.2.1).narrow hAB), fun i hi => vk_R.warm hW (h.2.1 i hi), va_Z.moved hW.alike ((h.2.2.1.kept hS.2.1).narrow hAB), va_Z.moved hW.alike ((h.2.2.2.kept hS.2.1).narrow hAB)⟩
theorem ZS.call {kA vA : Nat → Nat} {oB : Option Nat} {A : Nat → Prop} {u U : State} {H : Heap} (hv : U.vm = u.vm) (h : ZS kA vA oB A u H) : ZS kA vA oB A U H :=
  ⟨vk_S.moved (by rw [hv]; exact Vm.Alike.refl _) h.1, fun i hi => vk_R.same hv (h.2.1 i hi), va_Z.moved (by rw [hv]; exact Vm.Alike.refl _) h.2.2.1, va_Z.moved (by rw [hv]; exact Vm.Alike.refl _) h.2.2.2⟩
/-- it reads alone, and answers v -/
def RZ (kA vA : Nat → Nat) (oB : Option Nat) (l : Launch) (D : va_G) (ty : List (ClassId × FieldType)) (y : MethodName) (b : ByteArray) (n : Nat) (r : Option FieldType) (fr lo : Nat) (av : List Value) (w : va_W) (v : Option Value) : Prop :=
  Met l y (wC y b n r) { frames := fr, cells := 0, slots := 0, locals := lo } (va_Pc av (fun U => va_P D vwCl w U.heap ∧ va_K D vwCl ty U ∧ ZS kA vA oB (fun _ => False) U U.heap)) (fun _ st o t => o = .returned v ∧ t.heap = st.heap) 0 0 (fun _ => False)
/-- it writes within its world -/
def MZ (kA vA : Nat → Nat) (oB : Option Nat) (l : Launch) (D : va_G) (ty : List (ClassId × FieldType)) (y : MethodName) (b : ByteArray) (n : Nat) (r : Option FieldType) (fr lo : Nat) (av : List Value) (w : va_W) (post : Option Value → va_W → Prop) : Prop :=
  Met l y (wC y b n r) { frames := fr, cells := 0, slots := 0, locals := lo } (va_Pc av (fun U => va_P D vwCl w U.heap ∧ va_K D vwCl ty U ∧ va_D (fun _ => True) w ∧ ZS kA vA oB (fun q => q ∈ w.map (fun q => q.1)) U U.heap))
    (fun _ st o t => ∃ (ov : Option Value) (w' : va_W), o = .returned ov ∧ post ov w' ∧ w'.map (fun q => q.1) = w.map (fun q => q.1) ∧ va_P D vwCl w' t.heap ∧ va_F (fun q => q ∈ w.map (fun q => q.1)) st t) 0 0 (fun q => q ∈ w.map (fun q => q.1))
section CALLZ
variable {p : Program} {l : Launch} {e : Env} {R : Room} {s : State} {m : MethodId} {args : Array Value} {below : List Frame} {meth : Method} {c : Code} {H : Heap} {locs : List Loc} {cells slots : Nat} {Q : State → Prop}
variable {cc b : ByteArray} {pc nL n ix fr lo : Nat} {ls : Array Slot} {As rest st0 : List Value} {D : va_G} {ty : List (ClassId × FieldType)} {own : String} {y : MethodName} {ret : Option FieldType} {w ws : va_W} {v : Option Value} {a : Nat} {kA vA : Nat → Nat} {oB : Option Nat} {A : Nat → Prop}
theorem rz_blind {av : List Value} : FrameBlind (va_Pc av (fun U => va_P D vwCl w U.heap ∧ va_K D vwCl ty U ∧ ZS kA vA oB (fun _ => False) U U.heap)) := fun a U g mk q => ⟨q.1, q.2.1, va_K.moved (u := U) (U := U.calling g mk a) (Vm.Alike.refl U.vm) q.2.2.1, ZS.call (u := U) rfl q.2.2.2⟩
theorem mz_blind {av : List Value} : FrameBlind (va_Pc av (fun U => va_P D vwCl w U.heap ∧ va_K D vwCl ty U ∧ va_D (fun _ => True) w ∧ ZS kA vA oB (fun q => q ∈ w.map (fun q => q.1)) U U.heap)) := fun a U g mk q => ⟨q.1, q.2.1, va_K.moved (u := U) (U := U.calling g mk a) (Vm.Alike.refl U.vm) q.2.2.1, q.2.2.2.1, ZS.call (u := U) rfl q.2.2.2.2⟩
theorem rz_go (hr : va_Run p l e R s m args below meth c H locs cells slots 0 0 (F0 m pc ls st0) rest (fun st o t => o = .returned v ∧ t.heap = st.heap) (fun _ => False))
    (kk : W p l e R s m args below meth c H locs cells slots Q (F0 m (pc + 3) ls (v.toList ++ rest))) : W p l e R s m args below meth c H locs cells slots Q (F0 m pc ls st0) := by
  intro T hT X
  obtain ⟨v', st₀, t, T', L, h0, X', hL, e1, e2, ⟨hv, hh⟩, st⟩ := hr T hT X
  cases hv
  have hL0 : L = [] := by
    cases L with
    | nil => rfl
    | cons q L => exact (hL q List.mem_cons_self).elim
  subst hL0
  rw [List.append_nil] at X'
  obtain ⟨t2, a1, b1⟩ := kk T' (by rw [e1, hh, h0]) X'
  exact ⟨t2, st t2 a1, b1⟩
theorem rz_V (S : CallFix p m c cc nL s args WL own) (hK : va_K D vwCl ty s) (hP : va_P D vwCl w H) (hZ : ZS kA vA oB A s s.heap) (hS : va_S A s.heap H locs) (hM : RZ kA vA oB l D ty y b n ret fr lo (.ref a :: As) w v) (hG : GoodIn WL (wsV own ix y.cls y (wC y b n ret)))
    (hd : y.cls = y.cls ∧ y.cls ≠ "java/lang/invoke/MethodHandle" ∧ y.cls ≠ "java/lang/invoke/VarHandle" ∧ (parseMethodDescriptor y.desc).map (fun d => d.parameters.length) = some As.length) (hR : fr + 1 ≤ R.frames ∧ 8 + (n + 11) + lo ≤ R.locals)
    (ci : Nat) {q : vw_C} {fs : List Value} (hc : vwCl[ci]? = some q) (hq : q.1 = y.cls) (he : w[0]? = some (a, .inr (ci, fs)))
    (hst : st0 = As.reverse ++ .ref a :: rest) (hsz : ls.size = nL) (hW : 2 * (F0 m pc ls st0).monitorRoom + (rest.map fun v => v.category).sum ≤ 8) (hdg : decode cc pc = .ok (.invokevirtual ix, 3)) (hf : cells ≤ R.cells ∧ slots ≤ R.slots)
    (kk : W p l e R s m args below meth c H locs cells slots Q (F0 m (pc + 3) ls (v.toList ++ rest))) : W p l e R s m args below meth c H locs cells slots Q (F0 m pc ls st0) :=
  rz_go (va_runV S hM (cwV (C := y.cls) As.length S.2.2.2.2 hG rfl rfl rfl hd hR) ⟨rz_blind, by obtain ⟨cell, g1, g2, g3⟩ := va_recv hK hP hc he; exact ⟨cell, g1, g2, by rw [← hq]; exact g3⟩, fun U hU hW => ⟨rfl, by rw [hU]; exact hP, va_K.moved hW.alike hK, by rw [hU]; exact hZ.go hS hW (fun _ h => h.elim)⟩⟩ rfl rfl hsz hst hW hdg hf) kk
theorem rz_S (S : CallFix p m c cc nL s args WL own) (hK : va_K D vwCl ty s) (hP : va_P D vwCl w H) (hZ : ZS kA vA oB A s s.heap) (hS : va_S A s.heap H locs) (hM : RZ kA vA oB l D ty y b n ret fr lo As w v) (hG : GoodIn WL (va_wsS own ix y (wC y b n ret)))
    (hd : y.cls ≠ "java/lang/invoke/MethodHandle" ∧ y.cls ≠ "java/lang/invoke/VarHandle" ∧ (parseMethodDescriptor y.desc).map (fun d => d.parameters.length) = some As.length) (hR : fr + 1 ≤ R.frames ∧ 8 + (n + 11) + lo ≤ R.locals)
    (hst : st0 = As.reverse ++ rest) (hsz : ls.size = nL) (hW : 2 * (F0 m pc ls st0).monitorRoom + (rest.map fun v => v.category).sum ≤ 8) (hdg : decode cc pc = .ok (.invokestatic ix, 3)) (hf : cells ≤ R.cells ∧ slots ≤ R.slots)
    (kk : W p l e R s m args below meth c H locs cells slots Q (F0 m (pc + 3) ls (v.toList ++ rest))) : W p l e R s m args below meth c H locs cells slots Q (F0 m pc ls st0) :=
  rz_go (va_runS S hM (va_cwS As.length S.2.2.2.2 hG rfl rfl rfl hd hR) ⟨rz_blind, fun U hU hW => ⟨rfl, by rw [hU]; exact hP, va_K.moved hW.alike hK, by rw [hU]; exact hZ.go hS hW (fun _ h => h.elim)⟩⟩ rfl rfl hsz hst hW hdg hf) kk
theorem rz_K (S : CallFix p m c cc nL s args WL own) (hK : va_K D vwCl ty s) (hP : va_P D vwCl w H) (hZ : ZS kA vA oB A s s.heap) (hS : va_S A s.heap H locs) {i : Nat} (hi : i < 16) (hM : RZ kA vA oB l D ty y b n ret fr lo (.ref (kA i) :: As) w v) (hG : GoodIn WL (wsV own ix y.cls y (wC y b n ret)))
    (hd : y.cls = y.cls ∧ y.cls ≠ "java/lang/invoke/MethodHandle" ∧ y.cls ≠ "java/lang/invoke/VarHandle" ∧ (parseMethodDescriptor y.desc).map (fun d => d.parameters.length) = some As.length) (hR : fr + 1 ≤ R.frames ∧ 8 + (n + 11) + lo ≤ R.locals)
    (hq : y.cls = "java/lang/String")
    (hst : st0 = As.reverse ++ .ref (kA i) :: rest) (hsz : ls.size = nL) (hW : 2 * (F0 m pc ls st0).monitorRoom + (rest.map fun v => v.category).sum ≤ 8) (hdg : decode cc pc = .ok (.invokevirtual ix, 3)) (hf : cells ≤ R.cells ∧ slots ≤ R.slots)
    (kk : W p l e R s m args below meth c H locs cells slots Q (F0 m (pc + 3) ls (v.toList ++ rest))) : W p l e R s m args below meth c H locs cells slots Q (F0 m pc ls st0) :=
  rz_go (va_runV S hM (cwV (C := y.cls) As.length S.2.2.2.2 hG rfl rfl rfl hd hR) ⟨rz_blind, by rw [hq]; exact vk_recv hZ.1 hi hS, fun U hU hW => ⟨rfl, by rw [hU]; exact hP, va_K.moved hW.alike hK, by rw [hU]; exact hZ.go hS hW (fun _ h => h.elim)⟩⟩ rfl rfl hsz hst hW hdg hf) kk
theorem mz_V {post : Option Value → va_W → Prop} (S : CallFix p m c cc nL s args WL own) (hK : va_K D vwCl ty s) (hP : va_P D vwCl ws H) (hD : va_D A ws) (hS : va_S A s.heap H locs) (hZ : ZS kA vA oB A s s.heap) (hM : MZ kA vA oB l D ty y b n ret fr lo (.ref a :: As) w post) (hG : GoodIn WL (wsV own ix y.cls y (wC y b n ret)))
    (hd : y.cls = y.cls ∧ y.cls ≠ "java/lang/invoke/MethodHandle" ∧ y.cls ≠ "java/lang/invoke/VarHandle" ∧ (parseMethodDescriptor y.desc).map (fun d => d.parameters.length) = some As.length) (hR : fr + 1 ≤ R.frames ∧ 8 + (n + 11) + lo ≤ R.locals)
    (is : List Nat) (hn : va_nd is = true) (hw : is.map (fun i => ws[i]?) = w.map some) (ci : Nat) {q : vw_C} {fs : List Value} (hc : vwCl[ci]? = some q) (hq : q.1 = y.cls) (he : w[0]? = some (a, .inr (ci, fs)))
    (hst : st0 = As.reverse ++ .ref a :: rest) (hsz : ls.size = nL) (hW : 2 * (F0 m pc ls st0).monitorRoom + (rest.map fun v => v.category).sum ≤ 8) (hdg : decode cc pc = .ok (.invokevirtual ix, 3)) (hf : cells ≤ R.cells ∧ slots ≤ R.slots)
    (kk : ∀ (ov : Option Value) (w' : va_W) (H1 : Heap) (locs1 : List Loc), post ov w' → va_P D vwCl (wSet ws is w') H1 → va_D A (wSet ws is w') → va_S A s.heap H1 locs1 → W p l e R s m args below meth c H1 locs1 cells slots Q (F0 m (pc + 3) ls (ov.toList ++ rest))) : W p l e R s m args below meth c H locs cells slots Q (F0 m pc ls st0) := by
  have hDc : va_D A w := hD.sub is hn hw
  have hPc : va_P D vwCl w H := by
    intro k x hk
    have h1 : (is.map (fun i => ws[i]?))[k]? = some (some x) := by rw [hw, List.getElem?_map, hk]; rfl
    rw [List.getElem?_map] at h1
    cases hi : is[k]? with
    | none => rw [hi] at h1; cases h1
    | some i => rw [hi] at h1; exact hP i x (Option.some.inj h1)
  have hA : ∀ q, q ∈ w.map (fun q => q.1) → A q := by
    intro q hq
    obtain ⟨x, hx, rfl⟩ := List.mem_map.mp hq
    obtain ⟨k, hk⟩ := List.getElem?_of_mem hx
    exact hDc.2 k x hk
  have hr := va_runV (e := e) (below := below) (meth := meth) (locs := locs) (cells := cells) (slots := slots) (H := H) (g := F0 m pc ls st0) (rest := rest) S hM (cwV (C := y.cls) As.length S.2.2.2.2 hG rfl rfl rfl hd hR) ⟨mz_blind, by obtain ⟨cell, g1, g2, g3⟩ := va_recv hK hPc hc he; exact ⟨cell, g1, g2, by rw [← hq]; exact g3⟩, fun U hU hW => ⟨rfl, by rw [hU]; exact hPc, va_K.moved hW.alike hK, hDc.weaken (fun _ _ _ _ => trivial), by rw [hU]; exact hZ.go hS hW hA⟩⟩ rfl rfl hsz hst hW hdg hf
  intro T hT X
  obtain ⟨v', st₀, t, T', L, h0, X', hL, e1, e2, ⟨ov, w', hv, hp, ha, hP1, hz, hk⟩, st⟩ := hr T hT X
  cases hv
  rw [h0] at hz hk
  have hj := wSet_P (w := w') hP hD is hw ha hk hP1
  rw [← e1] at hj hz
  obtain ⟨t2, a1, b1⟩ := kk _ w' T'.heap (locs ++ L) hp hj.1 hj.2 ⟨Nat.le_trans hS.1 hz, fun q h1 h2 => by rw [e1, hk q (Nat.lt_of_lt_of_le h1 hS.1) (fun z => h2 (hA q z))]; exact hS.2.1 q h1 h2, fun q hq => by
      rcases List.mem_append.mp hq with h | h
      · exact hS.2.2 q h
      · exact hA _ (hL q h)⟩ T' rfl X'
  exact ⟨t2, st t2 a1, b1⟩
theorem RZ.mk {av : List Value} (hy : plainName y.cls = true) (hn : (lg_sl av).length ≤ n)
    (body : ∀ (p : Program) (e : Env) (s : State) (m : MethodId) (below : List Frame) (meth : Method) (c : Code) (ls : Array Slot), CallFix p m c b n s av.toArray WL y.cls → meth.sig.returnType = ret → meth.locks = false → va_P D vwCl w s.heap → va_K D vwCl ty s → ZS kA vA oB (fun _ => False) s s.heap → va_S (fun _ => False) s.heap s.heap [] → lv_has ls n (lv_args 0 av) →
      W p l e { frames := fr, cells := 0, slots := 0, locals := lo } s m av.toArray below meth c s.heap [] 0 0 (MQ below (fun _ st o t => o = .returned v ∧ t.heap = st.heap) av.toArray s 0 0 (fun _ => False)) (F0 m 0 ls [])) : RZ kA vA oB l D ty y b n ret fr lo av w v := by
  refine Met.ofW (cc := b) (maxL := n) (ret := ret) hy rfl ?_
  intro p e s m args below meth c s₁ B hml hv
  obtain ⟨rfl, hP, hK, hZ⟩ := hv
  have hts := atoms_spec (ws := wC y b n ret) B.pre
  have hl := lv_entry av (n := n) hn
  rw [lg_entry_eq]
  exact body p e s m below meth c _ ⟨B.exec, B.bytes, hml, findClass_of_methodNamed B.named, fun w h => hts w (List.mem_cons_of_mem _ h)⟩ B.returns B.notSynchronized hP hK hZ va_S.rf hl
theorem MZ.mk {av : List Value} {post : Option Value → va_W → Prop} (hy : plainName y.cls = true) (hn : (lg_sl av).length ≤ n)
    (body : ∀ (p : Program) (e : Env) (s : State) (m : MethodId) (below : List Frame) (meth : Method) (c : Code) (ls : Array Slot), CallFix p m c b n s av.toArray WL y.cls → meth.sig.returnType = ret → meth.locks = false → va_P D vwCl w s.heap → va_K D vwCl ty s → va_D (fun q => q ∈ w.map (fun q => q.1)) w → va_S (fun q => q ∈ w.map (fun q => q.1)) s.heap s.heap [] → ZS kA vA oB (fun q => q ∈ w.map (fun q => q.1)) s s.heap → lv_has ls n (lv_args 0 av) →
      W p l e { frames := fr, cells := 0, slots := 0, locals := lo } s m av.toArray below meth c s.heap [] 0 0 (MQ below (fun _ st o t => ∃ (ov : Option Value) (w' : va_W), o = .returned ov ∧ post ov w' ∧ w'.map (fun q => q.1) = w.map (fun q => q.1) ∧ va_P D vwCl w' t.heap ∧ va_F (fun q => q ∈ w.map (fun q => q.1)) st t) av.toArray s 0 0 (fun q => q ∈ w.map (fun q => q.1))) (F0 m 0 ls [])) : MZ kA vA oB l D ty y b n ret fr lo av w post := by
  refine Met.ofW (cc := b) (maxL := n) (ret := ret) hy rfl ?_
  intro p e s m args below meth c s₁ B hml hv
  obtain ⟨rfl, hP, hK, hD, hZ⟩ := hv
  have hts := atoms_spec (ws := wC y b n ret) B.pre
  have hl := lv_entry av (n := n) hn
  rw [lg_entry_eq]
  exact body p e s m below meth c _ ⟨B.exec, B.bytes, hml, findClass_of_methodNamed B.named, fun w h => hts w (List.mem_cons_of_mem _ h)⟩ B.returns B.notSynchronized hP hK (hD.weaken (fun k q hk _ => List.mem_map.mpr ⟨q, List.mem_of_getElem? hk, rfl⟩)) va_S.rf hZ hl
theorem ro_nret {r : Int32} {t : FieldType} (hx : p.tables.exec = Jvm.exec) (hb : c.code = cc) (hr : meth.sig.returnType = some t) (hlocks : meth.locks = false) {x : Int32} (h : x = r) (hn : narrow t (.int r) = .int r) (hdg : decode cc pc = .ok (.ireturn, 1)) :
    W p l e R s m args below meth c s.heap [] cells slots (MQ below (fun _ st o t => o = .returned (some (.int r)) ∧ t.heap = st.heap) args s cells slots (fun _ => False)) (F0 m pc ls [.int x]) := by
  subst h
  exact W.zret hx hb hr hn (fun t ht hW => ⟨rfl, ht⟩) (fun q h => by cases h) hdg
theorem ro_vret (hx : p.tables.exec = Jvm.exec) (hb : c.code = cc) (hr : meth.sig.returnType = none) (hlocks : meth.locks = false) (hdg : decode cc pc = .ok (.return_, 1)) :
    W p l e R s m args below meth c s.heap [] cells slots (MQ below (fun _ st o t => o = .returned none ∧ t.heap = st.heap) args s cells slots (fun _ => False)) (F0 m pc ls []) :=
  W.vret hx hb hr (fun t ht hW => ⟨rfl, ht⟩) (fun q h => by cases h) hdg
end CALLZ
