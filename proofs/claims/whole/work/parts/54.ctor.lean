/-! constructors: new cells -/
theorem va_P.fq {D : va_G} {cl : List vw_C} {ws : va_W} {H : Heap} (h : va_P D cl ws H) (k : Nat) {a : Nat} {cA : ClassId} {n : Nat} {f : Nat → Option Nat} (g : Nat → Option Nat) (hk : ws[k]? = some (a, .inl (cA, n, .inr (.inr (.inr (.inr f)))))) (hg : ∀ j, j < n → f j = g j) : va_P D cl (ws.set k (a, .inl (cA, n, .inr (.inr (.inr (.inr g)))))) H := by
  intro i q hi
  rw [List.getElem?_set] at hi
  split at hi
  · split at hi
    · cases hi
      have h1 := h k _ hk
      show H[a]? = some (vp_cell cA (n, .inr (.inr (.inr (.inr g)))))
      rw [vp_cell_q, arrV_congr (g := fun j => va_rf (f j)) (fun j hj => by rw [hg j hj]), ← vp_cell_q]
      exact h1
    · cases hi
  · exact h i q hi
/-- a constructor: of the object's cell it makes a world -/
def NW (l : Launch) (D : va_G) (ty : List (ClassId × FieldType)) (y : MethodName) (b : ByteArray) (n fr lo mc ms : Nat) (Z : State → Prop) (h : Nat) (w0 : va_E) (post : va_W → Prop) : Prop :=
  ∀ sz : Nat, Met l y (wC y b n none) { frames := fr, cells := mc, slots := ms, locals := lo } (va_Pc [.ref h] (fun U => U.heap.size = sz ∧ va_P D vwCl [(h, w0)] U.heap ∧ va_K D vwCl ty U ∧ va_D (fun _ => True) [(h, w0)] ∧ Z U))
    (fun _ st o t => o = .returned none ∧ st.heap.size = sz ∧ ∃ w' : va_W, post w' ∧ va_P D vwCl w' t.heap ∧ va_D (va_A [(h, w0)] sz) w' ∧ va_F (va_A [(h, w0)] sz) st t) mc ms (va_A [(h, w0)] sz)
section NEWS
variable {p : Program} {l : Launch} {e : Env} {R : Room} {s : State} {m : MethodId} {args : Array Value} {below : List Frame} {meth : Method} {c : Code} {H H0 : Heap} {locs : List Loc} {cells slots : Nat} {Q : State → Prop}
variable {cc b : ByteArray} {pc nL n ix fr lo mc ms : Nat} {ls : Array Slot} {rest : List Value} {D : va_G} {ty : List (ClassId × FieldType)} {own : String} {y : MethodName} {ws : va_W} {a : Nat} {A : Nat → Prop} {cI cJ cO : ClassId} {Z : State → Prop}
theorem nw_i (N : Nat) (hx : p.tables.exec = Jvm.exec) (hb : c.code = cc) (harr : (Cond.arrayClass .int).before args s = true) (hK : va_K D vwCl (tyA cI cJ cO) s) (hP : va_P D vwCl ws H) (hD : va_D A ws) (hS : va_S A H0 H locs) (hA : ∀ q, H0.size ≤ q → A q)
    {i : Int32} (hn : ¬ i < 0) (hN : i.toNatClampNeg = N) (hby : N * 4 ≤ 536870912) (hcells : cells + 1 ≤ R.cells) (hslots : slots + N ≤ R.slots) (hdg : decode cc pc = .ok (.newarray .int, 2))
    (kk : ∀ (q : Nat) (H1 : Heap), va_P D vwCl (ws ++ [(q, .inl (cI, N, .inl (fun _ => 0)))]) H1 → va_D A (ws ++ [(q, .inl (cI, N, .inl (fun _ => 0)))]) → va_S A H0 H1 locs → W p l e R s m args below meth c H1 locs (cells + 1) (slots + N) Q (F0 m (pc + 2) ls (.ref q :: rest))) : W p l e R s m args below meth c H locs cells slots Q (F0 m pc ls (.int i :: rest)) := by
  refine va_newa (atype := .int) (a0 := (N, .inl (fun _ => 0))) hx hb harr rfl hK hP hD hS hA (fun cA => rfl) hn hN hby hcells hslots hdg (fun q cA H1 hK1 hP1 hD1 hS1 => ?_)
  have h1 : s.vm.findClass ("[" ++ FieldType.int.toString) = some cA := (hK1.2 3 (cA, .int) rfl).2
  have h2 : s.vm.findClass ("[" ++ FieldType.int.toString) = some cI := (hK.2 0 (cI, .int) rfl).2
  obtain rfl : cA = cI := Option.some.inj (h1.symm.trans h2)
  exact kk q H1 hP1 hD1 hS1
theorem nw_l (N : Nat) (hx : p.tables.exec = Jvm.exec) (hb : c.code = cc) (harr : (Cond.arrayClass .long).before args s = true) (hK : va_K D vwCl (tyA cI cJ cO) s) (hP : va_P D vwCl ws H) (hD : va_D A ws) (hS : va_S A H0 H locs) (hA : ∀ q, H0.size ≤ q → A q)
    {i : Int32} (hn : ¬ i < 0) (hN : i.toNatClampNeg = N) (hby : N * 8 ≤ 536870912) (hcells : cells + 1 ≤ R.cells) (hslots : slots + N ≤ R.slots) (hdg : decode cc pc = .ok (.newarray .long, 2))
    (kk : ∀ (q : Nat) (H1 : Heap), va_P D vwCl (ws ++ [(q, .inl (cJ, N, .inr (.inl (fun _ => 0))))]) H1 → va_D A (ws ++ [(q, .inl (cJ, N, .inr (.inl (fun _ => 0))))]) → va_S A H0 H1 locs → W p l e R s m args below meth c H1 locs (cells + 1) (slots + N) Q (F0 m (pc + 2) ls (.ref q :: rest))) : W p l e R s m args below meth c H locs cells slots Q (F0 m pc ls (.int i :: rest)) := by
  refine va_newa (atype := .long) (a0 := (N, .inr (.inl (fun _ => 0)))) hx hb harr rfl hK hP hD hS hA (fun cA => rfl) hn hN hby hcells hslots hdg (fun q cA H1 hK1 hP1 hD1 hS1 => ?_)
  have h1 : s.vm.findClass ("[" ++ FieldType.long.toString) = some cA := (hK1.2 3 (cA, .long) rfl).2
  have h2 : s.vm.findClass ("[" ++ FieldType.long.toString) = some cJ := (hK.2 1 (cJ, .long) rfl).2
  obtain rfl : cA = cJ := Option.some.inj (h1.symm.trans h2)
  exact kk q H1 hP1 hD1 hS1
theorem nw_q (N : Nat) (hx : p.tables.exec = Jvm.exec) (hb : c.code = cc) {index : Nat} (hown : s.vm.findClass own = some m.cls) (hcl : (Cond.classLink own index "VarnishNight$Sheet").before args s = true) (hov : va_AO "VarnishNight$Sheet" s) (hK : va_K D vwCl (tyA cI cJ cO) s) (hP : va_P D vwCl ws H) (hD : va_D A ws) (hS : va_S A H0 H locs) (hA : ∀ q, H0.size ≤ q → A q)
    {i : Int32} (hn : ¬ i < 0) (hN : i.toNatClampNeg = N) (hby : N * 4 ≤ 536870912) (hcells : cells + 1 ≤ R.cells) (hslots : slots + N ≤ R.slots) (hdg : decode cc pc = .ok (.anewarray index, 3))
    (kk : ∀ (q : Nat) (H1 : Heap), va_P D vwCl (ws ++ [(q, .inl (cO, N, .inr (.inr (.inr (.inr (fun _ => none))))))]) H1 → va_D A (ws ++ [(q, .inl (cO, N, .inr (.inr (.inr (.inr (fun _ => none))))))]) → va_S A H0 H1 locs → W p l e R s m args below meth c H1 locs (cells + 1) (slots + N) Q (F0 m (pc + 3) ls (.ref q :: rest))) : W p l e R s m args below meth c H locs cells slots Q (F0 m pc ls (.int i :: rest)) := by
  refine va_newq hx hb hown hcl hov hK hP hD hS hA hn hN hby hcells hslots hdg (fun q cA H1 hK1 hP1 hD1 hS1 => ?_)
  obtain ⟨_, _, -, -, -, h1⟩ := (hK1.2 3 (cA, .object "VarnishNight$Sheet") rfl).2
  obtain ⟨_, _, -, -, -, h2⟩ := (hK.2 2 (cO, .object "VarnishNight$Sheet") rfl).2
  obtain rfl : cA = cO := Option.some.inj (h1.symm.trans h2)
  exact kk q H1 hP1 hD1 hS1
theorem nw_blind {sz : Nat} {w0 : va_E} (hB : ∀ (U : State) (g : JFrame) (mk : _) (av : _), Z U → Z (U.calling g mk av)) : FrameBlind (va_Pc [.ref a] (fun U => U.heap.size = sz ∧ va_P D vwCl [(a, w0)] U.heap ∧ va_K D vwCl ty U ∧ va_D (fun _ => True) [(a, w0)] ∧ Z U)) := fun av U g mk q => ⟨q.1, q.2.1, q.2.2.1, va_K.moved (u := U) (U := U.calling g mk av) (Vm.Alike.refl U.vm) q.2.2.2.1, q.2.2.2.2.1, hB U g mk av q.2.2.2.2.2⟩
/-- a constructor's call: the new object is the world's last cell -/
theorem nw_I {w0 : va_E} {post : va_W → Prop} (S : CallFix p m c cc nL s args WL own) (hK : va_K D vwCl ty s) (hP : va_P D vwCl (ws ++ [(a, w0)]) H) (hD : va_D A (ws ++ [(a, w0)])) (hS : va_S A H0 H locs) (hA : ∀ q, H0.size ≤ q → A q) (hM : NW l D ty y b n fr lo mc ms Z a w0 post) (hB : ∀ (U : State) (g : JFrame) (mk : _) (av : _), Z U → Z (U.calling g mk av)) (hZ : ∀ U : State, s.WarmedH U.vm → Z U)
    (hc : Cond.code y b n none ∈ WL) (hini : Cond.initialized y.cls ∈ WL) (hlk : Cond.methodLink own ix y ∈ WL) (hin : Cond.instanceMethod y ∈ WL) (hy : y.name = "<init>")
    (hd : y.cls ≠ "java/lang/invoke/MethodHandle" ∧ y.cls ≠ "java/lang/invoke/VarHandle" ∧ (parseMethodDescriptor y.desc).map (fun d => d.parameters.length) = some 0) (hR : fr + 1 ≤ R.frames ∧ 8 + (n + 11) + lo ≤ R.locals)
    (hsz : ls.size = nL) (hW : 2 * (F0 m pc ls (.ref a :: rest)).monitorRoom + (rest.map fun v => v.category).sum ≤ 8) (hdg : decode cc pc = .ok (.invokespecial ix, 3)) (hf : cells + mc ≤ R.cells ∧ slots + ms ≤ R.slots)
    (kk : ∀ (w' : va_W) (H1 : Heap) (locs1 : List Loc), post w' → va_P D vwCl (ws ++ w') H1 → va_D A (ws ++ w') → va_S A H0 H1 locs1 → W p l e R s m args below meth c H1 locs1 (cells + mc) (slots + ms) Q (F0 m (pc + 3) ls rest)) : W p l e R s m args below meth c H locs cells slots Q (F0 m pc ls (.ref a :: rest)) := by
  have hlast : (ws ++ [(a, w0)])[ws.length]? = some (a, w0) := by simp
  have hPc : va_P D vwCl [(a, w0)] H := by
    intro k q hk
    match k, hk with
    | 0, hk => cases hk; exact hP _ _ hlast
  have hDc : va_D (fun _ => True) [(a, w0)] := by
    refine ⟨fun i j p q hi hj _ => ?_, fun _ _ _ => trivial⟩
    have h1 : i < 1 := (List.getElem?_eq_some_iff.mp hi).1
    have h2 : j < 1 := (List.getElem?_eq_some_iff.mp hj).1
    omega
  have hold : ∀ (k : Nat) (q : Nat × va_E), ws[k]? = some q → (ws ++ [(a, w0)])[k]? = some q ∧ k < ws.length := fun k q hk => by
    have hl := (List.getElem?_eq_some_iff.mp hk).1
    exact ⟨by rw [List.getElem?_append_left hl]; exact hk, hl⟩
  have hne : ∀ (k : Nat) (q : Nat × va_E), ws[k]? = some q → ¬ va_A [(a, w0)] H.size q.1 := by
    intro k q hk hA9
    obtain ⟨h1, h2⟩ := hold k q hk
    rcases hA9 with ⟨k9, e9, h9⟩ | h9
    · have h0 : k9 < 1 := (List.getElem?_eq_some_iff.mp h9).1
      rw [show k9 = 0 by omega] at h9
      have e : a = q.1 := congrArg Prod.fst (Option.some.inj h9)
      have := hD.1 ws.length k _ q hlast h1 e
      omega
    · have := (hP k q h1).lt
      omega
  have hAA : ∀ q, va_A [(a, w0)] H.size q → A q := by
    intro q h
    rcases h with ⟨k9, e9, h9⟩ | h9
    · have h0 : k9 < 1 := (List.getElem?_eq_some_iff.mp h9).1
      rw [show k9 = 0 by omega] at h9
      have e : a = q := congrArg Prod.fst (Option.some.inj h9)
      rw [← e]
      exact hD.2 _ _ hlast
    · exact hA q (Nat.le_trans hS.1 h9)
  have hr := va_runI (e := e) (below := below) (meth := meth) (locs := locs) (cells := cells) (slots := slots) (H := H) (g := F0 m pc ls (.ref a :: rest)) (As := []) (rest := rest) S (hM H.size) (cwI 0 S.2.2.2.2 (WL_c hc) rfl rfl rfl (S.2.2.2.2 _ hini) (S.2.2.2.2 _ hlk) (S.2.2.2.2 _ hin) hy hd hR) ⟨nw_blind hB, fun U hU hW => ⟨rfl, by rw [hU], by rw [hU]; exact hPc, va_K.moved hW.alike hK, hDc, hZ U hW⟩⟩ rfl rfl hsz rfl hW hdg hf
  intro T hT X
  obtain ⟨v', st₀, t, T', L, h0, X', hL, e1, e2, ⟨hv, hz0, w', hp, hP1, hD1, hz, hk⟩, st⟩ := hr T hT X
  cases hv
  rw [h0] at hz hk
  rw [← e1] at hP1 hz
  have hP2 : va_P D vwCl (ws ++ w') T'.heap := by
    refine va_P.app (fun k q hq => ?_) hP1
    obtain ⟨h1, h2⟩ := hold k q hq
    have h3 := hP k q h1
    refine h3.kept ?_
    rw [e1]
    exact hk q.1 h3.lt (hne k q hq)
  have hD2 : va_D A (ws ++ w') := by
    have sp : ∀ (k : Nat) (q : Nat × va_E), (ws ++ w')[k]? = some q → (ws[k]? = some q ∧ k < ws.length) ∨ (w'[k - ws.length]? = some q ∧ ws.length ≤ k) := by
      intro k q hq
      by_cases hl : k < ws.length
      · rw [List.getElem?_append_left hl] at hq; exact Or.inl ⟨hq, hl⟩
      · rw [List.getElem?_append_right (by omega)] at hq; exact Or.inr ⟨hq, by omega⟩
    refine ⟨fun i j x z hi hj hxz => ?_, fun k q hq => ?_⟩
    · rcases sp i x hi with ⟨a1, a2⟩ | ⟨a1, a2⟩ <;> rcases sp j z hj with ⟨b1, b2⟩ | ⟨b1, b2⟩
      · exact hD.1 i j x z (hold i x a1).1 (hold j z b1).1 hxz
      · exact absurd (by rw [hxz]; exact hD1.2 _ z b1) (hne i x a1)
      · exact absurd (by rw [← hxz]; exact hD1.2 _ x a1) (hne j z b1)
      · have := hD1.1 _ _ x z a1 b1 hxz
        omega
    · rcases sp k q hq with ⟨a1, a2⟩ | ⟨a1, a2⟩
      · exact hD.2 k q (hold k q a1).1
      · exact hAA _ (hD1.2 _ q a1)
  obtain ⟨t2, a1, b1⟩ := kk w' T'.heap (locs ++ L) hp hP2 hD2 ⟨Nat.le_trans hS.1 hz, fun q h1 h2 => by rw [e1, hk q (Nat.lt_of_lt_of_le h1 hS.1) (fun z => h2 (hAA q z))]; exact hS.2.1 q h1 h2, fun q hq => by
      rcases List.mem_append.mp hq with h | h
      · exact hS.2.2 q h
      · exact hAA _ (hL q h)⟩ T' rfl X'
  exact ⟨t2, st t2 a1, b1⟩
theorem NW.mk {h : Nat} {w0 : va_E} {post : va_W → Prop} (hy : plainName y.cls = true) (hn : (lg_sl [Value.ref h]).length ≤ n)
    (body : ∀ (p : Program) (e : Env) (s : State) (m : MethodId) (below : List Frame) (meth : Method) (c : Code) (ls : Array Slot) (A : Nat → Prop), CallFix p m c b n s #[Value.ref h] WL y.cls → meth.sig.returnType = none → meth.locks = false → meth.name = y.name → va_P D vwCl [(h, w0)] s.heap → va_K D vwCl ty s → va_D A [(h, w0)] → va_S A s.heap s.heap [] → (∀ q, s.heap.size ≤ q → A q) → Z s → lv_has ls n [(0, .ref h)] →
      (∀ (pc' : Nat) (ls' : Array Slot) (H : Heap) (locs : List Loc) (w' : va_W), post w' → va_P D vwCl w' H → va_D A w' → va_S A s.heap H locs → decode b pc' = .ok (.return_, 1) → W p l e { frames := fr, cells := mc, slots := ms, locals := lo } s m #[Value.ref h] below meth c H locs mc ms (MQ below (fun _ st o t => o = .returned none ∧ st.heap.size = s.heap.size ∧ ∃ w' : va_W, post w' ∧ va_P D vwCl w' t.heap ∧ va_D A w' ∧ va_F A st t) #[Value.ref h] s mc ms A) (F0 m pc' ls' [])) →
      W p l e { frames := fr, cells := mc, slots := ms, locals := lo } s m #[Value.ref h] below meth c s.heap [] 0 0 (MQ below (fun _ st o t => o = .returned none ∧ st.heap.size = s.heap.size ∧ ∃ w' : va_W, post w' ∧ va_P D vwCl w' t.heap ∧ va_D A w' ∧ va_F A st t) #[Value.ref h] s mc ms A) (F0 m 0 ls [])) : NW l D ty y b n fr lo mc ms Z h w0 post := by
  intro sz
  refine Met.ofW (cc := b) (maxL := n) (ret := none) hy rfl ?_
  intro p e s m args below meth c s₁ B hml hv
  obtain ⟨rfl, rfl, hP, hK, hD0, hZ⟩ := hv
  have hts := atoms_spec (ws := wC y b n none) B.pre
  have hl := lv_entry [Value.ref h] (n := n) hn
  rw [lg_entry_eq]
  have hb := B.bytes
  have hx := B.exec
  have hr := B.returns
  have hlk := B.notSynchronized
  refine body p e s m below meth c _ (va_A [(h, w0)] s.heap.size) ⟨hx, hb, hml, findClass_of_methodNamed B.named, fun w h => hts w (List.mem_cons_of_mem _ h)⟩ hr hlk (name_of_methodNamed B.named B.method).1 hP hK (hD0.self (sz := s.heap.size)) va_S.rf (fun q h => Or.inr h) hZ hl ?_
  intro pc' ls' H locs w' hp hP1 hD1 hS1 hdg
  exact W.vret hx hb hr (fun t ht hW => ⟨rfl, rfl, w', hp, by rw [ht]; exact hP1, hD1, hS1.F ht⟩) hS1.2.2 hdg
end NEWS
