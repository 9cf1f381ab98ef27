def itR (tp : Nat → Int32) (d : Nat) (r : PR) (s : Nat → Int32) (fm tt wr : Int32) : Prop :=
  match r with
  | .inl p => wr = 1 ∧ fm = nI p
  | .inr x => wr = 0 ∧ s = x.1 ∧ fm = nI x.2.2 ∧ tt = nI (tkE tp d x.2.2)
def PRok (g0 : Int32) (d f : Nat) (r : PR) : Prop :=
  match r with
  | .inl p => p ≤ d
  | .inr x => f < x.2.2 ∧ x.2.2 ≤ d ∧ Inv x.1 x.2.1 ∧ x.1 0 = g0
theorem kind_lt {tp : Nat → Int32} {d f : Nat} (h : 0 ≤ kindS tp d f) : f < d ∧ inI (kindS tp d f) 0 5 = true := by
  unfold kindS at h ⊢
  repeat' split at h
  · rename_i q; rw [if_pos q]; exact ⟨wd_lt q, by decide⟩
  · rename_i q0 q; rw [if_neg q0, if_pos q]; exact ⟨wd_lt q, by decide⟩
  · rename_i q0 q1 q; rw [if_neg q0, if_neg q1, if_pos q]; exact ⟨wd_lt q, by decide⟩
  · rename_i q0 q1 q2 q; rw [if_neg q0, if_neg q1, if_neg q2, if_pos q]; exact ⟨wd_lt q, by decide⟩
  · rename_i q0 q1 q2 q3 q; rw [if_neg q0, if_neg q1, if_neg q2, if_neg q3, if_pos q]; exact ⟨wd_lt q, by decide⟩
  · rename_i q0 q1 q2 q3 q4 q; rw [if_neg q0, if_neg q1, if_neg q2, if_neg q3, if_neg q4, if_pos q]; exact ⟨wd_lt q, by decide⟩
  · exact absurd h (by decide)
theorem want_in {tp : Nat → Int32} {d f : Nat} (h : 0 ≤ wantS tp d f) : rng (wantS tp d f) 0 4 := by
  unfold wantS at h ⊢
  repeat' split at h
  · rename_i q; rw [if_pos q]; exact ⟨by decide, by decide⟩
  · rename_i q0 q; rw [if_neg q0, if_pos q]; exact ⟨by decide, by decide⟩
  · rename_i q0 q1 q; rw [if_neg q0, if_neg q1, if_pos q]; exact ⟨by decide, by decide⟩
  · rename_i q0 q1 q2 q; rw [if_neg q0, if_neg q1, if_neg q2, if_pos q]; exact ⟨by decide, by decide⟩
  · rename_i q0 q1 q2 q3 q; rw [if_neg q0, if_neg q1, if_neg q2, if_neg q3, if_pos q]; exact ⟨by decide, by decide⟩
  · exact absurd h (by decide)
theorem adds_0 {g : Nat → Int32} {n : Nat} {k b d : Int32} : addsF g n k b d 0 = g 0 := adds_lo.1
theorem Inv_p3 {g : Nat → Int32} {n f : Nat} {v : Int32} (hI : Inv g n) (h : rng v 0 99) : Inv (put9 g f 3 v) n :=
  Inv_put hI (by decide) (fun _ => by refine ⟨?_, ?_, ?_, ?_, ?_, ?_, ?_, ?_, ?_⟩ <;> intro q <;> first | exact h | cases q)
theorem Inv_p4 {g : Nat → Int32} {n f : Nat} {v : Int32} (hI : Inv g n) (h : rng v 0 1) : Inv (put9 g f 4 v) n :=
  Inv_put hI (by decide) (fun _ => by refine ⟨?_, ?_, ?_, ?_, ?_, ?_, ?_, ?_, ?_⟩ <;> intro q <;> first | exact h | cases q)
theorem Inv_p5 {g : Nat → Int32} {n f : Nat} {v : Int32} (hI : Inv g n) (h : rng v 0 4) : Inv (put9 g f 5 v) n :=
  Inv_put hI (by decide) (fun _ => by refine ⟨?_, ?_, ?_, ?_, ?_, ?_, ?_, ?_, ?_⟩ <;> intro q <;> first | exact h | cases q)
theorem Inv_p6 {g : Nat → Int32} {n f : Nat} {v : Int32} (hI : Inv g n) (h : rng v (-1) ((n : Int) - 1)) : Inv (put9 g f 6 v) n :=
  Inv_put hI (by decide) (fun _ => by refine ⟨?_, ?_, ?_, ?_, ?_, ?_, ?_, ?_, ?_⟩ <;> intro q <;> first | exact h | cases q)
theorem Inv_p7 {g : Nat → Int32} {n f : Nat} {v : Int32} (hI : Inv g n) (h : rng v 0 1) : Inv (put9 g f 7 v) n :=
  Inv_put hI (by decide) (fun _ => by refine ⟨?_, ?_, ?_, ?_, ?_, ?_, ?_, ?_, ?_⟩ <;> intro q <;> first | exact h | cases q)
theorem lit_ok {tp : Nat → Int32} {d n f0 f : Nat} {g : Nat → Int32} (hI : Inv g (n + 1)) (h : f0 < f) (hf : f ≤ d) : PRok (g 0) d f0 (litI tp d g n f) := by
  unfold litI
  split
  · exact ⟨Nat.lt_of_lt_of_le h (nxt_ge hf), nxt_le hf, Inv_p4 hI ⟨by decide, by decide⟩, by dsimp only; rw [put_lo (by decide)]⟩
  · exact ⟨h, hf, hI, rfl⟩
theorem fig_ok {tp : Nat → Int32} {d n f : Nat} {g : Nat → Int32} {k : Int32} (hI : Inv g n) (hf : f < d) (hk : inI k 0 5 = true) : PRok (g 0) d f (figI tp d g n f k) := by
  have l0 : f ≤ d := by omega
  have g1 := nxt_gt (tp := tp) hf
  have l1 := nxt_le (tp := tp) l0
  have g2 := nxt_ge (tp := tp) l1
  have l2 := nxt_le (tp := tp) l1
  have g3 := nxt_ge (tp := tp) l2
  have l3 := nxt_le (tp := tp) l2
  have g4 := nxt_ge (tp := tp) l3
  have l4 := nxt_le (tp := tp) l3
  have g5 := nxt_ge (tp := tp) l4
  have l5 := nxt_le (tp := tp) l4
  unfold figI
  by_cases c1 : n < 8
  · rw [if_pos c1]
    by_cases c2 : numT tp d (nxt tp d f) 3 = true
    · rw [if_pos c2]
      by_cases c3 : numT tp d (nxt tp d (nxt tp d f)) 19 = true
      · rw [if_pos c3]
        have hA := Inv_adds hI c1 (k := k) (b := numV tp d (nxt tp d f)) (d := numV tp d (nxt tp d (nxt tp d f))) (by unfold figOk; rw [hk, (numT_d c2).2, (numT_d c3).2]; rfl)
        by_cases c4 : isWd tp d (nxt tp d (nxt tp d (nxt tp d f))) 6 = true
        · rw [if_pos c4]
          by_cases c5 : numT tp d (nxt tp d (nxt tp d (nxt tp d (nxt tp d f)))) 99 = true
          · rw [if_pos c5]
            have hB := Inv_p3 (f := n) hA (rng_in (numT_d c5).2)
            have h := lit_ok (tp := tp) (d := d) (f0 := f) hB (f := nxt tp d (nxt tp d (nxt tp d (nxt tp d (nxt tp d f))))) (by omega) l5
            rw [put_lo (by decide), adds_0] at h
            exact h
          · rw [if_neg c5]; exact l4
        · rw [if_neg c4]
          have h := lit_ok (tp := tp) (d := d) (f0 := f) hA (f := nxt tp d (nxt tp d (nxt tp d f))) (by omega) l3
          rw [adds_0] at h
          exact h
      · rw [if_neg c3]; exact l2
    · rw [if_neg c2]; exact l1
  · rw [if_neg c1]; exact l0
theorem rng_f {n : Nat} {v : Int32} (h8 : n ≤ 8) (h : inI v 0 (nI n - 1) = true) : rng v (-1) ((n : Int) - 1) := by
  obtain ⟨k, hk, rfl⟩ := fig_in h8 h
  unfold rng
  rw [nI_toInt (by omega)]
  omega
theorem wants_ok {tp : Nat → Int32} {d n f : Nat} {g : Nat → Int32} (hI : Inv g n) (hf : f < d) : PRok (g 0) d f (wantsI tp d g n f) := by
  have l0 : f ≤ d := by omega
  have g1 := nxt_gt (tp := tp) hf
  have l1 := nxt_le (tp := tp) l0
  have g2 := nxt_ge (tp := tp) l1
  have l2 := nxt_le (tp := tp) l1
  have g3 := nxt_ge (tp := tp) l2
  have l3 := nxt_le (tp := tp) l2
  have g4 := nxt_ge (tp := tp) l3
  have l4 := nxt_le (tp := tp) l3
  unfold wantsI
  by_cases c1 : numT tp d (nxt tp d f) (nI n - 1) = true
  · rw [if_pos c1]
    by_cases c2 : 0 ≤ wantS tp d (nxt tp d (nxt tp d f))
    · rw [if_pos c2]
      have hw := want_in c2
      by_cases c3 : wantS tp d (nxt tp d (nxt tp d f)) = 1 ∨ wantS tp d (nxt tp d (nxt tp d f)) = 2
      · rw [if_pos c3]
        by_cases c4 : numT tp d (nxt tp d (nxt tp d (nxt tp d f))) (nI n - 1) = true
        · rw [if_pos c4]
          refine ⟨by show f < nxt tp d (nxt tp d (nxt tp d (nxt tp d f))); omega, l4, Inv_p6 (Inv_p5 hI hw) (rng_f hI.1 (numT_d c4).2), by dsimp only; rw [put_lo (by decide), put_lo (by decide)]⟩
        · rw [if_neg c4]; exact l3
      · rw [if_neg c3]
        exact ⟨by show f < nxt tp d (nxt tp d (nxt tp d f)); omega, l3, Inv_p5 hI hw, by dsimp only; rw [put_lo (by decide)]⟩
    · rw [if_neg c2]; exact l2
  · rw [if_neg c1]; exact l1
theorem out_ok {tp : Nat → Int32} {d n f : Nat} {g : Nat → Int32} {o : Int32} (hI : Inv g n) (hf : f < d) (ho : rng o 0 1) : PRok (g 0) d f (outI tp d g n f o) := by
  have l0 : f ≤ d := by omega
  have g1 := nxt_gt (tp := tp) hf
  have l1 := nxt_le (tp := tp) l0
  have g2 := nxt_ge (tp := tp) l1
  have l2 := nxt_le (tp := tp) l1
  unfold outI
  split
  · exact ⟨by show f < nxt tp d (nxt tp d f); omega, l2, Inv_p7 hI ho, by dsimp only; rw [put_lo (by decide)]⟩
  · exact l1
theorem tack_ok {tp : Nat → Int32} {d n f : Nat} {g : Nat → Int32} (hI : Inv g n) (hf : f < d) : PRok (g 0) d f (tackI tp d g n f) := by
  have l0 : f ≤ d := by omega
  have g1 := nxt_gt (tp := tp) hf
  have l1 := nxt_le (tp := tp) l0
  have g2 := nxt_ge (tp := tp) l1
  have l2 := nxt_le (tp := tp) l1
  unfold tackI
  by_cases c : numT tp d (nxt tp d f) 8 = true
  · rw [if_pos c]
    obtain ⟨v, hv, e⟩ := numT_n (b := 8) (by decide) c
    refine ⟨by show f < nxt tp d (nxt tp d f); omega, l2, ?_, by show upd g 2 (numV tp d (nxt tp d f)) 0 = g 0; exact pk_un (by decide)⟩
    show Inv (upd g 2 (numV tp d (nxt tp d f))) n
    rw [e]
    exact Inv_tk hI hv
  · rw [if_neg c]; exact l1
theorem item_ok {tp : Nat → Int32} {d n f : Nat} {g : Nat → Int32} (hI : Inv g n) (hf : f ≤ d) : PRok (g 0) d f (itemI tp d g n f) := by
  unfold itemI
  by_cases c1 : 0 ≤ kindS tp d f
  · rw [if_pos c1]; exact fig_ok hI (kind_lt c1).1 (kind_lt c1).2
  · rw [if_neg c1]
    by_cases c2 : isWd tp d f 8 = true
    · rw [if_pos c2]; exact wants_ok hI (wd_lt c2)
    · rw [if_neg c2]
      by_cases c3 : isWd tp d f 13 = true
      · rw [if_pos c3]; exact out_ok hI (wd_lt c3) ⟨by decide, by decide⟩
      · rw [if_neg c3]
        by_cases c4 : isWd tp d f 14 = true
        · rw [if_pos c4]; exact out_ok hI (wd_lt c4) ⟨by decide, by decide⟩
        · rw [if_neg c4]
          by_cases c5 : isWd tp d f 15 = true
          · rw [if_pos c5]; exact tack_ok hI (wd_lt c5)
          · rw [if_neg c5]; exact hf
/-- behind an item: the end, a sign and the next item, or a fault -/
def nightI (tp : Nat → Int32) (d m : Nat) (g : Nat → Int32) (n f it : Nat) : PR :=
  match m with
  | 0 => .inl f
  | m + 1 => match itemI tp d g n f with
    | .inl p => .inl p
    | .inr x => if x.2.2 < d then (if tp x.2.2 = 59 then nightI tp d m x.1 x.2.1 (nxt tp d x.2.2) (it + 1) else .inl x.2.2) else .inr (x.1, x.2.1, it)
termination_by m
def nightC (tp : Nat → Int32) (d m : Nat) (g : Nat → Int32) (n f it : Nat) : PR := if f < d then (if tp f = 59 then nightI tp d m g n (nxt tp d f) (it + 1) else .inl f) else .inr (g, n, it)
theorem night_l {tp : Nat → Int32} {d m n f it p : Nat} {g : Nat → Int32} (h : itemI tp d g n f = .inl p) : nightI tp d (m + 1) g n f it = .inl p := by
  rw [nightI, h]
theorem night_r {tp : Nat → Int32} {d m n f it : Nat} {g : Nat → Int32} {x : (Nat → Int32) × Nat × Nat} (h : itemI tp d g n f = .inr x) : nightI tp d (m + 1) g n f it = nightC tp d m x.1 x.2.1 x.2.2 it := by
  rw [nightI, h, nightC]
def nightP (tp : Nat → Int32) (d : Nat) (g : Nat → Int32) (n : Nat) : PR := nightI tp d 120 g n (skp tp d 0) 1
def nightA (r : PR) : Int32 := match r with
  | .inl p => -1 - nI p
  | .inr x => nI x.2.2
def nightG (r : PR) (g : Nat → Int32) : Nat → Int32 := match r with
  | .inl _ => g
  | .inr x => x.1
def nightN (r : PR) (n : Nat) : Nat := match r with
  | .inl _ => n
  | .inr x => x.2.1
def nOK (tp : Nat → Int32) (d : Nat) (R : PR) (s : Nat → Int32) (fm tt wr : Int32) (it m : Nat) : Prop :=
  (∃ p, p ≤ d ∧ wr = 1 ∧ fm = nI p ∧ R = .inl p) ∨ (∃ n f, wr = 0 ∧ Inv s n ∧ fm = nI f ∧ tt = nI (tkE tp d f) ∧ f ≤ d ∧ d - f ≤ m ∧ R = nightC tp d m s n f it)
theorem nOK_of {tp : Nat → Int32} {d : Nat} {R : PR} {g s : Nat → Int32} {n f : Nat} {fm tt wr : Int32} {it m : Nat} (hI : Inv g n) (hf : f ≤ d) (hm : d - f ≤ m + 1) (hR : R = nightI tp d (m + 1) g n f it) (h : itR tp d (itemI tp d g n f) s fm tt wr) : nOK tp d R s fm tt wr it m := by
  have ho := item_ok (tp := tp) hI hf
  cases e : itemI tp d g n f with
  | inl p =>
    rw [e] at h ho
    exact Or.inl ⟨p, ho, h.1, h.2, by rw [hR, night_l e]⟩
  | inr x =>
    rw [e] at h ho
    obtain ⟨h1, h2, h3, h4⟩ := h
    obtain ⟨o1, o2, o3, o4⟩ := ho
    subst h2
    exact Or.inr ⟨x.2.1, x.2.2, h1, o3, h3, h4, o2, by omega, by rw [hR, night_r e]⟩
theorem night_keep {tp : Nat → Int32} {d : Nat} : ∀ {m : Nat} {g : Nat → Int32} {n f it : Nat}, Inv g n → f ≤ d → match nightI tp d m g n f it with
    | .inl p => p ≤ d
    | .inr x => Inv x.1 x.2.1 ∧ x.1 0 = g 0 := by
  intro m
  induction m with
  | zero => intro g n f it hI hf; rw [nightI]; exact hf
  | succ m ih =>
    intro g n f it hI hf
    have ho := item_ok (tp := tp) hI hf
    cases e : itemI tp d g n f with
    | inl p => rw [e] at ho; rw [night_l e]; exact ho
    | inr x =>
      rw [e] at ho
      obtain ⟨o1, o2, o3, o4⟩ := ho
      rw [night_r e, nightC]
      by_cases c1 : x.2.2 < d
      · rw [if_pos c1]
        by_cases c2 : tp x.2.2 = 59
        · rw [if_pos c2]
          have h := ih (it := it + 1) o3 (nxt_le (tp := tp) o2)
          revert h
          cases nightI tp d m x.1 x.2.1 (nxt tp d x.2.2) (it + 1) with
          | inl p => exact fun h => h
          | inr y => exact fun h => ⟨h.1, h.2.trans o4⟩
        · rw [if_neg c2]; exact o2
      · rw [if_neg c1]; exact ⟨o3, o4⟩
theorem Inv_night {tp : Nat → Int32} {d n : Nat} {g : Nat → Int32} (hI : Inv g n) : Inv (nightG (nightP tp d g n) g) (nightN (nightP tp d g n) n) ∧ nightG (nightP tp d g n) g 0 = g 0 := by
  have h := night_keep (tp := tp) (d := d) (m := 120) (f := skp tp d 0) (it := 1) hI (skp_le (Nat.zero_le d))
  unfold nightP
  revert h
  cases nightI tp d 120 g n (skp tp d 0) 1 with
  | inl p => exact fun _ => ⟨hI, rfl⟩
  | inr x => exact fun h => h
