def zeroF (g : Nat → Int32) (n i : Nat) : Nat → Int32 := fun j => if 9 * n + 3 ≤ j ∧ j < 9 * n + 3 + i then 0 else g j
theorem zeroF_0 (g : Nat → Int32) (n : Nat) : g = zeroF g n 0 := funext fun j => by
  simp only [zeroF]
  rw [if_neg (by omega)]
theorem zeroF_s (g : Nat → Int32) (n i : Nat) : upd (zeroF g n i) (9 * n + i + 3) 0 = zeroF g n (i + 1) := funext fun j => by
  simp only [zeroF, upd]
  split
  · rw [if_pos (by omega)]
  · split
    · rw [if_pos (by omega)]
    · rw [if_neg (by omega)]
theorem its_u8 (g : Nat → Int32) (f w : Nat) (v : Int32) (h : ¬ w = 8) : its (upd g (9 * f + w + 3) v) f 8 = its g f 8 := pk_un (by omega)
def addsF (g : Nat → Int32) (n : Nat) (k b d : Int32) : Nat → Int32 := upd (upd (upd (upd (upd (zeroF (upd g 1 (nI n + 1)) n 9) (9 * n + 0 + 3) k) (9 * n + 1 + 3) b) (9 * n + 2 + 3) d) (9 * n + 3 + 3) 50) (9 * n + 6 + 3) (-1)
/-! what each call answers, and what becomes of the state: told once for both sides -/
def bump (t : Nat → Int32) (k : Nat) : Nat → Int32 := upd t k (t k + 1)
def okT (b : Bool) (t : Nat → Int32) : Nat → Int32 := if b then t else bump t 0
theorem fig_in {n : Nat} {f : Int32} (h8 : n ≤ 8) (h : isFig n f = true) : ∃ k, k < n ∧ f = nI k := by
  unfold isFig inI at h
  have h := of_decide_eq_true h
  rw [le_I, le_I] at h
  have h0 : (0 : Int32).toInt = 0 := by decide
  have h1 : (1 : Int32).toInt = 1 := by decide
  have hn : (nI n).toInt = n := nI_toInt (by omega)
  rw [sub_I (by rw [hn, h1]; omega) (by rw [hn, h1]; omega), hn, h1, h0] at h
  obtain ⟨e1, e2⟩ := nI_of1 h.1
  exact ⟨_, by omega, e1⟩
theorem fig_mk {n k : Nat} (h8 : n ≤ 8) (h : k < n) : isFig n (nI k) = true := by
  unfold isFig inI
  refine decide_eq_true ?_
  rw [le_I, le_I]
  have h0 : (0 : Int32).toInt = 0 := by decide
  have h1 : (1 : Int32).toInt = 1 := by decide
  have hn : (nI n).toInt = n := nI_toInt (by omega)
  have hk : (nI k).toInt = k := nI_toInt (by omega)
  rw [sub_I (by rw [hn, h1]; omega) (by rw [hn, h1]; omega), hn, h1, h0, hk]
  omega
theorem in_nat {v : Int32} {a b : Nat} (hb : b < 2147483648) (h : inI v (nI a) (nI b) = true) (ha : a ≤ b) : ∃ k, a ≤ k ∧ k ≤ b ∧ v = nI k := by
  unfold inI at h
  have h := of_decide_eq_true h
  rw [le_I, le_I, nI_toInt (by omega), nI_toInt (by omega)] at h
  obtain ⟨e1, e2⟩ := nI_of1 (x := v) (by omega)
  exact ⟨_, by omega, by omega, e1⟩
theorem in_mk {k a b : Nat} (hb : b < 2147483648) (h1 : a ≤ k) (h2 : k ≤ b) : inI (nI k) (nI a) (nI b) = true := by
  unfold inI
  refine decide_eq_true ?_
  rw [nI_leI (by omega) (by omega), nI_leI (by omega) (by omega)]
  exact ⟨h1, h2⟩
def cl (x : Int32) : Nat := x.toNatClampNeg
theorem cl_nI {k : Nat} (h : k < 2147483648) : cl (nI k) = k := nI_clamp (by omega)
-- the night
def tackyR (g : Nat → Int32) (v : Int32) : Int32 := if inI v 0 8 then g 2 else -1000000001
def tackyG (g : Nat → Int32) (v : Int32) : Nat → Int32 := if inI v 0 8 then upd g 2 v else g
def nowR (g : Nat → Int32) (n : Nat) (w : Int32) : Int32 := if w = 0 then g 0 else if w = 1 then m8 (g 0) else if w = 2 then b2i (isTk g) else if w = 3 then contS g n else if w = 4 then setF (waits g n) n else if w = 5 then setF (seenP g n) n else if w = 6 then setF (outP g) n else if w = 7 then sumF (fun f => its g f 8) n else -1000000001
def nowT (t : Nat → Int32) (w : Int32) : Nat → Int32 := if w = 0 then t else if w = 1 then t else if w = 2 then t else if w = 3 then t else if w = 4 then t else if w = 5 then t else if w = 6 then t else if w = 7 then t else bump t 0
def inP (g : Nat → Int32) (p : Int32) (f : Nat) : Bool := decide (its g f 1 = p)
def hangsR (g : Nat → Int32) (n : Nat) (p : Int32) : Int32 := if inI p 0 3 then setF (inP g p) n else -1000000001
-- figures
def figOk (k b d : Int32) : Bool := inI k 0 5 && inI b 0 3 && inI d 0 19
def figR (n : Nat) (k b d : Int32) : Int32 := if figOk k b d then (if n = 8 then -1000000002 else nI n) else -1000000001
def figT (t : Nat → Int32) (n : Nat) (k b d : Int32) : Nat → Int32 := if figOk k b d then (if n = 8 then bump t 1 else t) else bump t 0
def figG (g : Nat → Int32) (n : Nat) (k b d : Int32) : Nat → Int32 := if figOk k b d then (if n = 8 then g else addsF g n k b d) else g
def ofR (g : Nat → Int32) (n : Nat) (f w : Int32) : Int32 := if isFig n f && inI w 0 11 then (if w = 9 then rubs g n (cl f) else if w = 10 then b2i (waits g n (cl f)) else if w = 11 then b2i (content g (cl f)) else its g (cl f) (cl w)) else -1000000001
def setR (g : Nat → Int32) (n : Nat) (f w v : Int32) : Int32 := if isFig n f && setOK n w v then its g (cl f) (cl w) else -1000000001
def setG (g : Nat → Int32) (n : Nat) (f w v : Int32) : Nat → Int32 := if isFig n f && setOK n w v then put9 g (cl f) (cl w) v else g
def seenR (g : Nat → Int32) (n : Nat) (f : Int32) : Int32 := if isFig n f then lamps g n (cl f) else -1000000001
def turnOk (n : Nat) (f k : Int32) : Bool := isFig n f && inI k 0 5
def turnR (g : Nat → Int32) (n : Nat) (f k : Int32) : Int32 := if turnOk n f k then its g (cl f) 0 else -1000000001
def turnG (g : Nat → Int32) (n : Nat) (f k : Int32) : Nat → Int32 := if turnOk n f k then put9 g (cl f) 0 k else g
def asR (g : Nat → Int32) (n : Nat) (f k : Int32) : Int32 := if turnOk n f k then (if under (its g (cl f) 0) k then its g (cl f) 3 else -1000000003) else -1000000001
def asT (g t : Nat → Int32) (n : Nat) (f k : Int32) : Nat → Int32 := if turnOk n f k then (if under (its g (cl f) 0) k then t else bump t 2) else bump t 0
-- hours
def hrsR (g : Nat → Int32) (n : Nat) (k : Int32) : Int32 := if inI k 1 100 then (if g 0 + k ≤ 99999 then contS (hoursF g n (cl k)) n else -1000000005) else -1000000001
def hrsG (g : Nat → Int32) (n : Nat) (k : Int32) : Nat → Int32 := if inI k 1 100 then (if g 0 + k ≤ 99999 then hoursF g n (cl k) else g) else g
def hrsT (g t : Nat → Int32) (k : Int32) : Nat → Int32 := if inI k 1 100 then (if g 0 + k ≤ 99999 then t else bump t 4) else bump t 0
def onOk (n : Nat) (f k w : Int32) : Bool := isFig n f && inI k 0 200 && inI w 0 3
def onR (g : Nat → Int32) (n : Nat) (f k w : Int32) : Int32 := if onOk n f k w then its (hoursF g n (cl k)) (cl f) (if w = 3 then 8 else 2 + cl w) else -1000000001
def manyR (g : Nat → Int32) (n : Nat) (k : Int32) : Int32 := if inI k 0 200 then nI (contN (hoursF g n (cl k)) n) else -1000000001
-- the first of some for which something holds; as many as there are: none
def fstN (p : Nat → Bool) (m : Nat) : Nat :=
  match m with
  | 0 => 0
  | m + 1 => if fstN p m < m then fstN p m else if p m then m else m + 1
termination_by m
theorem fstN_all {p : Nat → Bool} : ∀ {m : Nat}, (∀ j, j < m → p j = false) → fstN p m = m
  | 0, _ => by rw [fstN]
  | m + 1, h => by
    have ih := fstN_all (p := p) (m := m) (fun j hj => h j (by omega))
    rw [fstN, ih, if_neg (Nat.lt_irrefl m), h m (by omega)]
    rfl
theorem fstN_at {p : Nat → Bool} {i : Nat} (h : ∀ j, j < i → p j = false) (hi : p i = true) : ∀ {m : Nat}, i < m → fstN p m = i
  | 0, hm => absurd hm (Nat.not_lt_zero _)
  | m + 1, hm => by
    rcases Nat.lt_or_ge i m with q | q
    · rw [fstN, fstN_at h hi q, if_pos q]
    · obtain rfl : i = m := by omega
      rw [fstN, fstN_all h, if_neg (Nat.lt_irrefl _), hi]
      rfl
theorem fstN_le (p : Nat → Bool) : ∀ m, fstN p m ≤ m
  | 0 => by rw [fstN]; exact Nat.le_refl _
  | m + 1 => by
    have h := fstN_le p m
    rw [fstN]
    split
    · omega
    · split <;> omega
def whenP (g : Nat → Int32) (n f j : Nat) : Bool := content (hoursF g n j) f
def allP (g : Nat → Int32) (n j : Nat) : Bool := decide (n ≤ contN (hoursF g n j) n)
def toldR (j : Nat) : Int32 := if j ≤ 200 then nI j else -1000000004
def toldT (t : Nat → Int32) (j : Nat) : Nat → Int32 := if j ≤ 200 then t else bump t 3
def whenR (g : Nat → Int32) (n : Nat) (f : Int32) : Int32 := if isFig n f then toldR (fstN (whenP g n (cl f)) 201) else -1000000001
def whenT (g t : Nat → Int32) (n : Nat) (f : Int32) : Nat → Int32 := if isFig n f then toldT t (fstN (whenP g n (cl f)) 201) else bump t 0
def allR (g : Nat → Int32) (n : Nat) : Int32 := toldR (fstN (allP g n) 201)
def allT (g t : Nat → Int32) (n : Nat) : Nat → Int32 := toldT t (fstN (allP g n) 201)
-- what is best
def bestF (ok : Nat → Bool) (val : Nat → Int32) (b : Int32) (m : Nat) : Int32 × Int32 :=
  match m with
  | 0 => (b, -1)
  | i + 1 => if ok i = true ∧ ¬ val i ≤ (bestF ok val b i).2 then (nI i, val i) else bestF ok val b i
termination_by m
def yesP (_ : Nat) : Bool := true
def manyV (g : Nat → Int32) (n : Nat) (k : Nat) : Int32 := nI (contN (hoursF g n k) n)
def freeP (g : Nat → Int32) (f : Nat) : Bool := decide (its g f 7 = 0)
def porterV (g : Nat → Int32) (n k f : Nat) : Int32 := manyV (put9 g f 7 1) n k
def porterB (g : Nat → Int32) (n : Nat) (k : Int32) : Int32 := (bestF (freeP g) (porterV g n (cl k)) (-1) n).1
def porterR (g : Nat → Int32) (n : Nat) (k : Int32) : Int32 := if inI k 1 40 then (if 0 ≤ porterB g n k then porterB g n k else -1000000004) else -1000000001
def porterT (g t : Nat → Int32) (n : Nat) (k : Int32) : Nat → Int32 := if inI k 1 40 then (if 0 ≤ porterB g n k then t else bump t 3) else bump t 0
def mostV (g : Nat → Int32) (n k j v : Nat) : Int32 := manyV (upd g j (nI v)) n k
def mostB (g : Nat → Int32) (n k j c : Nat) : Int32 := (bestF yesP (mostV g n k j) 0 c).1
def soonOk (n : Nat) (f k : Int32) : Bool := isFig n f && inI k 1 40
def placeR (g : Nat → Int32) (n : Nat) (f k : Int32) : Int32 := if soonOk n f k then mostB g n (cl k) (9 * cl f + 2 + 3) 20 else -1000000001
def wantR (g : Nat → Int32) (n : Nat) (f k : Int32) : Int32 := if soonOk n f k then mostB g n (cl k) (9 * cl f + 5 + 3) 5 else -1000000001
def kindOk (n : Nat) (f k : Int32) : Bool := isFig n f && inI k 1 60
def kindV (g : Nat → Int32) (n f k v : Nat) : Int32 := its (hoursF (put9 g f 0 (nI v)) n k) f 8
def kindR (g : Nat → Int32) (n : Nat) (f k : Int32) : Int32 := if kindOk n f k then (bestF yesP (kindV g n (cl f) (cl k)) 0 6).1 else -1000000001
def byOk (k v : Int32) : Bool := inI k 1 40 && inI v 0 8
def byP (g : Nat → Int32) (n : Nat) (k v : Int32) (j : Nat) : Bool := decide (v ≤ manyV (upd g 2 (nI j)) n (cl k))
def byJ (g : Nat → Int32) (n : Nat) (k v : Int32) : Nat := fstN (byP g n k v) 9
def byR (g : Nat → Int32) (n : Nat) (k v : Int32) : Int32 := if byOk k v then (if byJ g n k v = 9 then -1000000004 else nI (byJ g n k v)) else -1000000001
def byT (g t : Nat → Int32) (n : Nat) (k v : Int32) : Nat → Int32 := if byOk k v then (if byJ g n k v = 9 then bump t 3 else t) else bump t 0
def noseOk (n : Nat) (f k : Int32) : Bool := isFig n f && inI k 0 40
def noseP (g : Nat → Int32) (n f k j : Nat) : Bool := decide (its (hoursF (put9 g f 3 (nI (99 - j))) n k) f 3 ≤ 10)
def noseJ (g : Nat → Int32) (n : Nat) (f k : Int32) : Nat := fstN (noseP g n (cl f) (cl k)) 100
def noseR (g : Nat → Int32) (n : Nat) (f k : Int32) : Int32 := if noseOk n f k then (if noseJ g n f k = 100 then -1000000004 else nI (99 - noseJ g n f k)) else -1000000001
def noseT (g t : Nat → Int32) (n : Nat) (f k : Int32) : Nat → Int32 := if noseOk n f k then (if noseJ g n f k = 100 then bump t 3 else t) else bump t 0
-- images, counts
def undoR (kg : Nat → Int32) (ik : Bool) : Int32 := if ik then kg 1 else -1000000004
def undoG (g kg : Nat → Int32) (ik : Bool) : Nat → Int32 := if ik then kg else g
def undoT (t : Nat → Int32) (ik : Bool) : Nat → Int32 := if ik then t else bump t 3
def countR (g : Nat → Int32) (n : Nat) (td w : Int32) : Int32 := if w = 0 then nI n else if w = 1 then td else if w = 2 then sumF (fun f => its g f 4) n else if w = 3 then sumF (fun f => its g f 3) n else -1000000001
def countT (t : Nat → Int32) (w : Int32) : Nat → Int32 := if w = 0 then t else if w = 1 then t else if w = 2 then t else if w = 3 then t else bump t 0
def statP (t : Nat → Int32) (w : Int32) (k : Nat) : Int32 := if w < 0 ∨ nI k = w then t k else 0
def statR (t : Nat → Int32) (w : Int32) : Int32 := if inI w (-1) 6 then sumF (statP t w) 7 else -1000000001
theorem set_in {n : Nat} {w v : Int32} (h : setOK n w v = true) : ∃ j, 1 ≤ j ∧ j < 9 ∧ w = nI j := by
  unfold setOK at h
  by_cases c1 : w = 1
  · exact ⟨1, by omega, by omega, c1⟩
  rw [if_neg c1] at h
  by_cases c2 : w = 2
  · exact ⟨2, by omega, by omega, c2⟩
  rw [if_neg c2] at h
  by_cases c3 : w = 3
  · exact ⟨3, by omega, by omega, c3⟩
  rw [if_neg c3] at h
  by_cases c4 : w = 4
  · exact ⟨4, by omega, by omega, c4⟩
  rw [if_neg c4] at h
  by_cases c5 : w = 5
  · exact ⟨5, by omega, by omega, c5⟩
  rw [if_neg c5] at h
  by_cases c6 : w = 6
  · exact ⟨6, by omega, by omega, c6⟩
  rw [if_neg c6] at h
  by_cases c7 : w = 7
  · exact ⟨7, by omega, by omega, c7⟩
  rw [if_neg c7] at h
  simp only [Bool.and_eq_true, decide_eq_true_eq] at h
  exact ⟨8, by omega, by omega, h.1⟩
theorem upd_same (g : Nat → Int32) (j : Nat) : g = upd g j (g j) := funext fun k => by
  unfold upd
  split
  · rename_i h; rw [h]
  · rfl
theorem upd_upd (g : Nat → Int32) (j : Nat) (x y : Int32) : upd (upd g j x) j y = upd g j y := funext fun k => by
  unfold upd
  split <;> rfl
theorem upd_back (g : Nat → Int32) (j : Nat) (x : Int32) : upd (upd g j x) j (g j) = g := by rw [upd_upd, ← upd_same]
theorem best_t {ok : Nat → Bool} {val : Nat → Int32} {b : Int32} {i : Nat} (h1 : ok i = true) (h2 : ¬ val i ≤ (bestF ok val b i).2) : (nI i, val i) = bestF ok val b (i + 1) := by
  rw [bestF, if_pos ⟨h1, h2⟩]
theorem best_f {ok : Nat → Bool} {val : Nat → Int32} {b : Int32} {i : Nat} (h : ok i = true → val i ≤ (bestF ok val b i).2) : bestF ok val b i = bestF ok val b (i + 1) := by
  rw [bestF, if_neg (fun q => q.2 (h q.1))]
theorem Inv_pv {g : Nat → Int32} {n f w v b : Nat} (hI : Inv g n) (hv : v ≤ b) (hb : (w = 0 ∧ b = 5) ∨ (w = 2 ∧ b = 19) ∨ (w = 3 ∧ b = 99) ∨ (w = 5 ∧ b = 4) ∨ (w = 7 ∧ b = 1)) : Inv (upd g (9 * f + w + 3) (nI v)) n := by
  refine Inv_put (w := w) hI (by omega) (fun _ => ?_)
  have e : (nI v).toInt = v := nI_toInt (by omega)
  unfold rng
  rw [e]
  refine ⟨?_, ?_, ?_, ?_, ?_, ?_, ?_, ?_, ?_⟩ <;> omega
theorem Inv_tk {g : Nat → Int32} {n v : Nat} (hI : Inv g n) (hv : v ≤ 8) : Inv (upd g 2 (nI v)) n := by
  obtain ⟨h1, h2, h3, h4⟩ := hI
  refine ⟨h1, by rw [pk_un (by omega)]; exact h2, ?_, fun f hf => ?_⟩
  · rw [pk_us]; unfold rng; rw [nI_toInt (by omega)]; omega
  · have key : ∀ k, its (upd g 2 (nI v)) f k = its g f k := fun k => pk_un (by omega)
    unfold rowOK
    rw [key, key, key, key, key, key, key, key, key]
    exact h4 f hf
theorem by_end {p : Nat → Bool} {i m : Nat} {fo : Int32} (h : (fo = -1 ∧ ∀ j, j < i → p j = false) ∨ (∃ k, i = k + 1 ∧ fo = nI k ∧ p k = true ∧ ∀ j, j < k → p j = false)) (hi : i ≤ m) (hm : m < 2147483648) (hx : i = m ∨ 0 ≤ fo) : (fo = -1 ∧ fstN p m = m) ∨ (∃ j, j < m ∧ fo = nI j ∧ fstN p m = j) := by
  rcases h with ⟨h1, h2⟩ | ⟨k, h1, h2, h3, h4⟩
  · left
    refine ⟨h1, fstN_all (fun j hj => h2 j ?_)⟩
    rcases hx with hx | hx
    · omega
    · rw [h1] at hx; exact absurd hx (by decide)
  · right
    exact ⟨k, by omega, h2, fstN_at h4 h3 (by omega)⟩
theorem dn_inc {i c : Nat} : (nI c - nI i) + Int32.ofInt (-1) = nI c - nI (i + 1) := by
  rw [nI_succ, show Int32.ofInt (-1) = -1 from rfl, Int32.sub_eq_add_neg, Int32.sub_eq_add_neg, Int32.neg_add, Int32.sub_eq_add_neg, Int32.add_assoc]
theorem dn_ge {i c : Nat} (hi : i ≤ c + 1) (hc : c < 1000) (h : 0 ≤ nI c - nI i) : i ≤ c := by
  rw [le_I, pk_sub_toInt (by omega) (by omega)] at h
  have h0 : (0 : Int32).toInt = 0 := by decide
  omega
theorem dn_lt {i c : Nat} (hi : i ≤ c + 1) (hc : c < 1000) (h : ¬ 0 ≤ nI c - nI i) : i = c + 1 := by
  rw [le_I, pk_sub_toInt (by omega) (by omega)] at h
  have h0 : (0 : Int32).toInt = 0 := by decide
  omega
theorem by_endD {p : Nat → Bool} {i : Nat} {fo : Int32} (h : (fo = -1 ∧ ∀ j, j < i → p j = false) ∨ (∃ k, i = k + 1 ∧ fo = nI (99 - k) ∧ p k = true ∧ ∀ j, j < k → p j = false)) (hi : i ≤ 100) (hx : i = 100 ∨ 0 ≤ fo) : (fo = -1 ∧ fstN p 100 = 100) ∨ (∃ j, j < 100 ∧ fo = nI (99 - j) ∧ fstN p 100 = j) := by
  rcases h with ⟨h1, h2⟩ | ⟨k, h1, h2, h3, h4⟩
  · left
    refine ⟨h1, fstN_all (fun j hj => h2 j ?_)⟩
    rcases hx with hx | hx
    · omega
    · rw [h1] at hx; exact absurd hx (by decide)
  · right
    exact ⟨k, by omega, h2, fstN_at h4 h3 (by omega)⟩
