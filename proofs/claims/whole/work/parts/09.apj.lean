/-! clash, the tape's bytes, sheets: told once for both sides -/
def bitP (x : Int32) (f : Nat) : Bool := decide ((x >>> (nI f &&& 31)) &&& 1 = 1)
def clA (g : Nat → Int32) (n j : Nat) : Int32 := contS (hoursF g n j) n
def clB (c : Nat → Int32) (k f o : Nat) : Bool := anyF (fun j => bitP (c j) f) k && anyF (fun j => bitP (c j) o) k && !anyF (fun j => bitP (c j) f && bitP (c j) o) k
def sr1 (P : Nat → Nat → Bool) (n f : Nat) (fo : Int32) (j : Nat) : Int32 :=
  match j with
  | 0 => fo
  | j + 1 => if P f (n - (j + 1)) then nI (10 * f + (n - (j + 1))) else sr1 P n f fo j
termination_by j
def sr2 (P : Nat → Nat → Bool) (n : Nat) (j : Nat) : Int32 :=
  match j with
  | 0 => -1
  | j + 1 => sr1 P n (n - (j + 1)) (sr2 P n j) j
termination_by j
def clashB (g : Nat → Int32) (n : Nat) (k : Int32) : Int32 := sr2 (clB (clA g n) (cl k + 1)) n n
def clashR (g : Nat → Int32) (n : Nat) (k : Int32) : Int32 := if inI k 1 60 then (if 0 ≤ clashB g n k then clashB g n k else -1000000004) else -1000000001
def clashT (g t : Nat → Int32) (n : Nat) (k : Int32) : Nat → Int32 := if inI k 1 60 then (if 0 ≤ clashB g n k then t else bump t 3) else bump t 0
theorem anyF_cong {p q : Nat → Bool} : ∀ {n : Nat}, (∀ j, j < n → p j = q j) → anyF p n = anyF q n
  | 0, _ => rfl
  | n + 1, h => by rw [anyF, anyF, anyF_cong (fun j hj => h j (by omega)), h n (by omega)]
theorem clB_cong {c d : Nat → Int32} {k f o : Nat} (h : ∀ j, j < k → c j = d j) : clB c k f o = clB d k f o := by
  unfold clB
  rw [anyF_cong (p := fun j => bitP (c j) f) (q := fun j => bitP (d j) f) (fun j hj => by rw [h j hj]), anyF_cong (p := fun j => bitP (c j) o) (q := fun j => bitP (d j) o) (fun j hj => by rw [h j hj]), anyF_cong (p := fun j => bitP (c j) f && bitP (c j) o) (q := fun j => bitP (d j) f && bitP (d j) o) (fun j hj => by rw [h j hj])]
-- the tape
def byteV (b : Int32) (k : Nat) : Int32 := (b >>> ((8 * nI k) &&& 31)) &&& 255
def feedF (t : Nat → Int32) (d : Nat) (b : Int32) (m i : Nat) : Nat → Int32 := fun j => if d ≤ j ∧ j < d + i then byteV b (m - 1 - (j - d)) else t j
theorem feedF_0 (t : Nat → Int32) (d : Nat) (b : Int32) (m : Nat) : t = feedF t d b m 0 := funext fun j => by
  simp only [feedF]
  rw [if_neg (by omega)]
theorem feedF_s {t : Nat → Int32} {d : Nat} {b : Int32} {m i : Nat} : upd (feedF t d b m i) (d + i) (byteV b (m - 1 - i)) = feedF t d b m (i + 1) := funext fun j => by
  simp only [feedF, upd]
  split
  · rename_i h; subst h; rw [if_pos (by omega), Nat.add_sub_cancel_left]
  · split
    · rw [if_pos (by omega)]
    · rw [if_neg (by omega)]
def feedOk (d : Nat) (m : Int32) : Bool := decide (d + cl m ≤ 120)
def feedR (d : Nat) (m : Int32) : Int32 := if inI m 1 4 then (if feedOk d m then nI (d + cl m) else -1000000002) else -1000000001
def feedT (t : Nat → Int32) (d : Nat) (m : Int32) : Nat → Int32 := if inI m 1 4 then (if feedOk d m then t else bump t 1) else bump t 0
def feedP (tp : Nat → Int32) (d : Nat) (b m : Int32) : Nat → Int32 := if inI m 1 4 then (if feedOk d m then feedF tp d b (cl m) (cl m) else tp) else tp
def feedD (d : Nat) (m : Int32) : Int32 := if inI m 1 4 then (if feedOk d m then nI (d + cl m) else nI d) else nI d
-- sheets
def ShI (sO : Nat → Int32) : Prop := ∀ i, i < 4 → rng (sO i) 0 40
theorem sh_n {sO : Nat → Int32} (h : ShI sO) {i : Nat} (hi : i < 4) : sO i = nI (cl (sO i)) ∧ cl (sO i) ≤ 40 := by
  have h1 := h i hi
  obtain ⟨e1, e2⟩ := rng_nI h1 (by decide)
  unfold rng at h1
  unfold cl
  exact ⟨e1, by omega⟩
def narL (b : Int32) (v : Int64) : Int64 := if b = 8 then v.toInt32.toInt8.toInt32.toInt64 else if b = 16 then v.toInt32.toInt16.toInt32.toInt64 else v
def wrongS (bO : Nat → Int32) (i : Int32) : Int32 := if inI i 0 3 then (if bO (cl i) = 0 then -1000000006 else 0) else -1000000001
def wrT (t : Nat → Int32) (w : Int32) : Nat → Int32 := if w = 0 then t else if w = -1000000001 then bump t 0 else bump t 5
theorem wrong_c (bO : Nat → Int32) (i : Int32) : (inI i 0 3 = false ∧ wrongS bO i = -1000000001) ∨ (∃ k, k < 4 ∧ i = nI k ∧ bO k = 0 ∧ wrongS bO i = -1000000006) ∨ (∃ k, k < 4 ∧ i = nI k ∧ ¬ bO k = 0 ∧ wrongS bO i = 0) := by
  unfold wrongS
  cases h : inI i 0 3 with
  | false => exact Or.inl ⟨rfl, rfl⟩
  | true =>
    right
    obtain ⟨k, -, hk, rfl⟩ := in_nat (a := 0) (b := 3) (by decide) h (by decide)
    rw [cl_nI (by omega)]
    by_cases hb : bO k = 0
    · left; exact ⟨k, by omega, rfl, hb, by rw [if_pos rfl, if_pos hb]⟩
    · right; exact ⟨k, by omega, rfl, hb, by rw [if_pos rfl, if_neg hb]⟩
def bitsOk (b : Int32) : Bool := decide (b = 0) || decide (b = 8) || decide (b = 16) || decide (b = 64)
def shtW (i b m : Int32) : Int32 := if inI i 0 3 then (if bitsOk b then (if 0 ≤ m then (if m ≤ 40 then 0 else -1000000001) else -1000000007) else -1000000001) else -1000000001
def shtZ (b m : Int32) : Int32 := if b = 0 then 0 else m
def shtR (i b m : Int32) : Int32 := if shtW i b m = 0 then shtZ b m else shtW i b m
def shtT (t : Nat → Int32) (i b m : Int32) : Nat → Int32 := if shtW i b m = 0 then t else if shtW i b m = -1000000001 then bump t 0 else bump t 6
def zeroL (u : Nat → Int64) (k i : Nat) : Nat → Int64 := fun j => if 40 * k ≤ j ∧ j < 40 * k + i then 0 else u j
theorem zeroL_0 (u : Nat → Int64) (k : Nat) : u = zeroL u k 0 := funext fun j => by
  simp only [zeroL]
  rw [if_neg (by omega)]
theorem zeroL_s {u : Nat → Int64} {k i : Nat} : vp_updL (zeroL u k i) (40 * k + i) 0 = zeroL u k (i + 1) := funext fun j => by
  simp only [zeroL, vp_updL]
  split
  · rw [if_pos (by omega)]
  · split
    · rw [if_pos (by omega)]
    · rw [if_neg (by omega)]
def shtB (bO : Nat → Int32) (i b m : Int32) : Nat → Int32 := if shtW i b m = 0 then upd bO (cl i) b else bO
def shtS (sO : Nat → Int32) (i b m : Int32) : Nat → Int32 := if shtW i b m = 0 then upd sO (cl i) (shtZ b m) else sO
def shtU (u : Nat → Int64) (i b m : Int32) : Nat → Int64 := if shtW i b m = 0 then zeroL u (cl i) 40 else u
def wrtOk (sO : Nat → Int32) (s i : Int32) : Bool := inI i 0 (sO (cl s) - 1)
def wrtR (bO sO : Nat → Int32) (u : Nat → Int64) (s i : Int32) : Int64 := if wrongS bO s = 0 then (if wrtOk sO s i then u (40 * cl s + cl i) else -1000000001) else (wrongS bO s).toInt64
def wrtT (t bO sO : Nat → Int32) (s i : Int32) : Nat → Int32 := if wrongS bO s = 0 then (if wrtOk sO s i then t else bump t 0) else wrT t (wrongS bO s)
def wrtU (bO sO : Nat → Int32) (u : Nat → Int64) (s i : Int32) (v : Int64) : Nat → Int64 := if wrongS bO s = 0 then (if wrtOk sO s i then vp_updL u (40 * cl s + cl i) (narL (bO (cl s)) v) else u) else u
def cpW (bO sO : Nat → Int32) (s a t b m : Int32) : Int32 :=
  if inI s 0 3 && inI t 0 3 then (if bO (cl s) = 0 ∨ bO (cl t) = 0 then -1000000006 else if bO (cl s) = bO (cl t) then (if 0 ≤ a ∧ 0 ≤ b ∧ 0 ≤ m ∧ m ≤ sO (cl s) - a ∧ m ≤ sO (cl t) - b then 0 else -1000000001) else -1000000003) else -1000000001
def cpT (t0 : Nat → Int32) (w : Int32) : Nat → Int32 := if w = 0 then t0 else if w = -1000000001 then bump t0 0 else if w = -1000000003 then bump t0 2 else bump t0 5
def cpR (w m : Int32) : Int32 := if w = 0 then m else w
def movF (u x : Nat → Int64) (a i : Nat) : Nat → Int64 := fun j => if j < i then u (a + j) else x j
theorem movF_0 (u x : Nat → Int64) (a : Nat) : x = movF u x a 0 := funext fun j => by simp [movF]
theorem movF_s {u x : Nat → Int64} {a i : Nat} : vp_updL (movF u x a i) i (u (a + i)) = movF u x a (i + 1) := funext fun j => by
  simp only [movF, vp_updL]
  split
  · rename_i h; subst h; rw [if_pos (by omega)]
  · split
    · rw [if_pos (by omega)]
    · rw [if_neg (by omega)]
def cpyF (u : Nat → Int64) (a b i : Nat) : Nat → Int64 := fun j => if b ≤ j ∧ j < b + i then u (a + (j - b)) else u j
theorem cpyF_0 (u : Nat → Int64) (a b : Nat) : u = cpyF u a b 0 := funext fun j => by
  simp only [cpyF]
  rw [if_neg (by omega)]
theorem cpyF_s {u : Nat → Int64} {a b i : Nat} : vp_updL (cpyF u a b i) (b + i) (u (a + i)) = cpyF u a b (i + 1) := funext fun j => by
  simp only [cpyF, vp_updL]
  split
  · rename_i h; subst h; rw [if_pos (by omega), Nat.add_sub_cancel_left]
  · split
    · rw [if_pos (by omega)]
    · rw [if_neg (by omega)]
def cpU (u : Nat → Int64) (w s a t b m : Int32) : Nat → Int64 := if w = 0 then cpyF u (40 * cl s + cl a) (40 * cl t + cl b) (cl m) else u
def layP (u : Nat → Int64) (k j : Nat) : Bool := inL (u (40 * k + j)) 0 99
def layG (g : Nat → Int32) (u : Nat → Int64) (k : Nat) : Nat → (Nat → Int32)
  | 0 => g
  | j + 1 => if layP u k j then put9 (layG g u k j) j 3 (u (40 * k + j)).toInt32 else layG g u k j
def layM (sO : Nat → Int32) (n k : Nat) : Nat := min (cl (sO k)) n
def layR (bO sO : Nat → Int32) (u : Nat → Int64) (n : Nat) (s : Int32) : Int32 := if wrongS bO s = 0 then nI (cntF (layP u (cl s)) (layM sO n (cl s))) else wrongS bO s
def layS (g bO sO : Nat → Int32) (u : Nat → Int64) (n : Nat) (s : Int32) : Nat → Int32 := if wrongS bO s = 0 then layG g u (cl s) (layM sO n (cl s)) else g
def look (g : Nat → Int32) (f : Nat) : Int32 := 100 * its g f 2 + its g f 3
def bokV (g : Nat → Int32) (n f : Nat) (b : Int32) (i : Nat) : Int64 := narL b (look (hoursF g n i) f).toInt64
def bokU (g : Nat → Int32) (n f : Nat) (b : Int32) (u : Nat → Int64) (k i : Nat) : Nat → Int64 := fun j => if 40 * k ≤ j ∧ j < 40 * k + i then bokV g n f b (j - 40 * k) else u j
theorem bokU_0 (g : Nat → Int32) (n f : Nat) (b : Int32) (u : Nat → Int64) (k : Nat) : u = bokU g n f b u k 0 := funext fun j => by
  simp only [bokU]
  rw [if_neg (by omega)]
theorem bokU_s {g : Nat → Int32} {n f : Nat} {b : Int32} {u : Nat → Int64} {k i : Nat} : vp_updL (bokU g n f b u k i) (40 * k + i) (bokV g n f b i) = bokU g n f b u k (i + 1) := funext fun j => by
  simp only [bokU, vp_updL]
  split
  · rename_i h; subst h; rw [if_pos (by omega), Nat.add_sub_cancel_left]
  · split
    · rw [if_pos (by omega)]
    · rw [if_neg (by omega)]
def bokR (bO sO : Nat → Int32) (n : Nat) (s f : Int32) : Int32 := if wrongS bO s = 0 then (if isFig n f then sO (cl s) else -1000000001) else wrongS bO s
def bokT (t bO : Nat → Int32) (n : Nat) (s f : Int32) : Nat → Int32 := if wrongS bO s = 0 then (if isFig n f then t else bump t 0) else wrT t (wrongS bO s)
def bokN (g bO sO : Nat → Int32) (u : Nat → Int64) (n : Nat) (s f : Int32) : Nat → Int64 := if wrongS bO s = 0 then (if isFig n f then bokU g n (cl f) (bO (cl s)) u (cl s) (cl (sO (cl s))) else u) else u
def rdP (g : Nat → Int32) (n f : Nat) (u : Nat → Int64) (k j : Nat) : Bool := decide (u (40 * k + j) = (look (hoursF g n j) f).toInt64)
def allF (p : Nat → Bool) : Nat → Bool
  | 0 => true
  | m + 1 => allF p m && p m
theorem allF_t {p : Nat → Bool} : ∀ {m : Nat}, (∀ j, j < m → p j = true) → allF p m = true
  | 0, _ => rfl
  | m + 1, h => by rw [allF, allF_t (fun j hj => h j (by omega)), h m (by omega)]; rfl
theorem allF_f {p : Nat → Bool} {j : Nat} (hj : p j = false) : ∀ {m : Nat}, j < m → allF p m = false
  | 0, h => absurd h (Nat.not_lt_zero _)
  | m + 1, h => by
    rw [allF]
    rcases Nat.lt_or_ge j m with q | q
    · rw [allF_f hj q]; rfl
    · obtain rfl : j = m := by omega
      rw [hj]; simp
def rdG (g : Nat → Int32) (f i : Nat) : Nat → Int32 := put9 (put9 g f 0 (nI (i / 5))) f 5 (nI (i % 5))
def rdQ (g : Nat → Int32) (n f : Nat) (u : Nat → Int64) (k z i : Nat) : Bool := allF (rdP (rdG g f i) n f u k) z
def rdR (g bO sO : Nat → Int32) (u : Nat → Int64) (n : Nat) (s f : Int32) : Int32 := if wrongS bO s = 0 then (if isFig n f then nI (cntF (rdQ g n (cl f) u (cl s) (cl (sO (cl s)))) 30) else -1000000001) else wrongS bO s
theorem Inv_rd {g : Nat → Int32} {n f i : Nat} (hI : Inv g n) (hi : i < 30) : Inv (rdG g f i) n := by
  refine Inv_pv (f := f) (w := 5) (v := i % 5) (b := 4) ?_ (by omega) (by omega)
  exact Inv_pv (f := f) (w := 0) (v := i / 5) (b := 5) hI (by omega) (by omega)
theorem sr1_t {P : Nat → Nat → Bool} {n f j : Nat} {fo : Int32} (h : P f (n - (j + 1)) = true) : 10 * nI f + nI (n - (j + 1)) = sr1 P n f fo (j + 1) := by
  rw [sr1, if_pos h]
  show nI 10 * nI f + _ = _
  rw [pk_mul, nI_add]
theorem sr1_f {P : Nat → Nat → Bool} {n f j : Nat} {fo : Int32} (h : P f (n - (j + 1)) = false) : sr1 P n f fo j = sr1 P n f fo (j + 1) := by
  rw [sr1, h]
  rfl
theorem sr2_s {P : Nat → Nat → Bool} {n j : Nat} : sr1 P n (n - (j + 1)) (sr2 P n j) j = sr2 P n (j + 1) := by
  rw [sr2]
theorem dn_le {n i j : Nat} (hn : n ≤ 8) (hi : i < n) (hj : j ≤ i) (h : nI n - nI (j + 1) ≤ nI n - nI (i + 1)) : j = i := by
  rw [le_I, pk_sub_toInt (by omega) (by omega), pk_sub_toInt (by omega) (by omega)] at h
  omega
theorem dn_nle {n i j : Nat} (hn : n ≤ 8) (hi : i < n) (hj : j ≤ i) (h : ¬ nI n - nI (j + 1) ≤ nI n - nI (i + 1)) : j < i := by
  rw [le_I, pk_sub_toInt (by omega) (by omega), pk_sub_toInt (by omega) (by omega)] at h
  omega
theorem Inv_lay {g : Nat → Int32} {n : Nat} {u : Nat → Int64} {k : Nat} (hI : Inv g n) : ∀ j, Inv (layG g u k j) n
  | 0 => hI
  | j + 1 => by
    rw [layG]
    have ih := Inv_lay (u := u) (k := k) hI j
    split
    · rename_i h
      refine Inv_put (w := 3) ih (by omega) (fun _ => ?_)
      unfold layP inL at h
      have h := of_decide_eq_true h
      rw [Int64.le_iff_toInt_le, Int64.le_iff_toInt_le] at h
      have e0 : (0 : Int64).toInt = 0 := by decide
      have e9 : (99 : Int64).toInt = 99 := by decide
      have e : (u (40 * k + j)).toInt32.toInt = (u (40 * k + j)).toInt := by
        rw [Int64.toInt_toInt32]
        exact Int.bmod_eq_of_le (by omega) (by omega)
      unfold rng
      rw [e]
      refine ⟨?_, ?_, ?_, ?_, ?_, ?_, ?_, ?_, ?_⟩ <;> omega
    · exact ih
theorem ca_s {ca G : Nat → Int32} {i : Nat} {v : Int32} (h : ∀ j, j < i → ca j = G j) (hv : v = G i) : ∀ j, j < i + 1 → upd ca i v j = G j := fun j hj => by
  unfold upd
  split
  · rename_i e; rw [e, hv]
  · exact h j (by omega)
theorem nI_40 (j i : Nat) : 40 * nI j + nI i = nI (40 * j + i) := by
  show nI 40 * nI j + nI i = _
  rw [pk_mul, nI_add]
theorem shi_in {sO : Nat → Int32} {j : Nat} {i : Int32} (h : ShI sO) (hj : j < 4) (c : inI i 0 (sO j - 1) = true) : ∃ q, q < 40 ∧ i = nI q := by
  obtain ⟨hz, h40⟩ := sh_n h hj
  unfold inI at c
  have c := of_decide_eq_true c
  have h0 : (0 : Int32).toInt = 0 := by decide
  have h1 : (1 : Int32).toInt = 1 := by decide
  have hn : (nI (cl (sO j))).toInt = cl (sO j) := nI_toInt (by omega)
  rw [hz, le_I, le_I, sub_I (by rw [hn, h1]; omega) (by rw [hn, h1]; omega), hn, h1, h0] at c
  obtain ⟨e1, e2⟩ := nI_of1 c.1
  exact ⟨_, by omega, e1⟩
theorem nI_403 (j a i : Nat) : 40 * nI j + nI a + nI i = nI (40 * j + a + i) := by
  rw [nI_40, nI_add]
theorem cp_in {sO : Nat → Int32} {x y : Nat} {a b k : Int32} (h : ShI sO) (hx : x < 4) (hy : y < 4) (h1 : 0 ≤ a) (h2 : 0 ≤ b) (h3 : 0 ≤ k) (h4 : k ≤ sO x - a) (h5 : k ≤ sO y - b) : ∃ a0 b0 k0 : Nat, a = nI a0 ∧ b = nI b0 ∧ k = nI k0 ∧ a0 + k0 ≤ 40 ∧ b0 + k0 ≤ 40 := by
  have g1 := h x hx
  have g2 := h y hy
  have e0 : (0 : Int32).toInt = 0 := by decide
  rw [le_I, e0] at h1 h2 h3
  obtain ⟨a1, a2⟩ := nI_of1 h1
  obtain ⟨b1, b2⟩ := nI_of1 h2
  obtain ⟨k1, k2⟩ := nI_of1 h3
  have ra := a.toInt_lt
  have rb := b.toInt_lt
  unfold rng at g1 g2
  rw [le_I, sub_I (by omega) (by omega)] at h4 h5
  exact ⟨_, _, _, a1, b1, k1, by omega, by omega⟩
