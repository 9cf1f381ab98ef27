def bt (x : Int32) (i : Nat) : Bool := x.toBitVec.getLsbD i
theorem b_ext {x y : Int32} (h : ∀ i, i < 32 → bt x i = bt y i) : x = y := Int32.toBitVec_inj.mp (BitVec.eq_of_getLsbD_eq (fun i hi => h i hi))
theorem b_or (x y : Int32) (i : Nat) : bt (x ||| y) i = (bt x i || bt y i) := by unfold bt; rw [Int32.toBitVec_or, BitVec.getLsbD_or]
theorem b_and (x y : Int32) (i : Nat) : bt (x &&& y) i = (bt x i && bt y i) := by unfold bt; rw [Int32.toBitVec_and, BitVec.getLsbD_and]
theorem s_l : ∀ n, n < 32 → ((nI n &&& 31).toBitVec.smod 32).toNat = n := by decide +kernel
theorem s_u : ∀ n, n < 32 → (((nI n).toUInt32 &&& Int32.toUInt32 31).toBitVec % 32).toNat = n := by decide +kernel
theorem b_big {x : Int32} {i : Nat} (h : 32 ≤ i) : bt x i = false := BitVec.getLsbD_of_ge _ _ h
theorem b_255 (i : Nat) : bt 255 i = decide (i < 8) := by
  rcases Nat.lt_or_ge i 32 with h | h
  · exact (by decide +kernel : ∀ i, i < 32 → bt 255 i = decide (i < 8)) i h
  · rw [b_big h, decide_eq_false (by omega)]
theorem b_sshr (n : Nat) (hn : n < 32) (x : Int32) {i : Nat} (hi : i < 32) : bt (x >>> (nI n &&& 31)) i = if n + i < 32 then bt x (n + i) else bt x 31 := by
  unfold bt
  rw [Int32.toBitVec_shiftRight]
  show (x.toBitVec.sshiftRight ((nI n &&& 31).toBitVec.smod 32).toNat).getLsbD i = _
  rw [s_l n hn, BitVec.getLsbD_sshiftRight, BitVec.msb_eq_getLsbD_last]
  simp [hi]
theorem b_ushr (n : Nat) (hn : n < 32) (x : Int32) (i : Nat) : bt ((x.toUInt32 >>> ((nI n).toUInt32 &&& Int32.toUInt32 31)).toInt32) i = bt x (n + i) := by
  show (x.toUInt32 >>> ((nI n).toUInt32 &&& Int32.toUInt32 31)).toBitVec.getLsbD i = x.toUInt32.toBitVec.getLsbD (n + i)
  rw [UInt32.toBitVec_shiftRight]
  show (x.toUInt32.toBitVec >>> (((nI n).toUInt32 &&& Int32.toUInt32 31).toBitVec % 32).toNat).getLsbD i = _
  rw [s_u n hn, BitVec.getLsbD_ushiftRight]
theorem bitP_bt (x : Int32) {f : Nat} (hf : f < 32) : bitP x f = bt x f := by
  have h := b_sshr f hf x (i := 0) (by decide)
  rw [if_pos (by omega), Nat.add_zero] at h
  rw [← h]
  unfold bitP bt
  generalize x >>> (nI f &&& 31) = y
  rw [pk_and y 1 (m := 1) (by decide)]
  show _ = y.toBitVec.toNat.testBit 0
  rw [Nat.testBit_zero]
  refine decide_eq_decide.mpr ?_
  have : y.toBitVec.toNat % 2 ^ 1 = 0 ∨ y.toBitVec.toNat % 2 ^ 1 = 1 := by omega
  rcases this with q | q
  · rw [q]
    constructor
    · intro z; exact absurd z (by decide)
    · intro z; omega
  · rw [q]
    constructor
    · intro z; omega
    · intro z; rfl
theorem bitP_or (x y : Int32) {f : Nat} (hf : f < 32) : bitP (x ||| y) f = (bitP x f || bitP y f) := by
  rw [bitP_bt _ hf, bitP_bt _ hf, bitP_bt _ hf, b_or]
theorem bitP_0 (f : Nat) (hf : f < 32) : bitP 0 f = false := by
  rw [bitP_bt _ hf]
  unfold bt
  simp
theorem bit01 (x : Int32) {f : Nat} (hf : f < 32) : ((x >>> (nI f &&& 31)) &&& 1 = 0) ↔ bitP x f = false := by
  unfold bitP
  generalize x >>> (nI f &&& 31) = y
  rw [pk_and y 1 (m := 1) (by decide), decide_eq_false_iff_not]
  have : y.toBitVec.toNat % 2 ^ 1 = 0 ∨ y.toBitVec.toNat % 2 ^ 1 = 1 := by omega
  rcases this with q | q <;> rw [q] <;> decide
/-- with whom one was ever content, as the class gathers it -/
def cwF (c : Nat → Int32) (a : Nat) : Nat → Int32
  | 0 => 0
  | j + 1 => cwF c a j ||| (if bitP (c j) a then c j else 0)
theorem cw_bit (c : Nat → Int32) {a b : Nat} (hb : b < 32) : ∀ k, bitP (cwF c a k) b = anyF (fun j => bitP (c j) a && bitP (c j) b) k
  | 0 => bitP_0 b hb
  | k + 1 => by
    rw [cwF, anyF, bitP_or _ _ hb, cw_bit c hb k]
    cases h : bitP (c k) a with
    | true => simp
    | false => simp [bitP_0 b hb]
theorem cw_z (c : Nat → Int32) {a : Nat} (ha : a < 32) (k : Nat) : (cwF c a k = 0) ↔ anyF (fun j => bitP (c j) a) k = false := by
  constructor
  · intro h
    have h1 := cw_bit c (a := a) ha k
    rw [h, bitP_0 a ha] at h1
    rw [anyF_cong (p := fun j => bitP (c j) a) (q := fun j => bitP (c j) a && bitP (c j) a) (fun j _ => (Bool.and_self _).symm)]
    exact h1.symm
  · induction k with
    | zero => intro _; rfl
    | succ k ih =>
      intro h
      rw [anyF, Bool.or_eq_false_iff] at h
      rw [cwF, ih h.1, h.2]
      simp
theorem cw_clash (c : Nat → Int32) {a b : Nat} (ha : a < 32) (hb : b < 32) (k : Nat) : (!decide (cwF c a k = 0) && !decide (cwF c b k = 0) && !bitP (cwF c a k) b) = clB c k a b := by
  unfold clB
  rw [cw_bit c hb k]
  have e : ∀ x, x < 32 → (!decide (cwF c x k = 0)) = anyF (fun j => bitP (c j) x) k := fun x hx => by
    cases h : anyF (fun j => bitP (c j) x) k with
    | false => rw [decide_eq_true ((cw_z c hx k).mpr h)]; rfl
    | true => rw [decide_eq_false (fun z => by rw [(cw_z c hx k).mp z] at h; cases h)]; rfl
  rw [e a ha, e b hb]
theorem byte_u (b : Int32) {k : Nat} (hk : k < 4) : ((b.toUInt32 >>> (Int32.toUInt32 (8 * nI k) &&& Int32.toUInt32 31)).toInt32 &&& 255) = byteV b k := by
  unfold byteV
  have e8 : (8 : Int32) * nI k = nI (8 * k) := pk_mul 8 k
  rw [e8]
  refine b_ext (fun i hi => ?_)
  rw [b_and, b_and, b_255]
  by_cases q : i < 8
  · have h1 := b_ushr (8 * k) (by omega) b i
    have h2 := b_sshr (8 * k) (by omega) b hi
    rw [if_pos (by omega)] at h2
    rw [h2]
    rw [show Int32.toUInt32 (nI (8 * k)) = (nI (8 * k)).toUInt32 from rfl, h1]
  · rw [decide_eq_false q, Bool.and_false, Bool.and_false]
