/-! ===== how many bits: Integer.bitCount ===== -/
theorem ands {p q m M : Nat} (hp : p < 256) (hm : m < 256) : (p + 256 * q) &&& (m + 256 * M) = (p &&& m) + 256 * (q &&& M) := by
  have h1 : ((p + 256 * q) &&& (m + 256 * M)) % 2 ^ 8 = ((p + 256 * q) % 2 ^ 8) &&& ((m + 256 * M) % 2 ^ 8) := Nat.and_mod_two_pow
  have h2 : ((p + 256 * q) &&& (m + 256 * M)) / 2 ^ 8 = ((p + 256 * q) / 2 ^ 8) &&& ((m + 256 * M) / 2 ^ 8) := Nat.and_div_two_pow
  have e1 : (p + 256 * q) % 2 ^ 8 = p := by omega
  have e2 : (m + 256 * M) % 2 ^ 8 = m := by omega
  have e3 : (p + 256 * q) / 2 ^ 8 = q := by omega
  have e4 : (m + 256 * M) / 2 ^ 8 = M := by omega
  rw [e1, e2] at h1
  rw [e3, e4] at h2
  omega
theorem and4 {a b c d m : Nat} (ha : a < 256) (hb : b < 256) (hc : c < 256) (hm : m < 256) : (a + 256 * b + 65536 * c + 16777216 * d) &&& (m + 256 * m + 65536 * m + 16777216 * m) = (a &&& m) + 256 * (b &&& m) + 65536 * (c &&& m) + 16777216 * (d &&& m) := by
  have e1 : a + 256 * b + 65536 * c + 16777216 * d = a + 256 * (b + 256 * (c + 256 * d)) := by omega
  have e2 : m + 256 * m + 65536 * m + 16777216 * m = m + 256 * (m + 256 * (m + 256 * m)) := by omega
  rw [e1, e2, ands ha hm, ands hb hm, ands hc hm]
  omega
def g1B (a : Nat) : Nat := a - (a / 2 &&& 85)
def g2B (a : Nat) : Nat := (a &&& 51) + (a / 4 &&& 51)
def pB (a : Nat) : Nat := (g2B (g1B a) + g2B (g1B a) / 16) &&& 15
def pop8 (a : Nat) : Nat := a % 2 + a / 2 % 2 + a / 4 % 2 + a / 8 % 2 + a / 16 % 2 + a / 32 % 2 + a / 64 % 2 + a / 128 % 2
theorem pB_8 : ∀ a, a < 256 → pB a = pop8 a ∧ g1B a < 256 ∧ g2B (g1B a) ≤ 68 ∧ g2B (g1B a) % 16 ≤ 4 := by decide +kernel
theorem m55 : ∀ a, a < 128 → ∀ k, k < 2 → (a + 128 * k) &&& 85 = a &&& 85 := by decide +kernel
theorem m33 : ∀ a, a < 64 → ∀ k, k < 4 → (a + 64 * k) &&& 51 = a &&& 51 := by decide +kernel
theorem m0f : ∀ a, a < 73 → ∀ k, k < 5 → (a + 16 * k) &&& 15 = a &&& 15 := by decide +kernel
theorem n1B {a b c d : Nat} (ha : a < 256) (hb : b < 256) (hc : c < 256) (hd : d < 256) : (a + 256 * b + 65536 * c + 16777216 * d) / 2 &&& 1431655765 = (a / 2 &&& 85) + 256 * (b / 2 &&& 85) + 65536 * (c / 2 &&& 85) + 16777216 * (d / 2 &&& 85) := by
  have e : (a + 256 * b + 65536 * c + 16777216 * d) / 2 = (a / 2 + 128 * (b % 2)) + 256 * (b / 2 + 128 * (c % 2)) + 65536 * (c / 2 + 128 * (d % 2)) + 16777216 * (d / 2) := by omega
  have em : (1431655765 : Nat) = 85 + 256 * 85 + 65536 * 85 + 16777216 * 85 := by decide
  rw [e, em, and4 (by omega) (by omega) (by omega) (by decide), m55 _ (by omega) _ (by omega), m55 _ (by omega) _ (by omega), m55 _ (by omega) _ (by omega)]
theorem n2B {a b c d : Nat} (ha : a < 256) (hb : b < 256) (hc : c < 256) (hd : d < 256) : ((a + 256 * b + 65536 * c + 16777216 * d) &&& 858993459) + ((a + 256 * b + 65536 * c + 16777216 * d) / 4 &&& 858993459) = g2B a + 256 * g2B b + 65536 * g2B c + 16777216 * g2B d := by
  have e : (a + 256 * b + 65536 * c + 16777216 * d) / 4 = (a / 4 + 64 * (b % 4)) + 256 * (b / 4 + 64 * (c % 4)) + 65536 * (c / 4 + 64 * (d % 4)) + 16777216 * (d / 4) := by omega
  have em : (858993459 : Nat) = 51 + 256 * 51 + 65536 * 51 + 16777216 * 51 := by decide
  rw [e, em, and4 ha hb hc (by decide), and4 (by omega) (by omega) (by omega) (by decide), m33 _ (by omega) _ (by omega), m33 _ (by omega) _ (by omega), m33 _ (by omega) _ (by omega)]
  unfold g2B
  omega
theorem n3B {a b c d : Nat} (ha : a ≤ 68) (hb : b ≤ 68 ∧ b % 16 ≤ 4) (hc : c ≤ 68 ∧ c % 16 ≤ 4) (hd : d ≤ 68 ∧ d % 16 ≤ 4) : ((a + 256 * b + 65536 * c + 16777216 * d) + (a + 256 * b + 65536 * c + 16777216 * d) / 16) &&& 252645135 = ((a + a / 16) &&& 15) + 256 * ((b + b / 16) &&& 15) + 65536 * ((c + c / 16) &&& 15) + 16777216 * ((d + d / 16) &&& 15) := by
  have e : (a + 256 * b + 65536 * c + 16777216 * d) + (a + 256 * b + 65536 * c + 16777216 * d) / 16 = (a + a / 16 + 16 * (b % 16)) + 256 * (b + b / 16 + 16 * (c % 16)) + 65536 * (c + c / 16 + 16 * (d % 16)) + 16777216 * (d + d / 16) := by omega
  have em : (252645135 : Nat) = 15 + 256 * 15 + 65536 * 15 + 16777216 * 15 := by decide
  rw [e, em, and4 (by omega) (by omega) (by omega) (by decide), m0f _ (by omega) _ (by omega), m0f _ (by omega) _ (by omega), m0f _ (by omega) _ (by omega)]
theorem n4B {p q r s : Nat} (hp : p ≤ 8) (hq : q ≤ 8) (hr : r ≤ 8) (hs : s ≤ 8) : ((p + 256 * q + 65536 * r + 16777216 * s) + (p + 256 * q + 65536 * r + 16777216 * s) / 256) % 2 ^ 32 = (p + q) + 256 * (q + r) + 65536 * (r + s) + 16777216 * s := by
  have e : (p + 256 * q + 65536 * r + 16777216 * s) / 256 = q + 256 * r + 65536 * s := by omega
  rw [e, Nat.mod_eq_of_lt (by omega)]
  omega
theorem n5B {p q r s : Nat} (hp : p ≤ 8) (hq : q ≤ 8) (hr : r ≤ 8) (hs : s ≤ 8) : (((p + q) + 256 * (q + r) + 65536 * (r + s) + 16777216 * s) + ((p + q) + 256 * (q + r) + 65536 * (r + s) + 16777216 * s) / 65536) % 2 ^ 32 = (p + q + r + s) + 256 * (q + r + s) + 65536 * (r + s) + 16777216 * s := by
  have e : ((p + q) + 256 * (q + r) + 65536 * (r + s) + 16777216 * s) / 65536 = (r + s) + 256 * s := by omega
  rw [e, Nat.mod_eq_of_lt (by omega)]
  omega
theorem n6B {p q r s : Nat} (hp : p ≤ 8) (hq : q ≤ 8) (hr : r ≤ 8) (hs : s ≤ 8) : ((p + q + r + s) + 256 * (q + r + s) + 65536 * (r + s) + 16777216 * s) % 2 ^ 6 = p + q + r + s := by
  omega
def popN (X : Nat) : Nat := pop8 (X % 256) + pop8 (X / 256 % 256) + pop8 (X / 65536 % 256) + pop8 (X / 16777216)
theorem sr32 {x : Int32} {k : Nat} (c : UInt32) (hc : (c.toBitVec % 32).toNat = k) : (x.toUInt32 >>> c).toInt32.toBitVec.toNat = x.toBitVec.toNat / 2 ^ k := by
  show (x.toUInt32 >>> c).toBitVec.toNat = _
  rw [UInt32.toBitVec_shiftRight]
  show (x.toBitVec >>> (c.toBitVec % 32)).toNat = _
  rw [BitVec.ushiftRight_eq', BitVec.toNat_ushiftRight, hc, Nat.shiftRight_eq_div_pow]
theorem bcV_pop (x : Int32) : (bcV x).toBitVec.toNat = popN x.toBitVec.toNat ∧ popN x.toBitVec.toNat ≤ 32 := by
  have lX := x.toBitVec.isLt
  generalize hX : x.toBitVec.toNat = X at *
  have ha : X % 256 < 256 := by omega
  have hb : X / 256 % 256 < 256 := by omega
  have hc : X / 65536 % 256 < 256 := by omega
  have hd : X / 16777216 < 256 := by omega
  have eX : X = X % 256 + 256 * (X / 256 % 256) + 65536 * (X / 65536 % 256) + 16777216 * (X / 16777216) := by omega
  unfold popN
  generalize X % 256 = a at *
  generalize X / 256 % 256 = b at *
  generalize X / 65536 % 256 = c at *
  generalize X / 16777216 = d at *
  have pa := pB_8 a ha
  have pb := pB_8 b hb
  have pc := pB_8 c hc
  have pd := pB_8 d hd
  have p8 : ∀ z, pop8 z ≤ 8 := fun z => by unfold pop8; omega
  have qa := p8 a
  have qb := p8 b
  have qc := p8 c
  have qd := p8 d
  refine ⟨?_, by omega⟩
  -- step 1
  have t1 : (bc1 x).toBitVec.toNat = g1B a + 256 * g1B b + 65536 * g1B c + 16777216 * g1B d := by
    unfold bc1
    have y : ((x.toUInt32 >>> ((1 : Int32).toUInt32 &&& Int32.toUInt32 31)).toInt32 &&& 1431655765).toBitVec.toNat = (a / 2 &&& 85) + 256 * (b / 2 &&& 85) + 65536 * (c / 2 &&& 85) + 16777216 * (d / 2 &&& 85) := by
      rw [Int32.toBitVec_and, BitVec.toNat_and, sr32 (k := 1) _ (by decide), hX, show (1431655765 : Int32).toBitVec.toNat = 1431655765 by decide, show X / 2 ^ 1 = X / 2 by rfl, eX]
      exact n1B ha hb hc hd
    have l1 : ∀ z, (z / 2 &&& 85) ≤ z := fun z => Nat.le_trans Nat.and_le_left (Nat.div_le_self _ _)
    have la := l1 a
    have lb := l1 b
    have lc := l1 c
    have ld := l1 d
    rw [Int32.toBitVec_sub, BitVec.toNat_sub, y, hX, eX]
    unfold g1B
    omega
  have t2 : (bc2 (bc1 x)).toBitVec.toNat = g2B (g1B a) + 256 * g2B (g1B b) + 65536 * g2B (g1B c) + 16777216 * g2B (g1B d) := by
    unfold bc2
    have q := n2B pa.2.1 pb.2.1 pc.2.1 pd.2.1
    rw [Int32.toBitVec_add, BitVec.toNat_add, Int32.toBitVec_and, BitVec.toNat_and, Int32.toBitVec_and, BitVec.toNat_and, sr32 (k := 2) _ (by decide), t1, show (858993459 : Int32).toBitVec.toNat = 858993459 by decide, show (2 : Nat) ^ 2 = 4 by decide, q]
    omega
  have t3 : (bc3 (bc2 (bc1 x))).toBitVec.toNat = pop8 a + 256 * pop8 b + 65536 * pop8 c + 16777216 * pop8 d := by
    unfold bc3
    have q := n3B pa.2.2.1 pb.2.2 pc.2.2 pd.2.2
    have l := pd.2.2.1
    have l2 := pc.2.2.1
    have l3 := pb.2.2.1
    have l4 := pa.2.2.1
    rw [Int32.toBitVec_and, BitVec.toNat_and, Int32.toBitVec_add, BitVec.toNat_add, sr32 (k := 4) _ (by decide), t2, show (252645135 : Int32).toBitVec.toNat = 252645135 by decide, show (2 : Nat) ^ 4 = 16 by decide, Nat.mod_eq_of_lt (by omega), q]
    rw [← pa.1, ← pb.1, ← pc.1, ← pd.1]
    rfl
  have t4 : (bc4 (bc3 (bc2 (bc1 x)))).toBitVec.toNat = (pop8 a + pop8 b) + 256 * (pop8 b + pop8 c) + 65536 * (pop8 c + pop8 d) + 16777216 * pop8 d := by
    unfold bc4
    rw [Int32.toBitVec_add, BitVec.toNat_add, sr32 (k := 8) _ (by decide), t3, show (2 : Nat) ^ 8 = 256 by decide]
    exact n4B qa qb qc qd
  have t5 : (bc5 (bc4 (bc3 (bc2 (bc1 x))))).toBitVec.toNat = (pop8 a + pop8 b + pop8 c + pop8 d) + 256 * (pop8 b + pop8 c + pop8 d) + 65536 * (pop8 c + pop8 d) + 16777216 * pop8 d := by
    unfold bc5
    rw [Int32.toBitVec_add, BitVec.toNat_add, sr32 (k := 16) _ (by decide), t4, show (2 : Nat) ^ 16 = 65536 by decide]
    exact n5B qa qb qc qd
  unfold bcV
  rw [Int32.toBitVec_and, BitVec.toNat_and, t5, show (63 : Int32).toBitVec.toNat = 2 ^ 6 - 1 by decide, Nat.and_two_pow_sub_one_eq_mod]
  exact n6B qa qb qc qd
def smB (X : Nat) : Nat → Nat
  | 0 => 0
  | n + 1 => smB X n + X / 2 ^ n % 2
theorem cnt_sm (x : Int32) : ∀ n, n ≤ 32 → cnt x n = smB x.toBitVec.toNat n
  | 0, _ => rfl
  | n + 1, h => by
    rw [cnt, smB, cnt_sm x n (by omega)]
    have e : tb x n = decide (x.toBitVec.toNat / 2 ^ n % 2 = 1) := by
      unfold tb
      rw [BitVec.getLsbD, Nat.testBit_eq_decide_div_mod_eq]
    rw [e]
    have l : x.toBitVec.toNat / 2 ^ n % 2 < 2 := Nat.mod_lt _ (by decide)
    generalize x.toBitVec.toNat / 2 ^ n % 2 = z at *
    by_cases c : z = 1
    · rw [c]; simp
    · have : z = 0 := by omega
      rw [this]; simp
theorem smB_e (X : Nat) : smB X 8 = 0 + X / 2 ^ 0 % 2 + X / 2 ^ 1 % 2 + X / 2 ^ 2 % 2 + X / 2 ^ 3 % 2 + X / 2 ^ 4 % 2 + X / 2 ^ 5 % 2 + X / 2 ^ 6 % 2 + X / 2 ^ 7 % 2 := rfl
theorem smB_m (X : Nat) : smB X 8 = pop8 (X % 256) := by
  have e0 : X / 2 ^ 0 % 2 = X % 256 % 2 := by omega
  have e1 : X / 2 ^ 1 % 2 = X % 256 / 2 % 2 := by omega
  have e2 : X / 2 ^ 2 % 2 = X % 256 / 4 % 2 := by omega
  have e3 : X / 2 ^ 3 % 2 = X % 256 / 8 % 2 := by omega
  have e4 : X / 2 ^ 4 % 2 = X % 256 / 16 % 2 := by omega
  have e5 : X / 2 ^ 5 % 2 = X % 256 / 32 % 2 := by omega
  have e6 : X / 2 ^ 6 % 2 = X % 256 / 64 % 2 := by omega
  have e7 : X / 2 ^ 7 % 2 = X % 256 / 128 % 2 := by omega
  rw [smB_e, e0, e1, e2, e3, e4, e5, e6, e7, Nat.zero_add]
  rfl
theorem smB_8 (X n : Nat) : smB X (8 + n) = pop8 (X % 256) + smB (X / 256) n := by
  induction n with
  | zero => exact smB_m X
  | succ n ih =>
    have e : smB X (8 + (n + 1)) = smB X (8 + n) + X / 2 ^ (8 + n) % 2 := rfl
    have e2 : smB (X / 256) (n + 1) = smB (X / 256) n + X / 256 / 2 ^ n % 2 := rfl
    have e3 : X / 2 ^ (8 + n) = X / 256 / 2 ^ n := by rw [Nat.pow_add, Nat.div_div_eq_div_mul]
    rw [e, e2, ih, e3, Nat.add_assoc]
theorem cnt_pop (x : Int32) : cnt x 32 = popN x.toBitVec.toNat := by
  have l := x.toBitVec.isLt
  rw [cnt_sm x 32 (Nat.le_refl _)]
  generalize x.toBitVec.toNat = X at *
  rw [show 32 = 8 + (8 + (8 + (8 + 0))) by rfl, smB_8, smB_8, smB_8, smB_8]
  unfold popN
  rw [smB, Nat.div_div_eq_div_mul, Nat.div_div_eq_div_mul]
  have e1 : X / (256 * 256) % 256 = X / 65536 % 256 := by rfl
  have e2 : X / (256 * 256 * 256) % 256 = X / 16777216 := by
    show X / 16777216 % 256 = _
    omega
  rw [e1, e2]
  omega
/-- the count, as the class asks for it -/
theorem bcV_cnt (x : Int32) : bcV x = Int32.ofNat (cnt x 32) ∧ cnt x 32 ≤ 32 := by
  have p := bcV_pop x
  rw [← cnt_pop] at p
  refine ⟨?_, p.2⟩
  apply Int32.toBitVec_inj.mp
  apply BitVec.eq_of_toNat_eq
  rw [p.1]
  exact ((show ∀ n, n < 33 → (Int32.ofNat n).toBitVec.toNat = n from by decide +kernel) _ (by omega)).symm
theorem cnt_hi {x : Int32} {n : Nat} : ∀ k, n ≤ k → k ≤ 32 → (∀ i, n ≤ i → i < 32 → tb x i = false) → cnt x k = cnt x n
  | 0, h, _, _ => by rw [Nat.le_zero.mp h]
  | k + 1, h, h2, hz => by
    by_cases e : n = k + 1
    · rw [e]
    · rw [cnt, hz k (by omega) (by omega), cnt_hi k (by omega) (by omega) hz]
      rfl
