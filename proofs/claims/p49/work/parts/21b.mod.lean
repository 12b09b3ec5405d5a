/-! ===== remainders, bits ===== -/
theorem rmJ_toInt {x : Int64} {n : Int32} (hn : 0 < n.toInt) : (x - x / n.toInt64 * n.toInt64).toInt = x.toInt.tmod n.toInt := by
  rw [Int64.toInt_sub, Int64.toInt_mul, Int64.toInt_div, Int32.toInt_toInt64]
  have e := Int.mul_tdiv_add_tmod x.toInt n.toInt
  have h1 := Int.tmod_lt_of_pos x.toInt hn
  have h2 := Int.lt_tmod_of_pos x.toInt hn
  have h3 := Int32.toInt_lt n
  have : x.toInt - x.toInt.tdiv n.toInt * n.toInt = x.toInt.tmod n.toInt := by
    rw [Int.mul_comm (x.toInt.tdiv n.toInt)]; omega
  rw [← this] at h1 h2 ⊢
  simp
  exact Int.bmod_eq_of_le (by omega) (by omega)
theorem dAt_toInt {n : Int32} {x : Int64} (hn : 0 < n.toInt) : (dAt n x).toInt = x.toInt % n.toInt := by
  have h1 := Int.tmod_lt_of_pos x.toInt hn
  have h2 := Int.lt_tmod_of_pos x.toInt hn
  have h3 := Int32.toInt_lt n
  have e := Int.mul_tdiv_add_tmod x.toInt n.toInt
  have r := rmJ_toInt (x := x) hn
  have u1 : ∀ d q : Int, x.toInt = d + n.toInt * q → 0 ≤ d → d < n.toInt → d = x.toInt % n.toInt := by
    intro d q h a b
    rw [h, Int.add_mul_emod_self_left, Int.emod_eq_of_lt a b]
  have z64 : (0 : Int64).toInt = 0 := by decide
  unfold dAt
  generalize x - x / n.toInt64 * n.toInt64 = y at r
  by_cases c : 0 ≤ lg_cmp y 0
  · rw [if_pos c]
    have hy : 0 ≤ y.toInt := by
      unfold lg_cmp at c
      split at c
      · rename_i g; have := Int64.lt_iff_toInt_lt.mp g; omega
      · split at c
        · rename_i g; rw [g]; decide
        · exact absurd c (by decide)
    rw [Int64.toInt_toInt32, Int.bmod_eq_of_le (by omega) (by omega), r]
    exact u1 _ (x.toInt.tdiv n.toInt) (by omega) (by omega) h1
  · rw [if_neg c]
    have hy : y.toInt < 0 := by
      unfold lg_cmp at c
      split at c
      · exact absurd (by decide) c
      · rename_i g
        split at c
        · exact absurd (by decide) c
        · rename_i g2
          have a1 : ¬ (0 : Int64).toInt < y.toInt := fun z => g (Int64.lt_iff_toInt_lt.mpr z)
          have a2 : ¬ y.toInt = (0 : Int64).toInt := fun z => g2 (Int64.toInt_inj.mp z)
          omega
    rw [Int64.toInt_toInt32, Int64.toInt_add, Int32.toInt_toInt64]
    have b1 : (y.toInt + n.toInt).bmod (2 ^ 64) = y.toInt + n.toInt := Int.bmod_eq_of_le (by omega) (by omega)
    rw [b1, Int.bmod_eq_of_le (by omega) (by omega), r]
    exact u1 _ (x.toInt.tdiv n.toInt - 1) (by rw [Int.mul_sub]; omega) (by omega) (by omega)
theorem dAt_rg {n : Int32} {x : Int64} (h0 : 10 ≤ n) (h1 : n ≤ 30) : 0 ≤ dAt n x ∧ dAt n x < n := by
  have a := Int32.le_iff_toInt_le.mp h0
  have d10 : (10 : Int32).toInt = 10 := by decide
  have hn : 0 < n.toInt := by omega
  have e := dAt_toInt (x := x) hn
  have z : (0 : Int32).toInt = 0 := by decide
  exact ⟨Int32.le_iff_toInt_le.mpr (by rw [e, z]; exact Int.emod_nonneg _ (by omega)), Int32.lt_iff_toInt_lt.mpr (by rw [e]; exact Int.emod_lt_of_pos _ hn)⟩
theorem dAt_up {n x : Int32} (h0 : 10 ≤ n) (h1 : n ≤ 30) (x0 : 0 ≤ x) (x1 : x < n) : (dAt n (x + 1).toInt64).toInt = (x.toInt + 1) % n.toInt := by
  have a := Int32.le_iff_toInt_le.mp h0
  have d10 : (10 : Int32).toInt = 10 := by decide
  rw [dAt_toInt (by omega), Int32.toInt_toInt64, i32_succ (b := n) (Int32.not_le.mpr x1)]
theorem dAt_dn {n x : Int32} (h0 : 10 ≤ n) (h1 : n ≤ 30) (x0 : 0 ≤ x) (x1 : x < n) : (dAt n (x + (-1)).toInt64).toInt = (x.toInt - 1) % n.toInt := by
  have a := Int32.le_iff_toInt_le.mp h0
  have b := Int32.le_iff_toInt_le.mp x0
  have c := Int32.toInt_lt x
  have d10 : (10 : Int32).toInt = 10 := by decide
  have d0 : (0 : Int32).toInt = 0 := by decide
  have d1 : (-1 : Int32).toInt = -1 := by decide
  rw [dAt_toInt (by omega), Int32.toInt_toInt64, Int32.toInt_add, d1, Int.bmod_eq_of_le (by omega) (by omega)]
  rfl
theorem dAt_up2 {n x : Int32} (h0 : 10 ≤ n) (h1 : n ≤ 30) (x0 : 0 ≤ x) (x1 : x < n) : (dAt n (x + 1).toInt64).toInt = if x.toInt + 1 = n.toInt then 0 else x.toInt + 1 := by
  rw [dAt_up h0 h1 x0 x1]
  have b := Int32.le_iff_toInt_le.mp x0
  have c := Int32.lt_iff_toInt_lt.mp x1
  have d0 : (0 : Int32).toInt = 0 := by decide
  split
  · rename_i e; rw [e, Int.emod_self]
  · exact Int.emod_eq_of_lt (by omega) (by omega)
theorem dAt_dn2 {n x : Int32} (h0 : 10 ≤ n) (h1 : n ≤ 30) (x0 : 0 ≤ x) (x1 : x < n) : (dAt n (x + (-1)).toInt64).toInt = if x.toInt = 0 then n.toInt - 1 else x.toInt - 1 := by
  rw [dAt_dn h0 h1 x0 x1]
  have b := Int32.le_iff_toInt_le.mp x0
  have c := Int32.lt_iff_toInt_lt.mp x1
  have d0 : (0 : Int32).toInt = 0 := by decide
  split
  · rename_i e
    have : x.toInt - 1 = (n.toInt - 1) + n.toInt * (-1) := by omega
    rw [this, Int.add_mul_emod_self_left]
    exact Int.emod_eq_of_lt (by omega) (by omega)
  · exact Int.emod_eq_of_lt (by omega) (by omega)
theorem sh_am : ∀ i, i < 32 → ((Int32.ofNat i &&& 31).toBitVec.smod 32).toNat = i := by decide +kernel
theorem tb_iff {x : Int32} {i : Nat} (hi : i < 32) : ((x >>> (Int32.ofNat i &&& 31)) &&& 1) = 1 ↔ tb x i = true := by
  rw [← Int32.toBitVec_inj, Int32.toBitVec_and, Int32.toBitVec_shiftRight, BitVec.sshiftRight_eq', sh_am i hi]
  unfold tb
  constructor
  · intro h
    have h2 := congrArg (fun v => v.getLsbD 0) h
    simp only [BitVec.getLsbD_and, BitVec.getLsbD_sshiftRight] at h2
    simpa [hi] using h2
  · intro h
    apply BitVec.eq_of_getLsbD_eq
    intro j hj
    rw [BitVec.getLsbD_and, BitVec.getLsbD_sshiftRight]
    cases j with
    | zero => simp [hi, h]
    | succ j =>
      have : (Int32.toBitVec 1).getLsbD (j + 1) = false := by
        show (1#32).getLsbD (j + 1) = false
        simp [BitVec.getLsbD_one]
      rw [this, Bool.and_false]
theorem tb_01 (v : Int32) : v &&& 1 = 0 ∨ v &&& 1 = 1 := by
  by_cases h : tb v 0 = true
  · right
    apply Int32.toBitVec_inj.mp
    apply BitVec.eq_of_getLsbD_eq
    intro j hj
    rw [Int32.toBitVec_and, BitVec.getLsbD_and]
    cases j with
    | zero => unfold tb at h; rw [h]; rfl
    | succ j =>
      have : (Int32.toBitVec 1).getLsbD (j + 1) = false := by
        show (1#32).getLsbD (j + 1) = false
        simp [BitVec.getLsbD_one]
      rw [this, Bool.and_false]
  · left
    apply Int32.toBitVec_inj.mp
    apply BitVec.eq_of_getLsbD_eq
    intro j hj
    rw [Int32.toBitVec_and, BitVec.getLsbD_and]
    have z : (Int32.toBitVec 0).getLsbD j = false := BitVec.getLsbD_zero
    rw [z]
    cases j with
    | zero => unfold tb at h; rw [Bool.not_eq_true] at h; rw [h]; rfl
    | succ j =>
      have : (Int32.toBitVec 1).getLsbD (j + 1) = false := by
        show (1#32).getLsbD (j + 1) = false
        simp [BitVec.getLsbD_one]
      rw [this, Bool.and_false]
theorem sh_tp : ∀ i, i < 32 → ((1 : Int32) <<< (Int32.ofNat i &&& 31)).toBitVec = BitVec.twoPow 32 i := by decide +kernel
theorem tb_or {x : Int32} {d i : Nat} (hd : d < 32) (hi : i < 32) : tb (x ||| (1 <<< (Int32.ofNat d &&& 31))) i = (tb x i || decide (i = d)) := by
  unfold tb
  rw [Int32.toBitVec_or, sh_tp d hd, BitVec.getLsbD_or, BitVec.getLsbD_twoPow]
  congr 1
  simp [hd, eq_comm]
theorem tb_an {x : Int32} {d i : Nat} (hd : d < 32) (hi : i < 32) : tb (x &&& ((1 <<< (Int32.ofNat d &&& 31)) ^^^ (-1))) i = (tb x i && !decide (i = d)) := by
  have m1 : ∀ i, i < 32 → (Int32.toBitVec (-1)).getLsbD i = true := by decide +kernel
  unfold tb
  rw [Int32.toBitVec_and, Int32.toBitVec_xor, sh_tp d hd, BitVec.getLsbD_and, BitVec.getLsbD_xor, BitVec.getLsbD_twoPow, m1 i hi, Bool.xor_true]
  congr 2
  simp [hd, eq_comm]
theorem i32_nat {x : Int32} (h : 0 ≤ x) : Int32.ofNat x.toNatClampNeg = x := by
  have b := Int32.le_iff_toInt_le.mp h
  have d0 : (0 : Int32).toInt = 0 := by decide
  have c := Int32.toInt_lt x
  apply Int32.toInt_inj.mp
  have e : x.toNatClampNeg = x.toInt.toNat := rfl
  have c2 : (Int32.ofNat x.toNatClampNeg).toInt = x.toNatClampNeg := nI_toInt (by omega)
  omega
theorem tbx {x d : Int32} (h0 : 0 ≤ d) (h1 : d < 32) : ((x >>> (d &&& 31)) &&& 1) = 1 ↔ tb x d.toNatClampNeg = true := by
  have b := Int32.lt_iff_toInt_lt.mp h1
  have e : d.toNatClampNeg = d.toInt.toNat := rfl
  have d32 : (32 : Int32).toInt = 32 := by decide
  have t := tb_iff (x := x) (i := d.toNatClampNeg) (by omega)
  rw [i32_nat h0] at t
  exact t
theorem tbo {x d : Int32} {i : Nat} (h0 : 0 ≤ d) (h1 : d < 32) (hi : i < 32) : tb (x ||| (1 <<< (d &&& 31))) i = (tb x i || decide (i = d.toNatClampNeg)) := by
  have b := Int32.lt_iff_toInt_lt.mp h1
  have e : d.toNatClampNeg = d.toInt.toNat := rfl
  have d32 : (32 : Int32).toInt = 32 := by decide
  have t := tb_or (x := x) (d := d.toNatClampNeg) (i := i) (by omega) hi
  rw [i32_nat h0] at t
  exact t
theorem tba {x d : Int32} {i : Nat} (h0 : 0 ≤ d) (h1 : d < 32) (hi : i < 32) : tb (x &&& ((1 <<< (d &&& 31)) ^^^ (-1))) i = (tb x i && !decide (i = d.toNatClampNeg)) := by
  have b := Int32.lt_iff_toInt_lt.mp h1
  have e : d.toNatClampNeg = d.toInt.toNat := rfl
  have d32 : (32 : Int32).toInt = 32 := by decide
  have t := tb_an (x := x) (d := d.toNatClampNeg) (i := i) (by omega) hi
  rw [i32_nat h0] at t
  exact t
theorem cnt_0 : ∀ n, cnt 0 n = 0
  | 0 => rfl
  | n + 1 => by
    have : tb 0 n = false := BitVec.getLsbD_zero
    rw [cnt, cnt_0 n, this]; rfl
theorem cnt_le (x : Int32) : ∀ n, cnt x n ≤ n
  | 0 => Nat.le_refl 0
  | n + 1 => by rw [cnt]; have := cnt_le x n; cases tb x n <;> simp <;> omega
theorem cnt_mono (x : Int32) (m : Nat) : ∀ n, m ≤ n → cnt x m ≤ cnt x n
  | 0, h => by rw [Nat.le_zero.mp h]; exact Nat.le_refl _
  | n + 1, h => by
    by_cases e : m = n + 1
    · rw [e]; exact Nat.le_refl _
    · rw [cnt]; have := cnt_mono x m n (by omega); omega
theorem cnt_full {x : Int32} : ∀ n, (∀ j, j < n → tb x j = true) → cnt x n = n
  | 0, _ => rfl
  | n + 1, h => by rw [cnt, cnt_full n (fun j hj => h j (by omega)), h n (by omega)]; rfl
theorem cnt_free {x : Int32} : ∀ n, cnt x n < n → ∃ f, f < n ∧ tb x f = false
  | 0, h => absurd h (by omega)
  | n + 1, h => by
    by_cases c : tb x n = true
    · rw [cnt, c] at h
      obtain ⟨f, a, b⟩ := cnt_free n (by simp at h; omega)
      exact ⟨f, by omega, b⟩
    · exact ⟨n, by omega, by simpa using c⟩
theorem cnt_sub {x y : Int32} : ∀ n, (∀ j, j < n → tb x j = true → tb y j = true) → cnt x n ≤ cnt y n
  | 0, _ => Nat.le_refl 0
  | n + 1, h => by
    have := cnt_sub n (fun j hj => h j (by omega))
    have e := h n (by omega)
    rw [cnt, cnt]
    cases hx : tb x n
    · simp; omega
    · rw [e hx]; simp; omega
theorem cnt_upd {x y : Int32} {d : Nat} : ∀ n, (∀ j, j < n → tb y j = (tb x j || decide (j = d))) → cnt y n ≤ cnt x n + 1 ∧ (n ≤ d → cnt y n = cnt x n) ∧ (d < n → tb x d = false → cnt y n = cnt x n + 1)
  | 0, _ => ⟨by simp [cnt], fun _ => rfl, fun h => absurd h (by omega)⟩
  | n + 1, h => by
    obtain ⟨a, b, c⟩ := cnt_upd n (fun j hj => h j (by omega))
    have e := h n (by omega)
    rw [cnt, cnt, e]
    by_cases q : n = d
    · have b2 := b (by omega)
      refine ⟨?_, fun z => by omega, fun _ z => ?_⟩
      · rw [decide_eq_true q]; cases tb x n <;> simp <;> omega
      · rw [q, z, ← q]; simp; omega
    · simp only [decide_eq_false q, Bool.or_false]
      exact ⟨by omega, fun z => by rw [b (by omega)], fun z1 z2 => by rw [c (by omega) z2]; omega⟩
