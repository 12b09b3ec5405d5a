/-! ===== walk: round a square by remainders ===== -/
theorem j_neg (a : Int64) : a < 0 ↔ a.toBitVec.msb = true := by
  rw [Int64.lt_iff_toInt_lt, BitVec.msb_eq_toInt, decide_eq_true_eq]
  exact Iff.rfl
theorem xor_neg {a b : Int64} (hb : 0 ≤ b.toInt) : (a ^^^ b) < 0 ↔ a < 0 := by
  have nb : b.toBitVec.msb = false := by
    rw [BitVec.msb_eq_toInt]
    exact decide_eq_false (fun z => by have e : b.toBitVec.toInt = b.toInt := rfl; omega)
  rw [j_neg, j_neg, Int64.toBitVec_xor, BitVec.msb_xor, nb, Bool.xor_false]
theorem fm_toInt {n : Int32} {x : Int64} (hn : 0 < n.toInt) : (fm x n.toInt64).toInt = x.toInt % n.toInt := by
  have r := rmJ_toInt (x := x) hn
  have h1 := Int.tmod_lt_of_pos x.toInt hn
  have h2 := Int.lt_tmod_of_pos x.toInt hn
  have h3 := Int32.toInt_lt n
  have e := Int.mul_tdiv_add_tmod x.toInt n.toInt
  have u1 : ∀ d q : Int, x.toInt = d + n.toInt * q → 0 ≤ d → d < n.toInt → d = x.toInt % n.toInt := by
    intro d q h a b
    rw [h, Int.add_mul_emod_self_left, Int.emod_eq_of_lt a b]
  have z64 : (0 : Int64).toInt = 0 := by decide
  have hb : 0 ≤ n.toInt64.toInt := by rw [Int32.toInt_toInt64]; omega
  unfold fm
  generalize x - x / n.toInt64 * n.toInt64 = y at r
  by_cases c : (x ^^^ n.toInt64) < 0 ∧ ¬ y = 0
  · rw [if_pos c]
    have cx : x.toInt < 0 := by have := Int64.lt_iff_toInt_lt.mp ((xor_neg hb).mp c.1); omega
    have y0 : ¬ y.toInt = 0 := fun q => c.2 (Int64.toInt_inj.mp (by rw [q, z64]))
    have ys : y.toInt ≤ 0 := by
      have q := Int.tmod_nonneg n.toInt (a := -x.toInt) (by omega)
      rw [Int.neg_tmod] at q
      omega
    rw [Int64.toInt_add, Int32.toInt_toInt64, Int.bmod_eq_of_le (by omega) (by omega), r]
    exact u1 _ (x.toInt.tdiv n.toInt - 1) (by rw [Int.mul_sub]; omega) (by omega) (by omega)
  · rw [if_neg c]
    have y0 : 0 ≤ y.toInt := by
      by_cases q : x < 0
      · have : y = 0 := Decidable.not_not.mp (fun z => c ⟨(xor_neg hb).mpr q, z⟩)
        rw [this, z64]; exact Int.le_refl 0
      · rw [r]
        refine Int.tmod_nonneg _ ?_
        have := Int64.not_lt.mp q
        have := Int64.le_iff_toInt_le.mp this
        omega
    rw [r] at y0 ⊢
    exact u1 _ (x.toInt.tdiv n.toInt) (by omega) y0 h1
theorem wr_dAt {n : Int32} {x : Int64} (h0 : 10 ≤ n) (h1 : n ≤ 30) : wrV n x = dAt n x := by
  have a := Int32.le_iff_toInt_le.mp h0
  have b := Int32.le_iff_toInt_le.mp h1
  have d10 : (10 : Int32).toInt = 10 := by decide
  have d30 : (30 : Int32).toInt = 30 := by decide
  have hn : 0 < n.toInt := by omega
  apply Int32.toInt_inj.mp
  rw [dAt_toInt hn]
  unfold wrV
  rw [if_neg (by grind), Int64.toInt_toInt32, fm_toInt hn]
  have l := Int.emod_lt_of_pos x.toInt hn
  have g := Int.emod_nonneg x.toInt (show n.toInt ≠ 0 by omega)
  exact Int.bmod_eq_of_le (by omega) (by omega)
section WLK
variable {G : pG} {u : pM}
end WLK
