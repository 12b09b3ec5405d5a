theorem and_leI {a b : Int32} (hb : 0 ≤ b) : 0 ≤ (a &&& b) ∧ (a &&& b) ≤ b := by
  have m1 := nn_msb hb
  have m2 : (a &&& b).toBitVec.msb = false := by rw [Int32.toBitVec_and, BitVec.msb_and, m1, Bool.and_false]
  have t1 : b.toInt = (b.toBitVec.toNat : Int) := BitVec.toInt_eq_toNat_of_msb m1
  have t2 : (a &&& b).toInt = ((a &&& b).toBitVec.toNat : Int) := BitVec.toInt_eq_toNat_of_msb m2
  have l : (a &&& b).toBitVec.toNat ≤ b.toBitVec.toNat := by
    rw [Int32.toBitVec_and, BitVec.toNat_and]
    exact Nat.and_le_right
  have d0 : (0 : Int32).toInt = 0 := by decide
  exact ⟨Int32.le_iff_toInt_le.mpr (by omega), Int32.le_iff_toInt_le.mpr (by omega)⟩
