theorem nn_msb {b : Int32} (h : 0 ≤ b) : b.toBitVec.msb = false := by
  have z := Int32.le_iff_toInt_le.mp h
  have d0 : (0 : Int32).toInt = 0 := by decide
  rw [BitVec.msb_eq_toInt]
  have e : b.toBitVec.toInt = b.toInt := rfl
  rw [e]
  exact decide_eq_false (by omega)
