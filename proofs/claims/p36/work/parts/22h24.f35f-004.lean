theorem ix40 {r x : Int32} (hr : 0 ≤ r ∧ r ≤ 5) (hx : 0 ≤ x ∧ x < 40) : (40 * r + x : Int32).toNatClampNeg = 40 * r.toNatClampNeg + x.toNatClampNeg := by
  have a := Int32.le_iff_toInt_le.mp hr.1
  have b := Int32.le_iff_toInt_le.mp hr.2
  have c := Int32.le_iff_toInt_le.mp hx.1
  have d := Int32.lt_iff_toInt_lt.mp hx.2
  have d0 : (0 : Int32).toInt = 0 := by decide
  have d1 : (5 : Int32).toInt = 5 := by decide
  have d2 : (40 : Int32).toInt = 40 := by decide
  show (40 * r + x).toInt.toNat = 40 * r.toInt.toNat + x.toInt.toNat
  rw [Int32.toInt_add, Int32.toInt_mul, d2, Int.bmod_eq_of_le (n := 40 * r.toInt) (by omega) (by omega), Int.bmod_eq_of_le (by omega) (by omega)]
  omega
