theorem sub64x {a b : Int32} (ha : 0 ≤ a ∧ a < 100) (hb : 0 ≤ b ∧ b < 100) : (a - b).toInt64 = a.toInt64 - b.toInt64 := by
  have a1 := Int32.le_iff_toInt_le.mp ha.1
  have a2 := Int32.lt_iff_toInt_lt.mp ha.2
  have b1 := Int32.le_iff_toInt_le.mp hb.1
  have b2 := Int32.lt_iff_toInt_lt.mp hb.2
  have d0 : (0 : Int32).toInt = 0 := by decide
  have d1 : (100 : Int32).toInt = 100 := by decide
  apply Int64.toInt_inj.mp
  rw [Int32.toInt_toInt64, Int64.toInt_sub, Int32.toInt_toInt64, Int32.toInt_toInt64, Int32.toInt_sub, Int.bmod_eq_of_le (by omega) (by omega), Int.bmod_eq_of_le (by omega) (by omega)]
