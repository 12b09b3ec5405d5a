theorem tn_pred {x : Int32} (h : 0 < x) : (x - 1).toNatClampNeg + 1 = x.toNatClampNeg := by
  have b := Int32.lt_iff_toInt_lt.mp h
  have c := Int32.toInt_lt x
  have d0 : (0 : Int32).toInt = 0 := by decide
  have d1 : (1 : Int32).toInt = 1 := by decide
  have e : (x - 1).toInt = x.toInt - 1 := by rw [Int32.toInt_sub, d1, Int.bmod_eq_of_le (by omega) (by omega)]
  show (x - 1).toInt.toNat + 1 = x.toInt.toNat
  omega
