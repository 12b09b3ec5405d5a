def sqT0 (w z : pM) : Prop := mI z 76 18 = 0 ∧ ∀ s, s < (mI w 76 16).toNatClampNeg → mI z 84 s = mI w 83 (35 + 5 * s + 1)
