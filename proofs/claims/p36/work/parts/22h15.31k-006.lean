def sqT (w u' : pM) : Prop := mI u' 76 28 = 0 ∧ mI u' 76 18 = 0 ∧ mI u' 76 19 = 0 ∧ (∀ s, s < (mI w 76 16).toNatClampNeg → mI u' 84 s = mI w 83 (35 + 5 * s + 1)) ∧ ∀ k, k < 3 → mI u' 87 (10 * k) = -9
