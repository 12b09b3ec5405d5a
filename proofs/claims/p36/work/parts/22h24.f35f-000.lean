def rmK (u u' : pM) : Prop := ∀ r, r < 6 → mI u' 78 r = mI u 78 r ∧ ∀ k, k < 40 → mI u' 79 (40 * r + k) = mI u 79 (40 * r + k)
