/-- the class's Plan is as it was -/
def sqF (u u' : pM) : Prop := (∀ k, mR u' 2 k = mR u 2 k) ∧ (mR u 2 10 ≠ mR u 2 11 → pl (mR u 2 10) → pl (mR u 2 11) → ∀ n k, mR u 2 10 ≤ n → n < mR u 2 10 + 14 → mI u' n k = mI u n k) ∧ ∀ n k, (n = 7 ∨ n = 8 ∨ (14 ≤ n ∧ n ≤ 17) ∨ 50 ≤ n) → n < 76 → mI u' n k = mI u n k
