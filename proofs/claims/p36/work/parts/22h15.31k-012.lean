theorem sqF.of {u u' : pM} {L : List Nat} (h : Fp L u u') (hr : ∀ k, mR u' 2 k = mR u 2 k) (hL : mR u 2 10 ≠ mR u 2 11 → pl (mR u 2 10) → pl (mR u 2 11) → ∀ n, mR u 2 10 ≤ n → n < mR u 2 10 + 14 → n ∉ L) (hL2 : ∀ n, n < 76 → (n = 7 ∨ n = 8 ∨ (14 ≤ n ∧ n ≤ 17) ∨ 50 ≤ n) → n ∉ L) : sqF u u' := ⟨hr, fun a b c n k h1 h2 => h n k (by
  have : 22 ≤ n ∧ n < 50 := by rcases b with e | e <;> omega
  rw [cd_n ⟨by omega, by omega, by omega⟩]
  exact hL a b c n h1 h2), fun n k h1 h2 => h n k (by
  rw [cd_n ⟨by omega, by omega, by omega⟩]
  exact hL2 n h2 h1)⟩
