theorem rg1 {n x : Int32} (hn : 10 ≤ n ∧ n ≤ 30) (h0 : 0 ≤ x) (h1 : x ≤ n) : 0 ≤ (if 2 * (n - x) < n then 2 * (n - x) else n) ∧ (if 2 * (n - x) < n then 2 * (n - x) else n) ≤ n := by split <;> grind
