theorem rg9 {n l x : Int32} (hn : 10 ≤ n ∧ n ≤ 30) (lb : 0 ≤ l ∧ l ≤ 30) (e : x = n) : n - l ≤ x := by grind
