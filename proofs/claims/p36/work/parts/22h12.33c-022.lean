theorem rg8 {n l f h : Int32} (hn : 10 ≤ n ∧ n ≤ 30) (lb : 0 ≤ l ∧ l ≤ 30) (f0 : 0 ≤ f) (f1 : f ≤ n) (h : n - f ≤ l) : n - l ≤ f := by grind
