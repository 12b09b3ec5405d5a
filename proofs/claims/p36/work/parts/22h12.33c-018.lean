theorem rg4 {n f b : Int32} (hn : 10 ≤ n ∧ n ≤ 30) (f0 : 0 ≤ f) (f1 : f < n) (bn : b ≤ n) (b0 : 0 ≤ b) (h : ¬ f < b) : n - f ≤ n - b := by grind
