theorem rgz {f x7 : Int32} (h0 : 0 ≤ x7) (h30 : x7 ≤ 30) (a : f < x7 + 1) (b : ¬ f = x7) : f < x7 := by grind
