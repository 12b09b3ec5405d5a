theorem tn_inj {x y : Int32} (hx : 0 ≤ x) (hy : 0 ≤ y) (e : x.toNatClampNeg = y.toNatClampNeg) : x = y := by rw [← i32_nat hx, ← i32_nat hy, e]
