theorem v70 {x k : Int32} (h0 : 0 ≤ x) (h7 : x < 7) (k0 : 0 ≤ k) (k5 : k < 5) : vp_in (5 * x + k) 70 := vin (by grind) (show (_ : Int32) < 70 by grind) (by decide)
