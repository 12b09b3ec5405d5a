theorem on7 {n : Nat} (h : n ≤ 7) : (Int32.ofNat n).toNatClampNeg = n := (show ∀ n, n < 8 → (Int32.ofNat n).toNatClampNeg = n from by decide) n (by omega)
