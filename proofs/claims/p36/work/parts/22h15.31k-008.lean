theorem sqk {f : Nat → Int32} (h : ∀ k : Int32, 0 ≤ k → k < 3 → f (10 * k : Int32).toNatClampNeg = -9) : ∀ k, k < 3 → f (10 * k) = -9 := fun k hk => by
  have e := (show ∀ k, k < 3 → 0 ≤ Int32.ofNat k ∧ Int32.ofNat k < 3 ∧ (10 * Int32.ofNat k : Int32).toNatClampNeg = 10 * k from by decide) k hk
  have r := h _ e.1 e.2.1
  rw [e.2.2] at r
  exact r
