/-- what a row must hold to be gone on from, its size apart -/
def imK (n m : Int32) (f : Nat → Int32) : Prop := (0 ≤ f 0 ∧ f 0 ≤ 100000) ∧ (0 ≤ f 1 ∧ f 1 >>> (n &&& 31) = 0) ∧ bcV (f 1) ≤ 3 ∧ (∀ s, s < m.toNatClampNeg → 0 ≤ f (2 + s) ∧ f (2 + s) < n) ∧ ∀ s q, s < q → q < m.toNatClampNeg → f (2 + s) ≠ f (2 + q)
