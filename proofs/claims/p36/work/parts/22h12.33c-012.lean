/-- by how much a split of the set goes upward and downward -/
def UCv (n : Int32) (far : Nat → Int32) (set up : Int32) (k : Nat) (h l : Int32) : Prop := b30 h ∧ b30 l ∧ ∀ s, s < k → (tb up s = true → far s ≤ h) ∧ (tb up s = false → tb set s = true → far s = 0 ∨ n - far s ≤ l)
