/-- what a round's length is, by what it is the least of -/
def IsR (n : Int32) (far : Nat → Int32) (m : Nat) (set r : Int32) : Prop := (0 ≤ r ∧ r ≤ n) ∧ (∀ h l, b30 h → b30 l → CovP n far m set h l → r ≤ 2 * (h + l)) ∧ (r = n ∨ ∃ h l, b30 h ∧ b30 l ∧ CovP n far m set h l ∧ r = 2 * (h + l))
