/-- all of the set lie at most h upward or at most l downward -/
def CovP (n : Int32) (far : Nat → Int32) (m : Nat) (set h l : Int32) : Prop := ∀ s, s < m → tb set s = true → far s ≤ h ∨ n - far s ≤ l
