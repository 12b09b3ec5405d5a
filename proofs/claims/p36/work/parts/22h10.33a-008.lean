/-- the class's order of a Plan -/
def OrdC (u : pM) (o : Nat) (sh : Nat → Sh5) (m : Nat) : Prop := (∀ i, i < m → 0 ≤ mI u (o + 3) i) ∧ OrdP sh m (fun i => (mI u (o + 3) i).toNatClampNeg)
