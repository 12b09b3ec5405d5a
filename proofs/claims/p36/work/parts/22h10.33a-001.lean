def ahP (sh : Nat → Sh5) (s q : Nat) : Prop := keyP (sh q) < keyP (sh s) ∨ (keyP (sh q) = keyP (sh s) ∧ s < q)
