def OrdP (sh : Nat → Sh5) (m : Nat) (ord : Nat → Nat) : Prop := (∀ i, i < m → ord i < m) ∧ (∀ i j, i < j → j < m → ahP sh (ord i) (ord j)) ∧ ∀ q, q < m → ∃ i, i < m ∧ ord i = q
