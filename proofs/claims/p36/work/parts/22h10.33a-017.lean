section ORD
variable {G : pG} {u : pM} {L : List Nat}
/-- the shops' ages are such as a text can tell -/
def agK (sh : Nat → Sh5) (m : Nat) : Prop := ∀ s, s < m → 0 ≤ (sh s).2.2.2.1 ∧ (sh s).2.2.2.1 ≤ 99
end ORD
