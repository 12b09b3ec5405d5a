def shF (u : pM) (o : Nat) : Nat → Sh5 := fun s => shC u (R0 (o + 1) s)
