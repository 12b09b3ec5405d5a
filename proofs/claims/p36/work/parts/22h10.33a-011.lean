def shM (u : pM) : Nat → Sh5 := fun s => mC u (5 * s)
