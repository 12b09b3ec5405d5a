def ordF (u : pM) (o : Nat) : Nat → Nat := fun i => (mI u (o + 3) i).toNatClampNeg
