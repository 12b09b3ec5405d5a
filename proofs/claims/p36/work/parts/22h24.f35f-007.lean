def dwM (u : pM) (ord : Nat → Nat) (w : Nat) : Nat → Int32 := pws (mI u 76 10) (mI u 76 18) (mI u 76 19) (shM u) ord (mI u 76 11).toNatClampNeg (mI u 84) w
