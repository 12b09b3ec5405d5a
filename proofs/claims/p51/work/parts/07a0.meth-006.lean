theorem in_Sp : Cond.initialized "DoorRounds$Strip" ∈ lw_g := lw_in (i := 2) (by decide +kernel) (by decide +kernel)
