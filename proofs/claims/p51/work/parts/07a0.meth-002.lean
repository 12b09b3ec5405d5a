theorem in_Pl : Cond.initialized "DoorRounds$Plan" ∈ lw_g := lw_in (i := 7) (by decide +kernel) (by decide +kernel)
