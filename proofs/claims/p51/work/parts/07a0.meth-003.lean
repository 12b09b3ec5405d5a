theorem in_Rd : Cond.initialized "DoorRounds$Reader" ∈ lw_g := lw_in (i := 9) (by decide +kernel) (by decide +kernel)
