theorem in_Sh : Cond.initialized "DoorRounds$Shop" ∈ lw_g := lw_in (i := 8) (by decide +kernel) (by decide +kernel)
