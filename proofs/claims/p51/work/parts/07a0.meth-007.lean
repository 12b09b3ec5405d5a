theorem in_D : Cond.initialized "DoorRounds" ∈ lw_g := lw_in (i := 1) (by decide +kernel) (by decide +kernel)
