theorem in_m : Cond.initialized "DoorRoundsModel" ∈ lw_g := lw_in (i := 10) (by decide +kernel) (by decide +kernel)
