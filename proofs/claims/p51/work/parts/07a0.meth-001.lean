theorem in_Er : Cond.initialized "DoorRounds$Errands" ∈ lw_g := lw_in (i := 6) (by decide +kernel) (by decide +kernel)
