theorem in_Sn : Cond.initialized "DoorRounds$Standing" ∈ lw_g := lw_in (i := 4) (by decide +kernel) (by decide +kernel)
