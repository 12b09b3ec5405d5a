theorem in_Di : Cond.initialized "DoorRounds$Diary" ∈ lw_g := lw_in (i := 5) (by decide +kernel) (by decide +kernel)
