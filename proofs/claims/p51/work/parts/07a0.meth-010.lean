theorem in_ji : Cond.initialized "java/lang/Integer" ∈ lw_g := lw_in (i := 13) (by decide +kernel) (by decide +kernel)
