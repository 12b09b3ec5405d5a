theorem in_jm : Cond.initialized "java/lang/Math" ∈ lw_g := lw_in (i := 3) (by decide +kernel) (by decide +kernel)
