theorem in_ja : Cond.initialized "java/util/Arrays" ∈ lw_g := lw_in (i := 11) (by decide +kernel) (by decide +kernel)
