theorem ci_Er_init : Cond.instanceMethod Er_init.1 ∈ lw_g := lw_in (i := 85) (by decide +kernel) (by decide +kernel)
