theorem ci_Di_init : Cond.instanceMethod Di_init.1 ∈ lw_g := lw_in (i := 65) (by decide +kernel) (by decide +kernel)
