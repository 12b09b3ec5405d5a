theorem ci_D_init : Cond.instanceMethod D_init.1 ∈ lw_g := lw_in (i := 17) (by decide +kernel) (by decide +kernel)
