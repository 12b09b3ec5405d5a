theorem ci_Pl_init : Cond.instanceMethod Pl_init.1 ∈ lw_g := lw_in (i := 99) (by decide +kernel) (by decide +kernel)
