theorem ci_Sn_init : Cond.instanceMethod Sn_init.1 ∈ lw_g := lw_in (i := 46) (by decide +kernel) (by decide +kernel)
