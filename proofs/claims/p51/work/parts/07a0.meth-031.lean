theorem ci_Sp_init : Cond.instanceMethod Sp_init.1 ∈ lw_g := lw_in (i := 26) (by decide +kernel) (by decide +kernel)
