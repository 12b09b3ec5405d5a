theorem nf_8_32 : ∀ r ty, clOK 8 r ty → (r.2.1 32).2.2.2 = false := fun r ty h => by have e := h.1; cases e; exact rfl
theorem ar_I : Cond.arrayClass .int ∈ lw_g := lw_in (i := 42) (by decide +kernel) (by decide +kernel)
theorem ar_J : Cond.arrayClass .long ∈ lw_g := lw_in (i := 95) (by decide +kernel) (by decide +kernel)
