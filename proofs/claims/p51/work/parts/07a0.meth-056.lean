theorem cm_Pl_init : CM Pl_init 0 := ⟨by decide +kernel, lw_inc (i := 100) (by decide +kernel) (by decide +kernel), in_Pl, by decide +kernel⟩
