theorem cm_D_init : CM D_init 0 := ⟨by decide +kernel, lw_inc (i := 18) (by decide +kernel) (by decide +kernel), in_D, by decide +kernel⟩
