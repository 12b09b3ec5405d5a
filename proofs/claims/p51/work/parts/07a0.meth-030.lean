theorem cm_Sp_init : CM Sp_init 1 := ⟨by decide +kernel, lw_inc (i := 27) (by decide +kernel) (by decide +kernel), in_Sp, by decide +kernel⟩
