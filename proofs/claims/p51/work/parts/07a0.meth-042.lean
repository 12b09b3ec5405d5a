theorem cm_Di_init : CM Di_init 0 := ⟨by decide +kernel, lw_inc (i := 66) (by decide +kernel) (by decide +kernel), in_Di, by decide +kernel⟩
