theorem cm_Er_init : CM Er_init 0 := ⟨by decide +kernel, lw_inc (i := 86) (by decide +kernel) (by decide +kernel), in_Er, by decide +kernel⟩
