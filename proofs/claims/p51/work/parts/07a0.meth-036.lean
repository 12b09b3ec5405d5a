theorem cm_Sn_init : CM Sn_init 0 := ⟨by decide +kernel, lw_inc (i := 47) (by decide +kernel) (by decide +kernel), in_Sn, by decide +kernel⟩
