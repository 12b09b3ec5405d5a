theorem d_Sp_init : wkk prog_8_method_1_code [t_Sp_init_0] prog_8_method_1_code.data.toList 0 = true := by decide +kernel
