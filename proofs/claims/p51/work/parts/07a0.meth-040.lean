theorem d_Di_init : wkk prog_2_method_1_code [t_Di_init_0] prog_2_method_1_code.data.toList 0 = true := by decide +kernel
