theorem d_Sn_init : wkk prog_7_method_1_code [t_Sn_init_0] prog_7_method_1_code.data.toList 0 = true := by decide +kernel
