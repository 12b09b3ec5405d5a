theorem d_Pl_init : wkk prog_4_method_1_code [t_Pl_init_0, t_Pl_init_1] prog_4_method_1_code.data.toList 0 = true := by decide +kernel
