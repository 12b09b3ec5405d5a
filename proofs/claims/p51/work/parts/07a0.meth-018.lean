theorem d_D_init : wkk prog_1_method_1_code [t_D_init_0, t_D_init_1, t_D_init_2, t_D_init_3, t_D_init_4] prog_1_method_1_code.data.toList 0 = true := by decide +kernel
