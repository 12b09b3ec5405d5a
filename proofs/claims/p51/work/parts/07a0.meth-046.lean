theorem d_Er_init : wkk prog_3_method_1_code [t_Er_init_0] prog_3_method_1_code.data.toList 0 = true := by decide +kernel
