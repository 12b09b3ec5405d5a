theorem d_Er_init_0 : ∀ q ∈ t_Er_init_0, decode prog_3_method_1_code q.1 = .ok q.2 := wkd d_Er_init (j := 0) rfl
