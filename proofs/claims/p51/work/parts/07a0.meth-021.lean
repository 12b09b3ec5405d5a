theorem d_D_init_2 : ∀ q ∈ t_D_init_2, decode prog_1_method_1_code q.1 = .ok q.2 := wkd d_D_init (j := 2) rfl
