theorem d_D_init_0 : ∀ q ∈ t_D_init_0, decode prog_1_method_1_code q.1 = .ok q.2 := wkd d_D_init (j := 0) rfl
