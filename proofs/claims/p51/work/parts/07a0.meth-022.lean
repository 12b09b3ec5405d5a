theorem d_D_init_3 : ∀ q ∈ t_D_init_3, decode prog_1_method_1_code q.1 = .ok q.2 := wkd d_D_init (j := 3) rfl
