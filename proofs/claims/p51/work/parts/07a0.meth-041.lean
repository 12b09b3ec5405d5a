theorem d_Di_init_0 : ∀ q ∈ t_Di_init_0, decode prog_2_method_1_code q.1 = .ok q.2 := wkd d_Di_init (j := 0) rfl
