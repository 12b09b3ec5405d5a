theorem d_Sn_init_0 : ∀ q ∈ t_Sn_init_0, decode prog_7_method_1_code q.1 = .ok q.2 := wkd d_Sn_init (j := 0) rfl
