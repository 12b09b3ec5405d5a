theorem d_Sp_init_0 : ∀ q ∈ t_Sp_init_0, decode prog_8_method_1_code q.1 = .ok q.2 := wkd d_Sp_init (j := 0) rfl
