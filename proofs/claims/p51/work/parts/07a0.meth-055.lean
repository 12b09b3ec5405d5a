theorem d_Pl_init_1 : ∀ q ∈ t_Pl_init_1, decode prog_4_method_1_code q.1 = .ok q.2 := wkd d_Pl_init (j := 1) rfl
