theorem d_Pl_init_0 : ∀ q ∈ t_Pl_init_0, decode prog_4_method_1_code q.1 = .ok q.2 := wkd d_Pl_init (j := 0) rfl
