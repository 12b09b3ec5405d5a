section CT
variable {G : pG} {u : pM}
theorem i_Rd {o : Nat} (ho : ok u o 3) : Wp G Rd_init 2 2 0 [(0, .ref o)] [] u (fun r u' => r = none ∧ u' = fRd u o) := by
  refine wp_aload_n 0 (dcd d_Rd_init_0 0 rfl) rfl ?_
  refine wp_oinit (st := []) (dcd d_Rd_init_0 1 rfl) ko_Rd_3 ko_i ko_c (by decide) (Nat.le_of_ble_eq_true rfl) ?_
  refine wp_aload_n 0 (dcd d_Rd_init_0 2 rfl) rfl ?_
  refine wp_new (N := 2) ⟨_, _, cl_6, rfl, by decide, c_Rd_9, n_6, in_Sp⟩ (dcd d_Rd_init_0 3 rfl) ?_
  refine wp_dup (dcd d_Rd_init_0 4 rfl) rfl ?_
  refine wp_iconst (v := 0) (dcd d_Rd_init_0 5 rfl) (by decide) ?_
  refine wp_callI (kc' := 1) (ks' := 0) (kc := 0) (ks := 0) (As := [.int 0]) (dcd d_Rd_init_0 6 rfl) cm_Sp_init k_Rd_11 ci_Sp_init rfl rfl ⟨by decide, by decide⟩ rfl (Nat.le_of_ble_eq_true rfl) (Nat.le_of_ble_eq_true rfl) (i_Sp (ok_new (u := u) (sh := (6, 0))) (by decide) (by decide) (by decide)) ?_
  rintro _ _ ⟨rfl, rfl⟩
  refine wp_putR f_Rd_14 rfl nf_3_0 (dcd d_Rd_init_0 7 rfl) (ok_fSp (ok_pN ho)) (Nat.succ_ne_zero _) ?_
  refine wp_aload_n 0 (dcd d_Rd_init_0 8 rfl) rfl ?_
  refine wp_iconst (v := 0) (dcd d_Rd_init_0 9 rfl) (by decide) ?_
  refine wp_putI f_Rd_20 rfl nf_3_1 (dcd d_Rd_init_0 10 rfl) (ok_tR (ok_fSp (ok_pN ho))) ?_
  refine wp_aload_n 0 (dcd d_Rd_init_0 11 rfl) rfl ?_
  refine wp_iconst (v := 0) (dcd d_Rd_init_0 12 rfl) (by decide) ?_
  refine wp_putI f_Rd_24 rfl nf_3_2 (dcd d_Rd_init_0 13 rfl) (ok_tI (ok_tR (ok_fSp (ok_pN ho)))) ?_
  exact wp_vret (dcd d_Rd_init_0 14 rfl) rfl ⟨rfl, rfl⟩
end CT
