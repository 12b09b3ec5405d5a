section CT
variable {G : pG} {u : pM}
theorem i_Sn {o : Nat} (ho : ok u o 5) : Wp G Sn_init 1 7 0 [(0, .ref o)] [] u (fun r u' => r = none ∧ u' = fSn u o) := by
  refine wp_aload_n 0 (dcd d_Sn_init_0 0 rfl) rfl ?_
  refine wp_oinit (st := []) (dcd d_Sn_init_0 1 rfl) ko_Sn_3 ko_i ko_c (by decide) (Nat.le_of_ble_eq_true rfl) ?_
  refine wp_aload_n 0 (dcd d_Sn_init_0 2 rfl) rfl ?_
  refine wp_iconst (v := 0) (dcd d_Sn_init_0 3 rfl) (by decide) ?_
  refine wp_putI f_Sn_9 rfl nf_5_0 (dcd d_Sn_init_0 4 rfl) ho ?_
  refine wp_aload_n 0 (dcd d_Sn_init_0 5 rfl) rfl ?_
  refine wp_iconst (v := 0) (dcd d_Sn_init_0 6 rfl) (by decide) ?_
  refine wp_putI f_Sn_15 rfl nf_5_1 (dcd d_Sn_init_0 7 rfl) ho ?_
  refine wp_aload_n 0 (dcd d_Sn_init_0 8 rfl) rfl ?_
  refine wp_bipush (v := 7) (dcd d_Sn_init_0 9 rfl) (by decide) ?_
  refine wp_newI (N := 7) ar_I (dcd d_Sn_init_0 10 rfl) (by decide) (by decide) (by decide) ?_
  refine wp_putRF f_Sn_18 rfl nf_5_2 rfl (dcd d_Sn_init_0 11 rfl) (ok_pN ho) (Nat.succ_ne_zero _) ?_
  exact wp_vret (dcd d_Sn_init_0 12 rfl) rfl ⟨rfl, rfl⟩
end CT
