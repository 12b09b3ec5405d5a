section CT
variable {G : pG} {u : pM}
theorem i_Di {o : Nat} (ho : ok u o 0) : Wp G Di_init 3 36 0 [(0, .ref o)] [] u (fun r u' => r = none ∧ u' = fDi u o) := by
  refine wp_aload_n 0 (dcd d_Di_init_0 0 rfl) rfl ?_
  refine wp_oinit (st := []) (dcd d_Di_init_0 1 rfl) ko_Di_3 ko_i ko_c (by decide) (Nat.le_of_ble_eq_true rfl) ?_
  refine wp_aload_n 0 (dcd d_Di_init_0 2 rfl) rfl ?_
  refine wp_iconst (v := 0) (dcd d_Di_init_0 3 rfl) (by decide) ?_
  refine wp_putI f_Di_9 rfl nf_0_0 (dcd d_Di_init_0 4 rfl) ho ?_
  refine wp_aload_n 0 (dcd d_Di_init_0 5 rfl) rfl ?_
  refine wp_bipush (v := 12) (dcd d_Di_init_0 6 rfl) (by decide) ?_
  refine wp_newI (N := 12) ar_I (dcd d_Di_init_0 7 rfl) (by decide) (by decide) (by decide) ?_
  refine wp_putRF f_Di_15 rfl nf_0_1 rfl (dcd d_Di_init_0 8 rfl) (ok_pN ho) (Nat.succ_ne_zero _) ?_
  refine wp_aload_n 0 (dcd d_Di_init_0 9 rfl) rfl ?_
  refine wp_bipush (v := 12) (dcd d_Di_init_0 10 rfl) (by decide) ?_
  refine wp_newI (N := 12) ar_I (dcd d_Di_init_0 11 rfl) (by decide) (by decide) (by decide) ?_
  refine wp_putRF f_Di_19 rfl nf_0_2 rfl (dcd d_Di_init_0 12 rfl) (ok_pN (ok_pN ho)) (Nat.succ_ne_zero _) ?_
  refine wp_aload_n 0 (dcd d_Di_init_0 13 rfl) rfl ?_
  refine wp_bipush (v := 12) (dcd d_Di_init_0 14 rfl) (by decide) ?_
  refine wp_newI (N := 12) ar_I (dcd d_Di_init_0 15 rfl) (by decide) (by decide) (by decide) ?_
  refine wp_putRF f_Di_22 rfl nf_0_3 rfl (dcd d_Di_init_0 16 rfl) (ok_pN (ok_pN (ok_pN ho))) (Nat.succ_ne_zero _) ?_
  exact wp_vret (dcd d_Di_init_0 17 rfl) rfl ⟨rfl, rfl⟩
end CT
