section CT
variable {G : pG} {u : pM}
theorem i_Sh {o : Nat} (ho : ok u o 4) : Wp G Sh_init 0 0 0 [(0, .ref o)] [] u (fun r u' => r = none ∧ u' = fSh u o) := by
  refine wp_aload_n 0 (dcd d_Sh_init_0 0 rfl) rfl ?_
  refine wp_oinit (st := []) (dcd d_Sh_init_0 1 rfl) ko_Sh_3 ko_i ko_c (by decide) (Nat.le_of_ble_eq_true rfl) ?_
  refine wp_aload_n 0 (dcd d_Sh_init_0 2 rfl) rfl ?_
  refine wp_iconst (v := 0) (dcd d_Sh_init_0 3 rfl) (by decide) ?_
  refine wp_putI f_Sh_9 rfl nf_4_0 (dcd d_Sh_init_0 4 rfl) ho ?_
  refine wp_aload_n 0 (dcd d_Sh_init_0 5 rfl) rfl ?_
  refine wp_iconst (v := 0) (dcd d_Sh_init_0 6 rfl) (by decide) ?_
  refine wp_putI f_Sh_15 rfl nf_4_1 (dcd d_Sh_init_0 7 rfl) ho ?_
  refine wp_aload_n 0 (dcd d_Sh_init_0 8 rfl) rfl ?_
  refine wp_iconst (v := 0) (dcd d_Sh_init_0 9 rfl) (by decide) ?_
  refine wp_putI f_Sh_18 rfl nf_4_2 (dcd d_Sh_init_0 10 rfl) ho ?_
  refine wp_aload_n 0 (dcd d_Sh_init_0 11 rfl) rfl ?_
  refine wp_iconst (v := 0) (dcd d_Sh_init_0 12 rfl) (by decide) ?_
  refine wp_putI f_Sh_21 rfl nf_4_3 (dcd d_Sh_init_0 13 rfl) ho ?_
  refine wp_aload_n 0 (dcd d_Sh_init_0 14 rfl) rfl ?_
  refine wp_iconst (v := 0) (dcd d_Sh_init_0 15 rfl) (by decide) ?_
  refine wp_putI f_Sh_24 rfl nf_4_4 (dcd d_Sh_init_0 16 rfl) ho ?_
  exact wp_vret (dcd d_Sh_init_0 17 rfl) rfl ⟨rfl, rfl⟩
end CT
