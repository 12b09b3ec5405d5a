section CT
variable {G : pG} {u : pM}
theorem i_Er {o : Nat} (ho : ok u o 1) : Wp G Er_init 2 256 0 [(0, .ref o)] [] u (fun r u' => r = none ∧ u' = fEr u o) := by
  refine wp_aload_n 0 (dcd d_Er_init_0 0 rfl) rfl ?_
  refine wp_oinit (st := []) (dcd d_Er_init_0 1 rfl) ko_Er_5 ko_i ko_c (by decide) (Nat.le_of_ble_eq_true rfl) ?_
  refine wp_aload_n 0 (dcd d_Er_init_0 2 rfl) rfl ?_
  refine wp_sipush (v := 128) (dcd d_Er_init_0 3 rfl) (by decide) ?_
  refine wp_newJ (N := 128) ar_J (dcd d_Er_init_0 4 rfl) (by decide) (by decide) (by decide) ?_
  refine wp_putRF f_Er_11 rfl nf_1_0 rfl (dcd d_Er_init_0 5 rfl) (ok_pN ho) (Nat.succ_ne_zero _) ?_
  refine wp_aload_n 0 (dcd d_Er_init_0 6 rfl) rfl ?_
  refine wp_sipush (v := 128) (dcd d_Er_init_0 7 rfl) (by decide) ?_
  refine wp_newJ (N := 128) ar_J (dcd d_Er_init_0 8 rfl) (by decide) (by decide) (by decide) ?_
  refine wp_putRF f_Er_15 rfl nf_1_1 rfl (dcd d_Er_init_0 9 rfl) (ok_pN (ok_pN ho)) (Nat.succ_ne_zero _) ?_
  exact wp_vret (dcd d_Er_init_0 10 rfl) rfl ⟨rfl, rfl⟩
end CT
