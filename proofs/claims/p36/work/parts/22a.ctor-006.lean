section CT
variable {G : pG} {u : pM}
theorem i_Sp {o : Nat} {x : Int32} {N : Nat} (ho : ok u o 6) (hx : ¬ (if 0 < x then x else 0) < 0) (hN : (if 0 < x then x else 0 : Int32).toNatClampNeg = N) (hb : N * 4 ≤ 536870912) : Wp G Sp_init 1 N 0 [(0, .ref o), (1, .int x)] [] u (fun r u' => r = none ∧ u' = fSp u o N) := by
  refine Wp.more (ks := 0 + N) ?_ (by omega)
  refine wp_aload_n 0 (dcd d_Sp_init_0 0 rfl) rfl ?_
  refine wp_oinit (st := []) (dcd d_Sp_init_0 1 rfl) ko_Sp_3 ko_i ko_c (by decide) (Nat.le_of_ble_eq_true rfl) ?_
  refine wp_aload_n 0 (dcd d_Sp_init_0 2 rfl) rfl ?_
  refine wp_iconst (v := (-1)) (dcd d_Sp_init_0 3 rfl) (by decide) ?_
  refine wp_putI f_Sp_9 rfl nf_6_1 (dcd d_Sp_init_0 4 rfl) ho ?_
  refine wp_aload_n 0 (dcd d_Sp_init_0 5 rfl) rfl ?_
  refine wp_iconst (v := 0) (dcd d_Sp_init_0 6 rfl) (by decide) ?_
  refine wp_iload_n 1 (dcd d_Sp_init_0 7 rfl) rfl ?_
  refine wp_maxI (dcd d_Sp_init_0 8 rfl) km_Sp_15 ms_maxI in_jm mc_maxI ⟨by decide, Nat.le_of_ble_eq_true rfl⟩ ?_
  refine wp_newI (kc := 0) (ks := 0) (N := N) ar_I (dcd d_Sp_init_0 9 rfl) hx hN hb ?_
  refine wp_putRF f_Sp_21 rfl nf_6_0 rfl (dcd d_Sp_init_0 10 rfl) (ok_pN ho) (Nat.succ_ne_zero _) ?_
  exact wp_vret (dcd d_Sp_init_0 11 rfl) rfl ⟨rfl, rfl⟩
end CT
