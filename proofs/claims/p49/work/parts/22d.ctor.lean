/-! ===== constructors at the start ===== -/
section CW
variable {G : pG}
theorem law_pre_D1_Pl28_b96 : Wp G Pl_init 1 5 70 [(1, .int 5), (0, .ref 22)] [.ref 34, .ref 34, .int 5, .ref 23] Z56 (fun r u' => r = none ∧ u' = Z61) := by
  refine wp_callIZ (kc' := 0) (ks' := 0) (kc := 1) (ks := 5) (o := 34) (As := []) (st := [.ref 34, .int 5, .ref 23]) (la := [(0, .ref 34)]) (u' := Z57) (dcd d_Pl_init_1 6 rfl) cm_Sh_init k_Pl_24 ci_Sh_init rfl rfl ⟨by decide, by decide⟩ rfl (Nat.le_of_ble_eq_true rfl) (Nat.le_of_ble_eq_true rfl) rfl (i_Sh (okd (by decide +kernel))) rfl ?_
  refine wp_aastZ (L := 7) (j := 5) (kd := 104) (ci := 4) (u' := Z58) (dcd d_Pl_init_1 7 rfl) (okd (by decide +kernel)) (by decide +kernel) (vin (by decide) (by decide) (by decide)) (by decide) (by decide) (okd (by decide +kernel)) cl_4.1 rfl (by decide) rfl ?_
  refine wp_iincZ (v := 1) (y := 6) (l' := [(1, .int 6), (0, .ref 22)]) 0 (dcd d_Pl_init_1 8 rfl) rfl (by decide) (by decide) (by decide) rfl ?_
  refine wp_goto (tgt := 55) (dcd d_Pl_init_1 9 rfl) (by decide) ?_
  refine wp_iload_n 0 (dcd d_Pl_init_0 28 rfl) rfl ?_
  refine wp_bipush (v := 7) (dcd d_Pl_init_0 29 rfl) (by decide) ?_
  refine wp_icmp_ge (tgt := 80) (dcd d_Pl_init_1 0 rfl) (by decide) (fun c => absurd c (by decide)) (fun _ => ?_)
  refine wp_aload_n 1 (dcd d_Pl_init_1 1 rfl) rfl ?_
  refine wp_getRZ (a := 23) f_Pl_20 rfl (dcd d_Pl_init_1 2 rfl) (okd (by decide +kernel)) (by decide +kernel) (by decide) ?_
  refine wp_iload_n 0 (dcd d_Pl_init_1 3 rfl) rfl ?_
  refine wp_newZ (kc := 0) (ks := 0) (N := 5) (a := 35) (u' := Z59) ⟨_, _, cl_4, rfl, by decide, c_Pl_18, n_4, in_Sh⟩ (dcd d_Pl_init_1 4 rfl) (by decide +kernel) rfl ?_
  refine wp_dup (dcd d_Pl_init_1 5 rfl) rfl ?_
  refine wp_callIZ (kc' := 0) (ks' := 0) (kc := 0) (ks := 0) (o := 35) (As := []) (st := [.ref 35, .int 6, .ref 23]) (la := [(0, .ref 35)]) (u' := Z60) (dcd d_Pl_init_1 6 rfl) cm_Sh_init k_Pl_24 ci_Sh_init rfl rfl ⟨by decide, by decide⟩ rfl (Nat.le_of_ble_eq_true rfl) (Nat.le_of_ble_eq_true rfl) rfl (i_Sh (okd (by decide +kernel))) rfl ?_
  refine wp_aastZ (L := 7) (j := 6) (kd := 104) (ci := 4) (u' := Z61) (dcd d_Pl_init_1 7 rfl) (okd (by decide +kernel)) (by decide +kernel) (vin (by decide) (by decide) (by decide)) (by decide) (by decide) (okd (by decide +kernel)) cl_4.1 rfl (by decide) rfl ?_
  refine wp_iincZ (v := 1) (y := 7) (l' := [(1, .int 7), (0, .ref 22)]) 0 (dcd d_Pl_init_1 8 rfl) rfl (by decide) (by decide) (by decide) rfl ?_
  refine wp_goto (tgt := 55) (dcd d_Pl_init_1 9 rfl) (by decide) ?_
  refine wp_iload_n 0 (dcd d_Pl_init_0 28 rfl) rfl ?_
  refine wp_bipush (v := 7) (dcd d_Pl_init_0 29 rfl) (by decide) ?_
  refine wp_icmp_ge (tgt := 80) (dcd d_Pl_init_1 0 rfl) (by decide) (fun _ => ?_) (fun c => absurd (by decide) c)
  exact wp_vret (dcd d_Pl_init_1 10 rfl) rfl ⟨rfl, rfl⟩
theorem law_pre_D1_Pl28_b72 : Wp G Pl_init 3 15 70 [(1, .int 3), (0, .ref 22)] [.ref 32, .ref 32, .int 3, .ref 23] Z50 (fun r u' => r = none ∧ u' = Z61) := by
  refine wp_callIZ (kc' := 0) (ks' := 0) (kc := 3) (ks := 15) (o := 32) (As := []) (st := [.ref 32, .int 3, .ref 23]) (la := [(0, .ref 32)]) (u' := Z51) (dcd d_Pl_init_1 6 rfl) cm_Sh_init k_Pl_24 ci_Sh_init rfl rfl ⟨by decide, by decide⟩ rfl (Nat.le_of_ble_eq_true rfl) (Nat.le_of_ble_eq_true rfl) rfl (i_Sh (okd (by decide +kernel))) rfl ?_
  refine wp_aastZ (L := 7) (j := 3) (kd := 104) (ci := 4) (u' := Z52) (dcd d_Pl_init_1 7 rfl) (okd (by decide +kernel)) (by decide +kernel) (vin (by decide) (by decide) (by decide)) (by decide) (by decide) (okd (by decide +kernel)) cl_4.1 rfl (by decide) rfl ?_
  refine wp_iincZ (v := 1) (y := 4) (l' := [(1, .int 4), (0, .ref 22)]) 0 (dcd d_Pl_init_1 8 rfl) rfl (by decide) (by decide) (by decide) rfl ?_
  refine wp_goto (tgt := 55) (dcd d_Pl_init_1 9 rfl) (by decide) ?_
  refine wp_iload_n 0 (dcd d_Pl_init_0 28 rfl) rfl ?_
  refine wp_bipush (v := 7) (dcd d_Pl_init_0 29 rfl) (by decide) ?_
  refine wp_icmp_ge (tgt := 80) (dcd d_Pl_init_1 0 rfl) (by decide) (fun c => absurd c (by decide)) (fun _ => ?_)
  refine wp_aload_n 1 (dcd d_Pl_init_1 1 rfl) rfl ?_
  refine wp_getRZ (a := 23) f_Pl_20 rfl (dcd d_Pl_init_1 2 rfl) (okd (by decide +kernel)) (by decide +kernel) (by decide) ?_
  refine wp_iload_n 0 (dcd d_Pl_init_1 3 rfl) rfl ?_
  refine wp_newZ (kc := 2) (ks := 10) (N := 5) (a := 33) (u' := Z53) ⟨_, _, cl_4, rfl, by decide, c_Pl_18, n_4, in_Sh⟩ (dcd d_Pl_init_1 4 rfl) (by decide +kernel) rfl ?_
  refine wp_dup (dcd d_Pl_init_1 5 rfl) rfl ?_
  refine wp_callIZ (kc' := 0) (ks' := 0) (kc := 2) (ks := 10) (o := 33) (As := []) (st := [.ref 33, .int 4, .ref 23]) (la := [(0, .ref 33)]) (u' := Z54) (dcd d_Pl_init_1 6 rfl) cm_Sh_init k_Pl_24 ci_Sh_init rfl rfl ⟨by decide, by decide⟩ rfl (Nat.le_of_ble_eq_true rfl) (Nat.le_of_ble_eq_true rfl) rfl (i_Sh (okd (by decide +kernel))) rfl ?_
  refine wp_aastZ (L := 7) (j := 4) (kd := 104) (ci := 4) (u' := Z55) (dcd d_Pl_init_1 7 rfl) (okd (by decide +kernel)) (by decide +kernel) (vin (by decide) (by decide) (by decide)) (by decide) (by decide) (okd (by decide +kernel)) cl_4.1 rfl (by decide) rfl ?_
  refine wp_iincZ (v := 1) (y := 5) (l' := [(1, .int 5), (0, .ref 22)]) 0 (dcd d_Pl_init_1 8 rfl) rfl (by decide) (by decide) (by decide) rfl ?_
  refine wp_goto (tgt := 55) (dcd d_Pl_init_1 9 rfl) (by decide) ?_
  refine wp_iload_n 0 (dcd d_Pl_init_0 28 rfl) rfl ?_
  refine wp_bipush (v := 7) (dcd d_Pl_init_0 29 rfl) (by decide) ?_
  refine wp_icmp_ge (tgt := 80) (dcd d_Pl_init_1 0 rfl) (by decide) (fun c => absurd c (by decide)) (fun _ => ?_)
  refine wp_aload_n 1 (dcd d_Pl_init_1 1 rfl) rfl ?_
  refine wp_getRZ (a := 23) f_Pl_20 rfl (dcd d_Pl_init_1 2 rfl) (okd (by decide +kernel)) (by decide +kernel) (by decide) ?_
  refine wp_iload_n 0 (dcd d_Pl_init_1 3 rfl) rfl ?_
  refine wp_newZ (kc := 1) (ks := 5) (N := 5) (a := 34) (u' := Z56) ⟨_, _, cl_4, rfl, by decide, c_Pl_18, n_4, in_Sh⟩ (dcd d_Pl_init_1 4 rfl) (by decide +kernel) rfl ?_
  refine wp_dup (dcd d_Pl_init_1 5 rfl) rfl ?_
  exact law_pre_D1_Pl28_b96
theorem law_pre_D1_Pl28_b48 : Wp G Pl_init 5 25 70 [(1, .int 1), (0, .ref 22)] [.ref 30, .ref 30, .int 1, .ref 23] Z44 (fun r u' => r = none ∧ u' = Z61) := by
  refine wp_callIZ (kc' := 0) (ks' := 0) (kc := 5) (ks := 25) (o := 30) (As := []) (st := [.ref 30, .int 1, .ref 23]) (la := [(0, .ref 30)]) (u' := Z45) (dcd d_Pl_init_1 6 rfl) cm_Sh_init k_Pl_24 ci_Sh_init rfl rfl ⟨by decide, by decide⟩ rfl (Nat.le_of_ble_eq_true rfl) (Nat.le_of_ble_eq_true rfl) rfl (i_Sh (okd (by decide +kernel))) rfl ?_
  refine wp_aastZ (L := 7) (j := 1) (kd := 104) (ci := 4) (u' := Z46) (dcd d_Pl_init_1 7 rfl) (okd (by decide +kernel)) (by decide +kernel) (vin (by decide) (by decide) (by decide)) (by decide) (by decide) (okd (by decide +kernel)) cl_4.1 rfl (by decide) rfl ?_
  refine wp_iincZ (v := 1) (y := 2) (l' := [(1, .int 2), (0, .ref 22)]) 0 (dcd d_Pl_init_1 8 rfl) rfl (by decide) (by decide) (by decide) rfl ?_
  refine wp_goto (tgt := 55) (dcd d_Pl_init_1 9 rfl) (by decide) ?_
  refine wp_iload_n 0 (dcd d_Pl_init_0 28 rfl) rfl ?_
  refine wp_bipush (v := 7) (dcd d_Pl_init_0 29 rfl) (by decide) ?_
  refine wp_icmp_ge (tgt := 80) (dcd d_Pl_init_1 0 rfl) (by decide) (fun c => absurd c (by decide)) (fun _ => ?_)
  refine wp_aload_n 1 (dcd d_Pl_init_1 1 rfl) rfl ?_
  refine wp_getRZ (a := 23) f_Pl_20 rfl (dcd d_Pl_init_1 2 rfl) (okd (by decide +kernel)) (by decide +kernel) (by decide) ?_
  refine wp_iload_n 0 (dcd d_Pl_init_1 3 rfl) rfl ?_
  refine wp_newZ (kc := 4) (ks := 20) (N := 5) (a := 31) (u' := Z47) ⟨_, _, cl_4, rfl, by decide, c_Pl_18, n_4, in_Sh⟩ (dcd d_Pl_init_1 4 rfl) (by decide +kernel) rfl ?_
  refine wp_dup (dcd d_Pl_init_1 5 rfl) rfl ?_
  refine wp_callIZ (kc' := 0) (ks' := 0) (kc := 4) (ks := 20) (o := 31) (As := []) (st := [.ref 31, .int 2, .ref 23]) (la := [(0, .ref 31)]) (u' := Z48) (dcd d_Pl_init_1 6 rfl) cm_Sh_init k_Pl_24 ci_Sh_init rfl rfl ⟨by decide, by decide⟩ rfl (Nat.le_of_ble_eq_true rfl) (Nat.le_of_ble_eq_true rfl) rfl (i_Sh (okd (by decide +kernel))) rfl ?_
  refine wp_aastZ (L := 7) (j := 2) (kd := 104) (ci := 4) (u' := Z49) (dcd d_Pl_init_1 7 rfl) (okd (by decide +kernel)) (by decide +kernel) (vin (by decide) (by decide) (by decide)) (by decide) (by decide) (okd (by decide +kernel)) cl_4.1 rfl (by decide) rfl ?_
  refine wp_iincZ (v := 1) (y := 3) (l' := [(1, .int 3), (0, .ref 22)]) 0 (dcd d_Pl_init_1 8 rfl) rfl (by decide) (by decide) (by decide) rfl ?_
  refine wp_goto (tgt := 55) (dcd d_Pl_init_1 9 rfl) (by decide) ?_
  refine wp_iload_n 0 (dcd d_Pl_init_0 28 rfl) rfl ?_
  refine wp_bipush (v := 7) (dcd d_Pl_init_0 29 rfl) (by decide) ?_
  refine wp_icmp_ge (tgt := 80) (dcd d_Pl_init_1 0 rfl) (by decide) (fun c => absurd c (by decide)) (fun _ => ?_)
  refine wp_aload_n 1 (dcd d_Pl_init_1 1 rfl) rfl ?_
  refine wp_getRZ (a := 23) f_Pl_20 rfl (dcd d_Pl_init_1 2 rfl) (okd (by decide +kernel)) (by decide +kernel) (by decide) ?_
  refine wp_iload_n 0 (dcd d_Pl_init_1 3 rfl) rfl ?_
  refine wp_newZ (kc := 3) (ks := 15) (N := 5) (a := 32) (u' := Z50) ⟨_, _, cl_4, rfl, by decide, c_Pl_18, n_4, in_Sh⟩ (dcd d_Pl_init_1 4 rfl) (by decide +kernel) rfl ?_
  refine wp_dup (dcd d_Pl_init_1 5 rfl) rfl ?_
  exact law_pre_D1_Pl28_b72
theorem law_pre_D1_Pl28_b24 : Wp G Pl_init 9 37 47 [(0, .ref 22)] [.ref 26, .ref 26, .ref 22] Z38 (fun r u' => r = none ∧ u' = Z61) := by
  refine wp_callIZ (kc' := 2) (ks' := 2) (kc := 7) (ks := 35) (o := 26) (As := []) (st := [.ref 26, .ref 22]) (la := [(0, .ref 26)]) (u' := Z39) (dcd d_Pl_init_0 24 rfl) cm_Rd_init k_Pl_35 ci_Rd_init rfl rfl ⟨by decide, by decide⟩ rfl (Nat.le_of_ble_eq_true rfl) (Nat.le_of_ble_eq_true rfl) rfl (i_Rd (okd (by decide +kernel))) rfl ?_
  refine wp_putRFZ (u' := Z40) f_Pl_36 rfl nf_2_5 rfl (dcd d_Pl_init_0 25 rfl) (okd (by decide +kernel)) (by decide) rfl ?_
  refine wp_iconst (v := 0) (dcd d_Pl_init_0 26 rfl) (by decide) ?_
  refine wp_istore_n (l' := [(1, .int 0), (0, .ref 22)]) (dcd d_Pl_init_0 27 rfl) (by decide) rfl ?_
  refine wp_iload_n 0 (dcd d_Pl_init_0 28 rfl) rfl ?_
  refine wp_bipush (v := 7) (dcd d_Pl_init_0 29 rfl) (by decide) ?_
  refine wp_icmp_ge (tgt := 80) (dcd d_Pl_init_1 0 rfl) (by decide) (fun c => absurd c (by decide)) (fun _ => ?_)
  refine wp_aload_n 1 (dcd d_Pl_init_1 1 rfl) rfl ?_
  refine wp_getRZ (a := 23) f_Pl_20 rfl (dcd d_Pl_init_1 2 rfl) (okd (by decide +kernel)) (by decide +kernel) (by decide) ?_
  refine wp_iload_n 0 (dcd d_Pl_init_1 3 rfl) rfl ?_
  refine wp_newZ (kc := 6) (ks := 30) (N := 5) (a := 29) (u' := Z41) ⟨_, _, cl_4, rfl, by decide, c_Pl_18, n_4, in_Sh⟩ (dcd d_Pl_init_1 4 rfl) (by decide +kernel) rfl ?_
  refine wp_dup (dcd d_Pl_init_1 5 rfl) rfl ?_
  refine wp_callIZ (kc' := 0) (ks' := 0) (kc := 6) (ks := 30) (o := 29) (As := []) (st := [.ref 29, .int 0, .ref 23]) (la := [(0, .ref 29)]) (u' := Z42) (dcd d_Pl_init_1 6 rfl) cm_Sh_init k_Pl_24 ci_Sh_init rfl rfl ⟨by decide, by decide⟩ rfl (Nat.le_of_ble_eq_true rfl) (Nat.le_of_ble_eq_true rfl) rfl (i_Sh (okd (by decide +kernel))) rfl ?_
  refine wp_aastZ (L := 7) (j := 0) (kd := 104) (ci := 4) (u' := Z43) (dcd d_Pl_init_1 7 rfl) (okd (by decide +kernel)) (by decide +kernel) (vin (by decide) (by decide) (by decide)) (by decide) (by decide) (okd (by decide +kernel)) cl_4.1 rfl (by decide) rfl ?_
  refine wp_iincZ (v := 1) (y := 1) (l' := [(1, .int 1), (0, .ref 22)]) 0 (dcd d_Pl_init_1 8 rfl) rfl (by decide) (by decide) (by decide) rfl ?_
  refine wp_goto (tgt := 55) (dcd d_Pl_init_1 9 rfl) (by decide) ?_
  refine wp_iload_n 0 (dcd d_Pl_init_0 28 rfl) rfl ?_
  refine wp_bipush (v := 7) (dcd d_Pl_init_0 29 rfl) (by decide) ?_
  refine wp_icmp_ge (tgt := 80) (dcd d_Pl_init_1 0 rfl) (by decide) (fun c => absurd c (by decide)) (fun _ => ?_)
  refine wp_aload_n 1 (dcd d_Pl_init_1 1 rfl) rfl ?_
  refine wp_getRZ (a := 23) f_Pl_20 rfl (dcd d_Pl_init_1 2 rfl) (okd (by decide +kernel)) (by decide +kernel) (by decide) ?_
  refine wp_iload_n 0 (dcd d_Pl_init_1 3 rfl) rfl ?_
  refine wp_newZ (kc := 5) (ks := 25) (N := 5) (a := 30) (u' := Z44) ⟨_, _, cl_4, rfl, by decide, c_Pl_18, n_4, in_Sh⟩ (dcd d_Pl_init_1 4 rfl) (by decide +kernel) rfl ?_
  refine wp_dup (dcd d_Pl_init_1 5 rfl) rfl ?_
  exact law_pre_D1_Pl28_b48
theorem law_pre_D1_Pl28 : Wp G Pl_init 13 59 0 [(0, .ref 22)] [] Z28 (fun r u' => r = none ∧ u' = Z61) := by
  refine wp_aload_n 0 (dcd d_Pl_init_0 0 rfl) rfl ?_
  refine wp_oinit (st := []) (dcd d_Pl_init_0 1 rfl) ko_Pl_3 ko_i ko_c (by decide) (Nat.le_of_ble_eq_true rfl) ?_
  refine wp_aload_n 0 (dcd d_Pl_init_0 2 rfl) rfl ?_
  refine wp_iconst (v := 0) (dcd d_Pl_init_0 3 rfl) (by decide) ?_
  refine wp_putIZ (u' := Z29) f_Pl_9 rfl nf_2_0 (dcd d_Pl_init_0 4 rfl) (okd (by decide +kernel)) rfl ?_
  refine wp_aload_n 0 (dcd d_Pl_init_0 5 rfl) rfl ?_
  refine wp_iconst (v := 0) (dcd d_Pl_init_0 6 rfl) (by decide) ?_
  refine wp_putIZ (u' := Z30) f_Pl_15 rfl nf_2_1 (dcd d_Pl_init_0 7 rfl) (okd (by decide +kernel)) rfl ?_
  refine wp_aload_n 0 (dcd d_Pl_init_0 8 rfl) rfl ?_
  refine wp_bipush (v := 7) (dcd d_Pl_init_0 9 rfl) (by decide) ?_
  refine wp_newAZ (kc := 12) (ks := 52) (N := 7) (kd := 104) (a := 23) (u' := Z31) (by decide) c_Pl_18 (dcd d_Pl_init_0 10 rfl) (by decide) (by decide) (by decide) (by decide +kernel) rfl ?_
  refine wp_putRFZ (u' := Z32) f_Pl_20 rfl nf_2_2 rfl (dcd d_Pl_init_0 11 rfl) (okd (by decide +kernel)) (by decide) rfl ?_
  refine wp_aload_n 0 (dcd d_Pl_init_0 12 rfl) rfl ?_
  refine wp_newZ (kc := 11) (ks := 47) (N := 5) (a := 24) (u' := Z33) ⟨_, _, cl_4, rfl, by decide, c_Pl_18, n_4, in_Sh⟩ (dcd d_Pl_init_0 13 rfl) (by decide +kernel) rfl ?_
  refine wp_dup (dcd d_Pl_init_0 14 rfl) rfl ?_
  refine wp_callIZ (kc' := 0) (ks' := 0) (kc := 11) (ks := 47) (o := 24) (As := []) (st := [.ref 24, .ref 22]) (la := [(0, .ref 24)]) (u' := Z34) (dcd d_Pl_init_0 15 rfl) cm_Sh_init k_Pl_24 ci_Sh_init rfl rfl ⟨by decide, by decide⟩ rfl (Nat.le_of_ble_eq_true rfl) (Nat.le_of_ble_eq_true rfl) rfl (i_Sh (okd (by decide +kernel))) rfl ?_
  refine wp_putRFZ (u' := Z35) f_Pl_25 rfl nf_2_3 rfl (dcd d_Pl_init_0 16 rfl) (okd (by decide +kernel)) (by decide) rfl ?_
  refine wp_aload_n 0 (dcd d_Pl_init_0 17 rfl) rfl ?_
  refine wp_bipush (v := 7) (dcd d_Pl_init_0 18 rfl) (by decide) ?_
  refine wp_newIZ (kc := 10) (ks := 40) (N := 7) (a := 25) (u' := Z36) ar_I (dcd d_Pl_init_0 19 rfl) (by decide) (by decide) (by decide) (by decide +kernel) rfl ?_
  refine wp_putRFZ (u' := Z37) f_Pl_29 rfl nf_2_4 rfl (dcd d_Pl_init_0 20 rfl) (okd (by decide +kernel)) (by decide) rfl ?_
  refine wp_aload_n 0 (dcd d_Pl_init_0 21 rfl) rfl ?_
  refine wp_newZ (kc := 9) (ks := 37) (N := 3) (a := 26) (u' := Z38) ⟨_, _, cl_3, rfl, by decide, c_Pl_33, n_3, in_Rd⟩ (dcd d_Pl_init_0 22 rfl) (by decide +kernel) rfl ?_
  refine wp_dup (dcd d_Pl_init_0 23 rfl) rfl ?_
  exact law_pre_D1_Pl28_b24
theorem law_pre_D1_Pl63_b96 : Wp G Pl_init 1 5 70 [(1, .int 5), (0, .ref 36)] [.ref 48, .ref 48, .int 5, .ref 37] Z91 (fun r u' => r = none ∧ u' = Z96) := by
  refine wp_callIZ (kc' := 0) (ks' := 0) (kc := 1) (ks := 5) (o := 48) (As := []) (st := [.ref 48, .int 5, .ref 37]) (la := [(0, .ref 48)]) (u' := Z92) (dcd d_Pl_init_1 6 rfl) cm_Sh_init k_Pl_24 ci_Sh_init rfl rfl ⟨by decide, by decide⟩ rfl (Nat.le_of_ble_eq_true rfl) (Nat.le_of_ble_eq_true rfl) rfl (i_Sh (okd (by decide +kernel))) rfl ?_
  refine wp_aastZ (L := 7) (j := 5) (kd := 104) (ci := 4) (u' := Z93) (dcd d_Pl_init_1 7 rfl) (okd (by decide +kernel)) (by decide +kernel) (vin (by decide) (by decide) (by decide)) (by decide) (by decide) (okd (by decide +kernel)) cl_4.1 rfl (by decide) rfl ?_
  refine wp_iincZ (v := 1) (y := 6) (l' := [(1, .int 6), (0, .ref 36)]) 0 (dcd d_Pl_init_1 8 rfl) rfl (by decide) (by decide) (by decide) rfl ?_
  refine wp_goto (tgt := 55) (dcd d_Pl_init_1 9 rfl) (by decide) ?_
  refine wp_iload_n 0 (dcd d_Pl_init_0 28 rfl) rfl ?_
  refine wp_bipush (v := 7) (dcd d_Pl_init_0 29 rfl) (by decide) ?_
  refine wp_icmp_ge (tgt := 80) (dcd d_Pl_init_1 0 rfl) (by decide) (fun c => absurd c (by decide)) (fun _ => ?_)
  refine wp_aload_n 1 (dcd d_Pl_init_1 1 rfl) rfl ?_
  refine wp_getRZ (a := 37) f_Pl_20 rfl (dcd d_Pl_init_1 2 rfl) (okd (by decide +kernel)) (by decide +kernel) (by decide) ?_
  refine wp_iload_n 0 (dcd d_Pl_init_1 3 rfl) rfl ?_
  refine wp_newZ (kc := 0) (ks := 0) (N := 5) (a := 49) (u' := Z94) ⟨_, _, cl_4, rfl, by decide, c_Pl_18, n_4, in_Sh⟩ (dcd d_Pl_init_1 4 rfl) (by decide +kernel) rfl ?_
  refine wp_dup (dcd d_Pl_init_1 5 rfl) rfl ?_
  refine wp_callIZ (kc' := 0) (ks' := 0) (kc := 0) (ks := 0) (o := 49) (As := []) (st := [.ref 49, .int 6, .ref 37]) (la := [(0, .ref 49)]) (u' := Z95) (dcd d_Pl_init_1 6 rfl) cm_Sh_init k_Pl_24 ci_Sh_init rfl rfl ⟨by decide, by decide⟩ rfl (Nat.le_of_ble_eq_true rfl) (Nat.le_of_ble_eq_true rfl) rfl (i_Sh (okd (by decide +kernel))) rfl ?_
  refine wp_aastZ (L := 7) (j := 6) (kd := 104) (ci := 4) (u' := Z96) (dcd d_Pl_init_1 7 rfl) (okd (by decide +kernel)) (by decide +kernel) (vin (by decide) (by decide) (by decide)) (by decide) (by decide) (okd (by decide +kernel)) cl_4.1 rfl (by decide) rfl ?_
  refine wp_iincZ (v := 1) (y := 7) (l' := [(1, .int 7), (0, .ref 36)]) 0 (dcd d_Pl_init_1 8 rfl) rfl (by decide) (by decide) (by decide) rfl ?_
  refine wp_goto (tgt := 55) (dcd d_Pl_init_1 9 rfl) (by decide) ?_
  refine wp_iload_n 0 (dcd d_Pl_init_0 28 rfl) rfl ?_
  refine wp_bipush (v := 7) (dcd d_Pl_init_0 29 rfl) (by decide) ?_
  refine wp_icmp_ge (tgt := 80) (dcd d_Pl_init_1 0 rfl) (by decide) (fun _ => ?_) (fun c => absurd (by decide) c)
  exact wp_vret (dcd d_Pl_init_1 10 rfl) rfl ⟨rfl, rfl⟩
theorem law_pre_D1_Pl63_b72 : Wp G Pl_init 3 15 70 [(1, .int 3), (0, .ref 36)] [.ref 46, .ref 46, .int 3, .ref 37] Z85 (fun r u' => r = none ∧ u' = Z96) := by
  refine wp_callIZ (kc' := 0) (ks' := 0) (kc := 3) (ks := 15) (o := 46) (As := []) (st := [.ref 46, .int 3, .ref 37]) (la := [(0, .ref 46)]) (u' := Z86) (dcd d_Pl_init_1 6 rfl) cm_Sh_init k_Pl_24 ci_Sh_init rfl rfl ⟨by decide, by decide⟩ rfl (Nat.le_of_ble_eq_true rfl) (Nat.le_of_ble_eq_true rfl) rfl (i_Sh (okd (by decide +kernel))) rfl ?_
  refine wp_aastZ (L := 7) (j := 3) (kd := 104) (ci := 4) (u' := Z87) (dcd d_Pl_init_1 7 rfl) (okd (by decide +kernel)) (by decide +kernel) (vin (by decide) (by decide) (by decide)) (by decide) (by decide) (okd (by decide +kernel)) cl_4.1 rfl (by decide) rfl ?_
  refine wp_iincZ (v := 1) (y := 4) (l' := [(1, .int 4), (0, .ref 36)]) 0 (dcd d_Pl_init_1 8 rfl) rfl (by decide) (by decide) (by decide) rfl ?_
  refine wp_goto (tgt := 55) (dcd d_Pl_init_1 9 rfl) (by decide) ?_
  refine wp_iload_n 0 (dcd d_Pl_init_0 28 rfl) rfl ?_
  refine wp_bipush (v := 7) (dcd d_Pl_init_0 29 rfl) (by decide) ?_
  refine wp_icmp_ge (tgt := 80) (dcd d_Pl_init_1 0 rfl) (by decide) (fun c => absurd c (by decide)) (fun _ => ?_)
  refine wp_aload_n 1 (dcd d_Pl_init_1 1 rfl) rfl ?_
  refine wp_getRZ (a := 37) f_Pl_20 rfl (dcd d_Pl_init_1 2 rfl) (okd (by decide +kernel)) (by decide +kernel) (by decide) ?_
  refine wp_iload_n 0 (dcd d_Pl_init_1 3 rfl) rfl ?_
  refine wp_newZ (kc := 2) (ks := 10) (N := 5) (a := 47) (u' := Z88) ⟨_, _, cl_4, rfl, by decide, c_Pl_18, n_4, in_Sh⟩ (dcd d_Pl_init_1 4 rfl) (by decide +kernel) rfl ?_
  refine wp_dup (dcd d_Pl_init_1 5 rfl) rfl ?_
  refine wp_callIZ (kc' := 0) (ks' := 0) (kc := 2) (ks := 10) (o := 47) (As := []) (st := [.ref 47, .int 4, .ref 37]) (la := [(0, .ref 47)]) (u' := Z89) (dcd d_Pl_init_1 6 rfl) cm_Sh_init k_Pl_24 ci_Sh_init rfl rfl ⟨by decide, by decide⟩ rfl (Nat.le_of_ble_eq_true rfl) (Nat.le_of_ble_eq_true rfl) rfl (i_Sh (okd (by decide +kernel))) rfl ?_
  refine wp_aastZ (L := 7) (j := 4) (kd := 104) (ci := 4) (u' := Z90) (dcd d_Pl_init_1 7 rfl) (okd (by decide +kernel)) (by decide +kernel) (vin (by decide) (by decide) (by decide)) (by decide) (by decide) (okd (by decide +kernel)) cl_4.1 rfl (by decide) rfl ?_
  refine wp_iincZ (v := 1) (y := 5) (l' := [(1, .int 5), (0, .ref 36)]) 0 (dcd d_Pl_init_1 8 rfl) rfl (by decide) (by decide) (by decide) rfl ?_
  refine wp_goto (tgt := 55) (dcd d_Pl_init_1 9 rfl) (by decide) ?_
  refine wp_iload_n 0 (dcd d_Pl_init_0 28 rfl) rfl ?_
  refine wp_bipush (v := 7) (dcd d_Pl_init_0 29 rfl) (by decide) ?_
  refine wp_icmp_ge (tgt := 80) (dcd d_Pl_init_1 0 rfl) (by decide) (fun c => absurd c (by decide)) (fun _ => ?_)
  refine wp_aload_n 1 (dcd d_Pl_init_1 1 rfl) rfl ?_
  refine wp_getRZ (a := 37) f_Pl_20 rfl (dcd d_Pl_init_1 2 rfl) (okd (by decide +kernel)) (by decide +kernel) (by decide) ?_
  refine wp_iload_n 0 (dcd d_Pl_init_1 3 rfl) rfl ?_
  refine wp_newZ (kc := 1) (ks := 5) (N := 5) (a := 48) (u' := Z91) ⟨_, _, cl_4, rfl, by decide, c_Pl_18, n_4, in_Sh⟩ (dcd d_Pl_init_1 4 rfl) (by decide +kernel) rfl ?_
  refine wp_dup (dcd d_Pl_init_1 5 rfl) rfl ?_
  exact law_pre_D1_Pl63_b96
theorem law_pre_D1_Pl63_b48 : Wp G Pl_init 5 25 70 [(1, .int 1), (0, .ref 36)] [.ref 44, .ref 44, .int 1, .ref 37] Z79 (fun r u' => r = none ∧ u' = Z96) := by
  refine wp_callIZ (kc' := 0) (ks' := 0) (kc := 5) (ks := 25) (o := 44) (As := []) (st := [.ref 44, .int 1, .ref 37]) (la := [(0, .ref 44)]) (u' := Z80) (dcd d_Pl_init_1 6 rfl) cm_Sh_init k_Pl_24 ci_Sh_init rfl rfl ⟨by decide, by decide⟩ rfl (Nat.le_of_ble_eq_true rfl) (Nat.le_of_ble_eq_true rfl) rfl (i_Sh (okd (by decide +kernel))) rfl ?_
  refine wp_aastZ (L := 7) (j := 1) (kd := 104) (ci := 4) (u' := Z81) (dcd d_Pl_init_1 7 rfl) (okd (by decide +kernel)) (by decide +kernel) (vin (by decide) (by decide) (by decide)) (by decide) (by decide) (okd (by decide +kernel)) cl_4.1 rfl (by decide) rfl ?_
  refine wp_iincZ (v := 1) (y := 2) (l' := [(1, .int 2), (0, .ref 36)]) 0 (dcd d_Pl_init_1 8 rfl) rfl (by decide) (by decide) (by decide) rfl ?_
  refine wp_goto (tgt := 55) (dcd d_Pl_init_1 9 rfl) (by decide) ?_
  refine wp_iload_n 0 (dcd d_Pl_init_0 28 rfl) rfl ?_
  refine wp_bipush (v := 7) (dcd d_Pl_init_0 29 rfl) (by decide) ?_
  refine wp_icmp_ge (tgt := 80) (dcd d_Pl_init_1 0 rfl) (by decide) (fun c => absurd c (by decide)) (fun _ => ?_)
  refine wp_aload_n 1 (dcd d_Pl_init_1 1 rfl) rfl ?_
  refine wp_getRZ (a := 37) f_Pl_20 rfl (dcd d_Pl_init_1 2 rfl) (okd (by decide +kernel)) (by decide +kernel) (by decide) ?_
  refine wp_iload_n 0 (dcd d_Pl_init_1 3 rfl) rfl ?_
  refine wp_newZ (kc := 4) (ks := 20) (N := 5) (a := 45) (u' := Z82) ⟨_, _, cl_4, rfl, by decide, c_Pl_18, n_4, in_Sh⟩ (dcd d_Pl_init_1 4 rfl) (by decide +kernel) rfl ?_
  refine wp_dup (dcd d_Pl_init_1 5 rfl) rfl ?_
  refine wp_callIZ (kc' := 0) (ks' := 0) (kc := 4) (ks := 20) (o := 45) (As := []) (st := [.ref 45, .int 2, .ref 37]) (la := [(0, .ref 45)]) (u' := Z83) (dcd d_Pl_init_1 6 rfl) cm_Sh_init k_Pl_24 ci_Sh_init rfl rfl ⟨by decide, by decide⟩ rfl (Nat.le_of_ble_eq_true rfl) (Nat.le_of_ble_eq_true rfl) rfl (i_Sh (okd (by decide +kernel))) rfl ?_
  refine wp_aastZ (L := 7) (j := 2) (kd := 104) (ci := 4) (u' := Z84) (dcd d_Pl_init_1 7 rfl) (okd (by decide +kernel)) (by decide +kernel) (vin (by decide) (by decide) (by decide)) (by decide) (by decide) (okd (by decide +kernel)) cl_4.1 rfl (by decide) rfl ?_
  refine wp_iincZ (v := 1) (y := 3) (l' := [(1, .int 3), (0, .ref 36)]) 0 (dcd d_Pl_init_1 8 rfl) rfl (by decide) (by decide) (by decide) rfl ?_
  refine wp_goto (tgt := 55) (dcd d_Pl_init_1 9 rfl) (by decide) ?_
  refine wp_iload_n 0 (dcd d_Pl_init_0 28 rfl) rfl ?_
  refine wp_bipush (v := 7) (dcd d_Pl_init_0 29 rfl) (by decide) ?_
  refine wp_icmp_ge (tgt := 80) (dcd d_Pl_init_1 0 rfl) (by decide) (fun c => absurd c (by decide)) (fun _ => ?_)
  refine wp_aload_n 1 (dcd d_Pl_init_1 1 rfl) rfl ?_
  refine wp_getRZ (a := 37) f_Pl_20 rfl (dcd d_Pl_init_1 2 rfl) (okd (by decide +kernel)) (by decide +kernel) (by decide) ?_
  refine wp_iload_n 0 (dcd d_Pl_init_1 3 rfl) rfl ?_
  refine wp_newZ (kc := 3) (ks := 15) (N := 5) (a := 46) (u' := Z85) ⟨_, _, cl_4, rfl, by decide, c_Pl_18, n_4, in_Sh⟩ (dcd d_Pl_init_1 4 rfl) (by decide +kernel) rfl ?_
  refine wp_dup (dcd d_Pl_init_1 5 rfl) rfl ?_
  exact law_pre_D1_Pl63_b72
theorem law_pre_D1_Pl63_b24 : Wp G Pl_init 9 37 47 [(0, .ref 36)] [.ref 40, .ref 40, .ref 36] Z73 (fun r u' => r = none ∧ u' = Z96) := by
  refine wp_callIZ (kc' := 2) (ks' := 2) (kc := 7) (ks := 35) (o := 40) (As := []) (st := [.ref 40, .ref 36]) (la := [(0, .ref 40)]) (u' := Z74) (dcd d_Pl_init_0 24 rfl) cm_Rd_init k_Pl_35 ci_Rd_init rfl rfl ⟨by decide, by decide⟩ rfl (Nat.le_of_ble_eq_true rfl) (Nat.le_of_ble_eq_true rfl) rfl (i_Rd (okd (by decide +kernel))) rfl ?_
  refine wp_putRFZ (u' := Z75) f_Pl_36 rfl nf_2_5 rfl (dcd d_Pl_init_0 25 rfl) (okd (by decide +kernel)) (by decide) rfl ?_
  refine wp_iconst (v := 0) (dcd d_Pl_init_0 26 rfl) (by decide) ?_
  refine wp_istore_n (l' := [(1, .int 0), (0, .ref 36)]) (dcd d_Pl_init_0 27 rfl) (by decide) rfl ?_
  refine wp_iload_n 0 (dcd d_Pl_init_0 28 rfl) rfl ?_
  refine wp_bipush (v := 7) (dcd d_Pl_init_0 29 rfl) (by decide) ?_
  refine wp_icmp_ge (tgt := 80) (dcd d_Pl_init_1 0 rfl) (by decide) (fun c => absurd c (by decide)) (fun _ => ?_)
  refine wp_aload_n 1 (dcd d_Pl_init_1 1 rfl) rfl ?_
  refine wp_getRZ (a := 37) f_Pl_20 rfl (dcd d_Pl_init_1 2 rfl) (okd (by decide +kernel)) (by decide +kernel) (by decide) ?_
  refine wp_iload_n 0 (dcd d_Pl_init_1 3 rfl) rfl ?_
  refine wp_newZ (kc := 6) (ks := 30) (N := 5) (a := 43) (u' := Z76) ⟨_, _, cl_4, rfl, by decide, c_Pl_18, n_4, in_Sh⟩ (dcd d_Pl_init_1 4 rfl) (by decide +kernel) rfl ?_
  refine wp_dup (dcd d_Pl_init_1 5 rfl) rfl ?_
  refine wp_callIZ (kc' := 0) (ks' := 0) (kc := 6) (ks := 30) (o := 43) (As := []) (st := [.ref 43, .int 0, .ref 37]) (la := [(0, .ref 43)]) (u' := Z77) (dcd d_Pl_init_1 6 rfl) cm_Sh_init k_Pl_24 ci_Sh_init rfl rfl ⟨by decide, by decide⟩ rfl (Nat.le_of_ble_eq_true rfl) (Nat.le_of_ble_eq_true rfl) rfl (i_Sh (okd (by decide +kernel))) rfl ?_
  refine wp_aastZ (L := 7) (j := 0) (kd := 104) (ci := 4) (u' := Z78) (dcd d_Pl_init_1 7 rfl) (okd (by decide +kernel)) (by decide +kernel) (vin (by decide) (by decide) (by decide)) (by decide) (by decide) (okd (by decide +kernel)) cl_4.1 rfl (by decide) rfl ?_
  refine wp_iincZ (v := 1) (y := 1) (l' := [(1, .int 1), (0, .ref 36)]) 0 (dcd d_Pl_init_1 8 rfl) rfl (by decide) (by decide) (by decide) rfl ?_
  refine wp_goto (tgt := 55) (dcd d_Pl_init_1 9 rfl) (by decide) ?_
  refine wp_iload_n 0 (dcd d_Pl_init_0 28 rfl) rfl ?_
  refine wp_bipush (v := 7) (dcd d_Pl_init_0 29 rfl) (by decide) ?_
  refine wp_icmp_ge (tgt := 80) (dcd d_Pl_init_1 0 rfl) (by decide) (fun c => absurd c (by decide)) (fun _ => ?_)
  refine wp_aload_n 1 (dcd d_Pl_init_1 1 rfl) rfl ?_
  refine wp_getRZ (a := 37) f_Pl_20 rfl (dcd d_Pl_init_1 2 rfl) (okd (by decide +kernel)) (by decide +kernel) (by decide) ?_
  refine wp_iload_n 0 (dcd d_Pl_init_1 3 rfl) rfl ?_
  refine wp_newZ (kc := 5) (ks := 25) (N := 5) (a := 44) (u' := Z79) ⟨_, _, cl_4, rfl, by decide, c_Pl_18, n_4, in_Sh⟩ (dcd d_Pl_init_1 4 rfl) (by decide +kernel) rfl ?_
  refine wp_dup (dcd d_Pl_init_1 5 rfl) rfl ?_
  exact law_pre_D1_Pl63_b48
theorem law_pre_D1_Pl63 : Wp G Pl_init 13 59 0 [(0, .ref 36)] [] Z63 (fun r u' => r = none ∧ u' = Z96) := by
  refine wp_aload_n 0 (dcd d_Pl_init_0 0 rfl) rfl ?_
  refine wp_oinit (st := []) (dcd d_Pl_init_0 1 rfl) ko_Pl_3 ko_i ko_c (by decide) (Nat.le_of_ble_eq_true rfl) ?_
  refine wp_aload_n 0 (dcd d_Pl_init_0 2 rfl) rfl ?_
  refine wp_iconst (v := 0) (dcd d_Pl_init_0 3 rfl) (by decide) ?_
  refine wp_putIZ (u' := Z64) f_Pl_9 rfl nf_2_0 (dcd d_Pl_init_0 4 rfl) (okd (by decide +kernel)) rfl ?_
  refine wp_aload_n 0 (dcd d_Pl_init_0 5 rfl) rfl ?_
  refine wp_iconst (v := 0) (dcd d_Pl_init_0 6 rfl) (by decide) ?_
  refine wp_putIZ (u' := Z65) f_Pl_15 rfl nf_2_1 (dcd d_Pl_init_0 7 rfl) (okd (by decide +kernel)) rfl ?_
  refine wp_aload_n 0 (dcd d_Pl_init_0 8 rfl) rfl ?_
  refine wp_bipush (v := 7) (dcd d_Pl_init_0 9 rfl) (by decide) ?_
  refine wp_newAZ (kc := 12) (ks := 52) (N := 7) (kd := 104) (a := 37) (u' := Z66) (by decide) c_Pl_18 (dcd d_Pl_init_0 10 rfl) (by decide) (by decide) (by decide) (by decide +kernel) rfl ?_
  refine wp_putRFZ (u' := Z67) f_Pl_20 rfl nf_2_2 rfl (dcd d_Pl_init_0 11 rfl) (okd (by decide +kernel)) (by decide) rfl ?_
  refine wp_aload_n 0 (dcd d_Pl_init_0 12 rfl) rfl ?_
  refine wp_newZ (kc := 11) (ks := 47) (N := 5) (a := 38) (u' := Z68) ⟨_, _, cl_4, rfl, by decide, c_Pl_18, n_4, in_Sh⟩ (dcd d_Pl_init_0 13 rfl) (by decide +kernel) rfl ?_
  refine wp_dup (dcd d_Pl_init_0 14 rfl) rfl ?_
  refine wp_callIZ (kc' := 0) (ks' := 0) (kc := 11) (ks := 47) (o := 38) (As := []) (st := [.ref 38, .ref 36]) (la := [(0, .ref 38)]) (u' := Z69) (dcd d_Pl_init_0 15 rfl) cm_Sh_init k_Pl_24 ci_Sh_init rfl rfl ⟨by decide, by decide⟩ rfl (Nat.le_of_ble_eq_true rfl) (Nat.le_of_ble_eq_true rfl) rfl (i_Sh (okd (by decide +kernel))) rfl ?_
  refine wp_putRFZ (u' := Z70) f_Pl_25 rfl nf_2_3 rfl (dcd d_Pl_init_0 16 rfl) (okd (by decide +kernel)) (by decide) rfl ?_
  refine wp_aload_n 0 (dcd d_Pl_init_0 17 rfl) rfl ?_
  refine wp_bipush (v := 7) (dcd d_Pl_init_0 18 rfl) (by decide) ?_
  refine wp_newIZ (kc := 10) (ks := 40) (N := 7) (a := 39) (u' := Z71) ar_I (dcd d_Pl_init_0 19 rfl) (by decide) (by decide) (by decide) (by decide +kernel) rfl ?_
  refine wp_putRFZ (u' := Z72) f_Pl_29 rfl nf_2_4 rfl (dcd d_Pl_init_0 20 rfl) (okd (by decide +kernel)) (by decide) rfl ?_
  refine wp_aload_n 0 (dcd d_Pl_init_0 21 rfl) rfl ?_
  refine wp_newZ (kc := 9) (ks := 37) (N := 3) (a := 40) (u' := Z73) ⟨_, _, cl_3, rfl, by decide, c_Pl_33, n_3, in_Rd⟩ (dcd d_Pl_init_0 22 rfl) (by decide +kernel) rfl ?_
  refine wp_dup (dcd d_Pl_init_0 23 rfl) rfl ?_
  exact law_pre_D1_Pl63_b24
end CW
