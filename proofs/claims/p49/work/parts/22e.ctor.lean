/-! ===== constructors at the start ===== -/
section CW
variable {G : pG}
theorem law_pre_D1_b264 : Wp G D_init 0 0 230 [(1, .int 2), (0, .ref 2)] [.int (-1), .ref 74] Z142 (fun r u' => r = none ∧ u' = Z143) := by
  refine wp_putIZ (u' := Z143) f_D_84 rfl nf_5_0 (dcd d_D_init_3 28 rfl) (okd (by decide +kernel)) rfl ?_
  refine wp_iincZ (v := 1) (y := 3) (l' := [(1, .int 3), (0, .ref 2)]) 0 (dcd d_D_init_3 29 rfl) rfl (by decide) (by decide) (by decide) rfl ?_
  refine wp_goto (tgt := 205) (dcd d_D_init_4 0 rfl) (by decide) ?_
  refine wp_iload_n 0 (dcd d_D_init_3 13 rfl) rfl ?_
  refine wp_iconst (v := 3) (dcd d_D_init_3 14 rfl) (by decide) ?_
  refine wp_icmp_ge (tgt := 239) (dcd d_D_init_3 15 rfl) (by decide) (fun _ => ?_) (fun c => absurd (by decide) c)
  exact wp_vret (dcd d_D_init_4 1 rfl) rfl ⟨rfl, rfl⟩
theorem law_pre_D1_b240 : Wp G D_init 2 10 222 [(1, .int 1), (0, .ref 2)] [.ref 72, .int 1, .ref 9] Z137 (fun r u' => r = none ∧ u' = Z143) := by
  refine wp_aastZ (L := 3) (j := 1) (kd := 103) (ci := 5) (u' := Z138) (dcd d_D_init_3 22 rfl) (okd (by decide +kernel)) (by decide +kernel) (vin (by decide) (by decide) (by decide)) (by decide) (by decide) (okd (by decide +kernel)) cl_5.1 rfl (by decide) rfl ?_
  refine wp_aload_n 1 (dcd d_D_init_3 23 rfl) rfl ?_
  refine wp_getRZ (a := 9) f_D_32 rfl (dcd d_D_init_3 24 rfl) (okd (by decide +kernel)) (by decide +kernel) (by decide) ?_
  refine wp_iload_n 0 (dcd d_D_init_3 25 rfl) rfl ?_
  refine wp_aaldZ (L := 3) (j := 1) (kd := 103) (a := 72) (dcd d_D_init_3 26 rfl) (okd (by decide +kernel)) (by decide +kernel) (vin (by decide) (by decide) (by decide)) (by decide) (by decide) (by decide +kernel) (by decide) ?_
  refine wp_iconst (v := (-1)) (dcd d_D_init_3 27 rfl) (by decide) ?_
  refine wp_putIZ (u' := Z139) f_D_84 rfl nf_5_0 (dcd d_D_init_3 28 rfl) (okd (by decide +kernel)) rfl ?_
  refine wp_iincZ (v := 1) (y := 2) (l' := [(1, .int 2), (0, .ref 2)]) 0 (dcd d_D_init_3 29 rfl) rfl (by decide) (by decide) (by decide) rfl ?_
  refine wp_goto (tgt := 205) (dcd d_D_init_4 0 rfl) (by decide) ?_
  refine wp_iload_n 0 (dcd d_D_init_3 13 rfl) rfl ?_
  refine wp_iconst (v := 3) (dcd d_D_init_3 14 rfl) (by decide) ?_
  refine wp_icmp_ge (tgt := 239) (dcd d_D_init_3 15 rfl) (by decide) (fun c => absurd c (by decide)) (fun _ => ?_)
  refine wp_aload_n 1 (dcd d_D_init_3 16 rfl) rfl ?_
  refine wp_getRZ (a := 9) f_D_32 rfl (dcd d_D_init_3 17 rfl) (okd (by decide +kernel)) (by decide +kernel) (by decide) ?_
  refine wp_iload_n 0 (dcd d_D_init_3 18 rfl) rfl ?_
  refine wp_newZ (kc := 1) (ks := 7) (N := 3) (a := 74) (u' := Z140) ⟨_, _, cl_5, rfl, by decide, c_D_25, n_5, in_Sn⟩ (dcd d_D_init_3 19 rfl) (by decide +kernel) rfl ?_
  refine wp_dup (dcd d_D_init_3 20 rfl) rfl ?_
  refine wp_callIZ (kc' := 1) (ks' := 7) (kc := 0) (ks := 0) (o := 74) (As := []) (st := [.ref 74, .int 2, .ref 9]) (la := [(0, .ref 74)]) (u' := Z141) (dcd d_D_init_3 21 rfl) cm_Sn_init k_D_27 ci_Sn_init rfl rfl ⟨by decide, by decide⟩ rfl (Nat.le_of_ble_eq_true rfl) (Nat.le_of_ble_eq_true rfl) rfl (i_Sn (okd (by decide +kernel))) rfl ?_
  refine wp_aastZ (L := 3) (j := 2) (kd := 103) (ci := 5) (u' := Z142) (dcd d_D_init_3 22 rfl) (okd (by decide +kernel)) (by decide +kernel) (vin (by decide) (by decide) (by decide)) (by decide) (by decide) (okd (by decide +kernel)) cl_5.1 rfl (by decide) rfl ?_
  refine wp_aload_n 1 (dcd d_D_init_3 23 rfl) rfl ?_
  refine wp_getRZ (a := 9) f_D_32 rfl (dcd d_D_init_3 24 rfl) (okd (by decide +kernel)) (by decide +kernel) (by decide) ?_
  refine wp_iload_n 0 (dcd d_D_init_3 25 rfl) rfl ?_
  refine wp_aaldZ (L := 3) (j := 2) (kd := 103) (a := 74) (dcd d_D_init_3 26 rfl) (okd (by decide +kernel)) (by decide +kernel) (vin (by decide) (by decide) (by decide)) (by decide) (by decide) (by decide +kernel) (by decide) ?_
  refine wp_iconst (v := (-1)) (dcd d_D_init_3 27 rfl) (by decide) ?_
  exact law_pre_D1_b264
theorem law_pre_D1_b216 : Wp G D_init 6 30 210 [(1, .int 0), (0, .ref 2)] [] Z131 (fun r u' => r = none ∧ u' = Z143) := by
  refine wp_aload_n 1 (dcd d_D_init_3 16 rfl) rfl ?_
  refine wp_getRZ (a := 9) f_D_32 rfl (dcd d_D_init_3 17 rfl) (okd (by decide +kernel)) (by decide +kernel) (by decide) ?_
  refine wp_iload_n 0 (dcd d_D_init_3 18 rfl) rfl ?_
  refine wp_newZ (kc := 5) (ks := 27) (N := 3) (a := 70) (u' := Z132) ⟨_, _, cl_5, rfl, by decide, c_D_25, n_5, in_Sn⟩ (dcd d_D_init_3 19 rfl) (by decide +kernel) rfl ?_
  refine wp_dup (dcd d_D_init_3 20 rfl) rfl ?_
  refine wp_callIZ (kc' := 1) (ks' := 7) (kc := 4) (ks := 20) (o := 70) (As := []) (st := [.ref 70, .int 0, .ref 9]) (la := [(0, .ref 70)]) (u' := Z133) (dcd d_D_init_3 21 rfl) cm_Sn_init k_D_27 ci_Sn_init rfl rfl ⟨by decide, by decide⟩ rfl (Nat.le_of_ble_eq_true rfl) (Nat.le_of_ble_eq_true rfl) rfl (i_Sn (okd (by decide +kernel))) rfl ?_
  refine wp_aastZ (L := 3) (j := 0) (kd := 103) (ci := 5) (u' := Z134) (dcd d_D_init_3 22 rfl) (okd (by decide +kernel)) (by decide +kernel) (vin (by decide) (by decide) (by decide)) (by decide) (by decide) (okd (by decide +kernel)) cl_5.1 rfl (by decide) rfl ?_
  refine wp_aload_n 1 (dcd d_D_init_3 23 rfl) rfl ?_
  refine wp_getRZ (a := 9) f_D_32 rfl (dcd d_D_init_3 24 rfl) (okd (by decide +kernel)) (by decide +kernel) (by decide) ?_
  refine wp_iload_n 0 (dcd d_D_init_3 25 rfl) rfl ?_
  refine wp_aaldZ (L := 3) (j := 0) (kd := 103) (a := 70) (dcd d_D_init_3 26 rfl) (okd (by decide +kernel)) (by decide +kernel) (vin (by decide) (by decide) (by decide)) (by decide) (by decide) (by decide +kernel) (by decide) ?_
  refine wp_iconst (v := (-1)) (dcd d_D_init_3 27 rfl) (by decide) ?_
  refine wp_putIZ (u' := Z135) f_D_84 rfl nf_5_0 (dcd d_D_init_3 28 rfl) (okd (by decide +kernel)) rfl ?_
  refine wp_iincZ (v := 1) (y := 1) (l' := [(1, .int 1), (0, .ref 2)]) 0 (dcd d_D_init_3 29 rfl) rfl (by decide) (by decide) (by decide) rfl ?_
  refine wp_goto (tgt := 205) (dcd d_D_init_4 0 rfl) (by decide) ?_
  refine wp_iload_n 0 (dcd d_D_init_3 13 rfl) rfl ?_
  refine wp_iconst (v := 3) (dcd d_D_init_3 14 rfl) (by decide) ?_
  refine wp_icmp_ge (tgt := 239) (dcd d_D_init_3 15 rfl) (by decide) (fun c => absurd c (by decide)) (fun _ => ?_)
  refine wp_aload_n 1 (dcd d_D_init_3 16 rfl) rfl ?_
  refine wp_getRZ (a := 9) f_D_32 rfl (dcd d_D_init_3 17 rfl) (okd (by decide +kernel)) (by decide +kernel) (by decide) ?_
  refine wp_iload_n 0 (dcd d_D_init_3 18 rfl) rfl ?_
  refine wp_newZ (kc := 3) (ks := 17) (N := 3) (a := 72) (u' := Z136) ⟨_, _, cl_5, rfl, by decide, c_D_25, n_5, in_Sn⟩ (dcd d_D_init_3 19 rfl) (by decide +kernel) rfl ?_
  refine wp_dup (dcd d_D_init_3 20 rfl) rfl ?_
  refine wp_callIZ (kc' := 1) (ks' := 7) (kc := 2) (ks := 10) (o := 72) (As := []) (st := [.ref 72, .int 1, .ref 9]) (la := [(0, .ref 72)]) (u' := Z137) (dcd d_D_init_3 21 rfl) cm_Sn_init k_D_27 ci_Sn_init rfl rfl ⟨by decide, by decide⟩ rfl (Nat.le_of_ble_eq_true rfl) (Nat.le_of_ble_eq_true rfl) rfl (i_Sn (okd (by decide +kernel))) rfl ?_
  exact law_pre_D1_b240
theorem law_pre_D1_b192 : Wp G D_init 8 132 196 [(1, .int 2), (0, .ref 2)] [.ref 66, .int 2, .ref 4] Z127 (fun r u' => r = none ∧ u' = Z143) := by
  refine wp_aastZ (L := 4) (j := 2) (kd := 102) (ci := 6) (u' := Z128) (dcd d_D_init_3 8 rfl) (okd (by decide +kernel)) (by decide +kernel) (vin (by decide) (by decide) (by decide)) (by decide) (by decide) (okd (by decide +kernel)) cl_6.1 rfl (by decide) rfl ?_
  refine wp_iincZ (v := 1) (y := 3) (l' := [(1, .int 3), (0, .ref 2)]) 0 (dcd d_D_init_3 9 rfl) rfl (by decide) (by decide) (by decide) rfl ?_
  refine wp_goto (tgt := 177) (dcd d_D_init_3 10 rfl) (by decide) ?_
  refine wp_iload_n 0 (dcd d_D_init_2 28 rfl) rfl ?_
  refine wp_iconst (v := 4) (dcd d_D_init_2 29 rfl) (by decide) ?_
  refine wp_icmp_ge (tgt := 203) (dcd d_D_init_3 0 rfl) (by decide) (fun c => absurd c (by decide)) (fun _ => ?_)
  refine wp_aload_n 1 (dcd d_D_init_3 1 rfl) rfl ?_
  refine wp_getRZ (a := 4) f_D_15 rfl (dcd d_D_init_3 2 rfl) (okd (by decide +kernel)) (by decide +kernel) (by decide) ?_
  refine wp_iload_n 0 (dcd d_D_init_3 3 rfl) rfl ?_
  refine wp_newZ (kc := 7) (ks := 130) (N := 2) (a := 68) (u' := Z129) ⟨_, _, cl_6, rfl, by decide, c_D_9, n_6, in_Sp⟩ (dcd d_D_init_3 4 rfl) (by decide +kernel) rfl ?_
  refine wp_dup (dcd d_D_init_3 5 rfl) rfl ?_
  refine wp_bipush (v := 100) (dcd d_D_init_3 6 rfl) (by decide) ?_
  refine wp_callIZ (kc' := 1) (ks' := 100) (kc := 6) (ks := 30) (o := 68) (As := [.int 100]) (st := [.ref 68, .int 3, .ref 4]) (la := [(0, .ref 68), (1, .int 100)]) (u' := Z130) (dcd d_D_init_3 7 rfl) cm_Sp_init k_D_18 ci_Sp_init rfl rfl ⟨by decide, by decide⟩ rfl (Nat.le_of_ble_eq_true rfl) (Nat.le_of_ble_eq_true rfl) rfl (i_Sp (okd (by decide +kernel)) (by decide) (by decide) (by decide)) rfl ?_
  refine wp_aastZ (L := 4) (j := 3) (kd := 102) (ci := 6) (u' := Z131) (dcd d_D_init_3 8 rfl) (okd (by decide +kernel)) (by decide +kernel) (vin (by decide) (by decide) (by decide)) (by decide) (by decide) (okd (by decide +kernel)) cl_6.1 rfl (by decide) rfl ?_
  refine wp_iincZ (v := 1) (y := 4) (l' := [(1, .int 4), (0, .ref 2)]) 0 (dcd d_D_init_3 9 rfl) rfl (by decide) (by decide) (by decide) rfl ?_
  refine wp_goto (tgt := 177) (dcd d_D_init_3 10 rfl) (by decide) ?_
  refine wp_iload_n 0 (dcd d_D_init_2 28 rfl) rfl ?_
  refine wp_iconst (v := 4) (dcd d_D_init_2 29 rfl) (by decide) ?_
  refine wp_icmp_ge (tgt := 203) (dcd d_D_init_3 0 rfl) (by decide) (fun _ => ?_) (fun c => absurd (by decide) c)
  refine wp_iconst (v := 0) (dcd d_D_init_3 11 rfl) (by decide) ?_
  refine wp_istore_n (l' := [(1, .int 0), (0, .ref 2)]) (dcd d_D_init_3 12 rfl) (by decide) rfl ?_
  refine wp_iload_n 0 (dcd d_D_init_3 13 rfl) rfl ?_
  refine wp_iconst (v := 3) (dcd d_D_init_3 14 rfl) (by decide) ?_
  refine wp_icmp_ge (tgt := 239) (dcd d_D_init_3 15 rfl) (by decide) (fun c => absurd c (by decide)) (fun _ => ?_)
  exact law_pre_D1_b216
theorem law_pre_D1_b168 : Wp G D_init 12 336 200 [(1, .int 1), (0, .ref 2)] [] Z122 (fun r u' => r = none ∧ u' = Z143) := by
  refine wp_goto (tgt := 177) (dcd d_D_init_3 10 rfl) (by decide) ?_
  refine wp_iload_n 0 (dcd d_D_init_2 28 rfl) rfl ?_
  refine wp_iconst (v := 4) (dcd d_D_init_2 29 rfl) (by decide) ?_
  refine wp_icmp_ge (tgt := 203) (dcd d_D_init_3 0 rfl) (by decide) (fun c => absurd c (by decide)) (fun _ => ?_)
  refine wp_aload_n 1 (dcd d_D_init_3 1 rfl) rfl ?_
  refine wp_getRZ (a := 4) f_D_15 rfl (dcd d_D_init_3 2 rfl) (okd (by decide +kernel)) (by decide +kernel) (by decide) ?_
  refine wp_iload_n 0 (dcd d_D_init_3 3 rfl) rfl ?_
  refine wp_newZ (kc := 11) (ks := 334) (N := 2) (a := 64) (u' := Z123) ⟨_, _, cl_6, rfl, by decide, c_D_9, n_6, in_Sp⟩ (dcd d_D_init_3 4 rfl) (by decide +kernel) rfl ?_
  refine wp_dup (dcd d_D_init_3 5 rfl) rfl ?_
  refine wp_bipush (v := 100) (dcd d_D_init_3 6 rfl) (by decide) ?_
  refine wp_callIZ (kc' := 1) (ks' := 100) (kc := 10) (ks := 234) (o := 64) (As := [.int 100]) (st := [.ref 64, .int 1, .ref 4]) (la := [(0, .ref 64), (1, .int 100)]) (u' := Z124) (dcd d_D_init_3 7 rfl) cm_Sp_init k_D_18 ci_Sp_init rfl rfl ⟨by decide, by decide⟩ rfl (Nat.le_of_ble_eq_true rfl) (Nat.le_of_ble_eq_true rfl) rfl (i_Sp (okd (by decide +kernel)) (by decide) (by decide) (by decide)) rfl ?_
  refine wp_aastZ (L := 4) (j := 1) (kd := 102) (ci := 6) (u' := Z125) (dcd d_D_init_3 8 rfl) (okd (by decide +kernel)) (by decide +kernel) (vin (by decide) (by decide) (by decide)) (by decide) (by decide) (okd (by decide +kernel)) cl_6.1 rfl (by decide) rfl ?_
  refine wp_iincZ (v := 1) (y := 2) (l' := [(1, .int 2), (0, .ref 2)]) 0 (dcd d_D_init_3 9 rfl) rfl (by decide) (by decide) (by decide) rfl ?_
  refine wp_goto (tgt := 177) (dcd d_D_init_3 10 rfl) (by decide) ?_
  refine wp_iload_n 0 (dcd d_D_init_2 28 rfl) rfl ?_
  refine wp_iconst (v := 4) (dcd d_D_init_2 29 rfl) (by decide) ?_
  refine wp_icmp_ge (tgt := 203) (dcd d_D_init_3 0 rfl) (by decide) (fun c => absurd c (by decide)) (fun _ => ?_)
  refine wp_aload_n 1 (dcd d_D_init_3 1 rfl) rfl ?_
  refine wp_getRZ (a := 4) f_D_15 rfl (dcd d_D_init_3 2 rfl) (okd (by decide +kernel)) (by decide +kernel) (by decide) ?_
  refine wp_iload_n 0 (dcd d_D_init_3 3 rfl) rfl ?_
  refine wp_newZ (kc := 9) (ks := 232) (N := 2) (a := 66) (u' := Z126) ⟨_, _, cl_6, rfl, by decide, c_D_9, n_6, in_Sp⟩ (dcd d_D_init_3 4 rfl) (by decide +kernel) rfl ?_
  refine wp_dup (dcd d_D_init_3 5 rfl) rfl ?_
  refine wp_bipush (v := 100) (dcd d_D_init_3 6 rfl) (by decide) ?_
  refine wp_callIZ (kc' := 1) (ks' := 100) (kc := 8) (ks := 132) (o := 66) (As := [.int 100]) (st := [.ref 66, .int 2, .ref 4]) (la := [(0, .ref 66), (1, .int 100)]) (u' := Z127) (dcd d_D_init_3 7 rfl) cm_Sp_init k_D_18 ci_Sp_init rfl rfl ⟨by decide, by decide⟩ rfl (Nat.le_of_ble_eq_true rfl) (Nat.le_of_ble_eq_true rfl) rfl (i_Sp (okd (by decide +kernel)) (by decide) (by decide) (by decide)) rfl ?_
  exact law_pre_D1_b192
theorem law_pre_D1_b144 : Wp G D_init 16 480 159 [(1, .int 5), (0, .ref 2)] [.int 5, .ref 3] Z116 (fun r u' => r = none ∧ u' = Z143) := by
  refine wp_newZ (kc := 15) (ks := 478) (N := 2) (a := 60) (u' := Z117) ⟨_, _, cl_6, rfl, by decide, c_D_9, n_6, in_Sp⟩ (dcd d_D_init_2 19 rfl) (by decide +kernel) rfl ?_
  refine wp_dup (dcd d_D_init_2 20 rfl) rfl ?_
  refine wp_bipush (v := 40) (dcd d_D_init_2 21 rfl) (by decide) ?_
  refine wp_callIZ (kc' := 1) (ks' := 40) (kc := 14) (ks := 438) (o := 60) (As := [.int 40]) (st := [.ref 60, .int 5, .ref 3]) (la := [(0, .ref 60), (1, .int 40)]) (u' := Z118) (dcd d_D_init_2 22 rfl) cm_Sp_init k_D_18 ci_Sp_init rfl rfl ⟨by decide, by decide⟩ rfl (Nat.le_of_ble_eq_true rfl) (Nat.le_of_ble_eq_true rfl) rfl (i_Sp (okd (by decide +kernel)) (by decide) (by decide) (by decide)) rfl ?_
  refine wp_aastZ (L := 6) (j := 5) (kd := 102) (ci := 6) (u' := Z119) (dcd d_D_init_2 23 rfl) (okd (by decide +kernel)) (by decide +kernel) (vin (by decide) (by decide) (by decide)) (by decide) (by decide) (okd (by decide +kernel)) cl_6.1 rfl (by decide) rfl ?_
  refine wp_iincZ (v := 1) (y := 6) (l' := [(1, .int 6), (0, .ref 2)]) 0 (dcd d_D_init_2 24 rfl) rfl (by decide) (by decide) (by decide) rfl ?_
  refine wp_goto (tgt := 148) (dcd d_D_init_2 25 rfl) (by decide) ?_
  refine wp_iload_n 0 (dcd d_D_init_2 13 rfl) rfl ?_
  refine wp_bipush (v := 6) (dcd d_D_init_2 14 rfl) (by decide) ?_
  refine wp_icmp_ge (tgt := 175) (dcd d_D_init_2 15 rfl) (by decide) (fun _ => ?_) (fun c => absurd (by decide) c)
  refine wp_iconst (v := 0) (dcd d_D_init_2 26 rfl) (by decide) ?_
  refine wp_istore_n (l' := [(1, .int 0), (0, .ref 2)]) (dcd d_D_init_2 27 rfl) (by decide) rfl ?_
  refine wp_iload_n 0 (dcd d_D_init_2 28 rfl) rfl ?_
  refine wp_iconst (v := 4) (dcd d_D_init_2 29 rfl) (by decide) ?_
  refine wp_icmp_ge (tgt := 203) (dcd d_D_init_3 0 rfl) (by decide) (fun c => absurd c (by decide)) (fun _ => ?_)
  refine wp_aload_n 1 (dcd d_D_init_3 1 rfl) rfl ?_
  refine wp_getRZ (a := 4) f_D_15 rfl (dcd d_D_init_3 2 rfl) (okd (by decide +kernel)) (by decide +kernel) (by decide) ?_
  refine wp_iload_n 0 (dcd d_D_init_3 3 rfl) rfl ?_
  refine wp_newZ (kc := 13) (ks := 436) (N := 2) (a := 62) (u' := Z120) ⟨_, _, cl_6, rfl, by decide, c_D_9, n_6, in_Sp⟩ (dcd d_D_init_3 4 rfl) (by decide +kernel) rfl ?_
  refine wp_dup (dcd d_D_init_3 5 rfl) rfl ?_
  refine wp_bipush (v := 100) (dcd d_D_init_3 6 rfl) (by decide) ?_
  refine wp_callIZ (kc' := 1) (ks' := 100) (kc := 12) (ks := 336) (o := 62) (As := [.int 100]) (st := [.ref 62, .int 0, .ref 4]) (la := [(0, .ref 62), (1, .int 100)]) (u' := Z121) (dcd d_D_init_3 7 rfl) cm_Sp_init k_D_18 ci_Sp_init rfl rfl ⟨by decide, by decide⟩ rfl (Nat.le_of_ble_eq_true rfl) (Nat.le_of_ble_eq_true rfl) rfl (i_Sp (okd (by decide +kernel)) (by decide) (by decide) (by decide)) rfl ?_
  refine wp_aastZ (L := 4) (j := 0) (kd := 102) (ci := 6) (u' := Z122) (dcd d_D_init_3 8 rfl) (okd (by decide +kernel)) (by decide +kernel) (vin (by decide) (by decide) (by decide)) (by decide) (by decide) (okd (by decide +kernel)) cl_6.1 rfl (by decide) rfl ?_
  refine wp_iincZ (v := 1) (y := 1) (l' := [(1, .int 1), (0, .ref 2)]) 0 (dcd d_D_init_3 9 rfl) rfl (by decide) (by decide) (by decide) rfl ?_
  exact law_pre_D1_b168
theorem law_pre_D1_b120 : Wp G D_init 19 562 163 [(1, .int 3), (0, .ref 2)] [.ref 56, .ref 56, .int 3, .ref 3] Z111 (fun r u' => r = none ∧ u' = Z143) := by
  refine wp_bipush (v := 40) (dcd d_D_init_2 21 rfl) (by decide) ?_
  refine wp_callIZ (kc' := 1) (ks' := 40) (kc := 18) (ks := 522) (o := 56) (As := [.int 40]) (st := [.ref 56, .int 3, .ref 3]) (la := [(0, .ref 56), (1, .int 40)]) (u' := Z112) (dcd d_D_init_2 22 rfl) cm_Sp_init k_D_18 ci_Sp_init rfl rfl ⟨by decide, by decide⟩ rfl (Nat.le_of_ble_eq_true rfl) (Nat.le_of_ble_eq_true rfl) rfl (i_Sp (okd (by decide +kernel)) (by decide) (by decide) (by decide)) rfl ?_
  refine wp_aastZ (L := 6) (j := 3) (kd := 102) (ci := 6) (u' := Z113) (dcd d_D_init_2 23 rfl) (okd (by decide +kernel)) (by decide +kernel) (vin (by decide) (by decide) (by decide)) (by decide) (by decide) (okd (by decide +kernel)) cl_6.1 rfl (by decide) rfl ?_
  refine wp_iincZ (v := 1) (y := 4) (l' := [(1, .int 4), (0, .ref 2)]) 0 (dcd d_D_init_2 24 rfl) rfl (by decide) (by decide) (by decide) rfl ?_
  refine wp_goto (tgt := 148) (dcd d_D_init_2 25 rfl) (by decide) ?_
  refine wp_iload_n 0 (dcd d_D_init_2 13 rfl) rfl ?_
  refine wp_bipush (v := 6) (dcd d_D_init_2 14 rfl) (by decide) ?_
  refine wp_icmp_ge (tgt := 175) (dcd d_D_init_2 15 rfl) (by decide) (fun c => absurd c (by decide)) (fun _ => ?_)
  refine wp_aload_n 1 (dcd d_D_init_2 16 rfl) rfl ?_
  refine wp_getRZ (a := 3) f_D_11 rfl (dcd d_D_init_2 17 rfl) (okd (by decide +kernel)) (by decide +kernel) (by decide) ?_
  refine wp_iload_n 0 (dcd d_D_init_2 18 rfl) rfl ?_
  refine wp_newZ (kc := 17) (ks := 520) (N := 2) (a := 58) (u' := Z114) ⟨_, _, cl_6, rfl, by decide, c_D_9, n_6, in_Sp⟩ (dcd d_D_init_2 19 rfl) (by decide +kernel) rfl ?_
  refine wp_dup (dcd d_D_init_2 20 rfl) rfl ?_
  refine wp_bipush (v := 40) (dcd d_D_init_2 21 rfl) (by decide) ?_
  refine wp_callIZ (kc' := 1) (ks' := 40) (kc := 16) (ks := 480) (o := 58) (As := [.int 40]) (st := [.ref 58, .int 4, .ref 3]) (la := [(0, .ref 58), (1, .int 40)]) (u' := Z115) (dcd d_D_init_2 22 rfl) cm_Sp_init k_D_18 ci_Sp_init rfl rfl ⟨by decide, by decide⟩ rfl (Nat.le_of_ble_eq_true rfl) (Nat.le_of_ble_eq_true rfl) rfl (i_Sp (okd (by decide +kernel)) (by decide) (by decide) (by decide)) rfl ?_
  refine wp_aastZ (L := 6) (j := 4) (kd := 102) (ci := 6) (u' := Z116) (dcd d_D_init_2 23 rfl) (okd (by decide +kernel)) (by decide +kernel) (vin (by decide) (by decide) (by decide)) (by decide) (by decide) (okd (by decide +kernel)) cl_6.1 rfl (by decide) rfl ?_
  refine wp_iincZ (v := 1) (y := 5) (l' := [(1, .int 5), (0, .ref 2)]) 0 (dcd d_D_init_2 24 rfl) rfl (by decide) (by decide) (by decide) rfl ?_
  refine wp_goto (tgt := 148) (dcd d_D_init_2 25 rfl) (by decide) ?_
  refine wp_iload_n 0 (dcd d_D_init_2 13 rfl) rfl ?_
  refine wp_bipush (v := 6) (dcd d_D_init_2 14 rfl) (by decide) ?_
  refine wp_icmp_ge (tgt := 175) (dcd d_D_init_2 15 rfl) (by decide) (fun c => absurd c (by decide)) (fun _ => ?_)
  refine wp_aload_n 1 (dcd d_D_init_2 16 rfl) rfl ?_
  refine wp_getRZ (a := 3) f_D_11 rfl (dcd d_D_init_2 17 rfl) (okd (by decide +kernel)) (by decide +kernel) (by decide) ?_
  refine wp_iload_n 0 (dcd d_D_init_2 18 rfl) rfl ?_
  exact law_pre_D1_b144
theorem law_pre_D1_b96 : Wp G D_init 22 606 168 [(1, .int 1), (0, .ref 2)] [.ref 52, .int 1, .ref 3] Z106 (fun r u' => r = none ∧ u' = Z143) := by
  refine wp_aastZ (L := 6) (j := 1) (kd := 102) (ci := 6) (u' := Z107) (dcd d_D_init_2 23 rfl) (okd (by decide +kernel)) (by decide +kernel) (vin (by decide) (by decide) (by decide)) (by decide) (by decide) (okd (by decide +kernel)) cl_6.1 rfl (by decide) rfl ?_
  refine wp_iincZ (v := 1) (y := 2) (l' := [(1, .int 2), (0, .ref 2)]) 0 (dcd d_D_init_2 24 rfl) rfl (by decide) (by decide) (by decide) rfl ?_
  refine wp_goto (tgt := 148) (dcd d_D_init_2 25 rfl) (by decide) ?_
  refine wp_iload_n 0 (dcd d_D_init_2 13 rfl) rfl ?_
  refine wp_bipush (v := 6) (dcd d_D_init_2 14 rfl) (by decide) ?_
  refine wp_icmp_ge (tgt := 175) (dcd d_D_init_2 15 rfl) (by decide) (fun c => absurd c (by decide)) (fun _ => ?_)
  refine wp_aload_n 1 (dcd d_D_init_2 16 rfl) rfl ?_
  refine wp_getRZ (a := 3) f_D_11 rfl (dcd d_D_init_2 17 rfl) (okd (by decide +kernel)) (by decide +kernel) (by decide) ?_
  refine wp_iload_n 0 (dcd d_D_init_2 18 rfl) rfl ?_
  refine wp_newZ (kc := 21) (ks := 604) (N := 2) (a := 54) (u' := Z108) ⟨_, _, cl_6, rfl, by decide, c_D_9, n_6, in_Sp⟩ (dcd d_D_init_2 19 rfl) (by decide +kernel) rfl ?_
  refine wp_dup (dcd d_D_init_2 20 rfl) rfl ?_
  refine wp_bipush (v := 40) (dcd d_D_init_2 21 rfl) (by decide) ?_
  refine wp_callIZ (kc' := 1) (ks' := 40) (kc := 20) (ks := 564) (o := 54) (As := [.int 40]) (st := [.ref 54, .int 2, .ref 3]) (la := [(0, .ref 54), (1, .int 40)]) (u' := Z109) (dcd d_D_init_2 22 rfl) cm_Sp_init k_D_18 ci_Sp_init rfl rfl ⟨by decide, by decide⟩ rfl (Nat.le_of_ble_eq_true rfl) (Nat.le_of_ble_eq_true rfl) rfl (i_Sp (okd (by decide +kernel)) (by decide) (by decide) (by decide)) rfl ?_
  refine wp_aastZ (L := 6) (j := 2) (kd := 102) (ci := 6) (u' := Z110) (dcd d_D_init_2 23 rfl) (okd (by decide +kernel)) (by decide +kernel) (vin (by decide) (by decide) (by decide)) (by decide) (by decide) (okd (by decide +kernel)) cl_6.1 rfl (by decide) rfl ?_
  refine wp_iincZ (v := 1) (y := 3) (l' := [(1, .int 3), (0, .ref 2)]) 0 (dcd d_D_init_2 24 rfl) rfl (by decide) (by decide) (by decide) rfl ?_
  refine wp_goto (tgt := 148) (dcd d_D_init_2 25 rfl) (by decide) ?_
  refine wp_iload_n 0 (dcd d_D_init_2 13 rfl) rfl ?_
  refine wp_bipush (v := 6) (dcd d_D_init_2 14 rfl) (by decide) ?_
  refine wp_icmp_ge (tgt := 175) (dcd d_D_init_2 15 rfl) (by decide) (fun c => absurd c (by decide)) (fun _ => ?_)
  refine wp_aload_n 1 (dcd d_D_init_2 16 rfl) rfl ?_
  refine wp_getRZ (a := 3) f_D_11 rfl (dcd d_D_init_2 17 rfl) (okd (by decide +kernel)) (by decide +kernel) (by decide) ?_
  refine wp_iload_n 0 (dcd d_D_init_2 18 rfl) rfl ?_
  refine wp_newZ (kc := 19) (ks := 562) (N := 2) (a := 56) (u' := Z111) ⟨_, _, cl_6, rfl, by decide, c_D_9, n_6, in_Sp⟩ (dcd d_D_init_2 19 rfl) (by decide +kernel) rfl ?_
  refine wp_dup (dcd d_D_init_2 20 rfl) rfl ?_
  exact law_pre_D1_b120
theorem law_pre_D1_b72 : Wp G D_init 26 690 147 [(0, .ref 2)] [.int 0] Z101 (fun r u' => r = none ∧ u' = Z143) := by
  refine wp_istore_n (l' := [(1, .int 0), (0, .ref 2)]) (dcd d_D_init_2 12 rfl) (by decide) rfl ?_
  refine wp_iload_n 0 (dcd d_D_init_2 13 rfl) rfl ?_
  refine wp_bipush (v := 6) (dcd d_D_init_2 14 rfl) (by decide) ?_
  refine wp_icmp_ge (tgt := 175) (dcd d_D_init_2 15 rfl) (by decide) (fun c => absurd c (by decide)) (fun _ => ?_)
  refine wp_aload_n 1 (dcd d_D_init_2 16 rfl) rfl ?_
  refine wp_getRZ (a := 3) f_D_11 rfl (dcd d_D_init_2 17 rfl) (okd (by decide +kernel)) (by decide +kernel) (by decide) ?_
  refine wp_iload_n 0 (dcd d_D_init_2 18 rfl) rfl ?_
  refine wp_newZ (kc := 25) (ks := 688) (N := 2) (a := 50) (u' := Z102) ⟨_, _, cl_6, rfl, by decide, c_D_9, n_6, in_Sp⟩ (dcd d_D_init_2 19 rfl) (by decide +kernel) rfl ?_
  refine wp_dup (dcd d_D_init_2 20 rfl) rfl ?_
  refine wp_bipush (v := 40) (dcd d_D_init_2 21 rfl) (by decide) ?_
  refine wp_callIZ (kc' := 1) (ks' := 40) (kc := 24) (ks := 648) (o := 50) (As := [.int 40]) (st := [.ref 50, .int 0, .ref 3]) (la := [(0, .ref 50), (1, .int 40)]) (u' := Z103) (dcd d_D_init_2 22 rfl) cm_Sp_init k_D_18 ci_Sp_init rfl rfl ⟨by decide, by decide⟩ rfl (Nat.le_of_ble_eq_true rfl) (Nat.le_of_ble_eq_true rfl) rfl (i_Sp (okd (by decide +kernel)) (by decide) (by decide) (by decide)) rfl ?_
  refine wp_aastZ (L := 6) (j := 0) (kd := 102) (ci := 6) (u' := Z104) (dcd d_D_init_2 23 rfl) (okd (by decide +kernel)) (by decide +kernel) (vin (by decide) (by decide) (by decide)) (by decide) (by decide) (okd (by decide +kernel)) cl_6.1 rfl (by decide) rfl ?_
  refine wp_iincZ (v := 1) (y := 1) (l' := [(1, .int 1), (0, .ref 2)]) 0 (dcd d_D_init_2 24 rfl) rfl (by decide) (by decide) (by decide) rfl ?_
  refine wp_goto (tgt := 148) (dcd d_D_init_2 25 rfl) (by decide) ?_
  refine wp_iload_n 0 (dcd d_D_init_2 13 rfl) rfl ?_
  refine wp_bipush (v := 6) (dcd d_D_init_2 14 rfl) (by decide) ?_
  refine wp_icmp_ge (tgt := 175) (dcd d_D_init_2 15 rfl) (by decide) (fun c => absurd c (by decide)) (fun _ => ?_)
  refine wp_aload_n 1 (dcd d_D_init_2 16 rfl) rfl ?_
  refine wp_getRZ (a := 3) f_D_11 rfl (dcd d_D_init_2 17 rfl) (okd (by decide +kernel)) (by decide +kernel) (by decide) ?_
  refine wp_iload_n 0 (dcd d_D_init_2 18 rfl) rfl ?_
  refine wp_newZ (kc := 23) (ks := 646) (N := 2) (a := 52) (u' := Z105) ⟨_, _, cl_6, rfl, by decide, c_D_9, n_6, in_Sp⟩ (dcd d_D_init_2 19 rfl) (by decide +kernel) rfl ?_
  refine wp_dup (dcd d_D_init_2 20 rfl) rfl ?_
  refine wp_bipush (v := 40) (dcd d_D_init_2 21 rfl) (by decide) ?_
  refine wp_callIZ (kc' := 1) (ks' := 40) (kc := 22) (ks := 606) (o := 52) (As := [.int 40]) (st := [.ref 52, .int 1, .ref 3]) (la := [(0, .ref 52), (1, .int 40)]) (u' := Z106) (dcd d_D_init_2 22 rfl) cm_Sp_init k_D_18 ci_Sp_init rfl rfl ⟨by decide, by decide⟩ rfl (Nat.le_of_ble_eq_true rfl) (Nat.le_of_ble_eq_true rfl) rfl (i_Sp (okd (by decide +kernel)) (by decide) (by decide) (by decide)) rfl ?_
  exact law_pre_D1_b96
theorem law_pre_D1_b48 : Wp G D_init 54 820 101 [(0, .ref 2)] [.ref 21, .ref 2] Z26 (fun r u' => r = none ∧ u' = Z143) := by
  refine wp_putRFZ (u' := Z27) f_D_56 rfl nf_7_9 rfl (dcd d_D_init_1 18 rfl) (okd (by decide +kernel)) (by decide) rfl ?_
  refine wp_aload_n 0 (dcd d_D_init_1 19 rfl) rfl ?_
  refine wp_newZ (kc := 53) (ks := 814) (N := 6) (a := 22) (u' := Z28) ⟨_, _, cl_2, rfl, by decide, c_D_60, n_2, in_Pl⟩ (dcd d_D_init_1 20 rfl) (by decide +kernel) rfl ?_
  refine wp_dup (dcd d_D_init_1 21 rfl) rfl ?_
  refine wp_callIZ (kc' := 13) (ks' := 59) (kc := 40) (ks := 755) (o := 22) (As := []) (st := [.ref 22, .ref 2]) (la := [(0, .ref 22)]) (u' := Z61) (dcd d_D_init_1 22 rfl) cm_Pl_init k_D_62 ci_Pl_init rfl rfl ⟨by decide, by decide⟩ rfl (Nat.le_of_ble_eq_true rfl) (Nat.le_of_ble_eq_true rfl) rfl law_pre_D1_Pl28 rfl ?_
  refine wp_putRZ (u' := Z62) f_D_63 rfl nf_7_10 (dcd d_D_init_1 23 rfl) (okd (by decide +kernel)) (by decide) rfl ?_
  refine wp_aload_n 0 (dcd d_D_init_1 24 rfl) rfl ?_
  refine wp_newZ (kc := 39) (ks := 749) (N := 6) (a := 36) (u' := Z63) ⟨_, _, cl_2, rfl, by decide, c_D_60, n_2, in_Pl⟩ (dcd d_D_init_1 25 rfl) (by decide +kernel) rfl ?_
  refine wp_dup (dcd d_D_init_1 26 rfl) rfl ?_
  refine wp_callIZ (kc' := 13) (ks' := 59) (kc := 26) (ks := 690) (o := 36) (As := []) (st := [.ref 36, .ref 2]) (la := [(0, .ref 36)]) (u' := Z96) (dcd d_D_init_1 27 rfl) cm_Pl_init k_D_62 ci_Pl_init rfl rfl ⟨by decide, by decide⟩ rfl (Nat.le_of_ble_eq_true rfl) (Nat.le_of_ble_eq_true rfl) rfl law_pre_D1_Pl63 rfl ?_
  refine wp_putRZ (u' := Z97) f_D_67 rfl nf_7_11 (dcd d_D_init_1 28 rfl) (okd (by decide +kernel)) (by decide) rfl ?_
  refine wp_aload_n 0 (dcd d_D_init_1 29 rfl) rfl ?_
  refine wp_iconst (v := 0) (dcd d_D_init_2 0 rfl) (by decide) ?_
  refine wp_putIZ (u' := Z98) f_D_70 rfl nf_7_12 (dcd d_D_init_2 1 rfl) (okd (by decide +kernel)) rfl ?_
  refine wp_aload_n 0 (dcd d_D_init_2 2 rfl) rfl ?_
  refine wp_lconst (v := 0) (dcd d_D_init_2 3 rfl) (by decide) ?_
  refine wp_putLZ (u' := Z99) f_D_74 rfl nf_7_13 (dcd d_D_init_2 4 rfl) (okd (by decide +kernel)) rfl ?_
  refine wp_aload_n 0 (dcd d_D_init_2 5 rfl) rfl ?_
  refine wp_lconst (v := 1) (dcd d_D_init_2 6 rfl) (by decide) ?_
  refine wp_putLZ (u' := Z100) f_D_78 rfl nf_7_14 (dcd d_D_init_2 7 rfl) (okd (by decide +kernel)) rfl ?_
  refine wp_aload_n 0 (dcd d_D_init_2 8 rfl) rfl ?_
  refine wp_iconst (v := 0) (dcd d_D_init_2 9 rfl) (by decide) ?_
  refine wp_putIZ (u' := Z101) f_D_81 rfl nf_7_15 (dcd d_D_init_2 10 rfl) (okd (by decide +kernel)) rfl ?_
  refine wp_iconst (v := 0) (dcd d_D_init_2 11 rfl) (by decide) ?_
  exact law_pre_D1_b72
theorem law_pre_D1_b24 : Wp G D_init 66 1144 49 [(0, .ref 2)] [.ref 9, .ref 2] Z12 (fun r u' => r = none ∧ u' = Z143) := by
  refine wp_putRFZ (u' := Z13) f_D_32 rfl nf_7_4 rfl (dcd d_D_init_0 24 rfl) (okd (by decide +kernel)) (by decide) rfl ?_
  refine wp_aload_n 0 (dcd d_D_init_0 25 rfl) rfl ?_
  refine wp_newZ (kc := 65) (ks := 1141) (N := 3) (a := 10) (u' := Z14) ⟨_, _, cl_5, rfl, by decide, c_D_25, n_5, in_Sn⟩ (dcd d_D_init_0 26 rfl) (by decide +kernel) rfl ?_
  refine wp_dup (dcd d_D_init_0 27 rfl) rfl ?_
  refine wp_callIZ (kc' := 1) (ks' := 7) (kc := 64) (ks := 1134) (o := 10) (As := []) (st := [.ref 10, .ref 2]) (la := [(0, .ref 10)]) (u' := Z15) (dcd d_D_init_0 28 rfl) cm_Sn_init k_D_27 ci_Sn_init rfl rfl ⟨by decide, by decide⟩ rfl (Nat.le_of_ble_eq_true rfl) (Nat.le_of_ble_eq_true rfl) rfl (i_Sn (okd (by decide +kernel))) rfl ?_
  refine wp_putRFZ (u' := Z16) f_D_36 rfl nf_7_5 rfl (dcd d_D_init_0 29 rfl) (okd (by decide +kernel)) (by decide) rfl ?_
  refine wp_aload_n 0 (dcd d_D_init_1 0 rfl) rfl ?_
  refine wp_newZ (kc := 63) (ks := 1131) (N := 3) (a := 12) (u' := Z17) ⟨_, _, cl_5, rfl, by decide, c_D_25, n_5, in_Sn⟩ (dcd d_D_init_1 1 rfl) (by decide +kernel) rfl ?_
  refine wp_dup (dcd d_D_init_1 2 rfl) rfl ?_
  refine wp_callIZ (kc' := 1) (ks' := 7) (kc := 62) (ks := 1124) (o := 12) (As := []) (st := [.ref 12, .ref 2]) (la := [(0, .ref 12)]) (u' := Z18) (dcd d_D_init_1 3 rfl) cm_Sn_init k_D_27 ci_Sn_init rfl rfl ⟨by decide, by decide⟩ rfl (Nat.le_of_ble_eq_true rfl) (Nat.le_of_ble_eq_true rfl) rfl (i_Sn (okd (by decide +kernel))) rfl ?_
  refine wp_putRFZ (u' := Z19) f_D_39 rfl nf_7_6 rfl (dcd d_D_init_1 4 rfl) (okd (by decide +kernel)) (by decide) rfl ?_
  refine wp_aload_n 0 (dcd d_D_init_1 5 rfl) rfl ?_
  refine wp_newZ (kc := 61) (ks := 1120) (N := 4) (a := 14) (u' := Z20) ⟨_, _, cl_0, rfl, by decide, c_D_42, n_0, in_Di⟩ (dcd d_D_init_1 6 rfl) (by decide +kernel) rfl ?_
  refine wp_dup (dcd d_D_init_1 7 rfl) rfl ?_
  refine wp_callIZ (kc' := 3) (ks' := 36) (kc := 58) (ks := 1084) (o := 14) (As := []) (st := [.ref 14, .ref 2]) (la := [(0, .ref 14)]) (u' := Z21) (dcd d_D_init_1 8 rfl) cm_Di_init k_D_44 ci_Di_init rfl rfl ⟨by decide, by decide⟩ rfl (Nat.le_of_ble_eq_true rfl) (Nat.le_of_ble_eq_true rfl) rfl (i_Di (okd (by decide +kernel))) rfl ?_
  refine wp_putRFZ (u' := Z22) f_D_45 rfl nf_7_7 rfl (dcd d_D_init_1 9 rfl) (okd (by decide +kernel)) (by decide) rfl ?_
  refine wp_aload_n 0 (dcd d_D_init_1 10 rfl) rfl ?_
  refine wp_newZ (kc := 57) (ks := 1082) (N := 2) (a := 18) (u' := Z23) ⟨_, _, cl_1, rfl, by decide, c_D_49, n_1, in_Er⟩ (dcd d_D_init_1 11 rfl) (by decide +kernel) rfl ?_
  refine wp_dup (dcd d_D_init_1 12 rfl) rfl ?_
  refine wp_callIZ (kc' := 2) (ks' := 256) (kc := 55) (ks := 826) (o := 18) (As := []) (st := [.ref 18, .ref 2]) (la := [(0, .ref 18)]) (u' := Z24) (dcd d_D_init_1 13 rfl) cm_Er_init k_D_51 ci_Er_init rfl rfl ⟨by decide, by decide⟩ rfl (Nat.le_of_ble_eq_true rfl) (Nat.le_of_ble_eq_true rfl) rfl (i_Er (okd (by decide +kernel))) rfl ?_
  refine wp_putRFZ (u' := Z25) f_D_52 rfl nf_7_8 rfl (dcd d_D_init_1 14 rfl) (okd (by decide +kernel)) (by decide) rfl ?_
  refine wp_aload_n 0 (dcd d_D_init_1 15 rfl) rfl ?_
  refine wp_bipush (v := 6) (dcd d_D_init_1 16 rfl) (by decide) ?_
  refine wp_newIZ (kc := 54) (ks := 820) (N := 6) (a := 21) (u' := Z26) ar_I (dcd d_D_init_1 17 rfl) (by decide) (by decide) (by decide) (by decide +kernel) rfl ?_
  exact law_pre_D1_b48
theorem law_pre_D1 : Wp G D_init 73 1169 0 [(0, .ref 2)] [] Z1 (fun r u' => r = none ∧ u' = Z143) := by
  refine wp_aload_n 0 (dcd d_D_init_0 0 rfl) rfl ?_
  refine wp_oinit (st := []) (dcd d_D_init_0 1 rfl) ko_D_1 ko_i ko_c (by decide) (Nat.le_of_ble_eq_true rfl) ?_
  refine wp_aload_n 0 (dcd d_D_init_0 2 rfl) rfl ?_
  refine wp_bipush (v := 6) (dcd d_D_init_0 3 rfl) (by decide) ?_
  refine wp_newAZ (kc := 72) (ks := 1163) (N := 6) (kd := 102) (a := 3) (u' := Z2) (by decide) c_D_9 (dcd d_D_init_0 4 rfl) (by decide) (by decide) (by decide) (by decide +kernel) rfl ?_
  refine wp_putRFZ (u' := Z3) f_D_11 rfl nf_7_0 rfl (dcd d_D_init_0 5 rfl) (okd (by decide +kernel)) (by decide) rfl ?_
  refine wp_aload_n 0 (dcd d_D_init_0 6 rfl) rfl ?_
  refine wp_iconst (v := 4) (dcd d_D_init_0 7 rfl) (by decide) ?_
  refine wp_newAZ (kc := 71) (ks := 1159) (N := 4) (kd := 102) (a := 4) (u' := Z4) (by decide) c_D_9 (dcd d_D_init_0 8 rfl) (by decide) (by decide) (by decide) (by decide +kernel) rfl ?_
  refine wp_putRFZ (u' := Z5) f_D_15 rfl nf_7_1 rfl (dcd d_D_init_0 9 rfl) (okd (by decide +kernel)) (by decide) rfl ?_
  refine wp_aload_n 0 (dcd d_D_init_0 10 rfl) rfl ?_
  refine wp_newZ (kc := 70) (ks := 1157) (N := 2) (a := 5) (u' := Z6) ⟨_, _, cl_6, rfl, by decide, c_D_9, n_6, in_Sp⟩ (dcd d_D_init_0 11 rfl) (by decide +kernel) rfl ?_
  refine wp_dup (dcd d_D_init_0 12 rfl) rfl ?_
  refine wp_iconst (v := 0) (dcd d_D_init_0 13 rfl) (by decide) ?_
  refine wp_callIZ (kc' := 1) (ks' := 0) (kc := 69) (ks := 1157) (o := 5) (As := [.int 0]) (st := [.ref 5, .ref 2]) (la := [(0, .ref 5), (1, .int 0)]) (u' := Z7) (dcd d_D_init_0 14 rfl) cm_Sp_init k_D_18 ci_Sp_init rfl rfl ⟨by decide, by decide⟩ rfl (Nat.le_of_ble_eq_true rfl) (Nat.le_of_ble_eq_true rfl) rfl (i_Sp (okd (by decide +kernel)) (by decide) (by decide) (by decide)) rfl ?_
  refine wp_putRFZ (u' := Z8) f_D_21 rfl nf_7_2 rfl (dcd d_D_init_0 15 rfl) (okd (by decide +kernel)) (by decide) rfl ?_
  refine wp_aload_n 0 (dcd d_D_init_0 16 rfl) rfl ?_
  refine wp_newZ (kc := 68) (ks := 1154) (N := 3) (a := 7) (u' := Z9) ⟨_, _, cl_5, rfl, by decide, c_D_25, n_5, in_Sn⟩ (dcd d_D_init_0 17 rfl) (by decide +kernel) rfl ?_
  refine wp_dup (dcd d_D_init_0 18 rfl) rfl ?_
  refine wp_callIZ (kc' := 1) (ks' := 7) (kc := 67) (ks := 1147) (o := 7) (As := []) (st := [.ref 7, .ref 2]) (la := [(0, .ref 7)]) (u' := Z10) (dcd d_D_init_0 19 rfl) cm_Sn_init k_D_27 ci_Sn_init rfl rfl ⟨by decide, by decide⟩ rfl (Nat.le_of_ble_eq_true rfl) (Nat.le_of_ble_eq_true rfl) rfl (i_Sn (okd (by decide +kernel))) rfl ?_
  refine wp_putRFZ (u' := Z11) f_D_28 rfl nf_7_3 rfl (dcd d_D_init_0 20 rfl) (okd (by decide +kernel)) (by decide) rfl ?_
  refine wp_aload_n 0 (dcd d_D_init_0 21 rfl) rfl ?_
  refine wp_iconst (v := 3) (dcd d_D_init_0 22 rfl) (by decide) ?_
  refine wp_newAZ (kc := 66) (ks := 1144) (N := 3) (kd := 103) (a := 9) (u' := Z12) (by decide) c_D_25 (dcd d_D_init_0 23 rfl) (by decide) (by decide) (by decide) (by decide +kernel) rfl ?_
  exact law_pre_D1_b24
end CW
