/-! ===== constructors at the start ===== -/
section CW
variable {G : pG}
theorem law_pre_m144_b216 : Wp G m_init 0 0 208 [(1, .int 2), (0, .ref 76)] [] Z193 (fun r u' => r = none ∧ u' = Z194) := by
  refine wp_aload_n 1 (dcd d_m_init_3 16 rfl) rfl ?_
  refine wp_getRZ (a := 87) f_m_44 rfl (dcd d_m_init_3 17 rfl) (okd (by decide +kernel)) (by decide +kernel) (by decide) ?_
  refine wp_bipush (v := 10) (dcd d_m_init_3 18 rfl) (by decide) ?_
  refine wp_iload_n 0 (dcd d_m_init_3 19 rfl) rfl ?_
  refine wp_imulZ (z := 20) (dcd d_m_init_3 20 rfl) (by decide) ?_
  refine wp_bipush (v := (-9)) (dcd d_m_init_3 21 rfl) (by decide) ?_
  refine wp_iastZ (L := 30) (j := 20) (u' := Z194) (dcd d_m_init_3 22 rfl) (okd (by decide +kernel)) (by decide +kernel) (vin (by decide) (by decide) (by decide)) (by decide) rfl ?_
  refine wp_iincZ (v := 1) (y := 3) (l' := [(1, .int 3), (0, .ref 76)]) 0 (dcd d_m_init_3 23 rfl) rfl (by decide) (by decide) (by decide) rfl ?_
  refine wp_goto (tgt := 203) (dcd d_m_init_3 24 rfl) (by decide) ?_
  refine wp_iload_n 0 (dcd d_m_init_3 13 rfl) rfl ?_
  refine wp_iconst (v := 3) (dcd d_m_init_3 14 rfl) (by decide) ?_
  refine wp_icmp_ge (tgt := 225) (dcd d_m_init_3 15 rfl) (by decide) (fun _ => ?_) (fun c => absurd (by decide) c)
  exact wp_vret (dcd d_m_init_3 25 rfl) rfl ⟨rfl, rfl⟩
theorem law_pre_m144_b192 : Wp G m_init 0 0 208 [(1, .int 0), (0, .ref 76)] [] Z191 (fun r u' => r = none ∧ u' = Z194) := by
  refine wp_aload_n 1 (dcd d_m_init_3 16 rfl) rfl ?_
  refine wp_getRZ (a := 87) f_m_44 rfl (dcd d_m_init_3 17 rfl) (okd (by decide +kernel)) (by decide +kernel) (by decide) ?_
  refine wp_bipush (v := 10) (dcd d_m_init_3 18 rfl) (by decide) ?_
  refine wp_iload_n 0 (dcd d_m_init_3 19 rfl) rfl ?_
  refine wp_imulZ (z := 0) (dcd d_m_init_3 20 rfl) (by decide) ?_
  refine wp_bipush (v := (-9)) (dcd d_m_init_3 21 rfl) (by decide) ?_
  refine wp_iastZ (L := 30) (j := 0) (u' := Z192) (dcd d_m_init_3 22 rfl) (okd (by decide +kernel)) (by decide +kernel) (vin (by decide) (by decide) (by decide)) (by decide) rfl ?_
  refine wp_iincZ (v := 1) (y := 1) (l' := [(1, .int 1), (0, .ref 76)]) 0 (dcd d_m_init_3 23 rfl) rfl (by decide) (by decide) (by decide) rfl ?_
  refine wp_goto (tgt := 203) (dcd d_m_init_3 24 rfl) (by decide) ?_
  refine wp_iload_n 0 (dcd d_m_init_3 13 rfl) rfl ?_
  refine wp_iconst (v := 3) (dcd d_m_init_3 14 rfl) (by decide) ?_
  refine wp_icmp_ge (tgt := 225) (dcd d_m_init_3 15 rfl) (by decide) (fun c => absurd c (by decide)) (fun _ => ?_)
  refine wp_aload_n 1 (dcd d_m_init_3 16 rfl) rfl ?_
  refine wp_getRZ (a := 87) f_m_44 rfl (dcd d_m_init_3 17 rfl) (okd (by decide +kernel)) (by decide +kernel) (by decide) ?_
  refine wp_bipush (v := 10) (dcd d_m_init_3 18 rfl) (by decide) ?_
  refine wp_iload_n 0 (dcd d_m_init_3 19 rfl) rfl ?_
  refine wp_imulZ (z := 10) (dcd d_m_init_3 20 rfl) (by decide) ?_
  refine wp_bipush (v := (-9)) (dcd d_m_init_3 21 rfl) (by decide) ?_
  refine wp_iastZ (L := 30) (j := 10) (u' := Z193) (dcd d_m_init_3 22 rfl) (okd (by decide +kernel)) (by decide +kernel) (vin (by decide) (by decide) (by decide)) (by decide) rfl ?_
  refine wp_iincZ (v := 1) (y := 2) (l' := [(1, .int 2), (0, .ref 76)]) 0 (dcd d_m_init_3 23 rfl) rfl (by decide) (by decide) (by decide) rfl ?_
  refine wp_goto (tgt := 203) (dcd d_m_init_3 24 rfl) (by decide) ?_
  refine wp_iload_n 0 (dcd d_m_init_3 13 rfl) rfl ?_
  refine wp_iconst (v := 3) (dcd d_m_init_3 14 rfl) (by decide) ?_
  refine wp_icmp_ge (tgt := 225) (dcd d_m_init_3 15 rfl) (by decide) (fun c => absurd c (by decide)) (fun _ => ?_)
  exact law_pre_m144_b216
theorem law_pre_m144_b168 : Wp G m_init 0 0 188 [(1, .int 2), (0, .ref 76)] [.ref 76] Z189 (fun r u' => r = none ∧ u' = Z194) := by
  refine wp_getRZ (a := 81) f_m_26 rfl (dcd d_m_init_3 5 rfl) (okd (by decide +kernel)) (by decide +kernel) (by decide) ?_
  refine wp_iload_n 0 (dcd d_m_init_3 6 rfl) rfl ?_
  refine wp_bipush (v := (-9)) (dcd d_m_init_3 7 rfl) (by decide) ?_
  refine wp_iastZ (L := 4) (j := 2) (u' := Z190) (dcd d_m_init_3 8 rfl) (okd (by decide +kernel)) (by decide +kernel) (vin (by decide) (by decide) (by decide)) (by decide) rfl ?_
  refine wp_iincZ (v := 1) (y := 3) (l' := [(1, .int 3), (0, .ref 76)]) 0 (dcd d_m_init_3 9 rfl) rfl (by decide) (by decide) (by decide) rfl ?_
  refine wp_goto (tgt := 182) (dcd d_m_init_3 10 rfl) (by decide) ?_
  refine wp_iload_n 0 (dcd d_m_init_3 1 rfl) rfl ?_
  refine wp_iconst (v := 4) (dcd d_m_init_3 2 rfl) (by decide) ?_
  refine wp_icmp_ge (tgt := 201) (dcd d_m_init_3 3 rfl) (by decide) (fun c => absurd c (by decide)) (fun _ => ?_)
  refine wp_aload_n 1 (dcd d_m_init_3 4 rfl) rfl ?_
  refine wp_getRZ (a := 81) f_m_26 rfl (dcd d_m_init_3 5 rfl) (okd (by decide +kernel)) (by decide +kernel) (by decide) ?_
  refine wp_iload_n 0 (dcd d_m_init_3 6 rfl) rfl ?_
  refine wp_bipush (v := (-9)) (dcd d_m_init_3 7 rfl) (by decide) ?_
  refine wp_iastZ (L := 4) (j := 3) (u' := Z191) (dcd d_m_init_3 8 rfl) (okd (by decide +kernel)) (by decide +kernel) (vin (by decide) (by decide) (by decide)) (by decide) rfl ?_
  refine wp_iincZ (v := 1) (y := 4) (l' := [(1, .int 4), (0, .ref 76)]) 0 (dcd d_m_init_3 9 rfl) rfl (by decide) (by decide) (by decide) rfl ?_
  refine wp_goto (tgt := 182) (dcd d_m_init_3 10 rfl) (by decide) ?_
  refine wp_iload_n 0 (dcd d_m_init_3 1 rfl) rfl ?_
  refine wp_iconst (v := 4) (dcd d_m_init_3 2 rfl) (by decide) ?_
  refine wp_icmp_ge (tgt := 201) (dcd d_m_init_3 3 rfl) (by decide) (fun _ => ?_) (fun c => absurd (by decide) c)
  refine wp_iconst (v := 0) (dcd d_m_init_3 11 rfl) (by decide) ?_
  refine wp_istore_n (l' := [(1, .int 0), (0, .ref 76)]) (dcd d_m_init_3 12 rfl) (by decide) rfl ?_
  refine wp_iload_n 0 (dcd d_m_init_3 13 rfl) rfl ?_
  refine wp_iconst (v := 3) (dcd d_m_init_3 14 rfl) (by decide) ?_
  refine wp_icmp_ge (tgt := 225) (dcd d_m_init_3 15 rfl) (by decide) (fun c => absurd c (by decide)) (fun _ => ?_)
  exact law_pre_m144_b192
theorem law_pre_m144_b144 : Wp G m_init 0 0 182 [(1, .int 0), (0, .ref 76)] [] Z187 (fun r u' => r = none ∧ u' = Z194) := by
  refine wp_iload_n 0 (dcd d_m_init_3 1 rfl) rfl ?_
  refine wp_iconst (v := 4) (dcd d_m_init_3 2 rfl) (by decide) ?_
  refine wp_icmp_ge (tgt := 201) (dcd d_m_init_3 3 rfl) (by decide) (fun c => absurd c (by decide)) (fun _ => ?_)
  refine wp_aload_n 1 (dcd d_m_init_3 4 rfl) rfl ?_
  refine wp_getRZ (a := 81) f_m_26 rfl (dcd d_m_init_3 5 rfl) (okd (by decide +kernel)) (by decide +kernel) (by decide) ?_
  refine wp_iload_n 0 (dcd d_m_init_3 6 rfl) rfl ?_
  refine wp_bipush (v := (-9)) (dcd d_m_init_3 7 rfl) (by decide) ?_
  refine wp_iastZ (L := 4) (j := 0) (u' := Z188) (dcd d_m_init_3 8 rfl) (okd (by decide +kernel)) (by decide +kernel) (vin (by decide) (by decide) (by decide)) (by decide) rfl ?_
  refine wp_iincZ (v := 1) (y := 1) (l' := [(1, .int 1), (0, .ref 76)]) 0 (dcd d_m_init_3 9 rfl) rfl (by decide) (by decide) (by decide) rfl ?_
  refine wp_goto (tgt := 182) (dcd d_m_init_3 10 rfl) (by decide) ?_
  refine wp_iload_n 0 (dcd d_m_init_3 1 rfl) rfl ?_
  refine wp_iconst (v := 4) (dcd d_m_init_3 2 rfl) (by decide) ?_
  refine wp_icmp_ge (tgt := 201) (dcd d_m_init_3 3 rfl) (by decide) (fun c => absurd c (by decide)) (fun _ => ?_)
  refine wp_aload_n 1 (dcd d_m_init_3 4 rfl) rfl ?_
  refine wp_getRZ (a := 81) f_m_26 rfl (dcd d_m_init_3 5 rfl) (okd (by decide +kernel)) (by decide +kernel) (by decide) ?_
  refine wp_iload_n 0 (dcd d_m_init_3 6 rfl) rfl ?_
  refine wp_bipush (v := (-9)) (dcd d_m_init_3 7 rfl) (by decide) ?_
  refine wp_iastZ (L := 4) (j := 1) (u' := Z189) (dcd d_m_init_3 8 rfl) (okd (by decide +kernel)) (by decide +kernel) (vin (by decide) (by decide) (by decide)) (by decide) rfl ?_
  refine wp_iincZ (v := 1) (y := 2) (l' := [(1, .int 2), (0, .ref 76)]) 0 (dcd d_m_init_3 9 rfl) rfl (by decide) (by decide) (by decide) rfl ?_
  refine wp_goto (tgt := 182) (dcd d_m_init_3 10 rfl) (by decide) ?_
  refine wp_iload_n 0 (dcd d_m_init_3 1 rfl) rfl ?_
  refine wp_iconst (v := 4) (dcd d_m_init_3 2 rfl) (by decide) ?_
  refine wp_icmp_ge (tgt := 201) (dcd d_m_init_3 3 rfl) (by decide) (fun c => absurd c (by decide)) (fun _ => ?_)
  refine wp_aload_n 1 (dcd d_m_init_3 4 rfl) rfl ?_
  exact law_pre_m144_b168
theorem law_pre_m144_b120 : Wp G m_init 0 0 161 [(1, .int 4), (0, .ref 76)] [.int 4] Z185 (fun r u' => r = none ∧ u' = Z194) := by
  refine wp_bipush (v := 6) (dcd d_m_init_2 20 rfl) (by decide) ?_
  refine wp_icmp_ge (tgt := 180) (dcd d_m_init_2 21 rfl) (by decide) (fun c => absurd c (by decide)) (fun _ => ?_)
  refine wp_aload_n 1 (dcd d_m_init_2 22 rfl) rfl ?_
  refine wp_getRZ (a := 78) f_m_17 rfl (dcd d_m_init_2 23 rfl) (okd (by decide +kernel)) (by decide +kernel) (by decide) ?_
  refine wp_iload_n 0 (dcd d_m_init_2 24 rfl) rfl ?_
  refine wp_bipush (v := (-9)) (dcd d_m_init_2 25 rfl) (by decide) ?_
  refine wp_iastZ (L := 6) (j := 4) (u' := Z186) (dcd d_m_init_2 26 rfl) (okd (by decide +kernel)) (by decide +kernel) (vin (by decide) (by decide) (by decide)) (by decide) rfl ?_
  refine wp_iincZ (v := 1) (y := 5) (l' := [(1, .int 5), (0, .ref 76)]) 0 (dcd d_m_init_2 27 rfl) rfl (by decide) (by decide) (by decide) rfl ?_
  refine wp_goto (tgt := 160) (dcd d_m_init_2 28 rfl) (by decide) ?_
  refine wp_iload_n 0 (dcd d_m_init_2 19 rfl) rfl ?_
  refine wp_bipush (v := 6) (dcd d_m_init_2 20 rfl) (by decide) ?_
  refine wp_icmp_ge (tgt := 180) (dcd d_m_init_2 21 rfl) (by decide) (fun c => absurd c (by decide)) (fun _ => ?_)
  refine wp_aload_n 1 (dcd d_m_init_2 22 rfl) rfl ?_
  refine wp_getRZ (a := 78) f_m_17 rfl (dcd d_m_init_2 23 rfl) (okd (by decide +kernel)) (by decide +kernel) (by decide) ?_
  refine wp_iload_n 0 (dcd d_m_init_2 24 rfl) rfl ?_
  refine wp_bipush (v := (-9)) (dcd d_m_init_2 25 rfl) (by decide) ?_
  refine wp_iastZ (L := 6) (j := 5) (u' := Z187) (dcd d_m_init_2 26 rfl) (okd (by decide +kernel)) (by decide +kernel) (vin (by decide) (by decide) (by decide)) (by decide) rfl ?_
  refine wp_iincZ (v := 1) (y := 6) (l' := [(1, .int 6), (0, .ref 76)]) 0 (dcd d_m_init_2 27 rfl) rfl (by decide) (by decide) (by decide) rfl ?_
  refine wp_goto (tgt := 160) (dcd d_m_init_2 28 rfl) (by decide) ?_
  refine wp_iload_n 0 (dcd d_m_init_2 19 rfl) rfl ?_
  refine wp_bipush (v := 6) (dcd d_m_init_2 20 rfl) (by decide) ?_
  refine wp_icmp_ge (tgt := 180) (dcd d_m_init_2 21 rfl) (by decide) (fun _ => ?_) (fun c => absurd (by decide) c)
  refine wp_iconst (v := 0) (dcd d_m_init_2 29 rfl) (by decide) ?_
  refine wp_istore_n (l' := [(1, .int 0), (0, .ref 76)]) (dcd d_m_init_3 0 rfl) (by decide) rfl ?_
  exact law_pre_m144_b144
theorem law_pre_m144_b96 : Wp G m_init 0 0 173 [(1, .int 1), (0, .ref 76)] [.int (-9), .int 1, .ref 78] Z182 (fun r u' => r = none ∧ u' = Z194) := by
  refine wp_iastZ (L := 6) (j := 1) (u' := Z183) (dcd d_m_init_2 26 rfl) (okd (by decide +kernel)) (by decide +kernel) (vin (by decide) (by decide) (by decide)) (by decide) rfl ?_
  refine wp_iincZ (v := 1) (y := 2) (l' := [(1, .int 2), (0, .ref 76)]) 0 (dcd d_m_init_2 27 rfl) rfl (by decide) (by decide) (by decide) rfl ?_
  refine wp_goto (tgt := 160) (dcd d_m_init_2 28 rfl) (by decide) ?_
  refine wp_iload_n 0 (dcd d_m_init_2 19 rfl) rfl ?_
  refine wp_bipush (v := 6) (dcd d_m_init_2 20 rfl) (by decide) ?_
  refine wp_icmp_ge (tgt := 180) (dcd d_m_init_2 21 rfl) (by decide) (fun c => absurd c (by decide)) (fun _ => ?_)
  refine wp_aload_n 1 (dcd d_m_init_2 22 rfl) rfl ?_
  refine wp_getRZ (a := 78) f_m_17 rfl (dcd d_m_init_2 23 rfl) (okd (by decide +kernel)) (by decide +kernel) (by decide) ?_
  refine wp_iload_n 0 (dcd d_m_init_2 24 rfl) rfl ?_
  refine wp_bipush (v := (-9)) (dcd d_m_init_2 25 rfl) (by decide) ?_
  refine wp_iastZ (L := 6) (j := 2) (u' := Z184) (dcd d_m_init_2 26 rfl) (okd (by decide +kernel)) (by decide +kernel) (vin (by decide) (by decide) (by decide)) (by decide) rfl ?_
  refine wp_iincZ (v := 1) (y := 3) (l' := [(1, .int 3), (0, .ref 76)]) 0 (dcd d_m_init_2 27 rfl) rfl (by decide) (by decide) (by decide) rfl ?_
  refine wp_goto (tgt := 160) (dcd d_m_init_2 28 rfl) (by decide) ?_
  refine wp_iload_n 0 (dcd d_m_init_2 19 rfl) rfl ?_
  refine wp_bipush (v := 6) (dcd d_m_init_2 20 rfl) (by decide) ?_
  refine wp_icmp_ge (tgt := 180) (dcd d_m_init_2 21 rfl) (by decide) (fun c => absurd c (by decide)) (fun _ => ?_)
  refine wp_aload_n 1 (dcd d_m_init_2 22 rfl) rfl ?_
  refine wp_getRZ (a := 78) f_m_17 rfl (dcd d_m_init_2 23 rfl) (okd (by decide +kernel)) (by decide +kernel) (by decide) ?_
  refine wp_iload_n 0 (dcd d_m_init_2 24 rfl) rfl ?_
  refine wp_bipush (v := (-9)) (dcd d_m_init_2 25 rfl) (by decide) ?_
  refine wp_iastZ (L := 6) (j := 3) (u' := Z185) (dcd d_m_init_2 26 rfl) (okd (by decide +kernel)) (by decide +kernel) (vin (by decide) (by decide) (by decide)) (by decide) rfl ?_
  refine wp_iincZ (v := 1) (y := 4) (l' := [(1, .int 4), (0, .ref 76)]) 0 (dcd d_m_init_2 27 rfl) rfl (by decide) (by decide) (by decide) rfl ?_
  refine wp_goto (tgt := 160) (dcd d_m_init_2 28 rfl) (by decide) ?_
  refine wp_iload_n 0 (dcd d_m_init_2 19 rfl) rfl ?_
  exact law_pre_m144_b120
theorem law_pre_m144_b72 : Wp G m_init 1 427 146 [(0, .ref 76)] [.ref 93, .ref 76] Z178 (fun r u' => r = none ∧ u' = Z194) := by
  refine wp_putRFZ (u' := Z179) f_m_62 rfl nf_8_29 rfl (dcd d_m_init_2 12 rfl) (okd (by decide +kernel)) (by decide) rfl ?_
  refine wp_aload_n 0 (dcd d_m_init_2 13 rfl) rfl ?_
  refine wp_sipush (v := 427) (dcd d_m_init_2 14 rfl) (by decide) ?_
  refine wp_newIZ (kc := 0) (ks := 0) (N := 427) (a := 94) (u' := Z180) ar_I (dcd d_m_init_2 15 rfl) (by decide) (by decide) (by decide) (by decide +kernel) rfl ?_
  refine wp_putRFZ (u' := Z181) f_m_65 rfl nf_8_30 rfl (dcd d_m_init_2 16 rfl) (okd (by decide +kernel)) (by decide) rfl ?_
  refine wp_iconst (v := 0) (dcd d_m_init_2 17 rfl) (by decide) ?_
  refine wp_istore_n (l' := [(1, .int 0), (0, .ref 76)]) (dcd d_m_init_2 18 rfl) (by decide) rfl ?_
  refine wp_iload_n 0 (dcd d_m_init_2 19 rfl) rfl ?_
  refine wp_bipush (v := 6) (dcd d_m_init_2 20 rfl) (by decide) ?_
  refine wp_icmp_ge (tgt := 180) (dcd d_m_init_2 21 rfl) (by decide) (fun c => absurd c (by decide)) (fun _ => ?_)
  refine wp_aload_n 1 (dcd d_m_init_2 22 rfl) rfl ?_
  refine wp_getRZ (a := 78) f_m_17 rfl (dcd d_m_init_2 23 rfl) (okd (by decide +kernel)) (by decide +kernel) (by decide) ?_
  refine wp_iload_n 0 (dcd d_m_init_2 24 rfl) rfl ?_
  refine wp_bipush (v := (-9)) (dcd d_m_init_2 25 rfl) (by decide) ?_
  refine wp_iastZ (L := 6) (j := 0) (u' := Z182) (dcd d_m_init_2 26 rfl) (okd (by decide +kernel)) (by decide +kernel) (vin (by decide) (by decide) (by decide)) (by decide) rfl ?_
  refine wp_iincZ (v := 1) (y := 1) (l' := [(1, .int 1), (0, .ref 76)]) 0 (dcd d_m_init_2 27 rfl) rfl (by decide) (by decide) (by decide) rfl ?_
  refine wp_goto (tgt := 160) (dcd d_m_init_2 28 rfl) (by decide) ?_
  refine wp_iload_n 0 (dcd d_m_init_2 19 rfl) rfl ?_
  refine wp_bipush (v := 6) (dcd d_m_init_2 20 rfl) (by decide) ?_
  refine wp_icmp_ge (tgt := 180) (dcd d_m_init_2 21 rfl) (by decide) (fun c => absurd c (by decide)) (fun _ => ?_)
  refine wp_aload_n 1 (dcd d_m_init_2 22 rfl) rfl ?_
  refine wp_getRZ (a := 78) f_m_17 rfl (dcd d_m_init_2 23 rfl) (okd (by decide +kernel)) (by decide +kernel) (by decide) ?_
  refine wp_iload_n 0 (dcd d_m_init_2 24 rfl) rfl ?_
  refine wp_bipush (v := (-9)) (dcd d_m_init_2 25 rfl) (by decide) ?_
  exact law_pre_m144_b96
theorem law_pre_m144_b48 : Wp G m_init 7 4701 95 [(0, .ref 76)] [.ref 87, .ref 76] Z166 (fun r u' => r = none ∧ u' = Z194) := by
  refine wp_putRFZ (u' := Z167) f_m_44 rfl nf_8_22 rfl (dcd d_m_init_1 18 rfl) (okd (by decide +kernel)) (by decide) rfl ?_
  refine wp_aload_n 0 (dcd d_m_init_1 19 rfl) rfl ?_
  refine wp_sipush (v := 3968) (dcd d_m_init_1 20 rfl) (by decide) ?_
  refine wp_newIZ (kc := 6) (ks := 733) (N := 3968) (a := 88) (u' := Z168) ar_I (dcd d_m_init_1 21 rfl) (by decide) (by decide) (by decide) (by decide +kernel) rfl ?_
  refine wp_putRFZ (u' := Z169) f_m_47 rfl nf_8_23 rfl (dcd d_m_init_1 22 rfl) (okd (by decide +kernel)) (by decide) rfl ?_
  refine wp_aload_n 0 (dcd d_m_init_1 23 rfl) rfl ?_
  refine wp_sipush (v := 128) (dcd d_m_init_1 24 rfl) (by decide) ?_
  refine wp_newIZ (kc := 5) (ks := 605) (N := 128) (a := 89) (u' := Z170) ar_I (dcd d_m_init_1 25 rfl) (by decide) (by decide) (by decide) (by decide +kernel) rfl ?_
  refine wp_putRFZ (u' := Z171) f_m_50 rfl nf_8_24 rfl (dcd d_m_init_1 26 rfl) (okd (by decide +kernel)) (by decide) rfl ?_
  refine wp_aload_n 0 (dcd d_m_init_1 27 rfl) rfl ?_
  refine wp_sipush (v := 128) (dcd d_m_init_1 28 rfl) (by decide) ?_
  refine wp_newIZ (kc := 4) (ks := 477) (N := 128) (a := 90) (u' := Z172) ar_I (dcd d_m_init_1 29 rfl) (by decide) (by decide) (by decide) (by decide +kernel) rfl ?_
  refine wp_putRFZ (u' := Z173) f_m_53 rfl nf_8_25 rfl (dcd d_m_init_2 0 rfl) (okd (by decide +kernel)) (by decide) rfl ?_
  refine wp_aload_n 0 (dcd d_m_init_2 1 rfl) rfl ?_
  refine wp_bipush (v := 7) (dcd d_m_init_2 2 rfl) (by decide) ?_
  refine wp_newIZ (kc := 3) (ks := 470) (N := 7) (a := 91) (u' := Z174) ar_I (dcd d_m_init_2 3 rfl) (by decide) (by decide) (by decide) (by decide +kernel) rfl ?_
  refine wp_putRFZ (u' := Z175) f_m_56 rfl nf_8_26 rfl (dcd d_m_init_2 4 rfl) (okd (by decide +kernel)) (by decide) rfl ?_
  refine wp_aload_n 0 (dcd d_m_init_2 5 rfl) rfl ?_
  refine wp_bipush (v := 36) (dcd d_m_init_2 6 rfl) (by decide) ?_
  refine wp_newIZ (kc := 2) (ks := 434) (N := 36) (a := 92) (u' := Z176) ar_I (dcd d_m_init_2 7 rfl) (by decide) (by decide) (by decide) (by decide +kernel) rfl ?_
  refine wp_putRFZ (u' := Z177) f_m_59 rfl nf_8_27 rfl (dcd d_m_init_2 8 rfl) (okd (by decide +kernel)) (by decide) rfl ?_
  refine wp_aload_n 0 (dcd d_m_init_2 9 rfl) rfl ?_
  refine wp_bipush (v := 7) (dcd d_m_init_2 10 rfl) (by decide) ?_
  refine wp_newIZ (kc := 1) (ks := 427) (N := 7) (a := 93) (u' := Z178) ar_I (dcd d_m_init_2 11 rfl) (by decide) (by decide) (by decide) (by decide +kernel) rfl ?_
  exact law_pre_m144_b72
theorem law_pre_m144_b24 : Wp G m_init 13 5222 46 [(0, .ref 76)] [.ref 81, .ref 76] Z154 (fun r u' => r = none ∧ u' = Z194) := by
  refine wp_putRFZ (u' := Z155) f_m_26 rfl nf_8_8 rfl (dcd d_m_init_0 24 rfl) (okd (by decide +kernel)) (by decide) rfl ?_
  refine wp_aload_n 0 (dcd d_m_init_0 25 rfl) rfl ?_
  refine wp_sipush (v := 400) (dcd d_m_init_0 26 rfl) (by decide) ?_
  refine wp_newIZ (kc := 12) (ks := 4822) (N := 400) (a := 82) (u' := Z156) ar_I (dcd d_m_init_0 27 rfl) (by decide) (by decide) (by decide) (by decide +kernel) rfl ?_
  refine wp_putRFZ (u' := Z157) f_m_29 rfl nf_8_9 rfl (dcd d_m_init_0 28 rfl) (okd (by decide +kernel)) (by decide) rfl ?_
  refine wp_aload_n 0 (dcd d_m_init_0 29 rfl) rfl ?_
  refine wp_bipush (v := 70) (dcd d_m_init_1 0 rfl) (by decide) ?_
  refine wp_newIZ (kc := 11) (ks := 4752) (N := 70) (a := 83) (u' := Z158) ar_I (dcd d_m_init_1 1 rfl) (by decide) (by decide) (by decide) (by decide +kernel) rfl ?_
  refine wp_putRFZ (u' := Z159) f_m_32 rfl nf_8_12 rfl (dcd d_m_init_1 2 rfl) (okd (by decide +kernel)) (by decide) rfl ?_
  refine wp_aload_n 0 (dcd d_m_init_1 3 rfl) rfl ?_
  refine wp_bipush (v := 7) (dcd d_m_init_1 4 rfl) (by decide) ?_
  refine wp_newIZ (kc := 10) (ks := 4745) (N := 7) (a := 84) (u' := Z160) ar_I (dcd d_m_init_1 5 rfl) (by decide) (by decide) (by decide) (by decide +kernel) rfl ?_
  refine wp_putRFZ (u' := Z161) f_m_35 rfl nf_8_17 rfl (dcd d_m_init_1 6 rfl) (okd (by decide +kernel)) (by decide) rfl ?_
  refine wp_aload_n 0 (dcd d_m_init_1 7 rfl) rfl ?_
  refine wp_bipush (v := 7) (dcd d_m_init_1 8 rfl) (by decide) ?_
  refine wp_newIZ (kc := 9) (ks := 4738) (N := 7) (a := 85) (u' := Z162) ar_I (dcd d_m_init_1 9 rfl) (by decide) (by decide) (by decide) (by decide +kernel) rfl ?_
  refine wp_putRFZ (u' := Z163) f_m_38 rfl nf_8_20 rfl (dcd d_m_init_1 10 rfl) (okd (by decide +kernel)) (by decide) rfl ?_
  refine wp_aload_n 0 (dcd d_m_init_1 11 rfl) rfl ?_
  refine wp_bipush (v := 7) (dcd d_m_init_1 12 rfl) (by decide) ?_
  refine wp_newIZ (kc := 8) (ks := 4731) (N := 7) (a := 86) (u' := Z164) ar_I (dcd d_m_init_1 13 rfl) (by decide) (by decide) (by decide) (by decide +kernel) rfl ?_
  refine wp_putRFZ (u' := Z165) f_m_41 rfl nf_8_21 rfl (dcd d_m_init_1 14 rfl) (okd (by decide +kernel)) (by decide) rfl ?_
  refine wp_aload_n 0 (dcd d_m_init_1 15 rfl) rfl ?_
  refine wp_bipush (v := 30) (dcd d_m_init_1 16 rfl) (by decide) ?_
  refine wp_newIZ (kc := 7) (ks := 4701) (N := 30) (a := 87) (u' := Z166) ar_I (dcd d_m_init_1 17 rfl) (by decide) (by decide) (by decide) (by decide +kernel) rfl ?_
  exact law_pre_m144_b48
theorem law_pre_m144 : Wp G m_init 18 5518 0 [(0, .ref 76)] [] Z144 (fun r u' => r = none ∧ u' = Z194) := by
  refine wp_aload_n 0 (dcd d_m_init_0 0 rfl) rfl ?_
  refine wp_oinit (st := []) (dcd d_m_init_0 1 rfl) ko_m_1 ko_i ko_c (by decide) (Nat.le_of_ble_eq_true rfl) ?_
  refine wp_aload_n 0 (dcd d_m_init_0 2 rfl) rfl ?_
  refine wp_bipush (v := 6) (dcd d_m_init_0 3 rfl) (by decide) ?_
  refine wp_newIZ (kc := 17) (ks := 5512) (N := 6) (a := 77) (u' := Z145) ar_I (dcd d_m_init_0 4 rfl) (by decide) (by decide) (by decide) (by decide +kernel) rfl ?_
  refine wp_putRFZ (u' := Z146) f_m_7 rfl nf_8_1 rfl (dcd d_m_init_0 5 rfl) (okd (by decide +kernel)) (by decide) rfl ?_
  refine wp_aload_n 0 (dcd d_m_init_0 6 rfl) rfl ?_
  refine wp_lconst (v := 1) (dcd d_m_init_0 7 rfl) (by decide) ?_
  refine wp_putLZ (u' := Z147) f_m_13 rfl nf_8_4 (dcd d_m_init_0 8 rfl) (okd (by decide +kernel)) rfl ?_
  refine wp_aload_n 0 (dcd d_m_init_0 9 rfl) rfl ?_
  refine wp_bipush (v := 6) (dcd d_m_init_0 10 rfl) (by decide) ?_
  refine wp_newIZ (kc := 16) (ks := 5506) (N := 6) (a := 78) (u' := Z148) ar_I (dcd d_m_init_0 11 rfl) (by decide) (by decide) (by decide) (by decide +kernel) rfl ?_
  refine wp_putRFZ (u' := Z149) f_m_17 rfl nf_8_5 rfl (dcd d_m_init_0 12 rfl) (okd (by decide +kernel)) (by decide) rfl ?_
  refine wp_aload_n 0 (dcd d_m_init_0 13 rfl) rfl ?_
  refine wp_sipush (v := 240) (dcd d_m_init_0 14 rfl) (by decide) ?_
  refine wp_newIZ (kc := 15) (ks := 5266) (N := 240) (a := 79) (u' := Z150) ar_I (dcd d_m_init_0 15 rfl) (by decide) (by decide) (by decide) (by decide +kernel) rfl ?_
  refine wp_putRFZ (u' := Z151) f_m_20 rfl nf_8_6 rfl (dcd d_m_init_0 16 rfl) (okd (by decide +kernel)) (by decide) rfl ?_
  refine wp_aload_n 0 (dcd d_m_init_0 17 rfl) rfl ?_
  refine wp_bipush (v := 40) (dcd d_m_init_0 18 rfl) (by decide) ?_
  refine wp_newIZ (kc := 14) (ks := 5226) (N := 40) (a := 80) (u' := Z152) ar_I (dcd d_m_init_0 19 rfl) (by decide) (by decide) (by decide) (by decide +kernel) rfl ?_
  refine wp_putRFZ (u' := Z153) f_m_23 rfl nf_8_7 rfl (dcd d_m_init_0 20 rfl) (okd (by decide +kernel)) (by decide) rfl ?_
  refine wp_aload_n 0 (dcd d_m_init_0 21 rfl) rfl ?_
  refine wp_iconst (v := 4) (dcd d_m_init_0 22 rfl) (by decide) ?_
  refine wp_newIZ (kc := 13) (ks := 5222) (N := 4) (a := 81) (u' := Z154) ar_I (dcd d_m_init_0 23 rfl) (by decide) (by decide) (by decide) (by decide +kernel) rfl ?_
  exact law_pre_m144_b24
end CW
