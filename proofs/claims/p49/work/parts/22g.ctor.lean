/-! ===== constructors at the start ===== -/
section CW
variable {G : pG}
theorem law_pre {Q : Option Value → pM → Prop} (h : Wp G L_law 0 0 18 [(3, .int 0), (2, .ref 76), (1, .ref 2), (0, .ref 0)] [] Z194 Q) : Wp G L_law 93 6736 0 [(0, .ref 0)] [] Z0 Q := by
  refine wp_newZ (kc := 92) (ks := 6720) (N := 16) (a := 2) (u' := Z1) ⟨_, _, cl_7, rfl, by decide, c_L_7, n_7, in_D⟩ (dcd d_L_law_0 0 rfl) (by decide +kernel) rfl ?_
  refine wp_dup (dcd d_L_law_0 1 rfl) rfl ?_
  refine wp_callIZ (kc' := 73) (ks' := 1169) (kc := 19) (ks := 5551) (o := 2) (As := []) (st := [.ref 2]) (la := [(0, .ref 2)]) (u' := Z143) (dcd d_L_law_0 2 rfl) cm_D_init k_L_9 ci_D_init rfl rfl ⟨by decide, by decide⟩ rfl (Nat.le_of_ble_eq_true rfl) (Nat.le_of_ble_eq_true rfl) rfl law_pre_D1 rfl ?_
  refine wp_astore_n (l' := [(1, .ref 2), (0, .ref 0)]) (dcd d_L_law_0 3 rfl) (by decide) rfl ?_
  refine wp_newZ (kc := 18) (ks := 5518) (N := 33) (a := 76) (u' := Z144) ⟨_, _, cl_8, rfl, by decide, c_L_10, n_8, in_m⟩ (dcd d_L_law_0 4 rfl) (by decide +kernel) rfl ?_
  refine wp_dup (dcd d_L_law_0 5 rfl) rfl ?_
  refine wp_callIZ (kc' := 18) (ks' := 5518) (kc := 0) (ks := 0) (o := 76) (As := []) (st := [.ref 76]) (la := [(0, .ref 76)]) (u' := Z194) (dcd d_L_law_0 6 rfl) cm_m_init k_L_12 ci_m_init rfl rfl ⟨by decide, by decide⟩ rfl (Nat.le_of_ble_eq_true rfl) (Nat.le_of_ble_eq_true rfl) rfl law_pre_m144 rfl ?_
  refine wp_astore_n (l' := [(2, .ref 76), (1, .ref 2), (0, .ref 0)]) (dcd d_L_law_0 7 rfl) (by decide) rfl ?_
  refine wp_iconst (v := 0) (dcd d_L_law_0 8 rfl) (by decide) ?_
  refine wp_istore_n (l' := [(3, .int 0), (2, .ref 76), (1, .ref 2), (0, .ref 0)]) (dcd d_L_law_0 9 rfl) (by decide) rfl ?_
  exact h
end CW
