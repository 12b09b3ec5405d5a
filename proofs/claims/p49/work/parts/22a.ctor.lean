/-! ===== constructors: the small ones ===== -/
section CT
variable {G : pG} {u : pM}
theorem ok_pN {n ci : Nat} {sh : Nat × Nat} (h : ok u n ci) : ok (pN u sh) n ci := ⟨h.1, Nat.lt_succ_of_lt h.2.1, by have := h.2.1; show (if n = mX u + 2 then sh else mS u n).1 = ci; rw [if_neg (by omega)]; exact h.2.2⟩
theorem ok_new {sh : Nat × Nat} : ok (pN u sh) (mX u + 2) sh.1 := ⟨by omega, Nat.lt_succ_self _, by show (if mX u + 2 = mX u + 2 then sh else mS u (mX u + 2)).1 = sh.1; rw [if_pos rfl]⟩
def fSp (u : pM) (o N : Nat) : pM := pR (pN (pI u o 1 (-1)) (100, N)) o 0 (mX u + 2)
theorem ok_fSp {n ci o N : Nat} (h : ok u n ci) : ok (fSp u o N) n ci := ok_pN (u := pI u o 1 (-1)) h
theorem ok_tR {n ci o k r : Nat} (h : ok u n ci) : ok (pR u o k r) n ci := h
theorem ok_tI {n ci o k : Nat} {x : Int32} (h : ok u n ci) : ok (pI u o k x) n ci := h
theorem i_Sp {o : Nat} {x : Int32} {N : Nat} (ho : ok u o 6) (hx : ¬ (if 0 < x then x else 0) < 0) (hN : (if 0 < x then x else 0 : Int32).toNatClampNeg = N) (hb : N * 4 ≤ 536870912) : Wp G Sp_init 1 N 0 [(0, .ref o), (1, .int x)] [] u (fun r u' => r = none ∧ u' = fSp u o N) := by
  refine Wp.more (ks := 0 + N) ?_ (by omega)
  refine wp_aload_n 0 (dcd d_Sp_init_0 0 rfl) rfl ?_
  refine wp_oinit (st := []) (dcd d_Sp_init_0 1 rfl) ko_Sp_3 ko_i ko_c (by decide) (Nat.le_of_ble_eq_true rfl) ?_
  refine wp_aload_n 0 (dcd d_Sp_init_0 2 rfl) rfl ?_
  refine wp_iconst (v := (-1)) (dcd d_Sp_init_0 3 rfl) (by decide) ?_
  refine wp_putI f_Sp_9 rfl nf_6_1 (dcd d_Sp_init_0 4 rfl) ho ?_
  refine wp_aload_n 0 (dcd d_Sp_init_0 5 rfl) rfl ?_
  refine wp_iconst (v := 0) (dcd d_Sp_init_0 6 rfl) (by decide) ?_
  refine wp_iload_n 1 (dcd d_Sp_init_0 7 rfl) rfl ?_
  refine wp_maxI (dcd d_Sp_init_0 8 rfl) km_Sp_15 ms_maxI in_jm mc_maxI ⟨by decide, Nat.le_of_ble_eq_true rfl⟩ ?_
  refine wp_newI (kc := 0) (ks := 0) (N := N) ar_I (dcd d_Sp_init_0 9 rfl) hx hN hb ?_
  refine wp_putRF f_Sp_21 rfl nf_6_0 rfl (dcd d_Sp_init_0 10 rfl) (ok_pN ho) (Nat.succ_ne_zero _) ?_
  exact wp_vret (dcd d_Sp_init_0 11 rfl) rfl ⟨rfl, rfl⟩
def fSn (u : pM) (o : Nat) : pM := pR (pN (pI (pI u o 0 (0)) o 1 (0)) (100, 7)) o 2 (mX u + 2)
theorem i_Sn {o : Nat} (ho : ok u o 5) : Wp G Sn_init 1 7 0 [(0, .ref o)] [] u (fun r u' => r = none ∧ u' = fSn u o) := by
  refine wp_aload_n 0 (dcd d_Sn_init_0 0 rfl) rfl ?_
  refine wp_oinit (st := []) (dcd d_Sn_init_0 1 rfl) ko_Sn_3 ko_i ko_c (by decide) (Nat.le_of_ble_eq_true rfl) ?_
  refine wp_aload_n 0 (dcd d_Sn_init_0 2 rfl) rfl ?_
  refine wp_iconst (v := 0) (dcd d_Sn_init_0 3 rfl) (by decide) ?_
  refine wp_putI f_Sn_9 rfl nf_5_0 (dcd d_Sn_init_0 4 rfl) ho ?_
  refine wp_aload_n 0 (dcd d_Sn_init_0 5 rfl) rfl ?_
  refine wp_iconst (v := 0) (dcd d_Sn_init_0 6 rfl) (by decide) ?_
  refine wp_putI f_Sn_15 rfl nf_5_1 (dcd d_Sn_init_0 7 rfl) ho ?_
  refine wp_aload_n 0 (dcd d_Sn_init_0 8 rfl) rfl ?_
  refine wp_bipush (v := 7) (dcd d_Sn_init_0 9 rfl) (by decide) ?_
  refine wp_newI (N := 7) ar_I (dcd d_Sn_init_0 10 rfl) (by decide) (by decide) (by decide) ?_
  refine wp_putRF f_Sn_18 rfl nf_5_2 rfl (dcd d_Sn_init_0 11 rfl) (ok_pN ho) (Nat.succ_ne_zero _) ?_
  exact wp_vret (dcd d_Sn_init_0 12 rfl) rfl ⟨rfl, rfl⟩
def fDi (u : pM) (o : Nat) : pM := pR (pN (pR (pN (pR (pN (pI u o 0 (0)) (100, 12)) o 1 (mX u + 2)) (100, 12)) o 2 (mX u + 3)) (100, 12)) o 3 (mX u + 4)
theorem i_Di {o : Nat} (ho : ok u o 0) : Wp G Di_init 3 36 0 [(0, .ref o)] [] u (fun r u' => r = none ∧ u' = fDi u o) := by
  refine wp_aload_n 0 (dcd d_Di_init_0 0 rfl) rfl ?_
  refine wp_oinit (st := []) (dcd d_Di_init_0 1 rfl) ko_Di_3 ko_i ko_c (by decide) (Nat.le_of_ble_eq_true rfl) ?_
  refine wp_aload_n 0 (dcd d_Di_init_0 2 rfl) rfl ?_
  refine wp_iconst (v := 0) (dcd d_Di_init_0 3 rfl) (by decide) ?_
  refine wp_putI f_Di_9 rfl nf_0_0 (dcd d_Di_init_0 4 rfl) ho ?_
  refine wp_aload_n 0 (dcd d_Di_init_0 5 rfl) rfl ?_
  refine wp_bipush (v := 12) (dcd d_Di_init_0 6 rfl) (by decide) ?_
  refine wp_newI (N := 12) ar_I (dcd d_Di_init_0 7 rfl) (by decide) (by decide) (by decide) ?_
  refine wp_putRF f_Di_15 rfl nf_0_1 rfl (dcd d_Di_init_0 8 rfl) (ok_pN ho) (Nat.succ_ne_zero _) ?_
  refine wp_aload_n 0 (dcd d_Di_init_0 9 rfl) rfl ?_
  refine wp_bipush (v := 12) (dcd d_Di_init_0 10 rfl) (by decide) ?_
  refine wp_newI (N := 12) ar_I (dcd d_Di_init_0 11 rfl) (by decide) (by decide) (by decide) ?_
  refine wp_putRF f_Di_19 rfl nf_0_2 rfl (dcd d_Di_init_0 12 rfl) (ok_pN (ok_pN ho)) (Nat.succ_ne_zero _) ?_
  refine wp_aload_n 0 (dcd d_Di_init_0 13 rfl) rfl ?_
  refine wp_bipush (v := 12) (dcd d_Di_init_0 14 rfl) (by decide) ?_
  refine wp_newI (N := 12) ar_I (dcd d_Di_init_0 15 rfl) (by decide) (by decide) (by decide) ?_
  refine wp_putRF f_Di_22 rfl nf_0_3 rfl (dcd d_Di_init_0 16 rfl) (ok_pN (ok_pN (ok_pN ho))) (Nat.succ_ne_zero _) ?_
  exact wp_vret (dcd d_Di_init_0 17 rfl) rfl ⟨rfl, rfl⟩
def fEr (u : pM) (o : Nat) : pM := pR (pN (pR (pN u (101, 128)) o 0 (mX u + 2)) (101, 128)) o 1 (mX u + 3)
theorem i_Er {o : Nat} (ho : ok u o 1) : Wp G Er_init 2 256 0 [(0, .ref o)] [] u (fun r u' => r = none ∧ u' = fEr u o) := by
  refine wp_aload_n 0 (dcd d_Er_init_0 0 rfl) rfl ?_
  refine wp_oinit (st := []) (dcd d_Er_init_0 1 rfl) ko_Er_5 ko_i ko_c (by decide) (Nat.le_of_ble_eq_true rfl) ?_
  refine wp_aload_n 0 (dcd d_Er_init_0 2 rfl) rfl ?_
  refine wp_sipush (v := 128) (dcd d_Er_init_0 3 rfl) (by decide) ?_
  refine wp_newJ (N := 128) ar_J (dcd d_Er_init_0 4 rfl) (by decide) (by decide) (by decide) ?_
  refine wp_putRF f_Er_11 rfl nf_1_0 rfl (dcd d_Er_init_0 5 rfl) (ok_pN ho) (Nat.succ_ne_zero _) ?_
  refine wp_aload_n 0 (dcd d_Er_init_0 6 rfl) rfl ?_
  refine wp_sipush (v := 128) (dcd d_Er_init_0 7 rfl) (by decide) ?_
  refine wp_newJ (N := 128) ar_J (dcd d_Er_init_0 8 rfl) (by decide) (by decide) (by decide) ?_
  refine wp_putRF f_Er_15 rfl nf_1_1 rfl (dcd d_Er_init_0 9 rfl) (ok_pN (ok_pN ho)) (Nat.succ_ne_zero _) ?_
  exact wp_vret (dcd d_Er_init_0 10 rfl) rfl ⟨rfl, rfl⟩
def fSh (u : pM) (o : Nat) : pM := pI (pI (pI (pI (pI u o 0 (0)) o 1 (0)) o 2 (0)) o 3 (0)) o 4 (0)
theorem i_Sh {o : Nat} (ho : ok u o 4) : Wp G Sh_init 0 0 0 [(0, .ref o)] [] u (fun r u' => r = none ∧ u' = fSh u o) := by
  refine wp_aload_n 0 (dcd d_Sh_init_0 0 rfl) rfl ?_
  refine wp_oinit (st := []) (dcd d_Sh_init_0 1 rfl) ko_Sh_3 ko_i ko_c (by decide) (Nat.le_of_ble_eq_true rfl) ?_
  refine wp_aload_n 0 (dcd d_Sh_init_0 2 rfl) rfl ?_
  refine wp_iconst (v := 0) (dcd d_Sh_init_0 3 rfl) (by decide) ?_
  refine wp_putI f_Sh_9 rfl nf_4_0 (dcd d_Sh_init_0 4 rfl) ho ?_
  refine wp_aload_n 0 (dcd d_Sh_init_0 5 rfl) rfl ?_
  refine wp_iconst (v := 0) (dcd d_Sh_init_0 6 rfl) (by decide) ?_
  refine wp_putI f_Sh_15 rfl nf_4_1 (dcd d_Sh_init_0 7 rfl) ho ?_
  refine wp_aload_n 0 (dcd d_Sh_init_0 8 rfl) rfl ?_
  refine wp_iconst (v := 0) (dcd d_Sh_init_0 9 rfl) (by decide) ?_
  refine wp_putI f_Sh_18 rfl nf_4_2 (dcd d_Sh_init_0 10 rfl) ho ?_
  refine wp_aload_n 0 (dcd d_Sh_init_0 11 rfl) rfl ?_
  refine wp_iconst (v := 0) (dcd d_Sh_init_0 12 rfl) (by decide) ?_
  refine wp_putI f_Sh_21 rfl nf_4_3 (dcd d_Sh_init_0 13 rfl) ho ?_
  refine wp_aload_n 0 (dcd d_Sh_init_0 14 rfl) rfl ?_
  refine wp_iconst (v := 0) (dcd d_Sh_init_0 15 rfl) (by decide) ?_
  refine wp_putI f_Sh_24 rfl nf_4_4 (dcd d_Sh_init_0 16 rfl) ho ?_
  exact wp_vret (dcd d_Sh_init_0 17 rfl) rfl ⟨rfl, rfl⟩
def fRd (u : pM) (o : Nat) : pM := pI (pI (pR (fSp (pN u (6, 0)) (mX u + 2) 0) o 0 (mX u + 2)) o 1 (0)) o 2 (0)
theorem i_Rd {o : Nat} (ho : ok u o 3) : Wp G Rd_init 2 2 0 [(0, .ref o)] [] u (fun r u' => r = none ∧ u' = fRd u o) := by
  refine wp_aload_n 0 (dcd d_Rd_init_0 0 rfl) rfl ?_
  refine wp_oinit (st := []) (dcd d_Rd_init_0 1 rfl) ko_Rd_3 ko_i ko_c (by decide) (Nat.le_of_ble_eq_true rfl) ?_
  refine wp_aload_n 0 (dcd d_Rd_init_0 2 rfl) rfl ?_
  refine wp_new (N := 2) ⟨_, _, cl_6, rfl, by decide, c_Rd_9, n_6, in_Sp⟩ (dcd d_Rd_init_0 3 rfl) ?_
  refine wp_dup (dcd d_Rd_init_0 4 rfl) rfl ?_
  refine wp_iconst (v := 0) (dcd d_Rd_init_0 5 rfl) (by decide) ?_
  refine wp_callI (kc' := 1) (ks' := 0) (kc := 0) (ks := 0) (As := [.int 0]) (dcd d_Rd_init_0 6 rfl) cm_Sp_init k_Rd_11 ci_Sp_init rfl rfl ⟨by decide, by decide⟩ rfl (Nat.le_of_ble_eq_true rfl) (Nat.le_of_ble_eq_true rfl) (i_Sp (ok_new (u := u) (sh := (6, 0))) (by decide) (by decide) (by decide)) ?_
  rintro _ _ ⟨rfl, rfl⟩
  refine wp_putR f_Rd_14 rfl nf_3_0 (dcd d_Rd_init_0 7 rfl) (ok_fSp (ok_pN ho)) (Nat.succ_ne_zero _) ?_
  refine wp_aload_n 0 (dcd d_Rd_init_0 8 rfl) rfl ?_
  refine wp_iconst (v := 0) (dcd d_Rd_init_0 9 rfl) (by decide) ?_
  refine wp_putI f_Rd_20 rfl nf_3_1 (dcd d_Rd_init_0 10 rfl) (ok_tR (ok_fSp (ok_pN ho))) ?_
  refine wp_aload_n 0 (dcd d_Rd_init_0 11 rfl) rfl ?_
  refine wp_iconst (v := 0) (dcd d_Rd_init_0 12 rfl) (by decide) ?_
  refine wp_putI f_Rd_24 rfl nf_3_2 (dcd d_Rd_init_0 13 rfl) (ok_tI (ok_tR (ok_fSp (ok_pN ho)))) ?_
  exact wp_vret (dcd d_Rd_init_0 14 rfl) rfl ⟨rfl, rfl⟩
end CT
