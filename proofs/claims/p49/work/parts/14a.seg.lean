section SEG
variable {G : pG} {u : pM} {Q : Option Value → pM → Prop}
theorem sg_D_row_0 {x1 : Int32} {x2 : Int32}  (h : (((0 ≤ x1 ∧ x1 < 6) → ((x2 ≤ 40 → ((0 ≤ x2 → Ws G Sp_renew 0 [(0, .ref (roV x1)), (1, .int x2), (2, .int 0)] [] u (RV fun u5 => Q (some (.int x2)) u5)) ∧ (¬ (0 ≤ x2) → Q (some (.int (-3))) (dF u 5)))) ∧ (¬ (x2 ≤ 40) → Q (some (.int (-1))) u))) ∧ (¬ (0 ≤ x1 ∧ x1 < 6) → Q (some (.int (-1))) u))) : Ws G D_row 0 [(0, .ref 2), (1, .int x1), (2, .int x2)] [] u Q := by
  refine ws_iload_n 1 (dcd d_D_row_0 0 rfl) rfl ?_
  refine ws_callSI (As := [.int x1]) (st := []) (la := [(0, .int x1)]) (dcd d_D_row_0 1 rfl) cs_D_isRow k_D_87 ⟨by decide, by decide⟩ rfl (Nat.le_of_ble_eq_true rfl) (Nat.le_of_ble_eq_true rfl) rfl rfl sp_D_isRow ?_
  rintro _ _ ⟨rfl, ⟨rfl, c1⟩ | ⟨rfl, c1⟩⟩
  · have h := h.1 c1
    refine ws_if_eq (tgt := 13) (dcd d_D_row_0 2 rfl) (by decide) (fun c => absurd c (by decide)) (fun _ => ?_)
    refine ws_iload_n 2 (dcd d_D_row_0 3 rfl) rfl ?_
    refine ws_bipush (v := 40) (dcd d_D_row_0 4 rfl) (by decide) ?_
    refine ws_icmp_le (tgt := 15) (dcd d_D_row_0 5 rfl) (by decide) (fun c3 => ?_) (fun c3 => ?_)
    · have h := h.1 c3
      refine ws_iload_n 2 (dcd d_D_row_0 8 rfl) rfl ?_
      refine ws_if_ge (tgt := 25) (dcd d_D_row_0 9 rfl) (by decide) (fun c4 => ?_) (fun c4 => ?_)
      · have h := h.1 c4
        refine ws_aload_n 0 (dcd d_D_row_0 14 rfl) rfl ?_
        refine ws_iload_n 1 (dcd d_D_row_0 15 rfl) rfl ?_
        refine ws_callVR (o := 2) (As := [.int x1]) (st := []) (la := [(0, .ref 2), (1, .int x1)]) (dcd d_D_row_0 16 rfl) cv_D_rowOf k_D_95 ⟨by decide, by decide⟩ ok_2 rfl (Nat.le_of_ble_eq_true rfl) (Nat.le_of_ble_eq_true rfl) rfl rfl sp_D_rowOf ?_
        rintro _ _ ⟨rfl, rfl⟩
        refine ws_iload_n 2 (dcd d_D_row_0 17 rfl) rfl ?_
        refine ws_iconst (v := 0) (dcd d_D_row_0 18 rfl) (by decide) ?_
        refine ws_callVV (o := (roV x1)) (As := [.int x2, .int 0]) (st := []) (la := [(0, .ref (roV x1)), (1, .int x2), (2, .int 0)]) (dcd d_D_row_0 19 rfl) cv_Sp_renew k_D_99 ⟨by decide, by decide⟩ (roV_ok x1) rfl (Nat.le_of_ble_eq_true rfl) (Nat.le_of_ble_eq_true rfl) rfl rfl h (fun u5 h => ?_)
        refine ws_iload_n 2 (dcd d_D_row_0 20 rfl) rfl ?_
        exact ws_iret (dcd d_D_row_0 21 rfl) ⟨_, rfl, rfl⟩ h
      · have h := h.2 c4
        refine ws_aload_n 0 (dcd d_D_row_0 10 rfl) rfl ?_
        refine ws_iconst (v := 5) (dcd d_D_row_0 11 rfl) (by decide) ?_
        refine ws_callVI (o := 2) (As := [.int 5]) (st := []) (la := [(0, .ref 2), (1, .int 5)]) (dcd d_D_row_0 12 rfl) cv_D_found k_D_91 ⟨by decide, by decide⟩ ok_2 rfl (Nat.le_of_ble_eq_true rfl) (Nat.le_of_ble_eq_true rfl) rfl rfl sp_D_found ?_
        rintro _ _ ⟨rfl, rfl⟩
        exact ws_iret (dcd d_D_row_0 13 rfl) ⟨_, rfl, rfl⟩ h
    · have h := h.2 c3
      refine ws_iconst (v := (-1)) (dcd d_D_row_0 6 rfl) (by decide) ?_
      exact ws_iret (dcd d_D_row_0 7 rfl) ⟨_, rfl, rfl⟩ h
  · have h := h.2 c1
    refine ws_if_eq (tgt := 13) (dcd d_D_row_0 2 rfl) (by decide) (fun _ => ?_) (fun c => absurd (show (0 : Int32) = 0 from by decide) c)
    refine ws_iconst (v := (-1)) (dcd d_D_row_0 6 rfl) (by decide) ?_
    exact ws_iret (dcd d_D_row_0 7 rfl) ⟨_, rfl, rfl⟩ h
theorem sg_Sp_renew_0 {o0 : Nat} {x1 : Int32} {x2 : Int32} (k0 : okS o0 6) (h : Ws G ja_fill 0 [(0, .ref (o0 + 1)), (1, .int x2)] [] (pI u o0 1 (if (Int32.ofNat (S0 (o0 + 1)).2) < x1 then (Int32.ofNat (S0 (o0 + 1)).2) else x1)) (RV fun u1 => Q none u1)) : Ws G Sp_renew 0 [(0, .ref o0), (1, .int x1), (2, .int x2)] [] u Q := by
  refine ws_aload_n 0 (dcd d_Sp_renew_0 0 rfl) rfl ?_
  refine ws_iload_n 1 (dcd d_Sp_renew_0 1 rfl) rfl ?_
  refine ws_aload_n 0 (dcd d_Sp_renew_0 2 rfl) rfl ?_
  refine ws_getF (a := (o0 + 1)) f_Sp_21 rfl (dcd d_Sp_renew_0 3 rfl) k0 of_6_0 rfl ?_
  refine ws_alen (dcd d_Sp_renew_0 4 rfl) (os_6_0 k0) (by decide) ?_
  refine ws_minI (st := [.ref o0]) (dcd d_Sp_renew_0 5 rfl) km_Sp_29 ms_minI in_jm mc_minI ⟨by decide, Nat.le_of_ble_eq_true rfl⟩ ?_
  refine ws_putI f_Sp_9 rfl nf_6_1 (dcd d_Sp_renew_0 6 rfl) k0 ?_
  refine ws_aload_n 0 (dcd d_Sp_renew_0 7 rfl) rfl ?_
  refine ws_getF (a := (o0 + 1)) f_Sp_21 rfl (dcd d_Sp_renew_0 8 rfl) k0 of_6_0 rfl ?_
  refine ws_iload_n 2 (dcd d_Sp_renew_0 9 rfl) rfl ?_
  refine ws_callSV (As := [.ref (o0 + 1), .int x2]) (st := []) (la := [(0, .ref (o0 + 1)), (1, .int x2)]) (dcd d_Sp_renew_0 10 rfl) cs_ja_fill k_Sp_32 ⟨by decide, by decide⟩ rfl (Nat.le_of_ble_eq_true rfl) (Nat.le_of_ble_eq_true rfl) rfl rfl h (fun u1 h => ?_)
  exact ws_vret (dcd d_Sp_renew_0 11 rfl) rfl h
theorem sg_ja_fill_0 {o0 : Nat} {x1 : Int32} (k0 : okS o0 100) (h : Ws G ja_fill 5 [(0, .ref o0), (1, .int x1), (2, .int 0), (3, .int (Int32.ofNat (S0 o0).2))] [] u Q) : Ws G ja_fill 0 [(0, .ref o0), (1, .int x1)] [] u Q := by
  refine ws_iconst (v := 0) (dcd d_ja_fill_0 0 rfl) (by decide) ?_
  refine ws_istore_n (l' := [(2, .int 0), (0, .ref o0), (1, .int x1)]) (dcd d_ja_fill_0 1 rfl) (by decide) rfl ?_
  refine ws_aload_n 1 (dcd d_ja_fill_0 2 rfl) rfl ?_
  refine ws_alen (dcd d_ja_fill_0 3 rfl) k0 (by decide) ?_
  refine ws_istore_n (l' := [(3, .int (Int32.ofNat (S0 o0).2)), (2, .int 0), (0, .ref o0), (1, .int x1)]) (dcd d_ja_fill_0 4 rfl) (by decide) rfl ?_
  exact ws_loc [2, 3, 1, 0] rfl h
theorem sg_ja_fill_5 {o0 : Nat} {x1 : Int32} {x2 : Int32} {x3 : Int32} (k0 : okS o0 100) (h : ((x3 ≤ x2 → Q none u) ∧ (¬ (x3 ≤ x2) → (vp_in x2 (S0 o0).2 ∧ Ws G ja_fill 5 [(0, .ref o0), (1, .int x1), (2, .int (x2 + 1)), (3, .int x3)] [] (pI u o0 (x2 : Int32).toNatClampNeg x1) Q)))) : Ws G ja_fill 5 [(0, .ref o0), (1, .int x1), (2, .int x2), (3, .int x3)] [] u Q := by
  refine ws_iload_n 2 (dcd d_ja_fill_0 5 rfl) rfl ?_
  refine ws_iload_n 3 (dcd d_ja_fill_0 6 rfl) rfl ?_
  refine ws_icmp_ge (tgt := 20) (dcd d_ja_fill_0 7 rfl) (by decide) (fun c1 => ?_) (fun c1 => ?_)
  · have h := h.1 c1
    exact ws_vret (dcd d_ja_fill_0 14 rfl) rfl h
  · have h := h.2 c1
    refine ws_aload_n 0 (dcd d_ja_fill_0 8 rfl) rfl ?_
    refine ws_iload_n 2 (dcd d_ja_fill_0 9 rfl) rfl ?_
    refine ws_iload_n 1 (dcd d_ja_fill_0 10 rfl) rfl ?_
    obtain ⟨e2, h⟩ := h
    refine ws_iast (L := (S0 o0).2) (dcd d_ja_fill_0 11 rfl) k0 rfl e2 ?_
    refine ws_iinc (v := 1) (l' := [(2, .int (x2 + 1)), (0, .ref o0), (1, .int x1), (3, .int x3)]) 2 (dcd d_ja_fill_0 12 rfl) rfl (by decide) (by decide) rfl ?_
    refine ws_goto (tgt := 5) (dcd d_ja_fill_0 13 rfl) (by decide) ?_
    exact ws_loc [1, 2, 0, 3] rfl h
theorem sg_ja_fillJ_0 {o0 : Nat} {x1 : Int64} (k0 : okS o0 101) (h : Ws G ja_fillJ 6 [(0, .ref o0), (1, .long x1), (3, .int 0), (4, .int (Int32.ofNat (S0 o0).2))] [] u Q) : Ws G ja_fillJ 0 [(0, .ref o0), (1, .long x1)] [] u Q := by
  refine ws_iconst (v := 0) (dcd d_ja_fillJ_0 0 rfl) (by decide) ?_
  refine ws_istore_n (l' := [(3, .int 0), (0, .ref o0), (1, .long x1)]) (dcd d_ja_fillJ_0 1 rfl) (by decide) rfl ?_
  refine ws_aload_n 1 (dcd d_ja_fillJ_0 2 rfl) rfl ?_
  refine ws_alen (dcd d_ja_fillJ_0 3 rfl) k0 (by decide) ?_
  refine ws_istore (l' := [(4, .int (Int32.ofNat (S0 o0).2)), (3, .int 0), (0, .ref o0), (1, .long x1)]) (dcd d_ja_fillJ_0 4 rfl) (by decide) rfl ?_
  exact ws_loc [2, 3, 1, 0] rfl h
theorem sg_ja_fillJ_6 {o0 : Nat} {x1 : Int64} {x3 : Int32} {x4 : Int32} (k0 : okS o0 101) (h : ((x4 ≤ x3 → Q none u) ∧ (¬ (x4 ≤ x3) → (vp_in x3 (S0 o0).2 ∧ Ws G ja_fillJ 6 [(0, .ref o0), (1, .long x1), (3, .int (x3 + 1)), (4, .int x4)] [] (pL u o0 (x3 : Int32).toNatClampNeg x1) Q)))) : Ws G ja_fillJ 6 [(0, .ref o0), (1, .long x1), (3, .int x3), (4, .int x4)] [] u Q := by
  refine ws_iload_n 2 (dcd d_ja_fillJ_0 5 rfl) rfl ?_
  refine ws_iload 3 (dcd d_ja_fillJ_0 6 rfl) rfl ?_
  refine ws_icmp_ge (tgt := 22) (dcd d_ja_fillJ_0 7 rfl) (by decide) (fun c1 => ?_) (fun c1 => ?_)
  · have h := h.1 c1
    exact ws_vret (dcd d_ja_fillJ_0 14 rfl) rfl h
  · have h := h.2 c1
    refine ws_aload_n 0 (dcd d_ja_fillJ_0 8 rfl) rfl ?_
    refine ws_iload_n 2 (dcd d_ja_fillJ_0 9 rfl) rfl ?_
    refine ws_lload_n 1 (dcd d_ja_fillJ_0 10 rfl) rfl ?_
    obtain ⟨e2, h⟩ := h
    refine ws_last (L := (S0 o0).2) (dcd d_ja_fillJ_0 11 rfl) k0 rfl e2 ?_
    refine ws_iinc (v := 1) (l' := [(3, .int (x3 + 1)), (0, .ref o0), (1, .long x1), (4, .int x4)]) 2 (dcd d_ja_fillJ_0 12 rfl) rfl (by decide) (by decide) rfl ?_
    refine ws_goto (tgt := 6) (dcd d_ja_fillJ_0 13 rfl) (by decide) ?_
    exact ws_loc [1, 2, 0, 3] rfl h
theorem sg_D_lay_0 {x1 : Int32} {x2 : Int32} {x3 : Int32}  (h : (((0 ≤ x1 ∧ x1 < 6) → Ws G D_placeFinding 0 [(0, .ref (roV x1)), (1, .int x2)] [] u (RI fun a3 u3 => ((a3 = 0 → Q (some (.int 1)) (pI (spS u3 (roV x1) x2 x3) 2 12 (spG u3 (roV x1) x2))) ∧ (¬ a3 = 0 → Q (some (.int (-3))) (dF u3 a3))))) ∧ (¬ (0 ≤ x1 ∧ x1 < 6) → Q (some (.int (-1))) u))) : Ws G D_lay 0 [(0, .ref 2), (1, .int x1), (2, .int x2), (3, .int x3)] [] u Q := by
  refine ws_iload_n 1 (dcd d_D_lay_0 0 rfl) rfl ?_
  refine ws_callSI (As := [.int x1]) (st := []) (la := [(0, .int x1)]) (dcd d_D_lay_0 1 rfl) cs_D_isRow k_D_87 ⟨by decide, by decide⟩ rfl (Nat.le_of_ble_eq_true rfl) (Nat.le_of_ble_eq_true rfl) rfl rfl sp_D_isRow ?_
  rintro _ _ ⟨rfl, ⟨rfl, c1⟩ | ⟨rfl, c1⟩⟩
  · have h := h.1 c1
    refine ws_if_ne (tgt := 9) (dcd d_D_lay_0 2 rfl) (by decide) (fun _ => ?_) (fun c => absurd c (by decide))
    refine ws_aload_n 0 (dcd d_D_lay_0 5 rfl) rfl ?_
    refine ws_iload_n 1 (dcd d_D_lay_0 6 rfl) rfl ?_
    refine ws_callVR (o := 2) (As := [.int x1]) (st := []) (la := [(0, .ref 2), (1, .int x1)]) (dcd d_D_lay_0 7 rfl) cv_D_rowOf k_D_95 ⟨by decide, by decide⟩ ok_2 rfl (Nat.le_of_ble_eq_true rfl) (Nat.le_of_ble_eq_true rfl) rfl rfl sp_D_rowOf ?_
    rintro _ _ ⟨rfl, rfl⟩
    refine ws_astore (l' := [(4, .ref (roV x1)), (0, .ref 2), (1, .int x1), (2, .int x2), (3, .int x3)]) (dcd d_D_lay_0 8 rfl) (by decide) rfl ?_
    refine ws_aload 0 (dcd d_D_lay_0 9 rfl) rfl ?_
    refine ws_iload_n 3 (dcd d_D_lay_0 10 rfl) rfl ?_
    refine ws_callSI (As := [.ref (roV x1), .int x2]) (st := []) (la := [(0, .ref (roV x1)), (1, .int x2)]) (dcd d_D_lay_0 11 rfl) cs_D_placeFinding k_D_103 ⟨by decide, by decide⟩ rfl (Nat.le_of_ble_eq_true rfl) (Nat.le_of_ble_eq_true rfl) rfl rfl h (fun a3 u3 h => ?_)
    refine ws_istore (l' := [(5, .int a3), (4, .ref (roV x1)), (0, .ref 2), (1, .int x1), (2, .int x2), (3, .int x3)]) (dcd d_D_lay_0 12 rfl) (by decide) rfl ?_
    refine ws_iload 0 (dcd d_D_lay_0 13 rfl) rfl ?_
    refine ws_if_eq (tgt := 36) (dcd d_D_lay_0 14 rfl) (by decide) (fun c4 => ?_) (fun c4 => ?_)
    · have h := h.1 c4
      refine ws_aload 1 (dcd d_D_lay_0 19 rfl) rfl ?_
      refine ws_iload_n 4 (dcd d_D_lay_0 20 rfl) rfl ?_
      refine ws_callVI (o := (roV x1)) (As := [.int x2]) (st := []) (la := [(0, .ref (roV x1)), (1, .int x2)]) (dcd d_D_lay_0 21 rfl) cv_Sp_get k_D_107 ⟨by decide, by decide⟩ (roV_ok x1) rfl (Nat.le_of_ble_eq_true rfl) (Nat.le_of_ble_eq_true rfl) rfl rfl (sp_Sp_get (roV_ok x1)) ?_
      rintro _ _ ⟨rfl, rfl⟩
      refine ws_istore (l' := [(6, .int (spG u3 (roV x1) x2)), (5, .int a3), (4, .ref (roV x1)), (0, .ref 2), (1, .int x1), (2, .int x2), (3, .int x3)]) (dcd d_D_lay_0 22 rfl) (by decide) rfl ?_
      refine ws_aload 2 (dcd d_D_lay_0 23 rfl) rfl ?_
      refine ws_iload_n 5 (dcd d_D_lay_0 24 rfl) rfl ?_
      refine ws_iload_n 6 (dcd d_D_lay_0 25 rfl) rfl ?_
      refine ws_callVV (o := (roV x1)) (As := [.int x2, .int x3]) (st := []) (la := [(0, .ref (roV x1)), (1, .int x2), (2, .int x3)]) (dcd d_D_lay_0 26 rfl) cv_Sp_set k_D_110 ⟨by decide, by decide⟩ (roV_ok x1) rfl (Nat.le_of_ble_eq_true rfl) (Nat.le_of_ble_eq_true rfl) rfl rfl (sp_Sp_set (roV_ok x1)) ?_
      rintro _ rfl
      refine ws_aload_n 3 (dcd d_D_lay_0 27 rfl) rfl ?_
      refine ws_iload 0 (dcd d_D_lay_0 28 rfl) rfl ?_
      refine ws_iconst (v := 1) (dcd d_D_lay_0 29 rfl) (by decide) ?_
      refine ws_callVI (o := 2) (As := [.int (spG u3 (roV x1) x2), .int 1]) (st := []) (la := [(0, .ref 2), (1, .int (spG u3 (roV x1) x2)), (2, .int 1)]) (dcd d_D_lay_1 0 rfl) cv_D_tell k_D_113 ⟨by decide, by decide⟩ ok_2 rfl (Nat.le_of_ble_eq_true rfl) (Nat.le_of_ble_eq_true rfl) rfl rfl sp_D_tell ?_
      rintro _ _ ⟨rfl, rfl⟩
      exact ws_iret (dcd d_D_lay_1 1 rfl) ⟨_, rfl, rfl⟩ h
    · have h := h.2 c4
      refine ws_aload_n 2 (dcd d_D_lay_0 15 rfl) rfl ?_
      refine ws_iload 0 (dcd d_D_lay_0 16 rfl) rfl ?_
      refine ws_callVI (o := 2) (As := [.int a3]) (st := []) (la := [(0, .ref 2), (1, .int a3)]) (dcd d_D_lay_0 17 rfl) cv_D_found k_D_91 ⟨by decide, by decide⟩ ok_2 rfl (Nat.le_of_ble_eq_true rfl) (Nat.le_of_ble_eq_true rfl) rfl rfl sp_D_found ?_
      rintro _ _ ⟨rfl, rfl⟩
      exact ws_iret (dcd d_D_lay_0 18 rfl) ⟨_, rfl, rfl⟩ h
  · have h := h.2 c1
    refine ws_if_ne (tgt := 9) (dcd d_D_lay_0 2 rfl) (by decide) (fun c => absurd (show (0 : Int32) = 0 from by decide) c) (fun _ => ?_)
    refine ws_iconst (v := (-1)) (dcd d_D_lay_0 3 rfl) (by decide) ?_
    exact ws_iret (dcd d_D_lay_0 4 rfl) ⟨_, rfl, rfl⟩ h
theorem sg_D_placeFinding_0 {o0 : Nat} {x1 : Int32} (k0 : okS o0 6) (h : (((0 ≤ (mI u o0 1)) → (((spH u o0 x1) → Q (some (.int 0)) u) ∧ (¬ (spH u o0 x1) → Q (some (.int 2)) u))) ∧ (¬ (0 ≤ (mI u o0 1)) → Q (some (.int 1)) u))) : Ws G D_placeFinding 0 [(0, .ref o0), (1, .int x1)] [] u Q := by
  refine ws_aload_n 0 (dcd d_D_placeFinding_0 0 rfl) rfl ?_
  refine ws_callVI (o := o0) (As := []) (st := []) (la := [(0, .ref o0)]) (dcd d_D_placeFinding_0 1 rfl) cv_Sp_isThere k_D_117 ⟨by decide, by decide⟩ k0 rfl (Nat.le_of_ble_eq_true rfl) (Nat.le_of_ble_eq_true rfl) rfl rfl (sp_Sp_isThere k0) ?_
  rintro _ _ ⟨rfl, ⟨rfl, c1⟩ | ⟨rfl, c1⟩⟩
  · have h := h.1 c1
    refine ws_if_ne (tgt := 9) (dcd d_D_placeFinding_0 2 rfl) (by decide) (fun _ => ?_) (fun c => absurd c (by decide))
    refine ws_aload_n 0 (dcd d_D_placeFinding_0 5 rfl) rfl ?_
    refine ws_iload_n 1 (dcd d_D_placeFinding_0 6 rfl) rfl ?_
    refine ws_callVI (o := o0) (As := [.int x1]) (st := []) (la := [(0, .ref o0), (1, .int x1)]) (dcd d_D_placeFinding_0 7 rfl) cv_Sp_has k_D_341 ⟨by decide, by decide⟩ k0 rfl (Nat.le_of_ble_eq_true rfl) (Nat.le_of_ble_eq_true rfl) rfl rfl (sp_Sp_has k0) ?_
    rintro _ _ ⟨rfl, ⟨rfl, c3⟩ | ⟨rfl, c3⟩⟩
    · have h := h.1 c3
      refine ws_if_eq (tgt := 21) (dcd d_D_placeFinding_0 8 rfl) (by decide) (fun c => absurd c (by decide)) (fun _ => ?_)
      refine ws_iconst (v := 0) (dcd d_D_placeFinding_0 9 rfl) (by decide) ?_
      refine ws_goto (tgt := 22) (dcd d_D_placeFinding_0 10 rfl) (by decide) ?_
      exact ws_iret (dcd d_D_placeFinding_0 12 rfl) ⟨_, rfl, rfl⟩ h
    · have h := h.2 c3
      refine ws_if_eq (tgt := 21) (dcd d_D_placeFinding_0 8 rfl) (by decide) (fun _ => ?_) (fun c => absurd (show (0 : Int32) = 0 from by decide) c)
      refine ws_iconst (v := 2) (dcd d_D_placeFinding_0 11 rfl) (by decide) ?_
      exact ws_iret (dcd d_D_placeFinding_0 12 rfl) ⟨_, rfl, rfl⟩ h
  · have h := h.2 c1
    refine ws_if_ne (tgt := 9) (dcd d_D_placeFinding_0 2 rfl) (by decide) (fun c => absurd (show (0 : Int32) = 0 from by decide) c) (fun _ => ?_)
    refine ws_iconst (v := 1) (dcd d_D_placeFinding_0 3 rfl) (by decide) ?_
    exact ws_iret (dcd d_D_placeFinding_0 4 rfl) ⟨_, rfl, rfl⟩ h
theorem sg_D_at_0 {x1 : Int32} {x2 : Int32}  (h : (((0 ≤ x1 ∧ x1 < 6) → Ws G D_placeFinding 0 [(0, .ref (roV x1)), (1, .int x2)] [] u (RI fun a3 u3 => ((a3 = 0 → Q (some (.int 1)) (pI u3 2 12 (spG u3 (roV x1) x2))) ∧ (¬ a3 = 0 → Q (some (.int (-3))) (dF u3 a3))))) ∧ (¬ (0 ≤ x1 ∧ x1 < 6) → Q (some (.int (-1))) u))) : Ws G D_at 0 [(0, .ref 2), (1, .int x1), (2, .int x2)] [] u Q := by
  refine ws_iload_n 1 (dcd d_D_at_0 0 rfl) rfl ?_
  refine ws_callSI (As := [.int x1]) (st := []) (la := [(0, .int x1)]) (dcd d_D_at_0 1 rfl) cs_D_isRow k_D_87 ⟨by decide, by decide⟩ rfl (Nat.le_of_ble_eq_true rfl) (Nat.le_of_ble_eq_true rfl) rfl rfl sp_D_isRow ?_
  rintro _ _ ⟨rfl, ⟨rfl, c1⟩ | ⟨rfl, c1⟩⟩
  · have h := h.1 c1
    refine ws_if_ne (tgt := 9) (dcd d_D_at_0 2 rfl) (by decide) (fun _ => ?_) (fun c => absurd c (by decide))
    refine ws_aload_n 0 (dcd d_D_at_0 5 rfl) rfl ?_
    refine ws_iload_n 1 (dcd d_D_at_0 6 rfl) rfl ?_
    refine ws_callVR (o := 2) (As := [.int x1]) (st := []) (la := [(0, .ref 2), (1, .int x1)]) (dcd d_D_at_0 7 rfl) cv_D_rowOf k_D_95 ⟨by decide, by decide⟩ ok_2 rfl (Nat.le_of_ble_eq_true rfl) (Nat.le_of_ble_eq_true rfl) rfl rfl sp_D_rowOf ?_
    rintro _ _ ⟨rfl, rfl⟩
    refine ws_astore_n (l' := [(3, .ref (roV x1)), (0, .ref 2), (1, .int x1), (2, .int x2)]) (dcd d_D_at_0 8 rfl) (by decide) rfl ?_
    refine ws_aload_n 0 (dcd d_D_at_0 9 rfl) rfl ?_
    refine ws_iload_n 3 (dcd d_D_at_0 10 rfl) rfl ?_
    refine ws_callSI (As := [.ref (roV x1), .int x2]) (st := []) (la := [(0, .ref (roV x1)), (1, .int x2)]) (dcd d_D_at_0 11 rfl) cs_D_placeFinding k_D_103 ⟨by decide, by decide⟩ rfl (Nat.le_of_ble_eq_true rfl) (Nat.le_of_ble_eq_true rfl) rfl rfl h (fun a3 u3 h => ?_)
    refine ws_istore (l' := [(4, .int a3), (3, .ref (roV x1)), (0, .ref 2), (1, .int x1), (2, .int x2)]) (dcd d_D_at_0 12 rfl) (by decide) rfl ?_
    refine ws_iload 0 (dcd d_D_at_0 13 rfl) rfl ?_
    refine ws_if_eq (tgt := 36) (dcd d_D_at_0 14 rfl) (by decide) (fun c4 => ?_) (fun c4 => ?_)
    · have h := h.1 c4
      refine ws_aload_n 2 (dcd d_D_at_0 19 rfl) rfl ?_
      refine ws_aload_n 1 (dcd d_D_at_0 20 rfl) rfl ?_
      refine ws_iload_n 4 (dcd d_D_at_0 21 rfl) rfl ?_
      refine ws_callVI (o := (roV x1)) (As := [.int x2]) (st := [.ref 2]) (la := [(0, .ref (roV x1)), (1, .int x2)]) (dcd d_D_at_0 22 rfl) cv_Sp_get k_D_107 ⟨by decide, by decide⟩ (roV_ok x1) rfl (Nat.le_of_ble_eq_true rfl) (Nat.le_of_ble_eq_true rfl) rfl rfl (sp_Sp_get (roV_ok x1)) ?_
      rintro _ _ ⟨rfl, rfl⟩
      refine ws_iconst (v := 1) (dcd d_D_at_0 23 rfl) (by decide) ?_
      refine ws_callVI (o := 2) (As := [.int (spG u3 (roV x1) x2), .int 1]) (st := []) (la := [(0, .ref 2), (1, .int (spG u3 (roV x1) x2)), (2, .int 1)]) (dcd d_D_at_0 24 rfl) cv_D_tell k_D_113 ⟨by decide, by decide⟩ ok_2 rfl (Nat.le_of_ble_eq_true rfl) (Nat.le_of_ble_eq_true rfl) rfl rfl sp_D_tell ?_
      rintro _ _ ⟨rfl, rfl⟩
      exact ws_iret (dcd d_D_at_0 25 rfl) ⟨_, rfl, rfl⟩ h
    · have h := h.2 c4
      refine ws_aload_n 2 (dcd d_D_at_0 15 rfl) rfl ?_
      refine ws_iload 0 (dcd d_D_at_0 16 rfl) rfl ?_
      refine ws_callVI (o := 2) (As := [.int a3]) (st := []) (la := [(0, .ref 2), (1, .int a3)]) (dcd d_D_at_0 17 rfl) cv_D_found k_D_91 ⟨by decide, by decide⟩ ok_2 rfl (Nat.le_of_ble_eq_true rfl) (Nat.le_of_ble_eq_true rfl) rfl rfl sp_D_found ?_
      rintro _ _ ⟨rfl, rfl⟩
      refine ws_goto (tgt := 46) (dcd d_D_at_0 18 rfl) (by decide) ?_
      exact ws_iret (dcd d_D_at_0 25 rfl) ⟨_, rfl, rfl⟩ h
  · have h := h.2 c1
    refine ws_if_ne (tgt := 9) (dcd d_D_at_0 2 rfl) (by decide) (fun c => absurd (show (0 : Int32) = 0 from by decide) c) (fun _ => ?_)
    refine ws_iconst (v := (-1)) (dcd d_D_at_0 3 rfl) (by decide) ?_
    exact ws_iret (dcd d_D_at_0 4 rfl) ⟨_, rfl, rfl⟩ h
theorem sg_D_tear_0 {x1 : Int32}  (h : (((0 ≤ x1 ∧ x1 < 6) → (((0 ≤ (mI u (roV x1) 1)) → Q (some (.int 1)) (pI u (roV x1) 1 (-1))) ∧ (¬ (0 ≤ (mI u (roV x1) 1)) → Q (some (.int (-3))) (dF u 1)))) ∧ (¬ (0 ≤ x1 ∧ x1 < 6) → Q (some (.int (-1))) u))) : Ws G D_tear 0 [(0, .ref 2), (1, .int x1)] [] u Q := by
  refine ws_iload_n 1 (dcd d_D_tear_0 0 rfl) rfl ?_
  refine ws_callSI (As := [.int x1]) (st := []) (la := [(0, .int x1)]) (dcd d_D_tear_0 1 rfl) cs_D_isRow k_D_87 ⟨by decide, by decide⟩ rfl (Nat.le_of_ble_eq_true rfl) (Nat.le_of_ble_eq_true rfl) rfl rfl sp_D_isRow ?_
  rintro _ _ ⟨rfl, ⟨rfl, c1⟩ | ⟨rfl, c1⟩⟩
  · have h := h.1 c1
    refine ws_if_ne (tgt := 9) (dcd d_D_tear_0 2 rfl) (by decide) (fun _ => ?_) (fun c => absurd c (by decide))
    refine ws_aload_n 0 (dcd d_D_tear_0 5 rfl) rfl ?_
    refine ws_iload_n 1 (dcd d_D_tear_0 6 rfl) rfl ?_
    refine ws_callVR (o := 2) (As := [.int x1]) (st := []) (la := [(0, .ref 2), (1, .int x1)]) (dcd d_D_tear_0 7 rfl) cv_D_rowOf k_D_95 ⟨by decide, by decide⟩ ok_2 rfl (Nat.le_of_ble_eq_true rfl) (Nat.le_of_ble_eq_true rfl) rfl rfl sp_D_rowOf ?_
    rintro _ _ ⟨rfl, rfl⟩
    refine ws_astore_n (l' := [(2, .ref (roV x1)), (0, .ref 2), (1, .int x1)]) (dcd d_D_tear_0 8 rfl) (by decide) rfl ?_
    refine ws_aload_n 0 (dcd d_D_tear_0 9 rfl) rfl ?_
    refine ws_callVI (o := (roV x1)) (As := []) (st := []) (la := [(0, .ref (roV x1))]) (dcd d_D_tear_0 10 rfl) cv_Sp_isThere k_D_117 ⟨by decide, by decide⟩ (roV_ok x1) rfl (Nat.le_of_ble_eq_true rfl) (Nat.le_of_ble_eq_true rfl) rfl rfl (sp_Sp_isThere (roV_ok x1)) ?_
    rintro _ _ ⟨rfl, ⟨rfl, c3⟩ | ⟨rfl, c3⟩⟩
    · have h := h.1 c3
      refine ws_if_ne (tgt := 28) (dcd d_D_tear_0 11 rfl) (by decide) (fun _ => ?_) (fun c => absurd c (by decide))
      refine ws_aload_n 0 (dcd d_D_tear_0 16 rfl) rfl ?_
      refine ws_iconst (v := (-1)) (dcd d_D_tear_0 17 rfl) (by decide) ?_
      refine ws_putI f_D_121 rfl nf_6_1 (dcd d_D_tear_0 18 rfl) (roV_ok x1) ?_
      refine ws_iconst (v := 1) (dcd d_D_tear_0 19 rfl) (by decide) ?_
      exact ws_iret (dcd d_D_tear_0 20 rfl) ⟨_, rfl, rfl⟩ h
    · have h := h.2 c3
      refine ws_if_ne (tgt := 28) (dcd d_D_tear_0 11 rfl) (by decide) (fun c => absurd (show (0 : Int32) = 0 from by decide) c) (fun _ => ?_)
      refine ws_aload_n 1 (dcd d_D_tear_0 12 rfl) rfl ?_
      refine ws_iconst (v := 1) (dcd d_D_tear_0 13 rfl) (by decide) ?_
      refine ws_callVI (o := 2) (As := [.int 1]) (st := []) (la := [(0, .ref 2), (1, .int 1)]) (dcd d_D_tear_0 14 rfl) cv_D_found k_D_91 ⟨by decide, by decide⟩ ok_2 rfl (Nat.le_of_ble_eq_true rfl) (Nat.le_of_ble_eq_true rfl) rfl rfl sp_D_found ?_
      rintro _ _ ⟨rfl, rfl⟩
      exact ws_iret (dcd d_D_tear_0 15 rfl) ⟨_, rfl, rfl⟩ h
  · have h := h.2 c1
    refine ws_if_ne (tgt := 9) (dcd d_D_tear_0 2 rfl) (by decide) (fun c => absurd (show (0 : Int32) = 0 from by decide) c) (fun _ => ?_)
    refine ws_iconst (v := (-1)) (dcd d_D_tear_0 3 rfl) (by decide) ?_
    exact ws_iret (dcd d_D_tear_0 4 rfl) ⟨_, rfl, rfl⟩ h
theorem sg_D_copy_0 {x1 : Int32} {x2 : Int32} {x3 : Int32} {x4 : Int32} {x5 : Int32}  (h : (((0 ≤ x1 ∧ x1 < 6) → (((0 ≤ x3 ∧ x3 < 6) → ((0 ≤ x5 → (((0 ≤ (mI u (roV x1) 1)) → (((0 ≤ (mI u (roV x3) 1)) → (((0 ≤ x2 ∧ 0 ≤ x5 ∧ x2 ≤ (mI u (roV x1) 1) - x5) → (((0 ≤ x4 ∧ 0 ≤ x5 ∧ x4 ≤ (mI u (roV x3) 1) - x5) → ((¬ (x2 : Int32) < 0 ∧ ¬ (x4 : Int32) < 0 ∧ ¬ (x5 : Int32) < 0 ∧ (x2 : Int32).toNatClampNeg + (x5 : Int32).toNatClampNeg ≤ (S0 ((roV x1) + 1)).2 ∧ (x4 : Int32).toNatClampNeg + (x5 : Int32).toNatClampNeg ≤ (S0 ((roV x3) + 1)).2) ∧ Q (some (.int 1)) (cpI u ((roV x1) + 1) ((roV x3) + 1) (x2 : Int32).toNatClampNeg (x4 : Int32).toNatClampNeg (x5 : Int32).toNatClampNeg))) ∧ (¬ (0 ≤ x4 ∧ 0 ≤ x5 ∧ x4 ≤ (mI u (roV x3) 1) - x5) → Q (some (.int (-3))) (dF u 2)))) ∧ (¬ (0 ≤ x2 ∧ 0 ≤ x5 ∧ x2 ≤ (mI u (roV x1) 1) - x5) → Q (some (.int (-3))) (dF u 2)))) ∧ (¬ (0 ≤ (mI u (roV x3) 1)) → Q (some (.int (-3))) (dF u 1)))) ∧ (¬ (0 ≤ (mI u (roV x1) 1)) → Q (some (.int (-3))) (dF u 1)))) ∧ (¬ (0 ≤ x5) → Q (some (.int (-3))) (dF u 5)))) ∧ (¬ (0 ≤ x3 ∧ x3 < 6) → Q (some (.int (-1))) u))) ∧ (¬ (0 ≤ x1 ∧ x1 < 6) → Q (some (.int (-1))) u))) : Ws G D_copy 0 [(0, .ref 2), (1, .int x1), (2, .int x2), (3, .int x3), (4, .int x4), (5, .int x5)] [] u Q := by
  refine ws_iload_n 1 (dcd d_D_copy_0 0 rfl) rfl ?_
  refine ws_callSI (As := [.int x1]) (st := []) (la := [(0, .int x1)]) (dcd d_D_copy_0 1 rfl) cs_D_isRow k_D_87 ⟨by decide, by decide⟩ rfl (Nat.le_of_ble_eq_true rfl) (Nat.le_of_ble_eq_true rfl) rfl rfl sp_D_isRow ?_
  rintro _ _ ⟨rfl, ⟨rfl, c1⟩ | ⟨rfl, c1⟩⟩
  · have h := h.1 c1
    refine ws_if_eq (tgt := 14) (dcd d_D_copy_0 2 rfl) (by decide) (fun c => absurd c (by decide)) (fun _ => ?_)
    refine ws_iload_n 3 (dcd d_D_copy_0 3 rfl) rfl ?_
    refine ws_callSI (As := [.int x3]) (st := []) (la := [(0, .int x3)]) (dcd d_D_copy_0 4 rfl) cs_D_isRow k_D_87 ⟨by decide, by decide⟩ rfl (Nat.le_of_ble_eq_true rfl) (Nat.le_of_ble_eq_true rfl) rfl rfl sp_D_isRow ?_
    rintro _ _ ⟨rfl, ⟨rfl, c3⟩ | ⟨rfl, c3⟩⟩
    · have h := h.1 c3
      refine ws_if_ne (tgt := 16) (dcd d_D_copy_0 5 rfl) (by decide) (fun _ => ?_) (fun c => absurd c (by decide))
      refine ws_iload 5 (dcd d_D_copy_0 8 rfl) rfl ?_
      refine ws_if_ge (tgt := 27) (dcd d_D_copy_0 9 rfl) (by decide) (fun c5 => ?_) (fun c5 => ?_)
      · have h := h.1 c5
        refine ws_aload_n 0 (dcd d_D_copy_0 14 rfl) rfl ?_
        refine ws_iload_n 1 (dcd d_D_copy_0 15 rfl) rfl ?_
        refine ws_callVR (o := 2) (As := [.int x1]) (st := []) (la := [(0, .ref 2), (1, .int x1)]) (dcd d_D_copy_0 16 rfl) cv_D_rowOf k_D_95 ⟨by decide, by decide⟩ ok_2 rfl (Nat.le_of_ble_eq_true rfl) (Nat.le_of_ble_eq_true rfl) rfl rfl sp_D_rowOf ?_
        rintro _ _ ⟨rfl, rfl⟩
        refine ws_astore (l' := [(6, .ref (roV x1)), (0, .ref 2), (1, .int x1), (2, .int x2), (3, .int x3), (4, .int x4), (5, .int x5)]) (dcd d_D_copy_0 17 rfl) (by decide) rfl ?_
        refine ws_aload_n 1 (dcd d_D_copy_0 18 rfl) rfl ?_
        refine ws_iload_n 4 (dcd d_D_copy_0 19 rfl) rfl ?_
        refine ws_callVR (o := 2) (As := [.int x3]) (st := []) (la := [(0, .ref 2), (1, .int x3)]) (dcd d_D_copy_0 20 rfl) cv_D_rowOf k_D_95 ⟨by decide, by decide⟩ ok_2 rfl (Nat.le_of_ble_eq_true rfl) (Nat.le_of_ble_eq_true rfl) rfl rfl sp_D_rowOf ?_
        rintro _ _ ⟨rfl, rfl⟩
        refine ws_astore (l' := [(7, .ref (roV x3)), (6, .ref (roV x1)), (0, .ref 2), (1, .int x1), (2, .int x2), (3, .int x3), (4, .int x4), (5, .int x5)]) (dcd d_D_copy_0 21 rfl) (by decide) rfl ?_
        refine ws_aload 1 (dcd d_D_copy_0 22 rfl) rfl ?_
        refine ws_callVI (o := (roV x1)) (As := []) (st := []) (la := [(0, .ref (roV x1))]) (dcd d_D_copy_0 23 rfl) cv_Sp_isThere k_D_117 ⟨by decide, by decide⟩ (roV_ok x1) rfl (Nat.le_of_ble_eq_true rfl) (Nat.le_of_ble_eq_true rfl) rfl rfl (sp_Sp_isThere (roV_ok x1)) ?_
        rintro _ _ ⟨rfl, ⟨rfl, c6⟩ | ⟨rfl, c6⟩⟩
        · have h := h.1 c6
          refine ws_if_eq (tgt := 57) (dcd d_D_copy_0 24 rfl) (by decide) (fun c => absurd c (by decide)) (fun _ => ?_)
          refine ws_aload 0 (dcd d_D_copy_0 25 rfl) rfl ?_
          refine ws_callVI (o := (roV x3)) (As := []) (st := []) (la := [(0, .ref (roV x3))]) (dcd d_D_copy_0 26 rfl) cv_Sp_isThere k_D_117 ⟨by decide, by decide⟩ (roV_ok x3) rfl (Nat.le_of_ble_eq_true rfl) (Nat.le_of_ble_eq_true rfl) rfl rfl (sp_Sp_isThere (roV_ok x3)) ?_
          rintro _ _ ⟨rfl, ⟨rfl, c8⟩ | ⟨rfl, c8⟩⟩
          · have h := h.1 c8
            refine ws_if_ne (tgt := 63) (dcd d_D_copy_0 27 rfl) (by decide) (fun _ => ?_) (fun c => absurd c (by decide))
            refine ws_aload 1 (dcd d_D_copy_1 2 rfl) rfl ?_
            refine ws_iload_n 4 (dcd d_D_copy_1 3 rfl) rfl ?_
            refine ws_iload 7 (dcd d_D_copy_1 4 rfl) rfl ?_
            refine ws_callVI (o := (roV x1)) (As := [.int x2, .int x5]) (st := []) (la := [(0, .ref (roV x1)), (1, .int x2), (2, .int x5)]) (dcd d_D_copy_1 5 rfl) cv_Sp_holds k_D_124 ⟨by decide, by decide⟩ (roV_ok x1) rfl (Nat.le_of_ble_eq_true rfl) (Nat.le_of_ble_eq_true rfl) rfl rfl (sp_Sp_holds (roV_ok x1)) ?_
            rintro _ _ ⟨rfl, ⟨rfl, c10⟩ | ⟨rfl, c10⟩⟩
            · have h := h.1 c10
              refine ws_if_eq (tgt := 86) (dcd d_D_copy_1 6 rfl) (by decide) (fun c => absurd c (by decide)) (fun _ => ?_)
              refine ws_aload 0 (dcd d_D_copy_1 7 rfl) rfl ?_
              refine ws_iload 6 (dcd d_D_copy_1 8 rfl) rfl ?_
              refine ws_iload 7 (dcd d_D_copy_1 9 rfl) rfl ?_
              refine ws_callVI (o := (roV x3)) (As := [.int x4, .int x5]) (st := []) (la := [(0, .ref (roV x3)), (1, .int x4), (2, .int x5)]) (dcd d_D_copy_1 10 rfl) cv_Sp_holds k_D_124 ⟨by decide, by decide⟩ (roV_ok x3) rfl (Nat.le_of_ble_eq_true rfl) (Nat.le_of_ble_eq_true rfl) rfl rfl (sp_Sp_holds (roV_ok x3)) ?_
              rintro _ _ ⟨rfl, ⟨rfl, c12⟩ | ⟨rfl, c12⟩⟩
              · have h := h.1 c12
                refine ws_if_ne (tgt := 92) (dcd d_D_copy_1 11 rfl) (by decide) (fun _ => ?_) (fun c => absurd c (by decide))
                refine ws_aload 1 (dcd d_D_copy_1 16 rfl) rfl ?_
                refine ws_getF (a := ((roV x1) + 1)) f_D_128 rfl (dcd d_D_copy_1 17 rfl) (roV_ok x1) of_6_0 rfl ?_
                refine ws_iload_n 4 (dcd d_D_copy_1 18 rfl) rfl ?_
                refine ws_aload 0 (dcd d_D_copy_1 19 rfl) rfl ?_
                refine ws_getF (a := ((roV x3) + 1)) f_D_128 rfl (dcd d_D_copy_1 20 rfl) (roV_ok x3) of_6_0 rfl ?_
                refine ws_iload 6 (dcd d_D_copy_1 21 rfl) rfl ?_
                refine ws_iload 7 (dcd d_D_copy_1 22 rfl) rfl ?_
                obtain ⟨e14, h⟩ := h
                refine ws_copy (st := []) (dcd d_D_copy_1 23 rfl) kc_D_131 kc_n kc_s kc_i (by decide) (Nat.le_of_ble_eq_true rfl) (os_6_0 (roV_ok x1)) (os_6_0 (roV_ok x3)) e14.1 e14.2.1 e14.2.2.1 e14.2.2.2.1 e14.2.2.2.2 ?_
                refine ws_iconst (v := 1) (dcd d_D_copy_1 24 rfl) (by decide) ?_
                exact ws_iret (dcd d_D_copy_1 25 rfl) ⟨_, rfl, rfl⟩ h
              · have h := h.2 c12
                refine ws_if_ne (tgt := 92) (dcd d_D_copy_1 11 rfl) (by decide) (fun c => absurd (show (0 : Int32) = 0 from by decide) c) (fun _ => ?_)
                refine ws_aload_n 2 (dcd d_D_copy_1 12 rfl) rfl ?_
                refine ws_iconst (v := 2) (dcd d_D_copy_1 13 rfl) (by decide) ?_
                refine ws_callVI (o := 2) (As := [.int 2]) (st := []) (la := [(0, .ref 2), (1, .int 2)]) (dcd d_D_copy_1 14 rfl) cv_D_found k_D_91 ⟨by decide, by decide⟩ ok_2 rfl (Nat.le_of_ble_eq_true rfl) (Nat.le_of_ble_eq_true rfl) rfl rfl sp_D_found ?_
                rintro _ _ ⟨rfl, rfl⟩
                exact ws_iret (dcd d_D_copy_1 15 rfl) ⟨_, rfl, rfl⟩ h
            · have h := h.2 c10
              refine ws_if_eq (tgt := 86) (dcd d_D_copy_1 6 rfl) (by decide) (fun _ => ?_) (fun c => absurd (show (0 : Int32) = 0 from by decide) c)
              refine ws_aload_n 2 (dcd d_D_copy_1 12 rfl) rfl ?_
              refine ws_iconst (v := 2) (dcd d_D_copy_1 13 rfl) (by decide) ?_
              refine ws_callVI (o := 2) (As := [.int 2]) (st := []) (la := [(0, .ref 2), (1, .int 2)]) (dcd d_D_copy_1 14 rfl) cv_D_found k_D_91 ⟨by decide, by decide⟩ ok_2 rfl (Nat.le_of_ble_eq_true rfl) (Nat.le_of_ble_eq_true rfl) rfl rfl sp_D_found ?_
              rintro _ _ ⟨rfl, rfl⟩
              exact ws_iret (dcd d_D_copy_1 15 rfl) ⟨_, rfl, rfl⟩ h
          · have h := h.2 c8
            refine ws_if_ne (tgt := 63) (dcd d_D_copy_0 27 rfl) (by decide) (fun c => absurd (show (0 : Int32) = 0 from by decide) c) (fun _ => ?_)
            refine ws_aload_n 2 (dcd d_D_copy_0 28 rfl) rfl ?_
            refine ws_iconst (v := 1) (dcd d_D_copy_0 29 rfl) (by decide) ?_
            refine ws_callVI (o := 2) (As := [.int 1]) (st := []) (la := [(0, .ref 2), (1, .int 1)]) (dcd d_D_copy_1 0 rfl) cv_D_found k_D_91 ⟨by decide, by decide⟩ ok_2 rfl (Nat.le_of_ble_eq_true rfl) (Nat.le_of_ble_eq_true rfl) rfl rfl sp_D_found ?_
            rintro _ _ ⟨rfl, rfl⟩
            exact ws_iret (dcd d_D_copy_1 1 rfl) ⟨_, rfl, rfl⟩ h
        · have h := h.2 c6
          refine ws_if_eq (tgt := 57) (dcd d_D_copy_0 24 rfl) (by decide) (fun _ => ?_) (fun c => absurd (show (0 : Int32) = 0 from by decide) c)
          refine ws_aload_n 2 (dcd d_D_copy_0 28 rfl) rfl ?_
          refine ws_iconst (v := 1) (dcd d_D_copy_0 29 rfl) (by decide) ?_
          refine ws_callVI (o := 2) (As := [.int 1]) (st := []) (la := [(0, .ref 2), (1, .int 1)]) (dcd d_D_copy_1 0 rfl) cv_D_found k_D_91 ⟨by decide, by decide⟩ ok_2 rfl (Nat.le_of_ble_eq_true rfl) (Nat.le_of_ble_eq_true rfl) rfl rfl sp_D_found ?_
          rintro _ _ ⟨rfl, rfl⟩
          exact ws_iret (dcd d_D_copy_1 1 rfl) ⟨_, rfl, rfl⟩ h
      · have h := h.2 c5
        refine ws_aload_n 0 (dcd d_D_copy_0 10 rfl) rfl ?_
        refine ws_iconst (v := 5) (dcd d_D_copy_0 11 rfl) (by decide) ?_
        refine ws_callVI (o := 2) (As := [.int 5]) (st := []) (la := [(0, .ref 2), (1, .int 5)]) (dcd d_D_copy_0 12 rfl) cv_D_found k_D_91 ⟨by decide, by decide⟩ ok_2 rfl (Nat.le_of_ble_eq_true rfl) (Nat.le_of_ble_eq_true rfl) rfl rfl sp_D_found ?_
        rintro _ _ ⟨rfl, rfl⟩
        exact ws_iret (dcd d_D_copy_0 13 rfl) ⟨_, rfl, rfl⟩ h
    · have h := h.2 c3
      refine ws_if_ne (tgt := 16) (dcd d_D_copy_0 5 rfl) (by decide) (fun c => absurd (show (0 : Int32) = 0 from by decide) c) (fun _ => ?_)
      refine ws_iconst (v := (-1)) (dcd d_D_copy_0 6 rfl) (by decide) ?_
      exact ws_iret (dcd d_D_copy_0 7 rfl) ⟨_, rfl, rfl⟩ h
  · have h := h.2 c1
    refine ws_if_eq (tgt := 14) (dcd d_D_copy_0 2 rfl) (by decide) (fun _ => ?_) (fun c => absurd (show (0 : Int32) = 0 from by decide) c)
    refine ws_iconst (v := (-1)) (dcd d_D_copy_0 6 rfl) (by decide) ?_
    exact ws_iret (dcd d_D_copy_0 7 rfl) ⟨_, rfl, rfl⟩ h
theorem sg_D_mean_0 {x1 : Int32}  (h : (((0 ≤ x1 ∧ x1 < 6) → (((0 ≤ (mI u (roV x1) 1)) → ((0 < (mI u (roV x1) 1) → Ws G Sp_sum 0 [(0, .ref (roV x1))] [] u (RJ fun a6 u6 => (¬ ((mI u (roV x1) 1) : Int32).toInt64 = 0 ∧ Q (some (.int 1)) (pI u6 2 12 ((a6 / ((mI u (roV x1) 1) : Int32).toInt64) : Int64).toInt32)))) ∧ (¬ (0 < (mI u (roV x1) 1)) → Q (some (.int (-3))) (dF u 4)))) ∧ (¬ (0 ≤ (mI u (roV x1) 1)) → Q (some (.int (-3))) (dF u 1)))) ∧ (¬ (0 ≤ x1 ∧ x1 < 6) → Q (some (.int (-1))) u))) : Ws G D_mean 0 [(0, .ref 2), (1, .int x1)] [] u Q := by
  refine ws_iload_n 1 (dcd d_D_mean_0 0 rfl) rfl ?_
  refine ws_callSI (As := [.int x1]) (st := []) (la := [(0, .int x1)]) (dcd d_D_mean_0 1 rfl) cs_D_isRow k_D_87 ⟨by decide, by decide⟩ rfl (Nat.le_of_ble_eq_true rfl) (Nat.le_of_ble_eq_true rfl) rfl rfl sp_D_isRow ?_
  rintro _ _ ⟨rfl, ⟨rfl, c1⟩ | ⟨rfl, c1⟩⟩
  · have h := h.1 c1
    refine ws_if_ne (tgt := 9) (dcd d_D_mean_0 2 rfl) (by decide) (fun _ => ?_) (fun c => absurd c (by decide))
    refine ws_aload_n 0 (dcd d_D_mean_0 5 rfl) rfl ?_
    refine ws_iload_n 1 (dcd d_D_mean_0 6 rfl) rfl ?_
    refine ws_callVR (o := 2) (As := [.int x1]) (st := []) (la := [(0, .ref 2), (1, .int x1)]) (dcd d_D_mean_0 7 rfl) cv_D_rowOf k_D_95 ⟨by decide, by decide⟩ ok_2 rfl (Nat.le_of_ble_eq_true rfl) (Nat.le_of_ble_eq_true rfl) rfl rfl sp_D_rowOf ?_
    rintro _ _ ⟨rfl, rfl⟩
    refine ws_astore_n (l' := [(2, .ref (roV x1)), (0, .ref 2), (1, .int x1)]) (dcd d_D_mean_0 8 rfl) (by decide) rfl ?_
    refine ws_aload_n 0 (dcd d_D_mean_0 9 rfl) rfl ?_
    refine ws_callVI (o := (roV x1)) (As := []) (st := []) (la := [(0, .ref (roV x1))]) (dcd d_D_mean_0 10 rfl) cv_Sp_isThere k_D_117 ⟨by decide, by decide⟩ (roV_ok x1) rfl (Nat.le_of_ble_eq_true rfl) (Nat.le_of_ble_eq_true rfl) rfl rfl (sp_Sp_isThere (roV_ok x1)) ?_
    rintro _ _ ⟨rfl, ⟨rfl, c3⟩ | ⟨rfl, c3⟩⟩
    · have h := h.1 c3
      refine ws_if_ne (tgt := 28) (dcd d_D_mean_0 11 rfl) (by decide) (fun _ => ?_) (fun c => absurd c (by decide))
      refine ws_aload_n 0 (dcd d_D_mean_0 16 rfl) rfl ?_
      refine ws_getI f_D_121 rfl (dcd d_D_mean_0 17 rfl) (roV_ok x1) ?_
      refine ws_istore_n (l' := [(3, .int (mI u (roV x1) 1)), (2, .ref (roV x1)), (0, .ref 2), (1, .int x1)]) (dcd d_D_mean_0 18 rfl) (by decide) rfl ?_
      refine ws_iload_n 0 (dcd d_D_mean_0 19 rfl) rfl ?_
      refine ws_if_gt (tgt := 43) (dcd d_D_mean_0 20 rfl) (by decide) (fun c5 => ?_) (fun c5 => ?_)
      · have h := h.1 c5
        refine ws_aload_n 2 (dcd d_D_mean_0 25 rfl) rfl ?_
        refine ws_aload_n 1 (dcd d_D_mean_0 26 rfl) rfl ?_
        refine ws_callVJ (o := (roV x1)) (As := []) (st := [.ref 2]) (la := [(0, .ref (roV x1))]) (dcd d_D_mean_0 27 rfl) cv_Sp_sum k_D_137 ⟨by decide, by decide⟩ (roV_ok x1) rfl (Nat.le_of_ble_eq_true rfl) (Nat.le_of_ble_eq_true rfl) rfl rfl h (fun a6 u6 h => ?_)
        refine ws_iload_n 0 (dcd d_D_mean_0 28 rfl) rfl ?_
        refine ws_i2l (dcd d_D_mean_0 29 rfl) ?_
        obtain ⟨e7, h⟩ := h
        refine ws_ldiv (dcd d_D_mean_1 0 rfl) e7 ?_
        refine ws_l2i (dcd d_D_mean_1 1 rfl) ?_
        refine ws_iconst (v := 1) (dcd d_D_mean_1 2 rfl) (by decide) ?_
        refine ws_callVI (o := 2) (As := [.int ((a6 / ((mI u (roV x1) 1) : Int32).toInt64) : Int64).toInt32, .int 1]) (st := []) (la := [(0, .ref 2), (1, .int ((a6 / ((mI u (roV x1) 1) : Int32).toInt64) : Int64).toInt32), (2, .int 1)]) (dcd d_D_mean_1 3 rfl) cv_D_tell k_D_113 ⟨by decide, by decide⟩ ok_2 rfl (Nat.le_of_ble_eq_true rfl) (Nat.le_of_ble_eq_true rfl) rfl rfl sp_D_tell ?_
        rintro _ _ ⟨rfl, rfl⟩
        exact ws_iret (dcd d_D_mean_1 4 rfl) ⟨_, rfl, rfl⟩ h
      · have h := h.2 c5
        refine ws_aload_n 2 (dcd d_D_mean_0 21 rfl) rfl ?_
        refine ws_iconst (v := 4) (dcd d_D_mean_0 22 rfl) (by decide) ?_
        refine ws_callVI (o := 2) (As := [.int 4]) (st := []) (la := [(0, .ref 2), (1, .int 4)]) (dcd d_D_mean_0 23 rfl) cv_D_found k_D_91 ⟨by decide, by decide⟩ ok_2 rfl (Nat.le_of_ble_eq_true rfl) (Nat.le_of_ble_eq_true rfl) rfl rfl sp_D_found ?_
        rintro _ _ ⟨rfl, rfl⟩
        exact ws_iret (dcd d_D_mean_0 24 rfl) ⟨_, rfl, rfl⟩ h
    · have h := h.2 c3
      refine ws_if_ne (tgt := 28) (dcd d_D_mean_0 11 rfl) (by decide) (fun c => absurd (show (0 : Int32) = 0 from by decide) c) (fun _ => ?_)
      refine ws_aload_n 1 (dcd d_D_mean_0 12 rfl) rfl ?_
      refine ws_iconst (v := 1) (dcd d_D_mean_0 13 rfl) (by decide) ?_
      refine ws_callVI (o := 2) (As := [.int 1]) (st := []) (la := [(0, .ref 2), (1, .int 1)]) (dcd d_D_mean_0 14 rfl) cv_D_found k_D_91 ⟨by decide, by decide⟩ ok_2 rfl (Nat.le_of_ble_eq_true rfl) (Nat.le_of_ble_eq_true rfl) rfl rfl sp_D_found ?_
      rintro _ _ ⟨rfl, rfl⟩
      exact ws_iret (dcd d_D_mean_0 15 rfl) ⟨_, rfl, rfl⟩ h
  · have h := h.2 c1
    refine ws_if_ne (tgt := 9) (dcd d_D_mean_0 2 rfl) (by decide) (fun c => absurd (show (0 : Int32) = 0 from by decide) c) (fun _ => ?_)
    refine ws_iconst (v := (-1)) (dcd d_D_mean_0 3 rfl) (by decide) ?_
    exact ws_iret (dcd d_D_mean_0 4 rfl) ⟨_, rfl, rfl⟩ h
theorem sg_Sp_sum_0 {o0 : Nat} (k0 : okS o0 6) (h : Ws G Sp_sum 4 [(0, .ref o0), (1, .long 0), (3, .int 0)] [] u Q) : Ws G Sp_sum 0 [(0, .ref o0)] [] u Q := by
  refine ws_lconst (v := 0) (dcd d_Sp_sum_0 0 rfl) (by decide) ?_
  refine ws_lstore_n (l' := [(1, .long 0), (0, .ref o0)]) (dcd d_Sp_sum_0 1 rfl) (by decide) rfl ?_
  refine ws_iconst (v := 0) (dcd d_Sp_sum_0 2 rfl) (by decide) ?_
  refine ws_istore_n (l' := [(3, .int 0), (1, .long 0), (0, .ref o0)]) (dcd d_Sp_sum_0 3 rfl) (by decide) rfl ?_
  exact ws_loc [2, 1, 0] rfl h
theorem sg_Sp_sum_4 {o0 : Nat} {x1 : Int64} {x3 : Int32} (k0 : okS o0 6) (h : (((mI u o0 1) ≤ x3 → Q (some (.long x1)) u) ∧ (¬ ((mI u o0 1) ≤ x3) → Ws G Sp_sum 4 [(0, .ref o0), (1, .long (x1 + ((spG u o0 x3) : Int32).toInt64)), (3, .int (x3 + 1))] [] u Q))) : Ws G Sp_sum 4 [(0, .ref o0), (1, .long x1), (3, .int x3)] [] u Q := by
  refine ws_iload_n 2 (dcd d_Sp_sum_0 4 rfl) rfl ?_
  refine ws_aload_n 0 (dcd d_Sp_sum_0 5 rfl) rfl ?_
  refine ws_getI f_Sp_9 rfl (dcd d_Sp_sum_0 6 rfl) k0 ?_
  refine ws_icmp_ge (tgt := 27) (dcd d_Sp_sum_0 7 rfl) (by decide) (fun c1 => ?_) (fun c1 => ?_)
  · have h := h.1 c1
    refine ws_lload_n 1 (dcd d_Sp_sum_0 17 rfl) rfl ?_
    exact ws_lret (dcd d_Sp_sum_0 18 rfl) rfl h
  · have h := h.2 c1
    refine ws_lload_n 1 (dcd d_Sp_sum_0 8 rfl) rfl ?_
    refine ws_aload_n 0 (dcd d_Sp_sum_0 9 rfl) rfl ?_
    refine ws_iload_n 2 (dcd d_Sp_sum_0 10 rfl) rfl ?_
    refine ws_callVI (o := o0) (As := [.int x3]) (st := [.long x1]) (la := [(0, .ref o0), (1, .int x3)]) (dcd d_Sp_sum_0 11 rfl) cv_Sp_get k_Sp_38 ⟨by decide, by decide⟩ k0 rfl (Nat.le_of_ble_eq_true rfl) (Nat.le_of_ble_eq_true rfl) rfl rfl (sp_Sp_get k0) ?_
    rintro _ _ ⟨rfl, rfl⟩
    refine ws_i2l (dcd d_Sp_sum_0 12 rfl) ?_
    refine ws_ladd (dcd d_Sp_sum_0 13 rfl) ?_
    refine ws_lstore_n (l' := [(1, .long (x1 + ((spG u o0 x3) : Int32).toInt64)), (0, .ref o0), (3, .int x3)]) (dcd d_Sp_sum_0 14 rfl) (by decide) rfl ?_
    refine ws_iinc (v := 1) (l' := [(3, .int (x3 + 1)), (1, .long (x1 + ((spG u o0 x3) : Int32).toInt64)), (0, .ref o0)]) 2 (dcd d_Sp_sum_0 15 rfl) rfl (by decide) (by decide) rfl ?_
    refine ws_goto (tgt := 4) (dcd d_Sp_sum_0 16 rfl) (by decide) ?_
    exact ws_loc [2, 1, 0] rfl h
theorem sg_D_text_0 {x1 : Int32} {x2 : Int32}  (h : (((0 ≤ x1 ∧ x1 < 4) → ((x2 ≤ 100 → ((0 ≤ x2 → Ws G Sp_renew 0 [(0, .ref (txV x1)), (1, .int x2), (2, .int 32)] [] u (RV fun u5 => Q (some (.int x2)) u5)) ∧ (¬ (0 ≤ x2) → Q (some (.int (-3))) (dF u 5)))) ∧ (¬ (x2 ≤ 100) → Q (some (.int (-1))) u))) ∧ (¬ (0 ≤ x1 ∧ x1 < 4) → Q (some (.int (-1))) u))) : Ws G D_text 0 [(0, .ref 2), (1, .int x1), (2, .int x2)] [] u Q := by
  refine ws_iload_n 1 (dcd d_D_text_0 0 rfl) rfl ?_
  refine ws_callSI (As := [.int x1]) (st := []) (la := [(0, .int x1)]) (dcd d_D_text_0 1 rfl) cs_D_isText k_D_141 ⟨by decide, by decide⟩ rfl (Nat.le_of_ble_eq_true rfl) (Nat.le_of_ble_eq_true rfl) rfl rfl sp_D_isText ?_
  rintro _ _ ⟨rfl, ⟨rfl, c1⟩ | ⟨rfl, c1⟩⟩
  · have h := h.1 c1
    refine ws_if_eq (tgt := 13) (dcd d_D_text_0 2 rfl) (by decide) (fun c => absurd c (by decide)) (fun _ => ?_)
    refine ws_iload_n 2 (dcd d_D_text_0 3 rfl) rfl ?_
    refine ws_bipush (v := 100) (dcd d_D_text_0 4 rfl) (by decide) ?_
    refine ws_icmp_le (tgt := 15) (dcd d_D_text_0 5 rfl) (by decide) (fun c3 => ?_) (fun c3 => ?_)
    · have h := h.1 c3
      refine ws_iload_n 2 (dcd d_D_text_0 8 rfl) rfl ?_
      refine ws_if_ge (tgt := 25) (dcd d_D_text_0 9 rfl) (by decide) (fun c4 => ?_) (fun c4 => ?_)
      · have h := h.1 c4
        refine ws_aload_n 0 (dcd d_D_text_0 14 rfl) rfl ?_
        refine ws_iload_n 1 (dcd d_D_text_0 15 rfl) rfl ?_
        refine ws_callVR (o := 2) (As := [.int x1]) (st := []) (la := [(0, .ref 2), (1, .int x1)]) (dcd d_D_text_0 16 rfl) cv_D_textOf k_D_144 ⟨by decide, by decide⟩ ok_2 rfl (Nat.le_of_ble_eq_true rfl) (Nat.le_of_ble_eq_true rfl) rfl rfl sp_D_textOf ?_
        rintro _ _ ⟨rfl, rfl⟩
        refine ws_iload_n 2 (dcd d_D_text_0 17 rfl) rfl ?_
        refine ws_bipush (v := 32) (dcd d_D_text_0 18 rfl) (by decide) ?_
        refine ws_callVV (o := (txV x1)) (As := [.int x2, .int 32]) (st := []) (la := [(0, .ref (txV x1)), (1, .int x2), (2, .int 32)]) (dcd d_D_text_0 19 rfl) cv_Sp_renew k_D_99 ⟨by decide, by decide⟩ (txV_ok x1) rfl (Nat.le_of_ble_eq_true rfl) (Nat.le_of_ble_eq_true rfl) rfl rfl h (fun u5 h => ?_)
        refine ws_iload_n 2 (dcd d_D_text_0 20 rfl) rfl ?_
        exact ws_iret (dcd d_D_text_0 21 rfl) ⟨_, rfl, rfl⟩ h
      · have h := h.2 c4
        refine ws_aload_n 0 (dcd d_D_text_0 10 rfl) rfl ?_
        refine ws_iconst (v := 5) (dcd d_D_text_0 11 rfl) (by decide) ?_
        refine ws_callVI (o := 2) (As := [.int 5]) (st := []) (la := [(0, .ref 2), (1, .int 5)]) (dcd d_D_text_0 12 rfl) cv_D_found k_D_91 ⟨by decide, by decide⟩ ok_2 rfl (Nat.le_of_ble_eq_true rfl) (Nat.le_of_ble_eq_true rfl) rfl rfl sp_D_found ?_
        rintro _ _ ⟨rfl, rfl⟩
        exact ws_iret (dcd d_D_text_0 13 rfl) ⟨_, rfl, rfl⟩ h
    · have h := h.2 c3
      refine ws_iconst (v := (-1)) (dcd d_D_text_0 6 rfl) (by decide) ?_
      exact ws_iret (dcd d_D_text_0 7 rfl) ⟨_, rfl, rfl⟩ h
  · have h := h.2 c1
    refine ws_if_eq (tgt := 13) (dcd d_D_text_0 2 rfl) (by decide) (fun _ => ?_) (fun c => absurd (show (0 : Int32) = 0 from by decide) c)
    refine ws_iconst (v := (-1)) (dcd d_D_text_0 6 rfl) (by decide) ?_
    exact ws_iret (dcd d_D_text_0 7 rfl) ⟨_, rfl, rfl⟩ h
theorem sg_D_put_0 {x1 : Int32} {x2 : Int32} {x3 : Int32}  (h : (((0 ≤ x1 ∧ x1 < 4) → Ws G D_placeFinding 0 [(0, .ref (txV x1)), (1, .int x2)] [] u (RI fun a3 u3 => ((a3 = 0 → Q (some (.int ((spG u3 (txV x1) x2) + 1000))) (spS u3 (txV x1) x2 (x3 : Int32).toInt8.toInt32)) ∧ (¬ a3 = 0 → Q (some (.int (-3))) (dF u3 a3))))) ∧ (¬ (0 ≤ x1 ∧ x1 < 4) → Q (some (.int (-1))) u))) : Ws G D_put 0 [(0, .ref 2), (1, .int x1), (2, .int x2), (3, .int x3)] [] u Q := by
  refine ws_iload_n 1 (dcd d_D_put_0 0 rfl) rfl ?_
  refine ws_callSI (As := [.int x1]) (st := []) (la := [(0, .int x1)]) (dcd d_D_put_0 1 rfl) cs_D_isText k_D_141 ⟨by decide, by decide⟩ rfl (Nat.le_of_ble_eq_true rfl) (Nat.le_of_ble_eq_true rfl) rfl rfl sp_D_isText ?_
  rintro _ _ ⟨rfl, ⟨rfl, c1⟩ | ⟨rfl, c1⟩⟩
  · have h := h.1 c1
    refine ws_if_ne (tgt := 9) (dcd d_D_put_0 2 rfl) (by decide) (fun _ => ?_) (fun c => absurd c (by decide))
    refine ws_aload_n 0 (dcd d_D_put_0 5 rfl) rfl ?_
    refine ws_iload_n 1 (dcd d_D_put_0 6 rfl) rfl ?_
    refine ws_callVR (o := 2) (As := [.int x1]) (st := []) (la := [(0, .ref 2), (1, .int x1)]) (dcd d_D_put_0 7 rfl) cv_D_textOf k_D_144 ⟨by decide, by decide⟩ ok_2 rfl (Nat.le_of_ble_eq_true rfl) (Nat.le_of_ble_eq_true rfl) rfl rfl sp_D_textOf ?_
    rintro _ _ ⟨rfl, rfl⟩
    refine ws_astore (l' := [(4, .ref (txV x1)), (0, .ref 2), (1, .int x1), (2, .int x2), (3, .int x3)]) (dcd d_D_put_0 8 rfl) (by decide) rfl ?_
    refine ws_aload 0 (dcd d_D_put_0 9 rfl) rfl ?_
    refine ws_iload_n 3 (dcd d_D_put_0 10 rfl) rfl ?_
    refine ws_callSI (As := [.ref (txV x1), .int x2]) (st := []) (la := [(0, .ref (txV x1)), (1, .int x2)]) (dcd d_D_put_0 11 rfl) cs_D_placeFinding k_D_103 ⟨by decide, by decide⟩ rfl (Nat.le_of_ble_eq_true rfl) (Nat.le_of_ble_eq_true rfl) rfl rfl h (fun a3 u3 h => ?_)
    refine ws_istore (l' := [(5, .int a3), (4, .ref (txV x1)), (0, .ref 2), (1, .int x1), (2, .int x2), (3, .int x3)]) (dcd d_D_put_0 12 rfl) (by decide) rfl ?_
    refine ws_iload 0 (dcd d_D_put_0 13 rfl) rfl ?_
    refine ws_if_eq (tgt := 36) (dcd d_D_put_0 14 rfl) (by decide) (fun c4 => ?_) (fun c4 => ?_)
    · have h := h.1 c4
      refine ws_aload 1 (dcd d_D_put_0 19 rfl) rfl ?_
      refine ws_iload_n 4 (dcd d_D_put_0 20 rfl) rfl ?_
      refine ws_callVI (o := (txV x1)) (As := [.int x2]) (st := []) (la := [(0, .ref (txV x1)), (1, .int x2)]) (dcd d_D_put_0 21 rfl) cv_Sp_get k_D_107 ⟨by decide, by decide⟩ (txV_ok x1) rfl (Nat.le_of_ble_eq_true rfl) (Nat.le_of_ble_eq_true rfl) rfl rfl (sp_Sp_get (txV_ok x1)) ?_
      rintro _ _ ⟨rfl, rfl⟩
      refine ws_istore (l' := [(6, .int (spG u3 (txV x1) x2)), (5, .int a3), (4, .ref (txV x1)), (0, .ref 2), (1, .int x1), (2, .int x2), (3, .int x3)]) (dcd d_D_put_0 22 rfl) (by decide) rfl ?_
      refine ws_aload 2 (dcd d_D_put_0 23 rfl) rfl ?_
      refine ws_iload_n 5 (dcd d_D_put_0 24 rfl) rfl ?_
      refine ws_iload_n 6 (dcd d_D_put_0 25 rfl) rfl ?_
      refine ws_i2b (dcd d_D_put_0 26 rfl) ?_
      refine ws_callVV (o := (txV x1)) (As := [.int x2, .int (x3 : Int32).toInt8.toInt32]) (st := []) (la := [(0, .ref (txV x1)), (1, .int x2), (2, .int (x3 : Int32).toInt8.toInt32)]) (dcd d_D_put_0 27 rfl) cv_Sp_set k_D_110 ⟨by decide, by decide⟩ (txV_ok x1) rfl (Nat.le_of_ble_eq_true rfl) (Nat.le_of_ble_eq_true rfl) rfl rfl (sp_Sp_set (txV_ok x1)) ?_
      rintro _ rfl
      refine ws_iload 0 (dcd d_D_put_0 28 rfl) rfl ?_
      refine ws_sipush (v := 1000) (dcd d_D_put_0 29 rfl) (by decide) ?_
      refine ws_iadd (dcd d_D_put_1 0 rfl) ?_
      exact ws_iret (dcd d_D_put_1 1 rfl) ⟨_, rfl, rfl⟩ h
    · have h := h.2 c4
      refine ws_aload_n 2 (dcd d_D_put_0 15 rfl) rfl ?_
      refine ws_iload 0 (dcd d_D_put_0 16 rfl) rfl ?_
      refine ws_callVI (o := 2) (As := [.int a3]) (st := []) (la := [(0, .ref 2), (1, .int a3)]) (dcd d_D_put_0 17 rfl) cv_D_found k_D_91 ⟨by decide, by decide⟩ ok_2 rfl (Nat.le_of_ble_eq_true rfl) (Nat.le_of_ble_eq_true rfl) rfl rfl sp_D_found ?_
      rintro _ _ ⟨rfl, rfl⟩
      exact ws_iret (dcd d_D_put_0 18 rfl) ⟨_, rfl, rfl⟩ h
  · have h := h.2 c1
    refine ws_if_ne (tgt := 9) (dcd d_D_put_0 2 rfl) (by decide) (fun c => absurd (show (0 : Int32) = 0 from by decide) c) (fun _ => ?_)
    refine ws_iconst (v := (-1)) (dcd d_D_put_0 3 rfl) (by decide) ?_
    exact ws_iret (dcd d_D_put_0 4 rfl) ⟨_, rfl, rfl⟩ h
theorem sg_D_fault_0 {x1 : Int32}  (h : (((0 ≤ x1 ∧ x1 < 4) → (((0 ≤ (mI u (txV x1) 1)) → (pl (mR u 2 11) → Ws G Pl_read 0 [(0, .ref (mR u 2 11)), (1, .ref (txV x1))] [] u (RI fun a6 u6 => Q (some (.int a6)) u6))) ∧ (¬ (0 ≤ (mI u (txV x1) 1)) → Q (some (.int (-3))) (dF u 1)))) ∧ (¬ (0 ≤ x1 ∧ x1 < 4) → Q (some (.int (-1))) u))) : Ws G D_fault 0 [(0, .ref 2), (1, .int x1)] [] u Q := by
  refine ws_iload_n 1 (dcd d_D_fault_0 0 rfl) rfl ?_
  refine ws_callSI (As := [.int x1]) (st := []) (la := [(0, .int x1)]) (dcd d_D_fault_0 1 rfl) cs_D_isText k_D_141 ⟨by decide, by decide⟩ rfl (Nat.le_of_ble_eq_true rfl) (Nat.le_of_ble_eq_true rfl) rfl rfl sp_D_isText ?_
  rintro _ _ ⟨rfl, ⟨rfl, c1⟩ | ⟨rfl, c1⟩⟩
  · have h := h.1 c1
    refine ws_if_ne (tgt := 9) (dcd d_D_fault_0 2 rfl) (by decide) (fun _ => ?_) (fun c => absurd c (by decide))
    refine ws_aload_n 0 (dcd d_D_fault_0 5 rfl) rfl ?_
    refine ws_iload_n 1 (dcd d_D_fault_0 6 rfl) rfl ?_
    refine ws_callVR (o := 2) (As := [.int x1]) (st := []) (la := [(0, .ref 2), (1, .int x1)]) (dcd d_D_fault_0 7 rfl) cv_D_textOf k_D_144 ⟨by decide, by decide⟩ ok_2 rfl (Nat.le_of_ble_eq_true rfl) (Nat.le_of_ble_eq_true rfl) rfl rfl sp_D_textOf ?_
    rintro _ _ ⟨rfl, rfl⟩
    refine ws_astore_n (l' := [(2, .ref (txV x1)), (0, .ref 2), (1, .int x1)]) (dcd d_D_fault_0 8 rfl) (by decide) rfl ?_
    refine ws_aload_n 0 (dcd d_D_fault_0 9 rfl) rfl ?_
    refine ws_callVI (o := (txV x1)) (As := []) (st := []) (la := [(0, .ref (txV x1))]) (dcd d_D_fault_0 10 rfl) cv_Sp_isThere k_D_117 ⟨by decide, by decide⟩ (txV_ok x1) rfl (Nat.le_of_ble_eq_true rfl) (Nat.le_of_ble_eq_true rfl) rfl rfl (sp_Sp_isThere (txV_ok x1)) ?_
    rintro _ _ ⟨rfl, ⟨rfl, c3⟩ | ⟨rfl, c3⟩⟩
    · have h := h.1 c3
      refine ws_if_eq (tgt := 33) (dcd d_D_fault_0 11 rfl) (by decide) (fun c => absurd c (by decide)) (fun _ => ?_)
      refine ws_aload_n 1 (dcd d_D_fault_0 12 rfl) rfl ?_
      refine ws_getP (by decide) f_D_67 (dcd d_D_fault_0 13 rfl) (fun j5 => ?_)
      have h := h j5
      refine ws_aload_n 0 (dcd d_D_fault_0 14 rfl) rfl ?_
      refine ws_callVI (o := (mR u 2 11)) (As := [.ref (txV x1)]) (st := []) (la := [(0, .ref (mR u 2 11)), (1, .ref (txV x1))]) (dcd d_D_fault_0 15 rfl) cv_Pl_read k_D_147 ⟨by decide, by decide⟩ (pl_ok j5) rfl (Nat.le_of_ble_eq_true rfl) (Nat.le_of_ble_eq_true rfl) rfl rfl h (fun a6 u6 h => ?_)
      refine ws_goto (tgt := 38) (dcd d_D_fault_0 16 rfl) (by decide) ?_
      exact ws_iret (dcd d_D_fault_0 20 rfl) ⟨_, rfl, rfl⟩ h
    · have h := h.2 c3
      refine ws_if_eq (tgt := 33) (dcd d_D_fault_0 11 rfl) (by decide) (fun _ => ?_) (fun c => absurd (show (0 : Int32) = 0 from by decide) c)
      refine ws_aload_n 1 (dcd d_D_fault_0 17 rfl) rfl ?_
      refine ws_iconst (v := 1) (dcd d_D_fault_0 18 rfl) (by decide) ?_
      refine ws_callVI (o := 2) (As := [.int 1]) (st := []) (la := [(0, .ref 2), (1, .int 1)]) (dcd d_D_fault_0 19 rfl) cv_D_found k_D_91 ⟨by decide, by decide⟩ ok_2 rfl (Nat.le_of_ble_eq_true rfl) (Nat.le_of_ble_eq_true rfl) rfl rfl sp_D_found ?_
      rintro _ _ ⟨rfl, rfl⟩
      exact ws_iret (dcd d_D_fault_0 20 rfl) ⟨_, rfl, rfl⟩ h
  · have h := h.2 c1
    refine ws_if_ne (tgt := 9) (dcd d_D_fault_0 2 rfl) (by decide) (fun c => absurd (show (0 : Int32) = 0 from by decide) c) (fun _ => ?_)
    refine ws_iconst (v := (-1)) (dcd d_D_fault_0 3 rfl) (by decide) ?_
    exact ws_iret (dcd d_D_fault_0 4 rfl) ⟨_, rfl, rfl⟩ h
theorem sg_Pl_read_0 {o0 : Nat} {o1 : Nat} (k0 : okS o0 2) (k1 : okS o1 6) (h : Ws G Rd_skipBlanks 0 [(0, .ref (o0 + 4))] [] (pI (pR (pI (pI u o0 0 0) o0 1 0) (o0 + 4) 0 o1) (o0 + 4) 1 0) (RV fun u1 => Ws G Rd_passes 0 [(0, .ref (o0 + 4)), (1, .int 100)] [] u1 (RI fun a2 u2 => ((a2 = 0 → Q (some (.int (mI u2 (o0 + 4) 1))) u2) ∧ (¬ a2 = 0 → Ws G Rd_readNumber 0 [(0, .ref (o0 + 4)), (1, .int 2), (2, .int 2), (3, .int 10), (4, .int 30)] [] u2 (RI fun a4 u4 => ((¬ a4 = 0 → Ws G Rd_skipBlanks 0 [(0, .ref (o0 + 4))] [] (pI u4 o0 0 (mI u4 (o0 + 4) 2)) (RV fun u6 => Ws G Pl_read 81 [(0, .ref o0), (2, .int 0)] [] u6 Q)) ∧ (a4 = 0 → Q (some (.int (mI u4 (o0 + 4) 1))) u4)))))))) : Ws G Pl_read 0 [(0, .ref o0), (1, .ref o1)] [] u Q := by
  refine ws_aload_n 0 (dcd d_Pl_read_0 0 rfl) rfl ?_
  refine ws_iconst (v := 0) (dcd d_Pl_read_0 1 rfl) (by decide) ?_
  refine ws_putI f_Pl_9 rfl nf_2_0 (dcd d_Pl_read_0 2 rfl) k0 ?_
  refine ws_aload_n 0 (dcd d_Pl_read_0 3 rfl) rfl ?_
  refine ws_iconst (v := 0) (dcd d_Pl_read_0 4 rfl) (by decide) ?_
  refine ws_putI f_Pl_15 rfl nf_2_1 (dcd d_Pl_read_0 5 rfl) k0 ?_
  refine ws_aload_n 0 (dcd d_Pl_read_0 6 rfl) rfl ?_
  refine ws_getF (a := (o0 + 4)) f_Pl_36 rfl (dcd d_Pl_read_0 7 rfl) k0 of_2_5 rfl ?_
  refine ws_aload_n 1 (dcd d_Pl_read_0 8 rfl) rfl ?_
  refine ws_callVV (o := (o0 + 4)) (As := [.ref o1]) (st := []) (la := [(0, .ref (o0 + 4)), (1, .ref o1)]) (dcd d_Pl_read_0 9 rfl) cv_Rd_begin k_Pl_75 ⟨by decide, by decide⟩ (os_2_5 k0) rfl (Nat.le_of_ble_eq_true rfl) (Nat.le_of_ble_eq_true rfl) rfl rfl (sp_Rd_begin (os_2_5 k0) k1) ?_
  rintro _ rfl
  refine ws_aload_n 0 (dcd d_Pl_read_0 10 rfl) rfl ?_
  refine ws_getF (a := (o0 + 4)) f_Pl_36 rfl (dcd d_Pl_read_0 11 rfl) k0 of_2_5 rfl ?_
  refine ws_callVV (o := (o0 + 4)) (As := []) (st := []) (la := [(0, .ref (o0 + 4))]) (dcd d_Pl_read_0 12 rfl) cv_Rd_skipBlanks k_Pl_79 ⟨by decide, by decide⟩ (os_2_5 k0) rfl (Nat.le_of_ble_eq_true rfl) (Nat.le_of_ble_eq_true rfl) rfl rfl h (fun u1 h => ?_)
  refine ws_aload_n 0 (dcd d_Pl_read_0 13 rfl) rfl ?_
  refine ws_getF (a := (o0 + 4)) f_Pl_36 rfl (dcd d_Pl_read_0 14 rfl) k0 of_2_5 rfl ?_
  refine ws_bipush (v := 100) (dcd d_Pl_read_0 15 rfl) (by decide) ?_
  refine ws_callVI (o := (o0 + 4)) (As := [.int 100]) (st := []) (la := [(0, .ref (o0 + 4)), (1, .int 100)]) (dcd d_Pl_read_0 16 rfl) cv_Rd_passes k_Pl_82 ⟨by decide, by decide⟩ (os_2_5 k0) rfl (Nat.le_of_ble_eq_true rfl) (Nat.le_of_ble_eq_true rfl) rfl rfl h (fun a2 u2 h => ?_)
  refine ws_if_eq (tgt := 53) (dcd d_Pl_read_0 17 rfl) (by decide) (fun c3 => ?_) (fun c3 => ?_)
  · have h := h.1 c3
    refine ws_aload_n 0 (dcd d_Pl_read_0 26 rfl) rfl ?_
    refine ws_getF (a := (o0 + 4)) f_Pl_36 rfl (dcd d_Pl_read_0 27 rfl) k0 of_2_5 rfl ?_
    refine ws_getI f_Pl_89 rfl (dcd d_Pl_read_0 28 rfl) (os_2_5 k0) ?_
    exact ws_iret (dcd d_Pl_read_0 29 rfl) ⟨_, rfl, rfl⟩ h
  · have h := h.2 c3
    refine ws_aload_n 0 (dcd d_Pl_read_0 18 rfl) rfl ?_
    refine ws_getF (a := (o0 + 4)) f_Pl_36 rfl (dcd d_Pl_read_0 19 rfl) k0 of_2_5 rfl ?_
    refine ws_iconst (v := 2) (dcd d_Pl_read_0 20 rfl) (by decide) ?_
    refine ws_iconst (v := 2) (dcd d_Pl_read_0 21 rfl) (by decide) ?_
    refine ws_bipush (v := 10) (dcd d_Pl_read_0 22 rfl) (by decide) ?_
    refine ws_bipush (v := 30) (dcd d_Pl_read_0 23 rfl) (by decide) ?_
    refine ws_callVI (o := (o0 + 4)) (As := [.int 2, .int 2, .int 10, .int 30]) (st := []) (la := [(0, .ref (o0 + 4)), (1, .int 2), (2, .int 2), (3, .int 10), (4, .int 30)]) (dcd d_Pl_read_0 24 rfl) cv_Rd_readNumber k_Pl_85 ⟨by decide, by decide⟩ (os_2_5 k0) rfl (Nat.le_of_ble_eq_true rfl) (Nat.le_of_ble_eq_true rfl) rfl rfl h (fun a4 u4 h => ?_)
    refine ws_if_ne (tgt := 61) (dcd d_Pl_read_0 25 rfl) (by decide) (fun c5 => ?_) (fun c5 => ?_)
    · have h := h.1 c5
      refine ws_aload_n 0 (dcd d_Pl_read_1 0 rfl) rfl ?_
      refine ws_aload_n 0 (dcd d_Pl_read_1 1 rfl) rfl ?_
      refine ws_getF (a := (o0 + 4)) f_Pl_36 rfl (dcd d_Pl_read_1 2 rfl) k0 of_2_5 rfl ?_
      refine ws_getI f_Pl_92 rfl (dcd d_Pl_read_1 3 rfl) (os_2_5 k0) ?_
      refine ws_putI f_Pl_9 rfl nf_2_0 (dcd d_Pl_read_1 4 rfl) k0 ?_
      refine ws_aload_n 0 (dcd d_Pl_read_1 5 rfl) rfl ?_
      refine ws_getF (a := (o0 + 4)) f_Pl_36 rfl (dcd d_Pl_read_1 6 rfl) k0 of_2_5 rfl ?_
      refine ws_callVV (o := (o0 + 4)) (As := []) (st := []) (la := [(0, .ref (o0 + 4))]) (dcd d_Pl_read_1 7 rfl) cv_Rd_skipBlanks k_Pl_79 ⟨by decide, by decide⟩ (os_2_5 k0) rfl (Nat.le_of_ble_eq_true rfl) (Nat.le_of_ble_eq_true rfl) rfl rfl h (fun u6 h => ?_)
      refine ws_iconst (v := 0) (dcd d_Pl_read_1 8 rfl) (by decide) ?_
      refine ws_istore_n (l' := [(2, .int 0), (0, .ref o0), (1, .ref o1)]) (dcd d_Pl_read_1 9 rfl) (by decide) rfl ?_
      exact ws_loc [1, 0] rfl h
    · have h := h.2 c5
      refine ws_aload_n 0 (dcd d_Pl_read_0 26 rfl) rfl ?_
      refine ws_getF (a := (o0 + 4)) f_Pl_36 rfl (dcd d_Pl_read_0 27 rfl) k0 of_2_5 rfl ?_
      refine ws_getI f_Pl_89 rfl (dcd d_Pl_read_0 28 rfl) (os_2_5 k0) ?_
      exact ws_iret (dcd d_Pl_read_0 29 rfl) ⟨_, rfl, rfl⟩ h
theorem sg_Pl_read_81 {o0 : Nat} {x2 : Int32} (k0 : okS o0 2) (h : ((7 ≤ x2 → ((((mI u (mR u (o0 + 4) 0) 1) ≤ (mI u (o0 + 4) 1)) → Q (some (.int (-9))) u) ∧ (¬ ((mI u (mR u (o0 + 4) 0) 1) ≤ (mI u (o0 + 4) 1)) → Q (some (.int (mI u (o0 + 4) 1))) u))) ∧ (¬ (7 ≤ x2) → ((((mI u (mR u (o0 + 4) 0) 1) ≤ (mI u (o0 + 4) 1)) → ((((mI u (mR u (o0 + 4) 0) 1) ≤ (mI u (o0 + 4) 1)) → Q (some (.int (-9))) u) ∧ (¬ ((mI u (mR u (o0 + 4) 0) 1) ≤ (mI u (o0 + 4) 1)) → Q (some (.int (mI u (o0 + 4) 1))) u))) ∧ (¬ ((mI u (mR u (o0 + 4) 0) 1) ≤ (mI u (o0 + 4) 1)) → (vp_in x2 7 ∧ Ws G Pl_readShop 0 [(0, .ref o0), (1, .ref (R0 (o0 + 1) (x2 : Int32).toNatClampNeg))] [] u (RI fun a13 u13 => ((¬ a13 = 0 → Ws G Rd_skipBlanks 0 [(0, .ref (o0 + 4))] [] (pI u13 o0 1 (x2 + 1)) (RV fun u15 => Ws G Pl_read 81 [(0, .ref o0), (2, .int (x2 + 1))] [] u15 Q)) ∧ (a13 = 0 → Q (some (.int (mI u13 (o0 + 4) 1))) u13))))))))) : Ws G Pl_read 81 [(0, .ref o0), (2, .int x2)] [] u Q := by
  refine ws_iload_n 1 (dcd d_Pl_read_1 10 rfl) rfl ?_
  refine ws_bipush (v := 7) (dcd d_Pl_read_1 11 rfl) (by decide) ?_
  refine ws_icmp_ge (tgt := 138) (dcd d_Pl_read_1 12 rfl) (by decide) (fun c1 => ?_) (fun c1 => ?_)
  · have h := h.1 c1
    refine ws_aload_n 0 (dcd d_Pl_read_2 8 rfl) rfl ?_
    refine ws_getF (a := (o0 + 4)) f_Pl_36 rfl (dcd d_Pl_read_2 9 rfl) k0 of_2_5 rfl ?_
    refine ws_callVI (o := (o0 + 4)) (As := []) (st := []) (la := [(0, .ref (o0 + 4))]) (dcd d_Pl_read_2 10 rfl) cv_Rd_isAtEnd k_Pl_95 ⟨by decide, by decide⟩ (os_2_5 k0) rfl (Nat.le_of_ble_eq_true rfl) (Nat.le_of_ble_eq_true rfl) rfl rfl (sp_Rd_isAtEnd (os_2_5 k0)) ?_
    rintro _ _ ⟨rfl, ⟨rfl, c2⟩ | ⟨rfl, c2⟩⟩
    · have h := h.1 c2
      refine ws_if_eq (tgt := 153) (dcd d_Pl_read_2 11 rfl) (by decide) (fun c => absurd c (by decide)) (fun _ => ?_)
      refine ws_bipush (v := (-9)) (dcd d_Pl_read_2 12 rfl) (by decide) ?_
      refine ws_goto (tgt := 160) (dcd d_Pl_read_2 13 rfl) (by decide) ?_
      exact ws_iret (dcd d_Pl_read_2 17 rfl) ⟨_, rfl, rfl⟩ h
    · have h := h.2 c2
      refine ws_if_eq (tgt := 153) (dcd d_Pl_read_2 11 rfl) (by decide) (fun _ => ?_) (fun c => absurd (show (0 : Int32) = 0 from by decide) c)
      refine ws_aload_n 0 (dcd d_Pl_read_2 14 rfl) rfl ?_
      refine ws_getF (a := (o0 + 4)) f_Pl_36 rfl (dcd d_Pl_read_2 15 rfl) k0 of_2_5 rfl ?_
      refine ws_getI f_Pl_89 rfl (dcd d_Pl_read_2 16 rfl) (os_2_5 k0) ?_
      exact ws_iret (dcd d_Pl_read_2 17 rfl) ⟨_, rfl, rfl⟩ h
  · have h := h.2 c1
    refine ws_aload_n 0 (dcd d_Pl_read_1 13 rfl) rfl ?_
    refine ws_getF (a := (o0 + 4)) f_Pl_36 rfl (dcd d_Pl_read_1 14 rfl) k0 of_2_5 rfl ?_
    refine ws_callVI (o := (o0 + 4)) (As := []) (st := []) (la := [(0, .ref (o0 + 4))]) (dcd d_Pl_read_1 15 rfl) cv_Rd_isAtEnd k_Pl_95 ⟨by decide, by decide⟩ (os_2_5 k0) rfl (Nat.le_of_ble_eq_true rfl) (Nat.le_of_ble_eq_true rfl) rfl rfl (sp_Rd_isAtEnd (os_2_5 k0)) ?_
    rintro _ _ ⟨rfl, ⟨rfl, c5⟩ | ⟨rfl, c5⟩⟩
    · have h := h.1 c5
      refine ws_if_ne (tgt := 138) (dcd d_Pl_read_1 16 rfl) (by decide) (fun _ => ?_) (fun c => absurd c (by decide))
      refine ws_aload_n 0 (dcd d_Pl_read_2 8 rfl) rfl ?_
      refine ws_getF (a := (o0 + 4)) f_Pl_36 rfl (dcd d_Pl_read_2 9 rfl) k0 of_2_5 rfl ?_
      refine ws_callVI (o := (o0 + 4)) (As := []) (st := []) (la := [(0, .ref (o0 + 4))]) (dcd d_Pl_read_2 10 rfl) cv_Rd_isAtEnd k_Pl_95 ⟨by decide, by decide⟩ (os_2_5 k0) rfl (Nat.le_of_ble_eq_true rfl) (Nat.le_of_ble_eq_true rfl) rfl rfl (sp_Rd_isAtEnd (os_2_5 k0)) ?_
      rintro _ _ ⟨rfl, ⟨rfl, c7⟩ | ⟨rfl, c7⟩⟩
      · have h := h.1 c7
        refine ws_if_eq (tgt := 153) (dcd d_Pl_read_2 11 rfl) (by decide) (fun c => absurd c (by decide)) (fun _ => ?_)
        refine ws_bipush (v := (-9)) (dcd d_Pl_read_2 12 rfl) (by decide) ?_
        refine ws_goto (tgt := 160) (dcd d_Pl_read_2 13 rfl) (by decide) ?_
        exact ws_iret (dcd d_Pl_read_2 17 rfl) ⟨_, rfl, rfl⟩ h
      · have h := h.2 c7
        refine ws_if_eq (tgt := 153) (dcd d_Pl_read_2 11 rfl) (by decide) (fun _ => ?_) (fun c => absurd (show (0 : Int32) = 0 from by decide) c)
        refine ws_aload_n 0 (dcd d_Pl_read_2 14 rfl) rfl ?_
        refine ws_getF (a := (o0 + 4)) f_Pl_36 rfl (dcd d_Pl_read_2 15 rfl) k0 of_2_5 rfl ?_
        refine ws_getI f_Pl_89 rfl (dcd d_Pl_read_2 16 rfl) (os_2_5 k0) ?_
        exact ws_iret (dcd d_Pl_read_2 17 rfl) ⟨_, rfl, rfl⟩ h
    · have h := h.2 c5
      refine ws_if_ne (tgt := 138) (dcd d_Pl_read_1 16 rfl) (by decide) (fun c => absurd (show (0 : Int32) = 0 from by decide) c) (fun _ => ?_)
      refine ws_aload_n 0 (dcd d_Pl_read_1 17 rfl) rfl ?_
      refine ws_aload_n 0 (dcd d_Pl_read_1 18 rfl) rfl ?_
      refine ws_getF (a := (o0 + 1)) f_Pl_20 rfl (dcd d_Pl_read_1 19 rfl) k0 of_2_2 rfl ?_
      refine ws_iload_n 1 (dcd d_Pl_read_1 20 rfl) rfl ?_
      obtain ⟨e11, h⟩ := h
      refine ws_aald (L := 7) (dcd d_Pl_read_1 21 rfl) (os_2_2 k0) (by decide) (ol_2_2 k0) e11 ?_
      have j12 : okS (R0 (o0 + 1) (x2 : Int32).toNatClampNeg) 4 := (ra_ok (os_2_2 k0) (by decide) (by rw [show (S0 (o0 + 1)).2 = 7 from (ol_2_2 k0)]; exact ix_lt e11)).2
      refine ws_callVI (o := o0) (As := [.ref (R0 (o0 + 1) (x2 : Int32).toNatClampNeg)]) (st := []) (la := [(0, .ref o0), (1, .ref (R0 (o0 + 1) (x2 : Int32).toNatClampNeg))]) (dcd d_Pl_read_1 22 rfl) cv_Pl_readShop k_Pl_99 ⟨by decide, by decide⟩ k0 rfl (Nat.le_of_ble_eq_true rfl) (Nat.le_of_ble_eq_true rfl) rfl rfl h (fun a13 u13 h => ?_)
      refine ws_if_ne (tgt := 118) (dcd d_Pl_read_1 23 rfl) (by decide) (fun c14 => ?_) (fun c14 => ?_)
      · have h := h.1 c14
        refine ws_aload_n 0 (dcd d_Pl_read_1 28 rfl) rfl ?_
        refine ws_iload_n 1 (dcd d_Pl_read_1 29 rfl) rfl ?_
        refine ws_iconst (v := 1) (dcd d_Pl_read_2 0 rfl) (by decide) ?_
        refine ws_iadd (dcd d_Pl_read_2 1 rfl) ?_
        refine ws_putI f_Pl_15 rfl nf_2_1 (dcd d_Pl_read_2 2 rfl) k0 ?_
        refine ws_aload_n 0 (dcd d_Pl_read_2 3 rfl) rfl ?_
        refine ws_getF (a := (o0 + 4)) f_Pl_36 rfl (dcd d_Pl_read_2 4 rfl) k0 of_2_5 rfl ?_
        refine ws_callVV (o := (o0 + 4)) (As := []) (st := []) (la := [(0, .ref (o0 + 4))]) (dcd d_Pl_read_2 5 rfl) cv_Rd_skipBlanks k_Pl_79 ⟨by decide, by decide⟩ (os_2_5 k0) rfl (Nat.le_of_ble_eq_true rfl) (Nat.le_of_ble_eq_true rfl) rfl rfl h (fun u15 h => ?_)
        refine ws_iinc (v := 1) (l' := [(2, .int (x2 + 1)), (0, .ref o0)]) 1 (dcd d_Pl_read_2 6 rfl) rfl (by decide) (by decide) rfl ?_
        refine ws_goto (tgt := 81) (dcd d_Pl_read_2 7 rfl) (by decide) ?_
        exact ws_loc [1, 0] rfl h
      · have h := h.2 c14
        refine ws_aload_n 0 (dcd d_Pl_read_1 24 rfl) rfl ?_
        refine ws_getF (a := (o0 + 4)) f_Pl_36 rfl (dcd d_Pl_read_1 25 rfl) k0 of_2_5 rfl ?_
        refine ws_getI f_Pl_89 rfl (dcd d_Pl_read_1 26 rfl) (os_2_5 k0) ?_
        exact ws_iret (dcd d_Pl_read_1 27 rfl) ⟨_, rfl, rfl⟩ h
theorem sg_Rd_skipBlanks_0 {o0 : Nat} (k0 : okS o0 3) (h : (okS (mR u o0 0) 6 → (((mI u (mR u o0 0) 1) ≤ (mI u o0 1) → Q none u) ∧ (¬ ((mI u (mR u o0 0) 1) ≤ (mI u o0 1)) → (okS (mR u o0 0) 6 → ((¬ (spG u (mR u o0 0) (mI u o0 1)) = 32 → Q none u) ∧ ((spG u (mR u o0 0) (mI u o0 1)) = 32 → Ws G Rd_skipBlanks 0 [(0, .ref o0)] [] (pI u o0 1 ((mI u o0 1) + 1)) Q))))))) : Ws G Rd_skipBlanks 0 [(0, .ref o0)] [] u Q := by
  refine ws_aload_n 0 (dcd d_Rd_skipBlanks_0 0 rfl) rfl ?_
  refine ws_getI f_Rd_20 rfl (dcd d_Rd_skipBlanks_0 1 rfl) k0 ?_
  refine ws_aload_n 0 (dcd d_Rd_skipBlanks_0 2 rfl) rfl ?_
  refine ws_getT f_Rd_14 (dcd d_Rd_skipBlanks_0 3 rfl) k0 (fun j1 => ?_)
  have h := h j1
  refine ws_getI f_Rd_27 rfl (dcd d_Rd_skipBlanks_0 4 rfl) j1 ?_
  refine ws_icmp_ge (tgt := 43) (dcd d_Rd_skipBlanks_0 5 rfl) (by decide) (fun c2 => ?_) (fun c2 => ?_)
  · have h := h.1 c2
    exact ws_vret (dcd d_Rd_skipBlanks_0 20 rfl) rfl h
  · have h := h.2 c2
    refine ws_aload_n 0 (dcd d_Rd_skipBlanks_0 6 rfl) rfl ?_
    refine ws_getT f_Rd_14 (dcd d_Rd_skipBlanks_0 7 rfl) k0 (fun j3 => ?_)
    have h := h j3
    refine ws_aload_n 0 (dcd d_Rd_skipBlanks_0 8 rfl) rfl ?_
    refine ws_getI f_Rd_20 rfl (dcd d_Rd_skipBlanks_0 9 rfl) k0 ?_
    refine ws_callVI (o := (mR u o0 0)) (As := [.int (mI u o0 1)]) (st := []) (la := [(0, .ref (mR u o0 0)), (1, .int (mI u o0 1))]) (dcd d_Rd_skipBlanks_0 10 rfl) cv_Sp_get k_Rd_30 ⟨by decide, by decide⟩ j3 rfl (Nat.le_of_ble_eq_true rfl) (Nat.le_of_ble_eq_true rfl) rfl rfl (sp_Sp_get j3) ?_
    rintro _ _ ⟨rfl, rfl⟩
    refine ws_bipush (v := 32) (dcd d_Rd_skipBlanks_0 11 rfl) (by decide) ?_
    refine ws_icmp_ne (tgt := 43) (dcd d_Rd_skipBlanks_0 12 rfl) (by decide) (fun c4 => ?_) (fun c4 => ?_)
    · have h := h.1 c4
      exact ws_vret (dcd d_Rd_skipBlanks_0 20 rfl) rfl h
    · have h := h.2 c4
      refine ws_aload_n 0 (dcd d_Rd_skipBlanks_0 13 rfl) rfl ?_
      refine ws_dup (dcd d_Rd_skipBlanks_0 14 rfl) rfl ?_
      refine ws_getI f_Rd_20 rfl (dcd d_Rd_skipBlanks_0 15 rfl) k0 ?_
      refine ws_iconst (v := 1) (dcd d_Rd_skipBlanks_0 16 rfl) (by decide) ?_
      refine ws_iadd (dcd d_Rd_skipBlanks_0 17 rfl) ?_
      refine ws_putI f_Rd_20 rfl nf_3_1 (dcd d_Rd_skipBlanks_0 18 rfl) k0 ?_
      refine ws_goto (tgt := 0) (dcd d_Rd_skipBlanks_0 19 rfl) (by decide) ?_
      exact ws_loc [0] rfl h
theorem sg_Rd_passes_0 {o0 : Nat} {x1 : Int32} (k0 : okS o0 3) (h : ((((mI u (mR u o0 0) 1) ≤ (mI u o0 1)) → Q (some (.int 0)) u) ∧ (¬ ((mI u (mR u o0 0) 1) ≤ (mI u o0 1)) → (okS (mR u o0 0) 6 → (((spG u (mR u o0 0) (mI u o0 1)) = x1 → Q (some (.int 1)) (pI u o0 1 ((mI u o0 1) + 1))) ∧ (¬ (spG u (mR u o0 0) (mI u o0 1)) = x1 → Q (some (.int 0)) u)))))) : Ws G Rd_passes 0 [(0, .ref o0), (1, .int x1)] [] u Q := by
  refine ws_aload_n 0 (dcd d_Rd_passes_0 0 rfl) rfl ?_
  refine ws_callVI (o := o0) (As := []) (st := []) (la := [(0, .ref o0)]) (dcd d_Rd_passes_0 1 rfl) cv_Rd_isAtEnd k_Rd_34 ⟨by decide, by decide⟩ k0 rfl (Nat.le_of_ble_eq_true rfl) (Nat.le_of_ble_eq_true rfl) rfl rfl (sp_Rd_isAtEnd k0) ?_
  rintro _ _ ⟨rfl, ⟨rfl, c1⟩ | ⟨rfl, c1⟩⟩
  · have h := h.1 c1
    refine ws_if_ne (tgt := 22) (dcd d_Rd_passes_0 2 rfl) (by decide) (fun _ => ?_) (fun c => absurd c (by decide))
    refine ws_iconst (v := 0) (dcd d_Rd_passes_0 10 rfl) (by decide) ?_
    exact ws_iret (dcd d_Rd_passes_0 11 rfl) ⟨_, rfl, by decide⟩ h
  · have h := h.2 c1
    refine ws_if_ne (tgt := 22) (dcd d_Rd_passes_0 2 rfl) (by decide) (fun c => absurd (show (0 : Int32) = 0 from by decide) c) (fun _ => ?_)
    refine ws_aload_n 0 (dcd d_Rd_passes_0 3 rfl) rfl ?_
    refine ws_getT f_Rd_14 (dcd d_Rd_passes_0 4 rfl) k0 (fun j4 => ?_)
    have h := h j4
    refine ws_aload_n 0 (dcd d_Rd_passes_0 5 rfl) rfl ?_
    refine ws_getI f_Rd_20 rfl (dcd d_Rd_passes_0 6 rfl) k0 ?_
    refine ws_callVI (o := (mR u o0 0)) (As := [.int (mI u o0 1)]) (st := []) (la := [(0, .ref (mR u o0 0)), (1, .int (mI u o0 1))]) (dcd d_Rd_passes_0 7 rfl) cv_Sp_get k_Rd_30 ⟨by decide, by decide⟩ j4 rfl (Nat.le_of_ble_eq_true rfl) (Nat.le_of_ble_eq_true rfl) rfl rfl (sp_Sp_get j4) ?_
    rintro _ _ ⟨rfl, rfl⟩
    refine ws_iload_n 1 (dcd d_Rd_passes_0 8 rfl) rfl ?_
    refine ws_icmp_eq (tgt := 24) (dcd d_Rd_passes_0 9 rfl) (by decide) (fun c5 => ?_) (fun c5 => ?_)
    · have h := h.1 c5
      refine ws_aload_n 0 (dcd d_Rd_passes_0 12 rfl) rfl ?_
      refine ws_dup (dcd d_Rd_passes_0 13 rfl) rfl ?_
      refine ws_getI f_Rd_20 rfl (dcd d_Rd_passes_0 14 rfl) k0 ?_
      refine ws_iconst (v := 1) (dcd d_Rd_passes_0 15 rfl) (by decide) ?_
      refine ws_iadd (dcd d_Rd_passes_0 16 rfl) ?_
      refine ws_putI f_Rd_20 rfl nf_3_1 (dcd d_Rd_passes_0 17 rfl) k0 ?_
      refine ws_iconst (v := 1) (dcd d_Rd_passes_0 18 rfl) (by decide) ?_
      exact ws_iret (dcd d_Rd_passes_0 19 rfl) ⟨_, rfl, by decide⟩ h
    · have h := h.2 c5
      refine ws_iconst (v := 0) (dcd d_Rd_passes_0 10 rfl) (by decide) ?_
      exact ws_iret (dcd d_Rd_passes_0 11 rfl) ⟨_, rfl, by decide⟩ h
theorem sg_Rd_readNumber_0 {o0 : Nat} {x1 : Int32} {x2 : Int32} {x3 : Int32} {x4 : Int32} (k0 : okS o0 3) (h : Ws G Rd_readNumber 8 [(0, .ref o0), (1, .int x1), (2, .int x2), (3, .int x3), (4, .int x4), (5, .int 0)] [] (pI u o0 2 0) Q) : Ws G Rd_readNumber 0 [(0, .ref o0), (1, .int x1), (2, .int x2), (3, .int x3), (4, .int x4)] [] u Q := by
  refine ws_iconst (v := 0) (dcd d_Rd_readNumber_0 0 rfl) (by decide) ?_
  refine ws_istore (l' := [(5, .int 0), (0, .ref o0), (1, .int x1), (2, .int x2), (3, .int x3), (4, .int x4)]) (dcd d_Rd_readNumber_0 1 rfl) (by decide) rfl ?_
  refine ws_aload_n 1 (dcd d_Rd_readNumber_0 2 rfl) rfl ?_
  refine ws_iconst (v := 0) (dcd d_Rd_readNumber_0 3 rfl) (by decide) ?_
  refine ws_putI f_Rd_24 rfl nf_3_2 (dcd d_Rd_readNumber_0 4 rfl) k0 ?_
  exact ws_loc [1, 2, 3, 4, 5, 0] rfl h
theorem sg_Rd_readNumber_8 {o0 : Nat} {x1 : Int32} {x2 : Int32} {x3 : Int32} {x4 : Int32} {x5 : Int32} (k0 : okS o0 3) (h : ((x2 ≤ x5 → ((x5 < x1 → Q (some (.int 0)) u) ∧ (¬ (x5 < x1) → (((mI u o0 2) < x3 → Q (some (.int 0)) u) ∧ (¬ ((mI u o0 2) < x3) → ((x4 < (mI u o0 2) → Q (some (.int 0)) u) ∧ (¬ (x4 < (mI u o0 2)) → Q (some (.int 1)) u))))))) ∧ (¬ (x2 ≤ x5) → (okS (mR u o0 0) 6 → (((48 ≤ (spG u (mR u o0 0) (mI u o0 1)) ∧ (spG u (mR u o0 0) (mI u o0 1)) ≤ 57) → (okS (mR u o0 0) 6 → Ws G Rd_readNumber 8 [(0, .ref o0), (1, .int x1), (2, .int x2), (3, .int x3), (4, .int x4), (5, .int (x5 + 1))] [] (pI (pI u o0 2 (((10 * (mI u o0 2)) + (spG u (mR u o0 0) (mI u o0 1))) - 48)) o0 1 ((mI (pI u o0 2 (((10 * (mI u o0 2)) + (spG u (mR u o0 0) (mI u o0 1))) - 48)) o0 1) + 1)) Q)) ∧ (¬ (48 ≤ (spG u (mR u o0 0) (mI u o0 1)) ∧ (spG u (mR u o0 0) (mI u o0 1)) ≤ 57) → ((x5 < x1 → Q (some (.int 0)) u) ∧ (¬ (x5 < x1) → (((mI u o0 2) < x3 → Q (some (.int 0)) u) ∧ (¬ ((mI u o0 2) < x3) → ((x4 < (mI u o0 2) → Q (some (.int 0)) u) ∧ (¬ (x4 < (mI u o0 2)) → Q (some (.int 1)) u)))))))))))) : Ws G Rd_readNumber 8 [(0, .ref o0), (1, .int x1), (2, .int x2), (3, .int x3), (4, .int x4), (5, .int x5)] [] u Q := by
  refine ws_iload 5 (dcd d_Rd_readNumber_0 5 rfl) rfl ?_
  refine ws_iload_n 2 (dcd d_Rd_readNumber_0 6 rfl) rfl ?_
  refine ws_icmp_ge (tgt := 73) (dcd d_Rd_readNumber_0 7 rfl) (by decide) (fun c1 => ?_) (fun c1 => ?_)
  · have h := h.1 c1
    refine ws_iload 5 (dcd d_Rd_readNumber_1 7 rfl) rfl ?_
    refine ws_iload_n 1 (dcd d_Rd_readNumber_1 8 rfl) rfl ?_
    refine ws_icmp_lt (tgt := 100) (dcd d_Rd_readNumber_1 9 rfl) (by decide) (fun c2 => ?_) (fun c2 => ?_)
    · have h := h.1 c2
      refine ws_iconst (v := 0) (dcd d_Rd_readNumber_1 20 rfl) (by decide) ?_
      exact ws_iret (dcd d_Rd_readNumber_1 21 rfl) ⟨_, rfl, by decide⟩ h
    · have h := h.2 c2
      refine ws_aload_n 0 (dcd d_Rd_readNumber_1 10 rfl) rfl ?_
      refine ws_getI f_Rd_24 rfl (dcd d_Rd_readNumber_1 11 rfl) k0 ?_
      refine ws_iload_n 3 (dcd d_Rd_readNumber_1 12 rfl) rfl ?_
      refine ws_icmp_lt (tgt := 100) (dcd d_Rd_readNumber_1 13 rfl) (by decide) (fun c3 => ?_) (fun c3 => ?_)
      · have h := h.1 c3
        refine ws_iconst (v := 0) (dcd d_Rd_readNumber_1 20 rfl) (by decide) ?_
        exact ws_iret (dcd d_Rd_readNumber_1 21 rfl) ⟨_, rfl, by decide⟩ h
      · have h := h.2 c3
        refine ws_aload_n 0 (dcd d_Rd_readNumber_1 14 rfl) rfl ?_
        refine ws_getI f_Rd_24 rfl (dcd d_Rd_readNumber_1 15 rfl) k0 ?_
        refine ws_iload 4 (dcd d_Rd_readNumber_1 16 rfl) rfl ?_
        refine ws_icmp_gt (tgt := 100) (dcd d_Rd_readNumber_1 17 rfl) (by decide) (fun c4 => ?_) (fun c4 => ?_)
        · have h := h.1 c4
          refine ws_iconst (v := 0) (dcd d_Rd_readNumber_1 20 rfl) (by decide) ?_
          exact ws_iret (dcd d_Rd_readNumber_1 21 rfl) ⟨_, rfl, by decide⟩ h
        · have h := h.2 c4
          refine ws_iconst (v := 1) (dcd d_Rd_readNumber_1 18 rfl) (by decide) ?_
          refine ws_goto (tgt := 101) (dcd d_Rd_readNumber_1 19 rfl) (by decide) ?_
          exact ws_iret (dcd d_Rd_readNumber_1 21 rfl) ⟨_, rfl, by decide⟩ h
  · have h := h.2 c1
    refine ws_aload_n 0 (dcd d_Rd_readNumber_0 8 rfl) rfl ?_
    refine ws_getT f_Rd_14 (dcd d_Rd_readNumber_0 9 rfl) k0 (fun j5 => ?_)
    have h := h j5
    refine ws_aload_n 0 (dcd d_Rd_readNumber_0 10 rfl) rfl ?_
    refine ws_getI f_Rd_20 rfl (dcd d_Rd_readNumber_0 11 rfl) k0 ?_
    refine ws_callVI (o := (mR u o0 0)) (As := [.int (mI u o0 1)]) (st := []) (la := [(0, .ref (mR u o0 0)), (1, .int (mI u o0 1))]) (dcd d_Rd_readNumber_0 12 rfl) cv_Sp_get k_Rd_30 ⟨by decide, by decide⟩ j5 rfl (Nat.le_of_ble_eq_true rfl) (Nat.le_of_ble_eq_true rfl) rfl rfl (sp_Sp_get j5) ?_
    rintro _ _ ⟨rfl, rfl⟩
    refine ws_callSI (As := [.int (spG u (mR u o0 0) (mI u o0 1))]) (st := []) (la := [(0, .int (spG u (mR u o0 0) (mI u o0 1)))]) (dcd d_Rd_readNumber_0 13 rfl) cs_Rd_isFigure k_Rd_38 ⟨by decide, by decide⟩ rfl (Nat.le_of_ble_eq_true rfl) (Nat.le_of_ble_eq_true rfl) rfl rfl sp_Rd_isFigure ?_
    rintro _ _ ⟨rfl, ⟨rfl, c6⟩ | ⟨rfl, c6⟩⟩
    · have h := h.1 c6
      refine ws_if_eq (tgt := 73) (dcd d_Rd_readNumber_0 14 rfl) (by decide) (fun c => absurd c (by decide)) (fun _ => ?_)
      refine ws_aload_n 0 (dcd d_Rd_readNumber_0 15 rfl) rfl ?_
      refine ws_bipush (v := 10) (dcd d_Rd_readNumber_0 16 rfl) (by decide) ?_
      refine ws_aload_n 0 (dcd d_Rd_readNumber_0 17 rfl) rfl ?_
      refine ws_getI f_Rd_24 rfl (dcd d_Rd_readNumber_0 18 rfl) k0 ?_
      refine ws_imul (dcd d_Rd_readNumber_0 19 rfl) ?_
      refine ws_aload_n 0 (dcd d_Rd_readNumber_0 20 rfl) rfl ?_
      refine ws_getT f_Rd_14 (dcd d_Rd_readNumber_0 21 rfl) k0 (fun j8 => ?_)
      have h := h j8
      refine ws_aload_n 0 (dcd d_Rd_readNumber_0 22 rfl) rfl ?_
      refine ws_getI f_Rd_20 rfl (dcd d_Rd_readNumber_0 23 rfl) k0 ?_
      refine ws_callVI (o := (mR u o0 0)) (As := [.int (mI u o0 1)]) (st := [.int (10 * (mI u o0 2)), .ref o0]) (la := [(0, .ref (mR u o0 0)), (1, .int (mI u o0 1))]) (dcd d_Rd_readNumber_0 24 rfl) cv_Sp_get k_Rd_30 ⟨by decide, by decide⟩ j8 rfl (Nat.le_of_ble_eq_true rfl) (Nat.le_of_ble_eq_true rfl) rfl rfl (sp_Sp_get j8) ?_
      rintro _ _ ⟨rfl, rfl⟩
      refine ws_iadd (dcd d_Rd_readNumber_0 25 rfl) ?_
      refine ws_bipush (v := 48) (dcd d_Rd_readNumber_0 26 rfl) (by decide) ?_
      refine ws_isub (dcd d_Rd_readNumber_0 27 rfl) ?_
      refine ws_putI f_Rd_24 rfl nf_3_2 (dcd d_Rd_readNumber_0 28 rfl) k0 ?_
      refine ws_aload_n 0 (dcd d_Rd_readNumber_0 29 rfl) rfl ?_
      refine ws_dup (dcd d_Rd_readNumber_1 0 rfl) rfl ?_
      refine ws_getI f_Rd_20 rfl (dcd d_Rd_readNumber_1 1 rfl) k0 ?_
      refine ws_iconst (v := 1) (dcd d_Rd_readNumber_1 2 rfl) (by decide) ?_
      refine ws_iadd (dcd d_Rd_readNumber_1 3 rfl) ?_
      refine ws_putI f_Rd_20 rfl nf_3_1 (dcd d_Rd_readNumber_1 4 rfl) k0 ?_
      refine ws_iinc (v := 1) (l' := [(5, .int (x5 + 1)), (0, .ref o0), (1, .int x1), (2, .int x2), (3, .int x3), (4, .int x4)]) 5 (dcd d_Rd_readNumber_1 5 rfl) rfl (by decide) (by decide) rfl ?_
      refine ws_goto (tgt := 8) (dcd d_Rd_readNumber_1 6 rfl) (by decide) ?_
      exact ws_loc [1, 2, 3, 4, 5, 0] rfl h
    · have h := h.2 c6
      refine ws_if_eq (tgt := 73) (dcd d_Rd_readNumber_0 14 rfl) (by decide) (fun _ => ?_) (fun c => absurd (show (0 : Int32) = 0 from by decide) c)
      refine ws_iload 5 (dcd d_Rd_readNumber_1 7 rfl) rfl ?_
      refine ws_iload_n 1 (dcd d_Rd_readNumber_1 8 rfl) rfl ?_
      refine ws_icmp_lt (tgt := 100) (dcd d_Rd_readNumber_1 9 rfl) (by decide) (fun c10 => ?_) (fun c10 => ?_)
      · have h := h.1 c10
        refine ws_iconst (v := 0) (dcd d_Rd_readNumber_1 20 rfl) (by decide) ?_
        exact ws_iret (dcd d_Rd_readNumber_1 21 rfl) ⟨_, rfl, by decide⟩ h
      · have h := h.2 c10
        refine ws_aload_n 0 (dcd d_Rd_readNumber_1 10 rfl) rfl ?_
        refine ws_getI f_Rd_24 rfl (dcd d_Rd_readNumber_1 11 rfl) k0 ?_
        refine ws_iload_n 3 (dcd d_Rd_readNumber_1 12 rfl) rfl ?_
        refine ws_icmp_lt (tgt := 100) (dcd d_Rd_readNumber_1 13 rfl) (by decide) (fun c11 => ?_) (fun c11 => ?_)
        · have h := h.1 c11
          refine ws_iconst (v := 0) (dcd d_Rd_readNumber_1 20 rfl) (by decide) ?_
          exact ws_iret (dcd d_Rd_readNumber_1 21 rfl) ⟨_, rfl, by decide⟩ h
        · have h := h.2 c11
          refine ws_aload_n 0 (dcd d_Rd_readNumber_1 14 rfl) rfl ?_
          refine ws_getI f_Rd_24 rfl (dcd d_Rd_readNumber_1 15 rfl) k0 ?_
          refine ws_iload 4 (dcd d_Rd_readNumber_1 16 rfl) rfl ?_
          refine ws_icmp_gt (tgt := 100) (dcd d_Rd_readNumber_1 17 rfl) (by decide) (fun c12 => ?_) (fun c12 => ?_)
          · have h := h.1 c12
            refine ws_iconst (v := 0) (dcd d_Rd_readNumber_1 20 rfl) (by decide) ?_
            exact ws_iret (dcd d_Rd_readNumber_1 21 rfl) ⟨_, rfl, by decide⟩ h
          · have h := h.2 c12
            refine ws_iconst (v := 1) (dcd d_Rd_readNumber_1 18 rfl) (by decide) ?_
            refine ws_goto (tgt := 101) (dcd d_Rd_readNumber_1 19 rfl) (by decide) ?_
            exact ws_iret (dcd d_Rd_readNumber_1 21 rfl) ⟨_, rfl, by decide⟩ h
theorem sg_Pl_readShop_0 {o0 : Nat} {o1 : Nat} (k0 : okS o0 2) (k1 : okS o1 4) (h : Ws G Rd_readKind 0 [(0, .ref (o0 + 4))] [] u (RI fun a1 u1 => ((¬ a1 = 0 → Ws G Rd_readNumber 0 [(0, .ref (o0 + 4)), (1, .int 1), (2, .int 2), (3, .int 0), (4, .int ((mI (pI u1 o1 0 (mI u1 (o0 + 4) 2)) o0 0) - 1))] [] (pI u1 o1 0 (mI u1 (o0 + 4) 2)) (RI fun a3 u3 => ((a3 = 0 → Q (some (.int 0)) u3) ∧ (¬ a3 = 0 → Ws G Pl_isFirstDoor 0 [(0, .ref o0), (1, .int (mI u3 (o0 + 4) 2))] [] u3 (RI fun a5 u5 => ((a5 = 0 → Ws G Rd_passes 0 [(0, .ref (o0 + 4)), (1, .int 58)] [] (pI u5 o1 1 (mI u5 (o0 + 4) 2)) (RI fun a7 u7 => ((a7 = 0 → Q (some (.int 0)) u7) ∧ (¬ a7 = 0 → Ws G Rd_readStep 0 [(0, .ref (o0 + 4))] [] u7 (RI fun a9 u9 => ((¬ a9 = 0 → Ws G Rd_passes 0 [(0, .ref (o0 + 4)), (1, .int 58)] [] (pI u9 o1 2 (mI u9 (o0 + 4) 2)) (RI fun a11 u11 => ((a11 = 0 → Q (some (.int 0)) u11) ∧ (¬ a11 = 0 → Ws G Rd_readNumber 0 [(0, .ref (o0 + 4)), (1, .int 1), (2, .int 2), (3, .int 1), (4, .int 99)] [] u11 (RI fun a13 u13 => ((¬ a13 = 0 → (((mI (pI (pI u13 o1 3 (mI u13 (o0 + 4) 2)) o1 4 0) o1 0) < 3 → Q (some (.int 1)) (pI (pI u13 o1 3 (mI u13 (o0 + 4) 2)) o1 4 0)) ∧ (¬ ((mI (pI (pI u13 o1 3 (mI u13 (o0 + 4) 2)) o1 4 0) o1 0) < 3) → Ws G Rd_passes 0 [(0, .ref (o0 + 4)), (1, .int 58)] [] (pI (pI u13 o1 3 (mI u13 (o0 + 4) 2)) o1 4 0) (RI fun a16 u16 => ((a16 = 0 → Q (some (.int 0)) u16) ∧ (¬ a16 = 0 → Ws G Rd_readNumber 0 [(0, .ref (o0 + 4)), (1, .int 1), (2, .int 1), (3, .int 2), (4, .int 9)] [] u16 (RI fun a18 u18 => ((¬ a18 = 0 → Q (some (.int 1)) (pI u18 o1 4 (mI u18 (o0 + 4) 2))) ∧ (a18 = 0 → Q (some (.int 0)) u18))))))))) ∧ (a13 = 0 → Q (some (.int 0)) u13))))))) ∧ (a9 = 0 → Q (some (.int 0)) u9))))))) ∧ (¬ a5 = 0 → Q (some (.int 0)) u5))))))) ∧ (a1 = 0 → Q (some (.int 0)) u1)))) : Ws G Pl_readShop 0 [(0, .ref o0), (1, .ref o1)] [] u Q := by
  refine ws_aload_n 0 (dcd d_Pl_readShop_0 0 rfl) rfl ?_
  refine ws_getF (a := (o0 + 4)) f_Pl_36 rfl (dcd d_Pl_readShop_0 1 rfl) k0 of_2_5 rfl ?_
  refine ws_callVI (o := (o0 + 4)) (As := []) (st := []) (la := [(0, .ref (o0 + 4))]) (dcd d_Pl_readShop_0 2 rfl) cv_Rd_readKind k_Pl_103 ⟨by decide, by decide⟩ (os_2_5 k0) rfl (Nat.le_of_ble_eq_true rfl) (Nat.le_of_ble_eq_true rfl) rfl rfl h (fun a1 u1 h => ?_)
  refine ws_if_ne (tgt := 12) (dcd d_Pl_readShop_0 3 rfl) (by decide) (fun c2 => ?_) (fun c2 => ?_)
  · have h := h.1 c2
    refine ws_aload_n 1 (dcd d_Pl_readShop_0 6 rfl) rfl ?_
    refine ws_aload_n 0 (dcd d_Pl_readShop_0 7 rfl) rfl ?_
    refine ws_getF (a := (o0 + 4)) f_Pl_36 rfl (dcd d_Pl_readShop_0 8 rfl) k0 of_2_5 rfl ?_
    refine ws_getI f_Pl_92 rfl (dcd d_Pl_readShop_0 9 rfl) (os_2_5 k0) ?_
    refine ws_putI f_Pl_106 rfl nf_4_0 (dcd d_Pl_readShop_0 10 rfl) k1 ?_
    refine ws_aload_n 0 (dcd d_Pl_readShop_0 11 rfl) rfl ?_
    refine ws_getF (a := (o0 + 4)) f_Pl_36 rfl (dcd d_Pl_readShop_0 12 rfl) k0 of_2_5 rfl ?_
    refine ws_iconst (v := 1) (dcd d_Pl_readShop_0 13 rfl) (by decide) ?_
    refine ws_iconst (v := 2) (dcd d_Pl_readShop_0 14 rfl) (by decide) ?_
    refine ws_iconst (v := 0) (dcd d_Pl_readShop_0 15 rfl) (by decide) ?_
    refine ws_aload_n 0 (dcd d_Pl_readShop_0 16 rfl) rfl ?_
    refine ws_getI f_Pl_9 rfl (dcd d_Pl_readShop_0 17 rfl) k0 ?_
    refine ws_iconst (v := 1) (dcd d_Pl_readShop_0 18 rfl) (by decide) ?_
    refine ws_isub (dcd d_Pl_readShop_0 19 rfl) ?_
    refine ws_callVI (o := (o0 + 4)) (As := [.int 1, .int 2, .int 0, .int ((mI (pI u1 o1 0 (mI u1 (o0 + 4) 2)) o0 0) - 1)]) (st := []) (la := [(0, .ref (o0 + 4)), (1, .int 1), (2, .int 2), (3, .int 0), (4, .int ((mI (pI u1 o1 0 (mI u1 (o0 + 4) 2)) o0 0) - 1))]) (dcd d_Pl_readShop_0 20 rfl) cv_Rd_readNumber k_Pl_85 ⟨by decide, by decide⟩ (os_2_5 k0) rfl (Nat.le_of_ble_eq_true rfl) (Nat.le_of_ble_eq_true rfl) rfl rfl h (fun a3 u3 h => ?_)
    refine ws_if_eq (tgt := 56) (dcd d_Pl_readShop_0 21 rfl) (by decide) (fun c4 => ?_) (fun c4 => ?_)
    · have h := h.1 c4
      refine ws_iconst (v := 0) (dcd d_Pl_readShop_0 28 rfl) (by decide) ?_
      exact ws_iret (dcd d_Pl_readShop_0 29 rfl) ⟨_, rfl, by decide⟩ h
    · have h := h.2 c4
      refine ws_aload_n 0 (dcd d_Pl_readShop_0 22 rfl) rfl ?_
      refine ws_aload_n 0 (dcd d_Pl_readShop_0 23 rfl) rfl ?_
      refine ws_getF (a := (o0 + 4)) f_Pl_36 rfl (dcd d_Pl_readShop_0 24 rfl) k0 of_2_5 rfl ?_
      refine ws_getI f_Pl_92 rfl (dcd d_Pl_readShop_0 25 rfl) (os_2_5 k0) ?_
      refine ws_callVI (o := o0) (As := [.int (mI u3 (o0 + 4) 2)]) (st := []) (la := [(0, .ref o0), (1, .int (mI u3 (o0 + 4) 2))]) (dcd d_Pl_readShop_0 26 rfl) cv_Pl_isFirstDoor k_Pl_109 ⟨by decide, by decide⟩ k0 rfl (Nat.le_of_ble_eq_true rfl) (Nat.le_of_ble_eq_true rfl) rfl rfl h (fun a5 u5 h => ?_)
      refine ws_if_eq (tgt := 58) (dcd d_Pl_readShop_0 27 rfl) (by decide) (fun c6 => ?_) (fun c6 => ?_)
      · have h := h.1 c6
        refine ws_aload_n 1 (dcd d_Pl_readShop_1 0 rfl) rfl ?_
        refine ws_aload_n 0 (dcd d_Pl_readShop_1 1 rfl) rfl ?_
        refine ws_getF (a := (o0 + 4)) f_Pl_36 rfl (dcd d_Pl_readShop_1 2 rfl) k0 of_2_5 rfl ?_
        refine ws_getI f_Pl_92 rfl (dcd d_Pl_readShop_1 3 rfl) (os_2_5 k0) ?_
        refine ws_putI f_Pl_72 rfl nf_4_1 (dcd d_Pl_readShop_1 4 rfl) k1 ?_
        refine ws_aload_n 0 (dcd d_Pl_readShop_1 5 rfl) rfl ?_
        refine ws_getF (a := (o0 + 4)) f_Pl_36 rfl (dcd d_Pl_readShop_1 6 rfl) k0 of_2_5 rfl ?_
        refine ws_bipush (v := 58) (dcd d_Pl_readShop_1 7 rfl) (by decide) ?_
        refine ws_callVI (o := (o0 + 4)) (As := [.int 58]) (st := []) (la := [(0, .ref (o0 + 4)), (1, .int 58)]) (dcd d_Pl_readShop_1 8 rfl) cv_Rd_passes k_Pl_82 ⟨by decide, by decide⟩ (os_2_5 k0) rfl (Nat.le_of_ble_eq_true rfl) (Nat.le_of_ble_eq_true rfl) rfl rfl h (fun a7 u7 h => ?_)
        refine ws_if_eq (tgt := 91) (dcd d_Pl_readShop_1 9 rfl) (by decide) (fun c8 => ?_) (fun c8 => ?_)
        · have h := h.1 c8
          refine ws_iconst (v := 0) (dcd d_Pl_readShop_1 14 rfl) (by decide) ?_
          exact ws_iret (dcd d_Pl_readShop_1 15 rfl) ⟨_, rfl, by decide⟩ h
        · have h := h.2 c8
          refine ws_aload_n 0 (dcd d_Pl_readShop_1 10 rfl) rfl ?_
          refine ws_getF (a := (o0 + 4)) f_Pl_36 rfl (dcd d_Pl_readShop_1 11 rfl) k0 of_2_5 rfl ?_
          refine ws_callVI (o := (o0 + 4)) (As := []) (st := []) (la := [(0, .ref (o0 + 4))]) (dcd d_Pl_readShop_1 12 rfl) cv_Rd_readStep k_Pl_112 ⟨by decide, by decide⟩ (os_2_5 k0) rfl (Nat.le_of_ble_eq_true rfl) (Nat.le_of_ble_eq_true rfl) rfl rfl h (fun a9 u9 h => ?_)
          refine ws_if_ne (tgt := 93) (dcd d_Pl_readShop_1 13 rfl) (by decide) (fun c10 => ?_) (fun c10 => ?_)
          · have h := h.1 c10
            refine ws_aload_n 1 (dcd d_Pl_readShop_1 16 rfl) rfl ?_
            refine ws_aload_n 0 (dcd d_Pl_readShop_1 17 rfl) rfl ?_
            refine ws_getF (a := (o0 + 4)) f_Pl_36 rfl (dcd d_Pl_readShop_1 18 rfl) k0 of_2_5 rfl ?_
            refine ws_getI f_Pl_92 rfl (dcd d_Pl_readShop_1 19 rfl) (os_2_5 k0) ?_
            refine ws_putI f_Pl_115 rfl nf_4_2 (dcd d_Pl_readShop_1 20 rfl) k1 ?_
            refine ws_aload_n 0 (dcd d_Pl_readShop_1 21 rfl) rfl ?_
            refine ws_getF (a := (o0 + 4)) f_Pl_36 rfl (dcd d_Pl_readShop_1 22 rfl) k0 of_2_5 rfl ?_
            refine ws_bipush (v := 58) (dcd d_Pl_readShop_1 23 rfl) (by decide) ?_
            refine ws_callVI (o := (o0 + 4)) (As := [.int 58]) (st := []) (la := [(0, .ref (o0 + 4)), (1, .int 58)]) (dcd d_Pl_readShop_1 24 rfl) cv_Rd_passes k_Pl_82 ⟨by decide, by decide⟩ (os_2_5 k0) rfl (Nat.le_of_ble_eq_true rfl) (Nat.le_of_ble_eq_true rfl) rfl rfl h (fun a11 u11 h => ?_)
            refine ws_if_eq (tgt := 131) (dcd d_Pl_readShop_1 25 rfl) (by decide) (fun c12 => ?_) (fun c12 => ?_)
            · have h := h.1 c12
              refine ws_iconst (v := 0) (dcd d_Pl_readShop_2 4 rfl) (by decide) ?_
              exact ws_iret (dcd d_Pl_readShop_2 5 rfl) ⟨_, rfl, by decide⟩ h
            · have h := h.2 c12
              refine ws_aload_n 0 (dcd d_Pl_readShop_1 26 rfl) rfl ?_
              refine ws_getF (a := (o0 + 4)) f_Pl_36 rfl (dcd d_Pl_readShop_1 27 rfl) k0 of_2_5 rfl ?_
              refine ws_iconst (v := 1) (dcd d_Pl_readShop_1 28 rfl) (by decide) ?_
              refine ws_iconst (v := 2) (dcd d_Pl_readShop_1 29 rfl) (by decide) ?_
              refine ws_iconst (v := 1) (dcd d_Pl_readShop_2 0 rfl) (by decide) ?_
              refine ws_bipush (v := 99) (dcd d_Pl_readShop_2 1 rfl) (by decide) ?_
              refine ws_callVI (o := (o0 + 4)) (As := [.int 1, .int 2, .int 1, .int 99]) (st := []) (la := [(0, .ref (o0 + 4)), (1, .int 1), (2, .int 2), (3, .int 1), (4, .int 99)]) (dcd d_Pl_readShop_2 2 rfl) cv_Rd_readNumber k_Pl_85 ⟨by decide, by decide⟩ (os_2_5 k0) rfl (Nat.le_of_ble_eq_true rfl) (Nat.le_of_ble_eq_true rfl) rfl rfl h (fun a13 u13 h => ?_)
              refine ws_if_ne (tgt := 133) (dcd d_Pl_readShop_2 3 rfl) (by decide) (fun c14 => ?_) (fun c14 => ?_)
              · have h := h.1 c14
                refine ws_aload_n 1 (dcd d_Pl_readShop_2 6 rfl) rfl ?_
                refine ws_aload_n 0 (dcd d_Pl_readShop_2 7 rfl) rfl ?_
                refine ws_getF (a := (o0 + 4)) f_Pl_36 rfl (dcd d_Pl_readShop_2 8 rfl) k0 of_2_5 rfl ?_
                refine ws_getI f_Pl_92 rfl (dcd d_Pl_readShop_2 9 rfl) (os_2_5 k0) ?_
                refine ws_putI f_Pl_118 rfl nf_4_3 (dcd d_Pl_readShop_2 10 rfl) k1 ?_
                refine ws_aload_n 1 (dcd d_Pl_readShop_2 11 rfl) rfl ?_
                refine ws_iconst (v := 0) (dcd d_Pl_readShop_2 12 rfl) (by decide) ?_
                refine ws_putI f_Pl_121 rfl nf_4_4 (dcd d_Pl_readShop_2 13 rfl) k1 ?_
                refine ws_aload_n 1 (dcd d_Pl_readShop_2 14 rfl) rfl ?_
                refine ws_getI f_Pl_106 rfl (dcd d_Pl_readShop_2 15 rfl) k1 ?_
                refine ws_iconst (v := 3) (dcd d_Pl_readShop_2 16 rfl) (by decide) ?_
                refine ws_icmp_lt (tgt := 197) (dcd d_Pl_readShop_2 17 rfl) (by decide) (fun c15 => ?_) (fun c15 => ?_)
                · have h := h.1 c15
                  refine ws_iconst (v := 1) (dcd d_Pl_readShop_3 8 rfl) (by decide) ?_
                  exact ws_iret (dcd d_Pl_readShop_3 9 rfl) ⟨_, rfl, by decide⟩ h
                · have h := h.2 c15
                  refine ws_aload_n 0 (dcd d_Pl_readShop_2 18 rfl) rfl ?_
                  refine ws_getF (a := (o0 + 4)) f_Pl_36 rfl (dcd d_Pl_readShop_2 19 rfl) k0 of_2_5 rfl ?_
                  refine ws_bipush (v := 58) (dcd d_Pl_readShop_2 20 rfl) (by decide) ?_
                  refine ws_callVI (o := (o0 + 4)) (As := [.int 58]) (st := []) (la := [(0, .ref (o0 + 4)), (1, .int 58)]) (dcd d_Pl_readShop_2 21 rfl) cv_Rd_passes k_Pl_82 ⟨by decide, by decide⟩ (os_2_5 k0) rfl (Nat.le_of_ble_eq_true rfl) (Nat.le_of_ble_eq_true rfl) rfl rfl h (fun a16 u16 h => ?_)
                  refine ws_if_eq (tgt := 184) (dcd d_Pl_readShop_2 22 rfl) (by decide) (fun c17 => ?_) (fun c17 => ?_)
                  · have h := h.1 c17
                    refine ws_iconst (v := 0) (dcd d_Pl_readShop_3 1 rfl) (by decide) ?_
                    exact ws_iret (dcd d_Pl_readShop_3 2 rfl) ⟨_, rfl, by decide⟩ h
                  · have h := h.2 c17
                    refine ws_aload_n 0 (dcd d_Pl_readShop_2 23 rfl) rfl ?_
                    refine ws_getF (a := (o0 + 4)) f_Pl_36 rfl (dcd d_Pl_readShop_2 24 rfl) k0 of_2_5 rfl ?_
                    refine ws_iconst (v := 1) (dcd d_Pl_readShop_2 25 rfl) (by decide) ?_
                    refine ws_iconst (v := 1) (dcd d_Pl_readShop_2 26 rfl) (by decide) ?_
                    refine ws_iconst (v := 2) (dcd d_Pl_readShop_2 27 rfl) (by decide) ?_
                    refine ws_bipush (v := 9) (dcd d_Pl_readShop_2 28 rfl) (by decide) ?_
                    refine ws_callVI (o := (o0 + 4)) (As := [.int 1, .int 1, .int 2, .int 9]) (st := []) (la := [(0, .ref (o0 + 4)), (1, .int 1), (2, .int 1), (3, .int 2), (4, .int 9)]) (dcd d_Pl_readShop_2 29 rfl) cv_Rd_readNumber k_Pl_85 ⟨by decide, by decide⟩ (os_2_5 k0) rfl (Nat.le_of_ble_eq_true rfl) (Nat.le_of_ble_eq_true rfl) rfl rfl h (fun a18 u18 h => ?_)
                    refine ws_if_ne (tgt := 186) (dcd d_Pl_readShop_3 0 rfl) (by decide) (fun c19 => ?_) (fun c19 => ?_)
                    · have h := h.1 c19
                      refine ws_aload_n 1 (dcd d_Pl_readShop_3 3 rfl) rfl ?_
                      refine ws_aload_n 0 (dcd d_Pl_readShop_3 4 rfl) rfl ?_
                      refine ws_getF (a := (o0 + 4)) f_Pl_36 rfl (dcd d_Pl_readShop_3 5 rfl) k0 of_2_5 rfl ?_
                      refine ws_getI f_Pl_92 rfl (dcd d_Pl_readShop_3 6 rfl) (os_2_5 k0) ?_
                      refine ws_putI f_Pl_121 rfl nf_4_4 (dcd d_Pl_readShop_3 7 rfl) k1 ?_
                      refine ws_iconst (v := 1) (dcd d_Pl_readShop_3 8 rfl) (by decide) ?_
                      exact ws_iret (dcd d_Pl_readShop_3 9 rfl) ⟨_, rfl, by decide⟩ h
                    · have h := h.2 c19
                      refine ws_iconst (v := 0) (dcd d_Pl_readShop_3 1 rfl) (by decide) ?_
                      exact ws_iret (dcd d_Pl_readShop_3 2 rfl) ⟨_, rfl, by decide⟩ h
              · have h := h.2 c14
                refine ws_iconst (v := 0) (dcd d_Pl_readShop_2 4 rfl) (by decide) ?_
                exact ws_iret (dcd d_Pl_readShop_2 5 rfl) ⟨_, rfl, by decide⟩ h
          · have h := h.2 c10
            refine ws_iconst (v := 0) (dcd d_Pl_readShop_1 14 rfl) (by decide) ?_
            exact ws_iret (dcd d_Pl_readShop_1 15 rfl) ⟨_, rfl, by decide⟩ h
      · have h := h.2 c6
        refine ws_iconst (v := 0) (dcd d_Pl_readShop_0 28 rfl) (by decide) ?_
        exact ws_iret (dcd d_Pl_readShop_0 29 rfl) ⟨_, rfl, by decide⟩ h
  · have h := h.2 c2
    refine ws_iconst (v := 0) (dcd d_Pl_readShop_0 4 rfl) (by decide) ?_
    exact ws_iret (dcd d_Pl_readShop_0 5 rfl) ⟨_, rfl, by decide⟩ h
theorem sg_Rd_readKind_0 {o0 : Nat} (k0 : okS o0 3) (h : Ws G Rd_readKind 2 [(0, .ref o0), (1, .int 0)] [] u Q) : Ws G Rd_readKind 0 [(0, .ref o0)] [] u Q := by
  refine ws_iconst (v := 0) (dcd d_Rd_readKind_0 0 rfl) (by decide) ?_
  refine ws_istore_n (l' := [(1, .int 0), (0, .ref o0)]) (dcd d_Rd_readKind_0 1 rfl) (by decide) rfl ?_
  exact ws_loc [1, 0] rfl h
theorem sg_Rd_readKind_2 {o0 : Nat} {x1 : Int32} (k0 : okS o0 3) (h : ((6 ≤ x1 → Q (some (.int 0)) u) ∧ (¬ (6 ≤ x1) → (vp_in x1 6 ∧ Ws G Rd_passes 0 [(0, .ref o0), (1, .int (lets (x1 : Int32).toNatClampNeg))] [] u (RI fun a3 u3 => ((a3 = 0 → Ws G Rd_readKind 2 [(0, .ref o0), (1, .int (x1 + 1))] [] u3 Q) ∧ (¬ a3 = 0 → Q (some (.int 1)) (pI u3 o0 2 x1)))))))) : Ws G Rd_readKind 2 [(0, .ref o0), (1, .int x1)] [] u Q := by
  refine ws_iload_n 1 (dcd d_Rd_readKind_0 2 rfl) rfl ?_
  refine ws_gets rfl (dcd d_Rd_readKind_0 3 rfl) ?_
  refine ws_tlen (dcd d_Rd_readKind_0 4 rfl) ?_
  refine ws_icmp_ge (tgt := 35) (dcd d_Rd_readKind_0 5 rfl) (by decide) (fun c1 => ?_) (fun c1 => ?_)
  · have h := h.1 c1
    refine ws_iconst (v := 0) (dcd d_Rd_readKind_0 19 rfl) (by decide) ?_
    exact ws_iret (dcd d_Rd_readKind_0 20 rfl) ⟨_, rfl, by decide⟩ h
  · have h := h.2 c1
    refine ws_aload_n 0 (dcd d_Rd_readKind_0 6 rfl) rfl ?_
    refine ws_gets rfl (dcd d_Rd_readKind_0 7 rfl) ?_
    refine ws_iload_n 1 (dcd d_Rd_readKind_0 8 rfl) rfl ?_
    obtain ⟨e2, h⟩ := h
    refine ws_tld (dcd d_Rd_readKind_0 9 rfl) e2 ?_
    refine ws_callVI (o := o0) (As := [.int (lets (x1 : Int32).toNatClampNeg)]) (st := []) (la := [(0, .ref o0), (1, .int (lets (x1 : Int32).toNatClampNeg))]) (dcd d_Rd_readKind_0 10 rfl) cv_Rd_passes k_Rd_46 ⟨by decide, by decide⟩ k0 rfl (Nat.le_of_ble_eq_true rfl) (Nat.le_of_ble_eq_true rfl) rfl rfl h (fun a3 u3 h => ?_)
    refine ws_if_eq (tgt := 29) (dcd d_Rd_readKind_0 11 rfl) (by decide) (fun c4 => ?_) (fun c4 => ?_)
    · have h := h.1 c4
      refine ws_iinc (v := 1) (l' := [(1, .int (x1 + 1)), (0, .ref o0)]) 1 (dcd d_Rd_readKind_0 17 rfl) rfl (by decide) (by decide) rfl ?_
      refine ws_goto (tgt := 2) (dcd d_Rd_readKind_0 18 rfl) (by decide) ?_
      exact ws_loc [1, 0] rfl h
    · have h := h.2 c4
      refine ws_aload_n 0 (dcd d_Rd_readKind_0 12 rfl) rfl ?_
      refine ws_iload_n 1 (dcd d_Rd_readKind_0 13 rfl) rfl ?_
      refine ws_putI f_Rd_24 rfl nf_3_2 (dcd d_Rd_readKind_0 14 rfl) k0 ?_
      refine ws_iconst (v := 1) (dcd d_Rd_readKind_0 15 rfl) (by decide) ?_
      exact ws_iret (dcd d_Rd_readKind_0 16 rfl) ⟨_, rfl, by decide⟩ h
theorem sg_Pl_isFirstDoor_0 {o0 : Nat} {x1 : Int32} (k0 : okS o0 2) (h : Ws G Pl_isFirstDoor 2 [(0, .ref o0), (1, .int x1), (2, .int 0)] [] u Q) : Ws G Pl_isFirstDoor 0 [(0, .ref o0), (1, .int x1)] [] u Q := by
  refine ws_iconst (v := 0) (dcd d_Pl_isFirstDoor_0 0 rfl) (by decide) ?_
  refine ws_istore_n (l' := [(2, .int 0), (0, .ref o0), (1, .int x1)]) (dcd d_Pl_isFirstDoor_0 1 rfl) (by decide) rfl ?_
  exact ws_loc [1, 2, 0] rfl h
theorem sg_Pl_isFirstDoor_2 {o0 : Nat} {x1 : Int32} {x2 : Int32} (k0 : okS o0 2) (h : (((mI u o0 1) ≤ x2 → Q (some (.int 0)) u) ∧ (¬ ((mI u o0 1) ≤ x2) → ((¬ (mI u (shO u o0 x2) 1) = x1 → Ws G Pl_isFirstDoor 2 [(0, .ref o0), (1, .int x1), (2, .int (x2 + 1))] [] u Q) ∧ ((mI u (shO u o0 x2) 1) = x1 → Q (some (.int 1)) u))))) : Ws G Pl_isFirstDoor 2 [(0, .ref o0), (1, .int x1), (2, .int x2)] [] u Q := by
  refine ws_iload_n 2 (dcd d_Pl_isFirstDoor_0 2 rfl) rfl ?_
  refine ws_aload_n 0 (dcd d_Pl_isFirstDoor_0 3 rfl) rfl ?_
  refine ws_getI f_Pl_15 rfl (dcd d_Pl_isFirstDoor_0 4 rfl) k0 ?_
  refine ws_icmp_ge (tgt := 30) (dcd d_Pl_isFirstDoor_0 5 rfl) (by decide) (fun c1 => ?_) (fun c1 => ?_)
  · have h := h.1 c1
    refine ws_iconst (v := 0) (dcd d_Pl_isFirstDoor_0 16 rfl) (by decide) ?_
    exact ws_iret (dcd d_Pl_isFirstDoor_0 17 rfl) ⟨_, rfl, by decide⟩ h
  · have h := h.2 c1
    refine ws_aload_n 0 (dcd d_Pl_isFirstDoor_0 6 rfl) rfl ?_
    refine ws_iload_n 2 (dcd d_Pl_isFirstDoor_0 7 rfl) rfl ?_
    refine ws_callVR (o := o0) (As := [.int x2]) (st := []) (la := [(0, .ref o0), (1, .int x2)]) (dcd d_Pl_isFirstDoor_0 8 rfl) cv_Pl_shopOf k_Pl_44 ⟨by decide, by decide⟩ k0 rfl (Nat.le_of_ble_eq_true rfl) (Nat.le_of_ble_eq_true rfl) rfl rfl (sp_Pl_shopOf k0) ?_
    rintro _ _ ⟨rfl, rfl⟩
    refine ws_getI f_Pl_72 rfl (dcd d_Pl_isFirstDoor_0 9 rfl) (shO_ok k0) ?_
    refine ws_iload_n 1 (dcd d_Pl_isFirstDoor_0 10 rfl) rfl ?_
    refine ws_icmp_ne (tgt := 24) (dcd d_Pl_isFirstDoor_0 11 rfl) (by decide) (fun c2 => ?_) (fun c2 => ?_)
    · have h := h.1 c2
      refine ws_iinc (v := 1) (l' := [(2, .int (x2 + 1)), (0, .ref o0), (1, .int x1)]) 2 (dcd d_Pl_isFirstDoor_0 14 rfl) rfl (by decide) (by decide) rfl ?_
      refine ws_goto (tgt := 2) (dcd d_Pl_isFirstDoor_0 15 rfl) (by decide) ?_
      exact ws_loc [1, 2, 0] rfl h
    · have h := h.2 c2
      refine ws_iconst (v := 1) (dcd d_Pl_isFirstDoor_0 12 rfl) (by decide) ?_
      exact ws_iret (dcd d_Pl_isFirstDoor_0 13 rfl) ⟨_, rfl, by decide⟩ h
theorem sg_Rd_readStep_0 {o0 : Nat} (k0 : okS o0 3) (h : Ws G Rd_passes 0 [(0, .ref o0), (1, .int 45)] [] u (RI fun a1 u1 => ((¬ a1 = 0 → Ws G Rd_readNumber 0 [(0, .ref o0), (1, .int 1), (2, .int 1), (3, .int 0), (4, .int 9)] [] u1 (RI fun a3 u3 => ((¬ a3 = 0 → ((a1 = 0 → Q (some (.int 1)) (pI u3 o0 2 (mI u3 o0 2))) ∧ (¬ a1 = 0 → Q (some (.int 1)) (pI u3 o0 2 (-(mI u3 o0 2)))))) ∧ (a3 = 0 → Q (some (.int 0)) u3)))) ∧ (a1 = 0 → Ws G Rd_passes 0 [(0, .ref o0), (1, .int 43)] [] u1 (RI fun a6 u6 => ((a6 = 0 → Q (some (.int 0)) u6) ∧ (¬ a6 = 0 → Ws G Rd_readNumber 0 [(0, .ref o0), (1, .int 1), (2, .int 1), (3, .int 0), (4, .int 9)] [] u6 (RI fun a8 u8 => ((¬ a8 = 0 → ((a1 = 0 → Q (some (.int 1)) (pI u8 o0 2 (mI u8 o0 2))) ∧ (¬ a1 = 0 → Q (some (.int 1)) (pI u8 o0 2 (-(mI u8 o0 2)))))) ∧ (a8 = 0 → Q (some (.int 0)) u8)))))))))) : Ws G Rd_readStep 0 [(0, .ref o0)] [] u Q := by
  refine ws_aload_n 0 (dcd d_Rd_readStep_0 0 rfl) rfl ?_
  refine ws_bipush (v := 45) (dcd d_Rd_readStep_0 1 rfl) (by decide) ?_
  refine ws_callVI (o := o0) (As := [.int 45]) (st := []) (la := [(0, .ref o0), (1, .int 45)]) (dcd d_Rd_readStep_0 2 rfl) cv_Rd_passes k_Rd_46 ⟨by decide, by decide⟩ k0 rfl (Nat.le_of_ble_eq_true rfl) (Nat.le_of_ble_eq_true rfl) rfl rfl h (fun a1 u1 h => ?_)
  refine ws_istore_n (l' := [(1, .int a1), (0, .ref o0)]) (dcd d_Rd_readStep_0 3 rfl) (by decide) rfl ?_
  refine ws_iload_n 0 (dcd d_Rd_readStep_0 4 rfl) rfl ?_
  refine ws_if_ne (tgt := 20) (dcd d_Rd_readStep_0 5 rfl) (by decide) (fun c2 => ?_) (fun c2 => ?_)
  · have h := h.1 c2
    refine ws_aload_n 1 (dcd d_Rd_readStep_0 10 rfl) rfl ?_
    refine ws_iconst (v := 1) (dcd d_Rd_readStep_0 11 rfl) (by decide) ?_
    refine ws_iconst (v := 1) (dcd d_Rd_readStep_0 12 rfl) (by decide) ?_
    refine ws_iconst (v := 0) (dcd d_Rd_readStep_0 13 rfl) (by decide) ?_
    refine ws_bipush (v := 9) (dcd d_Rd_readStep_0 14 rfl) (by decide) ?_
    refine ws_callVI (o := o0) (As := [.int 1, .int 1, .int 0, .int 9]) (st := []) (la := [(0, .ref o0), (1, .int 1), (2, .int 1), (3, .int 0), (4, .int 9)]) (dcd d_Rd_readStep_0 15 rfl) cv_Rd_readNumber k_Rd_49 ⟨by decide, by decide⟩ k0 rfl (Nat.le_of_ble_eq_true rfl) (Nat.le_of_ble_eq_true rfl) rfl rfl h (fun a3 u3 h => ?_)
    refine ws_if_ne (tgt := 34) (dcd d_Rd_readStep_0 16 rfl) (by decide) (fun c4 => ?_) (fun c4 => ?_)
    · have h := h.1 c4
      refine ws_aload_n 1 (dcd d_Rd_readStep_0 19 rfl) rfl ?_
      refine ws_iload_n 0 (dcd d_Rd_readStep_0 20 rfl) rfl ?_
      refine ws_if_eq (tgt := 47) (dcd d_Rd_readStep_0 21 rfl) (by decide) (fun c5 => ?_) (fun c5 => ?_)
      · have h := h.1 c5
        refine ws_aload_n 1 (dcd d_Rd_readStep_0 26 rfl) rfl ?_
        refine ws_getI f_Rd_24 rfl (dcd d_Rd_readStep_0 27 rfl) k0 ?_
        refine ws_putI f_Rd_24 rfl nf_3_2 (dcd d_Rd_readStep_0 28 rfl) k0 ?_
        refine ws_iconst (v := 1) (dcd d_Rd_readStep_0 29 rfl) (by decide) ?_
        exact ws_iret (dcd d_Rd_readStep_1 0 rfl) ⟨_, rfl, by decide⟩ h
      · have h := h.2 c5
        refine ws_aload_n 1 (dcd d_Rd_readStep_0 22 rfl) rfl ?_
        refine ws_getI f_Rd_24 rfl (dcd d_Rd_readStep_0 23 rfl) k0 ?_
        refine ws_ineg (dcd d_Rd_readStep_0 24 rfl) ?_
        refine ws_goto (tgt := 51) (dcd d_Rd_readStep_0 25 rfl) (by decide) ?_
        refine ws_putI f_Rd_24 rfl nf_3_2 (dcd d_Rd_readStep_0 28 rfl) k0 ?_
        refine ws_iconst (v := 1) (dcd d_Rd_readStep_0 29 rfl) (by decide) ?_
        exact ws_iret (dcd d_Rd_readStep_1 0 rfl) ⟨_, rfl, by decide⟩ h
    · have h := h.2 c4
      refine ws_iconst (v := 0) (dcd d_Rd_readStep_0 17 rfl) (by decide) ?_
      exact ws_iret (dcd d_Rd_readStep_0 18 rfl) ⟨_, rfl, by decide⟩ h
  · have h := h.2 c2
    refine ws_aload_n 1 (dcd d_Rd_readStep_0 6 rfl) rfl ?_
    refine ws_bipush (v := 43) (dcd d_Rd_readStep_0 7 rfl) (by decide) ?_
    refine ws_callVI (o := o0) (As := [.int 43]) (st := []) (la := [(0, .ref o0), (1, .int 43)]) (dcd d_Rd_readStep_0 8 rfl) cv_Rd_passes k_Rd_46 ⟨by decide, by decide⟩ k0 rfl (Nat.le_of_ble_eq_true rfl) (Nat.le_of_ble_eq_true rfl) rfl rfl h (fun a6 u6 h => ?_)
    refine ws_if_eq (tgt := 32) (dcd d_Rd_readStep_0 9 rfl) (by decide) (fun c7 => ?_) (fun c7 => ?_)
    · have h := h.1 c7
      refine ws_iconst (v := 0) (dcd d_Rd_readStep_0 17 rfl) (by decide) ?_
      exact ws_iret (dcd d_Rd_readStep_0 18 rfl) ⟨_, rfl, by decide⟩ h
    · have h := h.2 c7
      refine ws_aload_n 1 (dcd d_Rd_readStep_0 10 rfl) rfl ?_
      refine ws_iconst (v := 1) (dcd d_Rd_readStep_0 11 rfl) (by decide) ?_
      refine ws_iconst (v := 1) (dcd d_Rd_readStep_0 12 rfl) (by decide) ?_
      refine ws_iconst (v := 0) (dcd d_Rd_readStep_0 13 rfl) (by decide) ?_
      refine ws_bipush (v := 9) (dcd d_Rd_readStep_0 14 rfl) (by decide) ?_
      refine ws_callVI (o := o0) (As := [.int 1, .int 1, .int 0, .int 9]) (st := []) (la := [(0, .ref o0), (1, .int 1), (2, .int 1), (3, .int 0), (4, .int 9)]) (dcd d_Rd_readStep_0 15 rfl) cv_Rd_readNumber k_Rd_49 ⟨by decide, by decide⟩ k0 rfl (Nat.le_of_ble_eq_true rfl) (Nat.le_of_ble_eq_true rfl) rfl rfl h (fun a8 u8 h => ?_)
      refine ws_if_ne (tgt := 34) (dcd d_Rd_readStep_0 16 rfl) (by decide) (fun c9 => ?_) (fun c9 => ?_)
      · have h := h.1 c9
        refine ws_aload_n 1 (dcd d_Rd_readStep_0 19 rfl) rfl ?_
        refine ws_iload_n 0 (dcd d_Rd_readStep_0 20 rfl) rfl ?_
        refine ws_if_eq (tgt := 47) (dcd d_Rd_readStep_0 21 rfl) (by decide) (fun c10 => ?_) (fun c10 => ?_)
        · have h := h.1 c10
          refine ws_aload_n 1 (dcd d_Rd_readStep_0 26 rfl) rfl ?_
          refine ws_getI f_Rd_24 rfl (dcd d_Rd_readStep_0 27 rfl) k0 ?_
          refine ws_putI f_Rd_24 rfl nf_3_2 (dcd d_Rd_readStep_0 28 rfl) k0 ?_
          refine ws_iconst (v := 1) (dcd d_Rd_readStep_0 29 rfl) (by decide) ?_
          exact ws_iret (dcd d_Rd_readStep_1 0 rfl) ⟨_, rfl, by decide⟩ h
        · have h := h.2 c10
          refine ws_aload_n 1 (dcd d_Rd_readStep_0 22 rfl) rfl ?_
          refine ws_getI f_Rd_24 rfl (dcd d_Rd_readStep_0 23 rfl) k0 ?_
          refine ws_ineg (dcd d_Rd_readStep_0 24 rfl) ?_
          refine ws_goto (tgt := 51) (dcd d_Rd_readStep_0 25 rfl) (by decide) ?_
          refine ws_putI f_Rd_24 rfl nf_3_2 (dcd d_Rd_readStep_0 28 rfl) k0 ?_
          refine ws_iconst (v := 1) (dcd d_Rd_readStep_0 29 rfl) (by decide) ?_
          exact ws_iret (dcd d_Rd_readStep_1 0 rfl) ⟨_, rfl, by decide⟩ h
      · have h := h.2 c9
        refine ws_iconst (v := 0) (dcd d_Rd_readStep_0 17 rfl) (by decide) ?_
        exact ws_iret (dcd d_Rd_readStep_0 18 rfl) ⟨_, rfl, by decide⟩ h
theorem sg_D_square_0 {x1 : Int32}  (h : (((0 ≤ x1 ∧ x1 < 4) → (((0 ≤ (mI u (txV x1) 1)) → (pl (mR u 2 11) → Ws G Pl_read 0 [(0, .ref (mR u 2 11)), (1, .ref (txV x1))] [] u (RI fun a6 u6 => ((a6 = (-9) → (pl (mR u6 2 10) → (pl (mR u6 2 11) → (pl (mR (pR (pR u6 2 10 (mR u6 2 11)) 2 11 (mR u6 2 10)) 2 10) → Ws G Pl_rank 0 [(0, .ref (mR (pR (pR u6 2 10 (mR u6 2 11)) 2 11 (mR u6 2 10)) 2 10))] [] (pR (pR u6 2 10 (mR u6 2 11)) 2 11 (mR u6 2 10)) (RV fun u11 => (pl (mR u11 2 10) → Ws G Sn_begin 0 [(0, .ref 7), (1, .ref (mR u11 2 10))] [] u11 (RV fun u13 => Ws G D_square 91 [(0, .ref 2), (4, .int 0)] [] (pI u13 14 0 0) Q))))))) ∧ (¬ a6 = (-9) → Q (some (.int (-4))) u6))))) ∧ (¬ (0 ≤ (mI u (txV x1) 1)) → Q (some (.int (-3))) (dF u 1)))) ∧ (¬ (0 ≤ x1 ∧ x1 < 4) → Q (some (.int (-1))) u))) : Ws G D_square 0 [(0, .ref 2), (1, .int x1)] [] u Q := by
  refine ws_iload_n 1 (dcd d_D_square_0 0 rfl) rfl ?_
  refine ws_callSI (As := [.int x1]) (st := []) (la := [(0, .int x1)]) (dcd d_D_square_0 1 rfl) cs_D_isText k_D_141 ⟨by decide, by decide⟩ rfl (Nat.le_of_ble_eq_true rfl) (Nat.le_of_ble_eq_true rfl) rfl rfl sp_D_isText ?_
  rintro _ _ ⟨rfl, ⟨rfl, c1⟩ | ⟨rfl, c1⟩⟩
  · have h := h.1 c1
    refine ws_if_ne (tgt := 9) (dcd d_D_square_0 2 rfl) (by decide) (fun _ => ?_) (fun c => absurd c (by decide))
    refine ws_aload_n 0 (dcd d_D_square_0 5 rfl) rfl ?_
    refine ws_iload_n 1 (dcd d_D_square_0 6 rfl) rfl ?_
    refine ws_callVR (o := 2) (As := [.int x1]) (st := []) (la := [(0, .ref 2), (1, .int x1)]) (dcd d_D_square_0 7 rfl) cv_D_textOf k_D_144 ⟨by decide, by decide⟩ ok_2 rfl (Nat.le_of_ble_eq_true rfl) (Nat.le_of_ble_eq_true rfl) rfl rfl sp_D_textOf ?_
    rintro _ _ ⟨rfl, rfl⟩
    refine ws_astore_n (l' := [(2, .ref (txV x1)), (0, .ref 2), (1, .int x1)]) (dcd d_D_square_0 8 rfl) (by decide) rfl ?_
    refine ws_aload_n 0 (dcd d_D_square_0 9 rfl) rfl ?_
    refine ws_callVI (o := (txV x1)) (As := []) (st := []) (la := [(0, .ref (txV x1))]) (dcd d_D_square_0 10 rfl) cv_Sp_isThere k_D_117 ⟨by decide, by decide⟩ (txV_ok x1) rfl (Nat.le_of_ble_eq_true rfl) (Nat.le_of_ble_eq_true rfl) rfl rfl (sp_Sp_isThere (txV_ok x1)) ?_
    rintro _ _ ⟨rfl, ⟨rfl, c3⟩ | ⟨rfl, c3⟩⟩
    · have h := h.1 c3
      refine ws_if_ne (tgt := 28) (dcd d_D_square_0 11 rfl) (by decide) (fun _ => ?_) (fun c => absurd c (by decide))
      refine ws_aload_n 1 (dcd d_D_square_0 16 rfl) rfl ?_
      refine ws_getP (by decide) f_D_67 (dcd d_D_square_0 17 rfl) (fun j5 => ?_)
      have h := h j5
      refine ws_aload_n 0 (dcd d_D_square_0 18 rfl) rfl ?_
      refine ws_callVI (o := (mR u 2 11)) (As := [.ref (txV x1)]) (st := []) (la := [(0, .ref (mR u 2 11)), (1, .ref (txV x1))]) (dcd d_D_square_0 19 rfl) cv_Pl_read k_D_147 ⟨by decide, by decide⟩ (pl_ok j5) rfl (Nat.le_of_ble_eq_true rfl) (Nat.le_of_ble_eq_true rfl) rfl rfl h (fun a6 u6 h => ?_)
      refine ws_bipush (v := (-9)) (dcd d_D_square_0 20 rfl) (by decide) ?_
      refine ws_icmp_eq (tgt := 44) (dcd d_D_square_0 21 rfl) (by decide) (fun c7 => ?_) (fun c7 => ?_)
      · have h := h.1 c7
        refine ws_aload_n 1 (dcd d_D_square_0 24 rfl) rfl ?_
        refine ws_getP (by decide) f_D_63 (dcd d_D_square_0 25 rfl) (fun j8 => ?_)
        have h := h j8
        refine ws_astore_n (l' := [(3, .ref (mR u6 2 10)), (2, .ref (txV x1)), (0, .ref 2), (1, .int x1)]) (dcd d_D_square_0 26 rfl) (by decide) rfl ?_
        refine ws_aload_n 2 (dcd d_D_square_0 27 rfl) rfl ?_
        refine ws_aload_n 2 (dcd d_D_square_0 28 rfl) rfl ?_
        refine ws_getP (by decide) f_D_67 (dcd d_D_square_0 29 rfl) (fun j9 => ?_)
        have h := h j9
        refine ws_putP (by decide) f_D_63 nf_7_10 (dcd d_D_square_1 0 rfl) j9 ?_
        refine ws_aload_n 2 (dcd d_D_square_1 1 rfl) rfl ?_
        refine ws_aload_n 0 (dcd d_D_square_1 2 rfl) rfl ?_
        refine ws_putP (by decide) f_D_67 nf_7_11 (dcd d_D_square_1 3 rfl) j8 ?_
        refine ws_aload_n 2 (dcd d_D_square_1 4 rfl) rfl ?_
        refine ws_getP (by decide) f_D_63 (dcd d_D_square_1 5 rfl) (fun j10 => ?_)
        have h := h j10
        refine ws_callVV (o := (mR (pR (pR u6 2 10 (mR u6 2 11)) 2 11 (mR u6 2 10)) 2 10)) (As := []) (st := []) (la := [(0, .ref (mR (pR (pR u6 2 10 (mR u6 2 11)) 2 11 (mR u6 2 10)) 2 10))]) (dcd d_D_square_1 6 rfl) cv_Pl_rank k_D_151 ⟨by decide, by decide⟩ (pl_ok j10) rfl (Nat.le_of_ble_eq_true rfl) (Nat.le_of_ble_eq_true rfl) rfl rfl h (fun u11 h => ?_)
        refine ws_aload_n 2 (dcd d_D_square_1 7 rfl) rfl ?_
        refine ws_getF (a := 7) f_D_28 rfl (dcd d_D_square_1 8 rfl) ok_2 of_7_3 rfl ?_
        refine ws_aload_n 2 (dcd d_D_square_1 9 rfl) rfl ?_
        refine ws_getP (by decide) f_D_63 (dcd d_D_square_1 10 rfl) (fun j12 => ?_)
        have h := h j12
        refine ws_callVV (o := 7) (As := [.ref (mR u11 2 10)]) (st := []) (la := [(0, .ref 7), (1, .ref (mR u11 2 10))]) (dcd d_D_square_1 11 rfl) cv_Sn_begin k_D_154 ⟨by decide, by decide⟩ (os_7_3 ok_2) rfl (Nat.le_of_ble_eq_true rfl) (Nat.le_of_ble_eq_true rfl) rfl rfl h (fun u13 h => ?_)
        refine ws_aload_n 2 (dcd d_D_square_1 12 rfl) rfl ?_
        refine ws_getF (a := 14) f_D_45 rfl (dcd d_D_square_1 13 rfl) ok_2 of_7_7 rfl ?_
        refine ws_iconst (v := 0) (dcd d_D_square_1 14 rfl) (by decide) ?_
        refine ws_putI f_D_158 rfl nf_0_0 (dcd d_D_square_1 15 rfl) (os_7_7 ok_2) ?_
        refine ws_iconst (v := 0) (dcd d_D_square_1 16 rfl) (by decide) ?_
        refine ws_istore (l' := [(4, .int 0), (3, .ref (mR u6 2 10)), (2, .ref (txV x1)), (0, .ref 2), (1, .int x1)]) (dcd d_D_square_1 17 rfl) (by decide) rfl ?_
        exact ws_loc [3, 0] rfl h
      · have h := h.2 c7
        refine ws_bipush (v := (-4)) (dcd d_D_square_0 22 rfl) (by decide) ?_
        exact ws_iret (dcd d_D_square_0 23 rfl) ⟨_, rfl, rfl⟩ h
    · have h := h.2 c3
      refine ws_if_ne (tgt := 28) (dcd d_D_square_0 11 rfl) (by decide) (fun c => absurd (show (0 : Int32) = 0 from by decide) c) (fun _ => ?_)
      refine ws_aload_n 1 (dcd d_D_square_0 12 rfl) rfl ?_
      refine ws_iconst (v := 1) (dcd d_D_square_0 13 rfl) (by decide) ?_
      refine ws_callVI (o := 2) (As := [.int 1]) (st := []) (la := [(0, .ref 2), (1, .int 1)]) (dcd d_D_square_0 14 rfl) cv_D_found k_D_91 ⟨by decide, by decide⟩ ok_2 rfl (Nat.le_of_ble_eq_true rfl) (Nat.le_of_ble_eq_true rfl) rfl rfl sp_D_found ?_
      rintro _ _ ⟨rfl, rfl⟩
      exact ws_iret (dcd d_D_square_0 15 rfl) ⟨_, rfl, rfl⟩ h
  · have h := h.2 c1
    refine ws_if_ne (tgt := 9) (dcd d_D_square_0 2 rfl) (by decide) (fun c => absurd (show (0 : Int32) = 0 from by decide) c) (fun _ => ?_)
    refine ws_iconst (v := (-1)) (dcd d_D_square_0 3 rfl) (by decide) ?_
    exact ws_iret (dcd d_D_square_0 4 rfl) ⟨_, rfl, rfl⟩ h
theorem sg_D_square_91 {x4 : Int32}  (h : ((3 ≤ x4 → (pl (mR u 2 10) → Q (some (.int (mI u (mR u 2 10) 1))) u)) ∧ (¬ (3 ≤ x4) → Ws G D_square 91 [(0, .ref 2), (4, .int (x4 + 1))] [] (pI u (kpV x4) 0 (-1)) Q))) : Ws G D_square 91 [(0, .ref 2), (4, .int x4)] [] u Q := by
  refine ws_iload 1 (dcd d_D_square_1 18 rfl) rfl ?_
  refine ws_iconst (v := 3) (dcd d_D_square_1 19 rfl) (by decide) ?_
  refine ws_icmp_ge (tgt := 113) (dcd d_D_square_1 20 rfl) (by decide) (fun c1 => ?_) (fun c1 => ?_)
  · have h := h.1 c1
    refine ws_aload_n 0 (dcd d_D_square_1 28 rfl) rfl ?_
    refine ws_getP (by decide) f_D_63 (dcd d_D_square_1 29 rfl) (fun j2 => ?_)
    have h := h j2
    refine ws_getI f_D_163 rfl (dcd d_D_square_2 0 rfl) (pl_ok j2) ?_
    exact ws_iret (dcd d_D_square_2 1 rfl) ⟨_, rfl, rfl⟩ h
  · have h := h.2 c1
    refine ws_aload_n 0 (dcd d_D_square_1 21 rfl) rfl ?_
    refine ws_iload 1 (dcd d_D_square_1 22 rfl) rfl ?_
    refine ws_callVR (o := 2) (As := [.int x4]) (st := []) (la := [(0, .ref 2), (1, .int x4)]) (dcd d_D_square_1 23 rfl) cv_D_keptOf k_D_159 ⟨by decide, by decide⟩ ok_2 rfl (Nat.le_of_ble_eq_true rfl) (Nat.le_of_ble_eq_true rfl) rfl rfl sp_D_keptOf ?_
    rintro _ _ ⟨rfl, rfl⟩
    refine ws_iconst (v := (-1)) (dcd d_D_square_1 24 rfl) (by decide) ?_
    refine ws_putI f_D_84 rfl nf_5_0 (dcd d_D_square_1 25 rfl) (kpV_ok x4) ?_
    refine ws_iinc (v := 1) (l' := [(4, .int (x4 + 1)), (0, .ref 2)]) 1 (dcd d_D_square_1 26 rfl) rfl (by decide) (by decide) rfl ?_
    refine ws_goto (tgt := 91) (dcd d_D_square_1 27 rfl) (by decide) ?_
    exact ws_loc [1, 0] rfl h
end SEG
