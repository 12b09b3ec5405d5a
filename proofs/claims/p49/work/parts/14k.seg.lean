section SEG
variable {G : pG} {u : pM} {Q : Option Value → pM → Prop}
theorem sg_m_steps_0 {x1 : Int32}  (h : (((0 ≤ x1 ∧ x1 ≤ (mI u 76 11) - 1) → Ws G m_steps 15 [(0, .ref 76), (1, .int x1), (2, .int 0), (3, .int (-9))] [] u Q) ∧ (¬ (0 ≤ x1 ∧ x1 ≤ (mI u 76 11) - 1) → Q (some (.int (-1))) u))) : Ws G m_steps 0 [(0, .ref 76), (1, .int x1)] [] u Q := by
  refine ws_aload_n 0 (dcd d_m_steps_0 0 rfl) rfl ?_
  refine ws_iload_n 1 (dcd d_m_steps_0 1 rfl) rfl ?_
  refine ws_callVI (o := 76) (As := [.int x1]) (st := []) (la := [(0, .ref 76), (1, .int x1)]) (dcd d_m_steps_0 2 rfl) cv_m_isShop k_m_171 ⟨by decide, by decide⟩ ok_76 rfl (Nat.le_of_ble_eq_true rfl) (Nat.le_of_ble_eq_true rfl) rfl rfl sp_m_isShop ?_
  rintro _ _ ⟨rfl, ⟨rfl, c1⟩ | ⟨rfl, c1⟩⟩
  · have h := h.1 c1
    refine ws_if_ne (tgt := 10) (dcd d_m_steps_0 3 rfl) (by decide) (fun _ => ?_) (fun c => absurd c (by decide))
    refine ws_iconst (v := 0) (dcd d_m_steps_0 6 rfl) (by decide) ?_
    refine ws_istore_n (l' := [(2, .int 0), (0, .ref 76), (1, .int x1)]) (dcd d_m_steps_0 7 rfl) (by decide) rfl ?_
    refine ws_bipush (v := (-9)) (dcd d_m_steps_0 8 rfl) (by decide) ?_
    refine ws_istore_n (l' := [(3, .int (-9)), (2, .int 0), (0, .ref 76), (1, .int x1)]) (dcd d_m_steps_0 9 rfl) (by decide) rfl ?_
    exact ws_loc [2, 3, 1, 0] rfl h
  · have h := h.2 c1
    refine ws_if_ne (tgt := 10) (dcd d_m_steps_0 3 rfl) (by decide) (fun c => absurd (show (0 : Int32) = 0 from by decide) c) (fun _ => ?_)
    refine ws_iconst (v := (-1)) (dcd d_m_steps_0 4 rfl) (by decide) ?_
    exact ws_iret (dcd d_m_steps_0 5 rfl) ⟨_, rfl, rfl⟩ h
theorem sg_m_steps_15 {x1 : Int32} {x2 : Int32} {x3 : Int32}  (h : ((9 < x3 → Ws G m_sizeOf 0 [(0, .int x2)] [] u (RI fun a2 u2 => Q (some (.int x2)) (pI u2 76 2 a2))) ∧ (¬ (9 < x3) → (vp_in (5 * x1 + 0) 70 ∧ (vp_in (5 * x1 + 4) 70 ∧ Ws G m_fits 0 [(0, .ref 76), (1, .int x1), (2, .int (mI u 83 ((5 * x1 + 0) : Int32).toNatClampNeg)), (3, .int x3), (4, .int (mI u 83 ((5 * x1 + 4) : Int32).toNatClampNeg))] [] u (RI fun a5 u5 => ((a5 = 0 → Ws G m_steps 15 [(0, .ref 76), (1, .int x1), (2, .int (x2 ||| 0)), (3, .int (x3 + 1))] [] u5 Q) ∧ (¬ a5 = 0 → Ws G m_steps 15 [(0, .ref 76), (1, .int x1), (2, .int (x2 ||| (1 <<< ((x3 + 9) &&& 31)))), (3, .int (x3 + 1))] [] u5 Q)))))))) : Ws G m_steps 15 [(0, .ref 76), (1, .int x1), (2, .int x2), (3, .int x3)] [] u Q := by
  refine ws_iload_n 3 (dcd d_m_steps_0 10 rfl) rfl ?_
  refine ws_bipush (v := 9) (dcd d_m_steps_0 11 rfl) (by decide) ?_
  refine ws_icmp_gt (tgt := 61) (dcd d_m_steps_0 12 rfl) (by decide) (fun c1 => ?_) (fun c1 => ?_)
  · have h := h.1 c1
    refine ws_aload_n 0 (dcd d_m_steps_1 8 rfl) rfl ?_
    refine ws_iload_n 2 (dcd d_m_steps_1 9 rfl) rfl ?_
    refine ws_callSI (As := [.int x2]) (st := [.ref 76]) (la := [(0, .int x2)]) (dcd d_m_steps_1 10 rfl) cs_m_sizeOf k_m_251 ⟨by decide, by decide⟩ rfl (Nat.le_of_ble_eq_true rfl) (Nat.le_of_ble_eq_true rfl) rfl rfl h (fun a2 u2 h => ?_)
    refine ws_iload_n 2 (dcd d_m_steps_1 11 rfl) rfl ?_
    refine ws_callVI (o := 76) (As := [.int a2, .int x2]) (st := []) (la := [(0, .ref 76), (1, .int a2), (2, .int x2)]) (dcd d_m_steps_1 12 rfl) cv_m_ask k_m_104 ⟨by decide, by decide⟩ ok_76 rfl (Nat.le_of_ble_eq_true rfl) (Nat.le_of_ble_eq_true rfl) rfl rfl sp_m_ask ?_
    rintro _ _ ⟨rfl, rfl⟩
    exact ws_iret (dcd d_m_steps_1 13 rfl) ⟨_, rfl, rfl⟩ h
  · have h := h.2 c1
    refine ws_iload_n 2 (dcd d_m_steps_0 13 rfl) rfl ?_
    refine ws_aload_n 0 (dcd d_m_steps_0 14 rfl) rfl ?_
    refine ws_iload_n 1 (dcd d_m_steps_0 15 rfl) rfl ?_
    refine ws_aload_n 0 (dcd d_m_steps_0 16 rfl) rfl ?_
    refine ws_iload_n 1 (dcd d_m_steps_0 17 rfl) rfl ?_
    refine ws_iconst (v := 0) (dcd d_m_steps_0 18 rfl) (by decide) ?_
    obtain ⟨e3, h⟩ := h
    refine ws_callVI (o := 76) (As := [.int x1, .int 0]) (st := [.int x1, .ref 76, .int x2]) (la := [(0, .ref 76), (1, .int x1), (2, .int 0)]) (dcd d_m_steps_0 19 rfl) cv_m_tell k_m_159 ⟨by decide, by decide⟩ ok_76 rfl (Nat.le_of_ble_eq_true rfl) (Nat.le_of_ble_eq_true rfl) rfl rfl (sp_m_tell e3) ?_
    rintro _ _ ⟨rfl, rfl⟩
    refine ws_iload_n 3 (dcd d_m_steps_0 20 rfl) rfl ?_
    refine ws_aload_n 0 (dcd d_m_steps_0 21 rfl) rfl ?_
    refine ws_iload_n 1 (dcd d_m_steps_0 22 rfl) rfl ?_
    refine ws_iconst (v := 4) (dcd d_m_steps_0 23 rfl) (by decide) ?_
    obtain ⟨e4, h⟩ := h
    refine ws_callVI (o := 76) (As := [.int x1, .int 4]) (st := [.int x3, .int (mI u 83 ((5 * x1 + 0) : Int32).toNatClampNeg), .int x1, .ref 76, .int x2]) (la := [(0, .ref 76), (1, .int x1), (2, .int 4)]) (dcd d_m_steps_0 24 rfl) cv_m_tell k_m_159 ⟨by decide, by decide⟩ ok_76 rfl (Nat.le_of_ble_eq_true rfl) (Nat.le_of_ble_eq_true rfl) rfl rfl (sp_m_tell e4) ?_
    rintro _ _ ⟨rfl, rfl⟩
    refine ws_callVI (o := 76) (As := [.int x1, .int (mI u 83 ((5 * x1 + 0) : Int32).toNatClampNeg), .int x3, .int (mI u 83 ((5 * x1 + 4) : Int32).toNatClampNeg)]) (st := [.int x2]) (la := [(0, .ref 76), (1, .int x1), (2, .int (mI u 83 ((5 * x1 + 0) : Int32).toNatClampNeg)), (3, .int x3), (4, .int (mI u 83 ((5 * x1 + 4) : Int32).toNatClampNeg))]) (dcd d_m_steps_0 25 rfl) cv_m_fits k_m_254 ⟨by decide, by decide⟩ ok_76 rfl (Nat.le_of_ble_eq_true rfl) (Nat.le_of_ble_eq_true rfl) rfl rfl h (fun a5 u5 h => ?_)
    refine ws_if_eq (tgt := 52) (dcd d_m_steps_0 26 rfl) (by decide) (fun c6 => ?_) (fun c6 => ?_)
    · have h := h.1 c6
      refine ws_iconst (v := 0) (dcd d_m_steps_1 3 rfl) (by decide) ?_
      refine ws_ior (dcd d_m_steps_1 4 rfl) ?_
      refine ws_istore_n (l' := [(2, .int (x2 ||| 0)), (0, .ref 76), (1, .int x1), (3, .int x3)]) (dcd d_m_steps_1 5 rfl) (by decide) rfl ?_
      refine ws_iinc (v := 1) (l' := [(3, .int (x3 + 1)), (2, .int (x2 ||| 0)), (0, .ref 76), (1, .int x1)]) 3 (dcd d_m_steps_1 6 rfl) rfl (by decide) (by decide) rfl ?_
      refine ws_goto (tgt := 15) (dcd d_m_steps_1 7 rfl) (by decide) ?_
      exact ws_loc [2, 3, 1, 0] rfl h
    · have h := h.2 c6
      refine ws_iconst (v := 1) (dcd d_m_steps_0 27 rfl) (by decide) ?_
      refine ws_iload_n 3 (dcd d_m_steps_0 28 rfl) rfl ?_
      refine ws_bipush (v := 9) (dcd d_m_steps_0 29 rfl) (by decide) ?_
      refine ws_iadd (dcd d_m_steps_1 0 rfl) ?_
      refine ws_ishl (dcd d_m_steps_1 1 rfl) ?_
      refine ws_goto (tgt := 53) (dcd d_m_steps_1 2 rfl) (by decide) ?_
      refine ws_ior (dcd d_m_steps_1 4 rfl) ?_
      refine ws_istore_n (l' := [(2, .int (x2 ||| (1 <<< ((x3 + 9) &&& 31)))), (0, .ref 76), (1, .int x1), (3, .int x3)]) (dcd d_m_steps_1 5 rfl) (by decide) rfl ?_
      refine ws_iinc (v := 1) (l' := [(3, .int (x3 + 1)), (2, .int (x2 ||| (1 <<< ((x3 + 9) &&& 31)))), (0, .ref 76), (1, .int x1)]) 3 (dcd d_m_steps_1 6 rfl) rfl (by decide) (by decide) rfl ?_
      refine ws_goto (tgt := 15) (dcd d_m_steps_1 7 rfl) (by decide) ?_
      exact ws_loc [2, 3, 1, 0] rfl h
theorem sg_m_fits_0 {x1 : Int32} {x2 : Int32} {x3 : Int32} {x4 : Int32}  (h : Ws G m_fits 6 [(0, .ref 76), (1, .int x1), (2, .int x2), (3, .int x3), (4, .int x4), (5, .int 1), (6, .int 0)] [] u Q) : Ws G m_fits 0 [(0, .ref 76), (1, .int x1), (2, .int x2), (3, .int x3), (4, .int x4)] [] u Q := by
  refine ws_iconst (v := 1) (dcd d_m_fits_0 0 rfl) (by decide) ?_
  refine ws_istore (l' := [(5, .int 1), (0, .ref 76), (1, .int x1), (2, .int x2), (3, .int x3), (4, .int x4)]) (dcd d_m_fits_0 1 rfl) (by decide) rfl ?_
  refine ws_iconst (v := 0) (dcd d_m_fits_0 2 rfl) (by decide) ?_
  refine ws_istore (l' := [(6, .int 0), (5, .int 1), (0, .ref 76), (1, .int x1), (2, .int x2), (3, .int x3), (4, .int x4)]) (dcd d_m_fits_0 3 rfl) (by decide) rfl ?_
  exact ws_loc [2, 3, 4, 5, 6, 1, 0] rfl h
theorem sg_m_fits_6 {x1 : Int32} {x2 : Int32} {x3 : Int32} {x4 : Int32} {x5 : Int32} {x6 : Int32}  (h : (((mI u 76 28) ≤ x6 → (vb x5 ∧ Q (some (.int x5)) u)) ∧ (¬ ((mI u 76 28) ≤ x6) → ((x5 = 0 → Ws G m_fits 6 [(0, .ref 76), (1, .int x1), (2, .int x2), (3, .int x3), (4, .int x4), (5, .int 0), (6, .int (x6 + 1))] [] u Q) ∧ (¬ x5 = 0 → (vp_in ((3 * x6) + 1) 36 ∧ ((¬ (mI u 92 (((3 * x6) + 1) : Int32).toNatClampNeg) = x1 → Ws G m_fits 6 [(0, .ref 76), (1, .int x1), (2, .int x2), (3, .int x3), (4, .int x4), (5, .int 1), (6, .int (x6 + 1))] [] u Q) ∧ ((mI u 92 (((3 * x6) + 1) : Int32).toNatClampNeg) = x1 → (vp_in (5 * x1 + 1) 70 ∧ (vp_in (3 * x6) 36 ∧ Ws G m_plainBy 0 [(0, .ref 76), (1, .int (mI u 83 ((5 * x1 + 1) : Int32).toNatClampNeg)), (2, .int x2), (3, .int x3), (4, .int x4), (5, .long 0), (7, .long ((mI u 92 ((3 * x6) : Int32).toNatClampNeg) : Int32).toInt64)] [] u (RI fun a7 u7 => (vp_in ((3 * x6) + 2) 36 ∧ ((¬ a7 = (mI u7 92 (((3 * x6) + 2) : Int32).toNatClampNeg) → Ws G m_fits 6 [(0, .ref 76), (1, .int x1), (2, .int x2), (3, .int x3), (4, .int x4), (5, .int 0), (6, .int (x6 + 1))] [] u7 Q) ∧ (a7 = (mI u7 92 (((3 * x6) + 2) : Int32).toNatClampNeg) → Ws G m_fits 6 [(0, .ref 76), (1, .int x1), (2, .int x2), (3, .int x3), (4, .int x4), (5, .int 1), (6, .int (x6 + 1))] [] u7 Q)))))))))))))) : Ws G m_fits 6 [(0, .ref 76), (1, .int x1), (2, .int x2), (3, .int x3), (4, .int x4), (5, .int x5), (6, .int x6)] [] u Q := by
  refine ws_iload 6 (dcd d_m_fits_0 4 rfl) rfl ?_
  refine ws_aload_n 0 (dcd d_m_fits_0 5 rfl) rfl ?_
  refine ws_getI f_m_168 rfl (dcd d_m_fits_0 6 rfl) ok_76 ?_
  refine ws_icmp_ge (tgt := 87) (dcd d_m_fits_0 7 rfl) (by decide) (fun c1 => ?_) (fun c1 => ?_)
  · have h := h.1 c1
    refine ws_iload 5 (dcd d_m_fits_1 22 rfl) rfl ?_
    exact ws_iret (dcd d_m_fits_1 23 rfl) ⟨_, rfl, h.1⟩ h.2
  · have h := h.2 c1
    refine ws_iload 5 (dcd d_m_fits_0 8 rfl) rfl ?_
    refine ws_if_eq (tgt := 78) (dcd d_m_fits_0 9 rfl) (by decide) (fun c2 => ?_) (fun c2 => ?_)
    · have h := h.1 c2
      refine ws_iconst (v := 0) (dcd d_m_fits_1 18 rfl) (by decide) ?_
      refine ws_istore (l' := [(5, .int 0), (0, .ref 76), (1, .int x1), (2, .int x2), (3, .int x3), (4, .int x4), (6, .int x6)]) (dcd d_m_fits_1 19 rfl) (by decide) rfl ?_
      refine ws_iinc (v := 1) (l' := [(6, .int (x6 + 1)), (5, .int 0), (0, .ref 76), (1, .int x1), (2, .int x2), (3, .int x3), (4, .int x4)]) 6 (dcd d_m_fits_1 20 rfl) rfl (by decide) (by decide) rfl ?_
      refine ws_goto (tgt := 6) (dcd d_m_fits_1 21 rfl) (by decide) ?_
      exact ws_loc [2, 3, 4, 5, 6, 1, 0] rfl h
    · have h := h.2 c2
      refine ws_aload_n 0 (dcd d_m_fits_0 10 rfl) rfl ?_
      refine ws_getF (a := 92) f_m_59 rfl (dcd d_m_fits_0 11 rfl) ok_76 of_8_27 rfl ?_
      refine ws_iconst (v := 3) (dcd d_m_fits_0 12 rfl) (by decide) ?_
      refine ws_iload 6 (dcd d_m_fits_0 13 rfl) rfl ?_
      refine ws_imul (dcd d_m_fits_0 14 rfl) ?_
      refine ws_iconst (v := 1) (dcd d_m_fits_0 15 rfl) (by decide) ?_
      refine ws_iadd (dcd d_m_fits_0 16 rfl) ?_
      obtain ⟨e3, h⟩ := h
      refine ws_iald (L := 36) (dcd d_m_fits_0 17 rfl) (os_8_27 ok_76) (ol_8_27 ok_76) e3 ?_
      refine ws_iload_n 1 (dcd d_m_fits_0 18 rfl) rfl ?_
      refine ws_icmp_ne (tgt := 74) (dcd d_m_fits_0 19 rfl) (by decide) (fun c4 => ?_) (fun c4 => ?_)
      · have h := h.1 c4
        refine ws_iconst (v := 1) (dcd d_m_fits_1 16 rfl) (by decide) ?_
        refine ws_goto (tgt := 79) (dcd d_m_fits_1 17 rfl) (by decide) ?_
        refine ws_istore (l' := [(5, .int 1), (0, .ref 76), (1, .int x1), (2, .int x2), (3, .int x3), (4, .int x4), (6, .int x6)]) (dcd d_m_fits_1 19 rfl) (by decide) rfl ?_
        refine ws_iinc (v := 1) (l' := [(6, .int (x6 + 1)), (5, .int 1), (0, .ref 76), (1, .int x1), (2, .int x2), (3, .int x3), (4, .int x4)]) 6 (dcd d_m_fits_1 20 rfl) rfl (by decide) (by decide) rfl ?_
        refine ws_goto (tgt := 6) (dcd d_m_fits_1 21 rfl) (by decide) ?_
        exact ws_loc [2, 3, 4, 5, 6, 1, 0] rfl h
      · have h := h.2 c4
        refine ws_aload_n 0 (dcd d_m_fits_0 20 rfl) rfl ?_
        refine ws_aload_n 0 (dcd d_m_fits_0 21 rfl) rfl ?_
        refine ws_iload_n 1 (dcd d_m_fits_0 22 rfl) rfl ?_
        refine ws_iconst (v := 1) (dcd d_m_fits_0 23 rfl) (by decide) ?_
        obtain ⟨e5, h⟩ := h
        refine ws_callVI (o := 76) (As := [.int x1, .int 1]) (st := [.ref 76]) (la := [(0, .ref 76), (1, .int x1), (2, .int 1)]) (dcd d_m_fits_0 24 rfl) cv_m_tell k_m_159 ⟨by decide, by decide⟩ ok_76 rfl (Nat.le_of_ble_eq_true rfl) (Nat.le_of_ble_eq_true rfl) rfl rfl (sp_m_tell e5) ?_
        rintro _ _ ⟨rfl, rfl⟩
        refine ws_iload_n 2 (dcd d_m_fits_0 25 rfl) rfl ?_
        refine ws_iload_n 3 (dcd d_m_fits_0 26 rfl) rfl ?_
        refine ws_iload 4 (dcd d_m_fits_0 27 rfl) rfl ?_
        refine ws_lconst (v := 0) (dcd d_m_fits_0 28 rfl) (by decide) ?_
        refine ws_aload_n 0 (dcd d_m_fits_0 29 rfl) rfl ?_
        refine ws_getF (a := 92) f_m_59 rfl (dcd d_m_fits_1 0 rfl) ok_76 of_8_27 rfl ?_
        refine ws_iconst (v := 3) (dcd d_m_fits_1 1 rfl) (by decide) ?_
        refine ws_iload 6 (dcd d_m_fits_1 2 rfl) rfl ?_
        refine ws_imul (dcd d_m_fits_1 3 rfl) ?_
        obtain ⟨e6, h⟩ := h
        refine ws_iald (L := 36) (dcd d_m_fits_1 4 rfl) (os_8_27 ok_76) (ol_8_27 ok_76) e6 ?_
        refine ws_i2l (dcd d_m_fits_1 5 rfl) ?_
        refine ws_callVI (o := 76) (As := [.int (mI u 83 ((5 * x1 + 1) : Int32).toNatClampNeg), .int x2, .int x3, .int x4, .long 0, .long ((mI u 92 ((3 * x6) : Int32).toNatClampNeg) : Int32).toInt64]) (st := []) (la := [(0, .ref 76), (1, .int (mI u 83 ((5 * x1 + 1) : Int32).toNatClampNeg)), (2, .int x2), (3, .int x3), (4, .int x4), (5, .long 0), (7, .long ((mI u 92 ((3 * x6) : Int32).toNatClampNeg) : Int32).toInt64)]) (dcd d_m_fits_1 6 rfl) cv_m_plainBy k_m_222 ⟨by decide, by decide⟩ ok_76 rfl (Nat.le_of_ble_eq_true rfl) (Nat.le_of_ble_eq_true rfl) rfl rfl h (fun a7 u7 h => ?_)
        refine ws_aload_n 0 (dcd d_m_fits_1 7 rfl) rfl ?_
        refine ws_getF (a := 92) f_m_59 rfl (dcd d_m_fits_1 8 rfl) ok_76 of_8_27 rfl ?_
        refine ws_iconst (v := 3) (dcd d_m_fits_1 9 rfl) (by decide) ?_
        refine ws_iload 6 (dcd d_m_fits_1 10 rfl) rfl ?_
        refine ws_imul (dcd d_m_fits_1 11 rfl) ?_
        refine ws_iconst (v := 2) (dcd d_m_fits_1 12 rfl) (by decide) ?_
        refine ws_iadd (dcd d_m_fits_1 13 rfl) ?_
        obtain ⟨e8, h⟩ := h
        refine ws_iald (L := 36) (dcd d_m_fits_1 14 rfl) (os_8_27 ok_76) (ol_8_27 ok_76) e8 ?_
        refine ws_icmp_ne (tgt := 78) (dcd d_m_fits_1 15 rfl) (by decide) (fun c9 => ?_) (fun c9 => ?_)
        · have h := h.1 c9
          refine ws_iconst (v := 0) (dcd d_m_fits_1 18 rfl) (by decide) ?_
          refine ws_istore (l' := [(5, .int 0), (0, .ref 76), (1, .int x1), (2, .int x2), (3, .int x3), (4, .int x4), (6, .int x6)]) (dcd d_m_fits_1 19 rfl) (by decide) rfl ?_
          refine ws_iinc (v := 1) (l' := [(6, .int (x6 + 1)), (5, .int 0), (0, .ref 76), (1, .int x1), (2, .int x2), (3, .int x3), (4, .int x4)]) 6 (dcd d_m_fits_1 20 rfl) rfl (by decide) (by decide) rfl ?_
          refine ws_goto (tgt := 6) (dcd d_m_fits_1 21 rfl) (by decide) ?_
          exact ws_loc [2, 3, 4, 5, 6, 1, 0] rfl h
        · have h := h.2 c9
          refine ws_iconst (v := 1) (dcd d_m_fits_1 16 rfl) (by decide) ?_
          refine ws_goto (tgt := 79) (dcd d_m_fits_1 17 rfl) (by decide) ?_
          refine ws_istore (l' := [(5, .int 1), (0, .ref 76), (1, .int x1), (2, .int x2), (3, .int x3), (4, .int x4), (6, .int x6)]) (dcd d_m_fits_1 19 rfl) (by decide) rfl ?_
          refine ws_iinc (v := 1) (l' := [(6, .int (x6 + 1)), (5, .int 1), (0, .ref 76), (1, .int x1), (2, .int x2), (3, .int x3), (4, .int x4)]) 6 (dcd d_m_fits_1 20 rfl) rfl (by decide) (by decide) rfl ?_
          refine ws_goto (tgt := 6) (dcd d_m_fits_1 21 rfl) (by decide) ?_
          exact ws_loc [2, 3, 4, 5, 6, 1, 0] rfl h
theorem sg_m_kinds_0 {x1 : Int32}  (h : (((0 ≤ x1 ∧ x1 ≤ (mI u 76 11) - 1) → Ws G m_kinds 18 [(0, .ref 76), (1, .int x1), (2, .int (-9)), (3, .int 0), (4, .int 0)] [] u Q) ∧ (¬ (0 ≤ x1 ∧ x1 ≤ (mI u 76 11) - 1) → Q (some (.int (-1))) u))) : Ws G m_kinds 0 [(0, .ref 76), (1, .int x1)] [] u Q := by
  refine ws_aload_n 0 (dcd d_m_kinds_0 0 rfl) rfl ?_
  refine ws_iload_n 1 (dcd d_m_kinds_0 1 rfl) rfl ?_
  refine ws_callVI (o := 76) (As := [.int x1]) (st := []) (la := [(0, .ref 76), (1, .int x1)]) (dcd d_m_kinds_0 2 rfl) cv_m_isShop k_m_171 ⟨by decide, by decide⟩ ok_76 rfl (Nat.le_of_ble_eq_true rfl) (Nat.le_of_ble_eq_true rfl) rfl rfl sp_m_isShop ?_
  rintro _ _ ⟨rfl, ⟨rfl, c1⟩ | ⟨rfl, c1⟩⟩
  · have h := h.1 c1
    refine ws_if_ne (tgt := 10) (dcd d_m_kinds_0 3 rfl) (by decide) (fun _ => ?_) (fun c => absurd c (by decide))
    refine ws_bipush (v := (-9)) (dcd d_m_kinds_0 6 rfl) (by decide) ?_
    refine ws_istore_n (l' := [(2, .int (-9)), (0, .ref 76), (1, .int x1)]) (dcd d_m_kinds_0 7 rfl) (by decide) rfl ?_
    refine ws_iconst (v := 0) (dcd d_m_kinds_0 8 rfl) (by decide) ?_
    refine ws_istore_n (l' := [(3, .int 0), (2, .int (-9)), (0, .ref 76), (1, .int x1)]) (dcd d_m_kinds_0 9 rfl) (by decide) rfl ?_
    refine ws_iconst (v := 0) (dcd d_m_kinds_0 10 rfl) (by decide) ?_
    refine ws_istore (l' := [(4, .int 0), (3, .int 0), (2, .int (-9)), (0, .ref 76), (1, .int x1)]) (dcd d_m_kinds_0 11 rfl) (by decide) rfl ?_
    exact ws_loc [3, 4, 2, 1, 0] rfl h
  · have h := h.2 c1
    refine ws_if_ne (tgt := 10) (dcd d_m_kinds_0 3 rfl) (by decide) (fun c => absurd (show (0 : Int32) = 0 from by decide) c) (fun _ => ?_)
    refine ws_iconst (v := (-1)) (dcd d_m_kinds_0 4 rfl) (by decide) ?_
    exact ws_iret (dcd d_m_kinds_0 5 rfl) ⟨_, rfl, rfl⟩ h
theorem sg_m_kinds_18 {x1 : Int32} {x2 : Int32} {x3 : Int32} {x4 : Int32}  (h : ((5 < x4 → ((¬ x2 = (-9) → Q (some (.int x2)) (pI u 76 2 x3)) ∧ (x2 = (-9) → Q (some (.int (-9))) u))) ∧ (¬ (5 < x4) → ((¬ x4 = 0 → Ws G m_kinds 36 [(0, .ref 76), (1, .int x1), (2, .int x2), (3, .int x3), (4, .int x4), (5, .int 2)] [] u Q) ∧ (x4 = 0 → Ws G m_kinds 36 [(0, .ref 76), (1, .int x1), (2, .int x2), (3, .int x3), (4, .int x4), (5, .int 0)] [] u Q))))) : Ws G m_kinds 18 [(0, .ref 76), (1, .int x1), (2, .int x2), (3, .int x3), (4, .int x4)] [] u Q := by
  refine ws_iload 4 (dcd d_m_kinds_0 12 rfl) rfl ?_
  refine ws_iconst (v := 5) (dcd d_m_kinds_0 13 rfl) (by decide) ?_
  refine ws_icmp_gt (tgt := 128) (dcd d_m_kinds_0 14 rfl) (by decide) (fun c1 => ?_) (fun c1 => ?_)
  · have h := h.1 c1
    refine ws_iload_n 2 (dcd d_m_kinds_2 9 rfl) rfl ?_
    refine ws_bipush (v := (-9)) (dcd d_m_kinds_2 10 rfl) (by decide) ?_
    refine ws_icmp_ne (tgt := 139) (dcd d_m_kinds_2 11 rfl) (by decide) (fun c2 => ?_) (fun c2 => ?_)
    · have h := h.1 c2
      refine ws_aload_n 0 (dcd d_m_kinds_2 14 rfl) rfl ?_
      refine ws_iload_n 3 (dcd d_m_kinds_2 15 rfl) rfl ?_
      refine ws_iload_n 2 (dcd d_m_kinds_2 16 rfl) rfl ?_
      refine ws_callVI (o := 76) (As := [.int x3, .int x2]) (st := []) (la := [(0, .ref 76), (1, .int x3), (2, .int x2)]) (dcd d_m_kinds_2 17 rfl) cv_m_ask k_m_104 ⟨by decide, by decide⟩ ok_76 rfl (Nat.le_of_ble_eq_true rfl) (Nat.le_of_ble_eq_true rfl) rfl rfl sp_m_ask ?_
      rintro _ _ ⟨rfl, rfl⟩
      exact ws_iret (dcd d_m_kinds_2 18 rfl) ⟨_, rfl, rfl⟩ h
    · have h := h.2 c2
      refine ws_bipush (v := (-9)) (dcd d_m_kinds_2 12 rfl) (by decide) ?_
      refine ws_goto (tgt := 145) (dcd d_m_kinds_2 13 rfl) (by decide) ?_
      exact ws_iret (dcd d_m_kinds_2 18 rfl) ⟨_, rfl, rfl⟩ h
  · have h := h.2 c1
    refine ws_iload 4 (dcd d_m_kinds_0 15 rfl) rfl ?_
    refine ws_if_ne (tgt := 33) (dcd d_m_kinds_0 16 rfl) (by decide) (fun c3 => ?_) (fun c3 => ?_)
    · have h := h.1 c3
      refine ws_iconst (v := 2) (dcd d_m_kinds_0 19 rfl) (by decide) ?_
      refine ws_istore (l' := [(5, .int 2), (0, .ref 76), (1, .int x1), (2, .int x2), (3, .int x3), (4, .int x4)]) (dcd d_m_kinds_0 20 rfl) (by decide) rfl ?_
      exact ws_loc [1, 2, 3, 4, 5, 0] rfl h
    · have h := h.2 c3
      refine ws_iconst (v := 0) (dcd d_m_kinds_0 17 rfl) (by decide) ?_
      refine ws_goto (tgt := 34) (dcd d_m_kinds_0 18 rfl) (by decide) ?_
      refine ws_istore (l' := [(5, .int 0), (0, .ref 76), (1, .int x1), (2, .int x2), (3, .int x3), (4, .int x4)]) (dcd d_m_kinds_0 20 rfl) (by decide) rfl ?_
      exact ws_loc [1, 2, 3, 4, 5, 0] rfl h
theorem sg_m_kinds_36 {x1 : Int32} {x2 : Int32} {x3 : Int32} {x4 : Int32} {x5 : Int32}  (h : ((¬ x4 = 0 → ((9 < x5 → ((¬ x4 = 0 → Ws G m_kinds 18 [(0, .ref 76), (1, .int x1), (2, .int x2), (3, .int x3), (4, .int (x4 + 1))] [] u Q) ∧ (x4 = 0 → Ws G m_kinds 18 [(0, .ref 76), (1, .int x1), (2, .int x2), (3, .int x3), (4, .int 3)] [] u Q))) ∧ (¬ (9 < x5) → (vp_in (5 * x1 + 2) 70 ∧ Ws G m_fits 0 [(0, .ref 76), (1, .int x1), (2, .int x4), (3, .int (mI u 83 ((5 * x1 + 2) : Int32).toNatClampNeg)), (4, .int x5)] [] u (RI fun a5 u5 => ((a5 = 0 → ((a5 = 0 → Ws G m_kinds 36 [(0, .ref 76), (1, .int x1), (2, .int x2), (3, .int (x3 + 0)), (4, .int x4), (5, .int (x5 + 1))] [] u5 Q) ∧ (¬ a5 = 0 → Ws G m_kinds 36 [(0, .ref 76), (1, .int x1), (2, .int x2), (3, .int (x3 + 1)), (4, .int x4), (5, .int (x5 + 1))] [] u5 Q))) ∧ (¬ a5 = 0 → ((¬ x3 = 0 → ((a5 = 0 → Ws G m_kinds 36 [(0, .ref 76), (1, .int x1), (2, .int x2), (3, .int (x3 + 0)), (4, .int x4), (5, .int (x5 + 1))] [] u5 Q) ∧ (¬ a5 = 0 → Ws G m_kinds 36 [(0, .ref 76), (1, .int x1), (2, .int x2), (3, .int (x3 + 1)), (4, .int x4), (5, .int (x5 + 1))] [] u5 Q))) ∧ (x3 = 0 → ((a5 = 0 → Ws G m_kinds 36 [(0, .ref 76), (1, .int x1), (2, .int ((10 * x4) + x5)), (3, .int (x3 + 0)), (4, .int x4), (5, .int (x5 + 1))] [] u5 Q) ∧ (¬ a5 = 0 → Ws G m_kinds 36 [(0, .ref 76), (1, .int x1), (2, .int ((10 * x4) + x5)), (3, .int (x3 + 1)), (4, .int x4), (5, .int (x5 + 1))] [] u5 Q))))))))))) ∧ (x4 = 0 → ((0 < x5 → ((¬ x4 = 0 → Ws G m_kinds 18 [(0, .ref 76), (1, .int x1), (2, .int x2), (3, .int x3), (4, .int (x4 + 1))] [] u Q) ∧ (x4 = 0 → Ws G m_kinds 18 [(0, .ref 76), (1, .int x1), (2, .int x2), (3, .int x3), (4, .int 3)] [] u Q))) ∧ (¬ (0 < x5) → (vp_in (5 * x1 + 2) 70 ∧ Ws G m_fits 0 [(0, .ref 76), (1, .int x1), (2, .int x4), (3, .int (mI u 83 ((5 * x1 + 2) : Int32).toNatClampNeg)), (4, .int x5)] [] u (RI fun a14 u14 => ((a14 = 0 → ((a14 = 0 → Ws G m_kinds 36 [(0, .ref 76), (1, .int x1), (2, .int x2), (3, .int (x3 + 0)), (4, .int x4), (5, .int (x5 + 1))] [] u14 Q) ∧ (¬ a14 = 0 → Ws G m_kinds 36 [(0, .ref 76), (1, .int x1), (2, .int x2), (3, .int (x3 + 1)), (4, .int x4), (5, .int (x5 + 1))] [] u14 Q))) ∧ (¬ a14 = 0 → ((¬ x3 = 0 → ((a14 = 0 → Ws G m_kinds 36 [(0, .ref 76), (1, .int x1), (2, .int x2), (3, .int (x3 + 0)), (4, .int x4), (5, .int (x5 + 1))] [] u14 Q) ∧ (¬ a14 = 0 → Ws G m_kinds 36 [(0, .ref 76), (1, .int x1), (2, .int x2), (3, .int (x3 + 1)), (4, .int x4), (5, .int (x5 + 1))] [] u14 Q))) ∧ (x3 = 0 → ((a14 = 0 → Ws G m_kinds 36 [(0, .ref 76), (1, .int x1), (2, .int ((10 * x4) + x5)), (3, .int (x3 + 0)), (4, .int x4), (5, .int (x5 + 1))] [] u14 Q) ∧ (¬ a14 = 0 → Ws G m_kinds 36 [(0, .ref 76), (1, .int x1), (2, .int ((10 * x4) + x5)), (3, .int (x3 + 1)), (4, .int x4), (5, .int (x5 + 1))] [] u14 Q))))))))))))) : Ws G m_kinds 36 [(0, .ref 76), (1, .int x1), (2, .int x2), (3, .int x3), (4, .int x4), (5, .int x5)] [] u Q := by
  refine ws_iload 5 (dcd d_m_kinds_0 21 rfl) rfl ?_
  refine ws_iload 4 (dcd d_m_kinds_0 22 rfl) rfl ?_
  refine ws_if_ne (tgt := 47) (dcd d_m_kinds_0 23 rfl) (by decide) (fun c1 => ?_) (fun c1 => ?_)
  · have h := h.1 c1
    refine ws_bipush (v := 9) (dcd d_m_kinds_0 26 rfl) (by decide) ?_
    refine ws_icmp_gt (tgt := 110) (dcd d_m_kinds_0 27 rfl) (by decide) (fun c2 => ?_) (fun c2 => ?_)
    · have h := h.1 c2
      refine ws_iload 4 (dcd d_m_kinds_2 0 rfl) rfl ?_
      refine ws_if_ne (tgt := 119) (dcd d_m_kinds_2 1 rfl) (by decide) (fun c3 => ?_) (fun c3 => ?_)
      · have h := h.1 c3
        refine ws_iload 4 (dcd d_m_kinds_2 4 rfl) rfl ?_
        refine ws_iconst (v := 1) (dcd d_m_kinds_2 5 rfl) (by decide) ?_
        refine ws_iadd (dcd d_m_kinds_2 6 rfl) ?_
        refine ws_istore (l' := [(4, .int (x4 + 1)), (0, .ref 76), (1, .int x1), (2, .int x2), (3, .int x3), (5, .int x5)]) (dcd d_m_kinds_2 7 rfl) (by decide) rfl ?_
        refine ws_goto (tgt := 18) (dcd d_m_kinds_2 8 rfl) (by decide) ?_
        exact ws_loc [1, 2, 3, 4, 0] rfl h
      · have h := h.2 c3
        refine ws_iconst (v := 3) (dcd d_m_kinds_2 2 rfl) (by decide) ?_
        refine ws_goto (tgt := 123) (dcd d_m_kinds_2 3 rfl) (by decide) ?_
        refine ws_istore (l' := [(4, .int 3), (0, .ref 76), (1, .int x1), (2, .int x2), (3, .int x3), (5, .int x5)]) (dcd d_m_kinds_2 7 rfl) (by decide) rfl ?_
        refine ws_goto (tgt := 18) (dcd d_m_kinds_2 8 rfl) (by decide) ?_
        exact ws_loc [1, 2, 3, 4, 0] rfl h
    · have h := h.2 c2
      refine ws_aload_n 0 (dcd d_m_kinds_0 28 rfl) rfl ?_
      refine ws_iload_n 1 (dcd d_m_kinds_0 29 rfl) rfl ?_
      refine ws_iload 4 (dcd d_m_kinds_1 0 rfl) rfl ?_
      refine ws_aload_n 0 (dcd d_m_kinds_1 1 rfl) rfl ?_
      refine ws_iload_n 1 (dcd d_m_kinds_1 2 rfl) rfl ?_
      refine ws_iconst (v := 2) (dcd d_m_kinds_1 3 rfl) (by decide) ?_
      obtain ⟨e4, h⟩ := h
      refine ws_callVI (o := 76) (As := [.int x1, .int 2]) (st := [.int x4, .int x1, .ref 76]) (la := [(0, .ref 76), (1, .int x1), (2, .int 2)]) (dcd d_m_kinds_1 4 rfl) cv_m_tell k_m_159 ⟨by decide, by decide⟩ ok_76 rfl (Nat.le_of_ble_eq_true rfl) (Nat.le_of_ble_eq_true rfl) rfl rfl (sp_m_tell e4) ?_
      rintro _ _ ⟨rfl, rfl⟩
      refine ws_iload 5 (dcd d_m_kinds_1 5 rfl) rfl ?_
      refine ws_callVI (o := 76) (As := [.int x1, .int x4, .int (mI u 83 ((5 * x1 + 2) : Int32).toNatClampNeg), .int x5]) (st := []) (la := [(0, .ref 76), (1, .int x1), (2, .int x4), (3, .int (mI u 83 ((5 * x1 + 2) : Int32).toNatClampNeg)), (4, .int x5)]) (dcd d_m_kinds_1 6 rfl) cv_m_fits k_m_254 ⟨by decide, by decide⟩ ok_76 rfl (Nat.le_of_ble_eq_true rfl) (Nat.le_of_ble_eq_true rfl) rfl rfl h (fun a5 u5 h => ?_)
      refine ws_istore (l' := [(6, .int a5), (0, .ref 76), (1, .int x1), (2, .int x2), (3, .int x3), (4, .int x4), (5, .int x5)]) (dcd d_m_kinds_1 7 rfl) (by decide) rfl ?_
      refine ws_iload 0 (dcd d_m_kinds_1 8 rfl) rfl ?_
      refine ws_if_eq (tgt := 89) (dcd d_m_kinds_1 9 rfl) (by decide) (fun c6 => ?_) (fun c6 => ?_)
      · have h := h.1 c6
        refine ws_iload_n 3 (dcd d_m_kinds_1 18 rfl) rfl ?_
        refine ws_istore_n (l' := [(2, .int x2), (6, .int a5), (0, .ref 76), (1, .int x1), (3, .int x3), (4, .int x4), (5, .int x5)]) (dcd d_m_kinds_1 19 rfl) (by decide) rfl ?_
        refine ws_iload_n 4 (dcd d_m_kinds_1 20 rfl) rfl ?_
        refine ws_iload 1 (dcd d_m_kinds_1 21 rfl) rfl ?_
        refine ws_if_eq (tgt := 101) (dcd d_m_kinds_1 22 rfl) (by decide) (fun c7 => ?_) (fun c7 => ?_)
        · have h := h.1 c7
          refine ws_iconst (v := 0) (dcd d_m_kinds_1 25 rfl) (by decide) ?_
          refine ws_iadd (dcd d_m_kinds_1 26 rfl) ?_
          refine ws_istore_n (l' := [(3, .int (x3 + 0)), (2, .int x2), (6, .int a5), (0, .ref 76), (1, .int x1), (4, .int x4), (5, .int x5)]) (dcd d_m_kinds_1 27 rfl) (by decide) rfl ?_
          refine ws_iinc (v := 1) (l' := [(5, .int (x5 + 1)), (3, .int (x3 + 0)), (2, .int x2), (6, .int a5), (0, .ref 76), (1, .int x1), (4, .int x4)]) 6 (dcd d_m_kinds_1 28 rfl) rfl (by decide) (by decide) rfl ?_
          refine ws_goto (tgt := 36) (dcd d_m_kinds_1 29 rfl) (by decide) ?_
          exact ws_loc [4, 5, 2, 1, 6, 0] rfl h
        · have h := h.2 c7
          refine ws_iconst (v := 1) (dcd d_m_kinds_1 23 rfl) (by decide) ?_
          refine ws_goto (tgt := 102) (dcd d_m_kinds_1 24 rfl) (by decide) ?_
          refine ws_iadd (dcd d_m_kinds_1 26 rfl) ?_
          refine ws_istore_n (l' := [(3, .int (x3 + 1)), (2, .int x2), (6, .int a5), (0, .ref 76), (1, .int x1), (4, .int x4), (5, .int x5)]) (dcd d_m_kinds_1 27 rfl) (by decide) rfl ?_
          refine ws_iinc (v := 1) (l' := [(5, .int (x5 + 1)), (3, .int (x3 + 1)), (2, .int x2), (6, .int a5), (0, .ref 76), (1, .int x1), (4, .int x4)]) 6 (dcd d_m_kinds_1 28 rfl) rfl (by decide) (by decide) rfl ?_
          refine ws_goto (tgt := 36) (dcd d_m_kinds_1 29 rfl) (by decide) ?_
          exact ws_loc [4, 5, 2, 1, 6, 0] rfl h
      · have h := h.2 c6
        refine ws_iload_n 4 (dcd d_m_kinds_1 10 rfl) rfl ?_
        refine ws_if_ne (tgt := 89) (dcd d_m_kinds_1 11 rfl) (by decide) (fun c8 => ?_) (fun c8 => ?_)
        · have h := h.1 c8
          refine ws_iload_n 3 (dcd d_m_kinds_1 18 rfl) rfl ?_
          refine ws_istore_n (l' := [(2, .int x2), (6, .int a5), (0, .ref 76), (1, .int x1), (3, .int x3), (4, .int x4), (5, .int x5)]) (dcd d_m_kinds_1 19 rfl) (by decide) rfl ?_
          refine ws_iload_n 4 (dcd d_m_kinds_1 20 rfl) rfl ?_
          refine ws_iload 1 (dcd d_m_kinds_1 21 rfl) rfl ?_
          refine ws_if_eq (tgt := 101) (dcd d_m_kinds_1 22 rfl) (by decide) (fun c9 => ?_) (fun c9 => ?_)
          · have h := h.1 c9
            refine ws_iconst (v := 0) (dcd d_m_kinds_1 25 rfl) (by decide) ?_
            refine ws_iadd (dcd d_m_kinds_1 26 rfl) ?_
            refine ws_istore_n (l' := [(3, .int (x3 + 0)), (2, .int x2), (6, .int a5), (0, .ref 76), (1, .int x1), (4, .int x4), (5, .int x5)]) (dcd d_m_kinds_1 27 rfl) (by decide) rfl ?_
            refine ws_iinc (v := 1) (l' := [(5, .int (x5 + 1)), (3, .int (x3 + 0)), (2, .int x2), (6, .int a5), (0, .ref 76), (1, .int x1), (4, .int x4)]) 6 (dcd d_m_kinds_1 28 rfl) rfl (by decide) (by decide) rfl ?_
            refine ws_goto (tgt := 36) (dcd d_m_kinds_1 29 rfl) (by decide) ?_
            exact ws_loc [4, 5, 2, 1, 6, 0] rfl h
          · have h := h.2 c9
            refine ws_iconst (v := 1) (dcd d_m_kinds_1 23 rfl) (by decide) ?_
            refine ws_goto (tgt := 102) (dcd d_m_kinds_1 24 rfl) (by decide) ?_
            refine ws_iadd (dcd d_m_kinds_1 26 rfl) ?_
            refine ws_istore_n (l' := [(3, .int (x3 + 1)), (2, .int x2), (6, .int a5), (0, .ref 76), (1, .int x1), (4, .int x4), (5, .int x5)]) (dcd d_m_kinds_1 27 rfl) (by decide) rfl ?_
            refine ws_iinc (v := 1) (l' := [(5, .int (x5 + 1)), (3, .int (x3 + 1)), (2, .int x2), (6, .int a5), (0, .ref 76), (1, .int x1), (4, .int x4)]) 6 (dcd d_m_kinds_1 28 rfl) rfl (by decide) (by decide) rfl ?_
            refine ws_goto (tgt := 36) (dcd d_m_kinds_1 29 rfl) (by decide) ?_
            exact ws_loc [4, 5, 2, 1, 6, 0] rfl h
        · have h := h.2 c8
          refine ws_bipush (v := 10) (dcd d_m_kinds_1 12 rfl) (by decide) ?_
          refine ws_iload 5 (dcd d_m_kinds_1 13 rfl) rfl ?_
          refine ws_imul (dcd d_m_kinds_1 14 rfl) ?_
          refine ws_iload 6 (dcd d_m_kinds_1 15 rfl) rfl ?_
          refine ws_iadd (dcd d_m_kinds_1 16 rfl) ?_
          refine ws_goto (tgt := 90) (dcd d_m_kinds_1 17 rfl) (by decide) ?_
          refine ws_istore_n (l' := [(2, .int ((10 * x4) + x5)), (6, .int a5), (0, .ref 76), (1, .int x1), (3, .int x3), (4, .int x4), (5, .int x5)]) (dcd d_m_kinds_1 19 rfl) (by decide) rfl ?_
          refine ws_iload_n 4 (dcd d_m_kinds_1 20 rfl) rfl ?_
          refine ws_iload 1 (dcd d_m_kinds_1 21 rfl) rfl ?_
          refine ws_if_eq (tgt := 101) (dcd d_m_kinds_1 22 rfl) (by decide) (fun c10 => ?_) (fun c10 => ?_)
          · have h := h.1 c10
            refine ws_iconst (v := 0) (dcd d_m_kinds_1 25 rfl) (by decide) ?_
            refine ws_iadd (dcd d_m_kinds_1 26 rfl) ?_
            refine ws_istore_n (l' := [(3, .int (x3 + 0)), (2, .int ((10 * x4) + x5)), (6, .int a5), (0, .ref 76), (1, .int x1), (4, .int x4), (5, .int x5)]) (dcd d_m_kinds_1 27 rfl) (by decide) rfl ?_
            refine ws_iinc (v := 1) (l' := [(5, .int (x5 + 1)), (3, .int (x3 + 0)), (2, .int ((10 * x4) + x5)), (6, .int a5), (0, .ref 76), (1, .int x1), (4, .int x4)]) 6 (dcd d_m_kinds_1 28 rfl) rfl (by decide) (by decide) rfl ?_
            refine ws_goto (tgt := 36) (dcd d_m_kinds_1 29 rfl) (by decide) ?_
            exact ws_loc [4, 5, 2, 1, 6, 0] rfl h
          · have h := h.2 c10
            refine ws_iconst (v := 1) (dcd d_m_kinds_1 23 rfl) (by decide) ?_
            refine ws_goto (tgt := 102) (dcd d_m_kinds_1 24 rfl) (by decide) ?_
            refine ws_iadd (dcd d_m_kinds_1 26 rfl) ?_
            refine ws_istore_n (l' := [(3, .int (x3 + 1)), (2, .int ((10 * x4) + x5)), (6, .int a5), (0, .ref 76), (1, .int x1), (4, .int x4), (5, .int x5)]) (dcd d_m_kinds_1 27 rfl) (by decide) rfl ?_
            refine ws_iinc (v := 1) (l' := [(5, .int (x5 + 1)), (3, .int (x3 + 1)), (2, .int ((10 * x4) + x5)), (6, .int a5), (0, .ref 76), (1, .int x1), (4, .int x4)]) 6 (dcd d_m_kinds_1 28 rfl) rfl (by decide) (by decide) rfl ?_
            refine ws_goto (tgt := 36) (dcd d_m_kinds_1 29 rfl) (by decide) ?_
            exact ws_loc [4, 5, 2, 1, 6, 0] rfl h
  · have h := h.2 c1
    refine ws_iconst (v := 0) (dcd d_m_kinds_0 24 rfl) (by decide) ?_
    refine ws_goto (tgt := 49) (dcd d_m_kinds_0 25 rfl) (by decide) ?_
    refine ws_icmp_gt (tgt := 110) (dcd d_m_kinds_0 27 rfl) (by decide) (fun c11 => ?_) (fun c11 => ?_)
    · have h := h.1 c11
      refine ws_iload 4 (dcd d_m_kinds_2 0 rfl) rfl ?_
      refine ws_if_ne (tgt := 119) (dcd d_m_kinds_2 1 rfl) (by decide) (fun c12 => ?_) (fun c12 => ?_)
      · have h := h.1 c12
        refine ws_iload 4 (dcd d_m_kinds_2 4 rfl) rfl ?_
        refine ws_iconst (v := 1) (dcd d_m_kinds_2 5 rfl) (by decide) ?_
        refine ws_iadd (dcd d_m_kinds_2 6 rfl) ?_
        refine ws_istore (l' := [(4, .int (x4 + 1)), (0, .ref 76), (1, .int x1), (2, .int x2), (3, .int x3), (5, .int x5)]) (dcd d_m_kinds_2 7 rfl) (by decide) rfl ?_
        refine ws_goto (tgt := 18) (dcd d_m_kinds_2 8 rfl) (by decide) ?_
        exact ws_loc [1, 2, 3, 4, 0] rfl h
      · have h := h.2 c12
        refine ws_iconst (v := 3) (dcd d_m_kinds_2 2 rfl) (by decide) ?_
        refine ws_goto (tgt := 123) (dcd d_m_kinds_2 3 rfl) (by decide) ?_
        refine ws_istore (l' := [(4, .int 3), (0, .ref 76), (1, .int x1), (2, .int x2), (3, .int x3), (5, .int x5)]) (dcd d_m_kinds_2 7 rfl) (by decide) rfl ?_
        refine ws_goto (tgt := 18) (dcd d_m_kinds_2 8 rfl) (by decide) ?_
        exact ws_loc [1, 2, 3, 4, 0] rfl h
    · have h := h.2 c11
      refine ws_aload_n 0 (dcd d_m_kinds_0 28 rfl) rfl ?_
      refine ws_iload_n 1 (dcd d_m_kinds_0 29 rfl) rfl ?_
      refine ws_iload 4 (dcd d_m_kinds_1 0 rfl) rfl ?_
      refine ws_aload_n 0 (dcd d_m_kinds_1 1 rfl) rfl ?_
      refine ws_iload_n 1 (dcd d_m_kinds_1 2 rfl) rfl ?_
      refine ws_iconst (v := 2) (dcd d_m_kinds_1 3 rfl) (by decide) ?_
      obtain ⟨e13, h⟩ := h
      refine ws_callVI (o := 76) (As := [.int x1, .int 2]) (st := [.int x4, .int x1, .ref 76]) (la := [(0, .ref 76), (1, .int x1), (2, .int 2)]) (dcd d_m_kinds_1 4 rfl) cv_m_tell k_m_159 ⟨by decide, by decide⟩ ok_76 rfl (Nat.le_of_ble_eq_true rfl) (Nat.le_of_ble_eq_true rfl) rfl rfl (sp_m_tell e13) ?_
      rintro _ _ ⟨rfl, rfl⟩
      refine ws_iload 5 (dcd d_m_kinds_1 5 rfl) rfl ?_
      refine ws_callVI (o := 76) (As := [.int x1, .int x4, .int (mI u 83 ((5 * x1 + 2) : Int32).toNatClampNeg), .int x5]) (st := []) (la := [(0, .ref 76), (1, .int x1), (2, .int x4), (3, .int (mI u 83 ((5 * x1 + 2) : Int32).toNatClampNeg)), (4, .int x5)]) (dcd d_m_kinds_1 6 rfl) cv_m_fits k_m_254 ⟨by decide, by decide⟩ ok_76 rfl (Nat.le_of_ble_eq_true rfl) (Nat.le_of_ble_eq_true rfl) rfl rfl h (fun a14 u14 h => ?_)
      refine ws_istore (l' := [(6, .int a14), (0, .ref 76), (1, .int x1), (2, .int x2), (3, .int x3), (4, .int x4), (5, .int x5)]) (dcd d_m_kinds_1 7 rfl) (by decide) rfl ?_
      refine ws_iload 0 (dcd d_m_kinds_1 8 rfl) rfl ?_
      refine ws_if_eq (tgt := 89) (dcd d_m_kinds_1 9 rfl) (by decide) (fun c15 => ?_) (fun c15 => ?_)
      · have h := h.1 c15
        refine ws_iload_n 3 (dcd d_m_kinds_1 18 rfl) rfl ?_
        refine ws_istore_n (l' := [(2, .int x2), (6, .int a14), (0, .ref 76), (1, .int x1), (3, .int x3), (4, .int x4), (5, .int x5)]) (dcd d_m_kinds_1 19 rfl) (by decide) rfl ?_
        refine ws_iload_n 4 (dcd d_m_kinds_1 20 rfl) rfl ?_
        refine ws_iload 1 (dcd d_m_kinds_1 21 rfl) rfl ?_
        refine ws_if_eq (tgt := 101) (dcd d_m_kinds_1 22 rfl) (by decide) (fun c16 => ?_) (fun c16 => ?_)
        · have h := h.1 c16
          refine ws_iconst (v := 0) (dcd d_m_kinds_1 25 rfl) (by decide) ?_
          refine ws_iadd (dcd d_m_kinds_1 26 rfl) ?_
          refine ws_istore_n (l' := [(3, .int (x3 + 0)), (2, .int x2), (6, .int a14), (0, .ref 76), (1, .int x1), (4, .int x4), (5, .int x5)]) (dcd d_m_kinds_1 27 rfl) (by decide) rfl ?_
          refine ws_iinc (v := 1) (l' := [(5, .int (x5 + 1)), (3, .int (x3 + 0)), (2, .int x2), (6, .int a14), (0, .ref 76), (1, .int x1), (4, .int x4)]) 6 (dcd d_m_kinds_1 28 rfl) rfl (by decide) (by decide) rfl ?_
          refine ws_goto (tgt := 36) (dcd d_m_kinds_1 29 rfl) (by decide) ?_
          exact ws_loc [4, 5, 2, 1, 6, 0] rfl h
        · have h := h.2 c16
          refine ws_iconst (v := 1) (dcd d_m_kinds_1 23 rfl) (by decide) ?_
          refine ws_goto (tgt := 102) (dcd d_m_kinds_1 24 rfl) (by decide) ?_
          refine ws_iadd (dcd d_m_kinds_1 26 rfl) ?_
          refine ws_istore_n (l' := [(3, .int (x3 + 1)), (2, .int x2), (6, .int a14), (0, .ref 76), (1, .int x1), (4, .int x4), (5, .int x5)]) (dcd d_m_kinds_1 27 rfl) (by decide) rfl ?_
          refine ws_iinc (v := 1) (l' := [(5, .int (x5 + 1)), (3, .int (x3 + 1)), (2, .int x2), (6, .int a14), (0, .ref 76), (1, .int x1), (4, .int x4)]) 6 (dcd d_m_kinds_1 28 rfl) rfl (by decide) (by decide) rfl ?_
          refine ws_goto (tgt := 36) (dcd d_m_kinds_1 29 rfl) (by decide) ?_
          exact ws_loc [4, 5, 2, 1, 6, 0] rfl h
      · have h := h.2 c15
        refine ws_iload_n 4 (dcd d_m_kinds_1 10 rfl) rfl ?_
        refine ws_if_ne (tgt := 89) (dcd d_m_kinds_1 11 rfl) (by decide) (fun c17 => ?_) (fun c17 => ?_)
        · have h := h.1 c17
          refine ws_iload_n 3 (dcd d_m_kinds_1 18 rfl) rfl ?_
          refine ws_istore_n (l' := [(2, .int x2), (6, .int a14), (0, .ref 76), (1, .int x1), (3, .int x3), (4, .int x4), (5, .int x5)]) (dcd d_m_kinds_1 19 rfl) (by decide) rfl ?_
          refine ws_iload_n 4 (dcd d_m_kinds_1 20 rfl) rfl ?_
          refine ws_iload 1 (dcd d_m_kinds_1 21 rfl) rfl ?_
          refine ws_if_eq (tgt := 101) (dcd d_m_kinds_1 22 rfl) (by decide) (fun c18 => ?_) (fun c18 => ?_)
          · have h := h.1 c18
            refine ws_iconst (v := 0) (dcd d_m_kinds_1 25 rfl) (by decide) ?_
            refine ws_iadd (dcd d_m_kinds_1 26 rfl) ?_
            refine ws_istore_n (l' := [(3, .int (x3 + 0)), (2, .int x2), (6, .int a14), (0, .ref 76), (1, .int x1), (4, .int x4), (5, .int x5)]) (dcd d_m_kinds_1 27 rfl) (by decide) rfl ?_
            refine ws_iinc (v := 1) (l' := [(5, .int (x5 + 1)), (3, .int (x3 + 0)), (2, .int x2), (6, .int a14), (0, .ref 76), (1, .int x1), (4, .int x4)]) 6 (dcd d_m_kinds_1 28 rfl) rfl (by decide) (by decide) rfl ?_
            refine ws_goto (tgt := 36) (dcd d_m_kinds_1 29 rfl) (by decide) ?_
            exact ws_loc [4, 5, 2, 1, 6, 0] rfl h
          · have h := h.2 c18
            refine ws_iconst (v := 1) (dcd d_m_kinds_1 23 rfl) (by decide) ?_
            refine ws_goto (tgt := 102) (dcd d_m_kinds_1 24 rfl) (by decide) ?_
            refine ws_iadd (dcd d_m_kinds_1 26 rfl) ?_
            refine ws_istore_n (l' := [(3, .int (x3 + 1)), (2, .int x2), (6, .int a14), (0, .ref 76), (1, .int x1), (4, .int x4), (5, .int x5)]) (dcd d_m_kinds_1 27 rfl) (by decide) rfl ?_
            refine ws_iinc (v := 1) (l' := [(5, .int (x5 + 1)), (3, .int (x3 + 1)), (2, .int x2), (6, .int a14), (0, .ref 76), (1, .int x1), (4, .int x4)]) 6 (dcd d_m_kinds_1 28 rfl) rfl (by decide) (by decide) rfl ?_
            refine ws_goto (tgt := 36) (dcd d_m_kinds_1 29 rfl) (by decide) ?_
            exact ws_loc [4, 5, 2, 1, 6, 0] rfl h
        · have h := h.2 c17
          refine ws_bipush (v := 10) (dcd d_m_kinds_1 12 rfl) (by decide) ?_
          refine ws_iload 5 (dcd d_m_kinds_1 13 rfl) rfl ?_
          refine ws_imul (dcd d_m_kinds_1 14 rfl) ?_
          refine ws_iload 6 (dcd d_m_kinds_1 15 rfl) rfl ?_
          refine ws_iadd (dcd d_m_kinds_1 16 rfl) ?_
          refine ws_goto (tgt := 90) (dcd d_m_kinds_1 17 rfl) (by decide) ?_
          refine ws_istore_n (l' := [(2, .int ((10 * x4) + x5)), (6, .int a14), (0, .ref 76), (1, .int x1), (3, .int x3), (4, .int x4), (5, .int x5)]) (dcd d_m_kinds_1 19 rfl) (by decide) rfl ?_
          refine ws_iload_n 4 (dcd d_m_kinds_1 20 rfl) rfl ?_
          refine ws_iload 1 (dcd d_m_kinds_1 21 rfl) rfl ?_
          refine ws_if_eq (tgt := 101) (dcd d_m_kinds_1 22 rfl) (by decide) (fun c19 => ?_) (fun c19 => ?_)
          · have h := h.1 c19
            refine ws_iconst (v := 0) (dcd d_m_kinds_1 25 rfl) (by decide) ?_
            refine ws_iadd (dcd d_m_kinds_1 26 rfl) ?_
            refine ws_istore_n (l' := [(3, .int (x3 + 0)), (2, .int ((10 * x4) + x5)), (6, .int a14), (0, .ref 76), (1, .int x1), (4, .int x4), (5, .int x5)]) (dcd d_m_kinds_1 27 rfl) (by decide) rfl ?_
            refine ws_iinc (v := 1) (l' := [(5, .int (x5 + 1)), (3, .int (x3 + 0)), (2, .int ((10 * x4) + x5)), (6, .int a14), (0, .ref 76), (1, .int x1), (4, .int x4)]) 6 (dcd d_m_kinds_1 28 rfl) rfl (by decide) (by decide) rfl ?_
            refine ws_goto (tgt := 36) (dcd d_m_kinds_1 29 rfl) (by decide) ?_
            exact ws_loc [4, 5, 2, 1, 6, 0] rfl h
          · have h := h.2 c19
            refine ws_iconst (v := 1) (dcd d_m_kinds_1 23 rfl) (by decide) ?_
            refine ws_goto (tgt := 102) (dcd d_m_kinds_1 24 rfl) (by decide) ?_
            refine ws_iadd (dcd d_m_kinds_1 26 rfl) ?_
            refine ws_istore_n (l' := [(3, .int (x3 + 1)), (2, .int ((10 * x4) + x5)), (6, .int a14), (0, .ref 76), (1, .int x1), (4, .int x4), (5, .int x5)]) (dcd d_m_kinds_1 27 rfl) (by decide) rfl ?_
            refine ws_iinc (v := 1) (l' := [(5, .int (x5 + 1)), (3, .int (x3 + 1)), (2, .int ((10 * x4) + x5)), (6, .int a14), (0, .ref 76), (1, .int x1), (4, .int x4)]) 6 (dcd d_m_kinds_1 28 rfl) rfl (by decide) (by decide) rfl ?_
            refine ws_goto (tgt := 36) (dcd d_m_kinds_1 29 rfl) (by decide) ?_
            exact ws_loc [4, 5, 2, 1, 6, 0] rfl h
theorem sg_m_rent_0 {x1 : Int32} {x2 : Int32} {x3 : Int32}  (h : (((0 ≤ x1 ∧ x1 ≤ 5) → (((0 ≤ x2 ∧ x2 ≤ (mI u 76 11) - 1) → (((1 ≤ x3 ∧ x3 ≤ 60) → Ws G m_askedRents 0 [(0, .ref 76), (1, .int x1)] [] u (RI fun a7 u7 => ((0 ≤ a7 → Ws G m_setRents 0 [(0, .ref 76), (1, .int x1), (2, .int x3)] [] u7 (RV fun u9 => (vp_in x2 7 ∧ Q (some (.int (mI u9 93 (x2 : Int32).toNatClampNeg))) u9))) ∧ (¬ (0 ≤ a7) → Q (some (.int a7)) u7)))) ∧ (¬ (1 ≤ x3 ∧ x3 ≤ 60) → Q (some (.int (-1))) u))) ∧ (¬ (0 ≤ x2 ∧ x2 ≤ (mI u 76 11) - 1) → Q (some (.int (-1))) u))) ∧ (¬ (0 ≤ x1 ∧ x1 ≤ 5) → Q (some (.int (-1))) u))) : Ws G m_rent 0 [(0, .ref 76), (1, .int x1), (2, .int x2), (3, .int x3)] [] u Q := by
  refine ws_iload_n 1 (dcd d_m_rent_0 0 rfl) rfl ?_
  refine ws_callSI (As := [.int x1]) (st := []) (la := [(0, .int x1)]) (dcd d_m_rent_0 1 rfl) cs_m_isRow k_m_82 ⟨by decide, by decide⟩ rfl (Nat.le_of_ble_eq_true rfl) (Nat.le_of_ble_eq_true rfl) rfl rfl sp_m_isRow ?_
  rintro _ _ ⟨rfl, ⟨rfl, c1⟩ | ⟨rfl, c1⟩⟩
  · have h := h.1 c1
    refine ws_if_eq (tgt := 25) (dcd d_m_rent_0 2 rfl) (by decide) (fun c => absurd c (by decide)) (fun _ => ?_)
    refine ws_aload_n 0 (dcd d_m_rent_0 3 rfl) rfl ?_
    refine ws_iload_n 2 (dcd d_m_rent_0 4 rfl) rfl ?_
    refine ws_callVI (o := 76) (As := [.int x2]) (st := []) (la := [(0, .ref 76), (1, .int x2)]) (dcd d_m_rent_0 5 rfl) cv_m_isShop k_m_171 ⟨by decide, by decide⟩ ok_76 rfl (Nat.le_of_ble_eq_true rfl) (Nat.le_of_ble_eq_true rfl) rfl rfl sp_m_isShop ?_
    rintro _ _ ⟨rfl, ⟨rfl, c3⟩ | ⟨rfl, c3⟩⟩
    · have h := h.1 c3
      refine ws_if_eq (tgt := 25) (dcd d_m_rent_0 6 rfl) (by decide) (fun c => absurd c (by decide)) (fun _ => ?_)
      refine ws_iload_n 3 (dcd d_m_rent_0 7 rfl) rfl ?_
      refine ws_iconst (v := 1) (dcd d_m_rent_0 8 rfl) (by decide) ?_
      refine ws_bipush (v := 60) (dcd d_m_rent_0 9 rfl) (by decide) ?_
      refine ws_callSI (As := [.int x3, .int 1, .int 60]) (st := []) (la := [(0, .int x3), (1, .int 1), (2, .int 60)]) (dcd d_m_rent_0 10 rfl) cs_m_in k_m_78 ⟨by decide, by decide⟩ rfl (Nat.le_of_ble_eq_true rfl) (Nat.le_of_ble_eq_true rfl) rfl rfl sp_m_in ?_
      rintro _ _ ⟨rfl, ⟨rfl, c5⟩ | ⟨rfl, c5⟩⟩
      · have h := h.1 c5
        refine ws_if_ne (tgt := 27) (dcd d_m_rent_0 11 rfl) (by decide) (fun _ => ?_) (fun c => absurd c (by decide))
        refine ws_aload_n 0 (dcd d_m_rent_0 14 rfl) rfl ?_
        refine ws_iload_n 1 (dcd d_m_rent_0 15 rfl) rfl ?_
        refine ws_callVI (o := 76) (As := [.int x1]) (st := []) (la := [(0, .ref 76), (1, .int x1)]) (dcd d_m_rent_0 16 rfl) cv_m_askedRents k_m_258 ⟨by decide, by decide⟩ ok_76 rfl (Nat.le_of_ble_eq_true rfl) (Nat.le_of_ble_eq_true rfl) rfl rfl h (fun a7 u7 h => ?_)
        refine ws_istore (l' := [(4, .int a7), (0, .ref 76), (1, .int x1), (2, .int x2), (3, .int x3)]) (dcd d_m_rent_0 17 rfl) (by decide) rfl ?_
        refine ws_iload 0 (dcd d_m_rent_0 18 rfl) rfl ?_
        refine ws_if_ge (tgt := 42) (dcd d_m_rent_0 19 rfl) (by decide) (fun c8 => ?_) (fun c8 => ?_)
        · have h := h.1 c8
          refine ws_aload_n 1 (dcd d_m_rent_0 22 rfl) rfl ?_
          refine ws_iload_n 2 (dcd d_m_rent_0 23 rfl) rfl ?_
          refine ws_iload_n 4 (dcd d_m_rent_0 24 rfl) rfl ?_
          refine ws_callVV (o := 76) (As := [.int x1, .int x3]) (st := []) (la := [(0, .ref 76), (1, .int x1), (2, .int x3)]) (dcd d_m_rent_0 25 rfl) cv_m_setRents k_m_261 ⟨by decide, by decide⟩ ok_76 rfl (Nat.le_of_ble_eq_true rfl) (Nat.le_of_ble_eq_true rfl) rfl rfl h (fun u9 h => ?_)
          refine ws_aload_n 1 (dcd d_m_rent_0 26 rfl) rfl ?_
          refine ws_getF (a := 93) f_m_62 rfl (dcd d_m_rent_0 27 rfl) ok_76 of_8_29 rfl ?_
          refine ws_iload_n 3 (dcd d_m_rent_0 28 rfl) rfl ?_
          obtain ⟨e10, h⟩ := h
          refine ws_iald (L := 7) (dcd d_m_rent_0 29 rfl) (os_8_29 ok_76) (ol_8_29 ok_76) e10 ?_
          exact ws_iret (dcd d_m_rent_1 0 rfl) ⟨_, rfl, rfl⟩ h
        · have h := h.2 c8
          refine ws_iload 0 (dcd d_m_rent_0 20 rfl) rfl ?_
          exact ws_iret (dcd d_m_rent_0 21 rfl) ⟨_, rfl, rfl⟩ h
      · have h := h.2 c5
        refine ws_if_ne (tgt := 27) (dcd d_m_rent_0 11 rfl) (by decide) (fun c => absurd (show (0 : Int32) = 0 from by decide) c) (fun _ => ?_)
        refine ws_iconst (v := (-1)) (dcd d_m_rent_0 12 rfl) (by decide) ?_
        exact ws_iret (dcd d_m_rent_0 13 rfl) ⟨_, rfl, rfl⟩ h
    · have h := h.2 c3
      refine ws_if_eq (tgt := 25) (dcd d_m_rent_0 6 rfl) (by decide) (fun _ => ?_) (fun c => absurd (show (0 : Int32) = 0 from by decide) c)
      refine ws_iconst (v := (-1)) (dcd d_m_rent_0 12 rfl) (by decide) ?_
      exact ws_iret (dcd d_m_rent_0 13 rfl) ⟨_, rfl, rfl⟩ h
  · have h := h.2 c1
    refine ws_if_eq (tgt := 25) (dcd d_m_rent_0 2 rfl) (by decide) (fun _ => ?_) (fun c => absurd (show (0 : Int32) = 0 from by decide) c)
    refine ws_iconst (v := (-1)) (dcd d_m_rent_0 12 rfl) (by decide) ?_
    exact ws_iret (dcd d_m_rent_0 13 rfl) ⟨_, rfl, rfl⟩ h
theorem sg_m_askedRents_0 {x1 : Int32}  (h : (vp_in x1 6 ∧ ((0 ≤ (mI u 78 (x1 : Int32).toNatClampNeg) → (vp_in x1 6 ∧ (((mI u 78 (x1 : Int32).toNatClampNeg) = (mI u 76 10) → Ws G m_askedRents 36 [(0, .ref 76), (1, .int x1), (2, .int 0)] [] u Q) ∧ (¬ (mI u 78 (x1 : Int32).toNatClampNeg) = (mI u 76 10) → Q (some (.int (-3))) (mt u 5))))) ∧ (¬ (0 ≤ (mI u 78 (x1 : Int32).toNatClampNeg)) → Q (some (.int (-3))) (mt u 1))))) : Ws G m_askedRents 0 [(0, .ref 76), (1, .int x1)] [] u Q := by
  refine ws_aload_n 0 (dcd d_m_askedRents_0 0 rfl) rfl ?_
  refine ws_getF (a := 78) f_m_17 rfl (dcd d_m_askedRents_0 1 rfl) ok_76 of_8_5 rfl ?_
  refine ws_iload_n 1 (dcd d_m_askedRents_0 2 rfl) rfl ?_
  obtain ⟨e1, h⟩ := h
  refine ws_iald (L := 6) (dcd d_m_askedRents_0 3 rfl) (os_8_5 ok_76) (ol_8_5 ok_76) e1 ?_
  refine ws_if_ge (tgt := 15) (dcd d_m_askedRents_0 4 rfl) (by decide) (fun c2 => ?_) (fun c2 => ?_)
  · have h := h.1 c2
    refine ws_aload_n 0 (dcd d_m_askedRents_0 9 rfl) rfl ?_
    refine ws_getF (a := 78) f_m_17 rfl (dcd d_m_askedRents_0 10 rfl) ok_76 of_8_5 rfl ?_
    refine ws_iload_n 1 (dcd d_m_askedRents_0 11 rfl) rfl ?_
    obtain ⟨e3, h⟩ := h
    refine ws_iald (L := 6) (dcd d_m_askedRents_0 12 rfl) (os_8_5 ok_76) (ol_8_5 ok_76) e3 ?_
    refine ws_aload_n 0 (dcd d_m_askedRents_0 13 rfl) rfl ?_
    refine ws_getI f_m_153 rfl (dcd d_m_askedRents_0 14 rfl) ok_76 ?_
    refine ws_icmp_eq (tgt := 34) (dcd d_m_askedRents_0 15 rfl) (by decide) (fun c4 => ?_) (fun c4 => ?_)
    · have h := h.1 c4
      refine ws_iconst (v := 0) (dcd d_m_askedRents_0 20 rfl) (by decide) ?_
      refine ws_istore_n (l' := [(2, .int 0), (0, .ref 76), (1, .int x1)]) (dcd d_m_askedRents_0 21 rfl) (by decide) rfl ?_
      exact ws_loc [1, 2, 0] rfl h
    · have h := h.2 c4
      refine ws_aload_n 0 (dcd d_m_askedRents_0 16 rfl) rfl ?_
      refine ws_iconst (v := 5) (dcd d_m_askedRents_0 17 rfl) (by decide) ?_
      refine ws_callVI (o := 76) (As := [.int 5]) (st := []) (la := [(0, .ref 76), (1, .int 5)]) (dcd d_m_askedRents_0 18 rfl) cv_m_meet k_m_86 ⟨by decide, by decide⟩ ok_76 rfl (Nat.le_of_ble_eq_true rfl) (Nat.le_of_ble_eq_true rfl) rfl rfl (sp_m_meet (vin (by decide) (by decide) (by decide))) ?_
      rintro _ _ ⟨rfl, rfl⟩
      exact ws_iret (dcd d_m_askedRents_0 19 rfl) ⟨_, rfl, rfl⟩ h
  · have h := h.2 c2
    refine ws_aload_n 0 (dcd d_m_askedRents_0 5 rfl) rfl ?_
    refine ws_iconst (v := 1) (dcd d_m_askedRents_0 6 rfl) (by decide) ?_
    refine ws_callVI (o := 76) (As := [.int 1]) (st := []) (la := [(0, .ref 76), (1, .int 1)]) (dcd d_m_askedRents_0 7 rfl) cv_m_meet k_m_86 ⟨by decide, by decide⟩ ok_76 rfl (Nat.le_of_ble_eq_true rfl) (Nat.le_of_ble_eq_true rfl) rfl rfl (sp_m_meet (vin (by decide) (by decide) (by decide))) ?_
    rintro _ _ ⟨rfl, rfl⟩
    exact ws_iret (dcd d_m_askedRents_0 8 rfl) ⟨_, rfl, rfl⟩ h
theorem sg_m_askedRents_36 {x1 : Int32} {x2 : Int32}  (h : (((mI u 76 10) ≤ x2 → Q (some (.int 0)) u) ∧ (¬ ((mI u 76 10) ≤ x2) → (vp_in (40 * x1 + x2) 240 ∧ (((0 ≤ (mI u 79 ((40 * x1 + x2) : Int32).toNatClampNeg) ∧ (mI u 79 ((40 * x1 + x2) : Int32).toNatClampNeg) ≤ 99) → Ws G m_askedRents 36 [(0, .ref 76), (1, .int x1), (2, .int (x2 + 1))] [] u Q) ∧ (¬ (0 ≤ (mI u 79 ((40 * x1 + x2) : Int32).toNatClampNeg) ∧ (mI u 79 ((40 * x1 + x2) : Int32).toNatClampNeg) ≤ 99) → Q (some (.int (-3))) (mt u 3))))))) : Ws G m_askedRents 36 [(0, .ref 76), (1, .int x1), (2, .int x2)] [] u Q := by
  refine ws_iload_n 2 (dcd d_m_askedRents_0 22 rfl) rfl ?_
  refine ws_aload_n 0 (dcd d_m_askedRents_0 23 rfl) rfl ?_
  refine ws_getI f_m_153 rfl (dcd d_m_askedRents_0 24 rfl) ok_76 ?_
  refine ws_icmp_ge (tgt := 71) (dcd d_m_askedRents_0 25 rfl) (by decide) (fun c1 => ?_) (fun c1 => ?_)
  · have h := h.1 c1
    refine ws_iconst (v := 0) (dcd d_m_askedRents_1 10 rfl) (by decide) ?_
    exact ws_iret (dcd d_m_askedRents_1 11 rfl) ⟨_, rfl, rfl⟩ h
  · have h := h.2 c1
    refine ws_aload_n 0 (dcd d_m_askedRents_0 26 rfl) rfl ?_
    refine ws_iload_n 1 (dcd d_m_askedRents_0 27 rfl) rfl ?_
    refine ws_iload_n 2 (dcd d_m_askedRents_0 28 rfl) rfl ?_
    obtain ⟨e2, h⟩ := h
    refine ws_callVI (o := 76) (As := [.int x1, .int x2]) (st := []) (la := [(0, .ref 76), (1, .int x1), (2, .int x2)]) (dcd d_m_askedRents_0 29 rfl) cv_m_rowAt k_m_100 ⟨by decide, by decide⟩ ok_76 rfl (Nat.le_of_ble_eq_true rfl) (Nat.le_of_ble_eq_true rfl) rfl rfl (sp_m_rowAt e2) ?_
    rintro _ _ ⟨rfl, rfl⟩
    refine ws_iconst (v := 0) (dcd d_m_askedRents_1 0 rfl) (by decide) ?_
    refine ws_bipush (v := 99) (dcd d_m_askedRents_1 1 rfl) (by decide) ?_
    refine ws_callSI (As := [.int (mI u 79 ((40 * x1 + x2) : Int32).toNatClampNeg), .int 0, .int 99]) (st := []) (la := [(0, .int (mI u 79 ((40 * x1 + x2) : Int32).toNatClampNeg)), (1, .int 0), (2, .int 99)]) (dcd d_m_askedRents_1 2 rfl) cs_m_in k_m_78 ⟨by decide, by decide⟩ rfl (Nat.le_of_ble_eq_true rfl) (Nat.le_of_ble_eq_true rfl) rfl rfl sp_m_in ?_
    rintro _ _ ⟨rfl, ⟨rfl, c3⟩ | ⟨rfl, c3⟩⟩
    · have h := h.1 c3
      refine ws_if_ne (tgt := 65) (dcd d_m_askedRents_1 3 rfl) (by decide) (fun _ => ?_) (fun c => absurd c (by decide))
      refine ws_iinc (v := 1) (l' := [(2, .int (x2 + 1)), (0, .ref 76), (1, .int x1)]) 2 (dcd d_m_askedRents_1 8 rfl) rfl (by decide) (by decide) rfl ?_
      refine ws_goto (tgt := 36) (dcd d_m_askedRents_1 9 rfl) (by decide) ?_
      exact ws_loc [1, 2, 0] rfl h
    · have h := h.2 c3
      refine ws_if_ne (tgt := 65) (dcd d_m_askedRents_1 3 rfl) (by decide) (fun c => absurd (show (0 : Int32) = 0 from by decide) c) (fun _ => ?_)
      refine ws_aload_n 0 (dcd d_m_askedRents_1 4 rfl) rfl ?_
      refine ws_iconst (v := 3) (dcd d_m_askedRents_1 5 rfl) (by decide) ?_
      refine ws_callVI (o := 76) (As := [.int 3]) (st := []) (la := [(0, .ref 76), (1, .int 3)]) (dcd d_m_askedRents_1 6 rfl) cv_m_meet k_m_86 ⟨by decide, by decide⟩ ok_76 rfl (Nat.le_of_ble_eq_true rfl) (Nat.le_of_ble_eq_true rfl) rfl rfl (sp_m_meet (vin (by decide) (by decide) (by decide))) ?_
      rintro _ _ ⟨rfl, rfl⟩
      exact ws_iret (dcd d_m_askedRents_1 7 rfl) ⟨_, rfl, rfl⟩ h
theorem sg_m_setRents_0 {x1 : Int32} {x2 : Int32}  (h : Ws G m_fromNow 0 [(0, .ref 76)] [] u (RV fun u1 => Ws G m_setRents 6 [(0, .ref 76), (1, .int x1), (2, .int x2), (3, .int 0)] [] u1 Q)) : Ws G m_setRents 0 [(0, .ref 76), (1, .int x1), (2, .int x2)] [] u Q := by
  refine ws_aload_n 0 (dcd d_m_setRents_0 0 rfl) rfl ?_
  refine ws_callVV (o := 76) (As := []) (st := []) (la := [(0, .ref 76)]) (dcd d_m_setRents_0 1 rfl) cv_m_fromNow k_m_205 ⟨by decide, by decide⟩ ok_76 rfl (Nat.le_of_ble_eq_true rfl) (Nat.le_of_ble_eq_true rfl) rfl rfl h (fun u1 h => ?_)
  refine ws_iconst (v := 0) (dcd d_m_setRents_0 2 rfl) (by decide) ?_
  refine ws_istore_n (l' := [(3, .int 0), (0, .ref 76), (1, .int x1), (2, .int x2)]) (dcd d_m_setRents_0 3 rfl) (by decide) rfl ?_
  exact ws_loc [1, 2, 3, 0] rfl h
theorem sg_m_setRents_6 {x1 : Int32} {x2 : Int32} {x3 : Int32}  (h : (((mI u 76 11) ≤ x3 → Ws G m_setRents 29 [(0, .ref 76), (1, .int x1), (2, .int x2), (3, .int 0)] [] u Q) ∧ (¬ ((mI u 76 11) ≤ x3) → (vp_in x3 7 ∧ Ws G m_setRents 6 [(0, .ref 76), (1, .int x1), (2, .int x2), (3, .int (x3 + 1))] [] (pI u 93 (x3 : Int32).toNatClampNeg 0) Q)))) : Ws G m_setRents 6 [(0, .ref 76), (1, .int x1), (2, .int x2), (3, .int x3)] [] u Q := by
  refine ws_iload_n 3 (dcd d_m_setRents_0 4 rfl) rfl ?_
  refine ws_aload_n 0 (dcd d_m_setRents_0 5 rfl) rfl ?_
  refine ws_getI f_m_156 rfl (dcd d_m_setRents_0 6 rfl) ok_76 ?_
  refine ws_icmp_ge (tgt := 27) (dcd d_m_setRents_0 7 rfl) (by decide) (fun c1 => ?_) (fun c1 => ?_)
  · have h := h.1 c1
    refine ws_iconst (v := 0) (dcd d_m_setRents_0 15 rfl) (by decide) ?_
    refine ws_istore_n (l' := [(3, .int 0), (0, .ref 76), (1, .int x1), (2, .int x2)]) (dcd d_m_setRents_0 16 rfl) (by decide) rfl ?_
    exact ws_loc [1, 2, 3, 0] rfl h
  · have h := h.2 c1
    refine ws_aload_n 0 (dcd d_m_setRents_0 8 rfl) rfl ?_
    refine ws_getF (a := 93) f_m_62 rfl (dcd d_m_setRents_0 9 rfl) ok_76 of_8_29 rfl ?_
    refine ws_iload_n 3 (dcd d_m_setRents_0 10 rfl) rfl ?_
    refine ws_iconst (v := 0) (dcd d_m_setRents_0 11 rfl) (by decide) ?_
    obtain ⟨e2, h⟩ := h
    refine ws_iast (L := 7) (dcd d_m_setRents_0 12 rfl) (os_8_29 ok_76) (ol_8_29 ok_76) e2 ?_
    refine ws_iinc (v := 1) (l' := [(3, .int (x3 + 1)), (0, .ref 76), (1, .int x1), (2, .int x2)]) 3 (dcd d_m_setRents_0 13 rfl) rfl (by decide) (by decide) rfl ?_
    refine ws_goto (tgt := 6) (dcd d_m_setRents_0 14 rfl) (by decide) ?_
    exact ws_loc [1, 2, 3, 0] rfl h
theorem sg_m_setRents_29 {x1 : Int32} {x2 : Int32} {x3 : Int32}  (h : ((x2 ≤ x3 → Q none u) ∧ (¬ (x2 ≤ x3) → Ws G m_setRents 37 [(0, .ref 76), (1, .int x1), (2, .int x2), (3, .int x3), (4, .int 0)] [] u Q))) : Ws G m_setRents 29 [(0, .ref 76), (1, .int x1), (2, .int x2), (3, .int x3)] [] u Q := by
  refine ws_iload_n 3 (dcd d_m_setRents_0 17 rfl) rfl ?_
  refine ws_iload_n 2 (dcd d_m_setRents_0 18 rfl) rfl ?_
  refine ws_icmp_ge (tgt := 94) (dcd d_m_setRents_0 19 rfl) (by decide) (fun c1 => ?_) (fun c1 => ?_)
  · have h := h.1 c1
    exact ws_vret (dcd d_m_setRents_1 22 rfl) rfl h
  · have h := h.2 c1
    refine ws_iconst (v := 0) (dcd d_m_setRents_0 20 rfl) (by decide) ?_
    refine ws_istore (l' := [(4, .int 0), (0, .ref 76), (1, .int x1), (2, .int x2), (3, .int x3)]) (dcd d_m_setRents_0 21 rfl) (by decide) rfl ?_
    exact ws_loc [1, 2, 3, 4, 0] rfl h
theorem sg_m_setRents_37 {x1 : Int32} {x2 : Int32} {x3 : Int32} {x4 : Int32}  (h : (((mI u 76 11) ≤ x4 → Ws G m_passOne 0 [(0, .ref 76), (1, .int ((mI u 76 18) + x3)), (2, .int (mI u 76 19))] [] u (RV fun u2 => Ws G m_setRents 29 [(0, .ref 76), (1, .int x1), (2, .int x2), (3, .int (x3 + 1))] [] u2 Q)) ∧ (¬ ((mI u 76 11) ≤ x4) → (vp_in x4 7 ∧ (vp_in x4 7 ∧ (vp_in (40 * x1 + (mI u 85 (x4 : Int32).toNatClampNeg)) 240 ∧ (vp_in x4 7 ∧ Ws G m_setRents 37 [(0, .ref 76), (1, .int x1), (2, .int x2), (3, .int x3), (4, .int (x4 + 1))] [] (pI u 93 (x4 : Int32).toNatClampNeg ((mI u 93 (x4 : Int32).toNatClampNeg) + (mI u 79 ((40 * x1 + (mI u 85 (x4 : Int32).toNatClampNeg)) : Int32).toNatClampNeg))) Q))))))) : Ws G m_setRents 37 [(0, .ref 76), (1, .int x1), (2, .int x2), (3, .int x3), (4, .int x4)] [] u Q := by
  refine ws_iload 4 (dcd d_m_setRents_0 22 rfl) rfl ?_
  refine ws_aload_n 0 (dcd d_m_setRents_0 23 rfl) rfl ?_
  refine ws_getI f_m_156 rfl (dcd d_m_setRents_0 24 rfl) ok_76 ?_
  refine ws_icmp_ge (tgt := 74) (dcd d_m_setRents_0 25 rfl) (by decide) (fun c1 => ?_) (fun c1 => ?_)
  · have h := h.1 c1
    refine ws_aload_n 0 (dcd d_m_setRents_1 12 rfl) rfl ?_
    refine ws_aload_n 0 (dcd d_m_setRents_1 13 rfl) rfl ?_
    refine ws_getI f_m_162 rfl (dcd d_m_setRents_1 14 rfl) ok_76 ?_
    refine ws_iload_n 3 (dcd d_m_setRents_1 15 rfl) rfl ?_
    refine ws_iadd (dcd d_m_setRents_1 16 rfl) ?_
    refine ws_aload_n 0 (dcd d_m_setRents_1 17 rfl) rfl ?_
    refine ws_getI f_m_165 rfl (dcd d_m_setRents_1 18 rfl) ok_76 ?_
    refine ws_callVV (o := 76) (As := [.int ((mI u 76 18) + x3), .int (mI u 76 19)]) (st := []) (la := [(0, .ref 76), (1, .int ((mI u 76 18) + x3)), (2, .int (mI u 76 19))]) (dcd d_m_setRents_1 19 rfl) cv_m_passOne k_m_208 ⟨by decide, by decide⟩ ok_76 rfl (Nat.le_of_ble_eq_true rfl) (Nat.le_of_ble_eq_true rfl) rfl rfl h (fun u2 h => ?_)
    refine ws_iinc (v := 1) (l' := [(3, .int (x3 + 1)), (0, .ref 76), (1, .int x1), (2, .int x2), (4, .int x4)]) 3 (dcd d_m_setRents_1 20 rfl) rfl (by decide) (by decide) rfl ?_
    refine ws_goto (tgt := 29) (dcd d_m_setRents_1 21 rfl) (by decide) ?_
    exact ws_loc [1, 2, 3, 0] rfl h
  · have h := h.2 c1
    refine ws_aload_n 0 (dcd d_m_setRents_0 26 rfl) rfl ?_
    refine ws_getF (a := 93) f_m_62 rfl (dcd d_m_setRents_0 27 rfl) ok_76 of_8_29 rfl ?_
    refine ws_iload 4 (dcd d_m_setRents_0 28 rfl) rfl ?_
    refine ws_dup2 (dcd d_m_setRents_0 29 rfl) rfl rfl ?_
    obtain ⟨e3, h⟩ := h
    refine ws_iald (L := 7) (dcd d_m_setRents_1 0 rfl) (os_8_29 ok_76) (ol_8_29 ok_76) e3 ?_
    refine ws_aload_n 0 (dcd d_m_setRents_1 1 rfl) rfl ?_
    refine ws_iload_n 1 (dcd d_m_setRents_1 2 rfl) rfl ?_
    refine ws_aload_n 0 (dcd d_m_setRents_1 3 rfl) rfl ?_
    refine ws_getF (a := 85) f_m_38 rfl (dcd d_m_setRents_1 4 rfl) ok_76 of_8_20 rfl ?_
    refine ws_iload 4 (dcd d_m_setRents_1 5 rfl) rfl ?_
    obtain ⟨e4, h⟩ := h
    refine ws_iald (L := 7) (dcd d_m_setRents_1 6 rfl) (os_8_20 ok_76) (ol_8_20 ok_76) e4 ?_
    obtain ⟨e5, h⟩ := h
    refine ws_callVI (o := 76) (As := [.int x1, .int (mI u 85 (x4 : Int32).toNatClampNeg)]) (st := [.int (mI u 93 (x4 : Int32).toNatClampNeg), .int x4, .ref 93]) (la := [(0, .ref 76), (1, .int x1), (2, .int (mI u 85 (x4 : Int32).toNatClampNeg))]) (dcd d_m_setRents_1 7 rfl) cv_m_rowAt k_m_100 ⟨by decide, by decide⟩ ok_76 rfl (Nat.le_of_ble_eq_true rfl) (Nat.le_of_ble_eq_true rfl) rfl rfl (sp_m_rowAt e5) ?_
    rintro _ _ ⟨rfl, rfl⟩
    refine ws_iadd (dcd d_m_setRents_1 8 rfl) ?_
    obtain ⟨e6, h⟩ := h
    refine ws_iast (L := 7) (dcd d_m_setRents_1 9 rfl) (os_8_29 ok_76) (ol_8_29 ok_76) e6 ?_
    refine ws_iinc (v := 1) (l' := [(4, .int (x4 + 1)), (0, .ref 76), (1, .int x1), (2, .int x2), (3, .int x3)]) 4 (dcd d_m_setRents_1 10 rfl) rfl (by decide) (by decide) rfl ?_
    refine ws_goto (tgt := 37) (dcd d_m_setRents_1 11 rfl) (by decide) ?_
    exact ws_loc [1, 2, 3, 4, 0] rfl h
theorem sg_m_dearest_0 {x1 : Int32} {x2 : Int32}  (h : (((0 ≤ x1 ∧ x1 ≤ 5) → (((1 ≤ x2 ∧ x2 ≤ 60) → Ws G m_askedRents 0 [(0, .ref 76), (1, .int x1)] [] u (RI fun a5 u5 => ((0 ≤ a5 → Ws G m_setRents 0 [(0, .ref 76), (1, .int x1), (2, .int x2)] [] u5 (RV fun u7 => Ws G m_dearest 46 [(0, .ref 76), (4, .int 0), (5, .int 0), (6, .int 0)] [] u7 Q)) ∧ (¬ (0 ≤ a5) → Q (some (.int a5)) u5)))) ∧ (¬ (1 ≤ x2 ∧ x2 ≤ 60) → Q (some (.int (-1))) u))) ∧ (¬ (0 ≤ x1 ∧ x1 ≤ 5) → Q (some (.int (-1))) u))) : Ws G m_dearest 0 [(0, .ref 76), (1, .int x1), (2, .int x2)] [] u Q := by
  refine ws_iload_n 1 (dcd d_m_dearest_0 0 rfl) rfl ?_
  refine ws_callSI (As := [.int x1]) (st := []) (la := [(0, .int x1)]) (dcd d_m_dearest_0 1 rfl) cs_m_isRow k_m_82 ⟨by decide, by decide⟩ rfl (Nat.le_of_ble_eq_true rfl) (Nat.le_of_ble_eq_true rfl) rfl rfl sp_m_isRow ?_
  rintro _ _ ⟨rfl, ⟨rfl, c1⟩ | ⟨rfl, c1⟩⟩
  · have h := h.1 c1
    refine ws_if_eq (tgt := 17) (dcd d_m_dearest_0 2 rfl) (by decide) (fun c => absurd c (by decide)) (fun _ => ?_)
    refine ws_iload_n 2 (dcd d_m_dearest_0 3 rfl) rfl ?_
    refine ws_iconst (v := 1) (dcd d_m_dearest_0 4 rfl) (by decide) ?_
    refine ws_bipush (v := 60) (dcd d_m_dearest_0 5 rfl) (by decide) ?_
    refine ws_callSI (As := [.int x2, .int 1, .int 60]) (st := []) (la := [(0, .int x2), (1, .int 1), (2, .int 60)]) (dcd d_m_dearest_0 6 rfl) cs_m_in k_m_78 ⟨by decide, by decide⟩ rfl (Nat.le_of_ble_eq_true rfl) (Nat.le_of_ble_eq_true rfl) rfl rfl sp_m_in ?_
    rintro _ _ ⟨rfl, ⟨rfl, c3⟩ | ⟨rfl, c3⟩⟩
    · have h := h.1 c3
      refine ws_if_ne (tgt := 19) (dcd d_m_dearest_0 7 rfl) (by decide) (fun _ => ?_) (fun c => absurd c (by decide))
      refine ws_aload_n 0 (dcd d_m_dearest_0 10 rfl) rfl ?_
      refine ws_iload_n 1 (dcd d_m_dearest_0 11 rfl) rfl ?_
      refine ws_callVI (o := 76) (As := [.int x1]) (st := []) (la := [(0, .ref 76), (1, .int x1)]) (dcd d_m_dearest_0 12 rfl) cv_m_askedRents k_m_258 ⟨by decide, by decide⟩ ok_76 rfl (Nat.le_of_ble_eq_true rfl) (Nat.le_of_ble_eq_true rfl) rfl rfl h (fun a5 u5 h => ?_)
      refine ws_istore_n (l' := [(3, .int a5), (0, .ref 76), (1, .int x1), (2, .int x2)]) (dcd d_m_dearest_0 13 rfl) (by decide) rfl ?_
      refine ws_iload_n 0 (dcd d_m_dearest_0 14 rfl) rfl ?_
      refine ws_if_ge (tgt := 31) (dcd d_m_dearest_0 15 rfl) (by decide) (fun c6 => ?_) (fun c6 => ?_)
      · have h := h.1 c6
        refine ws_aload_n 1 (dcd d_m_dearest_0 18 rfl) rfl ?_
        refine ws_iload_n 2 (dcd d_m_dearest_0 19 rfl) rfl ?_
        refine ws_iload_n 3 (dcd d_m_dearest_0 20 rfl) rfl ?_
        refine ws_callVV (o := 76) (As := [.int x1, .int x2]) (st := []) (la := [(0, .ref 76), (1, .int x1), (2, .int x2)]) (dcd d_m_dearest_0 21 rfl) cv_m_setRents k_m_261 ⟨by decide, by decide⟩ ok_76 rfl (Nat.le_of_ble_eq_true rfl) (Nat.le_of_ble_eq_true rfl) rfl rfl h (fun u7 h => ?_)
        refine ws_iconst (v := 0) (dcd d_m_dearest_0 22 rfl) (by decide) ?_
        refine ws_istore (l' := [(4, .int 0), (3, .int a5), (0, .ref 76), (1, .int x1), (2, .int x2)]) (dcd d_m_dearest_0 23 rfl) (by decide) rfl ?_
        refine ws_iconst (v := 0) (dcd d_m_dearest_0 24 rfl) (by decide) ?_
        refine ws_istore (l' := [(5, .int 0), (4, .int 0), (3, .int a5), (0, .ref 76), (1, .int x1), (2, .int x2)]) (dcd d_m_dearest_0 25 rfl) (by decide) rfl ?_
        refine ws_iconst (v := 0) (dcd d_m_dearest_0 26 rfl) (by decide) ?_
        refine ws_istore (l' := [(6, .int 0), (5, .int 0), (4, .int 0), (3, .int a5), (0, .ref 76), (1, .int x1), (2, .int x2)]) (dcd d_m_dearest_0 27 rfl) (by decide) rfl ?_
        exact ws_loc [4, 2, 1, 0] rfl h
      · have h := h.2 c6
        refine ws_iload_n 0 (dcd d_m_dearest_0 16 rfl) rfl ?_
        exact ws_iret (dcd d_m_dearest_0 17 rfl) ⟨_, rfl, rfl⟩ h
    · have h := h.2 c3
      refine ws_if_ne (tgt := 19) (dcd d_m_dearest_0 7 rfl) (by decide) (fun c => absurd (show (0 : Int32) = 0 from by decide) c) (fun _ => ?_)
      refine ws_iconst (v := (-1)) (dcd d_m_dearest_0 8 rfl) (by decide) ?_
      exact ws_iret (dcd d_m_dearest_0 9 rfl) ⟨_, rfl, rfl⟩ h
  · have h := h.2 c1
    refine ws_if_eq (tgt := 17) (dcd d_m_dearest_0 2 rfl) (by decide) (fun _ => ?_) (fun c => absurd (show (0 : Int32) = 0 from by decide) c)
    refine ws_iconst (v := (-1)) (dcd d_m_dearest_0 8 rfl) (by decide) ?_
    exact ws_iret (dcd d_m_dearest_0 9 rfl) ⟨_, rfl, rfl⟩ h
theorem sg_m_dearest_46 {x4 : Int32} {x5 : Int32} {x6 : Int32}  (h : (((mI u 76 11) ≤ x6 → ((¬ x4 = 0 → (vp_in x5 7 ∧ Ws G m_part 0 [(0, .ref 76), (1, .long ((mI u 93 (x5 : Int32).toNatClampNeg) : Int32).toInt64), (3, .long (x4 : Int32).toInt64), (5, .int x5)] [] u (RI fun a4 u4 => Q (some (.int a4)) u4))) ∧ (x4 = 0 → Q (some (.int (-3))) (mt u 4)))) ∧ (¬ ((mI u 76 11) ≤ x6) → (vp_in x6 7 ∧ (vp_in x6 7 ∧ (vp_in x5 7 ∧ (((mI u 93 (x6 : Int32).toNatClampNeg) ≤ (mI u 93 (x5 : Int32).toNatClampNeg) → Ws G m_dearest 46 [(0, .ref 76), (4, .int (x4 + (mI u 93 (x6 : Int32).toNatClampNeg))), (5, .int x5), (6, .int (x6 + 1))] [] u Q) ∧ (¬ ((mI u 93 (x6 : Int32).toNatClampNeg) ≤ (mI u 93 (x5 : Int32).toNatClampNeg)) → Ws G m_dearest 46 [(0, .ref 76), (4, .int (x4 + (mI u 93 (x6 : Int32).toNatClampNeg))), (5, .int x6), (6, .int (x6 + 1))] [] u Q)))))))) : Ws G m_dearest 46 [(0, .ref 76), (4, .int x4), (5, .int x5), (6, .int x6)] [] u Q := by
  refine ws_iload 3 (dcd d_m_dearest_0 28 rfl) rfl ?_
  refine ws_aload_n 0 (dcd d_m_dearest_0 29 rfl) rfl ?_
  refine ws_getI f_m_156 rfl (dcd d_m_dearest_1 0 rfl) ok_76 ?_
  refine ws_icmp_ge (tgt := 99) (dcd d_m_dearest_1 1 rfl) (by decide) (fun c1 => ?_) (fun c1 => ?_)
  · have h := h.1 c1
    refine ws_iload 1 (dcd d_m_dearest_1 24 rfl) rfl ?_
    refine ws_if_ne (tgt := 112) (dcd d_m_dearest_1 25 rfl) (by decide) (fun c2 => ?_) (fun c2 => ?_)
    · have h := h.1 c2
      refine ws_aload_n 0 (dcd d_m_dearest_2 0 rfl) rfl ?_
      refine ws_aload_n 0 (dcd d_m_dearest_2 1 rfl) rfl ?_
      refine ws_getF (a := 93) f_m_62 rfl (dcd d_m_dearest_2 2 rfl) ok_76 of_8_29 rfl ?_
      refine ws_iload 2 (dcd d_m_dearest_2 3 rfl) rfl ?_
      obtain ⟨e3, h⟩ := h
      refine ws_iald (L := 7) (dcd d_m_dearest_2 4 rfl) (os_8_29 ok_76) (ol_8_29 ok_76) e3 ?_
      refine ws_i2l (dcd d_m_dearest_2 5 rfl) ?_
      refine ws_iload 1 (dcd d_m_dearest_2 6 rfl) rfl ?_
      refine ws_i2l (dcd d_m_dearest_2 7 rfl) ?_
      refine ws_iload 2 (dcd d_m_dearest_2 8 rfl) rfl ?_
      refine ws_callVI (o := 76) (As := [.long ((mI u 93 (x5 : Int32).toNatClampNeg) : Int32).toInt64, .long (x4 : Int32).toInt64, .int x5]) (st := []) (la := [(0, .ref 76), (1, .long ((mI u 93 (x5 : Int32).toNatClampNeg) : Int32).toInt64), (3, .long (x4 : Int32).toInt64), (5, .int x5)]) (dcd d_m_dearest_2 9 rfl) cv_m_part k_m_264 ⟨by decide, by decide⟩ ok_76 rfl (Nat.le_of_ble_eq_true rfl) (Nat.le_of_ble_eq_true rfl) rfl rfl h (fun a4 u4 h => ?_)
      exact ws_iret (dcd d_m_dearest_2 10 rfl) ⟨_, rfl, rfl⟩ h
    · have h := h.2 c2
      refine ws_aload_n 0 (dcd d_m_dearest_1 26 rfl) rfl ?_
      refine ws_iconst (v := 4) (dcd d_m_dearest_1 27 rfl) (by decide) ?_
      refine ws_callVI (o := 76) (As := [.int 4]) (st := []) (la := [(0, .ref 76), (1, .int 4)]) (dcd d_m_dearest_1 28 rfl) cv_m_meet k_m_86 ⟨by decide, by decide⟩ ok_76 rfl (Nat.le_of_ble_eq_true rfl) (Nat.le_of_ble_eq_true rfl) rfl rfl (sp_m_meet (vin (by decide) (by decide) (by decide))) ?_
      rintro _ _ ⟨rfl, rfl⟩
      refine ws_goto (tgt := 129) (dcd d_m_dearest_1 29 rfl) (by decide) ?_
      exact ws_iret (dcd d_m_dearest_2 10 rfl) ⟨_, rfl, rfl⟩ h
  · have h := h.2 c1
    refine ws_iload 1 (dcd d_m_dearest_1 2 rfl) rfl ?_
    refine ws_aload_n 0 (dcd d_m_dearest_1 3 rfl) rfl ?_
    refine ws_getF (a := 93) f_m_62 rfl (dcd d_m_dearest_1 4 rfl) ok_76 of_8_29 rfl ?_
    refine ws_iload 3 (dcd d_m_dearest_1 5 rfl) rfl ?_
    obtain ⟨e5, h⟩ := h
    refine ws_iald (L := 7) (dcd d_m_dearest_1 6 rfl) (os_8_29 ok_76) (ol_8_29 ok_76) e5 ?_
    refine ws_iadd (dcd d_m_dearest_1 7 rfl) ?_
    refine ws_istore (l' := [(4, .int (x4 + (mI u 93 (x6 : Int32).toNatClampNeg))), (0, .ref 76), (5, .int x5), (6, .int x6)]) (dcd d_m_dearest_1 8 rfl) (by decide) rfl ?_
    refine ws_aload_n 1 (dcd d_m_dearest_1 9 rfl) rfl ?_
    refine ws_getF (a := 93) f_m_62 rfl (dcd d_m_dearest_1 10 rfl) ok_76 of_8_29 rfl ?_
    refine ws_iload 3 (dcd d_m_dearest_1 11 rfl) rfl ?_
    obtain ⟨e6, h⟩ := h
    refine ws_iald (L := 7) (dcd d_m_dearest_1 12 rfl) (os_8_29 ok_76) (ol_8_29 ok_76) e6 ?_
    refine ws_aload_n 1 (dcd d_m_dearest_1 13 rfl) rfl ?_
    refine ws_getF (a := 93) f_m_62 rfl (dcd d_m_dearest_1 14 rfl) ok_76 of_8_29 rfl ?_
    refine ws_iload 2 (dcd d_m_dearest_1 15 rfl) rfl ?_
    obtain ⟨e7, h⟩ := h
    refine ws_iald (L := 7) (dcd d_m_dearest_1 16 rfl) (os_8_29 ok_76) (ol_8_29 ok_76) e7 ?_
    refine ws_icmp_le (tgt := 89) (dcd d_m_dearest_1 17 rfl) (by decide) (fun c8 => ?_) (fun c8 => ?_)
    · have h := h.1 c8
      refine ws_iload 2 (dcd d_m_dearest_1 20 rfl) rfl ?_
      refine ws_istore (l' := [(5, .int x5), (4, .int (x4 + (mI u 93 (x6 : Int32).toNatClampNeg))), (0, .ref 76), (6, .int x6)]) (dcd d_m_dearest_1 21 rfl) (by decide) rfl ?_
      refine ws_iinc (v := 1) (l' := [(6, .int (x6 + 1)), (5, .int x5), (4, .int (x4 + (mI u 93 (x6 : Int32).toNatClampNeg))), (0, .ref 76)]) 3 (dcd d_m_dearest_1 22 rfl) rfl (by decide) (by decide) rfl ?_
      refine ws_goto (tgt := 46) (dcd d_m_dearest_1 23 rfl) (by decide) ?_
      exact ws_loc [3, 2, 1, 0] rfl h
    · have h := h.2 c8
      refine ws_iload 3 (dcd d_m_dearest_1 18 rfl) rfl ?_
      refine ws_goto (tgt := 91) (dcd d_m_dearest_1 19 rfl) (by decide) ?_
      refine ws_istore (l' := [(5, .int x6), (4, .int (x4 + (mI u 93 (x6 : Int32).toNatClampNeg))), (0, .ref 76), (6, .int x6)]) (dcd d_m_dearest_1 21 rfl) (by decide) rfl ?_
      refine ws_iinc (v := 1) (l' := [(6, .int (x6 + 1)), (5, .int x6), (4, .int (x4 + (mI u 93 (x6 : Int32).toNatClampNeg))), (0, .ref 76)]) 3 (dcd d_m_dearest_1 22 rfl) rfl (by decide) (by decide) rfl ?_
      refine ws_goto (tgt := 46) (dcd d_m_dearest_1 23 rfl) (by decide) ?_
      exact ws_loc [3, 2, 1, 0] rfl h
theorem sg_m_part_0 {x1 : Int64} {x3 : Int64} {x5 : Int32}  (h : Ws G m_part 6 [(0, .ref 76), (1, .long x1), (3, .long x3), (5, .int x5), (6, .long x1), (8, .long x3)] [] u Q) : Ws G m_part 0 [(0, .ref 76), (1, .long x1), (3, .long x3), (5, .int x5)] [] u Q := by
  refine ws_lload_n 1 (dcd d_m_part_0 0 rfl) rfl ?_
  refine ws_lstore (l' := [(6, .long x1), (0, .ref 76), (1, .long x1), (3, .long x3), (5, .int x5)]) (dcd d_m_part_0 1 rfl) (by decide) rfl ?_
  refine ws_lload_n 3 (dcd d_m_part_0 2 rfl) rfl ?_
  refine ws_lstore (l' := [(8, .long x3), (6, .long x1), (0, .ref 76), (1, .long x1), (3, .long x3), (5, .int x5)]) (dcd d_m_part_0 3 rfl) (by decide) rfl ?_
  exact ws_loc [2, 3, 4, 5, 1, 0] rfl h
theorem sg_m_part_6 {x1 : Int64} {x3 : Int64} {x5 : Int32} {x6 : Int64} {x8 : Int64}  (h : (((lg_cmp x8 0) = 0 → (¬ x6 = 0 ∧ (¬ x6 = 0 ∧ Q (some (.int x5)) (pL (pL u 76 3 (x1 / x6)) 76 4 (x3 / x6))))) ∧ (¬ (lg_cmp x8 0) = 0 → (¬ x8 = 0 ∧ Ws G m_part 6 [(0, .ref 76), (1, .long x1), (3, .long x3), (5, .int x5), (6, .long x8), (8, .long (x6 - x6 / x8 * x8))] [] u Q)))) : Ws G m_part 6 [(0, .ref 76), (1, .long x1), (3, .long x3), (5, .int x5), (6, .long x6), (8, .long x8)] [] u Q := by
  refine ws_lload 5 (dcd d_m_part_0 4 rfl) rfl ?_
  refine ws_lconst (v := 0) (dcd d_m_part_0 5 rfl) (by decide) ?_
  refine ws_lcmp (dcd d_m_part_0 6 rfl) ?_
  refine ws_if_eq (tgt := 31) (dcd d_m_part_0 7 rfl) (by decide) (fun c1 => ?_) (fun c1 => ?_)
  · have h := h.1 c1
    refine ws_aload_n 0 (dcd d_m_part_0 17 rfl) rfl ?_
    refine ws_lload_n 1 (dcd d_m_part_0 18 rfl) rfl ?_
    refine ws_lload 4 (dcd d_m_part_0 19 rfl) rfl ?_
    obtain ⟨e2, h⟩ := h
    refine ws_ldiv (dcd d_m_part_0 20 rfl) e2 ?_
    refine ws_putL f_m_75 rfl nf_8_3 (dcd d_m_part_0 21 rfl) ok_76 ?_
    refine ws_aload_n 0 (dcd d_m_part_0 22 rfl) rfl ?_
    refine ws_lload_n 2 (dcd d_m_part_0 23 rfl) rfl ?_
    refine ws_lload 4 (dcd d_m_part_0 24 rfl) rfl ?_
    obtain ⟨e3, h⟩ := h
    refine ws_ldiv (dcd d_m_part_0 25 rfl) e3 ?_
    refine ws_putL f_m_13 rfl nf_8_4 (dcd d_m_part_0 26 rfl) ok_76 ?_
    refine ws_iload 3 (dcd d_m_part_0 27 rfl) rfl ?_
    exact ws_iret (dcd d_m_part_0 28 rfl) ⟨_, rfl, rfl⟩ h
  · have h := h.2 c1
    refine ws_lload 4 (dcd d_m_part_0 8 rfl) rfl ?_
    refine ws_lload 5 (dcd d_m_part_0 9 rfl) rfl ?_
    obtain ⟨e4, h⟩ := h
    refine ws_lrem (dcd d_m_part_0 10 rfl) e4 ?_
    refine ws_lstore (l' := [(10, .long (x6 - x6 / x8 * x8)), (0, .ref 76), (1, .long x1), (3, .long x3), (5, .int x5), (6, .long x6), (8, .long x8)]) (dcd d_m_part_0 11 rfl) (by decide) rfl ?_
    refine ws_lload 6 (dcd d_m_part_0 12 rfl) rfl ?_
    refine ws_lstore (l' := [(6, .long x8), (10, .long (x6 - x6 / x8 * x8)), (0, .ref 76), (1, .long x1), (3, .long x3), (5, .int x5), (8, .long x8)]) (dcd d_m_part_0 13 rfl) (by decide) rfl ?_
    refine ws_lload 1 (dcd d_m_part_0 14 rfl) rfl ?_
    refine ws_lstore (l' := [(8, .long (x6 - x6 / x8 * x8)), (6, .long x8), (10, .long (x6 - x6 / x8 * x8)), (0, .ref 76), (1, .long x1), (3, .long x3), (5, .int x5)]) (dcd d_m_part_0 15 rfl) (by decide) rfl ?_
    refine ws_goto (tgt := 6) (dcd d_m_part_0 16 rfl) (by decide) ?_
    exact ws_loc [3, 4, 5, 6, 1, 0] rfl h
theorem sg_m_mends_0 {x1 : Int32} {x2 : Int32}  (h : (((0 ≤ x1 ∧ x1 ≤ (mI u 76 10) - 1) → (((1 ≤ x2 ∧ x2 ≤ 60) → ((¬ (((mI u 76 19) >>> (x1 &&& 31)) &&& 1) = 1 → Ws G m_shutMany 0 [(0, .ref 76)] [] u (RI fun a6 u6 => ((¬ a6 = 3 → Ws G m_setPlans 0 [(0, .ref 76), (1, .int x2)] [] u6 (RV fun u8 => Ws G m_othersBy 0 [(0, .ref 76), (1, .int x1), (2, .int x2)] [] u8 (RI fun a9 u9 => Q (some (.int a9)) (pI u9 76 2 (mI u9 76 31))))) ∧ (a6 = 3 → Q (some (.int (-2))) u6)))) ∧ ((((mI u 76 19) >>> (x1 &&& 31)) &&& 1) = 1 → Q (some (.int (-4))) u))) ∧ (¬ (1 ≤ x2 ∧ x2 ≤ 60) → Q (some (.int (-1))) u))) ∧ (¬ (0 ≤ x1 ∧ x1 ≤ (mI u 76 10) - 1) → Q (some (.int (-1))) u))) : Ws G m_mends 0 [(0, .ref 76), (1, .int x1), (2, .int x2)] [] u Q := by
  refine ws_aload_n 0 (dcd d_m_mends_0 0 rfl) rfl ?_
  refine ws_iload_n 1 (dcd d_m_mends_0 1 rfl) rfl ?_
  refine ws_callVI (o := 76) (As := [.int x1]) (st := []) (la := [(0, .ref 76), (1, .int x1)]) (dcd d_m_mends_0 2 rfl) cv_m_isDoor k_m_194 ⟨by decide, by decide⟩ ok_76 rfl (Nat.le_of_ble_eq_true rfl) (Nat.le_of_ble_eq_true rfl) rfl rfl sp_m_isDoor ?_
  rintro _ _ ⟨rfl, ⟨rfl, c1⟩ | ⟨rfl, c1⟩⟩
  · have h := h.1 c1
    refine ws_if_eq (tgt := 18) (dcd d_m_mends_0 3 rfl) (by decide) (fun c => absurd c (by decide)) (fun _ => ?_)
    refine ws_iload_n 2 (dcd d_m_mends_0 4 rfl) rfl ?_
    refine ws_iconst (v := 1) (dcd d_m_mends_0 5 rfl) (by decide) ?_
    refine ws_bipush (v := 60) (dcd d_m_mends_0 6 rfl) (by decide) ?_
    refine ws_callSI (As := [.int x2, .int 1, .int 60]) (st := []) (la := [(0, .int x2), (1, .int 1), (2, .int 60)]) (dcd d_m_mends_0 7 rfl) cs_m_in k_m_78 ⟨by decide, by decide⟩ rfl (Nat.le_of_ble_eq_true rfl) (Nat.le_of_ble_eq_true rfl) rfl rfl sp_m_in ?_
    rintro _ _ ⟨rfl, ⟨rfl, c3⟩ | ⟨rfl, c3⟩⟩
    · have h := h.1 c3
      refine ws_if_ne (tgt := 20) (dcd d_m_mends_0 8 rfl) (by decide) (fun _ => ?_) (fun c => absurd c (by decide))
      refine ws_aload_n 0 (dcd d_m_mends_0 11 rfl) rfl ?_
      refine ws_getI f_m_165 rfl (dcd d_m_mends_0 12 rfl) ok_76 ?_
      refine ws_iload_n 1 (dcd d_m_mends_0 13 rfl) rfl ?_
      refine ws_ishr (dcd d_m_mends_0 14 rfl) ?_
      refine ws_iconst (v := 1) (dcd d_m_mends_0 15 rfl) (by decide) ?_
      refine ws_iand (dcd d_m_mends_0 16 rfl) ?_
      refine ws_iconst (v := 1) (dcd d_m_mends_0 17 rfl) (by decide) ?_
      refine ws_icmp_ne (tgt := 35) (dcd d_m_mends_0 18 rfl) (by decide) (fun c5 => ?_) (fun c5 => ?_)
      · have h := h.1 c5
        refine ws_aload_n 0 (dcd d_m_mends_0 21 rfl) rfl ?_
        refine ws_callVI (o := 76) (As := []) (st := []) (la := [(0, .ref 76)]) (dcd d_m_mends_0 22 rfl) cv_m_shutMany k_m_197 ⟨by decide, by decide⟩ ok_76 rfl (Nat.le_of_ble_eq_true rfl) (Nat.le_of_ble_eq_true rfl) rfl rfl h (fun a6 u6 h => ?_)
        refine ws_iconst (v := 3) (dcd d_m_mends_0 23 rfl) (by decide) ?_
        refine ws_icmp_ne (tgt := 46) (dcd d_m_mends_0 24 rfl) (by decide) (fun c7 => ?_) (fun c7 => ?_)
        · have h := h.1 c7
          refine ws_aload_n 0 (dcd d_m_mends_0 27 rfl) rfl ?_
          refine ws_iload_n 2 (dcd d_m_mends_0 28 rfl) rfl ?_
          refine ws_callVV (o := 76) (As := [.int x2]) (st := []) (la := [(0, .ref 76), (1, .int x2)]) (dcd d_m_mends_0 29 rfl) cv_m_setPlans k_m_271 ⟨by decide, by decide⟩ ok_76 rfl (Nat.le_of_ble_eq_true rfl) (Nat.le_of_ble_eq_true rfl) rfl rfl h (fun u8 h => ?_)
          refine ws_aload_n 0 (dcd d_m_mends_1 0 rfl) rfl ?_
          refine ws_iload_n 1 (dcd d_m_mends_1 1 rfl) rfl ?_
          refine ws_iload_n 2 (dcd d_m_mends_1 2 rfl) rfl ?_
          refine ws_callVI (o := 76) (As := [.int x1, .int x2]) (st := []) (la := [(0, .ref 76), (1, .int x1), (2, .int x2)]) (dcd d_m_mends_1 3 rfl) cv_m_othersBy k_m_275 ⟨by decide, by decide⟩ ok_76 rfl (Nat.le_of_ble_eq_true rfl) (Nat.le_of_ble_eq_true rfl) rfl rfl h (fun a9 u9 h => ?_)
          refine ws_istore_n (l' := [(3, .int a9), (0, .ref 76), (1, .int x1), (2, .int x2)]) (dcd d_m_mends_1 4 rfl) (by decide) rfl ?_
          refine ws_aload_n 1 (dcd d_m_mends_1 5 rfl) rfl ?_
          refine ws_aload_n 1 (dcd d_m_mends_1 6 rfl) rfl ?_
          refine ws_getI f_m_268 rfl (dcd d_m_mends_1 7 rfl) ok_76 ?_
          refine ws_iload_n 0 (dcd d_m_mends_1 8 rfl) rfl ?_
          refine ws_callVI (o := 76) (As := [.int (mI u9 76 31), .int a9]) (st := []) (la := [(0, .ref 76), (1, .int (mI u9 76 31)), (2, .int a9)]) (dcd d_m_mends_1 9 rfl) cv_m_ask k_m_104 ⟨by decide, by decide⟩ ok_76 rfl (Nat.le_of_ble_eq_true rfl) (Nat.le_of_ble_eq_true rfl) rfl rfl sp_m_ask ?_
          rintro _ _ ⟨rfl, rfl⟩
          exact ws_iret (dcd d_m_mends_1 10 rfl) ⟨_, rfl, rfl⟩ h
        · have h := h.2 c7
          refine ws_bipush (v := (-2)) (dcd d_m_mends_0 25 rfl) (by decide) ?_
          exact ws_iret (dcd d_m_mends_0 26 rfl) ⟨_, rfl, rfl⟩ h
      · have h := h.2 c5
        refine ws_bipush (v := (-4)) (dcd d_m_mends_0 19 rfl) (by decide) ?_
        exact ws_iret (dcd d_m_mends_0 20 rfl) ⟨_, rfl, rfl⟩ h
    · have h := h.2 c3
      refine ws_if_ne (tgt := 20) (dcd d_m_mends_0 8 rfl) (by decide) (fun c => absurd (show (0 : Int32) = 0 from by decide) c) (fun _ => ?_)
      refine ws_iconst (v := (-1)) (dcd d_m_mends_0 9 rfl) (by decide) ?_
      exact ws_iret (dcd d_m_mends_0 10 rfl) ⟨_, rfl, rfl⟩ h
  · have h := h.2 c1
    refine ws_if_eq (tgt := 18) (dcd d_m_mends_0 3 rfl) (by decide) (fun _ => ?_) (fun c => absurd (show (0 : Int32) = 0 from by decide) c)
    refine ws_iconst (v := (-1)) (dcd d_m_mends_0 9 rfl) (by decide) ?_
    exact ws_iret (dcd d_m_mends_0 10 rfl) ⟨_, rfl, rfl⟩ h
theorem sg_m_setPlans_0 {x1 : Int32}  (h : Ws G m_fromNow 0 [(0, .ref 76)] [] u (RV fun u1 => Ws G m_setPlans 6 [(0, .ref 76), (1, .int x1), (2, .int 0)] [] u1 Q)) : Ws G m_setPlans 0 [(0, .ref 76), (1, .int x1)] [] u Q := by
  refine ws_aload_n 0 (dcd d_m_setPlans_0 0 rfl) rfl ?_
  refine ws_callVV (o := 76) (As := []) (st := []) (la := [(0, .ref 76)]) (dcd d_m_setPlans_0 1 rfl) cv_m_fromNow k_m_205 ⟨by decide, by decide⟩ ok_76 rfl (Nat.le_of_ble_eq_true rfl) (Nat.le_of_ble_eq_true rfl) rfl rfl h (fun u1 h => ?_)
  refine ws_iconst (v := 0) (dcd d_m_setPlans_0 2 rfl) (by decide) ?_
  refine ws_istore_n (l' := [(2, .int 0), (0, .ref 76), (1, .int x1)]) (dcd d_m_setPlans_0 3 rfl) (by decide) rfl ?_
  exact ws_loc [1, 2, 0] rfl h
theorem sg_m_setPlans_6 {x1 : Int32} {x2 : Int32}  (h : ((x1 < x2 → Q none u) ∧ (¬ (x1 < x2) → Ws G m_setPlans 13 [(0, .ref 76), (1, .int x1), (2, .int x2), (3, .int 0)] [] u Q))) : Ws G m_setPlans 6 [(0, .ref 76), (1, .int x1), (2, .int x2)] [] u Q := by
  refine ws_iload_n 2 (dcd d_m_setPlans_0 4 rfl) rfl ?_
  refine ws_iload_n 1 (dcd d_m_setPlans_0 5 rfl) rfl ?_
  refine ws_icmp_gt (tgt := 64) (dcd d_m_setPlans_0 6 rfl) (by decide) (fun c1 => ?_) (fun c1 => ?_)
  · have h := h.1 c1
    exact ws_vret (dcd d_m_setPlans_1 7 rfl) rfl h
  · have h := h.2 c1
    refine ws_iconst (v := 0) (dcd d_m_setPlans_0 7 rfl) (by decide) ?_
    refine ws_istore_n (l' := [(3, .int 0), (0, .ref 76), (1, .int x1), (2, .int x2)]) (dcd d_m_setPlans_0 8 rfl) (by decide) rfl ?_
    exact ws_loc [1, 2, 3, 0] rfl h
theorem sg_m_setPlans_13 {x1 : Int32} {x2 : Int32} {x3 : Int32}  (h : (((mI u 76 11) ≤ x3 → Ws G m_passOne 0 [(0, .ref 76), (1, .int ((mI u 76 18) + x2)), (2, .int (mI u 76 19))] [] u (RV fun u2 => Ws G m_setPlans 6 [(0, .ref 76), (1, .int x1), (2, .int (x2 + 1))] [] u2 Q)) ∧ (¬ ((mI u 76 11) ≤ x3) → (vp_in x3 7 ∧ (vp_in ((7 * x2) + x3) 427 ∧ Ws G m_setPlans 13 [(0, .ref 76), (1, .int x1), (2, .int x2), (3, .int (x3 + 1))] [] (pI u 94 (((7 * x2) + x3) : Int32).toNatClampNeg (mI u 85 (x3 : Int32).toNatClampNeg)) Q))))) : Ws G m_setPlans 13 [(0, .ref 76), (1, .int x1), (2, .int x2), (3, .int x3)] [] u Q := by
  refine ws_iload_n 3 (dcd d_m_setPlans_0 9 rfl) rfl ?_
  refine ws_aload_n 0 (dcd d_m_setPlans_0 10 rfl) rfl ?_
  refine ws_getI f_m_156 rfl (dcd d_m_setPlans_0 11 rfl) ok_76 ?_
  refine ws_icmp_ge (tgt := 44) (dcd d_m_setPlans_0 12 rfl) (by decide) (fun c1 => ?_) (fun c1 => ?_)
  · have h := h.1 c1
    refine ws_aload_n 0 (dcd d_m_setPlans_0 27 rfl) rfl ?_
    refine ws_aload_n 0 (dcd d_m_setPlans_0 28 rfl) rfl ?_
    refine ws_getI f_m_162 rfl (dcd d_m_setPlans_0 29 rfl) ok_76 ?_
    refine ws_iload_n 2 (dcd d_m_setPlans_1 0 rfl) rfl ?_
    refine ws_iadd (dcd d_m_setPlans_1 1 rfl) ?_
    refine ws_aload_n 0 (dcd d_m_setPlans_1 2 rfl) rfl ?_
    refine ws_getI f_m_165 rfl (dcd d_m_setPlans_1 3 rfl) ok_76 ?_
    refine ws_callVV (o := 76) (As := [.int ((mI u 76 18) + x2), .int (mI u 76 19)]) (st := []) (la := [(0, .ref 76), (1, .int ((mI u 76 18) + x2)), (2, .int (mI u 76 19))]) (dcd d_m_setPlans_1 4 rfl) cv_m_passOne k_m_208 ⟨by decide, by decide⟩ ok_76 rfl (Nat.le_of_ble_eq_true rfl) (Nat.le_of_ble_eq_true rfl) rfl rfl h (fun u2 h => ?_)
    refine ws_iinc (v := 1) (l' := [(2, .int (x2 + 1)), (0, .ref 76), (1, .int x1), (3, .int x3)]) 2 (dcd d_m_setPlans_1 5 rfl) rfl (by decide) (by decide) rfl ?_
    refine ws_goto (tgt := 6) (dcd d_m_setPlans_1 6 rfl) (by decide) ?_
    exact ws_loc [1, 2, 0] rfl h
  · have h := h.2 c1
    refine ws_aload_n 0 (dcd d_m_setPlans_0 13 rfl) rfl ?_
    refine ws_getF (a := 94) f_m_65 rfl (dcd d_m_setPlans_0 14 rfl) ok_76 of_8_30 rfl ?_
    refine ws_bipush (v := 7) (dcd d_m_setPlans_0 15 rfl) (by decide) ?_
    refine ws_iload_n 2 (dcd d_m_setPlans_0 16 rfl) rfl ?_
    refine ws_imul (dcd d_m_setPlans_0 17 rfl) ?_
    refine ws_iload_n 3 (dcd d_m_setPlans_0 18 rfl) rfl ?_
    refine ws_iadd (dcd d_m_setPlans_0 19 rfl) ?_
    refine ws_aload_n 0 (dcd d_m_setPlans_0 20 rfl) rfl ?_
    refine ws_getF (a := 85) f_m_38 rfl (dcd d_m_setPlans_0 21 rfl) ok_76 of_8_20 rfl ?_
    refine ws_iload_n 3 (dcd d_m_setPlans_0 22 rfl) rfl ?_
    obtain ⟨e3, h⟩ := h
    refine ws_iald (L := 7) (dcd d_m_setPlans_0 23 rfl) (os_8_20 ok_76) (ol_8_20 ok_76) e3 ?_
    obtain ⟨e4, h⟩ := h
    refine ws_iast (L := 427) (dcd d_m_setPlans_0 24 rfl) (os_8_30 ok_76) (ol_8_30 ok_76) e4 ?_
    refine ws_iinc (v := 1) (l' := [(3, .int (x3 + 1)), (0, .ref 76), (1, .int x1), (2, .int x2)]) 3 (dcd d_m_setPlans_0 25 rfl) rfl (by decide) (by decide) rfl ?_
    refine ws_goto (tgt := 13) (dcd d_m_setPlans_0 26 rfl) (by decide) ?_
    exact ws_loc [1, 2, 3, 0] rfl h
theorem sg_m_othersBy_0 {x1 : Int32} {x2 : Int32}  (h : Ws G m_fromNow 0 [(0, .ref 76)] [] u (RV fun u1 => Ws G m_othersBy 15 [(0, .ref 76), (1, .int x1), (2, .int x2), (3, .int 0), (4, .int 1)] [] (pI u1 76 31 (-9)) Q)) : Ws G m_othersBy 0 [(0, .ref 76), (1, .int x1), (2, .int x2)] [] u Q := by
  refine ws_aload_n 0 (dcd d_m_othersBy_0 0 rfl) rfl ?_
  refine ws_callVV (o := 76) (As := []) (st := []) (la := [(0, .ref 76)]) (dcd d_m_othersBy_0 1 rfl) cv_m_fromNow k_m_205 ⟨by decide, by decide⟩ ok_76 rfl (Nat.le_of_ble_eq_true rfl) (Nat.le_of_ble_eq_true rfl) rfl rfl h (fun u1 h => ?_)
  refine ws_aload_n 0 (dcd d_m_othersBy_0 2 rfl) rfl ?_
  refine ws_bipush (v := (-9)) (dcd d_m_othersBy_0 3 rfl) (by decide) ?_
  refine ws_putI f_m_268 rfl nf_8_31 (dcd d_m_othersBy_0 4 rfl) ok_76 ?_
  refine ws_iconst (v := 0) (dcd d_m_othersBy_0 5 rfl) (by decide) ?_
  refine ws_istore_n (l' := [(3, .int 0), (0, .ref 76), (1, .int x1), (2, .int x2)]) (dcd d_m_othersBy_0 6 rfl) (by decide) rfl ?_
  refine ws_iconst (v := 1) (dcd d_m_othersBy_0 7 rfl) (by decide) ?_
  refine ws_istore (l' := [(4, .int 1), (3, .int 0), (0, .ref 76), (1, .int x1), (2, .int x2)]) (dcd d_m_othersBy_0 8 rfl) (by decide) rfl ?_
  exact ws_loc [2, 3, 4, 1, 0] rfl h
theorem sg_m_othersBy_15 {x1 : Int32} {x2 : Int32} {x3 : Int32} {x4 : Int32}  (h : ((x2 < x4 → Q (some (.int x3)) u) ∧ (¬ (x2 < x4) → Ws G m_passOne 0 [(0, .ref 76), (1, .int (((mI u 76 18) + x4) - 1)), (2, .int ((mI u 76 19) ||| (1 <<< (x1 &&& 31))))] [] u (RV fun u2 => Ws G m_othersBy 47 [(0, .ref 76), (1, .int x1), (2, .int x2), (3, .int 0), (4, .int x4), (5, .int 0)] [] u2 Q)))) : Ws G m_othersBy 15 [(0, .ref 76), (1, .int x1), (2, .int x2), (3, .int x3), (4, .int x4)] [] u Q := by
  refine ws_iload 4 (dcd d_m_othersBy_0 9 rfl) rfl ?_
  refine ws_iload_n 2 (dcd d_m_othersBy_0 10 rfl) rfl ?_
  refine ws_icmp_gt (tgt := 125) (dcd d_m_othersBy_0 11 rfl) (by decide) (fun c1 => ?_) (fun c1 => ?_)
  · have h := h.1 c1
    refine ws_iload_n 3 (dcd d_m_othersBy_2 9 rfl) rfl ?_
    exact ws_iret (dcd d_m_othersBy_2 10 rfl) ⟨_, rfl, rfl⟩ h
  · have h := h.2 c1
    refine ws_aload_n 0 (dcd d_m_othersBy_0 12 rfl) rfl ?_
    refine ws_aload_n 0 (dcd d_m_othersBy_0 13 rfl) rfl ?_
    refine ws_getI f_m_162 rfl (dcd d_m_othersBy_0 14 rfl) ok_76 ?_
    refine ws_iload 4 (dcd d_m_othersBy_0 15 rfl) rfl ?_
    refine ws_iadd (dcd d_m_othersBy_0 16 rfl) ?_
    refine ws_iconst (v := 1) (dcd d_m_othersBy_0 17 rfl) (by decide) ?_
    refine ws_isub (dcd d_m_othersBy_0 18 rfl) ?_
    refine ws_aload_n 0 (dcd d_m_othersBy_0 19 rfl) rfl ?_
    refine ws_getI f_m_165 rfl (dcd d_m_othersBy_0 20 rfl) ok_76 ?_
    refine ws_iconst (v := 1) (dcd d_m_othersBy_0 21 rfl) (by decide) ?_
    refine ws_iload_n 1 (dcd d_m_othersBy_0 22 rfl) rfl ?_
    refine ws_ishl (dcd d_m_othersBy_0 23 rfl) ?_
    refine ws_ior (dcd d_m_othersBy_0 24 rfl) ?_
    refine ws_callVV (o := 76) (As := [.int (((mI u 76 18) + x4) - 1), .int ((mI u 76 19) ||| (1 <<< (x1 &&& 31)))]) (st := []) (la := [(0, .ref 76), (1, .int (((mI u 76 18) + x4) - 1)), (2, .int ((mI u 76 19) ||| (1 <<< (x1 &&& 31))))]) (dcd d_m_othersBy_0 25 rfl) cv_m_passOne k_m_208 ⟨by decide, by decide⟩ ok_76 rfl (Nat.le_of_ble_eq_true rfl) (Nat.le_of_ble_eq_true rfl) rfl rfl h (fun u2 h => ?_)
    refine ws_iconst (v := 0) (dcd d_m_othersBy_0 26 rfl) (by decide) ?_
    refine ws_istore_n (l' := [(3, .int 0), (0, .ref 76), (1, .int x1), (2, .int x2), (4, .int x4)]) (dcd d_m_othersBy_0 27 rfl) (by decide) rfl ?_
    refine ws_iconst (v := 0) (dcd d_m_othersBy_0 28 rfl) (by decide) ?_
    refine ws_istore (l' := [(5, .int 0), (3, .int 0), (0, .ref 76), (1, .int x1), (2, .int x2), (4, .int x4)]) (dcd d_m_othersBy_0 29 rfl) (by decide) rfl ?_
    exact ws_loc [2, 3, 4, 1, 5, 0] rfl h
theorem sg_m_othersBy_47 {x1 : Int32} {x2 : Int32} {x3 : Int32} {x4 : Int32} {x5 : Int32}  (h : (((mI u 76 11) ≤ x5 → ((x3 ≤ 0 → Ws G m_othersBy 15 [(0, .ref 76), (1, .int x1), (2, .int x2), (3, .int x3), (4, .int (x4 + 1))] [] (pI u 76 31 (mI u 76 31)) Q) ∧ (¬ (x3 ≤ 0) → ((¬ (mI u 76 31) = (-9) → Ws G m_othersBy 15 [(0, .ref 76), (1, .int x1), (2, .int x2), (3, .int x3), (4, .int (x4 + 1))] [] (pI u 76 31 (mI u 76 31)) Q) ∧ ((mI u 76 31) = (-9) → Ws G m_othersBy 15 [(0, .ref 76), (1, .int x1), (2, .int x2), (3, .int x3), (4, .int (x4 + 1))] [] (pI u 76 31 x4) Q))))) ∧ (¬ ((mI u 76 11) ≤ x5) → (vp_in x5 7 ∧ (vp_in ((7 * x4) + x5) 427 ∧ ((¬ (mI u 85 (x5 : Int32).toNatClampNeg) = (mI u 94 (((7 * x4) + x5) : Int32).toNatClampNeg) → Ws G m_othersBy 47 [(0, .ref 76), (1, .int x1), (2, .int x2), (3, .int (x3 + 1)), (4, .int x4), (5, .int (x5 + 1))] [] u Q) ∧ ((mI u 85 (x5 : Int32).toNatClampNeg) = (mI u 94 (((7 * x4) + x5) : Int32).toNatClampNeg) → Ws G m_othersBy 47 [(0, .ref 76), (1, .int x1), (2, .int x2), (3, .int (x3 + 0)), (4, .int x4), (5, .int (x5 + 1))] [] u Q))))))) : Ws G m_othersBy 47 [(0, .ref 76), (1, .int x1), (2, .int x2), (3, .int x3), (4, .int x4), (5, .int x5)] [] u Q := by
  refine ws_iload 5 (dcd d_m_othersBy_1 0 rfl) rfl ?_
  refine ws_aload_n 0 (dcd d_m_othersBy_1 1 rfl) rfl ?_
  refine ws_getI f_m_156 rfl (dcd d_m_othersBy_1 2 rfl) ok_76 ?_
  refine ws_icmp_ge (tgt := 93) (dcd d_m_othersBy_1 3 rfl) (by decide) (fun c1 => ?_) (fun c1 => ?_)
  · have h := h.1 c1
    refine ws_aload_n 0 (dcd d_m_othersBy_1 25 rfl) rfl ?_
    refine ws_iload_n 3 (dcd d_m_othersBy_1 26 rfl) rfl ?_
    refine ws_if_le (tgt := 112) (dcd d_m_othersBy_1 27 rfl) (by decide) (fun c2 => ?_) (fun c2 => ?_)
    · have h := h.1 c2
      refine ws_aload_n 0 (dcd d_m_othersBy_2 4 rfl) rfl ?_
      refine ws_getI f_m_268 rfl (dcd d_m_othersBy_2 5 rfl) ok_76 ?_
      refine ws_putI f_m_268 rfl nf_8_31 (dcd d_m_othersBy_2 6 rfl) ok_76 ?_
      refine ws_iinc (v := 1) (l' := [(4, .int (x4 + 1)), (0, .ref 76), (1, .int x1), (2, .int x2), (3, .int x3), (5, .int x5)]) 4 (dcd d_m_othersBy_2 7 rfl) rfl (by decide) (by decide) rfl ?_
      refine ws_goto (tgt := 15) (dcd d_m_othersBy_2 8 rfl) (by decide) ?_
      exact ws_loc [1, 2, 3, 4, 0] rfl h
    · have h := h.2 c2
      refine ws_aload_n 0 (dcd d_m_othersBy_1 28 rfl) rfl ?_
      refine ws_getI f_m_268 rfl (dcd d_m_othersBy_1 29 rfl) ok_76 ?_
      refine ws_bipush (v := (-9)) (dcd d_m_othersBy_2 0 rfl) (by decide) ?_
      refine ws_icmp_ne (tgt := 112) (dcd d_m_othersBy_2 1 rfl) (by decide) (fun c3 => ?_) (fun c3 => ?_)
      · have h := h.1 c3
        refine ws_aload_n 0 (dcd d_m_othersBy_2 4 rfl) rfl ?_
        refine ws_getI f_m_268 rfl (dcd d_m_othersBy_2 5 rfl) ok_76 ?_
        refine ws_putI f_m_268 rfl nf_8_31 (dcd d_m_othersBy_2 6 rfl) ok_76 ?_
        refine ws_iinc (v := 1) (l' := [(4, .int (x4 + 1)), (0, .ref 76), (1, .int x1), (2, .int x2), (3, .int x3), (5, .int x5)]) 4 (dcd d_m_othersBy_2 7 rfl) rfl (by decide) (by decide) rfl ?_
        refine ws_goto (tgt := 15) (dcd d_m_othersBy_2 8 rfl) (by decide) ?_
        exact ws_loc [1, 2, 3, 4, 0] rfl h
      · have h := h.2 c3
        refine ws_iload 4 (dcd d_m_othersBy_2 2 rfl) rfl ?_
        refine ws_goto (tgt := 116) (dcd d_m_othersBy_2 3 rfl) (by decide) ?_
        refine ws_putI f_m_268 rfl nf_8_31 (dcd d_m_othersBy_2 6 rfl) ok_76 ?_
        refine ws_iinc (v := 1) (l' := [(4, .int (x4 + 1)), (0, .ref 76), (1, .int x1), (2, .int x2), (3, .int x3), (5, .int x5)]) 4 (dcd d_m_othersBy_2 7 rfl) rfl (by decide) (by decide) rfl ?_
        refine ws_goto (tgt := 15) (dcd d_m_othersBy_2 8 rfl) (by decide) ?_
        exact ws_loc [1, 2, 3, 4, 0] rfl h
  · have h := h.2 c1
    refine ws_iload_n 3 (dcd d_m_othersBy_1 4 rfl) rfl ?_
    refine ws_aload_n 0 (dcd d_m_othersBy_1 5 rfl) rfl ?_
    refine ws_getF (a := 85) f_m_38 rfl (dcd d_m_othersBy_1 6 rfl) ok_76 of_8_20 rfl ?_
    refine ws_iload 5 (dcd d_m_othersBy_1 7 rfl) rfl ?_
    obtain ⟨e4, h⟩ := h
    refine ws_iald (L := 7) (dcd d_m_othersBy_1 8 rfl) (os_8_20 ok_76) (ol_8_20 ok_76) e4 ?_
    refine ws_aload_n 0 (dcd d_m_othersBy_1 9 rfl) rfl ?_
    refine ws_getF (a := 94) f_m_65 rfl (dcd d_m_othersBy_1 10 rfl) ok_76 of_8_30 rfl ?_
    refine ws_bipush (v := 7) (dcd d_m_othersBy_1 11 rfl) (by decide) ?_
    refine ws_iload 4 (dcd d_m_othersBy_1 12 rfl) rfl ?_
    refine ws_imul (dcd d_m_othersBy_1 13 rfl) ?_
    refine ws_iload 5 (dcd d_m_othersBy_1 14 rfl) rfl ?_
    refine ws_iadd (dcd d_m_othersBy_1 15 rfl) ?_
    obtain ⟨e5, h⟩ := h
    refine ws_iald (L := 427) (dcd d_m_othersBy_1 16 rfl) (os_8_30 ok_76) (ol_8_30 ok_76) e5 ?_
    refine ws_icmp_ne (tgt := 84) (dcd d_m_othersBy_1 17 rfl) (by decide) (fun c6 => ?_) (fun c6 => ?_)
    · have h := h.1 c6
      refine ws_iconst (v := 1) (dcd d_m_othersBy_1 20 rfl) (by decide) ?_
      refine ws_iadd (dcd d_m_othersBy_1 21 rfl) ?_
      refine ws_istore_n (l' := [(3, .int (x3 + 1)), (0, .ref 76), (1, .int x1), (2, .int x2), (4, .int x4), (5, .int x5)]) (dcd d_m_othersBy_1 22 rfl) (by decide) rfl ?_
      refine ws_iinc (v := 1) (l' := [(5, .int (x5 + 1)), (3, .int (x3 + 1)), (0, .ref 76), (1, .int x1), (2, .int x2), (4, .int x4)]) 5 (dcd d_m_othersBy_1 23 rfl) rfl (by decide) (by decide) rfl ?_
      refine ws_goto (tgt := 47) (dcd d_m_othersBy_1 24 rfl) (by decide) ?_
      exact ws_loc [2, 3, 4, 1, 5, 0] rfl h
    · have h := h.2 c6
      refine ws_iconst (v := 0) (dcd d_m_othersBy_1 18 rfl) (by decide) ?_
      refine ws_goto (tgt := 85) (dcd d_m_othersBy_1 19 rfl) (by decide) ?_
      refine ws_iadd (dcd d_m_othersBy_1 21 rfl) ?_
      refine ws_istore_n (l' := [(3, .int (x3 + 0)), (0, .ref 76), (1, .int x1), (2, .int x2), (4, .int x4), (5, .int x5)]) (dcd d_m_othersBy_1 22 rfl) (by decide) rfl ?_
      refine ws_iinc (v := 1) (l' := [(5, .int (x5 + 1)), (3, .int (x3 + 0)), (0, .ref 76), (1, .int x1), (2, .int x2), (4, .int x4)]) 5 (dcd d_m_othersBy_1 23 rfl) rfl (by decide) (by decide) rfl ?_
      refine ws_goto (tgt := 47) (dcd d_m_othersBy_1 24 rfl) (by decide) ?_
      exact ws_loc [2, 3, 4, 1, 5, 0] rfl h
theorem sg_m_worst_0 {x1 : Int32}  (h : (((1 ≤ x1 ∧ x1 ≤ 60) → ((¬ (mI u 76 10) = 0 → Ws G m_shutMany 0 [(0, .ref 76)] [] u (RI fun a4 u4 => ((¬ a4 = 3 → Ws G m_setPlans 0 [(0, .ref 76), (1, .int x1)] [] u4 (RV fun u6 => Ws G m_worst 45 [(0, .ref 76), (1, .int x1), (2, .int 0), (3, .int (-1)), (4, .int 0)] [] u6 Q)) ∧ (a4 = 3 → Q (some (.int (-2))) u4)))) ∧ ((mI u 76 10) = 0 → Q (some (.int (-4))) u))) ∧ (¬ (1 ≤ x1 ∧ x1 ≤ 60) → Q (some (.int (-1))) u))) : Ws G m_worst 0 [(0, .ref 76), (1, .int x1)] [] u Q := by
  refine ws_iload_n 1 (dcd d_m_worst_0 0 rfl) rfl ?_
  refine ws_iconst (v := 1) (dcd d_m_worst_0 1 rfl) (by decide) ?_
  refine ws_bipush (v := 60) (dcd d_m_worst_0 2 rfl) (by decide) ?_
  refine ws_callSI (As := [.int x1, .int 1, .int 60]) (st := []) (la := [(0, .int x1), (1, .int 1), (2, .int 60)]) (dcd d_m_worst_0 3 rfl) cs_m_in k_m_78 ⟨by decide, by decide⟩ rfl (Nat.le_of_ble_eq_true rfl) (Nat.le_of_ble_eq_true rfl) rfl rfl sp_m_in ?_
  rintro _ _ ⟨rfl, ⟨rfl, c1⟩ | ⟨rfl, c1⟩⟩
  · have h := h.1 c1
    refine ws_if_ne (tgt := 12) (dcd d_m_worst_0 4 rfl) (by decide) (fun _ => ?_) (fun c => absurd c (by decide))
    refine ws_aload_n 0 (dcd d_m_worst_0 7 rfl) rfl ?_
    refine ws_getI f_m_153 rfl (dcd d_m_worst_0 8 rfl) ok_76 ?_
    refine ws_if_ne (tgt := 22) (dcd d_m_worst_0 9 rfl) (by decide) (fun c3 => ?_) (fun c3 => ?_)
    · have h := h.1 c3
      refine ws_aload_n 0 (dcd d_m_worst_0 12 rfl) rfl ?_
      refine ws_callVI (o := 76) (As := []) (st := []) (la := [(0, .ref 76)]) (dcd d_m_worst_0 13 rfl) cv_m_shutMany k_m_197 ⟨by decide, by decide⟩ ok_76 rfl (Nat.le_of_ble_eq_true rfl) (Nat.le_of_ble_eq_true rfl) rfl rfl h (fun a4 u4 h => ?_)
      refine ws_iconst (v := 3) (dcd d_m_worst_0 14 rfl) (by decide) ?_
      refine ws_icmp_ne (tgt := 33) (dcd d_m_worst_0 15 rfl) (by decide) (fun c5 => ?_) (fun c5 => ?_)
      · have h := h.1 c5
        refine ws_aload_n 0 (dcd d_m_worst_0 18 rfl) rfl ?_
        refine ws_iload_n 1 (dcd d_m_worst_0 19 rfl) rfl ?_
        refine ws_callVV (o := 76) (As := [.int x1]) (st := []) (la := [(0, .ref 76), (1, .int x1)]) (dcd d_m_worst_0 20 rfl) cv_m_setPlans k_m_271 ⟨by decide, by decide⟩ ok_76 rfl (Nat.le_of_ble_eq_true rfl) (Nat.le_of_ble_eq_true rfl) rfl rfl h (fun u6 h => ?_)
        refine ws_iconst (v := 0) (dcd d_m_worst_0 21 rfl) (by decide) ?_
        refine ws_istore_n (l' := [(2, .int 0), (0, .ref 76), (1, .int x1)]) (dcd d_m_worst_0 22 rfl) (by decide) rfl ?_
        refine ws_iconst (v := (-1)) (dcd d_m_worst_0 23 rfl) (by decide) ?_
        refine ws_istore_n (l' := [(3, .int (-1)), (2, .int 0), (0, .ref 76), (1, .int x1)]) (dcd d_m_worst_0 24 rfl) (by decide) rfl ?_
        refine ws_iconst (v := 0) (dcd d_m_worst_0 25 rfl) (by decide) ?_
        refine ws_istore (l' := [(4, .int 0), (3, .int (-1)), (2, .int 0), (0, .ref 76), (1, .int x1)]) (dcd d_m_worst_0 26 rfl) (by decide) rfl ?_
        exact ws_loc [3, 4, 2, 1, 0] rfl h
      · have h := h.2 c5
        refine ws_bipush (v := (-2)) (dcd d_m_worst_0 16 rfl) (by decide) ?_
        exact ws_iret (dcd d_m_worst_0 17 rfl) ⟨_, rfl, rfl⟩ h
    · have h := h.2 c3
      refine ws_bipush (v := (-4)) (dcd d_m_worst_0 10 rfl) (by decide) ?_
      exact ws_iret (dcd d_m_worst_0 11 rfl) ⟨_, rfl, rfl⟩ h
  · have h := h.2 c1
    refine ws_if_ne (tgt := 12) (dcd d_m_worst_0 4 rfl) (by decide) (fun c => absurd (show (0 : Int32) = 0 from by decide) c) (fun _ => ?_)
    refine ws_iconst (v := (-1)) (dcd d_m_worst_0 5 rfl) (by decide) ?_
    exact ws_iret (dcd d_m_worst_0 6 rfl) ⟨_, rfl, rfl⟩ h
theorem sg_m_worst_45 {x1 : Int32} {x2 : Int32} {x3 : Int32} {x4 : Int32}  (h : (((mI u 76 10) ≤ x4 → Q (some (.int x2)) (pI u 76 2 x3)) ∧ (¬ ((mI u 76 10) ≤ x4) → ((¬ (((mI u 76 19) >>> (x4 &&& 31)) &&& 1) = 1 → Ws G m_othersBy 0 [(0, .ref 76), (1, .int x4), (2, .int x1)] [] u (RI fun a3 u3 => ((a3 ≤ x3 → ((a3 ≤ x3 → Ws G m_worst 45 [(0, .ref 76), (1, .int x1), (2, .int x2), (3, .int x3), (4, .int (x4 + 1))] [] u3 Q) ∧ (¬ (a3 ≤ x3) → Ws G m_worst 45 [(0, .ref 76), (1, .int x1), (2, .int x2), (3, .int a3), (4, .int (x4 + 1))] [] u3 Q))) ∧ (¬ (a3 ≤ x3) → ((a3 ≤ x3 → Ws G m_worst 45 [(0, .ref 76), (1, .int x1), (2, .int x4), (3, .int x3), (4, .int (x4 + 1))] [] u3 Q) ∧ (¬ (a3 ≤ x3) → Ws G m_worst 45 [(0, .ref 76), (1, .int x1), (2, .int x4), (3, .int a3), (4, .int (x4 + 1))] [] u3 Q)))))) ∧ ((((mI u 76 19) >>> (x4 &&& 31)) &&& 1) = 1 → (((-1) ≤ x3 → (((-1) ≤ x3 → Ws G m_worst 45 [(0, .ref 76), (1, .int x1), (2, .int x2), (3, .int x3), (4, .int (x4 + 1))] [] u Q) ∧ (¬ ((-1) ≤ x3) → Ws G m_worst 45 [(0, .ref 76), (1, .int x1), (2, .int x2), (3, .int (-1)), (4, .int (x4 + 1))] [] u Q))) ∧ (¬ ((-1) ≤ x3) → (((-1) ≤ x3 → Ws G m_worst 45 [(0, .ref 76), (1, .int x1), (2, .int x4), (3, .int x3), (4, .int (x4 + 1))] [] u Q) ∧ (¬ ((-1) ≤ x3) → Ws G m_worst 45 [(0, .ref 76), (1, .int x1), (2, .int x4), (3, .int (-1)), (4, .int (x4 + 1))] [] u Q))))))))) : Ws G m_worst 45 [(0, .ref 76), (1, .int x1), (2, .int x2), (3, .int x3), (4, .int x4)] [] u Q := by
  refine ws_iload 4 (dcd d_m_worst_0 27 rfl) rfl ?_
  refine ws_aload_n 0 (dcd d_m_worst_0 28 rfl) rfl ?_
  refine ws_getI f_m_153 rfl (dcd d_m_worst_0 29 rfl) ok_76 ?_
  refine ws_icmp_ge (tgt := 112) (dcd d_m_worst_1 0 rfl) (by decide) (fun c1 => ?_) (fun c1 => ?_)
  · have h := h.1 c1
    refine ws_aload_n 0 (dcd d_m_worst_2 2 rfl) rfl ?_
    refine ws_iload_n 3 (dcd d_m_worst_2 3 rfl) rfl ?_
    refine ws_iload_n 2 (dcd d_m_worst_2 4 rfl) rfl ?_
    refine ws_callVI (o := 76) (As := [.int x3, .int x2]) (st := []) (la := [(0, .ref 76), (1, .int x3), (2, .int x2)]) (dcd d_m_worst_2 5 rfl) cv_m_ask k_m_104 ⟨by decide, by decide⟩ ok_76 rfl (Nat.le_of_ble_eq_true rfl) (Nat.le_of_ble_eq_true rfl) rfl rfl sp_m_ask ?_
    rintro _ _ ⟨rfl, rfl⟩
    exact ws_iret (dcd d_m_worst_2 6 rfl) ⟨_, rfl, rfl⟩ h
  · have h := h.2 c1
    refine ws_aload_n 0 (dcd d_m_worst_1 1 rfl) rfl ?_
    refine ws_getI f_m_165 rfl (dcd d_m_worst_1 2 rfl) ok_76 ?_
    refine ws_iload 4 (dcd d_m_worst_1 3 rfl) rfl ?_
    refine ws_ishr (dcd d_m_worst_1 4 rfl) ?_
    refine ws_iconst (v := 1) (dcd d_m_worst_1 5 rfl) (by decide) ?_
    refine ws_iand (dcd d_m_worst_1 6 rfl) ?_
    refine ws_iconst (v := 1) (dcd d_m_worst_1 7 rfl) (by decide) ?_
    refine ws_icmp_ne (tgt := 71) (dcd d_m_worst_1 8 rfl) (by decide) (fun c2 => ?_) (fun c2 => ?_)
    · have h := h.1 c2
      refine ws_aload_n 0 (dcd d_m_worst_1 11 rfl) rfl ?_
      refine ws_iload 4 (dcd d_m_worst_1 12 rfl) rfl ?_
      refine ws_iload_n 1 (dcd d_m_worst_1 13 rfl) rfl ?_
      refine ws_callVI (o := 76) (As := [.int x4, .int x1]) (st := []) (la := [(0, .ref 76), (1, .int x4), (2, .int x1)]) (dcd d_m_worst_1 14 rfl) cv_m_othersBy k_m_275 ⟨by decide, by decide⟩ ok_76 rfl (Nat.le_of_ble_eq_true rfl) (Nat.le_of_ble_eq_true rfl) rfl rfl h (fun a3 u3 h => ?_)
      refine ws_istore (l' := [(5, .int a3), (0, .ref 76), (1, .int x1), (2, .int x2), (3, .int x3), (4, .int x4)]) (dcd d_m_worst_1 15 rfl) (by decide) rfl ?_
      refine ws_iload 0 (dcd d_m_worst_1 16 rfl) rfl ?_
      refine ws_iload_n 4 (dcd d_m_worst_1 17 rfl) rfl ?_
      refine ws_icmp_le (tgt := 91) (dcd d_m_worst_1 18 rfl) (by decide) (fun c4 => ?_) (fun c4 => ?_)
      · have h := h.1 c4
        refine ws_iload_n 3 (dcd d_m_worst_1 21 rfl) rfl ?_
        refine ws_istore_n (l' := [(2, .int x2), (5, .int a3), (0, .ref 76), (1, .int x1), (3, .int x3), (4, .int x4)]) (dcd d_m_worst_1 22 rfl) (by decide) rfl ?_
        refine ws_iload 1 (dcd d_m_worst_1 23 rfl) rfl ?_
        refine ws_iload_n 4 (dcd d_m_worst_1 24 rfl) rfl ?_
        refine ws_icmp_le (tgt := 104) (dcd d_m_worst_1 25 rfl) (by decide) (fun c5 => ?_) (fun c5 => ?_)
        · have h := h.1 c5
          refine ws_iload_n 4 (dcd d_m_worst_1 28 rfl) rfl ?_
          refine ws_istore_n (l' := [(3, .int x3), (2, .int x2), (5, .int a3), (0, .ref 76), (1, .int x1), (4, .int x4)]) (dcd d_m_worst_1 29 rfl) (by decide) rfl ?_
          refine ws_iinc (v := 1) (l' := [(4, .int (x4 + 1)), (3, .int x3), (2, .int x2), (5, .int a3), (0, .ref 76), (1, .int x1)]) 5 (dcd d_m_worst_2 0 rfl) rfl (by decide) (by decide) rfl ?_
          refine ws_goto (tgt := 45) (dcd d_m_worst_2 1 rfl) (by decide) ?_
          exact ws_loc [4, 5, 2, 1, 0] rfl h
        · have h := h.2 c5
          refine ws_iload 1 (dcd d_m_worst_1 26 rfl) rfl ?_
          refine ws_goto (tgt := 105) (dcd d_m_worst_1 27 rfl) (by decide) ?_
          refine ws_istore_n (l' := [(3, .int a3), (2, .int x2), (5, .int a3), (0, .ref 76), (1, .int x1), (4, .int x4)]) (dcd d_m_worst_1 29 rfl) (by decide) rfl ?_
          refine ws_iinc (v := 1) (l' := [(4, .int (x4 + 1)), (3, .int a3), (2, .int x2), (5, .int a3), (0, .ref 76), (1, .int x1)]) 5 (dcd d_m_worst_2 0 rfl) rfl (by decide) (by decide) rfl ?_
          refine ws_goto (tgt := 45) (dcd d_m_worst_2 1 rfl) (by decide) ?_
          exact ws_loc [4, 5, 2, 1, 0] rfl h
      · have h := h.2 c4
        refine ws_iload 5 (dcd d_m_worst_1 19 rfl) rfl ?_
        refine ws_goto (tgt := 92) (dcd d_m_worst_1 20 rfl) (by decide) ?_
        refine ws_istore_n (l' := [(2, .int x4), (5, .int a3), (0, .ref 76), (1, .int x1), (3, .int x3), (4, .int x4)]) (dcd d_m_worst_1 22 rfl) (by decide) rfl ?_
        refine ws_iload 1 (dcd d_m_worst_1 23 rfl) rfl ?_
        refine ws_iload_n 4 (dcd d_m_worst_1 24 rfl) rfl ?_
        refine ws_icmp_le (tgt := 104) (dcd d_m_worst_1 25 rfl) (by decide) (fun c6 => ?_) (fun c6 => ?_)
        · have h := h.1 c6
          refine ws_iload_n 4 (dcd d_m_worst_1 28 rfl) rfl ?_
          refine ws_istore_n (l' := [(3, .int x3), (2, .int x4), (5, .int a3), (0, .ref 76), (1, .int x1), (4, .int x4)]) (dcd d_m_worst_1 29 rfl) (by decide) rfl ?_
          refine ws_iinc (v := 1) (l' := [(4, .int (x4 + 1)), (3, .int x3), (2, .int x4), (5, .int a3), (0, .ref 76), (1, .int x1)]) 5 (dcd d_m_worst_2 0 rfl) rfl (by decide) (by decide) rfl ?_
          refine ws_goto (tgt := 45) (dcd d_m_worst_2 1 rfl) (by decide) ?_
          exact ws_loc [4, 5, 2, 1, 0] rfl h
        · have h := h.2 c6
          refine ws_iload 1 (dcd d_m_worst_1 26 rfl) rfl ?_
          refine ws_goto (tgt := 105) (dcd d_m_worst_1 27 rfl) (by decide) ?_
          refine ws_istore_n (l' := [(3, .int a3), (2, .int x4), (5, .int a3), (0, .ref 76), (1, .int x1), (4, .int x4)]) (dcd d_m_worst_1 29 rfl) (by decide) rfl ?_
          refine ws_iinc (v := 1) (l' := [(4, .int (x4 + 1)), (3, .int a3), (2, .int x4), (5, .int a3), (0, .ref 76), (1, .int x1)]) 5 (dcd d_m_worst_2 0 rfl) rfl (by decide) (by decide) rfl ?_
          refine ws_goto (tgt := 45) (dcd d_m_worst_2 1 rfl) (by decide) ?_
          exact ws_loc [4, 5, 2, 1, 0] rfl h
    · have h := h.2 c2
      refine ws_iconst (v := (-1)) (dcd d_m_worst_1 9 rfl) (by decide) ?_
      refine ws_goto (tgt := 78) (dcd d_m_worst_1 10 rfl) (by decide) ?_
      refine ws_istore (l' := [(5, .int (-1)), (0, .ref 76), (1, .int x1), (2, .int x2), (3, .int x3), (4, .int x4)]) (dcd d_m_worst_1 15 rfl) (by decide) rfl ?_
      refine ws_iload 0 (dcd d_m_worst_1 16 rfl) rfl ?_
      refine ws_iload_n 4 (dcd d_m_worst_1 17 rfl) rfl ?_
      refine ws_icmp_le (tgt := 91) (dcd d_m_worst_1 18 rfl) (by decide) (fun c7 => ?_) (fun c7 => ?_)
      · have h := h.1 c7
        refine ws_iload_n 3 (dcd d_m_worst_1 21 rfl) rfl ?_
        refine ws_istore_n (l' := [(2, .int x2), (5, .int (-1)), (0, .ref 76), (1, .int x1), (3, .int x3), (4, .int x4)]) (dcd d_m_worst_1 22 rfl) (by decide) rfl ?_
        refine ws_iload 1 (dcd d_m_worst_1 23 rfl) rfl ?_
        refine ws_iload_n 4 (dcd d_m_worst_1 24 rfl) rfl ?_
        refine ws_icmp_le (tgt := 104) (dcd d_m_worst_1 25 rfl) (by decide) (fun c8 => ?_) (fun c8 => ?_)
        · have h := h.1 c8
          refine ws_iload_n 4 (dcd d_m_worst_1 28 rfl) rfl ?_
          refine ws_istore_n (l' := [(3, .int x3), (2, .int x2), (5, .int (-1)), (0, .ref 76), (1, .int x1), (4, .int x4)]) (dcd d_m_worst_1 29 rfl) (by decide) rfl ?_
          refine ws_iinc (v := 1) (l' := [(4, .int (x4 + 1)), (3, .int x3), (2, .int x2), (5, .int (-1)), (0, .ref 76), (1, .int x1)]) 5 (dcd d_m_worst_2 0 rfl) rfl (by decide) (by decide) rfl ?_
          refine ws_goto (tgt := 45) (dcd d_m_worst_2 1 rfl) (by decide) ?_
          exact ws_loc [4, 5, 2, 1, 0] rfl h
        · have h := h.2 c8
          refine ws_iload 1 (dcd d_m_worst_1 26 rfl) rfl ?_
          refine ws_goto (tgt := 105) (dcd d_m_worst_1 27 rfl) (by decide) ?_
          refine ws_istore_n (l' := [(3, .int (-1)), (2, .int x2), (5, .int (-1)), (0, .ref 76), (1, .int x1), (4, .int x4)]) (dcd d_m_worst_1 29 rfl) (by decide) rfl ?_
          refine ws_iinc (v := 1) (l' := [(4, .int (x4 + 1)), (3, .int (-1)), (2, .int x2), (5, .int (-1)), (0, .ref 76), (1, .int x1)]) 5 (dcd d_m_worst_2 0 rfl) rfl (by decide) (by decide) rfl ?_
          refine ws_goto (tgt := 45) (dcd d_m_worst_2 1 rfl) (by decide) ?_
          exact ws_loc [4, 5, 2, 1, 0] rfl h
      · have h := h.2 c7
        refine ws_iload 5 (dcd d_m_worst_1 19 rfl) rfl ?_
        refine ws_goto (tgt := 92) (dcd d_m_worst_1 20 rfl) (by decide) ?_
        refine ws_istore_n (l' := [(2, .int x4), (5, .int (-1)), (0, .ref 76), (1, .int x1), (3, .int x3), (4, .int x4)]) (dcd d_m_worst_1 22 rfl) (by decide) rfl ?_
        refine ws_iload 1 (dcd d_m_worst_1 23 rfl) rfl ?_
        refine ws_iload_n 4 (dcd d_m_worst_1 24 rfl) rfl ?_
        refine ws_icmp_le (tgt := 104) (dcd d_m_worst_1 25 rfl) (by decide) (fun c9 => ?_) (fun c9 => ?_)
        · have h := h.1 c9
          refine ws_iload_n 4 (dcd d_m_worst_1 28 rfl) rfl ?_
          refine ws_istore_n (l' := [(3, .int x3), (2, .int x4), (5, .int (-1)), (0, .ref 76), (1, .int x1), (4, .int x4)]) (dcd d_m_worst_1 29 rfl) (by decide) rfl ?_
          refine ws_iinc (v := 1) (l' := [(4, .int (x4 + 1)), (3, .int x3), (2, .int x4), (5, .int (-1)), (0, .ref 76), (1, .int x1)]) 5 (dcd d_m_worst_2 0 rfl) rfl (by decide) (by decide) rfl ?_
          refine ws_goto (tgt := 45) (dcd d_m_worst_2 1 rfl) (by decide) ?_
          exact ws_loc [4, 5, 2, 1, 0] rfl h
        · have h := h.2 c9
          refine ws_iload 1 (dcd d_m_worst_1 26 rfl) rfl ?_
          refine ws_goto (tgt := 105) (dcd d_m_worst_1 27 rfl) (by decide) ?_
          refine ws_istore_n (l' := [(3, .int (-1)), (2, .int x4), (5, .int (-1)), (0, .ref 76), (1, .int x1), (4, .int x4)]) (dcd d_m_worst_1 29 rfl) (by decide) rfl ?_
          refine ws_iinc (v := 1) (l' := [(4, .int (x4 + 1)), (3, .int (-1)), (2, .int x4), (5, .int (-1)), (0, .ref 76), (1, .int x1)]) 5 (dcd d_m_worst_2 0 rfl) rfl (by decide) (by decide) rfl ?_
          refine ws_goto (tgt := 45) (dcd d_m_worst_2 1 rfl) (by decide) ?_
          exact ws_loc [4, 5, 2, 1, 0] rfl h
end SEG
