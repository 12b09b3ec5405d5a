section SEG
variable {G : pG} {u : pM} {Q : Option Value → pM → Prop}
theorem sg_m_image_0 {x1 : Int32}  (h : (((0 ≤ x1 ∧ x1 ≤ 5) → ((¬ (mI u 76 10) = 0 → Ws G m_row 0 [(0, .ref 76), (1, .int x1), (2, .int ((mI u 76 11) + 2))] [] u (RI fun a4 u4 => (vp_in (40 * x1 + 0) 240 ∧ (vp_in (40 * x1 + 1) 240 ∧ Ws G m_image 53 [(0, .ref 76), (1, .int x1), (2, .int 0)] [] (pI (pI u4 79 ((40 * x1 + 0) : Int32).toNatClampNeg (mI u4 76 18)) 79 ((40 * x1 + 1) : Int32).toNatClampNeg (mI (pI u4 79 ((40 * x1 + 0) : Int32).toNatClampNeg (mI u4 76 18)) 76 19)) Q)))) ∧ ((mI u 76 10) = 0 → Q (some (.int (-4))) u))) ∧ (¬ (0 ≤ x1 ∧ x1 ≤ 5) → Q (some (.int (-1))) u))) : Ws G m_image 0 [(0, .ref 76), (1, .int x1)] [] u Q := by
  refine ws_iload_n 1 (dcd d_m_image_0 0 rfl) rfl ?_
  refine ws_callSI (As := [.int x1]) (st := []) (la := [(0, .int x1)]) (dcd d_m_image_0 1 rfl) cs_m_isRow k_m_82 ⟨by decide, by decide⟩ rfl (Nat.le_of_ble_eq_true rfl) (Nat.le_of_ble_eq_true rfl) rfl rfl sp_m_isRow ?_
  rintro _ _ ⟨rfl, ⟨rfl, c1⟩ | ⟨rfl, c1⟩⟩
  · have h := h.1 c1
    refine ws_if_ne (tgt := 9) (dcd d_m_image_0 2 rfl) (by decide) (fun _ => ?_) (fun c => absurd c (by decide))
    refine ws_aload_n 0 (dcd d_m_image_0 5 rfl) rfl ?_
    refine ws_getI f_m_153 rfl (dcd d_m_image_0 6 rfl) ok_76 ?_
    refine ws_if_ne (tgt := 19) (dcd d_m_image_0 7 rfl) (by decide) (fun c3 => ?_) (fun c3 => ?_)
    · have h := h.1 c3
      refine ws_aload_n 0 (dcd d_m_image_0 10 rfl) rfl ?_
      refine ws_iload_n 1 (dcd d_m_image_0 11 rfl) rfl ?_
      refine ws_aload_n 0 (dcd d_m_image_0 12 rfl) rfl ?_
      refine ws_getI f_m_156 rfl (dcd d_m_image_0 13 rfl) ok_76 ?_
      refine ws_iconst (v := 2) (dcd d_m_image_0 14 rfl) (by decide) ?_
      refine ws_iadd (dcd d_m_image_0 15 rfl) ?_
      refine ws_callVI (o := 76) (As := [.int x1, .int ((mI u 76 11) + 2)]) (st := []) (la := [(0, .ref 76), (1, .int x1), (2, .int ((mI u 76 11) + 2))]) (dcd d_m_image_0 16 rfl) cv_m_row k_m_212 ⟨by decide, by decide⟩ ok_76 rfl (Nat.le_of_ble_eq_true rfl) (Nat.le_of_ble_eq_true rfl) rfl rfl h (fun a4 u4 h => ?_)
      refine ws_pop (dcd d_m_image_0 17 rfl) rfl ?_
      refine ws_aload_n 0 (dcd d_m_image_0 18 rfl) rfl ?_
      refine ws_iload_n 1 (dcd d_m_image_0 19 rfl) rfl ?_
      refine ws_iconst (v := 0) (dcd d_m_image_0 20 rfl) (by decide) ?_
      refine ws_aload_n 0 (dcd d_m_image_0 21 rfl) rfl ?_
      refine ws_getI f_m_162 rfl (dcd d_m_image_0 22 rfl) ok_76 ?_
      obtain ⟨e5, h⟩ := h
      refine ws_callVV (o := 76) (As := [.int x1, .int 0, .int (mI u4 76 18)]) (st := []) (la := [(0, .ref 76), (1, .int x1), (2, .int 0), (3, .int (mI u4 76 18))]) (dcd d_m_image_0 23 rfl) cv_m_setRow k_m_93 ⟨by decide, by decide⟩ ok_76 rfl (Nat.le_of_ble_eq_true rfl) (Nat.le_of_ble_eq_true rfl) rfl rfl (sp_m_setRow e5) ?_
      rintro _ rfl
      refine ws_aload_n 0 (dcd d_m_image_0 24 rfl) rfl ?_
      refine ws_iload_n 1 (dcd d_m_image_0 25 rfl) rfl ?_
      refine ws_iconst (v := 1) (dcd d_m_image_0 26 rfl) (by decide) ?_
      refine ws_aload_n 0 (dcd d_m_image_0 27 rfl) rfl ?_
      refine ws_getI f_m_165 rfl (dcd d_m_image_0 28 rfl) ok_76 ?_
      obtain ⟨e6, h⟩ := h
      refine ws_callVV (o := 76) (As := [.int x1, .int 1, .int (mI (pI u4 79 ((40 * x1 + 0) : Int32).toNatClampNeg (mI u4 76 18)) 76 19)]) (st := []) (la := [(0, .ref 76), (1, .int x1), (2, .int 1), (3, .int (mI (pI u4 79 ((40 * x1 + 0) : Int32).toNatClampNeg (mI u4 76 18)) 76 19))]) (dcd d_m_image_0 29 rfl) cv_m_setRow k_m_93 ⟨by decide, by decide⟩ ok_76 rfl (Nat.le_of_ble_eq_true rfl) (Nat.le_of_ble_eq_true rfl) rfl rfl (sp_m_setRow e6) ?_
      rintro _ rfl
      refine ws_iconst (v := 0) (dcd d_m_image_1 0 rfl) (by decide) ?_
      refine ws_istore_n (l' := [(2, .int 0), (0, .ref 76), (1, .int x1)]) (dcd d_m_image_1 1 rfl) (by decide) rfl ?_
      exact ws_loc [1, 2, 0] rfl h
    · have h := h.2 c3
      refine ws_bipush (v := (-4)) (dcd d_m_image_0 8 rfl) (by decide) ?_
      exact ws_iret (dcd d_m_image_0 9 rfl) ⟨_, rfl, rfl⟩ h
  · have h := h.2 c1
    refine ws_if_ne (tgt := 9) (dcd d_m_image_0 2 rfl) (by decide) (fun c => absurd (show (0 : Int32) = 0 from by decide) c) (fun _ => ?_)
    refine ws_iconst (v := (-1)) (dcd d_m_image_0 3 rfl) (by decide) ?_
    exact ws_iret (dcd d_m_image_0 4 rfl) ⟨_, rfl, rfl⟩ h
theorem sg_m_image_53 {x1 : Int32} {x2 : Int32}  (h : (((mI u 76 11) ≤ x2 → Q (some (.int ((mI u 76 11) + 2))) u) ∧ (¬ ((mI u 76 11) ≤ x2) → (vp_in x2 7 ∧ (vp_in (40 * x1 + (2 + x2)) 240 ∧ Ws G m_image 53 [(0, .ref 76), (1, .int x1), (2, .int (x2 + 1))] [] (pI u 79 ((40 * x1 + (2 + x2)) : Int32).toNatClampNeg (mI u 84 (x2 : Int32).toNatClampNeg)) Q))))) : Ws G m_image 53 [(0, .ref 76), (1, .int x1), (2, .int x2)] [] u Q := by
  refine ws_iload_n 2 (dcd d_m_image_1 2 rfl) rfl ?_
  refine ws_aload_n 0 (dcd d_m_image_1 3 rfl) rfl ?_
  refine ws_getI f_m_156 rfl (dcd d_m_image_1 4 rfl) ok_76 ?_
  refine ws_icmp_ge (tgt := 81) (dcd d_m_image_1 5 rfl) (by decide) (fun c1 => ?_) (fun c1 => ?_)
  · have h := h.1 c1
    refine ws_aload_n 0 (dcd d_m_image_1 18 rfl) rfl ?_
    refine ws_getI f_m_156 rfl (dcd d_m_image_1 19 rfl) ok_76 ?_
    refine ws_iconst (v := 2) (dcd d_m_image_1 20 rfl) (by decide) ?_
    refine ws_iadd (dcd d_m_image_1 21 rfl) ?_
    exact ws_iret (dcd d_m_image_1 22 rfl) ⟨_, rfl, rfl⟩ h
  · have h := h.2 c1
    refine ws_aload_n 0 (dcd d_m_image_1 6 rfl) rfl ?_
    refine ws_iload_n 1 (dcd d_m_image_1 7 rfl) rfl ?_
    refine ws_iconst (v := 2) (dcd d_m_image_1 8 rfl) (by decide) ?_
    refine ws_iload_n 2 (dcd d_m_image_1 9 rfl) rfl ?_
    refine ws_iadd (dcd d_m_image_1 10 rfl) ?_
    refine ws_aload_n 0 (dcd d_m_image_1 11 rfl) rfl ?_
    refine ws_getF (a := 84) f_m_35 rfl (dcd d_m_image_1 12 rfl) ok_76 of_8_17 rfl ?_
    refine ws_iload_n 2 (dcd d_m_image_1 13 rfl) rfl ?_
    obtain ⟨e2, h⟩ := h
    refine ws_iald (L := 7) (dcd d_m_image_1 14 rfl) (os_8_17 ok_76) (ol_8_17 ok_76) e2 ?_
    obtain ⟨e3, h⟩ := h
    refine ws_callVV (o := 76) (As := [.int x1, .int (2 + x2), .int (mI u 84 (x2 : Int32).toNatClampNeg)]) (st := []) (la := [(0, .ref 76), (1, .int x1), (2, .int (2 + x2)), (3, .int (mI u 84 (x2 : Int32).toNatClampNeg))]) (dcd d_m_image_1 15 rfl) cv_m_setRow k_m_93 ⟨by decide, by decide⟩ ok_76 rfl (Nat.le_of_ble_eq_true rfl) (Nat.le_of_ble_eq_true rfl) rfl rfl (sp_m_setRow e3) ?_
    rintro _ rfl
    refine ws_iinc (v := 1) (l' := [(2, .int (x2 + 1)), (0, .ref 76), (1, .int x1)]) 2 (dcd d_m_image_1 16 rfl) rfl (by decide) (by decide) rfl ?_
    refine ws_goto (tgt := 53) (dcd d_m_image_1 17 rfl) (by decide) ?_
    exact ws_loc [1, 2, 0] rfl h
theorem sg_m_gone_0 {x1 : Int32}  (h : (((0 ≤ x1 ∧ x1 ≤ 5) → ((¬ (mI u 76 10) = 0 → (vp_in x1 6 ∧ ((0 ≤ (mI u 78 (x1 : Int32).toNatClampNeg) → (vp_in x1 6 ∧ (((mI u 78 (x1 : Int32).toNatClampNeg) = ((mI u 76 11) + 2) → Ws G m_isImage 0 [(0, .ref 76), (1, .int x1)] [] u (RI fun a8 u8 => ((¬ a8 = 0 → (vp_in (40 * x1 + 0) 240 ∧ (vp_in (40 * x1 + 1) 240 ∧ Ws G m_gone 91 [(0, .ref 76), (1, .int x1), (2, .int 0)] [] (pI (pI u8 76 18 (mI u8 79 ((40 * x1 + 0) : Int32).toNatClampNeg)) 76 19 (mI (pI u8 76 18 (mI u8 79 ((40 * x1 + 0) : Int32).toNatClampNeg)) 79 ((40 * x1 + 1) : Int32).toNatClampNeg)) Q))) ∧ (a8 = 0 → Q (some (.int (-3))) (mt u8 3))))) ∧ (¬ (mI u 78 (x1 : Int32).toNatClampNeg) = ((mI u 76 11) + 2) → Q (some (.int (-3))) (mt u 5))))) ∧ (¬ (0 ≤ (mI u 78 (x1 : Int32).toNatClampNeg)) → Q (some (.int (-3))) (mt u 1))))) ∧ ((mI u 76 10) = 0 → Q (some (.int (-4))) u))) ∧ (¬ (0 ≤ x1 ∧ x1 ≤ 5) → Q (some (.int (-1))) u))) : Ws G m_gone 0 [(0, .ref 76), (1, .int x1)] [] u Q := by
  refine ws_iload_n 1 (dcd d_m_gone_0 0 rfl) rfl ?_
  refine ws_callSI (As := [.int x1]) (st := []) (la := [(0, .int x1)]) (dcd d_m_gone_0 1 rfl) cs_m_isRow k_m_82 ⟨by decide, by decide⟩ rfl (Nat.le_of_ble_eq_true rfl) (Nat.le_of_ble_eq_true rfl) rfl rfl sp_m_isRow ?_
  rintro _ _ ⟨rfl, ⟨rfl, c1⟩ | ⟨rfl, c1⟩⟩
  · have h := h.1 c1
    refine ws_if_ne (tgt := 9) (dcd d_m_gone_0 2 rfl) (by decide) (fun _ => ?_) (fun c => absurd c (by decide))
    refine ws_aload_n 0 (dcd d_m_gone_0 5 rfl) rfl ?_
    refine ws_getI f_m_153 rfl (dcd d_m_gone_0 6 rfl) ok_76 ?_
    refine ws_if_ne (tgt := 19) (dcd d_m_gone_0 7 rfl) (by decide) (fun c3 => ?_) (fun c3 => ?_)
    · have h := h.1 c3
      refine ws_aload_n 0 (dcd d_m_gone_0 10 rfl) rfl ?_
      refine ws_getF (a := 78) f_m_17 rfl (dcd d_m_gone_0 11 rfl) ok_76 of_8_5 rfl ?_
      refine ws_iload_n 1 (dcd d_m_gone_0 12 rfl) rfl ?_
      obtain ⟨e4, h⟩ := h
      refine ws_iald (L := 6) (dcd d_m_gone_0 13 rfl) (os_8_5 ok_76) (ol_8_5 ok_76) e4 ?_
      refine ws_if_ge (tgt := 34) (dcd d_m_gone_0 14 rfl) (by decide) (fun c5 => ?_) (fun c5 => ?_)
      · have h := h.1 c5
        refine ws_aload_n 0 (dcd d_m_gone_0 19 rfl) rfl ?_
        refine ws_getF (a := 78) f_m_17 rfl (dcd d_m_gone_0 20 rfl) ok_76 of_8_5 rfl ?_
        refine ws_iload_n 1 (dcd d_m_gone_0 21 rfl) rfl ?_
        obtain ⟨e6, h⟩ := h
        refine ws_iald (L := 6) (dcd d_m_gone_0 22 rfl) (os_8_5 ok_76) (ol_8_5 ok_76) e6 ?_
        refine ws_aload_n 0 (dcd d_m_gone_0 23 rfl) rfl ?_
        refine ws_getI f_m_156 rfl (dcd d_m_gone_0 24 rfl) ok_76 ?_
        refine ws_iconst (v := 2) (dcd d_m_gone_0 25 rfl) (by decide) ?_
        refine ws_iadd (dcd d_m_gone_0 26 rfl) ?_
        refine ws_icmp_eq (tgt := 55) (dcd d_m_gone_0 27 rfl) (by decide) (fun c7 => ?_) (fun c7 => ?_)
        · have h := h.1 c7
          refine ws_aload_n 0 (dcd d_m_gone_1 2 rfl) rfl ?_
          refine ws_iload_n 1 (dcd d_m_gone_1 3 rfl) rfl ?_
          refine ws_callVI (o := 76) (As := [.int x1]) (st := []) (la := [(0, .ref 76), (1, .int x1)]) (dcd d_m_gone_1 4 rfl) cv_m_isImage k_m_278 ⟨by decide, by decide⟩ ok_76 rfl (Nat.le_of_ble_eq_true rfl) (Nat.le_of_ble_eq_true rfl) rfl rfl h (fun a8 u8 h => ?_)
          refine ws_if_ne (tgt := 69) (dcd d_m_gone_1 5 rfl) (by decide) (fun c9 => ?_) (fun c9 => ?_)
          · have h := h.1 c9
            refine ws_aload_n 0 (dcd d_m_gone_1 10 rfl) rfl ?_
            refine ws_aload_n 0 (dcd d_m_gone_1 11 rfl) rfl ?_
            refine ws_iload_n 1 (dcd d_m_gone_1 12 rfl) rfl ?_
            refine ws_iconst (v := 0) (dcd d_m_gone_1 13 rfl) (by decide) ?_
            obtain ⟨e10, h⟩ := h
            refine ws_callVI (o := 76) (As := [.int x1, .int 0]) (st := [.ref 76]) (la := [(0, .ref 76), (1, .int x1), (2, .int 0)]) (dcd d_m_gone_1 14 rfl) cv_m_rowAt k_m_100 ⟨by decide, by decide⟩ ok_76 rfl (Nat.le_of_ble_eq_true rfl) (Nat.le_of_ble_eq_true rfl) rfl rfl (sp_m_rowAt e10) ?_
            rintro _ _ ⟨rfl, rfl⟩
            refine ws_putI f_m_162 rfl nf_8_18 (dcd d_m_gone_1 15 rfl) ok_76 ?_
            refine ws_aload_n 0 (dcd d_m_gone_1 16 rfl) rfl ?_
            refine ws_aload_n 0 (dcd d_m_gone_1 17 rfl) rfl ?_
            refine ws_iload_n 1 (dcd d_m_gone_1 18 rfl) rfl ?_
            refine ws_iconst (v := 1) (dcd d_m_gone_1 19 rfl) (by decide) ?_
            obtain ⟨e11, h⟩ := h
            refine ws_callVI (o := 76) (As := [.int x1, .int 1]) (st := [.ref 76]) (la := [(0, .ref 76), (1, .int x1), (2, .int 1)]) (dcd d_m_gone_1 20 rfl) cv_m_rowAt k_m_100 ⟨by decide, by decide⟩ ok_76 rfl (Nat.le_of_ble_eq_true rfl) (Nat.le_of_ble_eq_true rfl) rfl rfl (sp_m_rowAt e11) ?_
            rintro _ _ ⟨rfl, rfl⟩
            refine ws_putI f_m_165 rfl nf_8_19 (dcd d_m_gone_1 21 rfl) ok_76 ?_
            refine ws_iconst (v := 0) (dcd d_m_gone_1 22 rfl) (by decide) ?_
            refine ws_istore_n (l' := [(2, .int 0), (0, .ref 76), (1, .int x1)]) (dcd d_m_gone_1 23 rfl) (by decide) rfl ?_
            exact ws_loc [1, 2, 0] rfl h
          · have h := h.2 c9
            refine ws_aload_n 0 (dcd d_m_gone_1 6 rfl) rfl ?_
            refine ws_iconst (v := 3) (dcd d_m_gone_1 7 rfl) (by decide) ?_
            refine ws_callVI (o := 76) (As := [.int 3]) (st := []) (la := [(0, .ref 76), (1, .int 3)]) (dcd d_m_gone_1 8 rfl) cv_m_meet k_m_86 ⟨by decide, by decide⟩ ok_76 rfl (Nat.le_of_ble_eq_true rfl) (Nat.le_of_ble_eq_true rfl) rfl rfl (sp_m_meet (vin (by decide) (by decide) (by decide))) ?_
            rintro _ _ ⟨rfl, rfl⟩
            exact ws_iret (dcd d_m_gone_1 9 rfl) ⟨_, rfl, rfl⟩ h
        · have h := h.2 c7
          refine ws_aload_n 0 (dcd d_m_gone_0 28 rfl) rfl ?_
          refine ws_iconst (v := 5) (dcd d_m_gone_0 29 rfl) (by decide) ?_
          refine ws_callVI (o := 76) (As := [.int 5]) (st := []) (la := [(0, .ref 76), (1, .int 5)]) (dcd d_m_gone_1 0 rfl) cv_m_meet k_m_86 ⟨by decide, by decide⟩ ok_76 rfl (Nat.le_of_ble_eq_true rfl) (Nat.le_of_ble_eq_true rfl) rfl rfl (sp_m_meet (vin (by decide) (by decide) (by decide))) ?_
          rintro _ _ ⟨rfl, rfl⟩
          exact ws_iret (dcd d_m_gone_1 1 rfl) ⟨_, rfl, rfl⟩ h
      · have h := h.2 c5
        refine ws_aload_n 0 (dcd d_m_gone_0 15 rfl) rfl ?_
        refine ws_iconst (v := 1) (dcd d_m_gone_0 16 rfl) (by decide) ?_
        refine ws_callVI (o := 76) (As := [.int 1]) (st := []) (la := [(0, .ref 76), (1, .int 1)]) (dcd d_m_gone_0 17 rfl) cv_m_meet k_m_86 ⟨by decide, by decide⟩ ok_76 rfl (Nat.le_of_ble_eq_true rfl) (Nat.le_of_ble_eq_true rfl) rfl rfl (sp_m_meet (vin (by decide) (by decide) (by decide))) ?_
        rintro _ _ ⟨rfl, rfl⟩
        exact ws_iret (dcd d_m_gone_0 18 rfl) ⟨_, rfl, rfl⟩ h
    · have h := h.2 c3
      refine ws_bipush (v := (-4)) (dcd d_m_gone_0 8 rfl) (by decide) ?_
      exact ws_iret (dcd d_m_gone_0 9 rfl) ⟨_, rfl, rfl⟩ h
  · have h := h.2 c1
    refine ws_if_ne (tgt := 9) (dcd d_m_gone_0 2 rfl) (by decide) (fun c => absurd (show (0 : Int32) = 0 from by decide) c) (fun _ => ?_)
    refine ws_iconst (v := (-1)) (dcd d_m_gone_0 3 rfl) (by decide) ?_
    exact ws_iret (dcd d_m_gone_0 4 rfl) ⟨_, rfl, rfl⟩ h
theorem sg_m_gone_91 {x1 : Int32} {x2 : Int32}  (h : (((mI u 76 11) ≤ x2 → Q (some (.int (mI u 76 18))) u) ∧ (¬ ((mI u 76 11) ≤ x2) → (vp_in (40 * x1 + (2 + x2)) 240 ∧ (vp_in x2 7 ∧ Ws G m_gone 91 [(0, .ref 76), (1, .int x1), (2, .int (x2 + 1))] [] (pI u 84 (x2 : Int32).toNatClampNeg (mI u 79 ((40 * x1 + (2 + x2)) : Int32).toNatClampNeg)) Q))))) : Ws G m_gone 91 [(0, .ref 76), (1, .int x1), (2, .int x2)] [] u Q := by
  refine ws_iload_n 2 (dcd d_m_gone_1 24 rfl) rfl ?_
  refine ws_aload_n 0 (dcd d_m_gone_1 25 rfl) rfl ?_
  refine ws_getI f_m_156 rfl (dcd d_m_gone_1 26 rfl) ok_76 ?_
  refine ws_icmp_ge (tgt := 119) (dcd d_m_gone_1 27 rfl) (by decide) (fun c1 => ?_) (fun c1 => ?_)
  · have h := h.1 c1
    refine ws_aload_n 0 (dcd d_m_gone_2 10 rfl) rfl ?_
    refine ws_getI f_m_162 rfl (dcd d_m_gone_2 11 rfl) ok_76 ?_
    exact ws_iret (dcd d_m_gone_2 12 rfl) ⟨_, rfl, rfl⟩ h
  · have h := h.2 c1
    refine ws_aload_n 0 (dcd d_m_gone_1 28 rfl) rfl ?_
    refine ws_getF (a := 84) f_m_35 rfl (dcd d_m_gone_1 29 rfl) ok_76 of_8_17 rfl ?_
    refine ws_iload_n 2 (dcd d_m_gone_2 0 rfl) rfl ?_
    refine ws_aload_n 0 (dcd d_m_gone_2 1 rfl) rfl ?_
    refine ws_iload_n 1 (dcd d_m_gone_2 2 rfl) rfl ?_
    refine ws_iconst (v := 2) (dcd d_m_gone_2 3 rfl) (by decide) ?_
    refine ws_iload_n 2 (dcd d_m_gone_2 4 rfl) rfl ?_
    refine ws_iadd (dcd d_m_gone_2 5 rfl) ?_
    obtain ⟨e2, h⟩ := h
    refine ws_callVI (o := 76) (As := [.int x1, .int (2 + x2)]) (st := [.int x2, .ref 84]) (la := [(0, .ref 76), (1, .int x1), (2, .int (2 + x2))]) (dcd d_m_gone_2 6 rfl) cv_m_rowAt k_m_100 ⟨by decide, by decide⟩ ok_76 rfl (Nat.le_of_ble_eq_true rfl) (Nat.le_of_ble_eq_true rfl) rfl rfl (sp_m_rowAt e2) ?_
    rintro _ _ ⟨rfl, rfl⟩
    obtain ⟨e3, h⟩ := h
    refine ws_iast (L := 7) (dcd d_m_gone_2 7 rfl) (os_8_17 ok_76) (ol_8_17 ok_76) e3 ?_
    refine ws_iinc (v := 1) (l' := [(2, .int (x2 + 1)), (0, .ref 76), (1, .int x1)]) 2 (dcd d_m_gone_2 8 rfl) rfl (by decide) (by decide) rfl ?_
    refine ws_goto (tgt := 91) (dcd d_m_gone_2 9 rfl) (by decide) ?_
    exact ws_loc [1, 2, 0] rfl h
theorem sg_m_isImage_0 {x1 : Int32}  (h : (vp_in (40 * x1 + 1) 240 ∧ (vp_in (40 * x1 + 0) 240 ∧ (((0 ≤ (mI u 79 ((40 * x1 + 0) : Int32).toNatClampNeg) ∧ (mI u 79 ((40 * x1 + 0) : Int32).toNatClampNeg) ≤ 100000) → (((0 ≤ (mI u 79 ((40 * x1 + 1) : Int32).toNatClampNeg) ∧ (mI u 79 ((40 * x1 + 1) : Int32).toNatClampNeg) ≤ ((1 <<< ((mI u 76 10) &&& 31)) - 1)) → Ws G m_sizeOf 0 [(0, .int (mI u 79 ((40 * x1 + 1) : Int32).toNatClampNeg))] [] u (RI fun a7 u7 => ((3 < a7 → Ws G m_isImage 58 [(0, .ref 76), (1, .int x1), (3, .int 0), (4, .int 0), (5, .int 0)] [] u7 Q) ∧ (¬ (3 < a7) → Ws G m_isImage 58 [(0, .ref 76), (1, .int x1), (3, .int 1), (4, .int 0), (5, .int 0)] [] u7 Q)))) ∧ (¬ (0 ≤ (mI u 79 ((40 * x1 + 1) : Int32).toNatClampNeg) ∧ (mI u 79 ((40 * x1 + 1) : Int32).toNatClampNeg) ≤ ((1 <<< ((mI u 76 10) &&& 31)) - 1)) → Ws G m_isImage 58 [(0, .ref 76), (1, .int x1), (3, .int 0), (4, .int 0), (5, .int 0)] [] u Q))) ∧ (¬ (0 ≤ (mI u 79 ((40 * x1 + 0) : Int32).toNatClampNeg) ∧ (mI u 79 ((40 * x1 + 0) : Int32).toNatClampNeg) ≤ 100000) → Ws G m_isImage 58 [(0, .ref 76), (1, .int x1), (3, .int 0), (4, .int 0), (5, .int 0)] [] u Q))))) : Ws G m_isImage 0 [(0, .ref 76), (1, .int x1)] [] u Q := by
  refine ws_aload_n 0 (dcd d_m_isImage_0 0 rfl) rfl ?_
  refine ws_iload_n 1 (dcd d_m_isImage_0 1 rfl) rfl ?_
  refine ws_iconst (v := 1) (dcd d_m_isImage_0 2 rfl) (by decide) ?_
  obtain ⟨e1, h⟩ := h
  refine ws_callVI (o := 76) (As := [.int x1, .int 1]) (st := []) (la := [(0, .ref 76), (1, .int x1), (2, .int 1)]) (dcd d_m_isImage_0 3 rfl) cv_m_rowAt k_m_100 ⟨by decide, by decide⟩ ok_76 rfl (Nat.le_of_ble_eq_true rfl) (Nat.le_of_ble_eq_true rfl) rfl rfl (sp_m_rowAt e1) ?_
  rintro _ _ ⟨rfl, rfl⟩
  refine ws_istore_n (l' := [(2, .int (mI u 79 ((40 * x1 + 1) : Int32).toNatClampNeg)), (0, .ref 76), (1, .int x1)]) (dcd d_m_isImage_0 4 rfl) (by decide) rfl ?_
  refine ws_aload_n 1 (dcd d_m_isImage_0 5 rfl) rfl ?_
  refine ws_iload_n 2 (dcd d_m_isImage_0 6 rfl) rfl ?_
  refine ws_iconst (v := 0) (dcd d_m_isImage_0 7 rfl) (by decide) ?_
  obtain ⟨e2, h⟩ := h
  refine ws_callVI (o := 76) (As := [.int x1, .int 0]) (st := []) (la := [(0, .ref 76), (1, .int x1), (2, .int 0)]) (dcd d_m_isImage_0 8 rfl) cv_m_rowAt k_m_100 ⟨by decide, by decide⟩ ok_76 rfl (Nat.le_of_ble_eq_true rfl) (Nat.le_of_ble_eq_true rfl) rfl rfl (sp_m_rowAt e2) ?_
  rintro _ _ ⟨rfl, rfl⟩
  refine ws_iconst (v := 0) (dcd d_m_isImage_0 9 rfl) (by decide) ?_
  refine ws_ldc (dcd d_m_isImage_0 10 rfl) q_m_204 ?_
  refine ws_callSI (As := [.int (mI u 79 ((40 * x1 + 0) : Int32).toNatClampNeg), .int 0, .int 100000]) (st := []) (la := [(0, .int (mI u 79 ((40 * x1 + 0) : Int32).toNatClampNeg)), (1, .int 0), (2, .int 100000)]) (dcd d_m_isImage_0 11 rfl) cs_m_in k_m_78 ⟨by decide, by decide⟩ rfl (Nat.le_of_ble_eq_true rfl) (Nat.le_of_ble_eq_true rfl) rfl rfl sp_m_in ?_
  rintro _ _ ⟨rfl, ⟨rfl, c3⟩ | ⟨rfl, c3⟩⟩
  · have h := h.1 c3
    refine ws_if_eq (tgt := 50) (dcd d_m_isImage_0 12 rfl) (by decide) (fun c => absurd c (by decide)) (fun _ => ?_)
    refine ws_iload_n 0 (dcd d_m_isImage_0 13 rfl) rfl ?_
    refine ws_iconst (v := 0) (dcd d_m_isImage_0 14 rfl) (by decide) ?_
    refine ws_iconst (v := 1) (dcd d_m_isImage_0 15 rfl) (by decide) ?_
    refine ws_aload_n 1 (dcd d_m_isImage_0 16 rfl) rfl ?_
    refine ws_getI f_m_153 rfl (dcd d_m_isImage_0 17 rfl) ok_76 ?_
    refine ws_ishl (dcd d_m_isImage_0 18 rfl) ?_
    refine ws_iconst (v := 1) (dcd d_m_isImage_0 19 rfl) (by decide) ?_
    refine ws_isub (dcd d_m_isImage_0 20 rfl) ?_
    refine ws_callSI (As := [.int (mI u 79 ((40 * x1 + 1) : Int32).toNatClampNeg), .int 0, .int ((1 <<< ((mI u 76 10) &&& 31)) - 1)]) (st := []) (la := [(0, .int (mI u 79 ((40 * x1 + 1) : Int32).toNatClampNeg)), (1, .int 0), (2, .int ((1 <<< ((mI u 76 10) &&& 31)) - 1))]) (dcd d_m_isImage_0 21 rfl) cs_m_in k_m_78 ⟨by decide, by decide⟩ rfl (Nat.le_of_ble_eq_true rfl) (Nat.le_of_ble_eq_true rfl) rfl rfl sp_m_in ?_
    rintro _ _ ⟨rfl, ⟨rfl, c5⟩ | ⟨rfl, c5⟩⟩
    · have h := h.1 c5
      refine ws_if_eq (tgt := 50) (dcd d_m_isImage_0 22 rfl) (by decide) (fun c => absurd c (by decide)) (fun _ => ?_)
      refine ws_iload_n 0 (dcd d_m_isImage_0 23 rfl) rfl ?_
      refine ws_callSI (As := [.int (mI u 79 ((40 * x1 + 1) : Int32).toNatClampNeg)]) (st := []) (la := [(0, .int (mI u 79 ((40 * x1 + 1) : Int32).toNatClampNeg))]) (dcd d_m_isImage_0 24 rfl) cs_m_sizeOf k_m_251 ⟨by decide, by decide⟩ rfl (Nat.le_of_ble_eq_true rfl) (Nat.le_of_ble_eq_true rfl) rfl rfl h (fun a7 u7 h => ?_)
      refine ws_iconst (v := 3) (dcd d_m_isImage_0 25 rfl) (by decide) ?_
      refine ws_icmp_gt (tgt := 50) (dcd d_m_isImage_0 26 rfl) (by decide) (fun c8 => ?_) (fun c8 => ?_)
      · have h := h.1 c8
        refine ws_iconst (v := 0) (dcd d_m_isImage_0 29 rfl) (by decide) ?_
        refine ws_istore_n (l' := [(3, .int 0), (2, .int (mI u 79 ((40 * x1 + 1) : Int32).toNatClampNeg)), (0, .ref 76), (1, .int x1)]) (dcd d_m_isImage_1 0 rfl) (by decide) rfl ?_
        refine ws_iconst (v := 0) (dcd d_m_isImage_1 1 rfl) (by decide) ?_
        refine ws_istore (l' := [(4, .int 0), (3, .int 0), (2, .int (mI u 79 ((40 * x1 + 1) : Int32).toNatClampNeg)), (0, .ref 76), (1, .int x1)]) (dcd d_m_isImage_1 2 rfl) (by decide) rfl ?_
        refine ws_iconst (v := 0) (dcd d_m_isImage_1 3 rfl) (by decide) ?_
        refine ws_istore (l' := [(5, .int 0), (4, .int 0), (3, .int 0), (2, .int (mI u 79 ((40 * x1 + 1) : Int32).toNatClampNeg)), (0, .ref 76), (1, .int x1)]) (dcd d_m_isImage_1 4 rfl) (by decide) rfl ?_
        exact ws_loc [4, 5, 2, 1, 0] rfl h
      · have h := h.2 c8
        refine ws_iconst (v := 1) (dcd d_m_isImage_0 27 rfl) (by decide) ?_
        refine ws_goto (tgt := 51) (dcd d_m_isImage_0 28 rfl) (by decide) ?_
        refine ws_istore_n (l' := [(3, .int 1), (2, .int (mI u 79 ((40 * x1 + 1) : Int32).toNatClampNeg)), (0, .ref 76), (1, .int x1)]) (dcd d_m_isImage_1 0 rfl) (by decide) rfl ?_
        refine ws_iconst (v := 0) (dcd d_m_isImage_1 1 rfl) (by decide) ?_
        refine ws_istore (l' := [(4, .int 0), (3, .int 1), (2, .int (mI u 79 ((40 * x1 + 1) : Int32).toNatClampNeg)), (0, .ref 76), (1, .int x1)]) (dcd d_m_isImage_1 2 rfl) (by decide) rfl ?_
        refine ws_iconst (v := 0) (dcd d_m_isImage_1 3 rfl) (by decide) ?_
        refine ws_istore (l' := [(5, .int 0), (4, .int 0), (3, .int 1), (2, .int (mI u 79 ((40 * x1 + 1) : Int32).toNatClampNeg)), (0, .ref 76), (1, .int x1)]) (dcd d_m_isImage_1 4 rfl) (by decide) rfl ?_
        exact ws_loc [4, 5, 2, 1, 0] rfl h
    · have h := h.2 c5
      refine ws_if_eq (tgt := 50) (dcd d_m_isImage_0 22 rfl) (by decide) (fun _ => ?_) (fun c => absurd (show (0 : Int32) = 0 from by decide) c)
      refine ws_iconst (v := 0) (dcd d_m_isImage_0 29 rfl) (by decide) ?_
      refine ws_istore_n (l' := [(3, .int 0), (2, .int (mI u 79 ((40 * x1 + 1) : Int32).toNatClampNeg)), (0, .ref 76), (1, .int x1)]) (dcd d_m_isImage_1 0 rfl) (by decide) rfl ?_
      refine ws_iconst (v := 0) (dcd d_m_isImage_1 1 rfl) (by decide) ?_
      refine ws_istore (l' := [(4, .int 0), (3, .int 0), (2, .int (mI u 79 ((40 * x1 + 1) : Int32).toNatClampNeg)), (0, .ref 76), (1, .int x1)]) (dcd d_m_isImage_1 2 rfl) (by decide) rfl ?_
      refine ws_iconst (v := 0) (dcd d_m_isImage_1 3 rfl) (by decide) ?_
      refine ws_istore (l' := [(5, .int 0), (4, .int 0), (3, .int 0), (2, .int (mI u 79 ((40 * x1 + 1) : Int32).toNatClampNeg)), (0, .ref 76), (1, .int x1)]) (dcd d_m_isImage_1 4 rfl) (by decide) rfl ?_
      exact ws_loc [4, 5, 2, 1, 0] rfl h
  · have h := h.2 c3
    refine ws_if_eq (tgt := 50) (dcd d_m_isImage_0 12 rfl) (by decide) (fun _ => ?_) (fun c => absurd (show (0 : Int32) = 0 from by decide) c)
    refine ws_iconst (v := 0) (dcd d_m_isImage_0 29 rfl) (by decide) ?_
    refine ws_istore_n (l' := [(3, .int 0), (2, .int (mI u 79 ((40 * x1 + 1) : Int32).toNatClampNeg)), (0, .ref 76), (1, .int x1)]) (dcd d_m_isImage_1 0 rfl) (by decide) rfl ?_
    refine ws_iconst (v := 0) (dcd d_m_isImage_1 1 rfl) (by decide) ?_
    refine ws_istore (l' := [(4, .int 0), (3, .int 0), (2, .int (mI u 79 ((40 * x1 + 1) : Int32).toNatClampNeg)), (0, .ref 76), (1, .int x1)]) (dcd d_m_isImage_1 2 rfl) (by decide) rfl ?_
    refine ws_iconst (v := 0) (dcd d_m_isImage_1 3 rfl) (by decide) ?_
    refine ws_istore (l' := [(5, .int 0), (4, .int 0), (3, .int 0), (2, .int (mI u 79 ((40 * x1 + 1) : Int32).toNatClampNeg)), (0, .ref 76), (1, .int x1)]) (dcd d_m_isImage_1 4 rfl) (by decide) rfl ?_
    exact ws_loc [4, 5, 2, 1, 0] rfl h
theorem sg_m_isImage_58 {x1 : Int32} {x3 : Int32} {x4 : Int32} {x5 : Int32}  (h : (((mI u 76 11) ≤ x5 → (vb x3 ∧ Q (some (.int x3)) u)) ∧ (¬ ((mI u 76 11) ≤ x5) → ((x3 = 0 → (vb x3 ∧ Q (some (.int x3)) u)) ∧ (¬ x3 = 0 → (vp_in (40 * x1 + (2 + x5)) 240 ∧ (((0 ≤ (mI u 79 ((40 * x1 + (2 + x5)) : Int32).toNatClampNeg) ∧ (mI u 79 ((40 * x1 + (2 + x5)) : Int32).toNatClampNeg) ≤ (mI u 76 10) - 1) → ((¬ ((x4 >>> ((mI u 79 ((40 * x1 + (2 + x5)) : Int32).toNatClampNeg) &&& 31)) &&& 1) = 0 → Ws G m_isImage 58 [(0, .ref 76), (1, .int x1), (3, .int 0), (4, .int (x4 ||| 0)), (5, .int (x5 + 1))] [] u Q) ∧ (((x4 >>> ((mI u 79 ((40 * x1 + (2 + x5)) : Int32).toNatClampNeg) &&& 31)) &&& 1) = 0 → Ws G m_isImage 58 [(0, .ref 76), (1, .int x1), (3, .int 1), (4, .int (x4 ||| (1 <<< ((mI u 79 ((40 * x1 + (2 + x5)) : Int32).toNatClampNeg) &&& 31)))), (5, .int (x5 + 1))] [] u Q))) ∧ (¬ (0 ≤ (mI u 79 ((40 * x1 + (2 + x5)) : Int32).toNatClampNeg) ∧ (mI u 79 ((40 * x1 + (2 + x5)) : Int32).toNatClampNeg) ≤ (mI u 76 10) - 1) → Ws G m_isImage 58 [(0, .ref 76), (1, .int x1), (3, .int 0), (4, .int (x4 ||| 0)), (5, .int (x5 + 1))] [] u Q)))))))) : Ws G m_isImage 58 [(0, .ref 76), (1, .int x1), (3, .int x3), (4, .int x4), (5, .int x5)] [] u Q := by
  refine ws_iload 4 (dcd d_m_isImage_1 5 rfl) rfl ?_
  refine ws_aload_n 0 (dcd d_m_isImage_1 6 rfl) rfl ?_
  refine ws_getI f_m_156 rfl (dcd d_m_isImage_1 7 rfl) ok_76 ?_
  refine ws_icmp_ge (tgt := 130) (dcd d_m_isImage_1 8 rfl) (by decide) (fun c1 => ?_) (fun c1 => ?_)
  · have h := h.1 c1
    refine ws_iload_n 2 (dcd d_m_isImage_2 14 rfl) rfl ?_
    exact ws_iret (dcd d_m_isImage_2 15 rfl) ⟨_, rfl, h.1⟩ h.2
  · have h := h.2 c1
    refine ws_iload_n 2 (dcd d_m_isImage_1 9 rfl) rfl ?_
    refine ws_if_eq (tgt := 130) (dcd d_m_isImage_1 10 rfl) (by decide) (fun c2 => ?_) (fun c2 => ?_)
    · have h := h.1 c2
      refine ws_iload_n 2 (dcd d_m_isImage_2 14 rfl) rfl ?_
      exact ws_iret (dcd d_m_isImage_2 15 rfl) ⟨_, rfl, h.1⟩ h.2
    · have h := h.2 c2
      refine ws_aload_n 0 (dcd d_m_isImage_1 11 rfl) rfl ?_
      refine ws_iload_n 1 (dcd d_m_isImage_1 12 rfl) rfl ?_
      refine ws_iconst (v := 2) (dcd d_m_isImage_1 13 rfl) (by decide) ?_
      refine ws_iload 4 (dcd d_m_isImage_1 14 rfl) rfl ?_
      refine ws_iadd (dcd d_m_isImage_1 15 rfl) ?_
      obtain ⟨e3, h⟩ := h
      refine ws_callVI (o := 76) (As := [.int x1, .int (2 + x5)]) (st := []) (la := [(0, .ref 76), (1, .int x1), (2, .int (2 + x5))]) (dcd d_m_isImage_1 16 rfl) cv_m_rowAt k_m_100 ⟨by decide, by decide⟩ ok_76 rfl (Nat.le_of_ble_eq_true rfl) (Nat.le_of_ble_eq_true rfl) rfl rfl (sp_m_rowAt e3) ?_
      rintro _ _ ⟨rfl, rfl⟩
      refine ws_istore (l' := [(6, .int (mI u 79 ((40 * x1 + (2 + x5)) : Int32).toNatClampNeg)), (0, .ref 76), (1, .int x1), (3, .int x3), (4, .int x4), (5, .int x5)]) (dcd d_m_isImage_1 17 rfl) (by decide) rfl ?_
      refine ws_aload_n 1 (dcd d_m_isImage_1 18 rfl) rfl ?_
      refine ws_iload 0 (dcd d_m_isImage_1 19 rfl) rfl ?_
      refine ws_callVI (o := 76) (As := [.int (mI u 79 ((40 * x1 + (2 + x5)) : Int32).toNatClampNeg)]) (st := []) (la := [(0, .ref 76), (1, .int (mI u 79 ((40 * x1 + (2 + x5)) : Int32).toNatClampNeg))]) (dcd d_m_isImage_1 20 rfl) cv_m_isDoor k_m_194 ⟨by decide, by decide⟩ ok_76 rfl (Nat.le_of_ble_eq_true rfl) (Nat.le_of_ble_eq_true rfl) rfl rfl sp_m_isDoor ?_
      rintro _ _ ⟨rfl, ⟨rfl, c4⟩ | ⟨rfl, c4⟩⟩
      · have h := h.1 c4
        refine ws_if_eq (tgt := 105) (dcd d_m_isImage_1 21 rfl) (by decide) (fun c => absurd c (by decide)) (fun _ => ?_)
        refine ws_iload 4 (dcd d_m_isImage_1 22 rfl) rfl ?_
        refine ws_iload 0 (dcd d_m_isImage_1 23 rfl) rfl ?_
        refine ws_ishr (dcd d_m_isImage_1 24 rfl) ?_
        refine ws_iconst (v := 1) (dcd d_m_isImage_1 25 rfl) (by decide) ?_
        refine ws_iand (dcd d_m_isImage_1 26 rfl) ?_
        refine ws_if_ne (tgt := 105) (dcd d_m_isImage_1 27 rfl) (by decide) (fun c6 => ?_) (fun c6 => ?_)
        · have h := h.1 c6
          refine ws_iconst (v := 0) (dcd d_m_isImage_2 0 rfl) (by decide) ?_
          refine ws_istore_n (l' := [(3, .int 0), (6, .int (mI u 79 ((40 * x1 + (2 + x5)) : Int32).toNatClampNeg)), (0, .ref 76), (1, .int x1), (4, .int x4), (5, .int x5)]) (dcd d_m_isImage_2 1 rfl) (by decide) rfl ?_
          refine ws_iload 4 (dcd d_m_isImage_2 2 rfl) rfl ?_
          refine ws_iload_n 0 (dcd d_m_isImage_2 3 rfl) rfl ?_
          refine ws_if_eq (tgt := 120) (dcd d_m_isImage_2 4 rfl) (by decide) (fun _ => ?_) (fun c => absurd (show (0 : Int32) = 0 from by decide) c)
          refine ws_iconst (v := 0) (dcd d_m_isImage_2 9 rfl) (by decide) ?_
          refine ws_ior (dcd d_m_isImage_2 10 rfl) ?_
          refine ws_istore (l' := [(4, .int (x4 ||| 0)), (3, .int 0), (6, .int (mI u 79 ((40 * x1 + (2 + x5)) : Int32).toNatClampNeg)), (0, .ref 76), (1, .int x1), (5, .int x5)]) (dcd d_m_isImage_2 11 rfl) (by decide) rfl ?_
          refine ws_iinc (v := 1) (l' := [(5, .int (x5 + 1)), (4, .int (x4 ||| 0)), (3, .int 0), (6, .int (mI u 79 ((40 * x1 + (2 + x5)) : Int32).toNatClampNeg)), (0, .ref 76), (1, .int x1)]) 5 (dcd d_m_isImage_2 12 rfl) rfl (by decide) (by decide) rfl ?_
          refine ws_goto (tgt := 58) (dcd d_m_isImage_2 13 rfl) (by decide) ?_
          exact ws_loc [4, 5, 2, 1, 0] rfl h
        · have h := h.2 c6
          refine ws_iconst (v := 1) (dcd d_m_isImage_1 28 rfl) (by decide) ?_
          refine ws_goto (tgt := 106) (dcd d_m_isImage_1 29 rfl) (by decide) ?_
          refine ws_istore_n (l' := [(3, .int 1), (6, .int (mI u 79 ((40 * x1 + (2 + x5)) : Int32).toNatClampNeg)), (0, .ref 76), (1, .int x1), (4, .int x4), (5, .int x5)]) (dcd d_m_isImage_2 1 rfl) (by decide) rfl ?_
          refine ws_iload 4 (dcd d_m_isImage_2 2 rfl) rfl ?_
          refine ws_iload_n 0 (dcd d_m_isImage_2 3 rfl) rfl ?_
          refine ws_if_eq (tgt := 120) (dcd d_m_isImage_2 4 rfl) (by decide) (fun c => absurd c (by decide)) (fun _ => ?_)
          refine ws_iconst (v := 1) (dcd d_m_isImage_2 5 rfl) (by decide) ?_
          refine ws_iload 1 (dcd d_m_isImage_2 6 rfl) rfl ?_
          refine ws_ishl (dcd d_m_isImage_2 7 rfl) ?_
          refine ws_goto (tgt := 121) (dcd d_m_isImage_2 8 rfl) (by decide) ?_
          refine ws_ior (dcd d_m_isImage_2 10 rfl) ?_
          refine ws_istore (l' := [(4, .int (x4 ||| (1 <<< ((mI u 79 ((40 * x1 + (2 + x5)) : Int32).toNatClampNeg) &&& 31)))), (3, .int 1), (6, .int (mI u 79 ((40 * x1 + (2 + x5)) : Int32).toNatClampNeg)), (0, .ref 76), (1, .int x1), (5, .int x5)]) (dcd d_m_isImage_2 11 rfl) (by decide) rfl ?_
          refine ws_iinc (v := 1) (l' := [(5, .int (x5 + 1)), (4, .int (x4 ||| (1 <<< ((mI u 79 ((40 * x1 + (2 + x5)) : Int32).toNatClampNeg) &&& 31)))), (3, .int 1), (6, .int (mI u 79 ((40 * x1 + (2 + x5)) : Int32).toNatClampNeg)), (0, .ref 76), (1, .int x1)]) 5 (dcd d_m_isImage_2 12 rfl) rfl (by decide) (by decide) rfl ?_
          refine ws_goto (tgt := 58) (dcd d_m_isImage_2 13 rfl) (by decide) ?_
          exact ws_loc [4, 5, 2, 1, 0] rfl h
      · have h := h.2 c4
        refine ws_if_eq (tgt := 105) (dcd d_m_isImage_1 21 rfl) (by decide) (fun _ => ?_) (fun c => absurd (show (0 : Int32) = 0 from by decide) c)
        refine ws_iconst (v := 0) (dcd d_m_isImage_2 0 rfl) (by decide) ?_
        refine ws_istore_n (l' := [(3, .int 0), (6, .int (mI u 79 ((40 * x1 + (2 + x5)) : Int32).toNatClampNeg)), (0, .ref 76), (1, .int x1), (4, .int x4), (5, .int x5)]) (dcd d_m_isImage_2 1 rfl) (by decide) rfl ?_
        refine ws_iload 4 (dcd d_m_isImage_2 2 rfl) rfl ?_
        refine ws_iload_n 0 (dcd d_m_isImage_2 3 rfl) rfl ?_
        refine ws_if_eq (tgt := 120) (dcd d_m_isImage_2 4 rfl) (by decide) (fun _ => ?_) (fun c => absurd (show (0 : Int32) = 0 from by decide) c)
        refine ws_iconst (v := 0) (dcd d_m_isImage_2 9 rfl) (by decide) ?_
        refine ws_ior (dcd d_m_isImage_2 10 rfl) ?_
        refine ws_istore (l' := [(4, .int (x4 ||| 0)), (3, .int 0), (6, .int (mI u 79 ((40 * x1 + (2 + x5)) : Int32).toNatClampNeg)), (0, .ref 76), (1, .int x1), (5, .int x5)]) (dcd d_m_isImage_2 11 rfl) (by decide) rfl ?_
        refine ws_iinc (v := 1) (l' := [(5, .int (x5 + 1)), (4, .int (x4 ||| 0)), (3, .int 0), (6, .int (mI u 79 ((40 * x1 + (2 + x5)) : Int32).toNatClampNeg)), (0, .ref 76), (1, .int x1)]) 5 (dcd d_m_isImage_2 12 rfl) rfl (by decide) (by decide) rfl ?_
        refine ws_goto (tgt := 58) (dcd d_m_isImage_2 13 rfl) (by decide) ?_
        exact ws_loc [4, 5, 2, 1, 0] rfl h
theorem sg_m_asked_0   (h : Q (some (.int (mI u 76 2))) u) : Ws G m_asked 0 [(0, .ref 76)] [] u Q := by
  refine ws_aload_n 0 (dcd d_m_asked_0 0 rfl) rfl ?_
  refine ws_getI f_m_72 rfl (dcd d_m_asked_0 1 rfl) ok_76 ?_
  exact ws_iret (dcd d_m_asked_0 2 rfl) ⟨_, rfl, rfl⟩ h
theorem sg_m_upper_0   (h : Q (some (.long (mL u 76 3))) u) : Ws G m_upper 0 [(0, .ref 76)] [] u Q := by
  refine ws_aload_n 0 (dcd d_m_upper_0 0 rfl) rfl ?_
  refine ws_getL f_m_75 rfl (dcd d_m_upper_0 1 rfl) ok_76 ?_
  exact ws_lret (dcd d_m_upper_0 2 rfl) rfl h
theorem sg_m_lower_0   (h : Q (some (.long (mL u 76 4))) u) : Ws G m_lower 0 [(0, .ref 76)] [] u Q := by
  refine ws_aload_n 0 (dcd d_m_lower_0 0 rfl) rfl ?_
  refine ws_getL f_m_13 rfl (dcd d_m_lower_0 1 rfl) ok_76 ?_
  exact ws_lret (dcd d_m_lower_0 2 rfl) rfl h
theorem sg_m_count_0 {x1 : Int32}  (h : (((0 ≤ x1 ∧ x1 ≤ 7) → Ws G m_counts 0 [(0, .ref 76), (1, .int x1)] [] u (RI fun a3 u3 => Q (some (.int a3)) u3)) ∧ (¬ (0 ≤ x1 ∧ x1 ≤ 7) → Q (some (.int (-1))) u))) : Ws G m_count 0 [(0, .ref 76), (1, .int x1)] [] u Q := by
  refine ws_iload_n 1 (dcd d_m_count_0 0 rfl) rfl ?_
  refine ws_iconst (v := 0) (dcd d_m_count_0 1 rfl) (by decide) ?_
  refine ws_bipush (v := 7) (dcd d_m_count_0 2 rfl) (by decide) ?_
  refine ws_callSI (As := [.int x1, .int 0, .int 7]) (st := []) (la := [(0, .int x1), (1, .int 0), (2, .int 7)]) (dcd d_m_count_0 3 rfl) cs_m_in k_m_78 ⟨by decide, by decide⟩ rfl (Nat.le_of_ble_eq_true rfl) (Nat.le_of_ble_eq_true rfl) rfl rfl sp_m_in ?_
  rintro _ _ ⟨rfl, ⟨rfl, c1⟩ | ⟨rfl, c1⟩⟩
  · have h := h.1 c1
    refine ws_if_eq (tgt := 18) (dcd d_m_count_0 4 rfl) (by decide) (fun c => absurd c (by decide)) (fun _ => ?_)
    refine ws_aload_n 0 (dcd d_m_count_0 5 rfl) rfl ?_
    refine ws_iload_n 1 (dcd d_m_count_0 6 rfl) rfl ?_
    refine ws_callVI (o := 76) (As := [.int x1]) (st := []) (la := [(0, .ref 76), (1, .int x1)]) (dcd d_m_count_0 7 rfl) cv_m_counts k_m_281 ⟨by decide, by decide⟩ ok_76 rfl (Nat.le_of_ble_eq_true rfl) (Nat.le_of_ble_eq_true rfl) rfl rfl h (fun a3 u3 h => ?_)
    refine ws_goto (tgt := 19) (dcd d_m_count_0 8 rfl) (by decide) ?_
    exact ws_iret (dcd d_m_count_0 10 rfl) ⟨_, rfl, rfl⟩ h
  · have h := h.2 c1
    refine ws_if_eq (tgt := 18) (dcd d_m_count_0 4 rfl) (by decide) (fun _ => ?_) (fun c => absurd (show (0 : Int32) = 0 from by decide) c)
    refine ws_iconst (v := (-1)) (dcd d_m_count_0 9 rfl) (by decide) ?_
    exact ws_iret (dcd d_m_count_0 10 rfl) ⟨_, rfl, rfl⟩ h
theorem sg_m_counts_0 {x1 : Int32}  (h : Ws G m_counts 4 [(0, .ref 76), (1, .int x1), (2, .int 0), (3, .int 0)] [] u Q) : Ws G m_counts 0 [(0, .ref 76), (1, .int x1)] [] u Q := by
  refine ws_iconst (v := 0) (dcd d_m_counts_0 0 rfl) (by decide) ?_
  refine ws_istore_n (l' := [(2, .int 0), (0, .ref 76), (1, .int x1)]) (dcd d_m_counts_0 1 rfl) (by decide) rfl ?_
  refine ws_iconst (v := 0) (dcd d_m_counts_0 2 rfl) (by decide) ?_
  refine ws_istore_n (l' := [(3, .int 0), (2, .int 0), (0, .ref 76), (1, .int x1)]) (dcd d_m_counts_0 3 rfl) (by decide) rfl ?_
  exact ws_loc [2, 3, 1, 0] rfl h
theorem sg_m_counts_4 {x1 : Int32} {x2 : Int32} {x3 : Int32}  (h : ((7 ≤ x3 → ((x1 = 0 → Q (some (.int (mI u 76 10))) u) ∧ (x1 = 1 → Q (some (.int (mI u 76 11))) u) ∧ (x1 = 2 → Q (some (.int (mI u 76 18))) u) ∧ (x1 = 3 → Q (some (.int x2)) u) ∧ (x1 = 4 → Ws G m_shutMany 0 [(0, .ref 76)] [] u (RI fun a8 u8 => Q (some (.int a8)) u8)) ∧ (x1 = 5 → Q (some (.int (mI u 76 28))) u) ∧ (¬ x1 = 0 ∧ ¬ x1 = 1 ∧ ¬ x1 = 2 ∧ ¬ x1 = 3 ∧ ¬ x1 = 4 ∧ ¬ x1 = 5 → Q (some (.int x2)) u))) ∧ (¬ (7 ≤ x3) → ((¬ x1 = 3 → ((¬ x1 = 6 → ((¬ x1 = 7 → Ws G m_counts 4 [(0, .ref 76), (1, .int x1), (2, .int (x2 + 0)), (3, .int (x3 + 1))] [] u Q) ∧ (x1 = 7 → ((4 ≤ x3 → Ws G m_counts 4 [(0, .ref 76), (1, .int x1), (2, .int (x2 + 0)), (3, .int (x3 + 1))] [] u Q) ∧ (¬ (4 ≤ x3) → (vp_in x3 4 ∧ (((mI u 81 (x3 : Int32).toNatClampNeg) < 0 → Ws G m_counts 4 [(0, .ref 76), (1, .int x1), (2, .int (x2 + 0)), (3, .int (x3 + 1))] [] u Q) ∧ (¬ ((mI u 81 (x3 : Int32).toNatClampNeg) < 0) → Ws G m_counts 4 [(0, .ref 76), (1, .int x1), (2, .int (x2 + 1)), (3, .int (x3 + 1))] [] u Q)))))))) ∧ (x1 = 6 → ((6 ≤ x3 → ((¬ x1 = 7 → Ws G m_counts 4 [(0, .ref 76), (1, .int x1), (2, .int (x2 + 0)), (3, .int (x3 + 1))] [] u Q) ∧ (x1 = 7 → ((4 ≤ x3 → Ws G m_counts 4 [(0, .ref 76), (1, .int x1), (2, .int (x2 + 0)), (3, .int (x3 + 1))] [] u Q) ∧ (¬ (4 ≤ x3) → (vp_in x3 4 ∧ (((mI u 81 (x3 : Int32).toNatClampNeg) < 0 → Ws G m_counts 4 [(0, .ref 76), (1, .int x1), (2, .int (x2 + 0)), (3, .int (x3 + 1))] [] u Q) ∧ (¬ ((mI u 81 (x3 : Int32).toNatClampNeg) < 0) → Ws G m_counts 4 [(0, .ref 76), (1, .int x1), (2, .int (x2 + 1)), (3, .int (x3 + 1))] [] u Q)))))))) ∧ (¬ (6 ≤ x3) → (vp_in x3 6 ∧ ((0 ≤ (mI u 78 (x3 : Int32).toNatClampNeg) → Ws G m_counts 4 [(0, .ref 76), (1, .int x1), (2, .int (x2 + 1)), (3, .int (x3 + 1))] [] u Q) ∧ (¬ (0 ≤ (mI u 78 (x3 : Int32).toNatClampNeg)) → ((¬ x1 = 7 → Ws G m_counts 4 [(0, .ref 76), (1, .int x1), (2, .int (x2 + 0)), (3, .int (x3 + 1))] [] u Q) ∧ (x1 = 7 → ((4 ≤ x3 → Ws G m_counts 4 [(0, .ref 76), (1, .int x1), (2, .int (x2 + 0)), (3, .int (x3 + 1))] [] u Q) ∧ (¬ (4 ≤ x3) → (vp_in x3 4 ∧ (((mI u 81 (x3 : Int32).toNatClampNeg) < 0 → Ws G m_counts 4 [(0, .ref 76), (1, .int x1), (2, .int (x2 + 0)), (3, .int (x3 + 1))] [] u Q) ∧ (¬ ((mI u 81 (x3 : Int32).toNatClampNeg) < 0) → Ws G m_counts 4 [(0, .ref 76), (1, .int x1), (2, .int (x2 + 1)), (3, .int (x3 + 1))] [] u Q))))))))))))))) ∧ (x1 = 3 → (((mI u 76 11) ≤ x3 → ((¬ x1 = 6 → ((¬ x1 = 7 → Ws G m_counts 4 [(0, .ref 76), (1, .int x1), (2, .int (x2 + 0)), (3, .int (x3 + 1))] [] u Q) ∧ (x1 = 7 → ((4 ≤ x3 → Ws G m_counts 4 [(0, .ref 76), (1, .int x1), (2, .int (x2 + 0)), (3, .int (x3 + 1))] [] u Q) ∧ (¬ (4 ≤ x3) → (vp_in x3 4 ∧ (((mI u 81 (x3 : Int32).toNatClampNeg) < 0 → Ws G m_counts 4 [(0, .ref 76), (1, .int x1), (2, .int (x2 + 0)), (3, .int (x3 + 1))] [] u Q) ∧ (¬ ((mI u 81 (x3 : Int32).toNatClampNeg) < 0) → Ws G m_counts 4 [(0, .ref 76), (1, .int x1), (2, .int (x2 + 1)), (3, .int (x3 + 1))] [] u Q)))))))) ∧ (x1 = 6 → ((6 ≤ x3 → ((¬ x1 = 7 → Ws G m_counts 4 [(0, .ref 76), (1, .int x1), (2, .int (x2 + 0)), (3, .int (x3 + 1))] [] u Q) ∧ (x1 = 7 → ((4 ≤ x3 → Ws G m_counts 4 [(0, .ref 76), (1, .int x1), (2, .int (x2 + 0)), (3, .int (x3 + 1))] [] u Q) ∧ (¬ (4 ≤ x3) → (vp_in x3 4 ∧ (((mI u 81 (x3 : Int32).toNatClampNeg) < 0 → Ws G m_counts 4 [(0, .ref 76), (1, .int x1), (2, .int (x2 + 0)), (3, .int (x3 + 1))] [] u Q) ∧ (¬ ((mI u 81 (x3 : Int32).toNatClampNeg) < 0) → Ws G m_counts 4 [(0, .ref 76), (1, .int x1), (2, .int (x2 + 1)), (3, .int (x3 + 1))] [] u Q)))))))) ∧ (¬ (6 ≤ x3) → (vp_in x3 6 ∧ ((0 ≤ (mI u 78 (x3 : Int32).toNatClampNeg) → Ws G m_counts 4 [(0, .ref 76), (1, .int x1), (2, .int (x2 + 1)), (3, .int (x3 + 1))] [] u Q) ∧ (¬ (0 ≤ (mI u 78 (x3 : Int32).toNatClampNeg)) → ((¬ x1 = 7 → Ws G m_counts 4 [(0, .ref 76), (1, .int x1), (2, .int (x2 + 0)), (3, .int (x3 + 1))] [] u Q) ∧ (x1 = 7 → ((4 ≤ x3 → Ws G m_counts 4 [(0, .ref 76), (1, .int x1), (2, .int (x2 + 0)), (3, .int (x3 + 1))] [] u Q) ∧ (¬ (4 ≤ x3) → (vp_in x3 4 ∧ (((mI u 81 (x3 : Int32).toNatClampNeg) < 0 → Ws G m_counts 4 [(0, .ref 76), (1, .int x1), (2, .int (x2 + 0)), (3, .int (x3 + 1))] [] u Q) ∧ (¬ ((mI u 81 (x3 : Int32).toNatClampNeg) < 0) → Ws G m_counts 4 [(0, .ref 76), (1, .int x1), (2, .int (x2 + 1)), (3, .int (x3 + 1))] [] u Q))))))))))))))) ∧ (¬ ((mI u 76 11) ≤ x3) → Ws G m_isSleeper 0 [(0, .ref 76), (1, .int x3)] [] u (RI fun a44 u44 => ((¬ a44 = 0 → Ws G m_counts 4 [(0, .ref 76), (1, .int x1), (2, .int (x2 + 1)), (3, .int (x3 + 1))] [] u44 Q) ∧ (a44 = 0 → ((¬ x1 = 6 → ((¬ x1 = 7 → Ws G m_counts 4 [(0, .ref 76), (1, .int x1), (2, .int (x2 + 0)), (3, .int (x3 + 1))] [] u44 Q) ∧ (x1 = 7 → ((4 ≤ x3 → Ws G m_counts 4 [(0, .ref 76), (1, .int x1), (2, .int (x2 + 0)), (3, .int (x3 + 1))] [] u44 Q) ∧ (¬ (4 ≤ x3) → (vp_in x3 4 ∧ (((mI u44 81 (x3 : Int32).toNatClampNeg) < 0 → Ws G m_counts 4 [(0, .ref 76), (1, .int x1), (2, .int (x2 + 0)), (3, .int (x3 + 1))] [] u44 Q) ∧ (¬ ((mI u44 81 (x3 : Int32).toNatClampNeg) < 0) → Ws G m_counts 4 [(0, .ref 76), (1, .int x1), (2, .int (x2 + 1)), (3, .int (x3 + 1))] [] u44 Q)))))))) ∧ (x1 = 6 → ((6 ≤ x3 → ((¬ x1 = 7 → Ws G m_counts 4 [(0, .ref 76), (1, .int x1), (2, .int (x2 + 0)), (3, .int (x3 + 1))] [] u44 Q) ∧ (x1 = 7 → ((4 ≤ x3 → Ws G m_counts 4 [(0, .ref 76), (1, .int x1), (2, .int (x2 + 0)), (3, .int (x3 + 1))] [] u44 Q) ∧ (¬ (4 ≤ x3) → (vp_in x3 4 ∧ (((mI u44 81 (x3 : Int32).toNatClampNeg) < 0 → Ws G m_counts 4 [(0, .ref 76), (1, .int x1), (2, .int (x2 + 0)), (3, .int (x3 + 1))] [] u44 Q) ∧ (¬ ((mI u44 81 (x3 : Int32).toNatClampNeg) < 0) → Ws G m_counts 4 [(0, .ref 76), (1, .int x1), (2, .int (x2 + 1)), (3, .int (x3 + 1))] [] u44 Q)))))))) ∧ (¬ (6 ≤ x3) → (vp_in x3 6 ∧ ((0 ≤ (mI u44 78 (x3 : Int32).toNatClampNeg) → Ws G m_counts 4 [(0, .ref 76), (1, .int x1), (2, .int (x2 + 1)), (3, .int (x3 + 1))] [] u44 Q) ∧ (¬ (0 ≤ (mI u44 78 (x3 : Int32).toNatClampNeg)) → ((¬ x1 = 7 → Ws G m_counts 4 [(0, .ref 76), (1, .int x1), (2, .int (x2 + 0)), (3, .int (x3 + 1))] [] u44 Q) ∧ (x1 = 7 → ((4 ≤ x3 → Ws G m_counts 4 [(0, .ref 76), (1, .int x1), (2, .int (x2 + 0)), (3, .int (x3 + 1))] [] u44 Q) ∧ (¬ (4 ≤ x3) → (vp_in x3 4 ∧ (((mI u44 81 (x3 : Int32).toNatClampNeg) < 0 → Ws G m_counts 4 [(0, .ref 76), (1, .int x1), (2, .int (x2 + 0)), (3, .int (x3 + 1))] [] u44 Q) ∧ (¬ ((mI u44 81 (x3 : Int32).toNatClampNeg) < 0) → Ws G m_counts 4 [(0, .ref 76), (1, .int x1), (2, .int (x2 + 1)), (3, .int (x3 + 1))] [] u44 Q)))))))))))))))))))))))) : Ws G m_counts 4 [(0, .ref 76), (1, .int x1), (2, .int x2), (3, .int x3)] [] u Q := by
  refine ws_iload_n 3 (dcd d_m_counts_0 4 rfl) rfl ?_
  refine ws_bipush (v := 7) (dcd d_m_counts_0 5 rfl) (by decide) ?_
  refine ws_icmp_ge (tgt := 86) (dcd d_m_counts_0 6 rfl) (by decide) (fun c1 => ?_) (fun c1 => ?_)
  · have h := h.1 c1
    refine ws_iload_n 1 (dcd d_m_counts_1 18 rfl) rfl ?_
    by_cases c3 : x1 = 0
    · have h := h.1 c3
      refine ws_tableIn (off := 37) (tgt := 124) 0 (dcd d_m_counts_1 19 rfl) (by rw [c3]; decide) (by decide) rfl (by decide) ?_
      refine ws_aload_n 0 (dcd d_m_counts_1 20 rfl) rfl ?_
      refine ws_getI f_m_153 rfl (dcd d_m_counts_1 21 rfl) ok_76 ?_
      exact ws_iret (dcd d_m_counts_1 22 rfl) ⟨_, rfl, rfl⟩ h
    by_cases c4 : x1 = 1
    · have h := h.2.1 c4
      refine ws_tableIn (off := 42) (tgt := 129) 1 (dcd d_m_counts_1 19 rfl) (by rw [c4]; decide) (by decide) rfl (by decide) ?_
      refine ws_aload_n 0 (dcd d_m_counts_1 23 rfl) rfl ?_
      refine ws_getI f_m_156 rfl (dcd d_m_counts_1 24 rfl) ok_76 ?_
      exact ws_iret (dcd d_m_counts_1 25 rfl) ⟨_, rfl, rfl⟩ h
    by_cases c5 : x1 = 2
    · have h := h.2.2.1 c5
      refine ws_tableIn (off := 47) (tgt := 134) 2 (dcd d_m_counts_1 19 rfl) (by rw [c5]; decide) (by decide) rfl (by decide) ?_
      refine ws_aload_n 0 (dcd d_m_counts_1 26 rfl) rfl ?_
      refine ws_getI f_m_162 rfl (dcd d_m_counts_1 27 rfl) ok_76 ?_
      exact ws_iret (dcd d_m_counts_1 28 rfl) ⟨_, rfl, rfl⟩ h
    by_cases c6 : x1 = 3
    · have h := h.2.2.2.1 c6
      refine ws_tableIn (off := 62) (tgt := 149) 3 (dcd d_m_counts_1 19 rfl) (by rw [c6]; decide) (by decide) rfl (by decide) ?_
      refine ws_iload_n 2 (dcd d_m_counts_2 5 rfl) rfl ?_
      exact ws_iret (dcd d_m_counts_2 6 rfl) ⟨_, rfl, rfl⟩ h
    by_cases c7 : x1 = 4
    · have h := h.2.2.2.2.1 c7
      refine ws_tableIn (off := 52) (tgt := 139) 4 (dcd d_m_counts_1 19 rfl) (by rw [c7]; decide) (by decide) rfl (by decide) ?_
      refine ws_aload_n 0 (dcd d_m_counts_1 29 rfl) rfl ?_
      refine ws_callVI (o := 76) (As := []) (st := []) (la := [(0, .ref 76)]) (dcd d_m_counts_2 0 rfl) cv_m_shutMany k_m_197 ⟨by decide, by decide⟩ ok_76 rfl (Nat.le_of_ble_eq_true rfl) (Nat.le_of_ble_eq_true rfl) rfl rfl h (fun a8 u8 h => ?_)
      exact ws_iret (dcd d_m_counts_2 1 rfl) ⟨_, rfl, rfl⟩ h
    by_cases c9 : x1 = 5
    · have h := h.2.2.2.2.2.1 c9
      refine ws_tableIn (off := 57) (tgt := 144) 5 (dcd d_m_counts_1 19 rfl) (by rw [c9]; decide) (by decide) rfl (by decide) ?_
      refine ws_aload_n 0 (dcd d_m_counts_2 2 rfl) rfl ?_
      refine ws_getI f_m_168 rfl (dcd d_m_counts_2 3 rfl) ok_76 ?_
      exact ws_iret (dcd d_m_counts_2 4 rfl) ⟨_, rfl, rfl⟩ h
    have h := h.2.2.2.2.2.2 ⟨c3, c4, c5, c6, c7, c9⟩
    have nc3 := lv_neT c3 (a := 0) (by decide)
    have nc4 := lv_neT c4 (a := 1) (by decide)
    have nc5 := lv_neT c5 (a := 2) (by decide)
    have nc6 := lv_neT c6 (a := 3) (by decide)
    have nc7 := lv_neT c7 (a := 4) (by decide)
    have nc9 := lv_neT c9 (a := 5) (by decide)
    refine ws_tableOut (tgt := 149) (dcd d_m_counts_1 19 rfl) (by omega) (by decide) ?_
    refine ws_iload_n 2 (dcd d_m_counts_2 5 rfl) rfl ?_
    exact ws_iret (dcd d_m_counts_2 6 rfl) ⟨_, rfl, rfl⟩ h
  · have h := h.2 c1
    refine ws_iload_n 2 (dcd d_m_counts_0 7 rfl) rfl ?_
    refine ws_iload_n 1 (dcd d_m_counts_0 8 rfl) rfl ?_
    refine ws_iconst (v := 3) (dcd d_m_counts_0 9 rfl) (by decide) ?_
    refine ws_icmp_ne (tgt := 32) (dcd d_m_counts_0 10 rfl) (by decide) (fun c10 => ?_) (fun c10 => ?_)
    · have h := h.1 c10
      refine ws_iload_n 1 (dcd d_m_counts_0 19 rfl) rfl ?_
      refine ws_bipush (v := 6) (dcd d_m_counts_0 20 rfl) (by decide) ?_
      refine ws_icmp_ne (tgt := 53) (dcd d_m_counts_0 21 rfl) (by decide) (fun c11 => ?_) (fun c11 => ?_)
      · have h := h.1 c11
        refine ws_iload_n 1 (dcd d_m_counts_1 0 rfl) rfl ?_
        refine ws_bipush (v := 7) (dcd d_m_counts_1 1 rfl) (by decide) ?_
        refine ws_icmp_ne (tgt := 77) (dcd d_m_counts_1 2 rfl) (by decide) (fun c12 => ?_) (fun c12 => ?_)
        · have h := h.1 c12
          refine ws_iconst (v := 0) (dcd d_m_counts_1 13 rfl) (by decide) ?_
          refine ws_iadd (dcd d_m_counts_1 14 rfl) ?_
          refine ws_istore_n (l' := [(2, .int (x2 + 0)), (0, .ref 76), (1, .int x1), (3, .int x3)]) (dcd d_m_counts_1 15 rfl) (by decide) rfl ?_
          refine ws_iinc (v := 1) (l' := [(3, .int (x3 + 1)), (2, .int (x2 + 0)), (0, .ref 76), (1, .int x1)]) 3 (dcd d_m_counts_1 16 rfl) rfl (by decide) (by decide) rfl ?_
          refine ws_goto (tgt := 4) (dcd d_m_counts_1 17 rfl) (by decide) ?_
          exact ws_loc [2, 3, 1, 0] rfl h
        · have h := h.2 c12
          refine ws_iload_n 3 (dcd d_m_counts_1 3 rfl) rfl ?_
          refine ws_iconst (v := 4) (dcd d_m_counts_1 4 rfl) (by decide) ?_
          refine ws_icmp_ge (tgt := 77) (dcd d_m_counts_1 5 rfl) (by decide) (fun c13 => ?_) (fun c13 => ?_)
          · have h := h.1 c13
            refine ws_iconst (v := 0) (dcd d_m_counts_1 13 rfl) (by decide) ?_
            refine ws_iadd (dcd d_m_counts_1 14 rfl) ?_
            refine ws_istore_n (l' := [(2, .int (x2 + 0)), (0, .ref 76), (1, .int x1), (3, .int x3)]) (dcd d_m_counts_1 15 rfl) (by decide) rfl ?_
            refine ws_iinc (v := 1) (l' := [(3, .int (x3 + 1)), (2, .int (x2 + 0)), (0, .ref 76), (1, .int x1)]) 3 (dcd d_m_counts_1 16 rfl) rfl (by decide) (by decide) rfl ?_
            refine ws_goto (tgt := 4) (dcd d_m_counts_1 17 rfl) (by decide) ?_
            exact ws_loc [2, 3, 1, 0] rfl h
          · have h := h.2 c13
            refine ws_aload_n 0 (dcd d_m_counts_1 6 rfl) rfl ?_
            refine ws_getF (a := 81) f_m_26 rfl (dcd d_m_counts_1 7 rfl) ok_76 of_8_8 rfl ?_
            refine ws_iload_n 3 (dcd d_m_counts_1 8 rfl) rfl ?_
            obtain ⟨e14, h⟩ := h
            refine ws_iald (L := 4) (dcd d_m_counts_1 9 rfl) (os_8_8 ok_76) (ol_8_8 ok_76) e14 ?_
            refine ws_if_lt (tgt := 77) (dcd d_m_counts_1 10 rfl) (by decide) (fun c15 => ?_) (fun c15 => ?_)
            · have h := h.1 c15
              refine ws_iconst (v := 0) (dcd d_m_counts_1 13 rfl) (by decide) ?_
              refine ws_iadd (dcd d_m_counts_1 14 rfl) ?_
              refine ws_istore_n (l' := [(2, .int (x2 + 0)), (0, .ref 76), (1, .int x1), (3, .int x3)]) (dcd d_m_counts_1 15 rfl) (by decide) rfl ?_
              refine ws_iinc (v := 1) (l' := [(3, .int (x3 + 1)), (2, .int (x2 + 0)), (0, .ref 76), (1, .int x1)]) 3 (dcd d_m_counts_1 16 rfl) rfl (by decide) (by decide) rfl ?_
              refine ws_goto (tgt := 4) (dcd d_m_counts_1 17 rfl) (by decide) ?_
              exact ws_loc [2, 3, 1, 0] rfl h
            · have h := h.2 c15
              refine ws_iconst (v := 1) (dcd d_m_counts_1 11 rfl) (by decide) ?_
              refine ws_goto (tgt := 78) (dcd d_m_counts_1 12 rfl) (by decide) ?_
              refine ws_iadd (dcd d_m_counts_1 14 rfl) ?_
              refine ws_istore_n (l' := [(2, .int (x2 + 1)), (0, .ref 76), (1, .int x1), (3, .int x3)]) (dcd d_m_counts_1 15 rfl) (by decide) rfl ?_
              refine ws_iinc (v := 1) (l' := [(3, .int (x3 + 1)), (2, .int (x2 + 1)), (0, .ref 76), (1, .int x1)]) 3 (dcd d_m_counts_1 16 rfl) rfl (by decide) (by decide) rfl ?_
              refine ws_goto (tgt := 4) (dcd d_m_counts_1 17 rfl) (by decide) ?_
              exact ws_loc [2, 3, 1, 0] rfl h
      · have h := h.2 c11
        refine ws_iload_n 3 (dcd d_m_counts_0 22 rfl) rfl ?_
        refine ws_bipush (v := 6) (dcd d_m_counts_0 23 rfl) (by decide) ?_
        refine ws_icmp_ge (tgt := 53) (dcd d_m_counts_0 24 rfl) (by decide) (fun c16 => ?_) (fun c16 => ?_)
        · have h := h.1 c16
          refine ws_iload_n 1 (dcd d_m_counts_1 0 rfl) rfl ?_
          refine ws_bipush (v := 7) (dcd d_m_counts_1 1 rfl) (by decide) ?_
          refine ws_icmp_ne (tgt := 77) (dcd d_m_counts_1 2 rfl) (by decide) (fun c17 => ?_) (fun c17 => ?_)
          · have h := h.1 c17
            refine ws_iconst (v := 0) (dcd d_m_counts_1 13 rfl) (by decide) ?_
            refine ws_iadd (dcd d_m_counts_1 14 rfl) ?_
            refine ws_istore_n (l' := [(2, .int (x2 + 0)), (0, .ref 76), (1, .int x1), (3, .int x3)]) (dcd d_m_counts_1 15 rfl) (by decide) rfl ?_
            refine ws_iinc (v := 1) (l' := [(3, .int (x3 + 1)), (2, .int (x2 + 0)), (0, .ref 76), (1, .int x1)]) 3 (dcd d_m_counts_1 16 rfl) rfl (by decide) (by decide) rfl ?_
            refine ws_goto (tgt := 4) (dcd d_m_counts_1 17 rfl) (by decide) ?_
            exact ws_loc [2, 3, 1, 0] rfl h
          · have h := h.2 c17
            refine ws_iload_n 3 (dcd d_m_counts_1 3 rfl) rfl ?_
            refine ws_iconst (v := 4) (dcd d_m_counts_1 4 rfl) (by decide) ?_
            refine ws_icmp_ge (tgt := 77) (dcd d_m_counts_1 5 rfl) (by decide) (fun c18 => ?_) (fun c18 => ?_)
            · have h := h.1 c18
              refine ws_iconst (v := 0) (dcd d_m_counts_1 13 rfl) (by decide) ?_
              refine ws_iadd (dcd d_m_counts_1 14 rfl) ?_
              refine ws_istore_n (l' := [(2, .int (x2 + 0)), (0, .ref 76), (1, .int x1), (3, .int x3)]) (dcd d_m_counts_1 15 rfl) (by decide) rfl ?_
              refine ws_iinc (v := 1) (l' := [(3, .int (x3 + 1)), (2, .int (x2 + 0)), (0, .ref 76), (1, .int x1)]) 3 (dcd d_m_counts_1 16 rfl) rfl (by decide) (by decide) rfl ?_
              refine ws_goto (tgt := 4) (dcd d_m_counts_1 17 rfl) (by decide) ?_
              exact ws_loc [2, 3, 1, 0] rfl h
            · have h := h.2 c18
              refine ws_aload_n 0 (dcd d_m_counts_1 6 rfl) rfl ?_
              refine ws_getF (a := 81) f_m_26 rfl (dcd d_m_counts_1 7 rfl) ok_76 of_8_8 rfl ?_
              refine ws_iload_n 3 (dcd d_m_counts_1 8 rfl) rfl ?_
              obtain ⟨e19, h⟩ := h
              refine ws_iald (L := 4) (dcd d_m_counts_1 9 rfl) (os_8_8 ok_76) (ol_8_8 ok_76) e19 ?_
              refine ws_if_lt (tgt := 77) (dcd d_m_counts_1 10 rfl) (by decide) (fun c20 => ?_) (fun c20 => ?_)
              · have h := h.1 c20
                refine ws_iconst (v := 0) (dcd d_m_counts_1 13 rfl) (by decide) ?_
                refine ws_iadd (dcd d_m_counts_1 14 rfl) ?_
                refine ws_istore_n (l' := [(2, .int (x2 + 0)), (0, .ref 76), (1, .int x1), (3, .int x3)]) (dcd d_m_counts_1 15 rfl) (by decide) rfl ?_
                refine ws_iinc (v := 1) (l' := [(3, .int (x3 + 1)), (2, .int (x2 + 0)), (0, .ref 76), (1, .int x1)]) 3 (dcd d_m_counts_1 16 rfl) rfl (by decide) (by decide) rfl ?_
                refine ws_goto (tgt := 4) (dcd d_m_counts_1 17 rfl) (by decide) ?_
                exact ws_loc [2, 3, 1, 0] rfl h
              · have h := h.2 c20
                refine ws_iconst (v := 1) (dcd d_m_counts_1 11 rfl) (by decide) ?_
                refine ws_goto (tgt := 78) (dcd d_m_counts_1 12 rfl) (by decide) ?_
                refine ws_iadd (dcd d_m_counts_1 14 rfl) ?_
                refine ws_istore_n (l' := [(2, .int (x2 + 1)), (0, .ref 76), (1, .int x1), (3, .int x3)]) (dcd d_m_counts_1 15 rfl) (by decide) rfl ?_
                refine ws_iinc (v := 1) (l' := [(3, .int (x3 + 1)), (2, .int (x2 + 1)), (0, .ref 76), (1, .int x1)]) 3 (dcd d_m_counts_1 16 rfl) rfl (by decide) (by decide) rfl ?_
                refine ws_goto (tgt := 4) (dcd d_m_counts_1 17 rfl) (by decide) ?_
                exact ws_loc [2, 3, 1, 0] rfl h
        · have h := h.2 c16
          refine ws_aload_n 0 (dcd d_m_counts_0 25 rfl) rfl ?_
          refine ws_getF (a := 78) f_m_17 rfl (dcd d_m_counts_0 26 rfl) ok_76 of_8_5 rfl ?_
          refine ws_iload_n 3 (dcd d_m_counts_0 27 rfl) rfl ?_
          obtain ⟨e21, h⟩ := h
          refine ws_iald (L := 6) (dcd d_m_counts_0 28 rfl) (os_8_5 ok_76) (ol_8_5 ok_76) e21 ?_
          refine ws_if_ge (tgt := 73) (dcd d_m_counts_0 29 rfl) (by decide) (fun c22 => ?_) (fun c22 => ?_)
          · have h := h.1 c22
            refine ws_iconst (v := 1) (dcd d_m_counts_1 11 rfl) (by decide) ?_
            refine ws_goto (tgt := 78) (dcd d_m_counts_1 12 rfl) (by decide) ?_
            refine ws_iadd (dcd d_m_counts_1 14 rfl) ?_
            refine ws_istore_n (l' := [(2, .int (x2 + 1)), (0, .ref 76), (1, .int x1), (3, .int x3)]) (dcd d_m_counts_1 15 rfl) (by decide) rfl ?_
            refine ws_iinc (v := 1) (l' := [(3, .int (x3 + 1)), (2, .int (x2 + 1)), (0, .ref 76), (1, .int x1)]) 3 (dcd d_m_counts_1 16 rfl) rfl (by decide) (by decide) rfl ?_
            refine ws_goto (tgt := 4) (dcd d_m_counts_1 17 rfl) (by decide) ?_
            exact ws_loc [2, 3, 1, 0] rfl h
          · have h := h.2 c22
            refine ws_iload_n 1 (dcd d_m_counts_1 0 rfl) rfl ?_
            refine ws_bipush (v := 7) (dcd d_m_counts_1 1 rfl) (by decide) ?_
            refine ws_icmp_ne (tgt := 77) (dcd d_m_counts_1 2 rfl) (by decide) (fun c23 => ?_) (fun c23 => ?_)
            · have h := h.1 c23
              refine ws_iconst (v := 0) (dcd d_m_counts_1 13 rfl) (by decide) ?_
              refine ws_iadd (dcd d_m_counts_1 14 rfl) ?_
              refine ws_istore_n (l' := [(2, .int (x2 + 0)), (0, .ref 76), (1, .int x1), (3, .int x3)]) (dcd d_m_counts_1 15 rfl) (by decide) rfl ?_
              refine ws_iinc (v := 1) (l' := [(3, .int (x3 + 1)), (2, .int (x2 + 0)), (0, .ref 76), (1, .int x1)]) 3 (dcd d_m_counts_1 16 rfl) rfl (by decide) (by decide) rfl ?_
              refine ws_goto (tgt := 4) (dcd d_m_counts_1 17 rfl) (by decide) ?_
              exact ws_loc [2, 3, 1, 0] rfl h
            · have h := h.2 c23
              refine ws_iload_n 3 (dcd d_m_counts_1 3 rfl) rfl ?_
              refine ws_iconst (v := 4) (dcd d_m_counts_1 4 rfl) (by decide) ?_
              refine ws_icmp_ge (tgt := 77) (dcd d_m_counts_1 5 rfl) (by decide) (fun c24 => ?_) (fun c24 => ?_)
              · have h := h.1 c24
                refine ws_iconst (v := 0) (dcd d_m_counts_1 13 rfl) (by decide) ?_
                refine ws_iadd (dcd d_m_counts_1 14 rfl) ?_
                refine ws_istore_n (l' := [(2, .int (x2 + 0)), (0, .ref 76), (1, .int x1), (3, .int x3)]) (dcd d_m_counts_1 15 rfl) (by decide) rfl ?_
                refine ws_iinc (v := 1) (l' := [(3, .int (x3 + 1)), (2, .int (x2 + 0)), (0, .ref 76), (1, .int x1)]) 3 (dcd d_m_counts_1 16 rfl) rfl (by decide) (by decide) rfl ?_
                refine ws_goto (tgt := 4) (dcd d_m_counts_1 17 rfl) (by decide) ?_
                exact ws_loc [2, 3, 1, 0] rfl h
              · have h := h.2 c24
                refine ws_aload_n 0 (dcd d_m_counts_1 6 rfl) rfl ?_
                refine ws_getF (a := 81) f_m_26 rfl (dcd d_m_counts_1 7 rfl) ok_76 of_8_8 rfl ?_
                refine ws_iload_n 3 (dcd d_m_counts_1 8 rfl) rfl ?_
                obtain ⟨e25, h⟩ := h
                refine ws_iald (L := 4) (dcd d_m_counts_1 9 rfl) (os_8_8 ok_76) (ol_8_8 ok_76) e25 ?_
                refine ws_if_lt (tgt := 77) (dcd d_m_counts_1 10 rfl) (by decide) (fun c26 => ?_) (fun c26 => ?_)
                · have h := h.1 c26
                  refine ws_iconst (v := 0) (dcd d_m_counts_1 13 rfl) (by decide) ?_
                  refine ws_iadd (dcd d_m_counts_1 14 rfl) ?_
                  refine ws_istore_n (l' := [(2, .int (x2 + 0)), (0, .ref 76), (1, .int x1), (3, .int x3)]) (dcd d_m_counts_1 15 rfl) (by decide) rfl ?_
                  refine ws_iinc (v := 1) (l' := [(3, .int (x3 + 1)), (2, .int (x2 + 0)), (0, .ref 76), (1, .int x1)]) 3 (dcd d_m_counts_1 16 rfl) rfl (by decide) (by decide) rfl ?_
                  refine ws_goto (tgt := 4) (dcd d_m_counts_1 17 rfl) (by decide) ?_
                  exact ws_loc [2, 3, 1, 0] rfl h
                · have h := h.2 c26
                  refine ws_iconst (v := 1) (dcd d_m_counts_1 11 rfl) (by decide) ?_
                  refine ws_goto (tgt := 78) (dcd d_m_counts_1 12 rfl) (by decide) ?_
                  refine ws_iadd (dcd d_m_counts_1 14 rfl) ?_
                  refine ws_istore_n (l' := [(2, .int (x2 + 1)), (0, .ref 76), (1, .int x1), (3, .int x3)]) (dcd d_m_counts_1 15 rfl) (by decide) rfl ?_
                  refine ws_iinc (v := 1) (l' := [(3, .int (x3 + 1)), (2, .int (x2 + 1)), (0, .ref 76), (1, .int x1)]) 3 (dcd d_m_counts_1 16 rfl) rfl (by decide) (by decide) rfl ?_
                  refine ws_goto (tgt := 4) (dcd d_m_counts_1 17 rfl) (by decide) ?_
                  exact ws_loc [2, 3, 1, 0] rfl h
    · have h := h.2 c10
      refine ws_iload_n 3 (dcd d_m_counts_0 11 rfl) rfl ?_
      refine ws_aload_n 0 (dcd d_m_counts_0 12 rfl) rfl ?_
      refine ws_getI f_m_156 rfl (dcd d_m_counts_0 13 rfl) ok_76 ?_
      refine ws_icmp_ge (tgt := 32) (dcd d_m_counts_0 14 rfl) (by decide) (fun c27 => ?_) (fun c27 => ?_)
      · have h := h.1 c27
        refine ws_iload_n 1 (dcd d_m_counts_0 19 rfl) rfl ?_
        refine ws_bipush (v := 6) (dcd d_m_counts_0 20 rfl) (by decide) ?_
        refine ws_icmp_ne (tgt := 53) (dcd d_m_counts_0 21 rfl) (by decide) (fun c28 => ?_) (fun c28 => ?_)
        · have h := h.1 c28
          refine ws_iload_n 1 (dcd d_m_counts_1 0 rfl) rfl ?_
          refine ws_bipush (v := 7) (dcd d_m_counts_1 1 rfl) (by decide) ?_
          refine ws_icmp_ne (tgt := 77) (dcd d_m_counts_1 2 rfl) (by decide) (fun c29 => ?_) (fun c29 => ?_)
          · have h := h.1 c29
            refine ws_iconst (v := 0) (dcd d_m_counts_1 13 rfl) (by decide) ?_
            refine ws_iadd (dcd d_m_counts_1 14 rfl) ?_
            refine ws_istore_n (l' := [(2, .int (x2 + 0)), (0, .ref 76), (1, .int x1), (3, .int x3)]) (dcd d_m_counts_1 15 rfl) (by decide) rfl ?_
            refine ws_iinc (v := 1) (l' := [(3, .int (x3 + 1)), (2, .int (x2 + 0)), (0, .ref 76), (1, .int x1)]) 3 (dcd d_m_counts_1 16 rfl) rfl (by decide) (by decide) rfl ?_
            refine ws_goto (tgt := 4) (dcd d_m_counts_1 17 rfl) (by decide) ?_
            exact ws_loc [2, 3, 1, 0] rfl h
          · have h := h.2 c29
            refine ws_iload_n 3 (dcd d_m_counts_1 3 rfl) rfl ?_
            refine ws_iconst (v := 4) (dcd d_m_counts_1 4 rfl) (by decide) ?_
            refine ws_icmp_ge (tgt := 77) (dcd d_m_counts_1 5 rfl) (by decide) (fun c30 => ?_) (fun c30 => ?_)
            · have h := h.1 c30
              refine ws_iconst (v := 0) (dcd d_m_counts_1 13 rfl) (by decide) ?_
              refine ws_iadd (dcd d_m_counts_1 14 rfl) ?_
              refine ws_istore_n (l' := [(2, .int (x2 + 0)), (0, .ref 76), (1, .int x1), (3, .int x3)]) (dcd d_m_counts_1 15 rfl) (by decide) rfl ?_
              refine ws_iinc (v := 1) (l' := [(3, .int (x3 + 1)), (2, .int (x2 + 0)), (0, .ref 76), (1, .int x1)]) 3 (dcd d_m_counts_1 16 rfl) rfl (by decide) (by decide) rfl ?_
              refine ws_goto (tgt := 4) (dcd d_m_counts_1 17 rfl) (by decide) ?_
              exact ws_loc [2, 3, 1, 0] rfl h
            · have h := h.2 c30
              refine ws_aload_n 0 (dcd d_m_counts_1 6 rfl) rfl ?_
              refine ws_getF (a := 81) f_m_26 rfl (dcd d_m_counts_1 7 rfl) ok_76 of_8_8 rfl ?_
              refine ws_iload_n 3 (dcd d_m_counts_1 8 rfl) rfl ?_
              obtain ⟨e31, h⟩ := h
              refine ws_iald (L := 4) (dcd d_m_counts_1 9 rfl) (os_8_8 ok_76) (ol_8_8 ok_76) e31 ?_
              refine ws_if_lt (tgt := 77) (dcd d_m_counts_1 10 rfl) (by decide) (fun c32 => ?_) (fun c32 => ?_)
              · have h := h.1 c32
                refine ws_iconst (v := 0) (dcd d_m_counts_1 13 rfl) (by decide) ?_
                refine ws_iadd (dcd d_m_counts_1 14 rfl) ?_
                refine ws_istore_n (l' := [(2, .int (x2 + 0)), (0, .ref 76), (1, .int x1), (3, .int x3)]) (dcd d_m_counts_1 15 rfl) (by decide) rfl ?_
                refine ws_iinc (v := 1) (l' := [(3, .int (x3 + 1)), (2, .int (x2 + 0)), (0, .ref 76), (1, .int x1)]) 3 (dcd d_m_counts_1 16 rfl) rfl (by decide) (by decide) rfl ?_
                refine ws_goto (tgt := 4) (dcd d_m_counts_1 17 rfl) (by decide) ?_
                exact ws_loc [2, 3, 1, 0] rfl h
              · have h := h.2 c32
                refine ws_iconst (v := 1) (dcd d_m_counts_1 11 rfl) (by decide) ?_
                refine ws_goto (tgt := 78) (dcd d_m_counts_1 12 rfl) (by decide) ?_
                refine ws_iadd (dcd d_m_counts_1 14 rfl) ?_
                refine ws_istore_n (l' := [(2, .int (x2 + 1)), (0, .ref 76), (1, .int x1), (3, .int x3)]) (dcd d_m_counts_1 15 rfl) (by decide) rfl ?_
                refine ws_iinc (v := 1) (l' := [(3, .int (x3 + 1)), (2, .int (x2 + 1)), (0, .ref 76), (1, .int x1)]) 3 (dcd d_m_counts_1 16 rfl) rfl (by decide) (by decide) rfl ?_
                refine ws_goto (tgt := 4) (dcd d_m_counts_1 17 rfl) (by decide) ?_
                exact ws_loc [2, 3, 1, 0] rfl h
        · have h := h.2 c28
          refine ws_iload_n 3 (dcd d_m_counts_0 22 rfl) rfl ?_
          refine ws_bipush (v := 6) (dcd d_m_counts_0 23 rfl) (by decide) ?_
          refine ws_icmp_ge (tgt := 53) (dcd d_m_counts_0 24 rfl) (by decide) (fun c33 => ?_) (fun c33 => ?_)
          · have h := h.1 c33
            refine ws_iload_n 1 (dcd d_m_counts_1 0 rfl) rfl ?_
            refine ws_bipush (v := 7) (dcd d_m_counts_1 1 rfl) (by decide) ?_
            refine ws_icmp_ne (tgt := 77) (dcd d_m_counts_1 2 rfl) (by decide) (fun c34 => ?_) (fun c34 => ?_)
            · have h := h.1 c34
              refine ws_iconst (v := 0) (dcd d_m_counts_1 13 rfl) (by decide) ?_
              refine ws_iadd (dcd d_m_counts_1 14 rfl) ?_
              refine ws_istore_n (l' := [(2, .int (x2 + 0)), (0, .ref 76), (1, .int x1), (3, .int x3)]) (dcd d_m_counts_1 15 rfl) (by decide) rfl ?_
              refine ws_iinc (v := 1) (l' := [(3, .int (x3 + 1)), (2, .int (x2 + 0)), (0, .ref 76), (1, .int x1)]) 3 (dcd d_m_counts_1 16 rfl) rfl (by decide) (by decide) rfl ?_
              refine ws_goto (tgt := 4) (dcd d_m_counts_1 17 rfl) (by decide) ?_
              exact ws_loc [2, 3, 1, 0] rfl h
            · have h := h.2 c34
              refine ws_iload_n 3 (dcd d_m_counts_1 3 rfl) rfl ?_
              refine ws_iconst (v := 4) (dcd d_m_counts_1 4 rfl) (by decide) ?_
              refine ws_icmp_ge (tgt := 77) (dcd d_m_counts_1 5 rfl) (by decide) (fun c35 => ?_) (fun c35 => ?_)
              · have h := h.1 c35
                refine ws_iconst (v := 0) (dcd d_m_counts_1 13 rfl) (by decide) ?_
                refine ws_iadd (dcd d_m_counts_1 14 rfl) ?_
                refine ws_istore_n (l' := [(2, .int (x2 + 0)), (0, .ref 76), (1, .int x1), (3, .int x3)]) (dcd d_m_counts_1 15 rfl) (by decide) rfl ?_
                refine ws_iinc (v := 1) (l' := [(3, .int (x3 + 1)), (2, .int (x2 + 0)), (0, .ref 76), (1, .int x1)]) 3 (dcd d_m_counts_1 16 rfl) rfl (by decide) (by decide) rfl ?_
                refine ws_goto (tgt := 4) (dcd d_m_counts_1 17 rfl) (by decide) ?_
                exact ws_loc [2, 3, 1, 0] rfl h
              · have h := h.2 c35
                refine ws_aload_n 0 (dcd d_m_counts_1 6 rfl) rfl ?_
                refine ws_getF (a := 81) f_m_26 rfl (dcd d_m_counts_1 7 rfl) ok_76 of_8_8 rfl ?_
                refine ws_iload_n 3 (dcd d_m_counts_1 8 rfl) rfl ?_
                obtain ⟨e36, h⟩ := h
                refine ws_iald (L := 4) (dcd d_m_counts_1 9 rfl) (os_8_8 ok_76) (ol_8_8 ok_76) e36 ?_
                refine ws_if_lt (tgt := 77) (dcd d_m_counts_1 10 rfl) (by decide) (fun c37 => ?_) (fun c37 => ?_)
                · have h := h.1 c37
                  refine ws_iconst (v := 0) (dcd d_m_counts_1 13 rfl) (by decide) ?_
                  refine ws_iadd (dcd d_m_counts_1 14 rfl) ?_
                  refine ws_istore_n (l' := [(2, .int (x2 + 0)), (0, .ref 76), (1, .int x1), (3, .int x3)]) (dcd d_m_counts_1 15 rfl) (by decide) rfl ?_
                  refine ws_iinc (v := 1) (l' := [(3, .int (x3 + 1)), (2, .int (x2 + 0)), (0, .ref 76), (1, .int x1)]) 3 (dcd d_m_counts_1 16 rfl) rfl (by decide) (by decide) rfl ?_
                  refine ws_goto (tgt := 4) (dcd d_m_counts_1 17 rfl) (by decide) ?_
                  exact ws_loc [2, 3, 1, 0] rfl h
                · have h := h.2 c37
                  refine ws_iconst (v := 1) (dcd d_m_counts_1 11 rfl) (by decide) ?_
                  refine ws_goto (tgt := 78) (dcd d_m_counts_1 12 rfl) (by decide) ?_
                  refine ws_iadd (dcd d_m_counts_1 14 rfl) ?_
                  refine ws_istore_n (l' := [(2, .int (x2 + 1)), (0, .ref 76), (1, .int x1), (3, .int x3)]) (dcd d_m_counts_1 15 rfl) (by decide) rfl ?_
                  refine ws_iinc (v := 1) (l' := [(3, .int (x3 + 1)), (2, .int (x2 + 1)), (0, .ref 76), (1, .int x1)]) 3 (dcd d_m_counts_1 16 rfl) rfl (by decide) (by decide) rfl ?_
                  refine ws_goto (tgt := 4) (dcd d_m_counts_1 17 rfl) (by decide) ?_
                  exact ws_loc [2, 3, 1, 0] rfl h
          · have h := h.2 c33
            refine ws_aload_n 0 (dcd d_m_counts_0 25 rfl) rfl ?_
            refine ws_getF (a := 78) f_m_17 rfl (dcd d_m_counts_0 26 rfl) ok_76 of_8_5 rfl ?_
            refine ws_iload_n 3 (dcd d_m_counts_0 27 rfl) rfl ?_
            obtain ⟨e38, h⟩ := h
            refine ws_iald (L := 6) (dcd d_m_counts_0 28 rfl) (os_8_5 ok_76) (ol_8_5 ok_76) e38 ?_
            refine ws_if_ge (tgt := 73) (dcd d_m_counts_0 29 rfl) (by decide) (fun c39 => ?_) (fun c39 => ?_)
            · have h := h.1 c39
              refine ws_iconst (v := 1) (dcd d_m_counts_1 11 rfl) (by decide) ?_
              refine ws_goto (tgt := 78) (dcd d_m_counts_1 12 rfl) (by decide) ?_
              refine ws_iadd (dcd d_m_counts_1 14 rfl) ?_
              refine ws_istore_n (l' := [(2, .int (x2 + 1)), (0, .ref 76), (1, .int x1), (3, .int x3)]) (dcd d_m_counts_1 15 rfl) (by decide) rfl ?_
              refine ws_iinc (v := 1) (l' := [(3, .int (x3 + 1)), (2, .int (x2 + 1)), (0, .ref 76), (1, .int x1)]) 3 (dcd d_m_counts_1 16 rfl) rfl (by decide) (by decide) rfl ?_
              refine ws_goto (tgt := 4) (dcd d_m_counts_1 17 rfl) (by decide) ?_
              exact ws_loc [2, 3, 1, 0] rfl h
            · have h := h.2 c39
              refine ws_iload_n 1 (dcd d_m_counts_1 0 rfl) rfl ?_
              refine ws_bipush (v := 7) (dcd d_m_counts_1 1 rfl) (by decide) ?_
              refine ws_icmp_ne (tgt := 77) (dcd d_m_counts_1 2 rfl) (by decide) (fun c40 => ?_) (fun c40 => ?_)
              · have h := h.1 c40
                refine ws_iconst (v := 0) (dcd d_m_counts_1 13 rfl) (by decide) ?_
                refine ws_iadd (dcd d_m_counts_1 14 rfl) ?_
                refine ws_istore_n (l' := [(2, .int (x2 + 0)), (0, .ref 76), (1, .int x1), (3, .int x3)]) (dcd d_m_counts_1 15 rfl) (by decide) rfl ?_
                refine ws_iinc (v := 1) (l' := [(3, .int (x3 + 1)), (2, .int (x2 + 0)), (0, .ref 76), (1, .int x1)]) 3 (dcd d_m_counts_1 16 rfl) rfl (by decide) (by decide) rfl ?_
                refine ws_goto (tgt := 4) (dcd d_m_counts_1 17 rfl) (by decide) ?_
                exact ws_loc [2, 3, 1, 0] rfl h
              · have h := h.2 c40
                refine ws_iload_n 3 (dcd d_m_counts_1 3 rfl) rfl ?_
                refine ws_iconst (v := 4) (dcd d_m_counts_1 4 rfl) (by decide) ?_
                refine ws_icmp_ge (tgt := 77) (dcd d_m_counts_1 5 rfl) (by decide) (fun c41 => ?_) (fun c41 => ?_)
                · have h := h.1 c41
                  refine ws_iconst (v := 0) (dcd d_m_counts_1 13 rfl) (by decide) ?_
                  refine ws_iadd (dcd d_m_counts_1 14 rfl) ?_
                  refine ws_istore_n (l' := [(2, .int (x2 + 0)), (0, .ref 76), (1, .int x1), (3, .int x3)]) (dcd d_m_counts_1 15 rfl) (by decide) rfl ?_
                  refine ws_iinc (v := 1) (l' := [(3, .int (x3 + 1)), (2, .int (x2 + 0)), (0, .ref 76), (1, .int x1)]) 3 (dcd d_m_counts_1 16 rfl) rfl (by decide) (by decide) rfl ?_
                  refine ws_goto (tgt := 4) (dcd d_m_counts_1 17 rfl) (by decide) ?_
                  exact ws_loc [2, 3, 1, 0] rfl h
                · have h := h.2 c41
                  refine ws_aload_n 0 (dcd d_m_counts_1 6 rfl) rfl ?_
                  refine ws_getF (a := 81) f_m_26 rfl (dcd d_m_counts_1 7 rfl) ok_76 of_8_8 rfl ?_
                  refine ws_iload_n 3 (dcd d_m_counts_1 8 rfl) rfl ?_
                  obtain ⟨e42, h⟩ := h
                  refine ws_iald (L := 4) (dcd d_m_counts_1 9 rfl) (os_8_8 ok_76) (ol_8_8 ok_76) e42 ?_
                  refine ws_if_lt (tgt := 77) (dcd d_m_counts_1 10 rfl) (by decide) (fun c43 => ?_) (fun c43 => ?_)
                  · have h := h.1 c43
                    refine ws_iconst (v := 0) (dcd d_m_counts_1 13 rfl) (by decide) ?_
                    refine ws_iadd (dcd d_m_counts_1 14 rfl) ?_
                    refine ws_istore_n (l' := [(2, .int (x2 + 0)), (0, .ref 76), (1, .int x1), (3, .int x3)]) (dcd d_m_counts_1 15 rfl) (by decide) rfl ?_
                    refine ws_iinc (v := 1) (l' := [(3, .int (x3 + 1)), (2, .int (x2 + 0)), (0, .ref 76), (1, .int x1)]) 3 (dcd d_m_counts_1 16 rfl) rfl (by decide) (by decide) rfl ?_
                    refine ws_goto (tgt := 4) (dcd d_m_counts_1 17 rfl) (by decide) ?_
                    exact ws_loc [2, 3, 1, 0] rfl h
                  · have h := h.2 c43
                    refine ws_iconst (v := 1) (dcd d_m_counts_1 11 rfl) (by decide) ?_
                    refine ws_goto (tgt := 78) (dcd d_m_counts_1 12 rfl) (by decide) ?_
                    refine ws_iadd (dcd d_m_counts_1 14 rfl) ?_
                    refine ws_istore_n (l' := [(2, .int (x2 + 1)), (0, .ref 76), (1, .int x1), (3, .int x3)]) (dcd d_m_counts_1 15 rfl) (by decide) rfl ?_
                    refine ws_iinc (v := 1) (l' := [(3, .int (x3 + 1)), (2, .int (x2 + 1)), (0, .ref 76), (1, .int x1)]) 3 (dcd d_m_counts_1 16 rfl) rfl (by decide) (by decide) rfl ?_
                    refine ws_goto (tgt := 4) (dcd d_m_counts_1 17 rfl) (by decide) ?_
                    exact ws_loc [2, 3, 1, 0] rfl h
      · have h := h.2 c27
        refine ws_aload_n 0 (dcd d_m_counts_0 15 rfl) rfl ?_
        refine ws_iload_n 3 (dcd d_m_counts_0 16 rfl) rfl ?_
        refine ws_callVI (o := 76) (As := [.int x3]) (st := [.int x2]) (la := [(0, .ref 76), (1, .int x3)]) (dcd d_m_counts_0 17 rfl) cv_m_isSleeper k_m_185 ⟨by decide, by decide⟩ ok_76 rfl (Nat.le_of_ble_eq_true rfl) (Nat.le_of_ble_eq_true rfl) rfl rfl h (fun a44 u44 h => ?_)
        refine ws_if_ne (tgt := 73) (dcd d_m_counts_0 18 rfl) (by decide) (fun c45 => ?_) (fun c45 => ?_)
        · have h := h.1 c45
          refine ws_iconst (v := 1) (dcd d_m_counts_1 11 rfl) (by decide) ?_
          refine ws_goto (tgt := 78) (dcd d_m_counts_1 12 rfl) (by decide) ?_
          refine ws_iadd (dcd d_m_counts_1 14 rfl) ?_
          refine ws_istore_n (l' := [(2, .int (x2 + 1)), (0, .ref 76), (1, .int x1), (3, .int x3)]) (dcd d_m_counts_1 15 rfl) (by decide) rfl ?_
          refine ws_iinc (v := 1) (l' := [(3, .int (x3 + 1)), (2, .int (x2 + 1)), (0, .ref 76), (1, .int x1)]) 3 (dcd d_m_counts_1 16 rfl) rfl (by decide) (by decide) rfl ?_
          refine ws_goto (tgt := 4) (dcd d_m_counts_1 17 rfl) (by decide) ?_
          exact ws_loc [2, 3, 1, 0] rfl h
        · have h := h.2 c45
          refine ws_iload_n 1 (dcd d_m_counts_0 19 rfl) rfl ?_
          refine ws_bipush (v := 6) (dcd d_m_counts_0 20 rfl) (by decide) ?_
          refine ws_icmp_ne (tgt := 53) (dcd d_m_counts_0 21 rfl) (by decide) (fun c46 => ?_) (fun c46 => ?_)
          · have h := h.1 c46
            refine ws_iload_n 1 (dcd d_m_counts_1 0 rfl) rfl ?_
            refine ws_bipush (v := 7) (dcd d_m_counts_1 1 rfl) (by decide) ?_
            refine ws_icmp_ne (tgt := 77) (dcd d_m_counts_1 2 rfl) (by decide) (fun c47 => ?_) (fun c47 => ?_)
            · have h := h.1 c47
              refine ws_iconst (v := 0) (dcd d_m_counts_1 13 rfl) (by decide) ?_
              refine ws_iadd (dcd d_m_counts_1 14 rfl) ?_
              refine ws_istore_n (l' := [(2, .int (x2 + 0)), (0, .ref 76), (1, .int x1), (3, .int x3)]) (dcd d_m_counts_1 15 rfl) (by decide) rfl ?_
              refine ws_iinc (v := 1) (l' := [(3, .int (x3 + 1)), (2, .int (x2 + 0)), (0, .ref 76), (1, .int x1)]) 3 (dcd d_m_counts_1 16 rfl) rfl (by decide) (by decide) rfl ?_
              refine ws_goto (tgt := 4) (dcd d_m_counts_1 17 rfl) (by decide) ?_
              exact ws_loc [2, 3, 1, 0] rfl h
            · have h := h.2 c47
              refine ws_iload_n 3 (dcd d_m_counts_1 3 rfl) rfl ?_
              refine ws_iconst (v := 4) (dcd d_m_counts_1 4 rfl) (by decide) ?_
              refine ws_icmp_ge (tgt := 77) (dcd d_m_counts_1 5 rfl) (by decide) (fun c48 => ?_) (fun c48 => ?_)
              · have h := h.1 c48
                refine ws_iconst (v := 0) (dcd d_m_counts_1 13 rfl) (by decide) ?_
                refine ws_iadd (dcd d_m_counts_1 14 rfl) ?_
                refine ws_istore_n (l' := [(2, .int (x2 + 0)), (0, .ref 76), (1, .int x1), (3, .int x3)]) (dcd d_m_counts_1 15 rfl) (by decide) rfl ?_
                refine ws_iinc (v := 1) (l' := [(3, .int (x3 + 1)), (2, .int (x2 + 0)), (0, .ref 76), (1, .int x1)]) 3 (dcd d_m_counts_1 16 rfl) rfl (by decide) (by decide) rfl ?_
                refine ws_goto (tgt := 4) (dcd d_m_counts_1 17 rfl) (by decide) ?_
                exact ws_loc [2, 3, 1, 0] rfl h
              · have h := h.2 c48
                refine ws_aload_n 0 (dcd d_m_counts_1 6 rfl) rfl ?_
                refine ws_getF (a := 81) f_m_26 rfl (dcd d_m_counts_1 7 rfl) ok_76 of_8_8 rfl ?_
                refine ws_iload_n 3 (dcd d_m_counts_1 8 rfl) rfl ?_
                obtain ⟨e49, h⟩ := h
                refine ws_iald (L := 4) (dcd d_m_counts_1 9 rfl) (os_8_8 ok_76) (ol_8_8 ok_76) e49 ?_
                refine ws_if_lt (tgt := 77) (dcd d_m_counts_1 10 rfl) (by decide) (fun c50 => ?_) (fun c50 => ?_)
                · have h := h.1 c50
                  refine ws_iconst (v := 0) (dcd d_m_counts_1 13 rfl) (by decide) ?_
                  refine ws_iadd (dcd d_m_counts_1 14 rfl) ?_
                  refine ws_istore_n (l' := [(2, .int (x2 + 0)), (0, .ref 76), (1, .int x1), (3, .int x3)]) (dcd d_m_counts_1 15 rfl) (by decide) rfl ?_
                  refine ws_iinc (v := 1) (l' := [(3, .int (x3 + 1)), (2, .int (x2 + 0)), (0, .ref 76), (1, .int x1)]) 3 (dcd d_m_counts_1 16 rfl) rfl (by decide) (by decide) rfl ?_
                  refine ws_goto (tgt := 4) (dcd d_m_counts_1 17 rfl) (by decide) ?_
                  exact ws_loc [2, 3, 1, 0] rfl h
                · have h := h.2 c50
                  refine ws_iconst (v := 1) (dcd d_m_counts_1 11 rfl) (by decide) ?_
                  refine ws_goto (tgt := 78) (dcd d_m_counts_1 12 rfl) (by decide) ?_
                  refine ws_iadd (dcd d_m_counts_1 14 rfl) ?_
                  refine ws_istore_n (l' := [(2, .int (x2 + 1)), (0, .ref 76), (1, .int x1), (3, .int x3)]) (dcd d_m_counts_1 15 rfl) (by decide) rfl ?_
                  refine ws_iinc (v := 1) (l' := [(3, .int (x3 + 1)), (2, .int (x2 + 1)), (0, .ref 76), (1, .int x1)]) 3 (dcd d_m_counts_1 16 rfl) rfl (by decide) (by decide) rfl ?_
                  refine ws_goto (tgt := 4) (dcd d_m_counts_1 17 rfl) (by decide) ?_
                  exact ws_loc [2, 3, 1, 0] rfl h
          · have h := h.2 c46
            refine ws_iload_n 3 (dcd d_m_counts_0 22 rfl) rfl ?_
            refine ws_bipush (v := 6) (dcd d_m_counts_0 23 rfl) (by decide) ?_
            refine ws_icmp_ge (tgt := 53) (dcd d_m_counts_0 24 rfl) (by decide) (fun c51 => ?_) (fun c51 => ?_)
            · have h := h.1 c51
              refine ws_iload_n 1 (dcd d_m_counts_1 0 rfl) rfl ?_
              refine ws_bipush (v := 7) (dcd d_m_counts_1 1 rfl) (by decide) ?_
              refine ws_icmp_ne (tgt := 77) (dcd d_m_counts_1 2 rfl) (by decide) (fun c52 => ?_) (fun c52 => ?_)
              · have h := h.1 c52
                refine ws_iconst (v := 0) (dcd d_m_counts_1 13 rfl) (by decide) ?_
                refine ws_iadd (dcd d_m_counts_1 14 rfl) ?_
                refine ws_istore_n (l' := [(2, .int (x2 + 0)), (0, .ref 76), (1, .int x1), (3, .int x3)]) (dcd d_m_counts_1 15 rfl) (by decide) rfl ?_
                refine ws_iinc (v := 1) (l' := [(3, .int (x3 + 1)), (2, .int (x2 + 0)), (0, .ref 76), (1, .int x1)]) 3 (dcd d_m_counts_1 16 rfl) rfl (by decide) (by decide) rfl ?_
                refine ws_goto (tgt := 4) (dcd d_m_counts_1 17 rfl) (by decide) ?_
                exact ws_loc [2, 3, 1, 0] rfl h
              · have h := h.2 c52
                refine ws_iload_n 3 (dcd d_m_counts_1 3 rfl) rfl ?_
                refine ws_iconst (v := 4) (dcd d_m_counts_1 4 rfl) (by decide) ?_
                refine ws_icmp_ge (tgt := 77) (dcd d_m_counts_1 5 rfl) (by decide) (fun c53 => ?_) (fun c53 => ?_)
                · have h := h.1 c53
                  refine ws_iconst (v := 0) (dcd d_m_counts_1 13 rfl) (by decide) ?_
                  refine ws_iadd (dcd d_m_counts_1 14 rfl) ?_
                  refine ws_istore_n (l' := [(2, .int (x2 + 0)), (0, .ref 76), (1, .int x1), (3, .int x3)]) (dcd d_m_counts_1 15 rfl) (by decide) rfl ?_
                  refine ws_iinc (v := 1) (l' := [(3, .int (x3 + 1)), (2, .int (x2 + 0)), (0, .ref 76), (1, .int x1)]) 3 (dcd d_m_counts_1 16 rfl) rfl (by decide) (by decide) rfl ?_
                  refine ws_goto (tgt := 4) (dcd d_m_counts_1 17 rfl) (by decide) ?_
                  exact ws_loc [2, 3, 1, 0] rfl h
                · have h := h.2 c53
                  refine ws_aload_n 0 (dcd d_m_counts_1 6 rfl) rfl ?_
                  refine ws_getF (a := 81) f_m_26 rfl (dcd d_m_counts_1 7 rfl) ok_76 of_8_8 rfl ?_
                  refine ws_iload_n 3 (dcd d_m_counts_1 8 rfl) rfl ?_
                  obtain ⟨e54, h⟩ := h
                  refine ws_iald (L := 4) (dcd d_m_counts_1 9 rfl) (os_8_8 ok_76) (ol_8_8 ok_76) e54 ?_
                  refine ws_if_lt (tgt := 77) (dcd d_m_counts_1 10 rfl) (by decide) (fun c55 => ?_) (fun c55 => ?_)
                  · have h := h.1 c55
                    refine ws_iconst (v := 0) (dcd d_m_counts_1 13 rfl) (by decide) ?_
                    refine ws_iadd (dcd d_m_counts_1 14 rfl) ?_
                    refine ws_istore_n (l' := [(2, .int (x2 + 0)), (0, .ref 76), (1, .int x1), (3, .int x3)]) (dcd d_m_counts_1 15 rfl) (by decide) rfl ?_
                    refine ws_iinc (v := 1) (l' := [(3, .int (x3 + 1)), (2, .int (x2 + 0)), (0, .ref 76), (1, .int x1)]) 3 (dcd d_m_counts_1 16 rfl) rfl (by decide) (by decide) rfl ?_
                    refine ws_goto (tgt := 4) (dcd d_m_counts_1 17 rfl) (by decide) ?_
                    exact ws_loc [2, 3, 1, 0] rfl h
                  · have h := h.2 c55
                    refine ws_iconst (v := 1) (dcd d_m_counts_1 11 rfl) (by decide) ?_
                    refine ws_goto (tgt := 78) (dcd d_m_counts_1 12 rfl) (by decide) ?_
                    refine ws_iadd (dcd d_m_counts_1 14 rfl) ?_
                    refine ws_istore_n (l' := [(2, .int (x2 + 1)), (0, .ref 76), (1, .int x1), (3, .int x3)]) (dcd d_m_counts_1 15 rfl) (by decide) rfl ?_
                    refine ws_iinc (v := 1) (l' := [(3, .int (x3 + 1)), (2, .int (x2 + 1)), (0, .ref 76), (1, .int x1)]) 3 (dcd d_m_counts_1 16 rfl) rfl (by decide) (by decide) rfl ?_
                    refine ws_goto (tgt := 4) (dcd d_m_counts_1 17 rfl) (by decide) ?_
                    exact ws_loc [2, 3, 1, 0] rfl h
            · have h := h.2 c51
              refine ws_aload_n 0 (dcd d_m_counts_0 25 rfl) rfl ?_
              refine ws_getF (a := 78) f_m_17 rfl (dcd d_m_counts_0 26 rfl) ok_76 of_8_5 rfl ?_
              refine ws_iload_n 3 (dcd d_m_counts_0 27 rfl) rfl ?_
              obtain ⟨e56, h⟩ := h
              refine ws_iald (L := 6) (dcd d_m_counts_0 28 rfl) (os_8_5 ok_76) (ol_8_5 ok_76) e56 ?_
              refine ws_if_ge (tgt := 73) (dcd d_m_counts_0 29 rfl) (by decide) (fun c57 => ?_) (fun c57 => ?_)
              · have h := h.1 c57
                refine ws_iconst (v := 1) (dcd d_m_counts_1 11 rfl) (by decide) ?_
                refine ws_goto (tgt := 78) (dcd d_m_counts_1 12 rfl) (by decide) ?_
                refine ws_iadd (dcd d_m_counts_1 14 rfl) ?_
                refine ws_istore_n (l' := [(2, .int (x2 + 1)), (0, .ref 76), (1, .int x1), (3, .int x3)]) (dcd d_m_counts_1 15 rfl) (by decide) rfl ?_
                refine ws_iinc (v := 1) (l' := [(3, .int (x3 + 1)), (2, .int (x2 + 1)), (0, .ref 76), (1, .int x1)]) 3 (dcd d_m_counts_1 16 rfl) rfl (by decide) (by decide) rfl ?_
                refine ws_goto (tgt := 4) (dcd d_m_counts_1 17 rfl) (by decide) ?_
                exact ws_loc [2, 3, 1, 0] rfl h
              · have h := h.2 c57
                refine ws_iload_n 1 (dcd d_m_counts_1 0 rfl) rfl ?_
                refine ws_bipush (v := 7) (dcd d_m_counts_1 1 rfl) (by decide) ?_
                refine ws_icmp_ne (tgt := 77) (dcd d_m_counts_1 2 rfl) (by decide) (fun c58 => ?_) (fun c58 => ?_)
                · have h := h.1 c58
                  refine ws_iconst (v := 0) (dcd d_m_counts_1 13 rfl) (by decide) ?_
                  refine ws_iadd (dcd d_m_counts_1 14 rfl) ?_
                  refine ws_istore_n (l' := [(2, .int (x2 + 0)), (0, .ref 76), (1, .int x1), (3, .int x3)]) (dcd d_m_counts_1 15 rfl) (by decide) rfl ?_
                  refine ws_iinc (v := 1) (l' := [(3, .int (x3 + 1)), (2, .int (x2 + 0)), (0, .ref 76), (1, .int x1)]) 3 (dcd d_m_counts_1 16 rfl) rfl (by decide) (by decide) rfl ?_
                  refine ws_goto (tgt := 4) (dcd d_m_counts_1 17 rfl) (by decide) ?_
                  exact ws_loc [2, 3, 1, 0] rfl h
                · have h := h.2 c58
                  refine ws_iload_n 3 (dcd d_m_counts_1 3 rfl) rfl ?_
                  refine ws_iconst (v := 4) (dcd d_m_counts_1 4 rfl) (by decide) ?_
                  refine ws_icmp_ge (tgt := 77) (dcd d_m_counts_1 5 rfl) (by decide) (fun c59 => ?_) (fun c59 => ?_)
                  · have h := h.1 c59
                    refine ws_iconst (v := 0) (dcd d_m_counts_1 13 rfl) (by decide) ?_
                    refine ws_iadd (dcd d_m_counts_1 14 rfl) ?_
                    refine ws_istore_n (l' := [(2, .int (x2 + 0)), (0, .ref 76), (1, .int x1), (3, .int x3)]) (dcd d_m_counts_1 15 rfl) (by decide) rfl ?_
                    refine ws_iinc (v := 1) (l' := [(3, .int (x3 + 1)), (2, .int (x2 + 0)), (0, .ref 76), (1, .int x1)]) 3 (dcd d_m_counts_1 16 rfl) rfl (by decide) (by decide) rfl ?_
                    refine ws_goto (tgt := 4) (dcd d_m_counts_1 17 rfl) (by decide) ?_
                    exact ws_loc [2, 3, 1, 0] rfl h
                  · have h := h.2 c59
                    refine ws_aload_n 0 (dcd d_m_counts_1 6 rfl) rfl ?_
                    refine ws_getF (a := 81) f_m_26 rfl (dcd d_m_counts_1 7 rfl) ok_76 of_8_8 rfl ?_
                    refine ws_iload_n 3 (dcd d_m_counts_1 8 rfl) rfl ?_
                    obtain ⟨e60, h⟩ := h
                    refine ws_iald (L := 4) (dcd d_m_counts_1 9 rfl) (os_8_8 ok_76) (ol_8_8 ok_76) e60 ?_
                    refine ws_if_lt (tgt := 77) (dcd d_m_counts_1 10 rfl) (by decide) (fun c61 => ?_) (fun c61 => ?_)
                    · have h := h.1 c61
                      refine ws_iconst (v := 0) (dcd d_m_counts_1 13 rfl) (by decide) ?_
                      refine ws_iadd (dcd d_m_counts_1 14 rfl) ?_
                      refine ws_istore_n (l' := [(2, .int (x2 + 0)), (0, .ref 76), (1, .int x1), (3, .int x3)]) (dcd d_m_counts_1 15 rfl) (by decide) rfl ?_
                      refine ws_iinc (v := 1) (l' := [(3, .int (x3 + 1)), (2, .int (x2 + 0)), (0, .ref 76), (1, .int x1)]) 3 (dcd d_m_counts_1 16 rfl) rfl (by decide) (by decide) rfl ?_
                      refine ws_goto (tgt := 4) (dcd d_m_counts_1 17 rfl) (by decide) ?_
                      exact ws_loc [2, 3, 1, 0] rfl h
                    · have h := h.2 c61
                      refine ws_iconst (v := 1) (dcd d_m_counts_1 11 rfl) (by decide) ?_
                      refine ws_goto (tgt := 78) (dcd d_m_counts_1 12 rfl) (by decide) ?_
                      refine ws_iadd (dcd d_m_counts_1 14 rfl) ?_
                      refine ws_istore_n (l' := [(2, .int (x2 + 1)), (0, .ref 76), (1, .int x1), (3, .int x3)]) (dcd d_m_counts_1 15 rfl) (by decide) rfl ?_
                      refine ws_iinc (v := 1) (l' := [(3, .int (x3 + 1)), (2, .int (x2 + 1)), (0, .ref 76), (1, .int x1)]) 3 (dcd d_m_counts_1 16 rfl) rfl (by decide) (by decide) rfl ?_
                      refine ws_goto (tgt := 4) (dcd d_m_counts_1 17 rfl) (by decide) ?_
                      exact ws_loc [2, 3, 1, 0] rfl h
theorem sg_m_finding_0   (h : Q (some (.int (mI u 76 0))) u) : Ws G m_finding 0 [(0, .ref 76)] [] u Q := by
  refine ws_aload_n 0 (dcd d_m_finding_0 0 rfl) rfl ?_
  refine ws_getI f_m_68 rfl (dcd d_m_finding_0 1 rfl) ok_76 ?_
  exact ws_iret (dcd d_m_finding_0 2 rfl) ⟨_, rfl, rfl⟩ h
theorem sg_m_findings_0 {x1 : Int32}  (h : (((1 ≤ x1 ∧ x1 ≤ 5) → (vp_in x1 6 ∧ Q (some (.int (mI u 77 (x1 : Int32).toNatClampNeg))) u)) ∧ (¬ (1 ≤ x1 ∧ x1 ≤ 5) → Q (some (.int (-1))) u))) : Ws G m_findings 0 [(0, .ref 76), (1, .int x1)] [] u Q := by
  refine ws_iload_n 1 (dcd d_m_findings_0 0 rfl) rfl ?_
  refine ws_iconst (v := 1) (dcd d_m_findings_0 1 rfl) (by decide) ?_
  refine ws_iconst (v := 5) (dcd d_m_findings_0 2 rfl) (by decide) ?_
  refine ws_callSI (As := [.int x1, .int 1, .int 5]) (st := []) (la := [(0, .int x1), (1, .int 1), (2, .int 5)]) (dcd d_m_findings_0 3 rfl) cs_m_in k_m_78 ⟨by decide, by decide⟩ rfl (Nat.le_of_ble_eq_true rfl) (Nat.le_of_ble_eq_true rfl) rfl rfl sp_m_in ?_
  rintro _ _ ⟨rfl, ⟨rfl, c1⟩ | ⟨rfl, c1⟩⟩
  · have h := h.1 c1
    refine ws_if_eq (tgt := 18) (dcd d_m_findings_0 4 rfl) (by decide) (fun c => absurd c (by decide)) (fun _ => ?_)
    refine ws_aload_n 0 (dcd d_m_findings_0 5 rfl) rfl ?_
    refine ws_getF (a := 77) f_m_7 rfl (dcd d_m_findings_0 6 rfl) ok_76 of_8_1 rfl ?_
    refine ws_iload_n 1 (dcd d_m_findings_0 7 rfl) rfl ?_
    obtain ⟨e3, h⟩ := h
    refine ws_iald (L := 6) (dcd d_m_findings_0 8 rfl) (os_8_1 ok_76) (ol_8_1 ok_76) e3 ?_
    refine ws_goto (tgt := 19) (dcd d_m_findings_0 9 rfl) (by decide) ?_
    exact ws_iret (dcd d_m_findings_0 11 rfl) ⟨_, rfl, rfl⟩ h
  · have h := h.2 c1
    refine ws_if_eq (tgt := 18) (dcd d_m_findings_0 4 rfl) (by decide) (fun _ => ?_) (fun c => absurd (show (0 : Int32) = 0 from by decide) c)
    refine ws_iconst (v := (-1)) (dcd d_m_findings_0 10 rfl) (by decide) ?_
    exact ws_iret (dcd d_m_findings_0 11 rfl) ⟨_, rfl, rfl⟩ h
theorem sg_m_digest_0   (h : Ws G m_digest 9 [(0, .ref 76), (1, .int 0)] [] (pL u 76 32 17) Q) : Ws G m_digest 0 [(0, .ref 76)] [] u Q := by
  refine ws_aload_n 0 (dcd d_m_digest_0 0 rfl) rfl ?_
  refine ws_ldc2 (dcd d_m_digest_0 1 rfl) q_m_292 ?_
  refine ws_putL f_m_286 rfl nf_8_32 (dcd d_m_digest_0 2 rfl) ok_76 ?_
  refine ws_iconst (v := 0) (dcd d_m_digest_0 3 rfl) (by decide) ?_
  refine ws_istore_n (l' := [(1, .int 0), (0, .ref 76)]) (dcd d_m_digest_0 4 rfl) (by decide) rfl ?_
  exact ws_loc [1, 0] rfl h
theorem sg_m_digest_9 {x1 : Int32}  (h : ((7 < x1 → Ws G m_mixSquare 0 [(0, .ref 76)] [] u (RV fun u2 => Ws G m_digest 36 [(0, .ref 76), (1, .int 0)] [] u2 Q)) ∧ (¬ (7 < x1) → Ws G m_counts 0 [(0, .ref 76), (1, .int x1)] [] u (RI fun a3 u3 => Ws G m_digest 9 [(0, .ref 76), (1, .int (x1 + 1))] [] (pL u3 76 32 (31 * (mL u3 76 32) + (a3 : Int32).toInt64)) Q)))) : Ws G m_digest 9 [(0, .ref 76), (1, .int x1)] [] u Q := by
  refine ws_iload_n 1 (dcd d_m_digest_0 5 rfl) rfl ?_
  refine ws_bipush (v := 7) (dcd d_m_digest_0 6 rfl) (by decide) ?_
  refine ws_icmp_gt (tgt := 30) (dcd d_m_digest_0 7 rfl) (by decide) (fun c1 => ?_) (fun c1 => ?_)
  · have h := h.1 c1
    refine ws_aload_n 0 (dcd d_m_digest_0 15 rfl) rfl ?_
    refine ws_callVV (o := 76) (As := []) (st := []) (la := [(0, .ref 76)]) (dcd d_m_digest_0 16 rfl) cv_m_mixSquare k_m_294 ⟨by decide, by decide⟩ ok_76 rfl (Nat.le_of_ble_eq_true rfl) (Nat.le_of_ble_eq_true rfl) rfl rfl h (fun u2 h => ?_)
    refine ws_iconst (v := 0) (dcd d_m_digest_0 17 rfl) (by decide) ?_
    refine ws_istore_n (l' := [(1, .int 0), (0, .ref 76)]) (dcd d_m_digest_0 18 rfl) (by decide) rfl ?_
    exact ws_loc [1, 0] rfl h
  · have h := h.2 c1
    refine ws_aload_n 0 (dcd d_m_digest_0 8 rfl) rfl ?_
    refine ws_aload_n 0 (dcd d_m_digest_0 9 rfl) rfl ?_
    refine ws_iload_n 1 (dcd d_m_digest_0 10 rfl) rfl ?_
    refine ws_callVI (o := 76) (As := [.int x1]) (st := [.ref 76]) (la := [(0, .ref 76), (1, .int x1)]) (dcd d_m_digest_0 11 rfl) cv_m_counts k_m_281 ⟨by decide, by decide⟩ ok_76 rfl (Nat.le_of_ble_eq_true rfl) (Nat.le_of_ble_eq_true rfl) rfl rfl h (fun a3 u3 h => ?_)
    refine ws_callVV (o := 76) (As := [.int a3]) (st := []) (la := [(0, .ref 76), (1, .int a3)]) (dcd d_m_digest_0 12 rfl) cv_m_mix k_m_289 ⟨by decide, by decide⟩ ok_76 rfl (Nat.le_of_ble_eq_true rfl) (Nat.le_of_ble_eq_true rfl) rfl rfl sp_m_mix ?_
    rintro _ rfl
    refine ws_iinc (v := 1) (l' := [(1, .int (x1 + 1)), (0, .ref 76)]) 1 (dcd d_m_digest_0 13 rfl) rfl (by decide) (by decide) rfl ?_
    refine ws_goto (tgt := 9) (dcd d_m_digest_0 14 rfl) (by decide) ?_
    exact ws_loc [1, 0] rfl h
theorem sg_m_digest_36 {x1 : Int32}  (h : ((6 ≤ x1 → Ws G m_digest 101 [(0, .ref 76), (1, .int 0)] [] u Q) ∧ (¬ (6 ≤ x1) → (vp_in x1 6 ∧ ((0 ≤ (mI u 78 (x1 : Int32).toNatClampNeg) → (vp_in x1 6 ∧ Ws G m_digest 67 [(0, .ref 76), (1, .int x1), (2, .int 0)] [] (pL u 76 32 (31 * (mL u 76 32) + ((mI u 78 (x1 : Int32).toNatClampNeg) : Int32).toInt64)) Q)) ∧ (¬ (0 ≤ (mI u 78 (x1 : Int32).toNatClampNeg)) → Ws G m_digest 67 [(0, .ref 76), (1, .int x1), (2, .int 0)] [] (pL u 76 32 (31 * (mL u 76 32) + ((-1) : Int32).toInt64)) Q)))))) : Ws G m_digest 36 [(0, .ref 76), (1, .int x1)] [] u Q := by
  refine ws_iload_n 1 (dcd d_m_digest_0 19 rfl) rfl ?_
  refine ws_bipush (v := 6) (dcd d_m_digest_0 20 rfl) (by decide) ?_
  refine ws_icmp_ge (tgt := 99) (dcd d_m_digest_0 21 rfl) (by decide) (fun c1 => ?_) (fun c1 => ?_)
  · have h := h.1 c1
    refine ws_iconst (v := 0) (dcd d_m_digest_1 23 rfl) (by decide) ?_
    refine ws_istore_n (l' := [(1, .int 0), (0, .ref 76)]) (dcd d_m_digest_1 24 rfl) (by decide) rfl ?_
    exact ws_loc [1, 0] rfl h
  · have h := h.2 c1
    refine ws_aload_n 0 (dcd d_m_digest_0 22 rfl) rfl ?_
    refine ws_aload_n 0 (dcd d_m_digest_0 23 rfl) rfl ?_
    refine ws_getF (a := 78) f_m_17 rfl (dcd d_m_digest_0 24 rfl) ok_76 of_8_5 rfl ?_
    refine ws_iload_n 1 (dcd d_m_digest_0 25 rfl) rfl ?_
    obtain ⟨e2, h⟩ := h
    refine ws_iald (L := 6) (dcd d_m_digest_0 26 rfl) (os_8_5 ok_76) (ol_8_5 ok_76) e2 ?_
    refine ws_if_ge (tgt := 56) (dcd d_m_digest_0 27 rfl) (by decide) (fun c3 => ?_) (fun c3 => ?_)
    · have h := h.1 c3
      refine ws_aload_n 0 (dcd d_m_digest_1 0 rfl) rfl ?_
      refine ws_getF (a := 78) f_m_17 rfl (dcd d_m_digest_1 1 rfl) ok_76 of_8_5 rfl ?_
      refine ws_iload_n 1 (dcd d_m_digest_1 2 rfl) rfl ?_
      obtain ⟨e4, h⟩ := h
      refine ws_iald (L := 6) (dcd d_m_digest_1 3 rfl) (os_8_5 ok_76) (ol_8_5 ok_76) e4 ?_
      refine ws_callVV (o := 76) (As := [.int (mI u 78 (x1 : Int32).toNatClampNeg)]) (st := []) (la := [(0, .ref 76), (1, .int (mI u 78 (x1 : Int32).toNatClampNeg))]) (dcd d_m_digest_1 4 rfl) cv_m_mix k_m_289 ⟨by decide, by decide⟩ ok_76 rfl (Nat.le_of_ble_eq_true rfl) (Nat.le_of_ble_eq_true rfl) rfl rfl sp_m_mix ?_
      rintro _ rfl
      refine ws_iconst (v := 0) (dcd d_m_digest_1 5 rfl) (by decide) ?_
      refine ws_istore_n (l' := [(2, .int 0), (0, .ref 76), (1, .int x1)]) (dcd d_m_digest_1 6 rfl) (by decide) rfl ?_
      exact ws_loc [1, 2, 0] rfl h
    · have h := h.2 c3
      refine ws_iconst (v := (-1)) (dcd d_m_digest_0 28 rfl) (by decide) ?_
      refine ws_goto (tgt := 62) (dcd d_m_digest_0 29 rfl) (by decide) ?_
      refine ws_callVV (o := 76) (As := [.int (-1)]) (st := []) (la := [(0, .ref 76), (1, .int (-1))]) (dcd d_m_digest_1 4 rfl) cv_m_mix k_m_289 ⟨by decide, by decide⟩ ok_76 rfl (Nat.le_of_ble_eq_true rfl) (Nat.le_of_ble_eq_true rfl) rfl rfl sp_m_mix ?_
      rintro _ rfl
      refine ws_iconst (v := 0) (dcd d_m_digest_1 5 rfl) (by decide) ?_
      refine ws_istore_n (l' := [(2, .int 0), (0, .ref 76), (1, .int x1)]) (dcd d_m_digest_1 6 rfl) (by decide) rfl ?_
      exact ws_loc [1, 2, 0] rfl h
theorem sg_m_digest_101 {x1 : Int32}  (h : ((4 ≤ x1 → Q (some (.long (mL u 76 32))) u) ∧ (¬ (4 ≤ x1) → (vp_in x1 4 ∧ ((0 ≤ (mI u 81 (x1 : Int32).toNatClampNeg) → (vp_in x1 4 ∧ Ws G m_digest 131 [(0, .ref 76), (1, .int x1), (2, .int 0)] [] (pL u 76 32 (31 * (mL u 76 32) + ((mI u 81 (x1 : Int32).toNatClampNeg) : Int32).toInt64)) Q)) ∧ (¬ (0 ≤ (mI u 81 (x1 : Int32).toNatClampNeg)) → Ws G m_digest 131 [(0, .ref 76), (1, .int x1), (2, .int 0)] [] (pL u 76 32 (31 * (mL u 76 32) + ((-1) : Int32).toInt64)) Q)))))) : Ws G m_digest 101 [(0, .ref 76), (1, .int x1)] [] u Q := by
  refine ws_iload_n 1 (dcd d_m_digest_1 25 rfl) rfl ?_
  refine ws_iconst (v := 4) (dcd d_m_digest_1 26 rfl) (by decide) ?_
  refine ws_icmp_ge (tgt := 168) (dcd d_m_digest_1 27 rfl) (by decide) (fun c1 => ?_) (fun c1 => ?_)
  · have h := h.1 c1
    refine ws_aload_n 0 (dcd d_m_digest_3 3 rfl) rfl ?_
    refine ws_getL f_m_286 rfl (dcd d_m_digest_3 4 rfl) ok_76 ?_
    exact ws_lret (dcd d_m_digest_3 5 rfl) rfl h
  · have h := h.2 c1
    refine ws_aload_n 0 (dcd d_m_digest_1 28 rfl) rfl ?_
    refine ws_aload_n 0 (dcd d_m_digest_1 29 rfl) rfl ?_
    refine ws_getF (a := 81) f_m_26 rfl (dcd d_m_digest_2 0 rfl) ok_76 of_8_8 rfl ?_
    refine ws_iload_n 1 (dcd d_m_digest_2 1 rfl) rfl ?_
    obtain ⟨e2, h⟩ := h
    refine ws_iald (L := 4) (dcd d_m_digest_2 2 rfl) (os_8_8 ok_76) (ol_8_8 ok_76) e2 ?_
    refine ws_if_ge (tgt := 120) (dcd d_m_digest_2 3 rfl) (by decide) (fun c3 => ?_) (fun c3 => ?_)
    · have h := h.1 c3
      refine ws_aload_n 0 (dcd d_m_digest_2 6 rfl) rfl ?_
      refine ws_getF (a := 81) f_m_26 rfl (dcd d_m_digest_2 7 rfl) ok_76 of_8_8 rfl ?_
      refine ws_iload_n 1 (dcd d_m_digest_2 8 rfl) rfl ?_
      obtain ⟨e4, h⟩ := h
      refine ws_iald (L := 4) (dcd d_m_digest_2 9 rfl) (os_8_8 ok_76) (ol_8_8 ok_76) e4 ?_
      refine ws_callVV (o := 76) (As := [.int (mI u 81 (x1 : Int32).toNatClampNeg)]) (st := []) (la := [(0, .ref 76), (1, .int (mI u 81 (x1 : Int32).toNatClampNeg))]) (dcd d_m_digest_2 10 rfl) cv_m_mix k_m_289 ⟨by decide, by decide⟩ ok_76 rfl (Nat.le_of_ble_eq_true rfl) (Nat.le_of_ble_eq_true rfl) rfl rfl sp_m_mix ?_
      rintro _ rfl
      refine ws_iconst (v := 0) (dcd d_m_digest_2 11 rfl) (by decide) ?_
      refine ws_istore_n (l' := [(2, .int 0), (0, .ref 76), (1, .int x1)]) (dcd d_m_digest_2 12 rfl) (by decide) rfl ?_
      exact ws_loc [1, 2, 0] rfl h
    · have h := h.2 c3
      refine ws_iconst (v := (-1)) (dcd d_m_digest_2 4 rfl) (by decide) ?_
      refine ws_goto (tgt := 126) (dcd d_m_digest_2 5 rfl) (by decide) ?_
      refine ws_callVV (o := 76) (As := [.int (-1)]) (st := []) (la := [(0, .ref 76), (1, .int (-1))]) (dcd d_m_digest_2 10 rfl) cv_m_mix k_m_289 ⟨by decide, by decide⟩ ok_76 rfl (Nat.le_of_ble_eq_true rfl) (Nat.le_of_ble_eq_true rfl) rfl rfl sp_m_mix ?_
      rintro _ rfl
      refine ws_iconst (v := 0) (dcd d_m_digest_2 11 rfl) (by decide) ?_
      refine ws_istore_n (l' := [(2, .int 0), (0, .ref 76), (1, .int x1)]) (dcd d_m_digest_2 12 rfl) (by decide) rfl ?_
      exact ws_loc [1, 2, 0] rfl h
theorem sg_m_digest_67 {x1 : Int32} {x2 : Int32}  (h : (vp_in x1 6 ∧ (((mI u 78 (x1 : Int32).toNatClampNeg) ≤ x2 → Ws G m_digest 36 [(0, .ref 76), (1, .int (x1 + 1))] [] u Q) ∧ (¬ ((mI u 78 (x1 : Int32).toNatClampNeg) ≤ x2) → (vp_in (40 * x1 + x2) 240 ∧ Ws G m_digest 67 [(0, .ref 76), (1, .int x1), (2, .int (x2 + 1))] [] (pL u 76 32 (31 * (mL u 76 32) + ((mI u 79 ((40 * x1 + x2) : Int32).toNatClampNeg) : Int32).toInt64)) Q))))) : Ws G m_digest 67 [(0, .ref 76), (1, .int x1), (2, .int x2)] [] u Q := by
  refine ws_iload_n 2 (dcd d_m_digest_1 7 rfl) rfl ?_
  refine ws_aload_n 0 (dcd d_m_digest_1 8 rfl) rfl ?_
  refine ws_getF (a := 78) f_m_17 rfl (dcd d_m_digest_1 9 rfl) ok_76 of_8_5 rfl ?_
  refine ws_iload_n 1 (dcd d_m_digest_1 10 rfl) rfl ?_
  obtain ⟨e1, h⟩ := h
  refine ws_iald (L := 6) (dcd d_m_digest_1 11 rfl) (os_8_5 ok_76) (ol_8_5 ok_76) e1 ?_
  refine ws_icmp_ge (tgt := 93) (dcd d_m_digest_1 12 rfl) (by decide) (fun c2 => ?_) (fun c2 => ?_)
  · have h := h.1 c2
    refine ws_iinc (v := 1) (l' := [(1, .int (x1 + 1)), (0, .ref 76), (2, .int x2)]) 1 (dcd d_m_digest_1 21 rfl) rfl (by decide) (by decide) rfl ?_
    refine ws_goto (tgt := 36) (dcd d_m_digest_1 22 rfl) (by decide) ?_
    exact ws_loc [1, 0] rfl h
  · have h := h.2 c2
    refine ws_aload_n 0 (dcd d_m_digest_1 13 rfl) rfl ?_
    refine ws_aload_n 0 (dcd d_m_digest_1 14 rfl) rfl ?_
    refine ws_iload_n 1 (dcd d_m_digest_1 15 rfl) rfl ?_
    refine ws_iload_n 2 (dcd d_m_digest_1 16 rfl) rfl ?_
    obtain ⟨e3, h⟩ := h
    refine ws_callVI (o := 76) (As := [.int x1, .int x2]) (st := [.ref 76]) (la := [(0, .ref 76), (1, .int x1), (2, .int x2)]) (dcd d_m_digest_1 17 rfl) cv_m_rowAt k_m_100 ⟨by decide, by decide⟩ ok_76 rfl (Nat.le_of_ble_eq_true rfl) (Nat.le_of_ble_eq_true rfl) rfl rfl (sp_m_rowAt e3) ?_
    rintro _ _ ⟨rfl, rfl⟩
    refine ws_callVV (o := 76) (As := [.int (mI u 79 ((40 * x1 + x2) : Int32).toNatClampNeg)]) (st := []) (la := [(0, .ref 76), (1, .int (mI u 79 ((40 * x1 + x2) : Int32).toNatClampNeg))]) (dcd d_m_digest_1 18 rfl) cv_m_mix k_m_289 ⟨by decide, by decide⟩ ok_76 rfl (Nat.le_of_ble_eq_true rfl) (Nat.le_of_ble_eq_true rfl) rfl rfl sp_m_mix ?_
    rintro _ rfl
    refine ws_iinc (v := 1) (l' := [(2, .int (x2 + 1)), (0, .ref 76), (1, .int x1)]) 2 (dcd d_m_digest_1 19 rfl) rfl (by decide) (by decide) rfl ?_
    refine ws_goto (tgt := 67) (dcd d_m_digest_1 20 rfl) (by decide) ?_
    exact ws_loc [1, 2, 0] rfl h
theorem sg_m_digest_131 {x1 : Int32} {x2 : Int32}  (h : (vp_in x1 4 ∧ (((mI u 81 (x1 : Int32).toNatClampNeg) ≤ x2 → Ws G m_digest 101 [(0, .ref 76), (1, .int (x1 + 1))] [] u Q) ∧ (¬ ((mI u 81 (x1 : Int32).toNatClampNeg) ≤ x2) → (vp_in ((100 * x1) + x2) 400 ∧ Ws G m_digest 131 [(0, .ref 76), (1, .int x1), (2, .int (x2 + 1))] [] (pL u 76 32 (31 * (mL u 76 32) + ((mI u 82 (((100 * x1) + x2) : Int32).toNatClampNeg) : Int32).toInt64)) Q))))) : Ws G m_digest 131 [(0, .ref 76), (1, .int x1), (2, .int x2)] [] u Q := by
  refine ws_iload_n 2 (dcd d_m_digest_2 13 rfl) rfl ?_
  refine ws_aload_n 0 (dcd d_m_digest_2 14 rfl) rfl ?_
  refine ws_getF (a := 81) f_m_26 rfl (dcd d_m_digest_2 15 rfl) ok_76 of_8_8 rfl ?_
  refine ws_iload_n 1 (dcd d_m_digest_2 16 rfl) rfl ?_
  obtain ⟨e1, h⟩ := h
  refine ws_iald (L := 4) (dcd d_m_digest_2 17 rfl) (os_8_8 ok_76) (ol_8_8 ok_76) e1 ?_
  refine ws_icmp_ge (tgt := 162) (dcd d_m_digest_2 18 rfl) (by decide) (fun c2 => ?_) (fun c2 => ?_)
  · have h := h.1 c2
    refine ws_iinc (v := 1) (l' := [(1, .int (x1 + 1)), (0, .ref 76), (2, .int x2)]) 1 (dcd d_m_digest_3 1 rfl) rfl (by decide) (by decide) rfl ?_
    refine ws_goto (tgt := 101) (dcd d_m_digest_3 2 rfl) (by decide) ?_
    exact ws_loc [1, 0] rfl h
  · have h := h.2 c2
    refine ws_aload_n 0 (dcd d_m_digest_2 19 rfl) rfl ?_
    refine ws_aload_n 0 (dcd d_m_digest_2 20 rfl) rfl ?_
    refine ws_getF (a := 82) f_m_29 rfl (dcd d_m_digest_2 21 rfl) ok_76 of_8_9 rfl ?_
    refine ws_bipush (v := 100) (dcd d_m_digest_2 22 rfl) (by decide) ?_
    refine ws_iload_n 1 (dcd d_m_digest_2 23 rfl) rfl ?_
    refine ws_imul (dcd d_m_digest_2 24 rfl) ?_
    refine ws_iload_n 2 (dcd d_m_digest_2 25 rfl) rfl ?_
    refine ws_iadd (dcd d_m_digest_2 26 rfl) ?_
    obtain ⟨e3, h⟩ := h
    refine ws_iald (L := 400) (dcd d_m_digest_2 27 rfl) (os_8_9 ok_76) (ol_8_9 ok_76) e3 ?_
    refine ws_callVV (o := 76) (As := [.int (mI u 82 (((100 * x1) + x2) : Int32).toNatClampNeg)]) (st := []) (la := [(0, .ref 76), (1, .int (mI u 82 (((100 * x1) + x2) : Int32).toNatClampNeg))]) (dcd d_m_digest_2 28 rfl) cv_m_mix k_m_289 ⟨by decide, by decide⟩ ok_76 rfl (Nat.le_of_ble_eq_true rfl) (Nat.le_of_ble_eq_true rfl) rfl rfl sp_m_mix ?_
    rintro _ rfl
    refine ws_iinc (v := 1) (l' := [(2, .int (x2 + 1)), (0, .ref 76), (1, .int x1)]) 2 (dcd d_m_digest_2 29 rfl) rfl (by decide) (by decide) rfl ?_
    refine ws_goto (tgt := 131) (dcd d_m_digest_3 0 rfl) (by decide) ?_
    exact ws_loc [1, 2, 0] rfl h
end SEG
