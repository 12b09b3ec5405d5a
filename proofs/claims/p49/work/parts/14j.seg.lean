section SEG
variable {G : pG} {u : pM} {Q : Option Value → pM → Prop}
theorem sg_m_errands_0 {x1 : Int32} {x2 : Int32} {x3 : Int32} {x4 : Int32}  (h : (((0 ≤ x1 ∧ x1 ≤ (mI u 76 10) - 1) → (((0 ≤ x2 ∧ x2 ≤ (1 <<< ((mI u 76 11) &&& 31)) - 1) → (((0 ≤ x3 ∧ x3 ≤ 30) → (((0 ≤ x4 ∧ x4 ≤ 5) → Ws G m_fromNow 0 [(0, .ref 76)] [] u (RV fun u9 => Ws G m_errands 43 [(0, .ref 76), (1, .int x1), (2, .int x2), (3, .int x3), (4, .int x4), (5, .int 0)] [] u9 Q)) ∧ (¬ (0 ≤ x4 ∧ x4 ≤ 5) → Q (some (.int (-1))) u))) ∧ (¬ (0 ≤ x3 ∧ x3 ≤ 30) → Q (some (.int (-1))) u))) ∧ (¬ (0 ≤ x2 ∧ x2 ≤ (1 <<< ((mI u 76 11) &&& 31)) - 1) → Q (some (.int (-1))) u))) ∧ (¬ (0 ≤ x1 ∧ x1 ≤ (mI u 76 10) - 1) → Q (some (.int (-1))) u))) : Ws G m_errands 0 [(0, .ref 76), (1, .int x1), (2, .int x2), (3, .int x3), (4, .int x4)] [] u Q := by
  refine ws_aload_n 0 (dcd d_m_errands_0 0 rfl) rfl ?_
  refine ws_iload_n 1 (dcd d_m_errands_0 1 rfl) rfl ?_
  refine ws_callVI (o := 76) (As := [.int x1]) (st := []) (la := [(0, .ref 76), (1, .int x1)]) (dcd d_m_errands_0 2 rfl) cv_m_isDoor k_m_194 ⟨by decide, by decide⟩ ok_76 rfl (Nat.le_of_ble_eq_true rfl) (Nat.le_of_ble_eq_true rfl) rfl rfl sp_m_isDoor ?_
  rintro _ _ ⟨rfl, ⟨rfl, c1⟩ | ⟨rfl, c1⟩⟩
  · have h := h.1 c1
    refine ws_if_eq (tgt := 34) (dcd d_m_errands_0 3 rfl) (by decide) (fun c => absurd c (by decide)) (fun _ => ?_)
    refine ws_aload_n 0 (dcd d_m_errands_0 4 rfl) rfl ?_
    refine ws_iload_n 2 (dcd d_m_errands_0 5 rfl) rfl ?_
    refine ws_callVI (o := 76) (As := [.int x2]) (st := []) (la := [(0, .ref 76), (1, .int x2)]) (dcd d_m_errands_0 6 rfl) cv_m_isSet k_m_235 ⟨by decide, by decide⟩ ok_76 rfl (Nat.le_of_ble_eq_true rfl) (Nat.le_of_ble_eq_true rfl) rfl rfl sp_m_isSet ?_
    rintro _ _ ⟨rfl, ⟨rfl, c3⟩ | ⟨rfl, c3⟩⟩
    · have h := h.1 c3
      refine ws_if_eq (tgt := 34) (dcd d_m_errands_0 7 rfl) (by decide) (fun c => absurd c (by decide)) (fun _ => ?_)
      refine ws_iload_n 3 (dcd d_m_errands_0 8 rfl) rfl ?_
      refine ws_iconst (v := 0) (dcd d_m_errands_0 9 rfl) (by decide) ?_
      refine ws_bipush (v := 30) (dcd d_m_errands_0 10 rfl) (by decide) ?_
      refine ws_callSI (As := [.int x3, .int 0, .int 30]) (st := []) (la := [(0, .int x3), (1, .int 0), (2, .int 30)]) (dcd d_m_errands_0 11 rfl) cs_m_in k_m_78 ⟨by decide, by decide⟩ rfl (Nat.le_of_ble_eq_true rfl) (Nat.le_of_ble_eq_true rfl) rfl rfl sp_m_in ?_
      rintro _ _ ⟨rfl, ⟨rfl, c5⟩ | ⟨rfl, c5⟩⟩
      · have h := h.1 c5
        refine ws_if_eq (tgt := 34) (dcd d_m_errands_0 12 rfl) (by decide) (fun c => absurd c (by decide)) (fun _ => ?_)
        refine ws_iload 4 (dcd d_m_errands_0 13 rfl) rfl ?_
        refine ws_callSI (As := [.int x4]) (st := []) (la := [(0, .int x4)]) (dcd d_m_errands_0 14 rfl) cs_m_isRow k_m_82 ⟨by decide, by decide⟩ rfl (Nat.le_of_ble_eq_true rfl) (Nat.le_of_ble_eq_true rfl) rfl rfl sp_m_isRow ?_
        rintro _ _ ⟨rfl, ⟨rfl, c7⟩ | ⟨rfl, c7⟩⟩
        · have h := h.1 c7
          refine ws_if_ne (tgt := 36) (dcd d_m_errands_0 15 rfl) (by decide) (fun _ => ?_) (fun c => absurd c (by decide))
          refine ws_aload_n 0 (dcd d_m_errands_0 18 rfl) rfl ?_
          refine ws_callVV (o := 76) (As := []) (st := []) (la := [(0, .ref 76)]) (dcd d_m_errands_0 19 rfl) cv_m_fromNow k_m_205 ⟨by decide, by decide⟩ ok_76 rfl (Nat.le_of_ble_eq_true rfl) (Nat.le_of_ble_eq_true rfl) rfl rfl h (fun u9 h => ?_)
          refine ws_iconst (v := 0) (dcd d_m_errands_0 20 rfl) (by decide) ?_
          refine ws_istore (l' := [(5, .int 0), (0, .ref 76), (1, .int x1), (2, .int x2), (3, .int x3), (4, .int x4)]) (dcd d_m_errands_0 21 rfl) (by decide) rfl ?_
          exact ws_loc [1, 2, 3, 4, 5, 0] rfl h
        · have h := h.2 c7
          refine ws_if_ne (tgt := 36) (dcd d_m_errands_0 15 rfl) (by decide) (fun c => absurd (show (0 : Int32) = 0 from by decide) c) (fun _ => ?_)
          refine ws_iconst (v := (-1)) (dcd d_m_errands_0 16 rfl) (by decide) ?_
          exact ws_iret (dcd d_m_errands_0 17 rfl) ⟨_, rfl, rfl⟩ h
      · have h := h.2 c5
        refine ws_if_eq (tgt := 34) (dcd d_m_errands_0 12 rfl) (by decide) (fun _ => ?_) (fun c => absurd (show (0 : Int32) = 0 from by decide) c)
        refine ws_iconst (v := (-1)) (dcd d_m_errands_0 16 rfl) (by decide) ?_
        exact ws_iret (dcd d_m_errands_0 17 rfl) ⟨_, rfl, rfl⟩ h
    · have h := h.2 c3
      refine ws_if_eq (tgt := 34) (dcd d_m_errands_0 7 rfl) (by decide) (fun _ => ?_) (fun c => absurd (show (0 : Int32) = 0 from by decide) c)
      refine ws_iconst (v := (-1)) (dcd d_m_errands_0 16 rfl) (by decide) ?_
      exact ws_iret (dcd d_m_errands_0 17 rfl) ⟨_, rfl, rfl⟩ h
  · have h := h.2 c1
    refine ws_if_eq (tgt := 34) (dcd d_m_errands_0 3 rfl) (by decide) (fun _ => ?_) (fun c => absurd (show (0 : Int32) = 0 from by decide) c)
    refine ws_iconst (v := (-1)) (dcd d_m_errands_0 16 rfl) (by decide) ?_
    exact ws_iret (dcd d_m_errands_0 17 rfl) ⟨_, rfl, rfl⟩ h
theorem sg_m_errands_43 {x1 : Int32} {x2 : Int32} {x3 : Int32} {x4 : Int32} {x5 : Int32}  (h : ((x3 < x5 → Ws G m_errands 123 [(0, .ref 76), (2, .int x2), (3, .int x3), (4, .int x4), (5, .int 0)] [] u Q) ∧ (¬ (x3 < x5) → Ws G m_errands 52 [(0, .ref 76), (1, .int x1), (2, .int x2), (3, .int x3), (4, .int x4), (5, .int x5), (6, .int 0)] [] u Q))) : Ws G m_errands 43 [(0, .ref 76), (1, .int x1), (2, .int x2), (3, .int x3), (4, .int x4), (5, .int x5)] [] u Q := by
  refine ws_iload 5 (dcd d_m_errands_0 22 rfl) rfl ?_
  refine ws_iload_n 3 (dcd d_m_errands_0 23 rfl) rfl ?_
  refine ws_icmp_gt (tgt := 120) (dcd d_m_errands_0 24 rfl) (by decide) (fun c1 => ?_) (fun c1 => ?_)
  · have h := h.1 c1
    refine ws_iconst (v := 0) (dcd d_m_errands_2 2 rfl) (by decide) ?_
    refine ws_istore (l' := [(5, .int 0), (0, .ref 76), (1, .int x1), (2, .int x2), (3, .int x3), (4, .int x4)]) (dcd d_m_errands_2 3 rfl) (by decide) rfl ?_
    exact ws_loc [1, 3, 4, 5, 0] rfl h
  · have h := h.2 c1
    refine ws_iconst (v := 0) (dcd d_m_errands_0 25 rfl) (by decide) ?_
    refine ws_istore (l' := [(6, .int 0), (0, .ref 76), (1, .int x1), (2, .int x2), (3, .int x3), (4, .int x4), (5, .int x5)]) (dcd d_m_errands_0 26 rfl) (by decide) rfl ?_
    exact ws_loc [1, 2, 3, 4, 5, 6, 0] rfl h
theorem sg_m_errands_123 {x2 : Int32} {x3 : Int32} {x4 : Int32} {x5 : Int32}  (h : ((7 ≤ x5 → Ws G m_leastFor 0 [(0, .ref 76), (1, .int x2), (2, .int x3)] [] u (RI fun a2 u2 => Ws G m_errands 159 [(0, .ref 76), (2, .int x2), (3, .int x3), (4, .int x4), (5, .int a2), (6, .int 0), (7, .int 0)] [] u2 Q)) ∧ (¬ (7 ≤ x5) → (vp_in x5 7 ∧ Ws G m_errands 123 [(0, .ref 76), (2, .int x2), (3, .int x3), (4, .int x4), (5, .int (x5 + 1))] [] (pI u 91 (x5 : Int32).toNatClampNeg (-9)) Q)))) : Ws G m_errands 123 [(0, .ref 76), (2, .int x2), (3, .int x3), (4, .int x4), (5, .int x5)] [] u Q := by
  refine ws_iload 4 (dcd d_m_errands_2 4 rfl) rfl ?_
  refine ws_bipush (v := 7) (dcd d_m_errands_2 5 rfl) (by decide) ?_
  refine ws_icmp_ge (tgt := 145) (dcd d_m_errands_2 6 rfl) (by decide) (fun c1 => ?_) (fun c1 => ?_)
  · have h := h.1 c1
    refine ws_aload_n 0 (dcd d_m_errands_2 14 rfl) rfl ?_
    refine ws_iload_n 1 (dcd d_m_errands_2 15 rfl) rfl ?_
    refine ws_iload_n 2 (dcd d_m_errands_2 16 rfl) rfl ?_
    refine ws_callVI (o := 76) (As := [.int x2, .int x3]) (st := []) (la := [(0, .ref 76), (1, .int x2), (2, .int x3)]) (dcd d_m_errands_2 17 rfl) cv_m_leastFor k_m_245 ⟨by decide, by decide⟩ ok_76 rfl (Nat.le_of_ble_eq_true rfl) (Nat.le_of_ble_eq_true rfl) rfl rfl h (fun a2 u2 h => ?_)
    refine ws_istore (l' := [(5, .int a2), (0, .ref 76), (2, .int x2), (3, .int x3), (4, .int x4)]) (dcd d_m_errands_2 18 rfl) (by decide) rfl ?_
    refine ws_iconst (v := 0) (dcd d_m_errands_2 19 rfl) (by decide) ?_
    refine ws_istore (l' := [(6, .int 0), (5, .int a2), (0, .ref 76), (2, .int x2), (3, .int x3), (4, .int x4)]) (dcd d_m_errands_2 20 rfl) (by decide) rfl ?_
    refine ws_iconst (v := 0) (dcd d_m_errands_2 21 rfl) (by decide) ?_
    refine ws_istore (l' := [(7, .int 0), (6, .int 0), (5, .int a2), (0, .ref 76), (2, .int x2), (3, .int x3), (4, .int x4)]) (dcd d_m_errands_2 22 rfl) (by decide) rfl ?_
    exact ws_loc [3, 4, 5, 6, 2, 1, 0] rfl h
  · have h := h.2 c1
    refine ws_aload_n 0 (dcd d_m_errands_2 7 rfl) rfl ?_
    refine ws_getF (a := 91) f_m_56 rfl (dcd d_m_errands_2 8 rfl) ok_76 of_8_26 rfl ?_
    refine ws_iload 4 (dcd d_m_errands_2 9 rfl) rfl ?_
    refine ws_bipush (v := (-9)) (dcd d_m_errands_2 10 rfl) (by decide) ?_
    obtain ⟨e3, h⟩ := h
    refine ws_iast (L := 7) (dcd d_m_errands_2 11 rfl) (os_8_26 ok_76) (ol_8_26 ok_76) e3 ?_
    refine ws_iinc (v := 1) (l' := [(5, .int (x5 + 1)), (0, .ref 76), (2, .int x2), (3, .int x3), (4, .int x4)]) 4 (dcd d_m_errands_2 12 rfl) rfl (by decide) (by decide) rfl ?_
    refine ws_goto (tgt := 123) (dcd d_m_errands_2 13 rfl) (by decide) ?_
    exact ws_loc [1, 2, 3, 4, 0] rfl h
theorem sg_m_errands_52 {x1 : Int32} {x2 : Int32} {x3 : Int32} {x4 : Int32} {x5 : Int32} {x6 : Int32}  (h : ((x2 < x6 → Ws G m_passOne 0 [(0, .ref 76), (1, .int ((mI u 76 18) + x5)), (2, .int (mI u 76 19))] [] u (RV fun u2 => Ws G m_errands 43 [(0, .ref 76), (1, .int x1), (2, .int x2), (3, .int x3), (4, .int x4), (5, .int (x5 + 1))] [] u2 Q)) ∧ (¬ (x2 < x6) → ((¬ (x6 &&& (x2 ^^^ (-1))) = 0 → (vp_in ((128 * x5) + x6) 3968 ∧ Ws G m_errands 52 [(0, .ref 76), (1, .int x1), (2, .int x2), (3, .int x3), (4, .int x4), (5, .int x5), (6, .int (x6 + 1))] [] (pI u 88 (((128 * x5) + x6) : Int32).toNatClampNeg 16777216) Q)) ∧ ((x6 &&& (x2 ^^^ (-1))) = 0 → Ws G m_roundOf 0 [(0, .ref 76), (1, .int x1), (2, .int x6)] [] u (RI fun a5 u5 => (vp_in ((128 * x5) + x6) 3968 ∧ Ws G m_errands 52 [(0, .ref 76), (1, .int x1), (2, .int x2), (3, .int x3), (4, .int x4), (5, .int x5), (6, .int (x6 + 1))] [] (pI u5 88 (((128 * x5) + x6) : Int32).toNatClampNeg a5) Q))))))) : Ws G m_errands 52 [(0, .ref 76), (1, .int x1), (2, .int x2), (3, .int x3), (4, .int x4), (5, .int x5), (6, .int x6)] [] u Q := by
  refine ws_iload 6 (dcd d_m_errands_0 27 rfl) rfl ?_
  refine ws_iload_n 2 (dcd d_m_errands_0 28 rfl) rfl ?_
  refine ws_icmp_gt (tgt := 99) (dcd d_m_errands_0 29 rfl) (by decide) (fun c1 => ?_) (fun c1 => ?_)
  · have h := h.1 c1
    refine ws_aload_n 0 (dcd d_m_errands_1 22 rfl) rfl ?_
    refine ws_aload_n 0 (dcd d_m_errands_1 23 rfl) rfl ?_
    refine ws_getI f_m_162 rfl (dcd d_m_errands_1 24 rfl) ok_76 ?_
    refine ws_iload 5 (dcd d_m_errands_1 25 rfl) rfl ?_
    refine ws_iadd (dcd d_m_errands_1 26 rfl) ?_
    refine ws_aload_n 0 (dcd d_m_errands_1 27 rfl) rfl ?_
    refine ws_getI f_m_165 rfl (dcd d_m_errands_1 28 rfl) ok_76 ?_
    refine ws_callVV (o := 76) (As := [.int ((mI u 76 18) + x5), .int (mI u 76 19)]) (st := []) (la := [(0, .ref 76), (1, .int ((mI u 76 18) + x5)), (2, .int (mI u 76 19))]) (dcd d_m_errands_1 29 rfl) cv_m_passOne k_m_208 ⟨by decide, by decide⟩ ok_76 rfl (Nat.le_of_ble_eq_true rfl) (Nat.le_of_ble_eq_true rfl) rfl rfl h (fun u2 h => ?_)
    refine ws_iinc (v := 1) (l' := [(5, .int (x5 + 1)), (0, .ref 76), (1, .int x1), (2, .int x2), (3, .int x3), (4, .int x4), (6, .int x6)]) 5 (dcd d_m_errands_2 0 rfl) rfl (by decide) (by decide) rfl ?_
    refine ws_goto (tgt := 43) (dcd d_m_errands_2 1 rfl) (by decide) ?_
    exact ws_loc [1, 2, 3, 4, 5, 0] rfl h
  · have h := h.2 c1
    refine ws_aload_n 0 (dcd d_m_errands_1 0 rfl) rfl ?_
    refine ws_getF (a := 88) f_m_47 rfl (dcd d_m_errands_1 1 rfl) ok_76 of_8_23 rfl ?_
    refine ws_sipush (v := 128) (dcd d_m_errands_1 2 rfl) (by decide) ?_
    refine ws_iload 5 (dcd d_m_errands_1 3 rfl) rfl ?_
    refine ws_imul (dcd d_m_errands_1 4 rfl) ?_
    refine ws_iload 6 (dcd d_m_errands_1 5 rfl) rfl ?_
    refine ws_iadd (dcd d_m_errands_1 6 rfl) ?_
    refine ws_iload 6 (dcd d_m_errands_1 7 rfl) rfl ?_
    refine ws_iload_n 2 (dcd d_m_errands_1 8 rfl) rfl ?_
    refine ws_iconst (v := (-1)) (dcd d_m_errands_1 9 rfl) (by decide) ?_
    refine ws_ixor (dcd d_m_errands_1 10 rfl) ?_
    refine ws_iand (dcd d_m_errands_1 11 rfl) ?_
    refine ws_if_ne (tgt := 90) (dcd d_m_errands_1 12 rfl) (by decide) (fun c3 => ?_) (fun c3 => ?_)
    · have h := h.1 c3
      refine ws_ldc (dcd d_m_errands_1 18 rfl) q_m_241 ?_
      obtain ⟨e4, h⟩ := h
      refine ws_iast (L := 3968) (dcd d_m_errands_1 19 rfl) (os_8_23 ok_76) (ol_8_23 ok_76) e4 ?_
      refine ws_iinc (v := 1) (l' := [(6, .int (x6 + 1)), (0, .ref 76), (1, .int x1), (2, .int x2), (3, .int x3), (4, .int x4), (5, .int x5)]) 6 (dcd d_m_errands_1 20 rfl) rfl (by decide) (by decide) rfl ?_
      refine ws_goto (tgt := 52) (dcd d_m_errands_1 21 rfl) (by decide) ?_
      exact ws_loc [1, 2, 3, 4, 5, 6, 0] rfl h
    · have h := h.2 c3
      refine ws_aload_n 0 (dcd d_m_errands_1 13 rfl) rfl ?_
      refine ws_iload_n 1 (dcd d_m_errands_1 14 rfl) rfl ?_
      refine ws_iload 6 (dcd d_m_errands_1 15 rfl) rfl ?_
      refine ws_callVI (o := 76) (As := [.int x1, .int x6]) (st := [.int ((128 * x5) + x6), .ref 88]) (la := [(0, .ref 76), (1, .int x1), (2, .int x6)]) (dcd d_m_errands_1 16 rfl) cv_m_roundOf k_m_238 ⟨by decide, by decide⟩ ok_76 rfl (Nat.le_of_ble_eq_true rfl) (Nat.le_of_ble_eq_true rfl) rfl rfl h (fun a5 u5 h => ?_)
      refine ws_goto (tgt := 92) (dcd d_m_errands_1 17 rfl) (by decide) ?_
      obtain ⟨e6, h⟩ := h
      refine ws_iast (L := 3968) (dcd d_m_errands_1 19 rfl) (os_8_23 ok_76) (ol_8_23 ok_76) e6 ?_
      refine ws_iinc (v := 1) (l' := [(6, .int (x6 + 1)), (0, .ref 76), (1, .int x1), (2, .int x2), (3, .int x3), (4, .int x4), (5, .int x5)]) 6 (dcd d_m_errands_1 20 rfl) rfl (by decide) (by decide) rfl ?_
      refine ws_goto (tgt := 52) (dcd d_m_errands_1 21 rfl) (by decide) ?_
      exact ws_loc [1, 2, 3, 4, 5, 6, 0] rfl h
theorem sg_m_errands_159 {x2 : Int32} {x3 : Int32} {x4 : Int32} {x5 : Int32} {x6 : Int32} {x7 : Int32}  (h : (((mI u 76 11) ≤ x7 → Ws G m_row 0 [(0, .ref 76), (1, .int x4), (2, .int x6)] [] u (RI fun a2 u2 => Ws G m_errands 235 [(0, .ref 76), (2, .int x2), (4, .int x4), (5, .int x5), (6, .int 0), (7, .int 0)] [] u2 Q)) ∧ (¬ ((mI u 76 11) ≤ x7) → ((¬ ((x2 >>> (x7 &&& 31)) &&& 1) = 1 → Ws G m_errands 159 [(0, .ref 76), (2, .int x2), (3, .int x3), (4, .int x4), (5, .int x5), (6, .int x6), (7, .int (x7 + 1))] [] u Q) ∧ (((x2 >>> (x7 &&& 31)) &&& 1) = 1 → (vp_in x7 7 ∧ Ws G m_errands 186 [(0, .ref 76), (2, .int x2), (3, .int x3), (4, .int x4), (5, .int x5), (6, .int x6), (7, .int x7)] [] (pI u 91 (x7 : Int32).toNatClampNeg 0) Q)))))) : Ws G m_errands 159 [(0, .ref 76), (2, .int x2), (3, .int x3), (4, .int x4), (5, .int x5), (6, .int x6), (7, .int x7)] [] u Q := by
  refine ws_iload 6 (dcd d_m_errands_2 23 rfl) rfl ?_
  refine ws_aload_n 0 (dcd d_m_errands_2 24 rfl) rfl ?_
  refine ws_getI f_m_156 rfl (dcd d_m_errands_2 25 rfl) ok_76 ?_
  refine ws_icmp_ge (tgt := 220) (dcd d_m_errands_2 26 rfl) (by decide) (fun c1 => ?_) (fun c1 => ?_)
  · have h := h.1 c1
    refine ws_aload_n 0 (dcd d_m_errands_3 27 rfl) rfl ?_
    refine ws_iload 3 (dcd d_m_errands_3 28 rfl) rfl ?_
    refine ws_iload 5 (dcd d_m_errands_3 29 rfl) rfl ?_
    refine ws_callVI (o := 76) (As := [.int x4, .int x6]) (st := []) (la := [(0, .ref 76), (1, .int x4), (2, .int x6)]) (dcd d_m_errands_4 0 rfl) cv_m_row k_m_212 ⟨by decide, by decide⟩ ok_76 rfl (Nat.le_of_ble_eq_true rfl) (Nat.le_of_ble_eq_true rfl) rfl rfl h (fun a2 u2 h => ?_)
    refine ws_pop (dcd d_m_errands_4 1 rfl) rfl ?_
    refine ws_iconst (v := 0) (dcd d_m_errands_4 2 rfl) (by decide) ?_
    refine ws_istore (l' := [(6, .int 0), (0, .ref 76), (2, .int x2), (3, .int x3), (4, .int x4), (5, .int x5), (7, .int x7)]) (dcd d_m_errands_4 3 rfl) (by decide) rfl ?_
    refine ws_iconst (v := 0) (dcd d_m_errands_4 4 rfl) (by decide) ?_
    refine ws_istore (l' := [(7, .int 0), (6, .int 0), (0, .ref 76), (2, .int x2), (3, .int x3), (4, .int x4), (5, .int x5)]) (dcd d_m_errands_4 5 rfl) (by decide) rfl ?_
    exact ws_loc [2, 3, 5, 6, 1, 0] rfl h
  · have h := h.2 c1
    refine ws_iload_n 1 (dcd d_m_errands_2 27 rfl) rfl ?_
    refine ws_iload 6 (dcd d_m_errands_2 28 rfl) rfl ?_
    refine ws_ishr (dcd d_m_errands_2 29 rfl) ?_
    refine ws_iconst (v := 1) (dcd d_m_errands_3 0 rfl) (by decide) ?_
    refine ws_iand (dcd d_m_errands_3 1 rfl) ?_
    refine ws_iconst (v := 1) (dcd d_m_errands_3 2 rfl) (by decide) ?_
    refine ws_icmp_ne (tgt := 214) (dcd d_m_errands_3 3 rfl) (by decide) (fun c3 => ?_) (fun c3 => ?_)
    · have h := h.1 c3
      refine ws_iinc (v := 1) (l' := [(7, .int (x7 + 1)), (0, .ref 76), (2, .int x2), (3, .int x3), (4, .int x4), (5, .int x5), (6, .int x6)]) 6 (dcd d_m_errands_3 25 rfl) rfl (by decide) (by decide) rfl ?_
      refine ws_goto (tgt := 159) (dcd d_m_errands_3 26 rfl) (by decide) ?_
      exact ws_loc [1, 2, 3, 4, 5, 6, 0] rfl h
    · have h := h.2 c3
      refine ws_aload_n 0 (dcd d_m_errands_3 4 rfl) rfl ?_
      refine ws_getF (a := 91) f_m_56 rfl (dcd d_m_errands_3 5 rfl) ok_76 of_8_26 rfl ?_
      refine ws_iload 6 (dcd d_m_errands_3 6 rfl) rfl ?_
      refine ws_iconst (v := 0) (dcd d_m_errands_3 7 rfl) (by decide) ?_
      obtain ⟨e4, h⟩ := h
      refine ws_iast (L := 7) (dcd d_m_errands_3 8 rfl) (os_8_26 ok_76) (ol_8_26 ok_76) e4 ?_
      exact ws_loc [0, 1, 2, 3, 4, 5, 6] rfl h
theorem sg_m_errands_235 {x2 : Int32} {x4 : Int32} {x5 : Int32} {x6 : Int32} {x7 : Int32}  (h : (((mI u 76 11) ≤ x7 → Q (some (.int x5)) u) ∧ (¬ ((mI u 76 11) ≤ x7) → ((¬ ((x2 >>> (x7 &&& 31)) &&& 1) = 1 → Ws G m_errands 235 [(0, .ref 76), (2, .int x2), (4, .int x4), (5, .int x5), (6, .int x6), (7, .int (x7 + 1))] [] u Q) ∧ (((x2 >>> (x7 &&& 31)) &&& 1) = 1 → (vp_in x7 7 ∧ (vp_in (40 * x4 + x6) 240 ∧ Ws G m_errands 235 [(0, .ref 76), (2, .int x2), (4, .int x4), (5, .int x5), (6, .int (x6 + 1)), (7, .int (x7 + 1))] [] (pI u 79 ((40 * x4 + x6) : Int32).toNatClampNeg (mI u 91 (x7 : Int32).toNatClampNeg)) Q))))))) : Ws G m_errands 235 [(0, .ref 76), (2, .int x2), (4, .int x4), (5, .int x5), (6, .int x6), (7, .int x7)] [] u Q := by
  refine ws_iload 5 (dcd d_m_errands_4 6 rfl) rfl ?_
  refine ws_aload_n 0 (dcd d_m_errands_4 7 rfl) rfl ?_
  refine ws_getI f_m_156 rfl (dcd d_m_errands_4 8 rfl) ok_76 ?_
  refine ws_icmp_ge (tgt := 278) (dcd d_m_errands_4 9 rfl) (by decide) (fun c1 => ?_) (fun c1 => ?_)
  · have h := h.1 c1
    refine ws_iload 3 (dcd d_m_errands_4 28 rfl) rfl ?_
    exact ws_iret (dcd d_m_errands_4 29 rfl) ⟨_, rfl, rfl⟩ h
  · have h := h.2 c1
    refine ws_iload_n 1 (dcd d_m_errands_4 10 rfl) rfl ?_
    refine ws_iload 5 (dcd d_m_errands_4 11 rfl) rfl ?_
    refine ws_ishr (dcd d_m_errands_4 12 rfl) ?_
    refine ws_iconst (v := 1) (dcd d_m_errands_4 13 rfl) (by decide) ?_
    refine ws_iand (dcd d_m_errands_4 14 rfl) ?_
    refine ws_iconst (v := 1) (dcd d_m_errands_4 15 rfl) (by decide) ?_
    refine ws_icmp_ne (tgt := 272) (dcd d_m_errands_4 16 rfl) (by decide) (fun c2 => ?_) (fun c2 => ?_)
    · have h := h.1 c2
      refine ws_iinc (v := 1) (l' := [(7, .int (x7 + 1)), (0, .ref 76), (2, .int x2), (4, .int x4), (5, .int x5), (6, .int x6)]) 5 (dcd d_m_errands_4 26 rfl) rfl (by decide) (by decide) rfl ?_
      refine ws_goto (tgt := 235) (dcd d_m_errands_4 27 rfl) (by decide) ?_
      exact ws_loc [1, 2, 3, 4, 5, 0] rfl h
    · have h := h.2 c2
      refine ws_aload_n 0 (dcd d_m_errands_4 17 rfl) rfl ?_
      refine ws_iload 2 (dcd d_m_errands_4 18 rfl) rfl ?_
      refine ws_iload 4 (dcd d_m_errands_4 19 rfl) rfl ?_
      refine ws_aload_n 0 (dcd d_m_errands_4 20 rfl) rfl ?_
      refine ws_getF (a := 91) f_m_56 rfl (dcd d_m_errands_4 21 rfl) ok_76 of_8_26 rfl ?_
      refine ws_iload 5 (dcd d_m_errands_4 22 rfl) rfl ?_
      obtain ⟨e3, h⟩ := h
      refine ws_iald (L := 7) (dcd d_m_errands_4 23 rfl) (os_8_26 ok_76) (ol_8_26 ok_76) e3 ?_
      obtain ⟨e4, h⟩ := h
      refine ws_callVV (o := 76) (As := [.int x4, .int x6, .int (mI u 91 (x7 : Int32).toNatClampNeg)]) (st := []) (la := [(0, .ref 76), (1, .int x4), (2, .int x6), (3, .int (mI u 91 (x7 : Int32).toNatClampNeg))]) (dcd d_m_errands_4 24 rfl) cv_m_setRow k_m_93 ⟨by decide, by decide⟩ ok_76 rfl (Nat.le_of_ble_eq_true rfl) (Nat.le_of_ble_eq_true rfl) rfl rfl (sp_m_setRow e4) ?_
      rintro _ rfl
      refine ws_iinc (v := 1) (l' := [(6, .int (x6 + 1)), (0, .ref 76), (2, .int x2), (4, .int x4), (5, .int x5), (7, .int x7)]) 4 (dcd d_m_errands_4 25 rfl) rfl (by decide) (by decide) rfl ?_
      refine ws_iinc (v := 1) (l' := [(7, .int (x7 + 1)), (6, .int (x6 + 1)), (0, .ref 76), (2, .int x2), (4, .int x4), (5, .int x5)]) 5 (dcd d_m_errands_4 26 rfl) rfl (by decide) (by decide) rfl ?_
      refine ws_goto (tgt := 235) (dcd d_m_errands_4 27 rfl) (by decide) ?_
      exact ws_loc [2, 3, 4, 5, 1, 0] rfl h
theorem sg_m_errands_186 {x2 : Int32} {x3 : Int32} {x4 : Int32} {x5 : Int32} {x6 : Int32} {x7 : Int32}  (h : Ws G m_leastFor 0 [(0, .ref 76), (1, .int x2), (2, .int x3)] [] u (RI fun a1 u1 => ((a1 = x5 → Ws G m_errands 159 [(0, .ref 76), (2, .int x2), (3, .int x3), (4, .int x4), (5, .int x5), (6, .int (x6 + 1)), (7, .int (x7 + 1))] [] u1 Q) ∧ (¬ a1 = x5 → (vp_in x7 7 ∧ (vp_in x7 7 ∧ Ws G m_errands 186 [(0, .ref 76), (2, .int x2), (3, .int x3), (4, .int x4), (5, .int x5), (6, .int x6), (7, .int x7)] [] (pI u1 91 (x7 : Int32).toNatClampNeg ((mI u1 91 (x7 : Int32).toNatClampNeg) + 1)) Q)))))) : Ws G m_errands 186 [(0, .ref 76), (2, .int x2), (3, .int x3), (4, .int x4), (5, .int x5), (6, .int x6), (7, .int x7)] [] u Q := by
  refine ws_aload_n 0 (dcd d_m_errands_3 9 rfl) rfl ?_
  refine ws_iload_n 1 (dcd d_m_errands_3 10 rfl) rfl ?_
  refine ws_iload_n 2 (dcd d_m_errands_3 11 rfl) rfl ?_
  refine ws_callVI (o := 76) (As := [.int x2, .int x3]) (st := []) (la := [(0, .ref 76), (1, .int x2), (2, .int x3)]) (dcd d_m_errands_3 12 rfl) cv_m_leastFor k_m_245 ⟨by decide, by decide⟩ ok_76 rfl (Nat.le_of_ble_eq_true rfl) (Nat.le_of_ble_eq_true rfl) rfl rfl h (fun a1 u1 h => ?_)
  refine ws_iload 4 (dcd d_m_errands_3 13 rfl) rfl ?_
  refine ws_icmp_eq (tgt := 211) (dcd d_m_errands_3 14 rfl) (by decide) (fun c2 => ?_) (fun c2 => ?_)
  · have h := h.1 c2
    refine ws_iinc (v := 1) (l' := [(6, .int (x6 + 1)), (0, .ref 76), (2, .int x2), (3, .int x3), (4, .int x4), (5, .int x5), (7, .int x7)]) 5 (dcd d_m_errands_3 24 rfl) rfl (by decide) (by decide) rfl ?_
    refine ws_iinc (v := 1) (l' := [(7, .int (x7 + 1)), (6, .int (x6 + 1)), (0, .ref 76), (2, .int x2), (3, .int x3), (4, .int x4), (5, .int x5)]) 6 (dcd d_m_errands_3 25 rfl) rfl (by decide) (by decide) rfl ?_
    refine ws_goto (tgt := 159) (dcd d_m_errands_3 26 rfl) (by decide) ?_
    exact ws_loc [2, 3, 4, 5, 6, 1, 0] rfl h
  · have h := h.2 c2
    refine ws_aload_n 0 (dcd d_m_errands_3 15 rfl) rfl ?_
    refine ws_getF (a := 91) f_m_56 rfl (dcd d_m_errands_3 16 rfl) ok_76 of_8_26 rfl ?_
    refine ws_iload 6 (dcd d_m_errands_3 17 rfl) rfl ?_
    refine ws_dup2 (dcd d_m_errands_3 18 rfl) rfl rfl ?_
    obtain ⟨e3, h⟩ := h
    refine ws_iald (L := 7) (dcd d_m_errands_3 19 rfl) (os_8_26 ok_76) (ol_8_26 ok_76) e3 ?_
    refine ws_iconst (v := 1) (dcd d_m_errands_3 20 rfl) (by decide) ?_
    refine ws_iadd (dcd d_m_errands_3 21 rfl) ?_
    obtain ⟨e4, h⟩ := h
    refine ws_iast (L := 7) (dcd d_m_errands_3 22 rfl) (os_8_26 ok_76) (ol_8_26 ok_76) e4 ?_
    refine ws_goto (tgt := 186) (dcd d_m_errands_3 23 rfl) (by decide) ?_
    exact ws_loc [0, 1, 2, 3, 4, 5, 6] rfl h
theorem sg_m_leastFor_0 {x1 : Int32} {x2 : Int32}  (h : Ws G m_leastFor 2 [(0, .ref 76), (1, .int x1), (2, .int x2), (3, .int 0)] [] u Q) : Ws G m_leastFor 0 [(0, .ref 76), (1, .int x1), (2, .int x2)] [] u Q := by
  refine ws_iconst (v := 0) (dcd d_m_leastFor_0 0 rfl) (by decide) ?_
  refine ws_istore_n (l' := [(3, .int 0), (0, .ref 76), (1, .int x1), (2, .int x2)]) (dcd d_m_leastFor_0 1 rfl) (by decide) rfl ?_
  exact ws_loc [1, 2, 3, 0] rfl h
theorem sg_m_leastFor_2 {x1 : Int32} {x2 : Int32} {x3 : Int32}  (h : ((x1 < x3 → Ws G m_leastFor 31 [(0, .ref 76), (1, .int x1), (3, .int x2)] [] u Q) ∧ (¬ (x1 < x3) → ((¬ x3 = 0 → (vp_in x3 128 ∧ Ws G m_leastFor 2 [(0, .ref 76), (1, .int x1), (2, .int x2), (3, .int (x3 + 1))] [] (pI u 89 (x3 : Int32).toNatClampNeg 16777216) Q)) ∧ (x3 = 0 → (vp_in x3 128 ∧ Ws G m_leastFor 2 [(0, .ref 76), (1, .int x1), (2, .int x2), (3, .int (x3 + 1))] [] (pI u 89 (x3 : Int32).toNatClampNeg 0) Q)))))) : Ws G m_leastFor 2 [(0, .ref 76), (1, .int x1), (2, .int x2), (3, .int x3)] [] u Q := by
  refine ws_iload_n 3 (dcd d_m_leastFor_0 2 rfl) rfl ?_
  refine ws_iload_n 1 (dcd d_m_leastFor_0 3 rfl) rfl ?_
  refine ws_icmp_gt (tgt := 29) (dcd d_m_leastFor_0 4 rfl) (by decide) (fun c1 => ?_) (fun c1 => ?_)
  · have h := h.1 c1
    refine ws_iload_n 2 (dcd d_m_leastFor_0 16 rfl) rfl ?_
    refine ws_istore_n (l' := [(3, .int x2), (0, .ref 76), (1, .int x1), (2, .int x2)]) (dcd d_m_leastFor_0 17 rfl) (by decide) rfl ?_
    exact ws_loc [1, 2, 0] rfl h
  · have h := h.2 c1
    refine ws_aload_n 0 (dcd d_m_leastFor_0 5 rfl) rfl ?_
    refine ws_getF (a := 89) f_m_50 rfl (dcd d_m_leastFor_0 6 rfl) ok_76 of_8_24 rfl ?_
    refine ws_iload_n 3 (dcd d_m_leastFor_0 7 rfl) rfl ?_
    refine ws_iload_n 3 (dcd d_m_leastFor_0 8 rfl) rfl ?_
    refine ws_if_ne (tgt := 20) (dcd d_m_leastFor_0 9 rfl) (by decide) (fun c2 => ?_) (fun c2 => ?_)
    · have h := h.1 c2
      refine ws_ldc (dcd d_m_leastFor_0 12 rfl) q_m_241 ?_
      obtain ⟨e3, h⟩ := h
      refine ws_iast (L := 128) (dcd d_m_leastFor_0 13 rfl) (os_8_24 ok_76) (ol_8_24 ok_76) e3 ?_
      refine ws_iinc (v := 1) (l' := [(3, .int (x3 + 1)), (0, .ref 76), (1, .int x1), (2, .int x2)]) 3 (dcd d_m_leastFor_0 14 rfl) rfl (by decide) (by decide) rfl ?_
      refine ws_goto (tgt := 2) (dcd d_m_leastFor_0 15 rfl) (by decide) ?_
      exact ws_loc [1, 2, 3, 0] rfl h
    · have h := h.2 c2
      refine ws_iconst (v := 0) (dcd d_m_leastFor_0 10 rfl) (by decide) ?_
      refine ws_goto (tgt := 22) (dcd d_m_leastFor_0 11 rfl) (by decide) ?_
      obtain ⟨e4, h⟩ := h
      refine ws_iast (L := 128) (dcd d_m_leastFor_0 13 rfl) (os_8_24 ok_76) (ol_8_24 ok_76) e4 ?_
      refine ws_iinc (v := 1) (l' := [(3, .int (x3 + 1)), (0, .ref 76), (1, .int x1), (2, .int x2)]) 3 (dcd d_m_leastFor_0 14 rfl) rfl (by decide) (by decide) rfl ?_
      refine ws_goto (tgt := 2) (dcd d_m_leastFor_0 15 rfl) (by decide) ?_
      exact ws_loc [1, 2, 3, 0] rfl h
theorem sg_m_leastFor_31 {x1 : Int32} {x3 : Int32}  (h : ((x3 < 0 → (vp_in x1 128 ∧ Q (some (.int (mI u 89 (x1 : Int32).toNatClampNeg))) u)) ∧ (¬ (x3 < 0) → Ws G m_leastFor 38 [(0, .ref 76), (1, .int x1), (3, .int x3), (4, .int 0)] [] u Q))) : Ws G m_leastFor 31 [(0, .ref 76), (1, .int x1), (3, .int x3)] [] u Q := by
  refine ws_iload_n 2 (dcd d_m_leastFor_0 18 rfl) rfl ?_
  refine ws_if_lt (tgt := 207) (dcd d_m_leastFor_0 19 rfl) (by decide) (fun c1 => ?_) (fun c1 => ?_)
  · have h := h.1 c1
    refine ws_aload_n 0 (dcd d_m_leastFor_3 21 rfl) rfl ?_
    refine ws_getF (a := 89) f_m_50 rfl (dcd d_m_leastFor_3 22 rfl) ok_76 of_8_24 rfl ?_
    refine ws_iload_n 1 (dcd d_m_leastFor_3 23 rfl) rfl ?_
    obtain ⟨e2, h⟩ := h
    refine ws_iald (L := 128) (dcd d_m_leastFor_3 24 rfl) (os_8_24 ok_76) (ol_8_24 ok_76) e2 ?_
    exact ws_iret (dcd d_m_leastFor_3 25 rfl) ⟨_, rfl, rfl⟩ h
  · have h := h.2 c1
    refine ws_iconst (v := 0) (dcd d_m_leastFor_0 20 rfl) (by decide) ?_
    refine ws_istore (l' := [(4, .int 0), (0, .ref 76), (1, .int x1), (3, .int x3)]) (dcd d_m_leastFor_0 21 rfl) (by decide) rfl ?_
    exact ws_loc [1, 2, 3, 0] rfl h
theorem sg_m_leastFor_38 {x1 : Int32} {x3 : Int32} {x4 : Int32}  (h : ((x1 < x4 → Ws G m_leastFor 175 [(0, .ref 76), (1, .int x1), (3, .int x3), (4, .int 0)] [] u Q) ∧ (¬ (x1 < x4) → (vp_in x4 128 ∧ Ws G m_leastFor 57 [(0, .ref 76), (1, .int x1), (3, .int x3), (4, .int x4), (5, .int x4)] [] (pI u 90 (x4 : Int32).toNatClampNeg 16777216) Q)))) : Ws G m_leastFor 38 [(0, .ref 76), (1, .int x1), (3, .int x3), (4, .int x4)] [] u Q := by
  refine ws_iload 3 (dcd d_m_leastFor_0 22 rfl) rfl ?_
  refine ws_iload_n 1 (dcd d_m_leastFor_0 23 rfl) rfl ?_
  refine ws_icmp_gt (tgt := 172) (dcd d_m_leastFor_0 24 rfl) (by decide) (fun c1 => ?_) (fun c1 => ?_)
  · have h := h.1 c1
    refine ws_iconst (v := 0) (dcd d_m_leastFor_3 4 rfl) (by decide) ?_
    refine ws_istore (l' := [(4, .int 0), (0, .ref 76), (1, .int x1), (3, .int x3)]) (dcd d_m_leastFor_3 5 rfl) (by decide) rfl ?_
    exact ws_loc [1, 2, 3, 0] rfl h
  · have h := h.2 c1
    refine ws_aload_n 0 (dcd d_m_leastFor_0 25 rfl) rfl ?_
    refine ws_getF (a := 90) f_m_53 rfl (dcd d_m_leastFor_0 26 rfl) ok_76 of_8_25 rfl ?_
    refine ws_iload 3 (dcd d_m_leastFor_0 27 rfl) rfl ?_
    refine ws_ldc (dcd d_m_leastFor_0 28 rfl) q_m_241 ?_
    obtain ⟨e2, h⟩ := h
    refine ws_iast (L := 128) (dcd d_m_leastFor_0 29 rfl) (os_8_25 ok_76) (ol_8_25 ok_76) e2 ?_
    refine ws_iload 3 (dcd d_m_leastFor_1 0 rfl) rfl ?_
    refine ws_istore (l' := [(5, .int x4), (0, .ref 76), (1, .int x1), (3, .int x3), (4, .int x4)]) (dcd d_m_leastFor_1 1 rfl) (by decide) rfl ?_
    exact ws_loc [1, 2, 3, 4, 0] rfl h
theorem sg_m_leastFor_175 {x1 : Int32} {x3 : Int32} {x4 : Int32}  (h : ((x1 < x4 → Ws G m_leastFor 31 [(0, .ref 76), (1, .int x1), (3, .int (x3 + (-1)))] [] u Q) ∧ (¬ (x1 < x4) → (vp_in x4 128 ∧ (vp_in x4 128 ∧ Ws G m_leastFor 175 [(0, .ref 76), (1, .int x1), (3, .int x3), (4, .int (x4 + 1))] [] (pI u 89 (x4 : Int32).toNatClampNeg (mI u 90 (x4 : Int32).toNatClampNeg)) Q))))) : Ws G m_leastFor 175 [(0, .ref 76), (1, .int x1), (3, .int x3), (4, .int x4)] [] u Q := by
  refine ws_iload 3 (dcd d_m_leastFor_3 6 rfl) rfl ?_
  refine ws_iload_n 1 (dcd d_m_leastFor_3 7 rfl) rfl ?_
  refine ws_icmp_gt (tgt := 201) (dcd d_m_leastFor_3 8 rfl) (by decide) (fun c1 => ?_) (fun c1 => ?_)
  · have h := h.1 c1
    refine ws_iinc (v := (-1)) (l' := [(3, .int (x3 + (-1))), (0, .ref 76), (1, .int x1), (4, .int x4)]) 2 (dcd d_m_leastFor_3 19 rfl) rfl (by decide) (by decide) rfl ?_
    refine ws_goto (tgt := 31) (dcd d_m_leastFor_3 20 rfl) (by decide) ?_
    exact ws_loc [1, 2, 0] rfl h
  · have h := h.2 c1
    refine ws_aload_n 0 (dcd d_m_leastFor_3 9 rfl) rfl ?_
    refine ws_getF (a := 89) f_m_50 rfl (dcd d_m_leastFor_3 10 rfl) ok_76 of_8_24 rfl ?_
    refine ws_iload 3 (dcd d_m_leastFor_3 11 rfl) rfl ?_
    refine ws_aload_n 0 (dcd d_m_leastFor_3 12 rfl) rfl ?_
    refine ws_getF (a := 90) f_m_53 rfl (dcd d_m_leastFor_3 13 rfl) ok_76 of_8_25 rfl ?_
    refine ws_iload 3 (dcd d_m_leastFor_3 14 rfl) rfl ?_
    obtain ⟨e2, h⟩ := h
    refine ws_iald (L := 128) (dcd d_m_leastFor_3 15 rfl) (os_8_25 ok_76) (ol_8_25 ok_76) e2 ?_
    obtain ⟨e3, h⟩ := h
    refine ws_iast (L := 128) (dcd d_m_leastFor_3 16 rfl) (os_8_24 ok_76) (ol_8_24 ok_76) e3 ?_
    refine ws_iinc (v := 1) (l' := [(4, .int (x4 + 1)), (0, .ref 76), (1, .int x1), (3, .int x3)]) 3 (dcd d_m_leastFor_3 17 rfl) rfl (by decide) (by decide) rfl ?_
    refine ws_goto (tgt := 175) (dcd d_m_leastFor_3 18 rfl) (by decide) ?_
    exact ws_loc [1, 2, 3, 0] rfl h
theorem sg_m_leastFor_57 {x1 : Int32} {x3 : Int32} {x4 : Int32} {x5 : Int32}  (h : ((¬ (x4 &&& (x1 ^^^ (-1))) = 0 → Ws G m_leastFor 38 [(0, .ref 76), (1, .int x1), (3, .int x3), (4, .int (x4 + 1))] [] u Q) ∧ ((x4 &&& (x1 ^^^ (-1))) = 0 → ((x5 < 0 → Ws G m_leastFor 38 [(0, .ref 76), (1, .int x1), (3, .int x3), (4, .int (x4 + 1))] [] u Q) ∧ (¬ (x5 < 0) → Ws G m_mayIn 0 [(0, .ref 76), (1, .int x5), (2, .int x3)] [] u (RI fun a3 u3 => ((a3 = 0 → (vp_in x4 128 ∧ (((mI u3 90 (x4 : Int32).toNatClampNeg) ≤ 16777216 → (vp_in x4 128 ∧ (vp_in x4 128 ∧ ((¬ x5 = 0 → Ws G m_leastFor 57 [(0, .ref 76), (1, .int x1), (3, .int x3), (4, .int x4), (5, .int ((x5 - 1) &&& x4))] [] (pI u3 90 (x4 : Int32).toNatClampNeg (mI u3 90 (x4 : Int32).toNatClampNeg)) Q) ∧ (x5 = 0 → Ws G m_leastFor 57 [(0, .ref 76), (1, .int x1), (3, .int x3), (4, .int x4), (5, .int (-1))] [] (pI u3 90 (x4 : Int32).toNatClampNeg (mI u3 90 (x4 : Int32).toNatClampNeg)) Q))))) ∧ (¬ ((mI u3 90 (x4 : Int32).toNatClampNeg) ≤ 16777216) → (vp_in x4 128 ∧ ((¬ x5 = 0 → Ws G m_leastFor 57 [(0, .ref 76), (1, .int x1), (3, .int x3), (4, .int x4), (5, .int ((x5 - 1) &&& x4))] [] (pI u3 90 (x4 : Int32).toNatClampNeg 16777216) Q) ∧ (x5 = 0 → Ws G m_leastFor 57 [(0, .ref 76), (1, .int x1), (3, .int x3), (4, .int x4), (5, .int (-1))] [] (pI u3 90 (x4 : Int32).toNatClampNeg 16777216) Q))))))) ∧ (¬ a3 = 0 → (vp_in ((128 * x3) + x5) 3968 ∧ (vp_in (x4 &&& (x5 ^^^ (-1))) 128 ∧ (vp_in x4 128 ∧ (((mI u3 90 (x4 : Int32).toNatClampNeg) ≤ ((mI u3 88 (((128 * x3) + x5) : Int32).toNatClampNeg) + (mI u3 89 ((x4 &&& (x5 ^^^ (-1))) : Int32).toNatClampNeg)) → (vp_in x4 128 ∧ (vp_in x4 128 ∧ ((¬ x5 = 0 → Ws G m_leastFor 57 [(0, .ref 76), (1, .int x1), (3, .int x3), (4, .int x4), (5, .int ((x5 - 1) &&& x4))] [] (pI u3 90 (x4 : Int32).toNatClampNeg (mI u3 90 (x4 : Int32).toNatClampNeg)) Q) ∧ (x5 = 0 → Ws G m_leastFor 57 [(0, .ref 76), (1, .int x1), (3, .int x3), (4, .int x4), (5, .int (-1))] [] (pI u3 90 (x4 : Int32).toNatClampNeg (mI u3 90 (x4 : Int32).toNatClampNeg)) Q))))) ∧ (¬ ((mI u3 90 (x4 : Int32).toNatClampNeg) ≤ ((mI u3 88 (((128 * x3) + x5) : Int32).toNatClampNeg) + (mI u3 89 ((x4 &&& (x5 ^^^ (-1))) : Int32).toNatClampNeg))) → (vp_in x4 128 ∧ ((¬ x5 = 0 → Ws G m_leastFor 57 [(0, .ref 76), (1, .int x1), (3, .int x3), (4, .int x4), (5, .int ((x5 - 1) &&& x4))] [] (pI u3 90 (x4 : Int32).toNatClampNeg ((mI u3 88 (((128 * x3) + x5) : Int32).toNatClampNeg) + (mI u3 89 ((x4 &&& (x5 ^^^ (-1))) : Int32).toNatClampNeg))) Q) ∧ (x5 = 0 → Ws G m_leastFor 57 [(0, .ref 76), (1, .int x1), (3, .int x3), (4, .int x4), (5, .int (-1))] [] (pI u3 90 (x4 : Int32).toNatClampNeg ((mI u3 88 (((128 * x3) + x5) : Int32).toNatClampNeg) + (mI u3 89 ((x4 &&& (x5 ^^^ (-1))) : Int32).toNatClampNeg))) Q)))))))))))))))) : Ws G m_leastFor 57 [(0, .ref 76), (1, .int x1), (3, .int x3), (4, .int x4), (5, .int x5)] [] u Q := by
  refine ws_iload 3 (dcd d_m_leastFor_1 2 rfl) rfl ?_
  refine ws_iload_n 1 (dcd d_m_leastFor_1 3 rfl) rfl ?_
  refine ws_iconst (v := (-1)) (dcd d_m_leastFor_1 4 rfl) (by decide) ?_
  refine ws_ixor (dcd d_m_leastFor_1 5 rfl) ?_
  refine ws_iand (dcd d_m_leastFor_1 6 rfl) ?_
  refine ws_if_ne (tgt := 166) (dcd d_m_leastFor_1 7 rfl) (by decide) (fun c1 => ?_) (fun c1 => ?_)
  · have h := h.1 c1
    refine ws_iinc (v := 1) (l' := [(4, .int (x4 + 1)), (0, .ref 76), (1, .int x1), (3, .int x3), (5, .int x5)]) 3 (dcd d_m_leastFor_3 2 rfl) rfl (by decide) (by decide) rfl ?_
    refine ws_goto (tgt := 38) (dcd d_m_leastFor_3 3 rfl) (by decide) ?_
    exact ws_loc [1, 2, 3, 0] rfl h
  · have h := h.2 c1
    refine ws_iload 4 (dcd d_m_leastFor_1 8 rfl) rfl ?_
    refine ws_if_lt (tgt := 166) (dcd d_m_leastFor_1 9 rfl) (by decide) (fun c2 => ?_) (fun c2 => ?_)
    · have h := h.1 c2
      refine ws_iinc (v := 1) (l' := [(4, .int (x4 + 1)), (0, .ref 76), (1, .int x1), (3, .int x3), (5, .int x5)]) 3 (dcd d_m_leastFor_3 2 rfl) rfl (by decide) (by decide) rfl ?_
      refine ws_goto (tgt := 38) (dcd d_m_leastFor_3 3 rfl) (by decide) ?_
      exact ws_loc [1, 2, 3, 0] rfl h
    · have h := h.2 c2
      refine ws_aload_n 0 (dcd d_m_leastFor_1 10 rfl) rfl ?_
      refine ws_iload 4 (dcd d_m_leastFor_1 11 rfl) rfl ?_
      refine ws_iload_n 2 (dcd d_m_leastFor_1 12 rfl) rfl ?_
      refine ws_callVI (o := 76) (As := [.int x5, .int x3]) (st := []) (la := [(0, .ref 76), (1, .int x5), (2, .int x3)]) (dcd d_m_leastFor_1 13 rfl) cv_m_mayIn k_m_242 ⟨by decide, by decide⟩ ok_76 rfl (Nat.le_of_ble_eq_true rfl) (Nat.le_of_ble_eq_true rfl) rfl rfl h (fun a3 u3 h => ?_)
      refine ws_if_eq (tgt := 110) (dcd d_m_leastFor_1 14 rfl) (by decide) (fun c4 => ?_) (fun c4 => ?_)
      · have h := h.1 c4
        refine ws_ldc (dcd d_m_leastFor_2 3 rfl) q_m_241 ?_
        refine ws_istore (l' := [(6, .int 16777216), (0, .ref 76), (1, .int x1), (3, .int x3), (4, .int x4), (5, .int x5)]) (dcd d_m_leastFor_2 4 rfl) (by decide) rfl ?_
        refine ws_aload_n 1 (dcd d_m_leastFor_2 5 rfl) rfl ?_
        refine ws_getF (a := 90) f_m_53 rfl (dcd d_m_leastFor_2 6 rfl) ok_76 of_8_25 rfl ?_
        refine ws_iload 4 (dcd d_m_leastFor_2 7 rfl) rfl ?_
        refine ws_iload 0 (dcd d_m_leastFor_2 8 rfl) rfl ?_
        refine ws_aload_n 1 (dcd d_m_leastFor_2 9 rfl) rfl ?_
        refine ws_getF (a := 90) f_m_53 rfl (dcd d_m_leastFor_2 10 rfl) ok_76 of_8_25 rfl ?_
        refine ws_iload 4 (dcd d_m_leastFor_2 11 rfl) rfl ?_
        obtain ⟨e5, h⟩ := h
        refine ws_iald (L := 128) (dcd d_m_leastFor_2 12 rfl) (os_8_25 ok_76) (ol_8_25 ok_76) e5 ?_
        refine ws_icmp_ge (tgt := 137) (dcd d_m_leastFor_2 13 rfl) (by decide) (fun c6 => ?_) (fun c6 => ?_)
        · have h := h.1 c6
          refine ws_aload_n 1 (dcd d_m_leastFor_2 16 rfl) rfl ?_
          refine ws_getF (a := 90) f_m_53 rfl (dcd d_m_leastFor_2 17 rfl) ok_76 of_8_25 rfl ?_
          refine ws_iload 4 (dcd d_m_leastFor_2 18 rfl) rfl ?_
          obtain ⟨e7, h⟩ := h
          refine ws_iald (L := 128) (dcd d_m_leastFor_2 19 rfl) (os_8_25 ok_76) (ol_8_25 ok_76) e7 ?_
          obtain ⟨e8, h⟩ := h
          refine ws_iast (L := 128) (dcd d_m_leastFor_2 20 rfl) (os_8_25 ok_76) (ol_8_25 ok_76) e8 ?_
          refine ws_iload 5 (dcd d_m_leastFor_2 21 rfl) rfl ?_
          refine ws_if_ne (tgt := 154) (dcd d_m_leastFor_2 22 rfl) (by decide) (fun c9 => ?_) (fun c9 => ?_)
          · have h := h.1 c9
            refine ws_iload 5 (dcd d_m_leastFor_2 25 rfl) rfl ?_
            refine ws_iconst (v := 1) (dcd d_m_leastFor_2 26 rfl) (by decide) ?_
            refine ws_isub (dcd d_m_leastFor_2 27 rfl) ?_
            refine ws_iload 4 (dcd d_m_leastFor_2 28 rfl) rfl ?_
            refine ws_iand (dcd d_m_leastFor_2 29 rfl) ?_
            refine ws_istore (l' := [(5, .int ((x5 - 1) &&& x4)), (6, .int 16777216), (0, .ref 76), (1, .int x1), (3, .int x3), (4, .int x4)]) (dcd d_m_leastFor_3 0 rfl) (by decide) rfl ?_
            refine ws_goto (tgt := 57) (dcd d_m_leastFor_3 1 rfl) (by decide) ?_
            exact ws_loc [2, 3, 4, 5, 0] rfl h
          · have h := h.2 c9
            refine ws_iconst (v := (-1)) (dcd d_m_leastFor_2 23 rfl) (by decide) ?_
            refine ws_goto (tgt := 161) (dcd d_m_leastFor_2 24 rfl) (by decide) ?_
            refine ws_istore (l' := [(5, .int (-1)), (6, .int 16777216), (0, .ref 76), (1, .int x1), (3, .int x3), (4, .int x4)]) (dcd d_m_leastFor_3 0 rfl) (by decide) rfl ?_
            refine ws_goto (tgt := 57) (dcd d_m_leastFor_3 1 rfl) (by decide) ?_
            exact ws_loc [2, 3, 4, 5, 0] rfl h
        · have h := h.2 c6
          refine ws_iload 0 (dcd d_m_leastFor_2 14 rfl) rfl ?_
          refine ws_goto (tgt := 144) (dcd d_m_leastFor_2 15 rfl) (by decide) ?_
          obtain ⟨e10, h⟩ := h
          refine ws_iast (L := 128) (dcd d_m_leastFor_2 20 rfl) (os_8_25 ok_76) (ol_8_25 ok_76) e10 ?_
          refine ws_iload 5 (dcd d_m_leastFor_2 21 rfl) rfl ?_
          refine ws_if_ne (tgt := 154) (dcd d_m_leastFor_2 22 rfl) (by decide) (fun c11 => ?_) (fun c11 => ?_)
          · have h := h.1 c11
            refine ws_iload 5 (dcd d_m_leastFor_2 25 rfl) rfl ?_
            refine ws_iconst (v := 1) (dcd d_m_leastFor_2 26 rfl) (by decide) ?_
            refine ws_isub (dcd d_m_leastFor_2 27 rfl) ?_
            refine ws_iload 4 (dcd d_m_leastFor_2 28 rfl) rfl ?_
            refine ws_iand (dcd d_m_leastFor_2 29 rfl) ?_
            refine ws_istore (l' := [(5, .int ((x5 - 1) &&& x4)), (6, .int 16777216), (0, .ref 76), (1, .int x1), (3, .int x3), (4, .int x4)]) (dcd d_m_leastFor_3 0 rfl) (by decide) rfl ?_
            refine ws_goto (tgt := 57) (dcd d_m_leastFor_3 1 rfl) (by decide) ?_
            exact ws_loc [2, 3, 4, 5, 0] rfl h
          · have h := h.2 c11
            refine ws_iconst (v := (-1)) (dcd d_m_leastFor_2 23 rfl) (by decide) ?_
            refine ws_goto (tgt := 161) (dcd d_m_leastFor_2 24 rfl) (by decide) ?_
            refine ws_istore (l' := [(5, .int (-1)), (6, .int 16777216), (0, .ref 76), (1, .int x1), (3, .int x3), (4, .int x4)]) (dcd d_m_leastFor_3 0 rfl) (by decide) rfl ?_
            refine ws_goto (tgt := 57) (dcd d_m_leastFor_3 1 rfl) (by decide) ?_
            exact ws_loc [2, 3, 4, 5, 0] rfl h
      · have h := h.2 c4
        refine ws_aload_n 0 (dcd d_m_leastFor_1 15 rfl) rfl ?_
        refine ws_getF (a := 88) f_m_47 rfl (dcd d_m_leastFor_1 16 rfl) ok_76 of_8_23 rfl ?_
        refine ws_sipush (v := 128) (dcd d_m_leastFor_1 17 rfl) (by decide) ?_
        refine ws_iload_n 2 (dcd d_m_leastFor_1 18 rfl) rfl ?_
        refine ws_imul (dcd d_m_leastFor_1 19 rfl) ?_
        refine ws_iload 4 (dcd d_m_leastFor_1 20 rfl) rfl ?_
        refine ws_iadd (dcd d_m_leastFor_1 21 rfl) ?_
        obtain ⟨e12, h⟩ := h
        refine ws_iald (L := 3968) (dcd d_m_leastFor_1 22 rfl) (os_8_23 ok_76) (ol_8_23 ok_76) e12 ?_
        refine ws_aload_n 0 (dcd d_m_leastFor_1 23 rfl) rfl ?_
        refine ws_getF (a := 89) f_m_50 rfl (dcd d_m_leastFor_1 24 rfl) ok_76 of_8_24 rfl ?_
        refine ws_iload 3 (dcd d_m_leastFor_1 25 rfl) rfl ?_
        refine ws_iload 4 (dcd d_m_leastFor_1 26 rfl) rfl ?_
        refine ws_iconst (v := (-1)) (dcd d_m_leastFor_1 27 rfl) (by decide) ?_
        refine ws_ixor (dcd d_m_leastFor_1 28 rfl) ?_
        refine ws_iand (dcd d_m_leastFor_1 29 rfl) ?_
        obtain ⟨e13, h⟩ := h
        refine ws_iald (L := 128) (dcd d_m_leastFor_2 0 rfl) (os_8_24 ok_76) (ol_8_24 ok_76) e13 ?_
        refine ws_iadd (dcd d_m_leastFor_2 1 rfl) ?_
        refine ws_goto (tgt := 112) (dcd d_m_leastFor_2 2 rfl) (by decide) ?_
        refine ws_istore (l' := [(6, .int ((mI u3 88 (((128 * x3) + x5) : Int32).toNatClampNeg) + (mI u3 89 ((x4 &&& (x5 ^^^ (-1))) : Int32).toNatClampNeg))), (0, .ref 76), (1, .int x1), (3, .int x3), (4, .int x4), (5, .int x5)]) (dcd d_m_leastFor_2 4 rfl) (by decide) rfl ?_
        refine ws_aload_n 1 (dcd d_m_leastFor_2 5 rfl) rfl ?_
        refine ws_getF (a := 90) f_m_53 rfl (dcd d_m_leastFor_2 6 rfl) ok_76 of_8_25 rfl ?_
        refine ws_iload 4 (dcd d_m_leastFor_2 7 rfl) rfl ?_
        refine ws_iload 0 (dcd d_m_leastFor_2 8 rfl) rfl ?_
        refine ws_aload_n 1 (dcd d_m_leastFor_2 9 rfl) rfl ?_
        refine ws_getF (a := 90) f_m_53 rfl (dcd d_m_leastFor_2 10 rfl) ok_76 of_8_25 rfl ?_
        refine ws_iload 4 (dcd d_m_leastFor_2 11 rfl) rfl ?_
        obtain ⟨e14, h⟩ := h
        refine ws_iald (L := 128) (dcd d_m_leastFor_2 12 rfl) (os_8_25 ok_76) (ol_8_25 ok_76) e14 ?_
        refine ws_icmp_ge (tgt := 137) (dcd d_m_leastFor_2 13 rfl) (by decide) (fun c15 => ?_) (fun c15 => ?_)
        · have h := h.1 c15
          refine ws_aload_n 1 (dcd d_m_leastFor_2 16 rfl) rfl ?_
          refine ws_getF (a := 90) f_m_53 rfl (dcd d_m_leastFor_2 17 rfl) ok_76 of_8_25 rfl ?_
          refine ws_iload 4 (dcd d_m_leastFor_2 18 rfl) rfl ?_
          obtain ⟨e16, h⟩ := h
          refine ws_iald (L := 128) (dcd d_m_leastFor_2 19 rfl) (os_8_25 ok_76) (ol_8_25 ok_76) e16 ?_
          obtain ⟨e17, h⟩ := h
          refine ws_iast (L := 128) (dcd d_m_leastFor_2 20 rfl) (os_8_25 ok_76) (ol_8_25 ok_76) e17 ?_
          refine ws_iload 5 (dcd d_m_leastFor_2 21 rfl) rfl ?_
          refine ws_if_ne (tgt := 154) (dcd d_m_leastFor_2 22 rfl) (by decide) (fun c18 => ?_) (fun c18 => ?_)
          · have h := h.1 c18
            refine ws_iload 5 (dcd d_m_leastFor_2 25 rfl) rfl ?_
            refine ws_iconst (v := 1) (dcd d_m_leastFor_2 26 rfl) (by decide) ?_
            refine ws_isub (dcd d_m_leastFor_2 27 rfl) ?_
            refine ws_iload 4 (dcd d_m_leastFor_2 28 rfl) rfl ?_
            refine ws_iand (dcd d_m_leastFor_2 29 rfl) ?_
            refine ws_istore (l' := [(5, .int ((x5 - 1) &&& x4)), (6, .int ((mI u3 88 (((128 * x3) + x5) : Int32).toNatClampNeg) + (mI u3 89 ((x4 &&& (x5 ^^^ (-1))) : Int32).toNatClampNeg))), (0, .ref 76), (1, .int x1), (3, .int x3), (4, .int x4)]) (dcd d_m_leastFor_3 0 rfl) (by decide) rfl ?_
            refine ws_goto (tgt := 57) (dcd d_m_leastFor_3 1 rfl) (by decide) ?_
            exact ws_loc [2, 3, 4, 5, 0] rfl h
          · have h := h.2 c18
            refine ws_iconst (v := (-1)) (dcd d_m_leastFor_2 23 rfl) (by decide) ?_
            refine ws_goto (tgt := 161) (dcd d_m_leastFor_2 24 rfl) (by decide) ?_
            refine ws_istore (l' := [(5, .int (-1)), (6, .int ((mI u3 88 (((128 * x3) + x5) : Int32).toNatClampNeg) + (mI u3 89 ((x4 &&& (x5 ^^^ (-1))) : Int32).toNatClampNeg))), (0, .ref 76), (1, .int x1), (3, .int x3), (4, .int x4)]) (dcd d_m_leastFor_3 0 rfl) (by decide) rfl ?_
            refine ws_goto (tgt := 57) (dcd d_m_leastFor_3 1 rfl) (by decide) ?_
            exact ws_loc [2, 3, 4, 5, 0] rfl h
        · have h := h.2 c15
          refine ws_iload 0 (dcd d_m_leastFor_2 14 rfl) rfl ?_
          refine ws_goto (tgt := 144) (dcd d_m_leastFor_2 15 rfl) (by decide) ?_
          obtain ⟨e19, h⟩ := h
          refine ws_iast (L := 128) (dcd d_m_leastFor_2 20 rfl) (os_8_25 ok_76) (ol_8_25 ok_76) e19 ?_
          refine ws_iload 5 (dcd d_m_leastFor_2 21 rfl) rfl ?_
          refine ws_if_ne (tgt := 154) (dcd d_m_leastFor_2 22 rfl) (by decide) (fun c20 => ?_) (fun c20 => ?_)
          · have h := h.1 c20
            refine ws_iload 5 (dcd d_m_leastFor_2 25 rfl) rfl ?_
            refine ws_iconst (v := 1) (dcd d_m_leastFor_2 26 rfl) (by decide) ?_
            refine ws_isub (dcd d_m_leastFor_2 27 rfl) ?_
            refine ws_iload 4 (dcd d_m_leastFor_2 28 rfl) rfl ?_
            refine ws_iand (dcd d_m_leastFor_2 29 rfl) ?_
            refine ws_istore (l' := [(5, .int ((x5 - 1) &&& x4)), (6, .int ((mI u3 88 (((128 * x3) + x5) : Int32).toNatClampNeg) + (mI u3 89 ((x4 &&& (x5 ^^^ (-1))) : Int32).toNatClampNeg))), (0, .ref 76), (1, .int x1), (3, .int x3), (4, .int x4)]) (dcd d_m_leastFor_3 0 rfl) (by decide) rfl ?_
            refine ws_goto (tgt := 57) (dcd d_m_leastFor_3 1 rfl) (by decide) ?_
            exact ws_loc [2, 3, 4, 5, 0] rfl h
          · have h := h.2 c20
            refine ws_iconst (v := (-1)) (dcd d_m_leastFor_2 23 rfl) (by decide) ?_
            refine ws_goto (tgt := 161) (dcd d_m_leastFor_2 24 rfl) (by decide) ?_
            refine ws_istore (l' := [(5, .int (-1)), (6, .int ((mI u3 88 (((128 * x3) + x5) : Int32).toNatClampNeg) + (mI u3 89 ((x4 &&& (x5 ^^^ (-1))) : Int32).toNatClampNeg))), (0, .ref 76), (1, .int x1), (3, .int x3), (4, .int x4)]) (dcd d_m_leastFor_3 0 rfl) (by decide) rfl ?_
            refine ws_goto (tgt := 57) (dcd d_m_leastFor_3 1 rfl) (by decide) ?_
            exact ws_loc [2, 3, 4, 5, 0] rfl h
theorem sg_m_mayIn_0 {x1 : Int32} {x2 : Int32}  (h : Ws G m_mayIn 5 [(0, .ref 76), (1, .int x1), (2, .int x2), (3, .int 1), (4, .int 0)] [] u Q) : Ws G m_mayIn 0 [(0, .ref 76), (1, .int x1), (2, .int x2)] [] u Q := by
  refine ws_iconst (v := 1) (dcd d_m_mayIn_0 0 rfl) (by decide) ?_
  refine ws_istore_n (l' := [(3, .int 1), (0, .ref 76), (1, .int x1), (2, .int x2)]) (dcd d_m_mayIn_0 1 rfl) (by decide) rfl ?_
  refine ws_iconst (v := 0) (dcd d_m_mayIn_0 2 rfl) (by decide) ?_
  refine ws_istore (l' := [(4, .int 0), (3, .int 1), (0, .ref 76), (1, .int x1), (2, .int x2)]) (dcd d_m_mayIn_0 3 rfl) (by decide) rfl ?_
  exact ws_loc [2, 3, 4, 1, 0] rfl h
theorem sg_m_mayIn_5 {x1 : Int32} {x2 : Int32} {x3 : Int32} {x4 : Int32}  (h : (((mI u 76 11) ≤ x4 → (vb x3 ∧ Q (some (.int x3)) u)) ∧ (¬ ((mI u 76 11) ≤ x4) → ((x3 = 0 → Ws G m_mayIn 5 [(0, .ref 76), (1, .int x1), (2, .int x2), (3, .int 0), (4, .int (x4 + 1))] [] u Q) ∧ (¬ x3 = 0 → ((((x1 >>> (x4 &&& 31)) &&& 1) = 0 → Ws G m_mayIn 5 [(0, .ref 76), (1, .int x1), (2, .int x2), (3, .int 1), (4, .int (x4 + 1))] [] u Q) ∧ (¬ ((x1 >>> (x4 &&& 31)) &&& 1) = 0 → (vp_in x4 7 ∧ (((mI u 91 (x4 : Int32).toNatClampNeg) = (-9) → Ws G m_mayIn 5 [(0, .ref 76), (1, .int x1), (2, .int x2), (3, .int 1), (4, .int (x4 + 1))] [] u Q) ∧ (¬ (mI u 91 (x4 : Int32).toNatClampNeg) = (-9) → (vp_in x4 7 ∧ ((¬ (mI u 91 (x4 : Int32).toNatClampNeg) = x2 → Ws G m_mayIn 5 [(0, .ref 76), (1, .int x1), (2, .int x2), (3, .int 0), (4, .int (x4 + 1))] [] u Q) ∧ ((mI u 91 (x4 : Int32).toNatClampNeg) = x2 → Ws G m_mayIn 5 [(0, .ref 76), (1, .int x1), (2, .int x2), (3, .int 1), (4, .int (x4 + 1))] [] u Q))))))))))))) : Ws G m_mayIn 5 [(0, .ref 76), (1, .int x1), (2, .int x2), (3, .int x3), (4, .int x4)] [] u Q := by
  refine ws_iload 4 (dcd d_m_mayIn_0 4 rfl) rfl ?_
  refine ws_aload_n 0 (dcd d_m_mayIn_0 5 rfl) rfl ?_
  refine ws_getI f_m_156 rfl (dcd d_m_mayIn_0 6 rfl) ok_76 ?_
  refine ws_icmp_ge (tgt := 62) (dcd d_m_mayIn_0 7 rfl) (by decide) (fun c1 => ?_) (fun c1 => ?_)
  · have h := h.1 c1
    refine ws_iload_n 3 (dcd d_m_mayIn_1 4 rfl) rfl ?_
    exact ws_iret (dcd d_m_mayIn_1 5 rfl) ⟨_, rfl, h.1⟩ h.2
  · have h := h.2 c1
    refine ws_iload_n 3 (dcd d_m_mayIn_0 8 rfl) rfl ?_
    refine ws_if_eq (tgt := 54) (dcd d_m_mayIn_0 9 rfl) (by decide) (fun c2 => ?_) (fun c2 => ?_)
    · have h := h.1 c2
      refine ws_iconst (v := 0) (dcd d_m_mayIn_1 0 rfl) (by decide) ?_
      refine ws_istore_n (l' := [(3, .int 0), (0, .ref 76), (1, .int x1), (2, .int x2), (4, .int x4)]) (dcd d_m_mayIn_1 1 rfl) (by decide) rfl ?_
      refine ws_iinc (v := 1) (l' := [(4, .int (x4 + 1)), (3, .int 0), (0, .ref 76), (1, .int x1), (2, .int x2)]) 4 (dcd d_m_mayIn_1 2 rfl) rfl (by decide) (by decide) rfl ?_
      refine ws_goto (tgt := 5) (dcd d_m_mayIn_1 3 rfl) (by decide) ?_
      exact ws_loc [2, 3, 4, 1, 0] rfl h
    · have h := h.2 c2
      refine ws_iload_n 1 (dcd d_m_mayIn_0 10 rfl) rfl ?_
      refine ws_iload 4 (dcd d_m_mayIn_0 11 rfl) rfl ?_
      refine ws_ishr (dcd d_m_mayIn_0 12 rfl) ?_
      refine ws_iconst (v := 1) (dcd d_m_mayIn_0 13 rfl) (by decide) ?_
      refine ws_iand (dcd d_m_mayIn_0 14 rfl) ?_
      refine ws_if_eq (tgt := 50) (dcd d_m_mayIn_0 15 rfl) (by decide) (fun c3 => ?_) (fun c3 => ?_)
      · have h := h.1 c3
        refine ws_iconst (v := 1) (dcd d_m_mayIn_0 28 rfl) (by decide) ?_
        refine ws_goto (tgt := 55) (dcd d_m_mayIn_0 29 rfl) (by decide) ?_
        refine ws_istore_n (l' := [(3, .int 1), (0, .ref 76), (1, .int x1), (2, .int x2), (4, .int x4)]) (dcd d_m_mayIn_1 1 rfl) (by decide) rfl ?_
        refine ws_iinc (v := 1) (l' := [(4, .int (x4 + 1)), (3, .int 1), (0, .ref 76), (1, .int x1), (2, .int x2)]) 4 (dcd d_m_mayIn_1 2 rfl) rfl (by decide) (by decide) rfl ?_
        refine ws_goto (tgt := 5) (dcd d_m_mayIn_1 3 rfl) (by decide) ?_
        exact ws_loc [2, 3, 4, 1, 0] rfl h
      · have h := h.2 c3
        refine ws_aload_n 0 (dcd d_m_mayIn_0 16 rfl) rfl ?_
        refine ws_getF (a := 91) f_m_56 rfl (dcd d_m_mayIn_0 17 rfl) ok_76 of_8_26 rfl ?_
        refine ws_iload 4 (dcd d_m_mayIn_0 18 rfl) rfl ?_
        obtain ⟨e4, h⟩ := h
        refine ws_iald (L := 7) (dcd d_m_mayIn_0 19 rfl) (os_8_26 ok_76) (ol_8_26 ok_76) e4 ?_
        refine ws_bipush (v := (-9)) (dcd d_m_mayIn_0 20 rfl) (by decide) ?_
        refine ws_icmp_eq (tgt := 50) (dcd d_m_mayIn_0 21 rfl) (by decide) (fun c5 => ?_) (fun c5 => ?_)
        · have h := h.1 c5
          refine ws_iconst (v := 1) (dcd d_m_mayIn_0 28 rfl) (by decide) ?_
          refine ws_goto (tgt := 55) (dcd d_m_mayIn_0 29 rfl) (by decide) ?_
          refine ws_istore_n (l' := [(3, .int 1), (0, .ref 76), (1, .int x1), (2, .int x2), (4, .int x4)]) (dcd d_m_mayIn_1 1 rfl) (by decide) rfl ?_
          refine ws_iinc (v := 1) (l' := [(4, .int (x4 + 1)), (3, .int 1), (0, .ref 76), (1, .int x1), (2, .int x2)]) 4 (dcd d_m_mayIn_1 2 rfl) rfl (by decide) (by decide) rfl ?_
          refine ws_goto (tgt := 5) (dcd d_m_mayIn_1 3 rfl) (by decide) ?_
          exact ws_loc [2, 3, 4, 1, 0] rfl h
        · have h := h.2 c5
          refine ws_aload_n 0 (dcd d_m_mayIn_0 22 rfl) rfl ?_
          refine ws_getF (a := 91) f_m_56 rfl (dcd d_m_mayIn_0 23 rfl) ok_76 of_8_26 rfl ?_
          refine ws_iload 4 (dcd d_m_mayIn_0 24 rfl) rfl ?_
          obtain ⟨e6, h⟩ := h
          refine ws_iald (L := 7) (dcd d_m_mayIn_0 25 rfl) (os_8_26 ok_76) (ol_8_26 ok_76) e6 ?_
          refine ws_iload_n 2 (dcd d_m_mayIn_0 26 rfl) rfl ?_
          refine ws_icmp_ne (tgt := 54) (dcd d_m_mayIn_0 27 rfl) (by decide) (fun c7 => ?_) (fun c7 => ?_)
          · have h := h.1 c7
            refine ws_iconst (v := 0) (dcd d_m_mayIn_1 0 rfl) (by decide) ?_
            refine ws_istore_n (l' := [(3, .int 0), (0, .ref 76), (1, .int x1), (2, .int x2), (4, .int x4)]) (dcd d_m_mayIn_1 1 rfl) (by decide) rfl ?_
            refine ws_iinc (v := 1) (l' := [(4, .int (x4 + 1)), (3, .int 0), (0, .ref 76), (1, .int x1), (2, .int x2)]) 4 (dcd d_m_mayIn_1 2 rfl) rfl (by decide) (by decide) rfl ?_
            refine ws_goto (tgt := 5) (dcd d_m_mayIn_1 3 rfl) (by decide) ?_
            exact ws_loc [2, 3, 4, 1, 0] rfl h
          · have h := h.2 c7
            refine ws_iconst (v := 1) (dcd d_m_mayIn_0 28 rfl) (by decide) ?_
            refine ws_goto (tgt := 55) (dcd d_m_mayIn_0 29 rfl) (by decide) ?_
            refine ws_istore_n (l' := [(3, .int 1), (0, .ref 76), (1, .int x1), (2, .int x2), (4, .int x4)]) (dcd d_m_mayIn_1 1 rfl) (by decide) rfl ?_
            refine ws_iinc (v := 1) (l' := [(4, .int (x4 + 1)), (3, .int 1), (0, .ref 76), (1, .int x1), (2, .int x2)]) 4 (dcd d_m_mayIn_1 2 rfl) rfl (by decide) (by decide) rfl ?_
            refine ws_goto (tgt := 5) (dcd d_m_mayIn_1 3 rfl) (by decide) ?_
            exact ws_loc [2, 3, 4, 1, 0] rfl h
theorem sg_m_agree_0 {x1 : Int32} {x2 : Int32} {x3 : Int32}  (h : (((0 ≤ x1 ∧ x1 ≤ (mI u 76 10) - 1) → (((0 ≤ x2 ∧ x2 ≤ (mI u 76 10) - 1) → (((0 ≤ x3 ∧ x3 ≤ 60) → ((¬ (mI u 76 11) = 0 → Ws G m_fromNow 0 [(0, .ref 76)] [] u (RV fun u8 => Ws G m_agree 55 [(0, .ref 76), (1, .int x1), (2, .int x2), (3, .int x3), (4, .int 0), (5, .int 16777216), (6, .int 0)] [] u8 Q)) ∧ ((mI u 76 11) = 0 → Q (some (.int (-3))) (mt u 4)))) ∧ (¬ (0 ≤ x3 ∧ x3 ≤ 60) → Q (some (.int (-1))) u))) ∧ (¬ (0 ≤ x2 ∧ x2 ≤ (mI u 76 10) - 1) → Q (some (.int (-1))) u))) ∧ (¬ (0 ≤ x1 ∧ x1 ≤ (mI u 76 10) - 1) → Q (some (.int (-1))) u))) : Ws G m_agree 0 [(0, .ref 76), (1, .int x1), (2, .int x2), (3, .int x3)] [] u Q := by
  refine ws_aload_n 0 (dcd d_m_agree_0 0 rfl) rfl ?_
  refine ws_iload_n 1 (dcd d_m_agree_0 1 rfl) rfl ?_
  refine ws_callVI (o := 76) (As := [.int x1]) (st := []) (la := [(0, .ref 76), (1, .int x1)]) (dcd d_m_agree_0 2 rfl) cv_m_isDoor k_m_194 ⟨by decide, by decide⟩ ok_76 rfl (Nat.le_of_ble_eq_true rfl) (Nat.le_of_ble_eq_true rfl) rfl rfl sp_m_isDoor ?_
  rintro _ _ ⟨rfl, ⟨rfl, c1⟩ | ⟨rfl, c1⟩⟩
  · have h := h.1 c1
    refine ws_if_eq (tgt := 26) (dcd d_m_agree_0 3 rfl) (by decide) (fun c => absurd c (by decide)) (fun _ => ?_)
    refine ws_aload_n 0 (dcd d_m_agree_0 4 rfl) rfl ?_
    refine ws_iload_n 2 (dcd d_m_agree_0 5 rfl) rfl ?_
    refine ws_callVI (o := 76) (As := [.int x2]) (st := []) (la := [(0, .ref 76), (1, .int x2)]) (dcd d_m_agree_0 6 rfl) cv_m_isDoor k_m_194 ⟨by decide, by decide⟩ ok_76 rfl (Nat.le_of_ble_eq_true rfl) (Nat.le_of_ble_eq_true rfl) rfl rfl sp_m_isDoor ?_
    rintro _ _ ⟨rfl, ⟨rfl, c3⟩ | ⟨rfl, c3⟩⟩
    · have h := h.1 c3
      refine ws_if_eq (tgt := 26) (dcd d_m_agree_0 7 rfl) (by decide) (fun c => absurd c (by decide)) (fun _ => ?_)
      refine ws_iload_n 3 (dcd d_m_agree_0 8 rfl) rfl ?_
      refine ws_iconst (v := 0) (dcd d_m_agree_0 9 rfl) (by decide) ?_
      refine ws_bipush (v := 60) (dcd d_m_agree_0 10 rfl) (by decide) ?_
      refine ws_callSI (As := [.int x3, .int 0, .int 60]) (st := []) (la := [(0, .int x3), (1, .int 0), (2, .int 60)]) (dcd d_m_agree_0 11 rfl) cs_m_in k_m_78 ⟨by decide, by decide⟩ rfl (Nat.le_of_ble_eq_true rfl) (Nat.le_of_ble_eq_true rfl) rfl rfl sp_m_in ?_
      rintro _ _ ⟨rfl, ⟨rfl, c5⟩ | ⟨rfl, c5⟩⟩
      · have h := h.1 c5
        refine ws_if_ne (tgt := 28) (dcd d_m_agree_0 12 rfl) (by decide) (fun _ => ?_) (fun c => absurd c (by decide))
        refine ws_aload_n 0 (dcd d_m_agree_0 15 rfl) rfl ?_
        refine ws_getI f_m_156 rfl (dcd d_m_agree_0 16 rfl) ok_76 ?_
        refine ws_if_ne (tgt := 41) (dcd d_m_agree_0 17 rfl) (by decide) (fun c7 => ?_) (fun c7 => ?_)
        · have h := h.1 c7
          refine ws_aload_n 0 (dcd d_m_agree_0 22 rfl) rfl ?_
          refine ws_callVV (o := 76) (As := []) (st := []) (la := [(0, .ref 76)]) (dcd d_m_agree_0 23 rfl) cv_m_fromNow k_m_205 ⟨by decide, by decide⟩ ok_76 rfl (Nat.le_of_ble_eq_true rfl) (Nat.le_of_ble_eq_true rfl) rfl rfl h (fun u8 h => ?_)
          refine ws_iconst (v := 0) (dcd d_m_agree_0 24 rfl) (by decide) ?_
          refine ws_istore (l' := [(4, .int 0), (0, .ref 76), (1, .int x1), (2, .int x2), (3, .int x3)]) (dcd d_m_agree_0 25 rfl) (by decide) rfl ?_
          refine ws_ldc (dcd d_m_agree_0 26 rfl) q_m_241 ?_
          refine ws_istore (l' := [(5, .int 16777216), (4, .int 0), (0, .ref 76), (1, .int x1), (2, .int x2), (3, .int x3)]) (dcd d_m_agree_0 27 rfl) (by decide) rfl ?_
          refine ws_iconst (v := 0) (dcd d_m_agree_0 28 rfl) (by decide) ?_
          refine ws_istore (l' := [(6, .int 0), (5, .int 16777216), (4, .int 0), (0, .ref 76), (1, .int x1), (2, .int x2), (3, .int x3)]) (dcd d_m_agree_0 29 rfl) (by decide) rfl ?_
          exact ws_loc [3, 4, 5, 6, 2, 1, 0] rfl h
        · have h := h.2 c7
          refine ws_aload_n 0 (dcd d_m_agree_0 18 rfl) rfl ?_
          refine ws_iconst (v := 4) (dcd d_m_agree_0 19 rfl) (by decide) ?_
          refine ws_callVI (o := 76) (As := [.int 4]) (st := []) (la := [(0, .ref 76), (1, .int 4)]) (dcd d_m_agree_0 20 rfl) cv_m_meet k_m_86 ⟨by decide, by decide⟩ ok_76 rfl (Nat.le_of_ble_eq_true rfl) (Nat.le_of_ble_eq_true rfl) rfl rfl (sp_m_meet (vin (by decide) (by decide) (by decide))) ?_
          rintro _ _ ⟨rfl, rfl⟩
          exact ws_iret (dcd d_m_agree_0 21 rfl) ⟨_, rfl, rfl⟩ h
      · have h := h.2 c5
        refine ws_if_ne (tgt := 28) (dcd d_m_agree_0 12 rfl) (by decide) (fun c => absurd (show (0 : Int32) = 0 from by decide) c) (fun _ => ?_)
        refine ws_iconst (v := (-1)) (dcd d_m_agree_0 13 rfl) (by decide) ?_
        exact ws_iret (dcd d_m_agree_0 14 rfl) ⟨_, rfl, rfl⟩ h
    · have h := h.2 c3
      refine ws_if_eq (tgt := 26) (dcd d_m_agree_0 7 rfl) (by decide) (fun _ => ?_) (fun c => absurd (show (0 : Int32) = 0 from by decide) c)
      refine ws_iconst (v := (-1)) (dcd d_m_agree_0 13 rfl) (by decide) ?_
      exact ws_iret (dcd d_m_agree_0 14 rfl) ⟨_, rfl, rfl⟩ h
  · have h := h.2 c1
    refine ws_if_eq (tgt := 26) (dcd d_m_agree_0 3 rfl) (by decide) (fun _ => ?_) (fun c => absurd (show (0 : Int32) = 0 from by decide) c)
    refine ws_iconst (v := (-1)) (dcd d_m_agree_0 13 rfl) (by decide) ?_
    exact ws_iret (dcd d_m_agree_0 14 rfl) ⟨_, rfl, rfl⟩ h
theorem sg_m_agree_55 {x1 : Int32} {x2 : Int32} {x3 : Int32} {x4 : Int32} {x5 : Int32} {x6 : Int32}  (h : ((x3 < x6 → Q (some (.int x4)) (pI u 76 2 x5)) ∧ (¬ (x3 < x6) → Ws G m_agree 64 [(0, .ref 76), (1, .int x1), (2, .int x2), (3, .int x3), (4, .int x4), (5, .int x5), (6, .int x6), (7, .int 0)] [] u Q))) : Ws G m_agree 55 [(0, .ref 76), (1, .int x1), (2, .int x2), (3, .int x3), (4, .int x4), (5, .int x5), (6, .int x6)] [] u Q := by
  refine ws_iload 6 (dcd d_m_agree_1 0 rfl) rfl ?_
  refine ws_iload_n 3 (dcd d_m_agree_1 1 rfl) rfl ?_
  refine ws_icmp_gt (tgt := 165) (dcd d_m_agree_1 2 rfl) (by decide) (fun c1 => ?_) (fun c1 => ?_)
  · have h := h.1 c1
    refine ws_aload_n 0 (dcd d_m_agree_2 25 rfl) rfl ?_
    refine ws_iload 5 (dcd d_m_agree_2 26 rfl) rfl ?_
    refine ws_iload 4 (dcd d_m_agree_2 27 rfl) rfl ?_
    refine ws_callVI (o := 76) (As := [.int x5, .int x4]) (st := []) (la := [(0, .ref 76), (1, .int x5), (2, .int x4)]) (dcd d_m_agree_2 28 rfl) cv_m_ask k_m_104 ⟨by decide, by decide⟩ ok_76 rfl (Nat.le_of_ble_eq_true rfl) (Nat.le_of_ble_eq_true rfl) rfl rfl sp_m_ask ?_
    rintro _ _ ⟨rfl, rfl⟩
    exact ws_iret (dcd d_m_agree_2 29 rfl) ⟨_, rfl, rfl⟩ h
  · have h := h.2 c1
    refine ws_iconst (v := 0) (dcd d_m_agree_1 3 rfl) (by decide) ?_
    refine ws_istore (l' := [(7, .int 0), (0, .ref 76), (1, .int x1), (2, .int x2), (3, .int x3), (4, .int x4), (5, .int x5), (6, .int x6)]) (dcd d_m_agree_1 4 rfl) (by decide) rfl ?_
    exact ws_loc [1, 2, 3, 4, 5, 6, 7, 0] rfl h
theorem sg_m_agree_64 {x1 : Int32} {x2 : Int32} {x3 : Int32} {x4 : Int32} {x5 : Int32} {x6 : Int32} {x7 : Int32}  (h : (((mI u 76 11) ≤ x7 → Ws G m_passOne 0 [(0, .ref 76), (1, .int ((mI u 76 18) + x6)), (2, .int (mI u 76 19))] [] u (RV fun u2 => Ws G m_agree 55 [(0, .ref 76), (1, .int x1), (2, .int x2), (3, .int x3), (4, .int x4), (5, .int x5), (6, .int (x6 + 1))] [] u2 Q)) ∧ (¬ ((mI u 76 11) ≤ x7) → (vp_in x7 7 ∧ Ws G m_walkOf 0 [(0, .ref 76), (1, .int x1), (2, .int (mI u 85 (x7 : Int32).toNatClampNeg))] [] u (RI fun a4 u4 => (vp_in x7 7 ∧ Ws G m_walkOf 0 [(0, .ref 76), (1, .int x2), (2, .int (mI u4 85 (x7 : Int32).toNatClampNeg))] [] u4 (RI fun a6 u6 => ((x5 ≤ (a4 + a6) → ((x5 ≤ (a4 + a6) → Ws G m_agree 64 [(0, .ref 76), (1, .int x1), (2, .int x2), (3, .int x3), (4, .int x4), (5, .int x5), (6, .int x6), (7, .int (x7 + 1))] [] u6 Q) ∧ (¬ (x5 ≤ (a4 + a6)) → Ws G m_agree 64 [(0, .ref 76), (1, .int x1), (2, .int x2), (3, .int x3), (4, .int x4), (5, .int (a4 + a6)), (6, .int x6), (7, .int (x7 + 1))] [] u6 Q))) ∧ (¬ (x5 ≤ (a4 + a6)) → ((x5 ≤ (a4 + a6) → Ws G m_agree 64 [(0, .ref 76), (1, .int x1), (2, .int x2), (3, .int x3), (4, .int ((10 * x6) + x7)), (5, .int x5), (6, .int x6), (7, .int (x7 + 1))] [] u6 Q) ∧ (¬ (x5 ≤ (a4 + a6)) → Ws G m_agree 64 [(0, .ref 76), (1, .int x1), (2, .int x2), (3, .int x3), (4, .int ((10 * x6) + x7)), (5, .int (a4 + a6)), (6, .int x6), (7, .int (x7 + 1))] [] u6 Q))))))))))) : Ws G m_agree 64 [(0, .ref 76), (1, .int x1), (2, .int x2), (3, .int x3), (4, .int x4), (5, .int x5), (6, .int x6), (7, .int x7)] [] u Q := by
  refine ws_iload 7 (dcd d_m_agree_1 5 rfl) rfl ?_
  refine ws_aload_n 0 (dcd d_m_agree_1 6 rfl) rfl ?_
  refine ws_getI f_m_156 rfl (dcd d_m_agree_1 7 rfl) ok_76 ?_
  refine ws_icmp_ge (tgt := 144) (dcd d_m_agree_1 8 rfl) (by decide) (fun c1 => ?_) (fun c1 => ?_)
  · have h := h.1 c1
    refine ws_aload_n 0 (dcd d_m_agree_2 15 rfl) rfl ?_
    refine ws_aload_n 0 (dcd d_m_agree_2 16 rfl) rfl ?_
    refine ws_getI f_m_162 rfl (dcd d_m_agree_2 17 rfl) ok_76 ?_
    refine ws_iload 6 (dcd d_m_agree_2 18 rfl) rfl ?_
    refine ws_iadd (dcd d_m_agree_2 19 rfl) ?_
    refine ws_aload_n 0 (dcd d_m_agree_2 20 rfl) rfl ?_
    refine ws_getI f_m_165 rfl (dcd d_m_agree_2 21 rfl) ok_76 ?_
    refine ws_callVV (o := 76) (As := [.int ((mI u 76 18) + x6), .int (mI u 76 19)]) (st := []) (la := [(0, .ref 76), (1, .int ((mI u 76 18) + x6)), (2, .int (mI u 76 19))]) (dcd d_m_agree_2 22 rfl) cv_m_passOne k_m_208 ⟨by decide, by decide⟩ ok_76 rfl (Nat.le_of_ble_eq_true rfl) (Nat.le_of_ble_eq_true rfl) rfl rfl h (fun u2 h => ?_)
    refine ws_iinc (v := 1) (l' := [(6, .int (x6 + 1)), (0, .ref 76), (1, .int x1), (2, .int x2), (3, .int x3), (4, .int x4), (5, .int x5), (7, .int x7)]) 6 (dcd d_m_agree_2 23 rfl) rfl (by decide) (by decide) rfl ?_
    refine ws_goto (tgt := 55) (dcd d_m_agree_2 24 rfl) (by decide) ?_
    exact ws_loc [1, 2, 3, 4, 5, 6, 0] rfl h
  · have h := h.2 c1
    refine ws_aload_n 0 (dcd d_m_agree_1 9 rfl) rfl ?_
    refine ws_iload_n 1 (dcd d_m_agree_1 10 rfl) rfl ?_
    refine ws_aload_n 0 (dcd d_m_agree_1 11 rfl) rfl ?_
    refine ws_getF (a := 85) f_m_38 rfl (dcd d_m_agree_1 12 rfl) ok_76 of_8_20 rfl ?_
    refine ws_iload 7 (dcd d_m_agree_1 13 rfl) rfl ?_
    obtain ⟨e3, h⟩ := h
    refine ws_iald (L := 7) (dcd d_m_agree_1 14 rfl) (os_8_20 ok_76) (ol_8_20 ok_76) e3 ?_
    refine ws_callVI (o := 76) (As := [.int x1, .int (mI u 85 (x7 : Int32).toNatClampNeg)]) (st := []) (la := [(0, .ref 76), (1, .int x1), (2, .int (mI u 85 (x7 : Int32).toNatClampNeg))]) (dcd d_m_agree_1 15 rfl) cv_m_walkOf k_m_232 ⟨by decide, by decide⟩ ok_76 rfl (Nat.le_of_ble_eq_true rfl) (Nat.le_of_ble_eq_true rfl) rfl rfl h (fun a4 u4 h => ?_)
    refine ws_aload_n 0 (dcd d_m_agree_1 16 rfl) rfl ?_
    refine ws_iload_n 2 (dcd d_m_agree_1 17 rfl) rfl ?_
    refine ws_aload_n 0 (dcd d_m_agree_1 18 rfl) rfl ?_
    refine ws_getF (a := 85) f_m_38 rfl (dcd d_m_agree_1 19 rfl) ok_76 of_8_20 rfl ?_
    refine ws_iload 7 (dcd d_m_agree_1 20 rfl) rfl ?_
    obtain ⟨e5, h⟩ := h
    refine ws_iald (L := 7) (dcd d_m_agree_1 21 rfl) (os_8_20 ok_76) (ol_8_20 ok_76) e5 ?_
    refine ws_callVI (o := 76) (As := [.int x2, .int (mI u4 85 (x7 : Int32).toNatClampNeg)]) (st := [.int a4]) (la := [(0, .ref 76), (1, .int x2), (2, .int (mI u4 85 (x7 : Int32).toNatClampNeg))]) (dcd d_m_agree_1 22 rfl) cv_m_walkOf k_m_232 ⟨by decide, by decide⟩ ok_76 rfl (Nat.le_of_ble_eq_true rfl) (Nat.le_of_ble_eq_true rfl) rfl rfl h (fun a6 u6 h => ?_)
    refine ws_iadd (dcd d_m_agree_1 23 rfl) ?_
    refine ws_istore (l' := [(8, .int (a4 + a6)), (0, .ref 76), (1, .int x1), (2, .int x2), (3, .int x3), (4, .int x4), (5, .int x5), (6, .int x6), (7, .int x7)]) (dcd d_m_agree_1 24 rfl) (by decide) rfl ?_
    refine ws_iload 0 (dcd d_m_agree_1 25 rfl) rfl ?_
    refine ws_iload 6 (dcd d_m_agree_1 26 rfl) rfl ?_
    refine ws_icmp_ge (tgt := 118) (dcd d_m_agree_1 27 rfl) (by decide) (fun c7 => ?_) (fun c7 => ?_)
    · have h := h.1 c7
      refine ws_iload 5 (dcd d_m_agree_2 4 rfl) rfl ?_
      refine ws_istore (l' := [(4, .int x4), (8, .int (a4 + a6)), (0, .ref 76), (1, .int x1), (2, .int x2), (3, .int x3), (5, .int x5), (6, .int x6), (7, .int x7)]) (dcd d_m_agree_2 5 rfl) (by decide) rfl ?_
      refine ws_iload 1 (dcd d_m_agree_2 6 rfl) rfl ?_
      refine ws_iload 6 (dcd d_m_agree_2 7 rfl) rfl ?_
      refine ws_icmp_ge (tgt := 134) (dcd d_m_agree_2 8 rfl) (by decide) (fun c8 => ?_) (fun c8 => ?_)
      · have h := h.1 c8
        refine ws_iload 6 (dcd d_m_agree_2 11 rfl) rfl ?_
        refine ws_istore (l' := [(5, .int x5), (4, .int x4), (8, .int (a4 + a6)), (0, .ref 76), (1, .int x1), (2, .int x2), (3, .int x3), (6, .int x6), (7, .int x7)]) (dcd d_m_agree_2 12 rfl) (by decide) rfl ?_
        refine ws_iinc (v := 1) (l' := [(7, .int (x7 + 1)), (5, .int x5), (4, .int x4), (8, .int (a4 + a6)), (0, .ref 76), (1, .int x1), (2, .int x2), (3, .int x3), (6, .int x6)]) 8 (dcd d_m_agree_2 13 rfl) rfl (by decide) (by decide) rfl ?_
        refine ws_goto (tgt := 64) (dcd d_m_agree_2 14 rfl) (by decide) ?_
        exact ws_loc [4, 5, 6, 7, 2, 1, 8, 0] rfl h
      · have h := h.2 c8
        refine ws_iload 1 (dcd d_m_agree_2 9 rfl) rfl ?_
        refine ws_goto (tgt := 136) (dcd d_m_agree_2 10 rfl) (by decide) ?_
        refine ws_istore (l' := [(5, .int (a4 + a6)), (4, .int x4), (8, .int (a4 + a6)), (0, .ref 76), (1, .int x1), (2, .int x2), (3, .int x3), (6, .int x6), (7, .int x7)]) (dcd d_m_agree_2 12 rfl) (by decide) rfl ?_
        refine ws_iinc (v := 1) (l' := [(7, .int (x7 + 1)), (5, .int (a4 + a6)), (4, .int x4), (8, .int (a4 + a6)), (0, .ref 76), (1, .int x1), (2, .int x2), (3, .int x3), (6, .int x6)]) 8 (dcd d_m_agree_2 13 rfl) rfl (by decide) (by decide) rfl ?_
        refine ws_goto (tgt := 64) (dcd d_m_agree_2 14 rfl) (by decide) ?_
        exact ws_loc [4, 5, 6, 7, 2, 1, 8, 0] rfl h
    · have h := h.2 c7
      refine ws_bipush (v := 10) (dcd d_m_agree_1 28 rfl) (by decide) ?_
      refine ws_iload 7 (dcd d_m_agree_1 29 rfl) rfl ?_
      refine ws_imul (dcd d_m_agree_2 0 rfl) ?_
      refine ws_iload 8 (dcd d_m_agree_2 1 rfl) rfl ?_
      refine ws_iadd (dcd d_m_agree_2 2 rfl) ?_
      refine ws_goto (tgt := 120) (dcd d_m_agree_2 3 rfl) (by decide) ?_
      refine ws_istore (l' := [(4, .int ((10 * x6) + x7)), (8, .int (a4 + a6)), (0, .ref 76), (1, .int x1), (2, .int x2), (3, .int x3), (5, .int x5), (6, .int x6), (7, .int x7)]) (dcd d_m_agree_2 5 rfl) (by decide) rfl ?_
      refine ws_iload 1 (dcd d_m_agree_2 6 rfl) rfl ?_
      refine ws_iload 6 (dcd d_m_agree_2 7 rfl) rfl ?_
      refine ws_icmp_ge (tgt := 134) (dcd d_m_agree_2 8 rfl) (by decide) (fun c9 => ?_) (fun c9 => ?_)
      · have h := h.1 c9
        refine ws_iload 6 (dcd d_m_agree_2 11 rfl) rfl ?_
        refine ws_istore (l' := [(5, .int x5), (4, .int ((10 * x6) + x7)), (8, .int (a4 + a6)), (0, .ref 76), (1, .int x1), (2, .int x2), (3, .int x3), (6, .int x6), (7, .int x7)]) (dcd d_m_agree_2 12 rfl) (by decide) rfl ?_
        refine ws_iinc (v := 1) (l' := [(7, .int (x7 + 1)), (5, .int x5), (4, .int ((10 * x6) + x7)), (8, .int (a4 + a6)), (0, .ref 76), (1, .int x1), (2, .int x2), (3, .int x3), (6, .int x6)]) 8 (dcd d_m_agree_2 13 rfl) rfl (by decide) (by decide) rfl ?_
        refine ws_goto (tgt := 64) (dcd d_m_agree_2 14 rfl) (by decide) ?_
        exact ws_loc [4, 5, 6, 7, 2, 1, 8, 0] rfl h
      · have h := h.2 c9
        refine ws_iload 1 (dcd d_m_agree_2 9 rfl) rfl ?_
        refine ws_goto (tgt := 136) (dcd d_m_agree_2 10 rfl) (by decide) ?_
        refine ws_istore (l' := [(5, .int (a4 + a6)), (4, .int ((10 * x6) + x7)), (8, .int (a4 + a6)), (0, .ref 76), (1, .int x1), (2, .int x2), (3, .int x3), (6, .int x6), (7, .int x7)]) (dcd d_m_agree_2 12 rfl) (by decide) rfl ?_
        refine ws_iinc (v := 1) (l' := [(7, .int (x7 + 1)), (5, .int (a4 + a6)), (4, .int ((10 * x6) + x7)), (8, .int (a4 + a6)), (0, .ref 76), (1, .int x1), (2, .int x2), (3, .int x3), (6, .int x6)]) 8 (dcd d_m_agree_2 13 rfl) rfl (by decide) (by decide) rfl ?_
        refine ws_goto (tgt := 64) (dcd d_m_agree_2 14 rfl) (by decide) ?_
        exact ws_loc [4, 5, 6, 7, 2, 1, 8, 0] rfl h
theorem sg_m_joins_0 {x1 : Int32} {x2 : Int32}  (h : (((0 ≤ x1 ∧ x1 ≤ (mI u 76 10) - 1) → ((((-9) ≤ x2 ∧ x2 ≤ 9) → Ws G m_joinsOf 0 [(0, .ref 76), (1, .int x1), (2, .int x2)] [] u (RI fun a5 u5 => Q (some (.int a5)) u5)) ∧ (¬ ((-9) ≤ x2 ∧ x2 ≤ 9) → Q (some (.int (-1))) u))) ∧ (¬ (0 ≤ x1 ∧ x1 ≤ (mI u 76 10) - 1) → Q (some (.int (-1))) u))) : Ws G m_joins 0 [(0, .ref 76), (1, .int x1), (2, .int x2)] [] u Q := by
  refine ws_aload_n 0 (dcd d_m_joins_0 0 rfl) rfl ?_
  refine ws_iload_n 1 (dcd d_m_joins_0 1 rfl) rfl ?_
  refine ws_callVI (o := 76) (As := [.int x1]) (st := []) (la := [(0, .ref 76), (1, .int x1)]) (dcd d_m_joins_0 2 rfl) cv_m_isDoor k_m_194 ⟨by decide, by decide⟩ ok_76 rfl (Nat.le_of_ble_eq_true rfl) (Nat.le_of_ble_eq_true rfl) rfl rfl sp_m_isDoor ?_
  rintro _ _ ⟨rfl, ⟨rfl, c1⟩ | ⟨rfl, c1⟩⟩
  · have h := h.1 c1
    refine ws_if_eq (tgt := 28) (dcd d_m_joins_0 3 rfl) (by decide) (fun c => absurd c (by decide)) (fun _ => ?_)
    refine ws_iload_n 2 (dcd d_m_joins_0 4 rfl) rfl ?_
    refine ws_bipush (v := (-9)) (dcd d_m_joins_0 5 rfl) (by decide) ?_
    refine ws_bipush (v := 9) (dcd d_m_joins_0 6 rfl) (by decide) ?_
    refine ws_callSI (As := [.int x2, .int (-9), .int 9]) (st := []) (la := [(0, .int x2), (1, .int (-9)), (2, .int 9)]) (dcd d_m_joins_0 7 rfl) cs_m_in k_m_78 ⟨by decide, by decide⟩ rfl (Nat.le_of_ble_eq_true rfl) (Nat.le_of_ble_eq_true rfl) rfl rfl sp_m_in ?_
    rintro _ _ ⟨rfl, ⟨rfl, c3⟩ | ⟨rfl, c3⟩⟩
    · have h := h.1 c3
      refine ws_if_eq (tgt := 28) (dcd d_m_joins_0 8 rfl) (by decide) (fun c => absurd c (by decide)) (fun _ => ?_)
      refine ws_aload_n 0 (dcd d_m_joins_0 9 rfl) rfl ?_
      refine ws_iload_n 1 (dcd d_m_joins_0 10 rfl) rfl ?_
      refine ws_iload_n 2 (dcd d_m_joins_0 11 rfl) rfl ?_
      refine ws_callVI (o := 76) (As := [.int x1, .int x2]) (st := []) (la := [(0, .ref 76), (1, .int x1), (2, .int x2)]) (dcd d_m_joins_0 12 rfl) cv_m_joinsOf k_m_248 ⟨by decide, by decide⟩ ok_76 rfl (Nat.le_of_ble_eq_true rfl) (Nat.le_of_ble_eq_true rfl) rfl rfl h (fun a5 u5 h => ?_)
      refine ws_goto (tgt := 29) (dcd d_m_joins_0 13 rfl) (by decide) ?_
      exact ws_iret (dcd d_m_joins_0 15 rfl) ⟨_, rfl, rfl⟩ h
    · have h := h.2 c3
      refine ws_if_eq (tgt := 28) (dcd d_m_joins_0 8 rfl) (by decide) (fun _ => ?_) (fun c => absurd (show (0 : Int32) = 0 from by decide) c)
      refine ws_iconst (v := (-1)) (dcd d_m_joins_0 14 rfl) (by decide) ?_
      exact ws_iret (dcd d_m_joins_0 15 rfl) ⟨_, rfl, rfl⟩ h
  · have h := h.2 c1
    refine ws_if_eq (tgt := 28) (dcd d_m_joins_0 3 rfl) (by decide) (fun _ => ?_) (fun c => absurd (show (0 : Int32) = 0 from by decide) c)
    refine ws_iconst (v := (-1)) (dcd d_m_joins_0 14 rfl) (by decide) ?_
    exact ws_iret (dcd d_m_joins_0 15 rfl) ⟨_, rfl, rfl⟩ h
theorem sg_m_joinsOf_0 {x1 : Int32} {x2 : Int32}  (h : Ws G m_joinsOf 5 [(0, .ref 76), (1, .int x1), (2, .int x2), (3, .int 0), (4, .int 0)] [] u Q) : Ws G m_joinsOf 0 [(0, .ref 76), (1, .int x1), (2, .int x2)] [] u Q := by
  refine ws_iconst (v := 0) (dcd d_m_joinsOf_0 0 rfl) (by decide) ?_
  refine ws_istore_n (l' := [(3, .int 0), (0, .ref 76), (1, .int x1), (2, .int x2)]) (dcd d_m_joinsOf_0 1 rfl) (by decide) rfl ?_
  refine ws_iconst (v := 0) (dcd d_m_joinsOf_0 2 rfl) (by decide) ?_
  refine ws_istore (l' := [(4, .int 0), (3, .int 0), (0, .ref 76), (1, .int x1), (2, .int x2)]) (dcd d_m_joinsOf_0 3 rfl) (by decide) rfl ?_
  exact ws_loc [2, 3, 4, 1, 0] rfl h
theorem sg_m_joinsOf_5 {x1 : Int32} {x2 : Int32} {x3 : Int32} {x4 : Int32}  (h : (((mI u 76 11) ≤ x4 → Q (some (.int x3)) u) ∧ (¬ ((mI u 76 11) ≤ x4) → (vp_in (5 * x4 + 2) 70 ∧ Ws G m_divisor 0 [(0, .ref 76), (1, .int ((mI u 83 ((5 * x4 + 2) : Int32).toNatClampNeg) - x2))] [] u (RI fun a3 u3 => (vp_in x4 7 ∧ (¬ ((mI u3 76 10) : Int32).toInt64 = 0 ∧ (¬ a3 = 0 ∧ ((¬ ((dAt (mI u3 76 10) (((mI u3 84 (x4 : Int32).toNatClampNeg) : Int32).toInt64 - (x1 : Int32).toInt64)) - (dAt (mI u3 76 10) (((mI u3 84 (x4 : Int32).toNatClampNeg) : Int32).toInt64 - (x1 : Int32).toInt64)) / a3 * a3) = 0 → Ws G m_joinsOf 5 [(0, .ref 76), (1, .int x1), (2, .int x2), (3, .int (x3 ||| 0)), (4, .int (x4 + 1))] [] u3 Q) ∧ (((dAt (mI u3 76 10) (((mI u3 84 (x4 : Int32).toNatClampNeg) : Int32).toInt64 - (x1 : Int32).toInt64)) - (dAt (mI u3 76 10) (((mI u3 84 (x4 : Int32).toNatClampNeg) : Int32).toInt64 - (x1 : Int32).toInt64)) / a3 * a3) = 0 → Ws G m_joinsOf 5 [(0, .ref 76), (1, .int x1), (2, .int x2), (3, .int (x3 ||| (1 <<< (x4 &&& 31)))), (4, .int (x4 + 1))] [] u3 Q)))))))))) : Ws G m_joinsOf 5 [(0, .ref 76), (1, .int x1), (2, .int x2), (3, .int x3), (4, .int x4)] [] u Q := by
  refine ws_iload 4 (dcd d_m_joinsOf_0 4 rfl) rfl ?_
  refine ws_aload_n 0 (dcd d_m_joinsOf_0 5 rfl) rfl ?_
  refine ws_getI f_m_156 rfl (dcd d_m_joinsOf_0 6 rfl) ok_76 ?_
  refine ws_icmp_ge (tgt := 67) (dcd d_m_joinsOf_0 7 rfl) (by decide) (fun c1 => ?_) (fun c1 => ?_)
  · have h := h.1 c1
    refine ws_iload_n 3 (dcd d_m_joinsOf_1 10 rfl) rfl ?_
    exact ws_iret (dcd d_m_joinsOf_1 11 rfl) ⟨_, rfl, rfl⟩ h
  · have h := h.2 c1
    refine ws_aload_n 0 (dcd d_m_joinsOf_0 8 rfl) rfl ?_
    refine ws_aload_n 0 (dcd d_m_joinsOf_0 9 rfl) rfl ?_
    refine ws_iload 4 (dcd d_m_joinsOf_0 10 rfl) rfl ?_
    refine ws_iconst (v := 2) (dcd d_m_joinsOf_0 11 rfl) (by decide) ?_
    obtain ⟨e2, h⟩ := h
    refine ws_callVI (o := 76) (As := [.int x4, .int 2]) (st := [.ref 76]) (la := [(0, .ref 76), (1, .int x4), (2, .int 2)]) (dcd d_m_joinsOf_0 12 rfl) cv_m_tell k_m_159 ⟨by decide, by decide⟩ ok_76 rfl (Nat.le_of_ble_eq_true rfl) (Nat.le_of_ble_eq_true rfl) rfl rfl (sp_m_tell e2) ?_
    rintro _ _ ⟨rfl, rfl⟩
    refine ws_iload_n 2 (dcd d_m_joinsOf_0 13 rfl) rfl ?_
    refine ws_isub (dcd d_m_joinsOf_0 14 rfl) ?_
    refine ws_callVI (o := 76) (As := [.int ((mI u 83 ((5 * x4 + 2) : Int32).toNatClampNeg) - x2)]) (st := []) (la := [(0, .ref 76), (1, .int ((mI u 83 ((5 * x4 + 2) : Int32).toNatClampNeg) - x2))]) (dcd d_m_joinsOf_0 15 rfl) cv_m_divisor k_m_229 ⟨by decide, by decide⟩ ok_76 rfl (Nat.le_of_ble_eq_true rfl) (Nat.le_of_ble_eq_true rfl) rfl rfl h (fun a3 u3 h => ?_)
    refine ws_istore (l' := [(5, .int a3), (0, .ref 76), (1, .int x1), (2, .int x2), (3, .int x3), (4, .int x4)]) (dcd d_m_joinsOf_0 16 rfl) (by decide) rfl ?_
    refine ws_iload_n 4 (dcd d_m_joinsOf_0 17 rfl) rfl ?_
    refine ws_aload_n 1 (dcd d_m_joinsOf_0 18 rfl) rfl ?_
    refine ws_aload_n 1 (dcd d_m_joinsOf_0 19 rfl) rfl ?_
    refine ws_getF (a := 84) f_m_35 rfl (dcd d_m_joinsOf_0 20 rfl) ok_76 of_8_17 rfl ?_
    refine ws_iload 5 (dcd d_m_joinsOf_0 21 rfl) rfl ?_
    obtain ⟨e4, h⟩ := h
    refine ws_iald (L := 7) (dcd d_m_joinsOf_0 22 rfl) (os_8_17 ok_76) (ol_8_17 ok_76) e4 ?_
    refine ws_i2l (dcd d_m_joinsOf_0 23 rfl) ?_
    refine ws_iload_n 2 (dcd d_m_joinsOf_0 24 rfl) rfl ?_
    refine ws_i2l (dcd d_m_joinsOf_0 25 rfl) ?_
    refine ws_lsub (dcd d_m_joinsOf_0 26 rfl) ?_
    obtain ⟨e5, h⟩ := h
    refine ws_callVI (o := 76) (As := [.long (((mI u3 84 (x4 : Int32).toNatClampNeg) : Int32).toInt64 - (x1 : Int32).toInt64)]) (st := [.int x3]) (la := [(0, .ref 76), (1, .long (((mI u3 84 (x4 : Int32).toNatClampNeg) : Int32).toInt64 - (x1 : Int32).toInt64))]) (dcd d_m_joinsOf_0 27 rfl) cv_m_doorAt k_m_181 ⟨by decide, by decide⟩ ok_76 rfl (Nat.le_of_ble_eq_true rfl) (Nat.le_of_ble_eq_true rfl) rfl rfl (sp_m_doorAt e5) ?_
    rintro _ _ ⟨rfl, rfl⟩
    refine ws_iload 0 (dcd d_m_joinsOf_0 28 rfl) rfl ?_
    obtain ⟨e6, h⟩ := h
    refine ws_irem (dcd d_m_joinsOf_0 29 rfl) e6 ?_
    refine ws_if_ne (tgt := 58) (dcd d_m_joinsOf_1 0 rfl) (by decide) (fun c7 => ?_) (fun c7 => ?_)
    · have h := h.1 c7
      refine ws_iconst (v := 0) (dcd d_m_joinsOf_1 5 rfl) (by decide) ?_
      refine ws_ior (dcd d_m_joinsOf_1 6 rfl) ?_
      refine ws_istore_n (l' := [(3, .int (x3 ||| 0)), (5, .int a3), (0, .ref 76), (1, .int x1), (2, .int x2), (4, .int x4)]) (dcd d_m_joinsOf_1 7 rfl) (by decide) rfl ?_
      refine ws_iinc (v := 1) (l' := [(4, .int (x4 + 1)), (3, .int (x3 ||| 0)), (5, .int a3), (0, .ref 76), (1, .int x1), (2, .int x2)]) 5 (dcd d_m_joinsOf_1 8 rfl) rfl (by decide) (by decide) rfl ?_
      refine ws_goto (tgt := 5) (dcd d_m_joinsOf_1 9 rfl) (by decide) ?_
      exact ws_loc [3, 4, 5, 1, 0] rfl h
    · have h := h.2 c7
      refine ws_iconst (v := 1) (dcd d_m_joinsOf_1 1 rfl) (by decide) ?_
      refine ws_iload 5 (dcd d_m_joinsOf_1 2 rfl) rfl ?_
      refine ws_ishl (dcd d_m_joinsOf_1 3 rfl) ?_
      refine ws_goto (tgt := 59) (dcd d_m_joinsOf_1 4 rfl) (by decide) ?_
      refine ws_ior (dcd d_m_joinsOf_1 6 rfl) ?_
      refine ws_istore_n (l' := [(3, .int (x3 ||| (1 <<< (x4 &&& 31)))), (5, .int a3), (0, .ref 76), (1, .int x1), (2, .int x2), (4, .int x4)]) (dcd d_m_joinsOf_1 7 rfl) (by decide) rfl ?_
      refine ws_iinc (v := 1) (l' := [(4, .int (x4 + 1)), (3, .int (x3 ||| (1 <<< (x4 &&& 31)))), (5, .int a3), (0, .ref 76), (1, .int x1), (2, .int x2)]) 5 (dcd d_m_joinsOf_1 8 rfl) rfl (by decide) (by decide) rfl ?_
      refine ws_goto (tgt := 5) (dcd d_m_joinsOf_1 9 rfl) (by decide) ?_
      exact ws_loc [3, 4, 5, 1, 0] rfl h
theorem sg_m_quiet_0   (h : ((¬ (mI u 76 10) = 0 → Ws G m_quiet 17 [(0, .ref 76), (1, .int (-9)), (2, .int 0), (3, .int 0)] [] u Q) ∧ ((mI u 76 10) = 0 → Q (some (.int (-4))) u))) : Ws G m_quiet 0 [(0, .ref 76)] [] u Q := by
  refine ws_aload_n 0 (dcd d_m_quiet_0 0 rfl) rfl ?_
  refine ws_getI f_m_153 rfl (dcd d_m_quiet_0 1 rfl) ok_76 ?_
  refine ws_if_ne (tgt := 10) (dcd d_m_quiet_0 2 rfl) (by decide) (fun c1 => ?_) (fun c1 => ?_)
  · have h := h.1 c1
    refine ws_bipush (v := (-9)) (dcd d_m_quiet_0 5 rfl) (by decide) ?_
    refine ws_istore_n (l' := [(1, .int (-9)), (0, .ref 76)]) (dcd d_m_quiet_0 6 rfl) (by decide) rfl ?_
    refine ws_iconst (v := 0) (dcd d_m_quiet_0 7 rfl) (by decide) ?_
    refine ws_istore_n (l' := [(2, .int 0), (1, .int (-9)), (0, .ref 76)]) (dcd d_m_quiet_0 8 rfl) (by decide) rfl ?_
    refine ws_iconst (v := 0) (dcd d_m_quiet_0 9 rfl) (by decide) ?_
    refine ws_istore_n (l' := [(3, .int 0), (2, .int 0), (1, .int (-9)), (0, .ref 76)]) (dcd d_m_quiet_0 10 rfl) (by decide) rfl ?_
    exact ws_loc [3, 2, 1, 0] rfl h
  · have h := h.2 c1
    refine ws_bipush (v := (-4)) (dcd d_m_quiet_0 3 rfl) (by decide) ?_
    exact ws_iret (dcd d_m_quiet_0 4 rfl) ⟨_, rfl, rfl⟩ h
theorem sg_m_quiet_17 {x1 : Int32} {x2 : Int32} {x3 : Int32}  (h : (((mI u 76 10) ≤ x3 → ((¬ x1 = (-9) → Q (some (.int x1)) (pI u 76 2 x2)) ∧ (x1 = (-9) → Q (some (.int (-9))) u))) ∧ (¬ ((mI u 76 10) ≤ x3) → Ws G m_quiet 29 [(0, .ref 76), (1, .int x1), (2, .int x2), (3, .int x3), (4, .int (-9))] [] u Q))) : Ws G m_quiet 17 [(0, .ref 76), (1, .int x1), (2, .int x2), (3, .int x3)] [] u Q := by
  refine ws_iload_n 3 (dcd d_m_quiet_0 11 rfl) rfl ?_
  refine ws_aload_n 0 (dcd d_m_quiet_0 12 rfl) rfl ?_
  refine ws_getI f_m_153 rfl (dcd d_m_quiet_0 13 rfl) ok_76 ?_
  refine ws_icmp_ge (tgt := 102) (dcd d_m_quiet_0 14 rfl) (by decide) (fun c1 => ?_) (fun c1 => ?_)
  · have h := h.1 c1
    refine ws_iload_n 1 (dcd d_m_quiet_1 25 rfl) rfl ?_
    refine ws_bipush (v := (-9)) (dcd d_m_quiet_1 26 rfl) (by decide) ?_
    refine ws_icmp_ne (tgt := 113) (dcd d_m_quiet_1 27 rfl) (by decide) (fun c2 => ?_) (fun c2 => ?_)
    · have h := h.1 c2
      refine ws_aload_n 0 (dcd d_m_quiet_2 0 rfl) rfl ?_
      refine ws_iload_n 2 (dcd d_m_quiet_2 1 rfl) rfl ?_
      refine ws_iload_n 1 (dcd d_m_quiet_2 2 rfl) rfl ?_
      refine ws_callVI (o := 76) (As := [.int x2, .int x1]) (st := []) (la := [(0, .ref 76), (1, .int x2), (2, .int x1)]) (dcd d_m_quiet_2 3 rfl) cv_m_ask k_m_104 ⟨by decide, by decide⟩ ok_76 rfl (Nat.le_of_ble_eq_true rfl) (Nat.le_of_ble_eq_true rfl) rfl rfl sp_m_ask ?_
      rintro _ _ ⟨rfl, rfl⟩
      exact ws_iret (dcd d_m_quiet_2 4 rfl) ⟨_, rfl, rfl⟩ h
    · have h := h.2 c2
      refine ws_bipush (v := (-9)) (dcd d_m_quiet_1 28 rfl) (by decide) ?_
      refine ws_goto (tgt := 119) (dcd d_m_quiet_1 29 rfl) (by decide) ?_
      exact ws_iret (dcd d_m_quiet_2 4 rfl) ⟨_, rfl, rfl⟩ h
  · have h := h.2 c1
    refine ws_bipush (v := (-9)) (dcd d_m_quiet_0 15 rfl) (by decide) ?_
    refine ws_istore (l' := [(4, .int (-9)), (0, .ref 76), (1, .int x1), (2, .int x2), (3, .int x3)]) (dcd d_m_quiet_0 16 rfl) (by decide) rfl ?_
    exact ws_loc [1, 2, 3, 4, 0] rfl h
theorem sg_m_quiet_29 {x1 : Int32} {x2 : Int32} {x3 : Int32} {x4 : Int32}  (h : ((9 < x4 → Ws G m_quiet 17 [(0, .ref 76), (1, .int x1), (2, .int x2), (3, .int (x3 + 1))] [] u Q) ∧ (¬ (9 < x4) → Ws G m_joinsOf 0 [(0, .ref 76), (1, .int x3), (2, .int x4)] [] u (RI fun a2 u2 => ((¬ a2 = 0 → Ws G m_quiet 29 [(0, .ref 76), (1, .int x1), (2, .int (x2 + 0)), (3, .int x3), (4, .int (x4 + 1))] [] u2 Q) ∧ (a2 = 0 → ((¬ x2 = 0 → Ws G m_quiet 29 [(0, .ref 76), (1, .int x1), (2, .int (x2 + 1)), (3, .int x3), (4, .int (x4 + 1))] [] u2 Q) ∧ (x2 = 0 → Ws G m_quiet 29 [(0, .ref 76), (1, .int (((100 * x3) + x4) + 9)), (2, .int (x2 + 1)), (3, .int x3), (4, .int (x4 + 1))] [] u2 Q)))))))) : Ws G m_quiet 29 [(0, .ref 76), (1, .int x1), (2, .int x2), (3, .int x3), (4, .int x4)] [] u Q := by
  refine ws_iload 4 (dcd d_m_quiet_0 17 rfl) rfl ?_
  refine ws_bipush (v := 9) (dcd d_m_quiet_0 18 rfl) (by decide) ?_
  refine ws_icmp_gt (tgt := 96) (dcd d_m_quiet_0 19 rfl) (by decide) (fun c1 => ?_) (fun c1 => ?_)
  · have h := h.1 c1
    refine ws_iinc (v := 1) (l' := [(3, .int (x3 + 1)), (0, .ref 76), (1, .int x1), (2, .int x2), (4, .int x4)]) 3 (dcd d_m_quiet_1 23 rfl) rfl (by decide) (by decide) rfl ?_
    refine ws_goto (tgt := 17) (dcd d_m_quiet_1 24 rfl) (by decide) ?_
    exact ws_loc [1, 2, 3, 0] rfl h
  · have h := h.2 c1
    refine ws_aload_n 0 (dcd d_m_quiet_0 20 rfl) rfl ?_
    refine ws_iload_n 3 (dcd d_m_quiet_0 21 rfl) rfl ?_
    refine ws_iload 4 (dcd d_m_quiet_0 22 rfl) rfl ?_
    refine ws_callVI (o := 76) (As := [.int x3, .int x4]) (st := []) (la := [(0, .ref 76), (1, .int x3), (2, .int x4)]) (dcd d_m_quiet_0 23 rfl) cv_m_joinsOf k_m_248 ⟨by decide, by decide⟩ ok_76 rfl (Nat.le_of_ble_eq_true rfl) (Nat.le_of_ble_eq_true rfl) rfl rfl h (fun a2 u2 h => ?_)
    refine ws_if_ne (tgt := 50) (dcd d_m_quiet_0 24 rfl) (by decide) (fun c3 => ?_) (fun c3 => ?_)
    · have h := h.1 c3
      refine ws_iconst (v := 0) (dcd d_m_quiet_0 27 rfl) (by decide) ?_
      refine ws_istore (l' := [(5, .int 0), (0, .ref 76), (1, .int x1), (2, .int x2), (3, .int x3), (4, .int x4)]) (dcd d_m_quiet_0 28 rfl) (by decide) rfl ?_
      refine ws_iload 0 (dcd d_m_quiet_0 29 rfl) rfl ?_
      refine ws_if_eq (tgt := 75) (dcd d_m_quiet_1 0 rfl) (by decide) (fun _ => ?_) (fun c => absurd (show (0 : Int32) = 0 from by decide) c)
      refine ws_iload_n 2 (dcd d_m_quiet_1 11 rfl) rfl ?_
      refine ws_istore_n (l' := [(1, .int x1), (5, .int 0), (0, .ref 76), (2, .int x2), (3, .int x3), (4, .int x4)]) (dcd d_m_quiet_1 12 rfl) (by decide) rfl ?_
      refine ws_iload_n 3 (dcd d_m_quiet_1 13 rfl) rfl ?_
      refine ws_iload 1 (dcd d_m_quiet_1 14 rfl) rfl ?_
      refine ws_if_eq (tgt := 87) (dcd d_m_quiet_1 15 rfl) (by decide) (fun _ => ?_) (fun c => absurd (show (0 : Int32) = 0 from by decide) c)
      refine ws_iconst (v := 0) (dcd d_m_quiet_1 18 rfl) (by decide) ?_
      refine ws_iadd (dcd d_m_quiet_1 19 rfl) ?_
      refine ws_istore_n (l' := [(2, .int (x2 + 0)), (1, .int x1), (5, .int 0), (0, .ref 76), (3, .int x3), (4, .int x4)]) (dcd d_m_quiet_1 20 rfl) (by decide) rfl ?_
      refine ws_iinc (v := 1) (l' := [(4, .int (x4 + 1)), (2, .int (x2 + 0)), (1, .int x1), (5, .int 0), (0, .ref 76), (3, .int x3)]) 5 (dcd d_m_quiet_1 21 rfl) rfl (by decide) (by decide) rfl ?_
      refine ws_goto (tgt := 29) (dcd d_m_quiet_1 22 rfl) (by decide) ?_
      exact ws_loc [4, 2, 1, 5, 0] rfl h
    · have h := h.2 c3
      refine ws_iconst (v := 1) (dcd d_m_quiet_0 25 rfl) (by decide) ?_
      refine ws_goto (tgt := 51) (dcd d_m_quiet_0 26 rfl) (by decide) ?_
      refine ws_istore (l' := [(5, .int 1), (0, .ref 76), (1, .int x1), (2, .int x2), (3, .int x3), (4, .int x4)]) (dcd d_m_quiet_0 28 rfl) (by decide) rfl ?_
      refine ws_iload 0 (dcd d_m_quiet_0 29 rfl) rfl ?_
      refine ws_if_eq (tgt := 75) (dcd d_m_quiet_1 0 rfl) (by decide) (fun c => absurd c (by decide)) (fun _ => ?_)
      refine ws_iload_n 3 (dcd d_m_quiet_1 1 rfl) rfl ?_
      refine ws_if_ne (tgt := 75) (dcd d_m_quiet_1 2 rfl) (by decide) (fun c7 => ?_) (fun c7 => ?_)
      · have h := h.1 c7
        refine ws_iload_n 2 (dcd d_m_quiet_1 11 rfl) rfl ?_
        refine ws_istore_n (l' := [(1, .int x1), (5, .int 1), (0, .ref 76), (2, .int x2), (3, .int x3), (4, .int x4)]) (dcd d_m_quiet_1 12 rfl) (by decide) rfl ?_
        refine ws_iload_n 3 (dcd d_m_quiet_1 13 rfl) rfl ?_
        refine ws_iload 1 (dcd d_m_quiet_1 14 rfl) rfl ?_
        refine ws_if_eq (tgt := 87) (dcd d_m_quiet_1 15 rfl) (by decide) (fun c => absurd c (by decide)) (fun _ => ?_)
        refine ws_iconst (v := 1) (dcd d_m_quiet_1 16 rfl) (by decide) ?_
        refine ws_goto (tgt := 88) (dcd d_m_quiet_1 17 rfl) (by decide) ?_
        refine ws_iadd (dcd d_m_quiet_1 19 rfl) ?_
        refine ws_istore_n (l' := [(2, .int (x2 + 1)), (1, .int x1), (5, .int 1), (0, .ref 76), (3, .int x3), (4, .int x4)]) (dcd d_m_quiet_1 20 rfl) (by decide) rfl ?_
        refine ws_iinc (v := 1) (l' := [(4, .int (x4 + 1)), (2, .int (x2 + 1)), (1, .int x1), (5, .int 1), (0, .ref 76), (3, .int x3)]) 5 (dcd d_m_quiet_1 21 rfl) rfl (by decide) (by decide) rfl ?_
        refine ws_goto (tgt := 29) (dcd d_m_quiet_1 22 rfl) (by decide) ?_
        exact ws_loc [4, 2, 1, 5, 0] rfl h
      · have h := h.2 c7
        refine ws_bipush (v := 100) (dcd d_m_quiet_1 3 rfl) (by decide) ?_
        refine ws_iload_n 4 (dcd d_m_quiet_1 4 rfl) rfl ?_
        refine ws_imul (dcd d_m_quiet_1 5 rfl) ?_
        refine ws_iload 5 (dcd d_m_quiet_1 6 rfl) rfl ?_
        refine ws_iadd (dcd d_m_quiet_1 7 rfl) ?_
        refine ws_bipush (v := 9) (dcd d_m_quiet_1 8 rfl) (by decide) ?_
        refine ws_iadd (dcd d_m_quiet_1 9 rfl) ?_
        refine ws_goto (tgt := 76) (dcd d_m_quiet_1 10 rfl) (by decide) ?_
        refine ws_istore_n (l' := [(1, .int (((100 * x3) + x4) + 9)), (5, .int 1), (0, .ref 76), (2, .int x2), (3, .int x3), (4, .int x4)]) (dcd d_m_quiet_1 12 rfl) (by decide) rfl ?_
        refine ws_iload_n 3 (dcd d_m_quiet_1 13 rfl) rfl ?_
        refine ws_iload 1 (dcd d_m_quiet_1 14 rfl) rfl ?_
        refine ws_if_eq (tgt := 87) (dcd d_m_quiet_1 15 rfl) (by decide) (fun c => absurd c (by decide)) (fun _ => ?_)
        refine ws_iconst (v := 1) (dcd d_m_quiet_1 16 rfl) (by decide) ?_
        refine ws_goto (tgt := 88) (dcd d_m_quiet_1 17 rfl) (by decide) ?_
        refine ws_iadd (dcd d_m_quiet_1 19 rfl) ?_
        refine ws_istore_n (l' := [(2, .int (x2 + 1)), (1, .int (((100 * x3) + x4) + 9)), (5, .int 1), (0, .ref 76), (3, .int x3), (4, .int x4)]) (dcd d_m_quiet_1 20 rfl) (by decide) rfl ?_
        refine ws_iinc (v := 1) (l' := [(4, .int (x4 + 1)), (2, .int (x2 + 1)), (1, .int (((100 * x3) + x4) + 9)), (5, .int 1), (0, .ref 76), (3, .int x3)]) 5 (dcd d_m_quiet_1 21 rfl) rfl (by decide) (by decide) rfl ?_
        refine ws_goto (tgt := 29) (dcd d_m_quiet_1 22 rfl) (by decide) ?_
        exact ws_loc [4, 2, 1, 5, 0] rfl h
theorem sg_m_busy_0   (h : ((¬ (mI u 76 10) = 0 → Ws G m_busy 16 [(0, .ref 76), (1, .int 0), (2, .int (-1)), (3, .int 0)] [] u Q) ∧ ((mI u 76 10) = 0 → Q (some (.int (-4))) u))) : Ws G m_busy 0 [(0, .ref 76)] [] u Q := by
  refine ws_aload_n 0 (dcd d_m_busy_0 0 rfl) rfl ?_
  refine ws_getI f_m_153 rfl (dcd d_m_busy_0 1 rfl) ok_76 ?_
  refine ws_if_ne (tgt := 10) (dcd d_m_busy_0 2 rfl) (by decide) (fun c1 => ?_) (fun c1 => ?_)
  · have h := h.1 c1
    refine ws_iconst (v := 0) (dcd d_m_busy_0 5 rfl) (by decide) ?_
    refine ws_istore_n (l' := [(1, .int 0), (0, .ref 76)]) (dcd d_m_busy_0 6 rfl) (by decide) rfl ?_
    refine ws_iconst (v := (-1)) (dcd d_m_busy_0 7 rfl) (by decide) ?_
    refine ws_istore_n (l' := [(2, .int (-1)), (1, .int 0), (0, .ref 76)]) (dcd d_m_busy_0 8 rfl) (by decide) rfl ?_
    refine ws_iconst (v := 0) (dcd d_m_busy_0 9 rfl) (by decide) ?_
    refine ws_istore_n (l' := [(3, .int 0), (2, .int (-1)), (1, .int 0), (0, .ref 76)]) (dcd d_m_busy_0 10 rfl) (by decide) rfl ?_
    exact ws_loc [3, 2, 1, 0] rfl h
  · have h := h.2 c1
    refine ws_bipush (v := (-4)) (dcd d_m_busy_0 3 rfl) (by decide) ?_
    exact ws_iret (dcd d_m_busy_0 4 rfl) ⟨_, rfl, rfl⟩ h
theorem sg_m_busy_16 {x1 : Int32} {x2 : Int32} {x3 : Int32}  (h : (((mI u 76 10) ≤ x3 → Q (some (.int x1)) (pI u 76 2 x2)) ∧ (¬ ((mI u 76 10) ≤ x3) → Ws G m_busy 28 [(0, .ref 76), (1, .int x1), (2, .int x2), (3, .int x3), (4, .int (-9))] [] u Q))) : Ws G m_busy 16 [(0, .ref 76), (1, .int x1), (2, .int x2), (3, .int x3)] [] u Q := by
  refine ws_iload_n 3 (dcd d_m_busy_0 11 rfl) rfl ?_
  refine ws_aload_n 0 (dcd d_m_busy_0 12 rfl) rfl ?_
  refine ws_getI f_m_153 rfl (dcd d_m_busy_0 13 rfl) ok_76 ?_
  refine ws_icmp_ge (tgt := 93) (dcd d_m_busy_0 14 rfl) (by decide) (fun c1 => ?_) (fun c1 => ?_)
  · have h := h.1 c1
    refine ws_aload_n 0 (dcd d_m_busy_1 20 rfl) rfl ?_
    refine ws_iload_n 2 (dcd d_m_busy_1 21 rfl) rfl ?_
    refine ws_iload_n 1 (dcd d_m_busy_1 22 rfl) rfl ?_
    refine ws_callVI (o := 76) (As := [.int x2, .int x1]) (st := []) (la := [(0, .ref 76), (1, .int x2), (2, .int x1)]) (dcd d_m_busy_1 23 rfl) cv_m_ask k_m_104 ⟨by decide, by decide⟩ ok_76 rfl (Nat.le_of_ble_eq_true rfl) (Nat.le_of_ble_eq_true rfl) rfl rfl sp_m_ask ?_
    rintro _ _ ⟨rfl, rfl⟩
    exact ws_iret (dcd d_m_busy_1 24 rfl) ⟨_, rfl, rfl⟩ h
  · have h := h.2 c1
    refine ws_bipush (v := (-9)) (dcd d_m_busy_0 15 rfl) (by decide) ?_
    refine ws_istore (l' := [(4, .int (-9)), (0, .ref 76), (1, .int x1), (2, .int x2), (3, .int x3)]) (dcd d_m_busy_0 16 rfl) (by decide) rfl ?_
    exact ws_loc [1, 2, 3, 4, 0] rfl h
theorem sg_m_busy_28 {x1 : Int32} {x2 : Int32} {x3 : Int32} {x4 : Int32}  (h : ((9 < x4 → Ws G m_busy 16 [(0, .ref 76), (1, .int x1), (2, .int x2), (3, .int (x3 + 1))] [] u Q) ∧ (¬ (9 < x4) → Ws G m_joinsOf 0 [(0, .ref 76), (1, .int x3), (2, .int x4)] [] u (RI fun a2 u2 => Ws G m_sizeOf 0 [(0, .int a2)] [] u2 (RI fun a3 u3 => ((a3 ≤ x2 → ((a3 ≤ x2 → Ws G m_busy 28 [(0, .ref 76), (1, .int x1), (2, .int x2), (3, .int x3), (4, .int (x4 + 1))] [] u3 Q) ∧ (¬ (a3 ≤ x2) → Ws G m_busy 28 [(0, .ref 76), (1, .int x1), (2, .int a3), (3, .int x3), (4, .int (x4 + 1))] [] u3 Q))) ∧ (¬ (a3 ≤ x2) → ((a3 ≤ x2 → Ws G m_busy 28 [(0, .ref 76), (1, .int (((100 * x3) + x4) + 9)), (2, .int x2), (3, .int x3), (4, .int (x4 + 1))] [] u3 Q) ∧ (¬ (a3 ≤ x2) → Ws G m_busy 28 [(0, .ref 76), (1, .int (((100 * x3) + x4) + 9)), (2, .int a3), (3, .int x3), (4, .int (x4 + 1))] [] u3 Q))))))))) : Ws G m_busy 28 [(0, .ref 76), (1, .int x1), (2, .int x2), (3, .int x3), (4, .int x4)] [] u Q := by
  refine ws_iload 4 (dcd d_m_busy_0 17 rfl) rfl ?_
  refine ws_bipush (v := 9) (dcd d_m_busy_0 18 rfl) (by decide) ?_
  refine ws_icmp_gt (tgt := 87) (dcd d_m_busy_0 19 rfl) (by decide) (fun c1 => ?_) (fun c1 => ?_)
  · have h := h.1 c1
    refine ws_iinc (v := 1) (l' := [(3, .int (x3 + 1)), (0, .ref 76), (1, .int x1), (2, .int x2), (4, .int x4)]) 3 (dcd d_m_busy_1 18 rfl) rfl (by decide) (by decide) rfl ?_
    refine ws_goto (tgt := 16) (dcd d_m_busy_1 19 rfl) (by decide) ?_
    exact ws_loc [1, 2, 3, 0] rfl h
  · have h := h.2 c1
    refine ws_aload_n 0 (dcd d_m_busy_0 20 rfl) rfl ?_
    refine ws_iload_n 3 (dcd d_m_busy_0 21 rfl) rfl ?_
    refine ws_iload 4 (dcd d_m_busy_0 22 rfl) rfl ?_
    refine ws_callVI (o := 76) (As := [.int x3, .int x4]) (st := []) (la := [(0, .ref 76), (1, .int x3), (2, .int x4)]) (dcd d_m_busy_0 23 rfl) cv_m_joinsOf k_m_248 ⟨by decide, by decide⟩ ok_76 rfl (Nat.le_of_ble_eq_true rfl) (Nat.le_of_ble_eq_true rfl) rfl rfl h (fun a2 u2 h => ?_)
    refine ws_callSI (As := [.int a2]) (st := []) (la := [(0, .int a2)]) (dcd d_m_busy_0 24 rfl) cs_m_sizeOf k_m_251 ⟨by decide, by decide⟩ rfl (Nat.le_of_ble_eq_true rfl) (Nat.le_of_ble_eq_true rfl) rfl rfl h (fun a3 u3 h => ?_)
    refine ws_istore (l' := [(5, .int a3), (0, .ref 76), (1, .int x1), (2, .int x2), (3, .int x3), (4, .int x4)]) (dcd d_m_busy_0 25 rfl) (by decide) rfl ?_
    refine ws_iload 0 (dcd d_m_busy_0 26 rfl) rfl ?_
    refine ws_iload_n 3 (dcd d_m_busy_0 27 rfl) rfl ?_
    refine ws_icmp_le (tgt := 66) (dcd d_m_busy_0 28 rfl) (by decide) (fun c4 => ?_) (fun c4 => ?_)
    · have h := h.1 c4
      refine ws_iload_n 2 (dcd d_m_busy_1 7 rfl) rfl ?_
      refine ws_istore_n (l' := [(1, .int x1), (5, .int a3), (0, .ref 76), (2, .int x2), (3, .int x3), (4, .int x4)]) (dcd d_m_busy_1 8 rfl) (by decide) rfl ?_
      refine ws_iload 1 (dcd d_m_busy_1 9 rfl) rfl ?_
      refine ws_iload_n 3 (dcd d_m_busy_1 10 rfl) rfl ?_
      refine ws_icmp_le (tgt := 79) (dcd d_m_busy_1 11 rfl) (by decide) (fun c5 => ?_) (fun c5 => ?_)
      · have h := h.1 c5
        refine ws_iload_n 3 (dcd d_m_busy_1 14 rfl) rfl ?_
        refine ws_istore_n (l' := [(2, .int x2), (1, .int x1), (5, .int a3), (0, .ref 76), (3, .int x3), (4, .int x4)]) (dcd d_m_busy_1 15 rfl) (by decide) rfl ?_
        refine ws_iinc (v := 1) (l' := [(4, .int (x4 + 1)), (2, .int x2), (1, .int x1), (5, .int a3), (0, .ref 76), (3, .int x3)]) 5 (dcd d_m_busy_1 16 rfl) rfl (by decide) (by decide) rfl ?_
        refine ws_goto (tgt := 28) (dcd d_m_busy_1 17 rfl) (by decide) ?_
        exact ws_loc [4, 2, 1, 5, 0] rfl h
      · have h := h.2 c5
        refine ws_iload 1 (dcd d_m_busy_1 12 rfl) rfl ?_
        refine ws_goto (tgt := 80) (dcd d_m_busy_1 13 rfl) (by decide) ?_
        refine ws_istore_n (l' := [(2, .int a3), (1, .int x1), (5, .int a3), (0, .ref 76), (3, .int x3), (4, .int x4)]) (dcd d_m_busy_1 15 rfl) (by decide) rfl ?_
        refine ws_iinc (v := 1) (l' := [(4, .int (x4 + 1)), (2, .int a3), (1, .int x1), (5, .int a3), (0, .ref 76), (3, .int x3)]) 5 (dcd d_m_busy_1 16 rfl) rfl (by decide) (by decide) rfl ?_
        refine ws_goto (tgt := 28) (dcd d_m_busy_1 17 rfl) (by decide) ?_
        exact ws_loc [4, 2, 1, 5, 0] rfl h
    · have h := h.2 c4
      refine ws_bipush (v := 100) (dcd d_m_busy_0 29 rfl) (by decide) ?_
      refine ws_iload_n 4 (dcd d_m_busy_1 0 rfl) rfl ?_
      refine ws_imul (dcd d_m_busy_1 1 rfl) ?_
      refine ws_iload 5 (dcd d_m_busy_1 2 rfl) rfl ?_
      refine ws_iadd (dcd d_m_busy_1 3 rfl) ?_
      refine ws_bipush (v := 9) (dcd d_m_busy_1 4 rfl) (by decide) ?_
      refine ws_iadd (dcd d_m_busy_1 5 rfl) ?_
      refine ws_goto (tgt := 67) (dcd d_m_busy_1 6 rfl) (by decide) ?_
      refine ws_istore_n (l' := [(1, .int (((100 * x3) + x4) + 9)), (5, .int a3), (0, .ref 76), (2, .int x2), (3, .int x3), (4, .int x4)]) (dcd d_m_busy_1 8 rfl) (by decide) rfl ?_
      refine ws_iload 1 (dcd d_m_busy_1 9 rfl) rfl ?_
      refine ws_iload_n 3 (dcd d_m_busy_1 10 rfl) rfl ?_
      refine ws_icmp_le (tgt := 79) (dcd d_m_busy_1 11 rfl) (by decide) (fun c6 => ?_) (fun c6 => ?_)
      · have h := h.1 c6
        refine ws_iload_n 3 (dcd d_m_busy_1 14 rfl) rfl ?_
        refine ws_istore_n (l' := [(2, .int x2), (1, .int (((100 * x3) + x4) + 9)), (5, .int a3), (0, .ref 76), (3, .int x3), (4, .int x4)]) (dcd d_m_busy_1 15 rfl) (by decide) rfl ?_
        refine ws_iinc (v := 1) (l' := [(4, .int (x4 + 1)), (2, .int x2), (1, .int (((100 * x3) + x4) + 9)), (5, .int a3), (0, .ref 76), (3, .int x3)]) 5 (dcd d_m_busy_1 16 rfl) rfl (by decide) (by decide) rfl ?_
        refine ws_goto (tgt := 28) (dcd d_m_busy_1 17 rfl) (by decide) ?_
        exact ws_loc [4, 2, 1, 5, 0] rfl h
      · have h := h.2 c6
        refine ws_iload 1 (dcd d_m_busy_1 12 rfl) rfl ?_
        refine ws_goto (tgt := 80) (dcd d_m_busy_1 13 rfl) (by decide) ?_
        refine ws_istore_n (l' := [(2, .int a3), (1, .int (((100 * x3) + x4) + 9)), (5, .int a3), (0, .ref 76), (3, .int x3), (4, .int x4)]) (dcd d_m_busy_1 15 rfl) (by decide) rfl ?_
        refine ws_iinc (v := 1) (l' := [(4, .int (x4 + 1)), (2, .int a3), (1, .int (((100 * x3) + x4) + 9)), (5, .int a3), (0, .ref 76), (3, .int x3)]) 5 (dcd d_m_busy_1 16 rfl) rfl (by decide) (by decide) rfl ?_
        refine ws_goto (tgt := 28) (dcd d_m_busy_1 17 rfl) (by decide) ?_
        exact ws_loc [4, 2, 1, 5, 0] rfl h
theorem sg_m_sizeOf_0 {x0 : Int32}  (h : Ws G m_sizeOf 4 [(0, .int x0), (1, .int 0), (2, .int 0)] [] u Q) : Ws G m_sizeOf 0 [(0, .int x0)] [] u Q := by
  refine ws_iconst (v := 0) (dcd d_m_sizeOf_0 0 rfl) (by decide) ?_
  refine ws_istore_n (l' := [(1, .int 0), (0, .int x0)]) (dcd d_m_sizeOf_0 1 rfl) (by decide) rfl ?_
  refine ws_iconst (v := 0) (dcd d_m_sizeOf_0 2 rfl) (by decide) ?_
  refine ws_istore_n (l' := [(2, .int 0), (1, .int 0), (0, .int x0)]) (dcd d_m_sizeOf_0 3 rfl) (by decide) rfl ?_
  exact ws_loc [2, 1, 0] rfl h
theorem sg_m_sizeOf_4 {x0 : Int32} {x1 : Int32} {x2 : Int32}  (h : ((31 ≤ x2 → Q (some (.int x1)) u) ∧ (¬ (31 ≤ x2) → Ws G m_sizeOf 4 [(0, .int x0), (1, .int (x1 + ((x0 >>> (x2 &&& 31)) &&& 1))), (2, .int (x2 + 1))] [] u Q))) : Ws G m_sizeOf 4 [(0, .int x0), (1, .int x1), (2, .int x2)] [] u Q := by
  refine ws_iload_n 2 (dcd d_m_sizeOf_0 4 rfl) rfl ?_
  refine ws_bipush (v := 31) (dcd d_m_sizeOf_0 5 rfl) (by decide) ?_
  refine ws_icmp_ge (tgt := 24) (dcd d_m_sizeOf_0 6 rfl) (by decide) (fun c1 => ?_) (fun c1 => ?_)
  · have h := h.1 c1
    refine ws_iload_n 1 (dcd d_m_sizeOf_0 17 rfl) rfl ?_
    exact ws_iret (dcd d_m_sizeOf_0 18 rfl) ⟨_, rfl, rfl⟩ h
  · have h := h.2 c1
    refine ws_iload_n 1 (dcd d_m_sizeOf_0 7 rfl) rfl ?_
    refine ws_iload_n 0 (dcd d_m_sizeOf_0 8 rfl) rfl ?_
    refine ws_iload_n 2 (dcd d_m_sizeOf_0 9 rfl) rfl ?_
    refine ws_ishr (dcd d_m_sizeOf_0 10 rfl) ?_
    refine ws_iconst (v := 1) (dcd d_m_sizeOf_0 11 rfl) (by decide) ?_
    refine ws_iand (dcd d_m_sizeOf_0 12 rfl) ?_
    refine ws_iadd (dcd d_m_sizeOf_0 13 rfl) ?_
    refine ws_istore_n (l' := [(1, .int (x1 + ((x0 >>> (x2 &&& 31)) &&& 1))), (0, .int x0), (2, .int x2)]) (dcd d_m_sizeOf_0 14 rfl) (by decide) rfl ?_
    refine ws_iinc (v := 1) (l' := [(2, .int (x2 + 1)), (1, .int (x1 + ((x0 >>> (x2 &&& 31)) &&& 1))), (0, .int x0)]) 2 (dcd d_m_sizeOf_0 15 rfl) rfl (by decide) (by decide) rfl ?_
    refine ws_goto (tgt := 4) (dcd d_m_sizeOf_0 16 rfl) (by decide) ?_
    exact ws_loc [2, 1, 0] rfl h
theorem sg_m_note_0 {x1 : Int32} {x2 : Int32} {x3 : Int32}  (h : (((0 ≤ x1 ∧ x1 ≤ 99) → (((0 ≤ x2 ∧ x2 ≤ (mI u 76 11) - 1) → (((0 ≤ x3 ∧ x3 ≤ (mI u 76 10) - 1) → ((¬ (mI u 76 28) = 12 → (vp_in (3 * (mI u 76 28)) 36 ∧ (vp_in ((3 * (mI (pI u 92 ((3 * (mI u 76 28)) : Int32).toNatClampNeg x1) 76 28)) + 1) 36 ∧ (vp_in ((3 * (mI (pI (pI u 92 ((3 * (mI u 76 28)) : Int32).toNatClampNeg x1) 92 (((3 * (mI (pI u 92 ((3 * (mI u 76 28)) : Int32).toNatClampNeg x1) 76 28)) + 1) : Int32).toNatClampNeg x2) 76 28)) + 2) 36 ∧ Q (some (.int ((mI (pI (pI (pI (pI u 92 ((3 * (mI u 76 28)) : Int32).toNatClampNeg x1) 92 (((3 * (mI (pI u 92 ((3 * (mI u 76 28)) : Int32).toNatClampNeg x1) 76 28)) + 1) : Int32).toNatClampNeg x2) 92 (((3 * (mI (pI (pI u 92 ((3 * (mI u 76 28)) : Int32).toNatClampNeg x1) 92 (((3 * (mI (pI u 92 ((3 * (mI u 76 28)) : Int32).toNatClampNeg x1) 76 28)) + 1) : Int32).toNatClampNeg x2) 76 28)) + 2) : Int32).toNatClampNeg x3) 76 28 ((mI (pI (pI (pI u 92 ((3 * (mI u 76 28)) : Int32).toNatClampNeg x1) 92 (((3 * (mI (pI u 92 ((3 * (mI u 76 28)) : Int32).toNatClampNeg x1) 76 28)) + 1) : Int32).toNatClampNeg x2) 92 (((3 * (mI (pI (pI u 92 ((3 * (mI u 76 28)) : Int32).toNatClampNeg x1) 92 (((3 * (mI (pI u 92 ((3 * (mI u 76 28)) : Int32).toNatClampNeg x1) 76 28)) + 1) : Int32).toNatClampNeg x2) 76 28)) + 2) : Int32).toNatClampNeg x3) 76 28) + 1)) 76 28) - 1))) (pI (pI (pI (pI u 92 ((3 * (mI u 76 28)) : Int32).toNatClampNeg x1) 92 (((3 * (mI (pI u 92 ((3 * (mI u 76 28)) : Int32).toNatClampNeg x1) 76 28)) + 1) : Int32).toNatClampNeg x2) 92 (((3 * (mI (pI (pI u 92 ((3 * (mI u 76 28)) : Int32).toNatClampNeg x1) 92 (((3 * (mI (pI u 92 ((3 * (mI u 76 28)) : Int32).toNatClampNeg x1) 76 28)) + 1) : Int32).toNatClampNeg x2) 76 28)) + 2) : Int32).toNatClampNeg x3) 76 28 ((mI (pI (pI (pI u 92 ((3 * (mI u 76 28)) : Int32).toNatClampNeg x1) 92 (((3 * (mI (pI u 92 ((3 * (mI u 76 28)) : Int32).toNatClampNeg x1) 76 28)) + 1) : Int32).toNatClampNeg x2) 92 (((3 * (mI (pI (pI u 92 ((3 * (mI u 76 28)) : Int32).toNatClampNeg x1) 92 (((3 * (mI (pI u 92 ((3 * (mI u 76 28)) : Int32).toNatClampNeg x1) 76 28)) + 1) : Int32).toNatClampNeg x2) 76 28)) + 2) : Int32).toNatClampNeg x3) 76 28) + 1)))))) ∧ ((mI u 76 28) = 12 → Q (some (.int (-2))) u))) ∧ (¬ (0 ≤ x3 ∧ x3 ≤ (mI u 76 10) - 1) → Q (some (.int (-1))) u))) ∧ (¬ (0 ≤ x2 ∧ x2 ≤ (mI u 76 11) - 1) → Q (some (.int (-1))) u))) ∧ (¬ (0 ≤ x1 ∧ x1 ≤ 99) → Q (some (.int (-1))) u))) : Ws G m_note 0 [(0, .ref 76), (1, .int x1), (2, .int x2), (3, .int x3)] [] u Q := by
  refine ws_iload_n 1 (dcd d_m_note_0 0 rfl) rfl ?_
  refine ws_iconst (v := 0) (dcd d_m_note_0 1 rfl) (by decide) ?_
  refine ws_bipush (v := 99) (dcd d_m_note_0 2 rfl) (by decide) ?_
  refine ws_callSI (As := [.int x1, .int 0, .int 99]) (st := []) (la := [(0, .int x1), (1, .int 0), (2, .int 99)]) (dcd d_m_note_0 3 rfl) cs_m_in k_m_78 ⟨by decide, by decide⟩ rfl (Nat.le_of_ble_eq_true rfl) (Nat.le_of_ble_eq_true rfl) rfl rfl sp_m_in ?_
  rintro _ _ ⟨rfl, ⟨rfl, c1⟩ | ⟨rfl, c1⟩⟩
  · have h := h.1 c1
    refine ws_if_eq (tgt := 26) (dcd d_m_note_0 4 rfl) (by decide) (fun c => absurd c (by decide)) (fun _ => ?_)
    refine ws_aload_n 0 (dcd d_m_note_0 5 rfl) rfl ?_
    refine ws_iload_n 2 (dcd d_m_note_0 6 rfl) rfl ?_
    refine ws_callVI (o := 76) (As := [.int x2]) (st := []) (la := [(0, .ref 76), (1, .int x2)]) (dcd d_m_note_0 7 rfl) cv_m_isShop k_m_171 ⟨by decide, by decide⟩ ok_76 rfl (Nat.le_of_ble_eq_true rfl) (Nat.le_of_ble_eq_true rfl) rfl rfl sp_m_isShop ?_
    rintro _ _ ⟨rfl, ⟨rfl, c3⟩ | ⟨rfl, c3⟩⟩
    · have h := h.1 c3
      refine ws_if_eq (tgt := 26) (dcd d_m_note_0 8 rfl) (by decide) (fun c => absurd c (by decide)) (fun _ => ?_)
      refine ws_aload_n 0 (dcd d_m_note_0 9 rfl) rfl ?_
      refine ws_iload_n 3 (dcd d_m_note_0 10 rfl) rfl ?_
      refine ws_callVI (o := 76) (As := [.int x3]) (st := []) (la := [(0, .ref 76), (1, .int x3)]) (dcd d_m_note_0 11 rfl) cv_m_isDoor k_m_194 ⟨by decide, by decide⟩ ok_76 rfl (Nat.le_of_ble_eq_true rfl) (Nat.le_of_ble_eq_true rfl) rfl rfl sp_m_isDoor ?_
      rintro _ _ ⟨rfl, ⟨rfl, c5⟩ | ⟨rfl, c5⟩⟩
      · have h := h.1 c5
        refine ws_if_ne (tgt := 28) (dcd d_m_note_0 12 rfl) (by decide) (fun _ => ?_) (fun c => absurd c (by decide))
        refine ws_aload_n 0 (dcd d_m_note_0 15 rfl) rfl ?_
        refine ws_getI f_m_168 rfl (dcd d_m_note_0 16 rfl) ok_76 ?_
        refine ws_bipush (v := 12) (dcd d_m_note_0 17 rfl) (by decide) ?_
        refine ws_icmp_ne (tgt := 40) (dcd d_m_note_0 18 rfl) (by decide) (fun c7 => ?_) (fun c7 => ?_)
        · have h := h.1 c7
          refine ws_aload_n 0 (dcd d_m_note_0 21 rfl) rfl ?_
          refine ws_getF (a := 92) f_m_59 rfl (dcd d_m_note_0 22 rfl) ok_76 of_8_27 rfl ?_
          refine ws_iconst (v := 3) (dcd d_m_note_0 23 rfl) (by decide) ?_
          refine ws_aload_n 0 (dcd d_m_note_0 24 rfl) rfl ?_
          refine ws_getI f_m_168 rfl (dcd d_m_note_0 25 rfl) ok_76 ?_
          refine ws_imul (dcd d_m_note_0 26 rfl) ?_
          refine ws_iload_n 1 (dcd d_m_note_0 27 rfl) rfl ?_
          obtain ⟨e8, h⟩ := h
          refine ws_iast (L := 36) (dcd d_m_note_0 28 rfl) (os_8_27 ok_76) (ol_8_27 ok_76) e8 ?_
          refine ws_aload_n 0 (dcd d_m_note_0 29 rfl) rfl ?_
          refine ws_getF (a := 92) f_m_59 rfl (dcd d_m_note_1 0 rfl) ok_76 of_8_27 rfl ?_
          refine ws_iconst (v := 3) (dcd d_m_note_1 1 rfl) (by decide) ?_
          refine ws_aload_n 0 (dcd d_m_note_1 2 rfl) rfl ?_
          refine ws_getI f_m_168 rfl (dcd d_m_note_1 3 rfl) ok_76 ?_
          refine ws_imul (dcd d_m_note_1 4 rfl) ?_
          refine ws_iconst (v := 1) (dcd d_m_note_1 5 rfl) (by decide) ?_
          refine ws_iadd (dcd d_m_note_1 6 rfl) ?_
          refine ws_iload_n 2 (dcd d_m_note_1 7 rfl) rfl ?_
          obtain ⟨e9, h⟩ := h
          refine ws_iast (L := 36) (dcd d_m_note_1 8 rfl) (os_8_27 ok_76) (ol_8_27 ok_76) e9 ?_
          refine ws_aload_n 0 (dcd d_m_note_1 9 rfl) rfl ?_
          refine ws_getF (a := 92) f_m_59 rfl (dcd d_m_note_1 10 rfl) ok_76 of_8_27 rfl ?_
          refine ws_iconst (v := 3) (dcd d_m_note_1 11 rfl) (by decide) ?_
          refine ws_aload_n 0 (dcd d_m_note_1 12 rfl) rfl ?_
          refine ws_getI f_m_168 rfl (dcd d_m_note_1 13 rfl) ok_76 ?_
          refine ws_imul (dcd d_m_note_1 14 rfl) ?_
          refine ws_iconst (v := 2) (dcd d_m_note_1 15 rfl) (by decide) ?_
          refine ws_iadd (dcd d_m_note_1 16 rfl) ?_
          refine ws_iload_n 3 (dcd d_m_note_1 17 rfl) rfl ?_
          obtain ⟨e10, h⟩ := h
          refine ws_iast (L := 36) (dcd d_m_note_1 18 rfl) (os_8_27 ok_76) (ol_8_27 ok_76) e10 ?_
          refine ws_aload_n 0 (dcd d_m_note_1 19 rfl) rfl ?_
          refine ws_dup (dcd d_m_note_1 20 rfl) rfl ?_
          refine ws_getI f_m_168 rfl (dcd d_m_note_1 21 rfl) ok_76 ?_
          refine ws_iconst (v := 1) (dcd d_m_note_1 22 rfl) (by decide) ?_
          refine ws_iadd (dcd d_m_note_1 23 rfl) ?_
          refine ws_putI f_m_168 rfl nf_8_28 (dcd d_m_note_1 24 rfl) ok_76 ?_
          refine ws_aload_n 0 (dcd d_m_note_1 25 rfl) rfl ?_
          refine ws_getI f_m_168 rfl (dcd d_m_note_1 26 rfl) ok_76 ?_
          refine ws_iconst (v := 1) (dcd d_m_note_1 27 rfl) (by decide) ?_
          refine ws_isub (dcd d_m_note_1 28 rfl) ?_
          exact ws_iret (dcd d_m_note_1 29 rfl) ⟨_, rfl, rfl⟩ h
        · have h := h.2 c7
          refine ws_bipush (v := (-2)) (dcd d_m_note_0 19 rfl) (by decide) ?_
          exact ws_iret (dcd d_m_note_0 20 rfl) ⟨_, rfl, rfl⟩ h
      · have h := h.2 c5
        refine ws_if_ne (tgt := 28) (dcd d_m_note_0 12 rfl) (by decide) (fun c => absurd (show (0 : Int32) = 0 from by decide) c) (fun _ => ?_)
        refine ws_iconst (v := (-1)) (dcd d_m_note_0 13 rfl) (by decide) ?_
        exact ws_iret (dcd d_m_note_0 14 rfl) ⟨_, rfl, rfl⟩ h
    · have h := h.2 c3
      refine ws_if_eq (tgt := 26) (dcd d_m_note_0 8 rfl) (by decide) (fun _ => ?_) (fun c => absurd (show (0 : Int32) = 0 from by decide) c)
      refine ws_iconst (v := (-1)) (dcd d_m_note_0 13 rfl) (by decide) ?_
      exact ws_iret (dcd d_m_note_0 14 rfl) ⟨_, rfl, rfl⟩ h
  · have h := h.2 c1
    refine ws_if_eq (tgt := 26) (dcd d_m_note_0 4 rfl) (by decide) (fun _ => ?_) (fun c => absurd (show (0 : Int32) = 0 from by decide) c)
    refine ws_iconst (v := (-1)) (dcd d_m_note_0 13 rfl) (by decide) ?_
    exact ws_iret (dcd d_m_note_0 14 rfl) ⟨_, rfl, rfl⟩ h
theorem sg_m_back_0 {x1 : Int32}  (h : (((0 ≤ x1 ∧ x1 ≤ (mI u 76 28)) → Q (some (.int ((mI u 76 28) - x1))) (pI u 76 28 x1)) ∧ (¬ (0 ≤ x1 ∧ x1 ≤ (mI u 76 28)) → Q (some (.int (-1))) u))) : Ws G m_back 0 [(0, .ref 76), (1, .int x1)] [] u Q := by
  refine ws_iload_n 1 (dcd d_m_back_0 0 rfl) rfl ?_
  refine ws_iconst (v := 0) (dcd d_m_back_0 1 rfl) (by decide) ?_
  refine ws_aload_n 0 (dcd d_m_back_0 2 rfl) rfl ?_
  refine ws_getI f_m_168 rfl (dcd d_m_back_0 3 rfl) ok_76 ?_
  refine ws_callSI (As := [.int x1, .int 0, .int (mI u 76 28)]) (st := []) (la := [(0, .int x1), (1, .int 0), (2, .int (mI u 76 28))]) (dcd d_m_back_0 4 rfl) cs_m_in k_m_78 ⟨by decide, by decide⟩ rfl (Nat.le_of_ble_eq_true rfl) (Nat.le_of_ble_eq_true rfl) rfl rfl sp_m_in ?_
  rintro _ _ ⟨rfl, ⟨rfl, c1⟩ | ⟨rfl, c1⟩⟩
  · have h := h.1 c1
    refine ws_if_ne (tgt := 14) (dcd d_m_back_0 5 rfl) (by decide) (fun _ => ?_) (fun c => absurd c (by decide))
    refine ws_aload_n 0 (dcd d_m_back_0 8 rfl) rfl ?_
    refine ws_getI f_m_168 rfl (dcd d_m_back_0 9 rfl) ok_76 ?_
    refine ws_iload_n 1 (dcd d_m_back_0 10 rfl) rfl ?_
    refine ws_isub (dcd d_m_back_0 11 rfl) ?_
    refine ws_istore_n (l' := [(2, .int ((mI u 76 28) - x1)), (0, .ref 76), (1, .int x1)]) (dcd d_m_back_0 12 rfl) (by decide) rfl ?_
    refine ws_aload_n 1 (dcd d_m_back_0 13 rfl) rfl ?_
    refine ws_iload_n 2 (dcd d_m_back_0 14 rfl) rfl ?_
    refine ws_putI f_m_168 rfl nf_8_28 (dcd d_m_back_0 15 rfl) ok_76 ?_
    refine ws_iload_n 0 (dcd d_m_back_0 16 rfl) rfl ?_
    exact ws_iret (dcd d_m_back_0 17 rfl) ⟨_, rfl, rfl⟩ h
  · have h := h.2 c1
    refine ws_if_ne (tgt := 14) (dcd d_m_back_0 5 rfl) (by decide) (fun c => absurd (show (0 : Int32) = 0 from by decide) c) (fun _ => ?_)
    refine ws_iconst (v := (-1)) (dcd d_m_back_0 6 rfl) (by decide) ?_
    exact ws_iret (dcd d_m_back_0 7 rfl) ⟨_, rfl, rfl⟩ h
end SEG
