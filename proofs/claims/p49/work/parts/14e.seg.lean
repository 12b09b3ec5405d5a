section SEG
variable {G : pG} {u : pM} {Q : Option Value → pM → Prop}
theorem sg_D_dearest_0 {x1 : Int32} {x2 : Int32}  (h : (((0 ≤ x1 ∧ x1 < 6) → (((1 ≤ x2 ∧ x2 ≤ 60) → Ws G D_passersFinding 0 [(0, .ref 2), (1, .ref (roV x1))] [] u (RI fun a5 u5 => ((a5 = 0 → Ws G D_dearest 53 [(0, .ref 2), (2, .int x2), (3, .ref (roV x1)), (5, .int 0), (6, .int 0), (7, .int 0), (8, .int 0)] [] u5 Q) ∧ (¬ a5 = 0 → Q (some (.int (-3))) (dF u5 a5))))) ∧ (¬ (1 ≤ x2 ∧ x2 ≤ 60) → Q (some (.int (-1))) u))) ∧ (¬ (0 ≤ x1 ∧ x1 < 6) → Q (some (.int (-1))) u))) : Ws G D_dearest 0 [(0, .ref 2), (1, .int x1), (2, .int x2)] [] u Q := by
  refine ws_iload_n 1 (dcd d_D_dearest_0 0 rfl) rfl ?_
  refine ws_callSI (As := [.int x1]) (st := []) (la := [(0, .int x1)]) (dcd d_D_dearest_0 1 rfl) cs_D_isRow k_D_87 ⟨by decide, by decide⟩ rfl (Nat.le_of_ble_eq_true rfl) (Nat.le_of_ble_eq_true rfl) rfl rfl sp_D_isRow ?_
  rintro _ _ ⟨rfl, ⟨rfl, c1⟩ | ⟨rfl, c1⟩⟩
  · have h := h.1 c1
    refine ws_if_eq (tgt := 14) (dcd d_D_dearest_0 2 rfl) (by decide) (fun c => absurd c (by decide)) (fun _ => ?_)
    refine ws_iload_n 2 (dcd d_D_dearest_0 3 rfl) rfl ?_
    refine ws_callSI (As := [.int x2]) (st := []) (la := [(0, .int x2)]) (dcd d_D_dearest_0 4 rfl) cs_D_isLook k_D_305 ⟨by decide, by decide⟩ rfl (Nat.le_of_ble_eq_true rfl) (Nat.le_of_ble_eq_true rfl) rfl rfl sp_D_isLook ?_
    rintro _ _ ⟨rfl, ⟨rfl, c3⟩ | ⟨rfl, c3⟩⟩
    · have h := h.1 c3
      refine ws_if_ne (tgt := 16) (dcd d_D_dearest_0 5 rfl) (by decide) (fun _ => ?_) (fun c => absurd c (by decide))
      refine ws_aload_n 0 (dcd d_D_dearest_0 8 rfl) rfl ?_
      refine ws_iload_n 1 (dcd d_D_dearest_0 9 rfl) rfl ?_
      refine ws_callVR (o := 2) (As := [.int x1]) (st := []) (la := [(0, .ref 2), (1, .int x1)]) (dcd d_D_dearest_0 10 rfl) cv_D_rowOf k_D_95 ⟨by decide, by decide⟩ ok_2 rfl (Nat.le_of_ble_eq_true rfl) (Nat.le_of_ble_eq_true rfl) rfl rfl sp_D_rowOf ?_
      rintro _ _ ⟨rfl, rfl⟩
      refine ws_astore_n (l' := [(3, .ref (roV x1)), (0, .ref 2), (1, .int x1), (2, .int x2)]) (dcd d_D_dearest_0 11 rfl) (by decide) rfl ?_
      refine ws_aload_n 1 (dcd d_D_dearest_0 12 rfl) rfl ?_
      refine ws_aload_n 0 (dcd d_D_dearest_0 13 rfl) rfl ?_
      refine ws_callVI (o := 2) (As := [.ref (roV x1)]) (st := []) (la := [(0, .ref 2), (1, .ref (roV x1))]) (dcd d_D_dearest_0 14 rfl) cv_D_passersFinding k_D_308 ⟨by decide, by decide⟩ ok_2 rfl (Nat.le_of_ble_eq_true rfl) (Nat.le_of_ble_eq_true rfl) rfl rfl h (fun a5 u5 h => ?_)
      refine ws_istore (l' := [(4, .int a5), (3, .ref (roV x1)), (0, .ref 2), (1, .int x1), (2, .int x2)]) (dcd d_D_dearest_0 15 rfl) (by decide) rfl ?_
      refine ws_iload 0 (dcd d_D_dearest_0 16 rfl) rfl ?_
      refine ws_if_eq (tgt := 41) (dcd d_D_dearest_0 17 rfl) (by decide) (fun c6 => ?_) (fun c6 => ?_)
      · have h := h.1 c6
        refine ws_iconst (v := 0) (dcd d_D_dearest_0 22 rfl) (by decide) ?_
        refine ws_istore (l' := [(5, .int 0), (4, .int a5), (3, .ref (roV x1)), (0, .ref 2), (1, .int x1), (2, .int x2)]) (dcd d_D_dearest_0 23 rfl) (by decide) rfl ?_
        refine ws_iconst (v := 0) (dcd d_D_dearest_0 24 rfl) (by decide) ?_
        refine ws_istore (l' := [(6, .int 0), (5, .int 0), (4, .int a5), (3, .ref (roV x1)), (0, .ref 2), (1, .int x1), (2, .int x2)]) (dcd d_D_dearest_0 25 rfl) (by decide) rfl ?_
        refine ws_iconst (v := 0) (dcd d_D_dearest_0 26 rfl) (by decide) ?_
        refine ws_istore (l' := [(7, .int 0), (6, .int 0), (5, .int 0), (4, .int a5), (3, .ref (roV x1)), (0, .ref 2), (1, .int x1), (2, .int x2)]) (dcd d_D_dearest_0 27 rfl) (by decide) rfl ?_
        refine ws_iconst (v := 0) (dcd d_D_dearest_0 28 rfl) (by decide) ?_
        refine ws_istore (l' := [(8, .int 0), (7, .int 0), (6, .int 0), (5, .int 0), (4, .int a5), (3, .ref (roV x1)), (0, .ref 2), (1, .int x1), (2, .int x2)]) (dcd d_D_dearest_0 29 rfl) (by decide) rfl ?_
        exact ws_loc [6, 8, 5, 3, 2, 1, 0] rfl h
      · have h := h.2 c6
        refine ws_aload_n 2 (dcd d_D_dearest_0 18 rfl) rfl ?_
        refine ws_iload 0 (dcd d_D_dearest_0 19 rfl) rfl ?_
        refine ws_callVI (o := 2) (As := [.int a5]) (st := []) (la := [(0, .ref 2), (1, .int a5)]) (dcd d_D_dearest_0 20 rfl) cv_D_found k_D_91 ⟨by decide, by decide⟩ ok_2 rfl (Nat.le_of_ble_eq_true rfl) (Nat.le_of_ble_eq_true rfl) rfl rfl sp_D_found ?_
        rintro _ _ ⟨rfl, rfl⟩
        exact ws_iret (dcd d_D_dearest_0 21 rfl) ⟨_, rfl, rfl⟩ h
    · have h := h.2 c3
      refine ws_if_ne (tgt := 16) (dcd d_D_dearest_0 5 rfl) (by decide) (fun c => absurd (show (0 : Int32) = 0 from by decide) c) (fun _ => ?_)
      refine ws_iconst (v := (-1)) (dcd d_D_dearest_0 6 rfl) (by decide) ?_
      exact ws_iret (dcd d_D_dearest_0 7 rfl) ⟨_, rfl, rfl⟩ h
  · have h := h.2 c1
    refine ws_if_eq (tgt := 14) (dcd d_D_dearest_0 2 rfl) (by decide) (fun _ => ?_) (fun c => absurd (show (0 : Int32) = 0 from by decide) c)
    refine ws_iconst (v := (-1)) (dcd d_D_dearest_0 6 rfl) (by decide) ?_
    exact ws_iret (dcd d_D_dearest_0 7 rfl) ⟨_, rfl, rfl⟩ h
theorem sg_D_dearest_53 {x2 : Int32} {o3 : Nat} {x5 : Int32} {x6 : Int32} {x7 : Int32} {x8 : Int32} (k3 : okS o3 6) (h : (pl (mR u 2 10) → (((mI u (mR u 2 10) 1) ≤ x8 → ((¬ x7 = 0 → Ws G D_tellFraction 0 [(0, .ref 2), (1, .long (x6 : Int32).toInt64), (3, .long (x7 : Int32).toInt64)] [] u (RV fun u4 => Q (some (.int x5)) u4)) ∧ (x7 = 0 → Q (some (.int (-3))) (dF u 4)))) ∧ (¬ ((mI u (mR u 2 10) 1) ≤ x8) → Ws G D_rentOf 0 [(0, .ref 2), (1, .ref o3), (2, .int x8), (3, .int x2)] [] u (RI fun a5 u5 => ((a5 ≤ x6 → Ws G D_dearest 53 [(0, .ref 2), (2, .int x2), (3, .ref o3), (5, .int x5), (6, .int x6), (7, .int (x7 + a5)), (8, .int (x8 + 1))] [] u5 Q) ∧ (¬ (a5 ≤ x6) → Ws G D_dearest 53 [(0, .ref 2), (2, .int x2), (3, .ref o3), (5, .int x8), (6, .int a5), (7, .int (x7 + a5)), (8, .int (x8 + 1))] [] u5 Q))))))) : Ws G D_dearest 53 [(0, .ref 2), (2, .int x2), (3, .ref o3), (5, .int x5), (6, .int x6), (7, .int x7), (8, .int x8)] [] u Q := by
  refine ws_iload 6 (dcd d_D_dearest_1 0 rfl) rfl ?_
  refine ws_aload_n 0 (dcd d_D_dearest_1 1 rfl) rfl ?_
  refine ws_getP (by decide) f_D_63 (dcd d_D_dearest_1 2 rfl) (fun j1 => ?_)
  have h := h j1
  refine ws_getI f_D_163 rfl (dcd d_D_dearest_1 3 rfl) (pl_ok j1) ?_
  refine ws_icmp_ge (tgt := 103) (dcd d_D_dearest_1 4 rfl) (by decide) (fun c2 => ?_) (fun c2 => ?_)
  · have h := h.1 c2
    refine ws_iload 5 (dcd d_D_dearest_1 24 rfl) rfl ?_
    refine ws_if_ne (tgt := 114) (dcd d_D_dearest_1 25 rfl) (by decide) (fun c3 => ?_) (fun c3 => ?_)
    · have h := h.1 c3
      refine ws_aload_n 0 (dcd d_D_dearest_2 0 rfl) rfl ?_
      refine ws_iload 4 (dcd d_D_dearest_2 1 rfl) rfl ?_
      refine ws_i2l (dcd d_D_dearest_2 2 rfl) ?_
      refine ws_iload 5 (dcd d_D_dearest_2 3 rfl) rfl ?_
      refine ws_i2l (dcd d_D_dearest_2 4 rfl) ?_
      refine ws_callVV (o := 2) (As := [.long (x6 : Int32).toInt64, .long (x7 : Int32).toInt64]) (st := []) (la := [(0, .ref 2), (1, .long (x6 : Int32).toInt64), (3, .long (x7 : Int32).toInt64)]) (dcd d_D_dearest_2 5 rfl) cv_D_tellFraction k_D_315 ⟨by decide, by decide⟩ ok_2 rfl (Nat.le_of_ble_eq_true rfl) (Nat.le_of_ble_eq_true rfl) rfl rfl h (fun u4 h => ?_)
      refine ws_iload 3 (dcd d_D_dearest_2 6 rfl) rfl ?_
      exact ws_iret (dcd d_D_dearest_2 7 rfl) ⟨_, rfl, rfl⟩ h
    · have h := h.2 c3
      refine ws_aload_n 0 (dcd d_D_dearest_1 26 rfl) rfl ?_
      refine ws_iconst (v := 4) (dcd d_D_dearest_1 27 rfl) (by decide) ?_
      refine ws_callVI (o := 2) (As := [.int 4]) (st := []) (la := [(0, .ref 2), (1, .int 4)]) (dcd d_D_dearest_1 28 rfl) cv_D_found k_D_91 ⟨by decide, by decide⟩ ok_2 rfl (Nat.le_of_ble_eq_true rfl) (Nat.le_of_ble_eq_true rfl) rfl rfl sp_D_found ?_
      rintro _ _ ⟨rfl, rfl⟩
      exact ws_iret (dcd d_D_dearest_1 29 rfl) ⟨_, rfl, rfl⟩ h
  · have h := h.2 c2
    refine ws_aload_n 0 (dcd d_D_dearest_1 5 rfl) rfl ?_
    refine ws_aload_n 2 (dcd d_D_dearest_1 6 rfl) rfl ?_
    refine ws_iload 6 (dcd d_D_dearest_1 7 rfl) rfl ?_
    refine ws_iload_n 1 (dcd d_D_dearest_1 8 rfl) rfl ?_
    refine ws_callVI (o := 2) (As := [.ref o3, .int x8, .int x2]) (st := []) (la := [(0, .ref 2), (1, .ref o3), (2, .int x8), (3, .int x2)]) (dcd d_D_dearest_1 9 rfl) cv_D_rentOf k_D_311 ⟨by decide, by decide⟩ ok_2 rfl (Nat.le_of_ble_eq_true rfl) (Nat.le_of_ble_eq_true rfl) rfl rfl h (fun a5 u5 h => ?_)
    refine ws_istore (l' := [(9, .int a5), (0, .ref 2), (2, .int x2), (3, .ref o3), (5, .int x5), (6, .int x6), (7, .int x7), (8, .int x8)]) (dcd d_D_dearest_1 10 rfl) (by decide) rfl ?_
    refine ws_iload 6 (dcd d_D_dearest_1 11 rfl) rfl ?_
    refine ws_iload 0 (dcd d_D_dearest_1 12 rfl) rfl ?_
    refine ws_iadd (dcd d_D_dearest_1 13 rfl) ?_
    refine ws_istore (l' := [(7, .int (x7 + a5)), (9, .int a5), (0, .ref 2), (2, .int x2), (3, .ref o3), (5, .int x5), (6, .int x6), (8, .int x8)]) (dcd d_D_dearest_1 14 rfl) (by decide) rfl ?_
    refine ws_iload 1 (dcd d_D_dearest_1 15 rfl) rfl ?_
    refine ws_iload 6 (dcd d_D_dearest_1 16 rfl) rfl ?_
    refine ws_icmp_le (tgt := 97) (dcd d_D_dearest_1 17 rfl) (by decide) (fun c6 => ?_) (fun c6 => ?_)
    · have h := h.1 c6
      refine ws_iinc (v := 1) (l' := [(8, .int (x8 + 1)), (7, .int (x7 + a5)), (9, .int a5), (0, .ref 2), (2, .int x2), (3, .ref o3), (5, .int x5), (6, .int x6)]) 7 (dcd d_D_dearest_1 22 rfl) rfl (by decide) (by decide) rfl ?_
      refine ws_goto (tgt := 53) (dcd d_D_dearest_1 23 rfl) (by decide) ?_
      exact ws_loc [3, 4, 5, 6, 7, 1, 0] rfl h
    · have h := h.2 c6
      refine ws_iload 1 (dcd d_D_dearest_1 18 rfl) rfl ?_
      refine ws_istore (l' := [(6, .int a5), (7, .int (x7 + a5)), (9, .int a5), (0, .ref 2), (2, .int x2), (3, .ref o3), (5, .int x5), (8, .int x8)]) (dcd d_D_dearest_1 19 rfl) (by decide) rfl ?_
      refine ws_iload 7 (dcd d_D_dearest_1 20 rfl) rfl ?_
      refine ws_istore (l' := [(5, .int x8), (6, .int a5), (7, .int (x7 + a5)), (9, .int a5), (0, .ref 2), (2, .int x2), (3, .ref o3), (8, .int x8)]) (dcd d_D_dearest_1 21 rfl) (by decide) rfl ?_
      refine ws_iinc (v := 1) (l' := [(8, .int (x8 + 1)), (5, .int x8), (6, .int a5), (7, .int (x7 + a5)), (9, .int a5), (0, .ref 2), (2, .int x2), (3, .ref o3)]) 7 (dcd d_D_dearest_1 22 rfl) rfl (by decide) (by decide) rfl ?_
      refine ws_goto (tgt := 53) (dcd d_D_dearest_1 23 rfl) (by decide) ?_
      exact ws_loc [5, 6, 7, 1, 2, 3, 0] rfl h
theorem sg_D_tellFraction_0 {x1 : Int64} {x3 : Int64}  (h : Ws G D_greatestCommon 0 [(0, .long x1), (2, .long x3)] [] u (RJ fun a1 u1 => (((lg_cmp a1 0) ≤ 0 → Q none u1) ∧ (¬ ((lg_cmp a1 0) ≤ 0) → (¬ a1 = 0 ∧ (¬ a1 = 0 ∧ Q none (pL (pL u1 2 13 (x1 / a1)) 2 14 (x3 / a1)))))))) : Ws G D_tellFraction 0 [(0, .ref 2), (1, .long x1), (3, .long x3)] [] u Q := by
  refine ws_lload_n 1 (dcd d_D_tellFraction_0 0 rfl) rfl ?_
  refine ws_lload_n 2 (dcd d_D_tellFraction_0 1 rfl) rfl ?_
  refine ws_callSJ (As := [.long x1, .long x3]) (st := []) (la := [(0, .long x1), (2, .long x3)]) (dcd d_D_tellFraction_0 2 rfl) cs_D_greatestCommon k_D_337 ⟨by decide, by decide⟩ rfl (Nat.le_of_ble_eq_true rfl) (Nat.le_of_ble_eq_true rfl) rfl rfl h (fun a1 u1 h => ?_)
  refine ws_lstore (l' := [(5, .long a1), (0, .ref 2), (1, .long x1), (3, .long x3)]) (dcd d_D_tellFraction_0 3 rfl) (by decide) rfl ?_
  refine ws_lload 0 (dcd d_D_tellFraction_0 4 rfl) rfl ?_
  refine ws_lconst (v := 0) (dcd d_D_tellFraction_0 5 rfl) (by decide) ?_
  refine ws_lcmp (dcd d_D_tellFraction_0 6 rfl) ?_
  refine ws_if_le (tgt := 30) (dcd d_D_tellFraction_0 7 rfl) (by decide) (fun c2 => ?_) (fun c2 => ?_)
  · have h := h.1 c2
    exact ws_vret (dcd d_D_tellFraction_0 18 rfl) rfl h
  · have h := h.2 c2
    refine ws_aload_n 1 (dcd d_D_tellFraction_0 8 rfl) rfl ?_
    refine ws_lload_n 2 (dcd d_D_tellFraction_0 9 rfl) rfl ?_
    refine ws_lload 0 (dcd d_D_tellFraction_0 10 rfl) rfl ?_
    obtain ⟨e3, h⟩ := h
    refine ws_ldiv (dcd d_D_tellFraction_0 11 rfl) e3 ?_
    refine ws_putL f_D_74 rfl nf_7_13 (dcd d_D_tellFraction_0 12 rfl) ok_2 ?_
    refine ws_aload_n 1 (dcd d_D_tellFraction_0 13 rfl) rfl ?_
    refine ws_lload_n 3 (dcd d_D_tellFraction_0 14 rfl) rfl ?_
    refine ws_lload 0 (dcd d_D_tellFraction_0 15 rfl) rfl ?_
    obtain ⟨e4, h⟩ := h
    refine ws_ldiv (dcd d_D_tellFraction_0 16 rfl) e4 ?_
    refine ws_putL f_D_78 rfl nf_7_14 (dcd d_D_tellFraction_0 17 rfl) ok_2 ?_
    exact ws_vret (dcd d_D_tellFraction_0 18 rfl) rfl h
theorem sg_D_mends_0 {x1 : Int32} {x2 : Int32}  (h : (pl (mR u 2 10) → (((0 ≤ x1 ∧ x1 < (mI u (mR u 2 10) 0)) → (((1 ≤ x2 ∧ x2 ≤ 60) → (((isI (mI u 7 1) x1) → Q (some (.int (-4))) u) ∧ (¬ (isI (mI u 7 1) x1) → (((bcV (mI u 7 1)) < 3 → Ws G D_mends 94 [(0, .ref 2), (2, .int x2), (3, .int (-9)), (4, .int 0), (5, .int 1)] [] (pI (snB (snB u 10 7) 12 7) 12 1 ((mI (snB (snB u 10 7) 12 7) 12 1) ||| (1 <<< (x1 &&& 31)))) Q) ∧ (¬ ((bcV (mI u 7 1)) < 3) → Q (some (.int (-2))) u))))) ∧ (¬ (1 ≤ x2 ∧ x2 ≤ 60) → Q (some (.int (-1))) u))) ∧ (¬ (0 ≤ x1 ∧ x1 < (mI u (mR u 2 10) 0)) → Q (some (.int (-1))) u)))) : Ws G D_mends 0 [(0, .ref 2), (1, .int x1), (2, .int x2)] [] u Q := by
  refine ws_aload_n 0 (dcd d_D_mends_0 0 rfl) rfl ?_
  refine ws_getP (by decide) f_D_63 (dcd d_D_mends_0 1 rfl) (fun j1 => ?_)
  have h := h j1
  refine ws_iload_n 1 (dcd d_D_mends_0 2 rfl) rfl ?_
  refine ws_callVI (o := (mR u 2 10)) (As := [.int x1]) (st := []) (la := [(0, .ref (mR u 2 10)), (1, .int x1)]) (dcd d_D_mends_0 3 rfl) cv_Pl_hasDoor k_D_198 ⟨by decide, by decide⟩ (pl_ok j1) rfl (Nat.le_of_ble_eq_true rfl) (Nat.le_of_ble_eq_true rfl) rfl rfl (sp_Pl_hasDoor (pl_ok j1)) ?_
  rintro _ _ ⟨rfl, ⟨rfl, c2⟩ | ⟨rfl, c2⟩⟩
  · have h := h.1 c2
    refine ws_if_eq (tgt := 18) (dcd d_D_mends_0 4 rfl) (by decide) (fun c => absurd c (by decide)) (fun _ => ?_)
    refine ws_iload_n 2 (dcd d_D_mends_0 5 rfl) rfl ?_
    refine ws_callSI (As := [.int x2]) (st := []) (la := [(0, .int x2)]) (dcd d_D_mends_0 6 rfl) cs_D_isLook k_D_305 ⟨by decide, by decide⟩ rfl (Nat.le_of_ble_eq_true rfl) (Nat.le_of_ble_eq_true rfl) rfl rfl sp_D_isLook ?_
    rintro _ _ ⟨rfl, ⟨rfl, c4⟩ | ⟨rfl, c4⟩⟩
    · have h := h.1 c4
      refine ws_if_ne (tgt := 20) (dcd d_D_mends_0 7 rfl) (by decide) (fun _ => ?_) (fun c => absurd c (by decide))
      refine ws_aload_n 0 (dcd d_D_mends_0 10 rfl) rfl ?_
      refine ws_getF (a := 7) f_D_28 rfl (dcd d_D_mends_0 11 rfl) ok_2 of_7_3 rfl ?_
      refine ws_iload_n 1 (dcd d_D_mends_0 12 rfl) rfl ?_
      refine ws_callVI (o := 7) (As := [.int x1]) (st := []) (la := [(0, .ref 7), (1, .int x1)]) (dcd d_D_mends_0 13 rfl) cv_Sn_isShut k_D_201 ⟨by decide, by decide⟩ (os_7_3 ok_2) rfl (Nat.le_of_ble_eq_true rfl) (Nat.le_of_ble_eq_true rfl) rfl rfl (sp_Sn_isShut (os_7_3 ok_2)) ?_
      rintro _ _ ⟨rfl, ⟨rfl, c6⟩ | ⟨rfl, c6⟩⟩
      · have h := h.1 c6
        refine ws_if_eq (tgt := 34) (dcd d_D_mends_0 14 rfl) (by decide) (fun c => absurd c (by decide)) (fun _ => ?_)
        refine ws_bipush (v := (-4)) (dcd d_D_mends_0 15 rfl) (by decide) ?_
        exact ws_iret (dcd d_D_mends_0 16 rfl) ⟨_, rfl, rfl⟩ h
      · have h := h.2 c6
        refine ws_if_eq (tgt := 34) (dcd d_D_mends_0 14 rfl) (by decide) (fun _ => ?_) (fun c => absurd (show (0 : Int32) = 0 from by decide) c)
        refine ws_aload_n 0 (dcd d_D_mends_0 17 rfl) rfl ?_
        refine ws_getF (a := 7) f_D_28 rfl (dcd d_D_mends_0 18 rfl) ok_2 of_7_3 rfl ?_
        refine ws_callVI (o := 7) (As := []) (st := []) (la := [(0, .ref 7)]) (dcd d_D_mends_0 19 rfl) cv_Sn_shutCount k_D_204 ⟨by decide, by decide⟩ (os_7_3 ok_2) rfl (Nat.le_of_ble_eq_true rfl) (Nat.le_of_ble_eq_true rfl) rfl rfl (sp_Sn_shutCount (os_7_3 ok_2)) ?_
        rintro _ _ ⟨rfl, rfl⟩
        refine ws_iconst (v := 3) (dcd d_D_mends_0 20 rfl) (by decide) ?_
        refine ws_icmp_lt (tgt := 48) (dcd d_D_mends_0 21 rfl) (by decide) (fun c9 => ?_) (fun c9 => ?_)
        · have h := h.1 c9
          refine ws_bipush (v := (-9)) (dcd d_D_mends_0 24 rfl) (by decide) ?_
          refine ws_istore_n (l' := [(3, .int (-9)), (0, .ref 2), (1, .int x1), (2, .int x2)]) (dcd d_D_mends_0 25 rfl) (by decide) rfl ?_
          refine ws_iconst (v := 0) (dcd d_D_mends_0 26 rfl) (by decide) ?_
          refine ws_istore (l' := [(4, .int 0), (3, .int (-9)), (0, .ref 2), (1, .int x1), (2, .int x2)]) (dcd d_D_mends_0 27 rfl) (by decide) rfl ?_
          refine ws_aload_n 2 (dcd d_D_mends_0 28 rfl) rfl ?_
          refine ws_getF (a := 10) f_D_36 rfl (dcd d_D_mends_0 29 rfl) ok_2 of_7_5 rfl ?_
          refine ws_aload_n 2 (dcd d_D_mends_1 0 rfl) rfl ?_
          refine ws_getF (a := 7) f_D_28 rfl (dcd d_D_mends_1 1 rfl) ok_2 of_7_3 rfl ?_
          refine ws_callVV (o := 10) (As := [.ref 7]) (st := []) (la := [(0, .ref 10), (1, .ref 7)]) (dcd d_D_mends_1 2 rfl) cv_Sn_become k_D_220 ⟨by decide, by decide⟩ (os_7_5 ok_2) rfl (Nat.le_of_ble_eq_true rfl) (Nat.le_of_ble_eq_true rfl) rfl rfl (sp_Sn_become (os_7_5 ok_2) (os_7_3 ok_2)) ?_
          rintro _ rfl
          refine ws_aload_n 2 (dcd d_D_mends_1 3 rfl) rfl ?_
          refine ws_getF (a := 12) f_D_39 rfl (dcd d_D_mends_1 4 rfl) ok_2 of_7_6 rfl ?_
          refine ws_aload_n 2 (dcd d_D_mends_1 5 rfl) rfl ?_
          refine ws_getF (a := 7) f_D_28 rfl (dcd d_D_mends_1 6 rfl) ok_2 of_7_3 rfl ?_
          refine ws_callVV (o := 12) (As := [.ref 7]) (st := []) (la := [(0, .ref 12), (1, .ref 7)]) (dcd d_D_mends_1 7 rfl) cv_Sn_become k_D_220 ⟨by decide, by decide⟩ (os_7_6 ok_2) rfl (Nat.le_of_ble_eq_true rfl) (Nat.le_of_ble_eq_true rfl) rfl rfl (sp_Sn_become (os_7_6 ok_2) (os_7_3 ok_2)) ?_
          rintro _ rfl
          refine ws_aload_n 2 (dcd d_D_mends_1 8 rfl) rfl ?_
          refine ws_getF (a := 12) f_D_39 rfl (dcd d_D_mends_1 9 rfl) ok_2 of_7_6 rfl ?_
          refine ws_dup (dcd d_D_mends_1 10 rfl) rfl ?_
          refine ws_getI f_D_208 rfl (dcd d_D_mends_1 11 rfl) (os_7_6 ok_2) ?_
          refine ws_iconst (v := 1) (dcd d_D_mends_1 12 rfl) (by decide) ?_
          refine ws_iload_n 3 (dcd d_D_mends_1 13 rfl) rfl ?_
          refine ws_ishl (dcd d_D_mends_1 14 rfl) ?_
          refine ws_ior (dcd d_D_mends_1 15 rfl) ?_
          refine ws_putI f_D_208 rfl nf_5_1 (dcd d_D_mends_1 16 rfl) (os_7_6 ok_2) ?_
          refine ws_iconst (v := 1) (dcd d_D_mends_1 17 rfl) (by decide) ?_
          refine ws_istore (l' := [(5, .int 1), (4, .int 0), (3, .int (-9)), (0, .ref 2), (1, .int x1), (2, .int x2)]) (dcd d_D_mends_1 18 rfl) (by decide) rfl ?_
          exact ws_loc [3, 5, 2, 1, 0] rfl h
        · have h := h.2 c9
          refine ws_bipush (v := (-2)) (dcd d_D_mends_0 22 rfl) (by decide) ?_
          exact ws_iret (dcd d_D_mends_0 23 rfl) ⟨_, rfl, rfl⟩ h
    · have h := h.2 c4
      refine ws_if_ne (tgt := 20) (dcd d_D_mends_0 7 rfl) (by decide) (fun c => absurd (show (0 : Int32) = 0 from by decide) c) (fun _ => ?_)
      refine ws_iconst (v := (-1)) (dcd d_D_mends_0 8 rfl) (by decide) ?_
      exact ws_iret (dcd d_D_mends_0 9 rfl) ⟨_, rfl, rfl⟩ h
  · have h := h.2 c2
    refine ws_if_eq (tgt := 18) (dcd d_D_mends_0 4 rfl) (by decide) (fun _ => ?_) (fun c => absurd (show (0 : Int32) = 0 from by decide) c)
    refine ws_iconst (v := (-1)) (dcd d_D_mends_0 8 rfl) (by decide) ?_
    exact ws_iret (dcd d_D_mends_0 9 rfl) ⟨_, rfl, rfl⟩ h
theorem sg_D_mends_94 {x2 : Int32} {x3 : Int32} {x4 : Int32} {x5 : Int32}  (h : ((x2 < x5 → Q (some (.int x4)) (pI u 2 12 x3)) ∧ (¬ (x2 < x5) → (pl (mR u 2 10) → Ws G Sn_pass 0 [(0, .ref 10), (1, .ref (mR u 2 10)), (2, .int 1)] [] u (RV fun u3 => (pl (mR u3 2 10) → Ws G Sn_pass 0 [(0, .ref 12), (1, .ref (mR u3 2 10)), (2, .int 1)] [] u3 (RV fun u5 => (pl (mR u5 2 10) → Ws G Sn_differing 0 [(0, .ref 12), (1, .ref 10), (2, .int (mI u5 (mR u5 2 10) 1))] [] u5 (RI fun a7 u7 => ((¬ x3 = (-9) → Ws G D_mends 94 [(0, .ref 2), (2, .int x2), (3, .int x3), (4, .int a7), (5, .int (x5 + 1))] [] u7 Q) ∧ (x3 = (-9) → ((a7 ≤ 0 → Ws G D_mends 94 [(0, .ref 2), (2, .int x2), (3, .int x3), (4, .int a7), (5, .int (x5 + 1))] [] u7 Q) ∧ (¬ (a7 ≤ 0) → Ws G D_mends 94 [(0, .ref 2), (2, .int x2), (3, .int x5), (4, .int a7), (5, .int (x5 + 1))] [] u7 Q))))))))))))) : Ws G D_mends 94 [(0, .ref 2), (2, .int x2), (3, .int x3), (4, .int x4), (5, .int x5)] [] u Q := by
  refine ws_iload 4 (dcd d_D_mends_1 19 rfl) rfl ?_
  refine ws_iload_n 1 (dcd d_D_mends_1 20 rfl) rfl ?_
  refine ws_icmp_gt (tgt := 168) (dcd d_D_mends_1 21 rfl) (by decide) (fun c1 => ?_) (fun c1 => ?_)
  · have h := h.1 c1
    refine ws_aload_n 0 (dcd d_D_mends_2 24 rfl) rfl ?_
    refine ws_iload_n 2 (dcd d_D_mends_2 25 rfl) rfl ?_
    refine ws_iload 3 (dcd d_D_mends_2 26 rfl) rfl ?_
    refine ws_callVI (o := 2) (As := [.int x3, .int x4]) (st := []) (la := [(0, .ref 2), (1, .int x3), (2, .int x4)]) (dcd d_D_mends_2 27 rfl) cv_D_tell k_D_113 ⟨by decide, by decide⟩ ok_2 rfl (Nat.le_of_ble_eq_true rfl) (Nat.le_of_ble_eq_true rfl) rfl rfl sp_D_tell ?_
    rintro _ _ ⟨rfl, rfl⟩
    exact ws_iret (dcd d_D_mends_2 28 rfl) ⟨_, rfl, rfl⟩ h
  · have h := h.2 c1
    refine ws_aload_n 0 (dcd d_D_mends_1 22 rfl) rfl ?_
    refine ws_getF (a := 10) f_D_36 rfl (dcd d_D_mends_1 23 rfl) ok_2 of_7_5 rfl ?_
    refine ws_aload_n 0 (dcd d_D_mends_1 24 rfl) rfl ?_
    refine ws_getP (by decide) f_D_63 (dcd d_D_mends_1 25 rfl) (fun j2 => ?_)
    have h := h j2
    refine ws_iconst (v := 1) (dcd d_D_mends_1 26 rfl) (by decide) ?_
    refine ws_callVV (o := 10) (As := [.ref (mR u 2 10), .int 1]) (st := []) (la := [(0, .ref 10), (1, .ref (mR u 2 10)), (2, .int 1)]) (dcd d_D_mends_1 27 rfl) cv_Sn_pass k_D_213 ⟨by decide, by decide⟩ (os_7_5 ok_2) rfl (Nat.le_of_ble_eq_true rfl) (Nat.le_of_ble_eq_true rfl) rfl rfl h (fun u3 h => ?_)
    refine ws_aload_n 0 (dcd d_D_mends_1 28 rfl) rfl ?_
    refine ws_getF (a := 12) f_D_39 rfl (dcd d_D_mends_1 29 rfl) ok_2 of_7_6 rfl ?_
    refine ws_aload_n 0 (dcd d_D_mends_2 0 rfl) rfl ?_
    refine ws_getP (by decide) f_D_63 (dcd d_D_mends_2 1 rfl) (fun j4 => ?_)
    have h := h j4
    refine ws_iconst (v := 1) (dcd d_D_mends_2 2 rfl) (by decide) ?_
    refine ws_callVV (o := 12) (As := [.ref (mR u3 2 10), .int 1]) (st := []) (la := [(0, .ref 12), (1, .ref (mR u3 2 10)), (2, .int 1)]) (dcd d_D_mends_2 3 rfl) cv_Sn_pass k_D_213 ⟨by decide, by decide⟩ (os_7_6 ok_2) rfl (Nat.le_of_ble_eq_true rfl) (Nat.le_of_ble_eq_true rfl) rfl rfl h (fun u5 h => ?_)
    refine ws_aload_n 0 (dcd d_D_mends_2 4 rfl) rfl ?_
    refine ws_getF (a := 12) f_D_39 rfl (dcd d_D_mends_2 5 rfl) ok_2 of_7_6 rfl ?_
    refine ws_aload_n 0 (dcd d_D_mends_2 6 rfl) rfl ?_
    refine ws_getF (a := 10) f_D_36 rfl (dcd d_D_mends_2 7 rfl) ok_2 of_7_5 rfl ?_
    refine ws_aload_n 0 (dcd d_D_mends_2 8 rfl) rfl ?_
    refine ws_getP (by decide) f_D_63 (dcd d_D_mends_2 9 rfl) (fun j6 => ?_)
    have h := h j6
    refine ws_getI f_D_163 rfl (dcd d_D_mends_2 10 rfl) (pl_ok j6) ?_
    refine ws_callVI (o := 12) (As := [.ref 10, .int (mI u5 (mR u5 2 10) 1)]) (st := []) (la := [(0, .ref 12), (1, .ref 10), (2, .int (mI u5 (mR u5 2 10) 1))]) (dcd d_D_mends_2 11 rfl) cv_Sn_differing k_D_233 ⟨by decide, by decide⟩ (os_7_6 ok_2) rfl (Nat.le_of_ble_eq_true rfl) (Nat.le_of_ble_eq_true rfl) rfl rfl h (fun a7 u7 h => ?_)
    refine ws_istore (l' := [(4, .int a7), (0, .ref 2), (2, .int x2), (3, .int x3), (5, .int x5)]) (dcd d_D_mends_2 12 rfl) (by decide) rfl ?_
    refine ws_iload_n 3 (dcd d_D_mends_2 13 rfl) rfl ?_
    refine ws_bipush (v := (-9)) (dcd d_D_mends_2 14 rfl) (by decide) ?_
    refine ws_icmp_ne (tgt := 160) (dcd d_D_mends_2 15 rfl) (by decide) (fun c8 => ?_) (fun c8 => ?_)
    · have h := h.1 c8
      refine ws_iload_n 3 (dcd d_D_mends_2 20 rfl) rfl ?_
      refine ws_istore_n (l' := [(3, .int x3), (4, .int a7), (0, .ref 2), (2, .int x2), (5, .int x5)]) (dcd d_D_mends_2 21 rfl) (by decide) rfl ?_
      refine ws_iinc (v := 1) (l' := [(5, .int (x5 + 1)), (3, .int x3), (4, .int a7), (0, .ref 2), (2, .int x2)]) 4 (dcd d_D_mends_2 22 rfl) rfl (by decide) (by decide) rfl ?_
      refine ws_goto (tgt := 94) (dcd d_D_mends_2 23 rfl) (by decide) ?_
      exact ws_loc [3, 4, 1, 2, 0] rfl h
    · have h := h.2 c8
      refine ws_iload 0 (dcd d_D_mends_2 16 rfl) rfl ?_
      refine ws_if_le (tgt := 160) (dcd d_D_mends_2 17 rfl) (by decide) (fun c9 => ?_) (fun c9 => ?_)
      · have h := h.1 c9
        refine ws_iload_n 3 (dcd d_D_mends_2 20 rfl) rfl ?_
        refine ws_istore_n (l' := [(3, .int x3), (4, .int a7), (0, .ref 2), (2, .int x2), (5, .int x5)]) (dcd d_D_mends_2 21 rfl) (by decide) rfl ?_
        refine ws_iinc (v := 1) (l' := [(5, .int (x5 + 1)), (3, .int x3), (4, .int a7), (0, .ref 2), (2, .int x2)]) 4 (dcd d_D_mends_2 22 rfl) rfl (by decide) (by decide) rfl ?_
        refine ws_goto (tgt := 94) (dcd d_D_mends_2 23 rfl) (by decide) ?_
        exact ws_loc [3, 4, 1, 2, 0] rfl h
      · have h := h.2 c9
        refine ws_iload 4 (dcd d_D_mends_2 18 rfl) rfl ?_
        refine ws_goto (tgt := 161) (dcd d_D_mends_2 19 rfl) (by decide) ?_
        refine ws_istore_n (l' := [(3, .int x5), (4, .int a7), (0, .ref 2), (2, .int x2), (5, .int x5)]) (dcd d_D_mends_2 21 rfl) (by decide) rfl ?_
        refine ws_iinc (v := 1) (l' := [(5, .int (x5 + 1)), (3, .int x5), (4, .int a7), (0, .ref 2), (2, .int x2)]) 4 (dcd d_D_mends_2 22 rfl) rfl (by decide) (by decide) rfl ?_
        refine ws_goto (tgt := 94) (dcd d_D_mends_2 23 rfl) (by decide) ?_
        exact ws_loc [3, 4, 1, 2, 0] rfl h
theorem sg_D_worst_0 {x1 : Int32}  (h : (((1 ≤ x1 ∧ x1 ≤ 60) → (pl (mR u 2 10) → (((0 < (mI u (mR u 2 10) 0)) → (((bcV (mI u 7 1)) < 3 → (pl (mR (snB u 10 7) 2 10) → Ws G Sn_pass 0 [(0, .ref 10), (1, .ref (mR (snB u 10 7) 2 10)), (2, .int x1)] [] (snB u 10 7) (RV fun u8 => Ws G D_worst 67 [(0, .ref 2), (1, .int x1), (2, .int (-9)), (3, .int (-1)), (4, .int 0)] [] u8 Q))) ∧ (¬ ((bcV (mI u 7 1)) < 3) → Q (some (.int (-2))) u))) ∧ (¬ (0 < (mI u (mR u 2 10) 0)) → Q (some (.int (-4))) u)))) ∧ (¬ (1 ≤ x1 ∧ x1 ≤ 60) → Q (some (.int (-1))) u))) : Ws G D_worst 0 [(0, .ref 2), (1, .int x1)] [] u Q := by
  refine ws_iload_n 1 (dcd d_D_worst_0 0 rfl) rfl ?_
  refine ws_callSI (As := [.int x1]) (st := []) (la := [(0, .int x1)]) (dcd d_D_worst_0 1 rfl) cs_D_isLook k_D_305 ⟨by decide, by decide⟩ rfl (Nat.le_of_ble_eq_true rfl) (Nat.le_of_ble_eq_true rfl) rfl rfl sp_D_isLook ?_
  rintro _ _ ⟨rfl, ⟨rfl, c1⟩ | ⟨rfl, c1⟩⟩
  · have h := h.1 c1
    refine ws_if_ne (tgt := 9) (dcd d_D_worst_0 2 rfl) (by decide) (fun _ => ?_) (fun c => absurd c (by decide))
    refine ws_aload_n 0 (dcd d_D_worst_0 5 rfl) rfl ?_
    refine ws_getP (by decide) f_D_63 (dcd d_D_worst_0 6 rfl) (fun j3 => ?_)
    have h := h j3
    refine ws_callVI (o := (mR u 2 10)) (As := []) (st := []) (la := [(0, .ref (mR u 2 10))]) (dcd d_D_worst_0 7 rfl) cv_Pl_isThere k_D_211 ⟨by decide, by decide⟩ (pl_ok j3) rfl (Nat.le_of_ble_eq_true rfl) (Nat.le_of_ble_eq_true rfl) rfl rfl (sp_Pl_isThere (pl_ok j3)) ?_
    rintro _ _ ⟨rfl, ⟨rfl, c4⟩ | ⟨rfl, c4⟩⟩
    · have h := h.1 c4
      refine ws_if_ne (tgt := 22) (dcd d_D_worst_0 8 rfl) (by decide) (fun _ => ?_) (fun c => absurd c (by decide))
      refine ws_aload_n 0 (dcd d_D_worst_0 11 rfl) rfl ?_
      refine ws_getF (a := 7) f_D_28 rfl (dcd d_D_worst_0 12 rfl) ok_2 of_7_3 rfl ?_
      refine ws_callVI (o := 7) (As := []) (st := []) (la := [(0, .ref 7)]) (dcd d_D_worst_0 13 rfl) cv_Sn_shutCount k_D_204 ⟨by decide, by decide⟩ (os_7_3 ok_2) rfl (Nat.le_of_ble_eq_true rfl) (Nat.le_of_ble_eq_true rfl) rfl rfl (sp_Sn_shutCount (os_7_3 ok_2)) ?_
      rintro _ _ ⟨rfl, rfl⟩
      refine ws_iconst (v := 3) (dcd d_D_worst_0 14 rfl) (by decide) ?_
      refine ws_icmp_lt (tgt := 36) (dcd d_D_worst_0 15 rfl) (by decide) (fun c6 => ?_) (fun c6 => ?_)
      · have h := h.1 c6
        refine ws_bipush (v := (-9)) (dcd d_D_worst_0 18 rfl) (by decide) ?_
        refine ws_istore_n (l' := [(2, .int (-9)), (0, .ref 2), (1, .int x1)]) (dcd d_D_worst_0 19 rfl) (by decide) rfl ?_
        refine ws_iconst (v := (-1)) (dcd d_D_worst_0 20 rfl) (by decide) ?_
        refine ws_istore_n (l' := [(3, .int (-1)), (2, .int (-9)), (0, .ref 2), (1, .int x1)]) (dcd d_D_worst_0 21 rfl) (by decide) rfl ?_
        refine ws_aload_n 2 (dcd d_D_worst_0 22 rfl) rfl ?_
        refine ws_getF (a := 10) f_D_36 rfl (dcd d_D_worst_0 23 rfl) ok_2 of_7_5 rfl ?_
        refine ws_aload_n 2 (dcd d_D_worst_0 24 rfl) rfl ?_
        refine ws_getF (a := 7) f_D_28 rfl (dcd d_D_worst_0 25 rfl) ok_2 of_7_3 rfl ?_
        refine ws_callVV (o := 10) (As := [.ref 7]) (st := []) (la := [(0, .ref 10), (1, .ref 7)]) (dcd d_D_worst_0 26 rfl) cv_Sn_become k_D_220 ⟨by decide, by decide⟩ (os_7_5 ok_2) rfl (Nat.le_of_ble_eq_true rfl) (Nat.le_of_ble_eq_true rfl) rfl rfl (sp_Sn_become (os_7_5 ok_2) (os_7_3 ok_2)) ?_
        rintro _ rfl
        refine ws_aload_n 2 (dcd d_D_worst_0 27 rfl) rfl ?_
        refine ws_getF (a := 10) f_D_36 rfl (dcd d_D_worst_0 28 rfl) ok_2 of_7_5 rfl ?_
        refine ws_aload_n 2 (dcd d_D_worst_0 29 rfl) rfl ?_
        refine ws_getP (by decide) f_D_63 (dcd d_D_worst_1 0 rfl) (fun j7 => ?_)
        have h := h j7
        refine ws_iload_n 3 (dcd d_D_worst_1 1 rfl) rfl ?_
        refine ws_callVV (o := 10) (As := [.ref (mR (snB u 10 7) 2 10), .int x1]) (st := []) (la := [(0, .ref 10), (1, .ref (mR (snB u 10 7) 2 10)), (2, .int x1)]) (dcd d_D_worst_1 2 rfl) cv_Sn_pass k_D_213 ⟨by decide, by decide⟩ (os_7_5 ok_2) rfl (Nat.le_of_ble_eq_true rfl) (Nat.le_of_ble_eq_true rfl) rfl rfl h (fun u8 h => ?_)
        refine ws_iconst (v := 0) (dcd d_D_worst_1 3 rfl) (by decide) ?_
        refine ws_istore (l' := [(4, .int 0), (3, .int (-1)), (2, .int (-9)), (0, .ref 2), (1, .int x1)]) (dcd d_D_worst_1 4 rfl) (by decide) rfl ?_
        exact ws_loc [3, 4, 2, 1, 0] rfl h
      · have h := h.2 c6
        refine ws_bipush (v := (-2)) (dcd d_D_worst_0 16 rfl) (by decide) ?_
        exact ws_iret (dcd d_D_worst_0 17 rfl) ⟨_, rfl, rfl⟩ h
    · have h := h.2 c4
      refine ws_if_ne (tgt := 22) (dcd d_D_worst_0 8 rfl) (by decide) (fun c => absurd (show (0 : Int32) = 0 from by decide) c) (fun _ => ?_)
      refine ws_bipush (v := (-4)) (dcd d_D_worst_0 9 rfl) (by decide) ?_
      exact ws_iret (dcd d_D_worst_0 10 rfl) ⟨_, rfl, rfl⟩ h
  · have h := h.2 c1
    refine ws_if_ne (tgt := 9) (dcd d_D_worst_0 2 rfl) (by decide) (fun c => absurd (show (0 : Int32) = 0 from by decide) c) (fun _ => ?_)
    refine ws_iconst (v := (-1)) (dcd d_D_worst_0 3 rfl) (by decide) ?_
    exact ws_iret (dcd d_D_worst_0 4 rfl) ⟨_, rfl, rfl⟩ h
theorem sg_D_worst_67 {x1 : Int32} {x2 : Int32} {x3 : Int32} {x4 : Int32}  (h : (pl (mR u 2 10) → (((mI u (mR u 2 10) 0) ≤ x4 → Q (some (.int x2)) (pI u 2 12 x3)) ∧ (¬ ((mI u (mR u 2 10) 0) ≤ x4) → (((isI (mI u 7 1) x4) → Ws G D_worst 67 [(0, .ref 2), (1, .int x1), (2, .int x2), (3, .int x3), (4, .int (x4 + 1))] [] u Q) ∧ (¬ (isI (mI u 7 1) x4) → (pl (mR (pI (snB u 12 7) 12 1 ((mI (snB u 12 7) 12 1) ||| (1 <<< (x4 &&& 31)))) 2 10) → Ws G Sn_pass 0 [(0, .ref 12), (1, .ref (mR (pI (snB u 12 7) 12 1 ((mI (snB u 12 7) 12 1) ||| (1 <<< (x4 &&& 31)))) 2 10)), (2, .int x1)] [] (pI (snB u 12 7) 12 1 ((mI (snB u 12 7) 12 1) ||| (1 <<< (x4 &&& 31)))) (RV fun u7 => (pl (mR u7 2 10) → Ws G Sn_differing 0 [(0, .ref 12), (1, .ref 10), (2, .int (mI u7 (mR u7 2 10) 1))] [] u7 (RI fun a9 u9 => ((a9 ≤ x3 → Ws G D_worst 67 [(0, .ref 2), (1, .int x1), (2, .int x2), (3, .int x3), (4, .int (x4 + 1))] [] u9 Q) ∧ (¬ (a9 ≤ x3) → Ws G D_worst 67 [(0, .ref 2), (1, .int x1), (2, .int x4), (3, .int a9), (4, .int (x4 + 1))] [] u9 Q)))))))))))) : Ws G D_worst 67 [(0, .ref 2), (1, .int x1), (2, .int x2), (3, .int x3), (4, .int x4)] [] u Q := by
  refine ws_iload 4 (dcd d_D_worst_1 5 rfl) rfl ?_
  refine ws_aload_n 0 (dcd d_D_worst_1 6 rfl) rfl ?_
  refine ws_getP (by decide) f_D_63 (dcd d_D_worst_1 7 rfl) (fun j1 => ?_)
  have h := h j1
  refine ws_getI f_D_252 rfl (dcd d_D_worst_1 8 rfl) (pl_ok j1) ?_
  refine ws_icmp_ge (tgt := 168) (dcd d_D_worst_1 9 rfl) (by decide) (fun c2 => ?_) (fun c2 => ?_)
  · have h := h.1 c2
    refine ws_aload_n 0 (dcd d_D_worst_2 23 rfl) rfl ?_
    refine ws_iload_n 3 (dcd d_D_worst_2 24 rfl) rfl ?_
    refine ws_iload_n 2 (dcd d_D_worst_2 25 rfl) rfl ?_
    refine ws_callVI (o := 2) (As := [.int x3, .int x2]) (st := []) (la := [(0, .ref 2), (1, .int x3), (2, .int x2)]) (dcd d_D_worst_2 26 rfl) cv_D_tell k_D_113 ⟨by decide, by decide⟩ ok_2 rfl (Nat.le_of_ble_eq_true rfl) (Nat.le_of_ble_eq_true rfl) rfl rfl sp_D_tell ?_
    rintro _ _ ⟨rfl, rfl⟩
    exact ws_iret (dcd d_D_worst_2 27 rfl) ⟨_, rfl, rfl⟩ h
  · have h := h.2 c2
    refine ws_aload_n 0 (dcd d_D_worst_1 10 rfl) rfl ?_
    refine ws_getF (a := 7) f_D_28 rfl (dcd d_D_worst_1 11 rfl) ok_2 of_7_3 rfl ?_
    refine ws_iload 4 (dcd d_D_worst_1 12 rfl) rfl ?_
    refine ws_callVI (o := 7) (As := [.int x4]) (st := []) (la := [(0, .ref 7), (1, .int x4)]) (dcd d_D_worst_1 13 rfl) cv_Sn_isShut k_D_201 ⟨by decide, by decide⟩ (os_7_3 ok_2) rfl (Nat.le_of_ble_eq_true rfl) (Nat.le_of_ble_eq_true rfl) rfl rfl (sp_Sn_isShut (os_7_3 ok_2)) ?_
    rintro _ _ ⟨rfl, ⟨rfl, c3⟩ | ⟨rfl, c3⟩⟩
    · have h := h.1 c3
      refine ws_if_ne (tgt := 162) (dcd d_D_worst_1 14 rfl) (by decide) (fun _ => ?_) (fun c => absurd c (by decide))
      refine ws_iinc (v := 1) (l' := [(4, .int (x4 + 1)), (0, .ref 2), (1, .int x1), (2, .int x2), (3, .int x3)]) 4 (dcd d_D_worst_2 21 rfl) rfl (by decide) (by decide) rfl ?_
      refine ws_goto (tgt := 67) (dcd d_D_worst_2 22 rfl) (by decide) ?_
      exact ws_loc [1, 2, 3, 4, 0] rfl h
    · have h := h.2 c3
      refine ws_if_ne (tgt := 162) (dcd d_D_worst_1 14 rfl) (by decide) (fun c => absurd (show (0 : Int32) = 0 from by decide) c) (fun _ => ?_)
      refine ws_aload_n 0 (dcd d_D_worst_1 15 rfl) rfl ?_
      refine ws_getF (a := 12) f_D_39 rfl (dcd d_D_worst_1 16 rfl) ok_2 of_7_6 rfl ?_
      refine ws_aload_n 0 (dcd d_D_worst_1 17 rfl) rfl ?_
      refine ws_getF (a := 7) f_D_28 rfl (dcd d_D_worst_1 18 rfl) ok_2 of_7_3 rfl ?_
      refine ws_callVV (o := 12) (As := [.ref 7]) (st := []) (la := [(0, .ref 12), (1, .ref 7)]) (dcd d_D_worst_1 19 rfl) cv_Sn_become k_D_220 ⟨by decide, by decide⟩ (os_7_6 ok_2) rfl (Nat.le_of_ble_eq_true rfl) (Nat.le_of_ble_eq_true rfl) rfl rfl (sp_Sn_become (os_7_6 ok_2) (os_7_3 ok_2)) ?_
      rintro _ rfl
      refine ws_aload_n 0 (dcd d_D_worst_1 20 rfl) rfl ?_
      refine ws_getF (a := 12) f_D_39 rfl (dcd d_D_worst_1 21 rfl) ok_2 of_7_6 rfl ?_
      refine ws_dup (dcd d_D_worst_1 22 rfl) rfl ?_
      refine ws_getI f_D_208 rfl (dcd d_D_worst_1 23 rfl) (os_7_6 ok_2) ?_
      refine ws_iconst (v := 1) (dcd d_D_worst_1 24 rfl) (by decide) ?_
      refine ws_iload 4 (dcd d_D_worst_1 25 rfl) rfl ?_
      refine ws_ishl (dcd d_D_worst_1 26 rfl) ?_
      refine ws_ior (dcd d_D_worst_1 27 rfl) ?_
      refine ws_putI f_D_208 rfl nf_5_1 (dcd d_D_worst_1 28 rfl) (os_7_6 ok_2) ?_
      refine ws_aload_n 0 (dcd d_D_worst_1 29 rfl) rfl ?_
      refine ws_getF (a := 12) f_D_39 rfl (dcd d_D_worst_2 0 rfl) ok_2 of_7_6 rfl ?_
      refine ws_aload_n 0 (dcd d_D_worst_2 1 rfl) rfl ?_
      refine ws_getP (by decide) f_D_63 (dcd d_D_worst_2 2 rfl) (fun j6 => ?_)
      have h := h j6
      refine ws_iload_n 1 (dcd d_D_worst_2 3 rfl) rfl ?_
      refine ws_callVV (o := 12) (As := [.ref (mR (pI (snB u 12 7) 12 1 ((mI (snB u 12 7) 12 1) ||| (1 <<< (x4 &&& 31)))) 2 10), .int x1]) (st := []) (la := [(0, .ref 12), (1, .ref (mR (pI (snB u 12 7) 12 1 ((mI (snB u 12 7) 12 1) ||| (1 <<< (x4 &&& 31)))) 2 10)), (2, .int x1)]) (dcd d_D_worst_2 4 rfl) cv_Sn_pass k_D_213 ⟨by decide, by decide⟩ (os_7_6 ok_2) rfl (Nat.le_of_ble_eq_true rfl) (Nat.le_of_ble_eq_true rfl) rfl rfl h (fun u7 h => ?_)
      refine ws_aload_n 0 (dcd d_D_worst_2 5 rfl) rfl ?_
      refine ws_getF (a := 12) f_D_39 rfl (dcd d_D_worst_2 6 rfl) ok_2 of_7_6 rfl ?_
      refine ws_aload_n 0 (dcd d_D_worst_2 7 rfl) rfl ?_
      refine ws_getF (a := 10) f_D_36 rfl (dcd d_D_worst_2 8 rfl) ok_2 of_7_5 rfl ?_
      refine ws_aload_n 0 (dcd d_D_worst_2 9 rfl) rfl ?_
      refine ws_getP (by decide) f_D_63 (dcd d_D_worst_2 10 rfl) (fun j8 => ?_)
      have h := h j8
      refine ws_getI f_D_163 rfl (dcd d_D_worst_2 11 rfl) (pl_ok j8) ?_
      refine ws_callVI (o := 12) (As := [.ref 10, .int (mI u7 (mR u7 2 10) 1)]) (st := []) (la := [(0, .ref 12), (1, .ref 10), (2, .int (mI u7 (mR u7 2 10) 1))]) (dcd d_D_worst_2 12 rfl) cv_Sn_differing k_D_233 ⟨by decide, by decide⟩ (os_7_6 ok_2) rfl (Nat.le_of_ble_eq_true rfl) (Nat.le_of_ble_eq_true rfl) rfl rfl h (fun a9 u9 h => ?_)
      refine ws_istore (l' := [(5, .int a9), (0, .ref 2), (1, .int x1), (2, .int x2), (3, .int x3), (4, .int x4)]) (dcd d_D_worst_2 13 rfl) (by decide) rfl ?_
      refine ws_iload 0 (dcd d_D_worst_2 14 rfl) rfl ?_
      refine ws_iload_n 4 (dcd d_D_worst_2 15 rfl) rfl ?_
      refine ws_icmp_le (tgt := 162) (dcd d_D_worst_2 16 rfl) (by decide) (fun c10 => ?_) (fun c10 => ?_)
      · have h := h.1 c10
        refine ws_iinc (v := 1) (l' := [(4, .int (x4 + 1)), (5, .int a9), (0, .ref 2), (1, .int x1), (2, .int x2), (3, .int x3)]) 5 (dcd d_D_worst_2 21 rfl) rfl (by decide) (by decide) rfl ?_
        refine ws_goto (tgt := 67) (dcd d_D_worst_2 22 rfl) (by decide) ?_
        exact ws_loc [2, 3, 4, 5, 0] rfl h
      · have h := h.2 c10
        refine ws_iload 0 (dcd d_D_worst_2 17 rfl) rfl ?_
        refine ws_istore_n (l' := [(3, .int a9), (5, .int a9), (0, .ref 2), (1, .int x1), (2, .int x2), (4, .int x4)]) (dcd d_D_worst_2 18 rfl) (by decide) rfl ?_
        refine ws_iload 5 (dcd d_D_worst_2 19 rfl) rfl ?_
        refine ws_istore_n (l' := [(2, .int x4), (3, .int a9), (5, .int a9), (0, .ref 2), (1, .int x1), (4, .int x4)]) (dcd d_D_worst_2 20 rfl) (by decide) rfl ?_
        refine ws_iinc (v := 1) (l' := [(4, .int (x4 + 1)), (2, .int x4), (3, .int a9), (5, .int a9), (0, .ref 2), (1, .int x1)]) 5 (dcd d_D_worst_2 21 rfl) rfl (by decide) (by decide) rfl ?_
        refine ws_goto (tgt := 67) (dcd d_D_worst_2 22 rfl) (by decide) ?_
        exact ws_loc [4, 5, 1, 2, 0] rfl h
theorem sg_D_image_0 {x1 : Int32}  (h : (((0 ≤ x1 ∧ x1 < 6) → (pl (mR u 2 10) → (((0 < (mI u (mR u 2 10) 0)) → (pl (mR u 2 10) → Ws G Sp_renew 0 [(0, .ref (roV x1)), (1, .int ((mI u (mR u 2 10) 1) + 2)), (2, .int 0)] [] u (RV fun u7 => Ws G D_image 68 [(0, .ref 2), (2, .ref (roV x1)), (3, .int 0)] [] (spS (spS u7 (roV x1) 0 (mI u7 7 0)) (roV x1) 1 (mI (spS u7 (roV x1) 0 (mI u7 7 0)) 7 1)) Q))) ∧ (¬ (0 < (mI u (mR u 2 10) 0)) → Q (some (.int (-4))) u)))) ∧ (¬ (0 ≤ x1 ∧ x1 < 6) → Q (some (.int (-1))) u))) : Ws G D_image 0 [(0, .ref 2), (1, .int x1)] [] u Q := by
  refine ws_iload_n 1 (dcd d_D_image_0 0 rfl) rfl ?_
  refine ws_callSI (As := [.int x1]) (st := []) (la := [(0, .int x1)]) (dcd d_D_image_0 1 rfl) cs_D_isRow k_D_87 ⟨by decide, by decide⟩ rfl (Nat.le_of_ble_eq_true rfl) (Nat.le_of_ble_eq_true rfl) rfl rfl sp_D_isRow ?_
  rintro _ _ ⟨rfl, ⟨rfl, c1⟩ | ⟨rfl, c1⟩⟩
  · have h := h.1 c1
    refine ws_if_ne (tgt := 9) (dcd d_D_image_0 2 rfl) (by decide) (fun _ => ?_) (fun c => absurd c (by decide))
    refine ws_aload_n 0 (dcd d_D_image_0 5 rfl) rfl ?_
    refine ws_getP (by decide) f_D_63 (dcd d_D_image_0 6 rfl) (fun j3 => ?_)
    have h := h j3
    refine ws_callVI (o := (mR u 2 10)) (As := []) (st := []) (la := [(0, .ref (mR u 2 10))]) (dcd d_D_image_0 7 rfl) cv_Pl_isThere k_D_211 ⟨by decide, by decide⟩ (pl_ok j3) rfl (Nat.le_of_ble_eq_true rfl) (Nat.le_of_ble_eq_true rfl) rfl rfl (sp_Pl_isThere (pl_ok j3)) ?_
    rintro _ _ ⟨rfl, ⟨rfl, c4⟩ | ⟨rfl, c4⟩⟩
    · have h := h.1 c4
      refine ws_if_ne (tgt := 22) (dcd d_D_image_0 8 rfl) (by decide) (fun _ => ?_) (fun c => absurd c (by decide))
      refine ws_aload_n 0 (dcd d_D_image_0 11 rfl) rfl ?_
      refine ws_iload_n 1 (dcd d_D_image_0 12 rfl) rfl ?_
      refine ws_callVR (o := 2) (As := [.int x1]) (st := []) (la := [(0, .ref 2), (1, .int x1)]) (dcd d_D_image_0 13 rfl) cv_D_rowOf k_D_95 ⟨by decide, by decide⟩ ok_2 rfl (Nat.le_of_ble_eq_true rfl) (Nat.le_of_ble_eq_true rfl) rfl rfl sp_D_rowOf ?_
      rintro _ _ ⟨rfl, rfl⟩
      refine ws_astore_n (l' := [(2, .ref (roV x1)), (0, .ref 2), (1, .int x1)]) (dcd d_D_image_0 14 rfl) (by decide) rfl ?_
      refine ws_aload_n 0 (dcd d_D_image_0 15 rfl) rfl ?_
      refine ws_aload_n 1 (dcd d_D_image_0 16 rfl) rfl ?_
      refine ws_getP (by decide) f_D_63 (dcd d_D_image_0 17 rfl) (fun j6 => ?_)
      have h := h j6
      refine ws_getI f_D_163 rfl (dcd d_D_image_0 18 rfl) (pl_ok j6) ?_
      refine ws_iconst (v := 2) (dcd d_D_image_0 19 rfl) (by decide) ?_
      refine ws_iadd (dcd d_D_image_0 20 rfl) ?_
      refine ws_iconst (v := 0) (dcd d_D_image_0 21 rfl) (by decide) ?_
      refine ws_callVV (o := (roV x1)) (As := [.int ((mI u (mR u 2 10) 1) + 2), .int 0]) (st := []) (la := [(0, .ref (roV x1)), (1, .int ((mI u (mR u 2 10) 1) + 2)), (2, .int 0)]) (dcd d_D_image_0 22 rfl) cv_Sp_renew k_D_99 ⟨by decide, by decide⟩ (roV_ok x1) rfl (Nat.le_of_ble_eq_true rfl) (Nat.le_of_ble_eq_true rfl) rfl rfl h (fun u7 h => ?_)
      refine ws_aload_n 0 (dcd d_D_image_0 23 rfl) rfl ?_
      refine ws_iconst (v := 0) (dcd d_D_image_0 24 rfl) (by decide) ?_
      refine ws_aload_n 1 (dcd d_D_image_0 25 rfl) rfl ?_
      refine ws_getF (a := 7) f_D_28 rfl (dcd d_D_image_0 26 rfl) ok_2 of_7_3 rfl ?_
      refine ws_getI f_D_84 rfl (dcd d_D_image_0 27 rfl) (os_7_3 ok_2) ?_
      refine ws_callVV (o := (roV x1)) (As := [.int 0, .int (mI u7 7 0)]) (st := []) (la := [(0, .ref (roV x1)), (1, .int 0), (2, .int (mI u7 7 0))]) (dcd d_D_image_0 28 rfl) cv_Sp_set k_D_110 ⟨by decide, by decide⟩ (roV_ok x1) rfl (Nat.le_of_ble_eq_true rfl) (Nat.le_of_ble_eq_true rfl) rfl rfl (sp_Sp_set (roV_ok x1)) ?_
      rintro _ rfl
      refine ws_aload_n 0 (dcd d_D_image_0 29 rfl) rfl ?_
      refine ws_iconst (v := 1) (dcd d_D_image_1 0 rfl) (by decide) ?_
      refine ws_aload_n 1 (dcd d_D_image_1 1 rfl) rfl ?_
      refine ws_getF (a := 7) f_D_28 rfl (dcd d_D_image_1 2 rfl) ok_2 of_7_3 rfl ?_
      refine ws_getI f_D_208 rfl (dcd d_D_image_1 3 rfl) (os_7_3 ok_2) ?_
      refine ws_callVV (o := (roV x1)) (As := [.int 1, .int (mI (spS u7 (roV x1) 0 (mI u7 7 0)) 7 1)]) (st := []) (la := [(0, .ref (roV x1)), (1, .int 1), (2, .int (mI (spS u7 (roV x1) 0 (mI u7 7 0)) 7 1))]) (dcd d_D_image_1 4 rfl) cv_Sp_set k_D_110 ⟨by decide, by decide⟩ (roV_ok x1) rfl (Nat.le_of_ble_eq_true rfl) (Nat.le_of_ble_eq_true rfl) rfl rfl (sp_Sp_set (roV_ok x1)) ?_
      rintro _ rfl
      refine ws_iconst (v := 0) (dcd d_D_image_1 5 rfl) (by decide) ?_
      refine ws_istore_n (l' := [(3, .int 0), (2, .ref (roV x1)), (0, .ref 2), (1, .int x1)]) (dcd d_D_image_1 6 rfl) (by decide) rfl ?_
      exact ws_loc [2, 1, 0] rfl h
    · have h := h.2 c4
      refine ws_if_ne (tgt := 22) (dcd d_D_image_0 8 rfl) (by decide) (fun c => absurd (show (0 : Int32) = 0 from by decide) c) (fun _ => ?_)
      refine ws_bipush (v := (-4)) (dcd d_D_image_0 9 rfl) (by decide) ?_
      exact ws_iret (dcd d_D_image_0 10 rfl) ⟨_, rfl, rfl⟩ h
  · have h := h.2 c1
    refine ws_if_ne (tgt := 9) (dcd d_D_image_0 2 rfl) (by decide) (fun c => absurd (show (0 : Int32) = 0 from by decide) c) (fun _ => ?_)
    refine ws_iconst (v := (-1)) (dcd d_D_image_0 3 rfl) (by decide) ?_
    exact ws_iret (dcd d_D_image_0 4 rfl) ⟨_, rfl, rfl⟩ h
theorem sg_D_image_68 {o2 : Nat} {x3 : Int32} (k2 : okS o2 6) (h : (pl (mR u 2 10) → (((mI u (mR u 2 10) 1) ≤ x3 → (pl (mR u 2 10) → Q (some (.int ((mI u (mR u 2 10) 1) + 2))) u)) ∧ (¬ ((mI u (mR u 2 10) 1) ≤ x3) → Ws G D_image 68 [(0, .ref 2), (2, .ref o2), (3, .int (x3 + 1))] [] (spS u o2 (x3 + 2) (snD u 7 x3)) Q)))) : Ws G D_image 68 [(0, .ref 2), (2, .ref o2), (3, .int x3)] [] u Q := by
  refine ws_iload_n 2 (dcd d_D_image_1 7 rfl) rfl ?_
  refine ws_aload_n 0 (dcd d_D_image_1 8 rfl) rfl ?_
  refine ws_getP (by decide) f_D_63 (dcd d_D_image_1 9 rfl) (fun j1 => ?_)
  have h := h j1
  refine ws_getI f_D_163 rfl (dcd d_D_image_1 10 rfl) (pl_ok j1) ?_
  refine ws_icmp_ge (tgt := 100) (dcd d_D_image_1 11 rfl) (by decide) (fun c2 => ?_) (fun c2 => ?_)
  · have h := h.1 c2
    refine ws_aload_n 0 (dcd d_D_image_1 23 rfl) rfl ?_
    refine ws_getP (by decide) f_D_63 (dcd d_D_image_1 24 rfl) (fun j3 => ?_)
    have h := h j3
    refine ws_getI f_D_163 rfl (dcd d_D_image_1 25 rfl) (pl_ok j3) ?_
    refine ws_iconst (v := 2) (dcd d_D_image_1 26 rfl) (by decide) ?_
    refine ws_iadd (dcd d_D_image_1 27 rfl) ?_
    exact ws_iret (dcd d_D_image_1 28 rfl) ⟨_, rfl, rfl⟩ h
  · have h := h.2 c2
    refine ws_aload_n 1 (dcd d_D_image_1 12 rfl) rfl ?_
    refine ws_iload_n 2 (dcd d_D_image_1 13 rfl) rfl ?_
    refine ws_iconst (v := 2) (dcd d_D_image_1 14 rfl) (by decide) ?_
    refine ws_iadd (dcd d_D_image_1 15 rfl) ?_
    refine ws_aload_n 0 (dcd d_D_image_1 16 rfl) rfl ?_
    refine ws_getF (a := 7) f_D_28 rfl (dcd d_D_image_1 17 rfl) ok_2 of_7_3 rfl ?_
    refine ws_iload_n 2 (dcd d_D_image_1 18 rfl) rfl ?_
    refine ws_callVI (o := 7) (As := [.int x3]) (st := [.int (x3 + 2), .ref o2]) (la := [(0, .ref 7), (1, .int x3)]) (dcd d_D_image_1 19 rfl) cv_Sn_doorOf k_D_217 ⟨by decide, by decide⟩ (os_7_3 ok_2) rfl (Nat.le_of_ble_eq_true rfl) (Nat.le_of_ble_eq_true rfl) rfl rfl (sp_Sn_doorOf (os_7_3 ok_2)) ?_
    rintro _ _ ⟨rfl, rfl⟩
    refine ws_callVV (o := o2) (As := [.int (x3 + 2), .int (snD u 7 x3)]) (st := []) (la := [(0, .ref o2), (1, .int (x3 + 2)), (2, .int (snD u 7 x3))]) (dcd d_D_image_1 20 rfl) cv_Sp_set k_D_110 ⟨by decide, by decide⟩ k2 rfl (Nat.le_of_ble_eq_true rfl) (Nat.le_of_ble_eq_true rfl) rfl rfl (sp_Sp_set k2) ?_
    rintro _ rfl
    refine ws_iinc (v := 1) (l' := [(3, .int (x3 + 1)), (0, .ref 2), (2, .ref o2)]) 2 (dcd d_D_image_1 21 rfl) rfl (by decide) (by decide) rfl ?_
    refine ws_goto (tgt := 68) (dcd d_D_image_1 22 rfl) (by decide) ?_
    exact ws_loc [1, 2, 0] rfl h
theorem sg_D_gone_0 {x1 : Int32}  (h : (((0 ≤ x1 ∧ x1 < 6) → (pl (mR u 2 10) → (((0 < (mI u (mR u 2 10) 0)) → Ws G D_imageFinding 0 [(0, .ref 2), (1, .ref (roV x1))] [] u (RI fun a6 u6 => ((a6 = 0 → Ws G D_gone 71 [(0, .ref 2), (2, .ref (roV x1)), (4, .int 0)] [] (pI (pI u6 7 0 (spG u6 (roV x1) 0)) 7 1 (spG (pI u6 7 0 (spG u6 (roV x1) 0)) (roV x1) 1)) Q) ∧ (¬ a6 = 0 → Q (some (.int (-3))) (dF u6 a6))))) ∧ (¬ (0 < (mI u (mR u 2 10) 0)) → Q (some (.int (-4))) u)))) ∧ (¬ (0 ≤ x1 ∧ x1 < 6) → Q (some (.int (-1))) u))) : Ws G D_gone 0 [(0, .ref 2), (1, .int x1)] [] u Q := by
  refine ws_iload_n 1 (dcd d_D_gone_0 0 rfl) rfl ?_
  refine ws_callSI (As := [.int x1]) (st := []) (la := [(0, .int x1)]) (dcd d_D_gone_0 1 rfl) cs_D_isRow k_D_87 ⟨by decide, by decide⟩ rfl (Nat.le_of_ble_eq_true rfl) (Nat.le_of_ble_eq_true rfl) rfl rfl sp_D_isRow ?_
  rintro _ _ ⟨rfl, ⟨rfl, c1⟩ | ⟨rfl, c1⟩⟩
  · have h := h.1 c1
    refine ws_if_ne (tgt := 9) (dcd d_D_gone_0 2 rfl) (by decide) (fun _ => ?_) (fun c => absurd c (by decide))
    refine ws_aload_n 0 (dcd d_D_gone_0 5 rfl) rfl ?_
    refine ws_getP (by decide) f_D_63 (dcd d_D_gone_0 6 rfl) (fun j3 => ?_)
    have h := h j3
    refine ws_callVI (o := (mR u 2 10)) (As := []) (st := []) (la := [(0, .ref (mR u 2 10))]) (dcd d_D_gone_0 7 rfl) cv_Pl_isThere k_D_211 ⟨by decide, by decide⟩ (pl_ok j3) rfl (Nat.le_of_ble_eq_true rfl) (Nat.le_of_ble_eq_true rfl) rfl rfl (sp_Pl_isThere (pl_ok j3)) ?_
    rintro _ _ ⟨rfl, ⟨rfl, c4⟩ | ⟨rfl, c4⟩⟩
    · have h := h.1 c4
      refine ws_if_ne (tgt := 22) (dcd d_D_gone_0 8 rfl) (by decide) (fun _ => ?_) (fun c => absurd c (by decide))
      refine ws_aload_n 0 (dcd d_D_gone_0 11 rfl) rfl ?_
      refine ws_iload_n 1 (dcd d_D_gone_0 12 rfl) rfl ?_
      refine ws_callVR (o := 2) (As := [.int x1]) (st := []) (la := [(0, .ref 2), (1, .int x1)]) (dcd d_D_gone_0 13 rfl) cv_D_rowOf k_D_95 ⟨by decide, by decide⟩ ok_2 rfl (Nat.le_of_ble_eq_true rfl) (Nat.le_of_ble_eq_true rfl) rfl rfl sp_D_rowOf ?_
      rintro _ _ ⟨rfl, rfl⟩
      refine ws_astore_n (l' := [(2, .ref (roV x1)), (0, .ref 2), (1, .int x1)]) (dcd d_D_gone_0 14 rfl) (by decide) rfl ?_
      refine ws_aload_n 1 (dcd d_D_gone_0 15 rfl) rfl ?_
      refine ws_aload_n 0 (dcd d_D_gone_0 16 rfl) rfl ?_
      refine ws_callVI (o := 2) (As := [.ref (roV x1)]) (st := []) (la := [(0, .ref 2), (1, .ref (roV x1))]) (dcd d_D_gone_0 17 rfl) cv_D_imageFinding k_D_319 ⟨by decide, by decide⟩ ok_2 rfl (Nat.le_of_ble_eq_true rfl) (Nat.le_of_ble_eq_true rfl) rfl rfl h (fun a6 u6 h => ?_)
      refine ws_istore_n (l' := [(3, .int a6), (2, .ref (roV x1)), (0, .ref 2), (1, .int x1)]) (dcd d_D_gone_0 18 rfl) (by decide) rfl ?_
      refine ws_iload_n 0 (dcd d_D_gone_0 19 rfl) rfl ?_
      refine ws_if_eq (tgt := 44) (dcd d_D_gone_0 20 rfl) (by decide) (fun c7 => ?_) (fun c7 => ?_)
      · have h := h.1 c7
        refine ws_aload_n 2 (dcd d_D_gone_0 25 rfl) rfl ?_
        refine ws_getF (a := 7) f_D_28 rfl (dcd d_D_gone_0 26 rfl) ok_2 of_7_3 rfl ?_
        refine ws_aload_n 1 (dcd d_D_gone_0 27 rfl) rfl ?_
        refine ws_iconst (v := 0) (dcd d_D_gone_0 28 rfl) (by decide) ?_
        refine ws_callVI (o := (roV x1)) (As := [.int 0]) (st := [.ref 7]) (la := [(0, .ref (roV x1)), (1, .int 0)]) (dcd d_D_gone_0 29 rfl) cv_Sp_get k_D_107 ⟨by decide, by decide⟩ (roV_ok x1) rfl (Nat.le_of_ble_eq_true rfl) (Nat.le_of_ble_eq_true rfl) rfl rfl (sp_Sp_get (roV_ok x1)) ?_
        rintro _ _ ⟨rfl, rfl⟩
        refine ws_putI f_D_84 rfl nf_5_0 (dcd d_D_gone_1 0 rfl) (os_7_3 ok_2) ?_
        refine ws_aload_n 2 (dcd d_D_gone_1 1 rfl) rfl ?_
        refine ws_getF (a := 7) f_D_28 rfl (dcd d_D_gone_1 2 rfl) ok_2 of_7_3 rfl ?_
        refine ws_aload_n 1 (dcd d_D_gone_1 3 rfl) rfl ?_
        refine ws_iconst (v := 1) (dcd d_D_gone_1 4 rfl) (by decide) ?_
        refine ws_callVI (o := (roV x1)) (As := [.int 1]) (st := [.ref 7]) (la := [(0, .ref (roV x1)), (1, .int 1)]) (dcd d_D_gone_1 5 rfl) cv_Sp_get k_D_107 ⟨by decide, by decide⟩ (roV_ok x1) rfl (Nat.le_of_ble_eq_true rfl) (Nat.le_of_ble_eq_true rfl) rfl rfl (sp_Sp_get (roV_ok x1)) ?_
        rintro _ _ ⟨rfl, rfl⟩
        refine ws_putI f_D_208 rfl nf_5_1 (dcd d_D_gone_1 6 rfl) (os_7_3 ok_2) ?_
        refine ws_iconst (v := 0) (dcd d_D_gone_1 7 rfl) (by decide) ?_
        refine ws_istore (l' := [(4, .int 0), (3, .int a6), (2, .ref (roV x1)), (0, .ref 2), (1, .int x1)]) (dcd d_D_gone_1 8 rfl) (by decide) rfl ?_
        exact ws_loc [3, 2, 0] rfl h
      · have h := h.2 c7
        refine ws_aload_n 2 (dcd d_D_gone_0 21 rfl) rfl ?_
        refine ws_iload_n 0 (dcd d_D_gone_0 22 rfl) rfl ?_
        refine ws_callVI (o := 2) (As := [.int a6]) (st := []) (la := [(0, .ref 2), (1, .int a6)]) (dcd d_D_gone_0 23 rfl) cv_D_found k_D_91 ⟨by decide, by decide⟩ ok_2 rfl (Nat.le_of_ble_eq_true rfl) (Nat.le_of_ble_eq_true rfl) rfl rfl sp_D_found ?_
        rintro _ _ ⟨rfl, rfl⟩
        exact ws_iret (dcd d_D_gone_0 24 rfl) ⟨_, rfl, rfl⟩ h
    · have h := h.2 c4
      refine ws_if_ne (tgt := 22) (dcd d_D_gone_0 8 rfl) (by decide) (fun c => absurd (show (0 : Int32) = 0 from by decide) c) (fun _ => ?_)
      refine ws_bipush (v := (-4)) (dcd d_D_gone_0 9 rfl) (by decide) ?_
      exact ws_iret (dcd d_D_gone_0 10 rfl) ⟨_, rfl, rfl⟩ h
  · have h := h.2 c1
    refine ws_if_ne (tgt := 9) (dcd d_D_gone_0 2 rfl) (by decide) (fun c => absurd (show (0 : Int32) = 0 from by decide) c) (fun _ => ?_)
    refine ws_iconst (v := (-1)) (dcd d_D_gone_0 3 rfl) (by decide) ?_
    exact ws_iret (dcd d_D_gone_0 4 rfl) ⟨_, rfl, rfl⟩ h
theorem sg_D_gone_71 {o2 : Nat} {x4 : Int32} (k2 : okS o2 6) (h : (pl (mR u 2 10) → (((mI u (mR u 2 10) 1) ≤ x4 → Q (some (.int (mI u 7 0))) u) ∧ (¬ ((mI u (mR u 2 10) 1) ≤ x4) → Ws G D_gone 71 [(0, .ref 2), (2, .ref o2), (4, .int (x4 + 1))] [] (snS u 7 x4 (spG u o2 (x4 + 2))) Q)))) : Ws G D_gone 71 [(0, .ref 2), (2, .ref o2), (4, .int x4)] [] u Q := by
  refine ws_iload 2 (dcd d_D_gone_1 9 rfl) rfl ?_
  refine ws_aload_n 0 (dcd d_D_gone_1 10 rfl) rfl ?_
  refine ws_getP (by decide) f_D_63 (dcd d_D_gone_1 11 rfl) (fun j1 => ?_)
  have h := h j1
  refine ws_getI f_D_163 rfl (dcd d_D_gone_1 12 rfl) (pl_ok j1) ?_
  refine ws_icmp_ge (tgt := 106) (dcd d_D_gone_1 13 rfl) (by decide) (fun c2 => ?_) (fun c2 => ?_)
  · have h := h.1 c2
    refine ws_aload_n 0 (dcd d_D_gone_1 25 rfl) rfl ?_
    refine ws_getF (a := 7) f_D_28 rfl (dcd d_D_gone_1 26 rfl) ok_2 of_7_3 rfl ?_
    refine ws_getI f_D_84 rfl (dcd d_D_gone_1 27 rfl) (os_7_3 ok_2) ?_
    exact ws_iret (dcd d_D_gone_1 28 rfl) ⟨_, rfl, rfl⟩ h
  · have h := h.2 c2
    refine ws_aload_n 0 (dcd d_D_gone_1 14 rfl) rfl ?_
    refine ws_getF (a := 7) f_D_28 rfl (dcd d_D_gone_1 15 rfl) ok_2 of_7_3 rfl ?_
    refine ws_iload 2 (dcd d_D_gone_1 16 rfl) rfl ?_
    refine ws_aload_n 1 (dcd d_D_gone_1 17 rfl) rfl ?_
    refine ws_iload 2 (dcd d_D_gone_1 18 rfl) rfl ?_
    refine ws_iconst (v := 2) (dcd d_D_gone_1 19 rfl) (by decide) ?_
    refine ws_iadd (dcd d_D_gone_1 20 rfl) ?_
    refine ws_callVI (o := o2) (As := [.int (x4 + 2)]) (st := [.int x4, .ref 7]) (la := [(0, .ref o2), (1, .int (x4 + 2))]) (dcd d_D_gone_1 21 rfl) cv_Sp_get k_D_107 ⟨by decide, by decide⟩ k2 rfl (Nat.le_of_ble_eq_true rfl) (Nat.le_of_ble_eq_true rfl) rfl rfl (sp_Sp_get k2) ?_
    rintro _ _ ⟨rfl, rfl⟩
    refine ws_callVV (o := 7) (As := [.int x4, .int (spG u o2 (x4 + 2))]) (st := []) (la := [(0, .ref 7), (1, .int x4), (2, .int (spG u o2 (x4 + 2)))]) (dcd d_D_gone_1 22 rfl) cv_Sn_setDoor k_D_322 ⟨by decide, by decide⟩ (os_7_3 ok_2) rfl (Nat.le_of_ble_eq_true rfl) (Nat.le_of_ble_eq_true rfl) rfl rfl (sp_Sn_setDoor (os_7_3 ok_2)) ?_
    rintro _ rfl
    refine ws_iinc (v := 1) (l' := [(4, .int (x4 + 1)), (0, .ref 2), (2, .ref o2)]) 2 (dcd d_D_gone_1 23 rfl) rfl (by decide) (by decide) rfl ?_
    refine ws_goto (tgt := 71) (dcd d_D_gone_1 24 rfl) (by decide) ?_
    exact ws_loc [1, 2, 0] rfl h
theorem sg_D_imageFinding_0 {o1 : Nat} (k1 : okS o1 6) (h : (((0 ≤ (mI u o1 1)) → (pl (mR u 2 10) → (((mI u o1 1) = ((mI u (mR u 2 10) 1) + 2) → (((spG u o1 0) < 0 → Q (some (.int 3)) u) ∧ (¬ ((spG u o1 0) < 0) → ((100000 < (spG u o1 0) → Q (some (.int 3)) u) ∧ (¬ (100000 < (spG u o1 0)) → (pl (mR u 2 10) → (((0 ≤ (spG u o1 1) ∧ (spG u o1 1) >>> ((mI u (mR u 2 10) 0) &&& 31) = 0) → (((bcV (spG u o1 1)) ≤ 3 → Ws G D_imageFinding 76 [(0, .ref 2), (1, .ref o1), (4, .int 0), (5, .int 0)] [] u Q) ∧ (¬ ((bcV (spG u o1 1)) ≤ 3) → Q (some (.int 3)) u))) ∧ (¬ (0 ≤ (spG u o1 1) ∧ (spG u o1 1) >>> ((mI u (mR u 2 10) 0) &&& 31) = 0) → Q (some (.int 3)) u)))))))) ∧ (¬ (mI u o1 1) = ((mI u (mR u 2 10) 1) + 2) → Q (some (.int 5)) u)))) ∧ (¬ (0 ≤ (mI u o1 1)) → Q (some (.int 1)) u))) : Ws G D_imageFinding 0 [(0, .ref 2), (1, .ref o1)] [] u Q := by
  refine ws_aload_n 1 (dcd d_D_imageFinding_0 0 rfl) rfl ?_
  refine ws_callVI (o := o1) (As := []) (st := []) (la := [(0, .ref o1)]) (dcd d_D_imageFinding_0 1 rfl) cv_Sp_isThere k_D_117 ⟨by decide, by decide⟩ k1 rfl (Nat.le_of_ble_eq_true rfl) (Nat.le_of_ble_eq_true rfl) rfl rfl (sp_Sp_isThere k1) ?_
  rintro _ _ ⟨rfl, ⟨rfl, c1⟩ | ⟨rfl, c1⟩⟩
  · have h := h.1 c1
    refine ws_if_ne (tgt := 9) (dcd d_D_imageFinding_0 2 rfl) (by decide) (fun _ => ?_) (fun c => absurd c (by decide))
    refine ws_aload_n 1 (dcd d_D_imageFinding_0 5 rfl) rfl ?_
    refine ws_getI f_D_121 rfl (dcd d_D_imageFinding_0 6 rfl) k1 ?_
    refine ws_aload_n 0 (dcd d_D_imageFinding_0 7 rfl) rfl ?_
    refine ws_getP (by decide) f_D_63 (dcd d_D_imageFinding_0 8 rfl) (fun j3 => ?_)
    have h := h j3
    refine ws_getI f_D_163 rfl (dcd d_D_imageFinding_0 9 rfl) (pl_ok j3) ?_
    refine ws_iconst (v := 2) (dcd d_D_imageFinding_0 10 rfl) (by decide) ?_
    refine ws_iadd (dcd d_D_imageFinding_0 11 rfl) ?_
    refine ws_icmp_eq (tgt := 27) (dcd d_D_imageFinding_0 12 rfl) (by decide) (fun c4 => ?_) (fun c4 => ?_)
    · have h := h.1 c4
      refine ws_aload_n 1 (dcd d_D_imageFinding_0 15 rfl) rfl ?_
      refine ws_iconst (v := 0) (dcd d_D_imageFinding_0 16 rfl) (by decide) ?_
      refine ws_callVI (o := o1) (As := [.int 0]) (st := []) (la := [(0, .ref o1), (1, .int 0)]) (dcd d_D_imageFinding_0 17 rfl) cv_Sp_get k_D_107 ⟨by decide, by decide⟩ k1 rfl (Nat.le_of_ble_eq_true rfl) (Nat.le_of_ble_eq_true rfl) rfl rfl (sp_Sp_get k1) ?_
      rintro _ _ ⟨rfl, rfl⟩
      refine ws_istore_n (l' := [(2, .int (spG u o1 0)), (0, .ref 2), (1, .ref o1)]) (dcd d_D_imageFinding_0 18 rfl) (by decide) rfl ?_
      refine ws_aload_n 2 (dcd d_D_imageFinding_0 19 rfl) rfl ?_
      refine ws_iconst (v := 1) (dcd d_D_imageFinding_0 20 rfl) (by decide) ?_
      refine ws_callVI (o := o1) (As := [.int 1]) (st := []) (la := [(0, .ref o1), (1, .int 1)]) (dcd d_D_imageFinding_0 21 rfl) cv_Sp_get k_D_107 ⟨by decide, by decide⟩ k1 rfl (Nat.le_of_ble_eq_true rfl) (Nat.le_of_ble_eq_true rfl) rfl rfl (sp_Sp_get k1) ?_
      rintro _ _ ⟨rfl, rfl⟩
      refine ws_istore_n (l' := [(3, .int (spG u o1 1)), (2, .int (spG u o1 0)), (0, .ref 2), (1, .ref o1)]) (dcd d_D_imageFinding_0 22 rfl) (by decide) rfl ?_
      refine ws_iload_n 1 (dcd d_D_imageFinding_0 23 rfl) rfl ?_
      refine ws_if_lt (tgt := 68) (dcd d_D_imageFinding_0 24 rfl) (by decide) (fun c5 => ?_) (fun c5 => ?_)
      · have h := h.1 c5
        refine ws_iconst (v := 3) (dcd d_D_imageFinding_1 7 rfl) (by decide) ?_
        exact ws_iret (dcd d_D_imageFinding_1 8 rfl) ⟨_, rfl, rfl⟩ h
      · have h := h.2 c5
        refine ws_iload_n 1 (dcd d_D_imageFinding_0 25 rfl) rfl ?_
        refine ws_ldc (dcd d_D_imageFinding_0 26 rfl) q_D_212 ?_
        refine ws_icmp_gt (tgt := 68) (dcd d_D_imageFinding_0 27 rfl) (by decide) (fun c6 => ?_) (fun c6 => ?_)
        · have h := h.1 c6
          refine ws_iconst (v := 3) (dcd d_D_imageFinding_1 7 rfl) (by decide) ?_
          exact ws_iret (dcd d_D_imageFinding_1 8 rfl) ⟨_, rfl, rfl⟩ h
        · have h := h.2 c6
          refine ws_aload_n 2 (dcd d_D_imageFinding_0 28 rfl) rfl ?_
          refine ws_getP (by decide) f_D_63 (dcd d_D_imageFinding_0 29 rfl) (fun j7 => ?_)
          have h := h j7
          refine ws_iload_n 0 (dcd d_D_imageFinding_1 0 rfl) rfl ?_
          refine ws_callVI (o := (mR u 2 10)) (As := [.int (spG u o1 1)]) (st := []) (la := [(0, .ref (mR u 2 10)), (1, .int (spG u o1 1))]) (dcd d_D_imageFinding_1 1 rfl) cv_Pl_hasDoorSet k_D_344 ⟨by decide, by decide⟩ (pl_ok j7) rfl (Nat.le_of_ble_eq_true rfl) (Nat.le_of_ble_eq_true rfl) rfl rfl (sp_Pl_hasDoorSet (pl_ok j7)) ?_
          rintro _ _ ⟨rfl, ⟨rfl, c8⟩ | ⟨rfl, c8⟩⟩
          · have h := h.1 c8
            refine ws_if_eq (tgt := 68) (dcd d_D_imageFinding_1 2 rfl) (by decide) (fun c => absurd c (by decide)) (fun _ => ?_)
            refine ws_iload_n 0 (dcd d_D_imageFinding_1 3 rfl) rfl ?_
            refine ws_callSI (As := [.int (spG u o1 1)]) (st := []) (la := [(0, .int (spG u o1 1))]) (dcd d_D_imageFinding_1 4 rfl) cs_ji_bitCount k_D_274 ⟨by decide, by decide⟩ rfl (Nat.le_of_ble_eq_true rfl) (Nat.le_of_ble_eq_true rfl) rfl rfl sp_ji_bitCount ?_
            rintro _ _ ⟨rfl, rfl⟩
            refine ws_iconst (v := 3) (dcd d_D_imageFinding_1 5 rfl) (by decide) ?_
            refine ws_icmp_le (tgt := 70) (dcd d_D_imageFinding_1 6 rfl) (by decide) (fun c10 => ?_) (fun c10 => ?_)
            · have h := h.1 c10
              refine ws_iconst (v := 0) (dcd d_D_imageFinding_1 9 rfl) (by decide) ?_
              refine ws_istore (l' := [(4, .int 0), (3, .int (spG u o1 1)), (2, .int (spG u o1 0)), (0, .ref 2), (1, .ref o1)]) (dcd d_D_imageFinding_1 10 rfl) (by decide) rfl ?_
              refine ws_iconst (v := 0) (dcd d_D_imageFinding_1 11 rfl) (by decide) ?_
              refine ws_istore (l' := [(5, .int 0), (4, .int 0), (3, .int (spG u o1 1)), (2, .int (spG u o1 0)), (0, .ref 2), (1, .ref o1)]) (dcd d_D_imageFinding_1 12 rfl) (by decide) rfl ?_
              exact ws_loc [4, 5, 1, 0] rfl h
            · have h := h.2 c10
              refine ws_iconst (v := 3) (dcd d_D_imageFinding_1 7 rfl) (by decide) ?_
              exact ws_iret (dcd d_D_imageFinding_1 8 rfl) ⟨_, rfl, rfl⟩ h
          · have h := h.2 c8
            refine ws_if_eq (tgt := 68) (dcd d_D_imageFinding_1 2 rfl) (by decide) (fun _ => ?_) (fun c => absurd (show (0 : Int32) = 0 from by decide) c)
            refine ws_iconst (v := 3) (dcd d_D_imageFinding_1 7 rfl) (by decide) ?_
            exact ws_iret (dcd d_D_imageFinding_1 8 rfl) ⟨_, rfl, rfl⟩ h
    · have h := h.2 c4
      refine ws_iconst (v := 5) (dcd d_D_imageFinding_0 13 rfl) (by decide) ?_
      exact ws_iret (dcd d_D_imageFinding_0 14 rfl) ⟨_, rfl, rfl⟩ h
  · have h := h.2 c1
    refine ws_if_ne (tgt := 9) (dcd d_D_imageFinding_0 2 rfl) (by decide) (fun c => absurd (show (0 : Int32) = 0 from by decide) c) (fun _ => ?_)
    refine ws_iconst (v := 1) (dcd d_D_imageFinding_0 3 rfl) (by decide) ?_
    exact ws_iret (dcd d_D_imageFinding_0 4 rfl) ⟨_, rfl, rfl⟩ h
theorem sg_D_imageFinding_76 {o1 : Nat} {x4 : Int32} {x5 : Int32} (k1 : okS o1 6) (h : (pl (mR u 2 10) → (((mI u (mR u 2 10) 1) ≤ x5 → Q (some (.int 0)) u) ∧ (¬ ((mI u (mR u 2 10) 1) ≤ x5) → (pl (mR u 2 10) → (((0 ≤ (spG u o1 (x5 + 2)) ∧ (spG u o1 (x5 + 2)) < (mI u (mR u 2 10) 0)) → (((isI x4 (spG u o1 (x5 + 2))) → Q (some (.int 3)) u) ∧ (¬ (isI x4 (spG u o1 (x5 + 2))) → Ws G D_imageFinding 76 [(0, .ref 2), (1, .ref o1), (4, .int (x4 ||| (1 <<< ((spG u o1 (x5 + 2)) &&& 31)))), (5, .int (x5 + 1))] [] u Q))) ∧ (¬ (0 ≤ (spG u o1 (x5 + 2)) ∧ (spG u o1 (x5 + 2)) < (mI u (mR u 2 10) 0)) → Q (some (.int 3)) u))))))) : Ws G D_imageFinding 76 [(0, .ref 2), (1, .ref o1), (4, .int x4), (5, .int x5)] [] u Q := by
  refine ws_iload 3 (dcd d_D_imageFinding_1 13 rfl) rfl ?_
  refine ws_aload_n 0 (dcd d_D_imageFinding_1 14 rfl) rfl ?_
  refine ws_getP (by decide) f_D_63 (dcd d_D_imageFinding_1 15 rfl) (fun j1 => ?_)
  have h := h j1
  refine ws_getI f_D_163 rfl (dcd d_D_imageFinding_1 16 rfl) (pl_ok j1) ?_
  refine ws_icmp_ge (tgt := 137) (dcd d_D_imageFinding_1 17 rfl) (by decide) (fun c2 => ?_) (fun c2 => ?_)
  · have h := h.1 c2
    refine ws_iconst (v := 0) (dcd d_D_imageFinding_2 13 rfl) (by decide) ?_
    exact ws_iret (dcd d_D_imageFinding_2 14 rfl) ⟨_, rfl, rfl⟩ h
  · have h := h.2 c2
    refine ws_aload_n 1 (dcd d_D_imageFinding_1 18 rfl) rfl ?_
    refine ws_iload 3 (dcd d_D_imageFinding_1 19 rfl) rfl ?_
    refine ws_iconst (v := 2) (dcd d_D_imageFinding_1 20 rfl) (by decide) ?_
    refine ws_iadd (dcd d_D_imageFinding_1 21 rfl) ?_
    refine ws_callVI (o := o1) (As := [.int (x5 + 2)]) (st := []) (la := [(0, .ref o1), (1, .int (x5 + 2))]) (dcd d_D_imageFinding_1 22 rfl) cv_Sp_get k_D_107 ⟨by decide, by decide⟩ k1 rfl (Nat.le_of_ble_eq_true rfl) (Nat.le_of_ble_eq_true rfl) rfl rfl (sp_Sp_get k1) ?_
    rintro _ _ ⟨rfl, rfl⟩
    refine ws_istore (l' := [(6, .int (spG u o1 (x5 + 2))), (0, .ref 2), (1, .ref o1), (4, .int x4), (5, .int x5)]) (dcd d_D_imageFinding_1 23 rfl) (by decide) rfl ?_
    refine ws_aload_n 1 (dcd d_D_imageFinding_1 24 rfl) rfl ?_
    refine ws_getP (by decide) f_D_63 (dcd d_D_imageFinding_1 25 rfl) (fun j3 => ?_)
    have h := h j3
    refine ws_iload 0 (dcd d_D_imageFinding_1 26 rfl) rfl ?_
    refine ws_callVI (o := (mR u 2 10)) (As := [.int (spG u o1 (x5 + 2))]) (st := []) (la := [(0, .ref (mR u 2 10)), (1, .int (spG u o1 (x5 + 2)))]) (dcd d_D_imageFinding_1 27 rfl) cv_Pl_hasDoor k_D_198 ⟨by decide, by decide⟩ (pl_ok j3) rfl (Nat.le_of_ble_eq_true rfl) (Nat.le_of_ble_eq_true rfl) rfl rfl (sp_Pl_hasDoor (pl_ok j3)) ?_
    rintro _ _ ⟨rfl, ⟨rfl, c4⟩ | ⟨rfl, c4⟩⟩
    · have h := h.1 c4
      refine ws_if_eq (tgt := 120) (dcd d_D_imageFinding_1 28 rfl) (by decide) (fun c => absurd c (by decide)) (fun _ => ?_)
      refine ws_iload 3 (dcd d_D_imageFinding_1 29 rfl) rfl ?_
      refine ws_iload 0 (dcd d_D_imageFinding_2 0 rfl) rfl ?_
      refine ws_callSI (As := [.int x4, .int (spG u o1 (x5 + 2))]) (st := []) (la := [(0, .int x4), (1, .int (spG u o1 (x5 + 2)))]) (dcd d_D_imageFinding_2 1 rfl) cs_D_isIn k_D_279 ⟨by decide, by decide⟩ rfl (Nat.le_of_ble_eq_true rfl) (Nat.le_of_ble_eq_true rfl) rfl rfl sp_D_isIn ?_
      rintro _ _ ⟨rfl, ⟨rfl, c6⟩ | ⟨rfl, c6⟩⟩
      · have h := h.1 c6
        refine ws_if_eq (tgt := 122) (dcd d_D_imageFinding_2 2 rfl) (by decide) (fun c => absurd c (by decide)) (fun _ => ?_)
        refine ws_iconst (v := 3) (dcd d_D_imageFinding_2 3 rfl) (by decide) ?_
        exact ws_iret (dcd d_D_imageFinding_2 4 rfl) ⟨_, rfl, rfl⟩ h
      · have h := h.2 c6
        refine ws_if_eq (tgt := 122) (dcd d_D_imageFinding_2 2 rfl) (by decide) (fun _ => ?_) (fun c => absurd (show (0 : Int32) = 0 from by decide) c)
        refine ws_iload 3 (dcd d_D_imageFinding_2 5 rfl) rfl ?_
        refine ws_iconst (v := 1) (dcd d_D_imageFinding_2 6 rfl) (by decide) ?_
        refine ws_iload 0 (dcd d_D_imageFinding_2 7 rfl) rfl ?_
        refine ws_ishl (dcd d_D_imageFinding_2 8 rfl) ?_
        refine ws_ior (dcd d_D_imageFinding_2 9 rfl) ?_
        refine ws_istore (l' := [(4, .int (x4 ||| (1 <<< ((spG u o1 (x5 + 2)) &&& 31)))), (6, .int (spG u o1 (x5 + 2))), (0, .ref 2), (1, .ref o1), (5, .int x5)]) (dcd d_D_imageFinding_2 10 rfl) (by decide) rfl ?_
        refine ws_iinc (v := 1) (l' := [(5, .int (x5 + 1)), (4, .int (x4 ||| (1 <<< ((spG u o1 (x5 + 2)) &&& 31)))), (6, .int (spG u o1 (x5 + 2))), (0, .ref 2), (1, .ref o1)]) 4 (dcd d_D_imageFinding_2 11 rfl) rfl (by decide) (by decide) rfl ?_
        refine ws_goto (tgt := 76) (dcd d_D_imageFinding_2 12 rfl) (by decide) ?_
        exact ws_loc [3, 4, 1, 0] rfl h
    · have h := h.2 c4
      refine ws_if_eq (tgt := 120) (dcd d_D_imageFinding_1 28 rfl) (by decide) (fun _ => ?_) (fun c => absurd (show (0 : Int32) = 0 from by decide) c)
      refine ws_iconst (v := 3) (dcd d_D_imageFinding_2 3 rfl) (by decide) ?_
      exact ws_iret (dcd d_D_imageFinding_2 4 rfl) ⟨_, rfl, rfl⟩ h
theorem sg_D_asked_0   (h : Q (some (.int (mI u 2 12))) u) : Ws G D_asked 0 [(0, .ref 2)] [] u Q := by
  refine ws_aload_n 0 (dcd d_D_asked_0 0 rfl) rfl ?_
  refine ws_getI f_D_70 rfl (dcd d_D_asked_0 1 rfl) ok_2 ?_
  exact ws_iret (dcd d_D_asked_0 2 rfl) ⟨_, rfl, rfl⟩ h
theorem sg_D_upper_0   (h : Q (some (.long (mL u 2 13))) u) : Ws G D_upper 0 [(0, .ref 2)] [] u Q := by
  refine ws_aload_n 0 (dcd d_D_upper_0 0 rfl) rfl ?_
  refine ws_getL f_D_74 rfl (dcd d_D_upper_0 1 rfl) ok_2 ?_
  exact ws_lret (dcd d_D_upper_0 2 rfl) rfl h
theorem sg_D_lower_0   (h : Q (some (.long (mL u 2 14))) u) : Ws G D_lower 0 [(0, .ref 2)] [] u Q := by
  refine ws_aload_n 0 (dcd d_D_lower_0 0 rfl) rfl ?_
  refine ws_getL f_D_78 rfl (dcd d_D_lower_0 1 rfl) ok_2 ?_
  exact ws_lret (dcd d_D_lower_0 2 rfl) rfl h
theorem sg_D_count_0 {x1 : Int32}  (h : ((x1 < 0 → Q (some (.int (-1))) u) ∧ (¬ (x1 < 0) → ((x1 ≤ 7 → Ws G D_countOf 0 [(0, .ref 2), (1, .int x1)] [] u (RI fun a3 u3 => Q (some (.int a3)) u3)) ∧ (¬ (x1 ≤ 7) → Q (some (.int (-1))) u))))) : Ws G D_count 0 [(0, .ref 2), (1, .int x1)] [] u Q := by
  refine ws_iload_n 1 (dcd d_D_count_0 0 rfl) rfl ?_
  refine ws_if_lt (tgt := 10) (dcd d_D_count_0 1 rfl) (by decide) (fun c1 => ?_) (fun c1 => ?_)
  · have h := h.1 c1
    refine ws_iconst (v := (-1)) (dcd d_D_count_0 5 rfl) (by decide) ?_
    refine ws_goto (tgt := 19) (dcd d_D_count_0 6 rfl) (by decide) ?_
    exact ws_iret (dcd d_D_count_0 10 rfl) ⟨_, rfl, rfl⟩ h
  · have h := h.2 c1
    refine ws_iload_n 1 (dcd d_D_count_0 2 rfl) rfl ?_
    refine ws_bipush (v := 7) (dcd d_D_count_0 3 rfl) (by decide) ?_
    refine ws_icmp_le (tgt := 14) (dcd d_D_count_0 4 rfl) (by decide) (fun c2 => ?_) (fun c2 => ?_)
    · have h := h.1 c2
      refine ws_aload_n 0 (dcd d_D_count_0 7 rfl) rfl ?_
      refine ws_iload_n 1 (dcd d_D_count_0 8 rfl) rfl ?_
      refine ws_callVI (o := 2) (As := [.int x1]) (st := []) (la := [(0, .ref 2), (1, .int x1)]) (dcd d_D_count_0 9 rfl) cv_D_countOf k_D_325 ⟨by decide, by decide⟩ ok_2 rfl (Nat.le_of_ble_eq_true rfl) (Nat.le_of_ble_eq_true rfl) rfl rfl h (fun a3 u3 h => ?_)
      exact ws_iret (dcd d_D_count_0 10 rfl) ⟨_, rfl, rfl⟩ h
    · have h := h.2 c2
      refine ws_iconst (v := (-1)) (dcd d_D_count_0 5 rfl) (by decide) ?_
      refine ws_goto (tgt := 19) (dcd d_D_count_0 6 rfl) (by decide) ?_
      exact ws_iret (dcd d_D_count_0 10 rfl) ⟨_, rfl, rfl⟩ h
theorem sg_D_countOf_0 {x1 : Int32}  (h : ((x1 = 0 → (pl (mR u 2 10) → Q (some (.int (mI u (mR u 2 10) 0))) u)) ∧ (x1 = 1 → (pl (mR u 2 10) → Q (some (.int (mI u (mR u 2 10) 1))) u)) ∧ (x1 = 2 → Q (some (.int (mI u 7 0))) u) ∧ (x1 = 3 → (pl (mR u 2 10) → Ws G Pl_sleepers 0 [(0, .ref (mR u 2 10))] [] u (RI fun a9 u9 => Q (some (.int a9)) u9))) ∧ (x1 = 4 → Q (some (.int (bcV (mI u 7 1)))) u) ∧ (x1 = 5 → Q (some (.int (mI u 14 0))) u) ∧ (x1 = 6 → Ws G D_countThere 0 [(0, .ref 3)] [] u (RI fun a13 u13 => Q (some (.int a13)) u13)) ∧ (¬ x1 = 0 ∧ ¬ x1 = 1 ∧ ¬ x1 = 2 ∧ ¬ x1 = 3 ∧ ¬ x1 = 4 ∧ ¬ x1 = 5 ∧ ¬ x1 = 6 → Ws G D_countThere 0 [(0, .ref 4)] [] u (RI fun a14 u14 => Q (some (.int a14)) u14)))) : Ws G D_countOf 0 [(0, .ref 2), (1, .int x1)] [] u Q := by
  refine ws_iload_n 1 (dcd d_D_countOf_0 0 rfl) rfl ?_
  by_cases c2 : x1 = 0
  · have h := h.1 c2
    refine ws_tableIn (off := 43) (tgt := 44) 0 (dcd d_D_countOf_0 1 rfl) (by rw [c2]; decide) (by decide) rfl (by decide) ?_
    refine ws_aload_n 0 (dcd d_D_countOf_0 2 rfl) rfl ?_
    refine ws_getP (by decide) f_D_63 (dcd d_D_countOf_0 3 rfl) (fun j3 => ?_)
    have h := h j3
    refine ws_getI f_D_252 rfl (dcd d_D_countOf_0 4 rfl) (pl_ok j3) ?_
    exact ws_iret (dcd d_D_countOf_0 5 rfl) ⟨_, rfl, rfl⟩ h
  by_cases c4 : x1 = 1
  · have h := h.2.1 c4
    refine ws_tableIn (off := 51) (tgt := 52) 1 (dcd d_D_countOf_0 1 rfl) (by rw [c4]; decide) (by decide) rfl (by decide) ?_
    refine ws_aload_n 0 (dcd d_D_countOf_0 6 rfl) rfl ?_
    refine ws_getP (by decide) f_D_63 (dcd d_D_countOf_0 7 rfl) (fun j5 => ?_)
    have h := h j5
    refine ws_getI f_D_163 rfl (dcd d_D_countOf_0 8 rfl) (pl_ok j5) ?_
    exact ws_iret (dcd d_D_countOf_0 9 rfl) ⟨_, rfl, rfl⟩ h
  by_cases c6 : x1 = 2
  · have h := h.2.2.1 c6
    refine ws_tableIn (off := 59) (tgt := 60) 2 (dcd d_D_countOf_0 1 rfl) (by rw [c6]; decide) (by decide) rfl (by decide) ?_
    refine ws_aload_n 0 (dcd d_D_countOf_0 10 rfl) rfl ?_
    refine ws_getF (a := 7) f_D_28 rfl (dcd d_D_countOf_0 11 rfl) ok_2 of_7_3 rfl ?_
    refine ws_getI f_D_84 rfl (dcd d_D_countOf_0 12 rfl) (os_7_3 ok_2) ?_
    exact ws_iret (dcd d_D_countOf_0 13 rfl) ⟨_, rfl, rfl⟩ h
  by_cases c7 : x1 = 3
  · have h := h.2.2.2.1 c7
    refine ws_tableIn (off := 67) (tgt := 68) 3 (dcd d_D_countOf_0 1 rfl) (by rw [c7]; decide) (by decide) rfl (by decide) ?_
    refine ws_aload_n 0 (dcd d_D_countOf_0 14 rfl) rfl ?_
    refine ws_getP (by decide) f_D_63 (dcd d_D_countOf_0 15 rfl) (fun j8 => ?_)
    have h := h j8
    refine ws_callVI (o := (mR u 2 10)) (As := []) (st := []) (la := [(0, .ref (mR u 2 10))]) (dcd d_D_countOf_0 16 rfl) cv_Pl_sleepers k_D_353 ⟨by decide, by decide⟩ (pl_ok j8) rfl (Nat.le_of_ble_eq_true rfl) (Nat.le_of_ble_eq_true rfl) rfl rfl h (fun a9 u9 h => ?_)
    exact ws_iret (dcd d_D_countOf_0 17 rfl) ⟨_, rfl, rfl⟩ h
  by_cases c10 : x1 = 4
  · have h := h.2.2.2.2.1 c10
    refine ws_tableIn (off := 75) (tgt := 76) 4 (dcd d_D_countOf_0 1 rfl) (by rw [c10]; decide) (by decide) rfl (by decide) ?_
    refine ws_aload_n 0 (dcd d_D_countOf_0 18 rfl) rfl ?_
    refine ws_getF (a := 7) f_D_28 rfl (dcd d_D_countOf_0 19 rfl) ok_2 of_7_3 rfl ?_
    refine ws_callVI (o := 7) (As := []) (st := []) (la := [(0, .ref 7)]) (dcd d_D_countOf_0 20 rfl) cv_Sn_shutCount k_D_204 ⟨by decide, by decide⟩ (os_7_3 ok_2) rfl (Nat.le_of_ble_eq_true rfl) (Nat.le_of_ble_eq_true rfl) rfl rfl (sp_Sn_shutCount (os_7_3 ok_2)) ?_
    rintro _ _ ⟨rfl, rfl⟩
    exact ws_iret (dcd d_D_countOf_0 21 rfl) ⟨_, rfl, rfl⟩ h
  by_cases c11 : x1 = 5
  · have h := h.2.2.2.2.2.1 c11
    refine ws_tableIn (off := 83) (tgt := 84) 5 (dcd d_D_countOf_0 1 rfl) (by rw [c11]; decide) (by decide) rfl (by decide) ?_
    refine ws_aload_n 0 (dcd d_D_countOf_0 22 rfl) rfl ?_
    refine ws_getF (a := 14) f_D_45 rfl (dcd d_D_countOf_0 23 rfl) ok_2 of_7_7 rfl ?_
    refine ws_getI f_D_158 rfl (dcd d_D_countOf_0 24 rfl) (os_7_7 ok_2) ?_
    exact ws_iret (dcd d_D_countOf_0 25 rfl) ⟨_, rfl, rfl⟩ h
  by_cases c12 : x1 = 6
  · have h := h.2.2.2.2.2.2.1 c12
    refine ws_tableIn (off := 91) (tgt := 92) 6 (dcd d_D_countOf_0 1 rfl) (by rw [c12]; decide) (by decide) rfl (by decide) ?_
    refine ws_aload_n 0 (dcd d_D_countOf_0 26 rfl) rfl ?_
    refine ws_getF (a := 3) f_D_11 rfl (dcd d_D_countOf_0 27 rfl) ok_2 of_7_0 rfl ?_
    refine ws_callSI (As := [.ref 3]) (st := []) (la := [(0, .ref 3)]) (dcd d_D_countOf_0 28 rfl) cs_D_countThere k_D_356 ⟨by decide, by decide⟩ rfl (Nat.le_of_ble_eq_true rfl) (Nat.le_of_ble_eq_true rfl) rfl rfl h (fun a13 u13 h => ?_)
    exact ws_iret (dcd d_D_countOf_0 29 rfl) ⟨_, rfl, rfl⟩ h
  have h := h.2.2.2.2.2.2.2 ⟨c2, c4, c6, c7, c10, c11, c12⟩
  have nc2 := lv_neT c2 (a := 0) (by decide)
  have nc4 := lv_neT c4 (a := 1) (by decide)
  have nc6 := lv_neT c6 (a := 2) (by decide)
  have nc7 := lv_neT c7 (a := 3) (by decide)
  have nc10 := lv_neT c10 (a := 4) (by decide)
  have nc11 := lv_neT c11 (a := 5) (by decide)
  have nc12 := lv_neT c12 (a := 6) (by decide)
  refine ws_tableOut (tgt := 100) (dcd d_D_countOf_0 1 rfl) (by omega) (by decide) ?_
  refine ws_aload_n 0 (dcd d_D_countOf_1 0 rfl) rfl ?_
  refine ws_getF (a := 4) f_D_15 rfl (dcd d_D_countOf_1 1 rfl) ok_2 of_7_1 rfl ?_
  refine ws_callSI (As := [.ref 4]) (st := []) (la := [(0, .ref 4)]) (dcd d_D_countOf_1 2 rfl) cs_D_countThere k_D_356 ⟨by decide, by decide⟩ rfl (Nat.le_of_ble_eq_true rfl) (Nat.le_of_ble_eq_true rfl) rfl rfl h (fun a14 u14 h => ?_)
  exact ws_iret (dcd d_D_countOf_1 3 rfl) ⟨_, rfl, rfl⟩ h
theorem sg_Pl_sleepers_0 {o0 : Nat} (k0 : okS o0 2) (h : Ws G Pl_sleepers 4 [(0, .ref o0), (1, .int 0), (2, .int 0)] [] u Q) : Ws G Pl_sleepers 0 [(0, .ref o0)] [] u Q := by
  refine ws_iconst (v := 0) (dcd d_Pl_sleepers_0 0 rfl) (by decide) ?_
  refine ws_istore_n (l' := [(1, .int 0), (0, .ref o0)]) (dcd d_Pl_sleepers_0 1 rfl) (by decide) rfl ?_
  refine ws_iconst (v := 0) (dcd d_Pl_sleepers_0 2 rfl) (by decide) ?_
  refine ws_istore_n (l' := [(2, .int 0), (1, .int 0), (0, .ref o0)]) (dcd d_Pl_sleepers_0 3 rfl) (by decide) rfl ?_
  exact ws_loc [2, 1, 0] rfl h
theorem sg_Pl_sleepers_4 {o0 : Nat} {x1 : Int32} {x2 : Int32} (k0 : okS o0 2) (h : (((mI u o0 1) ≤ x2 → Q (some (.int x1)) u) ∧ (¬ ((mI u o0 1) ≤ x2) → ((((3 : Int32) = (mI u (shO u o0 x2) 0) ∨ ((3 : Int32) = 3 ∧ (mI u (shO u o0 x2) 0) = 5)) → Ws G Pl_sleepers 4 [(0, .ref o0), (1, .int (x1 + 1)), (2, .int (x2 + 1))] [] u Q) ∧ (¬ ((3 : Int32) = (mI u (shO u o0 x2) 0) ∨ ((3 : Int32) = 3 ∧ (mI u (shO u o0 x2) 0) = 5)) → Ws G Pl_sleepers 4 [(0, .ref o0), (1, .int (x1 + 0)), (2, .int (x2 + 1))] [] u Q))))) : Ws G Pl_sleepers 4 [(0, .ref o0), (1, .int x1), (2, .int x2)] [] u Q := by
  refine ws_iload_n 2 (dcd d_Pl_sleepers_0 4 rfl) rfl ?_
  refine ws_aload_n 0 (dcd d_Pl_sleepers_0 5 rfl) rfl ?_
  refine ws_getI f_Pl_15 rfl (dcd d_Pl_sleepers_0 6 rfl) k0 ?_
  refine ws_icmp_ge (tgt := 38) (dcd d_Pl_sleepers_0 7 rfl) (by decide) (fun c1 => ?_) (fun c1 => ?_)
  · have h := h.1 c1
    refine ws_iload_n 1 (dcd d_Pl_sleepers_0 22 rfl) rfl ?_
    exact ws_iret (dcd d_Pl_sleepers_0 23 rfl) ⟨_, rfl, rfl⟩ h
  · have h := h.2 c1
    refine ws_iload_n 1 (dcd d_Pl_sleepers_0 8 rfl) rfl ?_
    refine ws_aload_n 0 (dcd d_Pl_sleepers_0 9 rfl) rfl ?_
    refine ws_iload_n 2 (dcd d_Pl_sleepers_0 10 rfl) rfl ?_
    refine ws_callVR (o := o0) (As := [.int x2]) (st := [.int x1]) (la := [(0, .ref o0), (1, .int x2)]) (dcd d_Pl_sleepers_0 11 rfl) cv_Pl_shopOf k_Pl_44 ⟨by decide, by decide⟩ k0 rfl (Nat.le_of_ble_eq_true rfl) (Nat.le_of_ble_eq_true rfl) rfl rfl (sp_Pl_shopOf k0) ?_
    rintro _ _ ⟨rfl, rfl⟩
    refine ws_iconst (v := 3) (dcd d_Pl_sleepers_0 12 rfl) (by decide) ?_
    refine ws_callVI (o := (shO u o0 x2)) (As := [.int 3]) (st := [.int x1]) (la := [(0, .ref (shO u o0 x2)), (1, .int 3)]) (dcd d_Pl_sleepers_0 13 rfl) cv_Sh_isOf k_Pl_48 ⟨by decide, by decide⟩ (shO_ok k0) rfl (Nat.le_of_ble_eq_true rfl) (Nat.le_of_ble_eq_true rfl) rfl rfl (sp_Sh_isOf (shO_ok k0)) ?_
    rintro _ _ ⟨rfl, ⟨rfl, c2⟩ | ⟨rfl, c2⟩⟩
    · have h := h.1 c2
      refine ws_if_eq (tgt := 29) (dcd d_Pl_sleepers_0 14 rfl) (by decide) (fun c => absurd c (by decide)) (fun _ => ?_)
      refine ws_iconst (v := 1) (dcd d_Pl_sleepers_0 15 rfl) (by decide) ?_
      refine ws_goto (tgt := 30) (dcd d_Pl_sleepers_0 16 rfl) (by decide) ?_
      refine ws_iadd (dcd d_Pl_sleepers_0 18 rfl) ?_
      refine ws_istore_n (l' := [(1, .int (x1 + 1)), (0, .ref o0), (2, .int x2)]) (dcd d_Pl_sleepers_0 19 rfl) (by decide) rfl ?_
      refine ws_iinc (v := 1) (l' := [(2, .int (x2 + 1)), (1, .int (x1 + 1)), (0, .ref o0)]) 2 (dcd d_Pl_sleepers_0 20 rfl) rfl (by decide) (by decide) rfl ?_
      refine ws_goto (tgt := 4) (dcd d_Pl_sleepers_0 21 rfl) (by decide) ?_
      exact ws_loc [2, 1, 0] rfl h
    · have h := h.2 c2
      refine ws_if_eq (tgt := 29) (dcd d_Pl_sleepers_0 14 rfl) (by decide) (fun _ => ?_) (fun c => absurd (show (0 : Int32) = 0 from by decide) c)
      refine ws_iconst (v := 0) (dcd d_Pl_sleepers_0 17 rfl) (by decide) ?_
      refine ws_iadd (dcd d_Pl_sleepers_0 18 rfl) ?_
      refine ws_istore_n (l' := [(1, .int (x1 + 0)), (0, .ref o0), (2, .int x2)]) (dcd d_Pl_sleepers_0 19 rfl) (by decide) rfl ?_
      refine ws_iinc (v := 1) (l' := [(2, .int (x2 + 1)), (1, .int (x1 + 0)), (0, .ref o0)]) 2 (dcd d_Pl_sleepers_0 20 rfl) rfl (by decide) (by decide) rfl ?_
      refine ws_goto (tgt := 4) (dcd d_Pl_sleepers_0 21 rfl) (by decide) ?_
      exact ws_loc [2, 1, 0] rfl h
theorem sg_D_countThere_0 {o0 : Nat} (k0 : okS o0 102) (h : Ws G D_countThere 4 [(0, .ref o0), (1, .int 0), (2, .int 0)] [] u Q) : Ws G D_countThere 0 [(0, .ref o0)] [] u Q := by
  refine ws_iconst (v := 0) (dcd d_D_countThere_0 0 rfl) (by decide) ?_
  refine ws_istore_n (l' := [(1, .int 0), (0, .ref o0)]) (dcd d_D_countThere_0 1 rfl) (by decide) rfl ?_
  refine ws_iconst (v := 0) (dcd d_D_countThere_0 2 rfl) (by decide) ?_
  refine ws_istore_n (l' := [(2, .int 0), (1, .int 0), (0, .ref o0)]) (dcd d_D_countThere_0 3 rfl) (by decide) rfl ?_
  exact ws_loc [2, 1, 0] rfl h
theorem sg_D_countThere_4 {o0 : Nat} {x1 : Int32} {x2 : Int32} (k0 : okS o0 102) (h : (((Int32.ofNat (S0 o0).2) ≤ x2 → Q (some (.int x1)) u) ∧ (¬ ((Int32.ofNat (S0 o0).2) ≤ x2) → (vp_in x2 (S0 o0).2 ∧ (vp_in x2 (S0 o0).2 ∧ (((0 ≤ (mI u (R0 o0 (x2 : Int32).toNatClampNeg) 1)) → Ws G D_countThere 4 [(0, .ref o0), (1, .int (x1 + 1)), (2, .int (x2 + 1))] [] u Q) ∧ (¬ (0 ≤ (mI u (R0 o0 (x2 : Int32).toNatClampNeg) 1)) → Ws G D_countThere 4 [(0, .ref o0), (1, .int x1), (2, .int (x2 + 1))] [] u Q))))))) : Ws G D_countThere 4 [(0, .ref o0), (1, .int x1), (2, .int x2)] [] u Q := by
  refine ws_iload_n 2 (dcd d_D_countThere_0 4 rfl) rfl ?_
  refine ws_aload_n 0 (dcd d_D_countThere_0 5 rfl) rfl ?_
  refine ws_alen (dcd d_D_countThere_0 6 rfl) k0 (by decide) ?_
  refine ws_icmp_ge (tgt := 34) (dcd d_D_countThere_0 7 rfl) (by decide) (fun c1 => ?_) (fun c1 => ?_)
  · have h := h.1 c1
    refine ws_iload_n 1 (dcd d_D_countThere_0 20 rfl) rfl ?_
    exact ws_iret (dcd d_D_countThere_0 21 rfl) ⟨_, rfl, rfl⟩ h
  · have h := h.2 c1
    refine ws_aload_n 0 (dcd d_D_countThere_0 8 rfl) rfl ?_
    refine ws_iload_n 2 (dcd d_D_countThere_0 9 rfl) rfl ?_
    obtain ⟨e2, h⟩ := h
    refine ws_aald (L := (S0 o0).2) (dcd d_D_countThere_0 10 rfl) k0 (by decide) rfl e2 ?_
    have j3 : okS (R0 o0 (x2 : Int32).toNatClampNeg) 6 := (ra_ok k0 (by decide) (by rw [show (S0 o0).2 = (S0 o0).2 from rfl]; exact ix_lt e2)).2
    refine ws_ifnull (dcd d_D_countThere_0 11 rfl) ?_
    refine ws_aload_n 0 (dcd d_D_countThere_0 12 rfl) rfl ?_
    refine ws_iload_n 2 (dcd d_D_countThere_0 13 rfl) rfl ?_
    obtain ⟨e4, h⟩ := h
    refine ws_aald (L := (S0 o0).2) (dcd d_D_countThere_0 14 rfl) k0 (by decide) rfl e4 ?_
    have j5 : okS (R0 o0 (x2 : Int32).toNatClampNeg) 6 := (ra_ok k0 (by decide) (by rw [show (S0 o0).2 = (S0 o0).2 from rfl]; exact ix_lt e4)).2
    refine ws_callVI (o := (R0 o0 (x2 : Int32).toNatClampNeg)) (As := []) (st := []) (la := [(0, .ref (R0 o0 (x2 : Int32).toNatClampNeg))]) (dcd d_D_countThere_0 15 rfl) cv_Sp_isThere k_D_117 ⟨by decide, by decide⟩ j5 rfl (Nat.le_of_ble_eq_true rfl) (Nat.le_of_ble_eq_true rfl) rfl rfl (sp_Sp_isThere j5) ?_
    rintro _ _ ⟨rfl, ⟨rfl, c6⟩ | ⟨rfl, c6⟩⟩
    · have h := h.1 c6
      refine ws_if_eq (tgt := 28) (dcd d_D_countThere_0 16 rfl) (by decide) (fun c => absurd c (by decide)) (fun _ => ?_)
      refine ws_iinc (v := 1) (l' := [(1, .int (x1 + 1)), (0, .ref o0), (2, .int x2)]) 1 (dcd d_D_countThere_0 17 rfl) rfl (by decide) (by decide) rfl ?_
      refine ws_iinc (v := 1) (l' := [(2, .int (x2 + 1)), (1, .int (x1 + 1)), (0, .ref o0)]) 2 (dcd d_D_countThere_0 18 rfl) rfl (by decide) (by decide) rfl ?_
      refine ws_goto (tgt := 4) (dcd d_D_countThere_0 19 rfl) (by decide) ?_
      exact ws_loc [2, 1, 0] rfl h
    · have h := h.2 c6
      refine ws_if_eq (tgt := 28) (dcd d_D_countThere_0 16 rfl) (by decide) (fun _ => ?_) (fun c => absurd (show (0 : Int32) = 0 from by decide) c)
      refine ws_iinc (v := 1) (l' := [(2, .int (x2 + 1)), (0, .ref o0), (1, .int x1)]) 2 (dcd d_D_countThere_0 18 rfl) rfl (by decide) (by decide) rfl ?_
      refine ws_goto (tgt := 4) (dcd d_D_countThere_0 19 rfl) (by decide) ?_
      exact ws_loc [1, 2, 0] rfl h
theorem sg_D_finding_0   (h : Q (some (.int (mI u 2 15))) u) : Ws G D_finding 0 [(0, .ref 2)] [] u Q := by
  refine ws_aload_n 0 (dcd d_D_finding_0 0 rfl) rfl ?_
  refine ws_getI f_D_81 rfl (dcd d_D_finding_0 1 rfl) ok_2 ?_
  exact ws_iret (dcd d_D_finding_0 2 rfl) ⟨_, rfl, rfl⟩ h
theorem sg_D_findings_0 {x1 : Int32}  (h : ((x1 < 1 → Q (some (.int (-1))) u) ∧ (¬ (x1 < 1) → ((x1 ≤ 5 → (vp_in x1 6 ∧ Q (some (.int (mI u 21 (x1 : Int32).toNatClampNeg))) u)) ∧ (¬ (x1 ≤ 5) → Q (some (.int (-1))) u))))) : Ws G D_findings 0 [(0, .ref 2), (1, .int x1)] [] u Q := by
  refine ws_iload_n 1 (dcd d_D_findings_0 0 rfl) rfl ?_
  refine ws_iconst (v := 1) (dcd d_D_findings_0 1 rfl) (by decide) ?_
  refine ws_icmp_lt (tgt := 10) (dcd d_D_findings_0 2 rfl) (by decide) (fun c1 => ?_) (fun c1 => ?_)
  · have h := h.1 c1
    refine ws_iconst (v := (-1)) (dcd d_D_findings_0 6 rfl) (by decide) ?_
    exact ws_iret (dcd d_D_findings_0 7 rfl) ⟨_, rfl, rfl⟩ h
  · have h := h.2 c1
    refine ws_iload_n 1 (dcd d_D_findings_0 3 rfl) rfl ?_
    refine ws_iconst (v := 5) (dcd d_D_findings_0 4 rfl) (by decide) ?_
    refine ws_icmp_le (tgt := 12) (dcd d_D_findings_0 5 rfl) (by decide) (fun c2 => ?_) (fun c2 => ?_)
    · have h := h.1 c2
      refine ws_aload_n 0 (dcd d_D_findings_0 8 rfl) rfl ?_
      refine ws_getF (a := 21) f_D_56 rfl (dcd d_D_findings_0 9 rfl) ok_2 of_7_9 rfl ?_
      refine ws_iload_n 1 (dcd d_D_findings_0 10 rfl) rfl ?_
      obtain ⟨e3, h⟩ := h
      refine ws_iald (L := 6) (dcd d_D_findings_0 11 rfl) (os_7_9 ok_2) (ol_7_9 ok_2) e3 ?_
      exact ws_iret (dcd d_D_findings_0 12 rfl) ⟨_, rfl, rfl⟩ h
    · have h := h.2 c2
      refine ws_iconst (v := (-1)) (dcd d_D_findings_0 6 rfl) (by decide) ?_
      exact ws_iret (dcd d_D_findings_0 7 rfl) ⟨_, rfl, rfl⟩ h
theorem sg_D_digest_0   (h : Ws G D_digest 6 [(0, .ref 2), (1, .long 17), (3, .int 0)] [] u Q) : Ws G D_digest 0 [(0, .ref 2)] [] u Q := by
  refine ws_ldc2 (dcd d_D_digest_0 0 rfl) q_D_328 ?_
  refine ws_lstore_n (l' := [(1, .long 17), (0, .ref 2)]) (dcd d_D_digest_0 1 rfl) (by decide) rfl ?_
  refine ws_iconst (v := 0) (dcd d_D_digest_0 2 rfl) (by decide) ?_
  refine ws_istore_n (l' := [(3, .int 0), (1, .long 17), (0, .ref 2)]) (dcd d_D_digest_0 3 rfl) (by decide) rfl ?_
  exact ws_loc [2, 1, 0] rfl h
theorem sg_D_digest_6 {x1 : Int64} {x3 : Int32}  (h : ((7 < x3 → Ws G D_digest 33 [(0, .ref 2), (1, .long x1), (3, .int 0)] [] u Q) ∧ (¬ (7 < x3) → Ws G D_countOf 0 [(0, .ref 2), (1, .int x3)] [] u (RI fun a2 u2 => Ws G D_digest 6 [(0, .ref 2), (1, .long ((31 * x1) + (a2 : Int32).toInt64)), (3, .int (x3 + 1))] [] u2 Q)))) : Ws G D_digest 6 [(0, .ref 2), (1, .long x1), (3, .int x3)] [] u Q := by
  refine ws_iload_n 2 (dcd d_D_digest_0 4 rfl) rfl ?_
  refine ws_bipush (v := 7) (dcd d_D_digest_0 5 rfl) (by decide) ?_
  refine ws_icmp_gt (tgt := 31) (dcd d_D_digest_0 6 rfl) (by decide) (fun c1 => ?_) (fun c1 => ?_)
  · have h := h.1 c1
    refine ws_iconst (v := 0) (dcd d_D_digest_0 18 rfl) (by decide) ?_
    refine ws_istore_n (l' := [(3, .int 0), (0, .ref 2), (1, .long x1)]) (dcd d_D_digest_0 19 rfl) (by decide) rfl ?_
    exact ws_loc [1, 2, 0] rfl h
  · have h := h.2 c1
    refine ws_ldc2 (dcd d_D_digest_0 7 rfl) q_D_330 ?_
    refine ws_lload_n 1 (dcd d_D_digest_0 8 rfl) rfl ?_
    refine ws_lmul (dcd d_D_digest_0 9 rfl) ?_
    refine ws_aload_n 0 (dcd d_D_digest_0 10 rfl) rfl ?_
    refine ws_iload_n 2 (dcd d_D_digest_0 11 rfl) rfl ?_
    refine ws_callVI (o := 2) (As := [.int x3]) (st := [.long (31 * x1)]) (la := [(0, .ref 2), (1, .int x3)]) (dcd d_D_digest_0 12 rfl) cv_D_countOf k_D_325 ⟨by decide, by decide⟩ ok_2 rfl (Nat.le_of_ble_eq_true rfl) (Nat.le_of_ble_eq_true rfl) rfl rfl h (fun a2 u2 h => ?_)
    refine ws_i2l (dcd d_D_digest_0 13 rfl) ?_
    refine ws_ladd (dcd d_D_digest_0 14 rfl) ?_
    refine ws_lstore_n (l' := [(1, .long ((31 * x1) + (a2 : Int32).toInt64)), (0, .ref 2), (3, .int x3)]) (dcd d_D_digest_0 15 rfl) (by decide) rfl ?_
    refine ws_iinc (v := 1) (l' := [(3, .int (x3 + 1)), (1, .long ((31 * x1) + (a2 : Int32).toInt64)), (0, .ref 2)]) 2 (dcd d_D_digest_0 16 rfl) rfl (by decide) (by decide) rfl ?_
    refine ws_goto (tgt := 6) (dcd d_D_digest_0 17 rfl) (by decide) ?_
    exact ws_loc [2, 1, 0] rfl h
theorem sg_D_digest_33 {x1 : Int64} {x3 : Int32}  (h : (pl (mR u 2 10) → (((mI u (mR u 2 10) 1) ≤ x3 → Ws G Di_mixedInto 0 [(0, .ref 14), (1, .long ((31 * x1) + ((mI u 7 1) : Int32).toInt64))] [] u (RJ fun a3 u3 => Ws G D_digest 106 [(0, .ref 2), (1, .long a3), (3, .int 0)] [] u3 Q)) ∧ (¬ ((mI u (mR u 2 10) 1) ≤ x3) → Ws G D_digest 47 [(0, .ref 2), (1, .long x1), (3, .int x3), (4, .int 0)] [] u Q)))) : Ws G D_digest 33 [(0, .ref 2), (1, .long x1), (3, .int x3)] [] u Q := by
  refine ws_iload_n 2 (dcd d_D_digest_0 20 rfl) rfl ?_
  refine ws_aload_n 0 (dcd d_D_digest_0 21 rfl) rfl ?_
  refine ws_getP (by decide) f_D_63 (dcd d_D_digest_0 22 rfl) (fun j1 => ?_)
  have h := h j1
  refine ws_getI f_D_163 rfl (dcd d_D_digest_0 23 rfl) (pl_ok j1) ?_
  refine ws_icmp_ge (tgt := 80) (dcd d_D_digest_0 24 rfl) (by decide) (fun c2 => ?_) (fun c2 => ?_)
  · have h := h.1 c2
    refine ws_ldc2 (dcd d_D_digest_1 14 rfl) q_D_330 ?_
    refine ws_lload_n 1 (dcd d_D_digest_1 15 rfl) rfl ?_
    refine ws_lmul (dcd d_D_digest_1 16 rfl) ?_
    refine ws_aload_n 0 (dcd d_D_digest_1 17 rfl) rfl ?_
    refine ws_getF (a := 7) f_D_28 rfl (dcd d_D_digest_1 18 rfl) ok_2 of_7_3 rfl ?_
    refine ws_getI f_D_208 rfl (dcd d_D_digest_1 19 rfl) (os_7_3 ok_2) ?_
    refine ws_i2l (dcd d_D_digest_1 20 rfl) ?_
    refine ws_ladd (dcd d_D_digest_1 21 rfl) ?_
    refine ws_lstore_n (l' := [(1, .long ((31 * x1) + ((mI u 7 1) : Int32).toInt64)), (0, .ref 2), (3, .int x3)]) (dcd d_D_digest_1 22 rfl) (by decide) rfl ?_
    refine ws_aload_n 1 (dcd d_D_digest_1 23 rfl) rfl ?_
    refine ws_getF (a := 14) f_D_45 rfl (dcd d_D_digest_1 24 rfl) ok_2 of_7_7 rfl ?_
    refine ws_lload_n 0 (dcd d_D_digest_1 25 rfl) rfl ?_
    refine ws_callVJ (o := 14) (As := [.long ((31 * x1) + ((mI u 7 1) : Int32).toInt64)]) (st := []) (la := [(0, .ref 14), (1, .long ((31 * x1) + ((mI u 7 1) : Int32).toInt64))]) (dcd d_D_digest_1 26 rfl) cv_Di_mixedInto k_D_332 ⟨by decide, by decide⟩ (os_7_7 ok_2) rfl (Nat.le_of_ble_eq_true rfl) (Nat.le_of_ble_eq_true rfl) rfl rfl h (fun a3 u3 h => ?_)
    refine ws_lstore_n (l' := [(1, .long a3), (0, .ref 2), (3, .int x3)]) (dcd d_D_digest_1 27 rfl) (by decide) rfl ?_
    refine ws_iconst (v := 0) (dcd d_D_digest_1 28 rfl) (by decide) ?_
    refine ws_istore_n (l' := [(3, .int 0), (1, .long a3), (0, .ref 2)]) (dcd d_D_digest_1 29 rfl) (by decide) rfl ?_
    exact ws_loc [2, 1, 0] rfl h
  · have h := h.2 c2
    refine ws_iconst (v := 0) (dcd d_D_digest_0 25 rfl) (by decide) ?_
    refine ws_istore (l' := [(4, .int 0), (0, .ref 2), (1, .long x1), (3, .int x3)]) (dcd d_D_digest_0 26 rfl) (by decide) rfl ?_
    exact ws_loc [1, 2, 3, 0] rfl h
theorem sg_D_digest_106 {x1 : Int64} {x3 : Int32}  (h : ((3 ≤ x3 → Ws G D_digest 135 [(0, .ref 2), (1, .long x1), (3, .int 0)] [] u Q) ∧ (¬ (3 ≤ x3) → Ws G D_digest 106 [(0, .ref 2), (1, .long ((31 * x1) + ((mI u (kpV x3) 0) : Int32).toInt64)), (3, .int (x3 + 1))] [] u Q))) : Ws G D_digest 106 [(0, .ref 2), (1, .long x1), (3, .int x3)] [] u Q := by
  refine ws_iload_n 2 (dcd d_D_digest_2 0 rfl) rfl ?_
  refine ws_iconst (v := 3) (dcd d_D_digest_2 1 rfl) (by decide) ?_
  refine ws_icmp_ge (tgt := 133) (dcd d_D_digest_2 2 rfl) (by decide) (fun c1 => ?_) (fun c1 => ?_)
  · have h := h.1 c1
    refine ws_iconst (v := 0) (dcd d_D_digest_2 15 rfl) (by decide) ?_
    refine ws_istore_n (l' := [(3, .int 0), (0, .ref 2), (1, .long x1)]) (dcd d_D_digest_2 16 rfl) (by decide) rfl ?_
    exact ws_loc [1, 2, 0] rfl h
  · have h := h.2 c1
    refine ws_ldc2 (dcd d_D_digest_2 3 rfl) q_D_330 ?_
    refine ws_lload_n 1 (dcd d_D_digest_2 4 rfl) rfl ?_
    refine ws_lmul (dcd d_D_digest_2 5 rfl) ?_
    refine ws_aload_n 0 (dcd d_D_digest_2 6 rfl) rfl ?_
    refine ws_iload_n 2 (dcd d_D_digest_2 7 rfl) rfl ?_
    refine ws_callVR (o := 2) (As := [.int x3]) (st := [.long (31 * x1)]) (la := [(0, .ref 2), (1, .int x3)]) (dcd d_D_digest_2 8 rfl) cv_D_keptOf k_D_159 ⟨by decide, by decide⟩ ok_2 rfl (Nat.le_of_ble_eq_true rfl) (Nat.le_of_ble_eq_true rfl) rfl rfl sp_D_keptOf ?_
    rintro _ _ ⟨rfl, rfl⟩
    refine ws_getI f_D_84 rfl (dcd d_D_digest_2 9 rfl) (kpV_ok x3) ?_
    refine ws_i2l (dcd d_D_digest_2 10 rfl) ?_
    refine ws_ladd (dcd d_D_digest_2 11 rfl) ?_
    refine ws_lstore_n (l' := [(1, .long ((31 * x1) + ((mI u (kpV x3) 0) : Int32).toInt64)), (0, .ref 2), (3, .int x3)]) (dcd d_D_digest_2 12 rfl) (by decide) rfl ?_
    refine ws_iinc (v := 1) (l' := [(3, .int (x3 + 1)), (1, .long ((31 * x1) + ((mI u (kpV x3) 0) : Int32).toInt64)), (0, .ref 2)]) 2 (dcd d_D_digest_2 13 rfl) rfl (by decide) (by decide) rfl ?_
    refine ws_goto (tgt := 106) (dcd d_D_digest_2 14 rfl) (by decide) ?_
    exact ws_loc [2, 1, 0] rfl h
theorem sg_D_digest_47 {x1 : Int64} {x3 : Int32} {x4 : Int32}  (h : ((5 < x4 → Ws G D_digest 33 [(0, .ref 2), (1, .long x1), (3, .int (x3 + 1))] [] u Q) ∧ (¬ (5 < x4) → Ws G D_trait 0 [(0, .ref 2), (1, .int x3), (2, .int x4)] [] u (RI fun a2 u2 => Ws G D_digest 47 [(0, .ref 2), (1, .long ((31 * x1) + (a2 : Int32).toInt64)), (3, .int x3), (4, .int (x4 + 1))] [] u2 Q)))) : Ws G D_digest 47 [(0, .ref 2), (1, .long x1), (3, .int x3), (4, .int x4)] [] u Q := by
  refine ws_iload 3 (dcd d_D_digest_0 27 rfl) rfl ?_
  refine ws_iconst (v := 5) (dcd d_D_digest_0 28 rfl) (by decide) ?_
  refine ws_icmp_gt (tgt := 74) (dcd d_D_digest_0 29 rfl) (by decide) (fun c1 => ?_) (fun c1 => ?_)
  · have h := h.1 c1
    refine ws_iinc (v := 1) (l' := [(3, .int (x3 + 1)), (0, .ref 2), (1, .long x1), (4, .int x4)]) 2 (dcd d_D_digest_1 12 rfl) rfl (by decide) (by decide) rfl ?_
    refine ws_goto (tgt := 33) (dcd d_D_digest_1 13 rfl) (by decide) ?_
    exact ws_loc [1, 2, 0] rfl h
  · have h := h.2 c1
    refine ws_ldc2 (dcd d_D_digest_1 0 rfl) q_D_330 ?_
    refine ws_lload_n 1 (dcd d_D_digest_1 1 rfl) rfl ?_
    refine ws_lmul (dcd d_D_digest_1 2 rfl) ?_
    refine ws_aload_n 0 (dcd d_D_digest_1 3 rfl) rfl ?_
    refine ws_iload_n 2 (dcd d_D_digest_1 4 rfl) rfl ?_
    refine ws_iload 3 (dcd d_D_digest_1 5 rfl) rfl ?_
    refine ws_callVI (o := 2) (As := [.int x3, .int x4]) (st := [.long (31 * x1)]) (la := [(0, .ref 2), (1, .int x3), (2, .int x4)]) (dcd d_D_digest_1 6 rfl) cv_D_trait k_D_167 ⟨by decide, by decide⟩ ok_2 rfl (Nat.le_of_ble_eq_true rfl) (Nat.le_of_ble_eq_true rfl) rfl rfl h (fun a2 u2 h => ?_)
    refine ws_i2l (dcd d_D_digest_1 7 rfl) ?_
    refine ws_ladd (dcd d_D_digest_1 8 rfl) ?_
    refine ws_lstore_n (l' := [(1, .long ((31 * x1) + (a2 : Int32).toInt64)), (0, .ref 2), (3, .int x3), (4, .int x4)]) (dcd d_D_digest_1 9 rfl) (by decide) rfl ?_
    refine ws_iinc (v := 1) (l' := [(4, .int (x4 + 1)), (1, .long ((31 * x1) + (a2 : Int32).toInt64)), (0, .ref 2), (3, .int x3)]) 3 (dcd d_D_digest_1 10 rfl) rfl (by decide) (by decide) rfl ?_
    refine ws_goto (tgt := 47) (dcd d_D_digest_1 11 rfl) (by decide) ?_
    exact ws_loc [2, 1, 3, 0] rfl h
theorem sg_D_digest_135 {x1 : Int64} {x3 : Int32}  (h : ((6 ≤ x3 → Ws G D_digest 159 [(0, .ref 2), (1, .long x1), (3, .int 0)] [] u Q) ∧ (¬ (6 ≤ x3) → Ws G Sp_mixedInto 0 [(0, .ref (roV x3)), (1, .long x1)] [] u (RJ fun a2 u2 => Ws G D_digest 135 [(0, .ref 2), (1, .long a2), (3, .int (x3 + 1))] [] u2 Q)))) : Ws G D_digest 135 [(0, .ref 2), (1, .long x1), (3, .int x3)] [] u Q := by
  refine ws_iload_n 2 (dcd d_D_digest_2 17 rfl) rfl ?_
  refine ws_bipush (v := 6) (dcd d_D_digest_2 18 rfl) (by decide) ?_
  refine ws_icmp_ge (tgt := 157) (dcd d_D_digest_2 19 rfl) (by decide) (fun c1 => ?_) (fun c1 => ?_)
  · have h := h.1 c1
    refine ws_iconst (v := 0) (dcd d_D_digest_2 28 rfl) (by decide) ?_
    refine ws_istore_n (l' := [(3, .int 0), (0, .ref 2), (1, .long x1)]) (dcd d_D_digest_2 29 rfl) (by decide) rfl ?_
    exact ws_loc [1, 2, 0] rfl h
  · have h := h.2 c1
    refine ws_aload_n 0 (dcd d_D_digest_2 20 rfl) rfl ?_
    refine ws_iload_n 2 (dcd d_D_digest_2 21 rfl) rfl ?_
    refine ws_callVR (o := 2) (As := [.int x3]) (st := []) (la := [(0, .ref 2), (1, .int x3)]) (dcd d_D_digest_2 22 rfl) cv_D_rowOf k_D_95 ⟨by decide, by decide⟩ ok_2 rfl (Nat.le_of_ble_eq_true rfl) (Nat.le_of_ble_eq_true rfl) rfl rfl sp_D_rowOf ?_
    rintro _ _ ⟨rfl, rfl⟩
    refine ws_lload_n 1 (dcd d_D_digest_2 23 rfl) rfl ?_
    refine ws_callVJ (o := (roV x3)) (As := [.long x1]) (st := []) (la := [(0, .ref (roV x3)), (1, .long x1)]) (dcd d_D_digest_2 24 rfl) cv_Sp_mixedInto k_D_336 ⟨by decide, by decide⟩ (roV_ok x3) rfl (Nat.le_of_ble_eq_true rfl) (Nat.le_of_ble_eq_true rfl) rfl rfl h (fun a2 u2 h => ?_)
    refine ws_lstore_n (l' := [(1, .long a2), (0, .ref 2), (3, .int x3)]) (dcd d_D_digest_2 25 rfl) (by decide) rfl ?_
    refine ws_iinc (v := 1) (l' := [(3, .int (x3 + 1)), (1, .long a2), (0, .ref 2)]) 2 (dcd d_D_digest_2 26 rfl) rfl (by decide) (by decide) rfl ?_
    refine ws_goto (tgt := 135) (dcd d_D_digest_2 27 rfl) (by decide) ?_
    exact ws_loc [2, 1, 0] rfl h
theorem sg_D_digest_159 {x1 : Int64} {x3 : Int32}  (h : ((4 ≤ x3 → Q (some (.long x1)) u) ∧ (¬ (4 ≤ x3) → Ws G Sp_mixedInto 0 [(0, .ref (txV x3)), (1, .long x1)] [] u (RJ fun a2 u2 => Ws G D_digest 159 [(0, .ref 2), (1, .long a2), (3, .int (x3 + 1))] [] u2 Q)))) : Ws G D_digest 159 [(0, .ref 2), (1, .long x1), (3, .int x3)] [] u Q := by
  refine ws_iload_n 2 (dcd d_D_digest_3 0 rfl) rfl ?_
  refine ws_iconst (v := 4) (dcd d_D_digest_3 1 rfl) (by decide) ?_
  refine ws_icmp_ge (tgt := 180) (dcd d_D_digest_3 2 rfl) (by decide) (fun c1 => ?_) (fun c1 => ?_)
  · have h := h.1 c1
    refine ws_lload_n 1 (dcd d_D_digest_3 11 rfl) rfl ?_
    exact ws_lret (dcd d_D_digest_3 12 rfl) rfl h
  · have h := h.2 c1
    refine ws_aload_n 0 (dcd d_D_digest_3 3 rfl) rfl ?_
    refine ws_iload_n 2 (dcd d_D_digest_3 4 rfl) rfl ?_
    refine ws_callVR (o := 2) (As := [.int x3]) (st := []) (la := [(0, .ref 2), (1, .int x3)]) (dcd d_D_digest_3 5 rfl) cv_D_textOf k_D_144 ⟨by decide, by decide⟩ ok_2 rfl (Nat.le_of_ble_eq_true rfl) (Nat.le_of_ble_eq_true rfl) rfl rfl sp_D_textOf ?_
    rintro _ _ ⟨rfl, rfl⟩
    refine ws_lload_n 1 (dcd d_D_digest_3 6 rfl) rfl ?_
    refine ws_callVJ (o := (txV x3)) (As := [.long x1]) (st := []) (la := [(0, .ref (txV x3)), (1, .long x1)]) (dcd d_D_digest_3 7 rfl) cv_Sp_mixedInto k_D_336 ⟨by decide, by decide⟩ (txV_ok x3) rfl (Nat.le_of_ble_eq_true rfl) (Nat.le_of_ble_eq_true rfl) rfl rfl h (fun a2 u2 h => ?_)
    refine ws_lstore_n (l' := [(1, .long a2), (0, .ref 2), (3, .int x3)]) (dcd d_D_digest_3 8 rfl) (by decide) rfl ?_
    refine ws_iinc (v := 1) (l' := [(3, .int (x3 + 1)), (1, .long a2), (0, .ref 2)]) 2 (dcd d_D_digest_3 9 rfl) rfl (by decide) (by decide) rfl ?_
    refine ws_goto (tgt := 159) (dcd d_D_digest_3 10 rfl) (by decide) ?_
    exact ws_loc [2, 1, 0] rfl h
theorem sg_Di_mixedInto_0 {x1 : Int64}  (h : Ws G Di_mixedInto 5 [(0, .ref 14), (3, .long x1), (5, .int 0)] [] u Q) : Ws G Di_mixedInto 0 [(0, .ref 14), (1, .long x1)] [] u Q := by
  refine ws_lload_n 1 (dcd d_Di_mixedInto_0 0 rfl) rfl ?_
  refine ws_lstore_n (l' := [(3, .long x1), (0, .ref 14), (1, .long x1)]) (dcd d_Di_mixedInto_0 1 rfl) (by decide) rfl ?_
  refine ws_iconst (v := 0) (dcd d_Di_mixedInto_0 2 rfl) (by decide) ?_
  refine ws_istore (l' := [(5, .int 0), (3, .long x1), (0, .ref 14), (1, .long x1)]) (dcd d_Di_mixedInto_0 3 rfl) (by decide) rfl ?_
  exact ws_loc [2, 1, 0] rfl h
theorem sg_Di_mixedInto_5 {x3 : Int64} {x5 : Int32}  (h : (((mI u 14 0) ≤ x5 → Q (some (.long x3)) u) ∧ (¬ ((mI u 14 0) ≤ x5) → ((12 ≤ x5 → Q (some (.long x3)) u) ∧ (¬ (12 ≤ x5) → (vp_in x5 12 ∧ (vp_in x5 12 ∧ (vp_in x5 12 ∧ Ws G Di_mixedInto 5 [(0, .ref 14), (3, .long ((31 * ((31 * ((31 * x3) + ((mI u 15 (x5 : Int32).toNatClampNeg) : Int32).toInt64)) + ((mI u 16 (x5 : Int32).toNatClampNeg) : Int32).toInt64)) + ((mI u 17 (x5 : Int32).toNatClampNeg) : Int32).toInt64)), (5, .int (x5 + 1))] [] u Q)))))))) : Ws G Di_mixedInto 5 [(0, .ref 14), (3, .long x3), (5, .int x5)] [] u Q := by
  refine ws_iload 2 (dcd d_Di_mixedInto_0 4 rfl) rfl ?_
  refine ws_aload_n 0 (dcd d_Di_mixedInto_0 5 rfl) rfl ?_
  refine ws_getI f_Di_9 rfl (dcd d_Di_mixedInto_0 6 rfl) ok_14 ?_
  refine ws_icmp_ge (tgt := 72) (dcd d_Di_mixedInto_0 7 rfl) (by decide) (fun c1 => ?_) (fun c1 => ?_)
  · have h := h.1 c1
    refine ws_lload_n 1 (dcd d_Di_mixedInto_1 13 rfl) rfl ?_
    exact ws_lret (dcd d_Di_mixedInto_1 14 rfl) rfl h
  · have h := h.2 c1
    refine ws_iload 2 (dcd d_Di_mixedInto_0 8 rfl) rfl ?_
    refine ws_bipush (v := 12) (dcd d_Di_mixedInto_0 9 rfl) (by decide) ?_
    refine ws_icmp_ge (tgt := 72) (dcd d_Di_mixedInto_0 10 rfl) (by decide) (fun c2 => ?_) (fun c2 => ?_)
    · have h := h.1 c2
      refine ws_lload_n 1 (dcd d_Di_mixedInto_1 13 rfl) rfl ?_
      exact ws_lret (dcd d_Di_mixedInto_1 14 rfl) rfl h
    · have h := h.2 c2
      refine ws_ldc2 (dcd d_Di_mixedInto_0 11 rfl) q_Di_44 ?_
      refine ws_lload_n 1 (dcd d_Di_mixedInto_0 12 rfl) rfl ?_
      refine ws_lmul (dcd d_Di_mixedInto_0 13 rfl) ?_
      refine ws_aload_n 0 (dcd d_Di_mixedInto_0 14 rfl) rfl ?_
      refine ws_getF (a := 15) f_Di_15 rfl (dcd d_Di_mixedInto_0 15 rfl) ok_14 of_0_1 rfl ?_
      refine ws_iload 2 (dcd d_Di_mixedInto_0 16 rfl) rfl ?_
      obtain ⟨e3, h⟩ := h
      refine ws_iald (L := 12) (dcd d_Di_mixedInto_0 17 rfl) (os_0_1 ok_14) (ol_0_1 ok_14) e3 ?_
      refine ws_i2l (dcd d_Di_mixedInto_0 18 rfl) ?_
      refine ws_ladd (dcd d_Di_mixedInto_0 19 rfl) ?_
      refine ws_lstore_n (l' := [(3, .long ((31 * x3) + ((mI u 15 (x5 : Int32).toNatClampNeg) : Int32).toInt64)), (0, .ref 14), (5, .int x5)]) (dcd d_Di_mixedInto_0 20 rfl) (by decide) rfl ?_
      refine ws_ldc2 (dcd d_Di_mixedInto_0 21 rfl) q_Di_44 ?_
      refine ws_lload_n 0 (dcd d_Di_mixedInto_0 22 rfl) rfl ?_
      refine ws_lmul (dcd d_Di_mixedInto_0 23 rfl) ?_
      refine ws_aload_n 1 (dcd d_Di_mixedInto_0 24 rfl) rfl ?_
      refine ws_getF (a := 16) f_Di_19 rfl (dcd d_Di_mixedInto_0 25 rfl) ok_14 of_0_2 rfl ?_
      refine ws_iload 2 (dcd d_Di_mixedInto_0 26 rfl) rfl ?_
      obtain ⟨e4, h⟩ := h
      refine ws_iald (L := 12) (dcd d_Di_mixedInto_0 27 rfl) (os_0_2 ok_14) (ol_0_2 ok_14) e4 ?_
      refine ws_i2l (dcd d_Di_mixedInto_0 28 rfl) ?_
      refine ws_ladd (dcd d_Di_mixedInto_0 29 rfl) ?_
      refine ws_lstore_n (l' := [(3, .long ((31 * ((31 * x3) + ((mI u 15 (x5 : Int32).toNatClampNeg) : Int32).toInt64)) + ((mI u 16 (x5 : Int32).toNatClampNeg) : Int32).toInt64)), (0, .ref 14), (5, .int x5)]) (dcd d_Di_mixedInto_1 0 rfl) (by decide) rfl ?_
      refine ws_ldc2 (dcd d_Di_mixedInto_1 1 rfl) q_Di_44 ?_
      refine ws_lload_n 0 (dcd d_Di_mixedInto_1 2 rfl) rfl ?_
      refine ws_lmul (dcd d_Di_mixedInto_1 3 rfl) ?_
      refine ws_aload_n 1 (dcd d_Di_mixedInto_1 4 rfl) rfl ?_
      refine ws_getF (a := 17) f_Di_22 rfl (dcd d_Di_mixedInto_1 5 rfl) ok_14 of_0_3 rfl ?_
      refine ws_iload 2 (dcd d_Di_mixedInto_1 6 rfl) rfl ?_
      obtain ⟨e5, h⟩ := h
      refine ws_iald (L := 12) (dcd d_Di_mixedInto_1 7 rfl) (os_0_3 ok_14) (ol_0_3 ok_14) e5 ?_
      refine ws_i2l (dcd d_Di_mixedInto_1 8 rfl) ?_
      refine ws_ladd (dcd d_Di_mixedInto_1 9 rfl) ?_
      refine ws_lstore_n (l' := [(3, .long ((31 * ((31 * ((31 * x3) + ((mI u 15 (x5 : Int32).toNatClampNeg) : Int32).toInt64)) + ((mI u 16 (x5 : Int32).toNatClampNeg) : Int32).toInt64)) + ((mI u 17 (x5 : Int32).toNatClampNeg) : Int32).toInt64)), (0, .ref 14), (5, .int x5)]) (dcd d_Di_mixedInto_1 10 rfl) (by decide) rfl ?_
      refine ws_iinc (v := 1) (l' := [(5, .int (x5 + 1)), (3, .long ((31 * ((31 * ((31 * x3) + ((mI u 15 (x5 : Int32).toNatClampNeg) : Int32).toInt64)) + ((mI u 16 (x5 : Int32).toNatClampNeg) : Int32).toInt64)) + ((mI u 17 (x5 : Int32).toNatClampNeg) : Int32).toInt64)), (0, .ref 14)]) 2 (dcd d_Di_mixedInto_1 11 rfl) rfl (by decide) (by decide) rfl ?_
      refine ws_goto (tgt := 5) (dcd d_Di_mixedInto_1 12 rfl) (by decide) ?_
      exact ws_loc [2, 1, 0] rfl h
theorem sg_Sp_mixedInto_0 {o0 : Nat} {x1 : Int64} (k0 : okS o0 6) (h : Ws G Sp_mixedInto 15 [(0, .ref o0), (3, .long ((31 * x1) + ((mI u o0 1) : Int32).toInt64)), (5, .int 0)] [] u Q) : Ws G Sp_mixedInto 0 [(0, .ref o0), (1, .long x1)] [] u Q := by
  refine ws_ldc2 (dcd d_Sp_mixedInto_0 0 rfl) q_Sp_42 ?_
  refine ws_lload_n 1 (dcd d_Sp_mixedInto_0 1 rfl) rfl ?_
  refine ws_lmul (dcd d_Sp_mixedInto_0 2 rfl) ?_
  refine ws_aload_n 0 (dcd d_Sp_mixedInto_0 3 rfl) rfl ?_
  refine ws_getI f_Sp_9 rfl (dcd d_Sp_mixedInto_0 4 rfl) k0 ?_
  refine ws_i2l (dcd d_Sp_mixedInto_0 5 rfl) ?_
  refine ws_ladd (dcd d_Sp_mixedInto_0 6 rfl) ?_
  refine ws_lstore_n (l' := [(3, .long ((31 * x1) + ((mI u o0 1) : Int32).toInt64)), (0, .ref o0), (1, .long x1)]) (dcd d_Sp_mixedInto_0 7 rfl) (by decide) rfl ?_
  refine ws_iconst (v := 0) (dcd d_Sp_mixedInto_0 8 rfl) (by decide) ?_
  refine ws_istore (l' := [(5, .int 0), (3, .long ((31 * x1) + ((mI u o0 1) : Int32).toInt64)), (0, .ref o0), (1, .long x1)]) (dcd d_Sp_mixedInto_0 9 rfl) (by decide) rfl ?_
  exact ws_loc [2, 1, 0] rfl h
theorem sg_Sp_mixedInto_15 {o0 : Nat} {x3 : Int64} {x5 : Int32} (k0 : okS o0 6) (h : (((mI u o0 1) ≤ x5 → Q (some (.long x3)) u) ∧ (¬ ((mI u o0 1) ≤ x5) → Ws G Sp_mixedInto 15 [(0, .ref o0), (3, .long ((31 * x3) + ((spG u o0 x5) : Int32).toInt64)), (5, .int (x5 + 1))] [] u Q))) : Ws G Sp_mixedInto 15 [(0, .ref o0), (3, .long x3), (5, .int x5)] [] u Q := by
  refine ws_iload 2 (dcd d_Sp_mixedInto_0 10 rfl) rfl ?_
  refine ws_aload_n 0 (dcd d_Sp_mixedInto_0 11 rfl) rfl ?_
  refine ws_getI f_Sp_9 rfl (dcd d_Sp_mixedInto_0 12 rfl) k0 ?_
  refine ws_icmp_ge (tgt := 44) (dcd d_Sp_mixedInto_0 13 rfl) (by decide) (fun c1 => ?_) (fun c1 => ?_)
  · have h := h.1 c1
    refine ws_lload_n 1 (dcd d_Sp_mixedInto_0 25 rfl) rfl ?_
    exact ws_lret (dcd d_Sp_mixedInto_0 26 rfl) rfl h
  · have h := h.2 c1
    refine ws_ldc2 (dcd d_Sp_mixedInto_0 14 rfl) q_Sp_42 ?_
    refine ws_lload_n 1 (dcd d_Sp_mixedInto_0 15 rfl) rfl ?_
    refine ws_lmul (dcd d_Sp_mixedInto_0 16 rfl) ?_
    refine ws_aload_n 0 (dcd d_Sp_mixedInto_0 17 rfl) rfl ?_
    refine ws_iload 2 (dcd d_Sp_mixedInto_0 18 rfl) rfl ?_
    refine ws_callVI (o := o0) (As := [.int x5]) (st := [.long (31 * x3)]) (la := [(0, .ref o0), (1, .int x5)]) (dcd d_Sp_mixedInto_0 19 rfl) cv_Sp_get k_Sp_38 ⟨by decide, by decide⟩ k0 rfl (Nat.le_of_ble_eq_true rfl) (Nat.le_of_ble_eq_true rfl) rfl rfl (sp_Sp_get k0) ?_
    rintro _ _ ⟨rfl, rfl⟩
    refine ws_i2l (dcd d_Sp_mixedInto_0 20 rfl) ?_
    refine ws_ladd (dcd d_Sp_mixedInto_0 21 rfl) ?_
    refine ws_lstore_n (l' := [(3, .long ((31 * x3) + ((spG u o0 x5) : Int32).toInt64)), (0, .ref o0), (5, .int x5)]) (dcd d_Sp_mixedInto_0 22 rfl) (by decide) rfl ?_
    refine ws_iinc (v := 1) (l' := [(5, .int (x5 + 1)), (3, .long ((31 * x3) + ((spG u o0 x5) : Int32).toInt64)), (0, .ref o0)]) 2 (dcd d_Sp_mixedInto_0 23 rfl) rfl (by decide) (by decide) rfl ?_
    refine ws_goto (tgt := 15) (dcd d_Sp_mixedInto_0 24 rfl) (by decide) ?_
    exact ws_loc [2, 1, 0] rfl h
theorem sg_m_row_0 {x1 : Int32} {x2 : Int32}  (h : (((0 ≤ x1 ∧ x1 ≤ 5) → ((x2 ≤ 40 → ((0 ≤ x2 → (vp_in x1 6 ∧ Ws G m_row 34 [(0, .ref 76), (1, .int x1), (2, .int x2), (3, .int 0)] [] (pI u 78 (x1 : Int32).toNatClampNeg x2) Q)) ∧ (¬ (0 ≤ x2) → Q (some (.int (-3))) (mt u 5)))) ∧ (¬ (x2 ≤ 40) → Q (some (.int (-1))) u))) ∧ (¬ (0 ≤ x1 ∧ x1 ≤ 5) → Q (some (.int (-1))) u))) : Ws G m_row 0 [(0, .ref 76), (1, .int x1), (2, .int x2)] [] u Q := by
  refine ws_iload_n 1 (dcd d_m_row_0 0 rfl) rfl ?_
  refine ws_callSI (As := [.int x1]) (st := []) (la := [(0, .int x1)]) (dcd d_m_row_0 1 rfl) cs_m_isRow k_m_82 ⟨by decide, by decide⟩ rfl (Nat.le_of_ble_eq_true rfl) (Nat.le_of_ble_eq_true rfl) rfl rfl sp_m_isRow ?_
  rintro _ _ ⟨rfl, ⟨rfl, c1⟩ | ⟨rfl, c1⟩⟩
  · have h := h.1 c1
    refine ws_if_eq (tgt := 13) (dcd d_m_row_0 2 rfl) (by decide) (fun c => absurd c (by decide)) (fun _ => ?_)
    refine ws_iload_n 2 (dcd d_m_row_0 3 rfl) rfl ?_
    refine ws_bipush (v := 40) (dcd d_m_row_0 4 rfl) (by decide) ?_
    refine ws_icmp_le (tgt := 15) (dcd d_m_row_0 5 rfl) (by decide) (fun c3 => ?_) (fun c3 => ?_)
    · have h := h.1 c3
      refine ws_iload_n 2 (dcd d_m_row_0 8 rfl) rfl ?_
      refine ws_if_ge (tgt := 25) (dcd d_m_row_0 9 rfl) (by decide) (fun c4 => ?_) (fun c4 => ?_)
      · have h := h.1 c4
        refine ws_aload_n 0 (dcd d_m_row_0 14 rfl) rfl ?_
        refine ws_getF (a := 78) f_m_17 rfl (dcd d_m_row_0 15 rfl) ok_76 of_8_5 rfl ?_
        refine ws_iload_n 1 (dcd d_m_row_0 16 rfl) rfl ?_
        refine ws_iload_n 2 (dcd d_m_row_0 17 rfl) rfl ?_
        obtain ⟨e5, h⟩ := h
        refine ws_iast (L := 6) (dcd d_m_row_0 18 rfl) (os_8_5 ok_76) (ol_8_5 ok_76) e5 ?_
        refine ws_iconst (v := 0) (dcd d_m_row_0 19 rfl) (by decide) ?_
        refine ws_istore_n (l' := [(3, .int 0), (0, .ref 76), (1, .int x1), (2, .int x2)]) (dcd d_m_row_0 20 rfl) (by decide) rfl ?_
        exact ws_loc [1, 2, 3, 0] rfl h
      · have h := h.2 c4
        refine ws_aload_n 0 (dcd d_m_row_0 10 rfl) rfl ?_
        refine ws_iconst (v := 5) (dcd d_m_row_0 11 rfl) (by decide) ?_
        refine ws_callVI (o := 76) (As := [.int 5]) (st := []) (la := [(0, .ref 76), (1, .int 5)]) (dcd d_m_row_0 12 rfl) cv_m_meet k_m_86 ⟨by decide, by decide⟩ ok_76 rfl (Nat.le_of_ble_eq_true rfl) (Nat.le_of_ble_eq_true rfl) rfl rfl (sp_m_meet (vin (by decide) (by decide) (by decide))) ?_
        rintro _ _ ⟨rfl, rfl⟩
        exact ws_iret (dcd d_m_row_0 13 rfl) ⟨_, rfl, rfl⟩ h
    · have h := h.2 c3
      refine ws_iconst (v := (-1)) (dcd d_m_row_0 6 rfl) (by decide) ?_
      exact ws_iret (dcd d_m_row_0 7 rfl) ⟨_, rfl, rfl⟩ h
  · have h := h.2 c1
    refine ws_if_eq (tgt := 13) (dcd d_m_row_0 2 rfl) (by decide) (fun _ => ?_) (fun c => absurd (show (0 : Int32) = 0 from by decide) c)
    refine ws_iconst (v := (-1)) (dcd d_m_row_0 6 rfl) (by decide) ?_
    exact ws_iret (dcd d_m_row_0 7 rfl) ⟨_, rfl, rfl⟩ h
theorem sg_m_row_34 {x1 : Int32} {x2 : Int32} {x3 : Int32}  (h : ((40 ≤ x3 → Q (some (.int x2)) u) ∧ (¬ (40 ≤ x3) → (vp_in (40 * x1 + x3) 240 ∧ Ws G m_row 34 [(0, .ref 76), (1, .int x1), (2, .int x2), (3, .int (x3 + 1))] [] (pI u 79 ((40 * x1 + x3) : Int32).toNatClampNeg 0) Q)))) : Ws G m_row 34 [(0, .ref 76), (1, .int x1), (2, .int x2), (3, .int x3)] [] u Q := by
  refine ws_iload_n 3 (dcd d_m_row_0 21 rfl) rfl ?_
  refine ws_bipush (v := 40) (dcd d_m_row_0 22 rfl) (by decide) ?_
  refine ws_icmp_ge (tgt := 53) (dcd d_m_row_0 23 rfl) (by decide) (fun c1 => ?_) (fun c1 => ?_)
  · have h := h.1 c1
    refine ws_iload_n 2 (dcd d_m_row_1 1 rfl) rfl ?_
    exact ws_iret (dcd d_m_row_1 2 rfl) ⟨_, rfl, rfl⟩ h
  · have h := h.2 c1
    refine ws_aload_n 0 (dcd d_m_row_0 24 rfl) rfl ?_
    refine ws_iload_n 1 (dcd d_m_row_0 25 rfl) rfl ?_
    refine ws_iload_n 3 (dcd d_m_row_0 26 rfl) rfl ?_
    refine ws_iconst (v := 0) (dcd d_m_row_0 27 rfl) (by decide) ?_
    obtain ⟨e2, h⟩ := h
    refine ws_callVV (o := 76) (As := [.int x1, .int x3, .int 0]) (st := []) (la := [(0, .ref 76), (1, .int x1), (2, .int x3), (3, .int 0)]) (dcd d_m_row_0 28 rfl) cv_m_setRow k_m_93 ⟨by decide, by decide⟩ ok_76 rfl (Nat.le_of_ble_eq_true rfl) (Nat.le_of_ble_eq_true rfl) rfl rfl (sp_m_setRow e2) ?_
    rintro _ rfl
    refine ws_iinc (v := 1) (l' := [(3, .int (x3 + 1)), (0, .ref 76), (1, .int x1), (2, .int x2)]) 3 (dcd d_m_row_0 29 rfl) rfl (by decide) (by decide) rfl ?_
    refine ws_goto (tgt := 34) (dcd d_m_row_1 0 rfl) (by decide) ?_
    exact ws_loc [1, 2, 3, 0] rfl h
end SEG
