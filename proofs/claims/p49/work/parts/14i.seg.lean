section SEG
variable {G : pG} {u : pM} {Q : Option Value → pM → Prop}
theorem sg_m_plainly_0 {x1 : Int32} {x2 : Int32}  (h : (((0 ≤ x1 ∧ x1 ≤ (mI u 76 11) - 1) → (((0 ≤ x2 ∧ x2 ≤ 1000000000) → (vp_in x1 7 ∧ (vp_in (5 * x1 + 0) 70 ∧ (vp_in (5 * x1 + 2) 70 ∧ (vp_in (5 * x1 + 4) 70 ∧ Ws G m_plainBy 0 [(0, .ref 76), (1, .int (mI u 84 (x1 : Int32).toNatClampNeg)), (2, .int (mI u 83 ((5 * x1 + 0) : Int32).toNatClampNeg)), (3, .int (mI u 83 ((5 * x1 + 2) : Int32).toNatClampNeg)), (4, .int (mI u 83 ((5 * x1 + 4) : Int32).toNatClampNeg)), (5, .long ((mI u 76 18) : Int32).toInt64), (7, .long (x2 : Int32).toInt64)] [] u (RI fun a9 u9 => Q (some (.int a9)) u9)))))) ∧ (¬ (0 ≤ x2 ∧ x2 ≤ 1000000000) → Q (some (.int (-1))) u))) ∧ (¬ (0 ≤ x1 ∧ x1 ≤ (mI u 76 11) - 1) → Q (some (.int (-1))) u))) : Ws G m_plainly 0 [(0, .ref 76), (1, .int x1), (2, .int x2)] [] u Q := by
  refine ws_aload_n 0 (dcd d_m_plainly_0 0 rfl) rfl ?_
  refine ws_iload_n 1 (dcd d_m_plainly_0 1 rfl) rfl ?_
  refine ws_callVI (o := 76) (As := [.int x1]) (st := []) (la := [(0, .ref 76), (1, .int x1)]) (dcd d_m_plainly_0 2 rfl) cv_m_isShop k_m_171 ⟨by decide, by decide⟩ ok_76 rfl (Nat.le_of_ble_eq_true rfl) (Nat.le_of_ble_eq_true rfl) rfl rfl sp_m_isShop ?_
  rintro _ _ ⟨rfl, ⟨rfl, c1⟩ | ⟨rfl, c1⟩⟩
  · have h := h.1 c1
    refine ws_if_eq (tgt := 18) (dcd d_m_plainly_0 3 rfl) (by decide) (fun c => absurd c (by decide)) (fun _ => ?_)
    refine ws_iload_n 2 (dcd d_m_plainly_0 4 rfl) rfl ?_
    refine ws_iconst (v := 0) (dcd d_m_plainly_0 5 rfl) (by decide) ?_
    refine ws_ldc (dcd d_m_plainly_0 6 rfl) q_m_221 ?_
    refine ws_callSI (As := [.int x2, .int 0, .int 1000000000]) (st := []) (la := [(0, .int x2), (1, .int 0), (2, .int 1000000000)]) (dcd d_m_plainly_0 7 rfl) cs_m_in k_m_78 ⟨by decide, by decide⟩ rfl (Nat.le_of_ble_eq_true rfl) (Nat.le_of_ble_eq_true rfl) rfl rfl sp_m_in ?_
    rintro _ _ ⟨rfl, ⟨rfl, c3⟩ | ⟨rfl, c3⟩⟩
    · have h := h.1 c3
      refine ws_if_ne (tgt := 20) (dcd d_m_plainly_0 8 rfl) (by decide) (fun _ => ?_) (fun c => absurd c (by decide))
      refine ws_aload_n 0 (dcd d_m_plainly_0 11 rfl) rfl ?_
      refine ws_aload_n 0 (dcd d_m_plainly_0 12 rfl) rfl ?_
      refine ws_getF (a := 84) f_m_35 rfl (dcd d_m_plainly_0 13 rfl) ok_76 of_8_17 rfl ?_
      refine ws_iload_n 1 (dcd d_m_plainly_0 14 rfl) rfl ?_
      obtain ⟨e5, h⟩ := h
      refine ws_iald (L := 7) (dcd d_m_plainly_0 15 rfl) (os_8_17 ok_76) (ol_8_17 ok_76) e5 ?_
      refine ws_aload_n 0 (dcd d_m_plainly_0 16 rfl) rfl ?_
      refine ws_iload_n 1 (dcd d_m_plainly_0 17 rfl) rfl ?_
      refine ws_iconst (v := 0) (dcd d_m_plainly_0 18 rfl) (by decide) ?_
      obtain ⟨e6, h⟩ := h
      refine ws_callVI (o := 76) (As := [.int x1, .int 0]) (st := [.int (mI u 84 (x1 : Int32).toNatClampNeg), .ref 76]) (la := [(0, .ref 76), (1, .int x1), (2, .int 0)]) (dcd d_m_plainly_0 19 rfl) cv_m_tell k_m_159 ⟨by decide, by decide⟩ ok_76 rfl (Nat.le_of_ble_eq_true rfl) (Nat.le_of_ble_eq_true rfl) rfl rfl (sp_m_tell e6) ?_
      rintro _ _ ⟨rfl, rfl⟩
      refine ws_aload_n 0 (dcd d_m_plainly_0 20 rfl) rfl ?_
      refine ws_iload_n 1 (dcd d_m_plainly_0 21 rfl) rfl ?_
      refine ws_iconst (v := 2) (dcd d_m_plainly_0 22 rfl) (by decide) ?_
      obtain ⟨e7, h⟩ := h
      refine ws_callVI (o := 76) (As := [.int x1, .int 2]) (st := [.int (mI u 83 ((5 * x1 + 0) : Int32).toNatClampNeg), .int (mI u 84 (x1 : Int32).toNatClampNeg), .ref 76]) (la := [(0, .ref 76), (1, .int x1), (2, .int 2)]) (dcd d_m_plainly_0 23 rfl) cv_m_tell k_m_159 ⟨by decide, by decide⟩ ok_76 rfl (Nat.le_of_ble_eq_true rfl) (Nat.le_of_ble_eq_true rfl) rfl rfl (sp_m_tell e7) ?_
      rintro _ _ ⟨rfl, rfl⟩
      refine ws_aload_n 0 (dcd d_m_plainly_0 24 rfl) rfl ?_
      refine ws_iload_n 1 (dcd d_m_plainly_0 25 rfl) rfl ?_
      refine ws_iconst (v := 4) (dcd d_m_plainly_0 26 rfl) (by decide) ?_
      obtain ⟨e8, h⟩ := h
      refine ws_callVI (o := 76) (As := [.int x1, .int 4]) (st := [.int (mI u 83 ((5 * x1 + 2) : Int32).toNatClampNeg), .int (mI u 83 ((5 * x1 + 0) : Int32).toNatClampNeg), .int (mI u 84 (x1 : Int32).toNatClampNeg), .ref 76]) (la := [(0, .ref 76), (1, .int x1), (2, .int 4)]) (dcd d_m_plainly_0 27 rfl) cv_m_tell k_m_159 ⟨by decide, by decide⟩ ok_76 rfl (Nat.le_of_ble_eq_true rfl) (Nat.le_of_ble_eq_true rfl) rfl rfl (sp_m_tell e8) ?_
      rintro _ _ ⟨rfl, rfl⟩
      refine ws_aload_n 0 (dcd d_m_plainly_0 28 rfl) rfl ?_
      refine ws_getI f_m_162 rfl (dcd d_m_plainly_0 29 rfl) ok_76 ?_
      refine ws_i2l (dcd d_m_plainly_1 0 rfl) ?_
      refine ws_iload_n 2 (dcd d_m_plainly_1 1 rfl) rfl ?_
      refine ws_i2l (dcd d_m_plainly_1 2 rfl) ?_
      refine ws_callVI (o := 76) (As := [.int (mI u 84 (x1 : Int32).toNatClampNeg), .int (mI u 83 ((5 * x1 + 0) : Int32).toNatClampNeg), .int (mI u 83 ((5 * x1 + 2) : Int32).toNatClampNeg), .int (mI u 83 ((5 * x1 + 4) : Int32).toNatClampNeg), .long ((mI u 76 18) : Int32).toInt64, .long (x2 : Int32).toInt64]) (st := []) (la := [(0, .ref 76), (1, .int (mI u 84 (x1 : Int32).toNatClampNeg)), (2, .int (mI u 83 ((5 * x1 + 0) : Int32).toNatClampNeg)), (3, .int (mI u 83 ((5 * x1 + 2) : Int32).toNatClampNeg)), (4, .int (mI u 83 ((5 * x1 + 4) : Int32).toNatClampNeg)), (5, .long ((mI u 76 18) : Int32).toInt64), (7, .long (x2 : Int32).toInt64)]) (dcd d_m_plainly_1 3 rfl) cv_m_plainBy k_m_222 ⟨by decide, by decide⟩ ok_76 rfl (Nat.le_of_ble_eq_true rfl) (Nat.le_of_ble_eq_true rfl) rfl rfl h (fun a9 u9 h => ?_)
      exact ws_iret (dcd d_m_plainly_1 4 rfl) ⟨_, rfl, rfl⟩ h
    · have h := h.2 c3
      refine ws_if_ne (tgt := 20) (dcd d_m_plainly_0 8 rfl) (by decide) (fun c => absurd (show (0 : Int32) = 0 from by decide) c) (fun _ => ?_)
      refine ws_iconst (v := (-1)) (dcd d_m_plainly_0 9 rfl) (by decide) ?_
      exact ws_iret (dcd d_m_plainly_0 10 rfl) ⟨_, rfl, rfl⟩ h
  · have h := h.2 c1
    refine ws_if_eq (tgt := 18) (dcd d_m_plainly_0 3 rfl) (by decide) (fun _ => ?_) (fun c => absurd (show (0 : Int32) = 0 from by decide) c)
    refine ws_iconst (v := (-1)) (dcd d_m_plainly_0 9 rfl) (by decide) ?_
    exact ws_iret (dcd d_m_plainly_0 10 rfl) ⟨_, rfl, rfl⟩ h
theorem sg_m_plainBy_0 {x1 : Int32} {x2 : Int32} {x3 : Int32} {x4 : Int32} {x5 : Int64} {x7 : Int64}  (h : ((3 ≤ x2 → ¬ x4 = 0 ∧ ¬ (2 * (x4 : Int32).toInt64) = 0 ∧ ¬ (x4 : Int32).toInt64 = 0) ∧ ((3 ≤ x2 → ¬ x4 = 0 ∧ ¬ (2 * (x4 : Int32).toInt64) = 0 ∧ ¬ (x4 : Int32).toInt64 = 0) ∧ (¬ ((mI u 76 10) : Int32).toInt64 = 0 ∧ Q (some (.int (dAt (mI u 76 10) ((x1 : Int32).toInt64 + ((x3 : Int32).toInt64 * ((wayV x2 x4 (x5 + x7)) - (wayV x2 x4 x5))))))) u)))) : Ws G m_plainBy 0 [(0, .ref 76), (1, .int x1), (2, .int x2), (3, .int x3), (4, .int x4), (5, .long x5), (7, .long x7)] [] u Q := by
  refine ws_aload_n 0 (dcd d_m_plainBy_0 0 rfl) rfl ?_
  refine ws_iload_n 1 (dcd d_m_plainBy_0 1 rfl) rfl ?_
  refine ws_i2l (dcd d_m_plainBy_0 2 rfl) ?_
  refine ws_iload_n 3 (dcd d_m_plainBy_0 3 rfl) rfl ?_
  refine ws_i2l (dcd d_m_plainBy_0 4 rfl) ?_
  refine ws_iload_n 2 (dcd d_m_plainBy_0 5 rfl) rfl ?_
  refine ws_iload 4 (dcd d_m_plainBy_0 6 rfl) rfl ?_
  refine ws_lload 5 (dcd d_m_plainBy_0 7 rfl) rfl ?_
  refine ws_lload 6 (dcd d_m_plainBy_0 8 rfl) rfl ?_
  refine ws_ladd (dcd d_m_plainBy_0 9 rfl) ?_
  obtain ⟨e1, h⟩ := h
  refine ws_callSJ (As := [.int x2, .int x4, .long (x5 + x7)]) (st := [.long (x3 : Int32).toInt64, .long (x1 : Int32).toInt64, .ref 76]) (la := [(0, .int x2), (1, .int x4), (2, .long (x5 + x7))]) (dcd d_m_plainBy_0 10 rfl) cs_m_ways k_m_217 ⟨by decide, by decide⟩ rfl (Nat.le_of_ble_eq_true rfl) (Nat.le_of_ble_eq_true rfl) rfl rfl (sp_m_ways e1) ?_
  rintro _ _ ⟨rfl, rfl⟩
  refine ws_iload_n 2 (dcd d_m_plainBy_0 11 rfl) rfl ?_
  refine ws_iload 4 (dcd d_m_plainBy_0 12 rfl) rfl ?_
  refine ws_lload 5 (dcd d_m_plainBy_0 13 rfl) rfl ?_
  obtain ⟨e2, h⟩ := h
  refine ws_callSJ (As := [.int x2, .int x4, .long x5]) (st := [.long (wayV x2 x4 (x5 + x7)), .long (x3 : Int32).toInt64, .long (x1 : Int32).toInt64, .ref 76]) (la := [(0, .int x2), (1, .int x4), (2, .long x5)]) (dcd d_m_plainBy_0 14 rfl) cs_m_ways k_m_217 ⟨by decide, by decide⟩ rfl (Nat.le_of_ble_eq_true rfl) (Nat.le_of_ble_eq_true rfl) rfl rfl (sp_m_ways e2) ?_
  rintro _ _ ⟨rfl, rfl⟩
  refine ws_lsub (dcd d_m_plainBy_0 15 rfl) ?_
  refine ws_lmul (dcd d_m_plainBy_0 16 rfl) ?_
  refine ws_ladd (dcd d_m_plainBy_0 17 rfl) ?_
  obtain ⟨e3, h⟩ := h
  refine ws_callVI (o := 76) (As := [.long ((x1 : Int32).toInt64 + ((x3 : Int32).toInt64 * ((wayV x2 x4 (x5 + x7)) - (wayV x2 x4 x5))))]) (st := []) (la := [(0, .ref 76), (1, .long ((x1 : Int32).toInt64 + ((x3 : Int32).toInt64 * ((wayV x2 x4 (x5 + x7)) - (wayV x2 x4 x5)))))]) (dcd d_m_plainBy_0 18 rfl) cv_m_doorAt k_m_181 ⟨by decide, by decide⟩ ok_76 rfl (Nat.le_of_ble_eq_true rfl) (Nat.le_of_ble_eq_true rfl) rfl rfl (sp_m_doorAt e3) ?_
  rintro _ _ ⟨rfl, rfl⟩
  exact ws_iret (dcd d_m_plainBy_0 19 rfl) ⟨_, rfl, rfl⟩ h
theorem sg_m_again_0   (h : ((¬ (mI u 76 10) = 0 → Ws G m_fromNow 0 [(0, .ref 76)] [] u (RV fun u2 => Ws G m_again 16 [(0, .ref 76), (1, .int 1)] [] u2 Q)) ∧ ((mI u 76 10) = 0 → Q (some (.int (-4))) u))) : Ws G m_again 0 [(0, .ref 76)] [] u Q := by
  refine ws_aload_n 0 (dcd d_m_again_0 0 rfl) rfl ?_
  refine ws_getI f_m_153 rfl (dcd d_m_again_0 1 rfl) ok_76 ?_
  refine ws_if_ne (tgt := 10) (dcd d_m_again_0 2 rfl) (by decide) (fun c1 => ?_) (fun c1 => ?_)
  · have h := h.1 c1
    refine ws_aload_n 0 (dcd d_m_again_0 5 rfl) rfl ?_
    refine ws_callVV (o := 76) (As := []) (st := []) (la := [(0, .ref 76)]) (dcd d_m_again_0 6 rfl) cv_m_fromNow k_m_205 ⟨by decide, by decide⟩ ok_76 rfl (Nat.le_of_ble_eq_true rfl) (Nat.le_of_ble_eq_true rfl) rfl rfl h (fun u2 h => ?_)
    refine ws_iconst (v := 1) (dcd d_m_again_0 7 rfl) (by decide) ?_
    refine ws_istore_n (l' := [(1, .int 1), (0, .ref 76)]) (dcd d_m_again_0 8 rfl) (by decide) rfl ?_
    exact ws_loc [1, 0] rfl h
  · have h := h.2 c1
    refine ws_bipush (v := (-4)) (dcd d_m_again_0 3 rfl) (by decide) ?_
    exact ws_iret (dcd d_m_again_0 4 rfl) ⟨_, rfl, rfl⟩ h
theorem sg_m_again_16 {x1 : Int32}  (h : ((600 < x1 → Q (some (.int (-9))) u) ∧ (¬ (600 < x1) → Ws G m_passOne 0 [(0, .ref 76), (1, .int (((mI u 76 18) + x1) - 1)), (2, .int (mI u 76 19))] [] u (RV fun u2 => Ws G m_again 43 [(0, .ref 76), (1, .int x1), (2, .int 1), (3, .int 0)] [] u2 Q)))) : Ws G m_again 16 [(0, .ref 76), (1, .int x1)] [] u Q := by
  refine ws_iload_n 1 (dcd d_m_again_0 9 rfl) rfl ?_
  refine ws_sipush (v := 600) (dcd d_m_again_0 10 rfl) (by decide) ?_
  refine ws_icmp_gt (tgt := 94) (dcd d_m_again_0 11 rfl) (by decide) (fun c1 => ?_) (fun c1 => ?_)
  · have h := h.1 c1
    refine ws_bipush (v := (-9)) (dcd d_m_again_1 23 rfl) (by decide) ?_
    exact ws_iret (dcd d_m_again_1 24 rfl) ⟨_, rfl, rfl⟩ h
  · have h := h.2 c1
    refine ws_aload_n 0 (dcd d_m_again_0 12 rfl) rfl ?_
    refine ws_aload_n 0 (dcd d_m_again_0 13 rfl) rfl ?_
    refine ws_getI f_m_162 rfl (dcd d_m_again_0 14 rfl) ok_76 ?_
    refine ws_iload_n 1 (dcd d_m_again_0 15 rfl) rfl ?_
    refine ws_iadd (dcd d_m_again_0 16 rfl) ?_
    refine ws_iconst (v := 1) (dcd d_m_again_0 17 rfl) (by decide) ?_
    refine ws_isub (dcd d_m_again_0 18 rfl) ?_
    refine ws_aload_n 0 (dcd d_m_again_0 19 rfl) rfl ?_
    refine ws_getI f_m_165 rfl (dcd d_m_again_0 20 rfl) ok_76 ?_
    refine ws_callVV (o := 76) (As := [.int (((mI u 76 18) + x1) - 1), .int (mI u 76 19)]) (st := []) (la := [(0, .ref 76), (1, .int (((mI u 76 18) + x1) - 1)), (2, .int (mI u 76 19))]) (dcd d_m_again_0 21 rfl) cv_m_passOne k_m_208 ⟨by decide, by decide⟩ ok_76 rfl (Nat.le_of_ble_eq_true rfl) (Nat.le_of_ble_eq_true rfl) rfl rfl h (fun u2 h => ?_)
    refine ws_iconst (v := 1) (dcd d_m_again_0 22 rfl) (by decide) ?_
    refine ws_istore_n (l' := [(2, .int 1), (0, .ref 76), (1, .int x1)]) (dcd d_m_again_0 23 rfl) (by decide) rfl ?_
    refine ws_iconst (v := 0) (dcd d_m_again_0 24 rfl) (by decide) ?_
    refine ws_istore_n (l' := [(3, .int 0), (2, .int 1), (0, .ref 76), (1, .int x1)]) (dcd d_m_again_0 25 rfl) (by decide) rfl ?_
    exact ws_loc [2, 3, 1, 0] rfl h
theorem sg_m_again_43 {x1 : Int32} {x2 : Int32} {x3 : Int32}  (h : (((mI u 76 11) ≤ x3 → ((x2 = 0 → Ws G m_again 16 [(0, .ref 76), (1, .int (x1 + 1))] [] u Q) ∧ (¬ x2 = 0 → Q (some (.int x1)) u))) ∧ (¬ ((mI u 76 11) ≤ x3) → ((x2 = 0 → Ws G m_again 43 [(0, .ref 76), (1, .int x1), (2, .int 0), (3, .int (x3 + 1))] [] u Q) ∧ (¬ x2 = 0 → (vp_in x3 7 ∧ (vp_in x3 7 ∧ ((¬ (mI u 85 (x3 : Int32).toNatClampNeg) = (mI u 84 (x3 : Int32).toNatClampNeg) → Ws G m_again 43 [(0, .ref 76), (1, .int x1), (2, .int 0), (3, .int (x3 + 1))] [] u Q) ∧ ((mI u 85 (x3 : Int32).toNatClampNeg) = (mI u 84 (x3 : Int32).toNatClampNeg) → Ws G m_again 43 [(0, .ref 76), (1, .int x1), (2, .int 1), (3, .int (x3 + 1))] [] u Q))))))))) : Ws G m_again 43 [(0, .ref 76), (1, .int x1), (2, .int x2), (3, .int x3)] [] u Q := by
  refine ws_iload_n 3 (dcd d_m_again_0 26 rfl) rfl ?_
  refine ws_aload_n 0 (dcd d_m_again_0 27 rfl) rfl ?_
  refine ws_getI f_m_156 rfl (dcd d_m_again_0 28 rfl) ok_76 ?_
  refine ws_icmp_ge (tgt := 82) (dcd d_m_again_0 29 rfl) (by decide) (fun c1 => ?_) (fun c1 => ?_)
  · have h := h.1 c1
    refine ws_iload_n 2 (dcd d_m_again_1 17 rfl) rfl ?_
    refine ws_if_eq (tgt := 88) (dcd d_m_again_1 18 rfl) (by decide) (fun c2 => ?_) (fun c2 => ?_)
    · have h := h.1 c2
      refine ws_iinc (v := 1) (l' := [(1, .int (x1 + 1)), (0, .ref 76), (2, .int x2), (3, .int x3)]) 1 (dcd d_m_again_1 21 rfl) rfl (by decide) (by decide) rfl ?_
      refine ws_goto (tgt := 16) (dcd d_m_again_1 22 rfl) (by decide) ?_
      exact ws_loc [1, 0] rfl h
    · have h := h.2 c2
      refine ws_iload_n 1 (dcd d_m_again_1 19 rfl) rfl ?_
      exact ws_iret (dcd d_m_again_1 20 rfl) ⟨_, rfl, rfl⟩ h
  · have h := h.2 c1
    refine ws_iload_n 2 (dcd d_m_again_1 0 rfl) rfl ?_
    refine ws_if_eq (tgt := 74) (dcd d_m_again_1 1 rfl) (by decide) (fun c3 => ?_) (fun c3 => ?_)
    · have h := h.1 c3
      refine ws_iconst (v := 0) (dcd d_m_again_1 13 rfl) (by decide) ?_
      refine ws_istore_n (l' := [(2, .int 0), (0, .ref 76), (1, .int x1), (3, .int x3)]) (dcd d_m_again_1 14 rfl) (by decide) rfl ?_
      refine ws_iinc (v := 1) (l' := [(3, .int (x3 + 1)), (2, .int 0), (0, .ref 76), (1, .int x1)]) 3 (dcd d_m_again_1 15 rfl) rfl (by decide) (by decide) rfl ?_
      refine ws_goto (tgt := 43) (dcd d_m_again_1 16 rfl) (by decide) ?_
      exact ws_loc [2, 3, 1, 0] rfl h
    · have h := h.2 c3
      refine ws_aload_n 0 (dcd d_m_again_1 2 rfl) rfl ?_
      refine ws_getF (a := 85) f_m_38 rfl (dcd d_m_again_1 3 rfl) ok_76 of_8_20 rfl ?_
      refine ws_iload_n 3 (dcd d_m_again_1 4 rfl) rfl ?_
      obtain ⟨e4, h⟩ := h
      refine ws_iald (L := 7) (dcd d_m_again_1 5 rfl) (os_8_20 ok_76) (ol_8_20 ok_76) e4 ?_
      refine ws_aload_n 0 (dcd d_m_again_1 6 rfl) rfl ?_
      refine ws_getF (a := 84) f_m_35 rfl (dcd d_m_again_1 7 rfl) ok_76 of_8_17 rfl ?_
      refine ws_iload_n 3 (dcd d_m_again_1 8 rfl) rfl ?_
      obtain ⟨e5, h⟩ := h
      refine ws_iald (L := 7) (dcd d_m_again_1 9 rfl) (os_8_17 ok_76) (ol_8_17 ok_76) e5 ?_
      refine ws_icmp_ne (tgt := 74) (dcd d_m_again_1 10 rfl) (by decide) (fun c6 => ?_) (fun c6 => ?_)
      · have h := h.1 c6
        refine ws_iconst (v := 0) (dcd d_m_again_1 13 rfl) (by decide) ?_
        refine ws_istore_n (l' := [(2, .int 0), (0, .ref 76), (1, .int x1), (3, .int x3)]) (dcd d_m_again_1 14 rfl) (by decide) rfl ?_
        refine ws_iinc (v := 1) (l' := [(3, .int (x3 + 1)), (2, .int 0), (0, .ref 76), (1, .int x1)]) 3 (dcd d_m_again_1 15 rfl) rfl (by decide) (by decide) rfl ?_
        refine ws_goto (tgt := 43) (dcd d_m_again_1 16 rfl) (by decide) ?_
        exact ws_loc [2, 3, 1, 0] rfl h
      · have h := h.2 c6
        refine ws_iconst (v := 1) (dcd d_m_again_1 11 rfl) (by decide) ?_
        refine ws_goto (tgt := 75) (dcd d_m_again_1 12 rfl) (by decide) ?_
        refine ws_istore_n (l' := [(2, .int 1), (0, .ref 76), (1, .int x1), (3, .int x3)]) (dcd d_m_again_1 14 rfl) (by decide) rfl ?_
        refine ws_iinc (v := 1) (l' := [(3, .int (x3 + 1)), (2, .int 1), (0, .ref 76), (1, .int x1)]) 3 (dcd d_m_again_1 15 rfl) rfl (by decide) (by decide) rfl ?_
        refine ws_goto (tgt := 43) (dcd d_m_again_1 16 rfl) (by decide) ?_
        exact ws_loc [2, 3, 1, 0] rfl h
theorem sg_m_keep_0 {x1 : Int32}  (h : (((0 ≤ x1 ∧ x1 ≤ 2) → ((¬ (mI u 76 10) = 0 → (vp_in (10 * x1) 30 ∧ (vp_in ((10 * x1) + 1) 30 ∧ Ws G m_keep 51 [(0, .ref 76), (1, .int x1), (2, .int 0)] [] (pI (pI u 87 ((10 * x1) : Int32).toNatClampNeg (mI u 76 18)) 87 (((10 * x1) + 1) : Int32).toNatClampNeg (mI (pI u 87 ((10 * x1) : Int32).toNatClampNeg (mI u 76 18)) 76 19)) Q))) ∧ ((mI u 76 10) = 0 → Q (some (.int (-4))) u))) ∧ (¬ (0 ≤ x1 ∧ x1 ≤ 2) → Q (some (.int (-1))) u))) : Ws G m_keep 0 [(0, .ref 76), (1, .int x1)] [] u Q := by
  refine ws_iload_n 1 (dcd d_m_keep_0 0 rfl) rfl ?_
  refine ws_iconst (v := 0) (dcd d_m_keep_0 1 rfl) (by decide) ?_
  refine ws_iconst (v := 2) (dcd d_m_keep_0 2 rfl) (by decide) ?_
  refine ws_callSI (As := [.int x1, .int 0, .int 2]) (st := []) (la := [(0, .int x1), (1, .int 0), (2, .int 2)]) (dcd d_m_keep_0 3 rfl) cs_m_in k_m_78 ⟨by decide, by decide⟩ rfl (Nat.le_of_ble_eq_true rfl) (Nat.le_of_ble_eq_true rfl) rfl rfl sp_m_in ?_
  rintro _ _ ⟨rfl, ⟨rfl, c1⟩ | ⟨rfl, c1⟩⟩
  · have h := h.1 c1
    refine ws_if_ne (tgt := 11) (dcd d_m_keep_0 4 rfl) (by decide) (fun _ => ?_) (fun c => absurd c (by decide))
    refine ws_aload_n 0 (dcd d_m_keep_0 7 rfl) rfl ?_
    refine ws_getI f_m_153 rfl (dcd d_m_keep_0 8 rfl) ok_76 ?_
    refine ws_if_ne (tgt := 21) (dcd d_m_keep_0 9 rfl) (by decide) (fun c3 => ?_) (fun c3 => ?_)
    · have h := h.1 c3
      refine ws_aload_n 0 (dcd d_m_keep_0 12 rfl) rfl ?_
      refine ws_getF (a := 87) f_m_44 rfl (dcd d_m_keep_0 13 rfl) ok_76 of_8_22 rfl ?_
      refine ws_bipush (v := 10) (dcd d_m_keep_0 14 rfl) (by decide) ?_
      refine ws_iload_n 1 (dcd d_m_keep_0 15 rfl) rfl ?_
      refine ws_imul (dcd d_m_keep_0 16 rfl) ?_
      refine ws_aload_n 0 (dcd d_m_keep_0 17 rfl) rfl ?_
      refine ws_getI f_m_162 rfl (dcd d_m_keep_0 18 rfl) ok_76 ?_
      obtain ⟨e4, h⟩ := h
      refine ws_iast (L := 30) (dcd d_m_keep_0 19 rfl) (os_8_22 ok_76) (ol_8_22 ok_76) e4 ?_
      refine ws_aload_n 0 (dcd d_m_keep_0 20 rfl) rfl ?_
      refine ws_getF (a := 87) f_m_44 rfl (dcd d_m_keep_0 21 rfl) ok_76 of_8_22 rfl ?_
      refine ws_bipush (v := 10) (dcd d_m_keep_0 22 rfl) (by decide) ?_
      refine ws_iload_n 1 (dcd d_m_keep_0 23 rfl) rfl ?_
      refine ws_imul (dcd d_m_keep_0 24 rfl) ?_
      refine ws_iconst (v := 1) (dcd d_m_keep_0 25 rfl) (by decide) ?_
      refine ws_iadd (dcd d_m_keep_0 26 rfl) ?_
      refine ws_aload_n 0 (dcd d_m_keep_0 27 rfl) rfl ?_
      refine ws_getI f_m_165 rfl (dcd d_m_keep_0 28 rfl) ok_76 ?_
      obtain ⟨e5, h⟩ := h
      refine ws_iast (L := 30) (dcd d_m_keep_0 29 rfl) (os_8_22 ok_76) (ol_8_22 ok_76) e5 ?_
      refine ws_iconst (v := 0) (dcd d_m_keep_1 0 rfl) (by decide) ?_
      refine ws_istore_n (l' := [(2, .int 0), (0, .ref 76), (1, .int x1)]) (dcd d_m_keep_1 1 rfl) (by decide) rfl ?_
      exact ws_loc [1, 2, 0] rfl h
    · have h := h.2 c3
      refine ws_bipush (v := (-4)) (dcd d_m_keep_0 10 rfl) (by decide) ?_
      exact ws_iret (dcd d_m_keep_0 11 rfl) ⟨_, rfl, rfl⟩ h
  · have h := h.2 c1
    refine ws_if_ne (tgt := 11) (dcd d_m_keep_0 4 rfl) (by decide) (fun c => absurd (show (0 : Int32) = 0 from by decide) c) (fun _ => ?_)
    refine ws_iconst (v := (-1)) (dcd d_m_keep_0 5 rfl) (by decide) ?_
    exact ws_iret (dcd d_m_keep_0 6 rfl) ⟨_, rfl, rfl⟩ h
theorem sg_m_keep_51 {x1 : Int32} {x2 : Int32}  (h : (((mI u 76 11) ≤ x2 → Q (some (.int (mI u 76 18))) u) ∧ (¬ ((mI u 76 11) ≤ x2) → (vp_in x2 7 ∧ (vp_in (((10 * x1) + 2) + x2) 30 ∧ Ws G m_keep 51 [(0, .ref 76), (1, .int x1), (2, .int (x2 + 1))] [] (pI u 87 ((((10 * x1) + 2) + x2) : Int32).toNatClampNeg (mI u 84 (x2 : Int32).toNatClampNeg)) Q))))) : Ws G m_keep 51 [(0, .ref 76), (1, .int x1), (2, .int x2)] [] u Q := by
  refine ws_iload_n 2 (dcd d_m_keep_1 2 rfl) rfl ?_
  refine ws_aload_n 0 (dcd d_m_keep_1 3 rfl) rfl ?_
  refine ws_getI f_m_156 rfl (dcd d_m_keep_1 4 rfl) ok_76 ?_
  refine ws_icmp_ge (tgt := 84) (dcd d_m_keep_1 5 rfl) (by decide) (fun c1 => ?_) (fun c1 => ?_)
  · have h := h.1 c1
    refine ws_aload_n 0 (dcd d_m_keep_1 22 rfl) rfl ?_
    refine ws_getI f_m_162 rfl (dcd d_m_keep_1 23 rfl) ok_76 ?_
    exact ws_iret (dcd d_m_keep_1 24 rfl) ⟨_, rfl, rfl⟩ h
  · have h := h.2 c1
    refine ws_aload_n 0 (dcd d_m_keep_1 6 rfl) rfl ?_
    refine ws_getF (a := 87) f_m_44 rfl (dcd d_m_keep_1 7 rfl) ok_76 of_8_22 rfl ?_
    refine ws_bipush (v := 10) (dcd d_m_keep_1 8 rfl) (by decide) ?_
    refine ws_iload_n 1 (dcd d_m_keep_1 9 rfl) rfl ?_
    refine ws_imul (dcd d_m_keep_1 10 rfl) ?_
    refine ws_iconst (v := 2) (dcd d_m_keep_1 11 rfl) (by decide) ?_
    refine ws_iadd (dcd d_m_keep_1 12 rfl) ?_
    refine ws_iload_n 2 (dcd d_m_keep_1 13 rfl) rfl ?_
    refine ws_iadd (dcd d_m_keep_1 14 rfl) ?_
    refine ws_aload_n 0 (dcd d_m_keep_1 15 rfl) rfl ?_
    refine ws_getF (a := 84) f_m_35 rfl (dcd d_m_keep_1 16 rfl) ok_76 of_8_17 rfl ?_
    refine ws_iload_n 2 (dcd d_m_keep_1 17 rfl) rfl ?_
    obtain ⟨e2, h⟩ := h
    refine ws_iald (L := 7) (dcd d_m_keep_1 18 rfl) (os_8_17 ok_76) (ol_8_17 ok_76) e2 ?_
    obtain ⟨e3, h⟩ := h
    refine ws_iast (L := 30) (dcd d_m_keep_1 19 rfl) (os_8_22 ok_76) (ol_8_22 ok_76) e3 ?_
    refine ws_iinc (v := 1) (l' := [(2, .int (x2 + 1)), (0, .ref 76), (1, .int x1)]) 2 (dcd d_m_keep_1 20 rfl) rfl (by decide) (by decide) rfl ?_
    refine ws_goto (tgt := 51) (dcd d_m_keep_1 21 rfl) (by decide) ?_
    exact ws_loc [1, 2, 0] rfl h
theorem sg_m_on_0 {x1 : Int32}  (h : (((0 ≤ x1 ∧ x1 ≤ 2) → (vp_in (10 * x1) 30 ∧ ((¬ (mI u 87 ((10 * x1) : Int32).toNatClampNeg) = (-9) → (vp_in (10 * x1) 30 ∧ (vp_in ((10 * x1) + 1) 30 ∧ Ws G m_on 61 [(0, .ref 76), (1, .int x1), (2, .int 0)] [] (pI (pI u 76 18 (mI u 87 ((10 * x1) : Int32).toNatClampNeg)) 76 19 (mI (pI u 76 18 (mI u 87 ((10 * x1) : Int32).toNatClampNeg)) 87 (((10 * x1) + 1) : Int32).toNatClampNeg)) Q))) ∧ ((mI u 87 ((10 * x1) : Int32).toNatClampNeg) = (-9) → Q (some (.int (-3))) (mt u 1))))) ∧ (¬ (0 ≤ x1 ∧ x1 ≤ 2) → Q (some (.int (-1))) u))) : Ws G m_on 0 [(0, .ref 76), (1, .int x1)] [] u Q := by
  refine ws_iload_n 1 (dcd d_m_on_0 0 rfl) rfl ?_
  refine ws_iconst (v := 0) (dcd d_m_on_0 1 rfl) (by decide) ?_
  refine ws_iconst (v := 2) (dcd d_m_on_0 2 rfl) (by decide) ?_
  refine ws_callSI (As := [.int x1, .int 0, .int 2]) (st := []) (la := [(0, .int x1), (1, .int 0), (2, .int 2)]) (dcd d_m_on_0 3 rfl) cs_m_in k_m_78 ⟨by decide, by decide⟩ rfl (Nat.le_of_ble_eq_true rfl) (Nat.le_of_ble_eq_true rfl) rfl rfl sp_m_in ?_
  rintro _ _ ⟨rfl, ⟨rfl, c1⟩ | ⟨rfl, c1⟩⟩
  · have h := h.1 c1
    refine ws_if_ne (tgt := 11) (dcd d_m_on_0 4 rfl) (by decide) (fun _ => ?_) (fun c => absurd c (by decide))
    refine ws_aload_n 0 (dcd d_m_on_0 7 rfl) rfl ?_
    refine ws_getF (a := 87) f_m_44 rfl (dcd d_m_on_0 8 rfl) ok_76 of_8_22 rfl ?_
    refine ws_bipush (v := 10) (dcd d_m_on_0 9 rfl) (by decide) ?_
    refine ws_iload_n 1 (dcd d_m_on_0 10 rfl) rfl ?_
    refine ws_imul (dcd d_m_on_0 11 rfl) ?_
    obtain ⟨e3, h⟩ := h
    refine ws_iald (L := 30) (dcd d_m_on_0 12 rfl) (os_8_22 ok_76) (ol_8_22 ok_76) e3 ?_
    refine ws_bipush (v := (-9)) (dcd d_m_on_0 13 rfl) (by decide) ?_
    refine ws_icmp_ne (tgt := 31) (dcd d_m_on_0 14 rfl) (by decide) (fun c4 => ?_) (fun c4 => ?_)
    · have h := h.1 c4
      refine ws_aload_n 0 (dcd d_m_on_0 19 rfl) rfl ?_
      refine ws_aload_n 0 (dcd d_m_on_0 20 rfl) rfl ?_
      refine ws_getF (a := 87) f_m_44 rfl (dcd d_m_on_0 21 rfl) ok_76 of_8_22 rfl ?_
      refine ws_bipush (v := 10) (dcd d_m_on_0 22 rfl) (by decide) ?_
      refine ws_iload_n 1 (dcd d_m_on_0 23 rfl) rfl ?_
      refine ws_imul (dcd d_m_on_0 24 rfl) ?_
      obtain ⟨e5, h⟩ := h
      refine ws_iald (L := 30) (dcd d_m_on_0 25 rfl) (os_8_22 ok_76) (ol_8_22 ok_76) e5 ?_
      refine ws_putI f_m_162 rfl nf_8_18 (dcd d_m_on_0 26 rfl) ok_76 ?_
      refine ws_aload_n 0 (dcd d_m_on_0 27 rfl) rfl ?_
      refine ws_aload_n 0 (dcd d_m_on_0 28 rfl) rfl ?_
      refine ws_getF (a := 87) f_m_44 rfl (dcd d_m_on_0 29 rfl) ok_76 of_8_22 rfl ?_
      refine ws_bipush (v := 10) (dcd d_m_on_1 0 rfl) (by decide) ?_
      refine ws_iload_n 1 (dcd d_m_on_1 1 rfl) rfl ?_
      refine ws_imul (dcd d_m_on_1 2 rfl) ?_
      refine ws_iconst (v := 1) (dcd d_m_on_1 3 rfl) (by decide) ?_
      refine ws_iadd (dcd d_m_on_1 4 rfl) ?_
      obtain ⟨e6, h⟩ := h
      refine ws_iald (L := 30) (dcd d_m_on_1 5 rfl) (os_8_22 ok_76) (ol_8_22 ok_76) e6 ?_
      refine ws_putI f_m_165 rfl nf_8_19 (dcd d_m_on_1 6 rfl) ok_76 ?_
      refine ws_iconst (v := 0) (dcd d_m_on_1 7 rfl) (by decide) ?_
      refine ws_istore_n (l' := [(2, .int 0), (0, .ref 76), (1, .int x1)]) (dcd d_m_on_1 8 rfl) (by decide) rfl ?_
      exact ws_loc [1, 2, 0] rfl h
    · have h := h.2 c4
      refine ws_aload_n 0 (dcd d_m_on_0 15 rfl) rfl ?_
      refine ws_iconst (v := 1) (dcd d_m_on_0 16 rfl) (by decide) ?_
      refine ws_callVI (o := 76) (As := [.int 1]) (st := []) (la := [(0, .ref 76), (1, .int 1)]) (dcd d_m_on_0 17 rfl) cv_m_meet k_m_86 ⟨by decide, by decide⟩ ok_76 rfl (Nat.le_of_ble_eq_true rfl) (Nat.le_of_ble_eq_true rfl) rfl rfl (sp_m_meet (vin (by decide) (by decide) (by decide))) ?_
      rintro _ _ ⟨rfl, rfl⟩
      exact ws_iret (dcd d_m_on_0 18 rfl) ⟨_, rfl, rfl⟩ h
  · have h := h.2 c1
    refine ws_if_ne (tgt := 11) (dcd d_m_on_0 4 rfl) (by decide) (fun c => absurd (show (0 : Int32) = 0 from by decide) c) (fun _ => ?_)
    refine ws_iconst (v := (-1)) (dcd d_m_on_0 5 rfl) (by decide) ?_
    exact ws_iret (dcd d_m_on_0 6 rfl) ⟨_, rfl, rfl⟩ h
theorem sg_m_on_61 {x1 : Int32} {x2 : Int32}  (h : (((mI u 76 11) ≤ x2 → Q (some (.int (mI u 76 18))) u) ∧ (¬ ((mI u 76 11) ≤ x2) → (vp_in (((10 * x1) + 2) + x2) 30 ∧ (vp_in x2 7 ∧ Ws G m_on 61 [(0, .ref 76), (1, .int x1), (2, .int (x2 + 1))] [] (pI u 84 (x2 : Int32).toNatClampNeg (mI u 87 ((((10 * x1) + 2) + x2) : Int32).toNatClampNeg)) Q))))) : Ws G m_on 61 [(0, .ref 76), (1, .int x1), (2, .int x2)] [] u Q := by
  refine ws_iload_n 2 (dcd d_m_on_1 9 rfl) rfl ?_
  refine ws_aload_n 0 (dcd d_m_on_1 10 rfl) rfl ?_
  refine ws_getI f_m_156 rfl (dcd d_m_on_1 11 rfl) ok_76 ?_
  refine ws_icmp_ge (tgt := 94) (dcd d_m_on_1 12 rfl) (by decide) (fun c1 => ?_) (fun c1 => ?_)
  · have h := h.1 c1
    refine ws_aload_n 0 (dcd d_m_on_1 29 rfl) rfl ?_
    refine ws_getI f_m_162 rfl (dcd d_m_on_2 0 rfl) ok_76 ?_
    exact ws_iret (dcd d_m_on_2 1 rfl) ⟨_, rfl, rfl⟩ h
  · have h := h.2 c1
    refine ws_aload_n 0 (dcd d_m_on_1 13 rfl) rfl ?_
    refine ws_getF (a := 84) f_m_35 rfl (dcd d_m_on_1 14 rfl) ok_76 of_8_17 rfl ?_
    refine ws_iload_n 2 (dcd d_m_on_1 15 rfl) rfl ?_
    refine ws_aload_n 0 (dcd d_m_on_1 16 rfl) rfl ?_
    refine ws_getF (a := 87) f_m_44 rfl (dcd d_m_on_1 17 rfl) ok_76 of_8_22 rfl ?_
    refine ws_bipush (v := 10) (dcd d_m_on_1 18 rfl) (by decide) ?_
    refine ws_iload_n 1 (dcd d_m_on_1 19 rfl) rfl ?_
    refine ws_imul (dcd d_m_on_1 20 rfl) ?_
    refine ws_iconst (v := 2) (dcd d_m_on_1 21 rfl) (by decide) ?_
    refine ws_iadd (dcd d_m_on_1 22 rfl) ?_
    refine ws_iload_n 2 (dcd d_m_on_1 23 rfl) rfl ?_
    refine ws_iadd (dcd d_m_on_1 24 rfl) ?_
    obtain ⟨e2, h⟩ := h
    refine ws_iald (L := 30) (dcd d_m_on_1 25 rfl) (os_8_22 ok_76) (ol_8_22 ok_76) e2 ?_
    obtain ⟨e3, h⟩ := h
    refine ws_iast (L := 7) (dcd d_m_on_1 26 rfl) (os_8_17 ok_76) (ol_8_17 ok_76) e3 ?_
    refine ws_iinc (v := 1) (l' := [(2, .int (x2 + 1)), (0, .ref 76), (1, .int x1)]) 2 (dcd d_m_on_1 27 rfl) rfl (by decide) (by decide) rfl ?_
    refine ws_goto (tgt := 61) (dcd d_m_on_1 28 rfl) (by decide) ?_
    exact ws_loc [1, 2, 0] rfl h
theorem sg_m_beside_0 {x1 : Int32} {x2 : Int32}  (h : (((0 ≤ x1 ∧ x1 ≤ (mI u 76 11) - 1) → (((0 ≤ x2 ∧ x2 ≤ (mI u 76 11) - 1) → ((¬ x1 = x2 → Ws G m_fromNow 0 [(0, .ref 76)] [] u (RV fun u6 => Ws G m_beside 29 [(0, .ref 76), (1, .int x1), (2, .int x2), (3, .int 0)] [] u6 Q)) ∧ (x1 = x2 → Q (some (.int (-1))) u))) ∧ (¬ (0 ≤ x2 ∧ x2 ≤ (mI u 76 11) - 1) → Q (some (.int (-1))) u))) ∧ (¬ (0 ≤ x1 ∧ x1 ≤ (mI u 76 11) - 1) → Q (some (.int (-1))) u))) : Ws G m_beside 0 [(0, .ref 76), (1, .int x1), (2, .int x2)] [] u Q := by
  refine ws_aload_n 0 (dcd d_m_beside_0 0 rfl) rfl ?_
  refine ws_iload_n 1 (dcd d_m_beside_0 1 rfl) rfl ?_
  refine ws_callVI (o := 76) (As := [.int x1]) (st := []) (la := [(0, .ref 76), (1, .int x1)]) (dcd d_m_beside_0 2 rfl) cv_m_isShop k_m_171 ⟨by decide, by decide⟩ ok_76 rfl (Nat.le_of_ble_eq_true rfl) (Nat.le_of_ble_eq_true rfl) rfl rfl sp_m_isShop ?_
  rintro _ _ ⟨rfl, ⟨rfl, c1⟩ | ⟨rfl, c1⟩⟩
  · have h := h.1 c1
    refine ws_if_eq (tgt := 21) (dcd d_m_beside_0 3 rfl) (by decide) (fun c => absurd c (by decide)) (fun _ => ?_)
    refine ws_aload_n 0 (dcd d_m_beside_0 4 rfl) rfl ?_
    refine ws_iload_n 2 (dcd d_m_beside_0 5 rfl) rfl ?_
    refine ws_callVI (o := 76) (As := [.int x2]) (st := []) (la := [(0, .ref 76), (1, .int x2)]) (dcd d_m_beside_0 6 rfl) cv_m_isShop k_m_171 ⟨by decide, by decide⟩ ok_76 rfl (Nat.le_of_ble_eq_true rfl) (Nat.le_of_ble_eq_true rfl) rfl rfl sp_m_isShop ?_
    rintro _ _ ⟨rfl, ⟨rfl, c3⟩ | ⟨rfl, c3⟩⟩
    · have h := h.1 c3
      refine ws_if_eq (tgt := 21) (dcd d_m_beside_0 7 rfl) (by decide) (fun c => absurd c (by decide)) (fun _ => ?_)
      refine ws_iload_n 1 (dcd d_m_beside_0 8 rfl) rfl ?_
      refine ws_iload_n 2 (dcd d_m_beside_0 9 rfl) rfl ?_
      refine ws_icmp_ne (tgt := 23) (dcd d_m_beside_0 10 rfl) (by decide) (fun c5 => ?_) (fun c5 => ?_)
      · have h := h.1 c5
        refine ws_aload_n 0 (dcd d_m_beside_0 13 rfl) rfl ?_
        refine ws_callVV (o := 76) (As := []) (st := []) (la := [(0, .ref 76)]) (dcd d_m_beside_0 14 rfl) cv_m_fromNow k_m_205 ⟨by decide, by decide⟩ ok_76 rfl (Nat.le_of_ble_eq_true rfl) (Nat.le_of_ble_eq_true rfl) rfl rfl h (fun u6 h => ?_)
        refine ws_iconst (v := 0) (dcd d_m_beside_0 15 rfl) (by decide) ?_
        refine ws_istore_n (l' := [(3, .int 0), (0, .ref 76), (1, .int x1), (2, .int x2)]) (dcd d_m_beside_0 16 rfl) (by decide) rfl ?_
        exact ws_loc [1, 2, 3, 0] rfl h
      · have h := h.2 c5
        refine ws_iconst (v := (-1)) (dcd d_m_beside_0 11 rfl) (by decide) ?_
        exact ws_iret (dcd d_m_beside_0 12 rfl) ⟨_, rfl, rfl⟩ h
    · have h := h.2 c3
      refine ws_if_eq (tgt := 21) (dcd d_m_beside_0 7 rfl) (by decide) (fun _ => ?_) (fun c => absurd (show (0 : Int32) = 0 from by decide) c)
      refine ws_iconst (v := (-1)) (dcd d_m_beside_0 11 rfl) (by decide) ?_
      exact ws_iret (dcd d_m_beside_0 12 rfl) ⟨_, rfl, rfl⟩ h
  · have h := h.2 c1
    refine ws_if_eq (tgt := 21) (dcd d_m_beside_0 3 rfl) (by decide) (fun _ => ?_) (fun c => absurd (show (0 : Int32) = 0 from by decide) c)
    refine ws_iconst (v := (-1)) (dcd d_m_beside_0 11 rfl) (by decide) ?_
    exact ws_iret (dcd d_m_beside_0 12 rfl) ⟨_, rfl, rfl⟩ h
theorem sg_m_beside_29 {x1 : Int32} {x2 : Int32} {x3 : Int32}  (h : ((600 < x3 → Q (some (.int (-9))) u) ∧ (¬ (600 < x3) → (vp_in x1 7 ∧ (vp_in x2 7 ∧ Ws G m_areBeside 0 [(0, .ref 76), (1, .int (mI u 85 (x1 : Int32).toNatClampNeg)), (2, .int (mI u 85 (x2 : Int32).toNatClampNeg))] [] u (RI fun a4 u4 => ((a4 = 0 → Ws G m_passOne 0 [(0, .ref 76), (1, .int ((mI u4 76 18) + x3)), (2, .int (mI u4 76 19))] [] u4 (RV fun u6 => Ws G m_beside 29 [(0, .ref 76), (1, .int x1), (2, .int x2), (3, .int (x3 + 1))] [] u6 Q)) ∧ (¬ a4 = 0 → Q (some (.int x3)) u4)))))))) : Ws G m_beside 29 [(0, .ref 76), (1, .int x1), (2, .int x2), (3, .int x3)] [] u Q := by
  refine ws_iload_n 3 (dcd d_m_beside_0 17 rfl) rfl ?_
  refine ws_sipush (v := 600) (dcd d_m_beside_0 18 rfl) (by decide) ?_
  refine ws_icmp_gt (tgt := 77) (dcd d_m_beside_0 19 rfl) (by decide) (fun c1 => ?_) (fun c1 => ?_)
  · have h := h.1 c1
    refine ws_bipush (v := (-9)) (dcd d_m_beside_1 13 rfl) (by decide) ?_
    exact ws_iret (dcd d_m_beside_1 14 rfl) ⟨_, rfl, rfl⟩ h
  · have h := h.2 c1
    refine ws_aload_n 0 (dcd d_m_beside_0 20 rfl) rfl ?_
    refine ws_aload_n 0 (dcd d_m_beside_0 21 rfl) rfl ?_
    refine ws_getF (a := 85) f_m_38 rfl (dcd d_m_beside_0 22 rfl) ok_76 of_8_20 rfl ?_
    refine ws_iload_n 1 (dcd d_m_beside_0 23 rfl) rfl ?_
    obtain ⟨e2, h⟩ := h
    refine ws_iald (L := 7) (dcd d_m_beside_0 24 rfl) (os_8_20 ok_76) (ol_8_20 ok_76) e2 ?_
    refine ws_aload_n 0 (dcd d_m_beside_0 25 rfl) rfl ?_
    refine ws_getF (a := 85) f_m_38 rfl (dcd d_m_beside_0 26 rfl) ok_76 of_8_20 rfl ?_
    refine ws_iload_n 2 (dcd d_m_beside_0 27 rfl) rfl ?_
    obtain ⟨e3, h⟩ := h
    refine ws_iald (L := 7) (dcd d_m_beside_0 28 rfl) (os_8_20 ok_76) (ol_8_20 ok_76) e3 ?_
    refine ws_callVI (o := 76) (As := [.int (mI u 85 (x1 : Int32).toNatClampNeg), .int (mI u 85 (x2 : Int32).toNatClampNeg)]) (st := []) (la := [(0, .ref 76), (1, .int (mI u 85 (x1 : Int32).toNatClampNeg)), (2, .int (mI u 85 (x2 : Int32).toNatClampNeg))]) (dcd d_m_beside_0 29 rfl) cv_m_areBeside k_m_188 ⟨by decide, by decide⟩ ok_76 rfl (Nat.le_of_ble_eq_true rfl) (Nat.le_of_ble_eq_true rfl) rfl rfl h (fun a4 u4 h => ?_)
    refine ws_if_eq (tgt := 57) (dcd d_m_beside_1 0 rfl) (by decide) (fun c5 => ?_) (fun c5 => ?_)
    · have h := h.1 c5
      refine ws_aload_n 0 (dcd d_m_beside_1 3 rfl) rfl ?_
      refine ws_aload_n 0 (dcd d_m_beside_1 4 rfl) rfl ?_
      refine ws_getI f_m_162 rfl (dcd d_m_beside_1 5 rfl) ok_76 ?_
      refine ws_iload_n 3 (dcd d_m_beside_1 6 rfl) rfl ?_
      refine ws_iadd (dcd d_m_beside_1 7 rfl) ?_
      refine ws_aload_n 0 (dcd d_m_beside_1 8 rfl) rfl ?_
      refine ws_getI f_m_165 rfl (dcd d_m_beside_1 9 rfl) ok_76 ?_
      refine ws_callVV (o := 76) (As := [.int ((mI u4 76 18) + x3), .int (mI u4 76 19)]) (st := []) (la := [(0, .ref 76), (1, .int ((mI u4 76 18) + x3)), (2, .int (mI u4 76 19))]) (dcd d_m_beside_1 10 rfl) cv_m_passOne k_m_208 ⟨by decide, by decide⟩ ok_76 rfl (Nat.le_of_ble_eq_true rfl) (Nat.le_of_ble_eq_true rfl) rfl rfl h (fun u6 h => ?_)
      refine ws_iinc (v := 1) (l' := [(3, .int (x3 + 1)), (0, .ref 76), (1, .int x1), (2, .int x2)]) 3 (dcd d_m_beside_1 11 rfl) rfl (by decide) (by decide) rfl ?_
      refine ws_goto (tgt := 29) (dcd d_m_beside_1 12 rfl) (by decide) ?_
      exact ws_loc [1, 2, 3, 0] rfl h
    · have h := h.2 c5
      refine ws_iload_n 3 (dcd d_m_beside_1 1 rfl) rfl ?_
      exact ws_iret (dcd d_m_beside_1 2 rfl) ⟨_, rfl, rfl⟩ h
theorem sg_m_comes_0 {x1 : Int32} {x2 : Int32}  (h : (((0 ≤ x1 ∧ x1 ≤ (mI u 76 11) - 1) → (((0 ≤ x2 ∧ x2 ≤ (mI u 76 10) - 1) → Ws G m_fromNow 0 [(0, .ref 76)] [] u (RV fun u5 => Ws G m_comes 24 [(0, .ref 76), (1, .int x1), (2, .int x2), (3, .int 0)] [] u5 Q)) ∧ (¬ (0 ≤ x2 ∧ x2 ≤ (mI u 76 10) - 1) → Q (some (.int (-1))) u))) ∧ (¬ (0 ≤ x1 ∧ x1 ≤ (mI u 76 11) - 1) → Q (some (.int (-1))) u))) : Ws G m_comes 0 [(0, .ref 76), (1, .int x1), (2, .int x2)] [] u Q := by
  refine ws_aload_n 0 (dcd d_m_comes_0 0 rfl) rfl ?_
  refine ws_iload_n 1 (dcd d_m_comes_0 1 rfl) rfl ?_
  refine ws_callVI (o := 76) (As := [.int x1]) (st := []) (la := [(0, .ref 76), (1, .int x1)]) (dcd d_m_comes_0 2 rfl) cv_m_isShop k_m_171 ⟨by decide, by decide⟩ ok_76 rfl (Nat.le_of_ble_eq_true rfl) (Nat.le_of_ble_eq_true rfl) rfl rfl sp_m_isShop ?_
  rintro _ _ ⟨rfl, ⟨rfl, c1⟩ | ⟨rfl, c1⟩⟩
  · have h := h.1 c1
    refine ws_if_eq (tgt := 16) (dcd d_m_comes_0 3 rfl) (by decide) (fun c => absurd c (by decide)) (fun _ => ?_)
    refine ws_aload_n 0 (dcd d_m_comes_0 4 rfl) rfl ?_
    refine ws_iload_n 2 (dcd d_m_comes_0 5 rfl) rfl ?_
    refine ws_callVI (o := 76) (As := [.int x2]) (st := []) (la := [(0, .ref 76), (1, .int x2)]) (dcd d_m_comes_0 6 rfl) cv_m_isDoor k_m_194 ⟨by decide, by decide⟩ ok_76 rfl (Nat.le_of_ble_eq_true rfl) (Nat.le_of_ble_eq_true rfl) rfl rfl sp_m_isDoor ?_
    rintro _ _ ⟨rfl, ⟨rfl, c3⟩ | ⟨rfl, c3⟩⟩
    · have h := h.1 c3
      refine ws_if_ne (tgt := 18) (dcd d_m_comes_0 7 rfl) (by decide) (fun _ => ?_) (fun c => absurd c (by decide))
      refine ws_aload_n 0 (dcd d_m_comes_0 10 rfl) rfl ?_
      refine ws_callVV (o := 76) (As := []) (st := []) (la := [(0, .ref 76)]) (dcd d_m_comes_0 11 rfl) cv_m_fromNow k_m_205 ⟨by decide, by decide⟩ ok_76 rfl (Nat.le_of_ble_eq_true rfl) (Nat.le_of_ble_eq_true rfl) rfl rfl h (fun u5 h => ?_)
      refine ws_iconst (v := 0) (dcd d_m_comes_0 12 rfl) (by decide) ?_
      refine ws_istore_n (l' := [(3, .int 0), (0, .ref 76), (1, .int x1), (2, .int x2)]) (dcd d_m_comes_0 13 rfl) (by decide) rfl ?_
      exact ws_loc [1, 2, 3, 0] rfl h
    · have h := h.2 c3
      refine ws_if_ne (tgt := 18) (dcd d_m_comes_0 7 rfl) (by decide) (fun c => absurd (show (0 : Int32) = 0 from by decide) c) (fun _ => ?_)
      refine ws_iconst (v := (-1)) (dcd d_m_comes_0 8 rfl) (by decide) ?_
      exact ws_iret (dcd d_m_comes_0 9 rfl) ⟨_, rfl, rfl⟩ h
  · have h := h.2 c1
    refine ws_if_eq (tgt := 16) (dcd d_m_comes_0 3 rfl) (by decide) (fun _ => ?_) (fun c => absurd (show (0 : Int32) = 0 from by decide) c)
    refine ws_iconst (v := (-1)) (dcd d_m_comes_0 8 rfl) (by decide) ?_
    exact ws_iret (dcd d_m_comes_0 9 rfl) ⟨_, rfl, rfl⟩ h
theorem sg_m_comes_24 {x1 : Int32} {x2 : Int32} {x3 : Int32}  (h : ((600 < x3 → Q (some (.int (-9))) u) ∧ (¬ (600 < x3) → (vp_in x1 7 ∧ ((¬ (mI u 85 (x1 : Int32).toNatClampNeg) = x2 → Ws G m_passOne 0 [(0, .ref 76), (1, .int ((mI u 76 18) + x3)), (2, .int (mI u 76 19))] [] u (RV fun u4 => Ws G m_comes 24 [(0, .ref 76), (1, .int x1), (2, .int x2), (3, .int (x3 + 1))] [] u4 Q)) ∧ ((mI u 85 (x1 : Int32).toNatClampNeg) = x2 → Q (some (.int x3)) u)))))) : Ws G m_comes 24 [(0, .ref 76), (1, .int x1), (2, .int x2), (3, .int x3)] [] u Q := by
  refine ws_iload_n 3 (dcd d_m_comes_0 14 rfl) rfl ?_
  refine ws_sipush (v := 600) (dcd d_m_comes_0 15 rfl) (by decide) ?_
  refine ws_icmp_gt (tgt := 63) (dcd d_m_comes_0 16 rfl) (by decide) (fun c1 => ?_) (fun c1 => ?_)
  · have h := h.1 c1
    refine ws_bipush (v := (-9)) (dcd d_m_comes_1 5 rfl) (by decide) ?_
    exact ws_iret (dcd d_m_comes_1 6 rfl) ⟨_, rfl, rfl⟩ h
  · have h := h.2 c1
    refine ws_aload_n 0 (dcd d_m_comes_0 17 rfl) rfl ?_
    refine ws_getF (a := 85) f_m_38 rfl (dcd d_m_comes_0 18 rfl) ok_76 of_8_20 rfl ?_
    refine ws_iload_n 1 (dcd d_m_comes_0 19 rfl) rfl ?_
    obtain ⟨e2, h⟩ := h
    refine ws_iald (L := 7) (dcd d_m_comes_0 20 rfl) (os_8_20 ok_76) (ol_8_20 ok_76) e2 ?_
    refine ws_iload_n 2 (dcd d_m_comes_0 21 rfl) rfl ?_
    refine ws_icmp_ne (tgt := 43) (dcd d_m_comes_0 22 rfl) (by decide) (fun c3 => ?_) (fun c3 => ?_)
    · have h := h.1 c3
      refine ws_aload_n 0 (dcd d_m_comes_0 25 rfl) rfl ?_
      refine ws_aload_n 0 (dcd d_m_comes_0 26 rfl) rfl ?_
      refine ws_getI f_m_162 rfl (dcd d_m_comes_0 27 rfl) ok_76 ?_
      refine ws_iload_n 3 (dcd d_m_comes_0 28 rfl) rfl ?_
      refine ws_iadd (dcd d_m_comes_0 29 rfl) ?_
      refine ws_aload_n 0 (dcd d_m_comes_1 0 rfl) rfl ?_
      refine ws_getI f_m_165 rfl (dcd d_m_comes_1 1 rfl) ok_76 ?_
      refine ws_callVV (o := 76) (As := [.int ((mI u 76 18) + x3), .int (mI u 76 19)]) (st := []) (la := [(0, .ref 76), (1, .int ((mI u 76 18) + x3)), (2, .int (mI u 76 19))]) (dcd d_m_comes_1 2 rfl) cv_m_passOne k_m_208 ⟨by decide, by decide⟩ ok_76 rfl (Nat.le_of_ble_eq_true rfl) (Nat.le_of_ble_eq_true rfl) rfl rfl h (fun u4 h => ?_)
      refine ws_iinc (v := 1) (l' := [(3, .int (x3 + 1)), (0, .ref 76), (1, .int x1), (2, .int x2)]) 3 (dcd d_m_comes_1 3 rfl) rfl (by decide) (by decide) rfl ?_
      refine ws_goto (tgt := 24) (dcd d_m_comes_1 4 rfl) (by decide) ?_
      exact ws_loc [1, 2, 3, 0] rfl h
    · have h := h.2 c3
      refine ws_iload_n 3 (dcd d_m_comes_0 23 rfl) rfl ?_
      exact ws_iret (dcd d_m_comes_0 24 rfl) ⟨_, rfl, rfl⟩ h
theorem sg_m_meets_0 {x1 : Int32} {x2 : Int32} {x3 : Int32}  (h : Ws G m_isPair 0 [(0, .ref 76), (1, .int x1), (2, .int x2), (3, .int x3)] [] u (RI fun a1 u1 => ((¬ a1 = 0 → (vp_in (5 * x2 + 2) 70 ∧ (vp_in (5 * x1 + 2) 70 ∧ Ws G m_meets 30 [(0, .ref 76), (1, .int x1), (2, .int x2), (3, .int x3), (4, .int ((mI u1 83 ((5 * x2 + 2) : Int32).toNatClampNeg) - (mI u1 83 ((5 * x1 + 2) : Int32).toNatClampNeg))), (5, .int 0)] [] u1 Q))) ∧ (a1 = 0 → Q (some (.int (-1))) u1)))) : Ws G m_meets 0 [(0, .ref 76), (1, .int x1), (2, .int x2), (3, .int x3)] [] u Q := by
  refine ws_aload_n 0 (dcd d_m_meets_0 0 rfl) rfl ?_
  refine ws_iload_n 1 (dcd d_m_meets_0 1 rfl) rfl ?_
  refine ws_iload_n 2 (dcd d_m_meets_0 2 rfl) rfl ?_
  refine ws_iload_n 3 (dcd d_m_meets_0 3 rfl) rfl ?_
  refine ws_callVI (o := 76) (As := [.int x1, .int x2, .int x3]) (st := []) (la := [(0, .ref 76), (1, .int x1), (2, .int x2), (3, .int x3)]) (dcd d_m_meets_0 4 rfl) cv_m_isPair k_m_226 ⟨by decide, by decide⟩ ok_76 rfl (Nat.le_of_ble_eq_true rfl) (Nat.le_of_ble_eq_true rfl) rfl rfl h (fun a1 u1 h => ?_)
  refine ws_if_ne (tgt := 12) (dcd d_m_meets_0 5 rfl) (by decide) (fun c2 => ?_) (fun c2 => ?_)
  · have h := h.1 c2
    refine ws_aload_n 0 (dcd d_m_meets_0 8 rfl) rfl ?_
    refine ws_iload_n 2 (dcd d_m_meets_0 9 rfl) rfl ?_
    refine ws_iconst (v := 2) (dcd d_m_meets_0 10 rfl) (by decide) ?_
    obtain ⟨e3, h⟩ := h
    refine ws_callVI (o := 76) (As := [.int x2, .int 2]) (st := []) (la := [(0, .ref 76), (1, .int x2), (2, .int 2)]) (dcd d_m_meets_0 11 rfl) cv_m_tell k_m_159 ⟨by decide, by decide⟩ ok_76 rfl (Nat.le_of_ble_eq_true rfl) (Nat.le_of_ble_eq_true rfl) rfl rfl (sp_m_tell e3) ?_
    rintro _ _ ⟨rfl, rfl⟩
    refine ws_aload_n 0 (dcd d_m_meets_0 12 rfl) rfl ?_
    refine ws_iload_n 1 (dcd d_m_meets_0 13 rfl) rfl ?_
    refine ws_iconst (v := 2) (dcd d_m_meets_0 14 rfl) (by decide) ?_
    obtain ⟨e4, h⟩ := h
    refine ws_callVI (o := 76) (As := [.int x1, .int 2]) (st := [.int (mI u1 83 ((5 * x2 + 2) : Int32).toNatClampNeg)]) (la := [(0, .ref 76), (1, .int x1), (2, .int 2)]) (dcd d_m_meets_0 15 rfl) cv_m_tell k_m_159 ⟨by decide, by decide⟩ ok_76 rfl (Nat.le_of_ble_eq_true rfl) (Nat.le_of_ble_eq_true rfl) rfl rfl (sp_m_tell e4) ?_
    rintro _ _ ⟨rfl, rfl⟩
    refine ws_isub (dcd d_m_meets_0 16 rfl) ?_
    refine ws_istore (l' := [(4, .int ((mI u1 83 ((5 * x2 + 2) : Int32).toNatClampNeg) - (mI u1 83 ((5 * x1 + 2) : Int32).toNatClampNeg))), (0, .ref 76), (1, .int x1), (2, .int x2), (3, .int x3)]) (dcd d_m_meets_0 17 rfl) (by decide) rfl ?_
    refine ws_iconst (v := 0) (dcd d_m_meets_0 18 rfl) (by decide) ?_
    refine ws_istore (l' := [(5, .int 0), (4, .int ((mI u1 83 ((5 * x2 + 2) : Int32).toNatClampNeg) - (mI u1 83 ((5 * x1 + 2) : Int32).toNatClampNeg))), (0, .ref 76), (1, .int x1), (2, .int x2), (3, .int x3)]) (dcd d_m_meets_0 19 rfl) (by decide) rfl ?_
    exact ws_loc [2, 3, 4, 5, 1, 0] rfl h
  · have h := h.2 c2
    refine ws_iconst (v := (-1)) (dcd d_m_meets_0 6 rfl) (by decide) ?_
    exact ws_iret (dcd d_m_meets_0 7 rfl) ⟨_, rfl, rfl⟩ h
theorem sg_m_meets_30 {x1 : Int32} {x2 : Int32} {x3 : Int32} {x4 : Int32} {x5 : Int32}  (h : (((mI u 76 10) ≤ x5 → Q (some (.int (-9))) u) ∧ (¬ ((mI u 76 10) ≤ x5) → (vp_in x2 7 ∧ (vp_in x1 7 ∧ (¬ ((mI u 76 10) : Int32).toInt64 = 0 ∧ ((¬ (dAt (mI u 76 10) ((((mI u 84 (x2 : Int32).toNatClampNeg) - (mI u 84 (x1 : Int32).toNatClampNeg)) : Int32).toInt64 + ((x4 : Int32).toInt64 * (x5 : Int32).toInt64))) = x3 → Ws G m_meets 30 [(0, .ref 76), (1, .int x1), (2, .int x2), (3, .int x3), (4, .int x4), (5, .int (x5 + 1))] [] u Q) ∧ ((dAt (mI u 76 10) ((((mI u 84 (x2 : Int32).toNatClampNeg) - (mI u 84 (x1 : Int32).toNatClampNeg)) : Int32).toInt64 + ((x4 : Int32).toInt64 * (x5 : Int32).toInt64))) = x3 → Ws G m_divisor 0 [(0, .ref 76), (1, .int x4)] [] u (RI fun a6 u6 => (¬ a6 = 0 ∧ Q (some (.int x5)) (pI u6 76 2 ((mI u 76 10) / a6)))))))))))) : Ws G m_meets 30 [(0, .ref 76), (1, .int x1), (2, .int x2), (3, .int x3), (4, .int x4), (5, .int x5)] [] u Q := by
  refine ws_iload 5 (dcd d_m_meets_0 20 rfl) rfl ?_
  refine ws_aload_n 0 (dcd d_m_meets_0 21 rfl) rfl ?_
  refine ws_getI f_m_153 rfl (dcd d_m_meets_0 22 rfl) ok_76 ?_
  refine ws_icmp_ge (tgt := 93) (dcd d_m_meets_0 23 rfl) (by decide) (fun c1 => ?_) (fun c1 => ?_)
  · have h := h.1 c1
    refine ws_bipush (v := (-9)) (dcd d_m_meets_1 26 rfl) (by decide) ?_
    exact ws_iret (dcd d_m_meets_1 27 rfl) ⟨_, rfl, rfl⟩ h
  · have h := h.2 c1
    refine ws_aload_n 0 (dcd d_m_meets_0 24 rfl) rfl ?_
    refine ws_aload_n 0 (dcd d_m_meets_0 25 rfl) rfl ?_
    refine ws_getF (a := 84) f_m_35 rfl (dcd d_m_meets_0 26 rfl) ok_76 of_8_17 rfl ?_
    refine ws_iload_n 2 (dcd d_m_meets_0 27 rfl) rfl ?_
    obtain ⟨e2, h⟩ := h
    refine ws_iald (L := 7) (dcd d_m_meets_0 28 rfl) (os_8_17 ok_76) (ol_8_17 ok_76) e2 ?_
    refine ws_aload_n 0 (dcd d_m_meets_0 29 rfl) rfl ?_
    refine ws_getF (a := 84) f_m_35 rfl (dcd d_m_meets_1 0 rfl) ok_76 of_8_17 rfl ?_
    refine ws_iload_n 1 (dcd d_m_meets_1 1 rfl) rfl ?_
    obtain ⟨e3, h⟩ := h
    refine ws_iald (L := 7) (dcd d_m_meets_1 2 rfl) (os_8_17 ok_76) (ol_8_17 ok_76) e3 ?_
    refine ws_isub (dcd d_m_meets_1 3 rfl) ?_
    refine ws_i2l (dcd d_m_meets_1 4 rfl) ?_
    refine ws_iload 4 (dcd d_m_meets_1 5 rfl) rfl ?_
    refine ws_i2l (dcd d_m_meets_1 6 rfl) ?_
    refine ws_iload 5 (dcd d_m_meets_1 7 rfl) rfl ?_
    refine ws_i2l (dcd d_m_meets_1 8 rfl) ?_
    refine ws_lmul (dcd d_m_meets_1 9 rfl) ?_
    refine ws_ladd (dcd d_m_meets_1 10 rfl) ?_
    obtain ⟨e4, h⟩ := h
    refine ws_callVI (o := 76) (As := [.long ((((mI u 84 (x2 : Int32).toNatClampNeg) - (mI u 84 (x1 : Int32).toNatClampNeg)) : Int32).toInt64 + ((x4 : Int32).toInt64 * (x5 : Int32).toInt64))]) (st := []) (la := [(0, .ref 76), (1, .long ((((mI u 84 (x2 : Int32).toNatClampNeg) - (mI u 84 (x1 : Int32).toNatClampNeg)) : Int32).toInt64 + ((x4 : Int32).toInt64 * (x5 : Int32).toInt64)))]) (dcd d_m_meets_1 11 rfl) cv_m_doorAt k_m_181 ⟨by decide, by decide⟩ ok_76 rfl (Nat.le_of_ble_eq_true rfl) (Nat.le_of_ble_eq_true rfl) rfl rfl (sp_m_doorAt e4) ?_
    rintro _ _ ⟨rfl, rfl⟩
    refine ws_iload_n 3 (dcd d_m_meets_1 12 rfl) rfl ?_
    refine ws_icmp_ne (tgt := 87) (dcd d_m_meets_1 13 rfl) (by decide) (fun c5 => ?_) (fun c5 => ?_)
    · have h := h.1 c5
      refine ws_iinc (v := 1) (l' := [(5, .int (x5 + 1)), (0, .ref 76), (1, .int x1), (2, .int x2), (3, .int x3), (4, .int x4)]) 5 (dcd d_m_meets_1 24 rfl) rfl (by decide) (by decide) rfl ?_
      refine ws_goto (tgt := 30) (dcd d_m_meets_1 25 rfl) (by decide) ?_
      exact ws_loc [1, 2, 3, 4, 5, 0] rfl h
    · have h := h.2 c5
      refine ws_aload_n 0 (dcd d_m_meets_1 14 rfl) rfl ?_
      refine ws_aload_n 0 (dcd d_m_meets_1 15 rfl) rfl ?_
      refine ws_getI f_m_153 rfl (dcd d_m_meets_1 16 rfl) ok_76 ?_
      refine ws_aload_n 0 (dcd d_m_meets_1 17 rfl) rfl ?_
      refine ws_iload 4 (dcd d_m_meets_1 18 rfl) rfl ?_
      refine ws_callVI (o := 76) (As := [.int x4]) (st := [.int (mI u 76 10), .ref 76]) (la := [(0, .ref 76), (1, .int x4)]) (dcd d_m_meets_1 19 rfl) cv_m_divisor k_m_229 ⟨by decide, by decide⟩ ok_76 rfl (Nat.le_of_ble_eq_true rfl) (Nat.le_of_ble_eq_true rfl) rfl rfl h (fun a6 u6 h => ?_)
      obtain ⟨e7, h⟩ := h
      refine ws_idiv (dcd d_m_meets_1 20 rfl) e7 ?_
      refine ws_iload 5 (dcd d_m_meets_1 21 rfl) rfl ?_
      refine ws_callVI (o := 76) (As := [.int ((mI u 76 10) / a6), .int x5]) (st := []) (la := [(0, .ref 76), (1, .int ((mI u 76 10) / a6)), (2, .int x5)]) (dcd d_m_meets_1 22 rfl) cv_m_ask k_m_104 ⟨by decide, by decide⟩ ok_76 rfl (Nat.le_of_ble_eq_true rfl) (Nat.le_of_ble_eq_true rfl) rfl rfl sp_m_ask ?_
      rintro _ _ ⟨rfl, rfl⟩
      exact ws_iret (dcd d_m_meets_1 23 rfl) ⟨_, rfl, rfl⟩ h
theorem sg_m_isPair_0 {x1 : Int32} {x2 : Int32} {x3 : Int32}  (h : (((0 ≤ x1 ∧ x1 ≤ (mI u 76 11) - 1) → (((0 ≤ x2 ∧ x2 ≤ (mI u 76 11) - 1) → ((x1 = x2 → Q (some (.int 0)) u) ∧ (¬ x1 = x2 → (((0 ≤ x3 ∧ x3 ≤ (mI u 76 10) - 1) → Q (some (.int 1)) u) ∧ (¬ (0 ≤ x3 ∧ x3 ≤ (mI u 76 10) - 1) → Q (some (.int 0)) u))))) ∧ (¬ (0 ≤ x2 ∧ x2 ≤ (mI u 76 11) - 1) → Q (some (.int 0)) u))) ∧ (¬ (0 ≤ x1 ∧ x1 ≤ (mI u 76 11) - 1) → Q (some (.int 0)) u))) : Ws G m_isPair 0 [(0, .ref 76), (1, .int x1), (2, .int x2), (3, .int x3)] [] u Q := by
  refine ws_aload_n 0 (dcd d_m_isPair_0 0 rfl) rfl ?_
  refine ws_iload_n 1 (dcd d_m_isPair_0 1 rfl) rfl ?_
  refine ws_callVI (o := 76) (As := [.int x1]) (st := []) (la := [(0, .ref 76), (1, .int x1)]) (dcd d_m_isPair_0 2 rfl) cv_m_isShop k_m_171 ⟨by decide, by decide⟩ ok_76 rfl (Nat.le_of_ble_eq_true rfl) (Nat.le_of_ble_eq_true rfl) rfl rfl sp_m_isShop ?_
  rintro _ _ ⟨rfl, ⟨rfl, c1⟩ | ⟨rfl, c1⟩⟩
  · have h := h.1 c1
    refine ws_if_eq (tgt := 33) (dcd d_m_isPair_0 3 rfl) (by decide) (fun c => absurd c (by decide)) (fun _ => ?_)
    refine ws_aload_n 0 (dcd d_m_isPair_0 4 rfl) rfl ?_
    refine ws_iload_n 2 (dcd d_m_isPair_0 5 rfl) rfl ?_
    refine ws_callVI (o := 76) (As := [.int x2]) (st := []) (la := [(0, .ref 76), (1, .int x2)]) (dcd d_m_isPair_0 6 rfl) cv_m_isShop k_m_171 ⟨by decide, by decide⟩ ok_76 rfl (Nat.le_of_ble_eq_true rfl) (Nat.le_of_ble_eq_true rfl) rfl rfl sp_m_isShop ?_
    rintro _ _ ⟨rfl, ⟨rfl, c3⟩ | ⟨rfl, c3⟩⟩
    · have h := h.1 c3
      refine ws_if_eq (tgt := 33) (dcd d_m_isPair_0 7 rfl) (by decide) (fun c => absurd c (by decide)) (fun _ => ?_)
      refine ws_iload_n 1 (dcd d_m_isPair_0 8 rfl) rfl ?_
      refine ws_iload_n 2 (dcd d_m_isPair_0 9 rfl) rfl ?_
      refine ws_icmp_eq (tgt := 33) (dcd d_m_isPair_0 10 rfl) (by decide) (fun c5 => ?_) (fun c5 => ?_)
      · have h := h.1 c5
        refine ws_iconst (v := 0) (dcd d_m_isPair_0 17 rfl) (by decide) ?_
        exact ws_iret (dcd d_m_isPair_0 18 rfl) ⟨_, rfl, by decide⟩ h
      · have h := h.2 c5
        refine ws_aload_n 0 (dcd d_m_isPair_0 11 rfl) rfl ?_
        refine ws_iload_n 3 (dcd d_m_isPair_0 12 rfl) rfl ?_
        refine ws_callVI (o := 76) (As := [.int x3]) (st := []) (la := [(0, .ref 76), (1, .int x3)]) (dcd d_m_isPair_0 13 rfl) cv_m_isDoor k_m_194 ⟨by decide, by decide⟩ ok_76 rfl (Nat.le_of_ble_eq_true rfl) (Nat.le_of_ble_eq_true rfl) rfl rfl sp_m_isDoor ?_
        rintro _ _ ⟨rfl, ⟨rfl, c6⟩ | ⟨rfl, c6⟩⟩
        · have h := h.1 c6
          refine ws_if_eq (tgt := 33) (dcd d_m_isPair_0 14 rfl) (by decide) (fun c => absurd c (by decide)) (fun _ => ?_)
          refine ws_iconst (v := 1) (dcd d_m_isPair_0 15 rfl) (by decide) ?_
          refine ws_goto (tgt := 34) (dcd d_m_isPair_0 16 rfl) (by decide) ?_
          exact ws_iret (dcd d_m_isPair_0 18 rfl) ⟨_, rfl, by decide⟩ h
        · have h := h.2 c6
          refine ws_if_eq (tgt := 33) (dcd d_m_isPair_0 14 rfl) (by decide) (fun _ => ?_) (fun c => absurd (show (0 : Int32) = 0 from by decide) c)
          refine ws_iconst (v := 0) (dcd d_m_isPair_0 17 rfl) (by decide) ?_
          exact ws_iret (dcd d_m_isPair_0 18 rfl) ⟨_, rfl, by decide⟩ h
    · have h := h.2 c3
      refine ws_if_eq (tgt := 33) (dcd d_m_isPair_0 7 rfl) (by decide) (fun _ => ?_) (fun c => absurd (show (0 : Int32) = 0 from by decide) c)
      refine ws_iconst (v := 0) (dcd d_m_isPair_0 17 rfl) (by decide) ?_
      exact ws_iret (dcd d_m_isPair_0 18 rfl) ⟨_, rfl, by decide⟩ h
  · have h := h.2 c1
    refine ws_if_eq (tgt := 33) (dcd d_m_isPair_0 3 rfl) (by decide) (fun _ => ?_) (fun c => absurd (show (0 : Int32) = 0 from by decide) c)
    refine ws_iconst (v := 0) (dcd d_m_isPair_0 17 rfl) (by decide) ?_
    exact ws_iret (dcd d_m_isPair_0 18 rfl) ⟨_, rfl, by decide⟩ h
theorem sg_m_divisor_0 {x1 : Int32}  (h : ((0 ≤ x1 → Ws G m_divisor 16 [(2, .int (mI u 76 10)), (3, .int x1)] [] u Q) ∧ (¬ (0 ≤ x1) → Ws G m_divisor 16 [(2, .int (mI u 76 10)), (3, .int (-x1))] [] u Q))) : Ws G m_divisor 0 [(0, .ref 76), (1, .int x1)] [] u Q := by
  refine ws_aload_n 0 (dcd d_m_divisor_0 0 rfl) rfl ?_
  refine ws_getI f_m_153 rfl (dcd d_m_divisor_0 1 rfl) ok_76 ?_
  refine ws_istore_n (l' := [(2, .int (mI u 76 10)), (0, .ref 76), (1, .int x1)]) (dcd d_m_divisor_0 2 rfl) (by decide) rfl ?_
  refine ws_iload_n 2 (dcd d_m_divisor_0 3 rfl) rfl ?_
  refine ws_if_ge (tgt := 14) (dcd d_m_divisor_0 4 rfl) (by decide) (fun c1 => ?_) (fun c1 => ?_)
  · have h := h.1 c1
    refine ws_iload_n 2 (dcd d_m_divisor_0 8 rfl) rfl ?_
    refine ws_istore_n (l' := [(3, .int x1), (2, .int (mI u 76 10)), (0, .ref 76), (1, .int x1)]) (dcd d_m_divisor_0 9 rfl) (by decide) rfl ?_
    exact ws_loc [1, 0] rfl h
  · have h := h.2 c1
    refine ws_iload_n 2 (dcd d_m_divisor_0 5 rfl) rfl ?_
    refine ws_ineg (dcd d_m_divisor_0 6 rfl) ?_
    refine ws_goto (tgt := 15) (dcd d_m_divisor_0 7 rfl) (by decide) ?_
    refine ws_istore_n (l' := [(3, .int (-x1)), (2, .int (mI u 76 10)), (0, .ref 76), (1, .int x1)]) (dcd d_m_divisor_0 9 rfl) (by decide) rfl ?_
    exact ws_loc [1, 0] rfl h
theorem sg_m_divisor_16 {x2 : Int32} {x3 : Int32}  (h : ((x3 = 0 → Q (some (.int x2)) u) ∧ (¬ x3 = 0 → (¬ x3 = 0 ∧ Ws G m_divisor 16 [(2, .int x3), (3, .int (x2 - x2 / x3 * x3))] [] u Q)))) : Ws G m_divisor 16 [(2, .int x2), (3, .int x3)] [] u Q := by
  refine ws_iload_n 1 (dcd d_m_divisor_0 10 rfl) rfl ?_
  refine ws_if_eq (tgt := 33) (dcd d_m_divisor_0 11 rfl) (by decide) (fun c1 => ?_) (fun c1 => ?_)
  · have h := h.1 c1
    refine ws_iload_n 0 (dcd d_m_divisor_0 21 rfl) rfl ?_
    exact ws_iret (dcd d_m_divisor_0 22 rfl) ⟨_, rfl, rfl⟩ h
  · have h := h.2 c1
    refine ws_iload_n 0 (dcd d_m_divisor_0 12 rfl) rfl ?_
    refine ws_iload_n 1 (dcd d_m_divisor_0 13 rfl) rfl ?_
    obtain ⟨e2, h⟩ := h
    refine ws_irem (dcd d_m_divisor_0 14 rfl) e2 ?_
    refine ws_istore (l' := [(4, .int (x2 - x2 / x3 * x3)), (2, .int x2), (3, .int x3)]) (dcd d_m_divisor_0 15 rfl) (by decide) rfl ?_
    refine ws_iload_n 2 (dcd d_m_divisor_0 16 rfl) rfl ?_
    refine ws_istore_n (l' := [(2, .int x3), (4, .int (x2 - x2 / x3 * x3)), (3, .int x3)]) (dcd d_m_divisor_0 17 rfl) (by decide) rfl ?_
    refine ws_iload 1 (dcd d_m_divisor_0 18 rfl) rfl ?_
    refine ws_istore_n (l' := [(3, .int (x2 - x2 / x3 * x3)), (2, .int x3), (4, .int (x2 - x2 / x3 * x3))]) (dcd d_m_divisor_0 19 rfl) (by decide) rfl ?_
    refine ws_goto (tgt := 16) (dcd d_m_divisor_0 20 rfl) (by decide) ?_
    exact ws_loc [1, 0] rfl h
theorem sg_m_never_0 {x1 : Int32} {x2 : Int32} {x3 : Int32}  (h : Ws G m_isPair 0 [(0, .ref 76), (1, .int x1), (2, .int x2), (3, .int x3)] [] u (RI fun a1 u1 => ((¬ a1 = 0 → (vp_in (5 * x2 + 2) 70 ∧ (vp_in (5 * x1 + 2) 70 ∧ Ws G m_divisor 0 [(0, .ref 76), (1, .int ((mI u1 83 ((5 * x2 + 2) : Int32).toNatClampNeg) - (mI u1 83 ((5 * x1 + 2) : Int32).toNatClampNeg)))] [] u1 (RI fun a5 u5 => (vp_in x2 7 ∧ (vp_in x1 7 ∧ (¬ ((mI u5 76 10) : Int32).toInt64 = 0 ∧ (¬ a5 = 0 ∧ ((¬ ((dAt (mI u5 76 10) (((x3 : Int32).toInt64 - ((mI u5 84 (x2 : Int32).toNatClampNeg) : Int32).toInt64) + ((mI u5 84 (x1 : Int32).toNatClampNeg) : Int32).toInt64)) - (dAt (mI u5 76 10) (((x3 : Int32).toInt64 - ((mI u5 84 (x2 : Int32).toNatClampNeg) : Int32).toInt64) + ((mI u5 84 (x1 : Int32).toNatClampNeg) : Int32).toInt64)) / a5 * a5) = 0 → Q (some (.int 1)) (pI u5 76 2 a5)) ∧ (((dAt (mI u5 76 10) (((x3 : Int32).toInt64 - ((mI u5 84 (x2 : Int32).toNatClampNeg) : Int32).toInt64) + ((mI u5 84 (x1 : Int32).toNatClampNeg) : Int32).toInt64)) - (dAt (mI u5 76 10) (((x3 : Int32).toInt64 - ((mI u5 84 (x2 : Int32).toNatClampNeg) : Int32).toInt64) + ((mI u5 84 (x1 : Int32).toNatClampNeg) : Int32).toInt64)) / a5 * a5) = 0 → Q (some (.int 0)) (pI u5 76 2 a5))))))))))) ∧ (a1 = 0 → Q (some (.int (-1))) u1)))) : Ws G m_never 0 [(0, .ref 76), (1, .int x1), (2, .int x2), (3, .int x3)] [] u Q := by
  refine ws_aload_n 0 (dcd d_m_never_0 0 rfl) rfl ?_
  refine ws_iload_n 1 (dcd d_m_never_0 1 rfl) rfl ?_
  refine ws_iload_n 2 (dcd d_m_never_0 2 rfl) rfl ?_
  refine ws_iload_n 3 (dcd d_m_never_0 3 rfl) rfl ?_
  refine ws_callVI (o := 76) (As := [.int x1, .int x2, .int x3]) (st := []) (la := [(0, .ref 76), (1, .int x1), (2, .int x2), (3, .int x3)]) (dcd d_m_never_0 4 rfl) cv_m_isPair k_m_226 ⟨by decide, by decide⟩ ok_76 rfl (Nat.le_of_ble_eq_true rfl) (Nat.le_of_ble_eq_true rfl) rfl rfl h (fun a1 u1 h => ?_)
  refine ws_if_ne (tgt := 12) (dcd d_m_never_0 5 rfl) (by decide) (fun c2 => ?_) (fun c2 => ?_)
  · have h := h.1 c2
    refine ws_aload_n 0 (dcd d_m_never_0 8 rfl) rfl ?_
    refine ws_aload_n 0 (dcd d_m_never_0 9 rfl) rfl ?_
    refine ws_iload_n 2 (dcd d_m_never_0 10 rfl) rfl ?_
    refine ws_iconst (v := 2) (dcd d_m_never_0 11 rfl) (by decide) ?_
    obtain ⟨e3, h⟩ := h
    refine ws_callVI (o := 76) (As := [.int x2, .int 2]) (st := [.ref 76]) (la := [(0, .ref 76), (1, .int x2), (2, .int 2)]) (dcd d_m_never_0 12 rfl) cv_m_tell k_m_159 ⟨by decide, by decide⟩ ok_76 rfl (Nat.le_of_ble_eq_true rfl) (Nat.le_of_ble_eq_true rfl) rfl rfl (sp_m_tell e3) ?_
    rintro _ _ ⟨rfl, rfl⟩
    refine ws_aload_n 0 (dcd d_m_never_0 13 rfl) rfl ?_
    refine ws_iload_n 1 (dcd d_m_never_0 14 rfl) rfl ?_
    refine ws_iconst (v := 2) (dcd d_m_never_0 15 rfl) (by decide) ?_
    obtain ⟨e4, h⟩ := h
    refine ws_callVI (o := 76) (As := [.int x1, .int 2]) (st := [.int (mI u1 83 ((5 * x2 + 2) : Int32).toNatClampNeg), .ref 76]) (la := [(0, .ref 76), (1, .int x1), (2, .int 2)]) (dcd d_m_never_0 16 rfl) cv_m_tell k_m_159 ⟨by decide, by decide⟩ ok_76 rfl (Nat.le_of_ble_eq_true rfl) (Nat.le_of_ble_eq_true rfl) rfl rfl (sp_m_tell e4) ?_
    rintro _ _ ⟨rfl, rfl⟩
    refine ws_isub (dcd d_m_never_0 17 rfl) ?_
    refine ws_callVI (o := 76) (As := [.int ((mI u1 83 ((5 * x2 + 2) : Int32).toNatClampNeg) - (mI u1 83 ((5 * x1 + 2) : Int32).toNatClampNeg))]) (st := []) (la := [(0, .ref 76), (1, .int ((mI u1 83 ((5 * x2 + 2) : Int32).toNatClampNeg) - (mI u1 83 ((5 * x1 + 2) : Int32).toNatClampNeg)))]) (dcd d_m_never_0 18 rfl) cv_m_divisor k_m_229 ⟨by decide, by decide⟩ ok_76 rfl (Nat.le_of_ble_eq_true rfl) (Nat.le_of_ble_eq_true rfl) rfl rfl h (fun a5 u5 h => ?_)
    refine ws_istore (l' := [(4, .int a5), (0, .ref 76), (1, .int x1), (2, .int x2), (3, .int x3)]) (dcd d_m_never_0 19 rfl) (by decide) rfl ?_
    refine ws_aload_n 1 (dcd d_m_never_0 20 rfl) rfl ?_
    refine ws_iload 0 (dcd d_m_never_0 21 rfl) rfl ?_
    refine ws_aload_n 1 (dcd d_m_never_0 22 rfl) rfl ?_
    refine ws_iload_n 4 (dcd d_m_never_0 23 rfl) rfl ?_
    refine ws_i2l (dcd d_m_never_0 24 rfl) ?_
    refine ws_aload_n 1 (dcd d_m_never_0 25 rfl) rfl ?_
    refine ws_getF (a := 84) f_m_35 rfl (dcd d_m_never_0 26 rfl) ok_76 of_8_17 rfl ?_
    refine ws_iload_n 3 (dcd d_m_never_0 27 rfl) rfl ?_
    obtain ⟨e6, h⟩ := h
    refine ws_iald (L := 7) (dcd d_m_never_0 28 rfl) (os_8_17 ok_76) (ol_8_17 ok_76) e6 ?_
    refine ws_i2l (dcd d_m_never_0 29 rfl) ?_
    refine ws_lsub (dcd d_m_never_1 0 rfl) ?_
    refine ws_aload_n 1 (dcd d_m_never_1 1 rfl) rfl ?_
    refine ws_getF (a := 84) f_m_35 rfl (dcd d_m_never_1 2 rfl) ok_76 of_8_17 rfl ?_
    refine ws_iload_n 2 (dcd d_m_never_1 3 rfl) rfl ?_
    obtain ⟨e7, h⟩ := h
    refine ws_iald (L := 7) (dcd d_m_never_1 4 rfl) (os_8_17 ok_76) (ol_8_17 ok_76) e7 ?_
    refine ws_i2l (dcd d_m_never_1 5 rfl) ?_
    refine ws_ladd (dcd d_m_never_1 6 rfl) ?_
    obtain ⟨e8, h⟩ := h
    refine ws_callVI (o := 76) (As := [.long (((x3 : Int32).toInt64 - ((mI u5 84 (x2 : Int32).toNatClampNeg) : Int32).toInt64) + ((mI u5 84 (x1 : Int32).toNatClampNeg) : Int32).toInt64)]) (st := [.int a5, .ref 76]) (la := [(0, .ref 76), (1, .long (((x3 : Int32).toInt64 - ((mI u5 84 (x2 : Int32).toNatClampNeg) : Int32).toInt64) + ((mI u5 84 (x1 : Int32).toNatClampNeg) : Int32).toInt64))]) (dcd d_m_never_1 7 rfl) cv_m_doorAt k_m_181 ⟨by decide, by decide⟩ ok_76 rfl (Nat.le_of_ble_eq_true rfl) (Nat.le_of_ble_eq_true rfl) rfl rfl (sp_m_doorAt e8) ?_
    rintro _ _ ⟨rfl, rfl⟩
    refine ws_iload 0 (dcd d_m_never_1 8 rfl) rfl ?_
    obtain ⟨e9, h⟩ := h
    refine ws_irem (dcd d_m_never_1 9 rfl) e9 ?_
    refine ws_if_ne (tgt := 66) (dcd d_m_never_1 10 rfl) (by decide) (fun c10 => ?_) (fun c10 => ?_)
    · have h := h.1 c10
      refine ws_iconst (v := 1) (dcd d_m_never_1 13 rfl) (by decide) ?_
      refine ws_callVI (o := 76) (As := [.int a5, .int 1]) (st := []) (la := [(0, .ref 76), (1, .int a5), (2, .int 1)]) (dcd d_m_never_1 14 rfl) cv_m_ask k_m_104 ⟨by decide, by decide⟩ ok_76 rfl (Nat.le_of_ble_eq_true rfl) (Nat.le_of_ble_eq_true rfl) rfl rfl sp_m_ask ?_
      rintro _ _ ⟨rfl, rfl⟩
      exact ws_iret (dcd d_m_never_1 15 rfl) ⟨_, rfl, rfl⟩ h
    · have h := h.2 c10
      refine ws_iconst (v := 0) (dcd d_m_never_1 11 rfl) (by decide) ?_
      refine ws_goto (tgt := 67) (dcd d_m_never_1 12 rfl) (by decide) ?_
      refine ws_callVI (o := 76) (As := [.int a5, .int 0]) (st := []) (la := [(0, .ref 76), (1, .int a5), (2, .int 0)]) (dcd d_m_never_1 14 rfl) cv_m_ask k_m_104 ⟨by decide, by decide⟩ ok_76 rfl (Nat.le_of_ble_eq_true rfl) (Nat.le_of_ble_eq_true rfl) rfl rfl sp_m_ask ?_
      rintro _ _ ⟨rfl, rfl⟩
      exact ws_iret (dcd d_m_never_1 15 rfl) ⟨_, rfl, rfl⟩ h
  · have h := h.2 c2
    refine ws_iconst (v := (-1)) (dcd d_m_never_0 6 rfl) (by decide) ?_
    exact ws_iret (dcd d_m_never_0 7 rfl) ⟨_, rfl, rfl⟩ h
theorem sg_m_walk_0 {x1 : Int32} {x2 : Int32}  (h : (((0 ≤ x1 ∧ x1 ≤ (mI u 76 10) - 1) → (((0 ≤ x2 ∧ x2 ≤ (mI u 76 10) - 1) → Ws G m_walkOf 0 [(0, .ref 76), (1, .int x1), (2, .int x2)] [] u (RI fun a5 u5 => Q (some (.int a5)) u5)) ∧ (¬ (0 ≤ x2 ∧ x2 ≤ (mI u 76 10) - 1) → Q (some (.int (-1))) u))) ∧ (¬ (0 ≤ x1 ∧ x1 ≤ (mI u 76 10) - 1) → Q (some (.int (-1))) u))) : Ws G m_walk 0 [(0, .ref 76), (1, .int x1), (2, .int x2)] [] u Q := by
  refine ws_aload_n 0 (dcd d_m_walk_0 0 rfl) rfl ?_
  refine ws_iload_n 1 (dcd d_m_walk_0 1 rfl) rfl ?_
  refine ws_callVI (o := 76) (As := [.int x1]) (st := []) (la := [(0, .ref 76), (1, .int x1)]) (dcd d_m_walk_0 2 rfl) cv_m_isDoor k_m_194 ⟨by decide, by decide⟩ ok_76 rfl (Nat.le_of_ble_eq_true rfl) (Nat.le_of_ble_eq_true rfl) rfl rfl sp_m_isDoor ?_
  rintro _ _ ⟨rfl, ⟨rfl, c1⟩ | ⟨rfl, c1⟩⟩
  · have h := h.1 c1
    refine ws_if_eq (tgt := 25) (dcd d_m_walk_0 3 rfl) (by decide) (fun c => absurd c (by decide)) (fun _ => ?_)
    refine ws_aload_n 0 (dcd d_m_walk_0 4 rfl) rfl ?_
    refine ws_iload_n 2 (dcd d_m_walk_0 5 rfl) rfl ?_
    refine ws_callVI (o := 76) (As := [.int x2]) (st := []) (la := [(0, .ref 76), (1, .int x2)]) (dcd d_m_walk_0 6 rfl) cv_m_isDoor k_m_194 ⟨by decide, by decide⟩ ok_76 rfl (Nat.le_of_ble_eq_true rfl) (Nat.le_of_ble_eq_true rfl) rfl rfl sp_m_isDoor ?_
    rintro _ _ ⟨rfl, ⟨rfl, c3⟩ | ⟨rfl, c3⟩⟩
    · have h := h.1 c3
      refine ws_if_eq (tgt := 25) (dcd d_m_walk_0 7 rfl) (by decide) (fun c => absurd c (by decide)) (fun _ => ?_)
      refine ws_aload_n 0 (dcd d_m_walk_0 8 rfl) rfl ?_
      refine ws_iload_n 1 (dcd d_m_walk_0 9 rfl) rfl ?_
      refine ws_iload_n 2 (dcd d_m_walk_0 10 rfl) rfl ?_
      refine ws_callVI (o := 76) (As := [.int x1, .int x2]) (st := []) (la := [(0, .ref 76), (1, .int x1), (2, .int x2)]) (dcd d_m_walk_0 11 rfl) cv_m_walkOf k_m_232 ⟨by decide, by decide⟩ ok_76 rfl (Nat.le_of_ble_eq_true rfl) (Nat.le_of_ble_eq_true rfl) rfl rfl h (fun a5 u5 h => ?_)
      refine ws_goto (tgt := 26) (dcd d_m_walk_0 12 rfl) (by decide) ?_
      exact ws_iret (dcd d_m_walk_0 14 rfl) ⟨_, rfl, rfl⟩ h
    · have h := h.2 c3
      refine ws_if_eq (tgt := 25) (dcd d_m_walk_0 7 rfl) (by decide) (fun _ => ?_) (fun c => absurd (show (0 : Int32) = 0 from by decide) c)
      refine ws_iconst (v := (-1)) (dcd d_m_walk_0 13 rfl) (by decide) ?_
      exact ws_iret (dcd d_m_walk_0 14 rfl) ⟨_, rfl, rfl⟩ h
  · have h := h.2 c1
    refine ws_if_eq (tgt := 25) (dcd d_m_walk_0 3 rfl) (by decide) (fun _ => ?_) (fun c => absurd (show (0 : Int32) = 0 from by decide) c)
    refine ws_iconst (v := (-1)) (dcd d_m_walk_0 13 rfl) (by decide) ?_
    exact ws_iret (dcd d_m_walk_0 14 rfl) ⟨_, rfl, rfl⟩ h
theorem sg_m_walkOf_0 {x1 : Int32} {x2 : Int32}  (h : (¬ ((mI u 76 10) : Int32).toInt64 = 0 ∧ ((((mI u 76 10) - (dAt (mI u 76 10) ((x2 : Int32).toInt64 - (x1 : Int32).toInt64))) ≤ (dAt (mI u 76 10) ((x2 : Int32).toInt64 - (x1 : Int32).toInt64)) → Q (some (.int ((mI u 76 10) - (dAt (mI u 76 10) ((x2 : Int32).toInt64 - (x1 : Int32).toInt64))))) u) ∧ (¬ (((mI u 76 10) - (dAt (mI u 76 10) ((x2 : Int32).toInt64 - (x1 : Int32).toInt64))) ≤ (dAt (mI u 76 10) ((x2 : Int32).toInt64 - (x1 : Int32).toInt64))) → Q (some (.int (dAt (mI u 76 10) ((x2 : Int32).toInt64 - (x1 : Int32).toInt64)))) u)))) : Ws G m_walkOf 0 [(0, .ref 76), (1, .int x1), (2, .int x2)] [] u Q := by
  refine ws_aload_n 0 (dcd d_m_walkOf_0 0 rfl) rfl ?_
  refine ws_iload_n 2 (dcd d_m_walkOf_0 1 rfl) rfl ?_
  refine ws_i2l (dcd d_m_walkOf_0 2 rfl) ?_
  refine ws_iload_n 1 (dcd d_m_walkOf_0 3 rfl) rfl ?_
  refine ws_i2l (dcd d_m_walkOf_0 4 rfl) ?_
  refine ws_lsub (dcd d_m_walkOf_0 5 rfl) ?_
  obtain ⟨e1, h⟩ := h
  refine ws_callVI (o := 76) (As := [.long ((x2 : Int32).toInt64 - (x1 : Int32).toInt64)]) (st := []) (la := [(0, .ref 76), (1, .long ((x2 : Int32).toInt64 - (x1 : Int32).toInt64))]) (dcd d_m_walkOf_0 6 rfl) cv_m_doorAt k_m_181 ⟨by decide, by decide⟩ ok_76 rfl (Nat.le_of_ble_eq_true rfl) (Nat.le_of_ble_eq_true rfl) rfl rfl (sp_m_doorAt e1) ?_
  rintro _ _ ⟨rfl, rfl⟩
  refine ws_istore_n (l' := [(3, .int (dAt (mI u 76 10) ((x2 : Int32).toInt64 - (x1 : Int32).toInt64))), (0, .ref 76), (1, .int x1), (2, .int x2)]) (dcd d_m_walkOf_0 7 rfl) (by decide) rfl ?_
  refine ws_iload_n 0 (dcd d_m_walkOf_0 8 rfl) rfl ?_
  refine ws_aload_n 1 (dcd d_m_walkOf_0 9 rfl) rfl ?_
  refine ws_getI f_m_153 rfl (dcd d_m_walkOf_0 10 rfl) ok_76 ?_
  refine ws_iload_n 0 (dcd d_m_walkOf_0 11 rfl) rfl ?_
  refine ws_isub (dcd d_m_walkOf_0 12 rfl) ?_
  refine ws_icmp_ge (tgt := 24) (dcd d_m_walkOf_0 13 rfl) (by decide) (fun c2 => ?_) (fun c2 => ?_)
  · have h := h.1 c2
    refine ws_aload_n 1 (dcd d_m_walkOf_0 16 rfl) rfl ?_
    refine ws_getI f_m_153 rfl (dcd d_m_walkOf_0 17 rfl) ok_76 ?_
    refine ws_iload_n 0 (dcd d_m_walkOf_0 18 rfl) rfl ?_
    refine ws_isub (dcd d_m_walkOf_0 19 rfl) ?_
    exact ws_iret (dcd d_m_walkOf_0 20 rfl) ⟨_, rfl, rfl⟩ h
  · have h := h.2 c2
    refine ws_iload_n 0 (dcd d_m_walkOf_0 14 rfl) rfl ?_
    refine ws_goto (tgt := 30) (dcd d_m_walkOf_0 15 rfl) (by decide) ?_
    exact ws_iret (dcd d_m_walkOf_0 20 rfl) ⟨_, rfl, rfl⟩ h
theorem sg_m_round_0 {x1 : Int32} {x2 : Int32}  (h : (((0 ≤ x1 ∧ x1 ≤ (mI u 76 10) - 1) → (((0 ≤ x2 ∧ x2 ≤ (1 <<< ((mI u 76 11) &&& 31)) - 1) → Ws G m_fromNow 0 [(0, .ref 76)] [] u (RV fun u5 => Ws G m_roundOf 0 [(0, .ref 76), (1, .int x1), (2, .int x2)] [] u5 (RI fun a6 u6 => Q (some (.int a6)) u6))) ∧ (¬ (0 ≤ x2 ∧ x2 ≤ (1 <<< ((mI u 76 11) &&& 31)) - 1) → Q (some (.int (-1))) u))) ∧ (¬ (0 ≤ x1 ∧ x1 ≤ (mI u 76 10) - 1) → Q (some (.int (-1))) u))) : Ws G m_round 0 [(0, .ref 76), (1, .int x1), (2, .int x2)] [] u Q := by
  refine ws_aload_n 0 (dcd d_m_round_0 0 rfl) rfl ?_
  refine ws_iload_n 1 (dcd d_m_round_0 1 rfl) rfl ?_
  refine ws_callVI (o := 76) (As := [.int x1]) (st := []) (la := [(0, .ref 76), (1, .int x1)]) (dcd d_m_round_0 2 rfl) cv_m_isDoor k_m_194 ⟨by decide, by decide⟩ ok_76 rfl (Nat.le_of_ble_eq_true rfl) (Nat.le_of_ble_eq_true rfl) rfl rfl sp_m_isDoor ?_
  rintro _ _ ⟨rfl, ⟨rfl, c1⟩ | ⟨rfl, c1⟩⟩
  · have h := h.1 c1
    refine ws_if_eq (tgt := 16) (dcd d_m_round_0 3 rfl) (by decide) (fun c => absurd c (by decide)) (fun _ => ?_)
    refine ws_aload_n 0 (dcd d_m_round_0 4 rfl) rfl ?_
    refine ws_iload_n 2 (dcd d_m_round_0 5 rfl) rfl ?_
    refine ws_callVI (o := 76) (As := [.int x2]) (st := []) (la := [(0, .ref 76), (1, .int x2)]) (dcd d_m_round_0 6 rfl) cv_m_isSet k_m_235 ⟨by decide, by decide⟩ ok_76 rfl (Nat.le_of_ble_eq_true rfl) (Nat.le_of_ble_eq_true rfl) rfl rfl sp_m_isSet ?_
    rintro _ _ ⟨rfl, ⟨rfl, c3⟩ | ⟨rfl, c3⟩⟩
    · have h := h.1 c3
      refine ws_if_ne (tgt := 18) (dcd d_m_round_0 7 rfl) (by decide) (fun _ => ?_) (fun c => absurd c (by decide))
      refine ws_aload_n 0 (dcd d_m_round_0 10 rfl) rfl ?_
      refine ws_callVV (o := 76) (As := []) (st := []) (la := [(0, .ref 76)]) (dcd d_m_round_0 11 rfl) cv_m_fromNow k_m_205 ⟨by decide, by decide⟩ ok_76 rfl (Nat.le_of_ble_eq_true rfl) (Nat.le_of_ble_eq_true rfl) rfl rfl h (fun u5 h => ?_)
      refine ws_aload_n 0 (dcd d_m_round_0 12 rfl) rfl ?_
      refine ws_iload_n 1 (dcd d_m_round_0 13 rfl) rfl ?_
      refine ws_iload_n 2 (dcd d_m_round_0 14 rfl) rfl ?_
      refine ws_callVI (o := 76) (As := [.int x1, .int x2]) (st := []) (la := [(0, .ref 76), (1, .int x1), (2, .int x2)]) (dcd d_m_round_0 15 rfl) cv_m_roundOf k_m_238 ⟨by decide, by decide⟩ ok_76 rfl (Nat.le_of_ble_eq_true rfl) (Nat.le_of_ble_eq_true rfl) rfl rfl h (fun a6 u6 h => ?_)
      exact ws_iret (dcd d_m_round_0 16 rfl) ⟨_, rfl, rfl⟩ h
    · have h := h.2 c3
      refine ws_if_ne (tgt := 18) (dcd d_m_round_0 7 rfl) (by decide) (fun c => absurd (show (0 : Int32) = 0 from by decide) c) (fun _ => ?_)
      refine ws_iconst (v := (-1)) (dcd d_m_round_0 8 rfl) (by decide) ?_
      exact ws_iret (dcd d_m_round_0 9 rfl) ⟨_, rfl, rfl⟩ h
  · have h := h.2 c1
    refine ws_if_eq (tgt := 16) (dcd d_m_round_0 3 rfl) (by decide) (fun _ => ?_) (fun c => absurd (show (0 : Int32) = 0 from by decide) c)
    refine ws_iconst (v := (-1)) (dcd d_m_round_0 8 rfl) (by decide) ?_
    exact ws_iret (dcd d_m_round_0 9 rfl) ⟨_, rfl, rfl⟩ h
theorem sg_m_roundOf_0 {x1 : Int32} {x2 : Int32}  (h : Ws G m_roundOf 8 [(0, .ref 76), (1, .int x1), (2, .int x2), (3, .int (mI u 76 10)), (4, .int 0)] [] u Q) : Ws G m_roundOf 0 [(0, .ref 76), (1, .int x1), (2, .int x2)] [] u Q := by
  refine ws_aload_n 0 (dcd d_m_roundOf_0 0 rfl) rfl ?_
  refine ws_getI f_m_153 rfl (dcd d_m_roundOf_0 1 rfl) ok_76 ?_
  refine ws_istore_n (l' := [(3, .int (mI u 76 10)), (0, .ref 76), (1, .int x1), (2, .int x2)]) (dcd d_m_roundOf_0 2 rfl) (by decide) rfl ?_
  refine ws_iconst (v := 0) (dcd d_m_roundOf_0 3 rfl) (by decide) ?_
  refine ws_istore (l' := [(4, .int 0), (3, .int (mI u 76 10)), (0, .ref 76), (1, .int x1), (2, .int x2)]) (dcd d_m_roundOf_0 4 rfl) (by decide) rfl ?_
  exact ws_loc [2, 3, 4, 1, 0] rfl h
theorem sg_m_roundOf_8 {x1 : Int32} {x2 : Int32} {x3 : Int32} {x4 : Int32}  (h : ((x2 < x4 → ((¬ x2 = 0 → Q (some (.int x3)) u) ∧ (x2 = 0 → Q (some (.int 0)) u))) ∧ (¬ (x2 < x4) → ((¬ (x4 &&& (x2 ^^^ (-1))) = 0 → Ws G m_roundOf 8 [(0, .ref 76), (1, .int x1), (2, .int x2), (3, .int x3), (4, .int (x4 + 1))] [] u Q) ∧ ((x4 &&& (x2 ^^^ (-1))) = 0 → Ws G m_roundOf 32 [(0, .ref 76), (1, .int x1), (2, .int x2), (3, .int x3), (4, .int x4), (5, .int 0), (6, .int 0), (7, .int 0)] [] u Q))))) : Ws G m_roundOf 8 [(0, .ref 76), (1, .int x1), (2, .int x2), (3, .int x3), (4, .int x4)] [] u Q := by
  refine ws_iload 4 (dcd d_m_roundOf_0 5 rfl) rfl ?_
  refine ws_iload_n 2 (dcd d_m_roundOf_0 6 rfl) rfl ?_
  refine ws_icmp_gt (tgt := 167) (dcd d_m_roundOf_0 7 rfl) (by decide) (fun c1 => ?_) (fun c1 => ?_)
  · have h := h.1 c1
    refine ws_iload_n 2 (dcd d_m_roundOf_3 2 rfl) rfl ?_
    refine ws_if_ne (tgt := 175) (dcd d_m_roundOf_3 3 rfl) (by decide) (fun c2 => ?_) (fun c2 => ?_)
    · have h := h.1 c2
      refine ws_iload_n 3 (dcd d_m_roundOf_3 6 rfl) rfl ?_
      exact ws_iret (dcd d_m_roundOf_3 7 rfl) ⟨_, rfl, rfl⟩ h
    · have h := h.2 c2
      refine ws_iconst (v := 0) (dcd d_m_roundOf_3 4 rfl) (by decide) ?_
      refine ws_goto (tgt := 176) (dcd d_m_roundOf_3 5 rfl) (by decide) ?_
      exact ws_iret (dcd d_m_roundOf_3 7 rfl) ⟨_, rfl, rfl⟩ h
  · have h := h.2 c1
    refine ws_iload 4 (dcd d_m_roundOf_0 8 rfl) rfl ?_
    refine ws_iload_n 2 (dcd d_m_roundOf_0 9 rfl) rfl ?_
    refine ws_iconst (v := (-1)) (dcd d_m_roundOf_0 10 rfl) (by decide) ?_
    refine ws_ixor (dcd d_m_roundOf_0 11 rfl) ?_
    refine ws_iand (dcd d_m_roundOf_0 12 rfl) ?_
    refine ws_if_ne (tgt := 161) (dcd d_m_roundOf_0 13 rfl) (by decide) (fun c3 => ?_) (fun c3 => ?_)
    · have h := h.1 c3
      refine ws_iinc (v := 1) (l' := [(4, .int (x4 + 1)), (0, .ref 76), (1, .int x1), (2, .int x2), (3, .int x3)]) 4 (dcd d_m_roundOf_3 0 rfl) rfl (by decide) (by decide) rfl ?_
      refine ws_goto (tgt := 8) (dcd d_m_roundOf_3 1 rfl) (by decide) ?_
      exact ws_loc [1, 2, 3, 4, 0] rfl h
    · have h := h.2 c3
      refine ws_iconst (v := 0) (dcd d_m_roundOf_0 14 rfl) (by decide) ?_
      refine ws_istore (l' := [(5, .int 0), (0, .ref 76), (1, .int x1), (2, .int x2), (3, .int x3), (4, .int x4)]) (dcd d_m_roundOf_0 15 rfl) (by decide) rfl ?_
      refine ws_iconst (v := 0) (dcd d_m_roundOf_0 16 rfl) (by decide) ?_
      refine ws_istore (l' := [(6, .int 0), (5, .int 0), (0, .ref 76), (1, .int x1), (2, .int x2), (3, .int x3), (4, .int x4)]) (dcd d_m_roundOf_0 17 rfl) (by decide) rfl ?_
      refine ws_iconst (v := 0) (dcd d_m_roundOf_0 18 rfl) (by decide) ?_
      refine ws_istore (l' := [(7, .int 0), (6, .int 0), (5, .int 0), (0, .ref 76), (1, .int x1), (2, .int x2), (3, .int x3), (4, .int x4)]) (dcd d_m_roundOf_0 19 rfl) (by decide) rfl ?_
      exact ws_loc [3, 4, 5, 6, 7, 2, 1, 0] rfl h
theorem sg_m_roundOf_32 {x1 : Int32} {x2 : Int32} {x3 : Int32} {x4 : Int32} {x5 : Int32} {x6 : Int32} {x7 : Int32}  (h : (((mI u 76 11) ≤ x7 → ((x3 ≤ (2 * (x5 + x6)) → Ws G m_roundOf 8 [(0, .ref 76), (1, .int x1), (2, .int x2), (3, .int x3), (4, .int (x4 + 1))] [] u Q) ∧ (¬ (x3 ≤ (2 * (x5 + x6))) → Ws G m_roundOf 8 [(0, .ref 76), (1, .int x1), (2, .int x2), (3, .int (2 * (x5 + x6))), (4, .int (x4 + 1))] [] u Q))) ∧ (¬ ((mI u 76 11) ≤ x7) → (vp_in x7 7 ∧ (¬ ((mI u 76 10) : Int32).toInt64 = 0 ∧ ((¬ ((x4 >>> (x7 &&& 31)) &&& 1) = 1 → ((¬ ((x2 >>> (x7 &&& 31)) &&& 1) = 1 → Ws G m_roundOf 32 [(0, .ref 76), (1, .int x1), (2, .int x2), (3, .int x3), (4, .int x4), (5, .int x5), (6, .int x6), (7, .int (x7 + 1))] [] u Q) ∧ (((x2 >>> (x7 &&& 31)) &&& 1) = 1 → ((¬ (dAt (mI u 76 10) (((mI u 85 (x7 : Int32).toNatClampNeg) : Int32).toInt64 - (x1 : Int32).toInt64)) = 0 → ((((mI u 76 10) - (dAt (mI u 76 10) (((mI u 85 (x7 : Int32).toNatClampNeg) : Int32).toInt64 - (x1 : Int32).toInt64))) ≤ x6 → Ws G m_roundOf 32 [(0, .ref 76), (1, .int x1), (2, .int x2), (3, .int x3), (4, .int x4), (5, .int x5), (6, .int x6), (7, .int (x7 + 1))] [] u Q) ∧ (¬ (((mI u 76 10) - (dAt (mI u 76 10) (((mI u 85 (x7 : Int32).toNatClampNeg) : Int32).toInt64 - (x1 : Int32).toInt64))) ≤ x6) → Ws G m_roundOf 32 [(0, .ref 76), (1, .int x1), (2, .int x2), (3, .int x3), (4, .int x4), (5, .int x5), (6, .int ((mI u 76 10) - (dAt (mI u 76 10) (((mI u 85 (x7 : Int32).toNatClampNeg) : Int32).toInt64 - (x1 : Int32).toInt64)))), (7, .int (x7 + 1))] [] u Q))) ∧ ((dAt (mI u 76 10) (((mI u 85 (x7 : Int32).toNatClampNeg) : Int32).toInt64 - (x1 : Int32).toInt64)) = 0 → ((0 ≤ x6 → Ws G m_roundOf 32 [(0, .ref 76), (1, .int x1), (2, .int x2), (3, .int x3), (4, .int x4), (5, .int x5), (6, .int x6), (7, .int (x7 + 1))] [] u Q) ∧ (¬ (0 ≤ x6) → Ws G m_roundOf 32 [(0, .ref 76), (1, .int x1), (2, .int x2), (3, .int x3), (4, .int x4), (5, .int x5), (6, .int 0), (7, .int (x7 + 1))] [] u Q))))))) ∧ (((x4 >>> (x7 &&& 31)) &&& 1) = 1 → (((dAt (mI u 76 10) (((mI u 85 (x7 : Int32).toNatClampNeg) : Int32).toInt64 - (x1 : Int32).toInt64)) ≤ x5 → Ws G m_roundOf 32 [(0, .ref 76), (1, .int x1), (2, .int x2), (3, .int x3), (4, .int x4), (5, .int x5), (6, .int x6), (7, .int (x7 + 1))] [] u Q) ∧ (¬ ((dAt (mI u 76 10) (((mI u 85 (x7 : Int32).toNatClampNeg) : Int32).toInt64 - (x1 : Int32).toInt64)) ≤ x5) → Ws G m_roundOf 32 [(0, .ref 76), (1, .int x1), (2, .int x2), (3, .int x3), (4, .int x4), (5, .int (dAt (mI u 76 10) (((mI u 85 (x7 : Int32).toNatClampNeg) : Int32).toInt64 - (x1 : Int32).toInt64))), (6, .int x6), (7, .int (x7 + 1))] [] u Q))))))))) : Ws G m_roundOf 32 [(0, .ref 76), (1, .int x1), (2, .int x2), (3, .int x3), (4, .int x4), (5, .int x5), (6, .int x6), (7, .int x7)] [] u Q := by
  refine ws_iload 7 (dcd d_m_roundOf_0 20 rfl) rfl ?_
  refine ws_aload_n 0 (dcd d_m_roundOf_0 21 rfl) rfl ?_
  refine ws_getI f_m_156 rfl (dcd d_m_roundOf_0 22 rfl) ok_76 ?_
  refine ws_icmp_ge (tgt := 138) (dcd d_m_roundOf_0 23 rfl) (by decide) (fun c1 => ?_) (fun c1 => ?_)
  · have h := h.1 c1
    refine ws_iconst (v := 2) (dcd d_m_roundOf_2 15 rfl) (by decide) ?_
    refine ws_iload 5 (dcd d_m_roundOf_2 16 rfl) rfl ?_
    refine ws_iload 6 (dcd d_m_roundOf_2 17 rfl) rfl ?_
    refine ws_iadd (dcd d_m_roundOf_2 18 rfl) ?_
    refine ws_imul (dcd d_m_roundOf_2 19 rfl) ?_
    refine ws_iload_n 3 (dcd d_m_roundOf_2 20 rfl) rfl ?_
    refine ws_icmp_ge (tgt := 159) (dcd d_m_roundOf_2 21 rfl) (by decide) (fun c2 => ?_) (fun c2 => ?_)
    · have h := h.1 c2
      refine ws_iload_n 3 (dcd d_m_roundOf_2 28 rfl) rfl ?_
      refine ws_istore_n (l' := [(3, .int x3), (0, .ref 76), (1, .int x1), (2, .int x2), (4, .int x4), (5, .int x5), (6, .int x6), (7, .int x7)]) (dcd d_m_roundOf_2 29 rfl) (by decide) rfl ?_
      refine ws_iinc (v := 1) (l' := [(4, .int (x4 + 1)), (3, .int x3), (0, .ref 76), (1, .int x1), (2, .int x2), (5, .int x5), (6, .int x6), (7, .int x7)]) 4 (dcd d_m_roundOf_3 0 rfl) rfl (by decide) (by decide) rfl ?_
      refine ws_goto (tgt := 8) (dcd d_m_roundOf_3 1 rfl) (by decide) ?_
      exact ws_loc [2, 3, 4, 1, 0] rfl h
    · have h := h.2 c2
      refine ws_iconst (v := 2) (dcd d_m_roundOf_2 22 rfl) (by decide) ?_
      refine ws_iload 5 (dcd d_m_roundOf_2 23 rfl) rfl ?_
      refine ws_iload 6 (dcd d_m_roundOf_2 24 rfl) rfl ?_
      refine ws_iadd (dcd d_m_roundOf_2 25 rfl) ?_
      refine ws_imul (dcd d_m_roundOf_2 26 rfl) ?_
      refine ws_goto (tgt := 160) (dcd d_m_roundOf_2 27 rfl) (by decide) ?_
      refine ws_istore_n (l' := [(3, .int (2 * (x5 + x6))), (0, .ref 76), (1, .int x1), (2, .int x2), (4, .int x4), (5, .int x5), (6, .int x6), (7, .int x7)]) (dcd d_m_roundOf_2 29 rfl) (by decide) rfl ?_
      refine ws_iinc (v := 1) (l' := [(4, .int (x4 + 1)), (3, .int (2 * (x5 + x6))), (0, .ref 76), (1, .int x1), (2, .int x2), (5, .int x5), (6, .int x6), (7, .int x7)]) 4 (dcd d_m_roundOf_3 0 rfl) rfl (by decide) (by decide) rfl ?_
      refine ws_goto (tgt := 8) (dcd d_m_roundOf_3 1 rfl) (by decide) ?_
      exact ws_loc [2, 3, 4, 1, 0] rfl h
  · have h := h.2 c1
    refine ws_aload_n 0 (dcd d_m_roundOf_0 24 rfl) rfl ?_
    refine ws_aload_n 0 (dcd d_m_roundOf_0 25 rfl) rfl ?_
    refine ws_getF (a := 85) f_m_38 rfl (dcd d_m_roundOf_0 26 rfl) ok_76 of_8_20 rfl ?_
    refine ws_iload 7 (dcd d_m_roundOf_0 27 rfl) rfl ?_
    obtain ⟨e3, h⟩ := h
    refine ws_iald (L := 7) (dcd d_m_roundOf_0 28 rfl) (os_8_20 ok_76) (ol_8_20 ok_76) e3 ?_
    refine ws_i2l (dcd d_m_roundOf_0 29 rfl) ?_
    refine ws_iload_n 1 (dcd d_m_roundOf_1 0 rfl) rfl ?_
    refine ws_i2l (dcd d_m_roundOf_1 1 rfl) ?_
    refine ws_lsub (dcd d_m_roundOf_1 2 rfl) ?_
    obtain ⟨e4, h⟩ := h
    refine ws_callVI (o := 76) (As := [.long (((mI u 85 (x7 : Int32).toNatClampNeg) : Int32).toInt64 - (x1 : Int32).toInt64)]) (st := []) (la := [(0, .ref 76), (1, .long (((mI u 85 (x7 : Int32).toNatClampNeg) : Int32).toInt64 - (x1 : Int32).toInt64))]) (dcd d_m_roundOf_1 3 rfl) cv_m_doorAt k_m_181 ⟨by decide, by decide⟩ ok_76 rfl (Nat.le_of_ble_eq_true rfl) (Nat.le_of_ble_eq_true rfl) rfl rfl (sp_m_doorAt e4) ?_
    rintro _ _ ⟨rfl, rfl⟩
    refine ws_istore (l' := [(8, .int (dAt (mI u 76 10) (((mI u 85 (x7 : Int32).toNatClampNeg) : Int32).toInt64 - (x1 : Int32).toInt64))), (0, .ref 76), (1, .int x1), (2, .int x2), (3, .int x3), (4, .int x4), (5, .int x5), (6, .int x6), (7, .int x7)]) (dcd d_m_roundOf_1 4 rfl) (by decide) rfl ?_
    refine ws_iload 5 (dcd d_m_roundOf_1 5 rfl) rfl ?_
    refine ws_iload 8 (dcd d_m_roundOf_1 6 rfl) rfl ?_
    refine ws_ishr (dcd d_m_roundOf_1 7 rfl) ?_
    refine ws_iconst (v := 1) (dcd d_m_roundOf_1 8 rfl) (by decide) ?_
    refine ws_iand (dcd d_m_roundOf_1 9 rfl) ?_
    refine ws_iconst (v := 1) (dcd d_m_roundOf_1 10 rfl) (by decide) ?_
    refine ws_icmp_ne (tgt := 88) (dcd d_m_roundOf_1 11 rfl) (by decide) (fun c5 => ?_) (fun c5 => ?_)
    · have h := h.1 c5
      refine ws_iload_n 3 (dcd d_m_roundOf_1 20 rfl) rfl ?_
      refine ws_iload 8 (dcd d_m_roundOf_1 21 rfl) rfl ?_
      refine ws_ishr (dcd d_m_roundOf_1 22 rfl) ?_
      refine ws_iconst (v := 1) (dcd d_m_roundOf_1 23 rfl) (by decide) ?_
      refine ws_iand (dcd d_m_roundOf_1 24 rfl) ?_
      refine ws_iconst (v := 1) (dcd d_m_roundOf_1 25 rfl) (by decide) ?_
      refine ws_icmp_ne (tgt := 132) (dcd d_m_roundOf_1 26 rfl) (by decide) (fun c6 => ?_) (fun c6 => ?_)
      · have h := h.1 c6
        refine ws_iinc (v := 1) (l' := [(7, .int (x7 + 1)), (8, .int (dAt (mI u 76 10) (((mI u 85 (x7 : Int32).toNatClampNeg) : Int32).toInt64 - (x1 : Int32).toInt64))), (0, .ref 76), (1, .int x1), (2, .int x2), (3, .int x3), (4, .int x4), (5, .int x5), (6, .int x6)]) 8 (dcd d_m_roundOf_2 13 rfl) rfl (by decide) (by decide) rfl ?_
        refine ws_goto (tgt := 32) (dcd d_m_roundOf_2 14 rfl) (by decide) ?_
        exact ws_loc [2, 3, 4, 5, 6, 7, 8, 0] rfl h
      · have h := h.2 c6
        refine ws_iload 0 (dcd d_m_roundOf_1 27 rfl) rfl ?_
        refine ws_if_ne (tgt := 107) (dcd d_m_roundOf_1 28 rfl) (by decide) (fun c7 => ?_) (fun c7 => ?_)
        · have h := h.1 c7
          refine ws_aload_n 1 (dcd d_m_roundOf_2 1 rfl) rfl ?_
          refine ws_getI f_m_153 rfl (dcd d_m_roundOf_2 2 rfl) ok_76 ?_
          refine ws_iload 0 (dcd d_m_roundOf_2 3 rfl) rfl ?_
          refine ws_isub (dcd d_m_roundOf_2 4 rfl) ?_
          refine ws_istore (l' := [(9, .int ((mI u 76 10) - (dAt (mI u 76 10) (((mI u 85 (x7 : Int32).toNatClampNeg) : Int32).toInt64 - (x1 : Int32).toInt64)))), (8, .int (dAt (mI u 76 10) (((mI u 85 (x7 : Int32).toNatClampNeg) : Int32).toInt64 - (x1 : Int32).toInt64))), (0, .ref 76), (1, .int x1), (2, .int x2), (3, .int x3), (4, .int x4), (5, .int x5), (6, .int x6), (7, .int x7)]) (dcd d_m_roundOf_2 5 rfl) (by decide) rfl ?_
          refine ws_iload 0 (dcd d_m_roundOf_2 6 rfl) rfl ?_
          refine ws_iload 8 (dcd d_m_roundOf_2 7 rfl) rfl ?_
          refine ws_icmp_le (tgt := 128) (dcd d_m_roundOf_2 8 rfl) (by decide) (fun c8 => ?_) (fun c8 => ?_)
          · have h := h.1 c8
            refine ws_iload 8 (dcd d_m_roundOf_2 11 rfl) rfl ?_
            refine ws_istore (l' := [(6, .int x6), (9, .int ((mI u 76 10) - (dAt (mI u 76 10) (((mI u 85 (x7 : Int32).toNatClampNeg) : Int32).toInt64 - (x1 : Int32).toInt64)))), (8, .int (dAt (mI u 76 10) (((mI u 85 (x7 : Int32).toNatClampNeg) : Int32).toInt64 - (x1 : Int32).toInt64))), (0, .ref 76), (1, .int x1), (2, .int x2), (3, .int x3), (4, .int x4), (5, .int x5), (7, .int x7)]) (dcd d_m_roundOf_2 12 rfl) (by decide) rfl ?_
            refine ws_iinc (v := 1) (l' := [(7, .int (x7 + 1)), (6, .int x6), (9, .int ((mI u 76 10) - (dAt (mI u 76 10) (((mI u 85 (x7 : Int32).toNatClampNeg) : Int32).toInt64 - (x1 : Int32).toInt64)))), (8, .int (dAt (mI u 76 10) (((mI u 85 (x7 : Int32).toNatClampNeg) : Int32).toInt64 - (x1 : Int32).toInt64))), (0, .ref 76), (1, .int x1), (2, .int x2), (3, .int x3), (4, .int x4), (5, .int x5)]) 9 (dcd d_m_roundOf_2 13 rfl) rfl (by decide) (by decide) rfl ?_
            refine ws_goto (tgt := 32) (dcd d_m_roundOf_2 14 rfl) (by decide) ?_
            exact ws_loc [4, 5, 6, 7, 8, 9, 1, 0] rfl h
          · have h := h.2 c8
            refine ws_iload 0 (dcd d_m_roundOf_2 9 rfl) rfl ?_
            refine ws_goto (tgt := 130) (dcd d_m_roundOf_2 10 rfl) (by decide) ?_
            refine ws_istore (l' := [(6, .int ((mI u 76 10) - (dAt (mI u 76 10) (((mI u 85 (x7 : Int32).toNatClampNeg) : Int32).toInt64 - (x1 : Int32).toInt64)))), (9, .int ((mI u 76 10) - (dAt (mI u 76 10) (((mI u 85 (x7 : Int32).toNatClampNeg) : Int32).toInt64 - (x1 : Int32).toInt64)))), (8, .int (dAt (mI u 76 10) (((mI u 85 (x7 : Int32).toNatClampNeg) : Int32).toInt64 - (x1 : Int32).toInt64))), (0, .ref 76), (1, .int x1), (2, .int x2), (3, .int x3), (4, .int x4), (5, .int x5), (7, .int x7)]) (dcd d_m_roundOf_2 12 rfl) (by decide) rfl ?_
            refine ws_iinc (v := 1) (l' := [(7, .int (x7 + 1)), (6, .int ((mI u 76 10) - (dAt (mI u 76 10) (((mI u 85 (x7 : Int32).toNatClampNeg) : Int32).toInt64 - (x1 : Int32).toInt64)))), (9, .int ((mI u 76 10) - (dAt (mI u 76 10) (((mI u 85 (x7 : Int32).toNatClampNeg) : Int32).toInt64 - (x1 : Int32).toInt64)))), (8, .int (dAt (mI u 76 10) (((mI u 85 (x7 : Int32).toNatClampNeg) : Int32).toInt64 - (x1 : Int32).toInt64))), (0, .ref 76), (1, .int x1), (2, .int x2), (3, .int x3), (4, .int x4), (5, .int x5)]) 9 (dcd d_m_roundOf_2 13 rfl) rfl (by decide) (by decide) rfl ?_
            refine ws_goto (tgt := 32) (dcd d_m_roundOf_2 14 rfl) (by decide) ?_
            exact ws_loc [4, 5, 6, 7, 8, 9, 1, 0] rfl h
        · have h := h.2 c7
          refine ws_iconst (v := 0) (dcd d_m_roundOf_1 29 rfl) (by decide) ?_
          refine ws_goto (tgt := 114) (dcd d_m_roundOf_2 0 rfl) (by decide) ?_
          refine ws_istore (l' := [(9, .int 0), (8, .int (dAt (mI u 76 10) (((mI u 85 (x7 : Int32).toNatClampNeg) : Int32).toInt64 - (x1 : Int32).toInt64))), (0, .ref 76), (1, .int x1), (2, .int x2), (3, .int x3), (4, .int x4), (5, .int x5), (6, .int x6), (7, .int x7)]) (dcd d_m_roundOf_2 5 rfl) (by decide) rfl ?_
          refine ws_iload 0 (dcd d_m_roundOf_2 6 rfl) rfl ?_
          refine ws_iload 8 (dcd d_m_roundOf_2 7 rfl) rfl ?_
          refine ws_icmp_le (tgt := 128) (dcd d_m_roundOf_2 8 rfl) (by decide) (fun c9 => ?_) (fun c9 => ?_)
          · have h := h.1 c9
            refine ws_iload 8 (dcd d_m_roundOf_2 11 rfl) rfl ?_
            refine ws_istore (l' := [(6, .int x6), (9, .int 0), (8, .int (dAt (mI u 76 10) (((mI u 85 (x7 : Int32).toNatClampNeg) : Int32).toInt64 - (x1 : Int32).toInt64))), (0, .ref 76), (1, .int x1), (2, .int x2), (3, .int x3), (4, .int x4), (5, .int x5), (7, .int x7)]) (dcd d_m_roundOf_2 12 rfl) (by decide) rfl ?_
            refine ws_iinc (v := 1) (l' := [(7, .int (x7 + 1)), (6, .int x6), (9, .int 0), (8, .int (dAt (mI u 76 10) (((mI u 85 (x7 : Int32).toNatClampNeg) : Int32).toInt64 - (x1 : Int32).toInt64))), (0, .ref 76), (1, .int x1), (2, .int x2), (3, .int x3), (4, .int x4), (5, .int x5)]) 9 (dcd d_m_roundOf_2 13 rfl) rfl (by decide) (by decide) rfl ?_
            refine ws_goto (tgt := 32) (dcd d_m_roundOf_2 14 rfl) (by decide) ?_
            exact ws_loc [4, 5, 6, 7, 8, 9, 1, 0] rfl h
          · have h := h.2 c9
            refine ws_iload 0 (dcd d_m_roundOf_2 9 rfl) rfl ?_
            refine ws_goto (tgt := 130) (dcd d_m_roundOf_2 10 rfl) (by decide) ?_
            refine ws_istore (l' := [(6, .int 0), (9, .int 0), (8, .int (dAt (mI u 76 10) (((mI u 85 (x7 : Int32).toNatClampNeg) : Int32).toInt64 - (x1 : Int32).toInt64))), (0, .ref 76), (1, .int x1), (2, .int x2), (3, .int x3), (4, .int x4), (5, .int x5), (7, .int x7)]) (dcd d_m_roundOf_2 12 rfl) (by decide) rfl ?_
            refine ws_iinc (v := 1) (l' := [(7, .int (x7 + 1)), (6, .int 0), (9, .int 0), (8, .int (dAt (mI u 76 10) (((mI u 85 (x7 : Int32).toNatClampNeg) : Int32).toInt64 - (x1 : Int32).toInt64))), (0, .ref 76), (1, .int x1), (2, .int x2), (3, .int x3), (4, .int x4), (5, .int x5)]) 9 (dcd d_m_roundOf_2 13 rfl) rfl (by decide) (by decide) rfl ?_
            refine ws_goto (tgt := 32) (dcd d_m_roundOf_2 14 rfl) (by decide) ?_
            exact ws_loc [4, 5, 6, 7, 8, 9, 1, 0] rfl h
    · have h := h.2 c5
      refine ws_iload 0 (dcd d_m_roundOf_1 12 rfl) rfl ?_
      refine ws_iload 6 (dcd d_m_roundOf_1 13 rfl) rfl ?_
      refine ws_icmp_le (tgt := 81) (dcd d_m_roundOf_1 14 rfl) (by decide) (fun c10 => ?_) (fun c10 => ?_)
      · have h := h.1 c10
        refine ws_iload 6 (dcd d_m_roundOf_1 17 rfl) rfl ?_
        refine ws_istore (l' := [(5, .int x5), (8, .int (dAt (mI u 76 10) (((mI u 85 (x7 : Int32).toNatClampNeg) : Int32).toInt64 - (x1 : Int32).toInt64))), (0, .ref 76), (1, .int x1), (2, .int x2), (3, .int x3), (4, .int x4), (6, .int x6), (7, .int x7)]) (dcd d_m_roundOf_1 18 rfl) (by decide) rfl ?_
        refine ws_goto (tgt := 132) (dcd d_m_roundOf_1 19 rfl) (by decide) ?_
        refine ws_iinc (v := 1) (l' := [(7, .int (x7 + 1)), (5, .int x5), (8, .int (dAt (mI u 76 10) (((mI u 85 (x7 : Int32).toNatClampNeg) : Int32).toInt64 - (x1 : Int32).toInt64))), (0, .ref 76), (1, .int x1), (2, .int x2), (3, .int x3), (4, .int x4), (6, .int x6)]) 8 (dcd d_m_roundOf_2 13 rfl) rfl (by decide) (by decide) rfl ?_
        refine ws_goto (tgt := 32) (dcd d_m_roundOf_2 14 rfl) (by decide) ?_
        exact ws_loc [3, 4, 5, 6, 7, 1, 8, 0] rfl h
      · have h := h.2 c10
        refine ws_iload 0 (dcd d_m_roundOf_1 15 rfl) rfl ?_
        refine ws_goto (tgt := 83) (dcd d_m_roundOf_1 16 rfl) (by decide) ?_
        refine ws_istore (l' := [(5, .int (dAt (mI u 76 10) (((mI u 85 (x7 : Int32).toNatClampNeg) : Int32).toInt64 - (x1 : Int32).toInt64))), (8, .int (dAt (mI u 76 10) (((mI u 85 (x7 : Int32).toNatClampNeg) : Int32).toInt64 - (x1 : Int32).toInt64))), (0, .ref 76), (1, .int x1), (2, .int x2), (3, .int x3), (4, .int x4), (6, .int x6), (7, .int x7)]) (dcd d_m_roundOf_1 18 rfl) (by decide) rfl ?_
        refine ws_goto (tgt := 132) (dcd d_m_roundOf_1 19 rfl) (by decide) ?_
        refine ws_iinc (v := 1) (l' := [(7, .int (x7 + 1)), (5, .int (dAt (mI u 76 10) (((mI u 85 (x7 : Int32).toNatClampNeg) : Int32).toInt64 - (x1 : Int32).toInt64))), (8, .int (dAt (mI u 76 10) (((mI u 85 (x7 : Int32).toNatClampNeg) : Int32).toInt64 - (x1 : Int32).toInt64))), (0, .ref 76), (1, .int x1), (2, .int x2), (3, .int x3), (4, .int x4), (6, .int x6)]) 8 (dcd d_m_roundOf_2 13 rfl) rfl (by decide) (by decide) rfl ?_
        refine ws_goto (tgt := 32) (dcd d_m_roundOf_2 14 rfl) (by decide) ?_
        exact ws_loc [3, 4, 5, 6, 7, 1, 8, 0] rfl h
theorem sg_m_best_0 {x1 : Int32} {x2 : Int32} {x3 : Int32}  (h : (((0 ≤ x1 ∧ x1 ≤ (mI u 76 10) - 1) → (((0 ≤ x2 ∧ x2 ≤ (1 <<< ((mI u 76 11) &&& 31)) - 1) → (((0 ≤ x3 ∧ x3 ≤ 60) → Ws G m_fromNow 0 [(0, .ref 76)] [] u (RV fun u7 => Ws G m_best 42 [(0, .ref 76), (1, .int x1), (2, .int x2), (3, .int x3), (4, .int 0), (5, .int 16777216), (6, .int 0)] [] u7 Q)) ∧ (¬ (0 ≤ x3 ∧ x3 ≤ 60) → Q (some (.int (-1))) u))) ∧ (¬ (0 ≤ x2 ∧ x2 ≤ (1 <<< ((mI u 76 11) &&& 31)) - 1) → Q (some (.int (-1))) u))) ∧ (¬ (0 ≤ x1 ∧ x1 ≤ (mI u 76 10) - 1) → Q (some (.int (-1))) u))) : Ws G m_best 0 [(0, .ref 76), (1, .int x1), (2, .int x2), (3, .int x3)] [] u Q := by
  refine ws_aload_n 0 (dcd d_m_best_0 0 rfl) rfl ?_
  refine ws_iload_n 1 (dcd d_m_best_0 1 rfl) rfl ?_
  refine ws_callVI (o := 76) (As := [.int x1]) (st := []) (la := [(0, .ref 76), (1, .int x1)]) (dcd d_m_best_0 2 rfl) cv_m_isDoor k_m_194 ⟨by decide, by decide⟩ ok_76 rfl (Nat.le_of_ble_eq_true rfl) (Nat.le_of_ble_eq_true rfl) rfl rfl sp_m_isDoor ?_
  rintro _ _ ⟨rfl, ⟨rfl, c1⟩ | ⟨rfl, c1⟩⟩
  · have h := h.1 c1
    refine ws_if_eq (tgt := 26) (dcd d_m_best_0 3 rfl) (by decide) (fun c => absurd c (by decide)) (fun _ => ?_)
    refine ws_aload_n 0 (dcd d_m_best_0 4 rfl) rfl ?_
    refine ws_iload_n 2 (dcd d_m_best_0 5 rfl) rfl ?_
    refine ws_callVI (o := 76) (As := [.int x2]) (st := []) (la := [(0, .ref 76), (1, .int x2)]) (dcd d_m_best_0 6 rfl) cv_m_isSet k_m_235 ⟨by decide, by decide⟩ ok_76 rfl (Nat.le_of_ble_eq_true rfl) (Nat.le_of_ble_eq_true rfl) rfl rfl sp_m_isSet ?_
    rintro _ _ ⟨rfl, ⟨rfl, c3⟩ | ⟨rfl, c3⟩⟩
    · have h := h.1 c3
      refine ws_if_eq (tgt := 26) (dcd d_m_best_0 7 rfl) (by decide) (fun c => absurd c (by decide)) (fun _ => ?_)
      refine ws_iload_n 3 (dcd d_m_best_0 8 rfl) rfl ?_
      refine ws_iconst (v := 0) (dcd d_m_best_0 9 rfl) (by decide) ?_
      refine ws_bipush (v := 60) (dcd d_m_best_0 10 rfl) (by decide) ?_
      refine ws_callSI (As := [.int x3, .int 0, .int 60]) (st := []) (la := [(0, .int x3), (1, .int 0), (2, .int 60)]) (dcd d_m_best_0 11 rfl) cs_m_in k_m_78 ⟨by decide, by decide⟩ rfl (Nat.le_of_ble_eq_true rfl) (Nat.le_of_ble_eq_true rfl) rfl rfl sp_m_in ?_
      rintro _ _ ⟨rfl, ⟨rfl, c5⟩ | ⟨rfl, c5⟩⟩
      · have h := h.1 c5
        refine ws_if_ne (tgt := 28) (dcd d_m_best_0 12 rfl) (by decide) (fun _ => ?_) (fun c => absurd c (by decide))
        refine ws_aload_n 0 (dcd d_m_best_0 15 rfl) rfl ?_
        refine ws_callVV (o := 76) (As := []) (st := []) (la := [(0, .ref 76)]) (dcd d_m_best_0 16 rfl) cv_m_fromNow k_m_205 ⟨by decide, by decide⟩ ok_76 rfl (Nat.le_of_ble_eq_true rfl) (Nat.le_of_ble_eq_true rfl) rfl rfl h (fun u7 h => ?_)
        refine ws_iconst (v := 0) (dcd d_m_best_0 17 rfl) (by decide) ?_
        refine ws_istore (l' := [(4, .int 0), (0, .ref 76), (1, .int x1), (2, .int x2), (3, .int x3)]) (dcd d_m_best_0 18 rfl) (by decide) rfl ?_
        refine ws_ldc (dcd d_m_best_0 19 rfl) q_m_241 ?_
        refine ws_istore (l' := [(5, .int 16777216), (4, .int 0), (0, .ref 76), (1, .int x1), (2, .int x2), (3, .int x3)]) (dcd d_m_best_0 20 rfl) (by decide) rfl ?_
        refine ws_iconst (v := 0) (dcd d_m_best_0 21 rfl) (by decide) ?_
        refine ws_istore (l' := [(6, .int 0), (5, .int 16777216), (4, .int 0), (0, .ref 76), (1, .int x1), (2, .int x2), (3, .int x3)]) (dcd d_m_best_0 22 rfl) (by decide) rfl ?_
        exact ws_loc [3, 4, 5, 6, 2, 1, 0] rfl h
      · have h := h.2 c5
        refine ws_if_ne (tgt := 28) (dcd d_m_best_0 12 rfl) (by decide) (fun c => absurd (show (0 : Int32) = 0 from by decide) c) (fun _ => ?_)
        refine ws_iconst (v := (-1)) (dcd d_m_best_0 13 rfl) (by decide) ?_
        exact ws_iret (dcd d_m_best_0 14 rfl) ⟨_, rfl, rfl⟩ h
    · have h := h.2 c3
      refine ws_if_eq (tgt := 26) (dcd d_m_best_0 7 rfl) (by decide) (fun _ => ?_) (fun c => absurd (show (0 : Int32) = 0 from by decide) c)
      refine ws_iconst (v := (-1)) (dcd d_m_best_0 13 rfl) (by decide) ?_
      exact ws_iret (dcd d_m_best_0 14 rfl) ⟨_, rfl, rfl⟩ h
  · have h := h.2 c1
    refine ws_if_eq (tgt := 26) (dcd d_m_best_0 3 rfl) (by decide) (fun _ => ?_) (fun c => absurd (show (0 : Int32) = 0 from by decide) c)
    refine ws_iconst (v := (-1)) (dcd d_m_best_0 13 rfl) (by decide) ?_
    exact ws_iret (dcd d_m_best_0 14 rfl) ⟨_, rfl, rfl⟩ h
theorem sg_m_best_42 {x1 : Int32} {x2 : Int32} {x3 : Int32} {x4 : Int32} {x5 : Int32} {x6 : Int32}  (h : ((x3 < x6 → Q (some (.int x4)) (pI u 76 2 x5)) ∧ (¬ (x3 < x6) → Ws G m_roundOf 0 [(0, .ref 76), (1, .int x1), (2, .int x2)] [] u (RI fun a2 u2 => ((x5 ≤ a2 → ((x5 ≤ a2 → Ws G m_passOne 0 [(0, .ref 76), (1, .int ((mI u2 76 18) + x6)), (2, .int (mI u2 76 19))] [] u2 (RV fun u5 => Ws G m_best 42 [(0, .ref 76), (1, .int x1), (2, .int x2), (3, .int x3), (4, .int x4), (5, .int x5), (6, .int (x6 + 1))] [] u5 Q)) ∧ (¬ (x5 ≤ a2) → Ws G m_passOne 0 [(0, .ref 76), (1, .int ((mI u2 76 18) + x6)), (2, .int (mI u2 76 19))] [] u2 (RV fun u6 => Ws G m_best 42 [(0, .ref 76), (1, .int x1), (2, .int x2), (3, .int x3), (4, .int x4), (5, .int a2), (6, .int (x6 + 1))] [] u6 Q)))) ∧ (¬ (x5 ≤ a2) → ((x5 ≤ a2 → Ws G m_passOne 0 [(0, .ref 76), (1, .int ((mI u2 76 18) + x6)), (2, .int (mI u2 76 19))] [] u2 (RV fun u8 => Ws G m_best 42 [(0, .ref 76), (1, .int x1), (2, .int x2), (3, .int x3), (4, .int x6), (5, .int x5), (6, .int (x6 + 1))] [] u8 Q)) ∧ (¬ (x5 ≤ a2) → Ws G m_passOne 0 [(0, .ref 76), (1, .int ((mI u2 76 18) + x6)), (2, .int (mI u2 76 19))] [] u2 (RV fun u9 => Ws G m_best 42 [(0, .ref 76), (1, .int x1), (2, .int x2), (3, .int x3), (4, .int x6), (5, .int a2), (6, .int (x6 + 1))] [] u9 Q))))))))) : Ws G m_best 42 [(0, .ref 76), (1, .int x1), (2, .int x2), (3, .int x3), (4, .int x4), (5, .int x5), (6, .int x6)] [] u Q := by
  refine ws_iload 6 (dcd d_m_best_0 23 rfl) rfl ?_
  refine ws_iload_n 3 (dcd d_m_best_0 24 rfl) rfl ?_
  refine ws_icmp_gt (tgt := 109) (dcd d_m_best_0 25 rfl) (by decide) (fun c1 => ?_) (fun c1 => ?_)
  · have h := h.1 c1
    refine ws_aload_n 0 (dcd d_m_best_1 25 rfl) rfl ?_
    refine ws_iload 5 (dcd d_m_best_1 26 rfl) rfl ?_
    refine ws_iload 4 (dcd d_m_best_1 27 rfl) rfl ?_
    refine ws_callVI (o := 76) (As := [.int x5, .int x4]) (st := []) (la := [(0, .ref 76), (1, .int x5), (2, .int x4)]) (dcd d_m_best_1 28 rfl) cv_m_ask k_m_104 ⟨by decide, by decide⟩ ok_76 rfl (Nat.le_of_ble_eq_true rfl) (Nat.le_of_ble_eq_true rfl) rfl rfl sp_m_ask ?_
    rintro _ _ ⟨rfl, rfl⟩
    exact ws_iret (dcd d_m_best_1 29 rfl) ⟨_, rfl, rfl⟩ h
  · have h := h.2 c1
    refine ws_aload_n 0 (dcd d_m_best_0 26 rfl) rfl ?_
    refine ws_iload_n 1 (dcd d_m_best_0 27 rfl) rfl ?_
    refine ws_iload_n 2 (dcd d_m_best_0 28 rfl) rfl ?_
    refine ws_callVI (o := 76) (As := [.int x1, .int x2]) (st := []) (la := [(0, .ref 76), (1, .int x1), (2, .int x2)]) (dcd d_m_best_0 29 rfl) cv_m_roundOf k_m_238 ⟨by decide, by decide⟩ ok_76 rfl (Nat.le_of_ble_eq_true rfl) (Nat.le_of_ble_eq_true rfl) rfl rfl h (fun a2 u2 h => ?_)
    refine ws_istore (l' := [(7, .int a2), (0, .ref 76), (1, .int x1), (2, .int x2), (3, .int x3), (4, .int x4), (5, .int x5), (6, .int x6)]) (dcd d_m_best_1 0 rfl) (by decide) rfl ?_
    refine ws_iload 0 (dcd d_m_best_1 1 rfl) rfl ?_
    refine ws_iload 6 (dcd d_m_best_1 2 rfl) rfl ?_
    refine ws_icmp_ge (tgt := 68) (dcd d_m_best_1 3 rfl) (by decide) (fun c3 => ?_) (fun c3 => ?_)
    · have h := h.1 c3
      refine ws_iload 5 (dcd d_m_best_1 6 rfl) rfl ?_
      refine ws_istore (l' := [(4, .int x4), (7, .int a2), (0, .ref 76), (1, .int x1), (2, .int x2), (3, .int x3), (5, .int x5), (6, .int x6)]) (dcd d_m_best_1 7 rfl) (by decide) rfl ?_
      refine ws_iload 1 (dcd d_m_best_1 8 rfl) rfl ?_
      refine ws_iload 6 (dcd d_m_best_1 9 rfl) rfl ?_
      refine ws_icmp_ge (tgt := 84) (dcd d_m_best_1 10 rfl) (by decide) (fun c4 => ?_) (fun c4 => ?_)
      · have h := h.1 c4
        refine ws_iload 6 (dcd d_m_best_1 13 rfl) rfl ?_
        refine ws_istore (l' := [(5, .int x5), (4, .int x4), (7, .int a2), (0, .ref 76), (1, .int x1), (2, .int x2), (3, .int x3), (6, .int x6)]) (dcd d_m_best_1 14 rfl) (by decide) rfl ?_
        refine ws_aload_n 3 (dcd d_m_best_1 15 rfl) rfl ?_
        refine ws_aload_n 3 (dcd d_m_best_1 16 rfl) rfl ?_
        refine ws_getI f_m_162 rfl (dcd d_m_best_1 17 rfl) ok_76 ?_
        refine ws_iload 7 (dcd d_m_best_1 18 rfl) rfl ?_
        refine ws_iadd (dcd d_m_best_1 19 rfl) ?_
        refine ws_aload_n 3 (dcd d_m_best_1 20 rfl) rfl ?_
        refine ws_getI f_m_165 rfl (dcd d_m_best_1 21 rfl) ok_76 ?_
        refine ws_callVV (o := 76) (As := [.int ((mI u2 76 18) + x6), .int (mI u2 76 19)]) (st := []) (la := [(0, .ref 76), (1, .int ((mI u2 76 18) + x6)), (2, .int (mI u2 76 19))]) (dcd d_m_best_1 22 rfl) cv_m_passOne k_m_208 ⟨by decide, by decide⟩ ok_76 rfl (Nat.le_of_ble_eq_true rfl) (Nat.le_of_ble_eq_true rfl) rfl rfl h (fun u5 h => ?_)
        refine ws_iinc (v := 1) (l' := [(6, .int (x6 + 1)), (5, .int x5), (4, .int x4), (7, .int a2), (0, .ref 76), (1, .int x1), (2, .int x2), (3, .int x3)]) 7 (dcd d_m_best_1 23 rfl) rfl (by decide) (by decide) rfl ?_
        refine ws_goto (tgt := 42) (dcd d_m_best_1 24 rfl) (by decide) ?_
        exact ws_loc [4, 5, 6, 7, 2, 1, 0] rfl h
      · have h := h.2 c4
        refine ws_iload 1 (dcd d_m_best_1 11 rfl) rfl ?_
        refine ws_goto (tgt := 86) (dcd d_m_best_1 12 rfl) (by decide) ?_
        refine ws_istore (l' := [(5, .int a2), (4, .int x4), (7, .int a2), (0, .ref 76), (1, .int x1), (2, .int x2), (3, .int x3), (6, .int x6)]) (dcd d_m_best_1 14 rfl) (by decide) rfl ?_
        refine ws_aload_n 3 (dcd d_m_best_1 15 rfl) rfl ?_
        refine ws_aload_n 3 (dcd d_m_best_1 16 rfl) rfl ?_
        refine ws_getI f_m_162 rfl (dcd d_m_best_1 17 rfl) ok_76 ?_
        refine ws_iload 7 (dcd d_m_best_1 18 rfl) rfl ?_
        refine ws_iadd (dcd d_m_best_1 19 rfl) ?_
        refine ws_aload_n 3 (dcd d_m_best_1 20 rfl) rfl ?_
        refine ws_getI f_m_165 rfl (dcd d_m_best_1 21 rfl) ok_76 ?_
        refine ws_callVV (o := 76) (As := [.int ((mI u2 76 18) + x6), .int (mI u2 76 19)]) (st := []) (la := [(0, .ref 76), (1, .int ((mI u2 76 18) + x6)), (2, .int (mI u2 76 19))]) (dcd d_m_best_1 22 rfl) cv_m_passOne k_m_208 ⟨by decide, by decide⟩ ok_76 rfl (Nat.le_of_ble_eq_true rfl) (Nat.le_of_ble_eq_true rfl) rfl rfl h (fun u6 h => ?_)
        refine ws_iinc (v := 1) (l' := [(6, .int (x6 + 1)), (5, .int a2), (4, .int x4), (7, .int a2), (0, .ref 76), (1, .int x1), (2, .int x2), (3, .int x3)]) 7 (dcd d_m_best_1 23 rfl) rfl (by decide) (by decide) rfl ?_
        refine ws_goto (tgt := 42) (dcd d_m_best_1 24 rfl) (by decide) ?_
        exact ws_loc [4, 5, 6, 7, 2, 1, 0] rfl h
    · have h := h.2 c3
      refine ws_iload 7 (dcd d_m_best_1 4 rfl) rfl ?_
      refine ws_goto (tgt := 70) (dcd d_m_best_1 5 rfl) (by decide) ?_
      refine ws_istore (l' := [(4, .int x6), (7, .int a2), (0, .ref 76), (1, .int x1), (2, .int x2), (3, .int x3), (5, .int x5), (6, .int x6)]) (dcd d_m_best_1 7 rfl) (by decide) rfl ?_
      refine ws_iload 1 (dcd d_m_best_1 8 rfl) rfl ?_
      refine ws_iload 6 (dcd d_m_best_1 9 rfl) rfl ?_
      refine ws_icmp_ge (tgt := 84) (dcd d_m_best_1 10 rfl) (by decide) (fun c7 => ?_) (fun c7 => ?_)
      · have h := h.1 c7
        refine ws_iload 6 (dcd d_m_best_1 13 rfl) rfl ?_
        refine ws_istore (l' := [(5, .int x5), (4, .int x6), (7, .int a2), (0, .ref 76), (1, .int x1), (2, .int x2), (3, .int x3), (6, .int x6)]) (dcd d_m_best_1 14 rfl) (by decide) rfl ?_
        refine ws_aload_n 3 (dcd d_m_best_1 15 rfl) rfl ?_
        refine ws_aload_n 3 (dcd d_m_best_1 16 rfl) rfl ?_
        refine ws_getI f_m_162 rfl (dcd d_m_best_1 17 rfl) ok_76 ?_
        refine ws_iload 7 (dcd d_m_best_1 18 rfl) rfl ?_
        refine ws_iadd (dcd d_m_best_1 19 rfl) ?_
        refine ws_aload_n 3 (dcd d_m_best_1 20 rfl) rfl ?_
        refine ws_getI f_m_165 rfl (dcd d_m_best_1 21 rfl) ok_76 ?_
        refine ws_callVV (o := 76) (As := [.int ((mI u2 76 18) + x6), .int (mI u2 76 19)]) (st := []) (la := [(0, .ref 76), (1, .int ((mI u2 76 18) + x6)), (2, .int (mI u2 76 19))]) (dcd d_m_best_1 22 rfl) cv_m_passOne k_m_208 ⟨by decide, by decide⟩ ok_76 rfl (Nat.le_of_ble_eq_true rfl) (Nat.le_of_ble_eq_true rfl) rfl rfl h (fun u8 h => ?_)
        refine ws_iinc (v := 1) (l' := [(6, .int (x6 + 1)), (5, .int x5), (4, .int x6), (7, .int a2), (0, .ref 76), (1, .int x1), (2, .int x2), (3, .int x3)]) 7 (dcd d_m_best_1 23 rfl) rfl (by decide) (by decide) rfl ?_
        refine ws_goto (tgt := 42) (dcd d_m_best_1 24 rfl) (by decide) ?_
        exact ws_loc [4, 5, 6, 7, 2, 1, 0] rfl h
      · have h := h.2 c7
        refine ws_iload 1 (dcd d_m_best_1 11 rfl) rfl ?_
        refine ws_goto (tgt := 86) (dcd d_m_best_1 12 rfl) (by decide) ?_
        refine ws_istore (l' := [(5, .int a2), (4, .int x6), (7, .int a2), (0, .ref 76), (1, .int x1), (2, .int x2), (3, .int x3), (6, .int x6)]) (dcd d_m_best_1 14 rfl) (by decide) rfl ?_
        refine ws_aload_n 3 (dcd d_m_best_1 15 rfl) rfl ?_
        refine ws_aload_n 3 (dcd d_m_best_1 16 rfl) rfl ?_
        refine ws_getI f_m_162 rfl (dcd d_m_best_1 17 rfl) ok_76 ?_
        refine ws_iload 7 (dcd d_m_best_1 18 rfl) rfl ?_
        refine ws_iadd (dcd d_m_best_1 19 rfl) ?_
        refine ws_aload_n 3 (dcd d_m_best_1 20 rfl) rfl ?_
        refine ws_getI f_m_165 rfl (dcd d_m_best_1 21 rfl) ok_76 ?_
        refine ws_callVV (o := 76) (As := [.int ((mI u2 76 18) + x6), .int (mI u2 76 19)]) (st := []) (la := [(0, .ref 76), (1, .int ((mI u2 76 18) + x6)), (2, .int (mI u2 76 19))]) (dcd d_m_best_1 22 rfl) cv_m_passOne k_m_208 ⟨by decide, by decide⟩ ok_76 rfl (Nat.le_of_ble_eq_true rfl) (Nat.le_of_ble_eq_true rfl) rfl rfl h (fun u9 h => ?_)
        refine ws_iinc (v := 1) (l' := [(6, .int (x6 + 1)), (5, .int a2), (4, .int x6), (7, .int a2), (0, .ref 76), (1, .int x1), (2, .int x2), (3, .int x3)]) 7 (dcd d_m_best_1 23 rfl) rfl (by decide) (by decide) rfl ?_
        refine ws_goto (tgt := 42) (dcd d_m_best_1 24 rfl) (by decide) ?_
        exact ws_loc [4, 5, 6, 7, 2, 1, 0] rfl h
end SEG
