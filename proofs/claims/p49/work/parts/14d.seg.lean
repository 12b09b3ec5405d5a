section SEG
variable {G : pG} {u : pM} {Q : Option Value → pM → Prop}
theorem sg_Er_share_0 {x1 : Int32}  (h : Ws G Er_share 2 [(0, .ref 18), (1, .int x1), (2, .int 1)] [] u Q) : Ws G Er_share 0 [(0, .ref 18), (1, .int x1)] [] u Q := by
  refine ws_iconst (v := 1) (dcd d_Er_share_0 0 rfl) (by decide) ?_
  refine ws_istore_n (l' := [(2, .int 1), (0, .ref 18), (1, .int x1)]) (dcd d_Er_share_0 1 rfl) (by decide) rfl ?_
  exact ws_loc [1, 2, 0] rfl h
theorem sg_Er_share_2 {x1 : Int32} {x2 : Int32}  (h : ((128 ≤ x2 → Q none u) ∧ (¬ (128 ≤ x2) → ((¬ (x2 &&& x1) = x2 → Ws G Er_share 2 [(0, .ref 18), (1, .int x1), (2, .int (x2 + 1))] [] u Q) ∧ ((x2 &&& x1) = x2 → Ws G Er_leastOf 0 [(0, .ref 18), (1, .int x2)] [] u (RJ fun a3 u3 => (vp_in x2 128 ∧ Ws G Er_share 2 [(0, .ref 18), (1, .int x1), (2, .int (x2 + 1))] [] (pL u3 20 (x2 : Int32).toNatClampNeg a3) Q))))))) : Ws G Er_share 2 [(0, .ref 18), (1, .int x1), (2, .int x2)] [] u Q := by
  refine ws_iload_n 2 (dcd d_Er_share_0 2 rfl) rfl ?_
  refine ws_sipush (v := 128) (dcd d_Er_share_0 3 rfl) (by decide) ?_
  refine ws_icmp_ge (tgt := 33) (dcd d_Er_share_0 4 rfl) (by decide) (fun c1 => ?_) (fun c1 => ?_)
  · have h := h.1 c1
    exact ws_vret (dcd d_Er_share_0 19 rfl) rfl h
  · have h := h.2 c1
    refine ws_iload_n 2 (dcd d_Er_share_0 5 rfl) rfl ?_
    refine ws_iload_n 1 (dcd d_Er_share_0 6 rfl) rfl ?_
    refine ws_iand (dcd d_Er_share_0 7 rfl) ?_
    refine ws_iload_n 2 (dcd d_Er_share_0 8 rfl) rfl ?_
    refine ws_icmp_ne (tgt := 27) (dcd d_Er_share_0 9 rfl) (by decide) (fun c2 => ?_) (fun c2 => ?_)
    · have h := h.1 c2
      refine ws_iinc (v := 1) (l' := [(2, .int (x2 + 1)), (0, .ref 18), (1, .int x1)]) 2 (dcd d_Er_share_0 17 rfl) rfl (by decide) (by decide) rfl ?_
      refine ws_goto (tgt := 2) (dcd d_Er_share_0 18 rfl) (by decide) ?_
      exact ws_loc [1, 2, 0] rfl h
    · have h := h.2 c2
      refine ws_aload_n 0 (dcd d_Er_share_0 10 rfl) rfl ?_
      refine ws_getF (a := 20) f_Er_15 rfl (dcd d_Er_share_0 11 rfl) ok_18 of_1_1 rfl ?_
      refine ws_iload_n 2 (dcd d_Er_share_0 12 rfl) rfl ?_
      refine ws_aload_n 0 (dcd d_Er_share_0 13 rfl) rfl ?_
      refine ws_iload_n 2 (dcd d_Er_share_0 14 rfl) rfl ?_
      refine ws_callVJ (o := 18) (As := [.int x2]) (st := [.int x2, .ref 20]) (la := [(0, .ref 18), (1, .int x2)]) (dcd d_Er_share_0 15 rfl) cv_Er_leastOf k_Er_50 ⟨by decide, by decide⟩ ok_18 rfl (Nat.le_of_ble_eq_true rfl) (Nat.le_of_ble_eq_true rfl) rfl rfl h (fun a3 u3 h => ?_)
      obtain ⟨e4, h⟩ := h
      refine ws_last (L := 128) (dcd d_Er_share_0 16 rfl) (os_1_1 ok_18) (ol_1_1 ok_18) e4 ?_
      refine ws_iinc (v := 1) (l' := [(2, .int (x2 + 1)), (0, .ref 18), (1, .int x1)]) 2 (dcd d_Er_share_0 17 rfl) rfl (by decide) (by decide) rfl ?_
      refine ws_goto (tgt := 2) (dcd d_Er_share_0 18 rfl) (by decide) ?_
      exact ws_loc [1, 2, 0] rfl h
theorem sg_Er_leastOf_0 {x1 : Int32}  (h : Ws G Er_leastOf 7 [(0, .ref 18), (1, .int x1), (2, .long 1152921504606846976), (4, .int 1)] [] u Q) : Ws G Er_leastOf 0 [(0, .ref 18), (1, .int x1)] [] u Q := by
  refine ws_ldc2 (dcd d_Er_leastOf_0 0 rfl) q_Er_18 ?_
  refine ws_lstore_n (l' := [(2, .long 1152921504606846976), (0, .ref 18), (1, .int x1)]) (dcd d_Er_leastOf_0 1 rfl) (by decide) rfl ?_
  refine ws_iconst (v := 1) (dcd d_Er_leastOf_0 2 rfl) (by decide) ?_
  refine ws_istore (l' := [(4, .int 1), (2, .long 1152921504606846976), (0, .ref 18), (1, .int x1)]) (dcd d_Er_leastOf_0 3 rfl) (by decide) rfl ?_
  exact ws_loc [2, 3, 1, 0] rfl h
theorem sg_Er_leastOf_7 {x1 : Int32} {x2 : Int64} {x4 : Int32}  (h : ((x1 < x4 → Q (some (.long x2)) u) ∧ (¬ (x1 < x4) → ((128 ≤ x4 → Q (some (.long x2)) u) ∧ (¬ (128 ≤ x4) → ((¬ (x4 &&& x1) = x4 → Ws G Er_leastOf 7 [(0, .ref 18), (1, .int x1), (2, .long x2), (4, .int (x4 + 1))] [] u Q) ∧ ((x4 &&& x1) = x4 → (vp_in x4 128 ∧ (vp_in (x1 - x4) 128 ∧ Ws G Er_leastOf 7 [(0, .ref 18), (1, .int x1), (2, .long (if ((mL u 19 (x4 : Int32).toNatClampNeg) + (mL u 20 ((x1 - x4) : Int32).toNatClampNeg)) < x2 then ((mL u 19 (x4 : Int32).toNatClampNeg) + (mL u 20 ((x1 - x4) : Int32).toNatClampNeg)) else x2)), (4, .int (x4 + 1))] [] u Q))))))))) : Ws G Er_leastOf 7 [(0, .ref 18), (1, .int x1), (2, .long x2), (4, .int x4)] [] u Q := by
  refine ws_iload 3 (dcd d_Er_leastOf_0 4 rfl) rfl ?_
  refine ws_iload_n 1 (dcd d_Er_leastOf_0 5 rfl) rfl ?_
  refine ws_icmp_gt (tgt := 58) (dcd d_Er_leastOf_0 6 rfl) (by decide) (fun c1 => ?_) (fun c1 => ?_)
  · have h := h.1 c1
    refine ws_lload_n 2 (dcd d_Er_leastOf_1 1 rfl) rfl ?_
    exact ws_lret (dcd d_Er_leastOf_1 2 rfl) rfl h
  · have h := h.2 c1
    refine ws_iload 3 (dcd d_Er_leastOf_0 7 rfl) rfl ?_
    refine ws_sipush (v := 128) (dcd d_Er_leastOf_0 8 rfl) (by decide) ?_
    refine ws_icmp_ge (tgt := 58) (dcd d_Er_leastOf_0 9 rfl) (by decide) (fun c2 => ?_) (fun c2 => ?_)
    · have h := h.1 c2
      refine ws_lload_n 2 (dcd d_Er_leastOf_1 1 rfl) rfl ?_
      exact ws_lret (dcd d_Er_leastOf_1 2 rfl) rfl h
    · have h := h.2 c2
      refine ws_iload 3 (dcd d_Er_leastOf_0 10 rfl) rfl ?_
      refine ws_iload_n 1 (dcd d_Er_leastOf_0 11 rfl) rfl ?_
      refine ws_iand (dcd d_Er_leastOf_0 12 rfl) ?_
      refine ws_iload 3 (dcd d_Er_leastOf_0 13 rfl) rfl ?_
      refine ws_icmp_ne (tgt := 52) (dcd d_Er_leastOf_0 14 rfl) (by decide) (fun c3 => ?_) (fun c3 => ?_)
      · have h := h.1 c3
        refine ws_iinc (v := 1) (l' := [(4, .int (x4 + 1)), (0, .ref 18), (1, .int x1), (2, .long x2)]) 3 (dcd d_Er_leastOf_0 29 rfl) rfl (by decide) (by decide) rfl ?_
        refine ws_goto (tgt := 7) (dcd d_Er_leastOf_1 0 rfl) (by decide) ?_
        exact ws_loc [1, 2, 3, 0] rfl h
      · have h := h.2 c3
        refine ws_lload_n 2 (dcd d_Er_leastOf_0 15 rfl) rfl ?_
        refine ws_aload_n 0 (dcd d_Er_leastOf_0 16 rfl) rfl ?_
        refine ws_getF (a := 19) f_Er_11 rfl (dcd d_Er_leastOf_0 17 rfl) ok_18 of_1_0 rfl ?_
        refine ws_iload 3 (dcd d_Er_leastOf_0 18 rfl) rfl ?_
        obtain ⟨e4, h⟩ := h
        refine ws_lald (L := 128) (dcd d_Er_leastOf_0 19 rfl) (os_1_0 ok_18) (ol_1_0 ok_18) e4 ?_
        refine ws_aload_n 0 (dcd d_Er_leastOf_0 20 rfl) rfl ?_
        refine ws_getF (a := 20) f_Er_15 rfl (dcd d_Er_leastOf_0 21 rfl) ok_18 of_1_1 rfl ?_
        refine ws_iload_n 1 (dcd d_Er_leastOf_0 22 rfl) rfl ?_
        refine ws_iload 3 (dcd d_Er_leastOf_0 23 rfl) rfl ?_
        refine ws_isub (dcd d_Er_leastOf_0 24 rfl) ?_
        obtain ⟨e5, h⟩ := h
        refine ws_lald (L := 128) (dcd d_Er_leastOf_0 25 rfl) (os_1_1 ok_18) (ol_1_1 ok_18) e5 ?_
        refine ws_ladd (dcd d_Er_leastOf_0 26 rfl) ?_
        refine ws_minJ (st := []) (dcd d_Er_leastOf_0 27 rfl) km_Er_36 ms_minJ in_jm mc_minJ ⟨by decide, Nat.le_of_ble_eq_true rfl⟩ ?_
        refine ws_lstore_n (l' := [(2, .long (if ((mL u 19 (x4 : Int32).toNatClampNeg) + (mL u 20 ((x1 - x4) : Int32).toNatClampNeg)) < x2 then ((mL u 19 (x4 : Int32).toNatClampNeg) + (mL u 20 ((x1 - x4) : Int32).toNatClampNeg)) else x2)), (0, .ref 18), (1, .int x1), (4, .int x4)]) (dcd d_Er_leastOf_0 28 rfl) (by decide) rfl ?_
        refine ws_iinc (v := 1) (l' := [(4, .int (x4 + 1)), (2, .long (if ((mL u 19 (x4 : Int32).toNatClampNeg) + (mL u 20 ((x1 - x4) : Int32).toNatClampNeg)) < x2 then ((mL u 19 (x4 : Int32).toNatClampNeg) + (mL u 20 ((x1 - x4) : Int32).toNatClampNeg)) else x2)), (0, .ref 18), (1, .int x1)]) 3 (dcd d_Er_leastOf_0 29 rfl) rfl (by decide) (by decide) rfl ?_
        refine ws_goto (tgt := 7) (dcd d_Er_leastOf_1 0 rfl) (by decide) ?_
        exact ws_loc [2, 3, 1, 0] rfl h
theorem sg_Er_weekFor_0 {x1 : Int32} {x2 : Int32}  (h : ((x1 < 0 → Q (some (.int 0)) u) ∧ (¬ (x1 < 0) → ((128 ≤ x1 → Q (some (.int 0)) u) ∧ (¬ (128 ≤ x1) → (vp_in x1 128 ∧ Q (some (.int ((((mL u 20 (x1 : Int32).toNatClampNeg) >>> (((5 * (6 - x2)) : Int32).toInt64 &&& 63)) : Int64).toInt32 &&& 31))) u)))))) : Ws G Er_weekFor 0 [(0, .ref 18), (1, .int x1), (2, .int x2)] [] u Q := by
  refine ws_iload_n 1 (dcd d_Er_weekFor_0 0 rfl) rfl ?_
  refine ws_if_lt (tgt := 29) (dcd d_Er_weekFor_0 1 rfl) (by decide) (fun c1 => ?_) (fun c1 => ?_)
  · have h := h.1 c1
    refine ws_iconst (v := 0) (dcd d_Er_weekFor_0 16 rfl) (by decide) ?_
    exact ws_iret (dcd d_Er_weekFor_0 17 rfl) ⟨_, rfl, rfl⟩ h
  · have h := h.2 c1
    refine ws_iload_n 1 (dcd d_Er_weekFor_0 2 rfl) rfl ?_
    refine ws_sipush (v := 128) (dcd d_Er_weekFor_0 3 rfl) (by decide) ?_
    refine ws_icmp_ge (tgt := 29) (dcd d_Er_weekFor_0 4 rfl) (by decide) (fun c2 => ?_) (fun c2 => ?_)
    · have h := h.1 c2
      refine ws_iconst (v := 0) (dcd d_Er_weekFor_0 16 rfl) (by decide) ?_
      exact ws_iret (dcd d_Er_weekFor_0 17 rfl) ⟨_, rfl, rfl⟩ h
    · have h := h.2 c2
      refine ws_aload_n 0 (dcd d_Er_weekFor_0 5 rfl) rfl ?_
      refine ws_getF (a := 20) f_Er_15 rfl (dcd d_Er_weekFor_0 6 rfl) ok_18 of_1_1 rfl ?_
      refine ws_iload_n 1 (dcd d_Er_weekFor_0 7 rfl) rfl ?_
      obtain ⟨e3, h⟩ := h
      refine ws_lald (L := 128) (dcd d_Er_weekFor_0 8 rfl) (os_1_1 ok_18) (ol_1_1 ok_18) e3 ?_
      refine ws_iload_n 2 (dcd d_Er_weekFor_0 9 rfl) rfl ?_
      refine ws_callSI (As := [.int x2]) (st := [.long (mL u 20 (x1 : Int32).toNatClampNeg)]) (la := [(0, .int x2)]) (dcd d_Er_weekFor_0 10 rfl) cs_Er_shiftOf k_Er_46 ⟨by decide, by decide⟩ rfl (Nat.le_of_ble_eq_true rfl) (Nat.le_of_ble_eq_true rfl) rfl rfl sp_Er_shiftOf ?_
      rintro _ _ ⟨rfl, rfl⟩
      refine ws_lshr (dcd d_Er_weekFor_0 11 rfl) ?_
      refine ws_l2i (dcd d_Er_weekFor_0 12 rfl) ?_
      refine ws_bipush (v := 31) (dcd d_Er_weekFor_0 13 rfl) (by decide) ?_
      refine ws_iand (dcd d_Er_weekFor_0 14 rfl) ?_
      refine ws_goto (tgt := 30) (dcd d_Er_weekFor_0 15 rfl) (by decide) ?_
      exact ws_iret (dcd d_Er_weekFor_0 17 rfl) ⟨_, rfl, rfl⟩ h
theorem sg_Er_walkingFor_0 {x1 : Int32}  (h : ((x1 < 0 → Q (some (.int 0)) u) ∧ (¬ (x1 < 0) → ((128 ≤ x1 → Q (some (.int 0)) u) ∧ (¬ (128 ≤ x1) → (vp_in x1 128 ∧ Q (some (.int (((mL u 20 (x1 : Int32).toNatClampNeg) >>> ((35 : Int32).toInt64 &&& 63)) : Int64).toInt32)) u)))))) : Ws G Er_walkingFor 0 [(0, .ref 18), (1, .int x1)] [] u Q := by
  refine ws_iload_n 1 (dcd d_Er_walkingFor_0 0 rfl) rfl ?_
  refine ws_if_lt (tgt := 24) (dcd d_Er_walkingFor_0 1 rfl) (by decide) (fun c1 => ?_) (fun c1 => ?_)
  · have h := h.1 c1
    refine ws_iconst (v := 0) (dcd d_Er_walkingFor_0 13 rfl) (by decide) ?_
    exact ws_iret (dcd d_Er_walkingFor_0 14 rfl) ⟨_, rfl, rfl⟩ h
  · have h := h.2 c1
    refine ws_iload_n 1 (dcd d_Er_walkingFor_0 2 rfl) rfl ?_
    refine ws_sipush (v := 128) (dcd d_Er_walkingFor_0 3 rfl) (by decide) ?_
    refine ws_icmp_ge (tgt := 24) (dcd d_Er_walkingFor_0 4 rfl) (by decide) (fun c2 => ?_) (fun c2 => ?_)
    · have h := h.1 c2
      refine ws_iconst (v := 0) (dcd d_Er_walkingFor_0 13 rfl) (by decide) ?_
      exact ws_iret (dcd d_Er_walkingFor_0 14 rfl) ⟨_, rfl, rfl⟩ h
    · have h := h.2 c2
      refine ws_aload_n 0 (dcd d_Er_walkingFor_0 5 rfl) rfl ?_
      refine ws_getF (a := 20) f_Er_15 rfl (dcd d_Er_walkingFor_0 6 rfl) ok_18 of_1_1 rfl ?_
      refine ws_iload_n 1 (dcd d_Er_walkingFor_0 7 rfl) rfl ?_
      obtain ⟨e3, h⟩ := h
      refine ws_lald (L := 128) (dcd d_Er_walkingFor_0 8 rfl) (os_1_1 ok_18) (ol_1_1 ok_18) e3 ?_
      refine ws_bipush (v := 35) (dcd d_Er_walkingFor_0 9 rfl) (by decide) ?_
      refine ws_lshr (dcd d_Er_walkingFor_0 10 rfl) ?_
      refine ws_l2i (dcd d_Er_walkingFor_0 11 rfl) ?_
      refine ws_goto (tgt := 25) (dcd d_Er_walkingFor_0 12 rfl) (by decide) ?_
      exact ws_iret (dcd d_Er_walkingFor_0 14 rfl) ⟨_, rfl, rfl⟩ h
theorem sg_D_agree_0 {x1 : Int32} {x2 : Int32} {x3 : Int32}  (h : (pl (mR u 2 10) → (((0 ≤ x1 ∧ x1 < (mI u (mR u 2 10) 0)) → (pl (mR u 2 10) → (((0 ≤ x2 ∧ x2 < (mI u (mR u 2 10) 0)) → ((x3 < 0 → Q (some (.int (-1))) u) ∧ (¬ (x3 < 0) → ((x3 ≤ 60 → (pl (mR u 2 10) → ((¬ (mI u (mR u 2 10) 1) = 0 → (pl (mR u 2 10) → Ws G D_agree 78 [(0, .ref 2), (1, .int x1), (2, .int x2), (3, .int x3), (4, .int 0), (5, .int ((mI u (mR u 2 10) 0) + 1)), (6, .int 0)] [] (snB u 10 7) Q)) ∧ ((mI u (mR u 2 10) 1) = 0 → Q (some (.int (-3))) (dF u 4))))) ∧ (¬ (x3 ≤ 60) → Q (some (.int (-1))) u))))) ∧ (¬ (0 ≤ x2 ∧ x2 < (mI u (mR u 2 10) 0)) → Q (some (.int (-1))) u)))) ∧ (¬ (0 ≤ x1 ∧ x1 < (mI u (mR u 2 10) 0)) → Q (some (.int (-1))) u)))) : Ws G D_agree 0 [(0, .ref 2), (1, .int x1), (2, .int x2), (3, .int x3)] [] u Q := by
  refine ws_aload_n 0 (dcd d_D_agree_0 0 rfl) rfl ?_
  refine ws_getP (by decide) f_D_63 (dcd d_D_agree_0 1 rfl) (fun j1 => ?_)
  have h := h j1
  refine ws_iload_n 1 (dcd d_D_agree_0 2 rfl) rfl ?_
  refine ws_callVI (o := (mR u 2 10)) (As := [.int x1]) (st := []) (la := [(0, .ref (mR u 2 10)), (1, .int x1)]) (dcd d_D_agree_0 3 rfl) cv_Pl_hasDoor k_D_198 ⟨by decide, by decide⟩ (pl_ok j1) rfl (Nat.le_of_ble_eq_true rfl) (Nat.le_of_ble_eq_true rfl) rfl rfl (sp_Pl_hasDoor (pl_ok j1)) ?_
  rintro _ _ ⟨rfl, ⟨rfl, c2⟩ | ⟨rfl, c2⟩⟩
  · have h := h.1 c2
    refine ws_if_eq (tgt := 32) (dcd d_D_agree_0 4 rfl) (by decide) (fun c => absurd c (by decide)) (fun _ => ?_)
    refine ws_aload_n 0 (dcd d_D_agree_0 5 rfl) rfl ?_
    refine ws_getP (by decide) f_D_63 (dcd d_D_agree_0 6 rfl) (fun j4 => ?_)
    have h := h j4
    refine ws_iload_n 2 (dcd d_D_agree_0 7 rfl) rfl ?_
    refine ws_callVI (o := (mR u 2 10)) (As := [.int x2]) (st := []) (la := [(0, .ref (mR u 2 10)), (1, .int x2)]) (dcd d_D_agree_0 8 rfl) cv_Pl_hasDoor k_D_198 ⟨by decide, by decide⟩ (pl_ok j4) rfl (Nat.le_of_ble_eq_true rfl) (Nat.le_of_ble_eq_true rfl) rfl rfl (sp_Pl_hasDoor (pl_ok j4)) ?_
    rintro _ _ ⟨rfl, ⟨rfl, c5⟩ | ⟨rfl, c5⟩⟩
    · have h := h.1 c5
      refine ws_if_eq (tgt := 32) (dcd d_D_agree_0 9 rfl) (by decide) (fun c => absurd c (by decide)) (fun _ => ?_)
      refine ws_iload_n 3 (dcd d_D_agree_0 10 rfl) rfl ?_
      refine ws_if_lt (tgt := 32) (dcd d_D_agree_0 11 rfl) (by decide) (fun c7 => ?_) (fun c7 => ?_)
      · have h := h.1 c7
        refine ws_iconst (v := (-1)) (dcd d_D_agree_0 15 rfl) (by decide) ?_
        exact ws_iret (dcd d_D_agree_0 16 rfl) ⟨_, rfl, rfl⟩ h
      · have h := h.2 c7
        refine ws_iload_n 3 (dcd d_D_agree_0 12 rfl) rfl ?_
        refine ws_bipush (v := 60) (dcd d_D_agree_0 13 rfl) (by decide) ?_
        refine ws_icmp_le (tgt := 34) (dcd d_D_agree_0 14 rfl) (by decide) (fun c8 => ?_) (fun c8 => ?_)
        · have h := h.1 c8
          refine ws_aload_n 0 (dcd d_D_agree_0 17 rfl) rfl ?_
          refine ws_getP (by decide) f_D_63 (dcd d_D_agree_0 18 rfl) (fun j9 => ?_)
          have h := h j9
          refine ws_getI f_D_163 rfl (dcd d_D_agree_0 19 rfl) (pl_ok j9) ?_
          refine ws_if_ne (tgt := 50) (dcd d_D_agree_0 20 rfl) (by decide) (fun c10 => ?_) (fun c10 => ?_)
          · have h := h.1 c10
            refine ws_iconst (v := 0) (dcd d_D_agree_0 25 rfl) (by decide) ?_
            refine ws_istore (l' := [(4, .int 0), (0, .ref 2), (1, .int x1), (2, .int x2), (3, .int x3)]) (dcd d_D_agree_0 26 rfl) (by decide) rfl ?_
            refine ws_aload_n 1 (dcd d_D_agree_0 27 rfl) rfl ?_
            refine ws_getP (by decide) f_D_63 (dcd d_D_agree_0 28 rfl) (fun j11 => ?_)
            have h := h j11
            refine ws_getI f_D_252 rfl (dcd d_D_agree_0 29 rfl) (pl_ok j11) ?_
            refine ws_iconst (v := 1) (dcd d_D_agree_1 0 rfl) (by decide) ?_
            refine ws_iadd (dcd d_D_agree_1 1 rfl) ?_
            refine ws_istore (l' := [(5, .int ((mI u (mR u 2 10) 0) + 1)), (4, .int 0), (0, .ref 2), (1, .int x1), (2, .int x2), (3, .int x3)]) (dcd d_D_agree_1 2 rfl) (by decide) rfl ?_
            refine ws_aload_n 2 (dcd d_D_agree_1 3 rfl) rfl ?_
            refine ws_getF (a := 10) f_D_36 rfl (dcd d_D_agree_1 4 rfl) ok_2 of_7_5 rfl ?_
            refine ws_aload_n 2 (dcd d_D_agree_1 5 rfl) rfl ?_
            refine ws_getF (a := 7) f_D_28 rfl (dcd d_D_agree_1 6 rfl) ok_2 of_7_3 rfl ?_
            refine ws_callVV (o := 10) (As := [.ref 7]) (st := []) (la := [(0, .ref 10), (1, .ref 7)]) (dcd d_D_agree_1 7 rfl) cv_Sn_become k_D_220 ⟨by decide, by decide⟩ (os_7_5 ok_2) rfl (Nat.le_of_ble_eq_true rfl) (Nat.le_of_ble_eq_true rfl) rfl rfl (sp_Sn_become (os_7_5 ok_2) (os_7_3 ok_2)) ?_
            rintro _ rfl
            refine ws_iconst (v := 0) (dcd d_D_agree_1 8 rfl) (by decide) ?_
            refine ws_istore (l' := [(6, .int 0), (5, .int ((mI u (mR u 2 10) 0) + 1)), (4, .int 0), (0, .ref 2), (1, .int x1), (2, .int x2), (3, .int x3)]) (dcd d_D_agree_1 9 rfl) (by decide) rfl ?_
            exact ws_loc [3, 4, 5, 6, 2, 1, 0] rfl h
          · have h := h.2 c10
            refine ws_aload_n 0 (dcd d_D_agree_0 21 rfl) rfl ?_
            refine ws_iconst (v := 4) (dcd d_D_agree_0 22 rfl) (by decide) ?_
            refine ws_callVI (o := 2) (As := [.int 4]) (st := []) (la := [(0, .ref 2), (1, .int 4)]) (dcd d_D_agree_0 23 rfl) cv_D_found k_D_91 ⟨by decide, by decide⟩ ok_2 rfl (Nat.le_of_ble_eq_true rfl) (Nat.le_of_ble_eq_true rfl) rfl rfl sp_D_found ?_
            rintro _ _ ⟨rfl, rfl⟩
            exact ws_iret (dcd d_D_agree_0 24 rfl) ⟨_, rfl, rfl⟩ h
        · have h := h.2 c8
          refine ws_iconst (v := (-1)) (dcd d_D_agree_0 15 rfl) (by decide) ?_
          exact ws_iret (dcd d_D_agree_0 16 rfl) ⟨_, rfl, rfl⟩ h
    · have h := h.2 c5
      refine ws_if_eq (tgt := 32) (dcd d_D_agree_0 9 rfl) (by decide) (fun _ => ?_) (fun c => absurd (show (0 : Int32) = 0 from by decide) c)
      refine ws_iconst (v := (-1)) (dcd d_D_agree_0 15 rfl) (by decide) ?_
      exact ws_iret (dcd d_D_agree_0 16 rfl) ⟨_, rfl, rfl⟩ h
  · have h := h.2 c2
    refine ws_if_eq (tgt := 32) (dcd d_D_agree_0 4 rfl) (by decide) (fun _ => ?_) (fun c => absurd (show (0 : Int32) = 0 from by decide) c)
    refine ws_iconst (v := (-1)) (dcd d_D_agree_0 15 rfl) (by decide) ?_
    exact ws_iret (dcd d_D_agree_0 16 rfl) ⟨_, rfl, rfl⟩ h
theorem sg_D_agree_78 {x1 : Int32} {x2 : Int32} {x3 : Int32} {x4 : Int32} {x5 : Int32} {x6 : Int32}  (h : ((x3 < x6 → Q (some (.int x4)) (pI u 2 12 x5)) ∧ (¬ (x3 < x6) → Ws G D_agree 87 [(0, .ref 2), (1, .int x1), (2, .int x2), (3, .int x3), (4, .int x4), (5, .int x5), (6, .int x6), (7, .int 0)] [] u Q))) : Ws G D_agree 78 [(0, .ref 2), (1, .int x1), (2, .int x2), (3, .int x3), (4, .int x4), (5, .int x5), (6, .int x6)] [] u Q := by
  refine ws_iload 6 (dcd d_D_agree_1 10 rfl) rfl ?_
  refine ws_iload_n 3 (dcd d_D_agree_1 11 rfl) rfl ?_
  refine ws_icmp_gt (tgt := 178) (dcd d_D_agree_1 12 rfl) (by decide) (fun c1 => ?_) (fun c1 => ?_)
  · have h := h.1 c1
    refine ws_aload_n 0 (dcd d_D_agree_2 28 rfl) rfl ?_
    refine ws_iload 5 (dcd d_D_agree_2 29 rfl) rfl ?_
    refine ws_iload 4 (dcd d_D_agree_3 0 rfl) rfl ?_
    refine ws_callVI (o := 2) (As := [.int x5, .int x4]) (st := []) (la := [(0, .ref 2), (1, .int x5), (2, .int x4)]) (dcd d_D_agree_3 1 rfl) cv_D_tell k_D_113 ⟨by decide, by decide⟩ ok_2 rfl (Nat.le_of_ble_eq_true rfl) (Nat.le_of_ble_eq_true rfl) rfl rfl sp_D_tell ?_
    rintro _ _ ⟨rfl, rfl⟩
    exact ws_iret (dcd d_D_agree_3 2 rfl) ⟨_, rfl, rfl⟩ h
  · have h := h.2 c1
    refine ws_iconst (v := 0) (dcd d_D_agree_1 13 rfl) (by decide) ?_
    refine ws_istore (l' := [(7, .int 0), (0, .ref 2), (1, .int x1), (2, .int x2), (3, .int x3), (4, .int x4), (5, .int x5), (6, .int x6)]) (dcd d_D_agree_1 14 rfl) (by decide) rfl ?_
    exact ws_loc [1, 2, 3, 4, 5, 6, 7, 0] rfl h
theorem sg_D_agree_87 {x1 : Int32} {x2 : Int32} {x3 : Int32} {x4 : Int32} {x5 : Int32} {x6 : Int32} {x7 : Int32}  (h : (pl (mR u 2 10) → (((mI u (mR u 2 10) 1) ≤ x7 → (pl (mR u 2 10) → Ws G Sn_pass 0 [(0, .ref 10), (1, .ref (mR u 2 10)), (2, .int 1)] [] u (RV fun u4 => Ws G D_agree 78 [(0, .ref 2), (1, .int x1), (2, .int x2), (3, .int x3), (4, .int x4), (5, .int x5), (6, .int (x6 + 1))] [] u4 Q))) ∧ (¬ ((mI u (mR u 2 10) 1) ≤ x7) → (pl (mR u 2 10) → (pl (mR u 2 10) → ((x5 ≤ ((wkV (mI u (mR u 2 10) 0) x1 (snD u 10 x7)) + (wkV (mI u (mR u 2 10) 0) x2 (snD u 10 x7))) → Ws G D_agree 87 [(0, .ref 2), (1, .int x1), (2, .int x2), (3, .int x3), (4, .int x4), (5, .int x5), (6, .int x6), (7, .int (x7 + 1))] [] u Q) ∧ (¬ (x5 ≤ ((wkV (mI u (mR u 2 10) 0) x1 (snD u 10 x7)) + (wkV (mI u (mR u 2 10) 0) x2 (snD u 10 x7)))) → Ws G D_agree 87 [(0, .ref 2), (1, .int x1), (2, .int x2), (3, .int x3), (4, .int ((10 * x6) + x7)), (5, .int ((wkV (mI u (mR u 2 10) 0) x1 (snD u 10 x7)) + (wkV (mI u (mR u 2 10) 0) x2 (snD u 10 x7)))), (6, .int x6), (7, .int (x7 + 1))] [] u Q)))))))) : Ws G D_agree 87 [(0, .ref 2), (1, .int x1), (2, .int x2), (3, .int x3), (4, .int x4), (5, .int x5), (6, .int x6), (7, .int x7)] [] u Q := by
  refine ws_iload 7 (dcd d_D_agree_1 15 rfl) rfl ?_
  refine ws_aload_n 0 (dcd d_D_agree_1 16 rfl) rfl ?_
  refine ws_getP (by decide) f_D_63 (dcd d_D_agree_1 17 rfl) (fun j1 => ?_)
  have h := h j1
  refine ws_getI f_D_163 rfl (dcd d_D_agree_1 18 rfl) (pl_ok j1) ?_
  refine ws_icmp_ge (tgt := 160) (dcd d_D_agree_1 19 rfl) (by decide) (fun c2 => ?_) (fun c2 => ?_)
  · have h := h.1 c2
    refine ws_aload_n 0 (dcd d_D_agree_2 20 rfl) rfl ?_
    refine ws_getF (a := 10) f_D_36 rfl (dcd d_D_agree_2 21 rfl) ok_2 of_7_5 rfl ?_
    refine ws_aload_n 0 (dcd d_D_agree_2 22 rfl) rfl ?_
    refine ws_getP (by decide) f_D_63 (dcd d_D_agree_2 23 rfl) (fun j3 => ?_)
    have h := h j3
    refine ws_iconst (v := 1) (dcd d_D_agree_2 24 rfl) (by decide) ?_
    refine ws_callVV (o := 10) (As := [.ref (mR u 2 10), .int 1]) (st := []) (la := [(0, .ref 10), (1, .ref (mR u 2 10)), (2, .int 1)]) (dcd d_D_agree_2 25 rfl) cv_Sn_pass k_D_213 ⟨by decide, by decide⟩ (os_7_5 ok_2) rfl (Nat.le_of_ble_eq_true rfl) (Nat.le_of_ble_eq_true rfl) rfl rfl h (fun u4 h => ?_)
    refine ws_iinc (v := 1) (l' := [(6, .int (x6 + 1)), (0, .ref 2), (1, .int x1), (2, .int x2), (3, .int x3), (4, .int x4), (5, .int x5), (7, .int x7)]) 6 (dcd d_D_agree_2 26 rfl) rfl (by decide) (by decide) rfl ?_
    refine ws_goto (tgt := 78) (dcd d_D_agree_2 27 rfl) (by decide) ?_
    exact ws_loc [1, 2, 3, 4, 5, 6, 0] rfl h
  · have h := h.2 c2
    refine ws_aload_n 0 (dcd d_D_agree_1 20 rfl) rfl ?_
    refine ws_getF (a := 10) f_D_36 rfl (dcd d_D_agree_1 21 rfl) ok_2 of_7_5 rfl ?_
    refine ws_iload 7 (dcd d_D_agree_1 22 rfl) rfl ?_
    refine ws_callVI (o := 10) (As := [.int x7]) (st := []) (la := [(0, .ref 10), (1, .int x7)]) (dcd d_D_agree_1 23 rfl) cv_Sn_doorOf k_D_217 ⟨by decide, by decide⟩ (os_7_5 ok_2) rfl (Nat.le_of_ble_eq_true rfl) (Nat.le_of_ble_eq_true rfl) rfl rfl (sp_Sn_doorOf (os_7_5 ok_2)) ?_
    rintro _ _ ⟨rfl, rfl⟩
    refine ws_istore (l' := [(8, .int (snD u 10 x7)), (0, .ref 2), (1, .int x1), (2, .int x2), (3, .int x3), (4, .int x4), (5, .int x5), (6, .int x6), (7, .int x7)]) (dcd d_D_agree_1 24 rfl) (by decide) rfl ?_
    refine ws_aload_n 1 (dcd d_D_agree_1 25 rfl) rfl ?_
    refine ws_getP (by decide) f_D_63 (dcd d_D_agree_1 26 rfl) (fun j5 => ?_)
    have h := h j5
    refine ws_iload_n 2 (dcd d_D_agree_1 27 rfl) rfl ?_
    refine ws_iload 0 (dcd d_D_agree_1 28 rfl) rfl ?_
    refine ws_callVI (o := (mR u 2 10)) (As := [.int x1, .int (snD u 10 x7)]) (st := []) (la := [(0, .ref (mR u 2 10)), (1, .int x1), (2, .int (snD u 10 x7))]) (dcd d_D_agree_1 29 rfl) cv_Pl_walking k_D_243 ⟨by decide, by decide⟩ (pl_ok j5) rfl (Nat.le_of_ble_eq_true rfl) (Nat.le_of_ble_eq_true rfl) rfl rfl (sp_Pl_walking (pl_ok j5)) ?_
    rintro _ _ ⟨rfl, rfl⟩
    refine ws_aload_n 1 (dcd d_D_agree_2 0 rfl) rfl ?_
    refine ws_getP (by decide) f_D_63 (dcd d_D_agree_2 1 rfl) (fun j6 => ?_)
    have h := h j6
    refine ws_iload_n 3 (dcd d_D_agree_2 2 rfl) rfl ?_
    refine ws_iload 0 (dcd d_D_agree_2 3 rfl) rfl ?_
    refine ws_callVI (o := (mR u 2 10)) (As := [.int x2, .int (snD u 10 x7)]) (st := [.int (wkV (mI u (mR u 2 10) 0) x1 (snD u 10 x7))]) (la := [(0, .ref (mR u 2 10)), (1, .int x2), (2, .int (snD u 10 x7))]) (dcd d_D_agree_2 4 rfl) cv_Pl_walking k_D_243 ⟨by decide, by decide⟩ (pl_ok j6) rfl (Nat.le_of_ble_eq_true rfl) (Nat.le_of_ble_eq_true rfl) rfl rfl (sp_Pl_walking (pl_ok j6)) ?_
    rintro _ _ ⟨rfl, rfl⟩
    refine ws_iadd (dcd d_D_agree_2 5 rfl) ?_
    refine ws_istore (l' := [(9, .int ((wkV (mI u (mR u 2 10) 0) x1 (snD u 10 x7)) + (wkV (mI u (mR u 2 10) 0) x2 (snD u 10 x7)))), (8, .int (snD u 10 x7)), (0, .ref 2), (1, .int x1), (2, .int x2), (3, .int x3), (4, .int x4), (5, .int x5), (6, .int x6), (7, .int x7)]) (dcd d_D_agree_2 6 rfl) (by decide) rfl ?_
    refine ws_iload 0 (dcd d_D_agree_2 7 rfl) rfl ?_
    refine ws_iload 7 (dcd d_D_agree_2 8 rfl) rfl ?_
    refine ws_icmp_ge (tgt := 154) (dcd d_D_agree_2 9 rfl) (by decide) (fun c7 => ?_) (fun c7 => ?_)
    · have h := h.1 c7
      refine ws_iinc (v := 1) (l' := [(7, .int (x7 + 1)), (9, .int ((wkV (mI u (mR u 2 10) 0) x1 (snD u 10 x7)) + (wkV (mI u (mR u 2 10) 0) x2 (snD u 10 x7)))), (8, .int (snD u 10 x7)), (0, .ref 2), (1, .int x1), (2, .int x2), (3, .int x3), (4, .int x4), (5, .int x5), (6, .int x6)]) 9 (dcd d_D_agree_2 18 rfl) rfl (by decide) (by decide) rfl ?_
      refine ws_goto (tgt := 87) (dcd d_D_agree_2 19 rfl) (by decide) ?_
      exact ws_loc [3, 4, 5, 6, 7, 8, 9, 0] rfl h
    · have h := h.2 c7
      refine ws_iload 0 (dcd d_D_agree_2 10 rfl) rfl ?_
      refine ws_istore (l' := [(5, .int ((wkV (mI u (mR u 2 10) 0) x1 (snD u 10 x7)) + (wkV (mI u (mR u 2 10) 0) x2 (snD u 10 x7)))), (9, .int ((wkV (mI u (mR u 2 10) 0) x1 (snD u 10 x7)) + (wkV (mI u (mR u 2 10) 0) x2 (snD u 10 x7)))), (8, .int (snD u 10 x7)), (0, .ref 2), (1, .int x1), (2, .int x2), (3, .int x3), (4, .int x4), (6, .int x6), (7, .int x7)]) (dcd d_D_agree_2 11 rfl) (by decide) rfl ?_
      refine ws_bipush (v := 10) (dcd d_D_agree_2 12 rfl) (by decide) ?_
      refine ws_iload 8 (dcd d_D_agree_2 13 rfl) rfl ?_
      refine ws_imul (dcd d_D_agree_2 14 rfl) ?_
      refine ws_iload 9 (dcd d_D_agree_2 15 rfl) rfl ?_
      refine ws_iadd (dcd d_D_agree_2 16 rfl) ?_
      refine ws_istore (l' := [(4, .int ((10 * x6) + x7)), (5, .int ((wkV (mI u (mR u 2 10) 0) x1 (snD u 10 x7)) + (wkV (mI u (mR u 2 10) 0) x2 (snD u 10 x7)))), (9, .int ((wkV (mI u (mR u 2 10) 0) x1 (snD u 10 x7)) + (wkV (mI u (mR u 2 10) 0) x2 (snD u 10 x7)))), (8, .int (snD u 10 x7)), (0, .ref 2), (1, .int x1), (2, .int x2), (3, .int x3), (6, .int x6), (7, .int x7)]) (dcd d_D_agree_2 17 rfl) (by decide) rfl ?_
      refine ws_iinc (v := 1) (l' := [(7, .int (x7 + 1)), (4, .int ((10 * x6) + x7)), (5, .int ((wkV (mI u (mR u 2 10) 0) x1 (snD u 10 x7)) + (wkV (mI u (mR u 2 10) 0) x2 (snD u 10 x7)))), (9, .int ((wkV (mI u (mR u 2 10) 0) x1 (snD u 10 x7)) + (wkV (mI u (mR u 2 10) 0) x2 (snD u 10 x7)))), (8, .int (snD u 10 x7)), (0, .ref 2), (1, .int x1), (2, .int x2), (3, .int x3), (6, .int x6)]) 9 (dcd d_D_agree_2 18 rfl) rfl (by decide) (by decide) rfl ?_
      refine ws_goto (tgt := 87) (dcd d_D_agree_2 19 rfl) (by decide) ?_
      exact ws_loc [5, 6, 7, 8, 1, 2, 9, 0] rfl h
theorem sg_D_joins_0 {x1 : Int32} {x2 : Int32}  (h : (pl (mR u 2 10) → (((0 ≤ x1 ∧ x1 < (mI u (mR u 2 10) 0)) → ((x2 < (-9) → Q (some (.int (-1))) u) ∧ (¬ (x2 < (-9)) → ((x2 ≤ 9 → Ws G D_metBy 0 [(0, .ref 2), (1, .int x1), (2, .int x2)] [] u (RI fun a6 u6 => Q (some (.int a6)) u6)) ∧ (¬ (x2 ≤ 9) → Q (some (.int (-1))) u))))) ∧ (¬ (0 ≤ x1 ∧ x1 < (mI u (mR u 2 10) 0)) → Q (some (.int (-1))) u)))) : Ws G D_joins 0 [(0, .ref 2), (1, .int x1), (2, .int x2)] [] u Q := by
  refine ws_aload_n 0 (dcd d_D_joins_0 0 rfl) rfl ?_
  refine ws_getP (by decide) f_D_63 (dcd d_D_joins_0 1 rfl) (fun j1 => ?_)
  have h := h j1
  refine ws_iload_n 1 (dcd d_D_joins_0 2 rfl) rfl ?_
  refine ws_callVI (o := (mR u 2 10)) (As := [.int x1]) (st := []) (la := [(0, .ref (mR u 2 10)), (1, .int x1)]) (dcd d_D_joins_0 3 rfl) cv_Pl_hasDoor k_D_198 ⟨by decide, by decide⟩ (pl_ok j1) rfl (Nat.le_of_ble_eq_true rfl) (Nat.le_of_ble_eq_true rfl) rfl rfl (sp_Pl_hasDoor (pl_ok j1)) ?_
  rintro _ _ ⟨rfl, ⟨rfl, c2⟩ | ⟨rfl, c2⟩⟩
  · have h := h.1 c2
    refine ws_if_eq (tgt := 23) (dcd d_D_joins_0 4 rfl) (by decide) (fun c => absurd c (by decide)) (fun _ => ?_)
    refine ws_iload_n 2 (dcd d_D_joins_0 5 rfl) rfl ?_
    refine ws_bipush (v := (-9)) (dcd d_D_joins_0 6 rfl) (by decide) ?_
    refine ws_icmp_lt (tgt := 23) (dcd d_D_joins_0 7 rfl) (by decide) (fun c4 => ?_) (fun c4 => ?_)
    · have h := h.1 c4
      refine ws_iconst (v := (-1)) (dcd d_D_joins_0 11 rfl) (by decide) ?_
      exact ws_iret (dcd d_D_joins_0 12 rfl) ⟨_, rfl, rfl⟩ h
    · have h := h.2 c4
      refine ws_iload_n 2 (dcd d_D_joins_0 8 rfl) rfl ?_
      refine ws_bipush (v := 9) (dcd d_D_joins_0 9 rfl) (by decide) ?_
      refine ws_icmp_le (tgt := 25) (dcd d_D_joins_0 10 rfl) (by decide) (fun c5 => ?_) (fun c5 => ?_)
      · have h := h.1 c5
        refine ws_aload_n 0 (dcd d_D_joins_0 13 rfl) rfl ?_
        refine ws_iload_n 1 (dcd d_D_joins_0 14 rfl) rfl ?_
        refine ws_iload_n 2 (dcd d_D_joins_0 15 rfl) rfl ?_
        refine ws_callVI (o := 2) (As := [.int x1, .int x2]) (st := []) (la := [(0, .ref 2), (1, .int x1), (2, .int x2)]) (dcd d_D_joins_0 16 rfl) cv_D_metBy k_D_288 ⟨by decide, by decide⟩ ok_2 rfl (Nat.le_of_ble_eq_true rfl) (Nat.le_of_ble_eq_true rfl) rfl rfl h (fun a6 u6 h => ?_)
        exact ws_iret (dcd d_D_joins_0 17 rfl) ⟨_, rfl, rfl⟩ h
      · have h := h.2 c5
        refine ws_iconst (v := (-1)) (dcd d_D_joins_0 11 rfl) (by decide) ?_
        exact ws_iret (dcd d_D_joins_0 12 rfl) ⟨_, rfl, rfl⟩ h
  · have h := h.2 c2
    refine ws_if_eq (tgt := 23) (dcd d_D_joins_0 4 rfl) (by decide) (fun _ => ?_) (fun c => absurd (show (0 : Int32) = 0 from by decide) c)
    refine ws_iconst (v := (-1)) (dcd d_D_joins_0 11 rfl) (by decide) ?_
    exact ws_iret (dcd d_D_joins_0 12 rfl) ⟨_, rfl, rfl⟩ h
theorem sg_D_metBy_0 {x1 : Int32} {x2 : Int32}  (h : Ws G D_metBy 5 [(0, .ref 2), (1, .int x1), (2, .int x2), (3, .int 0), (4, .int 0)] [] u Q) : Ws G D_metBy 0 [(0, .ref 2), (1, .int x1), (2, .int x2)] [] u Q := by
  refine ws_iconst (v := 0) (dcd d_D_metBy_0 0 rfl) (by decide) ?_
  refine ws_istore_n (l' := [(3, .int 0), (0, .ref 2), (1, .int x1), (2, .int x2)]) (dcd d_D_metBy_0 1 rfl) (by decide) rfl ?_
  refine ws_iconst (v := 0) (dcd d_D_metBy_0 2 rfl) (by decide) ?_
  refine ws_istore (l' := [(4, .int 0), (3, .int 0), (0, .ref 2), (1, .int x1), (2, .int x2)]) (dcd d_D_metBy_0 3 rfl) (by decide) rfl ?_
  exact ws_loc [2, 3, 4, 1, 0] rfl h
theorem sg_D_metBy_5 {x1 : Int32} {x2 : Int32} {x3 : Int32} {x4 : Int32}  (h : (pl (mR u 2 10) → (((mI u (mR u 2 10) 1) ≤ x4 → Q (some (.int x3)) u) ∧ (¬ ((mI u (mR u 2 10) 1) ≤ x4) → (pl (mR u 2 10) → (pl (mR u 2 10) → Ws G Pl_canMeet 0 [(0, .ref (mR u 2 10)), (1, .int ((snD u 7 x4) - x1)), (2, .int (x2 - (mI u (shO u (mR u 2 10) x4) 2)))] [] u (RI fun a5 u5 => ((a5 = 0 → Ws G D_metBy 5 [(0, .ref 2), (1, .int x1), (2, .int x2), (3, .int x3), (4, .int (x4 + 1))] [] u5 Q) ∧ (¬ a5 = 0 → Ws G D_metBy 5 [(0, .ref 2), (1, .int x1), (2, .int x2), (3, .int (x3 ||| (1 <<< (x4 &&& 31)))), (4, .int (x4 + 1))] [] u5 Q))))))))) : Ws G D_metBy 5 [(0, .ref 2), (1, .int x1), (2, .int x2), (3, .int x3), (4, .int x4)] [] u Q := by
  refine ws_iload 4 (dcd d_D_metBy_0 4 rfl) rfl ?_
  refine ws_aload_n 0 (dcd d_D_metBy_0 5 rfl) rfl ?_
  refine ws_getP (by decide) f_D_63 (dcd d_D_metBy_0 6 rfl) (fun j1 => ?_)
  have h := h j1
  refine ws_getI f_D_163 rfl (dcd d_D_metBy_0 7 rfl) (pl_ok j1) ?_
  refine ws_icmp_ge (tgt := 65) (dcd d_D_metBy_0 8 rfl) (by decide) (fun c2 => ?_) (fun c2 => ?_)
  · have h := h.1 c2
    refine ws_iload_n 3 (dcd d_D_metBy_1 4 rfl) rfl ?_
    exact ws_iret (dcd d_D_metBy_1 5 rfl) ⟨_, rfl, rfl⟩ h
  · have h := h.2 c2
    refine ws_aload_n 0 (dcd d_D_metBy_0 9 rfl) rfl ?_
    refine ws_getP (by decide) f_D_63 (dcd d_D_metBy_0 10 rfl) (fun j3 => ?_)
    have h := h j3
    refine ws_aload_n 0 (dcd d_D_metBy_0 11 rfl) rfl ?_
    refine ws_getF (a := 7) f_D_28 rfl (dcd d_D_metBy_0 12 rfl) ok_2 of_7_3 rfl ?_
    refine ws_iload 4 (dcd d_D_metBy_0 13 rfl) rfl ?_
    refine ws_callVI (o := 7) (As := [.int x4]) (st := [.ref (mR u 2 10)]) (la := [(0, .ref 7), (1, .int x4)]) (dcd d_D_metBy_0 14 rfl) cv_Sn_doorOf k_D_217 ⟨by decide, by decide⟩ (os_7_3 ok_2) rfl (Nat.le_of_ble_eq_true rfl) (Nat.le_of_ble_eq_true rfl) rfl rfl (sp_Sn_doorOf (os_7_3 ok_2)) ?_
    rintro _ _ ⟨rfl, rfl⟩
    refine ws_iload_n 1 (dcd d_D_metBy_0 15 rfl) rfl ?_
    refine ws_isub (dcd d_D_metBy_0 16 rfl) ?_
    refine ws_iload_n 2 (dcd d_D_metBy_0 17 rfl) rfl ?_
    refine ws_aload_n 0 (dcd d_D_metBy_0 18 rfl) rfl ?_
    refine ws_getP (by decide) f_D_63 (dcd d_D_metBy_0 19 rfl) (fun j4 => ?_)
    have h := h j4
    refine ws_iload 4 (dcd d_D_metBy_0 20 rfl) rfl ?_
    refine ws_callVR (o := (mR u 2 10)) (As := [.int x4]) (st := [.int x2, .int ((snD u 7 x4) - x1), .ref (mR u 2 10)]) (la := [(0, .ref (mR u 2 10)), (1, .int x4)]) (dcd d_D_metBy_0 21 rfl) cv_Pl_shopOf k_D_170 ⟨by decide, by decide⟩ (pl_ok j4) rfl (Nat.le_of_ble_eq_true rfl) (Nat.le_of_ble_eq_true rfl) rfl rfl (sp_Pl_shopOf (pl_ok j4)) ?_
    rintro _ _ ⟨rfl, rfl⟩
    refine ws_getI f_D_246 rfl (dcd d_D_metBy_0 22 rfl) (shO_ok (pl_ok j4)) ?_
    refine ws_isub (dcd d_D_metBy_0 23 rfl) ?_
    refine ws_callVI (o := (mR u 2 10)) (As := [.int ((snD u 7 x4) - x1), .int (x2 - (mI u (shO u (mR u 2 10) x4) 2))]) (st := []) (la := [(0, .ref (mR u 2 10)), (1, .int ((snD u 7 x4) - x1)), (2, .int (x2 - (mI u (shO u (mR u 2 10) x4) 2)))]) (dcd d_D_metBy_0 24 rfl) cv_Pl_canMeet k_D_255 ⟨by decide, by decide⟩ (pl_ok j3) rfl (Nat.le_of_ble_eq_true rfl) (Nat.le_of_ble_eq_true rfl) rfl rfl h (fun a5 u5 h => ?_)
    refine ws_if_eq (tgt := 59) (dcd d_D_metBy_0 25 rfl) (by decide) (fun c6 => ?_) (fun c6 => ?_)
    · have h := h.1 c6
      refine ws_iinc (v := 1) (l' := [(4, .int (x4 + 1)), (0, .ref 2), (1, .int x1), (2, .int x2), (3, .int x3)]) 4 (dcd d_D_metBy_1 2 rfl) rfl (by decide) (by decide) rfl ?_
      refine ws_goto (tgt := 5) (dcd d_D_metBy_1 3 rfl) (by decide) ?_
      exact ws_loc [1, 2, 3, 4, 0] rfl h
    · have h := h.2 c6
      refine ws_iload_n 3 (dcd d_D_metBy_0 26 rfl) rfl ?_
      refine ws_iconst (v := 1) (dcd d_D_metBy_0 27 rfl) (by decide) ?_
      refine ws_iload 4 (dcd d_D_metBy_0 28 rfl) rfl ?_
      refine ws_ishl (dcd d_D_metBy_0 29 rfl) ?_
      refine ws_ior (dcd d_D_metBy_1 0 rfl) ?_
      refine ws_istore_n (l' := [(3, .int (x3 ||| (1 <<< (x4 &&& 31)))), (0, .ref 2), (1, .int x1), (2, .int x2), (4, .int x4)]) (dcd d_D_metBy_1 1 rfl) (by decide) rfl ?_
      refine ws_iinc (v := 1) (l' := [(4, .int (x4 + 1)), (3, .int (x3 ||| (1 <<< (x4 &&& 31)))), (0, .ref 2), (1, .int x1), (2, .int x2)]) 4 (dcd d_D_metBy_1 2 rfl) rfl (by decide) (by decide) rfl ?_
      refine ws_goto (tgt := 5) (dcd d_D_metBy_1 3 rfl) (by decide) ?_
      exact ws_loc [2, 3, 4, 1, 0] rfl h
theorem sg_D_quiet_0   (h : (pl (mR u 2 10) → (((0 < (mI u (mR u 2 10) 0)) → Ws G D_quiet 20 [(0, .ref 2), (1, .int (-9)), (2, .int 0), (3, .int 0)] [] u Q) ∧ (¬ (0 < (mI u (mR u 2 10) 0)) → Q (some (.int (-4))) u)))) : Ws G D_quiet 0 [(0, .ref 2)] [] u Q := by
  refine ws_aload_n 0 (dcd d_D_quiet_0 0 rfl) rfl ?_
  refine ws_getP (by decide) f_D_63 (dcd d_D_quiet_0 1 rfl) (fun j1 => ?_)
  have h := h j1
  refine ws_callVI (o := (mR u 2 10)) (As := []) (st := []) (la := [(0, .ref (mR u 2 10))]) (dcd d_D_quiet_0 2 rfl) cv_Pl_isThere k_D_211 ⟨by decide, by decide⟩ (pl_ok j1) rfl (Nat.le_of_ble_eq_true rfl) (Nat.le_of_ble_eq_true rfl) rfl rfl (sp_Pl_isThere (pl_ok j1)) ?_
  rintro _ _ ⟨rfl, ⟨rfl, c2⟩ | ⟨rfl, c2⟩⟩
  · have h := h.1 c2
    refine ws_if_ne (tgt := 13) (dcd d_D_quiet_0 3 rfl) (by decide) (fun _ => ?_) (fun c => absurd c (by decide))
    refine ws_bipush (v := (-9)) (dcd d_D_quiet_0 6 rfl) (by decide) ?_
    refine ws_istore_n (l' := [(1, .int (-9)), (0, .ref 2)]) (dcd d_D_quiet_0 7 rfl) (by decide) rfl ?_
    refine ws_iconst (v := 0) (dcd d_D_quiet_0 8 rfl) (by decide) ?_
    refine ws_istore_n (l' := [(2, .int 0), (1, .int (-9)), (0, .ref 2)]) (dcd d_D_quiet_0 9 rfl) (by decide) rfl ?_
    refine ws_iconst (v := 0) (dcd d_D_quiet_0 10 rfl) (by decide) ?_
    refine ws_istore_n (l' := [(3, .int 0), (2, .int 0), (1, .int (-9)), (0, .ref 2)]) (dcd d_D_quiet_0 11 rfl) (by decide) rfl ?_
    exact ws_loc [3, 2, 1, 0] rfl h
  · have h := h.2 c2
    refine ws_if_ne (tgt := 13) (dcd d_D_quiet_0 3 rfl) (by decide) (fun c => absurd (show (0 : Int32) = 0 from by decide) c) (fun _ => ?_)
    refine ws_bipush (v := (-4)) (dcd d_D_quiet_0 4 rfl) (by decide) ?_
    exact ws_iret (dcd d_D_quiet_0 5 rfl) ⟨_, rfl, rfl⟩ h
theorem sg_D_quiet_20 {x1 : Int32} {x2 : Int32} {x3 : Int32}  (h : (pl (mR u 2 10) → (((mI u (mR u 2 10) 0) ≤ x3 → ((¬ x2 = 0 → Q (some (.int x1)) (pI u 2 12 x2)) ∧ (x2 = 0 → Q (some (.int (-9))) u))) ∧ (¬ ((mI u (mR u 2 10) 0) ≤ x3) → Ws G D_quiet 35 [(0, .ref 2), (1, .int x1), (2, .int x2), (3, .int x3), (4, .int (-9))] [] u Q)))) : Ws G D_quiet 20 [(0, .ref 2), (1, .int x1), (2, .int x2), (3, .int x3)] [] u Q := by
  refine ws_iload_n 3 (dcd d_D_quiet_0 12 rfl) rfl ?_
  refine ws_aload_n 0 (dcd d_D_quiet_0 13 rfl) rfl ?_
  refine ws_getP (by decide) f_D_63 (dcd d_D_quiet_0 14 rfl) (fun j1 => ?_)
  have h := h j1
  refine ws_getI f_D_252 rfl (dcd d_D_quiet_0 15 rfl) (pl_ok j1) ?_
  refine ws_icmp_ge (tgt := 82) (dcd d_D_quiet_0 16 rfl) (by decide) (fun c2 => ?_) (fun c2 => ?_)
  · have h := h.1 c2
    refine ws_iload_n 2 (dcd d_D_quiet_1 10 rfl) rfl ?_
    refine ws_if_ne (tgt := 91) (dcd d_D_quiet_1 11 rfl) (by decide) (fun c3 => ?_) (fun c3 => ?_)
    · have h := h.1 c3
      refine ws_aload_n 0 (dcd d_D_quiet_1 14 rfl) rfl ?_
      refine ws_iload_n 2 (dcd d_D_quiet_1 15 rfl) rfl ?_
      refine ws_iload_n 1 (dcd d_D_quiet_1 16 rfl) rfl ?_
      refine ws_callVI (o := 2) (As := [.int x2, .int x1]) (st := []) (la := [(0, .ref 2), (1, .int x2), (2, .int x1)]) (dcd d_D_quiet_1 17 rfl) cv_D_tell k_D_113 ⟨by decide, by decide⟩ ok_2 rfl (Nat.le_of_ble_eq_true rfl) (Nat.le_of_ble_eq_true rfl) rfl rfl sp_D_tell ?_
      rintro _ _ ⟨rfl, rfl⟩
      exact ws_iret (dcd d_D_quiet_1 18 rfl) ⟨_, rfl, rfl⟩ h
    · have h := h.2 c3
      refine ws_bipush (v := (-9)) (dcd d_D_quiet_1 12 rfl) (by decide) ?_
      refine ws_goto (tgt := 97) (dcd d_D_quiet_1 13 rfl) (by decide) ?_
      exact ws_iret (dcd d_D_quiet_1 18 rfl) ⟨_, rfl, rfl⟩ h
  · have h := h.2 c2
    refine ws_bipush (v := (-9)) (dcd d_D_quiet_0 17 rfl) (by decide) ?_
    refine ws_istore (l' := [(4, .int (-9)), (0, .ref 2), (1, .int x1), (2, .int x2), (3, .int x3)]) (dcd d_D_quiet_0 18 rfl) (by decide) rfl ?_
    exact ws_loc [1, 2, 3, 4, 0] rfl h
theorem sg_D_quiet_35 {x1 : Int32} {x2 : Int32} {x3 : Int32} {x4 : Int32}  (h : ((9 < x4 → Ws G D_quiet 20 [(0, .ref 2), (1, .int x1), (2, .int x2), (3, .int (x3 + 1))] [] u Q) ∧ (¬ (9 < x4) → Ws G D_metBy 0 [(0, .ref 2), (1, .int x3), (2, .int x4)] [] u (RI fun a2 u2 => ((¬ a2 = 0 → Ws G D_quiet 35 [(0, .ref 2), (1, .int x1), (2, .int x2), (3, .int x3), (4, .int (x4 + 1))] [] u2 Q) ∧ (a2 = 0 → ((¬ x2 = 0 → Ws G D_quiet 35 [(0, .ref 2), (1, .int x1), (2, .int (x2 + 1)), (3, .int x3), (4, .int (x4 + 1))] [] u2 Q) ∧ (x2 = 0 → Ws G D_quiet 35 [(0, .ref 2), (1, .int (100 * x3 + x4 + 9)), (2, .int (x2 + 1)), (3, .int x3), (4, .int (x4 + 1))] [] u2 Q)))))))) : Ws G D_quiet 35 [(0, .ref 2), (1, .int x1), (2, .int x2), (3, .int x3), (4, .int x4)] [] u Q := by
  refine ws_iload 4 (dcd d_D_quiet_0 19 rfl) rfl ?_
  refine ws_bipush (v := 9) (dcd d_D_quiet_0 20 rfl) (by decide) ?_
  refine ws_icmp_gt (tgt := 76) (dcd d_D_quiet_0 21 rfl) (by decide) (fun c1 => ?_) (fun c1 => ?_)
  · have h := h.1 c1
    refine ws_iinc (v := 1) (l' := [(3, .int (x3 + 1)), (0, .ref 2), (1, .int x1), (2, .int x2), (4, .int x4)]) 3 (dcd d_D_quiet_1 8 rfl) rfl (by decide) (by decide) rfl ?_
    refine ws_goto (tgt := 20) (dcd d_D_quiet_1 9 rfl) (by decide) ?_
    exact ws_loc [1, 2, 3, 0] rfl h
  · have h := h.2 c1
    refine ws_aload_n 0 (dcd d_D_quiet_0 22 rfl) rfl ?_
    refine ws_iload_n 3 (dcd d_D_quiet_0 23 rfl) rfl ?_
    refine ws_iload 4 (dcd d_D_quiet_0 24 rfl) rfl ?_
    refine ws_callVI (o := 2) (As := [.int x3, .int x4]) (st := []) (la := [(0, .ref 2), (1, .int x3), (2, .int x4)]) (dcd d_D_quiet_0 25 rfl) cv_D_metBy k_D_288 ⟨by decide, by decide⟩ ok_2 rfl (Nat.le_of_ble_eq_true rfl) (Nat.le_of_ble_eq_true rfl) rfl rfl h (fun a2 u2 h => ?_)
    refine ws_if_ne (tgt := 70) (dcd d_D_quiet_0 26 rfl) (by decide) (fun c3 => ?_) (fun c3 => ?_)
    · have h := h.1 c3
      refine ws_iinc (v := 1) (l' := [(4, .int (x4 + 1)), (0, .ref 2), (1, .int x1), (2, .int x2), (3, .int x3)]) 4 (dcd d_D_quiet_1 6 rfl) rfl (by decide) (by decide) rfl ?_
      refine ws_goto (tgt := 35) (dcd d_D_quiet_1 7 rfl) (by decide) ?_
      exact ws_loc [1, 2, 3, 4, 0] rfl h
    · have h := h.2 c3
      refine ws_iload_n 2 (dcd d_D_quiet_0 27 rfl) rfl ?_
      refine ws_if_ne (tgt := 65) (dcd d_D_quiet_0 28 rfl) (by decide) (fun c4 => ?_) (fun c4 => ?_)
      · have h := h.1 c4
        refine ws_iload_n 1 (dcd d_D_quiet_1 3 rfl) rfl ?_
        refine ws_istore_n (l' := [(1, .int x1), (0, .ref 2), (2, .int x2), (3, .int x3), (4, .int x4)]) (dcd d_D_quiet_1 4 rfl) (by decide) rfl ?_
        refine ws_iinc (v := 1) (l' := [(2, .int (x2 + 1)), (1, .int x1), (0, .ref 2), (3, .int x3), (4, .int x4)]) 2 (dcd d_D_quiet_1 5 rfl) rfl (by decide) (by decide) rfl ?_
        refine ws_iinc (v := 1) (l' := [(4, .int (x4 + 1)), (2, .int (x2 + 1)), (1, .int x1), (0, .ref 2), (3, .int x3)]) 4 (dcd d_D_quiet_1 6 rfl) rfl (by decide) (by decide) rfl ?_
        refine ws_goto (tgt := 35) (dcd d_D_quiet_1 7 rfl) (by decide) ?_
        exact ws_loc [3, 2, 1, 4, 0] rfl h
      · have h := h.2 c4
        refine ws_iload_n 3 (dcd d_D_quiet_0 29 rfl) rfl ?_
        refine ws_iload 4 (dcd d_D_quiet_1 0 rfl) rfl ?_
        refine ws_callSI (As := [.int x3, .int x4]) (st := []) (la := [(0, .int x3), (1, .int x4)]) (dcd d_D_quiet_1 1 rfl) cs_D_pairCode k_D_291 ⟨by decide, by decide⟩ rfl (Nat.le_of_ble_eq_true rfl) (Nat.le_of_ble_eq_true rfl) rfl rfl sp_D_pairCode ?_
        rintro _ _ ⟨rfl, rfl⟩
        refine ws_goto (tgt := 66) (dcd d_D_quiet_1 2 rfl) (by decide) ?_
        refine ws_istore_n (l' := [(1, .int (100 * x3 + x4 + 9)), (0, .ref 2), (2, .int x2), (3, .int x3), (4, .int x4)]) (dcd d_D_quiet_1 4 rfl) (by decide) rfl ?_
        refine ws_iinc (v := 1) (l' := [(2, .int (x2 + 1)), (1, .int (100 * x3 + x4 + 9)), (0, .ref 2), (3, .int x3), (4, .int x4)]) 2 (dcd d_D_quiet_1 5 rfl) rfl (by decide) (by decide) rfl ?_
        refine ws_iinc (v := 1) (l' := [(4, .int (x4 + 1)), (2, .int (x2 + 1)), (1, .int (100 * x3 + x4 + 9)), (0, .ref 2), (3, .int x3)]) 4 (dcd d_D_quiet_1 6 rfl) rfl (by decide) (by decide) rfl ?_
        refine ws_goto (tgt := 35) (dcd d_D_quiet_1 7 rfl) (by decide) ?_
        exact ws_loc [3, 2, 1, 4, 0] rfl h
theorem sg_D_busy_0   (h : (pl (mR u 2 10) → (((0 < (mI u (mR u 2 10) 0)) → Ws G D_busy 20 [(0, .ref 2), (1, .int (-9)), (2, .int (-1)), (3, .int 0)] [] u Q) ∧ (¬ (0 < (mI u (mR u 2 10) 0)) → Q (some (.int (-4))) u)))) : Ws G D_busy 0 [(0, .ref 2)] [] u Q := by
  refine ws_aload_n 0 (dcd d_D_busy_0 0 rfl) rfl ?_
  refine ws_getP (by decide) f_D_63 (dcd d_D_busy_0 1 rfl) (fun j1 => ?_)
  have h := h j1
  refine ws_callVI (o := (mR u 2 10)) (As := []) (st := []) (la := [(0, .ref (mR u 2 10))]) (dcd d_D_busy_0 2 rfl) cv_Pl_isThere k_D_211 ⟨by decide, by decide⟩ (pl_ok j1) rfl (Nat.le_of_ble_eq_true rfl) (Nat.le_of_ble_eq_true rfl) rfl rfl (sp_Pl_isThere (pl_ok j1)) ?_
  rintro _ _ ⟨rfl, ⟨rfl, c2⟩ | ⟨rfl, c2⟩⟩
  · have h := h.1 c2
    refine ws_if_ne (tgt := 13) (dcd d_D_busy_0 3 rfl) (by decide) (fun _ => ?_) (fun c => absurd c (by decide))
    refine ws_bipush (v := (-9)) (dcd d_D_busy_0 6 rfl) (by decide) ?_
    refine ws_istore_n (l' := [(1, .int (-9)), (0, .ref 2)]) (dcd d_D_busy_0 7 rfl) (by decide) rfl ?_
    refine ws_iconst (v := (-1)) (dcd d_D_busy_0 8 rfl) (by decide) ?_
    refine ws_istore_n (l' := [(2, .int (-1)), (1, .int (-9)), (0, .ref 2)]) (dcd d_D_busy_0 9 rfl) (by decide) rfl ?_
    refine ws_iconst (v := 0) (dcd d_D_busy_0 10 rfl) (by decide) ?_
    refine ws_istore_n (l' := [(3, .int 0), (2, .int (-1)), (1, .int (-9)), (0, .ref 2)]) (dcd d_D_busy_0 11 rfl) (by decide) rfl ?_
    exact ws_loc [3, 2, 1, 0] rfl h
  · have h := h.2 c2
    refine ws_if_ne (tgt := 13) (dcd d_D_busy_0 3 rfl) (by decide) (fun c => absurd (show (0 : Int32) = 0 from by decide) c) (fun _ => ?_)
    refine ws_bipush (v := (-4)) (dcd d_D_busy_0 4 rfl) (by decide) ?_
    exact ws_iret (dcd d_D_busy_0 5 rfl) ⟨_, rfl, rfl⟩ h
theorem sg_D_busy_20 {x1 : Int32} {x2 : Int32} {x3 : Int32}  (h : (pl (mR u 2 10) → (((mI u (mR u 2 10) 0) ≤ x3 → Q (some (.int x1)) (pI u 2 12 x2)) ∧ (¬ ((mI u (mR u 2 10) 0) ≤ x3) → Ws G D_busy 35 [(0, .ref 2), (1, .int x1), (2, .int x2), (3, .int x3), (4, .int (-9))] [] u Q)))) : Ws G D_busy 20 [(0, .ref 2), (1, .int x1), (2, .int x2), (3, .int x3)] [] u Q := by
  refine ws_iload_n 3 (dcd d_D_busy_0 12 rfl) rfl ?_
  refine ws_aload_n 0 (dcd d_D_busy_0 13 rfl) rfl ?_
  refine ws_getP (by decide) f_D_63 (dcd d_D_busy_0 14 rfl) (fun j1 => ?_)
  have h := h j1
  refine ws_getI f_D_252 rfl (dcd d_D_busy_0 15 rfl) (pl_ok j1) ?_
  refine ws_icmp_ge (tgt := 82) (dcd d_D_busy_0 16 rfl) (by decide) (fun c2 => ?_) (fun c2 => ?_)
  · have h := h.1 c2
    refine ws_aload_n 0 (dcd d_D_busy_1 11 rfl) rfl ?_
    refine ws_iload_n 2 (dcd d_D_busy_1 12 rfl) rfl ?_
    refine ws_iload_n 1 (dcd d_D_busy_1 13 rfl) rfl ?_
    refine ws_callVI (o := 2) (As := [.int x2, .int x1]) (st := []) (la := [(0, .ref 2), (1, .int x2), (2, .int x1)]) (dcd d_D_busy_1 14 rfl) cv_D_tell k_D_113 ⟨by decide, by decide⟩ ok_2 rfl (Nat.le_of_ble_eq_true rfl) (Nat.le_of_ble_eq_true rfl) rfl rfl sp_D_tell ?_
    rintro _ _ ⟨rfl, rfl⟩
    exact ws_iret (dcd d_D_busy_1 15 rfl) ⟨_, rfl, rfl⟩ h
  · have h := h.2 c2
    refine ws_bipush (v := (-9)) (dcd d_D_busy_0 17 rfl) (by decide) ?_
    refine ws_istore (l' := [(4, .int (-9)), (0, .ref 2), (1, .int x1), (2, .int x2), (3, .int x3)]) (dcd d_D_busy_0 18 rfl) (by decide) rfl ?_
    exact ws_loc [1, 2, 3, 4, 0] rfl h
theorem sg_D_busy_35 {x1 : Int32} {x2 : Int32} {x3 : Int32} {x4 : Int32}  (h : ((9 < x4 → Ws G D_busy 20 [(0, .ref 2), (1, .int x1), (2, .int x2), (3, .int (x3 + 1))] [] u Q) ∧ (¬ (9 < x4) → Ws G D_metBy 0 [(0, .ref 2), (1, .int x3), (2, .int x4)] [] u (RI fun a2 u2 => (((bcV a2) ≤ x2 → Ws G D_busy 35 [(0, .ref 2), (1, .int x1), (2, .int x2), (3, .int x3), (4, .int (x4 + 1))] [] u2 Q) ∧ (¬ ((bcV a2) ≤ x2) → Ws G D_busy 35 [(0, .ref 2), (1, .int (100 * x3 + x4 + 9)), (2, .int (bcV a2)), (3, .int x3), (4, .int (x4 + 1))] [] u2 Q)))))) : Ws G D_busy 35 [(0, .ref 2), (1, .int x1), (2, .int x2), (3, .int x3), (4, .int x4)] [] u Q := by
  refine ws_iload 4 (dcd d_D_busy_0 19 rfl) rfl ?_
  refine ws_bipush (v := 9) (dcd d_D_busy_0 20 rfl) (by decide) ?_
  refine ws_icmp_gt (tgt := 76) (dcd d_D_busy_0 21 rfl) (by decide) (fun c1 => ?_) (fun c1 => ?_)
  · have h := h.1 c1
    refine ws_iinc (v := 1) (l' := [(3, .int (x3 + 1)), (0, .ref 2), (1, .int x1), (2, .int x2), (4, .int x4)]) 3 (dcd d_D_busy_1 9 rfl) rfl (by decide) (by decide) rfl ?_
    refine ws_goto (tgt := 20) (dcd d_D_busy_1 10 rfl) (by decide) ?_
    exact ws_loc [1, 2, 3, 0] rfl h
  · have h := h.2 c1
    refine ws_aload_n 0 (dcd d_D_busy_0 22 rfl) rfl ?_
    refine ws_iload_n 3 (dcd d_D_busy_0 23 rfl) rfl ?_
    refine ws_iload 4 (dcd d_D_busy_0 24 rfl) rfl ?_
    refine ws_callVI (o := 2) (As := [.int x3, .int x4]) (st := []) (la := [(0, .ref 2), (1, .int x3), (2, .int x4)]) (dcd d_D_busy_0 25 rfl) cv_D_metBy k_D_288 ⟨by decide, by decide⟩ ok_2 rfl (Nat.le_of_ble_eq_true rfl) (Nat.le_of_ble_eq_true rfl) rfl rfl h (fun a2 u2 h => ?_)
    refine ws_callSI (As := [.int a2]) (st := []) (la := [(0, .int a2)]) (dcd d_D_busy_0 26 rfl) cs_ji_bitCount k_D_274 ⟨by decide, by decide⟩ rfl (Nat.le_of_ble_eq_true rfl) (Nat.le_of_ble_eq_true rfl) rfl rfl sp_ji_bitCount ?_
    rintro _ _ ⟨rfl, rfl⟩
    refine ws_istore (l' := [(5, .int (bcV a2)), (0, .ref 2), (1, .int x1), (2, .int x2), (3, .int x3), (4, .int x4)]) (dcd d_D_busy_0 27 rfl) (by decide) rfl ?_
    refine ws_iload 0 (dcd d_D_busy_0 28 rfl) rfl ?_
    refine ws_iload_n 3 (dcd d_D_busy_0 29 rfl) rfl ?_
    refine ws_icmp_le (tgt := 70) (dcd d_D_busy_1 0 rfl) (by decide) (fun c3 => ?_) (fun c3 => ?_)
    · have h := h.1 c3
      refine ws_iinc (v := 1) (l' := [(4, .int (x4 + 1)), (5, .int (bcV a2)), (0, .ref 2), (1, .int x1), (2, .int x2), (3, .int x3)]) 5 (dcd d_D_busy_1 7 rfl) rfl (by decide) (by decide) rfl ?_
      refine ws_goto (tgt := 35) (dcd d_D_busy_1 8 rfl) (by decide) ?_
      exact ws_loc [2, 3, 4, 5, 0] rfl h
    · have h := h.2 c3
      refine ws_iload 0 (dcd d_D_busy_1 1 rfl) rfl ?_
      refine ws_istore_n (l' := [(2, .int (bcV a2)), (5, .int (bcV a2)), (0, .ref 2), (1, .int x1), (3, .int x3), (4, .int x4)]) (dcd d_D_busy_1 2 rfl) (by decide) rfl ?_
      refine ws_iload_n 4 (dcd d_D_busy_1 3 rfl) rfl ?_
      refine ws_iload 5 (dcd d_D_busy_1 4 rfl) rfl ?_
      refine ws_callSI (As := [.int x3, .int x4]) (st := []) (la := [(0, .int x3), (1, .int x4)]) (dcd d_D_busy_1 5 rfl) cs_D_pairCode k_D_291 ⟨by decide, by decide⟩ rfl (Nat.le_of_ble_eq_true rfl) (Nat.le_of_ble_eq_true rfl) rfl rfl sp_D_pairCode ?_
      rintro _ _ ⟨rfl, rfl⟩
      refine ws_istore_n (l' := [(1, .int (100 * x3 + x4 + 9)), (2, .int (bcV a2)), (5, .int (bcV a2)), (0, .ref 2), (3, .int x3), (4, .int x4)]) (dcd d_D_busy_1 6 rfl) (by decide) rfl ?_
      refine ws_iinc (v := 1) (l' := [(4, .int (x4 + 1)), (1, .int (100 * x3 + x4 + 9)), (2, .int (bcV a2)), (5, .int (bcV a2)), (0, .ref 2), (3, .int x3)]) 5 (dcd d_D_busy_1 7 rfl) rfl (by decide) (by decide) rfl ?_
      refine ws_goto (tgt := 35) (dcd d_D_busy_1 8 rfl) (by decide) ?_
      exact ws_loc [4, 1, 2, 5, 0] rfl h
theorem sg_D_note_0 {x1 : Int32} {x2 : Int32} {x3 : Int32}  (h : ((x1 < 0 → Q (some (.int (-1))) u) ∧ (¬ (x1 < 0) → ((99 < x1 → Q (some (.int (-1))) u) ∧ (¬ (99 < x1) → (pl (mR u 2 10) → (((plS u (mR u 2 10) x2) → (pl (mR u 2 10) → (((0 ≤ x3 ∧ x3 < (mI u (mR u 2 10) 0)) → Ws G Di_write 0 [(0, .ref 14), (1, .int x1), (2, .int x2), (3, .int x3)] [] u (RI fun a9 u9 => ((a9 = 0 → Q (some (.int (-2))) u9) ∧ (¬ a9 = 0 → Q (some (.int ((mI u9 14 0) - 1))) u9)))) ∧ (¬ (0 ≤ x3 ∧ x3 < (mI u (mR u 2 10) 0)) → Q (some (.int (-1))) u)))) ∧ (¬ (plS u (mR u 2 10) x2) → Q (some (.int (-1))) u)))))))) : Ws G D_note 0 [(0, .ref 2), (1, .int x1), (2, .int x2), (3, .int x3)] [] u Q := by
  refine ws_iload_n 1 (dcd d_D_note_0 0 rfl) rfl ?_
  refine ws_if_lt (tgt := 32) (dcd d_D_note_0 1 rfl) (by decide) (fun c1 => ?_) (fun c1 => ?_)
  · have h := h.1 c1
    refine ws_iconst (v := (-1)) (dcd d_D_note_0 15 rfl) (by decide) ?_
    exact ws_iret (dcd d_D_note_0 16 rfl) ⟨_, rfl, rfl⟩ h
  · have h := h.2 c1
    refine ws_iload_n 1 (dcd d_D_note_0 2 rfl) rfl ?_
    refine ws_bipush (v := 99) (dcd d_D_note_0 3 rfl) (by decide) ?_
    refine ws_icmp_gt (tgt := 32) (dcd d_D_note_0 4 rfl) (by decide) (fun c2 => ?_) (fun c2 => ?_)
    · have h := h.1 c2
      refine ws_iconst (v := (-1)) (dcd d_D_note_0 15 rfl) (by decide) ?_
      exact ws_iret (dcd d_D_note_0 16 rfl) ⟨_, rfl, rfl⟩ h
    · have h := h.2 c2
      refine ws_aload_n 0 (dcd d_D_note_0 5 rfl) rfl ?_
      refine ws_getP (by decide) f_D_63 (dcd d_D_note_0 6 rfl) (fun j3 => ?_)
      have h := h j3
      refine ws_iload_n 2 (dcd d_D_note_0 7 rfl) rfl ?_
      refine ws_callVI (o := (mR u 2 10)) (As := [.int x2]) (st := []) (la := [(0, .ref (mR u 2 10)), (1, .int x2)]) (dcd d_D_note_0 8 rfl) cv_Pl_hasShop k_D_164 ⟨by decide, by decide⟩ (pl_ok j3) rfl (Nat.le_of_ble_eq_true rfl) (Nat.le_of_ble_eq_true rfl) rfl rfl (sp_Pl_hasShop (pl_ok j3)) ?_
      rintro _ _ ⟨rfl, ⟨rfl, c4⟩ | ⟨rfl, c4⟩⟩
      · have h := h.1 c4
        refine ws_if_eq (tgt := 32) (dcd d_D_note_0 9 rfl) (by decide) (fun c => absurd c (by decide)) (fun _ => ?_)
        refine ws_aload_n 0 (dcd d_D_note_0 10 rfl) rfl ?_
        refine ws_getP (by decide) f_D_63 (dcd d_D_note_0 11 rfl) (fun j6 => ?_)
        have h := h j6
        refine ws_iload_n 3 (dcd d_D_note_0 12 rfl) rfl ?_
        refine ws_callVI (o := (mR u 2 10)) (As := [.int x3]) (st := []) (la := [(0, .ref (mR u 2 10)), (1, .int x3)]) (dcd d_D_note_0 13 rfl) cv_Pl_hasDoor k_D_198 ⟨by decide, by decide⟩ (pl_ok j6) rfl (Nat.le_of_ble_eq_true rfl) (Nat.le_of_ble_eq_true rfl) rfl rfl (sp_Pl_hasDoor (pl_ok j6)) ?_
        rintro _ _ ⟨rfl, ⟨rfl, c7⟩ | ⟨rfl, c7⟩⟩
        · have h := h.1 c7
          refine ws_if_ne (tgt := 34) (dcd d_D_note_0 14 rfl) (by decide) (fun _ => ?_) (fun c => absurd c (by decide))
          refine ws_aload_n 0 (dcd d_D_note_0 17 rfl) rfl ?_
          refine ws_getF (a := 14) f_D_45 rfl (dcd d_D_note_0 18 rfl) ok_2 of_7_7 rfl ?_
          refine ws_iload_n 1 (dcd d_D_note_0 19 rfl) rfl ?_
          refine ws_iload_n 2 (dcd d_D_note_0 20 rfl) rfl ?_
          refine ws_iload_n 3 (dcd d_D_note_0 21 rfl) rfl ?_
          refine ws_callVI (o := 14) (As := [.int x1, .int x2, .int x3]) (st := []) (la := [(0, .ref 14), (1, .int x1), (2, .int x2), (3, .int x3)]) (dcd d_D_note_0 22 rfl) cv_Di_write k_D_294 ⟨by decide, by decide⟩ (os_7_7 ok_2) rfl (Nat.le_of_ble_eq_true rfl) (Nat.le_of_ble_eq_true rfl) rfl rfl h (fun a9 u9 h => ?_)
          refine ws_if_eq (tgt := 59) (dcd d_D_note_0 23 rfl) (by decide) (fun c10 => ?_) (fun c10 => ?_)
          · have h := h.1 c10
            refine ws_bipush (v := (-2)) (dcd d_D_note_1 0 rfl) (by decide) ?_
            exact ws_iret (dcd d_D_note_1 1 rfl) ⟨_, rfl, rfl⟩ h
          · have h := h.2 c10
            refine ws_aload_n 0 (dcd d_D_note_0 24 rfl) rfl ?_
            refine ws_getF (a := 14) f_D_45 rfl (dcd d_D_note_0 25 rfl) ok_2 of_7_7 rfl ?_
            refine ws_getI f_D_158 rfl (dcd d_D_note_0 26 rfl) (os_7_7 ok_2) ?_
            refine ws_iconst (v := 1) (dcd d_D_note_0 27 rfl) (by decide) ?_
            refine ws_isub (dcd d_D_note_0 28 rfl) ?_
            refine ws_goto (tgt := 61) (dcd d_D_note_0 29 rfl) (by decide) ?_
            exact ws_iret (dcd d_D_note_1 1 rfl) ⟨_, rfl, rfl⟩ h
        · have h := h.2 c7
          refine ws_if_ne (tgt := 34) (dcd d_D_note_0 14 rfl) (by decide) (fun c => absurd (show (0 : Int32) = 0 from by decide) c) (fun _ => ?_)
          refine ws_iconst (v := (-1)) (dcd d_D_note_0 15 rfl) (by decide) ?_
          exact ws_iret (dcd d_D_note_0 16 rfl) ⟨_, rfl, rfl⟩ h
      · have h := h.2 c4
        refine ws_if_eq (tgt := 32) (dcd d_D_note_0 9 rfl) (by decide) (fun _ => ?_) (fun c => absurd (show (0 : Int32) = 0 from by decide) c)
        refine ws_iconst (v := (-1)) (dcd d_D_note_0 15 rfl) (by decide) ?_
        exact ws_iret (dcd d_D_note_0 16 rfl) ⟨_, rfl, rfl⟩ h
theorem sg_Di_write_0 {x1 : Int32} {x2 : Int32} {x3 : Int32}  (h : (((mI u 14 0) < 0 → Q (some (.int 0)) u) ∧ (¬ ((mI u 14 0) < 0) → (((mI u 14 0) < 12 → (vp_in (mI u 14 0) 12 ∧ (vp_in (mI (pI u 15 ((mI u 14 0) : Int32).toNatClampNeg x1) 14 0) 12 ∧ (vp_in (mI (pI (pI u 15 ((mI u 14 0) : Int32).toNatClampNeg x1) 16 ((mI (pI u 15 ((mI u 14 0) : Int32).toNatClampNeg x1) 14 0) : Int32).toNatClampNeg x2) 14 0) 12 ∧ Q (some (.int 1)) (pI (pI (pI (pI u 15 ((mI u 14 0) : Int32).toNatClampNeg x1) 16 ((mI (pI u 15 ((mI u 14 0) : Int32).toNatClampNeg x1) 14 0) : Int32).toNatClampNeg x2) 17 ((mI (pI (pI u 15 ((mI u 14 0) : Int32).toNatClampNeg x1) 16 ((mI (pI u 15 ((mI u 14 0) : Int32).toNatClampNeg x1) 14 0) : Int32).toNatClampNeg x2) 14 0) : Int32).toNatClampNeg x3) 14 0 ((mI (pI (pI (pI u 15 ((mI u 14 0) : Int32).toNatClampNeg x1) 16 ((mI (pI u 15 ((mI u 14 0) : Int32).toNatClampNeg x1) 14 0) : Int32).toNatClampNeg x2) 17 ((mI (pI (pI u 15 ((mI u 14 0) : Int32).toNatClampNeg x1) 16 ((mI (pI u 15 ((mI u 14 0) : Int32).toNatClampNeg x1) 14 0) : Int32).toNatClampNeg x2) 14 0) : Int32).toNatClampNeg x3) 14 0) + 1)))))) ∧ (¬ ((mI u 14 0) < 12) → Q (some (.int 0)) u))))) : Ws G Di_write 0 [(0, .ref 14), (1, .int x1), (2, .int x2), (3, .int x3)] [] u Q := by
  refine ws_aload_n 0 (dcd d_Di_write_0 0 rfl) rfl ?_
  refine ws_getI f_Di_9 rfl (dcd d_Di_write_0 1 rfl) ok_14 ?_
  refine ws_if_lt (tgt := 16) (dcd d_Di_write_0 2 rfl) (by decide) (fun c1 => ?_) (fun c1 => ?_)
  · have h := h.1 c1
    refine ws_iconst (v := 0) (dcd d_Di_write_0 7 rfl) (by decide) ?_
    exact ws_iret (dcd d_Di_write_0 8 rfl) ⟨_, rfl, by decide⟩ h
  · have h := h.2 c1
    refine ws_aload_n 0 (dcd d_Di_write_0 3 rfl) rfl ?_
    refine ws_getI f_Di_9 rfl (dcd d_Di_write_0 4 rfl) ok_14 ?_
    refine ws_bipush (v := 12) (dcd d_Di_write_0 5 rfl) (by decide) ?_
    refine ws_icmp_lt (tgt := 18) (dcd d_Di_write_0 6 rfl) (by decide) (fun c2 => ?_) (fun c2 => ?_)
    · have h := h.1 c2
      refine ws_aload_n 0 (dcd d_Di_write_0 9 rfl) rfl ?_
      refine ws_getF (a := 15) f_Di_15 rfl (dcd d_Di_write_0 10 rfl) ok_14 of_0_1 rfl ?_
      refine ws_aload_n 0 (dcd d_Di_write_0 11 rfl) rfl ?_
      refine ws_getI f_Di_9 rfl (dcd d_Di_write_0 12 rfl) ok_14 ?_
      refine ws_iload_n 1 (dcd d_Di_write_0 13 rfl) rfl ?_
      obtain ⟨e3, h⟩ := h
      refine ws_iast (L := 12) (dcd d_Di_write_0 14 rfl) (os_0_1 ok_14) (ol_0_1 ok_14) e3 ?_
      refine ws_aload_n 0 (dcd d_Di_write_0 15 rfl) rfl ?_
      refine ws_getF (a := 16) f_Di_19 rfl (dcd d_Di_write_0 16 rfl) ok_14 of_0_2 rfl ?_
      refine ws_aload_n 0 (dcd d_Di_write_0 17 rfl) rfl ?_
      refine ws_getI f_Di_9 rfl (dcd d_Di_write_0 18 rfl) ok_14 ?_
      refine ws_iload_n 2 (dcd d_Di_write_0 19 rfl) rfl ?_
      obtain ⟨e4, h⟩ := h
      refine ws_iast (L := 12) (dcd d_Di_write_0 20 rfl) (os_0_2 ok_14) (ol_0_2 ok_14) e4 ?_
      refine ws_aload_n 0 (dcd d_Di_write_0 21 rfl) rfl ?_
      refine ws_getF (a := 17) f_Di_22 rfl (dcd d_Di_write_0 22 rfl) ok_14 of_0_3 rfl ?_
      refine ws_aload_n 0 (dcd d_Di_write_0 23 rfl) rfl ?_
      refine ws_getI f_Di_9 rfl (dcd d_Di_write_0 24 rfl) ok_14 ?_
      refine ws_iload_n 3 (dcd d_Di_write_0 25 rfl) rfl ?_
      obtain ⟨e5, h⟩ := h
      refine ws_iast (L := 12) (dcd d_Di_write_0 26 rfl) (os_0_3 ok_14) (ol_0_3 ok_14) e5 ?_
      refine ws_aload_n 0 (dcd d_Di_write_0 27 rfl) rfl ?_
      refine ws_dup (dcd d_Di_write_0 28 rfl) rfl ?_
      refine ws_getI f_Di_9 rfl (dcd d_Di_write_0 29 rfl) ok_14 ?_
      refine ws_iconst (v := 1) (dcd d_Di_write_1 0 rfl) (by decide) ?_
      refine ws_iadd (dcd d_Di_write_1 1 rfl) ?_
      refine ws_putI f_Di_9 rfl nf_0_0 (dcd d_Di_write_1 2 rfl) ok_14 ?_
      refine ws_iconst (v := 1) (dcd d_Di_write_1 3 rfl) (by decide) ?_
      exact ws_iret (dcd d_Di_write_1 4 rfl) ⟨_, rfl, by decide⟩ h
    · have h := h.2 c2
      refine ws_iconst (v := 0) (dcd d_Di_write_0 7 rfl) (by decide) ?_
      exact ws_iret (dcd d_Di_write_0 8 rfl) ⟨_, rfl, by decide⟩ h
theorem sg_D_back_0 {x1 : Int32}  (h : ((x1 < 0 → Q (some (.int (-1))) u) ∧ (¬ (x1 < 0) → ((x1 ≤ (mI u 14 0) → Q (some (.int ((mI u 14 0) - x1))) (pI u 14 0 x1)) ∧ (¬ (x1 ≤ (mI u 14 0)) → Q (some (.int (-1))) u))))) : Ws G D_back 0 [(0, .ref 2), (1, .int x1)] [] u Q := by
  refine ws_iload_n 1 (dcd d_D_back_0 0 rfl) rfl ?_
  refine ws_if_lt (tgt := 15) (dcd d_D_back_0 1 rfl) (by decide) (fun c1 => ?_) (fun c1 => ?_)
  · have h := h.1 c1
    refine ws_iconst (v := (-1)) (dcd d_D_back_0 7 rfl) (by decide) ?_
    exact ws_iret (dcd d_D_back_0 8 rfl) ⟨_, rfl, rfl⟩ h
  · have h := h.2 c1
    refine ws_iload_n 1 (dcd d_D_back_0 2 rfl) rfl ?_
    refine ws_aload_n 0 (dcd d_D_back_0 3 rfl) rfl ?_
    refine ws_getF (a := 14) f_D_45 rfl (dcd d_D_back_0 4 rfl) ok_2 of_7_7 rfl ?_
    refine ws_getI f_D_158 rfl (dcd d_D_back_0 5 rfl) (os_7_7 ok_2) ?_
    refine ws_icmp_le (tgt := 17) (dcd d_D_back_0 6 rfl) (by decide) (fun c2 => ?_) (fun c2 => ?_)
    · have h := h.1 c2
      refine ws_aload_n 0 (dcd d_D_back_0 9 rfl) rfl ?_
      refine ws_getF (a := 14) f_D_45 rfl (dcd d_D_back_0 10 rfl) ok_2 of_7_7 rfl ?_
      refine ws_getI f_D_158 rfl (dcd d_D_back_0 11 rfl) (os_7_7 ok_2) ?_
      refine ws_iload_n 1 (dcd d_D_back_0 12 rfl) rfl ?_
      refine ws_isub (dcd d_D_back_0 13 rfl) ?_
      refine ws_istore_n (l' := [(2, .int ((mI u 14 0) - x1)), (0, .ref 2), (1, .int x1)]) (dcd d_D_back_0 14 rfl) (by decide) rfl ?_
      refine ws_aload_n 1 (dcd d_D_back_0 15 rfl) rfl ?_
      refine ws_getF (a := 14) f_D_45 rfl (dcd d_D_back_0 16 rfl) ok_2 of_7_7 rfl ?_
      refine ws_iload_n 2 (dcd d_D_back_0 17 rfl) rfl ?_
      refine ws_putI f_D_158 rfl nf_0_0 (dcd d_D_back_0 18 rfl) (os_7_7 ok_2) ?_
      refine ws_iload_n 0 (dcd d_D_back_0 19 rfl) rfl ?_
      exact ws_iret (dcd d_D_back_0 20 rfl) ⟨_, rfl, rfl⟩ h
    · have h := h.2 c2
      refine ws_iconst (v := (-1)) (dcd d_D_back_0 7 rfl) (by decide) ?_
      exact ws_iret (dcd d_D_back_0 8 rfl) ⟨_, rfl, rfl⟩ h
theorem sg_D_steps_0 {x1 : Int32}  (h : (pl (mR u 2 10) → (((plS u (mR u 2 10) x1) → (pl (mR u 2 10) → Ws G D_steps 28 [(0, .ref 2), (1, .int x1), (2, .ref (shO u (mR u 2 10) x1)), (3, .int 0), (4, .int (-9))] [] u Q)) ∧ (¬ (plS u (mR u 2 10) x1) → Q (some (.int (-1))) u)))) : Ws G D_steps 0 [(0, .ref 2), (1, .int x1)] [] u Q := by
  refine ws_aload_n 0 (dcd d_D_steps_0 0 rfl) rfl ?_
  refine ws_getP (by decide) f_D_63 (dcd d_D_steps_0 1 rfl) (fun j1 => ?_)
  have h := h j1
  refine ws_iload_n 1 (dcd d_D_steps_0 2 rfl) rfl ?_
  refine ws_callVI (o := (mR u 2 10)) (As := [.int x1]) (st := []) (la := [(0, .ref (mR u 2 10)), (1, .int x1)]) (dcd d_D_steps_0 3 rfl) cv_Pl_hasShop k_D_164 ⟨by decide, by decide⟩ (pl_ok j1) rfl (Nat.le_of_ble_eq_true rfl) (Nat.le_of_ble_eq_true rfl) rfl rfl (sp_Pl_hasShop (pl_ok j1)) ?_
  rintro _ _ ⟨rfl, ⟨rfl, c2⟩ | ⟨rfl, c2⟩⟩
  · have h := h.1 c2
    refine ws_if_ne (tgt := 13) (dcd d_D_steps_0 4 rfl) (by decide) (fun _ => ?_) (fun c => absurd c (by decide))
    refine ws_aload_n 0 (dcd d_D_steps_0 7 rfl) rfl ?_
    refine ws_getP (by decide) f_D_63 (dcd d_D_steps_0 8 rfl) (fun j4 => ?_)
    have h := h j4
    refine ws_iload_n 1 (dcd d_D_steps_0 9 rfl) rfl ?_
    refine ws_callVR (o := (mR u 2 10)) (As := [.int x1]) (st := []) (la := [(0, .ref (mR u 2 10)), (1, .int x1)]) (dcd d_D_steps_0 10 rfl) cv_Pl_shopOf k_D_170 ⟨by decide, by decide⟩ (pl_ok j4) rfl (Nat.le_of_ble_eq_true rfl) (Nat.le_of_ble_eq_true rfl) rfl rfl (sp_Pl_shopOf (pl_ok j4)) ?_
    rintro _ _ ⟨rfl, rfl⟩
    refine ws_astore_n (l' := [(2, .ref (shO u (mR u 2 10) x1)), (0, .ref 2), (1, .int x1)]) (dcd d_D_steps_0 11 rfl) (by decide) rfl ?_
    refine ws_iconst (v := 0) (dcd d_D_steps_0 12 rfl) (by decide) ?_
    refine ws_istore_n (l' := [(3, .int 0), (2, .ref (shO u (mR u 2 10) x1)), (0, .ref 2), (1, .int x1)]) (dcd d_D_steps_0 13 rfl) (by decide) rfl ?_
    refine ws_bipush (v := (-9)) (dcd d_D_steps_0 14 rfl) (by decide) ?_
    refine ws_istore (l' := [(4, .int (-9)), (3, .int 0), (2, .ref (shO u (mR u 2 10) x1)), (0, .ref 2), (1, .int x1)]) (dcd d_D_steps_0 15 rfl) (by decide) rfl ?_
    exact ws_loc [3, 4, 2, 1, 0] rfl h
  · have h := h.2 c2
    refine ws_if_ne (tgt := 13) (dcd d_D_steps_0 4 rfl) (by decide) (fun c => absurd (show (0 : Int32) = 0 from by decide) c) (fun _ => ?_)
    refine ws_iconst (v := (-1)) (dcd d_D_steps_0 5 rfl) (by decide) ?_
    exact ws_iret (dcd d_D_steps_0 6 rfl) ⟨_, rfl, rfl⟩ h
theorem sg_D_steps_28 {x1 : Int32} {o2 : Nat} {x3 : Int32} {x4 : Int32} (k2 : okS o2 4) (h : ((9 < x4 → Q (some (.int x3)) (pI u 2 12 (bcV x3))) ∧ (¬ (9 < x4) → (pl (mR u 2 10) → Ws G Di_fits 0 [(0, .ref 14), (1, .ref (mR u 2 10)), (2, .int x1), (3, .int (mI u o2 0)), (4, .int (mI u o2 4)), (5, .int x4)] [] u (RI fun a3 u3 => ((a3 = 0 → Ws G D_steps 28 [(0, .ref 2), (1, .int x1), (2, .ref o2), (3, .int x3), (4, .int (x4 + 1))] [] u3 Q) ∧ (¬ a3 = 0 → Ws G D_steps 28 [(0, .ref 2), (1, .int x1), (2, .ref o2), (3, .int (x3 ||| (1 <<< ((x4 + 9) &&& 31)))), (4, .int (x4 + 1))] [] u3 Q))))))) : Ws G D_steps 28 [(0, .ref 2), (1, .int x1), (2, .ref o2), (3, .int x3), (4, .int x4)] [] u Q := by
  refine ws_iload 4 (dcd d_D_steps_0 16 rfl) rfl ?_
  refine ws_bipush (v := 9) (dcd d_D_steps_0 17 rfl) (by decide) ?_
  refine ws_icmp_gt (tgt := 76) (dcd d_D_steps_0 18 rfl) (by decide) (fun c1 => ?_) (fun c1 => ?_)
  · have h := h.1 c1
    refine ws_aload_n 0 (dcd d_D_steps_1 11 rfl) rfl ?_
    refine ws_iload_n 3 (dcd d_D_steps_1 12 rfl) rfl ?_
    refine ws_callSI (As := [.int x3]) (st := [.ref 2]) (la := [(0, .int x3)]) (dcd d_D_steps_1 13 rfl) cs_ji_bitCount k_D_274 ⟨by decide, by decide⟩ rfl (Nat.le_of_ble_eq_true rfl) (Nat.le_of_ble_eq_true rfl) rfl rfl sp_ji_bitCount ?_
    rintro _ _ ⟨rfl, rfl⟩
    refine ws_iload_n 3 (dcd d_D_steps_1 14 rfl) rfl ?_
    refine ws_callVI (o := 2) (As := [.int (bcV x3), .int x3]) (st := []) (la := [(0, .ref 2), (1, .int (bcV x3)), (2, .int x3)]) (dcd d_D_steps_1 15 rfl) cv_D_tell k_D_113 ⟨by decide, by decide⟩ ok_2 rfl (Nat.le_of_ble_eq_true rfl) (Nat.le_of_ble_eq_true rfl) rfl rfl sp_D_tell ?_
    rintro _ _ ⟨rfl, rfl⟩
    exact ws_iret (dcd d_D_steps_1 16 rfl) ⟨_, rfl, rfl⟩ h
  · have h := h.2 c1
    refine ws_aload_n 0 (dcd d_D_steps_0 19 rfl) rfl ?_
    refine ws_getF (a := 14) f_D_45 rfl (dcd d_D_steps_0 20 rfl) ok_2 of_7_7 rfl ?_
    refine ws_aload_n 0 (dcd d_D_steps_0 21 rfl) rfl ?_
    refine ws_getP (by decide) f_D_63 (dcd d_D_steps_0 22 rfl) (fun j2 => ?_)
    have h := h j2
    refine ws_iload_n 1 (dcd d_D_steps_0 23 rfl) rfl ?_
    refine ws_aload_n 2 (dcd d_D_steps_0 24 rfl) rfl ?_
    refine ws_getI f_D_298 rfl (dcd d_D_steps_0 25 rfl) k2 ?_
    refine ws_aload_n 2 (dcd d_D_steps_0 26 rfl) rfl ?_
    refine ws_getI f_D_191 rfl (dcd d_D_steps_0 27 rfl) k2 ?_
    refine ws_iload 4 (dcd d_D_steps_0 28 rfl) rfl ?_
    refine ws_callVI (o := 14) (As := [.ref (mR u 2 10), .int x1, .int (mI u o2 0), .int (mI u o2 4), .int x4]) (st := []) (la := [(0, .ref 14), (1, .ref (mR u 2 10)), (2, .int x1), (3, .int (mI u o2 0)), (4, .int (mI u o2 4)), (5, .int x4)]) (dcd d_D_steps_0 29 rfl) cv_Di_fits k_D_301 ⟨by decide, by decide⟩ (os_7_7 ok_2) rfl (Nat.le_of_ble_eq_true rfl) (Nat.le_of_ble_eq_true rfl) rfl rfl h (fun a3 u3 h => ?_)
    refine ws_if_eq (tgt := 70) (dcd d_D_steps_1 0 rfl) (by decide) (fun c4 => ?_) (fun c4 => ?_)
    · have h := h.1 c4
      refine ws_iinc (v := 1) (l' := [(4, .int (x4 + 1)), (0, .ref 2), (1, .int x1), (2, .ref o2), (3, .int x3)]) 4 (dcd d_D_steps_1 9 rfl) rfl (by decide) (by decide) rfl ?_
      refine ws_goto (tgt := 28) (dcd d_D_steps_1 10 rfl) (by decide) ?_
      exact ws_loc [1, 2, 3, 4, 0] rfl h
    · have h := h.2 c4
      refine ws_iload_n 3 (dcd d_D_steps_1 1 rfl) rfl ?_
      refine ws_iconst (v := 1) (dcd d_D_steps_1 2 rfl) (by decide) ?_
      refine ws_iload 4 (dcd d_D_steps_1 3 rfl) rfl ?_
      refine ws_bipush (v := 9) (dcd d_D_steps_1 4 rfl) (by decide) ?_
      refine ws_iadd (dcd d_D_steps_1 5 rfl) ?_
      refine ws_ishl (dcd d_D_steps_1 6 rfl) ?_
      refine ws_ior (dcd d_D_steps_1 7 rfl) ?_
      refine ws_istore_n (l' := [(3, .int (x3 ||| (1 <<< ((x4 + 9) &&& 31)))), (0, .ref 2), (1, .int x1), (2, .ref o2), (4, .int x4)]) (dcd d_D_steps_1 8 rfl) (by decide) rfl ?_
      refine ws_iinc (v := 1) (l' := [(4, .int (x4 + 1)), (3, .int (x3 ||| (1 <<< ((x4 + 9) &&& 31)))), (0, .ref 2), (1, .int x1), (2, .ref o2)]) 4 (dcd d_D_steps_1 9 rfl) rfl (by decide) (by decide) rfl ?_
      refine ws_goto (tgt := 28) (dcd d_D_steps_1 10 rfl) (by decide) ?_
      exact ws_loc [2, 3, 4, 1, 0] rfl h
theorem sg_Di_fits_0 {o1 : Nat} {x2 : Int32} {x3 : Int32} {x4 : Int32} {x5 : Int32} (k1 : okS o1 2) (h : Ws G Di_fits 13 [(0, .ref 14), (1, .ref o1), (2, .int x2), (3, .int x3), (4, .int x4), (5, .int x5), (6, .int (mI u (shO u o1 x2) 1)), (7, .int 0)] [] u Q) : Ws G Di_fits 0 [(0, .ref 14), (1, .ref o1), (2, .int x2), (3, .int x3), (4, .int x4), (5, .int x5)] [] u Q := by
  refine ws_aload_n 1 (dcd d_Di_fits_0 0 rfl) rfl ?_
  refine ws_iload_n 2 (dcd d_Di_fits_0 1 rfl) rfl ?_
  refine ws_callVR (o := o1) (As := [.int x2]) (st := []) (la := [(0, .ref o1), (1, .int x2)]) (dcd d_Di_fits_0 2 rfl) cv_Pl_shopOf k_Di_25 ⟨by decide, by decide⟩ k1 rfl (Nat.le_of_ble_eq_true rfl) (Nat.le_of_ble_eq_true rfl) rfl rfl (sp_Pl_shopOf k1) ?_
  rintro _ _ ⟨rfl, rfl⟩
  refine ws_getI f_Di_31 rfl (dcd d_Di_fits_0 3 rfl) (shO_ok k1) ?_
  refine ws_istore (l' := [(6, .int (mI u (shO u o1 x2) 1)), (0, .ref 14), (1, .ref o1), (2, .int x2), (3, .int x3), (4, .int x4), (5, .int x5)]) (dcd d_Di_fits_0 4 rfl) (by decide) rfl ?_
  refine ws_iconst (v := 0) (dcd d_Di_fits_0 5 rfl) (by decide) ?_
  refine ws_istore (l' := [(7, .int 0), (6, .int (mI u (shO u o1 x2) 1)), (0, .ref 14), (1, .ref o1), (2, .int x2), (3, .int x3), (4, .int x4), (5, .int x5)]) (dcd d_Di_fits_0 6 rfl) (by decide) rfl ?_
  exact ws_loc [2, 3, 4, 5, 6, 7, 1, 0] rfl h
theorem sg_Di_fits_13 {o1 : Nat} {x2 : Int32} {x3 : Int32} {x4 : Int32} {x5 : Int32} {x6 : Int32} {x7 : Int32} (k1 : okS o1 2) (h : (((mI u 14 0) ≤ x7 → Q (some (.int 1)) u) ∧ (¬ ((mI u 14 0) ≤ x7) → ((12 ≤ x7 → Q (some (.int 1)) u) ∧ (¬ (12 ≤ x7) → (vp_in x7 12 ∧ ((¬ (mI u 16 (x7 : Int32).toNatClampNeg) = x2 → Ws G Di_fits 13 [(0, .ref 14), (1, .ref o1), (2, .int x2), (3, .int x3), (4, .int x4), (5, .int x5), (6, .int x6), (7, .int (x7 + 1))] [] u Q) ∧ ((mI u 16 (x7 : Int32).toNatClampNeg) = x2 → (vp_in x7 12 ∧ Ws G Sh_wayOf 0 [(0, .int x3), (1, .int x4), (2, .int x5), (3, .int 0), (4, .int (mI u 15 (x7 : Int32).toNatClampNeg))] [] u (RJ fun a6 u6 => (vp_in x7 12 ∧ (((wrV (mI u6 o1 0) ((x6 : Int32).toInt64 + a6)) = (mI u6 17 (x7 : Int32).toNatClampNeg) → Ws G Di_fits 13 [(0, .ref 14), (1, .ref o1), (2, .int x2), (3, .int x3), (4, .int x4), (5, .int x5), (6, .int x6), (7, .int (x7 + 1))] [] u6 Q) ∧ (¬ (wrV (mI u6 o1 0) ((x6 : Int32).toInt64 + a6)) = (mI u6 17 (x7 : Int32).toNatClampNeg) → Q (some (.int 0)) u6))))))))))))) : Ws G Di_fits 13 [(0, .ref 14), (1, .ref o1), (2, .int x2), (3, .int x3), (4, .int x4), (5, .int x5), (6, .int x6), (7, .int x7)] [] u Q := by
  refine ws_iload 7 (dcd d_Di_fits_0 7 rfl) rfl ?_
  refine ws_aload_n 0 (dcd d_Di_fits_0 8 rfl) rfl ?_
  refine ws_getI f_Di_9 rfl (dcd d_Di_fits_0 9 rfl) ok_14 ?_
  refine ws_icmp_ge (tgt := 82) (dcd d_Di_fits_0 10 rfl) (by decide) (fun c1 => ?_) (fun c1 => ?_)
  · have h := h.1 c1
    refine ws_iconst (v := 1) (dcd d_Di_fits_1 13 rfl) (by decide) ?_
    exact ws_iret (dcd d_Di_fits_1 14 rfl) ⟨_, rfl, by decide⟩ h
  · have h := h.2 c1
    refine ws_iload 7 (dcd d_Di_fits_0 11 rfl) rfl ?_
    refine ws_bipush (v := 12) (dcd d_Di_fits_0 12 rfl) (by decide) ?_
    refine ws_icmp_ge (tgt := 82) (dcd d_Di_fits_0 13 rfl) (by decide) (fun c2 => ?_) (fun c2 => ?_)
    · have h := h.1 c2
      refine ws_iconst (v := 1) (dcd d_Di_fits_1 13 rfl) (by decide) ?_
      exact ws_iret (dcd d_Di_fits_1 14 rfl) ⟨_, rfl, by decide⟩ h
    · have h := h.2 c2
      refine ws_aload_n 0 (dcd d_Di_fits_0 14 rfl) rfl ?_
      refine ws_getF (a := 16) f_Di_19 rfl (dcd d_Di_fits_0 15 rfl) ok_14 of_0_2 rfl ?_
      refine ws_iload 7 (dcd d_Di_fits_0 16 rfl) rfl ?_
      obtain ⟨e3, h⟩ := h
      refine ws_iald (L := 12) (dcd d_Di_fits_0 17 rfl) (os_0_2 ok_14) (ol_0_2 ok_14) e3 ?_
      refine ws_iload_n 2 (dcd d_Di_fits_0 18 rfl) rfl ?_
      refine ws_icmp_ne (tgt := 76) (dcd d_Di_fits_0 19 rfl) (by decide) (fun c4 => ?_) (fun c4 => ?_)
      · have h := h.1 c4
        refine ws_iinc (v := 1) (l' := [(7, .int (x7 + 1)), (0, .ref 14), (1, .ref o1), (2, .int x2), (3, .int x3), (4, .int x4), (5, .int x5), (6, .int x6)]) 7 (dcd d_Di_fits_1 11 rfl) rfl (by decide) (by decide) rfl ?_
        refine ws_goto (tgt := 13) (dcd d_Di_fits_1 12 rfl) (by decide) ?_
        exact ws_loc [1, 2, 3, 4, 5, 6, 7, 0] rfl h
      · have h := h.2 c4
        refine ws_aload_n 1 (dcd d_Di_fits_0 20 rfl) rfl ?_
        refine ws_iload 6 (dcd d_Di_fits_0 21 rfl) rfl ?_
        refine ws_i2l (dcd d_Di_fits_0 22 rfl) ?_
        refine ws_iload_n 3 (dcd d_Di_fits_0 23 rfl) rfl ?_
        refine ws_iload 4 (dcd d_Di_fits_0 24 rfl) rfl ?_
        refine ws_iload 5 (dcd d_Di_fits_0 25 rfl) rfl ?_
        refine ws_iconst (v := 0) (dcd d_Di_fits_0 26 rfl) (by decide) ?_
        refine ws_aload_n 0 (dcd d_Di_fits_0 27 rfl) rfl ?_
        refine ws_getF (a := 15) f_Di_15 rfl (dcd d_Di_fits_0 28 rfl) ok_14 of_0_1 rfl ?_
        refine ws_iload 7 (dcd d_Di_fits_0 29 rfl) rfl ?_
        obtain ⟨e5, h⟩ := h
        refine ws_iald (L := 12) (dcd d_Di_fits_1 0 rfl) (os_0_1 ok_14) (ol_0_1 ok_14) e5 ?_
        refine ws_callSJ (As := [.int x3, .int x4, .int x5, .int 0, .int (mI u 15 (x7 : Int32).toNatClampNeg)]) (st := [.long (x6 : Int32).toInt64, .ref o1]) (la := [(0, .int x3), (1, .int x4), (2, .int x5), (3, .int 0), (4, .int (mI u 15 (x7 : Int32).toNatClampNeg))]) (dcd d_Di_fits_1 1 rfl) cs_Sh_wayOf k_Di_36 ⟨by decide, by decide⟩ rfl (Nat.le_of_ble_eq_true rfl) (Nat.le_of_ble_eq_true rfl) rfl rfl h (fun a6 u6 h => ?_)
        refine ws_ladd (dcd d_Di_fits_1 2 rfl) ?_
        refine ws_callVI (o := o1) (As := [.long ((x6 : Int32).toInt64 + a6)]) (st := []) (la := [(0, .ref o1), (1, .long ((x6 : Int32).toInt64 + a6))]) (dcd d_Di_fits_1 3 rfl) cv_Pl_wrapped k_Di_40 ⟨by decide, by decide⟩ k1 rfl (Nat.le_of_ble_eq_true rfl) (Nat.le_of_ble_eq_true rfl) rfl rfl (sp_Pl_wrapped k1) ?_
        rintro _ _ ⟨rfl, rfl⟩
        refine ws_aload_n 0 (dcd d_Di_fits_1 4 rfl) rfl ?_
        refine ws_getF (a := 17) f_Di_22 rfl (dcd d_Di_fits_1 5 rfl) ok_14 of_0_3 rfl ?_
        refine ws_iload 7 (dcd d_Di_fits_1 6 rfl) rfl ?_
        obtain ⟨e7, h⟩ := h
        refine ws_iald (L := 12) (dcd d_Di_fits_1 7 rfl) (os_0_3 ok_14) (ol_0_3 ok_14) e7 ?_
        refine ws_icmp_eq (tgt := 76) (dcd d_Di_fits_1 8 rfl) (by decide) (fun c8 => ?_) (fun c8 => ?_)
        · have h := h.1 c8
          refine ws_iinc (v := 1) (l' := [(7, .int (x7 + 1)), (0, .ref 14), (1, .ref o1), (2, .int x2), (3, .int x3), (4, .int x4), (5, .int x5), (6, .int x6)]) 7 (dcd d_Di_fits_1 11 rfl) rfl (by decide) (by decide) rfl ?_
          refine ws_goto (tgt := 13) (dcd d_Di_fits_1 12 rfl) (by decide) ?_
          exact ws_loc [1, 2, 3, 4, 5, 6, 7, 0] rfl h
        · have h := h.2 c8
          refine ws_iconst (v := 0) (dcd d_Di_fits_1 9 rfl) (by decide) ?_
          exact ws_iret (dcd d_Di_fits_1 10 rfl) ⟨_, rfl, by decide⟩ h
theorem sg_D_kinds_0 {x1 : Int32}  (h : (pl (mR u 2 10) → (((plS u (mR u 2 10) x1) → (pl (mR u 2 10) → (pl (mR u 2 10) → Ws G Di_fits 0 [(0, .ref 14), (1, .ref (mR u 2 10)), (2, .int x1), (3, .int 0), (4, .int 0), (5, .int (mI u (shO u (mR u 2 10) x1) 2))] [] u (RI fun a6 u6 => ((a6 = 0 → ((a6 = 0 → Ws G D_kinds 67 [(0, .ref 2), (1, .int x1), (2, .int (mI u (shO u (mR u 2 10) x1) 2)), (4, .int (-9)), (5, .int 0), (6, .int 3)] [] u6 Q) ∧ (¬ a6 = 0 → Ws G D_kinds 67 [(0, .ref 2), (1, .int x1), (2, .int (mI u (shO u (mR u 2 10) x1) 2)), (4, .int (-9)), (5, .int 1), (6, .int 3)] [] u6 Q))) ∧ (¬ a6 = 0 → ((a6 = 0 → Ws G D_kinds 67 [(0, .ref 2), (1, .int x1), (2, .int (mI u (shO u (mR u 2 10) x1) 2)), (4, .int 0), (5, .int 0), (6, .int 3)] [] u6 Q) ∧ (¬ a6 = 0 → Ws G D_kinds 67 [(0, .ref 2), (1, .int x1), (2, .int (mI u (shO u (mR u 2 10) x1) 2)), (4, .int 0), (5, .int 1), (6, .int 3)] [] u6 Q)))))))) ∧ (¬ (plS u (mR u 2 10) x1) → Q (some (.int (-1))) u)))) : Ws G D_kinds 0 [(0, .ref 2), (1, .int x1)] [] u Q := by
  refine ws_aload_n 0 (dcd d_D_kinds_0 0 rfl) rfl ?_
  refine ws_getP (by decide) f_D_63 (dcd d_D_kinds_0 1 rfl) (fun j1 => ?_)
  have h := h j1
  refine ws_iload_n 1 (dcd d_D_kinds_0 2 rfl) rfl ?_
  refine ws_callVI (o := (mR u 2 10)) (As := [.int x1]) (st := []) (la := [(0, .ref (mR u 2 10)), (1, .int x1)]) (dcd d_D_kinds_0 3 rfl) cv_Pl_hasShop k_D_164 ⟨by decide, by decide⟩ (pl_ok j1) rfl (Nat.le_of_ble_eq_true rfl) (Nat.le_of_ble_eq_true rfl) rfl rfl (sp_Pl_hasShop (pl_ok j1)) ?_
  rintro _ _ ⟨rfl, ⟨rfl, c2⟩ | ⟨rfl, c2⟩⟩
  · have h := h.1 c2
    refine ws_if_ne (tgt := 13) (dcd d_D_kinds_0 4 rfl) (by decide) (fun _ => ?_) (fun c => absurd c (by decide))
    refine ws_aload_n 0 (dcd d_D_kinds_0 7 rfl) rfl ?_
    refine ws_getP (by decide) f_D_63 (dcd d_D_kinds_0 8 rfl) (fun j4 => ?_)
    have h := h j4
    refine ws_iload_n 1 (dcd d_D_kinds_0 9 rfl) rfl ?_
    refine ws_callVR (o := (mR u 2 10)) (As := [.int x1]) (st := []) (la := [(0, .ref (mR u 2 10)), (1, .int x1)]) (dcd d_D_kinds_0 10 rfl) cv_Pl_shopOf k_D_170 ⟨by decide, by decide⟩ (pl_ok j4) rfl (Nat.le_of_ble_eq_true rfl) (Nat.le_of_ble_eq_true rfl) rfl rfl (sp_Pl_shopOf (pl_ok j4)) ?_
    rintro _ _ ⟨rfl, rfl⟩
    refine ws_getI f_D_246 rfl (dcd d_D_kinds_0 11 rfl) (shO_ok (pl_ok j4)) ?_
    refine ws_istore_n (l' := [(2, .int (mI u (shO u (mR u 2 10) x1) 2)), (0, .ref 2), (1, .int x1)]) (dcd d_D_kinds_0 12 rfl) (by decide) rfl ?_
    refine ws_aload_n 1 (dcd d_D_kinds_0 13 rfl) rfl ?_
    refine ws_getF (a := 14) f_D_45 rfl (dcd d_D_kinds_0 14 rfl) ok_2 of_7_7 rfl ?_
    refine ws_aload_n 1 (dcd d_D_kinds_0 15 rfl) rfl ?_
    refine ws_getP (by decide) f_D_63 (dcd d_D_kinds_0 16 rfl) (fun j5 => ?_)
    have h := h j5
    refine ws_iload_n 2 (dcd d_D_kinds_0 17 rfl) rfl ?_
    refine ws_iconst (v := 0) (dcd d_D_kinds_0 18 rfl) (by decide) ?_
    refine ws_iconst (v := 0) (dcd d_D_kinds_0 19 rfl) (by decide) ?_
    refine ws_iload_n 0 (dcd d_D_kinds_0 20 rfl) rfl ?_
    refine ws_callVI (o := 14) (As := [.ref (mR u 2 10), .int x1, .int 0, .int 0, .int (mI u (shO u (mR u 2 10) x1) 2)]) (st := []) (la := [(0, .ref 14), (1, .ref (mR u 2 10)), (2, .int x1), (3, .int 0), (4, .int 0), (5, .int (mI u (shO u (mR u 2 10) x1) 2))]) (dcd d_D_kinds_0 21 rfl) cv_Di_fits k_D_301 ⟨by decide, by decide⟩ (os_7_7 ok_2) rfl (Nat.le_of_ble_eq_true rfl) (Nat.le_of_ble_eq_true rfl) rfl rfl h (fun a6 u6 h => ?_)
    refine ws_istore_n (l' := [(3, .int a6), (2, .int (mI u (shO u (mR u 2 10) x1) 2)), (0, .ref 2), (1, .int x1)]) (dcd d_D_kinds_0 22 rfl) (by decide) rfl ?_
    refine ws_iload_n 0 (dcd d_D_kinds_0 23 rfl) rfl ?_
    refine ws_if_eq (tgt := 49) (dcd d_D_kinds_0 24 rfl) (by decide) (fun c7 => ?_) (fun c7 => ?_)
    · have h := h.1 c7
      refine ws_bipush (v := (-9)) (dcd d_D_kinds_0 27 rfl) (by decide) ?_
      refine ws_istore (l' := [(4, .int (-9)), (3, .int a6), (2, .int (mI u (shO u (mR u 2 10) x1) 2)), (0, .ref 2), (1, .int x1)]) (dcd d_D_kinds_0 28 rfl) (by decide) rfl ?_
      refine ws_iload_n 1 (dcd d_D_kinds_0 29 rfl) rfl ?_
      refine ws_if_eq (tgt := 61) (dcd d_D_kinds_1 0 rfl) (by decide) (fun c8 => ?_) (fun c8 => ?_)
      · have h := h.1 c8
        refine ws_iconst (v := 0) (dcd d_D_kinds_1 3 rfl) (by decide) ?_
        refine ws_istore (l' := [(5, .int 0), (4, .int (-9)), (3, .int a6), (2, .int (mI u (shO u (mR u 2 10) x1) 2)), (0, .ref 2), (1, .int x1)]) (dcd d_D_kinds_1 4 rfl) (by decide) rfl ?_
        refine ws_iconst (v := 3) (dcd d_D_kinds_1 5 rfl) (by decide) ?_
        refine ws_istore (l' := [(6, .int 3), (5, .int 0), (4, .int (-9)), (3, .int a6), (2, .int (mI u (shO u (mR u 2 10) x1) 2)), (0, .ref 2), (1, .int x1)]) (dcd d_D_kinds_1 6 rfl) (by decide) rfl ?_
        exact ws_loc [5, 6, 4, 2, 1, 0] rfl h
      · have h := h.2 c8
        refine ws_iconst (v := 1) (dcd d_D_kinds_1 1 rfl) (by decide) ?_
        refine ws_goto (tgt := 62) (dcd d_D_kinds_1 2 rfl) (by decide) ?_
        refine ws_istore (l' := [(5, .int 1), (4, .int (-9)), (3, .int a6), (2, .int (mI u (shO u (mR u 2 10) x1) 2)), (0, .ref 2), (1, .int x1)]) (dcd d_D_kinds_1 4 rfl) (by decide) rfl ?_
        refine ws_iconst (v := 3) (dcd d_D_kinds_1 5 rfl) (by decide) ?_
        refine ws_istore (l' := [(6, .int 3), (5, .int 1), (4, .int (-9)), (3, .int a6), (2, .int (mI u (shO u (mR u 2 10) x1) 2)), (0, .ref 2), (1, .int x1)]) (dcd d_D_kinds_1 6 rfl) (by decide) rfl ?_
        exact ws_loc [5, 6, 4, 2, 1, 0] rfl h
    · have h := h.2 c7
      refine ws_iconst (v := 0) (dcd d_D_kinds_0 25 rfl) (by decide) ?_
      refine ws_goto (tgt := 51) (dcd d_D_kinds_0 26 rfl) (by decide) ?_
      refine ws_istore (l' := [(4, .int 0), (3, .int a6), (2, .int (mI u (shO u (mR u 2 10) x1) 2)), (0, .ref 2), (1, .int x1)]) (dcd d_D_kinds_0 28 rfl) (by decide) rfl ?_
      refine ws_iload_n 1 (dcd d_D_kinds_0 29 rfl) rfl ?_
      refine ws_if_eq (tgt := 61) (dcd d_D_kinds_1 0 rfl) (by decide) (fun c9 => ?_) (fun c9 => ?_)
      · have h := h.1 c9
        refine ws_iconst (v := 0) (dcd d_D_kinds_1 3 rfl) (by decide) ?_
        refine ws_istore (l' := [(5, .int 0), (4, .int 0), (3, .int a6), (2, .int (mI u (shO u (mR u 2 10) x1) 2)), (0, .ref 2), (1, .int x1)]) (dcd d_D_kinds_1 4 rfl) (by decide) rfl ?_
        refine ws_iconst (v := 3) (dcd d_D_kinds_1 5 rfl) (by decide) ?_
        refine ws_istore (l' := [(6, .int 3), (5, .int 0), (4, .int 0), (3, .int a6), (2, .int (mI u (shO u (mR u 2 10) x1) 2)), (0, .ref 2), (1, .int x1)]) (dcd d_D_kinds_1 6 rfl) (by decide) rfl ?_
        exact ws_loc [5, 6, 4, 2, 1, 0] rfl h
      · have h := h.2 c9
        refine ws_iconst (v := 1) (dcd d_D_kinds_1 1 rfl) (by decide) ?_
        refine ws_goto (tgt := 62) (dcd d_D_kinds_1 2 rfl) (by decide) ?_
        refine ws_istore (l' := [(5, .int 1), (4, .int 0), (3, .int a6), (2, .int (mI u (shO u (mR u 2 10) x1) 2)), (0, .ref 2), (1, .int x1)]) (dcd d_D_kinds_1 4 rfl) (by decide) rfl ?_
        refine ws_iconst (v := 3) (dcd d_D_kinds_1 5 rfl) (by decide) ?_
        refine ws_istore (l' := [(6, .int 3), (5, .int 1), (4, .int 0), (3, .int a6), (2, .int (mI u (shO u (mR u 2 10) x1) 2)), (0, .ref 2), (1, .int x1)]) (dcd d_D_kinds_1 6 rfl) (by decide) rfl ?_
        exact ws_loc [5, 6, 4, 2, 1, 0] rfl h
  · have h := h.2 c2
    refine ws_if_ne (tgt := 13) (dcd d_D_kinds_0 4 rfl) (by decide) (fun c => absurd (show (0 : Int32) = 0 from by decide) c) (fun _ => ?_)
    refine ws_iconst (v := (-1)) (dcd d_D_kinds_0 5 rfl) (by decide) ?_
    exact ws_iret (dcd d_D_kinds_0 6 rfl) ⟨_, rfl, rfl⟩ h
theorem sg_D_kinds_67 {x1 : Int32} {x2 : Int32} {x4 : Int32} {x5 : Int32} {x6 : Int32}  (h : ((5 < x6 → ((¬ x5 = 0 → Q (some (.int x4)) (pI u 2 12 x5)) ∧ (x5 = 0 → Q (some (.int (-9))) u))) ∧ (¬ (5 < x6) → Ws G D_kinds 76 [(0, .ref 2), (1, .int x1), (2, .int x2), (4, .int x4), (5, .int x5), (6, .int x6), (7, .int 2)] [] u Q))) : Ws G D_kinds 67 [(0, .ref 2), (1, .int x1), (2, .int x2), (4, .int x4), (5, .int x5), (6, .int x6)] [] u Q := by
  refine ws_iload 5 (dcd d_D_kinds_1 7 rfl) rfl ?_
  refine ws_iconst (v := 5) (dcd d_D_kinds_1 8 rfl) (by decide) ?_
  refine ws_icmp_gt (tgt := 138) (dcd d_D_kinds_1 9 rfl) (by decide) (fun c1 => ?_) (fun c1 => ?_)
  · have h := h.1 c1
    refine ws_iload 4 (dcd d_D_kinds_2 10 rfl) rfl ?_
    refine ws_if_ne (tgt := 148) (dcd d_D_kinds_2 11 rfl) (by decide) (fun c2 => ?_) (fun c2 => ?_)
    · have h := h.1 c2
      refine ws_aload_n 0 (dcd d_D_kinds_2 14 rfl) rfl ?_
      refine ws_iload 4 (dcd d_D_kinds_2 15 rfl) rfl ?_
      refine ws_iload 3 (dcd d_D_kinds_2 16 rfl) rfl ?_
      refine ws_callVI (o := 2) (As := [.int x5, .int x4]) (st := []) (la := [(0, .ref 2), (1, .int x5), (2, .int x4)]) (dcd d_D_kinds_2 17 rfl) cv_D_tell k_D_113 ⟨by decide, by decide⟩ ok_2 rfl (Nat.le_of_ble_eq_true rfl) (Nat.le_of_ble_eq_true rfl) rfl rfl sp_D_tell ?_
      rintro _ _ ⟨rfl, rfl⟩
      exact ws_iret (dcd d_D_kinds_2 18 rfl) ⟨_, rfl, rfl⟩ h
    · have h := h.2 c2
      refine ws_bipush (v := (-9)) (dcd d_D_kinds_2 12 rfl) (by decide) ?_
      refine ws_goto (tgt := 156) (dcd d_D_kinds_2 13 rfl) (by decide) ?_
      exact ws_iret (dcd d_D_kinds_2 18 rfl) ⟨_, rfl, rfl⟩ h
  · have h := h.2 c1
    refine ws_iconst (v := 2) (dcd d_D_kinds_1 10 rfl) (by decide) ?_
    refine ws_istore (l' := [(7, .int 2), (0, .ref 2), (1, .int x1), (2, .int x2), (4, .int x4), (5, .int x5), (6, .int x6)]) (dcd d_D_kinds_1 11 rfl) (by decide) rfl ?_
    exact ws_loc [1, 2, 3, 4, 5, 6, 0] rfl h
theorem sg_D_kinds_76 {x1 : Int32} {x2 : Int32} {x4 : Int32} {x5 : Int32} {x6 : Int32} {x7 : Int32}  (h : ((9 < x7 → Ws G D_kinds 67 [(0, .ref 2), (1, .int x1), (2, .int x2), (4, .int x4), (5, .int x5), (6, .int (x6 + 1))] [] u Q) ∧ (¬ (9 < x7) → (pl (mR u 2 10) → Ws G Di_fits 0 [(0, .ref 14), (1, .ref (mR u 2 10)), (2, .int x1), (3, .int x6), (4, .int x7), (5, .int x2)] [] u (RI fun a3 u3 => ((a3 = 0 → Ws G D_kinds 76 [(0, .ref 2), (1, .int x1), (2, .int x2), (4, .int x4), (5, .int x5), (6, .int x6), (7, .int (x7 + 1))] [] u3 Q) ∧ (¬ a3 = 0 → ((¬ x5 = 0 → Ws G D_kinds 76 [(0, .ref 2), (1, .int x1), (2, .int x2), (4, .int x4), (5, .int (x5 + 1)), (6, .int x6), (7, .int (x7 + 1))] [] u3 Q) ∧ (x5 = 0 → Ws G D_kinds 76 [(0, .ref 2), (1, .int x1), (2, .int x2), (4, .int ((10 * x6) + x7)), (5, .int (x5 + 1)), (6, .int x6), (7, .int (x7 + 1))] [] u3 Q))))))))) : Ws G D_kinds 76 [(0, .ref 2), (1, .int x1), (2, .int x2), (4, .int x4), (5, .int x5), (6, .int x6), (7, .int x7)] [] u Q := by
  refine ws_iload 6 (dcd d_D_kinds_1 12 rfl) rfl ?_
  refine ws_bipush (v := 9) (dcd d_D_kinds_1 13 rfl) (by decide) ?_
  refine ws_icmp_gt (tgt := 132) (dcd d_D_kinds_1 14 rfl) (by decide) (fun c1 => ?_) (fun c1 => ?_)
  · have h := h.1 c1
    refine ws_iinc (v := 1) (l' := [(6, .int (x6 + 1)), (0, .ref 2), (1, .int x1), (2, .int x2), (4, .int x4), (5, .int x5), (7, .int x7)]) 5 (dcd d_D_kinds_2 8 rfl) rfl (by decide) (by decide) rfl ?_
    refine ws_goto (tgt := 67) (dcd d_D_kinds_2 9 rfl) (by decide) ?_
    exact ws_loc [1, 2, 3, 4, 5, 0] rfl h
  · have h := h.2 c1
    refine ws_aload_n 0 (dcd d_D_kinds_1 15 rfl) rfl ?_
    refine ws_getF (a := 14) f_D_45 rfl (dcd d_D_kinds_1 16 rfl) ok_2 of_7_7 rfl ?_
    refine ws_aload_n 0 (dcd d_D_kinds_1 17 rfl) rfl ?_
    refine ws_getP (by decide) f_D_63 (dcd d_D_kinds_1 18 rfl) (fun j2 => ?_)
    have h := h j2
    refine ws_iload_n 1 (dcd d_D_kinds_1 19 rfl) rfl ?_
    refine ws_iload 5 (dcd d_D_kinds_1 20 rfl) rfl ?_
    refine ws_iload 6 (dcd d_D_kinds_1 21 rfl) rfl ?_
    refine ws_iload_n 2 (dcd d_D_kinds_1 22 rfl) rfl ?_
    refine ws_callVI (o := 14) (As := [.ref (mR u 2 10), .int x1, .int x6, .int x7, .int x2]) (st := []) (la := [(0, .ref 14), (1, .ref (mR u 2 10)), (2, .int x1), (3, .int x6), (4, .int x7), (5, .int x2)]) (dcd d_D_kinds_1 23 rfl) cv_Di_fits k_D_301 ⟨by decide, by decide⟩ (os_7_7 ok_2) rfl (Nat.le_of_ble_eq_true rfl) (Nat.le_of_ble_eq_true rfl) rfl rfl h (fun a3 u3 h => ?_)
    refine ws_if_eq (tgt := 126) (dcd d_D_kinds_1 24 rfl) (by decide) (fun c4 => ?_) (fun c4 => ?_)
    · have h := h.1 c4
      refine ws_iinc (v := 1) (l' := [(7, .int (x7 + 1)), (0, .ref 2), (1, .int x1), (2, .int x2), (4, .int x4), (5, .int x5), (6, .int x6)]) 6 (dcd d_D_kinds_2 6 rfl) rfl (by decide) (by decide) rfl ?_
      refine ws_goto (tgt := 76) (dcd d_D_kinds_2 7 rfl) (by decide) ?_
      exact ws_loc [1, 2, 3, 4, 5, 6, 0] rfl h
    · have h := h.2 c4
      refine ws_iload 4 (dcd d_D_kinds_1 25 rfl) rfl ?_
      refine ws_if_ne (tgt := 119) (dcd d_D_kinds_1 26 rfl) (by decide) (fun c5 => ?_) (fun c5 => ?_)
      · have h := h.1 c5
        refine ws_iload 3 (dcd d_D_kinds_2 3 rfl) rfl ?_
        refine ws_istore (l' := [(4, .int x4), (0, .ref 2), (1, .int x1), (2, .int x2), (5, .int x5), (6, .int x6), (7, .int x7)]) (dcd d_D_kinds_2 4 rfl) (by decide) rfl ?_
        refine ws_iinc (v := 1) (l' := [(5, .int (x5 + 1)), (4, .int x4), (0, .ref 2), (1, .int x1), (2, .int x2), (6, .int x6), (7, .int x7)]) 4 (dcd d_D_kinds_2 5 rfl) rfl (by decide) (by decide) rfl ?_
        refine ws_iinc (v := 1) (l' := [(7, .int (x7 + 1)), (5, .int (x5 + 1)), (4, .int x4), (0, .ref 2), (1, .int x1), (2, .int x2), (6, .int x6)]) 6 (dcd d_D_kinds_2 6 rfl) rfl (by decide) (by decide) rfl ?_
        refine ws_goto (tgt := 76) (dcd d_D_kinds_2 7 rfl) (by decide) ?_
        exact ws_loc [3, 4, 5, 2, 1, 6, 0] rfl h
      · have h := h.2 c5
        refine ws_bipush (v := 10) (dcd d_D_kinds_1 27 rfl) (by decide) ?_
        refine ws_iload 5 (dcd d_D_kinds_1 28 rfl) rfl ?_
        refine ws_imul (dcd d_D_kinds_1 29 rfl) ?_
        refine ws_iload 6 (dcd d_D_kinds_2 0 rfl) rfl ?_
        refine ws_iadd (dcd d_D_kinds_2 1 rfl) ?_
        refine ws_goto (tgt := 121) (dcd d_D_kinds_2 2 rfl) (by decide) ?_
        refine ws_istore (l' := [(4, .int ((10 * x6) + x7)), (0, .ref 2), (1, .int x1), (2, .int x2), (5, .int x5), (6, .int x6), (7, .int x7)]) (dcd d_D_kinds_2 4 rfl) (by decide) rfl ?_
        refine ws_iinc (v := 1) (l' := [(5, .int (x5 + 1)), (4, .int ((10 * x6) + x7)), (0, .ref 2), (1, .int x1), (2, .int x2), (6, .int x6), (7, .int x7)]) 4 (dcd d_D_kinds_2 5 rfl) rfl (by decide) (by decide) rfl ?_
        refine ws_iinc (v := 1) (l' := [(7, .int (x7 + 1)), (5, .int (x5 + 1)), (4, .int ((10 * x6) + x7)), (0, .ref 2), (1, .int x1), (2, .int x2), (6, .int x6)]) 6 (dcd d_D_kinds_2 6 rfl) rfl (by decide) (by decide) rfl ?_
        refine ws_goto (tgt := 76) (dcd d_D_kinds_2 7 rfl) (by decide) ?_
        exact ws_loc [3, 4, 5, 2, 1, 6, 0] rfl h
theorem sg_D_rent_0 {x1 : Int32} {x2 : Int32} {x3 : Int32}  (h : (((0 ≤ x1 ∧ x1 < 6) → (pl (mR u 2 10) → (((plS u (mR u 2 10) x2) → (((1 ≤ x3 ∧ x3 ≤ 60) → Ws G D_passersFinding 0 [(0, .ref 2), (1, .ref (roV x1))] [] u (RI fun a8 u8 => ((a8 = 0 → Ws G D_rentOf 0 [(0, .ref 2), (1, .ref (roV x1)), (2, .int x2), (3, .int x3)] [] u8 (RI fun a10 u10 => Q (some (.int a10)) u10)) ∧ (¬ a8 = 0 → Q (some (.int (-3))) (dF u8 a8))))) ∧ (¬ (1 ≤ x3 ∧ x3 ≤ 60) → Q (some (.int (-1))) u))) ∧ (¬ (plS u (mR u 2 10) x2) → Q (some (.int (-1))) u)))) ∧ (¬ (0 ≤ x1 ∧ x1 < 6) → Q (some (.int (-1))) u))) : Ws G D_rent 0 [(0, .ref 2), (1, .int x1), (2, .int x2), (3, .int x3)] [] u Q := by
  refine ws_iload_n 1 (dcd d_D_rent_0 0 rfl) rfl ?_
  refine ws_callSI (As := [.int x1]) (st := []) (la := [(0, .int x1)]) (dcd d_D_rent_0 1 rfl) cs_D_isRow k_D_87 ⟨by decide, by decide⟩ rfl (Nat.le_of_ble_eq_true rfl) (Nat.le_of_ble_eq_true rfl) rfl rfl sp_D_isRow ?_
  rintro _ _ ⟨rfl, ⟨rfl, c1⟩ | ⟨rfl, c1⟩⟩
  · have h := h.1 c1
    refine ws_if_eq (tgt := 25) (dcd d_D_rent_0 2 rfl) (by decide) (fun c => absurd c (by decide)) (fun _ => ?_)
    refine ws_aload_n 0 (dcd d_D_rent_0 3 rfl) rfl ?_
    refine ws_getP (by decide) f_D_63 (dcd d_D_rent_0 4 rfl) (fun j3 => ?_)
    have h := h j3
    refine ws_iload_n 2 (dcd d_D_rent_0 5 rfl) rfl ?_
    refine ws_callVI (o := (mR u 2 10)) (As := [.int x2]) (st := []) (la := [(0, .ref (mR u 2 10)), (1, .int x2)]) (dcd d_D_rent_0 6 rfl) cv_Pl_hasShop k_D_164 ⟨by decide, by decide⟩ (pl_ok j3) rfl (Nat.le_of_ble_eq_true rfl) (Nat.le_of_ble_eq_true rfl) rfl rfl (sp_Pl_hasShop (pl_ok j3)) ?_
    rintro _ _ ⟨rfl, ⟨rfl, c4⟩ | ⟨rfl, c4⟩⟩
    · have h := h.1 c4
      refine ws_if_eq (tgt := 25) (dcd d_D_rent_0 7 rfl) (by decide) (fun c => absurd c (by decide)) (fun _ => ?_)
      refine ws_iload_n 3 (dcd d_D_rent_0 8 rfl) rfl ?_
      refine ws_callSI (As := [.int x3]) (st := []) (la := [(0, .int x3)]) (dcd d_D_rent_0 9 rfl) cs_D_isLook k_D_305 ⟨by decide, by decide⟩ rfl (Nat.le_of_ble_eq_true rfl) (Nat.le_of_ble_eq_true rfl) rfl rfl sp_D_isLook ?_
      rintro _ _ ⟨rfl, ⟨rfl, c6⟩ | ⟨rfl, c6⟩⟩
      · have h := h.1 c6
        refine ws_if_ne (tgt := 27) (dcd d_D_rent_0 10 rfl) (by decide) (fun _ => ?_) (fun c => absurd c (by decide))
        refine ws_aload_n 0 (dcd d_D_rent_0 13 rfl) rfl ?_
        refine ws_iload_n 1 (dcd d_D_rent_0 14 rfl) rfl ?_
        refine ws_callVR (o := 2) (As := [.int x1]) (st := []) (la := [(0, .ref 2), (1, .int x1)]) (dcd d_D_rent_0 15 rfl) cv_D_rowOf k_D_95 ⟨by decide, by decide⟩ ok_2 rfl (Nat.le_of_ble_eq_true rfl) (Nat.le_of_ble_eq_true rfl) rfl rfl sp_D_rowOf ?_
        rintro _ _ ⟨rfl, rfl⟩
        refine ws_astore (l' := [(4, .ref (roV x1)), (0, .ref 2), (1, .int x1), (2, .int x2), (3, .int x3)]) (dcd d_D_rent_0 16 rfl) (by decide) rfl ?_
        refine ws_aload_n 1 (dcd d_D_rent_0 17 rfl) rfl ?_
        refine ws_aload 0 (dcd d_D_rent_0 18 rfl) rfl ?_
        refine ws_callVI (o := 2) (As := [.ref (roV x1)]) (st := []) (la := [(0, .ref 2), (1, .ref (roV x1))]) (dcd d_D_rent_0 19 rfl) cv_D_passersFinding k_D_308 ⟨by decide, by decide⟩ ok_2 rfl (Nat.le_of_ble_eq_true rfl) (Nat.le_of_ble_eq_true rfl) rfl rfl h (fun a8 u8 h => ?_)
        refine ws_istore (l' := [(5, .int a8), (4, .ref (roV x1)), (0, .ref 2), (1, .int x1), (2, .int x2), (3, .int x3)]) (dcd d_D_rent_0 20 rfl) (by decide) rfl ?_
        refine ws_iload 0 (dcd d_D_rent_0 21 rfl) rfl ?_
        refine ws_if_eq (tgt := 56) (dcd d_D_rent_0 22 rfl) (by decide) (fun c9 => ?_) (fun c9 => ?_)
        · have h := h.1 c9
          refine ws_aload_n 2 (dcd d_D_rent_0 27 rfl) rfl ?_
          refine ws_aload 1 (dcd d_D_rent_0 28 rfl) rfl ?_
          refine ws_iload_n 4 (dcd d_D_rent_0 29 rfl) rfl ?_
          refine ws_iload_n 5 (dcd d_D_rent_1 0 rfl) rfl ?_
          refine ws_callVI (o := 2) (As := [.ref (roV x1), .int x2, .int x3]) (st := []) (la := [(0, .ref 2), (1, .ref (roV x1)), (2, .int x2), (3, .int x3)]) (dcd d_D_rent_1 1 rfl) cv_D_rentOf k_D_311 ⟨by decide, by decide⟩ ok_2 rfl (Nat.le_of_ble_eq_true rfl) (Nat.le_of_ble_eq_true rfl) rfl rfl h (fun a10 u10 h => ?_)
          exact ws_iret (dcd d_D_rent_1 2 rfl) ⟨_, rfl, rfl⟩ h
        · have h := h.2 c9
          refine ws_aload_n 2 (dcd d_D_rent_0 23 rfl) rfl ?_
          refine ws_iload 0 (dcd d_D_rent_0 24 rfl) rfl ?_
          refine ws_callVI (o := 2) (As := [.int a8]) (st := []) (la := [(0, .ref 2), (1, .int a8)]) (dcd d_D_rent_0 25 rfl) cv_D_found k_D_91 ⟨by decide, by decide⟩ ok_2 rfl (Nat.le_of_ble_eq_true rfl) (Nat.le_of_ble_eq_true rfl) rfl rfl sp_D_found ?_
          rintro _ _ ⟨rfl, rfl⟩
          refine ws_goto (tgt := 64) (dcd d_D_rent_0 26 rfl) (by decide) ?_
          exact ws_iret (dcd d_D_rent_1 2 rfl) ⟨_, rfl, rfl⟩ h
      · have h := h.2 c6
        refine ws_if_ne (tgt := 27) (dcd d_D_rent_0 10 rfl) (by decide) (fun c => absurd (show (0 : Int32) = 0 from by decide) c) (fun _ => ?_)
        refine ws_iconst (v := (-1)) (dcd d_D_rent_0 11 rfl) (by decide) ?_
        exact ws_iret (dcd d_D_rent_0 12 rfl) ⟨_, rfl, rfl⟩ h
    · have h := h.2 c4
      refine ws_if_eq (tgt := 25) (dcd d_D_rent_0 7 rfl) (by decide) (fun _ => ?_) (fun c => absurd (show (0 : Int32) = 0 from by decide) c)
      refine ws_iconst (v := (-1)) (dcd d_D_rent_0 11 rfl) (by decide) ?_
      exact ws_iret (dcd d_D_rent_0 12 rfl) ⟨_, rfl, rfl⟩ h
  · have h := h.2 c1
    refine ws_if_eq (tgt := 25) (dcd d_D_rent_0 2 rfl) (by decide) (fun _ => ?_) (fun c => absurd (show (0 : Int32) = 0 from by decide) c)
    refine ws_iconst (v := (-1)) (dcd d_D_rent_0 11 rfl) (by decide) ?_
    exact ws_iret (dcd d_D_rent_0 12 rfl) ⟨_, rfl, rfl⟩ h
theorem sg_D_passersFinding_0 {o1 : Nat} (k1 : okS o1 6) (h : (((0 ≤ (mI u o1 1)) → (pl (mR u 2 10) → (((mI u o1 1) = (mI u (mR u 2 10) 0) → Ws G D_passersFinding 27 [(1, .ref o1), (2, .int 0)] [] u Q) ∧ (¬ (mI u o1 1) = (mI u (mR u 2 10) 0) → Q (some (.int 5)) u)))) ∧ (¬ (0 ≤ (mI u o1 1)) → Q (some (.int 1)) u))) : Ws G D_passersFinding 0 [(0, .ref 2), (1, .ref o1)] [] u Q := by
  refine ws_aload_n 1 (dcd d_D_passersFinding_0 0 rfl) rfl ?_
  refine ws_callVI (o := o1) (As := []) (st := []) (la := [(0, .ref o1)]) (dcd d_D_passersFinding_0 1 rfl) cv_Sp_isThere k_D_117 ⟨by decide, by decide⟩ k1 rfl (Nat.le_of_ble_eq_true rfl) (Nat.le_of_ble_eq_true rfl) rfl rfl (sp_Sp_isThere k1) ?_
  rintro _ _ ⟨rfl, ⟨rfl, c1⟩ | ⟨rfl, c1⟩⟩
  · have h := h.1 c1
    refine ws_if_ne (tgt := 9) (dcd d_D_passersFinding_0 2 rfl) (by decide) (fun _ => ?_) (fun c => absurd c (by decide))
    refine ws_aload_n 1 (dcd d_D_passersFinding_0 5 rfl) rfl ?_
    refine ws_getI f_D_121 rfl (dcd d_D_passersFinding_0 6 rfl) k1 ?_
    refine ws_aload_n 0 (dcd d_D_passersFinding_0 7 rfl) rfl ?_
    refine ws_getP (by decide) f_D_63 (dcd d_D_passersFinding_0 8 rfl) (fun j3 => ?_)
    have h := h j3
    refine ws_getI f_D_252 rfl (dcd d_D_passersFinding_0 9 rfl) (pl_ok j3) ?_
    refine ws_icmp_eq (tgt := 25) (dcd d_D_passersFinding_0 10 rfl) (by decide) (fun c4 => ?_) (fun c4 => ?_)
    · have h := h.1 c4
      refine ws_iconst (v := 0) (dcd d_D_passersFinding_0 13 rfl) (by decide) ?_
      refine ws_istore_n (l' := [(2, .int 0), (0, .ref 2), (1, .ref o1)]) (dcd d_D_passersFinding_0 14 rfl) (by decide) rfl ?_
      exact ws_loc [2, 0] rfl h
    · have h := h.2 c4
      refine ws_iconst (v := 5) (dcd d_D_passersFinding_0 11 rfl) (by decide) ?_
      exact ws_iret (dcd d_D_passersFinding_0 12 rfl) ⟨_, rfl, rfl⟩ h
  · have h := h.2 c1
    refine ws_if_ne (tgt := 9) (dcd d_D_passersFinding_0 2 rfl) (by decide) (fun c => absurd (show (0 : Int32) = 0 from by decide) c) (fun _ => ?_)
    refine ws_iconst (v := 1) (dcd d_D_passersFinding_0 3 rfl) (by decide) ?_
    exact ws_iret (dcd d_D_passersFinding_0 4 rfl) ⟨_, rfl, rfl⟩ h
theorem sg_D_passersFinding_27 {o1 : Nat} {x2 : Int32} (k1 : okS o1 6) (h : (((mI u o1 1) ≤ x2 → Q (some (.int 0)) u) ∧ (¬ ((mI u o1 1) ≤ x2) → (((spG u o1 x2) < 0 → Q (some (.int 3)) u) ∧ (¬ ((spG u o1 x2) < 0) → (((spG u o1 x2) ≤ 99 → Ws G D_passersFinding 27 [(1, .ref o1), (2, .int (x2 + 1))] [] u Q) ∧ (¬ ((spG u o1 x2) ≤ 99) → Q (some (.int 3)) u))))))) : Ws G D_passersFinding 27 [(1, .ref o1), (2, .int x2)] [] u Q := by
  refine ws_iload_n 1 (dcd d_D_passersFinding_0 15 rfl) rfl ?_
  refine ws_aload_n 0 (dcd d_D_passersFinding_0 16 rfl) rfl ?_
  refine ws_getI f_D_121 rfl (dcd d_D_passersFinding_0 17 rfl) k1 ?_
  refine ws_icmp_ge (tgt := 61) (dcd d_D_passersFinding_0 18 rfl) (by decide) (fun c1 => ?_) (fun c1 => ?_)
  · have h := h.1 c1
    refine ws_iconst (v := 0) (dcd d_D_passersFinding_1 2 rfl) (by decide) ?_
    exact ws_iret (dcd d_D_passersFinding_1 3 rfl) ⟨_, rfl, rfl⟩ h
  · have h := h.2 c1
    refine ws_aload_n 0 (dcd d_D_passersFinding_0 19 rfl) rfl ?_
    refine ws_iload_n 1 (dcd d_D_passersFinding_0 20 rfl) rfl ?_
    refine ws_callVI (o := o1) (As := [.int x2]) (st := []) (la := [(0, .ref o1), (1, .int x2)]) (dcd d_D_passersFinding_0 21 rfl) cv_Sp_get k_D_107 ⟨by decide, by decide⟩ k1 rfl (Nat.le_of_ble_eq_true rfl) (Nat.le_of_ble_eq_true rfl) rfl rfl (sp_Sp_get k1) ?_
    rintro _ _ ⟨rfl, rfl⟩
    refine ws_if_lt (tgt := 53) (dcd d_D_passersFinding_0 22 rfl) (by decide) (fun c2 => ?_) (fun c2 => ?_)
    · have h := h.1 c2
      refine ws_iconst (v := 3) (dcd d_D_passersFinding_0 28 rfl) (by decide) ?_
      exact ws_iret (dcd d_D_passersFinding_0 29 rfl) ⟨_, rfl, rfl⟩ h
    · have h := h.2 c2
      refine ws_aload_n 0 (dcd d_D_passersFinding_0 23 rfl) rfl ?_
      refine ws_iload_n 1 (dcd d_D_passersFinding_0 24 rfl) rfl ?_
      refine ws_callVI (o := o1) (As := [.int x2]) (st := []) (la := [(0, .ref o1), (1, .int x2)]) (dcd d_D_passersFinding_0 25 rfl) cv_Sp_get k_D_107 ⟨by decide, by decide⟩ k1 rfl (Nat.le_of_ble_eq_true rfl) (Nat.le_of_ble_eq_true rfl) rfl rfl (sp_Sp_get k1) ?_
      rintro _ _ ⟨rfl, rfl⟩
      refine ws_bipush (v := 99) (dcd d_D_passersFinding_0 26 rfl) (by decide) ?_
      refine ws_icmp_le (tgt := 55) (dcd d_D_passersFinding_0 27 rfl) (by decide) (fun c3 => ?_) (fun c3 => ?_)
      · have h := h.1 c3
        refine ws_iinc (v := 1) (l' := [(2, .int (x2 + 1)), (1, .ref o1)]) 1 (dcd d_D_passersFinding_1 0 rfl) rfl (by decide) (by decide) rfl ?_
        refine ws_goto (tgt := 27) (dcd d_D_passersFinding_1 1 rfl) (by decide) ?_
        exact ws_loc [1, 0] rfl h
      · have h := h.2 c3
        refine ws_iconst (v := 3) (dcd d_D_passersFinding_0 28 rfl) (by decide) ?_
        exact ws_iret (dcd d_D_passersFinding_0 29 rfl) ⟨_, rfl, rfl⟩ h
theorem sg_D_rentOf_0 {o1 : Nat} {x2 : Int32} {x3 : Int32} (k1 : okS o1 6) (h : Ws G D_rentOf 17 [(0, .ref 2), (1, .ref o1), (2, .int x2), (3, .int x3), (4, .int 0), (5, .int 0)] [] (snB u 10 7) Q) : Ws G D_rentOf 0 [(0, .ref 2), (1, .ref o1), (2, .int x2), (3, .int x3)] [] u Q := by
  refine ws_iconst (v := 0) (dcd d_D_rentOf_0 0 rfl) (by decide) ?_
  refine ws_istore (l' := [(4, .int 0), (0, .ref 2), (1, .ref o1), (2, .int x2), (3, .int x3)]) (dcd d_D_rentOf_0 1 rfl) (by decide) rfl ?_
  refine ws_aload_n 1 (dcd d_D_rentOf_0 2 rfl) rfl ?_
  refine ws_getF (a := 10) f_D_36 rfl (dcd d_D_rentOf_0 3 rfl) ok_2 of_7_5 rfl ?_
  refine ws_aload_n 1 (dcd d_D_rentOf_0 4 rfl) rfl ?_
  refine ws_getF (a := 7) f_D_28 rfl (dcd d_D_rentOf_0 5 rfl) ok_2 of_7_3 rfl ?_
  refine ws_callVV (o := 10) (As := [.ref 7]) (st := []) (la := [(0, .ref 10), (1, .ref 7)]) (dcd d_D_rentOf_0 6 rfl) cv_Sn_become k_D_220 ⟨by decide, by decide⟩ (os_7_5 ok_2) rfl (Nat.le_of_ble_eq_true rfl) (Nat.le_of_ble_eq_true rfl) rfl rfl (sp_Sn_become (os_7_5 ok_2) (os_7_3 ok_2)) ?_
  rintro _ rfl
  refine ws_iconst (v := 0) (dcd d_D_rentOf_0 7 rfl) (by decide) ?_
  refine ws_istore (l' := [(5, .int 0), (4, .int 0), (0, .ref 2), (1, .ref o1), (2, .int x2), (3, .int x3)]) (dcd d_D_rentOf_0 8 rfl) (by decide) rfl ?_
  exact ws_loc [2, 3, 4, 5, 1, 0] rfl h
theorem sg_D_rentOf_17 {o1 : Nat} {x2 : Int32} {x3 : Int32} {x4 : Int32} {x5 : Int32} (k1 : okS o1 6) (h : ((x3 ≤ x5 → Q (some (.int x4)) u) ∧ (¬ (x3 ≤ x5) → (pl (mR u 2 10) → Ws G Sn_pass 0 [(0, .ref 10), (1, .ref (mR u 2 10)), (2, .int 1)] [] u (RV fun u3 => Ws G D_rentOf 17 [(0, .ref 2), (1, .ref o1), (2, .int x2), (3, .int x3), (4, .int (x4 + (spG u o1 (snD u 10 x2)))), (5, .int (x5 + 1))] [] u3 Q))))) : Ws G D_rentOf 17 [(0, .ref 2), (1, .ref o1), (2, .int x2), (3, .int x3), (4, .int x4), (5, .int x5)] [] u Q := by
  refine ws_iload 5 (dcd d_D_rentOf_0 9 rfl) rfl ?_
  refine ws_iload_n 3 (dcd d_D_rentOf_0 10 rfl) rfl ?_
  refine ws_icmp_ge (tgt := 58) (dcd d_D_rentOf_0 11 rfl) (by decide) (fun c1 => ?_) (fun c1 => ?_)
  · have h := h.1 c1
    refine ws_iload 4 (dcd d_D_rentOf_0 29 rfl) rfl ?_
    exact ws_iret (dcd d_D_rentOf_1 0 rfl) ⟨_, rfl, rfl⟩ h
  · have h := h.2 c1
    refine ws_iload 4 (dcd d_D_rentOf_0 12 rfl) rfl ?_
    refine ws_aload_n 1 (dcd d_D_rentOf_0 13 rfl) rfl ?_
    refine ws_aload_n 0 (dcd d_D_rentOf_0 14 rfl) rfl ?_
    refine ws_getF (a := 10) f_D_36 rfl (dcd d_D_rentOf_0 15 rfl) ok_2 of_7_5 rfl ?_
    refine ws_iload_n 2 (dcd d_D_rentOf_0 16 rfl) rfl ?_
    refine ws_callVI (o := 10) (As := [.int x2]) (st := [.ref o1, .int x4]) (la := [(0, .ref 10), (1, .int x2)]) (dcd d_D_rentOf_0 17 rfl) cv_Sn_doorOf k_D_217 ⟨by decide, by decide⟩ (os_7_5 ok_2) rfl (Nat.le_of_ble_eq_true rfl) (Nat.le_of_ble_eq_true rfl) rfl rfl (sp_Sn_doorOf (os_7_5 ok_2)) ?_
    rintro _ _ ⟨rfl, rfl⟩
    refine ws_callVI (o := o1) (As := [.int (snD u 10 x2)]) (st := [.int x4]) (la := [(0, .ref o1), (1, .int (snD u 10 x2))]) (dcd d_D_rentOf_0 18 rfl) cv_Sp_get k_D_107 ⟨by decide, by decide⟩ k1 rfl (Nat.le_of_ble_eq_true rfl) (Nat.le_of_ble_eq_true rfl) rfl rfl (sp_Sp_get k1) ?_
    rintro _ _ ⟨rfl, rfl⟩
    refine ws_iadd (dcd d_D_rentOf_0 19 rfl) ?_
    refine ws_istore (l' := [(4, .int (x4 + (spG u o1 (snD u 10 x2)))), (0, .ref 2), (1, .ref o1), (2, .int x2), (3, .int x3), (5, .int x5)]) (dcd d_D_rentOf_0 20 rfl) (by decide) rfl ?_
    refine ws_aload_n 1 (dcd d_D_rentOf_0 21 rfl) rfl ?_
    refine ws_getF (a := 10) f_D_36 rfl (dcd d_D_rentOf_0 22 rfl) ok_2 of_7_5 rfl ?_
    refine ws_aload_n 1 (dcd d_D_rentOf_0 23 rfl) rfl ?_
    refine ws_getP (by decide) f_D_63 (dcd d_D_rentOf_0 24 rfl) (fun j2 => ?_)
    have h := h j2
    refine ws_iconst (v := 1) (dcd d_D_rentOf_0 25 rfl) (by decide) ?_
    refine ws_callVV (o := 10) (As := [.ref (mR u 2 10), .int 1]) (st := []) (la := [(0, .ref 10), (1, .ref (mR u 2 10)), (2, .int 1)]) (dcd d_D_rentOf_0 26 rfl) cv_Sn_pass k_D_213 ⟨by decide, by decide⟩ (os_7_5 ok_2) rfl (Nat.le_of_ble_eq_true rfl) (Nat.le_of_ble_eq_true rfl) rfl rfl h (fun u3 h => ?_)
    refine ws_iinc (v := 1) (l' := [(5, .int (x5 + 1)), (4, .int (x4 + (spG u o1 (snD u 10 x2)))), (0, .ref 2), (1, .ref o1), (2, .int x2), (3, .int x3)]) 5 (dcd d_D_rentOf_0 27 rfl) rfl (by decide) (by decide) rfl ?_
    refine ws_goto (tgt := 17) (dcd d_D_rentOf_0 28 rfl) (by decide) ?_
    exact ws_loc [2, 3, 4, 5, 1, 0] rfl h
end SEG
