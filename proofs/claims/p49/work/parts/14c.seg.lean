section SEG
variable {G : pG} {u : pM} {Q : Option Value → pM → Prop}
theorem sg_D_again_0   (h : (pl (mR u 2 10) → (((0 < (mI u (mR u 2 10) 0)) → Ws G D_again 26 [(0, .ref 2), (1, .int 1)] [] (snB u 10 7) Q) ∧ (¬ (0 < (mI u (mR u 2 10) 0)) → Q (some (.int (-4))) u)))) : Ws G D_again 0 [(0, .ref 2)] [] u Q := by
  refine ws_aload_n 0 (dcd d_D_again_0 0 rfl) rfl ?_
  refine ws_getP (by decide) f_D_63 (dcd d_D_again_0 1 rfl) (fun j1 => ?_)
  have h := h j1
  refine ws_callVI (o := (mR u 2 10)) (As := []) (st := []) (la := [(0, .ref (mR u 2 10))]) (dcd d_D_again_0 2 rfl) cv_Pl_isThere k_D_211 ⟨by decide, by decide⟩ (pl_ok j1) rfl (Nat.le_of_ble_eq_true rfl) (Nat.le_of_ble_eq_true rfl) rfl rfl (sp_Pl_isThere (pl_ok j1)) ?_
  rintro _ _ ⟨rfl, ⟨rfl, c2⟩ | ⟨rfl, c2⟩⟩
  · have h := h.1 c2
    refine ws_if_ne (tgt := 13) (dcd d_D_again_0 3 rfl) (by decide) (fun _ => ?_) (fun c => absurd c (by decide))
    refine ws_aload_n 0 (dcd d_D_again_0 6 rfl) rfl ?_
    refine ws_getF (a := 10) f_D_36 rfl (dcd d_D_again_0 7 rfl) ok_2 of_7_5 rfl ?_
    refine ws_aload_n 0 (dcd d_D_again_0 8 rfl) rfl ?_
    refine ws_getF (a := 7) f_D_28 rfl (dcd d_D_again_0 9 rfl) ok_2 of_7_3 rfl ?_
    refine ws_callVV (o := 10) (As := [.ref 7]) (st := []) (la := [(0, .ref 10), (1, .ref 7)]) (dcd d_D_again_0 10 rfl) cv_Sn_become k_D_220 ⟨by decide, by decide⟩ (os_7_5 ok_2) rfl (Nat.le_of_ble_eq_true rfl) (Nat.le_of_ble_eq_true rfl) rfl rfl (sp_Sn_become (os_7_5 ok_2) (os_7_3 ok_2)) ?_
    rintro _ rfl
    refine ws_iconst (v := 1) (dcd d_D_again_0 11 rfl) (by decide) ?_
    refine ws_istore_n (l' := [(1, .int 1), (0, .ref 2)]) (dcd d_D_again_0 12 rfl) (by decide) rfl ?_
    exact ws_loc [1, 0] rfl h
  · have h := h.2 c2
    refine ws_if_ne (tgt := 13) (dcd d_D_again_0 3 rfl) (by decide) (fun c => absurd (show (0 : Int32) = 0 from by decide) c) (fun _ => ?_)
    refine ws_bipush (v := (-4)) (dcd d_D_again_0 4 rfl) (by decide) ?_
    exact ws_iret (dcd d_D_again_0 5 rfl) ⟨_, rfl, rfl⟩ h
theorem sg_D_again_26 {x1 : Int32}  (h : ((600 < x1 → Q (some (.int (-9))) u) ∧ (¬ (600 < x1) → (pl (mR u 2 10) → Ws G Sn_pass 0 [(0, .ref 10), (1, .ref (mR u 2 10)), (2, .int 1)] [] u (RV fun u3 => (pl (mR u3 2 10) → Ws G Sn_differing 0 [(0, .ref 10), (1, .ref 7), (2, .int (mI u3 (mR u3 2 10) 1))] [] u3 (RI fun a5 u5 => ((¬ a5 = 0 → Ws G D_again 26 [(0, .ref 2), (1, .int (x1 + 1))] [] u5 Q) ∧ (a5 = 0 → Q (some (.int x1)) u5))))))))) : Ws G D_again 26 [(0, .ref 2), (1, .int x1)] [] u Q := by
  refine ws_iload_n 1 (dcd d_D_again_0 13 rfl) rfl ?_
  refine ws_sipush (v := 600) (dcd d_D_again_0 14 rfl) (by decide) ?_
  refine ws_icmp_gt (tgt := 74) (dcd d_D_again_0 15 rfl) (by decide) (fun c1 => ?_) (fun c1 => ?_)
  · have h := h.1 c1
    refine ws_bipush (v := (-9)) (dcd d_D_again_1 5 rfl) (by decide) ?_
    exact ws_iret (dcd d_D_again_1 6 rfl) ⟨_, rfl, rfl⟩ h
  · have h := h.2 c1
    refine ws_aload_n 0 (dcd d_D_again_0 16 rfl) rfl ?_
    refine ws_getF (a := 10) f_D_36 rfl (dcd d_D_again_0 17 rfl) ok_2 of_7_5 rfl ?_
    refine ws_aload_n 0 (dcd d_D_again_0 18 rfl) rfl ?_
    refine ws_getP (by decide) f_D_63 (dcd d_D_again_0 19 rfl) (fun j2 => ?_)
    have h := h j2
    refine ws_iconst (v := 1) (dcd d_D_again_0 20 rfl) (by decide) ?_
    refine ws_callVV (o := 10) (As := [.ref (mR u 2 10), .int 1]) (st := []) (la := [(0, .ref 10), (1, .ref (mR u 2 10)), (2, .int 1)]) (dcd d_D_again_0 21 rfl) cv_Sn_pass k_D_213 ⟨by decide, by decide⟩ (os_7_5 ok_2) rfl (Nat.le_of_ble_eq_true rfl) (Nat.le_of_ble_eq_true rfl) rfl rfl h (fun u3 h => ?_)
    refine ws_aload_n 0 (dcd d_D_again_0 22 rfl) rfl ?_
    refine ws_getF (a := 10) f_D_36 rfl (dcd d_D_again_0 23 rfl) ok_2 of_7_5 rfl ?_
    refine ws_aload_n 0 (dcd d_D_again_0 24 rfl) rfl ?_
    refine ws_getF (a := 7) f_D_28 rfl (dcd d_D_again_0 25 rfl) ok_2 of_7_3 rfl ?_
    refine ws_aload_n 0 (dcd d_D_again_0 26 rfl) rfl ?_
    refine ws_getP (by decide) f_D_63 (dcd d_D_again_0 27 rfl) (fun j4 => ?_)
    have h := h j4
    refine ws_getI f_D_163 rfl (dcd d_D_again_0 28 rfl) (pl_ok j4) ?_
    refine ws_callVI (o := 10) (As := [.ref 7, .int (mI u3 (mR u3 2 10) 1)]) (st := []) (la := [(0, .ref 10), (1, .ref 7), (2, .int (mI u3 (mR u3 2 10) 1))]) (dcd d_D_again_0 29 rfl) cv_Sn_differing k_D_233 ⟨by decide, by decide⟩ (os_7_5 ok_2) rfl (Nat.le_of_ble_eq_true rfl) (Nat.le_of_ble_eq_true rfl) rfl rfl h (fun a5 u5 h => ?_)
    refine ws_if_ne (tgt := 68) (dcd d_D_again_1 0 rfl) (by decide) (fun c6 => ?_) (fun c6 => ?_)
    · have h := h.1 c6
      refine ws_iinc (v := 1) (l' := [(1, .int (x1 + 1)), (0, .ref 2)]) 1 (dcd d_D_again_1 3 rfl) rfl (by decide) (by decide) rfl ?_
      refine ws_goto (tgt := 26) (dcd d_D_again_1 4 rfl) (by decide) ?_
      exact ws_loc [1, 0] rfl h
    · have h := h.2 c6
      refine ws_iload_n 1 (dcd d_D_again_1 1 rfl) rfl ?_
      exact ws_iret (dcd d_D_again_1 2 rfl) ⟨_, rfl, rfl⟩ h
theorem sg_Sn_differing_0 {o0 : Nat} {o1 : Nat} {x2 : Int32} (k0 : okS o0 5) (k1 : okS o1 5) (h : Ws G Sn_differing 5 [(0, .ref o0), (1, .ref o1), (2, .int x2), (3, .int 0), (4, .int 0)] [] u Q) : Ws G Sn_differing 0 [(0, .ref o0), (1, .ref o1), (2, .int x2)] [] u Q := by
  refine ws_iconst (v := 0) (dcd d_Sn_differing_0 0 rfl) (by decide) ?_
  refine ws_istore_n (l' := [(3, .int 0), (0, .ref o0), (1, .ref o1), (2, .int x2)]) (dcd d_Sn_differing_0 1 rfl) (by decide) rfl ?_
  refine ws_iconst (v := 0) (dcd d_Sn_differing_0 2 rfl) (by decide) ?_
  refine ws_istore (l' := [(4, .int 0), (3, .int 0), (0, .ref o0), (1, .ref o1), (2, .int x2)]) (dcd d_Sn_differing_0 3 rfl) (by decide) rfl ?_
  exact ws_loc [2, 3, 4, 1, 0] rfl h
theorem sg_Sn_differing_5 {o0 : Nat} {o1 : Nat} {x2 : Int32} {x3 : Int32} {x4 : Int32} (k0 : okS o0 5) (k1 : okS o1 5) (h : ((x2 ≤ x4 → Q (some (.int x3)) u) ∧ (¬ (x2 ≤ x4) → (((snD u o0 x4) = (snD u o1 x4) → Ws G Sn_differing 5 [(0, .ref o0), (1, .ref o1), (2, .int x2), (3, .int (x3 + 0)), (4, .int (x4 + 1))] [] u Q) ∧ (¬ (snD u o0 x4) = (snD u o1 x4) → Ws G Sn_differing 5 [(0, .ref o0), (1, .ref o1), (2, .int x2), (3, .int (x3 + 1)), (4, .int (x4 + 1))] [] u Q))))) : Ws G Sn_differing 5 [(0, .ref o0), (1, .ref o1), (2, .int x2), (3, .int x3), (4, .int x4)] [] u Q := by
  refine ws_iload 4 (dcd d_Sn_differing_0 4 rfl) rfl ?_
  refine ws_iload_n 2 (dcd d_Sn_differing_0 5 rfl) rfl ?_
  refine ws_icmp_ge (tgt := 40) (dcd d_Sn_differing_0 6 rfl) (by decide) (fun c1 => ?_) (fun c1 => ?_)
  · have h := h.1 c1
    refine ws_iload_n 3 (dcd d_Sn_differing_0 22 rfl) rfl ?_
    exact ws_iret (dcd d_Sn_differing_0 23 rfl) ⟨_, rfl, rfl⟩ h
  · have h := h.2 c1
    refine ws_iload_n 3 (dcd d_Sn_differing_0 7 rfl) rfl ?_
    refine ws_aload_n 0 (dcd d_Sn_differing_0 8 rfl) rfl ?_
    refine ws_iload 4 (dcd d_Sn_differing_0 9 rfl) rfl ?_
    refine ws_callVI (o := o0) (As := [.int x4]) (st := [.int x3]) (la := [(0, .ref o0), (1, .int x4)]) (dcd d_Sn_differing_0 10 rfl) cv_Sn_doorOf k_Sn_56 ⟨by decide, by decide⟩ k0 rfl (Nat.le_of_ble_eq_true rfl) (Nat.le_of_ble_eq_true rfl) rfl rfl (sp_Sn_doorOf k0) ?_
    rintro _ _ ⟨rfl, rfl⟩
    refine ws_aload_n 1 (dcd d_Sn_differing_0 11 rfl) rfl ?_
    refine ws_iload 4 (dcd d_Sn_differing_0 12 rfl) rfl ?_
    refine ws_callVI (o := o1) (As := [.int x4]) (st := [.int (snD u o0 x4), .int x3]) (la := [(0, .ref o1), (1, .int x4)]) (dcd d_Sn_differing_0 13 rfl) cv_Sn_doorOf k_Sn_56 ⟨by decide, by decide⟩ k1 rfl (Nat.le_of_ble_eq_true rfl) (Nat.le_of_ble_eq_true rfl) rfl rfl (sp_Sn_doorOf k1) ?_
    rintro _ _ ⟨rfl, rfl⟩
    refine ws_icmp_eq (tgt := 31) (dcd d_Sn_differing_0 14 rfl) (by decide) (fun c2 => ?_) (fun c2 => ?_)
    · have h := h.1 c2
      refine ws_iconst (v := 0) (dcd d_Sn_differing_0 17 rfl) (by decide) ?_
      refine ws_iadd (dcd d_Sn_differing_0 18 rfl) ?_
      refine ws_istore_n (l' := [(3, .int (x3 + 0)), (0, .ref o0), (1, .ref o1), (2, .int x2), (4, .int x4)]) (dcd d_Sn_differing_0 19 rfl) (by decide) rfl ?_
      refine ws_iinc (v := 1) (l' := [(4, .int (x4 + 1)), (3, .int (x3 + 0)), (0, .ref o0), (1, .ref o1), (2, .int x2)]) 4 (dcd d_Sn_differing_0 20 rfl) rfl (by decide) (by decide) rfl ?_
      refine ws_goto (tgt := 5) (dcd d_Sn_differing_0 21 rfl) (by decide) ?_
      exact ws_loc [2, 3, 4, 1, 0] rfl h
    · have h := h.2 c2
      refine ws_iconst (v := 1) (dcd d_Sn_differing_0 15 rfl) (by decide) ?_
      refine ws_goto (tgt := 32) (dcd d_Sn_differing_0 16 rfl) (by decide) ?_
      refine ws_iadd (dcd d_Sn_differing_0 18 rfl) ?_
      refine ws_istore_n (l' := [(3, .int (x3 + 1)), (0, .ref o0), (1, .ref o1), (2, .int x2), (4, .int x4)]) (dcd d_Sn_differing_0 19 rfl) (by decide) rfl ?_
      refine ws_iinc (v := 1) (l' := [(4, .int (x4 + 1)), (3, .int (x3 + 1)), (0, .ref o0), (1, .ref o1), (2, .int x2)]) 4 (dcd d_Sn_differing_0 20 rfl) rfl (by decide) (by decide) rfl ?_
      refine ws_goto (tgt := 5) (dcd d_Sn_differing_0 21 rfl) (by decide) ?_
      exact ws_loc [2, 3, 4, 1, 0] rfl h
theorem sg_D_keep_0 {x1 : Int32}  (h : (((0 ≤ x1 ∧ x1 < 3) → (pl (mR u 2 10) → (((0 < (mI u (mR u 2 10) 0)) → Q (some (.int (mI (snB u (kpV x1) 7) 7 0))) (snB u (kpV x1) 7)) ∧ (¬ (0 < (mI u (mR u 2 10) 0)) → Q (some (.int (-4))) u)))) ∧ (¬ (0 ≤ x1 ∧ x1 < 3) → Q (some (.int (-1))) u))) : Ws G D_keep 0 [(0, .ref 2), (1, .int x1)] [] u Q := by
  refine ws_iload_n 1 (dcd d_D_keep_0 0 rfl) rfl ?_
  refine ws_callSI (As := [.int x1]) (st := []) (la := [(0, .int x1)]) (dcd d_D_keep_0 1 rfl) cs_D_isKeptPlace k_D_237 ⟨by decide, by decide⟩ rfl (Nat.le_of_ble_eq_true rfl) (Nat.le_of_ble_eq_true rfl) rfl rfl sp_D_isKeptPlace ?_
  rintro _ _ ⟨rfl, ⟨rfl, c1⟩ | ⟨rfl, c1⟩⟩
  · have h := h.1 c1
    refine ws_if_ne (tgt := 9) (dcd d_D_keep_0 2 rfl) (by decide) (fun _ => ?_) (fun c => absurd c (by decide))
    refine ws_aload_n 0 (dcd d_D_keep_0 5 rfl) rfl ?_
    refine ws_getP (by decide) f_D_63 (dcd d_D_keep_0 6 rfl) (fun j3 => ?_)
    have h := h j3
    refine ws_callVI (o := (mR u 2 10)) (As := []) (st := []) (la := [(0, .ref (mR u 2 10))]) (dcd d_D_keep_0 7 rfl) cv_Pl_isThere k_D_211 ⟨by decide, by decide⟩ (pl_ok j3) rfl (Nat.le_of_ble_eq_true rfl) (Nat.le_of_ble_eq_true rfl) rfl rfl (sp_Pl_isThere (pl_ok j3)) ?_
    rintro _ _ ⟨rfl, ⟨rfl, c4⟩ | ⟨rfl, c4⟩⟩
    · have h := h.1 c4
      refine ws_if_ne (tgt := 22) (dcd d_D_keep_0 8 rfl) (by decide) (fun _ => ?_) (fun c => absurd c (by decide))
      refine ws_aload_n 0 (dcd d_D_keep_0 11 rfl) rfl ?_
      refine ws_iload_n 1 (dcd d_D_keep_0 12 rfl) rfl ?_
      refine ws_callVR (o := 2) (As := [.int x1]) (st := []) (la := [(0, .ref 2), (1, .int x1)]) (dcd d_D_keep_0 13 rfl) cv_D_keptOf k_D_159 ⟨by decide, by decide⟩ ok_2 rfl (Nat.le_of_ble_eq_true rfl) (Nat.le_of_ble_eq_true rfl) rfl rfl sp_D_keptOf ?_
      rintro _ _ ⟨rfl, rfl⟩
      refine ws_aload_n 0 (dcd d_D_keep_0 14 rfl) rfl ?_
      refine ws_getF (a := 7) f_D_28 rfl (dcd d_D_keep_0 15 rfl) ok_2 of_7_3 rfl ?_
      refine ws_callVV (o := (kpV x1)) (As := [.ref 7]) (st := []) (la := [(0, .ref (kpV x1)), (1, .ref 7)]) (dcd d_D_keep_0 16 rfl) cv_Sn_become k_D_220 ⟨by decide, by decide⟩ (kpV_ok x1) rfl (Nat.le_of_ble_eq_true rfl) (Nat.le_of_ble_eq_true rfl) rfl rfl (sp_Sn_become (kpV_ok x1) (os_7_3 ok_2)) ?_
      rintro _ rfl
      refine ws_aload_n 0 (dcd d_D_keep_0 17 rfl) rfl ?_
      refine ws_getF (a := 7) f_D_28 rfl (dcd d_D_keep_0 18 rfl) ok_2 of_7_3 rfl ?_
      refine ws_getI f_D_84 rfl (dcd d_D_keep_0 19 rfl) (os_7_3 ok_2) ?_
      exact ws_iret (dcd d_D_keep_0 20 rfl) ⟨_, rfl, rfl⟩ h
    · have h := h.2 c4
      refine ws_if_ne (tgt := 22) (dcd d_D_keep_0 8 rfl) (by decide) (fun c => absurd (show (0 : Int32) = 0 from by decide) c) (fun _ => ?_)
      refine ws_bipush (v := (-4)) (dcd d_D_keep_0 9 rfl) (by decide) ?_
      exact ws_iret (dcd d_D_keep_0 10 rfl) ⟨_, rfl, rfl⟩ h
  · have h := h.2 c1
    refine ws_if_ne (tgt := 9) (dcd d_D_keep_0 2 rfl) (by decide) (fun c => absurd (show (0 : Int32) = 0 from by decide) c) (fun _ => ?_)
    refine ws_iconst (v := (-1)) (dcd d_D_keep_0 3 rfl) (by decide) ?_
    exact ws_iret (dcd d_D_keep_0 4 rfl) ⟨_, rfl, rfl⟩ h
theorem sg_D_on_0 {x1 : Int32}  (h : (((0 ≤ x1 ∧ x1 < 3) → ((¬ (mI u (kpV x1) 0) = (-1) → Q (some (.int (mI (snB u 7 (kpV x1)) 7 0))) (snB u 7 (kpV x1))) ∧ ((mI u (kpV x1) 0) = (-1) → Q (some (.int (-3))) (dF u 1)))) ∧ (¬ (0 ≤ x1 ∧ x1 < 3) → Q (some (.int (-1))) u))) : Ws G D_on 0 [(0, .ref 2), (1, .int x1)] [] u Q := by
  refine ws_iload_n 1 (dcd d_D_on_0 0 rfl) rfl ?_
  refine ws_callSI (As := [.int x1]) (st := []) (la := [(0, .int x1)]) (dcd d_D_on_0 1 rfl) cs_D_isKeptPlace k_D_237 ⟨by decide, by decide⟩ rfl (Nat.le_of_ble_eq_true rfl) (Nat.le_of_ble_eq_true rfl) rfl rfl sp_D_isKeptPlace ?_
  rintro _ _ ⟨rfl, ⟨rfl, c1⟩ | ⟨rfl, c1⟩⟩
  · have h := h.1 c1
    refine ws_if_ne (tgt := 9) (dcd d_D_on_0 2 rfl) (by decide) (fun _ => ?_) (fun c => absurd c (by decide))
    refine ws_aload_n 0 (dcd d_D_on_0 5 rfl) rfl ?_
    refine ws_iload_n 1 (dcd d_D_on_0 6 rfl) rfl ?_
    refine ws_callVR (o := 2) (As := [.int x1]) (st := []) (la := [(0, .ref 2), (1, .int x1)]) (dcd d_D_on_0 7 rfl) cv_D_keptOf k_D_159 ⟨by decide, by decide⟩ ok_2 rfl (Nat.le_of_ble_eq_true rfl) (Nat.le_of_ble_eq_true rfl) rfl rfl sp_D_keptOf ?_
    rintro _ _ ⟨rfl, rfl⟩
    refine ws_astore_n (l' := [(2, .ref (kpV x1)), (0, .ref 2), (1, .int x1)]) (dcd d_D_on_0 8 rfl) (by decide) rfl ?_
    refine ws_aload_n 0 (dcd d_D_on_0 9 rfl) rfl ?_
    refine ws_getI f_D_84 rfl (dcd d_D_on_0 10 rfl) (kpV_ok x1) ?_
    refine ws_iconst (v := (-1)) (dcd d_D_on_0 11 rfl) (by decide) ?_
    refine ws_icmp_ne (tgt := 29) (dcd d_D_on_0 12 rfl) (by decide) (fun c3 => ?_) (fun c3 => ?_)
    · have h := h.1 c3
      refine ws_aload_n 1 (dcd d_D_on_0 17 rfl) rfl ?_
      refine ws_getF (a := 7) f_D_28 rfl (dcd d_D_on_0 18 rfl) ok_2 of_7_3 rfl ?_
      refine ws_aload_n 0 (dcd d_D_on_0 19 rfl) rfl ?_
      refine ws_callVV (o := 7) (As := [.ref (kpV x1)]) (st := []) (la := [(0, .ref 7), (1, .ref (kpV x1))]) (dcd d_D_on_0 20 rfl) cv_Sn_become k_D_220 ⟨by decide, by decide⟩ (os_7_3 ok_2) rfl (Nat.le_of_ble_eq_true rfl) (Nat.le_of_ble_eq_true rfl) rfl rfl (sp_Sn_become (os_7_3 ok_2) (kpV_ok x1)) ?_
      rintro _ rfl
      refine ws_aload_n 1 (dcd d_D_on_0 21 rfl) rfl ?_
      refine ws_getF (a := 7) f_D_28 rfl (dcd d_D_on_0 22 rfl) ok_2 of_7_3 rfl ?_
      refine ws_getI f_D_84 rfl (dcd d_D_on_0 23 rfl) (os_7_3 ok_2) ?_
      exact ws_iret (dcd d_D_on_0 24 rfl) ⟨_, rfl, rfl⟩ h
    · have h := h.2 c3
      refine ws_aload_n 1 (dcd d_D_on_0 13 rfl) rfl ?_
      refine ws_iconst (v := 1) (dcd d_D_on_0 14 rfl) (by decide) ?_
      refine ws_callVI (o := 2) (As := [.int 1]) (st := []) (la := [(0, .ref 2), (1, .int 1)]) (dcd d_D_on_0 15 rfl) cv_D_found k_D_91 ⟨by decide, by decide⟩ ok_2 rfl (Nat.le_of_ble_eq_true rfl) (Nat.le_of_ble_eq_true rfl) rfl rfl sp_D_found ?_
      rintro _ _ ⟨rfl, rfl⟩
      exact ws_iret (dcd d_D_on_0 16 rfl) ⟨_, rfl, rfl⟩ h
  · have h := h.2 c1
    refine ws_if_ne (tgt := 9) (dcd d_D_on_0 2 rfl) (by decide) (fun c => absurd (show (0 : Int32) = 0 from by decide) c) (fun _ => ?_)
    refine ws_iconst (v := (-1)) (dcd d_D_on_0 3 rfl) (by decide) ?_
    exact ws_iret (dcd d_D_on_0 4 rfl) ⟨_, rfl, rfl⟩ h
theorem sg_D_beside_0 {x1 : Int32} {x2 : Int32}  (h : Ws G D_areTwo 0 [(0, .ref 2), (1, .int x1), (2, .int x2)] [] u (RI fun a1 u1 => ((¬ a1 = 0 → Ws G D_beside 24 [(0, .ref 2), (1, .int x1), (2, .int x2), (3, .int 0)] [] (snB u1 10 7) Q) ∧ (a1 = 0 → Q (some (.int (-1))) u1)))) : Ws G D_beside 0 [(0, .ref 2), (1, .int x1), (2, .int x2)] [] u Q := by
  refine ws_aload_n 0 (dcd d_D_beside_0 0 rfl) rfl ?_
  refine ws_iload_n 1 (dcd d_D_beside_0 1 rfl) rfl ?_
  refine ws_iload_n 2 (dcd d_D_beside_0 2 rfl) rfl ?_
  refine ws_callVI (o := 2) (As := [.int x1, .int x2]) (st := []) (la := [(0, .ref 2), (1, .int x1), (2, .int x2)]) (dcd d_D_beside_0 3 rfl) cv_D_areTwo k_D_240 ⟨by decide, by decide⟩ ok_2 rfl (Nat.le_of_ble_eq_true rfl) (Nat.le_of_ble_eq_true rfl) rfl rfl h (fun a1 u1 h => ?_)
  refine ws_if_ne (tgt := 11) (dcd d_D_beside_0 4 rfl) (by decide) (fun c2 => ?_) (fun c2 => ?_)
  · have h := h.1 c2
    refine ws_aload_n 0 (dcd d_D_beside_0 7 rfl) rfl ?_
    refine ws_getF (a := 10) f_D_36 rfl (dcd d_D_beside_0 8 rfl) ok_2 of_7_5 rfl ?_
    refine ws_aload_n 0 (dcd d_D_beside_0 9 rfl) rfl ?_
    refine ws_getF (a := 7) f_D_28 rfl (dcd d_D_beside_0 10 rfl) ok_2 of_7_3 rfl ?_
    refine ws_callVV (o := 10) (As := [.ref 7]) (st := []) (la := [(0, .ref 10), (1, .ref 7)]) (dcd d_D_beside_0 11 rfl) cv_Sn_become k_D_220 ⟨by decide, by decide⟩ (os_7_5 ok_2) rfl (Nat.le_of_ble_eq_true rfl) (Nat.le_of_ble_eq_true rfl) rfl rfl (sp_Sn_become (os_7_5 ok_2) (os_7_3 ok_2)) ?_
    rintro _ rfl
    refine ws_iconst (v := 0) (dcd d_D_beside_0 12 rfl) (by decide) ?_
    refine ws_istore_n (l' := [(3, .int 0), (0, .ref 2), (1, .int x1), (2, .int x2)]) (dcd d_D_beside_0 13 rfl) (by decide) rfl ?_
    exact ws_loc [1, 2, 3, 0] rfl h
  · have h := h.2 c2
    refine ws_iconst (v := (-1)) (dcd d_D_beside_0 5 rfl) (by decide) ?_
    exact ws_iret (dcd d_D_beside_0 6 rfl) ⟨_, rfl, rfl⟩ h
theorem sg_D_beside_24 {x1 : Int32} {x2 : Int32} {x3 : Int32}  (h : ((600 < x3 → Q (some (.int (-9))) u) ∧ (¬ (600 < x3) → (pl (mR u 2 10) → ((¬ (wkV (mI u (mR u 2 10) 0) (snD u 10 x1) (snD u 10 x2)) = 1 → (pl (mR u 2 10) → Ws G Sn_pass 0 [(0, .ref 10), (1, .ref (mR u 2 10)), (2, .int 1)] [] u (RV fun u5 => Ws G D_beside 24 [(0, .ref 2), (1, .int x1), (2, .int x2), (3, .int (x3 + 1))] [] u5 Q))) ∧ ((wkV (mI u (mR u 2 10) 0) (snD u 10 x1) (snD u 10 x2)) = 1 → Q (some (.int x3)) u)))))) : Ws G D_beside 24 [(0, .ref 2), (1, .int x1), (2, .int x2), (3, .int x3)] [] u Q := by
  refine ws_iload_n 3 (dcd d_D_beside_0 14 rfl) rfl ?_
  refine ws_sipush (v := 600) (dcd d_D_beside_0 15 rfl) (by decide) ?_
  refine ws_icmp_gt (tgt := 78) (dcd d_D_beside_0 16 rfl) (by decide) (fun c1 => ?_) (fun c1 => ?_)
  · have h := h.1 c1
    refine ws_bipush (v := (-9)) (dcd d_D_beside_1 10 rfl) (by decide) ?_
    exact ws_iret (dcd d_D_beside_1 11 rfl) ⟨_, rfl, rfl⟩ h
  · have h := h.2 c1
    refine ws_aload_n 0 (dcd d_D_beside_0 17 rfl) rfl ?_
    refine ws_getP (by decide) f_D_63 (dcd d_D_beside_0 18 rfl) (fun j2 => ?_)
    have h := h j2
    refine ws_aload_n 0 (dcd d_D_beside_0 19 rfl) rfl ?_
    refine ws_getF (a := 10) f_D_36 rfl (dcd d_D_beside_0 20 rfl) ok_2 of_7_5 rfl ?_
    refine ws_iload_n 1 (dcd d_D_beside_0 21 rfl) rfl ?_
    refine ws_callVI (o := 10) (As := [.int x1]) (st := [.ref (mR u 2 10)]) (la := [(0, .ref 10), (1, .int x1)]) (dcd d_D_beside_0 22 rfl) cv_Sn_doorOf k_D_217 ⟨by decide, by decide⟩ (os_7_5 ok_2) rfl (Nat.le_of_ble_eq_true rfl) (Nat.le_of_ble_eq_true rfl) rfl rfl (sp_Sn_doorOf (os_7_5 ok_2)) ?_
    rintro _ _ ⟨rfl, rfl⟩
    refine ws_aload_n 0 (dcd d_D_beside_0 23 rfl) rfl ?_
    refine ws_getF (a := 10) f_D_36 rfl (dcd d_D_beside_0 24 rfl) ok_2 of_7_5 rfl ?_
    refine ws_iload_n 2 (dcd d_D_beside_0 25 rfl) rfl ?_
    refine ws_callVI (o := 10) (As := [.int x2]) (st := [.int (snD u 10 x1), .ref (mR u 2 10)]) (la := [(0, .ref 10), (1, .int x2)]) (dcd d_D_beside_0 26 rfl) cv_Sn_doorOf k_D_217 ⟨by decide, by decide⟩ (os_7_5 ok_2) rfl (Nat.le_of_ble_eq_true rfl) (Nat.le_of_ble_eq_true rfl) rfl rfl (sp_Sn_doorOf (os_7_5 ok_2)) ?_
    rintro _ _ ⟨rfl, rfl⟩
    refine ws_callVI (o := (mR u 2 10)) (As := [.int (snD u 10 x1), .int (snD u 10 x2)]) (st := []) (la := [(0, .ref (mR u 2 10)), (1, .int (snD u 10 x1)), (2, .int (snD u 10 x2))]) (dcd d_D_beside_0 27 rfl) cv_Pl_walking k_D_243 ⟨by decide, by decide⟩ (pl_ok j2) rfl (Nat.le_of_ble_eq_true rfl) (Nat.le_of_ble_eq_true rfl) rfl rfl (sp_Pl_walking (pl_ok j2)) ?_
    rintro _ _ ⟨rfl, rfl⟩
    refine ws_iconst (v := 1) (dcd d_D_beside_0 28 rfl) (by decide) ?_
    refine ws_icmp_ne (tgt := 60) (dcd d_D_beside_0 29 rfl) (by decide) (fun c3 => ?_) (fun c3 => ?_)
    · have h := h.1 c3
      refine ws_aload_n 0 (dcd d_D_beside_1 2 rfl) rfl ?_
      refine ws_getF (a := 10) f_D_36 rfl (dcd d_D_beside_1 3 rfl) ok_2 of_7_5 rfl ?_
      refine ws_aload_n 0 (dcd d_D_beside_1 4 rfl) rfl ?_
      refine ws_getP (by decide) f_D_63 (dcd d_D_beside_1 5 rfl) (fun j4 => ?_)
      have h := h j4
      refine ws_iconst (v := 1) (dcd d_D_beside_1 6 rfl) (by decide) ?_
      refine ws_callVV (o := 10) (As := [.ref (mR u 2 10), .int 1]) (st := []) (la := [(0, .ref 10), (1, .ref (mR u 2 10)), (2, .int 1)]) (dcd d_D_beside_1 7 rfl) cv_Sn_pass k_D_213 ⟨by decide, by decide⟩ (os_7_5 ok_2) rfl (Nat.le_of_ble_eq_true rfl) (Nat.le_of_ble_eq_true rfl) rfl rfl h (fun u5 h => ?_)
      refine ws_iinc (v := 1) (l' := [(3, .int (x3 + 1)), (0, .ref 2), (1, .int x1), (2, .int x2)]) 3 (dcd d_D_beside_1 8 rfl) rfl (by decide) (by decide) rfl ?_
      refine ws_goto (tgt := 24) (dcd d_D_beside_1 9 rfl) (by decide) ?_
      exact ws_loc [1, 2, 3, 0] rfl h
    · have h := h.2 c3
      refine ws_iload_n 3 (dcd d_D_beside_1 0 rfl) rfl ?_
      exact ws_iret (dcd d_D_beside_1 1 rfl) ⟨_, rfl, rfl⟩ h
theorem sg_D_areTwo_0 {x1 : Int32} {x2 : Int32}  (h : (pl (mR u 2 10) → (((plS u (mR u 2 10) x1) → (pl (mR u 2 10) → (((plS u (mR u 2 10) x2) → ((x1 = x2 → Q (some (.int 0)) u) ∧ (¬ x1 = x2 → Q (some (.int 1)) u))) ∧ (¬ (plS u (mR u 2 10) x2) → Q (some (.int 0)) u)))) ∧ (¬ (plS u (mR u 2 10) x1) → Q (some (.int 0)) u)))) : Ws G D_areTwo 0 [(0, .ref 2), (1, .int x1), (2, .int x2)] [] u Q := by
  refine ws_aload_n 0 (dcd d_D_areTwo_0 0 rfl) rfl ?_
  refine ws_getP (by decide) f_D_63 (dcd d_D_areTwo_0 1 rfl) (fun j1 => ?_)
  have h := h j1
  refine ws_iload_n 1 (dcd d_D_areTwo_0 2 rfl) rfl ?_
  refine ws_callVI (o := (mR u 2 10)) (As := [.int x1]) (st := []) (la := [(0, .ref (mR u 2 10)), (1, .int x1)]) (dcd d_D_areTwo_0 3 rfl) cv_Pl_hasShop k_D_164 ⟨by decide, by decide⟩ (pl_ok j1) rfl (Nat.le_of_ble_eq_true rfl) (Nat.le_of_ble_eq_true rfl) rfl rfl (sp_Pl_hasShop (pl_ok j1)) ?_
  rintro _ _ ⟨rfl, ⟨rfl, c2⟩ | ⟨rfl, c2⟩⟩
  · have h := h.1 c2
    refine ws_if_eq (tgt := 31) (dcd d_D_areTwo_0 4 rfl) (by decide) (fun c => absurd c (by decide)) (fun _ => ?_)
    refine ws_aload_n 0 (dcd d_D_areTwo_0 5 rfl) rfl ?_
    refine ws_getP (by decide) f_D_63 (dcd d_D_areTwo_0 6 rfl) (fun j4 => ?_)
    have h := h j4
    refine ws_iload_n 2 (dcd d_D_areTwo_0 7 rfl) rfl ?_
    refine ws_callVI (o := (mR u 2 10)) (As := [.int x2]) (st := []) (la := [(0, .ref (mR u 2 10)), (1, .int x2)]) (dcd d_D_areTwo_0 8 rfl) cv_Pl_hasShop k_D_164 ⟨by decide, by decide⟩ (pl_ok j4) rfl (Nat.le_of_ble_eq_true rfl) (Nat.le_of_ble_eq_true rfl) rfl rfl (sp_Pl_hasShop (pl_ok j4)) ?_
    rintro _ _ ⟨rfl, ⟨rfl, c5⟩ | ⟨rfl, c5⟩⟩
    · have h := h.1 c5
      refine ws_if_eq (tgt := 31) (dcd d_D_areTwo_0 9 rfl) (by decide) (fun c => absurd c (by decide)) (fun _ => ?_)
      refine ws_iload_n 1 (dcd d_D_areTwo_0 10 rfl) rfl ?_
      refine ws_iload_n 2 (dcd d_D_areTwo_0 11 rfl) rfl ?_
      refine ws_icmp_eq (tgt := 31) (dcd d_D_areTwo_0 12 rfl) (by decide) (fun c7 => ?_) (fun c7 => ?_)
      · have h := h.1 c7
        refine ws_iconst (v := 0) (dcd d_D_areTwo_0 15 rfl) (by decide) ?_
        exact ws_iret (dcd d_D_areTwo_0 16 rfl) ⟨_, rfl, by decide⟩ h
      · have h := h.2 c7
        refine ws_iconst (v := 1) (dcd d_D_areTwo_0 13 rfl) (by decide) ?_
        refine ws_goto (tgt := 32) (dcd d_D_areTwo_0 14 rfl) (by decide) ?_
        exact ws_iret (dcd d_D_areTwo_0 16 rfl) ⟨_, rfl, by decide⟩ h
    · have h := h.2 c5
      refine ws_if_eq (tgt := 31) (dcd d_D_areTwo_0 9 rfl) (by decide) (fun _ => ?_) (fun c => absurd (show (0 : Int32) = 0 from by decide) c)
      refine ws_iconst (v := 0) (dcd d_D_areTwo_0 15 rfl) (by decide) ?_
      exact ws_iret (dcd d_D_areTwo_0 16 rfl) ⟨_, rfl, by decide⟩ h
  · have h := h.2 c2
    refine ws_if_eq (tgt := 31) (dcd d_D_areTwo_0 4 rfl) (by decide) (fun _ => ?_) (fun c => absurd (show (0 : Int32) = 0 from by decide) c)
    refine ws_iconst (v := 0) (dcd d_D_areTwo_0 15 rfl) (by decide) ?_
    exact ws_iret (dcd d_D_areTwo_0 16 rfl) ⟨_, rfl, by decide⟩ h
theorem sg_D_comes_0 {x1 : Int32} {x2 : Int32}  (h : (pl (mR u 2 10) → (((plS u (mR u 2 10) x1) → (pl (mR u 2 10) → (((0 ≤ x2 ∧ x2 < (mI u (mR u 2 10) 0)) → Ws G D_comes 37 [(0, .ref 2), (1, .int x1), (2, .int x2), (3, .int 0)] [] (snB u 10 7) Q) ∧ (¬ (0 ≤ x2 ∧ x2 < (mI u (mR u 2 10) 0)) → Q (some (.int (-1))) u)))) ∧ (¬ (plS u (mR u 2 10) x1) → Q (some (.int (-1))) u)))) : Ws G D_comes 0 [(0, .ref 2), (1, .int x1), (2, .int x2)] [] u Q := by
  refine ws_aload_n 0 (dcd d_D_comes_0 0 rfl) rfl ?_
  refine ws_getP (by decide) f_D_63 (dcd d_D_comes_0 1 rfl) (fun j1 => ?_)
  have h := h j1
  refine ws_iload_n 1 (dcd d_D_comes_0 2 rfl) rfl ?_
  refine ws_callVI (o := (mR u 2 10)) (As := [.int x1]) (st := []) (la := [(0, .ref (mR u 2 10)), (1, .int x1)]) (dcd d_D_comes_0 3 rfl) cv_Pl_hasShop k_D_164 ⟨by decide, by decide⟩ (pl_ok j1) rfl (Nat.le_of_ble_eq_true rfl) (Nat.le_of_ble_eq_true rfl) rfl rfl (sp_Pl_hasShop (pl_ok j1)) ?_
  rintro _ _ ⟨rfl, ⟨rfl, c2⟩ | ⟨rfl, c2⟩⟩
  · have h := h.1 c2
    refine ws_if_eq (tgt := 22) (dcd d_D_comes_0 4 rfl) (by decide) (fun c => absurd c (by decide)) (fun _ => ?_)
    refine ws_aload_n 0 (dcd d_D_comes_0 5 rfl) rfl ?_
    refine ws_getP (by decide) f_D_63 (dcd d_D_comes_0 6 rfl) (fun j4 => ?_)
    have h := h j4
    refine ws_iload_n 2 (dcd d_D_comes_0 7 rfl) rfl ?_
    refine ws_callVI (o := (mR u 2 10)) (As := [.int x2]) (st := []) (la := [(0, .ref (mR u 2 10)), (1, .int x2)]) (dcd d_D_comes_0 8 rfl) cv_Pl_hasDoor k_D_198 ⟨by decide, by decide⟩ (pl_ok j4) rfl (Nat.le_of_ble_eq_true rfl) (Nat.le_of_ble_eq_true rfl) rfl rfl (sp_Pl_hasDoor (pl_ok j4)) ?_
    rintro _ _ ⟨rfl, ⟨rfl, c5⟩ | ⟨rfl, c5⟩⟩
    · have h := h.1 c5
      refine ws_if_ne (tgt := 24) (dcd d_D_comes_0 9 rfl) (by decide) (fun _ => ?_) (fun c => absurd c (by decide))
      refine ws_aload_n 0 (dcd d_D_comes_0 12 rfl) rfl ?_
      refine ws_getF (a := 10) f_D_36 rfl (dcd d_D_comes_0 13 rfl) ok_2 of_7_5 rfl ?_
      refine ws_aload_n 0 (dcd d_D_comes_0 14 rfl) rfl ?_
      refine ws_getF (a := 7) f_D_28 rfl (dcd d_D_comes_0 15 rfl) ok_2 of_7_3 rfl ?_
      refine ws_callVV (o := 10) (As := [.ref 7]) (st := []) (la := [(0, .ref 10), (1, .ref 7)]) (dcd d_D_comes_0 16 rfl) cv_Sn_become k_D_220 ⟨by decide, by decide⟩ (os_7_5 ok_2) rfl (Nat.le_of_ble_eq_true rfl) (Nat.le_of_ble_eq_true rfl) rfl rfl (sp_Sn_become (os_7_5 ok_2) (os_7_3 ok_2)) ?_
      rintro _ rfl
      refine ws_iconst (v := 0) (dcd d_D_comes_0 17 rfl) (by decide) ?_
      refine ws_istore_n (l' := [(3, .int 0), (0, .ref 2), (1, .int x1), (2, .int x2)]) (dcd d_D_comes_0 18 rfl) (by decide) rfl ?_
      exact ws_loc [1, 2, 3, 0] rfl h
    · have h := h.2 c5
      refine ws_if_ne (tgt := 24) (dcd d_D_comes_0 9 rfl) (by decide) (fun c => absurd (show (0 : Int32) = 0 from by decide) c) (fun _ => ?_)
      refine ws_iconst (v := (-1)) (dcd d_D_comes_0 10 rfl) (by decide) ?_
      exact ws_iret (dcd d_D_comes_0 11 rfl) ⟨_, rfl, rfl⟩ h
  · have h := h.2 c2
    refine ws_if_eq (tgt := 22) (dcd d_D_comes_0 4 rfl) (by decide) (fun _ => ?_) (fun c => absurd (show (0 : Int32) = 0 from by decide) c)
    refine ws_iconst (v := (-1)) (dcd d_D_comes_0 10 rfl) (by decide) ?_
    exact ws_iret (dcd d_D_comes_0 11 rfl) ⟨_, rfl, rfl⟩ h
theorem sg_D_comes_37 {x1 : Int32} {x2 : Int32} {x3 : Int32}  (h : ((600 < x3 → Q (some (.int (-9))) u) ∧ (¬ (600 < x3) → ((¬ (snD u 10 x1) = x2 → (pl (mR u 2 10) → Ws G Sn_pass 0 [(0, .ref 10), (1, .ref (mR u 2 10)), (2, .int 1)] [] u (RV fun u4 => Ws G D_comes 37 [(0, .ref 2), (1, .int x1), (2, .int x2), (3, .int (x3 + 1))] [] u4 Q))) ∧ ((snD u 10 x1) = x2 → Q (some (.int x3)) u))))) : Ws G D_comes 37 [(0, .ref 2), (1, .int x1), (2, .int x2), (3, .int x3)] [] u Q := by
  refine ws_iload_n 3 (dcd d_D_comes_0 19 rfl) rfl ?_
  refine ws_sipush (v := 600) (dcd d_D_comes_0 20 rfl) (by decide) ?_
  refine ws_icmp_gt (tgt := 76) (dcd d_D_comes_0 21 rfl) (by decide) (fun c1 => ?_) (fun c1 => ?_)
  · have h := h.1 c1
    refine ws_bipush (v := (-9)) (dcd d_D_comes_1 8 rfl) (by decide) ?_
    exact ws_iret (dcd d_D_comes_1 9 rfl) ⟨_, rfl, rfl⟩ h
  · have h := h.2 c1
    refine ws_aload_n 0 (dcd d_D_comes_0 22 rfl) rfl ?_
    refine ws_getF (a := 10) f_D_36 rfl (dcd d_D_comes_0 23 rfl) ok_2 of_7_5 rfl ?_
    refine ws_iload_n 1 (dcd d_D_comes_0 24 rfl) rfl ?_
    refine ws_callVI (o := 10) (As := [.int x1]) (st := []) (la := [(0, .ref 10), (1, .int x1)]) (dcd d_D_comes_0 25 rfl) cv_Sn_doorOf k_D_217 ⟨by decide, by decide⟩ (os_7_5 ok_2) rfl (Nat.le_of_ble_eq_true rfl) (Nat.le_of_ble_eq_true rfl) rfl rfl (sp_Sn_doorOf (os_7_5 ok_2)) ?_
    rintro _ _ ⟨rfl, rfl⟩
    refine ws_iload_n 2 (dcd d_D_comes_0 26 rfl) rfl ?_
    refine ws_icmp_ne (tgt := 58) (dcd d_D_comes_0 27 rfl) (by decide) (fun c2 => ?_) (fun c2 => ?_)
    · have h := h.1 c2
      refine ws_aload_n 0 (dcd d_D_comes_1 0 rfl) rfl ?_
      refine ws_getF (a := 10) f_D_36 rfl (dcd d_D_comes_1 1 rfl) ok_2 of_7_5 rfl ?_
      refine ws_aload_n 0 (dcd d_D_comes_1 2 rfl) rfl ?_
      refine ws_getP (by decide) f_D_63 (dcd d_D_comes_1 3 rfl) (fun j3 => ?_)
      have h := h j3
      refine ws_iconst (v := 1) (dcd d_D_comes_1 4 rfl) (by decide) ?_
      refine ws_callVV (o := 10) (As := [.ref (mR u 2 10), .int 1]) (st := []) (la := [(0, .ref 10), (1, .ref (mR u 2 10)), (2, .int 1)]) (dcd d_D_comes_1 5 rfl) cv_Sn_pass k_D_213 ⟨by decide, by decide⟩ (os_7_5 ok_2) rfl (Nat.le_of_ble_eq_true rfl) (Nat.le_of_ble_eq_true rfl) rfl rfl h (fun u4 h => ?_)
      refine ws_iinc (v := 1) (l' := [(3, .int (x3 + 1)), (0, .ref 2), (1, .int x1), (2, .int x2)]) 3 (dcd d_D_comes_1 6 rfl) rfl (by decide) (by decide) rfl ?_
      refine ws_goto (tgt := 37) (dcd d_D_comes_1 7 rfl) (by decide) ?_
      exact ws_loc [1, 2, 3, 0] rfl h
    · have h := h.2 c2
      refine ws_iload_n 3 (dcd d_D_comes_0 28 rfl) rfl ?_
      exact ws_iret (dcd d_D_comes_0 29 rfl) ⟨_, rfl, rfl⟩ h
theorem sg_D_meets_0 {x1 : Int32} {x2 : Int32} {x3 : Int32}  (h : Ws G D_areTwo 0 [(0, .ref 2), (1, .int x1), (2, .int x2)] [] u (RI fun a1 u1 => ((a1 = 0 → Q (some (.int (-1))) u1) ∧ (¬ a1 = 0 → (pl (mR u1 2 10) → (((0 ≤ x3 ∧ x3 < (mI u1 (mR u1 2 10) 0)) → (pl (mR u1 2 10) → (pl (mR u1 2 10) → (pl (mR u1 2 10) → Ws G Pl_commonWith 0 [(0, .ref (mR u1 2 10)), (1, .int ((mI u1 (shO u1 (mR u1 2 10) x2) 2) - (mI u1 (shO u1 (mR u1 2 10) x1) 2)))] [] u1 (RI fun a9 u9 => Ws G D_meets 80 [(0, .ref 2), (3, .int x3), (4, .int ((snD u1 7 x2) - (snD u1 7 x1))), (5, .int ((mI u1 (shO u1 (mR u1 2 10) x2) 2) - (mI u1 (shO u1 (mR u1 2 10) x1) 2))), (6, .int a9), (7, .int 0)] [] u9 Q))))) ∧ (¬ (0 ≤ x3 ∧ x3 < (mI u1 (mR u1 2 10) 0)) → Q (some (.int (-1))) u1))))))) : Ws G D_meets 0 [(0, .ref 2), (1, .int x1), (2, .int x2), (3, .int x3)] [] u Q := by
  refine ws_aload_n 0 (dcd d_D_meets_0 0 rfl) rfl ?_
  refine ws_iload_n 1 (dcd d_D_meets_0 1 rfl) rfl ?_
  refine ws_iload_n 2 (dcd d_D_meets_0 2 rfl) rfl ?_
  refine ws_callVI (o := 2) (As := [.int x1, .int x2]) (st := []) (la := [(0, .ref 2), (1, .int x1), (2, .int x2)]) (dcd d_D_meets_0 3 rfl) cv_D_areTwo k_D_240 ⟨by decide, by decide⟩ ok_2 rfl (Nat.le_of_ble_eq_true rfl) (Nat.le_of_ble_eq_true rfl) rfl rfl h (fun a1 u1 h => ?_)
  refine ws_if_eq (tgt := 20) (dcd d_D_meets_0 4 rfl) (by decide) (fun c2 => ?_) (fun c2 => ?_)
  · have h := h.1 c2
    refine ws_iconst (v := (-1)) (dcd d_D_meets_0 10 rfl) (by decide) ?_
    exact ws_iret (dcd d_D_meets_0 11 rfl) ⟨_, rfl, rfl⟩ h
  · have h := h.2 c2
    refine ws_aload_n 0 (dcd d_D_meets_0 5 rfl) rfl ?_
    refine ws_getP (by decide) f_D_63 (dcd d_D_meets_0 6 rfl) (fun j3 => ?_)
    have h := h j3
    refine ws_iload_n 3 (dcd d_D_meets_0 7 rfl) rfl ?_
    refine ws_callVI (o := (mR u1 2 10)) (As := [.int x3]) (st := []) (la := [(0, .ref (mR u1 2 10)), (1, .int x3)]) (dcd d_D_meets_0 8 rfl) cv_Pl_hasDoor k_D_198 ⟨by decide, by decide⟩ (pl_ok j3) rfl (Nat.le_of_ble_eq_true rfl) (Nat.le_of_ble_eq_true rfl) rfl rfl (sp_Pl_hasDoor (pl_ok j3)) ?_
    rintro _ _ ⟨rfl, ⟨rfl, c4⟩ | ⟨rfl, c4⟩⟩
    · have h := h.1 c4
      refine ws_if_ne (tgt := 22) (dcd d_D_meets_0 9 rfl) (by decide) (fun _ => ?_) (fun c => absurd c (by decide))
      refine ws_aload_n 0 (dcd d_D_meets_0 12 rfl) rfl ?_
      refine ws_getF (a := 7) f_D_28 rfl (dcd d_D_meets_0 13 rfl) ok_2 of_7_3 rfl ?_
      refine ws_iload_n 2 (dcd d_D_meets_0 14 rfl) rfl ?_
      refine ws_callVI (o := 7) (As := [.int x2]) (st := []) (la := [(0, .ref 7), (1, .int x2)]) (dcd d_D_meets_0 15 rfl) cv_Sn_doorOf k_D_217 ⟨by decide, by decide⟩ (os_7_3 ok_2) rfl (Nat.le_of_ble_eq_true rfl) (Nat.le_of_ble_eq_true rfl) rfl rfl (sp_Sn_doorOf (os_7_3 ok_2)) ?_
      rintro _ _ ⟨rfl, rfl⟩
      refine ws_aload_n 0 (dcd d_D_meets_0 16 rfl) rfl ?_
      refine ws_getF (a := 7) f_D_28 rfl (dcd d_D_meets_0 17 rfl) ok_2 of_7_3 rfl ?_
      refine ws_iload_n 1 (dcd d_D_meets_0 18 rfl) rfl ?_
      refine ws_callVI (o := 7) (As := [.int x1]) (st := [.int (snD u1 7 x2)]) (la := [(0, .ref 7), (1, .int x1)]) (dcd d_D_meets_0 19 rfl) cv_Sn_doorOf k_D_217 ⟨by decide, by decide⟩ (os_7_3 ok_2) rfl (Nat.le_of_ble_eq_true rfl) (Nat.le_of_ble_eq_true rfl) rfl rfl (sp_Sn_doorOf (os_7_3 ok_2)) ?_
      rintro _ _ ⟨rfl, rfl⟩
      refine ws_isub (dcd d_D_meets_0 20 rfl) ?_
      refine ws_istore (l' := [(4, .int ((snD u1 7 x2) - (snD u1 7 x1))), (0, .ref 2), (1, .int x1), (2, .int x2), (3, .int x3)]) (dcd d_D_meets_0 21 rfl) (by decide) rfl ?_
      refine ws_aload_n 1 (dcd d_D_meets_0 22 rfl) rfl ?_
      refine ws_getP (by decide) f_D_63 (dcd d_D_meets_0 23 rfl) (fun j6 => ?_)
      have h := h j6
      refine ws_iload_n 3 (dcd d_D_meets_0 24 rfl) rfl ?_
      refine ws_callVR (o := (mR u1 2 10)) (As := [.int x2]) (st := []) (la := [(0, .ref (mR u1 2 10)), (1, .int x2)]) (dcd d_D_meets_0 25 rfl) cv_Pl_shopOf k_D_170 ⟨by decide, by decide⟩ (pl_ok j6) rfl (Nat.le_of_ble_eq_true rfl) (Nat.le_of_ble_eq_true rfl) rfl rfl (sp_Pl_shopOf (pl_ok j6)) ?_
      rintro _ _ ⟨rfl, rfl⟩
      refine ws_getI f_D_246 rfl (dcd d_D_meets_0 26 rfl) (shO_ok (pl_ok j6)) ?_
      refine ws_aload_n 1 (dcd d_D_meets_0 27 rfl) rfl ?_
      refine ws_getP (by decide) f_D_63 (dcd d_D_meets_0 28 rfl) (fun j7 => ?_)
      have h := h j7
      refine ws_iload_n 2 (dcd d_D_meets_0 29 rfl) rfl ?_
      refine ws_callVR (o := (mR u1 2 10)) (As := [.int x1]) (st := [.int (mI u1 (shO u1 (mR u1 2 10) x2) 2)]) (la := [(0, .ref (mR u1 2 10)), (1, .int x1)]) (dcd d_D_meets_1 0 rfl) cv_Pl_shopOf k_D_170 ⟨by decide, by decide⟩ (pl_ok j7) rfl (Nat.le_of_ble_eq_true rfl) (Nat.le_of_ble_eq_true rfl) rfl rfl (sp_Pl_shopOf (pl_ok j7)) ?_
      rintro _ _ ⟨rfl, rfl⟩
      refine ws_getI f_D_246 rfl (dcd d_D_meets_1 1 rfl) (shO_ok (pl_ok j7)) ?_
      refine ws_isub (dcd d_D_meets_1 2 rfl) ?_
      refine ws_istore (l' := [(5, .int ((mI u1 (shO u1 (mR u1 2 10) x2) 2) - (mI u1 (shO u1 (mR u1 2 10) x1) 2))), (4, .int ((snD u1 7 x2) - (snD u1 7 x1))), (0, .ref 2), (1, .int x1), (2, .int x2), (3, .int x3)]) (dcd d_D_meets_1 3 rfl) (by decide) rfl ?_
      refine ws_aload_n 2 (dcd d_D_meets_1 4 rfl) rfl ?_
      refine ws_getP (by decide) f_D_63 (dcd d_D_meets_1 5 rfl) (fun j8 => ?_)
      have h := h j8
      refine ws_iload 0 (dcd d_D_meets_1 6 rfl) rfl ?_
      refine ws_callVI (o := (mR u1 2 10)) (As := [.int ((mI u1 (shO u1 (mR u1 2 10) x2) 2) - (mI u1 (shO u1 (mR u1 2 10) x1) 2))]) (st := []) (la := [(0, .ref (mR u1 2 10)), (1, .int ((mI u1 (shO u1 (mR u1 2 10) x2) 2) - (mI u1 (shO u1 (mR u1 2 10) x1) 2)))]) (dcd d_D_meets_1 7 rfl) cv_Pl_commonWith k_D_249 ⟨by decide, by decide⟩ (pl_ok j8) rfl (Nat.le_of_ble_eq_true rfl) (Nat.le_of_ble_eq_true rfl) rfl rfl h (fun a9 u9 h => ?_)
      refine ws_istore (l' := [(6, .int a9), (5, .int ((mI u1 (shO u1 (mR u1 2 10) x2) 2) - (mI u1 (shO u1 (mR u1 2 10) x1) 2))), (4, .int ((snD u1 7 x2) - (snD u1 7 x1))), (0, .ref 2), (1, .int x1), (2, .int x2), (3, .int x3)]) (dcd d_D_meets_1 8 rfl) (by decide) rfl ?_
      refine ws_iconst (v := 0) (dcd d_D_meets_1 9 rfl) (by decide) ?_
      refine ws_istore (l' := [(7, .int 0), (6, .int a9), (5, .int ((mI u1 (shO u1 (mR u1 2 10) x2) 2) - (mI u1 (shO u1 (mR u1 2 10) x1) 2))), (4, .int ((snD u1 7 x2) - (snD u1 7 x1))), (0, .ref 2), (1, .int x1), (2, .int x2), (3, .int x3)]) (dcd d_D_meets_1 10 rfl) (by decide) rfl ?_
      exact ws_loc [4, 7, 3, 2, 1, 0] rfl h
    · have h := h.2 c4
      refine ws_if_ne (tgt := 22) (dcd d_D_meets_0 9 rfl) (by decide) (fun c => absurd (show (0 : Int32) = 0 from by decide) c) (fun _ => ?_)
      refine ws_iconst (v := (-1)) (dcd d_D_meets_0 10 rfl) (by decide) ?_
      exact ws_iret (dcd d_D_meets_0 11 rfl) ⟨_, rfl, rfl⟩ h
theorem sg_D_meets_80 {x3 : Int32} {x4 : Int32} {x5 : Int32} {x6 : Int32} {x7 : Int32}  (h : (pl (mR u 2 10) → (((mI u (mR u 2 10) 0) ≤ x7 → Q (some (.int (-9))) u) ∧ (¬ ((mI u (mR u 2 10) 0) ≤ x7) → ((x6 ≤ 0 → Ws G D_meets 80 [(0, .ref 2), (3, .int x3), (4, .int x4), (5, .int x5), (6, .int x6), (7, .int (x7 + 1))] [] u Q) ∧ (¬ (x6 ≤ 0) → (pl (mR u 2 10) → ((¬ (wrV (mI u (mR u 2 10) 0) ((x4 : Int32).toInt64 + ((x7 : Int32).toInt64 * (x5 : Int32).toInt64))) = x3 → Ws G D_meets 80 [(0, .ref 2), (3, .int x3), (4, .int x4), (5, .int x5), (6, .int x6), (7, .int (x7 + 1))] [] u Q) ∧ ((wrV (mI u (mR u 2 10) 0) ((x4 : Int32).toInt64 + ((x7 : Int32).toInt64 * (x5 : Int32).toInt64))) = x3 → (pl (mR u 2 10) → (¬ x6 = 0 ∧ Q (some (.int x7)) (pI u 2 12 ((mI u (mR u 2 10) 0) / x6))))))))))))) : Ws G D_meets 80 [(0, .ref 2), (3, .int x3), (4, .int x4), (5, .int x5), (6, .int x6), (7, .int x7)] [] u Q := by
  refine ws_iload 5 (dcd d_D_meets_1 11 rfl) rfl ?_
  refine ws_aload_n 0 (dcd d_D_meets_1 12 rfl) rfl ?_
  refine ws_getP (by decide) f_D_63 (dcd d_D_meets_1 13 rfl) (fun j1 => ?_)
  have h := h j1
  refine ws_getI f_D_252 rfl (dcd d_D_meets_1 14 rfl) (pl_ok j1) ?_
  refine ws_icmp_ge (tgt := 142) (dcd d_D_meets_1 15 rfl) (by decide) (fun c2 => ?_) (fun c2 => ?_)
  · have h := h.1 c2
    refine ws_bipush (v := (-9)) (dcd d_D_meets_2 12 rfl) (by decide) ?_
    exact ws_iret (dcd d_D_meets_2 13 rfl) ⟨_, rfl, rfl⟩ h
  · have h := h.2 c2
    refine ws_iload 4 (dcd d_D_meets_1 16 rfl) rfl ?_
    refine ws_if_le (tgt := 136) (dcd d_D_meets_1 17 rfl) (by decide) (fun c3 => ?_) (fun c3 => ?_)
    · have h := h.1 c3
      refine ws_iinc (v := 1) (l' := [(7, .int (x7 + 1)), (0, .ref 2), (3, .int x3), (4, .int x4), (5, .int x5), (6, .int x6)]) 5 (dcd d_D_meets_2 10 rfl) rfl (by decide) (by decide) rfl ?_
      refine ws_goto (tgt := 80) (dcd d_D_meets_2 11 rfl) (by decide) ?_
      exact ws_loc [1, 2, 3, 4, 5, 0] rfl h
    · have h := h.2 c3
      refine ws_aload_n 0 (dcd d_D_meets_1 18 rfl) rfl ?_
      refine ws_getP (by decide) f_D_63 (dcd d_D_meets_1 19 rfl) (fun j4 => ?_)
      have h := h j4
      refine ws_iload 2 (dcd d_D_meets_1 20 rfl) rfl ?_
      refine ws_i2l (dcd d_D_meets_1 21 rfl) ?_
      refine ws_iload 5 (dcd d_D_meets_1 22 rfl) rfl ?_
      refine ws_i2l (dcd d_D_meets_1 23 rfl) ?_
      refine ws_iload 3 (dcd d_D_meets_1 24 rfl) rfl ?_
      refine ws_i2l (dcd d_D_meets_1 25 rfl) ?_
      refine ws_lmul (dcd d_D_meets_1 26 rfl) ?_
      refine ws_ladd (dcd d_D_meets_1 27 rfl) ?_
      refine ws_callVI (o := (mR u 2 10)) (As := [.long ((x4 : Int32).toInt64 + ((x7 : Int32).toInt64 * (x5 : Int32).toInt64))]) (st := []) (la := [(0, .ref (mR u 2 10)), (1, .long ((x4 : Int32).toInt64 + ((x7 : Int32).toInt64 * (x5 : Int32).toInt64)))]) (dcd d_D_meets_1 28 rfl) cv_Pl_wrapped k_D_229 ⟨by decide, by decide⟩ (pl_ok j4) rfl (Nat.le_of_ble_eq_true rfl) (Nat.le_of_ble_eq_true rfl) rfl rfl (sp_Pl_wrapped (pl_ok j4)) ?_
      rintro _ _ ⟨rfl, rfl⟩
      refine ws_iload_n 1 (dcd d_D_meets_1 29 rfl) rfl ?_
      refine ws_icmp_ne (tgt := 136) (dcd d_D_meets_2 0 rfl) (by decide) (fun c5 => ?_) (fun c5 => ?_)
      · have h := h.1 c5
        refine ws_iinc (v := 1) (l' := [(7, .int (x7 + 1)), (0, .ref 2), (3, .int x3), (4, .int x4), (5, .int x5), (6, .int x6)]) 5 (dcd d_D_meets_2 10 rfl) rfl (by decide) (by decide) rfl ?_
        refine ws_goto (tgt := 80) (dcd d_D_meets_2 11 rfl) (by decide) ?_
        exact ws_loc [1, 2, 3, 4, 5, 0] rfl h
      · have h := h.2 c5
        refine ws_aload_n 0 (dcd d_D_meets_2 1 rfl) rfl ?_
        refine ws_aload_n 0 (dcd d_D_meets_2 2 rfl) rfl ?_
        refine ws_getP (by decide) f_D_63 (dcd d_D_meets_2 3 rfl) (fun j6 => ?_)
        have h := h j6
        refine ws_getI f_D_252 rfl (dcd d_D_meets_2 4 rfl) (pl_ok j6) ?_
        refine ws_iload 4 (dcd d_D_meets_2 5 rfl) rfl ?_
        obtain ⟨e7, h⟩ := h
        refine ws_idiv (dcd d_D_meets_2 6 rfl) e7 ?_
        refine ws_iload 5 (dcd d_D_meets_2 7 rfl) rfl ?_
        refine ws_callVI (o := 2) (As := [.int ((mI u (mR u 2 10) 0) / x6), .int x7]) (st := []) (la := [(0, .ref 2), (1, .int ((mI u (mR u 2 10) 0) / x6)), (2, .int x7)]) (dcd d_D_meets_2 8 rfl) cv_D_tell k_D_113 ⟨by decide, by decide⟩ ok_2 rfl (Nat.le_of_ble_eq_true rfl) (Nat.le_of_ble_eq_true rfl) rfl rfl sp_D_tell ?_
        rintro _ _ ⟨rfl, rfl⟩
        exact ws_iret (dcd d_D_meets_2 9 rfl) ⟨_, rfl, rfl⟩ h
theorem sg_Pl_commonWith_0 {o0 : Nat} {x1 : Int32} (k0 : okS o0 2) (h : Ws G D_greatestCommon 0 [(0, .long ((mI u o0 0) : Int32).toInt64), (2, .long (x1 : Int32).toInt64)] [] u (RJ fun a1 u1 => Q (some (.int (a1 : Int64).toInt32)) u1)) : Ws G Pl_commonWith 0 [(0, .ref o0), (1, .int x1)] [] u Q := by
  refine ws_aload_n 0 (dcd d_Pl_commonWith_0 0 rfl) rfl ?_
  refine ws_getI f_Pl_9 rfl (dcd d_Pl_commonWith_0 1 rfl) k0 ?_
  refine ws_i2l (dcd d_Pl_commonWith_0 2 rfl) ?_
  refine ws_iload_n 1 (dcd d_Pl_commonWith_0 3 rfl) rfl ?_
  refine ws_i2l (dcd d_Pl_commonWith_0 4 rfl) ?_
  refine ws_callSJ (As := [.long ((mI u o0 0) : Int32).toInt64, .long (x1 : Int32).toInt64]) (st := []) (la := [(0, .long ((mI u o0 0) : Int32).toInt64), (2, .long (x1 : Int32).toInt64)]) (dcd d_Pl_commonWith_0 5 rfl) cs_D_greatestCommon k_Pl_65 ⟨by decide, by decide⟩ rfl (Nat.le_of_ble_eq_true rfl) (Nat.le_of_ble_eq_true rfl) rfl rfl h (fun a1 u1 h => ?_)
  refine ws_l2i (dcd d_Pl_commonWith_0 6 rfl) ?_
  exact ws_iret (dcd d_Pl_commonWith_0 7 rfl) ⟨_, rfl, rfl⟩ h
theorem sg_D_greatestCommon_0 {x0 : Int64} {x2 : Int64}  (h : Ws G D_greatestCommon 15 [(4, .long (if 0 < x0 then x0 else -x0)), (6, .long (if 0 < x2 then x2 else -x2)), (8, .int 0)] [] u Q) : Ws G D_greatestCommon 0 [(0, .long x0), (2, .long x2)] [] u Q := by
  refine ws_lload_n 0 (dcd d_D_greatestCommon_0 0 rfl) rfl ?_
  refine ws_absJ (st := []) (dcd d_D_greatestCommon_0 1 rfl) km_D_360 ms_absJ in_jm mc_absJ ⟨by decide, Nat.le_of_ble_eq_true rfl⟩ ?_
  refine ws_lstore (l' := [(4, .long (if 0 < x0 then x0 else -x0)), (0, .long x0), (2, .long x2)]) (dcd d_D_greatestCommon_0 2 rfl) (by decide) rfl ?_
  refine ws_lload_n 2 (dcd d_D_greatestCommon_0 3 rfl) rfl ?_
  refine ws_absJ (st := []) (dcd d_D_greatestCommon_0 4 rfl) km_D_360 ms_absJ in_jm mc_absJ ⟨by decide, Nat.le_of_ble_eq_true rfl⟩ ?_
  refine ws_lstore (l' := [(6, .long (if 0 < x2 then x2 else -x2)), (4, .long (if 0 < x0 then x0 else -x0)), (0, .long x0), (2, .long x2)]) (dcd d_D_greatestCommon_0 5 rfl) (by decide) rfl ?_
  refine ws_iconst (v := 0) (dcd d_D_greatestCommon_0 6 rfl) (by decide) ?_
  refine ws_istore (l' := [(8, .int 0), (6, .long (if 0 < x2 then x2 else -x2)), (4, .long (if 0 < x0 then x0 else -x0)), (0, .long x0), (2, .long x2)]) (dcd d_D_greatestCommon_0 7 rfl) (by decide) rfl ?_
  exact ws_loc [2, 1, 0] rfl h
theorem sg_D_greatestCommon_15 {x4 : Int64} {x6 : Int64} {x8 : Int32}  (h : ((128 ≤ x8 → Q (some (.long x4)) u) ∧ (¬ (128 ≤ x8) → (((lg_cmp x6 0) = 0 → Q (some (.long x4)) u) ∧ (¬ (lg_cmp x6 0) = 0 → (¬ x6 = 0 ∧ Ws G D_greatestCommon 15 [(4, .long x6), (6, .long (x4 - x4 / x6 * x6)), (8, .int (x8 + 1))] [] u Q)))))) : Ws G D_greatestCommon 15 [(4, .long x4), (6, .long x6), (8, .int x8)] [] u Q := by
  refine ws_iload 2 (dcd d_D_greatestCommon_0 8 rfl) rfl ?_
  refine ws_sipush (v := 128) (dcd d_D_greatestCommon_0 9 rfl) (by decide) ?_
  refine ws_icmp_ge (tgt := 51) (dcd d_D_greatestCommon_0 10 rfl) (by decide) (fun c1 => ?_) (fun c1 => ?_)
  · have h := h.1 c1
    refine ws_lload 0 (dcd d_D_greatestCommon_0 25 rfl) rfl ?_
    exact ws_lret (dcd d_D_greatestCommon_0 26 rfl) rfl h
  · have h := h.2 c1
    refine ws_lload 1 (dcd d_D_greatestCommon_0 11 rfl) rfl ?_
    refine ws_lconst (v := 0) (dcd d_D_greatestCommon_0 12 rfl) (by decide) ?_
    refine ws_lcmp (dcd d_D_greatestCommon_0 13 rfl) ?_
    refine ws_if_eq (tgt := 51) (dcd d_D_greatestCommon_0 14 rfl) (by decide) (fun c2 => ?_) (fun c2 => ?_)
    · have h := h.1 c2
      refine ws_lload 0 (dcd d_D_greatestCommon_0 25 rfl) rfl ?_
      exact ws_lret (dcd d_D_greatestCommon_0 26 rfl) rfl h
    · have h := h.2 c2
      refine ws_lload 0 (dcd d_D_greatestCommon_0 15 rfl) rfl ?_
      refine ws_lload 1 (dcd d_D_greatestCommon_0 16 rfl) rfl ?_
      obtain ⟨e3, h⟩ := h
      refine ws_lrem (dcd d_D_greatestCommon_0 17 rfl) e3 ?_
      refine ws_lstore (l' := [(9, .long (x4 - x4 / x6 * x6)), (4, .long x4), (6, .long x6), (8, .int x8)]) (dcd d_D_greatestCommon_0 18 rfl) (by decide) rfl ?_
      refine ws_lload 2 (dcd d_D_greatestCommon_0 19 rfl) rfl ?_
      refine ws_lstore (l' := [(4, .long x6), (9, .long (x4 - x4 / x6 * x6)), (6, .long x6), (8, .int x8)]) (dcd d_D_greatestCommon_0 20 rfl) (by decide) rfl ?_
      refine ws_lload 1 (dcd d_D_greatestCommon_0 21 rfl) rfl ?_
      refine ws_lstore (l' := [(6, .long (x4 - x4 / x6 * x6)), (4, .long x6), (9, .long (x4 - x4 / x6 * x6)), (8, .int x8)]) (dcd d_D_greatestCommon_0 22 rfl) (by decide) rfl ?_
      refine ws_iinc (v := 1) (l' := [(8, .int (x8 + 1)), (6, .long (x4 - x4 / x6 * x6)), (4, .long x6), (9, .long (x4 - x4 / x6 * x6))]) 3 (dcd d_D_greatestCommon_0 23 rfl) rfl (by decide) (by decide) rfl ?_
      refine ws_goto (tgt := 15) (dcd d_D_greatestCommon_0 24 rfl) (by decide) ?_
      exact ws_loc [2, 1, 0] rfl h
theorem sg_D_never_0 {x1 : Int32} {x2 : Int32} {x3 : Int32}  (h : Ws G D_areTwo 0 [(0, .ref 2), (1, .int x1), (2, .int x2)] [] u (RI fun a1 u1 => ((a1 = 0 → Q (some (.int (-1))) u1) ∧ (¬ a1 = 0 → (pl (mR u1 2 10) → (((0 ≤ x3 ∧ x3 < (mI u1 (mR u1 2 10) 0)) → (pl (mR u1 2 10) → (pl (mR u1 2 10) → (pl (mR u1 2 10) → Ws G Pl_commonWith 0 [(0, .ref (mR u1 2 10)), (1, .int ((mI u1 (shO u1 (mR u1 2 10) x2) 2) - (mI u1 (shO u1 (mR u1 2 10) x1) 2)))] [] u1 (RI fun a9 u9 => (pl (mR u9 2 10) → Ws G Pl_canMeet 0 [(0, .ref (mR u9 2 10)), (1, .int (x3 - ((snD u1 7 x2) - (snD u1 7 x1)))), (2, .int ((mI u1 (shO u1 (mR u1 2 10) x2) 2) - (mI u1 (shO u1 (mR u1 2 10) x1) 2)))] [] u9 (RI fun a11 u11 => ((a11 = 0 → Q (some (.int 1)) (pI u11 2 12 a9)) ∧ (¬ a11 = 0 → Q (some (.int 0)) (pI u11 2 12 a9)))))))))) ∧ (¬ (0 ≤ x3 ∧ x3 < (mI u1 (mR u1 2 10) 0)) → Q (some (.int (-1))) u1))))))) : Ws G D_never 0 [(0, .ref 2), (1, .int x1), (2, .int x2), (3, .int x3)] [] u Q := by
  refine ws_aload_n 0 (dcd d_D_never_0 0 rfl) rfl ?_
  refine ws_iload_n 1 (dcd d_D_never_0 1 rfl) rfl ?_
  refine ws_iload_n 2 (dcd d_D_never_0 2 rfl) rfl ?_
  refine ws_callVI (o := 2) (As := [.int x1, .int x2]) (st := []) (la := [(0, .ref 2), (1, .int x1), (2, .int x2)]) (dcd d_D_never_0 3 rfl) cv_D_areTwo k_D_240 ⟨by decide, by decide⟩ ok_2 rfl (Nat.le_of_ble_eq_true rfl) (Nat.le_of_ble_eq_true rfl) rfl rfl h (fun a1 u1 h => ?_)
  refine ws_if_eq (tgt := 20) (dcd d_D_never_0 4 rfl) (by decide) (fun c2 => ?_) (fun c2 => ?_)
  · have h := h.1 c2
    refine ws_iconst (v := (-1)) (dcd d_D_never_0 10 rfl) (by decide) ?_
    exact ws_iret (dcd d_D_never_0 11 rfl) ⟨_, rfl, rfl⟩ h
  · have h := h.2 c2
    refine ws_aload_n 0 (dcd d_D_never_0 5 rfl) rfl ?_
    refine ws_getP (by decide) f_D_63 (dcd d_D_never_0 6 rfl) (fun j3 => ?_)
    have h := h j3
    refine ws_iload_n 3 (dcd d_D_never_0 7 rfl) rfl ?_
    refine ws_callVI (o := (mR u1 2 10)) (As := [.int x3]) (st := []) (la := [(0, .ref (mR u1 2 10)), (1, .int x3)]) (dcd d_D_never_0 8 rfl) cv_Pl_hasDoor k_D_198 ⟨by decide, by decide⟩ (pl_ok j3) rfl (Nat.le_of_ble_eq_true rfl) (Nat.le_of_ble_eq_true rfl) rfl rfl (sp_Pl_hasDoor (pl_ok j3)) ?_
    rintro _ _ ⟨rfl, ⟨rfl, c4⟩ | ⟨rfl, c4⟩⟩
    · have h := h.1 c4
      refine ws_if_ne (tgt := 22) (dcd d_D_never_0 9 rfl) (by decide) (fun _ => ?_) (fun c => absurd c (by decide))
      refine ws_aload_n 0 (dcd d_D_never_0 12 rfl) rfl ?_
      refine ws_getF (a := 7) f_D_28 rfl (dcd d_D_never_0 13 rfl) ok_2 of_7_3 rfl ?_
      refine ws_iload_n 2 (dcd d_D_never_0 14 rfl) rfl ?_
      refine ws_callVI (o := 7) (As := [.int x2]) (st := []) (la := [(0, .ref 7), (1, .int x2)]) (dcd d_D_never_0 15 rfl) cv_Sn_doorOf k_D_217 ⟨by decide, by decide⟩ (os_7_3 ok_2) rfl (Nat.le_of_ble_eq_true rfl) (Nat.le_of_ble_eq_true rfl) rfl rfl (sp_Sn_doorOf (os_7_3 ok_2)) ?_
      rintro _ _ ⟨rfl, rfl⟩
      refine ws_aload_n 0 (dcd d_D_never_0 16 rfl) rfl ?_
      refine ws_getF (a := 7) f_D_28 rfl (dcd d_D_never_0 17 rfl) ok_2 of_7_3 rfl ?_
      refine ws_iload_n 1 (dcd d_D_never_0 18 rfl) rfl ?_
      refine ws_callVI (o := 7) (As := [.int x1]) (st := [.int (snD u1 7 x2)]) (la := [(0, .ref 7), (1, .int x1)]) (dcd d_D_never_0 19 rfl) cv_Sn_doorOf k_D_217 ⟨by decide, by decide⟩ (os_7_3 ok_2) rfl (Nat.le_of_ble_eq_true rfl) (Nat.le_of_ble_eq_true rfl) rfl rfl (sp_Sn_doorOf (os_7_3 ok_2)) ?_
      rintro _ _ ⟨rfl, rfl⟩
      refine ws_isub (dcd d_D_never_0 20 rfl) ?_
      refine ws_istore (l' := [(4, .int ((snD u1 7 x2) - (snD u1 7 x1))), (0, .ref 2), (1, .int x1), (2, .int x2), (3, .int x3)]) (dcd d_D_never_0 21 rfl) (by decide) rfl ?_
      refine ws_aload_n 1 (dcd d_D_never_0 22 rfl) rfl ?_
      refine ws_getP (by decide) f_D_63 (dcd d_D_never_0 23 rfl) (fun j6 => ?_)
      have h := h j6
      refine ws_iload_n 3 (dcd d_D_never_0 24 rfl) rfl ?_
      refine ws_callVR (o := (mR u1 2 10)) (As := [.int x2]) (st := []) (la := [(0, .ref (mR u1 2 10)), (1, .int x2)]) (dcd d_D_never_0 25 rfl) cv_Pl_shopOf k_D_170 ⟨by decide, by decide⟩ (pl_ok j6) rfl (Nat.le_of_ble_eq_true rfl) (Nat.le_of_ble_eq_true rfl) rfl rfl (sp_Pl_shopOf (pl_ok j6)) ?_
      rintro _ _ ⟨rfl, rfl⟩
      refine ws_getI f_D_246 rfl (dcd d_D_never_0 26 rfl) (shO_ok (pl_ok j6)) ?_
      refine ws_aload_n 1 (dcd d_D_never_0 27 rfl) rfl ?_
      refine ws_getP (by decide) f_D_63 (dcd d_D_never_0 28 rfl) (fun j7 => ?_)
      have h := h j7
      refine ws_iload_n 2 (dcd d_D_never_0 29 rfl) rfl ?_
      refine ws_callVR (o := (mR u1 2 10)) (As := [.int x1]) (st := [.int (mI u1 (shO u1 (mR u1 2 10) x2) 2)]) (la := [(0, .ref (mR u1 2 10)), (1, .int x1)]) (dcd d_D_never_1 0 rfl) cv_Pl_shopOf k_D_170 ⟨by decide, by decide⟩ (pl_ok j7) rfl (Nat.le_of_ble_eq_true rfl) (Nat.le_of_ble_eq_true rfl) rfl rfl (sp_Pl_shopOf (pl_ok j7)) ?_
      rintro _ _ ⟨rfl, rfl⟩
      refine ws_getI f_D_246 rfl (dcd d_D_never_1 1 rfl) (shO_ok (pl_ok j7)) ?_
      refine ws_isub (dcd d_D_never_1 2 rfl) ?_
      refine ws_istore (l' := [(5, .int ((mI u1 (shO u1 (mR u1 2 10) x2) 2) - (mI u1 (shO u1 (mR u1 2 10) x1) 2))), (4, .int ((snD u1 7 x2) - (snD u1 7 x1))), (0, .ref 2), (1, .int x1), (2, .int x2), (3, .int x3)]) (dcd d_D_never_1 3 rfl) (by decide) rfl ?_
      refine ws_aload_n 2 (dcd d_D_never_1 4 rfl) rfl ?_
      refine ws_aload_n 2 (dcd d_D_never_1 5 rfl) rfl ?_
      refine ws_getP (by decide) f_D_63 (dcd d_D_never_1 6 rfl) (fun j8 => ?_)
      have h := h j8
      refine ws_iload 0 (dcd d_D_never_1 7 rfl) rfl ?_
      refine ws_callVI (o := (mR u1 2 10)) (As := [.int ((mI u1 (shO u1 (mR u1 2 10) x2) 2) - (mI u1 (shO u1 (mR u1 2 10) x1) 2))]) (st := [.ref 2]) (la := [(0, .ref (mR u1 2 10)), (1, .int ((mI u1 (shO u1 (mR u1 2 10) x2) 2) - (mI u1 (shO u1 (mR u1 2 10) x1) 2)))]) (dcd d_D_never_1 8 rfl) cv_Pl_commonWith k_D_249 ⟨by decide, by decide⟩ (pl_ok j8) rfl (Nat.le_of_ble_eq_true rfl) (Nat.le_of_ble_eq_true rfl) rfl rfl h (fun a9 u9 h => ?_)
      refine ws_aload_n 2 (dcd d_D_never_1 9 rfl) rfl ?_
      refine ws_getP (by decide) f_D_63 (dcd d_D_never_1 10 rfl) (fun j10 => ?_)
      have h := h j10
      refine ws_iload_n 5 (dcd d_D_never_1 11 rfl) rfl ?_
      refine ws_iload 1 (dcd d_D_never_1 12 rfl) rfl ?_
      refine ws_isub (dcd d_D_never_1 13 rfl) ?_
      refine ws_iload 0 (dcd d_D_never_1 14 rfl) rfl ?_
      refine ws_callVI (o := (mR u9 2 10)) (As := [.int (x3 - ((snD u1 7 x2) - (snD u1 7 x1))), .int ((mI u1 (shO u1 (mR u1 2 10) x2) 2) - (mI u1 (shO u1 (mR u1 2 10) x1) 2))]) (st := [.int a9, .ref 2]) (la := [(0, .ref (mR u9 2 10)), (1, .int (x3 - ((snD u1 7 x2) - (snD u1 7 x1)))), (2, .int ((mI u1 (shO u1 (mR u1 2 10) x2) 2) - (mI u1 (shO u1 (mR u1 2 10) x1) 2)))]) (dcd d_D_never_1 15 rfl) cv_Pl_canMeet k_D_255 ⟨by decide, by decide⟩ (pl_ok j10) rfl (Nat.le_of_ble_eq_true rfl) (Nat.le_of_ble_eq_true rfl) rfl rfl h (fun a11 u11 h => ?_)
      refine ws_if_eq (tgt := 96) (dcd d_D_never_1 16 rfl) (by decide) (fun c12 => ?_) (fun c12 => ?_)
      · have h := h.1 c12
        refine ws_iconst (v := 1) (dcd d_D_never_1 19 rfl) (by decide) ?_
        refine ws_callVI (o := 2) (As := [.int a9, .int 1]) (st := []) (la := [(0, .ref 2), (1, .int a9), (2, .int 1)]) (dcd d_D_never_1 20 rfl) cv_D_tell k_D_113 ⟨by decide, by decide⟩ ok_2 rfl (Nat.le_of_ble_eq_true rfl) (Nat.le_of_ble_eq_true rfl) rfl rfl sp_D_tell ?_
        rintro _ _ ⟨rfl, rfl⟩
        exact ws_iret (dcd d_D_never_1 21 rfl) ⟨_, rfl, rfl⟩ h
      · have h := h.2 c12
        refine ws_iconst (v := 0) (dcd d_D_never_1 17 rfl) (by decide) ?_
        refine ws_goto (tgt := 97) (dcd d_D_never_1 18 rfl) (by decide) ?_
        refine ws_callVI (o := 2) (As := [.int a9, .int 0]) (st := []) (la := [(0, .ref 2), (1, .int a9), (2, .int 0)]) (dcd d_D_never_1 20 rfl) cv_D_tell k_D_113 ⟨by decide, by decide⟩ ok_2 rfl (Nat.le_of_ble_eq_true rfl) (Nat.le_of_ble_eq_true rfl) rfl rfl sp_D_tell ?_
        rintro _ _ ⟨rfl, rfl⟩
        exact ws_iret (dcd d_D_never_1 21 rfl) ⟨_, rfl, rfl⟩ h
    · have h := h.2 c4
      refine ws_if_ne (tgt := 22) (dcd d_D_never_0 9 rfl) (by decide) (fun c => absurd (show (0 : Int32) = 0 from by decide) c) (fun _ => ?_)
      refine ws_iconst (v := (-1)) (dcd d_D_never_0 10 rfl) (by decide) ?_
      exact ws_iret (dcd d_D_never_0 11 rfl) ⟨_, rfl, rfl⟩ h
theorem sg_Pl_canMeet_0 {o0 : Nat} {x1 : Int32} {x2 : Int32} (k0 : okS o0 2) (h : Ws G Pl_commonWith 0 [(0, .ref o0), (1, .int x2)] [] u (RI fun a1 u1 => ((a1 ≤ 0 → Q (some (.int 0)) u1) ∧ (¬ (a1 ≤ 0) → (¬ a1 = 0 ∧ ((¬ (x1 - x1 / a1 * a1) = 0 → Q (some (.int 0)) u1) ∧ ((x1 - x1 / a1 * a1) = 0 → Q (some (.int 1)) u1))))))) : Ws G Pl_canMeet 0 [(0, .ref o0), (1, .int x1), (2, .int x2)] [] u Q := by
  refine ws_aload_n 0 (dcd d_Pl_canMeet_0 0 rfl) rfl ?_
  refine ws_iload_n 2 (dcd d_Pl_canMeet_0 1 rfl) rfl ?_
  refine ws_callVI (o := o0) (As := [.int x2]) (st := []) (la := [(0, .ref o0), (1, .int x2)]) (dcd d_Pl_canMeet_0 2 rfl) cv_Pl_commonWith k_Pl_68 ⟨by decide, by decide⟩ k0 rfl (Nat.le_of_ble_eq_true rfl) (Nat.le_of_ble_eq_true rfl) rfl rfl h (fun a1 u1 h => ?_)
  refine ws_istore_n (l' := [(3, .int a1), (0, .ref o0), (1, .int x1), (2, .int x2)]) (dcd d_Pl_canMeet_0 3 rfl) (by decide) rfl ?_
  refine ws_iload_n 0 (dcd d_Pl_canMeet_0 4 rfl) rfl ?_
  refine ws_if_le (tgt := 20) (dcd d_Pl_canMeet_0 5 rfl) (by decide) (fun c2 => ?_) (fun c2 => ?_)
  · have h := h.1 c2
    refine ws_iconst (v := 0) (dcd d_Pl_canMeet_0 12 rfl) (by decide) ?_
    exact ws_iret (dcd d_Pl_canMeet_0 13 rfl) ⟨_, rfl, by decide⟩ h
  · have h := h.2 c2
    refine ws_iload_n 2 (dcd d_Pl_canMeet_0 6 rfl) rfl ?_
    refine ws_iload_n 0 (dcd d_Pl_canMeet_0 7 rfl) rfl ?_
    obtain ⟨e3, h⟩ := h
    refine ws_irem (dcd d_Pl_canMeet_0 8 rfl) e3 ?_
    refine ws_if_ne (tgt := 20) (dcd d_Pl_canMeet_0 9 rfl) (by decide) (fun c4 => ?_) (fun c4 => ?_)
    · have h := h.1 c4
      refine ws_iconst (v := 0) (dcd d_Pl_canMeet_0 12 rfl) (by decide) ?_
      exact ws_iret (dcd d_Pl_canMeet_0 13 rfl) ⟨_, rfl, by decide⟩ h
    · have h := h.2 c4
      refine ws_iconst (v := 1) (dcd d_Pl_canMeet_0 10 rfl) (by decide) ?_
      refine ws_goto (tgt := 21) (dcd d_Pl_canMeet_0 11 rfl) (by decide) ?_
      exact ws_iret (dcd d_Pl_canMeet_0 13 rfl) ⟨_, rfl, by decide⟩ h
theorem sg_D_walk_0 {x1 : Int32} {x2 : Int32}  (h : (pl (mR u 2 10) → (((0 ≤ x1 ∧ x1 < (mI u (mR u 2 10) 0)) → (pl (mR u 2 10) → (((0 ≤ x2 ∧ x2 < (mI u (mR u 2 10) 0)) → (pl (mR u 2 10) → Q (some (.int (wkV (mI u (mR u 2 10) 0) x1 x2))) u)) ∧ (¬ (0 ≤ x2 ∧ x2 < (mI u (mR u 2 10) 0)) → Q (some (.int (-1))) u)))) ∧ (¬ (0 ≤ x1 ∧ x1 < (mI u (mR u 2 10) 0)) → Q (some (.int (-1))) u)))) : Ws G D_walk 0 [(0, .ref 2), (1, .int x1), (2, .int x2)] [] u Q := by
  refine ws_aload_n 0 (dcd d_D_walk_0 0 rfl) rfl ?_
  refine ws_getP (by decide) f_D_63 (dcd d_D_walk_0 1 rfl) (fun j1 => ?_)
  have h := h j1
  refine ws_iload_n 1 (dcd d_D_walk_0 2 rfl) rfl ?_
  refine ws_callVI (o := (mR u 2 10)) (As := [.int x1]) (st := []) (la := [(0, .ref (mR u 2 10)), (1, .int x1)]) (dcd d_D_walk_0 3 rfl) cv_Pl_hasDoor k_D_198 ⟨by decide, by decide⟩ (pl_ok j1) rfl (Nat.le_of_ble_eq_true rfl) (Nat.le_of_ble_eq_true rfl) rfl rfl (sp_Pl_hasDoor (pl_ok j1)) ?_
  rintro _ _ ⟨rfl, ⟨rfl, c2⟩ | ⟨rfl, c2⟩⟩
  · have h := h.1 c2
    refine ws_if_eq (tgt := 22) (dcd d_D_walk_0 4 rfl) (by decide) (fun c => absurd c (by decide)) (fun _ => ?_)
    refine ws_aload_n 0 (dcd d_D_walk_0 5 rfl) rfl ?_
    refine ws_getP (by decide) f_D_63 (dcd d_D_walk_0 6 rfl) (fun j4 => ?_)
    have h := h j4
    refine ws_iload_n 2 (dcd d_D_walk_0 7 rfl) rfl ?_
    refine ws_callVI (o := (mR u 2 10)) (As := [.int x2]) (st := []) (la := [(0, .ref (mR u 2 10)), (1, .int x2)]) (dcd d_D_walk_0 8 rfl) cv_Pl_hasDoor k_D_198 ⟨by decide, by decide⟩ (pl_ok j4) rfl (Nat.le_of_ble_eq_true rfl) (Nat.le_of_ble_eq_true rfl) rfl rfl (sp_Pl_hasDoor (pl_ok j4)) ?_
    rintro _ _ ⟨rfl, ⟨rfl, c5⟩ | ⟨rfl, c5⟩⟩
    · have h := h.1 c5
      refine ws_if_ne (tgt := 24) (dcd d_D_walk_0 9 rfl) (by decide) (fun _ => ?_) (fun c => absurd c (by decide))
      refine ws_aload_n 0 (dcd d_D_walk_0 12 rfl) rfl ?_
      refine ws_getP (by decide) f_D_63 (dcd d_D_walk_0 13 rfl) (fun j7 => ?_)
      have h := h j7
      refine ws_iload_n 1 (dcd d_D_walk_0 14 rfl) rfl ?_
      refine ws_iload_n 2 (dcd d_D_walk_0 15 rfl) rfl ?_
      refine ws_callVI (o := (mR u 2 10)) (As := [.int x1, .int x2]) (st := []) (la := [(0, .ref (mR u 2 10)), (1, .int x1), (2, .int x2)]) (dcd d_D_walk_0 16 rfl) cv_Pl_walking k_D_243 ⟨by decide, by decide⟩ (pl_ok j7) rfl (Nat.le_of_ble_eq_true rfl) (Nat.le_of_ble_eq_true rfl) rfl rfl (sp_Pl_walking (pl_ok j7)) ?_
      rintro _ _ ⟨rfl, rfl⟩
      exact ws_iret (dcd d_D_walk_0 17 rfl) ⟨_, rfl, rfl⟩ h
    · have h := h.2 c5
      refine ws_if_ne (tgt := 24) (dcd d_D_walk_0 9 rfl) (by decide) (fun c => absurd (show (0 : Int32) = 0 from by decide) c) (fun _ => ?_)
      refine ws_iconst (v := (-1)) (dcd d_D_walk_0 10 rfl) (by decide) ?_
      exact ws_iret (dcd d_D_walk_0 11 rfl) ⟨_, rfl, rfl⟩ h
  · have h := h.2 c2
    refine ws_if_eq (tgt := 22) (dcd d_D_walk_0 4 rfl) (by decide) (fun _ => ?_) (fun c => absurd (show (0 : Int32) = 0 from by decide) c)
    refine ws_iconst (v := (-1)) (dcd d_D_walk_0 10 rfl) (by decide) ?_
    exact ws_iret (dcd d_D_walk_0 11 rfl) ⟨_, rfl, rfl⟩ h
theorem sg_D_round_0 {x1 : Int32} {x2 : Int32}  (h : (pl (mR u 2 10) → (((0 ≤ x1 ∧ x1 < (mI u (mR u 2 10) 0)) → (pl (mR u 2 10) → (((0 ≤ x2 ∧ x2 >>> ((mI u (mR u 2 10) 1) &&& 31) = 0) → (pl (mR u 2 10) → Ws G Sn_roundOf 0 [(0, .ref 7), (1, .ref (mR u 2 10)), (2, .int x1), (3, .int x2)] [] u (RI fun a8 u8 => Q (some (.int a8)) u8))) ∧ (¬ (0 ≤ x2 ∧ x2 >>> ((mI u (mR u 2 10) 1) &&& 31) = 0) → Q (some (.int (-1))) u)))) ∧ (¬ (0 ≤ x1 ∧ x1 < (mI u (mR u 2 10) 0)) → Q (some (.int (-1))) u)))) : Ws G D_round 0 [(0, .ref 2), (1, .int x1), (2, .int x2)] [] u Q := by
  refine ws_aload_n 0 (dcd d_D_round_0 0 rfl) rfl ?_
  refine ws_getP (by decide) f_D_63 (dcd d_D_round_0 1 rfl) (fun j1 => ?_)
  have h := h j1
  refine ws_iload_n 1 (dcd d_D_round_0 2 rfl) rfl ?_
  refine ws_callVI (o := (mR u 2 10)) (As := [.int x1]) (st := []) (la := [(0, .ref (mR u 2 10)), (1, .int x1)]) (dcd d_D_round_0 3 rfl) cv_Pl_hasDoor k_D_198 ⟨by decide, by decide⟩ (pl_ok j1) rfl (Nat.le_of_ble_eq_true rfl) (Nat.le_of_ble_eq_true rfl) rfl rfl (sp_Pl_hasDoor (pl_ok j1)) ?_
  rintro _ _ ⟨rfl, ⟨rfl, c2⟩ | ⟨rfl, c2⟩⟩
  · have h := h.1 c2
    refine ws_if_eq (tgt := 22) (dcd d_D_round_0 4 rfl) (by decide) (fun c => absurd c (by decide)) (fun _ => ?_)
    refine ws_aload_n 0 (dcd d_D_round_0 5 rfl) rfl ?_
    refine ws_getP (by decide) f_D_63 (dcd d_D_round_0 6 rfl) (fun j4 => ?_)
    have h := h j4
    refine ws_iload_n 2 (dcd d_D_round_0 7 rfl) rfl ?_
    refine ws_callVI (o := (mR u 2 10)) (As := [.int x2]) (st := []) (la := [(0, .ref (mR u 2 10)), (1, .int x2)]) (dcd d_D_round_0 8 rfl) cv_Pl_hasSet k_D_258 ⟨by decide, by decide⟩ (pl_ok j4) rfl (Nat.le_of_ble_eq_true rfl) (Nat.le_of_ble_eq_true rfl) rfl rfl (sp_Pl_hasSet (pl_ok j4)) ?_
    rintro _ _ ⟨rfl, ⟨rfl, c5⟩ | ⟨rfl, c5⟩⟩
    · have h := h.1 c5
      refine ws_if_ne (tgt := 24) (dcd d_D_round_0 9 rfl) (by decide) (fun _ => ?_) (fun c => absurd c (by decide))
      refine ws_aload_n 0 (dcd d_D_round_0 12 rfl) rfl ?_
      refine ws_getF (a := 7) f_D_28 rfl (dcd d_D_round_0 13 rfl) ok_2 of_7_3 rfl ?_
      refine ws_aload_n 0 (dcd d_D_round_0 14 rfl) rfl ?_
      refine ws_getP (by decide) f_D_63 (dcd d_D_round_0 15 rfl) (fun j7 => ?_)
      have h := h j7
      refine ws_iload_n 1 (dcd d_D_round_0 16 rfl) rfl ?_
      refine ws_iload_n 2 (dcd d_D_round_0 17 rfl) rfl ?_
      refine ws_callVI (o := 7) (As := [.ref (mR u 2 10), .int x1, .int x2]) (st := []) (la := [(0, .ref 7), (1, .ref (mR u 2 10)), (2, .int x1), (3, .int x2)]) (dcd d_D_round_0 18 rfl) cv_Sn_roundOf k_D_261 ⟨by decide, by decide⟩ (os_7_3 ok_2) rfl (Nat.le_of_ble_eq_true rfl) (Nat.le_of_ble_eq_true rfl) rfl rfl h (fun a8 u8 h => ?_)
      exact ws_iret (dcd d_D_round_0 19 rfl) ⟨_, rfl, rfl⟩ h
    · have h := h.2 c5
      refine ws_if_ne (tgt := 24) (dcd d_D_round_0 9 rfl) (by decide) (fun c => absurd (show (0 : Int32) = 0 from by decide) c) (fun _ => ?_)
      refine ws_iconst (v := (-1)) (dcd d_D_round_0 10 rfl) (by decide) ?_
      exact ws_iret (dcd d_D_round_0 11 rfl) ⟨_, rfl, rfl⟩ h
  · have h := h.2 c2
    refine ws_if_eq (tgt := 22) (dcd d_D_round_0 4 rfl) (by decide) (fun _ => ?_) (fun c => absurd (show (0 : Int32) = 0 from by decide) c)
    refine ws_iconst (v := (-1)) (dcd d_D_round_0 10 rfl) (by decide) ?_
    exact ws_iret (dcd d_D_round_0 11 rfl) ⟨_, rfl, rfl⟩ h
theorem sg_Sn_roundOf_0 {o0 : Nat} {o1 : Nat} {x2 : Int32} {x3 : Int32} (k0 : okS o0 5) (k1 : okS o1 2) (h : Ws G Sn_roundOf 6 [(0, .ref o0), (1, .ref o1), (2, .int x2), (3, .int x3), (4, .int 0), (5, .int 0)] [] u Q) : Ws G Sn_roundOf 0 [(0, .ref o0), (1, .ref o1), (2, .int x2), (3, .int x3)] [] u Q := by
  refine ws_iconst (v := 0) (dcd d_Sn_roundOf_0 0 rfl) (by decide) ?_
  refine ws_istore (l' := [(4, .int 0), (0, .ref o0), (1, .ref o1), (2, .int x2), (3, .int x3)]) (dcd d_Sn_roundOf_0 1 rfl) (by decide) rfl ?_
  refine ws_iconst (v := 0) (dcd d_Sn_roundOf_0 2 rfl) (by decide) ?_
  refine ws_istore (l' := [(5, .int 0), (4, .int 0), (0, .ref o0), (1, .ref o1), (2, .int x2), (3, .int x3)]) (dcd d_Sn_roundOf_0 3 rfl) (by decide) rfl ?_
  exact ws_loc [2, 3, 4, 5, 1, 0] rfl h
theorem sg_Sn_roundOf_6 {o0 : Nat} {o1 : Nat} {x2 : Int32} {x3 : Int32} {x4 : Int32} {x5 : Int32} (k0 : okS o0 5) (k1 : okS o1 2) (h : (((mI u o1 1) ≤ x5 → Ws G Sn_roundOf 59 [(1, .ref o1), (4, .int x4), (5, .int 0), (6, .int 0), (7, .int 1)] [] u Q) ∧ (¬ ((mI u o1 1) ≤ x5) → (((isI x3 x5) → Ws G Sn_roundOf 6 [(0, .ref o0), (1, .ref o1), (2, .int x2), (3, .int x3), (4, .int (x4 ||| (1 <<< ((wrV (mI u o1 0) (((snD u o0 x5) - x2) : Int32).toInt64) &&& 31)))), (5, .int (x5 + 1))] [] u Q) ∧ (¬ (isI x3 x5) → Ws G Sn_roundOf 6 [(0, .ref o0), (1, .ref o1), (2, .int x2), (3, .int x3), (4, .int x4), (5, .int (x5 + 1))] [] u Q))))) : Ws G Sn_roundOf 6 [(0, .ref o0), (1, .ref o1), (2, .int x2), (3, .int x3), (4, .int x4), (5, .int x5)] [] u Q := by
  refine ws_iload 5 (dcd d_Sn_roundOf_0 4 rfl) rfl ?_
  refine ws_aload_n 1 (dcd d_Sn_roundOf_0 5 rfl) rfl ?_
  refine ws_getI f_Sn_22 rfl (dcd d_Sn_roundOf_0 6 rfl) k1 ?_
  refine ws_icmp_ge (tgt := 50) (dcd d_Sn_roundOf_0 7 rfl) (by decide) (fun c1 => ?_) (fun c1 => ?_)
  · have h := h.1 c1
    refine ws_iconst (v := 0) (dcd d_Sn_roundOf_0 27 rfl) (by decide) ?_
    refine ws_istore (l' := [(5, .int 0), (0, .ref o0), (1, .ref o1), (2, .int x2), (3, .int x3), (4, .int x4)]) (dcd d_Sn_roundOf_0 28 rfl) (by decide) rfl ?_
    refine ws_iconst (v := 0) (dcd d_Sn_roundOf_0 29 rfl) (by decide) ?_
    refine ws_istore (l' := [(6, .int 0), (5, .int 0), (0, .ref o0), (1, .ref o1), (2, .int x2), (3, .int x3), (4, .int x4)]) (dcd d_Sn_roundOf_1 0 rfl) (by decide) rfl ?_
    refine ws_iconst (v := 1) (dcd d_Sn_roundOf_1 1 rfl) (by decide) ?_
    refine ws_istore (l' := [(7, .int 1), (6, .int 0), (5, .int 0), (0, .ref o0), (1, .ref o1), (2, .int x2), (3, .int x3), (4, .int x4)]) (dcd d_Sn_roundOf_1 2 rfl) (by decide) rfl ?_
    exact ws_loc [4, 7, 2, 1, 0] rfl h
  · have h := h.2 c1
    refine ws_iload_n 3 (dcd d_Sn_roundOf_0 8 rfl) rfl ?_
    refine ws_iload 5 (dcd d_Sn_roundOf_0 9 rfl) rfl ?_
    refine ws_callSI (As := [.int x3, .int x5]) (st := []) (la := [(0, .int x3), (1, .int x5)]) (dcd d_Sn_roundOf_0 10 rfl) cs_D_isIn k_Sn_46 ⟨by decide, by decide⟩ rfl (Nat.le_of_ble_eq_true rfl) (Nat.le_of_ble_eq_true rfl) rfl rfl sp_D_isIn ?_
    rintro _ _ ⟨rfl, ⟨rfl, c2⟩ | ⟨rfl, c2⟩⟩
    · have h := h.1 c2
      refine ws_if_eq (tgt := 44) (dcd d_Sn_roundOf_0 11 rfl) (by decide) (fun c => absurd c (by decide)) (fun _ => ?_)
      refine ws_iload 4 (dcd d_Sn_roundOf_0 12 rfl) rfl ?_
      refine ws_iconst (v := 1) (dcd d_Sn_roundOf_0 13 rfl) (by decide) ?_
      refine ws_aload_n 1 (dcd d_Sn_roundOf_0 14 rfl) rfl ?_
      refine ws_aload_n 0 (dcd d_Sn_roundOf_0 15 rfl) rfl ?_
      refine ws_iload 5 (dcd d_Sn_roundOf_0 16 rfl) rfl ?_
      refine ws_callVI (o := o0) (As := [.int x5]) (st := [.ref o1, .int 1, .int x4]) (la := [(0, .ref o0), (1, .int x5)]) (dcd d_Sn_roundOf_0 17 rfl) cv_Sn_doorOf k_Sn_56 ⟨by decide, by decide⟩ k0 rfl (Nat.le_of_ble_eq_true rfl) (Nat.le_of_ble_eq_true rfl) rfl rfl (sp_Sn_doorOf k0) ?_
      rintro _ _ ⟨rfl, rfl⟩
      refine ws_iload_n 2 (dcd d_Sn_roundOf_0 18 rfl) rfl ?_
      refine ws_isub (dcd d_Sn_roundOf_0 19 rfl) ?_
      refine ws_i2l (dcd d_Sn_roundOf_0 20 rfl) ?_
      refine ws_callVI (o := o1) (As := [.long (((snD u o0 x5) - x2) : Int32).toInt64]) (st := [.int 1, .int x4]) (la := [(0, .ref o1), (1, .long (((snD u o0 x5) - x2) : Int32).toInt64)]) (dcd d_Sn_roundOf_0 21 rfl) cv_Pl_wrapped k_Sn_62 ⟨by decide, by decide⟩ k1 rfl (Nat.le_of_ble_eq_true rfl) (Nat.le_of_ble_eq_true rfl) rfl rfl (sp_Pl_wrapped k1) ?_
      rintro _ _ ⟨rfl, rfl⟩
      refine ws_ishl (dcd d_Sn_roundOf_0 22 rfl) ?_
      refine ws_ior (dcd d_Sn_roundOf_0 23 rfl) ?_
      refine ws_istore (l' := [(4, .int (x4 ||| (1 <<< ((wrV (mI u o1 0) (((snD u o0 x5) - x2) : Int32).toInt64) &&& 31)))), (0, .ref o0), (1, .ref o1), (2, .int x2), (3, .int x3), (5, .int x5)]) (dcd d_Sn_roundOf_0 24 rfl) (by decide) rfl ?_
      refine ws_iinc (v := 1) (l' := [(5, .int (x5 + 1)), (4, .int (x4 ||| (1 <<< ((wrV (mI u o1 0) (((snD u o0 x5) - x2) : Int32).toInt64) &&& 31)))), (0, .ref o0), (1, .ref o1), (2, .int x2), (3, .int x3)]) 5 (dcd d_Sn_roundOf_0 25 rfl) rfl (by decide) (by decide) rfl ?_
      refine ws_goto (tgt := 6) (dcd d_Sn_roundOf_0 26 rfl) (by decide) ?_
      exact ws_loc [2, 3, 4, 5, 1, 0] rfl h
    · have h := h.2 c2
      refine ws_if_eq (tgt := 44) (dcd d_Sn_roundOf_0 11 rfl) (by decide) (fun _ => ?_) (fun c => absurd (show (0 : Int32) = 0 from by decide) c)
      refine ws_iinc (v := 1) (l' := [(5, .int (x5 + 1)), (0, .ref o0), (1, .ref o1), (2, .int x2), (3, .int x3), (4, .int x4)]) 5 (dcd d_Sn_roundOf_0 25 rfl) rfl (by decide) (by decide) rfl ?_
      refine ws_goto (tgt := 6) (dcd d_Sn_roundOf_0 26 rfl) (by decide) ?_
      exact ws_loc [1, 2, 3, 4, 5, 0] rfl h
theorem sg_Sn_roundOf_59 {o1 : Nat} {x4 : Int32} {x5 : Int32} {x6 : Int32} {x7 : Int32} (k1 : okS o1 2) (h : (((mI u o1 0) < x7 → Q (some (.int (if (2 * ((mI u o1 0) - x5)) < (mI u o1 0) then (2 * ((mI u o1 0) - x5)) else (mI u o1 0)))) u) ∧ (¬ ((mI u o1 0) < x7) → ((x7 = (mI u o1 0) → Ws G Sn_roundOf 59 [(1, .ref o1), (4, .int x4), (5, .int (if x5 < (x7 - x6) then (x7 - x6) else x5)), (6, .int x7), (7, .int (x7 + 1))] [] u Q) ∧ (¬ x7 = (mI u o1 0) → (((isI x4 x7) → Ws G Sn_roundOf 59 [(1, .ref o1), (4, .int x4), (5, .int (if x5 < (x7 - x6) then (x7 - x6) else x5)), (6, .int x7), (7, .int (x7 + 1))] [] u Q) ∧ (¬ (isI x4 x7) → Ws G Sn_roundOf 59 [(1, .ref o1), (4, .int x4), (5, .int x5), (6, .int x6), (7, .int (x7 + 1))] [] u Q))))))) : Ws G Sn_roundOf 59 [(1, .ref o1), (4, .int x4), (5, .int x5), (6, .int x6), (7, .int x7)] [] u Q := by
  refine ws_iload 4 (dcd d_Sn_roundOf_1 3 rfl) rfl ?_
  refine ws_aload_n 0 (dcd d_Sn_roundOf_1 4 rfl) rfl ?_
  refine ws_getI f_Sn_73 rfl (dcd d_Sn_roundOf_1 5 rfl) k1 ?_
  refine ws_icmp_gt (tgt := 109) (dcd d_Sn_roundOf_1 6 rfl) (by decide) (fun c1 => ?_) (fun c1 => ?_)
  · have h := h.1 c1
    refine ws_aload_n 0 (dcd d_Sn_roundOf_1 25 rfl) rfl ?_
    refine ws_getI f_Sn_73 rfl (dcd d_Sn_roundOf_1 26 rfl) k1 ?_
    refine ws_iconst (v := 2) (dcd d_Sn_roundOf_1 27 rfl) (by decide) ?_
    refine ws_aload_n 0 (dcd d_Sn_roundOf_1 28 rfl) rfl ?_
    refine ws_getI f_Sn_73 rfl (dcd d_Sn_roundOf_1 29 rfl) k1 ?_
    refine ws_iload 2 (dcd d_Sn_roundOf_2 0 rfl) rfl ?_
    refine ws_isub (dcd d_Sn_roundOf_2 1 rfl) ?_
    refine ws_imul (dcd d_Sn_roundOf_2 2 rfl) ?_
    refine ws_minI (st := []) (dcd d_Sn_roundOf_2 3 rfl) km_Sn_81 ms_minI in_jm mc_minI ⟨by decide, Nat.le_of_ble_eq_true rfl⟩ ?_
    exact ws_iret (dcd d_Sn_roundOf_2 4 rfl) ⟨_, rfl, rfl⟩ h
  · have h := h.2 c1
    refine ws_iload 4 (dcd d_Sn_roundOf_1 7 rfl) rfl ?_
    refine ws_aload_n 0 (dcd d_Sn_roundOf_1 8 rfl) rfl ?_
    refine ws_getI f_Sn_73 rfl (dcd d_Sn_roundOf_1 9 rfl) k1 ?_
    refine ws_icmp_eq (tgt := 87) (dcd d_Sn_roundOf_1 10 rfl) (by decide) (fun c2 => ?_) (fun c2 => ?_)
    · have h := h.1 c2
      refine ws_iload 2 (dcd d_Sn_roundOf_1 15 rfl) rfl ?_
      refine ws_iload 4 (dcd d_Sn_roundOf_1 16 rfl) rfl ?_
      refine ws_iload 3 (dcd d_Sn_roundOf_1 17 rfl) rfl ?_
      refine ws_isub (dcd d_Sn_roundOf_1 18 rfl) ?_
      refine ws_maxI (st := []) (dcd d_Sn_roundOf_1 19 rfl) km_Sn_75 ms_maxI in_jm mc_maxI ⟨by decide, Nat.le_of_ble_eq_true rfl⟩ ?_
      refine ws_istore (l' := [(5, .int (if x5 < (x7 - x6) then (x7 - x6) else x5)), (1, .ref o1), (4, .int x4), (6, .int x6), (7, .int x7)]) (dcd d_Sn_roundOf_1 20 rfl) (by decide) rfl ?_
      refine ws_iload 4 (dcd d_Sn_roundOf_1 21 rfl) rfl ?_
      refine ws_istore (l' := [(6, .int x7), (5, .int (if x5 < (x7 - x6) then (x7 - x6) else x5)), (1, .ref o1), (4, .int x4), (7, .int x7)]) (dcd d_Sn_roundOf_1 22 rfl) (by decide) rfl ?_
      refine ws_iinc (v := 1) (l' := [(7, .int (x7 + 1)), (6, .int x7), (5, .int (if x5 < (x7 - x6) then (x7 - x6) else x5)), (1, .ref o1), (4, .int x4)]) 4 (dcd d_Sn_roundOf_1 23 rfl) rfl (by decide) (by decide) rfl ?_
      refine ws_goto (tgt := 59) (dcd d_Sn_roundOf_1 24 rfl) (by decide) ?_
      exact ws_loc [3, 4, 2, 1, 0] rfl h
    · have h := h.2 c2
      refine ws_iload 1 (dcd d_Sn_roundOf_1 11 rfl) rfl ?_
      refine ws_iload 4 (dcd d_Sn_roundOf_1 12 rfl) rfl ?_
      refine ws_callSI (As := [.int x4, .int x7]) (st := []) (la := [(0, .int x4), (1, .int x7)]) (dcd d_Sn_roundOf_1 13 rfl) cs_D_isIn k_Sn_46 ⟨by decide, by decide⟩ rfl (Nat.le_of_ble_eq_true rfl) (Nat.le_of_ble_eq_true rfl) rfl rfl sp_D_isIn ?_
      rintro _ _ ⟨rfl, ⟨rfl, c3⟩ | ⟨rfl, c3⟩⟩
      · have h := h.1 c3
        refine ws_if_eq (tgt := 103) (dcd d_Sn_roundOf_1 14 rfl) (by decide) (fun c => absurd c (by decide)) (fun _ => ?_)
        refine ws_iload 2 (dcd d_Sn_roundOf_1 15 rfl) rfl ?_
        refine ws_iload 4 (dcd d_Sn_roundOf_1 16 rfl) rfl ?_
        refine ws_iload 3 (dcd d_Sn_roundOf_1 17 rfl) rfl ?_
        refine ws_isub (dcd d_Sn_roundOf_1 18 rfl) ?_
        refine ws_maxI (st := []) (dcd d_Sn_roundOf_1 19 rfl) km_Sn_75 ms_maxI in_jm mc_maxI ⟨by decide, Nat.le_of_ble_eq_true rfl⟩ ?_
        refine ws_istore (l' := [(5, .int (if x5 < (x7 - x6) then (x7 - x6) else x5)), (1, .ref o1), (4, .int x4), (6, .int x6), (7, .int x7)]) (dcd d_Sn_roundOf_1 20 rfl) (by decide) rfl ?_
        refine ws_iload 4 (dcd d_Sn_roundOf_1 21 rfl) rfl ?_
        refine ws_istore (l' := [(6, .int x7), (5, .int (if x5 < (x7 - x6) then (x7 - x6) else x5)), (1, .ref o1), (4, .int x4), (7, .int x7)]) (dcd d_Sn_roundOf_1 22 rfl) (by decide) rfl ?_
        refine ws_iinc (v := 1) (l' := [(7, .int (x7 + 1)), (6, .int x7), (5, .int (if x5 < (x7 - x6) then (x7 - x6) else x5)), (1, .ref o1), (4, .int x4)]) 4 (dcd d_Sn_roundOf_1 23 rfl) rfl (by decide) (by decide) rfl ?_
        refine ws_goto (tgt := 59) (dcd d_Sn_roundOf_1 24 rfl) (by decide) ?_
        exact ws_loc [3, 4, 2, 1, 0] rfl h
      · have h := h.2 c3
        refine ws_if_eq (tgt := 103) (dcd d_Sn_roundOf_1 14 rfl) (by decide) (fun _ => ?_) (fun c => absurd (show (0 : Int32) = 0 from by decide) c)
        refine ws_iinc (v := 1) (l' := [(7, .int (x7 + 1)), (1, .ref o1), (4, .int x4), (5, .int x5), (6, .int x6)]) 4 (dcd d_Sn_roundOf_1 23 rfl) rfl (by decide) (by decide) rfl ?_
        refine ws_goto (tgt := 59) (dcd d_Sn_roundOf_1 24 rfl) (by decide) ?_
        exact ws_loc [1, 2, 3, 4, 0] rfl h
theorem sg_D_best_0 {x1 : Int32} {x2 : Int32} {x3 : Int32}  (h : (pl (mR u 2 10) → (((0 ≤ x1 ∧ x1 < (mI u (mR u 2 10) 0)) → (pl (mR u 2 10) → (((0 ≤ x2 ∧ x2 >>> ((mI u (mR u 2 10) 1) &&& 31) = 0) → ((x3 < 0 → Q (some (.int (-1))) u) ∧ (¬ (x3 < 0) → ((x3 ≤ 60 → (pl (mR u 2 10) → Ws G D_best 62 [(0, .ref 2), (1, .int x1), (2, .int x2), (3, .int x3), (4, .int 0), (5, .int ((mI u (mR u 2 10) 0) + 1)), (6, .int 0)] [] (snB u 10 7) Q)) ∧ (¬ (x3 ≤ 60) → Q (some (.int (-1))) u))))) ∧ (¬ (0 ≤ x2 ∧ x2 >>> ((mI u (mR u 2 10) 1) &&& 31) = 0) → Q (some (.int (-1))) u)))) ∧ (¬ (0 ≤ x1 ∧ x1 < (mI u (mR u 2 10) 0)) → Q (some (.int (-1))) u)))) : Ws G D_best 0 [(0, .ref 2), (1, .int x1), (2, .int x2), (3, .int x3)] [] u Q := by
  refine ws_aload_n 0 (dcd d_D_best_0 0 rfl) rfl ?_
  refine ws_getP (by decide) f_D_63 (dcd d_D_best_0 1 rfl) (fun j1 => ?_)
  have h := h j1
  refine ws_iload_n 1 (dcd d_D_best_0 2 rfl) rfl ?_
  refine ws_callVI (o := (mR u 2 10)) (As := [.int x1]) (st := []) (la := [(0, .ref (mR u 2 10)), (1, .int x1)]) (dcd d_D_best_0 3 rfl) cv_Pl_hasDoor k_D_198 ⟨by decide, by decide⟩ (pl_ok j1) rfl (Nat.le_of_ble_eq_true rfl) (Nat.le_of_ble_eq_true rfl) rfl rfl (sp_Pl_hasDoor (pl_ok j1)) ?_
  rintro _ _ ⟨rfl, ⟨rfl, c2⟩ | ⟨rfl, c2⟩⟩
  · have h := h.1 c2
    refine ws_if_eq (tgt := 32) (dcd d_D_best_0 4 rfl) (by decide) (fun c => absurd c (by decide)) (fun _ => ?_)
    refine ws_aload_n 0 (dcd d_D_best_0 5 rfl) rfl ?_
    refine ws_getP (by decide) f_D_63 (dcd d_D_best_0 6 rfl) (fun j4 => ?_)
    have h := h j4
    refine ws_iload_n 2 (dcd d_D_best_0 7 rfl) rfl ?_
    refine ws_callVI (o := (mR u 2 10)) (As := [.int x2]) (st := []) (la := [(0, .ref (mR u 2 10)), (1, .int x2)]) (dcd d_D_best_0 8 rfl) cv_Pl_hasSet k_D_258 ⟨by decide, by decide⟩ (pl_ok j4) rfl (Nat.le_of_ble_eq_true rfl) (Nat.le_of_ble_eq_true rfl) rfl rfl (sp_Pl_hasSet (pl_ok j4)) ?_
    rintro _ _ ⟨rfl, ⟨rfl, c5⟩ | ⟨rfl, c5⟩⟩
    · have h := h.1 c5
      refine ws_if_eq (tgt := 32) (dcd d_D_best_0 9 rfl) (by decide) (fun c => absurd c (by decide)) (fun _ => ?_)
      refine ws_iload_n 3 (dcd d_D_best_0 10 rfl) rfl ?_
      refine ws_if_lt (tgt := 32) (dcd d_D_best_0 11 rfl) (by decide) (fun c7 => ?_) (fun c7 => ?_)
      · have h := h.1 c7
        refine ws_iconst (v := (-1)) (dcd d_D_best_0 15 rfl) (by decide) ?_
        exact ws_iret (dcd d_D_best_0 16 rfl) ⟨_, rfl, rfl⟩ h
      · have h := h.2 c7
        refine ws_iload_n 3 (dcd d_D_best_0 12 rfl) rfl ?_
        refine ws_bipush (v := 60) (dcd d_D_best_0 13 rfl) (by decide) ?_
        refine ws_icmp_le (tgt := 34) (dcd d_D_best_0 14 rfl) (by decide) (fun c8 => ?_) (fun c8 => ?_)
        · have h := h.1 c8
          refine ws_iconst (v := 0) (dcd d_D_best_0 17 rfl) (by decide) ?_
          refine ws_istore (l' := [(4, .int 0), (0, .ref 2), (1, .int x1), (2, .int x2), (3, .int x3)]) (dcd d_D_best_0 18 rfl) (by decide) rfl ?_
          refine ws_aload_n 1 (dcd d_D_best_0 19 rfl) rfl ?_
          refine ws_getP (by decide) f_D_63 (dcd d_D_best_0 20 rfl) (fun j9 => ?_)
          have h := h j9
          refine ws_getI f_D_252 rfl (dcd d_D_best_0 21 rfl) (pl_ok j9) ?_
          refine ws_iconst (v := 1) (dcd d_D_best_0 22 rfl) (by decide) ?_
          refine ws_iadd (dcd d_D_best_0 23 rfl) ?_
          refine ws_istore (l' := [(5, .int ((mI u (mR u 2 10) 0) + 1)), (4, .int 0), (0, .ref 2), (1, .int x1), (2, .int x2), (3, .int x3)]) (dcd d_D_best_0 24 rfl) (by decide) rfl ?_
          refine ws_aload_n 2 (dcd d_D_best_0 25 rfl) rfl ?_
          refine ws_getF (a := 10) f_D_36 rfl (dcd d_D_best_0 26 rfl) ok_2 of_7_5 rfl ?_
          refine ws_aload_n 2 (dcd d_D_best_0 27 rfl) rfl ?_
          refine ws_getF (a := 7) f_D_28 rfl (dcd d_D_best_0 28 rfl) ok_2 of_7_3 rfl ?_
          refine ws_callVV (o := 10) (As := [.ref 7]) (st := []) (la := [(0, .ref 10), (1, .ref 7)]) (dcd d_D_best_0 29 rfl) cv_Sn_become k_D_220 ⟨by decide, by decide⟩ (os_7_5 ok_2) rfl (Nat.le_of_ble_eq_true rfl) (Nat.le_of_ble_eq_true rfl) rfl rfl (sp_Sn_become (os_7_5 ok_2) (os_7_3 ok_2)) ?_
          rintro _ rfl
          refine ws_iconst (v := 0) (dcd d_D_best_1 0 rfl) (by decide) ?_
          refine ws_istore (l' := [(6, .int 0), (5, .int ((mI u (mR u 2 10) 0) + 1)), (4, .int 0), (0, .ref 2), (1, .int x1), (2, .int x2), (3, .int x3)]) (dcd d_D_best_1 1 rfl) (by decide) rfl ?_
          exact ws_loc [3, 4, 5, 6, 2, 1, 0] rfl h
        · have h := h.2 c8
          refine ws_iconst (v := (-1)) (dcd d_D_best_0 15 rfl) (by decide) ?_
          exact ws_iret (dcd d_D_best_0 16 rfl) ⟨_, rfl, rfl⟩ h
    · have h := h.2 c5
      refine ws_if_eq (tgt := 32) (dcd d_D_best_0 9 rfl) (by decide) (fun _ => ?_) (fun c => absurd (show (0 : Int32) = 0 from by decide) c)
      refine ws_iconst (v := (-1)) (dcd d_D_best_0 15 rfl) (by decide) ?_
      exact ws_iret (dcd d_D_best_0 16 rfl) ⟨_, rfl, rfl⟩ h
  · have h := h.2 c2
    refine ws_if_eq (tgt := 32) (dcd d_D_best_0 4 rfl) (by decide) (fun _ => ?_) (fun c => absurd (show (0 : Int32) = 0 from by decide) c)
    refine ws_iconst (v := (-1)) (dcd d_D_best_0 15 rfl) (by decide) ?_
    exact ws_iret (dcd d_D_best_0 16 rfl) ⟨_, rfl, rfl⟩ h
theorem sg_D_best_62 {x1 : Int32} {x2 : Int32} {x3 : Int32} {x4 : Int32} {x5 : Int32} {x6 : Int32}  (h : ((x3 < x6 → Q (some (.int x4)) (pI u 2 12 x5)) ∧ (¬ (x3 < x6) → (pl (mR u 2 10) → Ws G Sn_roundOf 0 [(0, .ref 10), (1, .ref (mR u 2 10)), (2, .int x1), (3, .int x2)] [] u (RI fun a3 u3 => ((x5 ≤ a3 → (pl (mR u3 2 10) → Ws G Sn_pass 0 [(0, .ref 10), (1, .ref (mR u3 2 10)), (2, .int 1)] [] u3 (RV fun u6 => Ws G D_best 62 [(0, .ref 2), (1, .int x1), (2, .int x2), (3, .int x3), (4, .int x4), (5, .int x5), (6, .int (x6 + 1))] [] u6 Q))) ∧ (¬ (x5 ≤ a3) → (pl (mR u3 2 10) → Ws G Sn_pass 0 [(0, .ref 10), (1, .ref (mR u3 2 10)), (2, .int 1)] [] u3 (RV fun u8 => Ws G D_best 62 [(0, .ref 2), (1, .int x1), (2, .int x2), (3, .int x3), (4, .int x6), (5, .int a3), (6, .int (x6 + 1))] [] u8 Q))))))))) : Ws G D_best 62 [(0, .ref 2), (1, .int x1), (2, .int x2), (3, .int x3), (4, .int x4), (5, .int x5), (6, .int x6)] [] u Q := by
  refine ws_iload 6 (dcd d_D_best_1 2 rfl) rfl ?_
  refine ws_iload_n 3 (dcd d_D_best_1 3 rfl) rfl ?_
  refine ws_icmp_gt (tgt := 116) (dcd d_D_best_1 4 rfl) (by decide) (fun c1 => ?_) (fun c1 => ?_)
  · have h := h.1 c1
    refine ws_aload_n 0 (dcd d_D_best_1 28 rfl) rfl ?_
    refine ws_iload 5 (dcd d_D_best_1 29 rfl) rfl ?_
    refine ws_iload 4 (dcd d_D_best_2 0 rfl) rfl ?_
    refine ws_callVI (o := 2) (As := [.int x5, .int x4]) (st := []) (la := [(0, .ref 2), (1, .int x5), (2, .int x4)]) (dcd d_D_best_2 1 rfl) cv_D_tell k_D_113 ⟨by decide, by decide⟩ ok_2 rfl (Nat.le_of_ble_eq_true rfl) (Nat.le_of_ble_eq_true rfl) rfl rfl sp_D_tell ?_
    rintro _ _ ⟨rfl, rfl⟩
    exact ws_iret (dcd d_D_best_2 2 rfl) ⟨_, rfl, rfl⟩ h
  · have h := h.2 c1
    refine ws_aload_n 0 (dcd d_D_best_1 5 rfl) rfl ?_
    refine ws_getF (a := 10) f_D_36 rfl (dcd d_D_best_1 6 rfl) ok_2 of_7_5 rfl ?_
    refine ws_aload_n 0 (dcd d_D_best_1 7 rfl) rfl ?_
    refine ws_getP (by decide) f_D_63 (dcd d_D_best_1 8 rfl) (fun j2 => ?_)
    have h := h j2
    refine ws_iload_n 1 (dcd d_D_best_1 9 rfl) rfl ?_
    refine ws_iload_n 2 (dcd d_D_best_1 10 rfl) rfl ?_
    refine ws_callVI (o := 10) (As := [.ref (mR u 2 10), .int x1, .int x2]) (st := []) (la := [(0, .ref 10), (1, .ref (mR u 2 10)), (2, .int x1), (3, .int x2)]) (dcd d_D_best_1 11 rfl) cv_Sn_roundOf k_D_261 ⟨by decide, by decide⟩ (os_7_5 ok_2) rfl (Nat.le_of_ble_eq_true rfl) (Nat.le_of_ble_eq_true rfl) rfl rfl h (fun a3 u3 h => ?_)
    refine ws_istore (l' := [(7, .int a3), (0, .ref 2), (1, .int x1), (2, .int x2), (3, .int x3), (4, .int x4), (5, .int x5), (6, .int x6)]) (dcd d_D_best_1 12 rfl) (by decide) rfl ?_
    refine ws_iload 0 (dcd d_D_best_1 13 rfl) rfl ?_
    refine ws_iload 6 (dcd d_D_best_1 14 rfl) rfl ?_
    refine ws_icmp_ge (tgt := 98) (dcd d_D_best_1 15 rfl) (by decide) (fun c4 => ?_) (fun c4 => ?_)
    · have h := h.1 c4
      refine ws_aload_n 1 (dcd d_D_best_1 20 rfl) rfl ?_
      refine ws_getF (a := 10) f_D_36 rfl (dcd d_D_best_1 21 rfl) ok_2 of_7_5 rfl ?_
      refine ws_aload_n 1 (dcd d_D_best_1 22 rfl) rfl ?_
      refine ws_getP (by decide) f_D_63 (dcd d_D_best_1 23 rfl) (fun j5 => ?_)
      have h := h j5
      refine ws_iconst (v := 1) (dcd d_D_best_1 24 rfl) (by decide) ?_
      refine ws_callVV (o := 10) (As := [.ref (mR u3 2 10), .int 1]) (st := []) (la := [(0, .ref 10), (1, .ref (mR u3 2 10)), (2, .int 1)]) (dcd d_D_best_1 25 rfl) cv_Sn_pass k_D_213 ⟨by decide, by decide⟩ (os_7_5 ok_2) rfl (Nat.le_of_ble_eq_true rfl) (Nat.le_of_ble_eq_true rfl) rfl rfl h (fun u6 h => ?_)
      refine ws_iinc (v := 1) (l' := [(6, .int (x6 + 1)), (7, .int a3), (0, .ref 2), (1, .int x1), (2, .int x2), (3, .int x3), (4, .int x4), (5, .int x5)]) 7 (dcd d_D_best_1 26 rfl) rfl (by decide) (by decide) rfl ?_
      refine ws_goto (tgt := 62) (dcd d_D_best_1 27 rfl) (by decide) ?_
      exact ws_loc [2, 3, 4, 5, 6, 7, 0] rfl h
    · have h := h.2 c4
      refine ws_iload 0 (dcd d_D_best_1 16 rfl) rfl ?_
      refine ws_istore (l' := [(5, .int a3), (7, .int a3), (0, .ref 2), (1, .int x1), (2, .int x2), (3, .int x3), (4, .int x4), (6, .int x6)]) (dcd d_D_best_1 17 rfl) (by decide) rfl ?_
      refine ws_iload 7 (dcd d_D_best_1 18 rfl) rfl ?_
      refine ws_istore (l' := [(4, .int x6), (5, .int a3), (7, .int a3), (0, .ref 2), (1, .int x1), (2, .int x2), (3, .int x3), (6, .int x6)]) (dcd d_D_best_1 19 rfl) (by decide) rfl ?_
      refine ws_aload_n 3 (dcd d_D_best_1 20 rfl) rfl ?_
      refine ws_getF (a := 10) f_D_36 rfl (dcd d_D_best_1 21 rfl) ok_2 of_7_5 rfl ?_
      refine ws_aload_n 3 (dcd d_D_best_1 22 rfl) rfl ?_
      refine ws_getP (by decide) f_D_63 (dcd d_D_best_1 23 rfl) (fun j7 => ?_)
      have h := h j7
      refine ws_iconst (v := 1) (dcd d_D_best_1 24 rfl) (by decide) ?_
      refine ws_callVV (o := 10) (As := [.ref (mR u3 2 10), .int 1]) (st := []) (la := [(0, .ref 10), (1, .ref (mR u3 2 10)), (2, .int 1)]) (dcd d_D_best_1 25 rfl) cv_Sn_pass k_D_213 ⟨by decide, by decide⟩ (os_7_5 ok_2) rfl (Nat.le_of_ble_eq_true rfl) (Nat.le_of_ble_eq_true rfl) rfl rfl h (fun u8 h => ?_)
      refine ws_iinc (v := 1) (l' := [(6, .int (x6 + 1)), (4, .int x6), (5, .int a3), (7, .int a3), (0, .ref 2), (1, .int x1), (2, .int x2), (3, .int x3)]) 7 (dcd d_D_best_1 26 rfl) rfl (by decide) (by decide) rfl ?_
      refine ws_goto (tgt := 62) (dcd d_D_best_1 27 rfl) (by decide) ?_
      exact ws_loc [4, 5, 6, 7, 1, 2, 0] rfl h
theorem sg_D_errands_0 {x1 : Int32} {x2 : Int32} {x3 : Int32} {x4 : Int32}  (h : (pl (mR u 2 10) → (((0 ≤ x1 ∧ x1 < (mI u (mR u 2 10) 0)) → (pl (mR u 2 10) → (((0 ≤ x2 ∧ x2 >>> ((mI u (mR u 2 10) 1) &&& 31) = 0) → ((x3 < 0 → Q (some (.int (-1))) u) ∧ (¬ (x3 < 0) → ((30 < x3 → Q (some (.int (-1))) u) ∧ (¬ (30 < x3) → (((0 ≤ x4 ∧ x4 < 6) → Ws G Er_begin 0 [(0, .ref 18)] [] u (RV fun u11 => Ws G D_errands 63 [(0, .ref 2), (1, .int x1), (2, .int x2), (3, .int x3), (4, .int x4), (5, .int 0)] [] (snB u11 10 7) Q)) ∧ (¬ (0 ≤ x4 ∧ x4 < 6) → Q (some (.int (-1))) u))))))) ∧ (¬ (0 ≤ x2 ∧ x2 >>> ((mI u (mR u 2 10) 1) &&& 31) = 0) → Q (some (.int (-1))) u)))) ∧ (¬ (0 ≤ x1 ∧ x1 < (mI u (mR u 2 10) 0)) → Q (some (.int (-1))) u)))) : Ws G D_errands 0 [(0, .ref 2), (1, .int x1), (2, .int x2), (3, .int x3), (4, .int x4)] [] u Q := by
  refine ws_aload_n 0 (dcd d_D_errands_0 0 rfl) rfl ?_
  refine ws_getP (by decide) f_D_63 (dcd d_D_errands_0 1 rfl) (fun j1 => ?_)
  have h := h j1
  refine ws_iload_n 1 (dcd d_D_errands_0 2 rfl) rfl ?_
  refine ws_callVI (o := (mR u 2 10)) (As := [.int x1]) (st := []) (la := [(0, .ref (mR u 2 10)), (1, .int x1)]) (dcd d_D_errands_0 3 rfl) cv_Pl_hasDoor k_D_198 ⟨by decide, by decide⟩ (pl_ok j1) rfl (Nat.le_of_ble_eq_true rfl) (Nat.le_of_ble_eq_true rfl) rfl rfl (sp_Pl_hasDoor (pl_ok j1)) ?_
  rintro _ _ ⟨rfl, ⟨rfl, c2⟩ | ⟨rfl, c2⟩⟩
  · have h := h.1 c2
    refine ws_if_eq (tgt := 40) (dcd d_D_errands_0 4 rfl) (by decide) (fun c => absurd c (by decide)) (fun _ => ?_)
    refine ws_aload_n 0 (dcd d_D_errands_0 5 rfl) rfl ?_
    refine ws_getP (by decide) f_D_63 (dcd d_D_errands_0 6 rfl) (fun j4 => ?_)
    have h := h j4
    refine ws_iload_n 2 (dcd d_D_errands_0 7 rfl) rfl ?_
    refine ws_callVI (o := (mR u 2 10)) (As := [.int x2]) (st := []) (la := [(0, .ref (mR u 2 10)), (1, .int x2)]) (dcd d_D_errands_0 8 rfl) cv_Pl_hasSet k_D_258 ⟨by decide, by decide⟩ (pl_ok j4) rfl (Nat.le_of_ble_eq_true rfl) (Nat.le_of_ble_eq_true rfl) rfl rfl (sp_Pl_hasSet (pl_ok j4)) ?_
    rintro _ _ ⟨rfl, ⟨rfl, c5⟩ | ⟨rfl, c5⟩⟩
    · have h := h.1 c5
      refine ws_if_eq (tgt := 40) (dcd d_D_errands_0 9 rfl) (by decide) (fun c => absurd c (by decide)) (fun _ => ?_)
      refine ws_iload_n 3 (dcd d_D_errands_0 10 rfl) rfl ?_
      refine ws_if_lt (tgt := 40) (dcd d_D_errands_0 11 rfl) (by decide) (fun c7 => ?_) (fun c7 => ?_)
      · have h := h.1 c7
        refine ws_iconst (v := (-1)) (dcd d_D_errands_0 18 rfl) (by decide) ?_
        exact ws_iret (dcd d_D_errands_0 19 rfl) ⟨_, rfl, rfl⟩ h
      · have h := h.2 c7
        refine ws_iload_n 3 (dcd d_D_errands_0 12 rfl) rfl ?_
        refine ws_bipush (v := 30) (dcd d_D_errands_0 13 rfl) (by decide) ?_
        refine ws_icmp_gt (tgt := 40) (dcd d_D_errands_0 14 rfl) (by decide) (fun c8 => ?_) (fun c8 => ?_)
        · have h := h.1 c8
          refine ws_iconst (v := (-1)) (dcd d_D_errands_0 18 rfl) (by decide) ?_
          exact ws_iret (dcd d_D_errands_0 19 rfl) ⟨_, rfl, rfl⟩ h
        · have h := h.2 c8
          refine ws_iload 4 (dcd d_D_errands_0 15 rfl) rfl ?_
          refine ws_callSI (As := [.int x4]) (st := []) (la := [(0, .int x4)]) (dcd d_D_errands_0 16 rfl) cs_D_isRow k_D_87 ⟨by decide, by decide⟩ rfl (Nat.le_of_ble_eq_true rfl) (Nat.le_of_ble_eq_true rfl) rfl rfl sp_D_isRow ?_
          rintro _ _ ⟨rfl, ⟨rfl, c9⟩ | ⟨rfl, c9⟩⟩
          · have h := h.1 c9
            refine ws_if_ne (tgt := 42) (dcd d_D_errands_0 17 rfl) (by decide) (fun _ => ?_) (fun c => absurd c (by decide))
            refine ws_aload_n 0 (dcd d_D_errands_0 20 rfl) rfl ?_
            refine ws_getF (a := 18) f_D_52 rfl (dcd d_D_errands_0 21 rfl) ok_2 of_7_8 rfl ?_
            refine ws_callVV (o := 18) (As := []) (st := []) (la := [(0, .ref 18)]) (dcd d_D_errands_0 22 rfl) cv_Er_begin k_D_265 ⟨by decide, by decide⟩ (os_7_8 ok_2) rfl (Nat.le_of_ble_eq_true rfl) (Nat.le_of_ble_eq_true rfl) rfl rfl h (fun u11 h => ?_)
            refine ws_aload_n 0 (dcd d_D_errands_0 23 rfl) rfl ?_
            refine ws_getF (a := 10) f_D_36 rfl (dcd d_D_errands_0 24 rfl) ok_2 of_7_5 rfl ?_
            refine ws_aload_n 0 (dcd d_D_errands_0 25 rfl) rfl ?_
            refine ws_getF (a := 7) f_D_28 rfl (dcd d_D_errands_0 26 rfl) ok_2 of_7_3 rfl ?_
            refine ws_callVV (o := 10) (As := [.ref 7]) (st := []) (la := [(0, .ref 10), (1, .ref 7)]) (dcd d_D_errands_0 27 rfl) cv_Sn_become k_D_220 ⟨by decide, by decide⟩ (os_7_5 ok_2) rfl (Nat.le_of_ble_eq_true rfl) (Nat.le_of_ble_eq_true rfl) rfl rfl (sp_Sn_become (os_7_5 ok_2) (os_7_3 ok_2)) ?_
            rintro _ rfl
            refine ws_iconst (v := 0) (dcd d_D_errands_0 28 rfl) (by decide) ?_
            refine ws_istore (l' := [(5, .int 0), (0, .ref 2), (1, .int x1), (2, .int x2), (3, .int x3), (4, .int x4)]) (dcd d_D_errands_0 29 rfl) (by decide) rfl ?_
            exact ws_loc [1, 2, 3, 4, 5, 0] rfl h
          · have h := h.2 c9
            refine ws_if_ne (tgt := 42) (dcd d_D_errands_0 17 rfl) (by decide) (fun c => absurd (show (0 : Int32) = 0 from by decide) c) (fun _ => ?_)
            refine ws_iconst (v := (-1)) (dcd d_D_errands_0 18 rfl) (by decide) ?_
            exact ws_iret (dcd d_D_errands_0 19 rfl) ⟨_, rfl, rfl⟩ h
    · have h := h.2 c5
      refine ws_if_eq (tgt := 40) (dcd d_D_errands_0 9 rfl) (by decide) (fun _ => ?_) (fun c => absurd (show (0 : Int32) = 0 from by decide) c)
      refine ws_iconst (v := (-1)) (dcd d_D_errands_0 18 rfl) (by decide) ?_
      exact ws_iret (dcd d_D_errands_0 19 rfl) ⟨_, rfl, rfl⟩ h
  · have h := h.2 c2
    refine ws_if_eq (tgt := 40) (dcd d_D_errands_0 4 rfl) (by decide) (fun _ => ?_) (fun c => absurd (show (0 : Int32) = 0 from by decide) c)
    refine ws_iconst (v := (-1)) (dcd d_D_errands_0 18 rfl) (by decide) ?_
    exact ws_iret (dcd d_D_errands_0 19 rfl) ⟨_, rfl, rfl⟩ h
theorem sg_D_errands_63 {x1 : Int32} {x2 : Int32} {x3 : Int32} {x4 : Int32} {x5 : Int32}  (h : ((x3 < x5 → Ws G Er_share 0 [(0, .ref 18), (1, .int x2)] [] u (RV fun u2 => Ws G Sp_renew 0 [(0, .ref (roV x4)), (1, .int (bcV x2)), (2, .int 0)] [] u2 (RV fun u3 => Ws G D_errands 138 [(0, .ref 2), (2, .int x2), (5, .ref (roV x4)), (6, .int 0), (7, .int 0)] [] u3 Q))) ∧ (¬ (x3 < x5) → (pl (mR u 2 10) → Ws G Er_look 0 [(0, .ref 18), (1, .ref (mR u 2 10)), (2, .ref 10), (3, .int x1), (4, .int x2), (5, .int x5)] [] u (RV fun u5 => (pl (mR u5 2 10) → Ws G Sn_pass 0 [(0, .ref 10), (1, .ref (mR u5 2 10)), (2, .int 1)] [] u5 (RV fun u7 => Ws G D_errands 63 [(0, .ref 2), (1, .int x1), (2, .int x2), (3, .int x3), (4, .int x4), (5, .int (x5 + 1))] [] u7 Q))))))) : Ws G D_errands 63 [(0, .ref 2), (1, .int x1), (2, .int x2), (3, .int x3), (4, .int x4), (5, .int x5)] [] u Q := by
  refine ws_iload 5 (dcd d_D_errands_1 0 rfl) rfl ?_
  refine ws_iload_n 3 (dcd d_D_errands_1 1 rfl) rfl ?_
  refine ws_icmp_gt (tgt := 106) (dcd d_D_errands_1 2 rfl) (by decide) (fun c1 => ?_) (fun c1 => ?_)
  · have h := h.1 c1
    refine ws_aload_n 0 (dcd d_D_errands_1 21 rfl) rfl ?_
    refine ws_getF (a := 18) f_D_52 rfl (dcd d_D_errands_1 22 rfl) ok_2 of_7_8 rfl ?_
    refine ws_iload_n 2 (dcd d_D_errands_1 23 rfl) rfl ?_
    refine ws_callVV (o := 18) (As := [.int x2]) (st := []) (la := [(0, .ref 18), (1, .int x2)]) (dcd d_D_errands_1 24 rfl) cv_Er_share k_D_271 ⟨by decide, by decide⟩ (os_7_8 ok_2) rfl (Nat.le_of_ble_eq_true rfl) (Nat.le_of_ble_eq_true rfl) rfl rfl h (fun u2 h => ?_)
    refine ws_aload_n 0 (dcd d_D_errands_1 25 rfl) rfl ?_
    refine ws_iload 4 (dcd d_D_errands_1 26 rfl) rfl ?_
    refine ws_callVR (o := 2) (As := [.int x4]) (st := []) (la := [(0, .ref 2), (1, .int x4)]) (dcd d_D_errands_1 27 rfl) cv_D_rowOf k_D_95 ⟨by decide, by decide⟩ ok_2 rfl (Nat.le_of_ble_eq_true rfl) (Nat.le_of_ble_eq_true rfl) rfl rfl sp_D_rowOf ?_
    rintro _ _ ⟨rfl, rfl⟩
    refine ws_astore (l' := [(5, .ref (roV x4)), (0, .ref 2), (1, .int x1), (2, .int x2), (3, .int x3), (4, .int x4)]) (dcd d_D_errands_1 28 rfl) (by decide) rfl ?_
    refine ws_aload 0 (dcd d_D_errands_1 29 rfl) rfl ?_
    refine ws_iload_n 3 (dcd d_D_errands_2 0 rfl) rfl ?_
    refine ws_callSI (As := [.int x2]) (st := [.ref (roV x4)]) (la := [(0, .int x2)]) (dcd d_D_errands_2 1 rfl) cs_ji_bitCount k_D_274 ⟨by decide, by decide⟩ rfl (Nat.le_of_ble_eq_true rfl) (Nat.le_of_ble_eq_true rfl) rfl rfl sp_ji_bitCount ?_
    rintro _ _ ⟨rfl, rfl⟩
    refine ws_iconst (v := 0) (dcd d_D_errands_2 2 rfl) (by decide) ?_
    refine ws_callVV (o := (roV x4)) (As := [.int (bcV x2), .int 0]) (st := []) (la := [(0, .ref (roV x4)), (1, .int (bcV x2)), (2, .int 0)]) (dcd d_D_errands_2 3 rfl) cv_Sp_renew k_D_99 ⟨by decide, by decide⟩ (roV_ok x4) rfl (Nat.le_of_ble_eq_true rfl) (Nat.le_of_ble_eq_true rfl) rfl rfl h (fun u3 h => ?_)
    refine ws_iconst (v := 0) (dcd d_D_errands_2 4 rfl) (by decide) ?_
    refine ws_istore (l' := [(6, .int 0), (5, .ref (roV x4)), (0, .ref 2), (1, .int x1), (2, .int x2), (3, .int x3), (4, .int x4)]) (dcd d_D_errands_2 5 rfl) (by decide) rfl ?_
    refine ws_iconst (v := 0) (dcd d_D_errands_2 6 rfl) (by decide) ?_
    refine ws_istore (l' := [(7, .int 0), (6, .int 0), (5, .ref (roV x4)), (0, .ref 2), (1, .int x1), (2, .int x2), (3, .int x3), (4, .int x4)]) (dcd d_D_errands_2 7 rfl) (by decide) rfl ?_
    exact ws_loc [3, 5, 2, 1, 0] rfl h
  · have h := h.2 c1
    refine ws_aload_n 0 (dcd d_D_errands_1 3 rfl) rfl ?_
    refine ws_getF (a := 18) f_D_52 rfl (dcd d_D_errands_1 4 rfl) ok_2 of_7_8 rfl ?_
    refine ws_aload_n 0 (dcd d_D_errands_1 5 rfl) rfl ?_
    refine ws_getP (by decide) f_D_63 (dcd d_D_errands_1 6 rfl) (fun j4 => ?_)
    have h := h j4
    refine ws_aload_n 0 (dcd d_D_errands_1 7 rfl) rfl ?_
    refine ws_getF (a := 10) f_D_36 rfl (dcd d_D_errands_1 8 rfl) ok_2 of_7_5 rfl ?_
    refine ws_iload_n 1 (dcd d_D_errands_1 9 rfl) rfl ?_
    refine ws_iload_n 2 (dcd d_D_errands_1 10 rfl) rfl ?_
    refine ws_iload 5 (dcd d_D_errands_1 11 rfl) rfl ?_
    refine ws_callVV (o := 18) (As := [.ref (mR u 2 10), .ref 10, .int x1, .int x2, .int x5]) (st := []) (la := [(0, .ref 18), (1, .ref (mR u 2 10)), (2, .ref 10), (3, .int x1), (4, .int x2), (5, .int x5)]) (dcd d_D_errands_1 12 rfl) cv_Er_look k_D_267 ⟨by decide, by decide⟩ (os_7_8 ok_2) rfl (Nat.le_of_ble_eq_true rfl) (Nat.le_of_ble_eq_true rfl) rfl rfl h (fun u5 h => ?_)
    refine ws_aload_n 0 (dcd d_D_errands_1 13 rfl) rfl ?_
    refine ws_getF (a := 10) f_D_36 rfl (dcd d_D_errands_1 14 rfl) ok_2 of_7_5 rfl ?_
    refine ws_aload_n 0 (dcd d_D_errands_1 15 rfl) rfl ?_
    refine ws_getP (by decide) f_D_63 (dcd d_D_errands_1 16 rfl) (fun j6 => ?_)
    have h := h j6
    refine ws_iconst (v := 1) (dcd d_D_errands_1 17 rfl) (by decide) ?_
    refine ws_callVV (o := 10) (As := [.ref (mR u5 2 10), .int 1]) (st := []) (la := [(0, .ref 10), (1, .ref (mR u5 2 10)), (2, .int 1)]) (dcd d_D_errands_1 18 rfl) cv_Sn_pass k_D_213 ⟨by decide, by decide⟩ (os_7_5 ok_2) rfl (Nat.le_of_ble_eq_true rfl) (Nat.le_of_ble_eq_true rfl) rfl rfl h (fun u7 h => ?_)
    refine ws_iinc (v := 1) (l' := [(5, .int (x5 + 1)), (0, .ref 2), (1, .int x1), (2, .int x2), (3, .int x3), (4, .int x4)]) 5 (dcd d_D_errands_1 19 rfl) rfl (by decide) (by decide) rfl ?_
    refine ws_goto (tgt := 63) (dcd d_D_errands_1 20 rfl) (by decide) ?_
    exact ws_loc [1, 2, 3, 4, 5, 0] rfl h
theorem sg_D_errands_138 {x2 : Int32} {o5 : Nat} {x6 : Int32} {x7 : Int32} (k5 : okS o5 6) (h : (pl (mR u 2 10) → (((mI u (mR u 2 10) 1) ≤ x7 → Ws G Er_walkingFor 0 [(0, .ref 18), (1, .int x2)] [] u (RI fun a3 u3 => Q (some (.int a3)) u3)) ∧ (¬ ((mI u (mR u 2 10) 1) ≤ x7) → (((isI x2 x7) → Ws G Er_weekFor 0 [(0, .ref 18), (1, .int x2), (2, .int x7)] [] u (RI fun a6 u6 => Ws G D_errands 138 [(0, .ref 2), (2, .int x2), (5, .ref o5), (6, .int (x6 + 1)), (7, .int (x7 + 1))] [] (spS u6 o5 x6 a6) Q)) ∧ (¬ (isI x2 x7) → Ws G D_errands 138 [(0, .ref 2), (2, .int x2), (5, .ref o5), (6, .int x6), (7, .int (x7 + 1))] [] u Q)))))) : Ws G D_errands 138 [(0, .ref 2), (2, .int x2), (5, .ref o5), (6, .int x6), (7, .int x7)] [] u Q := by
  refine ws_iload 4 (dcd d_D_errands_2 8 rfl) rfl ?_
  refine ws_aload_n 0 (dcd d_D_errands_2 9 rfl) rfl ?_
  refine ws_getP (by decide) f_D_63 (dcd d_D_errands_2 10 rfl) (fun j1 => ?_)
  have h := h j1
  refine ws_getI f_D_163 rfl (dcd d_D_errands_2 11 rfl) (pl_ok j1) ?_
  refine ws_icmp_ge (tgt := 185) (dcd d_D_errands_2 12 rfl) (by decide) (fun c2 => ?_) (fun c2 => ?_)
  · have h := h.1 c2
    refine ws_aload_n 0 (dcd d_D_errands_2 28 rfl) rfl ?_
    refine ws_getF (a := 18) f_D_52 rfl (dcd d_D_errands_2 29 rfl) ok_2 of_7_8 rfl ?_
    refine ws_iload_n 1 (dcd d_D_errands_3 0 rfl) rfl ?_
    refine ws_callVI (o := 18) (As := [.int x2]) (st := []) (la := [(0, .ref 18), (1, .int x2)]) (dcd d_D_errands_3 1 rfl) cv_Er_walkingFor k_D_285 ⟨by decide, by decide⟩ (os_7_8 ok_2) rfl (Nat.le_of_ble_eq_true rfl) (Nat.le_of_ble_eq_true rfl) rfl rfl h (fun a3 u3 h => ?_)
    exact ws_iret (dcd d_D_errands_3 2 rfl) ⟨_, rfl, rfl⟩ h
  · have h := h.2 c2
    refine ws_iload_n 1 (dcd d_D_errands_2 13 rfl) rfl ?_
    refine ws_iload 4 (dcd d_D_errands_2 14 rfl) rfl ?_
    refine ws_callSI (As := [.int x2, .int x7]) (st := []) (la := [(0, .int x2), (1, .int x7)]) (dcd d_D_errands_2 15 rfl) cs_D_isIn k_D_279 ⟨by decide, by decide⟩ rfl (Nat.le_of_ble_eq_true rfl) (Nat.le_of_ble_eq_true rfl) rfl rfl sp_D_isIn ?_
    rintro _ _ ⟨rfl, ⟨rfl, c4⟩ | ⟨rfl, c4⟩⟩
    · have h := h.1 c4
      refine ws_if_eq (tgt := 179) (dcd d_D_errands_2 16 rfl) (by decide) (fun c => absurd c (by decide)) (fun _ => ?_)
      refine ws_aload 2 (dcd d_D_errands_2 17 rfl) rfl ?_
      refine ws_iload 3 (dcd d_D_errands_2 18 rfl) rfl ?_
      refine ws_aload_n 0 (dcd d_D_errands_2 19 rfl) rfl ?_
      refine ws_getF (a := 18) f_D_52 rfl (dcd d_D_errands_2 20 rfl) ok_2 of_7_8 rfl ?_
      refine ws_iload_n 1 (dcd d_D_errands_2 21 rfl) rfl ?_
      refine ws_iload 4 (dcd d_D_errands_2 22 rfl) rfl ?_
      refine ws_callVI (o := 18) (As := [.int x2, .int x7]) (st := [.int x6, .ref o5]) (la := [(0, .ref 18), (1, .int x2), (2, .int x7)]) (dcd d_D_errands_2 23 rfl) cv_Er_weekFor k_D_282 ⟨by decide, by decide⟩ (os_7_8 ok_2) rfl (Nat.le_of_ble_eq_true rfl) (Nat.le_of_ble_eq_true rfl) rfl rfl h (fun a6 u6 h => ?_)
      refine ws_callVV (o := o5) (As := [.int x6, .int a6]) (st := []) (la := [(0, .ref o5), (1, .int x6), (2, .int a6)]) (dcd d_D_errands_2 24 rfl) cv_Sp_set k_D_110 ⟨by decide, by decide⟩ k5 rfl (Nat.le_of_ble_eq_true rfl) (Nat.le_of_ble_eq_true rfl) rfl rfl (sp_Sp_set k5) ?_
      rintro _ rfl
      refine ws_iinc (v := 1) (l' := [(6, .int (x6 + 1)), (0, .ref 2), (2, .int x2), (5, .ref o5), (7, .int x7)]) 3 (dcd d_D_errands_2 25 rfl) rfl (by decide) (by decide) rfl ?_
      refine ws_iinc (v := 1) (l' := [(7, .int (x7 + 1)), (6, .int (x6 + 1)), (0, .ref 2), (2, .int x2), (5, .ref o5)]) 4 (dcd d_D_errands_2 26 rfl) rfl (by decide) (by decide) rfl ?_
      refine ws_goto (tgt := 138) (dcd d_D_errands_2 27 rfl) (by decide) ?_
      exact ws_loc [2, 3, 4, 1, 0] rfl h
    · have h := h.2 c4
      refine ws_if_eq (tgt := 179) (dcd d_D_errands_2 16 rfl) (by decide) (fun _ => ?_) (fun c => absurd (show (0 : Int32) = 0 from by decide) c)
      refine ws_iinc (v := 1) (l' := [(7, .int (x7 + 1)), (0, .ref 2), (2, .int x2), (5, .ref o5), (6, .int x6)]) 4 (dcd d_D_errands_2 26 rfl) rfl (by decide) (by decide) rfl ?_
      refine ws_goto (tgt := 138) (dcd d_D_errands_2 27 rfl) (by decide) ?_
      exact ws_loc [1, 2, 3, 4, 0] rfl h
theorem sg_Er_begin_0   (h : Ws G ja_fillJ 0 [(0, .ref 19), (1, .long 1152921504606846976)] [] u (RV fun u1 => Ws G ja_fillJ 0 [(0, .ref 20), (1, .long 1152921504606846976)] [] u1 (RV fun u2 => (vp_in 0 128 ∧ Q none (pL u2 20 (0 : Int32).toNatClampNeg 0))))) : Ws G Er_begin 0 [(0, .ref 18)] [] u Q := by
  refine ws_aload_n 0 (dcd d_Er_begin_0 0 rfl) rfl ?_
  refine ws_getF (a := 19) f_Er_11 rfl (dcd d_Er_begin_0 1 rfl) ok_18 of_1_0 rfl ?_
  refine ws_ldc2 (dcd d_Er_begin_0 2 rfl) q_Er_18 ?_
  refine ws_callSV (As := [.ref 19, .long 1152921504606846976]) (st := []) (la := [(0, .ref 19), (1, .long 1152921504606846976)]) (dcd d_Er_begin_0 3 rfl) cs_ja_fillJ k_Er_20 ⟨by decide, by decide⟩ rfl (Nat.le_of_ble_eq_true rfl) (Nat.le_of_ble_eq_true rfl) rfl rfl h (fun u1 h => ?_)
  refine ws_aload_n 0 (dcd d_Er_begin_0 4 rfl) rfl ?_
  refine ws_getF (a := 20) f_Er_15 rfl (dcd d_Er_begin_0 5 rfl) ok_18 of_1_1 rfl ?_
  refine ws_ldc2 (dcd d_Er_begin_0 6 rfl) q_Er_18 ?_
  refine ws_callSV (As := [.ref 20, .long 1152921504606846976]) (st := []) (la := [(0, .ref 20), (1, .long 1152921504606846976)]) (dcd d_Er_begin_0 7 rfl) cs_ja_fillJ k_Er_20 ⟨by decide, by decide⟩ rfl (Nat.le_of_ble_eq_true rfl) (Nat.le_of_ble_eq_true rfl) rfl rfl h (fun u2 h => ?_)
  refine ws_aload_n 0 (dcd d_Er_begin_0 8 rfl) rfl ?_
  refine ws_getF (a := 20) f_Er_15 rfl (dcd d_Er_begin_0 9 rfl) ok_18 of_1_1 rfl ?_
  refine ws_iconst (v := 0) (dcd d_Er_begin_0 10 rfl) (by decide) ?_
  refine ws_lconst (v := 0) (dcd d_Er_begin_0 11 rfl) (by decide) ?_
  obtain ⟨e3, h⟩ := h
  refine ws_last (L := 128) (dcd d_Er_begin_0 12 rfl) (os_1_1 ok_18) (ol_1_1 ok_18) e3 ?_
  exact ws_vret (dcd d_Er_begin_0 13 rfl) rfl h
theorem sg_Er_look_0 {o1 : Nat} {o2 : Nat} {x3 : Int32} {x4 : Int32} {x5 : Int32} (k1 : okS o1 2) (k2 : okS o2 5) (h : Ws G Er_look 3 [(0, .ref 18), (1, .ref o1), (2, .ref o2), (3, .int x3), (4, .int x4), (5, .int x5), (6, .int 1)] [] u Q) : Ws G Er_look 0 [(0, .ref 18), (1, .ref o1), (2, .ref o2), (3, .int x3), (4, .int x4), (5, .int x5)] [] u Q := by
  refine ws_iconst (v := 1) (dcd d_Er_look_0 0 rfl) (by decide) ?_
  refine ws_istore (l' := [(6, .int 1), (0, .ref 18), (1, .ref o1), (2, .ref o2), (3, .int x3), (4, .int x4), (5, .int x5)]) (dcd d_Er_look_0 1 rfl) (by decide) rfl ?_
  exact ws_loc [1, 2, 3, 4, 5, 6, 0] rfl h
theorem sg_Er_look_3 {o1 : Nat} {o2 : Nat} {x3 : Int32} {x4 : Int32} {x5 : Int32} {x6 : Int32} (k1 : okS o1 2) (k2 : okS o2 5) (h : ((128 ≤ x6 → Q none u) ∧ (¬ (128 ≤ x6) → ((¬ (x6 &&& x4) = x6 → Ws G Er_look 3 [(0, .ref 18), (1, .ref o1), (2, .ref o2), (3, .int x3), (4, .int x4), (5, .int x5), (6, .int (x6 + 1))] [] u Q) ∧ ((x6 &&& x4) = x6 → Ws G Sn_roundOf 0 [(0, .ref o2), (1, .ref o1), (2, .int x3), (3, .int x6)] [] u (RI fun a3 u3 => (vp_in x6 128 ∧ Ws G Er_weeksCode 0 [(0, .int x6), (1, .int x5)] [] u3 (RJ fun a5 u5 => (vp_in x6 128 ∧ Ws G Er_look 3 [(0, .ref 18), (1, .ref o1), (2, .ref o2), (3, .int x3), (4, .int x4), (5, .int x5), (6, .int (x6 + 1))] [] (pL u5 19 (x6 : Int32).toNatClampNeg (if (((a3 : Int32).toInt64 <<< ((35 : Int32).toInt64 &&& 63)) + a5) < (mL u3 19 (x6 : Int32).toNatClampNeg) then (((a3 : Int32).toInt64 <<< ((35 : Int32).toInt64 &&& 63)) + a5) else (mL u3 19 (x6 : Int32).toNatClampNeg))) Q))))))))) : Ws G Er_look 3 [(0, .ref 18), (1, .ref o1), (2, .ref o2), (3, .int x3), (4, .int x4), (5, .int x5), (6, .int x6)] [] u Q := by
  refine ws_iload 6 (dcd d_Er_look_0 2 rfl) rfl ?_
  refine ws_sipush (v := 128) (dcd d_Er_look_0 3 rfl) (by decide) ?_
  refine ws_icmp_ge (tgt := 68) (dcd d_Er_look_0 4 rfl) (by decide) (fun c1 => ?_) (fun c1 => ?_)
  · have h := h.1 c1
    exact ws_vret (dcd d_Er_look_1 5 rfl) rfl h
  · have h := h.2 c1
    refine ws_iload 6 (dcd d_Er_look_0 5 rfl) rfl ?_
    refine ws_iload 4 (dcd d_Er_look_0 6 rfl) rfl ?_
    refine ws_iand (dcd d_Er_look_0 7 rfl) ?_
    refine ws_iload 6 (dcd d_Er_look_0 8 rfl) rfl ?_
    refine ws_icmp_ne (tgt := 62) (dcd d_Er_look_0 9 rfl) (by decide) (fun c2 => ?_) (fun c2 => ?_)
    · have h := h.1 c2
      refine ws_iinc (v := 1) (l' := [(6, .int (x6 + 1)), (0, .ref 18), (1, .ref o1), (2, .ref o2), (3, .int x3), (4, .int x4), (5, .int x5)]) 6 (dcd d_Er_look_1 3 rfl) rfl (by decide) (by decide) rfl ?_
      refine ws_goto (tgt := 3) (dcd d_Er_look_1 4 rfl) (by decide) ?_
      exact ws_loc [1, 2, 3, 4, 5, 6, 0] rfl h
    · have h := h.2 c2
      refine ws_aload_n 2 (dcd d_Er_look_0 10 rfl) rfl ?_
      refine ws_aload_n 1 (dcd d_Er_look_0 11 rfl) rfl ?_
      refine ws_iload_n 3 (dcd d_Er_look_0 12 rfl) rfl ?_
      refine ws_iload 6 (dcd d_Er_look_0 13 rfl) rfl ?_
      refine ws_callVI (o := o2) (As := [.ref o1, .int x3, .int x6]) (st := []) (la := [(0, .ref o2), (1, .ref o1), (2, .int x3), (3, .int x6)]) (dcd d_Er_look_0 14 rfl) cv_Sn_roundOf k_Er_26 ⟨by decide, by decide⟩ k2 rfl (Nat.le_of_ble_eq_true rfl) (Nat.le_of_ble_eq_true rfl) rfl rfl h (fun a3 u3 h => ?_)
      refine ws_i2l (dcd d_Er_look_0 15 rfl) ?_
      refine ws_lstore (l' := [(7, .long (a3 : Int32).toInt64), (0, .ref 18), (1, .ref o1), (2, .ref o2), (3, .int x3), (4, .int x4), (5, .int x5), (6, .int x6)]) (dcd d_Er_look_0 16 rfl) (by decide) rfl ?_
      refine ws_aload_n 1 (dcd d_Er_look_0 17 rfl) rfl ?_
      refine ws_getF (a := 19) f_Er_11 rfl (dcd d_Er_look_0 18 rfl) ok_18 of_1_0 rfl ?_
      refine ws_iload 7 (dcd d_Er_look_0 19 rfl) rfl ?_
      refine ws_aload_n 1 (dcd d_Er_look_0 20 rfl) rfl ?_
      refine ws_getF (a := 19) f_Er_11 rfl (dcd d_Er_look_0 21 rfl) ok_18 of_1_0 rfl ?_
      refine ws_iload 7 (dcd d_Er_look_0 22 rfl) rfl ?_
      obtain ⟨e4, h⟩ := h
      refine ws_lald (L := 128) (dcd d_Er_look_0 23 rfl) (os_1_0 ok_18) (ol_1_0 ok_18) e4 ?_
      refine ws_lload 0 (dcd d_Er_look_0 24 rfl) rfl ?_
      refine ws_bipush (v := 35) (dcd d_Er_look_0 25 rfl) (by decide) ?_
      refine ws_lshl (dcd d_Er_look_0 26 rfl) ?_
      refine ws_iload 7 (dcd d_Er_look_0 27 rfl) rfl ?_
      refine ws_iload 6 (dcd d_Er_look_0 28 rfl) rfl ?_
      refine ws_callSJ (As := [.int x6, .int x5]) (st := [.long ((a3 : Int32).toInt64 <<< ((35 : Int32).toInt64 &&& 63)), .long (mL u3 19 (x6 : Int32).toNatClampNeg), .int x6, .ref 19]) (la := [(0, .int x6), (1, .int x5)]) (dcd d_Er_look_0 29 rfl) cs_Er_weeksCode k_Er_32 ⟨by decide, by decide⟩ rfl (Nat.le_of_ble_eq_true rfl) (Nat.le_of_ble_eq_true rfl) rfl rfl h (fun a5 u5 h => ?_)
      refine ws_ladd (dcd d_Er_look_1 0 rfl) ?_
      refine ws_minJ (st := [.int x6, .ref 19]) (dcd d_Er_look_1 1 rfl) km_Er_36 ms_minJ in_jm mc_minJ ⟨by decide, Nat.le_of_ble_eq_true rfl⟩ ?_
      obtain ⟨e6, h⟩ := h
      refine ws_last (L := 128) (dcd d_Er_look_1 2 rfl) (os_1_0 ok_18) (ol_1_0 ok_18) e6 ?_
      refine ws_iinc (v := 1) (l' := [(6, .int (x6 + 1)), (7, .long (a3 : Int32).toInt64), (0, .ref 18), (1, .ref o1), (2, .ref o2), (3, .int x3), (4, .int x4), (5, .int x5)]) 7 (dcd d_Er_look_1 3 rfl) rfl (by decide) (by decide) rfl ?_
      refine ws_goto (tgt := 3) (dcd d_Er_look_1 4 rfl) (by decide) ?_
      exact ws_loc [2, 3, 4, 5, 6, 7, 0] rfl h
theorem sg_Er_weeksCode_0 {x0 : Int32} {x1 : Int32}  (h : Ws G Er_weeksCode 5 [(0, .int x0), (1, .int x1), (2, .long 0), (4, .int 0)] [] u Q) : Ws G Er_weeksCode 0 [(0, .int x0), (1, .int x1)] [] u Q := by
  refine ws_lconst (v := 0) (dcd d_Er_weeksCode_0 0 rfl) (by decide) ?_
  refine ws_lstore_n (l' := [(2, .long 0), (0, .int x0), (1, .int x1)]) (dcd d_Er_weeksCode_0 1 rfl) (by decide) rfl ?_
  refine ws_iconst (v := 0) (dcd d_Er_weeksCode_0 2 rfl) (by decide) ?_
  refine ws_istore (l' := [(4, .int 0), (2, .long 0), (0, .int x0), (1, .int x1)]) (dcd d_Er_weeksCode_0 3 rfl) (by decide) rfl ?_
  exact ws_loc [2, 3, 1, 0] rfl h
theorem sg_Er_weeksCode_5 {x0 : Int32} {x1 : Int32} {x2 : Int64} {x4 : Int32}  (h : ((7 ≤ x4 → Q (some (.long x2)) u) ∧ (¬ (7 ≤ x4) → (((isI x0 x4) → Ws G Er_weeksCode 5 [(0, .int x0), (1, .int x1), (2, .long (x2 + ((x1 : Int32).toInt64 <<< (((5 * (6 - x4)) : Int32).toInt64 &&& 63)))), (4, .int (x4 + 1))] [] u Q) ∧ (¬ (isI x0 x4) → Ws G Er_weeksCode 5 [(0, .int x0), (1, .int x1), (2, .long x2), (4, .int (x4 + 1))] [] u Q))))) : Ws G Er_weeksCode 5 [(0, .int x0), (1, .int x1), (2, .long x2), (4, .int x4)] [] u Q := by
  refine ws_iload 3 (dcd d_Er_weeksCode_0 4 rfl) rfl ?_
  refine ws_bipush (v := 7) (dcd d_Er_weeksCode_0 5 rfl) (by decide) ?_
  refine ws_icmp_ge (tgt := 38) (dcd d_Er_weeksCode_0 6 rfl) (by decide) (fun c1 => ?_) (fun c1 => ?_)
  · have h := h.1 c1
    refine ws_lload_n 2 (dcd d_Er_weeksCode_0 21 rfl) rfl ?_
    exact ws_lret (dcd d_Er_weeksCode_0 22 rfl) rfl h
  · have h := h.2 c1
    refine ws_iload_n 0 (dcd d_Er_weeksCode_0 7 rfl) rfl ?_
    refine ws_iload 3 (dcd d_Er_weeksCode_0 8 rfl) rfl ?_
    refine ws_callSI (As := [.int x0, .int x4]) (st := []) (la := [(0, .int x0), (1, .int x4)]) (dcd d_Er_weeksCode_0 9 rfl) cs_D_isIn k_Er_42 ⟨by decide, by decide⟩ rfl (Nat.le_of_ble_eq_true rfl) (Nat.le_of_ble_eq_true rfl) rfl rfl sp_D_isIn ?_
    rintro _ _ ⟨rfl, ⟨rfl, c2⟩ | ⟨rfl, c2⟩⟩
    · have h := h.1 c2
      refine ws_if_eq (tgt := 32) (dcd d_Er_weeksCode_0 10 rfl) (by decide) (fun c => absurd c (by decide)) (fun _ => ?_)
      refine ws_lload_n 2 (dcd d_Er_weeksCode_0 11 rfl) rfl ?_
      refine ws_iload_n 1 (dcd d_Er_weeksCode_0 12 rfl) rfl ?_
      refine ws_i2l (dcd d_Er_weeksCode_0 13 rfl) ?_
      refine ws_iload 3 (dcd d_Er_weeksCode_0 14 rfl) rfl ?_
      refine ws_callSI (As := [.int x4]) (st := [.long (x1 : Int32).toInt64, .long x2]) (la := [(0, .int x4)]) (dcd d_Er_weeksCode_0 15 rfl) cs_Er_shiftOf k_Er_46 ⟨by decide, by decide⟩ rfl (Nat.le_of_ble_eq_true rfl) (Nat.le_of_ble_eq_true rfl) rfl rfl sp_Er_shiftOf ?_
      rintro _ _ ⟨rfl, rfl⟩
      refine ws_lshl (dcd d_Er_weeksCode_0 16 rfl) ?_
      refine ws_ladd (dcd d_Er_weeksCode_0 17 rfl) ?_
      refine ws_lstore_n (l' := [(2, .long (x2 + ((x1 : Int32).toInt64 <<< (((5 * (6 - x4)) : Int32).toInt64 &&& 63)))), (0, .int x0), (1, .int x1), (4, .int x4)]) (dcd d_Er_weeksCode_0 18 rfl) (by decide) rfl ?_
      refine ws_iinc (v := 1) (l' := [(4, .int (x4 + 1)), (2, .long (x2 + ((x1 : Int32).toInt64 <<< (((5 * (6 - x4)) : Int32).toInt64 &&& 63)))), (0, .int x0), (1, .int x1)]) 3 (dcd d_Er_weeksCode_0 19 rfl) rfl (by decide) (by decide) rfl ?_
      refine ws_goto (tgt := 5) (dcd d_Er_weeksCode_0 20 rfl) (by decide) ?_
      exact ws_loc [2, 3, 1, 0] rfl h
    · have h := h.2 c2
      refine ws_if_eq (tgt := 32) (dcd d_Er_weeksCode_0 10 rfl) (by decide) (fun _ => ?_) (fun c => absurd (show (0 : Int32) = 0 from by decide) c)
      refine ws_iinc (v := 1) (l' := [(4, .int (x4 + 1)), (0, .int x0), (1, .int x1), (2, .long x2)]) 3 (dcd d_Er_weeksCode_0 19 rfl) rfl (by decide) (by decide) rfl ?_
      refine ws_goto (tgt := 5) (dcd d_Er_weeksCode_0 20 rfl) (by decide) ?_
      exact ws_loc [1, 2, 3, 0] rfl h
end SEG
