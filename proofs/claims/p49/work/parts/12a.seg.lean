section SEG
variable {G : pG} {u : pM} {Q : Option Value → pM → Prop}
theorem sg_m_going_0 {x1 : Int32} {x2 : Int32}  (h : (vp_in (5 * x1 + 0) 70 ∧ (vp_in (5 * x1 + 2) 70 ∧ (vp_in (5 * x1 + 4) 70 ∧ ((3 ≤ (mI u 83 ((5 * x1 + 0) : Int32).toNatClampNeg) → ¬ (mI u 83 ((5 * x1 + 4) : Int32).toNatClampNeg) = 0) ∧ Q (some (.int (goV (mI u 83 ((5 * x1 + 0) : Int32).toNatClampNeg) (mI u 83 ((5 * x1 + 2) : Int32).toNatClampNeg) (mI u 83 ((5 * x1 + 4) : Int32).toNatClampNeg) x2))) u))))) : Ws G m_going 0 [(0, .ref 76), (1, .int x1), (2, .int x2)] [] u Q := by
  refine ws_aload_n 0 (dcd d_m_going_0 0 rfl) rfl ?_
  refine ws_iload_n 1 (dcd d_m_going_0 1 rfl) rfl ?_
  refine ws_iconst (v := 0) (dcd d_m_going_0 2 rfl) (by decide) ?_
  obtain ⟨e1, h⟩ := h
  refine ws_callVI (o := 76) (As := [.int x1, .int 0]) (st := []) (la := [(0, .ref 76), (1, .int x1), (2, .int 0)]) (dcd d_m_going_0 3 rfl) cv_m_tell k_m_159 ⟨by decide, by decide⟩ ok_76 rfl (Nat.le_of_ble_eq_true rfl) (Nat.le_of_ble_eq_true rfl) rfl rfl (sp_m_tell e1) ?_
  rintro _ _ ⟨rfl, rfl⟩
  refine ws_aload_n 0 (dcd d_m_going_0 4 rfl) rfl ?_
  refine ws_iload_n 1 (dcd d_m_going_0 5 rfl) rfl ?_
  refine ws_iconst (v := 2) (dcd d_m_going_0 6 rfl) (by decide) ?_
  obtain ⟨e2, h⟩ := h
  refine ws_callVI (o := 76) (As := [.int x1, .int 2]) (st := [.int (mI u 83 ((5 * x1 + 0) : Int32).toNatClampNeg)]) (la := [(0, .ref 76), (1, .int x1), (2, .int 2)]) (dcd d_m_going_0 7 rfl) cv_m_tell k_m_159 ⟨by decide, by decide⟩ ok_76 rfl (Nat.le_of_ble_eq_true rfl) (Nat.le_of_ble_eq_true rfl) rfl rfl (sp_m_tell e2) ?_
  rintro _ _ ⟨rfl, rfl⟩
  refine ws_aload_n 0 (dcd d_m_going_0 8 rfl) rfl ?_
  refine ws_iload_n 1 (dcd d_m_going_0 9 rfl) rfl ?_
  refine ws_iconst (v := 4) (dcd d_m_going_0 10 rfl) (by decide) ?_
  obtain ⟨e3, h⟩ := h
  refine ws_callVI (o := 76) (As := [.int x1, .int 4]) (st := [.int (mI u 83 ((5 * x1 + 2) : Int32).toNatClampNeg), .int (mI u 83 ((5 * x1 + 0) : Int32).toNatClampNeg)]) (la := [(0, .ref 76), (1, .int x1), (2, .int 4)]) (dcd d_m_going_0 11 rfl) cv_m_tell k_m_159 ⟨by decide, by decide⟩ ok_76 rfl (Nat.le_of_ble_eq_true rfl) (Nat.le_of_ble_eq_true rfl) rfl rfl (sp_m_tell e3) ?_
  rintro _ _ ⟨rfl, rfl⟩
  refine ws_iload_n 2 (dcd d_m_going_0 12 rfl) rfl ?_
  obtain ⟨e4, h⟩ := h
  refine ws_callSI (As := [.int (mI u 83 ((5 * x1 + 0) : Int32).toNatClampNeg), .int (mI u 83 ((5 * x1 + 2) : Int32).toNatClampNeg), .int (mI u 83 ((5 * x1 + 4) : Int32).toNatClampNeg), .int x2]) (st := []) (la := [(0, .int (mI u 83 ((5 * x1 + 0) : Int32).toNatClampNeg)), (1, .int (mI u 83 ((5 * x1 + 2) : Int32).toNatClampNeg)), (2, .int (mI u 83 ((5 * x1 + 4) : Int32).toNatClampNeg)), (3, .int x2)]) (dcd d_m_going_0 13 rfl) cs_m_goingBy k_m_177 ⟨by decide, by decide⟩ rfl (Nat.le_of_ble_eq_true rfl) (Nat.le_of_ble_eq_true rfl) rfl rfl (sp_m_goingBy e4) ?_
  rintro _ _ ⟨rfl, rfl⟩
  exact ws_iret (dcd d_m_going_0 14 rfl) ⟨_, rfl, rfl⟩ h
theorem sg_m_isRow_0 {x0 : Int32}  (h : (((0 ≤ x0 ∧ x0 ≤ 5) → Q (some (.int 1)) u) ∧ (¬ (0 ≤ x0 ∧ x0 ≤ 5) → Q (some (.int 0)) u))) : Ws G m_isRow 0 [(0, .int x0)] [] u Q := by
  refine ws_iload_n 0 (dcd d_m_isRow_0 0 rfl) rfl ?_
  refine ws_iconst (v := 0) (dcd d_m_isRow_0 1 rfl) (by decide) ?_
  refine ws_iconst (v := 5) (dcd d_m_isRow_0 2 rfl) (by decide) ?_
  refine ws_callSI (As := [.int x0, .int 0, .int 5]) (st := []) (la := [(0, .int x0), (1, .int 0), (2, .int 5)]) (dcd d_m_isRow_0 3 rfl) cs_m_in k_m_78 ⟨by decide, by decide⟩ rfl (Nat.le_of_ble_eq_true rfl) (Nat.le_of_ble_eq_true rfl) rfl rfl sp_m_in ?_
  rintro _ _ ⟨rfl, ⟨rfl, c1⟩ | ⟨rfl, c1⟩⟩
  · have h := h.1 c1
    exact ws_iret (dcd d_m_isRow_0 4 rfl) ⟨_, rfl, by decide⟩ h
  · have h := h.2 c1
    exact ws_iret (dcd d_m_isRow_0 4 rfl) ⟨_, rfl, by decide⟩ h
theorem sg_m_isText_0 {x0 : Int32}  (h : (((0 ≤ x0 ∧ x0 ≤ 3) → Q (some (.int 1)) u) ∧ (¬ (0 ≤ x0 ∧ x0 ≤ 3) → Q (some (.int 0)) u))) : Ws G m_isText 0 [(0, .int x0)] [] u Q := by
  refine ws_iload_n 0 (dcd d_m_isText_0 0 rfl) rfl ?_
  refine ws_iconst (v := 0) (dcd d_m_isText_0 1 rfl) (by decide) ?_
  refine ws_iconst (v := 3) (dcd d_m_isText_0 2 rfl) (by decide) ?_
  refine ws_callSI (As := [.int x0, .int 0, .int 3]) (st := []) (la := [(0, .int x0), (1, .int 0), (2, .int 3)]) (dcd d_m_isText_0 3 rfl) cs_m_in k_m_78 ⟨by decide, by decide⟩ rfl (Nat.le_of_ble_eq_true rfl) (Nat.le_of_ble_eq_true rfl) rfl rfl sp_m_in ?_
  rintro _ _ ⟨rfl, ⟨rfl, c1⟩ | ⟨rfl, c1⟩⟩
  · have h := h.1 c1
    exact ws_iret (dcd d_m_isText_0 4 rfl) ⟨_, rfl, by decide⟩ h
  · have h := h.2 c1
    exact ws_iret (dcd d_m_isText_0 4 rfl) ⟨_, rfl, by decide⟩ h
theorem sg_m_isShop_0 {x1 : Int32}  (h : (((0 ≤ x1 ∧ x1 ≤ ((mI u 76 11) - 1)) → Q (some (.int 1)) u) ∧ (¬ (0 ≤ x1 ∧ x1 ≤ ((mI u 76 11) - 1)) → Q (some (.int 0)) u))) : Ws G m_isShop 0 [(0, .ref 76), (1, .int x1)] [] u Q := by
  refine ws_iload_n 1 (dcd d_m_isShop_0 0 rfl) rfl ?_
  refine ws_iconst (v := 0) (dcd d_m_isShop_0 1 rfl) (by decide) ?_
  refine ws_aload_n 0 (dcd d_m_isShop_0 2 rfl) rfl ?_
  refine ws_getI f_m_156 rfl (dcd d_m_isShop_0 3 rfl) ok_76 ?_
  refine ws_iconst (v := 1) (dcd d_m_isShop_0 4 rfl) (by decide) ?_
  refine ws_isub (dcd d_m_isShop_0 5 rfl) ?_
  refine ws_callSI (As := [.int x1, .int 0, .int ((mI u 76 11) - 1)]) (st := []) (la := [(0, .int x1), (1, .int 0), (2, .int ((mI u 76 11) - 1))]) (dcd d_m_isShop_0 6 rfl) cs_m_in k_m_78 ⟨by decide, by decide⟩ rfl (Nat.le_of_ble_eq_true rfl) (Nat.le_of_ble_eq_true rfl) rfl rfl sp_m_in ?_
  rintro _ _ ⟨rfl, ⟨rfl, c1⟩ | ⟨rfl, c1⟩⟩
  · have h := h.1 c1
    exact ws_iret (dcd d_m_isShop_0 7 rfl) ⟨_, rfl, by decide⟩ h
  · have h := h.2 c1
    exact ws_iret (dcd d_m_isShop_0 7 rfl) ⟨_, rfl, by decide⟩ h
theorem sg_m_isDoor_0 {x1 : Int32}  (h : (((0 ≤ x1 ∧ x1 ≤ ((mI u 76 10) - 1)) → Q (some (.int 1)) u) ∧ (¬ (0 ≤ x1 ∧ x1 ≤ ((mI u 76 10) - 1)) → Q (some (.int 0)) u))) : Ws G m_isDoor 0 [(0, .ref 76), (1, .int x1)] [] u Q := by
  refine ws_iload_n 1 (dcd d_m_isDoor_0 0 rfl) rfl ?_
  refine ws_iconst (v := 0) (dcd d_m_isDoor_0 1 rfl) (by decide) ?_
  refine ws_aload_n 0 (dcd d_m_isDoor_0 2 rfl) rfl ?_
  refine ws_getI f_m_153 rfl (dcd d_m_isDoor_0 3 rfl) ok_76 ?_
  refine ws_iconst (v := 1) (dcd d_m_isDoor_0 4 rfl) (by decide) ?_
  refine ws_isub (dcd d_m_isDoor_0 5 rfl) ?_
  refine ws_callSI (As := [.int x1, .int 0, .int ((mI u 76 10) - 1)]) (st := []) (la := [(0, .int x1), (1, .int 0), (2, .int ((mI u 76 10) - 1))]) (dcd d_m_isDoor_0 6 rfl) cs_m_in k_m_78 ⟨by decide, by decide⟩ rfl (Nat.le_of_ble_eq_true rfl) (Nat.le_of_ble_eq_true rfl) rfl rfl sp_m_in ?_
  rintro _ _ ⟨rfl, ⟨rfl, c1⟩ | ⟨rfl, c1⟩⟩
  · have h := h.1 c1
    exact ws_iret (dcd d_m_isDoor_0 7 rfl) ⟨_, rfl, by decide⟩ h
  · have h := h.2 c1
    exact ws_iret (dcd d_m_isDoor_0 7 rfl) ⟨_, rfl, by decide⟩ h
theorem sg_m_isSet_0 {x1 : Int32}  (h : (((0 ≤ x1 ∧ x1 ≤ ((1 <<< ((mI u 76 11) &&& 31)) - 1)) → Q (some (.int 1)) u) ∧ (¬ (0 ≤ x1 ∧ x1 ≤ ((1 <<< ((mI u 76 11) &&& 31)) - 1)) → Q (some (.int 0)) u))) : Ws G m_isSet 0 [(0, .ref 76), (1, .int x1)] [] u Q := by
  refine ws_iload_n 1 (dcd d_m_isSet_0 0 rfl) rfl ?_
  refine ws_iconst (v := 0) (dcd d_m_isSet_0 1 rfl) (by decide) ?_
  refine ws_iconst (v := 1) (dcd d_m_isSet_0 2 rfl) (by decide) ?_
  refine ws_aload_n 0 (dcd d_m_isSet_0 3 rfl) rfl ?_
  refine ws_getI f_m_156 rfl (dcd d_m_isSet_0 4 rfl) ok_76 ?_
  refine ws_ishl (dcd d_m_isSet_0 5 rfl) ?_
  refine ws_iconst (v := 1) (dcd d_m_isSet_0 6 rfl) (by decide) ?_
  refine ws_isub (dcd d_m_isSet_0 7 rfl) ?_
  refine ws_callSI (As := [.int x1, .int 0, .int ((1 <<< ((mI u 76 11) &&& 31)) - 1)]) (st := []) (la := [(0, .int x1), (1, .int 0), (2, .int ((1 <<< ((mI u 76 11) &&& 31)) - 1))]) (dcd d_m_isSet_0 8 rfl) cs_m_in k_m_78 ⟨by decide, by decide⟩ rfl (Nat.le_of_ble_eq_true rfl) (Nat.le_of_ble_eq_true rfl) rfl rfl sp_m_in ?_
  rintro _ _ ⟨rfl, ⟨rfl, c1⟩ | ⟨rfl, c1⟩⟩
  · have h := h.1 c1
    exact ws_iret (dcd d_m_isSet_0 9 rfl) ⟨_, rfl, by decide⟩ h
  · have h := h.2 c1
    exact ws_iret (dcd d_m_isSet_0 9 rfl) ⟨_, rfl, by decide⟩ h
theorem sg_Sp_get_0 {o0 : Nat} {x1 : Int32} (k0 : okS o0 6) (h : (((spH u o0 x1) → (vp_in x1 (S0 (o0 + 1)).2 ∧ Q (some (.int (mI u (o0 + 1) (x1 : Int32).toNatClampNeg))) u)) ∧ (¬ (spH u o0 x1) → Q (some (.int 0)) u))) : Ws G Sp_get 0 [(0, .ref o0), (1, .int x1)] [] u Q := by
  refine ws_aload_n 0 (dcd d_Sp_get_0 0 rfl) rfl ?_
  refine ws_iload_n 1 (dcd d_Sp_get_0 1 rfl) rfl ?_
  refine ws_callVI (o := o0) (As := [.int x1]) (st := []) (la := [(0, .ref o0), (1, .int x1)]) (dcd d_Sp_get_0 2 rfl) cv_Sp_has k_Sp_25 ⟨by decide, by decide⟩ k0 rfl (Nat.le_of_ble_eq_true rfl) (Nat.le_of_ble_eq_true rfl) rfl rfl (sp_Sp_has k0) ?_
  rintro _ _ ⟨rfl, ⟨rfl, c1⟩ | ⟨rfl, c1⟩⟩
  · have h := h.1 c1
    refine ws_if_eq (tgt := 17) (dcd d_Sp_get_0 3 rfl) (by decide) (fun c => absurd c (by decide)) (fun _ => ?_)
    refine ws_aload_n 0 (dcd d_Sp_get_0 4 rfl) rfl ?_
    refine ws_getF (a := (o0 + 1)) f_Sp_21 rfl (dcd d_Sp_get_0 5 rfl) k0 of_6_0 rfl ?_
    refine ws_iload_n 1 (dcd d_Sp_get_0 6 rfl) rfl ?_
    obtain ⟨e3, h⟩ := h
    refine ws_iald (L := (S0 (o0 + 1)).2) (dcd d_Sp_get_0 7 rfl) (os_6_0 k0) rfl e3 ?_
    refine ws_goto (tgt := 18) (dcd d_Sp_get_0 8 rfl) (by decide) ?_
    exact ws_iret (dcd d_Sp_get_0 10 rfl) ⟨_, rfl, rfl⟩ h
  · have h := h.2 c1
    refine ws_if_eq (tgt := 17) (dcd d_Sp_get_0 3 rfl) (by decide) (fun _ => ?_) (fun c => absurd (show (0 : Int32) = 0 from by decide) c)
    refine ws_iconst (v := 0) (dcd d_Sp_get_0 9 rfl) (by decide) ?_
    exact ws_iret (dcd d_Sp_get_0 10 rfl) ⟨_, rfl, rfl⟩ h
theorem sg_Sp_set_0 {o0 : Nat} {x1 : Int32} {x2 : Int32} (k0 : okS o0 6) (h : (((spH u o0 x1) → (vp_in x1 (S0 (o0 + 1)).2 ∧ Q none (pI u (o0 + 1) (x1 : Int32).toNatClampNeg x2))) ∧ (¬ (spH u o0 x1) → Q none u))) : Ws G Sp_set 0 [(0, .ref o0), (1, .int x1), (2, .int x2)] [] u Q := by
  refine ws_aload_n 0 (dcd d_Sp_set_0 0 rfl) rfl ?_
  refine ws_iload_n 1 (dcd d_Sp_set_0 1 rfl) rfl ?_
  refine ws_callVI (o := o0) (As := [.int x1]) (st := []) (la := [(0, .ref o0), (1, .int x1)]) (dcd d_Sp_set_0 2 rfl) cv_Sp_has k_Sp_25 ⟨by decide, by decide⟩ k0 rfl (Nat.le_of_ble_eq_true rfl) (Nat.le_of_ble_eq_true rfl) rfl rfl (sp_Sp_has k0) ?_
  rintro _ _ ⟨rfl, ⟨rfl, c1⟩ | ⟨rfl, c1⟩⟩
  · have h := h.1 c1
    refine ws_if_eq (tgt := 15) (dcd d_Sp_set_0 3 rfl) (by decide) (fun c => absurd c (by decide)) (fun _ => ?_)
    refine ws_aload_n 0 (dcd d_Sp_set_0 4 rfl) rfl ?_
    refine ws_getF (a := (o0 + 1)) f_Sp_21 rfl (dcd d_Sp_set_0 5 rfl) k0 of_6_0 rfl ?_
    refine ws_iload_n 1 (dcd d_Sp_set_0 6 rfl) rfl ?_
    refine ws_iload_n 2 (dcd d_Sp_set_0 7 rfl) rfl ?_
    obtain ⟨e3, h⟩ := h
    refine ws_iast (L := (S0 (o0 + 1)).2) (dcd d_Sp_set_0 8 rfl) (os_6_0 k0) rfl e3 ?_
    exact ws_vret (dcd d_Sp_set_0 9 rfl) rfl h
  · have h := h.2 c1
    refine ws_if_eq (tgt := 15) (dcd d_Sp_set_0 3 rfl) (by decide) (fun _ => ?_) (fun c => absurd (show (0 : Int32) = 0 from by decide) c)
    exact ws_vret (dcd d_Sp_set_0 9 rfl) rfl h
theorem sg_Sh_goingIn_0 {o0 : Nat} {x1 : Int32} (k0 : okS o0 4) (h : Q (some (.int (goC (mI u o0 0) (mI u o0 4) (mI u o0 2) x1))) u) : Ws G Sh_goingIn 0 [(0, .ref o0), (1, .int x1)] [] u Q := by
  refine ws_aload_n 0 (dcd d_Sh_goingIn_0 0 rfl) rfl ?_
  refine ws_getI f_Sh_9 rfl (dcd d_Sh_goingIn_0 1 rfl) k0 ?_
  refine ws_aload_n 0 (dcd d_Sh_goingIn_0 2 rfl) rfl ?_
  refine ws_getI f_Sh_24 rfl (dcd d_Sh_goingIn_0 3 rfl) k0 ?_
  refine ws_aload_n 0 (dcd d_Sh_goingIn_0 4 rfl) rfl ?_
  refine ws_getI f_Sh_18 rfl (dcd d_Sh_goingIn_0 5 rfl) k0 ?_
  refine ws_iload_n 1 (dcd d_Sh_goingIn_0 6 rfl) rfl ?_
  refine ws_callSI (As := [.int (mI u o0 0), .int (mI u o0 4), .int (mI u o0 2), .int x1]) (st := []) (la := [(0, .int (mI u o0 0)), (1, .int (mI u o0 4)), (2, .int (mI u o0 2)), (3, .int x1)]) (dcd d_Sh_goingIn_0 7 rfl) cs_Sh_going k_Sh_27 ⟨by decide, by decide⟩ rfl (Nat.le_of_ble_eq_true rfl) (Nat.le_of_ble_eq_true rfl) rfl rfl sp_Sh_going ?_
  rintro _ _ ⟨rfl, rfl⟩
  exact ws_iret (dcd d_Sh_goingIn_0 8 rfl) ⟨_, rfl, rfl⟩ h
theorem sg_Pl_shopOf_0 {o0 : Nat} {x1 : Int32} (k0 : okS o0 2) (h : (((plS u o0 x1) → (vp_in x1 7 ∧ Q (some (.ref (R0 (o0 + 1) (x1 : Int32).toNatClampNeg))) u)) ∧ (¬ (plS u o0 x1) → Q (some (.ref (o0 + 2))) u))) : Ws G Pl_shopOf 0 [(0, .ref o0), (1, .int x1)] [] u Q := by
  refine ws_aload_n 0 (dcd d_Pl_shopOf_0 0 rfl) rfl ?_
  refine ws_iload_n 1 (dcd d_Pl_shopOf_0 1 rfl) rfl ?_
  refine ws_callVI (o := o0) (As := [.int x1]) (st := []) (la := [(0, .ref o0), (1, .int x1)]) (dcd d_Pl_shopOf_0 2 rfl) cv_Pl_hasShop k_Pl_40 ⟨by decide, by decide⟩ k0 rfl (Nat.le_of_ble_eq_true rfl) (Nat.le_of_ble_eq_true rfl) rfl rfl (sp_Pl_hasShop k0) ?_
  rintro _ _ ⟨rfl, ⟨rfl, c1⟩ | ⟨rfl, c1⟩⟩
  · have h := h.1 c1
    refine ws_if_eq (tgt := 17) (dcd d_Pl_shopOf_0 3 rfl) (by decide) (fun c => absurd c (by decide)) (fun _ => ?_)
    refine ws_aload_n 0 (dcd d_Pl_shopOf_0 4 rfl) rfl ?_
    refine ws_getF (a := (o0 + 1)) f_Pl_20 rfl (dcd d_Pl_shopOf_0 5 rfl) k0 of_2_2 rfl ?_
    refine ws_iload_n 1 (dcd d_Pl_shopOf_0 6 rfl) rfl ?_
    obtain ⟨e3, h⟩ := h
    refine ws_aald (L := 7) (dcd d_Pl_shopOf_0 7 rfl) (os_2_2 k0) (by decide) (ol_2_2 k0) e3 ?_
    have j4 : okS (R0 (o0 + 1) (x1 : Int32).toNatClampNeg) 4 := (ra_ok (os_2_2 k0) (by decide) (by rw [show (S0 (o0 + 1)).2 = 7 from (ol_2_2 k0)]; exact ix_lt e3)).2
    refine ws_goto (tgt := 21) (dcd d_Pl_shopOf_0 8 rfl) (by decide) ?_
    exact ws_aret (dcd d_Pl_shopOf_0 11 rfl) ⟨_, rfl⟩ h
  · have h := h.2 c1
    refine ws_if_eq (tgt := 17) (dcd d_Pl_shopOf_0 3 rfl) (by decide) (fun _ => ?_) (fun c => absurd (show (0 : Int32) = 0 from by decide) c)
    refine ws_aload_n 0 (dcd d_Pl_shopOf_0 9 rfl) rfl ?_
    refine ws_getF (a := (o0 + 2)) f_Pl_25 rfl (dcd d_Pl_shopOf_0 10 rfl) k0 of_2_3 rfl ?_
    exact ws_aret (dcd d_Pl_shopOf_0 11 rfl) ⟨_, rfl⟩ h
theorem sg_Pl_walking_0 {o0 : Nat} {x1 : Int32} {x2 : Int32} (k0 : okS o0 2) (h : Q (some (.int (if ((mI u o0 0) - (wrV (mI u o0 0) ((x2 - x1) : Int32).toInt64)) < (wrV (mI u o0 0) ((x2 - x1) : Int32).toInt64) then ((mI u o0 0) - (wrV (mI u o0 0) ((x2 - x1) : Int32).toInt64)) else (wrV (mI u o0 0) ((x2 - x1) : Int32).toInt64)))) u) : Ws G Pl_walking 0 [(0, .ref o0), (1, .int x1), (2, .int x2)] [] u Q := by
  refine ws_aload_n 0 (dcd d_Pl_walking_0 0 rfl) rfl ?_
  refine ws_iload_n 2 (dcd d_Pl_walking_0 1 rfl) rfl ?_
  refine ws_iload_n 1 (dcd d_Pl_walking_0 2 rfl) rfl ?_
  refine ws_isub (dcd d_Pl_walking_0 3 rfl) ?_
  refine ws_i2l (dcd d_Pl_walking_0 4 rfl) ?_
  refine ws_callVI (o := o0) (As := [.long ((x2 - x1) : Int32).toInt64]) (st := []) (la := [(0, .ref o0), (1, .long ((x2 - x1) : Int32).toInt64)]) (dcd d_Pl_walking_0 5 rfl) cv_Pl_wrapped k_Pl_57 ⟨by decide, by decide⟩ k0 rfl (Nat.le_of_ble_eq_true rfl) (Nat.le_of_ble_eq_true rfl) rfl rfl (sp_Pl_wrapped k0) ?_
  rintro _ _ ⟨rfl, rfl⟩
  refine ws_istore_n (l' := [(3, .int (wrV (mI u o0 0) ((x2 - x1) : Int32).toInt64)), (0, .ref o0), (1, .int x1), (2, .int x2)]) (dcd d_Pl_walking_0 6 rfl) (by decide) rfl ?_
  refine ws_iload_n 0 (dcd d_Pl_walking_0 7 rfl) rfl ?_
  refine ws_aload_n 1 (dcd d_Pl_walking_0 8 rfl) rfl ?_
  refine ws_getI f_Pl_9 rfl (dcd d_Pl_walking_0 9 rfl) k0 ?_
  refine ws_iload_n 0 (dcd d_Pl_walking_0 10 rfl) rfl ?_
  refine ws_isub (dcd d_Pl_walking_0 11 rfl) ?_
  refine ws_minI (st := []) (dcd d_Pl_walking_0 12 rfl) km_Pl_61 ms_minI in_jm mc_minI ⟨by decide, Nat.le_of_ble_eq_true rfl⟩ ?_
  exact ws_iret (dcd d_Pl_walking_0 13 rfl) ⟨_, rfl, rfl⟩ h
theorem sg_Sn_isShut_0 {o0 : Nat} {x1 : Int32} (k0 : okS o0 5) (h : (((isI (mI u o0 1) x1) → Q (some (.int 1)) u) ∧ (¬ (isI (mI u o0 1) x1) → Q (some (.int 0)) u))) : Ws G Sn_isShut 0 [(0, .ref o0), (1, .int x1)] [] u Q := by
  refine ws_aload_n 0 (dcd d_Sn_isShut_0 0 rfl) rfl ?_
  refine ws_getI f_Sn_15 rfl (dcd d_Sn_isShut_0 1 rfl) k0 ?_
  refine ws_iload_n 1 (dcd d_Sn_isShut_0 2 rfl) rfl ?_
  refine ws_callSI (As := [.int (mI u o0 1), .int x1]) (st := []) (la := [(0, .int (mI u o0 1)), (1, .int x1)]) (dcd d_Sn_isShut_0 3 rfl) cs_D_isIn k_Sn_46 ⟨by decide, by decide⟩ rfl (Nat.le_of_ble_eq_true rfl) (Nat.le_of_ble_eq_true rfl) rfl rfl sp_D_isIn ?_
  rintro _ _ ⟨rfl, ⟨rfl, c1⟩ | ⟨rfl, c1⟩⟩
  · have h := h.1 c1
    exact ws_iret (dcd d_Sn_isShut_0 4 rfl) ⟨_, rfl, by decide⟩ h
  · have h := h.2 c1
    exact ws_iret (dcd d_Sn_isShut_0 4 rfl) ⟨_, rfl, by decide⟩ h
theorem sg_Sn_shutCount_0 {o0 : Nat} (k0 : okS o0 5) (h : Q (some (.int (bcV (mI u o0 1)))) u) : Ws G Sn_shutCount 0 [(0, .ref o0)] [] u Q := by
  refine ws_aload_n 0 (dcd d_Sn_shutCount_0 0 rfl) rfl ?_
  refine ws_getI f_Sn_15 rfl (dcd d_Sn_shutCount_0 1 rfl) k0 ?_
  refine ws_callSI (As := [.int (mI u o0 1)]) (st := []) (la := [(0, .int (mI u o0 1))]) (dcd d_Sn_shutCount_0 2 rfl) cs_ji_bitCount k_Sn_50 ⟨by decide, by decide⟩ rfl (Nat.le_of_ble_eq_true rfl) (Nat.le_of_ble_eq_true rfl) rfl rfl sp_ji_bitCount ?_
  rintro _ _ ⟨rfl, rfl⟩
  exact ws_iret (dcd d_Sn_shutCount_0 3 rfl) ⟨_, rfl, rfl⟩ h
theorem sg_D_rowOf_0 {x1 : Int32}  (h : (((0 ≤ x1 ∧ x1 < 6) → (vp_in x1 6 ∧ Q (some (.ref (R0 3 (x1 : Int32).toNatClampNeg))) u)) ∧ (¬ (0 ≤ x1 ∧ x1 < 6) → Q (some (.ref 5)) u))) : Ws G D_rowOf 0 [(0, .ref 2), (1, .int x1)] [] u Q := by
  refine ws_iload_n 1 (dcd d_D_rowOf_0 0 rfl) rfl ?_
  refine ws_callSI (As := [.int x1]) (st := []) (la := [(0, .int x1)]) (dcd d_D_rowOf_0 1 rfl) cs_D_isRow k_D_87 ⟨by decide, by decide⟩ rfl (Nat.le_of_ble_eq_true rfl) (Nat.le_of_ble_eq_true rfl) rfl rfl sp_D_isRow ?_
  rintro _ _ ⟨rfl, ⟨rfl, c1⟩ | ⟨rfl, c1⟩⟩
  · have h := h.1 c1
    refine ws_if_eq (tgt := 16) (dcd d_D_rowOf_0 2 rfl) (by decide) (fun c => absurd c (by decide)) (fun _ => ?_)
    refine ws_aload_n 0 (dcd d_D_rowOf_0 3 rfl) rfl ?_
    refine ws_getF (a := 3) f_D_11 rfl (dcd d_D_rowOf_0 4 rfl) ok_2 of_7_0 rfl ?_
    refine ws_iload_n 1 (dcd d_D_rowOf_0 5 rfl) rfl ?_
    obtain ⟨e3, h⟩ := h
    refine ws_aald (L := 6) (dcd d_D_rowOf_0 6 rfl) (os_7_0 ok_2) (by decide) (ol_7_0 ok_2) e3 ?_
    have j4 : okS (R0 3 (x1 : Int32).toNatClampNeg) 6 := (ra_ok (os_7_0 ok_2) (by decide) (by rw [show (S0 3).2 = 6 from (ol_7_0 ok_2)]; exact ix_lt e3)).2
    refine ws_goto (tgt := 20) (dcd d_D_rowOf_0 7 rfl) (by decide) ?_
    exact ws_aret (dcd d_D_rowOf_0 10 rfl) ⟨_, rfl⟩ h
  · have h := h.2 c1
    refine ws_if_eq (tgt := 16) (dcd d_D_rowOf_0 2 rfl) (by decide) (fun _ => ?_) (fun c => absurd (show (0 : Int32) = 0 from by decide) c)
    refine ws_aload_n 0 (dcd d_D_rowOf_0 8 rfl) rfl ?_
    refine ws_getF (a := 5) f_D_21 rfl (dcd d_D_rowOf_0 9 rfl) ok_2 of_7_2 rfl ?_
    exact ws_aret (dcd d_D_rowOf_0 10 rfl) ⟨_, rfl⟩ h
theorem sg_D_textOf_0 {x1 : Int32}  (h : (((0 ≤ x1 ∧ x1 < 4) → (vp_in x1 4 ∧ Q (some (.ref (R0 4 (x1 : Int32).toNatClampNeg))) u)) ∧ (¬ (0 ≤ x1 ∧ x1 < 4) → Q (some (.ref 5)) u))) : Ws G D_textOf 0 [(0, .ref 2), (1, .int x1)] [] u Q := by
  refine ws_iload_n 1 (dcd d_D_textOf_0 0 rfl) rfl ?_
  refine ws_callSI (As := [.int x1]) (st := []) (la := [(0, .int x1)]) (dcd d_D_textOf_0 1 rfl) cs_D_isText k_D_141 ⟨by decide, by decide⟩ rfl (Nat.le_of_ble_eq_true rfl) (Nat.le_of_ble_eq_true rfl) rfl rfl sp_D_isText ?_
  rintro _ _ ⟨rfl, ⟨rfl, c1⟩ | ⟨rfl, c1⟩⟩
  · have h := h.1 c1
    refine ws_if_eq (tgt := 16) (dcd d_D_textOf_0 2 rfl) (by decide) (fun c => absurd c (by decide)) (fun _ => ?_)
    refine ws_aload_n 0 (dcd d_D_textOf_0 3 rfl) rfl ?_
    refine ws_getF (a := 4) f_D_15 rfl (dcd d_D_textOf_0 4 rfl) ok_2 of_7_1 rfl ?_
    refine ws_iload_n 1 (dcd d_D_textOf_0 5 rfl) rfl ?_
    obtain ⟨e3, h⟩ := h
    refine ws_aald (L := 4) (dcd d_D_textOf_0 6 rfl) (os_7_1 ok_2) (by decide) (ol_7_1 ok_2) e3 ?_
    have j4 : okS (R0 4 (x1 : Int32).toNatClampNeg) 6 := (ra_ok (os_7_1 ok_2) (by decide) (by rw [show (S0 4).2 = 4 from (ol_7_1 ok_2)]; exact ix_lt e3)).2
    refine ws_goto (tgt := 20) (dcd d_D_textOf_0 7 rfl) (by decide) ?_
    exact ws_aret (dcd d_D_textOf_0 10 rfl) ⟨_, rfl⟩ h
  · have h := h.2 c1
    refine ws_if_eq (tgt := 16) (dcd d_D_textOf_0 2 rfl) (by decide) (fun _ => ?_) (fun c => absurd (show (0 : Int32) = 0 from by decide) c)
    refine ws_aload_n 0 (dcd d_D_textOf_0 8 rfl) rfl ?_
    refine ws_getF (a := 5) f_D_21 rfl (dcd d_D_textOf_0 9 rfl) ok_2 of_7_2 rfl ?_
    exact ws_aret (dcd d_D_textOf_0 10 rfl) ⟨_, rfl⟩ h
theorem sg_D_keptOf_0 {x1 : Int32}  (h : (((0 ≤ x1 ∧ x1 < 3) → (vp_in x1 3 ∧ Q (some (.ref (R0 9 (x1 : Int32).toNatClampNeg))) u)) ∧ (¬ (0 ≤ x1 ∧ x1 < 3) → Q (some (.ref 10)) u))) : Ws G D_keptOf 0 [(0, .ref 2), (1, .int x1)] [] u Q := by
  refine ws_iload_n 1 (dcd d_D_keptOf_0 0 rfl) rfl ?_
  refine ws_callSI (As := [.int x1]) (st := []) (la := [(0, .int x1)]) (dcd d_D_keptOf_0 1 rfl) cs_D_isKeptPlace k_D_237 ⟨by decide, by decide⟩ rfl (Nat.le_of_ble_eq_true rfl) (Nat.le_of_ble_eq_true rfl) rfl rfl sp_D_isKeptPlace ?_
  rintro _ _ ⟨rfl, ⟨rfl, c1⟩ | ⟨rfl, c1⟩⟩
  · have h := h.1 c1
    refine ws_if_eq (tgt := 16) (dcd d_D_keptOf_0 2 rfl) (by decide) (fun c => absurd c (by decide)) (fun _ => ?_)
    refine ws_aload_n 0 (dcd d_D_keptOf_0 3 rfl) rfl ?_
    refine ws_getF (a := 9) f_D_32 rfl (dcd d_D_keptOf_0 4 rfl) ok_2 of_7_4 rfl ?_
    refine ws_iload_n 1 (dcd d_D_keptOf_0 5 rfl) rfl ?_
    obtain ⟨e3, h⟩ := h
    refine ws_aald (L := 3) (dcd d_D_keptOf_0 6 rfl) (os_7_4 ok_2) (by decide) (ol_7_4 ok_2) e3 ?_
    have j4 : okS (R0 9 (x1 : Int32).toNatClampNeg) 5 := (ra_ok (os_7_4 ok_2) (by decide) (by rw [show (S0 9).2 = 3 from (ol_7_4 ok_2)]; exact ix_lt e3)).2
    refine ws_goto (tgt := 20) (dcd d_D_keptOf_0 7 rfl) (by decide) ?_
    exact ws_aret (dcd d_D_keptOf_0 10 rfl) ⟨_, rfl⟩ h
  · have h := h.2 c1
    refine ws_if_eq (tgt := 16) (dcd d_D_keptOf_0 2 rfl) (by decide) (fun _ => ?_) (fun c => absurd (show (0 : Int32) = 0 from by decide) c)
    refine ws_aload_n 0 (dcd d_D_keptOf_0 8 rfl) rfl ?_
    refine ws_getF (a := 10) f_D_36 rfl (dcd d_D_keptOf_0 9 rfl) ok_2 of_7_5 rfl ?_
    exact ws_aret (dcd d_D_keptOf_0 10 rfl) ⟨_, rfl⟩ h
end SEG
