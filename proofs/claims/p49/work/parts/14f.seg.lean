section SEG
variable {G : pG} {u : pM} {Q : Option Value → pM → Prop}
theorem sg_m_at_0 {x1 : Int32} {x2 : Int32}  (h : Ws G m_askedRow 0 [(0, .ref 76), (1, .int x1)] [] u (RI fun a1 u1 => ((0 ≤ a1 → (vp_in x1 6 ∧ (((0 ≤ x2 ∧ x2 ≤ ((mI u1 78 (x1 : Int32).toNatClampNeg) - 1)) → (vp_in (40 * x1 + x2) 240 ∧ Q (some (.int 1)) (pI u1 76 2 (mI u1 79 ((40 * x1 + x2) : Int32).toNatClampNeg)))) ∧ (¬ (0 ≤ x2 ∧ x2 ≤ ((mI u1 78 (x1 : Int32).toNatClampNeg) - 1)) → Q (some (.int (-3))) (mt u1 2))))) ∧ (¬ (0 ≤ a1) → Q (some (.int a1)) u1)))) : Ws G m_at 0 [(0, .ref 76), (1, .int x1), (2, .int x2)] [] u Q := by
  refine ws_aload_n 0 (dcd d_m_at_0 0 rfl) rfl ?_
  refine ws_iload_n 1 (dcd d_m_at_0 1 rfl) rfl ?_
  refine ws_callVI (o := 76) (As := [.int x1]) (st := []) (la := [(0, .ref 76), (1, .int x1)]) (dcd d_m_at_0 2 rfl) cv_m_askedRow k_m_97 ⟨by decide, by decide⟩ ok_76 rfl (Nat.le_of_ble_eq_true rfl) (Nat.le_of_ble_eq_true rfl) rfl rfl h (fun a1 u1 h => ?_)
  refine ws_istore_n (l' := [(3, .int a1), (0, .ref 76), (1, .int x1), (2, .int x2)]) (dcd d_m_at_0 3 rfl) (by decide) rfl ?_
  refine ws_iload_n 0 (dcd d_m_at_0 4 rfl) rfl ?_
  refine ws_if_ge (tgt := 12) (dcd d_m_at_0 5 rfl) (by decide) (fun c2 => ?_) (fun c2 => ?_)
  · have h := h.1 c2
    refine ws_iload_n 3 (dcd d_m_at_0 8 rfl) rfl ?_
    refine ws_iconst (v := 0) (dcd d_m_at_0 9 rfl) (by decide) ?_
    refine ws_aload_n 1 (dcd d_m_at_0 10 rfl) rfl ?_
    refine ws_getF (a := 78) f_m_17 rfl (dcd d_m_at_0 11 rfl) ok_76 of_8_5 rfl ?_
    refine ws_iload_n 2 (dcd d_m_at_0 12 rfl) rfl ?_
    obtain ⟨e3, h⟩ := h
    refine ws_iald (L := 6) (dcd d_m_at_0 13 rfl) (os_8_5 ok_76) (ol_8_5 ok_76) e3 ?_
    refine ws_iconst (v := 1) (dcd d_m_at_0 14 rfl) (by decide) ?_
    refine ws_isub (dcd d_m_at_0 15 rfl) ?_
    refine ws_callSI (As := [.int x2, .int 0, .int ((mI u1 78 (x1 : Int32).toNatClampNeg) - 1)]) (st := []) (la := [(0, .int x2), (1, .int 0), (2, .int ((mI u1 78 (x1 : Int32).toNatClampNeg) - 1))]) (dcd d_m_at_0 16 rfl) cs_m_in k_m_78 ⟨by decide, by decide⟩ rfl (Nat.le_of_ble_eq_true rfl) (Nat.le_of_ble_eq_true rfl) rfl rfl sp_m_in ?_
    rintro _ _ ⟨rfl, ⟨rfl, c4⟩ | ⟨rfl, c4⟩⟩
    · have h := h.1 c4
      refine ws_if_eq (tgt := 42) (dcd d_m_at_0 17 rfl) (by decide) (fun c => absurd c (by decide)) (fun _ => ?_)
      refine ws_aload_n 1 (dcd d_m_at_0 18 rfl) rfl ?_
      refine ws_aload_n 1 (dcd d_m_at_0 19 rfl) rfl ?_
      refine ws_iload_n 2 (dcd d_m_at_0 20 rfl) rfl ?_
      refine ws_iload_n 3 (dcd d_m_at_0 21 rfl) rfl ?_
      obtain ⟨e6, h⟩ := h
      refine ws_callVI (o := 76) (As := [.int x1, .int x2]) (st := [.ref 76]) (la := [(0, .ref 76), (1, .int x1), (2, .int x2)]) (dcd d_m_at_0 22 rfl) cv_m_rowAt k_m_100 ⟨by decide, by decide⟩ ok_76 rfl (Nat.le_of_ble_eq_true rfl) (Nat.le_of_ble_eq_true rfl) rfl rfl (sp_m_rowAt e6) ?_
      rintro _ _ ⟨rfl, rfl⟩
      refine ws_iconst (v := 1) (dcd d_m_at_0 23 rfl) (by decide) ?_
      refine ws_callVI (o := 76) (As := [.int (mI u1 79 ((40 * x1 + x2) : Int32).toNatClampNeg), .int 1]) (st := []) (la := [(0, .ref 76), (1, .int (mI u1 79 ((40 * x1 + x2) : Int32).toNatClampNeg)), (2, .int 1)]) (dcd d_m_at_0 24 rfl) cv_m_ask k_m_104 ⟨by decide, by decide⟩ ok_76 rfl (Nat.le_of_ble_eq_true rfl) (Nat.le_of_ble_eq_true rfl) rfl rfl sp_m_ask ?_
      rintro _ _ ⟨rfl, rfl⟩
      refine ws_goto (tgt := 47) (dcd d_m_at_0 25 rfl) (by decide) ?_
      exact ws_iret (dcd d_m_at_0 29 rfl) ⟨_, rfl, rfl⟩ h
    · have h := h.2 c4
      refine ws_if_eq (tgt := 42) (dcd d_m_at_0 17 rfl) (by decide) (fun _ => ?_) (fun c => absurd (show (0 : Int32) = 0 from by decide) c)
      refine ws_aload_n 1 (dcd d_m_at_0 26 rfl) rfl ?_
      refine ws_iconst (v := 2) (dcd d_m_at_0 27 rfl) (by decide) ?_
      refine ws_callVI (o := 76) (As := [.int 2]) (st := []) (la := [(0, .ref 76), (1, .int 2)]) (dcd d_m_at_0 28 rfl) cv_m_meet k_m_86 ⟨by decide, by decide⟩ ok_76 rfl (Nat.le_of_ble_eq_true rfl) (Nat.le_of_ble_eq_true rfl) rfl rfl (sp_m_meet (vin (by decide) (by decide) (by decide))) ?_
      rintro _ _ ⟨rfl, rfl⟩
      exact ws_iret (dcd d_m_at_0 29 rfl) ⟨_, rfl, rfl⟩ h
  · have h := h.2 c2
    refine ws_iload_n 0 (dcd d_m_at_0 6 rfl) rfl ?_
    exact ws_iret (dcd d_m_at_0 7 rfl) ⟨_, rfl, rfl⟩ h
theorem sg_m_askedRow_0 {x1 : Int32}  (h : (((0 ≤ x1 ∧ x1 ≤ 5) → (vp_in x1 6 ∧ ((0 ≤ (mI u 78 (x1 : Int32).toNatClampNeg) → Q (some (.int 0)) u) ∧ (¬ (0 ≤ (mI u 78 (x1 : Int32).toNatClampNeg)) → Q (some (.int (-3))) (mt u 1))))) ∧ (¬ (0 ≤ x1 ∧ x1 ≤ 5) → Q (some (.int (-1))) u))) : Ws G m_askedRow 0 [(0, .ref 76), (1, .int x1)] [] u Q := by
  refine ws_iload_n 1 (dcd d_m_askedRow_0 0 rfl) rfl ?_
  refine ws_callSI (As := [.int x1]) (st := []) (la := [(0, .int x1)]) (dcd d_m_askedRow_0 1 rfl) cs_m_isRow k_m_82 ⟨by decide, by decide⟩ rfl (Nat.le_of_ble_eq_true rfl) (Nat.le_of_ble_eq_true rfl) rfl rfl sp_m_isRow ?_
  rintro _ _ ⟨rfl, ⟨rfl, c1⟩ | ⟨rfl, c1⟩⟩
  · have h := h.1 c1
    refine ws_if_ne (tgt := 11) (dcd d_m_askedRow_0 2 rfl) (by decide) (fun _ => ?_) (fun c => absurd c (by decide))
    refine ws_aload_n 0 (dcd d_m_askedRow_0 5 rfl) rfl ?_
    refine ws_getF (a := 78) f_m_17 rfl (dcd d_m_askedRow_0 6 rfl) ok_76 of_8_5 rfl ?_
    refine ws_iload_n 1 (dcd d_m_askedRow_0 7 rfl) rfl ?_
    obtain ⟨e3, h⟩ := h
    refine ws_iald (L := 6) (dcd d_m_askedRow_0 8 rfl) (os_8_5 ok_76) (ol_8_5 ok_76) e3 ?_
    refine ws_if_ge (tgt := 28) (dcd d_m_askedRow_0 9 rfl) (by decide) (fun c4 => ?_) (fun c4 => ?_)
    · have h := h.1 c4
      refine ws_iconst (v := 0) (dcd d_m_askedRow_0 14 rfl) (by decide) ?_
      exact ws_iret (dcd d_m_askedRow_0 15 rfl) ⟨_, rfl, rfl⟩ h
    · have h := h.2 c4
      refine ws_aload_n 0 (dcd d_m_askedRow_0 10 rfl) rfl ?_
      refine ws_iconst (v := 1) (dcd d_m_askedRow_0 11 rfl) (by decide) ?_
      refine ws_callVI (o := 76) (As := [.int 1]) (st := []) (la := [(0, .ref 76), (1, .int 1)]) (dcd d_m_askedRow_0 12 rfl) cv_m_meet k_m_86 ⟨by decide, by decide⟩ ok_76 rfl (Nat.le_of_ble_eq_true rfl) (Nat.le_of_ble_eq_true rfl) rfl rfl (sp_m_meet (vin (by decide) (by decide) (by decide))) ?_
      rintro _ _ ⟨rfl, rfl⟩
      refine ws_goto (tgt := 29) (dcd d_m_askedRow_0 13 rfl) (by decide) ?_
      exact ws_iret (dcd d_m_askedRow_0 15 rfl) ⟨_, rfl, rfl⟩ h
  · have h := h.2 c1
    refine ws_if_ne (tgt := 11) (dcd d_m_askedRow_0 2 rfl) (by decide) (fun c => absurd (show (0 : Int32) = 0 from by decide) c) (fun _ => ?_)
    refine ws_iconst (v := (-1)) (dcd d_m_askedRow_0 3 rfl) (by decide) ?_
    refine ws_goto (tgt := 29) (dcd d_m_askedRow_0 4 rfl) (by decide) ?_
    exact ws_iret (dcd d_m_askedRow_0 15 rfl) ⟨_, rfl, rfl⟩ h
theorem sg_m_lay_0 {x1 : Int32} {x2 : Int32} {x3 : Int32}  (h : Ws G m_at 0 [(0, .ref 76), (1, .int x1), (2, .int x2)] [] u (RI fun a1 u1 => ((0 ≤ a1 → (vp_in (40 * x1 + x2) 240 ∧ Q (some (.int 1)) (pI u1 79 ((40 * x1 + x2) : Int32).toNatClampNeg x3))) ∧ (¬ (0 ≤ a1) → Q (some (.int a1)) u1)))) : Ws G m_lay 0 [(0, .ref 76), (1, .int x1), (2, .int x2), (3, .int x3)] [] u Q := by
  refine ws_aload_n 0 (dcd d_m_lay_0 0 rfl) rfl ?_
  refine ws_iload_n 1 (dcd d_m_lay_0 1 rfl) rfl ?_
  refine ws_iload_n 2 (dcd d_m_lay_0 2 rfl) rfl ?_
  refine ws_callVI (o := 76) (As := [.int x1, .int x2]) (st := []) (la := [(0, .ref 76), (1, .int x1), (2, .int x2)]) (dcd d_m_lay_0 3 rfl) cv_m_at k_m_107 ⟨by decide, by decide⟩ ok_76 rfl (Nat.le_of_ble_eq_true rfl) (Nat.le_of_ble_eq_true rfl) rfl rfl h (fun a1 u1 h => ?_)
  refine ws_istore (l' := [(4, .int a1), (0, .ref 76), (1, .int x1), (2, .int x2), (3, .int x3)]) (dcd d_m_lay_0 4 rfl) (by decide) rfl ?_
  refine ws_iload 0 (dcd d_m_lay_0 5 rfl) rfl ?_
  refine ws_if_ge (tgt := 16) (dcd d_m_lay_0 6 rfl) (by decide) (fun c2 => ?_) (fun c2 => ?_)
  · have h := h.1 c2
    refine ws_aload_n 1 (dcd d_m_lay_0 9 rfl) rfl ?_
    refine ws_iload_n 2 (dcd d_m_lay_0 10 rfl) rfl ?_
    refine ws_iload_n 3 (dcd d_m_lay_0 11 rfl) rfl ?_
    refine ws_iload_n 4 (dcd d_m_lay_0 12 rfl) rfl ?_
    obtain ⟨e3, h⟩ := h
    refine ws_callVV (o := 76) (As := [.int x1, .int x2, .int x3]) (st := []) (la := [(0, .ref 76), (1, .int x1), (2, .int x2), (3, .int x3)]) (dcd d_m_lay_0 13 rfl) cv_m_setRow k_m_93 ⟨by decide, by decide⟩ ok_76 rfl (Nat.le_of_ble_eq_true rfl) (Nat.le_of_ble_eq_true rfl) rfl rfl (sp_m_setRow e3) ?_
    rintro _ rfl
    refine ws_iconst (v := 1) (dcd d_m_lay_0 14 rfl) (by decide) ?_
    exact ws_iret (dcd d_m_lay_0 15 rfl) ⟨_, rfl, rfl⟩ h
  · have h := h.2 c2
    refine ws_iload 0 (dcd d_m_lay_0 7 rfl) rfl ?_
    exact ws_iret (dcd d_m_lay_0 8 rfl) ⟨_, rfl, rfl⟩ h
theorem sg_m_tear_0 {x1 : Int32}  (h : Ws G m_askedRow 0 [(0, .ref 76), (1, .int x1)] [] u (RI fun a1 u1 => ((0 ≤ a1 → (vp_in x1 6 ∧ Q (some (.int 1)) (pI u1 78 (x1 : Int32).toNatClampNeg (-9)))) ∧ (¬ (0 ≤ a1) → Q (some (.int a1)) u1)))) : Ws G m_tear 0 [(0, .ref 76), (1, .int x1)] [] u Q := by
  refine ws_aload_n 0 (dcd d_m_tear_0 0 rfl) rfl ?_
  refine ws_iload_n 1 (dcd d_m_tear_0 1 rfl) rfl ?_
  refine ws_callVI (o := 76) (As := [.int x1]) (st := []) (la := [(0, .ref 76), (1, .int x1)]) (dcd d_m_tear_0 2 rfl) cv_m_askedRow k_m_97 ⟨by decide, by decide⟩ ok_76 rfl (Nat.le_of_ble_eq_true rfl) (Nat.le_of_ble_eq_true rfl) rfl rfl h (fun a1 u1 h => ?_)
  refine ws_istore_n (l' := [(2, .int a1), (0, .ref 76), (1, .int x1)]) (dcd d_m_tear_0 3 rfl) (by decide) rfl ?_
  refine ws_iload_n 0 (dcd d_m_tear_0 4 rfl) rfl ?_
  refine ws_if_ge (tgt := 12) (dcd d_m_tear_0 5 rfl) (by decide) (fun c2 => ?_) (fun c2 => ?_)
  · have h := h.1 c2
    refine ws_aload_n 1 (dcd d_m_tear_0 8 rfl) rfl ?_
    refine ws_getF (a := 78) f_m_17 rfl (dcd d_m_tear_0 9 rfl) ok_76 of_8_5 rfl ?_
    refine ws_iload_n 2 (dcd d_m_tear_0 10 rfl) rfl ?_
    refine ws_bipush (v := (-9)) (dcd d_m_tear_0 11 rfl) (by decide) ?_
    obtain ⟨e3, h⟩ := h
    refine ws_iast (L := 6) (dcd d_m_tear_0 12 rfl) (os_8_5 ok_76) (ol_8_5 ok_76) e3 ?_
    refine ws_iconst (v := 1) (dcd d_m_tear_0 13 rfl) (by decide) ?_
    exact ws_iret (dcd d_m_tear_0 14 rfl) ⟨_, rfl, rfl⟩ h
  · have h := h.2 c2
    refine ws_iload_n 0 (dcd d_m_tear_0 6 rfl) rfl ?_
    exact ws_iret (dcd d_m_tear_0 7 rfl) ⟨_, rfl, rfl⟩ h
theorem sg_m_copy_0 {x1 : Int32} {x2 : Int32} {x3 : Int32} {x4 : Int32} {x5 : Int32}  (h : (((0 ≤ x1 ∧ x1 ≤ 5) → (((0 ≤ x3 ∧ x3 ≤ 5) → ((0 ≤ x5 → (vp_in x1 6 ∧ (((mI u 78 (x1 : Int32).toNatClampNeg) < 0 → Q (some (.int (-3))) (mt u 1)) ∧ (¬ ((mI u 78 (x1 : Int32).toNatClampNeg) < 0) → (vp_in x3 6 ∧ ((0 ≤ (mI u 78 (x3 : Int32).toNatClampNeg) → ((x2 < 0 → Q (some (.int (-3))) (mt u 2)) ∧ (¬ (x2 < 0) → ((x4 < 0 → Q (some (.int (-3))) (mt u 2)) ∧ (¬ (x4 < 0) → (vp_in x1 6 ∧ ((0 < (lg_cmp ((x2 : Int32).toInt64 + (x5 : Int32).toInt64) ((mI u 78 (x1 : Int32).toNatClampNeg) : Int32).toInt64) → Q (some (.int (-3))) (mt u 2)) ∧ (¬ (0 < (lg_cmp ((x2 : Int32).toInt64 + (x5 : Int32).toInt64) ((mI u 78 (x1 : Int32).toNatClampNeg) : Int32).toInt64)) → (vp_in x3 6 ∧ (((lg_cmp ((x4 : Int32).toInt64 + (x5 : Int32).toInt64) ((mI u 78 (x3 : Int32).toNatClampNeg) : Int32).toInt64) ≤ 0 → Ws G m_copy 104 [(0, .ref 76), (1, .int x1), (2, .int x2), (3, .int x3), (4, .int x4), (5, .int x5), (6, .int 0)] [] u Q) ∧ (¬ ((lg_cmp ((x4 : Int32).toInt64 + (x5 : Int32).toInt64) ((mI u 78 (x3 : Int32).toNatClampNeg) : Int32).toInt64) ≤ 0) → Q (some (.int (-3))) (mt u 2)))))))))))) ∧ (¬ (0 ≤ (mI u 78 (x3 : Int32).toNatClampNeg)) → Q (some (.int (-3))) (mt u 1)))))))) ∧ (¬ (0 ≤ x5) → Q (some (.int (-3))) (mt u 5)))) ∧ (¬ (0 ≤ x3 ∧ x3 ≤ 5) → Q (some (.int (-1))) u))) ∧ (¬ (0 ≤ x1 ∧ x1 ≤ 5) → Q (some (.int (-1))) u))) : Ws G m_copy 0 [(0, .ref 76), (1, .int x1), (2, .int x2), (3, .int x3), (4, .int x4), (5, .int x5)] [] u Q := by
  refine ws_iload_n 1 (dcd d_m_copy_0 0 rfl) rfl ?_
  refine ws_callSI (As := [.int x1]) (st := []) (la := [(0, .int x1)]) (dcd d_m_copy_0 1 rfl) cs_m_isRow k_m_82 ⟨by decide, by decide⟩ rfl (Nat.le_of_ble_eq_true rfl) (Nat.le_of_ble_eq_true rfl) rfl rfl sp_m_isRow ?_
  rintro _ _ ⟨rfl, ⟨rfl, c1⟩ | ⟨rfl, c1⟩⟩
  · have h := h.1 c1
    refine ws_if_eq (tgt := 14) (dcd d_m_copy_0 2 rfl) (by decide) (fun c => absurd c (by decide)) (fun _ => ?_)
    refine ws_iload_n 3 (dcd d_m_copy_0 3 rfl) rfl ?_
    refine ws_callSI (As := [.int x3]) (st := []) (la := [(0, .int x3)]) (dcd d_m_copy_0 4 rfl) cs_m_isRow k_m_82 ⟨by decide, by decide⟩ rfl (Nat.le_of_ble_eq_true rfl) (Nat.le_of_ble_eq_true rfl) rfl rfl sp_m_isRow ?_
    rintro _ _ ⟨rfl, ⟨rfl, c3⟩ | ⟨rfl, c3⟩⟩
    · have h := h.1 c3
      refine ws_if_ne (tgt := 16) (dcd d_m_copy_0 5 rfl) (by decide) (fun _ => ?_) (fun c => absurd c (by decide))
      refine ws_iload 5 (dcd d_m_copy_0 8 rfl) rfl ?_
      refine ws_if_ge (tgt := 27) (dcd d_m_copy_0 9 rfl) (by decide) (fun c5 => ?_) (fun c5 => ?_)
      · have h := h.1 c5
        refine ws_aload_n 0 (dcd d_m_copy_0 14 rfl) rfl ?_
        refine ws_getF (a := 78) f_m_17 rfl (dcd d_m_copy_0 15 rfl) ok_76 of_8_5 rfl ?_
        refine ws_iload_n 1 (dcd d_m_copy_0 16 rfl) rfl ?_
        obtain ⟨e6, h⟩ := h
        refine ws_iald (L := 6) (dcd d_m_copy_0 17 rfl) (os_8_5 ok_76) (ol_8_5 ok_76) e6 ?_
        refine ws_if_lt (tgt := 45) (dcd d_m_copy_0 18 rfl) (by decide) (fun c7 => ?_) (fun c7 => ?_)
        · have h := h.1 c7
          refine ws_aload_n 0 (dcd d_m_copy_0 24 rfl) rfl ?_
          refine ws_iconst (v := 1) (dcd d_m_copy_0 25 rfl) (by decide) ?_
          refine ws_callVI (o := 76) (As := [.int 1]) (st := []) (la := [(0, .ref 76), (1, .int 1)]) (dcd d_m_copy_0 26 rfl) cv_m_meet k_m_86 ⟨by decide, by decide⟩ ok_76 rfl (Nat.le_of_ble_eq_true rfl) (Nat.le_of_ble_eq_true rfl) rfl rfl (sp_m_meet (vin (by decide) (by decide) (by decide))) ?_
          rintro _ _ ⟨rfl, rfl⟩
          exact ws_iret (dcd d_m_copy_0 27 rfl) ⟨_, rfl, rfl⟩ h
        · have h := h.2 c7
          refine ws_aload_n 0 (dcd d_m_copy_0 19 rfl) rfl ?_
          refine ws_getF (a := 78) f_m_17 rfl (dcd d_m_copy_0 20 rfl) ok_76 of_8_5 rfl ?_
          refine ws_iload_n 3 (dcd d_m_copy_0 21 rfl) rfl ?_
          obtain ⟨e8, h⟩ := h
          refine ws_iald (L := 6) (dcd d_m_copy_0 22 rfl) (os_8_5 ok_76) (ol_8_5 ok_76) e8 ?_
          refine ws_if_ge (tgt := 51) (dcd d_m_copy_0 23 rfl) (by decide) (fun c9 => ?_) (fun c9 => ?_)
          · have h := h.1 c9
            refine ws_iload_n 2 (dcd d_m_copy_0 28 rfl) rfl ?_
            refine ws_if_lt (tgt := 95) (dcd d_m_copy_0 29 rfl) (by decide) (fun c10 => ?_) (fun c10 => ?_)
            · have h := h.1 c10
              refine ws_aload_n 0 (dcd d_m_copy_1 26 rfl) rfl ?_
              refine ws_iconst (v := 2) (dcd d_m_copy_1 27 rfl) (by decide) ?_
              refine ws_callVI (o := 76) (As := [.int 2]) (st := []) (la := [(0, .ref 76), (1, .int 2)]) (dcd d_m_copy_1 28 rfl) cv_m_meet k_m_86 ⟨by decide, by decide⟩ ok_76 rfl (Nat.le_of_ble_eq_true rfl) (Nat.le_of_ble_eq_true rfl) rfl rfl (sp_m_meet (vin (by decide) (by decide) (by decide))) ?_
              rintro _ _ ⟨rfl, rfl⟩
              exact ws_iret (dcd d_m_copy_1 29 rfl) ⟨_, rfl, rfl⟩ h
            · have h := h.2 c10
              refine ws_iload 4 (dcd d_m_copy_1 0 rfl) rfl ?_
              refine ws_if_lt (tgt := 95) (dcd d_m_copy_1 1 rfl) (by decide) (fun c11 => ?_) (fun c11 => ?_)
              · have h := h.1 c11
                refine ws_aload_n 0 (dcd d_m_copy_1 26 rfl) rfl ?_
                refine ws_iconst (v := 2) (dcd d_m_copy_1 27 rfl) (by decide) ?_
                refine ws_callVI (o := 76) (As := [.int 2]) (st := []) (la := [(0, .ref 76), (1, .int 2)]) (dcd d_m_copy_1 28 rfl) cv_m_meet k_m_86 ⟨by decide, by decide⟩ ok_76 rfl (Nat.le_of_ble_eq_true rfl) (Nat.le_of_ble_eq_true rfl) rfl rfl (sp_m_meet (vin (by decide) (by decide) (by decide))) ?_
                rintro _ _ ⟨rfl, rfl⟩
                exact ws_iret (dcd d_m_copy_1 29 rfl) ⟨_, rfl, rfl⟩ h
              · have h := h.2 c11
                refine ws_iload_n 2 (dcd d_m_copy_1 2 rfl) rfl ?_
                refine ws_i2l (dcd d_m_copy_1 3 rfl) ?_
                refine ws_iload 5 (dcd d_m_copy_1 4 rfl) rfl ?_
                refine ws_i2l (dcd d_m_copy_1 5 rfl) ?_
                refine ws_ladd (dcd d_m_copy_1 6 rfl) ?_
                refine ws_aload_n 0 (dcd d_m_copy_1 7 rfl) rfl ?_
                refine ws_getF (a := 78) f_m_17 rfl (dcd d_m_copy_1 8 rfl) ok_76 of_8_5 rfl ?_
                refine ws_iload_n 1 (dcd d_m_copy_1 9 rfl) rfl ?_
                obtain ⟨e12, h⟩ := h
                refine ws_iald (L := 6) (dcd d_m_copy_1 10 rfl) (os_8_5 ok_76) (ol_8_5 ok_76) e12 ?_
                refine ws_i2l (dcd d_m_copy_1 11 rfl) ?_
                refine ws_lcmp (dcd d_m_copy_1 12 rfl) ?_
                refine ws_if_gt (tgt := 95) (dcd d_m_copy_1 13 rfl) (by decide) (fun c13 => ?_) (fun c13 => ?_)
                · have h := h.1 c13
                  refine ws_aload_n 0 (dcd d_m_copy_1 26 rfl) rfl ?_
                  refine ws_iconst (v := 2) (dcd d_m_copy_1 27 rfl) (by decide) ?_
                  refine ws_callVI (o := 76) (As := [.int 2]) (st := []) (la := [(0, .ref 76), (1, .int 2)]) (dcd d_m_copy_1 28 rfl) cv_m_meet k_m_86 ⟨by decide, by decide⟩ ok_76 rfl (Nat.le_of_ble_eq_true rfl) (Nat.le_of_ble_eq_true rfl) rfl rfl (sp_m_meet (vin (by decide) (by decide) (by decide))) ?_
                  rintro _ _ ⟨rfl, rfl⟩
                  exact ws_iret (dcd d_m_copy_1 29 rfl) ⟨_, rfl, rfl⟩ h
                · have h := h.2 c13
                  refine ws_iload 4 (dcd d_m_copy_1 14 rfl) rfl ?_
                  refine ws_i2l (dcd d_m_copy_1 15 rfl) ?_
                  refine ws_iload 5 (dcd d_m_copy_1 16 rfl) rfl ?_
                  refine ws_i2l (dcd d_m_copy_1 17 rfl) ?_
                  refine ws_ladd (dcd d_m_copy_1 18 rfl) ?_
                  refine ws_aload_n 0 (dcd d_m_copy_1 19 rfl) rfl ?_
                  refine ws_getF (a := 78) f_m_17 rfl (dcd d_m_copy_1 20 rfl) ok_76 of_8_5 rfl ?_
                  refine ws_iload_n 3 (dcd d_m_copy_1 21 rfl) rfl ?_
                  obtain ⟨e14, h⟩ := h
                  refine ws_iald (L := 6) (dcd d_m_copy_1 22 rfl) (os_8_5 ok_76) (ol_8_5 ok_76) e14 ?_
                  refine ws_i2l (dcd d_m_copy_1 23 rfl) ?_
                  refine ws_lcmp (dcd d_m_copy_1 24 rfl) ?_
                  refine ws_if_le (tgt := 101) (dcd d_m_copy_1 25 rfl) (by decide) (fun c15 => ?_) (fun c15 => ?_)
                  · have h := h.1 c15
                    refine ws_iconst (v := 0) (dcd d_m_copy_2 0 rfl) (by decide) ?_
                    refine ws_istore (l' := [(6, .int 0), (0, .ref 76), (1, .int x1), (2, .int x2), (3, .int x3), (4, .int x4), (5, .int x5)]) (dcd d_m_copy_2 1 rfl) (by decide) rfl ?_
                    exact ws_loc [1, 2, 3, 4, 5, 6, 0] rfl h
                  · have h := h.2 c15
                    refine ws_aload_n 0 (dcd d_m_copy_1 26 rfl) rfl ?_
                    refine ws_iconst (v := 2) (dcd d_m_copy_1 27 rfl) (by decide) ?_
                    refine ws_callVI (o := 76) (As := [.int 2]) (st := []) (la := [(0, .ref 76), (1, .int 2)]) (dcd d_m_copy_1 28 rfl) cv_m_meet k_m_86 ⟨by decide, by decide⟩ ok_76 rfl (Nat.le_of_ble_eq_true rfl) (Nat.le_of_ble_eq_true rfl) rfl rfl (sp_m_meet (vin (by decide) (by decide) (by decide))) ?_
                    rintro _ _ ⟨rfl, rfl⟩
                    exact ws_iret (dcd d_m_copy_1 29 rfl) ⟨_, rfl, rfl⟩ h
          · have h := h.2 c9
            refine ws_aload_n 0 (dcd d_m_copy_0 24 rfl) rfl ?_
            refine ws_iconst (v := 1) (dcd d_m_copy_0 25 rfl) (by decide) ?_
            refine ws_callVI (o := 76) (As := [.int 1]) (st := []) (la := [(0, .ref 76), (1, .int 1)]) (dcd d_m_copy_0 26 rfl) cv_m_meet k_m_86 ⟨by decide, by decide⟩ ok_76 rfl (Nat.le_of_ble_eq_true rfl) (Nat.le_of_ble_eq_true rfl) rfl rfl (sp_m_meet (vin (by decide) (by decide) (by decide))) ?_
            rintro _ _ ⟨rfl, rfl⟩
            exact ws_iret (dcd d_m_copy_0 27 rfl) ⟨_, rfl, rfl⟩ h
      · have h := h.2 c5
        refine ws_aload_n 0 (dcd d_m_copy_0 10 rfl) rfl ?_
        refine ws_iconst (v := 5) (dcd d_m_copy_0 11 rfl) (by decide) ?_
        refine ws_callVI (o := 76) (As := [.int 5]) (st := []) (la := [(0, .ref 76), (1, .int 5)]) (dcd d_m_copy_0 12 rfl) cv_m_meet k_m_86 ⟨by decide, by decide⟩ ok_76 rfl (Nat.le_of_ble_eq_true rfl) (Nat.le_of_ble_eq_true rfl) rfl rfl (sp_m_meet (vin (by decide) (by decide) (by decide))) ?_
        rintro _ _ ⟨rfl, rfl⟩
        exact ws_iret (dcd d_m_copy_0 13 rfl) ⟨_, rfl, rfl⟩ h
    · have h := h.2 c3
      refine ws_if_ne (tgt := 16) (dcd d_m_copy_0 5 rfl) (by decide) (fun c => absurd (show (0 : Int32) = 0 from by decide) c) (fun _ => ?_)
      refine ws_iconst (v := (-1)) (dcd d_m_copy_0 6 rfl) (by decide) ?_
      exact ws_iret (dcd d_m_copy_0 7 rfl) ⟨_, rfl, rfl⟩ h
  · have h := h.2 c1
    refine ws_if_eq (tgt := 14) (dcd d_m_copy_0 2 rfl) (by decide) (fun _ => ?_) (fun c => absurd (show (0 : Int32) = 0 from by decide) c)
    refine ws_iconst (v := (-1)) (dcd d_m_copy_0 6 rfl) (by decide) ?_
    exact ws_iret (dcd d_m_copy_0 7 rfl) ⟨_, rfl, rfl⟩ h
theorem sg_m_copy_104 {x1 : Int32} {x2 : Int32} {x3 : Int32} {x4 : Int32} {x5 : Int32} {x6 : Int32}  (h : ((x5 ≤ x6 → Ws G m_copy 136 [(0, .ref 76), (3, .int x3), (4, .int x4), (5, .int x5), (6, .int 0)] [] u Q) ∧ (¬ (x5 ≤ x6) → (vp_in (40 * x1 + (x2 + x6)) 240 ∧ (vp_in x6 40 ∧ Ws G m_copy 104 [(0, .ref 76), (1, .int x1), (2, .int x2), (3, .int x3), (4, .int x4), (5, .int x5), (6, .int (x6 + 1))] [] (pI u 80 (x6 : Int32).toNatClampNeg (mI u 79 ((40 * x1 + (x2 + x6)) : Int32).toNatClampNeg)) Q))))) : Ws G m_copy 104 [(0, .ref 76), (1, .int x1), (2, .int x2), (3, .int x3), (4, .int x4), (5, .int x5), (6, .int x6)] [] u Q := by
  refine ws_iload 6 (dcd d_m_copy_2 2 rfl) rfl ?_
  refine ws_iload 5 (dcd d_m_copy_2 3 rfl) rfl ?_
  refine ws_icmp_ge (tgt := 133) (dcd d_m_copy_2 4 rfl) (by decide) (fun c1 => ?_) (fun c1 => ?_)
  · have h := h.1 c1
    refine ws_iconst (v := 0) (dcd d_m_copy_2 17 rfl) (by decide) ?_
    refine ws_istore (l' := [(6, .int 0), (0, .ref 76), (1, .int x1), (2, .int x2), (3, .int x3), (4, .int x4), (5, .int x5)]) (dcd d_m_copy_2 18 rfl) (by decide) rfl ?_
    exact ws_loc [1, 4, 5, 6, 0] rfl h
  · have h := h.2 c1
    refine ws_aload_n 0 (dcd d_m_copy_2 5 rfl) rfl ?_
    refine ws_getF (a := 80) f_m_23 rfl (dcd d_m_copy_2 6 rfl) ok_76 of_8_7 rfl ?_
    refine ws_iload 6 (dcd d_m_copy_2 7 rfl) rfl ?_
    refine ws_aload_n 0 (dcd d_m_copy_2 8 rfl) rfl ?_
    refine ws_iload_n 1 (dcd d_m_copy_2 9 rfl) rfl ?_
    refine ws_iload_n 2 (dcd d_m_copy_2 10 rfl) rfl ?_
    refine ws_iload 6 (dcd d_m_copy_2 11 rfl) rfl ?_
    refine ws_iadd (dcd d_m_copy_2 12 rfl) ?_
    obtain ⟨e2, h⟩ := h
    refine ws_callVI (o := 76) (As := [.int x1, .int (x2 + x6)]) (st := [.int x6, .ref 80]) (la := [(0, .ref 76), (1, .int x1), (2, .int (x2 + x6))]) (dcd d_m_copy_2 13 rfl) cv_m_rowAt k_m_100 ⟨by decide, by decide⟩ ok_76 rfl (Nat.le_of_ble_eq_true rfl) (Nat.le_of_ble_eq_true rfl) rfl rfl (sp_m_rowAt e2) ?_
    rintro _ _ ⟨rfl, rfl⟩
    obtain ⟨e3, h⟩ := h
    refine ws_iast (L := 40) (dcd d_m_copy_2 14 rfl) (os_8_7 ok_76) (ol_8_7 ok_76) e3 ?_
    refine ws_iinc (v := 1) (l' := [(6, .int (x6 + 1)), (0, .ref 76), (1, .int x1), (2, .int x2), (3, .int x3), (4, .int x4), (5, .int x5)]) 6 (dcd d_m_copy_2 15 rfl) rfl (by decide) (by decide) rfl ?_
    refine ws_goto (tgt := 104) (dcd d_m_copy_2 16 rfl) (by decide) ?_
    exact ws_loc [1, 2, 3, 4, 5, 6, 0] rfl h
theorem sg_m_copy_136 {x3 : Int32} {x4 : Int32} {x5 : Int32} {x6 : Int32}  (h : ((x5 ≤ x6 → Q (some (.int 1)) u) ∧ (¬ (x5 ≤ x6) → (vp_in x6 40 ∧ (vp_in (40 * x3 + (x4 + x6)) 240 ∧ Ws G m_copy 136 [(0, .ref 76), (3, .int x3), (4, .int x4), (5, .int x5), (6, .int (x6 + 1))] [] (pI u 79 ((40 * x3 + (x4 + x6)) : Int32).toNatClampNeg (mI u 80 (x6 : Int32).toNatClampNeg)) Q))))) : Ws G m_copy 136 [(0, .ref 76), (3, .int x3), (4, .int x4), (5, .int x5), (6, .int x6)] [] u Q := by
  refine ws_iload 4 (dcd d_m_copy_2 19 rfl) rfl ?_
  refine ws_iload 3 (dcd d_m_copy_2 20 rfl) rfl ?_
  refine ws_icmp_ge (tgt := 166) (dcd d_m_copy_2 21 rfl) (by decide) (fun c1 => ?_) (fun c1 => ?_)
  · have h := h.1 c1
    refine ws_iconst (v := 1) (dcd d_m_copy_3 4 rfl) (by decide) ?_
    exact ws_iret (dcd d_m_copy_3 5 rfl) ⟨_, rfl, rfl⟩ h
  · have h := h.2 c1
    refine ws_aload_n 0 (dcd d_m_copy_2 22 rfl) rfl ?_
    refine ws_iload_n 1 (dcd d_m_copy_2 23 rfl) rfl ?_
    refine ws_iload 2 (dcd d_m_copy_2 24 rfl) rfl ?_
    refine ws_iload 4 (dcd d_m_copy_2 25 rfl) rfl ?_
    refine ws_iadd (dcd d_m_copy_2 26 rfl) ?_
    refine ws_aload_n 0 (dcd d_m_copy_2 27 rfl) rfl ?_
    refine ws_getF (a := 80) f_m_23 rfl (dcd d_m_copy_2 28 rfl) ok_76 of_8_7 rfl ?_
    refine ws_iload 4 (dcd d_m_copy_2 29 rfl) rfl ?_
    obtain ⟨e2, h⟩ := h
    refine ws_iald (L := 40) (dcd d_m_copy_3 0 rfl) (os_8_7 ok_76) (ol_8_7 ok_76) e2 ?_
    obtain ⟨e3, h⟩ := h
    refine ws_callVV (o := 76) (As := [.int x3, .int (x4 + x6), .int (mI u 80 (x6 : Int32).toNatClampNeg)]) (st := []) (la := [(0, .ref 76), (1, .int x3), (2, .int (x4 + x6)), (3, .int (mI u 80 (x6 : Int32).toNatClampNeg))]) (dcd d_m_copy_3 1 rfl) cv_m_setRow k_m_93 ⟨by decide, by decide⟩ ok_76 rfl (Nat.le_of_ble_eq_true rfl) (Nat.le_of_ble_eq_true rfl) rfl rfl (sp_m_setRow e3) ?_
    rintro _ rfl
    refine ws_iinc (v := 1) (l' := [(6, .int (x6 + 1)), (0, .ref 76), (3, .int x3), (4, .int x4), (5, .int x5)]) 4 (dcd d_m_copy_3 2 rfl) rfl (by decide) (by decide) rfl ?_
    refine ws_goto (tgt := 136) (dcd d_m_copy_3 3 rfl) (by decide) ?_
    exact ws_loc [1, 2, 3, 4, 0] rfl h
theorem sg_m_mean_0 {x1 : Int32}  (h : Ws G m_askedRow 0 [(0, .ref 76), (1, .int x1)] [] u (RI fun a1 u1 => ((0 ≤ a1 → Ws G m_mean 17 [(0, .ref 76), (1, .int x1), (3, .long 0), (5, .int 0)] [] u1 Q) ∧ (¬ (0 ≤ a1) → Q (some (.int a1)) u1)))) : Ws G m_mean 0 [(0, .ref 76), (1, .int x1)] [] u Q := by
  refine ws_aload_n 0 (dcd d_m_mean_0 0 rfl) rfl ?_
  refine ws_iload_n 1 (dcd d_m_mean_0 1 rfl) rfl ?_
  refine ws_callVI (o := 76) (As := [.int x1]) (st := []) (la := [(0, .ref 76), (1, .int x1)]) (dcd d_m_mean_0 2 rfl) cv_m_askedRow k_m_97 ⟨by decide, by decide⟩ ok_76 rfl (Nat.le_of_ble_eq_true rfl) (Nat.le_of_ble_eq_true rfl) rfl rfl h (fun a1 u1 h => ?_)
  refine ws_istore_n (l' := [(2, .int a1), (0, .ref 76), (1, .int x1)]) (dcd d_m_mean_0 3 rfl) (by decide) rfl ?_
  refine ws_iload_n 0 (dcd d_m_mean_0 4 rfl) rfl ?_
  refine ws_if_ge (tgt := 12) (dcd d_m_mean_0 5 rfl) (by decide) (fun c2 => ?_) (fun c2 => ?_)
  · have h := h.1 c2
    refine ws_lconst (v := 0) (dcd d_m_mean_0 8 rfl) (by decide) ?_
    refine ws_lstore_n (l' := [(3, .long 0), (2, .int a1), (0, .ref 76), (1, .int x1)]) (dcd d_m_mean_0 9 rfl) (by decide) rfl ?_
    refine ws_iconst (v := 0) (dcd d_m_mean_0 10 rfl) (by decide) ?_
    refine ws_istore (l' := [(5, .int 0), (3, .long 0), (2, .int a1), (0, .ref 76), (1, .int x1)]) (dcd d_m_mean_0 11 rfl) (by decide) rfl ?_
    exact ws_loc [3, 4, 1, 0] rfl h
  · have h := h.2 c2
    refine ws_iload_n 0 (dcd d_m_mean_0 6 rfl) rfl ?_
    exact ws_iret (dcd d_m_mean_0 7 rfl) ⟨_, rfl, rfl⟩ h
theorem sg_m_mean_17 {x1 : Int32} {x3 : Int64} {x5 : Int32}  (h : (vp_in x1 6 ∧ (((mI u 78 (x1 : Int32).toNatClampNeg) ≤ x5 → (vp_in x1 6 ∧ ((¬ (mI u 78 (x1 : Int32).toNatClampNeg) = 0 → (vp_in x1 6 ∧ (¬ ((mI u 78 (x1 : Int32).toNatClampNeg) : Int32).toInt64 = 0 ∧ Q (some (.int 1)) (pI u 76 2 ((x3 / ((mI u 78 (x1 : Int32).toNatClampNeg) : Int32).toInt64) : Int64).toInt32)))) ∧ ((mI u 78 (x1 : Int32).toNatClampNeg) = 0 → Q (some (.int (-3))) (mt u 4))))) ∧ (¬ ((mI u 78 (x1 : Int32).toNatClampNeg) ≤ x5) → (vp_in (40 * x1 + x5) 240 ∧ Ws G m_mean 17 [(0, .ref 76), (1, .int x1), (3, .long (x3 + ((mI u 79 ((40 * x1 + x5) : Int32).toNatClampNeg) : Int32).toInt64)), (5, .int (x5 + 1))] [] u Q))))) : Ws G m_mean 17 [(0, .ref 76), (1, .int x1), (3, .long x3), (5, .int x5)] [] u Q := by
  refine ws_iload 3 (dcd d_m_mean_0 12 rfl) rfl ?_
  refine ws_aload_n 0 (dcd d_m_mean_0 13 rfl) rfl ?_
  refine ws_getF (a := 78) f_m_17 rfl (dcd d_m_mean_0 14 rfl) ok_76 of_8_5 rfl ?_
  refine ws_iload_n 1 (dcd d_m_mean_0 15 rfl) rfl ?_
  obtain ⟨e1, h⟩ := h
  refine ws_iald (L := 6) (dcd d_m_mean_0 16 rfl) (os_8_5 ok_76) (ol_8_5 ok_76) e1 ?_
  refine ws_icmp_ge (tgt := 45) (dcd d_m_mean_0 17 rfl) (by decide) (fun c2 => ?_) (fun c2 => ?_)
  · have h := h.1 c2
    refine ws_aload_n 0 (dcd d_m_mean_0 28 rfl) rfl ?_
    refine ws_getF (a := 78) f_m_17 rfl (dcd d_m_mean_0 29 rfl) ok_76 of_8_5 rfl ?_
    refine ws_iload_n 1 (dcd d_m_mean_1 0 rfl) rfl ?_
    obtain ⟨e3, h⟩ := h
    refine ws_iald (L := 6) (dcd d_m_mean_1 1 rfl) (os_8_5 ok_76) (ol_8_5 ok_76) e3 ?_
    refine ws_if_ne (tgt := 62) (dcd d_m_mean_1 2 rfl) (by decide) (fun c4 => ?_) (fun c4 => ?_)
    · have h := h.1 c4
      refine ws_aload_n 0 (dcd d_m_mean_1 7 rfl) rfl ?_
      refine ws_lload_n 2 (dcd d_m_mean_1 8 rfl) rfl ?_
      refine ws_aload_n 0 (dcd d_m_mean_1 9 rfl) rfl ?_
      refine ws_getF (a := 78) f_m_17 rfl (dcd d_m_mean_1 10 rfl) ok_76 of_8_5 rfl ?_
      refine ws_iload_n 1 (dcd d_m_mean_1 11 rfl) rfl ?_
      obtain ⟨e5, h⟩ := h
      refine ws_iald (L := 6) (dcd d_m_mean_1 12 rfl) (os_8_5 ok_76) (ol_8_5 ok_76) e5 ?_
      refine ws_i2l (dcd d_m_mean_1 13 rfl) ?_
      obtain ⟨e6, h⟩ := h
      refine ws_ldiv (dcd d_m_mean_1 14 rfl) e6 ?_
      refine ws_l2i (dcd d_m_mean_1 15 rfl) ?_
      refine ws_iconst (v := 1) (dcd d_m_mean_1 16 rfl) (by decide) ?_
      refine ws_callVI (o := 76) (As := [.int ((x3 / ((mI u 78 (x1 : Int32).toNatClampNeg) : Int32).toInt64) : Int64).toInt32, .int 1]) (st := []) (la := [(0, .ref 76), (1, .int ((x3 / ((mI u 78 (x1 : Int32).toNatClampNeg) : Int32).toInt64) : Int64).toInt32), (2, .int 1)]) (dcd d_m_mean_1 17 rfl) cv_m_ask k_m_104 ⟨by decide, by decide⟩ ok_76 rfl (Nat.le_of_ble_eq_true rfl) (Nat.le_of_ble_eq_true rfl) rfl rfl sp_m_ask ?_
      rintro _ _ ⟨rfl, rfl⟩
      exact ws_iret (dcd d_m_mean_1 18 rfl) ⟨_, rfl, rfl⟩ h
    · have h := h.2 c4
      refine ws_aload_n 0 (dcd d_m_mean_1 3 rfl) rfl ?_
      refine ws_iconst (v := 4) (dcd d_m_mean_1 4 rfl) (by decide) ?_
      refine ws_callVI (o := 76) (As := [.int 4]) (st := []) (la := [(0, .ref 76), (1, .int 4)]) (dcd d_m_mean_1 5 rfl) cv_m_meet k_m_86 ⟨by decide, by decide⟩ ok_76 rfl (Nat.le_of_ble_eq_true rfl) (Nat.le_of_ble_eq_true rfl) rfl rfl (sp_m_meet (vin (by decide) (by decide) (by decide))) ?_
      rintro _ _ ⟨rfl, rfl⟩
      refine ws_goto (tgt := 77) (dcd d_m_mean_1 6 rfl) (by decide) ?_
      exact ws_iret (dcd d_m_mean_1 18 rfl) ⟨_, rfl, rfl⟩ h
  · have h := h.2 c2
    refine ws_lload_n 2 (dcd d_m_mean_0 18 rfl) rfl ?_
    refine ws_aload_n 0 (dcd d_m_mean_0 19 rfl) rfl ?_
    refine ws_iload_n 1 (dcd d_m_mean_0 20 rfl) rfl ?_
    refine ws_iload 3 (dcd d_m_mean_0 21 rfl) rfl ?_
    obtain ⟨e7, h⟩ := h
    refine ws_callVI (o := 76) (As := [.int x1, .int x5]) (st := [.long x3]) (la := [(0, .ref 76), (1, .int x1), (2, .int x5)]) (dcd d_m_mean_0 22 rfl) cv_m_rowAt k_m_100 ⟨by decide, by decide⟩ ok_76 rfl (Nat.le_of_ble_eq_true rfl) (Nat.le_of_ble_eq_true rfl) rfl rfl (sp_m_rowAt e7) ?_
    rintro _ _ ⟨rfl, rfl⟩
    refine ws_i2l (dcd d_m_mean_0 23 rfl) ?_
    refine ws_ladd (dcd d_m_mean_0 24 rfl) ?_
    refine ws_lstore_n (l' := [(3, .long (x3 + ((mI u 79 ((40 * x1 + x5) : Int32).toNatClampNeg) : Int32).toInt64)), (0, .ref 76), (1, .int x1), (5, .int x5)]) (dcd d_m_mean_0 25 rfl) (by decide) rfl ?_
    refine ws_iinc (v := 1) (l' := [(5, .int (x5 + 1)), (3, .long (x3 + ((mI u 79 ((40 * x1 + x5) : Int32).toNatClampNeg) : Int32).toInt64)), (0, .ref 76), (1, .int x1)]) 3 (dcd d_m_mean_0 26 rfl) rfl (by decide) (by decide) rfl ?_
    refine ws_goto (tgt := 17) (dcd d_m_mean_0 27 rfl) (by decide) ?_
    exact ws_loc [2, 3, 1, 0] rfl h
theorem sg_m_text_0 {x1 : Int32} {x2 : Int32}  (h : (((0 ≤ x1 ∧ x1 ≤ 3) → ((x2 ≤ 100 → ((0 ≤ x2 → (vp_in x1 4 ∧ Ws G m_text 34 [(0, .ref 76), (1, .int x1), (2, .int x2), (3, .int 0)] [] (pI u 81 (x1 : Int32).toNatClampNeg x2) Q)) ∧ (¬ (0 ≤ x2) → Q (some (.int (-3))) (mt u 5)))) ∧ (¬ (x2 ≤ 100) → Q (some (.int (-1))) u))) ∧ (¬ (0 ≤ x1 ∧ x1 ≤ 3) → Q (some (.int (-1))) u))) : Ws G m_text 0 [(0, .ref 76), (1, .int x1), (2, .int x2)] [] u Q := by
  refine ws_iload_n 1 (dcd d_m_text_0 0 rfl) rfl ?_
  refine ws_callSI (As := [.int x1]) (st := []) (la := [(0, .int x1)]) (dcd d_m_text_0 1 rfl) cs_m_isText k_m_90 ⟨by decide, by decide⟩ rfl (Nat.le_of_ble_eq_true rfl) (Nat.le_of_ble_eq_true rfl) rfl rfl sp_m_isText ?_
  rintro _ _ ⟨rfl, ⟨rfl, c1⟩ | ⟨rfl, c1⟩⟩
  · have h := h.1 c1
    refine ws_if_eq (tgt := 13) (dcd d_m_text_0 2 rfl) (by decide) (fun c => absurd c (by decide)) (fun _ => ?_)
    refine ws_iload_n 2 (dcd d_m_text_0 3 rfl) rfl ?_
    refine ws_bipush (v := 100) (dcd d_m_text_0 4 rfl) (by decide) ?_
    refine ws_icmp_le (tgt := 15) (dcd d_m_text_0 5 rfl) (by decide) (fun c3 => ?_) (fun c3 => ?_)
    · have h := h.1 c3
      refine ws_iload_n 2 (dcd d_m_text_0 8 rfl) rfl ?_
      refine ws_if_ge (tgt := 25) (dcd d_m_text_0 9 rfl) (by decide) (fun c4 => ?_) (fun c4 => ?_)
      · have h := h.1 c4
        refine ws_aload_n 0 (dcd d_m_text_0 14 rfl) rfl ?_
        refine ws_getF (a := 81) f_m_26 rfl (dcd d_m_text_0 15 rfl) ok_76 of_8_8 rfl ?_
        refine ws_iload_n 1 (dcd d_m_text_0 16 rfl) rfl ?_
        refine ws_iload_n 2 (dcd d_m_text_0 17 rfl) rfl ?_
        obtain ⟨e5, h⟩ := h
        refine ws_iast (L := 4) (dcd d_m_text_0 18 rfl) (os_8_8 ok_76) (ol_8_8 ok_76) e5 ?_
        refine ws_iconst (v := 0) (dcd d_m_text_0 19 rfl) (by decide) ?_
        refine ws_istore_n (l' := [(3, .int 0), (0, .ref 76), (1, .int x1), (2, .int x2)]) (dcd d_m_text_0 20 rfl) (by decide) rfl ?_
        exact ws_loc [1, 2, 3, 0] rfl h
      · have h := h.2 c4
        refine ws_aload_n 0 (dcd d_m_text_0 10 rfl) rfl ?_
        refine ws_iconst (v := 5) (dcd d_m_text_0 11 rfl) (by decide) ?_
        refine ws_callVI (o := 76) (As := [.int 5]) (st := []) (la := [(0, .ref 76), (1, .int 5)]) (dcd d_m_text_0 12 rfl) cv_m_meet k_m_86 ⟨by decide, by decide⟩ ok_76 rfl (Nat.le_of_ble_eq_true rfl) (Nat.le_of_ble_eq_true rfl) rfl rfl (sp_m_meet (vin (by decide) (by decide) (by decide))) ?_
        rintro _ _ ⟨rfl, rfl⟩
        exact ws_iret (dcd d_m_text_0 13 rfl) ⟨_, rfl, rfl⟩ h
    · have h := h.2 c3
      refine ws_iconst (v := (-1)) (dcd d_m_text_0 6 rfl) (by decide) ?_
      exact ws_iret (dcd d_m_text_0 7 rfl) ⟨_, rfl, rfl⟩ h
  · have h := h.2 c1
    refine ws_if_eq (tgt := 13) (dcd d_m_text_0 2 rfl) (by decide) (fun _ => ?_) (fun c => absurd (show (0 : Int32) = 0 from by decide) c)
    refine ws_iconst (v := (-1)) (dcd d_m_text_0 6 rfl) (by decide) ?_
    exact ws_iret (dcd d_m_text_0 7 rfl) ⟨_, rfl, rfl⟩ h
theorem sg_m_text_34 {x1 : Int32} {x2 : Int32} {x3 : Int32}  (h : ((100 ≤ x3 → Q (some (.int x2)) u) ∧ (¬ (100 ≤ x3) → (vp_in ((100 * x1) + x3) 400 ∧ Ws G m_text 34 [(0, .ref 76), (1, .int x1), (2, .int x2), (3, .int (x3 + 1))] [] (pI u 82 (((100 * x1) + x3) : Int32).toNatClampNeg 32) Q)))) : Ws G m_text 34 [(0, .ref 76), (1, .int x1), (2, .int x2), (3, .int x3)] [] u Q := by
  refine ws_iload_n 3 (dcd d_m_text_0 21 rfl) rfl ?_
  refine ws_bipush (v := 100) (dcd d_m_text_0 22 rfl) (by decide) ?_
  refine ws_icmp_ge (tgt := 59) (dcd d_m_text_0 23 rfl) (by decide) (fun c1 => ?_) (fun c1 => ?_)
  · have h := h.1 c1
    refine ws_iload_n 2 (dcd d_m_text_1 5 rfl) rfl ?_
    exact ws_iret (dcd d_m_text_1 6 rfl) ⟨_, rfl, rfl⟩ h
  · have h := h.2 c1
    refine ws_aload_n 0 (dcd d_m_text_0 24 rfl) rfl ?_
    refine ws_getF (a := 82) f_m_29 rfl (dcd d_m_text_0 25 rfl) ok_76 of_8_9 rfl ?_
    refine ws_bipush (v := 100) (dcd d_m_text_0 26 rfl) (by decide) ?_
    refine ws_iload_n 1 (dcd d_m_text_0 27 rfl) rfl ?_
    refine ws_imul (dcd d_m_text_0 28 rfl) ?_
    refine ws_iload_n 3 (dcd d_m_text_0 29 rfl) rfl ?_
    refine ws_iadd (dcd d_m_text_1 0 rfl) ?_
    refine ws_bipush (v := 32) (dcd d_m_text_1 1 rfl) (by decide) ?_
    obtain ⟨e2, h⟩ := h
    refine ws_iast (L := 400) (dcd d_m_text_1 2 rfl) (os_8_9 ok_76) (ol_8_9 ok_76) e2 ?_
    refine ws_iinc (v := 1) (l' := [(3, .int (x3 + 1)), (0, .ref 76), (1, .int x1), (2, .int x2)]) 3 (dcd d_m_text_1 3 rfl) rfl (by decide) (by decide) rfl ?_
    refine ws_goto (tgt := 34) (dcd d_m_text_1 4 rfl) (by decide) ?_
    exact ws_loc [1, 2, 3, 0] rfl h
theorem sg_m_put_0 {x1 : Int32} {x2 : Int32} {x3 : Int32}  (h : Ws G m_askedText 0 [(0, .ref 76), (1, .int x1)] [] u (RI fun a1 u1 => ((0 ≤ a1 → (vp_in x1 4 ∧ (((0 ≤ x2 ∧ x2 ≤ ((mI u1 81 (x1 : Int32).toNatClampNeg) - 1)) → (vp_in ((100 * x1) + x2) 400 ∧ (vp_in ((100 * x1) + x2) 400 ∧ Q (some (.int ((mI u1 82 (((100 * x1) + x2) : Int32).toNatClampNeg) + 1000))) (pI u1 82 (((100 * x1) + x2) : Int32).toNatClampNeg (x3 : Int32).toInt8.toInt32)))) ∧ (¬ (0 ≤ x2 ∧ x2 ≤ ((mI u1 81 (x1 : Int32).toNatClampNeg) - 1)) → Q (some (.int (-3))) (mt u1 2))))) ∧ (¬ (0 ≤ a1) → Q (some (.int a1)) u1)))) : Ws G m_put 0 [(0, .ref 76), (1, .int x1), (2, .int x2), (3, .int x3)] [] u Q := by
  refine ws_aload_n 0 (dcd d_m_put_0 0 rfl) rfl ?_
  refine ws_iload_n 1 (dcd d_m_put_0 1 rfl) rfl ?_
  refine ws_callVI (o := 76) (As := [.int x1]) (st := []) (la := [(0, .ref 76), (1, .int x1)]) (dcd d_m_put_0 2 rfl) cv_m_askedText k_m_110 ⟨by decide, by decide⟩ ok_76 rfl (Nat.le_of_ble_eq_true rfl) (Nat.le_of_ble_eq_true rfl) rfl rfl h (fun a1 u1 h => ?_)
  refine ws_istore (l' := [(4, .int a1), (0, .ref 76), (1, .int x1), (2, .int x2), (3, .int x3)]) (dcd d_m_put_0 3 rfl) (by decide) rfl ?_
  refine ws_iload 0 (dcd d_m_put_0 4 rfl) rfl ?_
  refine ws_if_ge (tgt := 15) (dcd d_m_put_0 5 rfl) (by decide) (fun c2 => ?_) (fun c2 => ?_)
  · have h := h.1 c2
    refine ws_iload_n 3 (dcd d_m_put_0 8 rfl) rfl ?_
    refine ws_iconst (v := 0) (dcd d_m_put_0 9 rfl) (by decide) ?_
    refine ws_aload_n 1 (dcd d_m_put_0 10 rfl) rfl ?_
    refine ws_getF (a := 81) f_m_26 rfl (dcd d_m_put_0 11 rfl) ok_76 of_8_8 rfl ?_
    refine ws_iload_n 2 (dcd d_m_put_0 12 rfl) rfl ?_
    obtain ⟨e3, h⟩ := h
    refine ws_iald (L := 4) (dcd d_m_put_0 13 rfl) (os_8_8 ok_76) (ol_8_8 ok_76) e3 ?_
    refine ws_iconst (v := 1) (dcd d_m_put_0 14 rfl) (by decide) ?_
    refine ws_isub (dcd d_m_put_0 15 rfl) ?_
    refine ws_callSI (As := [.int x2, .int 0, .int ((mI u1 81 (x1 : Int32).toNatClampNeg) - 1)]) (st := []) (la := [(0, .int x2), (1, .int 0), (2, .int ((mI u1 81 (x1 : Int32).toNatClampNeg) - 1))]) (dcd d_m_put_0 16 rfl) cs_m_in k_m_78 ⟨by decide, by decide⟩ rfl (Nat.le_of_ble_eq_true rfl) (Nat.le_of_ble_eq_true rfl) rfl rfl sp_m_in ?_
    rintro _ _ ⟨rfl, ⟨rfl, c4⟩ | ⟨rfl, c4⟩⟩
    · have h := h.1 c4
      refine ws_if_ne (tgt := 37) (dcd d_m_put_0 17 rfl) (by decide) (fun _ => ?_) (fun c => absurd c (by decide))
      refine ws_aload_n 1 (dcd d_m_put_0 22 rfl) rfl ?_
      refine ws_getF (a := 82) f_m_29 rfl (dcd d_m_put_0 23 rfl) ok_76 of_8_9 rfl ?_
      refine ws_bipush (v := 100) (dcd d_m_put_0 24 rfl) (by decide) ?_
      refine ws_iload_n 2 (dcd d_m_put_0 25 rfl) rfl ?_
      refine ws_imul (dcd d_m_put_0 26 rfl) ?_
      refine ws_iload_n 3 (dcd d_m_put_0 27 rfl) rfl ?_
      refine ws_iadd (dcd d_m_put_0 28 rfl) ?_
      obtain ⟨e6, h⟩ := h
      refine ws_iald (L := 400) (dcd d_m_put_0 29 rfl) (os_8_9 ok_76) (ol_8_9 ok_76) e6 ?_
      refine ws_istore (l' := [(5, .int (mI u1 82 (((100 * x1) + x2) : Int32).toNatClampNeg)), (4, .int a1), (0, .ref 76), (1, .int x1), (2, .int x2), (3, .int x3)]) (dcd d_m_put_1 0 rfl) (by decide) rfl ?_
      refine ws_aload_n 2 (dcd d_m_put_1 1 rfl) rfl ?_
      refine ws_getF (a := 82) f_m_29 rfl (dcd d_m_put_1 2 rfl) ok_76 of_8_9 rfl ?_
      refine ws_bipush (v := 100) (dcd d_m_put_1 3 rfl) (by decide) ?_
      refine ws_iload_n 3 (dcd d_m_put_1 4 rfl) rfl ?_
      refine ws_imul (dcd d_m_put_1 5 rfl) ?_
      refine ws_iload_n 4 (dcd d_m_put_1 6 rfl) rfl ?_
      refine ws_iadd (dcd d_m_put_1 7 rfl) ?_
      refine ws_iload_n 5 (dcd d_m_put_1 8 rfl) rfl ?_
      refine ws_i2b (dcd d_m_put_1 9 rfl) ?_
      obtain ⟨e7, h⟩ := h
      refine ws_iast (L := 400) (dcd d_m_put_1 10 rfl) (os_8_9 ok_76) (ol_8_9 ok_76) e7 ?_
      refine ws_iload 0 (dcd d_m_put_1 11 rfl) rfl ?_
      refine ws_sipush (v := 1000) (dcd d_m_put_1 12 rfl) (by decide) ?_
      refine ws_iadd (dcd d_m_put_1 13 rfl) ?_
      exact ws_iret (dcd d_m_put_1 14 rfl) ⟨_, rfl, rfl⟩ h
    · have h := h.2 c4
      refine ws_if_ne (tgt := 37) (dcd d_m_put_0 17 rfl) (by decide) (fun c => absurd (show (0 : Int32) = 0 from by decide) c) (fun _ => ?_)
      refine ws_aload_n 1 (dcd d_m_put_0 18 rfl) rfl ?_
      refine ws_iconst (v := 2) (dcd d_m_put_0 19 rfl) (by decide) ?_
      refine ws_callVI (o := 76) (As := [.int 2]) (st := []) (la := [(0, .ref 76), (1, .int 2)]) (dcd d_m_put_0 20 rfl) cv_m_meet k_m_86 ⟨by decide, by decide⟩ ok_76 rfl (Nat.le_of_ble_eq_true rfl) (Nat.le_of_ble_eq_true rfl) rfl rfl (sp_m_meet (vin (by decide) (by decide) (by decide))) ?_
      rintro _ _ ⟨rfl, rfl⟩
      exact ws_iret (dcd d_m_put_0 21 rfl) ⟨_, rfl, rfl⟩ h
  · have h := h.2 c2
    refine ws_iload 0 (dcd d_m_put_0 6 rfl) rfl ?_
    exact ws_iret (dcd d_m_put_0 7 rfl) ⟨_, rfl, rfl⟩ h
theorem sg_m_askedText_0 {x1 : Int32}  (h : (((0 ≤ x1 ∧ x1 ≤ 3) → (vp_in x1 4 ∧ ((0 ≤ (mI u 81 (x1 : Int32).toNatClampNeg) → Q (some (.int 0)) u) ∧ (¬ (0 ≤ (mI u 81 (x1 : Int32).toNatClampNeg)) → Q (some (.int (-3))) (mt u 1))))) ∧ (¬ (0 ≤ x1 ∧ x1 ≤ 3) → Q (some (.int (-1))) u))) : Ws G m_askedText 0 [(0, .ref 76), (1, .int x1)] [] u Q := by
  refine ws_iload_n 1 (dcd d_m_askedText_0 0 rfl) rfl ?_
  refine ws_callSI (As := [.int x1]) (st := []) (la := [(0, .int x1)]) (dcd d_m_askedText_0 1 rfl) cs_m_isText k_m_90 ⟨by decide, by decide⟩ rfl (Nat.le_of_ble_eq_true rfl) (Nat.le_of_ble_eq_true rfl) rfl rfl sp_m_isText ?_
  rintro _ _ ⟨rfl, ⟨rfl, c1⟩ | ⟨rfl, c1⟩⟩
  · have h := h.1 c1
    refine ws_if_ne (tgt := 11) (dcd d_m_askedText_0 2 rfl) (by decide) (fun _ => ?_) (fun c => absurd c (by decide))
    refine ws_aload_n 0 (dcd d_m_askedText_0 5 rfl) rfl ?_
    refine ws_getF (a := 81) f_m_26 rfl (dcd d_m_askedText_0 6 rfl) ok_76 of_8_8 rfl ?_
    refine ws_iload_n 1 (dcd d_m_askedText_0 7 rfl) rfl ?_
    obtain ⟨e3, h⟩ := h
    refine ws_iald (L := 4) (dcd d_m_askedText_0 8 rfl) (os_8_8 ok_76) (ol_8_8 ok_76) e3 ?_
    refine ws_if_ge (tgt := 28) (dcd d_m_askedText_0 9 rfl) (by decide) (fun c4 => ?_) (fun c4 => ?_)
    · have h := h.1 c4
      refine ws_iconst (v := 0) (dcd d_m_askedText_0 14 rfl) (by decide) ?_
      exact ws_iret (dcd d_m_askedText_0 15 rfl) ⟨_, rfl, rfl⟩ h
    · have h := h.2 c4
      refine ws_aload_n 0 (dcd d_m_askedText_0 10 rfl) rfl ?_
      refine ws_iconst (v := 1) (dcd d_m_askedText_0 11 rfl) (by decide) ?_
      refine ws_callVI (o := 76) (As := [.int 1]) (st := []) (la := [(0, .ref 76), (1, .int 1)]) (dcd d_m_askedText_0 12 rfl) cv_m_meet k_m_86 ⟨by decide, by decide⟩ ok_76 rfl (Nat.le_of_ble_eq_true rfl) (Nat.le_of_ble_eq_true rfl) rfl rfl (sp_m_meet (vin (by decide) (by decide) (by decide))) ?_
      rintro _ _ ⟨rfl, rfl⟩
      refine ws_goto (tgt := 29) (dcd d_m_askedText_0 13 rfl) (by decide) ?_
      exact ws_iret (dcd d_m_askedText_0 15 rfl) ⟨_, rfl, rfl⟩ h
  · have h := h.2 c1
    refine ws_if_ne (tgt := 11) (dcd d_m_askedText_0 2 rfl) (by decide) (fun c => absurd (show (0 : Int32) = 0 from by decide) c) (fun _ => ?_)
    refine ws_iconst (v := (-1)) (dcd d_m_askedText_0 3 rfl) (by decide) ?_
    refine ws_goto (tgt := 29) (dcd d_m_askedText_0 4 rfl) (by decide) ?_
    exact ws_iret (dcd d_m_askedText_0 15 rfl) ⟨_, rfl, rfl⟩ h
theorem sg_m_fault_0 {x1 : Int32}  (h : Ws G m_askedText 0 [(0, .ref 76), (1, .int x1)] [] u (RI fun a1 u1 => ((0 ≤ a1 → Ws G m_goesOn 0 [(0, .ref 76), (1, .int x1)] [] u1 (RI fun a3 u3 => Q (some (.int a3)) u3)) ∧ (¬ (0 ≤ a1) → Q (some (.int a1)) u1)))) : Ws G m_fault 0 [(0, .ref 76), (1, .int x1)] [] u Q := by
  refine ws_aload_n 0 (dcd d_m_fault_0 0 rfl) rfl ?_
  refine ws_iload_n 1 (dcd d_m_fault_0 1 rfl) rfl ?_
  refine ws_callVI (o := 76) (As := [.int x1]) (st := []) (la := [(0, .ref 76), (1, .int x1)]) (dcd d_m_fault_0 2 rfl) cv_m_askedText k_m_110 ⟨by decide, by decide⟩ ok_76 rfl (Nat.le_of_ble_eq_true rfl) (Nat.le_of_ble_eq_true rfl) rfl rfl h (fun a1 u1 h => ?_)
  refine ws_istore_n (l' := [(2, .int a1), (0, .ref 76), (1, .int x1)]) (dcd d_m_fault_0 3 rfl) (by decide) rfl ?_
  refine ws_iload_n 0 (dcd d_m_fault_0 4 rfl) rfl ?_
  refine ws_if_ge (tgt := 14) (dcd d_m_fault_0 5 rfl) (by decide) (fun c2 => ?_) (fun c2 => ?_)
  · have h := h.1 c2
    refine ws_aload_n 1 (dcd d_m_fault_0 8 rfl) rfl ?_
    refine ws_iload_n 2 (dcd d_m_fault_0 9 rfl) rfl ?_
    refine ws_callVI (o := 76) (As := [.int x1]) (st := []) (la := [(0, .ref 76), (1, .int x1)]) (dcd d_m_fault_0 10 rfl) cv_m_goesOn k_m_150 ⟨by decide, by decide⟩ ok_76 rfl (Nat.le_of_ble_eq_true rfl) (Nat.le_of_ble_eq_true rfl) rfl rfl h (fun a3 u3 h => ?_)
    exact ws_iret (dcd d_m_fault_0 11 rfl) ⟨_, rfl, rfl⟩ h
  · have h := h.2 c2
    refine ws_iload_n 0 (dcd d_m_fault_0 6 rfl) rfl ?_
    refine ws_goto (tgt := 19) (dcd d_m_fault_0 7 rfl) (by decide) ?_
    exact ws_iret (dcd d_m_fault_0 11 rfl) ⟨_, rfl, rfl⟩ h
theorem sg_m_goesOn_0 {x1 : Int32}  (h : Ws G m_goesOn 15 [(0, .ref 76), (1, .int x1)] [] (pI (pI (pI u 76 13 0) 76 15 0) 76 16 0) Q) : Ws G m_goesOn 0 [(0, .ref 76), (1, .int x1)] [] u Q := by
  refine ws_aload_n 0 (dcd d_m_goesOn_0 0 rfl) rfl ?_
  refine ws_iconst (v := 0) (dcd d_m_goesOn_0 1 rfl) (by decide) ?_
  refine ws_putI f_m_113 rfl nf_8_13 (dcd d_m_goesOn_0 2 rfl) ok_76 ?_
  refine ws_aload_n 0 (dcd d_m_goesOn_0 3 rfl) rfl ?_
  refine ws_iconst (v := 0) (dcd d_m_goesOn_0 4 rfl) (by decide) ?_
  refine ws_putI f_m_128 rfl nf_8_15 (dcd d_m_goesOn_0 5 rfl) ok_76 ?_
  refine ws_aload_n 0 (dcd d_m_goesOn_0 6 rfl) rfl ?_
  refine ws_iconst (v := 0) (dcd d_m_goesOn_0 7 rfl) (by decide) ?_
  refine ws_putI f_m_122 rfl nf_8_16 (dcd d_m_goesOn_0 8 rfl) ok_76 ?_
  exact ws_loc [0, 1] rfl h
theorem sg_m_goesOn_15 {x1 : Int32}  (h : (vp_in x1 4 ∧ (((mI u 81 (x1 : Int32).toNatClampNeg) ≤ (mI u 76 13) → ((¬ (mI u 76 15) = 0 → Q (some (.int (-9))) u) ∧ ((mI u 76 15) = 0 → (vp_in x1 4 ∧ Q (some (.int (mI u 81 (x1 : Int32).toNatClampNeg))) u)))) ∧ (¬ ((mI u 81 (x1 : Int32).toNatClampNeg) ≤ (mI u 76 13)) → (vp_in x1 4 ∧ (((mI u 76 13) < (mI u 81 (x1 : Int32).toNatClampNeg) → vp_in (100 * x1 + (mI u 76 13)) 400) ∧ ((¬ (hereV u x1) = 32 → ((¬ (mI u 76 15) = 0 → Ws G m_readsShop 0 [(0, .ref 76), (1, .int x1)] [] u (RI fun a9 u9 => ((¬ a9 = 0 → Ws G m_goesOn 15 [(0, .ref 76), (1, .int x1)] [] u9 Q) ∧ (a9 = 0 → Q (some (.int (mI u9 76 13))) u9)))) ∧ ((mI u 76 15) = 0 → Ws G m_readsDoors 0 [(0, .ref 76), (1, .int x1)] [] u (RI fun a11 u11 => ((¬ a11 = 0 → Ws G m_goesOn 15 [(0, .ref 76), (1, .int x1)] [] u11 Q) ∧ (a11 = 0 → Q (some (.int (mI u11 76 13))) u11)))))) ∧ ((hereV u x1) = 32 → Ws G m_goesOn 15 [(0, .ref 76), (1, .int x1)] [] (pI u 76 13 ((mI u 76 13) + 1)) Q)))))))) : Ws G m_goesOn 15 [(0, .ref 76), (1, .int x1)] [] u Q := by
  refine ws_aload_n 0 (dcd d_m_goesOn_0 9 rfl) rfl ?_
  refine ws_getI f_m_113 rfl (dcd d_m_goesOn_0 10 rfl) ok_76 ?_
  refine ws_aload_n 0 (dcd d_m_goesOn_0 11 rfl) rfl ?_
  refine ws_getF (a := 81) f_m_26 rfl (dcd d_m_goesOn_0 12 rfl) ok_76 of_8_8 rfl ?_
  refine ws_iload_n 1 (dcd d_m_goesOn_0 13 rfl) rfl ?_
  obtain ⟨e1, h⟩ := h
  refine ws_iald (L := 4) (dcd d_m_goesOn_0 14 rfl) (os_8_8 ok_76) (ol_8_8 ok_76) e1 ?_
  refine ws_icmp_ge (tgt := 82) (dcd d_m_goesOn_0 15 rfl) (by decide) (fun c2 => ?_) (fun c2 => ?_)
  · have h := h.1 c2
    refine ws_aload_n 0 (dcd d_m_goesOn_1 13 rfl) rfl ?_
    refine ws_getI f_m_128 rfl (dcd d_m_goesOn_1 14 rfl) ok_76 ?_
    refine ws_if_ne (tgt := 98) (dcd d_m_goesOn_1 15 rfl) (by decide) (fun c3 => ?_) (fun c3 => ?_)
    · have h := h.1 c3
      refine ws_bipush (v := (-9)) (dcd d_m_goesOn_1 21 rfl) (by decide) ?_
      exact ws_iret (dcd d_m_goesOn_1 22 rfl) ⟨_, rfl, rfl⟩ h
    · have h := h.2 c3
      refine ws_aload_n 0 (dcd d_m_goesOn_1 16 rfl) rfl ?_
      refine ws_getF (a := 81) f_m_26 rfl (dcd d_m_goesOn_1 17 rfl) ok_76 of_8_8 rfl ?_
      refine ws_iload_n 1 (dcd d_m_goesOn_1 18 rfl) rfl ?_
      obtain ⟨e4, h⟩ := h
      refine ws_iald (L := 4) (dcd d_m_goesOn_1 19 rfl) (os_8_8 ok_76) (ol_8_8 ok_76) e4 ?_
      refine ws_goto (tgt := 100) (dcd d_m_goesOn_1 20 rfl) (by decide) ?_
      exact ws_iret (dcd d_m_goesOn_1 22 rfl) ⟨_, rfl, rfl⟩ h
  · have h := h.2 c2
    refine ws_aload_n 0 (dcd d_m_goesOn_0 16 rfl) rfl ?_
    refine ws_iload_n 1 (dcd d_m_goesOn_0 17 rfl) rfl ?_
    obtain ⟨e5, h⟩ := h
    obtain ⟨e6, h⟩ := h
    refine ws_callVI (o := 76) (As := [.int x1]) (st := []) (la := [(0, .ref 76), (1, .int x1)]) (dcd d_m_goesOn_0 18 rfl) cv_m_here k_m_116 ⟨by decide, by decide⟩ ok_76 rfl (Nat.le_of_ble_eq_true rfl) (Nat.le_of_ble_eq_true rfl) rfl rfl (sp_m_here e5 e6) ?_
    rintro _ _ ⟨rfl, rfl⟩
    refine ws_bipush (v := 32) (dcd d_m_goesOn_0 19 rfl) (by decide) ?_
    refine ws_icmp_ne (tgt := 51) (dcd d_m_goesOn_0 20 rfl) (by decide) (fun c7 => ?_) (fun c7 => ?_)
    · have h := h.1 c7
      refine ws_aload_n 0 (dcd d_m_goesOn_0 28 rfl) rfl ?_
      refine ws_getI f_m_128 rfl (dcd d_m_goesOn_0 29 rfl) ok_76 ?_
      refine ws_if_ne (tgt := 69) (dcd d_m_goesOn_1 0 rfl) (by decide) (fun c8 => ?_) (fun c8 => ?_)
      · have h := h.1 c8
        refine ws_aload_n 0 (dcd d_m_goesOn_1 6 rfl) rfl ?_
        refine ws_iload_n 1 (dcd d_m_goesOn_1 7 rfl) rfl ?_
        refine ws_callVI (o := 76) (As := [.int x1]) (st := []) (la := [(0, .ref 76), (1, .int x1)]) (dcd d_m_goesOn_1 8 rfl) cv_m_readsShop k_m_147 ⟨by decide, by decide⟩ ok_76 rfl (Nat.le_of_ble_eq_true rfl) (Nat.le_of_ble_eq_true rfl) rfl rfl h (fun a9 u9 h => ?_)
        refine ws_if_ne (tgt := 15) (dcd d_m_goesOn_1 9 rfl) (by decide) (fun c10 => ?_) (fun c10 => ?_)
        · have h := h.1 c10
          exact ws_loc [0, 1] rfl h
        · have h := h.2 c10
          refine ws_aload_n 0 (dcd d_m_goesOn_1 10 rfl) rfl ?_
          refine ws_getI f_m_113 rfl (dcd d_m_goesOn_1 11 rfl) ok_76 ?_
          exact ws_iret (dcd d_m_goesOn_1 12 rfl) ⟨_, rfl, rfl⟩ h
      · have h := h.2 c8
        refine ws_aload_n 0 (dcd d_m_goesOn_1 1 rfl) rfl ?_
        refine ws_iload_n 1 (dcd d_m_goesOn_1 2 rfl) rfl ?_
        refine ws_callVI (o := 76) (As := [.int x1]) (st := []) (la := [(0, .ref 76), (1, .int x1)]) (dcd d_m_goesOn_1 3 rfl) cv_m_readsDoors k_m_144 ⟨by decide, by decide⟩ ok_76 rfl (Nat.le_of_ble_eq_true rfl) (Nat.le_of_ble_eq_true rfl) rfl rfl h (fun a11 u11 h => ?_)
        refine ws_if_ne (tgt := 15) (dcd d_m_goesOn_1 4 rfl) (by decide) (fun c12 => ?_) (fun c12 => ?_)
        · have h := h.1 c12
          exact ws_loc [0, 1] rfl h
        · have h := h.2 c12
          refine ws_goto (tgt := 77) (dcd d_m_goesOn_1 5 rfl) (by decide) ?_
          refine ws_aload_n 0 (dcd d_m_goesOn_1 10 rfl) rfl ?_
          refine ws_getI f_m_113 rfl (dcd d_m_goesOn_1 11 rfl) ok_76 ?_
          exact ws_iret (dcd d_m_goesOn_1 12 rfl) ⟨_, rfl, rfl⟩ h
    · have h := h.2 c7
      refine ws_aload_n 0 (dcd d_m_goesOn_0 21 rfl) rfl ?_
      refine ws_dup (dcd d_m_goesOn_0 22 rfl) rfl ?_
      refine ws_getI f_m_113 rfl (dcd d_m_goesOn_0 23 rfl) ok_76 ?_
      refine ws_iconst (v := 1) (dcd d_m_goesOn_0 24 rfl) (by decide) ?_
      refine ws_iadd (dcd d_m_goesOn_0 25 rfl) ?_
      refine ws_putI f_m_113 rfl nf_8_13 (dcd d_m_goesOn_0 26 rfl) ok_76 ?_
      refine ws_goto (tgt := 15) (dcd d_m_goesOn_0 27 rfl) (by decide) ?_
      exact ws_loc [0, 1] rfl h
theorem sg_m_readsDoors_0 {x1 : Int32}  (h : Ws G m_sees 0 [(0, .ref 76), (1, .int x1), (2, .int 100)] [] u (RI fun a1 u1 => ((a1 = 0 → Q (some (.int 0)) u1) ∧ (¬ a1 = 0 → Ws G m_readsNumber 0 [(0, .ref 76), (1, .int x1), (2, .int 10), (3, .int 30)] [] u1 (RI fun a3 u3 => ((¬ a3 = 0 → Q (some (.int 1)) (pI u3 76 15 (mI u3 76 14))) ∧ (a3 = 0 → Q (some (.int 0)) u3))))))) : Ws G m_readsDoors 0 [(0, .ref 76), (1, .int x1)] [] u Q := by
  refine ws_aload_n 0 (dcd d_m_readsDoors_0 0 rfl) rfl ?_
  refine ws_iload_n 1 (dcd d_m_readsDoors_0 1 rfl) rfl ?_
  refine ws_bipush (v := 100) (dcd d_m_readsDoors_0 2 rfl) (by decide) ?_
  refine ws_callVI (o := 76) (As := [.int x1, .int 100]) (st := []) (la := [(0, .ref 76), (1, .int x1), (2, .int 100)]) (dcd d_m_readsDoors_0 3 rfl) cv_m_sees k_m_137 ⟨by decide, by decide⟩ ok_76 rfl (Nat.le_of_ble_eq_true rfl) (Nat.le_of_ble_eq_true rfl) rfl rfl h (fun a1 u1 h => ?_)
  refine ws_if_eq (tgt := 22) (dcd d_m_readsDoors_0 4 rfl) (by decide) (fun c2 => ?_) (fun c2 => ?_)
  · have h := h.1 c2
    refine ws_iconst (v := 0) (dcd d_m_readsDoors_0 11 rfl) (by decide) ?_
    exact ws_iret (dcd d_m_readsDoors_0 12 rfl) ⟨_, rfl, by decide⟩ h
  · have h := h.2 c2
    refine ws_aload_n 0 (dcd d_m_readsDoors_0 5 rfl) rfl ?_
    refine ws_iload_n 1 (dcd d_m_readsDoors_0 6 rfl) rfl ?_
    refine ws_bipush (v := 10) (dcd d_m_readsDoors_0 7 rfl) (by decide) ?_
    refine ws_bipush (v := 30) (dcd d_m_readsDoors_0 8 rfl) (by decide) ?_
    refine ws_callVI (o := 76) (As := [.int x1, .int 10, .int 30]) (st := []) (la := [(0, .ref 76), (1, .int x1), (2, .int 10), (3, .int 30)]) (dcd d_m_readsDoors_0 9 rfl) cv_m_readsNumber k_m_131 ⟨by decide, by decide⟩ ok_76 rfl (Nat.le_of_ble_eq_true rfl) (Nat.le_of_ble_eq_true rfl) rfl rfl h (fun a3 u3 h => ?_)
    refine ws_if_ne (tgt := 24) (dcd d_m_readsDoors_0 10 rfl) (by decide) (fun c4 => ?_) (fun c4 => ?_)
    · have h := h.1 c4
      refine ws_aload_n 0 (dcd d_m_readsDoors_0 13 rfl) rfl ?_
      refine ws_aload_n 0 (dcd d_m_readsDoors_0 14 rfl) rfl ?_
      refine ws_getI f_m_119 rfl (dcd d_m_readsDoors_0 15 rfl) ok_76 ?_
      refine ws_putI f_m_128 rfl nf_8_15 (dcd d_m_readsDoors_0 16 rfl) ok_76 ?_
      refine ws_iconst (v := 1) (dcd d_m_readsDoors_0 17 rfl) (by decide) ?_
      exact ws_iret (dcd d_m_readsDoors_0 18 rfl) ⟨_, rfl, by decide⟩ h
    · have h := h.2 c4
      refine ws_iconst (v := 0) (dcd d_m_readsDoors_0 11 rfl) (by decide) ?_
      exact ws_iret (dcd d_m_readsDoors_0 12 rfl) ⟨_, rfl, by decide⟩ h
theorem sg_m_sees_0 {x1 : Int32} {x2 : Int32}  (h : (vp_in x1 4 ∧ (((mI u 76 13) < (mI u 81 (x1 : Int32).toNatClampNeg) → vp_in (100 * x1 + (mI u 76 13)) 400) ∧ ((¬ (hereV u x1) = x2 → Q (some (.int 0)) (pI u 76 13 ((mI u 76 13) + 0))) ∧ ((hereV u x1) = x2 → Q (some (.int 1)) (pI u 76 13 ((mI u 76 13) + 1))))))) : Ws G m_sees 0 [(0, .ref 76), (1, .int x1), (2, .int x2)] [] u Q := by
  refine ws_aload_n 0 (dcd d_m_sees_0 0 rfl) rfl ?_
  refine ws_iload_n 1 (dcd d_m_sees_0 1 rfl) rfl ?_
  obtain ⟨e1, h⟩ := h
  obtain ⟨e2, h⟩ := h
  refine ws_callVI (o := 76) (As := [.int x1]) (st := []) (la := [(0, .ref 76), (1, .int x1)]) (dcd d_m_sees_0 2 rfl) cv_m_here k_m_116 ⟨by decide, by decide⟩ ok_76 rfl (Nat.le_of_ble_eq_true rfl) (Nat.le_of_ble_eq_true rfl) rfl rfl (sp_m_here e1 e2) ?_
  rintro _ _ ⟨rfl, rfl⟩
  refine ws_iload_n 2 (dcd d_m_sees_0 3 rfl) rfl ?_
  refine ws_icmp_ne (tgt := 13) (dcd d_m_sees_0 4 rfl) (by decide) (fun c3 => ?_) (fun c3 => ?_)
  · have h := h.1 c3
    refine ws_iconst (v := 0) (dcd d_m_sees_0 7 rfl) (by decide) ?_
    refine ws_istore_n (l' := [(3, .int 0), (0, .ref 76), (1, .int x1), (2, .int x2)]) (dcd d_m_sees_0 8 rfl) (by decide) rfl ?_
    refine ws_aload_n 1 (dcd d_m_sees_0 9 rfl) rfl ?_
    refine ws_dup (dcd d_m_sees_0 10 rfl) rfl ?_
    refine ws_getI f_m_113 rfl (dcd d_m_sees_0 11 rfl) ok_76 ?_
    refine ws_iload_n 0 (dcd d_m_sees_0 12 rfl) rfl ?_
    refine ws_if_eq (tgt := 28) (dcd d_m_sees_0 13 rfl) (by decide) (fun _ => ?_) (fun c => absurd (show (0 : Int32) = 0 from by decide) c)
    refine ws_iconst (v := 0) (dcd d_m_sees_0 16 rfl) (by decide) ?_
    refine ws_iadd (dcd d_m_sees_0 17 rfl) ?_
    refine ws_putI f_m_113 rfl nf_8_13 (dcd d_m_sees_0 18 rfl) ok_76 ?_
    refine ws_iload_n 0 (dcd d_m_sees_0 19 rfl) rfl ?_
    exact ws_iret (dcd d_m_sees_0 20 rfl) ⟨_, rfl, by decide⟩ h
  · have h := h.2 c3
    refine ws_iconst (v := 1) (dcd d_m_sees_0 5 rfl) (by decide) ?_
    refine ws_goto (tgt := 14) (dcd d_m_sees_0 6 rfl) (by decide) ?_
    refine ws_istore_n (l' := [(3, .int 1), (0, .ref 76), (1, .int x1), (2, .int x2)]) (dcd d_m_sees_0 8 rfl) (by decide) rfl ?_
    refine ws_aload_n 1 (dcd d_m_sees_0 9 rfl) rfl ?_
    refine ws_dup (dcd d_m_sees_0 10 rfl) rfl ?_
    refine ws_getI f_m_113 rfl (dcd d_m_sees_0 11 rfl) ok_76 ?_
    refine ws_iload_n 0 (dcd d_m_sees_0 12 rfl) rfl ?_
    refine ws_if_eq (tgt := 28) (dcd d_m_sees_0 13 rfl) (by decide) (fun c => absurd c (by decide)) (fun _ => ?_)
    refine ws_iconst (v := 1) (dcd d_m_sees_0 14 rfl) (by decide) ?_
    refine ws_goto (tgt := 29) (dcd d_m_sees_0 15 rfl) (by decide) ?_
    refine ws_iadd (dcd d_m_sees_0 17 rfl) ?_
    refine ws_putI f_m_113 rfl nf_8_13 (dcd d_m_sees_0 18 rfl) ok_76 ?_
    refine ws_iload_n 0 (dcd d_m_sees_0 19 rfl) rfl ?_
    exact ws_iret (dcd d_m_sees_0 20 rfl) ⟨_, rfl, by decide⟩ h
theorem sg_m_readsNumber_0 {x1 : Int32} {x2 : Int32} {x3 : Int32}  (h : Ws G m_readsNumber 11 [(0, .ref 76), (1, .int x1), (2, .int x2), (3, .int x3), (4, .int (mI u 76 13))] [] (pI u 76 14 0) Q) : Ws G m_readsNumber 0 [(0, .ref 76), (1, .int x1), (2, .int x2), (3, .int x3)] [] u Q := by
  refine ws_aload_n 0 (dcd d_m_readsNumber_0 0 rfl) rfl ?_
  refine ws_getI f_m_113 rfl (dcd d_m_readsNumber_0 1 rfl) ok_76 ?_
  refine ws_istore (l' := [(4, .int (mI u 76 13)), (0, .ref 76), (1, .int x1), (2, .int x2), (3, .int x3)]) (dcd d_m_readsNumber_0 2 rfl) (by decide) rfl ?_
  refine ws_aload_n 1 (dcd d_m_readsNumber_0 3 rfl) rfl ?_
  refine ws_iconst (v := 0) (dcd d_m_readsNumber_0 4 rfl) (by decide) ?_
  refine ws_putI f_m_119 rfl nf_8_14 (dcd d_m_readsNumber_0 5 rfl) ok_76 ?_
  exact ws_loc [1, 2, 3, 4, 0] rfl h
theorem sg_m_readsNumber_11 {x1 : Int32} {x2 : Int32} {x3 : Int32} {x4 : Int32}  (h : ((2 ≤ ((mI u 76 13) - x4) → (((mI u 76 13) ≤ x4 → Q (some (.int 0)) u) ∧ (¬ ((mI u 76 13) ≤ x4) → (((x2 ≤ (mI u 76 14) ∧ (mI u 76 14) ≤ x3) → Q (some (.int 1)) u) ∧ (¬ (x2 ≤ (mI u 76 14) ∧ (mI u 76 14) ≤ x3) → Q (some (.int 0)) u))))) ∧ (¬ (2 ≤ ((mI u 76 13) - x4)) → (vp_in x1 4 ∧ (((mI u 76 13) < (mI u 81 (x1 : Int32).toNatClampNeg) → vp_in (100 * x1 + (mI u 76 13)) 400) ∧ (((48 ≤ (hereV u x1) ∧ (hereV u x1) ≤ 57) → (vp_in x1 4 ∧ (((mI u 76 13) < (mI u 81 (x1 : Int32).toNatClampNeg) → vp_in (100 * x1 + (mI u 76 13)) 400) ∧ Ws G m_readsNumber 11 [(0, .ref 76), (1, .int x1), (2, .int x2), (3, .int x3), (4, .int x4)] [] (pI (pI u 76 14 (((10 * (mI u 76 14)) + (hereV u x1)) - 48)) 76 13 ((mI (pI u 76 14 (((10 * (mI u 76 14)) + (hereV u x1)) - 48)) 76 13) + 1)) Q))) ∧ (¬ (48 ≤ (hereV u x1) ∧ (hereV u x1) ≤ 57) → (((mI u 76 13) ≤ x4 → Q (some (.int 0)) u) ∧ (¬ ((mI u 76 13) ≤ x4) → (((x2 ≤ (mI u 76 14) ∧ (mI u 76 14) ≤ x3) → Q (some (.int 1)) u) ∧ (¬ (x2 ≤ (mI u 76 14) ∧ (mI u 76 14) ≤ x3) → Q (some (.int 0)) u))))))))))) : Ws G m_readsNumber 11 [(0, .ref 76), (1, .int x1), (2, .int x2), (3, .int x3), (4, .int x4)] [] u Q := by
  refine ws_aload_n 0 (dcd d_m_readsNumber_0 6 rfl) rfl ?_
  refine ws_getI f_m_113 rfl (dcd d_m_readsNumber_0 7 rfl) ok_76 ?_
  refine ws_iload 4 (dcd d_m_readsNumber_0 8 rfl) rfl ?_
  refine ws_isub (dcd d_m_readsNumber_0 9 rfl) ?_
  refine ws_iconst (v := 2) (dcd d_m_readsNumber_0 10 rfl) (by decide) ?_
  refine ws_icmp_ge (tgt := 70) (dcd d_m_readsNumber_0 11 rfl) (by decide) (fun c1 => ?_) (fun c1 => ?_)
  · have h := h.1 c1
    refine ws_aload_n 0 (dcd d_m_readsNumber_1 8 rfl) rfl ?_
    refine ws_getI f_m_113 rfl (dcd d_m_readsNumber_1 9 rfl) ok_76 ?_
    refine ws_iload 4 (dcd d_m_readsNumber_1 10 rfl) rfl ?_
    refine ws_icmp_le (tgt := 95) (dcd d_m_readsNumber_1 11 rfl) (by decide) (fun c2 => ?_) (fun c2 => ?_)
    · have h := h.1 c2
      refine ws_iconst (v := 0) (dcd d_m_readsNumber_1 20 rfl) (by decide) ?_
      exact ws_iret (dcd d_m_readsNumber_1 21 rfl) ⟨_, rfl, by decide⟩ h
    · have h := h.2 c2
      refine ws_aload_n 0 (dcd d_m_readsNumber_1 12 rfl) rfl ?_
      refine ws_getI f_m_119 rfl (dcd d_m_readsNumber_1 13 rfl) ok_76 ?_
      refine ws_iload_n 2 (dcd d_m_readsNumber_1 14 rfl) rfl ?_
      refine ws_iload_n 3 (dcd d_m_readsNumber_1 15 rfl) rfl ?_
      refine ws_callSI (As := [.int (mI u 76 14), .int x2, .int x3]) (st := []) (la := [(0, .int (mI u 76 14)), (1, .int x2), (2, .int x3)]) (dcd d_m_readsNumber_1 16 rfl) cs_m_in k_m_78 ⟨by decide, by decide⟩ rfl (Nat.le_of_ble_eq_true rfl) (Nat.le_of_ble_eq_true rfl) rfl rfl sp_m_in ?_
      rintro _ _ ⟨rfl, ⟨rfl, c3⟩ | ⟨rfl, c3⟩⟩
      · have h := h.1 c3
        refine ws_if_eq (tgt := 95) (dcd d_m_readsNumber_1 17 rfl) (by decide) (fun c => absurd c (by decide)) (fun _ => ?_)
        refine ws_iconst (v := 1) (dcd d_m_readsNumber_1 18 rfl) (by decide) ?_
        refine ws_goto (tgt := 96) (dcd d_m_readsNumber_1 19 rfl) (by decide) ?_
        exact ws_iret (dcd d_m_readsNumber_1 21 rfl) ⟨_, rfl, by decide⟩ h
      · have h := h.2 c3
        refine ws_if_eq (tgt := 95) (dcd d_m_readsNumber_1 17 rfl) (by decide) (fun _ => ?_) (fun c => absurd (show (0 : Int32) = 0 from by decide) c)
        refine ws_iconst (v := 0) (dcd d_m_readsNumber_1 20 rfl) (by decide) ?_
        exact ws_iret (dcd d_m_readsNumber_1 21 rfl) ⟨_, rfl, by decide⟩ h
  · have h := h.2 c1
    refine ws_aload_n 0 (dcd d_m_readsNumber_0 12 rfl) rfl ?_
    refine ws_iload_n 1 (dcd d_m_readsNumber_0 13 rfl) rfl ?_
    obtain ⟨e6, h⟩ := h
    obtain ⟨e7, h⟩ := h
    refine ws_callVI (o := 76) (As := [.int x1]) (st := []) (la := [(0, .ref 76), (1, .int x1)]) (dcd d_m_readsNumber_0 14 rfl) cv_m_here k_m_116 ⟨by decide, by decide⟩ ok_76 rfl (Nat.le_of_ble_eq_true rfl) (Nat.le_of_ble_eq_true rfl) rfl rfl (sp_m_here e6 e7) ?_
    rintro _ _ ⟨rfl, rfl⟩
    refine ws_bipush (v := 48) (dcd d_m_readsNumber_0 15 rfl) (by decide) ?_
    refine ws_bipush (v := 57) (dcd d_m_readsNumber_0 16 rfl) (by decide) ?_
    refine ws_callSI (As := [.int (hereV u x1), .int 48, .int 57]) (st := []) (la := [(0, .int (hereV u x1)), (1, .int 48), (2, .int 57)]) (dcd d_m_readsNumber_0 17 rfl) cs_m_in k_m_78 ⟨by decide, by decide⟩ rfl (Nat.le_of_ble_eq_true rfl) (Nat.le_of_ble_eq_true rfl) rfl rfl sp_m_in ?_
    rintro _ _ ⟨rfl, ⟨rfl, c8⟩ | ⟨rfl, c8⟩⟩
    · have h := h.1 c8
      refine ws_if_eq (tgt := 70) (dcd d_m_readsNumber_0 18 rfl) (by decide) (fun c => absurd c (by decide)) (fun _ => ?_)
      refine ws_aload_n 0 (dcd d_m_readsNumber_0 19 rfl) rfl ?_
      refine ws_bipush (v := 10) (dcd d_m_readsNumber_0 20 rfl) (by decide) ?_
      refine ws_aload_n 0 (dcd d_m_readsNumber_0 21 rfl) rfl ?_
      refine ws_getI f_m_119 rfl (dcd d_m_readsNumber_0 22 rfl) ok_76 ?_
      refine ws_imul (dcd d_m_readsNumber_0 23 rfl) ?_
      refine ws_aload_n 0 (dcd d_m_readsNumber_0 24 rfl) rfl ?_
      refine ws_iload_n 1 (dcd d_m_readsNumber_0 25 rfl) rfl ?_
      obtain ⟨e10, h⟩ := h
      obtain ⟨e11, h⟩ := h
      refine ws_callVI (o := 76) (As := [.int x1]) (st := [.int (10 * (mI u 76 14)), .ref 76]) (la := [(0, .ref 76), (1, .int x1)]) (dcd d_m_readsNumber_0 26 rfl) cv_m_here k_m_116 ⟨by decide, by decide⟩ ok_76 rfl (Nat.le_of_ble_eq_true rfl) (Nat.le_of_ble_eq_true rfl) rfl rfl (sp_m_here e10 e11) ?_
      rintro _ _ ⟨rfl, rfl⟩
      refine ws_iadd (dcd d_m_readsNumber_0 27 rfl) ?_
      refine ws_bipush (v := 48) (dcd d_m_readsNumber_0 28 rfl) (by decide) ?_
      refine ws_isub (dcd d_m_readsNumber_0 29 rfl) ?_
      refine ws_putI f_m_119 rfl nf_8_14 (dcd d_m_readsNumber_1 0 rfl) ok_76 ?_
      refine ws_aload_n 0 (dcd d_m_readsNumber_1 1 rfl) rfl ?_
      refine ws_dup (dcd d_m_readsNumber_1 2 rfl) rfl ?_
      refine ws_getI f_m_113 rfl (dcd d_m_readsNumber_1 3 rfl) ok_76 ?_
      refine ws_iconst (v := 1) (dcd d_m_readsNumber_1 4 rfl) (by decide) ?_
      refine ws_iadd (dcd d_m_readsNumber_1 5 rfl) ?_
      refine ws_putI f_m_113 rfl nf_8_13 (dcd d_m_readsNumber_1 6 rfl) ok_76 ?_
      refine ws_goto (tgt := 11) (dcd d_m_readsNumber_1 7 rfl) (by decide) ?_
      exact ws_loc [0, 1, 2, 3, 4] rfl h
    · have h := h.2 c8
      refine ws_if_eq (tgt := 70) (dcd d_m_readsNumber_0 18 rfl) (by decide) (fun _ => ?_) (fun c => absurd (show (0 : Int32) = 0 from by decide) c)
      refine ws_aload_n 0 (dcd d_m_readsNumber_1 8 rfl) rfl ?_
      refine ws_getI f_m_113 rfl (dcd d_m_readsNumber_1 9 rfl) ok_76 ?_
      refine ws_iload 4 (dcd d_m_readsNumber_1 10 rfl) rfl ?_
      refine ws_icmp_le (tgt := 95) (dcd d_m_readsNumber_1 11 rfl) (by decide) (fun c13 => ?_) (fun c13 => ?_)
      · have h := h.1 c13
        refine ws_iconst (v := 0) (dcd d_m_readsNumber_1 20 rfl) (by decide) ?_
        exact ws_iret (dcd d_m_readsNumber_1 21 rfl) ⟨_, rfl, by decide⟩ h
      · have h := h.2 c13
        refine ws_aload_n 0 (dcd d_m_readsNumber_1 12 rfl) rfl ?_
        refine ws_getI f_m_119 rfl (dcd d_m_readsNumber_1 13 rfl) ok_76 ?_
        refine ws_iload_n 2 (dcd d_m_readsNumber_1 14 rfl) rfl ?_
        refine ws_iload_n 3 (dcd d_m_readsNumber_1 15 rfl) rfl ?_
        refine ws_callSI (As := [.int (mI u 76 14), .int x2, .int x3]) (st := []) (la := [(0, .int (mI u 76 14)), (1, .int x2), (2, .int x3)]) (dcd d_m_readsNumber_1 16 rfl) cs_m_in k_m_78 ⟨by decide, by decide⟩ rfl (Nat.le_of_ble_eq_true rfl) (Nat.le_of_ble_eq_true rfl) rfl rfl sp_m_in ?_
        rintro _ _ ⟨rfl, ⟨rfl, c14⟩ | ⟨rfl, c14⟩⟩
        · have h := h.1 c14
          refine ws_if_eq (tgt := 95) (dcd d_m_readsNumber_1 17 rfl) (by decide) (fun c => absurd c (by decide)) (fun _ => ?_)
          refine ws_iconst (v := 1) (dcd d_m_readsNumber_1 18 rfl) (by decide) ?_
          refine ws_goto (tgt := 96) (dcd d_m_readsNumber_1 19 rfl) (by decide) ?_
          exact ws_iret (dcd d_m_readsNumber_1 21 rfl) ⟨_, rfl, by decide⟩ h
        · have h := h.2 c14
          refine ws_if_eq (tgt := 95) (dcd d_m_readsNumber_1 17 rfl) (by decide) (fun _ => ?_) (fun c => absurd (show (0 : Int32) = 0 from by decide) c)
          refine ws_iconst (v := 0) (dcd d_m_readsNumber_1 20 rfl) (by decide) ?_
          exact ws_iret (dcd d_m_readsNumber_1 21 rfl) ⟨_, rfl, by decide⟩ h
end SEG
