section SEG
variable {G : pG} {u : pM} {Q : Option Value → pM → Prop}
theorem sg_m_mark_0 {x1 : Int32} {x2 : Int32}  (h : (((0 ≤ x1 ∧ x1 ≤ (mI u 76 11) - 1) → (((1 ≤ x2 ∧ x2 ≤ 5) → (vp_in (5 * x1 + 0) 70 ∧ (((mI u 83 ((5 * x1 + 0) : Int32).toNatClampNeg) = x2 → (vp_in (5 * x1 + 4) 70 ∧ Ws G m_mark 61 [(0, .ref 76), (1, .int x1), (2, .int x2), (3, .int (mI u 83 ((5 * x1 + 4) : Int32).toNatClampNeg)), (4, .int 0), (5, .int 0)] [] u Q)) ∧ (¬ (mI u 83 ((5 * x1 + 0) : Int32).toNatClampNeg) = x2 → ((¬ x2 = 3 → Q (some (.int (-3))) (mt u 3)) ∧ (x2 = 3 → Ws G m_isSleeper 0 [(0, .ref 76), (1, .int x1)] [] u (RI fun a9 u9 => ((¬ a9 = 0 → (vp_in (5 * x1 + 4) 70 ∧ Ws G m_mark 61 [(0, .ref 76), (1, .int x1), (2, .int x2), (3, .int (mI u9 83 ((5 * x1 + 4) : Int32).toNatClampNeg)), (4, .int 0), (5, .int 0)] [] u9 Q)) ∧ (a9 = 0 → Q (some (.int (-3))) (mt u9 3)))))))))) ∧ (¬ (1 ≤ x2 ∧ x2 ≤ 5) → Q (some (.int (-1))) u))) ∧ (¬ (0 ≤ x1 ∧ x1 ≤ (mI u 76 11) - 1) → Q (some (.int (-1))) u))) : Ws G m_mark 0 [(0, .ref 76), (1, .int x1), (2, .int x2)] [] u Q := by
  refine ws_aload_n 0 (dcd d_m_mark_0 0 rfl) rfl ?_
  refine ws_iload_n 1 (dcd d_m_mark_0 1 rfl) rfl ?_
  refine ws_callVI (o := 76) (As := [.int x1]) (st := []) (la := [(0, .ref 76), (1, .int x1)]) (dcd d_m_mark_0 2 rfl) cv_m_isShop k_m_171 ⟨by decide, by decide⟩ ok_76 rfl (Nat.le_of_ble_eq_true rfl) (Nat.le_of_ble_eq_true rfl) rfl rfl sp_m_isShop ?_
  rintro _ _ ⟨rfl, ⟨rfl, c1⟩ | ⟨rfl, c1⟩⟩
  · have h := h.1 c1
    refine ws_if_eq (tgt := 17) (dcd d_m_mark_0 3 rfl) (by decide) (fun c => absurd c (by decide)) (fun _ => ?_)
    refine ws_iload_n 2 (dcd d_m_mark_0 4 rfl) rfl ?_
    refine ws_iconst (v := 1) (dcd d_m_mark_0 5 rfl) (by decide) ?_
    refine ws_iconst (v := 5) (dcd d_m_mark_0 6 rfl) (by decide) ?_
    refine ws_callSI (As := [.int x2, .int 1, .int 5]) (st := []) (la := [(0, .int x2), (1, .int 1), (2, .int 5)]) (dcd d_m_mark_0 7 rfl) cs_m_in k_m_78 ⟨by decide, by decide⟩ rfl (Nat.le_of_ble_eq_true rfl) (Nat.le_of_ble_eq_true rfl) rfl rfl sp_m_in ?_
    rintro _ _ ⟨rfl, ⟨rfl, c3⟩ | ⟨rfl, c3⟩⟩
    · have h := h.1 c3
      refine ws_if_ne (tgt := 19) (dcd d_m_mark_0 8 rfl) (by decide) (fun _ => ?_) (fun c => absurd c (by decide))
      refine ws_aload_n 0 (dcd d_m_mark_0 11 rfl) rfl ?_
      refine ws_iload_n 1 (dcd d_m_mark_0 12 rfl) rfl ?_
      refine ws_iconst (v := 0) (dcd d_m_mark_0 13 rfl) (by decide) ?_
      obtain ⟨e5, h⟩ := h
      refine ws_callVI (o := 76) (As := [.int x1, .int 0]) (st := []) (la := [(0, .ref 76), (1, .int x1), (2, .int 0)]) (dcd d_m_mark_0 14 rfl) cv_m_tell k_m_159 ⟨by decide, by decide⟩ ok_76 rfl (Nat.le_of_ble_eq_true rfl) (Nat.le_of_ble_eq_true rfl) rfl rfl (sp_m_tell e5) ?_
      rintro _ _ ⟨rfl, rfl⟩
      refine ws_iload_n 2 (dcd d_m_mark_0 15 rfl) rfl ?_
      refine ws_icmp_eq (tgt := 48) (dcd d_m_mark_0 16 rfl) (by decide) (fun c6 => ?_) (fun c6 => ?_)
      · have h := h.1 c6
        refine ws_aload_n 0 (dcd d_m_mark_0 28 rfl) rfl ?_
        refine ws_iload_n 1 (dcd d_m_mark_0 29 rfl) rfl ?_
        refine ws_iconst (v := 4) (dcd d_m_mark_1 0 rfl) (by decide) ?_
        obtain ⟨e7, h⟩ := h
        refine ws_callVI (o := 76) (As := [.int x1, .int 4]) (st := []) (la := [(0, .ref 76), (1, .int x1), (2, .int 4)]) (dcd d_m_mark_1 1 rfl) cv_m_tell k_m_159 ⟨by decide, by decide⟩ ok_76 rfl (Nat.le_of_ble_eq_true rfl) (Nat.le_of_ble_eq_true rfl) rfl rfl (sp_m_tell e7) ?_
        rintro _ _ ⟨rfl, rfl⟩
        refine ws_istore_n (l' := [(3, .int (mI u 83 ((5 * x1 + 4) : Int32).toNatClampNeg)), (0, .ref 76), (1, .int x1), (2, .int x2)]) (dcd d_m_mark_1 2 rfl) (by decide) rfl ?_
        refine ws_iconst (v := 0) (dcd d_m_mark_1 3 rfl) (by decide) ?_
        refine ws_istore (l' := [(4, .int 0), (3, .int (mI u 83 ((5 * x1 + 4) : Int32).toNatClampNeg)), (0, .ref 76), (1, .int x1), (2, .int x2)]) (dcd d_m_mark_1 4 rfl) (by decide) rfl ?_
        refine ws_iconst (v := 0) (dcd d_m_mark_1 5 rfl) (by decide) ?_
        refine ws_istore (l' := [(5, .int 0), (4, .int 0), (3, .int (mI u 83 ((5 * x1 + 4) : Int32).toNatClampNeg)), (0, .ref 76), (1, .int x1), (2, .int x2)]) (dcd d_m_mark_1 6 rfl) (by decide) rfl ?_
        exact ws_loc [3, 4, 5, 2, 1, 0] rfl h
      · have h := h.2 c6
        refine ws_iload_n 2 (dcd d_m_mark_0 17 rfl) rfl ?_
        refine ws_iconst (v := 3) (dcd d_m_mark_0 18 rfl) (by decide) ?_
        refine ws_icmp_ne (tgt := 42) (dcd d_m_mark_0 19 rfl) (by decide) (fun c8 => ?_) (fun c8 => ?_)
        · have h := h.1 c8
          refine ws_aload_n 0 (dcd d_m_mark_0 24 rfl) rfl ?_
          refine ws_iconst (v := 3) (dcd d_m_mark_0 25 rfl) (by decide) ?_
          refine ws_callVI (o := 76) (As := [.int 3]) (st := []) (la := [(0, .ref 76), (1, .int 3)]) (dcd d_m_mark_0 26 rfl) cv_m_meet k_m_86 ⟨by decide, by decide⟩ ok_76 rfl (Nat.le_of_ble_eq_true rfl) (Nat.le_of_ble_eq_true rfl) rfl rfl (sp_m_meet (vin (by decide) (by decide) (by decide))) ?_
          rintro _ _ ⟨rfl, rfl⟩
          exact ws_iret (dcd d_m_mark_0 27 rfl) ⟨_, rfl, rfl⟩ h
        · have h := h.2 c8
          refine ws_aload_n 0 (dcd d_m_mark_0 20 rfl) rfl ?_
          refine ws_iload_n 1 (dcd d_m_mark_0 21 rfl) rfl ?_
          refine ws_callVI (o := 76) (As := [.int x1]) (st := []) (la := [(0, .ref 76), (1, .int x1)]) (dcd d_m_mark_0 22 rfl) cv_m_isSleeper k_m_185 ⟨by decide, by decide⟩ ok_76 rfl (Nat.le_of_ble_eq_true rfl) (Nat.le_of_ble_eq_true rfl) rfl rfl h (fun a9 u9 h => ?_)
          refine ws_if_ne (tgt := 48) (dcd d_m_mark_0 23 rfl) (by decide) (fun c10 => ?_) (fun c10 => ?_)
          · have h := h.1 c10
            refine ws_aload_n 0 (dcd d_m_mark_0 28 rfl) rfl ?_
            refine ws_iload_n 1 (dcd d_m_mark_0 29 rfl) rfl ?_
            refine ws_iconst (v := 4) (dcd d_m_mark_1 0 rfl) (by decide) ?_
            obtain ⟨e11, h⟩ := h
            refine ws_callVI (o := 76) (As := [.int x1, .int 4]) (st := []) (la := [(0, .ref 76), (1, .int x1), (2, .int 4)]) (dcd d_m_mark_1 1 rfl) cv_m_tell k_m_159 ⟨by decide, by decide⟩ ok_76 rfl (Nat.le_of_ble_eq_true rfl) (Nat.le_of_ble_eq_true rfl) rfl rfl (sp_m_tell e11) ?_
            rintro _ _ ⟨rfl, rfl⟩
            refine ws_istore_n (l' := [(3, .int (mI u9 83 ((5 * x1 + 4) : Int32).toNatClampNeg)), (0, .ref 76), (1, .int x1), (2, .int x2)]) (dcd d_m_mark_1 2 rfl) (by decide) rfl ?_
            refine ws_iconst (v := 0) (dcd d_m_mark_1 3 rfl) (by decide) ?_
            refine ws_istore (l' := [(4, .int 0), (3, .int (mI u9 83 ((5 * x1 + 4) : Int32).toNatClampNeg)), (0, .ref 76), (1, .int x1), (2, .int x2)]) (dcd d_m_mark_1 4 rfl) (by decide) rfl ?_
            refine ws_iconst (v := 0) (dcd d_m_mark_1 5 rfl) (by decide) ?_
            refine ws_istore (l' := [(5, .int 0), (4, .int 0), (3, .int (mI u9 83 ((5 * x1 + 4) : Int32).toNatClampNeg)), (0, .ref 76), (1, .int x1), (2, .int x2)]) (dcd d_m_mark_1 6 rfl) (by decide) rfl ?_
            exact ws_loc [3, 4, 5, 2, 1, 0] rfl h
          · have h := h.2 c10
            refine ws_aload_n 0 (dcd d_m_mark_0 24 rfl) rfl ?_
            refine ws_iconst (v := 3) (dcd d_m_mark_0 25 rfl) (by decide) ?_
            refine ws_callVI (o := 76) (As := [.int 3]) (st := []) (la := [(0, .ref 76), (1, .int 3)]) (dcd d_m_mark_0 26 rfl) cv_m_meet k_m_86 ⟨by decide, by decide⟩ ok_76 rfl (Nat.le_of_ble_eq_true rfl) (Nat.le_of_ble_eq_true rfl) rfl rfl (sp_m_meet (vin (by decide) (by decide) (by decide))) ?_
            rintro _ _ ⟨rfl, rfl⟩
            exact ws_iret (dcd d_m_mark_0 27 rfl) ⟨_, rfl, rfl⟩ h
    · have h := h.2 c3
      refine ws_if_ne (tgt := 19) (dcd d_m_mark_0 8 rfl) (by decide) (fun c => absurd (show (0 : Int32) = 0 from by decide) c) (fun _ => ?_)
      refine ws_iconst (v := (-1)) (dcd d_m_mark_0 9 rfl) (by decide) ?_
      exact ws_iret (dcd d_m_mark_0 10 rfl) ⟨_, rfl, rfl⟩ h
  · have h := h.2 c1
    refine ws_if_eq (tgt := 17) (dcd d_m_mark_0 3 rfl) (by decide) (fun _ => ?_) (fun c => absurd (show (0 : Int32) = 0 from by decide) c)
    refine ws_iconst (v := (-1)) (dcd d_m_mark_0 9 rfl) (by decide) ?_
    exact ws_iret (dcd d_m_mark_0 10 rfl) ⟨_, rfl, rfl⟩ h
theorem sg_m_mark_61 {x1 : Int32} {x2 : Int32} {x3 : Int32} {x4 : Int32} {x5 : Int32}  (h : (((mI u 76 11) ≤ x5 → ((x2 = 3 → (¬ x3 = 0 ∧ Q (some (.int ((x3 - 1) - ((mI u 76 18) - (mI u 76 18) / x3 * x3)))) u)) ∧ (x2 = 4 → (¬ x3 = 0 ∧ Q (some (.int (x3 - ((mI u 76 18) - (mI u 76 18) / x3 * x3)))) u)) ∧ (x2 = 5 → (vp_in (5 * x1 + 2) 70 ∧ Q (some (.int (((mI u 83 ((5 * x1 + 2) : Int32).toNatClampNeg) * (x3 - 2)) + 1000))) u)) ∧ (¬ x2 = 3 ∧ ¬ x2 = 4 ∧ ¬ x2 = 5 → Q (some (.int x4)) u))) ∧ (¬ ((mI u 76 11) ≤ x5) → ((¬ x2 = 1 → (vp_in x1 7 ∧ (vp_in (5 * x1 + 0) 70 ∧ (vp_in (5 * x1 + 2) 70 ∧ (vp_in (5 * x1 + 4) 70 ∧ ((3 ≤ (mI u 83 ((5 * x1 + 0) : Int32).toNatClampNeg) → ¬ (mI u 83 ((5 * x1 + 4) : Int32).toNatClampNeg) = 0) ∧ (¬ ((mI u 76 10) : Int32).toInt64 = 0 ∧ (vp_in x5 7 ∧ (vp_in (5 * x5 + 0) 70 ∧ (vp_in (5 * x5 + 2) 70 ∧ (vp_in (5 * x5 + 4) 70 ∧ ((3 ≤ (mI u 83 ((5 * x5 + 0) : Int32).toNatClampNeg) → ¬ (mI u 83 ((5 * x5 + 4) : Int32).toNatClampNeg) = 0) ∧ (¬ ((mI u 76 10) : Int32).toInt64 = 0 ∧ ((¬ (dAt (mI u 76 10) (((mI u 84 (x1 : Int32).toNatClampNeg) + (goV (mI u 83 ((5 * x1 + 0) : Int32).toNatClampNeg) (mI u 83 ((5 * x1 + 2) : Int32).toNatClampNeg) (mI u 83 ((5 * x1 + 4) : Int32).toNatClampNeg) (mI u 76 18))) : Int32).toInt64) = (dAt (mI u 76 10) (((mI u 84 (x5 : Int32).toNatClampNeg) + (goV (mI u 83 ((5 * x5 + 0) : Int32).toNatClampNeg) (mI u 83 ((5 * x5 + 2) : Int32).toNatClampNeg) (mI u 83 ((5 * x5 + 4) : Int32).toNatClampNeg) (mI u 76 18))) : Int32).toInt64) → ((x5 = x1 → Ws G m_mark 61 [(0, .ref 76), (1, .int x1), (2, .int x2), (3, .int x3), (4, .int (x4 + 0)), (5, .int (x5 + 1))] [] u Q) ∧ (¬ x5 = x1 → Ws G m_mark 61 [(0, .ref 76), (1, .int x1), (2, .int x2), (3, .int x3), (4, .int (x4 + 0)), (5, .int (x5 + 1))] [] u Q))) ∧ ((dAt (mI u 76 10) (((mI u 84 (x1 : Int32).toNatClampNeg) + (goV (mI u 83 ((5 * x1 + 0) : Int32).toNatClampNeg) (mI u 83 ((5 * x1 + 2) : Int32).toNatClampNeg) (mI u 83 ((5 * x1 + 4) : Int32).toNatClampNeg) (mI u 76 18))) : Int32).toInt64) = (dAt (mI u 76 10) (((mI u 84 (x5 : Int32).toNatClampNeg) + (goV (mI u 83 ((5 * x5 + 0) : Int32).toNatClampNeg) (mI u 83 ((5 * x5 + 2) : Int32).toNatClampNeg) (mI u 83 ((5 * x5 + 4) : Int32).toNatClampNeg) (mI u 76 18))) : Int32).toInt64) → ((x5 = x1 → Ws G m_mark 61 [(0, .ref 76), (1, .int x1), (2, .int x2), (3, .int x3), (4, .int (x4 + 0)), (5, .int (x5 + 1))] [] u Q) ∧ (¬ x5 = x1 → Ws G m_mark 61 [(0, .ref 76), (1, .int x1), (2, .int x2), (3, .int x3), (4, .int (x4 + 1)), (5, .int (x5 + 1))] [] u Q))))))))))))))))) ∧ (x2 = 1 → (vp_in x1 7 ∧ (vp_in x5 7 ∧ Ws G m_areBeside 0 [(0, .ref 76), (1, .int (mI u 84 (x1 : Int32).toNatClampNeg)), (2, .int (mI u 84 (x5 : Int32).toNatClampNeg))] [] u (RI fun a29 u29 => ((x5 = x1 → Ws G m_mark 61 [(0, .ref 76), (1, .int x1), (2, .int x2), (3, .int x3), (4, .int (x4 + 0)), (5, .int (x5 + 1))] [] u29 Q) ∧ (¬ x5 = x1 → ((a29 = 0 → Ws G m_mark 61 [(0, .ref 76), (1, .int x1), (2, .int x2), (3, .int x3), (4, .int (x4 + 0)), (5, .int (x5 + 1))] [] u29 Q) ∧ (¬ a29 = 0 → Ws G m_mark 61 [(0, .ref 76), (1, .int x1), (2, .int x2), (3, .int x3), (4, .int (x4 + 1)), (5, .int (x5 + 1))] [] u29 Q)))))))))))) : Ws G m_mark 61 [(0, .ref 76), (1, .int x1), (2, .int x2), (3, .int x3), (4, .int x4), (5, .int x5)] [] u Q := by
  refine ws_iload 5 (dcd d_m_mark_1 7 rfl) rfl ?_
  refine ws_aload_n 0 (dcd d_m_mark_1 8 rfl) rfl ?_
  refine ws_getI f_m_156 rfl (dcd d_m_mark_1 9 rfl) ok_76 ?_
  refine ws_icmp_ge (tgt := 176) (dcd d_m_mark_1 10 rfl) (by decide) (fun c1 => ?_) (fun c1 => ?_)
  · have h := h.1 c1
    refine ws_iload_n 2 (dcd d_m_mark_3 9 rfl) rfl ?_
    by_cases c3 : x2 = 3
    · have h := h.1 c3
      refine ws_tableIn (off := 27) (tgt := 204) 0 (dcd d_m_mark_3 10 rfl) (by rw [c3]; decide) (by decide) rfl (by decide) ?_
      refine ws_iload_n 3 (dcd d_m_mark_3 11 rfl) rfl ?_
      refine ws_iconst (v := 1) (dcd d_m_mark_3 12 rfl) (by decide) ?_
      refine ws_isub (dcd d_m_mark_3 13 rfl) ?_
      refine ws_aload_n 0 (dcd d_m_mark_3 14 rfl) rfl ?_
      refine ws_getI f_m_162 rfl (dcd d_m_mark_3 15 rfl) ok_76 ?_
      refine ws_iload_n 3 (dcd d_m_mark_3 16 rfl) rfl ?_
      obtain ⟨e4, h⟩ := h
      refine ws_irem (dcd d_m_mark_3 17 rfl) e4 ?_
      refine ws_isub (dcd d_m_mark_3 18 rfl) ?_
      exact ws_iret (dcd d_m_mark_3 19 rfl) ⟨_, rfl, rfl⟩ h
    by_cases c5 : x2 = 4
    · have h := h.2.1 c5
      refine ws_tableIn (off := 38) (tgt := 215) 1 (dcd d_m_mark_3 10 rfl) (by rw [c5]; decide) (by decide) rfl (by decide) ?_
      refine ws_iload_n 3 (dcd d_m_mark_3 20 rfl) rfl ?_
      refine ws_aload_n 0 (dcd d_m_mark_3 21 rfl) rfl ?_
      refine ws_getI f_m_162 rfl (dcd d_m_mark_3 22 rfl) ok_76 ?_
      refine ws_iload_n 3 (dcd d_m_mark_3 23 rfl) rfl ?_
      obtain ⟨e6, h⟩ := h
      refine ws_irem (dcd d_m_mark_3 24 rfl) e6 ?_
      refine ws_isub (dcd d_m_mark_3 25 rfl) ?_
      exact ws_iret (dcd d_m_mark_3 26 rfl) ⟨_, rfl, rfl⟩ h
    by_cases c7 : x2 = 5
    · have h := h.2.2.1 c7
      refine ws_tableIn (off := 47) (tgt := 224) 2 (dcd d_m_mark_3 10 rfl) (by rw [c7]; decide) (by decide) rfl (by decide) ?_
      refine ws_aload_n 0 (dcd d_m_mark_3 27 rfl) rfl ?_
      refine ws_iload_n 1 (dcd d_m_mark_3 28 rfl) rfl ?_
      refine ws_iconst (v := 2) (dcd d_m_mark_3 29 rfl) (by decide) ?_
      obtain ⟨e8, h⟩ := h
      refine ws_callVI (o := 76) (As := [.int x1, .int 2]) (st := []) (la := [(0, .ref 76), (1, .int x1), (2, .int 2)]) (dcd d_m_mark_4 0 rfl) cv_m_tell k_m_159 ⟨by decide, by decide⟩ ok_76 rfl (Nat.le_of_ble_eq_true rfl) (Nat.le_of_ble_eq_true rfl) rfl rfl (sp_m_tell e8) ?_
      rintro _ _ ⟨rfl, rfl⟩
      refine ws_iload_n 3 (dcd d_m_mark_4 1 rfl) rfl ?_
      refine ws_iconst (v := 2) (dcd d_m_mark_4 2 rfl) (by decide) ?_
      refine ws_isub (dcd d_m_mark_4 3 rfl) ?_
      refine ws_imul (dcd d_m_mark_4 4 rfl) ?_
      refine ws_sipush (v := 1000) (dcd d_m_mark_4 5 rfl) (by decide) ?_
      refine ws_iadd (dcd d_m_mark_4 6 rfl) ?_
      exact ws_iret (dcd d_m_mark_4 7 rfl) ⟨_, rfl, rfl⟩ h
    have h := h.2.2.2 ⟨c3, c5, c7⟩
    have nc3 := lv_neT c3 (a := 3) (by decide)
    have nc5 := lv_neT c5 (a := 4) (by decide)
    have nc7 := lv_neT c7 (a := 5) (by decide)
    refine ws_tableOut (tgt := 239) (dcd d_m_mark_3 10 rfl) (by omega) (by decide) ?_
    refine ws_iload 4 (dcd d_m_mark_4 8 rfl) rfl ?_
    exact ws_iret (dcd d_m_mark_4 9 rfl) ⟨_, rfl, rfl⟩ h
  · have h := h.2 c1
    refine ws_iload_n 2 (dcd d_m_mark_1 11 rfl) rfl ?_
    refine ws_iconst (v := 1) (dcd d_m_mark_1 12 rfl) (by decide) ?_
    refine ws_icmp_ne (tgt := 95) (dcd d_m_mark_1 13 rfl) (by decide) (fun c9 => ?_) (fun c9 => ?_)
    · have h := h.1 c9
      refine ws_aload_n 0 (dcd d_m_mark_1 25 rfl) rfl ?_
      refine ws_aload_n 0 (dcd d_m_mark_1 26 rfl) rfl ?_
      refine ws_getF (a := 84) f_m_35 rfl (dcd d_m_mark_1 27 rfl) ok_76 of_8_17 rfl ?_
      refine ws_iload_n 1 (dcd d_m_mark_1 28 rfl) rfl ?_
      obtain ⟨e10, h⟩ := h
      refine ws_iald (L := 7) (dcd d_m_mark_1 29 rfl) (os_8_17 ok_76) (ol_8_17 ok_76) e10 ?_
      refine ws_aload_n 0 (dcd d_m_mark_2 0 rfl) rfl ?_
      refine ws_iload_n 1 (dcd d_m_mark_2 1 rfl) rfl ?_
      refine ws_aload_n 0 (dcd d_m_mark_2 2 rfl) rfl ?_
      refine ws_getI f_m_162 rfl (dcd d_m_mark_2 3 rfl) ok_76 ?_
      obtain ⟨e11, h⟩ := h
      obtain ⟨e12, h⟩ := h
      obtain ⟨e13, h⟩ := h
      obtain ⟨e14, h⟩ := h
      refine ws_callVI (o := 76) (As := [.int x1, .int (mI u 76 18)]) (st := [.int (mI u 84 (x1 : Int32).toNatClampNeg), .ref 76]) (la := [(0, .ref 76), (1, .int x1), (2, .int (mI u 76 18))]) (dcd d_m_mark_2 4 rfl) cv_m_going k_m_191 ⟨by decide, by decide⟩ ok_76 rfl (Nat.le_of_ble_eq_true rfl) (Nat.le_of_ble_eq_true rfl) rfl rfl (sp_m_going e11 e12 e13 e14) ?_
      rintro _ _ ⟨rfl, rfl⟩
      refine ws_iadd (dcd d_m_mark_2 5 rfl) ?_
      refine ws_i2l (dcd d_m_mark_2 6 rfl) ?_
      obtain ⟨e15, h⟩ := h
      refine ws_callVI (o := 76) (As := [.long (((mI u 84 (x1 : Int32).toNatClampNeg) + (goV (mI u 83 ((5 * x1 + 0) : Int32).toNatClampNeg) (mI u 83 ((5 * x1 + 2) : Int32).toNatClampNeg) (mI u 83 ((5 * x1 + 4) : Int32).toNatClampNeg) (mI u 76 18))) : Int32).toInt64]) (st := []) (la := [(0, .ref 76), (1, .long (((mI u 84 (x1 : Int32).toNatClampNeg) + (goV (mI u 83 ((5 * x1 + 0) : Int32).toNatClampNeg) (mI u 83 ((5 * x1 + 2) : Int32).toNatClampNeg) (mI u 83 ((5 * x1 + 4) : Int32).toNatClampNeg) (mI u 76 18))) : Int32).toInt64)]) (dcd d_m_mark_2 7 rfl) cv_m_doorAt k_m_181 ⟨by decide, by decide⟩ ok_76 rfl (Nat.le_of_ble_eq_true rfl) (Nat.le_of_ble_eq_true rfl) rfl rfl (sp_m_doorAt e15) ?_
      rintro _ _ ⟨rfl, rfl⟩
      refine ws_aload_n 0 (dcd d_m_mark_2 8 rfl) rfl ?_
      refine ws_aload_n 0 (dcd d_m_mark_2 9 rfl) rfl ?_
      refine ws_getF (a := 84) f_m_35 rfl (dcd d_m_mark_2 10 rfl) ok_76 of_8_17 rfl ?_
      refine ws_iload 5 (dcd d_m_mark_2 11 rfl) rfl ?_
      obtain ⟨e16, h⟩ := h
      refine ws_iald (L := 7) (dcd d_m_mark_2 12 rfl) (os_8_17 ok_76) (ol_8_17 ok_76) e16 ?_
      refine ws_aload_n 0 (dcd d_m_mark_2 13 rfl) rfl ?_
      refine ws_iload 5 (dcd d_m_mark_2 14 rfl) rfl ?_
      refine ws_aload_n 0 (dcd d_m_mark_2 15 rfl) rfl ?_
      refine ws_getI f_m_162 rfl (dcd d_m_mark_2 16 rfl) ok_76 ?_
      obtain ⟨e17, h⟩ := h
      obtain ⟨e18, h⟩ := h
      obtain ⟨e19, h⟩ := h
      obtain ⟨e20, h⟩ := h
      refine ws_callVI (o := 76) (As := [.int x5, .int (mI u 76 18)]) (st := [.int (mI u 84 (x5 : Int32).toNatClampNeg), .ref 76, .int (dAt (mI u 76 10) (((mI u 84 (x1 : Int32).toNatClampNeg) + (goV (mI u 83 ((5 * x1 + 0) : Int32).toNatClampNeg) (mI u 83 ((5 * x1 + 2) : Int32).toNatClampNeg) (mI u 83 ((5 * x1 + 4) : Int32).toNatClampNeg) (mI u 76 18))) : Int32).toInt64)]) (la := [(0, .ref 76), (1, .int x5), (2, .int (mI u 76 18))]) (dcd d_m_mark_2 17 rfl) cv_m_going k_m_191 ⟨by decide, by decide⟩ ok_76 rfl (Nat.le_of_ble_eq_true rfl) (Nat.le_of_ble_eq_true rfl) rfl rfl (sp_m_going e17 e18 e19 e20) ?_
      rintro _ _ ⟨rfl, rfl⟩
      refine ws_iadd (dcd d_m_mark_2 18 rfl) ?_
      refine ws_i2l (dcd d_m_mark_2 19 rfl) ?_
      obtain ⟨e21, h⟩ := h
      refine ws_callVI (o := 76) (As := [.long (((mI u 84 (x5 : Int32).toNatClampNeg) + (goV (mI u 83 ((5 * x5 + 0) : Int32).toNatClampNeg) (mI u 83 ((5 * x5 + 2) : Int32).toNatClampNeg) (mI u 83 ((5 * x5 + 4) : Int32).toNatClampNeg) (mI u 76 18))) : Int32).toInt64]) (st := [.int (dAt (mI u 76 10) (((mI u 84 (x1 : Int32).toNatClampNeg) + (goV (mI u 83 ((5 * x1 + 0) : Int32).toNatClampNeg) (mI u 83 ((5 * x1 + 2) : Int32).toNatClampNeg) (mI u 83 ((5 * x1 + 4) : Int32).toNatClampNeg) (mI u 76 18))) : Int32).toInt64)]) (la := [(0, .ref 76), (1, .long (((mI u 84 (x5 : Int32).toNatClampNeg) + (goV (mI u 83 ((5 * x5 + 0) : Int32).toNatClampNeg) (mI u 83 ((5 * x5 + 2) : Int32).toNatClampNeg) (mI u 83 ((5 * x5 + 4) : Int32).toNatClampNeg) (mI u 76 18))) : Int32).toInt64)]) (dcd d_m_mark_2 20 rfl) cv_m_doorAt k_m_181 ⟨by decide, by decide⟩ ok_76 rfl (Nat.le_of_ble_eq_true rfl) (Nat.le_of_ble_eq_true rfl) rfl rfl (sp_m_doorAt e21) ?_
      rintro _ _ ⟨rfl, rfl⟩
      refine ws_icmp_ne (tgt := 146) (dcd d_m_mark_2 21 rfl) (by decide) (fun c22 => ?_) (fun c22 => ?_)
      · have h := h.1 c22
        refine ws_iconst (v := 0) (dcd d_m_mark_2 24 rfl) (by decide) ?_
        refine ws_istore (l' := [(6, .int 0), (0, .ref 76), (1, .int x1), (2, .int x2), (3, .int x3), (4, .int x4), (5, .int x5)]) (dcd d_m_mark_2 25 rfl) (by decide) rfl ?_
        refine ws_iload 5 (dcd d_m_mark_2 26 rfl) rfl ?_
        refine ws_iload 6 (dcd d_m_mark_2 27 rfl) rfl ?_
        refine ws_iload_n 2 (dcd d_m_mark_2 28 rfl) rfl ?_
        refine ws_icmp_eq (tgt := 166) (dcd d_m_mark_2 29 rfl) (by decide) (fun c23 => ?_) (fun c23 => ?_)
        · have h := h.1 c23
          refine ws_iconst (v := 0) (dcd d_m_mark_3 4 rfl) (by decide) ?_
          refine ws_iadd (dcd d_m_mark_3 5 rfl) ?_
          refine ws_istore (l' := [(4, .int (x4 + 0)), (6, .int 0), (0, .ref 76), (1, .int x1), (2, .int x2), (3, .int x3), (5, .int x5)]) (dcd d_m_mark_3 6 rfl) (by decide) rfl ?_
          refine ws_iinc (v := 1) (l' := [(5, .int (x5 + 1)), (4, .int (x4 + 0)), (6, .int 0), (0, .ref 76), (1, .int x1), (2, .int x2), (3, .int x3)]) 6 (dcd d_m_mark_3 7 rfl) rfl (by decide) (by decide) rfl ?_
          refine ws_goto (tgt := 61) (dcd d_m_mark_3 8 rfl) (by decide) ?_
          exact ws_loc [3, 4, 5, 6, 1, 0] rfl h
        · have h := h.2 c23
          refine ws_iload 0 (dcd d_m_mark_3 0 rfl) rfl ?_
          refine ws_if_eq (tgt := 166) (dcd d_m_mark_3 1 rfl) (by decide) (fun _ => ?_) (fun c => absurd (show (0 : Int32) = 0 from by decide) c)
          refine ws_iconst (v := 0) (dcd d_m_mark_3 4 rfl) (by decide) ?_
          refine ws_iadd (dcd d_m_mark_3 5 rfl) ?_
          refine ws_istore (l' := [(4, .int (x4 + 0)), (6, .int 0), (0, .ref 76), (1, .int x1), (2, .int x2), (3, .int x3), (5, .int x5)]) (dcd d_m_mark_3 6 rfl) (by decide) rfl ?_
          refine ws_iinc (v := 1) (l' := [(5, .int (x5 + 1)), (4, .int (x4 + 0)), (6, .int 0), (0, .ref 76), (1, .int x1), (2, .int x2), (3, .int x3)]) 6 (dcd d_m_mark_3 7 rfl) rfl (by decide) (by decide) rfl ?_
          refine ws_goto (tgt := 61) (dcd d_m_mark_3 8 rfl) (by decide) ?_
          exact ws_loc [3, 4, 5, 6, 1, 0] rfl h
      · have h := h.2 c22
        refine ws_iconst (v := 1) (dcd d_m_mark_2 22 rfl) (by decide) ?_
        refine ws_goto (tgt := 147) (dcd d_m_mark_2 23 rfl) (by decide) ?_
        refine ws_istore (l' := [(6, .int 1), (0, .ref 76), (1, .int x1), (2, .int x2), (3, .int x3), (4, .int x4), (5, .int x5)]) (dcd d_m_mark_2 25 rfl) (by decide) rfl ?_
        refine ws_iload 5 (dcd d_m_mark_2 26 rfl) rfl ?_
        refine ws_iload 6 (dcd d_m_mark_2 27 rfl) rfl ?_
        refine ws_iload_n 2 (dcd d_m_mark_2 28 rfl) rfl ?_
        refine ws_icmp_eq (tgt := 166) (dcd d_m_mark_2 29 rfl) (by decide) (fun c25 => ?_) (fun c25 => ?_)
        · have h := h.1 c25
          refine ws_iconst (v := 0) (dcd d_m_mark_3 4 rfl) (by decide) ?_
          refine ws_iadd (dcd d_m_mark_3 5 rfl) ?_
          refine ws_istore (l' := [(4, .int (x4 + 0)), (6, .int 1), (0, .ref 76), (1, .int x1), (2, .int x2), (3, .int x3), (5, .int x5)]) (dcd d_m_mark_3 6 rfl) (by decide) rfl ?_
          refine ws_iinc (v := 1) (l' := [(5, .int (x5 + 1)), (4, .int (x4 + 0)), (6, .int 1), (0, .ref 76), (1, .int x1), (2, .int x2), (3, .int x3)]) 6 (dcd d_m_mark_3 7 rfl) rfl (by decide) (by decide) rfl ?_
          refine ws_goto (tgt := 61) (dcd d_m_mark_3 8 rfl) (by decide) ?_
          exact ws_loc [3, 4, 5, 6, 1, 0] rfl h
        · have h := h.2 c25
          refine ws_iload 0 (dcd d_m_mark_3 0 rfl) rfl ?_
          refine ws_if_eq (tgt := 166) (dcd d_m_mark_3 1 rfl) (by decide) (fun c => absurd c (by decide)) (fun _ => ?_)
          refine ws_iconst (v := 1) (dcd d_m_mark_3 2 rfl) (by decide) ?_
          refine ws_goto (tgt := 167) (dcd d_m_mark_3 3 rfl) (by decide) ?_
          refine ws_iadd (dcd d_m_mark_3 5 rfl) ?_
          refine ws_istore (l' := [(4, .int (x4 + 1)), (6, .int 1), (0, .ref 76), (1, .int x1), (2, .int x2), (3, .int x3), (5, .int x5)]) (dcd d_m_mark_3 6 rfl) (by decide) rfl ?_
          refine ws_iinc (v := 1) (l' := [(5, .int (x5 + 1)), (4, .int (x4 + 1)), (6, .int 1), (0, .ref 76), (1, .int x1), (2, .int x2), (3, .int x3)]) 6 (dcd d_m_mark_3 7 rfl) rfl (by decide) (by decide) rfl ?_
          refine ws_goto (tgt := 61) (dcd d_m_mark_3 8 rfl) (by decide) ?_
          exact ws_loc [3, 4, 5, 6, 1, 0] rfl h
    · have h := h.2 c9
      refine ws_aload_n 0 (dcd d_m_mark_1 14 rfl) rfl ?_
      refine ws_aload_n 0 (dcd d_m_mark_1 15 rfl) rfl ?_
      refine ws_getF (a := 84) f_m_35 rfl (dcd d_m_mark_1 16 rfl) ok_76 of_8_17 rfl ?_
      refine ws_iload_n 1 (dcd d_m_mark_1 17 rfl) rfl ?_
      obtain ⟨e27, h⟩ := h
      refine ws_iald (L := 7) (dcd d_m_mark_1 18 rfl) (os_8_17 ok_76) (ol_8_17 ok_76) e27 ?_
      refine ws_aload_n 0 (dcd d_m_mark_1 19 rfl) rfl ?_
      refine ws_getF (a := 84) f_m_35 rfl (dcd d_m_mark_1 20 rfl) ok_76 of_8_17 rfl ?_
      refine ws_iload 5 (dcd d_m_mark_1 21 rfl) rfl ?_
      obtain ⟨e28, h⟩ := h
      refine ws_iald (L := 7) (dcd d_m_mark_1 22 rfl) (os_8_17 ok_76) (ol_8_17 ok_76) e28 ?_
      refine ws_callVI (o := 76) (As := [.int (mI u 84 (x1 : Int32).toNatClampNeg), .int (mI u 84 (x5 : Int32).toNatClampNeg)]) (st := []) (la := [(0, .ref 76), (1, .int (mI u 84 (x1 : Int32).toNatClampNeg)), (2, .int (mI u 84 (x5 : Int32).toNatClampNeg))]) (dcd d_m_mark_1 23 rfl) cv_m_areBeside k_m_188 ⟨by decide, by decide⟩ ok_76 rfl (Nat.le_of_ble_eq_true rfl) (Nat.le_of_ble_eq_true rfl) rfl rfl h (fun a29 u29 h => ?_)
      refine ws_goto (tgt := 147) (dcd d_m_mark_1 24 rfl) (by decide) ?_
      refine ws_istore (l' := [(6, .int a29), (0, .ref 76), (1, .int x1), (2, .int x2), (3, .int x3), (4, .int x4), (5, .int x5)]) (dcd d_m_mark_2 25 rfl) (by decide) rfl ?_
      refine ws_iload 5 (dcd d_m_mark_2 26 rfl) rfl ?_
      refine ws_iload 6 (dcd d_m_mark_2 27 rfl) rfl ?_
      refine ws_iload_n 2 (dcd d_m_mark_2 28 rfl) rfl ?_
      refine ws_icmp_eq (tgt := 166) (dcd d_m_mark_2 29 rfl) (by decide) (fun c30 => ?_) (fun c30 => ?_)
      · have h := h.1 c30
        refine ws_iconst (v := 0) (dcd d_m_mark_3 4 rfl) (by decide) ?_
        refine ws_iadd (dcd d_m_mark_3 5 rfl) ?_
        refine ws_istore (l' := [(4, .int (x4 + 0)), (6, .int a29), (0, .ref 76), (1, .int x1), (2, .int x2), (3, .int x3), (5, .int x5)]) (dcd d_m_mark_3 6 rfl) (by decide) rfl ?_
        refine ws_iinc (v := 1) (l' := [(5, .int (x5 + 1)), (4, .int (x4 + 0)), (6, .int a29), (0, .ref 76), (1, .int x1), (2, .int x2), (3, .int x3)]) 6 (dcd d_m_mark_3 7 rfl) rfl (by decide) (by decide) rfl ?_
        refine ws_goto (tgt := 61) (dcd d_m_mark_3 8 rfl) (by decide) ?_
        exact ws_loc [3, 4, 5, 6, 1, 0] rfl h
      · have h := h.2 c30
        refine ws_iload 0 (dcd d_m_mark_3 0 rfl) rfl ?_
        refine ws_if_eq (tgt := 166) (dcd d_m_mark_3 1 rfl) (by decide) (fun c31 => ?_) (fun c31 => ?_)
        · have h := h.1 c31
          refine ws_iconst (v := 0) (dcd d_m_mark_3 4 rfl) (by decide) ?_
          refine ws_iadd (dcd d_m_mark_3 5 rfl) ?_
          refine ws_istore (l' := [(4, .int (x4 + 0)), (6, .int a29), (0, .ref 76), (1, .int x1), (2, .int x2), (3, .int x3), (5, .int x5)]) (dcd d_m_mark_3 6 rfl) (by decide) rfl ?_
          refine ws_iinc (v := 1) (l' := [(5, .int (x5 + 1)), (4, .int (x4 + 0)), (6, .int a29), (0, .ref 76), (1, .int x1), (2, .int x2), (3, .int x3)]) 6 (dcd d_m_mark_3 7 rfl) rfl (by decide) (by decide) rfl ?_
          refine ws_goto (tgt := 61) (dcd d_m_mark_3 8 rfl) (by decide) ?_
          exact ws_loc [3, 4, 5, 6, 1, 0] rfl h
        · have h := h.2 c31
          refine ws_iconst (v := 1) (dcd d_m_mark_3 2 rfl) (by decide) ?_
          refine ws_goto (tgt := 167) (dcd d_m_mark_3 3 rfl) (by decide) ?_
          refine ws_iadd (dcd d_m_mark_3 5 rfl) ?_
          refine ws_istore (l' := [(4, .int (x4 + 1)), (6, .int a29), (0, .ref 76), (1, .int x1), (2, .int x2), (3, .int x3), (5, .int x5)]) (dcd d_m_mark_3 6 rfl) (by decide) rfl ?_
          refine ws_iinc (v := 1) (l' := [(5, .int (x5 + 1)), (4, .int (x4 + 1)), (6, .int a29), (0, .ref 76), (1, .int x1), (2, .int x2), (3, .int x3)]) 6 (dcd d_m_mark_3 7 rfl) rfl (by decide) (by decide) rfl ?_
          refine ws_goto (tgt := 61) (dcd d_m_mark_3 8 rfl) (by decide) ?_
          exact ws_loc [3, 4, 5, 6, 1, 0] rfl h
theorem sg_m_isSleeper_0 {x1 : Int32}  (h : (vp_in (5 * x1 + 0) 70 ∧ (((mI u 83 ((5 * x1 + 0) : Int32).toNatClampNeg) = 3 → Q (some (.int 1)) u) ∧ (¬ (mI u 83 ((5 * x1 + 0) : Int32).toNatClampNeg) = 3 → (vp_in (5 * x1 + 0) 70 ∧ ((¬ (mI u 83 ((5 * x1 + 0) : Int32).toNatClampNeg) = 5 → Q (some (.int 0)) u) ∧ ((mI u 83 ((5 * x1 + 0) : Int32).toNatClampNeg) = 5 → Q (some (.int 1)) u))))))) : Ws G m_isSleeper 0 [(0, .ref 76), (1, .int x1)] [] u Q := by
  refine ws_aload_n 0 (dcd d_m_isSleeper_0 0 rfl) rfl ?_
  refine ws_iload_n 1 (dcd d_m_isSleeper_0 1 rfl) rfl ?_
  refine ws_iconst (v := 0) (dcd d_m_isSleeper_0 2 rfl) (by decide) ?_
  obtain ⟨e1, h⟩ := h
  refine ws_callVI (o := 76) (As := [.int x1, .int 0]) (st := []) (la := [(0, .ref 76), (1, .int x1), (2, .int 0)]) (dcd d_m_isSleeper_0 3 rfl) cv_m_tell k_m_159 ⟨by decide, by decide⟩ ok_76 rfl (Nat.le_of_ble_eq_true rfl) (Nat.le_of_ble_eq_true rfl) rfl rfl (sp_m_tell e1) ?_
  rintro _ _ ⟨rfl, rfl⟩
  refine ws_iconst (v := 3) (dcd d_m_isSleeper_0 4 rfl) (by decide) ?_
  refine ws_icmp_eq (tgt := 20) (dcd d_m_isSleeper_0 5 rfl) (by decide) (fun c2 => ?_) (fun c2 => ?_)
  · have h := h.1 c2
    refine ws_iconst (v := 1) (dcd d_m_isSleeper_0 12 rfl) (by decide) ?_
    refine ws_goto (tgt := 25) (dcd d_m_isSleeper_0 13 rfl) (by decide) ?_
    exact ws_iret (dcd d_m_isSleeper_0 15 rfl) ⟨_, rfl, by decide⟩ h
  · have h := h.2 c2
    refine ws_aload_n 0 (dcd d_m_isSleeper_0 6 rfl) rfl ?_
    refine ws_iload_n 1 (dcd d_m_isSleeper_0 7 rfl) rfl ?_
    refine ws_iconst (v := 0) (dcd d_m_isSleeper_0 8 rfl) (by decide) ?_
    obtain ⟨e3, h⟩ := h
    refine ws_callVI (o := 76) (As := [.int x1, .int 0]) (st := []) (la := [(0, .ref 76), (1, .int x1), (2, .int 0)]) (dcd d_m_isSleeper_0 9 rfl) cv_m_tell k_m_159 ⟨by decide, by decide⟩ ok_76 rfl (Nat.le_of_ble_eq_true rfl) (Nat.le_of_ble_eq_true rfl) rfl rfl (sp_m_tell e3) ?_
    rintro _ _ ⟨rfl, rfl⟩
    refine ws_iconst (v := 5) (dcd d_m_isSleeper_0 10 rfl) (by decide) ?_
    refine ws_icmp_ne (tgt := 24) (dcd d_m_isSleeper_0 11 rfl) (by decide) (fun c4 => ?_) (fun c4 => ?_)
    · have h := h.1 c4
      refine ws_iconst (v := 0) (dcd d_m_isSleeper_0 14 rfl) (by decide) ?_
      exact ws_iret (dcd d_m_isSleeper_0 15 rfl) ⟨_, rfl, by decide⟩ h
    · have h := h.2 c4
      refine ws_iconst (v := 1) (dcd d_m_isSleeper_0 12 rfl) (by decide) ?_
      refine ws_goto (tgt := 25) (dcd d_m_isSleeper_0 13 rfl) (by decide) ?_
      exact ws_iret (dcd d_m_isSleeper_0 15 rfl) ⟨_, rfl, by decide⟩ h
theorem sg_m_areBeside_0 {x1 : Int32} {x2 : Int32}  (h : (¬ ((mI u 76 10) : Int32).toInt64 = 0 ∧ (((dAt (mI u 76 10) ((x1 : Int32).toInt64 + 1)) = x2 → Q (some (.int 1)) u) ∧ (¬ (dAt (mI u 76 10) ((x1 : Int32).toInt64 + 1)) = x2 → (¬ ((mI u 76 10) : Int32).toInt64 = 0 ∧ ((¬ (dAt (mI u 76 10) ((x2 : Int32).toInt64 + 1)) = x1 → Q (some (.int 0)) u) ∧ ((dAt (mI u 76 10) ((x2 : Int32).toInt64 + 1)) = x1 → Q (some (.int 1)) u))))))) : Ws G m_areBeside 0 [(0, .ref 76), (1, .int x1), (2, .int x2)] [] u Q := by
  refine ws_aload_n 0 (dcd d_m_areBeside_0 0 rfl) rfl ?_
  refine ws_iload_n 1 (dcd d_m_areBeside_0 1 rfl) rfl ?_
  refine ws_i2l (dcd d_m_areBeside_0 2 rfl) ?_
  refine ws_lconst (v := 1) (dcd d_m_areBeside_0 3 rfl) (by decide) ?_
  refine ws_ladd (dcd d_m_areBeside_0 4 rfl) ?_
  obtain ⟨e1, h⟩ := h
  refine ws_callVI (o := 76) (As := [.long ((x1 : Int32).toInt64 + 1)]) (st := []) (la := [(0, .ref 76), (1, .long ((x1 : Int32).toInt64 + 1))]) (dcd d_m_areBeside_0 5 rfl) cv_m_doorAt k_m_181 ⟨by decide, by decide⟩ ok_76 rfl (Nat.le_of_ble_eq_true rfl) (Nat.le_of_ble_eq_true rfl) rfl rfl (sp_m_doorAt e1) ?_
  rintro _ _ ⟨rfl, rfl⟩
  refine ws_iload_n 2 (dcd d_m_areBeside_0 6 rfl) rfl ?_
  refine ws_icmp_eq (tgt := 24) (dcd d_m_areBeside_0 7 rfl) (by decide) (fun c2 => ?_) (fun c2 => ?_)
  · have h := h.1 c2
    refine ws_iconst (v := 1) (dcd d_m_areBeside_0 16 rfl) (by decide) ?_
    refine ws_goto (tgt := 29) (dcd d_m_areBeside_0 17 rfl) (by decide) ?_
    exact ws_iret (dcd d_m_areBeside_0 19 rfl) ⟨_, rfl, by decide⟩ h
  · have h := h.2 c2
    refine ws_aload_n 0 (dcd d_m_areBeside_0 8 rfl) rfl ?_
    refine ws_iload_n 2 (dcd d_m_areBeside_0 9 rfl) rfl ?_
    refine ws_i2l (dcd d_m_areBeside_0 10 rfl) ?_
    refine ws_lconst (v := 1) (dcd d_m_areBeside_0 11 rfl) (by decide) ?_
    refine ws_ladd (dcd d_m_areBeside_0 12 rfl) ?_
    obtain ⟨e3, h⟩ := h
    refine ws_callVI (o := 76) (As := [.long ((x2 : Int32).toInt64 + 1)]) (st := []) (la := [(0, .ref 76), (1, .long ((x2 : Int32).toInt64 + 1))]) (dcd d_m_areBeside_0 13 rfl) cv_m_doorAt k_m_181 ⟨by decide, by decide⟩ ok_76 rfl (Nat.le_of_ble_eq_true rfl) (Nat.le_of_ble_eq_true rfl) rfl rfl (sp_m_doorAt e3) ?_
    rintro _ _ ⟨rfl, rfl⟩
    refine ws_iload_n 1 (dcd d_m_areBeside_0 14 rfl) rfl ?_
    refine ws_icmp_ne (tgt := 28) (dcd d_m_areBeside_0 15 rfl) (by decide) (fun c4 => ?_) (fun c4 => ?_)
    · have h := h.1 c4
      refine ws_iconst (v := 0) (dcd d_m_areBeside_0 18 rfl) (by decide) ?_
      exact ws_iret (dcd d_m_areBeside_0 19 rfl) ⟨_, rfl, by decide⟩ h
    · have h := h.2 c4
      refine ws_iconst (v := 1) (dcd d_m_areBeside_0 16 rfl) (by decide) ?_
      refine ws_goto (tgt := 29) (dcd d_m_areBeside_0 17 rfl) (by decide) ?_
      exact ws_iret (dcd d_m_areBeside_0 19 rfl) ⟨_, rfl, by decide⟩ h
theorem sg_m_shut_0 {x1 : Int32}  (h : (((0 ≤ x1 ∧ x1 ≤ (mI u 76 10) - 1) → ((¬ (((mI u 76 19) >>> (x1 &&& 31)) &&& 1) = 1 → Ws G m_shutMany 0 [(0, .ref 76)] [] u (RI fun a4 u4 => ((¬ a4 = 3 → Ws G m_shutMany 0 [(0, .ref 76)] [] (pI u4 76 19 ((mI u4 76 19) ||| (1 <<< (x1 &&& 31)))) (RI fun a6 u6 => Q (some (.int a6)) u6)) ∧ (a4 = 3 → Q (some (.int (-2))) u4)))) ∧ ((((mI u 76 19) >>> (x1 &&& 31)) &&& 1) = 1 → Q (some (.int (-4))) u))) ∧ (¬ (0 ≤ x1 ∧ x1 ≤ (mI u 76 10) - 1) → Q (some (.int (-1))) u))) : Ws G m_shut 0 [(0, .ref 76), (1, .int x1)] [] u Q := by
  refine ws_aload_n 0 (dcd d_m_shut_0 0 rfl) rfl ?_
  refine ws_iload_n 1 (dcd d_m_shut_0 1 rfl) rfl ?_
  refine ws_callVI (o := 76) (As := [.int x1]) (st := []) (la := [(0, .ref 76), (1, .int x1)]) (dcd d_m_shut_0 2 rfl) cv_m_isDoor k_m_194 ⟨by decide, by decide⟩ ok_76 rfl (Nat.le_of_ble_eq_true rfl) (Nat.le_of_ble_eq_true rfl) rfl rfl sp_m_isDoor ?_
  rintro _ _ ⟨rfl, ⟨rfl, c1⟩ | ⟨rfl, c1⟩⟩
  · have h := h.1 c1
    refine ws_if_ne (tgt := 10) (dcd d_m_shut_0 3 rfl) (by decide) (fun _ => ?_) (fun c => absurd c (by decide))
    refine ws_aload_n 0 (dcd d_m_shut_0 6 rfl) rfl ?_
    refine ws_getI f_m_165 rfl (dcd d_m_shut_0 7 rfl) ok_76 ?_
    refine ws_iload_n 1 (dcd d_m_shut_0 8 rfl) rfl ?_
    refine ws_ishr (dcd d_m_shut_0 9 rfl) ?_
    refine ws_iconst (v := 1) (dcd d_m_shut_0 10 rfl) (by decide) ?_
    refine ws_iand (dcd d_m_shut_0 11 rfl) ?_
    refine ws_iconst (v := 1) (dcd d_m_shut_0 12 rfl) (by decide) ?_
    refine ws_icmp_ne (tgt := 25) (dcd d_m_shut_0 13 rfl) (by decide) (fun c3 => ?_) (fun c3 => ?_)
    · have h := h.1 c3
      refine ws_aload_n 0 (dcd d_m_shut_0 16 rfl) rfl ?_
      refine ws_callVI (o := 76) (As := []) (st := []) (la := [(0, .ref 76)]) (dcd d_m_shut_0 17 rfl) cv_m_shutMany k_m_197 ⟨by decide, by decide⟩ ok_76 rfl (Nat.le_of_ble_eq_true rfl) (Nat.le_of_ble_eq_true rfl) rfl rfl h (fun a4 u4 h => ?_)
      refine ws_iconst (v := 3) (dcd d_m_shut_0 18 rfl) (by decide) ?_
      refine ws_icmp_ne (tgt := 36) (dcd d_m_shut_0 19 rfl) (by decide) (fun c5 => ?_) (fun c5 => ?_)
      · have h := h.1 c5
        refine ws_aload_n 0 (dcd d_m_shut_0 22 rfl) rfl ?_
        refine ws_dup (dcd d_m_shut_0 23 rfl) rfl ?_
        refine ws_getI f_m_165 rfl (dcd d_m_shut_0 24 rfl) ok_76 ?_
        refine ws_iconst (v := 1) (dcd d_m_shut_0 25 rfl) (by decide) ?_
        refine ws_iload_n 1 (dcd d_m_shut_0 26 rfl) rfl ?_
        refine ws_ishl (dcd d_m_shut_0 27 rfl) ?_
        refine ws_ior (dcd d_m_shut_0 28 rfl) ?_
        refine ws_putI f_m_165 rfl nf_8_19 (dcd d_m_shut_0 29 rfl) ok_76 ?_
        refine ws_aload_n 0 (dcd d_m_shut_1 0 rfl) rfl ?_
        refine ws_callVI (o := 76) (As := []) (st := []) (la := [(0, .ref 76)]) (dcd d_m_shut_1 1 rfl) cv_m_shutMany k_m_197 ⟨by decide, by decide⟩ ok_76 rfl (Nat.le_of_ble_eq_true rfl) (Nat.le_of_ble_eq_true rfl) rfl rfl h (fun a6 u6 h => ?_)
        exact ws_iret (dcd d_m_shut_1 2 rfl) ⟨_, rfl, rfl⟩ h
      · have h := h.2 c5
        refine ws_bipush (v := (-2)) (dcd d_m_shut_0 20 rfl) (by decide) ?_
        exact ws_iret (dcd d_m_shut_0 21 rfl) ⟨_, rfl, rfl⟩ h
    · have h := h.2 c3
      refine ws_bipush (v := (-4)) (dcd d_m_shut_0 14 rfl) (by decide) ?_
      exact ws_iret (dcd d_m_shut_0 15 rfl) ⟨_, rfl, rfl⟩ h
  · have h := h.2 c1
    refine ws_if_ne (tgt := 10) (dcd d_m_shut_0 3 rfl) (by decide) (fun c => absurd (show (0 : Int32) = 0 from by decide) c) (fun _ => ?_)
    refine ws_iconst (v := (-1)) (dcd d_m_shut_0 4 rfl) (by decide) ?_
    exact ws_iret (dcd d_m_shut_0 5 rfl) ⟨_, rfl, rfl⟩ h
theorem sg_m_shutMany_0   (h : Ws G m_shutMany 4 [(0, .ref 76), (1, .int 0), (2, .int 0)] [] u Q) : Ws G m_shutMany 0 [(0, .ref 76)] [] u Q := by
  refine ws_iconst (v := 0) (dcd d_m_shutMany_0 0 rfl) (by decide) ?_
  refine ws_istore_n (l' := [(1, .int 0), (0, .ref 76)]) (dcd d_m_shutMany_0 1 rfl) (by decide) rfl ?_
  refine ws_iconst (v := 0) (dcd d_m_shutMany_0 2 rfl) (by decide) ?_
  refine ws_istore_n (l' := [(2, .int 0), (1, .int 0), (0, .ref 76)]) (dcd d_m_shutMany_0 3 rfl) (by decide) rfl ?_
  exact ws_loc [2, 1, 0] rfl h
theorem sg_m_shutMany_4 {x1 : Int32} {x2 : Int32}  (h : (((mI u 76 10) ≤ x2 → Q (some (.int x1)) u) ∧ (¬ ((mI u 76 10) ≤ x2) → Ws G m_shutMany 4 [(0, .ref 76), (1, .int (x1 + (((mI u 76 19) >>> (x2 &&& 31)) &&& 1))), (2, .int (x2 + 1))] [] u Q))) : Ws G m_shutMany 4 [(0, .ref 76), (1, .int x1), (2, .int x2)] [] u Q := by
  refine ws_iload_n 2 (dcd d_m_shutMany_0 4 rfl) rfl ?_
  refine ws_aload_n 0 (dcd d_m_shutMany_0 5 rfl) rfl ?_
  refine ws_getI f_m_153 rfl (dcd d_m_shutMany_0 6 rfl) ok_76 ?_
  refine ws_icmp_ge (tgt := 29) (dcd d_m_shutMany_0 7 rfl) (by decide) (fun c1 => ?_) (fun c1 => ?_)
  · have h := h.1 c1
    refine ws_iload_n 1 (dcd d_m_shutMany_0 19 rfl) rfl ?_
    exact ws_iret (dcd d_m_shutMany_0 20 rfl) ⟨_, rfl, rfl⟩ h
  · have h := h.2 c1
    refine ws_iload_n 1 (dcd d_m_shutMany_0 8 rfl) rfl ?_
    refine ws_aload_n 0 (dcd d_m_shutMany_0 9 rfl) rfl ?_
    refine ws_getI f_m_165 rfl (dcd d_m_shutMany_0 10 rfl) ok_76 ?_
    refine ws_iload_n 2 (dcd d_m_shutMany_0 11 rfl) rfl ?_
    refine ws_ishr (dcd d_m_shutMany_0 12 rfl) ?_
    refine ws_iconst (v := 1) (dcd d_m_shutMany_0 13 rfl) (by decide) ?_
    refine ws_iand (dcd d_m_shutMany_0 14 rfl) ?_
    refine ws_iadd (dcd d_m_shutMany_0 15 rfl) ?_
    refine ws_istore_n (l' := [(1, .int (x1 + (((mI u 76 19) >>> (x2 &&& 31)) &&& 1))), (0, .ref 76), (2, .int x2)]) (dcd d_m_shutMany_0 16 rfl) (by decide) rfl ?_
    refine ws_iinc (v := 1) (l' := [(2, .int (x2 + 1)), (1, .int (x1 + (((mI u 76 19) >>> (x2 &&& 31)) &&& 1))), (0, .ref 76)]) 2 (dcd d_m_shutMany_0 17 rfl) rfl (by decide) (by decide) rfl ?_
    refine ws_goto (tgt := 4) (dcd d_m_shutMany_0 18 rfl) (by decide) ?_
    exact ws_loc [2, 1, 0] rfl h
theorem sg_m_open_0 {x1 : Int32}  (h : (((0 ≤ x1 ∧ x1 ≤ (mI u 76 10) - 1) → ((¬ (((mI u 76 19) >>> (x1 &&& 31)) &&& 1) = 0 → Ws G m_shutMany 0 [(0, .ref 76)] [] (pI u 76 19 ((mI u 76 19) &&& ((1 <<< (x1 &&& 31)) ^^^ (-1)))) (RI fun a4 u4 => Q (some (.int a4)) u4)) ∧ ((((mI u 76 19) >>> (x1 &&& 31)) &&& 1) = 0 → Q (some (.int (-4))) u))) ∧ (¬ (0 ≤ x1 ∧ x1 ≤ (mI u 76 10) - 1) → Q (some (.int (-1))) u))) : Ws G m_open 0 [(0, .ref 76), (1, .int x1)] [] u Q := by
  refine ws_aload_n 0 (dcd d_m_open_0 0 rfl) rfl ?_
  refine ws_iload_n 1 (dcd d_m_open_0 1 rfl) rfl ?_
  refine ws_callVI (o := 76) (As := [.int x1]) (st := []) (la := [(0, .ref 76), (1, .int x1)]) (dcd d_m_open_0 2 rfl) cv_m_isDoor k_m_194 ⟨by decide, by decide⟩ ok_76 rfl (Nat.le_of_ble_eq_true rfl) (Nat.le_of_ble_eq_true rfl) rfl rfl sp_m_isDoor ?_
  rintro _ _ ⟨rfl, ⟨rfl, c1⟩ | ⟨rfl, c1⟩⟩
  · have h := h.1 c1
    refine ws_if_ne (tgt := 10) (dcd d_m_open_0 3 rfl) (by decide) (fun _ => ?_) (fun c => absurd c (by decide))
    refine ws_aload_n 0 (dcd d_m_open_0 6 rfl) rfl ?_
    refine ws_getI f_m_165 rfl (dcd d_m_open_0 7 rfl) ok_76 ?_
    refine ws_iload_n 1 (dcd d_m_open_0 8 rfl) rfl ?_
    refine ws_ishr (dcd d_m_open_0 9 rfl) ?_
    refine ws_iconst (v := 1) (dcd d_m_open_0 10 rfl) (by decide) ?_
    refine ws_iand (dcd d_m_open_0 11 rfl) ?_
    refine ws_if_ne (tgt := 24) (dcd d_m_open_0 12 rfl) (by decide) (fun c3 => ?_) (fun c3 => ?_)
    · have h := h.1 c3
      refine ws_aload_n 0 (dcd d_m_open_0 15 rfl) rfl ?_
      refine ws_dup (dcd d_m_open_0 16 rfl) rfl ?_
      refine ws_getI f_m_165 rfl (dcd d_m_open_0 17 rfl) ok_76 ?_
      refine ws_iconst (v := 1) (dcd d_m_open_0 18 rfl) (by decide) ?_
      refine ws_iload_n 1 (dcd d_m_open_0 19 rfl) rfl ?_
      refine ws_ishl (dcd d_m_open_0 20 rfl) ?_
      refine ws_iconst (v := (-1)) (dcd d_m_open_0 21 rfl) (by decide) ?_
      refine ws_ixor (dcd d_m_open_0 22 rfl) ?_
      refine ws_iand (dcd d_m_open_0 23 rfl) ?_
      refine ws_putI f_m_165 rfl nf_8_19 (dcd d_m_open_0 24 rfl) ok_76 ?_
      refine ws_aload_n 0 (dcd d_m_open_0 25 rfl) rfl ?_
      refine ws_callVI (o := 76) (As := []) (st := []) (la := [(0, .ref 76)]) (dcd d_m_open_0 26 rfl) cv_m_shutMany k_m_197 ⟨by decide, by decide⟩ ok_76 rfl (Nat.le_of_ble_eq_true rfl) (Nat.le_of_ble_eq_true rfl) rfl rfl h (fun a4 u4 h => ?_)
      exact ws_iret (dcd d_m_open_0 27 rfl) ⟨_, rfl, rfl⟩ h
    · have h := h.2 c3
      refine ws_bipush (v := (-4)) (dcd d_m_open_0 13 rfl) (by decide) ?_
      exact ws_iret (dcd d_m_open_0 14 rfl) ⟨_, rfl, rfl⟩ h
  · have h := h.2 c1
    refine ws_if_ne (tgt := 10) (dcd d_m_open_0 3 rfl) (by decide) (fun c => absurd (show (0 : Int32) = 0 from by decide) c) (fun _ => ?_)
    refine ws_iconst (v := (-1)) (dcd d_m_open_0 4 rfl) (by decide) ?_
    exact ws_iret (dcd d_m_open_0 5 rfl) ⟨_, rfl, rfl⟩ h
theorem sg_m_go_0 {x1 : Int32}  (h : (((0 ≤ x1 ∧ x1 ≤ 400) → ((¬ (mI u 76 10) = 0 → ((((mI u 76 18) + x1) ≤ 100000 → Ws G m_fromNow 0 [(0, .ref 76)] [] u (RV fun u5 => Ws G m_go 43 [(0, .ref 76), (1, .int x1), (2, .int 0)] [] u5 Q)) ∧ (¬ (((mI u 76 18) + x1) ≤ 100000) → Q (some (.int (-6))) u))) ∧ ((mI u 76 10) = 0 → Q (some (.int (-4))) u))) ∧ (¬ (0 ≤ x1 ∧ x1 ≤ 400) → Q (some (.int (-1))) u))) : Ws G m_go 0 [(0, .ref 76), (1, .int x1)] [] u Q := by
  refine ws_iload_n 1 (dcd d_m_go_0 0 rfl) rfl ?_
  refine ws_iconst (v := 0) (dcd d_m_go_0 1 rfl) (by decide) ?_
  refine ws_sipush (v := 400) (dcd d_m_go_0 2 rfl) (by decide) ?_
  refine ws_callSI (As := [.int x1, .int 0, .int 400]) (st := []) (la := [(0, .int x1), (1, .int 0), (2, .int 400)]) (dcd d_m_go_0 3 rfl) cs_m_in k_m_78 ⟨by decide, by decide⟩ rfl (Nat.le_of_ble_eq_true rfl) (Nat.le_of_ble_eq_true rfl) rfl rfl sp_m_in ?_
  rintro _ _ ⟨rfl, ⟨rfl, c1⟩ | ⟨rfl, c1⟩⟩
  · have h := h.1 c1
    refine ws_if_ne (tgt := 13) (dcd d_m_go_0 4 rfl) (by decide) (fun _ => ?_) (fun c => absurd c (by decide))
    refine ws_aload_n 0 (dcd d_m_go_0 7 rfl) rfl ?_
    refine ws_getI f_m_153 rfl (dcd d_m_go_0 8 rfl) ok_76 ?_
    refine ws_if_ne (tgt := 23) (dcd d_m_go_0 9 rfl) (by decide) (fun c3 => ?_) (fun c3 => ?_)
    · have h := h.1 c3
      refine ws_aload_n 0 (dcd d_m_go_0 12 rfl) rfl ?_
      refine ws_getI f_m_162 rfl (dcd d_m_go_0 13 rfl) ok_76 ?_
      refine ws_iload_n 1 (dcd d_m_go_0 14 rfl) rfl ?_
      refine ws_iadd (dcd d_m_go_0 15 rfl) ?_
      refine ws_ldc (dcd d_m_go_0 16 rfl) q_m_204 ?_
      refine ws_icmp_le (tgt := 37) (dcd d_m_go_0 17 rfl) (by decide) (fun c4 => ?_) (fun c4 => ?_)
      · have h := h.1 c4
        refine ws_aload_n 0 (dcd d_m_go_0 20 rfl) rfl ?_
        refine ws_callVV (o := 76) (As := []) (st := []) (la := [(0, .ref 76)]) (dcd d_m_go_0 21 rfl) cv_m_fromNow k_m_205 ⟨by decide, by decide⟩ ok_76 rfl (Nat.le_of_ble_eq_true rfl) (Nat.le_of_ble_eq_true rfl) rfl rfl h (fun u5 h => ?_)
        refine ws_iconst (v := 0) (dcd d_m_go_0 22 rfl) (by decide) ?_
        refine ws_istore_n (l' := [(2, .int 0), (0, .ref 76), (1, .int x1)]) (dcd d_m_go_0 23 rfl) (by decide) rfl ?_
        exact ws_loc [1, 2, 0] rfl h
      · have h := h.2 c4
        refine ws_bipush (v := (-6)) (dcd d_m_go_0 18 rfl) (by decide) ?_
        exact ws_iret (dcd d_m_go_0 19 rfl) ⟨_, rfl, rfl⟩ h
    · have h := h.2 c3
      refine ws_bipush (v := (-4)) (dcd d_m_go_0 10 rfl) (by decide) ?_
      exact ws_iret (dcd d_m_go_0 11 rfl) ⟨_, rfl, rfl⟩ h
  · have h := h.2 c1
    refine ws_if_ne (tgt := 13) (dcd d_m_go_0 4 rfl) (by decide) (fun c => absurd (show (0 : Int32) = 0 from by decide) c) (fun _ => ?_)
    refine ws_iconst (v := (-1)) (dcd d_m_go_0 5 rfl) (by decide) ?_
    exact ws_iret (dcd d_m_go_0 6 rfl) ⟨_, rfl, rfl⟩ h
theorem sg_m_go_43 {x1 : Int32} {x2 : Int32}  (h : ((x1 ≤ x2 → Ws G m_go 70 [(0, .ref 76), (1, .int x1), (2, .int 0)] [] u Q) ∧ (¬ (x1 ≤ x2) → Ws G m_passOne 0 [(0, .ref 76), (1, .int ((mI u 76 18) + x2)), (2, .int (mI u 76 19))] [] u (RV fun u2 => Ws G m_go 43 [(0, .ref 76), (1, .int x1), (2, .int (x2 + 1))] [] u2 Q)))) : Ws G m_go 43 [(0, .ref 76), (1, .int x1), (2, .int x2)] [] u Q := by
  refine ws_iload_n 2 (dcd d_m_go_0 24 rfl) rfl ?_
  refine ws_iload_n 1 (dcd d_m_go_0 25 rfl) rfl ?_
  refine ws_icmp_ge (tgt := 68) (dcd d_m_go_0 26 rfl) (by decide) (fun c1 => ?_) (fun c1 => ?_)
  · have h := h.1 c1
    refine ws_iconst (v := 0) (dcd d_m_go_1 7 rfl) (by decide) ?_
    refine ws_istore_n (l' := [(2, .int 0), (0, .ref 76), (1, .int x1)]) (dcd d_m_go_1 8 rfl) (by decide) rfl ?_
    exact ws_loc [1, 2, 0] rfl h
  · have h := h.2 c1
    refine ws_aload_n 0 (dcd d_m_go_0 27 rfl) rfl ?_
    refine ws_aload_n 0 (dcd d_m_go_0 28 rfl) rfl ?_
    refine ws_getI f_m_162 rfl (dcd d_m_go_0 29 rfl) ok_76 ?_
    refine ws_iload_n 2 (dcd d_m_go_1 0 rfl) rfl ?_
    refine ws_iadd (dcd d_m_go_1 1 rfl) ?_
    refine ws_aload_n 0 (dcd d_m_go_1 2 rfl) rfl ?_
    refine ws_getI f_m_165 rfl (dcd d_m_go_1 3 rfl) ok_76 ?_
    refine ws_callVV (o := 76) (As := [.int ((mI u 76 18) + x2), .int (mI u 76 19)]) (st := []) (la := [(0, .ref 76), (1, .int ((mI u 76 18) + x2)), (2, .int (mI u 76 19))]) (dcd d_m_go_1 4 rfl) cv_m_passOne k_m_208 ⟨by decide, by decide⟩ ok_76 rfl (Nat.le_of_ble_eq_true rfl) (Nat.le_of_ble_eq_true rfl) rfl rfl h (fun u2 h => ?_)
    refine ws_iinc (v := 1) (l' := [(2, .int (x2 + 1)), (0, .ref 76), (1, .int x1)]) 2 (dcd d_m_go_1 5 rfl) rfl (by decide) (by decide) rfl ?_
    refine ws_goto (tgt := 43) (dcd d_m_go_1 6 rfl) (by decide) ?_
    exact ws_loc [1, 2, 0] rfl h
theorem sg_m_go_70 {x1 : Int32} {x2 : Int32}  (h : (((mI u 76 11) ≤ x2 → Q (some (.int (mI (pI u 76 18 ((mI u 76 18) + x1)) 76 18))) (pI u 76 18 ((mI u 76 18) + x1))) ∧ (¬ ((mI u 76 11) ≤ x2) → (vp_in x2 7 ∧ (vp_in x2 7 ∧ Ws G m_go 70 [(0, .ref 76), (1, .int x1), (2, .int (x2 + 1))] [] (pI u 84 (x2 : Int32).toNatClampNeg (mI u 85 (x2 : Int32).toNatClampNeg)) Q))))) : Ws G m_go 70 [(0, .ref 76), (1, .int x1), (2, .int x2)] [] u Q := by
  refine ws_iload_n 2 (dcd d_m_go_1 9 rfl) rfl ?_
  refine ws_aload_n 0 (dcd d_m_go_1 10 rfl) rfl ?_
  refine ws_getI f_m_156 rfl (dcd d_m_go_1 11 rfl) ok_76 ?_
  refine ws_icmp_ge (tgt := 96) (dcd d_m_go_1 12 rfl) (by decide) (fun c1 => ?_) (fun c1 => ?_)
  · have h := h.1 c1
    refine ws_aload_n 0 (dcd d_m_go_1 23 rfl) rfl ?_
    refine ws_dup (dcd d_m_go_1 24 rfl) rfl ?_
    refine ws_getI f_m_162 rfl (dcd d_m_go_1 25 rfl) ok_76 ?_
    refine ws_iload_n 1 (dcd d_m_go_1 26 rfl) rfl ?_
    refine ws_iadd (dcd d_m_go_1 27 rfl) ?_
    refine ws_putI f_m_162 rfl nf_8_18 (dcd d_m_go_1 28 rfl) ok_76 ?_
    refine ws_aload_n 0 (dcd d_m_go_1 29 rfl) rfl ?_
    refine ws_getI f_m_162 rfl (dcd d_m_go_2 0 rfl) ok_76 ?_
    exact ws_iret (dcd d_m_go_2 1 rfl) ⟨_, rfl, rfl⟩ h
  · have h := h.2 c1
    refine ws_aload_n 0 (dcd d_m_go_1 13 rfl) rfl ?_
    refine ws_getF (a := 84) f_m_35 rfl (dcd d_m_go_1 14 rfl) ok_76 of_8_17 rfl ?_
    refine ws_iload_n 2 (dcd d_m_go_1 15 rfl) rfl ?_
    refine ws_aload_n 0 (dcd d_m_go_1 16 rfl) rfl ?_
    refine ws_getF (a := 85) f_m_38 rfl (dcd d_m_go_1 17 rfl) ok_76 of_8_20 rfl ?_
    refine ws_iload_n 2 (dcd d_m_go_1 18 rfl) rfl ?_
    obtain ⟨e2, h⟩ := h
    refine ws_iald (L := 7) (dcd d_m_go_1 19 rfl) (os_8_20 ok_76) (ol_8_20 ok_76) e2 ?_
    obtain ⟨e3, h⟩ := h
    refine ws_iast (L := 7) (dcd d_m_go_1 20 rfl) (os_8_17 ok_76) (ol_8_17 ok_76) e3 ?_
    refine ws_iinc (v := 1) (l' := [(2, .int (x2 + 1)), (0, .ref 76), (1, .int x1)]) 2 (dcd d_m_go_1 21 rfl) rfl (by decide) (by decide) rfl ?_
    refine ws_goto (tgt := 70) (dcd d_m_go_1 22 rfl) (by decide) ?_
    exact ws_loc [1, 2, 0] rfl h
theorem sg_m_fromNow_0   (h : Ws G m_fromNow 2 [(0, .ref 76), (1, .int 0)] [] u Q) : Ws G m_fromNow 0 [(0, .ref 76)] [] u Q := by
  refine ws_iconst (v := 0) (dcd d_m_fromNow_0 0 rfl) (by decide) ?_
  refine ws_istore_n (l' := [(1, .int 0), (0, .ref 76)]) (dcd d_m_fromNow_0 1 rfl) (by decide) rfl ?_
  exact ws_loc [1, 0] rfl h
theorem sg_m_fromNow_2 {x1 : Int32}  (h : (((mI u 76 11) ≤ x1 → Q none u) ∧ (¬ ((mI u 76 11) ≤ x1) → (vp_in x1 7 ∧ (vp_in x1 7 ∧ Ws G m_fromNow 2 [(0, .ref 76), (1, .int (x1 + 1))] [] (pI u 85 (x1 : Int32).toNatClampNeg (mI u 84 (x1 : Int32).toNatClampNeg)) Q))))) : Ws G m_fromNow 2 [(0, .ref 76), (1, .int x1)] [] u Q := by
  refine ws_iload_n 1 (dcd d_m_fromNow_0 2 rfl) rfl ?_
  refine ws_aload_n 0 (dcd d_m_fromNow_0 3 rfl) rfl ?_
  refine ws_getI f_m_156 rfl (dcd d_m_fromNow_0 4 rfl) ok_76 ?_
  refine ws_icmp_ge (tgt := 28) (dcd d_m_fromNow_0 5 rfl) (by decide) (fun c1 => ?_) (fun c1 => ?_)
  · have h := h.1 c1
    exact ws_vret (dcd d_m_fromNow_0 16 rfl) rfl h
  · have h := h.2 c1
    refine ws_aload_n 0 (dcd d_m_fromNow_0 6 rfl) rfl ?_
    refine ws_getF (a := 85) f_m_38 rfl (dcd d_m_fromNow_0 7 rfl) ok_76 of_8_20 rfl ?_
    refine ws_iload_n 1 (dcd d_m_fromNow_0 8 rfl) rfl ?_
    refine ws_aload_n 0 (dcd d_m_fromNow_0 9 rfl) rfl ?_
    refine ws_getF (a := 84) f_m_35 rfl (dcd d_m_fromNow_0 10 rfl) ok_76 of_8_17 rfl ?_
    refine ws_iload_n 1 (dcd d_m_fromNow_0 11 rfl) rfl ?_
    obtain ⟨e2, h⟩ := h
    refine ws_iald (L := 7) (dcd d_m_fromNow_0 12 rfl) (os_8_17 ok_76) (ol_8_17 ok_76) e2 ?_
    obtain ⟨e3, h⟩ := h
    refine ws_iast (L := 7) (dcd d_m_fromNow_0 13 rfl) (os_8_20 ok_76) (ol_8_20 ok_76) e3 ?_
    refine ws_iinc (v := 1) (l' := [(1, .int (x1 + 1)), (0, .ref 76)]) 1 (dcd d_m_fromNow_0 14 rfl) rfl (by decide) (by decide) rfl ?_
    refine ws_goto (tgt := 2) (dcd d_m_fromNow_0 15 rfl) (by decide) ?_
    exact ws_loc [1, 0] rfl h
theorem sg_m_passOne_0 {x1 : Int32} {x2 : Int32}  (h : Ws G m_passOne 8 [(0, .ref 76), (1, .int x1), (3, .int 0), (4, .int x2), (5, .int 0)] [] u Q) : Ws G m_passOne 0 [(0, .ref 76), (1, .int x1), (2, .int x2)] [] u Q := by
  refine ws_iconst (v := 0) (dcd d_m_passOne_0 0 rfl) (by decide) ?_
  refine ws_istore_n (l' := [(3, .int 0), (0, .ref 76), (1, .int x1), (2, .int x2)]) (dcd d_m_passOne_0 1 rfl) (by decide) rfl ?_
  refine ws_iload_n 3 (dcd d_m_passOne_0 2 rfl) rfl ?_
  refine ws_istore (l' := [(4, .int x2), (3, .int 0), (0, .ref 76), (1, .int x1), (2, .int x2)]) (dcd d_m_passOne_0 3 rfl) (by decide) rfl ?_
  refine ws_iconst (v := 0) (dcd d_m_passOne_0 4 rfl) (by decide) ?_
  refine ws_istore (l' := [(5, .int 0), (4, .int x2), (3, .int 0), (0, .ref 76), (1, .int x1), (2, .int x2)]) (dcd d_m_passOne_0 5 rfl) (by decide) rfl ?_
  exact ws_loc [3, 4, 2, 1, 0] rfl h
theorem sg_m_passOne_8 {x1 : Int32} {x3 : Int32} {x4 : Int32} {x5 : Int32}  (h : (((mI u 76 11) ≤ x5 → Ws G m_passOne 40 [(0, .ref 76), (1, .int x1), (3, .int x3), (4, .int x4), (5, .int 0)] [] u Q) ∧ (¬ ((mI u 76 11) ≤ x5) → (vp_in x5 7 ∧ (vp_in x5 7 ∧ Ws G m_passOne 8 [(0, .ref 76), (1, .int x1), (3, .int x3), (4, .int x4), (5, .int (x5 + 1))] [] (pI u 86 (x5 : Int32).toNatClampNeg (mI u 85 (x5 : Int32).toNatClampNeg)) Q))))) : Ws G m_passOne 8 [(0, .ref 76), (1, .int x1), (3, .int x3), (4, .int x4), (5, .int x5)] [] u Q := by
  refine ws_iload 4 (dcd d_m_passOne_0 6 rfl) rfl ?_
  refine ws_aload_n 0 (dcd d_m_passOne_0 7 rfl) rfl ?_
  refine ws_getI f_m_156 rfl (dcd d_m_passOne_0 8 rfl) ok_76 ?_
  refine ws_icmp_ge (tgt := 37) (dcd d_m_passOne_0 9 rfl) (by decide) (fun c1 => ?_) (fun c1 => ?_)
  · have h := h.1 c1
    refine ws_iconst (v := 0) (dcd d_m_passOne_0 20 rfl) (by decide) ?_
    refine ws_istore (l' := [(5, .int 0), (0, .ref 76), (1, .int x1), (3, .int x3), (4, .int x4)]) (dcd d_m_passOne_0 21 rfl) (by decide) rfl ?_
    exact ws_loc [1, 2, 3, 4, 0] rfl h
  · have h := h.2 c1
    refine ws_aload_n 0 (dcd d_m_passOne_0 10 rfl) rfl ?_
    refine ws_getF (a := 86) f_m_41 rfl (dcd d_m_passOne_0 11 rfl) ok_76 of_8_21 rfl ?_
    refine ws_iload 4 (dcd d_m_passOne_0 12 rfl) rfl ?_
    refine ws_aload_n 0 (dcd d_m_passOne_0 13 rfl) rfl ?_
    refine ws_getF (a := 85) f_m_38 rfl (dcd d_m_passOne_0 14 rfl) ok_76 of_8_20 rfl ?_
    refine ws_iload 4 (dcd d_m_passOne_0 15 rfl) rfl ?_
    obtain ⟨e2, h⟩ := h
    refine ws_iald (L := 7) (dcd d_m_passOne_0 16 rfl) (os_8_20 ok_76) (ol_8_20 ok_76) e2 ?_
    obtain ⟨e3, h⟩ := h
    refine ws_iast (L := 7) (dcd d_m_passOne_0 17 rfl) (os_8_21 ok_76) (ol_8_21 ok_76) e3 ?_
    refine ws_iinc (v := 1) (l' := [(5, .int (x5 + 1)), (0, .ref 76), (1, .int x1), (3, .int x3), (4, .int x4)]) 4 (dcd d_m_passOne_0 18 rfl) rfl (by decide) (by decide) rfl ?_
    refine ws_goto (tgt := 8) (dcd d_m_passOne_0 19 rfl) (by decide) ?_
    exact ws_loc [1, 2, 3, 4, 0] rfl h
theorem sg_m_passOne_40 {x1 : Int32} {x3 : Int32} {x4 : Int32} {x5 : Int32}  (h : (((mI u 76 11) ≤ x5 → Q none u) ∧ (¬ ((mI u 76 11) ≤ x5) → Ws G m_taker 0 [(0, .ref 76), (1, .int x3)] [] u (RI fun a2 u2 => (vp_in (5 * a2 + 0) 70 ∧ (vp_in (5 * a2 + 2) 70 ∧ (vp_in (5 * a2 + 4) 70 ∧ ((3 ≤ (mI u2 83 ((5 * a2 + 0) : Int32).toNatClampNeg) → ¬ (mI u2 83 ((5 * a2 + 4) : Int32).toNatClampNeg) = 0) ∧ (vp_in a2 7 ∧ (¬ ((mI u2 76 10) : Int32).toInt64 = 0 ∧ Ws G m_passOne 82 [(0, .ref 76), (1, .int x1), (3, .int x3), (4, .int x4), (5, .int x5), (6, .int a2), (7, .int (goV (mI u2 83 ((5 * a2 + 0) : Int32).toNatClampNeg) (mI u2 83 ((5 * a2 + 2) : Int32).toNatClampNeg) (mI u2 83 ((5 * a2 + 4) : Int32).toNatClampNeg) x1)), (8, .int (dAt (mI u2 76 10) (((mI u2 86 (a2 : Int32).toNatClampNeg) + (goV (mI u2 83 ((5 * a2 + 0) : Int32).toNatClampNeg) (mI u2 83 ((5 * a2 + 2) : Int32).toNatClampNeg) (mI u2 83 ((5 * a2 + 4) : Int32).toNatClampNeg) x1)) : Int32).toInt64))] [] u2 Q)))))))))) : Ws G m_passOne 40 [(0, .ref 76), (1, .int x1), (3, .int x3), (4, .int x4), (5, .int x5)] [] u Q := by
  refine ws_iload 4 (dcd d_m_passOne_0 22 rfl) rfl ?_
  refine ws_aload_n 0 (dcd d_m_passOne_0 23 rfl) rfl ?_
  refine ws_getI f_m_156 rfl (dcd d_m_passOne_0 24 rfl) ok_76 ?_
  refine ws_icmp_ge (tgt := 147) (dcd d_m_passOne_0 25 rfl) (by decide) (fun c1 => ?_) (fun c1 => ?_)
  · have h := h.1 c1
    exact ws_vret (dcd d_m_passOne_2 23 rfl) rfl h
  · have h := h.2 c1
    refine ws_aload_n 0 (dcd d_m_passOne_0 26 rfl) rfl ?_
    refine ws_iload_n 2 (dcd d_m_passOne_0 27 rfl) rfl ?_
    refine ws_callVI (o := 76) (As := [.int x3]) (st := []) (la := [(0, .ref 76), (1, .int x3)]) (dcd d_m_passOne_0 28 rfl) cv_m_taker k_m_201 ⟨by decide, by decide⟩ ok_76 rfl (Nat.le_of_ble_eq_true rfl) (Nat.le_of_ble_eq_true rfl) rfl rfl h (fun a2 u2 h => ?_)
    refine ws_istore (l' := [(6, .int a2), (0, .ref 76), (1, .int x1), (3, .int x3), (4, .int x4), (5, .int x5)]) (dcd d_m_passOne_0 29 rfl) (by decide) rfl ?_
    refine ws_aload_n 1 (dcd d_m_passOne_1 0 rfl) rfl ?_
    refine ws_iload 0 (dcd d_m_passOne_1 1 rfl) rfl ?_
    refine ws_iload_n 2 (dcd d_m_passOne_1 2 rfl) rfl ?_
    obtain ⟨e3, h⟩ := h
    obtain ⟨e4, h⟩ := h
    obtain ⟨e5, h⟩ := h
    obtain ⟨e6, h⟩ := h
    refine ws_callVI (o := 76) (As := [.int a2, .int x1]) (st := []) (la := [(0, .ref 76), (1, .int a2), (2, .int x1)]) (dcd d_m_passOne_1 3 rfl) cv_m_going k_m_191 ⟨by decide, by decide⟩ ok_76 rfl (Nat.le_of_ble_eq_true rfl) (Nat.le_of_ble_eq_true rfl) rfl rfl (sp_m_going e3 e4 e5 e6) ?_
    rintro _ _ ⟨rfl, rfl⟩
    refine ws_istore (l' := [(7, .int (goV (mI u2 83 ((5 * a2 + 0) : Int32).toNatClampNeg) (mI u2 83 ((5 * a2 + 2) : Int32).toNatClampNeg) (mI u2 83 ((5 * a2 + 4) : Int32).toNatClampNeg) x1)), (6, .int a2), (0, .ref 76), (1, .int x1), (3, .int x3), (4, .int x4), (5, .int x5)]) (dcd d_m_passOne_1 4 rfl) (by decide) rfl ?_
    refine ws_aload_n 2 (dcd d_m_passOne_1 5 rfl) rfl ?_
    refine ws_aload_n 2 (dcd d_m_passOne_1 6 rfl) rfl ?_
    refine ws_getF (a := 86) f_m_41 rfl (dcd d_m_passOne_1 7 rfl) ok_76 of_8_21 rfl ?_
    refine ws_iload 1 (dcd d_m_passOne_1 8 rfl) rfl ?_
    obtain ⟨e7, h⟩ := h
    refine ws_iald (L := 7) (dcd d_m_passOne_1 9 rfl) (os_8_21 ok_76) (ol_8_21 ok_76) e7 ?_
    refine ws_iload 0 (dcd d_m_passOne_1 10 rfl) rfl ?_
    refine ws_iadd (dcd d_m_passOne_1 11 rfl) ?_
    refine ws_i2l (dcd d_m_passOne_1 12 rfl) ?_
    obtain ⟨e8, h⟩ := h
    refine ws_callVI (o := 76) (As := [.long (((mI u2 86 (a2 : Int32).toNatClampNeg) + (goV (mI u2 83 ((5 * a2 + 0) : Int32).toNatClampNeg) (mI u2 83 ((5 * a2 + 2) : Int32).toNatClampNeg) (mI u2 83 ((5 * a2 + 4) : Int32).toNatClampNeg) x1)) : Int32).toInt64]) (st := []) (la := [(0, .ref 76), (1, .long (((mI u2 86 (a2 : Int32).toNatClampNeg) + (goV (mI u2 83 ((5 * a2 + 0) : Int32).toNatClampNeg) (mI u2 83 ((5 * a2 + 2) : Int32).toNatClampNeg) (mI u2 83 ((5 * a2 + 4) : Int32).toNatClampNeg) x1)) : Int32).toInt64)]) (dcd d_m_passOne_1 13 rfl) cv_m_doorAt k_m_181 ⟨by decide, by decide⟩ ok_76 rfl (Nat.le_of_ble_eq_true rfl) (Nat.le_of_ble_eq_true rfl) rfl rfl (sp_m_doorAt e8) ?_
    rintro _ _ ⟨rfl, rfl⟩
    refine ws_istore (l' := [(8, .int (dAt (mI u2 76 10) (((mI u2 86 (a2 : Int32).toNatClampNeg) + (goV (mI u2 83 ((5 * a2 + 0) : Int32).toNatClampNeg) (mI u2 83 ((5 * a2 + 2) : Int32).toNatClampNeg) (mI u2 83 ((5 * a2 + 4) : Int32).toNatClampNeg) x1)) : Int32).toInt64)), (7, .int (goV (mI u2 83 ((5 * a2 + 0) : Int32).toNatClampNeg) (mI u2 83 ((5 * a2 + 2) : Int32).toNatClampNeg) (mI u2 83 ((5 * a2 + 4) : Int32).toNatClampNeg) x1)), (6, .int a2), (0, .ref 76), (1, .int x1), (3, .int x3), (4, .int x4), (5, .int x5)]) (dcd d_m_passOne_1 14 rfl) (by decide) rfl ?_
    exact ws_loc [3, 4, 5, 6, 7, 2, 1, 0] rfl h
theorem sg_m_passOne_82 {x1 : Int32} {x3 : Int32} {x4 : Int32} {x5 : Int32} {x6 : Int32} {x7 : Int32} {x8 : Int32}  (h : ((¬ ((x4 >>> (x8 &&& 31)) &&& 1) = 1 → (vp_in x6 7 ∧ Ws G m_passOne 40 [(0, .ref 76), (1, .int x1), (3, .int (x3 ||| (1 <<< (x6 &&& 31)))), (4, .int (x4 ||| (1 <<< (x8 &&& 31)))), (5, .int (x5 + 1))] [] (pI u 85 (x6 : Int32).toNatClampNeg x8) Q)) ∧ (((x4 >>> (x8 &&& 31)) &&& 1) = 1 → ((0 ≤ x7 → (¬ ((mI u 76 10) : Int32).toInt64 = 0 ∧ Ws G m_passOne 82 [(0, .ref 76), (1, .int x1), (3, .int x3), (4, .int x4), (5, .int x5), (6, .int x6), (7, .int x7), (8, .int (dAt (mI u 76 10) ((x8 + 1) : Int32).toInt64))] [] u Q)) ∧ (¬ (0 ≤ x7) → (¬ ((mI u 76 10) : Int32).toInt64 = 0 ∧ Ws G m_passOne 82 [(0, .ref 76), (1, .int x1), (3, .int x3), (4, .int x4), (5, .int x5), (6, .int x6), (7, .int x7), (8, .int (dAt (mI u 76 10) ((x8 + (-1)) : Int32).toInt64))] [] u Q)))))) : Ws G m_passOne 82 [(0, .ref 76), (1, .int x1), (3, .int x3), (4, .int x4), (5, .int x5), (6, .int x6), (7, .int x7), (8, .int x8)] [] u Q := by
  refine ws_iload 3 (dcd d_m_passOne_1 15 rfl) rfl ?_
  refine ws_iload 7 (dcd d_m_passOne_1 16 rfl) rfl ?_
  refine ws_ishr (dcd d_m_passOne_1 17 rfl) ?_
  refine ws_iconst (v := 1) (dcd d_m_passOne_1 18 rfl) (by decide) ?_
  refine ws_iand (dcd d_m_passOne_1 19 rfl) ?_
  refine ws_iconst (v := 1) (dcd d_m_passOne_1 20 rfl) (by decide) ?_
  refine ws_icmp_ne (tgt := 116) (dcd d_m_passOne_1 21 rfl) (by decide) (fun c1 => ?_) (fun c1 => ?_)
  · have h := h.1 c1
    refine ws_aload_n 0 (dcd d_m_passOne_2 4 rfl) rfl ?_
    refine ws_getF (a := 85) f_m_38 rfl (dcd d_m_passOne_2 5 rfl) ok_76 of_8_20 rfl ?_
    refine ws_iload 5 (dcd d_m_passOne_2 6 rfl) rfl ?_
    refine ws_iload 7 (dcd d_m_passOne_2 7 rfl) rfl ?_
    obtain ⟨e2, h⟩ := h
    refine ws_iast (L := 7) (dcd d_m_passOne_2 8 rfl) (os_8_20 ok_76) (ol_8_20 ok_76) e2 ?_
    refine ws_iload 3 (dcd d_m_passOne_2 9 rfl) rfl ?_
    refine ws_iconst (v := 1) (dcd d_m_passOne_2 10 rfl) (by decide) ?_
    refine ws_iload 7 (dcd d_m_passOne_2 11 rfl) rfl ?_
    refine ws_ishl (dcd d_m_passOne_2 12 rfl) ?_
    refine ws_ior (dcd d_m_passOne_2 13 rfl) ?_
    refine ws_istore (l' := [(4, .int (x4 ||| (1 <<< (x8 &&& 31)))), (0, .ref 76), (1, .int x1), (3, .int x3), (5, .int x5), (6, .int x6), (7, .int x7), (8, .int x8)]) (dcd d_m_passOne_2 14 rfl) (by decide) rfl ?_
    refine ws_iload_n 3 (dcd d_m_passOne_2 15 rfl) rfl ?_
    refine ws_iconst (v := 1) (dcd d_m_passOne_2 16 rfl) (by decide) ?_
    refine ws_iload 5 (dcd d_m_passOne_2 17 rfl) rfl ?_
    refine ws_ishl (dcd d_m_passOne_2 18 rfl) ?_
    refine ws_ior (dcd d_m_passOne_2 19 rfl) ?_
    refine ws_istore_n (l' := [(3, .int (x3 ||| (1 <<< (x6 &&& 31)))), (4, .int (x4 ||| (1 <<< (x8 &&& 31)))), (0, .ref 76), (1, .int x1), (5, .int x5), (6, .int x6), (7, .int x7), (8, .int x8)]) (dcd d_m_passOne_2 20 rfl) (by decide) rfl ?_
    refine ws_iinc (v := 1) (l' := [(5, .int (x5 + 1)), (3, .int (x3 ||| (1 <<< (x6 &&& 31)))), (4, .int (x4 ||| (1 <<< (x8 &&& 31)))), (0, .ref 76), (1, .int x1), (6, .int x6), (7, .int x7), (8, .int x8)]) 4 (dcd d_m_passOne_2 21 rfl) rfl (by decide) (by decide) rfl ?_
    refine ws_goto (tgt := 40) (dcd d_m_passOne_2 22 rfl) (by decide) ?_
    exact ws_loc [3, 4, 1, 2, 0] rfl h
  · have h := h.2 c1
    refine ws_aload_n 0 (dcd d_m_passOne_1 22 rfl) rfl ?_
    refine ws_iload 7 (dcd d_m_passOne_1 23 rfl) rfl ?_
    refine ws_iload 6 (dcd d_m_passOne_1 24 rfl) rfl ?_
    refine ws_if_ge (tgt := 105) (dcd d_m_passOne_1 25 rfl) (by decide) (fun c3 => ?_) (fun c3 => ?_)
    · have h := h.1 c3
      refine ws_iconst (v := 1) (dcd d_m_passOne_1 28 rfl) (by decide) ?_
      refine ws_iadd (dcd d_m_passOne_1 29 rfl) ?_
      refine ws_i2l (dcd d_m_passOne_2 0 rfl) ?_
      obtain ⟨e4, h⟩ := h
      refine ws_callVI (o := 76) (As := [.long ((x8 + 1) : Int32).toInt64]) (st := []) (la := [(0, .ref 76), (1, .long ((x8 + 1) : Int32).toInt64)]) (dcd d_m_passOne_2 1 rfl) cv_m_doorAt k_m_181 ⟨by decide, by decide⟩ ok_76 rfl (Nat.le_of_ble_eq_true rfl) (Nat.le_of_ble_eq_true rfl) rfl rfl (sp_m_doorAt e4) ?_
      rintro _ _ ⟨rfl, rfl⟩
      refine ws_istore (l' := [(8, .int (dAt (mI u 76 10) ((x8 + 1) : Int32).toInt64)), (0, .ref 76), (1, .int x1), (3, .int x3), (4, .int x4), (5, .int x5), (6, .int x6), (7, .int x7)]) (dcd d_m_passOne_2 2 rfl) (by decide) rfl ?_
      refine ws_goto (tgt := 82) (dcd d_m_passOne_2 3 rfl) (by decide) ?_
      exact ws_loc [1, 2, 3, 4, 5, 6, 7, 0] rfl h
    · have h := h.2 c3
      refine ws_iconst (v := (-1)) (dcd d_m_passOne_1 26 rfl) (by decide) ?_
      refine ws_goto (tgt := 106) (dcd d_m_passOne_1 27 rfl) (by decide) ?_
      refine ws_iadd (dcd d_m_passOne_1 29 rfl) ?_
      refine ws_i2l (dcd d_m_passOne_2 0 rfl) ?_
      obtain ⟨e5, h⟩ := h
      refine ws_callVI (o := 76) (As := [.long ((x8 + (-1)) : Int32).toInt64]) (st := []) (la := [(0, .ref 76), (1, .long ((x8 + (-1)) : Int32).toInt64)]) (dcd d_m_passOne_2 1 rfl) cv_m_doorAt k_m_181 ⟨by decide, by decide⟩ ok_76 rfl (Nat.le_of_ble_eq_true rfl) (Nat.le_of_ble_eq_true rfl) rfl rfl (sp_m_doorAt e5) ?_
      rintro _ _ ⟨rfl, rfl⟩
      refine ws_istore (l' := [(8, .int (dAt (mI u 76 10) ((x8 + (-1)) : Int32).toInt64)), (0, .ref 76), (1, .int x1), (3, .int x3), (4, .int x4), (5, .int x5), (6, .int x6), (7, .int x7)]) (dcd d_m_passOne_2 2 rfl) (by decide) rfl ?_
      refine ws_goto (tgt := 82) (dcd d_m_passOne_2 3 rfl) (by decide) ?_
      exact ws_loc [1, 2, 3, 4, 5, 6, 7, 0] rfl h
theorem sg_m_taker_0 {x1 : Int32}  (h : Ws G m_taker 5 [(0, .ref 76), (1, .int x1), (2, .int (-9)), (3, .int 0)] [] u Q) : Ws G m_taker 0 [(0, .ref 76), (1, .int x1)] [] u Q := by
  refine ws_bipush (v := (-9)) (dcd d_m_taker_0 0 rfl) (by decide) ?_
  refine ws_istore_n (l' := [(2, .int (-9)), (0, .ref 76), (1, .int x1)]) (dcd d_m_taker_0 1 rfl) (by decide) rfl ?_
  refine ws_iconst (v := 0) (dcd d_m_taker_0 2 rfl) (by decide) ?_
  refine ws_istore_n (l' := [(3, .int 0), (2, .int (-9)), (0, .ref 76), (1, .int x1)]) (dcd d_m_taker_0 3 rfl) (by decide) rfl ?_
  exact ws_loc [2, 3, 1, 0] rfl h
theorem sg_m_taker_5 {x1 : Int32} {x2 : Int32} {x3 : Int32}  (h : (((mI u 76 11) ≤ x3 → Q (some (.int x2)) u) ∧ (¬ ((mI u 76 11) ≤ x3) → ((¬ ((x1 >>> (x3 &&& 31)) &&& 1) = 0 → Ws G m_taker 5 [(0, .ref 76), (1, .int x1), (2, .int x2), (3, .int (x3 + 1))] [] u Q) ∧ (((x1 >>> (x3 &&& 31)) &&& 1) = 0 → (vp_in (5 * x3 + 0) 70 ∧ ((¬ (mI u 83 ((5 * x3 + 0) : Int32).toNatClampNeg) = 2 → (vp_in (5 * x3 + 3) 70 ∧ ((x2 = (-9) → Ws G m_taker 5 [(0, .ref 76), (1, .int x1), (2, .int x3), (3, .int (x3 + 1))] [] u Q) ∧ (¬ x2 = (-9) → (vp_in (5 * x2 + 0) 70 ∧ ((¬ (mI u 83 ((5 * x2 + 0) : Int32).toNatClampNeg) = 2 → (vp_in (5 * x2 + 3) 70 ∧ (((1000 + (mI u 83 ((5 * x3 + 3) : Int32).toNatClampNeg)) ≤ (1000 + (mI u 83 ((5 * x2 + 3) : Int32).toNatClampNeg)) → Ws G m_taker 5 [(0, .ref 76), (1, .int x1), (2, .int x2), (3, .int (x3 + 1))] [] u Q) ∧ (¬ ((1000 + (mI u 83 ((5 * x3 + 3) : Int32).toNatClampNeg)) ≤ (1000 + (mI u 83 ((5 * x2 + 3) : Int32).toNatClampNeg))) → Ws G m_taker 5 [(0, .ref 76), (1, .int x1), (2, .int x3), (3, .int (x3 + 1))] [] u Q)))) ∧ ((mI u 83 ((5 * x2 + 0) : Int32).toNatClampNeg) = 2 → (vp_in (5 * x2 + 3) 70 ∧ (((1000 + (mI u 83 ((5 * x3 + 3) : Int32).toNatClampNeg)) ≤ (0 + (mI u 83 ((5 * x2 + 3) : Int32).toNatClampNeg)) → Ws G m_taker 5 [(0, .ref 76), (1, .int x1), (2, .int x2), (3, .int (x3 + 1))] [] u Q) ∧ (¬ ((1000 + (mI u 83 ((5 * x3 + 3) : Int32).toNatClampNeg)) ≤ (0 + (mI u 83 ((5 * x2 + 3) : Int32).toNatClampNeg))) → Ws G m_taker 5 [(0, .ref 76), (1, .int x1), (2, .int x3), (3, .int (x3 + 1))] [] u Q)))))))))) ∧ ((mI u 83 ((5 * x3 + 0) : Int32).toNatClampNeg) = 2 → (vp_in (5 * x3 + 3) 70 ∧ ((x2 = (-9) → Ws G m_taker 5 [(0, .ref 76), (1, .int x1), (2, .int x3), (3, .int (x3 + 1))] [] u Q) ∧ (¬ x2 = (-9) → (vp_in (5 * x2 + 0) 70 ∧ ((¬ (mI u 83 ((5 * x2 + 0) : Int32).toNatClampNeg) = 2 → (vp_in (5 * x2 + 3) 70 ∧ (((0 + (mI u 83 ((5 * x3 + 3) : Int32).toNatClampNeg)) ≤ (1000 + (mI u 83 ((5 * x2 + 3) : Int32).toNatClampNeg)) → Ws G m_taker 5 [(0, .ref 76), (1, .int x1), (2, .int x2), (3, .int (x3 + 1))] [] u Q) ∧ (¬ ((0 + (mI u 83 ((5 * x3 + 3) : Int32).toNatClampNeg)) ≤ (1000 + (mI u 83 ((5 * x2 + 3) : Int32).toNatClampNeg))) → Ws G m_taker 5 [(0, .ref 76), (1, .int x1), (2, .int x3), (3, .int (x3 + 1))] [] u Q)))) ∧ ((mI u 83 ((5 * x2 + 0) : Int32).toNatClampNeg) = 2 → (vp_in (5 * x2 + 3) 70 ∧ (((0 + (mI u 83 ((5 * x3 + 3) : Int32).toNatClampNeg)) ≤ (0 + (mI u 83 ((5 * x2 + 3) : Int32).toNatClampNeg)) → Ws G m_taker 5 [(0, .ref 76), (1, .int x1), (2, .int x2), (3, .int (x3 + 1))] [] u Q) ∧ (¬ ((0 + (mI u 83 ((5 * x3 + 3) : Int32).toNatClampNeg)) ≤ (0 + (mI u 83 ((5 * x2 + 3) : Int32).toNatClampNeg))) → Ws G m_taker 5 [(0, .ref 76), (1, .int x1), (2, .int x3), (3, .int (x3 + 1))] [] u Q))))))))))))))))) : Ws G m_taker 5 [(0, .ref 76), (1, .int x1), (2, .int x2), (3, .int x3)] [] u Q := by
  refine ws_iload_n 3 (dcd d_m_taker_0 4 rfl) rfl ?_
  refine ws_aload_n 0 (dcd d_m_taker_0 5 rfl) rfl ?_
  refine ws_getI f_m_156 rfl (dcd d_m_taker_0 6 rfl) ok_76 ?_
  refine ws_icmp_ge (tgt := 106) (dcd d_m_taker_0 7 rfl) (by decide) (fun c1 => ?_) (fun c1 => ?_)
  · have h := h.1 c1
    refine ws_iload_n 2 (dcd d_m_taker_2 0 rfl) rfl ?_
    exact ws_iret (dcd d_m_taker_2 1 rfl) ⟨_, rfl, rfl⟩ h
  · have h := h.2 c1
    refine ws_iload_n 1 (dcd d_m_taker_0 8 rfl) rfl ?_
    refine ws_iload_n 3 (dcd d_m_taker_0 9 rfl) rfl ?_
    refine ws_ishr (dcd d_m_taker_0 10 rfl) ?_
    refine ws_iconst (v := 1) (dcd d_m_taker_0 11 rfl) (by decide) ?_
    refine ws_iand (dcd d_m_taker_0 12 rfl) ?_
    refine ws_if_ne (tgt := 100) (dcd d_m_taker_0 13 rfl) (by decide) (fun c2 => ?_) (fun c2 => ?_)
    · have h := h.1 c2
      refine ws_iinc (v := 1) (l' := [(3, .int (x3 + 1)), (0, .ref 76), (1, .int x1), (2, .int x2)]) 3 (dcd d_m_taker_1 28 rfl) rfl (by decide) (by decide) rfl ?_
      refine ws_goto (tgt := 5) (dcd d_m_taker_1 29 rfl) (by decide) ?_
      exact ws_loc [1, 2, 3, 0] rfl h
    · have h := h.2 c2
      refine ws_aload_n 0 (dcd d_m_taker_0 14 rfl) rfl ?_
      refine ws_iload_n 3 (dcd d_m_taker_0 15 rfl) rfl ?_
      refine ws_iconst (v := 0) (dcd d_m_taker_0 16 rfl) (by decide) ?_
      obtain ⟨e3, h⟩ := h
      refine ws_callVI (o := 76) (As := [.int x3, .int 0]) (st := []) (la := [(0, .ref 76), (1, .int x3), (2, .int 0)]) (dcd d_m_taker_0 17 rfl) cv_m_tell k_m_159 ⟨by decide, by decide⟩ ok_76 rfl (Nat.le_of_ble_eq_true rfl) (Nat.le_of_ble_eq_true rfl) rfl rfl (sp_m_tell e3) ?_
      rintro _ _ ⟨rfl, rfl⟩
      refine ws_iconst (v := 2) (dcd d_m_taker_0 18 rfl) (by decide) ?_
      refine ws_icmp_ne (tgt := 35) (dcd d_m_taker_0 19 rfl) (by decide) (fun c4 => ?_) (fun c4 => ?_)
      · have h := h.1 c4
        refine ws_sipush (v := 1000) (dcd d_m_taker_0 22 rfl) (by decide) ?_
        refine ws_aload_n 0 (dcd d_m_taker_0 23 rfl) rfl ?_
        refine ws_iload_n 3 (dcd d_m_taker_0 24 rfl) rfl ?_
        refine ws_iconst (v := 3) (dcd d_m_taker_0 25 rfl) (by decide) ?_
        obtain ⟨e5, h⟩ := h
        refine ws_callVI (o := 76) (As := [.int x3, .int 3]) (st := [.int 1000]) (la := [(0, .ref 76), (1, .int x3), (2, .int 3)]) (dcd d_m_taker_0 26 rfl) cv_m_tell k_m_159 ⟨by decide, by decide⟩ ok_76 rfl (Nat.le_of_ble_eq_true rfl) (Nat.le_of_ble_eq_true rfl) rfl rfl (sp_m_tell e5) ?_
        rintro _ _ ⟨rfl, rfl⟩
        refine ws_iadd (dcd d_m_taker_0 27 rfl) ?_
        refine ws_istore (l' := [(4, .int (1000 + (mI u 83 ((5 * x3 + 3) : Int32).toNatClampNeg))), (0, .ref 76), (1, .int x1), (2, .int x2), (3, .int x3)]) (dcd d_m_taker_0 28 rfl) (by decide) rfl ?_
        refine ws_iload_n 3 (dcd d_m_taker_0 29 rfl) rfl ?_
        refine ws_bipush (v := (-9)) (dcd d_m_taker_1 0 rfl) (by decide) ?_
        refine ws_icmp_eq (tgt := 82) (dcd d_m_taker_1 1 rfl) (by decide) (fun c6 => ?_) (fun c6 => ?_)
        · have h := h.1 c6
          refine ws_iconst (v := 1) (dcd d_m_taker_1 18 rfl) (by decide) ?_
          refine ws_goto (tgt := 87) (dcd d_m_taker_1 19 rfl) (by decide) ?_
          refine ws_istore (l' := [(5, .int 1), (4, .int (1000 + (mI u 83 ((5 * x3 + 3) : Int32).toNatClampNeg))), (0, .ref 76), (1, .int x1), (2, .int x2), (3, .int x3)]) (dcd d_m_taker_1 21 rfl) (by decide) rfl ?_
          refine ws_iload 0 (dcd d_m_taker_1 22 rfl) rfl ?_
          refine ws_if_eq (tgt := 98) (dcd d_m_taker_1 23 rfl) (by decide) (fun c => absurd c (by decide)) (fun _ => ?_)
          refine ws_iload_n 5 (dcd d_m_taker_1 24 rfl) rfl ?_
          refine ws_goto (tgt := 99) (dcd d_m_taker_1 25 rfl) (by decide) ?_
          refine ws_istore_n (l' := [(2, .int x3), (5, .int 1), (4, .int (1000 + (mI u 83 ((5 * x3 + 3) : Int32).toNatClampNeg))), (0, .ref 76), (1, .int x1), (3, .int x3)]) (dcd d_m_taker_1 27 rfl) (by decide) rfl ?_
          refine ws_iinc (v := 1) (l' := [(3, .int (x3 + 1)), (2, .int x3), (5, .int 1), (4, .int (1000 + (mI u 83 ((5 * x3 + 3) : Int32).toNatClampNeg))), (0, .ref 76), (1, .int x1)]) 5 (dcd d_m_taker_1 28 rfl) rfl (by decide) (by decide) rfl ?_
          refine ws_goto (tgt := 5) (dcd d_m_taker_1 29 rfl) (by decide) ?_
          exact ws_loc [4, 5, 1, 0] rfl h
        · have h := h.2 c6
          refine ws_iload 0 (dcd d_m_taker_1 2 rfl) rfl ?_
          refine ws_aload_n 1 (dcd d_m_taker_1 3 rfl) rfl ?_
          refine ws_iload_n 3 (dcd d_m_taker_1 4 rfl) rfl ?_
          refine ws_iconst (v := 0) (dcd d_m_taker_1 5 rfl) (by decide) ?_
          obtain ⟨e8, h⟩ := h
          refine ws_callVI (o := 76) (As := [.int x2, .int 0]) (st := [.int (1000 + (mI u 83 ((5 * x3 + 3) : Int32).toNatClampNeg))]) (la := [(0, .ref 76), (1, .int x2), (2, .int 0)]) (dcd d_m_taker_1 6 rfl) cv_m_tell k_m_159 ⟨by decide, by decide⟩ ok_76 rfl (Nat.le_of_ble_eq_true rfl) (Nat.le_of_ble_eq_true rfl) rfl rfl (sp_m_tell e8) ?_
          rintro _ _ ⟨rfl, rfl⟩
          refine ws_iconst (v := 2) (dcd d_m_taker_1 7 rfl) (by decide) ?_
          refine ws_icmp_ne (tgt := 69) (dcd d_m_taker_1 8 rfl) (by decide) (fun c9 => ?_) (fun c9 => ?_)
          · have h := h.1 c9
            refine ws_sipush (v := 1000) (dcd d_m_taker_1 11 rfl) (by decide) ?_
            refine ws_aload_n 1 (dcd d_m_taker_1 12 rfl) rfl ?_
            refine ws_iload_n 3 (dcd d_m_taker_1 13 rfl) rfl ?_
            refine ws_iconst (v := 3) (dcd d_m_taker_1 14 rfl) (by decide) ?_
            obtain ⟨e10, h⟩ := h
            refine ws_callVI (o := 76) (As := [.int x2, .int 3]) (st := [.int 1000, .int (1000 + (mI u 83 ((5 * x3 + 3) : Int32).toNatClampNeg))]) (la := [(0, .ref 76), (1, .int x2), (2, .int 3)]) (dcd d_m_taker_1 15 rfl) cv_m_tell k_m_159 ⟨by decide, by decide⟩ ok_76 rfl (Nat.le_of_ble_eq_true rfl) (Nat.le_of_ble_eq_true rfl) rfl rfl (sp_m_tell e10) ?_
            rintro _ _ ⟨rfl, rfl⟩
            refine ws_iadd (dcd d_m_taker_1 16 rfl) ?_
            refine ws_icmp_le (tgt := 86) (dcd d_m_taker_1 17 rfl) (by decide) (fun c11 => ?_) (fun c11 => ?_)
            · have h := h.1 c11
              refine ws_iconst (v := 0) (dcd d_m_taker_1 20 rfl) (by decide) ?_
              refine ws_istore (l' := [(5, .int 0), (4, .int (1000 + (mI u 83 ((5 * x3 + 3) : Int32).toNatClampNeg))), (0, .ref 76), (1, .int x1), (2, .int x2), (3, .int x3)]) (dcd d_m_taker_1 21 rfl) (by decide) rfl ?_
              refine ws_iload 0 (dcd d_m_taker_1 22 rfl) rfl ?_
              refine ws_if_eq (tgt := 98) (dcd d_m_taker_1 23 rfl) (by decide) (fun _ => ?_) (fun c => absurd (show (0 : Int32) = 0 from by decide) c)
              refine ws_iload_n 4 (dcd d_m_taker_1 26 rfl) rfl ?_
              refine ws_istore_n (l' := [(2, .int x2), (5, .int 0), (4, .int (1000 + (mI u 83 ((5 * x3 + 3) : Int32).toNatClampNeg))), (0, .ref 76), (1, .int x1), (3, .int x3)]) (dcd d_m_taker_1 27 rfl) (by decide) rfl ?_
              refine ws_iinc (v := 1) (l' := [(3, .int (x3 + 1)), (2, .int x2), (5, .int 0), (4, .int (1000 + (mI u 83 ((5 * x3 + 3) : Int32).toNatClampNeg))), (0, .ref 76), (1, .int x1)]) 5 (dcd d_m_taker_1 28 rfl) rfl (by decide) (by decide) rfl ?_
              refine ws_goto (tgt := 5) (dcd d_m_taker_1 29 rfl) (by decide) ?_
              exact ws_loc [4, 5, 1, 0] rfl h
            · have h := h.2 c11
              refine ws_iconst (v := 1) (dcd d_m_taker_1 18 rfl) (by decide) ?_
              refine ws_goto (tgt := 87) (dcd d_m_taker_1 19 rfl) (by decide) ?_
              refine ws_istore (l' := [(5, .int 1), (4, .int (1000 + (mI u 83 ((5 * x3 + 3) : Int32).toNatClampNeg))), (0, .ref 76), (1, .int x1), (2, .int x2), (3, .int x3)]) (dcd d_m_taker_1 21 rfl) (by decide) rfl ?_
              refine ws_iload 0 (dcd d_m_taker_1 22 rfl) rfl ?_
              refine ws_if_eq (tgt := 98) (dcd d_m_taker_1 23 rfl) (by decide) (fun c => absurd c (by decide)) (fun _ => ?_)
              refine ws_iload_n 5 (dcd d_m_taker_1 24 rfl) rfl ?_
              refine ws_goto (tgt := 99) (dcd d_m_taker_1 25 rfl) (by decide) ?_
              refine ws_istore_n (l' := [(2, .int x3), (5, .int 1), (4, .int (1000 + (mI u 83 ((5 * x3 + 3) : Int32).toNatClampNeg))), (0, .ref 76), (1, .int x1), (3, .int x3)]) (dcd d_m_taker_1 27 rfl) (by decide) rfl ?_
              refine ws_iinc (v := 1) (l' := [(3, .int (x3 + 1)), (2, .int x3), (5, .int 1), (4, .int (1000 + (mI u 83 ((5 * x3 + 3) : Int32).toNatClampNeg))), (0, .ref 76), (1, .int x1)]) 5 (dcd d_m_taker_1 28 rfl) rfl (by decide) (by decide) rfl ?_
              refine ws_goto (tgt := 5) (dcd d_m_taker_1 29 rfl) (by decide) ?_
              exact ws_loc [4, 5, 1, 0] rfl h
          · have h := h.2 c9
            refine ws_iconst (v := 0) (dcd d_m_taker_1 9 rfl) (by decide) ?_
            refine ws_goto (tgt := 72) (dcd d_m_taker_1 10 rfl) (by decide) ?_
            refine ws_aload_n 1 (dcd d_m_taker_1 12 rfl) rfl ?_
            refine ws_iload_n 3 (dcd d_m_taker_1 13 rfl) rfl ?_
            refine ws_iconst (v := 3) (dcd d_m_taker_1 14 rfl) (by decide) ?_
            obtain ⟨e14, h⟩ := h
            refine ws_callVI (o := 76) (As := [.int x2, .int 3]) (st := [.int 0, .int (1000 + (mI u 83 ((5 * x3 + 3) : Int32).toNatClampNeg))]) (la := [(0, .ref 76), (1, .int x2), (2, .int 3)]) (dcd d_m_taker_1 15 rfl) cv_m_tell k_m_159 ⟨by decide, by decide⟩ ok_76 rfl (Nat.le_of_ble_eq_true rfl) (Nat.le_of_ble_eq_true rfl) rfl rfl (sp_m_tell e14) ?_
            rintro _ _ ⟨rfl, rfl⟩
            refine ws_iadd (dcd d_m_taker_1 16 rfl) ?_
            refine ws_icmp_le (tgt := 86) (dcd d_m_taker_1 17 rfl) (by decide) (fun c15 => ?_) (fun c15 => ?_)
            · have h := h.1 c15
              refine ws_iconst (v := 0) (dcd d_m_taker_1 20 rfl) (by decide) ?_
              refine ws_istore (l' := [(5, .int 0), (4, .int (1000 + (mI u 83 ((5 * x3 + 3) : Int32).toNatClampNeg))), (0, .ref 76), (1, .int x1), (2, .int x2), (3, .int x3)]) (dcd d_m_taker_1 21 rfl) (by decide) rfl ?_
              refine ws_iload 0 (dcd d_m_taker_1 22 rfl) rfl ?_
              refine ws_if_eq (tgt := 98) (dcd d_m_taker_1 23 rfl) (by decide) (fun _ => ?_) (fun c => absurd (show (0 : Int32) = 0 from by decide) c)
              refine ws_iload_n 4 (dcd d_m_taker_1 26 rfl) rfl ?_
              refine ws_istore_n (l' := [(2, .int x2), (5, .int 0), (4, .int (1000 + (mI u 83 ((5 * x3 + 3) : Int32).toNatClampNeg))), (0, .ref 76), (1, .int x1), (3, .int x3)]) (dcd d_m_taker_1 27 rfl) (by decide) rfl ?_
              refine ws_iinc (v := 1) (l' := [(3, .int (x3 + 1)), (2, .int x2), (5, .int 0), (4, .int (1000 + (mI u 83 ((5 * x3 + 3) : Int32).toNatClampNeg))), (0, .ref 76), (1, .int x1)]) 5 (dcd d_m_taker_1 28 rfl) rfl (by decide) (by decide) rfl ?_
              refine ws_goto (tgt := 5) (dcd d_m_taker_1 29 rfl) (by decide) ?_
              exact ws_loc [4, 5, 1, 0] rfl h
            · have h := h.2 c15
              refine ws_iconst (v := 1) (dcd d_m_taker_1 18 rfl) (by decide) ?_
              refine ws_goto (tgt := 87) (dcd d_m_taker_1 19 rfl) (by decide) ?_
              refine ws_istore (l' := [(5, .int 1), (4, .int (1000 + (mI u 83 ((5 * x3 + 3) : Int32).toNatClampNeg))), (0, .ref 76), (1, .int x1), (2, .int x2), (3, .int x3)]) (dcd d_m_taker_1 21 rfl) (by decide) rfl ?_
              refine ws_iload 0 (dcd d_m_taker_1 22 rfl) rfl ?_
              refine ws_if_eq (tgt := 98) (dcd d_m_taker_1 23 rfl) (by decide) (fun c => absurd c (by decide)) (fun _ => ?_)
              refine ws_iload_n 5 (dcd d_m_taker_1 24 rfl) rfl ?_
              refine ws_goto (tgt := 99) (dcd d_m_taker_1 25 rfl) (by decide) ?_
              refine ws_istore_n (l' := [(2, .int x3), (5, .int 1), (4, .int (1000 + (mI u 83 ((5 * x3 + 3) : Int32).toNatClampNeg))), (0, .ref 76), (1, .int x1), (3, .int x3)]) (dcd d_m_taker_1 27 rfl) (by decide) rfl ?_
              refine ws_iinc (v := 1) (l' := [(3, .int (x3 + 1)), (2, .int x3), (5, .int 1), (4, .int (1000 + (mI u 83 ((5 * x3 + 3) : Int32).toNatClampNeg))), (0, .ref 76), (1, .int x1)]) 5 (dcd d_m_taker_1 28 rfl) rfl (by decide) (by decide) rfl ?_
              refine ws_goto (tgt := 5) (dcd d_m_taker_1 29 rfl) (by decide) ?_
              exact ws_loc [4, 5, 1, 0] rfl h
      · have h := h.2 c4
        refine ws_iconst (v := 0) (dcd d_m_taker_0 20 rfl) (by decide) ?_
        refine ws_goto (tgt := 38) (dcd d_m_taker_0 21 rfl) (by decide) ?_
        refine ws_aload_n 0 (dcd d_m_taker_0 23 rfl) rfl ?_
        refine ws_iload_n 3 (dcd d_m_taker_0 24 rfl) rfl ?_
        refine ws_iconst (v := 3) (dcd d_m_taker_0 25 rfl) (by decide) ?_
        obtain ⟨e18, h⟩ := h
        refine ws_callVI (o := 76) (As := [.int x3, .int 3]) (st := [.int 0]) (la := [(0, .ref 76), (1, .int x3), (2, .int 3)]) (dcd d_m_taker_0 26 rfl) cv_m_tell k_m_159 ⟨by decide, by decide⟩ ok_76 rfl (Nat.le_of_ble_eq_true rfl) (Nat.le_of_ble_eq_true rfl) rfl rfl (sp_m_tell e18) ?_
        rintro _ _ ⟨rfl, rfl⟩
        refine ws_iadd (dcd d_m_taker_0 27 rfl) ?_
        refine ws_istore (l' := [(4, .int (0 + (mI u 83 ((5 * x3 + 3) : Int32).toNatClampNeg))), (0, .ref 76), (1, .int x1), (2, .int x2), (3, .int x3)]) (dcd d_m_taker_0 28 rfl) (by decide) rfl ?_
        refine ws_iload_n 3 (dcd d_m_taker_0 29 rfl) rfl ?_
        refine ws_bipush (v := (-9)) (dcd d_m_taker_1 0 rfl) (by decide) ?_
        refine ws_icmp_eq (tgt := 82) (dcd d_m_taker_1 1 rfl) (by decide) (fun c19 => ?_) (fun c19 => ?_)
        · have h := h.1 c19
          refine ws_iconst (v := 1) (dcd d_m_taker_1 18 rfl) (by decide) ?_
          refine ws_goto (tgt := 87) (dcd d_m_taker_1 19 rfl) (by decide) ?_
          refine ws_istore (l' := [(5, .int 1), (4, .int (0 + (mI u 83 ((5 * x3 + 3) : Int32).toNatClampNeg))), (0, .ref 76), (1, .int x1), (2, .int x2), (3, .int x3)]) (dcd d_m_taker_1 21 rfl) (by decide) rfl ?_
          refine ws_iload 0 (dcd d_m_taker_1 22 rfl) rfl ?_
          refine ws_if_eq (tgt := 98) (dcd d_m_taker_1 23 rfl) (by decide) (fun c => absurd c (by decide)) (fun _ => ?_)
          refine ws_iload_n 5 (dcd d_m_taker_1 24 rfl) rfl ?_
          refine ws_goto (tgt := 99) (dcd d_m_taker_1 25 rfl) (by decide) ?_
          refine ws_istore_n (l' := [(2, .int x3), (5, .int 1), (4, .int (0 + (mI u 83 ((5 * x3 + 3) : Int32).toNatClampNeg))), (0, .ref 76), (1, .int x1), (3, .int x3)]) (dcd d_m_taker_1 27 rfl) (by decide) rfl ?_
          refine ws_iinc (v := 1) (l' := [(3, .int (x3 + 1)), (2, .int x3), (5, .int 1), (4, .int (0 + (mI u 83 ((5 * x3 + 3) : Int32).toNatClampNeg))), (0, .ref 76), (1, .int x1)]) 5 (dcd d_m_taker_1 28 rfl) rfl (by decide) (by decide) rfl ?_
          refine ws_goto (tgt := 5) (dcd d_m_taker_1 29 rfl) (by decide) ?_
          exact ws_loc [4, 5, 1, 0] rfl h
        · have h := h.2 c19
          refine ws_iload 0 (dcd d_m_taker_1 2 rfl) rfl ?_
          refine ws_aload_n 1 (dcd d_m_taker_1 3 rfl) rfl ?_
          refine ws_iload_n 3 (dcd d_m_taker_1 4 rfl) rfl ?_
          refine ws_iconst (v := 0) (dcd d_m_taker_1 5 rfl) (by decide) ?_
          obtain ⟨e21, h⟩ := h
          refine ws_callVI (o := 76) (As := [.int x2, .int 0]) (st := [.int (0 + (mI u 83 ((5 * x3 + 3) : Int32).toNatClampNeg))]) (la := [(0, .ref 76), (1, .int x2), (2, .int 0)]) (dcd d_m_taker_1 6 rfl) cv_m_tell k_m_159 ⟨by decide, by decide⟩ ok_76 rfl (Nat.le_of_ble_eq_true rfl) (Nat.le_of_ble_eq_true rfl) rfl rfl (sp_m_tell e21) ?_
          rintro _ _ ⟨rfl, rfl⟩
          refine ws_iconst (v := 2) (dcd d_m_taker_1 7 rfl) (by decide) ?_
          refine ws_icmp_ne (tgt := 69) (dcd d_m_taker_1 8 rfl) (by decide) (fun c22 => ?_) (fun c22 => ?_)
          · have h := h.1 c22
            refine ws_sipush (v := 1000) (dcd d_m_taker_1 11 rfl) (by decide) ?_
            refine ws_aload_n 1 (dcd d_m_taker_1 12 rfl) rfl ?_
            refine ws_iload_n 3 (dcd d_m_taker_1 13 rfl) rfl ?_
            refine ws_iconst (v := 3) (dcd d_m_taker_1 14 rfl) (by decide) ?_
            obtain ⟨e23, h⟩ := h
            refine ws_callVI (o := 76) (As := [.int x2, .int 3]) (st := [.int 1000, .int (0 + (mI u 83 ((5 * x3 + 3) : Int32).toNatClampNeg))]) (la := [(0, .ref 76), (1, .int x2), (2, .int 3)]) (dcd d_m_taker_1 15 rfl) cv_m_tell k_m_159 ⟨by decide, by decide⟩ ok_76 rfl (Nat.le_of_ble_eq_true rfl) (Nat.le_of_ble_eq_true rfl) rfl rfl (sp_m_tell e23) ?_
            rintro _ _ ⟨rfl, rfl⟩
            refine ws_iadd (dcd d_m_taker_1 16 rfl) ?_
            refine ws_icmp_le (tgt := 86) (dcd d_m_taker_1 17 rfl) (by decide) (fun c24 => ?_) (fun c24 => ?_)
            · have h := h.1 c24
              refine ws_iconst (v := 0) (dcd d_m_taker_1 20 rfl) (by decide) ?_
              refine ws_istore (l' := [(5, .int 0), (4, .int (0 + (mI u 83 ((5 * x3 + 3) : Int32).toNatClampNeg))), (0, .ref 76), (1, .int x1), (2, .int x2), (3, .int x3)]) (dcd d_m_taker_1 21 rfl) (by decide) rfl ?_
              refine ws_iload 0 (dcd d_m_taker_1 22 rfl) rfl ?_
              refine ws_if_eq (tgt := 98) (dcd d_m_taker_1 23 rfl) (by decide) (fun _ => ?_) (fun c => absurd (show (0 : Int32) = 0 from by decide) c)
              refine ws_iload_n 4 (dcd d_m_taker_1 26 rfl) rfl ?_
              refine ws_istore_n (l' := [(2, .int x2), (5, .int 0), (4, .int (0 + (mI u 83 ((5 * x3 + 3) : Int32).toNatClampNeg))), (0, .ref 76), (1, .int x1), (3, .int x3)]) (dcd d_m_taker_1 27 rfl) (by decide) rfl ?_
              refine ws_iinc (v := 1) (l' := [(3, .int (x3 + 1)), (2, .int x2), (5, .int 0), (4, .int (0 + (mI u 83 ((5 * x3 + 3) : Int32).toNatClampNeg))), (0, .ref 76), (1, .int x1)]) 5 (dcd d_m_taker_1 28 rfl) rfl (by decide) (by decide) rfl ?_
              refine ws_goto (tgt := 5) (dcd d_m_taker_1 29 rfl) (by decide) ?_
              exact ws_loc [4, 5, 1, 0] rfl h
            · have h := h.2 c24
              refine ws_iconst (v := 1) (dcd d_m_taker_1 18 rfl) (by decide) ?_
              refine ws_goto (tgt := 87) (dcd d_m_taker_1 19 rfl) (by decide) ?_
              refine ws_istore (l' := [(5, .int 1), (4, .int (0 + (mI u 83 ((5 * x3 + 3) : Int32).toNatClampNeg))), (0, .ref 76), (1, .int x1), (2, .int x2), (3, .int x3)]) (dcd d_m_taker_1 21 rfl) (by decide) rfl ?_
              refine ws_iload 0 (dcd d_m_taker_1 22 rfl) rfl ?_
              refine ws_if_eq (tgt := 98) (dcd d_m_taker_1 23 rfl) (by decide) (fun c => absurd c (by decide)) (fun _ => ?_)
              refine ws_iload_n 5 (dcd d_m_taker_1 24 rfl) rfl ?_
              refine ws_goto (tgt := 99) (dcd d_m_taker_1 25 rfl) (by decide) ?_
              refine ws_istore_n (l' := [(2, .int x3), (5, .int 1), (4, .int (0 + (mI u 83 ((5 * x3 + 3) : Int32).toNatClampNeg))), (0, .ref 76), (1, .int x1), (3, .int x3)]) (dcd d_m_taker_1 27 rfl) (by decide) rfl ?_
              refine ws_iinc (v := 1) (l' := [(3, .int (x3 + 1)), (2, .int x3), (5, .int 1), (4, .int (0 + (mI u 83 ((5 * x3 + 3) : Int32).toNatClampNeg))), (0, .ref 76), (1, .int x1)]) 5 (dcd d_m_taker_1 28 rfl) rfl (by decide) (by decide) rfl ?_
              refine ws_goto (tgt := 5) (dcd d_m_taker_1 29 rfl) (by decide) ?_
              exact ws_loc [4, 5, 1, 0] rfl h
          · have h := h.2 c22
            refine ws_iconst (v := 0) (dcd d_m_taker_1 9 rfl) (by decide) ?_
            refine ws_goto (tgt := 72) (dcd d_m_taker_1 10 rfl) (by decide) ?_
            refine ws_aload_n 1 (dcd d_m_taker_1 12 rfl) rfl ?_
            refine ws_iload_n 3 (dcd d_m_taker_1 13 rfl) rfl ?_
            refine ws_iconst (v := 3) (dcd d_m_taker_1 14 rfl) (by decide) ?_
            obtain ⟨e27, h⟩ := h
            refine ws_callVI (o := 76) (As := [.int x2, .int 3]) (st := [.int 0, .int (0 + (mI u 83 ((5 * x3 + 3) : Int32).toNatClampNeg))]) (la := [(0, .ref 76), (1, .int x2), (2, .int 3)]) (dcd d_m_taker_1 15 rfl) cv_m_tell k_m_159 ⟨by decide, by decide⟩ ok_76 rfl (Nat.le_of_ble_eq_true rfl) (Nat.le_of_ble_eq_true rfl) rfl rfl (sp_m_tell e27) ?_
            rintro _ _ ⟨rfl, rfl⟩
            refine ws_iadd (dcd d_m_taker_1 16 rfl) ?_
            refine ws_icmp_le (tgt := 86) (dcd d_m_taker_1 17 rfl) (by decide) (fun c28 => ?_) (fun c28 => ?_)
            · have h := h.1 c28
              refine ws_iconst (v := 0) (dcd d_m_taker_1 20 rfl) (by decide) ?_
              refine ws_istore (l' := [(5, .int 0), (4, .int (0 + (mI u 83 ((5 * x3 + 3) : Int32).toNatClampNeg))), (0, .ref 76), (1, .int x1), (2, .int x2), (3, .int x3)]) (dcd d_m_taker_1 21 rfl) (by decide) rfl ?_
              refine ws_iload 0 (dcd d_m_taker_1 22 rfl) rfl ?_
              refine ws_if_eq (tgt := 98) (dcd d_m_taker_1 23 rfl) (by decide) (fun _ => ?_) (fun c => absurd (show (0 : Int32) = 0 from by decide) c)
              refine ws_iload_n 4 (dcd d_m_taker_1 26 rfl) rfl ?_
              refine ws_istore_n (l' := [(2, .int x2), (5, .int 0), (4, .int (0 + (mI u 83 ((5 * x3 + 3) : Int32).toNatClampNeg))), (0, .ref 76), (1, .int x1), (3, .int x3)]) (dcd d_m_taker_1 27 rfl) (by decide) rfl ?_
              refine ws_iinc (v := 1) (l' := [(3, .int (x3 + 1)), (2, .int x2), (5, .int 0), (4, .int (0 + (mI u 83 ((5 * x3 + 3) : Int32).toNatClampNeg))), (0, .ref 76), (1, .int x1)]) 5 (dcd d_m_taker_1 28 rfl) rfl (by decide) (by decide) rfl ?_
              refine ws_goto (tgt := 5) (dcd d_m_taker_1 29 rfl) (by decide) ?_
              exact ws_loc [4, 5, 1, 0] rfl h
            · have h := h.2 c28
              refine ws_iconst (v := 1) (dcd d_m_taker_1 18 rfl) (by decide) ?_
              refine ws_goto (tgt := 87) (dcd d_m_taker_1 19 rfl) (by decide) ?_
              refine ws_istore (l' := [(5, .int 1), (4, .int (0 + (mI u 83 ((5 * x3 + 3) : Int32).toNatClampNeg))), (0, .ref 76), (1, .int x1), (2, .int x2), (3, .int x3)]) (dcd d_m_taker_1 21 rfl) (by decide) rfl ?_
              refine ws_iload 0 (dcd d_m_taker_1 22 rfl) rfl ?_
              refine ws_if_eq (tgt := 98) (dcd d_m_taker_1 23 rfl) (by decide) (fun c => absurd c (by decide)) (fun _ => ?_)
              refine ws_iload_n 5 (dcd d_m_taker_1 24 rfl) rfl ?_
              refine ws_goto (tgt := 99) (dcd d_m_taker_1 25 rfl) (by decide) ?_
              refine ws_istore_n (l' := [(2, .int x3), (5, .int 1), (4, .int (0 + (mI u 83 ((5 * x3 + 3) : Int32).toNatClampNeg))), (0, .ref 76), (1, .int x1), (3, .int x3)]) (dcd d_m_taker_1 27 rfl) (by decide) rfl ?_
              refine ws_iinc (v := 1) (l' := [(3, .int (x3 + 1)), (2, .int x3), (5, .int 1), (4, .int (0 + (mI u 83 ((5 * x3 + 3) : Int32).toNatClampNeg))), (0, .ref 76), (1, .int x1)]) 5 (dcd d_m_taker_1 28 rfl) rfl (by decide) (by decide) rfl ?_
              refine ws_goto (tgt := 5) (dcd d_m_taker_1 29 rfl) (by decide) ?_
              exact ws_loc [4, 5, 1, 0] rfl h
theorem sg_m_doors_0 {x1 : Int32}  (h : (((0 ≤ x1 ∧ x1 ≤ 5) → Ws G m_row 0 [(0, .ref 76), (1, .int x1), (2, .int (mI u 76 11))] [] u (RI fun a3 u3 => Ws G m_doors 21 [(0, .ref 76), (1, .int x1), (2, .int 0)] [] u3 Q)) ∧ (¬ (0 ≤ x1 ∧ x1 ≤ 5) → Q (some (.int (-1))) u))) : Ws G m_doors 0 [(0, .ref 76), (1, .int x1)] [] u Q := by
  refine ws_iload_n 1 (dcd d_m_doors_0 0 rfl) rfl ?_
  refine ws_callSI (As := [.int x1]) (st := []) (la := [(0, .int x1)]) (dcd d_m_doors_0 1 rfl) cs_m_isRow k_m_82 ⟨by decide, by decide⟩ rfl (Nat.le_of_ble_eq_true rfl) (Nat.le_of_ble_eq_true rfl) rfl rfl sp_m_isRow ?_
  rintro _ _ ⟨rfl, ⟨rfl, c1⟩ | ⟨rfl, c1⟩⟩
  · have h := h.1 c1
    refine ws_if_ne (tgt := 9) (dcd d_m_doors_0 2 rfl) (by decide) (fun _ => ?_) (fun c => absurd c (by decide))
    refine ws_aload_n 0 (dcd d_m_doors_0 5 rfl) rfl ?_
    refine ws_iload_n 1 (dcd d_m_doors_0 6 rfl) rfl ?_
    refine ws_aload_n 0 (dcd d_m_doors_0 7 rfl) rfl ?_
    refine ws_getI f_m_156 rfl (dcd d_m_doors_0 8 rfl) ok_76 ?_
    refine ws_callVI (o := 76) (As := [.int x1, .int (mI u 76 11)]) (st := []) (la := [(0, .ref 76), (1, .int x1), (2, .int (mI u 76 11))]) (dcd d_m_doors_0 9 rfl) cv_m_row k_m_212 ⟨by decide, by decide⟩ ok_76 rfl (Nat.le_of_ble_eq_true rfl) (Nat.le_of_ble_eq_true rfl) rfl rfl h (fun a3 u3 h => ?_)
    refine ws_pop (dcd d_m_doors_0 10 rfl) rfl ?_
    refine ws_iconst (v := 0) (dcd d_m_doors_0 11 rfl) (by decide) ?_
    refine ws_istore_n (l' := [(2, .int 0), (0, .ref 76), (1, .int x1)]) (dcd d_m_doors_0 12 rfl) (by decide) rfl ?_
    exact ws_loc [1, 2, 0] rfl h
  · have h := h.2 c1
    refine ws_if_ne (tgt := 9) (dcd d_m_doors_0 2 rfl) (by decide) (fun c => absurd (show (0 : Int32) = 0 from by decide) c) (fun _ => ?_)
    refine ws_iconst (v := (-1)) (dcd d_m_doors_0 3 rfl) (by decide) ?_
    exact ws_iret (dcd d_m_doors_0 4 rfl) ⟨_, rfl, rfl⟩ h
theorem sg_m_doors_21 {x1 : Int32} {x2 : Int32}  (h : (((mI u 76 11) ≤ x2 → Q (some (.int (mI u 76 11))) u) ∧ (¬ ((mI u 76 11) ≤ x2) → (vp_in x2 7 ∧ (vp_in (40 * x1 + x2) 240 ∧ Ws G m_doors 21 [(0, .ref 76), (1, .int x1), (2, .int (x2 + 1))] [] (pI u 79 ((40 * x1 + x2) : Int32).toNatClampNeg (mI u 84 (x2 : Int32).toNatClampNeg)) Q))))) : Ws G m_doors 21 [(0, .ref 76), (1, .int x1), (2, .int x2)] [] u Q := by
  refine ws_iload_n 2 (dcd d_m_doors_0 13 rfl) rfl ?_
  refine ws_aload_n 0 (dcd d_m_doors_0 14 rfl) rfl ?_
  refine ws_getI f_m_156 rfl (dcd d_m_doors_0 15 rfl) ok_76 ?_
  refine ws_icmp_ge (tgt := 47) (dcd d_m_doors_0 16 rfl) (by decide) (fun c1 => ?_) (fun c1 => ?_)
  · have h := h.1 c1
    refine ws_aload_n 0 (dcd d_m_doors_0 27 rfl) rfl ?_
    refine ws_getI f_m_156 rfl (dcd d_m_doors_0 28 rfl) ok_76 ?_
    exact ws_iret (dcd d_m_doors_0 29 rfl) ⟨_, rfl, rfl⟩ h
  · have h := h.2 c1
    refine ws_aload_n 0 (dcd d_m_doors_0 17 rfl) rfl ?_
    refine ws_iload_n 1 (dcd d_m_doors_0 18 rfl) rfl ?_
    refine ws_iload_n 2 (dcd d_m_doors_0 19 rfl) rfl ?_
    refine ws_aload_n 0 (dcd d_m_doors_0 20 rfl) rfl ?_
    refine ws_getF (a := 84) f_m_35 rfl (dcd d_m_doors_0 21 rfl) ok_76 of_8_17 rfl ?_
    refine ws_iload_n 2 (dcd d_m_doors_0 22 rfl) rfl ?_
    obtain ⟨e2, h⟩ := h
    refine ws_iald (L := 7) (dcd d_m_doors_0 23 rfl) (os_8_17 ok_76) (ol_8_17 ok_76) e2 ?_
    obtain ⟨e3, h⟩ := h
    refine ws_callVV (o := 76) (As := [.int x1, .int x2, .int (mI u 84 (x2 : Int32).toNatClampNeg)]) (st := []) (la := [(0, .ref 76), (1, .int x1), (2, .int x2), (3, .int (mI u 84 (x2 : Int32).toNatClampNeg))]) (dcd d_m_doors_0 24 rfl) cv_m_setRow k_m_93 ⟨by decide, by decide⟩ ok_76 rfl (Nat.le_of_ble_eq_true rfl) (Nat.le_of_ble_eq_true rfl) rfl rfl (sp_m_setRow e3) ?_
    rintro _ rfl
    refine ws_iinc (v := 1) (l' := [(2, .int (x2 + 1)), (0, .ref 76), (1, .int x1)]) 2 (dcd d_m_doors_0 25 rfl) rfl (by decide) (by decide) rfl ?_
    refine ws_goto (tgt := 21) (dcd d_m_doors_0 26 rfl) (by decide) ?_
    exact ws_loc [1, 2, 0] rfl h
theorem sg_m_who_0 {x1 : Int32}  (h : (((0 ≤ x1 ∧ x1 ≤ (mI u 76 10) - 1) → Ws G m_who 15 [(0, .ref 76), (1, .int x1), (2, .int (-9)), (3, .int 0)] [] u Q) ∧ (¬ (0 ≤ x1 ∧ x1 ≤ (mI u 76 10) - 1) → Q (some (.int (-1))) u))) : Ws G m_who 0 [(0, .ref 76), (1, .int x1)] [] u Q := by
  refine ws_aload_n 0 (dcd d_m_who_0 0 rfl) rfl ?_
  refine ws_iload_n 1 (dcd d_m_who_0 1 rfl) rfl ?_
  refine ws_callVI (o := 76) (As := [.int x1]) (st := []) (la := [(0, .ref 76), (1, .int x1)]) (dcd d_m_who_0 2 rfl) cv_m_isDoor k_m_194 ⟨by decide, by decide⟩ ok_76 rfl (Nat.le_of_ble_eq_true rfl) (Nat.le_of_ble_eq_true rfl) rfl rfl sp_m_isDoor ?_
  rintro _ _ ⟨rfl, ⟨rfl, c1⟩ | ⟨rfl, c1⟩⟩
  · have h := h.1 c1
    refine ws_if_ne (tgt := 10) (dcd d_m_who_0 3 rfl) (by decide) (fun _ => ?_) (fun c => absurd c (by decide))
    refine ws_bipush (v := (-9)) (dcd d_m_who_0 6 rfl) (by decide) ?_
    refine ws_istore_n (l' := [(2, .int (-9)), (0, .ref 76), (1, .int x1)]) (dcd d_m_who_0 7 rfl) (by decide) rfl ?_
    refine ws_iconst (v := 0) (dcd d_m_who_0 8 rfl) (by decide) ?_
    refine ws_istore_n (l' := [(3, .int 0), (2, .int (-9)), (0, .ref 76), (1, .int x1)]) (dcd d_m_who_0 9 rfl) (by decide) rfl ?_
    exact ws_loc [2, 3, 1, 0] rfl h
  · have h := h.2 c1
    refine ws_if_ne (tgt := 10) (dcd d_m_who_0 3 rfl) (by decide) (fun c => absurd (show (0 : Int32) = 0 from by decide) c) (fun _ => ?_)
    refine ws_iconst (v := (-1)) (dcd d_m_who_0 4 rfl) (by decide) ?_
    exact ws_iret (dcd d_m_who_0 5 rfl) ⟨_, rfl, rfl⟩ h
theorem sg_m_who_15 {x1 : Int32} {x2 : Int32} {x3 : Int32}  (h : (((mI u 76 11) ≤ x3 → Q (some (.int x2)) u) ∧ (¬ ((mI u 76 11) ≤ x3) → (vp_in x3 7 ∧ ((¬ (mI u 84 (x3 : Int32).toNatClampNeg) = x1 → Ws G m_who 15 [(0, .ref 76), (1, .int x1), (2, .int x2), (3, .int (x3 + 1))] [] u Q) ∧ ((mI u 84 (x3 : Int32).toNatClampNeg) = x1 → Ws G m_who 15 [(0, .ref 76), (1, .int x1), (2, .int x3), (3, .int (x3 + 1))] [] u Q)))))) : Ws G m_who 15 [(0, .ref 76), (1, .int x1), (2, .int x2), (3, .int x3)] [] u Q := by
  refine ws_iload_n 3 (dcd d_m_who_0 10 rfl) rfl ?_
  refine ws_aload_n 0 (dcd d_m_who_0 11 rfl) rfl ?_
  refine ws_getI f_m_156 rfl (dcd d_m_who_0 12 rfl) ok_76 ?_
  refine ws_icmp_ge (tgt := 45) (dcd d_m_who_0 13 rfl) (by decide) (fun c1 => ?_) (fun c1 => ?_)
  · have h := h.1 c1
    refine ws_iload_n 2 (dcd d_m_who_0 26 rfl) rfl ?_
    exact ws_iret (dcd d_m_who_0 27 rfl) ⟨_, rfl, rfl⟩ h
  · have h := h.2 c1
    refine ws_aload_n 0 (dcd d_m_who_0 14 rfl) rfl ?_
    refine ws_getF (a := 84) f_m_35 rfl (dcd d_m_who_0 15 rfl) ok_76 of_8_17 rfl ?_
    refine ws_iload_n 3 (dcd d_m_who_0 16 rfl) rfl ?_
    obtain ⟨e2, h⟩ := h
    refine ws_iald (L := 7) (dcd d_m_who_0 17 rfl) (os_8_17 ok_76) (ol_8_17 ok_76) e2 ?_
    refine ws_iload_n 1 (dcd d_m_who_0 18 rfl) rfl ?_
    refine ws_icmp_ne (tgt := 37) (dcd d_m_who_0 19 rfl) (by decide) (fun c3 => ?_) (fun c3 => ?_)
    · have h := h.1 c3
      refine ws_iload_n 2 (dcd d_m_who_0 22 rfl) rfl ?_
      refine ws_istore_n (l' := [(2, .int x2), (0, .ref 76), (1, .int x1), (3, .int x3)]) (dcd d_m_who_0 23 rfl) (by decide) rfl ?_
      refine ws_iinc (v := 1) (l' := [(3, .int (x3 + 1)), (2, .int x2), (0, .ref 76), (1, .int x1)]) 3 (dcd d_m_who_0 24 rfl) rfl (by decide) (by decide) rfl ?_
      refine ws_goto (tgt := 15) (dcd d_m_who_0 25 rfl) (by decide) ?_
      exact ws_loc [2, 3, 1, 0] rfl h
    · have h := h.2 c3
      refine ws_iload_n 3 (dcd d_m_who_0 20 rfl) rfl ?_
      refine ws_goto (tgt := 38) (dcd d_m_who_0 21 rfl) (by decide) ?_
      refine ws_istore_n (l' := [(2, .int x3), (0, .ref 76), (1, .int x1), (3, .int x3)]) (dcd d_m_who_0 23 rfl) (by decide) rfl ?_
      refine ws_iinc (v := 1) (l' := [(3, .int (x3 + 1)), (2, .int x3), (0, .ref 76), (1, .int x1)]) 3 (dcd d_m_who_0 24 rfl) rfl (by decide) (by decide) rfl ?_
      refine ws_goto (tgt := 15) (dcd d_m_who_0 25 rfl) (by decide) ?_
      exact ws_loc [2, 3, 1, 0] rfl h
theorem sg_m_wants_0 {x1 : Int32}  (h : (((0 ≤ x1 ∧ x1 ≤ (mI u 76 11) - 1) → Ws G m_fromNow 0 [(0, .ref 76)] [] u (RV fun u3 => Ws G m_passOne 0 [(0, .ref 76), (1, .int (mI u3 76 18)), (2, .int (mI u3 76 19))] [] u3 (RV fun u4 => (vp_in x1 7 ∧ (vp_in x1 7 ∧ (vp_in (5 * x1 + 0) 70 ∧ (vp_in (5 * x1 + 2) 70 ∧ (vp_in (5 * x1 + 4) 70 ∧ ((3 ≤ (mI u4 83 ((5 * x1 + 0) : Int32).toNatClampNeg) → ¬ (mI u4 83 ((5 * x1 + 4) : Int32).toNatClampNeg) = 0) ∧ (¬ ((mI u4 76 10) : Int32).toInt64 = 0 ∧ Q (some (.int (dAt (mI u4 76 10) (((mI u4 84 (x1 : Int32).toNatClampNeg) + (goV (mI u4 83 ((5 * x1 + 0) : Int32).toNatClampNeg) (mI u4 83 ((5 * x1 + 2) : Int32).toNatClampNeg) (mI u4 83 ((5 * x1 + 4) : Int32).toNatClampNeg) (mI u4 76 18))) : Int32).toInt64))) (pI u4 76 2 (mI u4 85 (x1 : Int32).toNatClampNeg)))))))))))) ∧ (¬ (0 ≤ x1 ∧ x1 ≤ (mI u 76 11) - 1) → Q (some (.int (-1))) u))) : Ws G m_wants 0 [(0, .ref 76), (1, .int x1)] [] u Q := by
  refine ws_aload_n 0 (dcd d_m_wants_0 0 rfl) rfl ?_
  refine ws_iload_n 1 (dcd d_m_wants_0 1 rfl) rfl ?_
  refine ws_callVI (o := 76) (As := [.int x1]) (st := []) (la := [(0, .ref 76), (1, .int x1)]) (dcd d_m_wants_0 2 rfl) cv_m_isShop k_m_171 ⟨by decide, by decide⟩ ok_76 rfl (Nat.le_of_ble_eq_true rfl) (Nat.le_of_ble_eq_true rfl) rfl rfl sp_m_isShop ?_
  rintro _ _ ⟨rfl, ⟨rfl, c1⟩ | ⟨rfl, c1⟩⟩
  · have h := h.1 c1
    refine ws_if_ne (tgt := 10) (dcd d_m_wants_0 3 rfl) (by decide) (fun _ => ?_) (fun c => absurd c (by decide))
    refine ws_aload_n 0 (dcd d_m_wants_0 6 rfl) rfl ?_
    refine ws_callVV (o := 76) (As := []) (st := []) (la := [(0, .ref 76)]) (dcd d_m_wants_0 7 rfl) cv_m_fromNow k_m_205 ⟨by decide, by decide⟩ ok_76 rfl (Nat.le_of_ble_eq_true rfl) (Nat.le_of_ble_eq_true rfl) rfl rfl h (fun u3 h => ?_)
    refine ws_aload_n 0 (dcd d_m_wants_0 8 rfl) rfl ?_
    refine ws_aload_n 0 (dcd d_m_wants_0 9 rfl) rfl ?_
    refine ws_getI f_m_162 rfl (dcd d_m_wants_0 10 rfl) ok_76 ?_
    refine ws_aload_n 0 (dcd d_m_wants_0 11 rfl) rfl ?_
    refine ws_getI f_m_165 rfl (dcd d_m_wants_0 12 rfl) ok_76 ?_
    refine ws_callVV (o := 76) (As := [.int (mI u3 76 18), .int (mI u3 76 19)]) (st := []) (la := [(0, .ref 76), (1, .int (mI u3 76 18)), (2, .int (mI u3 76 19))]) (dcd d_m_wants_0 13 rfl) cv_m_passOne k_m_208 ⟨by decide, by decide⟩ ok_76 rfl (Nat.le_of_ble_eq_true rfl) (Nat.le_of_ble_eq_true rfl) rfl rfl h (fun u4 h => ?_)
    refine ws_aload_n 0 (dcd d_m_wants_0 14 rfl) rfl ?_
    refine ws_aload_n 0 (dcd d_m_wants_0 15 rfl) rfl ?_
    refine ws_getF (a := 85) f_m_38 rfl (dcd d_m_wants_0 16 rfl) ok_76 of_8_20 rfl ?_
    refine ws_iload_n 1 (dcd d_m_wants_0 17 rfl) rfl ?_
    obtain ⟨e5, h⟩ := h
    refine ws_iald (L := 7) (dcd d_m_wants_0 18 rfl) (os_8_20 ok_76) (ol_8_20 ok_76) e5 ?_
    refine ws_aload_n 0 (dcd d_m_wants_0 19 rfl) rfl ?_
    refine ws_aload_n 0 (dcd d_m_wants_0 20 rfl) rfl ?_
    refine ws_getF (a := 84) f_m_35 rfl (dcd d_m_wants_0 21 rfl) ok_76 of_8_17 rfl ?_
    refine ws_iload_n 1 (dcd d_m_wants_0 22 rfl) rfl ?_
    obtain ⟨e6, h⟩ := h
    refine ws_iald (L := 7) (dcd d_m_wants_0 23 rfl) (os_8_17 ok_76) (ol_8_17 ok_76) e6 ?_
    refine ws_aload_n 0 (dcd d_m_wants_0 24 rfl) rfl ?_
    refine ws_iload_n 1 (dcd d_m_wants_0 25 rfl) rfl ?_
    refine ws_aload_n 0 (dcd d_m_wants_0 26 rfl) rfl ?_
    refine ws_getI f_m_162 rfl (dcd d_m_wants_0 27 rfl) ok_76 ?_
    obtain ⟨e7, h⟩ := h
    obtain ⟨e8, h⟩ := h
    obtain ⟨e9, h⟩ := h
    obtain ⟨e10, h⟩ := h
    refine ws_callVI (o := 76) (As := [.int x1, .int (mI u4 76 18)]) (st := [.int (mI u4 84 (x1 : Int32).toNatClampNeg), .ref 76, .int (mI u4 85 (x1 : Int32).toNatClampNeg), .ref 76]) (la := [(0, .ref 76), (1, .int x1), (2, .int (mI u4 76 18))]) (dcd d_m_wants_0 28 rfl) cv_m_going k_m_191 ⟨by decide, by decide⟩ ok_76 rfl (Nat.le_of_ble_eq_true rfl) (Nat.le_of_ble_eq_true rfl) rfl rfl (sp_m_going e7 e8 e9 e10) ?_
    rintro _ _ ⟨rfl, rfl⟩
    refine ws_iadd (dcd d_m_wants_0 29 rfl) ?_
    refine ws_i2l (dcd d_m_wants_1 0 rfl) ?_
    obtain ⟨e11, h⟩ := h
    refine ws_callVI (o := 76) (As := [.long (((mI u4 84 (x1 : Int32).toNatClampNeg) + (goV (mI u4 83 ((5 * x1 + 0) : Int32).toNatClampNeg) (mI u4 83 ((5 * x1 + 2) : Int32).toNatClampNeg) (mI u4 83 ((5 * x1 + 4) : Int32).toNatClampNeg) (mI u4 76 18))) : Int32).toInt64]) (st := [.int (mI u4 85 (x1 : Int32).toNatClampNeg), .ref 76]) (la := [(0, .ref 76), (1, .long (((mI u4 84 (x1 : Int32).toNatClampNeg) + (goV (mI u4 83 ((5 * x1 + 0) : Int32).toNatClampNeg) (mI u4 83 ((5 * x1 + 2) : Int32).toNatClampNeg) (mI u4 83 ((5 * x1 + 4) : Int32).toNatClampNeg) (mI u4 76 18))) : Int32).toInt64)]) (dcd d_m_wants_1 1 rfl) cv_m_doorAt k_m_181 ⟨by decide, by decide⟩ ok_76 rfl (Nat.le_of_ble_eq_true rfl) (Nat.le_of_ble_eq_true rfl) rfl rfl (sp_m_doorAt e11) ?_
    rintro _ _ ⟨rfl, rfl⟩
    refine ws_callVI (o := 76) (As := [.int (mI u4 85 (x1 : Int32).toNatClampNeg), .int (dAt (mI u4 76 10) (((mI u4 84 (x1 : Int32).toNatClampNeg) + (goV (mI u4 83 ((5 * x1 + 0) : Int32).toNatClampNeg) (mI u4 83 ((5 * x1 + 2) : Int32).toNatClampNeg) (mI u4 83 ((5 * x1 + 4) : Int32).toNatClampNeg) (mI u4 76 18))) : Int32).toInt64)]) (st := []) (la := [(0, .ref 76), (1, .int (mI u4 85 (x1 : Int32).toNatClampNeg)), (2, .int (dAt (mI u4 76 10) (((mI u4 84 (x1 : Int32).toNatClampNeg) + (goV (mI u4 83 ((5 * x1 + 0) : Int32).toNatClampNeg) (mI u4 83 ((5 * x1 + 2) : Int32).toNatClampNeg) (mI u4 83 ((5 * x1 + 4) : Int32).toNatClampNeg) (mI u4 76 18))) : Int32).toInt64))]) (dcd d_m_wants_1 2 rfl) cv_m_ask k_m_104 ⟨by decide, by decide⟩ ok_76 rfl (Nat.le_of_ble_eq_true rfl) (Nat.le_of_ble_eq_true rfl) rfl rfl sp_m_ask ?_
    rintro _ _ ⟨rfl, rfl⟩
    exact ws_iret (dcd d_m_wants_1 3 rfl) ⟨_, rfl, rfl⟩ h
  · have h := h.2 c1
    refine ws_if_ne (tgt := 10) (dcd d_m_wants_0 3 rfl) (by decide) (fun c => absurd (show (0 : Int32) = 0 from by decide) c) (fun _ => ?_)
    refine ws_iconst (v := (-1)) (dcd d_m_wants_0 4 rfl) (by decide) ?_
    exact ws_iret (dcd d_m_wants_0 5 rfl) ⟨_, rfl, rfl⟩ h
theorem sg_m_where_0 {x1 : Int32} {x2 : Int32}  (h : (((0 ≤ x1 ∧ x1 ≤ (mI u 76 11) - 1) → (((0 ≤ x2 ∧ x2 ≤ 400) → Ws G m_fromNow 0 [(0, .ref 76)] [] u (RV fun u5 => Ws G m_where 27 [(0, .ref 76), (1, .int x1), (2, .int x2), (3, .int 0)] [] u5 Q)) ∧ (¬ (0 ≤ x2 ∧ x2 ≤ 400) → Q (some (.int (-1))) u))) ∧ (¬ (0 ≤ x1 ∧ x1 ≤ (mI u 76 11) - 1) → Q (some (.int (-1))) u))) : Ws G m_where 0 [(0, .ref 76), (1, .int x1), (2, .int x2)] [] u Q := by
  refine ws_aload_n 0 (dcd d_m_where_0 0 rfl) rfl ?_
  refine ws_iload_n 1 (dcd d_m_where_0 1 rfl) rfl ?_
  refine ws_callVI (o := 76) (As := [.int x1]) (st := []) (la := [(0, .ref 76), (1, .int x1)]) (dcd d_m_where_0 2 rfl) cv_m_isShop k_m_171 ⟨by decide, by decide⟩ ok_76 rfl (Nat.le_of_ble_eq_true rfl) (Nat.le_of_ble_eq_true rfl) rfl rfl sp_m_isShop ?_
  rintro _ _ ⟨rfl, ⟨rfl, c1⟩ | ⟨rfl, c1⟩⟩
  · have h := h.1 c1
    refine ws_if_eq (tgt := 19) (dcd d_m_where_0 3 rfl) (by decide) (fun c => absurd c (by decide)) (fun _ => ?_)
    refine ws_iload_n 2 (dcd d_m_where_0 4 rfl) rfl ?_
    refine ws_iconst (v := 0) (dcd d_m_where_0 5 rfl) (by decide) ?_
    refine ws_sipush (v := 400) (dcd d_m_where_0 6 rfl) (by decide) ?_
    refine ws_callSI (As := [.int x2, .int 0, .int 400]) (st := []) (la := [(0, .int x2), (1, .int 0), (2, .int 400)]) (dcd d_m_where_0 7 rfl) cs_m_in k_m_78 ⟨by decide, by decide⟩ rfl (Nat.le_of_ble_eq_true rfl) (Nat.le_of_ble_eq_true rfl) rfl rfl sp_m_in ?_
    rintro _ _ ⟨rfl, ⟨rfl, c3⟩ | ⟨rfl, c3⟩⟩
    · have h := h.1 c3
      refine ws_if_ne (tgt := 21) (dcd d_m_where_0 8 rfl) (by decide) (fun _ => ?_) (fun c => absurd c (by decide))
      refine ws_aload_n 0 (dcd d_m_where_0 11 rfl) rfl ?_
      refine ws_callVV (o := 76) (As := []) (st := []) (la := [(0, .ref 76)]) (dcd d_m_where_0 12 rfl) cv_m_fromNow k_m_205 ⟨by decide, by decide⟩ ok_76 rfl (Nat.le_of_ble_eq_true rfl) (Nat.le_of_ble_eq_true rfl) rfl rfl h (fun u5 h => ?_)
      refine ws_iconst (v := 0) (dcd d_m_where_0 13 rfl) (by decide) ?_
      refine ws_istore_n (l' := [(3, .int 0), (0, .ref 76), (1, .int x1), (2, .int x2)]) (dcd d_m_where_0 14 rfl) (by decide) rfl ?_
      exact ws_loc [1, 2, 3, 0] rfl h
    · have h := h.2 c3
      refine ws_if_ne (tgt := 21) (dcd d_m_where_0 8 rfl) (by decide) (fun c => absurd (show (0 : Int32) = 0 from by decide) c) (fun _ => ?_)
      refine ws_iconst (v := (-1)) (dcd d_m_where_0 9 rfl) (by decide) ?_
      exact ws_iret (dcd d_m_where_0 10 rfl) ⟨_, rfl, rfl⟩ h
  · have h := h.2 c1
    refine ws_if_eq (tgt := 19) (dcd d_m_where_0 3 rfl) (by decide) (fun _ => ?_) (fun c => absurd (show (0 : Int32) = 0 from by decide) c)
    refine ws_iconst (v := (-1)) (dcd d_m_where_0 9 rfl) (by decide) ?_
    exact ws_iret (dcd d_m_where_0 10 rfl) ⟨_, rfl, rfl⟩ h
theorem sg_m_where_27 {x1 : Int32} {x2 : Int32} {x3 : Int32}  (h : ((x2 ≤ x3 → (vp_in x1 7 ∧ Q (some (.int (mI u 85 (x1 : Int32).toNatClampNeg))) u)) ∧ (¬ (x2 ≤ x3) → Ws G m_passOne 0 [(0, .ref 76), (1, .int ((mI u 76 18) + x3)), (2, .int (mI u 76 19))] [] u (RV fun u3 => Ws G m_where 27 [(0, .ref 76), (1, .int x1), (2, .int x2), (3, .int (x3 + 1))] [] u3 Q)))) : Ws G m_where 27 [(0, .ref 76), (1, .int x1), (2, .int x2), (3, .int x3)] [] u Q := by
  refine ws_iload_n 3 (dcd d_m_where_0 15 rfl) rfl ?_
  refine ws_iload_n 2 (dcd d_m_where_0 16 rfl) rfl ?_
  refine ws_icmp_ge (tgt := 52) (dcd d_m_where_0 17 rfl) (by decide) (fun c1 => ?_) (fun c1 => ?_)
  · have h := h.1 c1
    refine ws_aload_n 0 (dcd d_m_where_0 28 rfl) rfl ?_
    refine ws_getF (a := 85) f_m_38 rfl (dcd d_m_where_0 29 rfl) ok_76 of_8_20 rfl ?_
    refine ws_iload_n 1 (dcd d_m_where_1 0 rfl) rfl ?_
    obtain ⟨e2, h⟩ := h
    refine ws_iald (L := 7) (dcd d_m_where_1 1 rfl) (os_8_20 ok_76) (ol_8_20 ok_76) e2 ?_
    exact ws_iret (dcd d_m_where_1 2 rfl) ⟨_, rfl, rfl⟩ h
  · have h := h.2 c1
    refine ws_aload_n 0 (dcd d_m_where_0 18 rfl) rfl ?_
    refine ws_aload_n 0 (dcd d_m_where_0 19 rfl) rfl ?_
    refine ws_getI f_m_162 rfl (dcd d_m_where_0 20 rfl) ok_76 ?_
    refine ws_iload_n 3 (dcd d_m_where_0 21 rfl) rfl ?_
    refine ws_iadd (dcd d_m_where_0 22 rfl) ?_
    refine ws_aload_n 0 (dcd d_m_where_0 23 rfl) rfl ?_
    refine ws_getI f_m_165 rfl (dcd d_m_where_0 24 rfl) ok_76 ?_
    refine ws_callVV (o := 76) (As := [.int ((mI u 76 18) + x3), .int (mI u 76 19)]) (st := []) (la := [(0, .ref 76), (1, .int ((mI u 76 18) + x3)), (2, .int (mI u 76 19))]) (dcd d_m_where_0 25 rfl) cv_m_passOne k_m_208 ⟨by decide, by decide⟩ ok_76 rfl (Nat.le_of_ble_eq_true rfl) (Nat.le_of_ble_eq_true rfl) rfl rfl h (fun u3 h => ?_)
    refine ws_iinc (v := 1) (l' := [(3, .int (x3 + 1)), (0, .ref 76), (1, .int x1), (2, .int x2)]) 3 (dcd d_m_where_0 26 rfl) rfl (by decide) (by decide) rfl ?_
    refine ws_goto (tgt := 27) (dcd d_m_where_0 27 rfl) (by decide) ?_
    exact ws_loc [1, 2, 3, 0] rfl h
end SEG
