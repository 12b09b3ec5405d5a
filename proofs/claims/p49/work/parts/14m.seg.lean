section SEG
variable {G : pG} {u : pM} {Q : Option Value → pM → Prop}
theorem sg_m_mixSquare_0   (h : Ws G m_mixSquare 2 [(0, .ref 76), (1, .int 0)] [] u Q) : Ws G m_mixSquare 0 [(0, .ref 76)] [] u Q := by
  refine ws_iconst (v := 0) (dcd d_m_mixSquare_0 0 rfl) (by decide) ?_
  refine ws_istore_n (l' := [(1, .int 0), (0, .ref 76)]) (dcd d_m_mixSquare_0 1 rfl) (by decide) rfl ?_
  exact ws_loc [1, 0] rfl h
theorem sg_m_mixSquare_2 {x1 : Int32}  (h : (((mI u 76 11) ≤ x1 → Ws G m_mixSquare 49 [(0, .ref 76), (1, .int 0)] [] (pL u 76 32 (31 * (mL u 76 32) + ((mI u 76 19) : Int32).toInt64)) Q) ∧ (¬ ((mI u 76 11) ≤ x1) → Ws G m_mixSquare 12 [(0, .ref 76), (1, .int x1), (2, .int 0)] [] u Q))) : Ws G m_mixSquare 2 [(0, .ref 76), (1, .int x1)] [] u Q := by
  refine ws_iload_n 1 (dcd d_m_mixSquare_0 2 rfl) rfl ?_
  refine ws_aload_n 0 (dcd d_m_mixSquare_0 3 rfl) rfl ?_
  refine ws_getI f_m_156 rfl (dcd d_m_mixSquare_0 4 rfl) ok_76 ?_
  refine ws_icmp_ge (tgt := 39) (dcd d_m_mixSquare_0 5 rfl) (by decide) (fun c1 => ?_) (fun c1 => ?_)
  · have h := h.1 c1
    refine ws_aload_n 0 (dcd d_m_mixSquare_0 21 rfl) rfl ?_
    refine ws_aload_n 0 (dcd d_m_mixSquare_0 22 rfl) rfl ?_
    refine ws_getI f_m_165 rfl (dcd d_m_mixSquare_0 23 rfl) ok_76 ?_
    refine ws_callVV (o := 76) (As := [.int (mI u 76 19)]) (st := []) (la := [(0, .ref 76), (1, .int (mI u 76 19))]) (dcd d_m_mixSquare_0 24 rfl) cv_m_mix k_m_289 ⟨by decide, by decide⟩ ok_76 rfl (Nat.le_of_ble_eq_true rfl) (Nat.le_of_ble_eq_true rfl) rfl rfl sp_m_mix ?_
    rintro _ rfl
    refine ws_iconst (v := 0) (dcd d_m_mixSquare_0 25 rfl) (by decide) ?_
    refine ws_istore_n (l' := [(1, .int 0), (0, .ref 76)]) (dcd d_m_mixSquare_0 26 rfl) (by decide) rfl ?_
    exact ws_loc [1, 0] rfl h
  · have h := h.2 c1
    refine ws_iconst (v := 0) (dcd d_m_mixSquare_0 6 rfl) (by decide) ?_
    refine ws_istore_n (l' := [(2, .int 0), (0, .ref 76), (1, .int x1)]) (dcd d_m_mixSquare_0 7 rfl) (by decide) rfl ?_
    exact ws_loc [1, 2, 0] rfl h
theorem sg_m_mixSquare_49 {x1 : Int32}  (h : (((3 * (mI u 76 28)) ≤ x1 → Ws G m_mixSquare 77 [(0, .ref 76), (1, .int 0)] [] u Q) ∧ (¬ ((3 * (mI u 76 28)) ≤ x1) → (vp_in x1 36 ∧ Ws G m_mixSquare 49 [(0, .ref 76), (1, .int (x1 + 1))] [] (pL u 76 32 (31 * (mL u 76 32) + ((mI u 92 (x1 : Int32).toNatClampNeg) : Int32).toInt64)) Q)))) : Ws G m_mixSquare 49 [(0, .ref 76), (1, .int x1)] [] u Q := by
  refine ws_iload_n 1 (dcd d_m_mixSquare_0 27 rfl) rfl ?_
  refine ws_iconst (v := 3) (dcd d_m_mixSquare_0 28 rfl) (by decide) ?_
  refine ws_aload_n 0 (dcd d_m_mixSquare_0 29 rfl) rfl ?_
  refine ws_getI f_m_168 rfl (dcd d_m_mixSquare_1 0 rfl) ok_76 ?_
  refine ws_imul (dcd d_m_mixSquare_1 1 rfl) ?_
  refine ws_icmp_ge (tgt := 75) (dcd d_m_mixSquare_1 2 rfl) (by decide) (fun c1 => ?_) (fun c1 => ?_)
  · have h := h.1 c1
    refine ws_iconst (v := 0) (dcd d_m_mixSquare_1 11 rfl) (by decide) ?_
    refine ws_istore_n (l' := [(1, .int 0), (0, .ref 76)]) (dcd d_m_mixSquare_1 12 rfl) (by decide) rfl ?_
    exact ws_loc [1, 0] rfl h
  · have h := h.2 c1
    refine ws_aload_n 0 (dcd d_m_mixSquare_1 3 rfl) rfl ?_
    refine ws_aload_n 0 (dcd d_m_mixSquare_1 4 rfl) rfl ?_
    refine ws_getF (a := 92) f_m_59 rfl (dcd d_m_mixSquare_1 5 rfl) ok_76 of_8_27 rfl ?_
    refine ws_iload_n 1 (dcd d_m_mixSquare_1 6 rfl) rfl ?_
    obtain ⟨e2, h⟩ := h
    refine ws_iald (L := 36) (dcd d_m_mixSquare_1 7 rfl) (os_8_27 ok_76) (ol_8_27 ok_76) e2 ?_
    refine ws_callVV (o := 76) (As := [.int (mI u 92 (x1 : Int32).toNatClampNeg)]) (st := []) (la := [(0, .ref 76), (1, .int (mI u 92 (x1 : Int32).toNatClampNeg))]) (dcd d_m_mixSquare_1 8 rfl) cv_m_mix k_m_289 ⟨by decide, by decide⟩ ok_76 rfl (Nat.le_of_ble_eq_true rfl) (Nat.le_of_ble_eq_true rfl) rfl rfl sp_m_mix ?_
    rintro _ rfl
    refine ws_iinc (v := 1) (l' := [(1, .int (x1 + 1)), (0, .ref 76)]) 1 (dcd d_m_mixSquare_1 9 rfl) rfl (by decide) (by decide) rfl ?_
    refine ws_goto (tgt := 49) (dcd d_m_mixSquare_1 10 rfl) (by decide) ?_
    exact ws_loc [1, 0] rfl h
theorem sg_m_mixSquare_12 {x1 : Int32} {x2 : Int32}  (h : ((5 < x2 → Ws G m_mixSquare 2 [(0, .ref 76), (1, .int (x1 + 1))] [] u Q) ∧ (¬ (5 < x2) → Ws G m_aboutOf 0 [(0, .ref 76), (1, .int x1), (2, .int x2)] [] u (RI fun a2 u2 => Ws G m_mixSquare 12 [(0, .ref 76), (1, .int x1), (2, .int (x2 + 1))] [] (pL u2 76 32 (31 * (mL u2 76 32) + (a2 : Int32).toInt64)) Q)))) : Ws G m_mixSquare 12 [(0, .ref 76), (1, .int x1), (2, .int x2)] [] u Q := by
  refine ws_iload_n 2 (dcd d_m_mixSquare_0 8 rfl) rfl ?_
  refine ws_iconst (v := 5) (dcd d_m_mixSquare_0 9 rfl) (by decide) ?_
  refine ws_icmp_gt (tgt := 33) (dcd d_m_mixSquare_0 10 rfl) (by decide) (fun c1 => ?_) (fun c1 => ?_)
  · have h := h.1 c1
    refine ws_iinc (v := 1) (l' := [(1, .int (x1 + 1)), (0, .ref 76), (2, .int x2)]) 1 (dcd d_m_mixSquare_0 19 rfl) rfl (by decide) (by decide) rfl ?_
    refine ws_goto (tgt := 2) (dcd d_m_mixSquare_0 20 rfl) (by decide) ?_
    exact ws_loc [1, 0] rfl h
  · have h := h.2 c1
    refine ws_aload_n 0 (dcd d_m_mixSquare_0 11 rfl) rfl ?_
    refine ws_aload_n 0 (dcd d_m_mixSquare_0 12 rfl) rfl ?_
    refine ws_iload_n 1 (dcd d_m_mixSquare_0 13 rfl) rfl ?_
    refine ws_iload_n 2 (dcd d_m_mixSquare_0 14 rfl) rfl ?_
    refine ws_callVI (o := 76) (As := [.int x1, .int x2]) (st := [.ref 76]) (la := [(0, .ref 76), (1, .int x1), (2, .int x2)]) (dcd d_m_mixSquare_0 15 rfl) cv_m_aboutOf k_m_174 ⟨by decide, by decide⟩ ok_76 rfl (Nat.le_of_ble_eq_true rfl) (Nat.le_of_ble_eq_true rfl) rfl rfl h (fun a2 u2 h => ?_)
    refine ws_callVV (o := 76) (As := [.int a2]) (st := []) (la := [(0, .ref 76), (1, .int a2)]) (dcd d_m_mixSquare_0 16 rfl) cv_m_mix k_m_289 ⟨by decide, by decide⟩ ok_76 rfl (Nat.le_of_ble_eq_true rfl) (Nat.le_of_ble_eq_true rfl) rfl rfl sp_m_mix ?_
    rintro _ rfl
    refine ws_iinc (v := 1) (l' := [(2, .int (x2 + 1)), (0, .ref 76), (1, .int x1)]) 2 (dcd d_m_mixSquare_0 17 rfl) rfl (by decide) (by decide) rfl ?_
    refine ws_goto (tgt := 12) (dcd d_m_mixSquare_0 18 rfl) (by decide) ?_
    exact ws_loc [1, 2, 0] rfl h
theorem sg_m_mixSquare_77 {x1 : Int32}  (h : ((3 ≤ x1 → Q none u) ∧ (¬ (3 ≤ x1) → (vp_in (10 * x1) 30 ∧ ((¬ (mI u 87 ((10 * x1) : Int32).toNatClampNeg) = (-9) → (vp_in (10 * x1) 30 ∧ Ws G m_mixSquare 77 [(0, .ref 76), (1, .int (x1 + 1))] [] (pL u 76 32 (31 * (mL u 76 32) + ((mI u 87 ((10 * x1) : Int32).toNatClampNeg) : Int32).toInt64)) Q)) ∧ ((mI u 87 ((10 * x1) : Int32).toNatClampNeg) = (-9) → Ws G m_mixSquare 77 [(0, .ref 76), (1, .int (x1 + 1))] [] (pL u 76 32 (31 * (mL u 76 32) + ((-1) : Int32).toInt64)) Q)))))) : Ws G m_mixSquare 77 [(0, .ref 76), (1, .int x1)] [] u Q := by
  refine ws_iload_n 1 (dcd d_m_mixSquare_1 13 rfl) rfl ?_
  refine ws_iconst (v := 3) (dcd d_m_mixSquare_1 14 rfl) (by decide) ?_
  refine ws_icmp_ge (tgt := 119) (dcd d_m_mixSquare_1 15 rfl) (by decide) (fun c1 => ?_) (fun c1 => ?_)
  · have h := h.1 c1
    exact ws_vret (dcd d_m_mixSquare_2 6 rfl) rfl h
  · have h := h.2 c1
    refine ws_aload_n 0 (dcd d_m_mixSquare_1 16 rfl) rfl ?_
    refine ws_aload_n 0 (dcd d_m_mixSquare_1 17 rfl) rfl ?_
    refine ws_getF (a := 87) f_m_44 rfl (dcd d_m_mixSquare_1 18 rfl) ok_76 of_8_22 rfl ?_
    refine ws_bipush (v := 10) (dcd d_m_mixSquare_1 19 rfl) (by decide) ?_
    refine ws_iload_n 1 (dcd d_m_mixSquare_1 20 rfl) rfl ?_
    refine ws_imul (dcd d_m_mixSquare_1 21 rfl) ?_
    obtain ⟨e2, h⟩ := h
    refine ws_iald (L := 30) (dcd d_m_mixSquare_1 22 rfl) (os_8_22 ok_76) (ol_8_22 ok_76) e2 ?_
    refine ws_bipush (v := (-9)) (dcd d_m_mixSquare_1 23 rfl) (by decide) ?_
    refine ws_icmp_ne (tgt := 101) (dcd d_m_mixSquare_1 24 rfl) (by decide) (fun c3 => ?_) (fun c3 => ?_)
    · have h := h.1 c3
      refine ws_aload_n 0 (dcd d_m_mixSquare_1 27 rfl) rfl ?_
      refine ws_getF (a := 87) f_m_44 rfl (dcd d_m_mixSquare_1 28 rfl) ok_76 of_8_22 rfl ?_
      refine ws_bipush (v := 10) (dcd d_m_mixSquare_1 29 rfl) (by decide) ?_
      refine ws_iload_n 1 (dcd d_m_mixSquare_2 0 rfl) rfl ?_
      refine ws_imul (dcd d_m_mixSquare_2 1 rfl) ?_
      obtain ⟨e4, h⟩ := h
      refine ws_iald (L := 30) (dcd d_m_mixSquare_2 2 rfl) (os_8_22 ok_76) (ol_8_22 ok_76) e4 ?_
      refine ws_callVV (o := 76) (As := [.int (mI u 87 ((10 * x1) : Int32).toNatClampNeg)]) (st := []) (la := [(0, .ref 76), (1, .int (mI u 87 ((10 * x1) : Int32).toNatClampNeg))]) (dcd d_m_mixSquare_2 3 rfl) cv_m_mix k_m_289 ⟨by decide, by decide⟩ ok_76 rfl (Nat.le_of_ble_eq_true rfl) (Nat.le_of_ble_eq_true rfl) rfl rfl sp_m_mix ?_
      rintro _ rfl
      refine ws_iinc (v := 1) (l' := [(1, .int (x1 + 1)), (0, .ref 76)]) 1 (dcd d_m_mixSquare_2 4 rfl) rfl (by decide) (by decide) rfl ?_
      refine ws_goto (tgt := 77) (dcd d_m_mixSquare_2 5 rfl) (by decide) ?_
      exact ws_loc [1, 0] rfl h
    · have h := h.2 c3
      refine ws_iconst (v := (-1)) (dcd d_m_mixSquare_1 25 rfl) (by decide) ?_
      refine ws_goto (tgt := 110) (dcd d_m_mixSquare_1 26 rfl) (by decide) ?_
      refine ws_callVV (o := 76) (As := [.int (-1)]) (st := []) (la := [(0, .ref 76), (1, .int (-1))]) (dcd d_m_mixSquare_2 3 rfl) cv_m_mix k_m_289 ⟨by decide, by decide⟩ ok_76 rfl (Nat.le_of_ble_eq_true rfl) (Nat.le_of_ble_eq_true rfl) rfl rfl sp_m_mix ?_
      rintro _ rfl
      refine ws_iinc (v := 1) (l' := [(1, .int (x1 + 1)), (0, .ref 76)]) 1 (dcd d_m_mixSquare_2 4 rfl) rfl (by decide) (by decide) rfl ?_
      refine ws_goto (tgt := 77) (dcd d_m_mixSquare_2 5 rfl) (by decide) ?_
      exact ws_loc [1, 0] rfl h
end SEG
