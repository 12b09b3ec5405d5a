section SEG
variable {G : pG} {u : pM} {Q : Option Value → pM → Prop}
theorem sg_Pl_rank_0 {o0 : Nat} (k0 : okS o0 2) (h : Ws G Pl_rank 2 [(0, .ref o0), (1, .int 0)] [] u Q) : Ws G Pl_rank 0 [(0, .ref o0)] [] u Q := by
  refine ws_iconst (v := 0) (dcd d_Pl_rank_0 0 rfl) (by decide) ?_
  refine ws_istore_n (l' := [(1, .int 0), (0, .ref o0)]) (dcd d_Pl_rank_0 1 rfl) (by decide) rfl ?_
  exact ws_loc [1, 0] rfl h
theorem sg_Pl_rank_2 {o0 : Nat} {x1 : Int32} (k0 : okS o0 2) (h : (((mI u o0 1) ≤ x1 → Q none u) ∧ (¬ ((mI u o0 1) ≤ x1) → ((7 ≤ x1 → Q none u) ∧ (¬ (7 ≤ x1) → Ws G Pl_rank 18 [(0, .ref o0), (1, .int x1), (2, .int x1)] [] u Q))))) : Ws G Pl_rank 2 [(0, .ref o0), (1, .int x1)] [] u Q := by
  refine ws_iload_n 1 (dcd d_Pl_rank_0 2 rfl) rfl ?_
  refine ws_aload_n 0 (dcd d_Pl_rank_0 3 rfl) rfl ?_
  refine ws_getI f_Pl_15 rfl (dcd d_Pl_rank_0 4 rfl) k0 ?_
  refine ws_icmp_ge (tgt := 71) (dcd d_Pl_rank_0 5 rfl) (by decide) (fun c1 => ?_) (fun c1 => ?_)
  · have h := h.1 c1
    exact ws_vret (dcd d_Pl_rank_1 12 rfl) rfl h
  · have h := h.2 c1
    refine ws_iload_n 1 (dcd d_Pl_rank_0 6 rfl) rfl ?_
    refine ws_bipush (v := 7) (dcd d_Pl_rank_0 7 rfl) (by decide) ?_
    refine ws_icmp_ge (tgt := 71) (dcd d_Pl_rank_0 8 rfl) (by decide) (fun c2 => ?_) (fun c2 => ?_)
    · have h := h.1 c2
      exact ws_vret (dcd d_Pl_rank_1 12 rfl) rfl h
    · have h := h.2 c2
      refine ws_iload_n 1 (dcd d_Pl_rank_0 9 rfl) rfl ?_
      refine ws_istore_n (l' := [(2, .int x1), (0, .ref o0), (1, .int x1)]) (dcd d_Pl_rank_0 10 rfl) (by decide) rfl ?_
      exact ws_loc [1, 2, 0] rfl h
theorem sg_Pl_rank_18 {o0 : Nat} {x1 : Int32} {x2 : Int32} (k0 : okS o0 2) (h : ((x2 ≤ 0 → (vp_in x2 7 ∧ Ws G Pl_rank 2 [(0, .ref o0), (1, .int (x1 + 1))] [] (pI u (o0 + 3) (x2 : Int32).toNatClampNeg x1) Q)) ∧ (¬ (x2 ≤ 0) → (vp_in (x2 - 1) 7 ∧ Ws G Pl_isAhead 0 [(0, .ref o0), (1, .int x1), (2, .int (mI u (o0 + 3) ((x2 - 1) : Int32).toNatClampNeg))] [] u (RI fun a4 u4 => ((a4 = 0 → (vp_in x2 7 ∧ Ws G Pl_rank 2 [(0, .ref o0), (1, .int (x1 + 1))] [] (pI u4 (o0 + 3) (x2 : Int32).toNatClampNeg x1) Q)) ∧ (¬ a4 = 0 → (vp_in (x2 - 1) 7 ∧ (vp_in x2 7 ∧ Ws G Pl_rank 18 [(0, .ref o0), (1, .int x1), (2, .int (x2 + (-1)))] [] (pI u4 (o0 + 3) (x2 : Int32).toNatClampNeg (mI u4 (o0 + 3) ((x2 - 1) : Int32).toNatClampNeg)) Q))))))))) : Ws G Pl_rank 18 [(0, .ref o0), (1, .int x1), (2, .int x2)] [] u Q := by
  refine ws_iload_n 2 (dcd d_Pl_rank_0 11 rfl) rfl ?_
  refine ws_if_le (tgt := 58) (dcd d_Pl_rank_0 12 rfl) (by decide) (fun c1 => ?_) (fun c1 => ?_)
  · have h := h.1 c1
    refine ws_aload_n 0 (dcd d_Pl_rank_1 5 rfl) rfl ?_
    refine ws_getF (a := (o0 + 3)) f_Pl_29 rfl (dcd d_Pl_rank_1 6 rfl) k0 of_2_4 rfl ?_
    refine ws_iload_n 2 (dcd d_Pl_rank_1 7 rfl) rfl ?_
    refine ws_iload_n 1 (dcd d_Pl_rank_1 8 rfl) rfl ?_
    obtain ⟨e2, h⟩ := h
    refine ws_iast (L := 7) (dcd d_Pl_rank_1 9 rfl) (os_2_4 k0) (ol_2_4 k0) e2 ?_
    refine ws_iinc (v := 1) (l' := [(1, .int (x1 + 1)), (0, .ref o0), (2, .int x2)]) 1 (dcd d_Pl_rank_1 10 rfl) rfl (by decide) (by decide) rfl ?_
    refine ws_goto (tgt := 2) (dcd d_Pl_rank_1 11 rfl) (by decide) ?_
    exact ws_loc [1, 0] rfl h
  · have h := h.2 c1
    refine ws_aload_n 0 (dcd d_Pl_rank_0 13 rfl) rfl ?_
    refine ws_iload_n 1 (dcd d_Pl_rank_0 14 rfl) rfl ?_
    refine ws_aload_n 0 (dcd d_Pl_rank_0 15 rfl) rfl ?_
    refine ws_getF (a := (o0 + 3)) f_Pl_29 rfl (dcd d_Pl_rank_0 16 rfl) k0 of_2_4 rfl ?_
    refine ws_iload_n 2 (dcd d_Pl_rank_0 17 rfl) rfl ?_
    refine ws_iconst (v := 1) (dcd d_Pl_rank_0 18 rfl) (by decide) ?_
    refine ws_isub (dcd d_Pl_rank_0 19 rfl) ?_
    obtain ⟨e3, h⟩ := h
    refine ws_iald (L := 7) (dcd d_Pl_rank_0 20 rfl) (os_2_4 k0) (ol_2_4 k0) e3 ?_
    refine ws_callVI (o := o0) (As := [.int x1, .int (mI u (o0 + 3) ((x2 - 1) : Int32).toNatClampNeg)]) (st := []) (la := [(0, .ref o0), (1, .int x1), (2, .int (mI u (o0 + 3) ((x2 - 1) : Int32).toNatClampNeg))]) (dcd d_Pl_rank_0 21 rfl) cv_Pl_isAhead k_Pl_124 ⟨by decide, by decide⟩ k0 rfl (Nat.le_of_ble_eq_true rfl) (Nat.le_of_ble_eq_true rfl) rfl rfl h (fun a4 u4 h => ?_)
    refine ws_if_eq (tgt := 58) (dcd d_Pl_rank_0 22 rfl) (by decide) (fun c5 => ?_) (fun c5 => ?_)
    · have h := h.1 c5
      refine ws_aload_n 0 (dcd d_Pl_rank_1 5 rfl) rfl ?_
      refine ws_getF (a := (o0 + 3)) f_Pl_29 rfl (dcd d_Pl_rank_1 6 rfl) k0 of_2_4 rfl ?_
      refine ws_iload_n 2 (dcd d_Pl_rank_1 7 rfl) rfl ?_
      refine ws_iload_n 1 (dcd d_Pl_rank_1 8 rfl) rfl ?_
      obtain ⟨e6, h⟩ := h
      refine ws_iast (L := 7) (dcd d_Pl_rank_1 9 rfl) (os_2_4 k0) (ol_2_4 k0) e6 ?_
      refine ws_iinc (v := 1) (l' := [(1, .int (x1 + 1)), (0, .ref o0), (2, .int x2)]) 1 (dcd d_Pl_rank_1 10 rfl) rfl (by decide) (by decide) rfl ?_
      refine ws_goto (tgt := 2) (dcd d_Pl_rank_1 11 rfl) (by decide) ?_
      exact ws_loc [1, 0] rfl h
    · have h := h.2 c5
      refine ws_aload_n 0 (dcd d_Pl_rank_0 23 rfl) rfl ?_
      refine ws_getF (a := (o0 + 3)) f_Pl_29 rfl (dcd d_Pl_rank_0 24 rfl) k0 of_2_4 rfl ?_
      refine ws_iload_n 2 (dcd d_Pl_rank_0 25 rfl) rfl ?_
      refine ws_aload_n 0 (dcd d_Pl_rank_0 26 rfl) rfl ?_
      refine ws_getF (a := (o0 + 3)) f_Pl_29 rfl (dcd d_Pl_rank_0 27 rfl) k0 of_2_4 rfl ?_
      refine ws_iload_n 2 (dcd d_Pl_rank_0 28 rfl) rfl ?_
      refine ws_iconst (v := 1) (dcd d_Pl_rank_0 29 rfl) (by decide) ?_
      refine ws_isub (dcd d_Pl_rank_1 0 rfl) ?_
      obtain ⟨e7, h⟩ := h
      refine ws_iald (L := 7) (dcd d_Pl_rank_1 1 rfl) (os_2_4 k0) (ol_2_4 k0) e7 ?_
      obtain ⟨e8, h⟩ := h
      refine ws_iast (L := 7) (dcd d_Pl_rank_1 2 rfl) (os_2_4 k0) (ol_2_4 k0) e8 ?_
      refine ws_iinc (v := (-1)) (l' := [(2, .int (x2 + (-1))), (0, .ref o0), (1, .int x1)]) 2 (dcd d_Pl_rank_1 3 rfl) rfl (by decide) (by decide) rfl ?_
      refine ws_goto (tgt := 18) (dcd d_Pl_rank_1 4 rfl) (by decide) ?_
      exact ws_loc [1, 2, 0] rfl h
theorem sg_Pl_isAhead_0 {o0 : Nat} {x1 : Int32} {x2 : Int32} (k0 : okS o0 2) (h : ((¬ (mI u (shO u o0 x1) 0) = 2 → ((¬ (mI u (shO u o0 x2) 0) = 2 → (((mI u (shO u o0 x1) 3) ≤ (mI u (shO u o0 x2) 3) → Q (some (.int 0)) u) ∧ (¬ ((mI u (shO u o0 x1) 3) ≤ (mI u (shO u o0 x2) 3)) → Q (some (.int 1)) u))) ∧ ((mI u (shO u o0 x2) 0) = 2 → Q (some (.int 1)) u))) ∧ ((mI u (shO u o0 x1) 0) = 2 → ((¬ (mI u (shO u o0 x2) 0) = 2 → Q (some (.int 0)) u) ∧ ((mI u (shO u o0 x2) 0) = 2 → (((mI u (shO u o0 x1) 3) ≤ (mI u (shO u o0 x2) 3) → Q (some (.int 0)) u) ∧ (¬ ((mI u (shO u o0 x1) 3) ≤ (mI u (shO u o0 x2) 3)) → Q (some (.int 1)) u))))))) : Ws G Pl_isAhead 0 [(0, .ref o0), (1, .int x1), (2, .int x2)] [] u Q := by
  refine ws_aload_n 0 (dcd d_Pl_isAhead_0 0 rfl) rfl ?_
  refine ws_iload_n 1 (dcd d_Pl_isAhead_0 1 rfl) rfl ?_
  refine ws_callVR (o := o0) (As := [.int x1]) (st := []) (la := [(0, .ref o0), (1, .int x1)]) (dcd d_Pl_isAhead_0 2 rfl) cv_Pl_shopOf k_Pl_44 ⟨by decide, by decide⟩ k0 rfl (Nat.le_of_ble_eq_true rfl) (Nat.le_of_ble_eq_true rfl) rfl rfl (sp_Pl_shopOf k0) ?_
  rintro _ _ ⟨rfl, rfl⟩
  refine ws_astore_n (l' := [(3, .ref (shO u o0 x1)), (0, .ref o0), (1, .int x1), (2, .int x2)]) (dcd d_Pl_isAhead_0 3 rfl) (by decide) rfl ?_
  refine ws_aload_n 1 (dcd d_Pl_isAhead_0 4 rfl) rfl ?_
  refine ws_iload_n 3 (dcd d_Pl_isAhead_0 5 rfl) rfl ?_
  refine ws_callVR (o := o0) (As := [.int x2]) (st := []) (la := [(0, .ref o0), (1, .int x2)]) (dcd d_Pl_isAhead_0 6 rfl) cv_Pl_shopOf k_Pl_44 ⟨by decide, by decide⟩ k0 rfl (Nat.le_of_ble_eq_true rfl) (Nat.le_of_ble_eq_true rfl) rfl rfl (sp_Pl_shopOf k0) ?_
  rintro _ _ ⟨rfl, rfl⟩
  refine ws_astore (l' := [(4, .ref (shO u o0 x2)), (3, .ref (shO u o0 x1)), (0, .ref o0), (1, .int x1), (2, .int x2)]) (dcd d_Pl_isAhead_0 7 rfl) (by decide) rfl ?_
  refine ws_aload_n 1 (dcd d_Pl_isAhead_0 8 rfl) rfl ?_
  refine ws_getI f_Pl_106 rfl (dcd d_Pl_isAhead_0 9 rfl) (shO_ok k0) ?_
  refine ws_iconst (v := 2) (dcd d_Pl_isAhead_0 10 rfl) (by decide) ?_
  refine ws_icmp_ne (tgt := 25) (dcd d_Pl_isAhead_0 11 rfl) (by decide) (fun c1 => ?_) (fun c1 => ?_)
  · have h := h.1 c1
    refine ws_iconst (v := 0) (dcd d_Pl_isAhead_0 14 rfl) (by decide) ?_
    refine ws_istore (l' := [(5, .int 0), (4, .ref (shO u o0 x2)), (3, .ref (shO u o0 x1)), (0, .ref o0), (1, .int x1), (2, .int x2)]) (dcd d_Pl_isAhead_0 15 rfl) (by decide) rfl ?_
    refine ws_iload 0 (dcd d_Pl_isAhead_0 16 rfl) rfl ?_
    refine ws_aload 1 (dcd d_Pl_isAhead_0 17 rfl) rfl ?_
    refine ws_getI f_Pl_106 rfl (dcd d_Pl_isAhead_0 18 rfl) (shO_ok k0) ?_
    refine ws_iconst (v := 2) (dcd d_Pl_isAhead_0 19 rfl) (by decide) ?_
    refine ws_icmp_ne (tgt := 43) (dcd d_Pl_isAhead_0 20 rfl) (by decide) (fun c2 => ?_) (fun c2 => ?_)
    · have h := h.1 c2
      refine ws_iconst (v := 0) (dcd d_Pl_isAhead_0 23 rfl) (by decide) ?_
      refine ws_icmp_eq (tgt := 58) (dcd d_Pl_isAhead_0 24 rfl) (by decide) (fun _ => ?_) (fun c => absurd (show (0 : Int32) = 0 from by decide) c)
      refine ws_aload_n 2 (dcd d_Pl_isAhead_1 1 rfl) rfl ?_
      refine ws_getI f_Pl_118 rfl (dcd d_Pl_isAhead_1 2 rfl) (shO_ok k0) ?_
      refine ws_aload 1 (dcd d_Pl_isAhead_1 3 rfl) rfl ?_
      refine ws_getI f_Pl_118 rfl (dcd d_Pl_isAhead_1 4 rfl) (shO_ok k0) ?_
      refine ws_icmp_le (tgt := 74) (dcd d_Pl_isAhead_1 5 rfl) (by decide) (fun c4 => ?_) (fun c4 => ?_)
      · have h := h.1 c4
        refine ws_iconst (v := 0) (dcd d_Pl_isAhead_1 8 rfl) (by decide) ?_
        exact ws_iret (dcd d_Pl_isAhead_1 9 rfl) ⟨_, rfl, by decide⟩ h
      · have h := h.2 c4
        refine ws_iconst (v := 1) (dcd d_Pl_isAhead_1 6 rfl) (by decide) ?_
        refine ws_goto (tgt := 75) (dcd d_Pl_isAhead_1 7 rfl) (by decide) ?_
        exact ws_iret (dcd d_Pl_isAhead_1 9 rfl) ⟨_, rfl, by decide⟩ h
    · have h := h.2 c2
      refine ws_iconst (v := 1) (dcd d_Pl_isAhead_0 21 rfl) (by decide) ?_
      refine ws_goto (tgt := 44) (dcd d_Pl_isAhead_0 22 rfl) (by decide) ?_
      refine ws_icmp_eq (tgt := 58) (dcd d_Pl_isAhead_0 24 rfl) (by decide) (fun c => absurd c (by decide)) (fun _ => ?_)
      refine ws_iload 0 (dcd d_Pl_isAhead_0 25 rfl) rfl ?_
      refine ws_if_ne (tgt := 56) (dcd d_Pl_isAhead_0 26 rfl) (by decide) (fun c => absurd (show (0 : Int32) = 0 from by decide) c) (fun _ => ?_)
      refine ws_iconst (v := 1) (dcd d_Pl_isAhead_0 27 rfl) (by decide) ?_
      refine ws_goto (tgt := 57) (dcd d_Pl_isAhead_0 28 rfl) (by decide) ?_
      exact ws_iret (dcd d_Pl_isAhead_1 0 rfl) ⟨_, rfl, by decide⟩ h
  · have h := h.2 c1
    refine ws_iconst (v := 1) (dcd d_Pl_isAhead_0 12 rfl) (by decide) ?_
    refine ws_goto (tgt := 26) (dcd d_Pl_isAhead_0 13 rfl) (by decide) ?_
    refine ws_istore (l' := [(5, .int 1), (4, .ref (shO u o0 x2)), (3, .ref (shO u o0 x1)), (0, .ref o0), (1, .int x1), (2, .int x2)]) (dcd d_Pl_isAhead_0 15 rfl) (by decide) rfl ?_
    refine ws_iload 0 (dcd d_Pl_isAhead_0 16 rfl) rfl ?_
    refine ws_aload 1 (dcd d_Pl_isAhead_0 17 rfl) rfl ?_
    refine ws_getI f_Pl_106 rfl (dcd d_Pl_isAhead_0 18 rfl) (shO_ok k0) ?_
    refine ws_iconst (v := 2) (dcd d_Pl_isAhead_0 19 rfl) (by decide) ?_
    refine ws_icmp_ne (tgt := 43) (dcd d_Pl_isAhead_0 20 rfl) (by decide) (fun c7 => ?_) (fun c7 => ?_)
    · have h := h.1 c7
      refine ws_iconst (v := 0) (dcd d_Pl_isAhead_0 23 rfl) (by decide) ?_
      refine ws_icmp_eq (tgt := 58) (dcd d_Pl_isAhead_0 24 rfl) (by decide) (fun c => absurd c (by decide)) (fun _ => ?_)
      refine ws_iload 0 (dcd d_Pl_isAhead_0 25 rfl) rfl ?_
      refine ws_if_ne (tgt := 56) (dcd d_Pl_isAhead_0 26 rfl) (by decide) (fun _ => ?_) (fun c => absurd c (by decide))
      refine ws_iconst (v := 0) (dcd d_Pl_isAhead_0 29 rfl) (by decide) ?_
      exact ws_iret (dcd d_Pl_isAhead_1 0 rfl) ⟨_, rfl, by decide⟩ h
    · have h := h.2 c7
      refine ws_iconst (v := 1) (dcd d_Pl_isAhead_0 21 rfl) (by decide) ?_
      refine ws_goto (tgt := 44) (dcd d_Pl_isAhead_0 22 rfl) (by decide) ?_
      refine ws_icmp_eq (tgt := 58) (dcd d_Pl_isAhead_0 24 rfl) (by decide) (fun _ => ?_) (fun c => absurd (show (1 : Int32) = 1 from by decide) c)
      refine ws_aload_n 2 (dcd d_Pl_isAhead_1 1 rfl) rfl ?_
      refine ws_getI f_Pl_118 rfl (dcd d_Pl_isAhead_1 2 rfl) (shO_ok k0) ?_
      refine ws_aload 1 (dcd d_Pl_isAhead_1 3 rfl) rfl ?_
      refine ws_getI f_Pl_118 rfl (dcd d_Pl_isAhead_1 4 rfl) (shO_ok k0) ?_
      refine ws_icmp_le (tgt := 74) (dcd d_Pl_isAhead_1 5 rfl) (by decide) (fun c11 => ?_) (fun c11 => ?_)
      · have h := h.1 c11
        refine ws_iconst (v := 0) (dcd d_Pl_isAhead_1 8 rfl) (by decide) ?_
        exact ws_iret (dcd d_Pl_isAhead_1 9 rfl) ⟨_, rfl, by decide⟩ h
      · have h := h.2 c11
        refine ws_iconst (v := 1) (dcd d_Pl_isAhead_1 6 rfl) (by decide) ?_
        refine ws_goto (tgt := 75) (dcd d_Pl_isAhead_1 7 rfl) (by decide) ?_
        exact ws_iret (dcd d_Pl_isAhead_1 9 rfl) ⟨_, rfl, by decide⟩ h
theorem sg_Sn_begin_0 {o0 : Nat} {o1 : Nat} (k0 : okS o0 5) (k1 : okS o1 2) (h : Ws G Sn_begin 12 [(0, .ref o0), (1, .ref o1), (2, .int 0)] [] (pI (pI u o0 0 0) o0 1 0) Q) : Ws G Sn_begin 0 [(0, .ref o0), (1, .ref o1)] [] u Q := by
  refine ws_aload_n 0 (dcd d_Sn_begin_0 0 rfl) rfl ?_
  refine ws_iconst (v := 0) (dcd d_Sn_begin_0 1 rfl) (by decide) ?_
  refine ws_putI f_Sn_9 rfl nf_5_0 (dcd d_Sn_begin_0 2 rfl) k0 ?_
  refine ws_aload_n 0 (dcd d_Sn_begin_0 3 rfl) rfl ?_
  refine ws_iconst (v := 0) (dcd d_Sn_begin_0 4 rfl) (by decide) ?_
  refine ws_putI f_Sn_15 rfl nf_5_1 (dcd d_Sn_begin_0 5 rfl) k0 ?_
  refine ws_iconst (v := 0) (dcd d_Sn_begin_0 6 rfl) (by decide) ?_
  refine ws_istore_n (l' := [(2, .int 0), (0, .ref o0), (1, .ref o1)]) (dcd d_Sn_begin_0 7 rfl) (by decide) rfl ?_
  exact ws_loc [1, 2, 0] rfl h
theorem sg_Sn_begin_12 {o0 : Nat} {o1 : Nat} {x2 : Int32} (k0 : okS o0 5) (k1 : okS o1 2) (h : (((mI u o1 1) ≤ x2 → Q none u) ∧ (¬ ((mI u o1 1) ≤ x2) → Ws G Sn_begin 12 [(0, .ref o0), (1, .ref o1), (2, .int (x2 + 1))] [] (snS u o0 x2 (mI u (shO u o1 x2) 1)) Q))) : Ws G Sn_begin 12 [(0, .ref o0), (1, .ref o1), (2, .int x2)] [] u Q := by
  refine ws_iload_n 2 (dcd d_Sn_begin_0 8 rfl) rfl ?_
  refine ws_aload_n 1 (dcd d_Sn_begin_0 9 rfl) rfl ?_
  refine ws_getI f_Sn_22 rfl (dcd d_Sn_begin_0 10 rfl) k1 ?_
  refine ws_icmp_ge (tgt := 39) (dcd d_Sn_begin_0 11 rfl) (by decide) (fun c1 => ?_) (fun c1 => ?_)
  · have h := h.1 c1
    exact ws_vret (dcd d_Sn_begin_0 21 rfl) rfl h
  · have h := h.2 c1
    refine ws_aload_n 0 (dcd d_Sn_begin_0 12 rfl) rfl ?_
    refine ws_iload_n 2 (dcd d_Sn_begin_0 13 rfl) rfl ?_
    refine ws_aload_n 1 (dcd d_Sn_begin_0 14 rfl) rfl ?_
    refine ws_iload_n 2 (dcd d_Sn_begin_0 15 rfl) rfl ?_
    refine ws_callVR (o := o1) (As := [.int x2]) (st := [.int x2, .ref o0]) (la := [(0, .ref o1), (1, .int x2)]) (dcd d_Sn_begin_0 16 rfl) cv_Pl_shopOf k_Sn_27 ⟨by decide, by decide⟩ k1 rfl (Nat.le_of_ble_eq_true rfl) (Nat.le_of_ble_eq_true rfl) rfl rfl (sp_Pl_shopOf k1) ?_
    rintro _ _ ⟨rfl, rfl⟩
    refine ws_getI f_Sn_31 rfl (dcd d_Sn_begin_0 17 rfl) (shO_ok k1) ?_
    refine ws_callVV (o := o0) (As := [.int x2, .int (mI u (shO u o1 x2) 1)]) (st := []) (la := [(0, .ref o0), (1, .int x2), (2, .int (mI u (shO u o1 x2) 1))]) (dcd d_Sn_begin_0 18 rfl) cv_Sn_setDoor k_Sn_36 ⟨by decide, by decide⟩ k0 rfl (Nat.le_of_ble_eq_true rfl) (Nat.le_of_ble_eq_true rfl) rfl rfl (sp_Sn_setDoor k0) ?_
    rintro _ rfl
    refine ws_iinc (v := 1) (l' := [(2, .int (x2 + 1)), (0, .ref o0), (1, .ref o1)]) 2 (dcd d_Sn_begin_0 19 rfl) rfl (by decide) (by decide) rfl ?_
    refine ws_goto (tgt := 12) (dcd d_Sn_begin_0 20 rfl) (by decide) ?_
    exact ws_loc [1, 2, 0] rfl h
theorem sg_D_about_0 {x1 : Int32} {x2 : Int32}  (h : (pl (mR u 2 10) → (((plS u (mR u 2 10) x1) → ((x2 < 0 → Q (some (.int (-1))) u) ∧ (¬ (x2 < 0) → ((x2 ≤ 5 → Ws G D_trait 0 [(0, .ref 2), (1, .int x1), (2, .int x2)] [] u (RI fun a6 u6 => Q (some (.int 1)) (pI u6 2 12 a6))) ∧ (¬ (x2 ≤ 5) → Q (some (.int (-1))) u))))) ∧ (¬ (plS u (mR u 2 10) x1) → Q (some (.int (-1))) u)))) : Ws G D_about 0 [(0, .ref 2), (1, .int x1), (2, .int x2)] [] u Q := by
  refine ws_aload_n 0 (dcd d_D_about_0 0 rfl) rfl ?_
  refine ws_getP (by decide) f_D_63 (dcd d_D_about_0 1 rfl) (fun j1 => ?_)
  have h := h j1
  refine ws_iload_n 1 (dcd d_D_about_0 2 rfl) rfl ?_
  refine ws_callVI (o := (mR u 2 10)) (As := [.int x1]) (st := []) (la := [(0, .ref (mR u 2 10)), (1, .int x1)]) (dcd d_D_about_0 3 rfl) cv_Pl_hasShop k_D_164 ⟨by decide, by decide⟩ (pl_ok j1) rfl (Nat.le_of_ble_eq_true rfl) (Nat.le_of_ble_eq_true rfl) rfl rfl (sp_Pl_hasShop (pl_ok j1)) ?_
  rintro _ _ ⟨rfl, ⟨rfl, c2⟩ | ⟨rfl, c2⟩⟩
  · have h := h.1 c2
    refine ws_if_eq (tgt := 20) (dcd d_D_about_0 4 rfl) (by decide) (fun c => absurd c (by decide)) (fun _ => ?_)
    refine ws_iload_n 2 (dcd d_D_about_0 5 rfl) rfl ?_
    refine ws_if_lt (tgt := 20) (dcd d_D_about_0 6 rfl) (by decide) (fun c4 => ?_) (fun c4 => ?_)
    · have h := h.1 c4
      refine ws_iconst (v := (-1)) (dcd d_D_about_0 10 rfl) (by decide) ?_
      exact ws_iret (dcd d_D_about_0 11 rfl) ⟨_, rfl, rfl⟩ h
    · have h := h.2 c4
      refine ws_iload_n 2 (dcd d_D_about_0 7 rfl) rfl ?_
      refine ws_iconst (v := 5) (dcd d_D_about_0 8 rfl) (by decide) ?_
      refine ws_icmp_le (tgt := 22) (dcd d_D_about_0 9 rfl) (by decide) (fun c5 => ?_) (fun c5 => ?_)
      · have h := h.1 c5
        refine ws_aload_n 0 (dcd d_D_about_0 12 rfl) rfl ?_
        refine ws_aload_n 0 (dcd d_D_about_0 13 rfl) rfl ?_
        refine ws_iload_n 1 (dcd d_D_about_0 14 rfl) rfl ?_
        refine ws_iload_n 2 (dcd d_D_about_0 15 rfl) rfl ?_
        refine ws_callVI (o := 2) (As := [.int x1, .int x2]) (st := [.ref 2]) (la := [(0, .ref 2), (1, .int x1), (2, .int x2)]) (dcd d_D_about_0 16 rfl) cv_D_trait k_D_167 ⟨by decide, by decide⟩ ok_2 rfl (Nat.le_of_ble_eq_true rfl) (Nat.le_of_ble_eq_true rfl) rfl rfl h (fun a6 u6 h => ?_)
        refine ws_iconst (v := 1) (dcd d_D_about_0 17 rfl) (by decide) ?_
        refine ws_callVI (o := 2) (As := [.int a6, .int 1]) (st := []) (la := [(0, .ref 2), (1, .int a6), (2, .int 1)]) (dcd d_D_about_0 18 rfl) cv_D_tell k_D_113 ⟨by decide, by decide⟩ ok_2 rfl (Nat.le_of_ble_eq_true rfl) (Nat.le_of_ble_eq_true rfl) rfl rfl sp_D_tell ?_
        rintro _ _ ⟨rfl, rfl⟩
        exact ws_iret (dcd d_D_about_0 19 rfl) ⟨_, rfl, rfl⟩ h
      · have h := h.2 c5
        refine ws_iconst (v := (-1)) (dcd d_D_about_0 10 rfl) (by decide) ?_
        exact ws_iret (dcd d_D_about_0 11 rfl) ⟨_, rfl, rfl⟩ h
  · have h := h.2 c2
    refine ws_if_eq (tgt := 20) (dcd d_D_about_0 4 rfl) (by decide) (fun _ => ?_) (fun c => absurd (show (0 : Int32) = 0 from by decide) c)
    refine ws_iconst (v := (-1)) (dcd d_D_about_0 10 rfl) (by decide) ?_
    exact ws_iret (dcd d_D_about_0 11 rfl) ⟨_, rfl, rfl⟩ h
theorem sg_D_trait_0 {x1 : Int32} {x2 : Int32}  (h : (pl (mR u 2 10) → ((x2 = 0 → Q (some (.int (mI u (shO u (mR u 2 10) x1) 0))) u) ∧ (x2 = 1 → Q (some (.int (snD u 7 x1))) u) ∧ (x2 = 2 → Q (some (.int (mI u (shO u (mR u 2 10) x1) 2))) u) ∧ (x2 = 3 → Q (some (.int (mI u (shO u (mR u 2 10) x1) 3))) u) ∧ (x2 = 4 → Q (some (.int (mI u (shO u (mR u 2 10) x1) 4))) u) ∧ (¬ x2 = 0 ∧ ¬ x2 = 1 ∧ ¬ x2 = 2 ∧ ¬ x2 = 3 ∧ ¬ x2 = 4 → Q (some (.int (mI u (shO u (mR u 2 10) x1) 1))) u)))) : Ws G D_trait 0 [(0, .ref 2), (1, .int x1), (2, .int x2)] [] u Q := by
  refine ws_aload_n 0 (dcd d_D_trait_0 0 rfl) rfl ?_
  refine ws_getP (by decide) f_D_63 (dcd d_D_trait_0 1 rfl) (fun j1 => ?_)
  have h := h j1
  refine ws_iload_n 1 (dcd d_D_trait_0 2 rfl) rfl ?_
  refine ws_callVR (o := (mR u 2 10)) (As := [.int x1]) (st := []) (la := [(0, .ref (mR u 2 10)), (1, .int x1)]) (dcd d_D_trait_0 3 rfl) cv_Pl_shopOf k_D_170 ⟨by decide, by decide⟩ (pl_ok j1) rfl (Nat.le_of_ble_eq_true rfl) (Nat.le_of_ble_eq_true rfl) rfl rfl (sp_Pl_shopOf (pl_ok j1)) ?_
  rintro _ _ ⟨rfl, rfl⟩
  refine ws_astore_n (l' := [(3, .ref (shO u (mR u 2 10) x1)), (0, .ref 2), (1, .int x1), (2, .int x2)]) (dcd d_D_trait_0 4 rfl) (by decide) rfl ?_
  refine ws_iload_n 3 (dcd d_D_trait_0 5 rfl) rfl ?_
  by_cases c3 : x2 = 0
  · have h := h.1 c3
    refine ws_tableIn (off := 34) (tgt := 44) 0 (dcd d_D_trait_0 6 rfl) (by rw [c3]; decide) (by decide) rfl (by decide) ?_
    refine ws_aload_n 0 (dcd d_D_trait_0 7 rfl) rfl ?_
    refine ws_getI f_D_298 rfl (dcd d_D_trait_0 8 rfl) (shO_ok (pl_ok j1)) ?_
    exact ws_iret (dcd d_D_trait_0 9 rfl) ⟨_, rfl, rfl⟩ h
  by_cases c4 : x2 = 1
  · have h := h.2.1 c4
    refine ws_tableIn (off := 39) (tgt := 49) 1 (dcd d_D_trait_0 6 rfl) (by rw [c4]; decide) (by decide) rfl (by decide) ?_
    refine ws_aload_n 1 (dcd d_D_trait_0 10 rfl) rfl ?_
    refine ws_getF (a := 7) f_D_28 rfl (dcd d_D_trait_0 11 rfl) ok_2 of_7_3 rfl ?_
    refine ws_iload_n 2 (dcd d_D_trait_0 12 rfl) rfl ?_
    refine ws_callVI (o := 7) (As := [.int x1]) (st := []) (la := [(0, .ref 7), (1, .int x1)]) (dcd d_D_trait_0 13 rfl) cv_Sn_doorOf k_D_217 ⟨by decide, by decide⟩ (os_7_3 ok_2) rfl (Nat.le_of_ble_eq_true rfl) (Nat.le_of_ble_eq_true rfl) rfl rfl (sp_Sn_doorOf (os_7_3 ok_2)) ?_
    rintro _ _ ⟨rfl, rfl⟩
    exact ws_iret (dcd d_D_trait_0 14 rfl) ⟨_, rfl, rfl⟩ h
  by_cases c5 : x2 = 2
  · have h := h.2.2.1 c5
    refine ws_tableIn (off := 48) (tgt := 58) 2 (dcd d_D_trait_0 6 rfl) (by rw [c5]; decide) (by decide) rfl (by decide) ?_
    refine ws_aload_n 0 (dcd d_D_trait_0 15 rfl) rfl ?_
    refine ws_getI f_D_246 rfl (dcd d_D_trait_0 16 rfl) (shO_ok (pl_ok j1)) ?_
    exact ws_iret (dcd d_D_trait_0 17 rfl) ⟨_, rfl, rfl⟩ h
  by_cases c6 : x2 = 3
  · have h := h.2.2.2.1 c6
    refine ws_tableIn (off := 53) (tgt := 63) 3 (dcd d_D_trait_0 6 rfl) (by rw [c6]; decide) (by decide) rfl (by decide) ?_
    refine ws_aload_n 0 (dcd d_D_trait_0 18 rfl) rfl ?_
    refine ws_getI f_D_347 rfl (dcd d_D_trait_0 19 rfl) (shO_ok (pl_ok j1)) ?_
    exact ws_iret (dcd d_D_trait_0 20 rfl) ⟨_, rfl, rfl⟩ h
  by_cases c7 : x2 = 4
  · have h := h.2.2.2.2.1 c7
    refine ws_tableIn (off := 58) (tgt := 68) 4 (dcd d_D_trait_0 6 rfl) (by rw [c7]; decide) (by decide) rfl (by decide) ?_
    refine ws_aload_n 0 (dcd d_D_trait_0 21 rfl) rfl ?_
    refine ws_getI f_D_191 rfl (dcd d_D_trait_0 22 rfl) (shO_ok (pl_ok j1)) ?_
    exact ws_iret (dcd d_D_trait_0 23 rfl) ⟨_, rfl, rfl⟩ h
  have h := h.2.2.2.2.2 ⟨c3, c4, c5, c6, c7⟩
  have nc3 := lv_neT c3 (a := 0) (by decide)
  have nc4 := lv_neT c4 (a := 1) (by decide)
  have nc5 := lv_neT c5 (a := 2) (by decide)
  have nc6 := lv_neT c6 (a := 3) (by decide)
  have nc7 := lv_neT c7 (a := 4) (by decide)
  refine ws_tableOut (tgt := 73) (dcd d_D_trait_0 6 rfl) (by omega) (by decide) ?_
  refine ws_aload_n 0 (dcd d_D_trait_0 24 rfl) rfl ?_
  refine ws_getI f_D_350 rfl (dcd d_D_trait_0 25 rfl) (shO_ok (pl_ok j1)) ?_
  exact ws_iret (dcd d_D_trait_0 26 rfl) ⟨_, rfl, rfl⟩ h
theorem sg_D_mark_0 {x1 : Int32} {x2 : Int32}  (h : (pl (mR u 2 10) → (((plS u (mR u 2 10) x1) → ((x2 < 1 → Q (some (.int (-1))) u) ∧ (¬ (x2 < 1) → ((x2 ≤ 5 → (pl (mR u 2 10) → ((((x2 : Int32) = (mI u (shO u (mR u 2 10) x1) 0) ∨ ((x2 : Int32) = 3 ∧ (mI u (shO u (mR u 2 10) x1) 0) = 5)) → ((x2 = 1 → Ws G D_neighbours 0 [(0, .ref 2), (1, .int x1)] [] u (RI fun a11 u11 => Q (some (.int a11)) u11)) ∧ (x2 = 2 → Ws G D_rivals 0 [(0, .ref 2), (1, .int x1)] [] u (RI fun a13 u13 => Q (some (.int a13)) u13)) ∧ (x2 = 3 → Q (some (.int (wtS (mI u (shO u (mR u 2 10) x1) 4) (mI u 7 0)))) u) ∧ (x2 = 4 → Q (some (.int (wtT (mI u (shO u (mR u 2 10) x1) 4) (mI u 7 0)))) u) ∧ (¬ x2 = 1 ∧ ¬ x2 = 2 ∧ ¬ x2 = 3 ∧ ¬ x2 = 4 → Ws G Sh_way 0 [(0, .ref (shO u (mR u 2 10) x1)), (1, .int (mI u 7 0)), (2, .int (mI u (shO u (mR u 2 10) x1) 4))] [] u (RJ fun a16 u16 => Q (some (.int ((a16 : Int64).toInt32 + 1000))) u16)))) ∧ (¬ ((x2 : Int32) = (mI u (shO u (mR u 2 10) x1) 0) ∨ ((x2 : Int32) = 3 ∧ (mI u (shO u (mR u 2 10) x1) 0) = 5)) → Q (some (.int (-3))) (dF u 3))))) ∧ (¬ (x2 ≤ 5) → Q (some (.int (-1))) u))))) ∧ (¬ (plS u (mR u 2 10) x1) → Q (some (.int (-1))) u)))) : Ws G D_mark 0 [(0, .ref 2), (1, .int x1), (2, .int x2)] [] u Q := by
  refine ws_aload_n 0 (dcd d_D_mark_0 0 rfl) rfl ?_
  refine ws_getP (by decide) f_D_63 (dcd d_D_mark_0 1 rfl) (fun j1 => ?_)
  have h := h j1
  refine ws_iload_n 1 (dcd d_D_mark_0 2 rfl) rfl ?_
  refine ws_callVI (o := (mR u 2 10)) (As := [.int x1]) (st := []) (la := [(0, .ref (mR u 2 10)), (1, .int x1)]) (dcd d_D_mark_0 3 rfl) cv_Pl_hasShop k_D_164 ⟨by decide, by decide⟩ (pl_ok j1) rfl (Nat.le_of_ble_eq_true rfl) (Nat.le_of_ble_eq_true rfl) rfl rfl (sp_Pl_hasShop (pl_ok j1)) ?_
  rintro _ _ ⟨rfl, ⟨rfl, c2⟩ | ⟨rfl, c2⟩⟩
  · have h := h.1 c2
    refine ws_if_eq (tgt := 21) (dcd d_D_mark_0 4 rfl) (by decide) (fun c => absurd c (by decide)) (fun _ => ?_)
    refine ws_iload_n 2 (dcd d_D_mark_0 5 rfl) rfl ?_
    refine ws_iconst (v := 1) (dcd d_D_mark_0 6 rfl) (by decide) ?_
    refine ws_icmp_lt (tgt := 21) (dcd d_D_mark_0 7 rfl) (by decide) (fun c4 => ?_) (fun c4 => ?_)
    · have h := h.1 c4
      refine ws_iconst (v := (-1)) (dcd d_D_mark_0 11 rfl) (by decide) ?_
      exact ws_iret (dcd d_D_mark_0 12 rfl) ⟨_, rfl, rfl⟩ h
    · have h := h.2 c4
      refine ws_iload_n 2 (dcd d_D_mark_0 8 rfl) rfl ?_
      refine ws_iconst (v := 5) (dcd d_D_mark_0 9 rfl) (by decide) ?_
      refine ws_icmp_le (tgt := 23) (dcd d_D_mark_0 10 rfl) (by decide) (fun c5 => ?_) (fun c5 => ?_)
      · have h := h.1 c5
        refine ws_aload_n 0 (dcd d_D_mark_0 13 rfl) rfl ?_
        refine ws_getP (by decide) f_D_63 (dcd d_D_mark_0 14 rfl) (fun j6 => ?_)
        have h := h j6
        refine ws_iload_n 1 (dcd d_D_mark_0 15 rfl) rfl ?_
        refine ws_callVR (o := (mR u 2 10)) (As := [.int x1]) (st := []) (la := [(0, .ref (mR u 2 10)), (1, .int x1)]) (dcd d_D_mark_0 16 rfl) cv_Pl_shopOf k_D_170 ⟨by decide, by decide⟩ (pl_ok j6) rfl (Nat.le_of_ble_eq_true rfl) (Nat.le_of_ble_eq_true rfl) rfl rfl (sp_Pl_shopOf (pl_ok j6)) ?_
        rintro _ _ ⟨rfl, rfl⟩
        refine ws_astore_n (l' := [(3, .ref (shO u (mR u 2 10) x1)), (0, .ref 2), (1, .int x1), (2, .int x2)]) (dcd d_D_mark_0 17 rfl) (by decide) rfl ?_
        refine ws_aload_n 0 (dcd d_D_mark_0 18 rfl) rfl ?_
        refine ws_iload_n 3 (dcd d_D_mark_0 19 rfl) rfl ?_
        refine ws_callVI (o := (shO u (mR u 2 10) x1)) (As := [.int x2]) (st := []) (la := [(0, .ref (shO u (mR u 2 10) x1)), (1, .int x2)]) (dcd d_D_mark_0 20 rfl) cv_Sh_isOf k_D_174 ⟨by decide, by decide⟩ (shO_ok (pl_ok j6)) rfl (Nat.le_of_ble_eq_true rfl) (Nat.le_of_ble_eq_true rfl) rfl rfl (sp_Sh_isOf (shO_ok (pl_ok j6))) ?_
        rintro _ _ ⟨rfl, ⟨rfl, c7⟩ | ⟨rfl, c7⟩⟩
        · have h := h.1 c7
          refine ws_if_ne (tgt := 46) (dcd d_D_mark_0 21 rfl) (by decide) (fun _ => ?_) (fun c => absurd c (by decide))
          refine ws_iload_n 3 (dcd d_D_mark_0 26 rfl) rfl ?_
          by_cases c10 : x2 = 1
          · have h := h.1 c10
            refine ws_tableIn (off := 29) (tgt := 76) 0 (dcd d_D_mark_0 27 rfl) (by rw [c10]; decide) (by decide) rfl (by decide) ?_
            refine ws_aload_n 1 (dcd d_D_mark_0 28 rfl) rfl ?_
            refine ws_iload_n 2 (dcd d_D_mark_0 29 rfl) rfl ?_
            refine ws_callVI (o := 2) (As := [.int x1]) (st := []) (la := [(0, .ref 2), (1, .int x1)]) (dcd d_D_mark_1 0 rfl) cv_D_neighbours k_D_179 ⟨by decide, by decide⟩ ok_2 rfl (Nat.le_of_ble_eq_true rfl) (Nat.le_of_ble_eq_true rfl) rfl rfl h (fun a11 u11 h => ?_)
            exact ws_iret (dcd d_D_mark_1 1 rfl) ⟨_, rfl, rfl⟩ h
          by_cases c12 : x2 = 2
          · have h := h.2.1 c12
            refine ws_tableIn (off := 35) (tgt := 82) 1 (dcd d_D_mark_0 27 rfl) (by rw [c12]; decide) (by decide) rfl (by decide) ?_
            refine ws_aload_n 1 (dcd d_D_mark_1 2 rfl) rfl ?_
            refine ws_iload_n 2 (dcd d_D_mark_1 3 rfl) rfl ?_
            refine ws_callVI (o := 2) (As := [.int x1]) (st := []) (la := [(0, .ref 2), (1, .int x1)]) (dcd d_D_mark_1 4 rfl) cv_D_rivals k_D_182 ⟨by decide, by decide⟩ ok_2 rfl (Nat.le_of_ble_eq_true rfl) (Nat.le_of_ble_eq_true rfl) rfl rfl h (fun a13 u13 h => ?_)
            exact ws_iret (dcd d_D_mark_1 5 rfl) ⟨_, rfl, rfl⟩ h
          by_cases c14 : x2 = 3
          · have h := h.2.2.1 c14
            refine ws_tableIn (off := 41) (tgt := 88) 2 (dcd d_D_mark_0 27 rfl) (by rw [c14]; decide) (by decide) rfl (by decide) ?_
            refine ws_aload_n 0 (dcd d_D_mark_1 6 rfl) rfl ?_
            refine ws_aload_n 1 (dcd d_D_mark_1 7 rfl) rfl ?_
            refine ws_getF (a := 7) f_D_28 rfl (dcd d_D_mark_1 8 rfl) ok_2 of_7_3 rfl ?_
            refine ws_getI f_D_84 rfl (dcd d_D_mark_1 9 rfl) (os_7_3 ok_2) ?_
            refine ws_callVI (o := (shO u (mR u 2 10) x1)) (As := [.int (mI u 7 0)]) (st := []) (la := [(0, .ref (shO u (mR u 2 10) x1)), (1, .int (mI u 7 0))]) (dcd d_D_mark_1 10 rfl) cv_Sh_weeksToSleep k_D_185 ⟨by decide, by decide⟩ (shO_ok (pl_ok j6)) rfl (Nat.le_of_ble_eq_true rfl) (Nat.le_of_ble_eq_true rfl) rfl rfl (sp_Sh_weeksToSleep (shO_ok (pl_ok j6))) ?_
            rintro _ _ ⟨rfl, rfl⟩
            exact ws_iret (dcd d_D_mark_1 11 rfl) ⟨_, rfl, rfl⟩ h
          by_cases c15 : x2 = 4
          · have h := h.2.2.2.1 c15
            refine ws_tableIn (off := 53) (tgt := 100) 3 (dcd d_D_mark_0 27 rfl) (by rw [c15]; decide) (by decide) rfl (by decide) ?_
            refine ws_aload_n 0 (dcd d_D_mark_1 12 rfl) rfl ?_
            refine ws_aload_n 1 (dcd d_D_mark_1 13 rfl) rfl ?_
            refine ws_getF (a := 7) f_D_28 rfl (dcd d_D_mark_1 14 rfl) ok_2 of_7_3 rfl ?_
            refine ws_getI f_D_84 rfl (dcd d_D_mark_1 15 rfl) (os_7_3 ok_2) ?_
            refine ws_callVI (o := (shO u (mR u 2 10) x1)) (As := [.int (mI u 7 0)]) (st := []) (la := [(0, .ref (shO u (mR u 2 10) x1)), (1, .int (mI u 7 0))]) (dcd d_D_mark_1 16 rfl) cv_Sh_weeksToTurn k_D_188 ⟨by decide, by decide⟩ (shO_ok (pl_ok j6)) rfl (Nat.le_of_ble_eq_true rfl) (Nat.le_of_ble_eq_true rfl) rfl rfl (sp_Sh_weeksToTurn (shO_ok (pl_ok j6))) ?_
            rintro _ _ ⟨rfl, rfl⟩
            exact ws_iret (dcd d_D_mark_1 17 rfl) ⟨_, rfl, rfl⟩ h
          have h := h.2.2.2.2 ⟨c10, c12, c14, c15⟩
          have nc10 := lv_neT c10 (a := 1) (by decide)
          have nc12 := lv_neT c12 (a := 2) (by decide)
          have nc14 := lv_neT c14 (a := 3) (by decide)
          have nc15 := lv_neT c15 (a := 4) (by decide)
          refine ws_tableOut (tgt := 112) (dcd d_D_mark_0 27 rfl) (by omega) (by decide) ?_
          refine ws_aload_n 0 (dcd d_D_mark_1 18 rfl) rfl ?_
          refine ws_aload_n 1 (dcd d_D_mark_1 19 rfl) rfl ?_
          refine ws_getF (a := 7) f_D_28 rfl (dcd d_D_mark_1 20 rfl) ok_2 of_7_3 rfl ?_
          refine ws_getI f_D_84 rfl (dcd d_D_mark_1 21 rfl) (os_7_3 ok_2) ?_
          refine ws_aload_n 0 (dcd d_D_mark_1 22 rfl) rfl ?_
          refine ws_getI f_D_191 rfl (dcd d_D_mark_1 23 rfl) (shO_ok (pl_ok j6)) ?_
          refine ws_callVJ (o := (shO u (mR u 2 10) x1)) (As := [.int (mI u 7 0), .int (mI u (shO u (mR u 2 10) x1) 4)]) (st := []) (la := [(0, .ref (shO u (mR u 2 10) x1)), (1, .int (mI u 7 0)), (2, .int (mI u (shO u (mR u 2 10) x1) 4))]) (dcd d_D_mark_1 24 rfl) cv_Sh_way k_D_194 ⟨by decide, by decide⟩ (shO_ok (pl_ok j6)) rfl (Nat.le_of_ble_eq_true rfl) (Nat.le_of_ble_eq_true rfl) rfl rfl h (fun a16 u16 h => ?_)
          refine ws_l2i (dcd d_D_mark_1 25 rfl) ?_
          refine ws_sipush (v := 1000) (dcd d_D_mark_1 26 rfl) (by decide) ?_
          refine ws_iadd (dcd d_D_mark_1 27 rfl) ?_
          exact ws_iret (dcd d_D_mark_1 28 rfl) ⟨_, rfl, rfl⟩ h
        · have h := h.2 c7
          refine ws_if_ne (tgt := 46) (dcd d_D_mark_0 21 rfl) (by decide) (fun c => absurd (show (0 : Int32) = 0 from by decide) c) (fun _ => ?_)
          refine ws_aload_n 1 (dcd d_D_mark_0 22 rfl) rfl ?_
          refine ws_iconst (v := 3) (dcd d_D_mark_0 23 rfl) (by decide) ?_
          refine ws_callVI (o := 2) (As := [.int 3]) (st := []) (la := [(0, .ref 2), (1, .int 3)]) (dcd d_D_mark_0 24 rfl) cv_D_found k_D_91 ⟨by decide, by decide⟩ ok_2 rfl (Nat.le_of_ble_eq_true rfl) (Nat.le_of_ble_eq_true rfl) rfl rfl sp_D_found ?_
          rintro _ _ ⟨rfl, rfl⟩
          exact ws_iret (dcd d_D_mark_0 25 rfl) ⟨_, rfl, rfl⟩ h
      · have h := h.2 c5
        refine ws_iconst (v := (-1)) (dcd d_D_mark_0 11 rfl) (by decide) ?_
        exact ws_iret (dcd d_D_mark_0 12 rfl) ⟨_, rfl, rfl⟩ h
  · have h := h.2 c2
    refine ws_if_eq (tgt := 21) (dcd d_D_mark_0 4 rfl) (by decide) (fun _ => ?_) (fun c => absurd (show (0 : Int32) = 0 from by decide) c)
    refine ws_iconst (v := (-1)) (dcd d_D_mark_0 11 rfl) (by decide) ?_
    exact ws_iret (dcd d_D_mark_0 12 rfl) ⟨_, rfl, rfl⟩ h
theorem sg_D_neighbours_0 {x1 : Int32}  (h : Ws G D_neighbours 4 [(0, .ref 2), (1, .int x1), (2, .int 0), (3, .int 0)] [] u Q) : Ws G D_neighbours 0 [(0, .ref 2), (1, .int x1)] [] u Q := by
  refine ws_iconst (v := 0) (dcd d_D_neighbours_0 0 rfl) (by decide) ?_
  refine ws_istore_n (l' := [(2, .int 0), (0, .ref 2), (1, .int x1)]) (dcd d_D_neighbours_0 1 rfl) (by decide) rfl ?_
  refine ws_iconst (v := 0) (dcd d_D_neighbours_0 2 rfl) (by decide) ?_
  refine ws_istore_n (l' := [(3, .int 0), (2, .int 0), (0, .ref 2), (1, .int x1)]) (dcd d_D_neighbours_0 3 rfl) (by decide) rfl ?_
  exact ws_loc [2, 3, 1, 0] rfl h
theorem sg_D_neighbours_4 {x1 : Int32} {x2 : Int32} {x3 : Int32}  (h : (pl (mR u 2 10) → (((mI u (mR u 2 10) 1) ≤ x3 → Q (some (.int x2)) u) ∧ (¬ ((mI u (mR u 2 10) 1) ≤ x3) → (pl (mR u 2 10) → ((¬ (wkV (mI u (mR u 2 10) 0) (snD u 7 x1) (snD u 7 x3)) = 1 → Ws G D_neighbours 4 [(0, .ref 2), (1, .int x1), (2, .int x2), (3, .int (x3 + 1))] [] u Q) ∧ ((wkV (mI u (mR u 2 10) 0) (snD u 7 x1) (snD u 7 x3)) = 1 → Ws G D_neighbours 4 [(0, .ref 2), (1, .int x1), (2, .int (x2 + 1)), (3, .int (x3 + 1))] [] u Q))))))) : Ws G D_neighbours 4 [(0, .ref 2), (1, .int x1), (2, .int x2), (3, .int x3)] [] u Q := by
  refine ws_iload_n 3 (dcd d_D_neighbours_0 4 rfl) rfl ?_
  refine ws_aload_n 0 (dcd d_D_neighbours_0 5 rfl) rfl ?_
  refine ws_getP (by decide) f_D_63 (dcd d_D_neighbours_0 6 rfl) (fun j1 => ?_)
  have h := h j1
  refine ws_getI f_D_163 rfl (dcd d_D_neighbours_0 7 rfl) (pl_ok j1) ?_
  refine ws_icmp_ge (tgt := 51) (dcd d_D_neighbours_0 8 rfl) (by decide) (fun c2 => ?_) (fun c2 => ?_)
  · have h := h.1 c2
    refine ws_iload_n 2 (dcd d_D_neighbours_0 25 rfl) rfl ?_
    exact ws_iret (dcd d_D_neighbours_0 26 rfl) ⟨_, rfl, rfl⟩ h
  · have h := h.2 c2
    refine ws_aload_n 0 (dcd d_D_neighbours_0 9 rfl) rfl ?_
    refine ws_getP (by decide) f_D_63 (dcd d_D_neighbours_0 10 rfl) (fun j3 => ?_)
    have h := h j3
    refine ws_aload_n 0 (dcd d_D_neighbours_0 11 rfl) rfl ?_
    refine ws_getF (a := 7) f_D_28 rfl (dcd d_D_neighbours_0 12 rfl) ok_2 of_7_3 rfl ?_
    refine ws_iload_n 1 (dcd d_D_neighbours_0 13 rfl) rfl ?_
    refine ws_callVI (o := 7) (As := [.int x1]) (st := [.ref (mR u 2 10)]) (la := [(0, .ref 7), (1, .int x1)]) (dcd d_D_neighbours_0 14 rfl) cv_Sn_doorOf k_D_217 ⟨by decide, by decide⟩ (os_7_3 ok_2) rfl (Nat.le_of_ble_eq_true rfl) (Nat.le_of_ble_eq_true rfl) rfl rfl (sp_Sn_doorOf (os_7_3 ok_2)) ?_
    rintro _ _ ⟨rfl, rfl⟩
    refine ws_aload_n 0 (dcd d_D_neighbours_0 15 rfl) rfl ?_
    refine ws_getF (a := 7) f_D_28 rfl (dcd d_D_neighbours_0 16 rfl) ok_2 of_7_3 rfl ?_
    refine ws_iload_n 3 (dcd d_D_neighbours_0 17 rfl) rfl ?_
    refine ws_callVI (o := 7) (As := [.int x3]) (st := [.int (snD u 7 x1), .ref (mR u 2 10)]) (la := [(0, .ref 7), (1, .int x3)]) (dcd d_D_neighbours_0 18 rfl) cv_Sn_doorOf k_D_217 ⟨by decide, by decide⟩ (os_7_3 ok_2) rfl (Nat.le_of_ble_eq_true rfl) (Nat.le_of_ble_eq_true rfl) rfl rfl (sp_Sn_doorOf (os_7_3 ok_2)) ?_
    rintro _ _ ⟨rfl, rfl⟩
    refine ws_callVI (o := (mR u 2 10)) (As := [.int (snD u 7 x1), .int (snD u 7 x3)]) (st := []) (la := [(0, .ref (mR u 2 10)), (1, .int (snD u 7 x1)), (2, .int (snD u 7 x3))]) (dcd d_D_neighbours_0 19 rfl) cv_Pl_walking k_D_243 ⟨by decide, by decide⟩ (pl_ok j3) rfl (Nat.le_of_ble_eq_true rfl) (Nat.le_of_ble_eq_true rfl) rfl rfl (sp_Pl_walking (pl_ok j3)) ?_
    rintro _ _ ⟨rfl, rfl⟩
    refine ws_iconst (v := 1) (dcd d_D_neighbours_0 20 rfl) (by decide) ?_
    refine ws_icmp_ne (tgt := 45) (dcd d_D_neighbours_0 21 rfl) (by decide) (fun c4 => ?_) (fun c4 => ?_)
    · have h := h.1 c4
      refine ws_iinc (v := 1) (l' := [(3, .int (x3 + 1)), (0, .ref 2), (1, .int x1), (2, .int x2)]) 3 (dcd d_D_neighbours_0 23 rfl) rfl (by decide) (by decide) rfl ?_
      refine ws_goto (tgt := 4) (dcd d_D_neighbours_0 24 rfl) (by decide) ?_
      exact ws_loc [1, 2, 3, 0] rfl h
    · have h := h.2 c4
      refine ws_iinc (v := 1) (l' := [(2, .int (x2 + 1)), (0, .ref 2), (1, .int x1), (3, .int x3)]) 2 (dcd d_D_neighbours_0 22 rfl) rfl (by decide) (by decide) rfl ?_
      refine ws_iinc (v := 1) (l' := [(3, .int (x3 + 1)), (2, .int (x2 + 1)), (0, .ref 2), (1, .int x1)]) 3 (dcd d_D_neighbours_0 23 rfl) rfl (by decide) (by decide) rfl ?_
      refine ws_goto (tgt := 4) (dcd d_D_neighbours_0 24 rfl) (by decide) ?_
      exact ws_loc [2, 3, 1, 0] rfl h
theorem sg_D_rivals_0 {x1 : Int32}  (h : Ws G D_rivals 4 [(0, .ref 2), (1, .int x1), (2, .int 0), (3, .int 0)] [] u Q) : Ws G D_rivals 0 [(0, .ref 2), (1, .int x1)] [] u Q := by
  refine ws_iconst (v := 0) (dcd d_D_rivals_0 0 rfl) (by decide) ?_
  refine ws_istore_n (l' := [(2, .int 0), (0, .ref 2), (1, .int x1)]) (dcd d_D_rivals_0 1 rfl) (by decide) rfl ?_
  refine ws_iconst (v := 0) (dcd d_D_rivals_0 2 rfl) (by decide) ?_
  refine ws_istore_n (l' := [(3, .int 0), (2, .int 0), (0, .ref 2), (1, .int x1)]) (dcd d_D_rivals_0 3 rfl) (by decide) rfl ?_
  exact ws_loc [2, 3, 1, 0] rfl h
theorem sg_D_rivals_4 {x1 : Int32} {x2 : Int32} {x3 : Int32}  (h : (pl (mR u 2 10) → (((mI u (mR u 2 10) 1) ≤ x3 → Q (some (.int x2)) u) ∧ (¬ ((mI u (mR u 2 10) 1) ≤ x3) → ((x3 = x1 → Ws G D_rivals 4 [(0, .ref 2), (1, .int x1), (2, .int x2), (3, .int (x3 + 1))] [] u Q) ∧ (¬ x3 = x1 → (pl (mR u 2 10) → Ws G Sn_wanted 0 [(0, .ref 7), (1, .ref (mR u 2 10)), (2, .int x3)] [] u (RI fun a5 u5 => (pl (mR u5 2 10) → Ws G Sn_wanted 0 [(0, .ref 7), (1, .ref (mR u5 2 10)), (2, .int x1)] [] u5 (RI fun a7 u7 => ((¬ a5 = a7 → Ws G D_rivals 4 [(0, .ref 2), (1, .int x1), (2, .int x2), (3, .int (x3 + 1))] [] u7 Q) ∧ (a5 = a7 → Ws G D_rivals 4 [(0, .ref 2), (1, .int x1), (2, .int (x2 + 1)), (3, .int (x3 + 1))] [] u7 Q)))))))))))) : Ws G D_rivals 4 [(0, .ref 2), (1, .int x1), (2, .int x2), (3, .int x3)] [] u Q := by
  refine ws_iload_n 3 (dcd d_D_rivals_0 4 rfl) rfl ?_
  refine ws_aload_n 0 (dcd d_D_rivals_0 5 rfl) rfl ?_
  refine ws_getP (by decide) f_D_63 (dcd d_D_rivals_0 6 rfl) (fun j1 => ?_)
  have h := h j1
  refine ws_getI f_D_163 rfl (dcd d_D_rivals_0 7 rfl) (pl_ok j1) ?_
  refine ws_icmp_ge (tgt := 56) (dcd d_D_rivals_0 8 rfl) (by decide) (fun c2 => ?_) (fun c2 => ?_)
  · have h := h.1 c2
    refine ws_iload_n 2 (dcd d_D_rivals_0 28 rfl) rfl ?_
    exact ws_iret (dcd d_D_rivals_0 29 rfl) ⟨_, rfl, rfl⟩ h
  · have h := h.2 c2
    refine ws_iload_n 3 (dcd d_D_rivals_0 9 rfl) rfl ?_
    refine ws_iload_n 1 (dcd d_D_rivals_0 10 rfl) rfl ?_
    refine ws_icmp_eq (tgt := 50) (dcd d_D_rivals_0 11 rfl) (by decide) (fun c3 => ?_) (fun c3 => ?_)
    · have h := h.1 c3
      refine ws_iinc (v := 1) (l' := [(3, .int (x3 + 1)), (0, .ref 2), (1, .int x1), (2, .int x2)]) 3 (dcd d_D_rivals_0 26 rfl) rfl (by decide) (by decide) rfl ?_
      refine ws_goto (tgt := 4) (dcd d_D_rivals_0 27 rfl) (by decide) ?_
      exact ws_loc [1, 2, 3, 0] rfl h
    · have h := h.2 c3
      refine ws_aload_n 0 (dcd d_D_rivals_0 12 rfl) rfl ?_
      refine ws_getF (a := 7) f_D_28 rfl (dcd d_D_rivals_0 13 rfl) ok_2 of_7_3 rfl ?_
      refine ws_aload_n 0 (dcd d_D_rivals_0 14 rfl) rfl ?_
      refine ws_getP (by decide) f_D_63 (dcd d_D_rivals_0 15 rfl) (fun j4 => ?_)
      have h := h j4
      refine ws_iload_n 3 (dcd d_D_rivals_0 16 rfl) rfl ?_
      refine ws_callVI (o := 7) (As := [.ref (mR u 2 10), .int x3]) (st := []) (la := [(0, .ref 7), (1, .ref (mR u 2 10)), (2, .int x3)]) (dcd d_D_rivals_0 17 rfl) cv_Sn_wanted k_D_224 ⟨by decide, by decide⟩ (os_7_3 ok_2) rfl (Nat.le_of_ble_eq_true rfl) (Nat.le_of_ble_eq_true rfl) rfl rfl h (fun a5 u5 h => ?_)
      refine ws_aload_n 0 (dcd d_D_rivals_0 18 rfl) rfl ?_
      refine ws_getF (a := 7) f_D_28 rfl (dcd d_D_rivals_0 19 rfl) ok_2 of_7_3 rfl ?_
      refine ws_aload_n 0 (dcd d_D_rivals_0 20 rfl) rfl ?_
      refine ws_getP (by decide) f_D_63 (dcd d_D_rivals_0 21 rfl) (fun j6 => ?_)
      have h := h j6
      refine ws_iload_n 1 (dcd d_D_rivals_0 22 rfl) rfl ?_
      refine ws_callVI (o := 7) (As := [.ref (mR u5 2 10), .int x1]) (st := [.int a5]) (la := [(0, .ref 7), (1, .ref (mR u5 2 10)), (2, .int x1)]) (dcd d_D_rivals_0 23 rfl) cv_Sn_wanted k_D_224 ⟨by decide, by decide⟩ (os_7_3 ok_2) rfl (Nat.le_of_ble_eq_true rfl) (Nat.le_of_ble_eq_true rfl) rfl rfl h (fun a7 u7 h => ?_)
      refine ws_icmp_ne (tgt := 50) (dcd d_D_rivals_0 24 rfl) (by decide) (fun c8 => ?_) (fun c8 => ?_)
      · have h := h.1 c8
        refine ws_iinc (v := 1) (l' := [(3, .int (x3 + 1)), (0, .ref 2), (1, .int x1), (2, .int x2)]) 3 (dcd d_D_rivals_0 26 rfl) rfl (by decide) (by decide) rfl ?_
        refine ws_goto (tgt := 4) (dcd d_D_rivals_0 27 rfl) (by decide) ?_
        exact ws_loc [1, 2, 3, 0] rfl h
      · have h := h.2 c8
        refine ws_iinc (v := 1) (l' := [(2, .int (x2 + 1)), (0, .ref 2), (1, .int x1), (3, .int x3)]) 2 (dcd d_D_rivals_0 25 rfl) rfl (by decide) (by decide) rfl ?_
        refine ws_iinc (v := 1) (l' := [(3, .int (x3 + 1)), (2, .int (x2 + 1)), (0, .ref 2), (1, .int x1)]) 3 (dcd d_D_rivals_0 26 rfl) rfl (by decide) (by decide) rfl ?_
        refine ws_goto (tgt := 4) (dcd d_D_rivals_0 27 rfl) (by decide) ?_
        exact ws_loc [2, 3, 1, 0] rfl h
theorem sg_Sn_wanted_0 {o0 : Nat} {o1 : Nat} {x2 : Int32} (k0 : okS o0 5) (k1 : okS o1 2) (h : Q (some (.int (wrV (mI u o1 0) (((snD u o0 x2) + (goC (mI u (shO u o1 x2) 0) (mI u (shO u o1 x2) 4) (mI u (shO u o1 x2) 2) (mI u o0 0))) : Int32).toInt64))) u) : Ws G Sn_wanted 0 [(0, .ref o0), (1, .ref o1), (2, .int x2)] [] u Q := by
  refine ws_aload_n 1 (dcd d_Sn_wanted_0 0 rfl) rfl ?_
  refine ws_aload_n 0 (dcd d_Sn_wanted_0 1 rfl) rfl ?_
  refine ws_iload_n 2 (dcd d_Sn_wanted_0 2 rfl) rfl ?_
  refine ws_callVI (o := o0) (As := [.int x2]) (st := [.ref o1]) (la := [(0, .ref o0), (1, .int x2)]) (dcd d_Sn_wanted_0 3 rfl) cv_Sn_doorOf k_Sn_56 ⟨by decide, by decide⟩ k0 rfl (Nat.le_of_ble_eq_true rfl) (Nat.le_of_ble_eq_true rfl) rfl rfl (sp_Sn_doorOf k0) ?_
  rintro _ _ ⟨rfl, rfl⟩
  refine ws_aload_n 1 (dcd d_Sn_wanted_0 4 rfl) rfl ?_
  refine ws_iload_n 2 (dcd d_Sn_wanted_0 5 rfl) rfl ?_
  refine ws_callVR (o := o1) (As := [.int x2]) (st := [.int (snD u o0 x2), .ref o1]) (la := [(0, .ref o1), (1, .int x2)]) (dcd d_Sn_wanted_0 6 rfl) cv_Pl_shopOf k_Sn_27 ⟨by decide, by decide⟩ k1 rfl (Nat.le_of_ble_eq_true rfl) (Nat.le_of_ble_eq_true rfl) rfl rfl (sp_Pl_shopOf k1) ?_
  rintro _ _ ⟨rfl, rfl⟩
  refine ws_aload_n 0 (dcd d_Sn_wanted_0 7 rfl) rfl ?_
  refine ws_getI f_Sn_9 rfl (dcd d_Sn_wanted_0 8 rfl) k0 ?_
  refine ws_callVI (o := (shO u o1 x2)) (As := [.int (mI u o0 0)]) (st := [.int (snD u o0 x2), .ref o1]) (la := [(0, .ref (shO u o1 x2)), (1, .int (mI u o0 0))]) (dcd d_Sn_wanted_0 9 rfl) cv_Sh_goingIn k_Sn_59 ⟨by decide, by decide⟩ (shO_ok k1) rfl (Nat.le_of_ble_eq_true rfl) (Nat.le_of_ble_eq_true rfl) rfl rfl (sp_Sh_goingIn (shO_ok k1)) ?_
  rintro _ _ ⟨rfl, rfl⟩
  refine ws_iadd (dcd d_Sn_wanted_0 10 rfl) ?_
  refine ws_i2l (dcd d_Sn_wanted_0 11 rfl) ?_
  refine ws_callVI (o := o1) (As := [.long (((snD u o0 x2) + (goC (mI u (shO u o1 x2) 0) (mI u (shO u o1 x2) 4) (mI u (shO u o1 x2) 2) (mI u o0 0))) : Int32).toInt64]) (st := []) (la := [(0, .ref o1), (1, .long (((snD u o0 x2) + (goC (mI u (shO u o1 x2) 0) (mI u (shO u o1 x2) 4) (mI u (shO u o1 x2) 2) (mI u o0 0))) : Int32).toInt64)]) (dcd d_Sn_wanted_0 12 rfl) cv_Pl_wrapped k_Sn_62 ⟨by decide, by decide⟩ k1 rfl (Nat.le_of_ble_eq_true rfl) (Nat.le_of_ble_eq_true rfl) rfl rfl (sp_Pl_wrapped k1) ?_
  rintro _ _ ⟨rfl, rfl⟩
  exact ws_iret (dcd d_Sn_wanted_0 13 rfl) ⟨_, rfl, rfl⟩ h
theorem sg_Sh_way_0 {o0 : Nat} {x1 : Int32} {x2 : Int32} (k0 : okS o0 4) (h : Ws G Sh_wayOf 0 [(0, .int (mI u o0 0)), (1, .int (mI u o0 4)), (2, .int (mI u o0 2)), (3, .int x1), (4, .int x2)] [] u (RJ fun a1 u1 => Q (some (.long a1)) u1)) : Ws G Sh_way 0 [(0, .ref o0), (1, .int x1), (2, .int x2)] [] u Q := by
  refine ws_aload_n 0 (dcd d_Sh_way_0 0 rfl) rfl ?_
  refine ws_getI f_Sh_9 rfl (dcd d_Sh_way_0 1 rfl) k0 ?_
  refine ws_aload_n 0 (dcd d_Sh_way_0 2 rfl) rfl ?_
  refine ws_getI f_Sh_24 rfl (dcd d_Sh_way_0 3 rfl) k0 ?_
  refine ws_aload_n 0 (dcd d_Sh_way_0 4 rfl) rfl ?_
  refine ws_getI f_Sh_18 rfl (dcd d_Sh_way_0 5 rfl) k0 ?_
  refine ws_iload_n 1 (dcd d_Sh_way_0 6 rfl) rfl ?_
  refine ws_iload_n 2 (dcd d_Sh_way_0 7 rfl) rfl ?_
  refine ws_callSJ (As := [.int (mI u o0 0), .int (mI u o0 4), .int (mI u o0 2), .int x1, .int x2]) (st := []) (la := [(0, .int (mI u o0 0)), (1, .int (mI u o0 4)), (2, .int (mI u o0 2)), (3, .int x1), (4, .int x2)]) (dcd d_Sh_way_0 8 rfl) cs_Sh_wayOf k_Sh_31 ⟨by decide, by decide⟩ rfl (Nat.le_of_ble_eq_true rfl) (Nat.le_of_ble_eq_true rfl) rfl rfl h (fun a1 u1 h => ?_)
  exact ws_lret (dcd d_Sh_way_0 9 rfl) rfl h
theorem sg_Sh_wayOf_0 {x0 : Int32} {x1 : Int32} {x2 : Int32} {x3 : Int32} {x4 : Int32}  (h : ((2 ≤ x1 → (¬ (2 * x1) = 0 ∧ Ws G Sh_wayOf 30 [(0, .int x0), (1, .int x1), (2, .int x2), (3, .int x3), (4, .int x4), (5, .int (2 * x1)), (6, .int (x4 - x4 / (2 * x1) * (2 * x1))), (7, .long 0), (9, .long 0), (11, .int 0)] [] u Q)) ∧ (¬ (2 ≤ x1) → Ws G Sh_wayOf 30 [(0, .int x0), (1, .int x1), (2, .int x2), (3, .int x3), (4, .int x4), (5, .int 1), (6, .int (x4 - x4 / 1 * 1)), (7, .long 0), (9, .long 0), (11, .int 0)] [] u Q))) : Ws G Sh_wayOf 0 [(0, .int x0), (1, .int x1), (2, .int x2), (3, .int x3), (4, .int x4)] [] u Q := by
  refine ws_iload_n 1 (dcd d_Sh_wayOf_0 0 rfl) rfl ?_
  refine ws_iconst (v := 2) (dcd d_Sh_wayOf_0 1 rfl) (by decide) ?_
  refine ws_icmp_ge (tgt := 9) (dcd d_Sh_wayOf_0 2 rfl) (by decide) (fun c1 => ?_) (fun c1 => ?_)
  · have h := h.1 c1
    refine ws_iconst (v := 2) (dcd d_Sh_wayOf_0 5 rfl) (by decide) ?_
    refine ws_iload_n 1 (dcd d_Sh_wayOf_0 6 rfl) rfl ?_
    refine ws_imul (dcd d_Sh_wayOf_0 7 rfl) ?_
    refine ws_istore (l' := [(5, .int (2 * x1)), (0, .int x0), (1, .int x1), (2, .int x2), (3, .int x3), (4, .int x4)]) (dcd d_Sh_wayOf_0 8 rfl) (by decide) rfl ?_
    refine ws_iload 5 (dcd d_Sh_wayOf_0 9 rfl) rfl ?_
    refine ws_iload 0 (dcd d_Sh_wayOf_0 10 rfl) rfl ?_
    obtain ⟨e2, h⟩ := h
    refine ws_irem (dcd d_Sh_wayOf_0 11 rfl) e2 ?_
    refine ws_istore (l' := [(6, .int (x4 - x4 / (2 * x1) * (2 * x1))), (5, .int (2 * x1)), (0, .int x0), (1, .int x1), (2, .int x2), (3, .int x3), (4, .int x4)]) (dcd d_Sh_wayOf_0 12 rfl) (by decide) rfl ?_
    refine ws_lconst (v := 0) (dcd d_Sh_wayOf_0 13 rfl) (by decide) ?_
    refine ws_lstore (l' := [(7, .long 0), (6, .int (x4 - x4 / (2 * x1) * (2 * x1))), (5, .int (2 * x1)), (0, .int x0), (1, .int x1), (2, .int x2), (3, .int x3), (4, .int x4)]) (dcd d_Sh_wayOf_0 14 rfl) (by decide) rfl ?_
    refine ws_lconst (v := 0) (dcd d_Sh_wayOf_0 15 rfl) (by decide) ?_
    refine ws_lstore (l' := [(9, .long 0), (7, .long 0), (6, .int (x4 - x4 / (2 * x1) * (2 * x1))), (5, .int (2 * x1)), (0, .int x0), (1, .int x1), (2, .int x2), (3, .int x3), (4, .int x4)]) (dcd d_Sh_wayOf_0 16 rfl) (by decide) rfl ?_
    refine ws_iconst (v := 0) (dcd d_Sh_wayOf_0 17 rfl) (by decide) ?_
    refine ws_istore (l' := [(11, .int 0), (9, .long 0), (7, .long 0), (6, .int (x4 - x4 / (2 * x1) * (2 * x1))), (5, .int (2 * x1)), (0, .int x0), (1, .int x1), (2, .int x2), (3, .int x3), (4, .int x4)]) (dcd d_Sh_wayOf_0 18 rfl) (by decide) rfl ?_
    exact ws_loc [5, 6, 7, 8, 9, 4, 3, 2, 1, 0] rfl h
  · have h := h.2 c1
    refine ws_iconst (v := 1) (dcd d_Sh_wayOf_0 3 rfl) (by decide) ?_
    refine ws_goto (tgt := 12) (dcd d_Sh_wayOf_0 4 rfl) (by decide) ?_
    refine ws_istore (l' := [(5, .int 1), (0, .int x0), (1, .int x1), (2, .int x2), (3, .int x3), (4, .int x4)]) (dcd d_Sh_wayOf_0 8 rfl) (by decide) rfl ?_
    refine ws_iload 5 (dcd d_Sh_wayOf_0 9 rfl) rfl ?_
    refine ws_iload 0 (dcd d_Sh_wayOf_0 10 rfl) rfl ?_
    refine ws_irem (dcd d_Sh_wayOf_0 11 rfl) (by decide) ?_
    refine ws_istore (l' := [(6, .int (x4 - x4 / 1 * 1)), (5, .int 1), (0, .int x0), (1, .int x1), (2, .int x2), (3, .int x3), (4, .int x4)]) (dcd d_Sh_wayOf_0 12 rfl) (by decide) rfl ?_
    refine ws_lconst (v := 0) (dcd d_Sh_wayOf_0 13 rfl) (by decide) ?_
    refine ws_lstore (l' := [(7, .long 0), (6, .int (x4 - x4 / 1 * 1)), (5, .int 1), (0, .int x0), (1, .int x1), (2, .int x2), (3, .int x3), (4, .int x4)]) (dcd d_Sh_wayOf_0 14 rfl) (by decide) rfl ?_
    refine ws_lconst (v := 0) (dcd d_Sh_wayOf_0 15 rfl) (by decide) ?_
    refine ws_lstore (l' := [(9, .long 0), (7, .long 0), (6, .int (x4 - x4 / 1 * 1)), (5, .int 1), (0, .int x0), (1, .int x1), (2, .int x2), (3, .int x3), (4, .int x4)]) (dcd d_Sh_wayOf_0 16 rfl) (by decide) rfl ?_
    refine ws_iconst (v := 0) (dcd d_Sh_wayOf_0 17 rfl) (by decide) ?_
    refine ws_istore (l' := [(11, .int 0), (9, .long 0), (7, .long 0), (6, .int (x4 - x4 / 1 * 1)), (5, .int 1), (0, .int x0), (1, .int x1), (2, .int x2), (3, .int x3), (4, .int x4)]) (dcd d_Sh_wayOf_0 18 rfl) (by decide) rfl ?_
    exact ws_loc [5, 6, 7, 8, 9, 4, 3, 2, 1, 0] rfl h
theorem sg_Sh_wayOf_30 {x0 : Int32} {x1 : Int32} {x2 : Int32} {x3 : Int32} {x4 : Int32} {x5 : Int32} {x6 : Int32} {x7 : Int64} {x9 : Int64} {x11 : Int32}  (h : ((x5 ≤ x11 → (¬ x5 = 0 ∧ Q (some (.long ((((x4 / x5) : Int32).toInt64 * x7) + x9))) u)) ∧ (¬ (x5 ≤ x11) → ((x6 ≤ x11 → Ws G Sh_wayOf 30 [(0, .int x0), (1, .int x1), (2, .int x2), (3, .int x3), (4, .int x4), (5, .int x5), (6, .int x6), (7, .long (x7 + ((goC x0 x1 x2 (x3 + x11)) : Int32).toInt64)), (9, .long (x9 + 0)), (11, .int (x11 + 1))] [] u Q) ∧ (¬ (x6 ≤ x11) → Ws G Sh_wayOf 30 [(0, .int x0), (1, .int x1), (2, .int x2), (3, .int x3), (4, .int x4), (5, .int x5), (6, .int x6), (7, .long (x7 + ((goC x0 x1 x2 (x3 + x11)) : Int32).toInt64)), (9, .long (x9 + ((goC x0 x1 x2 (x3 + x11)) : Int32).toInt64)), (11, .int (x11 + 1))] [] u Q))))) : Ws G Sh_wayOf 30 [(0, .int x0), (1, .int x1), (2, .int x2), (3, .int x3), (4, .int x4), (5, .int x5), (6, .int x6), (7, .long x7), (9, .long x9), (11, .int x11)] [] u Q := by
  refine ws_iload 9 (dcd d_Sh_wayOf_0 19 rfl) rfl ?_
  refine ws_iload 5 (dcd d_Sh_wayOf_0 20 rfl) rfl ?_
  refine ws_icmp_ge (tgt := 82) (dcd d_Sh_wayOf_0 21 rfl) (by decide) (fun c1 => ?_) (fun c1 => ?_)
  · have h := h.1 c1
    refine ws_iload 4 (dcd d_Sh_wayOf_1 17 rfl) rfl ?_
    refine ws_iload 5 (dcd d_Sh_wayOf_1 18 rfl) rfl ?_
    obtain ⟨e2, h⟩ := h
    refine ws_idiv (dcd d_Sh_wayOf_1 19 rfl) e2 ?_
    refine ws_i2l (dcd d_Sh_wayOf_1 20 rfl) ?_
    refine ws_lload 7 (dcd d_Sh_wayOf_1 21 rfl) rfl ?_
    refine ws_lmul (dcd d_Sh_wayOf_1 22 rfl) ?_
    refine ws_lload 8 (dcd d_Sh_wayOf_1 23 rfl) rfl ?_
    refine ws_ladd (dcd d_Sh_wayOf_1 24 rfl) ?_
    exact ws_lret (dcd d_Sh_wayOf_1 25 rfl) rfl h
  · have h := h.2 c1
    refine ws_iload_n 0 (dcd d_Sh_wayOf_0 22 rfl) rfl ?_
    refine ws_iload_n 1 (dcd d_Sh_wayOf_0 23 rfl) rfl ?_
    refine ws_iload_n 2 (dcd d_Sh_wayOf_0 24 rfl) rfl ?_
    refine ws_iload_n 3 (dcd d_Sh_wayOf_0 25 rfl) rfl ?_
    refine ws_iload 9 (dcd d_Sh_wayOf_0 26 rfl) rfl ?_
    refine ws_iadd (dcd d_Sh_wayOf_0 27 rfl) ?_
    refine ws_callSI (As := [.int x0, .int x1, .int x2, .int (x3 + x11)]) (st := []) (la := [(0, .int x0), (1, .int x1), (2, .int x2), (3, .int (x3 + x11))]) (dcd d_Sh_wayOf_0 28 rfl) cs_Sh_going k_Sh_27 ⟨by decide, by decide⟩ rfl (Nat.le_of_ble_eq_true rfl) (Nat.le_of_ble_eq_true rfl) rfl rfl sp_Sh_going ?_
    rintro _ _ ⟨rfl, rfl⟩
    refine ws_istore (l' := [(12, .int (goC x0 x1 x2 (x3 + x11))), (0, .int x0), (1, .int x1), (2, .int x2), (3, .int x3), (4, .int x4), (5, .int x5), (6, .int x6), (7, .long x7), (9, .long x9), (11, .int x11)]) (dcd d_Sh_wayOf_0 29 rfl) (by decide) rfl ?_
    refine ws_lload 8 (dcd d_Sh_wayOf_1 0 rfl) rfl ?_
    refine ws_iload 0 (dcd d_Sh_wayOf_1 1 rfl) rfl ?_
    refine ws_i2l (dcd d_Sh_wayOf_1 2 rfl) ?_
    refine ws_ladd (dcd d_Sh_wayOf_1 3 rfl) ?_
    refine ws_lstore (l' := [(7, .long (x7 + ((goC x0 x1 x2 (x3 + x11)) : Int32).toInt64)), (12, .int (goC x0 x1 x2 (x3 + x11))), (0, .int x0), (1, .int x1), (2, .int x2), (3, .int x3), (4, .int x4), (5, .int x5), (6, .int x6), (9, .long x9), (11, .int x11)]) (dcd d_Sh_wayOf_1 4 rfl) (by decide) rfl ?_
    refine ws_lload 9 (dcd d_Sh_wayOf_1 5 rfl) rfl ?_
    refine ws_iload 10 (dcd d_Sh_wayOf_1 6 rfl) rfl ?_
    refine ws_iload 8 (dcd d_Sh_wayOf_1 7 rfl) rfl ?_
    refine ws_icmp_ge (tgt := 72) (dcd d_Sh_wayOf_1 8 rfl) (by decide) (fun c3 => ?_) (fun c3 => ?_)
    · have h := h.1 c3
      refine ws_lconst (v := 0) (dcd d_Sh_wayOf_1 12 rfl) (by decide) ?_
      refine ws_ladd (dcd d_Sh_wayOf_1 13 rfl) ?_
      refine ws_lstore (l' := [(9, .long (x9 + 0)), (7, .long (x7 + ((goC x0 x1 x2 (x3 + x11)) : Int32).toInt64)), (12, .int (goC x0 x1 x2 (x3 + x11))), (0, .int x0), (1, .int x1), (2, .int x2), (3, .int x3), (4, .int x4), (5, .int x5), (6, .int x6), (11, .int x11)]) (dcd d_Sh_wayOf_1 14 rfl) (by decide) rfl ?_
      refine ws_iinc (v := 1) (l' := [(11, .int (x11 + 1)), (9, .long (x9 + 0)), (7, .long (x7 + ((goC x0 x1 x2 (x3 + x11)) : Int32).toInt64)), (12, .int (goC x0 x1 x2 (x3 + x11))), (0, .int x0), (1, .int x1), (2, .int x2), (3, .int x3), (4, .int x4), (5, .int x5), (6, .int x6)]) 10 (dcd d_Sh_wayOf_1 15 rfl) rfl (by decide) (by decide) rfl ?_
      refine ws_goto (tgt := 30) (dcd d_Sh_wayOf_1 16 rfl) (by decide) ?_
      exact ws_loc [4, 5, 6, 7, 8, 9, 10, 2, 1, 0] rfl h
    · have h := h.2 c3
      refine ws_iload 1 (dcd d_Sh_wayOf_1 9 rfl) rfl ?_
      refine ws_i2l (dcd d_Sh_wayOf_1 10 rfl) ?_
      refine ws_goto (tgt := 73) (dcd d_Sh_wayOf_1 11 rfl) (by decide) ?_
      refine ws_ladd (dcd d_Sh_wayOf_1 13 rfl) ?_
      refine ws_lstore (l' := [(9, .long (x9 + ((goC x0 x1 x2 (x3 + x11)) : Int32).toInt64)), (7, .long (x7 + ((goC x0 x1 x2 (x3 + x11)) : Int32).toInt64)), (12, .int (goC x0 x1 x2 (x3 + x11))), (0, .int x0), (1, .int x1), (2, .int x2), (3, .int x3), (4, .int x4), (5, .int x5), (6, .int x6), (11, .int x11)]) (dcd d_Sh_wayOf_1 14 rfl) (by decide) rfl ?_
      refine ws_iinc (v := 1) (l' := [(11, .int (x11 + 1)), (9, .long (x9 + ((goC x0 x1 x2 (x3 + x11)) : Int32).toInt64)), (7, .long (x7 + ((goC x0 x1 x2 (x3 + x11)) : Int32).toInt64)), (12, .int (goC x0 x1 x2 (x3 + x11))), (0, .int x0), (1, .int x1), (2, .int x2), (3, .int x3), (4, .int x4), (5, .int x5), (6, .int x6)]) 10 (dcd d_Sh_wayOf_1 15 rfl) rfl (by decide) (by decide) rfl ?_
      refine ws_goto (tgt := 30) (dcd d_Sh_wayOf_1 16 rfl) (by decide) ?_
      exact ws_loc [4, 5, 6, 7, 8, 9, 10, 2, 1, 0] rfl h
theorem sg_D_shut_0 {x1 : Int32}  (h : (pl (mR u 2 10) → (((0 ≤ x1 ∧ x1 < (mI u (mR u 2 10) 0)) → (((isI (mI u 7 1) x1) → Q (some (.int (-4))) u) ∧ (¬ (isI (mI u 7 1) x1) → (((bcV (mI u 7 1)) < 3 → Q (some (.int (bcV (mI (pI u 7 1 ((mI u 7 1) ||| (1 <<< (x1 &&& 31)))) 7 1)))) (pI u 7 1 ((mI u 7 1) ||| (1 <<< (x1 &&& 31))))) ∧ (¬ ((bcV (mI u 7 1)) < 3) → Q (some (.int (-2))) u))))) ∧ (¬ (0 ≤ x1 ∧ x1 < (mI u (mR u 2 10) 0)) → Q (some (.int (-1))) u)))) : Ws G D_shut 0 [(0, .ref 2), (1, .int x1)] [] u Q := by
  refine ws_aload_n 0 (dcd d_D_shut_0 0 rfl) rfl ?_
  refine ws_getP (by decide) f_D_63 (dcd d_D_shut_0 1 rfl) (fun j1 => ?_)
  have h := h j1
  refine ws_iload_n 1 (dcd d_D_shut_0 2 rfl) rfl ?_
  refine ws_callVI (o := (mR u 2 10)) (As := [.int x1]) (st := []) (la := [(0, .ref (mR u 2 10)), (1, .int x1)]) (dcd d_D_shut_0 3 rfl) cv_Pl_hasDoor k_D_198 ⟨by decide, by decide⟩ (pl_ok j1) rfl (Nat.le_of_ble_eq_true rfl) (Nat.le_of_ble_eq_true rfl) rfl rfl (sp_Pl_hasDoor (pl_ok j1)) ?_
  rintro _ _ ⟨rfl, ⟨rfl, c2⟩ | ⟨rfl, c2⟩⟩
  · have h := h.1 c2
    refine ws_if_ne (tgt := 13) (dcd d_D_shut_0 4 rfl) (by decide) (fun _ => ?_) (fun c => absurd c (by decide))
    refine ws_aload_n 0 (dcd d_D_shut_0 7 rfl) rfl ?_
    refine ws_getF (a := 7) f_D_28 rfl (dcd d_D_shut_0 8 rfl) ok_2 of_7_3 rfl ?_
    refine ws_iload_n 1 (dcd d_D_shut_0 9 rfl) rfl ?_
    refine ws_callVI (o := 7) (As := [.int x1]) (st := []) (la := [(0, .ref 7), (1, .int x1)]) (dcd d_D_shut_0 10 rfl) cv_Sn_isShut k_D_201 ⟨by decide, by decide⟩ (os_7_3 ok_2) rfl (Nat.le_of_ble_eq_true rfl) (Nat.le_of_ble_eq_true rfl) rfl rfl (sp_Sn_isShut (os_7_3 ok_2)) ?_
    rintro _ _ ⟨rfl, ⟨rfl, c4⟩ | ⟨rfl, c4⟩⟩
    · have h := h.1 c4
      refine ws_if_eq (tgt := 27) (dcd d_D_shut_0 11 rfl) (by decide) (fun c => absurd c (by decide)) (fun _ => ?_)
      refine ws_bipush (v := (-4)) (dcd d_D_shut_0 12 rfl) (by decide) ?_
      exact ws_iret (dcd d_D_shut_0 13 rfl) ⟨_, rfl, rfl⟩ h
    · have h := h.2 c4
      refine ws_if_eq (tgt := 27) (dcd d_D_shut_0 11 rfl) (by decide) (fun _ => ?_) (fun c => absurd (show (0 : Int32) = 0 from by decide) c)
      refine ws_aload_n 0 (dcd d_D_shut_0 14 rfl) rfl ?_
      refine ws_getF (a := 7) f_D_28 rfl (dcd d_D_shut_0 15 rfl) ok_2 of_7_3 rfl ?_
      refine ws_callVI (o := 7) (As := []) (st := []) (la := [(0, .ref 7)]) (dcd d_D_shut_0 16 rfl) cv_Sn_shutCount k_D_204 ⟨by decide, by decide⟩ (os_7_3 ok_2) rfl (Nat.le_of_ble_eq_true rfl) (Nat.le_of_ble_eq_true rfl) rfl rfl (sp_Sn_shutCount (os_7_3 ok_2)) ?_
      rintro _ _ ⟨rfl, rfl⟩
      refine ws_iconst (v := 3) (dcd d_D_shut_0 17 rfl) (by decide) ?_
      refine ws_icmp_lt (tgt := 41) (dcd d_D_shut_0 18 rfl) (by decide) (fun c7 => ?_) (fun c7 => ?_)
      · have h := h.1 c7
        refine ws_aload_n 0 (dcd d_D_shut_0 21 rfl) rfl ?_
        refine ws_getF (a := 7) f_D_28 rfl (dcd d_D_shut_0 22 rfl) ok_2 of_7_3 rfl ?_
        refine ws_dup (dcd d_D_shut_0 23 rfl) rfl ?_
        refine ws_getI f_D_208 rfl (dcd d_D_shut_0 24 rfl) (os_7_3 ok_2) ?_
        refine ws_iconst (v := 1) (dcd d_D_shut_0 25 rfl) (by decide) ?_
        refine ws_iload_n 1 (dcd d_D_shut_0 26 rfl) rfl ?_
        refine ws_ishl (dcd d_D_shut_0 27 rfl) ?_
        refine ws_ior (dcd d_D_shut_0 28 rfl) ?_
        refine ws_putI f_D_208 rfl nf_5_1 (dcd d_D_shut_0 29 rfl) (os_7_3 ok_2) ?_
        refine ws_aload_n 0 (dcd d_D_shut_1 0 rfl) rfl ?_
        refine ws_getF (a := 7) f_D_28 rfl (dcd d_D_shut_1 1 rfl) ok_2 of_7_3 rfl ?_
        refine ws_callVI (o := 7) (As := []) (st := []) (la := [(0, .ref 7)]) (dcd d_D_shut_1 2 rfl) cv_Sn_shutCount k_D_204 ⟨by decide, by decide⟩ (os_7_3 ok_2) rfl (Nat.le_of_ble_eq_true rfl) (Nat.le_of_ble_eq_true rfl) rfl rfl (sp_Sn_shutCount (os_7_3 ok_2)) ?_
        rintro _ _ ⟨rfl, rfl⟩
        exact ws_iret (dcd d_D_shut_1 3 rfl) ⟨_, rfl, rfl⟩ h
      · have h := h.2 c7
        refine ws_bipush (v := (-2)) (dcd d_D_shut_0 19 rfl) (by decide) ?_
        exact ws_iret (dcd d_D_shut_0 20 rfl) ⟨_, rfl, rfl⟩ h
  · have h := h.2 c2
    refine ws_if_ne (tgt := 13) (dcd d_D_shut_0 4 rfl) (by decide) (fun c => absurd (show (0 : Int32) = 0 from by decide) c) (fun _ => ?_)
    refine ws_iconst (v := (-1)) (dcd d_D_shut_0 5 rfl) (by decide) ?_
    exact ws_iret (dcd d_D_shut_0 6 rfl) ⟨_, rfl, rfl⟩ h
theorem sg_D_open_0 {x1 : Int32}  (h : (pl (mR u 2 10) → (((0 ≤ x1 ∧ x1 < (mI u (mR u 2 10) 0)) → (((isI (mI u 7 1) x1) → Q (some (.int (bcV (mI (pI u 7 1 ((mI u 7 1) &&& ((1 <<< (x1 &&& 31)) ^^^ (-1)))) 7 1)))) (pI u 7 1 ((mI u 7 1) &&& ((1 <<< (x1 &&& 31)) ^^^ (-1))))) ∧ (¬ (isI (mI u 7 1) x1) → Q (some (.int (-4))) u))) ∧ (¬ (0 ≤ x1 ∧ x1 < (mI u (mR u 2 10) 0)) → Q (some (.int (-1))) u)))) : Ws G D_open 0 [(0, .ref 2), (1, .int x1)] [] u Q := by
  refine ws_aload_n 0 (dcd d_D_open_0 0 rfl) rfl ?_
  refine ws_getP (by decide) f_D_63 (dcd d_D_open_0 1 rfl) (fun j1 => ?_)
  have h := h j1
  refine ws_iload_n 1 (dcd d_D_open_0 2 rfl) rfl ?_
  refine ws_callVI (o := (mR u 2 10)) (As := [.int x1]) (st := []) (la := [(0, .ref (mR u 2 10)), (1, .int x1)]) (dcd d_D_open_0 3 rfl) cv_Pl_hasDoor k_D_198 ⟨by decide, by decide⟩ (pl_ok j1) rfl (Nat.le_of_ble_eq_true rfl) (Nat.le_of_ble_eq_true rfl) rfl rfl (sp_Pl_hasDoor (pl_ok j1)) ?_
  rintro _ _ ⟨rfl, ⟨rfl, c2⟩ | ⟨rfl, c2⟩⟩
  · have h := h.1 c2
    refine ws_if_ne (tgt := 13) (dcd d_D_open_0 4 rfl) (by decide) (fun _ => ?_) (fun c => absurd c (by decide))
    refine ws_aload_n 0 (dcd d_D_open_0 7 rfl) rfl ?_
    refine ws_getF (a := 7) f_D_28 rfl (dcd d_D_open_0 8 rfl) ok_2 of_7_3 rfl ?_
    refine ws_iload_n 1 (dcd d_D_open_0 9 rfl) rfl ?_
    refine ws_callVI (o := 7) (As := [.int x1]) (st := []) (la := [(0, .ref 7), (1, .int x1)]) (dcd d_D_open_0 10 rfl) cv_Sn_isShut k_D_201 ⟨by decide, by decide⟩ (os_7_3 ok_2) rfl (Nat.le_of_ble_eq_true rfl) (Nat.le_of_ble_eq_true rfl) rfl rfl (sp_Sn_isShut (os_7_3 ok_2)) ?_
    rintro _ _ ⟨rfl, ⟨rfl, c4⟩ | ⟨rfl, c4⟩⟩
    · have h := h.1 c4
      refine ws_if_ne (tgt := 27) (dcd d_D_open_0 11 rfl) (by decide) (fun _ => ?_) (fun c => absurd c (by decide))
      refine ws_aload_n 0 (dcd d_D_open_0 14 rfl) rfl ?_
      refine ws_getF (a := 7) f_D_28 rfl (dcd d_D_open_0 15 rfl) ok_2 of_7_3 rfl ?_
      refine ws_dup (dcd d_D_open_0 16 rfl) rfl ?_
      refine ws_getI f_D_208 rfl (dcd d_D_open_0 17 rfl) (os_7_3 ok_2) ?_
      refine ws_iconst (v := 1) (dcd d_D_open_0 18 rfl) (by decide) ?_
      refine ws_iload_n 1 (dcd d_D_open_0 19 rfl) rfl ?_
      refine ws_ishl (dcd d_D_open_0 20 rfl) ?_
      refine ws_iconst (v := (-1)) (dcd d_D_open_0 21 rfl) (by decide) ?_
      refine ws_ixor (dcd d_D_open_0 22 rfl) ?_
      refine ws_iand (dcd d_D_open_0 23 rfl) ?_
      refine ws_putI f_D_208 rfl nf_5_1 (dcd d_D_open_0 24 rfl) (os_7_3 ok_2) ?_
      refine ws_aload_n 0 (dcd d_D_open_0 25 rfl) rfl ?_
      refine ws_getF (a := 7) f_D_28 rfl (dcd d_D_open_0 26 rfl) ok_2 of_7_3 rfl ?_
      refine ws_callVI (o := 7) (As := []) (st := []) (la := [(0, .ref 7)]) (dcd d_D_open_0 27 rfl) cv_Sn_shutCount k_D_204 ⟨by decide, by decide⟩ (os_7_3 ok_2) rfl (Nat.le_of_ble_eq_true rfl) (Nat.le_of_ble_eq_true rfl) rfl rfl (sp_Sn_shutCount (os_7_3 ok_2)) ?_
      rintro _ _ ⟨rfl, rfl⟩
      exact ws_iret (dcd d_D_open_0 28 rfl) ⟨_, rfl, rfl⟩ h
    · have h := h.2 c4
      refine ws_if_ne (tgt := 27) (dcd d_D_open_0 11 rfl) (by decide) (fun c => absurd (show (0 : Int32) = 0 from by decide) c) (fun _ => ?_)
      refine ws_bipush (v := (-4)) (dcd d_D_open_0 12 rfl) (by decide) ?_
      exact ws_iret (dcd d_D_open_0 13 rfl) ⟨_, rfl, rfl⟩ h
  · have h := h.2 c2
    refine ws_if_ne (tgt := 13) (dcd d_D_open_0 4 rfl) (by decide) (fun c => absurd (show (0 : Int32) = 0 from by decide) c) (fun _ => ?_)
    refine ws_iconst (v := (-1)) (dcd d_D_open_0 5 rfl) (by decide) ?_
    exact ws_iret (dcd d_D_open_0 6 rfl) ⟨_, rfl, rfl⟩ h
theorem sg_D_go_0 {x1 : Int32}  (h : ((x1 < 0 → Q (some (.int (-1))) u) ∧ (¬ (x1 < 0) → ((x1 ≤ 400 → (pl (mR u 2 10) → (((0 < (mI u (mR u 2 10) 0)) → ((((mI u 7 0) + x1) ≤ 100000 → (pl (mR u 2 10) → Ws G Sn_pass 0 [(0, .ref 7), (1, .ref (mR u 2 10)), (2, .int x1)] [] u (RV fun u8 => Q (some (.int (mI u8 7 0))) u8))) ∧ (¬ (((mI u 7 0) + x1) ≤ 100000) → Q (some (.int (-6))) u))) ∧ (¬ (0 < (mI u (mR u 2 10) 0)) → Q (some (.int (-4))) u)))) ∧ (¬ (x1 ≤ 400) → Q (some (.int (-1))) u))))) : Ws G D_go 0 [(0, .ref 2), (1, .int x1)] [] u Q := by
  refine ws_iload_n 1 (dcd d_D_go_0 0 rfl) rfl ?_
  refine ws_if_lt (tgt := 11) (dcd d_D_go_0 1 rfl) (by decide) (fun c1 => ?_) (fun c1 => ?_)
  · have h := h.1 c1
    refine ws_iconst (v := (-1)) (dcd d_D_go_0 5 rfl) (by decide) ?_
    exact ws_iret (dcd d_D_go_0 6 rfl) ⟨_, rfl, rfl⟩ h
  · have h := h.2 c1
    refine ws_iload_n 1 (dcd d_D_go_0 2 rfl) rfl ?_
    refine ws_sipush (v := 400) (dcd d_D_go_0 3 rfl) (by decide) ?_
    refine ws_icmp_le (tgt := 13) (dcd d_D_go_0 4 rfl) (by decide) (fun c2 => ?_) (fun c2 => ?_)
    · have h := h.1 c2
      refine ws_aload_n 0 (dcd d_D_go_0 7 rfl) rfl ?_
      refine ws_getP (by decide) f_D_63 (dcd d_D_go_0 8 rfl) (fun j3 => ?_)
      have h := h j3
      refine ws_callVI (o := (mR u 2 10)) (As := []) (st := []) (la := [(0, .ref (mR u 2 10))]) (dcd d_D_go_0 9 rfl) cv_Pl_isThere k_D_211 ⟨by decide, by decide⟩ (pl_ok j3) rfl (Nat.le_of_ble_eq_true rfl) (Nat.le_of_ble_eq_true rfl) rfl rfl (sp_Pl_isThere (pl_ok j3)) ?_
      rintro _ _ ⟨rfl, ⟨rfl, c4⟩ | ⟨rfl, c4⟩⟩
      · have h := h.1 c4
        refine ws_if_ne (tgt := 26) (dcd d_D_go_0 10 rfl) (by decide) (fun _ => ?_) (fun c => absurd c (by decide))
        refine ws_aload_n 0 (dcd d_D_go_0 13 rfl) rfl ?_
        refine ws_getF (a := 7) f_D_28 rfl (dcd d_D_go_0 14 rfl) ok_2 of_7_3 rfl ?_
        refine ws_getI f_D_84 rfl (dcd d_D_go_0 15 rfl) (os_7_3 ok_2) ?_
        refine ws_iload_n 1 (dcd d_D_go_0 16 rfl) rfl ?_
        refine ws_iadd (dcd d_D_go_0 17 rfl) ?_
        refine ws_ldc (dcd d_D_go_0 18 rfl) q_D_212 ?_
        refine ws_icmp_le (tgt := 43) (dcd d_D_go_0 19 rfl) (by decide) (fun c6 => ?_) (fun c6 => ?_)
        · have h := h.1 c6
          refine ws_aload_n 0 (dcd d_D_go_0 22 rfl) rfl ?_
          refine ws_getF (a := 7) f_D_28 rfl (dcd d_D_go_0 23 rfl) ok_2 of_7_3 rfl ?_
          refine ws_aload_n 0 (dcd d_D_go_0 24 rfl) rfl ?_
          refine ws_getP (by decide) f_D_63 (dcd d_D_go_0 25 rfl) (fun j7 => ?_)
          have h := h j7
          refine ws_iload_n 1 (dcd d_D_go_0 26 rfl) rfl ?_
          refine ws_callVV (o := 7) (As := [.ref (mR u 2 10), .int x1]) (st := []) (la := [(0, .ref 7), (1, .ref (mR u 2 10)), (2, .int x1)]) (dcd d_D_go_0 27 rfl) cv_Sn_pass k_D_213 ⟨by decide, by decide⟩ (os_7_3 ok_2) rfl (Nat.le_of_ble_eq_true rfl) (Nat.le_of_ble_eq_true rfl) rfl rfl h (fun u8 h => ?_)
          refine ws_aload_n 0 (dcd d_D_go_0 28 rfl) rfl ?_
          refine ws_getF (a := 7) f_D_28 rfl (dcd d_D_go_0 29 rfl) ok_2 of_7_3 rfl ?_
          refine ws_getI f_D_84 rfl (dcd d_D_go_1 0 rfl) (os_7_3 ok_2) ?_
          exact ws_iret (dcd d_D_go_1 1 rfl) ⟨_, rfl, rfl⟩ h
        · have h := h.2 c6
          refine ws_bipush (v := (-6)) (dcd d_D_go_0 20 rfl) (by decide) ?_
          exact ws_iret (dcd d_D_go_0 21 rfl) ⟨_, rfl, rfl⟩ h
      · have h := h.2 c4
        refine ws_if_ne (tgt := 26) (dcd d_D_go_0 10 rfl) (by decide) (fun c => absurd (show (0 : Int32) = 0 from by decide) c) (fun _ => ?_)
        refine ws_bipush (v := (-4)) (dcd d_D_go_0 11 rfl) (by decide) ?_
        exact ws_iret (dcd d_D_go_0 12 rfl) ⟨_, rfl, rfl⟩ h
    · have h := h.2 c2
      refine ws_iconst (v := (-1)) (dcd d_D_go_0 5 rfl) (by decide) ?_
      exact ws_iret (dcd d_D_go_0 6 rfl) ⟨_, rfl, rfl⟩ h
theorem sg_Sn_pass_0 {o0 : Nat} {o1 : Nat} {x2 : Int32} (k0 : okS o0 5) (k1 : okS o1 2) (h : Ws G Sn_pass 2 [(0, .ref o0), (1, .ref o1), (2, .int x2), (3, .int 0)] [] u Q) : Ws G Sn_pass 0 [(0, .ref o0), (1, .ref o1), (2, .int x2)] [] u Q := by
  refine ws_iconst (v := 0) (dcd d_Sn_pass_0 0 rfl) (by decide) ?_
  refine ws_istore_n (l' := [(3, .int 0), (0, .ref o0), (1, .ref o1), (2, .int x2)]) (dcd d_Sn_pass_0 1 rfl) (by decide) rfl ?_
  exact ws_loc [1, 2, 3, 0] rfl h
theorem sg_Sn_pass_2 {o0 : Nat} {o1 : Nat} {x2 : Int32} {x3 : Int32} (k0 : okS o0 5) (k1 : okS o1 2) (h : ((x2 ≤ x3 → Q none u) ∧ (¬ (x2 ≤ x3) → Ws G Sn_passOne 0 [(0, .ref o0), (1, .ref o1)] [] u (RV fun u2 => Ws G Sn_pass 2 [(0, .ref o0), (1, .ref o1), (2, .int x2), (3, .int (x3 + 1))] [] u2 Q)))) : Ws G Sn_pass 2 [(0, .ref o0), (1, .ref o1), (2, .int x2), (3, .int x3)] [] u Q := by
  refine ws_iload_n 3 (dcd d_Sn_pass_0 2 rfl) rfl ?_
  refine ws_iload_n 2 (dcd d_Sn_pass_0 3 rfl) rfl ?_
  refine ws_icmp_ge (tgt := 18) (dcd d_Sn_pass_0 4 rfl) (by decide) (fun c1 => ?_) (fun c1 => ?_)
  · have h := h.1 c1
    exact ws_vret (dcd d_Sn_pass_0 10 rfl) rfl h
  · have h := h.2 c1
    refine ws_aload_n 0 (dcd d_Sn_pass_0 5 rfl) rfl ?_
    refine ws_aload_n 1 (dcd d_Sn_pass_0 6 rfl) rfl ?_
    refine ws_callVV (o := o0) (As := [.ref o1]) (st := []) (la := [(0, .ref o0), (1, .ref o1)]) (dcd d_Sn_pass_0 7 rfl) cv_Sn_passOne k_Sn_66 ⟨by decide, by decide⟩ k0 rfl (Nat.le_of_ble_eq_true rfl) (Nat.le_of_ble_eq_true rfl) rfl rfl h (fun u2 h => ?_)
    refine ws_iinc (v := 1) (l' := [(3, .int (x3 + 1)), (0, .ref o0), (1, .ref o1), (2, .int x2)]) 3 (dcd d_Sn_pass_0 8 rfl) rfl (by decide) (by decide) rfl ?_
    refine ws_goto (tgt := 2) (dcd d_Sn_pass_0 9 rfl) (by decide) ?_
    exact ws_loc [1, 2, 3, 0] rfl h
theorem sg_Sn_passOne_0 {o0 : Nat} {o1 : Nat} (k0 : okS o0 5) (k1 : okS o1 2) (h : Ws G Sn_passOne 7 [(0, .ref o0), (1, .ref o1), (2, .int (mI u o0 1)), (3, .int 0)] [] u Q) : Ws G Sn_passOne 0 [(0, .ref o0), (1, .ref o1)] [] u Q := by
  refine ws_aload_n 0 (dcd d_Sn_passOne_0 0 rfl) rfl ?_
  refine ws_getI f_Sn_15 rfl (dcd d_Sn_passOne_0 1 rfl) k0 ?_
  refine ws_istore_n (l' := [(2, .int (mI u o0 1)), (0, .ref o0), (1, .ref o1)]) (dcd d_Sn_passOne_0 2 rfl) (by decide) rfl ?_
  refine ws_iconst (v := 0) (dcd d_Sn_passOne_0 3 rfl) (by decide) ?_
  refine ws_istore_n (l' := [(3, .int 0), (2, .int (mI u o0 1)), (0, .ref o0), (1, .ref o1)]) (dcd d_Sn_passOne_0 4 rfl) (by decide) rfl ?_
  exact ws_loc [2, 3, 1, 0] rfl h
theorem sg_Sn_passOne_7 {o0 : Nat} {o1 : Nat} {x2 : Int32} {x3 : Int32} (k0 : okS o0 5) (k1 : okS o1 2) (h : (((mI u o1 1) ≤ x3 → Q none (pI u o0 0 ((mI u o0 0) + 1))) ∧ (¬ ((mI u o1 1) ≤ x3) → ((7 ≤ x3 → Q none (pI u o0 0 ((mI u o0 0) + 1))) ∧ (¬ (7 ≤ x3) → (vp_in x3 7 ∧ ((0 ≤ (goC (mI u (shO u o1 (mI u (o1 + 3) (x3 : Int32).toNatClampNeg)) 0) (mI u (shO u o1 (mI u (o1 + 3) (x3 : Int32).toNatClampNeg)) 4) (mI u (shO u o1 (mI u (o1 + 3) (x3 : Int32).toNatClampNeg)) 2) (mI u o0 0)) → Ws G Sn_passOne 75 [(0, .ref o0), (1, .ref o1), (2, .int x2), (3, .int x3), (4, .int (mI u (o1 + 3) (x3 : Int32).toNatClampNeg)), (6, .int 1), (7, .int (wrV (mI u o1 0) (((snD u o0 (mI u (o1 + 3) (x3 : Int32).toNatClampNeg)) + (goC (mI u (shO u o1 (mI u (o1 + 3) (x3 : Int32).toNatClampNeg)) 0) (mI u (shO u o1 (mI u (o1 + 3) (x3 : Int32).toNatClampNeg)) 4) (mI u (shO u o1 (mI u (o1 + 3) (x3 : Int32).toNatClampNeg)) 2) (mI u o0 0))) : Int32).toInt64)), (8, .int 0)] [] u Q) ∧ (¬ (0 ≤ (goC (mI u (shO u o1 (mI u (o1 + 3) (x3 : Int32).toNatClampNeg)) 0) (mI u (shO u o1 (mI u (o1 + 3) (x3 : Int32).toNatClampNeg)) 4) (mI u (shO u o1 (mI u (o1 + 3) (x3 : Int32).toNatClampNeg)) 2) (mI u o0 0))) → Ws G Sn_passOne 75 [(0, .ref o0), (1, .ref o1), (2, .int x2), (3, .int x3), (4, .int (mI u (o1 + 3) (x3 : Int32).toNatClampNeg)), (6, .int (-1)), (7, .int (wrV (mI u o1 0) (((snD u o0 (mI u (o1 + 3) (x3 : Int32).toNatClampNeg)) + (goC (mI u (shO u o1 (mI u (o1 + 3) (x3 : Int32).toNatClampNeg)) 0) (mI u (shO u o1 (mI u (o1 + 3) (x3 : Int32).toNatClampNeg)) 4) (mI u (shO u o1 (mI u (o1 + 3) (x3 : Int32).toNatClampNeg)) 2) (mI u o0 0))) : Int32).toInt64)), (8, .int 0)] [] u Q)))))))) : Ws G Sn_passOne 7 [(0, .ref o0), (1, .ref o1), (2, .int x2), (3, .int x3)] [] u Q := by
  refine ws_iload_n 3 (dcd d_Sn_passOne_0 5 rfl) rfl ?_
  refine ws_aload_n 1 (dcd d_Sn_passOne_0 6 rfl) rfl ?_
  refine ws_getI f_Sn_22 rfl (dcd d_Sn_passOne_0 7 rfl) k1 ?_
  refine ws_icmp_ge (tgt := 132) (dcd d_Sn_passOne_0 8 rfl) (by decide) (fun c1 => ?_) (fun c1 => ?_)
  · have h := h.1 c1
    refine ws_aload_n 0 (dcd d_Sn_passOne_2 10 rfl) rfl ?_
    refine ws_dup (dcd d_Sn_passOne_2 11 rfl) rfl ?_
    refine ws_getI f_Sn_9 rfl (dcd d_Sn_passOne_2 12 rfl) k0 ?_
    refine ws_iconst (v := 1) (dcd d_Sn_passOne_2 13 rfl) (by decide) ?_
    refine ws_iadd (dcd d_Sn_passOne_2 14 rfl) ?_
    refine ws_putI f_Sn_9 rfl nf_5_0 (dcd d_Sn_passOne_2 15 rfl) k0 ?_
    exact ws_vret (dcd d_Sn_passOne_2 16 rfl) rfl h
  · have h := h.2 c1
    refine ws_iload_n 3 (dcd d_Sn_passOne_0 9 rfl) rfl ?_
    refine ws_bipush (v := 7) (dcd d_Sn_passOne_0 10 rfl) (by decide) ?_
    refine ws_icmp_ge (tgt := 132) (dcd d_Sn_passOne_0 11 rfl) (by decide) (fun c2 => ?_) (fun c2 => ?_)
    · have h := h.1 c2
      refine ws_aload_n 0 (dcd d_Sn_passOne_2 10 rfl) rfl ?_
      refine ws_dup (dcd d_Sn_passOne_2 11 rfl) rfl ?_
      refine ws_getI f_Sn_9 rfl (dcd d_Sn_passOne_2 12 rfl) k0 ?_
      refine ws_iconst (v := 1) (dcd d_Sn_passOne_2 13 rfl) (by decide) ?_
      refine ws_iadd (dcd d_Sn_passOne_2 14 rfl) ?_
      refine ws_putI f_Sn_9 rfl nf_5_0 (dcd d_Sn_passOne_2 15 rfl) k0 ?_
      exact ws_vret (dcd d_Sn_passOne_2 16 rfl) rfl h
    · have h := h.2 c2
      refine ws_aload_n 1 (dcd d_Sn_passOne_0 12 rfl) rfl ?_
      refine ws_getF (a := (o1 + 3)) f_Sn_70 rfl (dcd d_Sn_passOne_0 13 rfl) k1 of_2_4 rfl ?_
      refine ws_iload_n 3 (dcd d_Sn_passOne_0 14 rfl) rfl ?_
      obtain ⟨e3, h⟩ := h
      refine ws_iald (L := 7) (dcd d_Sn_passOne_0 15 rfl) (os_2_4 k1) (ol_2_4 k1) e3 ?_
      refine ws_istore (l' := [(4, .int (mI u (o1 + 3) (x3 : Int32).toNatClampNeg)), (0, .ref o0), (1, .ref o1), (2, .int x2), (3, .int x3)]) (dcd d_Sn_passOne_0 16 rfl) (by decide) rfl ?_
      refine ws_aload_n 2 (dcd d_Sn_passOne_0 17 rfl) rfl ?_
      refine ws_iload 0 (dcd d_Sn_passOne_0 18 rfl) rfl ?_
      refine ws_callVR (o := o1) (As := [.int (mI u (o1 + 3) (x3 : Int32).toNatClampNeg)]) (st := []) (la := [(0, .ref o1), (1, .int (mI u (o1 + 3) (x3 : Int32).toNatClampNeg))]) (dcd d_Sn_passOne_0 19 rfl) cv_Pl_shopOf k_Sn_27 ⟨by decide, by decide⟩ k1 rfl (Nat.le_of_ble_eq_true rfl) (Nat.le_of_ble_eq_true rfl) rfl rfl (sp_Pl_shopOf k1) ?_
      rintro _ _ ⟨rfl, rfl⟩
      refine ws_aload_n 1 (dcd d_Sn_passOne_0 20 rfl) rfl ?_
      refine ws_getI f_Sn_9 rfl (dcd d_Sn_passOne_0 21 rfl) k0 ?_
      refine ws_callVI (o := (shO u o1 (mI u (o1 + 3) (x3 : Int32).toNatClampNeg))) (As := [.int (mI u o0 0)]) (st := []) (la := [(0, .ref (shO u o1 (mI u (o1 + 3) (x3 : Int32).toNatClampNeg))), (1, .int (mI u o0 0))]) (dcd d_Sn_passOne_0 22 rfl) cv_Sh_goingIn k_Sn_59 ⟨by decide, by decide⟩ (shO_ok k1) rfl (Nat.le_of_ble_eq_true rfl) (Nat.le_of_ble_eq_true rfl) rfl rfl (sp_Sh_goingIn (shO_ok k1)) ?_
      rintro _ _ ⟨rfl, rfl⟩
      refine ws_istore (l' := [(5, .int (goC (mI u (shO u o1 (mI u (o1 + 3) (x3 : Int32).toNatClampNeg)) 0) (mI u (shO u o1 (mI u (o1 + 3) (x3 : Int32).toNatClampNeg)) 4) (mI u (shO u o1 (mI u (o1 + 3) (x3 : Int32).toNatClampNeg)) 2) (mI u o0 0))), (4, .int (mI u (o1 + 3) (x3 : Int32).toNatClampNeg)), (0, .ref o0), (1, .ref o1), (2, .int x2), (3, .int x3)]) (dcd d_Sn_passOne_0 23 rfl) (by decide) rfl ?_
      refine ws_iload 0 (dcd d_Sn_passOne_0 24 rfl) rfl ?_
      refine ws_if_ge (tgt := 53) (dcd d_Sn_passOne_0 25 rfl) (by decide) (fun c4 => ?_) (fun c4 => ?_)
      · have h := h.1 c4
        refine ws_iconst (v := 1) (dcd d_Sn_passOne_0 28 rfl) (by decide) ?_
        refine ws_istore (l' := [(6, .int 1), (5, .int (goC (mI u (shO u o1 (mI u (o1 + 3) (x3 : Int32).toNatClampNeg)) 0) (mI u (shO u o1 (mI u (o1 + 3) (x3 : Int32).toNatClampNeg)) 4) (mI u (shO u o1 (mI u (o1 + 3) (x3 : Int32).toNatClampNeg)) 2) (mI u o0 0))), (4, .int (mI u (o1 + 3) (x3 : Int32).toNatClampNeg)), (0, .ref o0), (1, .ref o1), (2, .int x2), (3, .int x3)]) (dcd d_Sn_passOne_0 29 rfl) (by decide) rfl ?_
        refine ws_aload_n 4 (dcd d_Sn_passOne_1 0 rfl) rfl ?_
        refine ws_aload_n 3 (dcd d_Sn_passOne_1 1 rfl) rfl ?_
        refine ws_iload 2 (dcd d_Sn_passOne_1 2 rfl) rfl ?_
        refine ws_callVI (o := o0) (As := [.int (mI u (o1 + 3) (x3 : Int32).toNatClampNeg)]) (st := [.ref o1]) (la := [(0, .ref o0), (1, .int (mI u (o1 + 3) (x3 : Int32).toNatClampNeg))]) (dcd d_Sn_passOne_1 3 rfl) cv_Sn_doorOf k_Sn_56 ⟨by decide, by decide⟩ k0 rfl (Nat.le_of_ble_eq_true rfl) (Nat.le_of_ble_eq_true rfl) rfl rfl (sp_Sn_doorOf k0) ?_
        rintro _ _ ⟨rfl, rfl⟩
        refine ws_iload 1 (dcd d_Sn_passOne_1 4 rfl) rfl ?_
        refine ws_iadd (dcd d_Sn_passOne_1 5 rfl) ?_
        refine ws_i2l (dcd d_Sn_passOne_1 6 rfl) ?_
        refine ws_callVI (o := o1) (As := [.long (((snD u o0 (mI u (o1 + 3) (x3 : Int32).toNatClampNeg)) + (goC (mI u (shO u o1 (mI u (o1 + 3) (x3 : Int32).toNatClampNeg)) 0) (mI u (shO u o1 (mI u (o1 + 3) (x3 : Int32).toNatClampNeg)) 4) (mI u (shO u o1 (mI u (o1 + 3) (x3 : Int32).toNatClampNeg)) 2) (mI u o0 0))) : Int32).toInt64]) (st := []) (la := [(0, .ref o1), (1, .long (((snD u o0 (mI u (o1 + 3) (x3 : Int32).toNatClampNeg)) + (goC (mI u (shO u o1 (mI u (o1 + 3) (x3 : Int32).toNatClampNeg)) 0) (mI u (shO u o1 (mI u (o1 + 3) (x3 : Int32).toNatClampNeg)) 4) (mI u (shO u o1 (mI u (o1 + 3) (x3 : Int32).toNatClampNeg)) 2) (mI u o0 0))) : Int32).toInt64)]) (dcd d_Sn_passOne_1 7 rfl) cv_Pl_wrapped k_Sn_62 ⟨by decide, by decide⟩ k1 rfl (Nat.le_of_ble_eq_true rfl) (Nat.le_of_ble_eq_true rfl) rfl rfl (sp_Pl_wrapped k1) ?_
        rintro _ _ ⟨rfl, rfl⟩
        refine ws_istore (l' := [(7, .int (wrV (mI u o1 0) (((snD u o0 (mI u (o1 + 3) (x3 : Int32).toNatClampNeg)) + (goC (mI u (shO u o1 (mI u (o1 + 3) (x3 : Int32).toNatClampNeg)) 0) (mI u (shO u o1 (mI u (o1 + 3) (x3 : Int32).toNatClampNeg)) 4) (mI u (shO u o1 (mI u (o1 + 3) (x3 : Int32).toNatClampNeg)) 2) (mI u o0 0))) : Int32).toInt64)), (6, .int 1), (5, .int (goC (mI u (shO u o1 (mI u (o1 + 3) (x3 : Int32).toNatClampNeg)) 0) (mI u (shO u o1 (mI u (o1 + 3) (x3 : Int32).toNatClampNeg)) 4) (mI u (shO u o1 (mI u (o1 + 3) (x3 : Int32).toNatClampNeg)) 2) (mI u o0 0))), (4, .int (mI u (o1 + 3) (x3 : Int32).toNatClampNeg)), (0, .ref o0), (1, .ref o1), (2, .int x2), (3, .int x3)]) (dcd d_Sn_passOne_1 8 rfl) (by decide) rfl ?_
        refine ws_iconst (v := 0) (dcd d_Sn_passOne_1 9 rfl) (by decide) ?_
        refine ws_istore (l' := [(8, .int 0), (7, .int (wrV (mI u o1 0) (((snD u o0 (mI u (o1 + 3) (x3 : Int32).toNatClampNeg)) + (goC (mI u (shO u o1 (mI u (o1 + 3) (x3 : Int32).toNatClampNeg)) 0) (mI u (shO u o1 (mI u (o1 + 3) (x3 : Int32).toNatClampNeg)) 4) (mI u (shO u o1 (mI u (o1 + 3) (x3 : Int32).toNatClampNeg)) 2) (mI u o0 0))) : Int32).toInt64)), (6, .int 1), (5, .int (goC (mI u (shO u o1 (mI u (o1 + 3) (x3 : Int32).toNatClampNeg)) 0) (mI u (shO u o1 (mI u (o1 + 3) (x3 : Int32).toNatClampNeg)) 4) (mI u (shO u o1 (mI u (o1 + 3) (x3 : Int32).toNatClampNeg)) 2) (mI u o0 0))), (4, .int (mI u (o1 + 3) (x3 : Int32).toNatClampNeg)), (0, .ref o0), (1, .ref o1), (2, .int x2), (3, .int x3)]) (dcd d_Sn_passOne_1 10 rfl) (by decide) rfl ?_
        exact ws_loc [5, 6, 7, 8, 4, 2, 1, 0] rfl h
      · have h := h.2 c4
        refine ws_iconst (v := (-1)) (dcd d_Sn_passOne_0 26 rfl) (by decide) ?_
        refine ws_goto (tgt := 54) (dcd d_Sn_passOne_0 27 rfl) (by decide) ?_
        refine ws_istore (l' := [(6, .int (-1)), (5, .int (goC (mI u (shO u o1 (mI u (o1 + 3) (x3 : Int32).toNatClampNeg)) 0) (mI u (shO u o1 (mI u (o1 + 3) (x3 : Int32).toNatClampNeg)) 4) (mI u (shO u o1 (mI u (o1 + 3) (x3 : Int32).toNatClampNeg)) 2) (mI u o0 0))), (4, .int (mI u (o1 + 3) (x3 : Int32).toNatClampNeg)), (0, .ref o0), (1, .ref o1), (2, .int x2), (3, .int x3)]) (dcd d_Sn_passOne_0 29 rfl) (by decide) rfl ?_
        refine ws_aload_n 4 (dcd d_Sn_passOne_1 0 rfl) rfl ?_
        refine ws_aload_n 3 (dcd d_Sn_passOne_1 1 rfl) rfl ?_
        refine ws_iload 2 (dcd d_Sn_passOne_1 2 rfl) rfl ?_
        refine ws_callVI (o := o0) (As := [.int (mI u (o1 + 3) (x3 : Int32).toNatClampNeg)]) (st := [.ref o1]) (la := [(0, .ref o0), (1, .int (mI u (o1 + 3) (x3 : Int32).toNatClampNeg))]) (dcd d_Sn_passOne_1 3 rfl) cv_Sn_doorOf k_Sn_56 ⟨by decide, by decide⟩ k0 rfl (Nat.le_of_ble_eq_true rfl) (Nat.le_of_ble_eq_true rfl) rfl rfl (sp_Sn_doorOf k0) ?_
        rintro _ _ ⟨rfl, rfl⟩
        refine ws_iload 1 (dcd d_Sn_passOne_1 4 rfl) rfl ?_
        refine ws_iadd (dcd d_Sn_passOne_1 5 rfl) ?_
        refine ws_i2l (dcd d_Sn_passOne_1 6 rfl) ?_
        refine ws_callVI (o := o1) (As := [.long (((snD u o0 (mI u (o1 + 3) (x3 : Int32).toNatClampNeg)) + (goC (mI u (shO u o1 (mI u (o1 + 3) (x3 : Int32).toNatClampNeg)) 0) (mI u (shO u o1 (mI u (o1 + 3) (x3 : Int32).toNatClampNeg)) 4) (mI u (shO u o1 (mI u (o1 + 3) (x3 : Int32).toNatClampNeg)) 2) (mI u o0 0))) : Int32).toInt64]) (st := []) (la := [(0, .ref o1), (1, .long (((snD u o0 (mI u (o1 + 3) (x3 : Int32).toNatClampNeg)) + (goC (mI u (shO u o1 (mI u (o1 + 3) (x3 : Int32).toNatClampNeg)) 0) (mI u (shO u o1 (mI u (o1 + 3) (x3 : Int32).toNatClampNeg)) 4) (mI u (shO u o1 (mI u (o1 + 3) (x3 : Int32).toNatClampNeg)) 2) (mI u o0 0))) : Int32).toInt64)]) (dcd d_Sn_passOne_1 7 rfl) cv_Pl_wrapped k_Sn_62 ⟨by decide, by decide⟩ k1 rfl (Nat.le_of_ble_eq_true rfl) (Nat.le_of_ble_eq_true rfl) rfl rfl (sp_Pl_wrapped k1) ?_
        rintro _ _ ⟨rfl, rfl⟩
        refine ws_istore (l' := [(7, .int (wrV (mI u o1 0) (((snD u o0 (mI u (o1 + 3) (x3 : Int32).toNatClampNeg)) + (goC (mI u (shO u o1 (mI u (o1 + 3) (x3 : Int32).toNatClampNeg)) 0) (mI u (shO u o1 (mI u (o1 + 3) (x3 : Int32).toNatClampNeg)) 4) (mI u (shO u o1 (mI u (o1 + 3) (x3 : Int32).toNatClampNeg)) 2) (mI u o0 0))) : Int32).toInt64)), (6, .int (-1)), (5, .int (goC (mI u (shO u o1 (mI u (o1 + 3) (x3 : Int32).toNatClampNeg)) 0) (mI u (shO u o1 (mI u (o1 + 3) (x3 : Int32).toNatClampNeg)) 4) (mI u (shO u o1 (mI u (o1 + 3) (x3 : Int32).toNatClampNeg)) 2) (mI u o0 0))), (4, .int (mI u (o1 + 3) (x3 : Int32).toNatClampNeg)), (0, .ref o0), (1, .ref o1), (2, .int x2), (3, .int x3)]) (dcd d_Sn_passOne_1 8 rfl) (by decide) rfl ?_
        refine ws_iconst (v := 0) (dcd d_Sn_passOne_1 9 rfl) (by decide) ?_
        refine ws_istore (l' := [(8, .int 0), (7, .int (wrV (mI u o1 0) (((snD u o0 (mI u (o1 + 3) (x3 : Int32).toNatClampNeg)) + (goC (mI u (shO u o1 (mI u (o1 + 3) (x3 : Int32).toNatClampNeg)) 0) (mI u (shO u o1 (mI u (o1 + 3) (x3 : Int32).toNatClampNeg)) 4) (mI u (shO u o1 (mI u (o1 + 3) (x3 : Int32).toNatClampNeg)) 2) (mI u o0 0))) : Int32).toInt64)), (6, .int (-1)), (5, .int (goC (mI u (shO u o1 (mI u (o1 + 3) (x3 : Int32).toNatClampNeg)) 0) (mI u (shO u o1 (mI u (o1 + 3) (x3 : Int32).toNatClampNeg)) 4) (mI u (shO u o1 (mI u (o1 + 3) (x3 : Int32).toNatClampNeg)) 2) (mI u o0 0))), (4, .int (mI u (o1 + 3) (x3 : Int32).toNatClampNeg)), (0, .ref o0), (1, .ref o1), (2, .int x2), (3, .int x3)]) (dcd d_Sn_passOne_1 10 rfl) (by decide) rfl ?_
        exact ws_loc [5, 6, 7, 8, 4, 2, 1, 0] rfl h
theorem sg_Sn_passOne_75 {o0 : Nat} {o1 : Nat} {x2 : Int32} {x3 : Int32} {x4 : Int32} {x6 : Int32} {x7 : Int32} {x8 : Int32} (k0 : okS o0 5) (k1 : okS o1 2) (h : (((mI u o1 0) ≤ x8 → Ws G Sn_passOne 7 [(0, .ref o0), (1, .ref o1), (2, .int (x2 ||| (1 <<< (x7 &&& 31)))), (3, .int (x3 + 1))] [] (snS u o0 x4 x7) Q) ∧ (¬ ((mI u o1 0) ≤ x8) → (((isI x2 x7) → Ws G Sn_passOne 75 [(0, .ref o0), (1, .ref o1), (2, .int x2), (3, .int x3), (4, .int x4), (6, .int x6), (7, .int (wrV (mI u o1 0) ((x7 + x6) : Int32).toInt64)), (8, .int (x8 + 1))] [] u Q) ∧ (¬ (isI x2 x7) → Ws G Sn_passOne 7 [(0, .ref o0), (1, .ref o1), (2, .int (x2 ||| (1 <<< (x7 &&& 31)))), (3, .int (x3 + 1))] [] (snS u o0 x4 x7) Q))))) : Ws G Sn_passOne 75 [(0, .ref o0), (1, .ref o1), (2, .int x2), (3, .int x3), (4, .int x4), (6, .int x6), (7, .int x7), (8, .int x8)] [] u Q := by
  refine ws_iload 7 (dcd d_Sn_passOne_1 11 rfl) rfl ?_
  refine ws_aload_n 1 (dcd d_Sn_passOne_1 12 rfl) rfl ?_
  refine ws_getI f_Sn_73 rfl (dcd d_Sn_passOne_1 13 rfl) k1 ?_
  refine ws_icmp_ge (tgt := 111) (dcd d_Sn_passOne_1 14 rfl) (by decide) (fun c1 => ?_) (fun c1 => ?_)
  · have h := h.1 c1
    refine ws_aload_n 0 (dcd d_Sn_passOne_1 28 rfl) rfl ?_
    refine ws_iload 4 (dcd d_Sn_passOne_1 29 rfl) rfl ?_
    refine ws_iload 6 (dcd d_Sn_passOne_2 0 rfl) rfl ?_
    refine ws_callVV (o := o0) (As := [.int x4, .int x7]) (st := []) (la := [(0, .ref o0), (1, .int x4), (2, .int x7)]) (dcd d_Sn_passOne_2 1 rfl) cv_Sn_setDoor k_Sn_36 ⟨by decide, by decide⟩ k0 rfl (Nat.le_of_ble_eq_true rfl) (Nat.le_of_ble_eq_true rfl) rfl rfl (sp_Sn_setDoor k0) ?_
    rintro _ rfl
    refine ws_iload_n 2 (dcd d_Sn_passOne_2 2 rfl) rfl ?_
    refine ws_iconst (v := 1) (dcd d_Sn_passOne_2 3 rfl) (by decide) ?_
    refine ws_iload 6 (dcd d_Sn_passOne_2 4 rfl) rfl ?_
    refine ws_ishl (dcd d_Sn_passOne_2 5 rfl) ?_
    refine ws_ior (dcd d_Sn_passOne_2 6 rfl) ?_
    refine ws_istore_n (l' := [(2, .int (x2 ||| (1 <<< (x7 &&& 31)))), (0, .ref o0), (1, .ref o1), (3, .int x3), (4, .int x4), (6, .int x6), (7, .int x7), (8, .int x8)]) (dcd d_Sn_passOne_2 7 rfl) (by decide) rfl ?_
    refine ws_iinc (v := 1) (l' := [(3, .int (x3 + 1)), (2, .int (x2 ||| (1 <<< (x7 &&& 31)))), (0, .ref o0), (1, .ref o1), (4, .int x4), (6, .int x6), (7, .int x7), (8, .int x8)]) 3 (dcd d_Sn_passOne_2 8 rfl) rfl (by decide) (by decide) rfl ?_
    refine ws_goto (tgt := 7) (dcd d_Sn_passOne_2 9 rfl) (by decide) ?_
    exact ws_loc [2, 3, 1, 0] rfl h
  · have h := h.2 c1
    refine ws_iload_n 2 (dcd d_Sn_passOne_1 15 rfl) rfl ?_
    refine ws_iload 6 (dcd d_Sn_passOne_1 16 rfl) rfl ?_
    refine ws_callSI (As := [.int x2, .int x7]) (st := []) (la := [(0, .int x2), (1, .int x7)]) (dcd d_Sn_passOne_1 17 rfl) cs_D_isIn k_Sn_46 ⟨by decide, by decide⟩ rfl (Nat.le_of_ble_eq_true rfl) (Nat.le_of_ble_eq_true rfl) rfl rfl sp_D_isIn ?_
    rintro _ _ ⟨rfl, ⟨rfl, c2⟩ | ⟨rfl, c2⟩⟩
    · have h := h.1 c2
      refine ws_if_eq (tgt := 111) (dcd d_Sn_passOne_1 18 rfl) (by decide) (fun c => absurd c (by decide)) (fun _ => ?_)
      refine ws_aload_n 1 (dcd d_Sn_passOne_1 19 rfl) rfl ?_
      refine ws_iload 6 (dcd d_Sn_passOne_1 20 rfl) rfl ?_
      refine ws_iload 5 (dcd d_Sn_passOne_1 21 rfl) rfl ?_
      refine ws_iadd (dcd d_Sn_passOne_1 22 rfl) ?_
      refine ws_i2l (dcd d_Sn_passOne_1 23 rfl) ?_
      refine ws_callVI (o := o1) (As := [.long ((x7 + x6) : Int32).toInt64]) (st := []) (la := [(0, .ref o1), (1, .long ((x7 + x6) : Int32).toInt64)]) (dcd d_Sn_passOne_1 24 rfl) cv_Pl_wrapped k_Sn_62 ⟨by decide, by decide⟩ k1 rfl (Nat.le_of_ble_eq_true rfl) (Nat.le_of_ble_eq_true rfl) rfl rfl (sp_Pl_wrapped k1) ?_
      rintro _ _ ⟨rfl, rfl⟩
      refine ws_istore (l' := [(7, .int (wrV (mI u o1 0) ((x7 + x6) : Int32).toInt64)), (0, .ref o0), (1, .ref o1), (2, .int x2), (3, .int x3), (4, .int x4), (6, .int x6), (8, .int x8)]) (dcd d_Sn_passOne_1 25 rfl) (by decide) rfl ?_
      refine ws_iinc (v := 1) (l' := [(8, .int (x8 + 1)), (7, .int (wrV (mI u o1 0) ((x7 + x6) : Int32).toInt64)), (0, .ref o0), (1, .ref o1), (2, .int x2), (3, .int x3), (4, .int x4), (6, .int x6)]) 7 (dcd d_Sn_passOne_1 26 rfl) rfl (by decide) (by decide) rfl ?_
      refine ws_goto (tgt := 75) (dcd d_Sn_passOne_1 27 rfl) (by decide) ?_
      exact ws_loc [2, 3, 4, 5, 6, 7, 1, 0] rfl h
    · have h := h.2 c2
      refine ws_if_eq (tgt := 111) (dcd d_Sn_passOne_1 18 rfl) (by decide) (fun _ => ?_) (fun c => absurd (show (0 : Int32) = 0 from by decide) c)
      refine ws_aload_n 0 (dcd d_Sn_passOne_1 28 rfl) rfl ?_
      refine ws_iload 4 (dcd d_Sn_passOne_1 29 rfl) rfl ?_
      refine ws_iload 6 (dcd d_Sn_passOne_2 0 rfl) rfl ?_
      refine ws_callVV (o := o0) (As := [.int x4, .int x7]) (st := []) (la := [(0, .ref o0), (1, .int x4), (2, .int x7)]) (dcd d_Sn_passOne_2 1 rfl) cv_Sn_setDoor k_Sn_36 ⟨by decide, by decide⟩ k0 rfl (Nat.le_of_ble_eq_true rfl) (Nat.le_of_ble_eq_true rfl) rfl rfl (sp_Sn_setDoor k0) ?_
      rintro _ rfl
      refine ws_iload_n 2 (dcd d_Sn_passOne_2 2 rfl) rfl ?_
      refine ws_iconst (v := 1) (dcd d_Sn_passOne_2 3 rfl) (by decide) ?_
      refine ws_iload 6 (dcd d_Sn_passOne_2 4 rfl) rfl ?_
      refine ws_ishl (dcd d_Sn_passOne_2 5 rfl) ?_
      refine ws_ior (dcd d_Sn_passOne_2 6 rfl) ?_
      refine ws_istore_n (l' := [(2, .int (x2 ||| (1 <<< (x7 &&& 31)))), (0, .ref o0), (1, .ref o1), (3, .int x3), (4, .int x4), (6, .int x6), (7, .int x7), (8, .int x8)]) (dcd d_Sn_passOne_2 7 rfl) (by decide) rfl ?_
      refine ws_iinc (v := 1) (l' := [(3, .int (x3 + 1)), (2, .int (x2 ||| (1 <<< (x7 &&& 31)))), (0, .ref o0), (1, .ref o1), (4, .int x4), (6, .int x6), (7, .int x7), (8, .int x8)]) 3 (dcd d_Sn_passOne_2 8 rfl) rfl (by decide) (by decide) rfl ?_
      refine ws_goto (tgt := 7) (dcd d_Sn_passOne_2 9 rfl) (by decide) ?_
      exact ws_loc [2, 3, 1, 0] rfl h
theorem sg_D_doors_0 {x1 : Int32}  (h : (((0 ≤ x1 ∧ x1 < 6) → (pl (mR u 2 10) → Ws G Sp_renew 0 [(0, .ref (roV x1)), (1, .int (mI u (mR u 2 10) 1)), (2, .int 0)] [] u (RV fun u4 => Ws G D_doors 29 [(0, .ref 2), (2, .ref (roV x1)), (3, .int 0)] [] u4 Q))) ∧ (¬ (0 ≤ x1 ∧ x1 < 6) → Q (some (.int (-1))) u))) : Ws G D_doors 0 [(0, .ref 2), (1, .int x1)] [] u Q := by
  refine ws_iload_n 1 (dcd d_D_doors_0 0 rfl) rfl ?_
  refine ws_callSI (As := [.int x1]) (st := []) (la := [(0, .int x1)]) (dcd d_D_doors_0 1 rfl) cs_D_isRow k_D_87 ⟨by decide, by decide⟩ rfl (Nat.le_of_ble_eq_true rfl) (Nat.le_of_ble_eq_true rfl) rfl rfl sp_D_isRow ?_
  rintro _ _ ⟨rfl, ⟨rfl, c1⟩ | ⟨rfl, c1⟩⟩
  · have h := h.1 c1
    refine ws_if_ne (tgt := 9) (dcd d_D_doors_0 2 rfl) (by decide) (fun _ => ?_) (fun c => absurd c (by decide))
    refine ws_aload_n 0 (dcd d_D_doors_0 5 rfl) rfl ?_
    refine ws_iload_n 1 (dcd d_D_doors_0 6 rfl) rfl ?_
    refine ws_callVR (o := 2) (As := [.int x1]) (st := []) (la := [(0, .ref 2), (1, .int x1)]) (dcd d_D_doors_0 7 rfl) cv_D_rowOf k_D_95 ⟨by decide, by decide⟩ ok_2 rfl (Nat.le_of_ble_eq_true rfl) (Nat.le_of_ble_eq_true rfl) rfl rfl sp_D_rowOf ?_
    rintro _ _ ⟨rfl, rfl⟩
    refine ws_astore_n (l' := [(2, .ref (roV x1)), (0, .ref 2), (1, .int x1)]) (dcd d_D_doors_0 8 rfl) (by decide) rfl ?_
    refine ws_aload_n 0 (dcd d_D_doors_0 9 rfl) rfl ?_
    refine ws_aload_n 1 (dcd d_D_doors_0 10 rfl) rfl ?_
    refine ws_getP (by decide) f_D_63 (dcd d_D_doors_0 11 rfl) (fun j3 => ?_)
    have h := h j3
    refine ws_getI f_D_163 rfl (dcd d_D_doors_0 12 rfl) (pl_ok j3) ?_
    refine ws_iconst (v := 0) (dcd d_D_doors_0 13 rfl) (by decide) ?_
    refine ws_callVV (o := (roV x1)) (As := [.int (mI u (mR u 2 10) 1), .int 0]) (st := []) (la := [(0, .ref (roV x1)), (1, .int (mI u (mR u 2 10) 1)), (2, .int 0)]) (dcd d_D_doors_0 14 rfl) cv_Sp_renew k_D_99 ⟨by decide, by decide⟩ (roV_ok x1) rfl (Nat.le_of_ble_eq_true rfl) (Nat.le_of_ble_eq_true rfl) rfl rfl h (fun u4 h => ?_)
    refine ws_iconst (v := 0) (dcd d_D_doors_0 15 rfl) (by decide) ?_
    refine ws_istore_n (l' := [(3, .int 0), (2, .ref (roV x1)), (0, .ref 2), (1, .int x1)]) (dcd d_D_doors_0 16 rfl) (by decide) rfl ?_
    exact ws_loc [2, 1, 0] rfl h
  · have h := h.2 c1
    refine ws_if_ne (tgt := 9) (dcd d_D_doors_0 2 rfl) (by decide) (fun c => absurd (show (0 : Int32) = 0 from by decide) c) (fun _ => ?_)
    refine ws_iconst (v := (-1)) (dcd d_D_doors_0 3 rfl) (by decide) ?_
    exact ws_iret (dcd d_D_doors_0 4 rfl) ⟨_, rfl, rfl⟩ h
theorem sg_D_doors_29 {o2 : Nat} {x3 : Int32} (k2 : okS o2 6) (h : (pl (mR u 2 10) → (((mI u (mR u 2 10) 1) ≤ x3 → (pl (mR u 2 10) → Q (some (.int (mI u (mR u 2 10) 1))) u)) ∧ (¬ ((mI u (mR u 2 10) 1) ≤ x3) → Ws G D_doors 29 [(0, .ref 2), (2, .ref o2), (3, .int (x3 + 1))] [] (spS u o2 x3 (snD u 7 x3)) Q)))) : Ws G D_doors 29 [(0, .ref 2), (2, .ref o2), (3, .int x3)] [] u Q := by
  refine ws_iload_n 2 (dcd d_D_doors_0 17 rfl) rfl ?_
  refine ws_aload_n 0 (dcd d_D_doors_0 18 rfl) rfl ?_
  refine ws_getP (by decide) f_D_63 (dcd d_D_doors_0 19 rfl) (fun j1 => ?_)
  have h := h j1
  refine ws_getI f_D_163 rfl (dcd d_D_doors_0 20 rfl) (pl_ok j1) ?_
  refine ws_icmp_ge (tgt := 59) (dcd d_D_doors_0 21 rfl) (by decide) (fun c2 => ?_) (fun c2 => ?_)
  · have h := h.1 c2
    refine ws_aload_n 0 (dcd d_D_doors_1 1 rfl) rfl ?_
    refine ws_getP (by decide) f_D_63 (dcd d_D_doors_1 2 rfl) (fun j3 => ?_)
    have h := h j3
    refine ws_getI f_D_163 rfl (dcd d_D_doors_1 3 rfl) (pl_ok j3) ?_
    exact ws_iret (dcd d_D_doors_1 4 rfl) ⟨_, rfl, rfl⟩ h
  · have h := h.2 c2
    refine ws_aload_n 1 (dcd d_D_doors_0 22 rfl) rfl ?_
    refine ws_iload_n 2 (dcd d_D_doors_0 23 rfl) rfl ?_
    refine ws_aload_n 0 (dcd d_D_doors_0 24 rfl) rfl ?_
    refine ws_getF (a := 7) f_D_28 rfl (dcd d_D_doors_0 25 rfl) ok_2 of_7_3 rfl ?_
    refine ws_iload_n 2 (dcd d_D_doors_0 26 rfl) rfl ?_
    refine ws_callVI (o := 7) (As := [.int x3]) (st := [.int x3, .ref o2]) (la := [(0, .ref 7), (1, .int x3)]) (dcd d_D_doors_0 27 rfl) cv_Sn_doorOf k_D_217 ⟨by decide, by decide⟩ (os_7_3 ok_2) rfl (Nat.le_of_ble_eq_true rfl) (Nat.le_of_ble_eq_true rfl) rfl rfl (sp_Sn_doorOf (os_7_3 ok_2)) ?_
    rintro _ _ ⟨rfl, rfl⟩
    refine ws_callVV (o := o2) (As := [.int x3, .int (snD u 7 x3)]) (st := []) (la := [(0, .ref o2), (1, .int x3), (2, .int (snD u 7 x3))]) (dcd d_D_doors_0 28 rfl) cv_Sp_set k_D_110 ⟨by decide, by decide⟩ k2 rfl (Nat.le_of_ble_eq_true rfl) (Nat.le_of_ble_eq_true rfl) rfl rfl (sp_Sp_set k2) ?_
    rintro _ rfl
    refine ws_iinc (v := 1) (l' := [(3, .int (x3 + 1)), (0, .ref 2), (2, .ref o2)]) 2 (dcd d_D_doors_0 29 rfl) rfl (by decide) (by decide) rfl ?_
    refine ws_goto (tgt := 29) (dcd d_D_doors_1 0 rfl) (by decide) ?_
    exact ws_loc [1, 2, 0] rfl h
theorem sg_D_who_0 {x1 : Int32}  (h : (pl (mR u 2 10) → (((0 ≤ x1 ∧ x1 < (mI u (mR u 2 10) 0)) → Ws G D_who 15 [(0, .ref 2), (1, .int x1), (2, .int 0)] [] u Q) ∧ (¬ (0 ≤ x1 ∧ x1 < (mI u (mR u 2 10) 0)) → Q (some (.int (-1))) u)))) : Ws G D_who 0 [(0, .ref 2), (1, .int x1)] [] u Q := by
  refine ws_aload_n 0 (dcd d_D_who_0 0 rfl) rfl ?_
  refine ws_getP (by decide) f_D_63 (dcd d_D_who_0 1 rfl) (fun j1 => ?_)
  have h := h j1
  refine ws_iload_n 1 (dcd d_D_who_0 2 rfl) rfl ?_
  refine ws_callVI (o := (mR u 2 10)) (As := [.int x1]) (st := []) (la := [(0, .ref (mR u 2 10)), (1, .int x1)]) (dcd d_D_who_0 3 rfl) cv_Pl_hasDoor k_D_198 ⟨by decide, by decide⟩ (pl_ok j1) rfl (Nat.le_of_ble_eq_true rfl) (Nat.le_of_ble_eq_true rfl) rfl rfl (sp_Pl_hasDoor (pl_ok j1)) ?_
  rintro _ _ ⟨rfl, ⟨rfl, c2⟩ | ⟨rfl, c2⟩⟩
  · have h := h.1 c2
    refine ws_if_ne (tgt := 13) (dcd d_D_who_0 4 rfl) (by decide) (fun _ => ?_) (fun c => absurd c (by decide))
    refine ws_iconst (v := 0) (dcd d_D_who_0 7 rfl) (by decide) ?_
    refine ws_istore_n (l' := [(2, .int 0), (0, .ref 2), (1, .int x1)]) (dcd d_D_who_0 8 rfl) (by decide) rfl ?_
    exact ws_loc [1, 2, 0] rfl h
  · have h := h.2 c2
    refine ws_if_ne (tgt := 13) (dcd d_D_who_0 4 rfl) (by decide) (fun c => absurd (show (0 : Int32) = 0 from by decide) c) (fun _ => ?_)
    refine ws_iconst (v := (-1)) (dcd d_D_who_0 5 rfl) (by decide) ?_
    exact ws_iret (dcd d_D_who_0 6 rfl) ⟨_, rfl, rfl⟩ h
theorem sg_D_who_15 {x1 : Int32} {x2 : Int32}  (h : (pl (mR u 2 10) → (((mI u (mR u 2 10) 1) ≤ x2 → Q (some (.int (-9))) u) ∧ (¬ ((mI u (mR u 2 10) 1) ≤ x2) → ((¬ (snD u 7 x2) = x1 → Ws G D_who 15 [(0, .ref 2), (1, .int x1), (2, .int (x2 + 1))] [] u Q) ∧ ((snD u 7 x2) = x1 → Q (some (.int x2)) u)))))) : Ws G D_who 15 [(0, .ref 2), (1, .int x1), (2, .int x2)] [] u Q := by
  refine ws_iload_n 2 (dcd d_D_who_0 9 rfl) rfl ?_
  refine ws_aload_n 0 (dcd d_D_who_0 10 rfl) rfl ?_
  refine ws_getP (by decide) f_D_63 (dcd d_D_who_0 11 rfl) (fun j1 => ?_)
  have h := h j1
  refine ws_getI f_D_163 rfl (dcd d_D_who_0 12 rfl) (pl_ok j1) ?_
  refine ws_icmp_ge (tgt := 46) (dcd d_D_who_0 13 rfl) (by decide) (fun c2 => ?_) (fun c2 => ?_)
  · have h := h.1 c2
    refine ws_bipush (v := (-9)) (dcd d_D_who_0 24 rfl) (by decide) ?_
    exact ws_iret (dcd d_D_who_0 25 rfl) ⟨_, rfl, rfl⟩ h
  · have h := h.2 c2
    refine ws_aload_n 0 (dcd d_D_who_0 14 rfl) rfl ?_
    refine ws_getF (a := 7) f_D_28 rfl (dcd d_D_who_0 15 rfl) ok_2 of_7_3 rfl ?_
    refine ws_iload_n 2 (dcd d_D_who_0 16 rfl) rfl ?_
    refine ws_callVI (o := 7) (As := [.int x2]) (st := []) (la := [(0, .ref 7), (1, .int x2)]) (dcd d_D_who_0 17 rfl) cv_Sn_doorOf k_D_217 ⟨by decide, by decide⟩ (os_7_3 ok_2) rfl (Nat.le_of_ble_eq_true rfl) (Nat.le_of_ble_eq_true rfl) rfl rfl (sp_Sn_doorOf (os_7_3 ok_2)) ?_
    rintro _ _ ⟨rfl, rfl⟩
    refine ws_iload_n 1 (dcd d_D_who_0 18 rfl) rfl ?_
    refine ws_icmp_ne (tgt := 40) (dcd d_D_who_0 19 rfl) (by decide) (fun c3 => ?_) (fun c3 => ?_)
    · have h := h.1 c3
      refine ws_iinc (v := 1) (l' := [(2, .int (x2 + 1)), (0, .ref 2), (1, .int x1)]) 2 (dcd d_D_who_0 22 rfl) rfl (by decide) (by decide) rfl ?_
      refine ws_goto (tgt := 15) (dcd d_D_who_0 23 rfl) (by decide) ?_
      exact ws_loc [1, 2, 0] rfl h
    · have h := h.2 c3
      refine ws_iload_n 2 (dcd d_D_who_0 20 rfl) rfl ?_
      exact ws_iret (dcd d_D_who_0 21 rfl) ⟨_, rfl, rfl⟩ h
theorem sg_D_wants_0 {x1 : Int32}  (h : (pl (mR u 2 10) → (((plS u (mR u 2 10) x1) → (pl (mR (snB u 10 7) 2 10) → Ws G Sn_pass 0 [(0, .ref 10), (1, .ref (mR (snB u 10 7) 2 10)), (2, .int 1)] [] (snB u 10 7) (RV fun u5 => (pl (mR u5 2 10) → Ws G Sn_wanted 0 [(0, .ref 7), (1, .ref (mR u5 2 10)), (2, .int x1)] [] u5 (RI fun a7 u7 => Q (some (.int a7)) (pI u7 2 12 (snD u5 10 x1))))))) ∧ (¬ (plS u (mR u 2 10) x1) → Q (some (.int (-1))) u)))) : Ws G D_wants 0 [(0, .ref 2), (1, .int x1)] [] u Q := by
  refine ws_aload_n 0 (dcd d_D_wants_0 0 rfl) rfl ?_
  refine ws_getP (by decide) f_D_63 (dcd d_D_wants_0 1 rfl) (fun j1 => ?_)
  have h := h j1
  refine ws_iload_n 1 (dcd d_D_wants_0 2 rfl) rfl ?_
  refine ws_callVI (o := (mR u 2 10)) (As := [.int x1]) (st := []) (la := [(0, .ref (mR u 2 10)), (1, .int x1)]) (dcd d_D_wants_0 3 rfl) cv_Pl_hasShop k_D_164 ⟨by decide, by decide⟩ (pl_ok j1) rfl (Nat.le_of_ble_eq_true rfl) (Nat.le_of_ble_eq_true rfl) rfl rfl (sp_Pl_hasShop (pl_ok j1)) ?_
  rintro _ _ ⟨rfl, ⟨rfl, c2⟩ | ⟨rfl, c2⟩⟩
  · have h := h.1 c2
    refine ws_if_ne (tgt := 13) (dcd d_D_wants_0 4 rfl) (by decide) (fun _ => ?_) (fun c => absurd c (by decide))
    refine ws_aload_n 0 (dcd d_D_wants_0 7 rfl) rfl ?_
    refine ws_getF (a := 10) f_D_36 rfl (dcd d_D_wants_0 8 rfl) ok_2 of_7_5 rfl ?_
    refine ws_aload_n 0 (dcd d_D_wants_0 9 rfl) rfl ?_
    refine ws_getF (a := 7) f_D_28 rfl (dcd d_D_wants_0 10 rfl) ok_2 of_7_3 rfl ?_
    refine ws_callVV (o := 10) (As := [.ref 7]) (st := []) (la := [(0, .ref 10), (1, .ref 7)]) (dcd d_D_wants_0 11 rfl) cv_Sn_become k_D_220 ⟨by decide, by decide⟩ (os_7_5 ok_2) rfl (Nat.le_of_ble_eq_true rfl) (Nat.le_of_ble_eq_true rfl) rfl rfl (sp_Sn_become (os_7_5 ok_2) (os_7_3 ok_2)) ?_
    rintro _ rfl
    refine ws_aload_n 0 (dcd d_D_wants_0 12 rfl) rfl ?_
    refine ws_getF (a := 10) f_D_36 rfl (dcd d_D_wants_0 13 rfl) ok_2 of_7_5 rfl ?_
    refine ws_aload_n 0 (dcd d_D_wants_0 14 rfl) rfl ?_
    refine ws_getP (by decide) f_D_63 (dcd d_D_wants_0 15 rfl) (fun j4 => ?_)
    have h := h j4
    refine ws_iconst (v := 1) (dcd d_D_wants_0 16 rfl) (by decide) ?_
    refine ws_callVV (o := 10) (As := [.ref (mR (snB u 10 7) 2 10), .int 1]) (st := []) (la := [(0, .ref 10), (1, .ref (mR (snB u 10 7) 2 10)), (2, .int 1)]) (dcd d_D_wants_0 17 rfl) cv_Sn_pass k_D_213 ⟨by decide, by decide⟩ (os_7_5 ok_2) rfl (Nat.le_of_ble_eq_true rfl) (Nat.le_of_ble_eq_true rfl) rfl rfl h (fun u5 h => ?_)
    refine ws_aload_n 0 (dcd d_D_wants_0 18 rfl) rfl ?_
    refine ws_aload_n 0 (dcd d_D_wants_0 19 rfl) rfl ?_
    refine ws_getF (a := 10) f_D_36 rfl (dcd d_D_wants_0 20 rfl) ok_2 of_7_5 rfl ?_
    refine ws_iload_n 1 (dcd d_D_wants_0 21 rfl) rfl ?_
    refine ws_callVI (o := 10) (As := [.int x1]) (st := [.ref 2]) (la := [(0, .ref 10), (1, .int x1)]) (dcd d_D_wants_0 22 rfl) cv_Sn_doorOf k_D_217 ⟨by decide, by decide⟩ (os_7_5 ok_2) rfl (Nat.le_of_ble_eq_true rfl) (Nat.le_of_ble_eq_true rfl) rfl rfl (sp_Sn_doorOf (os_7_5 ok_2)) ?_
    rintro _ _ ⟨rfl, rfl⟩
    refine ws_aload_n 0 (dcd d_D_wants_0 23 rfl) rfl ?_
    refine ws_getF (a := 7) f_D_28 rfl (dcd d_D_wants_0 24 rfl) ok_2 of_7_3 rfl ?_
    refine ws_aload_n 0 (dcd d_D_wants_0 25 rfl) rfl ?_
    refine ws_getP (by decide) f_D_63 (dcd d_D_wants_0 26 rfl) (fun j6 => ?_)
    have h := h j6
    refine ws_iload_n 1 (dcd d_D_wants_0 27 rfl) rfl ?_
    refine ws_callVI (o := 7) (As := [.ref (mR u5 2 10), .int x1]) (st := [.int (snD u5 10 x1), .ref 2]) (la := [(0, .ref 7), (1, .ref (mR u5 2 10)), (2, .int x1)]) (dcd d_D_wants_0 28 rfl) cv_Sn_wanted k_D_224 ⟨by decide, by decide⟩ (os_7_3 ok_2) rfl (Nat.le_of_ble_eq_true rfl) (Nat.le_of_ble_eq_true rfl) rfl rfl h (fun a7 u7 h => ?_)
    refine ws_callVI (o := 2) (As := [.int (snD u5 10 x1), .int a7]) (st := []) (la := [(0, .ref 2), (1, .int (snD u5 10 x1)), (2, .int a7)]) (dcd d_D_wants_0 29 rfl) cv_D_tell k_D_113 ⟨by decide, by decide⟩ ok_2 rfl (Nat.le_of_ble_eq_true rfl) (Nat.le_of_ble_eq_true rfl) rfl rfl sp_D_tell ?_
    rintro _ _ ⟨rfl, rfl⟩
    exact ws_iret (dcd d_D_wants_1 0 rfl) ⟨_, rfl, rfl⟩ h
  · have h := h.2 c2
    refine ws_if_ne (tgt := 13) (dcd d_D_wants_0 4 rfl) (by decide) (fun c => absurd (show (0 : Int32) = 0 from by decide) c) (fun _ => ?_)
    refine ws_iconst (v := (-1)) (dcd d_D_wants_0 5 rfl) (by decide) ?_
    exact ws_iret (dcd d_D_wants_0 6 rfl) ⟨_, rfl, rfl⟩ h
theorem sg_D_where_0 {x1 : Int32} {x2 : Int32}  (h : (pl (mR u 2 10) → (((plS u (mR u 2 10) x1) → ((x2 < 0 → Q (some (.int (-1))) u) ∧ (¬ (x2 < 0) → ((x2 ≤ 400 → (pl (mR (snB u 10 7) 2 10) → Ws G Sn_pass 0 [(0, .ref 10), (1, .ref (mR (snB u 10 7) 2 10)), (2, .int x2)] [] (snB u 10 7) (RV fun u7 => Q (some (.int (snD u7 10 x1))) u7))) ∧ (¬ (x2 ≤ 400) → Q (some (.int (-1))) u))))) ∧ (¬ (plS u (mR u 2 10) x1) → Q (some (.int (-1))) u)))) : Ws G D_where 0 [(0, .ref 2), (1, .int x1), (2, .int x2)] [] u Q := by
  refine ws_aload_n 0 (dcd d_D_where_0 0 rfl) rfl ?_
  refine ws_getP (by decide) f_D_63 (dcd d_D_where_0 1 rfl) (fun j1 => ?_)
  have h := h j1
  refine ws_iload_n 1 (dcd d_D_where_0 2 rfl) rfl ?_
  refine ws_callVI (o := (mR u 2 10)) (As := [.int x1]) (st := []) (la := [(0, .ref (mR u 2 10)), (1, .int x1)]) (dcd d_D_where_0 3 rfl) cv_Pl_hasShop k_D_164 ⟨by decide, by decide⟩ (pl_ok j1) rfl (Nat.le_of_ble_eq_true rfl) (Nat.le_of_ble_eq_true rfl) rfl rfl (sp_Pl_hasShop (pl_ok j1)) ?_
  rintro _ _ ⟨rfl, ⟨rfl, c2⟩ | ⟨rfl, c2⟩⟩
  · have h := h.1 c2
    refine ws_if_eq (tgt := 22) (dcd d_D_where_0 4 rfl) (by decide) (fun c => absurd c (by decide)) (fun _ => ?_)
    refine ws_iload_n 2 (dcd d_D_where_0 5 rfl) rfl ?_
    refine ws_if_lt (tgt := 22) (dcd d_D_where_0 6 rfl) (by decide) (fun c4 => ?_) (fun c4 => ?_)
    · have h := h.1 c4
      refine ws_iconst (v := (-1)) (dcd d_D_where_0 10 rfl) (by decide) ?_
      exact ws_iret (dcd d_D_where_0 11 rfl) ⟨_, rfl, rfl⟩ h
    · have h := h.2 c4
      refine ws_iload_n 2 (dcd d_D_where_0 7 rfl) rfl ?_
      refine ws_sipush (v := 400) (dcd d_D_where_0 8 rfl) (by decide) ?_
      refine ws_icmp_le (tgt := 24) (dcd d_D_where_0 9 rfl) (by decide) (fun c5 => ?_) (fun c5 => ?_)
      · have h := h.1 c5
        refine ws_aload_n 0 (dcd d_D_where_0 12 rfl) rfl ?_
        refine ws_getF (a := 10) f_D_36 rfl (dcd d_D_where_0 13 rfl) ok_2 of_7_5 rfl ?_
        refine ws_aload_n 0 (dcd d_D_where_0 14 rfl) rfl ?_
        refine ws_getF (a := 7) f_D_28 rfl (dcd d_D_where_0 15 rfl) ok_2 of_7_3 rfl ?_
        refine ws_callVV (o := 10) (As := [.ref 7]) (st := []) (la := [(0, .ref 10), (1, .ref 7)]) (dcd d_D_where_0 16 rfl) cv_Sn_become k_D_220 ⟨by decide, by decide⟩ (os_7_5 ok_2) rfl (Nat.le_of_ble_eq_true rfl) (Nat.le_of_ble_eq_true rfl) rfl rfl (sp_Sn_become (os_7_5 ok_2) (os_7_3 ok_2)) ?_
        rintro _ rfl
        refine ws_aload_n 0 (dcd d_D_where_0 17 rfl) rfl ?_
        refine ws_getF (a := 10) f_D_36 rfl (dcd d_D_where_0 18 rfl) ok_2 of_7_5 rfl ?_
        refine ws_aload_n 0 (dcd d_D_where_0 19 rfl) rfl ?_
        refine ws_getP (by decide) f_D_63 (dcd d_D_where_0 20 rfl) (fun j6 => ?_)
        have h := h j6
        refine ws_iload_n 2 (dcd d_D_where_0 21 rfl) rfl ?_
        refine ws_callVV (o := 10) (As := [.ref (mR (snB u 10 7) 2 10), .int x2]) (st := []) (la := [(0, .ref 10), (1, .ref (mR (snB u 10 7) 2 10)), (2, .int x2)]) (dcd d_D_where_0 22 rfl) cv_Sn_pass k_D_213 ⟨by decide, by decide⟩ (os_7_5 ok_2) rfl (Nat.le_of_ble_eq_true rfl) (Nat.le_of_ble_eq_true rfl) rfl rfl h (fun u7 h => ?_)
        refine ws_aload_n 0 (dcd d_D_where_0 23 rfl) rfl ?_
        refine ws_getF (a := 10) f_D_36 rfl (dcd d_D_where_0 24 rfl) ok_2 of_7_5 rfl ?_
        refine ws_iload_n 1 (dcd d_D_where_0 25 rfl) rfl ?_
        refine ws_callVI (o := 10) (As := [.int x1]) (st := []) (la := [(0, .ref 10), (1, .int x1)]) (dcd d_D_where_0 26 rfl) cv_Sn_doorOf k_D_217 ⟨by decide, by decide⟩ (os_7_5 ok_2) rfl (Nat.le_of_ble_eq_true rfl) (Nat.le_of_ble_eq_true rfl) rfl rfl (sp_Sn_doorOf (os_7_5 ok_2)) ?_
        rintro _ _ ⟨rfl, rfl⟩
        exact ws_iret (dcd d_D_where_0 27 rfl) ⟨_, rfl, rfl⟩ h
      · have h := h.2 c5
        refine ws_iconst (v := (-1)) (dcd d_D_where_0 10 rfl) (by decide) ?_
        exact ws_iret (dcd d_D_where_0 11 rfl) ⟨_, rfl, rfl⟩ h
  · have h := h.2 c2
    refine ws_if_eq (tgt := 22) (dcd d_D_where_0 4 rfl) (by decide) (fun _ => ?_) (fun c => absurd (show (0 : Int32) = 0 from by decide) c)
    refine ws_iconst (v := (-1)) (dcd d_D_where_0 10 rfl) (by decide) ?_
    exact ws_iret (dcd d_D_where_0 11 rfl) ⟨_, rfl, rfl⟩ h
theorem sg_D_plainly_0 {x1 : Int32} {x2 : Int32}  (h : (pl (mR u 2 10) → (((plS u (mR u 2 10) x1) → ((x2 < 0 → Q (some (.int (-1))) u) ∧ (¬ (x2 < 0) → ((x2 ≤ 1000000000 → (pl (mR u 2 10) → (pl (mR u 2 10) → Ws G Sh_way 0 [(0, .ref (shO u (mR u 2 10) x1)), (1, .int (mI u 7 0)), (2, .int x2)] [] u (RJ fun a8 u8 => Q (some (.int (wrV (mI u8 (mR u 2 10) 0) (((snD u 7 x1) : Int32).toInt64 + a8)))) u8)))) ∧ (¬ (x2 ≤ 1000000000) → Q (some (.int (-1))) u))))) ∧ (¬ (plS u (mR u 2 10) x1) → Q (some (.int (-1))) u)))) : Ws G D_plainly 0 [(0, .ref 2), (1, .int x1), (2, .int x2)] [] u Q := by
  refine ws_aload_n 0 (dcd d_D_plainly_0 0 rfl) rfl ?_
  refine ws_getP (by decide) f_D_63 (dcd d_D_plainly_0 1 rfl) (fun j1 => ?_)
  have h := h j1
  refine ws_iload_n 1 (dcd d_D_plainly_0 2 rfl) rfl ?_
  refine ws_callVI (o := (mR u 2 10)) (As := [.int x1]) (st := []) (la := [(0, .ref (mR u 2 10)), (1, .int x1)]) (dcd d_D_plainly_0 3 rfl) cv_Pl_hasShop k_D_164 ⟨by decide, by decide⟩ (pl_ok j1) rfl (Nat.le_of_ble_eq_true rfl) (Nat.le_of_ble_eq_true rfl) rfl rfl (sp_Pl_hasShop (pl_ok j1)) ?_
  rintro _ _ ⟨rfl, ⟨rfl, c2⟩ | ⟨rfl, c2⟩⟩
  · have h := h.1 c2
    refine ws_if_eq (tgt := 21) (dcd d_D_plainly_0 4 rfl) (by decide) (fun c => absurd c (by decide)) (fun _ => ?_)
    refine ws_iload_n 2 (dcd d_D_plainly_0 5 rfl) rfl ?_
    refine ws_if_lt (tgt := 21) (dcd d_D_plainly_0 6 rfl) (by decide) (fun c4 => ?_) (fun c4 => ?_)
    · have h := h.1 c4
      refine ws_iconst (v := (-1)) (dcd d_D_plainly_0 10 rfl) (by decide) ?_
      exact ws_iret (dcd d_D_plainly_0 11 rfl) ⟨_, rfl, rfl⟩ h
    · have h := h.2 c4
      refine ws_iload_n 2 (dcd d_D_plainly_0 7 rfl) rfl ?_
      refine ws_ldc (dcd d_D_plainly_0 8 rfl) q_D_228 ?_
      refine ws_icmp_le (tgt := 23) (dcd d_D_plainly_0 9 rfl) (by decide) (fun c5 => ?_) (fun c5 => ?_)
      · have h := h.1 c5
        refine ws_aload_n 0 (dcd d_D_plainly_0 12 rfl) rfl ?_
        refine ws_getP (by decide) f_D_63 (dcd d_D_plainly_0 13 rfl) (fun j6 => ?_)
        have h := h j6
        refine ws_aload_n 0 (dcd d_D_plainly_0 14 rfl) rfl ?_
        refine ws_getF (a := 7) f_D_28 rfl (dcd d_D_plainly_0 15 rfl) ok_2 of_7_3 rfl ?_
        refine ws_iload_n 1 (dcd d_D_plainly_0 16 rfl) rfl ?_
        refine ws_callVI (o := 7) (As := [.int x1]) (st := [.ref (mR u 2 10)]) (la := [(0, .ref 7), (1, .int x1)]) (dcd d_D_plainly_0 17 rfl) cv_Sn_doorOf k_D_217 ⟨by decide, by decide⟩ (os_7_3 ok_2) rfl (Nat.le_of_ble_eq_true rfl) (Nat.le_of_ble_eq_true rfl) rfl rfl (sp_Sn_doorOf (os_7_3 ok_2)) ?_
        rintro _ _ ⟨rfl, rfl⟩
        refine ws_i2l (dcd d_D_plainly_0 18 rfl) ?_
        refine ws_aload_n 0 (dcd d_D_plainly_0 19 rfl) rfl ?_
        refine ws_getP (by decide) f_D_63 (dcd d_D_plainly_0 20 rfl) (fun j7 => ?_)
        have h := h j7
        refine ws_iload_n 1 (dcd d_D_plainly_0 21 rfl) rfl ?_
        refine ws_callVR (o := (mR u 2 10)) (As := [.int x1]) (st := [.long ((snD u 7 x1) : Int32).toInt64, .ref (mR u 2 10)]) (la := [(0, .ref (mR u 2 10)), (1, .int x1)]) (dcd d_D_plainly_0 22 rfl) cv_Pl_shopOf k_D_170 ⟨by decide, by decide⟩ (pl_ok j7) rfl (Nat.le_of_ble_eq_true rfl) (Nat.le_of_ble_eq_true rfl) rfl rfl (sp_Pl_shopOf (pl_ok j7)) ?_
        rintro _ _ ⟨rfl, rfl⟩
        refine ws_aload_n 0 (dcd d_D_plainly_0 23 rfl) rfl ?_
        refine ws_getF (a := 7) f_D_28 rfl (dcd d_D_plainly_0 24 rfl) ok_2 of_7_3 rfl ?_
        refine ws_getI f_D_84 rfl (dcd d_D_plainly_0 25 rfl) (os_7_3 ok_2) ?_
        refine ws_iload_n 2 (dcd d_D_plainly_0 26 rfl) rfl ?_
        refine ws_callVJ (o := (shO u (mR u 2 10) x1)) (As := [.int (mI u 7 0), .int x2]) (st := [.long ((snD u 7 x1) : Int32).toInt64, .ref (mR u 2 10)]) (la := [(0, .ref (shO u (mR u 2 10) x1)), (1, .int (mI u 7 0)), (2, .int x2)]) (dcd d_D_plainly_0 27 rfl) cv_Sh_way k_D_194 ⟨by decide, by decide⟩ (shO_ok (pl_ok j7)) rfl (Nat.le_of_ble_eq_true rfl) (Nat.le_of_ble_eq_true rfl) rfl rfl h (fun a8 u8 h => ?_)
        refine ws_ladd (dcd d_D_plainly_0 28 rfl) ?_
        refine ws_callVI (o := (mR u 2 10)) (As := [.long (((snD u 7 x1) : Int32).toInt64 + a8)]) (st := []) (la := [(0, .ref (mR u 2 10)), (1, .long (((snD u 7 x1) : Int32).toInt64 + a8))]) (dcd d_D_plainly_0 29 rfl) cv_Pl_wrapped k_D_229 ⟨by decide, by decide⟩ (pl_ok j6) rfl (Nat.le_of_ble_eq_true rfl) (Nat.le_of_ble_eq_true rfl) rfl rfl (sp_Pl_wrapped (pl_ok j6)) ?_
        rintro _ _ ⟨rfl, rfl⟩
        exact ws_iret (dcd d_D_plainly_1 0 rfl) ⟨_, rfl, rfl⟩ h
      · have h := h.2 c5
        refine ws_iconst (v := (-1)) (dcd d_D_plainly_0 10 rfl) (by decide) ?_
        exact ws_iret (dcd d_D_plainly_0 11 rfl) ⟨_, rfl, rfl⟩ h
  · have h := h.2 c2
    refine ws_if_eq (tgt := 21) (dcd d_D_plainly_0 4 rfl) (by decide) (fun _ => ?_) (fun c => absurd (show (0 : Int32) = 0 from by decide) c)
    refine ws_iconst (v := (-1)) (dcd d_D_plainly_0 10 rfl) (by decide) ?_
    exact ws_iret (dcd d_D_plainly_0 11 rfl) ⟨_, rfl, rfl⟩ h
end SEG
