section SEGL
variable {G : pG} {u : pM} {Q : Option Value → pM → Prop}
theorem sg_L_law_1186 {x3 : Int32} (h : (vp_in (x3 + 1) (gn G) ∧ (vp_in (x3 + 2) (gn G) ∧ (vp_in (x3 + 3) (gn G) ∧ (vp_in (x3 + 4) (gn G) ∧ Ws G D_errands 0 [(0, .ref 2), (1, .int (gx G ((x3 + 1) : Int32).toNatClampNeg)), (2, .int (gx G ((x3 + 2) : Int32).toNatClampNeg)), (3, .int (gx G ((x3 + 3) : Int32).toNatClampNeg)), (4, .int (gx G ((x3 + 4) : Int32).toNatClampNeg))] [] u (RI fun a5 u5 => (vp_in (x3 + 1) (gn G) ∧ (vp_in (x3 + 2) (gn G) ∧ (vp_in (x3 + 3) (gn G) ∧ (vp_in (x3 + 4) (gn G) ∧ Ws G m_errands 0 [(0, .ref 76), (1, .int (gx G ((x3 + 1) : Int32).toNatClampNeg)), (2, .int (gx G ((x3 + 2) : Int32).toNatClampNeg)), (3, .int (gx G ((x3 + 3) : Int32).toNatClampNeg)), (4, .int (gx G ((x3 + 4) : Int32).toNatClampNeg))] [] u5 (RI fun a10 u10 => Ws G L_law 1742 [(0, .ref 0), (1, .ref 2), (2, .ref 76), (3, .int x3)] [] u10 Q))))))))))) : Ws G L_law 1186 [(0, .ref 0), (1, .ref 2), (2, .ref 76), (3, .int x3)] [] u Q := by
  refine ws_aload_n 1 (dcd d_L_law_25 22 rfl) rfl ?_
  refine ws_aload_n 0 (dcd d_L_law_25 23 rfl) rfl ?_
  refine ws_iload_n 3 (dcd d_L_law_25 24 rfl) rfl ?_
  refine ws_iconst (v := 1) (dcd d_L_law_25 25 rfl) (by decide) ?_
  refine ws_iadd (dcd d_L_law_25 26 rfl) ?_
  obtain ⟨e1, h⟩ := h
  refine ws_sld (dcd d_L_law_25 27 rfl) e1 ?_
  refine ws_aload_n 0 (dcd d_L_law_25 28 rfl) rfl ?_
  refine ws_iload_n 3 (dcd d_L_law_25 29 rfl) rfl ?_
  refine ws_iconst (v := 2) (dcd d_L_law_26 0 rfl) (by decide) ?_
  refine ws_iadd (dcd d_L_law_26 1 rfl) ?_
  obtain ⟨e2, h⟩ := h
  refine ws_sld (dcd d_L_law_26 2 rfl) e2 ?_
  refine ws_aload_n 0 (dcd d_L_law_26 3 rfl) rfl ?_
  refine ws_iload_n 3 (dcd d_L_law_26 4 rfl) rfl ?_
  refine ws_iconst (v := 3) (dcd d_L_law_26 5 rfl) (by decide) ?_
  refine ws_iadd (dcd d_L_law_26 6 rfl) ?_
  obtain ⟨e3, h⟩ := h
  refine ws_sld (dcd d_L_law_26 7 rfl) e3 ?_
  refine ws_aload_n 0 (dcd d_L_law_26 8 rfl) rfl ?_
  refine ws_iload_n 3 (dcd d_L_law_26 9 rfl) rfl ?_
  refine ws_iconst (v := 4) (dcd d_L_law_26 10 rfl) (by decide) ?_
  refine ws_iadd (dcd d_L_law_26 11 rfl) ?_
  obtain ⟨e4, h⟩ := h
  refine ws_sld (dcd d_L_law_26 12 rfl) e4 ?_
  refine ws_callVI (o := 2) (As := [.int (gx G ((x3 + 1) : Int32).toNatClampNeg), .int (gx G ((x3 + 2) : Int32).toNatClampNeg), .int (gx G ((x3 + 3) : Int32).toNatClampNeg), .int (gx G ((x3 + 4) : Int32).toNatClampNeg)]) (st := []) (la := [(0, .ref 2), (1, .int (gx G ((x3 + 1) : Int32).toNatClampNeg)), (2, .int (gx G ((x3 + 2) : Int32).toNatClampNeg)), (3, .int (gx G ((x3 + 3) : Int32).toNatClampNeg)), (4, .int (gx G ((x3 + 4) : Int32).toNatClampNeg))]) (dcd d_L_law_26 13 rfl) cv_D_errands k_L_138 ⟨by decide, by decide⟩ ok_2 rfl (Nat.le_of_ble_eq_true rfl) (Nat.le_of_ble_eq_true rfl) rfl rfl h (fun a5 u5 h => ?_)
  refine ws_pop (dcd d_L_law_26 14 rfl) rfl ?_
  refine ws_aload_n 2 (dcd d_L_law_26 15 rfl) rfl ?_
  refine ws_aload_n 0 (dcd d_L_law_26 16 rfl) rfl ?_
  refine ws_iload_n 3 (dcd d_L_law_26 17 rfl) rfl ?_
  refine ws_iconst (v := 1) (dcd d_L_law_26 18 rfl) (by decide) ?_
  refine ws_iadd (dcd d_L_law_26 19 rfl) ?_
  obtain ⟨e6, h⟩ := h
  refine ws_sld (dcd d_L_law_26 20 rfl) e6 ?_
  refine ws_aload_n 0 (dcd d_L_law_26 21 rfl) rfl ?_
  refine ws_iload_n 3 (dcd d_L_law_26 22 rfl) rfl ?_
  refine ws_iconst (v := 2) (dcd d_L_law_26 23 rfl) (by decide) ?_
  refine ws_iadd (dcd d_L_law_26 24 rfl) ?_
  obtain ⟨e7, h⟩ := h
  refine ws_sld (dcd d_L_law_26 25 rfl) e7 ?_
  refine ws_aload_n 0 (dcd d_L_law_26 26 rfl) rfl ?_
  refine ws_iload_n 3 (dcd d_L_law_26 27 rfl) rfl ?_
  refine ws_iconst (v := 3) (dcd d_L_law_26 28 rfl) (by decide) ?_
  refine ws_iadd (dcd d_L_law_26 29 rfl) ?_
  obtain ⟨e8, h⟩ := h
  refine ws_sld (dcd d_L_law_27 0 rfl) e8 ?_
  refine ws_aload_n 0 (dcd d_L_law_27 1 rfl) rfl ?_
  refine ws_iload_n 3 (dcd d_L_law_27 2 rfl) rfl ?_
  refine ws_iconst (v := 4) (dcd d_L_law_27 3 rfl) (by decide) ?_
  refine ws_iadd (dcd d_L_law_27 4 rfl) ?_
  obtain ⟨e9, h⟩ := h
  refine ws_sld (dcd d_L_law_27 5 rfl) e9 ?_
  refine ws_callVI (o := 76) (As := [.int (gx G ((x3 + 1) : Int32).toNatClampNeg), .int (gx G ((x3 + 2) : Int32).toNatClampNeg), .int (gx G ((x3 + 3) : Int32).toNatClampNeg), .int (gx G ((x3 + 4) : Int32).toNatClampNeg)]) (st := []) (la := [(0, .ref 76), (1, .int (gx G ((x3 + 1) : Int32).toNatClampNeg)), (2, .int (gx G ((x3 + 2) : Int32).toNatClampNeg)), (3, .int (gx G ((x3 + 3) : Int32).toNatClampNeg)), (4, .int (gx G ((x3 + 4) : Int32).toNatClampNeg))]) (dcd d_L_law_27 6 rfl) cv_m_errands k_L_142 ⟨by decide, by decide⟩ ok_76 rfl (Nat.le_of_ble_eq_true rfl) (Nat.le_of_ble_eq_true rfl) rfl rfl h (fun a10 u10 h => ?_)
  refine ws_pop (dcd d_L_law_27 7 rfl) rfl ?_
  refine ws_goto (tgt := 1742) (dcd d_L_law_27 8 rfl) (by decide) ?_
  exact ws_loc [0, 1, 2, 3] rfl h
theorem sg_L_law_1239 {x3 : Int32} (h : (vp_in (x3 + 1) (gn G) ∧ (vp_in (x3 + 2) (gn G) ∧ (vp_in (x3 + 3) (gn G) ∧ Ws G D_agree 0 [(0, .ref 2), (1, .int (gx G ((x3 + 1) : Int32).toNatClampNeg)), (2, .int (gx G ((x3 + 2) : Int32).toNatClampNeg)), (3, .int (gx G ((x3 + 3) : Int32).toNatClampNeg))] [] u (RI fun a4 u4 => (vp_in (x3 + 1) (gn G) ∧ (vp_in (x3 + 2) (gn G) ∧ (vp_in (x3 + 3) (gn G) ∧ Ws G m_agree 0 [(0, .ref 76), (1, .int (gx G ((x3 + 1) : Int32).toNatClampNeg)), (2, .int (gx G ((x3 + 2) : Int32).toNatClampNeg)), (3, .int (gx G ((x3 + 3) : Int32).toNatClampNeg))] [] u4 (RI fun a8 u8 => Ws G L_law 1742 [(0, .ref 0), (1, .ref 2), (2, .ref 76), (3, .int x3)] [] u8 Q))))))))) : Ws G L_law 1239 [(0, .ref 0), (1, .ref 2), (2, .ref 76), (3, .int x3)] [] u Q := by
  refine ws_aload_n 1 (dcd d_L_law_27 9 rfl) rfl ?_
  refine ws_aload_n 0 (dcd d_L_law_27 10 rfl) rfl ?_
  refine ws_iload_n 3 (dcd d_L_law_27 11 rfl) rfl ?_
  refine ws_iconst (v := 1) (dcd d_L_law_27 12 rfl) (by decide) ?_
  refine ws_iadd (dcd d_L_law_27 13 rfl) ?_
  obtain ⟨e1, h⟩ := h
  refine ws_sld (dcd d_L_law_27 14 rfl) e1 ?_
  refine ws_aload_n 0 (dcd d_L_law_27 15 rfl) rfl ?_
  refine ws_iload_n 3 (dcd d_L_law_27 16 rfl) rfl ?_
  refine ws_iconst (v := 2) (dcd d_L_law_27 17 rfl) (by decide) ?_
  refine ws_iadd (dcd d_L_law_27 18 rfl) ?_
  obtain ⟨e2, h⟩ := h
  refine ws_sld (dcd d_L_law_27 19 rfl) e2 ?_
  refine ws_aload_n 0 (dcd d_L_law_27 20 rfl) rfl ?_
  refine ws_iload_n 3 (dcd d_L_law_27 21 rfl) rfl ?_
  refine ws_iconst (v := 3) (dcd d_L_law_27 22 rfl) (by decide) ?_
  refine ws_iadd (dcd d_L_law_27 23 rfl) ?_
  obtain ⟨e3, h⟩ := h
  refine ws_sld (dcd d_L_law_27 24 rfl) e3 ?_
  refine ws_callVI (o := 2) (As := [.int (gx G ((x3 + 1) : Int32).toNatClampNeg), .int (gx G ((x3 + 2) : Int32).toNatClampNeg), .int (gx G ((x3 + 3) : Int32).toNatClampNeg)]) (st := []) (la := [(0, .ref 2), (1, .int (gx G ((x3 + 1) : Int32).toNatClampNeg)), (2, .int (gx G ((x3 + 2) : Int32).toNatClampNeg)), (3, .int (gx G ((x3 + 3) : Int32).toNatClampNeg))]) (dcd d_L_law_27 25 rfl) cv_D_agree k_L_143 ⟨by decide, by decide⟩ ok_2 rfl (Nat.le_of_ble_eq_true rfl) (Nat.le_of_ble_eq_true rfl) rfl rfl h (fun a4 u4 h => ?_)
  refine ws_pop (dcd d_L_law_27 26 rfl) rfl ?_
  refine ws_aload_n 2 (dcd d_L_law_27 27 rfl) rfl ?_
  refine ws_aload_n 0 (dcd d_L_law_27 28 rfl) rfl ?_
  refine ws_iload_n 3 (dcd d_L_law_27 29 rfl) rfl ?_
  refine ws_iconst (v := 1) (dcd d_L_law_28 0 rfl) (by decide) ?_
  refine ws_iadd (dcd d_L_law_28 1 rfl) ?_
  obtain ⟨e5, h⟩ := h
  refine ws_sld (dcd d_L_law_28 2 rfl) e5 ?_
  refine ws_aload_n 0 (dcd d_L_law_28 3 rfl) rfl ?_
  refine ws_iload_n 3 (dcd d_L_law_28 4 rfl) rfl ?_
  refine ws_iconst (v := 2) (dcd d_L_law_28 5 rfl) (by decide) ?_
  refine ws_iadd (dcd d_L_law_28 6 rfl) ?_
  obtain ⟨e6, h⟩ := h
  refine ws_sld (dcd d_L_law_28 7 rfl) e6 ?_
  refine ws_aload_n 0 (dcd d_L_law_28 8 rfl) rfl ?_
  refine ws_iload_n 3 (dcd d_L_law_28 9 rfl) rfl ?_
  refine ws_iconst (v := 3) (dcd d_L_law_28 10 rfl) (by decide) ?_
  refine ws_iadd (dcd d_L_law_28 11 rfl) ?_
  obtain ⟨e7, h⟩ := h
  refine ws_sld (dcd d_L_law_28 12 rfl) e7 ?_
  refine ws_callVI (o := 76) (As := [.int (gx G ((x3 + 1) : Int32).toNatClampNeg), .int (gx G ((x3 + 2) : Int32).toNatClampNeg), .int (gx G ((x3 + 3) : Int32).toNatClampNeg)]) (st := []) (la := [(0, .ref 76), (1, .int (gx G ((x3 + 1) : Int32).toNatClampNeg)), (2, .int (gx G ((x3 + 2) : Int32).toNatClampNeg)), (3, .int (gx G ((x3 + 3) : Int32).toNatClampNeg))]) (dcd d_L_law_28 13 rfl) cv_m_agree k_L_146 ⟨by decide, by decide⟩ ok_76 rfl (Nat.le_of_ble_eq_true rfl) (Nat.le_of_ble_eq_true rfl) rfl rfl h (fun a8 u8 h => ?_)
  refine ws_pop (dcd d_L_law_28 14 rfl) rfl ?_
  refine ws_goto (tgt := 1742) (dcd d_L_law_28 15 rfl) (by decide) ?_
  exact ws_loc [0, 1, 2, 3] rfl h
theorem sg_L_law_1282 {x3 : Int32} (h : (vp_in (x3 + 1) (gn G) ∧ (vp_in (x3 + 2) (gn G) ∧ Ws G D_joins 0 [(0, .ref 2), (1, .int (gx G ((x3 + 1) : Int32).toNatClampNeg)), (2, .int (gx G ((x3 + 2) : Int32).toNatClampNeg))] [] u (RI fun a3 u3 => (vp_in (x3 + 1) (gn G) ∧ (vp_in (x3 + 2) (gn G) ∧ Ws G m_joins 0 [(0, .ref 76), (1, .int (gx G ((x3 + 1) : Int32).toNatClampNeg)), (2, .int (gx G ((x3 + 2) : Int32).toNatClampNeg))] [] u3 (RI fun a6 u6 => ((a3 = a6 → Ws G L_law 1742 [(0, .ref 0), (1, .ref 2), (2, .ref 76), (3, .int x3)] [] u6 Q) ∧ (¬ a3 = a6 → Q (some (.int 0)) u6))))))))) : Ws G L_law 1282 [(0, .ref 0), (1, .ref 2), (2, .ref 76), (3, .int x3)] [] u Q := by
  refine ws_aload_n 1 (dcd d_L_law_28 16 rfl) rfl ?_
  refine ws_aload_n 0 (dcd d_L_law_28 17 rfl) rfl ?_
  refine ws_iload_n 3 (dcd d_L_law_28 18 rfl) rfl ?_
  refine ws_iconst (v := 1) (dcd d_L_law_28 19 rfl) (by decide) ?_
  refine ws_iadd (dcd d_L_law_28 20 rfl) ?_
  obtain ⟨e1, h⟩ := h
  refine ws_sld (dcd d_L_law_28 21 rfl) e1 ?_
  refine ws_aload_n 0 (dcd d_L_law_28 22 rfl) rfl ?_
  refine ws_iload_n 3 (dcd d_L_law_28 23 rfl) rfl ?_
  refine ws_iconst (v := 2) (dcd d_L_law_28 24 rfl) (by decide) ?_
  refine ws_iadd (dcd d_L_law_28 25 rfl) ?_
  obtain ⟨e2, h⟩ := h
  refine ws_sld (dcd d_L_law_28 26 rfl) e2 ?_
  refine ws_callVI (o := 2) (As := [.int (gx G ((x3 + 1) : Int32).toNatClampNeg), .int (gx G ((x3 + 2) : Int32).toNatClampNeg)]) (st := []) (la := [(0, .ref 2), (1, .int (gx G ((x3 + 1) : Int32).toNatClampNeg)), (2, .int (gx G ((x3 + 2) : Int32).toNatClampNeg))]) (dcd d_L_law_28 27 rfl) cv_D_joins k_L_147 ⟨by decide, by decide⟩ ok_2 rfl (Nat.le_of_ble_eq_true rfl) (Nat.le_of_ble_eq_true rfl) rfl rfl h (fun a3 u3 h => ?_)
  refine ws_aload_n 2 (dcd d_L_law_28 28 rfl) rfl ?_
  refine ws_aload_n 0 (dcd d_L_law_28 29 rfl) rfl ?_
  refine ws_iload_n 3 (dcd d_L_law_29 0 rfl) rfl ?_
  refine ws_iconst (v := 1) (dcd d_L_law_29 1 rfl) (by decide) ?_
  refine ws_iadd (dcd d_L_law_29 2 rfl) ?_
  obtain ⟨e4, h⟩ := h
  refine ws_sld (dcd d_L_law_29 3 rfl) e4 ?_
  refine ws_aload_n 0 (dcd d_L_law_29 4 rfl) rfl ?_
  refine ws_iload_n 3 (dcd d_L_law_29 5 rfl) rfl ?_
  refine ws_iconst (v := 2) (dcd d_L_law_29 6 rfl) (by decide) ?_
  refine ws_iadd (dcd d_L_law_29 7 rfl) ?_
  obtain ⟨e5, h⟩ := h
  refine ws_sld (dcd d_L_law_29 8 rfl) e5 ?_
  refine ws_callVI (o := 76) (As := [.int (gx G ((x3 + 1) : Int32).toNatClampNeg), .int (gx G ((x3 + 2) : Int32).toNatClampNeg)]) (st := [.int a3]) (la := [(0, .ref 76), (1, .int (gx G ((x3 + 1) : Int32).toNatClampNeg)), (2, .int (gx G ((x3 + 2) : Int32).toNatClampNeg))]) (dcd d_L_law_29 9 rfl) cv_m_joins k_L_150 ⟨by decide, by decide⟩ ok_76 rfl (Nat.le_of_ble_eq_true rfl) (Nat.le_of_ble_eq_true rfl) rfl rfl h (fun a6 u6 h => ?_)
  refine ws_icmp_eq (tgt := 1742) (dcd d_L_law_29 10 rfl) (by decide) (fun c7 => ?_) (fun c7 => ?_)
  · have h := h.1 c7
    exact ws_loc [0, 1, 2, 3] rfl h
  · have h := h.2 c7
    refine ws_iconst (v := 0) (dcd d_L_law_29 11 rfl) (by decide) ?_
    exact ws_iret (dcd d_L_law_29 12 rfl) ⟨_, rfl, by decide⟩ h
theorem sg_L_law_1315 {x3 : Int32} (h : Ws G D_quiet 0 [(0, .ref 2)] [] u (RI fun a1 u1 => Ws G m_quiet 0 [(0, .ref 76)] [] u1 (RI fun a2 u2 => Ws G L_law 1742 [(0, .ref 0), (1, .ref 2), (2, .ref 76), (3, .int x3)] [] u2 Q))) : Ws G L_law 1315 [(0, .ref 0), (1, .ref 2), (2, .ref 76), (3, .int x3)] [] u Q := by
  refine ws_aload_n 1 (dcd d_L_law_29 13 rfl) rfl ?_
  refine ws_callVI (o := 2) (As := []) (st := []) (la := [(0, .ref 2)]) (dcd d_L_law_29 14 rfl) cv_D_quiet k_L_151 ⟨by decide, by decide⟩ ok_2 rfl (Nat.le_of_ble_eq_true rfl) (Nat.le_of_ble_eq_true rfl) rfl rfl h (fun a1 u1 h => ?_)
  refine ws_pop (dcd d_L_law_29 15 rfl) rfl ?_
  refine ws_aload_n 2 (dcd d_L_law_29 16 rfl) rfl ?_
  refine ws_callVI (o := 76) (As := []) (st := []) (la := [(0, .ref 76)]) (dcd d_L_law_29 17 rfl) cv_m_quiet k_L_154 ⟨by decide, by decide⟩ ok_76 rfl (Nat.le_of_ble_eq_true rfl) (Nat.le_of_ble_eq_true rfl) rfl rfl h (fun a2 u2 h => ?_)
  refine ws_pop (dcd d_L_law_29 18 rfl) rfl ?_
  refine ws_goto (tgt := 1742) (dcd d_L_law_29 19 rfl) (by decide) ?_
  exact ws_loc [0, 1, 2, 3] rfl h
end SEGL
