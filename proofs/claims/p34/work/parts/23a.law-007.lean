section SEGL
variable {G : pG} {u : pM} {Q : Option Value → pM → Prop}
theorem sg_L_law_1034 {x3 : Int32} (h : (vp_in (x3 + 1) (gn G) ∧ (vp_in (x3 + 2) (gn G) ∧ (vp_in (x3 + 3) (gn G) ∧ Ws G D_never 0 [(0, .ref 2), (1, .int (gx G ((x3 + 1) : Int32).toNatClampNeg)), (2, .int (gx G ((x3 + 2) : Int32).toNatClampNeg)), (3, .int (gx G ((x3 + 3) : Int32).toNatClampNeg))] [] u (RI fun a4 u4 => (vp_in (x3 + 1) (gn G) ∧ (vp_in (x3 + 2) (gn G) ∧ (vp_in (x3 + 3) (gn G) ∧ Ws G m_never 0 [(0, .ref 76), (1, .int (gx G ((x3 + 1) : Int32).toNatClampNeg)), (2, .int (gx G ((x3 + 2) : Int32).toNatClampNeg)), (3, .int (gx G ((x3 + 3) : Int32).toNatClampNeg))] [] u4 (RI fun a8 u8 => Ws G L_law 1742 [(0, .ref 0), (1, .ref 2), (2, .ref 76), (3, .int x3)] [] u8 Q))))))))) : Ws G L_law 1034 [(0, .ref 0), (1, .ref 2), (2, .ref 76), (3, .int x3)] [] u Q := by
  refine ws_aload_n 1 (dcd d_L_law_21 14 rfl) rfl ?_
  refine ws_aload_n 0 (dcd d_L_law_21 15 rfl) rfl ?_
  refine ws_iload_n 3 (dcd d_L_law_21 16 rfl) rfl ?_
  refine ws_iconst (v := 1) (dcd d_L_law_21 17 rfl) (by decide) ?_
  refine ws_iadd (dcd d_L_law_21 18 rfl) ?_
  obtain ⟨e1, h⟩ := h
  refine ws_sld (dcd d_L_law_21 19 rfl) e1 ?_
  refine ws_aload_n 0 (dcd d_L_law_21 20 rfl) rfl ?_
  refine ws_iload_n 3 (dcd d_L_law_21 21 rfl) rfl ?_
  refine ws_iconst (v := 2) (dcd d_L_law_21 22 rfl) (by decide) ?_
  refine ws_iadd (dcd d_L_law_21 23 rfl) ?_
  obtain ⟨e2, h⟩ := h
  refine ws_sld (dcd d_L_law_21 24 rfl) e2 ?_
  refine ws_aload_n 0 (dcd d_L_law_21 25 rfl) rfl ?_
  refine ws_iload_n 3 (dcd d_L_law_21 26 rfl) rfl ?_
  refine ws_iconst (v := 3) (dcd d_L_law_21 27 rfl) (by decide) ?_
  refine ws_iadd (dcd d_L_law_21 28 rfl) ?_
  obtain ⟨e3, h⟩ := h
  refine ws_sld (dcd d_L_law_21 29 rfl) e3 ?_
  refine ws_callVI (o := 2) (As := [.int (gx G ((x3 + 1) : Int32).toNatClampNeg), .int (gx G ((x3 + 2) : Int32).toNatClampNeg), .int (gx G ((x3 + 3) : Int32).toNatClampNeg)]) (st := []) (la := [(0, .ref 2), (1, .int (gx G ((x3 + 1) : Int32).toNatClampNeg)), (2, .int (gx G ((x3 + 2) : Int32).toNatClampNeg)), (3, .int (gx G ((x3 + 3) : Int32).toNatClampNeg))]) (dcd d_L_law_22 0 rfl) cv_D_never k_L_122 ⟨by decide, by decide⟩ ok_2 rfl (Nat.le_of_ble_eq_true rfl) (Nat.le_of_ble_eq_true rfl) rfl rfl h (fun a4 u4 h => ?_)
  refine ws_pop (dcd d_L_law_22 1 rfl) rfl ?_
  refine ws_aload_n 2 (dcd d_L_law_22 2 rfl) rfl ?_
  refine ws_aload_n 0 (dcd d_L_law_22 3 rfl) rfl ?_
  refine ws_iload_n 3 (dcd d_L_law_22 4 rfl) rfl ?_
  refine ws_iconst (v := 1) (dcd d_L_law_22 5 rfl) (by decide) ?_
  refine ws_iadd (dcd d_L_law_22 6 rfl) ?_
  obtain ⟨e5, h⟩ := h
  refine ws_sld (dcd d_L_law_22 7 rfl) e5 ?_
  refine ws_aload_n 0 (dcd d_L_law_22 8 rfl) rfl ?_
  refine ws_iload_n 3 (dcd d_L_law_22 9 rfl) rfl ?_
  refine ws_iconst (v := 2) (dcd d_L_law_22 10 rfl) (by decide) ?_
  refine ws_iadd (dcd d_L_law_22 11 rfl) ?_
  obtain ⟨e6, h⟩ := h
  refine ws_sld (dcd d_L_law_22 12 rfl) e6 ?_
  refine ws_aload_n 0 (dcd d_L_law_22 13 rfl) rfl ?_
  refine ws_iload_n 3 (dcd d_L_law_22 14 rfl) rfl ?_
  refine ws_iconst (v := 3) (dcd d_L_law_22 15 rfl) (by decide) ?_
  refine ws_iadd (dcd d_L_law_22 16 rfl) ?_
  obtain ⟨e7, h⟩ := h
  refine ws_sld (dcd d_L_law_22 17 rfl) e7 ?_
  refine ws_callVI (o := 76) (As := [.int (gx G ((x3 + 1) : Int32).toNatClampNeg), .int (gx G ((x3 + 2) : Int32).toNatClampNeg), .int (gx G ((x3 + 3) : Int32).toNatClampNeg)]) (st := []) (la := [(0, .ref 76), (1, .int (gx G ((x3 + 1) : Int32).toNatClampNeg)), (2, .int (gx G ((x3 + 2) : Int32).toNatClampNeg)), (3, .int (gx G ((x3 + 3) : Int32).toNatClampNeg))]) (dcd d_L_law_22 18 rfl) cv_m_never k_L_125 ⟨by decide, by decide⟩ ok_76 rfl (Nat.le_of_ble_eq_true rfl) (Nat.le_of_ble_eq_true rfl) rfl rfl h (fun a8 u8 h => ?_)
  refine ws_pop (dcd d_L_law_22 19 rfl) rfl ?_
  refine ws_goto (tgt := 1742) (dcd d_L_law_22 20 rfl) (by decide) ?_
  exact ws_loc [0, 1, 2, 3] rfl h
theorem sg_L_law_1077 {x3 : Int32} (h : (vp_in (x3 + 1) (gn G) ∧ (vp_in (x3 + 2) (gn G) ∧ Ws G D_walk 0 [(0, .ref 2), (1, .int (gx G ((x3 + 1) : Int32).toNatClampNeg)), (2, .int (gx G ((x3 + 2) : Int32).toNatClampNeg))] [] u (RI fun a3 u3 => (vp_in (x3 + 1) (gn G) ∧ (vp_in (x3 + 2) (gn G) ∧ Ws G m_walk 0 [(0, .ref 76), (1, .int (gx G ((x3 + 1) : Int32).toNatClampNeg)), (2, .int (gx G ((x3 + 2) : Int32).toNatClampNeg))] [] u3 (RI fun a6 u6 => Ws G L_law 1742 [(0, .ref 0), (1, .ref 2), (2, .ref 76), (3, .int x3)] [] u6 Q))))))) : Ws G L_law 1077 [(0, .ref 0), (1, .ref 2), (2, .ref 76), (3, .int x3)] [] u Q := by
  refine ws_aload_n 1 (dcd d_L_law_22 21 rfl) rfl ?_
  refine ws_aload_n 0 (dcd d_L_law_22 22 rfl) rfl ?_
  refine ws_iload_n 3 (dcd d_L_law_22 23 rfl) rfl ?_
  refine ws_iconst (v := 1) (dcd d_L_law_22 24 rfl) (by decide) ?_
  refine ws_iadd (dcd d_L_law_22 25 rfl) ?_
  obtain ⟨e1, h⟩ := h
  refine ws_sld (dcd d_L_law_22 26 rfl) e1 ?_
  refine ws_aload_n 0 (dcd d_L_law_22 27 rfl) rfl ?_
  refine ws_iload_n 3 (dcd d_L_law_22 28 rfl) rfl ?_
  refine ws_iconst (v := 2) (dcd d_L_law_22 29 rfl) (by decide) ?_
  refine ws_iadd (dcd d_L_law_23 0 rfl) ?_
  obtain ⟨e2, h⟩ := h
  refine ws_sld (dcd d_L_law_23 1 rfl) e2 ?_
  refine ws_callVI (o := 2) (As := [.int (gx G ((x3 + 1) : Int32).toNatClampNeg), .int (gx G ((x3 + 2) : Int32).toNatClampNeg)]) (st := []) (la := [(0, .ref 2), (1, .int (gx G ((x3 + 1) : Int32).toNatClampNeg)), (2, .int (gx G ((x3 + 2) : Int32).toNatClampNeg))]) (dcd d_L_law_23 2 rfl) cv_D_walk k_L_126 ⟨by decide, by decide⟩ ok_2 rfl (Nat.le_of_ble_eq_true rfl) (Nat.le_of_ble_eq_true rfl) rfl rfl h (fun a3 u3 h => ?_)
  refine ws_pop (dcd d_L_law_23 3 rfl) rfl ?_
  refine ws_aload_n 2 (dcd d_L_law_23 4 rfl) rfl ?_
  refine ws_aload_n 0 (dcd d_L_law_23 5 rfl) rfl ?_
  refine ws_iload_n 3 (dcd d_L_law_23 6 rfl) rfl ?_
  refine ws_iconst (v := 1) (dcd d_L_law_23 7 rfl) (by decide) ?_
  refine ws_iadd (dcd d_L_law_23 8 rfl) ?_
  obtain ⟨e4, h⟩ := h
  refine ws_sld (dcd d_L_law_23 9 rfl) e4 ?_
  refine ws_aload_n 0 (dcd d_L_law_23 10 rfl) rfl ?_
  refine ws_iload_n 3 (dcd d_L_law_23 11 rfl) rfl ?_
  refine ws_iconst (v := 2) (dcd d_L_law_23 12 rfl) (by decide) ?_
  refine ws_iadd (dcd d_L_law_23 13 rfl) ?_
  obtain ⟨e5, h⟩ := h
  refine ws_sld (dcd d_L_law_23 14 rfl) e5 ?_
  refine ws_callVI (o := 76) (As := [.int (gx G ((x3 + 1) : Int32).toNatClampNeg), .int (gx G ((x3 + 2) : Int32).toNatClampNeg)]) (st := []) (la := [(0, .ref 76), (1, .int (gx G ((x3 + 1) : Int32).toNatClampNeg)), (2, .int (gx G ((x3 + 2) : Int32).toNatClampNeg))]) (dcd d_L_law_23 15 rfl) cv_m_walk k_L_129 ⟨by decide, by decide⟩ ok_76 rfl (Nat.le_of_ble_eq_true rfl) (Nat.le_of_ble_eq_true rfl) rfl rfl h (fun a6 u6 h => ?_)
  refine ws_pop (dcd d_L_law_23 16 rfl) rfl ?_
  refine ws_goto (tgt := 1742) (dcd d_L_law_23 17 rfl) (by decide) ?_
  exact ws_loc [0, 1, 2, 3] rfl h
theorem sg_L_law_1110 {x3 : Int32} (h : (vp_in (x3 + 1) (gn G) ∧ (vp_in (x3 + 2) (gn G) ∧ Ws G D_round 0 [(0, .ref 2), (1, .int (gx G ((x3 + 1) : Int32).toNatClampNeg)), (2, .int (gx G ((x3 + 2) : Int32).toNatClampNeg))] [] u (RI fun a3 u3 => (vp_in (x3 + 1) (gn G) ∧ (vp_in (x3 + 2) (gn G) ∧ Ws G m_round 0 [(0, .ref 76), (1, .int (gx G ((x3 + 1) : Int32).toNatClampNeg)), (2, .int (gx G ((x3 + 2) : Int32).toNatClampNeg))] [] u3 (RI fun a6 u6 => Ws G L_law 1742 [(0, .ref 0), (1, .ref 2), (2, .ref 76), (3, .int x3)] [] u6 Q))))))) : Ws G L_law 1110 [(0, .ref 0), (1, .ref 2), (2, .ref 76), (3, .int x3)] [] u Q := by
  refine ws_aload_n 1 (dcd d_L_law_23 18 rfl) rfl ?_
  refine ws_aload_n 0 (dcd d_L_law_23 19 rfl) rfl ?_
  refine ws_iload_n 3 (dcd d_L_law_23 20 rfl) rfl ?_
  refine ws_iconst (v := 1) (dcd d_L_law_23 21 rfl) (by decide) ?_
  refine ws_iadd (dcd d_L_law_23 22 rfl) ?_
  obtain ⟨e1, h⟩ := h
  refine ws_sld (dcd d_L_law_23 23 rfl) e1 ?_
  refine ws_aload_n 0 (dcd d_L_law_23 24 rfl) rfl ?_
  refine ws_iload_n 3 (dcd d_L_law_23 25 rfl) rfl ?_
  refine ws_iconst (v := 2) (dcd d_L_law_23 26 rfl) (by decide) ?_
  refine ws_iadd (dcd d_L_law_23 27 rfl) ?_
  obtain ⟨e2, h⟩ := h
  refine ws_sld (dcd d_L_law_23 28 rfl) e2 ?_
  refine ws_callVI (o := 2) (As := [.int (gx G ((x3 + 1) : Int32).toNatClampNeg), .int (gx G ((x3 + 2) : Int32).toNatClampNeg)]) (st := []) (la := [(0, .ref 2), (1, .int (gx G ((x3 + 1) : Int32).toNatClampNeg)), (2, .int (gx G ((x3 + 2) : Int32).toNatClampNeg))]) (dcd d_L_law_23 29 rfl) cv_D_round k_L_130 ⟨by decide, by decide⟩ ok_2 rfl (Nat.le_of_ble_eq_true rfl) (Nat.le_of_ble_eq_true rfl) rfl rfl h (fun a3 u3 h => ?_)
  refine ws_pop (dcd d_L_law_24 0 rfl) rfl ?_
  refine ws_aload_n 2 (dcd d_L_law_24 1 rfl) rfl ?_
  refine ws_aload_n 0 (dcd d_L_law_24 2 rfl) rfl ?_
  refine ws_iload_n 3 (dcd d_L_law_24 3 rfl) rfl ?_
  refine ws_iconst (v := 1) (dcd d_L_law_24 4 rfl) (by decide) ?_
  refine ws_iadd (dcd d_L_law_24 5 rfl) ?_
  obtain ⟨e4, h⟩ := h
  refine ws_sld (dcd d_L_law_24 6 rfl) e4 ?_
  refine ws_aload_n 0 (dcd d_L_law_24 7 rfl) rfl ?_
  refine ws_iload_n 3 (dcd d_L_law_24 8 rfl) rfl ?_
  refine ws_iconst (v := 2) (dcd d_L_law_24 9 rfl) (by decide) ?_
  refine ws_iadd (dcd d_L_law_24 10 rfl) ?_
  obtain ⟨e5, h⟩ := h
  refine ws_sld (dcd d_L_law_24 11 rfl) e5 ?_
  refine ws_callVI (o := 76) (As := [.int (gx G ((x3 + 1) : Int32).toNatClampNeg), .int (gx G ((x3 + 2) : Int32).toNatClampNeg)]) (st := []) (la := [(0, .ref 76), (1, .int (gx G ((x3 + 1) : Int32).toNatClampNeg)), (2, .int (gx G ((x3 + 2) : Int32).toNatClampNeg))]) (dcd d_L_law_24 12 rfl) cv_m_round k_L_133 ⟨by decide, by decide⟩ ok_76 rfl (Nat.le_of_ble_eq_true rfl) (Nat.le_of_ble_eq_true rfl) rfl rfl h (fun a6 u6 h => ?_)
  refine ws_pop (dcd d_L_law_24 13 rfl) rfl ?_
  refine ws_goto (tgt := 1742) (dcd d_L_law_24 14 rfl) (by decide) ?_
  exact ws_loc [0, 1, 2, 3] rfl h
theorem sg_L_law_1143 {x3 : Int32} (h : (vp_in (x3 + 1) (gn G) ∧ (vp_in (x3 + 2) (gn G) ∧ (vp_in (x3 + 3) (gn G) ∧ Ws G D_best 0 [(0, .ref 2), (1, .int (gx G ((x3 + 1) : Int32).toNatClampNeg)), (2, .int (gx G ((x3 + 2) : Int32).toNatClampNeg)), (3, .int (gx G ((x3 + 3) : Int32).toNatClampNeg))] [] u (RI fun a4 u4 => (vp_in (x3 + 1) (gn G) ∧ (vp_in (x3 + 2) (gn G) ∧ (vp_in (x3 + 3) (gn G) ∧ Ws G m_best 0 [(0, .ref 76), (1, .int (gx G ((x3 + 1) : Int32).toNatClampNeg)), (2, .int (gx G ((x3 + 2) : Int32).toNatClampNeg)), (3, .int (gx G ((x3 + 3) : Int32).toNatClampNeg))] [] u4 (RI fun a8 u8 => Ws G L_law 1742 [(0, .ref 0), (1, .ref 2), (2, .ref 76), (3, .int x3)] [] u8 Q))))))))) : Ws G L_law 1143 [(0, .ref 0), (1, .ref 2), (2, .ref 76), (3, .int x3)] [] u Q := by
  refine ws_aload_n 1 (dcd d_L_law_24 15 rfl) rfl ?_
  refine ws_aload_n 0 (dcd d_L_law_24 16 rfl) rfl ?_
  refine ws_iload_n 3 (dcd d_L_law_24 17 rfl) rfl ?_
  refine ws_iconst (v := 1) (dcd d_L_law_24 18 rfl) (by decide) ?_
  refine ws_iadd (dcd d_L_law_24 19 rfl) ?_
  obtain ⟨e1, h⟩ := h
  refine ws_sld (dcd d_L_law_24 20 rfl) e1 ?_
  refine ws_aload_n 0 (dcd d_L_law_24 21 rfl) rfl ?_
  refine ws_iload_n 3 (dcd d_L_law_24 22 rfl) rfl ?_
  refine ws_iconst (v := 2) (dcd d_L_law_24 23 rfl) (by decide) ?_
  refine ws_iadd (dcd d_L_law_24 24 rfl) ?_
  obtain ⟨e2, h⟩ := h
  refine ws_sld (dcd d_L_law_24 25 rfl) e2 ?_
  refine ws_aload_n 0 (dcd d_L_law_24 26 rfl) rfl ?_
  refine ws_iload_n 3 (dcd d_L_law_24 27 rfl) rfl ?_
  refine ws_iconst (v := 3) (dcd d_L_law_24 28 rfl) (by decide) ?_
  refine ws_iadd (dcd d_L_law_24 29 rfl) ?_
  obtain ⟨e3, h⟩ := h
  refine ws_sld (dcd d_L_law_25 0 rfl) e3 ?_
  refine ws_callVI (o := 2) (As := [.int (gx G ((x3 + 1) : Int32).toNatClampNeg), .int (gx G ((x3 + 2) : Int32).toNatClampNeg), .int (gx G ((x3 + 3) : Int32).toNatClampNeg)]) (st := []) (la := [(0, .ref 2), (1, .int (gx G ((x3 + 1) : Int32).toNatClampNeg)), (2, .int (gx G ((x3 + 2) : Int32).toNatClampNeg)), (3, .int (gx G ((x3 + 3) : Int32).toNatClampNeg))]) (dcd d_L_law_25 1 rfl) cv_D_best k_L_134 ⟨by decide, by decide⟩ ok_2 rfl (Nat.le_of_ble_eq_true rfl) (Nat.le_of_ble_eq_true rfl) rfl rfl h (fun a4 u4 h => ?_)
  refine ws_pop (dcd d_L_law_25 2 rfl) rfl ?_
  refine ws_aload_n 2 (dcd d_L_law_25 3 rfl) rfl ?_
  refine ws_aload_n 0 (dcd d_L_law_25 4 rfl) rfl ?_
  refine ws_iload_n 3 (dcd d_L_law_25 5 rfl) rfl ?_
  refine ws_iconst (v := 1) (dcd d_L_law_25 6 rfl) (by decide) ?_
  refine ws_iadd (dcd d_L_law_25 7 rfl) ?_
  obtain ⟨e5, h⟩ := h
  refine ws_sld (dcd d_L_law_25 8 rfl) e5 ?_
  refine ws_aload_n 0 (dcd d_L_law_25 9 rfl) rfl ?_
  refine ws_iload_n 3 (dcd d_L_law_25 10 rfl) rfl ?_
  refine ws_iconst (v := 2) (dcd d_L_law_25 11 rfl) (by decide) ?_
  refine ws_iadd (dcd d_L_law_25 12 rfl) ?_
  obtain ⟨e6, h⟩ := h
  refine ws_sld (dcd d_L_law_25 13 rfl) e6 ?_
  refine ws_aload_n 0 (dcd d_L_law_25 14 rfl) rfl ?_
  refine ws_iload_n 3 (dcd d_L_law_25 15 rfl) rfl ?_
  refine ws_iconst (v := 3) (dcd d_L_law_25 16 rfl) (by decide) ?_
  refine ws_iadd (dcd d_L_law_25 17 rfl) ?_
  obtain ⟨e7, h⟩ := h
  refine ws_sld (dcd d_L_law_25 18 rfl) e7 ?_
  refine ws_callVI (o := 76) (As := [.int (gx G ((x3 + 1) : Int32).toNatClampNeg), .int (gx G ((x3 + 2) : Int32).toNatClampNeg), .int (gx G ((x3 + 3) : Int32).toNatClampNeg)]) (st := []) (la := [(0, .ref 76), (1, .int (gx G ((x3 + 1) : Int32).toNatClampNeg)), (2, .int (gx G ((x3 + 2) : Int32).toNatClampNeg)), (3, .int (gx G ((x3 + 3) : Int32).toNatClampNeg))]) (dcd d_L_law_25 19 rfl) cv_m_best k_L_137 ⟨by decide, by decide⟩ ok_76 rfl (Nat.le_of_ble_eq_true rfl) (Nat.le_of_ble_eq_true rfl) rfl rfl h (fun a8 u8 h => ?_)
  refine ws_pop (dcd d_L_law_25 20 rfl) rfl ?_
  refine ws_goto (tgt := 1742) (dcd d_L_law_25 21 rfl) (by decide) ?_
  exact ws_loc [0, 1, 2, 3] rfl h
end SEGL
