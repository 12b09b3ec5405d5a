section SEGL
variable {G : pG} {u : pM} {Q : Option Value → pM → Prop}
theorem sg_L_law_800 {x3 : Int32} (h : (vp_in (x3 + 1) (gn G) ∧ (vp_in (x3 + 2) (gn G) ∧ Ws G D_where 0 [(0, .ref 2), (1, .int (gx G ((x3 + 1) : Int32).toNatClampNeg)), (2, .int (gx G ((x3 + 2) : Int32).toNatClampNeg))] [] u (RI fun a3 u3 => (vp_in (x3 + 1) (gn G) ∧ (vp_in (x3 + 2) (gn G) ∧ Ws G m_where 0 [(0, .ref 76), (1, .int (gx G ((x3 + 1) : Int32).toNatClampNeg)), (2, .int (gx G ((x3 + 2) : Int32).toNatClampNeg))] [] u3 (RI fun a6 u6 => Ws G L_law 1742 [(0, .ref 0), (1, .ref 2), (2, .ref 76), (3, .int x3)] [] u6 Q))))))) : Ws G L_law 800 [(0, .ref 0), (1, .ref 2), (2, .ref 76), (3, .int x3)] [] u Q := by
  refine ws_aload_n 1 (dcd d_L_law_15 8 rfl) rfl ?_
  refine ws_aload_n 0 (dcd d_L_law_15 9 rfl) rfl ?_
  refine ws_iload_n 3 (dcd d_L_law_15 10 rfl) rfl ?_
  refine ws_iconst (v := 1) (dcd d_L_law_15 11 rfl) (by decide) ?_
  refine ws_iadd (dcd d_L_law_15 12 rfl) ?_
  obtain ⟨e1, h⟩ := h
  refine ws_sld (dcd d_L_law_15 13 rfl) e1 ?_
  refine ws_aload_n 0 (dcd d_L_law_15 14 rfl) rfl ?_
  refine ws_iload_n 3 (dcd d_L_law_15 15 rfl) rfl ?_
  refine ws_iconst (v := 2) (dcd d_L_law_15 16 rfl) (by decide) ?_
  refine ws_iadd (dcd d_L_law_15 17 rfl) ?_
  obtain ⟨e2, h⟩ := h
  refine ws_sld (dcd d_L_law_15 18 rfl) e2 ?_
  refine ws_callVI (o := 2) (As := [.int (gx G ((x3 + 1) : Int32).toNatClampNeg), .int (gx G ((x3 + 2) : Int32).toNatClampNeg)]) (st := []) (la := [(0, .ref 2), (1, .int (gx G ((x3 + 1) : Int32).toNatClampNeg)), (2, .int (gx G ((x3 + 2) : Int32).toNatClampNeg))]) (dcd d_L_law_15 19 rfl) cv_D_where k_L_89 ⟨by decide, by decide⟩ ok_2 rfl (Nat.le_of_ble_eq_true rfl) (Nat.le_of_ble_eq_true rfl) rfl rfl h (fun a3 u3 h => ?_)
  refine ws_pop (dcd d_L_law_15 20 rfl) rfl ?_
  refine ws_aload_n 2 (dcd d_L_law_15 21 rfl) rfl ?_
  refine ws_aload_n 0 (dcd d_L_law_15 22 rfl) rfl ?_
  refine ws_iload_n 3 (dcd d_L_law_15 23 rfl) rfl ?_
  refine ws_iconst (v := 1) (dcd d_L_law_15 24 rfl) (by decide) ?_
  refine ws_iadd (dcd d_L_law_15 25 rfl) ?_
  obtain ⟨e4, h⟩ := h
  refine ws_sld (dcd d_L_law_15 26 rfl) e4 ?_
  refine ws_aload_n 0 (dcd d_L_law_15 27 rfl) rfl ?_
  refine ws_iload_n 3 (dcd d_L_law_15 28 rfl) rfl ?_
  refine ws_iconst (v := 2) (dcd d_L_law_15 29 rfl) (by decide) ?_
  refine ws_iadd (dcd d_L_law_16 0 rfl) ?_
  obtain ⟨e5, h⟩ := h
  refine ws_sld (dcd d_L_law_16 1 rfl) e5 ?_
  refine ws_callVI (o := 76) (As := [.int (gx G ((x3 + 1) : Int32).toNatClampNeg), .int (gx G ((x3 + 2) : Int32).toNatClampNeg)]) (st := []) (la := [(0, .ref 76), (1, .int (gx G ((x3 + 1) : Int32).toNatClampNeg)), (2, .int (gx G ((x3 + 2) : Int32).toNatClampNeg))]) (dcd d_L_law_16 2 rfl) cv_m_where k_L_92 ⟨by decide, by decide⟩ ok_76 rfl (Nat.le_of_ble_eq_true rfl) (Nat.le_of_ble_eq_true rfl) rfl rfl h (fun a6 u6 h => ?_)
  refine ws_pop (dcd d_L_law_16 3 rfl) rfl ?_
  refine ws_goto (tgt := 1742) (dcd d_L_law_16 4 rfl) (by decide) ?_
  exact ws_loc [0, 1, 2, 3] rfl h
theorem sg_L_law_833 {x3 : Int32} (h : (vp_in (x3 + 1) (gn G) ∧ (vp_in (x3 + 2) (gn G) ∧ Ws G D_plainly 0 [(0, .ref 2), (1, .int (gx G ((x3 + 1) : Int32).toNatClampNeg)), (2, .int (gx G ((x3 + 2) : Int32).toNatClampNeg))] [] u (RI fun a3 u3 => (vp_in (x3 + 1) (gn G) ∧ (vp_in (x3 + 2) (gn G) ∧ Ws G m_plainly 0 [(0, .ref 76), (1, .int (gx G ((x3 + 1) : Int32).toNatClampNeg)), (2, .int (gx G ((x3 + 2) : Int32).toNatClampNeg))] [] u3 (RI fun a6 u6 => Ws G L_law 1742 [(0, .ref 0), (1, .ref 2), (2, .ref 76), (3, .int x3)] [] u6 Q))))))) : Ws G L_law 833 [(0, .ref 0), (1, .ref 2), (2, .ref 76), (3, .int x3)] [] u Q := by
  refine ws_aload_n 1 (dcd d_L_law_16 5 rfl) rfl ?_
  refine ws_aload_n 0 (dcd d_L_law_16 6 rfl) rfl ?_
  refine ws_iload_n 3 (dcd d_L_law_16 7 rfl) rfl ?_
  refine ws_iconst (v := 1) (dcd d_L_law_16 8 rfl) (by decide) ?_
  refine ws_iadd (dcd d_L_law_16 9 rfl) ?_
  obtain ⟨e1, h⟩ := h
  refine ws_sld (dcd d_L_law_16 10 rfl) e1 ?_
  refine ws_aload_n 0 (dcd d_L_law_16 11 rfl) rfl ?_
  refine ws_iload_n 3 (dcd d_L_law_16 12 rfl) rfl ?_
  refine ws_iconst (v := 2) (dcd d_L_law_16 13 rfl) (by decide) ?_
  refine ws_iadd (dcd d_L_law_16 14 rfl) ?_
  obtain ⟨e2, h⟩ := h
  refine ws_sld (dcd d_L_law_16 15 rfl) e2 ?_
  refine ws_callVI (o := 2) (As := [.int (gx G ((x3 + 1) : Int32).toNatClampNeg), .int (gx G ((x3 + 2) : Int32).toNatClampNeg)]) (st := []) (la := [(0, .ref 2), (1, .int (gx G ((x3 + 1) : Int32).toNatClampNeg)), (2, .int (gx G ((x3 + 2) : Int32).toNatClampNeg))]) (dcd d_L_law_16 16 rfl) cv_D_plainly k_L_93 ⟨by decide, by decide⟩ ok_2 rfl (Nat.le_of_ble_eq_true rfl) (Nat.le_of_ble_eq_true rfl) rfl rfl h (fun a3 u3 h => ?_)
  refine ws_pop (dcd d_L_law_16 17 rfl) rfl ?_
  refine ws_aload_n 2 (dcd d_L_law_16 18 rfl) rfl ?_
  refine ws_aload_n 0 (dcd d_L_law_16 19 rfl) rfl ?_
  refine ws_iload_n 3 (dcd d_L_law_16 20 rfl) rfl ?_
  refine ws_iconst (v := 1) (dcd d_L_law_16 21 rfl) (by decide) ?_
  refine ws_iadd (dcd d_L_law_16 22 rfl) ?_
  obtain ⟨e4, h⟩ := h
  refine ws_sld (dcd d_L_law_16 23 rfl) e4 ?_
  refine ws_aload_n 0 (dcd d_L_law_16 24 rfl) rfl ?_
  refine ws_iload_n 3 (dcd d_L_law_16 25 rfl) rfl ?_
  refine ws_iconst (v := 2) (dcd d_L_law_16 26 rfl) (by decide) ?_
  refine ws_iadd (dcd d_L_law_16 27 rfl) ?_
  obtain ⟨e5, h⟩ := h
  refine ws_sld (dcd d_L_law_16 28 rfl) e5 ?_
  refine ws_callVI (o := 76) (As := [.int (gx G ((x3 + 1) : Int32).toNatClampNeg), .int (gx G ((x3 + 2) : Int32).toNatClampNeg)]) (st := []) (la := [(0, .ref 76), (1, .int (gx G ((x3 + 1) : Int32).toNatClampNeg)), (2, .int (gx G ((x3 + 2) : Int32).toNatClampNeg))]) (dcd d_L_law_16 29 rfl) cv_m_plainly k_L_96 ⟨by decide, by decide⟩ ok_76 rfl (Nat.le_of_ble_eq_true rfl) (Nat.le_of_ble_eq_true rfl) rfl rfl h (fun a6 u6 h => ?_)
  refine ws_pop (dcd d_L_law_17 0 rfl) rfl ?_
  refine ws_goto (tgt := 1742) (dcd d_L_law_17 1 rfl) (by decide) ?_
  exact ws_loc [0, 1, 2, 3] rfl h
theorem sg_L_law_866 {x3 : Int32} (h : Ws G D_again 0 [(0, .ref 2)] [] u (RI fun a1 u1 => Ws G m_again 0 [(0, .ref 76)] [] u1 (RI fun a2 u2 => Ws G L_law 1742 [(0, .ref 0), (1, .ref 2), (2, .ref 76), (3, .int x3)] [] u2 Q))) : Ws G L_law 866 [(0, .ref 0), (1, .ref 2), (2, .ref 76), (3, .int x3)] [] u Q := by
  refine ws_aload_n 1 (dcd d_L_law_17 2 rfl) rfl ?_
  refine ws_callVI (o := 2) (As := []) (st := []) (la := [(0, .ref 2)]) (dcd d_L_law_17 3 rfl) cv_D_again k_L_97 ⟨by decide, by decide⟩ ok_2 rfl (Nat.le_of_ble_eq_true rfl) (Nat.le_of_ble_eq_true rfl) rfl rfl h (fun a1 u1 h => ?_)
  refine ws_pop (dcd d_L_law_17 4 rfl) rfl ?_
  refine ws_aload_n 2 (dcd d_L_law_17 5 rfl) rfl ?_
  refine ws_callVI (o := 76) (As := []) (st := []) (la := [(0, .ref 76)]) (dcd d_L_law_17 6 rfl) cv_m_again k_L_101 ⟨by decide, by decide⟩ ok_76 rfl (Nat.le_of_ble_eq_true rfl) (Nat.le_of_ble_eq_true rfl) rfl rfl h (fun a2 u2 h => ?_)
  refine ws_pop (dcd d_L_law_17 7 rfl) rfl ?_
  refine ws_goto (tgt := 1742) (dcd d_L_law_17 8 rfl) (by decide) ?_
  exact ws_loc [0, 1, 2, 3] rfl h
theorem sg_L_law_879 {x3 : Int32} (h : (vp_in (x3 + 1) (gn G) ∧ Ws G D_keep 0 [(0, .ref 2), (1, .int (gx G ((x3 + 1) : Int32).toNatClampNeg))] [] u (RI fun a2 u2 => (vp_in (x3 + 1) (gn G) ∧ Ws G m_keep 0 [(0, .ref 76), (1, .int (gx G ((x3 + 1) : Int32).toNatClampNeg))] [] u2 (RI fun a4 u4 => Ws G L_law 1742 [(0, .ref 0), (1, .ref 2), (2, .ref 76), (3, .int x3)] [] u4 Q))))) : Ws G L_law 879 [(0, .ref 0), (1, .ref 2), (2, .ref 76), (3, .int x3)] [] u Q := by
  refine ws_aload_n 1 (dcd d_L_law_17 9 rfl) rfl ?_
  refine ws_aload_n 0 (dcd d_L_law_17 10 rfl) rfl ?_
  refine ws_iload_n 3 (dcd d_L_law_17 11 rfl) rfl ?_
  refine ws_iconst (v := 1) (dcd d_L_law_17 12 rfl) (by decide) ?_
  refine ws_iadd (dcd d_L_law_17 13 rfl) ?_
  obtain ⟨e1, h⟩ := h
  refine ws_sld (dcd d_L_law_17 14 rfl) e1 ?_
  refine ws_callVI (o := 2) (As := [.int (gx G ((x3 + 1) : Int32).toNatClampNeg)]) (st := []) (la := [(0, .ref 2), (1, .int (gx G ((x3 + 1) : Int32).toNatClampNeg))]) (dcd d_L_law_17 15 rfl) cv_D_keep k_L_102 ⟨by decide, by decide⟩ ok_2 rfl (Nat.le_of_ble_eq_true rfl) (Nat.le_of_ble_eq_true rfl) rfl rfl h (fun a2 u2 h => ?_)
  refine ws_pop (dcd d_L_law_17 16 rfl) rfl ?_
  refine ws_aload_n 2 (dcd d_L_law_17 17 rfl) rfl ?_
  refine ws_aload_n 0 (dcd d_L_law_17 18 rfl) rfl ?_
  refine ws_iload_n 3 (dcd d_L_law_17 19 rfl) rfl ?_
  refine ws_iconst (v := 1) (dcd d_L_law_17 20 rfl) (by decide) ?_
  refine ws_iadd (dcd d_L_law_17 21 rfl) ?_
  obtain ⟨e3, h⟩ := h
  refine ws_sld (dcd d_L_law_17 22 rfl) e3 ?_
  refine ws_callVI (o := 76) (As := [.int (gx G ((x3 + 1) : Int32).toNatClampNeg)]) (st := []) (la := [(0, .ref 76), (1, .int (gx G ((x3 + 1) : Int32).toNatClampNeg))]) (dcd d_L_law_17 23 rfl) cv_m_keep k_L_105 ⟨by decide, by decide⟩ ok_76 rfl (Nat.le_of_ble_eq_true rfl) (Nat.le_of_ble_eq_true rfl) rfl rfl h (fun a4 u4 h => ?_)
  refine ws_pop (dcd d_L_law_17 24 rfl) rfl ?_
  refine ws_goto (tgt := 1742) (dcd d_L_law_17 25 rfl) (by decide) ?_
  exact ws_loc [0, 1, 2, 3] rfl h
end SEGL
