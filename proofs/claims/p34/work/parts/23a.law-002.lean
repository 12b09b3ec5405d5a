section SEGL
variable {G : pG} {u : pM} {Q : Option Value → pM → Prop}
theorem sg_L_law_474 {x3 : Int32} (h : (vp_in (x3 + 1) (gn G) ∧ (vp_in (x3 + 2) (gn G) ∧ Ws G D_text 0 [(0, .ref 2), (1, .int (gx G ((x3 + 1) : Int32).toNatClampNeg)), (2, .int (gx G ((x3 + 2) : Int32).toNatClampNeg))] [] u (RI fun a3 u3 => (vp_in (x3 + 1) (gn G) ∧ (vp_in (x3 + 2) (gn G) ∧ Ws G m_text 0 [(0, .ref 76), (1, .int (gx G ((x3 + 1) : Int32).toNatClampNeg)), (2, .int (gx G ((x3 + 2) : Int32).toNatClampNeg))] [] u3 (RI fun a6 u6 => Ws G L_law 1742 [(0, .ref 0), (1, .ref 2), (2, .ref 76), (3, .int x3)] [] u6 Q))))))) : Ws G L_law 474 [(0, .ref 0), (1, .ref 2), (2, .ref 76), (3, .int x3)] [] u Q := by
  refine ws_aload_n 1 (dcd d_L_law_6 24 rfl) rfl ?_
  refine ws_aload_n 0 (dcd d_L_law_6 25 rfl) rfl ?_
  refine ws_iload_n 3 (dcd d_L_law_6 26 rfl) rfl ?_
  refine ws_iconst (v := 1) (dcd d_L_law_6 27 rfl) (by decide) ?_
  refine ws_iadd (dcd d_L_law_6 28 rfl) ?_
  obtain ⟨e1, h⟩ := h
  refine ws_sld (dcd d_L_law_6 29 rfl) e1 ?_
  refine ws_aload_n 0 (dcd d_L_law_7 0 rfl) rfl ?_
  refine ws_iload_n 3 (dcd d_L_law_7 1 rfl) rfl ?_
  refine ws_iconst (v := 2) (dcd d_L_law_7 2 rfl) (by decide) ?_
  refine ws_iadd (dcd d_L_law_7 3 rfl) ?_
  obtain ⟨e2, h⟩ := h
  refine ws_sld (dcd d_L_law_7 4 rfl) e2 ?_
  refine ws_callVI (o := 2) (As := [.int (gx G ((x3 + 1) : Int32).toNatClampNeg), .int (gx G ((x3 + 2) : Int32).toNatClampNeg)]) (st := []) (la := [(0, .ref 2), (1, .int (gx G ((x3 + 1) : Int32).toNatClampNeg)), (2, .int (gx G ((x3 + 2) : Int32).toNatClampNeg))]) (dcd d_L_law_7 5 rfl) cv_D_text k_L_41 ⟨by decide, by decide⟩ ok_2 rfl (Nat.le_of_ble_eq_true rfl) (Nat.le_of_ble_eq_true rfl) rfl rfl h (fun a3 u3 h => ?_)
  refine ws_pop (dcd d_L_law_7 6 rfl) rfl ?_
  refine ws_aload_n 2 (dcd d_L_law_7 7 rfl) rfl ?_
  refine ws_aload_n 0 (dcd d_L_law_7 8 rfl) rfl ?_
  refine ws_iload_n 3 (dcd d_L_law_7 9 rfl) rfl ?_
  refine ws_iconst (v := 1) (dcd d_L_law_7 10 rfl) (by decide) ?_
  refine ws_iadd (dcd d_L_law_7 11 rfl) ?_
  obtain ⟨e4, h⟩ := h
  refine ws_sld (dcd d_L_law_7 12 rfl) e4 ?_
  refine ws_aload_n 0 (dcd d_L_law_7 13 rfl) rfl ?_
  refine ws_iload_n 3 (dcd d_L_law_7 14 rfl) rfl ?_
  refine ws_iconst (v := 2) (dcd d_L_law_7 15 rfl) (by decide) ?_
  refine ws_iadd (dcd d_L_law_7 16 rfl) ?_
  obtain ⟨e5, h⟩ := h
  refine ws_sld (dcd d_L_law_7 17 rfl) e5 ?_
  refine ws_callVI (o := 76) (As := [.int (gx G ((x3 + 1) : Int32).toNatClampNeg), .int (gx G ((x3 + 2) : Int32).toNatClampNeg)]) (st := []) (la := [(0, .ref 76), (1, .int (gx G ((x3 + 1) : Int32).toNatClampNeg)), (2, .int (gx G ((x3 + 2) : Int32).toNatClampNeg))]) (dcd d_L_law_7 18 rfl) cv_m_text k_L_44 ⟨by decide, by decide⟩ ok_76 rfl (Nat.le_of_ble_eq_true rfl) (Nat.le_of_ble_eq_true rfl) rfl rfl h (fun a6 u6 h => ?_)
  refine ws_pop (dcd d_L_law_7 19 rfl) rfl ?_
  refine ws_goto (tgt := 1742) (dcd d_L_law_7 20 rfl) (by decide) ?_
  exact ws_loc [0, 1, 2, 3] rfl h
theorem sg_L_law_507 {x3 : Int32} (h : (vp_in (x3 + 1) (gn G) ∧ (vp_in (x3 + 2) (gn G) ∧ (vp_in (x3 + 3) (gn G) ∧ Ws G D_put 0 [(0, .ref 2), (1, .int (gx G ((x3 + 1) : Int32).toNatClampNeg)), (2, .int (gx G ((x3 + 2) : Int32).toNatClampNeg)), (3, .int (gx G ((x3 + 3) : Int32).toNatClampNeg))] [] u (RI fun a4 u4 => (vp_in (x3 + 1) (gn G) ∧ (vp_in (x3 + 2) (gn G) ∧ (vp_in (x3 + 3) (gn G) ∧ Ws G m_put 0 [(0, .ref 76), (1, .int (gx G ((x3 + 1) : Int32).toNatClampNeg)), (2, .int (gx G ((x3 + 2) : Int32).toNatClampNeg)), (3, .int (gx G ((x3 + 3) : Int32).toNatClampNeg))] [] u4 (RI fun a8 u8 => Ws G L_law 1742 [(0, .ref 0), (1, .ref 2), (2, .ref 76), (3, .int x3)] [] u8 Q))))))))) : Ws G L_law 507 [(0, .ref 0), (1, .ref 2), (2, .ref 76), (3, .int x3)] [] u Q := by
  refine ws_aload_n 1 (dcd d_L_law_7 21 rfl) rfl ?_
  refine ws_aload_n 0 (dcd d_L_law_7 22 rfl) rfl ?_
  refine ws_iload_n 3 (dcd d_L_law_7 23 rfl) rfl ?_
  refine ws_iconst (v := 1) (dcd d_L_law_7 24 rfl) (by decide) ?_
  refine ws_iadd (dcd d_L_law_7 25 rfl) ?_
  obtain ⟨e1, h⟩ := h
  refine ws_sld (dcd d_L_law_7 26 rfl) e1 ?_
  refine ws_aload_n 0 (dcd d_L_law_7 27 rfl) rfl ?_
  refine ws_iload_n 3 (dcd d_L_law_7 28 rfl) rfl ?_
  refine ws_iconst (v := 2) (dcd d_L_law_7 29 rfl) (by decide) ?_
  refine ws_iadd (dcd d_L_law_8 0 rfl) ?_
  obtain ⟨e2, h⟩ := h
  refine ws_sld (dcd d_L_law_8 1 rfl) e2 ?_
  refine ws_aload_n 0 (dcd d_L_law_8 2 rfl) rfl ?_
  refine ws_iload_n 3 (dcd d_L_law_8 3 rfl) rfl ?_
  refine ws_iconst (v := 3) (dcd d_L_law_8 4 rfl) (by decide) ?_
  refine ws_iadd (dcd d_L_law_8 5 rfl) ?_
  obtain ⟨e3, h⟩ := h
  refine ws_sld (dcd d_L_law_8 6 rfl) e3 ?_
  refine ws_callVI (o := 2) (As := [.int (gx G ((x3 + 1) : Int32).toNatClampNeg), .int (gx G ((x3 + 2) : Int32).toNatClampNeg), .int (gx G ((x3 + 3) : Int32).toNatClampNeg)]) (st := []) (la := [(0, .ref 2), (1, .int (gx G ((x3 + 1) : Int32).toNatClampNeg)), (2, .int (gx G ((x3 + 2) : Int32).toNatClampNeg)), (3, .int (gx G ((x3 + 3) : Int32).toNatClampNeg))]) (dcd d_L_law_8 7 rfl) cv_D_put k_L_45 ⟨by decide, by decide⟩ ok_2 rfl (Nat.le_of_ble_eq_true rfl) (Nat.le_of_ble_eq_true rfl) rfl rfl h (fun a4 u4 h => ?_)
  refine ws_pop (dcd d_L_law_8 8 rfl) rfl ?_
  refine ws_aload_n 2 (dcd d_L_law_8 9 rfl) rfl ?_
  refine ws_aload_n 0 (dcd d_L_law_8 10 rfl) rfl ?_
  refine ws_iload_n 3 (dcd d_L_law_8 11 rfl) rfl ?_
  refine ws_iconst (v := 1) (dcd d_L_law_8 12 rfl) (by decide) ?_
  refine ws_iadd (dcd d_L_law_8 13 rfl) ?_
  obtain ⟨e5, h⟩ := h
  refine ws_sld (dcd d_L_law_8 14 rfl) e5 ?_
  refine ws_aload_n 0 (dcd d_L_law_8 15 rfl) rfl ?_
  refine ws_iload_n 3 (dcd d_L_law_8 16 rfl) rfl ?_
  refine ws_iconst (v := 2) (dcd d_L_law_8 17 rfl) (by decide) ?_
  refine ws_iadd (dcd d_L_law_8 18 rfl) ?_
  obtain ⟨e6, h⟩ := h
  refine ws_sld (dcd d_L_law_8 19 rfl) e6 ?_
  refine ws_aload_n 0 (dcd d_L_law_8 20 rfl) rfl ?_
  refine ws_iload_n 3 (dcd d_L_law_8 21 rfl) rfl ?_
  refine ws_iconst (v := 3) (dcd d_L_law_8 22 rfl) (by decide) ?_
  refine ws_iadd (dcd d_L_law_8 23 rfl) ?_
  obtain ⟨e7, h⟩ := h
  refine ws_sld (dcd d_L_law_8 24 rfl) e7 ?_
  refine ws_callVI (o := 76) (As := [.int (gx G ((x3 + 1) : Int32).toNatClampNeg), .int (gx G ((x3 + 2) : Int32).toNatClampNeg), .int (gx G ((x3 + 3) : Int32).toNatClampNeg)]) (st := []) (la := [(0, .ref 76), (1, .int (gx G ((x3 + 1) : Int32).toNatClampNeg)), (2, .int (gx G ((x3 + 2) : Int32).toNatClampNeg)), (3, .int (gx G ((x3 + 3) : Int32).toNatClampNeg))]) (dcd d_L_law_8 25 rfl) cv_m_put k_L_48 ⟨by decide, by decide⟩ ok_76 rfl (Nat.le_of_ble_eq_true rfl) (Nat.le_of_ble_eq_true rfl) rfl rfl h (fun a8 u8 h => ?_)
  refine ws_pop (dcd d_L_law_8 26 rfl) rfl ?_
  refine ws_goto (tgt := 1742) (dcd d_L_law_8 27 rfl) (by decide) ?_
  exact ws_loc [0, 1, 2, 3] rfl h
theorem sg_L_law_550 {x3 : Int32} (h : (vp_in (x3 + 1) (gn G) ∧ Ws G D_fault 0 [(0, .ref 2), (1, .int (gx G ((x3 + 1) : Int32).toNatClampNeg))] [] u (RI fun a2 u2 => (vp_in (x3 + 1) (gn G) ∧ Ws G m_fault 0 [(0, .ref 76), (1, .int (gx G ((x3 + 1) : Int32).toNatClampNeg))] [] u2 (RI fun a4 u4 => Ws G L_law 1742 [(0, .ref 0), (1, .ref 2), (2, .ref 76), (3, .int x3)] [] u4 Q))))) : Ws G L_law 550 [(0, .ref 0), (1, .ref 2), (2, .ref 76), (3, .int x3)] [] u Q := by
  refine ws_aload_n 1 (dcd d_L_law_8 28 rfl) rfl ?_
  refine ws_aload_n 0 (dcd d_L_law_8 29 rfl) rfl ?_
  refine ws_iload_n 3 (dcd d_L_law_9 0 rfl) rfl ?_
  refine ws_iconst (v := 1) (dcd d_L_law_9 1 rfl) (by decide) ?_
  refine ws_iadd (dcd d_L_law_9 2 rfl) ?_
  obtain ⟨e1, h⟩ := h
  refine ws_sld (dcd d_L_law_9 3 rfl) e1 ?_
  refine ws_callVI (o := 2) (As := [.int (gx G ((x3 + 1) : Int32).toNatClampNeg)]) (st := []) (la := [(0, .ref 2), (1, .int (gx G ((x3 + 1) : Int32).toNatClampNeg))]) (dcd d_L_law_9 4 rfl) cv_D_fault k_L_49 ⟨by decide, by decide⟩ ok_2 rfl (Nat.le_of_ble_eq_true rfl) (Nat.le_of_ble_eq_true rfl) rfl rfl h (fun a2 u2 h => ?_)
  refine ws_pop (dcd d_L_law_9 5 rfl) rfl ?_
  refine ws_aload_n 2 (dcd d_L_law_9 6 rfl) rfl ?_
  refine ws_aload_n 0 (dcd d_L_law_9 7 rfl) rfl ?_
  refine ws_iload_n 3 (dcd d_L_law_9 8 rfl) rfl ?_
  refine ws_iconst (v := 1) (dcd d_L_law_9 9 rfl) (by decide) ?_
  refine ws_iadd (dcd d_L_law_9 10 rfl) ?_
  obtain ⟨e3, h⟩ := h
  refine ws_sld (dcd d_L_law_9 11 rfl) e3 ?_
  refine ws_callVI (o := 76) (As := [.int (gx G ((x3 + 1) : Int32).toNatClampNeg)]) (st := []) (la := [(0, .ref 76), (1, .int (gx G ((x3 + 1) : Int32).toNatClampNeg))]) (dcd d_L_law_9 12 rfl) cv_m_fault k_L_52 ⟨by decide, by decide⟩ ok_76 rfl (Nat.le_of_ble_eq_true rfl) (Nat.le_of_ble_eq_true rfl) rfl rfl h (fun a4 u4 h => ?_)
  refine ws_pop (dcd d_L_law_9 13 rfl) rfl ?_
  refine ws_goto (tgt := 1742) (dcd d_L_law_9 14 rfl) (by decide) ?_
  exact ws_loc [0, 1, 2, 3] rfl h
theorem sg_L_law_573 {x3 : Int32} (h : (vp_in (x3 + 1) (gn G) ∧ Ws G D_square 0 [(0, .ref 2), (1, .int (gx G ((x3 + 1) : Int32).toNatClampNeg))] [] u (RI fun a2 u2 => (vp_in (x3 + 1) (gn G) ∧ Ws G m_square 0 [(0, .ref 76), (1, .int (gx G ((x3 + 1) : Int32).toNatClampNeg))] [] u2 (RI fun a4 u4 => Ws G L_law 1742 [(0, .ref 0), (1, .ref 2), (2, .ref 76), (3, .int x3)] [] u4 Q))))) : Ws G L_law 573 [(0, .ref 0), (1, .ref 2), (2, .ref 76), (3, .int x3)] [] u Q := by
  refine ws_aload_n 1 (dcd d_L_law_9 15 rfl) rfl ?_
  refine ws_aload_n 0 (dcd d_L_law_9 16 rfl) rfl ?_
  refine ws_iload_n 3 (dcd d_L_law_9 17 rfl) rfl ?_
  refine ws_iconst (v := 1) (dcd d_L_law_9 18 rfl) (by decide) ?_
  refine ws_iadd (dcd d_L_law_9 19 rfl) ?_
  obtain ⟨e1, h⟩ := h
  refine ws_sld (dcd d_L_law_9 20 rfl) e1 ?_
  refine ws_callVI (o := 2) (As := [.int (gx G ((x3 + 1) : Int32).toNatClampNeg)]) (st := []) (la := [(0, .ref 2), (1, .int (gx G ((x3 + 1) : Int32).toNatClampNeg))]) (dcd d_L_law_9 21 rfl) cv_D_square k_L_53 ⟨by decide, by decide⟩ ok_2 rfl (Nat.le_of_ble_eq_true rfl) (Nat.le_of_ble_eq_true rfl) rfl rfl h (fun a2 u2 h => ?_)
  refine ws_pop (dcd d_L_law_9 22 rfl) rfl ?_
  refine ws_aload_n 2 (dcd d_L_law_9 23 rfl) rfl ?_
  refine ws_aload_n 0 (dcd d_L_law_9 24 rfl) rfl ?_
  refine ws_iload_n 3 (dcd d_L_law_9 25 rfl) rfl ?_
  refine ws_iconst (v := 1) (dcd d_L_law_9 26 rfl) (by decide) ?_
  refine ws_iadd (dcd d_L_law_9 27 rfl) ?_
  obtain ⟨e3, h⟩ := h
  refine ws_sld (dcd d_L_law_9 28 rfl) e3 ?_
  refine ws_callVI (o := 76) (As := [.int (gx G ((x3 + 1) : Int32).toNatClampNeg)]) (st := []) (la := [(0, .ref 76), (1, .int (gx G ((x3 + 1) : Int32).toNatClampNeg))]) (dcd d_L_law_9 29 rfl) cv_m_square k_L_56 ⟨by decide, by decide⟩ ok_76 rfl (Nat.le_of_ble_eq_true rfl) (Nat.le_of_ble_eq_true rfl) rfl rfl h (fun a4 u4 h => ?_)
  refine ws_pop (dcd d_L_law_10 0 rfl) rfl ?_
  refine ws_goto (tgt := 1742) (dcd d_L_law_10 1 rfl) (by decide) ?_
  exact ws_loc [0, 1, 2, 3] rfl h
end SEGL
