section SEGL
variable {G : pG} {u : pM} {Q : Option Value → pM → Prop}
theorem sg_L_law_596 {x3 : Int32} (h : (vp_in (x3 + 1) (gn G) ∧ (vp_in (x3 + 2) (gn G) ∧ Ws G D_about 0 [(0, .ref 2), (1, .int (gx G ((x3 + 1) : Int32).toNatClampNeg)), (2, .int (gx G ((x3 + 2) : Int32).toNatClampNeg))] [] u (RI fun a3 u3 => (vp_in (x3 + 1) (gn G) ∧ (vp_in (x3 + 2) (gn G) ∧ Ws G m_about 0 [(0, .ref 76), (1, .int (gx G ((x3 + 1) : Int32).toNatClampNeg)), (2, .int (gx G ((x3 + 2) : Int32).toNatClampNeg))] [] u3 (RI fun a6 u6 => Ws G L_law 1742 [(0, .ref 0), (1, .ref 2), (2, .ref 76), (3, .int x3)] [] u6 Q))))))) : Ws G L_law 596 [(0, .ref 0), (1, .ref 2), (2, .ref 76), (3, .int x3)] [] u Q := by
  refine ws_aload_n 1 (dcd d_L_law_10 2 rfl) rfl ?_
  refine ws_aload_n 0 (dcd d_L_law_10 3 rfl) rfl ?_
  refine ws_iload_n 3 (dcd d_L_law_10 4 rfl) rfl ?_
  refine ws_iconst (v := 1) (dcd d_L_law_10 5 rfl) (by decide) ?_
  refine ws_iadd (dcd d_L_law_10 6 rfl) ?_
  obtain ⟨e1, h⟩ := h
  refine ws_sld (dcd d_L_law_10 7 rfl) e1 ?_
  refine ws_aload_n 0 (dcd d_L_law_10 8 rfl) rfl ?_
  refine ws_iload_n 3 (dcd d_L_law_10 9 rfl) rfl ?_
  refine ws_iconst (v := 2) (dcd d_L_law_10 10 rfl) (by decide) ?_
  refine ws_iadd (dcd d_L_law_10 11 rfl) ?_
  obtain ⟨e2, h⟩ := h
  refine ws_sld (dcd d_L_law_10 12 rfl) e2 ?_
  refine ws_callVI (o := 2) (As := [.int (gx G ((x3 + 1) : Int32).toNatClampNeg), .int (gx G ((x3 + 2) : Int32).toNatClampNeg)]) (st := []) (la := [(0, .ref 2), (1, .int (gx G ((x3 + 1) : Int32).toNatClampNeg)), (2, .int (gx G ((x3 + 2) : Int32).toNatClampNeg))]) (dcd d_L_law_10 13 rfl) cv_D_about k_L_57 ⟨by decide, by decide⟩ ok_2 rfl (Nat.le_of_ble_eq_true rfl) (Nat.le_of_ble_eq_true rfl) rfl rfl h (fun a3 u3 h => ?_)
  refine ws_pop (dcd d_L_law_10 14 rfl) rfl ?_
  refine ws_aload_n 2 (dcd d_L_law_10 15 rfl) rfl ?_
  refine ws_aload_n 0 (dcd d_L_law_10 16 rfl) rfl ?_
  refine ws_iload_n 3 (dcd d_L_law_10 17 rfl) rfl ?_
  refine ws_iconst (v := 1) (dcd d_L_law_10 18 rfl) (by decide) ?_
  refine ws_iadd (dcd d_L_law_10 19 rfl) ?_
  obtain ⟨e4, h⟩ := h
  refine ws_sld (dcd d_L_law_10 20 rfl) e4 ?_
  refine ws_aload_n 0 (dcd d_L_law_10 21 rfl) rfl ?_
  refine ws_iload_n 3 (dcd d_L_law_10 22 rfl) rfl ?_
  refine ws_iconst (v := 2) (dcd d_L_law_10 23 rfl) (by decide) ?_
  refine ws_iadd (dcd d_L_law_10 24 rfl) ?_
  obtain ⟨e5, h⟩ := h
  refine ws_sld (dcd d_L_law_10 25 rfl) e5 ?_
  refine ws_callVI (o := 76) (As := [.int (gx G ((x3 + 1) : Int32).toNatClampNeg), .int (gx G ((x3 + 2) : Int32).toNatClampNeg)]) (st := []) (la := [(0, .ref 76), (1, .int (gx G ((x3 + 1) : Int32).toNatClampNeg)), (2, .int (gx G ((x3 + 2) : Int32).toNatClampNeg))]) (dcd d_L_law_10 26 rfl) cv_m_about k_L_60 ⟨by decide, by decide⟩ ok_76 rfl (Nat.le_of_ble_eq_true rfl) (Nat.le_of_ble_eq_true rfl) rfl rfl h (fun a6 u6 h => ?_)
  refine ws_pop (dcd d_L_law_10 27 rfl) rfl ?_
  refine ws_goto (tgt := 1742) (dcd d_L_law_10 28 rfl) (by decide) ?_
  exact ws_loc [0, 1, 2, 3] rfl h
theorem sg_L_law_629 {x3 : Int32} (h : (vp_in (x3 + 1) (gn G) ∧ (vp_in (x3 + 2) (gn G) ∧ Ws G D_mark 0 [(0, .ref 2), (1, .int (gx G ((x3 + 1) : Int32).toNatClampNeg)), (2, .int (gx G ((x3 + 2) : Int32).toNatClampNeg))] [] u (RI fun a3 u3 => (vp_in (x3 + 1) (gn G) ∧ (vp_in (x3 + 2) (gn G) ∧ Ws G m_mark 0 [(0, .ref 76), (1, .int (gx G ((x3 + 1) : Int32).toNatClampNeg)), (2, .int (gx G ((x3 + 2) : Int32).toNatClampNeg))] [] u3 (RI fun a6 u6 => Ws G L_law 1742 [(0, .ref 0), (1, .ref 2), (2, .ref 76), (3, .int x3)] [] u6 Q))))))) : Ws G L_law 629 [(0, .ref 0), (1, .ref 2), (2, .ref 76), (3, .int x3)] [] u Q := by
  refine ws_aload_n 1 (dcd d_L_law_10 29 rfl) rfl ?_
  refine ws_aload_n 0 (dcd d_L_law_11 0 rfl) rfl ?_
  refine ws_iload_n 3 (dcd d_L_law_11 1 rfl) rfl ?_
  refine ws_iconst (v := 1) (dcd d_L_law_11 2 rfl) (by decide) ?_
  refine ws_iadd (dcd d_L_law_11 3 rfl) ?_
  obtain ⟨e1, h⟩ := h
  refine ws_sld (dcd d_L_law_11 4 rfl) e1 ?_
  refine ws_aload_n 0 (dcd d_L_law_11 5 rfl) rfl ?_
  refine ws_iload_n 3 (dcd d_L_law_11 6 rfl) rfl ?_
  refine ws_iconst (v := 2) (dcd d_L_law_11 7 rfl) (by decide) ?_
  refine ws_iadd (dcd d_L_law_11 8 rfl) ?_
  obtain ⟨e2, h⟩ := h
  refine ws_sld (dcd d_L_law_11 9 rfl) e2 ?_
  refine ws_callVI (o := 2) (As := [.int (gx G ((x3 + 1) : Int32).toNatClampNeg), .int (gx G ((x3 + 2) : Int32).toNatClampNeg)]) (st := []) (la := [(0, .ref 2), (1, .int (gx G ((x3 + 1) : Int32).toNatClampNeg)), (2, .int (gx G ((x3 + 2) : Int32).toNatClampNeg))]) (dcd d_L_law_11 10 rfl) cv_D_mark k_L_61 ⟨by decide, by decide⟩ ok_2 rfl (Nat.le_of_ble_eq_true rfl) (Nat.le_of_ble_eq_true rfl) rfl rfl h (fun a3 u3 h => ?_)
  refine ws_pop (dcd d_L_law_11 11 rfl) rfl ?_
  refine ws_aload_n 2 (dcd d_L_law_11 12 rfl) rfl ?_
  refine ws_aload_n 0 (dcd d_L_law_11 13 rfl) rfl ?_
  refine ws_iload_n 3 (dcd d_L_law_11 14 rfl) rfl ?_
  refine ws_iconst (v := 1) (dcd d_L_law_11 15 rfl) (by decide) ?_
  refine ws_iadd (dcd d_L_law_11 16 rfl) ?_
  obtain ⟨e4, h⟩ := h
  refine ws_sld (dcd d_L_law_11 17 rfl) e4 ?_
  refine ws_aload_n 0 (dcd d_L_law_11 18 rfl) rfl ?_
  refine ws_iload_n 3 (dcd d_L_law_11 19 rfl) rfl ?_
  refine ws_iconst (v := 2) (dcd d_L_law_11 20 rfl) (by decide) ?_
  refine ws_iadd (dcd d_L_law_11 21 rfl) ?_
  obtain ⟨e5, h⟩ := h
  refine ws_sld (dcd d_L_law_11 22 rfl) e5 ?_
  refine ws_callVI (o := 76) (As := [.int (gx G ((x3 + 1) : Int32).toNatClampNeg), .int (gx G ((x3 + 2) : Int32).toNatClampNeg)]) (st := []) (la := [(0, .ref 76), (1, .int (gx G ((x3 + 1) : Int32).toNatClampNeg)), (2, .int (gx G ((x3 + 2) : Int32).toNatClampNeg))]) (dcd d_L_law_11 23 rfl) cv_m_mark k_L_64 ⟨by decide, by decide⟩ ok_76 rfl (Nat.le_of_ble_eq_true rfl) (Nat.le_of_ble_eq_true rfl) rfl rfl h (fun a6 u6 h => ?_)
  refine ws_pop (dcd d_L_law_11 24 rfl) rfl ?_
  refine ws_goto (tgt := 1742) (dcd d_L_law_11 25 rfl) (by decide) ?_
  exact ws_loc [0, 1, 2, 3] rfl h
theorem sg_L_law_662 {x3 : Int32} (h : (vp_in (x3 + 1) (gn G) ∧ Ws G D_shut 0 [(0, .ref 2), (1, .int (gx G ((x3 + 1) : Int32).toNatClampNeg))] [] u (RI fun a2 u2 => (vp_in (x3 + 1) (gn G) ∧ Ws G m_shut 0 [(0, .ref 76), (1, .int (gx G ((x3 + 1) : Int32).toNatClampNeg))] [] u2 (RI fun a4 u4 => Ws G L_law 1742 [(0, .ref 0), (1, .ref 2), (2, .ref 76), (3, .int x3)] [] u4 Q))))) : Ws G L_law 662 [(0, .ref 0), (1, .ref 2), (2, .ref 76), (3, .int x3)] [] u Q := by
  refine ws_aload_n 1 (dcd d_L_law_11 26 rfl) rfl ?_
  refine ws_aload_n 0 (dcd d_L_law_11 27 rfl) rfl ?_
  refine ws_iload_n 3 (dcd d_L_law_11 28 rfl) rfl ?_
  refine ws_iconst (v := 1) (dcd d_L_law_11 29 rfl) (by decide) ?_
  refine ws_iadd (dcd d_L_law_12 0 rfl) ?_
  obtain ⟨e1, h⟩ := h
  refine ws_sld (dcd d_L_law_12 1 rfl) e1 ?_
  refine ws_callVI (o := 2) (As := [.int (gx G ((x3 + 1) : Int32).toNatClampNeg)]) (st := []) (la := [(0, .ref 2), (1, .int (gx G ((x3 + 1) : Int32).toNatClampNeg))]) (dcd d_L_law_12 2 rfl) cv_D_shut k_L_65 ⟨by decide, by decide⟩ ok_2 rfl (Nat.le_of_ble_eq_true rfl) (Nat.le_of_ble_eq_true rfl) rfl rfl h (fun a2 u2 h => ?_)
  refine ws_pop (dcd d_L_law_12 3 rfl) rfl ?_
  refine ws_aload_n 2 (dcd d_L_law_12 4 rfl) rfl ?_
  refine ws_aload_n 0 (dcd d_L_law_12 5 rfl) rfl ?_
  refine ws_iload_n 3 (dcd d_L_law_12 6 rfl) rfl ?_
  refine ws_iconst (v := 1) (dcd d_L_law_12 7 rfl) (by decide) ?_
  refine ws_iadd (dcd d_L_law_12 8 rfl) ?_
  obtain ⟨e3, h⟩ := h
  refine ws_sld (dcd d_L_law_12 9 rfl) e3 ?_
  refine ws_callVI (o := 76) (As := [.int (gx G ((x3 + 1) : Int32).toNatClampNeg)]) (st := []) (la := [(0, .ref 76), (1, .int (gx G ((x3 + 1) : Int32).toNatClampNeg))]) (dcd d_L_law_12 10 rfl) cv_m_shut k_L_68 ⟨by decide, by decide⟩ ok_76 rfl (Nat.le_of_ble_eq_true rfl) (Nat.le_of_ble_eq_true rfl) rfl rfl h (fun a4 u4 h => ?_)
  refine ws_pop (dcd d_L_law_12 11 rfl) rfl ?_
  refine ws_goto (tgt := 1742) (dcd d_L_law_12 12 rfl) (by decide) ?_
  exact ws_loc [0, 1, 2, 3] rfl h
theorem sg_L_law_685 {x3 : Int32} (h : (vp_in (x3 + 1) (gn G) ∧ Ws G D_open 0 [(0, .ref 2), (1, .int (gx G ((x3 + 1) : Int32).toNatClampNeg))] [] u (RI fun a2 u2 => (vp_in (x3 + 1) (gn G) ∧ Ws G m_open 0 [(0, .ref 76), (1, .int (gx G ((x3 + 1) : Int32).toNatClampNeg))] [] u2 (RI fun a4 u4 => Ws G L_law 1742 [(0, .ref 0), (1, .ref 2), (2, .ref 76), (3, .int x3)] [] u4 Q))))) : Ws G L_law 685 [(0, .ref 0), (1, .ref 2), (2, .ref 76), (3, .int x3)] [] u Q := by
  refine ws_aload_n 1 (dcd d_L_law_12 13 rfl) rfl ?_
  refine ws_aload_n 0 (dcd d_L_law_12 14 rfl) rfl ?_
  refine ws_iload_n 3 (dcd d_L_law_12 15 rfl) rfl ?_
  refine ws_iconst (v := 1) (dcd d_L_law_12 16 rfl) (by decide) ?_
  refine ws_iadd (dcd d_L_law_12 17 rfl) ?_
  obtain ⟨e1, h⟩ := h
  refine ws_sld (dcd d_L_law_12 18 rfl) e1 ?_
  refine ws_callVI (o := 2) (As := [.int (gx G ((x3 + 1) : Int32).toNatClampNeg)]) (st := []) (la := [(0, .ref 2), (1, .int (gx G ((x3 + 1) : Int32).toNatClampNeg))]) (dcd d_L_law_12 19 rfl) cv_D_open k_L_69 ⟨by decide, by decide⟩ ok_2 rfl (Nat.le_of_ble_eq_true rfl) (Nat.le_of_ble_eq_true rfl) rfl rfl h (fun a2 u2 h => ?_)
  refine ws_pop (dcd d_L_law_12 20 rfl) rfl ?_
  refine ws_aload_n 2 (dcd d_L_law_12 21 rfl) rfl ?_
  refine ws_aload_n 0 (dcd d_L_law_12 22 rfl) rfl ?_
  refine ws_iload_n 3 (dcd d_L_law_12 23 rfl) rfl ?_
  refine ws_iconst (v := 1) (dcd d_L_law_12 24 rfl) (by decide) ?_
  refine ws_iadd (dcd d_L_law_12 25 rfl) ?_
  obtain ⟨e3, h⟩ := h
  refine ws_sld (dcd d_L_law_12 26 rfl) e3 ?_
  refine ws_callVI (o := 76) (As := [.int (gx G ((x3 + 1) : Int32).toNatClampNeg)]) (st := []) (la := [(0, .ref 76), (1, .int (gx G ((x3 + 1) : Int32).toNatClampNeg))]) (dcd d_L_law_12 27 rfl) cv_m_open k_L_72 ⟨by decide, by decide⟩ ok_76 rfl (Nat.le_of_ble_eq_true rfl) (Nat.le_of_ble_eq_true rfl) rfl rfl h (fun a4 u4 h => ?_)
  refine ws_pop (dcd d_L_law_12 28 rfl) rfl ?_
  refine ws_goto (tgt := 1742) (dcd d_L_law_12 29 rfl) (by decide) ?_
  exact ws_loc [0, 1, 2, 3] rfl h
end SEGL
