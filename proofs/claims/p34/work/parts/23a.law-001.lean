section SEGL
variable {G : pG} {u : pM} {Q : Option Value → pM → Prop}
theorem sg_L_law_332 {x3 : Int32} (h : (vp_in (x3 + 1) (gn G) ∧ (vp_in (x3 + 2) (gn G) ∧ Ws G D_at 0 [(0, .ref 2), (1, .int (gx G ((x3 + 1) : Int32).toNatClampNeg)), (2, .int (gx G ((x3 + 2) : Int32).toNatClampNeg))] [] u (RI fun a3 u3 => (vp_in (x3 + 1) (gn G) ∧ (vp_in (x3 + 2) (gn G) ∧ Ws G m_at 0 [(0, .ref 76), (1, .int (gx G ((x3 + 1) : Int32).toNatClampNeg)), (2, .int (gx G ((x3 + 2) : Int32).toNatClampNeg))] [] u3 (RI fun a6 u6 => Ws G L_law 1742 [(0, .ref 0), (1, .ref 2), (2, .ref 76), (3, .int x3)] [] u6 Q))))))) : Ws G L_law 332 [(0, .ref 0), (1, .ref 2), (2, .ref 76), (3, .int x3)] [] u Q := by
  refine ws_aload_n 1 (dcd d_L_law_2 26 rfl) rfl ?_
  refine ws_aload_n 0 (dcd d_L_law_2 27 rfl) rfl ?_
  refine ws_iload_n 3 (dcd d_L_law_2 28 rfl) rfl ?_
  refine ws_iconst (v := 1) (dcd d_L_law_2 29 rfl) (by decide) ?_
  refine ws_iadd (dcd d_L_law_3 0 rfl) ?_
  obtain ⟨e1, h⟩ := h
  refine ws_sld (dcd d_L_law_3 1 rfl) e1 ?_
  refine ws_aload_n 0 (dcd d_L_law_3 2 rfl) rfl ?_
  refine ws_iload_n 3 (dcd d_L_law_3 3 rfl) rfl ?_
  refine ws_iconst (v := 2) (dcd d_L_law_3 4 rfl) (by decide) ?_
  refine ws_iadd (dcd d_L_law_3 5 rfl) ?_
  obtain ⟨e2, h⟩ := h
  refine ws_sld (dcd d_L_law_3 6 rfl) e2 ?_
  refine ws_callVI (o := 2) (As := [.int (gx G ((x3 + 1) : Int32).toNatClampNeg), .int (gx G ((x3 + 2) : Int32).toNatClampNeg)]) (st := []) (la := [(0, .ref 2), (1, .int (gx G ((x3 + 1) : Int32).toNatClampNeg)), (2, .int (gx G ((x3 + 2) : Int32).toNatClampNeg))]) (dcd d_L_law_3 7 rfl) cv_D_at k_L_23 ⟨by decide, by decide⟩ ok_2 rfl (Nat.le_of_ble_eq_true rfl) (Nat.le_of_ble_eq_true rfl) rfl rfl h (fun a3 u3 h => ?_)
  refine ws_pop (dcd d_L_law_3 8 rfl) rfl ?_
  refine ws_aload_n 2 (dcd d_L_law_3 9 rfl) rfl ?_
  refine ws_aload_n 0 (dcd d_L_law_3 10 rfl) rfl ?_
  refine ws_iload_n 3 (dcd d_L_law_3 11 rfl) rfl ?_
  refine ws_iconst (v := 1) (dcd d_L_law_3 12 rfl) (by decide) ?_
  refine ws_iadd (dcd d_L_law_3 13 rfl) ?_
  obtain ⟨e4, h⟩ := h
  refine ws_sld (dcd d_L_law_3 14 rfl) e4 ?_
  refine ws_aload_n 0 (dcd d_L_law_3 15 rfl) rfl ?_
  refine ws_iload_n 3 (dcd d_L_law_3 16 rfl) rfl ?_
  refine ws_iconst (v := 2) (dcd d_L_law_3 17 rfl) (by decide) ?_
  refine ws_iadd (dcd d_L_law_3 18 rfl) ?_
  obtain ⟨e5, h⟩ := h
  refine ws_sld (dcd d_L_law_3 19 rfl) e5 ?_
  refine ws_callVI (o := 76) (As := [.int (gx G ((x3 + 1) : Int32).toNatClampNeg), .int (gx G ((x3 + 2) : Int32).toNatClampNeg)]) (st := []) (la := [(0, .ref 76), (1, .int (gx G ((x3 + 1) : Int32).toNatClampNeg)), (2, .int (gx G ((x3 + 2) : Int32).toNatClampNeg))]) (dcd d_L_law_3 20 rfl) cv_m_at k_L_26 ⟨by decide, by decide⟩ ok_76 rfl (Nat.le_of_ble_eq_true rfl) (Nat.le_of_ble_eq_true rfl) rfl rfl h (fun a6 u6 h => ?_)
  refine ws_pop (dcd d_L_law_3 21 rfl) rfl ?_
  refine ws_goto (tgt := 1742) (dcd d_L_law_3 22 rfl) (by decide) ?_
  exact ws_loc [0, 1, 2, 3] rfl h
theorem sg_L_law_365 {x3 : Int32} (h : (vp_in (x3 + 1) (gn G) ∧ Ws G D_tear 0 [(0, .ref 2), (1, .int (gx G ((x3 + 1) : Int32).toNatClampNeg))] [] u (RI fun a2 u2 => (vp_in (x3 + 1) (gn G) ∧ Ws G m_tear 0 [(0, .ref 76), (1, .int (gx G ((x3 + 1) : Int32).toNatClampNeg))] [] u2 (RI fun a4 u4 => Ws G L_law 1742 [(0, .ref 0), (1, .ref 2), (2, .ref 76), (3, .int x3)] [] u4 Q))))) : Ws G L_law 365 [(0, .ref 0), (1, .ref 2), (2, .ref 76), (3, .int x3)] [] u Q := by
  refine ws_aload_n 1 (dcd d_L_law_3 23 rfl) rfl ?_
  refine ws_aload_n 0 (dcd d_L_law_3 24 rfl) rfl ?_
  refine ws_iload_n 3 (dcd d_L_law_3 25 rfl) rfl ?_
  refine ws_iconst (v := 1) (dcd d_L_law_3 26 rfl) (by decide) ?_
  refine ws_iadd (dcd d_L_law_3 27 rfl) ?_
  obtain ⟨e1, h⟩ := h
  refine ws_sld (dcd d_L_law_3 28 rfl) e1 ?_
  refine ws_callVI (o := 2) (As := [.int (gx G ((x3 + 1) : Int32).toNatClampNeg)]) (st := []) (la := [(0, .ref 2), (1, .int (gx G ((x3 + 1) : Int32).toNatClampNeg))]) (dcd d_L_law_3 29 rfl) cv_D_tear k_L_27 ⟨by decide, by decide⟩ ok_2 rfl (Nat.le_of_ble_eq_true rfl) (Nat.le_of_ble_eq_true rfl) rfl rfl h (fun a2 u2 h => ?_)
  refine ws_pop (dcd d_L_law_4 0 rfl) rfl ?_
  refine ws_aload_n 2 (dcd d_L_law_4 1 rfl) rfl ?_
  refine ws_aload_n 0 (dcd d_L_law_4 2 rfl) rfl ?_
  refine ws_iload_n 3 (dcd d_L_law_4 3 rfl) rfl ?_
  refine ws_iconst (v := 1) (dcd d_L_law_4 4 rfl) (by decide) ?_
  refine ws_iadd (dcd d_L_law_4 5 rfl) ?_
  obtain ⟨e3, h⟩ := h
  refine ws_sld (dcd d_L_law_4 6 rfl) e3 ?_
  refine ws_callVI (o := 76) (As := [.int (gx G ((x3 + 1) : Int32).toNatClampNeg)]) (st := []) (la := [(0, .ref 76), (1, .int (gx G ((x3 + 1) : Int32).toNatClampNeg))]) (dcd d_L_law_4 7 rfl) cv_m_tear k_L_31 ⟨by decide, by decide⟩ ok_76 rfl (Nat.le_of_ble_eq_true rfl) (Nat.le_of_ble_eq_true rfl) rfl rfl h (fun a4 u4 h => ?_)
  refine ws_pop (dcd d_L_law_4 8 rfl) rfl ?_
  refine ws_goto (tgt := 1742) (dcd d_L_law_4 9 rfl) (by decide) ?_
  exact ws_loc [0, 1, 2, 3] rfl h
theorem sg_L_law_388 {x3 : Int32} (h : (vp_in (x3 + 1) (gn G) ∧ (vp_in (x3 + 2) (gn G) ∧ (vp_in (x3 + 3) (gn G) ∧ (vp_in (x3 + 4) (gn G) ∧ (vp_in (x3 + 5) (gn G) ∧ Ws G D_copy 0 [(0, .ref 2), (1, .int (gx G ((x3 + 1) : Int32).toNatClampNeg)), (2, .int (gx G ((x3 + 2) : Int32).toNatClampNeg)), (3, .int (gx G ((x3 + 3) : Int32).toNatClampNeg)), (4, .int (gx G ((x3 + 4) : Int32).toNatClampNeg)), (5, .int (gx G ((x3 + 5) : Int32).toNatClampNeg))] [] u (RI fun a6 u6 => (vp_in (x3 + 1) (gn G) ∧ (vp_in (x3 + 2) (gn G) ∧ (vp_in (x3 + 3) (gn G) ∧ (vp_in (x3 + 4) (gn G) ∧ (vp_in (x3 + 5) (gn G) ∧ Ws G m_copy 0 [(0, .ref 76), (1, .int (gx G ((x3 + 1) : Int32).toNatClampNeg)), (2, .int (gx G ((x3 + 2) : Int32).toNatClampNeg)), (3, .int (gx G ((x3 + 3) : Int32).toNatClampNeg)), (4, .int (gx G ((x3 + 4) : Int32).toNatClampNeg)), (5, .int (gx G ((x3 + 5) : Int32).toNatClampNeg))] [] u6 (RI fun a12 u12 => Ws G L_law 1742 [(0, .ref 0), (1, .ref 2), (2, .ref 76), (3, .int x3)] [] u12 Q))))))))))))) : Ws G L_law 388 [(0, .ref 0), (1, .ref 2), (2, .ref 76), (3, .int x3)] [] u Q := by
  refine ws_aload_n 1 (dcd d_L_law_4 10 rfl) rfl ?_
  refine ws_aload_n 0 (dcd d_L_law_4 11 rfl) rfl ?_
  refine ws_iload_n 3 (dcd d_L_law_4 12 rfl) rfl ?_
  refine ws_iconst (v := 1) (dcd d_L_law_4 13 rfl) (by decide) ?_
  refine ws_iadd (dcd d_L_law_4 14 rfl) ?_
  obtain ⟨e1, h⟩ := h
  refine ws_sld (dcd d_L_law_4 15 rfl) e1 ?_
  refine ws_aload_n 0 (dcd d_L_law_4 16 rfl) rfl ?_
  refine ws_iload_n 3 (dcd d_L_law_4 17 rfl) rfl ?_
  refine ws_iconst (v := 2) (dcd d_L_law_4 18 rfl) (by decide) ?_
  refine ws_iadd (dcd d_L_law_4 19 rfl) ?_
  obtain ⟨e2, h⟩ := h
  refine ws_sld (dcd d_L_law_4 20 rfl) e2 ?_
  refine ws_aload_n 0 (dcd d_L_law_4 21 rfl) rfl ?_
  refine ws_iload_n 3 (dcd d_L_law_4 22 rfl) rfl ?_
  refine ws_iconst (v := 3) (dcd d_L_law_4 23 rfl) (by decide) ?_
  refine ws_iadd (dcd d_L_law_4 24 rfl) ?_
  obtain ⟨e3, h⟩ := h
  refine ws_sld (dcd d_L_law_4 25 rfl) e3 ?_
  refine ws_aload_n 0 (dcd d_L_law_4 26 rfl) rfl ?_
  refine ws_iload_n 3 (dcd d_L_law_4 27 rfl) rfl ?_
  refine ws_iconst (v := 4) (dcd d_L_law_4 28 rfl) (by decide) ?_
  refine ws_iadd (dcd d_L_law_4 29 rfl) ?_
  obtain ⟨e4, h⟩ := h
  refine ws_sld (dcd d_L_law_5 0 rfl) e4 ?_
  refine ws_aload_n 0 (dcd d_L_law_5 1 rfl) rfl ?_
  refine ws_iload_n 3 (dcd d_L_law_5 2 rfl) rfl ?_
  refine ws_iconst (v := 5) (dcd d_L_law_5 3 rfl) (by decide) ?_
  refine ws_iadd (dcd d_L_law_5 4 rfl) ?_
  obtain ⟨e5, h⟩ := h
  refine ws_sld (dcd d_L_law_5 5 rfl) e5 ?_
  refine ws_callVI (o := 2) (As := [.int (gx G ((x3 + 1) : Int32).toNatClampNeg), .int (gx G ((x3 + 2) : Int32).toNatClampNeg), .int (gx G ((x3 + 3) : Int32).toNatClampNeg), .int (gx G ((x3 + 4) : Int32).toNatClampNeg), .int (gx G ((x3 + 5) : Int32).toNatClampNeg)]) (st := []) (la := [(0, .ref 2), (1, .int (gx G ((x3 + 1) : Int32).toNatClampNeg)), (2, .int (gx G ((x3 + 2) : Int32).toNatClampNeg)), (3, .int (gx G ((x3 + 3) : Int32).toNatClampNeg)), (4, .int (gx G ((x3 + 4) : Int32).toNatClampNeg)), (5, .int (gx G ((x3 + 5) : Int32).toNatClampNeg))]) (dcd d_L_law_5 6 rfl) cv_D_copy k_L_32 ⟨by decide, by decide⟩ ok_2 rfl (Nat.le_of_ble_eq_true rfl) (Nat.le_of_ble_eq_true rfl) rfl rfl h (fun a6 u6 h => ?_)
  refine ws_pop (dcd d_L_law_5 7 rfl) rfl ?_
  refine ws_aload_n 2 (dcd d_L_law_5 8 rfl) rfl ?_
  refine ws_aload_n 0 (dcd d_L_law_5 9 rfl) rfl ?_
  refine ws_iload_n 3 (dcd d_L_law_5 10 rfl) rfl ?_
  refine ws_iconst (v := 1) (dcd d_L_law_5 11 rfl) (by decide) ?_
  refine ws_iadd (dcd d_L_law_5 12 rfl) ?_
  obtain ⟨e7, h⟩ := h
  refine ws_sld (dcd d_L_law_5 13 rfl) e7 ?_
  refine ws_aload_n 0 (dcd d_L_law_5 14 rfl) rfl ?_
  refine ws_iload_n 3 (dcd d_L_law_5 15 rfl) rfl ?_
  refine ws_iconst (v := 2) (dcd d_L_law_5 16 rfl) (by decide) ?_
  refine ws_iadd (dcd d_L_law_5 17 rfl) ?_
  obtain ⟨e8, h⟩ := h
  refine ws_sld (dcd d_L_law_5 18 rfl) e8 ?_
  refine ws_aload_n 0 (dcd d_L_law_5 19 rfl) rfl ?_
  refine ws_iload_n 3 (dcd d_L_law_5 20 rfl) rfl ?_
  refine ws_iconst (v := 3) (dcd d_L_law_5 21 rfl) (by decide) ?_
  refine ws_iadd (dcd d_L_law_5 22 rfl) ?_
  obtain ⟨e9, h⟩ := h
  refine ws_sld (dcd d_L_law_5 23 rfl) e9 ?_
  refine ws_aload_n 0 (dcd d_L_law_5 24 rfl) rfl ?_
  refine ws_iload_n 3 (dcd d_L_law_5 25 rfl) rfl ?_
  refine ws_iconst (v := 4) (dcd d_L_law_5 26 rfl) (by decide) ?_
  refine ws_iadd (dcd d_L_law_5 27 rfl) ?_
  obtain ⟨e10, h⟩ := h
  refine ws_sld (dcd d_L_law_5 28 rfl) e10 ?_
  refine ws_aload_n 0 (dcd d_L_law_5 29 rfl) rfl ?_
  refine ws_iload_n 3 (dcd d_L_law_6 0 rfl) rfl ?_
  refine ws_iconst (v := 5) (dcd d_L_law_6 1 rfl) (by decide) ?_
  refine ws_iadd (dcd d_L_law_6 2 rfl) ?_
  obtain ⟨e11, h⟩ := h
  refine ws_sld (dcd d_L_law_6 3 rfl) e11 ?_
  refine ws_callVI (o := 76) (As := [.int (gx G ((x3 + 1) : Int32).toNatClampNeg), .int (gx G ((x3 + 2) : Int32).toNatClampNeg), .int (gx G ((x3 + 3) : Int32).toNatClampNeg), .int (gx G ((x3 + 4) : Int32).toNatClampNeg), .int (gx G ((x3 + 5) : Int32).toNatClampNeg)]) (st := []) (la := [(0, .ref 76), (1, .int (gx G ((x3 + 1) : Int32).toNatClampNeg)), (2, .int (gx G ((x3 + 2) : Int32).toNatClampNeg)), (3, .int (gx G ((x3 + 3) : Int32).toNatClampNeg)), (4, .int (gx G ((x3 + 4) : Int32).toNatClampNeg)), (5, .int (gx G ((x3 + 5) : Int32).toNatClampNeg))]) (dcd d_L_law_6 4 rfl) cv_m_copy k_L_36 ⟨by decide, by decide⟩ ok_76 rfl (Nat.le_of_ble_eq_true rfl) (Nat.le_of_ble_eq_true rfl) rfl rfl h (fun a12 u12 h => ?_)
  refine ws_pop (dcd d_L_law_6 5 rfl) rfl ?_
  refine ws_goto (tgt := 1742) (dcd d_L_law_6 6 rfl) (by decide) ?_
  exact ws_loc [0, 1, 2, 3] rfl h
theorem sg_L_law_451 {x3 : Int32} (h : (vp_in (x3 + 1) (gn G) ∧ Ws G D_mean 0 [(0, .ref 2), (1, .int (gx G ((x3 + 1) : Int32).toNatClampNeg))] [] u (RI fun a2 u2 => (vp_in (x3 + 1) (gn G) ∧ Ws G m_mean 0 [(0, .ref 76), (1, .int (gx G ((x3 + 1) : Int32).toNatClampNeg))] [] u2 (RI fun a4 u4 => Ws G L_law 1742 [(0, .ref 0), (1, .ref 2), (2, .ref 76), (3, .int x3)] [] u4 Q))))) : Ws G L_law 451 [(0, .ref 0), (1, .ref 2), (2, .ref 76), (3, .int x3)] [] u Q := by
  refine ws_aload_n 1 (dcd d_L_law_6 7 rfl) rfl ?_
  refine ws_aload_n 0 (dcd d_L_law_6 8 rfl) rfl ?_
  refine ws_iload_n 3 (dcd d_L_law_6 9 rfl) rfl ?_
  refine ws_iconst (v := 1) (dcd d_L_law_6 10 rfl) (by decide) ?_
  refine ws_iadd (dcd d_L_law_6 11 rfl) ?_
  obtain ⟨e1, h⟩ := h
  refine ws_sld (dcd d_L_law_6 12 rfl) e1 ?_
  refine ws_callVI (o := 2) (As := [.int (gx G ((x3 + 1) : Int32).toNatClampNeg)]) (st := []) (la := [(0, .ref 2), (1, .int (gx G ((x3 + 1) : Int32).toNatClampNeg))]) (dcd d_L_law_6 13 rfl) cv_D_mean k_L_37 ⟨by decide, by decide⟩ ok_2 rfl (Nat.le_of_ble_eq_true rfl) (Nat.le_of_ble_eq_true rfl) rfl rfl h (fun a2 u2 h => ?_)
  refine ws_pop (dcd d_L_law_6 14 rfl) rfl ?_
  refine ws_aload_n 2 (dcd d_L_law_6 15 rfl) rfl ?_
  refine ws_aload_n 0 (dcd d_L_law_6 16 rfl) rfl ?_
  refine ws_iload_n 3 (dcd d_L_law_6 17 rfl) rfl ?_
  refine ws_iconst (v := 1) (dcd d_L_law_6 18 rfl) (by decide) ?_
  refine ws_iadd (dcd d_L_law_6 19 rfl) ?_
  obtain ⟨e3, h⟩ := h
  refine ws_sld (dcd d_L_law_6 20 rfl) e3 ?_
  refine ws_callVI (o := 76) (As := [.int (gx G ((x3 + 1) : Int32).toNatClampNeg)]) (st := []) (la := [(0, .ref 76), (1, .int (gx G ((x3 + 1) : Int32).toNatClampNeg))]) (dcd d_L_law_6 21 rfl) cv_m_mean k_L_40 ⟨by decide, by decide⟩ ok_76 rfl (Nat.le_of_ble_eq_true rfl) (Nat.le_of_ble_eq_true rfl) rfl rfl h (fun a4 u4 h => ?_)
  refine ws_pop (dcd d_L_law_6 22 rfl) rfl ?_
  refine ws_goto (tgt := 1742) (dcd d_L_law_6 23 rfl) (by decide) ?_
  exact ws_loc [0, 1, 2, 3] rfl h
end SEGL
