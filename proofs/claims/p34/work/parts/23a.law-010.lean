section SEGL
variable {G : pG} {u : pM} {Q : Option Value → pM → Prop}
theorem sg_L_law_1430 {x3 : Int32} (h : (vp_in (x3 + 1) (gn G) ∧ Ws G D_kinds 0 [(0, .ref 2), (1, .int (gx G ((x3 + 1) : Int32).toNatClampNeg))] [] u (RI fun a2 u2 => (vp_in (x3 + 1) (gn G) ∧ Ws G m_kinds 0 [(0, .ref 76), (1, .int (gx G ((x3 + 1) : Int32).toNatClampNeg))] [] u2 (RI fun a4 u4 => Ws G L_law 1742 [(0, .ref 0), (1, .ref 2), (2, .ref 76), (3, .int x3)] [] u4 Q))))) : Ws G L_law 1430 [(0, .ref 0), (1, .ref 2), (2, .ref 76), (3, .int x3)] [] u Q := by
  refine ws_aload_n 1 (dcd d_L_law_32 8 rfl) rfl ?_
  refine ws_aload_n 0 (dcd d_L_law_32 9 rfl) rfl ?_
  refine ws_iload_n 3 (dcd d_L_law_32 10 rfl) rfl ?_
  refine ws_iconst (v := 1) (dcd d_L_law_32 11 rfl) (by decide) ?_
  refine ws_iadd (dcd d_L_law_32 12 rfl) ?_
  obtain ⟨e1, h⟩ := h
  refine ws_sld (dcd d_L_law_32 13 rfl) e1 ?_
  refine ws_callVI (o := 2) (As := [.int (gx G ((x3 + 1) : Int32).toNatClampNeg)]) (st := []) (la := [(0, .ref 2), (1, .int (gx G ((x3 + 1) : Int32).toNatClampNeg))]) (dcd d_L_law_32 14 rfl) cv_D_kinds k_L_171 ⟨by decide, by decide⟩ ok_2 rfl (Nat.le_of_ble_eq_true rfl) (Nat.le_of_ble_eq_true rfl) rfl rfl h (fun a2 u2 h => ?_)
  refine ws_pop (dcd d_L_law_32 15 rfl) rfl ?_
  refine ws_aload_n 2 (dcd d_L_law_32 16 rfl) rfl ?_
  refine ws_aload_n 0 (dcd d_L_law_32 17 rfl) rfl ?_
  refine ws_iload_n 3 (dcd d_L_law_32 18 rfl) rfl ?_
  refine ws_iconst (v := 1) (dcd d_L_law_32 19 rfl) (by decide) ?_
  refine ws_iadd (dcd d_L_law_32 20 rfl) ?_
  obtain ⟨e3, h⟩ := h
  refine ws_sld (dcd d_L_law_32 21 rfl) e3 ?_
  refine ws_callVI (o := 76) (As := [.int (gx G ((x3 + 1) : Int32).toNatClampNeg)]) (st := []) (la := [(0, .ref 76), (1, .int (gx G ((x3 + 1) : Int32).toNatClampNeg))]) (dcd d_L_law_32 22 rfl) cv_m_kinds k_L_174 ⟨by decide, by decide⟩ ok_76 rfl (Nat.le_of_ble_eq_true rfl) (Nat.le_of_ble_eq_true rfl) rfl rfl h (fun a4 u4 h => ?_)
  refine ws_pop (dcd d_L_law_32 23 rfl) rfl ?_
  refine ws_goto (tgt := 1742) (dcd d_L_law_32 24 rfl) (by decide) ?_
  exact ws_loc [0, 1, 2, 3] rfl h
theorem sg_L_law_1453 {x3 : Int32} (h : (vp_in (x3 + 1) (gn G) ∧ (vp_in (x3 + 2) (gn G) ∧ (vp_in (x3 + 3) (gn G) ∧ Ws G D_rent 0 [(0, .ref 2), (1, .int (gx G ((x3 + 1) : Int32).toNatClampNeg)), (2, .int (gx G ((x3 + 2) : Int32).toNatClampNeg)), (3, .int (gx G ((x3 + 3) : Int32).toNatClampNeg))] [] u (RI fun a4 u4 => (vp_in (x3 + 1) (gn G) ∧ (vp_in (x3 + 2) (gn G) ∧ (vp_in (x3 + 3) (gn G) ∧ Ws G m_rent 0 [(0, .ref 76), (1, .int (gx G ((x3 + 1) : Int32).toNatClampNeg)), (2, .int (gx G ((x3 + 2) : Int32).toNatClampNeg)), (3, .int (gx G ((x3 + 3) : Int32).toNatClampNeg))] [] u4 (RI fun a8 u8 => Ws G L_law 1742 [(0, .ref 0), (1, .ref 2), (2, .ref 76), (3, .int x3)] [] u8 Q))))))))) : Ws G L_law 1453 [(0, .ref 0), (1, .ref 2), (2, .ref 76), (3, .int x3)] [] u Q := by
  refine ws_aload_n 1 (dcd d_L_law_32 25 rfl) rfl ?_
  refine ws_aload_n 0 (dcd d_L_law_32 26 rfl) rfl ?_
  refine ws_iload_n 3 (dcd d_L_law_32 27 rfl) rfl ?_
  refine ws_iconst (v := 1) (dcd d_L_law_32 28 rfl) (by decide) ?_
  refine ws_iadd (dcd d_L_law_32 29 rfl) ?_
  obtain ⟨e1, h⟩ := h
  refine ws_sld (dcd d_L_law_33 0 rfl) e1 ?_
  refine ws_aload_n 0 (dcd d_L_law_33 1 rfl) rfl ?_
  refine ws_iload_n 3 (dcd d_L_law_33 2 rfl) rfl ?_
  refine ws_iconst (v := 2) (dcd d_L_law_33 3 rfl) (by decide) ?_
  refine ws_iadd (dcd d_L_law_33 4 rfl) ?_
  obtain ⟨e2, h⟩ := h
  refine ws_sld (dcd d_L_law_33 5 rfl) e2 ?_
  refine ws_aload_n 0 (dcd d_L_law_33 6 rfl) rfl ?_
  refine ws_iload_n 3 (dcd d_L_law_33 7 rfl) rfl ?_
  refine ws_iconst (v := 3) (dcd d_L_law_33 8 rfl) (by decide) ?_
  refine ws_iadd (dcd d_L_law_33 9 rfl) ?_
  obtain ⟨e3, h⟩ := h
  refine ws_sld (dcd d_L_law_33 10 rfl) e3 ?_
  refine ws_callVI (o := 2) (As := [.int (gx G ((x3 + 1) : Int32).toNatClampNeg), .int (gx G ((x3 + 2) : Int32).toNatClampNeg), .int (gx G ((x3 + 3) : Int32).toNatClampNeg)]) (st := []) (la := [(0, .ref 2), (1, .int (gx G ((x3 + 1) : Int32).toNatClampNeg)), (2, .int (gx G ((x3 + 2) : Int32).toNatClampNeg)), (3, .int (gx G ((x3 + 3) : Int32).toNatClampNeg))]) (dcd d_L_law_33 11 rfl) cv_D_rent k_L_175 ⟨by decide, by decide⟩ ok_2 rfl (Nat.le_of_ble_eq_true rfl) (Nat.le_of_ble_eq_true rfl) rfl rfl h (fun a4 u4 h => ?_)
  refine ws_pop (dcd d_L_law_33 12 rfl) rfl ?_
  refine ws_aload_n 2 (dcd d_L_law_33 13 rfl) rfl ?_
  refine ws_aload_n 0 (dcd d_L_law_33 14 rfl) rfl ?_
  refine ws_iload_n 3 (dcd d_L_law_33 15 rfl) rfl ?_
  refine ws_iconst (v := 1) (dcd d_L_law_33 16 rfl) (by decide) ?_
  refine ws_iadd (dcd d_L_law_33 17 rfl) ?_
  obtain ⟨e5, h⟩ := h
  refine ws_sld (dcd d_L_law_33 18 rfl) e5 ?_
  refine ws_aload_n 0 (dcd d_L_law_33 19 rfl) rfl ?_
  refine ws_iload_n 3 (dcd d_L_law_33 20 rfl) rfl ?_
  refine ws_iconst (v := 2) (dcd d_L_law_33 21 rfl) (by decide) ?_
  refine ws_iadd (dcd d_L_law_33 22 rfl) ?_
  obtain ⟨e6, h⟩ := h
  refine ws_sld (dcd d_L_law_33 23 rfl) e6 ?_
  refine ws_aload_n 0 (dcd d_L_law_33 24 rfl) rfl ?_
  refine ws_iload_n 3 (dcd d_L_law_33 25 rfl) rfl ?_
  refine ws_iconst (v := 3) (dcd d_L_law_33 26 rfl) (by decide) ?_
  refine ws_iadd (dcd d_L_law_33 27 rfl) ?_
  obtain ⟨e7, h⟩ := h
  refine ws_sld (dcd d_L_law_33 28 rfl) e7 ?_
  refine ws_callVI (o := 76) (As := [.int (gx G ((x3 + 1) : Int32).toNatClampNeg), .int (gx G ((x3 + 2) : Int32).toNatClampNeg), .int (gx G ((x3 + 3) : Int32).toNatClampNeg)]) (st := []) (la := [(0, .ref 76), (1, .int (gx G ((x3 + 1) : Int32).toNatClampNeg)), (2, .int (gx G ((x3 + 2) : Int32).toNatClampNeg)), (3, .int (gx G ((x3 + 3) : Int32).toNatClampNeg))]) (dcd d_L_law_33 29 rfl) cv_m_rent k_L_178 ⟨by decide, by decide⟩ ok_76 rfl (Nat.le_of_ble_eq_true rfl) (Nat.le_of_ble_eq_true rfl) rfl rfl h (fun a8 u8 h => ?_)
  refine ws_pop (dcd d_L_law_34 0 rfl) rfl ?_
  refine ws_goto (tgt := 1742) (dcd d_L_law_34 1 rfl) (by decide) ?_
  exact ws_loc [0, 1, 2, 3] rfl h
theorem sg_L_law_1496 {x3 : Int32} (h : (vp_in (x3 + 1) (gn G) ∧ (vp_in (x3 + 2) (gn G) ∧ Ws G D_dearest 0 [(0, .ref 2), (1, .int (gx G ((x3 + 1) : Int32).toNatClampNeg)), (2, .int (gx G ((x3 + 2) : Int32).toNatClampNeg))] [] u (RI fun a3 u3 => (vp_in (x3 + 1) (gn G) ∧ (vp_in (x3 + 2) (gn G) ∧ Ws G m_dearest 0 [(0, .ref 76), (1, .int (gx G ((x3 + 1) : Int32).toNatClampNeg)), (2, .int (gx G ((x3 + 2) : Int32).toNatClampNeg))] [] u3 (RI fun a6 u6 => Ws G L_law 1742 [(0, .ref 0), (1, .ref 2), (2, .ref 76), (3, .int x3)] [] u6 Q))))))) : Ws G L_law 1496 [(0, .ref 0), (1, .ref 2), (2, .ref 76), (3, .int x3)] [] u Q := by
  refine ws_aload_n 1 (dcd d_L_law_34 2 rfl) rfl ?_
  refine ws_aload_n 0 (dcd d_L_law_34 3 rfl) rfl ?_
  refine ws_iload_n 3 (dcd d_L_law_34 4 rfl) rfl ?_
  refine ws_iconst (v := 1) (dcd d_L_law_34 5 rfl) (by decide) ?_
  refine ws_iadd (dcd d_L_law_34 6 rfl) ?_
  obtain ⟨e1, h⟩ := h
  refine ws_sld (dcd d_L_law_34 7 rfl) e1 ?_
  refine ws_aload_n 0 (dcd d_L_law_34 8 rfl) rfl ?_
  refine ws_iload_n 3 (dcd d_L_law_34 9 rfl) rfl ?_
  refine ws_iconst (v := 2) (dcd d_L_law_34 10 rfl) (by decide) ?_
  refine ws_iadd (dcd d_L_law_34 11 rfl) ?_
  obtain ⟨e2, h⟩ := h
  refine ws_sld (dcd d_L_law_34 12 rfl) e2 ?_
  refine ws_callVI (o := 2) (As := [.int (gx G ((x3 + 1) : Int32).toNatClampNeg), .int (gx G ((x3 + 2) : Int32).toNatClampNeg)]) (st := []) (la := [(0, .ref 2), (1, .int (gx G ((x3 + 1) : Int32).toNatClampNeg)), (2, .int (gx G ((x3 + 2) : Int32).toNatClampNeg))]) (dcd d_L_law_34 13 rfl) cv_D_dearest k_L_179 ⟨by decide, by decide⟩ ok_2 rfl (Nat.le_of_ble_eq_true rfl) (Nat.le_of_ble_eq_true rfl) rfl rfl h (fun a3 u3 h => ?_)
  refine ws_pop (dcd d_L_law_34 14 rfl) rfl ?_
  refine ws_aload_n 2 (dcd d_L_law_34 15 rfl) rfl ?_
  refine ws_aload_n 0 (dcd d_L_law_34 16 rfl) rfl ?_
  refine ws_iload_n 3 (dcd d_L_law_34 17 rfl) rfl ?_
  refine ws_iconst (v := 1) (dcd d_L_law_34 18 rfl) (by decide) ?_
  refine ws_iadd (dcd d_L_law_34 19 rfl) ?_
  obtain ⟨e4, h⟩ := h
  refine ws_sld (dcd d_L_law_34 20 rfl) e4 ?_
  refine ws_aload_n 0 (dcd d_L_law_34 21 rfl) rfl ?_
  refine ws_iload_n 3 (dcd d_L_law_34 22 rfl) rfl ?_
  refine ws_iconst (v := 2) (dcd d_L_law_34 23 rfl) (by decide) ?_
  refine ws_iadd (dcd d_L_law_34 24 rfl) ?_
  obtain ⟨e5, h⟩ := h
  refine ws_sld (dcd d_L_law_34 25 rfl) e5 ?_
  refine ws_callVI (o := 76) (As := [.int (gx G ((x3 + 1) : Int32).toNatClampNeg), .int (gx G ((x3 + 2) : Int32).toNatClampNeg)]) (st := []) (la := [(0, .ref 76), (1, .int (gx G ((x3 + 1) : Int32).toNatClampNeg)), (2, .int (gx G ((x3 + 2) : Int32).toNatClampNeg))]) (dcd d_L_law_34 26 rfl) cv_m_dearest k_L_182 ⟨by decide, by decide⟩ ok_76 rfl (Nat.le_of_ble_eq_true rfl) (Nat.le_of_ble_eq_true rfl) rfl rfl h (fun a6 u6 h => ?_)
  refine ws_pop (dcd d_L_law_34 27 rfl) rfl ?_
  refine ws_goto (tgt := 1742) (dcd d_L_law_34 28 rfl) (by decide) ?_
  exact ws_loc [0, 1, 2, 3] rfl h
theorem sg_L_law_1529 {x3 : Int32} (h : (vp_in (x3 + 1) (gn G) ∧ (vp_in (x3 + 2) (gn G) ∧ Ws G D_mends 0 [(0, .ref 2), (1, .int (gx G ((x3 + 1) : Int32).toNatClampNeg)), (2, .int (gx G ((x3 + 2) : Int32).toNatClampNeg))] [] u (RI fun a3 u3 => (vp_in (x3 + 1) (gn G) ∧ (vp_in (x3 + 2) (gn G) ∧ Ws G m_mends 0 [(0, .ref 76), (1, .int (gx G ((x3 + 1) : Int32).toNatClampNeg)), (2, .int (gx G ((x3 + 2) : Int32).toNatClampNeg))] [] u3 (RI fun a6 u6 => Ws G L_law 1742 [(0, .ref 0), (1, .ref 2), (2, .ref 76), (3, .int x3)] [] u6 Q))))))) : Ws G L_law 1529 [(0, .ref 0), (1, .ref 2), (2, .ref 76), (3, .int x3)] [] u Q := by
  refine ws_aload_n 1 (dcd d_L_law_34 29 rfl) rfl ?_
  refine ws_aload_n 0 (dcd d_L_law_35 0 rfl) rfl ?_
  refine ws_iload_n 3 (dcd d_L_law_35 1 rfl) rfl ?_
  refine ws_iconst (v := 1) (dcd d_L_law_35 2 rfl) (by decide) ?_
  refine ws_iadd (dcd d_L_law_35 3 rfl) ?_
  obtain ⟨e1, h⟩ := h
  refine ws_sld (dcd d_L_law_35 4 rfl) e1 ?_
  refine ws_aload_n 0 (dcd d_L_law_35 5 rfl) rfl ?_
  refine ws_iload_n 3 (dcd d_L_law_35 6 rfl) rfl ?_
  refine ws_iconst (v := 2) (dcd d_L_law_35 7 rfl) (by decide) ?_
  refine ws_iadd (dcd d_L_law_35 8 rfl) ?_
  obtain ⟨e2, h⟩ := h
  refine ws_sld (dcd d_L_law_35 9 rfl) e2 ?_
  refine ws_callVI (o := 2) (As := [.int (gx G ((x3 + 1) : Int32).toNatClampNeg), .int (gx G ((x3 + 2) : Int32).toNatClampNeg)]) (st := []) (la := [(0, .ref 2), (1, .int (gx G ((x3 + 1) : Int32).toNatClampNeg)), (2, .int (gx G ((x3 + 2) : Int32).toNatClampNeg))]) (dcd d_L_law_35 10 rfl) cv_D_mends k_L_183 ⟨by decide, by decide⟩ ok_2 rfl (Nat.le_of_ble_eq_true rfl) (Nat.le_of_ble_eq_true rfl) rfl rfl h (fun a3 u3 h => ?_)
  refine ws_pop (dcd d_L_law_35 11 rfl) rfl ?_
  refine ws_aload_n 2 (dcd d_L_law_35 12 rfl) rfl ?_
  refine ws_aload_n 0 (dcd d_L_law_35 13 rfl) rfl ?_
  refine ws_iload_n 3 (dcd d_L_law_35 14 rfl) rfl ?_
  refine ws_iconst (v := 1) (dcd d_L_law_35 15 rfl) (by decide) ?_
  refine ws_iadd (dcd d_L_law_35 16 rfl) ?_
  obtain ⟨e4, h⟩ := h
  refine ws_sld (dcd d_L_law_35 17 rfl) e4 ?_
  refine ws_aload_n 0 (dcd d_L_law_35 18 rfl) rfl ?_
  refine ws_iload_n 3 (dcd d_L_law_35 19 rfl) rfl ?_
  refine ws_iconst (v := 2) (dcd d_L_law_35 20 rfl) (by decide) ?_
  refine ws_iadd (dcd d_L_law_35 21 rfl) ?_
  obtain ⟨e5, h⟩ := h
  refine ws_sld (dcd d_L_law_35 22 rfl) e5 ?_
  refine ws_callVI (o := 76) (As := [.int (gx G ((x3 + 1) : Int32).toNatClampNeg), .int (gx G ((x3 + 2) : Int32).toNatClampNeg)]) (st := []) (la := [(0, .ref 76), (1, .int (gx G ((x3 + 1) : Int32).toNatClampNeg)), (2, .int (gx G ((x3 + 2) : Int32).toNatClampNeg))]) (dcd d_L_law_35 23 rfl) cv_m_mends k_L_186 ⟨by decide, by decide⟩ ok_76 rfl (Nat.le_of_ble_eq_true rfl) (Nat.le_of_ble_eq_true rfl) rfl rfl h (fun a6 u6 h => ?_)
  refine ws_pop (dcd d_L_law_35 24 rfl) rfl ?_
  refine ws_goto (tgt := 1742) (dcd d_L_law_35 25 rfl) (by decide) ?_
  exact ws_loc [0, 1, 2, 3] rfl h
end SEGL
