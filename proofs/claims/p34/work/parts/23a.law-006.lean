section SEGL
variable {G : pG} {u : pM} {Q : Option Value → pM → Prop}
theorem sg_L_law_902 {x3 : Int32} (h : (vp_in (x3 + 1) (gn G) ∧ Ws G D_on 0 [(0, .ref 2), (1, .int (gx G ((x3 + 1) : Int32).toNatClampNeg))] [] u (RI fun a2 u2 => (vp_in (x3 + 1) (gn G) ∧ Ws G m_on 0 [(0, .ref 76), (1, .int (gx G ((x3 + 1) : Int32).toNatClampNeg))] [] u2 (RI fun a4 u4 => Ws G L_law 1742 [(0, .ref 0), (1, .ref 2), (2, .ref 76), (3, .int x3)] [] u4 Q))))) : Ws G L_law 902 [(0, .ref 0), (1, .ref 2), (2, .ref 76), (3, .int x3)] [] u Q := by
  refine ws_aload_n 1 (dcd d_L_law_17 26 rfl) rfl ?_
  refine ws_aload_n 0 (dcd d_L_law_17 27 rfl) rfl ?_
  refine ws_iload_n 3 (dcd d_L_law_17 28 rfl) rfl ?_
  refine ws_iconst (v := 1) (dcd d_L_law_17 29 rfl) (by decide) ?_
  refine ws_iadd (dcd d_L_law_18 0 rfl) ?_
  obtain ⟨e1, h⟩ := h
  refine ws_sld (dcd d_L_law_18 1 rfl) e1 ?_
  refine ws_callVI (o := 2) (As := [.int (gx G ((x3 + 1) : Int32).toNatClampNeg)]) (st := []) (la := [(0, .ref 2), (1, .int (gx G ((x3 + 1) : Int32).toNatClampNeg))]) (dcd d_L_law_18 2 rfl) cv_D_on k_L_106 ⟨by decide, by decide⟩ ok_2 rfl (Nat.le_of_ble_eq_true rfl) (Nat.le_of_ble_eq_true rfl) rfl rfl h (fun a2 u2 h => ?_)
  refine ws_pop (dcd d_L_law_18 3 rfl) rfl ?_
  refine ws_aload_n 2 (dcd d_L_law_18 4 rfl) rfl ?_
  refine ws_aload_n 0 (dcd d_L_law_18 5 rfl) rfl ?_
  refine ws_iload_n 3 (dcd d_L_law_18 6 rfl) rfl ?_
  refine ws_iconst (v := 1) (dcd d_L_law_18 7 rfl) (by decide) ?_
  refine ws_iadd (dcd d_L_law_18 8 rfl) ?_
  obtain ⟨e3, h⟩ := h
  refine ws_sld (dcd d_L_law_18 9 rfl) e3 ?_
  refine ws_callVI (o := 76) (As := [.int (gx G ((x3 + 1) : Int32).toNatClampNeg)]) (st := []) (la := [(0, .ref 76), (1, .int (gx G ((x3 + 1) : Int32).toNatClampNeg))]) (dcd d_L_law_18 10 rfl) cv_m_on k_L_109 ⟨by decide, by decide⟩ ok_76 rfl (Nat.le_of_ble_eq_true rfl) (Nat.le_of_ble_eq_true rfl) rfl rfl h (fun a4 u4 h => ?_)
  refine ws_pop (dcd d_L_law_18 11 rfl) rfl ?_
  refine ws_goto (tgt := 1742) (dcd d_L_law_18 12 rfl) (by decide) ?_
  exact ws_loc [0, 1, 2, 3] rfl h
theorem sg_L_law_925 {x3 : Int32} (h : (vp_in (x3 + 1) (gn G) ∧ (vp_in (x3 + 2) (gn G) ∧ Ws G D_beside 0 [(0, .ref 2), (1, .int (gx G ((x3 + 1) : Int32).toNatClampNeg)), (2, .int (gx G ((x3 + 2) : Int32).toNatClampNeg))] [] u (RI fun a3 u3 => (vp_in (x3 + 1) (gn G) ∧ (vp_in (x3 + 2) (gn G) ∧ Ws G m_beside 0 [(0, .ref 76), (1, .int (gx G ((x3 + 1) : Int32).toNatClampNeg)), (2, .int (gx G ((x3 + 2) : Int32).toNatClampNeg))] [] u3 (RI fun a6 u6 => Ws G L_law 1742 [(0, .ref 0), (1, .ref 2), (2, .ref 76), (3, .int x3)] [] u6 Q))))))) : Ws G L_law 925 [(0, .ref 0), (1, .ref 2), (2, .ref 76), (3, .int x3)] [] u Q := by
  refine ws_aload_n 1 (dcd d_L_law_18 13 rfl) rfl ?_
  refine ws_aload_n 0 (dcd d_L_law_18 14 rfl) rfl ?_
  refine ws_iload_n 3 (dcd d_L_law_18 15 rfl) rfl ?_
  refine ws_iconst (v := 1) (dcd d_L_law_18 16 rfl) (by decide) ?_
  refine ws_iadd (dcd d_L_law_18 17 rfl) ?_
  obtain ⟨e1, h⟩ := h
  refine ws_sld (dcd d_L_law_18 18 rfl) e1 ?_
  refine ws_aload_n 0 (dcd d_L_law_18 19 rfl) rfl ?_
  refine ws_iload_n 3 (dcd d_L_law_18 20 rfl) rfl ?_
  refine ws_iconst (v := 2) (dcd d_L_law_18 21 rfl) (by decide) ?_
  refine ws_iadd (dcd d_L_law_18 22 rfl) ?_
  obtain ⟨e2, h⟩ := h
  refine ws_sld (dcd d_L_law_18 23 rfl) e2 ?_
  refine ws_callVI (o := 2) (As := [.int (gx G ((x3 + 1) : Int32).toNatClampNeg), .int (gx G ((x3 + 2) : Int32).toNatClampNeg)]) (st := []) (la := [(0, .ref 2), (1, .int (gx G ((x3 + 1) : Int32).toNatClampNeg)), (2, .int (gx G ((x3 + 2) : Int32).toNatClampNeg))]) (dcd d_L_law_18 24 rfl) cv_D_beside k_L_110 ⟨by decide, by decide⟩ ok_2 rfl (Nat.le_of_ble_eq_true rfl) (Nat.le_of_ble_eq_true rfl) rfl rfl h (fun a3 u3 h => ?_)
  refine ws_pop (dcd d_L_law_18 25 rfl) rfl ?_
  refine ws_aload_n 2 (dcd d_L_law_18 26 rfl) rfl ?_
  refine ws_aload_n 0 (dcd d_L_law_18 27 rfl) rfl ?_
  refine ws_iload_n 3 (dcd d_L_law_18 28 rfl) rfl ?_
  refine ws_iconst (v := 1) (dcd d_L_law_18 29 rfl) (by decide) ?_
  refine ws_iadd (dcd d_L_law_19 0 rfl) ?_
  obtain ⟨e4, h⟩ := h
  refine ws_sld (dcd d_L_law_19 1 rfl) e4 ?_
  refine ws_aload_n 0 (dcd d_L_law_19 2 rfl) rfl ?_
  refine ws_iload_n 3 (dcd d_L_law_19 3 rfl) rfl ?_
  refine ws_iconst (v := 2) (dcd d_L_law_19 4 rfl) (by decide) ?_
  refine ws_iadd (dcd d_L_law_19 5 rfl) ?_
  obtain ⟨e5, h⟩ := h
  refine ws_sld (dcd d_L_law_19 6 rfl) e5 ?_
  refine ws_callVI (o := 76) (As := [.int (gx G ((x3 + 1) : Int32).toNatClampNeg), .int (gx G ((x3 + 2) : Int32).toNatClampNeg)]) (st := []) (la := [(0, .ref 76), (1, .int (gx G ((x3 + 1) : Int32).toNatClampNeg)), (2, .int (gx G ((x3 + 2) : Int32).toNatClampNeg))]) (dcd d_L_law_19 7 rfl) cv_m_beside k_L_113 ⟨by decide, by decide⟩ ok_76 rfl (Nat.le_of_ble_eq_true rfl) (Nat.le_of_ble_eq_true rfl) rfl rfl h (fun a6 u6 h => ?_)
  refine ws_pop (dcd d_L_law_19 8 rfl) rfl ?_
  refine ws_goto (tgt := 1742) (dcd d_L_law_19 9 rfl) (by decide) ?_
  exact ws_loc [0, 1, 2, 3] rfl h
theorem sg_L_law_958 {x3 : Int32} (h : (vp_in (x3 + 1) (gn G) ∧ (vp_in (x3 + 2) (gn G) ∧ Ws G D_comes 0 [(0, .ref 2), (1, .int (gx G ((x3 + 1) : Int32).toNatClampNeg)), (2, .int (gx G ((x3 + 2) : Int32).toNatClampNeg))] [] u (RI fun a3 u3 => (vp_in (x3 + 1) (gn G) ∧ (vp_in (x3 + 2) (gn G) ∧ Ws G m_comes 0 [(0, .ref 76), (1, .int (gx G ((x3 + 1) : Int32).toNatClampNeg)), (2, .int (gx G ((x3 + 2) : Int32).toNatClampNeg))] [] u3 (RI fun a6 u6 => Ws G L_law 1742 [(0, .ref 0), (1, .ref 2), (2, .ref 76), (3, .int x3)] [] u6 Q))))))) : Ws G L_law 958 [(0, .ref 0), (1, .ref 2), (2, .ref 76), (3, .int x3)] [] u Q := by
  refine ws_aload_n 1 (dcd d_L_law_19 10 rfl) rfl ?_
  refine ws_aload_n 0 (dcd d_L_law_19 11 rfl) rfl ?_
  refine ws_iload_n 3 (dcd d_L_law_19 12 rfl) rfl ?_
  refine ws_iconst (v := 1) (dcd d_L_law_19 13 rfl) (by decide) ?_
  refine ws_iadd (dcd d_L_law_19 14 rfl) ?_
  obtain ⟨e1, h⟩ := h
  refine ws_sld (dcd d_L_law_19 15 rfl) e1 ?_
  refine ws_aload_n 0 (dcd d_L_law_19 16 rfl) rfl ?_
  refine ws_iload_n 3 (dcd d_L_law_19 17 rfl) rfl ?_
  refine ws_iconst (v := 2) (dcd d_L_law_19 18 rfl) (by decide) ?_
  refine ws_iadd (dcd d_L_law_19 19 rfl) ?_
  obtain ⟨e2, h⟩ := h
  refine ws_sld (dcd d_L_law_19 20 rfl) e2 ?_
  refine ws_callVI (o := 2) (As := [.int (gx G ((x3 + 1) : Int32).toNatClampNeg), .int (gx G ((x3 + 2) : Int32).toNatClampNeg)]) (st := []) (la := [(0, .ref 2), (1, .int (gx G ((x3 + 1) : Int32).toNatClampNeg)), (2, .int (gx G ((x3 + 2) : Int32).toNatClampNeg))]) (dcd d_L_law_19 21 rfl) cv_D_comes k_L_114 ⟨by decide, by decide⟩ ok_2 rfl (Nat.le_of_ble_eq_true rfl) (Nat.le_of_ble_eq_true rfl) rfl rfl h (fun a3 u3 h => ?_)
  refine ws_pop (dcd d_L_law_19 22 rfl) rfl ?_
  refine ws_aload_n 2 (dcd d_L_law_19 23 rfl) rfl ?_
  refine ws_aload_n 0 (dcd d_L_law_19 24 rfl) rfl ?_
  refine ws_iload_n 3 (dcd d_L_law_19 25 rfl) rfl ?_
  refine ws_iconst (v := 1) (dcd d_L_law_19 26 rfl) (by decide) ?_
  refine ws_iadd (dcd d_L_law_19 27 rfl) ?_
  obtain ⟨e4, h⟩ := h
  refine ws_sld (dcd d_L_law_19 28 rfl) e4 ?_
  refine ws_aload_n 0 (dcd d_L_law_19 29 rfl) rfl ?_
  refine ws_iload_n 3 (dcd d_L_law_20 0 rfl) rfl ?_
  refine ws_iconst (v := 2) (dcd d_L_law_20 1 rfl) (by decide) ?_
  refine ws_iadd (dcd d_L_law_20 2 rfl) ?_
  obtain ⟨e5, h⟩ := h
  refine ws_sld (dcd d_L_law_20 3 rfl) e5 ?_
  refine ws_callVI (o := 76) (As := [.int (gx G ((x3 + 1) : Int32).toNatClampNeg), .int (gx G ((x3 + 2) : Int32).toNatClampNeg)]) (st := []) (la := [(0, .ref 76), (1, .int (gx G ((x3 + 1) : Int32).toNatClampNeg)), (2, .int (gx G ((x3 + 2) : Int32).toNatClampNeg))]) (dcd d_L_law_20 4 rfl) cv_m_comes k_L_117 ⟨by decide, by decide⟩ ok_76 rfl (Nat.le_of_ble_eq_true rfl) (Nat.le_of_ble_eq_true rfl) rfl rfl h (fun a6 u6 h => ?_)
  refine ws_pop (dcd d_L_law_20 5 rfl) rfl ?_
  refine ws_goto (tgt := 1742) (dcd d_L_law_20 6 rfl) (by decide) ?_
  exact ws_loc [0, 1, 2, 3] rfl h
theorem sg_L_law_991 {x3 : Int32} (h : (vp_in (x3 + 1) (gn G) ∧ (vp_in (x3 + 2) (gn G) ∧ (vp_in (x3 + 3) (gn G) ∧ Ws G D_meets 0 [(0, .ref 2), (1, .int (gx G ((x3 + 1) : Int32).toNatClampNeg)), (2, .int (gx G ((x3 + 2) : Int32).toNatClampNeg)), (3, .int (gx G ((x3 + 3) : Int32).toNatClampNeg))] [] u (RI fun a4 u4 => (vp_in (x3 + 1) (gn G) ∧ (vp_in (x3 + 2) (gn G) ∧ (vp_in (x3 + 3) (gn G) ∧ Ws G m_meets 0 [(0, .ref 76), (1, .int (gx G ((x3 + 1) : Int32).toNatClampNeg)), (2, .int (gx G ((x3 + 2) : Int32).toNatClampNeg)), (3, .int (gx G ((x3 + 3) : Int32).toNatClampNeg))] [] u4 (RI fun a8 u8 => Ws G L_law 1742 [(0, .ref 0), (1, .ref 2), (2, .ref 76), (3, .int x3)] [] u8 Q))))))))) : Ws G L_law 991 [(0, .ref 0), (1, .ref 2), (2, .ref 76), (3, .int x3)] [] u Q := by
  refine ws_aload_n 1 (dcd d_L_law_20 7 rfl) rfl ?_
  refine ws_aload_n 0 (dcd d_L_law_20 8 rfl) rfl ?_
  refine ws_iload_n 3 (dcd d_L_law_20 9 rfl) rfl ?_
  refine ws_iconst (v := 1) (dcd d_L_law_20 10 rfl) (by decide) ?_
  refine ws_iadd (dcd d_L_law_20 11 rfl) ?_
  obtain ⟨e1, h⟩ := h
  refine ws_sld (dcd d_L_law_20 12 rfl) e1 ?_
  refine ws_aload_n 0 (dcd d_L_law_20 13 rfl) rfl ?_
  refine ws_iload_n 3 (dcd d_L_law_20 14 rfl) rfl ?_
  refine ws_iconst (v := 2) (dcd d_L_law_20 15 rfl) (by decide) ?_
  refine ws_iadd (dcd d_L_law_20 16 rfl) ?_
  obtain ⟨e2, h⟩ := h
  refine ws_sld (dcd d_L_law_20 17 rfl) e2 ?_
  refine ws_aload_n 0 (dcd d_L_law_20 18 rfl) rfl ?_
  refine ws_iload_n 3 (dcd d_L_law_20 19 rfl) rfl ?_
  refine ws_iconst (v := 3) (dcd d_L_law_20 20 rfl) (by decide) ?_
  refine ws_iadd (dcd d_L_law_20 21 rfl) ?_
  obtain ⟨e3, h⟩ := h
  refine ws_sld (dcd d_L_law_20 22 rfl) e3 ?_
  refine ws_callVI (o := 2) (As := [.int (gx G ((x3 + 1) : Int32).toNatClampNeg), .int (gx G ((x3 + 2) : Int32).toNatClampNeg), .int (gx G ((x3 + 3) : Int32).toNatClampNeg)]) (st := []) (la := [(0, .ref 2), (1, .int (gx G ((x3 + 1) : Int32).toNatClampNeg)), (2, .int (gx G ((x3 + 2) : Int32).toNatClampNeg)), (3, .int (gx G ((x3 + 3) : Int32).toNatClampNeg))]) (dcd d_L_law_20 23 rfl) cv_D_meets k_L_118 ⟨by decide, by decide⟩ ok_2 rfl (Nat.le_of_ble_eq_true rfl) (Nat.le_of_ble_eq_true rfl) rfl rfl h (fun a4 u4 h => ?_)
  refine ws_pop (dcd d_L_law_20 24 rfl) rfl ?_
  refine ws_aload_n 2 (dcd d_L_law_20 25 rfl) rfl ?_
  refine ws_aload_n 0 (dcd d_L_law_20 26 rfl) rfl ?_
  refine ws_iload_n 3 (dcd d_L_law_20 27 rfl) rfl ?_
  refine ws_iconst (v := 1) (dcd d_L_law_20 28 rfl) (by decide) ?_
  refine ws_iadd (dcd d_L_law_20 29 rfl) ?_
  obtain ⟨e5, h⟩ := h
  refine ws_sld (dcd d_L_law_21 0 rfl) e5 ?_
  refine ws_aload_n 0 (dcd d_L_law_21 1 rfl) rfl ?_
  refine ws_iload_n 3 (dcd d_L_law_21 2 rfl) rfl ?_
  refine ws_iconst (v := 2) (dcd d_L_law_21 3 rfl) (by decide) ?_
  refine ws_iadd (dcd d_L_law_21 4 rfl) ?_
  obtain ⟨e6, h⟩ := h
  refine ws_sld (dcd d_L_law_21 5 rfl) e6 ?_
  refine ws_aload_n 0 (dcd d_L_law_21 6 rfl) rfl ?_
  refine ws_iload_n 3 (dcd d_L_law_21 7 rfl) rfl ?_
  refine ws_iconst (v := 3) (dcd d_L_law_21 8 rfl) (by decide) ?_
  refine ws_iadd (dcd d_L_law_21 9 rfl) ?_
  obtain ⟨e7, h⟩ := h
  refine ws_sld (dcd d_L_law_21 10 rfl) e7 ?_
  refine ws_callVI (o := 76) (As := [.int (gx G ((x3 + 1) : Int32).toNatClampNeg), .int (gx G ((x3 + 2) : Int32).toNatClampNeg), .int (gx G ((x3 + 3) : Int32).toNatClampNeg)]) (st := []) (la := [(0, .ref 76), (1, .int (gx G ((x3 + 1) : Int32).toNatClampNeg)), (2, .int (gx G ((x3 + 2) : Int32).toNatClampNeg)), (3, .int (gx G ((x3 + 3) : Int32).toNatClampNeg))]) (dcd d_L_law_21 11 rfl) cv_m_meets k_L_121 ⟨by decide, by decide⟩ ok_76 rfl (Nat.le_of_ble_eq_true rfl) (Nat.le_of_ble_eq_true rfl) rfl rfl h (fun a8 u8 h => ?_)
  refine ws_pop (dcd d_L_law_21 12 rfl) rfl ?_
  refine ws_goto (tgt := 1742) (dcd d_L_law_21 13 rfl) (by decide) ?_
  exact ws_loc [0, 1, 2, 3] rfl h
end SEGL
