section SEGL
variable {G : pG} {u : pM} {Q : Option Value → pM → Prop}
theorem sg_L_law_708 {x3 : Int32} (h : (vp_in (x3 + 1) (gn G) ∧ Ws G D_go 0 [(0, .ref 2), (1, .int (gx G ((x3 + 1) : Int32).toNatClampNeg))] [] u (RI fun a2 u2 => (vp_in (x3 + 1) (gn G) ∧ Ws G m_go 0 [(0, .ref 76), (1, .int (gx G ((x3 + 1) : Int32).toNatClampNeg))] [] u2 (RI fun a4 u4 => Ws G L_law 1742 [(0, .ref 0), (1, .ref 2), (2, .ref 76), (3, .int x3)] [] u4 Q))))) : Ws G L_law 708 [(0, .ref 0), (1, .ref 2), (2, .ref 76), (3, .int x3)] [] u Q := by
  refine ws_aload_n 1 (dcd d_L_law_13 0 rfl) rfl ?_
  refine ws_aload_n 0 (dcd d_L_law_13 1 rfl) rfl ?_
  refine ws_iload_n 3 (dcd d_L_law_13 2 rfl) rfl ?_
  refine ws_iconst (v := 1) (dcd d_L_law_13 3 rfl) (by decide) ?_
  refine ws_iadd (dcd d_L_law_13 4 rfl) ?_
  obtain ⟨e1, h⟩ := h
  refine ws_sld (dcd d_L_law_13 5 rfl) e1 ?_
  refine ws_callVI (o := 2) (As := [.int (gx G ((x3 + 1) : Int32).toNatClampNeg)]) (st := []) (la := [(0, .ref 2), (1, .int (gx G ((x3 + 1) : Int32).toNatClampNeg))]) (dcd d_L_law_13 6 rfl) cv_D_go k_L_73 ⟨by decide, by decide⟩ ok_2 rfl (Nat.le_of_ble_eq_true rfl) (Nat.le_of_ble_eq_true rfl) rfl rfl h (fun a2 u2 h => ?_)
  refine ws_pop (dcd d_L_law_13 7 rfl) rfl ?_
  refine ws_aload_n 2 (dcd d_L_law_13 8 rfl) rfl ?_
  refine ws_aload_n 0 (dcd d_L_law_13 9 rfl) rfl ?_
  refine ws_iload_n 3 (dcd d_L_law_13 10 rfl) rfl ?_
  refine ws_iconst (v := 1) (dcd d_L_law_13 11 rfl) (by decide) ?_
  refine ws_iadd (dcd d_L_law_13 12 rfl) ?_
  obtain ⟨e3, h⟩ := h
  refine ws_sld (dcd d_L_law_13 13 rfl) e3 ?_
  refine ws_callVI (o := 76) (As := [.int (gx G ((x3 + 1) : Int32).toNatClampNeg)]) (st := []) (la := [(0, .ref 76), (1, .int (gx G ((x3 + 1) : Int32).toNatClampNeg))]) (dcd d_L_law_13 14 rfl) cv_m_go k_L_76 ⟨by decide, by decide⟩ ok_76 rfl (Nat.le_of_ble_eq_true rfl) (Nat.le_of_ble_eq_true rfl) rfl rfl h (fun a4 u4 h => ?_)
  refine ws_pop (dcd d_L_law_13 15 rfl) rfl ?_
  refine ws_goto (tgt := 1742) (dcd d_L_law_13 16 rfl) (by decide) ?_
  exact ws_loc [0, 1, 2, 3] rfl h
theorem sg_L_law_731 {x3 : Int32} (h : (vp_in (x3 + 1) (gn G) ∧ Ws G D_doors 0 [(0, .ref 2), (1, .int (gx G ((x3 + 1) : Int32).toNatClampNeg))] [] u (RI fun a2 u2 => (vp_in (x3 + 1) (gn G) ∧ Ws G m_doors 0 [(0, .ref 76), (1, .int (gx G ((x3 + 1) : Int32).toNatClampNeg))] [] u2 (RI fun a4 u4 => Ws G L_law 1742 [(0, .ref 0), (1, .ref 2), (2, .ref 76), (3, .int x3)] [] u4 Q))))) : Ws G L_law 731 [(0, .ref 0), (1, .ref 2), (2, .ref 76), (3, .int x3)] [] u Q := by
  refine ws_aload_n 1 (dcd d_L_law_13 17 rfl) rfl ?_
  refine ws_aload_n 0 (dcd d_L_law_13 18 rfl) rfl ?_
  refine ws_iload_n 3 (dcd d_L_law_13 19 rfl) rfl ?_
  refine ws_iconst (v := 1) (dcd d_L_law_13 20 rfl) (by decide) ?_
  refine ws_iadd (dcd d_L_law_13 21 rfl) ?_
  obtain ⟨e1, h⟩ := h
  refine ws_sld (dcd d_L_law_13 22 rfl) e1 ?_
  refine ws_callVI (o := 2) (As := [.int (gx G ((x3 + 1) : Int32).toNatClampNeg)]) (st := []) (la := [(0, .ref 2), (1, .int (gx G ((x3 + 1) : Int32).toNatClampNeg))]) (dcd d_L_law_13 23 rfl) cv_D_doors k_L_77 ⟨by decide, by decide⟩ ok_2 rfl (Nat.le_of_ble_eq_true rfl) (Nat.le_of_ble_eq_true rfl) rfl rfl h (fun a2 u2 h => ?_)
  refine ws_pop (dcd d_L_law_13 24 rfl) rfl ?_
  refine ws_aload_n 2 (dcd d_L_law_13 25 rfl) rfl ?_
  refine ws_aload_n 0 (dcd d_L_law_13 26 rfl) rfl ?_
  refine ws_iload_n 3 (dcd d_L_law_13 27 rfl) rfl ?_
  refine ws_iconst (v := 1) (dcd d_L_law_13 28 rfl) (by decide) ?_
  refine ws_iadd (dcd d_L_law_13 29 rfl) ?_
  obtain ⟨e3, h⟩ := h
  refine ws_sld (dcd d_L_law_14 0 rfl) e3 ?_
  refine ws_callVI (o := 76) (As := [.int (gx G ((x3 + 1) : Int32).toNatClampNeg)]) (st := []) (la := [(0, .ref 76), (1, .int (gx G ((x3 + 1) : Int32).toNatClampNeg))]) (dcd d_L_law_14 1 rfl) cv_m_doors k_L_80 ⟨by decide, by decide⟩ ok_76 rfl (Nat.le_of_ble_eq_true rfl) (Nat.le_of_ble_eq_true rfl) rfl rfl h (fun a4 u4 h => ?_)
  refine ws_pop (dcd d_L_law_14 2 rfl) rfl ?_
  refine ws_goto (tgt := 1742) (dcd d_L_law_14 3 rfl) (by decide) ?_
  exact ws_loc [0, 1, 2, 3] rfl h
theorem sg_L_law_754 {x3 : Int32} (h : (vp_in (x3 + 1) (gn G) ∧ Ws G D_who 0 [(0, .ref 2), (1, .int (gx G ((x3 + 1) : Int32).toNatClampNeg))] [] u (RI fun a2 u2 => (vp_in (x3 + 1) (gn G) ∧ Ws G m_who 0 [(0, .ref 76), (1, .int (gx G ((x3 + 1) : Int32).toNatClampNeg))] [] u2 (RI fun a4 u4 => Ws G L_law 1742 [(0, .ref 0), (1, .ref 2), (2, .ref 76), (3, .int x3)] [] u4 Q))))) : Ws G L_law 754 [(0, .ref 0), (1, .ref 2), (2, .ref 76), (3, .int x3)] [] u Q := by
  refine ws_aload_n 1 (dcd d_L_law_14 4 rfl) rfl ?_
  refine ws_aload_n 0 (dcd d_L_law_14 5 rfl) rfl ?_
  refine ws_iload_n 3 (dcd d_L_law_14 6 rfl) rfl ?_
  refine ws_iconst (v := 1) (dcd d_L_law_14 7 rfl) (by decide) ?_
  refine ws_iadd (dcd d_L_law_14 8 rfl) ?_
  obtain ⟨e1, h⟩ := h
  refine ws_sld (dcd d_L_law_14 9 rfl) e1 ?_
  refine ws_callVI (o := 2) (As := [.int (gx G ((x3 + 1) : Int32).toNatClampNeg)]) (st := []) (la := [(0, .ref 2), (1, .int (gx G ((x3 + 1) : Int32).toNatClampNeg))]) (dcd d_L_law_14 10 rfl) cv_D_who k_L_81 ⟨by decide, by decide⟩ ok_2 rfl (Nat.le_of_ble_eq_true rfl) (Nat.le_of_ble_eq_true rfl) rfl rfl h (fun a2 u2 h => ?_)
  refine ws_pop (dcd d_L_law_14 11 rfl) rfl ?_
  refine ws_aload_n 2 (dcd d_L_law_14 12 rfl) rfl ?_
  refine ws_aload_n 0 (dcd d_L_law_14 13 rfl) rfl ?_
  refine ws_iload_n 3 (dcd d_L_law_14 14 rfl) rfl ?_
  refine ws_iconst (v := 1) (dcd d_L_law_14 15 rfl) (by decide) ?_
  refine ws_iadd (dcd d_L_law_14 16 rfl) ?_
  obtain ⟨e3, h⟩ := h
  refine ws_sld (dcd d_L_law_14 17 rfl) e3 ?_
  refine ws_callVI (o := 76) (As := [.int (gx G ((x3 + 1) : Int32).toNatClampNeg)]) (st := []) (la := [(0, .ref 76), (1, .int (gx G ((x3 + 1) : Int32).toNatClampNeg))]) (dcd d_L_law_14 18 rfl) cv_m_who k_L_84 ⟨by decide, by decide⟩ ok_76 rfl (Nat.le_of_ble_eq_true rfl) (Nat.le_of_ble_eq_true rfl) rfl rfl h (fun a4 u4 h => ?_)
  refine ws_pop (dcd d_L_law_14 19 rfl) rfl ?_
  refine ws_goto (tgt := 1742) (dcd d_L_law_14 20 rfl) (by decide) ?_
  exact ws_loc [0, 1, 2, 3] rfl h
theorem sg_L_law_777 {x3 : Int32} (h : (vp_in (x3 + 1) (gn G) ∧ Ws G D_wants 0 [(0, .ref 2), (1, .int (gx G ((x3 + 1) : Int32).toNatClampNeg))] [] u (RI fun a2 u2 => (vp_in (x3 + 1) (gn G) ∧ Ws G m_wants 0 [(0, .ref 76), (1, .int (gx G ((x3 + 1) : Int32).toNatClampNeg))] [] u2 (RI fun a4 u4 => Ws G L_law 1742 [(0, .ref 0), (1, .ref 2), (2, .ref 76), (3, .int x3)] [] u4 Q))))) : Ws G L_law 777 [(0, .ref 0), (1, .ref 2), (2, .ref 76), (3, .int x3)] [] u Q := by
  refine ws_aload_n 1 (dcd d_L_law_14 21 rfl) rfl ?_
  refine ws_aload_n 0 (dcd d_L_law_14 22 rfl) rfl ?_
  refine ws_iload_n 3 (dcd d_L_law_14 23 rfl) rfl ?_
  refine ws_iconst (v := 1) (dcd d_L_law_14 24 rfl) (by decide) ?_
  refine ws_iadd (dcd d_L_law_14 25 rfl) ?_
  obtain ⟨e1, h⟩ := h
  refine ws_sld (dcd d_L_law_14 26 rfl) e1 ?_
  refine ws_callVI (o := 2) (As := [.int (gx G ((x3 + 1) : Int32).toNatClampNeg)]) (st := []) (la := [(0, .ref 2), (1, .int (gx G ((x3 + 1) : Int32).toNatClampNeg))]) (dcd d_L_law_14 27 rfl) cv_D_wants k_L_85 ⟨by decide, by decide⟩ ok_2 rfl (Nat.le_of_ble_eq_true rfl) (Nat.le_of_ble_eq_true rfl) rfl rfl h (fun a2 u2 h => ?_)
  refine ws_pop (dcd d_L_law_14 28 rfl) rfl ?_
  refine ws_aload_n 2 (dcd d_L_law_14 29 rfl) rfl ?_
  refine ws_aload_n 0 (dcd d_L_law_15 0 rfl) rfl ?_
  refine ws_iload_n 3 (dcd d_L_law_15 1 rfl) rfl ?_
  refine ws_iconst (v := 1) (dcd d_L_law_15 2 rfl) (by decide) ?_
  refine ws_iadd (dcd d_L_law_15 3 rfl) ?_
  obtain ⟨e3, h⟩ := h
  refine ws_sld (dcd d_L_law_15 4 rfl) e3 ?_
  refine ws_callVI (o := 76) (As := [.int (gx G ((x3 + 1) : Int32).toNatClampNeg)]) (st := []) (la := [(0, .ref 76), (1, .int (gx G ((x3 + 1) : Int32).toNatClampNeg))]) (dcd d_L_law_15 5 rfl) cv_m_wants k_L_88 ⟨by decide, by decide⟩ ok_76 rfl (Nat.le_of_ble_eq_true rfl) (Nat.le_of_ble_eq_true rfl) rfl rfl h (fun a4 u4 h => ?_)
  refine ws_pop (dcd d_L_law_15 6 rfl) rfl ?_
  refine ws_goto (tgt := 1742) (dcd d_L_law_15 7 rfl) (by decide) ?_
  exact ws_loc [0, 1, 2, 3] rfl h
end SEGL
