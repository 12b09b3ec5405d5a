section SEGL
variable {G : pG} {u : pM} {Q : Option Value → pM → Prop}
theorem sg_L_law_1562 {x3 : Int32} (h : (vp_in (x3 + 1) (gn G) ∧ Ws G D_worst 0 [(0, .ref 2), (1, .int (gx G ((x3 + 1) : Int32).toNatClampNeg))] [] u (RI fun a2 u2 => (vp_in (x3 + 1) (gn G) ∧ Ws G m_worst 0 [(0, .ref 76), (1, .int (gx G ((x3 + 1) : Int32).toNatClampNeg))] [] u2 (RI fun a4 u4 => Ws G L_law 1742 [(0, .ref 0), (1, .ref 2), (2, .ref 76), (3, .int x3)] [] u4 Q))))) : Ws G L_law 1562 [(0, .ref 0), (1, .ref 2), (2, .ref 76), (3, .int x3)] [] u Q := by
  refine ws_aload_n 1 (dcd d_L_law_35 26 rfl) rfl ?_
  refine ws_aload_n 0 (dcd d_L_law_35 27 rfl) rfl ?_
  refine ws_iload_n 3 (dcd d_L_law_35 28 rfl) rfl ?_
  refine ws_iconst (v := 1) (dcd d_L_law_35 29 rfl) (by decide) ?_
  refine ws_iadd (dcd d_L_law_36 0 rfl) ?_
  obtain ⟨e1, h⟩ := h
  refine ws_sld (dcd d_L_law_36 1 rfl) e1 ?_
  refine ws_callVI (o := 2) (As := [.int (gx G ((x3 + 1) : Int32).toNatClampNeg)]) (st := []) (la := [(0, .ref 2), (1, .int (gx G ((x3 + 1) : Int32).toNatClampNeg))]) (dcd d_L_law_36 2 rfl) cv_D_worst k_L_187 ⟨by decide, by decide⟩ ok_2 rfl (Nat.le_of_ble_eq_true rfl) (Nat.le_of_ble_eq_true rfl) rfl rfl h (fun a2 u2 h => ?_)
  refine ws_pop (dcd d_L_law_36 3 rfl) rfl ?_
  refine ws_aload_n 2 (dcd d_L_law_36 4 rfl) rfl ?_
  refine ws_aload_n 0 (dcd d_L_law_36 5 rfl) rfl ?_
  refine ws_iload_n 3 (dcd d_L_law_36 6 rfl) rfl ?_
  refine ws_iconst (v := 1) (dcd d_L_law_36 7 rfl) (by decide) ?_
  refine ws_iadd (dcd d_L_law_36 8 rfl) ?_
  obtain ⟨e3, h⟩ := h
  refine ws_sld (dcd d_L_law_36 9 rfl) e3 ?_
  refine ws_callVI (o := 76) (As := [.int (gx G ((x3 + 1) : Int32).toNatClampNeg)]) (st := []) (la := [(0, .ref 76), (1, .int (gx G ((x3 + 1) : Int32).toNatClampNeg))]) (dcd d_L_law_36 10 rfl) cv_m_worst k_L_190 ⟨by decide, by decide⟩ ok_76 rfl (Nat.le_of_ble_eq_true rfl) (Nat.le_of_ble_eq_true rfl) rfl rfl h (fun a4 u4 h => ?_)
  refine ws_pop (dcd d_L_law_36 11 rfl) rfl ?_
  refine ws_goto (tgt := 1742) (dcd d_L_law_36 12 rfl) (by decide) ?_
  exact ws_loc [0, 1, 2, 3] rfl h
theorem sg_L_law_1585 {x3 : Int32} (h : (vp_in (x3 + 1) (gn G) ∧ Ws G D_image 0 [(0, .ref 2), (1, .int (gx G ((x3 + 1) : Int32).toNatClampNeg))] [] u (RI fun a2 u2 => (vp_in (x3 + 1) (gn G) ∧ Ws G m_image 0 [(0, .ref 76), (1, .int (gx G ((x3 + 1) : Int32).toNatClampNeg))] [] u2 (RI fun a4 u4 => Ws G L_law 1742 [(0, .ref 0), (1, .ref 2), (2, .ref 76), (3, .int x3)] [] u4 Q))))) : Ws G L_law 1585 [(0, .ref 0), (1, .ref 2), (2, .ref 76), (3, .int x3)] [] u Q := by
  refine ws_aload_n 1 (dcd d_L_law_36 13 rfl) rfl ?_
  refine ws_aload_n 0 (dcd d_L_law_36 14 rfl) rfl ?_
  refine ws_iload_n 3 (dcd d_L_law_36 15 rfl) rfl ?_
  refine ws_iconst (v := 1) (dcd d_L_law_36 16 rfl) (by decide) ?_
  refine ws_iadd (dcd d_L_law_36 17 rfl) ?_
  obtain ⟨e1, h⟩ := h
  refine ws_sld (dcd d_L_law_36 18 rfl) e1 ?_
  refine ws_callVI (o := 2) (As := [.int (gx G ((x3 + 1) : Int32).toNatClampNeg)]) (st := []) (la := [(0, .ref 2), (1, .int (gx G ((x3 + 1) : Int32).toNatClampNeg))]) (dcd d_L_law_36 19 rfl) cv_D_image k_L_191 ⟨by decide, by decide⟩ ok_2 rfl (Nat.le_of_ble_eq_true rfl) (Nat.le_of_ble_eq_true rfl) rfl rfl h (fun a2 u2 h => ?_)
  refine ws_pop (dcd d_L_law_36 20 rfl) rfl ?_
  refine ws_aload_n 2 (dcd d_L_law_36 21 rfl) rfl ?_
  refine ws_aload_n 0 (dcd d_L_law_36 22 rfl) rfl ?_
  refine ws_iload_n 3 (dcd d_L_law_36 23 rfl) rfl ?_
  refine ws_iconst (v := 1) (dcd d_L_law_36 24 rfl) (by decide) ?_
  refine ws_iadd (dcd d_L_law_36 25 rfl) ?_
  obtain ⟨e3, h⟩ := h
  refine ws_sld (dcd d_L_law_36 26 rfl) e3 ?_
  refine ws_callVI (o := 76) (As := [.int (gx G ((x3 + 1) : Int32).toNatClampNeg)]) (st := []) (la := [(0, .ref 76), (1, .int (gx G ((x3 + 1) : Int32).toNatClampNeg))]) (dcd d_L_law_36 27 rfl) cv_m_image k_L_194 ⟨by decide, by decide⟩ ok_76 rfl (Nat.le_of_ble_eq_true rfl) (Nat.le_of_ble_eq_true rfl) rfl rfl h (fun a4 u4 h => ?_)
  refine ws_pop (dcd d_L_law_36 28 rfl) rfl ?_
  refine ws_goto (tgt := 1742) (dcd d_L_law_36 29 rfl) (by decide) ?_
  exact ws_loc [0, 1, 2, 3] rfl h
theorem sg_L_law_1608 {x3 : Int32} (h : (vp_in (x3 + 1) (gn G) ∧ Ws G D_gone 0 [(0, .ref 2), (1, .int (gx G ((x3 + 1) : Int32).toNatClampNeg))] [] u (RI fun a2 u2 => (vp_in (x3 + 1) (gn G) ∧ Ws G m_gone 0 [(0, .ref 76), (1, .int (gx G ((x3 + 1) : Int32).toNatClampNeg))] [] u2 (RI fun a4 u4 => Ws G L_law 1742 [(0, .ref 0), (1, .ref 2), (2, .ref 76), (3, .int x3)] [] u4 Q))))) : Ws G L_law 1608 [(0, .ref 0), (1, .ref 2), (2, .ref 76), (3, .int x3)] [] u Q := by
  refine ws_aload_n 1 (dcd d_L_law_37 0 rfl) rfl ?_
  refine ws_aload_n 0 (dcd d_L_law_37 1 rfl) rfl ?_
  refine ws_iload_n 3 (dcd d_L_law_37 2 rfl) rfl ?_
  refine ws_iconst (v := 1) (dcd d_L_law_37 3 rfl) (by decide) ?_
  refine ws_iadd (dcd d_L_law_37 4 rfl) ?_
  obtain ⟨e1, h⟩ := h
  refine ws_sld (dcd d_L_law_37 5 rfl) e1 ?_
  refine ws_callVI (o := 2) (As := [.int (gx G ((x3 + 1) : Int32).toNatClampNeg)]) (st := []) (la := [(0, .ref 2), (1, .int (gx G ((x3 + 1) : Int32).toNatClampNeg))]) (dcd d_L_law_37 6 rfl) cv_D_gone k_L_195 ⟨by decide, by decide⟩ ok_2 rfl (Nat.le_of_ble_eq_true rfl) (Nat.le_of_ble_eq_true rfl) rfl rfl h (fun a2 u2 h => ?_)
  refine ws_pop (dcd d_L_law_37 7 rfl) rfl ?_
  refine ws_aload_n 2 (dcd d_L_law_37 8 rfl) rfl ?_
  refine ws_aload_n 0 (dcd d_L_law_37 9 rfl) rfl ?_
  refine ws_iload_n 3 (dcd d_L_law_37 10 rfl) rfl ?_
  refine ws_iconst (v := 1) (dcd d_L_law_37 11 rfl) (by decide) ?_
  refine ws_iadd (dcd d_L_law_37 12 rfl) ?_
  obtain ⟨e3, h⟩ := h
  refine ws_sld (dcd d_L_law_37 13 rfl) e3 ?_
  refine ws_callVI (o := 76) (As := [.int (gx G ((x3 + 1) : Int32).toNatClampNeg)]) (st := []) (la := [(0, .ref 76), (1, .int (gx G ((x3 + 1) : Int32).toNatClampNeg))]) (dcd d_L_law_37 14 rfl) cv_m_gone k_L_198 ⟨by decide, by decide⟩ ok_76 rfl (Nat.le_of_ble_eq_true rfl) (Nat.le_of_ble_eq_true rfl) rfl rfl h (fun a4 u4 h => ?_)
  refine ws_pop (dcd d_L_law_37 15 rfl) rfl ?_
  refine ws_goto (tgt := 1742) (dcd d_L_law_37 16 rfl) (by decide) ?_
  exact ws_loc [0, 1, 2, 3] rfl h
theorem sg_L_law_1631 {x3 : Int32} (h : Ws G D_asked 0 [(0, .ref 2)] [] u (RI fun a1 u1 => Ws G m_asked 0 [(0, .ref 76)] [] u1 (RI fun a2 u2 => Ws G L_law 1742 [(0, .ref 0), (1, .ref 2), (2, .ref 76), (3, .int x3)] [] u2 Q))) : Ws G L_law 1631 [(0, .ref 0), (1, .ref 2), (2, .ref 76), (3, .int x3)] [] u Q := by
  refine ws_aload_n 1 (dcd d_L_law_37 17 rfl) rfl ?_
  refine ws_callVI (o := 2) (As := []) (st := []) (la := [(0, .ref 2)]) (dcd d_L_law_37 18 rfl) cv_D_asked k_L_199 ⟨by decide, by decide⟩ ok_2 rfl (Nat.le_of_ble_eq_true rfl) (Nat.le_of_ble_eq_true rfl) rfl rfl h (fun a1 u1 h => ?_)
  refine ws_pop (dcd d_L_law_37 19 rfl) rfl ?_
  refine ws_aload_n 2 (dcd d_L_law_37 20 rfl) rfl ?_
  refine ws_callVI (o := 76) (As := []) (st := []) (la := [(0, .ref 76)]) (dcd d_L_law_37 21 rfl) cv_m_asked k_L_202 ⟨by decide, by decide⟩ ok_76 rfl (Nat.le_of_ble_eq_true rfl) (Nat.le_of_ble_eq_true rfl) rfl rfl h (fun a2 u2 h => ?_)
  refine ws_pop (dcd d_L_law_37 22 rfl) rfl ?_
  refine ws_goto (tgt := 1742) (dcd d_L_law_37 23 rfl) (by decide) ?_
  exact ws_loc [0, 1, 2, 3] rfl h
end SEGL
