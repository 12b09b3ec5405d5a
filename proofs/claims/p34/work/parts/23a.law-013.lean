section SEGL
variable {G : pG} {u : pM} {Q : Option Value → pM → Prop}
theorem sg_L_law_1706 {x3 : Int32} (h : (vp_in (x3 + 1) (gn G) ∧ Ws G D_findings 0 [(0, .ref 2), (1, .int (gx G ((x3 + 1) : Int32).toNatClampNeg))] [] u (RI fun a2 u2 => (vp_in (x3 + 1) (gn G) ∧ Ws G m_findings 0 [(0, .ref 76), (1, .int (gx G ((x3 + 1) : Int32).toNatClampNeg))] [] u2 (RI fun a4 u4 => Ws G L_law 1742 [(0, .ref 0), (1, .ref 2), (2, .ref 76), (3, .int x3)] [] u4 Q))))) : Ws G L_law 1706 [(0, .ref 0), (1, .ref 2), (2, .ref 76), (3, .int x3)] [] u Q := by
  refine ws_aload_n 1 (dcd d_L_law_39 2 rfl) rfl ?_
  refine ws_aload_n 0 (dcd d_L_law_39 3 rfl) rfl ?_
  refine ws_iload_n 3 (dcd d_L_law_39 4 rfl) rfl ?_
  refine ws_iconst (v := 1) (dcd d_L_law_39 5 rfl) (by decide) ?_
  refine ws_iadd (dcd d_L_law_39 6 rfl) ?_
  obtain ⟨e1, h⟩ := h
  refine ws_sld (dcd d_L_law_39 7 rfl) e1 ?_
  refine ws_callVI (o := 2) (As := [.int (gx G ((x3 + 1) : Int32).toNatClampNeg)]) (st := []) (la := [(0, .ref 2), (1, .int (gx G ((x3 + 1) : Int32).toNatClampNeg))]) (dcd d_L_law_39 8 rfl) cv_D_findings k_L_220 ⟨by decide, by decide⟩ ok_2 rfl (Nat.le_of_ble_eq_true rfl) (Nat.le_of_ble_eq_true rfl) rfl rfl h (fun a2 u2 h => ?_)
  refine ws_pop (dcd d_L_law_39 9 rfl) rfl ?_
  refine ws_aload_n 2 (dcd d_L_law_39 10 rfl) rfl ?_
  refine ws_aload_n 0 (dcd d_L_law_39 11 rfl) rfl ?_
  refine ws_iload_n 3 (dcd d_L_law_39 12 rfl) rfl ?_
  refine ws_iconst (v := 1) (dcd d_L_law_39 13 rfl) (by decide) ?_
  refine ws_iadd (dcd d_L_law_39 14 rfl) ?_
  obtain ⟨e3, h⟩ := h
  refine ws_sld (dcd d_L_law_39 15 rfl) e3 ?_
  refine ws_callVI (o := 76) (As := [.int (gx G ((x3 + 1) : Int32).toNatClampNeg)]) (st := []) (la := [(0, .ref 76), (1, .int (gx G ((x3 + 1) : Int32).toNatClampNeg))]) (dcd d_L_law_39 16 rfl) cv_m_findings k_L_223 ⟨by decide, by decide⟩ ok_76 rfl (Nat.le_of_ble_eq_true rfl) (Nat.le_of_ble_eq_true rfl) rfl rfl h (fun a4 u4 h => ?_)
  refine ws_pop (dcd d_L_law_39 17 rfl) rfl ?_
  refine ws_goto (tgt := 1742) (dcd d_L_law_39 18 rfl) (by decide) ?_
  exact ws_loc [0, 1, 2, 3] rfl h
theorem sg_L_law_1729 {x3 : Int32} (h : Ws G D_digest 0 [(0, .ref 2)] [] u (RJ fun a1 u1 => Ws G m_digest 0 [(0, .ref 76)] [] u1 (RJ fun a2 u2 => Ws G L_law 1742 [(0, .ref 0), (1, .ref 2), (2, .ref 76), (3, .int x3)] [] u2 Q))) : Ws G L_law 1729 [(0, .ref 0), (1, .ref 2), (2, .ref 76), (3, .int x3)] [] u Q := by
  refine ws_aload_n 1 (dcd d_L_law_39 19 rfl) rfl ?_
  refine ws_callVJ (o := 2) (As := []) (st := []) (la := [(0, .ref 2)]) (dcd d_L_law_39 20 rfl) cv_D_digest k_L_224 ⟨by decide, by decide⟩ ok_2 rfl (Nat.le_of_ble_eq_true rfl) (Nat.le_of_ble_eq_true rfl) rfl rfl h (fun a1 u1 h => ?_)
  refine ws_pop2 (dcd d_L_law_39 21 rfl) rfl ?_
  refine ws_aload_n 2 (dcd d_L_law_39 22 rfl) rfl ?_
  refine ws_callVJ (o := 76) (As := []) (st := []) (la := [(0, .ref 76)]) (dcd d_L_law_39 23 rfl) cv_m_digest k_L_227 ⟨by decide, by decide⟩ ok_76 rfl (Nat.le_of_ble_eq_true rfl) (Nat.le_of_ble_eq_true rfl) rfl rfl h (fun a2 u2 h => ?_)
  refine ws_pop2 (dcd d_L_law_39 24 rfl) rfl ?_
  refine ws_goto (tgt := 1742) (dcd d_L_law_39 25 rfl) (by decide) ?_
  exact ws_loc [0, 1, 2, 3] rfl h
end SEGL
