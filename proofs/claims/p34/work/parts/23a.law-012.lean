section SEGL
variable {G : pG} {u : pM} {Q : Option Value → pM → Prop}
theorem sg_L_law_1644 {x3 : Int32} (h : Ws G D_upper 0 [(0, .ref 2)] [] u (RJ fun a1 u1 => Ws G m_upper 0 [(0, .ref 76)] [] u1 (RJ fun a2 u2 => Ws G L_law 1742 [(0, .ref 0), (1, .ref 2), (2, .ref 76), (3, .int x3)] [] u2 Q))) : Ws G L_law 1644 [(0, .ref 0), (1, .ref 2), (2, .ref 76), (3, .int x3)] [] u Q := by
  refine ws_aload_n 1 (dcd d_L_law_37 24 rfl) rfl ?_
  refine ws_callVJ (o := 2) (As := []) (st := []) (la := [(0, .ref 2)]) (dcd d_L_law_37 25 rfl) cv_D_upper k_L_203 ⟨by decide, by decide⟩ ok_2 rfl (Nat.le_of_ble_eq_true rfl) (Nat.le_of_ble_eq_true rfl) rfl rfl h (fun a1 u1 h => ?_)
  refine ws_pop2 (dcd d_L_law_37 26 rfl) rfl ?_
  refine ws_aload_n 2 (dcd d_L_law_37 27 rfl) rfl ?_
  refine ws_callVJ (o := 76) (As := []) (st := []) (la := [(0, .ref 76)]) (dcd d_L_law_37 28 rfl) cv_m_upper k_L_207 ⟨by decide, by decide⟩ ok_76 rfl (Nat.le_of_ble_eq_true rfl) (Nat.le_of_ble_eq_true rfl) rfl rfl h (fun a2 u2 h => ?_)
  refine ws_pop2 (dcd d_L_law_37 29 rfl) rfl ?_
  refine ws_goto (tgt := 1742) (dcd d_L_law_38 0 rfl) (by decide) ?_
  exact ws_loc [0, 1, 2, 3] rfl h
theorem sg_L_law_1657 {x3 : Int32} (h : Ws G D_lower 0 [(0, .ref 2)] [] u (RJ fun a1 u1 => Ws G m_lower 0 [(0, .ref 76)] [] u1 (RJ fun a2 u2 => Ws G L_law 1742 [(0, .ref 0), (1, .ref 2), (2, .ref 76), (3, .int x3)] [] u2 Q))) : Ws G L_law 1657 [(0, .ref 0), (1, .ref 2), (2, .ref 76), (3, .int x3)] [] u Q := by
  refine ws_aload_n 1 (dcd d_L_law_38 1 rfl) rfl ?_
  refine ws_callVJ (o := 2) (As := []) (st := []) (la := [(0, .ref 2)]) (dcd d_L_law_38 2 rfl) cv_D_lower k_L_208 ⟨by decide, by decide⟩ ok_2 rfl (Nat.le_of_ble_eq_true rfl) (Nat.le_of_ble_eq_true rfl) rfl rfl h (fun a1 u1 h => ?_)
  refine ws_pop2 (dcd d_L_law_38 3 rfl) rfl ?_
  refine ws_aload_n 2 (dcd d_L_law_38 4 rfl) rfl ?_
  refine ws_callVJ (o := 76) (As := []) (st := []) (la := [(0, .ref 76)]) (dcd d_L_law_38 5 rfl) cv_m_lower k_L_211 ⟨by decide, by decide⟩ ok_76 rfl (Nat.le_of_ble_eq_true rfl) (Nat.le_of_ble_eq_true rfl) rfl rfl h (fun a2 u2 h => ?_)
  refine ws_pop2 (dcd d_L_law_38 6 rfl) rfl ?_
  refine ws_goto (tgt := 1742) (dcd d_L_law_38 7 rfl) (by decide) ?_
  exact ws_loc [0, 1, 2, 3] rfl h
theorem sg_L_law_1670 {x3 : Int32} (h : (vp_in (x3 + 1) (gn G) ∧ Ws G D_count 0 [(0, .ref 2), (1, .int (gx G ((x3 + 1) : Int32).toNatClampNeg))] [] u (RI fun a2 u2 => (vp_in (x3 + 1) (gn G) ∧ Ws G m_count 0 [(0, .ref 76), (1, .int (gx G ((x3 + 1) : Int32).toNatClampNeg))] [] u2 (RI fun a4 u4 => Ws G L_law 1742 [(0, .ref 0), (1, .ref 2), (2, .ref 76), (3, .int x3)] [] u4 Q))))) : Ws G L_law 1670 [(0, .ref 0), (1, .ref 2), (2, .ref 76), (3, .int x3)] [] u Q := by
  refine ws_aload_n 1 (dcd d_L_law_38 8 rfl) rfl ?_
  refine ws_aload_n 0 (dcd d_L_law_38 9 rfl) rfl ?_
  refine ws_iload_n 3 (dcd d_L_law_38 10 rfl) rfl ?_
  refine ws_iconst (v := 1) (dcd d_L_law_38 11 rfl) (by decide) ?_
  refine ws_iadd (dcd d_L_law_38 12 rfl) ?_
  obtain ⟨e1, h⟩ := h
  refine ws_sld (dcd d_L_law_38 13 rfl) e1 ?_
  refine ws_callVI (o := 2) (As := [.int (gx G ((x3 + 1) : Int32).toNatClampNeg)]) (st := []) (la := [(0, .ref 2), (1, .int (gx G ((x3 + 1) : Int32).toNatClampNeg))]) (dcd d_L_law_38 14 rfl) cv_D_count k_L_212 ⟨by decide, by decide⟩ ok_2 rfl (Nat.le_of_ble_eq_true rfl) (Nat.le_of_ble_eq_true rfl) rfl rfl h (fun a2 u2 h => ?_)
  refine ws_pop (dcd d_L_law_38 15 rfl) rfl ?_
  refine ws_aload_n 2 (dcd d_L_law_38 16 rfl) rfl ?_
  refine ws_aload_n 0 (dcd d_L_law_38 17 rfl) rfl ?_
  refine ws_iload_n 3 (dcd d_L_law_38 18 rfl) rfl ?_
  refine ws_iconst (v := 1) (dcd d_L_law_38 19 rfl) (by decide) ?_
  refine ws_iadd (dcd d_L_law_38 20 rfl) ?_
  obtain ⟨e3, h⟩ := h
  refine ws_sld (dcd d_L_law_38 21 rfl) e3 ?_
  refine ws_callVI (o := 76) (As := [.int (gx G ((x3 + 1) : Int32).toNatClampNeg)]) (st := []) (la := [(0, .ref 76), (1, .int (gx G ((x3 + 1) : Int32).toNatClampNeg))]) (dcd d_L_law_38 22 rfl) cv_m_count k_L_215 ⟨by decide, by decide⟩ ok_76 rfl (Nat.le_of_ble_eq_true rfl) (Nat.le_of_ble_eq_true rfl) rfl rfl h (fun a4 u4 h => ?_)
  refine ws_pop (dcd d_L_law_38 23 rfl) rfl ?_
  refine ws_goto (tgt := 1742) (dcd d_L_law_38 24 rfl) (by decide) ?_
  exact ws_loc [0, 1, 2, 3] rfl h
theorem sg_L_law_1693 {x3 : Int32} (h : Ws G D_finding 0 [(0, .ref 2)] [] u (RI fun a1 u1 => Ws G m_finding 0 [(0, .ref 76)] [] u1 (RI fun a2 u2 => Ws G L_law 1742 [(0, .ref 0), (1, .ref 2), (2, .ref 76), (3, .int x3)] [] u2 Q))) : Ws G L_law 1693 [(0, .ref 0), (1, .ref 2), (2, .ref 76), (3, .int x3)] [] u Q := by
  refine ws_aload_n 1 (dcd d_L_law_38 25 rfl) rfl ?_
  refine ws_callVI (o := 2) (As := []) (st := []) (la := [(0, .ref 2)]) (dcd d_L_law_38 26 rfl) cv_D_finding k_L_216 ⟨by decide, by decide⟩ ok_2 rfl (Nat.le_of_ble_eq_true rfl) (Nat.le_of_ble_eq_true rfl) rfl rfl h (fun a1 u1 h => ?_)
  refine ws_pop (dcd d_L_law_38 27 rfl) rfl ?_
  refine ws_aload_n 2 (dcd d_L_law_38 28 rfl) rfl ?_
  refine ws_callVI (o := 76) (As := []) (st := []) (la := [(0, .ref 76)]) (dcd d_L_law_38 29 rfl) cv_m_finding k_L_219 ⟨by decide, by decide⟩ ok_76 rfl (Nat.le_of_ble_eq_true rfl) (Nat.le_of_ble_eq_true rfl) rfl rfl h (fun a2 u2 h => ?_)
  refine ws_pop (dcd d_L_law_39 0 rfl) rfl ?_
  refine ws_goto (tgt := 1742) (dcd d_L_law_39 1 rfl) (by decide) ?_
  exact ws_loc [0, 1, 2, 3] rfl h
end SEGL
