section SEGL
variable {G : pG} {u : pM} {Q : Option Value → pM → Prop}
theorem sg_L_law_1328 {x3 : Int32} (h : Ws G D_busy 0 [(0, .ref 2)] [] u (RI fun a1 u1 => Ws G m_busy 0 [(0, .ref 76)] [] u1 (RI fun a2 u2 => Ws G L_law 1742 [(0, .ref 0), (1, .ref 2), (2, .ref 76), (3, .int x3)] [] u2 Q))) : Ws G L_law 1328 [(0, .ref 0), (1, .ref 2), (2, .ref 76), (3, .int x3)] [] u Q := by
  refine ws_aload_n 1 (dcd d_L_law_29 20 rfl) rfl ?_
  refine ws_callVI (o := 2) (As := []) (st := []) (la := [(0, .ref 2)]) (dcd d_L_law_29 21 rfl) cv_D_busy k_L_155 ⟨by decide, by decide⟩ ok_2 rfl (Nat.le_of_ble_eq_true rfl) (Nat.le_of_ble_eq_true rfl) rfl rfl h (fun a1 u1 h => ?_)
  refine ws_pop (dcd d_L_law_29 22 rfl) rfl ?_
  refine ws_aload_n 2 (dcd d_L_law_29 23 rfl) rfl ?_
  refine ws_callVI (o := 76) (As := []) (st := []) (la := [(0, .ref 76)]) (dcd d_L_law_29 24 rfl) cv_m_busy k_L_158 ⟨by decide, by decide⟩ ok_76 rfl (Nat.le_of_ble_eq_true rfl) (Nat.le_of_ble_eq_true rfl) rfl rfl h (fun a2 u2 h => ?_)
  refine ws_pop (dcd d_L_law_29 25 rfl) rfl ?_
  refine ws_goto (tgt := 1742) (dcd d_L_law_29 26 rfl) (by decide) ?_
  exact ws_loc [0, 1, 2, 3] rfl h
theorem sg_L_law_1341 {x3 : Int32} (h : (vp_in (x3 + 1) (gn G) ∧ (vp_in (x3 + 2) (gn G) ∧ (vp_in (x3 + 3) (gn G) ∧ Ws G D_note 0 [(0, .ref 2), (1, .int (gx G ((x3 + 1) : Int32).toNatClampNeg)), (2, .int (gx G ((x3 + 2) : Int32).toNatClampNeg)), (3, .int (gx G ((x3 + 3) : Int32).toNatClampNeg))] [] u (RI fun a4 u4 => (vp_in (x3 + 1) (gn G) ∧ (vp_in (x3 + 2) (gn G) ∧ (vp_in (x3 + 3) (gn G) ∧ Ws G m_note 0 [(0, .ref 76), (1, .int (gx G ((x3 + 1) : Int32).toNatClampNeg)), (2, .int (gx G ((x3 + 2) : Int32).toNatClampNeg)), (3, .int (gx G ((x3 + 3) : Int32).toNatClampNeg))] [] u4 (RI fun a8 u8 => Ws G L_law 1742 [(0, .ref 0), (1, .ref 2), (2, .ref 76), (3, .int x3)] [] u8 Q))))))))) : Ws G L_law 1341 [(0, .ref 0), (1, .ref 2), (2, .ref 76), (3, .int x3)] [] u Q := by
  refine ws_aload_n 1 (dcd d_L_law_29 27 rfl) rfl ?_
  refine ws_aload_n 0 (dcd d_L_law_29 28 rfl) rfl ?_
  refine ws_iload_n 3 (dcd d_L_law_29 29 rfl) rfl ?_
  refine ws_iconst (v := 1) (dcd d_L_law_30 0 rfl) (by decide) ?_
  refine ws_iadd (dcd d_L_law_30 1 rfl) ?_
  obtain ⟨e1, h⟩ := h
  refine ws_sld (dcd d_L_law_30 2 rfl) e1 ?_
  refine ws_aload_n 0 (dcd d_L_law_30 3 rfl) rfl ?_
  refine ws_iload_n 3 (dcd d_L_law_30 4 rfl) rfl ?_
  refine ws_iconst (v := 2) (dcd d_L_law_30 5 rfl) (by decide) ?_
  refine ws_iadd (dcd d_L_law_30 6 rfl) ?_
  obtain ⟨e2, h⟩ := h
  refine ws_sld (dcd d_L_law_30 7 rfl) e2 ?_
  refine ws_aload_n 0 (dcd d_L_law_30 8 rfl) rfl ?_
  refine ws_iload_n 3 (dcd d_L_law_30 9 rfl) rfl ?_
  refine ws_iconst (v := 3) (dcd d_L_law_30 10 rfl) (by decide) ?_
  refine ws_iadd (dcd d_L_law_30 11 rfl) ?_
  obtain ⟨e3, h⟩ := h
  refine ws_sld (dcd d_L_law_30 12 rfl) e3 ?_
  refine ws_callVI (o := 2) (As := [.int (gx G ((x3 + 1) : Int32).toNatClampNeg), .int (gx G ((x3 + 2) : Int32).toNatClampNeg), .int (gx G ((x3 + 3) : Int32).toNatClampNeg)]) (st := []) (la := [(0, .ref 2), (1, .int (gx G ((x3 + 1) : Int32).toNatClampNeg)), (2, .int (gx G ((x3 + 2) : Int32).toNatClampNeg)), (3, .int (gx G ((x3 + 3) : Int32).toNatClampNeg))]) (dcd d_L_law_30 13 rfl) cv_D_note k_L_159 ⟨by decide, by decide⟩ ok_2 rfl (Nat.le_of_ble_eq_true rfl) (Nat.le_of_ble_eq_true rfl) rfl rfl h (fun a4 u4 h => ?_)
  refine ws_pop (dcd d_L_law_30 14 rfl) rfl ?_
  refine ws_aload_n 2 (dcd d_L_law_30 15 rfl) rfl ?_
  refine ws_aload_n 0 (dcd d_L_law_30 16 rfl) rfl ?_
  refine ws_iload_n 3 (dcd d_L_law_30 17 rfl) rfl ?_
  refine ws_iconst (v := 1) (dcd d_L_law_30 18 rfl) (by decide) ?_
  refine ws_iadd (dcd d_L_law_30 19 rfl) ?_
  obtain ⟨e5, h⟩ := h
  refine ws_sld (dcd d_L_law_30 20 rfl) e5 ?_
  refine ws_aload_n 0 (dcd d_L_law_30 21 rfl) rfl ?_
  refine ws_iload_n 3 (dcd d_L_law_30 22 rfl) rfl ?_
  refine ws_iconst (v := 2) (dcd d_L_law_30 23 rfl) (by decide) ?_
  refine ws_iadd (dcd d_L_law_30 24 rfl) ?_
  obtain ⟨e6, h⟩ := h
  refine ws_sld (dcd d_L_law_30 25 rfl) e6 ?_
  refine ws_aload_n 0 (dcd d_L_law_30 26 rfl) rfl ?_
  refine ws_iload_n 3 (dcd d_L_law_30 27 rfl) rfl ?_
  refine ws_iconst (v := 3) (dcd d_L_law_30 28 rfl) (by decide) ?_
  refine ws_iadd (dcd d_L_law_30 29 rfl) ?_
  obtain ⟨e7, h⟩ := h
  refine ws_sld (dcd d_L_law_31 0 rfl) e7 ?_
  refine ws_callVI (o := 76) (As := [.int (gx G ((x3 + 1) : Int32).toNatClampNeg), .int (gx G ((x3 + 2) : Int32).toNatClampNeg), .int (gx G ((x3 + 3) : Int32).toNatClampNeg)]) (st := []) (la := [(0, .ref 76), (1, .int (gx G ((x3 + 1) : Int32).toNatClampNeg)), (2, .int (gx G ((x3 + 2) : Int32).toNatClampNeg)), (3, .int (gx G ((x3 + 3) : Int32).toNatClampNeg))]) (dcd d_L_law_31 1 rfl) cv_m_note k_L_162 ⟨by decide, by decide⟩ ok_76 rfl (Nat.le_of_ble_eq_true rfl) (Nat.le_of_ble_eq_true rfl) rfl rfl h (fun a8 u8 h => ?_)
  refine ws_pop (dcd d_L_law_31 2 rfl) rfl ?_
  refine ws_goto (tgt := 1742) (dcd d_L_law_31 3 rfl) (by decide) ?_
  exact ws_loc [0, 1, 2, 3] rfl h
theorem sg_L_law_1384 {x3 : Int32} (h : (vp_in (x3 + 1) (gn G) ∧ Ws G D_back 0 [(0, .ref 2), (1, .int (gx G ((x3 + 1) : Int32).toNatClampNeg))] [] u (RI fun a2 u2 => (vp_in (x3 + 1) (gn G) ∧ Ws G m_back 0 [(0, .ref 76), (1, .int (gx G ((x3 + 1) : Int32).toNatClampNeg))] [] u2 (RI fun a4 u4 => Ws G L_law 1742 [(0, .ref 0), (1, .ref 2), (2, .ref 76), (3, .int x3)] [] u4 Q))))) : Ws G L_law 1384 [(0, .ref 0), (1, .ref 2), (2, .ref 76), (3, .int x3)] [] u Q := by
  refine ws_aload_n 1 (dcd d_L_law_31 4 rfl) rfl ?_
  refine ws_aload_n 0 (dcd d_L_law_31 5 rfl) rfl ?_
  refine ws_iload_n 3 (dcd d_L_law_31 6 rfl) rfl ?_
  refine ws_iconst (v := 1) (dcd d_L_law_31 7 rfl) (by decide) ?_
  refine ws_iadd (dcd d_L_law_31 8 rfl) ?_
  obtain ⟨e1, h⟩ := h
  refine ws_sld (dcd d_L_law_31 9 rfl) e1 ?_
  refine ws_callVI (o := 2) (As := [.int (gx G ((x3 + 1) : Int32).toNatClampNeg)]) (st := []) (la := [(0, .ref 2), (1, .int (gx G ((x3 + 1) : Int32).toNatClampNeg))]) (dcd d_L_law_31 10 rfl) cv_D_back k_L_163 ⟨by decide, by decide⟩ ok_2 rfl (Nat.le_of_ble_eq_true rfl) (Nat.le_of_ble_eq_true rfl) rfl rfl h (fun a2 u2 h => ?_)
  refine ws_pop (dcd d_L_law_31 11 rfl) rfl ?_
  refine ws_aload_n 2 (dcd d_L_law_31 12 rfl) rfl ?_
  refine ws_aload_n 0 (dcd d_L_law_31 13 rfl) rfl ?_
  refine ws_iload_n 3 (dcd d_L_law_31 14 rfl) rfl ?_
  refine ws_iconst (v := 1) (dcd d_L_law_31 15 rfl) (by decide) ?_
  refine ws_iadd (dcd d_L_law_31 16 rfl) ?_
  obtain ⟨e3, h⟩ := h
  refine ws_sld (dcd d_L_law_31 17 rfl) e3 ?_
  refine ws_callVI (o := 76) (As := [.int (gx G ((x3 + 1) : Int32).toNatClampNeg)]) (st := []) (la := [(0, .ref 76), (1, .int (gx G ((x3 + 1) : Int32).toNatClampNeg))]) (dcd d_L_law_31 18 rfl) cv_m_back k_L_166 ⟨by decide, by decide⟩ ok_76 rfl (Nat.le_of_ble_eq_true rfl) (Nat.le_of_ble_eq_true rfl) rfl rfl h (fun a4 u4 h => ?_)
  refine ws_pop (dcd d_L_law_31 19 rfl) rfl ?_
  refine ws_goto (tgt := 1742) (dcd d_L_law_31 20 rfl) (by decide) ?_
  exact ws_loc [0, 1, 2, 3] rfl h
theorem sg_L_law_1407 {x3 : Int32} (h : (vp_in (x3 + 1) (gn G) ∧ Ws G D_steps 0 [(0, .ref 2), (1, .int (gx G ((x3 + 1) : Int32).toNatClampNeg))] [] u (RI fun a2 u2 => (vp_in (x3 + 1) (gn G) ∧ Ws G m_steps 0 [(0, .ref 76), (1, .int (gx G ((x3 + 1) : Int32).toNatClampNeg))] [] u2 (RI fun a4 u4 => Ws G L_law 1742 [(0, .ref 0), (1, .ref 2), (2, .ref 76), (3, .int x3)] [] u4 Q))))) : Ws G L_law 1407 [(0, .ref 0), (1, .ref 2), (2, .ref 76), (3, .int x3)] [] u Q := by
  refine ws_aload_n 1 (dcd d_L_law_31 21 rfl) rfl ?_
  refine ws_aload_n 0 (dcd d_L_law_31 22 rfl) rfl ?_
  refine ws_iload_n 3 (dcd d_L_law_31 23 rfl) rfl ?_
  refine ws_iconst (v := 1) (dcd d_L_law_31 24 rfl) (by decide) ?_
  refine ws_iadd (dcd d_L_law_31 25 rfl) ?_
  obtain ⟨e1, h⟩ := h
  refine ws_sld (dcd d_L_law_31 26 rfl) e1 ?_
  refine ws_callVI (o := 2) (As := [.int (gx G ((x3 + 1) : Int32).toNatClampNeg)]) (st := []) (la := [(0, .ref 2), (1, .int (gx G ((x3 + 1) : Int32).toNatClampNeg))]) (dcd d_L_law_31 27 rfl) cv_D_steps k_L_167 ⟨by decide, by decide⟩ ok_2 rfl (Nat.le_of_ble_eq_true rfl) (Nat.le_of_ble_eq_true rfl) rfl rfl h (fun a2 u2 h => ?_)
  refine ws_pop (dcd d_L_law_31 28 rfl) rfl ?_
  refine ws_aload_n 2 (dcd d_L_law_31 29 rfl) rfl ?_
  refine ws_aload_n 0 (dcd d_L_law_32 0 rfl) rfl ?_
  refine ws_iload_n 3 (dcd d_L_law_32 1 rfl) rfl ?_
  refine ws_iconst (v := 1) (dcd d_L_law_32 2 rfl) (by decide) ?_
  refine ws_iadd (dcd d_L_law_32 3 rfl) ?_
  obtain ⟨e3, h⟩ := h
  refine ws_sld (dcd d_L_law_32 4 rfl) e3 ?_
  refine ws_callVI (o := 76) (As := [.int (gx G ((x3 + 1) : Int32).toNatClampNeg)]) (st := []) (la := [(0, .ref 76), (1, .int (gx G ((x3 + 1) : Int32).toNatClampNeg))]) (dcd d_L_law_32 5 rfl) cv_m_steps k_L_170 ⟨by decide, by decide⟩ ok_76 rfl (Nat.le_of_ble_eq_true rfl) (Nat.le_of_ble_eq_true rfl) rfl rfl h (fun a4 u4 h => ?_)
  refine ws_pop (dcd d_L_law_32 6 rfl) rfl ?_
  refine ws_goto (tgt := 1742) (dcd d_L_law_32 7 rfl) (by decide) ?_
  exact ws_loc [0, 1, 2, 3] rfl h
end SEGL
