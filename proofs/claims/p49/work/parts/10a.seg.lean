theorem ok_2 : okS 2 7 := by decide
theorem ok_76 : okS 76 8 := by decide
theorem ok_14 : okS 14 0 := by decide
theorem ok_18 : okS 18 1 := by decide
abbrev vb (v : Int32) : Prop := narrow .boolean (.int v) = .int v
section SEG
variable {G : pG} {u : pM} {Q : Option Value → pM → Prop}
theorem sg_m_in_0 {x0 : Int32} {x1 : Int32} {x2 : Int32}  (h : ((x0 < x1 → Q (some (.int 0)) u) ∧ (¬ (x0 < x1) → ((x2 < x0 → Q (some (.int 0)) u) ∧ (¬ (x2 < x0) → Q (some (.int 1)) u))))) : Ws G m_in 0 [(0, .int x0), (1, .int x1), (2, .int x2)] [] u Q := by
  refine ws_iload_n 0 (dcd d_m_in_0 0 rfl) rfl ?_
  refine ws_iload_n 1 (dcd d_m_in_0 1 rfl) rfl ?_
  refine ws_icmp_lt (tgt := 14) (dcd d_m_in_0 2 rfl) (by decide) (fun c1 => ?_) (fun c1 => ?_)
  · have h := h.1 c1
    refine ws_iconst (v := 0) (dcd d_m_in_0 8 rfl) (by decide) ?_
    exact ws_iret (dcd d_m_in_0 9 rfl) ⟨_, rfl, by decide⟩ h
  · have h := h.2 c1
    refine ws_iload_n 0 (dcd d_m_in_0 3 rfl) rfl ?_
    refine ws_iload_n 2 (dcd d_m_in_0 4 rfl) rfl ?_
    refine ws_icmp_gt (tgt := 14) (dcd d_m_in_0 5 rfl) (by decide) (fun c2 => ?_) (fun c2 => ?_)
    · have h := h.1 c2
      refine ws_iconst (v := 0) (dcd d_m_in_0 8 rfl) (by decide) ?_
      exact ws_iret (dcd d_m_in_0 9 rfl) ⟨_, rfl, by decide⟩ h
    · have h := h.2 c2
      refine ws_iconst (v := 1) (dcd d_m_in_0 6 rfl) (by decide) ?_
      refine ws_goto (tgt := 15) (dcd d_m_in_0 7 rfl) (by decide) ?_
      exact ws_iret (dcd d_m_in_0 9 rfl) ⟨_, rfl, by decide⟩ h
theorem sg_m_meet_0 {x1 : Int32}  (h : (vp_in x1 6 ∧ (vp_in x1 6 ∧ Q (some (.int (-3))) (pI (pI u 76 0 x1) 77 (x1 : Int32).toNatClampNeg ((mI (pI u 76 0 x1) 77 (x1 : Int32).toNatClampNeg) + 1))))) : Ws G m_meet 0 [(0, .ref 76), (1, .int x1)] [] u Q := by
  refine ws_aload_n 0 (dcd d_m_meet_0 0 rfl) rfl ?_
  refine ws_iload_n 1 (dcd d_m_meet_0 1 rfl) rfl ?_
  refine ws_putI f_m_68 rfl nf_8_0 (dcd d_m_meet_0 2 rfl) ok_76 ?_
  refine ws_aload_n 0 (dcd d_m_meet_0 3 rfl) rfl ?_
  refine ws_getF (a := 77) f_m_7 rfl (dcd d_m_meet_0 4 rfl) ok_76 of_8_1 rfl ?_
  refine ws_iload_n 1 (dcd d_m_meet_0 5 rfl) rfl ?_
  refine ws_dup2 (dcd d_m_meet_0 6 rfl) rfl rfl ?_
  obtain ⟨e1, h⟩ := h
  refine ws_iald (L := 6) (dcd d_m_meet_0 7 rfl) (os_8_1 ok_76) (ol_8_1 ok_76) e1 ?_
  refine ws_iconst (v := 1) (dcd d_m_meet_0 8 rfl) (by decide) ?_
  refine ws_iadd (dcd d_m_meet_0 9 rfl) ?_
  obtain ⟨e2, h⟩ := h
  refine ws_iast (L := 6) (dcd d_m_meet_0 10 rfl) (os_8_1 ok_76) (ol_8_1 ok_76) e2 ?_
  refine ws_bipush (v := (-3)) (dcd d_m_meet_0 11 rfl) (by decide) ?_
  exact ws_iret (dcd d_m_meet_0 12 rfl) ⟨_, rfl, rfl⟩ h
theorem sg_m_ask_0 {x1 : Int32} {x2 : Int32}  (h : Q (some (.int x2)) (pI u 76 2 x1)) : Ws G m_ask 0 [(0, .ref 76), (1, .int x1), (2, .int x2)] [] u Q := by
  refine ws_aload_n 0 (dcd d_m_ask_0 0 rfl) rfl ?_
  refine ws_iload_n 1 (dcd d_m_ask_0 1 rfl) rfl ?_
  refine ws_putI f_m_72 rfl nf_8_2 (dcd d_m_ask_0 2 rfl) ok_76 ?_
  refine ws_iload_n 2 (dcd d_m_ask_0 3 rfl) rfl ?_
  exact ws_iret (dcd d_m_ask_0 4 rfl) ⟨_, rfl, rfl⟩ h
theorem sg_m_rowAt_0 {x1 : Int32} {x2 : Int32}  (h : (vp_in ((40 * x1) + x2) 240 ∧ Q (some (.int (mI u 79 (((40 * x1) + x2) : Int32).toNatClampNeg))) u)) : Ws G m_rowAt 0 [(0, .ref 76), (1, .int x1), (2, .int x2)] [] u Q := by
  refine ws_aload_n 0 (dcd d_m_rowAt_0 0 rfl) rfl ?_
  refine ws_getF (a := 79) f_m_20 rfl (dcd d_m_rowAt_0 1 rfl) ok_76 of_8_6 rfl ?_
  refine ws_bipush (v := 40) (dcd d_m_rowAt_0 2 rfl) (by decide) ?_
  refine ws_iload_n 1 (dcd d_m_rowAt_0 3 rfl) rfl ?_
  refine ws_imul (dcd d_m_rowAt_0 4 rfl) ?_
  refine ws_iload_n 2 (dcd d_m_rowAt_0 5 rfl) rfl ?_
  refine ws_iadd (dcd d_m_rowAt_0 6 rfl) ?_
  obtain ⟨e1, h⟩ := h
  refine ws_iald (L := 240) (dcd d_m_rowAt_0 7 rfl) (os_8_6 ok_76) (ol_8_6 ok_76) e1 ?_
  exact ws_iret (dcd d_m_rowAt_0 8 rfl) ⟨_, rfl, rfl⟩ h
theorem sg_m_setRow_0 {x1 : Int32} {x2 : Int32} {x3 : Int32}  (h : (vp_in ((40 * x1) + x2) 240 ∧ Q none (pI u 79 (((40 * x1) + x2) : Int32).toNatClampNeg x3))) : Ws G m_setRow 0 [(0, .ref 76), (1, .int x1), (2, .int x2), (3, .int x3)] [] u Q := by
  refine ws_aload_n 0 (dcd d_m_setRow_0 0 rfl) rfl ?_
  refine ws_getF (a := 79) f_m_20 rfl (dcd d_m_setRow_0 1 rfl) ok_76 of_8_6 rfl ?_
  refine ws_bipush (v := 40) (dcd d_m_setRow_0 2 rfl) (by decide) ?_
  refine ws_iload_n 1 (dcd d_m_setRow_0 3 rfl) rfl ?_
  refine ws_imul (dcd d_m_setRow_0 4 rfl) ?_
  refine ws_iload_n 2 (dcd d_m_setRow_0 5 rfl) rfl ?_
  refine ws_iadd (dcd d_m_setRow_0 6 rfl) ?_
  refine ws_iload_n 3 (dcd d_m_setRow_0 7 rfl) rfl ?_
  obtain ⟨e1, h⟩ := h
  refine ws_iast (L := 240) (dcd d_m_setRow_0 8 rfl) (os_8_6 ok_76) (ol_8_6 ok_76) e1 ?_
  exact ws_vret (dcd d_m_setRow_0 9 rfl) rfl h
theorem sg_m_here_0 {x1 : Int32}  (h : (vp_in x1 4 ∧ (((mI u 81 (x1 : Int32).toNatClampNeg) ≤ (mI u 76 13) → Q (some (.int (-9))) u) ∧ (¬ ((mI u 81 (x1 : Int32).toNatClampNeg) ≤ (mI u 76 13)) → (vp_in ((100 * x1) + (mI u 76 13)) 400 ∧ Q (some (.int (mI u 82 (((100 * x1) + (mI u 76 13)) : Int32).toNatClampNeg))) u))))) : Ws G m_here 0 [(0, .ref 76), (1, .int x1)] [] u Q := by
  refine ws_aload_n 0 (dcd d_m_here_0 0 rfl) rfl ?_
  refine ws_getI f_m_113 rfl (dcd d_m_here_0 1 rfl) ok_76 ?_
  refine ws_aload_n 0 (dcd d_m_here_0 2 rfl) rfl ?_
  refine ws_getF (a := 81) f_m_26 rfl (dcd d_m_here_0 3 rfl) ok_76 of_8_8 rfl ?_
  refine ws_iload_n 1 (dcd d_m_here_0 4 rfl) rfl ?_
  obtain ⟨e1, h⟩ := h
  refine ws_iald (L := 4) (dcd d_m_here_0 5 rfl) (os_8_8 ok_76) (ol_8_8 ok_76) e1 ?_
  refine ws_icmp_ge (tgt := 30) (dcd d_m_here_0 6 rfl) (by decide) (fun c2 => ?_) (fun c2 => ?_)
  · have h := h.1 c2
    refine ws_bipush (v := (-9)) (dcd d_m_here_0 17 rfl) (by decide) ?_
    exact ws_iret (dcd d_m_here_0 18 rfl) ⟨_, rfl, rfl⟩ h
  · have h := h.2 c2
    refine ws_aload_n 0 (dcd d_m_here_0 7 rfl) rfl ?_
    refine ws_getF (a := 82) f_m_29 rfl (dcd d_m_here_0 8 rfl) ok_76 of_8_9 rfl ?_
    refine ws_bipush (v := 100) (dcd d_m_here_0 9 rfl) (by decide) ?_
    refine ws_iload_n 1 (dcd d_m_here_0 10 rfl) rfl ?_
    refine ws_imul (dcd d_m_here_0 11 rfl) ?_
    refine ws_aload_n 0 (dcd d_m_here_0 12 rfl) rfl ?_
    refine ws_getI f_m_113 rfl (dcd d_m_here_0 13 rfl) ok_76 ?_
    refine ws_iadd (dcd d_m_here_0 14 rfl) ?_
    obtain ⟨e3, h⟩ := h
    refine ws_iald (L := 400) (dcd d_m_here_0 15 rfl) (os_8_9 ok_76) (ol_8_9 ok_76) e3 ?_
    refine ws_goto (tgt := 32) (dcd d_m_here_0 16 rfl) (by decide) ?_
    exact ws_iret (dcd d_m_here_0 18 rfl) ⟨_, rfl, rfl⟩ h
theorem sg_m_kindOf_0 {x0 : Int32}  (h : ((¬ x0 = 115 → ((¬ x0 = 102 → ((¬ x0 = 121 → ((¬ x0 = 110 → ((¬ x0 = 111 → ((¬ x0 = 112 → Q (some (.int (-9))) u) ∧ (x0 = 112 → Q (some (.int 5)) u))) ∧ (x0 = 111 → Q (some (.int 4)) u))) ∧ (x0 = 110 → Q (some (.int 3)) u))) ∧ (x0 = 121 → Q (some (.int 2)) u))) ∧ (x0 = 102 → Q (some (.int 1)) u))) ∧ (x0 = 115 → Q (some (.int 0)) u))) : Ws G m_kindOf 0 [(0, .int x0)] [] u Q := by
  refine ws_iload_n 0 (dcd d_m_kindOf_0 0 rfl) rfl ?_
  refine ws_bipush (v := 115) (dcd d_m_kindOf_0 1 rfl) (by decide) ?_
  refine ws_icmp_ne (tgt := 10) (dcd d_m_kindOf_0 2 rfl) (by decide) (fun c1 => ?_) (fun c1 => ?_)
  · have h := h.1 c1
    refine ws_iload_n 0 (dcd d_m_kindOf_0 5 rfl) rfl ?_
    refine ws_bipush (v := 102) (dcd d_m_kindOf_0 6 rfl) (by decide) ?_
    refine ws_icmp_ne (tgt := 20) (dcd d_m_kindOf_0 7 rfl) (by decide) (fun c2 => ?_) (fun c2 => ?_)
    · have h := h.1 c2
      refine ws_iload_n 0 (dcd d_m_kindOf_0 10 rfl) rfl ?_
      refine ws_bipush (v := 121) (dcd d_m_kindOf_0 11 rfl) (by decide) ?_
      refine ws_icmp_ne (tgt := 30) (dcd d_m_kindOf_0 12 rfl) (by decide) (fun c3 => ?_) (fun c3 => ?_)
      · have h := h.1 c3
        refine ws_iload_n 0 (dcd d_m_kindOf_0 15 rfl) rfl ?_
        refine ws_bipush (v := 110) (dcd d_m_kindOf_0 16 rfl) (by decide) ?_
        refine ws_icmp_ne (tgt := 40) (dcd d_m_kindOf_0 17 rfl) (by decide) (fun c4 => ?_) (fun c4 => ?_)
        · have h := h.1 c4
          refine ws_iload_n 0 (dcd d_m_kindOf_0 20 rfl) rfl ?_
          refine ws_bipush (v := 111) (dcd d_m_kindOf_0 21 rfl) (by decide) ?_
          refine ws_icmp_ne (tgt := 50) (dcd d_m_kindOf_0 22 rfl) (by decide) (fun c5 => ?_) (fun c5 => ?_)
          · have h := h.1 c5
            refine ws_iload_n 0 (dcd d_m_kindOf_0 25 rfl) rfl ?_
            refine ws_bipush (v := 112) (dcd d_m_kindOf_0 26 rfl) (by decide) ?_
            refine ws_icmp_ne (tgt := 60) (dcd d_m_kindOf_0 27 rfl) (by decide) (fun c6 => ?_) (fun c6 => ?_)
            · have h := h.1 c6
              refine ws_bipush (v := (-9)) (dcd d_m_kindOf_1 0 rfl) (by decide) ?_
              exact ws_iret (dcd d_m_kindOf_1 1 rfl) ⟨_, rfl, rfl⟩ h
            · have h := h.2 c6
              refine ws_iconst (v := 5) (dcd d_m_kindOf_0 28 rfl) (by decide) ?_
              refine ws_goto (tgt := 62) (dcd d_m_kindOf_0 29 rfl) (by decide) ?_
              exact ws_iret (dcd d_m_kindOf_1 1 rfl) ⟨_, rfl, rfl⟩ h
          · have h := h.2 c5
            refine ws_iconst (v := 4) (dcd d_m_kindOf_0 23 rfl) (by decide) ?_
            refine ws_goto (tgt := 62) (dcd d_m_kindOf_0 24 rfl) (by decide) ?_
            exact ws_iret (dcd d_m_kindOf_1 1 rfl) ⟨_, rfl, rfl⟩ h
        · have h := h.2 c4
          refine ws_iconst (v := 3) (dcd d_m_kindOf_0 18 rfl) (by decide) ?_
          refine ws_goto (tgt := 62) (dcd d_m_kindOf_0 19 rfl) (by decide) ?_
          exact ws_iret (dcd d_m_kindOf_1 1 rfl) ⟨_, rfl, rfl⟩ h
      · have h := h.2 c3
        refine ws_iconst (v := 2) (dcd d_m_kindOf_0 13 rfl) (by decide) ?_
        refine ws_goto (tgt := 62) (dcd d_m_kindOf_0 14 rfl) (by decide) ?_
        exact ws_iret (dcd d_m_kindOf_1 1 rfl) ⟨_, rfl, rfl⟩ h
    · have h := h.2 c2
      refine ws_iconst (v := 1) (dcd d_m_kindOf_0 8 rfl) (by decide) ?_
      refine ws_goto (tgt := 62) (dcd d_m_kindOf_0 9 rfl) (by decide) ?_
      exact ws_iret (dcd d_m_kindOf_1 1 rfl) ⟨_, rfl, rfl⟩ h
  · have h := h.2 c1
    refine ws_iconst (v := 0) (dcd d_m_kindOf_0 3 rfl) (by decide) ?_
    refine ws_goto (tgt := 62) (dcd d_m_kindOf_0 4 rfl) (by decide) ?_
    exact ws_iret (dcd d_m_kindOf_1 1 rfl) ⟨_, rfl, rfl⟩ h
theorem sg_m_tell_0 {x1 : Int32} {x2 : Int32}  (h : (vp_in ((5 * x1) + x2) 70 ∧ Q (some (.int (mI u 83 (((5 * x1) + x2) : Int32).toNatClampNeg))) u)) : Ws G m_tell 0 [(0, .ref 76), (1, .int x1), (2, .int x2)] [] u Q := by
  refine ws_aload_n 0 (dcd d_m_tell_0 0 rfl) rfl ?_
  refine ws_getF (a := 83) f_m_32 rfl (dcd d_m_tell_0 1 rfl) ok_76 of_8_12 rfl ?_
  refine ws_iconst (v := 5) (dcd d_m_tell_0 2 rfl) (by decide) ?_
  refine ws_iload_n 1 (dcd d_m_tell_0 3 rfl) rfl ?_
  refine ws_imul (dcd d_m_tell_0 4 rfl) ?_
  refine ws_iload_n 2 (dcd d_m_tell_0 5 rfl) rfl ?_
  refine ws_iadd (dcd d_m_tell_0 6 rfl) ?_
  obtain ⟨e1, h⟩ := h
  refine ws_iald (L := 70) (dcd d_m_tell_0 7 rfl) (os_8_12 ok_76) (ol_8_12 ok_76) e1 ?_
  exact ws_iret (dcd d_m_tell_0 8 rfl) ⟨_, rfl, rfl⟩ h
theorem sg_m_goingBy_0 {x0 : Int32} {x1 : Int32} {x2 : Int32} {x3 : Int32}  (h : ((¬ x0 = 1 → ((¬ x0 = 4 → ((x0 < 3 → Q (some (.int x1)) u) ∧ (¬ (x0 < 3) → (¬ x2 = 0 ∧ ((¬ (x3 - x3 / x2 * x2) = (x2 - 1) → Q (some (.int x1)) u) ∧ ((x3 - x3 / x2 * x2) = (x2 - 1) → ((¬ x0 = 3 → Q (some (.int (-x1))) u) ∧ (x0 = 3 → Q (some (.int 0)) u)))))))) ∧ (x0 = 4 → (¬ x2 = 0 ∧ ((¬ ((x3 / x2) - (x3 / x2) / 2 * 2) = 0 → Q (some (.int (-x1))) u) ∧ (((x3 / x2) - (x3 / x2) / 2 * 2) = 0 → Q (some (.int x1)) u)))))) ∧ (x0 = 1 → Q (some (.int 0)) u))) : Ws G m_goingBy 0 [(0, .int x0), (1, .int x1), (2, .int x2), (3, .int x3)] [] u Q := by
  refine ws_iload_n 0 (dcd d_m_goingBy_0 0 rfl) rfl ?_
  refine ws_iconst (v := 1) (dcd d_m_goingBy_0 1 rfl) (by decide) ?_
  refine ws_icmp_ne (tgt := 7) (dcd d_m_goingBy_0 2 rfl) (by decide) (fun c1 => ?_) (fun c1 => ?_)
  · have h := h.1 c1
    refine ws_iload_n 0 (dcd d_m_goingBy_0 5 rfl) rfl ?_
    refine ws_iconst (v := 4) (dcd d_m_goingBy_0 6 rfl) (by decide) ?_
    refine ws_icmp_ne (tgt := 27) (dcd d_m_goingBy_0 7 rfl) (by decide) (fun c2 => ?_) (fun c2 => ?_)
    · have h := h.1 c2
      refine ws_iload_n 0 (dcd d_m_goingBy_0 19 rfl) rfl ?_
      refine ws_iconst (v := 3) (dcd d_m_goingBy_0 20 rfl) (by decide) ?_
      refine ws_icmp_lt (tgt := 45) (dcd d_m_goingBy_0 21 rfl) (by decide) (fun c3 => ?_) (fun c3 => ?_)
      · have h := h.1 c3
        refine ws_iconst (v := 0) (dcd d_m_goingBy_1 1 rfl) (by decide) ?_
        refine ws_istore (l' := [(4, .int 0), (0, .int x0), (1, .int x1), (2, .int x2), (3, .int x3)]) (dcd d_m_goingBy_1 2 rfl) (by decide) rfl ?_
        refine ws_iload 0 (dcd d_m_goingBy_1 3 rfl) rfl ?_
        refine ws_if_ne (tgt := 57) (dcd d_m_goingBy_1 4 rfl) (by decide) (fun c => absurd (show (0 : Int32) = 0 from by decide) c) (fun _ => ?_)
        refine ws_iload_n 2 (dcd d_m_goingBy_1 5 rfl) rfl ?_
        refine ws_goto (tgt := 68) (dcd d_m_goingBy_1 6 rfl) (by decide) ?_
        exact ws_iret (dcd d_m_goingBy_1 14 rfl) ⟨_, rfl, rfl⟩ h
      · have h := h.2 c3
        refine ws_iload_n 3 (dcd d_m_goingBy_0 22 rfl) rfl ?_
        refine ws_iload_n 2 (dcd d_m_goingBy_0 23 rfl) rfl ?_
        obtain ⟨e5, h⟩ := h
        refine ws_irem (dcd d_m_goingBy_0 24 rfl) e5 ?_
        refine ws_iload_n 2 (dcd d_m_goingBy_0 25 rfl) rfl ?_
        refine ws_iconst (v := 1) (dcd d_m_goingBy_0 26 rfl) (by decide) ?_
        refine ws_isub (dcd d_m_goingBy_0 27 rfl) ?_
        refine ws_icmp_ne (tgt := 45) (dcd d_m_goingBy_0 28 rfl) (by decide) (fun c6 => ?_) (fun c6 => ?_)
        · have h := h.1 c6
          refine ws_iconst (v := 0) (dcd d_m_goingBy_1 1 rfl) (by decide) ?_
          refine ws_istore (l' := [(4, .int 0), (0, .int x0), (1, .int x1), (2, .int x2), (3, .int x3)]) (dcd d_m_goingBy_1 2 rfl) (by decide) rfl ?_
          refine ws_iload 0 (dcd d_m_goingBy_1 3 rfl) rfl ?_
          refine ws_if_ne (tgt := 57) (dcd d_m_goingBy_1 4 rfl) (by decide) (fun c => absurd (show (0 : Int32) = 0 from by decide) c) (fun _ => ?_)
          refine ws_iload_n 2 (dcd d_m_goingBy_1 5 rfl) rfl ?_
          refine ws_goto (tgt := 68) (dcd d_m_goingBy_1 6 rfl) (by decide) ?_
          exact ws_iret (dcd d_m_goingBy_1 14 rfl) ⟨_, rfl, rfl⟩ h
        · have h := h.2 c6
          refine ws_iconst (v := 1) (dcd d_m_goingBy_0 29 rfl) (by decide) ?_
          refine ws_goto (tgt := 46) (dcd d_m_goingBy_1 0 rfl) (by decide) ?_
          refine ws_istore (l' := [(4, .int 1), (0, .int x0), (1, .int x1), (2, .int x2), (3, .int x3)]) (dcd d_m_goingBy_1 2 rfl) (by decide) rfl ?_
          refine ws_iload 0 (dcd d_m_goingBy_1 3 rfl) rfl ?_
          refine ws_if_ne (tgt := 57) (dcd d_m_goingBy_1 4 rfl) (by decide) (fun _ => ?_) (fun c => absurd c (by decide))
          refine ws_iload_n 1 (dcd d_m_goingBy_1 7 rfl) rfl ?_
          refine ws_iconst (v := 3) (dcd d_m_goingBy_1 8 rfl) (by decide) ?_
          refine ws_icmp_ne (tgt := 66) (dcd d_m_goingBy_1 9 rfl) (by decide) (fun c9 => ?_) (fun c9 => ?_)
          · have h := h.1 c9
            refine ws_iload_n 2 (dcd d_m_goingBy_1 12 rfl) rfl ?_
            refine ws_ineg (dcd d_m_goingBy_1 13 rfl) ?_
            exact ws_iret (dcd d_m_goingBy_1 14 rfl) ⟨_, rfl, rfl⟩ h
          · have h := h.2 c9
            refine ws_iconst (v := 0) (dcd d_m_goingBy_1 10 rfl) (by decide) ?_
            refine ws_goto (tgt := 68) (dcd d_m_goingBy_1 11 rfl) (by decide) ?_
            exact ws_iret (dcd d_m_goingBy_1 14 rfl) ⟨_, rfl, rfl⟩ h
    · have h := h.2 c2
      refine ws_iload_n 3 (dcd d_m_goingBy_0 8 rfl) rfl ?_
      refine ws_iload_n 2 (dcd d_m_goingBy_0 9 rfl) rfl ?_
      obtain ⟨e10, h⟩ := h
      refine ws_idiv (dcd d_m_goingBy_0 10 rfl) e10 ?_
      refine ws_iconst (v := 2) (dcd d_m_goingBy_0 11 rfl) (by decide) ?_
      refine ws_irem (dcd d_m_goingBy_0 12 rfl) (by decide) ?_
      refine ws_if_ne (tgt := 24) (dcd d_m_goingBy_0 13 rfl) (by decide) (fun c11 => ?_) (fun c11 => ?_)
      · have h := h.1 c11
        refine ws_iload_n 1 (dcd d_m_goingBy_0 16 rfl) rfl ?_
        refine ws_ineg (dcd d_m_goingBy_0 17 rfl) ?_
        exact ws_iret (dcd d_m_goingBy_0 18 rfl) ⟨_, rfl, rfl⟩ h
      · have h := h.2 c11
        refine ws_iload_n 1 (dcd d_m_goingBy_0 14 rfl) rfl ?_
        refine ws_goto (tgt := 26) (dcd d_m_goingBy_0 15 rfl) (by decide) ?_
        exact ws_iret (dcd d_m_goingBy_0 18 rfl) ⟨_, rfl, rfl⟩ h
  · have h := h.2 c1
    refine ws_iconst (v := 0) (dcd d_m_goingBy_0 3 rfl) (by decide) ?_
    exact ws_iret (dcd d_m_goingBy_0 4 rfl) ⟨_, rfl, rfl⟩ h
theorem sg_m_doorAt_0 {x1 : Int64}  (h : (¬ ((mI u 76 10) : Int32).toInt64 = 0 ∧ ((0 ≤ (lg_cmp (x1 - x1 / ((mI u 76 10) : Int32).toInt64 * ((mI u 76 10) : Int32).toInt64) 0) → Q (some (.int ((x1 - x1 / ((mI u 76 10) : Int32).toInt64 * ((mI u 76 10) : Int32).toInt64) : Int64).toInt32)) u) ∧ (¬ (0 ≤ (lg_cmp (x1 - x1 / ((mI u 76 10) : Int32).toInt64 * ((mI u 76 10) : Int32).toInt64) 0)) → Q (some (.int (((x1 - x1 / ((mI u 76 10) : Int32).toInt64 * ((mI u 76 10) : Int32).toInt64) + ((mI u 76 10) : Int32).toInt64) : Int64).toInt32)) u)))) : Ws G m_doorAt 0 [(0, .ref 76), (1, .long x1)] [] u Q := by
  refine ws_lload_n 1 (dcd d_m_doorAt_0 0 rfl) rfl ?_
  refine ws_aload_n 0 (dcd d_m_doorAt_0 1 rfl) rfl ?_
  refine ws_getI f_m_153 rfl (dcd d_m_doorAt_0 2 rfl) ok_76 ?_
  refine ws_i2l (dcd d_m_doorAt_0 3 rfl) ?_
  obtain ⟨e1, h⟩ := h
  refine ws_lrem (dcd d_m_doorAt_0 4 rfl) e1 ?_
  refine ws_lstore_n (l' := [(3, .long (x1 - x1 / ((mI u 76 10) : Int32).toInt64 * ((mI u 76 10) : Int32).toInt64)), (0, .ref 76), (1, .long x1)]) (dcd d_m_doorAt_0 5 rfl) (by decide) rfl ?_
  refine ws_lload_n 0 (dcd d_m_doorAt_0 6 rfl) rfl ?_
  refine ws_lconst (v := 0) (dcd d_m_doorAt_0 7 rfl) (by decide) ?_
  refine ws_lcmp (dcd d_m_doorAt_0 8 rfl) ?_
  refine ws_if_ge (tgt := 24) (dcd d_m_doorAt_0 9 rfl) (by decide) (fun c2 => ?_) (fun c2 => ?_)
  · have h := h.1 c2
    refine ws_lload_n 0 (dcd d_m_doorAt_0 16 rfl) rfl ?_
    refine ws_l2i (dcd d_m_doorAt_0 17 rfl) ?_
    exact ws_iret (dcd d_m_doorAt_0 18 rfl) ⟨_, rfl, rfl⟩ h
  · have h := h.2 c2
    refine ws_lload_n 0 (dcd d_m_doorAt_0 10 rfl) rfl ?_
    refine ws_aload_n 1 (dcd d_m_doorAt_0 11 rfl) rfl ?_
    refine ws_getI f_m_153 rfl (dcd d_m_doorAt_0 12 rfl) ok_76 ?_
    refine ws_i2l (dcd d_m_doorAt_0 13 rfl) ?_
    refine ws_ladd (dcd d_m_doorAt_0 14 rfl) ?_
    refine ws_goto (tgt := 25) (dcd d_m_doorAt_0 15 rfl) (by decide) ?_
    refine ws_l2i (dcd d_m_doorAt_0 17 rfl) ?_
    exact ws_iret (dcd d_m_doorAt_0 18 rfl) ⟨_, rfl, rfl⟩ h
theorem sg_m_ways_0 {x0 : Int32} {x1 : Int32} {x2 : Int64}  (h : ((¬ x0 = 1 → ((3 ≤ x0 → ((¬ x0 = 4 → (¬ (x1 : Int32).toInt64 = 0 ∧ ((¬ x0 = 3 → Q (some (.long (x2 - (2 * (x2 / (x1 : Int32).toInt64))))) u) ∧ (x0 = 3 → Q (some (.long (x2 - (x2 / (x1 : Int32).toInt64)))) u)))) ∧ (x0 = 4 → (¬ (2 * (x1 : Int32).toInt64) = 0 ∧ ((0 < (lg_cmp (x2 - x2 / (2 * (x1 : Int32).toInt64) * (2 * (x1 : Int32).toInt64)) (x1 : Int32).toInt64) → Q (some (.long ((2 * (x1 : Int32).toInt64) - (x2 - x2 / (2 * (x1 : Int32).toInt64) * (2 * (x1 : Int32).toInt64))))) u) ∧ (¬ (0 < (lg_cmp (x2 - x2 / (2 * (x1 : Int32).toInt64) * (2 * (x1 : Int32).toInt64)) (x1 : Int32).toInt64)) → Q (some (.long (x2 - x2 / (2 * (x1 : Int32).toInt64) * (2 * (x1 : Int32).toInt64)))) u)))))) ∧ (¬ (3 ≤ x0) → Q (some (.long x2)) u))) ∧ (x0 = 1 → Q (some (.long 0)) u))) : Ws G m_ways 0 [(0, .int x0), (1, .int x1), (2, .long x2)] [] u Q := by
  refine ws_iload_n 0 (dcd d_m_ways_0 0 rfl) rfl ?_
  refine ws_iconst (v := 1) (dcd d_m_ways_0 1 rfl) (by decide) ?_
  refine ws_icmp_ne (tgt := 7) (dcd d_m_ways_0 2 rfl) (by decide) (fun c1 => ?_) (fun c1 => ?_)
  · have h := h.1 c1
    refine ws_iload_n 0 (dcd d_m_ways_0 5 rfl) rfl ?_
    refine ws_iconst (v := 3) (dcd d_m_ways_0 6 rfl) (by decide) ?_
    refine ws_icmp_ge (tgt := 14) (dcd d_m_ways_0 7 rfl) (by decide) (fun c2 => ?_) (fun c2 => ?_)
    · have h := h.1 c2
      refine ws_iload_n 0 (dcd d_m_ways_0 10 rfl) rfl ?_
      refine ws_iconst (v := 4) (dcd d_m_ways_0 11 rfl) (by decide) ?_
      refine ws_icmp_ne (tgt := 52) (dcd d_m_ways_0 12 rfl) (by decide) (fun c3 => ?_) (fun c3 => ?_)
      · have h := h.1 c3
        refine ws_lload_n 2 (dcd d_m_ways_1 4 rfl) rfl ?_
        refine ws_iload_n 1 (dcd d_m_ways_1 5 rfl) rfl ?_
        refine ws_i2l (dcd d_m_ways_1 6 rfl) ?_
        obtain ⟨e4, h⟩ := h
        refine ws_ldiv (dcd d_m_ways_1 7 rfl) e4 ?_
        refine ws_lstore (l' := [(4, .long (x2 / (x1 : Int32).toInt64)), (0, .int x0), (1, .int x1), (2, .long x2)]) (dcd d_m_ways_1 8 rfl) (by decide) rfl ?_
        refine ws_iload_n 1 (dcd d_m_ways_1 9 rfl) rfl ?_
        refine ws_iconst (v := 3) (dcd d_m_ways_1 10 rfl) (by decide) ?_
        refine ws_icmp_ne (tgt := 70) (dcd d_m_ways_1 11 rfl) (by decide) (fun c5 => ?_) (fun c5 => ?_)
        · have h := h.1 c5
          refine ws_lload_n 3 (dcd d_m_ways_1 16 rfl) rfl ?_
          refine ws_ldc2 (dcd d_m_ways_1 17 rfl) q_m_215 ?_
          refine ws_lload 0 (dcd d_m_ways_1 18 rfl) rfl ?_
          refine ws_lmul (dcd d_m_ways_1 19 rfl) ?_
          refine ws_lsub (dcd d_m_ways_1 20 rfl) ?_
          exact ws_lret (dcd d_m_ways_1 21 rfl) rfl h
        · have h := h.2 c5
          refine ws_lload_n 3 (dcd d_m_ways_1 12 rfl) rfl ?_
          refine ws_lload 0 (dcd d_m_ways_1 13 rfl) rfl ?_
          refine ws_lsub (dcd d_m_ways_1 14 rfl) ?_
          refine ws_goto (tgt := 78) (dcd d_m_ways_1 15 rfl) (by decide) ?_
          exact ws_lret (dcd d_m_ways_1 21 rfl) rfl h
      · have h := h.2 c3
        refine ws_lload_n 2 (dcd d_m_ways_0 13 rfl) rfl ?_
        refine ws_ldc2 (dcd d_m_ways_0 14 rfl) q_m_215 ?_
        refine ws_iload_n 1 (dcd d_m_ways_0 15 rfl) rfl ?_
        refine ws_i2l (dcd d_m_ways_0 16 rfl) ?_
        refine ws_lmul (dcd d_m_ways_0 17 rfl) ?_
        obtain ⟨e6, h⟩ := h
        refine ws_lrem (dcd d_m_ways_0 18 rfl) e6 ?_
        refine ws_lstore (l' := [(4, .long (x2 - x2 / (2 * (x1 : Int32).toInt64) * (2 * (x1 : Int32).toInt64))), (0, .int x0), (1, .int x1), (2, .long x2)]) (dcd d_m_ways_0 19 rfl) (by decide) rfl ?_
        refine ws_lload 0 (dcd d_m_ways_0 20 rfl) rfl ?_
        refine ws_iload_n 2 (dcd d_m_ways_0 21 rfl) rfl ?_
        refine ws_i2l (dcd d_m_ways_0 22 rfl) ?_
        refine ws_lcmp (dcd d_m_ways_0 23 rfl) ?_
        refine ws_if_gt (tgt := 42) (dcd d_m_ways_0 24 rfl) (by decide) (fun c7 => ?_) (fun c7 => ?_)
        · have h := h.1 c7
          refine ws_ldc2 (dcd d_m_ways_0 27 rfl) q_m_215 ?_
          refine ws_iload_n 2 (dcd d_m_ways_0 28 rfl) rfl ?_
          refine ws_i2l (dcd d_m_ways_0 29 rfl) ?_
          refine ws_lmul (dcd d_m_ways_1 0 rfl) ?_
          refine ws_lload 0 (dcd d_m_ways_1 1 rfl) rfl ?_
          refine ws_lsub (dcd d_m_ways_1 2 rfl) ?_
          exact ws_lret (dcd d_m_ways_1 3 rfl) rfl h
        · have h := h.2 c7
          refine ws_lload 0 (dcd d_m_ways_0 25 rfl) rfl ?_
          refine ws_goto (tgt := 51) (dcd d_m_ways_0 26 rfl) (by decide) ?_
          exact ws_lret (dcd d_m_ways_1 3 rfl) rfl h
    · have h := h.2 c2
      refine ws_lload_n 2 (dcd d_m_ways_0 8 rfl) rfl ?_
      exact ws_lret (dcd d_m_ways_0 9 rfl) rfl h
  · have h := h.2 c1
    refine ws_lconst (v := 0) (dcd d_m_ways_0 3 rfl) (by decide) ?_
    exact ws_lret (dcd d_m_ways_0 4 rfl) rfl h
theorem sg_m_mix_0 {x1 : Int32}  (h : Q none (pL u 76 32 ((31 * (mL u 76 32)) + (x1 : Int32).toInt64))) : Ws G m_mix 0 [(0, .ref 76), (1, .int x1)] [] u Q := by
  refine ws_aload_n 0 (dcd d_m_mix_0 0 rfl) rfl ?_
  refine ws_ldc2 (dcd d_m_mix_0 1 rfl) q_m_284 ?_
  refine ws_aload_n 0 (dcd d_m_mix_0 2 rfl) rfl ?_
  refine ws_getL f_m_286 rfl (dcd d_m_mix_0 3 rfl) ok_76 ?_
  refine ws_lmul (dcd d_m_mix_0 4 rfl) ?_
  refine ws_iload_n 1 (dcd d_m_mix_0 5 rfl) rfl ?_
  refine ws_i2l (dcd d_m_mix_0 6 rfl) ?_
  refine ws_ladd (dcd d_m_mix_0 7 rfl) ?_
  refine ws_putL f_m_286 rfl nf_8_32 (dcd d_m_mix_0 8 rfl) ok_76 ?_
  exact ws_vret (dcd d_m_mix_0 9 rfl) rfl h
theorem sg_Sp_isThere_0 {o0 : Nat} (k0 : okS o0 6) (h : (((mI u o0 1) < 0 → Q (some (.int 0)) u) ∧ (¬ ((mI u o0 1) < 0) → Q (some (.int 1)) u))) : Ws G Sp_isThere 0 [(0, .ref o0)] [] u Q := by
  refine ws_aload_n 0 (dcd d_Sp_isThere_0 0 rfl) rfl ?_
  refine ws_getI f_Sp_9 rfl (dcd d_Sp_isThere_0 1 rfl) k0 ?_
  refine ws_if_lt (tgt := 11) (dcd d_Sp_isThere_0 2 rfl) (by decide) (fun c1 => ?_) (fun c1 => ?_)
  · have h := h.1 c1
    refine ws_iconst (v := 0) (dcd d_Sp_isThere_0 5 rfl) (by decide) ?_
    exact ws_iret (dcd d_Sp_isThere_0 6 rfl) ⟨_, rfl, by decide⟩ h
  · have h := h.2 c1
    refine ws_iconst (v := 1) (dcd d_Sp_isThere_0 3 rfl) (by decide) ?_
    refine ws_goto (tgt := 12) (dcd d_Sp_isThere_0 4 rfl) (by decide) ?_
    exact ws_iret (dcd d_Sp_isThere_0 6 rfl) ⟨_, rfl, by decide⟩ h
theorem sg_Sp_has_0 {o0 : Nat} {x1 : Int32} (k0 : okS o0 6) (h : ((x1 < 0 → Q (some (.int 0)) u) ∧ (¬ (x1 < 0) → (((mI u o0 1) ≤ x1 → Q (some (.int 0)) u) ∧ (¬ ((mI u o0 1) ≤ x1) → (((Int32.ofNat (S0 (o0 + 1)).2) ≤ x1 → Q (some (.int 0)) u) ∧ (¬ ((Int32.ofNat (S0 (o0 + 1)).2) ≤ x1) → Q (some (.int 1)) u))))))) : Ws G Sp_has 0 [(0, .ref o0), (1, .int x1)] [] u Q := by
  refine ws_iload_n 1 (dcd d_Sp_has_0 0 rfl) rfl ?_
  refine ws_if_lt (tgt := 25) (dcd d_Sp_has_0 1 rfl) (by decide) (fun c1 => ?_) (fun c1 => ?_)
  · have h := h.1 c1
    refine ws_iconst (v := 0) (dcd d_Sp_has_0 13 rfl) (by decide) ?_
    exact ws_iret (dcd d_Sp_has_0 14 rfl) ⟨_, rfl, by decide⟩ h
  · have h := h.2 c1
    refine ws_iload_n 1 (dcd d_Sp_has_0 2 rfl) rfl ?_
    refine ws_aload_n 0 (dcd d_Sp_has_0 3 rfl) rfl ?_
    refine ws_getI f_Sp_9 rfl (dcd d_Sp_has_0 4 rfl) k0 ?_
    refine ws_icmp_ge (tgt := 25) (dcd d_Sp_has_0 5 rfl) (by decide) (fun c2 => ?_) (fun c2 => ?_)
    · have h := h.1 c2
      refine ws_iconst (v := 0) (dcd d_Sp_has_0 13 rfl) (by decide) ?_
      exact ws_iret (dcd d_Sp_has_0 14 rfl) ⟨_, rfl, by decide⟩ h
    · have h := h.2 c2
      refine ws_iload_n 1 (dcd d_Sp_has_0 6 rfl) rfl ?_
      refine ws_aload_n 0 (dcd d_Sp_has_0 7 rfl) rfl ?_
      refine ws_getF (a := (o0 + 1)) f_Sp_21 rfl (dcd d_Sp_has_0 8 rfl) k0 of_6_0 rfl ?_
      refine ws_alen (dcd d_Sp_has_0 9 rfl) (os_6_0 k0) (by decide) ?_
      refine ws_icmp_ge (tgt := 25) (dcd d_Sp_has_0 10 rfl) (by decide) (fun c3 => ?_) (fun c3 => ?_)
      · have h := h.1 c3
        refine ws_iconst (v := 0) (dcd d_Sp_has_0 13 rfl) (by decide) ?_
        exact ws_iret (dcd d_Sp_has_0 14 rfl) ⟨_, rfl, by decide⟩ h
      · have h := h.2 c3
        refine ws_iconst (v := 1) (dcd d_Sp_has_0 11 rfl) (by decide) ?_
        refine ws_goto (tgt := 26) (dcd d_Sp_has_0 12 rfl) (by decide) ?_
        exact ws_iret (dcd d_Sp_has_0 14 rfl) ⟨_, rfl, by decide⟩ h
theorem sg_Sp_holds_0 {o0 : Nat} {x1 : Int32} {x2 : Int32} (k0 : okS o0 6) (h : ((x1 < 0 → Q (some (.int 0)) u) ∧ (¬ (x1 < 0) → ((x2 < 0 → Q (some (.int 0)) u) ∧ (¬ (x2 < 0) → ((((mI u o0 1) - x2) < x1 → Q (some (.int 0)) u) ∧ (¬ (((mI u o0 1) - x2) < x1) → Q (some (.int 1)) u))))))) : Ws G Sp_holds 0 [(0, .ref o0), (1, .int x1), (2, .int x2)] [] u Q := by
  refine ws_iload_n 1 (dcd d_Sp_holds_0 0 rfl) rfl ?_
  refine ws_if_lt (tgt := 22) (dcd d_Sp_holds_0 1 rfl) (by decide) (fun c1 => ?_) (fun c1 => ?_)
  · have h := h.1 c1
    refine ws_iconst (v := 0) (dcd d_Sp_holds_0 12 rfl) (by decide) ?_
    exact ws_iret (dcd d_Sp_holds_0 13 rfl) ⟨_, rfl, by decide⟩ h
  · have h := h.2 c1
    refine ws_iload_n 2 (dcd d_Sp_holds_0 2 rfl) rfl ?_
    refine ws_if_lt (tgt := 22) (dcd d_Sp_holds_0 3 rfl) (by decide) (fun c2 => ?_) (fun c2 => ?_)
    · have h := h.1 c2
      refine ws_iconst (v := 0) (dcd d_Sp_holds_0 12 rfl) (by decide) ?_
      exact ws_iret (dcd d_Sp_holds_0 13 rfl) ⟨_, rfl, by decide⟩ h
    · have h := h.2 c2
      refine ws_iload_n 1 (dcd d_Sp_holds_0 4 rfl) rfl ?_
      refine ws_aload_n 0 (dcd d_Sp_holds_0 5 rfl) rfl ?_
      refine ws_getI f_Sp_9 rfl (dcd d_Sp_holds_0 6 rfl) k0 ?_
      refine ws_iload_n 2 (dcd d_Sp_holds_0 7 rfl) rfl ?_
      refine ws_isub (dcd d_Sp_holds_0 8 rfl) ?_
      refine ws_icmp_gt (tgt := 22) (dcd d_Sp_holds_0 9 rfl) (by decide) (fun c3 => ?_) (fun c3 => ?_)
      · have h := h.1 c3
        refine ws_iconst (v := 0) (dcd d_Sp_holds_0 12 rfl) (by decide) ?_
        exact ws_iret (dcd d_Sp_holds_0 13 rfl) ⟨_, rfl, by decide⟩ h
      · have h := h.2 c3
        refine ws_iconst (v := 1) (dcd d_Sp_holds_0 10 rfl) (by decide) ?_
        refine ws_goto (tgt := 23) (dcd d_Sp_holds_0 11 rfl) (by decide) ?_
        exact ws_iret (dcd d_Sp_holds_0 13 rfl) ⟨_, rfl, by decide⟩ h
theorem sg_Sh_isOf_0 {o0 : Nat} {x1 : Int32} (k0 : okS o0 4) (h : ((x1 = (mI u o0 0) → Q (some (.int 1)) u) ∧ (¬ x1 = (mI u o0 0) → ((¬ x1 = 3 → Q (some (.int 0)) u) ∧ (x1 = 3 → ((¬ (mI u o0 0) = 5 → Q (some (.int 0)) u) ∧ ((mI u o0 0) = 5 → Q (some (.int 1)) u))))))) : Ws G Sh_isOf 0 [(0, .ref o0), (1, .int x1)] [] u Q := by
  refine ws_iload_n 1 (dcd d_Sh_isOf_0 0 rfl) rfl ?_
  refine ws_aload_n 0 (dcd d_Sh_isOf_0 1 rfl) rfl ?_
  refine ws_getI f_Sh_9 rfl (dcd d_Sh_isOf_0 2 rfl) k0 ?_
  refine ws_icmp_eq (tgt := 21) (dcd d_Sh_isOf_0 3 rfl) (by decide) (fun c1 => ?_) (fun c1 => ?_)
  · have h := h.1 c1
    refine ws_iconst (v := 1) (dcd d_Sh_isOf_0 11 rfl) (by decide) ?_
    refine ws_goto (tgt := 26) (dcd d_Sh_isOf_0 12 rfl) (by decide) ?_
    exact ws_iret (dcd d_Sh_isOf_0 14 rfl) ⟨_, rfl, by decide⟩ h
  · have h := h.2 c1
    refine ws_iload_n 1 (dcd d_Sh_isOf_0 4 rfl) rfl ?_
    refine ws_iconst (v := 3) (dcd d_Sh_isOf_0 5 rfl) (by decide) ?_
    refine ws_icmp_ne (tgt := 25) (dcd d_Sh_isOf_0 6 rfl) (by decide) (fun c2 => ?_) (fun c2 => ?_)
    · have h := h.1 c2
      refine ws_iconst (v := 0) (dcd d_Sh_isOf_0 13 rfl) (by decide) ?_
      exact ws_iret (dcd d_Sh_isOf_0 14 rfl) ⟨_, rfl, by decide⟩ h
    · have h := h.2 c2
      refine ws_aload_n 0 (dcd d_Sh_isOf_0 7 rfl) rfl ?_
      refine ws_getI f_Sh_9 rfl (dcd d_Sh_isOf_0 8 rfl) k0 ?_
      refine ws_iconst (v := 5) (dcd d_Sh_isOf_0 9 rfl) (by decide) ?_
      refine ws_icmp_ne (tgt := 25) (dcd d_Sh_isOf_0 10 rfl) (by decide) (fun c3 => ?_) (fun c3 => ?_)
      · have h := h.1 c3
        refine ws_iconst (v := 0) (dcd d_Sh_isOf_0 13 rfl) (by decide) ?_
        exact ws_iret (dcd d_Sh_isOf_0 14 rfl) ⟨_, rfl, by decide⟩ h
      · have h := h.2 c3
        refine ws_iconst (v := 1) (dcd d_Sh_isOf_0 11 rfl) (by decide) ?_
        refine ws_goto (tgt := 26) (dcd d_Sh_isOf_0 12 rfl) (by decide) ?_
        exact ws_iret (dcd d_Sh_isOf_0 14 rfl) ⟨_, rfl, by decide⟩ h
theorem sg_Sh_going_0 {x0 : Int32} {x1 : Int32} {x2 : Int32} {x3 : Int32}  (h : ((¬ x0 = 1 → ((2 ≤ x1 → (¬ x1 = 0 ∧ ((¬ (x3 - x3 / x1 * x1) = (x1 - 1) → ((x0 = 3 → Q (some (.int x2)) u) ∧ (x0 = 4 → (¬ x1 = 0 ∧ ((¬ ((x3 / x1) - (x3 / x1) / 2 * 2) = 0 → Q (some (.int (-x2))) u) ∧ (((x3 / x1) - (x3 / x1) / 2 * 2) = 0 → Q (some (.int x2)) u)))) ∧ (x0 = 5 → Q (some (.int x2)) u) ∧ (¬ x0 = 3 ∧ ¬ x0 = 4 ∧ ¬ x0 = 5 → Q (some (.int x2)) u))) ∧ ((x3 - x3 / x1 * x1) = (x1 - 1) → ((x0 = 3 → Q (some (.int 0)) u) ∧ (x0 = 4 → (¬ x1 = 0 ∧ ((¬ ((x3 / x1) - (x3 / x1) / 2 * 2) = 0 → Q (some (.int (-x2))) u) ∧ (((x3 / x1) - (x3 / x1) / 2 * 2) = 0 → Q (some (.int x2)) u)))) ∧ (x0 = 5 → Q (some (.int (-x2))) u) ∧ (¬ x0 = 3 ∧ ¬ x0 = 4 ∧ ¬ x0 = 5 → Q (some (.int x2)) u)))))) ∧ (¬ (2 ≤ x1) → Q (some (.int x2)) u))) ∧ (x0 = 1 → Q (some (.int 0)) u))) : Ws G Sh_going 0 [(0, .int x0), (1, .int x1), (2, .int x2), (3, .int x3)] [] u Q := by
  refine ws_iload_n 0 (dcd d_Sh_going_0 0 rfl) rfl ?_
  refine ws_iconst (v := 1) (dcd d_Sh_going_0 1 rfl) (by decide) ?_
  refine ws_icmp_ne (tgt := 7) (dcd d_Sh_going_0 2 rfl) (by decide) (fun c1 => ?_) (fun c1 => ?_)
  · have h := h.1 c1
    refine ws_iload_n 1 (dcd d_Sh_going_0 5 rfl) rfl ?_
    refine ws_iconst (v := 2) (dcd d_Sh_going_0 6 rfl) (by decide) ?_
    refine ws_icmp_ge (tgt := 14) (dcd d_Sh_going_0 7 rfl) (by decide) (fun c2 => ?_) (fun c2 => ?_)
    · have h := h.1 c2
      refine ws_iload_n 3 (dcd d_Sh_going_0 10 rfl) rfl ?_
      refine ws_iload_n 1 (dcd d_Sh_going_0 11 rfl) rfl ?_
      obtain ⟨e3, h⟩ := h
      refine ws_irem (dcd d_Sh_going_0 12 rfl) e3 ?_
      refine ws_iload_n 1 (dcd d_Sh_going_0 13 rfl) rfl ?_
      refine ws_iconst (v := 1) (dcd d_Sh_going_0 14 rfl) (by decide) ?_
      refine ws_isub (dcd d_Sh_going_0 15 rfl) ?_
      refine ws_icmp_ne (tgt := 27) (dcd d_Sh_going_0 16 rfl) (by decide) (fun c4 => ?_) (fun c4 => ?_)
      · have h := h.1 c4
        refine ws_iconst (v := 0) (dcd d_Sh_going_0 19 rfl) (by decide) ?_
        refine ws_istore (l' := [(4, .int 0), (0, .int x0), (1, .int x1), (2, .int x2), (3, .int x3)]) (dcd d_Sh_going_0 20 rfl) (by decide) rfl ?_
        refine ws_iload_n 1 (dcd d_Sh_going_0 21 rfl) rfl ?_
        by_cases c6 : x0 = 3
        · have h := h.1 c6
          refine ws_tableIn (off := 25) (tgt := 56) 0 (dcd d_Sh_going_0 22 rfl) (by rw [c6]; decide) (by decide) rfl (by decide) ?_
          refine ws_iload 0 (dcd d_Sh_going_0 23 rfl) rfl ?_
          refine ws_if_eq (tgt := 65) (dcd d_Sh_going_0 24 rfl) (by decide) (fun _ => ?_) (fun c => absurd (show (0 : Int32) = 0 from by decide) c)
          refine ws_iload_n 3 (dcd d_Sh_going_0 27 rfl) rfl ?_
          exact ws_iret (dcd d_Sh_going_0 28 rfl) ⟨_, rfl, rfl⟩ h
        by_cases c8 : x0 = 4
        · have h := h.2.1 c8
          refine ws_tableIn (off := 36) (tgt := 67) 1 (dcd d_Sh_going_0 22 rfl) (by rw [c8]; decide) (by decide) rfl (by decide) ?_
          refine ws_iload_n 4 (dcd d_Sh_going_0 29 rfl) rfl ?_
          refine ws_iload_n 2 (dcd d_Sh_going_1 0 rfl) rfl ?_
          obtain ⟨e9, h⟩ := h
          refine ws_idiv (dcd d_Sh_going_1 1 rfl) e9 ?_
          refine ws_iconst (v := 2) (dcd d_Sh_going_1 2 rfl) (by decide) ?_
          refine ws_irem (dcd d_Sh_going_1 3 rfl) (by decide) ?_
          refine ws_if_ne (tgt := 79) (dcd d_Sh_going_1 4 rfl) (by decide) (fun c10 => ?_) (fun c10 => ?_)
          · have h := h.1 c10
            refine ws_iload_n 3 (dcd d_Sh_going_1 7 rfl) rfl ?_
            refine ws_ineg (dcd d_Sh_going_1 8 rfl) ?_
            exact ws_iret (dcd d_Sh_going_1 9 rfl) ⟨_, rfl, rfl⟩ h
          · have h := h.2 c10
            refine ws_iload_n 3 (dcd d_Sh_going_1 5 rfl) rfl ?_
            refine ws_goto (tgt := 81) (dcd d_Sh_going_1 6 rfl) (by decide) ?_
            exact ws_iret (dcd d_Sh_going_1 9 rfl) ⟨_, rfl, rfl⟩ h
        by_cases c11 : x0 = 5
        · have h := h.2.2.1 c11
          refine ws_tableIn (off := 51) (tgt := 82) 2 (dcd d_Sh_going_0 22 rfl) (by rw [c11]; decide) (by decide) rfl (by decide) ?_
          refine ws_iload 0 (dcd d_Sh_going_1 10 rfl) rfl ?_
          refine ws_if_eq (tgt := 92) (dcd d_Sh_going_1 11 rfl) (by decide) (fun _ => ?_) (fun c => absurd (show (0 : Int32) = 0 from by decide) c)
          refine ws_iload_n 3 (dcd d_Sh_going_1 15 rfl) rfl ?_
          exact ws_iret (dcd d_Sh_going_1 16 rfl) ⟨_, rfl, rfl⟩ h
        have h := h.2.2.2 ⟨c6, c8, c11⟩
        have nc6 := lv_neT c6 (a := 3) (by decide)
        have nc8 := lv_neT c8 (a := 4) (by decide)
        have nc11 := lv_neT c11 (a := 5) (by decide)
        refine ws_tableOut (tgt := 94) (dcd d_Sh_going_0 22 rfl) (by omega) (by decide) ?_
        refine ws_iload_n 3 (dcd d_Sh_going_1 17 rfl) rfl ?_
        exact ws_iret (dcd d_Sh_going_1 18 rfl) ⟨_, rfl, rfl⟩ h
      · have h := h.2 c4
        refine ws_iconst (v := 1) (dcd d_Sh_going_0 17 rfl) (by decide) ?_
        refine ws_goto (tgt := 28) (dcd d_Sh_going_0 18 rfl) (by decide) ?_
        refine ws_istore (l' := [(4, .int 1), (0, .int x0), (1, .int x1), (2, .int x2), (3, .int x3)]) (dcd d_Sh_going_0 20 rfl) (by decide) rfl ?_
        refine ws_iload_n 1 (dcd d_Sh_going_0 21 rfl) rfl ?_
        by_cases c14 : x0 = 3
        · have h := h.1 c14
          refine ws_tableIn (off := 25) (tgt := 56) 0 (dcd d_Sh_going_0 22 rfl) (by rw [c14]; decide) (by decide) rfl (by decide) ?_
          refine ws_iload 0 (dcd d_Sh_going_0 23 rfl) rfl ?_
          refine ws_if_eq (tgt := 65) (dcd d_Sh_going_0 24 rfl) (by decide) (fun c => absurd c (by decide)) (fun _ => ?_)
          refine ws_iconst (v := 0) (dcd d_Sh_going_0 25 rfl) (by decide) ?_
          refine ws_goto (tgt := 66) (dcd d_Sh_going_0 26 rfl) (by decide) ?_
          exact ws_iret (dcd d_Sh_going_0 28 rfl) ⟨_, rfl, rfl⟩ h
        by_cases c16 : x0 = 4
        · have h := h.2.1 c16
          refine ws_tableIn (off := 36) (tgt := 67) 1 (dcd d_Sh_going_0 22 rfl) (by rw [c16]; decide) (by decide) rfl (by decide) ?_
          refine ws_iload_n 4 (dcd d_Sh_going_0 29 rfl) rfl ?_
          refine ws_iload_n 2 (dcd d_Sh_going_1 0 rfl) rfl ?_
          obtain ⟨e17, h⟩ := h
          refine ws_idiv (dcd d_Sh_going_1 1 rfl) e17 ?_
          refine ws_iconst (v := 2) (dcd d_Sh_going_1 2 rfl) (by decide) ?_
          refine ws_irem (dcd d_Sh_going_1 3 rfl) (by decide) ?_
          refine ws_if_ne (tgt := 79) (dcd d_Sh_going_1 4 rfl) (by decide) (fun c18 => ?_) (fun c18 => ?_)
          · have h := h.1 c18
            refine ws_iload_n 3 (dcd d_Sh_going_1 7 rfl) rfl ?_
            refine ws_ineg (dcd d_Sh_going_1 8 rfl) ?_
            exact ws_iret (dcd d_Sh_going_1 9 rfl) ⟨_, rfl, rfl⟩ h
          · have h := h.2 c18
            refine ws_iload_n 3 (dcd d_Sh_going_1 5 rfl) rfl ?_
            refine ws_goto (tgt := 81) (dcd d_Sh_going_1 6 rfl) (by decide) ?_
            exact ws_iret (dcd d_Sh_going_1 9 rfl) ⟨_, rfl, rfl⟩ h
        by_cases c19 : x0 = 5
        · have h := h.2.2.1 c19
          refine ws_tableIn (off := 51) (tgt := 82) 2 (dcd d_Sh_going_0 22 rfl) (by rw [c19]; decide) (by decide) rfl (by decide) ?_
          refine ws_iload 0 (dcd d_Sh_going_1 10 rfl) rfl ?_
          refine ws_if_eq (tgt := 92) (dcd d_Sh_going_1 11 rfl) (by decide) (fun c => absurd c (by decide)) (fun _ => ?_)
          refine ws_iload_n 3 (dcd d_Sh_going_1 12 rfl) rfl ?_
          refine ws_ineg (dcd d_Sh_going_1 13 rfl) ?_
          refine ws_goto (tgt := 93) (dcd d_Sh_going_1 14 rfl) (by decide) ?_
          exact ws_iret (dcd d_Sh_going_1 16 rfl) ⟨_, rfl, rfl⟩ h
        have h := h.2.2.2 ⟨c14, c16, c19⟩
        have nc14 := lv_neT c14 (a := 3) (by decide)
        have nc16 := lv_neT c16 (a := 4) (by decide)
        have nc19 := lv_neT c19 (a := 5) (by decide)
        refine ws_tableOut (tgt := 94) (dcd d_Sh_going_0 22 rfl) (by omega) (by decide) ?_
        refine ws_iload_n 3 (dcd d_Sh_going_1 17 rfl) rfl ?_
        exact ws_iret (dcd d_Sh_going_1 18 rfl) ⟨_, rfl, rfl⟩ h
    · have h := h.2 c2
      refine ws_iload_n 2 (dcd d_Sh_going_0 8 rfl) rfl ?_
      exact ws_iret (dcd d_Sh_going_0 9 rfl) ⟨_, rfl, rfl⟩ h
  · have h := h.2 c1
    refine ws_iconst (v := 0) (dcd d_Sh_going_0 3 rfl) (by decide) ?_
    exact ws_iret (dcd d_Sh_going_0 4 rfl) ⟨_, rfl, rfl⟩ h
theorem sg_Sh_weeksToSleep_0 {o0 : Nat} {x1 : Int32} (k0 : okS o0 4) (h : ((2 ≤ (mI u o0 4) → (¬ (mI u o0 4) = 0 ∧ Q (some (.int (((mI u o0 4) - 1) - (x1 - x1 / (mI u o0 4) * (mI u o0 4))))) u)) ∧ (¬ (2 ≤ (mI u o0 4)) → Q (some (.int 0)) u))) : Ws G Sh_weeksToSleep 0 [(0, .ref o0), (1, .int x1)] [] u Q := by
  refine ws_aload_n 0 (dcd d_Sh_weeksToSleep_0 0 rfl) rfl ?_
  refine ws_getI f_Sh_24 rfl (dcd d_Sh_weeksToSleep_0 1 rfl) k0 ?_
  refine ws_iconst (v := 2) (dcd d_Sh_weeksToSleep_0 2 rfl) (by decide) ?_
  refine ws_icmp_ge (tgt := 12) (dcd d_Sh_weeksToSleep_0 3 rfl) (by decide) (fun c1 => ?_) (fun c1 => ?_)
  · have h := h.1 c1
    refine ws_aload_n 0 (dcd d_Sh_weeksToSleep_0 6 rfl) rfl ?_
    refine ws_getI f_Sh_24 rfl (dcd d_Sh_weeksToSleep_0 7 rfl) k0 ?_
    refine ws_iconst (v := 1) (dcd d_Sh_weeksToSleep_0 8 rfl) (by decide) ?_
    refine ws_isub (dcd d_Sh_weeksToSleep_0 9 rfl) ?_
    refine ws_iload_n 1 (dcd d_Sh_weeksToSleep_0 10 rfl) rfl ?_
    refine ws_aload_n 0 (dcd d_Sh_weeksToSleep_0 11 rfl) rfl ?_
    refine ws_getI f_Sh_24 rfl (dcd d_Sh_weeksToSleep_0 12 rfl) k0 ?_
    obtain ⟨e2, h⟩ := h
    refine ws_irem (dcd d_Sh_weeksToSleep_0 13 rfl) e2 ?_
    refine ws_isub (dcd d_Sh_weeksToSleep_0 14 rfl) ?_
    exact ws_iret (dcd d_Sh_weeksToSleep_0 15 rfl) ⟨_, rfl, rfl⟩ h
  · have h := h.2 c1
    refine ws_iconst (v := 0) (dcd d_Sh_weeksToSleep_0 4 rfl) (by decide) ?_
    refine ws_goto (tgt := 25) (dcd d_Sh_weeksToSleep_0 5 rfl) (by decide) ?_
    exact ws_iret (dcd d_Sh_weeksToSleep_0 15 rfl) ⟨_, rfl, rfl⟩ h
theorem sg_Sh_weeksToTurn_0 {o0 : Nat} {x1 : Int32} (k0 : okS o0 4) (h : ((2 ≤ (mI u o0 4) → (¬ (mI u o0 4) = 0 ∧ Q (some (.int ((mI u o0 4) - (x1 - x1 / (mI u o0 4) * (mI u o0 4))))) u)) ∧ (¬ (2 ≤ (mI u o0 4)) → Q (some (.int 0)) u))) : Ws G Sh_weeksToTurn 0 [(0, .ref o0), (1, .int x1)] [] u Q := by
  refine ws_aload_n 0 (dcd d_Sh_weeksToTurn_0 0 rfl) rfl ?_
  refine ws_getI f_Sh_24 rfl (dcd d_Sh_weeksToTurn_0 1 rfl) k0 ?_
  refine ws_iconst (v := 2) (dcd d_Sh_weeksToTurn_0 2 rfl) (by decide) ?_
  refine ws_icmp_ge (tgt := 12) (dcd d_Sh_weeksToTurn_0 3 rfl) (by decide) (fun c1 => ?_) (fun c1 => ?_)
  · have h := h.1 c1
    refine ws_aload_n 0 (dcd d_Sh_weeksToTurn_0 6 rfl) rfl ?_
    refine ws_getI f_Sh_24 rfl (dcd d_Sh_weeksToTurn_0 7 rfl) k0 ?_
    refine ws_iload_n 1 (dcd d_Sh_weeksToTurn_0 8 rfl) rfl ?_
    refine ws_aload_n 0 (dcd d_Sh_weeksToTurn_0 9 rfl) rfl ?_
    refine ws_getI f_Sh_24 rfl (dcd d_Sh_weeksToTurn_0 10 rfl) k0 ?_
    obtain ⟨e2, h⟩ := h
    refine ws_irem (dcd d_Sh_weeksToTurn_0 11 rfl) e2 ?_
    refine ws_isub (dcd d_Sh_weeksToTurn_0 12 rfl) ?_
    exact ws_iret (dcd d_Sh_weeksToTurn_0 13 rfl) ⟨_, rfl, rfl⟩ h
  · have h := h.2 c1
    refine ws_iconst (v := 0) (dcd d_Sh_weeksToTurn_0 4 rfl) (by decide) ?_
    refine ws_goto (tgt := 23) (dcd d_Sh_weeksToTurn_0 5 rfl) (by decide) ?_
    exact ws_iret (dcd d_Sh_weeksToTurn_0 13 rfl) ⟨_, rfl, rfl⟩ h
theorem sg_Pl_isThere_0 {o0 : Nat} (k0 : okS o0 2) (h : (((mI u o0 0) ≤ 0 → Q (some (.int 0)) u) ∧ (¬ ((mI u o0 0) ≤ 0) → Q (some (.int 1)) u))) : Ws G Pl_isThere 0 [(0, .ref o0)] [] u Q := by
  refine ws_aload_n 0 (dcd d_Pl_isThere_0 0 rfl) rfl ?_
  refine ws_getI f_Pl_9 rfl (dcd d_Pl_isThere_0 1 rfl) k0 ?_
  refine ws_if_le (tgt := 11) (dcd d_Pl_isThere_0 2 rfl) (by decide) (fun c1 => ?_) (fun c1 => ?_)
  · have h := h.1 c1
    refine ws_iconst (v := 0) (dcd d_Pl_isThere_0 5 rfl) (by decide) ?_
    exact ws_iret (dcd d_Pl_isThere_0 6 rfl) ⟨_, rfl, by decide⟩ h
  · have h := h.2 c1
    refine ws_iconst (v := 1) (dcd d_Pl_isThere_0 3 rfl) (by decide) ?_
    refine ws_goto (tgt := 12) (dcd d_Pl_isThere_0 4 rfl) (by decide) ?_
    exact ws_iret (dcd d_Pl_isThere_0 6 rfl) ⟨_, rfl, by decide⟩ h
theorem sg_Pl_hasDoor_0 {o0 : Nat} {x1 : Int32} (k0 : okS o0 2) (h : ((x1 < 0 → Q (some (.int 0)) u) ∧ (¬ (x1 < 0) → (((mI u o0 0) ≤ x1 → Q (some (.int 0)) u) ∧ (¬ ((mI u o0 0) ≤ x1) → Q (some (.int 1)) u))))) : Ws G Pl_hasDoor 0 [(0, .ref o0), (1, .int x1)] [] u Q := by
  refine ws_iload_n 1 (dcd d_Pl_hasDoor_0 0 rfl) rfl ?_
  refine ws_if_lt (tgt := 16) (dcd d_Pl_hasDoor_0 1 rfl) (by decide) (fun c1 => ?_) (fun c1 => ?_)
  · have h := h.1 c1
    refine ws_iconst (v := 0) (dcd d_Pl_hasDoor_0 8 rfl) (by decide) ?_
    exact ws_iret (dcd d_Pl_hasDoor_0 9 rfl) ⟨_, rfl, by decide⟩ h
  · have h := h.2 c1
    refine ws_iload_n 1 (dcd d_Pl_hasDoor_0 2 rfl) rfl ?_
    refine ws_aload_n 0 (dcd d_Pl_hasDoor_0 3 rfl) rfl ?_
    refine ws_getI f_Pl_9 rfl (dcd d_Pl_hasDoor_0 4 rfl) k0 ?_
    refine ws_icmp_ge (tgt := 16) (dcd d_Pl_hasDoor_0 5 rfl) (by decide) (fun c2 => ?_) (fun c2 => ?_)
    · have h := h.1 c2
      refine ws_iconst (v := 0) (dcd d_Pl_hasDoor_0 8 rfl) (by decide) ?_
      exact ws_iret (dcd d_Pl_hasDoor_0 9 rfl) ⟨_, rfl, by decide⟩ h
    · have h := h.2 c2
      refine ws_iconst (v := 1) (dcd d_Pl_hasDoor_0 6 rfl) (by decide) ?_
      refine ws_goto (tgt := 17) (dcd d_Pl_hasDoor_0 7 rfl) (by decide) ?_
      exact ws_iret (dcd d_Pl_hasDoor_0 9 rfl) ⟨_, rfl, by decide⟩ h
theorem sg_Pl_hasDoorSet_0 {o0 : Nat} {x1 : Int32} (k0 : okS o0 2) (h : ((x1 < 0 → Q (some (.int 0)) u) ∧ (¬ (x1 < 0) → ((¬ (x1 >>> ((mI u o0 0) &&& 31)) = 0 → Q (some (.int 0)) u) ∧ ((x1 >>> ((mI u o0 0) &&& 31)) = 0 → Q (some (.int 1)) u))))) : Ws G Pl_hasDoorSet 0 [(0, .ref o0), (1, .int x1)] [] u Q := by
  refine ws_iload_n 1 (dcd d_Pl_hasDoorSet_0 0 rfl) rfl ?_
  refine ws_if_lt (tgt := 17) (dcd d_Pl_hasDoorSet_0 1 rfl) (by decide) (fun c1 => ?_) (fun c1 => ?_)
  · have h := h.1 c1
    refine ws_iconst (v := 0) (dcd d_Pl_hasDoorSet_0 9 rfl) (by decide) ?_
    exact ws_iret (dcd d_Pl_hasDoorSet_0 10 rfl) ⟨_, rfl, by decide⟩ h
  · have h := h.2 c1
    refine ws_iload_n 1 (dcd d_Pl_hasDoorSet_0 2 rfl) rfl ?_
    refine ws_aload_n 0 (dcd d_Pl_hasDoorSet_0 3 rfl) rfl ?_
    refine ws_getI f_Pl_9 rfl (dcd d_Pl_hasDoorSet_0 4 rfl) k0 ?_
    refine ws_ishr (dcd d_Pl_hasDoorSet_0 5 rfl) ?_
    refine ws_if_ne (tgt := 17) (dcd d_Pl_hasDoorSet_0 6 rfl) (by decide) (fun c2 => ?_) (fun c2 => ?_)
    · have h := h.1 c2
      refine ws_iconst (v := 0) (dcd d_Pl_hasDoorSet_0 9 rfl) (by decide) ?_
      exact ws_iret (dcd d_Pl_hasDoorSet_0 10 rfl) ⟨_, rfl, by decide⟩ h
    · have h := h.2 c2
      refine ws_iconst (v := 1) (dcd d_Pl_hasDoorSet_0 7 rfl) (by decide) ?_
      refine ws_goto (tgt := 18) (dcd d_Pl_hasDoorSet_0 8 rfl) (by decide) ?_
      exact ws_iret (dcd d_Pl_hasDoorSet_0 10 rfl) ⟨_, rfl, by decide⟩ h
theorem sg_Pl_hasShop_0 {o0 : Nat} {x1 : Int32} (k0 : okS o0 2) (h : ((x1 < 0 → Q (some (.int 0)) u) ∧ (¬ (x1 < 0) → (((mI u o0 1) ≤ x1 → Q (some (.int 0)) u) ∧ (¬ ((mI u o0 1) ≤ x1) → ((7 ≤ x1 → Q (some (.int 0)) u) ∧ (¬ (7 ≤ x1) → Q (some (.int 1)) u))))))) : Ws G Pl_hasShop 0 [(0, .ref o0), (1, .int x1)] [] u Q := by
  refine ws_iload_n 1 (dcd d_Pl_hasShop_0 0 rfl) rfl ?_
  refine ws_if_lt (tgt := 22) (dcd d_Pl_hasShop_0 1 rfl) (by decide) (fun c1 => ?_) (fun c1 => ?_)
  · have h := h.1 c1
    refine ws_iconst (v := 0) (dcd d_Pl_hasShop_0 11 rfl) (by decide) ?_
    exact ws_iret (dcd d_Pl_hasShop_0 12 rfl) ⟨_, rfl, by decide⟩ h
  · have h := h.2 c1
    refine ws_iload_n 1 (dcd d_Pl_hasShop_0 2 rfl) rfl ?_
    refine ws_aload_n 0 (dcd d_Pl_hasShop_0 3 rfl) rfl ?_
    refine ws_getI f_Pl_15 rfl (dcd d_Pl_hasShop_0 4 rfl) k0 ?_
    refine ws_icmp_ge (tgt := 22) (dcd d_Pl_hasShop_0 5 rfl) (by decide) (fun c2 => ?_) (fun c2 => ?_)
    · have h := h.1 c2
      refine ws_iconst (v := 0) (dcd d_Pl_hasShop_0 11 rfl) (by decide) ?_
      exact ws_iret (dcd d_Pl_hasShop_0 12 rfl) ⟨_, rfl, by decide⟩ h
    · have h := h.2 c2
      refine ws_iload_n 1 (dcd d_Pl_hasShop_0 6 rfl) rfl ?_
      refine ws_bipush (v := 7) (dcd d_Pl_hasShop_0 7 rfl) (by decide) ?_
      refine ws_icmp_ge (tgt := 22) (dcd d_Pl_hasShop_0 8 rfl) (by decide) (fun c3 => ?_) (fun c3 => ?_)
      · have h := h.1 c3
        refine ws_iconst (v := 0) (dcd d_Pl_hasShop_0 11 rfl) (by decide) ?_
        exact ws_iret (dcd d_Pl_hasShop_0 12 rfl) ⟨_, rfl, by decide⟩ h
      · have h := h.2 c3
        refine ws_iconst (v := 1) (dcd d_Pl_hasShop_0 9 rfl) (by decide) ?_
        refine ws_goto (tgt := 23) (dcd d_Pl_hasShop_0 10 rfl) (by decide) ?_
        exact ws_iret (dcd d_Pl_hasShop_0 12 rfl) ⟨_, rfl, by decide⟩ h
theorem sg_Pl_hasSet_0 {o0 : Nat} {x1 : Int32} (k0 : okS o0 2) (h : ((x1 < 0 → Q (some (.int 0)) u) ∧ (¬ (x1 < 0) → ((¬ (x1 >>> ((mI u o0 1) &&& 31)) = 0 → Q (some (.int 0)) u) ∧ ((x1 >>> ((mI u o0 1) &&& 31)) = 0 → Q (some (.int 1)) u))))) : Ws G Pl_hasSet 0 [(0, .ref o0), (1, .int x1)] [] u Q := by
  refine ws_iload_n 1 (dcd d_Pl_hasSet_0 0 rfl) rfl ?_
  refine ws_if_lt (tgt := 17) (dcd d_Pl_hasSet_0 1 rfl) (by decide) (fun c1 => ?_) (fun c1 => ?_)
  · have h := h.1 c1
    refine ws_iconst (v := 0) (dcd d_Pl_hasSet_0 9 rfl) (by decide) ?_
    exact ws_iret (dcd d_Pl_hasSet_0 10 rfl) ⟨_, rfl, by decide⟩ h
  · have h := h.2 c1
    refine ws_iload_n 1 (dcd d_Pl_hasSet_0 2 rfl) rfl ?_
    refine ws_aload_n 0 (dcd d_Pl_hasSet_0 3 rfl) rfl ?_
    refine ws_getI f_Pl_15 rfl (dcd d_Pl_hasSet_0 4 rfl) k0 ?_
    refine ws_ishr (dcd d_Pl_hasSet_0 5 rfl) ?_
    refine ws_if_ne (tgt := 17) (dcd d_Pl_hasSet_0 6 rfl) (by decide) (fun c2 => ?_) (fun c2 => ?_)
    · have h := h.1 c2
      refine ws_iconst (v := 0) (dcd d_Pl_hasSet_0 9 rfl) (by decide) ?_
      exact ws_iret (dcd d_Pl_hasSet_0 10 rfl) ⟨_, rfl, by decide⟩ h
    · have h := h.2 c2
      refine ws_iconst (v := 1) (dcd d_Pl_hasSet_0 7 rfl) (by decide) ?_
      refine ws_goto (tgt := 18) (dcd d_Pl_hasSet_0 8 rfl) (by decide) ?_
      exact ws_iret (dcd d_Pl_hasSet_0 10 rfl) ⟨_, rfl, by decide⟩ h
theorem sg_Pl_wrapped_0 {o0 : Nat} {x1 : Int64} (k0 : okS o0 2) (h : (((mI u o0 0) ≤ 0 → Q (some (.int 0)) u) ∧ (¬ ((mI u o0 0) ≤ 0) → (¬ ((mI u o0 0) : Int32).toInt64 = 0 ∧ Q (some (.int ((fm x1 ((mI u o0 0) : Int32).toInt64) : Int64).toInt32)) u)))) : Ws G Pl_wrapped 0 [(0, .ref o0), (1, .long x1)] [] u Q := by
  refine ws_aload_n 0 (dcd d_Pl_wrapped_0 0 rfl) rfl ?_
  refine ws_getI f_Pl_9 rfl (dcd d_Pl_wrapped_0 1 rfl) k0 ?_
  refine ws_if_le (tgt := 20) (dcd d_Pl_wrapped_0 2 rfl) (by decide) (fun c1 => ?_) (fun c1 => ?_)
  · have h := h.1 c1
    refine ws_iconst (v := 0) (dcd d_Pl_wrapped_0 10 rfl) (by decide) ?_
    exact ws_iret (dcd d_Pl_wrapped_0 11 rfl) ⟨_, rfl, rfl⟩ h
  · have h := h.2 c1
    refine ws_lload_n 1 (dcd d_Pl_wrapped_0 3 rfl) rfl ?_
    refine ws_aload_n 0 (dcd d_Pl_wrapped_0 4 rfl) rfl ?_
    refine ws_getI f_Pl_9 rfl (dcd d_Pl_wrapped_0 5 rfl) k0 ?_
    refine ws_i2l (dcd d_Pl_wrapped_0 6 rfl) ?_
    obtain ⟨e2, h⟩ := h
    refine ws_fm (st := []) (dcd d_Pl_wrapped_0 7 rfl) km_Pl_51 ms_fm in_jm mc_fm ⟨by decide, Nat.le_of_ble_eq_true rfl⟩ e2 ?_
    refine ws_l2i (dcd d_Pl_wrapped_0 8 rfl) ?_
    refine ws_goto (tgt := 21) (dcd d_Pl_wrapped_0 9 rfl) (by decide) ?_
    exact ws_iret (dcd d_Pl_wrapped_0 11 rfl) ⟨_, rfl, rfl⟩ h
theorem sg_Sn_doorOf_0 {o0 : Nat} {x1 : Int32} (k0 : okS o0 5) (h : ((x1 < 0 → Q (some (.int 0)) u) ∧ (¬ (x1 < 0) → ((7 ≤ x1 → Q (some (.int 0)) u) ∧ (¬ (7 ≤ x1) → (vp_in x1 7 ∧ Q (some (.int (mI u (o0 + 1) (x1 : Int32).toNatClampNeg))) u)))))) : Ws G Sn_doorOf 0 [(0, .ref o0), (1, .int x1)] [] u Q := by
  refine ws_iload_n 1 (dcd d_Sn_doorOf_0 0 rfl) rfl ?_
  refine ws_if_lt (tgt := 19) (dcd d_Sn_doorOf_0 1 rfl) (by decide) (fun c1 => ?_) (fun c1 => ?_)
  · have h := h.1 c1
    refine ws_iconst (v := 0) (dcd d_Sn_doorOf_0 10 rfl) (by decide) ?_
    exact ws_iret (dcd d_Sn_doorOf_0 11 rfl) ⟨_, rfl, rfl⟩ h
  · have h := h.2 c1
    refine ws_iload_n 1 (dcd d_Sn_doorOf_0 2 rfl) rfl ?_
    refine ws_bipush (v := 7) (dcd d_Sn_doorOf_0 3 rfl) (by decide) ?_
    refine ws_icmp_ge (tgt := 19) (dcd d_Sn_doorOf_0 4 rfl) (by decide) (fun c2 => ?_) (fun c2 => ?_)
    · have h := h.1 c2
      refine ws_iconst (v := 0) (dcd d_Sn_doorOf_0 10 rfl) (by decide) ?_
      exact ws_iret (dcd d_Sn_doorOf_0 11 rfl) ⟨_, rfl, rfl⟩ h
    · have h := h.2 c2
      refine ws_aload_n 0 (dcd d_Sn_doorOf_0 5 rfl) rfl ?_
      refine ws_getF (a := (o0 + 1)) f_Sn_18 rfl (dcd d_Sn_doorOf_0 6 rfl) k0 of_5_2 rfl ?_
      refine ws_iload_n 1 (dcd d_Sn_doorOf_0 7 rfl) rfl ?_
      obtain ⟨e3, h⟩ := h
      refine ws_iald (L := 7) (dcd d_Sn_doorOf_0 8 rfl) (os_5_2 k0) (ol_5_2 k0) e3 ?_
      refine ws_goto (tgt := 20) (dcd d_Sn_doorOf_0 9 rfl) (by decide) ?_
      exact ws_iret (dcd d_Sn_doorOf_0 11 rfl) ⟨_, rfl, rfl⟩ h
theorem sg_Sn_setDoor_0 {o0 : Nat} {x1 : Int32} {x2 : Int32} (k0 : okS o0 5) (h : ((x1 < 0 → Q none u) ∧ (¬ (x1 < 0) → ((7 ≤ x1 → Q none u) ∧ (¬ (7 ≤ x1) → (vp_in x1 7 ∧ Q none (pI u (o0 + 1) (x1 : Int32).toNatClampNeg x2))))))) : Ws G Sn_setDoor 0 [(0, .ref o0), (1, .int x1), (2, .int x2)] [] u Q := by
  refine ws_iload_n 1 (dcd d_Sn_setDoor_0 0 rfl) rfl ?_
  refine ws_if_lt (tgt := 17) (dcd d_Sn_setDoor_0 1 rfl) (by decide) (fun c1 => ?_) (fun c1 => ?_)
  · have h := h.1 c1
    exact ws_vret (dcd d_Sn_setDoor_0 10 rfl) rfl h
  · have h := h.2 c1
    refine ws_iload_n 1 (dcd d_Sn_setDoor_0 2 rfl) rfl ?_
    refine ws_bipush (v := 7) (dcd d_Sn_setDoor_0 3 rfl) (by decide) ?_
    refine ws_icmp_ge (tgt := 17) (dcd d_Sn_setDoor_0 4 rfl) (by decide) (fun c2 => ?_) (fun c2 => ?_)
    · have h := h.1 c2
      exact ws_vret (dcd d_Sn_setDoor_0 10 rfl) rfl h
    · have h := h.2 c2
      refine ws_aload_n 0 (dcd d_Sn_setDoor_0 5 rfl) rfl ?_
      refine ws_getF (a := (o0 + 1)) f_Sn_18 rfl (dcd d_Sn_setDoor_0 6 rfl) k0 of_5_2 rfl ?_
      refine ws_iload_n 1 (dcd d_Sn_setDoor_0 7 rfl) rfl ?_
      refine ws_iload_n 2 (dcd d_Sn_setDoor_0 8 rfl) rfl ?_
      obtain ⟨e3, h⟩ := h
      refine ws_iast (L := 7) (dcd d_Sn_setDoor_0 9 rfl) (os_5_2 k0) (ol_5_2 k0) e3 ?_
      exact ws_vret (dcd d_Sn_setDoor_0 10 rfl) rfl h
theorem sg_Sn_become_0 {o0 : Nat} {o1 : Nat} (k0 : okS o0 5) (k1 : okS o1 5) (h : ((¬ (0 : Int32) < 0 ∧ ¬ (0 : Int32) < 0 ∧ ¬ (7 : Int32) < 0 ∧ (0 : Int32).toNatClampNeg + (7 : Int32).toNatClampNeg ≤ (S0 (o1 + 1)).2 ∧ (0 : Int32).toNatClampNeg + (7 : Int32).toNatClampNeg ≤ (S0 (o0 + 1)).2) ∧ Q none (cpI (pI (pI u o0 0 (mI u o1 0)) o0 1 (mI (pI u o0 0 (mI u o1 0)) o1 1)) (o1 + 1) (o0 + 1) (0 : Int32).toNatClampNeg (0 : Int32).toNatClampNeg (7 : Int32).toNatClampNeg))) : Ws G Sn_become 0 [(0, .ref o0), (1, .ref o1)] [] u Q := by
  refine ws_aload_n 0 (dcd d_Sn_become_0 0 rfl) rfl ?_
  refine ws_aload_n 1 (dcd d_Sn_become_0 1 rfl) rfl ?_
  refine ws_getI f_Sn_9 rfl (dcd d_Sn_become_0 2 rfl) k1 ?_
  refine ws_putI f_Sn_9 rfl nf_5_0 (dcd d_Sn_become_0 3 rfl) k0 ?_
  refine ws_aload_n 0 (dcd d_Sn_become_0 4 rfl) rfl ?_
  refine ws_aload_n 1 (dcd d_Sn_become_0 5 rfl) rfl ?_
  refine ws_getI f_Sn_15 rfl (dcd d_Sn_become_0 6 rfl) k1 ?_
  refine ws_putI f_Sn_15 rfl nf_5_1 (dcd d_Sn_become_0 7 rfl) k0 ?_
  refine ws_aload_n 1 (dcd d_Sn_become_0 8 rfl) rfl ?_
  refine ws_getF (a := (o1 + 1)) f_Sn_18 rfl (dcd d_Sn_become_0 9 rfl) k1 of_5_2 rfl ?_
  refine ws_iconst (v := 0) (dcd d_Sn_become_0 10 rfl) (by decide) ?_
  refine ws_aload_n 0 (dcd d_Sn_become_0 11 rfl) rfl ?_
  refine ws_getF (a := (o0 + 1)) f_Sn_18 rfl (dcd d_Sn_become_0 12 rfl) k0 of_5_2 rfl ?_
  refine ws_iconst (v := 0) (dcd d_Sn_become_0 13 rfl) (by decide) ?_
  refine ws_bipush (v := 7) (dcd d_Sn_become_0 14 rfl) (by decide) ?_
  obtain ⟨e1, h⟩ := h
  refine ws_copy (st := []) (dcd d_Sn_become_0 15 rfl) kc_Sn_40 kc_n kc_s kc_i (by decide) (Nat.le_of_ble_eq_true rfl) (os_5_2 k1) (os_5_2 k0) e1.1 e1.2.1 e1.2.2.1 e1.2.2.2.1 e1.2.2.2.2 ?_
  exact ws_vret (dcd d_Sn_become_0 16 rfl) rfl h
theorem sg_D_found_0 {x1 : Int32}  (h : ((x1 < 1 → Q (some (.int (-3))) u) ∧ (¬ (x1 < 1) → ((5 < x1 → Q (some (.int (-3))) u) ∧ (¬ (5 < x1) → (vp_in x1 6 ∧ (vp_in x1 6 ∧ Q (some (.int (-3))) (pI (pI u 2 15 x1) 21 (x1 : Int32).toNatClampNeg ((mI (pI u 2 15 x1) 21 (x1 : Int32).toNatClampNeg) + 1))))))))) : Ws G D_found 0 [(0, .ref 2), (1, .int x1)] [] u Q := by
  refine ws_iload_n 1 (dcd d_D_found_0 0 rfl) rfl ?_
  refine ws_iconst (v := 1) (dcd d_D_found_0 1 rfl) (by decide) ?_
  refine ws_icmp_lt (tgt := 25) (dcd d_D_found_0 2 rfl) (by decide) (fun c1 => ?_) (fun c1 => ?_)
  · have h := h.1 c1
    refine ws_bipush (v := (-3)) (dcd d_D_found_0 17 rfl) (by decide) ?_
    exact ws_iret (dcd d_D_found_0 18 rfl) ⟨_, rfl, rfl⟩ h
  · have h := h.2 c1
    refine ws_iload_n 1 (dcd d_D_found_0 3 rfl) rfl ?_
    refine ws_iconst (v := 5) (dcd d_D_found_0 4 rfl) (by decide) ?_
    refine ws_icmp_gt (tgt := 25) (dcd d_D_found_0 5 rfl) (by decide) (fun c2 => ?_) (fun c2 => ?_)
    · have h := h.1 c2
      refine ws_bipush (v := (-3)) (dcd d_D_found_0 17 rfl) (by decide) ?_
      exact ws_iret (dcd d_D_found_0 18 rfl) ⟨_, rfl, rfl⟩ h
    · have h := h.2 c2
      refine ws_aload_n 0 (dcd d_D_found_0 6 rfl) rfl ?_
      refine ws_iload_n 1 (dcd d_D_found_0 7 rfl) rfl ?_
      refine ws_putI f_D_81 rfl nf_7_15 (dcd d_D_found_0 8 rfl) ok_2 ?_
      refine ws_aload_n 0 (dcd d_D_found_0 9 rfl) rfl ?_
      refine ws_getF (a := 21) f_D_56 rfl (dcd d_D_found_0 10 rfl) ok_2 of_7_9 rfl ?_
      refine ws_iload_n 1 (dcd d_D_found_0 11 rfl) rfl ?_
      refine ws_dup2 (dcd d_D_found_0 12 rfl) rfl rfl ?_
      obtain ⟨e3, h⟩ := h
      refine ws_iald (L := 6) (dcd d_D_found_0 13 rfl) (os_7_9 ok_2) (ol_7_9 ok_2) e3 ?_
      refine ws_iconst (v := 1) (dcd d_D_found_0 14 rfl) (by decide) ?_
      refine ws_iadd (dcd d_D_found_0 15 rfl) ?_
      obtain ⟨e4, h⟩ := h
      refine ws_iast (L := 6) (dcd d_D_found_0 16 rfl) (os_7_9 ok_2) (ol_7_9 ok_2) e4 ?_
      refine ws_bipush (v := (-3)) (dcd d_D_found_0 17 rfl) (by decide) ?_
      exact ws_iret (dcd d_D_found_0 18 rfl) ⟨_, rfl, rfl⟩ h
theorem sg_D_tell_0 {x1 : Int32} {x2 : Int32}  (h : Q (some (.int x2)) (pI u 2 12 x1)) : Ws G D_tell 0 [(0, .ref 2), (1, .int x1), (2, .int x2)] [] u Q := by
  refine ws_aload_n 0 (dcd d_D_tell_0 0 rfl) rfl ?_
  refine ws_iload_n 1 (dcd d_D_tell_0 1 rfl) rfl ?_
  refine ws_putI f_D_70 rfl nf_7_12 (dcd d_D_tell_0 2 rfl) ok_2 ?_
  refine ws_iload_n 2 (dcd d_D_tell_0 3 rfl) rfl ?_
  exact ws_iret (dcd d_D_tell_0 4 rfl) ⟨_, rfl, rfl⟩ h
theorem sg_D_isRow_0 {x0 : Int32}  (h : ((x0 < 0 → Q (some (.int 0)) u) ∧ (¬ (x0 < 0) → ((6 ≤ x0 → Q (some (.int 0)) u) ∧ (¬ (6 ≤ x0) → Q (some (.int 1)) u))))) : Ws G D_isRow 0 [(0, .int x0)] [] u Q := by
  refine ws_iload_n 0 (dcd d_D_isRow_0 0 rfl) rfl ?_
  refine ws_if_lt (tgt := 14) (dcd d_D_isRow_0 1 rfl) (by decide) (fun c1 => ?_) (fun c1 => ?_)
  · have h := h.1 c1
    refine ws_iconst (v := 0) (dcd d_D_isRow_0 7 rfl) (by decide) ?_
    exact ws_iret (dcd d_D_isRow_0 8 rfl) ⟨_, rfl, by decide⟩ h
  · have h := h.2 c1
    refine ws_iload_n 0 (dcd d_D_isRow_0 2 rfl) rfl ?_
    refine ws_bipush (v := 6) (dcd d_D_isRow_0 3 rfl) (by decide) ?_
    refine ws_icmp_ge (tgt := 14) (dcd d_D_isRow_0 4 rfl) (by decide) (fun c2 => ?_) (fun c2 => ?_)
    · have h := h.1 c2
      refine ws_iconst (v := 0) (dcd d_D_isRow_0 7 rfl) (by decide) ?_
      exact ws_iret (dcd d_D_isRow_0 8 rfl) ⟨_, rfl, by decide⟩ h
    · have h := h.2 c2
      refine ws_iconst (v := 1) (dcd d_D_isRow_0 5 rfl) (by decide) ?_
      refine ws_goto (tgt := 15) (dcd d_D_isRow_0 6 rfl) (by decide) ?_
      exact ws_iret (dcd d_D_isRow_0 8 rfl) ⟨_, rfl, by decide⟩ h
theorem sg_D_isText_0 {x0 : Int32}  (h : ((x0 < 0 → Q (some (.int 0)) u) ∧ (¬ (x0 < 0) → ((4 ≤ x0 → Q (some (.int 0)) u) ∧ (¬ (4 ≤ x0) → Q (some (.int 1)) u))))) : Ws G D_isText 0 [(0, .int x0)] [] u Q := by
  refine ws_iload_n 0 (dcd d_D_isText_0 0 rfl) rfl ?_
  refine ws_if_lt (tgt := 13) (dcd d_D_isText_0 1 rfl) (by decide) (fun c1 => ?_) (fun c1 => ?_)
  · have h := h.1 c1
    refine ws_iconst (v := 0) (dcd d_D_isText_0 7 rfl) (by decide) ?_
    exact ws_iret (dcd d_D_isText_0 8 rfl) ⟨_, rfl, by decide⟩ h
  · have h := h.2 c1
    refine ws_iload_n 0 (dcd d_D_isText_0 2 rfl) rfl ?_
    refine ws_iconst (v := 4) (dcd d_D_isText_0 3 rfl) (by decide) ?_
    refine ws_icmp_ge (tgt := 13) (dcd d_D_isText_0 4 rfl) (by decide) (fun c2 => ?_) (fun c2 => ?_)
    · have h := h.1 c2
      refine ws_iconst (v := 0) (dcd d_D_isText_0 7 rfl) (by decide) ?_
      exact ws_iret (dcd d_D_isText_0 8 rfl) ⟨_, rfl, by decide⟩ h
    · have h := h.2 c2
      refine ws_iconst (v := 1) (dcd d_D_isText_0 5 rfl) (by decide) ?_
      refine ws_goto (tgt := 14) (dcd d_D_isText_0 6 rfl) (by decide) ?_
      exact ws_iret (dcd d_D_isText_0 8 rfl) ⟨_, rfl, by decide⟩ h
theorem sg_D_isKeptPlace_0 {x0 : Int32}  (h : ((x0 < 0 → Q (some (.int 0)) u) ∧ (¬ (x0 < 0) → ((3 ≤ x0 → Q (some (.int 0)) u) ∧ (¬ (3 ≤ x0) → Q (some (.int 1)) u))))) : Ws G D_isKeptPlace 0 [(0, .int x0)] [] u Q := by
  refine ws_iload_n 0 (dcd d_D_isKeptPlace_0 0 rfl) rfl ?_
  refine ws_if_lt (tgt := 13) (dcd d_D_isKeptPlace_0 1 rfl) (by decide) (fun c1 => ?_) (fun c1 => ?_)
  · have h := h.1 c1
    refine ws_iconst (v := 0) (dcd d_D_isKeptPlace_0 7 rfl) (by decide) ?_
    exact ws_iret (dcd d_D_isKeptPlace_0 8 rfl) ⟨_, rfl, by decide⟩ h
  · have h := h.2 c1
    refine ws_iload_n 0 (dcd d_D_isKeptPlace_0 2 rfl) rfl ?_
    refine ws_iconst (v := 3) (dcd d_D_isKeptPlace_0 3 rfl) (by decide) ?_
    refine ws_icmp_ge (tgt := 13) (dcd d_D_isKeptPlace_0 4 rfl) (by decide) (fun c2 => ?_) (fun c2 => ?_)
    · have h := h.1 c2
      refine ws_iconst (v := 0) (dcd d_D_isKeptPlace_0 7 rfl) (by decide) ?_
      exact ws_iret (dcd d_D_isKeptPlace_0 8 rfl) ⟨_, rfl, by decide⟩ h
    · have h := h.2 c2
      refine ws_iconst (v := 1) (dcd d_D_isKeptPlace_0 5 rfl) (by decide) ?_
      refine ws_goto (tgt := 14) (dcd d_D_isKeptPlace_0 6 rfl) (by decide) ?_
      exact ws_iret (dcd d_D_isKeptPlace_0 8 rfl) ⟨_, rfl, by decide⟩ h
theorem sg_D_isLook_0 {x0 : Int32}  (h : ((x0 < 1 → Q (some (.int 0)) u) ∧ (¬ (x0 < 1) → ((60 < x0 → Q (some (.int 0)) u) ∧ (¬ (60 < x0) → Q (some (.int 1)) u))))) : Ws G D_isLook 0 [(0, .int x0)] [] u Q := by
  refine ws_iload_n 0 (dcd d_D_isLook_0 0 rfl) rfl ?_
  refine ws_iconst (v := 1) (dcd d_D_isLook_0 1 rfl) (by decide) ?_
  refine ws_icmp_lt (tgt := 15) (dcd d_D_isLook_0 2 rfl) (by decide) (fun c1 => ?_) (fun c1 => ?_)
  · have h := h.1 c1
    refine ws_iconst (v := 0) (dcd d_D_isLook_0 8 rfl) (by decide) ?_
    exact ws_iret (dcd d_D_isLook_0 9 rfl) ⟨_, rfl, by decide⟩ h
  · have h := h.2 c1
    refine ws_iload_n 0 (dcd d_D_isLook_0 3 rfl) rfl ?_
    refine ws_bipush (v := 60) (dcd d_D_isLook_0 4 rfl) (by decide) ?_
    refine ws_icmp_gt (tgt := 15) (dcd d_D_isLook_0 5 rfl) (by decide) (fun c2 => ?_) (fun c2 => ?_)
    · have h := h.1 c2
      refine ws_iconst (v := 0) (dcd d_D_isLook_0 8 rfl) (by decide) ?_
      exact ws_iret (dcd d_D_isLook_0 9 rfl) ⟨_, rfl, by decide⟩ h
    · have h := h.2 c2
      refine ws_iconst (v := 1) (dcd d_D_isLook_0 6 rfl) (by decide) ?_
      refine ws_goto (tgt := 16) (dcd d_D_isLook_0 7 rfl) (by decide) ?_
      exact ws_iret (dcd d_D_isLook_0 9 rfl) ⟨_, rfl, by decide⟩ h
theorem sg_D_isIn_0 {x0 : Int32} {x1 : Int32}  (h : ((x1 < 0 → Q (some (.int 0)) u) ∧ (¬ (x1 < 0) → ((31 ≤ x1 → Q (some (.int 0)) u) ∧ (¬ (31 ≤ x1) → ((¬ ((x0 >>> (x1 &&& 31)) &&& 1) = 1 → Q (some (.int 0)) u) ∧ (((x0 >>> (x1 &&& 31)) &&& 1) = 1 → Q (some (.int 1)) u))))))) : Ws G D_isIn 0 [(0, .int x0), (1, .int x1)] [] u Q := by
  refine ws_iload_n 1 (dcd d_D_isIn_0 0 rfl) rfl ?_
  refine ws_if_lt (tgt := 23) (dcd d_D_isIn_0 1 rfl) (by decide) (fun c1 => ?_) (fun c1 => ?_)
  · have h := h.1 c1
    refine ws_iconst (v := 0) (dcd d_D_isIn_0 14 rfl) (by decide) ?_
    exact ws_iret (dcd d_D_isIn_0 15 rfl) ⟨_, rfl, by decide⟩ h
  · have h := h.2 c1
    refine ws_iload_n 1 (dcd d_D_isIn_0 2 rfl) rfl ?_
    refine ws_bipush (v := 31) (dcd d_D_isIn_0 3 rfl) (by decide) ?_
    refine ws_icmp_ge (tgt := 23) (dcd d_D_isIn_0 4 rfl) (by decide) (fun c2 => ?_) (fun c2 => ?_)
    · have h := h.1 c2
      refine ws_iconst (v := 0) (dcd d_D_isIn_0 14 rfl) (by decide) ?_
      exact ws_iret (dcd d_D_isIn_0 15 rfl) ⟨_, rfl, by decide⟩ h
    · have h := h.2 c2
      refine ws_iload_n 0 (dcd d_D_isIn_0 5 rfl) rfl ?_
      refine ws_iload_n 1 (dcd d_D_isIn_0 6 rfl) rfl ?_
      refine ws_ishr (dcd d_D_isIn_0 7 rfl) ?_
      refine ws_iconst (v := 1) (dcd d_D_isIn_0 8 rfl) (by decide) ?_
      refine ws_iand (dcd d_D_isIn_0 9 rfl) ?_
      refine ws_iconst (v := 1) (dcd d_D_isIn_0 10 rfl) (by decide) ?_
      refine ws_icmp_ne (tgt := 23) (dcd d_D_isIn_0 11 rfl) (by decide) (fun c3 => ?_) (fun c3 => ?_)
      · have h := h.1 c3
        refine ws_iconst (v := 0) (dcd d_D_isIn_0 14 rfl) (by decide) ?_
        exact ws_iret (dcd d_D_isIn_0 15 rfl) ⟨_, rfl, by decide⟩ h
      · have h := h.2 c3
        refine ws_iconst (v := 1) (dcd d_D_isIn_0 12 rfl) (by decide) ?_
        refine ws_goto (tgt := 24) (dcd d_D_isIn_0 13 rfl) (by decide) ?_
        exact ws_iret (dcd d_D_isIn_0 15 rfl) ⟨_, rfl, by decide⟩ h
theorem sg_D_pairCode_0 {x0 : Int32} {x1 : Int32}  (h : Q (some (.int (((100 * x0) + x1) + 9))) u) : Ws G D_pairCode 0 [(0, .int x0), (1, .int x1)] [] u Q := by
  refine ws_bipush (v := 100) (dcd d_D_pairCode_0 0 rfl) (by decide) ?_
  refine ws_iload_n 0 (dcd d_D_pairCode_0 1 rfl) rfl ?_
  refine ws_imul (dcd d_D_pairCode_0 2 rfl) ?_
  refine ws_iload_n 1 (dcd d_D_pairCode_0 3 rfl) rfl ?_
  refine ws_iadd (dcd d_D_pairCode_0 4 rfl) ?_
  refine ws_bipush (v := 9) (dcd d_D_pairCode_0 5 rfl) (by decide) ?_
  refine ws_iadd (dcd d_D_pairCode_0 6 rfl) ?_
  exact ws_iret (dcd d_D_pairCode_0 7 rfl) ⟨_, rfl, rfl⟩ h
theorem sg_Er_shiftOf_0 {x0 : Int32}  (h : Q (some (.int (5 * (6 - x0)))) u) : Ws G Er_shiftOf 0 [(0, .int x0)] [] u Q := by
  refine ws_iconst (v := 5) (dcd d_Er_shiftOf_0 0 rfl) (by decide) ?_
  refine ws_bipush (v := 6) (dcd d_Er_shiftOf_0 1 rfl) (by decide) ?_
  refine ws_iload_n 0 (dcd d_Er_shiftOf_0 2 rfl) rfl ?_
  refine ws_isub (dcd d_Er_shiftOf_0 3 rfl) ?_
  refine ws_imul (dcd d_Er_shiftOf_0 4 rfl) ?_
  exact ws_iret (dcd d_Er_shiftOf_0 5 rfl) ⟨_, rfl, rfl⟩ h
theorem sg_Rd_isFigure_0 {x0 : Int32}  (h : ((x0 < 48 → Q (some (.int 0)) u) ∧ (¬ (x0 < 48) → ((57 < x0 → Q (some (.int 0)) u) ∧ (¬ (57 < x0) → Q (some (.int 1)) u))))) : Ws G Rd_isFigure 0 [(0, .int x0)] [] u Q := by
  refine ws_iload_n 0 (dcd d_Rd_isFigure_0 0 rfl) rfl ?_
  refine ws_bipush (v := 48) (dcd d_Rd_isFigure_0 1 rfl) (by decide) ?_
  refine ws_icmp_lt (tgt := 16) (dcd d_Rd_isFigure_0 2 rfl) (by decide) (fun c1 => ?_) (fun c1 => ?_)
  · have h := h.1 c1
    refine ws_iconst (v := 0) (dcd d_Rd_isFigure_0 8 rfl) (by decide) ?_
    exact ws_iret (dcd d_Rd_isFigure_0 9 rfl) ⟨_, rfl, by decide⟩ h
  · have h := h.2 c1
    refine ws_iload_n 0 (dcd d_Rd_isFigure_0 3 rfl) rfl ?_
    refine ws_bipush (v := 57) (dcd d_Rd_isFigure_0 4 rfl) (by decide) ?_
    refine ws_icmp_gt (tgt := 16) (dcd d_Rd_isFigure_0 5 rfl) (by decide) (fun c2 => ?_) (fun c2 => ?_)
    · have h := h.1 c2
      refine ws_iconst (v := 0) (dcd d_Rd_isFigure_0 8 rfl) (by decide) ?_
      exact ws_iret (dcd d_Rd_isFigure_0 9 rfl) ⟨_, rfl, by decide⟩ h
    · have h := h.2 c2
      refine ws_iconst (v := 1) (dcd d_Rd_isFigure_0 6 rfl) (by decide) ?_
      refine ws_goto (tgt := 17) (dcd d_Rd_isFigure_0 7 rfl) (by decide) ?_
      exact ws_iret (dcd d_Rd_isFigure_0 9 rfl) ⟨_, rfl, by decide⟩ h
theorem sg_Rd_isAtEnd_0 {o0 : Nat} (k0 : okS o0 3) (h : (okS (mR u o0 0) 6 → (((mI u o0 1) < (mI u (mR u o0 0) 1) → Q (some (.int 0)) u) ∧ (¬ ((mI u o0 1) < (mI u (mR u o0 0) 1)) → Q (some (.int 1)) u)))) : Ws G Rd_isAtEnd 0 [(0, .ref o0)] [] u Q := by
  refine ws_aload_n 0 (dcd d_Rd_isAtEnd_0 0 rfl) rfl ?_
  refine ws_getI f_Rd_20 rfl (dcd d_Rd_isAtEnd_0 1 rfl) k0 ?_
  refine ws_aload_n 0 (dcd d_Rd_isAtEnd_0 2 rfl) rfl ?_
  refine ws_getT f_Rd_14 (dcd d_Rd_isAtEnd_0 3 rfl) k0 (fun j1 => ?_)
  have h := h j1
  refine ws_getI f_Rd_27 rfl (dcd d_Rd_isAtEnd_0 4 rfl) j1 ?_
  refine ws_icmp_lt (tgt := 18) (dcd d_Rd_isAtEnd_0 5 rfl) (by decide) (fun c2 => ?_) (fun c2 => ?_)
  · have h := h.1 c2
    refine ws_iconst (v := 0) (dcd d_Rd_isAtEnd_0 8 rfl) (by decide) ?_
    exact ws_iret (dcd d_Rd_isAtEnd_0 9 rfl) ⟨_, rfl, by decide⟩ h
  · have h := h.2 c2
    refine ws_iconst (v := 1) (dcd d_Rd_isAtEnd_0 6 rfl) (by decide) ?_
    refine ws_goto (tgt := 19) (dcd d_Rd_isAtEnd_0 7 rfl) (by decide) ?_
    exact ws_iret (dcd d_Rd_isAtEnd_0 9 rfl) ⟨_, rfl, by decide⟩ h
theorem sg_Rd_begin_0 {o0 : Nat} {o1 : Nat} (k0 : okS o0 3) (k1 : okS o1 6) (h : Q none (pI (pR u o0 0 o1) o0 1 0)) : Ws G Rd_begin 0 [(0, .ref o0), (1, .ref o1)] [] u Q := by
  refine ws_aload_n 0 (dcd d_Rd_begin_0 0 rfl) rfl ?_
  refine ws_aload_n 1 (dcd d_Rd_begin_0 1 rfl) rfl ?_
  refine ws_putT f_Rd_14 nf_3_0 (dcd d_Rd_begin_0 2 rfl) k0 k1 ?_
  refine ws_aload_n 0 (dcd d_Rd_begin_0 3 rfl) rfl ?_
  refine ws_iconst (v := 0) (dcd d_Rd_begin_0 4 rfl) (by decide) ?_
  refine ws_putI f_Rd_20 rfl nf_3_1 (dcd d_Rd_begin_0 5 rfl) k0 ?_
  exact ws_vret (dcd d_Rd_begin_0 6 rfl) rfl h
theorem sg_ji_bitCount_0 {x0 : Int32}  (h : Q (some (.int ((((((((x0 - (((x0 : Int32).toUInt32 >>> ((1 : Int32).toUInt32 &&& Int32.toUInt32 31)).toInt32 &&& 1431655765)) &&& 858993459) + ((((x0 - (((x0 : Int32).toUInt32 >>> ((1 : Int32).toUInt32 &&& Int32.toUInt32 31)).toInt32 &&& 1431655765)) : Int32).toUInt32 >>> ((2 : Int32).toUInt32 &&& Int32.toUInt32 31)).toInt32 &&& 858993459)) + (((((x0 - (((x0 : Int32).toUInt32 >>> ((1 : Int32).toUInt32 &&& Int32.toUInt32 31)).toInt32 &&& 1431655765)) &&& 858993459) + ((((x0 - (((x0 : Int32).toUInt32 >>> ((1 : Int32).toUInt32 &&& Int32.toUInt32 31)).toInt32 &&& 1431655765)) : Int32).toUInt32 >>> ((2 : Int32).toUInt32 &&& Int32.toUInt32 31)).toInt32 &&& 858993459)) : Int32).toUInt32 >>> ((4 : Int32).toUInt32 &&& Int32.toUInt32 31)).toInt32) &&& 252645135) + (((((((x0 - (((x0 : Int32).toUInt32 >>> ((1 : Int32).toUInt32 &&& Int32.toUInt32 31)).toInt32 &&& 1431655765)) &&& 858993459) + ((((x0 - (((x0 : Int32).toUInt32 >>> ((1 : Int32).toUInt32 &&& Int32.toUInt32 31)).toInt32 &&& 1431655765)) : Int32).toUInt32 >>> ((2 : Int32).toUInt32 &&& Int32.toUInt32 31)).toInt32 &&& 858993459)) + (((((x0 - (((x0 : Int32).toUInt32 >>> ((1 : Int32).toUInt32 &&& Int32.toUInt32 31)).toInt32 &&& 1431655765)) &&& 858993459) + ((((x0 - (((x0 : Int32).toUInt32 >>> ((1 : Int32).toUInt32 &&& Int32.toUInt32 31)).toInt32 &&& 1431655765)) : Int32).toUInt32 >>> ((2 : Int32).toUInt32 &&& Int32.toUInt32 31)).toInt32 &&& 858993459)) : Int32).toUInt32 >>> ((4 : Int32).toUInt32 &&& Int32.toUInt32 31)).toInt32) &&& 252645135) : Int32).toUInt32 >>> ((8 : Int32).toUInt32 &&& Int32.toUInt32 31)).toInt32) + ((((((((x0 - (((x0 : Int32).toUInt32 >>> ((1 : Int32).toUInt32 &&& Int32.toUInt32 31)).toInt32 &&& 1431655765)) &&& 858993459) + ((((x0 - (((x0 : Int32).toUInt32 >>> ((1 : Int32).toUInt32 &&& Int32.toUInt32 31)).toInt32 &&& 1431655765)) : Int32).toUInt32 >>> ((2 : Int32).toUInt32 &&& Int32.toUInt32 31)).toInt32 &&& 858993459)) + (((((x0 - (((x0 : Int32).toUInt32 >>> ((1 : Int32).toUInt32 &&& Int32.toUInt32 31)).toInt32 &&& 1431655765)) &&& 858993459) + ((((x0 - (((x0 : Int32).toUInt32 >>> ((1 : Int32).toUInt32 &&& Int32.toUInt32 31)).toInt32 &&& 1431655765)) : Int32).toUInt32 >>> ((2 : Int32).toUInt32 &&& Int32.toUInt32 31)).toInt32 &&& 858993459)) : Int32).toUInt32 >>> ((4 : Int32).toUInt32 &&& Int32.toUInt32 31)).toInt32) &&& 252645135) + (((((((x0 - (((x0 : Int32).toUInt32 >>> ((1 : Int32).toUInt32 &&& Int32.toUInt32 31)).toInt32 &&& 1431655765)) &&& 858993459) + ((((x0 - (((x0 : Int32).toUInt32 >>> ((1 : Int32).toUInt32 &&& Int32.toUInt32 31)).toInt32 &&& 1431655765)) : Int32).toUInt32 >>> ((2 : Int32).toUInt32 &&& Int32.toUInt32 31)).toInt32 &&& 858993459)) + (((((x0 - (((x0 : Int32).toUInt32 >>> ((1 : Int32).toUInt32 &&& Int32.toUInt32 31)).toInt32 &&& 1431655765)) &&& 858993459) + ((((x0 - (((x0 : Int32).toUInt32 >>> ((1 : Int32).toUInt32 &&& Int32.toUInt32 31)).toInt32 &&& 1431655765)) : Int32).toUInt32 >>> ((2 : Int32).toUInt32 &&& Int32.toUInt32 31)).toInt32 &&& 858993459)) : Int32).toUInt32 >>> ((4 : Int32).toUInt32 &&& Int32.toUInt32 31)).toInt32) &&& 252645135) : Int32).toUInt32 >>> ((8 : Int32).toUInt32 &&& Int32.toUInt32 31)).toInt32) : Int32).toUInt32 >>> ((16 : Int32).toUInt32 &&& Int32.toUInt32 31)).toInt32) &&& 63))) u) : Ws G ji_bitCount 0 [(0, .int x0)] [] u Q := by
  refine ws_iload_n 0 (dcd d_ji_bitCount_0 0 rfl) rfl ?_
  refine ws_iload_n 0 (dcd d_ji_bitCount_0 1 rfl) rfl ?_
  refine ws_iconst (v := 1) (dcd d_ji_bitCount_0 2 rfl) (by decide) ?_
  refine ws_iushr (dcd d_ji_bitCount_0 3 rfl) ?_
  refine ws_ldcw (dcd d_ji_bitCount_0 4 rfl) q_ji_265 ?_
  refine ws_iand (dcd d_ji_bitCount_0 5 rfl) ?_
  refine ws_isub (dcd d_ji_bitCount_0 6 rfl) ?_
  refine ws_istore_n (l' := [(0, .int (x0 - (((x0 : Int32).toUInt32 >>> ((1 : Int32).toUInt32 &&& Int32.toUInt32 31)).toInt32 &&& 1431655765)))]) (dcd d_ji_bitCount_0 7 rfl) (by decide) rfl ?_
  refine ws_iload_n 0 (dcd d_ji_bitCount_0 8 rfl) rfl ?_
  refine ws_ldcw (dcd d_ji_bitCount_0 9 rfl) q_ji_266 ?_
  refine ws_iand (dcd d_ji_bitCount_0 10 rfl) ?_
  refine ws_iload_n 0 (dcd d_ji_bitCount_0 11 rfl) rfl ?_
  refine ws_iconst (v := 2) (dcd d_ji_bitCount_0 12 rfl) (by decide) ?_
  refine ws_iushr (dcd d_ji_bitCount_0 13 rfl) ?_
  refine ws_ldcw (dcd d_ji_bitCount_0 14 rfl) q_ji_266 ?_
  refine ws_iand (dcd d_ji_bitCount_0 15 rfl) ?_
  refine ws_iadd (dcd d_ji_bitCount_0 16 rfl) ?_
  refine ws_istore_n (l' := [(0, .int (((x0 - (((x0 : Int32).toUInt32 >>> ((1 : Int32).toUInt32 &&& Int32.toUInt32 31)).toInt32 &&& 1431655765)) &&& 858993459) + ((((x0 - (((x0 : Int32).toUInt32 >>> ((1 : Int32).toUInt32 &&& Int32.toUInt32 31)).toInt32 &&& 1431655765)) : Int32).toUInt32 >>> ((2 : Int32).toUInt32 &&& Int32.toUInt32 31)).toInt32 &&& 858993459)))]) (dcd d_ji_bitCount_0 17 rfl) (by decide) rfl ?_
  refine ws_iload_n 0 (dcd d_ji_bitCount_0 18 rfl) rfl ?_
  refine ws_iload_n 0 (dcd d_ji_bitCount_0 19 rfl) rfl ?_
  refine ws_iconst (v := 4) (dcd d_ji_bitCount_0 20 rfl) (by decide) ?_
  refine ws_iushr (dcd d_ji_bitCount_0 21 rfl) ?_
  refine ws_iadd (dcd d_ji_bitCount_0 22 rfl) ?_
  refine ws_ldcw (dcd d_ji_bitCount_0 23 rfl) q_ji_267 ?_
  refine ws_iand (dcd d_ji_bitCount_0 24 rfl) ?_
  refine ws_istore_n (l' := [(0, .int (((((x0 - (((x0 : Int32).toUInt32 >>> ((1 : Int32).toUInt32 &&& Int32.toUInt32 31)).toInt32 &&& 1431655765)) &&& 858993459) + ((((x0 - (((x0 : Int32).toUInt32 >>> ((1 : Int32).toUInt32 &&& Int32.toUInt32 31)).toInt32 &&& 1431655765)) : Int32).toUInt32 >>> ((2 : Int32).toUInt32 &&& Int32.toUInt32 31)).toInt32 &&& 858993459)) + (((((x0 - (((x0 : Int32).toUInt32 >>> ((1 : Int32).toUInt32 &&& Int32.toUInt32 31)).toInt32 &&& 1431655765)) &&& 858993459) + ((((x0 - (((x0 : Int32).toUInt32 >>> ((1 : Int32).toUInt32 &&& Int32.toUInt32 31)).toInt32 &&& 1431655765)) : Int32).toUInt32 >>> ((2 : Int32).toUInt32 &&& Int32.toUInt32 31)).toInt32 &&& 858993459)) : Int32).toUInt32 >>> ((4 : Int32).toUInt32 &&& Int32.toUInt32 31)).toInt32) &&& 252645135))]) (dcd d_ji_bitCount_0 25 rfl) (by decide) rfl ?_
  refine ws_iload_n 0 (dcd d_ji_bitCount_0 26 rfl) rfl ?_
  refine ws_iload_n 0 (dcd d_ji_bitCount_0 27 rfl) rfl ?_
  refine ws_bipush (v := 8) (dcd d_ji_bitCount_0 28 rfl) (by decide) ?_
  refine ws_iushr (dcd d_ji_bitCount_0 29 rfl) ?_
  refine ws_iadd (dcd d_ji_bitCount_1 0 rfl) ?_
  refine ws_istore_n (l' := [(0, .int ((((((x0 - (((x0 : Int32).toUInt32 >>> ((1 : Int32).toUInt32 &&& Int32.toUInt32 31)).toInt32 &&& 1431655765)) &&& 858993459) + ((((x0 - (((x0 : Int32).toUInt32 >>> ((1 : Int32).toUInt32 &&& Int32.toUInt32 31)).toInt32 &&& 1431655765)) : Int32).toUInt32 >>> ((2 : Int32).toUInt32 &&& Int32.toUInt32 31)).toInt32 &&& 858993459)) + (((((x0 - (((x0 : Int32).toUInt32 >>> ((1 : Int32).toUInt32 &&& Int32.toUInt32 31)).toInt32 &&& 1431655765)) &&& 858993459) + ((((x0 - (((x0 : Int32).toUInt32 >>> ((1 : Int32).toUInt32 &&& Int32.toUInt32 31)).toInt32 &&& 1431655765)) : Int32).toUInt32 >>> ((2 : Int32).toUInt32 &&& Int32.toUInt32 31)).toInt32 &&& 858993459)) : Int32).toUInt32 >>> ((4 : Int32).toUInt32 &&& Int32.toUInt32 31)).toInt32) &&& 252645135) + (((((((x0 - (((x0 : Int32).toUInt32 >>> ((1 : Int32).toUInt32 &&& Int32.toUInt32 31)).toInt32 &&& 1431655765)) &&& 858993459) + ((((x0 - (((x0 : Int32).toUInt32 >>> ((1 : Int32).toUInt32 &&& Int32.toUInt32 31)).toInt32 &&& 1431655765)) : Int32).toUInt32 >>> ((2 : Int32).toUInt32 &&& Int32.toUInt32 31)).toInt32 &&& 858993459)) + (((((x0 - (((x0 : Int32).toUInt32 >>> ((1 : Int32).toUInt32 &&& Int32.toUInt32 31)).toInt32 &&& 1431655765)) &&& 858993459) + ((((x0 - (((x0 : Int32).toUInt32 >>> ((1 : Int32).toUInt32 &&& Int32.toUInt32 31)).toInt32 &&& 1431655765)) : Int32).toUInt32 >>> ((2 : Int32).toUInt32 &&& Int32.toUInt32 31)).toInt32 &&& 858993459)) : Int32).toUInt32 >>> ((4 : Int32).toUInt32 &&& Int32.toUInt32 31)).toInt32) &&& 252645135) : Int32).toUInt32 >>> ((8 : Int32).toUInt32 &&& Int32.toUInt32 31)).toInt32))]) (dcd d_ji_bitCount_1 1 rfl) (by decide) rfl ?_
  refine ws_iload_n 0 (dcd d_ji_bitCount_1 2 rfl) rfl ?_
  refine ws_iload_n 0 (dcd d_ji_bitCount_1 3 rfl) rfl ?_
  refine ws_bipush (v := 16) (dcd d_ji_bitCount_1 4 rfl) (by decide) ?_
  refine ws_iushr (dcd d_ji_bitCount_1 5 rfl) ?_
  refine ws_iadd (dcd d_ji_bitCount_1 6 rfl) ?_
  refine ws_istore_n (l' := [(0, .int (((((((x0 - (((x0 : Int32).toUInt32 >>> ((1 : Int32).toUInt32 &&& Int32.toUInt32 31)).toInt32 &&& 1431655765)) &&& 858993459) + ((((x0 - (((x0 : Int32).toUInt32 >>> ((1 : Int32).toUInt32 &&& Int32.toUInt32 31)).toInt32 &&& 1431655765)) : Int32).toUInt32 >>> ((2 : Int32).toUInt32 &&& Int32.toUInt32 31)).toInt32 &&& 858993459)) + (((((x0 - (((x0 : Int32).toUInt32 >>> ((1 : Int32).toUInt32 &&& Int32.toUInt32 31)).toInt32 &&& 1431655765)) &&& 858993459) + ((((x0 - (((x0 : Int32).toUInt32 >>> ((1 : Int32).toUInt32 &&& Int32.toUInt32 31)).toInt32 &&& 1431655765)) : Int32).toUInt32 >>> ((2 : Int32).toUInt32 &&& Int32.toUInt32 31)).toInt32 &&& 858993459)) : Int32).toUInt32 >>> ((4 : Int32).toUInt32 &&& Int32.toUInt32 31)).toInt32) &&& 252645135) + (((((((x0 - (((x0 : Int32).toUInt32 >>> ((1 : Int32).toUInt32 &&& Int32.toUInt32 31)).toInt32 &&& 1431655765)) &&& 858993459) + ((((x0 - (((x0 : Int32).toUInt32 >>> ((1 : Int32).toUInt32 &&& Int32.toUInt32 31)).toInt32 &&& 1431655765)) : Int32).toUInt32 >>> ((2 : Int32).toUInt32 &&& Int32.toUInt32 31)).toInt32 &&& 858993459)) + (((((x0 - (((x0 : Int32).toUInt32 >>> ((1 : Int32).toUInt32 &&& Int32.toUInt32 31)).toInt32 &&& 1431655765)) &&& 858993459) + ((((x0 - (((x0 : Int32).toUInt32 >>> ((1 : Int32).toUInt32 &&& Int32.toUInt32 31)).toInt32 &&& 1431655765)) : Int32).toUInt32 >>> ((2 : Int32).toUInt32 &&& Int32.toUInt32 31)).toInt32 &&& 858993459)) : Int32).toUInt32 >>> ((4 : Int32).toUInt32 &&& Int32.toUInt32 31)).toInt32) &&& 252645135) : Int32).toUInt32 >>> ((8 : Int32).toUInt32 &&& Int32.toUInt32 31)).toInt32) + ((((((((x0 - (((x0 : Int32).toUInt32 >>> ((1 : Int32).toUInt32 &&& Int32.toUInt32 31)).toInt32 &&& 1431655765)) &&& 858993459) + ((((x0 - (((x0 : Int32).toUInt32 >>> ((1 : Int32).toUInt32 &&& Int32.toUInt32 31)).toInt32 &&& 1431655765)) : Int32).toUInt32 >>> ((2 : Int32).toUInt32 &&& Int32.toUInt32 31)).toInt32 &&& 858993459)) + (((((x0 - (((x0 : Int32).toUInt32 >>> ((1 : Int32).toUInt32 &&& Int32.toUInt32 31)).toInt32 &&& 1431655765)) &&& 858993459) + ((((x0 - (((x0 : Int32).toUInt32 >>> ((1 : Int32).toUInt32 &&& Int32.toUInt32 31)).toInt32 &&& 1431655765)) : Int32).toUInt32 >>> ((2 : Int32).toUInt32 &&& Int32.toUInt32 31)).toInt32 &&& 858993459)) : Int32).toUInt32 >>> ((4 : Int32).toUInt32 &&& Int32.toUInt32 31)).toInt32) &&& 252645135) + (((((((x0 - (((x0 : Int32).toUInt32 >>> ((1 : Int32).toUInt32 &&& Int32.toUInt32 31)).toInt32 &&& 1431655765)) &&& 858993459) + ((((x0 - (((x0 : Int32).toUInt32 >>> ((1 : Int32).toUInt32 &&& Int32.toUInt32 31)).toInt32 &&& 1431655765)) : Int32).toUInt32 >>> ((2 : Int32).toUInt32 &&& Int32.toUInt32 31)).toInt32 &&& 858993459)) + (((((x0 - (((x0 : Int32).toUInt32 >>> ((1 : Int32).toUInt32 &&& Int32.toUInt32 31)).toInt32 &&& 1431655765)) &&& 858993459) + ((((x0 - (((x0 : Int32).toUInt32 >>> ((1 : Int32).toUInt32 &&& Int32.toUInt32 31)).toInt32 &&& 1431655765)) : Int32).toUInt32 >>> ((2 : Int32).toUInt32 &&& Int32.toUInt32 31)).toInt32 &&& 858993459)) : Int32).toUInt32 >>> ((4 : Int32).toUInt32 &&& Int32.toUInt32 31)).toInt32) &&& 252645135) : Int32).toUInt32 >>> ((8 : Int32).toUInt32 &&& Int32.toUInt32 31)).toInt32) : Int32).toUInt32 >>> ((16 : Int32).toUInt32 &&& Int32.toUInt32 31)).toInt32))]) (dcd d_ji_bitCount_1 7 rfl) (by decide) rfl ?_
  refine ws_iload_n 0 (dcd d_ji_bitCount_1 8 rfl) rfl ?_
  refine ws_bipush (v := 63) (dcd d_ji_bitCount_1 9 rfl) (by decide) ?_
  refine ws_iand (dcd d_ji_bitCount_1 10 rfl) ?_
  exact ws_iret (dcd d_ji_bitCount_1 11 rfl) ⟨_, rfl, rfl⟩ h
end SEG
