/-! ===== the law, its pieces ===== -/
section SEGL
variable {G : pG} {u : pM} {Q : Option Value → pM → Prop}
theorem sg_L_law_18 {x3 : Int32} (h : ((((Int32.ofNat (gn G)) - 6) < x3 → Q (some (.int 1)) u) ∧ (¬ (((Int32.ofNat (gn G)) - 6) < x3) → (vp_in x3 (gn G) ∧ ((((gx G (x3 : Int32).toNatClampNeg) &&& 63) = 0 → Ws G L_law 256 [(0, .ref 0), (1, .ref 2), (2, .ref 76), (3, .int x3)] [] u Q) ∧ (((gx G (x3 : Int32).toNatClampNeg) &&& 63) = 1 → Ws G L_law 289 [(0, .ref 0), (1, .ref 2), (2, .ref 76), (3, .int x3)] [] u Q) ∧ (((gx G (x3 : Int32).toNatClampNeg) &&& 63) = 2 → Ws G L_law 332 [(0, .ref 0), (1, .ref 2), (2, .ref 76), (3, .int x3)] [] u Q) ∧ (((gx G (x3 : Int32).toNatClampNeg) &&& 63) = 3 → Ws G L_law 365 [(0, .ref 0), (1, .ref 2), (2, .ref 76), (3, .int x3)] [] u Q) ∧ (((gx G (x3 : Int32).toNatClampNeg) &&& 63) = 4 → Ws G L_law 388 [(0, .ref 0), (1, .ref 2), (2, .ref 76), (3, .int x3)] [] u Q) ∧ (((gx G (x3 : Int32).toNatClampNeg) &&& 63) = 5 → Ws G L_law 451 [(0, .ref 0), (1, .ref 2), (2, .ref 76), (3, .int x3)] [] u Q) ∧ (((gx G (x3 : Int32).toNatClampNeg) &&& 63) = 6 → Ws G L_law 474 [(0, .ref 0), (1, .ref 2), (2, .ref 76), (3, .int x3)] [] u Q) ∧ (((gx G (x3 : Int32).toNatClampNeg) &&& 63) = 7 → Ws G L_law 507 [(0, .ref 0), (1, .ref 2), (2, .ref 76), (3, .int x3)] [] u Q) ∧ (((gx G (x3 : Int32).toNatClampNeg) &&& 63) = 8 → Ws G L_law 550 [(0, .ref 0), (1, .ref 2), (2, .ref 76), (3, .int x3)] [] u Q) ∧ (((gx G (x3 : Int32).toNatClampNeg) &&& 63) = 9 → Ws G L_law 573 [(0, .ref 0), (1, .ref 2), (2, .ref 76), (3, .int x3)] [] u Q) ∧ (((gx G (x3 : Int32).toNatClampNeg) &&& 63) = 10 → Ws G L_law 596 [(0, .ref 0), (1, .ref 2), (2, .ref 76), (3, .int x3)] [] u Q) ∧ (((gx G (x3 : Int32).toNatClampNeg) &&& 63) = 11 → Ws G L_law 629 [(0, .ref 0), (1, .ref 2), (2, .ref 76), (3, .int x3)] [] u Q) ∧ (((gx G (x3 : Int32).toNatClampNeg) &&& 63) = 12 → Ws G L_law 662 [(0, .ref 0), (1, .ref 2), (2, .ref 76), (3, .int x3)] [] u Q) ∧ (((gx G (x3 : Int32).toNatClampNeg) &&& 63) = 13 → Ws G L_law 685 [(0, .ref 0), (1, .ref 2), (2, .ref 76), (3, .int x3)] [] u Q) ∧ (((gx G (x3 : Int32).toNatClampNeg) &&& 63) = 14 → Ws G L_law 708 [(0, .ref 0), (1, .ref 2), (2, .ref 76), (3, .int x3)] [] u Q) ∧ (((gx G (x3 : Int32).toNatClampNeg) &&& 63) = 15 → Ws G L_law 731 [(0, .ref 0), (1, .ref 2), (2, .ref 76), (3, .int x3)] [] u Q) ∧ (((gx G (x3 : Int32).toNatClampNeg) &&& 63) = 16 → Ws G L_law 754 [(0, .ref 0), (1, .ref 2), (2, .ref 76), (3, .int x3)] [] u Q) ∧ (((gx G (x3 : Int32).toNatClampNeg) &&& 63) = 17 → Ws G L_law 777 [(0, .ref 0), (1, .ref 2), (2, .ref 76), (3, .int x3)] [] u Q) ∧ (((gx G (x3 : Int32).toNatClampNeg) &&& 63) = 18 → Ws G L_law 800 [(0, .ref 0), (1, .ref 2), (2, .ref 76), (3, .int x3)] [] u Q) ∧ (((gx G (x3 : Int32).toNatClampNeg) &&& 63) = 19 → Ws G L_law 833 [(0, .ref 0), (1, .ref 2), (2, .ref 76), (3, .int x3)] [] u Q) ∧ (((gx G (x3 : Int32).toNatClampNeg) &&& 63) = 20 → Ws G L_law 866 [(0, .ref 0), (1, .ref 2), (2, .ref 76), (3, .int x3)] [] u Q) ∧ (((gx G (x3 : Int32).toNatClampNeg) &&& 63) = 21 → Ws G L_law 879 [(0, .ref 0), (1, .ref 2), (2, .ref 76), (3, .int x3)] [] u Q) ∧ (((gx G (x3 : Int32).toNatClampNeg) &&& 63) = 22 → Ws G L_law 902 [(0, .ref 0), (1, .ref 2), (2, .ref 76), (3, .int x3)] [] u Q) ∧ (((gx G (x3 : Int32).toNatClampNeg) &&& 63) = 23 → Ws G L_law 925 [(0, .ref 0), (1, .ref 2), (2, .ref 76), (3, .int x3)] [] u Q) ∧ (((gx G (x3 : Int32).toNatClampNeg) &&& 63) = 24 → Ws G L_law 958 [(0, .ref 0), (1, .ref 2), (2, .ref 76), (3, .int x3)] [] u Q) ∧ (((gx G (x3 : Int32).toNatClampNeg) &&& 63) = 25 → Ws G L_law 991 [(0, .ref 0), (1, .ref 2), (2, .ref 76), (3, .int x3)] [] u Q) ∧ (((gx G (x3 : Int32).toNatClampNeg) &&& 63) = 26 → Ws G L_law 1034 [(0, .ref 0), (1, .ref 2), (2, .ref 76), (3, .int x3)] [] u Q) ∧ (((gx G (x3 : Int32).toNatClampNeg) &&& 63) = 27 → Ws G L_law 1077 [(0, .ref 0), (1, .ref 2), (2, .ref 76), (3, .int x3)] [] u Q) ∧ (((gx G (x3 : Int32).toNatClampNeg) &&& 63) = 28 → Ws G L_law 1110 [(0, .ref 0), (1, .ref 2), (2, .ref 76), (3, .int x3)] [] u Q) ∧ (((gx G (x3 : Int32).toNatClampNeg) &&& 63) = 29 → Ws G L_law 1143 [(0, .ref 0), (1, .ref 2), (2, .ref 76), (3, .int x3)] [] u Q) ∧ (((gx G (x3 : Int32).toNatClampNeg) &&& 63) = 30 → Ws G L_law 1186 [(0, .ref 0), (1, .ref 2), (2, .ref 76), (3, .int x3)] [] u Q) ∧ (((gx G (x3 : Int32).toNatClampNeg) &&& 63) = 31 → Ws G L_law 1239 [(0, .ref 0), (1, .ref 2), (2, .ref 76), (3, .int x3)] [] u Q) ∧ (((gx G (x3 : Int32).toNatClampNeg) &&& 63) = 32 → Ws G L_law 1282 [(0, .ref 0), (1, .ref 2), (2, .ref 76), (3, .int x3)] [] u Q) ∧ (((gx G (x3 : Int32).toNatClampNeg) &&& 63) = 33 → Ws G L_law 1315 [(0, .ref 0), (1, .ref 2), (2, .ref 76), (3, .int x3)] [] u Q) ∧ (((gx G (x3 : Int32).toNatClampNeg) &&& 63) = 34 → Ws G L_law 1328 [(0, .ref 0), (1, .ref 2), (2, .ref 76), (3, .int x3)] [] u Q) ∧ (((gx G (x3 : Int32).toNatClampNeg) &&& 63) = 35 → Ws G L_law 1341 [(0, .ref 0), (1, .ref 2), (2, .ref 76), (3, .int x3)] [] u Q) ∧ (((gx G (x3 : Int32).toNatClampNeg) &&& 63) = 36 → Ws G L_law 1384 [(0, .ref 0), (1, .ref 2), (2, .ref 76), (3, .int x3)] [] u Q) ∧ (((gx G (x3 : Int32).toNatClampNeg) &&& 63) = 37 → Ws G L_law 1407 [(0, .ref 0), (1, .ref 2), (2, .ref 76), (3, .int x3)] [] u Q) ∧ (((gx G (x3 : Int32).toNatClampNeg) &&& 63) = 38 → Ws G L_law 1430 [(0, .ref 0), (1, .ref 2), (2, .ref 76), (3, .int x3)] [] u Q) ∧ (((gx G (x3 : Int32).toNatClampNeg) &&& 63) = 39 → Ws G L_law 1453 [(0, .ref 0), (1, .ref 2), (2, .ref 76), (3, .int x3)] [] u Q) ∧ (((gx G (x3 : Int32).toNatClampNeg) &&& 63) = 40 → Ws G L_law 1496 [(0, .ref 0), (1, .ref 2), (2, .ref 76), (3, .int x3)] [] u Q) ∧ (((gx G (x3 : Int32).toNatClampNeg) &&& 63) = 41 → Ws G L_law 1529 [(0, .ref 0), (1, .ref 2), (2, .ref 76), (3, .int x3)] [] u Q) ∧ (((gx G (x3 : Int32).toNatClampNeg) &&& 63) = 42 → Ws G L_law 1562 [(0, .ref 0), (1, .ref 2), (2, .ref 76), (3, .int x3)] [] u Q) ∧ (((gx G (x3 : Int32).toNatClampNeg) &&& 63) = 43 → Ws G L_law 1585 [(0, .ref 0), (1, .ref 2), (2, .ref 76), (3, .int x3)] [] u Q) ∧ (((gx G (x3 : Int32).toNatClampNeg) &&& 63) = 44 → Ws G L_law 1608 [(0, .ref 0), (1, .ref 2), (2, .ref 76), (3, .int x3)] [] u Q) ∧ (((gx G (x3 : Int32).toNatClampNeg) &&& 63) = 45 → Ws G L_law 1631 [(0, .ref 0), (1, .ref 2), (2, .ref 76), (3, .int x3)] [] u Q) ∧ (((gx G (x3 : Int32).toNatClampNeg) &&& 63) = 46 → Ws G L_law 1644 [(0, .ref 0), (1, .ref 2), (2, .ref 76), (3, .int x3)] [] u Q) ∧ (((gx G (x3 : Int32).toNatClampNeg) &&& 63) = 47 → Ws G L_law 1657 [(0, .ref 0), (1, .ref 2), (2, .ref 76), (3, .int x3)] [] u Q) ∧ (((gx G (x3 : Int32).toNatClampNeg) &&& 63) = 48 → Ws G L_law 1671 [(0, .ref 0), (1, .ref 2), (2, .ref 76), (3, .int x3)] [] u Q) ∧ (((gx G (x3 : Int32).toNatClampNeg) &&& 63) = 49 → Ws G L_law 1694 [(0, .ref 0), (1, .ref 2), (2, .ref 76), (3, .int x3)] [] u Q) ∧ (((gx G (x3 : Int32).toNatClampNeg) &&& 63) = 50 → Ws G L_law 1707 [(0, .ref 0), (1, .ref 2), (2, .ref 76), (3, .int x3)] [] u Q) ∧ (((gx G (x3 : Int32).toNatClampNeg) &&& 63) = 51 → Ws G L_law 1730 [(0, .ref 0), (1, .ref 2), (2, .ref 76), (3, .int x3)] [] u Q) ∧ (¬ ((gx G (x3 : Int32).toNatClampNeg) &&& 63) = 0 ∧ ¬ ((gx G (x3 : Int32).toNatClampNeg) &&& 63) = 1 ∧ ¬ ((gx G (x3 : Int32).toNatClampNeg) &&& 63) = 2 ∧ ¬ ((gx G (x3 : Int32).toNatClampNeg) &&& 63) = 3 ∧ ¬ ((gx G (x3 : Int32).toNatClampNeg) &&& 63) = 4 ∧ ¬ ((gx G (x3 : Int32).toNatClampNeg) &&& 63) = 5 ∧ ¬ ((gx G (x3 : Int32).toNatClampNeg) &&& 63) = 6 ∧ ¬ ((gx G (x3 : Int32).toNatClampNeg) &&& 63) = 7 ∧ ¬ ((gx G (x3 : Int32).toNatClampNeg) &&& 63) = 8 ∧ ¬ ((gx G (x3 : Int32).toNatClampNeg) &&& 63) = 9 ∧ ¬ ((gx G (x3 : Int32).toNatClampNeg) &&& 63) = 10 ∧ ¬ ((gx G (x3 : Int32).toNatClampNeg) &&& 63) = 11 ∧ ¬ ((gx G (x3 : Int32).toNatClampNeg) &&& 63) = 12 ∧ ¬ ((gx G (x3 : Int32).toNatClampNeg) &&& 63) = 13 ∧ ¬ ((gx G (x3 : Int32).toNatClampNeg) &&& 63) = 14 ∧ ¬ ((gx G (x3 : Int32).toNatClampNeg) &&& 63) = 15 ∧ ¬ ((gx G (x3 : Int32).toNatClampNeg) &&& 63) = 16 ∧ ¬ ((gx G (x3 : Int32).toNatClampNeg) &&& 63) = 17 ∧ ¬ ((gx G (x3 : Int32).toNatClampNeg) &&& 63) = 18 ∧ ¬ ((gx G (x3 : Int32).toNatClampNeg) &&& 63) = 19 ∧ ¬ ((gx G (x3 : Int32).toNatClampNeg) &&& 63) = 20 ∧ ¬ ((gx G (x3 : Int32).toNatClampNeg) &&& 63) = 21 ∧ ¬ ((gx G (x3 : Int32).toNatClampNeg) &&& 63) = 22 ∧ ¬ ((gx G (x3 : Int32).toNatClampNeg) &&& 63) = 23 ∧ ¬ ((gx G (x3 : Int32).toNatClampNeg) &&& 63) = 24 ∧ ¬ ((gx G (x3 : Int32).toNatClampNeg) &&& 63) = 25 ∧ ¬ ((gx G (x3 : Int32).toNatClampNeg) &&& 63) = 26 ∧ ¬ ((gx G (x3 : Int32).toNatClampNeg) &&& 63) = 27 ∧ ¬ ((gx G (x3 : Int32).toNatClampNeg) &&& 63) = 28 ∧ ¬ ((gx G (x3 : Int32).toNatClampNeg) &&& 63) = 29 ∧ ¬ ((gx G (x3 : Int32).toNatClampNeg) &&& 63) = 30 ∧ ¬ ((gx G (x3 : Int32).toNatClampNeg) &&& 63) = 31 ∧ ¬ ((gx G (x3 : Int32).toNatClampNeg) &&& 63) = 32 ∧ ¬ ((gx G (x3 : Int32).toNatClampNeg) &&& 63) = 33 ∧ ¬ ((gx G (x3 : Int32).toNatClampNeg) &&& 63) = 34 ∧ ¬ ((gx G (x3 : Int32).toNatClampNeg) &&& 63) = 35 ∧ ¬ ((gx G (x3 : Int32).toNatClampNeg) &&& 63) = 36 ∧ ¬ ((gx G (x3 : Int32).toNatClampNeg) &&& 63) = 37 ∧ ¬ ((gx G (x3 : Int32).toNatClampNeg) &&& 63) = 38 ∧ ¬ ((gx G (x3 : Int32).toNatClampNeg) &&& 63) = 39 ∧ ¬ ((gx G (x3 : Int32).toNatClampNeg) &&& 63) = 40 ∧ ¬ ((gx G (x3 : Int32).toNatClampNeg) &&& 63) = 41 ∧ ¬ ((gx G (x3 : Int32).toNatClampNeg) &&& 63) = 42 ∧ ¬ ((gx G (x3 : Int32).toNatClampNeg) &&& 63) = 43 ∧ ¬ ((gx G (x3 : Int32).toNatClampNeg) &&& 63) = 44 ∧ ¬ ((gx G (x3 : Int32).toNatClampNeg) &&& 63) = 45 ∧ ¬ ((gx G (x3 : Int32).toNatClampNeg) &&& 63) = 46 ∧ ¬ ((gx G (x3 : Int32).toNatClampNeg) &&& 63) = 47 ∧ ¬ ((gx G (x3 : Int32).toNatClampNeg) &&& 63) = 48 ∧ ¬ ((gx G (x3 : Int32).toNatClampNeg) &&& 63) = 49 ∧ ¬ ((gx G (x3 : Int32).toNatClampNeg) &&& 63) = 50 ∧ ¬ ((gx G (x3 : Int32).toNatClampNeg) &&& 63) = 51 → Ws G L_law 1743 [(0, .ref 0), (1, .ref 2), (2, .ref 76), (3, .int x3)] [] u Q)))))) : Ws G L_law 18 [(0, .ref 0), (1, .ref 2), (2, .ref 76), (3, .int x3)] [] u Q := by
  refine ws_iload_n 3 (dcd d_L_law_0 10 rfl) rfl ?_
  refine ws_aload_n 0 (dcd d_L_law_0 11 rfl) rfl ?_
  refine ws_slen (dcd d_L_law_0 12 rfl) ?_
  refine ws_bipush (v := 6) (dcd d_L_law_0 13 rfl) (by decide) ?_
  refine ws_isub (dcd d_L_law_0 14 rfl) ?_
  refine ws_icmp_gt (tgt := 1749) (dcd d_L_law_0 15 rfl) (by decide) (fun c1 => ?_) (fun c1 => ?_)
  · have h := h.1 c1
    refine ws_iconst (v := 1) (dcd d_L_law_39 29 rfl) (by decide) ?_
    exact ws_iret (dcd d_L_law_40 0 rfl) ⟨_, rfl, by decide⟩ h
  · have h := h.2 c1
    refine ws_aload_n 0 (dcd d_L_law_0 16 rfl) rfl ?_
    refine ws_iload_n 3 (dcd d_L_law_0 17 rfl) rfl ?_
    obtain ⟨e2, h⟩ := h
    refine ws_sld (dcd d_L_law_0 18 rfl) e2 ?_
    refine ws_bipush (v := 63) (dcd d_L_law_0 19 rfl) (by decide) ?_
    refine ws_iand (dcd d_L_law_0 20 rfl) ?_
    by_cases c4 : ((gx G (x3 : Int32).toNatClampNeg) &&& 63) = 0
    · have h := h.1 c4
      refine ws_tableIn (off := 223) (tgt := 256) 0 (dcd d_L_law_0 21 rfl) (by rw [c4]; decide) (by decide) rfl (by decide) ?_
      exact ws_loc [0, 1, 2, 3] rfl h
    by_cases c5 : ((gx G (x3 : Int32).toNatClampNeg) &&& 63) = 1
    · have h := h.2.1 c5
      refine ws_tableIn (off := 256) (tgt := 289) 1 (dcd d_L_law_0 21 rfl) (by rw [c5]; decide) (by decide) rfl (by decide) ?_
      exact ws_loc [0, 1, 2, 3] rfl h
    by_cases c6 : ((gx G (x3 : Int32).toNatClampNeg) &&& 63) = 2
    · have h := h.2.2.1 c6
      refine ws_tableIn (off := 299) (tgt := 332) 2 (dcd d_L_law_0 21 rfl) (by rw [c6]; decide) (by decide) rfl (by decide) ?_
      exact ws_loc [0, 1, 2, 3] rfl h
    by_cases c7 : ((gx G (x3 : Int32).toNatClampNeg) &&& 63) = 3
    · have h := h.2.2.2.1 c7
      refine ws_tableIn (off := 332) (tgt := 365) 3 (dcd d_L_law_0 21 rfl) (by rw [c7]; decide) (by decide) rfl (by decide) ?_
      exact ws_loc [0, 1, 2, 3] rfl h
    by_cases c8 : ((gx G (x3 : Int32).toNatClampNeg) &&& 63) = 4
    · have h := h.2.2.2.2.1 c8
      refine ws_tableIn (off := 355) (tgt := 388) 4 (dcd d_L_law_0 21 rfl) (by rw [c8]; decide) (by decide) rfl (by decide) ?_
      exact ws_loc [0, 1, 2, 3] rfl h
    by_cases c9 : ((gx G (x3 : Int32).toNatClampNeg) &&& 63) = 5
    · have h := h.2.2.2.2.2.1 c9
      refine ws_tableIn (off := 418) (tgt := 451) 5 (dcd d_L_law_0 21 rfl) (by rw [c9]; decide) (by decide) rfl (by decide) ?_
      exact ws_loc [0, 1, 2, 3] rfl h
    by_cases c10 : ((gx G (x3 : Int32).toNatClampNeg) &&& 63) = 6
    · have h := h.2.2.2.2.2.2.1 c10
      refine ws_tableIn (off := 441) (tgt := 474) 6 (dcd d_L_law_0 21 rfl) (by rw [c10]; decide) (by decide) rfl (by decide) ?_
      exact ws_loc [0, 1, 2, 3] rfl h
    by_cases c11 : ((gx G (x3 : Int32).toNatClampNeg) &&& 63) = 7
    · have h := h.2.2.2.2.2.2.2.1 c11
      refine ws_tableIn (off := 474) (tgt := 507) 7 (dcd d_L_law_0 21 rfl) (by rw [c11]; decide) (by decide) rfl (by decide) ?_
      exact ws_loc [0, 1, 2, 3] rfl h
    by_cases c12 : ((gx G (x3 : Int32).toNatClampNeg) &&& 63) = 8
    · have h := h.2.2.2.2.2.2.2.2.1 c12
      refine ws_tableIn (off := 517) (tgt := 550) 8 (dcd d_L_law_0 21 rfl) (by rw [c12]; decide) (by decide) rfl (by decide) ?_
      exact ws_loc [0, 1, 2, 3] rfl h
    by_cases c13 : ((gx G (x3 : Int32).toNatClampNeg) &&& 63) = 9
    · have h := h.2.2.2.2.2.2.2.2.2.1 c13
      refine ws_tableIn (off := 540) (tgt := 573) 9 (dcd d_L_law_0 21 rfl) (by rw [c13]; decide) (by decide) rfl (by decide) ?_
      exact ws_loc [0, 1, 2, 3] rfl h
    by_cases c14 : ((gx G (x3 : Int32).toNatClampNeg) &&& 63) = 10
    · have h := h.2.2.2.2.2.2.2.2.2.2.1 c14
      refine ws_tableIn (off := 563) (tgt := 596) 10 (dcd d_L_law_0 21 rfl) (by rw [c14]; decide) (by decide) rfl (by decide) ?_
      exact ws_loc [0, 1, 2, 3] rfl h
    by_cases c15 : ((gx G (x3 : Int32).toNatClampNeg) &&& 63) = 11
    · have h := h.2.2.2.2.2.2.2.2.2.2.2.1 c15
      refine ws_tableIn (off := 596) (tgt := 629) 11 (dcd d_L_law_0 21 rfl) (by rw [c15]; decide) (by decide) rfl (by decide) ?_
      exact ws_loc [0, 1, 2, 3] rfl h
    by_cases c16 : ((gx G (x3 : Int32).toNatClampNeg) &&& 63) = 12
    · have h := h.2.2.2.2.2.2.2.2.2.2.2.2.1 c16
      refine ws_tableIn (off := 629) (tgt := 662) 12 (dcd d_L_law_0 21 rfl) (by rw [c16]; decide) (by decide) rfl (by decide) ?_
      exact ws_loc [0, 1, 2, 3] rfl h
    by_cases c17 : ((gx G (x3 : Int32).toNatClampNeg) &&& 63) = 13
    · have h := h.2.2.2.2.2.2.2.2.2.2.2.2.2.1 c17
      refine ws_tableIn (off := 652) (tgt := 685) 13 (dcd d_L_law_0 21 rfl) (by rw [c17]; decide) (by decide) rfl (by decide) ?_
      exact ws_loc [0, 1, 2, 3] rfl h
    by_cases c18 : ((gx G (x3 : Int32).toNatClampNeg) &&& 63) = 14
    · have h := h.2.2.2.2.2.2.2.2.2.2.2.2.2.2.1 c18
      refine ws_tableIn (off := 675) (tgt := 708) 14 (dcd d_L_law_0 21 rfl) (by rw [c18]; decide) (by decide) rfl (by decide) ?_
      exact ws_loc [0, 1, 2, 3] rfl h
    by_cases c19 : ((gx G (x3 : Int32).toNatClampNeg) &&& 63) = 15
    · have h := h.2.2.2.2.2.2.2.2.2.2.2.2.2.2.2.1 c19
      refine ws_tableIn (off := 698) (tgt := 731) 15 (dcd d_L_law_0 21 rfl) (by rw [c19]; decide) (by decide) rfl (by decide) ?_
      exact ws_loc [0, 1, 2, 3] rfl h
    by_cases c20 : ((gx G (x3 : Int32).toNatClampNeg) &&& 63) = 16
    · have h := h.2.2.2.2.2.2.2.2.2.2.2.2.2.2.2.2.1 c20
      refine ws_tableIn (off := 721) (tgt := 754) 16 (dcd d_L_law_0 21 rfl) (by rw [c20]; decide) (by decide) rfl (by decide) ?_
      exact ws_loc [0, 1, 2, 3] rfl h
    by_cases c21 : ((gx G (x3 : Int32).toNatClampNeg) &&& 63) = 17
    · have h := h.2.2.2.2.2.2.2.2.2.2.2.2.2.2.2.2.2.1 c21
      refine ws_tableIn (off := 744) (tgt := 777) 17 (dcd d_L_law_0 21 rfl) (by rw [c21]; decide) (by decide) rfl (by decide) ?_
      exact ws_loc [0, 1, 2, 3] rfl h
    by_cases c22 : ((gx G (x3 : Int32).toNatClampNeg) &&& 63) = 18
    · have h := h.2.2.2.2.2.2.2.2.2.2.2.2.2.2.2.2.2.2.1 c22
      refine ws_tableIn (off := 767) (tgt := 800) 18 (dcd d_L_law_0 21 rfl) (by rw [c22]; decide) (by decide) rfl (by decide) ?_
      exact ws_loc [0, 1, 2, 3] rfl h
    by_cases c23 : ((gx G (x3 : Int32).toNatClampNeg) &&& 63) = 19
    · have h := h.2.2.2.2.2.2.2.2.2.2.2.2.2.2.2.2.2.2.2.1 c23
      refine ws_tableIn (off := 800) (tgt := 833) 19 (dcd d_L_law_0 21 rfl) (by rw [c23]; decide) (by decide) rfl (by decide) ?_
      exact ws_loc [0, 1, 2, 3] rfl h
    by_cases c24 : ((gx G (x3 : Int32).toNatClampNeg) &&& 63) = 20
    · have h := h.2.2.2.2.2.2.2.2.2.2.2.2.2.2.2.2.2.2.2.2.1 c24
      refine ws_tableIn (off := 833) (tgt := 866) 20 (dcd d_L_law_0 21 rfl) (by rw [c24]; decide) (by decide) rfl (by decide) ?_
      exact ws_loc [0, 1, 2, 3] rfl h
    by_cases c25 : ((gx G (x3 : Int32).toNatClampNeg) &&& 63) = 21
    · have h := h.2.2.2.2.2.2.2.2.2.2.2.2.2.2.2.2.2.2.2.2.2.1 c25
      refine ws_tableIn (off := 846) (tgt := 879) 21 (dcd d_L_law_0 21 rfl) (by rw [c25]; decide) (by decide) rfl (by decide) ?_
      exact ws_loc [0, 1, 2, 3] rfl h
    by_cases c26 : ((gx G (x3 : Int32).toNatClampNeg) &&& 63) = 22
    · have h := h.2.2.2.2.2.2.2.2.2.2.2.2.2.2.2.2.2.2.2.2.2.2.1 c26
      refine ws_tableIn (off := 869) (tgt := 902) 22 (dcd d_L_law_0 21 rfl) (by rw [c26]; decide) (by decide) rfl (by decide) ?_
      exact ws_loc [0, 1, 2, 3] rfl h
    by_cases c27 : ((gx G (x3 : Int32).toNatClampNeg) &&& 63) = 23
    · have h := h.2.2.2.2.2.2.2.2.2.2.2.2.2.2.2.2.2.2.2.2.2.2.2.1 c27
      refine ws_tableIn (off := 892) (tgt := 925) 23 (dcd d_L_law_0 21 rfl) (by rw [c27]; decide) (by decide) rfl (by decide) ?_
      exact ws_loc [0, 1, 2, 3] rfl h
    by_cases c28 : ((gx G (x3 : Int32).toNatClampNeg) &&& 63) = 24
    · have h := h.2.2.2.2.2.2.2.2.2.2.2.2.2.2.2.2.2.2.2.2.2.2.2.2.1 c28
      refine ws_tableIn (off := 925) (tgt := 958) 24 (dcd d_L_law_0 21 rfl) (by rw [c28]; decide) (by decide) rfl (by decide) ?_
      exact ws_loc [0, 1, 2, 3] rfl h
    by_cases c29 : ((gx G (x3 : Int32).toNatClampNeg) &&& 63) = 25
    · have h := h.2.2.2.2.2.2.2.2.2.2.2.2.2.2.2.2.2.2.2.2.2.2.2.2.2.1 c29
      refine ws_tableIn (off := 958) (tgt := 991) 25 (dcd d_L_law_0 21 rfl) (by rw [c29]; decide) (by decide) rfl (by decide) ?_
      exact ws_loc [0, 1, 2, 3] rfl h
    by_cases c30 : ((gx G (x3 : Int32).toNatClampNeg) &&& 63) = 26
    · have h := h.2.2.2.2.2.2.2.2.2.2.2.2.2.2.2.2.2.2.2.2.2.2.2.2.2.2.1 c30
      refine ws_tableIn (off := 1001) (tgt := 1034) 26 (dcd d_L_law_0 21 rfl) (by rw [c30]; decide) (by decide) rfl (by decide) ?_
      exact ws_loc [0, 1, 2, 3] rfl h
    by_cases c31 : ((gx G (x3 : Int32).toNatClampNeg) &&& 63) = 27
    · have h := h.2.2.2.2.2.2.2.2.2.2.2.2.2.2.2.2.2.2.2.2.2.2.2.2.2.2.2.1 c31
      refine ws_tableIn (off := 1044) (tgt := 1077) 27 (dcd d_L_law_0 21 rfl) (by rw [c31]; decide) (by decide) rfl (by decide) ?_
      exact ws_loc [0, 1, 2, 3] rfl h
    by_cases c32 : ((gx G (x3 : Int32).toNatClampNeg) &&& 63) = 28
    · have h := h.2.2.2.2.2.2.2.2.2.2.2.2.2.2.2.2.2.2.2.2.2.2.2.2.2.2.2.2.1 c32
      refine ws_tableIn (off := 1077) (tgt := 1110) 28 (dcd d_L_law_0 21 rfl) (by rw [c32]; decide) (by decide) rfl (by decide) ?_
      exact ws_loc [0, 1, 2, 3] rfl h
    by_cases c33 : ((gx G (x3 : Int32).toNatClampNeg) &&& 63) = 29
    · have h := h.2.2.2.2.2.2.2.2.2.2.2.2.2.2.2.2.2.2.2.2.2.2.2.2.2.2.2.2.2.1 c33
      refine ws_tableIn (off := 1110) (tgt := 1143) 29 (dcd d_L_law_0 21 rfl) (by rw [c33]; decide) (by decide) rfl (by decide) ?_
      exact ws_loc [0, 1, 2, 3] rfl h
    by_cases c34 : ((gx G (x3 : Int32).toNatClampNeg) &&& 63) = 30
    · have h := h.2.2.2.2.2.2.2.2.2.2.2.2.2.2.2.2.2.2.2.2.2.2.2.2.2.2.2.2.2.2.1 c34
      refine ws_tableIn (off := 1153) (tgt := 1186) 30 (dcd d_L_law_0 21 rfl) (by rw [c34]; decide) (by decide) rfl (by decide) ?_
      exact ws_loc [0, 1, 2, 3] rfl h
    by_cases c35 : ((gx G (x3 : Int32).toNatClampNeg) &&& 63) = 31
    · have h := h.2.2.2.2.2.2.2.2.2.2.2.2.2.2.2.2.2.2.2.2.2.2.2.2.2.2.2.2.2.2.2.1 c35
      refine ws_tableIn (off := 1206) (tgt := 1239) 31 (dcd d_L_law_0 21 rfl) (by rw [c35]; decide) (by decide) rfl (by decide) ?_
      exact ws_loc [0, 1, 2, 3] rfl h
    by_cases c36 : ((gx G (x3 : Int32).toNatClampNeg) &&& 63) = 32
    · have h := h.2.2.2.2.2.2.2.2.2.2.2.2.2.2.2.2.2.2.2.2.2.2.2.2.2.2.2.2.2.2.2.2.1 c36
      refine ws_tableIn (off := 1249) (tgt := 1282) 32 (dcd d_L_law_0 21 rfl) (by rw [c36]; decide) (by decide) rfl (by decide) ?_
      exact ws_loc [0, 1, 2, 3] rfl h
    by_cases c37 : ((gx G (x3 : Int32).toNatClampNeg) &&& 63) = 33
    · have h := h.2.2.2.2.2.2.2.2.2.2.2.2.2.2.2.2.2.2.2.2.2.2.2.2.2.2.2.2.2.2.2.2.2.1 c37
      refine ws_tableIn (off := 1282) (tgt := 1315) 33 (dcd d_L_law_0 21 rfl) (by rw [c37]; decide) (by decide) rfl (by decide) ?_
      exact ws_loc [0, 1, 2, 3] rfl h
    by_cases c38 : ((gx G (x3 : Int32).toNatClampNeg) &&& 63) = 34
    · have h := h.2.2.2.2.2.2.2.2.2.2.2.2.2.2.2.2.2.2.2.2.2.2.2.2.2.2.2.2.2.2.2.2.2.2.1 c38
      refine ws_tableIn (off := 1295) (tgt := 1328) 34 (dcd d_L_law_0 21 rfl) (by rw [c38]; decide) (by decide) rfl (by decide) ?_
      exact ws_loc [0, 1, 2, 3] rfl h
    by_cases c39 : ((gx G (x3 : Int32).toNatClampNeg) &&& 63) = 35
    · have h := h.2.2.2.2.2.2.2.2.2.2.2.2.2.2.2.2.2.2.2.2.2.2.2.2.2.2.2.2.2.2.2.2.2.2.2.1 c39
      refine ws_tableIn (off := 1308) (tgt := 1341) 35 (dcd d_L_law_0 21 rfl) (by rw [c39]; decide) (by decide) rfl (by decide) ?_
      exact ws_loc [0, 1, 2, 3] rfl h
    by_cases c40 : ((gx G (x3 : Int32).toNatClampNeg) &&& 63) = 36
    · have h := h.2.2.2.2.2.2.2.2.2.2.2.2.2.2.2.2.2.2.2.2.2.2.2.2.2.2.2.2.2.2.2.2.2.2.2.2.1 c40
      refine ws_tableIn (off := 1351) (tgt := 1384) 36 (dcd d_L_law_0 21 rfl) (by rw [c40]; decide) (by decide) rfl (by decide) ?_
      exact ws_loc [0, 1, 2, 3] rfl h
    by_cases c41 : ((gx G (x3 : Int32).toNatClampNeg) &&& 63) = 37
    · have h := h.2.2.2.2.2.2.2.2.2.2.2.2.2.2.2.2.2.2.2.2.2.2.2.2.2.2.2.2.2.2.2.2.2.2.2.2.2.1 c41
      refine ws_tableIn (off := 1374) (tgt := 1407) 37 (dcd d_L_law_0 21 rfl) (by rw [c41]; decide) (by decide) rfl (by decide) ?_
      exact ws_loc [0, 1, 2, 3] rfl h
    by_cases c42 : ((gx G (x3 : Int32).toNatClampNeg) &&& 63) = 38
    · have h := h.2.2.2.2.2.2.2.2.2.2.2.2.2.2.2.2.2.2.2.2.2.2.2.2.2.2.2.2.2.2.2.2.2.2.2.2.2.2.1 c42
      refine ws_tableIn (off := 1397) (tgt := 1430) 38 (dcd d_L_law_0 21 rfl) (by rw [c42]; decide) (by decide) rfl (by decide) ?_
      exact ws_loc [0, 1, 2, 3] rfl h
    by_cases c43 : ((gx G (x3 : Int32).toNatClampNeg) &&& 63) = 39
    · have h := h.2.2.2.2.2.2.2.2.2.2.2.2.2.2.2.2.2.2.2.2.2.2.2.2.2.2.2.2.2.2.2.2.2.2.2.2.2.2.2.1 c43
      refine ws_tableIn (off := 1420) (tgt := 1453) 39 (dcd d_L_law_0 21 rfl) (by rw [c43]; decide) (by decide) rfl (by decide) ?_
      exact ws_loc [0, 1, 2, 3] rfl h
    by_cases c44 : ((gx G (x3 : Int32).toNatClampNeg) &&& 63) = 40
    · have h := h.2.2.2.2.2.2.2.2.2.2.2.2.2.2.2.2.2.2.2.2.2.2.2.2.2.2.2.2.2.2.2.2.2.2.2.2.2.2.2.2.1 c44
      refine ws_tableIn (off := 1463) (tgt := 1496) 40 (dcd d_L_law_0 21 rfl) (by rw [c44]; decide) (by decide) rfl (by decide) ?_
      exact ws_loc [0, 1, 2, 3] rfl h
    by_cases c45 : ((gx G (x3 : Int32).toNatClampNeg) &&& 63) = 41
    · have h := h.2.2.2.2.2.2.2.2.2.2.2.2.2.2.2.2.2.2.2.2.2.2.2.2.2.2.2.2.2.2.2.2.2.2.2.2.2.2.2.2.2.1 c45
      refine ws_tableIn (off := 1496) (tgt := 1529) 41 (dcd d_L_law_0 21 rfl) (by rw [c45]; decide) (by decide) rfl (by decide) ?_
      exact ws_loc [0, 1, 2, 3] rfl h
    by_cases c46 : ((gx G (x3 : Int32).toNatClampNeg) &&& 63) = 42
    · have h := h.2.2.2.2.2.2.2.2.2.2.2.2.2.2.2.2.2.2.2.2.2.2.2.2.2.2.2.2.2.2.2.2.2.2.2.2.2.2.2.2.2.2.1 c46
      refine ws_tableIn (off := 1529) (tgt := 1562) 42 (dcd d_L_law_0 21 rfl) (by rw [c46]; decide) (by decide) rfl (by decide) ?_
      exact ws_loc [0, 1, 2, 3] rfl h
    by_cases c47 : ((gx G (x3 : Int32).toNatClampNeg) &&& 63) = 43
    · have h := h.2.2.2.2.2.2.2.2.2.2.2.2.2.2.2.2.2.2.2.2.2.2.2.2.2.2.2.2.2.2.2.2.2.2.2.2.2.2.2.2.2.2.2.1 c47
      refine ws_tableIn (off := 1552) (tgt := 1585) 43 (dcd d_L_law_0 21 rfl) (by rw [c47]; decide) (by decide) rfl (by decide) ?_
      exact ws_loc [0, 1, 2, 3] rfl h
    by_cases c48 : ((gx G (x3 : Int32).toNatClampNeg) &&& 63) = 44
    · have h := h.2.2.2.2.2.2.2.2.2.2.2.2.2.2.2.2.2.2.2.2.2.2.2.2.2.2.2.2.2.2.2.2.2.2.2.2.2.2.2.2.2.2.2.2.1 c48
      refine ws_tableIn (off := 1575) (tgt := 1608) 44 (dcd d_L_law_0 21 rfl) (by rw [c48]; decide) (by decide) rfl (by decide) ?_
      exact ws_loc [0, 1, 2, 3] rfl h
    by_cases c49 : ((gx G (x3 : Int32).toNatClampNeg) &&& 63) = 45
    · have h := h.2.2.2.2.2.2.2.2.2.2.2.2.2.2.2.2.2.2.2.2.2.2.2.2.2.2.2.2.2.2.2.2.2.2.2.2.2.2.2.2.2.2.2.2.2.1 c49
      refine ws_tableIn (off := 1598) (tgt := 1631) 45 (dcd d_L_law_0 21 rfl) (by rw [c49]; decide) (by decide) rfl (by decide) ?_
      exact ws_loc [0, 1, 2, 3] rfl h
    by_cases c50 : ((gx G (x3 : Int32).toNatClampNeg) &&& 63) = 46
    · have h := h.2.2.2.2.2.2.2.2.2.2.2.2.2.2.2.2.2.2.2.2.2.2.2.2.2.2.2.2.2.2.2.2.2.2.2.2.2.2.2.2.2.2.2.2.2.2.1 c50
      refine ws_tableIn (off := 1611) (tgt := 1644) 46 (dcd d_L_law_0 21 rfl) (by rw [c50]; decide) (by decide) rfl (by decide) ?_
      exact ws_loc [0, 1, 2, 3] rfl h
    by_cases c51 : ((gx G (x3 : Int32).toNatClampNeg) &&& 63) = 47
    · have h := h.2.2.2.2.2.2.2.2.2.2.2.2.2.2.2.2.2.2.2.2.2.2.2.2.2.2.2.2.2.2.2.2.2.2.2.2.2.2.2.2.2.2.2.2.2.2.2.1 c51
      refine ws_tableIn (off := 1624) (tgt := 1657) 47 (dcd d_L_law_0 21 rfl) (by rw [c51]; decide) (by decide) rfl (by decide) ?_
      exact ws_loc [0, 1, 2, 3] rfl h
    by_cases c52 : ((gx G (x3 : Int32).toNatClampNeg) &&& 63) = 48
    · have h := h.2.2.2.2.2.2.2.2.2.2.2.2.2.2.2.2.2.2.2.2.2.2.2.2.2.2.2.2.2.2.2.2.2.2.2.2.2.2.2.2.2.2.2.2.2.2.2.2.1 c52
      refine ws_tableIn (off := 1638) (tgt := 1671) 48 (dcd d_L_law_0 21 rfl) (by rw [c52]; decide) (by decide) rfl (by decide) ?_
      exact ws_loc [0, 1, 2, 3] rfl h
    by_cases c53 : ((gx G (x3 : Int32).toNatClampNeg) &&& 63) = 49
    · have h := h.2.2.2.2.2.2.2.2.2.2.2.2.2.2.2.2.2.2.2.2.2.2.2.2.2.2.2.2.2.2.2.2.2.2.2.2.2.2.2.2.2.2.2.2.2.2.2.2.2.1 c53
      refine ws_tableIn (off := 1661) (tgt := 1694) 49 (dcd d_L_law_0 21 rfl) (by rw [c53]; decide) (by decide) rfl (by decide) ?_
      exact ws_loc [0, 1, 2, 3] rfl h
    by_cases c54 : ((gx G (x3 : Int32).toNatClampNeg) &&& 63) = 50
    · have h := h.2.2.2.2.2.2.2.2.2.2.2.2.2.2.2.2.2.2.2.2.2.2.2.2.2.2.2.2.2.2.2.2.2.2.2.2.2.2.2.2.2.2.2.2.2.2.2.2.2.2.1 c54
      refine ws_tableIn (off := 1674) (tgt := 1707) 50 (dcd d_L_law_0 21 rfl) (by rw [c54]; decide) (by decide) rfl (by decide) ?_
      exact ws_loc [0, 1, 2, 3] rfl h
    by_cases c55 : ((gx G (x3 : Int32).toNatClampNeg) &&& 63) = 51
    · have h := h.2.2.2.2.2.2.2.2.2.2.2.2.2.2.2.2.2.2.2.2.2.2.2.2.2.2.2.2.2.2.2.2.2.2.2.2.2.2.2.2.2.2.2.2.2.2.2.2.2.2.2.1 c55
      refine ws_tableIn (off := 1697) (tgt := 1730) 51 (dcd d_L_law_0 21 rfl) (by rw [c55]; decide) (by decide) rfl (by decide) ?_
      exact ws_loc [0, 1, 2, 3] rfl h
    have h := h.2.2.2.2.2.2.2.2.2.2.2.2.2.2.2.2.2.2.2.2.2.2.2.2.2.2.2.2.2.2.2.2.2.2.2.2.2.2.2.2.2.2.2.2.2.2.2.2.2.2.2.2 ⟨c4, c5, c6, c7, c8, c9, c10, c11, c12, c13, c14, c15, c16, c17, c18, c19, c20, c21, c22, c23, c24, c25, c26, c27, c28, c29, c30, c31, c32, c33, c34, c35, c36, c37, c38, c39, c40, c41, c42, c43, c44, c45, c46, c47, c48, c49, c50, c51, c52, c53, c54, c55⟩
    have nc4 := lv_neT c4 (a := 0) (by decide)
    have nc5 := lv_neT c5 (a := 1) (by decide)
    have nc6 := lv_neT c6 (a := 2) (by decide)
    have nc7 := lv_neT c7 (a := 3) (by decide)
    have nc8 := lv_neT c8 (a := 4) (by decide)
    have nc9 := lv_neT c9 (a := 5) (by decide)
    have nc10 := lv_neT c10 (a := 6) (by decide)
    have nc11 := lv_neT c11 (a := 7) (by decide)
    have nc12 := lv_neT c12 (a := 8) (by decide)
    have nc13 := lv_neT c13 (a := 9) (by decide)
    have nc14 := lv_neT c14 (a := 10) (by decide)
    have nc15 := lv_neT c15 (a := 11) (by decide)
    have nc16 := lv_neT c16 (a := 12) (by decide)
    have nc17 := lv_neT c17 (a := 13) (by decide)
    have nc18 := lv_neT c18 (a := 14) (by decide)
    have nc19 := lv_neT c19 (a := 15) (by decide)
    have nc20 := lv_neT c20 (a := 16) (by decide)
    have nc21 := lv_neT c21 (a := 17) (by decide)
    have nc22 := lv_neT c22 (a := 18) (by decide)
    have nc23 := lv_neT c23 (a := 19) (by decide)
    have nc24 := lv_neT c24 (a := 20) (by decide)
    have nc25 := lv_neT c25 (a := 21) (by decide)
    have nc26 := lv_neT c26 (a := 22) (by decide)
    have nc27 := lv_neT c27 (a := 23) (by decide)
    have nc28 := lv_neT c28 (a := 24) (by decide)
    have nc29 := lv_neT c29 (a := 25) (by decide)
    have nc30 := lv_neT c30 (a := 26) (by decide)
    have nc31 := lv_neT c31 (a := 27) (by decide)
    have nc32 := lv_neT c32 (a := 28) (by decide)
    have nc33 := lv_neT c33 (a := 29) (by decide)
    have nc34 := lv_neT c34 (a := 30) (by decide)
    have nc35 := lv_neT c35 (a := 31) (by decide)
    have nc36 := lv_neT c36 (a := 32) (by decide)
    have nc37 := lv_neT c37 (a := 33) (by decide)
    have nc38 := lv_neT c38 (a := 34) (by decide)
    have nc39 := lv_neT c39 (a := 35) (by decide)
    have nc40 := lv_neT c40 (a := 36) (by decide)
    have nc41 := lv_neT c41 (a := 37) (by decide)
    have nc42 := lv_neT c42 (a := 38) (by decide)
    have nc43 := lv_neT c43 (a := 39) (by decide)
    have nc44 := lv_neT c44 (a := 40) (by decide)
    have nc45 := lv_neT c45 (a := 41) (by decide)
    have nc46 := lv_neT c46 (a := 42) (by decide)
    have nc47 := lv_neT c47 (a := 43) (by decide)
    have nc48 := lv_neT c48 (a := 44) (by decide)
    have nc49 := lv_neT c49 (a := 45) (by decide)
    have nc50 := lv_neT c50 (a := 46) (by decide)
    have nc51 := lv_neT c51 (a := 47) (by decide)
    have nc52 := lv_neT c52 (a := 48) (by decide)
    have nc53 := lv_neT c53 (a := 49) (by decide)
    have nc54 := lv_neT c54 (a := 50) (by decide)
    have nc55 := lv_neT c55 (a := 51) (by decide)
    refine ws_tableOut (tgt := 1743) (dcd d_L_law_0 21 rfl) (by omega) (by decide) ?_
    exact ws_loc [0, 1, 2, 3] rfl h
theorem sg_L_law_1743 {x3 : Int32} (h : Ws G L_law 18 [(0, .ref 0), (1, .ref 2), (2, .ref 76), (3, .int (x3 + 6))] [] u Q) : Ws G L_law 1743 [(0, .ref 0), (1, .ref 2), (2, .ref 76), (3, .int x3)] [] u Q := by
  refine ws_iinc (v := 6) (l' := [(3, .int (x3 + 6)), (0, .ref 0), (1, .ref 2), (2, .ref 76)]) 3 (dcd d_L_law_39 27 rfl) rfl (by decide) (by decide) rfl ?_
  refine ws_goto (tgt := 18) (dcd d_L_law_39 28 rfl) (by decide) ?_
  exact ws_loc [1, 2, 3, 0] rfl h
theorem sg_L_law_256 {x3 : Int32} (h : (vp_in (x3 + 1) (gn G) ∧ (vp_in (x3 + 2) (gn G) ∧ Ws G D_row 0 [(0, .ref 2), (1, .int (gx G ((x3 + 1) : Int32).toNatClampNeg)), (2, .int (gx G ((x3 + 2) : Int32).toNatClampNeg))] [] u (RI fun a3 u3 => (vp_in (x3 + 1) (gn G) ∧ (vp_in (x3 + 2) (gn G) ∧ Ws G m_row 0 [(0, .ref 76), (1, .int (gx G ((x3 + 1) : Int32).toNatClampNeg)), (2, .int (gx G ((x3 + 2) : Int32).toNatClampNeg))] [] u3 (RI fun a6 u6 => Ws G L_law 1743 [(0, .ref 0), (1, .ref 2), (2, .ref 76), (3, .int x3)] [] u6 Q))))))) : Ws G L_law 256 [(0, .ref 0), (1, .ref 2), (2, .ref 76), (3, .int x3)] [] u Q := by
  refine ws_aload_n 1 (dcd d_L_law_0 22 rfl) rfl ?_
  refine ws_aload_n 0 (dcd d_L_law_0 23 rfl) rfl ?_
  refine ws_iload_n 3 (dcd d_L_law_0 24 rfl) rfl ?_
  refine ws_iconst (v := 1) (dcd d_L_law_0 25 rfl) (by decide) ?_
  refine ws_iadd (dcd d_L_law_0 26 rfl) ?_
  obtain ⟨e1, h⟩ := h
  refine ws_sld (dcd d_L_law_0 27 rfl) e1 ?_
  refine ws_aload_n 0 (dcd d_L_law_0 28 rfl) rfl ?_
  refine ws_iload_n 3 (dcd d_L_law_0 29 rfl) rfl ?_
  refine ws_iconst (v := 2) (dcd d_L_law_1 0 rfl) (by decide) ?_
  refine ws_iadd (dcd d_L_law_1 1 rfl) ?_
  obtain ⟨e2, h⟩ := h
  refine ws_sld (dcd d_L_law_1 2 rfl) e2 ?_
  refine ws_callVI (o := 2) (As := [.int (gx G ((x3 + 1) : Int32).toNatClampNeg), .int (gx G ((x3 + 2) : Int32).toNatClampNeg)]) (st := []) (la := [(0, .ref 2), (1, .int (gx G ((x3 + 1) : Int32).toNatClampNeg)), (2, .int (gx G ((x3 + 2) : Int32).toNatClampNeg))]) (dcd d_L_law_1 3 rfl) cv_D_row k_L_13 ⟨by decide, by decide⟩ ok_2 rfl (Nat.le_of_ble_eq_true rfl) (Nat.le_of_ble_eq_true rfl) rfl rfl h (fun a3 u3 h => ?_)
  refine ws_pop (dcd d_L_law_1 4 rfl) rfl ?_
  refine ws_aload_n 2 (dcd d_L_law_1 5 rfl) rfl ?_
  refine ws_aload_n 0 (dcd d_L_law_1 6 rfl) rfl ?_
  refine ws_iload_n 3 (dcd d_L_law_1 7 rfl) rfl ?_
  refine ws_iconst (v := 1) (dcd d_L_law_1 8 rfl) (by decide) ?_
  refine ws_iadd (dcd d_L_law_1 9 rfl) ?_
  obtain ⟨e4, h⟩ := h
  refine ws_sld (dcd d_L_law_1 10 rfl) e4 ?_
  refine ws_aload_n 0 (dcd d_L_law_1 11 rfl) rfl ?_
  refine ws_iload_n 3 (dcd d_L_law_1 12 rfl) rfl ?_
  refine ws_iconst (v := 2) (dcd d_L_law_1 13 rfl) (by decide) ?_
  refine ws_iadd (dcd d_L_law_1 14 rfl) ?_
  obtain ⟨e5, h⟩ := h
  refine ws_sld (dcd d_L_law_1 15 rfl) e5 ?_
  refine ws_callVI (o := 76) (As := [.int (gx G ((x3 + 1) : Int32).toNatClampNeg), .int (gx G ((x3 + 2) : Int32).toNatClampNeg)]) (st := []) (la := [(0, .ref 76), (1, .int (gx G ((x3 + 1) : Int32).toNatClampNeg)), (2, .int (gx G ((x3 + 2) : Int32).toNatClampNeg))]) (dcd d_L_law_1 16 rfl) cv_m_row k_L_17 ⟨by decide, by decide⟩ ok_76 rfl (Nat.le_of_ble_eq_true rfl) (Nat.le_of_ble_eq_true rfl) rfl rfl h (fun a6 u6 h => ?_)
  refine ws_pop (dcd d_L_law_1 17 rfl) rfl ?_
  refine ws_goto (tgt := 1743) (dcd d_L_law_1 18 rfl) (by decide) ?_
  exact ws_loc [0, 1, 2, 3] rfl h
theorem sg_L_law_289 {x3 : Int32} (h : (vp_in (x3 + 1) (gn G) ∧ (vp_in (x3 + 2) (gn G) ∧ (vp_in (x3 + 3) (gn G) ∧ Ws G D_lay 0 [(0, .ref 2), (1, .int (gx G ((x3 + 1) : Int32).toNatClampNeg)), (2, .int (gx G ((x3 + 2) : Int32).toNatClampNeg)), (3, .int (gx G ((x3 + 3) : Int32).toNatClampNeg))] [] u (RI fun a4 u4 => (vp_in (x3 + 1) (gn G) ∧ (vp_in (x3 + 2) (gn G) ∧ (vp_in (x3 + 3) (gn G) ∧ Ws G m_lay 0 [(0, .ref 76), (1, .int (gx G ((x3 + 1) : Int32).toNatClampNeg)), (2, .int (gx G ((x3 + 2) : Int32).toNatClampNeg)), (3, .int (gx G ((x3 + 3) : Int32).toNatClampNeg))] [] u4 (RI fun a8 u8 => Ws G L_law 1743 [(0, .ref 0), (1, .ref 2), (2, .ref 76), (3, .int x3)] [] u8 Q))))))))) : Ws G L_law 289 [(0, .ref 0), (1, .ref 2), (2, .ref 76), (3, .int x3)] [] u Q := by
  refine ws_aload_n 1 (dcd d_L_law_1 19 rfl) rfl ?_
  refine ws_aload_n 0 (dcd d_L_law_1 20 rfl) rfl ?_
  refine ws_iload_n 3 (dcd d_L_law_1 21 rfl) rfl ?_
  refine ws_iconst (v := 1) (dcd d_L_law_1 22 rfl) (by decide) ?_
  refine ws_iadd (dcd d_L_law_1 23 rfl) ?_
  obtain ⟨e1, h⟩ := h
  refine ws_sld (dcd d_L_law_1 24 rfl) e1 ?_
  refine ws_aload_n 0 (dcd d_L_law_1 25 rfl) rfl ?_
  refine ws_iload_n 3 (dcd d_L_law_1 26 rfl) rfl ?_
  refine ws_iconst (v := 2) (dcd d_L_law_1 27 rfl) (by decide) ?_
  refine ws_iadd (dcd d_L_law_1 28 rfl) ?_
  obtain ⟨e2, h⟩ := h
  refine ws_sld (dcd d_L_law_1 29 rfl) e2 ?_
  refine ws_aload_n 0 (dcd d_L_law_2 0 rfl) rfl ?_
  refine ws_iload_n 3 (dcd d_L_law_2 1 rfl) rfl ?_
  refine ws_iconst (v := 3) (dcd d_L_law_2 2 rfl) (by decide) ?_
  refine ws_iadd (dcd d_L_law_2 3 rfl) ?_
  obtain ⟨e3, h⟩ := h
  refine ws_sld (dcd d_L_law_2 4 rfl) e3 ?_
  refine ws_callVI (o := 2) (As := [.int (gx G ((x3 + 1) : Int32).toNatClampNeg), .int (gx G ((x3 + 2) : Int32).toNatClampNeg), .int (gx G ((x3 + 3) : Int32).toNatClampNeg)]) (st := []) (la := [(0, .ref 2), (1, .int (gx G ((x3 + 1) : Int32).toNatClampNeg)), (2, .int (gx G ((x3 + 2) : Int32).toNatClampNeg)), (3, .int (gx G ((x3 + 3) : Int32).toNatClampNeg))]) (dcd d_L_law_2 5 rfl) cv_D_lay k_L_18 ⟨by decide, by decide⟩ ok_2 rfl (Nat.le_of_ble_eq_true rfl) (Nat.le_of_ble_eq_true rfl) rfl rfl h (fun a4 u4 h => ?_)
  refine ws_pop (dcd d_L_law_2 6 rfl) rfl ?_
  refine ws_aload_n 2 (dcd d_L_law_2 7 rfl) rfl ?_
  refine ws_aload_n 0 (dcd d_L_law_2 8 rfl) rfl ?_
  refine ws_iload_n 3 (dcd d_L_law_2 9 rfl) rfl ?_
  refine ws_iconst (v := 1) (dcd d_L_law_2 10 rfl) (by decide) ?_
  refine ws_iadd (dcd d_L_law_2 11 rfl) ?_
  obtain ⟨e5, h⟩ := h
  refine ws_sld (dcd d_L_law_2 12 rfl) e5 ?_
  refine ws_aload_n 0 (dcd d_L_law_2 13 rfl) rfl ?_
  refine ws_iload_n 3 (dcd d_L_law_2 14 rfl) rfl ?_
  refine ws_iconst (v := 2) (dcd d_L_law_2 15 rfl) (by decide) ?_
  refine ws_iadd (dcd d_L_law_2 16 rfl) ?_
  obtain ⟨e6, h⟩ := h
  refine ws_sld (dcd d_L_law_2 17 rfl) e6 ?_
  refine ws_aload_n 0 (dcd d_L_law_2 18 rfl) rfl ?_
  refine ws_iload_n 3 (dcd d_L_law_2 19 rfl) rfl ?_
  refine ws_iconst (v := 3) (dcd d_L_law_2 20 rfl) (by decide) ?_
  refine ws_iadd (dcd d_L_law_2 21 rfl) ?_
  obtain ⟨e7, h⟩ := h
  refine ws_sld (dcd d_L_law_2 22 rfl) e7 ?_
  refine ws_callVI (o := 76) (As := [.int (gx G ((x3 + 1) : Int32).toNatClampNeg), .int (gx G ((x3 + 2) : Int32).toNatClampNeg), .int (gx G ((x3 + 3) : Int32).toNatClampNeg)]) (st := []) (la := [(0, .ref 76), (1, .int (gx G ((x3 + 1) : Int32).toNatClampNeg)), (2, .int (gx G ((x3 + 2) : Int32).toNatClampNeg)), (3, .int (gx G ((x3 + 3) : Int32).toNatClampNeg))]) (dcd d_L_law_2 23 rfl) cv_m_lay k_L_22 ⟨by decide, by decide⟩ ok_76 rfl (Nat.le_of_ble_eq_true rfl) (Nat.le_of_ble_eq_true rfl) rfl rfl h (fun a8 u8 h => ?_)
  refine ws_pop (dcd d_L_law_2 24 rfl) rfl ?_
  refine ws_goto (tgt := 1743) (dcd d_L_law_2 25 rfl) (by decide) ?_
  exact ws_loc [0, 1, 2, 3] rfl h
theorem sg_L_law_332 {x3 : Int32} (h : (vp_in (x3 + 1) (gn G) ∧ (vp_in (x3 + 2) (gn G) ∧ Ws G D_at 0 [(0, .ref 2), (1, .int (gx G ((x3 + 1) : Int32).toNatClampNeg)), (2, .int (gx G ((x3 + 2) : Int32).toNatClampNeg))] [] u (RI fun a3 u3 => (vp_in (x3 + 1) (gn G) ∧ (vp_in (x3 + 2) (gn G) ∧ Ws G m_at 0 [(0, .ref 76), (1, .int (gx G ((x3 + 1) : Int32).toNatClampNeg)), (2, .int (gx G ((x3 + 2) : Int32).toNatClampNeg))] [] u3 (RI fun a6 u6 => Ws G L_law 1743 [(0, .ref 0), (1, .ref 2), (2, .ref 76), (3, .int x3)] [] u6 Q))))))) : Ws G L_law 332 [(0, .ref 0), (1, .ref 2), (2, .ref 76), (3, .int x3)] [] u Q := by
  refine ws_aload_n 1 (dcd d_L_law_2 26 rfl) rfl ?_
  refine ws_aload_n 0 (dcd d_L_law_2 27 rfl) rfl ?_
  refine ws_iload_n 3 (dcd d_L_law_2 28 rfl) rfl ?_
  refine ws_iconst (v := 1) (dcd d_L_law_2 29 rfl) (by decide) ?_
  refine ws_iadd (dcd d_L_law_3 0 rfl) ?_
  obtain ⟨e1, h⟩ := h
  refine ws_sld (dcd d_L_law_3 1 rfl) e1 ?_
  refine ws_aload_n 0 (dcd d_L_law_3 2 rfl) rfl ?_
  refine ws_iload_n 3 (dcd d_L_law_3 3 rfl) rfl ?_
  refine ws_iconst (v := 2) (dcd d_L_law_3 4 rfl) (by decide) ?_
  refine ws_iadd (dcd d_L_law_3 5 rfl) ?_
  obtain ⟨e2, h⟩ := h
  refine ws_sld (dcd d_L_law_3 6 rfl) e2 ?_
  refine ws_callVI (o := 2) (As := [.int (gx G ((x3 + 1) : Int32).toNatClampNeg), .int (gx G ((x3 + 2) : Int32).toNatClampNeg)]) (st := []) (la := [(0, .ref 2), (1, .int (gx G ((x3 + 1) : Int32).toNatClampNeg)), (2, .int (gx G ((x3 + 2) : Int32).toNatClampNeg))]) (dcd d_L_law_3 7 rfl) cv_D_at k_L_23 ⟨by decide, by decide⟩ ok_2 rfl (Nat.le_of_ble_eq_true rfl) (Nat.le_of_ble_eq_true rfl) rfl rfl h (fun a3 u3 h => ?_)
  refine ws_pop (dcd d_L_law_3 8 rfl) rfl ?_
  refine ws_aload_n 2 (dcd d_L_law_3 9 rfl) rfl ?_
  refine ws_aload_n 0 (dcd d_L_law_3 10 rfl) rfl ?_
  refine ws_iload_n 3 (dcd d_L_law_3 11 rfl) rfl ?_
  refine ws_iconst (v := 1) (dcd d_L_law_3 12 rfl) (by decide) ?_
  refine ws_iadd (dcd d_L_law_3 13 rfl) ?_
  obtain ⟨e4, h⟩ := h
  refine ws_sld (dcd d_L_law_3 14 rfl) e4 ?_
  refine ws_aload_n 0 (dcd d_L_law_3 15 rfl) rfl ?_
  refine ws_iload_n 3 (dcd d_L_law_3 16 rfl) rfl ?_
  refine ws_iconst (v := 2) (dcd d_L_law_3 17 rfl) (by decide) ?_
  refine ws_iadd (dcd d_L_law_3 18 rfl) ?_
  obtain ⟨e5, h⟩ := h
  refine ws_sld (dcd d_L_law_3 19 rfl) e5 ?_
  refine ws_callVI (o := 76) (As := [.int (gx G ((x3 + 1) : Int32).toNatClampNeg), .int (gx G ((x3 + 2) : Int32).toNatClampNeg)]) (st := []) (la := [(0, .ref 76), (1, .int (gx G ((x3 + 1) : Int32).toNatClampNeg)), (2, .int (gx G ((x3 + 2) : Int32).toNatClampNeg))]) (dcd d_L_law_3 20 rfl) cv_m_at k_L_26 ⟨by decide, by decide⟩ ok_76 rfl (Nat.le_of_ble_eq_true rfl) (Nat.le_of_ble_eq_true rfl) rfl rfl h (fun a6 u6 h => ?_)
  refine ws_pop (dcd d_L_law_3 21 rfl) rfl ?_
  refine ws_goto (tgt := 1743) (dcd d_L_law_3 22 rfl) (by decide) ?_
  exact ws_loc [0, 1, 2, 3] rfl h
theorem sg_L_law_365 {x3 : Int32} (h : (vp_in (x3 + 1) (gn G) ∧ Ws G D_tear 0 [(0, .ref 2), (1, .int (gx G ((x3 + 1) : Int32).toNatClampNeg))] [] u (RI fun a2 u2 => (vp_in (x3 + 1) (gn G) ∧ Ws G m_tear 0 [(0, .ref 76), (1, .int (gx G ((x3 + 1) : Int32).toNatClampNeg))] [] u2 (RI fun a4 u4 => Ws G L_law 1743 [(0, .ref 0), (1, .ref 2), (2, .ref 76), (3, .int x3)] [] u4 Q))))) : Ws G L_law 365 [(0, .ref 0), (1, .ref 2), (2, .ref 76), (3, .int x3)] [] u Q := by
  refine ws_aload_n 1 (dcd d_L_law_3 23 rfl) rfl ?_
  refine ws_aload_n 0 (dcd d_L_law_3 24 rfl) rfl ?_
  refine ws_iload_n 3 (dcd d_L_law_3 25 rfl) rfl ?_
  refine ws_iconst (v := 1) (dcd d_L_law_3 26 rfl) (by decide) ?_
  refine ws_iadd (dcd d_L_law_3 27 rfl) ?_
  obtain ⟨e1, h⟩ := h
  refine ws_sld (dcd d_L_law_3 28 rfl) e1 ?_
  refine ws_callVI (o := 2) (As := [.int (gx G ((x3 + 1) : Int32).toNatClampNeg)]) (st := []) (la := [(0, .ref 2), (1, .int (gx G ((x3 + 1) : Int32).toNatClampNeg))]) (dcd d_L_law_3 29 rfl) cv_D_tear k_L_27 ⟨by decide, by decide⟩ ok_2 rfl (Nat.le_of_ble_eq_true rfl) (Nat.le_of_ble_eq_true rfl) rfl rfl h (fun a2 u2 h => ?_)
  refine ws_pop (dcd d_L_law_4 0 rfl) rfl ?_
  refine ws_aload_n 2 (dcd d_L_law_4 1 rfl) rfl ?_
  refine ws_aload_n 0 (dcd d_L_law_4 2 rfl) rfl ?_
  refine ws_iload_n 3 (dcd d_L_law_4 3 rfl) rfl ?_
  refine ws_iconst (v := 1) (dcd d_L_law_4 4 rfl) (by decide) ?_
  refine ws_iadd (dcd d_L_law_4 5 rfl) ?_
  obtain ⟨e3, h⟩ := h
  refine ws_sld (dcd d_L_law_4 6 rfl) e3 ?_
  refine ws_callVI (o := 76) (As := [.int (gx G ((x3 + 1) : Int32).toNatClampNeg)]) (st := []) (la := [(0, .ref 76), (1, .int (gx G ((x3 + 1) : Int32).toNatClampNeg))]) (dcd d_L_law_4 7 rfl) cv_m_tear k_L_31 ⟨by decide, by decide⟩ ok_76 rfl (Nat.le_of_ble_eq_true rfl) (Nat.le_of_ble_eq_true rfl) rfl rfl h (fun a4 u4 h => ?_)
  refine ws_pop (dcd d_L_law_4 8 rfl) rfl ?_
  refine ws_goto (tgt := 1743) (dcd d_L_law_4 9 rfl) (by decide) ?_
  exact ws_loc [0, 1, 2, 3] rfl h
theorem sg_L_law_388 {x3 : Int32} (h : (vp_in (x3 + 1) (gn G) ∧ (vp_in (x3 + 2) (gn G) ∧ (vp_in (x3 + 3) (gn G) ∧ (vp_in (x3 + 4) (gn G) ∧ (vp_in (x3 + 5) (gn G) ∧ Ws G D_copy 0 [(0, .ref 2), (1, .int (gx G ((x3 + 1) : Int32).toNatClampNeg)), (2, .int (gx G ((x3 + 2) : Int32).toNatClampNeg)), (3, .int (gx G ((x3 + 3) : Int32).toNatClampNeg)), (4, .int (gx G ((x3 + 4) : Int32).toNatClampNeg)), (5, .int (gx G ((x3 + 5) : Int32).toNatClampNeg))] [] u (RI fun a6 u6 => (vp_in (x3 + 1) (gn G) ∧ (vp_in (x3 + 2) (gn G) ∧ (vp_in (x3 + 3) (gn G) ∧ (vp_in (x3 + 4) (gn G) ∧ (vp_in (x3 + 5) (gn G) ∧ Ws G m_copy 0 [(0, .ref 76), (1, .int (gx G ((x3 + 1) : Int32).toNatClampNeg)), (2, .int (gx G ((x3 + 2) : Int32).toNatClampNeg)), (3, .int (gx G ((x3 + 3) : Int32).toNatClampNeg)), (4, .int (gx G ((x3 + 4) : Int32).toNatClampNeg)), (5, .int (gx G ((x3 + 5) : Int32).toNatClampNeg))] [] u6 (RI fun a12 u12 => Ws G L_law 1743 [(0, .ref 0), (1, .ref 2), (2, .ref 76), (3, .int x3)] [] u12 Q))))))))))))) : Ws G L_law 388 [(0, .ref 0), (1, .ref 2), (2, .ref 76), (3, .int x3)] [] u Q := by
  refine ws_aload_n 1 (dcd d_L_law_4 10 rfl) rfl ?_
  refine ws_aload_n 0 (dcd d_L_law_4 11 rfl) rfl ?_
  refine ws_iload_n 3 (dcd d_L_law_4 12 rfl) rfl ?_
  refine ws_iconst (v := 1) (dcd d_L_law_4 13 rfl) (by decide) ?_
  refine ws_iadd (dcd d_L_law_4 14 rfl) ?_
  obtain ⟨e1, h⟩ := h
  refine ws_sld (dcd d_L_law_4 15 rfl) e1 ?_
  refine ws_aload_n 0 (dcd d_L_law_4 16 rfl) rfl ?_
  refine ws_iload_n 3 (dcd d_L_law_4 17 rfl) rfl ?_
  refine ws_iconst (v := 2) (dcd d_L_law_4 18 rfl) (by decide) ?_
  refine ws_iadd (dcd d_L_law_4 19 rfl) ?_
  obtain ⟨e2, h⟩ := h
  refine ws_sld (dcd d_L_law_4 20 rfl) e2 ?_
  refine ws_aload_n 0 (dcd d_L_law_4 21 rfl) rfl ?_
  refine ws_iload_n 3 (dcd d_L_law_4 22 rfl) rfl ?_
  refine ws_iconst (v := 3) (dcd d_L_law_4 23 rfl) (by decide) ?_
  refine ws_iadd (dcd d_L_law_4 24 rfl) ?_
  obtain ⟨e3, h⟩ := h
  refine ws_sld (dcd d_L_law_4 25 rfl) e3 ?_
  refine ws_aload_n 0 (dcd d_L_law_4 26 rfl) rfl ?_
  refine ws_iload_n 3 (dcd d_L_law_4 27 rfl) rfl ?_
  refine ws_iconst (v := 4) (dcd d_L_law_4 28 rfl) (by decide) ?_
  refine ws_iadd (dcd d_L_law_4 29 rfl) ?_
  obtain ⟨e4, h⟩ := h
  refine ws_sld (dcd d_L_law_5 0 rfl) e4 ?_
  refine ws_aload_n 0 (dcd d_L_law_5 1 rfl) rfl ?_
  refine ws_iload_n 3 (dcd d_L_law_5 2 rfl) rfl ?_
  refine ws_iconst (v := 5) (dcd d_L_law_5 3 rfl) (by decide) ?_
  refine ws_iadd (dcd d_L_law_5 4 rfl) ?_
  obtain ⟨e5, h⟩ := h
  refine ws_sld (dcd d_L_law_5 5 rfl) e5 ?_
  refine ws_callVI (o := 2) (As := [.int (gx G ((x3 + 1) : Int32).toNatClampNeg), .int (gx G ((x3 + 2) : Int32).toNatClampNeg), .int (gx G ((x3 + 3) : Int32).toNatClampNeg), .int (gx G ((x3 + 4) : Int32).toNatClampNeg), .int (gx G ((x3 + 5) : Int32).toNatClampNeg)]) (st := []) (la := [(0, .ref 2), (1, .int (gx G ((x3 + 1) : Int32).toNatClampNeg)), (2, .int (gx G ((x3 + 2) : Int32).toNatClampNeg)), (3, .int (gx G ((x3 + 3) : Int32).toNatClampNeg)), (4, .int (gx G ((x3 + 4) : Int32).toNatClampNeg)), (5, .int (gx G ((x3 + 5) : Int32).toNatClampNeg))]) (dcd d_L_law_5 6 rfl) cv_D_copy k_L_32 ⟨by decide, by decide⟩ ok_2 rfl (Nat.le_of_ble_eq_true rfl) (Nat.le_of_ble_eq_true rfl) rfl rfl h (fun a6 u6 h => ?_)
  refine ws_pop (dcd d_L_law_5 7 rfl) rfl ?_
  refine ws_aload_n 2 (dcd d_L_law_5 8 rfl) rfl ?_
  refine ws_aload_n 0 (dcd d_L_law_5 9 rfl) rfl ?_
  refine ws_iload_n 3 (dcd d_L_law_5 10 rfl) rfl ?_
  refine ws_iconst (v := 1) (dcd d_L_law_5 11 rfl) (by decide) ?_
  refine ws_iadd (dcd d_L_law_5 12 rfl) ?_
  obtain ⟨e7, h⟩ := h
  refine ws_sld (dcd d_L_law_5 13 rfl) e7 ?_
  refine ws_aload_n 0 (dcd d_L_law_5 14 rfl) rfl ?_
  refine ws_iload_n 3 (dcd d_L_law_5 15 rfl) rfl ?_
  refine ws_iconst (v := 2) (dcd d_L_law_5 16 rfl) (by decide) ?_
  refine ws_iadd (dcd d_L_law_5 17 rfl) ?_
  obtain ⟨e8, h⟩ := h
  refine ws_sld (dcd d_L_law_5 18 rfl) e8 ?_
  refine ws_aload_n 0 (dcd d_L_law_5 19 rfl) rfl ?_
  refine ws_iload_n 3 (dcd d_L_law_5 20 rfl) rfl ?_
  refine ws_iconst (v := 3) (dcd d_L_law_5 21 rfl) (by decide) ?_
  refine ws_iadd (dcd d_L_law_5 22 rfl) ?_
  obtain ⟨e9, h⟩ := h
  refine ws_sld (dcd d_L_law_5 23 rfl) e9 ?_
  refine ws_aload_n 0 (dcd d_L_law_5 24 rfl) rfl ?_
  refine ws_iload_n 3 (dcd d_L_law_5 25 rfl) rfl ?_
  refine ws_iconst (v := 4) (dcd d_L_law_5 26 rfl) (by decide) ?_
  refine ws_iadd (dcd d_L_law_5 27 rfl) ?_
  obtain ⟨e10, h⟩ := h
  refine ws_sld (dcd d_L_law_5 28 rfl) e10 ?_
  refine ws_aload_n 0 (dcd d_L_law_5 29 rfl) rfl ?_
  refine ws_iload_n 3 (dcd d_L_law_6 0 rfl) rfl ?_
  refine ws_iconst (v := 5) (dcd d_L_law_6 1 rfl) (by decide) ?_
  refine ws_iadd (dcd d_L_law_6 2 rfl) ?_
  obtain ⟨e11, h⟩ := h
  refine ws_sld (dcd d_L_law_6 3 rfl) e11 ?_
  refine ws_callVI (o := 76) (As := [.int (gx G ((x3 + 1) : Int32).toNatClampNeg), .int (gx G ((x3 + 2) : Int32).toNatClampNeg), .int (gx G ((x3 + 3) : Int32).toNatClampNeg), .int (gx G ((x3 + 4) : Int32).toNatClampNeg), .int (gx G ((x3 + 5) : Int32).toNatClampNeg)]) (st := []) (la := [(0, .ref 76), (1, .int (gx G ((x3 + 1) : Int32).toNatClampNeg)), (2, .int (gx G ((x3 + 2) : Int32).toNatClampNeg)), (3, .int (gx G ((x3 + 3) : Int32).toNatClampNeg)), (4, .int (gx G ((x3 + 4) : Int32).toNatClampNeg)), (5, .int (gx G ((x3 + 5) : Int32).toNatClampNeg))]) (dcd d_L_law_6 4 rfl) cv_m_copy k_L_36 ⟨by decide, by decide⟩ ok_76 rfl (Nat.le_of_ble_eq_true rfl) (Nat.le_of_ble_eq_true rfl) rfl rfl h (fun a12 u12 h => ?_)
  refine ws_pop (dcd d_L_law_6 5 rfl) rfl ?_
  refine ws_goto (tgt := 1743) (dcd d_L_law_6 6 rfl) (by decide) ?_
  exact ws_loc [0, 1, 2, 3] rfl h
theorem sg_L_law_451 {x3 : Int32} (h : (vp_in (x3 + 1) (gn G) ∧ Ws G D_mean 0 [(0, .ref 2), (1, .int (gx G ((x3 + 1) : Int32).toNatClampNeg))] [] u (RI fun a2 u2 => (vp_in (x3 + 1) (gn G) ∧ Ws G m_mean 0 [(0, .ref 76), (1, .int (gx G ((x3 + 1) : Int32).toNatClampNeg))] [] u2 (RI fun a4 u4 => Ws G L_law 1743 [(0, .ref 0), (1, .ref 2), (2, .ref 76), (3, .int x3)] [] u4 Q))))) : Ws G L_law 451 [(0, .ref 0), (1, .ref 2), (2, .ref 76), (3, .int x3)] [] u Q := by
  refine ws_aload_n 1 (dcd d_L_law_6 7 rfl) rfl ?_
  refine ws_aload_n 0 (dcd d_L_law_6 8 rfl) rfl ?_
  refine ws_iload_n 3 (dcd d_L_law_6 9 rfl) rfl ?_
  refine ws_iconst (v := 1) (dcd d_L_law_6 10 rfl) (by decide) ?_
  refine ws_iadd (dcd d_L_law_6 11 rfl) ?_
  obtain ⟨e1, h⟩ := h
  refine ws_sld (dcd d_L_law_6 12 rfl) e1 ?_
  refine ws_callVI (o := 2) (As := [.int (gx G ((x3 + 1) : Int32).toNatClampNeg)]) (st := []) (la := [(0, .ref 2), (1, .int (gx G ((x3 + 1) : Int32).toNatClampNeg))]) (dcd d_L_law_6 13 rfl) cv_D_mean k_L_37 ⟨by decide, by decide⟩ ok_2 rfl (Nat.le_of_ble_eq_true rfl) (Nat.le_of_ble_eq_true rfl) rfl rfl h (fun a2 u2 h => ?_)
  refine ws_pop (dcd d_L_law_6 14 rfl) rfl ?_
  refine ws_aload_n 2 (dcd d_L_law_6 15 rfl) rfl ?_
  refine ws_aload_n 0 (dcd d_L_law_6 16 rfl) rfl ?_
  refine ws_iload_n 3 (dcd d_L_law_6 17 rfl) rfl ?_
  refine ws_iconst (v := 1) (dcd d_L_law_6 18 rfl) (by decide) ?_
  refine ws_iadd (dcd d_L_law_6 19 rfl) ?_
  obtain ⟨e3, h⟩ := h
  refine ws_sld (dcd d_L_law_6 20 rfl) e3 ?_
  refine ws_callVI (o := 76) (As := [.int (gx G ((x3 + 1) : Int32).toNatClampNeg)]) (st := []) (la := [(0, .ref 76), (1, .int (gx G ((x3 + 1) : Int32).toNatClampNeg))]) (dcd d_L_law_6 21 rfl) cv_m_mean k_L_40 ⟨by decide, by decide⟩ ok_76 rfl (Nat.le_of_ble_eq_true rfl) (Nat.le_of_ble_eq_true rfl) rfl rfl h (fun a4 u4 h => ?_)
  refine ws_pop (dcd d_L_law_6 22 rfl) rfl ?_
  refine ws_goto (tgt := 1743) (dcd d_L_law_6 23 rfl) (by decide) ?_
  exact ws_loc [0, 1, 2, 3] rfl h
theorem sg_L_law_474 {x3 : Int32} (h : (vp_in (x3 + 1) (gn G) ∧ (vp_in (x3 + 2) (gn G) ∧ Ws G D_text 0 [(0, .ref 2), (1, .int (gx G ((x3 + 1) : Int32).toNatClampNeg)), (2, .int (gx G ((x3 + 2) : Int32).toNatClampNeg))] [] u (RI fun a3 u3 => (vp_in (x3 + 1) (gn G) ∧ (vp_in (x3 + 2) (gn G) ∧ Ws G m_text 0 [(0, .ref 76), (1, .int (gx G ((x3 + 1) : Int32).toNatClampNeg)), (2, .int (gx G ((x3 + 2) : Int32).toNatClampNeg))] [] u3 (RI fun a6 u6 => Ws G L_law 1743 [(0, .ref 0), (1, .ref 2), (2, .ref 76), (3, .int x3)] [] u6 Q))))))) : Ws G L_law 474 [(0, .ref 0), (1, .ref 2), (2, .ref 76), (3, .int x3)] [] u Q := by
  refine ws_aload_n 1 (dcd d_L_law_6 24 rfl) rfl ?_
  refine ws_aload_n 0 (dcd d_L_law_6 25 rfl) rfl ?_
  refine ws_iload_n 3 (dcd d_L_law_6 26 rfl) rfl ?_
  refine ws_iconst (v := 1) (dcd d_L_law_6 27 rfl) (by decide) ?_
  refine ws_iadd (dcd d_L_law_6 28 rfl) ?_
  obtain ⟨e1, h⟩ := h
  refine ws_sld (dcd d_L_law_6 29 rfl) e1 ?_
  refine ws_aload_n 0 (dcd d_L_law_7 0 rfl) rfl ?_
  refine ws_iload_n 3 (dcd d_L_law_7 1 rfl) rfl ?_
  refine ws_iconst (v := 2) (dcd d_L_law_7 2 rfl) (by decide) ?_
  refine ws_iadd (dcd d_L_law_7 3 rfl) ?_
  obtain ⟨e2, h⟩ := h
  refine ws_sld (dcd d_L_law_7 4 rfl) e2 ?_
  refine ws_callVI (o := 2) (As := [.int (gx G ((x3 + 1) : Int32).toNatClampNeg), .int (gx G ((x3 + 2) : Int32).toNatClampNeg)]) (st := []) (la := [(0, .ref 2), (1, .int (gx G ((x3 + 1) : Int32).toNatClampNeg)), (2, .int (gx G ((x3 + 2) : Int32).toNatClampNeg))]) (dcd d_L_law_7 5 rfl) cv_D_text k_L_41 ⟨by decide, by decide⟩ ok_2 rfl (Nat.le_of_ble_eq_true rfl) (Nat.le_of_ble_eq_true rfl) rfl rfl h (fun a3 u3 h => ?_)
  refine ws_pop (dcd d_L_law_7 6 rfl) rfl ?_
  refine ws_aload_n 2 (dcd d_L_law_7 7 rfl) rfl ?_
  refine ws_aload_n 0 (dcd d_L_law_7 8 rfl) rfl ?_
  refine ws_iload_n 3 (dcd d_L_law_7 9 rfl) rfl ?_
  refine ws_iconst (v := 1) (dcd d_L_law_7 10 rfl) (by decide) ?_
  refine ws_iadd (dcd d_L_law_7 11 rfl) ?_
  obtain ⟨e4, h⟩ := h
  refine ws_sld (dcd d_L_law_7 12 rfl) e4 ?_
  refine ws_aload_n 0 (dcd d_L_law_7 13 rfl) rfl ?_
  refine ws_iload_n 3 (dcd d_L_law_7 14 rfl) rfl ?_
  refine ws_iconst (v := 2) (dcd d_L_law_7 15 rfl) (by decide) ?_
  refine ws_iadd (dcd d_L_law_7 16 rfl) ?_
  obtain ⟨e5, h⟩ := h
  refine ws_sld (dcd d_L_law_7 17 rfl) e5 ?_
  refine ws_callVI (o := 76) (As := [.int (gx G ((x3 + 1) : Int32).toNatClampNeg), .int (gx G ((x3 + 2) : Int32).toNatClampNeg)]) (st := []) (la := [(0, .ref 76), (1, .int (gx G ((x3 + 1) : Int32).toNatClampNeg)), (2, .int (gx G ((x3 + 2) : Int32).toNatClampNeg))]) (dcd d_L_law_7 18 rfl) cv_m_text k_L_44 ⟨by decide, by decide⟩ ok_76 rfl (Nat.le_of_ble_eq_true rfl) (Nat.le_of_ble_eq_true rfl) rfl rfl h (fun a6 u6 h => ?_)
  refine ws_pop (dcd d_L_law_7 19 rfl) rfl ?_
  refine ws_goto (tgt := 1743) (dcd d_L_law_7 20 rfl) (by decide) ?_
  exact ws_loc [0, 1, 2, 3] rfl h
theorem sg_L_law_507 {x3 : Int32} (h : (vp_in (x3 + 1) (gn G) ∧ (vp_in (x3 + 2) (gn G) ∧ (vp_in (x3 + 3) (gn G) ∧ Ws G D_put 0 [(0, .ref 2), (1, .int (gx G ((x3 + 1) : Int32).toNatClampNeg)), (2, .int (gx G ((x3 + 2) : Int32).toNatClampNeg)), (3, .int (gx G ((x3 + 3) : Int32).toNatClampNeg))] [] u (RI fun a4 u4 => (vp_in (x3 + 1) (gn G) ∧ (vp_in (x3 + 2) (gn G) ∧ (vp_in (x3 + 3) (gn G) ∧ Ws G m_put 0 [(0, .ref 76), (1, .int (gx G ((x3 + 1) : Int32).toNatClampNeg)), (2, .int (gx G ((x3 + 2) : Int32).toNatClampNeg)), (3, .int (gx G ((x3 + 3) : Int32).toNatClampNeg))] [] u4 (RI fun a8 u8 => Ws G L_law 1743 [(0, .ref 0), (1, .ref 2), (2, .ref 76), (3, .int x3)] [] u8 Q))))))))) : Ws G L_law 507 [(0, .ref 0), (1, .ref 2), (2, .ref 76), (3, .int x3)] [] u Q := by
  refine ws_aload_n 1 (dcd d_L_law_7 21 rfl) rfl ?_
  refine ws_aload_n 0 (dcd d_L_law_7 22 rfl) rfl ?_
  refine ws_iload_n 3 (dcd d_L_law_7 23 rfl) rfl ?_
  refine ws_iconst (v := 1) (dcd d_L_law_7 24 rfl) (by decide) ?_
  refine ws_iadd (dcd d_L_law_7 25 rfl) ?_
  obtain ⟨e1, h⟩ := h
  refine ws_sld (dcd d_L_law_7 26 rfl) e1 ?_
  refine ws_aload_n 0 (dcd d_L_law_7 27 rfl) rfl ?_
  refine ws_iload_n 3 (dcd d_L_law_7 28 rfl) rfl ?_
  refine ws_iconst (v := 2) (dcd d_L_law_7 29 rfl) (by decide) ?_
  refine ws_iadd (dcd d_L_law_8 0 rfl) ?_
  obtain ⟨e2, h⟩ := h
  refine ws_sld (dcd d_L_law_8 1 rfl) e2 ?_
  refine ws_aload_n 0 (dcd d_L_law_8 2 rfl) rfl ?_
  refine ws_iload_n 3 (dcd d_L_law_8 3 rfl) rfl ?_
  refine ws_iconst (v := 3) (dcd d_L_law_8 4 rfl) (by decide) ?_
  refine ws_iadd (dcd d_L_law_8 5 rfl) ?_
  obtain ⟨e3, h⟩ := h
  refine ws_sld (dcd d_L_law_8 6 rfl) e3 ?_
  refine ws_callVI (o := 2) (As := [.int (gx G ((x3 + 1) : Int32).toNatClampNeg), .int (gx G ((x3 + 2) : Int32).toNatClampNeg), .int (gx G ((x3 + 3) : Int32).toNatClampNeg)]) (st := []) (la := [(0, .ref 2), (1, .int (gx G ((x3 + 1) : Int32).toNatClampNeg)), (2, .int (gx G ((x3 + 2) : Int32).toNatClampNeg)), (3, .int (gx G ((x3 + 3) : Int32).toNatClampNeg))]) (dcd d_L_law_8 7 rfl) cv_D_put k_L_45 ⟨by decide, by decide⟩ ok_2 rfl (Nat.le_of_ble_eq_true rfl) (Nat.le_of_ble_eq_true rfl) rfl rfl h (fun a4 u4 h => ?_)
  refine ws_pop (dcd d_L_law_8 8 rfl) rfl ?_
  refine ws_aload_n 2 (dcd d_L_law_8 9 rfl) rfl ?_
  refine ws_aload_n 0 (dcd d_L_law_8 10 rfl) rfl ?_
  refine ws_iload_n 3 (dcd d_L_law_8 11 rfl) rfl ?_
  refine ws_iconst (v := 1) (dcd d_L_law_8 12 rfl) (by decide) ?_
  refine ws_iadd (dcd d_L_law_8 13 rfl) ?_
  obtain ⟨e5, h⟩ := h
  refine ws_sld (dcd d_L_law_8 14 rfl) e5 ?_
  refine ws_aload_n 0 (dcd d_L_law_8 15 rfl) rfl ?_
  refine ws_iload_n 3 (dcd d_L_law_8 16 rfl) rfl ?_
  refine ws_iconst (v := 2) (dcd d_L_law_8 17 rfl) (by decide) ?_
  refine ws_iadd (dcd d_L_law_8 18 rfl) ?_
  obtain ⟨e6, h⟩ := h
  refine ws_sld (dcd d_L_law_8 19 rfl) e6 ?_
  refine ws_aload_n 0 (dcd d_L_law_8 20 rfl) rfl ?_
  refine ws_iload_n 3 (dcd d_L_law_8 21 rfl) rfl ?_
  refine ws_iconst (v := 3) (dcd d_L_law_8 22 rfl) (by decide) ?_
  refine ws_iadd (dcd d_L_law_8 23 rfl) ?_
  obtain ⟨e7, h⟩ := h
  refine ws_sld (dcd d_L_law_8 24 rfl) e7 ?_
  refine ws_callVI (o := 76) (As := [.int (gx G ((x3 + 1) : Int32).toNatClampNeg), .int (gx G ((x3 + 2) : Int32).toNatClampNeg), .int (gx G ((x3 + 3) : Int32).toNatClampNeg)]) (st := []) (la := [(0, .ref 76), (1, .int (gx G ((x3 + 1) : Int32).toNatClampNeg)), (2, .int (gx G ((x3 + 2) : Int32).toNatClampNeg)), (3, .int (gx G ((x3 + 3) : Int32).toNatClampNeg))]) (dcd d_L_law_8 25 rfl) cv_m_put k_L_48 ⟨by decide, by decide⟩ ok_76 rfl (Nat.le_of_ble_eq_true rfl) (Nat.le_of_ble_eq_true rfl) rfl rfl h (fun a8 u8 h => ?_)
  refine ws_pop (dcd d_L_law_8 26 rfl) rfl ?_
  refine ws_goto (tgt := 1743) (dcd d_L_law_8 27 rfl) (by decide) ?_
  exact ws_loc [0, 1, 2, 3] rfl h
theorem sg_L_law_550 {x3 : Int32} (h : (vp_in (x3 + 1) (gn G) ∧ Ws G D_fault 0 [(0, .ref 2), (1, .int (gx G ((x3 + 1) : Int32).toNatClampNeg))] [] u (RI fun a2 u2 => (vp_in (x3 + 1) (gn G) ∧ Ws G m_fault 0 [(0, .ref 76), (1, .int (gx G ((x3 + 1) : Int32).toNatClampNeg))] [] u2 (RI fun a4 u4 => Ws G L_law 1743 [(0, .ref 0), (1, .ref 2), (2, .ref 76), (3, .int x3)] [] u4 Q))))) : Ws G L_law 550 [(0, .ref 0), (1, .ref 2), (2, .ref 76), (3, .int x3)] [] u Q := by
  refine ws_aload_n 1 (dcd d_L_law_8 28 rfl) rfl ?_
  refine ws_aload_n 0 (dcd d_L_law_8 29 rfl) rfl ?_
  refine ws_iload_n 3 (dcd d_L_law_9 0 rfl) rfl ?_
  refine ws_iconst (v := 1) (dcd d_L_law_9 1 rfl) (by decide) ?_
  refine ws_iadd (dcd d_L_law_9 2 rfl) ?_
  obtain ⟨e1, h⟩ := h
  refine ws_sld (dcd d_L_law_9 3 rfl) e1 ?_
  refine ws_callVI (o := 2) (As := [.int (gx G ((x3 + 1) : Int32).toNatClampNeg)]) (st := []) (la := [(0, .ref 2), (1, .int (gx G ((x3 + 1) : Int32).toNatClampNeg))]) (dcd d_L_law_9 4 rfl) cv_D_fault k_L_49 ⟨by decide, by decide⟩ ok_2 rfl (Nat.le_of_ble_eq_true rfl) (Nat.le_of_ble_eq_true rfl) rfl rfl h (fun a2 u2 h => ?_)
  refine ws_pop (dcd d_L_law_9 5 rfl) rfl ?_
  refine ws_aload_n 2 (dcd d_L_law_9 6 rfl) rfl ?_
  refine ws_aload_n 0 (dcd d_L_law_9 7 rfl) rfl ?_
  refine ws_iload_n 3 (dcd d_L_law_9 8 rfl) rfl ?_
  refine ws_iconst (v := 1) (dcd d_L_law_9 9 rfl) (by decide) ?_
  refine ws_iadd (dcd d_L_law_9 10 rfl) ?_
  obtain ⟨e3, h⟩ := h
  refine ws_sld (dcd d_L_law_9 11 rfl) e3 ?_
  refine ws_callVI (o := 76) (As := [.int (gx G ((x3 + 1) : Int32).toNatClampNeg)]) (st := []) (la := [(0, .ref 76), (1, .int (gx G ((x3 + 1) : Int32).toNatClampNeg))]) (dcd d_L_law_9 12 rfl) cv_m_fault k_L_52 ⟨by decide, by decide⟩ ok_76 rfl (Nat.le_of_ble_eq_true rfl) (Nat.le_of_ble_eq_true rfl) rfl rfl h (fun a4 u4 h => ?_)
  refine ws_pop (dcd d_L_law_9 13 rfl) rfl ?_
  refine ws_goto (tgt := 1743) (dcd d_L_law_9 14 rfl) (by decide) ?_
  exact ws_loc [0, 1, 2, 3] rfl h
theorem sg_L_law_573 {x3 : Int32} (h : (vp_in (x3 + 1) (gn G) ∧ Ws G D_square 0 [(0, .ref 2), (1, .int (gx G ((x3 + 1) : Int32).toNatClampNeg))] [] u (RI fun a2 u2 => (vp_in (x3 + 1) (gn G) ∧ Ws G m_square 0 [(0, .ref 76), (1, .int (gx G ((x3 + 1) : Int32).toNatClampNeg))] [] u2 (RI fun a4 u4 => Ws G L_law 1743 [(0, .ref 0), (1, .ref 2), (2, .ref 76), (3, .int x3)] [] u4 Q))))) : Ws G L_law 573 [(0, .ref 0), (1, .ref 2), (2, .ref 76), (3, .int x3)] [] u Q := by
  refine ws_aload_n 1 (dcd d_L_law_9 15 rfl) rfl ?_
  refine ws_aload_n 0 (dcd d_L_law_9 16 rfl) rfl ?_
  refine ws_iload_n 3 (dcd d_L_law_9 17 rfl) rfl ?_
  refine ws_iconst (v := 1) (dcd d_L_law_9 18 rfl) (by decide) ?_
  refine ws_iadd (dcd d_L_law_9 19 rfl) ?_
  obtain ⟨e1, h⟩ := h
  refine ws_sld (dcd d_L_law_9 20 rfl) e1 ?_
  refine ws_callVI (o := 2) (As := [.int (gx G ((x3 + 1) : Int32).toNatClampNeg)]) (st := []) (la := [(0, .ref 2), (1, .int (gx G ((x3 + 1) : Int32).toNatClampNeg))]) (dcd d_L_law_9 21 rfl) cv_D_square k_L_53 ⟨by decide, by decide⟩ ok_2 rfl (Nat.le_of_ble_eq_true rfl) (Nat.le_of_ble_eq_true rfl) rfl rfl h (fun a2 u2 h => ?_)
  refine ws_pop (dcd d_L_law_9 22 rfl) rfl ?_
  refine ws_aload_n 2 (dcd d_L_law_9 23 rfl) rfl ?_
  refine ws_aload_n 0 (dcd d_L_law_9 24 rfl) rfl ?_
  refine ws_iload_n 3 (dcd d_L_law_9 25 rfl) rfl ?_
  refine ws_iconst (v := 1) (dcd d_L_law_9 26 rfl) (by decide) ?_
  refine ws_iadd (dcd d_L_law_9 27 rfl) ?_
  obtain ⟨e3, h⟩ := h
  refine ws_sld (dcd d_L_law_9 28 rfl) e3 ?_
  refine ws_callVI (o := 76) (As := [.int (gx G ((x3 + 1) : Int32).toNatClampNeg)]) (st := []) (la := [(0, .ref 76), (1, .int (gx G ((x3 + 1) : Int32).toNatClampNeg))]) (dcd d_L_law_9 29 rfl) cv_m_square k_L_56 ⟨by decide, by decide⟩ ok_76 rfl (Nat.le_of_ble_eq_true rfl) (Nat.le_of_ble_eq_true rfl) rfl rfl h (fun a4 u4 h => ?_)
  refine ws_pop (dcd d_L_law_10 0 rfl) rfl ?_
  refine ws_goto (tgt := 1743) (dcd d_L_law_10 1 rfl) (by decide) ?_
  exact ws_loc [0, 1, 2, 3] rfl h
theorem sg_L_law_596 {x3 : Int32} (h : (vp_in (x3 + 1) (gn G) ∧ (vp_in (x3 + 2) (gn G) ∧ Ws G D_about 0 [(0, .ref 2), (1, .int (gx G ((x3 + 1) : Int32).toNatClampNeg)), (2, .int (gx G ((x3 + 2) : Int32).toNatClampNeg))] [] u (RI fun a3 u3 => (vp_in (x3 + 1) (gn G) ∧ (vp_in (x3 + 2) (gn G) ∧ Ws G m_about 0 [(0, .ref 76), (1, .int (gx G ((x3 + 1) : Int32).toNatClampNeg)), (2, .int (gx G ((x3 + 2) : Int32).toNatClampNeg))] [] u3 (RI fun a6 u6 => Ws G L_law 1743 [(0, .ref 0), (1, .ref 2), (2, .ref 76), (3, .int x3)] [] u6 Q))))))) : Ws G L_law 596 [(0, .ref 0), (1, .ref 2), (2, .ref 76), (3, .int x3)] [] u Q := by
  refine ws_aload_n 1 (dcd d_L_law_10 2 rfl) rfl ?_
  refine ws_aload_n 0 (dcd d_L_law_10 3 rfl) rfl ?_
  refine ws_iload_n 3 (dcd d_L_law_10 4 rfl) rfl ?_
  refine ws_iconst (v := 1) (dcd d_L_law_10 5 rfl) (by decide) ?_
  refine ws_iadd (dcd d_L_law_10 6 rfl) ?_
  obtain ⟨e1, h⟩ := h
  refine ws_sld (dcd d_L_law_10 7 rfl) e1 ?_
  refine ws_aload_n 0 (dcd d_L_law_10 8 rfl) rfl ?_
  refine ws_iload_n 3 (dcd d_L_law_10 9 rfl) rfl ?_
  refine ws_iconst (v := 2) (dcd d_L_law_10 10 rfl) (by decide) ?_
  refine ws_iadd (dcd d_L_law_10 11 rfl) ?_
  obtain ⟨e2, h⟩ := h
  refine ws_sld (dcd d_L_law_10 12 rfl) e2 ?_
  refine ws_callVI (o := 2) (As := [.int (gx G ((x3 + 1) : Int32).toNatClampNeg), .int (gx G ((x3 + 2) : Int32).toNatClampNeg)]) (st := []) (la := [(0, .ref 2), (1, .int (gx G ((x3 + 1) : Int32).toNatClampNeg)), (2, .int (gx G ((x3 + 2) : Int32).toNatClampNeg))]) (dcd d_L_law_10 13 rfl) cv_D_about k_L_57 ⟨by decide, by decide⟩ ok_2 rfl (Nat.le_of_ble_eq_true rfl) (Nat.le_of_ble_eq_true rfl) rfl rfl h (fun a3 u3 h => ?_)
  refine ws_pop (dcd d_L_law_10 14 rfl) rfl ?_
  refine ws_aload_n 2 (dcd d_L_law_10 15 rfl) rfl ?_
  refine ws_aload_n 0 (dcd d_L_law_10 16 rfl) rfl ?_
  refine ws_iload_n 3 (dcd d_L_law_10 17 rfl) rfl ?_
  refine ws_iconst (v := 1) (dcd d_L_law_10 18 rfl) (by decide) ?_
  refine ws_iadd (dcd d_L_law_10 19 rfl) ?_
  obtain ⟨e4, h⟩ := h
  refine ws_sld (dcd d_L_law_10 20 rfl) e4 ?_
  refine ws_aload_n 0 (dcd d_L_law_10 21 rfl) rfl ?_
  refine ws_iload_n 3 (dcd d_L_law_10 22 rfl) rfl ?_
  refine ws_iconst (v := 2) (dcd d_L_law_10 23 rfl) (by decide) ?_
  refine ws_iadd (dcd d_L_law_10 24 rfl) ?_
  obtain ⟨e5, h⟩ := h
  refine ws_sld (dcd d_L_law_10 25 rfl) e5 ?_
  refine ws_callVI (o := 76) (As := [.int (gx G ((x3 + 1) : Int32).toNatClampNeg), .int (gx G ((x3 + 2) : Int32).toNatClampNeg)]) (st := []) (la := [(0, .ref 76), (1, .int (gx G ((x3 + 1) : Int32).toNatClampNeg)), (2, .int (gx G ((x3 + 2) : Int32).toNatClampNeg))]) (dcd d_L_law_10 26 rfl) cv_m_about k_L_60 ⟨by decide, by decide⟩ ok_76 rfl (Nat.le_of_ble_eq_true rfl) (Nat.le_of_ble_eq_true rfl) rfl rfl h (fun a6 u6 h => ?_)
  refine ws_pop (dcd d_L_law_10 27 rfl) rfl ?_
  refine ws_goto (tgt := 1743) (dcd d_L_law_10 28 rfl) (by decide) ?_
  exact ws_loc [0, 1, 2, 3] rfl h
theorem sg_L_law_629 {x3 : Int32} (h : (vp_in (x3 + 1) (gn G) ∧ (vp_in (x3 + 2) (gn G) ∧ Ws G D_mark 0 [(0, .ref 2), (1, .int (gx G ((x3 + 1) : Int32).toNatClampNeg)), (2, .int (gx G ((x3 + 2) : Int32).toNatClampNeg))] [] u (RI fun a3 u3 => (vp_in (x3 + 1) (gn G) ∧ (vp_in (x3 + 2) (gn G) ∧ Ws G m_mark 0 [(0, .ref 76), (1, .int (gx G ((x3 + 1) : Int32).toNatClampNeg)), (2, .int (gx G ((x3 + 2) : Int32).toNatClampNeg))] [] u3 (RI fun a6 u6 => Ws G L_law 1743 [(0, .ref 0), (1, .ref 2), (2, .ref 76), (3, .int x3)] [] u6 Q))))))) : Ws G L_law 629 [(0, .ref 0), (1, .ref 2), (2, .ref 76), (3, .int x3)] [] u Q := by
  refine ws_aload_n 1 (dcd d_L_law_10 29 rfl) rfl ?_
  refine ws_aload_n 0 (dcd d_L_law_11 0 rfl) rfl ?_
  refine ws_iload_n 3 (dcd d_L_law_11 1 rfl) rfl ?_
  refine ws_iconst (v := 1) (dcd d_L_law_11 2 rfl) (by decide) ?_
  refine ws_iadd (dcd d_L_law_11 3 rfl) ?_
  obtain ⟨e1, h⟩ := h
  refine ws_sld (dcd d_L_law_11 4 rfl) e1 ?_
  refine ws_aload_n 0 (dcd d_L_law_11 5 rfl) rfl ?_
  refine ws_iload_n 3 (dcd d_L_law_11 6 rfl) rfl ?_
  refine ws_iconst (v := 2) (dcd d_L_law_11 7 rfl) (by decide) ?_
  refine ws_iadd (dcd d_L_law_11 8 rfl) ?_
  obtain ⟨e2, h⟩ := h
  refine ws_sld (dcd d_L_law_11 9 rfl) e2 ?_
  refine ws_callVI (o := 2) (As := [.int (gx G ((x3 + 1) : Int32).toNatClampNeg), .int (gx G ((x3 + 2) : Int32).toNatClampNeg)]) (st := []) (la := [(0, .ref 2), (1, .int (gx G ((x3 + 1) : Int32).toNatClampNeg)), (2, .int (gx G ((x3 + 2) : Int32).toNatClampNeg))]) (dcd d_L_law_11 10 rfl) cv_D_mark k_L_61 ⟨by decide, by decide⟩ ok_2 rfl (Nat.le_of_ble_eq_true rfl) (Nat.le_of_ble_eq_true rfl) rfl rfl h (fun a3 u3 h => ?_)
  refine ws_pop (dcd d_L_law_11 11 rfl) rfl ?_
  refine ws_aload_n 2 (dcd d_L_law_11 12 rfl) rfl ?_
  refine ws_aload_n 0 (dcd d_L_law_11 13 rfl) rfl ?_
  refine ws_iload_n 3 (dcd d_L_law_11 14 rfl) rfl ?_
  refine ws_iconst (v := 1) (dcd d_L_law_11 15 rfl) (by decide) ?_
  refine ws_iadd (dcd d_L_law_11 16 rfl) ?_
  obtain ⟨e4, h⟩ := h
  refine ws_sld (dcd d_L_law_11 17 rfl) e4 ?_
  refine ws_aload_n 0 (dcd d_L_law_11 18 rfl) rfl ?_
  refine ws_iload_n 3 (dcd d_L_law_11 19 rfl) rfl ?_
  refine ws_iconst (v := 2) (dcd d_L_law_11 20 rfl) (by decide) ?_
  refine ws_iadd (dcd d_L_law_11 21 rfl) ?_
  obtain ⟨e5, h⟩ := h
  refine ws_sld (dcd d_L_law_11 22 rfl) e5 ?_
  refine ws_callVI (o := 76) (As := [.int (gx G ((x3 + 1) : Int32).toNatClampNeg), .int (gx G ((x3 + 2) : Int32).toNatClampNeg)]) (st := []) (la := [(0, .ref 76), (1, .int (gx G ((x3 + 1) : Int32).toNatClampNeg)), (2, .int (gx G ((x3 + 2) : Int32).toNatClampNeg))]) (dcd d_L_law_11 23 rfl) cv_m_mark k_L_64 ⟨by decide, by decide⟩ ok_76 rfl (Nat.le_of_ble_eq_true rfl) (Nat.le_of_ble_eq_true rfl) rfl rfl h (fun a6 u6 h => ?_)
  refine ws_pop (dcd d_L_law_11 24 rfl) rfl ?_
  refine ws_goto (tgt := 1743) (dcd d_L_law_11 25 rfl) (by decide) ?_
  exact ws_loc [0, 1, 2, 3] rfl h
theorem sg_L_law_662 {x3 : Int32} (h : (vp_in (x3 + 1) (gn G) ∧ Ws G D_shut 0 [(0, .ref 2), (1, .int (gx G ((x3 + 1) : Int32).toNatClampNeg))] [] u (RI fun a2 u2 => (vp_in (x3 + 1) (gn G) ∧ Ws G m_shut 0 [(0, .ref 76), (1, .int (gx G ((x3 + 1) : Int32).toNatClampNeg))] [] u2 (RI fun a4 u4 => Ws G L_law 1743 [(0, .ref 0), (1, .ref 2), (2, .ref 76), (3, .int x3)] [] u4 Q))))) : Ws G L_law 662 [(0, .ref 0), (1, .ref 2), (2, .ref 76), (3, .int x3)] [] u Q := by
  refine ws_aload_n 1 (dcd d_L_law_11 26 rfl) rfl ?_
  refine ws_aload_n 0 (dcd d_L_law_11 27 rfl) rfl ?_
  refine ws_iload_n 3 (dcd d_L_law_11 28 rfl) rfl ?_
  refine ws_iconst (v := 1) (dcd d_L_law_11 29 rfl) (by decide) ?_
  refine ws_iadd (dcd d_L_law_12 0 rfl) ?_
  obtain ⟨e1, h⟩ := h
  refine ws_sld (dcd d_L_law_12 1 rfl) e1 ?_
  refine ws_callVI (o := 2) (As := [.int (gx G ((x3 + 1) : Int32).toNatClampNeg)]) (st := []) (la := [(0, .ref 2), (1, .int (gx G ((x3 + 1) : Int32).toNatClampNeg))]) (dcd d_L_law_12 2 rfl) cv_D_shut k_L_65 ⟨by decide, by decide⟩ ok_2 rfl (Nat.le_of_ble_eq_true rfl) (Nat.le_of_ble_eq_true rfl) rfl rfl h (fun a2 u2 h => ?_)
  refine ws_pop (dcd d_L_law_12 3 rfl) rfl ?_
  refine ws_aload_n 2 (dcd d_L_law_12 4 rfl) rfl ?_
  refine ws_aload_n 0 (dcd d_L_law_12 5 rfl) rfl ?_
  refine ws_iload_n 3 (dcd d_L_law_12 6 rfl) rfl ?_
  refine ws_iconst (v := 1) (dcd d_L_law_12 7 rfl) (by decide) ?_
  refine ws_iadd (dcd d_L_law_12 8 rfl) ?_
  obtain ⟨e3, h⟩ := h
  refine ws_sld (dcd d_L_law_12 9 rfl) e3 ?_
  refine ws_callVI (o := 76) (As := [.int (gx G ((x3 + 1) : Int32).toNatClampNeg)]) (st := []) (la := [(0, .ref 76), (1, .int (gx G ((x3 + 1) : Int32).toNatClampNeg))]) (dcd d_L_law_12 10 rfl) cv_m_shut k_L_68 ⟨by decide, by decide⟩ ok_76 rfl (Nat.le_of_ble_eq_true rfl) (Nat.le_of_ble_eq_true rfl) rfl rfl h (fun a4 u4 h => ?_)
  refine ws_pop (dcd d_L_law_12 11 rfl) rfl ?_
  refine ws_goto (tgt := 1743) (dcd d_L_law_12 12 rfl) (by decide) ?_
  exact ws_loc [0, 1, 2, 3] rfl h
theorem sg_L_law_685 {x3 : Int32} (h : (vp_in (x3 + 1) (gn G) ∧ Ws G D_open 0 [(0, .ref 2), (1, .int (gx G ((x3 + 1) : Int32).toNatClampNeg))] [] u (RI fun a2 u2 => (vp_in (x3 + 1) (gn G) ∧ Ws G m_open 0 [(0, .ref 76), (1, .int (gx G ((x3 + 1) : Int32).toNatClampNeg))] [] u2 (RI fun a4 u4 => Ws G L_law 1743 [(0, .ref 0), (1, .ref 2), (2, .ref 76), (3, .int x3)] [] u4 Q))))) : Ws G L_law 685 [(0, .ref 0), (1, .ref 2), (2, .ref 76), (3, .int x3)] [] u Q := by
  refine ws_aload_n 1 (dcd d_L_law_12 13 rfl) rfl ?_
  refine ws_aload_n 0 (dcd d_L_law_12 14 rfl) rfl ?_
  refine ws_iload_n 3 (dcd d_L_law_12 15 rfl) rfl ?_
  refine ws_iconst (v := 1) (dcd d_L_law_12 16 rfl) (by decide) ?_
  refine ws_iadd (dcd d_L_law_12 17 rfl) ?_
  obtain ⟨e1, h⟩ := h
  refine ws_sld (dcd d_L_law_12 18 rfl) e1 ?_
  refine ws_callVI (o := 2) (As := [.int (gx G ((x3 + 1) : Int32).toNatClampNeg)]) (st := []) (la := [(0, .ref 2), (1, .int (gx G ((x3 + 1) : Int32).toNatClampNeg))]) (dcd d_L_law_12 19 rfl) cv_D_open k_L_69 ⟨by decide, by decide⟩ ok_2 rfl (Nat.le_of_ble_eq_true rfl) (Nat.le_of_ble_eq_true rfl) rfl rfl h (fun a2 u2 h => ?_)
  refine ws_pop (dcd d_L_law_12 20 rfl) rfl ?_
  refine ws_aload_n 2 (dcd d_L_law_12 21 rfl) rfl ?_
  refine ws_aload_n 0 (dcd d_L_law_12 22 rfl) rfl ?_
  refine ws_iload_n 3 (dcd d_L_law_12 23 rfl) rfl ?_
  refine ws_iconst (v := 1) (dcd d_L_law_12 24 rfl) (by decide) ?_
  refine ws_iadd (dcd d_L_law_12 25 rfl) ?_
  obtain ⟨e3, h⟩ := h
  refine ws_sld (dcd d_L_law_12 26 rfl) e3 ?_
  refine ws_callVI (o := 76) (As := [.int (gx G ((x3 + 1) : Int32).toNatClampNeg)]) (st := []) (la := [(0, .ref 76), (1, .int (gx G ((x3 + 1) : Int32).toNatClampNeg))]) (dcd d_L_law_12 27 rfl) cv_m_open k_L_72 ⟨by decide, by decide⟩ ok_76 rfl (Nat.le_of_ble_eq_true rfl) (Nat.le_of_ble_eq_true rfl) rfl rfl h (fun a4 u4 h => ?_)
  refine ws_pop (dcd d_L_law_12 28 rfl) rfl ?_
  refine ws_goto (tgt := 1743) (dcd d_L_law_12 29 rfl) (by decide) ?_
  exact ws_loc [0, 1, 2, 3] rfl h
theorem sg_L_law_708 {x3 : Int32} (h : (vp_in (x3 + 1) (gn G) ∧ Ws G D_go 0 [(0, .ref 2), (1, .int (gx G ((x3 + 1) : Int32).toNatClampNeg))] [] u (RI fun a2 u2 => (vp_in (x3 + 1) (gn G) ∧ Ws G m_go 0 [(0, .ref 76), (1, .int (gx G ((x3 + 1) : Int32).toNatClampNeg))] [] u2 (RI fun a4 u4 => Ws G L_law 1743 [(0, .ref 0), (1, .ref 2), (2, .ref 76), (3, .int x3)] [] u4 Q))))) : Ws G L_law 708 [(0, .ref 0), (1, .ref 2), (2, .ref 76), (3, .int x3)] [] u Q := by
  refine ws_aload_n 1 (dcd d_L_law_13 0 rfl) rfl ?_
  refine ws_aload_n 0 (dcd d_L_law_13 1 rfl) rfl ?_
  refine ws_iload_n 3 (dcd d_L_law_13 2 rfl) rfl ?_
  refine ws_iconst (v := 1) (dcd d_L_law_13 3 rfl) (by decide) ?_
  refine ws_iadd (dcd d_L_law_13 4 rfl) ?_
  obtain ⟨e1, h⟩ := h
  refine ws_sld (dcd d_L_law_13 5 rfl) e1 ?_
  refine ws_callVI (o := 2) (As := [.int (gx G ((x3 + 1) : Int32).toNatClampNeg)]) (st := []) (la := [(0, .ref 2), (1, .int (gx G ((x3 + 1) : Int32).toNatClampNeg))]) (dcd d_L_law_13 6 rfl) cv_D_go k_L_73 ⟨by decide, by decide⟩ ok_2 rfl (Nat.le_of_ble_eq_true rfl) (Nat.le_of_ble_eq_true rfl) rfl rfl h (fun a2 u2 h => ?_)
  refine ws_pop (dcd d_L_law_13 7 rfl) rfl ?_
  refine ws_aload_n 2 (dcd d_L_law_13 8 rfl) rfl ?_
  refine ws_aload_n 0 (dcd d_L_law_13 9 rfl) rfl ?_
  refine ws_iload_n 3 (dcd d_L_law_13 10 rfl) rfl ?_
  refine ws_iconst (v := 1) (dcd d_L_law_13 11 rfl) (by decide) ?_
  refine ws_iadd (dcd d_L_law_13 12 rfl) ?_
  obtain ⟨e3, h⟩ := h
  refine ws_sld (dcd d_L_law_13 13 rfl) e3 ?_
  refine ws_callVI (o := 76) (As := [.int (gx G ((x3 + 1) : Int32).toNatClampNeg)]) (st := []) (la := [(0, .ref 76), (1, .int (gx G ((x3 + 1) : Int32).toNatClampNeg))]) (dcd d_L_law_13 14 rfl) cv_m_go k_L_76 ⟨by decide, by decide⟩ ok_76 rfl (Nat.le_of_ble_eq_true rfl) (Nat.le_of_ble_eq_true rfl) rfl rfl h (fun a4 u4 h => ?_)
  refine ws_pop (dcd d_L_law_13 15 rfl) rfl ?_
  refine ws_goto (tgt := 1743) (dcd d_L_law_13 16 rfl) (by decide) ?_
  exact ws_loc [0, 1, 2, 3] rfl h
theorem sg_L_law_731 {x3 : Int32} (h : (vp_in (x3 + 1) (gn G) ∧ Ws G D_doors 0 [(0, .ref 2), (1, .int (gx G ((x3 + 1) : Int32).toNatClampNeg))] [] u (RI fun a2 u2 => (vp_in (x3 + 1) (gn G) ∧ Ws G m_doors 0 [(0, .ref 76), (1, .int (gx G ((x3 + 1) : Int32).toNatClampNeg))] [] u2 (RI fun a4 u4 => Ws G L_law 1743 [(0, .ref 0), (1, .ref 2), (2, .ref 76), (3, .int x3)] [] u4 Q))))) : Ws G L_law 731 [(0, .ref 0), (1, .ref 2), (2, .ref 76), (3, .int x3)] [] u Q := by
  refine ws_aload_n 1 (dcd d_L_law_13 17 rfl) rfl ?_
  refine ws_aload_n 0 (dcd d_L_law_13 18 rfl) rfl ?_
  refine ws_iload_n 3 (dcd d_L_law_13 19 rfl) rfl ?_
  refine ws_iconst (v := 1) (dcd d_L_law_13 20 rfl) (by decide) ?_
  refine ws_iadd (dcd d_L_law_13 21 rfl) ?_
  obtain ⟨e1, h⟩ := h
  refine ws_sld (dcd d_L_law_13 22 rfl) e1 ?_
  refine ws_callVI (o := 2) (As := [.int (gx G ((x3 + 1) : Int32).toNatClampNeg)]) (st := []) (la := [(0, .ref 2), (1, .int (gx G ((x3 + 1) : Int32).toNatClampNeg))]) (dcd d_L_law_13 23 rfl) cv_D_doors k_L_77 ⟨by decide, by decide⟩ ok_2 rfl (Nat.le_of_ble_eq_true rfl) (Nat.le_of_ble_eq_true rfl) rfl rfl h (fun a2 u2 h => ?_)
  refine ws_pop (dcd d_L_law_13 24 rfl) rfl ?_
  refine ws_aload_n 2 (dcd d_L_law_13 25 rfl) rfl ?_
  refine ws_aload_n 0 (dcd d_L_law_13 26 rfl) rfl ?_
  refine ws_iload_n 3 (dcd d_L_law_13 27 rfl) rfl ?_
  refine ws_iconst (v := 1) (dcd d_L_law_13 28 rfl) (by decide) ?_
  refine ws_iadd (dcd d_L_law_13 29 rfl) ?_
  obtain ⟨e3, h⟩ := h
  refine ws_sld (dcd d_L_law_14 0 rfl) e3 ?_
  refine ws_callVI (o := 76) (As := [.int (gx G ((x3 + 1) : Int32).toNatClampNeg)]) (st := []) (la := [(0, .ref 76), (1, .int (gx G ((x3 + 1) : Int32).toNatClampNeg))]) (dcd d_L_law_14 1 rfl) cv_m_doors k_L_80 ⟨by decide, by decide⟩ ok_76 rfl (Nat.le_of_ble_eq_true rfl) (Nat.le_of_ble_eq_true rfl) rfl rfl h (fun a4 u4 h => ?_)
  refine ws_pop (dcd d_L_law_14 2 rfl) rfl ?_
  refine ws_goto (tgt := 1743) (dcd d_L_law_14 3 rfl) (by decide) ?_
  exact ws_loc [0, 1, 2, 3] rfl h
theorem sg_L_law_754 {x3 : Int32} (h : (vp_in (x3 + 1) (gn G) ∧ Ws G D_who 0 [(0, .ref 2), (1, .int (gx G ((x3 + 1) : Int32).toNatClampNeg))] [] u (RI fun a2 u2 => (vp_in (x3 + 1) (gn G) ∧ Ws G m_who 0 [(0, .ref 76), (1, .int (gx G ((x3 + 1) : Int32).toNatClampNeg))] [] u2 (RI fun a4 u4 => Ws G L_law 1743 [(0, .ref 0), (1, .ref 2), (2, .ref 76), (3, .int x3)] [] u4 Q))))) : Ws G L_law 754 [(0, .ref 0), (1, .ref 2), (2, .ref 76), (3, .int x3)] [] u Q := by
  refine ws_aload_n 1 (dcd d_L_law_14 4 rfl) rfl ?_
  refine ws_aload_n 0 (dcd d_L_law_14 5 rfl) rfl ?_
  refine ws_iload_n 3 (dcd d_L_law_14 6 rfl) rfl ?_
  refine ws_iconst (v := 1) (dcd d_L_law_14 7 rfl) (by decide) ?_
  refine ws_iadd (dcd d_L_law_14 8 rfl) ?_
  obtain ⟨e1, h⟩ := h
  refine ws_sld (dcd d_L_law_14 9 rfl) e1 ?_
  refine ws_callVI (o := 2) (As := [.int (gx G ((x3 + 1) : Int32).toNatClampNeg)]) (st := []) (la := [(0, .ref 2), (1, .int (gx G ((x3 + 1) : Int32).toNatClampNeg))]) (dcd d_L_law_14 10 rfl) cv_D_who k_L_81 ⟨by decide, by decide⟩ ok_2 rfl (Nat.le_of_ble_eq_true rfl) (Nat.le_of_ble_eq_true rfl) rfl rfl h (fun a2 u2 h => ?_)
  refine ws_pop (dcd d_L_law_14 11 rfl) rfl ?_
  refine ws_aload_n 2 (dcd d_L_law_14 12 rfl) rfl ?_
  refine ws_aload_n 0 (dcd d_L_law_14 13 rfl) rfl ?_
  refine ws_iload_n 3 (dcd d_L_law_14 14 rfl) rfl ?_
  refine ws_iconst (v := 1) (dcd d_L_law_14 15 rfl) (by decide) ?_
  refine ws_iadd (dcd d_L_law_14 16 rfl) ?_
  obtain ⟨e3, h⟩ := h
  refine ws_sld (dcd d_L_law_14 17 rfl) e3 ?_
  refine ws_callVI (o := 76) (As := [.int (gx G ((x3 + 1) : Int32).toNatClampNeg)]) (st := []) (la := [(0, .ref 76), (1, .int (gx G ((x3 + 1) : Int32).toNatClampNeg))]) (dcd d_L_law_14 18 rfl) cv_m_who k_L_84 ⟨by decide, by decide⟩ ok_76 rfl (Nat.le_of_ble_eq_true rfl) (Nat.le_of_ble_eq_true rfl) rfl rfl h (fun a4 u4 h => ?_)
  refine ws_pop (dcd d_L_law_14 19 rfl) rfl ?_
  refine ws_goto (tgt := 1743) (dcd d_L_law_14 20 rfl) (by decide) ?_
  exact ws_loc [0, 1, 2, 3] rfl h
theorem sg_L_law_777 {x3 : Int32} (h : (vp_in (x3 + 1) (gn G) ∧ Ws G D_wants 0 [(0, .ref 2), (1, .int (gx G ((x3 + 1) : Int32).toNatClampNeg))] [] u (RI fun a2 u2 => (vp_in (x3 + 1) (gn G) ∧ Ws G m_wants 0 [(0, .ref 76), (1, .int (gx G ((x3 + 1) : Int32).toNatClampNeg))] [] u2 (RI fun a4 u4 => Ws G L_law 1743 [(0, .ref 0), (1, .ref 2), (2, .ref 76), (3, .int x3)] [] u4 Q))))) : Ws G L_law 777 [(0, .ref 0), (1, .ref 2), (2, .ref 76), (3, .int x3)] [] u Q := by
  refine ws_aload_n 1 (dcd d_L_law_14 21 rfl) rfl ?_
  refine ws_aload_n 0 (dcd d_L_law_14 22 rfl) rfl ?_
  refine ws_iload_n 3 (dcd d_L_law_14 23 rfl) rfl ?_
  refine ws_iconst (v := 1) (dcd d_L_law_14 24 rfl) (by decide) ?_
  refine ws_iadd (dcd d_L_law_14 25 rfl) ?_
  obtain ⟨e1, h⟩ := h
  refine ws_sld (dcd d_L_law_14 26 rfl) e1 ?_
  refine ws_callVI (o := 2) (As := [.int (gx G ((x3 + 1) : Int32).toNatClampNeg)]) (st := []) (la := [(0, .ref 2), (1, .int (gx G ((x3 + 1) : Int32).toNatClampNeg))]) (dcd d_L_law_14 27 rfl) cv_D_wants k_L_85 ⟨by decide, by decide⟩ ok_2 rfl (Nat.le_of_ble_eq_true rfl) (Nat.le_of_ble_eq_true rfl) rfl rfl h (fun a2 u2 h => ?_)
  refine ws_pop (dcd d_L_law_14 28 rfl) rfl ?_
  refine ws_aload_n 2 (dcd d_L_law_14 29 rfl) rfl ?_
  refine ws_aload_n 0 (dcd d_L_law_15 0 rfl) rfl ?_
  refine ws_iload_n 3 (dcd d_L_law_15 1 rfl) rfl ?_
  refine ws_iconst (v := 1) (dcd d_L_law_15 2 rfl) (by decide) ?_
  refine ws_iadd (dcd d_L_law_15 3 rfl) ?_
  obtain ⟨e3, h⟩ := h
  refine ws_sld (dcd d_L_law_15 4 rfl) e3 ?_
  refine ws_callVI (o := 76) (As := [.int (gx G ((x3 + 1) : Int32).toNatClampNeg)]) (st := []) (la := [(0, .ref 76), (1, .int (gx G ((x3 + 1) : Int32).toNatClampNeg))]) (dcd d_L_law_15 5 rfl) cv_m_wants k_L_88 ⟨by decide, by decide⟩ ok_76 rfl (Nat.le_of_ble_eq_true rfl) (Nat.le_of_ble_eq_true rfl) rfl rfl h (fun a4 u4 h => ?_)
  refine ws_pop (dcd d_L_law_15 6 rfl) rfl ?_
  refine ws_goto (tgt := 1743) (dcd d_L_law_15 7 rfl) (by decide) ?_
  exact ws_loc [0, 1, 2, 3] rfl h
theorem sg_L_law_800 {x3 : Int32} (h : (vp_in (x3 + 1) (gn G) ∧ (vp_in (x3 + 2) (gn G) ∧ Ws G D_where 0 [(0, .ref 2), (1, .int (gx G ((x3 + 1) : Int32).toNatClampNeg)), (2, .int (gx G ((x3 + 2) : Int32).toNatClampNeg))] [] u (RI fun a3 u3 => (vp_in (x3 + 1) (gn G) ∧ (vp_in (x3 + 2) (gn G) ∧ Ws G m_where 0 [(0, .ref 76), (1, .int (gx G ((x3 + 1) : Int32).toNatClampNeg)), (2, .int (gx G ((x3 + 2) : Int32).toNatClampNeg))] [] u3 (RI fun a6 u6 => Ws G L_law 1743 [(0, .ref 0), (1, .ref 2), (2, .ref 76), (3, .int x3)] [] u6 Q))))))) : Ws G L_law 800 [(0, .ref 0), (1, .ref 2), (2, .ref 76), (3, .int x3)] [] u Q := by
  refine ws_aload_n 1 (dcd d_L_law_15 8 rfl) rfl ?_
  refine ws_aload_n 0 (dcd d_L_law_15 9 rfl) rfl ?_
  refine ws_iload_n 3 (dcd d_L_law_15 10 rfl) rfl ?_
  refine ws_iconst (v := 1) (dcd d_L_law_15 11 rfl) (by decide) ?_
  refine ws_iadd (dcd d_L_law_15 12 rfl) ?_
  obtain ⟨e1, h⟩ := h
  refine ws_sld (dcd d_L_law_15 13 rfl) e1 ?_
  refine ws_aload_n 0 (dcd d_L_law_15 14 rfl) rfl ?_
  refine ws_iload_n 3 (dcd d_L_law_15 15 rfl) rfl ?_
  refine ws_iconst (v := 2) (dcd d_L_law_15 16 rfl) (by decide) ?_
  refine ws_iadd (dcd d_L_law_15 17 rfl) ?_
  obtain ⟨e2, h⟩ := h
  refine ws_sld (dcd d_L_law_15 18 rfl) e2 ?_
  refine ws_callVI (o := 2) (As := [.int (gx G ((x3 + 1) : Int32).toNatClampNeg), .int (gx G ((x3 + 2) : Int32).toNatClampNeg)]) (st := []) (la := [(0, .ref 2), (1, .int (gx G ((x3 + 1) : Int32).toNatClampNeg)), (2, .int (gx G ((x3 + 2) : Int32).toNatClampNeg))]) (dcd d_L_law_15 19 rfl) cv_D_where k_L_89 ⟨by decide, by decide⟩ ok_2 rfl (Nat.le_of_ble_eq_true rfl) (Nat.le_of_ble_eq_true rfl) rfl rfl h (fun a3 u3 h => ?_)
  refine ws_pop (dcd d_L_law_15 20 rfl) rfl ?_
  refine ws_aload_n 2 (dcd d_L_law_15 21 rfl) rfl ?_
  refine ws_aload_n 0 (dcd d_L_law_15 22 rfl) rfl ?_
  refine ws_iload_n 3 (dcd d_L_law_15 23 rfl) rfl ?_
  refine ws_iconst (v := 1) (dcd d_L_law_15 24 rfl) (by decide) ?_
  refine ws_iadd (dcd d_L_law_15 25 rfl) ?_
  obtain ⟨e4, h⟩ := h
  refine ws_sld (dcd d_L_law_15 26 rfl) e4 ?_
  refine ws_aload_n 0 (dcd d_L_law_15 27 rfl) rfl ?_
  refine ws_iload_n 3 (dcd d_L_law_15 28 rfl) rfl ?_
  refine ws_iconst (v := 2) (dcd d_L_law_15 29 rfl) (by decide) ?_
  refine ws_iadd (dcd d_L_law_16 0 rfl) ?_
  obtain ⟨e5, h⟩ := h
  refine ws_sld (dcd d_L_law_16 1 rfl) e5 ?_
  refine ws_callVI (o := 76) (As := [.int (gx G ((x3 + 1) : Int32).toNatClampNeg), .int (gx G ((x3 + 2) : Int32).toNatClampNeg)]) (st := []) (la := [(0, .ref 76), (1, .int (gx G ((x3 + 1) : Int32).toNatClampNeg)), (2, .int (gx G ((x3 + 2) : Int32).toNatClampNeg))]) (dcd d_L_law_16 2 rfl) cv_m_where k_L_92 ⟨by decide, by decide⟩ ok_76 rfl (Nat.le_of_ble_eq_true rfl) (Nat.le_of_ble_eq_true rfl) rfl rfl h (fun a6 u6 h => ?_)
  refine ws_pop (dcd d_L_law_16 3 rfl) rfl ?_
  refine ws_goto (tgt := 1743) (dcd d_L_law_16 4 rfl) (by decide) ?_
  exact ws_loc [0, 1, 2, 3] rfl h
theorem sg_L_law_833 {x3 : Int32} (h : (vp_in (x3 + 1) (gn G) ∧ (vp_in (x3 + 2) (gn G) ∧ Ws G D_plainly 0 [(0, .ref 2), (1, .int (gx G ((x3 + 1) : Int32).toNatClampNeg)), (2, .int (gx G ((x3 + 2) : Int32).toNatClampNeg))] [] u (RI fun a3 u3 => (vp_in (x3 + 1) (gn G) ∧ (vp_in (x3 + 2) (gn G) ∧ Ws G m_plainly 0 [(0, .ref 76), (1, .int (gx G ((x3 + 1) : Int32).toNatClampNeg)), (2, .int (gx G ((x3 + 2) : Int32).toNatClampNeg))] [] u3 (RI fun a6 u6 => Ws G L_law 1743 [(0, .ref 0), (1, .ref 2), (2, .ref 76), (3, .int x3)] [] u6 Q))))))) : Ws G L_law 833 [(0, .ref 0), (1, .ref 2), (2, .ref 76), (3, .int x3)] [] u Q := by
  refine ws_aload_n 1 (dcd d_L_law_16 5 rfl) rfl ?_
  refine ws_aload_n 0 (dcd d_L_law_16 6 rfl) rfl ?_
  refine ws_iload_n 3 (dcd d_L_law_16 7 rfl) rfl ?_
  refine ws_iconst (v := 1) (dcd d_L_law_16 8 rfl) (by decide) ?_
  refine ws_iadd (dcd d_L_law_16 9 rfl) ?_
  obtain ⟨e1, h⟩ := h
  refine ws_sld (dcd d_L_law_16 10 rfl) e1 ?_
  refine ws_aload_n 0 (dcd d_L_law_16 11 rfl) rfl ?_
  refine ws_iload_n 3 (dcd d_L_law_16 12 rfl) rfl ?_
  refine ws_iconst (v := 2) (dcd d_L_law_16 13 rfl) (by decide) ?_
  refine ws_iadd (dcd d_L_law_16 14 rfl) ?_
  obtain ⟨e2, h⟩ := h
  refine ws_sld (dcd d_L_law_16 15 rfl) e2 ?_
  refine ws_callVI (o := 2) (As := [.int (gx G ((x3 + 1) : Int32).toNatClampNeg), .int (gx G ((x3 + 2) : Int32).toNatClampNeg)]) (st := []) (la := [(0, .ref 2), (1, .int (gx G ((x3 + 1) : Int32).toNatClampNeg)), (2, .int (gx G ((x3 + 2) : Int32).toNatClampNeg))]) (dcd d_L_law_16 16 rfl) cv_D_plainly k_L_93 ⟨by decide, by decide⟩ ok_2 rfl (Nat.le_of_ble_eq_true rfl) (Nat.le_of_ble_eq_true rfl) rfl rfl h (fun a3 u3 h => ?_)
  refine ws_pop (dcd d_L_law_16 17 rfl) rfl ?_
  refine ws_aload_n 2 (dcd d_L_law_16 18 rfl) rfl ?_
  refine ws_aload_n 0 (dcd d_L_law_16 19 rfl) rfl ?_
  refine ws_iload_n 3 (dcd d_L_law_16 20 rfl) rfl ?_
  refine ws_iconst (v := 1) (dcd d_L_law_16 21 rfl) (by decide) ?_
  refine ws_iadd (dcd d_L_law_16 22 rfl) ?_
  obtain ⟨e4, h⟩ := h
  refine ws_sld (dcd d_L_law_16 23 rfl) e4 ?_
  refine ws_aload_n 0 (dcd d_L_law_16 24 rfl) rfl ?_
  refine ws_iload_n 3 (dcd d_L_law_16 25 rfl) rfl ?_
  refine ws_iconst (v := 2) (dcd d_L_law_16 26 rfl) (by decide) ?_
  refine ws_iadd (dcd d_L_law_16 27 rfl) ?_
  obtain ⟨e5, h⟩ := h
  refine ws_sld (dcd d_L_law_16 28 rfl) e5 ?_
  refine ws_callVI (o := 76) (As := [.int (gx G ((x3 + 1) : Int32).toNatClampNeg), .int (gx G ((x3 + 2) : Int32).toNatClampNeg)]) (st := []) (la := [(0, .ref 76), (1, .int (gx G ((x3 + 1) : Int32).toNatClampNeg)), (2, .int (gx G ((x3 + 2) : Int32).toNatClampNeg))]) (dcd d_L_law_16 29 rfl) cv_m_plainly k_L_96 ⟨by decide, by decide⟩ ok_76 rfl (Nat.le_of_ble_eq_true rfl) (Nat.le_of_ble_eq_true rfl) rfl rfl h (fun a6 u6 h => ?_)
  refine ws_pop (dcd d_L_law_17 0 rfl) rfl ?_
  refine ws_goto (tgt := 1743) (dcd d_L_law_17 1 rfl) (by decide) ?_
  exact ws_loc [0, 1, 2, 3] rfl h
theorem sg_L_law_866 {x3 : Int32} (h : Ws G D_again 0 [(0, .ref 2)] [] u (RI fun a1 u1 => Ws G m_again 0 [(0, .ref 76)] [] u1 (RI fun a2 u2 => Ws G L_law 1743 [(0, .ref 0), (1, .ref 2), (2, .ref 76), (3, .int x3)] [] u2 Q))) : Ws G L_law 866 [(0, .ref 0), (1, .ref 2), (2, .ref 76), (3, .int x3)] [] u Q := by
  refine ws_aload_n 1 (dcd d_L_law_17 2 rfl) rfl ?_
  refine ws_callVI (o := 2) (As := []) (st := []) (la := [(0, .ref 2)]) (dcd d_L_law_17 3 rfl) cv_D_again k_L_97 ⟨by decide, by decide⟩ ok_2 rfl (Nat.le_of_ble_eq_true rfl) (Nat.le_of_ble_eq_true rfl) rfl rfl h (fun a1 u1 h => ?_)
  refine ws_pop (dcd d_L_law_17 4 rfl) rfl ?_
  refine ws_aload_n 2 (dcd d_L_law_17 5 rfl) rfl ?_
  refine ws_callVI (o := 76) (As := []) (st := []) (la := [(0, .ref 76)]) (dcd d_L_law_17 6 rfl) cv_m_again k_L_101 ⟨by decide, by decide⟩ ok_76 rfl (Nat.le_of_ble_eq_true rfl) (Nat.le_of_ble_eq_true rfl) rfl rfl h (fun a2 u2 h => ?_)
  refine ws_pop (dcd d_L_law_17 7 rfl) rfl ?_
  refine ws_goto (tgt := 1743) (dcd d_L_law_17 8 rfl) (by decide) ?_
  exact ws_loc [0, 1, 2, 3] rfl h
theorem sg_L_law_879 {x3 : Int32} (h : (vp_in (x3 + 1) (gn G) ∧ Ws G D_keep 0 [(0, .ref 2), (1, .int (gx G ((x3 + 1) : Int32).toNatClampNeg))] [] u (RI fun a2 u2 => (vp_in (x3 + 1) (gn G) ∧ Ws G m_keep 0 [(0, .ref 76), (1, .int (gx G ((x3 + 1) : Int32).toNatClampNeg))] [] u2 (RI fun a4 u4 => Ws G L_law 1743 [(0, .ref 0), (1, .ref 2), (2, .ref 76), (3, .int x3)] [] u4 Q))))) : Ws G L_law 879 [(0, .ref 0), (1, .ref 2), (2, .ref 76), (3, .int x3)] [] u Q := by
  refine ws_aload_n 1 (dcd d_L_law_17 9 rfl) rfl ?_
  refine ws_aload_n 0 (dcd d_L_law_17 10 rfl) rfl ?_
  refine ws_iload_n 3 (dcd d_L_law_17 11 rfl) rfl ?_
  refine ws_iconst (v := 1) (dcd d_L_law_17 12 rfl) (by decide) ?_
  refine ws_iadd (dcd d_L_law_17 13 rfl) ?_
  obtain ⟨e1, h⟩ := h
  refine ws_sld (dcd d_L_law_17 14 rfl) e1 ?_
  refine ws_callVI (o := 2) (As := [.int (gx G ((x3 + 1) : Int32).toNatClampNeg)]) (st := []) (la := [(0, .ref 2), (1, .int (gx G ((x3 + 1) : Int32).toNatClampNeg))]) (dcd d_L_law_17 15 rfl) cv_D_keep k_L_102 ⟨by decide, by decide⟩ ok_2 rfl (Nat.le_of_ble_eq_true rfl) (Nat.le_of_ble_eq_true rfl) rfl rfl h (fun a2 u2 h => ?_)
  refine ws_pop (dcd d_L_law_17 16 rfl) rfl ?_
  refine ws_aload_n 2 (dcd d_L_law_17 17 rfl) rfl ?_
  refine ws_aload_n 0 (dcd d_L_law_17 18 rfl) rfl ?_
  refine ws_iload_n 3 (dcd d_L_law_17 19 rfl) rfl ?_
  refine ws_iconst (v := 1) (dcd d_L_law_17 20 rfl) (by decide) ?_
  refine ws_iadd (dcd d_L_law_17 21 rfl) ?_
  obtain ⟨e3, h⟩ := h
  refine ws_sld (dcd d_L_law_17 22 rfl) e3 ?_
  refine ws_callVI (o := 76) (As := [.int (gx G ((x3 + 1) : Int32).toNatClampNeg)]) (st := []) (la := [(0, .ref 76), (1, .int (gx G ((x3 + 1) : Int32).toNatClampNeg))]) (dcd d_L_law_17 23 rfl) cv_m_keep k_L_105 ⟨by decide, by decide⟩ ok_76 rfl (Nat.le_of_ble_eq_true rfl) (Nat.le_of_ble_eq_true rfl) rfl rfl h (fun a4 u4 h => ?_)
  refine ws_pop (dcd d_L_law_17 24 rfl) rfl ?_
  refine ws_goto (tgt := 1743) (dcd d_L_law_17 25 rfl) (by decide) ?_
  exact ws_loc [0, 1, 2, 3] rfl h
theorem sg_L_law_902 {x3 : Int32} (h : (vp_in (x3 + 1) (gn G) ∧ Ws G D_on 0 [(0, .ref 2), (1, .int (gx G ((x3 + 1) : Int32).toNatClampNeg))] [] u (RI fun a2 u2 => (vp_in (x3 + 1) (gn G) ∧ Ws G m_on 0 [(0, .ref 76), (1, .int (gx G ((x3 + 1) : Int32).toNatClampNeg))] [] u2 (RI fun a4 u4 => Ws G L_law 1743 [(0, .ref 0), (1, .ref 2), (2, .ref 76), (3, .int x3)] [] u4 Q))))) : Ws G L_law 902 [(0, .ref 0), (1, .ref 2), (2, .ref 76), (3, .int x3)] [] u Q := by
  refine ws_aload_n 1 (dcd d_L_law_17 26 rfl) rfl ?_
  refine ws_aload_n 0 (dcd d_L_law_17 27 rfl) rfl ?_
  refine ws_iload_n 3 (dcd d_L_law_17 28 rfl) rfl ?_
  refine ws_iconst (v := 1) (dcd d_L_law_17 29 rfl) (by decide) ?_
  refine ws_iadd (dcd d_L_law_18 0 rfl) ?_
  obtain ⟨e1, h⟩ := h
  refine ws_sld (dcd d_L_law_18 1 rfl) e1 ?_
  refine ws_callVI (o := 2) (As := [.int (gx G ((x3 + 1) : Int32).toNatClampNeg)]) (st := []) (la := [(0, .ref 2), (1, .int (gx G ((x3 + 1) : Int32).toNatClampNeg))]) (dcd d_L_law_18 2 rfl) cv_D_on k_L_106 ⟨by decide, by decide⟩ ok_2 rfl (Nat.le_of_ble_eq_true rfl) (Nat.le_of_ble_eq_true rfl) rfl rfl h (fun a2 u2 h => ?_)
  refine ws_pop (dcd d_L_law_18 3 rfl) rfl ?_
  refine ws_aload_n 2 (dcd d_L_law_18 4 rfl) rfl ?_
  refine ws_aload_n 0 (dcd d_L_law_18 5 rfl) rfl ?_
  refine ws_iload_n 3 (dcd d_L_law_18 6 rfl) rfl ?_
  refine ws_iconst (v := 1) (dcd d_L_law_18 7 rfl) (by decide) ?_
  refine ws_iadd (dcd d_L_law_18 8 rfl) ?_
  obtain ⟨e3, h⟩ := h
  refine ws_sld (dcd d_L_law_18 9 rfl) e3 ?_
  refine ws_callVI (o := 76) (As := [.int (gx G ((x3 + 1) : Int32).toNatClampNeg)]) (st := []) (la := [(0, .ref 76), (1, .int (gx G ((x3 + 1) : Int32).toNatClampNeg))]) (dcd d_L_law_18 10 rfl) cv_m_on k_L_109 ⟨by decide, by decide⟩ ok_76 rfl (Nat.le_of_ble_eq_true rfl) (Nat.le_of_ble_eq_true rfl) rfl rfl h (fun a4 u4 h => ?_)
  refine ws_pop (dcd d_L_law_18 11 rfl) rfl ?_
  refine ws_goto (tgt := 1743) (dcd d_L_law_18 12 rfl) (by decide) ?_
  exact ws_loc [0, 1, 2, 3] rfl h
theorem sg_L_law_925 {x3 : Int32} (h : (vp_in (x3 + 1) (gn G) ∧ (vp_in (x3 + 2) (gn G) ∧ Ws G D_beside 0 [(0, .ref 2), (1, .int (gx G ((x3 + 1) : Int32).toNatClampNeg)), (2, .int (gx G ((x3 + 2) : Int32).toNatClampNeg))] [] u (RI fun a3 u3 => (vp_in (x3 + 1) (gn G) ∧ (vp_in (x3 + 2) (gn G) ∧ Ws G m_beside 0 [(0, .ref 76), (1, .int (gx G ((x3 + 1) : Int32).toNatClampNeg)), (2, .int (gx G ((x3 + 2) : Int32).toNatClampNeg))] [] u3 (RI fun a6 u6 => Ws G L_law 1743 [(0, .ref 0), (1, .ref 2), (2, .ref 76), (3, .int x3)] [] u6 Q))))))) : Ws G L_law 925 [(0, .ref 0), (1, .ref 2), (2, .ref 76), (3, .int x3)] [] u Q := by
  refine ws_aload_n 1 (dcd d_L_law_18 13 rfl) rfl ?_
  refine ws_aload_n 0 (dcd d_L_law_18 14 rfl) rfl ?_
  refine ws_iload_n 3 (dcd d_L_law_18 15 rfl) rfl ?_
  refine ws_iconst (v := 1) (dcd d_L_law_18 16 rfl) (by decide) ?_
  refine ws_iadd (dcd d_L_law_18 17 rfl) ?_
  obtain ⟨e1, h⟩ := h
  refine ws_sld (dcd d_L_law_18 18 rfl) e1 ?_
  refine ws_aload_n 0 (dcd d_L_law_18 19 rfl) rfl ?_
  refine ws_iload_n 3 (dcd d_L_law_18 20 rfl) rfl ?_
  refine ws_iconst (v := 2) (dcd d_L_law_18 21 rfl) (by decide) ?_
  refine ws_iadd (dcd d_L_law_18 22 rfl) ?_
  obtain ⟨e2, h⟩ := h
  refine ws_sld (dcd d_L_law_18 23 rfl) e2 ?_
  refine ws_callVI (o := 2) (As := [.int (gx G ((x3 + 1) : Int32).toNatClampNeg), .int (gx G ((x3 + 2) : Int32).toNatClampNeg)]) (st := []) (la := [(0, .ref 2), (1, .int (gx G ((x3 + 1) : Int32).toNatClampNeg)), (2, .int (gx G ((x3 + 2) : Int32).toNatClampNeg))]) (dcd d_L_law_18 24 rfl) cv_D_beside k_L_110 ⟨by decide, by decide⟩ ok_2 rfl (Nat.le_of_ble_eq_true rfl) (Nat.le_of_ble_eq_true rfl) rfl rfl h (fun a3 u3 h => ?_)
  refine ws_pop (dcd d_L_law_18 25 rfl) rfl ?_
  refine ws_aload_n 2 (dcd d_L_law_18 26 rfl) rfl ?_
  refine ws_aload_n 0 (dcd d_L_law_18 27 rfl) rfl ?_
  refine ws_iload_n 3 (dcd d_L_law_18 28 rfl) rfl ?_
  refine ws_iconst (v := 1) (dcd d_L_law_18 29 rfl) (by decide) ?_
  refine ws_iadd (dcd d_L_law_19 0 rfl) ?_
  obtain ⟨e4, h⟩ := h
  refine ws_sld (dcd d_L_law_19 1 rfl) e4 ?_
  refine ws_aload_n 0 (dcd d_L_law_19 2 rfl) rfl ?_
  refine ws_iload_n 3 (dcd d_L_law_19 3 rfl) rfl ?_
  refine ws_iconst (v := 2) (dcd d_L_law_19 4 rfl) (by decide) ?_
  refine ws_iadd (dcd d_L_law_19 5 rfl) ?_
  obtain ⟨e5, h⟩ := h
  refine ws_sld (dcd d_L_law_19 6 rfl) e5 ?_
  refine ws_callVI (o := 76) (As := [.int (gx G ((x3 + 1) : Int32).toNatClampNeg), .int (gx G ((x3 + 2) : Int32).toNatClampNeg)]) (st := []) (la := [(0, .ref 76), (1, .int (gx G ((x3 + 1) : Int32).toNatClampNeg)), (2, .int (gx G ((x3 + 2) : Int32).toNatClampNeg))]) (dcd d_L_law_19 7 rfl) cv_m_beside k_L_113 ⟨by decide, by decide⟩ ok_76 rfl (Nat.le_of_ble_eq_true rfl) (Nat.le_of_ble_eq_true rfl) rfl rfl h (fun a6 u6 h => ?_)
  refine ws_pop (dcd d_L_law_19 8 rfl) rfl ?_
  refine ws_goto (tgt := 1743) (dcd d_L_law_19 9 rfl) (by decide) ?_
  exact ws_loc [0, 1, 2, 3] rfl h
theorem sg_L_law_958 {x3 : Int32} (h : (vp_in (x3 + 1) (gn G) ∧ (vp_in (x3 + 2) (gn G) ∧ Ws G D_comes 0 [(0, .ref 2), (1, .int (gx G ((x3 + 1) : Int32).toNatClampNeg)), (2, .int (gx G ((x3 + 2) : Int32).toNatClampNeg))] [] u (RI fun a3 u3 => (vp_in (x3 + 1) (gn G) ∧ (vp_in (x3 + 2) (gn G) ∧ Ws G m_comes 0 [(0, .ref 76), (1, .int (gx G ((x3 + 1) : Int32).toNatClampNeg)), (2, .int (gx G ((x3 + 2) : Int32).toNatClampNeg))] [] u3 (RI fun a6 u6 => Ws G L_law 1743 [(0, .ref 0), (1, .ref 2), (2, .ref 76), (3, .int x3)] [] u6 Q))))))) : Ws G L_law 958 [(0, .ref 0), (1, .ref 2), (2, .ref 76), (3, .int x3)] [] u Q := by
  refine ws_aload_n 1 (dcd d_L_law_19 10 rfl) rfl ?_
  refine ws_aload_n 0 (dcd d_L_law_19 11 rfl) rfl ?_
  refine ws_iload_n 3 (dcd d_L_law_19 12 rfl) rfl ?_
  refine ws_iconst (v := 1) (dcd d_L_law_19 13 rfl) (by decide) ?_
  refine ws_iadd (dcd d_L_law_19 14 rfl) ?_
  obtain ⟨e1, h⟩ := h
  refine ws_sld (dcd d_L_law_19 15 rfl) e1 ?_
  refine ws_aload_n 0 (dcd d_L_law_19 16 rfl) rfl ?_
  refine ws_iload_n 3 (dcd d_L_law_19 17 rfl) rfl ?_
  refine ws_iconst (v := 2) (dcd d_L_law_19 18 rfl) (by decide) ?_
  refine ws_iadd (dcd d_L_law_19 19 rfl) ?_
  obtain ⟨e2, h⟩ := h
  refine ws_sld (dcd d_L_law_19 20 rfl) e2 ?_
  refine ws_callVI (o := 2) (As := [.int (gx G ((x3 + 1) : Int32).toNatClampNeg), .int (gx G ((x3 + 2) : Int32).toNatClampNeg)]) (st := []) (la := [(0, .ref 2), (1, .int (gx G ((x3 + 1) : Int32).toNatClampNeg)), (2, .int (gx G ((x3 + 2) : Int32).toNatClampNeg))]) (dcd d_L_law_19 21 rfl) cv_D_comes k_L_114 ⟨by decide, by decide⟩ ok_2 rfl (Nat.le_of_ble_eq_true rfl) (Nat.le_of_ble_eq_true rfl) rfl rfl h (fun a3 u3 h => ?_)
  refine ws_pop (dcd d_L_law_19 22 rfl) rfl ?_
  refine ws_aload_n 2 (dcd d_L_law_19 23 rfl) rfl ?_
  refine ws_aload_n 0 (dcd d_L_law_19 24 rfl) rfl ?_
  refine ws_iload_n 3 (dcd d_L_law_19 25 rfl) rfl ?_
  refine ws_iconst (v := 1) (dcd d_L_law_19 26 rfl) (by decide) ?_
  refine ws_iadd (dcd d_L_law_19 27 rfl) ?_
  obtain ⟨e4, h⟩ := h
  refine ws_sld (dcd d_L_law_19 28 rfl) e4 ?_
  refine ws_aload_n 0 (dcd d_L_law_19 29 rfl) rfl ?_
  refine ws_iload_n 3 (dcd d_L_law_20 0 rfl) rfl ?_
  refine ws_iconst (v := 2) (dcd d_L_law_20 1 rfl) (by decide) ?_
  refine ws_iadd (dcd d_L_law_20 2 rfl) ?_
  obtain ⟨e5, h⟩ := h
  refine ws_sld (dcd d_L_law_20 3 rfl) e5 ?_
  refine ws_callVI (o := 76) (As := [.int (gx G ((x3 + 1) : Int32).toNatClampNeg), .int (gx G ((x3 + 2) : Int32).toNatClampNeg)]) (st := []) (la := [(0, .ref 76), (1, .int (gx G ((x3 + 1) : Int32).toNatClampNeg)), (2, .int (gx G ((x3 + 2) : Int32).toNatClampNeg))]) (dcd d_L_law_20 4 rfl) cv_m_comes k_L_117 ⟨by decide, by decide⟩ ok_76 rfl (Nat.le_of_ble_eq_true rfl) (Nat.le_of_ble_eq_true rfl) rfl rfl h (fun a6 u6 h => ?_)
  refine ws_pop (dcd d_L_law_20 5 rfl) rfl ?_
  refine ws_goto (tgt := 1743) (dcd d_L_law_20 6 rfl) (by decide) ?_
  exact ws_loc [0, 1, 2, 3] rfl h
theorem sg_L_law_991 {x3 : Int32} (h : (vp_in (x3 + 1) (gn G) ∧ (vp_in (x3 + 2) (gn G) ∧ (vp_in (x3 + 3) (gn G) ∧ Ws G D_meets 0 [(0, .ref 2), (1, .int (gx G ((x3 + 1) : Int32).toNatClampNeg)), (2, .int (gx G ((x3 + 2) : Int32).toNatClampNeg)), (3, .int (gx G ((x3 + 3) : Int32).toNatClampNeg))] [] u (RI fun a4 u4 => (vp_in (x3 + 1) (gn G) ∧ (vp_in (x3 + 2) (gn G) ∧ (vp_in (x3 + 3) (gn G) ∧ Ws G m_meets 0 [(0, .ref 76), (1, .int (gx G ((x3 + 1) : Int32).toNatClampNeg)), (2, .int (gx G ((x3 + 2) : Int32).toNatClampNeg)), (3, .int (gx G ((x3 + 3) : Int32).toNatClampNeg))] [] u4 (RI fun a8 u8 => Ws G L_law 1743 [(0, .ref 0), (1, .ref 2), (2, .ref 76), (3, .int x3)] [] u8 Q))))))))) : Ws G L_law 991 [(0, .ref 0), (1, .ref 2), (2, .ref 76), (3, .int x3)] [] u Q := by
  refine ws_aload_n 1 (dcd d_L_law_20 7 rfl) rfl ?_
  refine ws_aload_n 0 (dcd d_L_law_20 8 rfl) rfl ?_
  refine ws_iload_n 3 (dcd d_L_law_20 9 rfl) rfl ?_
  refine ws_iconst (v := 1) (dcd d_L_law_20 10 rfl) (by decide) ?_
  refine ws_iadd (dcd d_L_law_20 11 rfl) ?_
  obtain ⟨e1, h⟩ := h
  refine ws_sld (dcd d_L_law_20 12 rfl) e1 ?_
  refine ws_aload_n 0 (dcd d_L_law_20 13 rfl) rfl ?_
  refine ws_iload_n 3 (dcd d_L_law_20 14 rfl) rfl ?_
  refine ws_iconst (v := 2) (dcd d_L_law_20 15 rfl) (by decide) ?_
  refine ws_iadd (dcd d_L_law_20 16 rfl) ?_
  obtain ⟨e2, h⟩ := h
  refine ws_sld (dcd d_L_law_20 17 rfl) e2 ?_
  refine ws_aload_n 0 (dcd d_L_law_20 18 rfl) rfl ?_
  refine ws_iload_n 3 (dcd d_L_law_20 19 rfl) rfl ?_
  refine ws_iconst (v := 3) (dcd d_L_law_20 20 rfl) (by decide) ?_
  refine ws_iadd (dcd d_L_law_20 21 rfl) ?_
  obtain ⟨e3, h⟩ := h
  refine ws_sld (dcd d_L_law_20 22 rfl) e3 ?_
  refine ws_callVI (o := 2) (As := [.int (gx G ((x3 + 1) : Int32).toNatClampNeg), .int (gx G ((x3 + 2) : Int32).toNatClampNeg), .int (gx G ((x3 + 3) : Int32).toNatClampNeg)]) (st := []) (la := [(0, .ref 2), (1, .int (gx G ((x3 + 1) : Int32).toNatClampNeg)), (2, .int (gx G ((x3 + 2) : Int32).toNatClampNeg)), (3, .int (gx G ((x3 + 3) : Int32).toNatClampNeg))]) (dcd d_L_law_20 23 rfl) cv_D_meets k_L_118 ⟨by decide, by decide⟩ ok_2 rfl (Nat.le_of_ble_eq_true rfl) (Nat.le_of_ble_eq_true rfl) rfl rfl h (fun a4 u4 h => ?_)
  refine ws_pop (dcd d_L_law_20 24 rfl) rfl ?_
  refine ws_aload_n 2 (dcd d_L_law_20 25 rfl) rfl ?_
  refine ws_aload_n 0 (dcd d_L_law_20 26 rfl) rfl ?_
  refine ws_iload_n 3 (dcd d_L_law_20 27 rfl) rfl ?_
  refine ws_iconst (v := 1) (dcd d_L_law_20 28 rfl) (by decide) ?_
  refine ws_iadd (dcd d_L_law_20 29 rfl) ?_
  obtain ⟨e5, h⟩ := h
  refine ws_sld (dcd d_L_law_21 0 rfl) e5 ?_
  refine ws_aload_n 0 (dcd d_L_law_21 1 rfl) rfl ?_
  refine ws_iload_n 3 (dcd d_L_law_21 2 rfl) rfl ?_
  refine ws_iconst (v := 2) (dcd d_L_law_21 3 rfl) (by decide) ?_
  refine ws_iadd (dcd d_L_law_21 4 rfl) ?_
  obtain ⟨e6, h⟩ := h
  refine ws_sld (dcd d_L_law_21 5 rfl) e6 ?_
  refine ws_aload_n 0 (dcd d_L_law_21 6 rfl) rfl ?_
  refine ws_iload_n 3 (dcd d_L_law_21 7 rfl) rfl ?_
  refine ws_iconst (v := 3) (dcd d_L_law_21 8 rfl) (by decide) ?_
  refine ws_iadd (dcd d_L_law_21 9 rfl) ?_
  obtain ⟨e7, h⟩ := h
  refine ws_sld (dcd d_L_law_21 10 rfl) e7 ?_
  refine ws_callVI (o := 76) (As := [.int (gx G ((x3 + 1) : Int32).toNatClampNeg), .int (gx G ((x3 + 2) : Int32).toNatClampNeg), .int (gx G ((x3 + 3) : Int32).toNatClampNeg)]) (st := []) (la := [(0, .ref 76), (1, .int (gx G ((x3 + 1) : Int32).toNatClampNeg)), (2, .int (gx G ((x3 + 2) : Int32).toNatClampNeg)), (3, .int (gx G ((x3 + 3) : Int32).toNatClampNeg))]) (dcd d_L_law_21 11 rfl) cv_m_meets k_L_121 ⟨by decide, by decide⟩ ok_76 rfl (Nat.le_of_ble_eq_true rfl) (Nat.le_of_ble_eq_true rfl) rfl rfl h (fun a8 u8 h => ?_)
  refine ws_pop (dcd d_L_law_21 12 rfl) rfl ?_
  refine ws_goto (tgt := 1743) (dcd d_L_law_21 13 rfl) (by decide) ?_
  exact ws_loc [0, 1, 2, 3] rfl h
theorem sg_L_law_1034 {x3 : Int32} (h : (vp_in (x3 + 1) (gn G) ∧ (vp_in (x3 + 2) (gn G) ∧ (vp_in (x3 + 3) (gn G) ∧ Ws G D_never 0 [(0, .ref 2), (1, .int (gx G ((x3 + 1) : Int32).toNatClampNeg)), (2, .int (gx G ((x3 + 2) : Int32).toNatClampNeg)), (3, .int (gx G ((x3 + 3) : Int32).toNatClampNeg))] [] u (RI fun a4 u4 => (vp_in (x3 + 1) (gn G) ∧ (vp_in (x3 + 2) (gn G) ∧ (vp_in (x3 + 3) (gn G) ∧ Ws G m_never 0 [(0, .ref 76), (1, .int (gx G ((x3 + 1) : Int32).toNatClampNeg)), (2, .int (gx G ((x3 + 2) : Int32).toNatClampNeg)), (3, .int (gx G ((x3 + 3) : Int32).toNatClampNeg))] [] u4 (RI fun a8 u8 => Ws G L_law 1743 [(0, .ref 0), (1, .ref 2), (2, .ref 76), (3, .int x3)] [] u8 Q))))))))) : Ws G L_law 1034 [(0, .ref 0), (1, .ref 2), (2, .ref 76), (3, .int x3)] [] u Q := by
  refine ws_aload_n 1 (dcd d_L_law_21 14 rfl) rfl ?_
  refine ws_aload_n 0 (dcd d_L_law_21 15 rfl) rfl ?_
  refine ws_iload_n 3 (dcd d_L_law_21 16 rfl) rfl ?_
  refine ws_iconst (v := 1) (dcd d_L_law_21 17 rfl) (by decide) ?_
  refine ws_iadd (dcd d_L_law_21 18 rfl) ?_
  obtain ⟨e1, h⟩ := h
  refine ws_sld (dcd d_L_law_21 19 rfl) e1 ?_
  refine ws_aload_n 0 (dcd d_L_law_21 20 rfl) rfl ?_
  refine ws_iload_n 3 (dcd d_L_law_21 21 rfl) rfl ?_
  refine ws_iconst (v := 2) (dcd d_L_law_21 22 rfl) (by decide) ?_
  refine ws_iadd (dcd d_L_law_21 23 rfl) ?_
  obtain ⟨e2, h⟩ := h
  refine ws_sld (dcd d_L_law_21 24 rfl) e2 ?_
  refine ws_aload_n 0 (dcd d_L_law_21 25 rfl) rfl ?_
  refine ws_iload_n 3 (dcd d_L_law_21 26 rfl) rfl ?_
  refine ws_iconst (v := 3) (dcd d_L_law_21 27 rfl) (by decide) ?_
  refine ws_iadd (dcd d_L_law_21 28 rfl) ?_
  obtain ⟨e3, h⟩ := h
  refine ws_sld (dcd d_L_law_21 29 rfl) e3 ?_
  refine ws_callVI (o := 2) (As := [.int (gx G ((x3 + 1) : Int32).toNatClampNeg), .int (gx G ((x3 + 2) : Int32).toNatClampNeg), .int (gx G ((x3 + 3) : Int32).toNatClampNeg)]) (st := []) (la := [(0, .ref 2), (1, .int (gx G ((x3 + 1) : Int32).toNatClampNeg)), (2, .int (gx G ((x3 + 2) : Int32).toNatClampNeg)), (3, .int (gx G ((x3 + 3) : Int32).toNatClampNeg))]) (dcd d_L_law_22 0 rfl) cv_D_never k_L_122 ⟨by decide, by decide⟩ ok_2 rfl (Nat.le_of_ble_eq_true rfl) (Nat.le_of_ble_eq_true rfl) rfl rfl h (fun a4 u4 h => ?_)
  refine ws_pop (dcd d_L_law_22 1 rfl) rfl ?_
  refine ws_aload_n 2 (dcd d_L_law_22 2 rfl) rfl ?_
  refine ws_aload_n 0 (dcd d_L_law_22 3 rfl) rfl ?_
  refine ws_iload_n 3 (dcd d_L_law_22 4 rfl) rfl ?_
  refine ws_iconst (v := 1) (dcd d_L_law_22 5 rfl) (by decide) ?_
  refine ws_iadd (dcd d_L_law_22 6 rfl) ?_
  obtain ⟨e5, h⟩ := h
  refine ws_sld (dcd d_L_law_22 7 rfl) e5 ?_
  refine ws_aload_n 0 (dcd d_L_law_22 8 rfl) rfl ?_
  refine ws_iload_n 3 (dcd d_L_law_22 9 rfl) rfl ?_
  refine ws_iconst (v := 2) (dcd d_L_law_22 10 rfl) (by decide) ?_
  refine ws_iadd (dcd d_L_law_22 11 rfl) ?_
  obtain ⟨e6, h⟩ := h
  refine ws_sld (dcd d_L_law_22 12 rfl) e6 ?_
  refine ws_aload_n 0 (dcd d_L_law_22 13 rfl) rfl ?_
  refine ws_iload_n 3 (dcd d_L_law_22 14 rfl) rfl ?_
  refine ws_iconst (v := 3) (dcd d_L_law_22 15 rfl) (by decide) ?_
  refine ws_iadd (dcd d_L_law_22 16 rfl) ?_
  obtain ⟨e7, h⟩ := h
  refine ws_sld (dcd d_L_law_22 17 rfl) e7 ?_
  refine ws_callVI (o := 76) (As := [.int (gx G ((x3 + 1) : Int32).toNatClampNeg), .int (gx G ((x3 + 2) : Int32).toNatClampNeg), .int (gx G ((x3 + 3) : Int32).toNatClampNeg)]) (st := []) (la := [(0, .ref 76), (1, .int (gx G ((x3 + 1) : Int32).toNatClampNeg)), (2, .int (gx G ((x3 + 2) : Int32).toNatClampNeg)), (3, .int (gx G ((x3 + 3) : Int32).toNatClampNeg))]) (dcd d_L_law_22 18 rfl) cv_m_never k_L_125 ⟨by decide, by decide⟩ ok_76 rfl (Nat.le_of_ble_eq_true rfl) (Nat.le_of_ble_eq_true rfl) rfl rfl h (fun a8 u8 h => ?_)
  refine ws_pop (dcd d_L_law_22 19 rfl) rfl ?_
  refine ws_goto (tgt := 1743) (dcd d_L_law_22 20 rfl) (by decide) ?_
  exact ws_loc [0, 1, 2, 3] rfl h
theorem sg_L_law_1077 {x3 : Int32} (h : (vp_in (x3 + 1) (gn G) ∧ (vp_in (x3 + 2) (gn G) ∧ Ws G D_walk 0 [(0, .ref 2), (1, .int (gx G ((x3 + 1) : Int32).toNatClampNeg)), (2, .int (gx G ((x3 + 2) : Int32).toNatClampNeg))] [] u (RI fun a3 u3 => (vp_in (x3 + 1) (gn G) ∧ (vp_in (x3 + 2) (gn G) ∧ Ws G m_walk 0 [(0, .ref 76), (1, .int (gx G ((x3 + 1) : Int32).toNatClampNeg)), (2, .int (gx G ((x3 + 2) : Int32).toNatClampNeg))] [] u3 (RI fun a6 u6 => Ws G L_law 1743 [(0, .ref 0), (1, .ref 2), (2, .ref 76), (3, .int x3)] [] u6 Q))))))) : Ws G L_law 1077 [(0, .ref 0), (1, .ref 2), (2, .ref 76), (3, .int x3)] [] u Q := by
  refine ws_aload_n 1 (dcd d_L_law_22 21 rfl) rfl ?_
  refine ws_aload_n 0 (dcd d_L_law_22 22 rfl) rfl ?_
  refine ws_iload_n 3 (dcd d_L_law_22 23 rfl) rfl ?_
  refine ws_iconst (v := 1) (dcd d_L_law_22 24 rfl) (by decide) ?_
  refine ws_iadd (dcd d_L_law_22 25 rfl) ?_
  obtain ⟨e1, h⟩ := h
  refine ws_sld (dcd d_L_law_22 26 rfl) e1 ?_
  refine ws_aload_n 0 (dcd d_L_law_22 27 rfl) rfl ?_
  refine ws_iload_n 3 (dcd d_L_law_22 28 rfl) rfl ?_
  refine ws_iconst (v := 2) (dcd d_L_law_22 29 rfl) (by decide) ?_
  refine ws_iadd (dcd d_L_law_23 0 rfl) ?_
  obtain ⟨e2, h⟩ := h
  refine ws_sld (dcd d_L_law_23 1 rfl) e2 ?_
  refine ws_callVI (o := 2) (As := [.int (gx G ((x3 + 1) : Int32).toNatClampNeg), .int (gx G ((x3 + 2) : Int32).toNatClampNeg)]) (st := []) (la := [(0, .ref 2), (1, .int (gx G ((x3 + 1) : Int32).toNatClampNeg)), (2, .int (gx G ((x3 + 2) : Int32).toNatClampNeg))]) (dcd d_L_law_23 2 rfl) cv_D_walk k_L_126 ⟨by decide, by decide⟩ ok_2 rfl (Nat.le_of_ble_eq_true rfl) (Nat.le_of_ble_eq_true rfl) rfl rfl h (fun a3 u3 h => ?_)
  refine ws_pop (dcd d_L_law_23 3 rfl) rfl ?_
  refine ws_aload_n 2 (dcd d_L_law_23 4 rfl) rfl ?_
  refine ws_aload_n 0 (dcd d_L_law_23 5 rfl) rfl ?_
  refine ws_iload_n 3 (dcd d_L_law_23 6 rfl) rfl ?_
  refine ws_iconst (v := 1) (dcd d_L_law_23 7 rfl) (by decide) ?_
  refine ws_iadd (dcd d_L_law_23 8 rfl) ?_
  obtain ⟨e4, h⟩ := h
  refine ws_sld (dcd d_L_law_23 9 rfl) e4 ?_
  refine ws_aload_n 0 (dcd d_L_law_23 10 rfl) rfl ?_
  refine ws_iload_n 3 (dcd d_L_law_23 11 rfl) rfl ?_
  refine ws_iconst (v := 2) (dcd d_L_law_23 12 rfl) (by decide) ?_
  refine ws_iadd (dcd d_L_law_23 13 rfl) ?_
  obtain ⟨e5, h⟩ := h
  refine ws_sld (dcd d_L_law_23 14 rfl) e5 ?_
  refine ws_callVI (o := 76) (As := [.int (gx G ((x3 + 1) : Int32).toNatClampNeg), .int (gx G ((x3 + 2) : Int32).toNatClampNeg)]) (st := []) (la := [(0, .ref 76), (1, .int (gx G ((x3 + 1) : Int32).toNatClampNeg)), (2, .int (gx G ((x3 + 2) : Int32).toNatClampNeg))]) (dcd d_L_law_23 15 rfl) cv_m_walk k_L_129 ⟨by decide, by decide⟩ ok_76 rfl (Nat.le_of_ble_eq_true rfl) (Nat.le_of_ble_eq_true rfl) rfl rfl h (fun a6 u6 h => ?_)
  refine ws_pop (dcd d_L_law_23 16 rfl) rfl ?_
  refine ws_goto (tgt := 1743) (dcd d_L_law_23 17 rfl) (by decide) ?_
  exact ws_loc [0, 1, 2, 3] rfl h
theorem sg_L_law_1110 {x3 : Int32} (h : (vp_in (x3 + 1) (gn G) ∧ (vp_in (x3 + 2) (gn G) ∧ Ws G D_round 0 [(0, .ref 2), (1, .int (gx G ((x3 + 1) : Int32).toNatClampNeg)), (2, .int (gx G ((x3 + 2) : Int32).toNatClampNeg))] [] u (RI fun a3 u3 => (vp_in (x3 + 1) (gn G) ∧ (vp_in (x3 + 2) (gn G) ∧ Ws G m_round 0 [(0, .ref 76), (1, .int (gx G ((x3 + 1) : Int32).toNatClampNeg)), (2, .int (gx G ((x3 + 2) : Int32).toNatClampNeg))] [] u3 (RI fun a6 u6 => Ws G L_law 1743 [(0, .ref 0), (1, .ref 2), (2, .ref 76), (3, .int x3)] [] u6 Q))))))) : Ws G L_law 1110 [(0, .ref 0), (1, .ref 2), (2, .ref 76), (3, .int x3)] [] u Q := by
  refine ws_aload_n 1 (dcd d_L_law_23 18 rfl) rfl ?_
  refine ws_aload_n 0 (dcd d_L_law_23 19 rfl) rfl ?_
  refine ws_iload_n 3 (dcd d_L_law_23 20 rfl) rfl ?_
  refine ws_iconst (v := 1) (dcd d_L_law_23 21 rfl) (by decide) ?_
  refine ws_iadd (dcd d_L_law_23 22 rfl) ?_
  obtain ⟨e1, h⟩ := h
  refine ws_sld (dcd d_L_law_23 23 rfl) e1 ?_
  refine ws_aload_n 0 (dcd d_L_law_23 24 rfl) rfl ?_
  refine ws_iload_n 3 (dcd d_L_law_23 25 rfl) rfl ?_
  refine ws_iconst (v := 2) (dcd d_L_law_23 26 rfl) (by decide) ?_
  refine ws_iadd (dcd d_L_law_23 27 rfl) ?_
  obtain ⟨e2, h⟩ := h
  refine ws_sld (dcd d_L_law_23 28 rfl) e2 ?_
  refine ws_callVI (o := 2) (As := [.int (gx G ((x3 + 1) : Int32).toNatClampNeg), .int (gx G ((x3 + 2) : Int32).toNatClampNeg)]) (st := []) (la := [(0, .ref 2), (1, .int (gx G ((x3 + 1) : Int32).toNatClampNeg)), (2, .int (gx G ((x3 + 2) : Int32).toNatClampNeg))]) (dcd d_L_law_23 29 rfl) cv_D_round k_L_130 ⟨by decide, by decide⟩ ok_2 rfl (Nat.le_of_ble_eq_true rfl) (Nat.le_of_ble_eq_true rfl) rfl rfl h (fun a3 u3 h => ?_)
  refine ws_pop (dcd d_L_law_24 0 rfl) rfl ?_
  refine ws_aload_n 2 (dcd d_L_law_24 1 rfl) rfl ?_
  refine ws_aload_n 0 (dcd d_L_law_24 2 rfl) rfl ?_
  refine ws_iload_n 3 (dcd d_L_law_24 3 rfl) rfl ?_
  refine ws_iconst (v := 1) (dcd d_L_law_24 4 rfl) (by decide) ?_
  refine ws_iadd (dcd d_L_law_24 5 rfl) ?_
  obtain ⟨e4, h⟩ := h
  refine ws_sld (dcd d_L_law_24 6 rfl) e4 ?_
  refine ws_aload_n 0 (dcd d_L_law_24 7 rfl) rfl ?_
  refine ws_iload_n 3 (dcd d_L_law_24 8 rfl) rfl ?_
  refine ws_iconst (v := 2) (dcd d_L_law_24 9 rfl) (by decide) ?_
  refine ws_iadd (dcd d_L_law_24 10 rfl) ?_
  obtain ⟨e5, h⟩ := h
  refine ws_sld (dcd d_L_law_24 11 rfl) e5 ?_
  refine ws_callVI (o := 76) (As := [.int (gx G ((x3 + 1) : Int32).toNatClampNeg), .int (gx G ((x3 + 2) : Int32).toNatClampNeg)]) (st := []) (la := [(0, .ref 76), (1, .int (gx G ((x3 + 1) : Int32).toNatClampNeg)), (2, .int (gx G ((x3 + 2) : Int32).toNatClampNeg))]) (dcd d_L_law_24 12 rfl) cv_m_round k_L_133 ⟨by decide, by decide⟩ ok_76 rfl (Nat.le_of_ble_eq_true rfl) (Nat.le_of_ble_eq_true rfl) rfl rfl h (fun a6 u6 h => ?_)
  refine ws_pop (dcd d_L_law_24 13 rfl) rfl ?_
  refine ws_goto (tgt := 1743) (dcd d_L_law_24 14 rfl) (by decide) ?_
  exact ws_loc [0, 1, 2, 3] rfl h
theorem sg_L_law_1143 {x3 : Int32} (h : (vp_in (x3 + 1) (gn G) ∧ (vp_in (x3 + 2) (gn G) ∧ (vp_in (x3 + 3) (gn G) ∧ Ws G D_best 0 [(0, .ref 2), (1, .int (gx G ((x3 + 1) : Int32).toNatClampNeg)), (2, .int (gx G ((x3 + 2) : Int32).toNatClampNeg)), (3, .int (gx G ((x3 + 3) : Int32).toNatClampNeg))] [] u (RI fun a4 u4 => (vp_in (x3 + 1) (gn G) ∧ (vp_in (x3 + 2) (gn G) ∧ (vp_in (x3 + 3) (gn G) ∧ Ws G m_best 0 [(0, .ref 76), (1, .int (gx G ((x3 + 1) : Int32).toNatClampNeg)), (2, .int (gx G ((x3 + 2) : Int32).toNatClampNeg)), (3, .int (gx G ((x3 + 3) : Int32).toNatClampNeg))] [] u4 (RI fun a8 u8 => Ws G L_law 1743 [(0, .ref 0), (1, .ref 2), (2, .ref 76), (3, .int x3)] [] u8 Q))))))))) : Ws G L_law 1143 [(0, .ref 0), (1, .ref 2), (2, .ref 76), (3, .int x3)] [] u Q := by
  refine ws_aload_n 1 (dcd d_L_law_24 15 rfl) rfl ?_
  refine ws_aload_n 0 (dcd d_L_law_24 16 rfl) rfl ?_
  refine ws_iload_n 3 (dcd d_L_law_24 17 rfl) rfl ?_
  refine ws_iconst (v := 1) (dcd d_L_law_24 18 rfl) (by decide) ?_
  refine ws_iadd (dcd d_L_law_24 19 rfl) ?_
  obtain ⟨e1, h⟩ := h
  refine ws_sld (dcd d_L_law_24 20 rfl) e1 ?_
  refine ws_aload_n 0 (dcd d_L_law_24 21 rfl) rfl ?_
  refine ws_iload_n 3 (dcd d_L_law_24 22 rfl) rfl ?_
  refine ws_iconst (v := 2) (dcd d_L_law_24 23 rfl) (by decide) ?_
  refine ws_iadd (dcd d_L_law_24 24 rfl) ?_
  obtain ⟨e2, h⟩ := h
  refine ws_sld (dcd d_L_law_24 25 rfl) e2 ?_
  refine ws_aload_n 0 (dcd d_L_law_24 26 rfl) rfl ?_
  refine ws_iload_n 3 (dcd d_L_law_24 27 rfl) rfl ?_
  refine ws_iconst (v := 3) (dcd d_L_law_24 28 rfl) (by decide) ?_
  refine ws_iadd (dcd d_L_law_24 29 rfl) ?_
  obtain ⟨e3, h⟩ := h
  refine ws_sld (dcd d_L_law_25 0 rfl) e3 ?_
  refine ws_callVI (o := 2) (As := [.int (gx G ((x3 + 1) : Int32).toNatClampNeg), .int (gx G ((x3 + 2) : Int32).toNatClampNeg), .int (gx G ((x3 + 3) : Int32).toNatClampNeg)]) (st := []) (la := [(0, .ref 2), (1, .int (gx G ((x3 + 1) : Int32).toNatClampNeg)), (2, .int (gx G ((x3 + 2) : Int32).toNatClampNeg)), (3, .int (gx G ((x3 + 3) : Int32).toNatClampNeg))]) (dcd d_L_law_25 1 rfl) cv_D_best k_L_134 ⟨by decide, by decide⟩ ok_2 rfl (Nat.le_of_ble_eq_true rfl) (Nat.le_of_ble_eq_true rfl) rfl rfl h (fun a4 u4 h => ?_)
  refine ws_pop (dcd d_L_law_25 2 rfl) rfl ?_
  refine ws_aload_n 2 (dcd d_L_law_25 3 rfl) rfl ?_
  refine ws_aload_n 0 (dcd d_L_law_25 4 rfl) rfl ?_
  refine ws_iload_n 3 (dcd d_L_law_25 5 rfl) rfl ?_
  refine ws_iconst (v := 1) (dcd d_L_law_25 6 rfl) (by decide) ?_
  refine ws_iadd (dcd d_L_law_25 7 rfl) ?_
  obtain ⟨e5, h⟩ := h
  refine ws_sld (dcd d_L_law_25 8 rfl) e5 ?_
  refine ws_aload_n 0 (dcd d_L_law_25 9 rfl) rfl ?_
  refine ws_iload_n 3 (dcd d_L_law_25 10 rfl) rfl ?_
  refine ws_iconst (v := 2) (dcd d_L_law_25 11 rfl) (by decide) ?_
  refine ws_iadd (dcd d_L_law_25 12 rfl) ?_
  obtain ⟨e6, h⟩ := h
  refine ws_sld (dcd d_L_law_25 13 rfl) e6 ?_
  refine ws_aload_n 0 (dcd d_L_law_25 14 rfl) rfl ?_
  refine ws_iload_n 3 (dcd d_L_law_25 15 rfl) rfl ?_
  refine ws_iconst (v := 3) (dcd d_L_law_25 16 rfl) (by decide) ?_
  refine ws_iadd (dcd d_L_law_25 17 rfl) ?_
  obtain ⟨e7, h⟩ := h
  refine ws_sld (dcd d_L_law_25 18 rfl) e7 ?_
  refine ws_callVI (o := 76) (As := [.int (gx G ((x3 + 1) : Int32).toNatClampNeg), .int (gx G ((x3 + 2) : Int32).toNatClampNeg), .int (gx G ((x3 + 3) : Int32).toNatClampNeg)]) (st := []) (la := [(0, .ref 76), (1, .int (gx G ((x3 + 1) : Int32).toNatClampNeg)), (2, .int (gx G ((x3 + 2) : Int32).toNatClampNeg)), (3, .int (gx G ((x3 + 3) : Int32).toNatClampNeg))]) (dcd d_L_law_25 19 rfl) cv_m_best k_L_137 ⟨by decide, by decide⟩ ok_76 rfl (Nat.le_of_ble_eq_true rfl) (Nat.le_of_ble_eq_true rfl) rfl rfl h (fun a8 u8 h => ?_)
  refine ws_pop (dcd d_L_law_25 20 rfl) rfl ?_
  refine ws_goto (tgt := 1743) (dcd d_L_law_25 21 rfl) (by decide) ?_
  exact ws_loc [0, 1, 2, 3] rfl h
theorem sg_L_law_1186 {x3 : Int32} (h : (vp_in (x3 + 1) (gn G) ∧ (vp_in (x3 + 2) (gn G) ∧ (vp_in (x3 + 3) (gn G) ∧ (vp_in (x3 + 4) (gn G) ∧ Ws G D_errands 0 [(0, .ref 2), (1, .int (gx G ((x3 + 1) : Int32).toNatClampNeg)), (2, .int (gx G ((x3 + 2) : Int32).toNatClampNeg)), (3, .int (gx G ((x3 + 3) : Int32).toNatClampNeg)), (4, .int (gx G ((x3 + 4) : Int32).toNatClampNeg))] [] u (RI fun a5 u5 => (vp_in (x3 + 1) (gn G) ∧ (vp_in (x3 + 2) (gn G) ∧ (vp_in (x3 + 3) (gn G) ∧ (vp_in (x3 + 4) (gn G) ∧ Ws G m_errands 0 [(0, .ref 76), (1, .int (gx G ((x3 + 1) : Int32).toNatClampNeg)), (2, .int (gx G ((x3 + 2) : Int32).toNatClampNeg)), (3, .int (gx G ((x3 + 3) : Int32).toNatClampNeg)), (4, .int (gx G ((x3 + 4) : Int32).toNatClampNeg))] [] u5 (RI fun a10 u10 => Ws G L_law 1743 [(0, .ref 0), (1, .ref 2), (2, .ref 76), (3, .int x3)] [] u10 Q))))))))))) : Ws G L_law 1186 [(0, .ref 0), (1, .ref 2), (2, .ref 76), (3, .int x3)] [] u Q := by
  refine ws_aload_n 1 (dcd d_L_law_25 22 rfl) rfl ?_
  refine ws_aload_n 0 (dcd d_L_law_25 23 rfl) rfl ?_
  refine ws_iload_n 3 (dcd d_L_law_25 24 rfl) rfl ?_
  refine ws_iconst (v := 1) (dcd d_L_law_25 25 rfl) (by decide) ?_
  refine ws_iadd (dcd d_L_law_25 26 rfl) ?_
  obtain ⟨e1, h⟩ := h
  refine ws_sld (dcd d_L_law_25 27 rfl) e1 ?_
  refine ws_aload_n 0 (dcd d_L_law_25 28 rfl) rfl ?_
  refine ws_iload_n 3 (dcd d_L_law_25 29 rfl) rfl ?_
  refine ws_iconst (v := 2) (dcd d_L_law_26 0 rfl) (by decide) ?_
  refine ws_iadd (dcd d_L_law_26 1 rfl) ?_
  obtain ⟨e2, h⟩ := h
  refine ws_sld (dcd d_L_law_26 2 rfl) e2 ?_
  refine ws_aload_n 0 (dcd d_L_law_26 3 rfl) rfl ?_
  refine ws_iload_n 3 (dcd d_L_law_26 4 rfl) rfl ?_
  refine ws_iconst (v := 3) (dcd d_L_law_26 5 rfl) (by decide) ?_
  refine ws_iadd (dcd d_L_law_26 6 rfl) ?_
  obtain ⟨e3, h⟩ := h
  refine ws_sld (dcd d_L_law_26 7 rfl) e3 ?_
  refine ws_aload_n 0 (dcd d_L_law_26 8 rfl) rfl ?_
  refine ws_iload_n 3 (dcd d_L_law_26 9 rfl) rfl ?_
  refine ws_iconst (v := 4) (dcd d_L_law_26 10 rfl) (by decide) ?_
  refine ws_iadd (dcd d_L_law_26 11 rfl) ?_
  obtain ⟨e4, h⟩ := h
  refine ws_sld (dcd d_L_law_26 12 rfl) e4 ?_
  refine ws_callVI (o := 2) (As := [.int (gx G ((x3 + 1) : Int32).toNatClampNeg), .int (gx G ((x3 + 2) : Int32).toNatClampNeg), .int (gx G ((x3 + 3) : Int32).toNatClampNeg), .int (gx G ((x3 + 4) : Int32).toNatClampNeg)]) (st := []) (la := [(0, .ref 2), (1, .int (gx G ((x3 + 1) : Int32).toNatClampNeg)), (2, .int (gx G ((x3 + 2) : Int32).toNatClampNeg)), (3, .int (gx G ((x3 + 3) : Int32).toNatClampNeg)), (4, .int (gx G ((x3 + 4) : Int32).toNatClampNeg))]) (dcd d_L_law_26 13 rfl) cv_D_errands k_L_138 ⟨by decide, by decide⟩ ok_2 rfl (Nat.le_of_ble_eq_true rfl) (Nat.le_of_ble_eq_true rfl) rfl rfl h (fun a5 u5 h => ?_)
  refine ws_pop (dcd d_L_law_26 14 rfl) rfl ?_
  refine ws_aload_n 2 (dcd d_L_law_26 15 rfl) rfl ?_
  refine ws_aload_n 0 (dcd d_L_law_26 16 rfl) rfl ?_
  refine ws_iload_n 3 (dcd d_L_law_26 17 rfl) rfl ?_
  refine ws_iconst (v := 1) (dcd d_L_law_26 18 rfl) (by decide) ?_
  refine ws_iadd (dcd d_L_law_26 19 rfl) ?_
  obtain ⟨e6, h⟩ := h
  refine ws_sld (dcd d_L_law_26 20 rfl) e6 ?_
  refine ws_aload_n 0 (dcd d_L_law_26 21 rfl) rfl ?_
  refine ws_iload_n 3 (dcd d_L_law_26 22 rfl) rfl ?_
  refine ws_iconst (v := 2) (dcd d_L_law_26 23 rfl) (by decide) ?_
  refine ws_iadd (dcd d_L_law_26 24 rfl) ?_
  obtain ⟨e7, h⟩ := h
  refine ws_sld (dcd d_L_law_26 25 rfl) e7 ?_
  refine ws_aload_n 0 (dcd d_L_law_26 26 rfl) rfl ?_
  refine ws_iload_n 3 (dcd d_L_law_26 27 rfl) rfl ?_
  refine ws_iconst (v := 3) (dcd d_L_law_26 28 rfl) (by decide) ?_
  refine ws_iadd (dcd d_L_law_26 29 rfl) ?_
  obtain ⟨e8, h⟩ := h
  refine ws_sld (dcd d_L_law_27 0 rfl) e8 ?_
  refine ws_aload_n 0 (dcd d_L_law_27 1 rfl) rfl ?_
  refine ws_iload_n 3 (dcd d_L_law_27 2 rfl) rfl ?_
  refine ws_iconst (v := 4) (dcd d_L_law_27 3 rfl) (by decide) ?_
  refine ws_iadd (dcd d_L_law_27 4 rfl) ?_
  obtain ⟨e9, h⟩ := h
  refine ws_sld (dcd d_L_law_27 5 rfl) e9 ?_
  refine ws_callVI (o := 76) (As := [.int (gx G ((x3 + 1) : Int32).toNatClampNeg), .int (gx G ((x3 + 2) : Int32).toNatClampNeg), .int (gx G ((x3 + 3) : Int32).toNatClampNeg), .int (gx G ((x3 + 4) : Int32).toNatClampNeg)]) (st := []) (la := [(0, .ref 76), (1, .int (gx G ((x3 + 1) : Int32).toNatClampNeg)), (2, .int (gx G ((x3 + 2) : Int32).toNatClampNeg)), (3, .int (gx G ((x3 + 3) : Int32).toNatClampNeg)), (4, .int (gx G ((x3 + 4) : Int32).toNatClampNeg))]) (dcd d_L_law_27 6 rfl) cv_m_errands k_L_142 ⟨by decide, by decide⟩ ok_76 rfl (Nat.le_of_ble_eq_true rfl) (Nat.le_of_ble_eq_true rfl) rfl rfl h (fun a10 u10 h => ?_)
  refine ws_pop (dcd d_L_law_27 7 rfl) rfl ?_
  refine ws_goto (tgt := 1743) (dcd d_L_law_27 8 rfl) (by decide) ?_
  exact ws_loc [0, 1, 2, 3] rfl h
theorem sg_L_law_1239 {x3 : Int32} (h : (vp_in (x3 + 1) (gn G) ∧ (vp_in (x3 + 2) (gn G) ∧ (vp_in (x3 + 3) (gn G) ∧ Ws G D_agree 0 [(0, .ref 2), (1, .int (gx G ((x3 + 1) : Int32).toNatClampNeg)), (2, .int (gx G ((x3 + 2) : Int32).toNatClampNeg)), (3, .int (gx G ((x3 + 3) : Int32).toNatClampNeg))] [] u (RI fun a4 u4 => (vp_in (x3 + 1) (gn G) ∧ (vp_in (x3 + 2) (gn G) ∧ (vp_in (x3 + 3) (gn G) ∧ Ws G m_agree 0 [(0, .ref 76), (1, .int (gx G ((x3 + 1) : Int32).toNatClampNeg)), (2, .int (gx G ((x3 + 2) : Int32).toNatClampNeg)), (3, .int (gx G ((x3 + 3) : Int32).toNatClampNeg))] [] u4 (RI fun a8 u8 => Ws G L_law 1743 [(0, .ref 0), (1, .ref 2), (2, .ref 76), (3, .int x3)] [] u8 Q))))))))) : Ws G L_law 1239 [(0, .ref 0), (1, .ref 2), (2, .ref 76), (3, .int x3)] [] u Q := by
  refine ws_aload_n 1 (dcd d_L_law_27 9 rfl) rfl ?_
  refine ws_aload_n 0 (dcd d_L_law_27 10 rfl) rfl ?_
  refine ws_iload_n 3 (dcd d_L_law_27 11 rfl) rfl ?_
  refine ws_iconst (v := 1) (dcd d_L_law_27 12 rfl) (by decide) ?_
  refine ws_iadd (dcd d_L_law_27 13 rfl) ?_
  obtain ⟨e1, h⟩ := h
  refine ws_sld (dcd d_L_law_27 14 rfl) e1 ?_
  refine ws_aload_n 0 (dcd d_L_law_27 15 rfl) rfl ?_
  refine ws_iload_n 3 (dcd d_L_law_27 16 rfl) rfl ?_
  refine ws_iconst (v := 2) (dcd d_L_law_27 17 rfl) (by decide) ?_
  refine ws_iadd (dcd d_L_law_27 18 rfl) ?_
  obtain ⟨e2, h⟩ := h
  refine ws_sld (dcd d_L_law_27 19 rfl) e2 ?_
  refine ws_aload_n 0 (dcd d_L_law_27 20 rfl) rfl ?_
  refine ws_iload_n 3 (dcd d_L_law_27 21 rfl) rfl ?_
  refine ws_iconst (v := 3) (dcd d_L_law_27 22 rfl) (by decide) ?_
  refine ws_iadd (dcd d_L_law_27 23 rfl) ?_
  obtain ⟨e3, h⟩ := h
  refine ws_sld (dcd d_L_law_27 24 rfl) e3 ?_
  refine ws_callVI (o := 2) (As := [.int (gx G ((x3 + 1) : Int32).toNatClampNeg), .int (gx G ((x3 + 2) : Int32).toNatClampNeg), .int (gx G ((x3 + 3) : Int32).toNatClampNeg)]) (st := []) (la := [(0, .ref 2), (1, .int (gx G ((x3 + 1) : Int32).toNatClampNeg)), (2, .int (gx G ((x3 + 2) : Int32).toNatClampNeg)), (3, .int (gx G ((x3 + 3) : Int32).toNatClampNeg))]) (dcd d_L_law_27 25 rfl) cv_D_agree k_L_143 ⟨by decide, by decide⟩ ok_2 rfl (Nat.le_of_ble_eq_true rfl) (Nat.le_of_ble_eq_true rfl) rfl rfl h (fun a4 u4 h => ?_)
  refine ws_pop (dcd d_L_law_27 26 rfl) rfl ?_
  refine ws_aload_n 2 (dcd d_L_law_27 27 rfl) rfl ?_
  refine ws_aload_n 0 (dcd d_L_law_27 28 rfl) rfl ?_
  refine ws_iload_n 3 (dcd d_L_law_27 29 rfl) rfl ?_
  refine ws_iconst (v := 1) (dcd d_L_law_28 0 rfl) (by decide) ?_
  refine ws_iadd (dcd d_L_law_28 1 rfl) ?_
  obtain ⟨e5, h⟩ := h
  refine ws_sld (dcd d_L_law_28 2 rfl) e5 ?_
  refine ws_aload_n 0 (dcd d_L_law_28 3 rfl) rfl ?_
  refine ws_iload_n 3 (dcd d_L_law_28 4 rfl) rfl ?_
  refine ws_iconst (v := 2) (dcd d_L_law_28 5 rfl) (by decide) ?_
  refine ws_iadd (dcd d_L_law_28 6 rfl) ?_
  obtain ⟨e6, h⟩ := h
  refine ws_sld (dcd d_L_law_28 7 rfl) e6 ?_
  refine ws_aload_n 0 (dcd d_L_law_28 8 rfl) rfl ?_
  refine ws_iload_n 3 (dcd d_L_law_28 9 rfl) rfl ?_
  refine ws_iconst (v := 3) (dcd d_L_law_28 10 rfl) (by decide) ?_
  refine ws_iadd (dcd d_L_law_28 11 rfl) ?_
  obtain ⟨e7, h⟩ := h
  refine ws_sld (dcd d_L_law_28 12 rfl) e7 ?_
  refine ws_callVI (o := 76) (As := [.int (gx G ((x3 + 1) : Int32).toNatClampNeg), .int (gx G ((x3 + 2) : Int32).toNatClampNeg), .int (gx G ((x3 + 3) : Int32).toNatClampNeg)]) (st := []) (la := [(0, .ref 76), (1, .int (gx G ((x3 + 1) : Int32).toNatClampNeg)), (2, .int (gx G ((x3 + 2) : Int32).toNatClampNeg)), (3, .int (gx G ((x3 + 3) : Int32).toNatClampNeg))]) (dcd d_L_law_28 13 rfl) cv_m_agree k_L_146 ⟨by decide, by decide⟩ ok_76 rfl (Nat.le_of_ble_eq_true rfl) (Nat.le_of_ble_eq_true rfl) rfl rfl h (fun a8 u8 h => ?_)
  refine ws_pop (dcd d_L_law_28 14 rfl) rfl ?_
  refine ws_goto (tgt := 1743) (dcd d_L_law_28 15 rfl) (by decide) ?_
  exact ws_loc [0, 1, 2, 3] rfl h
theorem sg_L_law_1282 {x3 : Int32} (h : (vp_in (x3 + 1) (gn G) ∧ (vp_in (x3 + 2) (gn G) ∧ Ws G D_joins 0 [(0, .ref 2), (1, .int (gx G ((x3 + 1) : Int32).toNatClampNeg)), (2, .int (gx G ((x3 + 2) : Int32).toNatClampNeg))] [] u (RI fun a3 u3 => (vp_in (x3 + 1) (gn G) ∧ (vp_in (x3 + 2) (gn G) ∧ Ws G m_joins 0 [(0, .ref 76), (1, .int (gx G ((x3 + 1) : Int32).toNatClampNeg)), (2, .int (gx G ((x3 + 2) : Int32).toNatClampNeg))] [] u3 (RI fun a6 u6 => Ws G L_law 1743 [(0, .ref 0), (1, .ref 2), (2, .ref 76), (3, .int x3)] [] u6 Q))))))) : Ws G L_law 1282 [(0, .ref 0), (1, .ref 2), (2, .ref 76), (3, .int x3)] [] u Q := by
  refine ws_aload_n 1 (dcd d_L_law_28 16 rfl) rfl ?_
  refine ws_aload_n 0 (dcd d_L_law_28 17 rfl) rfl ?_
  refine ws_iload_n 3 (dcd d_L_law_28 18 rfl) rfl ?_
  refine ws_iconst (v := 1) (dcd d_L_law_28 19 rfl) (by decide) ?_
  refine ws_iadd (dcd d_L_law_28 20 rfl) ?_
  obtain ⟨e1, h⟩ := h
  refine ws_sld (dcd d_L_law_28 21 rfl) e1 ?_
  refine ws_aload_n 0 (dcd d_L_law_28 22 rfl) rfl ?_
  refine ws_iload_n 3 (dcd d_L_law_28 23 rfl) rfl ?_
  refine ws_iconst (v := 2) (dcd d_L_law_28 24 rfl) (by decide) ?_
  refine ws_iadd (dcd d_L_law_28 25 rfl) ?_
  obtain ⟨e2, h⟩ := h
  refine ws_sld (dcd d_L_law_28 26 rfl) e2 ?_
  refine ws_callVI (o := 2) (As := [.int (gx G ((x3 + 1) : Int32).toNatClampNeg), .int (gx G ((x3 + 2) : Int32).toNatClampNeg)]) (st := []) (la := [(0, .ref 2), (1, .int (gx G ((x3 + 1) : Int32).toNatClampNeg)), (2, .int (gx G ((x3 + 2) : Int32).toNatClampNeg))]) (dcd d_L_law_28 27 rfl) cv_D_joins k_L_147 ⟨by decide, by decide⟩ ok_2 rfl (Nat.le_of_ble_eq_true rfl) (Nat.le_of_ble_eq_true rfl) rfl rfl h (fun a3 u3 h => ?_)
  refine ws_pop (dcd d_L_law_28 28 rfl) rfl ?_
  refine ws_aload_n 2 (dcd d_L_law_28 29 rfl) rfl ?_
  refine ws_aload_n 0 (dcd d_L_law_29 0 rfl) rfl ?_
  refine ws_iload_n 3 (dcd d_L_law_29 1 rfl) rfl ?_
  refine ws_iconst (v := 1) (dcd d_L_law_29 2 rfl) (by decide) ?_
  refine ws_iadd (dcd d_L_law_29 3 rfl) ?_
  obtain ⟨e4, h⟩ := h
  refine ws_sld (dcd d_L_law_29 4 rfl) e4 ?_
  refine ws_aload_n 0 (dcd d_L_law_29 5 rfl) rfl ?_
  refine ws_iload_n 3 (dcd d_L_law_29 6 rfl) rfl ?_
  refine ws_iconst (v := 2) (dcd d_L_law_29 7 rfl) (by decide) ?_
  refine ws_iadd (dcd d_L_law_29 8 rfl) ?_
  obtain ⟨e5, h⟩ := h
  refine ws_sld (dcd d_L_law_29 9 rfl) e5 ?_
  refine ws_callVI (o := 76) (As := [.int (gx G ((x3 + 1) : Int32).toNatClampNeg), .int (gx G ((x3 + 2) : Int32).toNatClampNeg)]) (st := []) (la := [(0, .ref 76), (1, .int (gx G ((x3 + 1) : Int32).toNatClampNeg)), (2, .int (gx G ((x3 + 2) : Int32).toNatClampNeg))]) (dcd d_L_law_29 10 rfl) cv_m_joins k_L_150 ⟨by decide, by decide⟩ ok_76 rfl (Nat.le_of_ble_eq_true rfl) (Nat.le_of_ble_eq_true rfl) rfl rfl h (fun a6 u6 h => ?_)
  refine ws_pop (dcd d_L_law_29 11 rfl) rfl ?_
  refine ws_goto (tgt := 1743) (dcd d_L_law_29 12 rfl) (by decide) ?_
  exact ws_loc [0, 1, 2, 3] rfl h
theorem sg_L_law_1315 {x3 : Int32} (h : Ws G D_quiet 0 [(0, .ref 2)] [] u (RI fun a1 u1 => Ws G m_quiet 0 [(0, .ref 76)] [] u1 (RI fun a2 u2 => Ws G L_law 1743 [(0, .ref 0), (1, .ref 2), (2, .ref 76), (3, .int x3)] [] u2 Q))) : Ws G L_law 1315 [(0, .ref 0), (1, .ref 2), (2, .ref 76), (3, .int x3)] [] u Q := by
  refine ws_aload_n 1 (dcd d_L_law_29 13 rfl) rfl ?_
  refine ws_callVI (o := 2) (As := []) (st := []) (la := [(0, .ref 2)]) (dcd d_L_law_29 14 rfl) cv_D_quiet k_L_151 ⟨by decide, by decide⟩ ok_2 rfl (Nat.le_of_ble_eq_true rfl) (Nat.le_of_ble_eq_true rfl) rfl rfl h (fun a1 u1 h => ?_)
  refine ws_pop (dcd d_L_law_29 15 rfl) rfl ?_
  refine ws_aload_n 2 (dcd d_L_law_29 16 rfl) rfl ?_
  refine ws_callVI (o := 76) (As := []) (st := []) (la := [(0, .ref 76)]) (dcd d_L_law_29 17 rfl) cv_m_quiet k_L_154 ⟨by decide, by decide⟩ ok_76 rfl (Nat.le_of_ble_eq_true rfl) (Nat.le_of_ble_eq_true rfl) rfl rfl h (fun a2 u2 h => ?_)
  refine ws_pop (dcd d_L_law_29 18 rfl) rfl ?_
  refine ws_goto (tgt := 1743) (dcd d_L_law_29 19 rfl) (by decide) ?_
  exact ws_loc [0, 1, 2, 3] rfl h
theorem sg_L_law_1328 {x3 : Int32} (h : Ws G D_busy 0 [(0, .ref 2)] [] u (RI fun a1 u1 => Ws G m_busy 0 [(0, .ref 76)] [] u1 (RI fun a2 u2 => Ws G L_law 1743 [(0, .ref 0), (1, .ref 2), (2, .ref 76), (3, .int x3)] [] u2 Q))) : Ws G L_law 1328 [(0, .ref 0), (1, .ref 2), (2, .ref 76), (3, .int x3)] [] u Q := by
  refine ws_aload_n 1 (dcd d_L_law_29 20 rfl) rfl ?_
  refine ws_callVI (o := 2) (As := []) (st := []) (la := [(0, .ref 2)]) (dcd d_L_law_29 21 rfl) cv_D_busy k_L_155 ⟨by decide, by decide⟩ ok_2 rfl (Nat.le_of_ble_eq_true rfl) (Nat.le_of_ble_eq_true rfl) rfl rfl h (fun a1 u1 h => ?_)
  refine ws_pop (dcd d_L_law_29 22 rfl) rfl ?_
  refine ws_aload_n 2 (dcd d_L_law_29 23 rfl) rfl ?_
  refine ws_callVI (o := 76) (As := []) (st := []) (la := [(0, .ref 76)]) (dcd d_L_law_29 24 rfl) cv_m_busy k_L_158 ⟨by decide, by decide⟩ ok_76 rfl (Nat.le_of_ble_eq_true rfl) (Nat.le_of_ble_eq_true rfl) rfl rfl h (fun a2 u2 h => ?_)
  refine ws_pop (dcd d_L_law_29 25 rfl) rfl ?_
  refine ws_goto (tgt := 1743) (dcd d_L_law_29 26 rfl) (by decide) ?_
  exact ws_loc [0, 1, 2, 3] rfl h
theorem sg_L_law_1341 {x3 : Int32} (h : (vp_in (x3 + 1) (gn G) ∧ (vp_in (x3 + 2) (gn G) ∧ (vp_in (x3 + 3) (gn G) ∧ Ws G D_note 0 [(0, .ref 2), (1, .int (gx G ((x3 + 1) : Int32).toNatClampNeg)), (2, .int (gx G ((x3 + 2) : Int32).toNatClampNeg)), (3, .int (gx G ((x3 + 3) : Int32).toNatClampNeg))] [] u (RI fun a4 u4 => (vp_in (x3 + 1) (gn G) ∧ (vp_in (x3 + 2) (gn G) ∧ (vp_in (x3 + 3) (gn G) ∧ Ws G m_note 0 [(0, .ref 76), (1, .int (gx G ((x3 + 1) : Int32).toNatClampNeg)), (2, .int (gx G ((x3 + 2) : Int32).toNatClampNeg)), (3, .int (gx G ((x3 + 3) : Int32).toNatClampNeg))] [] u4 (RI fun a8 u8 => Ws G L_law 1743 [(0, .ref 0), (1, .ref 2), (2, .ref 76), (3, .int x3)] [] u8 Q))))))))) : Ws G L_law 1341 [(0, .ref 0), (1, .ref 2), (2, .ref 76), (3, .int x3)] [] u Q := by
  refine ws_aload_n 1 (dcd d_L_law_29 27 rfl) rfl ?_
  refine ws_aload_n 0 (dcd d_L_law_29 28 rfl) rfl ?_
  refine ws_iload_n 3 (dcd d_L_law_29 29 rfl) rfl ?_
  refine ws_iconst (v := 1) (dcd d_L_law_30 0 rfl) (by decide) ?_
  refine ws_iadd (dcd d_L_law_30 1 rfl) ?_
  obtain ⟨e1, h⟩ := h
  refine ws_sld (dcd d_L_law_30 2 rfl) e1 ?_
  refine ws_aload_n 0 (dcd d_L_law_30 3 rfl) rfl ?_
  refine ws_iload_n 3 (dcd d_L_law_30 4 rfl) rfl ?_
  refine ws_iconst (v := 2) (dcd d_L_law_30 5 rfl) (by decide) ?_
  refine ws_iadd (dcd d_L_law_30 6 rfl) ?_
  obtain ⟨e2, h⟩ := h
  refine ws_sld (dcd d_L_law_30 7 rfl) e2 ?_
  refine ws_aload_n 0 (dcd d_L_law_30 8 rfl) rfl ?_
  refine ws_iload_n 3 (dcd d_L_law_30 9 rfl) rfl ?_
  refine ws_iconst (v := 3) (dcd d_L_law_30 10 rfl) (by decide) ?_
  refine ws_iadd (dcd d_L_law_30 11 rfl) ?_
  obtain ⟨e3, h⟩ := h
  refine ws_sld (dcd d_L_law_30 12 rfl) e3 ?_
  refine ws_callVI (o := 2) (As := [.int (gx G ((x3 + 1) : Int32).toNatClampNeg), .int (gx G ((x3 + 2) : Int32).toNatClampNeg), .int (gx G ((x3 + 3) : Int32).toNatClampNeg)]) (st := []) (la := [(0, .ref 2), (1, .int (gx G ((x3 + 1) : Int32).toNatClampNeg)), (2, .int (gx G ((x3 + 2) : Int32).toNatClampNeg)), (3, .int (gx G ((x3 + 3) : Int32).toNatClampNeg))]) (dcd d_L_law_30 13 rfl) cv_D_note k_L_159 ⟨by decide, by decide⟩ ok_2 rfl (Nat.le_of_ble_eq_true rfl) (Nat.le_of_ble_eq_true rfl) rfl rfl h (fun a4 u4 h => ?_)
  refine ws_pop (dcd d_L_law_30 14 rfl) rfl ?_
  refine ws_aload_n 2 (dcd d_L_law_30 15 rfl) rfl ?_
  refine ws_aload_n 0 (dcd d_L_law_30 16 rfl) rfl ?_
  refine ws_iload_n 3 (dcd d_L_law_30 17 rfl) rfl ?_
  refine ws_iconst (v := 1) (dcd d_L_law_30 18 rfl) (by decide) ?_
  refine ws_iadd (dcd d_L_law_30 19 rfl) ?_
  obtain ⟨e5, h⟩ := h
  refine ws_sld (dcd d_L_law_30 20 rfl) e5 ?_
  refine ws_aload_n 0 (dcd d_L_law_30 21 rfl) rfl ?_
  refine ws_iload_n 3 (dcd d_L_law_30 22 rfl) rfl ?_
  refine ws_iconst (v := 2) (dcd d_L_law_30 23 rfl) (by decide) ?_
  refine ws_iadd (dcd d_L_law_30 24 rfl) ?_
  obtain ⟨e6, h⟩ := h
  refine ws_sld (dcd d_L_law_30 25 rfl) e6 ?_
  refine ws_aload_n 0 (dcd d_L_law_30 26 rfl) rfl ?_
  refine ws_iload_n 3 (dcd d_L_law_30 27 rfl) rfl ?_
  refine ws_iconst (v := 3) (dcd d_L_law_30 28 rfl) (by decide) ?_
  refine ws_iadd (dcd d_L_law_30 29 rfl) ?_
  obtain ⟨e7, h⟩ := h
  refine ws_sld (dcd d_L_law_31 0 rfl) e7 ?_
  refine ws_callVI (o := 76) (As := [.int (gx G ((x3 + 1) : Int32).toNatClampNeg), .int (gx G ((x3 + 2) : Int32).toNatClampNeg), .int (gx G ((x3 + 3) : Int32).toNatClampNeg)]) (st := []) (la := [(0, .ref 76), (1, .int (gx G ((x3 + 1) : Int32).toNatClampNeg)), (2, .int (gx G ((x3 + 2) : Int32).toNatClampNeg)), (3, .int (gx G ((x3 + 3) : Int32).toNatClampNeg))]) (dcd d_L_law_31 1 rfl) cv_m_note k_L_162 ⟨by decide, by decide⟩ ok_76 rfl (Nat.le_of_ble_eq_true rfl) (Nat.le_of_ble_eq_true rfl) rfl rfl h (fun a8 u8 h => ?_)
  refine ws_pop (dcd d_L_law_31 2 rfl) rfl ?_
  refine ws_goto (tgt := 1743) (dcd d_L_law_31 3 rfl) (by decide) ?_
  exact ws_loc [0, 1, 2, 3] rfl h
theorem sg_L_law_1384 {x3 : Int32} (h : (vp_in (x3 + 1) (gn G) ∧ Ws G D_back 0 [(0, .ref 2), (1, .int (gx G ((x3 + 1) : Int32).toNatClampNeg))] [] u (RI fun a2 u2 => (vp_in (x3 + 1) (gn G) ∧ Ws G m_back 0 [(0, .ref 76), (1, .int (gx G ((x3 + 1) : Int32).toNatClampNeg))] [] u2 (RI fun a4 u4 => Ws G L_law 1743 [(0, .ref 0), (1, .ref 2), (2, .ref 76), (3, .int x3)] [] u4 Q))))) : Ws G L_law 1384 [(0, .ref 0), (1, .ref 2), (2, .ref 76), (3, .int x3)] [] u Q := by
  refine ws_aload_n 1 (dcd d_L_law_31 4 rfl) rfl ?_
  refine ws_aload_n 0 (dcd d_L_law_31 5 rfl) rfl ?_
  refine ws_iload_n 3 (dcd d_L_law_31 6 rfl) rfl ?_
  refine ws_iconst (v := 1) (dcd d_L_law_31 7 rfl) (by decide) ?_
  refine ws_iadd (dcd d_L_law_31 8 rfl) ?_
  obtain ⟨e1, h⟩ := h
  refine ws_sld (dcd d_L_law_31 9 rfl) e1 ?_
  refine ws_callVI (o := 2) (As := [.int (gx G ((x3 + 1) : Int32).toNatClampNeg)]) (st := []) (la := [(0, .ref 2), (1, .int (gx G ((x3 + 1) : Int32).toNatClampNeg))]) (dcd d_L_law_31 10 rfl) cv_D_back k_L_163 ⟨by decide, by decide⟩ ok_2 rfl (Nat.le_of_ble_eq_true rfl) (Nat.le_of_ble_eq_true rfl) rfl rfl h (fun a2 u2 h => ?_)
  refine ws_pop (dcd d_L_law_31 11 rfl) rfl ?_
  refine ws_aload_n 2 (dcd d_L_law_31 12 rfl) rfl ?_
  refine ws_aload_n 0 (dcd d_L_law_31 13 rfl) rfl ?_
  refine ws_iload_n 3 (dcd d_L_law_31 14 rfl) rfl ?_
  refine ws_iconst (v := 1) (dcd d_L_law_31 15 rfl) (by decide) ?_
  refine ws_iadd (dcd d_L_law_31 16 rfl) ?_
  obtain ⟨e3, h⟩ := h
  refine ws_sld (dcd d_L_law_31 17 rfl) e3 ?_
  refine ws_callVI (o := 76) (As := [.int (gx G ((x3 + 1) : Int32).toNatClampNeg)]) (st := []) (la := [(0, .ref 76), (1, .int (gx G ((x3 + 1) : Int32).toNatClampNeg))]) (dcd d_L_law_31 18 rfl) cv_m_back k_L_166 ⟨by decide, by decide⟩ ok_76 rfl (Nat.le_of_ble_eq_true rfl) (Nat.le_of_ble_eq_true rfl) rfl rfl h (fun a4 u4 h => ?_)
  refine ws_pop (dcd d_L_law_31 19 rfl) rfl ?_
  refine ws_goto (tgt := 1743) (dcd d_L_law_31 20 rfl) (by decide) ?_
  exact ws_loc [0, 1, 2, 3] rfl h
theorem sg_L_law_1407 {x3 : Int32} (h : (vp_in (x3 + 1) (gn G) ∧ Ws G D_steps 0 [(0, .ref 2), (1, .int (gx G ((x3 + 1) : Int32).toNatClampNeg))] [] u (RI fun a2 u2 => (vp_in (x3 + 1) (gn G) ∧ Ws G m_steps 0 [(0, .ref 76), (1, .int (gx G ((x3 + 1) : Int32).toNatClampNeg))] [] u2 (RI fun a4 u4 => Ws G L_law 1743 [(0, .ref 0), (1, .ref 2), (2, .ref 76), (3, .int x3)] [] u4 Q))))) : Ws G L_law 1407 [(0, .ref 0), (1, .ref 2), (2, .ref 76), (3, .int x3)] [] u Q := by
  refine ws_aload_n 1 (dcd d_L_law_31 21 rfl) rfl ?_
  refine ws_aload_n 0 (dcd d_L_law_31 22 rfl) rfl ?_
  refine ws_iload_n 3 (dcd d_L_law_31 23 rfl) rfl ?_
  refine ws_iconst (v := 1) (dcd d_L_law_31 24 rfl) (by decide) ?_
  refine ws_iadd (dcd d_L_law_31 25 rfl) ?_
  obtain ⟨e1, h⟩ := h
  refine ws_sld (dcd d_L_law_31 26 rfl) e1 ?_
  refine ws_callVI (o := 2) (As := [.int (gx G ((x3 + 1) : Int32).toNatClampNeg)]) (st := []) (la := [(0, .ref 2), (1, .int (gx G ((x3 + 1) : Int32).toNatClampNeg))]) (dcd d_L_law_31 27 rfl) cv_D_steps k_L_167 ⟨by decide, by decide⟩ ok_2 rfl (Nat.le_of_ble_eq_true rfl) (Nat.le_of_ble_eq_true rfl) rfl rfl h (fun a2 u2 h => ?_)
  refine ws_pop (dcd d_L_law_31 28 rfl) rfl ?_
  refine ws_aload_n 2 (dcd d_L_law_31 29 rfl) rfl ?_
  refine ws_aload_n 0 (dcd d_L_law_32 0 rfl) rfl ?_
  refine ws_iload_n 3 (dcd d_L_law_32 1 rfl) rfl ?_
  refine ws_iconst (v := 1) (dcd d_L_law_32 2 rfl) (by decide) ?_
  refine ws_iadd (dcd d_L_law_32 3 rfl) ?_
  obtain ⟨e3, h⟩ := h
  refine ws_sld (dcd d_L_law_32 4 rfl) e3 ?_
  refine ws_callVI (o := 76) (As := [.int (gx G ((x3 + 1) : Int32).toNatClampNeg)]) (st := []) (la := [(0, .ref 76), (1, .int (gx G ((x3 + 1) : Int32).toNatClampNeg))]) (dcd d_L_law_32 5 rfl) cv_m_steps k_L_170 ⟨by decide, by decide⟩ ok_76 rfl (Nat.le_of_ble_eq_true rfl) (Nat.le_of_ble_eq_true rfl) rfl rfl h (fun a4 u4 h => ?_)
  refine ws_pop (dcd d_L_law_32 6 rfl) rfl ?_
  refine ws_goto (tgt := 1743) (dcd d_L_law_32 7 rfl) (by decide) ?_
  exact ws_loc [0, 1, 2, 3] rfl h
theorem sg_L_law_1430 {x3 : Int32} (h : (vp_in (x3 + 1) (gn G) ∧ Ws G D_kinds 0 [(0, .ref 2), (1, .int (gx G ((x3 + 1) : Int32).toNatClampNeg))] [] u (RI fun a2 u2 => (vp_in (x3 + 1) (gn G) ∧ Ws G m_kinds 0 [(0, .ref 76), (1, .int (gx G ((x3 + 1) : Int32).toNatClampNeg))] [] u2 (RI fun a4 u4 => Ws G L_law 1743 [(0, .ref 0), (1, .ref 2), (2, .ref 76), (3, .int x3)] [] u4 Q))))) : Ws G L_law 1430 [(0, .ref 0), (1, .ref 2), (2, .ref 76), (3, .int x3)] [] u Q := by
  refine ws_aload_n 1 (dcd d_L_law_32 8 rfl) rfl ?_
  refine ws_aload_n 0 (dcd d_L_law_32 9 rfl) rfl ?_
  refine ws_iload_n 3 (dcd d_L_law_32 10 rfl) rfl ?_
  refine ws_iconst (v := 1) (dcd d_L_law_32 11 rfl) (by decide) ?_
  refine ws_iadd (dcd d_L_law_32 12 rfl) ?_
  obtain ⟨e1, h⟩ := h
  refine ws_sld (dcd d_L_law_32 13 rfl) e1 ?_
  refine ws_callVI (o := 2) (As := [.int (gx G ((x3 + 1) : Int32).toNatClampNeg)]) (st := []) (la := [(0, .ref 2), (1, .int (gx G ((x3 + 1) : Int32).toNatClampNeg))]) (dcd d_L_law_32 14 rfl) cv_D_kinds k_L_171 ⟨by decide, by decide⟩ ok_2 rfl (Nat.le_of_ble_eq_true rfl) (Nat.le_of_ble_eq_true rfl) rfl rfl h (fun a2 u2 h => ?_)
  refine ws_pop (dcd d_L_law_32 15 rfl) rfl ?_
  refine ws_aload_n 2 (dcd d_L_law_32 16 rfl) rfl ?_
  refine ws_aload_n 0 (dcd d_L_law_32 17 rfl) rfl ?_
  refine ws_iload_n 3 (dcd d_L_law_32 18 rfl) rfl ?_
  refine ws_iconst (v := 1) (dcd d_L_law_32 19 rfl) (by decide) ?_
  refine ws_iadd (dcd d_L_law_32 20 rfl) ?_
  obtain ⟨e3, h⟩ := h
  refine ws_sld (dcd d_L_law_32 21 rfl) e3 ?_
  refine ws_callVI (o := 76) (As := [.int (gx G ((x3 + 1) : Int32).toNatClampNeg)]) (st := []) (la := [(0, .ref 76), (1, .int (gx G ((x3 + 1) : Int32).toNatClampNeg))]) (dcd d_L_law_32 22 rfl) cv_m_kinds k_L_174 ⟨by decide, by decide⟩ ok_76 rfl (Nat.le_of_ble_eq_true rfl) (Nat.le_of_ble_eq_true rfl) rfl rfl h (fun a4 u4 h => ?_)
  refine ws_pop (dcd d_L_law_32 23 rfl) rfl ?_
  refine ws_goto (tgt := 1743) (dcd d_L_law_32 24 rfl) (by decide) ?_
  exact ws_loc [0, 1, 2, 3] rfl h
theorem sg_L_law_1453 {x3 : Int32} (h : (vp_in (x3 + 1) (gn G) ∧ (vp_in (x3 + 2) (gn G) ∧ (vp_in (x3 + 3) (gn G) ∧ Ws G D_rent 0 [(0, .ref 2), (1, .int (gx G ((x3 + 1) : Int32).toNatClampNeg)), (2, .int (gx G ((x3 + 2) : Int32).toNatClampNeg)), (3, .int (gx G ((x3 + 3) : Int32).toNatClampNeg))] [] u (RI fun a4 u4 => (vp_in (x3 + 1) (gn G) ∧ (vp_in (x3 + 2) (gn G) ∧ (vp_in (x3 + 3) (gn G) ∧ Ws G m_rent 0 [(0, .ref 76), (1, .int (gx G ((x3 + 1) : Int32).toNatClampNeg)), (2, .int (gx G ((x3 + 2) : Int32).toNatClampNeg)), (3, .int (gx G ((x3 + 3) : Int32).toNatClampNeg))] [] u4 (RI fun a8 u8 => Ws G L_law 1743 [(0, .ref 0), (1, .ref 2), (2, .ref 76), (3, .int x3)] [] u8 Q))))))))) : Ws G L_law 1453 [(0, .ref 0), (1, .ref 2), (2, .ref 76), (3, .int x3)] [] u Q := by
  refine ws_aload_n 1 (dcd d_L_law_32 25 rfl) rfl ?_
  refine ws_aload_n 0 (dcd d_L_law_32 26 rfl) rfl ?_
  refine ws_iload_n 3 (dcd d_L_law_32 27 rfl) rfl ?_
  refine ws_iconst (v := 1) (dcd d_L_law_32 28 rfl) (by decide) ?_
  refine ws_iadd (dcd d_L_law_32 29 rfl) ?_
  obtain ⟨e1, h⟩ := h
  refine ws_sld (dcd d_L_law_33 0 rfl) e1 ?_
  refine ws_aload_n 0 (dcd d_L_law_33 1 rfl) rfl ?_
  refine ws_iload_n 3 (dcd d_L_law_33 2 rfl) rfl ?_
  refine ws_iconst (v := 2) (dcd d_L_law_33 3 rfl) (by decide) ?_
  refine ws_iadd (dcd d_L_law_33 4 rfl) ?_
  obtain ⟨e2, h⟩ := h
  refine ws_sld (dcd d_L_law_33 5 rfl) e2 ?_
  refine ws_aload_n 0 (dcd d_L_law_33 6 rfl) rfl ?_
  refine ws_iload_n 3 (dcd d_L_law_33 7 rfl) rfl ?_
  refine ws_iconst (v := 3) (dcd d_L_law_33 8 rfl) (by decide) ?_
  refine ws_iadd (dcd d_L_law_33 9 rfl) ?_
  obtain ⟨e3, h⟩ := h
  refine ws_sld (dcd d_L_law_33 10 rfl) e3 ?_
  refine ws_callVI (o := 2) (As := [.int (gx G ((x3 + 1) : Int32).toNatClampNeg), .int (gx G ((x3 + 2) : Int32).toNatClampNeg), .int (gx G ((x3 + 3) : Int32).toNatClampNeg)]) (st := []) (la := [(0, .ref 2), (1, .int (gx G ((x3 + 1) : Int32).toNatClampNeg)), (2, .int (gx G ((x3 + 2) : Int32).toNatClampNeg)), (3, .int (gx G ((x3 + 3) : Int32).toNatClampNeg))]) (dcd d_L_law_33 11 rfl) cv_D_rent k_L_175 ⟨by decide, by decide⟩ ok_2 rfl (Nat.le_of_ble_eq_true rfl) (Nat.le_of_ble_eq_true rfl) rfl rfl h (fun a4 u4 h => ?_)
  refine ws_pop (dcd d_L_law_33 12 rfl) rfl ?_
  refine ws_aload_n 2 (dcd d_L_law_33 13 rfl) rfl ?_
  refine ws_aload_n 0 (dcd d_L_law_33 14 rfl) rfl ?_
  refine ws_iload_n 3 (dcd d_L_law_33 15 rfl) rfl ?_
  refine ws_iconst (v := 1) (dcd d_L_law_33 16 rfl) (by decide) ?_
  refine ws_iadd (dcd d_L_law_33 17 rfl) ?_
  obtain ⟨e5, h⟩ := h
  refine ws_sld (dcd d_L_law_33 18 rfl) e5 ?_
  refine ws_aload_n 0 (dcd d_L_law_33 19 rfl) rfl ?_
  refine ws_iload_n 3 (dcd d_L_law_33 20 rfl) rfl ?_
  refine ws_iconst (v := 2) (dcd d_L_law_33 21 rfl) (by decide) ?_
  refine ws_iadd (dcd d_L_law_33 22 rfl) ?_
  obtain ⟨e6, h⟩ := h
  refine ws_sld (dcd d_L_law_33 23 rfl) e6 ?_
  refine ws_aload_n 0 (dcd d_L_law_33 24 rfl) rfl ?_
  refine ws_iload_n 3 (dcd d_L_law_33 25 rfl) rfl ?_
  refine ws_iconst (v := 3) (dcd d_L_law_33 26 rfl) (by decide) ?_
  refine ws_iadd (dcd d_L_law_33 27 rfl) ?_
  obtain ⟨e7, h⟩ := h
  refine ws_sld (dcd d_L_law_33 28 rfl) e7 ?_
  refine ws_callVI (o := 76) (As := [.int (gx G ((x3 + 1) : Int32).toNatClampNeg), .int (gx G ((x3 + 2) : Int32).toNatClampNeg), .int (gx G ((x3 + 3) : Int32).toNatClampNeg)]) (st := []) (la := [(0, .ref 76), (1, .int (gx G ((x3 + 1) : Int32).toNatClampNeg)), (2, .int (gx G ((x3 + 2) : Int32).toNatClampNeg)), (3, .int (gx G ((x3 + 3) : Int32).toNatClampNeg))]) (dcd d_L_law_33 29 rfl) cv_m_rent k_L_178 ⟨by decide, by decide⟩ ok_76 rfl (Nat.le_of_ble_eq_true rfl) (Nat.le_of_ble_eq_true rfl) rfl rfl h (fun a8 u8 h => ?_)
  refine ws_pop (dcd d_L_law_34 0 rfl) rfl ?_
  refine ws_goto (tgt := 1743) (dcd d_L_law_34 1 rfl) (by decide) ?_
  exact ws_loc [0, 1, 2, 3] rfl h
theorem sg_L_law_1496 {x3 : Int32} (h : (vp_in (x3 + 1) (gn G) ∧ (vp_in (x3 + 2) (gn G) ∧ Ws G D_dearest 0 [(0, .ref 2), (1, .int (gx G ((x3 + 1) : Int32).toNatClampNeg)), (2, .int (gx G ((x3 + 2) : Int32).toNatClampNeg))] [] u (RI fun a3 u3 => (vp_in (x3 + 1) (gn G) ∧ (vp_in (x3 + 2) (gn G) ∧ Ws G m_dearest 0 [(0, .ref 76), (1, .int (gx G ((x3 + 1) : Int32).toNatClampNeg)), (2, .int (gx G ((x3 + 2) : Int32).toNatClampNeg))] [] u3 (RI fun a6 u6 => Ws G L_law 1743 [(0, .ref 0), (1, .ref 2), (2, .ref 76), (3, .int x3)] [] u6 Q))))))) : Ws G L_law 1496 [(0, .ref 0), (1, .ref 2), (2, .ref 76), (3, .int x3)] [] u Q := by
  refine ws_aload_n 1 (dcd d_L_law_34 2 rfl) rfl ?_
  refine ws_aload_n 0 (dcd d_L_law_34 3 rfl) rfl ?_
  refine ws_iload_n 3 (dcd d_L_law_34 4 rfl) rfl ?_
  refine ws_iconst (v := 1) (dcd d_L_law_34 5 rfl) (by decide) ?_
  refine ws_iadd (dcd d_L_law_34 6 rfl) ?_
  obtain ⟨e1, h⟩ := h
  refine ws_sld (dcd d_L_law_34 7 rfl) e1 ?_
  refine ws_aload_n 0 (dcd d_L_law_34 8 rfl) rfl ?_
  refine ws_iload_n 3 (dcd d_L_law_34 9 rfl) rfl ?_
  refine ws_iconst (v := 2) (dcd d_L_law_34 10 rfl) (by decide) ?_
  refine ws_iadd (dcd d_L_law_34 11 rfl) ?_
  obtain ⟨e2, h⟩ := h
  refine ws_sld (dcd d_L_law_34 12 rfl) e2 ?_
  refine ws_callVI (o := 2) (As := [.int (gx G ((x3 + 1) : Int32).toNatClampNeg), .int (gx G ((x3 + 2) : Int32).toNatClampNeg)]) (st := []) (la := [(0, .ref 2), (1, .int (gx G ((x3 + 1) : Int32).toNatClampNeg)), (2, .int (gx G ((x3 + 2) : Int32).toNatClampNeg))]) (dcd d_L_law_34 13 rfl) cv_D_dearest k_L_179 ⟨by decide, by decide⟩ ok_2 rfl (Nat.le_of_ble_eq_true rfl) (Nat.le_of_ble_eq_true rfl) rfl rfl h (fun a3 u3 h => ?_)
  refine ws_pop (dcd d_L_law_34 14 rfl) rfl ?_
  refine ws_aload_n 2 (dcd d_L_law_34 15 rfl) rfl ?_
  refine ws_aload_n 0 (dcd d_L_law_34 16 rfl) rfl ?_
  refine ws_iload_n 3 (dcd d_L_law_34 17 rfl) rfl ?_
  refine ws_iconst (v := 1) (dcd d_L_law_34 18 rfl) (by decide) ?_
  refine ws_iadd (dcd d_L_law_34 19 rfl) ?_
  obtain ⟨e4, h⟩ := h
  refine ws_sld (dcd d_L_law_34 20 rfl) e4 ?_
  refine ws_aload_n 0 (dcd d_L_law_34 21 rfl) rfl ?_
  refine ws_iload_n 3 (dcd d_L_law_34 22 rfl) rfl ?_
  refine ws_iconst (v := 2) (dcd d_L_law_34 23 rfl) (by decide) ?_
  refine ws_iadd (dcd d_L_law_34 24 rfl) ?_
  obtain ⟨e5, h⟩ := h
  refine ws_sld (dcd d_L_law_34 25 rfl) e5 ?_
  refine ws_callVI (o := 76) (As := [.int (gx G ((x3 + 1) : Int32).toNatClampNeg), .int (gx G ((x3 + 2) : Int32).toNatClampNeg)]) (st := []) (la := [(0, .ref 76), (1, .int (gx G ((x3 + 1) : Int32).toNatClampNeg)), (2, .int (gx G ((x3 + 2) : Int32).toNatClampNeg))]) (dcd d_L_law_34 26 rfl) cv_m_dearest k_L_182 ⟨by decide, by decide⟩ ok_76 rfl (Nat.le_of_ble_eq_true rfl) (Nat.le_of_ble_eq_true rfl) rfl rfl h (fun a6 u6 h => ?_)
  refine ws_pop (dcd d_L_law_34 27 rfl) rfl ?_
  refine ws_goto (tgt := 1743) (dcd d_L_law_34 28 rfl) (by decide) ?_
  exact ws_loc [0, 1, 2, 3] rfl h
theorem sg_L_law_1529 {x3 : Int32} (h : (vp_in (x3 + 1) (gn G) ∧ (vp_in (x3 + 2) (gn G) ∧ Ws G D_mends 0 [(0, .ref 2), (1, .int (gx G ((x3 + 1) : Int32).toNatClampNeg)), (2, .int (gx G ((x3 + 2) : Int32).toNatClampNeg))] [] u (RI fun a3 u3 => (vp_in (x3 + 1) (gn G) ∧ (vp_in (x3 + 2) (gn G) ∧ Ws G m_mends 0 [(0, .ref 76), (1, .int (gx G ((x3 + 1) : Int32).toNatClampNeg)), (2, .int (gx G ((x3 + 2) : Int32).toNatClampNeg))] [] u3 (RI fun a6 u6 => Ws G L_law 1743 [(0, .ref 0), (1, .ref 2), (2, .ref 76), (3, .int x3)] [] u6 Q))))))) : Ws G L_law 1529 [(0, .ref 0), (1, .ref 2), (2, .ref 76), (3, .int x3)] [] u Q := by
  refine ws_aload_n 1 (dcd d_L_law_34 29 rfl) rfl ?_
  refine ws_aload_n 0 (dcd d_L_law_35 0 rfl) rfl ?_
  refine ws_iload_n 3 (dcd d_L_law_35 1 rfl) rfl ?_
  refine ws_iconst (v := 1) (dcd d_L_law_35 2 rfl) (by decide) ?_
  refine ws_iadd (dcd d_L_law_35 3 rfl) ?_
  obtain ⟨e1, h⟩ := h
  refine ws_sld (dcd d_L_law_35 4 rfl) e1 ?_
  refine ws_aload_n 0 (dcd d_L_law_35 5 rfl) rfl ?_
  refine ws_iload_n 3 (dcd d_L_law_35 6 rfl) rfl ?_
  refine ws_iconst (v := 2) (dcd d_L_law_35 7 rfl) (by decide) ?_
  refine ws_iadd (dcd d_L_law_35 8 rfl) ?_
  obtain ⟨e2, h⟩ := h
  refine ws_sld (dcd d_L_law_35 9 rfl) e2 ?_
  refine ws_callVI (o := 2) (As := [.int (gx G ((x3 + 1) : Int32).toNatClampNeg), .int (gx G ((x3 + 2) : Int32).toNatClampNeg)]) (st := []) (la := [(0, .ref 2), (1, .int (gx G ((x3 + 1) : Int32).toNatClampNeg)), (2, .int (gx G ((x3 + 2) : Int32).toNatClampNeg))]) (dcd d_L_law_35 10 rfl) cv_D_mends k_L_183 ⟨by decide, by decide⟩ ok_2 rfl (Nat.le_of_ble_eq_true rfl) (Nat.le_of_ble_eq_true rfl) rfl rfl h (fun a3 u3 h => ?_)
  refine ws_pop (dcd d_L_law_35 11 rfl) rfl ?_
  refine ws_aload_n 2 (dcd d_L_law_35 12 rfl) rfl ?_
  refine ws_aload_n 0 (dcd d_L_law_35 13 rfl) rfl ?_
  refine ws_iload_n 3 (dcd d_L_law_35 14 rfl) rfl ?_
  refine ws_iconst (v := 1) (dcd d_L_law_35 15 rfl) (by decide) ?_
  refine ws_iadd (dcd d_L_law_35 16 rfl) ?_
  obtain ⟨e4, h⟩ := h
  refine ws_sld (dcd d_L_law_35 17 rfl) e4 ?_
  refine ws_aload_n 0 (dcd d_L_law_35 18 rfl) rfl ?_
  refine ws_iload_n 3 (dcd d_L_law_35 19 rfl) rfl ?_
  refine ws_iconst (v := 2) (dcd d_L_law_35 20 rfl) (by decide) ?_
  refine ws_iadd (dcd d_L_law_35 21 rfl) ?_
  obtain ⟨e5, h⟩ := h
  refine ws_sld (dcd d_L_law_35 22 rfl) e5 ?_
  refine ws_callVI (o := 76) (As := [.int (gx G ((x3 + 1) : Int32).toNatClampNeg), .int (gx G ((x3 + 2) : Int32).toNatClampNeg)]) (st := []) (la := [(0, .ref 76), (1, .int (gx G ((x3 + 1) : Int32).toNatClampNeg)), (2, .int (gx G ((x3 + 2) : Int32).toNatClampNeg))]) (dcd d_L_law_35 23 rfl) cv_m_mends k_L_186 ⟨by decide, by decide⟩ ok_76 rfl (Nat.le_of_ble_eq_true rfl) (Nat.le_of_ble_eq_true rfl) rfl rfl h (fun a6 u6 h => ?_)
  refine ws_pop (dcd d_L_law_35 24 rfl) rfl ?_
  refine ws_goto (tgt := 1743) (dcd d_L_law_35 25 rfl) (by decide) ?_
  exact ws_loc [0, 1, 2, 3] rfl h
theorem sg_L_law_1562 {x3 : Int32} (h : (vp_in (x3 + 1) (gn G) ∧ Ws G D_worst 0 [(0, .ref 2), (1, .int (gx G ((x3 + 1) : Int32).toNatClampNeg))] [] u (RI fun a2 u2 => (vp_in (x3 + 1) (gn G) ∧ Ws G m_worst 0 [(0, .ref 76), (1, .int (gx G ((x3 + 1) : Int32).toNatClampNeg))] [] u2 (RI fun a4 u4 => Ws G L_law 1743 [(0, .ref 0), (1, .ref 2), (2, .ref 76), (3, .int x3)] [] u4 Q))))) : Ws G L_law 1562 [(0, .ref 0), (1, .ref 2), (2, .ref 76), (3, .int x3)] [] u Q := by
  refine ws_aload_n 1 (dcd d_L_law_35 26 rfl) rfl ?_
  refine ws_aload_n 0 (dcd d_L_law_35 27 rfl) rfl ?_
  refine ws_iload_n 3 (dcd d_L_law_35 28 rfl) rfl ?_
  refine ws_iconst (v := 1) (dcd d_L_law_35 29 rfl) (by decide) ?_
  refine ws_iadd (dcd d_L_law_36 0 rfl) ?_
  obtain ⟨e1, h⟩ := h
  refine ws_sld (dcd d_L_law_36 1 rfl) e1 ?_
  refine ws_callVI (o := 2) (As := [.int (gx G ((x3 + 1) : Int32).toNatClampNeg)]) (st := []) (la := [(0, .ref 2), (1, .int (gx G ((x3 + 1) : Int32).toNatClampNeg))]) (dcd d_L_law_36 2 rfl) cv_D_worst k_L_187 ⟨by decide, by decide⟩ ok_2 rfl (Nat.le_of_ble_eq_true rfl) (Nat.le_of_ble_eq_true rfl) rfl rfl h (fun a2 u2 h => ?_)
  refine ws_pop (dcd d_L_law_36 3 rfl) rfl ?_
  refine ws_aload_n 2 (dcd d_L_law_36 4 rfl) rfl ?_
  refine ws_aload_n 0 (dcd d_L_law_36 5 rfl) rfl ?_
  refine ws_iload_n 3 (dcd d_L_law_36 6 rfl) rfl ?_
  refine ws_iconst (v := 1) (dcd d_L_law_36 7 rfl) (by decide) ?_
  refine ws_iadd (dcd d_L_law_36 8 rfl) ?_
  obtain ⟨e3, h⟩ := h
  refine ws_sld (dcd d_L_law_36 9 rfl) e3 ?_
  refine ws_callVI (o := 76) (As := [.int (gx G ((x3 + 1) : Int32).toNatClampNeg)]) (st := []) (la := [(0, .ref 76), (1, .int (gx G ((x3 + 1) : Int32).toNatClampNeg))]) (dcd d_L_law_36 10 rfl) cv_m_worst k_L_190 ⟨by decide, by decide⟩ ok_76 rfl (Nat.le_of_ble_eq_true rfl) (Nat.le_of_ble_eq_true rfl) rfl rfl h (fun a4 u4 h => ?_)
  refine ws_pop (dcd d_L_law_36 11 rfl) rfl ?_
  refine ws_goto (tgt := 1743) (dcd d_L_law_36 12 rfl) (by decide) ?_
  exact ws_loc [0, 1, 2, 3] rfl h
theorem sg_L_law_1585 {x3 : Int32} (h : (vp_in (x3 + 1) (gn G) ∧ Ws G D_image 0 [(0, .ref 2), (1, .int (gx G ((x3 + 1) : Int32).toNatClampNeg))] [] u (RI fun a2 u2 => (vp_in (x3 + 1) (gn G) ∧ Ws G m_image 0 [(0, .ref 76), (1, .int (gx G ((x3 + 1) : Int32).toNatClampNeg))] [] u2 (RI fun a4 u4 => Ws G L_law 1743 [(0, .ref 0), (1, .ref 2), (2, .ref 76), (3, .int x3)] [] u4 Q))))) : Ws G L_law 1585 [(0, .ref 0), (1, .ref 2), (2, .ref 76), (3, .int x3)] [] u Q := by
  refine ws_aload_n 1 (dcd d_L_law_36 13 rfl) rfl ?_
  refine ws_aload_n 0 (dcd d_L_law_36 14 rfl) rfl ?_
  refine ws_iload_n 3 (dcd d_L_law_36 15 rfl) rfl ?_
  refine ws_iconst (v := 1) (dcd d_L_law_36 16 rfl) (by decide) ?_
  refine ws_iadd (dcd d_L_law_36 17 rfl) ?_
  obtain ⟨e1, h⟩ := h
  refine ws_sld (dcd d_L_law_36 18 rfl) e1 ?_
  refine ws_callVI (o := 2) (As := [.int (gx G ((x3 + 1) : Int32).toNatClampNeg)]) (st := []) (la := [(0, .ref 2), (1, .int (gx G ((x3 + 1) : Int32).toNatClampNeg))]) (dcd d_L_law_36 19 rfl) cv_D_image k_L_191 ⟨by decide, by decide⟩ ok_2 rfl (Nat.le_of_ble_eq_true rfl) (Nat.le_of_ble_eq_true rfl) rfl rfl h (fun a2 u2 h => ?_)
  refine ws_pop (dcd d_L_law_36 20 rfl) rfl ?_
  refine ws_aload_n 2 (dcd d_L_law_36 21 rfl) rfl ?_
  refine ws_aload_n 0 (dcd d_L_law_36 22 rfl) rfl ?_
  refine ws_iload_n 3 (dcd d_L_law_36 23 rfl) rfl ?_
  refine ws_iconst (v := 1) (dcd d_L_law_36 24 rfl) (by decide) ?_
  refine ws_iadd (dcd d_L_law_36 25 rfl) ?_
  obtain ⟨e3, h⟩ := h
  refine ws_sld (dcd d_L_law_36 26 rfl) e3 ?_
  refine ws_callVI (o := 76) (As := [.int (gx G ((x3 + 1) : Int32).toNatClampNeg)]) (st := []) (la := [(0, .ref 76), (1, .int (gx G ((x3 + 1) : Int32).toNatClampNeg))]) (dcd d_L_law_36 27 rfl) cv_m_image k_L_194 ⟨by decide, by decide⟩ ok_76 rfl (Nat.le_of_ble_eq_true rfl) (Nat.le_of_ble_eq_true rfl) rfl rfl h (fun a4 u4 h => ?_)
  refine ws_pop (dcd d_L_law_36 28 rfl) rfl ?_
  refine ws_goto (tgt := 1743) (dcd d_L_law_36 29 rfl) (by decide) ?_
  exact ws_loc [0, 1, 2, 3] rfl h
theorem sg_L_law_1608 {x3 : Int32} (h : (vp_in (x3 + 1) (gn G) ∧ Ws G D_gone 0 [(0, .ref 2), (1, .int (gx G ((x3 + 1) : Int32).toNatClampNeg))] [] u (RI fun a2 u2 => (vp_in (x3 + 1) (gn G) ∧ Ws G m_gone 0 [(0, .ref 76), (1, .int (gx G ((x3 + 1) : Int32).toNatClampNeg))] [] u2 (RI fun a4 u4 => Ws G L_law 1743 [(0, .ref 0), (1, .ref 2), (2, .ref 76), (3, .int x3)] [] u4 Q))))) : Ws G L_law 1608 [(0, .ref 0), (1, .ref 2), (2, .ref 76), (3, .int x3)] [] u Q := by
  refine ws_aload_n 1 (dcd d_L_law_37 0 rfl) rfl ?_
  refine ws_aload_n 0 (dcd d_L_law_37 1 rfl) rfl ?_
  refine ws_iload_n 3 (dcd d_L_law_37 2 rfl) rfl ?_
  refine ws_iconst (v := 1) (dcd d_L_law_37 3 rfl) (by decide) ?_
  refine ws_iadd (dcd d_L_law_37 4 rfl) ?_
  obtain ⟨e1, h⟩ := h
  refine ws_sld (dcd d_L_law_37 5 rfl) e1 ?_
  refine ws_callVI (o := 2) (As := [.int (gx G ((x3 + 1) : Int32).toNatClampNeg)]) (st := []) (la := [(0, .ref 2), (1, .int (gx G ((x3 + 1) : Int32).toNatClampNeg))]) (dcd d_L_law_37 6 rfl) cv_D_gone k_L_195 ⟨by decide, by decide⟩ ok_2 rfl (Nat.le_of_ble_eq_true rfl) (Nat.le_of_ble_eq_true rfl) rfl rfl h (fun a2 u2 h => ?_)
  refine ws_pop (dcd d_L_law_37 7 rfl) rfl ?_
  refine ws_aload_n 2 (dcd d_L_law_37 8 rfl) rfl ?_
  refine ws_aload_n 0 (dcd d_L_law_37 9 rfl) rfl ?_
  refine ws_iload_n 3 (dcd d_L_law_37 10 rfl) rfl ?_
  refine ws_iconst (v := 1) (dcd d_L_law_37 11 rfl) (by decide) ?_
  refine ws_iadd (dcd d_L_law_37 12 rfl) ?_
  obtain ⟨e3, h⟩ := h
  refine ws_sld (dcd d_L_law_37 13 rfl) e3 ?_
  refine ws_callVI (o := 76) (As := [.int (gx G ((x3 + 1) : Int32).toNatClampNeg)]) (st := []) (la := [(0, .ref 76), (1, .int (gx G ((x3 + 1) : Int32).toNatClampNeg))]) (dcd d_L_law_37 14 rfl) cv_m_gone k_L_198 ⟨by decide, by decide⟩ ok_76 rfl (Nat.le_of_ble_eq_true rfl) (Nat.le_of_ble_eq_true rfl) rfl rfl h (fun a4 u4 h => ?_)
  refine ws_pop (dcd d_L_law_37 15 rfl) rfl ?_
  refine ws_goto (tgt := 1743) (dcd d_L_law_37 16 rfl) (by decide) ?_
  exact ws_loc [0, 1, 2, 3] rfl h
theorem sg_L_law_1631 {x3 : Int32} (h : Ws G D_asked 0 [(0, .ref 2)] [] u (RI fun a1 u1 => Ws G m_asked 0 [(0, .ref 76)] [] u1 (RI fun a2 u2 => Ws G L_law 1743 [(0, .ref 0), (1, .ref 2), (2, .ref 76), (3, .int x3)] [] u2 Q))) : Ws G L_law 1631 [(0, .ref 0), (1, .ref 2), (2, .ref 76), (3, .int x3)] [] u Q := by
  refine ws_aload_n 1 (dcd d_L_law_37 17 rfl) rfl ?_
  refine ws_callVI (o := 2) (As := []) (st := []) (la := [(0, .ref 2)]) (dcd d_L_law_37 18 rfl) cv_D_asked k_L_199 ⟨by decide, by decide⟩ ok_2 rfl (Nat.le_of_ble_eq_true rfl) (Nat.le_of_ble_eq_true rfl) rfl rfl h (fun a1 u1 h => ?_)
  refine ws_pop (dcd d_L_law_37 19 rfl) rfl ?_
  refine ws_aload_n 2 (dcd d_L_law_37 20 rfl) rfl ?_
  refine ws_callVI (o := 76) (As := []) (st := []) (la := [(0, .ref 76)]) (dcd d_L_law_37 21 rfl) cv_m_asked k_L_202 ⟨by decide, by decide⟩ ok_76 rfl (Nat.le_of_ble_eq_true rfl) (Nat.le_of_ble_eq_true rfl) rfl rfl h (fun a2 u2 h => ?_)
  refine ws_pop (dcd d_L_law_37 22 rfl) rfl ?_
  refine ws_goto (tgt := 1743) (dcd d_L_law_37 23 rfl) (by decide) ?_
  exact ws_loc [0, 1, 2, 3] rfl h
theorem sg_L_law_1644 {x3 : Int32} (h : Ws G D_upper 0 [(0, .ref 2)] [] u (RJ fun a1 u1 => Ws G m_upper 0 [(0, .ref 76)] [] u1 (RJ fun a2 u2 => Ws G L_law 1743 [(0, .ref 0), (1, .ref 2), (2, .ref 76), (3, .int x3)] [] u2 Q))) : Ws G L_law 1644 [(0, .ref 0), (1, .ref 2), (2, .ref 76), (3, .int x3)] [] u Q := by
  refine ws_aload_n 1 (dcd d_L_law_37 24 rfl) rfl ?_
  refine ws_callVJ (o := 2) (As := []) (st := []) (la := [(0, .ref 2)]) (dcd d_L_law_37 25 rfl) cv_D_upper k_L_203 ⟨by decide, by decide⟩ ok_2 rfl (Nat.le_of_ble_eq_true rfl) (Nat.le_of_ble_eq_true rfl) rfl rfl h (fun a1 u1 h => ?_)
  refine ws_pop2 (dcd d_L_law_37 26 rfl) rfl ?_
  refine ws_aload_n 2 (dcd d_L_law_37 27 rfl) rfl ?_
  refine ws_callVJ (o := 76) (As := []) (st := []) (la := [(0, .ref 76)]) (dcd d_L_law_37 28 rfl) cv_m_upper k_L_207 ⟨by decide, by decide⟩ ok_76 rfl (Nat.le_of_ble_eq_true rfl) (Nat.le_of_ble_eq_true rfl) rfl rfl h (fun a2 u2 h => ?_)
  refine ws_pop2 (dcd d_L_law_37 29 rfl) rfl ?_
  refine ws_goto (tgt := 1743) (dcd d_L_law_38 0 rfl) (by decide) ?_
  exact ws_loc [0, 1, 2, 3] rfl h
theorem sg_L_law_1657 {x3 : Int32} (h : Ws G D_lower 0 [(0, .ref 2)] [] u (RJ fun a1 u1 => Ws G m_lower 0 [(0, .ref 76)] [] u1 (RJ fun a2 u2 => (((lg_cmp a1 a2) = 0 → Ws G L_law 1743 [(0, .ref 0), (1, .ref 2), (2, .ref 76), (3, .int x3)] [] u2 Q) ∧ (¬ (lg_cmp a1 a2) = 0 → Q (some (.int 0)) u2))))) : Ws G L_law 1657 [(0, .ref 0), (1, .ref 2), (2, .ref 76), (3, .int x3)] [] u Q := by
  refine ws_aload_n 1 (dcd d_L_law_38 1 rfl) rfl ?_
  refine ws_callVJ (o := 2) (As := []) (st := []) (la := [(0, .ref 2)]) (dcd d_L_law_38 2 rfl) cv_D_lower k_L_208 ⟨by decide, by decide⟩ ok_2 rfl (Nat.le_of_ble_eq_true rfl) (Nat.le_of_ble_eq_true rfl) rfl rfl h (fun a1 u1 h => ?_)
  refine ws_aload_n 2 (dcd d_L_law_38 3 rfl) rfl ?_
  refine ws_callVJ (o := 76) (As := []) (st := [.long a1]) (la := [(0, .ref 76)]) (dcd d_L_law_38 4 rfl) cv_m_lower k_L_211 ⟨by decide, by decide⟩ ok_76 rfl (Nat.le_of_ble_eq_true rfl) (Nat.le_of_ble_eq_true rfl) rfl rfl h (fun a2 u2 h => ?_)
  refine ws_lcmp (dcd d_L_law_38 5 rfl) ?_
  refine ws_if_eq (tgt := 1743) (dcd d_L_law_38 6 rfl) (by decide) (fun c3 => ?_) (fun c3 => ?_)
  · have h := h.1 c3
    exact ws_loc [0, 1, 2, 3] rfl h
  · have h := h.2 c3
    refine ws_iconst (v := 0) (dcd d_L_law_38 7 rfl) (by decide) ?_
    exact ws_iret (dcd d_L_law_38 8 rfl) ⟨_, rfl, by decide⟩ h
theorem sg_L_law_1671 {x3 : Int32} (h : (vp_in (x3 + 1) (gn G) ∧ Ws G D_count 0 [(0, .ref 2), (1, .int (gx G ((x3 + 1) : Int32).toNatClampNeg))] [] u (RI fun a2 u2 => (vp_in (x3 + 1) (gn G) ∧ Ws G m_count 0 [(0, .ref 76), (1, .int (gx G ((x3 + 1) : Int32).toNatClampNeg))] [] u2 (RI fun a4 u4 => Ws G L_law 1743 [(0, .ref 0), (1, .ref 2), (2, .ref 76), (3, .int x3)] [] u4 Q))))) : Ws G L_law 1671 [(0, .ref 0), (1, .ref 2), (2, .ref 76), (3, .int x3)] [] u Q := by
  refine ws_aload_n 1 (dcd d_L_law_38 9 rfl) rfl ?_
  refine ws_aload_n 0 (dcd d_L_law_38 10 rfl) rfl ?_
  refine ws_iload_n 3 (dcd d_L_law_38 11 rfl) rfl ?_
  refine ws_iconst (v := 1) (dcd d_L_law_38 12 rfl) (by decide) ?_
  refine ws_iadd (dcd d_L_law_38 13 rfl) ?_
  obtain ⟨e1, h⟩ := h
  refine ws_sld (dcd d_L_law_38 14 rfl) e1 ?_
  refine ws_callVI (o := 2) (As := [.int (gx G ((x3 + 1) : Int32).toNatClampNeg)]) (st := []) (la := [(0, .ref 2), (1, .int (gx G ((x3 + 1) : Int32).toNatClampNeg))]) (dcd d_L_law_38 15 rfl) cv_D_count k_L_212 ⟨by decide, by decide⟩ ok_2 rfl (Nat.le_of_ble_eq_true rfl) (Nat.le_of_ble_eq_true rfl) rfl rfl h (fun a2 u2 h => ?_)
  refine ws_pop (dcd d_L_law_38 16 rfl) rfl ?_
  refine ws_aload_n 2 (dcd d_L_law_38 17 rfl) rfl ?_
  refine ws_aload_n 0 (dcd d_L_law_38 18 rfl) rfl ?_
  refine ws_iload_n 3 (dcd d_L_law_38 19 rfl) rfl ?_
  refine ws_iconst (v := 1) (dcd d_L_law_38 20 rfl) (by decide) ?_
  refine ws_iadd (dcd d_L_law_38 21 rfl) ?_
  obtain ⟨e3, h⟩ := h
  refine ws_sld (dcd d_L_law_38 22 rfl) e3 ?_
  refine ws_callVI (o := 76) (As := [.int (gx G ((x3 + 1) : Int32).toNatClampNeg)]) (st := []) (la := [(0, .ref 76), (1, .int (gx G ((x3 + 1) : Int32).toNatClampNeg))]) (dcd d_L_law_38 23 rfl) cv_m_count k_L_215 ⟨by decide, by decide⟩ ok_76 rfl (Nat.le_of_ble_eq_true rfl) (Nat.le_of_ble_eq_true rfl) rfl rfl h (fun a4 u4 h => ?_)
  refine ws_pop (dcd d_L_law_38 24 rfl) rfl ?_
  refine ws_goto (tgt := 1743) (dcd d_L_law_38 25 rfl) (by decide) ?_
  exact ws_loc [0, 1, 2, 3] rfl h
theorem sg_L_law_1694 {x3 : Int32} (h : Ws G D_finding 0 [(0, .ref 2)] [] u (RI fun a1 u1 => Ws G m_finding 0 [(0, .ref 76)] [] u1 (RI fun a2 u2 => Ws G L_law 1743 [(0, .ref 0), (1, .ref 2), (2, .ref 76), (3, .int x3)] [] u2 Q))) : Ws G L_law 1694 [(0, .ref 0), (1, .ref 2), (2, .ref 76), (3, .int x3)] [] u Q := by
  refine ws_aload_n 1 (dcd d_L_law_38 26 rfl) rfl ?_
  refine ws_callVI (o := 2) (As := []) (st := []) (la := [(0, .ref 2)]) (dcd d_L_law_38 27 rfl) cv_D_finding k_L_216 ⟨by decide, by decide⟩ ok_2 rfl (Nat.le_of_ble_eq_true rfl) (Nat.le_of_ble_eq_true rfl) rfl rfl h (fun a1 u1 h => ?_)
  refine ws_pop (dcd d_L_law_38 28 rfl) rfl ?_
  refine ws_aload_n 2 (dcd d_L_law_38 29 rfl) rfl ?_
  refine ws_callVI (o := 76) (As := []) (st := []) (la := [(0, .ref 76)]) (dcd d_L_law_39 0 rfl) cv_m_finding k_L_219 ⟨by decide, by decide⟩ ok_76 rfl (Nat.le_of_ble_eq_true rfl) (Nat.le_of_ble_eq_true rfl) rfl rfl h (fun a2 u2 h => ?_)
  refine ws_pop (dcd d_L_law_39 1 rfl) rfl ?_
  refine ws_goto (tgt := 1743) (dcd d_L_law_39 2 rfl) (by decide) ?_
  exact ws_loc [0, 1, 2, 3] rfl h
theorem sg_L_law_1707 {x3 : Int32} (h : (vp_in (x3 + 1) (gn G) ∧ Ws G D_findings 0 [(0, .ref 2), (1, .int (gx G ((x3 + 1) : Int32).toNatClampNeg))] [] u (RI fun a2 u2 => (vp_in (x3 + 1) (gn G) ∧ Ws G m_findings 0 [(0, .ref 76), (1, .int (gx G ((x3 + 1) : Int32).toNatClampNeg))] [] u2 (RI fun a4 u4 => Ws G L_law 1743 [(0, .ref 0), (1, .ref 2), (2, .ref 76), (3, .int x3)] [] u4 Q))))) : Ws G L_law 1707 [(0, .ref 0), (1, .ref 2), (2, .ref 76), (3, .int x3)] [] u Q := by
  refine ws_aload_n 1 (dcd d_L_law_39 3 rfl) rfl ?_
  refine ws_aload_n 0 (dcd d_L_law_39 4 rfl) rfl ?_
  refine ws_iload_n 3 (dcd d_L_law_39 5 rfl) rfl ?_
  refine ws_iconst (v := 1) (dcd d_L_law_39 6 rfl) (by decide) ?_
  refine ws_iadd (dcd d_L_law_39 7 rfl) ?_
  obtain ⟨e1, h⟩ := h
  refine ws_sld (dcd d_L_law_39 8 rfl) e1 ?_
  refine ws_callVI (o := 2) (As := [.int (gx G ((x3 + 1) : Int32).toNatClampNeg)]) (st := []) (la := [(0, .ref 2), (1, .int (gx G ((x3 + 1) : Int32).toNatClampNeg))]) (dcd d_L_law_39 9 rfl) cv_D_findings k_L_220 ⟨by decide, by decide⟩ ok_2 rfl (Nat.le_of_ble_eq_true rfl) (Nat.le_of_ble_eq_true rfl) rfl rfl h (fun a2 u2 h => ?_)
  refine ws_pop (dcd d_L_law_39 10 rfl) rfl ?_
  refine ws_aload_n 2 (dcd d_L_law_39 11 rfl) rfl ?_
  refine ws_aload_n 0 (dcd d_L_law_39 12 rfl) rfl ?_
  refine ws_iload_n 3 (dcd d_L_law_39 13 rfl) rfl ?_
  refine ws_iconst (v := 1) (dcd d_L_law_39 14 rfl) (by decide) ?_
  refine ws_iadd (dcd d_L_law_39 15 rfl) ?_
  obtain ⟨e3, h⟩ := h
  refine ws_sld (dcd d_L_law_39 16 rfl) e3 ?_
  refine ws_callVI (o := 76) (As := [.int (gx G ((x3 + 1) : Int32).toNatClampNeg)]) (st := []) (la := [(0, .ref 76), (1, .int (gx G ((x3 + 1) : Int32).toNatClampNeg))]) (dcd d_L_law_39 17 rfl) cv_m_findings k_L_223 ⟨by decide, by decide⟩ ok_76 rfl (Nat.le_of_ble_eq_true rfl) (Nat.le_of_ble_eq_true rfl) rfl rfl h (fun a4 u4 h => ?_)
  refine ws_pop (dcd d_L_law_39 18 rfl) rfl ?_
  refine ws_goto (tgt := 1743) (dcd d_L_law_39 19 rfl) (by decide) ?_
  exact ws_loc [0, 1, 2, 3] rfl h
theorem sg_L_law_1730 {x3 : Int32} (h : Ws G D_digest 0 [(0, .ref 2)] [] u (RJ fun a1 u1 => Ws G m_digest 0 [(0, .ref 76)] [] u1 (RJ fun a2 u2 => Ws G L_law 1743 [(0, .ref 0), (1, .ref 2), (2, .ref 76), (3, .int x3)] [] u2 Q))) : Ws G L_law 1730 [(0, .ref 0), (1, .ref 2), (2, .ref 76), (3, .int x3)] [] u Q := by
  refine ws_aload_n 1 (dcd d_L_law_39 20 rfl) rfl ?_
  refine ws_callVJ (o := 2) (As := []) (st := []) (la := [(0, .ref 2)]) (dcd d_L_law_39 21 rfl) cv_D_digest k_L_224 ⟨by decide, by decide⟩ ok_2 rfl (Nat.le_of_ble_eq_true rfl) (Nat.le_of_ble_eq_true rfl) rfl rfl h (fun a1 u1 h => ?_)
  refine ws_pop2 (dcd d_L_law_39 22 rfl) rfl ?_
  refine ws_aload_n 2 (dcd d_L_law_39 23 rfl) rfl ?_
  refine ws_callVJ (o := 76) (As := []) (st := []) (la := [(0, .ref 76)]) (dcd d_L_law_39 24 rfl) cv_m_digest k_L_227 ⟨by decide, by decide⟩ ok_76 rfl (Nat.le_of_ble_eq_true rfl) (Nat.le_of_ble_eq_true rfl) rfl rfl h (fun a2 u2 h => ?_)
  refine ws_pop2 (dcd d_L_law_39 25 rfl) rfl ?_
  refine ws_goto (tgt := 1743) (dcd d_L_law_39 26 rfl) (by decide) ?_
  exact ws_loc [0, 1, 2, 3] rfl h
end SEGL
