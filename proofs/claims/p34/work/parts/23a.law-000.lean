section SEGL
variable {G : pG} {u : pM} {Q : Option Value → pM → Prop}
theorem sg_L_law_18 {x3 : Int32} (h : ((((Int32.ofNat (gn G)) - 6) < x3 → Q (some (.int 1)) u) ∧ (¬ (((Int32.ofNat (gn G)) - 6) < x3) → (vp_in x3 (gn G) ∧ ((((gx G (x3 : Int32).toNatClampNeg) &&& 63) = 0 → Ws G L_law 256 [(0, .ref 0), (1, .ref 2), (2, .ref 76), (3, .int x3)] [] u Q) ∧ (((gx G (x3 : Int32).toNatClampNeg) &&& 63) = 1 → Ws G L_law 289 [(0, .ref 0), (1, .ref 2), (2, .ref 76), (3, .int x3)] [] u Q) ∧ (((gx G (x3 : Int32).toNatClampNeg) &&& 63) = 2 → Ws G L_law 332 [(0, .ref 0), (1, .ref 2), (2, .ref 76), (3, .int x3)] [] u Q) ∧ (((gx G (x3 : Int32).toNatClampNeg) &&& 63) = 3 → Ws G L_law 365 [(0, .ref 0), (1, .ref 2), (2, .ref 76), (3, .int x3)] [] u Q) ∧ (((gx G (x3 : Int32).toNatClampNeg) &&& 63) = 4 → Ws G L_law 388 [(0, .ref 0), (1, .ref 2), (2, .ref 76), (3, .int x3)] [] u Q) ∧ (((gx G (x3 : Int32).toNatClampNeg) &&& 63) = 5 → Ws G L_law 451 [(0, .ref 0), (1, .ref 2), (2, .ref 76), (3, .int x3)] [] u Q) ∧ (((gx G (x3 : Int32).toNatClampNeg) &&& 63) = 6 → Ws G L_law 474 [(0, .ref 0), (1, .ref 2), (2, .ref 76), (3, .int x3)] [] u Q) ∧ (((gx G (x3 : Int32).toNatClampNeg) &&& 63) = 7 → Ws G L_law 507 [(0, .ref 0), (1, .ref 2), (2, .ref 76), (3, .int x3)] [] u Q) ∧ (((gx G (x3 : Int32).toNatClampNeg) &&& 63) = 8 → Ws G L_law 550 [(0, .ref 0), (1, .ref 2), (2, .ref 76), (3, .int x3)] [] u Q) ∧ (((gx G (x3 : Int32).toNatClampNeg) &&& 63) = 9 → Ws G L_law 573 [(0, .ref 0), (1, .ref 2), (2, .ref 76), (3, .int x3)] [] u Q) ∧ (((gx G (x3 : Int32).toNatClampNeg) &&& 63) = 10 → Ws G L_law 596 [(0, .ref 0), (1, .ref 2), (2, .ref 76), (3, .int x3)] [] u Q) ∧ (((gx G (x3 : Int32).toNatClampNeg) &&& 63) = 11 → Ws G L_law 629 [(0, .ref 0), (1, .ref 2), (2, .ref 76), (3, .int x3)] [] u Q) ∧ (((gx G (x3 : Int32).toNatClampNeg) &&& 63) = 12 → Ws G L_law 662 [(0, .ref 0), (1, .ref 2), (2, .ref 76), (3, .int x3)] [] u Q) ∧ (((gx G (x3 : Int32).toNatClampNeg) &&& 63) = 13 → Ws G L_law 685 [(0, .ref 0), (1, .ref 2), (2, .ref 76), (3, .int x3)] [] u Q) ∧ (((gx G (x3 : Int32).toNatClampNeg) &&& 63) = 14 → Ws G L_law 708 [(0, .ref 0), (1, .ref 2), (2, .ref 76), (3, .int x3)] [] u Q) ∧ (((gx G (x3 : Int32).toNatClampNeg) &&& 63) = 15 → Ws G L_law 731 [(0, .ref 0), (1, .ref 2), (2, .ref 76), (3, .int x3)] [] u Q) ∧ (((gx G (x3 : Int32).toNatClampNeg) &&& 63) = 16 → Ws G L_law 754 [(0, .ref 0), (1, .ref 2), (2, .ref 76), (3, .int x3)] [] u Q) ∧ (((gx G (x3 : Int32).toNatClampNeg) &&& 63) = 17 → Ws G L_law 777 [(0, .ref 0), (1, .ref 2), (2, .ref 76), (3, .int x3)] [] u Q) ∧ (((gx G (x3 : Int32).toNatClampNeg) &&& 63) = 18 → Ws G L_law 800 [(0, .ref 0), (1, .ref 2), (2, .ref 76), (3, .int x3)] [] u Q) ∧ (((gx G (x3 : Int32).toNatClampNeg) &&& 63) = 19 → Ws G L_law 833 [(0, .ref 0), (1, .ref 2), (2, .ref 76), (3, .int x3)] [] u Q) ∧ (((gx G (x3 : Int32).toNatClampNeg) &&& 63) = 20 → Ws G L_law 866 [(0, .ref 0), (1, .ref 2), (2, .ref 76), (3, .int x3)] [] u Q) ∧ (((gx G (x3 : Int32).toNatClampNeg) &&& 63) = 21 → Ws G L_law 879 [(0, .ref 0), (1, .ref 2), (2, .ref 76), (3, .int x3)] [] u Q) ∧ (((gx G (x3 : Int32).toNatClampNeg) &&& 63) = 22 → Ws G L_law 902 [(0, .ref 0), (1, .ref 2), (2, .ref 76), (3, .int x3)] [] u Q) ∧ (((gx G (x3 : Int32).toNatClampNeg) &&& 63) = 23 → Ws G L_law 925 [(0, .ref 0), (1, .ref 2), (2, .ref 76), (3, .int x3)] [] u Q) ∧ (((gx G (x3 : Int32).toNatClampNeg) &&& 63) = 24 → Ws G L_law 958 [(0, .ref 0), (1, .ref 2), (2, .ref 76), (3, .int x3)] [] u Q) ∧ (((gx G (x3 : Int32).toNatClampNeg) &&& 63) = 25 → Ws G L_law 991 [(0, .ref 0), (1, .ref 2), (2, .ref 76), (3, .int x3)] [] u Q) ∧ (((gx G (x3 : Int32).toNatClampNeg) &&& 63) = 26 → Ws G L_law 1034 [(0, .ref 0), (1, .ref 2), (2, .ref 76), (3, .int x3)] [] u Q) ∧ (((gx G (x3 : Int32).toNatClampNeg) &&& 63) = 27 → Ws G L_law 1077 [(0, .ref 0), (1, .ref 2), (2, .ref 76), (3, .int x3)] [] u Q) ∧ (((gx G (x3 : Int32).toNatClampNeg) &&& 63) = 28 → Ws G L_law 1110 [(0, .ref 0), (1, .ref 2), (2, .ref 76), (3, .int x3)] [] u Q) ∧ (((gx G (x3 : Int32).toNatClampNeg) &&& 63) = 29 → Ws G L_law 1143 [(0, .ref 0), (1, .ref 2), (2, .ref 76), (3, .int x3)] [] u Q) ∧ (((gx G (x3 : Int32).toNatClampNeg) &&& 63) = 30 → Ws G L_law 1186 [(0, .ref 0), (1, .ref 2), (2, .ref 76), (3, .int x3)] [] u Q) ∧ (((gx G (x3 : Int32).toNatClampNeg) &&& 63) = 31 → Ws G L_law 1239 [(0, .ref 0), (1, .ref 2), (2, .ref 76), (3, .int x3)] [] u Q) ∧ (((gx G (x3 : Int32).toNatClampNeg) &&& 63) = 32 → Ws G L_law 1282 [(0, .ref 0), (1, .ref 2), (2, .ref 76), (3, .int x3)] [] u Q) ∧ (((gx G (x3 : Int32).toNatClampNeg) &&& 63) = 33 → Ws G L_law 1315 [(0, .ref 0), (1, .ref 2), (2, .ref 76), (3, .int x3)] [] u Q) ∧ (((gx G (x3 : Int32).toNatClampNeg) &&& 63) = 34 → Ws G L_law 1328 [(0, .ref 0), (1, .ref 2), (2, .ref 76), (3, .int x3)] [] u Q) ∧ (((gx G (x3 : Int32).toNatClampNeg) &&& 63) = 35 → Ws G L_law 1341 [(0, .ref 0), (1, .ref 2), (2, .ref 76), (3, .int x3)] [] u Q) ∧ (((gx G (x3 : Int32).toNatClampNeg) &&& 63) = 36 → Ws G L_law 1384 [(0, .ref 0), (1, .ref 2), (2, .ref 76), (3, .int x3)] [] u Q) ∧ (((gx G (x3 : Int32).toNatClampNeg) &&& 63) = 37 → Ws G L_law 1407 [(0, .ref 0), (1, .ref 2), (2, .ref 76), (3, .int x3)] [] u Q) ∧ (((gx G (x3 : Int32).toNatClampNeg) &&& 63) = 38 → Ws G L_law 1430 [(0, .ref 0), (1, .ref 2), (2, .ref 76), (3, .int x3)] [] u Q) ∧ (((gx G (x3 : Int32).toNatClampNeg) &&& 63) = 39 → Ws G L_law 1453 [(0, .ref 0), (1, .ref 2), (2, .ref 76), (3, .int x3)] [] u Q) ∧ (((gx G (x3 : Int32).toNatClampNeg) &&& 63) = 40 → Ws G L_law 1496 [(0, .ref 0), (1, .ref 2), (2, .ref 76), (3, .int x3)] [] u Q) ∧ (((gx G (x3 : Int32).toNatClampNeg) &&& 63) = 41 → Ws G L_law 1529 [(0, .ref 0), (1, .ref 2), (2, .ref 76), (3, .int x3)] [] u Q) ∧ (((gx G (x3 : Int32).toNatClampNeg) &&& 63) = 42 → Ws G L_law 1562 [(0, .ref 0), (1, .ref 2), (2, .ref 76), (3, .int x3)] [] u Q) ∧ (((gx G (x3 : Int32).toNatClampNeg) &&& 63) = 43 → Ws G L_law 1585 [(0, .ref 0), (1, .ref 2), (2, .ref 76), (3, .int x3)] [] u Q) ∧ (((gx G (x3 : Int32).toNatClampNeg) &&& 63) = 44 → Ws G L_law 1608 [(0, .ref 0), (1, .ref 2), (2, .ref 76), (3, .int x3)] [] u Q) ∧ (((gx G (x3 : Int32).toNatClampNeg) &&& 63) = 45 → Ws G L_law 1631 [(0, .ref 0), (1, .ref 2), (2, .ref 76), (3, .int x3)] [] u Q) ∧ (((gx G (x3 : Int32).toNatClampNeg) &&& 63) = 46 → Ws G L_law 1644 [(0, .ref 0), (1, .ref 2), (2, .ref 76), (3, .int x3)] [] u Q) ∧ (((gx G (x3 : Int32).toNatClampNeg) &&& 63) = 47 → Ws G L_law 1657 [(0, .ref 0), (1, .ref 2), (2, .ref 76), (3, .int x3)] [] u Q) ∧ (((gx G (x3 : Int32).toNatClampNeg) &&& 63) = 48 → Ws G L_law 1670 [(0, .ref 0), (1, .ref 2), (2, .ref 76), (3, .int x3)] [] u Q) ∧ (((gx G (x3 : Int32).toNatClampNeg) &&& 63) = 49 → Ws G L_law 1693 [(0, .ref 0), (1, .ref 2), (2, .ref 76), (3, .int x3)] [] u Q) ∧ (((gx G (x3 : Int32).toNatClampNeg) &&& 63) = 50 → Ws G L_law 1706 [(0, .ref 0), (1, .ref 2), (2, .ref 76), (3, .int x3)] [] u Q) ∧ (((gx G (x3 : Int32).toNatClampNeg) &&& 63) = 51 → Ws G L_law 1729 [(0, .ref 0), (1, .ref 2), (2, .ref 76), (3, .int x3)] [] u Q) ∧ (¬ ((gx G (x3 : Int32).toNatClampNeg) &&& 63) = 0 ∧ ¬ ((gx G (x3 : Int32).toNatClampNeg) &&& 63) = 1 ∧ ¬ ((gx G (x3 : Int32).toNatClampNeg) &&& 63) = 2 ∧ ¬ ((gx G (x3 : Int32).toNatClampNeg) &&& 63) = 3 ∧ ¬ ((gx G (x3 : Int32).toNatClampNeg) &&& 63) = 4 ∧ ¬ ((gx G (x3 : Int32).toNatClampNeg) &&& 63) = 5 ∧ ¬ ((gx G (x3 : Int32).toNatClampNeg) &&& 63) = 6 ∧ ¬ ((gx G (x3 : Int32).toNatClampNeg) &&& 63) = 7 ∧ ¬ ((gx G (x3 : Int32).toNatClampNeg) &&& 63) = 8 ∧ ¬ ((gx G (x3 : Int32).toNatClampNeg) &&& 63) = 9 ∧ ¬ ((gx G (x3 : Int32).toNatClampNeg) &&& 63) = 10 ∧ ¬ ((gx G (x3 : Int32).toNatClampNeg) &&& 63) = 11 ∧ ¬ ((gx G (x3 : Int32).toNatClampNeg) &&& 63) = 12 ∧ ¬ ((gx G (x3 : Int32).toNatClampNeg) &&& 63) = 13 ∧ ¬ ((gx G (x3 : Int32).toNatClampNeg) &&& 63) = 14 ∧ ¬ ((gx G (x3 : Int32).toNatClampNeg) &&& 63) = 15 ∧ ¬ ((gx G (x3 : Int32).toNatClampNeg) &&& 63) = 16 ∧ ¬ ((gx G (x3 : Int32).toNatClampNeg) &&& 63) = 17 ∧ ¬ ((gx G (x3 : Int32).toNatClampNeg) &&& 63) = 18 ∧ ¬ ((gx G (x3 : Int32).toNatClampNeg) &&& 63) = 19 ∧ ¬ ((gx G (x3 : Int32).toNatClampNeg) &&& 63) = 20 ∧ ¬ ((gx G (x3 : Int32).toNatClampNeg) &&& 63) = 21 ∧ ¬ ((gx G (x3 : Int32).toNatClampNeg) &&& 63) = 22 ∧ ¬ ((gx G (x3 : Int32).toNatClampNeg) &&& 63) = 23 ∧ ¬ ((gx G (x3 : Int32).toNatClampNeg) &&& 63) = 24 ∧ ¬ ((gx G (x3 : Int32).toNatClampNeg) &&& 63) = 25 ∧ ¬ ((gx G (x3 : Int32).toNatClampNeg) &&& 63) = 26 ∧ ¬ ((gx G (x3 : Int32).toNatClampNeg) &&& 63) = 27 ∧ ¬ ((gx G (x3 : Int32).toNatClampNeg) &&& 63) = 28 ∧ ¬ ((gx G (x3 : Int32).toNatClampNeg) &&& 63) = 29 ∧ ¬ ((gx G (x3 : Int32).toNatClampNeg) &&& 63) = 30 ∧ ¬ ((gx G (x3 : Int32).toNatClampNeg) &&& 63) = 31 ∧ ¬ ((gx G (x3 : Int32).toNatClampNeg) &&& 63) = 32 ∧ ¬ ((gx G (x3 : Int32).toNatClampNeg) &&& 63) = 33 ∧ ¬ ((gx G (x3 : Int32).toNatClampNeg) &&& 63) = 34 ∧ ¬ ((gx G (x3 : Int32).toNatClampNeg) &&& 63) = 35 ∧ ¬ ((gx G (x3 : Int32).toNatClampNeg) &&& 63) = 36 ∧ ¬ ((gx G (x3 : Int32).toNatClampNeg) &&& 63) = 37 ∧ ¬ ((gx G (x3 : Int32).toNatClampNeg) &&& 63) = 38 ∧ ¬ ((gx G (x3 : Int32).toNatClampNeg) &&& 63) = 39 ∧ ¬ ((gx G (x3 : Int32).toNatClampNeg) &&& 63) = 40 ∧ ¬ ((gx G (x3 : Int32).toNatClampNeg) &&& 63) = 41 ∧ ¬ ((gx G (x3 : Int32).toNatClampNeg) &&& 63) = 42 ∧ ¬ ((gx G (x3 : Int32).toNatClampNeg) &&& 63) = 43 ∧ ¬ ((gx G (x3 : Int32).toNatClampNeg) &&& 63) = 44 ∧ ¬ ((gx G (x3 : Int32).toNatClampNeg) &&& 63) = 45 ∧ ¬ ((gx G (x3 : Int32).toNatClampNeg) &&& 63) = 46 ∧ ¬ ((gx G (x3 : Int32).toNatClampNeg) &&& 63) = 47 ∧ ¬ ((gx G (x3 : Int32).toNatClampNeg) &&& 63) = 48 ∧ ¬ ((gx G (x3 : Int32).toNatClampNeg) &&& 63) = 49 ∧ ¬ ((gx G (x3 : Int32).toNatClampNeg) &&& 63) = 50 ∧ ¬ ((gx G (x3 : Int32).toNatClampNeg) &&& 63) = 51 → Ws G L_law 1742 [(0, .ref 0), (1, .ref 2), (2, .ref 76), (3, .int x3)] [] u Q)))))) : Ws G L_law 18 [(0, .ref 0), (1, .ref 2), (2, .ref 76), (3, .int x3)] [] u Q := by
  refine ws_iload_n 3 (dcd d_L_law_0 10 rfl) rfl ?_
  refine ws_aload_n 0 (dcd d_L_law_0 11 rfl) rfl ?_
  refine ws_slen (dcd d_L_law_0 12 rfl) ?_
  refine ws_bipush (v := 6) (dcd d_L_law_0 13 rfl) (by decide) ?_
  refine ws_isub (dcd d_L_law_0 14 rfl) ?_
  refine ws_icmp_gt (tgt := 1748) (dcd d_L_law_0 15 rfl) (by decide) (fun c1 => ?_) (fun c1 => ?_)
  · have h := h.1 c1
    refine ws_iconst (v := 1) (dcd d_L_law_39 28 rfl) (by decide) ?_
    exact ws_iret (dcd d_L_law_39 29 rfl) ⟨_, rfl, by decide⟩ h
  · have h := h.2 c1
    refine ws_aload_n 0 (dcd d_L_law_0 16 rfl) rfl ?_
    refine ws_iload_n 3 (dcd d_L_law_0 17 rfl) rfl ?_
    obtain ⟨e2, h⟩ := h
    refine ws_sld (dcd d_L_law_0 18 rfl) e2 ?_
    refine ws_bipush (v := 63) (dcd d_L_law_0 19 rfl) (by decide) ?_
    refine ws_iand (dcd d_L_law_0 20 rfl) ?_
    by_cases c4 : ((gx G (x3 : Int32).toNatClampNeg) &&& 63) = 0
    · have h := h.1 c4
      refine ws_tableIn (off := 223) (tgt := 256) 0 (dcd d_L_law_0 21 rfl) (by rw [c4]; decide) (by decide) rfl (by decide) ?_
      exact ws_loc [0, 1, 2, 3] rfl h
    by_cases c5 : ((gx G (x3 : Int32).toNatClampNeg) &&& 63) = 1
    · have h := h.2.1 c5
      refine ws_tableIn (off := 256) (tgt := 289) 1 (dcd d_L_law_0 21 rfl) (by rw [c5]; decide) (by decide) rfl (by decide) ?_
      exact ws_loc [0, 1, 2, 3] rfl h
    by_cases c6 : ((gx G (x3 : Int32).toNatClampNeg) &&& 63) = 2
    · have h := h.2.2.1 c6
      refine ws_tableIn (off := 299) (tgt := 332) 2 (dcd d_L_law_0 21 rfl) (by rw [c6]; decide) (by decide) rfl (by decide) ?_
      exact ws_loc [0, 1, 2, 3] rfl h
    by_cases c7 : ((gx G (x3 : Int32).toNatClampNeg) &&& 63) = 3
    · have h := h.2.2.2.1 c7
      refine ws_tableIn (off := 332) (tgt := 365) 3 (dcd d_L_law_0 21 rfl) (by rw [c7]; decide) (by decide) rfl (by decide) ?_
      exact ws_loc [0, 1, 2, 3] rfl h
    by_cases c8 : ((gx G (x3 : Int32).toNatClampNeg) &&& 63) = 4
    · have h := h.2.2.2.2.1 c8
      refine ws_tableIn (off := 355) (tgt := 388) 4 (dcd d_L_law_0 21 rfl) (by rw [c8]; decide) (by decide) rfl (by decide) ?_
      exact ws_loc [0, 1, 2, 3] rfl h
    by_cases c9 : ((gx G (x3 : Int32).toNatClampNeg) &&& 63) = 5
    · have h := h.2.2.2.2.2.1 c9
      refine ws_tableIn (off := 418) (tgt := 451) 5 (dcd d_L_law_0 21 rfl) (by rw [c9]; decide) (by decide) rfl (by decide) ?_
      exact ws_loc [0, 1, 2, 3] rfl h
    by_cases c10 : ((gx G (x3 : Int32).toNatClampNeg) &&& 63) = 6
    · have h := h.2.2.2.2.2.2.1 c10
      refine ws_tableIn (off := 441) (tgt := 474) 6 (dcd d_L_law_0 21 rfl) (by rw [c10]; decide) (by decide) rfl (by decide) ?_
      exact ws_loc [0, 1, 2, 3] rfl h
    by_cases c11 : ((gx G (x3 : Int32).toNatClampNeg) &&& 63) = 7
    · have h := h.2.2.2.2.2.2.2.1 c11
      refine ws_tableIn (off := 474) (tgt := 507) 7 (dcd d_L_law_0 21 rfl) (by rw [c11]; decide) (by decide) rfl (by decide) ?_
      exact ws_loc [0, 1, 2, 3] rfl h
    by_cases c12 : ((gx G (x3 : Int32).toNatClampNeg) &&& 63) = 8
    · have h := h.2.2.2.2.2.2.2.2.1 c12
      refine ws_tableIn (off := 517) (tgt := 550) 8 (dcd d_L_law_0 21 rfl) (by rw [c12]; decide) (by decide) rfl (by decide) ?_
      exact ws_loc [0, 1, 2, 3] rfl h
    by_cases c13 : ((gx G (x3 : Int32).toNatClampNeg) &&& 63) = 9
    · have h := h.2.2.2.2.2.2.2.2.2.1 c13
      refine ws_tableIn (off := 540) (tgt := 573) 9 (dcd d_L_law_0 21 rfl) (by rw [c13]; decide) (by decide) rfl (by decide) ?_
      exact ws_loc [0, 1, 2, 3] rfl h
    by_cases c14 : ((gx G (x3 : Int32).toNatClampNeg) &&& 63) = 10
    · have h := h.2.2.2.2.2.2.2.2.2.2.1 c14
      refine ws_tableIn (off := 563) (tgt := 596) 10 (dcd d_L_law_0 21 rfl) (by rw [c14]; decide) (by decide) rfl (by decide) ?_
      exact ws_loc [0, 1, 2, 3] rfl h
    by_cases c15 : ((gx G (x3 : Int32).toNatClampNeg) &&& 63) = 11
    · have h := h.2.2.2.2.2.2.2.2.2.2.2.1 c15
      refine ws_tableIn (off := 596) (tgt := 629) 11 (dcd d_L_law_0 21 rfl) (by rw [c15]; decide) (by decide) rfl (by decide) ?_
      exact ws_loc [0, 1, 2, 3] rfl h
    by_cases c16 : ((gx G (x3 : Int32).toNatClampNeg) &&& 63) = 12
    · have h := h.2.2.2.2.2.2.2.2.2.2.2.2.1 c16
      refine ws_tableIn (off := 629) (tgt := 662) 12 (dcd d_L_law_0 21 rfl) (by rw [c16]; decide) (by decide) rfl (by decide) ?_
      exact ws_loc [0, 1, 2, 3] rfl h
    by_cases c17 : ((gx G (x3 : Int32).toNatClampNeg) &&& 63) = 13
    · have h := h.2.2.2.2.2.2.2.2.2.2.2.2.2.1 c17
      refine ws_tableIn (off := 652) (tgt := 685) 13 (dcd d_L_law_0 21 rfl) (by rw [c17]; decide) (by decide) rfl (by decide) ?_
      exact ws_loc [0, 1, 2, 3] rfl h
    by_cases c18 : ((gx G (x3 : Int32).toNatClampNeg) &&& 63) = 14
    · have h := h.2.2.2.2.2.2.2.2.2.2.2.2.2.2.1 c18
      refine ws_tableIn (off := 675) (tgt := 708) 14 (dcd d_L_law_0 21 rfl) (by rw [c18]; decide) (by decide) rfl (by decide) ?_
      exact ws_loc [0, 1, 2, 3] rfl h
    by_cases c19 : ((gx G (x3 : Int32).toNatClampNeg) &&& 63) = 15
    · have h := h.2.2.2.2.2.2.2.2.2.2.2.2.2.2.2.1 c19
      refine ws_tableIn (off := 698) (tgt := 731) 15 (dcd d_L_law_0 21 rfl) (by rw [c19]; decide) (by decide) rfl (by decide) ?_
      exact ws_loc [0, 1, 2, 3] rfl h
    by_cases c20 : ((gx G (x3 : Int32).toNatClampNeg) &&& 63) = 16
    · have h := h.2.2.2.2.2.2.2.2.2.2.2.2.2.2.2.2.1 c20
      refine ws_tableIn (off := 721) (tgt := 754) 16 (dcd d_L_law_0 21 rfl) (by rw [c20]; decide) (by decide) rfl (by decide) ?_
      exact ws_loc [0, 1, 2, 3] rfl h
    by_cases c21 : ((gx G (x3 : Int32).toNatClampNeg) &&& 63) = 17
    · have h := h.2.2.2.2.2.2.2.2.2.2.2.2.2.2.2.2.2.1 c21
      refine ws_tableIn (off := 744) (tgt := 777) 17 (dcd d_L_law_0 21 rfl) (by rw [c21]; decide) (by decide) rfl (by decide) ?_
      exact ws_loc [0, 1, 2, 3] rfl h
    by_cases c22 : ((gx G (x3 : Int32).toNatClampNeg) &&& 63) = 18
    · have h := h.2.2.2.2.2.2.2.2.2.2.2.2.2.2.2.2.2.2.1 c22
      refine ws_tableIn (off := 767) (tgt := 800) 18 (dcd d_L_law_0 21 rfl) (by rw [c22]; decide) (by decide) rfl (by decide) ?_
      exact ws_loc [0, 1, 2, 3] rfl h
    by_cases c23 : ((gx G (x3 : Int32).toNatClampNeg) &&& 63) = 19
    · have h := h.2.2.2.2.2.2.2.2.2.2.2.2.2.2.2.2.2.2.2.1 c23
      refine ws_tableIn (off := 800) (tgt := 833) 19 (dcd d_L_law_0 21 rfl) (by rw [c23]; decide) (by decide) rfl (by decide) ?_
      exact ws_loc [0, 1, 2, 3] rfl h
    by_cases c24 : ((gx G (x3 : Int32).toNatClampNeg) &&& 63) = 20
    · have h := h.2.2.2.2.2.2.2.2.2.2.2.2.2.2.2.2.2.2.2.2.1 c24
      refine ws_tableIn (off := 833) (tgt := 866) 20 (dcd d_L_law_0 21 rfl) (by rw [c24]; decide) (by decide) rfl (by decide) ?_
      exact ws_loc [0, 1, 2, 3] rfl h
    by_cases c25 : ((gx G (x3 : Int32).toNatClampNeg) &&& 63) = 21
    · have h := h.2.2.2.2.2.2.2.2.2.2.2.2.2.2.2.2.2.2.2.2.2.1 c25
      refine ws_tableIn (off := 846) (tgt := 879) 21 (dcd d_L_law_0 21 rfl) (by rw [c25]; decide) (by decide) rfl (by decide) ?_
      exact ws_loc [0, 1, 2, 3] rfl h
    by_cases c26 : ((gx G (x3 : Int32).toNatClampNeg) &&& 63) = 22
    · have h := h.2.2.2.2.2.2.2.2.2.2.2.2.2.2.2.2.2.2.2.2.2.2.1 c26
      refine ws_tableIn (off := 869) (tgt := 902) 22 (dcd d_L_law_0 21 rfl) (by rw [c26]; decide) (by decide) rfl (by decide) ?_
      exact ws_loc [0, 1, 2, 3] rfl h
    by_cases c27 : ((gx G (x3 : Int32).toNatClampNeg) &&& 63) = 23
    · have h := h.2.2.2.2.2.2.2.2.2.2.2.2.2.2.2.2.2.2.2.2.2.2.2.1 c27
      refine ws_tableIn (off := 892) (tgt := 925) 23 (dcd d_L_law_0 21 rfl) (by rw [c27]; decide) (by decide) rfl (by decide) ?_
      exact ws_loc [0, 1, 2, 3] rfl h
    by_cases c28 : ((gx G (x3 : Int32).toNatClampNeg) &&& 63) = 24
    · have h := h.2.2.2.2.2.2.2.2.2.2.2.2.2.2.2.2.2.2.2.2.2.2.2.2.1 c28
      refine ws_tableIn (off := 925) (tgt := 958) 24 (dcd d_L_law_0 21 rfl) (by rw [c28]; decide) (by decide) rfl (by decide) ?_
      exact ws_loc [0, 1, 2, 3] rfl h
    by_cases c29 : ((gx G (x3 : Int32).toNatClampNeg) &&& 63) = 25
    · have h := h.2.2.2.2.2.2.2.2.2.2.2.2.2.2.2.2.2.2.2.2.2.2.2.2.2.1 c29
      refine ws_tableIn (off := 958) (tgt := 991) 25 (dcd d_L_law_0 21 rfl) (by rw [c29]; decide) (by decide) rfl (by decide) ?_
      exact ws_loc [0, 1, 2, 3] rfl h
    by_cases c30 : ((gx G (x3 : Int32).toNatClampNeg) &&& 63) = 26
    · have h := h.2.2.2.2.2.2.2.2.2.2.2.2.2.2.2.2.2.2.2.2.2.2.2.2.2.2.1 c30
      refine ws_tableIn (off := 1001) (tgt := 1034) 26 (dcd d_L_law_0 21 rfl) (by rw [c30]; decide) (by decide) rfl (by decide) ?_
      exact ws_loc [0, 1, 2, 3] rfl h
    by_cases c31 : ((gx G (x3 : Int32).toNatClampNeg) &&& 63) = 27
    · have h := h.2.2.2.2.2.2.2.2.2.2.2.2.2.2.2.2.2.2.2.2.2.2.2.2.2.2.2.1 c31
      refine ws_tableIn (off := 1044) (tgt := 1077) 27 (dcd d_L_law_0 21 rfl) (by rw [c31]; decide) (by decide) rfl (by decide) ?_
      exact ws_loc [0, 1, 2, 3] rfl h
    by_cases c32 : ((gx G (x3 : Int32).toNatClampNeg) &&& 63) = 28
    · have h := h.2.2.2.2.2.2.2.2.2.2.2.2.2.2.2.2.2.2.2.2.2.2.2.2.2.2.2.2.1 c32
      refine ws_tableIn (off := 1077) (tgt := 1110) 28 (dcd d_L_law_0 21 rfl) (by rw [c32]; decide) (by decide) rfl (by decide) ?_
      exact ws_loc [0, 1, 2, 3] rfl h
    by_cases c33 : ((gx G (x3 : Int32).toNatClampNeg) &&& 63) = 29
    · have h := h.2.2.2.2.2.2.2.2.2.2.2.2.2.2.2.2.2.2.2.2.2.2.2.2.2.2.2.2.2.1 c33
      refine ws_tableIn (off := 1110) (tgt := 1143) 29 (dcd d_L_law_0 21 rfl) (by rw [c33]; decide) (by decide) rfl (by decide) ?_
      exact ws_loc [0, 1, 2, 3] rfl h
    by_cases c34 : ((gx G (x3 : Int32).toNatClampNeg) &&& 63) = 30
    · have h := h.2.2.2.2.2.2.2.2.2.2.2.2.2.2.2.2.2.2.2.2.2.2.2.2.2.2.2.2.2.2.1 c34
      refine ws_tableIn (off := 1153) (tgt := 1186) 30 (dcd d_L_law_0 21 rfl) (by rw [c34]; decide) (by decide) rfl (by decide) ?_
      exact ws_loc [0, 1, 2, 3] rfl h
    by_cases c35 : ((gx G (x3 : Int32).toNatClampNeg) &&& 63) = 31
    · have h := h.2.2.2.2.2.2.2.2.2.2.2.2.2.2.2.2.2.2.2.2.2.2.2.2.2.2.2.2.2.2.2.1 c35
      refine ws_tableIn (off := 1206) (tgt := 1239) 31 (dcd d_L_law_0 21 rfl) (by rw [c35]; decide) (by decide) rfl (by decide) ?_
      exact ws_loc [0, 1, 2, 3] rfl h
    by_cases c36 : ((gx G (x3 : Int32).toNatClampNeg) &&& 63) = 32
    · have h := h.2.2.2.2.2.2.2.2.2.2.2.2.2.2.2.2.2.2.2.2.2.2.2.2.2.2.2.2.2.2.2.2.1 c36
      refine ws_tableIn (off := 1249) (tgt := 1282) 32 (dcd d_L_law_0 21 rfl) (by rw [c36]; decide) (by decide) rfl (by decide) ?_
      exact ws_loc [0, 1, 2, 3] rfl h
    by_cases c37 : ((gx G (x3 : Int32).toNatClampNeg) &&& 63) = 33
    · have h := h.2.2.2.2.2.2.2.2.2.2.2.2.2.2.2.2.2.2.2.2.2.2.2.2.2.2.2.2.2.2.2.2.2.1 c37
      refine ws_tableIn (off := 1282) (tgt := 1315) 33 (dcd d_L_law_0 21 rfl) (by rw [c37]; decide) (by decide) rfl (by decide) ?_
      exact ws_loc [0, 1, 2, 3] rfl h
    by_cases c38 : ((gx G (x3 : Int32).toNatClampNeg) &&& 63) = 34
    · have h := h.2.2.2.2.2.2.2.2.2.2.2.2.2.2.2.2.2.2.2.2.2.2.2.2.2.2.2.2.2.2.2.2.2.2.1 c38
      refine ws_tableIn (off := 1295) (tgt := 1328) 34 (dcd d_L_law_0 21 rfl) (by rw [c38]; decide) (by decide) rfl (by decide) ?_
      exact ws_loc [0, 1, 2, 3] rfl h
    by_cases c39 : ((gx G (x3 : Int32).toNatClampNeg) &&& 63) = 35
    · have h := h.2.2.2.2.2.2.2.2.2.2.2.2.2.2.2.2.2.2.2.2.2.2.2.2.2.2.2.2.2.2.2.2.2.2.2.1 c39
      refine ws_tableIn (off := 1308) (tgt := 1341) 35 (dcd d_L_law_0 21 rfl) (by rw [c39]; decide) (by decide) rfl (by decide) ?_
      exact ws_loc [0, 1, 2, 3] rfl h
    by_cases c40 : ((gx G (x3 : Int32).toNatClampNeg) &&& 63) = 36
    · have h := h.2.2.2.2.2.2.2.2.2.2.2.2.2.2.2.2.2.2.2.2.2.2.2.2.2.2.2.2.2.2.2.2.2.2.2.2.1 c40
      refine ws_tableIn (off := 1351) (tgt := 1384) 36 (dcd d_L_law_0 21 rfl) (by rw [c40]; decide) (by decide) rfl (by decide) ?_
      exact ws_loc [0, 1, 2, 3] rfl h
    by_cases c41 : ((gx G (x3 : Int32).toNatClampNeg) &&& 63) = 37
    · have h := h.2.2.2.2.2.2.2.2.2.2.2.2.2.2.2.2.2.2.2.2.2.2.2.2.2.2.2.2.2.2.2.2.2.2.2.2.2.1 c41
      refine ws_tableIn (off := 1374) (tgt := 1407) 37 (dcd d_L_law_0 21 rfl) (by rw [c41]; decide) (by decide) rfl (by decide) ?_
      exact ws_loc [0, 1, 2, 3] rfl h
    by_cases c42 : ((gx G (x3 : Int32).toNatClampNeg) &&& 63) = 38
    · have h := h.2.2.2.2.2.2.2.2.2.2.2.2.2.2.2.2.2.2.2.2.2.2.2.2.2.2.2.2.2.2.2.2.2.2.2.2.2.2.1 c42
      refine ws_tableIn (off := 1397) (tgt := 1430) 38 (dcd d_L_law_0 21 rfl) (by rw [c42]; decide) (by decide) rfl (by decide) ?_
      exact ws_loc [0, 1, 2, 3] rfl h
    by_cases c43 : ((gx G (x3 : Int32).toNatClampNeg) &&& 63) = 39
    · have h := h.2.2.2.2.2.2.2.2.2.2.2.2.2.2.2.2.2.2.2.2.2.2.2.2.2.2.2.2.2.2.2.2.2.2.2.2.2.2.2.1 c43
      refine ws_tableIn (off := 1420) (tgt := 1453) 39 (dcd d_L_law_0 21 rfl) (by rw [c43]; decide) (by decide) rfl (by decide) ?_
      exact ws_loc [0, 1, 2, 3] rfl h
    by_cases c44 : ((gx G (x3 : Int32).toNatClampNeg) &&& 63) = 40
    · have h := h.2.2.2.2.2.2.2.2.2.2.2.2.2.2.2.2.2.2.2.2.2.2.2.2.2.2.2.2.2.2.2.2.2.2.2.2.2.2.2.2.1 c44
      refine ws_tableIn (off := 1463) (tgt := 1496) 40 (dcd d_L_law_0 21 rfl) (by rw [c44]; decide) (by decide) rfl (by decide) ?_
      exact ws_loc [0, 1, 2, 3] rfl h
    by_cases c45 : ((gx G (x3 : Int32).toNatClampNeg) &&& 63) = 41
    · have h := h.2.2.2.2.2.2.2.2.2.2.2.2.2.2.2.2.2.2.2.2.2.2.2.2.2.2.2.2.2.2.2.2.2.2.2.2.2.2.2.2.2.1 c45
      refine ws_tableIn (off := 1496) (tgt := 1529) 41 (dcd d_L_law_0 21 rfl) (by rw [c45]; decide) (by decide) rfl (by decide) ?_
      exact ws_loc [0, 1, 2, 3] rfl h
    by_cases c46 : ((gx G (x3 : Int32).toNatClampNeg) &&& 63) = 42
    · have h := h.2.2.2.2.2.2.2.2.2.2.2.2.2.2.2.2.2.2.2.2.2.2.2.2.2.2.2.2.2.2.2.2.2.2.2.2.2.2.2.2.2.2.1 c46
      refine ws_tableIn (off := 1529) (tgt := 1562) 42 (dcd d_L_law_0 21 rfl) (by rw [c46]; decide) (by decide) rfl (by decide) ?_
      exact ws_loc [0, 1, 2, 3] rfl h
    by_cases c47 : ((gx G (x3 : Int32).toNatClampNeg) &&& 63) = 43
    · have h := h.2.2.2.2.2.2.2.2.2.2.2.2.2.2.2.2.2.2.2.2.2.2.2.2.2.2.2.2.2.2.2.2.2.2.2.2.2.2.2.2.2.2.2.1 c47
      refine ws_tableIn (off := 1552) (tgt := 1585) 43 (dcd d_L_law_0 21 rfl) (by rw [c47]; decide) (by decide) rfl (by decide) ?_
      exact ws_loc [0, 1, 2, 3] rfl h
    by_cases c48 : ((gx G (x3 : Int32).toNatClampNeg) &&& 63) = 44
    · have h := h.2.2.2.2.2.2.2.2.2.2.2.2.2.2.2.2.2.2.2.2.2.2.2.2.2.2.2.2.2.2.2.2.2.2.2.2.2.2.2.2.2.2.2.2.1 c48
      refine ws_tableIn (off := 1575) (tgt := 1608) 44 (dcd d_L_law_0 21 rfl) (by rw [c48]; decide) (by decide) rfl (by decide) ?_
      exact ws_loc [0, 1, 2, 3] rfl h
    by_cases c49 : ((gx G (x3 : Int32).toNatClampNeg) &&& 63) = 45
    · have h := h.2.2.2.2.2.2.2.2.2.2.2.2.2.2.2.2.2.2.2.2.2.2.2.2.2.2.2.2.2.2.2.2.2.2.2.2.2.2.2.2.2.2.2.2.2.1 c49
      refine ws_tableIn (off := 1598) (tgt := 1631) 45 (dcd d_L_law_0 21 rfl) (by rw [c49]; decide) (by decide) rfl (by decide) ?_
      exact ws_loc [0, 1, 2, 3] rfl h
    by_cases c50 : ((gx G (x3 : Int32).toNatClampNeg) &&& 63) = 46
    · have h := h.2.2.2.2.2.2.2.2.2.2.2.2.2.2.2.2.2.2.2.2.2.2.2.2.2.2.2.2.2.2.2.2.2.2.2.2.2.2.2.2.2.2.2.2.2.2.1 c50
      refine ws_tableIn (off := 1611) (tgt := 1644) 46 (dcd d_L_law_0 21 rfl) (by rw [c50]; decide) (by decide) rfl (by decide) ?_
      exact ws_loc [0, 1, 2, 3] rfl h
    by_cases c51 : ((gx G (x3 : Int32).toNatClampNeg) &&& 63) = 47
    · have h := h.2.2.2.2.2.2.2.2.2.2.2.2.2.2.2.2.2.2.2.2.2.2.2.2.2.2.2.2.2.2.2.2.2.2.2.2.2.2.2.2.2.2.2.2.2.2.2.1 c51
      refine ws_tableIn (off := 1624) (tgt := 1657) 47 (dcd d_L_law_0 21 rfl) (by rw [c51]; decide) (by decide) rfl (by decide) ?_
      exact ws_loc [0, 1, 2, 3] rfl h
    by_cases c52 : ((gx G (x3 : Int32).toNatClampNeg) &&& 63) = 48
    · have h := h.2.2.2.2.2.2.2.2.2.2.2.2.2.2.2.2.2.2.2.2.2.2.2.2.2.2.2.2.2.2.2.2.2.2.2.2.2.2.2.2.2.2.2.2.2.2.2.2.1 c52
      refine ws_tableIn (off := 1637) (tgt := 1670) 48 (dcd d_L_law_0 21 rfl) (by rw [c52]; decide) (by decide) rfl (by decide) ?_
      exact ws_loc [0, 1, 2, 3] rfl h
    by_cases c53 : ((gx G (x3 : Int32).toNatClampNeg) &&& 63) = 49
    · have h := h.2.2.2.2.2.2.2.2.2.2.2.2.2.2.2.2.2.2.2.2.2.2.2.2.2.2.2.2.2.2.2.2.2.2.2.2.2.2.2.2.2.2.2.2.2.2.2.2.2.1 c53
      refine ws_tableIn (off := 1660) (tgt := 1693) 49 (dcd d_L_law_0 21 rfl) (by rw [c53]; decide) (by decide) rfl (by decide) ?_
      exact ws_loc [0, 1, 2, 3] rfl h
    by_cases c54 : ((gx G (x3 : Int32).toNatClampNeg) &&& 63) = 50
    · have h := h.2.2.2.2.2.2.2.2.2.2.2.2.2.2.2.2.2.2.2.2.2.2.2.2.2.2.2.2.2.2.2.2.2.2.2.2.2.2.2.2.2.2.2.2.2.2.2.2.2.2.1 c54
      refine ws_tableIn (off := 1673) (tgt := 1706) 50 (dcd d_L_law_0 21 rfl) (by rw [c54]; decide) (by decide) rfl (by decide) ?_
      exact ws_loc [0, 1, 2, 3] rfl h
    by_cases c55 : ((gx G (x3 : Int32).toNatClampNeg) &&& 63) = 51
    · have h := h.2.2.2.2.2.2.2.2.2.2.2.2.2.2.2.2.2.2.2.2.2.2.2.2.2.2.2.2.2.2.2.2.2.2.2.2.2.2.2.2.2.2.2.2.2.2.2.2.2.2.2.1 c55
      refine ws_tableIn (off := 1696) (tgt := 1729) 51 (dcd d_L_law_0 21 rfl) (by rw [c55]; decide) (by decide) rfl (by decide) ?_
      exact ws_loc [0, 1, 2, 3] rfl h
    have h := h.2.2.2.2.2.2.2.2.2.2.2.2.2.2.2.2.2.2.2.2.2.2.2.2.2.2.2.2.2.2.2.2.2.2.2.2.2.2.2.2.2.2.2.2.2.2.2.2.2.2.2.2 ⟨c4, c5, c6, c7, c8, c9, c10, c11, c12, c13, c14, c15, c16, c17, c18, c19, c20, c21, c22, c23, c24, c25, c26, c27, c28, c29, c30, c31, c32, c33, c34, c35, c36, c37, c38, c39, c40, c41, c42, c43, c44, c45, c46, c47, c48, c49, c50, c51, c52, c53, c54, c55⟩
    have nc4 := lv_neT c4 (a := 0) (by decide)
    have nc5 := lv_neT c5 (a := 1) (by decide)
    have nc6 := lv_neT c6 (a := 2) (by decide)
    have nc7 := lv_neT c7 (a := 3) (by decide)
    have nc8 := lv_neT c8 (a := 4) (by decide)
    have nc9 := lv_neT c9 (a := 5) (by decide)
    have nc10 := lv_neT c10 (a := 6) (by decide)
    have nc11 := lv_neT c11 (a := 7) (by decide)
    have nc12 := lv_neT c12 (a := 8) (by decide)
    have nc13 := lv_neT c13 (a := 9) (by decide)
    have nc14 := lv_neT c14 (a := 10) (by decide)
    have nc15 := lv_neT c15 (a := 11) (by decide)
    have nc16 := lv_neT c16 (a := 12) (by decide)
    have nc17 := lv_neT c17 (a := 13) (by decide)
    have nc18 := lv_neT c18 (a := 14) (by decide)
    have nc19 := lv_neT c19 (a := 15) (by decide)
    have nc20 := lv_neT c20 (a := 16) (by decide)
    have nc21 := lv_neT c21 (a := 17) (by decide)
    have nc22 := lv_neT c22 (a := 18) (by decide)
    have nc23 := lv_neT c23 (a := 19) (by decide)
    have nc24 := lv_neT c24 (a := 20) (by decide)
    have nc25 := lv_neT c25 (a := 21) (by decide)
    have nc26 := lv_neT c26 (a := 22) (by decide)
    have nc27 := lv_neT c27 (a := 23) (by decide)
    have nc28 := lv_neT c28 (a := 24) (by decide)
    have nc29 := lv_neT c29 (a := 25) (by decide)
    have nc30 := lv_neT c30 (a := 26) (by decide)
    have nc31 := lv_neT c31 (a := 27) (by decide)
    have nc32 := lv_neT c32 (a := 28) (by decide)
    have nc33 := lv_neT c33 (a := 29) (by decide)
    have nc34 := lv_neT c34 (a := 30) (by decide)
    have nc35 := lv_neT c35 (a := 31) (by decide)
    have nc36 := lv_neT c36 (a := 32) (by decide)
    have nc37 := lv_neT c37 (a := 33) (by decide)
    have nc38 := lv_neT c38 (a := 34) (by decide)
    have nc39 := lv_neT c39 (a := 35) (by decide)
    have nc40 := lv_neT c40 (a := 36) (by decide)
    have nc41 := lv_neT c41 (a := 37) (by decide)
    have nc42 := lv_neT c42 (a := 38) (by decide)
    have nc43 := lv_neT c43 (a := 39) (by decide)
    have nc44 := lv_neT c44 (a := 40) (by decide)
    have nc45 := lv_neT c45 (a := 41) (by decide)
    have nc46 := lv_neT c46 (a := 42) (by decide)
    have nc47 := lv_neT c47 (a := 43) (by decide)
    have nc48 := lv_neT c48 (a := 44) (by decide)
    have nc49 := lv_neT c49 (a := 45) (by decide)
    have nc50 := lv_neT c50 (a := 46) (by decide)
    have nc51 := lv_neT c51 (a := 47) (by decide)
    have nc52 := lv_neT c52 (a := 48) (by decide)
    have nc53 := lv_neT c53 (a := 49) (by decide)
    have nc54 := lv_neT c54 (a := 50) (by decide)
    have nc55 := lv_neT c55 (a := 51) (by decide)
    refine ws_tableOut (tgt := 1742) (dcd d_L_law_0 21 rfl) (by omega) (by decide) ?_
    exact ws_loc [0, 1, 2, 3] rfl h
theorem sg_L_law_1742 {x3 : Int32} (h : Ws G L_law 18 [(0, .ref 0), (1, .ref 2), (2, .ref 76), (3, .int (x3 + 6))] [] u Q) : Ws G L_law 1742 [(0, .ref 0), (1, .ref 2), (2, .ref 76), (3, .int x3)] [] u Q := by
  refine ws_iinc (v := 6) (l' := [(3, .int (x3 + 6)), (0, .ref 0), (1, .ref 2), (2, .ref 76)]) 3 (dcd d_L_law_39 26 rfl) rfl (by decide) (by decide) rfl ?_
  refine ws_goto (tgt := 18) (dcd d_L_law_39 27 rfl) (by decide) ?_
  exact ws_loc [1, 2, 3, 0] rfl h
theorem sg_L_law_256 {x3 : Int32} (h : (vp_in (x3 + 1) (gn G) ∧ (vp_in (x3 + 2) (gn G) ∧ Ws G D_row 0 [(0, .ref 2), (1, .int (gx G ((x3 + 1) : Int32).toNatClampNeg)), (2, .int (gx G ((x3 + 2) : Int32).toNatClampNeg))] [] u (RI fun a3 u3 => (vp_in (x3 + 1) (gn G) ∧ (vp_in (x3 + 2) (gn G) ∧ Ws G m_row 0 [(0, .ref 76), (1, .int (gx G ((x3 + 1) : Int32).toNatClampNeg)), (2, .int (gx G ((x3 + 2) : Int32).toNatClampNeg))] [] u3 (RI fun a6 u6 => Ws G L_law 1742 [(0, .ref 0), (1, .ref 2), (2, .ref 76), (3, .int x3)] [] u6 Q))))))) : Ws G L_law 256 [(0, .ref 0), (1, .ref 2), (2, .ref 76), (3, .int x3)] [] u Q := by
  refine ws_aload_n 1 (dcd d_L_law_0 22 rfl) rfl ?_
  refine ws_aload_n 0 (dcd d_L_law_0 23 rfl) rfl ?_
  refine ws_iload_n 3 (dcd d_L_law_0 24 rfl) rfl ?_
  refine ws_iconst (v := 1) (dcd d_L_law_0 25 rfl) (by decide) ?_
  refine ws_iadd (dcd d_L_law_0 26 rfl) ?_
  obtain ⟨e1, h⟩ := h
  refine ws_sld (dcd d_L_law_0 27 rfl) e1 ?_
  refine ws_aload_n 0 (dcd d_L_law_0 28 rfl) rfl ?_
  refine ws_iload_n 3 (dcd d_L_law_0 29 rfl) rfl ?_
  refine ws_iconst (v := 2) (dcd d_L_law_1 0 rfl) (by decide) ?_
  refine ws_iadd (dcd d_L_law_1 1 rfl) ?_
  obtain ⟨e2, h⟩ := h
  refine ws_sld (dcd d_L_law_1 2 rfl) e2 ?_
  refine ws_callVI (o := 2) (As := [.int (gx G ((x3 + 1) : Int32).toNatClampNeg), .int (gx G ((x3 + 2) : Int32).toNatClampNeg)]) (st := []) (la := [(0, .ref 2), (1, .int (gx G ((x3 + 1) : Int32).toNatClampNeg)), (2, .int (gx G ((x3 + 2) : Int32).toNatClampNeg))]) (dcd d_L_law_1 3 rfl) cv_D_row k_L_13 ⟨by decide, by decide⟩ ok_2 rfl (Nat.le_of_ble_eq_true rfl) (Nat.le_of_ble_eq_true rfl) rfl rfl h (fun a3 u3 h => ?_)
  refine ws_pop (dcd d_L_law_1 4 rfl) rfl ?_
  refine ws_aload_n 2 (dcd d_L_law_1 5 rfl) rfl ?_
  refine ws_aload_n 0 (dcd d_L_law_1 6 rfl) rfl ?_
  refine ws_iload_n 3 (dcd d_L_law_1 7 rfl) rfl ?_
  refine ws_iconst (v := 1) (dcd d_L_law_1 8 rfl) (by decide) ?_
  refine ws_iadd (dcd d_L_law_1 9 rfl) ?_
  obtain ⟨e4, h⟩ := h
  refine ws_sld (dcd d_L_law_1 10 rfl) e4 ?_
  refine ws_aload_n 0 (dcd d_L_law_1 11 rfl) rfl ?_
  refine ws_iload_n 3 (dcd d_L_law_1 12 rfl) rfl ?_
  refine ws_iconst (v := 2) (dcd d_L_law_1 13 rfl) (by decide) ?_
  refine ws_iadd (dcd d_L_law_1 14 rfl) ?_
  obtain ⟨e5, h⟩ := h
  refine ws_sld (dcd d_L_law_1 15 rfl) e5 ?_
  refine ws_callVI (o := 76) (As := [.int (gx G ((x3 + 1) : Int32).toNatClampNeg), .int (gx G ((x3 + 2) : Int32).toNatClampNeg)]) (st := []) (la := [(0, .ref 76), (1, .int (gx G ((x3 + 1) : Int32).toNatClampNeg)), (2, .int (gx G ((x3 + 2) : Int32).toNatClampNeg))]) (dcd d_L_law_1 16 rfl) cv_m_row k_L_17 ⟨by decide, by decide⟩ ok_76 rfl (Nat.le_of_ble_eq_true rfl) (Nat.le_of_ble_eq_true rfl) rfl rfl h (fun a6 u6 h => ?_)
  refine ws_pop (dcd d_L_law_1 17 rfl) rfl ?_
  refine ws_goto (tgt := 1742) (dcd d_L_law_1 18 rfl) (by decide) ?_
  exact ws_loc [0, 1, 2, 3] rfl h
theorem sg_L_law_289 {x3 : Int32} (h : (vp_in (x3 + 1) (gn G) ∧ (vp_in (x3 + 2) (gn G) ∧ (vp_in (x3 + 3) (gn G) ∧ Ws G D_lay 0 [(0, .ref 2), (1, .int (gx G ((x3 + 1) : Int32).toNatClampNeg)), (2, .int (gx G ((x3 + 2) : Int32).toNatClampNeg)), (3, .int (gx G ((x3 + 3) : Int32).toNatClampNeg))] [] u (RI fun a4 u4 => (vp_in (x3 + 1) (gn G) ∧ (vp_in (x3 + 2) (gn G) ∧ (vp_in (x3 + 3) (gn G) ∧ Ws G m_lay 0 [(0, .ref 76), (1, .int (gx G ((x3 + 1) : Int32).toNatClampNeg)), (2, .int (gx G ((x3 + 2) : Int32).toNatClampNeg)), (3, .int (gx G ((x3 + 3) : Int32).toNatClampNeg))] [] u4 (RI fun a8 u8 => Ws G L_law 1742 [(0, .ref 0), (1, .ref 2), (2, .ref 76), (3, .int x3)] [] u8 Q))))))))) : Ws G L_law 289 [(0, .ref 0), (1, .ref 2), (2, .ref 76), (3, .int x3)] [] u Q := by
  refine ws_aload_n 1 (dcd d_L_law_1 19 rfl) rfl ?_
  refine ws_aload_n 0 (dcd d_L_law_1 20 rfl) rfl ?_
  refine ws_iload_n 3 (dcd d_L_law_1 21 rfl) rfl ?_
  refine ws_iconst (v := 1) (dcd d_L_law_1 22 rfl) (by decide) ?_
  refine ws_iadd (dcd d_L_law_1 23 rfl) ?_
  obtain ⟨e1, h⟩ := h
  refine ws_sld (dcd d_L_law_1 24 rfl) e1 ?_
  refine ws_aload_n 0 (dcd d_L_law_1 25 rfl) rfl ?_
  refine ws_iload_n 3 (dcd d_L_law_1 26 rfl) rfl ?_
  refine ws_iconst (v := 2) (dcd d_L_law_1 27 rfl) (by decide) ?_
  refine ws_iadd (dcd d_L_law_1 28 rfl) ?_
  obtain ⟨e2, h⟩ := h
  refine ws_sld (dcd d_L_law_1 29 rfl) e2 ?_
  refine ws_aload_n 0 (dcd d_L_law_2 0 rfl) rfl ?_
  refine ws_iload_n 3 (dcd d_L_law_2 1 rfl) rfl ?_
  refine ws_iconst (v := 3) (dcd d_L_law_2 2 rfl) (by decide) ?_
  refine ws_iadd (dcd d_L_law_2 3 rfl) ?_
  obtain ⟨e3, h⟩ := h
  refine ws_sld (dcd d_L_law_2 4 rfl) e3 ?_
  refine ws_callVI (o := 2) (As := [.int (gx G ((x3 + 1) : Int32).toNatClampNeg), .int (gx G ((x3 + 2) : Int32).toNatClampNeg), .int (gx G ((x3 + 3) : Int32).toNatClampNeg)]) (st := []) (la := [(0, .ref 2), (1, .int (gx G ((x3 + 1) : Int32).toNatClampNeg)), (2, .int (gx G ((x3 + 2) : Int32).toNatClampNeg)), (3, .int (gx G ((x3 + 3) : Int32).toNatClampNeg))]) (dcd d_L_law_2 5 rfl) cv_D_lay k_L_18 ⟨by decide, by decide⟩ ok_2 rfl (Nat.le_of_ble_eq_true rfl) (Nat.le_of_ble_eq_true rfl) rfl rfl h (fun a4 u4 h => ?_)
  refine ws_pop (dcd d_L_law_2 6 rfl) rfl ?_
  refine ws_aload_n 2 (dcd d_L_law_2 7 rfl) rfl ?_
  refine ws_aload_n 0 (dcd d_L_law_2 8 rfl) rfl ?_
  refine ws_iload_n 3 (dcd d_L_law_2 9 rfl) rfl ?_
  refine ws_iconst (v := 1) (dcd d_L_law_2 10 rfl) (by decide) ?_
  refine ws_iadd (dcd d_L_law_2 11 rfl) ?_
  obtain ⟨e5, h⟩ := h
  refine ws_sld (dcd d_L_law_2 12 rfl) e5 ?_
  refine ws_aload_n 0 (dcd d_L_law_2 13 rfl) rfl ?_
  refine ws_iload_n 3 (dcd d_L_law_2 14 rfl) rfl ?_
  refine ws_iconst (v := 2) (dcd d_L_law_2 15 rfl) (by decide) ?_
  refine ws_iadd (dcd d_L_law_2 16 rfl) ?_
  obtain ⟨e6, h⟩ := h
  refine ws_sld (dcd d_L_law_2 17 rfl) e6 ?_
  refine ws_aload_n 0 (dcd d_L_law_2 18 rfl) rfl ?_
  refine ws_iload_n 3 (dcd d_L_law_2 19 rfl) rfl ?_
  refine ws_iconst (v := 3) (dcd d_L_law_2 20 rfl) (by decide) ?_
  refine ws_iadd (dcd d_L_law_2 21 rfl) ?_
  obtain ⟨e7, h⟩ := h
  refine ws_sld (dcd d_L_law_2 22 rfl) e7 ?_
  refine ws_callVI (o := 76) (As := [.int (gx G ((x3 + 1) : Int32).toNatClampNeg), .int (gx G ((x3 + 2) : Int32).toNatClampNeg), .int (gx G ((x3 + 3) : Int32).toNatClampNeg)]) (st := []) (la := [(0, .ref 76), (1, .int (gx G ((x3 + 1) : Int32).toNatClampNeg)), (2, .int (gx G ((x3 + 2) : Int32).toNatClampNeg)), (3, .int (gx G ((x3 + 3) : Int32).toNatClampNeg))]) (dcd d_L_law_2 23 rfl) cv_m_lay k_L_22 ⟨by decide, by decide⟩ ok_76 rfl (Nat.le_of_ble_eq_true rfl) (Nat.le_of_ble_eq_true rfl) rfl rfl h (fun a8 u8 h => ?_)
  refine ws_pop (dcd d_L_law_2 24 rfl) rfl ?_
  refine ws_goto (tgt := 1742) (dcd d_L_law_2 25 rfl) (by decide) ?_
  exact ws_loc [0, 1, 2, 3] rfl h
end SEGL
