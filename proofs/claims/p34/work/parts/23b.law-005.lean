section LAW
variable {G : pG} {u : pM}
theorem lw_c12 {x3 : Int32} (hn : gn G ≤ 3072) (h0 : 0 ≤ x3) (h1 : ¬ (Int32.ofNat (gn G) - 6) < x3) (hC : InvC u) (hM : InvM u) (hX : RX u) (K : ∀ v, InvC v → InvM v → RX v → Ws G L_law 1742 [(0, .ref 0), (1, .ref 2), (2, .ref 76), (3, .int x3)] [] v LQ) : Ws G L_law 662 [(0, .ref 0), (1, .ref 2), (2, .ref 76), (3, .int x3)] [] u LQ := by
  refine sg_L_law_662 (⟨vscr hn h0 h1 (j := 1) (by decide) (by decide), kI (Y_shut hX hC hM) (fun a1 u1 q1 => ⟨vscr hn h0 h1 (j := 1) (by decide) (by decide), kI (Z_shut hX hM q1.1 (hM.cl q1.1)) (fun a2 u2 q2 => ?_)⟩)⟩)
  have z := X_shut hX hC hM q1 q2
  exact K u2 (q1.1.1.mo q2.1) q2.1.1 z.2
theorem lw_c13 {x3 : Int32} (hn : gn G ≤ 3072) (h0 : 0 ≤ x3) (h1 : ¬ (Int32.ofNat (gn G) - 6) < x3) (hC : InvC u) (hM : InvM u) (hX : RX u) (K : ∀ v, InvC v → InvM v → RX v → Ws G L_law 1742 [(0, .ref 0), (1, .ref 2), (2, .ref 76), (3, .int x3)] [] v LQ) : Ws G L_law 685 [(0, .ref 0), (1, .ref 2), (2, .ref 76), (3, .int x3)] [] u LQ := by
  refine sg_L_law_685 (⟨vscr hn h0 h1 (j := 1) (by decide) (by decide), kI (Y_open hX hC hM) (fun a1 u1 q1 => ⟨vscr hn h0 h1 (j := 1) (by decide) (by decide), kI (Z_open hX hM q1.1 (hM.cl q1.1)) (fun a2 u2 q2 => ?_)⟩)⟩)
  have z := X_open hX hC hM q1 q2
  exact K u2 (q1.1.1.mo q2.1) q2.1.1 z.2
theorem lw_c14 {x3 : Int32} (hn : gn G ≤ 3072) (h0 : 0 ≤ x3) (h1 : ¬ (Int32.ofNat (gn G) - 6) < x3) (hC : InvC u) (hM : InvM u) (hX : RX u) (K : ∀ v, InvC v → InvM v → RX v → Ws G L_law 1742 [(0, .ref 0), (1, .ref 2), (2, .ref 76), (3, .int x3)] [] v LQ) : Ws G L_law 708 [(0, .ref 0), (1, .ref 2), (2, .ref 76), (3, .int x3)] [] u LQ := by
  refine sg_L_law_708 (⟨vscr hn h0 h1 (j := 1) (by decide) (by decide), kI (Y_go hX hC hM) (fun a1 u1 q1 => ⟨vscr hn h0 h1 (j := 1) (by decide) (by decide), kI (Z_go hX hM q1.1 (hM.cl q1.1)) (fun a2 u2 q2 => ?_)⟩)⟩)
  have z := X_go hX hC hM q1 q2
  exact K u2 (q1.1.1.mo q2.1) q2.1.1 z.2
theorem lw_c15 {x3 : Int32} (hn : gn G ≤ 3072) (h0 : 0 ≤ x3) (h1 : ¬ (Int32.ofNat (gn G) - 6) < x3) (hC : InvC u) (hM : InvM u) (hX : RX u) (K : ∀ v, InvC v → InvM v → RX v → Ws G L_law 1742 [(0, .ref 0), (1, .ref 2), (2, .ref 76), (3, .int x3)] [] v LQ) : Ws G L_law 731 [(0, .ref 0), (1, .ref 2), (2, .ref 76), (3, .int x3)] [] u LQ := by
  refine sg_L_law_731 (⟨vscr hn h0 h1 (j := 1) (by decide) (by decide), kI (Y_doors hX hC hM) (fun a1 u1 q1 => ⟨vscr hn h0 h1 (j := 1) (by decide) (by decide), kI (Z_doors hX hM q1.1 (hM.cl q1.1)) (fun a2 u2 q2 => ?_)⟩)⟩)
  have z := X_doors hX hC hM q1 q2
  exact K u2 (q1.1.1.mo q2.1) q2.1.1 z.2
end LAW
