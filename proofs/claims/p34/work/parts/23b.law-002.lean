section LAW
variable {G : pG} {u : pM}
theorem lw_c0 {x3 : Int32} (hn : gn G ≤ 3072) (h0 : 0 ≤ x3) (h1 : ¬ (Int32.ofNat (gn G) - 6) < x3) (hC : InvC u) (hM : InvM u) (hX : RX u) (K : ∀ v, InvC v → InvM v → RX v → Ws G L_law 1742 [(0, .ref 0), (1, .ref 2), (2, .ref 76), (3, .int x3)] [] v LQ) : Ws G L_law 256 [(0, .ref 0), (1, .ref 2), (2, .ref 76), (3, .int x3)] [] u LQ := by
  refine sg_L_law_256 (⟨vscr hn h0 h1 (j := 1) (by decide) (by decide), ⟨vscr hn h0 h1 (j := 2) (by decide) (by decide), kI (d_rowy hC) (fun a1 u1 q1 => ⟨vscr hn h0 h1 (j := 1) (by decide) (by decide), ⟨vscr hn h0 h1 (j := 2) (by decide) (by decide), kI (e_rowyy (hM.cl q1.1)) (fun a2 u2 q2 => ?_)⟩⟩)⟩⟩)
  have z := X_row hX hC hM q1 q2
  exact K u2 (q1.1.1.mo q2.1) q2.1.1 z.2
theorem lw_c1 {x3 : Int32} (hn : gn G ≤ 3072) (h0 : 0 ≤ x3) (h1 : ¬ (Int32.ofNat (gn G) - 6) < x3) (hC : InvC u) (hM : InvM u) (hX : RX u) (K : ∀ v, InvC v → InvM v → RX v → Ws G L_law 1742 [(0, .ref 0), (1, .ref 2), (2, .ref 76), (3, .int x3)] [] v LQ) : Ws G L_law 289 [(0, .ref 0), (1, .ref 2), (2, .ref 76), (3, .int x3)] [] u LQ := by
  refine sg_L_law_289 (⟨vscr hn h0 h1 (j := 1) (by decide) (by decide), ⟨vscr hn h0 h1 (j := 2) (by decide) (by decide), ⟨vscr hn h0 h1 (j := 3) (by decide) (by decide), kI (d_layy hC) (fun a1 u1 q1 => ⟨vscr hn h0 h1 (j := 1) (by decide) (by decide), ⟨vscr hn h0 h1 (j := 2) (by decide) (by decide), ⟨vscr hn h0 h1 (j := 3) (by decide) (by decide), kI (e_layy (hM.cl q1.1)) (fun a2 u2 q2 => ?_)⟩⟩⟩)⟩⟩⟩)
  have z := X_lay hX hC hM q1 q2
  exact K u2 (q1.1.1.mo q2.1) q2.1.1 z.2
theorem lw_c2 {x3 : Int32} (hn : gn G ≤ 3072) (h0 : 0 ≤ x3) (h1 : ¬ (Int32.ofNat (gn G) - 6) < x3) (hC : InvC u) (hM : InvM u) (hX : RX u) (K : ∀ v, InvC v → InvM v → RX v → Ws G L_law 1742 [(0, .ref 0), (1, .ref 2), (2, .ref 76), (3, .int x3)] [] v LQ) : Ws G L_law 332 [(0, .ref 0), (1, .ref 2), (2, .ref 76), (3, .int x3)] [] u LQ := by
  exact sg_L_law_332 (⟨vscr hn h0 h1 (j := 1) (by decide) (by decide), ⟨vscr hn h0 h1 (j := 2) (by decide) (by decide), kI (d_at hC) (fun a1 u1 q1 => ⟨vscr hn h0 h1 (j := 1) (by decide) (by decide), ⟨vscr hn h0 h1 (j := 2) (by decide) (by decide), kI (e_at (hM.cl q1)) (fun a2 u2 q2 => K u2 (q1.1.mo (q2.1.mo (hM.cl q1))) (q2.1.mo (hM.cl q1)).1 ((hX.cl hM q1 (by decide)).mo q1.1 (hM.cl q1) (q2.1.mo (hM.cl q1)) (by decide)))⟩⟩)⟩⟩)
theorem lw_c3 {x3 : Int32} (hn : gn G ≤ 3072) (h0 : 0 ≤ x3) (h1 : ¬ (Int32.ofNat (gn G) - 6) < x3) (hC : InvC u) (hM : InvM u) (hX : RX u) (K : ∀ v, InvC v → InvM v → RX v → Ws G L_law 1742 [(0, .ref 0), (1, .ref 2), (2, .ref 76), (3, .int x3)] [] v LQ) : Ws G L_law 365 [(0, .ref 0), (1, .ref 2), (2, .ref 76), (3, .int x3)] [] u LQ := by
  refine sg_L_law_365 (⟨vscr hn h0 h1 (j := 1) (by decide) (by decide), kI (d_teary hC) (fun a1 u1 q1 => ⟨vscr hn h0 h1 (j := 1) (by decide) (by decide), kI (e_teary (hM.cl q1.1)) (fun a2 u2 q2 => ?_)⟩)⟩)
  have z := X_tear hX hC hM q1 q2
  exact K u2 (q1.1.1.mo q2.1) q2.1.1 z.2
end LAW
