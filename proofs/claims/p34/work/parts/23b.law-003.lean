section LAW
variable {G : pG} {u : pM}
theorem lw_c4 {x3 : Int32} (hn : gn G ≤ 3072) (h0 : 0 ≤ x3) (h1 : ¬ (Int32.ofNat (gn G) - 6) < x3) (hC : InvC u) (hM : InvM u) (hX : RX u) (K : ∀ v, InvC v → InvM v → RX v → Ws G L_law 1742 [(0, .ref 0), (1, .ref 2), (2, .ref 76), (3, .int x3)] [] v LQ) : Ws G L_law 388 [(0, .ref 0), (1, .ref 2), (2, .ref 76), (3, .int x3)] [] u LQ := by
  refine sg_L_law_388 (⟨vscr hn h0 h1 (j := 1) (by decide) (by decide), ⟨vscr hn h0 h1 (j := 2) (by decide) (by decide), ⟨vscr hn h0 h1 (j := 3) (by decide) (by decide), ⟨vscr hn h0 h1 (j := 4) (by decide) (by decide), ⟨vscr hn h0 h1 (j := 5) (by decide) (by decide), kI (d_copyy hC) (fun a1 u1 q1 => ⟨vscr hn h0 h1 (j := 1) (by decide) (by decide), ⟨vscr hn h0 h1 (j := 2) (by decide) (by decide), ⟨vscr hn h0 h1 (j := 3) (by decide) (by decide), ⟨vscr hn h0 h1 (j := 4) (by decide) (by decide), ⟨vscr hn h0 h1 (j := 5) (by decide) (by decide), kI (e_copyy (hM.cl q1.1)) (fun a2 u2 q2 => ?_)⟩⟩⟩⟩⟩)⟩⟩⟩⟩⟩)
  have z := X_copy hX hC hM q1 q2
  exact K u2 (q1.1.1.mo q2.1) q2.1.1 z.2
theorem lw_c5 {x3 : Int32} (hn : gn G ≤ 3072) (h0 : 0 ≤ x3) (h1 : ¬ (Int32.ofNat (gn G) - 6) < x3) (hC : InvC u) (hM : InvM u) (hX : RX u) (K : ∀ v, InvC v → InvM v → RX v → Ws G L_law 1742 [(0, .ref 0), (1, .ref 2), (2, .ref 76), (3, .int x3)] [] v LQ) : Ws G L_law 451 [(0, .ref 0), (1, .ref 2), (2, .ref 76), (3, .int x3)] [] u LQ := by
  exact sg_L_law_451 (⟨vscr hn h0 h1 (j := 1) (by decide) (by decide), kI (d_mean hC) (fun a1 u1 q1 => ⟨vscr hn h0 h1 (j := 1) (by decide) (by decide), kI (e_mean (hM.cl q1)) (fun a2 u2 q2 => K u2 (q1.1.mo q2) q2.1 ((hX.cl hM q1 (by decide)).mo q1.1 (hM.cl q1) q2 (by decide)))⟩)⟩)
theorem lw_c6 {x3 : Int32} (hn : gn G ≤ 3072) (h0 : 0 ≤ x3) (h1 : ¬ (Int32.ofNat (gn G) - 6) < x3) (hC : InvC u) (hM : InvM u) (hX : RX u) (K : ∀ v, InvC v → InvM v → RX v → Ws G L_law 1742 [(0, .ref 0), (1, .ref 2), (2, .ref 76), (3, .int x3)] [] v LQ) : Ws G L_law 474 [(0, .ref 0), (1, .ref 2), (2, .ref 76), (3, .int x3)] [] u LQ := by
  refine sg_L_law_474 (⟨vscr hn h0 h1 (j := 1) (by decide) (by decide), ⟨vscr hn h0 h1 (j := 2) (by decide) (by decide), kI (d_textx hC) (fun a1 u1 q1 => ⟨vscr hn h0 h1 (j := 1) (by decide) (by decide), ⟨vscr hn h0 h1 (j := 2) (by decide) (by decide), kI (e_textx (hM.cl q1.1)) (fun a2 u2 q2 => ?_)⟩⟩)⟩⟩)
  have z := X_text hX hC hM q1 q2
  exact K u2 (q1.1.1.mo q2.1) q2.1.1 z.2
theorem lw_c7 {x3 : Int32} (hn : gn G ≤ 3072) (h0 : 0 ≤ x3) (h1 : ¬ (Int32.ofNat (gn G) - 6) < x3) (hC : InvC u) (hM : InvM u) (hX : RX u) (K : ∀ v, InvC v → InvM v → RX v → Ws G L_law 1742 [(0, .ref 0), (1, .ref 2), (2, .ref 76), (3, .int x3)] [] v LQ) : Ws G L_law 507 [(0, .ref 0), (1, .ref 2), (2, .ref 76), (3, .int x3)] [] u LQ := by
  refine sg_L_law_507 (⟨vscr hn h0 h1 (j := 1) (by decide) (by decide), ⟨vscr hn h0 h1 (j := 2) (by decide) (by decide), ⟨vscr hn h0 h1 (j := 3) (by decide) (by decide), kI (d_putx hC) (fun a1 u1 q1 => ⟨vscr hn h0 h1 (j := 1) (by decide) (by decide), ⟨vscr hn h0 h1 (j := 2) (by decide) (by decide), ⟨vscr hn h0 h1 (j := 3) (by decide) (by decide), kI (e_putx (hM.cl q1.1)) (fun a2 u2 q2 => ?_)⟩⟩⟩)⟩⟩⟩)
  have z := X_put hX hC hM q1 q2
  exact K u2 (q1.1.1.mo q2.1) q2.1.1 z.2
end LAW
