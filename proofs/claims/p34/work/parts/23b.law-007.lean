section LAW
variable {G : pG} {u : pM}
theorem lw_c20 {x3 : Int32} (hn : gn G ≤ 3072) (h0 : 0 ≤ x3) (h1 : ¬ (Int32.ofNat (gn G) - 6) < x3) (hC : InvC u) (hM : InvM u) (hX : RX u) (K : ∀ v, InvC v → InvM v → RX v → Ws G L_law 1742 [(0, .ref 0), (1, .ref 2), (2, .ref 76), (3, .int x3)] [] v LQ) : Ws G L_law 866 [(0, .ref 0), (1, .ref 2), (2, .ref 76), (3, .int x3)] [] u LQ := by
  exact sg_L_law_866 (kI (d_again hC) (fun a1 u1 q1 => kI (e_again (hM.cl q1)) (fun a2 u2 q2 => K u2 (q1.1.mo q2) q2.1 ((hX.cl hM q1 (by decide)).mo q1.1 (hM.cl q1) q2 (by decide)))))
theorem lw_c21 {x3 : Int32} (hn : gn G ≤ 3072) (h0 : 0 ≤ x3) (h1 : ¬ (Int32.ofNat (gn G) - 6) < x3) (hC : InvC u) (hM : InvM u) (hX : RX u) (K : ∀ v, InvC v → InvM v → RX v → Ws G L_law 1742 [(0, .ref 0), (1, .ref 2), (2, .ref 76), (3, .int x3)] [] v LQ) : Ws G L_law 879 [(0, .ref 0), (1, .ref 2), (2, .ref 76), (3, .int x3)] [] u LQ := by
  refine sg_L_law_879 (⟨vscr hn h0 h1 (j := 1) (by decide) (by decide), kI (Y_keep hX hC hM) (fun a1 u1 q1 => ⟨vscr hn h0 h1 (j := 1) (by decide) (by decide), kI (Z_keep hX hM q1.1 (hM.cl q1.1)) (fun a2 u2 q2 => ?_)⟩)⟩)
  have z := X_keep hX hC hM q1 q2
  exact K u2 (q1.1.1.mo q2.1) q2.1.1 z.2
theorem lw_c22 {x3 : Int32} (hn : gn G ≤ 3072) (h0 : 0 ≤ x3) (h1 : ¬ (Int32.ofNat (gn G) - 6) < x3) (hC : InvC u) (hM : InvM u) (hX : RX u) (K : ∀ v, InvC v → InvM v → RX v → Ws G L_law 1742 [(0, .ref 0), (1, .ref 2), (2, .ref 76), (3, .int x3)] [] v LQ) : Ws G L_law 902 [(0, .ref 0), (1, .ref 2), (2, .ref 76), (3, .int x3)] [] u LQ := by
  refine sg_L_law_902 (⟨vscr hn h0 h1 (j := 1) (by decide) (by decide), kI (Y_on hX hC hM) (fun a1 u1 q1 => ⟨vscr hn h0 h1 (j := 1) (by decide) (by decide), kI (Z_on hX hM q1.1 (hM.cl q1.1)) (fun a2 u2 q2 => ?_)⟩)⟩)
  have z := X_on hX hC hM q1 q2
  exact K u2 (q1.1.1.mo q2.1) q2.1.1 z.2
theorem lw_c23 {x3 : Int32} (hn : gn G ≤ 3072) (h0 : 0 ≤ x3) (h1 : ¬ (Int32.ofNat (gn G) - 6) < x3) (hC : InvC u) (hM : InvM u) (hX : RX u) (K : ∀ v, InvC v → InvM v → RX v → Ws G L_law 1742 [(0, .ref 0), (1, .ref 2), (2, .ref 76), (3, .int x3)] [] v LQ) : Ws G L_law 925 [(0, .ref 0), (1, .ref 2), (2, .ref 76), (3, .int x3)] [] u LQ := by
  exact sg_L_law_925 (⟨vscr hn h0 h1 (j := 1) (by decide) (by decide), ⟨vscr hn h0 h1 (j := 2) (by decide) (by decide), kI (d_beside hC) (fun a1 u1 q1 => ⟨vscr hn h0 h1 (j := 1) (by decide) (by decide), ⟨vscr hn h0 h1 (j := 2) (by decide) (by decide), kI (e_beside (hM.cl q1)) (fun a2 u2 q2 => K u2 (q1.1.mo q2) q2.1 ((hX.cl hM q1 (by decide)).mo q1.1 (hM.cl q1) q2 (by decide)))⟩⟩)⟩⟩)
end LAW
