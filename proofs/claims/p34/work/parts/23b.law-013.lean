section LAW
variable {G : pG} {u : pM}
theorem lw_c44 {x3 : Int32} (hn : gn G ≤ 3072) (h0 : 0 ≤ x3) (h1 : ¬ (Int32.ofNat (gn G) - 6) < x3) (hC : InvC u) (hM : InvM u) (hX : RX u) (K : ∀ v, InvC v → InvM v → RX v → Ws G L_law 1742 [(0, .ref 0), (1, .ref 2), (2, .ref 76), (3, .int x3)] [] v LQ) : Ws G L_law 1608 [(0, .ref 0), (1, .ref 2), (2, .ref 76), (3, .int x3)] [] u LQ := by
  refine sg_L_law_1608 (⟨vscr hn h0 h1 (j := 1) (by decide) (by decide), kI (Y_gone hX hC hM) (fun a1 u1 q1 => ⟨vscr hn h0 h1 (j := 1) (by decide) (by decide), kI (Z_gone hX hM q1.1 (hM.cl q1.1)) (fun a2 u2 q2 => ?_)⟩)⟩)
  have z := X_gone hX hC hM q1 q2
  exact K u2 (q1.1.1.mo q2.1) q2.1.1 z.2
theorem lw_c45 {x3 : Int32} (hn : gn G ≤ 3072) (h0 : 0 ≤ x3) (h1 : ¬ (Int32.ofNat (gn G) - 6) < x3) (hC : InvC u) (hM : InvM u) (hX : RX u) (K : ∀ v, InvC v → InvM v → RX v → Ws G L_law 1742 [(0, .ref 0), (1, .ref 2), (2, .ref 76), (3, .int x3)] [] v LQ) : Ws G L_law 1631 [(0, .ref 0), (1, .ref 2), (2, .ref 76), (3, .int x3)] [] u LQ := by
  exact sg_L_law_1631 (kI (d_asked hC) (fun a1 u1 q1 => kI (e_asked (hM.cl q1)) (fun a2 u2 q2 => K u2 (q1.1.mo q2) q2.1 ((hX.cl hM q1 (by decide)).mo q1.1 (hM.cl q1) q2 (by decide)))))
theorem lw_c46 {x3 : Int32} (hn : gn G ≤ 3072) (h0 : 0 ≤ x3) (h1 : ¬ (Int32.ofNat (gn G) - 6) < x3) (hC : InvC u) (hM : InvM u) (hX : RX u) (K : ∀ v, InvC v → InvM v → RX v → Ws G L_law 1742 [(0, .ref 0), (1, .ref 2), (2, .ref 76), (3, .int x3)] [] v LQ) : Ws G L_law 1644 [(0, .ref 0), (1, .ref 2), (2, .ref 76), (3, .int x3)] [] u LQ := by
  exact sg_L_law_1644 (kJ (d_upper hC) (fun a1 u1 q1 => kJ (e_upper (hM.cl q1)) (fun a2 u2 q2 => K u2 (q1.1.mo q2) q2.1 ((hX.cl hM q1 (by decide)).mo q1.1 (hM.cl q1) q2 (by decide)))))
theorem lw_c47 {x3 : Int32} (hn : gn G ≤ 3072) (h0 : 0 ≤ x3) (h1 : ¬ (Int32.ofNat (gn G) - 6) < x3) (hC : InvC u) (hM : InvM u) (hX : RX u) (K : ∀ v, InvC v → InvM v → RX v → Ws G L_law 1742 [(0, .ref 0), (1, .ref 2), (2, .ref 76), (3, .int x3)] [] v LQ) : Ws G L_law 1657 [(0, .ref 0), (1, .ref 2), (2, .ref 76), (3, .int x3)] [] u LQ := by
  exact sg_L_law_1657 (kJ (d_lower hC) (fun a1 u1 q1 => kJ (e_lower (hM.cl q1)) (fun a2 u2 q2 => K u2 (q1.1.mo q2) q2.1 ((hX.cl hM q1 (by decide)).mo q1.1 (hM.cl q1) q2 (by decide)))))
end LAW
