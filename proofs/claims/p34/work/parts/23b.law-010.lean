section LAW
variable {G : pG} {u : pM}
theorem lw_c32 {x3 : Int32} (hn : gn G ≤ 3072) (h0 : 0 ≤ x3) (h1 : ¬ (Int32.ofNat (gn G) - 6) < x3) (hC : InvC u) (hM : InvM u) (hX : RX u) (K : ∀ v, InvC v → InvM v → RX v → Ws G L_law 1742 [(0, .ref 0), (1, .ref 2), (2, .ref 76), (3, .int x3)] [] v LQ) : Ws G L_law 1282 [(0, .ref 0), (1, .ref 2), (2, .ref 76), (3, .int x3)] [] u LQ := by
  refine sg_L_law_1282 (⟨vscr hn h0 h1 (j := 1) (by decide) (by decide), ⟨vscr hn h0 h1 (j := 2) (by decide) (by decide), kI (Y_joins hX hC hM) (fun a1 u1 q1 => ⟨vscr hn h0 h1 (j := 1) (by decide) (by decide), ⟨vscr hn h0 h1 (j := 2) (by decide) (by decide), kI (Z_joins hX hM q1.1 (hM.cl q1.1)) (fun a2 u2 q2 => ?_)⟩⟩)⟩⟩)
  have z := X_joins hX hC hM q1 q2
  exact ⟨fun _ => K u2 (q1.1.1.mo q2.1) q2.1.1 z.2, fun c => absurd z.1 c⟩
theorem lw_c33 {x3 : Int32} (hn : gn G ≤ 3072) (h0 : 0 ≤ x3) (h1 : ¬ (Int32.ofNat (gn G) - 6) < x3) (hC : InvC u) (hM : InvM u) (hX : RX u) (K : ∀ v, InvC v → InvM v → RX v → Ws G L_law 1742 [(0, .ref 0), (1, .ref 2), (2, .ref 76), (3, .int x3)] [] v LQ) : Ws G L_law 1315 [(0, .ref 0), (1, .ref 2), (2, .ref 76), (3, .int x3)] [] u LQ := by
  exact sg_L_law_1315 (kI (d_quiet hC) (fun a1 u1 q1 => kI (e_quiet (hM.cl q1)) (fun a2 u2 q2 => K u2 (q1.1.mo q2) q2.1 ((hX.cl hM q1 (by decide)).mo q1.1 (hM.cl q1) q2 (by decide)))))
theorem lw_c34 {x3 : Int32} (hn : gn G ≤ 3072) (h0 : 0 ≤ x3) (h1 : ¬ (Int32.ofNat (gn G) - 6) < x3) (hC : InvC u) (hM : InvM u) (hX : RX u) (K : ∀ v, InvC v → InvM v → RX v → Ws G L_law 1742 [(0, .ref 0), (1, .ref 2), (2, .ref 76), (3, .int x3)] [] v LQ) : Ws G L_law 1328 [(0, .ref 0), (1, .ref 2), (2, .ref 76), (3, .int x3)] [] u LQ := by
  exact sg_L_law_1328 (kI (d_busy hC) (fun a1 u1 q1 => kI (e_busy (hM.cl q1)) (fun a2 u2 q2 => K u2 (q1.1.mo q2) q2.1 ((hX.cl hM q1 (by decide)).mo q1.1 (hM.cl q1) q2 (by decide)))))
theorem lw_c35 {x3 : Int32} (hn : gn G ≤ 3072) (h0 : 0 ≤ x3) (h1 : ¬ (Int32.ofNat (gn G) - 6) < x3) (hC : InvC u) (hM : InvM u) (hX : RX u) (K : ∀ v, InvC v → InvM v → RX v → Ws G L_law 1742 [(0, .ref 0), (1, .ref 2), (2, .ref 76), (3, .int x3)] [] v LQ) : Ws G L_law 1341 [(0, .ref 0), (1, .ref 2), (2, .ref 76), (3, .int x3)] [] u LQ := by
  refine sg_L_law_1341 (⟨vscr hn h0 h1 (j := 1) (by decide) (by decide), ⟨vscr hn h0 h1 (j := 2) (by decide) (by decide), ⟨vscr hn h0 h1 (j := 3) (by decide) (by decide), kI (Y_note hX hC hM) (fun a1 u1 q1 => ⟨vscr hn h0 h1 (j := 1) (by decide) (by decide), ⟨vscr hn h0 h1 (j := 2) (by decide) (by decide), ⟨vscr hn h0 h1 (j := 3) (by decide) (by decide), kI (Z_note hX hM q1.1 (hM.cl q1.1)) (fun a2 u2 q2 => ?_)⟩⟩⟩)⟩⟩⟩)
  have z := X_note hX hC hM q1 q2
  exact K u2 (q1.1.1.mo q2.1) q2.1.1 z.2
end LAW
