/-! ===== the law, its loop ===== -/
theorem InvM.cl {L : List Nat} {u u' : pM} (h : InvM u) (hc : Cl L u u') : InvM u' := by
  obtain ⟨a, b, c, d, e, f⟩ := h
  have q := hc.2.1
  refine ⟨fun n k => ?_, ?_, ?_, ?_, ?_, ?_⟩
  · by_cases g : 76 ≤ n
    · rw [q n k g]; exact a n k
    · exact ⟨fun z => by omega, fun z => by omega, fun z => by omega, fun z => by omega⟩
  · unfold szK at *; rw [q 76 10 (by decide), q 76 11 (by decide)]; exact b
  · unfold shK at *; rw [q 76 11 (by decide)]; intro s; rw [q 83 _ (by decide), q 83 _ (by decide)]; exact c s
  · rw [q 76 19 (by decide), q 76 10 (by decide)]; exact d
  · unfold kpK at *; rw [q 76 10 (by decide)]; intro k; rw [q 87 _ (by decide), q 87 _ (by decide)]; intro k0 k2; exact ⟨(e k k0 k2).1, fun s => by rw [q 87 _ (by decide)]; exact (e k k0 k2).2 s⟩
  · rw [q 76 28 (by decide)]; exact f
theorem InvC.mo {L : List Nat} {u u' : pM} (h : InvC u) (hm : Mo L u u') : InvC u' := ⟨fun o ho => by rw [hm.2.1 o 1 (by have := lt_6 ho; omega)]; exact h.1 o ho, fun o ho => by rw [hm.2.1 o 0 (by have := lt_2 ho; omega)]; exact h.2 o ho⟩
section LAW
variable {G : pG} {u : pM}
abbrev LQ : Option Value → pM → Prop := RI fun a _ => a = 1
theorem vscr {x3 j : Int32} (hn : gn G ≤ 3072) (h0 : 0 ≤ x3) (h1 : ¬ (Int32.ofNat (gn G) - 6) < x3) (j0 : 0 ≤ j) (j5 : j ≤ 5) : vp_in (x3 + j) (gn G) := by
  have e : (Int32.ofNat (gn G)).toInt = gn G := nI_toInt (by omega)
  have l : Int32.ofNat (gn G) ≤ 3072 := by
    apply Int32.le_iff_toInt_le.mpr
    have : (3072 : Int32).toInt = 3072 := by decide
    omega
  have z : 0 ≤ Int32.ofNat (gn G) := by
    apply Int32.le_iff_toInt_le.mpr
    have : (0 : Int32).toInt = 0 := by decide
    omega
  exact vin (by grind) (by grind) (by omega)
theorem vscr0 {x3 : Int32} (hn : gn G ≤ 3072) (h0 : 0 ≤ x3) (h1 : ¬ (Int32.ofNat (gn G) - 6) < x3) : vp_in x3 (gn G) := by
  have := vscr (j := 0) hn h0 h1 (by decide) (by decide)
  rwa [show x3 + 0 = x3 by grind] at this
theorem lg_same (x : Int64) : lg_cmp x x = 0 := by
  unfold lg_cmp
  rw [if_neg (fun h : x > x => Int64.lt_irrefl h), if_pos rfl]
theorem lw_c0 {x3 : Int32} (hn : gn G ≤ 3072) (h0 : 0 ≤ x3) (h1 : ¬ (Int32.ofNat (gn G) - 6) < x3) (hC : InvC u) (hM : InvM u) (hX : RX u) (K : ∀ v, InvC v → InvM v → RX v → Ws G L_law 1743 [(0, .ref 0), (1, .ref 2), (2, .ref 76), (3, .int x3)] [] v LQ) : Ws G L_law 256 [(0, .ref 0), (1, .ref 2), (2, .ref 76), (3, .int x3)] [] u LQ := by
  refine sg_L_law_256 (⟨vscr hn h0 h1 (j := 1) (by decide) (by decide), ⟨vscr hn h0 h1 (j := 2) (by decide) (by decide), kI (d_rowy hC) (fun a1 u1 q1 => ⟨vscr hn h0 h1 (j := 1) (by decide) (by decide), ⟨vscr hn h0 h1 (j := 2) (by decide) (by decide), kI (e_rowyy (hM.cl q1.1)) (fun a2 u2 q2 => ?_)⟩⟩)⟩⟩)
  have z := X_row hX hC hM q1 q2
  exact K u2 (q1.1.1.mo q2.1) q2.1.1 z.2
theorem lw_c1 {x3 : Int32} (hn : gn G ≤ 3072) (h0 : 0 ≤ x3) (h1 : ¬ (Int32.ofNat (gn G) - 6) < x3) (hC : InvC u) (hM : InvM u) (hX : RX u) (K : ∀ v, InvC v → InvM v → RX v → Ws G L_law 1743 [(0, .ref 0), (1, .ref 2), (2, .ref 76), (3, .int x3)] [] v LQ) : Ws G L_law 289 [(0, .ref 0), (1, .ref 2), (2, .ref 76), (3, .int x3)] [] u LQ := by
  refine sg_L_law_289 (⟨vscr hn h0 h1 (j := 1) (by decide) (by decide), ⟨vscr hn h0 h1 (j := 2) (by decide) (by decide), ⟨vscr hn h0 h1 (j := 3) (by decide) (by decide), kI (d_layy hC) (fun a1 u1 q1 => ⟨vscr hn h0 h1 (j := 1) (by decide) (by decide), ⟨vscr hn h0 h1 (j := 2) (by decide) (by decide), ⟨vscr hn h0 h1 (j := 3) (by decide) (by decide), kI (e_layy (hM.cl q1.1)) (fun a2 u2 q2 => ?_)⟩⟩⟩)⟩⟩⟩)
  have z := X_lay hX hC hM q1 q2
  exact K u2 (q1.1.1.mo q2.1) q2.1.1 z.2
theorem lw_c2 {x3 : Int32} (hn : gn G ≤ 3072) (h0 : 0 ≤ x3) (h1 : ¬ (Int32.ofNat (gn G) - 6) < x3) (hC : InvC u) (hM : InvM u) (hX : RX u) (K : ∀ v, InvC v → InvM v → RX v → Ws G L_law 1743 [(0, .ref 0), (1, .ref 2), (2, .ref 76), (3, .int x3)] [] v LQ) : Ws G L_law 332 [(0, .ref 0), (1, .ref 2), (2, .ref 76), (3, .int x3)] [] u LQ := by
  exact sg_L_law_332 (⟨vscr hn h0 h1 (j := 1) (by decide) (by decide), ⟨vscr hn h0 h1 (j := 2) (by decide) (by decide), kI (d_at hC) (fun a1 u1 q1 => ⟨vscr hn h0 h1 (j := 1) (by decide) (by decide), ⟨vscr hn h0 h1 (j := 2) (by decide) (by decide), kI (e_at (hM.cl q1)) (fun a2 u2 q2 => K u2 (q1.1.mo (q2.1.mo (hM.cl q1))) (q2.1.mo (hM.cl q1)).1 ((hX.cl hM q1 (by decide)).mo q1.1 (hM.cl q1) (q2.1.mo (hM.cl q1)) (by decide)))⟩⟩)⟩⟩)
theorem lw_c3 {x3 : Int32} (hn : gn G ≤ 3072) (h0 : 0 ≤ x3) (h1 : ¬ (Int32.ofNat (gn G) - 6) < x3) (hC : InvC u) (hM : InvM u) (hX : RX u) (K : ∀ v, InvC v → InvM v → RX v → Ws G L_law 1743 [(0, .ref 0), (1, .ref 2), (2, .ref 76), (3, .int x3)] [] v LQ) : Ws G L_law 365 [(0, .ref 0), (1, .ref 2), (2, .ref 76), (3, .int x3)] [] u LQ := by
  refine sg_L_law_365 (⟨vscr hn h0 h1 (j := 1) (by decide) (by decide), kI (d_teary hC) (fun a1 u1 q1 => ⟨vscr hn h0 h1 (j := 1) (by decide) (by decide), kI (e_teary (hM.cl q1.1)) (fun a2 u2 q2 => ?_)⟩)⟩)
  have z := X_tear hX hC hM q1 q2
  exact K u2 (q1.1.1.mo q2.1) q2.1.1 z.2
theorem lw_c4 {x3 : Int32} (hn : gn G ≤ 3072) (h0 : 0 ≤ x3) (h1 : ¬ (Int32.ofNat (gn G) - 6) < x3) (hC : InvC u) (hM : InvM u) (hX : RX u) (K : ∀ v, InvC v → InvM v → RX v → Ws G L_law 1743 [(0, .ref 0), (1, .ref 2), (2, .ref 76), (3, .int x3)] [] v LQ) : Ws G L_law 388 [(0, .ref 0), (1, .ref 2), (2, .ref 76), (3, .int x3)] [] u LQ := by
  refine sg_L_law_388 (⟨vscr hn h0 h1 (j := 1) (by decide) (by decide), ⟨vscr hn h0 h1 (j := 2) (by decide) (by decide), ⟨vscr hn h0 h1 (j := 3) (by decide) (by decide), ⟨vscr hn h0 h1 (j := 4) (by decide) (by decide), ⟨vscr hn h0 h1 (j := 5) (by decide) (by decide), kI (d_copyy hC) (fun a1 u1 q1 => ⟨vscr hn h0 h1 (j := 1) (by decide) (by decide), ⟨vscr hn h0 h1 (j := 2) (by decide) (by decide), ⟨vscr hn h0 h1 (j := 3) (by decide) (by decide), ⟨vscr hn h0 h1 (j := 4) (by decide) (by decide), ⟨vscr hn h0 h1 (j := 5) (by decide) (by decide), kI (e_copyy (hM.cl q1.1)) (fun a2 u2 q2 => ?_)⟩⟩⟩⟩⟩)⟩⟩⟩⟩⟩)
  have z := X_copy hX hC hM q1 q2
  exact K u2 (q1.1.1.mo q2.1) q2.1.1 z.2
theorem lw_c5 {x3 : Int32} (hn : gn G ≤ 3072) (h0 : 0 ≤ x3) (h1 : ¬ (Int32.ofNat (gn G) - 6) < x3) (hC : InvC u) (hM : InvM u) (hX : RX u) (K : ∀ v, InvC v → InvM v → RX v → Ws G L_law 1743 [(0, .ref 0), (1, .ref 2), (2, .ref 76), (3, .int x3)] [] v LQ) : Ws G L_law 451 [(0, .ref 0), (1, .ref 2), (2, .ref 76), (3, .int x3)] [] u LQ := by
  exact sg_L_law_451 (⟨vscr hn h0 h1 (j := 1) (by decide) (by decide), kI (d_mean hC) (fun a1 u1 q1 => ⟨vscr hn h0 h1 (j := 1) (by decide) (by decide), kI (e_mean (hM.cl q1)) (fun a2 u2 q2 => K u2 (q1.1.mo q2) q2.1 ((hX.cl hM q1 (by decide)).mo q1.1 (hM.cl q1) q2 (by decide)))⟩)⟩)
theorem lw_c6 {x3 : Int32} (hn : gn G ≤ 3072) (h0 : 0 ≤ x3) (h1 : ¬ (Int32.ofNat (gn G) - 6) < x3) (hC : InvC u) (hM : InvM u) (hX : RX u) (K : ∀ v, InvC v → InvM v → RX v → Ws G L_law 1743 [(0, .ref 0), (1, .ref 2), (2, .ref 76), (3, .int x3)] [] v LQ) : Ws G L_law 474 [(0, .ref 0), (1, .ref 2), (2, .ref 76), (3, .int x3)] [] u LQ := by
  refine sg_L_law_474 (⟨vscr hn h0 h1 (j := 1) (by decide) (by decide), ⟨vscr hn h0 h1 (j := 2) (by decide) (by decide), kI (d_textx hC) (fun a1 u1 q1 => ⟨vscr hn h0 h1 (j := 1) (by decide) (by decide), ⟨vscr hn h0 h1 (j := 2) (by decide) (by decide), kI (e_textx (hM.cl q1.1)) (fun a2 u2 q2 => ?_)⟩⟩)⟩⟩)
  have z := X_text hX hC hM q1 q2
  exact K u2 (q1.1.1.mo q2.1) q2.1.1 z.2
theorem lw_c7 {x3 : Int32} (hn : gn G ≤ 3072) (h0 : 0 ≤ x3) (h1 : ¬ (Int32.ofNat (gn G) - 6) < x3) (hC : InvC u) (hM : InvM u) (hX : RX u) (K : ∀ v, InvC v → InvM v → RX v → Ws G L_law 1743 [(0, .ref 0), (1, .ref 2), (2, .ref 76), (3, .int x3)] [] v LQ) : Ws G L_law 507 [(0, .ref 0), (1, .ref 2), (2, .ref 76), (3, .int x3)] [] u LQ := by
  refine sg_L_law_507 (⟨vscr hn h0 h1 (j := 1) (by decide) (by decide), ⟨vscr hn h0 h1 (j := 2) (by decide) (by decide), ⟨vscr hn h0 h1 (j := 3) (by decide) (by decide), kI (d_putx hC) (fun a1 u1 q1 => ⟨vscr hn h0 h1 (j := 1) (by decide) (by decide), ⟨vscr hn h0 h1 (j := 2) (by decide) (by decide), ⟨vscr hn h0 h1 (j := 3) (by decide) (by decide), kI (e_putx (hM.cl q1.1)) (fun a2 u2 q2 => ?_)⟩⟩⟩)⟩⟩⟩)
  have z := X_put hX hC hM q1 q2
  exact K u2 (q1.1.1.mo q2.1) q2.1.1 z.2
theorem lw_c8 {x3 : Int32} (hn : gn G ≤ 3072) (h0 : 0 ≤ x3) (h1 : ¬ (Int32.ofNat (gn G) - 6) < x3) (hC : InvC u) (hM : InvM u) (hX : RX u) (K : ∀ v, InvC v → InvM v → RX v → Ws G L_law 1743 [(0, .ref 0), (1, .ref 2), (2, .ref 76), (3, .int x3)] [] v LQ) : Ws G L_law 550 [(0, .ref 0), (1, .ref 2), (2, .ref 76), (3, .int x3)] [] u LQ := by
  exact sg_L_law_550 (⟨vscr hn h0 h1 (j := 1) (by decide) (by decide), kI (d_fault hC) (fun a1 u1 q1 => ⟨vscr hn h0 h1 (j := 1) (by decide) (by decide), kI (e_fault (hM.cl q1)) (fun a2 u2 q2 => K u2 (q1.1.mo q2) q2.1 ((hX.fault hM q1).mo q1.1 (hM.cl q1) q2 (by decide)))⟩)⟩)
theorem lw_c9 {x3 : Int32} (hn : gn G ≤ 3072) (h0 : 0 ≤ x3) (h1 : ¬ (Int32.ofNat (gn G) - 6) < x3) (hC : InvC u) (hM : InvM u) (hX : RX u) (K : ∀ v, InvC v → InvM v → RX v → Ws G L_law 1743 [(0, .ref 0), (1, .ref 2), (2, .ref 76), (3, .int x3)] [] v LQ) : Ws G L_law 573 [(0, .ref 0), (1, .ref 2), (2, .ref 76), (3, .int x3)] [] u LQ := by
  refine sg_L_law_573 (⟨vscr hn h0 h1 (j := 1) (by decide) (by decide), kI (d_squarex hC) (fun a1 u1 q1 => ⟨vscr hn h0 h1 (j := 1) (by decide) (by decide), kI (e_squarex (hM.cl q1.1)) (fun a2 u2 q2 => ?_)⟩)⟩)
  have z := X_square hX hC hM q1 q2
  exact K u2 (q1.1.1.mo q2.1) q2.1.1 z.2
theorem lw_c10 {x3 : Int32} (hn : gn G ≤ 3072) (h0 : 0 ≤ x3) (h1 : ¬ (Int32.ofNat (gn G) - 6) < x3) (hC : InvC u) (hM : InvM u) (hX : RX u) (K : ∀ v, InvC v → InvM v → RX v → Ws G L_law 1743 [(0, .ref 0), (1, .ref 2), (2, .ref 76), (3, .int x3)] [] v LQ) : Ws G L_law 596 [(0, .ref 0), (1, .ref 2), (2, .ref 76), (3, .int x3)] [] u LQ := by
  exact sg_L_law_596 (⟨vscr hn h0 h1 (j := 1) (by decide) (by decide), ⟨vscr hn h0 h1 (j := 2) (by decide) (by decide), kI (d_about hC) (fun a1 u1 q1 => ⟨vscr hn h0 h1 (j := 1) (by decide) (by decide), ⟨vscr hn h0 h1 (j := 2) (by decide) (by decide), kI (e_about (hM.cl q1)) (fun a2 u2 q2 => K u2 (q1.1.mo q2) q2.1 ((hX.cl hM q1 (by decide)).mo q1.1 (hM.cl q1) q2 (by decide)))⟩⟩)⟩⟩)
theorem lw_c11 {x3 : Int32} (hn : gn G ≤ 3072) (h0 : 0 ≤ x3) (h1 : ¬ (Int32.ofNat (gn G) - 6) < x3) (hC : InvC u) (hM : InvM u) (hX : RX u) (K : ∀ v, InvC v → InvM v → RX v → Ws G L_law 1743 [(0, .ref 0), (1, .ref 2), (2, .ref 76), (3, .int x3)] [] v LQ) : Ws G L_law 629 [(0, .ref 0), (1, .ref 2), (2, .ref 76), (3, .int x3)] [] u LQ := by
  exact sg_L_law_629 (⟨vscr hn h0 h1 (j := 1) (by decide) (by decide), ⟨vscr hn h0 h1 (j := 2) (by decide) (by decide), kI (d_mark hC) (fun a1 u1 q1 => ⟨vscr hn h0 h1 (j := 1) (by decide) (by decide), ⟨vscr hn h0 h1 (j := 2) (by decide) (by decide), kI (e_mark (hM.cl q1)) (fun a2 u2 q2 => K u2 (q1.1.mo q2) q2.1 ((hX.cl hM q1 (by decide)).mo q1.1 (hM.cl q1) q2 (by decide)))⟩⟩)⟩⟩)
theorem lw_c12 {x3 : Int32} (hn : gn G ≤ 3072) (h0 : 0 ≤ x3) (h1 : ¬ (Int32.ofNat (gn G) - 6) < x3) (hC : InvC u) (hM : InvM u) (hX : RX u) (K : ∀ v, InvC v → InvM v → RX v → Ws G L_law 1743 [(0, .ref 0), (1, .ref 2), (2, .ref 76), (3, .int x3)] [] v LQ) : Ws G L_law 662 [(0, .ref 0), (1, .ref 2), (2, .ref 76), (3, .int x3)] [] u LQ := by
  refine sg_L_law_662 (⟨vscr hn h0 h1 (j := 1) (by decide) (by decide), kI (Y_shut hX hC hM) (fun a1 u1 q1 => ⟨vscr hn h0 h1 (j := 1) (by decide) (by decide), kI (Z_shut hX hM q1.1 (hM.cl q1.1)) (fun a2 u2 q2 => ?_)⟩)⟩)
  have z := X_shut hX hC hM q1 q2
  exact K u2 (q1.1.1.mo q2.1) q2.1.1 z.2
theorem lw_c13 {x3 : Int32} (hn : gn G ≤ 3072) (h0 : 0 ≤ x3) (h1 : ¬ (Int32.ofNat (gn G) - 6) < x3) (hC : InvC u) (hM : InvM u) (hX : RX u) (K : ∀ v, InvC v → InvM v → RX v → Ws G L_law 1743 [(0, .ref 0), (1, .ref 2), (2, .ref 76), (3, .int x3)] [] v LQ) : Ws G L_law 685 [(0, .ref 0), (1, .ref 2), (2, .ref 76), (3, .int x3)] [] u LQ := by
  refine sg_L_law_685 (⟨vscr hn h0 h1 (j := 1) (by decide) (by decide), kI (Y_open hX hC hM) (fun a1 u1 q1 => ⟨vscr hn h0 h1 (j := 1) (by decide) (by decide), kI (Z_open hX hM q1.1 (hM.cl q1.1)) (fun a2 u2 q2 => ?_)⟩)⟩)
  have z := X_open hX hC hM q1 q2
  exact K u2 (q1.1.1.mo q2.1) q2.1.1 z.2
theorem lw_c14 {x3 : Int32} (hn : gn G ≤ 3072) (h0 : 0 ≤ x3) (h1 : ¬ (Int32.ofNat (gn G) - 6) < x3) (hC : InvC u) (hM : InvM u) (hX : RX u) (K : ∀ v, InvC v → InvM v → RX v → Ws G L_law 1743 [(0, .ref 0), (1, .ref 2), (2, .ref 76), (3, .int x3)] [] v LQ) : Ws G L_law 708 [(0, .ref 0), (1, .ref 2), (2, .ref 76), (3, .int x3)] [] u LQ := by
  refine sg_L_law_708 (⟨vscr hn h0 h1 (j := 1) (by decide) (by decide), kI (Y_go hX hC hM) (fun a1 u1 q1 => ⟨vscr hn h0 h1 (j := 1) (by decide) (by decide), kI (Z_go hX hM q1.1 (hM.cl q1.1)) (fun a2 u2 q2 => ?_)⟩)⟩)
  have z := X_go hX hC hM q1 q2
  exact K u2 (q1.1.1.mo q2.1) q2.1.1 z.2
theorem lw_c15 {x3 : Int32} (hn : gn G ≤ 3072) (h0 : 0 ≤ x3) (h1 : ¬ (Int32.ofNat (gn G) - 6) < x3) (hC : InvC u) (hM : InvM u) (hX : RX u) (K : ∀ v, InvC v → InvM v → RX v → Ws G L_law 1743 [(0, .ref 0), (1, .ref 2), (2, .ref 76), (3, .int x3)] [] v LQ) : Ws G L_law 731 [(0, .ref 0), (1, .ref 2), (2, .ref 76), (3, .int x3)] [] u LQ := by
  refine sg_L_law_731 (⟨vscr hn h0 h1 (j := 1) (by decide) (by decide), kI (Y_doors hX hC hM) (fun a1 u1 q1 => ⟨vscr hn h0 h1 (j := 1) (by decide) (by decide), kI (Z_doors hX hM q1.1 (hM.cl q1.1)) (fun a2 u2 q2 => ?_)⟩)⟩)
  have z := X_doors hX hC hM q1 q2
  exact K u2 (q1.1.1.mo q2.1) q2.1.1 z.2
theorem lw_c16 {x3 : Int32} (hn : gn G ≤ 3072) (h0 : 0 ≤ x3) (h1 : ¬ (Int32.ofNat (gn G) - 6) < x3) (hC : InvC u) (hM : InvM u) (hX : RX u) (K : ∀ v, InvC v → InvM v → RX v → Ws G L_law 1743 [(0, .ref 0), (1, .ref 2), (2, .ref 76), (3, .int x3)] [] v LQ) : Ws G L_law 754 [(0, .ref 0), (1, .ref 2), (2, .ref 76), (3, .int x3)] [] u LQ := by
  exact sg_L_law_754 (⟨vscr hn h0 h1 (j := 1) (by decide) (by decide), kI (d_who hC) (fun a1 u1 q1 => ⟨vscr hn h0 h1 (j := 1) (by decide) (by decide), kI (e_who (hM.cl q1)) (fun a2 u2 q2 => K u2 (q1.1.mo q2) q2.1 ((hX.cl hM q1 (by decide)).mo q1.1 (hM.cl q1) q2 (by decide)))⟩)⟩)
theorem lw_c17 {x3 : Int32} (hn : gn G ≤ 3072) (h0 : 0 ≤ x3) (h1 : ¬ (Int32.ofNat (gn G) - 6) < x3) (hC : InvC u) (hM : InvM u) (hX : RX u) (K : ∀ v, InvC v → InvM v → RX v → Ws G L_law 1743 [(0, .ref 0), (1, .ref 2), (2, .ref 76), (3, .int x3)] [] v LQ) : Ws G L_law 777 [(0, .ref 0), (1, .ref 2), (2, .ref 76), (3, .int x3)] [] u LQ := by
  exact sg_L_law_777 (⟨vscr hn h0 h1 (j := 1) (by decide) (by decide), kI (d_wants hC) (fun a1 u1 q1 => ⟨vscr hn h0 h1 (j := 1) (by decide) (by decide), kI (e_wants (hM.cl q1)) (fun a2 u2 q2 => K u2 (q1.1.mo q2) q2.1 ((hX.cl hM q1 (by decide)).mo q1.1 (hM.cl q1) q2 (by decide)))⟩)⟩)
theorem lw_c18 {x3 : Int32} (hn : gn G ≤ 3072) (h0 : 0 ≤ x3) (h1 : ¬ (Int32.ofNat (gn G) - 6) < x3) (hC : InvC u) (hM : InvM u) (hX : RX u) (K : ∀ v, InvC v → InvM v → RX v → Ws G L_law 1743 [(0, .ref 0), (1, .ref 2), (2, .ref 76), (3, .int x3)] [] v LQ) : Ws G L_law 800 [(0, .ref 0), (1, .ref 2), (2, .ref 76), (3, .int x3)] [] u LQ := by
  exact sg_L_law_800 (⟨vscr hn h0 h1 (j := 1) (by decide) (by decide), ⟨vscr hn h0 h1 (j := 2) (by decide) (by decide), kI (d_where hC) (fun a1 u1 q1 => ⟨vscr hn h0 h1 (j := 1) (by decide) (by decide), ⟨vscr hn h0 h1 (j := 2) (by decide) (by decide), kI (e_where (hM.cl q1)) (fun a2 u2 q2 => K u2 (q1.1.mo q2) q2.1 ((hX.cl hM q1 (by decide)).mo q1.1 (hM.cl q1) q2 (by decide)))⟩⟩)⟩⟩)
theorem lw_c19 {x3 : Int32} (hn : gn G ≤ 3072) (h0 : 0 ≤ x3) (h1 : ¬ (Int32.ofNat (gn G) - 6) < x3) (hC : InvC u) (hM : InvM u) (hX : RX u) (K : ∀ v, InvC v → InvM v → RX v → Ws G L_law 1743 [(0, .ref 0), (1, .ref 2), (2, .ref 76), (3, .int x3)] [] v LQ) : Ws G L_law 833 [(0, .ref 0), (1, .ref 2), (2, .ref 76), (3, .int x3)] [] u LQ := by
  exact sg_L_law_833 (⟨vscr hn h0 h1 (j := 1) (by decide) (by decide), ⟨vscr hn h0 h1 (j := 2) (by decide) (by decide), kI (d_plainly hC) (fun a1 u1 q1 => ⟨vscr hn h0 h1 (j := 1) (by decide) (by decide), ⟨vscr hn h0 h1 (j := 2) (by decide) (by decide), kI (e_plainly (hM.cl q1)) (fun a2 u2 q2 => K u2 (q1.1.mo q2) q2.1 ((hX.cl hM q1 (by decide)).mo q1.1 (hM.cl q1) q2 (by decide)))⟩⟩)⟩⟩)
theorem lw_c20 {x3 : Int32} (hn : gn G ≤ 3072) (h0 : 0 ≤ x3) (h1 : ¬ (Int32.ofNat (gn G) - 6) < x3) (hC : InvC u) (hM : InvM u) (hX : RX u) (K : ∀ v, InvC v → InvM v → RX v → Ws G L_law 1743 [(0, .ref 0), (1, .ref 2), (2, .ref 76), (3, .int x3)] [] v LQ) : Ws G L_law 866 [(0, .ref 0), (1, .ref 2), (2, .ref 76), (3, .int x3)] [] u LQ := by
  exact sg_L_law_866 (kI (d_again hC) (fun a1 u1 q1 => kI (e_again (hM.cl q1)) (fun a2 u2 q2 => K u2 (q1.1.mo q2) q2.1 ((hX.cl hM q1 (by decide)).mo q1.1 (hM.cl q1) q2 (by decide)))))
theorem lw_c21 {x3 : Int32} (hn : gn G ≤ 3072) (h0 : 0 ≤ x3) (h1 : ¬ (Int32.ofNat (gn G) - 6) < x3) (hC : InvC u) (hM : InvM u) (hX : RX u) (K : ∀ v, InvC v → InvM v → RX v → Ws G L_law 1743 [(0, .ref 0), (1, .ref 2), (2, .ref 76), (3, .int x3)] [] v LQ) : Ws G L_law 879 [(0, .ref 0), (1, .ref 2), (2, .ref 76), (3, .int x3)] [] u LQ := by
  refine sg_L_law_879 (⟨vscr hn h0 h1 (j := 1) (by decide) (by decide), kI (Y_keep hX hC hM) (fun a1 u1 q1 => ⟨vscr hn h0 h1 (j := 1) (by decide) (by decide), kI (Z_keep hX hM q1.1 (hM.cl q1.1)) (fun a2 u2 q2 => ?_)⟩)⟩)
  have z := X_keep hX hC hM q1 q2
  exact K u2 (q1.1.1.mo q2.1) q2.1.1 z.2
theorem lw_c22 {x3 : Int32} (hn : gn G ≤ 3072) (h0 : 0 ≤ x3) (h1 : ¬ (Int32.ofNat (gn G) - 6) < x3) (hC : InvC u) (hM : InvM u) (hX : RX u) (K : ∀ v, InvC v → InvM v → RX v → Ws G L_law 1743 [(0, .ref 0), (1, .ref 2), (2, .ref 76), (3, .int x3)] [] v LQ) : Ws G L_law 902 [(0, .ref 0), (1, .ref 2), (2, .ref 76), (3, .int x3)] [] u LQ := by
  refine sg_L_law_902 (⟨vscr hn h0 h1 (j := 1) (by decide) (by decide), kI (Y_on hX hC hM) (fun a1 u1 q1 => ⟨vscr hn h0 h1 (j := 1) (by decide) (by decide), kI (Z_on hX hM q1.1 (hM.cl q1.1)) (fun a2 u2 q2 => ?_)⟩)⟩)
  have z := X_on hX hC hM q1 q2
  exact K u2 (q1.1.1.mo q2.1) q2.1.1 z.2
theorem lw_c23 {x3 : Int32} (hn : gn G ≤ 3072) (h0 : 0 ≤ x3) (h1 : ¬ (Int32.ofNat (gn G) - 6) < x3) (hC : InvC u) (hM : InvM u) (hX : RX u) (K : ∀ v, InvC v → InvM v → RX v → Ws G L_law 1743 [(0, .ref 0), (1, .ref 2), (2, .ref 76), (3, .int x3)] [] v LQ) : Ws G L_law 925 [(0, .ref 0), (1, .ref 2), (2, .ref 76), (3, .int x3)] [] u LQ := by
  exact sg_L_law_925 (⟨vscr hn h0 h1 (j := 1) (by decide) (by decide), ⟨vscr hn h0 h1 (j := 2) (by decide) (by decide), kI (d_beside hC) (fun a1 u1 q1 => ⟨vscr hn h0 h1 (j := 1) (by decide) (by decide), ⟨vscr hn h0 h1 (j := 2) (by decide) (by decide), kI (e_beside (hM.cl q1)) (fun a2 u2 q2 => K u2 (q1.1.mo q2) q2.1 ((hX.cl hM q1 (by decide)).mo q1.1 (hM.cl q1) q2 (by decide)))⟩⟩)⟩⟩)
theorem lw_c24 {x3 : Int32} (hn : gn G ≤ 3072) (h0 : 0 ≤ x3) (h1 : ¬ (Int32.ofNat (gn G) - 6) < x3) (hC : InvC u) (hM : InvM u) (hX : RX u) (K : ∀ v, InvC v → InvM v → RX v → Ws G L_law 1743 [(0, .ref 0), (1, .ref 2), (2, .ref 76), (3, .int x3)] [] v LQ) : Ws G L_law 958 [(0, .ref 0), (1, .ref 2), (2, .ref 76), (3, .int x3)] [] u LQ := by
  exact sg_L_law_958 (⟨vscr hn h0 h1 (j := 1) (by decide) (by decide), ⟨vscr hn h0 h1 (j := 2) (by decide) (by decide), kI (d_comes hC) (fun a1 u1 q1 => ⟨vscr hn h0 h1 (j := 1) (by decide) (by decide), ⟨vscr hn h0 h1 (j := 2) (by decide) (by decide), kI (e_comes (hM.cl q1)) (fun a2 u2 q2 => K u2 (q1.1.mo q2) q2.1 ((hX.cl hM q1 (by decide)).mo q1.1 (hM.cl q1) q2 (by decide)))⟩⟩)⟩⟩)
theorem lw_c25 {x3 : Int32} (hn : gn G ≤ 3072) (h0 : 0 ≤ x3) (h1 : ¬ (Int32.ofNat (gn G) - 6) < x3) (hC : InvC u) (hM : InvM u) (hX : RX u) (K : ∀ v, InvC v → InvM v → RX v → Ws G L_law 1743 [(0, .ref 0), (1, .ref 2), (2, .ref 76), (3, .int x3)] [] v LQ) : Ws G L_law 991 [(0, .ref 0), (1, .ref 2), (2, .ref 76), (3, .int x3)] [] u LQ := by
  exact sg_L_law_991 (⟨vscr hn h0 h1 (j := 1) (by decide) (by decide), ⟨vscr hn h0 h1 (j := 2) (by decide) (by decide), ⟨vscr hn h0 h1 (j := 3) (by decide) (by decide), kI (d_meets hC) (fun a1 u1 q1 => ⟨vscr hn h0 h1 (j := 1) (by decide) (by decide), ⟨vscr hn h0 h1 (j := 2) (by decide) (by decide), ⟨vscr hn h0 h1 (j := 3) (by decide) (by decide), kI (e_meets (hM.cl q1)) (fun a2 u2 q2 => K u2 (q1.1.mo q2) q2.1 ((hX.cl hM q1 (by decide)).mo q1.1 (hM.cl q1) q2 (by decide)))⟩⟩⟩)⟩⟩⟩)
theorem lw_c26 {x3 : Int32} (hn : gn G ≤ 3072) (h0 : 0 ≤ x3) (h1 : ¬ (Int32.ofNat (gn G) - 6) < x3) (hC : InvC u) (hM : InvM u) (hX : RX u) (K : ∀ v, InvC v → InvM v → RX v → Ws G L_law 1743 [(0, .ref 0), (1, .ref 2), (2, .ref 76), (3, .int x3)] [] v LQ) : Ws G L_law 1034 [(0, .ref 0), (1, .ref 2), (2, .ref 76), (3, .int x3)] [] u LQ := by
  exact sg_L_law_1034 (⟨vscr hn h0 h1 (j := 1) (by decide) (by decide), ⟨vscr hn h0 h1 (j := 2) (by decide) (by decide), ⟨vscr hn h0 h1 (j := 3) (by decide) (by decide), kI (d_never hC) (fun a1 u1 q1 => ⟨vscr hn h0 h1 (j := 1) (by decide) (by decide), ⟨vscr hn h0 h1 (j := 2) (by decide) (by decide), ⟨vscr hn h0 h1 (j := 3) (by decide) (by decide), kI (e_never (hM.cl q1)) (fun a2 u2 q2 => K u2 (q1.1.mo q2) q2.1 ((hX.cl hM q1 (by decide)).mo q1.1 (hM.cl q1) q2 (by decide)))⟩⟩⟩)⟩⟩⟩)
theorem lw_c27 {x3 : Int32} (hn : gn G ≤ 3072) (h0 : 0 ≤ x3) (h1 : ¬ (Int32.ofNat (gn G) - 6) < x3) (hC : InvC u) (hM : InvM u) (hX : RX u) (K : ∀ v, InvC v → InvM v → RX v → Ws G L_law 1743 [(0, .ref 0), (1, .ref 2), (2, .ref 76), (3, .int x3)] [] v LQ) : Ws G L_law 1077 [(0, .ref 0), (1, .ref 2), (2, .ref 76), (3, .int x3)] [] u LQ := by
  exact sg_L_law_1077 (⟨vscr hn h0 h1 (j := 1) (by decide) (by decide), ⟨vscr hn h0 h1 (j := 2) (by decide) (by decide), kI (d_walk hC) (fun a1 u1 q1 => ⟨vscr hn h0 h1 (j := 1) (by decide) (by decide), ⟨vscr hn h0 h1 (j := 2) (by decide) (by decide), kI (e_walk (hM.cl q1)) (fun a2 u2 q2 => K u2 (q1.1.mo q2) q2.1 ((hX.cl hM q1 (by decide)).mo q1.1 (hM.cl q1) q2 (by decide)))⟩⟩)⟩⟩)
theorem lw_c28 {x3 : Int32} (hn : gn G ≤ 3072) (h0 : 0 ≤ x3) (h1 : ¬ (Int32.ofNat (gn G) - 6) < x3) (hC : InvC u) (hM : InvM u) (hX : RX u) (K : ∀ v, InvC v → InvM v → RX v → Ws G L_law 1743 [(0, .ref 0), (1, .ref 2), (2, .ref 76), (3, .int x3)] [] v LQ) : Ws G L_law 1110 [(0, .ref 0), (1, .ref 2), (2, .ref 76), (3, .int x3)] [] u LQ := by
  exact sg_L_law_1110 (⟨vscr hn h0 h1 (j := 1) (by decide) (by decide), ⟨vscr hn h0 h1 (j := 2) (by decide) (by decide), kI (d_round hC) (fun a1 u1 q1 => ⟨vscr hn h0 h1 (j := 1) (by decide) (by decide), ⟨vscr hn h0 h1 (j := 2) (by decide) (by decide), kI (e_round (hM.cl q1)) (fun a2 u2 q2 => K u2 (q1.1.mo q2) q2.1 ((hX.cl hM q1 (by decide)).mo q1.1 (hM.cl q1) q2 (by decide)))⟩⟩)⟩⟩)
theorem lw_c29 {x3 : Int32} (hn : gn G ≤ 3072) (h0 : 0 ≤ x3) (h1 : ¬ (Int32.ofNat (gn G) - 6) < x3) (hC : InvC u) (hM : InvM u) (hX : RX u) (K : ∀ v, InvC v → InvM v → RX v → Ws G L_law 1743 [(0, .ref 0), (1, .ref 2), (2, .ref 76), (3, .int x3)] [] v LQ) : Ws G L_law 1143 [(0, .ref 0), (1, .ref 2), (2, .ref 76), (3, .int x3)] [] u LQ := by
  exact sg_L_law_1143 (⟨vscr hn h0 h1 (j := 1) (by decide) (by decide), ⟨vscr hn h0 h1 (j := 2) (by decide) (by decide), ⟨vscr hn h0 h1 (j := 3) (by decide) (by decide), kI (d_best hC) (fun a1 u1 q1 => ⟨vscr hn h0 h1 (j := 1) (by decide) (by decide), ⟨vscr hn h0 h1 (j := 2) (by decide) (by decide), ⟨vscr hn h0 h1 (j := 3) (by decide) (by decide), kI (e_best (hM.cl q1)) (fun a2 u2 q2 => K u2 (q1.1.mo q2) q2.1 ((hX.cl hM q1 (by decide)).mo q1.1 (hM.cl q1) q2 (by decide)))⟩⟩⟩)⟩⟩⟩)
theorem lw_c30 {x3 : Int32} (hn : gn G ≤ 3072) (h0 : 0 ≤ x3) (h1 : ¬ (Int32.ofNat (gn G) - 6) < x3) (hC : InvC u) (hM : InvM u) (hX : RX u) (K : ∀ v, InvC v → InvM v → RX v → Ws G L_law 1743 [(0, .ref 0), (1, .ref 2), (2, .ref 76), (3, .int x3)] [] v LQ) : Ws G L_law 1186 [(0, .ref 0), (1, .ref 2), (2, .ref 76), (3, .int x3)] [] u LQ := by
  refine sg_L_law_1186 (⟨vscr hn h0 h1 (j := 1) (by decide) (by decide), ⟨vscr hn h0 h1 (j := 2) (by decide) (by decide), ⟨vscr hn h0 h1 (j := 3) (by decide) (by decide), ⟨vscr hn h0 h1 (j := 4) (by decide) (by decide), kI (d_errandsy hC) (fun a1 u1 q1 => ⟨vscr hn h0 h1 (j := 1) (by decide) (by decide), ⟨vscr hn h0 h1 (j := 2) (by decide) (by decide), ⟨vscr hn h0 h1 (j := 3) (by decide) (by decide), ⟨vscr hn h0 h1 (j := 4) (by decide) (by decide), kI (e_errandsy (hM.cl q1.1)) (fun a2 u2 q2 => ?_)⟩⟩⟩⟩)⟩⟩⟩⟩)
  have z := X_errands hX hC hM q1 q2
  exact K u2 (q1.1.1.mo q2.1) q2.1.1 z.2
theorem lw_c31 {x3 : Int32} (hn : gn G ≤ 3072) (h0 : 0 ≤ x3) (h1 : ¬ (Int32.ofNat (gn G) - 6) < x3) (hC : InvC u) (hM : InvM u) (hX : RX u) (K : ∀ v, InvC v → InvM v → RX v → Ws G L_law 1743 [(0, .ref 0), (1, .ref 2), (2, .ref 76), (3, .int x3)] [] v LQ) : Ws G L_law 1239 [(0, .ref 0), (1, .ref 2), (2, .ref 76), (3, .int x3)] [] u LQ := by
  exact sg_L_law_1239 (⟨vscr hn h0 h1 (j := 1) (by decide) (by decide), ⟨vscr hn h0 h1 (j := 2) (by decide) (by decide), ⟨vscr hn h0 h1 (j := 3) (by decide) (by decide), kI (d_agree hC) (fun a1 u1 q1 => ⟨vscr hn h0 h1 (j := 1) (by decide) (by decide), ⟨vscr hn h0 h1 (j := 2) (by decide) (by decide), ⟨vscr hn h0 h1 (j := 3) (by decide) (by decide), kI (e_agree (hM.cl q1)) (fun a2 u2 q2 => K u2 (q1.1.mo q2) q2.1 ((hX.cl hM q1 (by decide)).mo q1.1 (hM.cl q1) q2 (by decide)))⟩⟩⟩)⟩⟩⟩)
theorem lw_c32 {x3 : Int32} (hn : gn G ≤ 3072) (h0 : 0 ≤ x3) (h1 : ¬ (Int32.ofNat (gn G) - 6) < x3) (hC : InvC u) (hM : InvM u) (hX : RX u) (K : ∀ v, InvC v → InvM v → RX v → Ws G L_law 1743 [(0, .ref 0), (1, .ref 2), (2, .ref 76), (3, .int x3)] [] v LQ) : Ws G L_law 1282 [(0, .ref 0), (1, .ref 2), (2, .ref 76), (3, .int x3)] [] u LQ := by
  exact sg_L_law_1282 (⟨vscr hn h0 h1 (j := 1) (by decide) (by decide), ⟨vscr hn h0 h1 (j := 2) (by decide) (by decide), kI (d_joins hC) (fun a1 u1 q1 => ⟨vscr hn h0 h1 (j := 1) (by decide) (by decide), ⟨vscr hn h0 h1 (j := 2) (by decide) (by decide), kI (e_joins (hM.cl q1)) (fun a2 u2 q2 => K u2 (q1.1.mo q2) q2.1 ((hX.cl hM q1 (by decide)).mo q1.1 (hM.cl q1) q2 (by decide)))⟩⟩)⟩⟩)
theorem lw_c33 {x3 : Int32} (hn : gn G ≤ 3072) (h0 : 0 ≤ x3) (h1 : ¬ (Int32.ofNat (gn G) - 6) < x3) (hC : InvC u) (hM : InvM u) (hX : RX u) (K : ∀ v, InvC v → InvM v → RX v → Ws G L_law 1743 [(0, .ref 0), (1, .ref 2), (2, .ref 76), (3, .int x3)] [] v LQ) : Ws G L_law 1315 [(0, .ref 0), (1, .ref 2), (2, .ref 76), (3, .int x3)] [] u LQ := by
  exact sg_L_law_1315 (kI (d_quiet hC) (fun a1 u1 q1 => kI (e_quiet (hM.cl q1)) (fun a2 u2 q2 => K u2 (q1.1.mo q2) q2.1 ((hX.cl hM q1 (by decide)).mo q1.1 (hM.cl q1) q2 (by decide)))))
theorem lw_c34 {x3 : Int32} (hn : gn G ≤ 3072) (h0 : 0 ≤ x3) (h1 : ¬ (Int32.ofNat (gn G) - 6) < x3) (hC : InvC u) (hM : InvM u) (hX : RX u) (K : ∀ v, InvC v → InvM v → RX v → Ws G L_law 1743 [(0, .ref 0), (1, .ref 2), (2, .ref 76), (3, .int x3)] [] v LQ) : Ws G L_law 1328 [(0, .ref 0), (1, .ref 2), (2, .ref 76), (3, .int x3)] [] u LQ := by
  exact sg_L_law_1328 (kI (d_busy hC) (fun a1 u1 q1 => kI (e_busy (hM.cl q1)) (fun a2 u2 q2 => K u2 (q1.1.mo q2) q2.1 ((hX.cl hM q1 (by decide)).mo q1.1 (hM.cl q1) q2 (by decide)))))
theorem lw_c35 {x3 : Int32} (hn : gn G ≤ 3072) (h0 : 0 ≤ x3) (h1 : ¬ (Int32.ofNat (gn G) - 6) < x3) (hC : InvC u) (hM : InvM u) (hX : RX u) (K : ∀ v, InvC v → InvM v → RX v → Ws G L_law 1743 [(0, .ref 0), (1, .ref 2), (2, .ref 76), (3, .int x3)] [] v LQ) : Ws G L_law 1341 [(0, .ref 0), (1, .ref 2), (2, .ref 76), (3, .int x3)] [] u LQ := by
  refine sg_L_law_1341 (⟨vscr hn h0 h1 (j := 1) (by decide) (by decide), ⟨vscr hn h0 h1 (j := 2) (by decide) (by decide), ⟨vscr hn h0 h1 (j := 3) (by decide) (by decide), kI (Y_note hX hC hM) (fun a1 u1 q1 => ⟨vscr hn h0 h1 (j := 1) (by decide) (by decide), ⟨vscr hn h0 h1 (j := 2) (by decide) (by decide), ⟨vscr hn h0 h1 (j := 3) (by decide) (by decide), kI (Z_note hX hM q1.1 (hM.cl q1.1)) (fun a2 u2 q2 => ?_)⟩⟩⟩)⟩⟩⟩)
  have z := X_note hX hC hM q1 q2
  exact K u2 (q1.1.1.mo q2.1) q2.1.1 z.2
theorem lw_c36 {x3 : Int32} (hn : gn G ≤ 3072) (h0 : 0 ≤ x3) (h1 : ¬ (Int32.ofNat (gn G) - 6) < x3) (hC : InvC u) (hM : InvM u) (hX : RX u) (K : ∀ v, InvC v → InvM v → RX v → Ws G L_law 1743 [(0, .ref 0), (1, .ref 2), (2, .ref 76), (3, .int x3)] [] v LQ) : Ws G L_law 1384 [(0, .ref 0), (1, .ref 2), (2, .ref 76), (3, .int x3)] [] u LQ := by
  refine sg_L_law_1384 (⟨vscr hn h0 h1 (j := 1) (by decide) (by decide), kI (Y_back hX hC hM) (fun a1 u1 q1 => ⟨vscr hn h0 h1 (j := 1) (by decide) (by decide), kI (Z_back hX hM q1.1 (hM.cl q1.1)) (fun a2 u2 q2 => ?_)⟩)⟩)
  have z := X_back hX hC hM q1 q2
  exact K u2 (q1.1.1.mo q2.1) q2.1.1 z.2
theorem lw_c37 {x3 : Int32} (hn : gn G ≤ 3072) (h0 : 0 ≤ x3) (h1 : ¬ (Int32.ofNat (gn G) - 6) < x3) (hC : InvC u) (hM : InvM u) (hX : RX u) (K : ∀ v, InvC v → InvM v → RX v → Ws G L_law 1743 [(0, .ref 0), (1, .ref 2), (2, .ref 76), (3, .int x3)] [] v LQ) : Ws G L_law 1407 [(0, .ref 0), (1, .ref 2), (2, .ref 76), (3, .int x3)] [] u LQ := by
  exact sg_L_law_1407 (⟨vscr hn h0 h1 (j := 1) (by decide) (by decide), kI (d_steps hC) (fun a1 u1 q1 => ⟨vscr hn h0 h1 (j := 1) (by decide) (by decide), kI (e_steps (hM.cl q1)) (fun a2 u2 q2 => K u2 (q1.1.mo q2) q2.1 ((hX.cl hM q1 (by decide)).mo q1.1 (hM.cl q1) q2 (by decide)))⟩)⟩)
theorem lw_c38 {x3 : Int32} (hn : gn G ≤ 3072) (h0 : 0 ≤ x3) (h1 : ¬ (Int32.ofNat (gn G) - 6) < x3) (hC : InvC u) (hM : InvM u) (hX : RX u) (K : ∀ v, InvC v → InvM v → RX v → Ws G L_law 1743 [(0, .ref 0), (1, .ref 2), (2, .ref 76), (3, .int x3)] [] v LQ) : Ws G L_law 1430 [(0, .ref 0), (1, .ref 2), (2, .ref 76), (3, .int x3)] [] u LQ := by
  exact sg_L_law_1430 (⟨vscr hn h0 h1 (j := 1) (by decide) (by decide), kI (d_kinds hC) (fun a1 u1 q1 => ⟨vscr hn h0 h1 (j := 1) (by decide) (by decide), kI (e_kinds (hM.cl q1)) (fun a2 u2 q2 => K u2 (q1.1.mo q2) q2.1 ((hX.cl hM q1 (by decide)).mo q1.1 (hM.cl q1) q2 (by decide)))⟩)⟩)
theorem lw_c39 {x3 : Int32} (hn : gn G ≤ 3072) (h0 : 0 ≤ x3) (h1 : ¬ (Int32.ofNat (gn G) - 6) < x3) (hC : InvC u) (hM : InvM u) (hX : RX u) (K : ∀ v, InvC v → InvM v → RX v → Ws G L_law 1743 [(0, .ref 0), (1, .ref 2), (2, .ref 76), (3, .int x3)] [] v LQ) : Ws G L_law 1453 [(0, .ref 0), (1, .ref 2), (2, .ref 76), (3, .int x3)] [] u LQ := by
  exact sg_L_law_1453 (⟨vscr hn h0 h1 (j := 1) (by decide) (by decide), ⟨vscr hn h0 h1 (j := 2) (by decide) (by decide), ⟨vscr hn h0 h1 (j := 3) (by decide) (by decide), kI (d_rent hC) (fun a1 u1 q1 => ⟨vscr hn h0 h1 (j := 1) (by decide) (by decide), ⟨vscr hn h0 h1 (j := 2) (by decide) (by decide), ⟨vscr hn h0 h1 (j := 3) (by decide) (by decide), kI (e_rent (hM.cl q1)) (fun a2 u2 q2 => K u2 (q1.1.mo q2) q2.1 ((hX.cl hM q1 (by decide)).mo q1.1 (hM.cl q1) q2 (by decide)))⟩⟩⟩)⟩⟩⟩)
theorem lw_c40 {x3 : Int32} (hn : gn G ≤ 3072) (h0 : 0 ≤ x3) (h1 : ¬ (Int32.ofNat (gn G) - 6) < x3) (hC : InvC u) (hM : InvM u) (hX : RX u) (K : ∀ v, InvC v → InvM v → RX v → Ws G L_law 1743 [(0, .ref 0), (1, .ref 2), (2, .ref 76), (3, .int x3)] [] v LQ) : Ws G L_law 1496 [(0, .ref 0), (1, .ref 2), (2, .ref 76), (3, .int x3)] [] u LQ := by
  refine sg_L_law_1496 (⟨vscr hn h0 h1 (j := 1) (by decide) (by decide), ⟨vscr hn h0 h1 (j := 2) (by decide) (by decide), kI (Y_dearest hX hC hM) (fun a1 u1 q1 => ⟨vscr hn h0 h1 (j := 1) (by decide) (by decide), ⟨vscr hn h0 h1 (j := 2) (by decide) (by decide), kI (Z_dearest hX hM q1.1 (hM.cl q1.1)) (fun a2 u2 q2 => ?_)⟩⟩)⟩⟩)
  have z := X_dearest hX hC hM q1 q2
  exact K u2 (q1.1.1.mo q2.1) q2.1.1 z.2
theorem lw_c41 {x3 : Int32} (hn : gn G ≤ 3072) (h0 : 0 ≤ x3) (h1 : ¬ (Int32.ofNat (gn G) - 6) < x3) (hC : InvC u) (hM : InvM u) (hX : RX u) (K : ∀ v, InvC v → InvM v → RX v → Ws G L_law 1743 [(0, .ref 0), (1, .ref 2), (2, .ref 76), (3, .int x3)] [] v LQ) : Ws G L_law 1529 [(0, .ref 0), (1, .ref 2), (2, .ref 76), (3, .int x3)] [] u LQ := by
  exact sg_L_law_1529 (⟨vscr hn h0 h1 (j := 1) (by decide) (by decide), ⟨vscr hn h0 h1 (j := 2) (by decide) (by decide), kI (d_mends hC) (fun a1 u1 q1 => ⟨vscr hn h0 h1 (j := 1) (by decide) (by decide), ⟨vscr hn h0 h1 (j := 2) (by decide) (by decide), kI (e_mends (hM.cl q1)) (fun a2 u2 q2 => K u2 (q1.1.mo q2) q2.1 ((hX.cl hM q1 (by decide)).mo q1.1 (hM.cl q1) q2 (by decide)))⟩⟩)⟩⟩)
theorem lw_c42 {x3 : Int32} (hn : gn G ≤ 3072) (h0 : 0 ≤ x3) (h1 : ¬ (Int32.ofNat (gn G) - 6) < x3) (hC : InvC u) (hM : InvM u) (hX : RX u) (K : ∀ v, InvC v → InvM v → RX v → Ws G L_law 1743 [(0, .ref 0), (1, .ref 2), (2, .ref 76), (3, .int x3)] [] v LQ) : Ws G L_law 1562 [(0, .ref 0), (1, .ref 2), (2, .ref 76), (3, .int x3)] [] u LQ := by
  exact sg_L_law_1562 (⟨vscr hn h0 h1 (j := 1) (by decide) (by decide), kI (d_worst hC) (fun a1 u1 q1 => ⟨vscr hn h0 h1 (j := 1) (by decide) (by decide), kI (e_worst (hM.cl q1)) (fun a2 u2 q2 => K u2 (q1.1.mo q2) q2.1 ((hX.cl hM q1 (by decide)).mo q1.1 (hM.cl q1) q2 (by decide)))⟩)⟩)
theorem lw_c43 {x3 : Int32} (hn : gn G ≤ 3072) (h0 : 0 ≤ x3) (h1 : ¬ (Int32.ofNat (gn G) - 6) < x3) (hC : InvC u) (hM : InvM u) (hX : RX u) (K : ∀ v, InvC v → InvM v → RX v → Ws G L_law 1743 [(0, .ref 0), (1, .ref 2), (2, .ref 76), (3, .int x3)] [] v LQ) : Ws G L_law 1585 [(0, .ref 0), (1, .ref 2), (2, .ref 76), (3, .int x3)] [] u LQ := by
  refine sg_L_law_1585 (⟨vscr hn h0 h1 (j := 1) (by decide) (by decide), kI (Y_image hX hC hM) (fun a1 u1 q1 => ⟨vscr hn h0 h1 (j := 1) (by decide) (by decide), kI (Z_image hX hM q1.1 (hM.cl q1.1)) (fun a2 u2 q2 => ?_)⟩)⟩)
  have z := X_image hX hC hM q1 q2
  exact K u2 (q1.1.1.mo q2.1) q2.1.1 z.2
theorem lw_c44 {x3 : Int32} (hn : gn G ≤ 3072) (h0 : 0 ≤ x3) (h1 : ¬ (Int32.ofNat (gn G) - 6) < x3) (hC : InvC u) (hM : InvM u) (hX : RX u) (K : ∀ v, InvC v → InvM v → RX v → Ws G L_law 1743 [(0, .ref 0), (1, .ref 2), (2, .ref 76), (3, .int x3)] [] v LQ) : Ws G L_law 1608 [(0, .ref 0), (1, .ref 2), (2, .ref 76), (3, .int x3)] [] u LQ := by
  refine sg_L_law_1608 (⟨vscr hn h0 h1 (j := 1) (by decide) (by decide), kI (Y_gone hX hC hM) (fun a1 u1 q1 => ⟨vscr hn h0 h1 (j := 1) (by decide) (by decide), kI (Z_gone hX hM q1.1 (hM.cl q1.1)) (fun a2 u2 q2 => ?_)⟩)⟩)
  have z := X_gone hX hC hM q1 q2
  exact K u2 (q1.1.1.mo q2.1) q2.1.1 z.2
theorem lw_c45 {x3 : Int32} (hn : gn G ≤ 3072) (h0 : 0 ≤ x3) (h1 : ¬ (Int32.ofNat (gn G) - 6) < x3) (hC : InvC u) (hM : InvM u) (hX : RX u) (K : ∀ v, InvC v → InvM v → RX v → Ws G L_law 1743 [(0, .ref 0), (1, .ref 2), (2, .ref 76), (3, .int x3)] [] v LQ) : Ws G L_law 1631 [(0, .ref 0), (1, .ref 2), (2, .ref 76), (3, .int x3)] [] u LQ := by
  exact sg_L_law_1631 (kI (d_asked hC) (fun a1 u1 q1 => kI (e_asked (hM.cl q1)) (fun a2 u2 q2 => K u2 (q1.1.mo q2) q2.1 ((hX.cl hM q1 (by decide)).mo q1.1 (hM.cl q1) q2 (by decide)))))
theorem lw_c46 {x3 : Int32} (hn : gn G ≤ 3072) (h0 : 0 ≤ x3) (h1 : ¬ (Int32.ofNat (gn G) - 6) < x3) (hC : InvC u) (hM : InvM u) (hX : RX u) (K : ∀ v, InvC v → InvM v → RX v → Ws G L_law 1743 [(0, .ref 0), (1, .ref 2), (2, .ref 76), (3, .int x3)] [] v LQ) : Ws G L_law 1644 [(0, .ref 0), (1, .ref 2), (2, .ref 76), (3, .int x3)] [] u LQ := by
  refine sg_L_law_1644 (kJ (d_upperv hC) (fun a1 u1 q1 => kJ (e_upperv (hM.cl q1.1)) (fun a2 u2 q2 => ?_)))
  have z := X_upper hX hC hM q1 q2
  exact K u2 (q1.1.1.mo q2.1) q2.1.1 z.2
theorem lw_c47 {x3 : Int32} (hn : gn G ≤ 3072) (h0 : 0 ≤ x3) (h1 : ¬ (Int32.ofNat (gn G) - 6) < x3) (hC : InvC u) (hM : InvM u) (hX : RX u) (K : ∀ v, InvC v → InvM v → RX v → Ws G L_law 1743 [(0, .ref 0), (1, .ref 2), (2, .ref 76), (3, .int x3)] [] v LQ) : Ws G L_law 1657 [(0, .ref 0), (1, .ref 2), (2, .ref 76), (3, .int x3)] [] u LQ := by
  refine sg_L_law_1657 (kJ (d_lowerv hC) (fun a1 u1 q1 => kJ (e_lowerv (hM.cl q1.1)) (fun a2 u2 q2 => ?_)))
  have z := X_lower hX hC hM q1 q2
  exact ⟨fun _ => K u2 (q1.1.1.mo q2.1) q2.1.1 z.2, fun c => absurd (show lg_cmp a1 a2 = 0 by rw [z.1]; exact lg_same _) c⟩
theorem lw_c48 {x3 : Int32} (hn : gn G ≤ 3072) (h0 : 0 ≤ x3) (h1 : ¬ (Int32.ofNat (gn G) - 6) < x3) (hC : InvC u) (hM : InvM u) (hX : RX u) (K : ∀ v, InvC v → InvM v → RX v → Ws G L_law 1743 [(0, .ref 0), (1, .ref 2), (2, .ref 76), (3, .int x3)] [] v LQ) : Ws G L_law 1671 [(0, .ref 0), (1, .ref 2), (2, .ref 76), (3, .int x3)] [] u LQ := by
  exact sg_L_law_1671 (⟨vscr hn h0 h1 (j := 1) (by decide) (by decide), kI (d_count hC) (fun a1 u1 q1 => ⟨vscr hn h0 h1 (j := 1) (by decide) (by decide), kI (e_count (hM.cl q1)) (fun a2 u2 q2 => K u2 (q1.1.mo q2) q2.1 ((hX.cl hM q1 (by decide)).mo q1.1 (hM.cl q1) q2 (by decide)))⟩)⟩)
theorem lw_c49 {x3 : Int32} (hn : gn G ≤ 3072) (h0 : 0 ≤ x3) (h1 : ¬ (Int32.ofNat (gn G) - 6) < x3) (hC : InvC u) (hM : InvM u) (hX : RX u) (K : ∀ v, InvC v → InvM v → RX v → Ws G L_law 1743 [(0, .ref 0), (1, .ref 2), (2, .ref 76), (3, .int x3)] [] v LQ) : Ws G L_law 1694 [(0, .ref 0), (1, .ref 2), (2, .ref 76), (3, .int x3)] [] u LQ := by
  exact sg_L_law_1694 (kI (d_finding hC) (fun a1 u1 q1 => kI (e_finding (hM.cl q1)) (fun a2 u2 q2 => K u2 (q1.1.mo q2) q2.1 ((hX.cl hM q1 (by decide)).mo q1.1 (hM.cl q1) q2 (by decide)))))
theorem lw_c50 {x3 : Int32} (hn : gn G ≤ 3072) (h0 : 0 ≤ x3) (h1 : ¬ (Int32.ofNat (gn G) - 6) < x3) (hC : InvC u) (hM : InvM u) (hX : RX u) (K : ∀ v, InvC v → InvM v → RX v → Ws G L_law 1743 [(0, .ref 0), (1, .ref 2), (2, .ref 76), (3, .int x3)] [] v LQ) : Ws G L_law 1707 [(0, .ref 0), (1, .ref 2), (2, .ref 76), (3, .int x3)] [] u LQ := by
  exact sg_L_law_1707 (⟨vscr hn h0 h1 (j := 1) (by decide) (by decide), kI (d_findings hC) (fun a1 u1 q1 => ⟨vscr hn h0 h1 (j := 1) (by decide) (by decide), kI (e_findings (hM.cl q1)) (fun a2 u2 q2 => K u2 (q1.1.mo q2) q2.1 ((hX.cl hM q1 (by decide)).mo q1.1 (hM.cl q1) q2 (by decide)))⟩)⟩)
theorem lw_c51 {x3 : Int32} (hn : gn G ≤ 3072) (h0 : 0 ≤ x3) (h1 : ¬ (Int32.ofNat (gn G) - 6) < x3) (hC : InvC u) (hM : InvM u) (hX : RX u) (K : ∀ v, InvC v → InvM v → RX v → Ws G L_law 1743 [(0, .ref 0), (1, .ref 2), (2, .ref 76), (3, .int x3)] [] v LQ) : Ws G L_law 1730 [(0, .ref 0), (1, .ref 2), (2, .ref 76), (3, .int x3)] [] u LQ := by
  exact sg_L_law_1730 (kJ (d_digest hC) (fun a1 u1 q1 => kJ (e_digest (hM.cl q1)) (fun a2 u2 q2 => K u2 (q1.1.mo q2) q2.1 ((hX.cl hM q1 (by decide)).mo q1.1 (hM.cl q1) q2 (by decide)))))
theorem law_loop (hn : gn G ≤ 3072) : ∀ (f : Nat) (x3 : Int32) (u : pM), 3072 - x3.toInt ≤ f → 0 ≤ x3 → InvC u → InvM u → RX u → Ws G L_law 18 [(0, .ref 0), (1, .ref 2), (2, .ref 76), (3, .int x3)] [] u LQ := by
  have l : Int32.ofNat (gn G) ≤ 3072 := by
    apply Int32.le_iff_toInt_le.mpr
    have : (3072 : Int32).toInt = 3072 := by decide
    have e : (Int32.ofNat (gn G)).toInt = gn G := nI_toInt (by omega)
    omega
  have z : 0 ≤ Int32.ofNat (gn G) := by
    apply Int32.le_iff_toInt_le.mpr
    have : (0 : Int32).toInt = 0 := by decide
    have e : (Int32.ofNat (gn G)).toInt = gn G := nI_toInt (by omega)
    omega
  intro f
  induction f with
  | zero =>
    intro x3 u hf h0 hC hM hX
    have g : 3072 ≤ x3 := by
      apply Int32.le_iff_toInt_le.mpr
      have : (3072 : Int32).toInt = 3072 := by decide
      omega
    exact sg_L_law_18 ⟨fun _ => ⟨1, rfl, rfl⟩, fun c => absurd (by grind) c⟩
  | succ f ih =>
    intro x3 u hf h0 hC hM hX
    have K : (h1 : ¬ (Int32.ofNat (gn G) - 6) < x3) → ∀ v, InvC v → InvM v → RX v → Ws G L_law 1743 [(0, .ref 0), (1, .ref 2), (2, .ref 76), (3, .int x3)] [] v LQ := fun h1 v vC vM vX => by
      refine sg_L_law_1743 (ih _ v ?_ (by grind) vC vM vX)
      have e6 : (x3 + 6).toInt = x3.toInt + 6 := by
        have b := Int32.le_iff_toInt_le.mp h0
        have g : x3 ≤ 3072 := by grind
        have c := Int32.le_iff_toInt_le.mp g
        have d : (3072 : Int32).toInt = 3072 := by decide
        have d0 : (0 : Int32).toInt = 0 := by decide
        rw [Int32.toInt_add, show (6 : Int32).toInt = 6 by decide, Int.bmod_eq_of_le (by omega) (by omega)]
      omega
    refine sg_L_law_18 ⟨fun _ => ⟨1, rfl, rfl⟩, fun h1 => ⟨vscr0 hn h0 h1, fun _ => lw_c0 hn h0 h1 hC hM hX (K h1), fun _ => lw_c1 hn h0 h1 hC hM hX (K h1), fun _ => lw_c2 hn h0 h1 hC hM hX (K h1), fun _ => lw_c3 hn h0 h1 hC hM hX (K h1), fun _ => lw_c4 hn h0 h1 hC hM hX (K h1), fun _ => lw_c5 hn h0 h1 hC hM hX (K h1), fun _ => lw_c6 hn h0 h1 hC hM hX (K h1), fun _ => lw_c7 hn h0 h1 hC hM hX (K h1), fun _ => lw_c8 hn h0 h1 hC hM hX (K h1), fun _ => lw_c9 hn h0 h1 hC hM hX (K h1), fun _ => lw_c10 hn h0 h1 hC hM hX (K h1), fun _ => lw_c11 hn h0 h1 hC hM hX (K h1), fun _ => lw_c12 hn h0 h1 hC hM hX (K h1), fun _ => lw_c13 hn h0 h1 hC hM hX (K h1), fun _ => lw_c14 hn h0 h1 hC hM hX (K h1), fun _ => lw_c15 hn h0 h1 hC hM hX (K h1), fun _ => lw_c16 hn h0 h1 hC hM hX (K h1), fun _ => lw_c17 hn h0 h1 hC hM hX (K h1), fun _ => lw_c18 hn h0 h1 hC hM hX (K h1), fun _ => lw_c19 hn h0 h1 hC hM hX (K h1), fun _ => lw_c20 hn h0 h1 hC hM hX (K h1), fun _ => lw_c21 hn h0 h1 hC hM hX (K h1), fun _ => lw_c22 hn h0 h1 hC hM hX (K h1), fun _ => lw_c23 hn h0 h1 hC hM hX (K h1), fun _ => lw_c24 hn h0 h1 hC hM hX (K h1), fun _ => lw_c25 hn h0 h1 hC hM hX (K h1), fun _ => lw_c26 hn h0 h1 hC hM hX (K h1), fun _ => lw_c27 hn h0 h1 hC hM hX (K h1), fun _ => lw_c28 hn h0 h1 hC hM hX (K h1), fun _ => lw_c29 hn h0 h1 hC hM hX (K h1), fun _ => lw_c30 hn h0 h1 hC hM hX (K h1), fun _ => lw_c31 hn h0 h1 hC hM hX (K h1), fun _ => lw_c32 hn h0 h1 hC hM hX (K h1), fun _ => lw_c33 hn h0 h1 hC hM hX (K h1), fun _ => lw_c34 hn h0 h1 hC hM hX (K h1), fun _ => lw_c35 hn h0 h1 hC hM hX (K h1), fun _ => lw_c36 hn h0 h1 hC hM hX (K h1), fun _ => lw_c37 hn h0 h1 hC hM hX (K h1), fun _ => lw_c38 hn h0 h1 hC hM hX (K h1), fun _ => lw_c39 hn h0 h1 hC hM hX (K h1), fun _ => lw_c40 hn h0 h1 hC hM hX (K h1), fun _ => lw_c41 hn h0 h1 hC hM hX (K h1), fun _ => lw_c42 hn h0 h1 hC hM hX (K h1), fun _ => lw_c43 hn h0 h1 hC hM hX (K h1), fun _ => lw_c44 hn h0 h1 hC hM hX (K h1), fun _ => lw_c45 hn h0 h1 hC hM hX (K h1), fun _ => lw_c46 hn h0 h1 hC hM hX (K h1), fun _ => lw_c47 hn h0 h1 hC hM hX (K h1), fun _ => lw_c48 hn h0 h1 hC hM hX (K h1), fun _ => lw_c49 hn h0 h1 hC hM hX (K h1), fun _ => lw_c50 hn h0 h1 hC hM hX (K h1), fun _ => lw_c51 hn h0 h1 hC hM hX (K h1), fun _ => K h1 u hC hM hX⟩⟩
end LAW
