section CLS
variable {G : pG} {u w : pM} {L : List Nat}
theorem d_best {x1 : Int32} {x2 : Int32} {x3 : Int32} (hC : InvC u) : Ws G D_best 0 [(0, .ref 2), (1, .int x1), (2, .int x2), (3, .int x3)] [] u (RI fun _ u' => Cl (qB) u u') := by
  have key : ∀ x v (x4 x5 : Int32), ¬ 60 < x3 → Cq (qB) u v → Ws G D_best 62 [(0, .ref 2), (1, .int x1), (2, .int x2), (3, .int x3), (4, .int x4), (5, .int x5), (6, .int x)] [] v (RI fun _ u' => Cl (qB) u u') := by
    refine upI 61 _ (fun x ih v x4 x5 h3 hq => ?_)
    refine sg_D_best_62 ?_
    repeat' first
      | (exact ⟨_, rfl, rfl⟩)
      | (refine lf hC ?_)
      | (assumption)
      | (exact Cq.rf)
      | (refine cq_dF ?_ (by decide))
      | (refine Cq.pI ?_ wr_D (by decide))
      | (refine cq_snB ?_ (by decide) (by decide))
      | (refine cq_spS ?_ (roV_ok _) (roV_m (by decide)))
      | (refine cq_spS ?_ (txV_ok _) (txV_m (by decide)))
      | (refine cq_snB ?_ (kpV_ok _) (kpV_m (by decide)))
      | (refine cq_snS ?_ (by decide) (by decide))
      | (refine Cq.pI ?_ (wr_5 (by decide)) (by decide))
      | (refine Cq.pI ?_ (wr_5 (kpV_ok _)) (cm_5 (kpV_ok _) (kpV_m (by decide))))
      | (refine kVq (u := u) (L := (qB)) (c_pass (by decide) (by decide) (pl_ok (by assumption))) ?_ ?_)
      | (refine kIe (c_roundOf (by decide) (pl_ok (by assumption)) (Cq.cl hq hC).1) ?_)
      | (refine ih (by grind) _ _ _ h3 ?_)
      | ((fail_if_success (refine Ws.str ?_)); intro _)
      | (refine And.intro ?_ ?_)
  refine sg_D_best_0 ?_
  repeat' first
    | (exact ⟨_, rfl, rfl⟩)
    | (refine lf hC ?_)
    | (assumption)
    | (exact Cq.rf)
    | (refine cq_dF ?_ (by decide))
    | (refine Cq.pI ?_ wr_D (by decide))
    | (refine cq_snB ?_ (by decide) (by decide))
    | (refine cq_spS ?_ (roV_ok _) (roV_m (by decide)))
    | (refine cq_spS ?_ (txV_ok _) (txV_m (by decide)))
    | (refine cq_snB ?_ (kpV_ok _) (kpV_m (by decide)))
    | (refine cq_snS ?_ (by decide) (by decide))
    | (refine Cq.pI ?_ (wr_5 (by decide)) (by decide))
    | (refine Cq.pI ?_ (wr_5 (kpV_ok _)) (cm_5 (kpV_ok _) (kpV_m (by decide))))
    | (refine key _ _ _ _ (by grind) ?_)
    | ((fail_if_success (refine Ws.str ?_)); intro _)
    | (refine And.intro ?_ ?_)
theorem d_agree {x1 : Int32} {x2 : Int32} {x3 : Int32} (hC : InvC u) : Ws G D_agree 0 [(0, .ref 2), (1, .int x1), (2, .int x2), (3, .int x3)] [] u (RI fun _ u' => Cl (qB) u u') := by
  have key : ∀ x v (x4 x5 : Int32), ¬ 60 < x3 → Cq (qB) u v → Ws G D_agree 78 [(0, .ref 2), (1, .int x1), (2, .int x2), (3, .int x3), (4, .int x4), (5, .int x5), (6, .int x)] [] v (RI fun _ u' => Cl (qB) u u') := by
    refine upI 61 _ (fun x ih v x4 x5 h3 hq => ?_)
    have inn : ¬ x3 < x → ∀ y (x4 x5 : Int32), Ws G D_agree 87 [(0, .ref 2), (1, .int x1), (2, .int x2), (3, .int x3), (4, .int x4), (5, .int x5), (6, .int x), (7, .int y)] [] v (RI fun _ u' => Cl (qB) u u') := by
      intro hx
      refine upI (mI v (mR v 2 10) 1) _ (fun y ihy x4 x5 => ?_)
      exact sg_D_agree_87 (fun hp => ⟨fun _ _ => kVq (u := u) (c_pass (by decide) (by decide) (pl_ok hp)) hq (fun v hq => ih (by grind) _ _ _ h3 hq), fun c _ _ => ⟨fun _ => ihy c _ _, fun _ => ihy c _ _⟩⟩)
    exact sg_D_agree_78 ⟨fun _ => lf hC (hq.pI wr_D (by decide)), fun c => inn c _ _ _⟩
  refine sg_D_agree_0 ?_
  repeat' first
    | (exact ⟨_, rfl, rfl⟩)
    | (refine lf hC ?_)
    | (assumption)
    | (exact Cq.rf)
    | (refine cq_dF ?_ (by decide))
    | (refine Cq.pI ?_ wr_D (by decide))
    | (refine cq_snB ?_ (by decide) (by decide))
    | (refine cq_spS ?_ (roV_ok _) (roV_m (by decide)))
    | (refine cq_spS ?_ (txV_ok _) (txV_m (by decide)))
    | (refine cq_snB ?_ (kpV_ok _) (kpV_m (by decide)))
    | (refine cq_snS ?_ (by decide) (by decide))
    | (refine Cq.pI ?_ (wr_5 (by decide)) (by decide))
    | (refine Cq.pI ?_ (wr_5 (kpV_ok _)) (cm_5 (kpV_ok _) (kpV_m (by decide))))
    | (refine key _ _ _ _ (by grind) ?_)
    | ((fail_if_success (refine Ws.str ?_)); intro _)
    | (refine And.intro ?_ ?_)
theorem h_metBy {x1 x2 : Int32} : Ws G D_metBy 0 [(0, .ref 2), (1, .int x1), (2, .int x2)] [] u (RI fun _ u' => u = u') := by
  have key : ∀ x (y : Int32), Ws G D_metBy 5 [(0, .ref 2), (1, .int x1), (2, .int x2), (3, .int y), (4, .int x)] [] u (RI fun _ u' => u = u') := by
    refine upI (mI u (mR u 2 10) 1) _ (fun x ih y => ?_)
    exact sg_D_metBy_5 (fun hp => ⟨fun _ => ⟨_, rfl, rfl⟩, fun c _ _ => kIe (c_canMeet (pl_ok hp)) (fun _ => ⟨fun _ => ih c _, fun _ => ih c _⟩)⟩)
  exact sg_D_metBy_0 (key 0 0)
theorem d_joins {x1 : Int32} {x2 : Int32} (hC : InvC u) : Ws G D_joins 0 [(0, .ref 2), (1, .int x1), (2, .int x2)] [] u (RI fun _ u' => Cl (qB) u u') := by
  refine sg_D_joins_0 ?_
  repeat' first
    | (exact ⟨_, rfl, rfl⟩)
    | (refine lf hC ?_)
    | (assumption)
    | (exact Cq.rf)
    | (refine cq_dF ?_ (by decide))
    | (refine Cq.pI ?_ wr_D (by decide))
    | (refine cq_snB ?_ (by decide) (by decide))
    | (refine cq_spS ?_ (roV_ok _) (roV_m (by decide)))
    | (refine cq_spS ?_ (txV_ok _) (txV_m (by decide)))
    | (refine cq_snB ?_ (kpV_ok _) (kpV_m (by decide)))
    | (refine cq_snS ?_ (by decide) (by decide))
    | (refine Cq.pI ?_ (wr_5 (by decide)) (by decide))
    | (refine Cq.pI ?_ (wr_5 (kpV_ok _)) (cm_5 (kpV_ok _) (kpV_m (by decide))))
    | (refine kIe h_metBy ?_)
    | ((fail_if_success (refine Ws.str ?_)); intro _)
    | (refine And.intro ?_ ?_)
theorem d_quiet  (hC : InvC u) : Ws G D_quiet 0 [(0, .ref 2)] [] u (RI fun _ u' => Cl (qB) u u') := by
  have key : ∀ x (x1 x2 : Int32), Ws G D_quiet 20 [(0, .ref 2), (1, .int x1), (2, .int x2), (3, .int x)] [] u (RI fun _ u' => Cl (qB) u u') := by
    refine upI (mI u (mR u 2 10) 0) _ (fun x ih x1 x2 => ?_)
    have inn : ¬ mI u (mR u 2 10) 0 ≤ x → ∀ y (x1 x2 : Int32), Ws G D_quiet 35 [(0, .ref 2), (1, .int x1), (2, .int x2), (3, .int x), (4, .int y)] [] u (RI fun _ u' => Cl (qB) u u') := by
      intro hx
      refine upI 10 _ (fun y ihy x1 x2 => ?_)
      exact sg_D_quiet_35 ⟨fun _ => ih hx _ _, fun c => kIe h_metBy (fun _ => ⟨fun _ => ihy (by grind) _ _, fun _ => ⟨fun _ => ihy (by grind) _ _, fun _ => ihy (by grind) _ _⟩⟩)⟩
    exact sg_D_quiet_20 (fun _ => ⟨fun _ => ⟨fun _ => lf hC (Cq.rf.pI wr_D (by decide)), fun _ => lf hC Cq.rf⟩, fun c => inn c _ _ _⟩)
  exact sg_D_quiet_0 (fun _ => ⟨fun _ => key _ _ _, fun _ => lf hC Cq.rf⟩)
theorem d_busy  (hC : InvC u) : Ws G D_busy 0 [(0, .ref 2)] [] u (RI fun _ u' => Cl (qB) u u') := by
  have key : ∀ x (x1 x2 : Int32), Ws G D_busy 20 [(0, .ref 2), (1, .int x1), (2, .int x2), (3, .int x)] [] u (RI fun _ u' => Cl (qB) u u') := by
    refine upI (mI u (mR u 2 10) 0) _ (fun x ih x1 x2 => ?_)
    have inn : ¬ mI u (mR u 2 10) 0 ≤ x → ∀ y (x1 x2 : Int32), Ws G D_busy 35 [(0, .ref 2), (1, .int x1), (2, .int x2), (3, .int x), (4, .int y)] [] u (RI fun _ u' => Cl (qB) u u') := by
      intro hx
      refine upI 10 _ (fun y ihy x1 x2 => ?_)
      exact sg_D_busy_35 ⟨fun _ => ih hx _ _, fun c => kIe h_metBy (fun _ => ⟨fun _ => ihy (by grind) _ _, fun _ => ihy (by grind) _ _⟩)⟩
    exact sg_D_busy_20 (fun _ => ⟨fun _ => lf hC (Cq.rf.pI wr_D (by decide)), fun c => inn c _ _ _⟩)
  exact sg_D_busy_0 (fun _ => ⟨fun _ => key _ _ _, fun _ => lf hC Cq.rf⟩)
theorem d_steps {x1 : Int32} (hC : InvC u) : Ws G D_steps 0 [(0, .ref 2), (1, .int x1)] [] u (RI fun _ u' => Cl (qB) u u') := by
  have key : ∀ o, okS o 4 → ∀ x (x3 : Int32), Ws G D_steps 28 [(0, .ref 2), (1, .int x1), (2, .ref o), (3, .int x3), (4, .int x)] [] u (RI fun _ u' => Cl (qB) u u') := by
    intro o ho
    refine upI 10 _ (fun x ih x3 => ?_)
    exact sg_D_steps_28 ho ⟨fun _ => lf hC (Cq.rf.pI wr_D (by decide)), fun c hp => kIe (c_fits (pl_ok hp)) (fun _ => ⟨fun _ => ih (by grind) _, fun _ => ih (by grind) _⟩)⟩
  exact sg_D_steps_0 (fun _ => ⟨fun _ hp => key _ (shO_ok (pl_ok hp)) _ _, fun _ => lf hC Cq.rf⟩)
theorem d_kinds {x1 : Int32} (hC : InvC u) : Ws G D_kinds 0 [(0, .ref 2), (1, .int x1)] [] u (RI fun _ u' => Cl (qB) u u') := by
  have key : ∀ x (x2 x4 x5 : Int32), Ws G D_kinds 67 [(0, .ref 2), (1, .int x1), (2, .int x2), (4, .int x4), (5, .int x5), (6, .int x)] [] u (RI fun _ u' => Cl (qB) u u') := by
    refine upI 6 _ (fun x ih x2 x4 x5 => ?_)
    have inn : ¬ 5 < x → ∀ y (x4 x5 : Int32), Ws G D_kinds 76 [(0, .ref 2), (1, .int x1), (2, .int x2), (4, .int x4), (5, .int x5), (6, .int x), (7, .int y)] [] u (RI fun _ u' => Cl (qB) u u') := by
      intro hx
      refine upI 10 _ (fun y ihy x4 x5 => ?_)
      exact sg_D_kinds_76 ⟨fun _ => ih (by grind) _ _ _, fun c hp => kIe (c_fits (pl_ok hp)) (fun _ => ⟨fun _ => ihy (by grind) _ _, fun _ => ⟨fun _ => ihy (by grind) _ _, fun _ => ihy (by grind) _ _⟩⟩)⟩
    exact sg_D_kinds_67 ⟨fun _ => ⟨fun _ => lf hC (Cq.rf.pI wr_D (by decide)), fun _ => lf hC Cq.rf⟩, fun c => inn c _ _ _⟩
  exact sg_D_kinds_0 (fun _ => ⟨fun _ hp _ => kIe (c_fits (pl_ok hp)) (fun _ => ⟨fun _ => ⟨fun _ => key _ _ _ _, fun _ => key _ _ _ _⟩, fun _ => ⟨fun _ => key _ _ _ _, fun _ => key _ _ _ _⟩⟩), fun _ => lf hC Cq.rf⟩)
theorem h_passersFinding {o1 : Nat} (k1 : okS o1 6) : Ws G D_passersFinding 0 [(0, .ref 2), (1, .ref o1)] [] u (RI fun _ u' => u = u') := by
  have key : ∀ x, Ws G D_passersFinding 27 [(1, .ref o1), (2, .int x)] [] u (RI fun _ u' => u = u') := by
    refine upI (mI u o1 1) _ (fun x ih => ?_)
    exact sg_D_passersFinding_27 k1 ⟨fun _ => ⟨_, rfl, rfl⟩, fun c => ⟨fun _ => ⟨_, rfl, rfl⟩, fun _ => ⟨fun _ => ih c, fun _ => ⟨_, rfl, rfl⟩⟩⟩⟩
  exact sg_D_passersFinding_0 k1 ⟨fun _ _ => ⟨fun _ => key 0, fun _ => ⟨_, rfl, rfl⟩⟩, fun _ => ⟨_, rfl, rfl⟩⟩
theorem h_rentOf {o1 : Nat} {x2 x3 : Int32} (m : In2 L 10) (k1 : okS o1 6) : Ws G D_rentOf 0 [(0, .ref 2), (1, .ref o1), (2, .int x2), (3, .int x3)] [] u (RI fun _ u' => Cq L u u') := by
  have key : ∀ x v (y : Int32), Cq L u v → Ws G D_rentOf 17 [(0, .ref 2), (1, .ref o1), (2, .int x2), (3, .int x3), (4, .int y), (5, .int x)] [] v (RI fun _ u' => Cq L u u') := by
    refine upI x3 _ (fun x ih v y hq => ?_)
    exact sg_D_rentOf_17 k1 ⟨fun _ => ⟨_, rfl, hq⟩, fun c hp => kVq (u := u) (c_pass (by decide) m (pl_ok hp)) hq (fun v hq => ih c _ _ hq)⟩
  exact sg_D_rentOf_0 k1 (key _ _ _ (cq_snB Cq.rf (by decide) m))
theorem d_rent {x1 : Int32} {x2 : Int32} {x3 : Int32} (hC : InvC u) : Ws G D_rent 0 [(0, .ref 2), (1, .int x1), (2, .int x2), (3, .int x3)] [] u (RI fun _ u' => Cl (qB) u u') := by
  refine sg_D_rent_0 ?_
  repeat' first
    | (exact ⟨_, rfl, rfl⟩)
    | (refine lf hC ?_)
    | (assumption)
    | (exact Cq.rf)
    | (refine cq_dF ?_ (by decide))
    | (refine Cq.pI ?_ wr_D (by decide))
    | (refine cq_snB ?_ (by decide) (by decide))
    | (refine cq_spS ?_ (roV_ok _) (roV_m (by decide)))
    | (refine cq_spS ?_ (txV_ok _) (txV_m (by decide)))
    | (refine cq_snB ?_ (kpV_ok _) (kpV_m (by decide)))
    | (refine cq_snS ?_ (by decide) (by decide))
    | (refine Cq.pI ?_ (wr_5 (by decide)) (by decide))
    | (refine Cq.pI ?_ (wr_5 (kpV_ok _)) (cm_5 (kpV_ok _) (kpV_m (by decide))))
    | (refine kIe (h_passersFinding (roV_ok _)) ?_)
    | (refine kIq (u := u) (L := (qB)) (h_rentOf (by decide) (roV_ok _)) ?_ ?_)
    | ((fail_if_success (refine Ws.str ?_)); intro _)
    | (refine And.intro ?_ ?_)
theorem d_mends {x1 : Int32} {x2 : Int32} (hC : InvC u) : Ws G D_mends 0 [(0, .ref 2), (1, .int x1), (2, .int x2)] [] u (RI fun _ u' => Cl (qB) u u') := by
  have key : ∀ x v (x3 x4 : Int32), x2 ≤ 60 → Cq (qB) u v → Ws G D_mends 94 [(0, .ref 2), (2, .int x2), (3, .int x3), (4, .int x4), (5, .int x)] [] v (RI fun _ u' => Cl (qB) u u') := by
    refine upI 61 _ (fun x ih v x3 x4 h2 hq => ?_)
    refine sg_D_mends_94 ?_
    repeat' first
      | (exact ⟨_, rfl, rfl⟩)
      | (refine lf hC ?_)
      | (assumption)
      | (exact Cq.rf)
      | (refine cq_dF ?_ (by decide))
      | (refine Cq.pI ?_ wr_D (by decide))
      | (refine cq_snB ?_ (by decide) (by decide))
      | (refine cq_spS ?_ (roV_ok _) (roV_m (by decide)))
      | (refine cq_spS ?_ (txV_ok _) (txV_m (by decide)))
      | (refine cq_snB ?_ (kpV_ok _) (kpV_m (by decide)))
      | (refine cq_snS ?_ (by decide) (by decide))
      | (refine Cq.pI ?_ (wr_5 (by decide)) (by decide))
      | (refine Cq.pI ?_ (wr_5 (kpV_ok _)) (cm_5 (kpV_ok _) (kpV_m (by decide))))
      | (refine kVq (u := u) (L := (qB)) (c_pass (by decide) (by decide) (pl_ok (by assumption))) ?_ ?_)
      | (refine kIe (c_differing (by decide) (by decide)) ?_)
      | (refine ih (by grind) _ _ _ h2 ?_)
      | ((fail_if_success (refine Ws.str ?_)); intro _)
      | (refine And.intro ?_ ?_)
  refine sg_D_mends_0 ?_
  repeat' first
    | (exact ⟨_, rfl, rfl⟩)
    | (refine lf hC ?_)
    | (assumption)
    | (exact Cq.rf)
    | (refine cq_dF ?_ (by decide))
    | (refine Cq.pI ?_ wr_D (by decide))
    | (refine cq_snB ?_ (by decide) (by decide))
    | (refine cq_spS ?_ (roV_ok _) (roV_m (by decide)))
    | (refine cq_spS ?_ (txV_ok _) (txV_m (by decide)))
    | (refine cq_snB ?_ (kpV_ok _) (kpV_m (by decide)))
    | (refine cq_snS ?_ (by decide) (by decide))
    | (refine Cq.pI ?_ (wr_5 (by decide)) (by decide))
    | (refine Cq.pI ?_ (wr_5 (kpV_ok _)) (cm_5 (kpV_ok _) (kpV_m (by decide))))
    | (refine key _ _ _ _ (by grind) ?_)
    | ((fail_if_success (refine Ws.str ?_)); intro _)
    | (refine And.intro ?_ ?_)
theorem d_worst {x1 : Int32} (hC : InvC u) : Ws G D_worst 0 [(0, .ref 2), (1, .int x1)] [] u (RI fun _ u' => Cl (qB) u u') := by
  have key : ∀ x v (x2 x3 : Int32), Cq (qB) u v → Ws G D_worst 67 [(0, .ref 2), (1, .int x1), (2, .int x2), (3, .int x3), (4, .int x)] [] v (RI fun _ u' => Cl (qB) u u') := by
    refine upI (mI u (mR u 2 10) 0) _ (fun x ih v x2 x3 hq => ?_)
    refine sg_D_worst_67 (fun hp => ?_)
    rw [cq_pl hq hp]
    repeat' first
      | (exact ⟨_, rfl, rfl⟩)
      | (refine lf hC ?_)
      | (assumption)
      | (exact Cq.rf)
      | (refine cq_dF ?_ (by decide))
      | (refine Cq.pI ?_ wr_D (by decide))
      | (refine cq_snB ?_ (by decide) (by decide))
      | (refine cq_spS ?_ (roV_ok _) (roV_m (by decide)))
      | (refine cq_spS ?_ (txV_ok _) (txV_m (by decide)))
      | (refine cq_snB ?_ (kpV_ok _) (kpV_m (by decide)))
      | (refine cq_snS ?_ (by decide) (by decide))
      | (refine Cq.pI ?_ (wr_5 (by decide)) (by decide))
      | (refine Cq.pI ?_ (wr_5 (kpV_ok _)) (cm_5 (kpV_ok _) (kpV_m (by decide))))
      | (refine kVq (u := u) (L := (qB)) (c_pass (by decide) (by decide) (pl_ok (by assumption))) ?_ ?_)
      | (refine kIe (c_differing (by decide) (by decide)) ?_)
      | (refine ih (by assumption) _ _ _ ?_)
      | ((fail_if_success (refine Ws.str ?_)); intro _)
      | (refine And.intro ?_ ?_)
  refine sg_D_worst_0 ?_
  repeat' first
    | (exact ⟨_, rfl, rfl⟩)
    | (refine lf hC ?_)
    | (assumption)
    | (exact Cq.rf)
    | (refine cq_dF ?_ (by decide))
    | (refine Cq.pI ?_ wr_D (by decide))
    | (refine cq_snB ?_ (by decide) (by decide))
    | (refine cq_spS ?_ (roV_ok _) (roV_m (by decide)))
    | (refine cq_spS ?_ (txV_ok _) (txV_m (by decide)))
    | (refine cq_snB ?_ (kpV_ok _) (kpV_m (by decide)))
    | (refine cq_snS ?_ (by decide) (by decide))
    | (refine Cq.pI ?_ (wr_5 (by decide)) (by decide))
    | (refine Cq.pI ?_ (wr_5 (kpV_ok _)) (cm_5 (kpV_ok _) (kpV_m (by decide))))
    | (refine kVq (u := u) (L := (qB)) (c_pass (by decide) (by decide) (pl_ok (by assumption))) ?_ ?_)
    | (refine key _ _ _ _ ?_)
    | ((fail_if_success (refine Ws.str ?_)); intro _)
    | (refine And.intro ?_ ?_)
theorem d_asked  (hC : InvC u) : Ws G D_asked 0 [(0, .ref 2)] [] u (RI fun _ u' => Cl (qB) u u') := by
  refine sg_D_asked_0 ?_
  repeat' first
    | (exact ⟨_, rfl, rfl⟩)
    | (refine lf hC ?_)
    | (assumption)
    | (exact Cq.rf)
    | (refine cq_dF ?_ (by decide))
    | (refine Cq.pI ?_ wr_D (by decide))
    | (refine cq_snB ?_ (by decide) (by decide))
    | (refine cq_spS ?_ (roV_ok _) (roV_m (by decide)))
    | (refine cq_spS ?_ (txV_ok _) (txV_m (by decide)))
    | (refine cq_snB ?_ (kpV_ok _) (kpV_m (by decide)))
    | (refine cq_snS ?_ (by decide) (by decide))
    | (refine Cq.pI ?_ (wr_5 (by decide)) (by decide))
    | (refine Cq.pI ?_ (wr_5 (kpV_ok _)) (cm_5 (kpV_ok _) (kpV_m (by decide))))
    | ((fail_if_success (refine Ws.str ?_)); intro _)
    | (refine And.intro ?_ ?_)
theorem d_finding  (hC : InvC u) : Ws G D_finding 0 [(0, .ref 2)] [] u (RI fun _ u' => Cl (qB) u u') := by
  refine sg_D_finding_0 ?_
  repeat' first
    | (exact ⟨_, rfl, rfl⟩)
    | (refine lf hC ?_)
    | (assumption)
    | (exact Cq.rf)
    | (refine cq_dF ?_ (by decide))
    | (refine Cq.pI ?_ wr_D (by decide))
    | (refine cq_snB ?_ (by decide) (by decide))
    | (refine cq_spS ?_ (roV_ok _) (roV_m (by decide)))
    | (refine cq_spS ?_ (txV_ok _) (txV_m (by decide)))
    | (refine cq_snB ?_ (kpV_ok _) (kpV_m (by decide)))
    | (refine cq_snS ?_ (by decide) (by decide))
    | (refine Cq.pI ?_ (wr_5 (by decide)) (by decide))
    | (refine Cq.pI ?_ (wr_5 (kpV_ok _)) (cm_5 (kpV_ok _) (kpV_m (by decide))))
    | ((fail_if_success (refine Ws.str ?_)); intro _)
    | (refine And.intro ?_ ?_)
theorem h_countThere {o0 : Nat} (k0 : okS o0 102) : Ws G D_countThere 0 [(0, .ref o0)] [] u (RI fun _ u' => u = u') := by
  have key : ∀ x (y : Int32), 0 ≤ x → Ws G D_countThere 4 [(0, .ref o0), (1, .int y), (2, .int x)] [] u (RI fun _ u' => u = u') := by
    refine upI (Int32.ofNat (S0 o0).2) _ (fun x ih y h0 => ?_)
    refine sg_D_countThere_4 k0 ⟨fun _ => ⟨_, rfl, rfl⟩, fun c => ?_⟩
    have hv := vin h0 (Int32.not_le.mp c) (S0_lt o0)
    have h1 : 0 ≤ x + 1 := by grind
    exact ⟨hv, hv, fun _ => ih c _ h1, fun _ => ih c _ h1⟩
  exact sg_D_countThere_0 k0 (key 0 0 (by decide))
theorem h_countOf {x1 : Int32} : Ws G D_countOf 0 [(0, .ref 2), (1, .int x1)] [] u (RI fun _ u' => u = u') := by
  exact sg_D_countOf_0 ⟨fun _ _ => ⟨_, rfl, rfl⟩, fun _ _ => ⟨_, rfl, rfl⟩, fun _ => ⟨_, rfl, rfl⟩, fun _ hp => kIe (c_sleepers (pl_ok hp)) (fun _ => ⟨_, rfl, rfl⟩), fun _ => ⟨_, rfl, rfl⟩, fun _ => ⟨_, rfl, rfl⟩, fun _ => kIe (h_countThere (by decide)) (fun _ => ⟨_, rfl, rfl⟩), fun _ => kIe (h_countThere (by decide)) (fun _ => ⟨_, rfl, rfl⟩)⟩
theorem d_count {x1 : Int32} (hC : InvC u) : Ws G D_count 0 [(0, .ref 2), (1, .int x1)] [] u (RI fun _ u' => Cl (qB) u u') := by
  refine sg_D_count_0 ?_
  repeat' first
    | (exact ⟨_, rfl, rfl⟩)
    | (refine lf hC ?_)
    | (assumption)
    | (exact Cq.rf)
    | (refine cq_dF ?_ (by decide))
    | (refine Cq.pI ?_ wr_D (by decide))
    | (refine cq_snB ?_ (by decide) (by decide))
    | (refine cq_spS ?_ (roV_ok _) (roV_m (by decide)))
    | (refine cq_spS ?_ (txV_ok _) (txV_m (by decide)))
    | (refine cq_snB ?_ (kpV_ok _) (kpV_m (by decide)))
    | (refine cq_snS ?_ (by decide) (by decide))
    | (refine Cq.pI ?_ (wr_5 (by decide)) (by decide))
    | (refine Cq.pI ?_ (wr_5 (kpV_ok _)) (cm_5 (kpV_ok _) (kpV_m (by decide))))
    | (refine kIe h_countOf ?_)
    | ((fail_if_success (refine Ws.str ?_)); intro _)
    | (refine And.intro ?_ ?_)
theorem d_findings {x1 : Int32} (hC : InvC u) : Ws G D_findings 0 [(0, .ref 2), (1, .int x1)] [] u (RI fun _ u' => Cl (qB) u u') := by
  exact sg_D_findings_0 ⟨fun _ => lf hC Cq.rf, fun a => ⟨fun b => ⟨vin (by grind) (show (_ : Int32) < 6 by grind) (by decide), lf hC Cq.rf⟩, fun _ => lf hC Cq.rf⟩⟩
theorem d_digest (hC : InvC u) : Ws G D_digest 0 [(0, .ref 2)] [] u (RJ fun _ u' => Cl qB u u') := by
  have k159 : ∀ x (y : Int64), Ws G D_digest 159 [(0, .ref 2), (1, .long y), (3, .int x)] [] u (RJ fun _ u' => Cl qB u u') := by
    refine upI 4 _ (fun x ih y => ?_)
    exact sg_D_digest_159 ⟨fun _ => ⟨_, rfl, Cl.rf hC⟩, fun c => kJe (c_mixS (txV_ok _)) (fun _ => ih c _)⟩
  have k135 : ∀ x (y : Int64), Ws G D_digest 135 [(0, .ref 2), (1, .long y), (3, .int x)] [] u (RJ fun _ u' => Cl qB u u') := by
    refine upI 6 _ (fun x ih y => ?_)
    exact sg_D_digest_135 ⟨fun _ => k159 _ _, fun c => kJe (c_mixS (roV_ok _)) (fun _ => ih c _)⟩
  have k106 : ∀ x (y : Int64), Ws G D_digest 106 [(0, .ref 2), (1, .long y), (3, .int x)] [] u (RJ fun _ u' => Cl qB u u') := by
    refine upI 3 _ (fun x ih y => ?_)
    exact sg_D_digest_106 ⟨fun _ => k135 _ _, fun c => ih c _⟩
  have k33 : ∀ x (y : Int64), Ws G D_digest 33 [(0, .ref 2), (1, .long y), (3, .int x)] [] u (RJ fun _ u' => Cl qB u u') := by
    refine upI (mI u (mR u 2 10) 1) _ (fun x ih y => ?_)
    refine sg_D_digest_33 (fun _ => ⟨fun _ => kJe c_mixD (fun _ => k106 _ _), fun c => ?_⟩)
    have k47 : ∀ z (y : Int64), Ws G D_digest 47 [(0, .ref 2), (1, .long y), (3, .int x), (4, .int z)] [] u (RJ fun _ u' => Cl qB u u') := by
      refine upI 6 _ (fun z ihz y => ?_)
      exact sg_D_digest_47 ⟨fun _ => ih c _, fun cz => kIe h_trait (fun _ => ihz (by grind) _)⟩
    exact k47 _ _
  have k6 : ∀ x (y : Int64), Ws G D_digest 6 [(0, .ref 2), (1, .long y), (3, .int x)] [] u (RJ fun _ u' => Cl qB u u') := by
    refine upI 8 _ (fun x ih y => ?_)
    exact sg_D_digest_6 ⟨fun _ => k33 _ _, fun c => kIe h_countOf (fun _ => ih (by grind) _)⟩
  exact sg_D_digest_0 (k6 _ _)
end CLS
