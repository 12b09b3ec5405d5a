section CLS
variable {G : pG} {u w : pM} {L : List Nat}
theorem d_dearest {x1 : Int32} {x2 : Int32} (hC : InvC u) : Ws G D_dearest 0 [(0, .ref 2), (1, .int x1), (2, .int x2)] [] u (RI fun _ u' => Cl (qB) u u') := by
  have key : ∀ o, okS o 6 → ∀ x v (x5 x6 x7 : Int32), Cq (qB) u v → Ws G D_dearest 53 [(0, .ref 2), (2, .int x2), (3, .ref o), (5, .int x5), (6, .int x6), (7, .int x7), (8, .int x)] [] v (RI fun _ u' => Cl (qB) u u') := by
    intro o ho
    refine upI (mI u (mR u 2 10) 1) _ (fun x ih v x5 x6 x7 hq => ?_)
    exact sg_D_dearest_53 ho (fun hp => ⟨fun _ => ⟨fun _ => kVq (u := u) (h_tellFraction (by decide)) hq (fun v hq => lf hC hq), fun _ => lf hC (cq_dF hq (by decide))⟩, fun c => kIq (u := u) (h_rentOf (by decide) ho) hq (fun a v' hq' => ⟨fun _ => ih (by rw [cq_pl hq hp] at c; exact c) _ _ _ _ hq', fun _ => ih (by rw [cq_pl hq hp] at c; exact c) _ _ _ _ hq'⟩)⟩)
  refine sg_D_dearest_0 ?_
  repeat' first
    | (exact ⟨_, rfl, rfl⟩)
    | (refine lf hC ?_)
    | (assumption)
    | (exact Cq.rf)
    | (refine cq_dF ?_ (by decide))
    | (refine Cq.pI ?_ wr_D (by decide))
    | (refine cq_snB ?_ (by decide) (by decide))
    | (refine cq_spS ?_ (roV_ok _) (roV_m (by decide)))
    | (refine cq_spS ?_ (txV_ok _) (txV_m (by decide)))
    | (refine cq_snB ?_ (kpV_ok _) (kpV_m (by decide)))
    | (refine cq_snS ?_ (by decide) (by decide))
    | (refine Cq.pI ?_ (wr_5 (by decide)) (by decide))
    | (refine Cq.pI ?_ (wr_5 (kpV_ok _)) (cm_5 (kpV_ok _) (kpV_m (by decide))))
    | (refine kIe (h_passersFinding (roV_ok _)) ?_)
    | (refine key _ (roV_ok _) _ _ _ _ _ ?_)
    | ((fail_if_success (refine Ws.str ?_)); intro _)
    | (refine And.intro ?_ ?_)
end CLS
