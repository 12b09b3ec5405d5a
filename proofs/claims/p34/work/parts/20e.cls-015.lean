section CLS
variable {G : pG} {u w : pM} {L : List Nat}
theorem d_finding  (hC : InvC u) : Ws G D_finding 0 [(0, .ref 2)] [] u (RI fun _ u' => Cl (qB) u u') := by
  refine sg_D_finding_0 ?_
  repeat' first
    | (exact ⟨_, rfl, rfl⟩)
    | (refine lf hC ?_)
    | (assumption)
    | (exact Cq.rf)
    | (refine cq_dF ?_ (by decide))
    | (refine Cq.pI ?_ wr_D (by decide))
    | (refine cq_snB ?_ (by decide) (by decide))
    | (refine cq_spS ?_ (roV_ok _) (roV_m (by decide)))
    | (refine cq_spS ?_ (txV_ok _) (txV_m (by decide)))
    | (refine cq_snB ?_ (kpV_ok _) (kpV_m (by decide)))
    | (refine cq_snS ?_ (by decide) (by decide))
    | (refine Cq.pI ?_ (wr_5 (by decide)) (by decide))
    | (refine Cq.pI ?_ (wr_5 (kpV_ok _)) (cm_5 (kpV_ok _) (kpV_m (by decide))))
    | ((fail_if_success (refine Ws.str ?_)); intro _)
    | (refine And.intro ?_ ?_)
end CLS
