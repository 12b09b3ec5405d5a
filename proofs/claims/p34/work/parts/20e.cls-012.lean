section CLS
variable {G : pG} {u w : pM} {L : List Nat}
theorem d_mends {x1 : Int32} {x2 : Int32} (hC : InvC u) : Ws G D_mends 0 [(0, .ref 2), (1, .int x1), (2, .int x2)] [] u (RI fun _ u' => Cl (qB) u u') := by
  have key : ∀ x v (x3 x4 : Int32), x2 ≤ 60 → Cq (qB) u v → Ws G D_mends 94 [(0, .ref 2), (2, .int x2), (3, .int x3), (4, .int x4), (5, .int x)] [] v (RI fun _ u' => Cl (qB) u u') := by
    refine upI 61 _ (fun x ih v x3 x4 h2 hq => ?_)
    refine sg_D_mends_94 ?_
    repeat' first
      | (exact ⟨_, rfl, rfl⟩)
      | (refine lf hC ?_)
      | (assumption)
      | (exact Cq.rf)
      | (refine cq_dF ?_ (by decide))
      | (refine Cq.pI ?_ wr_D (by decide))
      | (refine cq_snB ?_ (by decide) (by decide))
      | (refine cq_spS ?_ (roV_ok _) (roV_m (by decide)))
      | (refine cq_spS ?_ (txV_ok _) (txV_m (by decide)))
      | (refine cq_snB ?_ (kpV_ok _) (kpV_m (by decide)))
      | (refine cq_snS ?_ (by decide) (by decide))
      | (refine Cq.pI ?_ (wr_5 (by decide)) (by decide))
      | (refine Cq.pI ?_ (wr_5 (kpV_ok _)) (cm_5 (kpV_ok _) (kpV_m (by decide))))
      | (refine kVq (u := u) (L := (qB)) (c_pass (by decide) (by decide) (pl_ok (by assumption))) ?_ ?_)
      | (refine kIe (c_differing (by decide) (by decide)) ?_)
      | (refine ih (by grind) _ _ _ h2 ?_)
      | ((fail_if_success (refine Ws.str ?_)); intro _)
      | (refine And.intro ?_ ?_)
  refine sg_D_mends_0 ?_
  repeat' first
    | (exact ⟨_, rfl, rfl⟩)
    | (refine lf hC ?_)
    | (assumption)
    | (exact Cq.rf)
    | (refine cq_dF ?_ (by decide))
    | (refine Cq.pI ?_ wr_D (by decide))
    | (refine cq_snB ?_ (by decide) (by decide))
    | (refine cq_spS ?_ (roV_ok _) (roV_m (by decide)))
    | (refine cq_spS ?_ (txV_ok _) (txV_m (by decide)))
    | (refine cq_snB ?_ (kpV_ok _) (kpV_m (by decide)))
    | (refine cq_snS ?_ (by decide) (by decide))
    | (refine Cq.pI ?_ (wr_5 (by decide)) (by decide))
    | (refine Cq.pI ?_ (wr_5 (kpV_ok _)) (cm_5 (kpV_ok _) (kpV_m (by decide))))
    | (refine key _ _ _ _ (by grind) ?_)
    | ((fail_if_success (refine Ws.str ?_)); intro _)
    | (refine And.intro ?_ ?_)
end CLS
