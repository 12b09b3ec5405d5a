section CPY
variable {G : pG} {u : pM}
theorem d_copyy {x1 x2 x3 x4 x5 : Int32} (hC : InvC u) : Ws G D_copy 0 [(0, .ref 2), (1, .int x1), (2, .int x2), (3, .int x3), (4, .int x4), (5, .int x5)] [] u (RI fun a u' => Cl (qB ++ qR) u u' ∧ copV (mI u (50 + 2 * x1.toNatClampNeg) 1) (mI u (50 + 2 * x3.toNatClampNeg) 1) x1 x2 x3 x4 x5 = a ∧ rwP u u' (copV (mI u (50 + 2 * x1.toNatClampNeg) 1) (mI u (50 + 2 * x3.toNatClampNeg) 1) x1 x2 x3 x4 x5 = 1) x3.toNatClampNeg (mI u (50 + 2 * x3.toNatClampNeg) 1) (cpyF (mI u (51 + 2 * x1.toNatClampNeg)) (mI u (51 + 2 * x3.toNatClampNeg)) x2.toNatClampNeg x4.toNatClampNeg x5.toNatClampNeg)) := by
  have no : ∀ z, copV (mI u (50 + 2 * x1.toNatClampNeg) 1) (mI u (50 + 2 * x3.toNatClampNeg) 1) x1 x2 x3 x4 x5 = z → ¬ z = 1 → ¬ copV (mI u (50 + 2 * x1.toNatClampNeg) 1) (mI u (50 + 2 * x3.toNatClampNeg) 1) x1 x2 x3 x4 x5 = 1 := fun z e n q => n (e.symm.trans q)
  refine sg_D_copy_0 ⟨fun a => ⟨fun b => ?_, fun b => ?_⟩, fun a => ?_⟩
  rotate_left
  · have v : copV (mI u (50 + 2 * x1.toNatClampNeg) 1) (mI u (50 + 2 * x3.toNatClampNeg) 1) x1 x2 x3 x4 x5 = -1 := by unfold copV; rw [if_neg (fun z => b z.2)]
    exact ⟨_, rfl, Cl.rf hC, v, .inr ⟨no _ v (by decide), rwK.rf⟩⟩
  · have v : copV (mI u (50 + 2 * x1.toNatClampNeg) 1) (mI u (50 + 2 * x3.toNatClampNeg) 1) x1 x2 x3 x4 x5 = -1 := by unfold copV; rw [if_neg (fun z => a z.1)]
    exact ⟨_, rfl, Cl.rf hC, v, .inr ⟨no _ v (by decide), rwK.rf⟩⟩
  obtain ⟨e1, h1⟩ := rO a
  obtain ⟨e3, h3⟩ := rO b
  rw [e1, e3]
  have bad : ∀ f, ¬ (0 ≤ x5 ∧ 0 ≤ mI u (50 + 2 * x1.toNatClampNeg) 1 ∧ 0 ≤ mI u (50 + 2 * x3.toNatClampNeg) 1 ∧ (0 ≤ x2 ∧ x2 ≤ mI u (50 + 2 * x1.toNatClampNeg) 1 - x5) ∧ 0 ≤ x4 ∧ x4 ≤ mI u (50 + 2 * x3.toNatClampNeg) 1 - x5) → (RI fun a u' => Cl (qB ++ qR) u u' ∧ copV (mI u (50 + 2 * x1.toNatClampNeg) 1) (mI u (50 + 2 * x3.toNatClampNeg) 1) x1 x2 x3 x4 x5 = a ∧ rwP u u' (copV (mI u (50 + 2 * x1.toNatClampNeg) 1) (mI u (50 + 2 * x3.toNatClampNeg) 1) x1 x2 x3 x4 x5 = 1) x3.toNatClampNeg (mI u (50 + 2 * x3.toNatClampNeg) 1) (cpyF (mI u (51 + 2 * x1.toNatClampNeg)) (mI u (51 + 2 * x3.toNatClampNeg)) x2.toNatClampNeg x4.toNatClampNeg x5.toNatClampNeg)) (some (.int (-3))) (dF u f) := fun f q => by
    have v : copV (mI u (50 + 2 * x1.toNatClampNeg) 1) (mI u (50 + 2 * x3.toNatClampNeg) 1) x1 x2 x3 x4 x5 = -3 := by unfold copV; rw [if_pos ⟨a, b⟩, if_neg q]
    exact ⟨_, rfl, (cq_dF Cq.rf (by decide)).cl hC, v, .inr ⟨no _ v (by decide), rwK.dF⟩⟩
  refine ⟨fun c5 => ⟨fun c1 => ⟨fun c3 => ⟨fun d => ⟨fun f => ?_, fun f => bad 2 (fun z => f ⟨z.2.2.2.2.1, z.1, z.2.2.2.2.2⟩)⟩, fun d => bad 2 (fun z => d ⟨z.2.2.2.1.1, z.1, z.2.2.2.1.2⟩)⟩, fun c3 => bad 1 (fun z => c3 z.2.2.1)⟩, fun c1 => bad 1 (fun z => c1 z.2.1)⟩, fun c5 => bad 5 (fun z => c5 z.1)⟩
  have p := cp_ok d c1 (hC.1 _ (rL h1).1) (S0_lt _)
  have q := cp_ok f c3 (hC.1 _ (rL h3).1) (S0_lt _)
  have v : copV (mI u (50 + 2 * x1.toNatClampNeg) 1) (mI u (50 + 2 * x3.toNatClampNeg) 1) x1 x2 x3 x4 x5 = 1 := by unfold copV; rw [if_pos ⟨a, b⟩, if_pos ⟨c5, c1, c3, ⟨d.1, d.2.2⟩, f.1, f.2.2⟩]
  refine ⟨⟨p.1, q.1, p.2.1, p.2.2, q.2.2⟩, _, rfl, (Cq.rf.cpI (fun _ => wr_6a (rL h3).1) (fun _ => cm_6a (rL h3).1 (rM h3))).cl hC, v, .inl ⟨v, ?_⟩⟩
  rw [show 50 + 2 * x1.toNatClampNeg + 1 = 51 + 2 * x1.toNatClampNeg by omega, show 50 + 2 * x3.toNatClampNeg + 1 = 51 + 2 * x3.toNatClampNeg by omega]
  exact rwS.of (cpI_ne (by omega)) (fun k _ => cpI_at) (fun n k _ _ _ n4 => cpI_ne n4)
end CPY
