section CLS
variable {G : pG} {u w : pM} {L : List Nat}
theorem d_quiet  (hC : InvC u) : Ws G D_quiet 0 [(0, .ref 2)] [] u (RI fun _ u' => Cl (qB) u u') := by
  have key : ∀ x (x1 x2 : Int32), Ws G D_quiet 20 [(0, .ref 2), (1, .int x1), (2, .int x2), (3, .int x)] [] u (RI fun _ u' => Cl (qB) u u') := by
    refine upI (mI u (mR u 2 10) 0) _ (fun x ih x1 x2 => ?_)
    have inn : ¬ mI u (mR u 2 10) 0 ≤ x → ∀ y (x1 x2 : Int32), Ws G D_quiet 35 [(0, .ref 2), (1, .int x1), (2, .int x2), (3, .int x), (4, .int y)] [] u (RI fun _ u' => Cl (qB) u u') := by
      intro hx
      refine upI 10 _ (fun y ihy x1 x2 => ?_)
      exact sg_D_quiet_35 ⟨fun _ => ih hx _ _, fun c => kIe h_metBy (fun _ => ⟨fun _ => ihy (by grind) _ _, fun _ => ⟨fun _ => ihy (by grind) _ _, fun _ => ihy (by grind) _ _⟩⟩)⟩
    exact sg_D_quiet_20 (fun _ => ⟨fun _ => ⟨fun _ => lf hC (Cq.rf.pI wr_D (by decide)), fun _ => lf hC Cq.rf⟩, fun c => inn c _ _ _⟩)
  exact sg_D_quiet_0 (fun _ => ⟨fun _ => key _ _ _, fun _ => lf hC Cq.rf⟩)
end CLS
