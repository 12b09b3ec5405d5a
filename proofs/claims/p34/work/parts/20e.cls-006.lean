section CLS
variable {G : pG} {u w : pM} {L : List Nat}
theorem d_kinds {x1 : Int32} (hC : InvC u) : Ws G D_kinds 0 [(0, .ref 2), (1, .int x1)] [] u (RI fun _ u' => Cl (qB) u u') := by
  have key : ∀ x (x2 x4 x5 : Int32), Ws G D_kinds 67 [(0, .ref 2), (1, .int x1), (2, .int x2), (4, .int x4), (5, .int x5), (6, .int x)] [] u (RI fun _ u' => Cl (qB) u u') := by
    refine upI 6 _ (fun x ih x2 x4 x5 => ?_)
    have inn : ¬ 5 < x → ∀ y (x4 x5 : Int32), Ws G D_kinds 76 [(0, .ref 2), (1, .int x1), (2, .int x2), (4, .int x4), (5, .int x5), (6, .int x), (7, .int y)] [] u (RI fun _ u' => Cl (qB) u u') := by
      intro hx
      refine upI 10 _ (fun y ihy x4 x5 => ?_)
      exact sg_D_kinds_76 ⟨fun _ => ih (by grind) _ _ _, fun c hp => kIe (c_fits (pl_ok hp)) (fun _ => ⟨fun _ => ihy (by grind) _ _, fun _ => ⟨fun _ => ihy (by grind) _ _, fun _ => ihy (by grind) _ _⟩⟩)⟩
    exact sg_D_kinds_67 ⟨fun _ => ⟨fun _ => lf hC (Cq.rf.pI wr_D (by decide)), fun _ => lf hC Cq.rf⟩, fun c => inn c _ _ _⟩
  exact sg_D_kinds_0 (fun _ => ⟨fun _ hp _ => kIe (c_fits (pl_ok hp)) (fun _ => ⟨fun _ => ⟨fun _ => key _ _ _ _, fun _ => key _ _ _ _⟩, fun _ => ⟨fun _ => key _ _ _ _, fun _ => key _ _ _ _⟩⟩), fun _ => lf hC Cq.rf⟩)
end CLS
