section CLS
variable {G : pG} {u w : pM} {L : List Nat}
theorem d_steps {x1 : Int32} (hC : InvC u) : Ws G D_steps 0 [(0, .ref 2), (1, .int x1)] [] u (RI fun _ u' => Cl (qB) u u') := by
  have key : ∀ o, okS o 4 → ∀ x (x3 : Int32), Ws G D_steps 28 [(0, .ref 2), (1, .int x1), (2, .ref o), (3, .int x3), (4, .int x)] [] u (RI fun _ u' => Cl (qB) u u') := by
    intro o ho
    refine upI 10 _ (fun x ih x3 => ?_)
    exact sg_D_steps_28 ho ⟨fun _ => lf hC (Cq.rf.pI wr_D (by decide)), fun c hp => kIe (c_fits (pl_ok hp)) (fun _ => ⟨fun _ => ih (by grind) _, fun _ => ih (by grind) _⟩)⟩
  exact sg_D_steps_0 (fun _ => ⟨fun _ hp => key _ (shO_ok (pl_ok hp)) _ _, fun _ => lf hC Cq.rf⟩)
end CLS
