section CLS
variable {G : pG} {u w : pM} {L : List Nat}
theorem d_findings {x1 : Int32} (hC : InvC u) : Ws G D_findings 0 [(0, .ref 2), (1, .int x1)] [] u (RI fun _ u' => Cl (qB) u u') := by
  exact sg_D_findings_0 ⟨fun _ => lf hC Cq.rf, fun a => ⟨fun b => ⟨vin (by grind) (show (_ : Int32) < 6 by grind) (by decide), lf hC Cq.rf⟩, fun _ => lf hC Cq.rf⟩⟩
end CLS
