section MOD
variable {G : pG} {u w : pM} {L : List Nat}
theorem e_findings {x1 : Int32} (hM : InvM u) : Ws G m_findings 0 [(0, .ref 76), (1, .int x1)] [] u (RI fun _ u' => Mo mB u u') := by
  exact sg_m_findings_0 ⟨fun a => ⟨(vin (by grind) (show (_ : Int32) < 6 by grind) (by decide)), lfM hM Mq.rf⟩, fun _ => lfM hM Mq.rf⟩
end MOD
