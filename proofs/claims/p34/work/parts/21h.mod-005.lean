section MOD
variable {G : pG} {u w : pM} {L : List Nat}
theorem e_finding  (hM : InvM u) : Ws G m_finding 0 [(0, .ref 76)] [] u (RI fun _ u' => Mo mB u u') := by
  exact sg_m_finding_0 (lfM hM Mq.rf)
end MOD
