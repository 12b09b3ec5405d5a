section MOD
variable {G : pG} {u w : pM} {L : List Nat}
theorem e_asked  (hM : InvM u) : Ws G m_asked 0 [(0, .ref 76)] [] u (RI fun _ u' => Mo mB u u') := by
  exact sg_m_asked_0 (lfM hM Mq.rf)
end MOD
