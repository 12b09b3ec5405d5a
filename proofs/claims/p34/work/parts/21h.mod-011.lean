section MOD
variable {G : pG} {u w : pM} {L : List Nat}
theorem e_count {x1 : Int32} (hM : InvM u) : Ws G m_count 0 [(0, .ref 76), (1, .int x1)] [] u (RI fun _ u' => Mo mB u u') := by
  exact sg_m_count_0 ⟨fun _ => kIe (e_counts hM) (fun _ => lfM hM Mq.rf), fun _ => lfM hM Mq.rf⟩
end MOD
