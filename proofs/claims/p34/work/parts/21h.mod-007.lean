section MOD
variable {G : pG} {u w : pM} {L : List Nat}
theorem e_lower (hM : InvM u) : Ws G m_lower 0 [(0, .ref 76)] [] u (RJ fun _ u' => Mo mB u u') := sg_m_lower_0 ⟨_, rfl, Mo.rf hM⟩
end MOD
