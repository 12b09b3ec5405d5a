section CLS
variable {G : pG} {u w : pM} {L : List Nat}
theorem d_lower (hC : InvC u) : Ws G D_lower 0 [(0, .ref 2)] [] u (RJ fun _ u' => Cl qB u u') := sg_D_lower_0 ⟨_, rfl, Cl.rf hC⟩
end CLS
