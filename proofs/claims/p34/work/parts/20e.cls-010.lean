section CLS
variable {G : pG} {u w : pM} {L : List Nat}
theorem h_tellFraction {x1 x3 : Int64} (m : 313 ∈ L ∧ 314 ∈ L) : Ws G D_tellFraction 0 [(0, .ref 2), (1, .long x1), (3, .long x3)] [] u (RV fun u' => Cq L u u') :=
  sg_D_tellFraction_0 (kJe c_gcd (fun a => ⟨fun _ => ⟨rfl, Cq.rf⟩, fun c => ⟨fun e => c (by rw [e]; decide), fun e => c (by rw [e]; decide), rfl, (Cq.rf.pL (cm_D (by decide) m.1)).pL (cm_D (by decide) m.2)⟩⟩))
end CLS
