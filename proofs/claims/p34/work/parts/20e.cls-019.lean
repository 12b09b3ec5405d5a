section CLS
variable {G : pG} {u w : pM} {L : List Nat}
theorem h_countOf {x1 : Int32} : Ws G D_countOf 0 [(0, .ref 2), (1, .int x1)] [] u (RI fun _ u' => u = u') := by
  exact sg_D_countOf_0 ⟨fun _ _ => ⟨_, rfl, rfl⟩, fun _ _ => ⟨_, rfl, rfl⟩, fun _ => ⟨_, rfl, rfl⟩, fun _ hp => kIe (c_sleepers (pl_ok hp)) (fun _ => ⟨_, rfl, rfl⟩), fun _ => ⟨_, rfl, rfl⟩, fun _ => ⟨_, rfl, rfl⟩, fun _ => kIe (h_countThere (by decide)) (fun _ => ⟨_, rfl, rfl⟩), fun _ => kIe (h_countThere (by decide)) (fun _ => ⟨_, rfl, rfl⟩)⟩
end CLS
