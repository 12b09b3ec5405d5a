section CLS
variable {G : pG} {u w : pM} {L : List Nat}
theorem h_passersFinding {o1 : Nat} (k1 : okS o1 6) : Ws G D_passersFinding 0 [(0, .ref 2), (1, .ref o1)] [] u (RI fun _ u' => u = u') := by
  have key : ∀ x, Ws G D_passersFinding 27 [(1, .ref o1), (2, .int x)] [] u (RI fun _ u' => u = u') := by
    refine upI (mI u o1 1) _ (fun x ih => ?_)
    exact sg_D_passersFinding_27 k1 ⟨fun _ => ⟨_, rfl, rfl⟩, fun c => ⟨fun _ => ⟨_, rfl, rfl⟩, fun _ => ⟨fun _ => ih c, fun _ => ⟨_, rfl, rfl⟩⟩⟩⟩
  exact sg_D_passersFinding_0 k1 ⟨fun _ _ => ⟨fun _ => key 0, fun _ => ⟨_, rfl, rfl⟩⟩, fun _ => ⟨_, rfl, rfl⟩⟩
end CLS
