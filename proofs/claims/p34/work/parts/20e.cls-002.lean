section CLS
variable {G : pG} {u w : pM} {L : List Nat}
theorem h_metBy {x1 x2 : Int32} : Ws G D_metBy 0 [(0, .ref 2), (1, .int x1), (2, .int x2)] [] u (RI fun _ u' => u = u') := by
  have key : ∀ x (y : Int32), Ws G D_metBy 5 [(0, .ref 2), (1, .int x1), (2, .int x2), (3, .int y), (4, .int x)] [] u (RI fun _ u' => u = u') := by
    refine upI (mI u (mR u 2 10) 1) _ (fun x ih y => ?_)
    exact sg_D_metBy_5 (fun hp => ⟨fun _ => ⟨_, rfl, rfl⟩, fun c _ _ => kIe (c_canMeet (pl_ok hp)) (fun _ => ⟨fun _ => ih c _, fun _ => ih c _⟩)⟩)
  exact sg_D_metBy_0 (key 0 0)
end CLS
