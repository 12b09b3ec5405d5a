section CLS
variable {G : pG} {u w : pM} {L : List Nat}
theorem h_rentOf {o1 : Nat} {x2 x3 : Int32} (m : In2 L 10) (k1 : okS o1 6) : Ws G D_rentOf 0 [(0, .ref 2), (1, .ref o1), (2, .int x2), (3, .int x3)] [] u (RI fun _ u' => Cq L u u') := by
  have key : ∀ x v (y : Int32), Cq L u v → Ws G D_rentOf 17 [(0, .ref 2), (1, .ref o1), (2, .int x2), (3, .int x3), (4, .int y), (5, .int x)] [] v (RI fun _ u' => Cq L u u') := by
    refine upI x3 _ (fun x ih v y hq => ?_)
    exact sg_D_rentOf_17 k1 ⟨fun _ => ⟨_, rfl, hq⟩, fun c hp => kVq (u := u) (c_pass (by decide) m (pl_ok hp)) hq (fun v hq => ih c _ _ hq)⟩
  exact sg_D_rentOf_0 k1 (key _ _ _ (cq_snB Cq.rf (by decide) m))
end CLS
