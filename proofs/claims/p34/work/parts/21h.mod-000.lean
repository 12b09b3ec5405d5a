section MOD
variable {G : pG} {u w : pM} {L : List Nat}
theorem e_setPlans {x1 : Int32} (hM : InvM u) (h1 : x1 ≤ 60) : Ws G m_setPlans 0 [(0, .ref 76), (1, .int x1)] [] u (RV fun u' => Mq mB u u') := by
  have m7 := hM.m7
  have key : ∀ x v, 0 ≤ x → Mq mB u v → Ws G m_setPlans 6 [(0, .ref 76), (1, .int x1), (2, .int x)] [] v (RV fun u' => Mq mB u u') := by
    refine upI 61 _ (fun x ih v x0 hq => ?_)
    refine sg_m_setPlans_6 ⟨fun _ => ⟨rfl, hq⟩, fun c => ?_⟩
    have inn : ∀ y v, 0 ≤ y → Mq mB u v → Ws G m_setPlans 13 [(0, .ref 76), (1, .int x1), (2, .int x), (3, .int y)] [] v (RV fun u' => Mq mB u u') := by
      refine upI (mI u 76 11) _ (fun y ihy v h0 hq => ?_)
      refine sg_m_setPlans_13 ⟨fun _ => kVm (u := u) (L := mB) (e_pass (hq.inv hM)) hq (fun v hq => ih (by grind) _ (by grind) hq), fun cy => ?_⟩
      rw [hq.m] at cy
      exact ⟨(vin (by grind) (show (_ : Int32) < 7 by grind) (by decide)), (vin (by grind) (show (_ : Int32) < 427 by grind) (by decide)), ihy cy _ (by grind) (hq.pA (by decide))⟩
    exact inn 0 v (by decide) hq
  exact sg_m_setPlans_0 (kVm (u := u) (L := mB) (e_fromNow hM) Mq.rf (fun v hq => key 0 v (by decide) hq))
end MOD
