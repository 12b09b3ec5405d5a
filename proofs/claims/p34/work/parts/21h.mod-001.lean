section MOD
variable {G : pG} {u w : pM} {L : List Nat}
theorem e_othersBy {x1 : Int32} {x2 : Int32} (hM : InvM u) (h1 : 0 ≤ x1 ∧ x1 < mI u 76 10) (h2 : x2 ≤ 60) (hc : cnt (mI u 76 19) (mI u 76 10).toNatClampNeg < 3) : Ws G m_othersBy 0 [(0, .ref 76), (1, .int x1), (2, .int x2)] [] u (RI fun _ u' => Mq mB u u') := by
  have m7 := hM.m7
  have n30 := hM.n30
  have n31 := n31 hM
  have cl : cnt ((mI u 76 19) ||| (1 <<< (x1 &&& 31))) (mI u 76 10).toNatClampNeg ≤ 3 := by
    have := (cnt_upd (x := mI u 76 19) (d := x1.toNatClampNeg) (mI u 76 10).toNatClampNeg (fun j hj => tbo (x := mI u 76 19) h1.1 (by grind) (by omega))).1
    omega
  have key : ∀ x v (x3 : Int32), 1 ≤ x → Mq mB u v → Ws G m_othersBy 15 [(0, .ref 76), (1, .int x1), (2, .int x2), (3, .int x3), (4, .int x)] [] v (RI fun _ u' => Mq mB u u') := by
    refine upI 61 _ (fun x ih v x3 x0 hq => ?_)
    refine sg_m_othersBy_15 ⟨fun _ => ⟨_, rfl, hq⟩, fun c => kVm (u := u) (L := mB) (e_passOne (hq.inv hM) (by rw [hq.s, hq.n]; exact cl)) hq (fun v hq => ?_)⟩
    have inn : ∀ y (x3 : Int32), 0 ≤ y → Ws G m_othersBy 47 [(0, .ref 76), (1, .int x1), (2, .int x2), (3, .int x3), (4, .int x), (5, .int y)] [] v (RI fun _ u' => Mq mB u u') := by
      refine upI (mI u 76 11) _ (fun y ihy x3 h0 => ?_)
      refine sg_m_othersBy_47 ⟨fun _ => ⟨fun _ => ih (by grind) _ _ (by grind) (hq.pF (by decide)), fun _ => ⟨fun _ => ih (by grind) _ _ (by grind) (hq.pF (by decide)), fun _ => ih (by grind) _ _ (by grind) (hq.pF (by decide))⟩⟩, fun cy => ?_⟩
      rw [hq.m] at cy
      exact ⟨(vin (by grind) (show (_ : Int32) < 7 by grind) (by decide)), (vin (by grind) (show (_ : Int32) < 427 by grind) (by decide)), fun _ => ihy cy _ (by grind), fun _ => ihy cy _ (by grind)⟩
    exact inn 0 0 (by decide)
  exact sg_m_othersBy_0 (kVm (u := u) (L := mB) (e_fromNow hM) Mq.rf (fun v hq => key 1 _ _ (by decide) (hq.pF (by decide))))
end MOD
