section MOD
variable {G : pG} {u w : pM} {L : List Nat}
theorem e_pass {x1 : Int32} (hM : InvM u) : Ws G m_passOne 0 [(0, .ref 76), (1, .int x1), (2, .int (mI u 76 19))] [] u (RV fun u' => Mq mB u u') := e_passOne hM hM.2.2.2.1
theorem e_who {x1 : Int32} (hM : InvM u) : Ws G m_who 0 [(0, .ref 76), (1, .int x1)] [] u (RI fun _ u' => Mo mB u u') := by
  have m7 := hM.m7
  have key : ∀ x (y : Int32), 0 ≤ x → Ws G m_who 15 [(0, .ref 76), (1, .int x1), (2, .int y), (3, .int x)] [] u (RI fun _ u' => Mo mB u u') := by
    refine upI (mI u 76 11) _ (fun x ih y h0 => ?_)
    exact sg_m_who_15 ⟨fun _ => lfM hM Mq.rf, fun c => ⟨(vin (by grind) (show (_ : Int32) < 7 by grind) (by decide)), fun _ => ih c _ (by grind), fun _ => ih c _ (by grind)⟩⟩
  exact sg_m_who_0 ⟨fun _ => key 0 _ (by decide), fun _ => lfM hM Mq.rf⟩
theorem e_wants {x1 : Int32} (hM : InvM u) : Ws G m_wants 0 [(0, .ref 76), (1, .int x1)] [] u (RI fun _ u' => Mo mB u u') := by
  have m7 := hM.m7
  refine sg_m_wants_0 ⟨fun a => kVm (u := u) (L := mB) (e_fromNow hM) Mq.rf (fun v hq => kVm (u := u) (L := mB) (e_pass (hq.inv hM)) hq (fun v hq => ?_)), fun _ => lfM hM Mq.rf⟩
  have hV := hq.inv hM
  have hm := hq.m
  have n1 := hV.n10 (s := x1) a.1 (by grind)
  exact ⟨(vin (by grind) (show (_ : Int32) < 7 by grind) (by decide)), (vin (by grind) (show (_ : Int32) < 7 by grind) (by decide)), (vin (by grind) (show (_ : Int32) < 70 by grind) (by decide)), (vin (by grind) (show (_ : Int32) < 70 by grind) (by decide)), (vin (by grind) (show (_ : Int32) < 70 by grind) (by decide)), hV.2.2.1 x1 a.1 (by grind), i64_ne (by grind), lfM hM (hq.pF (by decide))⟩
theorem e_where {x1 : Int32} {x2 : Int32} (hM : InvM u) : Ws G m_where 0 [(0, .ref 76), (1, .int x1), (2, .int x2)] [] u (RI fun _ u' => Mo mB u u') := by
  have m7 := hM.m7
  have key : 0 ≤ x1 → x1 < mI u 76 11 → ∀ x v, Mq mB u v → Ws G m_where 27 [(0, .ref 76), (1, .int x1), (2, .int x2), (3, .int x)] [] v (RI fun _ u' => Mo mB u u') := by
    intro a0 a1
    refine upI x2 _ (fun x ih v hq => ?_)
    exact sg_m_where_27 ⟨fun _ => ⟨(vin (by grind) (show (_ : Int32) < 7 by grind) (by decide)), lfM hM hq⟩, fun c => kVm (u := u) (L := mB) (e_pass (hq.inv hM)) hq (fun v hq => ih c _ hq)⟩
  exact sg_m_where_0 ⟨fun a => ⟨fun _ => kVm (u := u) (L := mB) (e_fromNow hM) Mq.rf (fun v hq => key a.1 (by grind) 0 v hq), fun _ => lfM hM Mq.rf⟩, fun _ => lfM hM Mq.rf⟩
theorem k_nz {k : Int32} (h : ¬ k = 0) : ¬ k = 0 ∧ ¬ 2 * k.toInt64 = 0 ∧ ¬ k.toInt64 = 0 := by
  have a := Int32.le_toInt k
  have b := Int32.toInt_lt k
  have d0 : (0 : Int32).toInt = 0 := by decide
  have d1 : (0 : Int64).toInt = 0 := by decide
  have d2 : (2 : Int64).toInt = 2 := by decide
  have hk : ¬ k.toInt = 0 := fun z => h (Int32.toInt_inj.mp (by omega))
  refine ⟨h, fun z => ?_, fun z => ?_⟩
  · have := congrArg Int64.toInt z
    rw [Int64.toInt_mul, d2, Int32.toInt_toInt64, d1, Int.bmod_eq_of_le (by omega) (by omega)] at this
    omega
  · have := congrArg Int64.toInt z
    rw [Int32.toInt_toInt64] at this
    omega
theorem e_plainBy {x1 x2 x3 x4 : Int32} {x5 x7 : Int64} (hk : 3 ≤ x2 → ¬ x4 = 0) (hn : 10 ≤ mI u 76 10 ∧ mI u 76 10 ≤ 30) : Ws G m_plainBy 0 [(0, .ref 76), (1, .int x1), (2, .int x2), (3, .int x3), (4, .int x4), (5, .long x5), (7, .long x7)] [] u (RI fun _ u' => u = u') :=
  sg_m_plainBy_0 ⟨fun q => k_nz (hk q), fun q => k_nz (hk q), i64_ne (by grind), _, rfl, rfl⟩
theorem e_plainly {x1 : Int32} {x2 : Int32} (hM : InvM u) : Ws G m_plainly 0 [(0, .ref 76), (1, .int x1), (2, .int x2)] [] u (RI fun _ u' => Mo mB u u') := by
  have m7 := hM.m7
  exact sg_m_plainly_0 ⟨fun a => ⟨fun _ => ⟨(vin (by grind) (show (_ : Int32) < 7 by grind) (by decide)), (vin (by grind) (show (_ : Int32) < 70 by grind) (by decide)), (vin (by grind) (show (_ : Int32) < 70 by grind) (by decide)), (vin (by grind) (show (_ : Int32) < 70 by grind) (by decide)), kIe (e_plainBy (hM.2.2.1 x1 a.1 (by grind)) (hM.n10 (s := x1) a.1 (by grind))) (fun _ => lfM hM Mq.rf)⟩, fun _ => lfM hM Mq.rf⟩, fun _ => lfM hM Mq.rf⟩
theorem e_again  (hM : InvM u) : Ws G m_again 0 [(0, .ref 76)] [] u (RI fun _ u' => Mo mB u u') := by
  have m7 := hM.m7
  have key : ∀ x v, Mq mB u v → Ws G m_again 16 [(0, .ref 76), (1, .int x)] [] v (RI fun _ u' => Mo mB u u') := by
    refine upI 601 _ (fun x ih v hq => ?_)
    refine sg_m_again_16 ⟨fun _ => lfM hM hq, fun c => kVm (u := u) (L := mB) (e_pass (hq.inv hM)) hq (fun v hq => ?_)⟩
    have inn : ∀ y (z : Int32), 0 ≤ y → Ws G m_again 43 [(0, .ref 76), (1, .int x), (2, .int z), (3, .int y)] [] v (RI fun _ u' => Mo mB u u') := by
      refine upI (mI v 76 11) _ (fun y ihy z h0 => ?_)
      have hm := hq.m
      exact sg_m_again_43 ⟨fun _ => ⟨fun _ => ih (by grind) _ hq, fun _ => lfM hM hq⟩, fun cy => ⟨fun _ => ihy cy _ (by grind), fun _ => ⟨(vin (by grind) (show (_ : Int32) < 7 by grind) (by decide)), (vin (by grind) (show (_ : Int32) < 7 by grind) (by decide)), fun _ => ihy cy _ (by grind), fun _ => ihy cy _ (by grind)⟩⟩⟩
    exact inn 0 1 (by decide)
  exact sg_m_again_0 ⟨fun _ => kVm (u := u) (L := mB) (e_fromNow hM) Mq.rf (fun v hq => key 1 v hq), fun _ => lfM hM Mq.rf⟩
theorem e_beside {x1 : Int32} {x2 : Int32} (hM : InvM u) : Ws G m_beside 0 [(0, .ref 76), (1, .int x1), (2, .int x2)] [] u (RI fun _ u' => Mo mB u u') := by
  have m7 := hM.m7
  have key : 0 ≤ x1 → x1 < mI u 76 11 → 0 ≤ x2 → x2 < mI u 76 11 → ∀ x v, Mq mB u v → Ws G m_beside 29 [(0, .ref 76), (1, .int x1), (2, .int x2), (3, .int x)] [] v (RI fun _ u' => Mo mB u u') := by
    intro a0 a1 b0 b1
    refine upI 601 _ (fun x ih v hq => ?_)
    have hV := hq.inv hM
    exact sg_m_beside_29 ⟨fun _ => lfM hM hq, fun c => ⟨(vin (by grind) (show (_ : Int32) < 7 by grind) (by decide)), (vin (by grind) (show (_ : Int32) < 7 by grind) (by decide)), kIe (e_areBeside (hV.n10 a0 (by rw [hq.m]; exact a1))) (fun _ => ⟨fun _ => kVm (u := u) (L := mB) (e_pass hV) hq (fun v hq => ih (by grind) _ hq), fun _ => lfM hM hq⟩)⟩⟩
  exact sg_m_beside_0 ⟨fun a => ⟨fun b => ⟨fun _ => kVm (u := u) (L := mB) (e_fromNow hM) Mq.rf (fun v hq => key a.1 (by grind) b.1 (by grind) 0 v hq), fun _ => lfM hM Mq.rf⟩, fun _ => lfM hM Mq.rf⟩, fun _ => lfM hM Mq.rf⟩
theorem e_comes {x1 : Int32} {x2 : Int32} (hM : InvM u) : Ws G m_comes 0 [(0, .ref 76), (1, .int x1), (2, .int x2)] [] u (RI fun _ u' => Mo mB u u') := by
  have m7 := hM.m7
  have key : 0 ≤ x1 → x1 < mI u 76 11 → ∀ x v, Mq mB u v → Ws G m_comes 24 [(0, .ref 76), (1, .int x1), (2, .int x2), (3, .int x)] [] v (RI fun _ u' => Mo mB u u') := by
    intro a0 a1
    refine upI 601 _ (fun x ih v hq => ?_)
    exact sg_m_comes_24 ⟨fun _ => lfM hM hq, fun c => ⟨(vin (by grind) (show (_ : Int32) < 7 by grind) (by decide)), fun _ => kVm (u := u) (L := mB) (e_pass (hq.inv hM)) hq (fun v hq => ih (by grind) _ hq), fun _ => lfM hM hq⟩⟩
  exact sg_m_comes_0 ⟨fun a => ⟨fun b => kVm (u := u) (L := mB) (e_fromNow hM) Mq.rf (fun v hq => key a.1 (by grind) 0 v hq), fun _ => lfM hM Mq.rf⟩, fun _ => lfM hM Mq.rf⟩
end MOD
