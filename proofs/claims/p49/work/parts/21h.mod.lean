section MOD
variable {G : pG} {u w : pM} {L : List Nat}
theorem e_setPlans {x1 : Int32} (hM : InvM u) (h1 : x1 ≤ 60) : Ws G m_setPlans 0 [(0, .ref 76), (1, .int x1)] [] u (RV fun u' => Mq mB u u') := by
  have m7 := hM.m7
  have key : ∀ x v, 0 ≤ x → Mq mB u v → Ws G m_setPlans 6 [(0, .ref 76), (1, .int x1), (2, .int x)] [] v (RV fun u' => Mq mB u u') := by
    refine upI 61 _ (fun x ih v x0 hq => ?_)
    refine sg_m_setPlans_6 ⟨fun _ => ⟨rfl, hq⟩, fun c => ?_⟩
    have inn : ∀ y v, 0 ≤ y → Mq mB u v → Ws G m_setPlans 13 [(0, .ref 76), (1, .int x1), (2, .int x), (3, .int y)] [] v (RV fun u' => Mq mB u u') := by
      refine upI (mI u 76 11) _ (fun y ihy v h0 hq => ?_)
      refine sg_m_setPlans_13 ⟨fun _ => kVm (u := u) (L := mB) (e_pass (hq.inv hM)) hq (fun v hq => ih (by grind) _ (by grind) hq), fun cy => ?_⟩
      rw [hq.m] at cy
      exact ⟨(vin (by grind) (show (_ : Int32) < 7 by grind) (by decide)), (vin (by grind) (show (_ : Int32) < 427 by grind) (by decide)), ihy cy _ (by grind) (hq.pA (by decide))⟩
    exact inn 0 v (by decide) hq
  exact sg_m_setPlans_0 (kVm (u := u) (L := mB) (e_fromNow hM) Mq.rf (fun v hq => key 0 v (by decide) hq))
theorem e_othersBy {x1 : Int32} {x2 : Int32} (hM : InvM u) (h1 : 0 ≤ x1 ∧ x1 < mI u 76 10) (h2 : x2 ≤ 60) (hc : cnt (mI u 76 19) (mI u 76 10).toNatClampNeg < 3) : Ws G m_othersBy 0 [(0, .ref 76), (1, .int x1), (2, .int x2)] [] u (RI fun _ u' => Mq mB u u') := by
  have m7 := hM.m7
  have n30 := hM.n30
  have n31 := n31 hM
  have cl : cnt ((mI u 76 19) ||| (1 <<< (x1 &&& 31))) (mI u 76 10).toNatClampNeg ≤ 3 := by
    have := (cnt_upd (x := mI u 76 19) (d := x1.toNatClampNeg) (mI u 76 10).toNatClampNeg (fun j hj => tbo (x := mI u 76 19) h1.1 (by grind) (by omega))).1
    omega
  have key : ∀ x v (x3 : Int32), 1 ≤ x → Mq mB u v → Ws G m_othersBy 15 [(0, .ref 76), (1, .int x1), (2, .int x2), (3, .int x3), (4, .int x)] [] v (RI fun _ u' => Mq mB u u') := by
    refine upI 61 _ (fun x ih v x3 x0 hq => ?_)
    refine sg_m_othersBy_15 ⟨fun _ => ⟨_, rfl, hq⟩, fun c => kVm (u := u) (L := mB) (e_passOne (hq.inv hM) (by rw [hq.s, hq.n]; exact cl)) hq (fun v hq => ?_)⟩
    have inn : ∀ y (x3 : Int32), 0 ≤ y → Ws G m_othersBy 47 [(0, .ref 76), (1, .int x1), (2, .int x2), (3, .int x3), (4, .int x), (5, .int y)] [] v (RI fun _ u' => Mq mB u u') := by
      refine upI (mI u 76 11) _ (fun y ihy x3 h0 => ?_)
      refine sg_m_othersBy_47 ⟨fun _ => ⟨fun _ => ih (by grind) _ _ (by grind) (hq.pF (by decide)), fun _ => ⟨fun _ => ih (by grind) _ _ (by grind) (hq.pF (by decide)), fun _ => ih (by grind) _ _ (by grind) (hq.pF (by decide))⟩⟩, fun cy => ?_⟩
      rw [hq.m] at cy
      exact ⟨(vin (by grind) (show (_ : Int32) < 7 by grind) (by decide)), (vin (by grind) (show (_ : Int32) < 427 by grind) (by decide)), fun _ => ihy cy _ (by grind), fun _ => ihy cy _ (by grind)⟩
    exact inn 0 0 (by decide)
  exact sg_m_othersBy_0 (kVm (u := u) (L := mB) (e_fromNow hM) Mq.rf (fun v hq => key 1 _ _ (by decide) (hq.pF (by decide))))
theorem e_mends {x1 : Int32} {x2 : Int32} (hM : InvM u) : Ws G m_mends 0 [(0, .ref 76), (1, .int x1), (2, .int x2)] [] u (RI fun _ u' => Mo mB u u') := by
  have n30 := hM.n30
  refine sg_m_mends_0 ⟨fun a => ⟨fun b => ⟨fun _ => kI (e_shutMany n30) (fun g v h => ?_), fun _ => lfM hM Mq.rf⟩, fun _ => lfM hM Mq.rf⟩, fun _ => lfM hM Mq.rf⟩
  obtain ⟨rfl, hg⟩ := h
  refine ⟨fun c => ?_, fun _ => lfM hM Mq.rf⟩
  have c3 := hM.2.2.2.1
  have hne : ¬ cnt (mI u 76 19) (mI u 76 10).toNatClampNeg = 3 := fun z => c (Int32.toInt_inj.mp (by rw [hg, z]; decide))
  exact kVm (u := u) (L := mB) (e_setPlans hM b.2) Mq.rf (fun v hq => kIm (u := u) (L := mB) (e_othersBy (hq.inv hM) (by rw [hq.n]; exact ⟨a.1, by grind⟩) b.2 (by rw [hq.s, hq.n]; omega)) hq (fun _ v hq => lfM hM (hq.pF (by decide))))
theorem e_worst {x1 : Int32} (hM : InvM u) : Ws G m_worst 0 [(0, .ref 76), (1, .int x1)] [] u (RI fun _ u' => Mo mB u u') := by
  have n30 := hM.n30
  have key : x1 ≤ 60 → cnt (mI u 76 19) (mI u 76 10).toNatClampNeg < 3 → ∀ x v (p q : Int32), 0 ≤ x → Mq mB u v → Ws G m_worst 45 [(0, .ref 76), (1, .int x1), (2, .int p), (3, .int q), (4, .int x)] [] v (RI fun _ u' => Mo mB u u') := by
    intro h1 hc
    refine upI (mI u 76 10) _ (fun x ih v p q h0 hq => ?_)
    refine sg_m_worst_45 ⟨fun _ => lfM hM (hq.pF (by decide)), fun c => ?_⟩
    rw [hq.n] at c
    have hI : ∀ v, Mq mB u v → ∀ p q : Int32, Ws G m_worst 45 [(0, .ref 76), (1, .int x1), (2, .int p), (3, .int q), (4, .int (x + 1))] [] v (RI fun _ u' => Mo mB u u') := fun v hq p q => ih c v p q (by grind) hq
    refine ⟨fun _ => kIm (u := u) (L := mB) (e_othersBy (hq.inv hM) (by rw [hq.n]; exact ⟨h0, Int32.not_le.mp c⟩) h1 (by rw [hq.s, hq.n]; exact hc)) hq (fun _ v hq => ⟨fun _ => ⟨fun _ => hI v hq _ _, fun _ => hI v hq _ _⟩, fun _ => ⟨fun _ => hI v hq _ _, fun _ => hI v hq _ _⟩⟩), fun _ => ⟨fun _ => ⟨fun _ => hI v hq _ _, fun _ => hI v hq _ _⟩, fun _ => ⟨fun _ => hI v hq _ _, fun _ => hI v hq _ _⟩⟩⟩
  refine sg_m_worst_0 ⟨fun b => ⟨fun _ => kI (e_shutMany n30) (fun g v h => ?_), fun _ => lfM hM Mq.rf⟩, fun _ => lfM hM Mq.rf⟩
  obtain ⟨rfl, hg⟩ := h
  refine ⟨fun c => ?_, fun _ => lfM hM Mq.rf⟩
  have c3 := hM.2.2.2.1
  have hne : ¬ cnt (mI u 76 19) (mI u 76 10).toNatClampNeg = 3 := fun z => c (Int32.toInt_inj.mp (by rw [hg, z]; decide))
  exact kVm (u := u) (L := mB) (e_setPlans hM b.2) Mq.rf (fun v hq => key b.2 (by omega) 0 v _ _ (by decide) hq)
theorem e_asked  (hM : InvM u) : Ws G m_asked 0 [(0, .ref 76)] [] u (RI fun _ u' => Mo mB u u') := by
  exact sg_m_asked_0 (lfM hM Mq.rf)
theorem e_finding  (hM : InvM u) : Ws G m_finding 0 [(0, .ref 76)] [] u (RI fun _ u' => Mo mB u u') := by
  exact sg_m_finding_0 (lfM hM Mq.rf)
theorem e_findings {x1 : Int32} (hM : InvM u) : Ws G m_findings 0 [(0, .ref 76), (1, .int x1)] [] u (RI fun _ u' => Mo mB u u') := by
  exact sg_m_findings_0 ⟨fun a => ⟨(vin (by grind) (show (_ : Int32) < 6 by grind) (by decide)), lfM hM Mq.rf⟩, fun _ => lfM hM Mq.rf⟩
theorem e_isSlp {x1 : Int32} (hM : InvM u) (h1 : 0 ≤ x1 ∧ x1 < mI u 76 11) : Ws G m_isSleeper 0 [(0, .ref 76), (1, .int x1)] [] u (RI fun _ u' => u = u') := kI (e_isSleeper hM h1) (fun _ _ h => h.1)
theorem e_counts {x1 : Int32} (hM : InvM u) : Ws G m_counts 0 [(0, .ref 76), (1, .int x1)] [] u (RI fun _ u' => u = u') := by
  have n30 := hM.n30
  have key : ∀ x (y : Int32), 0 ≤ x → Ws G m_counts 4 [(0, .ref 76), (1, .int x1), (2, .int y), (3, .int x)] [] u (RI fun _ u' => u = u') := by
    refine upI 7 _ (fun x ih y h0 => ?_)
    refine sg_m_counts_4 ⟨fun _ => ⟨fun _ => ⟨_, rfl, rfl⟩, fun _ => ⟨_, rfl, rfl⟩, fun _ => ⟨_, rfl, rfl⟩, fun _ => ⟨_, rfl, rfl⟩, fun _ => kI (e_shutMany n30) (fun _ _ h => ⟨_, rfl, h.1⟩), fun _ => ⟨_, rfl, rfl⟩, fun _ => ⟨_, rfl, rfl⟩⟩, fun c => ?_⟩
    have hI : ∀ y : Int32, Ws G m_counts 4 [(0, .ref 76), (1, .int x1), (2, .int y), (3, .int (x + 1))] [] u (RI fun _ u' => u = u') := fun y => ih c y (by grind)
    have v4 : ¬ 4 ≤ x → vp_in x 4 := fun q => (vin (by grind) (show (_ : Int32) < 4 by grind) (by decide))
    have v6 : ¬ 6 ≤ x → vp_in x 6 := fun q => (vin (by grind) (show (_ : Int32) < 6 by grind) (by decide))
    repeat' first
      | (exact hI _)
      | (exact v4 (by assumption))
      | (exact v6 (by assumption))
      | (refine kIe (e_isSlp hM ⟨h0, Int32.not_le.mp (by assumption)⟩) ?_)
      | ((fail_if_success (refine Ws.str ?_)); intro _)
      | (refine And.intro ?_ ?_)
  exact sg_m_counts_0 (key 0 0 (by decide))
theorem e_count {x1 : Int32} (hM : InvM u) : Ws G m_count 0 [(0, .ref 76), (1, .int x1)] [] u (RI fun _ u' => Mo mB u u') := by
  exact sg_m_count_0 ⟨fun _ => kIe (e_counts hM) (fun _ => lfM hM Mq.rf), fun _ => lfM hM Mq.rf⟩
end MOD
