section MOD
variable {G : pG} {u w : pM} {L : List Nat}
theorem e_worst {x1 : Int32} (hM : InvM u) : Ws G m_worst 0 [(0, .ref 76), (1, .int x1)] [] u (RI fun _ u' => Mo mB u u') := by
  have n30 := hM.n30
  have key : x1 ≤ 60 → cnt (mI u 76 19) (mI u 76 10).toNatClampNeg < 3 → ∀ x v (p q : Int32), 0 ≤ x → Mq mB u v → Ws G m_worst 45 [(0, .ref 76), (1, .int x1), (2, .int p), (3, .int q), (4, .int x)] [] v (RI fun _ u' => Mo mB u u') := by
    intro h1 hc
    refine upI (mI u 76 10) _ (fun x ih v p q h0 hq => ?_)
    refine sg_m_worst_45 ⟨fun _ => lfM hM (hq.pF (by decide)), fun c => ?_⟩
    rw [hq.n] at c
    have hI : ∀ v, Mq mB u v → ∀ p q : Int32, Ws G m_worst 45 [(0, .ref 76), (1, .int x1), (2, .int p), (3, .int q), (4, .int (x + 1))] [] v (RI fun _ u' => Mo mB u u') := fun v hq p q => ih c v p q (by grind) hq
    refine ⟨fun _ => kIm (u := u) (L := mB) (e_othersBy (hq.inv hM) (by rw [hq.n]; exact ⟨h0, Int32.not_le.mp c⟩) h1 (by rw [hq.s, hq.n]; exact hc)) hq (fun _ v hq => ⟨fun _ => ⟨fun _ => hI v hq _ _, fun _ => hI v hq _ _⟩, fun _ => ⟨fun _ => hI v hq _ _, fun _ => hI v hq _ _⟩⟩), fun _ => ⟨fun _ => ⟨fun _ => hI v hq _ _, fun _ => hI v hq _ _⟩, fun _ => ⟨fun _ => hI v hq _ _, fun _ => hI v hq _ _⟩⟩⟩
  refine sg_m_worst_0 ⟨fun b => ⟨fun _ => kI (e_shutMany n30) (fun g v h => ?_), fun _ => lfM hM Mq.rf⟩, fun _ => lfM hM Mq.rf⟩
  obtain ⟨rfl, hg⟩ := h
  refine ⟨fun c => ?_, fun _ => lfM hM Mq.rf⟩
  have c3 := hM.2.2.2.1
  have hne : ¬ cnt (mI u 76 19) (mI u 76 10).toNatClampNeg = 3 := fun z => c (Int32.toInt_inj.mp (by rw [hg, z]; decide))
  exact kVm (u := u) (L := mB) (e_setPlans hM b.2) Mq.rf (fun v hq => key b.2 (by omega) 0 v _ _ (by decide) hq)
end MOD
