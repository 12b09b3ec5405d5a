section MOD
variable {G : pG} {u w : pM} {L : List Nat}
theorem e_mends {x1 : Int32} {x2 : Int32} (hM : InvM u) : Ws G m_mends 0 [(0, .ref 76), (1, .int x1), (2, .int x2)] [] u (RI fun _ u' => Mo mB u u') := by
  have n30 := hM.n30
  refine sg_m_mends_0 ⟨fun a => ⟨fun b => ⟨fun _ => kI (e_shutMany n30) (fun g v h => ?_), fun _ => lfM hM Mq.rf⟩, fun _ => lfM hM Mq.rf⟩, fun _ => lfM hM Mq.rf⟩
  obtain ⟨rfl, hg⟩ := h
  refine ⟨fun c => ?_, fun _ => lfM hM Mq.rf⟩
  have c3 := hM.2.2.2.1
  have hne : ¬ cnt (mI u 76 19) (mI u 76 10).toNatClampNeg = 3 := fun z => c (Int32.toInt_inj.mp (by rw [hg, z]; decide))
  exact kVm (u := u) (L := mB) (e_setPlans hM b.2) Mq.rf (fun v hq => kIm (u := u) (L := mB) (e_othersBy (hq.inv hM) (by rw [hq.n]; exact ⟨a.1, by grind⟩) b.2 (by rw [hq.s, hq.n]; omega)) hq (fun _ v hq => lfM hM (hq.pF (by decide))))
end MOD
