section MOD
variable {G : pG} {u w : pM} {L : List Nat}
theorem vb01 {v : Int32} (h : v = 0 ∨ v = 1) : vb v := by rcases h with rfl | rfl <;> rfl
theorem e_joinsOf {x1 : Int32} {x2 : Int32} (hM : InvM u) : Ws G m_joinsOf 0 [(0, .ref 76), (1, .int x1), (2, .int x2)] [] u (RI fun _ u' => u = u') := by
  have m7 := hM.m7
  have key : ∀ x (y : Int32), 0 ≤ x → Ws G m_joinsOf 5 [(0, .ref 76), (1, .int x1), (2, .int x2), (3, .int y), (4, .int x)] [] u (RI fun _ u' => u = u') := by
    refine upI (mI u 76 11) _ (fun x ih y h0 => ?_)
    refine sg_m_joinsOf_5 ⟨fun _ => ⟨_, rfl, rfl⟩, fun c => ?_⟩
    have n1 := hM.n10 h0 (Int32.not_le.mp c)
    refine ⟨(vin (by grind) (show (_ : Int32) < 70 by grind) (by decide)), kI (e_divisor n1.1) (fun a v h => ?_)⟩
    obtain ⟨rfl, h⟩ := h
    exact ⟨(vin (by grind) (show (_ : Int32) < 7 by grind) (by decide)), i64_ne (by grind), h, fun _ => ih c _ (by grind), fun _ => ih c _ (by grind)⟩
  exact sg_m_joinsOf_0 (key 0 0 (by decide))
theorem e_joins {x1 : Int32} {x2 : Int32} (hM : InvM u) : Ws G m_joins 0 [(0, .ref 76), (1, .int x1), (2, .int x2)] [] u (RI fun _ u' => Mo mB u u') := by
  exact sg_m_joins_0 ⟨fun _ => ⟨fun _ => kIe (e_joinsOf hM) (fun _ => lfM hM Mq.rf), fun _ => lfM hM Mq.rf⟩, fun _ => lfM hM Mq.rf⟩
theorem e_sizeOf {x0 : Int32} : Ws G m_sizeOf 0 [(0, .int x0)] [] u (RI fun a u' => u = u' ∧ a.toInt = (cnt x0 31 : Int)) := by
  have key : ∀ x (y : Int32), 0 ≤ x → x ≤ 31 → y.toInt = (cnt x0 x.toNatClampNeg : Int) → Ws G m_sizeOf 4 [(0, .int x0), (1, .int y), (2, .int x)] [] u (RI fun a u' => u = u' ∧ a.toInt = (cnt x0 31 : Int)) := by
    refine upI 31 _ (fun x ih y h0 h1 hy => ?_)
    refine sg_m_sizeOf_4 ⟨fun c => ?_, fun c => ih c _ (by grind) (by grind) ?_⟩
    · have e : x = 31 := by grind
      have e2 : (31 : Int32).toNatClampNeg = 31 := by decide
      exact ⟨_, rfl, rfl, by rw [hy, e, e2]⟩
    · rw [tn_succ h0 c, cnt]
      have l := cnt_le x0 x.toNatClampNeg
      have x30 : x.toNatClampNeg ≤ 31 := by
        have := tn_le h1
        have e : (31 : Int32).toNatClampNeg = 31 := by decide
        omega
      rcases tb_01 (x0 >>> (x &&& 31)) with b | b
      · have t := tb_f h0 (by grind) b
        rw [b, t]
        have z : y + 0 = y := by grind
        rw [z, hy]; simp
      · have t := (tbx h0 (by grind)).mp b
        rw [b, t, Int32.toInt_add, hy]
        have d1 : (1 : Int32).toInt = 1 := by decide
        rw [d1, Int.bmod_eq_of_le (by omega) (by omega)]
        simp
  exact sg_m_sizeOf_0 (key 0 0 (by decide) (by decide) rfl)
theorem e_quiet  (hM : InvM u) : Ws G m_quiet 0 [(0, .ref 76)] [] u (RI fun _ u' => Mo mB u u') := by
  have key : ∀ x (x1 x2 : Int32), Ws G m_quiet 17 [(0, .ref 76), (1, .int x1), (2, .int x2), (3, .int x)] [] u (RI fun _ u' => Mo mB u u') := by
    refine upI (mI u 76 10) _ (fun x ih x1 x2 => ?_)
    refine sg_m_quiet_17 ⟨fun _ => ⟨fun _ => lfM hM (Mq.rf.pF (by decide)), fun _ => lfM hM Mq.rf⟩, fun c => ?_⟩
    have inn : ∀ y (x1 x2 : Int32), Ws G m_quiet 29 [(0, .ref 76), (1, .int x1), (2, .int x2), (3, .int x), (4, .int y)] [] u (RI fun _ u' => Mo mB u u') := by
      refine upI 10 _ (fun y ihy x1 x2 => ?_)
      exact sg_m_quiet_29 ⟨fun _ => ih c _ _, fun cy => kIe (e_joinsOf hM) (fun _ => ⟨fun _ => ihy (by grind) _ _, fun _ => ⟨fun _ => ihy (by grind) _ _, fun _ => ihy (by grind) _ _⟩⟩)⟩
    exact inn _ _ _
  exact sg_m_quiet_0 ⟨fun _ => key _ _ _, fun _ => lfM hM Mq.rf⟩
theorem e_busy  (hM : InvM u) : Ws G m_busy 0 [(0, .ref 76)] [] u (RI fun _ u' => Mo mB u u') := by
  have key : ∀ x (x1 x2 : Int32), Ws G m_busy 16 [(0, .ref 76), (1, .int x1), (2, .int x2), (3, .int x)] [] u (RI fun _ u' => Mo mB u u') := by
    refine upI (mI u 76 10) _ (fun x ih x1 x2 => ?_)
    refine sg_m_busy_16 ⟨fun _ => lfM hM (Mq.rf.pF (by decide)), fun c => ?_⟩
    have inn : ∀ y (x1 x2 : Int32), Ws G m_busy 28 [(0, .ref 76), (1, .int x1), (2, .int x2), (3, .int x), (4, .int y)] [] u (RI fun _ u' => Mo mB u u') := by
      refine upI 10 _ (fun y ihy x1 x2 => ?_)
      refine sg_m_busy_28 ⟨fun _ => ih c _ _, fun cy => kIe (e_joinsOf hM) (fun _ => kI e_sizeOf (fun a v h => ?_))⟩
      obtain ⟨rfl, _⟩ := h
      exact ⟨fun _ => ⟨fun _ => ihy (by grind) _ _, fun _ => ihy (by grind) _ _⟩, fun _ => ⟨fun _ => ihy (by grind) _ _, fun _ => ihy (by grind) _ _⟩⟩
    exact inn _ _ _
  exact sg_m_busy_0 ⟨fun _ => key _ _ _, fun _ => lfM hM Mq.rf⟩
theorem InvM.pO {x : Int32} (h : InvM u) (h0 : 0 ≤ x) (h1 : x ≤ 12) : Mo (mB ++ mJn) u (pI u 76 28 x) := by
  obtain ⟨a, b, c, d, e, f⟩ := h
  have q : ∀ n k, (n ≠ 76 ∨ k ≠ 28) → mI (pI u 76 28 x) n k = mI u n k := fun n k hn => by
    show up2 (mI u) 76 28 x n k = _
    rw [up2, if_neg (by omega)]
  refine ⟨⟨a.wI ⟨fun z => by omega, fun z => by omega, fun z => by omega, fun z => by omega⟩, ?_, ?_, ?_, ?_, ?_⟩, fun n k hn => q n k (by omega), Fp.rf.pI (by decide), rfl⟩
  · unfold szK at *; rw [q _ _ (by decide), q _ _ (by decide)]; exact b
  · unfold shK at *; rw [q _ _ (by decide)]; intro s; rw [q _ _ (by omega), q _ _ (by omega)]; exact c s
  · rw [q _ _ (by decide), q _ _ (by decide)]; exact d
  · unfold kpK at *; rw [q _ _ (by decide)]; intro k; rw [q _ _ (by omega), q _ _ (by omega)]; intro k0 k2; exact ⟨(e k k0 k2).1, fun s => by rw [q _ _ (by omega)]; exact (e k k0 k2).2 s⟩
  · rw [mI_eq]; exact ⟨h0, h1⟩
theorem e_fits {x1 : Int32} {x2 : Int32} {x3 : Int32} {x4 : Int32} (hM : InvM u) (h1 : 0 ≤ x1 ∧ x1 < mI u 76 11) (hk : 3 ≤ x2 → ¬ x4 = 0) : Ws G m_fits 0 [(0, .ref 76), (1, .int x1), (2, .int x2), (3, .int x3), (4, .int x4)] [] u (RI fun _ u' => u = u') := by
  have m7 := hM.m7
  have o := hM.2.2.2.2.2
  have n1 := hM.n10 h1.1 h1.2
  have key : ∀ x (x5 : Int32), 0 ≤ x → (x5 = 0 ∨ x5 = 1) → Ws G m_fits 6 [(0, .ref 76), (1, .int x1), (2, .int x2), (3, .int x3), (4, .int x4), (5, .int x5), (6, .int x)] [] u (RI fun _ u' => u = u') := by
    refine upI (mI u 76 28) _ (fun x ih x5 h0 h5 => ?_)
    exact sg_m_fits_6 ⟨fun _ => ⟨vb01 h5, _, rfl, rfl⟩, fun c => ⟨fun _ => ih c _ (by grind) (.inl rfl), fun _ => ⟨(vin (by grind) (show (_ : Int32) < 36 by grind) (by decide)), fun _ => ih c _ (by grind) (.inr rfl), fun _ => ⟨(vin (by grind) (show (_ : Int32) < 70 by grind) (by decide)), (vin (by grind) (show (_ : Int32) < 36 by grind) (by decide)), kIe (e_plainBy hk n1) (fun _ => ⟨(vin (by grind) (show (_ : Int32) < 36 by grind) (by decide)), fun _ => ih c _ (by grind) (.inl rfl), fun _ => ih c _ (by grind) (.inr rfl)⟩)⟩⟩⟩⟩
  exact sg_m_fits_0 (key 0 1 (by decide) (.inr rfl))
theorem e_steps {x1 : Int32} (hM : InvM u) : Ws G m_steps 0 [(0, .ref 76), (1, .int x1)] [] u (RI fun _ u' => Mo mB u u') := by
  have m7 := hM.m7
  have key : 0 ≤ x1 ∧ x1 < mI u 76 11 → ∀ x (y : Int32), Ws G m_steps 15 [(0, .ref 76), (1, .int x1), (2, .int y), (3, .int x)] [] u (RI fun _ u' => Mo mB u u') := by
    intro h1
    refine upI 10 _ (fun x ih y => ?_)
    exact sg_m_steps_15 ⟨fun _ => kI e_sizeOf (fun a v h => by rw [← h.1]; exact lfM hM (Mq.rf.pF (by decide))), fun c => ⟨(vin (by grind) (show (_ : Int32) < 70 by grind) (by decide)), (vin (by grind) (show (_ : Int32) < 70 by grind) (by decide)), kIe (e_fits hM h1 (hM.2.2.1 x1 h1.1 h1.2)) (fun _ => ⟨fun _ => ih (by grind) _, fun _ => ih (by grind) _⟩)⟩⟩
  exact sg_m_steps_0 ⟨fun a => key ⟨a.1, by grind⟩ _ _, fun _ => lfM hM Mq.rf⟩
theorem e_kinds {x1 : Int32} (hM : InvM u) : Ws G m_kinds 0 [(0, .ref 76), (1, .int x1)] [] u (RI fun _ u' => Mo mB u u') := by
  have m7 := hM.m7
  have inn : 0 ≤ x1 ∧ x1 < mI u 76 11 → ∀ x4 : Int32, (x4 = 0 ∨ 3 ≤ x4) → (∀ p q : Int32, Ws G m_kinds 18 [(0, .ref 76), (1, .int x1), (2, .int p), (3, .int q), (4, .int (if x4 = 0 then 3 else x4 + 1))] [] u (RI fun _ u' => Mo mB u u')) → ∀ x (p q : Int32), (¬ x4 = 0 → 2 ≤ x) → Ws G m_kinds 36 [(0, .ref 76), (1, .int x1), (2, .int p), (3, .int q), (4, .int x4), (5, .int x)] [] u (RI fun _ u' => Mo mB u u') := by
    intro h1 x4 h4 hn
    refine upI 10 _ (fun x ih p q hx => ?_)
    have hv : vp_in (5 * x1 + 2) 70 := (vin (by grind) (show (_ : Int32) < 70 by grind) (by decide))
    have hI : ∀ c : ¬ 10 ≤ x, ∀ p q : Int32, Ws G m_kinds 36 [(0, .ref 76), (1, .int x1), (2, .int p), (3, .int q), (4, .int x4), (5, .int (x + 1))] [] u (RI fun _ u' => Mo mB u u') := fun c p q => ih c p q (by grind)
    refine sg_m_kinds_36 ⟨fun z => ⟨fun _ => ⟨fun _ => by have := hn p q; rw [if_neg z] at this; exact this, fun y => absurd y z⟩, fun c => ?_⟩, fun z => ⟨fun _ => ⟨fun y => absurd z y, fun _ => by have := hn p q; rw [if_pos z] at this; exact this⟩, fun c => ?_⟩⟩
    · have c' : ¬ 10 ≤ x := by grind
      exact ⟨hv, kIe (e_fits hM h1 (fun _ => by grind)) (fun a => ⟨fun _ => ⟨fun _ => hI c' _ _, fun _ => hI c' _ _⟩, fun _ => ⟨fun _ => ⟨fun _ => hI c' _ _, fun _ => hI c' _ _⟩, fun _ => ⟨fun _ => hI c' _ _, fun _ => hI c' _ _⟩⟩⟩)⟩
    · have c' : ¬ 10 ≤ x := by grind
      exact ⟨hv, kIe (e_fits hM h1 (fun _ => by grind)) (fun a => ⟨fun _ => ⟨fun _ => hI c' _ _, fun _ => hI c' _ _⟩, fun _ => ⟨fun _ => ⟨fun _ => hI c' _ _, fun _ => hI c' _ _⟩, fun _ => ⟨fun _ => hI c' _ _, fun _ => hI c' _ _⟩⟩⟩)⟩
  have k3 : 0 ≤ x1 ∧ x1 < mI u 76 11 → ∀ x (p q : Int32), 3 ≤ x → Ws G m_kinds 18 [(0, .ref 76), (1, .int x1), (2, .int p), (3, .int q), (4, .int x)] [] u (RI fun _ u' => Mo mB u u') := by
    intro h1
    refine upI 6 _ (fun x ih p q h3 => ?_)
    have z : ¬ x = 0 := by grind
    exact sg_m_kinds_18 ⟨fun _ => ⟨fun _ => lfM hM (Mq.rf.pF (by decide)), fun _ => lfM hM Mq.rf⟩, fun c => ⟨fun _ => inn h1 x (.inr h3) (fun p q => by rw [if_neg z]; exact ih (by grind) p q (by grind)) 2 p q (fun _ => by decide), fun y => absurd y z⟩⟩
  exact sg_m_kinds_0 ⟨fun a => by
    have h1 : 0 ≤ x1 ∧ x1 < mI u 76 11 := ⟨a.1, by grind⟩
    exact sg_m_kinds_18 ⟨fun c => absurd c (by decide), fun c => ⟨fun y => absurd rfl y, fun _ => inn h1 0 (.inl rfl) (fun p q => k3 h1 3 p q (by decide)) 0 _ _ (fun y => absurd rfl y)⟩⟩, fun _ => lfM hM Mq.rf⟩
theorem e_askedRents {x1 : Int32} (hM : InvM u) (h1 : 0 ≤ x1 ∧ x1 ≤ 5) : Ws G m_askedRents 0 [(0, .ref 76), (1, .int x1)] [] u (RI fun _ u' => Mq mB u u') := by
  have n30 := hM.n30
  have key : ∀ x, 0 ≤ x → Ws G m_askedRents 36 [(0, .ref 76), (1, .int x1), (2, .int x)] [] u (RI fun _ u' => Mq mB u u') := by
    refine upI (mI u 76 10) _ (fun x ih h0 => ?_)
    exact sg_m_askedRents_36 ⟨fun _ => ⟨_, rfl, Mq.rf⟩, fun c => ⟨(vin (by grind) (show (_ : Int32) < 240 by grind) (by decide)), fun _ => ih c (by grind), fun _ => ⟨_, rfl, Mq.rf.tm⟩⟩⟩
  exact sg_m_askedRents_0 ⟨(vin (by grind) (show (_ : Int32) < 6 by grind) (by decide)), fun _ => ⟨(vin (by grind) (show (_ : Int32) < 6 by grind) (by decide)), fun _ => key 0 (by decide), fun _ => ⟨_, rfl, Mq.rf.tm⟩⟩, fun _ => ⟨_, rfl, Mq.rf.tm⟩⟩
theorem e_setRents {x1 : Int32} {x2 : Int32} (hM : InvM u) (h1 : 0 ≤ x1 ∧ x1 ≤ 5) : Ws G m_setRents 0 [(0, .ref 76), (1, .int x1), (2, .int x2)] [] u (RV fun u' => Mq mB u u') := by
  have m7 := hM.m7
  have k29 : ∀ x v, Mq mB u v → Ws G m_setRents 29 [(0, .ref 76), (1, .int x1), (2, .int x2), (3, .int x)] [] v (RV fun u' => Mq mB u u') := by
    refine upI x2 _ (fun x ih v hq => ?_)
    refine sg_m_setRents_29 ⟨fun _ => ⟨rfl, hq⟩, fun c => ?_⟩
    have inn : ∀ y v, 0 ≤ y → Mq mB u v → Ws G m_setRents 37 [(0, .ref 76), (1, .int x1), (2, .int x2), (3, .int x), (4, .int y)] [] v (RV fun u' => Mq mB u u') := by
      refine upI (mI u 76 11) _ (fun y ihy v h0 hq => ?_)
      have hV := hq.inv hM
      have b := hV.b85 (y : Int32).toNatClampNeg
      refine sg_m_setRents_37 ⟨fun _ => kVm (u := u) (L := mB) (e_pass hV) hq (fun v hq => ih c _ hq), fun cy => ?_⟩
      rw [hq.m] at cy
      have v7 : vp_in y 7 := (vin (by grind) (show (_ : Int32) < 7 by grind) (by decide))
      exact ⟨v7, v7, (vin (by grind) (show (_ : Int32) < 240 by grind) (by decide)), v7, ihy cy _ (by grind) (hq.pA (by decide))⟩
    exact inn 0 v (by decide) hq
  have k6 : ∀ x v, 0 ≤ x → Mq mB u v → Ws G m_setRents 6 [(0, .ref 76), (1, .int x1), (2, .int x2), (3, .int x)] [] v (RV fun u' => Mq mB u u') := by
    refine upI (mI u 76 11) _ (fun x ih v h0 hq => ?_)
    refine sg_m_setRents_6 ⟨fun _ => k29 0 v hq, fun c => ?_⟩
    rw [hq.m] at c
    exact ⟨(vin (by grind) (show (_ : Int32) < 7 by grind) (by decide)), ih c _ (by grind) (hq.pA (by decide))⟩
  exact sg_m_setRents_0 (kVm (u := u) (L := mB) (e_fromNow hM) Mq.rf (fun v hq => k6 0 v (by decide) hq))
theorem e_rent {x1 : Int32} {x2 : Int32} {x3 : Int32} (hM : InvM u) : Ws G m_rent 0 [(0, .ref 76), (1, .int x1), (2, .int x2), (3, .int x3)] [] u (RI fun _ u' => Mo mB u u') := by
  have m7 := hM.m7
  exact sg_m_rent_0 ⟨fun a => ⟨fun b => ⟨fun _ => kI (e_askedRents hM a) (fun _ v hq => ⟨fun _ => kVm (u := u) (L := mB) (e_setRents (hq.inv hM) a) hq (fun v hq => ⟨(vin (by grind) (show (_ : Int32) < 7 by grind) (by decide)), lfM hM hq⟩), fun _ => lfM hM hq⟩), fun _ => lfM hM Mq.rf⟩, fun _ => lfM hM Mq.rf⟩, fun _ => lfM hM Mq.rf⟩
end MOD
