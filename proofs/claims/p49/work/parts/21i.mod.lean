section MOD
variable {G : pG} {u w : pM} {L : List Nat}
theorem ix_ne {a b : Int32} (ha : 0 ≤ a) (hb : 0 ≤ b) (h : ¬ a = b) : a.toNatClampNeg ≠ b.toNatClampNeg := fun e => h (by rw [← i32_nat ha, ← i32_nat hb, e])
theorem InvM.kp1 {x1 a b : Int32} (h : InvM u) (h1 : 0 ≤ x1 ∧ x1 ≤ 2) (hc : cnt b (mI u 76 10).toNatClampNeg ≤ 3) : Mo (mB ++ mKp) u (pI (pI u 87 (10 * x1 : Int32).toNatClampNeg a) 87 ((10 * x1) + 1 : Int32).toNatClampNeg b) := by
  obtain ⟨a0, b0, c0, d0, e0, f0⟩ := h
  have q : ∀ n k, n ≠ 87 → mI (pI (pI u 87 (10 * x1 : Int32).toNatClampNeg a) 87 ((10 * x1) + 1 : Int32).toNatClampNeg b) n k = mI u n k := fun n k hn => by rw [mI_ne hn, mI_ne hn]
  refine ⟨⟨(a0.wI ⟨fun z => by omega, fun z => by omega, fun z => by omega, fun z => by omega⟩).wI ⟨fun z => by omega, fun z => by omega, fun z => by omega, fun z => by omega⟩, ?_, ?_, ?_, ?_, ?_⟩, fun n k hn => q n k (by omega), (Fp.rf.pI (cm_n (by decide))).pI (cm_n (by decide)), rfl⟩
  · unfold szK at *; rw [q _ _ (by decide), q _ _ (by decide)]; exact b0
  · unfold shK at *; rw [q _ _ (by decide)]; intro s; rw [q _ _ (by decide), q _ _ (by decide)]; exact c0 s
  · rw [q _ _ (by decide), q _ _ (by decide)]; exact d0
  · unfold kpK at *
    rw [q _ _ (by decide)]
    intro k k0 k2
    have o := e0 k k0 k2
    refine ⟨fun hk => ?_, fun s s0 s7 => ?_⟩
    · by_cases e : k = x1
      · rw [e, mI_eq]; exact hc
      · rw [mI_nk (ix_ne (by grind) (by grind) (by grind)), mI_nk (ix_ne (by grind) (by grind) (by grind))] at hk
        rw [mI_nk (ix_ne (by grind) (by grind) (by grind)), mI_nk (ix_ne (by grind) (by grind) (by grind))]
        exact o.1 hk
    · rw [mI_nk (ix_ne (by grind) (by grind) (by grind)), mI_nk (ix_ne (by grind) (by grind) (by grind))]
      exact o.2 s s0 s7
  · rw [q _ _ (by decide)]; exact f0
theorem InvM.kp2 {x1 x2 v : Int32} (h : InvM u) (h1 : 0 ≤ x1 ∧ x1 ≤ 2) (h2 : 0 ≤ x2 ∧ x2 < 7) (hv : 0 ≤ v ∧ v < 30) : Mo (mB ++ mKp) u (pI u 87 (((10 * x1) + 2) + x2 : Int32).toNatClampNeg v) := by
  obtain ⟨a0, b0, c0, d0, e0, f0⟩ := h
  have q : ∀ n k, n ≠ 87 → mI (pI u 87 (((10 * x1) + 2) + x2 : Int32).toNatClampNeg v) n k = mI u n k := fun n k hn => mI_ne hn
  refine ⟨⟨a0.wI ⟨fun z => by omega, fun z => by omega, fun z => by omega, fun z => by omega⟩, ?_, ?_, ?_, ?_, ?_⟩, fun n k hn => q n k (by omega), Fp.rf.pI (cm_n (by decide)), rfl⟩
  · unfold szK at *; rw [q _ _ (by decide), q _ _ (by decide)]; exact b0
  · unfold shK at *; rw [q _ _ (by decide)]; intro s; rw [q _ _ (by decide), q _ _ (by decide)]; exact c0 s
  · rw [q _ _ (by decide), q _ _ (by decide)]; exact d0
  · unfold kpK at *
    rw [q _ _ (by decide)]
    intro k k0 k2
    have o := e0 k k0 k2
    refine ⟨fun hk => ?_, fun s s0 s7 => ?_⟩
    · rw [mI_nk (ix_ne (by grind) (by grind) (by grind))] at hk
      rw [mI_nk (ix_ne (by grind) (by grind) (by grind))]
      exact o.1 hk
    · by_cases e : 10 * k + 2 + s = ((10 * x1) + 2) + x2
      · rw [e, mI_eq]; exact hv
      · rw [mI_nk (ix_ne (by grind) (by grind) e)]
        exact o.2 s s0 s7
  · rw [q _ _ (by decide)]; exact f0
theorem lg_le {a b : Int64} (h : lg_cmp a b ≤ 0) : a.toInt ≤ b.toInt := by
  unfold lg_cmp at h
  split at h
  · exact absurd h (by decide)
  · rename_i g
    have : ¬ b.toInt < a.toInt := fun z => g (Int64.lt_iff_toInt_lt.mpr z)
    omega
theorem cp2 {a b m : Int32} (ha : 0 ≤ a) (hb : 0 ≤ b) (hm : m ≤ 40) (h : lg_cmp (a.toInt64 + b.toInt64) m.toInt64 ≤ 0) : a ≤ 40 ∧ b ≤ 40 ∧ a + b ≤ 40 := by
  have h1 := lg_le h
  have c1 := Int32.toInt_lt a
  have c2 := Int32.toInt_lt b
  have d0 : (0 : Int32).toInt = 0 := by decide
  have d40 : (40 : Int32).toInt = 40 := by decide
  have a0 := Int32.le_iff_toInt_le.mp ha
  have b0 := Int32.le_iff_toInt_le.mp hb
  have m0 := Int32.le_iff_toInt_le.mp hm
  rw [Int64.toInt_add, Int32.toInt_toInt64, Int32.toInt_toInt64, Int32.toInt_toInt64, Int.bmod_eq_of_le (by omega) (by omega)] at h1
  refine ⟨Int32.le_iff_toInt_le.mpr (by omega), Int32.le_iff_toInt_le.mpr (by omega), Int32.le_iff_toInt_le.mpr ?_⟩
  rw [Int32.toInt_add, Int.bmod_eq_of_le (by omega) (by omega)]
  omega
def Me (u w : pM) : Prop := mI w = mI u ∧ mR w = mR u ∧ LgQ u w
theorem LgQ.tr {v : pM} (h : LgQ v w) (h2 : LgQ u v) : LgQ u w := ⟨h.1.trans h2.1, h.2.1.trans h2.2.1, h.2.2.1.trans h2.2.2.1, h.2.2.2.trans h2.2.2.2⟩
theorem InvM.le (hM : InvM u) (h : Me u w) : InvM w := Mq.inv (L := mB) ⟨fun n k _ => by rw [h.1], fun q n k => by rw [h.1]; exact q n k, ⟨fun n k _ => by rw [h.1], h.2.2.lk⟩, h.2.1⟩ hM
theorem Mo.le (hM : InvM u) (h : Me u w) : Mo L u w := ⟨hM.le h, fun n k _ => by rw [h.1], ⟨fun n k _ => by rw [h.1], h.2.2.lk⟩, h.2.1⟩
theorem e_mixSquare (hM : InvM u) : Ws G m_mixSquare 0 [(0, .ref 76)] [] u (RV fun u' => Me u u') := by
  have m7 := hM.m7
  have o := hM.2.2.2.2.2
  have k77 : ∀ x v, 0 ≤ x → Me u v → Ws G m_mixSquare 77 [(0, .ref 76), (1, .int x)] [] v (RV fun u' => Me u u') := by
    refine upI 3 _ (fun x ih v h0 hq => ?_)
    exact sg_m_mixSquare_77 ⟨fun _ => ⟨rfl, hq⟩, fun c => ⟨(vin (by grind) (show (_ : Int32) < 30 by grind) (by decide)), fun _ => ⟨(vin (by grind) (show (_ : Int32) < 30 by grind) (by decide)), ih c _ (by grind) hq⟩, fun _ => ih c _ (by grind) hq⟩⟩
  have k49 : ∀ x v, 0 ≤ x → Me u v → Ws G m_mixSquare 49 [(0, .ref 76), (1, .int x)] [] v (RV fun u' => Me u u') := by
    refine upI (3 * mI u 76 28) _ (fun x ih v h0 hq => ?_)
    refine sg_m_mixSquare_49 ⟨fun _ => k77 0 v (by decide) hq, fun c => ?_⟩
    rw [hq.1] at c
    exact ⟨(vin (by grind) (show (_ : Int32) < 36 by grind) (by decide)), ih c _ (by grind) hq⟩
  have k2 : ∀ x v, 0 ≤ x → Me u v → Ws G m_mixSquare 2 [(0, .ref 76), (1, .int x)] [] v (RV fun u' => Me u u') := by
    refine upI (mI u 76 11) _ (fun x ih v h0 hq => ?_)
    refine sg_m_mixSquare_2 ⟨fun _ => k49 0 _ (by decide) hq, fun c => ?_⟩
    rw [hq.1] at c
    have inn : ∀ y v, 0 ≤ y → Me u v → Ws G m_mixSquare 12 [(0, .ref 76), (1, .int x), (2, .int y)] [] v (RV fun u' => Me u u') := by
      refine upI 6 _ (fun y ihy v y0 hq => ?_)
      exact sg_m_mixSquare_12 ⟨fun _ => ih c _ (by grind) hq, fun cy => kIe (e_aboutOf (hM.le hq) (by rw [hq.1]; exact ⟨h0, Int32.not_le.mp c⟩) ⟨y0, by grind⟩) (fun _ => ihy (by grind) _ (by grind) hq)⟩
    exact inn 0 v (by decide) hq
  exact sg_m_mixSquare_0 (k2 0 u (by decide) ⟨rfl, rfl, rfl, rfl, rfl, rfl⟩)
theorem e_digest (hM : InvM u) : Ws G m_digest 0 [(0, .ref 76)] [] u (RJ fun _ u' => Mo mB u u') := by
  have k101 : ∀ x v, 0 ≤ x → Me u v → Ws G m_digest 101 [(0, .ref 76), (1, .int x)] [] v (RJ fun _ u' => Mo mB u u') := by
    refine upI 4 _ (fun x ih v h0 hq => ?_)
    refine sg_m_digest_101 ⟨fun _ => ⟨_, rfl, Mo.le hM hq⟩, fun c => ?_⟩
    have v4 : vp_in x 4 := (vin (by grind) (show (_ : Int32) < 4 by grind) (by decide))
    have b := hM.b81 (x : Int32).toNatClampNeg
    have inn : ∀ y v, 0 ≤ y → Me u v → Ws G m_digest 131 [(0, .ref 76), (1, .int x), (2, .int y)] [] v (RJ fun _ u' => Mo mB u u') := by
      refine upI (mI u 81 (x : Int32).toNatClampNeg) _ (fun y ihy v y0 hq => ?_)
      refine sg_m_digest_131 ⟨v4, fun _ => ih c _ (by grind) hq, fun cy => ?_⟩
      rw [hq.1] at cy
      exact ⟨(vin (by grind) (show (_ : Int32) < 400 by grind) (by decide)), ihy cy _ (by grind) hq⟩
    exact ⟨v4, fun _ => ⟨v4, inn 0 _ (by decide) hq⟩, fun _ => inn 0 _ (by decide) hq⟩
  have k36 : ∀ x v, 0 ≤ x → Me u v → Ws G m_digest 36 [(0, .ref 76), (1, .int x)] [] v (RJ fun _ u' => Mo mB u u') := by
    refine upI 6 _ (fun x ih v h0 hq => ?_)
    refine sg_m_digest_36 ⟨fun _ => k101 0 v (by decide) hq, fun c => ?_⟩
    have v6 : vp_in x 6 := (vin (by grind) (show (_ : Int32) < 6 by grind) (by decide))
    have b := hM.b78 (x : Int32).toNatClampNeg
    have inn : ∀ y v, 0 ≤ y → Me u v → Ws G m_digest 67 [(0, .ref 76), (1, .int x), (2, .int y)] [] v (RJ fun _ u' => Mo mB u u') := by
      refine upI (mI u 78 (x : Int32).toNatClampNeg) _ (fun y ihy v y0 hq => ?_)
      refine sg_m_digest_67 ⟨v6, fun _ => ih c _ (by grind) hq, fun cy => ?_⟩
      rw [hq.1] at cy
      exact ⟨(vin (by grind) (show (_ : Int32) < 240 by grind) (by decide)), ihy cy _ (by grind) hq⟩
    exact ⟨v6, fun _ => ⟨v6, inn 0 _ (by decide) hq⟩, fun _ => inn 0 _ (by decide) hq⟩
  have k9 : ∀ x v, Me u v → Ws G m_digest 9 [(0, .ref 76), (1, .int x)] [] v (RJ fun _ u' => Mo mB u u') := by
    refine upI 8 _ (fun x ih v hq => ?_)
    exact sg_m_digest_9 ⟨fun _ => kV (e_mixSquare (hM.le hq)) (fun v h => k36 0 v (by decide) ⟨h.1.trans hq.1, h.2.1.trans hq.2.1, h.2.2.tr hq.2.2⟩), fun c => kIe (e_counts (hM.le hq)) (fun _ => ih (by grind) _ hq)⟩
  exact sg_m_digest_0 (k9 0 _ ⟨rfl, rfl, rfl, rfl, rfl, rfl⟩)
end MOD
