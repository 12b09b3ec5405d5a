section MOD
variable {G : pG} {u w : pM} {L : List Nat}
theorem ix_ne {a b : Int32} (ha : 0 ≤ a) (hb : 0 ≤ b) (h : ¬ a = b) : a.toNatClampNeg ≠ b.toNatClampNeg := fun e => h (by rw [← i32_nat ha, ← i32_nat hb, e])
theorem InvM.kp1 {x1 a b : Int32} (h : InvM u) (h1 : 0 ≤ x1 ∧ x1 ≤ 2) (hc : cnt b (mI u 76 10).toNatClampNeg ≤ 3) : Mo (mB ++ mKp) u (pI (pI u 87 (10 * x1 : Int32).toNatClampNeg a) 87 ((10 * x1) + 1 : Int32).toNatClampNeg b) := by
  obtain ⟨a0, b0, c0, d0, e0, f0⟩ := h
  have q : ∀ n k, n ≠ 87 → mI (pI (pI u 87 (10 * x1 : Int32).toNatClampNeg a) 87 ((10 * x1) + 1 : Int32).toNatClampNeg b) n k = mI u n k := fun n k hn => by rw [mI_ne hn, mI_ne hn]
  refine ⟨⟨(a0.wI ⟨fun z => by omega, fun z => by omega, fun z => by omega, fun z => by omega⟩).wI ⟨fun z => by omega, fun z => by omega, fun z => by omega, fun z => by omega⟩, ?_, ?_, ?_, ?_, ?_⟩, fun n k hn => q n k (by omega), (Fp.rf.pI (cm_n (by decide))).pI (cm_n (by decide)), rfl⟩
  · unfold szK at *; rw [q _ _ (by decide), q _ _ (by decide)]; exact b0
  · unfold shK at *; rw [q _ _ (by decide)]; intro s; rw [q _ _ (by decide), q _ _ (by decide)]; exact c0 s
  · rw [q _ _ (by decide), q _ _ (by decide)]; exact d0
  · unfold kpK at *
    rw [q _ _ (by decide)]
    intro k k0 k2
    have o := e0 k k0 k2
    refine ⟨fun hk => ?_, fun s s0 s7 => ?_⟩
    · by_cases e : k = x1
      · rw [e, mI_eq]; exact hc
      · rw [mI_nk (ix_ne (by grind) (by grind) (by grind)), mI_nk (ix_ne (by grind) (by grind) (by grind))] at hk
        rw [mI_nk (ix_ne (by grind) (by grind) (by grind)), mI_nk (ix_ne (by grind) (by grind) (by grind))]
        exact o.1 hk
    · rw [mI_nk (ix_ne (by grind) (by grind) (by grind)), mI_nk (ix_ne (by grind) (by grind) (by grind))]
      exact o.2 s s0 s7
  · rw [q _ _ (by decide)]; exact f0
theorem InvM.kp2 {x1 x2 v : Int32} (h : InvM u) (h1 : 0 ≤ x1 ∧ x1 ≤ 2) (h2 : 0 ≤ x2 ∧ x2 < 7) (hv : 0 ≤ v ∧ v < 30) : Mo (mB ++ mKp) u (pI u 87 (((10 * x1) + 2) + x2 : Int32).toNatClampNeg v) := by
  obtain ⟨a0, b0, c0, d0, e0, f0⟩ := h
  have q : ∀ n k, n ≠ 87 → mI (pI u 87 (((10 * x1) + 2) + x2 : Int32).toNatClampNeg v) n k = mI u n k := fun n k hn => mI_ne hn
  refine ⟨⟨a0.wI ⟨fun z => by omega, fun z => by omega, fun z => by omega, fun z => by omega⟩, ?_, ?_, ?_, ?_, ?_⟩, fun n k hn => q n k (by omega), Fp.rf.pI (cm_n (by decide)), rfl⟩
  · unfold szK at *; rw [q _ _ (by decide), q _ _ (by decide)]; exact b0
  · unfold shK at *; rw [q _ _ (by decide)]; intro s; rw [q _ _ (by decide), q _ _ (by decide)]; exact c0 s
  · rw [q _ _ (by decide), q _ _ (by decide)]; exact d0
  · unfold kpK at *
    rw [q _ _ (by decide)]
    intro k k0 k2
    have o := e0 k k0 k2
    refine ⟨fun hk => ?_, fun s s0 s7 => ?_⟩
    · rw [mI_nk (ix_ne (by grind) (by grind) (by grind))] at hk
      rw [mI_nk (ix_ne (by grind) (by grind) (by grind))]
      exact o.1 hk
    · by_cases e : 10 * k + 2 + s = ((10 * x1) + 2) + x2
      · rw [e, mI_eq]; exact hv
      · rw [mI_nk (ix_ne (by grind) (by grind) e)]
        exact o.2 s s0 s7
  · rw [q _ _ (by decide)]; exact f0
theorem lg_le {a b : Int64} (h : lg_cmp a b ≤ 0) : a.toInt ≤ b.toInt := by
  unfold lg_cmp at h
  split at h
  · exact absurd h (by decide)
  · rename_i g
    have : ¬ b.toInt < a.toInt := fun z => g (Int64.lt_iff_toInt_lt.mpr z)
    omega
theorem cp2 {a b m : Int32} (ha : 0 ≤ a) (hb : 0 ≤ b) (hm : m ≤ 40) (h : lg_cmp (a.toInt64 + b.toInt64) m.toInt64 ≤ 0) : a ≤ 40 ∧ b ≤ 40 ∧ a + b ≤ 40 := by
  have h1 := lg_le h
  have c1 := Int32.toInt_lt a
  have c2 := Int32.toInt_lt b
  have d0 : (0 : Int32).toInt = 0 := by decide
  have d40 : (40 : Int32).toInt = 40 := by decide
  have a0 := Int32.le_iff_toInt_le.mp ha
  have b0 := Int32.le_iff_toInt_le.mp hb
  have m0 := Int32.le_iff_toInt_le.mp hm
  rw [Int64.toInt_add, Int32.toInt_toInt64, Int32.toInt_toInt64, Int32.toInt_toInt64, Int.bmod_eq_of_le (by omega) (by omega)] at h1
  refine ⟨Int32.le_iff_toInt_le.mpr (by omega), Int32.le_iff_toInt_le.mpr (by omega), Int32.le_iff_toInt_le.mpr ?_⟩
  rw [Int32.toInt_add, Int.bmod_eq_of_le (by omega) (by omega)]
  omega
def Me (u w : pM) : Prop := mI w = mI u ∧ mR w = mR u
theorem InvM.le (hM : InvM u) (h : Me u w) : InvM w := Mq.inv (L := mB) ⟨fun n k _ => by rw [h.1], fun q n k => by rw [h.1]; exact q n k, fun n k _ => by rw [h.1], h.2⟩ hM
theorem Mo.le (hM : InvM u) (h : Me u w) : Mo L u w := ⟨hM.le h, fun n k _ => by rw [h.1], fun n k _ => by rw [h.1], h.2⟩
end MOD
