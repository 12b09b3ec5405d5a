/-! ===== a text is read ===== -/
def Rd0 (u w : pM) : Prop := ∀ n k, ¬ (n = 76 ∧ (k = 13 ∨ k = 14 ∨ k = 15 ∨ k = 16)) → ¬ (n = 83 ∧ 35 ≤ k) → mI w n k = mI u n k
def shG (w : pM) : Prop := ∀ s : Int32, 0 ≤ s → s < mI w 76 16 → (3 ≤ mI w 83 (35 + 5 * s : Int32).toNatClampNeg → ¬ mI w 83 (35 + 5 * s + 4 : Int32).toNatClampNeg = 0) ∧ 0 ≤ mI w 83 (35 + 5 * s + 1 : Int32).toNatClampNeg ∧ mI w 83 (35 + 5 * s + 1 : Int32).toNatClampNeg < 30
theorem ix_j {m : Int32} (h0 : 0 ≤ m) (h1 : m ≤ 6) : (35 + 5 * m + 1 : Int32).toNatClampNeg = (35 + 5 * m : Int32).toNatClampNeg + 1 ∧ (35 + 5 * m + 4 : Int32).toNatClampNeg = (35 + 5 * m : Int32).toNatClampNeg + 4 ∧ (35 + 5 * m : Int32).toNatClampNeg = 35 + 5 * m.toNatClampNeg := by
  have key : ∀ i, i < 7 → (35 + 5 * Int32.ofNat i + 1 : Int32).toNatClampNeg = (35 + 5 * Int32.ofNat i : Int32).toNatClampNeg + 1 ∧ (35 + 5 * Int32.ofNat i + 4 : Int32).toNatClampNeg = (35 + 5 * Int32.ofNat i : Int32).toNatClampNeg + 4 ∧ (35 + 5 * Int32.ofNat i : Int32).toNatClampNeg = 35 + 5 * i := by decide
  have l := tn_le h1
  have e : (6 : Int32).toNatClampNeg = 6 := by decide
  have := key m.toNatClampNeg (by omega)
  rw [i32_nat h0] at this
  exact this
theorem Rd0.mo {u w : pM} (h : Rd0 u w) (hr : mRQ w = mRQ u) (hM : InvM u) : Mo mB u w := by
  have m7 := hM.m7
  have q : ∀ n k, n ≠ 76 → n ≠ 83 → mI w n k = mI u n k := fun n k a b => h n k (by omega) (by omega)
  have f : ∀ k, k = 10 ∨ k = 11 ∨ k = 19 ∨ k = 28 → mI w 76 k = mI u 76 k := fun k hk => h 76 k (by omega) (by omega)
  obtain ⟨a, b, c, d, e, o⟩ := hM
  have i5 : ∀ i, i < 7 → (5 * Int32.ofNat i + 0 : Int32).toNatClampNeg < 35 ∧ (5 * Int32.ofNat i + 4 : Int32).toNatClampNeg < 35 := by decide
  have fpi : ∀ n k, cd n k ∉ mB → mI w n k = mI u n k := fun n k hn => by
    refine h n k (fun z => hn ?_) (fun z => hn ?_)
    · rw [z.1]; rcases z.2 with e | e | e | e <;> rw [e] <;> decide
    · have : cd n k = 183 := by unfold cd; rw [z.1, if_neg (by decide), if_neg (by decide), if_pos ⟨rfl, z.2⟩]
      rw [this]; decide
  have fp : Fp mB u w := ⟨fpi, (mRQ_l hr).lk⟩
  refine ⟨⟨fun n k => ?_, ?_, ?_, ?_, ?_, ?_⟩, fun n k hn => q n k (by omega) (by omega), fp, mRQ_r hr⟩
  · by_cases n6 : n = 76
    · rw [n6]; exact ⟨fun z => by omega, fun z => by omega, fun z => by omega, fun z => by omega⟩
    · by_cases n8 : n = 83
      · rw [n8]; exact ⟨fun z => by omega, fun z => by omega, fun z => by omega, fun z => by omega⟩
      · rw [q n k n6 n8]; exact a n k
  · unfold szK at *; rw [f _ (by decide), f _ (by decide)]; exact b
  · unfold shK at *
    rw [f _ (by decide)]
    intro s s0 s1
    have l := tn_lt s0 s1
    have l2 := tn_le m7.2
    have e7 : (7 : Int32).toNatClampNeg = 7 := by decide
    have i6 := i5 s.toNatClampNeg (by omega)
    rw [i32_nat s0] at i6
    rw [h 83 _ (by omega) (by omega), h 83 _ (by omega) (by omega)]
    exact c s s0 s1
  · rw [f _ (by decide), f _ (by decide)]; exact d
  · unfold kpK at *
    rw [f _ (by decide)]
    intro k k0 k2
    rw [q _ _ (by decide) (by decide), q _ _ (by decide) (by decide)]
    exact ⟨(e k k0 k2).1, fun s => by rw [q _ _ (by decide) (by decide)]; exact (e k k0 k2).2 s⟩
  · rw [f _ (by decide)]; exact o
