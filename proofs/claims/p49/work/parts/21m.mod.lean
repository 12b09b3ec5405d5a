/-! ===== square ===== -/
theorem ix_5 {m : Int32} (h0 : 0 ≤ m) (h1 : m ≤ 6) : (5 * m + 0 : Int32).toNatClampNeg = 5 * m.toNatClampNeg ∧ (5 * m + 1 : Int32).toNatClampNeg = 5 * m.toNatClampNeg + 1 ∧ (5 * m + 4 : Int32).toNatClampNeg = 5 * m.toNatClampNeg + 4 ∧ m.toNatClampNeg ≤ 6 := by
  have key : ∀ i, i < 7 → (5 * Int32.ofNat i + 0 : Int32).toNatClampNeg = 5 * i ∧ (5 * Int32.ofNat i + 1 : Int32).toNatClampNeg = 5 * i + 1 ∧ (5 * Int32.ofNat i + 4 : Int32).toNatClampNeg = 5 * i + 4 := by decide
  have l := tn_le h1
  have e : (6 : Int32).toNatClampNeg = 6 := by decide
  have := key m.toNatClampNeg (by omega)
  rw [i32_nat h0] at this
  exact ⟨this.1, this.2.1, this.2.2, by omega⟩
theorem ix_35 {x : Int32} (h0 : 0 ≤ x) (h1 : x < 35) : (35 + x : Int32).toNatClampNeg = 35 + x.toNatClampNeg ∧ x.toNatClampNeg < 35 := by
  have key : ∀ i, i < 35 → (35 + Int32.ofNat i : Int32).toNatClampNeg = 35 + i := by decide
  have l := tn_lt h0 h1
  have e : (35 : Int32).toNatClampNeg = 35 := by decide
  have := key x.toNatClampNeg (by omega)
  rw [i32_nat h0] at this
  exact ⟨this, by omega⟩
section MOD
variable {G : pG} {u w : pM}
theorem sq_fin {v w z : pM} (hM : InvM v) (d0 : 10 ≤ mI w 76 15 ∧ mI w 76 15 ≤ 30) (m0 : 0 ≤ mI w 76 16 ∧ mI w 76 16 ≤ 7) (sg : shG w) (f1 : ∀ n k, n ≠ 76 → n ≠ 83 → n ≠ 84 → n ≠ 87 → mI z n k = mI v n k) (g1 : mI z 76 10 = mI w 76 15) (g2 : mI z 76 11 = mI w 76 16) (g3 : mI z 76 19 = 0) (g4 : mI z 76 28 = 0) (f3 : ∀ k, k < 35 → mI z 83 k = mI w 83 (35 + k)) (f4 : ∀ k, 0 ≤ mI z 84 k ∧ mI z 84 k < 30) (f5 : ∀ k : Int32, 0 ≤ k → k ≤ 2 → mI z 87 (10 * k : Int32).toNatClampNeg = -9) (f6 : ∀ k s : Int32, 0 ≤ k → k ≤ 2 → 0 ≤ s → s < 7 → 0 ≤ mI z 87 (10 * k + 2 + s : Int32).toNatClampNeg ∧ mI z 87 (10 * k + 2 + s : Int32).toNatClampNeg < 30) (hr : mRQ z = mRQ v) : Mo (mB ++ mPl ++ mNw ++ mKp ++ mJn ++ mFd) v z := by
  refine ⟨⟨fun n k => ?_, ?_, fun s a b => ?_, ?_, fun k k0 k2 => ⟨fun q => absurd (f5 k k0 k2) q, fun s a b => f6 k s k0 k2 a b⟩, ?_⟩, fun n k hn => f1 n k (by omega) (by omega) (by omega) (by omega), ⟨fun n k hn => f1 n k (fun e => hn (by rw [e]; exact (show ∀ x ∈ mFd, x ∈ (mB ++ mPl ++ mNw ++ mKp ++ mJn ++ mFd) from by decide) _ (cd_76 k))) (fun e => hn ?_) (fun e => hn (by rw [e, cd_n (by decide)]; decide)) (fun e => hn (by rw [e, cd_n (by decide)]; decide)), (mRQ_l hr).lk⟩, mRQ_r hr⟩
  · by_cases n4 : n = 84
    · rw [n4]; exact ⟨fun z => by omega, fun z => by omega, fun _ => f4 k, fun z => by omega⟩
    · by_cases n6 : n = 76 ∨ n = 83 ∨ n = 87
      · exact ⟨fun z => by omega, fun z => by omega, fun z => by omega, fun z => by omega⟩
      · rw [f1 n k (by omega) (by omega) (by omega) (by omega)]; exact hM.1 n k
  · unfold szK; rw [g1, g2]; exact .inr ⟨d0.1, d0.2, m0.1, m0.2⟩
  · rw [g2] at b
    have s6 : s ≤ 6 := by grind
    have I := ix_5 a s6
    have J := ix_j a s6
    have g := (sg s a b).1
    rw [J.2.1, J.2.2] at g
    rw [I.1, I.2.2.1, f3 _ (by omega), f3 _ (by omega)]
    have e4 : 35 + (5 * s.toNatClampNeg + 4) = 35 + 5 * s.toNatClampNeg + 4 := by omega
    rw [e4]
    exact g
  · rw [g3, cnt_0]; decide
  · rw [g4]; decide
  · rw [e]
    by_cases h35 : 35 ≤ k
    · have : cd 83 k = 183 := by unfold cd; rw [if_neg (by decide), if_neg (by decide), if_pos ⟨rfl, h35⟩]
      rw [this]; decide
    · have : cd 83 k = 83 := by unfold cd; rw [if_neg (by decide), if_neg (by decide), if_neg (fun z => h35 z.2)]
      rw [this]; decide
end MOD
