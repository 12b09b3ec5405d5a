/-! ===== square ===== -/
theorem ix_5 {m : Int32} (h0 : 0 ≤ m) (h1 : m ≤ 6) : (5 * m + 0 : Int32).toNatClampNeg = 5 * m.toNatClampNeg ∧ (5 * m + 1 : Int32).toNatClampNeg = 5 * m.toNatClampNeg + 1 ∧ (5 * m + 4 : Int32).toNatClampNeg = 5 * m.toNatClampNeg + 4 ∧ m.toNatClampNeg ≤ 6 := by
  have key : ∀ i, i < 7 → (5 * Int32.ofNat i + 0 : Int32).toNatClampNeg = 5 * i ∧ (5 * Int32.ofNat i + 1 : Int32).toNatClampNeg = 5 * i + 1 ∧ (5 * Int32.ofNat i + 4 : Int32).toNatClampNeg = 5 * i + 4 := by decide
  have l := tn_le h1
  have e : (6 : Int32).toNatClampNeg = 6 := by decide
  have := key m.toNatClampNeg (by omega)
  rw [i32_nat h0] at this
  exact ⟨this.1, this.2.1, this.2.2, by omega⟩
theorem ix_35 {x : Int32} (h0 : 0 ≤ x) (h1 : x < 35) : (35 + x : Int32).toNatClampNeg = 35 + x.toNatClampNeg ∧ x.toNatClampNeg < 35 := by
  have key : ∀ i, i < 35 → (35 + Int32.ofNat i : Int32).toNatClampNeg = 35 + i := by decide
  have l := tn_lt h0 h1
  have e : (35 : Int32).toNatClampNeg = 35 := by decide
  have := key x.toNatClampNeg (by omega)
  rw [i32_nat h0] at this
  exact ⟨this, by omega⟩
section MOD
variable {G : pG} {u w : pM}
theorem sq_fin {v w z : pM} (hM : InvM v) (d0 : 10 ≤ mI w 76 15 ∧ mI w 76 15 ≤ 30) (m0 : 0 ≤ mI w 76 16 ∧ mI w 76 16 ≤ 7) (sg : shG w) (f1 : ∀ n k, n ≠ 76 → n ≠ 83 → n ≠ 84 → n ≠ 87 → mI z n k = mI v n k) (g1 : mI z 76 10 = mI w 76 15) (g2 : mI z 76 11 = mI w 76 16) (g3 : mI z 76 19 = 0) (g4 : mI z 76 28 = 0) (f3 : ∀ k, k < 35 → mI z 83 k = mI w 83 (35 + k)) (f4 : ∀ k, 0 ≤ mI z 84 k ∧ mI z 84 k < 30) (f5 : ∀ k : Int32, 0 ≤ k → k ≤ 2 → mI z 87 (10 * k : Int32).toNatClampNeg = -9) (f6 : ∀ k s : Int32, 0 ≤ k → k ≤ 2 → 0 ≤ s → s < 7 → 0 ≤ mI z 87 (10 * k + 2 + s : Int32).toNatClampNeg ∧ mI z 87 (10 * k + 2 + s : Int32).toNatClampNeg < 30) : Mo (mB ++ mPl ++ mNw ++ mKp ++ mJn ++ mFd) v z := by
  refine ⟨⟨fun n k => ?_, ?_, fun s a b => ?_, ?_, fun k k0 k2 => ⟨fun q => absurd (f5 k k0 k2) q, fun s a b => f6 k s k0 k2 a b⟩, ?_⟩, fun n k hn => f1 n k (by omega) (by omega) (by omega) (by omega), fun n k hn => f1 n k (fun e => hn (by rw [e]; exact (show ∀ x ∈ mFd, x ∈ (mB ++ mPl ++ mNw ++ mKp ++ mJn ++ mFd) from by decide) _ (cd_76 k))) (fun e => hn ?_) (fun e => hn (by rw [e, cd_n (by decide)]; decide)) (fun e => hn (by rw [e, cd_n (by decide)]; decide))⟩
  · by_cases n4 : n = 84
    · rw [n4]; exact ⟨fun z => by omega, fun z => by omega, fun _ => f4 k, fun z => by omega⟩
    · by_cases n6 : n = 76 ∨ n = 83 ∨ n = 87
      · exact ⟨fun z => by omega, fun z => by omega, fun z => by omega, fun z => by omega⟩
      · rw [f1 n k (by omega) (by omega) (by omega) (by omega)]; exact hM.1 n k
  · unfold szK; rw [g1, g2]; exact .inr ⟨d0.1, d0.2, m0.1, m0.2⟩
  · rw [g2] at b
    have s6 : s ≤ 6 := by grind
    have I := ix_5 a s6
    have J := ix_j a s6
    have g := (sg s a b).1
    rw [J.2.1, J.2.2] at g
    rw [I.1, I.2.2.1, f3 _ (by omega), f3 _ (by omega)]
    have e4 : 35 + (5 * s.toNatClampNeg + 4) = 35 + 5 * s.toNatClampNeg + 4 := by omega
    rw [e4]
    exact g
  · rw [g3, cnt_0]; decide
  · rw [g4]; decide
  · rw [e]
    by_cases h35 : 35 ≤ k
    · have : cd 83 k = 183 := by unfold cd; rw [if_neg (by decide), if_neg (by decide), if_pos ⟨rfl, h35⟩]
      rw [this]; decide
    · have : cd 83 k = 83 := by unfold cd; rw [if_neg (by decide), if_neg (by decide), if_neg (fun z => h35 z.2)]
      rw [this]; decide
theorem e_square {x1 : Int32} (hM : InvM u) : Ws G m_square 0 [(0, .ref 76), (1, .int x1)] [] u (RI fun _ u' => Mo (mB ++ mPl ++ mNw ++ mKp ++ mJn ++ mFd) u u') := by
  refine sg_m_square_0 (kI e_askedText (fun a v h => ⟨fun c => ?_, fun c => lfM hM h.1.up⟩))
  obtain ⟨rfl, r0, r5, s0⟩ := h.2 c
  refine kI (f_goesOn ⟨r0, r5⟩ ⟨s0, hM.b81 _⟩) (fun a3 w h => ⟨fun c3 => ?_, fun _ => ⟨_, rfl, (h.1.mo hM).up⟩⟩)
  obtain ⟨d0, d1, m0, m1, sg⟩ := h.2 c3
  have hr := h.1
  rw [mI_nk (show (16 : Nat) ≠ 10 by decide)]
  have e10 : (10 : Int32).toNatClampNeg = 10 := by decide
  have k115 : ∀ x z, 0 ≤ x → x ≤ 3 → (∀ n k, n ≠ 76 → n ≠ 83 → n ≠ 84 → n ≠ 87 → mI z n k = mI v n k) → mI z 76 10 = mI w 76 15 → mI z 76 11 = mI w 76 16 → mI z 76 19 = 0 → mI z 76 28 = 0 → (∀ k, k < 35 → mI z 83 k = mI w 83 (35 + k)) → (∀ k, 0 ≤ mI z 84 k ∧ mI z 84 k < 30) → (∀ k : Int32, 0 ≤ k → k < x → mI z 87 (10 * k : Int32).toNatClampNeg = -9) → (∀ k s : Int32, 0 ≤ k → k ≤ 2 → 0 ≤ s → s < 7 → 0 ≤ mI z 87 (10 * k + 2 + s : Int32).toNatClampNeg ∧ mI z 87 (10 * k + 2 + s : Int32).toNatClampNeg < 30) → Ws G m_square 115 [(0, .ref 76), (3, .int x)] [] z (RI fun _ u' => Mo (mB ++ mPl ++ mNw ++ mKp ++ mJn ++ mFd) v u') := by
    refine upI 3 _ (fun x ih z h0 h3 f1 g1 g2 g3 g4 f3 f4 f5 f6 => ?_)
    refine sg_m_square_115 ⟨fun c => ⟨_, rfl, sq_fin hM ⟨d0, d1⟩ ⟨m0, m1⟩ sg f1 g1 g2 g3 g4 f3 f4 (fun k a b => f5 k a (by grind)) f6⟩, fun c => ⟨vin (by grind) (show (_ : Int32) < 30 by grind) (by decide), ?_⟩⟩
    refine ih c _ (by grind) (by grind) (fun n k a b e f => by rw [mI_ne f]; exact f1 n k a b e f) (by rw [mI_ne (by decide)]; exact g1) (by rw [mI_ne (by decide)]; exact g2) (by rw [mI_ne (by decide)]; exact g3) (by rw [mI_ne (by decide)]; exact g4) (fun k hk => by rw [mI_ne (by decide)]; exact f3 k hk) (fun k => by rw [mI_ne (by decide)]; exact f4 k) (fun k a b => ?_) (fun k s a b e f => ?_)
    · by_cases e : k = x
      · rw [e, mI_eq]
      · rw [mI_nk (ix_ne (by grind) (by grind) (by grind))]; exact f5 k a (by grind)
    · rw [mI_nk (ix_ne (by grind) (by grind) (by grind))]; exact f6 k s a b e f
  have k72 : ∀ x z, 0 ≤ x → (∀ n k, n ≠ 76 → n ≠ 83 → n ≠ 84 → mI z n k = mI v n k) → mI z 76 10 = mI w 76 15 → mI z 76 11 = mI w 76 16 → (∀ k, k < 35 → mI z 83 k = mI w 83 (35 + k)) → (∀ k, 0 ≤ mI z 84 k ∧ mI z 84 k < 30) → Ws G m_square 72 [(0, .ref 76), (3, .int x)] [] z (RI fun _ u' => Mo (mB ++ mPl ++ mNw ++ mKp ++ mJn ++ mFd) v u') := by
    refine upI (mI w 76 16) _ (fun x ih z h0 f1 g1 g2 f3 f4 => ?_)
    refine sg_m_square_72 ⟨fun c => ?_, fun c => ?_⟩
    · refine k115 0 _ (by decide) (by decide) (fun n k a b e f => by rw [mI_ne a, mI_ne a, mI_ne a]; exact f1 n k a b e) ?_ ?_ ?_ ?_ (fun k hk => by rw [mI_ne (by decide), mI_ne (by decide), mI_ne (by decide)]; exact f3 k hk) (fun k => by rw [mI_ne (by decide), mI_ne (by decide), mI_ne (by decide)]; exact f4 k) (fun k a b => absurd b (by grind)) (fun k s a b e f => ?_)
      · rw [mI_nk (by decide), mI_nk (by decide), mI_nk (by decide)]; exact g1
      · rw [mI_nk (by decide), mI_nk (by decide), mI_nk (by decide)]; exact g2
      · rw [mI_nk (by decide), mI_eq]
      · rw [mI_eq]
      · rw [mI_ne (by decide), mI_ne (by decide), mI_ne (by decide), f1 87 _ (by decide) (by decide) (by decide)]
        exact (hM.2.2.2.2.1 k a b).2 s e f
    · rw [g2] at c
      have x6 : x ≤ 6 := by grind
      have I := ix_5 h0 x6
      have J := ix_j h0 x6
      have g := (sg x h0 (Int32.not_le.mp c)).2
      rw [J.1, J.2.2] at g
      have e1 : 35 + (5 * x.toNatClampNeg + 1) = 35 + 5 * x.toNatClampNeg + 1 := by omega
      refine ⟨vin (by grind) (show (_ : Int32) < 70 by grind) (by decide), vin h0 (show (_ : Int32) < 7 by grind) (by decide), ih c _ (by grind) (fun n k a b e => by rw [mI_ne e]; exact f1 n k a b e) (by rw [mI_ne (by decide)]; exact g1) (by rw [mI_ne (by decide)]; exact g2) (fun k hk => by rw [mI_ne (by decide)]; exact f3 k hk) (fun k => ?_)⟩
      by_cases e : k = x.toNatClampNeg
      · rw [e, mI_eq, I.2.1, f3 _ (by omega), e1]; exact g
      · rw [mI_nk e]; exact f4 k
  have k43 : ∀ x z, 0 ≤ x → (∀ n k, n ≠ 76 → n ≠ 83 → mI z n k = mI v n k) → mI z 76 10 = mI w 76 15 → mI z 76 11 = mI w 76 16 → (∀ k, 35 ≤ k → mI z 83 k = mI w 83 k) → (∀ k, k < x.toNatClampNeg → k < 35 → mI z 83 k = mI w 83 (35 + k)) → Ws G m_square 43 [(0, .ref 76), (3, .int x)] [] z (RI fun _ u' => Mo (mB ++ mPl ++ mNw ++ mKp ++ mJn ++ mFd) v u') := by
    refine upI 35 _ (fun x ih z h0 f1 g1 g2 f2 f3 => ?_)
    refine sg_m_square_43 ⟨fun c => k72 0 z (by decide) (fun n k a b _ => f1 n k a b) g1 g2 (fun k hk => f3 k (by have := tn_le c; have e : (35 : Int32).toNatClampNeg = 35 := (by decide); omega) hk) (fun k => by rw [f1 84 k (by decide) (by decide)]; exact hM.b84 k), fun c => ?_⟩
    have I := ix_35 h0 (Int32.not_le.mp c)
    refine ⟨vin (by grind) (show (_ : Int32) < 70 by grind) (by decide), vin h0 (show (_ : Int32) < 70 by grind) (by decide), ih c _ (by grind) (fun n k a b => by rw [mI_ne b]; exact f1 n k a b) (by rw [mI_ne (by decide)]; exact g1) (by rw [mI_ne (by decide)]; exact g2) (fun k hk => by rw [mI_nk (by omega)]; exact f2 k hk) (fun k hk k35 => ?_)⟩
    rw [tn_succ h0 c] at hk
    by_cases e : k = x.toNatClampNeg
    · rw [e, mI_eq, I.1, f2 _ (by omega)]
    · rw [mI_nk e]; exact f3 k (by omega) k35
  have z0 : (0 : Int32).toNatClampNeg = 0 := by decide
  exact k43 0 _ (by decide) (fun n k a b => by rw [mI_ne a, mI_ne a]; exact hr n k (by omega) (by omega)) (by rw [mI_nk (by decide), mI_eq]) (by rw [mI_eq]) (fun k _ => by rw [mI_ne (by decide), mI_ne (by decide)]) (fun k hk _ => by rw [z0] at hk; omega)
end MOD
