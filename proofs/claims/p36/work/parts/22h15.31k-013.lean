section SQX
variable {G : pG} {u : pM}
theorem sq_tail {v w : pM} (hM : InvM v) (hr : Rd0 v w) (hr2 : mR w = mR v) (d0 : 10 ≤ mI w 76 15) (d1 : mI w 76 15 ≤ 30) (m0 : 0 ≤ mI w 76 16) (m1 : mI w 76 16 ≤ 7) (sg : shG w) : Ws G m_square 43 [(0, .ref 76), (3, .int 0)] [] (pI (pI w 76 10 (mI w 76 15)) 76 11 (mI w 76 16)) (RI fun a u' => Mo (mB ++ mPl ++ mNw ++ mKp ++ mJn ++ mFd) v u' ∧ a = mI w 76 16 ∧ mI u' 76 10 = mI w 76 15 ∧ mI u' 76 11 = mI w 76 16 ∧ (∀ k, k < 35 → mI u' 83 k = mI w 83 (35 + k)) ∧ sqT w u') := by
  have e10 : (10 : Int32).toNatClampNeg = 10 := by decide
  have k115 : ∀ x z, 0 ≤ x → x ≤ 3 → mR z = mR v → (∀ n k, n ≠ 76 → n ≠ 83 → n ≠ 84 → n ≠ 87 → mI z n k = mI v n k) → mI z 76 10 = mI w 76 15 → mI z 76 11 = mI w 76 16 → mI z 76 19 = 0 → mI z 76 28 = 0 → sqT0 w z → (∀ k, k < 35 → mI z 83 k = mI w 83 (35 + k)) → (∀ k, 0 ≤ mI z 84 k ∧ mI z 84 k < 30) → (∀ k : Int32, 0 ≤ k → k < x → mI z 87 (10 * k : Int32).toNatClampNeg = -9) → (∀ k s : Int32, 0 ≤ k → k ≤ 2 → 0 ≤ s → s < 7 → 0 ≤ mI z 87 (10 * k + 2 + s : Int32).toNatClampNeg ∧ mI z 87 (10 * k + 2 + s : Int32).toNatClampNeg < 30) → Ws G m_square 115 [(0, .ref 76), (3, .int x)] [] z (RI fun a u' => Mo (mB ++ mPl ++ mNw ++ mKp ++ mJn ++ mFd) v u' ∧ a = mI w 76 16 ∧ mI u' 76 10 = mI w 76 15 ∧ mI u' 76 11 = mI w 76 16 ∧ (∀ k, k < 35 → mI u' 83 k = mI w 83 (35 + k)) ∧ sqT w u') := by
    refine upI 3 _ (fun x ih z h0 h3 zr f1 g1 g2 g3 g4 gT f3 f4 f5 f6 => ?_)
    refine sg_m_square_115 ⟨fun c => ⟨_, rfl, sq_fin hM ⟨d0, d1⟩ ⟨m0, m1⟩ sg f1 g1 g2 g3 g4 f3 f4 (fun k a b => f5 k a (by grind)) f6 zr, g2, g1, g2, f3, g4, gT.1, g3, gT.2, sqk (fun k a b => f5 k a (by grind))⟩, fun c => ⟨vin (by grind) (show (_ : Int32) < 30 by grind) (by decide), ?_⟩⟩
    refine ih c _ (by grind) (by grind) zr (fun n k a b e f => by rw [mI_ne f]; exact f1 n k a b e f) (by rw [mI_ne (by decide)]; exact g1) (by rw [mI_ne (by decide)]; exact g2) (by rw [mI_ne (by decide)]; exact g3) (by rw [mI_ne (by decide)]; exact g4) ⟨by rw [mI_ne (by decide)]; exact gT.1, fun s hs => by rw [mI_ne (by decide)]; exact gT.2 s hs⟩ (fun k hk => by rw [mI_ne (by decide)]; exact f3 k hk) (fun k => by rw [mI_ne (by decide)]; exact f4 k) (fun k a b => ?_) (fun k s a b e f => ?_)
    · by_cases e : k = x
      · rw [e, mI_eq]
      · rw [mI_nk (ix_ne (by grind) (by grind) (by grind))]; exact f5 k a (by grind)
    · rw [mI_nk (ix_ne (by grind) (by grind) (by grind))]; exact f6 k s a b e f
  have k72 : ∀ x z, 0 ≤ x → mR z = mR v → (∀ n k, n ≠ 76 → n ≠ 83 → n ≠ 84 → mI z n k = mI v n k) → mI z 76 10 = mI w 76 15 → mI z 76 11 = mI w 76 16 → (∀ k, k < 35 → mI z 83 k = mI w 83 (35 + k)) → (∀ k, 0 ≤ mI z 84 k ∧ mI z 84 k < 30) → (∀ s, s < x.toNatClampNeg → mI z 84 s = mI w 83 (35 + 5 * s + 1)) → Ws G m_square 72 [(0, .ref 76), (3, .int x)] [] z (RI fun a u' => Mo (mB ++ mPl ++ mNw ++ mKp ++ mJn ++ mFd) v u' ∧ a = mI w 76 16 ∧ mI u' 76 10 = mI w 76 15 ∧ mI u' 76 11 = mI w 76 16 ∧ (∀ k, k < 35 → mI u' 83 k = mI w 83 (35 + k)) ∧ sqT w u') := by
    refine upI (mI w 76 16) _ (fun x ih z h0 zr f1 g1 g2 f3 f4 fD => ?_)
    refine sg_m_square_72 ⟨fun c => ?_, fun c => ?_⟩
    · refine k115 0 _ (by decide) (by decide) zr (fun n k a b e f => by rw [mI_ne a, mI_ne a, mI_ne a]; exact f1 n k a b e) ?_ ?_ ?_ ?_ ⟨by rw [mI_nk (by decide), mI_nk (by decide), mI_eq], fun s hs => by rw [mI_ne (by decide), mI_ne (by decide), mI_ne (by decide)]; exact fD s (by have := tn_le c; rw [g2] at this; omega)⟩ (fun k hk => by rw [mI_ne (by decide), mI_ne (by decide), mI_ne (by decide)]; exact f3 k hk) (fun k => by rw [mI_ne (by decide), mI_ne (by decide), mI_ne (by decide)]; exact f4 k) (fun k a b => absurd b (by grind)) (fun k s a b e f => ?_)
      · rw [mI_nk (by decide), mI_nk (by decide), mI_nk (by decide)]; exact g1
      · rw [mI_nk (by decide), mI_nk (by decide), mI_nk (by decide)]; exact g2
      · rw [mI_nk (by decide), mI_eq]
      · rw [mI_eq]
      · rw [mI_ne (by decide), mI_ne (by decide), mI_ne (by decide), f1 87 _ (by decide) (by decide) (by decide)]
        exact (hM.2.2.2.2.1 k a b).2 s e f
    · rw [g2] at c
      have x6 : x ≤ 6 := by grind
      have I := ix_5 h0 x6
      have J := ix_j h0 x6
      have g := (sg x h0 (Int32.not_le.mp c)).2
      rw [J.1, J.2.2] at g
      have e1 : 35 + (5 * x.toNatClampNeg + 1) = 35 + 5 * x.toNatClampNeg + 1 := by omega
      refine ⟨vin (by grind) (show (_ : Int32) < 70 by grind) (by decide), vin h0 (show (_ : Int32) < 7 by grind) (by decide), ih c _ (by grind) zr (fun n k a b e => by rw [mI_ne e]; exact f1 n k a b e) (by rw [mI_ne (by decide)]; exact g1) (by rw [mI_ne (by decide)]; exact g2) (fun k hk => by rw [mI_ne (by decide)]; exact f3 k hk) (fun k => ?_) (fun s hs => by
        rw [tn_succ h0 c] at hs
        by_cases e : s = x.toNatClampNeg
        · rw [e, mI_eq, I.2.1, f3 _ (by omega), e1]
        · rw [mI_nk e]; exact fD s (by omega))⟩
      by_cases e : k = x.toNatClampNeg
      · rw [e, mI_eq, I.2.1, f3 _ (by omega), e1]; exact g
      · rw [mI_nk e]; exact f4 k
  have k43 : ∀ x z, 0 ≤ x → mR z = mR v → (∀ n k, n ≠ 76 → n ≠ 83 → mI z n k = mI v n k) → mI z 76 10 = mI w 76 15 → mI z 76 11 = mI w 76 16 → (∀ k, 35 ≤ k → mI z 83 k = mI w 83 k) → (∀ k, k < x.toNatClampNeg → k < 35 → mI z 83 k = mI w 83 (35 + k)) → Ws G m_square 43 [(0, .ref 76), (3, .int x)] [] z (RI fun a u' => Mo (mB ++ mPl ++ mNw ++ mKp ++ mJn ++ mFd) v u' ∧ a = mI w 76 16 ∧ mI u' 76 10 = mI w 76 15 ∧ mI u' 76 11 = mI w 76 16 ∧ (∀ k, k < 35 → mI u' 83 k = mI w 83 (35 + k)) ∧ sqT w u') := by
    refine upI 35 _ (fun x ih z h0 zr f1 g1 g2 f2 f3 => ?_)
    refine sg_m_square_43 ⟨fun c => k72 0 z (by decide) zr (fun n k a b _ => f1 n k a b) g1 g2 (fun k hk => f3 k (by have := tn_le c; have e : (35 : Int32).toNatClampNeg = 35 := (by decide); omega) hk) (fun k => by rw [f1 84 k (by decide) (by decide)]; exact hM.b84 k) (fun s hs => by have z0 : (0 : Int32).toNatClampNeg = 0 := (by decide); omega), fun c => ?_⟩
    have I := ix_35 h0 (Int32.not_le.mp c)
    refine ⟨vin (by grind) (show (_ : Int32) < 70 by grind) (by decide), vin h0 (show (_ : Int32) < 70 by grind) (by decide), ih c _ (by grind) zr (fun n k a b => by rw [mI_ne b]; exact f1 n k a b) (by rw [mI_ne (by decide)]; exact g1) (by rw [mI_ne (by decide)]; exact g2) (fun k hk => by rw [mI_nk (by omega)]; exact f2 k hk) (fun k hk k35 => ?_)⟩
    rw [tn_succ h0 c] at hk
    by_cases e : k = x.toNatClampNeg
    · rw [e, mI_eq, I.1, f2 _ (by omega)]
    · rw [mI_nk e]; exact f3 k (by omega) k35
  have z0 : (0 : Int32).toNatClampNeg = 0 := by decide
  exact k43 0 _ (by decide) hr2 (fun n k a b => by rw [mI_ne a, mI_ne a]; exact hr n k (by omega) (by omega)) (by rw [mI_nk (by decide), mI_eq]) (by rw [mI_eq]) (fun k _ => by rw [mI_ne (by decide), mI_ne (by decide)]) (fun k hk _ => by rw [z0] at hk; omega)
end SQX
