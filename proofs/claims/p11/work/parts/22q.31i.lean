/-! ===== square on both sides ===== -/
/-- the answer of square, by what stands in the text -/
def sqP (n : Int32) (T : Int32 → Int32) (x1 a : Int32) : Prop := (¬ (0 ≤ x1 ∧ x1 < 4) ∧ a = -1) ∨ ((0 ≤ x1 ∧ x1 < 4) ∧ ((¬ 0 ≤ n ∧ a = -3) ∨ (0 ≤ n ∧ ((rdA T n = none ∧ a = -4) ∨ ∃ d l, rdA T n = some (d, l) ∧ a = Int32.ofNat l.length))))
section SQX
variable {G : pG} {u : pM}
theorem sq_tail {v w : pM} (hM : InvM v) (hr : Rd0 v w) (d0 : 10 ≤ mI w 76 15) (d1 : mI w 76 15 ≤ 30) (m0 : 0 ≤ mI w 76 16) (m1 : mI w 76 16 ≤ 7) (sg : shG w) : Ws G m_square 43 [(0, .ref 76), (3, .int 0)] [] (pI (pI w 76 10 (mI w 76 15)) 76 11 (mI w 76 16)) (RI fun a u' => Mo (mB ++ mPl ++ mNw ++ mKp ++ mJn ++ mFd) v u' ∧ a = mI w 76 16) := by
  have e10 : (10 : Int32).toNatClampNeg = 10 := by decide
  have k115 : ∀ x z, 0 ≤ x → x ≤ 3 → (∀ n k, n ≠ 76 → n ≠ 83 → n ≠ 84 → n ≠ 87 → mI z n k = mI v n k) → mI z 76 10 = mI w 76 15 → mI z 76 11 = mI w 76 16 → mI z 76 19 = 0 → mI z 76 28 = 0 → (∀ k, k < 35 → mI z 83 k = mI w 83 (35 + k)) → (∀ k, 0 ≤ mI z 84 k ∧ mI z 84 k < 30) → (∀ k : Int32, 0 ≤ k → k < x → mI z 87 (10 * k : Int32).toNatClampNeg = -9) → (∀ k s : Int32, 0 ≤ k → k ≤ 2 → 0 ≤ s → s < 7 → 0 ≤ mI z 87 (10 * k + 2 + s : Int32).toNatClampNeg ∧ mI z 87 (10 * k + 2 + s : Int32).toNatClampNeg < 30) → Ws G m_square 115 [(0, .ref 76), (3, .int x)] [] z (RI fun a u' => Mo (mB ++ mPl ++ mNw ++ mKp ++ mJn ++ mFd) v u' ∧ a = mI w 76 16) := by
    refine upI 3 _ (fun x ih z h0 h3 f1 g1 g2 g3 g4 f3 f4 f5 f6 => ?_)
    refine sg_m_square_115 ⟨fun c => ⟨_, rfl, sq_fin hM ⟨d0, d1⟩ ⟨m0, m1⟩ sg f1 g1 g2 g3 g4 f3 f4 (fun k a b => f5 k a (by grind)) f6, g2⟩, fun c => ⟨vin (by grind) (show (_ : Int32) < 30 by grind) (by decide), ?_⟩⟩
    refine ih c _ (by grind) (by grind) (fun n k a b e f => by rw [mI_ne f]; exact f1 n k a b e f) (by rw [mI_ne (by decide)]; exact g1) (by rw [mI_ne (by decide)]; exact g2) (by rw [mI_ne (by decide)]; exact g3) (by rw [mI_ne (by decide)]; exact g4) (fun k hk => by rw [mI_ne (by decide)]; exact f3 k hk) (fun k => by rw [mI_ne (by decide)]; exact f4 k) (fun k a b => ?_) (fun k s a b e f => ?_)
    · by_cases e : k = x
      · rw [e, mI_eq]
      · rw [mI_nk (ix_ne (by grind) (by grind) (by grind))]; exact f5 k a (by grind)
    · rw [mI_nk (ix_ne (by grind) (by grind) (by grind))]; exact f6 k s a b e f
  have k72 : ∀ x z, 0 ≤ x → (∀ n k, n ≠ 76 → n ≠ 83 → n ≠ 84 → mI z n k = mI v n k) → mI z 76 10 = mI w 76 15 → mI z 76 11 = mI w 76 16 → (∀ k, k < 35 → mI z 83 k = mI w 83 (35 + k)) → (∀ k, 0 ≤ mI z 84 k ∧ mI z 84 k < 30) → Ws G m_square 72 [(0, .ref 76), (3, .int x)] [] z (RI fun a u' => Mo (mB ++ mPl ++ mNw ++ mKp ++ mJn ++ mFd) v u' ∧ a = mI w 76 16) := by
    refine upI (mI w 76 16) _ (fun x ih z h0 f1 g1 g2 f3 f4 => ?_)
    refine sg_m_square_72 ⟨fun c => ?_, fun c => ?_⟩
    · refine k115 0 _ (by decide) (by decide) (fun n k a b e f => by rw [mI_ne a, mI_ne a, mI_ne a]; exact f1 n k a b e) ?_ ?_ ?_ ?_ (fun k hk => by rw [mI_ne (by decide), mI_ne (by decide), mI_ne (by decide)]; exact f3 k hk) (fun k => by rw [mI_ne (by decide), mI_ne (by decide), mI_ne (by decide)]; exact f4 k) (fun k a b => absurd b (by grind)) (fun k s a b e f => ?_)
      · rw [mI_nk (by decide), mI_nk (by decide), mI_nk (by decide)]; exact g1
      · rw [mI_nk (by decide), mI_nk (by decide), mI_nk (by decide)]; exact g2
      · rw [mI_nk (by decide), mI_eq]
      · rw [mI_eq]
      · rw [mI_ne (by decide), mI_ne (by decide), mI_ne (by decide), f1 87 _ (by decide) (by decide) (by decide)]
        exact (hM.2.2.2.2.1 k a b).2 s e f
    · rw [g2] at c
      have x6 : x ≤ 6 := by grind
      have I := ix_5 h0 x6
      have J := ix_j h0 x6
      have g := (sg x h0 (Int32.not_le.mp c)).2
      rw [J.1, J.2.2] at g
      have e1 : 35 + (5 * x.toNatClampNeg + 1) = 35 + 5 * x.toNatClampNeg + 1 := by omega
      refine ⟨vin (by grind) (show (_ : Int32) < 70 by grind) (by decide), vin h0 (show (_ : Int32) < 7 by grind) (by decide), ih c _ (by grind) (fun n k a b e => by rw [mI_ne e]; exact f1 n k a b e) (by rw [mI_ne (by decide)]; exact g1) (by rw [mI_ne (by decide)]; exact g2) (fun k hk => by rw [mI_ne (by decide)]; exact f3 k hk) (fun k => ?_)⟩
      by_cases e : k = x.toNatClampNeg
      · rw [e, mI_eq, I.2.1, f3 _ (by omega), e1]; exact g
      · rw [mI_nk e]; exact f4 k
  have k43 : ∀ x z, 0 ≤ x → (∀ n k, n ≠ 76 → n ≠ 83 → mI z n k = mI v n k) → mI z 76 10 = mI w 76 15 → mI z 76 11 = mI w 76 16 → (∀ k, 35 ≤ k → mI z 83 k = mI w 83 k) → (∀ k, k < x.toNatClampNeg → k < 35 → mI z 83 k = mI w 83 (35 + k)) → Ws G m_square 43 [(0, .ref 76), (3, .int x)] [] z (RI fun a u' => Mo (mB ++ mPl ++ mNw ++ mKp ++ mJn ++ mFd) v u' ∧ a = mI w 76 16) := by
    refine upI 35 _ (fun x ih z h0 f1 g1 g2 f2 f3 => ?_)
    refine sg_m_square_43 ⟨fun c => k72 0 z (by decide) (fun n k a b _ => f1 n k a b) g1 g2 (fun k hk => f3 k (by have := tn_le c; have e : (35 : Int32).toNatClampNeg = 35 := (by decide); omega) hk) (fun k => by rw [f1 84 k (by decide) (by decide)]; exact hM.b84 k), fun c => ?_⟩
    have I := ix_35 h0 (Int32.not_le.mp c)
    refine ⟨vin (by grind) (show (_ : Int32) < 70 by grind) (by decide), vin h0 (show (_ : Int32) < 70 by grind) (by decide), ih c _ (by grind) (fun n k a b => by rw [mI_ne b]; exact f1 n k a b) (by rw [mI_ne (by decide)]; exact g1) (by rw [mI_ne (by decide)]; exact g2) (fun k hk => by rw [mI_nk (by omega)]; exact f2 k hk) (fun k hk k35 => ?_)⟩
    rw [tn_succ h0 c] at hk
    by_cases e : k = x.toNatClampNeg
    · rw [e, mI_eq, I.1, f2 _ (by omega)]
    · rw [mI_nk e]; exact f3 k (by omega) k35
  have z0 : (0 : Int32).toNatClampNeg = 0 := by decide
  exact k43 0 _ (by decide) (fun n k a b => by rw [mI_ne a, mI_ne a]; exact hr n k (by omega) (by omega)) (by rw [mI_nk (by decide), mI_eq]) (by rw [mI_eq]) (fun k _ => by rw [mI_ne (by decide), mI_ne (by decide)]) (fun k hk _ => by rw [z0] at hk; omega)
theorem e_squarex {x1 : Int32} (hM : InvM u) : Ws G m_square 0 [(0, .ref 76), (1, .int x1)] [] u (RI fun a u' => Mo (mB ++ mPl ++ mNw ++ mKp ++ mJn ++ mFd) u u' ∧ sqP (mI u 81 x1.toNatClampNeg) (TM u x1) x1 a) := by
  refine sg_m_square_0 (sg_m_askedText_0 ⟨fun a => ?_, fun a => ⟨_, rfl, fun c => absurd c (by decide), fun _ => ⟨_, rfl, Mo.rf hM, .inl ⟨fun q => a ⟨q.1, by grind⟩, rfl⟩⟩⟩⟩)
  have a4 : 0 ≤ x1 ∧ x1 < 4 := ⟨a.1, by grind⟩
  have v4 : vp_in x1 4 := vin a.1 (show (_ : Int32) < 4 by grind) (by decide)
  refine ⟨v4, fun b => ⟨_, rfl, fun _ => ?_, fun q => absurd (by decide) q⟩, fun b => ⟨_, rfl, fun q => absurd q (by decide), fun _ => ⟨_, rfl, Mq.rf.tm.mo hM, .inr ⟨a4, .inl ⟨b, rfl⟩⟩⟩⟩⟩
  refine kI (y_goesOn a ⟨b, hM.b81 _⟩) (fun a3 w h => ?_)
  obtain ⟨hr, h⟩ := h
  rcases h with ⟨e, p⟩ | ⟨d, l, e, p, g15, hm, hd, ho⟩
  · refine ⟨fun z => absurd p (by rw [z]; decide), fun _ => ⟨_, rfl, (hr.mo hM).up, .inr ⟨a4, .inr ⟨b, .inl ⟨e, rfl⟩⟩⟩⟩⟩
  · have q := hm.sh hd.1 hd.2 ho
    refine ⟨fun _ => ?_, fun z => absurd p z⟩
    rw [mI_nk (show (16 : Nat) ≠ 10 by decide)]
    refine kI (sq_tail hM hr (by rw [g15]; exact hd.1) (by rw [g15]; exact hd.2) q.1 q.2.1 q.2.2) (fun a v h => ⟨h.1, .inr ⟨a4, .inr ⟨b, .inr ⟨d, l, e, ?_⟩⟩⟩⟩)
    rw [h.2]; exact hm.1
theorem d_squarex {x1 : Int32} (hC : InvC u) : Ws G D_square 0 [(0, .ref 2), (1, .int x1)] [] u (RI fun a u' => Cl (qB ++ qN ++ qK ++ qJ ++ qP) u u' ∧ sqP (mI u (62 + 2 * x1.toNatClampNeg) 1) (sgT (mI u (62 + 2 * x1.toNatClampNeg) 1) (mI u (63 + 2 * x1.toNatClampNeg))) x1 a) := by
  refine sg_D_square_0 ⟨fun a => ?_, fun a => ⟨_, rfl, Cl.rf hC, .inl ⟨a, rfl⟩⟩⟩
  obtain ⟨et, ht⟩ := tO a
  have k0 := (tL ht).1
  have hs := hC.1 _ k0
  rw [(tL ht).2] at hs
  rw [et]
  refine ⟨fun b hp => ?_, fun b => ⟨_, rfl, (cq_dF Cq.rf (by decide)).cl hC, .inr ⟨a, .inl ⟨b, rfl⟩⟩⟩⟩
  refine kI (x_read (L := qB ++ qN ++ qK ++ qJ ++ qP) (qP_w hp (by decide)) (pl_ok hp) k0 hC hs) (fun a6 u6 h6 => ?_)
  obtain ⟨c6, m6, h6⟩ := h6
  have e63 : 62 + 2 * x1.toNatClampNeg + 1 = 63 + 2 * x1.toNatClampNeg := by omega
  rw [e63] at h6
  rcases h6 with ⟨e, p⟩ | ⟨d, l, e, p, g0, hm, hd⟩
  · refine ⟨fun z => absurd p (by rw [z]; decide), fun _ => ⟨_, rfl, c6, .inr ⟨a, .inr ⟨b, .inl ⟨e, rfl⟩⟩⟩⟩⟩
  · refine ⟨fun _ _ hp11 hp2 => ?_, fun z => absurd p z⟩
    have n4 : (2 : Nat) ≠ mR u 2 11 + 4 := by rcases hp with z | z <;> rw [z] <;> decide
    have e11 : mR u6 2 11 = mR u 2 11 := m6 _ _ n4
    have s0 : mR (pR (pR u6 2 10 (mR u6 2 11)) 2 11 (mR u6 2 10)) 2 10 = mR u 2 11 := by
      show up2 (up2 (mR u6) 2 10 (mR u6 2 11)) 2 11 (mR u6 2 10) 2 10 = _
      rw [up2, if_neg (by decide), up2, if_pos ⟨rfl, rfl⟩, e11]
    have t0 : Cl (qB ++ qN ++ qK ++ qJ ++ qP) u (pR (pR u6 2 10 (mR u6 2 11)) 2 11 (mR u6 2 10)) := c6.pR.pR
    have z0 : mI (pR (pR u6 2 10 (mR u6 2 11)) 2 11 (mR u6 2 10)) (mR u 2 11) 1 = Int32.ofNat l.length := hm.1
    generalize pR (pR u6 2 10 (mR u6 2 11)) 2 11 (mR u6 2 10) = w0 at s0 t0 z0 hp2
    have ko := pl_ok hp
    have key : ∀ x v, Cl (qB ++ qN ++ qK ++ qJ ++ qP) u v → mR v 2 10 = mR u 2 11 → mI v (mR u 2 11) 1 = Int32.ofNat l.length → Ws G D_square 91 [(0, .ref 2), (4, .int x)] [] v (RI fun a u' => Cl (qB ++ qN ++ qK ++ qJ ++ qP) u u' ∧ sqP (mI u (62 + 2 * x1.toNatClampNeg) 1) (sgT (mI u (62 + 2 * x1.toNatClampNeg) 1) (mI u (63 + 2 * x1.toNatClampNeg))) x1 a) := by
      refine upI 3 _ (fun x ih v h q1 q2 => ?_)
      refine sg_D_square_91 ⟨fun _ _ => ⟨_, rfl, h, .inr ⟨a, .inr ⟨b, .inr ⟨d, l, e, by rw [q1, q2]⟩⟩⟩⟩, fun c => ih c _ (h.pI (wr_5 (kpV_ok _)) (cm_5 (kpV_ok _) (kpV_m (by decide)))) q1 ?_⟩
      rw [mI_ne (fun z => by
        have k5 := kpV_ok x
        rw [← z] at k5
        have := k5.2.2
        rw [ko.2.2] at this
        exact absurd this (by decide))]
      exact q2
    rw [s0]
    refine kV (c_rank (L := qB ++ qN ++ qK ++ qJ ++ qP) (qP_w hp (by decide) _ (by omega) (by omega)) ko) (fun v2 h2 hp3 => ?_)
    have s2 : mR v2 2 10 = mR u 2 11 := by rw [h2.2.1]; exact s0
    have z2 : mI v2 (mR u 2 11) 1 = Int32.ofNat l.length := by rw [cq_plan h2 ko]; exact z0
    rw [s2]
    refine kV (c_snBegin (L := qB ++ qN ++ qK ++ qJ ++ qP) (by decide) (by decide) ko) (fun v3 h3 => ?_)
    refine key 0 _ (((t0.cq h2).cq h3).pI (wr_k (n := 14) (kd := 0) (by decide) (by decide) (by decide) (by decide)) (by decide)) (by show mR v3 2 10 = _; rw [h3.2.1]; exact s2) ?_
    rw [mI_ne (by rcases hp with z | z <;> rw [z] <;> decide), cq_plan h3 ko]
    exact z2
theorem sq_eq {n : Int32} {T : Int32 → Int32} {x1 a b : Int32} (h1 : sqP n T x1 a) (h2 : sqP n T x1 b) : a = b := by
  rcases h1 with ⟨p, e⟩ | ⟨p, h1⟩ <;> rcases h2 with ⟨q, f⟩ | ⟨q, h2⟩
  · rw [e, f]
  · exact absurd q p
  · exact absurd p q
  · rcases h1 with ⟨p, e⟩ | ⟨p, h1⟩ <;> rcases h2 with ⟨q, f⟩ | ⟨q, h2⟩
    · rw [e, f]
    · exact absurd q p
    · exact absurd p q
    · rcases h1 with ⟨p, e⟩ | ⟨d, l, p, e⟩ <;> rcases h2 with ⟨q, f⟩ | ⟨d', l', q, f⟩
      · rw [e, f]
      · rw [p] at q; cases q
      · rw [p] at q; cases q
      · rw [p] at q; cases q; rw [e, f]
end SQX
