/-! ===== square on both sides ===== -/
/-- the answer of square, by what stands in the text; F where it is refused, S where a square is read -/
def sqQ (n : Int32) (T : Int32 → Int32) (x1 a : Int32) (F : Prop) (S : Int32 → List Sh5 → Prop) : Prop := (¬ (0 ≤ x1 ∧ x1 < 4) ∧ a = -1 ∧ F) ∨ ((0 ≤ x1 ∧ x1 < 4) ∧ ((¬ 0 ≤ n ∧ a = -3 ∧ F) ∨ (0 ≤ n ∧ ((rdA T n = none ∧ a = -4 ∧ F) ∨ ∃ d l, rdA T n = some (d, l) ∧ a = Int32.ofNat l.length ∧ S d l))))
theorem Cl.mono {L L' : List Nat} {u v : pM} (h : Cl L u v) (hL : ∀ x ∈ L, x ∈ L') : Cl L' u v := ⟨h.1, h.2.1, h.2.2.1.mono hL, fun z => h.2.2.2 (fun y => z (hL _ y))⟩
theorem Cq.mono {L L' : List Nat} {u v : pM} (h : Cq L u v) (hL : ∀ x ∈ L, x ∈ L') : Cq L' u v := ⟨h.1, h.2.1, h.2.2.mono hL⟩
/-- the class's Plan is as it was -/
def sqF (u u' : pM) : Prop := (∀ k, mR u' 2 k = mR u 2 k) ∧ (mR u 2 10 ≠ mR u 2 11 → pl (mR u 2 10) → pl (mR u 2 11) → ∀ n k, mR u 2 10 ≤ n → n < mR u 2 10 + 14 → mI u' n k = mI u n k) ∧ ∀ n k, (n = 7 ∨ n = 8 ∨ (14 ≤ n ∧ n ≤ 17) ∨ 50 ≤ n) → n < 76 → mI u' n k = mI u n k
def sqE (u' : pM) (p : Nat) (l : List Sh5) : Prop := mI u' 14 0 = 0 ∧ mI u' 7 0 = 0 ∧ mI u' 7 1 = 0 ∧ (∀ s, s < l.length → mI u' 8 s = (shF u' p s).2.1) ∧ (∀ k, k < 3 → mI u' (70 + 2 * k) 0 = -1) ∧ OrdC u' p (shF u' p) l.length
def smE (u' : pM) (d : Int32) (l : List Sh5) : Prop := mI u' 76 28 = 0 ∧ mI u' 76 18 = 0 ∧ mI u' 76 19 = 0 ∧ (∀ s, s < l.length → mI u' 84 s = (shM u' s).2.1) ∧ (∀ k, k < 3 → mI u' 87 (10 * k) = -9) ∧ (∀ s ∈ l, shD d s) ∧ l.Pairwise (fun a b => a.2.1 ≠ b.2.1)
def sqT (w u' : pM) : Prop := mI u' 76 28 = 0 ∧ mI u' 76 18 = 0 ∧ mI u' 76 19 = 0 ∧ (∀ s, s < (mI w 76 16).toNatClampNeg → mI u' 84 s = mI w 83 (35 + 5 * s + 1)) ∧ ∀ k, k < 3 → mI u' 87 (10 * k) = -9
def sqT0 (w z : pM) : Prop := mI z 76 18 = 0 ∧ ∀ s, s < (mI w 76 16).toNatClampNeg → mI z 84 s = mI w 83 (35 + 5 * s + 1)
theorem sqk {f : Nat → Int32} (h : ∀ k : Int32, 0 ≤ k → k < 3 → f (10 * k : Int32).toNatClampNeg = -9) : ∀ k, k < 3 → f (10 * k) = -9 := fun k hk => by
  have e := (show ∀ k, k < 3 → 0 ≤ Int32.ofNat k ∧ Int32.ofNat k < 3 ∧ (10 * Int32.ofNat k : Int32).toNatClampNeg = 10 * k from by decide) k hk
  have r := h _ e.1 e.2.1
  rw [e.2.2] at r
  exact r
theorem on7 {n : Nat} (h : n ≤ 7) : (Int32.ofNat n).toNatClampNeg = n := (show ∀ n, n < 8 → (Int32.ofNat n).toNatClampNeg = n from by decide) n (by omega)
def sqS (u u' : pM) (d : Int32) (l : List Sh5) : Prop := mR u' 2 10 = mR u 2 11 ∧ mR u' 2 11 = mR u 2 10 ∧ mI u' (mR u 2 11) 0 = d ∧ PlL u' (mR u 2 11) l ∧ 10 ≤ d ∧ d ≤ 30 ∧ sqE u' (mR u 2 11) l
def smS (u' : pM) (d : Int32) (l : List Sh5) : Prop := mI u' 76 10 = d ∧ mI u' 76 11 = Int32.ofNat l.length ∧ l.length ≤ 7 ∧ (∀ s, s < l.length → l[s]? = some (mC u' (5 * s))) ∧ smE u' d l
theorem sqF.of {u u' : pM} {L : List Nat} (h : Fp L u u') (hr : ∀ k, mR u' 2 k = mR u 2 k) (hL : mR u 2 10 ≠ mR u 2 11 → pl (mR u 2 10) → pl (mR u 2 11) → ∀ n, mR u 2 10 ≤ n → n < mR u 2 10 + 14 → n ∉ L) (hL2 : ∀ n, n < 76 → (n = 7 ∨ n = 8 ∨ (14 ≤ n ∧ n ≤ 17) ∨ 50 ≤ n) → n ∉ L) : sqF u u' := ⟨hr, fun a b c n k h1 h2 => h.1 n k (by
  have : 22 ≤ n ∧ n < 50 := by rcases b with e | e <;> omega
  rw [cd_n ⟨by omega, by omega, by omega⟩]
  exact hL a b c n h1 h2), fun n k h1 h2 => h.1 n k (by
  rw [cd_n ⟨by omega, by omega, by omega⟩]
  exact hL2 n h2 h1)⟩
section SQX
variable {G : pG} {u : pM}
theorem sq_tail {v w : pM} (hM : InvM v) (hr : Rd0 v w) (hr2 : mRQ w = mRQ v) (d0 : 10 ≤ mI w 76 15) (d1 : mI w 76 15 ≤ 30) (m0 : 0 ≤ mI w 76 16) (m1 : mI w 76 16 ≤ 7) (sg : shG w) : Ws G m_square 43 [(0, .ref 76), (3, .int 0)] [] (pI (pI w 76 10 (mI w 76 15)) 76 11 (mI w 76 16)) (RI fun a u' => Mo (mB ++ mPl ++ mNw ++ mKp ++ mJn ++ mFd) v u' ∧ a = mI w 76 16 ∧ mI u' 76 10 = mI w 76 15 ∧ mI u' 76 11 = mI w 76 16 ∧ (∀ k, k < 35 → mI u' 83 k = mI w 83 (35 + k)) ∧ sqT w u' ∧ mRQ u' = mRQ v) := by
  have e10 : (10 : Int32).toNatClampNeg = 10 := by decide
  have k115 : ∀ x z, 0 ≤ x → x ≤ 3 → mRQ z = mRQ v → (∀ n k, n ≠ 76 → n ≠ 83 → n ≠ 84 → n ≠ 87 → mI z n k = mI v n k) → mI z 76 10 = mI w 76 15 → mI z 76 11 = mI w 76 16 → mI z 76 19 = 0 → mI z 76 28 = 0 → sqT0 w z → (∀ k, k < 35 → mI z 83 k = mI w 83 (35 + k)) → (∀ k, 0 ≤ mI z 84 k ∧ mI z 84 k < 30) → (∀ k : Int32, 0 ≤ k → k < x → mI z 87 (10 * k : Int32).toNatClampNeg = -9) → (∀ k s : Int32, 0 ≤ k → k ≤ 2 → 0 ≤ s → s < 7 → 0 ≤ mI z 87 (10 * k + 2 + s : Int32).toNatClampNeg ∧ mI z 87 (10 * k + 2 + s : Int32).toNatClampNeg < 30) → Ws G m_square 115 [(0, .ref 76), (3, .int x)] [] z (RI fun a u' => Mo (mB ++ mPl ++ mNw ++ mKp ++ mJn ++ mFd) v u' ∧ a = mI w 76 16 ∧ mI u' 76 10 = mI w 76 15 ∧ mI u' 76 11 = mI w 76 16 ∧ (∀ k, k < 35 → mI u' 83 k = mI w 83 (35 + k)) ∧ sqT w u' ∧ mRQ u' = mRQ v) := by
    refine upI 3 _ (fun x ih z h0 h3 zr f1 g1 g2 g3 g4 gT f3 f4 f5 f6 => ?_)
    refine sg_m_square_115 ⟨fun c => ⟨_, rfl, sq_fin hM ⟨d0, d1⟩ ⟨m0, m1⟩ sg f1 g1 g2 g3 g4 f3 f4 (fun k a b => f5 k a (by grind)) f6 zr, g2, g1, g2, f3, ⟨g4, gT.1, g3, gT.2, sqk (fun k a b => f5 k a (by grind))⟩, zr⟩, fun c => ⟨vin (by grind) (show (_ : Int32) < 30 by grind) (by decide), ?_⟩⟩
    refine ih c _ (by grind) (by grind) zr (fun n k a b e f => by rw [mI_ne f]; exact f1 n k a b e f) (by rw [mI_ne (by decide)]; exact g1) (by rw [mI_ne (by decide)]; exact g2) (by rw [mI_ne (by decide)]; exact g3) (by rw [mI_ne (by decide)]; exact g4) ⟨by rw [mI_ne (by decide)]; exact gT.1, fun s hs => by rw [mI_ne (by decide)]; exact gT.2 s hs⟩ (fun k hk => by rw [mI_ne (by decide)]; exact f3 k hk) (fun k => by rw [mI_ne (by decide)]; exact f4 k) (fun k a b => ?_) (fun k s a b e f => ?_)
    · by_cases e : k = x
      · rw [e, mI_eq]
      · rw [mI_nk (ix_ne (by grind) (by grind) (by grind))]; exact f5 k a (by grind)
    · rw [mI_nk (ix_ne (by grind) (by grind) (by grind))]; exact f6 k s a b e f
  have k72 : ∀ x z, 0 ≤ x → mRQ z = mRQ v → (∀ n k, n ≠ 76 → n ≠ 83 → n ≠ 84 → mI z n k = mI v n k) → mI z 76 10 = mI w 76 15 → mI z 76 11 = mI w 76 16 → (∀ k, k < 35 → mI z 83 k = mI w 83 (35 + k)) → (∀ k, 0 ≤ mI z 84 k ∧ mI z 84 k < 30) → (∀ s, s < x.toNatClampNeg → mI z 84 s = mI w 83 (35 + 5 * s + 1)) → Ws G m_square 72 [(0, .ref 76), (3, .int x)] [] z (RI fun a u' => Mo (mB ++ mPl ++ mNw ++ mKp ++ mJn ++ mFd) v u' ∧ a = mI w 76 16 ∧ mI u' 76 10 = mI w 76 15 ∧ mI u' 76 11 = mI w 76 16 ∧ (∀ k, k < 35 → mI u' 83 k = mI w 83 (35 + k)) ∧ sqT w u' ∧ mRQ u' = mRQ v) := by
    refine upI (mI w 76 16) _ (fun x ih z h0 zr f1 g1 g2 f3 f4 fD => ?_)
    refine sg_m_square_72 ⟨fun c => ?_, fun c => ?_⟩
    · refine k115 0 _ (by decide) (by decide) zr (fun n k a b e f => by rw [mI_ne a, mI_ne a, mI_ne a]; exact f1 n k a b e) ?_ ?_ ?_ ?_ ⟨by rw [mI_nk (by decide), mI_nk (by decide), mI_eq], fun s hs => by rw [mI_ne (by decide), mI_ne (by decide), mI_ne (by decide)]; exact fD s (by have := tn_le c; rw [g2] at this; omega)⟩ (fun k hk => by rw [mI_ne (by decide), mI_ne (by decide), mI_ne (by decide)]; exact f3 k hk) (fun k => by rw [mI_ne (by decide), mI_ne (by decide), mI_ne (by decide)]; exact f4 k) (fun k a b => absurd b (by grind)) (fun k s a b e f => ?_)
      · rw [mI_nk (by decide), mI_nk (by decide), mI_nk (by decide)]; exact g1
      · rw [mI_nk (by decide), mI_nk (by decide), mI_nk (by decide)]; exact g2
      · rw [mI_nk (by decide), mI_eq]
      · rw [mI_eq]
      · rw [mI_ne (by decide), mI_ne (by decide), mI_ne (by decide), f1 87 _ (by decide) (by decide) (by decide)]
        exact (hM.2.2.2.2.1 k a b).2 s e f
    · rw [g2] at c
      have x6 : x ≤ 6 := by grind
      have I := ix_5 h0 x6
      have J := ix_j h0 x6
      have g := (sg x h0 (Int32.not_le.mp c)).2
      rw [J.1, J.2.2] at g
      have e1 : 35 + (5 * x.toNatClampNeg + 1) = 35 + 5 * x.toNatClampNeg + 1 := by omega
      refine ⟨vin (by grind) (show (_ : Int32) < 70 by grind) (by decide), vin h0 (show (_ : Int32) < 7 by grind) (by decide), ih c _ (by grind) zr (fun n k a b e => by rw [mI_ne e]; exact f1 n k a b e) (by rw [mI_ne (by decide)]; exact g1) (by rw [mI_ne (by decide)]; exact g2) (fun k hk => by rw [mI_ne (by decide)]; exact f3 k hk) (fun k => ?_) (fun s hs => by
        rw [tn_succ h0 c] at hs
        by_cases e : s = x.toNatClampNeg
        · rw [e, mI_eq, I.2.1, f3 _ (by omega), e1]
        · rw [mI_nk e]; exact fD s (by omega))⟩
      by_cases e : k = x.toNatClampNeg
      · rw [e, mI_eq, I.2.1, f3 _ (by omega), e1]; exact g
      · rw [mI_nk e]; exact f4 k
  have k43 : ∀ x z, 0 ≤ x → mRQ z = mRQ v → (∀ n k, n ≠ 76 → n ≠ 83 → mI z n k = mI v n k) → mI z 76 10 = mI w 76 15 → mI z 76 11 = mI w 76 16 → (∀ k, 35 ≤ k → mI z 83 k = mI w 83 k) → (∀ k, k < x.toNatClampNeg → k < 35 → mI z 83 k = mI w 83 (35 + k)) → Ws G m_square 43 [(0, .ref 76), (3, .int x)] [] z (RI fun a u' => Mo (mB ++ mPl ++ mNw ++ mKp ++ mJn ++ mFd) v u' ∧ a = mI w 76 16 ∧ mI u' 76 10 = mI w 76 15 ∧ mI u' 76 11 = mI w 76 16 ∧ (∀ k, k < 35 → mI u' 83 k = mI w 83 (35 + k)) ∧ sqT w u' ∧ mRQ u' = mRQ v) := by
    refine upI 35 _ (fun x ih z h0 zr f1 g1 g2 f2 f3 => ?_)
    refine sg_m_square_43 ⟨fun c => k72 0 z (by decide) zr (fun n k a b _ => f1 n k a b) g1 g2 (fun k hk => f3 k (by have := tn_le c; have e : (35 : Int32).toNatClampNeg = 35 := (by decide); omega) hk) (fun k => by rw [f1 84 k (by decide) (by decide)]; exact hM.b84 k) (fun s hs => by have z0 : (0 : Int32).toNatClampNeg = 0 := (by decide); omega), fun c => ?_⟩
    have I := ix_35 h0 (Int32.not_le.mp c)
    refine ⟨vin (by grind) (show (_ : Int32) < 70 by grind) (by decide), vin h0 (show (_ : Int32) < 70 by grind) (by decide), ih c _ (by grind) zr (fun n k a b => by rw [mI_ne b]; exact f1 n k a b) (by rw [mI_ne (by decide)]; exact g1) (by rw [mI_ne (by decide)]; exact g2) (fun k hk => by rw [mI_nk (by omega)]; exact f2 k hk) (fun k hk k35 => ?_)⟩
    rw [tn_succ h0 c] at hk
    by_cases e : k = x.toNatClampNeg
    · rw [e, mI_eq, I.1, f2 _ (by omega)]
    · rw [mI_nk e]; exact f3 k (by omega) k35
  have z0 : (0 : Int32).toNatClampNeg = 0 := by decide
  exact k43 0 _ (by decide) hr2 (fun n k a b => by rw [mI_ne a, mI_ne a]; exact hr n k (by omega) (by omega)) (by rw [mI_nk (by decide), mI_eq]) (by rw [mI_eq]) (fun k _ => by rw [mI_ne (by decide), mI_ne (by decide)]) (fun k hk _ => by rw [z0] at hk; omega)
theorem e_squarex {x1 : Int32} (hM : InvM u) : Ws G m_square 0 [(0, .ref 76), (1, .int x1)] [] u (RI fun a u' => Mo (mB ++ mPl ++ mNw ++ mKp ++ mJn ++ mFd) u u' ∧ sqQ (mI u 81 x1.toNatClampNeg) (TM u x1) x1 a (Fp mB u u') (fun d l => smS u' d l ∧ mRQ u' = mRQ u)) := by
  refine sg_m_square_0 (sg_m_askedText_0 ⟨fun a => ?_, fun a => ⟨_, rfl, fun c => absurd c (by decide), fun _ => ⟨_, rfl, Mo.rf hM, .inl ⟨fun q => a ⟨q.1, by grind⟩, rfl, Fp.rf⟩⟩⟩⟩)
  have a4 : 0 ≤ x1 ∧ x1 < 4 := ⟨a.1, by grind⟩
  have v4 : vp_in x1 4 := vin a.1 (show (_ : Int32) < 4 by grind) (by decide)
  refine ⟨v4, fun b => ⟨_, rfl, fun _ => ?_, fun q => absurd (by decide) q⟩, fun b => ⟨_, rfl, fun q => absurd q (by decide), fun _ => ⟨_, rfl, Mq.rf.tm.mo hM, .inr ⟨a4, .inl ⟨b, rfl, (Mq.tm (L := mB) Mq.rf).fp⟩⟩⟩⟩⟩
  refine kI (y_goesOn a ⟨b, hM.b81 _⟩) (fun a3 w h => ?_)
  obtain ⟨hr, hr2, h⟩ := h
  rcases h with ⟨e, p⟩ | ⟨d, l, e, p, g15, hm, hd, ho⟩
  · refine ⟨fun z => absurd p (by rw [z]; decide), fun _ => ⟨_, rfl, (hr.mo hr2 hM).up, .inr ⟨a4, .inr ⟨b, .inl ⟨e, rfl, (hr.mo hr2 hM).fp⟩⟩⟩⟩⟩
  · have q := hm.sh hd.1 hd.2 ho
    refine ⟨fun _ => ?_, fun z => absurd p z⟩
    rw [mI_nk (show (16 : Nat) ≠ 10 by decide)]
    refine kI (sq_tail hM hr hr2 (by rw [g15]; exact hd.1) (by rw [g15]; exact hd.2) q.1 q.2.1 q.2.2) (fun a v h => ⟨h.1, .inr ⟨a4, .inr ⟨b, .inr ⟨d, l, e, ?_, ⟨h.2.2.1.trans g15, h.2.2.2.1.trans hm.1, hm.2.1, fun s hs => ?_, ?_⟩, h.2.2.2.2.2.2⟩⟩⟩⟩)
    · rw [h.2.1]; exact hm.1
    · have f := h.2.2.2.2.1
      have h7 := hm.2.1
      rw [hm.2.2 s hs]; unfold mC
      rw [f (5 * s) (by omega), f (5 * s + 1) (by omega), f (5 * s + 2) (by omega), f (5 * s + 3) (by omega), f (5 * s + 4) (by omega)]
      rw [show 35 + (5 * s + 1) = 35 + 5 * s + 1 by omega, show 35 + (5 * s + 2) = 35 + 5 * s + 2 by omega, show 35 + (5 * s + 3) = 35 + 5 * s + 3 by omega, show 35 + (5 * s + 4) = 35 + 5 * s + 4 by omega]
    · have f := h.2.2.2.2.1
      have T := h.2.2.2.2.2.1
      have h7 := hm.2.1
      refine ⟨T.1, T.2.1, T.2.2.1, fun s hs => ?_, T.2.2.2.2, (rdA_okx e).1, (rdA_okx e).2⟩
      rw [T.2.2.2.1 s (by rw [hm.1, on7 h7]; exact hs)]
      show _ = mI v 83 (5 * s + 1)
      rw [f (5 * s + 1) (by omega), show 35 + (5 * s + 1) = 35 + 5 * s + 1 by omega]
theorem e_fault {x1 : Int32} (hM : InvM u) : Ws G m_fault 0 [(0, .ref 76), (1, .int x1)] [] u (RI fun _ u' => Mo mB u u') := by
  refine sg_m_fault_0 (kI e_askedText (fun a v h => ⟨fun c => ?_, fun c => lfM hM h.1⟩))
  obtain ⟨rfl, r0, r5, s0⟩ := h.2 c
  exact kI (y_goesOn ⟨r0, r5⟩ ⟨s0, hM.b81 _⟩) (fun _ w h => ⟨_, rfl, h.1.mo h.2.1 hM⟩)
theorem d_squarex {x1 : Int32} (hC : InvC u) : Ws G D_square 0 [(0, .ref 2), (1, .int x1)] [] u (RI fun a u' => Cl (qB ++ qN ++ qK ++ qJ ++ qP ++ qZ) u u' ∧ sqQ (mI u (62 + 2 * x1.toNatClampNeg) 1) (sgT (mI u (62 + 2 * x1.toNatClampNeg) 1) (mI u (63 + 2 * x1.toNatClampNeg))) x1 a (sqF u u') (sqS u u')) := by
  refine sg_D_square_0 ⟨fun a => ?_, fun a => ⟨_, rfl, Cl.rf hC, .inl ⟨a, rfl, fun _ => rfl, fun _ _ _ _ _ _ _ => rfl, fun _ _ _ _ => rfl⟩⟩⟩
  obtain ⟨et, ht⟩ := tO a
  have k0 := (tL ht).1
  have hs := hC.1 _ k0
  rw [(tL ht).2] at hs
  rw [et]
  refine ⟨fun b hp => ?_, fun b => ⟨_, rfl, (cq_dF Cq.rf (by decide)).cl hC, .inr ⟨a, .inl ⟨b, rfl, ?_⟩⟩⟩⟩
  rotate_left
  · have z := (cq_dF (L := qB) (f := 1) (Cq.rf (u := u)) (by decide))
    refine sqF.of z.2.2 (fun k => by rw [z.2.1]) (fun _ h10 _ n h1 h2 => ?_) (by decide)
    have : 22 ≤ n ∧ n < 50 := by rcases h10 with e | e <;> omega
    exact (show ∀ n, n < 50 → 22 ≤ n → n ∉ qB from by decide) n this.2 this.1
  refine kI (x_read (L := qPl (mR u 2 11)) (qPl_w (fun n h => h)) (pl_ok hp) k0 hC hs) (fun a6 u6 h6 => ?_)
  obtain ⟨c6s, m6, h6⟩ := h6
  have c6 : Cl (qB ++ qN ++ qK ++ qJ ++ qP ++ qZ) u u6 := c6s.mono (by rcases hp with z | z <;> rw [z] <;> decide)
  have e63 : 62 + 2 * x1.toNatClampNeg + 1 = 63 + 2 * x1.toNatClampNeg := by omega
  rw [e63] at h6
  have n4 : (2 : Nat) ≠ mR u 2 11 + 4 := by rcases hp with z | z <;> rw [z] <;> decide
  rcases h6 with ⟨e, p⟩ | ⟨d, l, e, p, g0, hm, hd⟩
  · refine ⟨fun z => absurd p (by rw [z]; decide), fun _ => ⟨_, rfl, c6, .inr ⟨a, .inr ⟨b, .inl ⟨e, rfl, ?_⟩⟩⟩⟩⟩
    refine sqF.of c6s.fp (fun k => m6 _ _ n4) (fun hne h10 h11 n h1 h2 => ?_) (by rcases hp with z | z <;> rw [z] <;> decide)
    rcases h10 with e | e <;> rcases h11 with f | f
    · exact absurd (e.trans f.symm) hne
    · rw [f]; rw [e] at h1 h2; exact (show ∀ n, n < 22 + 14 → 22 ≤ n → n ∉ qPl 36 from by decide) n h2 h1
    · rw [f]; rw [e] at h1 h2; exact (show ∀ n, n < 36 + 14 → 36 ≤ n → n ∉ qPl 22 from by decide) n h2 h1
    · exact absurd (e.trans f.symm) hne
  · refine ⟨fun _ _ hp11 hp2 => ?_, fun z => absurd p z⟩
    have e11 : mR u6 2 11 = mR u 2 11 := m6 _ _ n4
    have e10 : mR u6 2 10 = mR u 2 10 := m6 _ _ n4
    have s0 : mR (pR (pR u6 2 10 (mR u6 2 11)) 2 11 (mR u6 2 10)) 2 10 = mR u 2 11 := by
      show up2 (up2 (mR u6) 2 10 (mR u6 2 11)) 2 11 (mR u6 2 10) 2 10 = _
      rw [up2, if_neg (by decide), up2, if_pos ⟨rfl, rfl⟩, e11]
    have s1 : mR (pR (pR u6 2 10 (mR u6 2 11)) 2 11 (mR u6 2 10)) 2 11 = mR u 2 10 := by
      show up2 (up2 (mR u6) 2 10 (mR u6 2 11)) 2 11 (mR u6 2 10) 2 11 = _
      rw [up2, if_pos ⟨rfl, rfl⟩, e10]
    have t0 : Cl (qB ++ qN ++ qK ++ qJ ++ qP ++ qZ) u (pR (pR u6 2 10 (mR u6 2 11)) 2 11 (mR u6 2 10)) := (c6.pR (.inr (by decide))).pR (.inr (by decide))
    have z0 : mI (pR (pR u6 2 10 (mR u6 2 11)) 2 11 (mR u6 2 10)) (mR u 2 11) 0 = d := g0
    have y0 : PlL (pR (pR u6 2 10 (mR u6 2 11)) 2 11 (mR u6 2 10)) (mR u 2 11) l := hm
    generalize pR (pR u6 2 10 (mR u6 2 11)) 2 11 (mR u6 2 10) = w0 at s0 s1 t0 z0 y0 hp2
    have ko := pl_ok hp
    -- what is written beside leaves the Plan's numbers and shops
    have kp : ∀ {L : List Nat} {v w : pM}, Fp L v w → mR u 2 11 ∉ L → (∀ i, i < 7 → R0 (mR u 2 11 + 1) i ∉ L) → mI v (mR u 2 11) 0 = d → PlL v (mR u 2 11) l → mI w (mR u 2 11) 0 = d ∧ PlL w (mR u 2 11) l := by
      intro L v w hf h1 h2 g hl
      have c1 : ∀ k, mI w (mR u 2 11) k = mI v (mR u 2 11) k := fun k => hf.1 _ _ (by rw [cd_k ko (by decide) (by have := lt_2 ko; omega)]; exact h1)
      refine ⟨by rw [c1]; exact g, by rw [c1]; exact hl.1, hl.2.1, fun i hi => ?_⟩
      have i7 : i < 7 := by have := hl.2.1; omega
      have kq : okS (R0 (mR u 2 11 + 1) i) 4 := (ra_ok (os_2_2 ko) (by decide) (by rw [ol_2_2 ko]; exact i7)).2
      have c2 : ∀ k, mI w (R0 (mR u 2 11 + 1) i) k = mI v (R0 (mR u 2 11 + 1) i) k := fun k => hf.1 _ _ (by rw [cd_k kq (by decide) (by have := lt_4 kq; omega)]; exact h2 i i7)
      rw [hl.2.2 i hi]; unfold shC
      rw [c2, c2, c2, c2, c2]
    have RR : ∀ i, i < 7 → R0 (mR u 2 11 + 1) i = mR u 2 11 + 7 + i := fun i hi => (show ∀ o, o < 95 → (S0 o).1 = 2 → ∀ i, i < 7 → R0 (o + 1) i = o + 7 + i from by decide +kernel) _ ko.2.1 ko.2.2 i hi
    have far : mR u 2 11 = 22 ∨ mR u 2 11 = 36 := hp
    have key : ∀ x v, Cl (qB ++ qN ++ qK ++ qJ ++ qP ++ qZ) u v → mR v 2 10 = mR u 2 11 → mR v 2 11 = mR u 2 10 → mI v (mR u 2 11) 0 = d → PlL v (mR u 2 11) l → 0 ≤ x → mI v 14 0 = 0 → mI v 7 0 = 0 → mI v 7 1 = 0 → (∀ s, s < l.length → mI v 8 s = (shF v (mR u 2 11) s).2.1) → (∀ k, k < 3 → k < x.toNatClampNeg → mI v (70 + 2 * k) 0 = -1) → OrdC v (mR u 2 11) (shF v (mR u 2 11)) l.length → Ws G D_square 91 [(0, .ref 2), (4, .int x)] [] v (RI fun a u' => Cl (qB ++ qN ++ qK ++ qJ ++ qP ++ qZ) u u' ∧ sqQ (mI u (62 + 2 * x1.toNatClampNeg) 1) (sgT (mI u (62 + 2 * x1.toNatClampNeg) 1) (mI u (63 + 2 * x1.toNatClampNeg))) x1 a (sqF u u') (sqS u u')) := by
      refine upI 3 _ (fun x ih v h q1 q1b q2 q3 x0 w1 w2 w3 w4 w5 w6 => ?_)
      refine sg_D_square_91 ⟨fun c3 _ => ⟨_, rfl, h, .inr ⟨a, .inr ⟨b, .inr ⟨d, l, e, by rw [q1]; exact q3.1, q1, q1b, q2, q3, hd.1, hd.2, w1, w2, w3, w4, fun k hk => w5 k hk (by have := tn_le c3; have e : (3 : Int32).toNatClampNeg = 3 := (by decide); omega), w6⟩⟩⟩⟩, fun c => ?_⟩
      have m5 := kpV_m (L := [10, 11, 70, 71, 72, 73, 74, 75]) (r := x) (fun n h => h)
      have fp : Fp [10, 11, 70, 71, 72, 73, 74, 75] v (pI v (kpV x) 0 (-1)) := Fp.rf.pI (cm_5 (kpV_ok _) m5)
      have q := kp fp (by rcases far with z | z <;> rw [z] <;> decide) (fun i hi => by rw [RR i hi]; rcases far with z | z <;> rw [z] <;> revert i <;> decide) q2 q3
      have x3 := Int32.not_le.mp c
      have xN : x.toNatClampNeg < 3 := by have := tn_lt x0 x3; have e : (3 : Int32).toNatClampNeg = 3 := (by decide); omega
      have ek : kpV x = 70 + 2 * x.toNatClampNeg := by
        unfold kpV
        rw [if_pos ⟨x0, x3⟩]
        exact (show ∀ t, t < 3 → R0 9 t = 70 + 2 * t from by decide +kernel) _ xN
      have lo : ∀ n k, n < 70 → mI (pI v (kpV x) 0 (-1)) n k = mI v n k := fun n k hn => mI_ne (by rw [ek]; omega)
      have p3 : mR u 2 11 + 3 < 70 := by rcases far with z | z <;> rw [z] <;> decide
      have eF : ∀ s, s < 7 → shF (pI v (kpV x) 0 (-1)) (mR u 2 11) s = shF v (mR u 2 11) s := fun s hs => by
        have r : R0 (mR u 2 11 + 1) s < 70 := by rw [RR s hs]; rcases far with z | z <;> omega
        unfold shF shC
        rw [lo _ _ r, lo _ _ r, lo _ _ r, lo _ _ r, lo _ _ r]
      refine ih c _ (h.pI (wr_5 (kpV_ok _)) (cm_5 (kpV_ok _) (kpV_m (by decide)))) q1 q1b q.1 q.2 (by grind) (by rw [lo _ _ (by decide)]; exact w1) (by rw [lo _ _ (by decide)]; exact w2) (by rw [lo _ _ (by decide)]; exact w3) (fun s hs => by rw [lo _ _ (by decide), eF s (by have := q3.2.1; omega)]; exact w4 s hs) (fun k hk hx => ?_) ?_
      · rw [tn_succ x0 c] at hx
        by_cases e : k = x.toNatClampNeg
        · rw [e, ek, mI_eq]
        · rw [ek, mI_ne (by omega)]; exact w5 k hk (by omega)
      · exact (w6.cg (fun i _ => lo _ _ p3)).sh (fun s hs => eF s (by have := q3.2.1; omega))
    rw [s0]
    have l7 := y0.2.1
    have sz : (mI w0 (mR u 2 11) 1).toNatClampNeg = l.length := by rw [y0.1, on7 l7]
    have hm7 : 0 ≤ mI w0 (mR u 2 11) 1 ∧ mI w0 (mR u 2 11) 1 ≤ 7 := by
      rw [y0.1]
      exact (show ∀ n, n < 8 → 0 ≤ Int32.ofNat n ∧ Int32.ofNat n ≤ 7 from by decide) _ (by omega)
    have ag : agK (shF w0 (mR u 2 11)) (mI w0 (mR u 2 11) 1).toNatClampNeg := fun s hs => by
      rw [sz] at hs
      have r := (rdA_okx e).1 _ (List.mem_of_getElem? (y0.2.2 s hs))
      have q := r.1.2.2.2.2
      exact ⟨Int32.le_trans (by decide) q.1, q.2⟩
    refine kV (c_rankx (L := [mR u 2 11 + 3]) (by simp) ko hm7 ag) (fun v2 h2r hp3 => ?_)
    obtain ⟨h2, f2, o2⟩ := h2r
    rw [sz] at o2
    have b2 : Cq (qB ++ qN ++ qK ++ qJ ++ qP ++ qZ) w0 v2 := h2.mono (fun x hx => by rw [List.mem_singleton.mp hx]; rcases far with z | z <;> rw [z] <;> decide)
    have s2 : mR v2 2 10 = mR u 2 11 := by rw [h2.2.1]; exact s0
    have s2b : mR v2 2 11 = mR u 2 10 := by rw [h2.2.1]; exact s1
    have q2 := kp h2.2.2 (by simp) (fun i hi => by rw [RR i hi]; simp; omega) z0 y0
    rw [s2]
    have eF2 : ∀ s, s < 7 → shF v2 (mR u 2 11) s = shF w0 (mR u 2 11) s := fun s hs => by
      have r : R0 (mR u 2 11 + 1) s ≠ mR u 2 11 + 3 := by rw [RR s hs]; omega
      unfold shF shC
      rw [f2 _ _ r, f2 _ _ r, f2 _ _ r, f2 _ _ r, f2 _ _ r]
    refine kV (c_snBeginx (L := [7, 8]) (by decide) (by decide) ko ⟨by rw [q2.2.1]; exact (show ∀ n, n < 8 → 0 ≤ Int32.ofNat n from by decide) _ (by omega), by rw [q2.2.1]; exact (show ∀ n, n < 8 → Int32.ofNat n ≤ 7 from by decide) _ (by omega)⟩) (fun v3 h3r => ?_)
    obtain ⟨h3, f3, b30, b31, b3d⟩ := h3r
    rw [q2.2.1, on7 l7] at b3d
    have p3 : ¬ (mR u 2 11 + 3 = 7) ∧ ¬ (mR u 2 11 + 3 = 8) := by rcases far with z | z <;> rw [z] <;> decide
    have eF3 : ∀ s, s < 7 → shF v3 (mR u 2 11) s = shF v2 (mR u 2 11) s := fun s hs => by
      have r : R0 (mR u 2 11 + 1) s ≠ 7 ∧ R0 (mR u 2 11 + 1) s ≠ 8 := by rw [RR s hs]; rcases far with z | z <;> omega
      unfold shF shC
      rw [f3 _ _ r.1 r.2, f3 _ _ r.1 r.2, f3 _ _ r.1 r.2, f3 _ _ r.1 r.2, f3 _ _ r.1 r.2]
    have eF4 : ∀ s, s < 7 → shF (pI v3 14 0 0) (mR u 2 11) s = shF v3 (mR u 2 11) s := fun s hs => by
      have r : R0 (mR u 2 11 + 1) s ≠ 14 := by rw [RR s hs]; rcases far with z | z <;> omega
      unfold shF shC
      rw [mI_ne r, mI_ne r, mI_ne r, mI_ne r, mI_ne r]
    have b3 : Cq (qB ++ qN ++ qK ++ qJ ++ qP ++ qZ) v2 v3 := h3.mono (by decide)
    have q3 := kp h3.2.2 (by rcases far with z | z <;> rw [z] <;> decide) (fun i hi => by rw [RR i hi]; rcases far with z | z <;> rw [z] <;> revert i <;> decide) q2.1 q2.2
    have f4 : Fp [14] v3 (pI v3 14 0 0) := Fp.rf.pI (by decide)
    have q4 := kp f4 (by rcases far with z | z <;> rw [z] <;> decide) (fun i hi => by rw [RR i hi]; rcases far with z | z <;> rw [z] <;> revert i <;> decide) q3.1 q3.2
    exact key 0 _ (((t0.cq b2).cq b3).pI (wr_k (n := 14) (kd := 0) (by decide) (by decide) (by decide) (by decide)) (by decide)) (by show mR v3 2 10 = _; rw [h3.2.1]; exact s2) (by show mR v3 2 11 = _; rw [h3.2.1]; exact s2b) q4.1 q4.2 (by decide) mI_eq (by rw [mI_ne (by decide)]; exact b30) (by rw [mI_ne (by decide)]; exact b31) (fun s hs => by rw [mI_ne (by decide), eF4 s (by omega), eF3 s (by omega)]; exact b3d s hs) (fun k _ hx => absurd hx (by have z0 : (0 : Int32).toNatClampNeg = 0 := (by decide); omega)) (((o2.cg (fun i _ => by rw [mI_ne (by rcases far with z | z <;> omega)]; exact f3 _ _ p3.1 p3.2)).sh (fun s hs => by rw [eF4 s (by omega), eF3 s (by omega), eF2 s (by omega)])))
theorem sq_eq {n : Int32} {T : Int32 → Int32} {x1 a b : Int32} {F F' : Prop} {S S' : Int32 → List Sh5 → Prop} (h1 : sqQ n T x1 a F S) (h2 : sqQ n T x1 b F' S') : a = b ∧ ((F ∧ F') ∨ ∃ d l, S d l ∧ S' d l) := by
  rcases h1 with ⟨p, e, y⟩ | ⟨p, h1⟩ <;> rcases h2 with ⟨q, f, z⟩ | ⟨q, h2⟩
  · exact ⟨by rw [e, f], .inl ⟨y, z⟩⟩
  · exact absurd q p
  · exact absurd p q
  · rcases h1 with ⟨p, e, y⟩ | ⟨p, h1⟩ <;> rcases h2 with ⟨q, f, z⟩ | ⟨q, h2⟩
    · exact ⟨by rw [e, f], .inl ⟨y, z⟩⟩
    · exact absurd q p
    · exact absurd p q
    · rcases h1 with ⟨p, e, y⟩ | ⟨d, l, p, e, y⟩ <;> rcases h2 with ⟨q, f, z⟩ | ⟨d', l', q, f, z⟩
      · exact ⟨by rw [e, f], .inl ⟨y, z⟩⟩
      · rw [p] at q; cases q
      · rw [p] at q; cases q
      · rw [p] at q; cases q; exact ⟨by rw [e, f], .inr ⟨d, l, y, z⟩⟩
end SQX
