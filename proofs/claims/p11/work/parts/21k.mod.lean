/-! ===== a shop is read ===== -/
def bB (u : pM) : Nat := (35 + 5 * mI u 76 16 : Int32).toNatClampNeg
def QB (t : Int32) (u w : pM) : Prop := PR t w ∧ (∀ n k, ¬ (n = 76 ∧ (k = 13 ∨ k = 14)) → ¬ (n = 83 ∧ bB u ≤ k ∧ k < bB u + 5) → mI w n k = mI u n k) ∧ mI u 76 13 < mI w 76 13
def QK (t : Int32) (u : pM) (K : Int32) (w : pM) : Prop := QB t u w ∧ mI w 83 (bB u) = K
theorem QB.r1 {t : Int32} {u w w' : pM} (h : QB t u w) (r : R1 t w w') : QB t u w' := ⟨h.1.r1 r, fun n k a b => (r.1 n k a).trans (h.2.1 n k a b), by have := h.2.2; have := r.2.1; grind⟩
theorem QB.wr {t : Int32} {u w : pM} {i j : Nat} {v : Int32} (h : QB t u w) (hi : i = bB u + j) (hj : j < 5) : QB t u (pI w 83 i v) := by
  refine ⟨?_, fun n k a b => ?_, ?_⟩
  · have p := h.1
    unfold PR at *
    rw [mI_ne (by decide), mI_ne (by decide)]
    exact p
  · show up2 (mI w) 83 i v n k = _
    rw [up2, if_neg (by omega)]
    exact h.2.1 n k a b
  · rw [mI_ne (by decide)]; exact h.2.2
theorem QK.r1 {t K : Int32} {u w w' : pM} (h : QK t u K w) (r : R1 t w w') : QK t u K w' := ⟨h.1.r1 r, (r.1 _ _ (by omega)).trans h.2⟩
theorem QK.wr {t K : Int32} {u w : pM} {i j : Nat} {v : Int32} (h : QK t u K w) (hi : i = bB u + j) (hj : j < 5) (h0 : j ≠ 0) : QK t u K (pI w 83 i v) := ⟨h.1.wr hi hj, by rw [mI_nk (by omega)]; exact h.2⟩
def shS (t : Int32) (u : pM) (a : Int32) (w : pM) : Prop := (∀ n k, ¬ (n = 76 ∧ (k = 13 ∨ k = 14 ∨ k = 16)) → ¬ (n = 83 ∧ bB u ≤ k ∧ k < bB u + 5) → mI w n k = mI u n k) ∧ PR t w ∧ (a = 0 → mI w 76 16 = mI u 76 16) ∧ (¬ a = 0 → mI u 76 13 < mI w 76 13 ∧ mI w 76 16 = mI u 76 16 + 1 ∧ (3 ≤ mI w 83 (bB u) → ¬ mI w 83 (bB u + 4) = 0) ∧ 0 ≤ mI w 83 (bB u + 1) ∧ mI w 83 (bB u + 1) < 30 ∧ mI u 76 16 ≤ 6)
theorem l0 {t : Int32} {u w : pM} (h : QB t u w) : (RI (shS t u)) (some (.int 0)) w := ⟨0, rfl, fun n k a b => h.2.1 n k (by omega) b, h.1, fun _ => h.2.1 _ _ (by omega) (by omega), fun z => absurd rfl z⟩
section MOD
variable {G : pG} {u w : pM}
theorem f_readsShop {x1 : Int32} (hp : PR x1 u) (hm : 0 ≤ mI u 76 16 ∧ mI u 76 16 ≤ 7) (hD : 10 ≤ mI u 76 15 ∧ mI u 76 15 ≤ 30) : Ws G m_readsShop 0 [(0, .ref 76), (1, .int x1)] [] u (RI (shS x1 u)) := by
  have l00 : (RI (shS x1 u)) (some (.int 0)) u := ⟨0, rfl, fun _ _ _ _ => rfl, hp, fun _ => rfl, fun z => absurd rfl z⟩
  refine sg_m_readsShop_0 ⟨hp.v4, hp.v400, fun _ => l00, fun hk => ⟨fun h7 => ?_, fun _ => l00⟩⟩
  have hh := here_in (v := u) (t := x1) (fun z => hk (by rw [z]; decide))
  have m6 : mI u 76 16 ≤ 6 := by grind
  have ixs : ∀ i, i < 7 → ∀ j, j < 5 → (35 + 5 * Int32.ofNat i + Int32.ofNat j).toNatClampNeg = (35 + 5 * Int32.ofNat i).toNatClampNeg + j := by decide
  have m6n : (mI u 76 16).toNatClampNeg < 7 := by
    have := tn_le m6
    have e : (6 : Int32).toNatClampNeg = 6 := by decide
    omega
  have jx : ∀ (j : Nat) (v : pM), mI v 76 16 = mI u 76 16 → j < 5 → ((35 + (5 * (mI v 76 16))) + Int32.ofNat j : Int32).toNatClampNeg = bB u + j := fun j v e hj => by
    have := ixs _ m6n j hj
    rw [i32_nat hm.1] at this
    rw [e, this]; rfl
  have vj : ∀ (j : Nat), j < 5 → ∀ v : pM, mI v 76 16 = mI u 76 16 → vp_in ((35 + (5 * (mI v 76 16))) + Int32.ofNat j) 70 := fun j hj v e => by
    have a : ∀ j, j < 5 → (0 : Int32) ≤ Int32.ofNat j ∧ Int32.ofNat j < 5 := by decide
    have := a j hj
    rw [e]
    exact vin (by grind) (show (_ : Int32) < 70 by grind) (by decide)
  have q1 : QB x1 u (pI u 76 13 ((mI u 76 13) + 1)) := by
    obtain ⟨a, b, c, d, e⟩ := id hp
    refine ⟨⟨a, b, ?_, ?_, ?_⟩, fun n k z y => ?_, ?_⟩
    · rw [mI_eq]; grind
    · rw [mI_eq, mI_ne (by decide)]; grind
    · rw [mI_ne (by decide)]; exact e
    · show up2 (mI u) 76 13 _ n k = _
      rw [up2, if_neg (by omega)]
    · rw [mI_eq]; grind
  refine kI (f_readsNumber q1.1) (fun a5 u5 h5 => ⟨fun _ => l0 (q1.r1 h5.1), fun c5 => ?_⟩)
  have q5 := q1.r1 h5.1
  have e5 : mI u5 76 16 = mI u 76 16 := q5.2.1 _ _ (by omega) (by omega)
  refine kIe (f_isTold (by rw [e5]; exact hm)) (fun a7 => ⟨fun _ => ?_, fun _ => l0 q5⟩)
  have dr : 0 ≤ mI u5 76 14 ∧ mI u5 76 14 < 30 := by
    have p := (h5.2 c5).2
    rw [mI_nk (show (15 : Nat) ≠ 13 by decide)] at p
    grind
  have j1 : ((35 + (5 * (mI u5 76 16))) + 1 : Int32).toNatClampNeg = bB u + 1 := jx 1 u5 e5 (by decide)
  have j2 : ((35 + (5 * (mI u5 76 16))) + 2 : Int32).toNatClampNeg = bB u + 2 := jx 2 u5 e5 (by decide)
  have j3 : ((35 + (5 * (mI u5 76 16))) + 3 : Int32).toNatClampNeg = bB u + 3 := jx 3 u5 e5 (by decide)
  have j4 : ((35 + (5 * (mI u5 76 16))) + 4 : Int32).toNatClampNeg = bB u + 4 := jx 4 u5 e5 (by decide)
  have v0 : vp_in (35 + (5 * (mI u5 76 16))) 70 := by rw [e5]; exact vin (by grind) (show (_ : Int32) < 70 by grind) (by decide)
  have v1 : vp_in ((35 + (5 * (mI u5 76 16))) + 1) 70 := vj 1 (by decide) u5 e5
  have v2 : vp_in ((35 + (5 * (mI u5 76 16))) + 2) 70 := vj 2 (by decide) u5 e5
  have v3 : vp_in ((35 + (5 * (mI u5 76 16))) + 3) 70 := vj 3 (by decide) u5 e5
  have v4 : vp_in ((35 + (5 * (mI u5 76 16))) + 4) 70 := vj 4 (by decide) u5 e5
  have q7 : QK x1 u (kindV (hereV u x1)) (pI u5 83 (35 + (5 * (mI u5 76 16)) : Int32).toNatClampNeg (kindV (hereV u x1))) := ⟨q5.wr (j := 0) (by rw [e5]; rfl) (by decide), by rw [e5]; exact mI_eq⟩
  have fin1 : ∀ w, QK x1 u (kindV (hereV u x1)) w → (kindV (hereV u x1) < 3 ∨ ¬ mI w 83 (bB u + 4) = 0) → (RI (shS x1 u)) (some (.int 1)) (pI (pI w 83 ((35 + (5 * (mI u5 76 16))) + 1 : Int32).toNatClampNeg (mI (pI u5 83 (35 + (5 * (mI u5 76 16)) : Int32).toNatClampNeg (kindV (hereV u x1))) 76 14)) 76 16 ((mI (pI w 83 ((35 + (5 * (mI u5 76 16))) + 1 : Int32).toNatClampNeg (mI (pI u5 83 (35 + (5 * (mI u5 76 16)) : Int32).toNatClampNeg (kindV (hereV u x1))) 76 14)) 76 16) + 1)) := by
    intro w hQ hk4
    have hW := hQ.wr (v := mI u5 76 14) j1 (by decide) (by decide)
    have w16 := hW.1.2.1 76 16 (by omega) (by omega)
    rw [mI_ne (show (76 : Nat) ≠ 83 by decide)]
    refine ⟨1, rfl, fun n k z y => ?_, ?_, fun z => absurd z (by decide), fun _ => ⟨?_, ?_, fun z => ?_, ?_⟩⟩
    · show up2 _ 76 16 _ n k = _
      rw [up2, if_neg (by omega)]
      exact hW.1.2.1 n k (by omega) y
    · have p := hW.1.1
      unfold PR at *
      rw [mI_nk (by decide), mI_ne (by decide)]
      exact p
    · rw [mI_nk (by decide)]; exact hW.1.2.2
    · rw [mI_eq, w16]
    · rw [mI_ne (by decide)] at z ⊢
      rw [hW.2] at z
      rcases hk4 with g | g
      · grind
      · rw [j1, mI_nk (by omega)]; exact g
    · rw [mI_ne (by decide), j1, mI_eq]; exact ⟨dr.1, dr.2, m6⟩
  refine ⟨v0, kI (f_sees q7.1.1 (by decide)) (fun a10 u10 h10 => ⟨fun _ => ?_, fun _ => l0 (q7.r1 h10.1).1⟩)⟩
  have Q10 := q7.r1 h10.1
  refine ⟨Q10.1.1.v4, Q10.1.1.v400, fun _ => ?_, fun _ => ?_⟩
  · exact kI (f_sees Q10.1.1 (by decide)) (fun a15 u15 h15 => ⟨fun _ => (kI (f_readsFigure (Q10.r1 h15.1).1.1 (by decide)) (fun a17 u17 h17 => by
    have Q := (Q10.r1 h15.1).r1 h17.1
    exact ⟨fun _ => ⟨v2, kI (f_sees (QK.wr Q j2 (by decide) (by decide)).1.1 (by decide)) (fun a21 u21 h21 => by
      have R := (QK.wr Q j2 (by decide) (by decide)).r1 h21.1
      exact ⟨fun _ => l0 R.1, fun _ => kI (f_readsNumber R.1.1) (fun a23 u23 h23 => by
        have S := R.r1 h23.1
        refine ⟨fun _ => ⟨v3, v4, fun kk => ⟨v1, fin1 _ ((S.wr j3 (by decide) (by decide)).wr j4 (by decide) (by decide)) (.inl kk)⟩, fun kk => kI (f_sees ((S.wr j3 (by decide) (by decide)).wr j4 (by decide) (by decide)).1.1 (by decide)) (fun a29 u29 h29 => ?_)⟩, fun _ => l0 S.1⟩
        have T := ((S.wr j3 (by decide) (by decide)).wr j4 (by decide) (by decide)).r1 h29.1
        exact ⟨fun _ => l0 T.1, fun _ => kI (f_readsFigure T.1.1 (by decide)) (fun a31 u31 h31 => ⟨fun c31 => ⟨v4, v1, fin1 _ ((T.r1 h31.1).wr j4 (by decide) (by decide)) (.inr (by rw [← j4, mI_eq]; have := (h31.2 c31).2.1; grind))⟩, fun _ => l0 (T.r1 h31.1).1⟩)⟩)⟩)⟩, fun _ => l0 Q.1⟩)), fun _ => kI (f_sees (Q10.r1 h15.1).1.1 (by decide)) (fun a35 u35 h35 => ⟨fun _ => (kI (f_readsFigure ((Q10.r1 h15.1).r1 h35.1).1.1 (by decide)) (fun a17 u17 h17 => by
    have Q := ((Q10.r1 h15.1).r1 h35.1).r1 h17.1
    exact ⟨fun _ => ⟨v2, kI (f_sees (QK.wr Q j2 (by decide) (by decide)).1.1 (by decide)) (fun a21 u21 h21 => by
      have R := (QK.wr Q j2 (by decide) (by decide)).r1 h21.1
      exact ⟨fun _ => l0 R.1, fun _ => kI (f_readsNumber R.1.1) (fun a23 u23 h23 => by
        have S := R.r1 h23.1
        refine ⟨fun _ => ⟨v3, v4, fun kk => ⟨v1, fin1 _ ((S.wr j3 (by decide) (by decide)).wr j4 (by decide) (by decide)) (.inl kk)⟩, fun kk => kI (f_sees ((S.wr j3 (by decide) (by decide)).wr j4 (by decide) (by decide)).1.1 (by decide)) (fun a29 u29 h29 => ?_)⟩, fun _ => l0 S.1⟩
        have T := ((S.wr j3 (by decide) (by decide)).wr j4 (by decide) (by decide)).r1 h29.1
        exact ⟨fun _ => l0 T.1, fun _ => kI (f_readsFigure T.1.1 (by decide)) (fun a31 u31 h31 => ⟨fun c31 => ⟨v4, v1, fin1 _ ((T.r1 h31.1).wr j4 (by decide) (by decide)) (.inr (by rw [← j4, mI_eq]; have := (h31.2 c31).2.1; grind))⟩, fun _ => l0 (T.r1 h31.1).1⟩)⟩)⟩)⟩, fun _ => l0 Q.1⟩)), fun _ => l0 ((Q10.r1 h15.1).r1 h35.1).1⟩)⟩)
  · exact kI (f_sees Q10.1.1 (by decide)) (fun a15 u15 h15 => ⟨fun _ => (kI (f_readsFigure (Q10.r1 h15.1).1.1 (by decide)) (fun a17 u17 h17 => by
    have Q := (Q10.r1 h15.1).r1 h17.1
    exact ⟨fun _ => ⟨v2, kI (f_sees (QK.wr Q j2 (by decide) (by decide)).1.1 (by decide)) (fun a21 u21 h21 => by
      have R := (QK.wr Q j2 (by decide) (by decide)).r1 h21.1
      exact ⟨fun _ => l0 R.1, fun _ => kI (f_readsNumber R.1.1) (fun a23 u23 h23 => by
        have S := R.r1 h23.1
        refine ⟨fun _ => ⟨v3, v4, fun kk => ⟨v1, fin1 _ ((S.wr j3 (by decide) (by decide)).wr j4 (by decide) (by decide)) (.inl kk)⟩, fun kk => kI (f_sees ((S.wr j3 (by decide) (by decide)).wr j4 (by decide) (by decide)).1.1 (by decide)) (fun a29 u29 h29 => ?_)⟩, fun _ => l0 S.1⟩
        have T := ((S.wr j3 (by decide) (by decide)).wr j4 (by decide) (by decide)).r1 h29.1
        exact ⟨fun _ => l0 T.1, fun _ => kI (f_readsFigure T.1.1 (by decide)) (fun a31 u31 h31 => ⟨fun c31 => ⟨v4, v1, fin1 _ ((T.r1 h31.1).wr j4 (by decide) (by decide)) (.inr (by rw [← j4, mI_eq]; have := (h31.2 c31).2.1; grind))⟩, fun _ => l0 (T.r1 h31.1).1⟩)⟩)⟩)⟩, fun _ => l0 Q.1⟩)), fun _ => kI (f_sees (Q10.r1 h15.1).1.1 (by decide)) (fun a35 u35 h35 => ⟨fun _ => (kI (f_readsFigure ((Q10.r1 h15.1).r1 h35.1).1.1 (by decide)) (fun a17 u17 h17 => by
    have Q := ((Q10.r1 h15.1).r1 h35.1).r1 h17.1
    exact ⟨fun _ => ⟨v2, kI (f_sees (QK.wr Q j2 (by decide) (by decide)).1.1 (by decide)) (fun a21 u21 h21 => by
      have R := (QK.wr Q j2 (by decide) (by decide)).r1 h21.1
      exact ⟨fun _ => l0 R.1, fun _ => kI (f_readsNumber R.1.1) (fun a23 u23 h23 => by
        have S := R.r1 h23.1
        refine ⟨fun _ => ⟨v3, v4, fun kk => ⟨v1, fin1 _ ((S.wr j3 (by decide) (by decide)).wr j4 (by decide) (by decide)) (.inl kk)⟩, fun kk => kI (f_sees ((S.wr j3 (by decide) (by decide)).wr j4 (by decide) (by decide)).1.1 (by decide)) (fun a29 u29 h29 => ?_)⟩, fun _ => l0 S.1⟩
        have T := ((S.wr j3 (by decide) (by decide)).wr j4 (by decide) (by decide)).r1 h29.1
        exact ⟨fun _ => l0 T.1, fun _ => kI (f_readsFigure T.1.1 (by decide)) (fun a31 u31 h31 => ⟨fun c31 => ⟨v4, v1, fin1 _ ((T.r1 h31.1).wr j4 (by decide) (by decide)) (.inr (by rw [← j4, mI_eq]; have := (h31.2 c31).2.1; grind))⟩, fun _ => l0 (T.r1 h31.1).1⟩)⟩)⟩)⟩, fun _ => l0 Q.1⟩)), fun _ => l0 ((Q10.r1 h15.1).r1 h35.1).1⟩)⟩)
end MOD
