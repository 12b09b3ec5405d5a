/-! ===== the reference reads a shop ===== -/
def Nk (b : Nat) (u w : pM) (p c : Int32) : Prop := (∀ n k, ¬ (n = 76 ∧ (k = 13 ∨ k = 14)) → ¬ (n = 83 ∧ b ≤ k ∧ k < b + 5) → mI w n k = mI u n k) ∧ mI w 76 13 = p ∧ mI w 76 14 = c ∧ mRQ w = mRQ u
def YS (t : Int32) (u : pM) (l : List Sh5) (a : Int32) (w : pM) : Prop := ∃ p, 0 ≤ p ∧ mRQ w = mRQ u ∧ (∀ n k, ¬ (n = 76 ∧ (k = 13 ∨ k = 14 ∨ k = 16)) → ¬ (n = 83 ∧ 35 + 5 * l.length ≤ k ∧ k < 35 + 5 * l.length + 5) → mI w n k = mI u n k) ∧ mI w 76 13 = p ∧ (((l.length = 7 ∨ shp (TM u t) (mI u 76 15) (toldL l) (mI u 76 13) = none) ∧ a = 0 ∧ mI w 76 16 = mI u 76 16) ∨ (¬ l.length = 7 ∧ ¬ a = 0 ∧ mI w 76 16 = mI u 76 16 + 1 ∧ shp (TM u t) (mI u 76 15) (toldL l) (mI u 76 13) = some (mC w (35 + 5 * l.length), p)))
theorem Nk.mk {b : Nat} {u v w : pM} {p c p' c' : Int32} (h : Nk b u v p c) (h2 : Mk v w p' c') : Nk b u w p' c' := ⟨fun n k z y => (h2.1 n k z).trans (h.1 n k z y), h2.2.1, h2.2.2.1, h2.2.2.2.trans h.2.2.2⟩
theorem Nk.wr {b i j : Nat} {u v : pM} {p c x : Int32} (h : Nk b u v p c) (hi : i = b + j) (hj : j < 5) : Nk b u (pI v 83 i x) p c := ⟨fun n k z y => by
  show up2 (mI v) 83 i x n k = _
  rw [up2, if_neg (fun q => y ⟨q.1, by omega, by omega⟩)]
  exact h.1 n k z y, by rw [mI_ne (by decide)]; exact h.2.1, by rw [mI_ne (by decide)]; exact h.2.2.1, h.2.2.2⟩
theorem Nk.tm {b : Nat} {u v : pM} {p a t : Int32} (h : Nk b u v p a) : TM v t = TM u t := TM_c (fun k => h.1 _ _ (by omega) (by omega)) (fun k => h.1 _ _ (by omega) (by omega))
theorem Nk.mo {b : Nat} {u v : pM} {p a t : Int32} (h : Nk b u v p a) (m : MO t u) (hp : 0 ≤ p) : MO t v := ⟨m.1, m.2.1, by rw [h.2.1]; exact hp, by rw [h.1 _ _ (by omega) (by omega)]; exact m.2.2.2⟩
theorem mk_q {u v : pM} {p a : Int32} {k : Nat} (h : Mk u v p a) : mI v 83 k = mI u 83 k := h.1 83 k (by omega)
section RDM
variable {G : pG} {u : pM}
theorem y_readsShop {x1 : Int32} {l : List Sh5} (m : MO x1 u) (hl : MlL u l) : Ws G m_readsShop 0 [(0, .ref 76), (1, .int x1)] [] u (RI fun a w => YS x1 u l a w) := by
  have p0 := m.2.2.1
  have ln : (Int32.ofNat l.length).toNatClampNeg = l.length := Int32.toNatClampNeg_ofNat_of_lt (by have := hl.2.1; omega)
  have s7 : mI u 76 16 = 7 ↔ l.length = 7 := by
    rw [hl.1]
    constructor
    · intro e
      have := congrArg Int32.toNatClampNeg e
      rw [ln] at this
      exact this
    · intro e; rw [e]; rfl
  have nn : ∀ {a : Int32} {v : pM} {p c : Int32}, 0 ≤ p → Nk (35 + 5 * l.length) u v p c → (l.length = 7 ∨ shp (TM u x1) (mI u 76 15) (toldL l) (mI u 76 13) = none) → a = 0 → YS x1 u l a v := fun hp s e a0 => ⟨_, hp, s.2.2.2, fun n k z y => s.1 n k (by omega) y, s.2.1, .inl ⟨e, a0, s.1 _ _ (by omega) (by omega)⟩⟩
  have rf : Nk (35 + 5 * l.length) u u (mI u 76 13) (mI u 76 14) := ⟨fun _ _ _ _ => rfl, rfl, rfl, rfl⟩
  refine sg_m_readsShop_0 ⟨m.v4, m.v400, ?_⟩
  rw [m.here]
  refine ⟨fun kn => ⟨_, rfl, nn p0 rf (.inr (by unfold shp; rw [if_pos kn])) rfl⟩, fun kn => ⟨fun h7 => ?_, fun h7 => ⟨_, rfl, nn p0 rf (.inl (s7.mp h7)) rfl⟩⟩⟩
  have l7 : l.length < 7 := by have := hl.2.1; have : ¬ l.length = 7 := fun e => h7 (s7.mpr e); omega
  have P1 : 0 ≤ mI u 76 13 + 1 := mx1 m rfl (fun e => kn (by rw [e]; decide))
  have k1 : Mk u (pI u 76 13 (mI u 76 13 + 1)) (mI u 76 13 + 1) (mI u 76 14) := Mk.rf.p1
  have m1 := k1.mo m P1
  rw [mI_nk (show (15 : Nat) ≠ 13 by decide)]
  generalize pI u 76 13 (mI u 76 13 + 1) = w1 at k1 m1
  refine kI (y_num2 m1) (fun a5 u5 h5 => ?_)
  rw [k1.tm, k1.2.1] at h5
  obtain ⟨k5, i5⟩ := h5
  have k5 := k1.tr k5
  have P5 := nm2_m m P1
  have n5 : Nk (35 + 5 * l.length) u u5 _ _ := rf.mk k5
  refine ⟨fun a50 => ⟨_, rfl, nn P5 n5 (.inr ?_) rfl⟩, fun a5n => ?_⟩
  · unfold shp
    rw [if_neg kn, if_pos]
    by_cases e : (nm2 (TM u x1) (mI u 76 13 + 1)).1 = 0
    · exact .inl e
    · exact .inr (fun y => absurd a50 (i5.mpr ⟨e, y⟩))
  have j5 := i5.mp a5n
  have l5 : MlL u5 l := ⟨by rw [k5.1 _ _ (by omega)]; exact hl.1, hl.2.1, fun s hs => by rw [hl.2.2 s hs]; unfold mC; rw [mk_q k5, mk_q k5, mk_q k5, mk_q k5, mk_q k5]⟩
  rw [k5.2.2.1]
  refine kI (y_told l5) (fun a7 u7 h7' => ?_)
  obtain ⟨rfl, i7⟩ := h7'
  have sh1 : ¬ ((nm2 (TM u x1) (mI u 76 13 + 1)).1 = 0 ∨ ¬ (0 ≤ (nm2 (TM u x1) (mI u 76 13 + 1)).2.1 ∧ (nm2 (TM u x1) (mI u 76 13 + 1)).2.1 ≤ mI u 76 15 - 1)) := fun z => z.elim j5.1 (fun y => y j5.2)
  refine ⟨fun a70 => ?_, fun a7n => ⟨_, rfl, nn P5 n5 (.inr (by unfold shp; rw [if_neg kn, if_neg sh1, if_pos (i7.mp a7n)])) rfl⟩⟩
  have nt : ¬ toldL l (nm2 (TM u x1) (mI u 76 13 + 1)).2.1 = true := fun z => i7.mpr z a70
  have E1 : shp (TM u x1) (mI u 76 15) (toldL l) (mI u 76 13) = shp2 (TM u x1) (kindV (TM u x1 (mI u 76 13))) (nm2 (TM u x1) (mI u 76 13 + 1)).2.1 (nm2 (TM u x1) (mI u 76 13 + 1)).2.2 := by
    unfold shp; rw [if_neg kn, if_neg sh1, if_neg nt]
  have e16 : mI u7 76 16 = Int32.ofNat l.length := l5.1
  have ixs : ∀ i, i < 7 → (35 + 5 * Int32.ofNat i : Int32).toNatClampNeg = 35 + 5 * i ∧ (35 + 5 * Int32.ofNat i + 1 : Int32).toNatClampNeg = 35 + 5 * i + 1 ∧ (35 + 5 * Int32.ofNat i + 2 : Int32).toNatClampNeg = 35 + 5 * i + 2 ∧ (35 + 5 * Int32.ofNat i + 3 : Int32).toNatClampNeg = 35 + 5 * i + 3 ∧ (35 + 5 * Int32.ofNat i + 4 : Int32).toNatClampNeg = 35 + 5 * i + 4 := by decide
  have ivs : ∀ i, i < 7 → 0 ≤ Int32.ofNat i ∧ Int32.ofNat i < 7 := by decide
  have I := ixs _ l7
  have O := ivs _ l7
  have dv : mI (pI u7 83 (35 + 5 * mI u7 76 16 : Int32).toNatClampNeg (kindV (TM u x1 (mI u 76 13)))) 76 14 = (nm2 (TM u x1) (mI u 76 13 + 1)).2.1 := by rw [mI_ne (by decide)]; exact k5.2.2.1
  rw [dv]
  generalize kindV (TM u x1 (mI u 76 13)) = K at *
  generalize (nm2 (TM u x1) (mI u 76 13 + 1)).2.1 = V at *
  generalize (nm2 (TM u x1) (mI u 76 13 + 1)).2.2 = Y at *
  have v0 : vp_in (35 + 5 * mI u7 76 16) 70 := by rw [e16]; exact vin (by grind) (show (_ : Int32) < 70 by grind) (by decide)
  have v1 : vp_in (35 + 5 * mI u7 76 16 + 1) 70 := by rw [e16]; exact vin (by grind) (show (_ : Int32) < 70 by grind) (by decide)
  have v2 : vp_in (35 + 5 * mI u7 76 16 + 2) 70 := by rw [e16]; exact vin (by grind) (show (_ : Int32) < 70 by grind) (by decide)
  have v3 : vp_in (35 + 5 * mI u7 76 16 + 3) 70 := by rw [e16]; exact vin (by grind) (show (_ : Int32) < 70 by grind) (by decide)
  have v4 : vp_in (35 + 5 * mI u7 76 16 + 4) 70 := by rw [e16]; exact vin (by grind) (show (_ : Int32) < 70 by grind) (by decide)
  have b0 : (35 + 5 * mI u7 76 16 : Int32).toNatClampNeg = 35 + 5 * l.length := by rw [e16]; exact I.1
  have b1 : (35 + 5 * mI u7 76 16 + 1 : Int32).toNatClampNeg = 35 + 5 * l.length + 1 := by rw [e16]; exact I.2.1
  have b2 : (35 + 5 * mI u7 76 16 + 2 : Int32).toNatClampNeg = 35 + 5 * l.length + 2 := by rw [e16]; exact I.2.2.1
  have b3 : (35 + 5 * mI u7 76 16 + 3 : Int32).toNatClampNeg = 35 + 5 * l.length + 3 := by rw [e16]; exact I.2.2.2.1
  have b4 : (35 + 5 * mI u7 76 16 + 4 : Int32).toNatClampNeg = 35 + 5 * l.length + 4 := by rw [e16]; exact I.2.2.2.2
  rw [b0, b1, b2, b3, b4]
  -- the end of a shop
  have fin : ∀ (w : pM) (p c A k4 S : Int32), 0 ≤ p → Nk (35 + 5 * l.length) u w p c → mI w 83 (35 + 5 * l.length) = K → mI w 83 (35 + 5 * l.length + 2) = S → mI w 83 (35 + 5 * l.length + 3) = A → mI w 83 (35 + 5 * l.length + 4) = k4 → shp (TM u x1) (mI u 76 15) (toldL l) (mI u 76 13) = some ((K, V, S, A, k4), p) → (RI fun a w => YS x1 u l a w) (some (.int 1)) (pI (pI w 83 (35 + 5 * l.length + 1) V) 76 16 (mI (pI w 83 (35 + 5 * l.length + 1) V) 76 16 + 1)) := by
    intro w p c A k4 S hp hw c0 c2 c3 c4 hs
    have hv := hw.wr (x := V) (i := 35 + 5 * l.length + 1) (j := 1) rfl (by decide)
    refine ⟨_, rfl, p, hp, hv.2.2.2, fun n k z y => ?_, ?_, .inr ⟨by omega, by decide, ?_, ?_⟩⟩
    · show up2 _ 76 16 _ n k = _
      rw [up2, if_neg (by omega)]
      exact hv.1 n k (by omega) y
    · rw [mI_nk (by decide)]; exact hv.2.1
    · rw [mI_eq, hv.1 _ _ (by omega) (by omega)]
    · have g : ∀ k, mI (pI (pI w 83 (35 + 5 * l.length + 1) V) 76 16 (mI (pI w 83 (35 + 5 * l.length + 1) V) 76 16 + 1)) 83 k = mI (pI w 83 (35 + 5 * l.length + 1) V) 83 k := fun k => mI_ne (by decide)
      rw [hs]; unfold mC
      rw [g, g, g, g, g, mI_nk (show 35 + 5 * l.length ≠ 35 + 5 * l.length + 1 by omega), mI_eq, mI_nk (show 35 + 5 * l.length + 2 ≠ 35 + 5 * l.length + 1 by omega), mI_nk (show 35 + 5 * l.length + 3 ≠ 35 + 5 * l.length + 1 by omega), mI_nk (show 35 + 5 * l.length + 4 ≠ 35 + 5 * l.length + 1 by omega), c0, c2, c3, c4]
  -- behind the sign
  have tail : ∀ (sg : Int32 → Int32) (w : pM) (c Z : Int32), 0 ≤ Z → Nk (35 + 5 * l.length) u w Z c → mI w 83 (35 + 5 * l.length) = K → (¬ fig (TM u x1 Z) → shp (TM u x1) (mI u 76 15) (toldL l) (mI u 76 13) = none) → (fig (TM u x1 Z) → shp (TM u x1) (mI u 76 15) (toldL l) (mI u 76 13) = shp3 (TM u x1) K V (sg (dg (TM u x1 Z))) (Z + 1)) → Ws G m_readsFigure 0 [(0, .ref 76), (1, .int x1), (2, .int 0)] [] w (RI fun a17 u17 => ((¬ a17 = 0 → (vp_in ((35 + (5 * (mI u7 76 16))) + 2) 70 ∧ Ws G m_sees 0 [(0, .ref 76), (1, .int x1), (2, .int 58)] [] (pI u17 83 (35 + 5 * l.length + 2) (sg (mI u17 76 14))) (RI fun a21 u21 => ((a21 = 0 → (RI fun a w => YS x1 u l a w) (some (.int 0)) u21) ∧ (¬ a21 = 0 → Ws G m_readsNumber 0 [(0, .ref 76), (1, .int x1), (2, .int 1), (3, .int 99)] [] u21 (RI fun a23 u23 => ((¬ a23 = 0 → (vp_in ((35 + (5 * (mI u7 76 16))) + 3) 70 ∧ (vp_in ((35 + (5 * (mI u7 76 16))) + 4) 70 ∧ ((K < 3 → (vp_in ((35 + (5 * (mI u7 76 16))) + 1) 70 ∧ (RI fun a w => YS x1 u l a w) (some (.int 1)) (pI (pI (pI (pI u23 83 (35 + 5 * l.length + 3) (mI u23 76 14)) 83 (35 + 5 * l.length + 4) 0) 83 (35 + 5 * l.length + 1) V) 76 16 ((mI (pI (pI (pI u23 83 (35 + 5 * l.length + 3) (mI u23 76 14)) 83 (35 + 5 * l.length + 4) 0) 83 (35 + 5 * l.length + 1) V) 76 16) + 1)))) ∧ (¬ (K < 3) → Ws G m_sees 0 [(0, .ref 76), (1, .int x1), (2, .int 58)] [] (pI (pI u23 83 (35 + 5 * l.length + 3) (mI u23 76 14)) 83 (35 + 5 * l.length + 4) 0) (RI fun a29 u29 => ((a29 = 0 → (RI fun a w => YS x1 u l a w) (some (.int 0)) u29) ∧ (¬ a29 = 0 → Ws G m_readsFigure 0 [(0, .ref 76), (1, .int x1), (2, .int 2)] [] u29 (RI fun a31 u31 => ((¬ a31 = 0 → (vp_in ((35 + (5 * (mI u7 76 16))) + 4) 70 ∧ (vp_in ((35 + (5 * (mI u7 76 16))) + 1) 70 ∧ (RI fun a w => YS x1 u l a w) (some (.int 1)) (pI (pI (pI u31 83 (35 + 5 * l.length + 4) (mI u31 76 14)) 83 (35 + 5 * l.length + 1) V) 76 16 ((mI (pI (pI u31 83 (35 + 5 * l.length + 4) (mI u31 76 14)) 83 (35 + 5 * l.length + 1) V) 76 16) + 1))))) ∧ (a31 = 0 → (RI fun a w => YS x1 u l a w) (some (.int 0)) u31))))))))))) ∧ (a23 = 0 → (RI fun a w => YS x1 u l a w) (some (.int 0)) u23)))))))) ∧ (a17 = 0 → (RI fun a w => YS x1 u l a w) (some (.int 0)) u17))) := by
    intro sg w c Z hZ hw cK hno hyes
    refine kI (y_fig (hw.mo m hZ) (by decide)) (fun a17 u17 h17 => ?_)
    rw [hw.tm, hw.2.1] at h17
    rcases h17 with ⟨g, a17n, k17⟩ | ⟨g, a170, b, k17⟩
    rotate_left
    · refine ⟨fun z => absurd a170 z, fun _ => ⟨_, rfl, nn hZ (hw.mk k17) (.inr (hno (fun z => g ⟨z, ((fig_dg _).mpr z).1⟩))) rfl⟩⟩
    refine ⟨fun _ => ⟨v2, ?_⟩, fun z => absurd z a17n⟩
    have E2 := hyes g.1
    have PZ : 0 ≤ Z + 1 := mfg m g.1
    rw [k17.2.2.1]
    generalize sg (dg (TM u x1 Z)) = S at *
    have w17 : Nk (35 + 5 * l.length) u (pI u17 83 (35 + 5 * l.length + 2) S) (Z + 1) _ := (hw.mk k17).wr rfl (by decide)
    have c0 : mI (pI u17 83 (35 + 5 * l.length + 2) S) 83 (35 + 5 * l.length) = K := by rw [mI_nk (by omega), mk_q k17]; exact cK
    have c2 : mI (pI u17 83 (35 + 5 * l.length + 2) S) 83 (35 + 5 * l.length + 2) = S := mI_eq
    generalize pI u17 83 (35 + 5 * l.length + 2) S = w2 at w17 c0 c2
    generalize Z + 1 = Z at *
    refine kI (y_sees (w17.mo m PZ)) (fun a21 u21 h21 => ?_)
    rw [w17.tm, w17.2.1] at h21
    rcases h21 with ⟨e21, a21n, k21⟩ | ⟨e21, a210, k21⟩
    rotate_left
    · exact ⟨fun _ => ⟨_, rfl, nn PZ (w17.mk k21) (.inr (by rw [E2]; unfold shp3; rw [if_pos e21])) rfl⟩, fun z => absurd a210 z⟩
    refine ⟨fun z => absurd z a21n, fun _ => ?_⟩
    have P21 : 0 ≤ Z + 1 := mx1 m e21 (by decide)
    have w21 := w17.mk k21
    refine kI (y_num2 (w21.mo m P21)) (fun a23 u23 h23 => ?_)
    rw [w21.tm, w21.2.1] at h23
    obtain ⟨k23, i23⟩ := h23
    have P23 := nm2_m m P21
    have w23 := w21.mk k23
    refine ⟨fun a23n => ⟨v3, v4, ?_⟩, fun a230 => ⟨_, rfl, nn P23 w23 (.inr ?_) rfl⟩⟩
    rotate_left
    · rw [E2]; unfold shp3
      rw [if_neg (fun z => z e21), if_pos]
      by_cases e : (nm2 (TM u x1) (Z + 1)).1 = 0
      · exact .inl e
      · exact .inr (fun y => absurd a230 (i23.mpr ⟨e, y⟩))
    have j23 := i23.mp a23n
    have E3 : shp (TM u x1) (mI u 76 15) (toldL l) (mI u 76 13) = shp4 (TM u x1) K V S (nm2 (TM u x1) (Z + 1)).2.1 (nm2 (TM u x1) (Z + 1)).2.2 := by
      rw [E2]; unfold shp3
      rw [if_neg (fun z => z e21), if_neg (fun z => z.elim j23.1 (fun y => y j23.2))]
    rw [k23.2.2.1]
    generalize (nm2 (TM u x1) (Z + 1)).2.1 = A at *
    generalize (nm2 (TM u x1) (Z + 1)).2.2 = X at *
    have wF : Nk (35 + 5 * l.length) u (pI (pI u23 83 (35 + 5 * l.length + 3) A) 83 (35 + 5 * l.length + 4) 0) X _ := (w23.wr (j := 3) rfl (by decide)).wr (j := 4) rfl (by decide)
    have f0 : mI (pI (pI u23 83 (35 + 5 * l.length + 3) A) 83 (35 + 5 * l.length + 4) 0) 83 (35 + 5 * l.length) = K := by rw [mI_nk (by omega), mI_nk (by omega), mk_q k23, mk_q k21]; exact c0
    have f2 : mI (pI (pI u23 83 (35 + 5 * l.length + 3) A) 83 (35 + 5 * l.length + 4) 0) 83 (35 + 5 * l.length + 2) = S := by rw [mI_nk (by omega), mI_nk (by omega), mk_q k23, mk_q k21]; exact c2
    have f3 : mI (pI (pI u23 83 (35 + 5 * l.length + 3) A) 83 (35 + 5 * l.length + 4) 0) 83 (35 + 5 * l.length + 3) = A := by rw [mI_nk (by omega), mI_eq]
    have f4 : mI (pI (pI u23 83 (35 + 5 * l.length + 3) A) 83 (35 + 5 * l.length + 4) 0) 83 (35 + 5 * l.length + 4) = 0 := mI_eq
    generalize pI (pI u23 83 (35 + 5 * l.length + 3) A) 83 (35 + 5 * l.length + 4) 0 = wf at *
    refine ⟨fun k3 => ⟨v1, fin _ _ _ A 0 S P23 wF f0 f2 f3 f4 (by rw [E3]; unfold shp4; rw [if_pos k3])⟩, fun k3 => ?_⟩
    refine kI (y_sees (wF.mo m P23)) (fun a29 u29 h29 => ?_)
    rw [wF.tm, wF.2.1] at h29
    rcases h29 with ⟨e29, a29n, k29⟩ | ⟨e29, a290, k29⟩
    rotate_left
    · exact ⟨fun _ => ⟨_, rfl, nn P23 (wF.mk k29) (.inr (by rw [E3]; unfold shp4; rw [if_neg k3, if_pos e29])) rfl⟩, fun z => absurd a290 z⟩
    refine ⟨fun z => absurd z a29n, fun _ => ?_⟩
    have P29 : 0 ≤ X + 1 := mx1 m e29 (by decide)
    have w29 := wF.mk k29
    refine kI (y_fig (w29.mo m P29) (by decide)) (fun a31 u31 h31 => ?_)
    rw [w29.tm, w29.2.1] at h31
    rcases h31 with ⟨g31, a31n, k31⟩ | ⟨g31, a310, b31, k31⟩
    · refine ⟨fun _ => ⟨v4, v1, ?_⟩, fun z => absurd z a31n⟩
      rw [k31.2.2.1]
      have q31 : ∀ k, mI u31 83 k = mI wf 83 k := fun k => (mk_q k31).trans (mk_q k29)
      refine fin _ (X + 1 + 1) _ A (dg (TM u x1 (X + 1))) S (mfg m g31.1) ((w29.mk k31).wr (j := 4) rfl (by decide)) (by rw [mI_nk (by omega), q31]; exact f0) (by rw [mI_nk (by omega), q31]; exact f2) (by rw [mI_nk (by omega), q31]; exact f3) mI_eq ?_
      rw [E3]; unfold shp4
      rw [if_neg k3, if_neg (fun z => z e29), if_neg (fun z => z g31)]
    · refine ⟨fun z => absurd a310 z, fun _ => ⟨_, rfl, nn P29 (w29.mk k31) (.inr ?_) rfl⟩⟩
      rw [E3]; unfold shp4
      rw [if_neg k3, if_neg (fun z => z e29), if_pos g31]
  have w7 : Nk (35 + 5 * l.length) u (pI u7 83 (35 + 5 * l.length) K) Y V := n5.wr (j := 0) rfl (by decide)
  have cK : mI (pI u7 83 (35 + 5 * l.length) K) 83 (35 + 5 * l.length) = K := mI_eq
  generalize pI u7 83 (35 + 5 * l.length) K = w7' at w7 cK
  refine ⟨v0, kI (y_sees (w7.mo m P5)) (fun a10 u10 h10 => ?_)⟩
  rw [w7.tm, w7.2.1] at h10
  rcases h10 with ⟨e10, a10n, k10⟩ | ⟨e10, a100, k10⟩
  rotate_left
  · exact ⟨fun z => absurd a100 z, fun _ => ⟨_, rfl, nn P5 (w7.mk k10) (.inr (by rw [E1]; unfold shp2; rw [if_pos e10])) rfl⟩⟩
  refine ⟨fun _ => ?_, fun z => absurd z a10n⟩
  have P10 : 0 ≤ Y + 1 := mx1 m e10 (by decide)
  have w10 := w7.mk k10
  have c10 : mI u10 83 (35 + 5 * l.length) = K := (mk_q k10).trans cK
  have m10 := w10.mo m P10
  have h10 : hereV u10 x1 = TM u x1 (Y + 1) := by rw [m10.here, w10.tm, w10.2.1]
  rw [h10]
  have no2 : ¬ (TM u x1 (Y + 1) = 45 ∨ TM u x1 (Y + 1) = 43) → shp (TM u x1) (mI u 76 15) (toldL l) (mI u 76 13) = none := fun z => by
    rw [E1]; unfold shp2; rw [if_neg (fun y => y e10), if_pos z]
  have no3 : (TM u x1 (Y + 1) = 45 ∨ TM u x1 (Y + 1) = 43) → ¬ fig (TM u x1 (Y + 1 + 1)) → shp (TM u x1) (mI u 76 15) (toldL l) (mI u 76 13) = none := fun z y => by
    rw [E1]; unfold shp2; rw [if_neg (fun q => q e10), if_neg (fun q => q z), if_pos y]
  have ye3 : (TM u x1 (Y + 1) = 45 ∨ TM u x1 (Y + 1) = 43) → fig (TM u x1 (Y + 1 + 1)) → shp (TM u x1) (mI u 76 15) (toldL l) (mI u 76 13) = shp3 (TM u x1) K V (if TM u x1 (Y + 1) = 45 then -dg (TM u x1 (Y + 1 + 1)) else dg (TM u x1 (Y + 1 + 1))) (Y + 1 + 1 + 1) := fun z y => by
    rw [E1]; unfold shp2; rw [if_neg (fun q => q e10), if_neg (fun q => q z), if_neg (fun q => q y)]
  refine ⟨m10.v4, m10.v400, fun n45 => ?_, fun y45 => ?_⟩
  · refine kI (y_sees m10) (fun a15 u15 h15 => ?_)
    rw [w10.tm, w10.2.1] at h15
    rcases h15 with ⟨e15, a15n, k15⟩ | ⟨e15, a150, k15⟩
    · refine ⟨fun _ => ?_, fun z => absurd z a15n⟩
      refine tail (fun z => z) u15 _ (Y + 1 + 1) (mx1 m e15 (by decide)) (w10.mk k15) ((mk_q k15).trans c10) (no3 (.inr e15)) (fun g => ?_)
      rw [ye3 (.inr e15) g, if_neg n45]
    · refine ⟨fun z => absurd a150 z, fun _ => kI (y_sees ((w10.mk k15).mo m P10)) (fun a35 u35 h35 => ?_)⟩
      rw [(w10.mk k15).tm, (w10.mk k15).2.1] at h35
      rcases h35 with ⟨e35, _, _⟩ | ⟨e35, a350, k35⟩
      · exact absurd e35 n45
      · exact ⟨fun z => absurd a350 z, fun _ => ⟨_, rfl, nn P10 ((w10.mk k15).mk k35) (.inr (no2 (fun z => z.elim n45 e15))) rfl⟩⟩
  · refine kI (y_sees m10) (fun a55 u55 h55 => ?_)
    rw [w10.tm, w10.2.1] at h55
    rcases h55 with ⟨e55, _, _⟩ | ⟨e55, a550, k55⟩
    · rw [y45] at e55; exact absurd e55 (by decide)
    · refine ⟨fun z => absurd a550 z, fun _ => kI (y_sees ((w10.mk k55).mo m P10)) (fun a75 u75 h75 => ?_)⟩
      rw [(w10.mk k55).tm, (w10.mk k55).2.1] at h75
      rcases h75 with ⟨e75, a75n, k75⟩ | ⟨e75, _, _⟩
      · refine ⟨fun _ => ?_, fun z => absurd z a75n⟩
        refine tail (fun z => -z) u75 _ (Y + 1 + 1) (mx1 m e75 (by decide)) ((w10.mk k55).mk k75) ((mk_q k75).trans ((mk_q k55).trans c10)) (no3 (.inl e75)) (fun g => ?_)
        rw [ye3 (.inl e75) g, if_pos e75]
      · exact absurd y45 e75
end RDM
