/-! ===== the reference reads a text ===== -/
def TM (u : pM) (t : Int32) : Int32 → Int32 := sgT (mI u 81 t.toNatClampNeg) (fun i => mI u 82 (100 * t.toNatClampNeg + i))
def MO (t : Int32) (u : pM) : Prop := 0 ≤ t ∧ t ≤ 3 ∧ 0 ≤ mI u 76 13 ∧ mI u 81 t.toNatClampNeg ≤ 100
def Mk (u w : pM) (p b : Int32) : Prop := (∀ n k, ¬ (n = 76 ∧ (k = 13 ∨ k = 14)) → mI w n k = mI u n k) ∧ mI w 76 13 = p ∧ mI w 76 14 = b ∧ mRQ w = mRQ u
theorem MO.v4 {t : Int32} {u : pM} (h : MO t u) : vp_in t 4 := vin h.1 (show (_ : Int32) < 4 by have := h.2.1; grind) (by decide)
theorem MO.v400 {t : Int32} {u : pM} (h : MO t u) : mI u 76 13 < mI u 81 t.toNatClampNeg → vp_in (100 * t + mI u 76 13) 400 := fun q => by
  obtain ⟨a, b, c, d⟩ := h
  exact vin (by grind) (show (_ : Int32) < 400 by grind) (by decide)
theorem MO.here {t : Int32} {u : pM} (h : MO t u) : hereV u t = TM u t (mI u 76 13) := by
  obtain ⟨a, b, c, d⟩ := h
  unfold hereV TM sgT
  by_cases q : mI u 81 t.toNatClampNeg ≤ mI u 76 13
  · rw [if_pos q, if_neg (fun z => absurd q (Int32.not_le.mpr z.2))]
  · rw [if_neg q, if_pos ⟨c, Int32.not_le.mp q⟩]
    have e := ix_100 (x := t) (y := mI u 76 13) ⟨a, by grind⟩ ⟨c, by grind⟩
    rw [e]
theorem Mk.rf {u : pM} : Mk u u (mI u 76 13) (mI u 76 14) := ⟨fun _ _ _ => rfl, rfl, rfl, rfl⟩
theorem Mk.tr {u v w : pM} {p q a b : Int32} (h : Mk u v p a) (h2 : Mk v w q b) : Mk u w q b := ⟨fun n k z => (h2.1 n k z).trans (h.1 n k z), h2.2.1, h2.2.2.1, h2.2.2.2.trans h.2.2.2⟩
theorem Mk.p1 {u v : pM} {p a x : Int32} (h : Mk u v p a) : Mk u (pI v 76 13 x) x a := ⟨fun n k z => by
  show up2 (mI v) 76 13 x n k = _
  rw [up2, if_neg (fun q => z ⟨q.1, .inl q.2⟩)]
  exact h.1 n k z, mI_eq, by rw [mI_nk (by decide)]; exact h.2.2.1, h.2.2.2⟩
theorem Mk.p2 {u v : pM} {p a x : Int32} (h : Mk u v p a) : Mk u (pI v 76 14 x) p x := ⟨fun n k z => by
  show up2 (mI v) 76 14 x n k = _
  rw [up2, if_neg (fun q => z ⟨q.1, .inr q.2⟩)]
  exact h.1 n k z, by rw [mI_nk (by decide)]; exact h.2.1, mI_eq, h.2.2.2⟩
theorem TM_c {u v : pM} {t : Int32} (h1 : ∀ k, mI v 81 k = mI u 81 k) (h2 : ∀ k, mI v 82 k = mI u 82 k) : TM v t = TM u t := by
  unfold TM
  rw [h1]
  congr 1
  funext i
  exact h2 _
theorem Mk.tm {u v : pM} {p a t : Int32} (h : Mk u v p a) : TM v t = TM u t := TM_c (fun k => h.1 _ _ (by omega)) (fun k => h.1 _ _ (by omega))
theorem Mk.mo {u v : pM} {p a t : Int32} (h : Mk u v p a) (m : MO t u) (hp : 0 ≤ p) : MO t v := ⟨m.1, m.2.1, by rw [h.2.1]; exact hp, by rw [h.1 _ _ (by omega)]; exact m.2.2.2⟩
theorem tm_in {u : pM} {t x : Int32} (h : ¬ TM u t x = -9) : 0 ≤ x ∧ x < mI u 81 t.toNatClampNeg := sg_in h
theorem mx1 {u : pM} {t x c : Int32} (m : MO t u) (h : TM u t x = c) (h9 : ¬ c = -9) : 0 ≤ x + 1 := by
  have i := tm_in (u := u) (t := t) (x := x) (by rw [h]; exact h9)
  have := m.2.2.2
  grind
theorem mfg {u : pM} {t x : Int32} (m : MO t u) (h : fig (TM u t x)) : 0 ≤ x + 1 := mx1 m rfl (fun e => by rw [e] at h; exact absurd h (by decide))
theorem nm2_m {u : pM} {t x : Int32} (m : MO t u) (hx : 0 ≤ x) : 0 ≤ (nm2 (TM u t) x).2.2 := by
  unfold nm2
  by_cases a : fig (TM u t x)
  · rw [if_pos a]
    by_cases b : fig (TM u t (x + 1))
    · rw [if_pos b]; exact mfg m b
    · rw [if_neg b]; exact mfg m a
  · rw [if_neg a]; exact hx
section RDM
variable {G : pG} {u : pM}
theorem y_sees {t c : Int32} (m : MO t u) : Ws G m_sees 0 [(0, .ref 76), (1, .int t), (2, .int c)] [] u (RI fun a w => (TM u t (mI u 76 13) = c ∧ ¬ a = 0 ∧ Mk u w (mI u 76 13 + 1) (mI u 76 14)) ∨ (¬ TM u t (mI u 76 13) = c ∧ a = 0 ∧ Mk u w (mI u 76 13) (mI u 76 14))) := by
  refine sg_m_sees_0 ⟨m.v4, m.v400, fun q => ⟨_, rfl, .inr ⟨by rw [← m.here]; exact q, rfl, ?_⟩⟩, fun q => ⟨_, rfl, .inl ⟨by rw [← m.here]; exact q, by decide, Mk.rf.p1⟩⟩⟩
  have e : mI u 76 13 + 0 = mI u 76 13 := by grind
  rw [e]; exact Mk.rf.p1
theorem fig_dg (c : Int32) : (0 ≤ dg c ∧ dg c ≤ 9) ↔ fig c := by
  unfold dg
  constructor
  · intro h; exact ⟨by grind, by grind⟩
  · intro h; have := h.1; have := h.2; exact ⟨by grind, by grind⟩
theorem y_fig {t x2 : Int32} (m : MO t u) (h2 : 0 ≤ x2) : Ws G m_readsFigure 0 [(0, .ref 76), (1, .int t), (2, .int x2)] [] u (RI fun a w => ((fig (TM u t (mI u 76 13)) ∧ x2 ≤ dg (TM u t (mI u 76 13))) ∧ ¬ a = 0 ∧ Mk u w (mI u 76 13 + 1) (dg (TM u t (mI u 76 13)))) ∨ (¬ (fig (TM u t (mI u 76 13)) ∧ x2 ≤ dg (TM u t (mI u 76 13))) ∧ a = 0 ∧ ∃ b, Mk u w (mI u 76 13) b)) := by
  have e : hereV u t - 48 = dg (TM u t (mI u 76 13)) := by rw [m.here]; rfl
  refine sg_m_readsFigure_0 ⟨m.v4, m.v400, ?_⟩
  rw [e, mI_eq, mI_nk (show (13 : Nat) ≠ 14 by decide)]
  refine ⟨fun q => ⟨_, rfl, .inl ⟨⟨(fig_dg _).mp ⟨by grind, q.2⟩, q.1⟩, by decide, Mk.rf.p2.p1⟩⟩, fun q => ⟨_, rfl, .inr ⟨fun z => q ⟨z.2, ((fig_dg _).mpr z.1).2⟩, rfl, dg (TM u t (mI u 76 13)), ?_⟩⟩⟩
  · have e0 : mI u 76 13 + 0 = mI u 76 13 := by grind
    rw [e0]; exact Mk.rf.p2.p1
theorem y_num2 {t x2 x3 : Int32} (m : MO t u) : Ws G m_readsNumber 0 [(0, .ref 76), (1, .int t), (2, .int x2), (3, .int x3)] [] u (RI fun a w => Mk u w (nm2 (TM u t) (mI u 76 13)).2.2 (nm2 (TM u t) (mI u 76 13)).2.1 ∧ (¬ a = 0 ↔ (¬ (nm2 (TM u t) (mI u 76 13)).1 = 0 ∧ x2 ≤ (nm2 (TM u t) (mI u 76 13)).2.1 ∧ (nm2 (TM u t) (mI u 76 13)).2.1 ≤ x3))) := by
  have h100 := m.2.2.2
  have p0 := m.2.2.1
  have fin : ∀ v (c n p : Int32), nm2 (TM u t) (mI u 76 13) = (c, n, p) → Mk u v p n → (c = 0 ↔ p ≤ mI u 76 13) → (mI v 76 13 ≤ mI u 76 13 → (RI fun a w => Mk u w (nm2 (TM u t) (mI u 76 13)).2.2 (nm2 (TM u t) (mI u 76 13)).2.1 ∧ (¬ a = 0 ↔ (¬ (nm2 (TM u t) (mI u 76 13)).1 = 0 ∧ x2 ≤ (nm2 (TM u t) (mI u 76 13)).2.1 ∧ (nm2 (TM u t) (mI u 76 13)).2.1 ≤ x3))) (some (.int 0)) v) ∧ (¬ mI v 76 13 ≤ mI u 76 13 → (x2 ≤ mI v 76 14 ∧ mI v 76 14 ≤ x3 → (RI fun a w => Mk u w (nm2 (TM u t) (mI u 76 13)).2.2 (nm2 (TM u t) (mI u 76 13)).2.1 ∧ (¬ a = 0 ↔ (¬ (nm2 (TM u t) (mI u 76 13)).1 = 0 ∧ x2 ≤ (nm2 (TM u t) (mI u 76 13)).2.1 ∧ (nm2 (TM u t) (mI u 76 13)).2.1 ≤ x3))) (some (.int 1)) v) ∧ (¬ (x2 ≤ mI v 76 14 ∧ mI v 76 14 ≤ x3) → (RI fun a w => Mk u w (nm2 (TM u t) (mI u 76 13)).2.2 (nm2 (TM u t) (mI u 76 13)).2.1 ∧ (¬ a = 0 ↔ (¬ (nm2 (TM u t) (mI u 76 13)).1 = 0 ∧ x2 ≤ (nm2 (TM u t) (mI u 76 13)).2.1 ∧ (nm2 (TM u t) (mI u 76 13)).2.1 ≤ x3))) (some (.int 0)) v)) := by
    intro v c n p e h hc
    rw [e, h.2.1, h.2.2.1]
    exact ⟨fun q => ⟨_, rfl, h, fun z => absurd rfl z, fun z => absurd (hc.mpr q) z.1⟩, fun q => ⟨fun y => ⟨_, rfl, h, fun _ => ⟨fun z => q (hc.mp z), y⟩, fun _ => by decide⟩, fun y => ⟨_, rfl, h, fun z => absurd rfl z, fun z => absurd z.2 y⟩⟩⟩
  have e10 : ∀ c : Int32, 10 * 0 + c - 48 = dg c := fun c => by unfold dg; grind
  have r0 : Mk u (pI u 76 14 0) (mI u 76 13) 0 := Mk.rf.p2
  have m0 := r0.mo m p0
  have h0 : hereV (pI u 76 14 0) t = TM u t (mI u 76 13) := by rw [m0.here, r0.tm, r0.2.1]
  refine sg_m_readsNumber_0 (sg_m_readsNumber_11 ⟨fun q => ?_, fun _ => ⟨m0.v4, m0.v400, ?_⟩⟩)
  · rw [r0.2.1] at q; exact absurd q (by grind)
  rw [h0]
  refine ⟨fun f1 => ⟨m0.v4, m0.v400, ?_⟩, fun f1 => fin _ 0 _ _ (by unfold nm2; rw [if_neg f1]) r0 ⟨fun _ => Int32.le_refl _, fun _ => rfl⟩⟩
  have i1 := tm_in (u := u) (t := t) (x := mI u 76 13) (fun e => by rw [e] at f1; exact absurd f1 (by decide))
  rw [r0.2.2.1, e10]
  have r1 : Mk u (pI (pI (pI u 76 14 0) 76 14 (dg (TM u t (mI u 76 13)))) 76 13 (mI (pI (pI u 76 14 0) 76 14 (dg (TM u t (mI u 76 13)))) 76 13 + 1)) (mI u 76 13 + 1) (dg (TM u t (mI u 76 13))) := by
    have := (r0.p2 (x := dg (TM u t (mI u 76 13)))).p1 (x := mI u 76 13 + 1)
    rw [(r0.p2 (x := dg (TM u t (mI u 76 13)))).2.1]
    exact this
  have P1 := mfg m f1
  have m1 := r1.mo m P1
  generalize pI (pI (pI u 76 14 0) 76 14 (dg (TM u t (mI u 76 13)))) 76 13 (mI (pI (pI u 76 14 0) 76 14 (dg (TM u t (mI u 76 13)))) 76 13 + 1) = v1 at r1 m1
  have h1 : hereV v1 t = TM u t (mI u 76 13 + 1) := by rw [m1.here, r1.tm, r1.2.1]
  refine sg_m_readsNumber_11 ⟨fun q => ?_, fun _ => ⟨m1.v4, m1.v400, ?_⟩⟩
  · rw [r1.2.1] at q; exact absurd q (by grind)
  rw [h1]
  refine ⟨fun f2 => ⟨m1.v4, m1.v400, ?_⟩, fun f2 => fin _ 1 _ _ (by unfold nm2; rw [if_pos f1, if_neg f2]) r1 ⟨fun z => absurd z (by decide), fun z => absurd z (by grind)⟩⟩
  have i2 := tm_in (u := u) (t := t) (x := mI u 76 13 + 1) (fun e => by rw [e] at f2; exact absurd f2 (by decide))
  have e2 : 10 * mI v1 76 14 + TM u t (mI u 76 13 + 1) - 48 = 10 * dg (TM u t (mI u 76 13)) + dg (TM u t (mI u 76 13 + 1)) := by
    rw [r1.2.2.1]
    generalize dg (TM u t (mI u 76 13)) = z
    unfold dg; grind
  rw [e2]
  have r2 := (r1.p2 (x := 10 * dg (TM u t (mI u 76 13)) + dg (TM u t (mI u 76 13 + 1)))).p1 (x := mI u 76 13 + 1 + 1)
  have e3 : mI (pI v1 76 14 (10 * dg (TM u t (mI u 76 13)) + dg (TM u t (mI u 76 13 + 1)))) 76 13 + 1 = mI u 76 13 + 1 + 1 := by rw [(r1.p2 (x := 10 * dg (TM u t (mI u 76 13)) + dg (TM u t (mI u 76 13 + 1)))).2.1]
  rw [e3]
  refine sg_m_readsNumber_11 ⟨fun _ => fin _ 2 _ _ (by unfold nm2; rw [if_pos f1, if_pos f2]) r2 ⟨fun z => absurd z (by decide), fun z => absurd z (by grind)⟩, fun q => ?_⟩
  rw [r2.2.1] at q
  exact absurd (by grind) q
def mC (u : pM) (b : Nat) : Sh5 := (mI u 83 b, mI u 83 (b + 1), mI u 83 (b + 2), mI u 83 (b + 3), mI u 83 (b + 4))
def MlL (u : pM) (l : List Sh5) : Prop := mI u 76 16 = Int32.ofNat l.length ∧ l.length ≤ 7 ∧ ∀ s, s < l.length → l[s]? = some (mC u (35 + 5 * s))
theorem y_told {x1 : Int32} {l : List Sh5} (hl : MlL u l) : Ws G m_isTold 0 [(0, .ref 76), (1, .int x1)] [] u (RI fun a u' => u' = u ∧ (¬ a = 0 ↔ toldL l x1 = true)) := by
  have ln : (Int32.ofNat l.length).toNatClampNeg = l.length := Int32.toNatClampNeg_ofNat_of_lt (by have := hl.2.1; omega)
  have l7 : Int32.ofNat l.length ≤ 7 := by
    apply Int32.le_iff_toInt_le.mpr
    have p : (Int32.ofNat l.length).toInt = l.length := nI_toInt (by have := hl.2.1; omega)
    have d : (7 : Int32).toInt = 7 := by decide
    have := hl.2.1
    omega
  have ixs : ∀ i, i < 7 → (35 + 5 * Int32.ofNat i + 1 : Int32).toNatClampNeg = 35 + 5 * i + 1 := by decide
  have key : ∀ x (y : Int32), 0 ≤ x → (y = 0 ∨ y = 1) → x ≤ Int32.ofNat l.length → (¬ y = 0 ↔ ∃ s, s < x.toNatClampNeg ∧ s < l.length ∧ mI u 83 (35 + 5 * s + 1) = x1) → Ws G m_isTold 4 [(0, .ref 76), (1, .int x1), (2, .int y), (3, .int x)] [] u (RI fun a u' => u' = u ∧ (¬ a = 0 ↔ toldL l x1 = true)) := by
    refine upI (mI u 76 16) _ (fun x ih y h0 hy hx hi => ?_)
    refine sg_m_isTold_4 ⟨fun c => ⟨vb01 hy, _, rfl, rfl, ?_⟩, fun c => ?_⟩
    · rw [hl.1] at c
      have e : x = Int32.ofNat l.length := Int32.le_antisymm hx c
      rw [hi, e, ln]
      constructor
      · rintro ⟨s, h1, h2, h3⟩
        exact List.any_eq_true.mpr ⟨_, List.mem_of_getElem? (hl.2.2 s h2), by simp [mC, h3]⟩
      · intro z
        obtain ⟨s, hs, e⟩ := List.any_eq_true.mp z
        obtain ⟨i, hi, rfl⟩ := List.getElem_of_mem hs
        have g := hl.2.2 i hi
        rw [List.getElem?_eq_getElem hi] at g
        rw [Option.some.inj g] at e
        exact ⟨i, hi, hi, by simpa [mC] using e⟩
    · have c' := c
      rw [hl.1] at c
      have xl : x.toNatClampNeg < l.length := by
        have := tn_lt h0 (Int32.not_le.mp c)
        rw [ln] at this; exact this
      have I := ixs x.toNatClampNeg (by have := hl.2.1; omega)
      rw [i32_nat h0] at I
      have nx : x + 1 ≤ Int32.ofNat l.length := by grind
      have sx := tn_succ h0 c
      rw [I]
      refine ⟨vin (by grind) (show (_ : Int32) < 70 by grind) (by decide), fun d => ih c' _ (by grind) ?_ nx ?_, fun d => ih c' _ (by grind) ?_ nx ?_⟩
      · rcases hy with rfl | rfl <;> decide
      · have e : y ||| 0 = y := by rcases hy with rfl | rfl <;> decide
        rw [e, hi]
        constructor
        · rintro ⟨s, h1, h2, h3⟩; exact ⟨s, by omega, h2, h3⟩
        · rintro ⟨s, h1, h2, h3⟩
          refine ⟨s, ?_, h2, h3⟩
          by_cases es : s = x.toNatClampNeg
          · rw [es] at h3; exact absurd h3 d
          · omega
      · rcases hy with rfl | rfl <;> decide
      · refine ⟨fun _ => ⟨x.toNatClampNeg, by omega, xl, d⟩, fun _ => by rcases hy with rfl | rfl <;> decide⟩
  exact sg_m_isTold_0 (key 0 0 (by decide) (.inl rfl) (by
    apply Int32.le_iff_toInt_le.mpr
    have p : (Int32.ofNat l.length).toInt = l.length := nI_toInt (by have := hl.2.1; omega)
    have d : (0 : Int32).toInt = 0 := by decide
    omega) ⟨fun z => absurd rfl z, fun ⟨s, h, _⟩ => by have e : (0 : Int32).toNatClampNeg = 0 := (by decide); omega⟩)
end RDM
