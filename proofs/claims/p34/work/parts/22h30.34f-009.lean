section GON
variable {G : pG} {u : pM}
theorem e_isImagex {x1 : Int32} (hM : InvM u) (h1 : 0 ≤ x1 ∧ x1 ≤ 5) : Ws G m_isImage 0 [(0, .ref 76), (1, .int x1)] [] u (RI fun a u' => u = u' ∧ ((¬ a = 0 ∧ imK (mI u 76 10) (mI u 76 11) (fun k => mI u 79 (40 * x1.toNatClampNeg + k))) ∨ (a = 0 ∧ ¬ imK (mI u 76 10) (mI u 76 11) (fun k => mI u 79 (40 * x1.toNatClampNeg + k))))) := by
  have m7 := hM.m7
  have n30 := hM.n30
  have z0 : (0 : Int32).toNatClampNeg = 0 := by decide
  have z1 : (1 : Int32).toNatClampNeg = 1 := by decide
  have i0 := ix40 (x := 0) h1 (by decide)
  have i1 := ix40 (x := 1) h1 (by decide)
  rw [z0] at i0
  rw [z1] at i1
  have is : ∀ x : Int32, 0 ≤ x → x < 7 → (40 * x1 + (2 + x) : Int32).toNatClampNeg = 40 * x1.toNatClampNeg + (2 + x.toNatClampNeg) := fun x x0 x7 => by
    have k := (show ∀ i, i < 7 → (2 + Int32.ofNat i).toNatClampNeg = 2 + i ∧ 0 ≤ 2 + Int32.ofNat i ∧ 2 + Int32.ofNat i < 40 from by decide) _ (ixn (n := 7) x0 x7 (by decide))
    rw [i32_nat x0] at k
    rw [ix40 h1 k.2, k.1]
  generalize hf : (fun k => mI u 79 (40 * x1.toNatClampNeg + k)) = f
  have ef : ∀ k, mI u 79 (40 * x1.toNatClampNeg + k) = f k := fun k => by rw [← hf]
  have key : ∀ x (x3 x4 : Int32), 0 ≤ x → x ≤ mI u 76 11 → ((x3 = 0 ∧ ¬ imK (mI u 76 10) (mI u 76 11) f) ∨ (x3 = 1 ∧ (0 ≤ f 0 ∧ f 0 ≤ 100000) ∧ (0 ≤ f 1 ∧ f 1 >>> (mI u 76 10 &&& 31) = 0) ∧ bcV (f 1) ≤ 3 ∧ (∀ s, s < x.toNatClampNeg → 0 ≤ f (2 + s) ∧ f (2 + s) < mI u 76 10) ∧ (∀ s q, s < q → q < x.toNatClampNeg → f (2 + s) ≠ f (2 + q)) ∧ ∀ d : Int32, 0 ≤ d → d < 31 → (tb x4 d.toNatClampNeg = true ↔ ∃ s, s < x.toNatClampNeg ∧ f (2 + s) = d))) → Ws G m_isImage 58 [(0, .ref 76), (1, .int x1), (3, .int x3), (4, .int x4), (5, .int x)] [] u (RI fun a u' => u = u' ∧ ((¬ a = 0 ∧ imK (mI u 76 10) (mI u 76 11) f) ∨ (a = 0 ∧ ¬ imK (mI u 76 10) (mI u 76 11) f))) := by
    refine upI (mI u 76 11) _ (fun x ih x3 x4 h0 hx h3 => ?_)
    have hb : vb x3 := vb01 (by rcases h3 with h | h; exact .inl h.1; exact .inr h.1)
    refine sg_m_isImage_58 ⟨fun c => ⟨hb, _, rfl, rfl, ?_⟩, fun c => ⟨fun z => ⟨hb, _, rfl, rfl, ?_⟩, fun z => ?_⟩⟩
    · rcases h3 with h | h
      · exact .inr h
      · refine .inl ⟨by rw [h.1]; decide, h.2.1, h.2.2.1, h.2.2.2.1, ?_, ?_⟩
        · have := h.2.2.2.2.1; rw [Int32.le_antisymm hx c] at this; exact this
        · have := h.2.2.2.2.2.1; rw [Int32.le_antisymm hx c] at this; exact this
    · rcases h3 with h | h
      · exact .inr h
      · rw [h.1] at z; exact absurd z (by decide)
    · rcases h3 with h | ⟨_, b0, b1, b2, hrg, hds, htk⟩
      · exact absurd h.1 z
      have xm := Int32.not_le.mp c
      have x7 : x < 7 := Int32.lt_of_lt_of_le xm m7.2
      have xN := tn_lt h0 xm
      have sx := tn_succ h0 c
      rw [is x h0 x7, ef]
      refine ⟨(vin (by grind) (show (_ : Int32) < 240 by grind) (by decide)), fun w => ?_, fun w => ih c _ _ (by grind) (by grind) (.inl ⟨rfl, fun q => w ⟨(q.2.2.2.1 _ xN).1, by have := (q.2.2.2.1 _ xN).2; grind⟩⟩)⟩
      have w' : 0 ≤ f (2 + x.toNatClampNeg) ∧ f (2 + x.toNatClampNeg) < mI u 76 10 := ⟨w.1, by have := w.2; grind⟩
      have w31 : f (2 + x.toNatClampNeg) < 31 := Int32.lt_of_lt_of_le w'.2 (Int32.le_trans n30.2 (by decide))
      refine ⟨fun t => ih c _ _ (by grind) (by grind) (.inl ⟨rfl, fun q => ?_⟩), fun t => ih c _ _ (by grind) (by grind) (.inr ⟨rfl, b0, b1, b2, fun s hs => ?_, fun s q' a1 a2 => ?_, fun d' d0 d1 => ?_⟩)⟩
      · obtain ⟨s, s1, s2⟩ := (htk _ w'.1 w31).mp (tb_t w'.1 (Int32.lt_trans w31 (by decide)) t)
        exact q.2.2.2.2 s _ s1 xN s2
      · rw [sx] at hs
        by_cases e' : s = x.toNatClampNeg
        · rw [e']; exact w'
        · exact hrg s (by omega)
      · rw [sx] at a2
        by_cases e' : q' = x.toNatClampNeg
        · rw [e']
          intro z'
          have := (htk _ w'.1 w31).mpr ⟨s, by omega, z'⟩
          rw [tb_f w'.1 (Int32.lt_trans w31 (by decide)) t] at this
          exact absurd this (by decide)
        · exact hds s q' a1 (by omega)
      · have dN : d'.toNatClampNeg < 31 := ixn (n := 31) d0 d1 (by decide)
        rw [tbo w'.1 (Int32.lt_trans w31 (by decide)) (by omega), Bool.or_eq_true, htk d' d0 d1, sx]
        constructor
        · rintro (⟨s, s1, s2⟩ | z')
          · exact ⟨s, by omega, s2⟩
          · exact ⟨x.toNatClampNeg, by omega, (tn_inj d0 w'.1 (of_decide_eq_true z')).symm⟩
        · rintro ⟨s, s1, s2⟩
          by_cases e' : s = x.toNatClampNeg
          · right; rw [← s2, e']; simp
          · exact .inl ⟨s, by omega, s2⟩
  have t0 : ∀ d : Int32, 0 ≤ d → d < 31 → (tb 0 d.toNatClampNeg = true ↔ ∃ s, s < (0 : Int32).toNatClampNeg ∧ f (2 + s) = d) := fun d _ _ => by
    constructor
    · intro h; rw [tb_0] at h; exact absurd h (by decide)
    · rintro ⟨s, s1, _⟩; omega
  refine sg_m_isImage_0 ⟨(vin (by grind) (show (_ : Int32) < 240 by grind) (by decide)), (vin (by grind) (show (_ : Int32) < 240 by grind) (by decide)), ?_⟩
  rw [i0, i1, ef, ef]
  refine ⟨fun a => ⟨fun b => kI e_sizeOf (fun g v h => ?_), fun b => key 0 0 0 (by decide) m7.1 (.inl ⟨rfl, fun q => b ((set_eqn n30).mp q.2.1)⟩)⟩, fun a => key 0 0 0 (by decide) m7.1 (.inl ⟨rfl, fun q => a q.1⟩)⟩
  obtain ⟨rfl, h⟩ := h
  have bc := (bcV_cnt (f 1)).1
  rw [nn_31 b.1] at bc
  have c31 := cnt_le (f 1) 31
  have bt : (bcV (f 1)).toInt = (cnt (f 1) 31 : Int) := by rw [bc]; exact nI_toInt (by omega)
  have d3 : (3 : Int32).toInt = 3 := by decide
  refine ⟨fun c => key 0 0 0 (by decide) m7.1 (.inl ⟨rfl, fun q => ?_⟩), fun c => key 0 1 0 (by decide) m7.1 (.inr ⟨rfl, a, (set_eqn n30).mpr b, ?_, fun s hs => by omega, fun s q _ hq => by omega, t0⟩)⟩
  · have l1 := Int32.lt_iff_toInt_lt.mp c
    have l2 := Int32.le_iff_toInt_le.mp q.2.2.1
    omega
  · have l1 := Int32.le_iff_toInt_le.mp (Int32.not_lt.mp c)
    exact Int32.le_iff_toInt_le.mpr (by omega)
end GON
