section RND
variable {G : pG} {u : pM}
theorem e_roundOfx {x1 x2 : Int32} (hM : InvM u) (hn : 10 ≤ mI u 76 10 ∧ mI u 76 10 ≤ 30) (h20 : 0 ≤ x2) (h2 : x2 < 128) : Ws G m_roundOf 0 [(0, .ref 76), (1, .int x1), (2, .int x2)] [] u (RI fun a u' => u = u' ∧ IsR (mI u 76 10) (farP (mI u 76 10) (mI u 85) x1) (mI u 76 11).toNatClampNeg x2 a) := by
  have m7 := hM.m7
  have m7N : (mI u 76 11).toNatClampNeg ≤ 7 := by
    have := tn_le m7.2
    have e7 : (7 : Int32).toNatClampNeg = 7 := by decide
    omega
  have nz : ¬ (mI u 76 10).toInt64 = 0 := i64_ne (by grind)
  have fr : ∀ s, 0 ≤ farP (mI u 76 10) (mI u 85) x1 s ∧ farP (mI u 76 10) (mI u 85) x1 s < mI u 76 10 := fun s => dAt_rg hn.1 hn.2
  have ef : ∀ k : Nat, dAt (mI u 76 10) ((mI u 85 k).toInt64 - x1.toInt64) = farP (mI u 76 10) (mI u 85) x1 k := fun _ => rfl
  generalize hF : farP (mI u 76 10) (mI u 85) x1 = far at *
  generalize hN : mI u 76 10 = n at *
  have outer : ∀ x4 (x3 : Int32), 0 ≤ x4 → (0 ≤ x3 ∧ x3 ≤ n) → (∀ up, 0 ≤ up → up < x4 → up &&& (x2 ^^^ (-1)) = 0 → ∀ h l, UCv n far x2 up (mI u 76 11).toNatClampNeg h l → x3 ≤ 2 * (h + l)) → (x3 = n ∨ ∃ h l, b30 h ∧ b30 l ∧ CovP n far (mI u 76 11).toNatClampNeg x2 h l ∧ x3 = 2 * (h + l)) → Ws G m_roundOf 8 [(0, .ref 76), (1, .int x1), (2, .int x2), (3, .int x3), (4, .int x4)] [] u (RI fun a u' => u = u' ∧ IsR n far (mI u 76 11).toNatClampNeg x2 a) := by
    refine upI (x2 + 1) _ (fun x4 ih x3 h0 h3 hlow hat => ?_)
    refine sg_m_roundOf_8 ⟨fun c => ?_, fun c => ?_⟩
    · have fin : IsR n far (mI u 76 11).toNatClampNeg x2 x3 := by
        refine ⟨h3, fun h l hb lb cov => ?_, hat⟩
        obtain ⟨b, hb'⟩ := ex_bits (fun s => decide (far s ≤ h)) 7 (by decide)
        have al := and_leI (a := b) h20
        refine hlow (b &&& x2) al.1 (by grind) ?_ h l ⟨hb, lb, fun s hs => ⟨fun t => ?_, fun t t2 => ?_⟩⟩
        · apply Int32.toBitVec_inj.mp
          apply BitVec.eq_of_getLsbD_eq
          intro i hi
          have m1 : ∀ i, i < 32 → (Int32.toBitVec (-1)).getLsbD i = true := by decide +kernel
          have z : (Int32.toBitVec 0).getLsbD i = false := BitVec.getLsbD_zero
          simp only [Int32.toBitVec_and, Int32.toBitVec_xor, BitVec.getLsbD_and, BitVec.getLsbD_xor, m1 i hi, z]
          cases b.toBitVec.getLsbD i <;> cases x2.toBitVec.getLsbD i <;> rfl
        · rw [tb_and, Bool.and_eq_true, hb' s (by omega)] at t
          exact of_decide_eq_true t.1
        · rw [tb_and, t2, Bool.and_true, hb' s (by omega)] at t
          rcases cov s hs t2 with q | q
          · exact absurd q (of_decide_eq_false t)
          · exact .inr q
      refine ⟨fun _ => ⟨_, rfl, rfl, fin⟩, fun e => ⟨_, rfl, rfl, ?_⟩⟩
      have t0 : ∀ s, tb x2 s = false := fun s => by rw [e]; exact BitVec.getLsbD_zero
      have cv : CovP n far (mI u 76 11).toNatClampNeg x2 0 0 := fun s _ t => by rw [t0 s] at t; exact absurd t (by decide)
      exact ⟨⟨by decide, by grind⟩, fun h l hb lb _ => by unfold b30 at hb lb; grind, .inr ⟨0, 0, by unfold b30; decide, by unfold b30; decide, cv, by decide⟩⟩
    · have c' : ¬ x2 + 1 ≤ x4 := by grind
      refine ⟨fun d => ih c' _ (er_up h0 c').1 h3 (fun up a b e => ?_) hat, fun d => ?_⟩
      · by_cases q : up = x4
        · rw [q] at e; exact absurd e d
        · exact hlow up a (by grind) e
      -- one split
      have inner : ∀ x7 (x5 x6 : Int32), 0 ≤ x7 → x7 ≤ mI u 76 11 → UCv n far x2 x4 x7.toNatClampNeg x5 x6 → (∀ h l, UCv n far x2 x4 x7.toNatClampNeg h l → x5 ≤ h ∧ x6 ≤ l) → Ws G m_roundOf 32 [(0, .ref 76), (1, .int x1), (2, .int x2), (3, .int x3), (4, .int x4), (5, .int x5), (6, .int x6), (7, .int x7)] [] u (RI fun a u' => u = u' ∧ IsR n far (mI u 76 11).toNatClampNeg x2 a) := by
        refine upI (mI u 76 11) _ (fun x7 ih7 x5 x6 h7 h7m hU hL => ?_)
        have b5 := hU.1
        have b6 := hU.2.1
        unfold b30 at b5 b6
        refine sg_m_roundOf_32 ?_
        rw [hN]
        refine ⟨fun q => ?_, fun q => ?_⟩
        · rw [Int32.le_antisymm h7m q] at hU hL
          have cov : CovP n far (mI u 76 11).toNatClampNeg x2 x5 x6 := fun s hs t => by
            have r := hU.2.2 s hs
            cases z : tb x4 s
            · rcases r.2 z t with y | y
              · exact .inl (by rw [y]; exact b5.1)
              · exact .inr y
            · exact .inl (r.1 z)
          refine ⟨fun p => ih c' _ (er_up h0 c').1 h3 (fun up a b e h l hv => ?_) hat, fun p => ih c' _ (er_up h0 c').1 ⟨by clear ih ih7 hlow hat hL; grind, by clear ih ih7 hlow hat hL; grind⟩ (fun up a b e h l hv => ?_) (.inr ⟨x5, x6, hU.1, hU.2.1, cov, rfl⟩)⟩
          · by_cases w : up = x4
            · rw [w] at hv
              have y := hL h l hv
              have y1 := hv.1
              have y2 := hv.2.1
              unfold b30 at y1 y2
              grind
            · exact hlow up a (by grind) e h l hv
          · by_cases w : up = x4
            · rw [w] at hv
              have y := hL h l hv
              have y1 := hv.1
              have y2 := hv.2.1
              unfold b30 at y1 y2
              grind
            · have := hlow up a (by grind) e h l hv
              grind
        · have x7lt := Int32.not_le.mp q
          have sx := tn_succ h7 q
          have x72 : x7 < 32 := by grind
          have v7 : vp_in x7 7 := vin h7 (show (_ : Int32) < 7 by grind) (by decide)
          have f7 := fr x7.toNatClampNeg
          rw [ef]
          have st : ∀ a b : Int32, x5 ≤ a → x6 ≤ b → b30 a → b30 b → ((tb x4 x7.toNatClampNeg = true → far x7.toNatClampNeg ≤ a) ∧ (tb x4 x7.toNatClampNeg = false → tb x2 x7.toNatClampNeg = true → far x7.toNatClampNeg = 0 ∨ n - far x7.toNatClampNeg ≤ b)) → (∀ h l, UCv n far x2 x4 (x7.toNatClampNeg + 1) h l → a ≤ h ∧ b ≤ l) → Ws G m_roundOf 32 [(0, .ref 76), (1, .int x1), (2, .int x2), (3, .int x3), (4, .int x4), (5, .int a), (6, .int b), (7, .int (x7 + 1))] [] u (RI fun a u' => u = u' ∧ IsR n far (mI u 76 11).toNatClampNeg x2 a) := fun a b e1 e2 ba bb z hm => by
            refine ih7 q _ _ (er_up h7 q).1 (er_up h7 q).2 ?_ ?_
            · rw [sx]; exact hU.up e1 e2 ba bb z
            · rw [sx]; exact hm
          have keep := fun z => st x5 x6 (Int32.le_refl _) (Int32.le_refl _) hU.1 hU.2.1 z (fun h l hv => hL h l hv.dn)
          refine ⟨v7, nz, fun p => ?_, fun p => ?_⟩
          · have t4 := tb_n h7 x72 p
            refine ⟨fun r => keep ⟨fun t => by rw [t4] at t; exact absurd t (by decide), fun _ t => by rw [tb_n h7 x72 r] at t; exact absurd t (by decide)⟩, fun r => ⟨fun y => ⟨fun z => keep ⟨fun t => by rw [t4] at t; exact absurd t (by decide), fun _ _ => .inr z⟩, fun z => ?_⟩, fun y => ⟨fun _ => keep ⟨fun t => by rw [t4] at t; exact absurd t (by decide), fun _ _ => .inl y⟩, fun z => absurd b6.1 z⟩⟩⟩
            refine st _ _ (Int32.le_refl _) (by grind) hU.1 (by unfold b30; grind) ⟨fun t => by rw [t4] at t; exact absurd t (by decide), fun _ _ => .inr (Int32.le_refl _)⟩ (fun h l hv => ⟨(hL h l hv.dn).1, ?_⟩)
            rcases (hv.2.2 _ (Nat.lt_succ_self _)).2 t4 ((tbx h7 x72).mp r) with w | w
            · exact absurd w y
            · exact w
          · have t4 := (tbx h7 x72).mp p
            refine ⟨fun r => keep ⟨fun _ => r, fun t => by rw [t4] at t; exact absurd t (by decide)⟩, fun r => ?_⟩
            exact st _ _ (by grind) (Int32.le_refl _) (by unfold b30; grind) hU.2.1 ⟨fun _ => Int32.le_refl _, fun t => by rw [t4] at t; exact absurd t (by decide)⟩ (fun h l hv => ⟨(hv.2.2 _ (Nat.lt_succ_self _)).1 t4, (hL h l hv.dn).2⟩)
      have z0 : (0 : Int32).toNatClampNeg = 0 := by decide
      exact inner 0 0 0 (by decide) m7.1 ⟨by unfold b30; decide, by unfold b30; decide, fun s hs => by omega⟩ (fun h l hv => ⟨hv.1.1, hv.2.1.1⟩)
  refine sg_m_roundOf_0 ?_
  rw [hN]
  exact outer 0 n (by decide) ⟨by grind, Int32.le_refl _⟩ (fun up a b => absurd b (by grind)) (.inl rfl)
end RND
