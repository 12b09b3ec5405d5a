section RND
variable {G : pG} {u : pM}
theorem c_roundOfx {o0 o1 : Nat} {x2 x3 : Int32} (k0 : okS o0 5) (k1 : okS o1 2) (hn : 10 ≤ mI u o1 0 ∧ mI u o1 0 ≤ 30) (hm : 0 ≤ mI u o1 1 ∧ mI u o1 1 ≤ 7) (hx : 0 ≤ x2 ∧ x2 < 100) (hd : ∀ s, s < (mI u o1 1).toNatClampNeg → 0 ≤ mI u (o0 + 1) s ∧ mI u (o0 + 1) s < 100) : Ws G Sn_roundOf 0 [(0, .ref o0), (1, .ref o1), (2, .int x2), (3, .int x3)] [] u (RI fun a u' => u = u' ∧ IsR (mI u o1 0) (farP (mI u o1 0) (mI u (o0 + 1)) x2) (mI u o1 1).toNatClampNeg x3 a) := by
  have m7N : (mI u o1 1).toNatClampNeg ≤ 7 := by
    have := tn_le hm.2
    have e7 : (7 : Int32).toNatClampNeg = 7 := by decide
    omega
  have fr : ∀ s, 0 ≤ farP (mI u o1 0) (mI u (o0 + 1)) x2 s ∧ farP (mI u o1 0) (mI u (o0 + 1)) x2 s < mI u o1 0 := fun s => dAt_rg hn.1 hn.2
  have ef : ∀ s : Int32, 0 ≤ s → s < mI u o1 1 → wrV (mI u o1 0) (snD u o0 s - x2).toInt64 = farP (mI u o1 0) (mI u (o0 + 1)) x2 s.toNatClampNeg := fun s s0 s1 => by
    have := hd _ (tn_lt s0 s1)
    rw [wr_dAt hn.1 hn.2]
    unfold snD farP
    rw [if_pos ⟨s0, by grind⟩, sub64x this hx]
  generalize hF : farP (mI u o1 0) (mI u (o0 + 1)) x2 = far at *
  generalize hN : mI u o1 0 = n at *
  -- the widest gap
  have gap : ∀ x7 (x4 x5 x6 : Int32), (∀ f : Int32, 0 ≤ f → f < 31 → (tb x4 f.toNatClampNeg = true ↔ ∃ s, s < (mI u o1 1).toNatClampNeg ∧ tb x3 s = true ∧ far s = f)) → 1 ≤ x7 → x7 ≤ n + 1 → 0 ≤ x6 → x6 < x7 → 0 ≤ x5 → x5 ≤ n → (x7 = n + 1 → x6 = n) → (∀ f, x6 < f → f < x7 → f < n → tb x4 f.toNatClampNeg = false) → ((x5 = 0 ∧ x6 = 0) ∨ ∃ a b : Int32, 0 ≤ a ∧ a < b ∧ b ≤ n ∧ x5 = b - a ∧ ∀ f, a < f → f < b → tb x4 f.toNatClampNeg = false) → (∀ h l, b30 h → b30 l → CovP n far (mI u o1 1).toNatClampNeg x3 h l → h + l < n → x6 ≤ h ∨ n - l - h ≤ x5) → Ws G Sn_roundOf 59 [(1, .ref o1), (4, .int x4), (5, .int x5), (6, .int x6), (7, .int x7)] [] u (RI fun a u' => u = u' ∧ IsR n far (mI u o1 1).toNatClampNeg x3 a) := by
    refine upI (n + 1) _ (fun x7 ih x4 x5 x6 hv h71 h7n h60 h67 h50 h5n hend hno hat hlow => ?_)
    refine sg_Sn_roundOf_59 k1 ?_
    rw [hN]
    refine ⟨fun c => ⟨_, rfl, rfl, ?_⟩, fun c => ?_⟩
    · clear ih
      have x6n : x6 = n := hend (Int32.le_antisymm h7n (by clear hno hat hlow hv; grind))
      have r1 := rg1 hn h50 h5n
      refine ⟨r1, fun h l hb lb cov => rg2 hn h50 h5n hb lb (fun q => ?_), ?_⟩
      · rcases hlow h l hb lb cov q with r | r
        · rw [x6n] at r
          unfold b30 at hb lb
          clear hno hat hlow hv
          grind
        · exact r
      · by_cases q : 2 * (n - x5) < n
        · rw [if_pos q]
          rcases hat with r | ⟨a, b, a0, ab, bn, e, no⟩
          · rw [x6n] at r
            exact absurd r.2 (by clear hno hlow hv; grind)
          · have g := rg3 hn a0 ab bn
            refine .inr ⟨a, n - b, g.2.1, g.2.2, fun s hs t => ?_, by rw [e]; exact g.1⟩
            have fs := fr s
            have tv := (hv (far s) fs.1 (Int32.lt_of_lt_of_le fs.2 (Int32.le_trans hn.2 (by decide)))).mpr ⟨s, hs, t, rfl⟩
            by_cases p : far s ≤ a
            · exact .inl p
            · right
              by_cases p2 : far s < b
              · rw [no _ (Int32.not_le.mp p) p2] at tv; exact absurd tv (by decide)
              · exact rg4 hn fs.1 fs.2 bn (Int32.le_trans a0 (Int32.le_of_lt ab)) p2
        · rw [if_neg q]; exact .inl rfl
    · have g7 := rg7 hn h71 c
      have hit : (x7 = n ∨ tb x4 x7.toNatClampNeg = true) → Ws G Sn_roundOf 59 [(1, .ref o1), (4, .int x4), (5, .int (if x5 < (x7 - x6) then (x7 - x6) else x5)), (6, .int x7), (7, .int (x7 + 1))] [] u (RI fun a u' => u = u' ∧ IsR n far (mI u o1 1).toNatClampNeg x3 a) := fun hx7 => by
        have g5 := rg5 hn h60 h67 g7.2.2.2.2.2 h50 h5n
        refine ih g7.1 x4 _ x7 hv g7.2.1 g7.2.2.1 g7.2.2.2.2.1 g7.2.2.2.1 g5.1 g5.2 (fun e => ?_) (fun f a b _ => ?_) ?_ (fun h l hb lb cov q => ?_)
        · clear ih hno hat hlow hv; grind
        · exact absurd a (Int32.not_lt.mpr (by clear ih hno hat hlow hv; grind))
        · right
          by_cases w : x5 < x7 - x6
          · rw [if_pos w]
            exact ⟨x6, x7, h60, h67, g7.2.2.2.2.2, rfl, fun f a b => hno f a b (Int32.lt_of_lt_of_le b g7.2.2.2.2.2)⟩
          · rw [if_neg w]
            rcases hat with r | r
            · exact absurd (show x5 < x7 - x6 by rw [r.1, r.2]; clear ih hno hlow hv; grind) w
            · exact r
        · have hlo := hlow h l hb lb cov q
          by_cases p : x7 ≤ h
          · exact .inl p
          · right
            refine rg6 hn h60 h67 g7.2.2.2.2.2 h50 h5n hb lb ?_ hlo
            rcases hx7 with e | e
            · exact rg9 hn lb e
            · obtain ⟨s, hs, t, e2⟩ := (hv x7 g7.2.2.2.2.1 (Int32.lt_of_le_of_lt g7.2.2.2.2.2 (Int32.lt_of_le_of_lt hn.2 (by decide)))).mp e
              rcases cov s hs t with r | r <;> rw [e2] at r
              · exact absurd r p
              · exact rg8 (h := h) hn lb g7.2.2.2.2.1 g7.2.2.2.2.2 r
      refine ⟨fun e => hit (.inl e), fun e => ?_⟩
      have it := isI_tb (x := x4) g7.2.2.2.2.1 (Int32.lt_of_le_of_lt g7.2.2.2.2.2 (Int32.lt_of_le_of_lt hn.2 (by decide)))
      refine ⟨fun r => hit (.inr (it.mp r)), fun r => ?_⟩
      have tf : tb x4 x7.toNatClampNeg = false := by
        cases z : tb x4 x7.toNatClampNeg
        · rfl
        · exact absurd (it.mpr z) r
      refine ih g7.1 x4 x5 x6 hv g7.2.1 g7.2.2.1 h60 (Int32.lt_trans h67 g7.2.2.2.1) h50 h5n (fun q => ?_) (fun f a b p => ?_) hat hlow
      · exact absurd (show x7 = n by clear ih hit hno hat hlow hv; grind) e
      · by_cases w : f = x7
        · rw [w]; exact tf
        · exact hno f a (rgz g7.2.2.2.2.1 (Int32.le_trans g7.2.2.2.2.2 hn.2) b w) p
  have k6 : ∀ x5 (x4 : Int32), 0 ≤ x5 → x5 ≤ mI u o1 1 → (∀ f : Int32, 0 ≤ f → f < 31 → (tb x4 f.toNatClampNeg = true ↔ ∃ s, s < x5.toNatClampNeg ∧ tb x3 s = true ∧ far s = f)) → Ws G Sn_roundOf 6 [(0, .ref o0), (1, .ref o1), (2, .int x2), (3, .int x3), (4, .int x4), (5, .int x5)] [] u (RI fun a u' => u = u' ∧ IsR n far (mI u o1 1).toNatClampNeg x3 a) := by
    refine upI (mI u o1 1) _ (fun x5 ih x4 h0 hx5 hv => ?_)
    refine sg_Sn_roundOf_6 k0 k1 ?_
    rw [hN]
    refine ⟨fun c => ?_, fun c => ?_⟩
    · rw [Int32.le_antisymm hx5 c] at hv
      exact gap 1 x4 0 0 hv (by decide) (by clear gap ih hv; grind) (by decide) (by decide) (by decide) (by clear gap ih hv; grind) (fun e => by clear gap ih hv; grind) (fun f a b _ => by clear gap ih hv; grind) (.inl ⟨rfl, rfl⟩) (fun h l hb lb _ _ => .inl hb.1)
    · have lt := Int32.not_le.mp c
      have sx := tn_succ h0 c
      have it := isI_tb (x := x3) h0 (show x5 < 31 by grind)
      rw [ef x5 h0 lt]
      have f5 := fr x5.toNatClampNeg
      refine ⟨fun r => ih c _ (er_up h0 c).1 (er_up h0 c).2 (fun f f0 f31 => ?_), fun r => ih c _ (er_up h0 c).1 (er_up h0 c).2 (fun f f0 f31 => ?_)⟩
      · have fN : f.toNatClampNeg < 31 := by have := tn_lt f0 f31; have e : (31 : Int32).toNatClampNeg = 31 := (by decide); omega
        rw [tbo f5.1 (by grind) (by omega), sx, Bool.or_eq_true, hv f f0 f31]
        constructor
        · rintro (⟨s, a, b⟩ | e)
          · exact ⟨s, by omega, b⟩
          · exact ⟨x5.toNatClampNeg, by omega, it.mp r, (tn_inj f0 f5.1 (of_decide_eq_true e)).symm⟩
        · rintro ⟨s, a, b, e⟩
          by_cases q : s = x5.toNatClampNeg
          · right; rw [← e, q]; simp
          · exact .inl ⟨s, by omega, b, e⟩
      · rw [sx, hv f f0 f31]
        constructor
        · rintro ⟨s, a, b⟩
          exact ⟨s, by omega, b⟩
        · rintro ⟨s, a, b, e⟩
          by_cases q : s = x5.toNatClampNeg
          · rw [q] at b; exact absurd (it.mpr b) r
          · exact ⟨s, by omega, b, e⟩
  have z0 : (0 : Int32).toNatClampNeg = 0 := by decide
  refine sg_Sn_roundOf_0 k0 k1 (k6 0 0 (by decide) hm.1 (fun f _ _ => ?_))
  constructor
  · intro h
    have : tb 0 f.toNatClampNeg = false := BitVec.getLsbD_zero
    rw [this] at h; exact absurd h (by decide)
  · rintro ⟨s, a, _⟩; omega
end RND
