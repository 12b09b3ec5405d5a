/-! ===== a round, without a heap ===== -/
/-- all of the set lie at most h upward or at most l downward -/
def CovP (n : Int32) (far : Nat → Int32) (m : Nat) (set h l : Int32) : Prop := ∀ s, s < m → tb set s = true → far s ≤ h ∨ n - far s ≤ l
def b30 (h : Int32) : Prop := 0 ≤ h ∧ h ≤ 30
/-- what a round's length is, by what it is the least of -/
def IsR (n : Int32) (far : Nat → Int32) (m : Nat) (set r : Int32) : Prop := (0 ≤ r ∧ r ≤ n) ∧ (∀ h l, b30 h → b30 l → CovP n far m set h l → r ≤ 2 * (h + l)) ∧ (r = n ∨ ∃ h l, b30 h ∧ b30 l ∧ CovP n far m set h l ∧ r = 2 * (h + l))
theorem IsR.le {n : Int32} {far : Nat → Int32} {m : Nat} {set r r' : Int32} (h : IsR n far m set r) (h' : IsR n far m set r') : r ≤ r' := by
  rcases h'.2.2 with e | ⟨a, b, a1, b1, c, e⟩
  · rw [e]; exact h.1.2
  · rw [e]; exact h.2.1 a b a1 b1 c
theorem IsR.eq {n : Int32} {far : Nat → Int32} {m : Nat} {set r r' : Int32} (h : IsR n far m set r) (h' : IsR n far m set r') : r = r' := Int32.le_antisymm (h.le h') (h'.le h)
/-- one round for both is no longer than two -/
theorem IsR.add {n : Int32} {far : Nat → Int32} {m : Nat} {A B C a b c : Int32} (hn : n ≤ 30) (hA : IsR n far m A a) (hB : IsR n far m B b) (hC : IsR n far m C c) (hs : ∀ s, s < m → tb C s = true → tb A s = true ∨ tb B s = true) : c ≤ a + b := by
  have qA := hA.1
  have qB := hB.1
  have qC := hC.1
  rcases hA.2.2 with e | ⟨h1, l1, h1b, l1b, c1, e1⟩
  · grind
  rcases hB.2.2 with e | ⟨h2, l2, h2b, l2b, c2, e2⟩
  · grind
  unfold b30 at *
  have key : ∀ h l : Int32, (h = h1 ∨ h = h2) → (l = l1 ∨ l = l2) → h1 ≤ h → h2 ≤ h → l1 ≤ l → l2 ≤ l → c ≤ 2 * (h + l) := by
    intro h l eh el p1 p2 p3 p4
    refine hC.2.1 h l (by unfold b30; rcases eh with e | e <;> rw [e] <;> assumption) (by unfold b30; rcases el with e | e <;> rw [e] <;> assumption) (fun s hsm ht => ?_)
    rcases hs s hsm ht with q | q
    · rcases c1 s hsm q with r | r
      · exact .inl (Int32.le_trans r p1)
      · exact .inr (Int32.le_trans r p3)
    · rcases c2 s hsm q with r | r
      · exact .inl (Int32.le_trans r p2)
      · exact .inr (Int32.le_trans r p4)
  rcases Int32.le_total h1 h2 with q | q <;> rcases Int32.le_total l1 l2 with r | r
  · have := key h2 l2 (.inr rfl) (.inr rfl) q (Int32.le_refl _) r (Int32.le_refl _); grind
  · have := key h2 l1 (.inr rfl) (.inl rfl) q (Int32.le_refl _) (Int32.le_refl _) r; grind
  · have := key h1 l2 (.inl rfl) (.inr rfl) (Int32.le_refl _) q r (Int32.le_refl _); grind
  · have := key h1 l1 (.inl rfl) (.inl rfl) (Int32.le_refl _) q (Int32.le_refl _) r; grind
theorem tb_and {x y : Int32} {i : Nat} : tb (x &&& y) i = (tb x i && tb y i) := by
  unfold tb
  rw [Int32.toBitVec_and, BitVec.getLsbD_and]
theorem ex_bits (P : Nat → Bool) : ∀ k, k ≤ 31 → ∃ b : Int32, ∀ s, s < k → tb b s = P s
  | 0, _ => ⟨0, fun s hs => by omega⟩
  | k + 1, hk => by
    obtain ⟨b, hb⟩ := ex_bits P k (by omega)
    cases hP : P k
    · refine ⟨b &&& ((1 <<< (Int32.ofNat k &&& 31)) ^^^ (-1)), fun s hs => ?_⟩
      rw [tb_an (by omega) (by omega)]
      by_cases e : s = k
      · rw [e, hP]; simp
      · rw [hb s (by omega)]; simp [e]
    · refine ⟨b ||| (1 <<< (Int32.ofNat k &&& 31)), fun s hs => ?_⟩
      rw [tb_or (by omega) (by omega)]
      by_cases e : s = k
      · rw [e, hP]; simp
      · rw [hb s (by omega)]; simp [e]
theorem nn_msb {b : Int32} (h : 0 ≤ b) : b.toBitVec.msb = false := by
  have z := Int32.le_iff_toInt_le.mp h
  have d0 : (0 : Int32).toInt = 0 := by decide
  rw [BitVec.msb_eq_toInt]
  have e : b.toBitVec.toInt = b.toInt := rfl
  rw [e]
  exact decide_eq_false (by omega)
theorem and_leI {a b : Int32} (hb : 0 ≤ b) : 0 ≤ (a &&& b) ∧ (a &&& b) ≤ b := by
  have m1 := nn_msb hb
  have m2 : (a &&& b).toBitVec.msb = false := by rw [Int32.toBitVec_and, BitVec.msb_and, m1, Bool.and_false]
  have t1 : b.toInt = (b.toBitVec.toNat : Int) := BitVec.toInt_eq_toNat_of_msb m1
  have t2 : (a &&& b).toInt = ((a &&& b).toBitVec.toNat : Int) := BitVec.toInt_eq_toNat_of_msb m2
  have l : (a &&& b).toBitVec.toNat ≤ b.toBitVec.toNat := by
    rw [Int32.toBitVec_and, BitVec.toNat_and]
    exact Nat.and_le_right
  have d0 : (0 : Int32).toInt = 0 := by decide
  exact ⟨Int32.le_iff_toInt_le.mpr (by omega), Int32.le_iff_toInt_le.mpr (by omega)⟩
def farP (n : Int32) (dr : Nat → Int32) (d : Int32) : Nat → Int32 := fun s => dAt n ((dr s).toInt64 - d.toInt64)
theorem sub64x {a b : Int32} (ha : 0 ≤ a ∧ a < 100) (hb : 0 ≤ b ∧ b < 100) : (a - b).toInt64 = a.toInt64 - b.toInt64 := by
  have a1 := Int32.le_iff_toInt_le.mp ha.1
  have a2 := Int32.lt_iff_toInt_lt.mp ha.2
  have b1 := Int32.le_iff_toInt_le.mp hb.1
  have b2 := Int32.lt_iff_toInt_lt.mp hb.2
  have d0 : (0 : Int32).toInt = 0 := by decide
  have d1 : (100 : Int32).toInt = 100 := by decide
  apply Int64.toInt_inj.mp
  rw [Int32.toInt_toInt64, Int64.toInt_sub, Int32.toInt_toInt64, Int32.toInt_toInt64, Int32.toInt_sub, Int.bmod_eq_of_le (by omega) (by omega), Int.bmod_eq_of_le (by omega) (by omega)]
/-- by how much a split of the set goes upward and downward -/
def UCv (n : Int32) (far : Nat → Int32) (set up : Int32) (k : Nat) (h l : Int32) : Prop := b30 h ∧ b30 l ∧ ∀ s, s < k → (tb up s = true → far s ≤ h) ∧ (tb up s = false → tb set s = true → far s = 0 ∨ n - far s ≤ l)
theorem UCv.dn {n : Int32} {far : Nat → Int32} {set up : Int32} {k : Nat} {h l : Int32} (q : UCv n far set up (k + 1) h l) : UCv n far set up k h l := ⟨q.1, q.2.1, fun s hs => q.2.2 s (by omega)⟩
theorem UCv.up {n : Int32} {far : Nat → Int32} {set up : Int32} {k : Nat} {h l h' l' : Int32} (q : UCv n far set up k h l) (eh : h ≤ h') (el : l ≤ l') (bh : b30 h') (bl : b30 l') (z : (tb up k = true → far k ≤ h') ∧ (tb up k = false → tb set k = true → far k = 0 ∨ n - far k ≤ l')) : UCv n far set up (k + 1) h' l' := by
  refine ⟨bh, bl, fun s hs => ?_⟩
  by_cases e : s = k
  · rw [e]; exact z
  · have r := q.2.2 s (by omega)
    refine ⟨fun a => Int32.le_trans (r.1 a) eh, fun a b => ?_⟩
    rcases r.2 a b with c | c
    · exact .inl c
    · exact .inr (Int32.le_trans c el)
theorem rg1 {n x : Int32} (hn : 10 ≤ n ∧ n ≤ 30) (h0 : 0 ≤ x) (h1 : x ≤ n) : 0 ≤ (if 2 * (n - x) < n then 2 * (n - x) else n) ∧ (if 2 * (n - x) < n then 2 * (n - x) else n) ≤ n := by split <;> grind
theorem rg2 {n x h l : Int32} (hn : 10 ≤ n ∧ n ≤ 30) (h0 : 0 ≤ x) (h1 : x ≤ n) (hb : 0 ≤ h ∧ h ≤ 30) (lb : 0 ≤ l ∧ l ≤ 30) (q : h + l < n → n - l - h ≤ x) : (if 2 * (n - x) < n then 2 * (n - x) else n) ≤ 2 * (h + l) := by
  by_cases c : h + l < n
  · have := q c
    split <;> grind
  · split <;> grind
theorem rg3 {n a b : Int32} (hn : 10 ≤ n ∧ n ≤ 30) (a0 : 0 ≤ a) (ab : a < b) (bn : b ≤ n) : 2 * (n - (b - a)) = 2 * (a + (n - b)) ∧ (0 ≤ a ∧ a ≤ 30) ∧ 0 ≤ n - b ∧ n - b ≤ 30 := ⟨by grind, by grind, by grind, by grind⟩
theorem rg4 {n f b : Int32} (hn : 10 ≤ n ∧ n ≤ 30) (f0 : 0 ≤ f) (f1 : f < n) (bn : b ≤ n) (b0 : 0 ≤ b) (h : ¬ f < b) : n - f ≤ n - b := by grind
theorem rg5 {n x5 x6 x7 : Int32} (hn : 10 ≤ n ∧ n ≤ 30) (h60 : 0 ≤ x6) (h67 : x6 < x7) (h7 : x7 ≤ n) (h50 : 0 ≤ x5) (h5 : x5 ≤ n) : 0 ≤ (if x5 < x7 - x6 then x7 - x6 else x5) ∧ (if x5 < x7 - x6 then x7 - x6 else x5) ≤ n := by split <;> grind
theorem rg6 {n x5 x6 x7 h l : Int32} (hn : 10 ≤ n ∧ n ≤ 30) (h60 : 0 ≤ x6) (h67 : x6 < x7) (h7 : x7 ≤ n) (h50 : 0 ≤ x5) (h5 : x5 ≤ n) (hb : 0 ≤ h ∧ h ≤ 30) (lb : 0 ≤ l ∧ l ≤ 30) (big : n - l ≤ x7) (r : x6 ≤ h ∨ n - l - h ≤ x5) : n - l - h ≤ (if x5 < x7 - x6 then x7 - x6 else x5) := by
  rcases r with r | r
  · split <;> grind
  · split <;> grind
theorem rg7 {n x7 : Int32} (hn : 10 ≤ n ∧ n ≤ 30) (h1 : 1 ≤ x7) (c : ¬ n < x7) : ¬ n + 1 ≤ x7 ∧ 1 ≤ x7 + 1 ∧ x7 + 1 ≤ n + 1 ∧ x7 < x7 + 1 ∧ 0 ≤ x7 ∧ x7 ≤ n := ⟨by grind, by grind, by grind, by grind, by grind, by grind⟩
theorem rg8 {n l f h : Int32} (hn : 10 ≤ n ∧ n ≤ 30) (lb : 0 ≤ l ∧ l ≤ 30) (f0 : 0 ≤ f) (f1 : f ≤ n) (h : n - f ≤ l) : n - l ≤ f := by grind
theorem rg9 {n l x : Int32} (hn : 10 ≤ n ∧ n ≤ 30) (lb : 0 ≤ l ∧ l ≤ 30) (e : x = n) : n - l ≤ x := by grind
theorem rgz {f x7 : Int32} (h0 : 0 ≤ x7) (h30 : x7 ≤ 30) (a : f < x7 + 1) (b : ¬ f = x7) : f < x7 := by grind
section RND
variable {G : pG} {u : pM}
theorem e_roundOfx {x1 x2 : Int32} (hM : InvM u) (hn : 10 ≤ mI u 76 10 ∧ mI u 76 10 ≤ 30) (h20 : 0 ≤ x2) (h2 : x2 < 128) : Ws G m_roundOf 0 [(0, .ref 76), (1, .int x1), (2, .int x2)] [] u (RI fun a u' => u = u' ∧ IsR (mI u 76 10) (farP (mI u 76 10) (mI u 85) x1) (mI u 76 11).toNatClampNeg x2 a) := by
  have m7 := hM.m7
  have m7N : (mI u 76 11).toNatClampNeg ≤ 7 := by
    have := tn_le m7.2
    have e7 : (7 : Int32).toNatClampNeg = 7 := by decide
    omega
  have nz : ¬ (mI u 76 10).toInt64 = 0 := i64_ne (by grind)
  have fr : ∀ s, 0 ≤ farP (mI u 76 10) (mI u 85) x1 s ∧ farP (mI u 76 10) (mI u 85) x1 s < mI u 76 10 := fun s => dAt_rg hn.1 hn.2
  have ef : ∀ k : Nat, dAt (mI u 76 10) ((mI u 85 k).toInt64 - x1.toInt64) = farP (mI u 76 10) (mI u 85) x1 k := fun _ => rfl
  generalize hF : farP (mI u 76 10) (mI u 85) x1 = far at *
  generalize hN : mI u 76 10 = n at *
  have outer : ∀ x4 (x3 : Int32), 0 ≤ x4 → (0 ≤ x3 ∧ x3 ≤ n) → (∀ up, 0 ≤ up → up < x4 → up &&& (x2 ^^^ (-1)) = 0 → ∀ h l, UCv n far x2 up (mI u 76 11).toNatClampNeg h l → x3 ≤ 2 * (h + l)) → (x3 = n ∨ ∃ h l, b30 h ∧ b30 l ∧ CovP n far (mI u 76 11).toNatClampNeg x2 h l ∧ x3 = 2 * (h + l)) → Ws G m_roundOf 8 [(0, .ref 76), (1, .int x1), (2, .int x2), (3, .int x3), (4, .int x4)] [] u (RI fun a u' => u = u' ∧ IsR n far (mI u 76 11).toNatClampNeg x2 a) := by
    refine upI (x2 + 1) _ (fun x4 ih x3 h0 h3 hlow hat => ?_)
    refine sg_m_roundOf_8 ⟨fun c => ?_, fun c => ?_⟩
    · have fin : IsR n far (mI u 76 11).toNatClampNeg x2 x3 := by
        refine ⟨h3, fun h l hb lb cov => ?_, hat⟩
        obtain ⟨b, hb'⟩ := ex_bits (fun s => decide (far s ≤ h)) 7 (by decide)
        have al := and_leI (a := b) h20
        refine hlow (b &&& x2) al.1 (by grind) ?_ h l ⟨hb, lb, fun s hs => ⟨fun t => ?_, fun t t2 => ?_⟩⟩
        · apply Int32.toBitVec_inj.mp
          apply BitVec.eq_of_getLsbD_eq
          intro i hi
          have m1 : ∀ i, i < 32 → (Int32.toBitVec (-1)).getLsbD i = true := by decide +kernel
          have z : (Int32.toBitVec 0).getLsbD i = false := BitVec.getLsbD_zero
          simp only [Int32.toBitVec_and, Int32.toBitVec_xor, BitVec.getLsbD_and, BitVec.getLsbD_xor, m1 i hi, z]
          cases b.toBitVec.getLsbD i <;> cases x2.toBitVec.getLsbD i <;> rfl
        · rw [tb_and, Bool.and_eq_true, hb' s (by omega)] at t
          exact of_decide_eq_true t.1
        · rw [tb_and, t2, Bool.and_true, hb' s (by omega)] at t
          rcases cov s hs t2 with q | q
          · exact absurd q (of_decide_eq_false t)
          · exact .inr q
      refine ⟨fun _ => ⟨_, rfl, rfl, fin⟩, fun e => ⟨_, rfl, rfl, ?_⟩⟩
      have t0 : ∀ s, tb x2 s = false := fun s => by rw [e]; exact BitVec.getLsbD_zero
      have cv : CovP n far (mI u 76 11).toNatClampNeg x2 0 0 := fun s _ t => by rw [t0 s] at t; exact absurd t (by decide)
      exact ⟨⟨by decide, by grind⟩, fun h l hb lb _ => by unfold b30 at hb lb; grind, .inr ⟨0, 0, by unfold b30; decide, by unfold b30; decide, cv, by decide⟩⟩
    · have c' : ¬ x2 + 1 ≤ x4 := by grind
      refine ⟨fun d => ih c' _ (er_up h0 c').1 h3 (fun up a b e => ?_) hat, fun d => ?_⟩
      · by_cases q : up = x4
        · rw [q] at e; exact absurd e d
        · exact hlow up a (by grind) e
      -- one split
      have inner : ∀ x7 (x5 x6 : Int32), 0 ≤ x7 → x7 ≤ mI u 76 11 → UCv n far x2 x4 x7.toNatClampNeg x5 x6 → (∀ h l, UCv n far x2 x4 x7.toNatClampNeg h l → x5 ≤ h ∧ x6 ≤ l) → Ws G m_roundOf 32 [(0, .ref 76), (1, .int x1), (2, .int x2), (3, .int x3), (4, .int x4), (5, .int x5), (6, .int x6), (7, .int x7)] [] u (RI fun a u' => u = u' ∧ IsR n far (mI u 76 11).toNatClampNeg x2 a) := by
        refine upI (mI u 76 11) _ (fun x7 ih7 x5 x6 h7 h7m hU hL => ?_)
        have b5 := hU.1
        have b6 := hU.2.1
        unfold b30 at b5 b6
        refine sg_m_roundOf_32 ?_
        rw [hN]
        refine ⟨fun q => ?_, fun q => ?_⟩
        · rw [Int32.le_antisymm h7m q] at hU hL
          have cov : CovP n far (mI u 76 11).toNatClampNeg x2 x5 x6 := fun s hs t => by
            have r := hU.2.2 s hs
            cases z : tb x4 s
            · rcases r.2 z t with y | y
              · exact .inl (by rw [y]; exact b5.1)
              · exact .inr y
            · exact .inl (r.1 z)
          refine ⟨fun p => ih c' _ (er_up h0 c').1 h3 (fun up a b e h l hv => ?_) hat, fun p => ih c' _ (er_up h0 c').1 ⟨by clear ih ih7 hlow hat hL; grind, by clear ih ih7 hlow hat hL; grind⟩ (fun up a b e h l hv => ?_) (.inr ⟨x5, x6, hU.1, hU.2.1, cov, rfl⟩)⟩
          · by_cases w : up = x4
            · rw [w] at hv
              have y := hL h l hv
              have y1 := hv.1
              have y2 := hv.2.1
              unfold b30 at y1 y2
              grind
            · exact hlow up a (by grind) e h l hv
          · by_cases w : up = x4
            · rw [w] at hv
              have y := hL h l hv
              have y1 := hv.1
              have y2 := hv.2.1
              unfold b30 at y1 y2
              grind
            · have := hlow up a (by grind) e h l hv
              grind
        · have x7lt := Int32.not_le.mp q
          have sx := tn_succ h7 q
          have x72 : x7 < 32 := by grind
          have v7 : vp_in x7 7 := vin h7 (show (_ : Int32) < 7 by grind) (by decide)
          have f7 := fr x7.toNatClampNeg
          rw [ef]
          have st : ∀ a b : Int32, x5 ≤ a → x6 ≤ b → b30 a → b30 b → ((tb x4 x7.toNatClampNeg = true → far x7.toNatClampNeg ≤ a) ∧ (tb x4 x7.toNatClampNeg = false → tb x2 x7.toNatClampNeg = true → far x7.toNatClampNeg = 0 ∨ n - far x7.toNatClampNeg ≤ b)) → (∀ h l, UCv n far x2 x4 (x7.toNatClampNeg + 1) h l → a ≤ h ∧ b ≤ l) → Ws G m_roundOf 32 [(0, .ref 76), (1, .int x1), (2, .int x2), (3, .int x3), (4, .int x4), (5, .int a), (6, .int b), (7, .int (x7 + 1))] [] u (RI fun a u' => u = u' ∧ IsR n far (mI u 76 11).toNatClampNeg x2 a) := fun a b e1 e2 ba bb z hm => by
            refine ih7 q _ _ (er_up h7 q).1 (er_up h7 q).2 ?_ ?_
            · rw [sx]; exact hU.up e1 e2 ba bb z
            · rw [sx]; exact hm
          have keep := fun z => st x5 x6 (Int32.le_refl _) (Int32.le_refl _) hU.1 hU.2.1 z (fun h l hv => hL h l hv.dn)
          refine ⟨v7, nz, fun p => ?_, fun p => ?_⟩
          · have t4 := tb_n h7 x72 p
            refine ⟨fun r => keep ⟨fun t => by rw [t4] at t; exact absurd t (by decide), fun _ t => by rw [tb_n h7 x72 r] at t; exact absurd t (by decide)⟩, fun r => ⟨fun y => ⟨fun z => keep ⟨fun t => by rw [t4] at t; exact absurd t (by decide), fun _ _ => .inr z⟩, fun z => ?_⟩, fun y => ⟨fun _ => keep ⟨fun t => by rw [t4] at t; exact absurd t (by decide), fun _ _ => .inl y⟩, fun z => absurd b6.1 z⟩⟩⟩
            refine st _ _ (Int32.le_refl _) (by grind) hU.1 (by unfold b30; grind) ⟨fun t => by rw [t4] at t; exact absurd t (by decide), fun _ _ => .inr (Int32.le_refl _)⟩ (fun h l hv => ⟨(hL h l hv.dn).1, ?_⟩)
            rcases (hv.2.2 _ (Nat.lt_succ_self _)).2 t4 ((tbx h7 x72).mp r) with w | w
            · exact absurd w y
            · exact w
          · have t4 := (tbx h7 x72).mp p
            refine ⟨fun r => keep ⟨fun _ => r, fun t => by rw [t4] at t; exact absurd t (by decide)⟩, fun r => ?_⟩
            exact st _ _ (by grind) (Int32.le_refl _) (by unfold b30; grind) hU.2.1 ⟨fun _ => Int32.le_refl _, fun t => by rw [t4] at t; exact absurd t (by decide)⟩ (fun h l hv => ⟨(hv.2.2 _ (Nat.lt_succ_self _)).1 t4, (hL h l hv.dn).2⟩)
      have z0 : (0 : Int32).toNatClampNeg = 0 := by decide
      exact inner 0 0 0 (by decide) m7.1 ⟨by unfold b30; decide, by unfold b30; decide, fun s hs => by omega⟩ (fun h l hv => ⟨hv.1.1, hv.2.1.1⟩)
  refine sg_m_roundOf_0 ?_
  rw [hN]
  exact outer 0 n (by decide) ⟨by grind, Int32.le_refl _⟩ (fun up a b => absurd b (by grind)) (.inl rfl)
theorem c_roundOfx {o0 o1 : Nat} {x2 x3 : Int32} (k0 : okS o0 5) (k1 : okS o1 2) (hn : 10 ≤ mI u o1 0 ∧ mI u o1 0 ≤ 30) (hm : 0 ≤ mI u o1 1 ∧ mI u o1 1 ≤ 7) (hx : 0 ≤ x2 ∧ x2 < 100) (hd : ∀ s, s < (mI u o1 1).toNatClampNeg → 0 ≤ mI u (o0 + 1) s ∧ mI u (o0 + 1) s < 100) : Ws G Sn_roundOf 0 [(0, .ref o0), (1, .ref o1), (2, .int x2), (3, .int x3)] [] u (RI fun a u' => u = u' ∧ IsR (mI u o1 0) (farP (mI u o1 0) (mI u (o0 + 1)) x2) (mI u o1 1).toNatClampNeg x3 a) := by
  have m7N : (mI u o1 1).toNatClampNeg ≤ 7 := by
    have := tn_le hm.2
    have e7 : (7 : Int32).toNatClampNeg = 7 := by decide
    omega
  have fr : ∀ s, 0 ≤ farP (mI u o1 0) (mI u (o0 + 1)) x2 s ∧ farP (mI u o1 0) (mI u (o0 + 1)) x2 s < mI u o1 0 := fun s => dAt_rg hn.1 hn.2
  have ef : ∀ s : Int32, 0 ≤ s → s < mI u o1 1 → wrV (mI u o1 0) (snD u o0 s - x2).toInt64 = farP (mI u o1 0) (mI u (o0 + 1)) x2 s.toNatClampNeg := fun s s0 s1 => by
    have := hd _ (tn_lt s0 s1)
    rw [wr_dAt hn.1 hn.2]
    unfold snD farP
    rw [if_pos ⟨s0, by grind⟩, sub64x this hx]
  generalize hF : farP (mI u o1 0) (mI u (o0 + 1)) x2 = far at *
  generalize hN : mI u o1 0 = n at *
  -- the widest gap
  have gap : ∀ x7 (x4 x5 x6 : Int32), (∀ f : Int32, 0 ≤ f → f < 31 → (tb x4 f.toNatClampNeg = true ↔ ∃ s, s < (mI u o1 1).toNatClampNeg ∧ tb x3 s = true ∧ far s = f)) → 1 ≤ x7 → x7 ≤ n + 1 → 0 ≤ x6 → x6 < x7 → 0 ≤ x5 → x5 ≤ n → (x7 = n + 1 → x6 = n) → (∀ f, x6 < f → f < x7 → f < n → tb x4 f.toNatClampNeg = false) → ((x5 = 0 ∧ x6 = 0) ∨ ∃ a b : Int32, 0 ≤ a ∧ a < b ∧ b ≤ n ∧ x5 = b - a ∧ ∀ f, a < f → f < b → tb x4 f.toNatClampNeg = false) → (∀ h l, b30 h → b30 l → CovP n far (mI u o1 1).toNatClampNeg x3 h l → h + l < n → x6 ≤ h ∨ n - l - h ≤ x5) → Ws G Sn_roundOf 59 [(1, .ref o1), (4, .int x4), (5, .int x5), (6, .int x6), (7, .int x7)] [] u (RI fun a u' => u = u' ∧ IsR n far (mI u o1 1).toNatClampNeg x3 a) := by
    refine upI (n + 1) _ (fun x7 ih x4 x5 x6 hv h71 h7n h60 h67 h50 h5n hend hno hat hlow => ?_)
    refine sg_Sn_roundOf_59 k1 ?_
    rw [hN]
    refine ⟨fun c => ⟨_, rfl, rfl, ?_⟩, fun c => ?_⟩
    · clear ih
      have x6n : x6 = n := hend (Int32.le_antisymm h7n (by clear hno hat hlow hv; grind))
      have r1 := rg1 hn h50 h5n
      refine ⟨r1, fun h l hb lb cov => rg2 hn h50 h5n hb lb (fun q => ?_), ?_⟩
      · rcases hlow h l hb lb cov q with r | r
        · rw [x6n] at r
          unfold b30 at hb lb
          clear hno hat hlow hv
          grind
        · exact r
      · by_cases q : 2 * (n - x5) < n
        · rw [if_pos q]
          rcases hat with r | ⟨a, b, a0, ab, bn, e, no⟩
          · rw [x6n] at r
            exact absurd r.2 (by clear hno hlow hv; grind)
          · have g := rg3 hn a0 ab bn
            refine .inr ⟨a, n - b, g.2.1, g.2.2, fun s hs t => ?_, by rw [e]; exact g.1⟩
            have fs := fr s
            have tv := (hv (far s) fs.1 (Int32.lt_of_lt_of_le fs.2 (Int32.le_trans hn.2 (by decide)))).mpr ⟨s, hs, t, rfl⟩
            by_cases p : far s ≤ a
            · exact .inl p
            · right
              by_cases p2 : far s < b
              · rw [no _ (Int32.not_le.mp p) p2] at tv; exact absurd tv (by decide)
              · exact rg4 hn fs.1 fs.2 bn (Int32.le_trans a0 (Int32.le_of_lt ab)) p2
        · rw [if_neg q]; exact .inl rfl
    · have g7 := rg7 hn h71 c
      have hit : (x7 = n ∨ tb x4 x7.toNatClampNeg = true) → Ws G Sn_roundOf 59 [(1, .ref o1), (4, .int x4), (5, .int (if x5 < (x7 - x6) then (x7 - x6) else x5)), (6, .int x7), (7, .int (x7 + 1))] [] u (RI fun a u' => u = u' ∧ IsR n far (mI u o1 1).toNatClampNeg x3 a) := fun hx7 => by
        have g5 := rg5 hn h60 h67 g7.2.2.2.2.2 h50 h5n
        refine ih g7.1 x4 _ x7 hv g7.2.1 g7.2.2.1 g7.2.2.2.2.1 g7.2.2.2.1 g5.1 g5.2 (fun e => ?_) (fun f a b _ => ?_) ?_ (fun h l hb lb cov q => ?_)
        · clear ih hno hat hlow hv; grind
        · exact absurd a (Int32.not_lt.mpr (by clear ih hno hat hlow hv; grind))
        · right
          by_cases w : x5 < x7 - x6
          · rw [if_pos w]
            exact ⟨x6, x7, h60, h67, g7.2.2.2.2.2, rfl, fun f a b => hno f a b (Int32.lt_of_lt_of_le b g7.2.2.2.2.2)⟩
          · rw [if_neg w]
            rcases hat with r | r
            · exact absurd (show x5 < x7 - x6 by rw [r.1, r.2]; clear ih hno hlow hv; grind) w
            · exact r
        · have hlo := hlow h l hb lb cov q
          by_cases p : x7 ≤ h
          · exact .inl p
          · right
            refine rg6 hn h60 h67 g7.2.2.2.2.2 h50 h5n hb lb ?_ hlo
            rcases hx7 with e | e
            · exact rg9 hn lb e
            · obtain ⟨s, hs, t, e2⟩ := (hv x7 g7.2.2.2.2.1 (Int32.lt_of_le_of_lt g7.2.2.2.2.2 (Int32.lt_of_le_of_lt hn.2 (by decide)))).mp e
              rcases cov s hs t with r | r <;> rw [e2] at r
              · exact absurd r p
              · exact rg8 (h := h) hn lb g7.2.2.2.2.1 g7.2.2.2.2.2 r
      refine ⟨fun e => hit (.inl e), fun e => ?_⟩
      have it := isI_tb (x := x4) g7.2.2.2.2.1 (Int32.lt_of_le_of_lt g7.2.2.2.2.2 (Int32.lt_of_le_of_lt hn.2 (by decide)))
      refine ⟨fun r => hit (.inr (it.mp r)), fun r => ?_⟩
      have tf : tb x4 x7.toNatClampNeg = false := by
        cases z : tb x4 x7.toNatClampNeg
        · rfl
        · exact absurd (it.mpr z) r
      refine ih g7.1 x4 x5 x6 hv g7.2.1 g7.2.2.1 h60 (Int32.lt_trans h67 g7.2.2.2.1) h50 h5n (fun q => ?_) (fun f a b p => ?_) hat hlow
      · exact absurd (show x7 = n by clear ih hit hno hat hlow hv; grind) e
      · by_cases w : f = x7
        · rw [w]; exact tf
        · exact hno f a (rgz g7.2.2.2.2.1 (Int32.le_trans g7.2.2.2.2.2 hn.2) b w) p
  have k6 : ∀ x5 (x4 : Int32), 0 ≤ x5 → x5 ≤ mI u o1 1 → (∀ f : Int32, 0 ≤ f → f < 31 → (tb x4 f.toNatClampNeg = true ↔ ∃ s, s < x5.toNatClampNeg ∧ tb x3 s = true ∧ far s = f)) → Ws G Sn_roundOf 6 [(0, .ref o0), (1, .ref o1), (2, .int x2), (3, .int x3), (4, .int x4), (5, .int x5)] [] u (RI fun a u' => u = u' ∧ IsR n far (mI u o1 1).toNatClampNeg x3 a) := by
    refine upI (mI u o1 1) _ (fun x5 ih x4 h0 hx5 hv => ?_)
    refine sg_Sn_roundOf_6 k0 k1 ?_
    rw [hN]
    refine ⟨fun c => ?_, fun c => ?_⟩
    · rw [Int32.le_antisymm hx5 c] at hv
      exact gap 1 x4 0 0 hv (by decide) (by clear gap ih hv; grind) (by decide) (by decide) (by decide) (by clear gap ih hv; grind) (fun e => by clear gap ih hv; grind) (fun f a b _ => by clear gap ih hv; grind) (.inl ⟨rfl, rfl⟩) (fun h l hb lb _ _ => .inl hb.1)
    · have lt := Int32.not_le.mp c
      have sx := tn_succ h0 c
      have it := isI_tb (x := x3) h0 (show x5 < 31 by grind)
      rw [ef x5 h0 lt]
      have f5 := fr x5.toNatClampNeg
      refine ⟨fun r => ih c _ (er_up h0 c).1 (er_up h0 c).2 (fun f f0 f31 => ?_), fun r => ih c _ (er_up h0 c).1 (er_up h0 c).2 (fun f f0 f31 => ?_)⟩
      · have fN : f.toNatClampNeg < 31 := by have := tn_lt f0 f31; have e : (31 : Int32).toNatClampNeg = 31 := (by decide); omega
        rw [tbo f5.1 (by grind) (by omega), sx, Bool.or_eq_true, hv f f0 f31]
        constructor
        · rintro (⟨s, a, b⟩ | e)
          · exact ⟨s, by omega, b⟩
          · exact ⟨x5.toNatClampNeg, by omega, it.mp r, (tn_inj f0 f5.1 (of_decide_eq_true e)).symm⟩
        · rintro ⟨s, a, b, e⟩
          by_cases q : s = x5.toNatClampNeg
          · right; rw [← e, q]; simp
          · exact .inl ⟨s, by omega, b, e⟩
      · rw [sx, hv f f0 f31]
        constructor
        · rintro ⟨s, a, b⟩
          exact ⟨s, by omega, b⟩
        · rintro ⟨s, a, b, e⟩
          by_cases q : s = x5.toNatClampNeg
          · rw [q] at b; exact absurd (it.mpr b) r
          · exact ⟨s, by omega, b, e⟩
  have z0 : (0 : Int32).toNatClampNeg = 0 := by decide
  refine sg_Sn_roundOf_0 k0 k1 (k6 0 0 (by decide) hm.1 (fun f _ _ => ?_))
  constructor
  · intro h
    have : tb 0 f.toNatClampNeg = false := BitVec.getLsbD_zero
    rw [this] at h; exact absurd h (by decide)
  · rintro ⟨s, a, _⟩; omega
end RND
