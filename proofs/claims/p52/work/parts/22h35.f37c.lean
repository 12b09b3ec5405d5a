/-! ===== agree, rent, dearest ===== -/
theorem dm_ {m w s : Nat} (h : s < m) : (m * w + s) / m = w ∧ (m * w + s) % m = s := ⟨by rw [Nat.mul_add_div (by omega), Nat.div_eq_of_lt h, Nat.add_zero], by rw [Nat.mul_add_mod, Nat.mod_eq_of_lt h]⟩
theorem wkV_b {n d e : Int32} (hn : 10 ≤ n ∧ n ≤ 30) : 0 ≤ wkV n d e ∧ wkV n d e ≤ 15 ∧ 2 * wkV n d e ≤ n := by
  unfold wkV
  rw [wr_dAt hn.1 hn.2]
  have rg := dAt_rg (x := (e - d).toInt64) hn.1 hn.2
  generalize dAt n (e - d).toInt64 = U at *
  obtain ⟨n1, n2⟩ := hn
  obtain ⟨u1, u2⟩ := rg
  split
  · exact ⟨by grind, by grind, by grind⟩
  · exact ⟨by grind, by grind, by grind⟩
theorem wk2 {n a b : Int32} (hn : 10 ≤ n ∧ n ≤ 30) (ha : 0 ≤ a ∧ a ≤ 15 ∧ 2 * a ≤ n) (hb : 0 ≤ b ∧ b ≤ 15 ∧ 2 * b ≤ n) : a + b ≤ n := by
  obtain ⟨n1, n2⟩ := hn
  obtain ⟨a1, a2, a3⟩ := ha
  obtain ⟨b1, b2, b3⟩ := hb
  grind
def agrC (n x1 x2 x3 : Int32) : Prop := (0 ≤ x1 ∧ x1 < n) ∧ (0 ≤ x2 ∧ x2 < n) ∧ 0 ≤ x3 ∧ x3 ≤ 60
def agrV (n : Int32) (m : Nat) (x1 x2 : Int32) (dw : Nat → Nat → Int32) (j : Nat) : Int32 := wkV n x1 (dw (j / m) (j % m)) + wkV n x2 (dw (j / m) (j % m))
def agrD (m : Nat) (j : Nat) : Int32 := 10 * Int32.ofNat (j / m) + Int32.ofNat (j % m)
def agrQ (n m x1 x2 x3 : Int32) (dw : Nat → Nat → Int32) (a k : Int32) (F S : Prop) : Prop := (agrC n x1 x2 x3 ∧ ¬ m = 0 ∧ gsI kpL (agrD m.toNatClampNeg) (agrV n m.toNatClampNeg x1 x2 dw) a k (m.toNatClampNeg * (x3.toNatClampNeg + 1))) ∨ (agrC n x1 x2 x3 ∧ m = 0 ∧ a = -3 ∧ F) ∨ (¬ agrC n x1 x2 x3 ∧ a = -1 ∧ S)
theorem agr_0 {n x1 x2 : Int32} {m : Nat} {dw : Nat → Nat → Int32} {a l : Int32} (hn : 10 ≤ n ∧ n ≤ 30) (hl : n < l) : gsI kpL (agrD m) (agrV n m x1 x2 dw) a l 0 := by
  refine kpL_f (fun q => ?_)
  have z : agrV n m x1 x2 dw 0 ≤ n := wk2 hn (wkV_b hn) (wkV_b hn)
  exact absurd (Int32.lt_of_lt_of_le (Int32.lt_of_lt_of_le hl q) z) Int32.lt_irrefl
section ANC
variable {G : pG} {u v : pM} {Q : Option Value → pM → Prop}
theorem d_agreeq {x1 x2 x3 : Int32} (hC : InvC u) (hm : 0 ≤ mI u (mR u 2 10) 1 ∧ mI u (mR u 2 10) 1 ≤ 7) (hK : 0 < mI u (mR u 2 10) 0 → PlK u (mR u 2 10)) (h0 : ¬ (agrC (mI u (mR u 2 10) 0) x1 x2 x3 ∧ mI u (mR u 2 10) 1 = 0)) (hQ : ∀ a u', Cl qB u u' → agrQ (mI u (mR u 2 10) 0) (mI u (mR u 2 10) 1) x1 x2 x3 (dwC u) a (mI u' 2 12) (u' = dF u 4) (u' = u) → Q (some (.int a)) u') : Ws G D_agree 0 [(0, .ref 2), (1, .int x1), (2, .int x2), (3, .int x3)] [] u Q := by
  have m7 : (mI u (mR u 2 10) 1).toNatClampNeg ≤ 7 := by have := tn_le hm.2; have e : (7 : Int32).toNatClampNeg = 7 := (by decide); omega
  have no : ¬ agrC (mI u (mR u 2 10) 0) x1 x2 x3 → Q (some (.int (-1))) u := fun n => hQ _ _ (Cl.rf hC) (.inr (.inr ⟨n, rfl, rfl⟩))
  refine sg_D_agree_0 (fun hp => ⟨fun a _ => ⟨fun b => ⟨fun c => no (fun z => absurd c (Int32.not_lt.mpr z.2.2.1)), fun c => ⟨fun d _ => ?_, fun d => no (fun z => d z.2.2.2)⟩⟩, fun b => no (fun z => b z.2.1)⟩, fun a => no (fun z => a z.1)⟩)
  have w60 : 0 ≤ x3 ∧ x3 ≤ 60 := ⟨Int32.not_lt.mp c, d⟩
  have k : agrC (mI u (mR u 2 10) 0) x1 x2 x3 := ⟨a, b, w60⟩
  refine ⟨fun mz _ => ?_, fun mz => absurd ⟨k, mz⟩ h0⟩
  have hK' := hK (Int32.lt_of_le_of_lt a.1 a.2)
  have ko := pl_ok hp
  have k10 : okS 10 5 := by decide
  have pn := pl_st k10 ko
  have key : ∀ x v (x4 x5 : Int32), 0 ≤ x → x ≤ x3 + 1 → AH u v x.toNatClampNeg → gsI kpL (agrD (mI u (mR u 2 10) 1).toNatClampNeg) (agrV (mI u (mR u 2 10) 0) (mI u (mR u 2 10) 1).toNatClampNeg x1 x2 (dwC u)) x4 x5 ((mI u (mR u 2 10) 1).toNatClampNeg * x.toNatClampNeg) → Ws G D_agree 78 [(0, .ref 2), (1, .int x1), (2, .int x2), (3, .int x3), (4, .int x4), (5, .int x5), (6, .int x)] [] v Q := by
    refine upI (x3 + 1) _ (fun x ih v x4 x5 h0 hx hA hg => ?_)
    have hR : mR v 2 10 = mR u 2 10 := by rw [hA.1.2.1]
    have fN : ∀ n k, n ≠ 10 → n ≠ 11 → mI v n k = mI u n k := hA.2.1
    refine sg_D_agree_78 ⟨fun c => hQ _ _ ((hA.1.pI wr_D (by decide)).cl hC) (.inl ⟨k, mz, ?_⟩), fun c => ?_⟩
    · rw [mI_eq, ← st63 w60 h0 hx c]
      exact hg
    obtain ⟨s1, s2, s3⟩ := st62 w60 h0 c
    have sx := tn_succ h0 s1
    have e0 : mI v (mR u 2 10) 0 = mI u (mR u 2 10) 0 := fN _ _ pn.1.1 pn.1.2
    have e1 : mI v (mR u 2 10) 1 = mI u (mR u 2 10) 1 := fN _ _ pn.1.1 pn.1.2
    have inn : ∀ y (x4 x5 : Int32), 0 ≤ y → y ≤ mI u (mR u 2 10) 1 → gsI kpL (agrD (mI u (mR u 2 10) 1).toNatClampNeg) (agrV (mI u (mR u 2 10) 0) (mI u (mR u 2 10) 1).toNatClampNeg x1 x2 (dwC u)) x4 x5 ((mI u (mR u 2 10) 1).toNatClampNeg * x.toNatClampNeg + y.toNatClampNeg) → Ws G D_agree 87 [(0, .ref 2), (1, .int x1), (2, .int x2), (3, .int x3), (4, .int x4), (5, .int x5), (6, .int x), (7, .int y)] [] v Q := by
      refine upI (mI u (mR u 2 10) 1) _ (fun y ihy x4 x5 y0 hy g => ?_)
      refine sg_D_agree_87 (fun _ => ?_)
      rw [hR, e0, e1]
      refine ⟨fun c _ => kV (c_ah hK' hp hA) (fun v' h => ih s1 v' x4 x5 s2 s3 (by rw [sx]; exact h) ?_), fun c _ _ => ?_⟩
      · rw [Int32.le_antisymm hy c] at g
        rw [sx, Nat.mul_succ]
        exact g
      have ym := Int32.not_le.mp c
      have yN := tn_lt y0 ym
      have sy := tn_succ y0 c
      have su := stU y0 c
      have dd := dm_ (w := x.toNatClampNeg) yN
      have ed : snD v 10 y = dwC u x.toNatClampNeg y.toNatClampNeg := by
        unfold snD
        rw [if_pos ⟨y0, Int32.lt_of_lt_of_le ym hm.2⟩]
        exact hA.2.2.2.2 _ yN
      have eV : agrV (mI u (mR u 2 10) 0) (mI u (mR u 2 10) 1).toNatClampNeg x1 x2 (dwC u) ((mI u (mR u 2 10) 1).toNatClampNeg * x.toNatClampNeg + y.toNatClampNeg) = wkV (mI u (mR u 2 10) 0) x1 (dwC u x.toNatClampNeg y.toNatClampNeg) + wkV (mI u (mR u 2 10) 0) x2 (dwC u x.toNatClampNeg y.toNatClampNeg) := by
        unfold agrV
        rw [dd.1, dd.2]
      have eD : agrD (mI u (mR u 2 10) 1).toNatClampNeg ((mI u (mR u 2 10) 1).toNatClampNeg * x.toNatClampNeg + y.toNatClampNeg) = 10 * x + y := by
        unfold agrD
        rw [dd.1, dd.2, i32_nat h0, i32_nat y0]
      rw [ed, ← eV]
      refine ⟨fun d => ihy c x4 x5 su.1 su.2 ?_, fun d => ihy c _ _ su.1 su.2 ?_⟩
      · rw [sy]; exact gs_k g (kpL_t d)
      · rw [sy, ← eD]; exact gs_r g (kpL_f d)
    have z0 : (0 : Int32).toNatClampNeg = 0 := by decide
    exact inn 0 x4 x5 (by decide) hm.1 (by rw [z0]; exact hg)
  have z0 : (0 : Int32).toNatClampNeg = 0 := by decide
  exact key 0 _ _ _ (by decide) (st61 w60).1 (by rw [z0]; exact AH.z m7) (by rw [z0]; exact agr_0 hK'.1 (by have := hK'.1.2; have := hK'.1.1; grind))
theorem d_agreey {x1 x2 x3 : Int32} (hC : InvC u) (hm : 0 ≤ mI u (mR u 2 10) 1 ∧ mI u (mR u 2 10) 1 ≤ 7) (hK : 0 < mI u (mR u 2 10) 0 → PlK u (mR u 2 10)) (h0 : ¬ (agrC (mI u (mR u 2 10) 0) x1 x2 x3 ∧ mI u (mR u 2 10) 1 = 0)) : Ws G D_agree 0 [(0, .ref 2), (1, .int x1), (2, .int x2), (3, .int x3)] [] u (RI fun a u' => Cl qB u u' ∧ agrQ (mI u (mR u 2 10) 0) (mI u (mR u 2 10) 1) x1 x2 x3 (dwC u) a (mI u' 2 12) (u' = dF u 4) (u' = u)) := d_agreeq hC hm hK h0 (fun a _ h1 h2 => ⟨a, rfl, h1, h2⟩)
theorem e_walkOfx {x1 x2 : Int32} (hn : 10 ≤ mI u 76 10 ∧ mI u 76 10 ≤ 30) (h1 : 0 ≤ x1 ∧ x1 < mI u 76 10) (h2 : 0 ≤ x2 ∧ x2 < mI u 76 10) : Ws G m_walkOf 0 [(0, .ref 76), (1, .int x1), (2, .int x2)] [] u (RI fun a u' => u = u' ∧ a = wkV (mI u 76 10) x1 x2) := by
  have e : wkV (mI u 76 10) x1 x2 = if mI u 76 10 - dAt (mI u 76 10) (x2.toInt64 - x1.toInt64) < dAt (mI u 76 10) (x2.toInt64 - x1.toInt64) then mI u 76 10 - dAt (mI u 76 10) (x2.toInt64 - x1.toInt64) else dAt (mI u 76 10) (x2.toInt64 - x1.toInt64) := by
    unfold wkV
    rw [wr_dAt hn.1 hn.2, sub64 hn.2 h1 h2]
  have nz : ¬ (mI u 76 10).toInt64 = 0 := i64_ne (Int32.lt_of_lt_of_le (by decide) hn.1)
  have rg := dAt_rg (n := mI u 76 10) (x := x2.toInt64 - x1.toInt64) hn.1 hn.2
  refine sg_m_walkOf_0 ⟨nz, fun c => ⟨_, rfl, rfl, ?_⟩, fun c => ⟨_, rfl, rfl, ?_⟩⟩
  · rw [e]
    generalize dAt (mI u 76 10) (x2.toInt64 - x1.toInt64) = D at *
    split
    · rfl
    · grind
  · rw [e, if_neg (fun z => c (Int32.le_of_lt z))]
theorem e_agreeq {x1 x2 x3 : Int32} {ord : Nat → Nat} (hM : InvM u) (ho : OrdP (shM u) (mI u 76 11).toNatClampNeg ord) (hd : ∀ s, s < (mI u 76 11).toNatClampNeg → 0 ≤ mI u 84 s ∧ mI u 84 s < mI u 76 10) (h0 : ¬ (agrC (mI u 76 10) x1 x2 x3 ∧ mI u 76 11 = 0)) (hQ : ∀ a u', Mo mB u u' → agrQ (mI u 76 10) (mI u 76 11) x1 x2 x3 (dwM u ord) a (mI u' 76 2) (u' = mt u 4) (u' = u) → Q (some (.int a)) u') : Ws G m_agree 0 [(0, .ref 76), (1, .int x1), (2, .int x2), (3, .int x3)] [] u Q := by
  have m7 := hM.m7
  have n30 := hM.n30
  have no : ¬ agrC (mI u 76 10) x1 x2 x3 → Q (some (.int (-1))) u := fun n => hQ _ _ (Mo.rf hM) (.inr (.inr ⟨n, rfl, rfl⟩))
  have le1 : ∀ x : Int32, 0 ≤ x ∧ x < mI u 76 10 → x ≤ mI u 76 10 - 1 := fun x h => by obtain ⟨p, q⟩ := h; obtain ⟨p', q'⟩ := n30; grind
  have lt1 : ∀ x : Int32, 0 ≤ x ∧ x ≤ mI u 76 10 - 1 → x < mI u 76 10 := fun x h => by obtain ⟨p, q⟩ := h; obtain ⟨p', q'⟩ := n30; grind
  refine sg_m_agree_0 ⟨fun a => ⟨fun b => ⟨fun w60 => ?_, fun c => no (fun z => c z.2.2)⟩, fun b => no (fun z => b ⟨z.2.1.1, le1 _ z.2.1⟩)⟩, fun a => no (fun z => a ⟨z.1.1, le1 _ z.1⟩)⟩
  have a' : 0 ≤ x1 ∧ x1 < mI u 76 10 := ⟨a.1, lt1 _ a⟩
  have b' : 0 ≤ x2 ∧ x2 < mI u 76 10 := ⟨b.1, lt1 _ b⟩
  have k : agrC (mI u 76 10) x1 x2 x3 := ⟨a', b', w60⟩
  refine ⟨fun mz => ?_, fun mz => absurd ⟨k, mz⟩ h0⟩
  have hn : 10 ≤ mI u 76 10 ∧ mI u 76 10 ≤ 30 := hM.nd (fun z => by rw [z] at a; exact absurd (Int32.le_trans a.1 a.2) (by decide))
  have key : ∀ x v (x4 x5 : Int32), 0 ≤ x → x ≤ x3 + 1 → AM u v ord x.toNatClampNeg → gsI kpL (agrD (mI u 76 11).toNatClampNeg) (agrV (mI u 76 10) (mI u 76 11).toNatClampNeg x1 x2 (dwM u ord)) x4 x5 ((mI u 76 11).toNatClampNeg * x.toNatClampNeg) → Ws G m_agree 55 [(0, .ref 76), (1, .int x1), (2, .int x2), (3, .int x3), (4, .int x4), (5, .int x5), (6, .int x)] [] v Q := by
    refine upI (x3 + 1) _ (fun x ih v x4 x5 h0 hx hA hg => ?_)
    refine sg_m_agree_55 ⟨fun c => hQ _ _ ((hA.1.pF (by decide)).mo hM) (.inl ⟨k, mz, ?_⟩), fun c => ?_⟩
    · rw [mI_eq, ← st63 w60 h0 hx c]
      exact hg
    obtain ⟨s1, s2, s3⟩ := st62 w60 h0 c
    have sx := tn_succ h0 s1
    have inn : ∀ y (x4 x5 : Int32), 0 ≤ y → y ≤ mI u 76 11 → gsI kpL (agrD (mI u 76 11).toNatClampNeg) (agrV (mI u 76 10) (mI u 76 11).toNatClampNeg x1 x2 (dwM u ord)) x4 x5 ((mI u 76 11).toNatClampNeg * x.toNatClampNeg + y.toNatClampNeg) → Ws G m_agree 64 [(0, .ref 76), (1, .int x1), (2, .int x2), (3, .int x3), (4, .int x4), (5, .int x5), (6, .int x), (7, .int y)] [] v Q := by
      refine upI (mI u 76 11) _ (fun y ihy x4 x5 y0 hy g => ?_)
      refine sg_m_agree_64 ⟨fun c => kV (e_am hM ho hA (i32_nat h0).symm) (fun v' h => ih s1 v' x4 x5 s2 s3 (by rw [sx]; exact h) ?_), fun c => ?_⟩
      · rw [hA.1.m] at c
        rw [Int32.le_antisymm hy c] at g
        rw [sx, Nat.mul_succ]
        exact g
      rw [hA.1.m] at c
      have ym := Int32.not_le.mp c
      have yN := tn_lt y0 ym
      have sy := tn_succ y0 c
      have su := stU y0 c
      have dd := dm_ (w := x.toNatClampNeg) yN
      have v7 : vp_in y 7 := vin y0 (show (_ : Int32) < 7 from Int32.lt_of_lt_of_le ym m7.2) (by decide)
      have eV : agrV (mI u 76 10) (mI u 76 11).toNatClampNeg x1 x2 (dwM u ord) ((mI u 76 11).toNatClampNeg * x.toNatClampNeg + y.toNatClampNeg) = wkV (mI u 76 10) x1 (dwM u ord x.toNatClampNeg y.toNatClampNeg) + wkV (mI u 76 10) x2 (dwM u ord x.toNatClampNeg y.toNatClampNeg) := by
        unfold agrV
        rw [dd.1, dd.2]
      have eD : agrD (mI u 76 11).toNatClampNeg ((mI u 76 11).toNatClampNeg * x.toNatClampNeg + y.toNatClampNeg) = 10 * x + y := by
        unfold agrD
        rw [dd.1, dd.2, i32_nat h0, i32_nat y0]
      have r1 := pws_rx (w := mI u 76 18) (shut := mI u 76 19) (sh := shM u) (ord := ord) hn.1 hn.2 hd x.toNatClampNeg _ yN
      have r2 : 0 ≤ mI v 85 y.toNatClampNeg ∧ mI v 85 y.toNatClampNeg < mI v 76 10 := by rw [hA.2.2 _ yN, hA.1.n]; exact r1
      have n2 : 10 ≤ mI v 76 10 ∧ mI v 76 10 ≤ 30 := by rw [hA.1.n]; exact hn
      refine ⟨v7, kI (e_walkOfx n2 (by rw [hA.1.n]; exact a') r2) (fun p v1 q => ?_)⟩
      obtain ⟨rfl, ep⟩ := q
      refine ⟨v7, kI (e_walkOfx n2 (by rw [hA.1.n]; exact b') r2) (fun p' v1 q => ?_)⟩
      obtain ⟨rfl, ep'⟩ := q
      have es : p + p' = agrV (mI u 76 10) (mI u 76 11).toNatClampNeg x1 x2 (dwM u ord) ((mI u 76 11).toNatClampNeg * x.toNatClampNeg + y.toNatClampNeg) := by
        rw [eV, ep, ep', hA.1.n, hA.2.2 _ yN]
      rw [es]
      refine ⟨fun d => ⟨fun _ => ihy c x4 x5 su.1 su.2 ?_, fun d' => absurd d d'⟩, fun d => ⟨fun d' => absurd d' d, fun _ => ihy c _ _ su.1 su.2 ?_⟩⟩
      · rw [sy]; exact gs_k g (kpL_t d)
      · rw [sy, ← eD]; exact gs_r g (kpL_f d)
    have z0 : (0 : Int32).toNatClampNeg = 0 := by decide
    exact inn 0 x4 x5 (by decide) m7.1 (by rw [z0]; exact hg)
  have z0 : (0 : Int32).toNatClampNeg = 0 := by decide
  exact kV (e_am0 hM) (fun v h => key 0 v _ _ (by decide) (st61 w60).1 (by rw [z0]; exact h) (by rw [z0]; exact agr_0 hn (Int32.lt_of_le_of_lt hn.2 (by decide))))
theorem e_agreey {x1 x2 x3 : Int32} {ord : Nat → Nat} (hM : InvM u) (ho : OrdP (shM u) (mI u 76 11).toNatClampNeg ord) (hd : ∀ s, s < (mI u 76 11).toNatClampNeg → 0 ≤ mI u 84 s ∧ mI u 84 s < mI u 76 10) (h0 : ¬ (agrC (mI u 76 10) x1 x2 x3 ∧ mI u 76 11 = 0)) : Ws G m_agree 0 [(0, .ref 76), (1, .int x1), (2, .int x2), (3, .int x3)] [] u (RI fun a u' => Mo mB u u' ∧ agrQ (mI u 76 10) (mI u 76 11) x1 x2 x3 (dwM u ord) a (mI u' 76 2) (u' = mt u 4) (u' = u)) := e_agreeq hM ho hd h0 (fun a _ h1 h2 => ⟨a, rfl, h1, h2⟩)
end ANC
