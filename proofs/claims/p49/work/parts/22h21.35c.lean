/-! ===== weeks on ===== -/
def pws (n w shut : Int32) (sh : Nat → Sh5) (ord : Nat → Nat) (m : Nat) (dr : Nat → Int32) : Nat → Nat → Int32
  | 0 => dr
  | k + 1 => pwk n (w + Int32.ofNat k) shut sh ord m (pws n w shut sh ord m dr k)
/-- a Plan that a text has told, ranked -/
def PlK (u : pM) (o : Nat) : Prop := (10 ≤ mI u o 0 ∧ mI u o 0 ≤ 30) ∧ (0 ≤ mI u o 1 ∧ mI u o 1 ≤ 7) ∧ (∀ s, s < (mI u o 1).toNatClampNeg → shV (shF u o s)) ∧ OrdC u o (shF u o) (mI u o 1).toNatClampNeg
theorem R0_7 {o s : Nat} (k : okS o 2) (h : 7 ≤ s) : R0 (o + 1) s = 0 := by
  have h1 : o = 22 ∨ o = 36 := (show ∀ o, o < 95 → (S0 o).1 = 2 → o = 22 ∨ o = 36 from by decide +kernel) o k.2.1 k.2.2
  have l : (R0t.getD (o + 1) []).length = 7 := by rcases h1 with e | e <;> rw [e] <;> decide
  unfold R0
  rw [List.getD_eq_getElem?_getD, List.getElem?_eq_none (by omega)]
  rfl
theorem pl_R {o0 o1 : Nat} (k0 : okS o0 5) (k1 : okS o1 2) (s : Nat) : R0 (o1 + 1) s ≠ o0 ∧ R0 (o1 + 1) s ≠ o0 + 1 := by
  rcases Nat.lt_or_ge s 7 with h | h
  · exact (pl_st k0 k1).2.2 s h
  · rw [R0_7 k1 h]
    exact ⟨by have := k0.1; omega, by omega⟩
theorem shF_cg {u v : pM} {o0 o1 : Nat} (k0 : okS o0 5) (k1 : okS o1 2) (h : ∀ n k, n ≠ o0 → n ≠ o0 + 1 → mI v n k = mI u n k) : shF v o1 = shF u o1 := by
  funext s
  have r := pl_R k0 k1 s
  unfold shF shC
  rw [h _ _ r.1 r.2, h _ _ r.1 r.2, h _ _ r.1 r.2, h _ _ r.1 r.2, h _ _ r.1 r.2]
theorem ordF_cg {u v : pM} {o0 o1 : Nat} (k0 : okS o0 5) (k1 : okS o1 2) (h : ∀ n k, n ≠ o0 → n ≠ o0 + 1 → mI v n k = mI u n k) : ordF v o1 = ordF u o1 := by
  funext i
  have r := (pl_st k0 k1).2.1
  unfold ordF
  rw [h _ _ r.1 r.2]
theorem PlK.cg {u v : pM} {o0 o1 : Nat} (hK : PlK u o1) (k0 : okS o0 5) (k1 : okS o1 2) (h : ∀ n k, n ≠ o0 → n ≠ o0 + 1 → mI v n k = mI u n k) : PlK v o1 := by
  have r := pl_st k0 k1
  unfold PlK
  rw [shF_cg k0 k1 h, h _ _ r.1.1 r.1.2, h _ _ r.1.1 r.1.2]
  exact ⟨hK.1, hK.2.1, hK.2.2.1, hK.2.2.2.cg (fun i _ => h _ _ r.2.1.1 r.2.1.2)⟩
section WKS
variable {G : pG} {u : pM} {L : List Nat}
theorem c_passx {o0 o1 : Nat} {x2 : Int32} (k0 : okS o0 5) (m0 : In2 L o0) (k1 : okS o1 2) (h2 : 0 ≤ x2) (hK : PlK u o1) : Ws G Sn_pass 0 [(0, .ref o0), (1, .ref o1), (2, .int x2)] [] u (RV fun u' => Cq L u u' ∧ (∀ n k, n ≠ o0 → n ≠ o0 + 1 → mI u' n k = mI u n k) ∧ mI u' o0 0 = mI u o0 0 + x2 ∧ mI u' o0 1 = mI u o0 1 ∧ mI u' (o0 + 1) = pws (mI u o1 0) (mI u o0 0) (mI u o0 1) (shF u o1) (ordF u o1) (mI u o1 1).toNatClampNeg (mI u (o0 + 1)) x2.toNatClampNeg ∧ mL u' = mL u) := by
  refine sg_Sn_pass_0 k0 k1 ?_
  have r := pl_st k0 k1
  have key : ∀ x v, 0 ≤ x → x ≤ x2 → Cq L u v → (∀ n k, n ≠ o0 → n ≠ o0 + 1 → mI v n k = mI u n k) → mI v o0 0 = mI u o0 0 + x → mI v o0 1 = mI u o0 1 → mI v (o0 + 1) = pws (mI u o1 0) (mI u o0 0) (mI u o0 1) (shF u o1) (ordF u o1) (mI u o1 1).toNatClampNeg (mI u (o0 + 1)) x.toNatClampNeg → mL v = mL u → Ws G Sn_pass 2 [(0, .ref o0), (1, .ref o1), (2, .int x2), (3, .int x)] [] v (RV fun u' => Cq L u u' ∧ (∀ n k, n ≠ o0 → n ≠ o0 + 1 → mI u' n k = mI u n k) ∧ mI u' o0 0 = mI u o0 0 + x2 ∧ mI u' o0 1 = mI u o0 1 ∧ mI u' (o0 + 1) = pws (mI u o1 0) (mI u o0 0) (mI u o0 1) (shF u o1) (ordF u o1) (mI u o1 1).toNatClampNeg (mI u (o0 + 1)) x2.toNatClampNeg ∧ mL u' = mL u) := by
    refine upI x2 _ (fun x ih v h0 hx hq hf w0 w1 hd hml => ?_)
    refine sg_Sn_pass_2 k0 k1 ⟨fun c => ?_, fun c => ?_⟩
    · rw [Int32.le_antisymm hx c] at w0 hd
      exact ⟨rfl, hq, hf, w0, w1, hd, hml⟩
    · have K := hK.cg k0 k1 hf
      refine kV (c_passOnex (L := L) k0 m0 k1 K.1 K.2.1 K.2.2.1 K.2.2.2) (fun v' h => ?_)
      obtain ⟨q, f, w0', w1', d', ml'⟩ := h
      rw [shF_cg k0 k1 hf, ordF_cg k0 k1 hf, hf _ _ r.1.1 r.1.2, hf _ _ r.1.1 r.1.2] at d'
      refine ih c _ (by clear ih; grind) (by clear ih; grind) (hq.tr q) (fun n k a b => (f n k a b).trans (hf n k a b)) ?_ (w1'.trans w1) ?_ (ml'.trans hml)
      · rw [w0', w0]; clear ih; grind
      · funext s
        rw [d' s, tn_succ h0 c, pws, w0, w1, hd, i32_nat h0]
  have z0 : (0 : Int32).toNatClampNeg = 0 := by decide
  exact key 0 u (by decide) h2 Cq.rf (fun _ _ _ _ => rfl) (by grind) rfl (by rw [z0]; rfl) rfl
theorem shM_cg {u v : pM} (h : ∀ k, mI v 83 k = mI u 83 k) : shM v = shM u := by
  funext s
  unfold shM mC
  rw [h, h, h, h, h]
theorem e_fromNowx (hM : InvM u) : Ws G m_fromNow 0 [(0, .ref 76)] [] u (RV fun u' => Mq mB u u' ∧ (∀ n k, n ≠ 85 → mI u' n k = mI u n k) ∧ ∀ s, s < (mI u 76 11).toNatClampNeg → mI u' 85 s = mI u 84 s) := by
  have m7 := hM.m7
  have key : ∀ x v, 0 ≤ x → Mq mB u v → (∀ n k, n ≠ 85 → mI v n k = mI u n k) → (∀ s, s < x.toNatClampNeg → mI v 85 s = mI u 84 s) → Ws G m_fromNow 2 [(0, .ref 76), (1, .int x)] [] v (RV fun u' => Mq mB u u' ∧ (∀ n k, n ≠ 85 → mI u' n k = mI u n k) ∧ ∀ s, s < (mI u 76 11).toNatClampNeg → mI u' 85 s = mI u 84 s) := by
    refine upI (mI u 76 11) _ (fun x ih v h0 hq hf hd => ?_)
    refine sg_m_fromNow_2 ⟨fun c => ⟨rfl, hq, hf, fun s hs => hd s (by rw [hq.m] at c; have := tn_le c; omega)⟩, fun c => ?_⟩
    rw [hq.m] at c
    have hv : vp_in x 7 := vin h0 (show (_ : Int32) < 7 by grind) (by decide)
    refine ⟨hv, hv, ih c _ (by grind) (hq.pD (.inr (.inl rfl)) ((hq.inv hM).b84 _)) (fun n k a => by rw [mI_ne a]; exact hf n k a) (fun s hs => ?_)⟩
    rw [tn_succ h0 c] at hs
    by_cases e : s = x.toNatClampNeg
    · rw [e, mI_eq, hf _ _ (by decide)]
    · rw [mI_nk e]; exact hd s (by omega)
  have z0 : (0 : Int32).toNatClampNeg = 0 := by decide
  exact sg_m_fromNow_0 (key 0 u (by decide) Mq.rf (fun _ _ _ => rfl) (fun s hs => by omega))
end WKS
/-- weeks on depend on the doors of shops alone -/
theorem weP_cg {n w shut : Int32} {sh : Nat → Sh5} {ord : Nat → Nat} {m : Nat} {dr dr' : Nat → Int32} (ho : ∀ i, i < m → ord i < m) (h : ∀ s, s < m → dr' s = dr s) : ∀ i, i ≤ m → (weP n w shut sh ord dr' i).1 = (weP n w shut sh ord dr i).1 ∧ ∀ s, s < m → (weP n w shut sh ord dr' i).2 s = (weP n w shut sh ord dr i).2 s
  | 0, _ => ⟨rfl, h⟩
  | i + 1, hi => by
    have r := weP_cg (n := n) (w := w) (shut := shut) (sh := sh) ho h i (by omega)
    have o := ho i (by omega)
    have e : doP n w sh (weP n w shut sh ord dr' i) (ord i) = doP n w sh (weP n w shut sh ord dr i) (ord i) := by
      unfold doP
      rw [r.1, r.2 _ o]
    rw [weP, weP, e, r.1]
    refine ⟨rfl, fun s hs => ?_⟩
    show (if s = ord i then _ else _) = if s = ord i then _ else _
    rw [r.2 s hs]
theorem pwk_cg {n w shut : Int32} {sh : Nat → Sh5} {ord : Nat → Nat} {m : Nat} {dr dr' : Nat → Int32} (ho : ∀ i, i < m → ord i < m) (h : ∀ s, s < m → dr' s = dr s) : ∀ s, s < m → pwk n w shut sh ord m dr' s = pwk n w shut sh ord m dr s := (weP_cg ho h m (Nat.le_refl _)).2
theorem pws_cg {n w shut : Int32} {sh : Nat → Sh5} {ord : Nat → Nat} {m : Nat} {dr dr' : Nat → Int32} (ho : ∀ i, i < m → ord i < m) (h : ∀ s, s < m → dr' s = dr s) : ∀ k s, s < m → pws n w shut sh ord m dr' k s = pws n w shut sh ord m dr k s
  | 0 => h
  | k + 1 => pwk_cg ho (pws_cg ho h k)
/-- and on the traits of shops, and the order, alone -/
theorem weP_sh {n w shut : Int32} {sh sh' : Nat → Sh5} {ord ord' : Nat → Nat} {m : Nat} {dr : Nat → Int32} (ho : ∀ i, i < m → ord i < m) (h : ∀ s, s < m → sh' s = sh s) (h2 : ∀ i, i < m → ord' i = ord i) : ∀ i, i ≤ m → weP n w shut sh' ord' dr i = weP n w shut sh ord dr i
  | 0, _ => rfl
  | i + 1, hi => by
    have r := weP_sh (n := n) (w := w) (shut := shut) (dr := dr) ho h h2 i (by omega)
    have e : doP n w sh' (weP n w shut sh ord dr i) (ord i) = doP n w sh (weP n w shut sh ord dr i) (ord i) := by
      unfold doP
      rw [h _ (ho i (by omega))]
    rw [weP, weP, r, h2 i (by omega), e]
theorem pws_sh {n w shut : Int32} {sh sh' : Nat → Sh5} {ord ord' : Nat → Nat} {m : Nat} {dr : Nat → Int32} (ho : ∀ i, i < m → ord i < m) (h : ∀ s, s < m → sh' s = sh s) (h2 : ∀ i, i < m → ord' i = ord i) : ∀ k, pws n w shut sh' ord' m dr k = pws n w shut sh ord m dr k
  | 0 => rfl
  | k + 1 => by
    rw [pws, pws, pws_sh ho h h2 k]
    unfold pwk
    rw [weP_sh ho h h2 m (Nat.le_refl _)]
/-- two orders of the same are one -/
theorem OrdP.uniq {sh : Nat → Sh5} {m : Nat} {o1 o2 : Nat → Nat} (h1 : OrdP sh m o1) (h2 : OrdP sh m o2) : ∀ i, i < m → o1 i = o2 i := by
  intro i
  induction i using Nat.strongRecOn with
  | ind i ih =>
    intro hi
    obtain ⟨a, a1, a2⟩ := h2.2.2 _ (h1.1 i hi)
    obtain ⟨b, b1, b2⟩ := h1.2.2 _ (h2.1 i hi)
    rcases Nat.lt_trichotomy a i with c | c | c
    · have e := ih a c a1
      rw [a2] at e
      have := h1.inj a1 hi e
      omega
    · rw [← c, a2]
      rw [c]
    · rcases Nat.lt_trichotomy b i with d | d | d
      · have e := ih b d b1
        rw [b2] at e
        have := h2.inj hi b1 e
        omega
      · rw [← b2, d]
      · have p := h2.2.1 i a c a1
        have q := h1.2.1 i b d b1
        rw [a2] at p
        rw [b2] at q
        exact absurd (p.tr q) (fun z => ahP.ir z)
