section WEEK
variable {G : pG} {u : pM} {L : List Nat}
theorem e_passOnex {x1 x2 : Int32} {ord : Nat → Nat} (hM : InvM u) (hc : cnt x2 (mI u 76 10).toNatClampNeg ≤ 3) (ho : OrdP (shM u) (mI u 76 11).toNatClampNeg ord) : Ws G m_passOne 0 [(0, .ref 76), (1, .int x1), (2, .int x2)] [] u (RV fun u' => Mq mB u u' ∧ (∀ n k, n ≠ 85 → n ≠ 86 → mI u' n k = mI u n k) ∧ ∀ s, mI u' 85 s = pwk (mI u 76 10) x1 x2 (shM u) ord (mI u 76 11).toNatClampNeg (mI u 85) s) := by
  have m7 := hM.m7
  have m7N : (mI u 76 11).toNatClampNeg ≤ 7 := by
    have := tn_le m7.2
    have e7 : (7 : Int32).toNatClampNeg = 7 := by decide
    omega
  have key : ∀ x v (x3 x4 : Int32), 0 ≤ x → x ≤ mI u 76 11 → Mq mB u v → (∀ n k, n ≠ 85 → n ≠ 86 → mI v n k = mI u n k) → (∀ j, j < (mI u 76 11).toNatClampNeg → (tb x3 j = true ↔ ∃ i, i < x.toNatClampNeg ∧ ord i = j)) → cnt x3 (mI u 76 11).toNatClampNeg = x.toNatClampNeg → cnt x4 (mI u 76 10).toNatClampNeg ≤ 3 + x.toNatClampNeg → x4 = (weP (mI u 76 10) x1 x2 (shM u) ord (mI u 85) x.toNatClampNeg).1 → (∀ s, mI v 85 s = (weP (mI u 76 10) x1 x2 (shM u) ord (mI u 85) x.toNatClampNeg).2 s) → (∀ s, s < (mI u 76 11).toNatClampNeg → tb x3 s = false → mI v 86 s = mI v 85 s) → Ws G m_passOne 40 [(0, .ref 76), (1, .int x1), (3, .int x3), (4, .int x4), (5, .int x)] [] v (RV fun u' => Mq mB u u' ∧ (∀ n k, n ≠ 85 → n ≠ 86 → mI u' n k = mI u n k) ∧ ∀ s, mI u' 85 s = pwk (mI u 76 10) x1 x2 (shM u) ord (mI u 76 11).toNatClampNeg (mI u 85) s) := by
    refine upI (mI u 76 11) _ (fun x ih v x3 x4 h0 hx hq hf hT c3 c4 e4 hd hb => ?_)
    refine sg_m_passOne_40 ⟨fun c => ⟨rfl, hq, hf, fun s => ?_⟩, fun c => ?_⟩
    · rw [hq.m] at c
      rw [hd s, Int32.le_antisymm hx c]; rfl
    have hV := hq.inv hM
    rw [hq.m] at c
    have cx := tn_lt h0 (Int32.not_le.mp c)
    refine kI (e_takerx hV (by rw [hq.m]; omega)) (fun a v' h => ?_)
    obtain ⟨rfl, a0, a1, a2, a3⟩ := h
    rw [hq.m] at a1 a3
    have eM : shM v = shM u := by
      funext s; unfold shM mC
      rw [hf _ _ (by decide) (by decide), hf _ _ (by decide) (by decide), hf _ _ (by decide) (by decide), hf _ _ (by decide) (by decide), hf _ _ (by decide) (by decide)]
    rw [eM] at a3
    have aN := tn_lt a0 a1
    have oi := ho.1 _ cx
    have nd : tb x3 (ord x.toNatClampNeg) = false := by
      cases z : tb x3 (ord x.toNatClampNeg)
      · rfl
      · obtain ⟨i, i1, i2⟩ := (hT _ oi).mp z
        have := ho.inj (by omega) cx i2
        omega
    have ea : a.toNatClampNeg = ord x.toNatClampNeg := by
      obtain ⟨j, j1, j2⟩ := ho.2.2 _ aN
      rcases Nat.lt_trichotomy j x.toNatClampNeg with q | q | q
      · have := (hT _ aN).mpr ⟨j, q, j2⟩
        rw [a2] at this; exact absurd this (by decide)
      · rw [← q, j2]
      · have s1 := ho.2.1 _ _ q j1
        rw [j2] at s1
        exact Decidable.byContradiction (fun ne => ahP.ir ((a3 _ oi nd (fun z => ne z.symm)).tr s1))
    have n1 := hM.n10 a0 a1
    have n2 : 10 ≤ mI v 76 10 ∧ mI v 76 10 ≤ 30 := by rw [hq.n]; exact n1
    have x7 : x.toNatClampNeg < 7 := by omega
    have n10 : 10 ≤ (mI v 76 10).toNatClampNeg := by
      have := tn_le n2.1
      have e : (10 : Int32).toNatClampNeg = 10 := by decide
      omega
    have n30 : (mI v 76 10).toNatClampNeg ≤ 30 := by
      have := tn_le n2.2
      have e : (30 : Int32).toNatClampNeg = 30 := by decide
      omega
    obtain ⟨f, f1, f2⟩ := cnt_free (x := x4) (mI v 76 10).toNatClampNeg (by rw [← hq.n] at c4; omega)
    have l32 : ∀ y : Int32, y < mI v 76 10 → y < 32 := fun y hy => Int32.lt_of_lt_of_le hy (Int32.le_trans n2.2 (by decide))
    have a7 : a < 7 := by clear ih; grind
    have sx := tn_succ h0 c
    generalize hD : doP (mI u 76 10) x1 (shM u) (weP (mI u 76 10) x1 x2 (shM u) ord (mI u 85) x.toNatClampNeg) (ord x.toNatClampNeg) = D
    have exit : ∀ x8 : Int32, 0 ≤ x8 → x8 < mI v 76 10 → tb x4 x8.toNatClampNeg = false → x8 = D → vp_in a 7 ∧ Ws G m_passOne 40 [(0, .ref 76), (1, .int x1), (3, .int (x3 ||| (1 <<< (a &&& 31)))), (4, .int (x4 ||| (1 <<< (x8 &&& 31)))), (5, .int (x + 1))] [] (pI v 85 (a : Int32).toNatClampNeg x8) (RV fun u' => Mq mB u u' ∧ (∀ n k, n ≠ 85 → n ≠ 86 → mI u' n k = mI u n k) ∧ ∀ s, mI u' 85 s = pwk (mI u 76 10) x1 x2 (shM u) ord (mI u 76 11).toNatClampNeg (mI u 85) s) := by
      intro x8 h8 h9 ht e8
      have t3 : ∀ j, j < (mI u 76 11).toNatClampNeg → tb (x3 ||| (1 <<< (a &&& 31))) j = (tb x3 j || decide (j = a.toNatClampNeg)) := fun j hj => tbo a0 (Int32.lt_trans a7 (by decide)) (by omega)
      refine ⟨vin a0 a7 (by decide), ih c _ _ _ (x1_p h0 c) (by clear ih; grind) (hq.pD (.inr (.inl rfl)) ⟨h8, Int32.lt_of_lt_of_le h9 n2.2⟩) (fun n k n85 n86 => by rw [mI_ne n85]; exact hf n k n85 n86) (fun j hj => ?_) ?_ ?_ ?_ (fun s => ?_) (fun s hs z => ?_)⟩
      · rw [t3 j hj, sx]
        constructor
        · intro h
          rcases (Bool.or_eq_true _ _).mp h with h | h
          · obtain ⟨i, i1, i2⟩ := (hT j hj).mp h
            exact ⟨i, by omega, i2⟩
          · exact ⟨x.toNatClampNeg, by omega, by rw [of_decide_eq_true h, ea]⟩
        · rintro ⟨i, i1, i2⟩
          by_cases q : i = x.toNatClampNeg
          · have : j = a.toNatClampNeg := by rw [← i2, q, ea]
            rw [decide_eq_true this, Bool.or_true]
          · rw [(hT j hj).mpr ⟨i, by omega, i2⟩, Bool.true_or]
      · rw [sx, ← c3]
        exact (cnt_upd (d := a.toNatClampNeg) _ t3).2.2 aN a2
      · rw [sx]
        have := (cnt_upd (x := x4) (y := x4 ||| (1 <<< (x8 &&& 31))) (d := x8.toNatClampNeg) (mI u 76 10).toNatClampNeg (fun j hj => tbo h8 (l32 _ h9) (by rw [← hq.n] at hj; omega))).1
        omega
      · rw [sx, weP, hD, ← e4, e8]
      · rw [sx, weP]
        show _ = if s = ord x.toNatClampNeg then _ else _
        rw [hD, ea]
        by_cases q : s = ord x.toNatClampNeg
        · rw [if_pos q, q, mI_eq]; exact e8
        · rw [if_neg q, mI_nk q]; exact hd s
      · rw [t3 s hs] at z
        have z2 := (Bool.or_eq_false_iff.mp z)
        have sn : s ≠ a.toNatClampNeg := of_decide_eq_false z2.2
        rw [mI_ne (by decide), mI_nk sn]
        exact hb s hs z2.1
    have nz : ¬ (mI v 76 10).toInt64 = 0 := i64_ne (Int32.lt_of_lt_of_le (by decide) n2.1)
    have iN : ∀ y : Int32, 0 ≤ y → (y.toInt = (y.toNatClampNeg : Int)) := fun y hy => by
      have b := Int32.le_iff_toInt_le.mp hy
      have d0 : (0 : Int32).toInt = 0 := by decide
      show y.toInt = (y.toInt.toNat : Int)
      omega
    have srch : ∀ (g : Int32) (x8 : Int32), 0 ≤ x8 → x8 < mI v 76 10 → seekP (mI v 76 10) x4 (dirP g) (mI v 76 10).toNatClampNeg x8 = D → Ws G m_passOne 82 [(0, .ref 76), (1, .int x1), (3, .int x3), (4, .int x4), (5, .int x), (6, .int a), (7, .int g), (8, .int x8)] [] v (RV fun u' => Mq mB u u' ∧ (∀ n k, n ≠ 85 → n ≠ 86 → mI u' n k = mI u n k) ∧ ∀ s, mI u' 85 s = pwk (mI u 76 10) x1 x2 (shM u) ord (mI u 76 11).toNatClampNeg (mI u 85) s) := by
      intro g
      by_cases hg : 0 ≤ g
      · have up : ∀ (k F : Nat) (x8 : Int32), 0 ≤ x8 → x8 < mI v 76 10 → (if x8.toNatClampNeg ≤ f then f - x8.toNatClampNeg else f + (mI v 76 10).toNatClampNeg - x8.toNatClampNeg) = k → k ≤ F → seekP (mI v 76 10) x4 1 F x8 = D → Ws G m_passOne 82 [(0, .ref 76), (1, .int x1), (3, .int x3), (4, .int x4), (5, .int x), (6, .int a), (7, .int g), (8, .int x8)] [] v (RV fun u' => Mq mB u u' ∧ (∀ n k, n ≠ 85 → n ≠ 86 → mI u' n k = mI u n k) ∧ ∀ s, mI u' 85 s = pwk (mI u 76 10) x1 x2 (shM u) ord (mI u 76 11).toNatClampNeg (mI u 85) s) := by
          intro k
          induction k with
          | zero =>
            intro F x8 h8 h9 hk _ hs
            have l9 := tn_lt h8 h9
            have e : x8.toNatClampNeg = f := by split at hk <;> omega
            have t8 : tb x4 x8.toNatClampNeg = false := by rw [e]; exact f2
            exact sg_m_passOne_82 ⟨fun b => exit x8 h8 h9 t8 (by rw [← hs]; exact (seek_f t8 _).symm), fun b => absurd ((tbx h8 (l32 _ h9)).mp b) (by rw [t8]; decide)⟩
          | succ k ik =>
            intro F x8 h8 h9 hk hF hs
            have l9 := tn_lt h8 h9
            refine sg_m_passOne_82 ⟨fun b => exit x8 h8 h9 (tb_n h8 (l32 _ h9) b) (by rw [← hs]; exact (seek_f (tb_n h8 (l32 _ h9) b) _).symm), fun b => ⟨fun _ => ⟨nz, ?_⟩, fun z => absurd hg z⟩⟩
            have rg := dAt_rg (x := (x8 + 1).toInt64) n2.1 n2.2
            cases F with
            | zero => omega
            | succ F =>
              rw [seek_t ((tbx h8 (l32 _ h9)).mp b)] at hs
              refine ik F _ rg.1 rg.2 ?_ (by omega) hs
              have st := dAt_up2 n2.1 n2.2 h8 h9
              rw [iN _ rg.1, iN _ h8, iN (mI v 76 10) (Int32.le_trans (by decide) n2.1)] at st
              split at hk <;> split at st <;> split <;> omega
        intro x8 h8 h9 hs
        have l9 := tn_lt h8 h9
        refine up _ _ x8 h8 h9 rfl ?_ (by unfold dirP at hs; rw [if_pos hg] at hs; exact hs)
        split <;> omega
      · have dn : ∀ (k F : Nat) (x8 : Int32), 0 ≤ x8 → x8 < mI v 76 10 → (if f ≤ x8.toNatClampNeg then x8.toNatClampNeg - f else x8.toNatClampNeg + (mI v 76 10).toNatClampNeg - f) = k → k ≤ F → seekP (mI v 76 10) x4 (-1) F x8 = D → Ws G m_passOne 82 [(0, .ref 76), (1, .int x1), (3, .int x3), (4, .int x4), (5, .int x), (6, .int a), (7, .int g), (8, .int x8)] [] v (RV fun u' => Mq mB u u' ∧ (∀ n k, n ≠ 85 → n ≠ 86 → mI u' n k = mI u n k) ∧ ∀ s, mI u' 85 s = pwk (mI u 76 10) x1 x2 (shM u) ord (mI u 76 11).toNatClampNeg (mI u 85) s) := by
          intro k
          induction k with
          | zero =>
            intro F x8 h8 h9 hk _ hs
            have l9 := tn_lt h8 h9
            have e : x8.toNatClampNeg = f := by split at hk <;> omega
            have t8 : tb x4 x8.toNatClampNeg = false := by rw [e]; exact f2
            exact sg_m_passOne_82 ⟨fun b => exit x8 h8 h9 t8 (by rw [← hs]; exact (seek_f t8 _).symm), fun b => absurd ((tbx h8 (l32 _ h9)).mp b) (by rw [t8]; decide)⟩
          | succ k ik =>
            intro F x8 h8 h9 hk hF hs
            have l9 := tn_lt h8 h9
            refine sg_m_passOne_82 ⟨fun b => exit x8 h8 h9 (tb_n h8 (l32 _ h9) b) (by rw [← hs]; exact (seek_f (tb_n h8 (l32 _ h9) b) _).symm), fun b => ⟨fun z => absurd z hg, fun _ => ⟨nz, ?_⟩⟩⟩
            have rg := dAt_rg (x := (x8 + (-1)).toInt64) n2.1 n2.2
            cases F with
            | zero => omega
            | succ F =>
              rw [seek_t ((tbx h8 (l32 _ h9)).mp b)] at hs
              refine ik F _ rg.1 rg.2 ?_ (by omega) hs
              have st := dAt_dn2 n2.1 n2.2 h8 h9
              rw [iN _ rg.1, iN _ h8, iN (mI v 76 10) (Int32.le_trans (by decide) n2.1)] at st
              split at hk <;> split at st <;> split <;> omega
        intro x8 h8 h9 hs
        have l9 := tn_lt h8 h9
        refine dn _ _ x8 h8 h9 rfl ?_ (by unfold dirP at hs; rw [if_neg hg] at hs; exact hs)
        split <;> omega
    have rg := fun z : Int64 => dAt_rg (x := z) n2.1 n2.2
    have I := ix5 a0 a7
    refine ⟨v70 a0 a7 (by decide) (by decide), v70 a0 a7 (by decide) (by decide), v70 a0 a7 (by decide) (by decide), hV.2.2.1 a a0 (by rw [hq.m]; exact a1), vin a0 a7 (by decide), nz, srch _ _ (rg _).1 (rg _).2 ?_⟩
    rw [← hD]
    unfold doP
    have eg : goV (mI v 83 (5 * a + 0 : Int32).toNatClampNeg) (mI v 83 (5 * a + 2 : Int32).toNatClampNeg) (mI v 83 (5 * a + 4 : Int32).toNatClampNeg) x1 = goP (shM u (ord x.toNatClampNeg)) x1 := by
      rw [I.1, I.2.2.1, I.2.2.2.2.1, hf _ _ (by decide) (by decide), hf _ _ (by decide) (by decide), hf _ _ (by decide) (by decide), ea]; rfl
    rw [eg, hq.n, hb _ aN a2, hd, ea, e4]
  have k8 : ∀ x v, 0 ≤ x → x ≤ mI u 76 11 → Mq mB u v → (∀ n k, n ≠ 86 → mI v n k = mI u n k) → (∀ s, s < x.toNatClampNeg → mI v 86 s = mI u 85 s) → Ws G m_passOne 8 [(0, .ref 76), (1, .int x1), (3, .int 0), (4, .int x2), (5, .int x)] [] v (RV fun u' => Mq mB u u' ∧ (∀ n k, n ≠ 85 → n ≠ 86 → mI u' n k = mI u n k) ∧ ∀ s, mI u' 85 s = pwk (mI u 76 10) x1 x2 (shM u) ord (mI u 76 11).toNatClampNeg (mI u 85) s) := by
    refine upI (mI u 76 11) _ (fun x ih v h0 hx hq hf hb => ?_)
    have z0 : (0 : Int32).toNatClampNeg = 0 := by decide
    refine sg_m_passOne_8 ⟨fun c => key 0 v 0 x2 (by decide) m7.1 hq (fun n k _ a => hf n k a) (fun j hj => ?_) (by rw [cnt_0, z0]) (by omega) (by rw [z0]; rfl) (fun s => by rw [z0, hf _ _ (by decide)]; rfl) (fun s hs _ => ?_), fun c => ?_⟩
    · constructor
      · intro h
        have : tb 0 j = false := BitVec.getLsbD_zero
        rw [this] at h; exact absurd h (by decide)
      · rintro ⟨i, i1, _⟩; omega
    · rw [hq.m] at c
      rw [hf 85 _ (by decide)]
      exact hb s (by have := tn_le c; omega)
    rw [hq.m] at c
    have hv : vp_in x 7 := vin h0 (show (_ : Int32) < 7 from Int32.lt_of_lt_of_le (Int32.not_le.mp c) m7.2) (by decide)
    refine ⟨hv, hv, ih c _ (er_up h0 c).1 (er_up h0 c).2 (hq.pD (.inr (.inr rfl)) ((hq.inv hM).b85 _)) (fun n k a => by rw [mI_ne a]; exact hf n k a) (fun s hs => ?_)⟩
    rw [tn_succ h0 c] at hs
    by_cases q : s = x.toNatClampNeg
    · rw [q, mI_eq, hf _ _ (by decide)]
    · rw [mI_nk q]; exact hb s (by omega)
  have z0 : (0 : Int32).toNatClampNeg = 0 := by decide
  exact sg_m_passOne_0 (k8 0 u (by decide) m7.1 Mq.rf (fun _ _ _ => rfl) (fun s hs => by omega))
end WEEK
