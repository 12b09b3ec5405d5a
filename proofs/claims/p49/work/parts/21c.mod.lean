/-! ===== a week of the Model ===== -/
theorem tn_succ {x b : Int32} (h0 : 0 ≤ x) (c : ¬ b ≤ x) : (x + 1).toNatClampNeg = x.toNatClampNeg + 1 := by
  have h := i32_succ c
  have b := Int32.le_iff_toInt_le.mp h0
  have d0 : (0 : Int32).toInt = 0 := by decide
  show (x + 1).toInt.toNat = x.toInt.toNat + 1
  omega
theorem tn_le {x y : Int32} (h : x ≤ y) : x.toNatClampNeg ≤ y.toNatClampNeg := by
  have := Int32.le_iff_toInt_le.mp h
  show x.toInt.toNat ≤ y.toInt.toNat
  omega
theorem tn_lt {x y : Int32} (h0 : 0 ≤ x) (h : x < y) : x.toNatClampNeg < y.toNatClampNeg := by
  have := Int32.lt_iff_toInt_lt.mp h
  have b := Int32.le_iff_toInt_le.mp h0
  have d0 : (0 : Int32).toInt = 0 := by decide
  show x.toInt.toNat < y.toInt.toNat
  omega
theorem tb_t {x d : Int32} (h0 : 0 ≤ d) (h1 : d < 32) (h : ¬ ((x >>> (d &&& 31)) &&& 1) = 0) : tb x d.toNatClampNeg = true := (tbx h0 h1).mp ((tb_01 _).resolve_left h)
theorem tb_f {x d : Int32} (h0 : 0 ≤ d) (h1 : d < 32) (h : ((x >>> (d &&& 31)) &&& 1) = 0) : tb x d.toNatClampNeg = false := by
  cases e : tb x d.toNatClampNeg
  · rfl
  · have := (tbx h0 h1).mpr e
    rw [h] at this
    exact absurd this (by decide)
theorem tb_n {x d : Int32} (h0 : 0 ≤ d) (h1 : d < 32) (h : ¬ ((x >>> (d &&& 31)) &&& 1) = 1) : tb x d.toNatClampNeg = false := by
  cases e : tb x d.toNatClampNeg
  · rfl
  · exact absurd ((tbx h0 h1).mpr e) h
theorem x1_p {x b : Int32} (h0 : 0 ≤ x) (c : ¬ b ≤ x) : 0 ≤ x + 1 := by grind
section MOD
variable {G : pG} {u w : pM}
theorem e_taker {x1 : Int32} (hM : InvM u) (hc : cnt x1 (mI u 76 11).toNatClampNeg < (mI u 76 11).toNatClampNeg) : Ws G m_taker 0 [(0, .ref 76), (1, .int x1)] [] u (RI fun a u' => u = u' ∧ 0 ≤ a ∧ a < mI u 76 11 ∧ tb x1 a.toNatClampNeg = false) := by
  have m7 := hM.m7
  have key : ∀ x (y : Int32), 0 ≤ x → ((y = -9 ∧ ∀ j, j < x.toNatClampNeg → tb x1 j = true) ∨ (0 ≤ y ∧ y < mI u 76 11 ∧ tb x1 y.toNatClampNeg = false)) → Ws G m_taker 5 [(0, .ref 76), (1, .int x1), (2, .int y), (3, .int x)] [] u (RI fun a u' => u = u' ∧ 0 ≤ a ∧ a < mI u 76 11 ∧ tb x1 a.toNatClampNeg = false) := by
    refine upI (mI u 76 11) _ (fun x ih y h0 hT => ?_)
    refine sg_m_taker_5 ⟨fun c => ?_, fun c => ⟨fun b => ih c _ (x1_p h0 c) ?_, fun b => ?_⟩⟩
    · rcases hT with ⟨_, hT⟩ | hT
      · have := cnt_full (x := x1) (mI u 76 11).toNatClampNeg (fun j hj => hT j (by have := tn_le c; omega))
        omega
      · exact ⟨_, rfl, rfl, hT⟩
    · rcases hT with ⟨e, hT⟩ | hT
      · refine .inl ⟨e, fun j hj => ?_⟩
        rw [tn_succ h0 c] at hj
        by_cases q : j = x.toNatClampNeg
        · rw [q]; exact tb_t h0 (Int32.lt_of_lt_of_le (Int32.not_le.mp c) (Int32.le_trans m7.2 (by decide))) b
        · exact hT j (by omega)
      · exact .inr hT
    · have hB : Ws G m_taker 5 [(0, .ref 76), (1, .int x1), (2, .int x), (3, .int (x + 1))] [] u (RI fun a u' => u = u' ∧ 0 ≤ a ∧ a < mI u 76 11 ∧ tb x1 a.toNatClampNeg = false) := ih c _ (x1_p h0 c) (.inr ⟨h0, Int32.not_le.mp c, tb_f h0 (Int32.lt_of_lt_of_le (Int32.not_le.mp c) (Int32.le_trans m7.2 (by decide))) b⟩)
      have hx7 : x < 7 := Int32.lt_of_lt_of_le (Int32.not_le.mp c) m7.2
      have h2 : ¬ y = -9 → 0 ≤ y ∧ y < 7 := fun q => by
        rcases hT with ⟨e, _⟩ | hT
        · exact absurd e q
        · exact ⟨hT.1, Int32.lt_of_lt_of_le hT.2.1 m7.2⟩
      have hA : ¬ y = -9 → Ws G m_taker 5 [(0, .ref 76), (1, .int x1), (2, .int y), (3, .int (x + 1))] [] u (RI fun a u' => u = u' ∧ 0 ≤ a ∧ a < mI u 76 11 ∧ tb x1 a.toNatClampNeg = false) := fun q => by
        rcases hT with ⟨e, _⟩ | hT
        · exact absurd e q
        · exact ih c _ (x1_p h0 c) (.inr hT)
      repeat' first
        | (exact hB)
        | (exact hA (by assumption))
        | (exact vin (by clear ih hA hB hT; grind) (show (_ : Int32) < 70 by clear ih hA hB hT; grind) (by decide))
        | ((fail_if_success (refine Ws.str ?_)); intro _)
        | (refine And.intro ?_ ?_)
  exact sg_m_taker_0 (key 0 (-9) (by decide) (.inl ⟨rfl, fun j hj => absurd hj (by have z : (0 : Int32).toNatClampNeg = 0 := (by decide); omega)⟩))
theorem e_fromNow (hM : InvM u) : Ws G m_fromNow 0 [(0, .ref 76)] [] u (RV fun u' => Mq mB u u') := by
  have m7 := hM.m7
  have key : ∀ x v, 0 ≤ x → Mq mB u v → Ws G m_fromNow 2 [(0, .ref 76), (1, .int x)] [] v (RV fun u' => Mq mB u u') := by
    refine upI (mI u 76 11) _ (fun x ih v h0 hq => ?_)
    refine sg_m_fromNow_2 ⟨fun _ => ⟨rfl, hq⟩, fun c => ?_⟩
    rw [hq.m] at c
    have hv : vp_in x 7 := vin h0 (show (_ : Int32) < 7 by grind) (by decide)
    exact ⟨hv, hv, ih c _ (by grind) (hq.pD (.inr (.inl rfl)) ((hq.inv hM).b84 _))⟩
  exact sg_m_fromNow_0 (key 0 u (by decide) Mq.rf)
theorem e_passOne {x1 x2 : Int32} (hM : InvM u) (hc : cnt x2 (mI u 76 10).toNatClampNeg ≤ 3) : Ws G m_passOne 0 [(0, .ref 76), (1, .int x1), (2, .int x2)] [] u (RV fun u' => Mq mB u u') := by
  have m7 := hM.m7
  have key : ∀ x v (x3 x4 : Int32), 0 ≤ x → Mq mB u v → cnt x3 (mI u 76 11).toNatClampNeg = x.toNatClampNeg → cnt x4 (mI u 76 10).toNatClampNeg ≤ 3 + x.toNatClampNeg → Ws G m_passOne 40 [(0, .ref 76), (1, .int x1), (3, .int x3), (4, .int x4), (5, .int x)] [] v (RV fun u' => Mq mB u u') := by
    refine upI (mI u 76 11) _ (fun x ih v x3 x4 h0 hq c3 c4 => ?_)
    refine sg_m_passOne_40 ⟨fun _ => ⟨rfl, hq⟩, fun c => ?_⟩
    have hV := hq.inv hM
    rw [hq.m] at c
    have cx := tn_lt h0 (Int32.not_le.mp c)
    refine kI (e_taker hV (by rw [hq.m]; omega)) (fun a v' h => ?_)
    obtain ⟨rfl, a0, a1, a2⟩ := h
    rw [hq.m] at a1
    have n1 := hM.n10 a0 a1
    have n2 : 10 ≤ mI v 76 10 ∧ mI v 76 10 ≤ 30 := by rw [hq.n]; exact n1
    have x7 : x.toNatClampNeg < 7 := by
      have := tn_le m7.2
      have e7 : (7 : Int32).toNatClampNeg = 7 := by decide
      omega
    have n10 : 10 ≤ (mI v 76 10).toNatClampNeg := by
      have := tn_le n2.1
      have e : (10 : Int32).toNatClampNeg = 10 := by decide
      omega
    have n30 : (mI v 76 10).toNatClampNeg ≤ 30 := by
      have := tn_le n2.2
      have e : (30 : Int32).toNatClampNeg = 30 := by decide
      omega
    obtain ⟨f, f1, f2⟩ := cnt_free (x := x4) (mI v 76 10).toNatClampNeg (by rw [← hq.n] at c4; omega)
    have a7 : a < 7 := by grind
    have exit : ∀ x8 : Int32, 0 ≤ x8 → x8 < mI v 76 10 → tb x4 x8.toNatClampNeg = false → vp_in a 7 ∧ Ws G m_passOne 40 [(0, .ref 76), (1, .int x1), (3, .int (x3 ||| (1 <<< (a &&& 31)))), (4, .int (x4 ||| (1 <<< (x8 &&& 31)))), (5, .int (x + 1))] [] (pI v 85 (a : Int32).toNatClampNeg x8) (RV fun u' => Mq mB u u') := by
      intro x8 h8 h9 ht
      refine ⟨vin a0 a7 (by decide), ih c _ _ _ (by grind) (hq.pD (.inr (.inl rfl)) ⟨h8, by grind⟩) ?_ ?_⟩
      · rw [tn_succ h0 c, ← c3]
        have m32 : (mI u 76 11).toNatClampNeg ≤ 7 := by
          have := tn_le m7.2
          have e7 : (7 : Int32).toNatClampNeg = 7 := by decide
          omega
        exact (cnt_upd (d := a.toNatClampNeg) _ (fun j hj => tbo a0 (by grind) (by omega))).2.2 (tn_lt a0 a1) a2
      · rw [tn_succ h0 c]
        have := (cnt_upd (x := x4) (y := x4 ||| (1 <<< (x8 &&& 31))) (d := x8.toNatClampNeg) (mI u 76 10).toNatClampNeg (fun j hj => tbo h8 (by grind) (by rw [← hq.n] at hj; omega))).1
        omega
    have nz : ¬ (mI v 76 10).toInt64 = 0 := i64_ne (by grind)
    have iN : ∀ y : Int32, 0 ≤ y → (y.toInt = (y.toNatClampNeg : Int)) := fun y hy => by
      have b := Int32.le_iff_toInt_le.mp hy
      have d0 : (0 : Int32).toInt = 0 := by decide
      show y.toInt = (y.toInt.toNat : Int)
      omega
    have srch : ∀ (g : Int32) (x8 : Int32), 0 ≤ x8 → x8 < mI v 76 10 → Ws G m_passOne 82 [(0, .ref 76), (1, .int x1), (3, .int x3), (4, .int x4), (5, .int x), (6, .int a), (7, .int g), (8, .int x8)] [] v (RV fun u' => Mq mB u u') := by
      intro g
      by_cases hg : 0 ≤ g
      · have up : ∀ (k : Nat) (x8 : Int32), 0 ≤ x8 → x8 < mI v 76 10 → (if x8.toNatClampNeg ≤ f then f - x8.toNatClampNeg else f + (mI v 76 10).toNatClampNeg - x8.toNatClampNeg) = k → Ws G m_passOne 82 [(0, .ref 76), (1, .int x1), (3, .int x3), (4, .int x4), (5, .int x), (6, .int a), (7, .int g), (8, .int x8)] [] v (RV fun u' => Mq mB u u') := by
          intro k
          induction k with
          | zero =>
            intro x8 h8 h9 hk
            have l9 := tn_lt h8 h9
            have e : x8.toNatClampNeg = f := by split at hk <;> omega
            exact sg_m_passOne_82 ⟨fun b => exit x8 h8 h9 (by rw [e]; exact f2), fun b => absurd ((tbx h8 (by grind)).mp b) (by rw [e, f2]; decide)⟩
          | succ k ik =>
            intro x8 h8 h9 hk
            have l9 := tn_lt h8 h9
            refine sg_m_passOne_82 ⟨fun b => exit x8 h8 h9 (tb_n h8 (by grind) b), fun b => ⟨fun _ => ⟨nz, ?_⟩, fun z => absurd hg z⟩⟩
            have rg := dAt_rg (x := (x8 + 1).toInt64) n2.1 n2.2
            refine ik _ rg.1 rg.2 ?_
            have st := dAt_up2 n2.1 n2.2 h8 h9
            rw [iN _ rg.1, iN _ h8, iN (mI v 76 10) (by grind)] at st
            split at hk <;> split at st <;> split <;> omega
        exact fun x8 h8 h9 => up _ x8 h8 h9 rfl
      · have dn : ∀ (k : Nat) (x8 : Int32), 0 ≤ x8 → x8 < mI v 76 10 → (if f ≤ x8.toNatClampNeg then x8.toNatClampNeg - f else x8.toNatClampNeg + (mI v 76 10).toNatClampNeg - f) = k → Ws G m_passOne 82 [(0, .ref 76), (1, .int x1), (3, .int x3), (4, .int x4), (5, .int x), (6, .int a), (7, .int g), (8, .int x8)] [] v (RV fun u' => Mq mB u u') := by
          intro k
          induction k with
          | zero =>
            intro x8 h8 h9 hk
            have l9 := tn_lt h8 h9
            have e : x8.toNatClampNeg = f := by split at hk <;> omega
            exact sg_m_passOne_82 ⟨fun b => exit x8 h8 h9 (by rw [e]; exact f2), fun b => absurd ((tbx h8 (by grind)).mp b) (by rw [e, f2]; decide)⟩
          | succ k ik =>
            intro x8 h8 h9 hk
            have l9 := tn_lt h8 h9
            refine sg_m_passOne_82 ⟨fun b => exit x8 h8 h9 (tb_n h8 (by grind) b), fun b => ⟨fun z => absurd z hg, fun _ => ⟨nz, ?_⟩⟩⟩
            have rg := dAt_rg (x := (x8 + (-1)).toInt64) n2.1 n2.2
            refine ik _ rg.1 rg.2 ?_
            have st := dAt_dn2 n2.1 n2.2 h8 h9
            rw [iN _ rg.1, iN _ h8, iN (mI v 76 10) (by grind)] at st
            split at hk <;> split at st <;> split <;> omega
        exact fun x8 h8 h9 => dn _ x8 h8 h9 rfl
    have rg := fun z : Int64 => dAt_rg (x := z) n2.1 n2.2
    exact ⟨vin (by grind) (show (_ : Int32) < 70 by grind) (by decide), vin (by grind) (show (_ : Int32) < 70 by grind) (by decide), vin (by grind) (show (_ : Int32) < 70 by grind) (by decide), hV.2.2.1 a a0 (by rw [hq.m]; exact a1), vin a0 a7 (by decide), nz, srch _ _ (rg _).1 (rg _).2⟩
  have k8 : ∀ x v, 0 ≤ x → Mq mB u v → Ws G m_passOne 8 [(0, .ref 76), (1, .int x1), (3, .int 0), (4, .int x2), (5, .int x)] [] v (RV fun u' => Mq mB u u') := by
    refine upI (mI u 76 11) _ (fun x ih v h0 hq => ?_)
    have z0 : (0 : Int32).toNatClampNeg = 0 := by decide
    refine sg_m_passOne_8 ⟨fun _ => key 0 v 0 x2 (by decide) hq (by rw [cnt_0, z0]) (by omega), fun c => ?_⟩
    rw [hq.m] at c
    have hv : vp_in x 7 := vin h0 (show (_ : Int32) < 7 by grind) (by decide)
    exact ⟨hv, hv, ih c _ (by grind) (hq.pD (.inr (.inr rfl)) ((hq.inv hM).b85 _))⟩
  exact sg_m_passOne_0 (k8 0 u (by decide) Mq.rf)
end MOD
