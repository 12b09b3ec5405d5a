/-! ===== who goes ahead of whom ===== -/
def keyP (s : Sh5) : Int32 := (if s.1 = 2 then 0 else 1000) + s.2.2.2.1
def ahP (sh : Nat → Sh5) (s q : Nat) : Prop := keyP (sh q) < keyP (sh s) ∨ (keyP (sh q) = keyP (sh s) ∧ s < q)
theorem er_up {x b : Int32} (h0 : 0 ≤ x) (c : ¬ b ≤ x) : 0 ≤ x + 1 ∧ x + 1 ≤ b := by
  have h := i32_succ c
  have d0 : (0 : Int32).toInt = 0 := by decide
  have a := Int32.le_iff_toInt_le.mp h0
  have e : ¬ b.toInt ≤ x.toInt := fun z => c (Int32.le_iff_toInt_le.mpr z)
  exact ⟨Int32.le_iff_toInt_le.mpr (by omega), Int32.le_iff_toInt_le.mpr (by omega)⟩
theorem v70 {x k : Int32} (h0 : 0 ≤ x) (h7 : x < 7) (k0 : 0 ≤ k) (k5 : k < 5) : vp_in (5 * x + k) 70 := vin (by grind) (show (_ : Int32) < 70 by grind) (by decide)
theorem ahP.tr {sh : Nat → Sh5} {a b c : Nat} (h : ahP sh a b) (h2 : ahP sh b c) : ahP sh a c := by
  unfold ahP at *
  rcases h with h | h <;> rcases h2 with h2 | h2
  · exact .inl (Int32.lt_trans h2 h)
  · exact .inl (by rw [h2.1]; exact h)
  · exact .inl (by rw [← h.1]; exact h2)
  · exact .inr ⟨h2.1.trans h.1, by omega⟩
theorem ahP.ir {sh : Nat → Sh5} {a : Nat} (h : ahP sh a a) : False := by
  rcases h with h | h
  · exact absurd h (Int32.not_lt.mpr (Int32.le_refl _))
  · omega
def OrdP (sh : Nat → Sh5) (m : Nat) (ord : Nat → Nat) : Prop := (∀ i, i < m → ord i < m) ∧ (∀ i j, i < j → j < m → ahP sh (ord i) (ord j)) ∧ ∀ q, q < m → ∃ i, i < m ∧ ord i = q
theorem OrdP.inj {sh : Nat → Sh5} {m : Nat} {ord : Nat → Nat} (h : OrdP sh m ord) {i j : Nat} (hi : i < m) (hj : j < m) (e : ord i = ord j) : i = j := by
  rcases Nat.lt_trichotomy i j with c | c | c
  · exact absurd (e ▸ h.2.1 i j c hj) (fun z => ahP.ir z)
  · exact c
  · exact absurd (e ▸ h.2.1 j i c hi) (fun z => ahP.ir z)
/-- the class's order of a Plan -/
def OrdC (u : pM) (o : Nat) (sh : Nat → Sh5) (m : Nat) : Prop := (∀ i, i < m → 0 ≤ mI u (o + 3) i) ∧ OrdP sh m (fun i => (mI u (o + 3) i).toNatClampNeg)
/-- an order of all below N but that place p is free, and N goes ahead of those behind it -/
def InsI (w : pM) (o : Nat) (sh : Nat → Sh5) (N p : Nat) : Prop := (∀ i, i ≤ N → i ≠ p → 0 ≤ mI w (o + 3) i ∧ (mI w (o + 3) i).toNatClampNeg < N) ∧ (∀ i j, i < j → j ≤ N → i ≠ p → j ≠ p → ahP sh (mI w (o + 3) i).toNatClampNeg (mI w (o + 3) j).toNatClampNeg) ∧ (∀ j, p < j → j ≤ N → ahP sh N (mI w (o + 3) j).toNatClampNeg) ∧ ∀ q, q < N → ∃ i, i ≤ N ∧ i ≠ p ∧ (mI w (o + 3) i).toNatClampNeg = q
def shF (u : pM) (o : Nat) : Nat → Sh5 := fun s => shC u (R0 (o + 1) s)
def shM (u : pM) : Nat → Sh5 := fun s => mC u (5 * s)
theorem shO_in {u : pM} {o : Nat} {s : Int32} (h0 : 0 ≤ s) (h1 : s < mI u o 1) (h7 : s < 7) : shO u o s = R0 (o + 1) s.toNatClampNeg := by
  unfold shO
  rw [if_pos ⟨h0, h1, h7⟩]
theorem tn_inj {x y : Int32} (hx : 0 ≤ x) (hy : 0 ≤ y) (e : x.toNatClampNeg = y.toNatClampNeg) : x = y := by rw [← i32_nat hx, ← i32_nat hy, e]
theorem tn_pred {x : Int32} (h : 0 < x) : (x - 1).toNatClampNeg + 1 = x.toNatClampNeg := by
  have b := Int32.lt_iff_toInt_lt.mp h
  have c := Int32.toInt_lt x
  have d0 : (0 : Int32).toInt = 0 := by decide
  have d1 : (1 : Int32).toInt = 1 := by decide
  have e : (x - 1).toInt = x.toInt - 1 := by rw [Int32.toInt_sub, d1, Int.bmod_eq_of_le (by omega) (by omega)]
  show (x - 1).toInt.toNat + 1 = x.toInt.toNat
  omega
theorem ix5 {z : Int32} (h0 : 0 ≤ z) (h7 : z < 7) : (5 * z + 0 : Int32).toNatClampNeg = 5 * z.toNatClampNeg ∧ (5 * z + 1 : Int32).toNatClampNeg = 5 * z.toNatClampNeg + 1 ∧ (5 * z + 2 : Int32).toNatClampNeg = 5 * z.toNatClampNeg + 2 ∧ (5 * z + 3 : Int32).toNatClampNeg = 5 * z.toNatClampNeg + 3 ∧ (5 * z + 4 : Int32).toNatClampNeg = 5 * z.toNatClampNeg + 4 ∧ z.toNatClampNeg < 7 := by
  have key : ∀ i, i < 7 → (5 * Int32.ofNat i + 0 : Int32).toNatClampNeg = 5 * i ∧ (5 * Int32.ofNat i + 1 : Int32).toNatClampNeg = 5 * i + 1 ∧ (5 * Int32.ofNat i + 2 : Int32).toNatClampNeg = 5 * i + 2 ∧ (5 * Int32.ofNat i + 3 : Int32).toNatClampNeg = 5 * i + 3 ∧ (5 * Int32.ofNat i + 4 : Int32).toNatClampNeg = 5 * i + 4 := by decide
  have l := tn_lt h0 h7
  have e : (7 : Int32).toNatClampNeg = 7 := by decide
  have := key z.toNatClampNeg (by omega)
  rw [i32_nat h0] at this
  exact ⟨this.1, this.2.1, this.2.2.1, this.2.2.2.1, this.2.2.2.2, by omega⟩
section ORD
variable {G : pG} {u : pM} {L : List Nat}
theorem c_isAheadx {o0 : Nat} {x1 x2 : Int32} (k0 : okS o0 2) (h1 : 0 ≤ x1 ∧ x1 < mI u o0 1 ∧ x1 < 7) (h2 : 0 ≤ x2 ∧ x2 < mI u o0 1 ∧ x2 < 7) (a1 : 0 ≤ (shF u o0 x1.toNatClampNeg).2.2.2.1 ∧ (shF u o0 x1.toNatClampNeg).2.2.2.1 ≤ 99) (a2 : 0 ≤ (shF u o0 x2.toNatClampNeg).2.2.2.1 ∧ (shF u o0 x2.toNatClampNeg).2.2.2.1 ≤ 99) : Ws G Pl_isAhead 0 [(0, .ref o0), (1, .int x1), (2, .int x2)] [] u (RI fun a u' => u = u' ∧ (a = 0 ∧ ¬ keyP (shF u o0 x2.toNatClampNeg) < keyP (shF u o0 x1.toNatClampNeg) ∨ ¬ a = 0 ∧ keyP (shF u o0 x2.toNatClampNeg) < keyP (shF u o0 x1.toNatClampNeg))) := by
  refine sg_Pl_isAhead_0 k0 ?_
  rw [shO_in h1.1 h1.2.1 h1.2.2, shO_in h2.1 h2.2.1 h2.2.2]
  unfold keyP
  unfold shF shC at *
  simp only at a1 a2 ⊢
  generalize mI u (R0 (o0 + 1) x1.toNatClampNeg) 0 = p1 at *
  generalize mI u (R0 (o0 + 1) x2.toNatClampNeg) 0 = p2 at *
  generalize mI u (R0 (o0 + 1) x1.toNatClampNeg) 3 = g1 at *
  generalize mI u (R0 (o0 + 1) x2.toNatClampNeg) 3 = g2 at *
  refine ⟨fun a => ⟨fun b => ⟨fun c => ⟨_, rfl, rfl, .inl ⟨rfl, ?_⟩⟩, fun c => ⟨_, rfl, rfl, .inr ⟨by decide, ?_⟩⟩⟩, fun b => ⟨_, rfl, rfl, .inr ⟨by decide, ?_⟩⟩⟩, fun a => ⟨fun b => ⟨_, rfl, rfl, .inl ⟨rfl, ?_⟩⟩, fun b => ⟨fun c => ⟨_, rfl, rfl, .inl ⟨rfl, ?_⟩⟩, fun c => ⟨_, rfl, rfl, .inr ⟨by decide, ?_⟩⟩⟩⟩⟩
  · rw [if_neg a, if_neg b]; grind
  · rw [if_neg a, if_neg b]; grind
  · rw [if_neg a, if_pos b]; grind
  · rw [if_pos a, if_neg b]; grind
  · rw [if_pos a, if_pos b]; grind
  · rw [if_pos a, if_pos b]; grind
/-- the shops' ages are such as a text can tell -/
def agK (sh : Nat → Sh5) (m : Nat) : Prop := ∀ s, s < m → 0 ≤ (sh s).2.2.2.1 ∧ (sh s).2.2.2.1 ≤ 99
theorem c_rankx {o0 : Nat} (mp : o0 + 3 ∈ L) (k0 : okS o0 2) (hm : 0 ≤ mI u o0 1 ∧ mI u o0 1 ≤ 7) (hv : agK (shF u o0) (mI u o0 1).toNatClampNeg) : Ws G Pl_rank 0 [(0, .ref o0)] [] u (RV fun u' => Cq L u u' ∧ (∀ n k, n ≠ o0 + 3 → mI u' n k = mI u n k) ∧ OrdC u' o0 (shF u o0) (mI u o0 1).toNatClampNeg) := by
  have h3 := os_2_4 k0
  have l3 : o0 + 3 < 76 := by have := lt_2 k0; omega
  have Rn : ∀ i, i < 7 → R0 (o0 + 1) i ≠ o0 + 3 := fun i hi => (show ∀ o, o < 95 → (S0 o).1 = 2 → ∀ i, i < 7 → R0 (o + 1) i ≠ o + 3 from by decide +kernel) _ k0.2.1 k0.2.2 i hi
  have m7 : (mI u o0 1).toNatClampNeg ≤ 7 := by have := tn_le hm.2; have e : (7 : Int32).toNatClampNeg = 7 := (by decide); omega
  have fr : ∀ v, (∀ n k, n ≠ o0 + 3 → mI v n k = mI u n k) → ∀ s, s < 7 → shF v o0 s = shF u o0 s := fun v h s hs => by
    unfold shF shC
    rw [h _ _ (Rn s hs), h _ _ (Rn s hs), h _ _ (Rn s hs), h _ _ (Rn s hs), h _ _ (Rn s hs)]
  have key : ∀ x v, 0 ≤ x → x ≤ mI u o0 1 → Cq L u v → (∀ n k, n ≠ o0 + 3 → mI v n k = mI u n k) → OrdC v o0 (shF u o0) x.toNatClampNeg → Ws G Pl_rank 2 [(0, .ref o0), (1, .int x)] [] v (RV fun u' => Cq L u u' ∧ (∀ n k, n ≠ o0 + 3 → mI u' n k = mI u n k) ∧ OrdC u' o0 (shF u o0) (mI u o0 1).toNatClampNeg) := by
    refine upI (mI u o0 1) _ (fun x ih v h0 hx hq hf ho => ?_)
    have e1 : mI v o0 1 = mI u o0 1 := hf _ _ (by omega)
    have done : mI u o0 1 ≤ x → OrdC v o0 (shF u o0) (mI u o0 1).toNatClampNeg := fun c => by rw [Int32.le_antisymm c hx]; exact ho
    refine sg_Pl_rank_2 k0 ⟨fun c => ⟨rfl, hq, hf, done (by rw [← e1]; exact c)⟩, fun c => ⟨fun d => ⟨rfl, hq, hf, done (Int32.le_trans hm.2 d)⟩, fun d => ?_⟩⟩
    rw [e1] at c
    have x7 : x < 7 := Int32.not_le.mp d
    have xm : x < mI u o0 1 := Int32.not_le.mp c
    have xN := tn_lt h0 xm
    have sx := tn_succ h0 c
    have wr3 : ∀ (k : Nat) (z : Int32) (t : pM), Cq L u t → Cq L u (pI t (o0 + 3) k z) := fun k z t ht => ht.pI (wr_k h3 l3 (by decide) (by decide)) (by rw [cd_k h3 (by decide) l3]; exact mp)
    have fw : ∀ (w : pM), (∀ n k, n ≠ o0 + 3 → mI w n k = mI u n k) → ∀ (j : Nat) (z : Int32), ∀ n k, n ≠ o0 + 3 → mI (pI w (o0 + 3) j z) n k = mI u n k := fun w hfw j z n k hn => by rw [mI_ne hn]; exact hfw n k hn
    -- it goes in here
    have put : ∀ (y : Int32) (w : pM), y.toNatClampNeg ≤ x.toNatClampNeg → Cq L u w → (∀ n k, n ≠ o0 + 3 → mI w n k = mI u n k) → InsI w o0 (shF u o0) x.toNatClampNeg y.toNatClampNeg → (∀ i, i < y.toNatClampNeg → ahP (shF u o0) (mI w (o0 + 3) i).toNatClampNeg x.toNatClampNeg) → Ws G Pl_rank 2 [(0, .ref o0), (1, .int (x + 1))] [] (pI w (o0 + 3) y.toNatClampNeg x) (RV fun u' => Cq L u u' ∧ (∀ n k, n ≠ o0 + 3 → mI u' n k = mI u n k) ∧ OrdC u' o0 (shF u o0) (mI u o0 1).toNatClampNeg) := by
      intro y w yN hqw hfw hI hlow
      obtain ⟨b1, b2, b3, b4⟩ := hI
      refine ih c _ (er_up h0 c).1 (er_up h0 c).2 (wr3 _ _ _ hqw) (fw w hfw _ _) ?_
      rw [sx]
      refine ⟨fun i hi => ?_, fun i hi => ?_, fun i j hij hj => ?_, fun q hq => ?_⟩
      · by_cases e : i = y.toNatClampNeg
        · rw [e, mI_eq]; exact h0
        · rw [mI_nk e]; exact (b1 i (by omega) e).1
      · by_cases e : i = y.toNatClampNeg
        · show (mI _ (o0 + 3) i).toNatClampNeg < _
          rw [e, mI_eq]; omega
        · show (mI _ (o0 + 3) i).toNatClampNeg < _
          rw [mI_nk e]; have := (b1 i (by omega) e).2; omega
      · show ahP _ (mI _ (o0 + 3) i).toNatClampNeg (mI _ (o0 + 3) j).toNatClampNeg
        by_cases e : i = y.toNatClampNeg
        · have e2 : j ≠ y.toNatClampNeg := by omega
          rw [e, mI_eq, mI_nk e2]; exact b3 j (by omega) (by omega)
        · by_cases e2 : j = y.toNatClampNeg
          · rw [e2, mI_eq, mI_nk e]; exact hlow i (by omega)
          · rw [mI_nk e, mI_nk e2]; exact b2 i j hij (by omega) e e2
      · by_cases e : q = x.toNatClampNeg
        · refine ⟨y.toNatClampNeg, by omega, ?_⟩
          show (mI _ (o0 + 3) y.toNatClampNeg).toNatClampNeg = q
          rw [mI_eq, e]
        · obtain ⟨i, i1, i2, i3⟩ := b4 q (by omega)
          refine ⟨i, by omega, ?_⟩
          show (mI _ (o0 + 3) i).toNatClampNeg = q
          rw [mI_nk i2]; exact i3
    -- the place goes down
    have inner : ∀ (k : Nat) (y : Int32) (w : pM), y.toNatClampNeg = k → 0 ≤ y → y ≤ x → Cq L u w → (∀ n k, n ≠ o0 + 3 → mI w n k = mI u n k) → InsI w o0 (shF u o0) x.toNatClampNeg y.toNatClampNeg → Ws G Pl_rank 18 [(0, .ref o0), (1, .int x), (2, .int y)] [] w (RV fun u' => Cq L u u' ∧ (∀ n k, n ≠ o0 + 3 → mI u' n k = mI u n k) ∧ OrdC u' o0 (shF u o0) (mI u o0 1).toNatClampNeg) := by
      intro k
      induction k with
      | zero =>
        intro y w hk y0 yx hqw hfw hI
        have vy : vp_in y 7 := vin y0 (show (_ : Int32) < 7 by grind) (by decide)
        refine sg_Pl_rank_18 k0 ⟨fun _ => ⟨vy, put y w (tn_le yx) hqw hfw hI (fun i hi => by omega)⟩, fun z => ?_⟩
        have := tn_lt (show (0 : Int32) ≤ 0 by decide) (Int32.not_le.mp z)
        omega
      | succ k ik =>
        intro y w hk y0 yx hqw hfw hI
        have yN := tn_le yx
        have vy : vp_in y 7 := vin y0 (show (_ : Int32) < 7 by grind) (by decide)
        have put := put y w yN hqw hfw hI
        obtain ⟨b1, b2, b3, b4⟩ := hI
        refine sg_Pl_rank_18 k0 ⟨fun z => ?_, fun z => ?_⟩
        · have := tn_le z
          have e0 : (0 : Int32).toNatClampNeg = 0 := by decide
          omega
        have yp : 0 < y := Int32.not_le.mp z
        have py := tn_pred yp
        have v1 : vp_in (y - 1) 7 := vin (by grind) (show (_ : Int32) < 7 by grind) (by decide)
        have hb := b1 (y - 1).toNatClampNeg (by omega) (by omega)
        have zx : mI w (o0 + 3) (y - 1).toNatClampNeg < x := by
          rcases Int32.le_total x (mI w (o0 + 3) (y - 1).toNatClampNeg) with q | q
          · have := tn_le q; omega
          · rcases Int32.lt_or_eq_of_le q with q | q
            · exact q
            · rw [q] at hb; omega
        have e1w : mI w o0 1 = mI u o0 1 := hfw _ _ (by omega)
        have hN7 : ∀ t : Int32, 0 ≤ t → t < 7 → t.toNatClampNeg < 7 := fun t t0 t7 => by have := tn_lt t0 t7; have e : (7 : Int32).toNatClampNeg = 7 := (by decide); omega
        have sF : ∀ t : Int32, 0 ≤ t → t < 7 → shF w o0 t.toNatClampNeg = shF u o0 t.toNatClampNeg := fun t t0 t7 => fr w hfw _ (hN7 t t0 t7)
        have z7 : mI w (o0 + 3) (y - 1).toNatClampNeg < 7 := Int32.lt_trans zx x7
        refine ⟨v1, kI (c_isAheadx k0 ⟨h0, by rw [e1w]; exact xm, x7⟩ ⟨hb.1, by rw [e1w]; exact Int32.lt_trans zx xm, z7⟩ (by rw [sF _ h0 x7]; exact hv _ xN) (by rw [sF _ hb.1 z7]; exact hv _ (by omega))) (fun a w' h => ?_)⟩
        obtain ⟨rfl, h⟩ := h
        rw [sF _ h0 x7, sF _ hb.1 z7] at h
        refine ⟨fun q => ⟨vy, put (fun i hi => ?_)⟩, fun q => ⟨v1, vy, ?_⟩⟩
        · have hk2 : ¬ keyP (shF u o0 (mI w (o0 + 3) (y - 1).toNatClampNeg).toNatClampNeg) < keyP (shF u o0 x.toNatClampNeg) := by
            rcases h with h | h
            · exact h.2
            · exact absurd q h.1
          have top : ahP (shF u o0) (mI w (o0 + 3) (y - 1).toNatClampNeg).toNatClampNeg x.toNatClampNeg := by
            rcases Int32.lt_or_eq_of_le (Int32.not_lt.mp hk2) with r | r
            · exact .inl r
            · exact .inr ⟨r, by omega⟩
          by_cases e : i = (y - 1).toNatClampNeg
          · rw [e]; exact top
          · exact (b2 i (y - 1).toNatClampNeg (by omega) (by omega) (by omega) (by omega)).tr top
        · have hk2 : keyP (shF u o0 (mI w (o0 + 3) (y - 1).toNatClampNeg).toNatClampNeg) < keyP (shF u o0 x.toNatClampNeg) := by
            rcases h with h | h
            · exact absurd h.1 q
            · exact h.2
          have em : y + (-1) = y - 1 := by grind
          rw [em]
          refine ik _ _ (by omega) (by grind) (by grind) (wr3 _ _ _ hqw) (fw w hfw _ _) ⟨fun i hi ne => ?_, fun i j hij hj ni nj => ?_, fun j hj1 hj2 => ?_, fun q' hq' => ?_⟩
          · by_cases e : i = y.toNatClampNeg
            · rw [e, mI_eq]; exact hb
            · rw [mI_nk e]; exact b1 i hi e
          · by_cases e : i = y.toNatClampNeg
            · have e2 : j ≠ y.toNatClampNeg := by omega
              rw [e, mI_eq, mI_nk e2]; exact b2 _ _ (by omega) hj (by omega) e2
            · by_cases e2 : j = y.toNatClampNeg
              · rw [e2, mI_eq, mI_nk e]; exact b2 _ _ (by omega) (by omega) e (by omega)
              · rw [mI_nk e, mI_nk e2]; exact b2 i j hij hj e e2
          · by_cases e : j = y.toNatClampNeg
            · rw [e, mI_eq]; exact .inl hk2
            · rw [mI_nk e]; exact b3 j (by omega) hj2
          · obtain ⟨i, i1, i2, i3⟩ := b4 q' hq'
            by_cases e : i = (y - 1).toNatClampNeg
            · exact ⟨y.toNatClampNeg, by omega, by omega, by rw [mI_eq, ← e]; exact i3⟩
            · exact ⟨i, i1, e, by rw [mI_nk i2]; exact i3⟩
    refine inner _ x v rfl h0 (Int32.le_refl _) hq hf ⟨fun i hi ne => ⟨ho.1 i (by omega), ho.2.1 i (by omega)⟩, fun i j hij hj ni nj => ho.2.2.1 i j hij (by omega), fun j a b => by omega, fun q hq => ?_⟩
    obtain ⟨i, i1, i2⟩ := ho.2.2.2 q hq
    exact ⟨i, by omega, by omega, i2⟩
  have e0 : (0 : Int32).toNatClampNeg = 0 := by decide
  exact sg_Pl_rank_0 k0 (key 0 u (by decide) hm.1 Cq.rf (fun _ _ _ => rfl) (by rw [e0]; exact ⟨fun i hi => by omega, fun i hi => by omega, fun i j _ hj => by omega, fun q hq => by omega⟩))
/-- the reference's taker: the first of those that are not done -/
theorem e_takerx {x1 : Int32} (hM : InvM u) (hc : cnt x1 (mI u 76 11).toNatClampNeg < (mI u 76 11).toNatClampNeg) : Ws G m_taker 0 [(0, .ref 76), (1, .int x1)] [] u (RI fun a u' => u = u' ∧ 0 ≤ a ∧ a < mI u 76 11 ∧ tb x1 a.toNatClampNeg = false ∧ ∀ q, q < (mI u 76 11).toNatClampNeg → tb x1 q = false → q ≠ a.toNatClampNeg → ahP (shM u) a.toNatClampNeg q) := by
  have m7 := hM.m7
  have key : ∀ x (y : Int32), 0 ≤ x → x ≤ mI u 76 11 → ((y = -9 ∧ ∀ j, j < x.toNatClampNeg → tb x1 j = true) ∨ (0 ≤ y ∧ y < mI u 76 11 ∧ tb x1 y.toNatClampNeg = false ∧ y.toNatClampNeg < x.toNatClampNeg ∧ ∀ q, q < x.toNatClampNeg → tb x1 q = false → q ≠ y.toNatClampNeg → ahP (shM u) y.toNatClampNeg q)) → Ws G m_taker 5 [(0, .ref 76), (1, .int x1), (2, .int y), (3, .int x)] [] u (RI fun a u' => u = u' ∧ 0 ≤ a ∧ a < mI u 76 11 ∧ tb x1 a.toNatClampNeg = false ∧ ∀ q, q < (mI u 76 11).toNatClampNeg → tb x1 q = false → q ≠ a.toNatClampNeg → ahP (shM u) a.toNatClampNeg q) := by
    refine upI (mI u 76 11) _ (fun x ih y h0 hx hT => ?_)
    refine sg_m_taker_5 ⟨fun c => ?_, fun c => ⟨fun b => ih c _ (er_up h0 c).1 (er_up h0 c).2 ?_, fun b => ?_⟩⟩
    · have ex := Int32.le_antisymm c hx
      rcases hT with ⟨_, hT⟩ | hT
      · have := cnt_full (x := x1) (mI u 76 11).toNatClampNeg (fun j hj => hT j (by have := tn_le c; omega))
        omega
      · rw [← ex] at hT
        exact ⟨_, rfl, rfl, hT.1, hT.2.1, hT.2.2.1, hT.2.2.2.2⟩
    · rw [tn_succ h0 c]
      have bx := tb_t h0 (by clear ih hT; grind) b
      rcases hT with ⟨e, hT⟩ | hT
      · refine .inl ⟨e, fun j hj => ?_⟩
        by_cases q : j = x.toNatClampNeg
        · rw [q]; exact bx
        · exact hT j (by omega)
      · refine .inr ⟨hT.1, hT.2.1, hT.2.2.1, by have := hT.2.2.2.1; omega, fun q hq hf hn => ?_⟩
        by_cases e : q = x.toNatClampNeg
        · rw [e, bx] at hf; exact absurd hf (by decide)
        · exact hT.2.2.2.2 q (by omega) hf hn
    · have fx := tb_f h0 (by clear ih hT; grind) b
      have sx := tn_succ h0 c
      have x6 : x ≤ 6 := by clear ih hT; grind
      have hB : (¬ y = -9 → keyP (shM u y.toNatClampNeg) < keyP (shM u x.toNatClampNeg)) → Ws G m_taker 5 [(0, .ref 76), (1, .int x1), (2, .int x), (3, .int (x + 1))] [] u (RI fun a u' => u = u' ∧ 0 ≤ a ∧ a < mI u 76 11 ∧ tb x1 a.toNatClampNeg = false ∧ ∀ q, q < (mI u 76 11).toNatClampNeg → tb x1 q = false → q ≠ a.toNatClampNeg → ahP (shM u) a.toNatClampNeg q) := fun hk => by
        refine ih c _ (er_up h0 c).1 (er_up h0 c).2 (.inr ⟨h0, Int32.not_le.mp c, fx, by omega, fun q hq hf hn => ?_⟩)
        have hq2 : q < x.toNatClampNeg := by omega
        rcases hT with ⟨_, hT⟩ | hT
        · rw [hT q hq2] at hf; exact absurd hf (by decide)
        · have y9 : ¬ y = -9 := fun e => by rw [e] at hT; exact absurd hT.1 (by decide)
          have a1 : ahP (shM u) x.toNatClampNeg y.toNatClampNeg := .inl (hk y9)
          by_cases e : q = y.toNatClampNeg
          · rw [e]; exact a1
          · exact a1.tr (hT.2.2.2.2 q hq2 hf e)
      have h2 : ¬ y = -9 → 0 ≤ y ∧ y < 7 := fun q => by
        rcases hT with ⟨e, _⟩ | hT
        · exact absurd e q
        · exact ⟨hT.1, Int32.lt_of_lt_of_le hT.2.1 m7.2⟩
      have hA : ¬ y = -9 → keyP (shM u x.toNatClampNeg) ≤ keyP (shM u y.toNatClampNeg) → Ws G m_taker 5 [(0, .ref 76), (1, .int x1), (2, .int y), (3, .int (x + 1))] [] u (RI fun a u' => u = u' ∧ 0 ≤ a ∧ a < mI u 76 11 ∧ tb x1 a.toNatClampNeg = false ∧ ∀ q, q < (mI u 76 11).toNatClampNeg → tb x1 q = false → q ≠ a.toNatClampNeg → ahP (shM u) a.toNatClampNeg q) := fun q hk => by
        rcases hT with ⟨e, _⟩ | hT
        · exact absurd e q
        · refine ih c _ (er_up h0 c).1 (er_up h0 c).2 (.inr ⟨hT.1, hT.2.1, hT.2.2.1, by have := hT.2.2.2.1; omega, fun q hq hf hn => ?_⟩)
          by_cases e : q = x.toNatClampNeg
          · rw [e]
            rcases Int32.lt_or_eq_of_le hk with r | r
            · exact .inl r
            · exact .inr ⟨r, hT.2.2.2.1⟩
          · exact hT.2.2.2.2 q (by omega) hf hn
      have kx : ∀ z : Int32, 0 ≤ z → z < 7 → keyP (shM u z.toNatClampNeg) = (if mI u 83 (5 * z + 0 : Int32).toNatClampNeg = 2 then 0 else 1000) + mI u 83 (5 * z + 3 : Int32).toNatClampNeg := fun z z0 z7 => by
        have I := ix5 z0 z7
        rw [I.1, I.2.2.2.1]; rfl
      have kX := kx x h0 (Int32.lt_of_le_of_lt x6 (by decide))
      refine ⟨v70 h0 (Int32.lt_of_le_of_lt x6 (by decide)) (by decide) (by decide), fun p => ⟨v70 h0 (Int32.lt_of_le_of_lt x6 (by decide)) (by decide) (by decide), fun y9 => hB (fun z => absurd y9 z), fun y9 => ?_⟩, fun p => ⟨v70 h0 (Int32.lt_of_le_of_lt x6 (by decide)) (by decide) (by decide), fun y9 => hB (fun z => absurd y9 z), fun y9 => ?_⟩⟩
      · have kY := kx y (h2 y9).1 (h2 y9).2
        rw [if_neg p] at kX
        have q2 := h2 y9
        refine ⟨v70 q2.1 q2.2 (by decide) (by decide), fun r => ⟨v70 q2.1 q2.2 (by decide) (by decide), fun t => hA y9 ?_, fun t => hB (fun _ => ?_)⟩, fun r => ⟨v70 q2.1 q2.2 (by decide) (by decide), fun t => hA y9 ?_, fun t => hB (fun _ => ?_)⟩⟩
        · rw [if_neg r] at kY; rw [kX, kY]; exact t
        · rw [if_neg r] at kY; rw [kX, kY]; exact Int32.not_le.mp t
        · rw [if_pos r] at kY; rw [kX, kY]; exact t
        · rw [if_pos r] at kY; rw [kX, kY]; exact Int32.not_le.mp t
      · have kY := kx y (h2 y9).1 (h2 y9).2
        rw [if_pos p] at kX
        have q2 := h2 y9
        refine ⟨v70 q2.1 q2.2 (by decide) (by decide), fun r => ⟨v70 q2.1 q2.2 (by decide) (by decide), fun t => hA y9 ?_, fun t => hB (fun _ => ?_)⟩, fun r => ⟨v70 q2.1 q2.2 (by decide) (by decide), fun t => hA y9 ?_, fun t => hB (fun _ => ?_)⟩⟩
        · rw [if_neg r] at kY; rw [kX, kY]; exact t
        · rw [if_neg r] at kY; rw [kX, kY]; exact Int32.not_le.mp t
        · rw [if_pos r] at kY; rw [kX, kY]; exact t
        · rw [if_pos r] at kY; rw [kX, kY]; exact Int32.not_le.mp t
  have z : (0 : Int32).toNatClampNeg = 0 := by decide
  exact sg_m_taker_0 (key 0 (-9) (by decide) m7.1 (.inl ⟨rfl, fun j hj => absurd hj (by omega)⟩))
end ORD
