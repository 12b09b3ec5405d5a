section ORD
variable {G : pG} {u : pM} {L : List Nat}
theorem c_rankx {o0 : Nat} (mp : o0 + 3 ∈ L) (k0 : okS o0 2) (hm : 0 ≤ mI u o0 1 ∧ mI u o0 1 ≤ 7) (hv : agK (shF u o0) (mI u o0 1).toNatClampNeg) : Ws G Pl_rank 0 [(0, .ref o0)] [] u (RV fun u' => Cq L u u' ∧ (∀ n k, n ≠ o0 + 3 → mI u' n k = mI u n k) ∧ OrdC u' o0 (shF u o0) (mI u o0 1).toNatClampNeg) := by
  have h3 := os_2_4 k0
  have l3 : o0 + 3 < 76 := by have := lt_2 k0; omega
  have Rn : ∀ i, i < 7 → R0 (o0 + 1) i ≠ o0 + 3 := fun i hi => (show ∀ o, o < 95 → (S0 o).1 = 2 → ∀ i, i < 7 → R0 (o + 1) i ≠ o + 3 from by decide +kernel) _ k0.2.1 k0.2.2 i hi
  have m7 : (mI u o0 1).toNatClampNeg ≤ 7 := by have := tn_le hm.2; have e : (7 : Int32).toNatClampNeg = 7 := (by decide); omega
  have fr : ∀ v, (∀ n k, n ≠ o0 + 3 → mI v n k = mI u n k) → ∀ s, s < 7 → shF v o0 s = shF u o0 s := fun v h s hs => by
    unfold shF shC
    rw [h _ _ (Rn s hs), h _ _ (Rn s hs), h _ _ (Rn s hs), h _ _ (Rn s hs), h _ _ (Rn s hs)]
  have key : ∀ x v, 0 ≤ x → x ≤ mI u o0 1 → Cq L u v → (∀ n k, n ≠ o0 + 3 → mI v n k = mI u n k) → OrdC v o0 (shF u o0) x.toNatClampNeg → Ws G Pl_rank 2 [(0, .ref o0), (1, .int x)] [] v (RV fun u' => Cq L u u' ∧ (∀ n k, n ≠ o0 + 3 → mI u' n k = mI u n k) ∧ OrdC u' o0 (shF u o0) (mI u o0 1).toNatClampNeg) := by
    refine upI (mI u o0 1) _ (fun x ih v h0 hx hq hf ho => ?_)
    have e1 : mI v o0 1 = mI u o0 1 := hf _ _ (by omega)
    have done : mI u o0 1 ≤ x → OrdC v o0 (shF u o0) (mI u o0 1).toNatClampNeg := fun c => by rw [Int32.le_antisymm c hx]; exact ho
    refine sg_Pl_rank_2 k0 ⟨fun c => ⟨rfl, hq, hf, done (by rw [← e1]; exact c)⟩, fun c => ⟨fun d => ⟨rfl, hq, hf, done (Int32.le_trans hm.2 d)⟩, fun d => ?_⟩⟩
    rw [e1] at c
    have x7 : x < 7 := Int32.not_le.mp d
    have xm : x < mI u o0 1 := Int32.not_le.mp c
    have xN := tn_lt h0 xm
    have sx := tn_succ h0 c
    have wr3 : ∀ (k : Nat) (z : Int32) (t : pM), Cq L u t → Cq L u (pI t (o0 + 3) k z) := fun k z t ht => ht.pI (wr_k h3 l3 (by decide) (by decide)) (by rw [cd_k h3 (by decide) l3]; exact mp)
    have fw : ∀ (w : pM), (∀ n k, n ≠ o0 + 3 → mI w n k = mI u n k) → ∀ (j : Nat) (z : Int32), ∀ n k, n ≠ o0 + 3 → mI (pI w (o0 + 3) j z) n k = mI u n k := fun w hfw j z n k hn => by rw [mI_ne hn]; exact hfw n k hn
    -- it goes in here
    have put : ∀ (y : Int32) (w : pM), y.toNatClampNeg ≤ x.toNatClampNeg → Cq L u w → (∀ n k, n ≠ o0 + 3 → mI w n k = mI u n k) → InsI w o0 (shF u o0) x.toNatClampNeg y.toNatClampNeg → (∀ i, i < y.toNatClampNeg → ahP (shF u o0) (mI w (o0 + 3) i).toNatClampNeg x.toNatClampNeg) → Ws G Pl_rank 2 [(0, .ref o0), (1, .int (x + 1))] [] (pI w (o0 + 3) y.toNatClampNeg x) (RV fun u' => Cq L u u' ∧ (∀ n k, n ≠ o0 + 3 → mI u' n k = mI u n k) ∧ OrdC u' o0 (shF u o0) (mI u o0 1).toNatClampNeg) := by
      intro y w yN hqw hfw hI hlow
      obtain ⟨b1, b2, b3, b4⟩ := hI
      refine ih c _ (er_up h0 c).1 (er_up h0 c).2 (wr3 _ _ _ hqw) (fw w hfw _ _) ?_
      rw [sx]
      refine ⟨fun i hi => ?_, fun i hi => ?_, fun i j hij hj => ?_, fun q hq => ?_⟩
      · by_cases e : i = y.toNatClampNeg
        · rw [e, mI_eq]; exact h0
        · rw [mI_nk e]; exact (b1 i (by omega) e).1
      · by_cases e : i = y.toNatClampNeg
        · show (mI _ (o0 + 3) i).toNatClampNeg < _
          rw [e, mI_eq]; omega
        · show (mI _ (o0 + 3) i).toNatClampNeg < _
          rw [mI_nk e]; have := (b1 i (by omega) e).2; omega
      · show ahP _ (mI _ (o0 + 3) i).toNatClampNeg (mI _ (o0 + 3) j).toNatClampNeg
        by_cases e : i = y.toNatClampNeg
        · have e2 : j ≠ y.toNatClampNeg := by omega
          rw [e, mI_eq, mI_nk e2]; exact b3 j (by omega) (by omega)
        · by_cases e2 : j = y.toNatClampNeg
          · rw [e2, mI_eq, mI_nk e]; exact hlow i (by omega)
          · rw [mI_nk e, mI_nk e2]; exact b2 i j hij (by omega) e e2
      · by_cases e : q = x.toNatClampNeg
        · refine ⟨y.toNatClampNeg, by omega, ?_⟩
          show (mI _ (o0 + 3) y.toNatClampNeg).toNatClampNeg = q
          rw [mI_eq, e]
        · obtain ⟨i, i1, i2, i3⟩ := b4 q (by omega)
          refine ⟨i, by omega, ?_⟩
          show (mI _ (o0 + 3) i).toNatClampNeg = q
          rw [mI_nk i2]; exact i3
    -- the place goes down
    have inner : ∀ (k : Nat) (y : Int32) (w : pM), y.toNatClampNeg = k → 0 ≤ y → y ≤ x → Cq L u w → (∀ n k, n ≠ o0 + 3 → mI w n k = mI u n k) → InsI w o0 (shF u o0) x.toNatClampNeg y.toNatClampNeg → Ws G Pl_rank 18 [(0, .ref o0), (1, .int x), (2, .int y)] [] w (RV fun u' => Cq L u u' ∧ (∀ n k, n ≠ o0 + 3 → mI u' n k = mI u n k) ∧ OrdC u' o0 (shF u o0) (mI u o0 1).toNatClampNeg) := by
      intro k
      induction k with
      | zero =>
        intro y w hk y0 yx hqw hfw hI
        have vy : vp_in y 7 := vin y0 (show (_ : Int32) < 7 by grind) (by decide)
        refine sg_Pl_rank_18 k0 ⟨fun _ => ⟨vy, put y w (tn_le yx) hqw hfw hI (fun i hi => by omega)⟩, fun z => ?_⟩
        have := tn_lt (show (0 : Int32) ≤ 0 by decide) (Int32.not_le.mp z)
        omega
      | succ k ik =>
        intro y w hk y0 yx hqw hfw hI
        have yN := tn_le yx
        have vy : vp_in y 7 := vin y0 (show (_ : Int32) < 7 by grind) (by decide)
        have put := put y w yN hqw hfw hI
        obtain ⟨b1, b2, b3, b4⟩ := hI
        refine sg_Pl_rank_18 k0 ⟨fun z => ?_, fun z => ?_⟩
        · have := tn_le z
          have e0 : (0 : Int32).toNatClampNeg = 0 := by decide
          omega
        have yp : 0 < y := Int32.not_le.mp z
        have py := tn_pred yp
        have v1 : vp_in (y - 1) 7 := vin (by grind) (show (_ : Int32) < 7 by grind) (by decide)
        have hb := b1 (y - 1).toNatClampNeg (by omega) (by omega)
        have zx : mI w (o0 + 3) (y - 1).toNatClampNeg < x := by
          rcases Int32.le_total x (mI w (o0 + 3) (y - 1).toNatClampNeg) with q | q
          · have := tn_le q; omega
          · rcases Int32.lt_or_eq_of_le q with q | q
            · exact q
            · rw [q] at hb; omega
        have e1w : mI w o0 1 = mI u o0 1 := hfw _ _ (by omega)
        have hN7 : ∀ t : Int32, 0 ≤ t → t < 7 → t.toNatClampNeg < 7 := fun t t0 t7 => by have := tn_lt t0 t7; have e : (7 : Int32).toNatClampNeg = 7 := (by decide); omega
        have sF : ∀ t : Int32, 0 ≤ t → t < 7 → shF w o0 t.toNatClampNeg = shF u o0 t.toNatClampNeg := fun t t0 t7 => fr w hfw _ (hN7 t t0 t7)
        have z7 : mI w (o0 + 3) (y - 1).toNatClampNeg < 7 := Int32.lt_trans zx x7
        refine ⟨v1, kI (c_isAheadx k0 ⟨h0, by rw [e1w]; exact xm, x7⟩ ⟨hb.1, by rw [e1w]; exact Int32.lt_trans zx xm, z7⟩ (by rw [sF _ h0 x7]; exact hv _ xN) (by rw [sF _ hb.1 z7]; exact hv _ (by omega))) (fun a w' h => ?_)⟩
        obtain ⟨rfl, h⟩ := h
        rw [sF _ h0 x7, sF _ hb.1 z7] at h
        refine ⟨fun q => ⟨vy, put (fun i hi => ?_)⟩, fun q => ⟨v1, vy, ?_⟩⟩
        · have hk2 : ¬ keyP (shF u o0 (mI w (o0 + 3) (y - 1).toNatClampNeg).toNatClampNeg) < keyP (shF u o0 x.toNatClampNeg) := by
            rcases h with h | h
            · exact h.2
            · exact absurd q h.1
          have top : ahP (shF u o0) (mI w (o0 + 3) (y - 1).toNatClampNeg).toNatClampNeg x.toNatClampNeg := by
            rcases Int32.lt_or_eq_of_le (Int32.not_lt.mp hk2) with r | r
            · exact .inl r
            · exact .inr ⟨r, by omega⟩
          by_cases e : i = (y - 1).toNatClampNeg
          · rw [e]; exact top
          · exact (b2 i (y - 1).toNatClampNeg (by omega) (by omega) (by omega) (by omega)).tr top
        · have hk2 : keyP (shF u o0 (mI w (o0 + 3) (y - 1).toNatClampNeg).toNatClampNeg) < keyP (shF u o0 x.toNatClampNeg) := by
            rcases h with h | h
            · exact absurd h.1 q
            · exact h.2
          have em : y + (-1) = y - 1 := by grind
          rw [em]
          refine ik _ _ (by omega) (by grind) (by grind) (wr3 _ _ _ hqw) (fw w hfw _ _) ⟨fun i hi ne => ?_, fun i j hij hj ni nj => ?_, fun j hj1 hj2 => ?_, fun q' hq' => ?_⟩
          · by_cases e : i = y.toNatClampNeg
            · rw [e, mI_eq]; exact hb
            · rw [mI_nk e]; exact b1 i hi e
          · by_cases e : i = y.toNatClampNeg
            · have e2 : j ≠ y.toNatClampNeg := by omega
              rw [e, mI_eq, mI_nk e2]; exact b2 _ _ (by omega) hj (by omega) e2
            · by_cases e2 : j = y.toNatClampNeg
              · rw [e2, mI_eq, mI_nk e]; exact b2 _ _ (by omega) (by omega) e (by omega)
              · rw [mI_nk e, mI_nk e2]; exact b2 i j hij hj e e2
          · by_cases e : j = y.toNatClampNeg
            · rw [e, mI_eq]; exact .inl hk2
            · rw [mI_nk e]; exact b3 j (by omega) hj2
          · obtain ⟨i, i1, i2, i3⟩ := b4 q' hq'
            by_cases e : i = (y - 1).toNatClampNeg
            · exact ⟨y.toNatClampNeg, by omega, by omega, by rw [mI_eq, ← e]; exact i3⟩
            · exact ⟨i, i1, e, by rw [mI_nk i2]; exact i3⟩
    refine inner _ x v rfl h0 (Int32.le_refl _) hq hf ⟨fun i hi ne => ⟨ho.1 i (by omega), ho.2.1 i (by omega)⟩, fun i j hij hj ni nj => ho.2.2.1 i j hij (by omega), fun j a b => by omega, fun q hq => ?_⟩
    obtain ⟨i, i1, i2⟩ := ho.2.2.2 q hq
    exact ⟨i, by omega, by omega, i2⟩
  have e0 : (0 : Int32).toNatClampNeg = 0 := by decide
  exact sg_Pl_rank_0 k0 (key 0 u (by decide) hm.1 Cq.rf (fun _ _ _ => rfl) (by rw [e0]; exact ⟨fun i hi => by omega, fun i hi => by omega, fun i j _ hj => by omega, fun q hq => by omega⟩))
end ORD
