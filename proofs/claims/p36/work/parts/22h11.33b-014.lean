section WEEK
variable {G : pG} {u : pM} {L : List Nat}
theorem c_passOnex {o0 o1 : Nat} (k0 : okS o0 5) (m0 : In2 L o0) (k1 : okS o1 2) (hn : 10 ≤ mI u o1 0 ∧ mI u o1 0 ≤ 30) (hm : 0 ≤ mI u o1 1 ∧ mI u o1 1 ≤ 7) (hv : ∀ s, s < (mI u o1 1).toNatClampNeg → shV (shF u o1 s)) (ho : OrdC u o1 (shF u o1) (mI u o1 1).toNatClampNeg) : Ws G Sn_passOne 0 [(0, .ref o0), (1, .ref o1)] [] u (RV fun u' => Cq L u u' ∧ (∀ n k, n ≠ o0 → n ≠ o0 + 1 → mI u' n k = mI u n k) ∧ mI u' o0 0 = mI u o0 0 + 1 ∧ mI u' o0 1 = mI u o0 1 ∧ (∀ s, mI u' (o0 + 1) s = pwk (mI u o1 0) (mI u o0 0) (mI u o0 1) (shF u o1) (ordF u o1) (mI u o1 1).toNatClampNeg (mI u (o0 + 1)) s) ∧ mL u' = mL u) := by
  obtain ⟨⟨p1, p2⟩, ⟨p3, p4⟩, p5⟩ := pl_st k0 k1
  have m7 : (mI u o1 1).toNatClampNeg ≤ 7 := by have := tn_le hm.2; have e : (7 : Int32).toNatClampNeg = 7 := (by decide); omega
  refine sg_Sn_passOne_0 k0 k1 ?_
  have key : ∀ x v (x2 : Int32), 0 ≤ x → x ≤ mI u o1 1 → Cq L u v → mL v = mL u → (∀ n k, n ≠ o0 + 1 → mI v n k = mI u n k) → x2 = (weP (mI u o1 0) (mI u o0 0) (mI u o0 1) (shF u o1) (ordF u o1) (mI u (o0 + 1)) x.toNatClampNeg).1 → (∀ s, mI v (o0 + 1) s = (weP (mI u o1 0) (mI u o0 0) (mI u o0 1) (shF u o1) (ordF u o1) (mI u (o0 + 1)) x.toNatClampNeg).2 s) → Ws G Sn_passOne 7 [(0, .ref o0), (1, .ref o1), (2, .int x2), (3, .int x)] [] v (RV fun u' => Cq L u u' ∧ (∀ n k, n ≠ o0 → n ≠ o0 + 1 → mI u' n k = mI u n k) ∧ mI u' o0 0 = mI u o0 0 + 1 ∧ mI u' o0 1 = mI u o0 1 ∧ (∀ s, mI u' (o0 + 1) s = pwk (mI u o1 0) (mI u o0 0) (mI u o0 1) (shF u o1) (ordF u o1) (mI u o1 1).toNatClampNeg (mI u (o0 + 1)) s) ∧ mL u' = mL u) := by
    refine upI (mI u o1 1) _ (fun x ih v x2 h0 hx hq hml hf h2 hd => ?_)
    have e1 : mI v o1 1 = mI u o1 1 := hf _ _ p2
    have e0 : mI v o1 0 = mI u o1 0 := hf _ _ p2
    have w0 : mI v o0 0 = mI u o0 0 := hf _ _ (by omega)
    have stop : mI u o1 1 ≤ x → (RV fun u' => Cq L u u' ∧ (∀ n k, n ≠ o0 → n ≠ o0 + 1 → mI u' n k = mI u n k) ∧ mI u' o0 0 = mI u o0 0 + 1 ∧ mI u' o0 1 = mI u o0 1 ∧ (∀ s, mI u' (o0 + 1) s = pwk (mI u o1 0) (mI u o0 0) (mI u o0 1) (shF u o1) (ordF u o1) (mI u o1 1).toNatClampNeg (mI u (o0 + 1)) s) ∧ mL u' = mL u) none (pI v o0 0 (mI v o0 0 + 1)) := fun c => by
      have ex := Int32.le_antisymm c hx
      refine ⟨rfl, hq.pI (wr_5 k0) (cm_5 k0 m0), fun n k a b => by rw [mI_ne a]; exact hf n k b, by rw [mI_eq, w0], by rw [mI_nk (by decide)]; exact hf _ _ (by omega), fun s => ?_, hml⟩
      rw [mI_ne (by omega), hd s, ← ex]; rfl
    refine sg_Sn_passOne_7 k0 k1 ⟨fun c => stop (by rw [← e1]; exact c), fun c => ⟨fun d => stop (Int32.le_trans hm.2 d), fun d => ⟨vin h0 (Int32.not_le.mp d) (by decide), ?_⟩⟩⟩
    rw [e1] at c
    have xm : x < mI u o1 1 := Int32.not_le.mp c
    have xN := tn_lt h0 xm
    have sx := tn_succ h0 c
    have ea : mI v (o1 + 3) x.toNatClampNeg = mI u (o1 + 3) x.toNatClampNeg := hf _ _ p4
    rw [ea]
    have a0 := ho.1 _ xN
    have aN : (mI u (o1 + 3) x.toNatClampNeg).toNatClampNeg < (mI u o1 1).toNatClampNeg := ho.2.1 _ xN
    generalize ha : mI u (o1 + 3) x.toNatClampNeg = a at *
    have eo : ordF u o1 x.toNatClampNeg = a.toNatClampNeg := by unfold ordF; rw [ha]
    have a7 : a < 7 := by
      rcases Int32.le_total 7 a with q | q
      · have := tn_le q; have e : (7 : Int32).toNatClampNeg = 7 := (by decide); omega
      · rcases Int32.lt_or_eq_of_le q with q | q
        · exact q
        · rw [q] at aN; have e : (7 : Int32).toNatClampNeg = 7 := (by decide); omega
    have am : a < mI v o1 1 := by
      rw [e1]
      rcases Int32.le_total (mI u o1 1) a with q | q
      · have := tn_le q; omega
      · rcases Int32.lt_or_eq_of_le q with q | q
        · exact q
        · rw [q] at aN; omega
    have aN7 : a.toNatClampNeg < 7 := by omega
    rw [shO_in a0 am a7, e0, w0]
    have f5 : ∀ k, mI v (R0 (o1 + 1) a.toNatClampNeg) k = mI u (R0 (o1 + 1) a.toNatClampNeg) k := fun k => hf _ _ (p5 _ aN7).2
    rw [f5, f5, f5]
    have eg : goC (mI u (R0 (o1 + 1) a.toNatClampNeg) 0) (mI u (R0 (o1 + 1) a.toNatClampNeg) 4) (mI u (R0 (o1 + 1) a.toNatClampNeg) 2) (mI u o0 0) = goP (shF u o1 a.toNatClampNeg) (mI u o0 0) := go_P (hv _ aN)
    rw [eg]
    have ed : snD v o0 a = (weP (mI u o1 0) (mI u o0 0) (mI u o0 1) (shF u o1) (ordF u o1) (mI u (o0 + 1)) x.toNatClampNeg).2 a.toNatClampNeg := by
      unfold snD; rw [if_pos ⟨a0, a7⟩, hd]
    rw [ed, wr_dAt hn.1 hn.2]
    -- the search
    have inner : ∀ x8 (x6 x7 : Int32), 0 ≤ x8 → x8 ≤ mI u o1 0 → 0 ≤ x7 → x7 < mI u o1 0 → seekP (mI u o1 0) x2 x6 ((mI u o1 0).toNatClampNeg - x8.toNatClampNeg) x7 = doP (mI u o1 0) (mI u o0 0) (shF u o1) (weP (mI u o1 0) (mI u o0 0) (mI u o0 1) (shF u o1) (ordF u o1) (mI u (o0 + 1)) x.toNatClampNeg) a.toNatClampNeg → Ws G Sn_passOne 75 [(0, .ref o0), (1, .ref o1), (2, .int x2), (3, .int x), (4, .int a), (6, .int x6), (7, .int x7), (8, .int x8)] [] v (RV fun u' => Cq L u u' ∧ (∀ n k, n ≠ o0 → n ≠ o0 + 1 → mI u' n k = mI u n k) ∧ mI u' o0 0 = mI u o0 0 + 1 ∧ mI u' o0 1 = mI u o0 1 ∧ (∀ s, mI u' (o0 + 1) s = pwk (mI u o1 0) (mI u o0 0) (mI u o0 1) (shF u o1) (ordF u o1) (mI u o1 1).toNatClampNeg (mI u (o0 + 1)) s) ∧ mL u' = mL u) := by
      refine upI (mI u o1 0) _ (fun x8 ih8 x6 x7 h8 h8n h7 h7n hs => ?_)
      have go : x7 = doP (mI u o1 0) (mI u o0 0) (shF u o1) (weP (mI u o1 0) (mI u o0 0) (mI u o0 1) (shF u o1) (ordF u o1) (mI u (o0 + 1)) x.toNatClampNeg) a.toNatClampNeg → Ws G Sn_passOne 7 [(0, .ref o0), (1, .ref o1), (2, .int (x2 ||| (1 <<< (x7 &&& 31)))), (3, .int (x + 1))] [] (snS v o0 a x7) (RV fun u' => Cq L u u' ∧ (∀ n k, n ≠ o0 → n ≠ o0 + 1 → mI u' n k = mI u n k) ∧ mI u' o0 0 = mI u o0 0 + 1 ∧ mI u' o0 1 = mI u o0 1 ∧ (∀ s, mI u' (o0 + 1) s = pwk (mI u o1 0) (mI u o0 0) (mI u o0 1) (shF u o1) (ordF u o1) (mI u o1 1).toNatClampNeg (mI u (o0 + 1)) s) ∧ mL u' = mL u) := fun e => by
        have eS : snS v o0 a x7 = pI v (o0 + 1) a.toNatClampNeg x7 := by unfold snS; rw [if_pos ⟨a0, a7⟩]
        refine ih c _ _ (er_up h0 c).1 (er_up h0 c).2 (cq_snS hq k0 m0) (by rw [eS]; exact hml) (fun n k hn => by rw [eS, mI_ne hn]; exact hf n k hn) ?_ (fun s => ?_)
        · rw [sx, weP, eo, ← e, ← h2]
        · rw [eS, sx, weP, eo]
          show _ = if s = a.toNatClampNeg then _ else _
          by_cases q : s = a.toNatClampNeg
          · rw [if_pos q, q, mI_eq]; exact e
          · rw [if_neg q, mI_nk q]; exact hd s
      refine sg_Sn_passOne_75 k0 k1 ⟨fun q => go ?_, fun q => ?_⟩
      · rw [e0] at q
        rw [← hs, show (mI u o1 0).toNatClampNeg - x8.toNatClampNeg = 0 by have := tn_le q; omega]; rfl
      · rw [e0] at q
        have q8 := Int32.not_le.mp q
        have l8 := tn_lt h8 q8
        have s8 := tn_succ h8 q
        have it := isI_tb (x := x2) h7 (show x7 < 31 from Int32.lt_of_lt_of_le h7n (Int32.le_trans hn.2 (by decide)))
        refine ⟨fun r => ?_, fun r => go ?_⟩
        · rw [e0, wr_dAt hn.1 hn.2]
          have rg := dAt_rg (x := (x7 + x6).toInt64) hn.1 hn.2
          refine ih8 q _ _ (er_up h8 q).1 (er_up h8 q).2 rg.1 rg.2 ?_
          rw [← hs, show (mI u o1 0).toNatClampNeg - x8.toNatClampNeg = ((mI u o1 0).toNatClampNeg - (x8 + 1).toNatClampNeg) + 1 by omega, seek_t (it.mp r)]
        · rw [← hs]
          exact (seek_f (by cases z : tb x2 x7.toNatClampNeg; · rfl
                            · exact absurd (it.mpr z) r) _).symm
    have e00 : (mI u o1 0).toNatClampNeg - (0 : Int32).toNatClampNeg = (mI u o1 0).toNatClampNeg := Nat.sub_zero _
    have rg := dAt_rg (x := ((weP (mI u o1 0) (mI u o0 0) (mI u o0 1) (shF u o1) (ordF u o1) (mI u (o0 + 1)) x.toNatClampNeg).2 a.toNatClampNeg + goP (shF u o1 a.toNatClampNeg) (mI u o0 0)).toInt64) hn.1 hn.2
    refine ⟨fun q => inner 0 _ _ (by decide) (Int32.le_trans (by decide) hn.1) rg.1 rg.2 ?_, fun q => inner 0 _ _ (by decide) (Int32.le_trans (by decide) hn.1) rg.1 rg.2 ?_⟩
    · rw [e00]; unfold doP dirP; rw [if_pos q, ← h2]
    · rw [e00]; unfold doP dirP; rw [if_neg q, ← h2]
  have z0 : (0 : Int32).toNatClampNeg = 0 := by decide
  exact key 0 u _ (by decide) hm.1 Cq.rf rfl (fun _ _ _ => rfl) (by rw [z0]; rfl) (fun s => by rw [z0]; rfl)
end WEEK
