/-! ===== a week, without a heap ===== -/
def seekP (n tk dir : Int32) : Nat → Int32 → Int32
  | 0, d => d
  | f + 1, d => if tb tk d.toNatClampNeg = true then seekP n tk dir f (dAt n (d + dir).toInt64) else d
theorem seek_f {n tk dir : Int32} {d : Int32} (h : tb tk d.toNatClampNeg = false) : ∀ f, seekP n tk dir f d = d
  | 0 => rfl
  | f + 1 => by rw [seekP, if_neg (by rw [h]; decide)]
theorem seek_t {n tk dir : Int32} {d : Int32} {f : Nat} (h : tb tk d.toNatClampNeg = true) : seekP n tk dir (f + 1) d = seekP n tk dir f (dAt n (d + dir).toInt64) := by rw [seekP, if_pos h]
def goP (s : Sh5) (w : Int32) : Int32 := goV s.1 s.2.2.1 s.2.2.2.2 w
def dirP (g : Int32) : Int32 := if 0 ≤ g then 1 else -1
/-- the door that shop s comes to -/
def doP (n w : Int32) (sh : Nat → Sh5) (t : Int32 × (Nat → Int32)) (s : Nat) : Int32 := seekP n t.1 (dirP (goP (sh s) w)) n.toNatClampNeg (dAt n (t.2 s + goP (sh s) w).toInt64)
def weP (n w shut : Int32) (sh : Nat → Sh5) (ord : Nat → Nat) (dr : Nat → Int32) : Nat → Int32 × (Nat → Int32)
  | 0 => (shut, dr)
  | i + 1 => ((weP n w shut sh ord dr i).1 ||| (1 <<< (doP n w sh (weP n w shut sh ord dr i) (ord i) &&& 31)), fun q => if q = ord i then doP n w sh (weP n w shut sh ord dr i) (ord i) else (weP n w shut sh ord dr i).2 q)
/-- the doors a week on -/
def pwk (n w shut : Int32) (sh : Nat → Sh5) (ord : Nat → Nat) (m : Nat) (dr : Nat → Int32) : Nat → Int32 := (weP n w shut sh ord dr m).2
/-- what a text can tell of a shop -/
def shV (s : Sh5) : Prop := (0 ≤ s.1 ∧ s.1 ≤ 5) ∧ (s.1 < 3 → s.2.2.2.2 = 0) ∧ (3 ≤ s.1 → 2 ≤ s.2.2.2.2 ∧ s.2.2.2.2 ≤ 9) ∧ (-9 ≤ s.2.2.1 ∧ s.2.2.1 ≤ 9) ∧ 1 ≤ s.2.2.2.1 ∧ s.2.2.2.1 ≤ 99
theorem go_eq {kind k step w : Int32} (h0 : 0 ≤ kind ∧ kind ≤ 5) (h1 : kind < 3 → k = 0) (h2 : 3 ≤ kind → 2 ≤ k ∧ k ≤ 9) : goC kind k step w = goV kind step k w := by
  unfold goC goV
  by_cases c1 : kind = 1
  · rw [if_pos c1, if_pos c1]
  rw [if_neg c1, if_neg c1]
  by_cases c3 : kind < 3
  · rw [if_pos (by rw [h1 c3]; decide), if_neg (by grind), if_pos c3]
  have k2 := (h2 (Int32.not_lt.mp c3)).1
  rw [if_neg (fun z => z k2)]
  by_cases c4 : kind = 4
  · rw [if_neg (by grind), if_pos c4, if_pos c4]
  rw [if_neg c4]
  by_cases e3 : kind = 3
  · rw [if_pos e3, if_neg c4, if_neg c3, if_pos e3]
  rw [if_neg e3, if_neg c4, if_pos (by grind), if_neg c3, if_neg e3]
theorem go_P {s : Sh5} {w : Int32} (h : shV s) : goC s.1 s.2.2.2.2 s.2.2.1 w = goP s w := go_eq h.1 h.2.1 h.2.2.1
def ordF (u : pM) (o : Nat) : Nat → Nat := fun i => (mI u (o + 3) i).toNatClampNeg
theorem isI_tb {x d : Int32} (h0 : 0 ≤ d) (h1 : d < 31) : isI x d ↔ tb x d.toNatClampNeg = true := by
  unfold isI
  rw [← tbx h0 (by grind)]
  exact ⟨fun h => h.2.2, fun h => ⟨h0, h1, h⟩⟩
section WEEK
variable {G : pG} {u : pM} {L : List Nat}
/-- a Plan's cells lie apart from a Standing's -/
theorem pl_st {o0 o1 : Nat} (k0 : okS o0 5) (k1 : okS o1 2) : (o1 ≠ o0 ∧ o1 ≠ o0 + 1) ∧ (o1 + 3 ≠ o0 ∧ o1 + 3 ≠ o0 + 1) ∧ ∀ i, i < 7 → R0 (o1 + 1) i ≠ o0 ∧ R0 (o1 + 1) i ≠ o0 + 1 := by
  have h0 : o0 = 7 ∨ o0 = 10 ∨ o0 = 12 ∨ o0 = 70 ∨ o0 = 72 ∨ o0 = 74 := (show ∀ o, o < 95 → (S0 o).1 = 5 → o = 7 ∨ o = 10 ∨ o = 12 ∨ o = 70 ∨ o = 72 ∨ o = 74 from by decide +kernel) o0 k0.2.1 k0.2.2
  have h1 : o1 = 22 ∨ o1 = 36 := (show ∀ o, o < 95 → (S0 o).1 = 2 → o = 22 ∨ o = 36 from by decide +kernel) o1 k1.2.1 k1.2.2
  have R : ∀ i, i < 7 → R0 (o1 + 1) i = o1 + 7 + i := (show ∀ o, o < 95 → (S0 o).1 = 2 → ∀ i, i < 7 → R0 (o + 1) i = o + 7 + i from by decide +kernel) _ k1.2.1 k1.2.2
  refine ⟨⟨by omega, by omega⟩, ⟨by omega, by omega⟩, fun i hi => ?_⟩
  rw [R i hi]
  omega
theorem c_passOnex {o0 o1 : Nat} (k0 : okS o0 5) (m0 : In2 L o0) (k1 : okS o1 2) (hn : 10 ≤ mI u o1 0 ∧ mI u o1 0 ≤ 30) (hm : 0 ≤ mI u o1 1 ∧ mI u o1 1 ≤ 7) (hv : ∀ s, s < (mI u o1 1).toNatClampNeg → shV (shF u o1 s)) (ho : OrdC u o1 (shF u o1) (mI u o1 1).toNatClampNeg) : Ws G Sn_passOne 0 [(0, .ref o0), (1, .ref o1)] [] u (RV fun u' => Cq L u u' ∧ (∀ n k, n ≠ o0 → n ≠ o0 + 1 → mI u' n k = mI u n k) ∧ mI u' o0 0 = mI u o0 0 + 1 ∧ mI u' o0 1 = mI u o0 1 ∧ (∀ s, mI u' (o0 + 1) s = pwk (mI u o1 0) (mI u o0 0) (mI u o0 1) (shF u o1) (ordF u o1) (mI u o1 1).toNatClampNeg (mI u (o0 + 1)) s) ∧ mL u' = mL u) := by
  obtain ⟨⟨p1, p2⟩, ⟨p3, p4⟩, p5⟩ := pl_st k0 k1
  have m7 : (mI u o1 1).toNatClampNeg ≤ 7 := by have := tn_le hm.2; have e : (7 : Int32).toNatClampNeg = 7 := (by decide); omega
  refine sg_Sn_passOne_0 k0 k1 ?_
  have key : ∀ x v (x2 : Int32), 0 ≤ x → x ≤ mI u o1 1 → Cq L u v → mL v = mL u → (∀ n k, n ≠ o0 + 1 → mI v n k = mI u n k) → x2 = (weP (mI u o1 0) (mI u o0 0) (mI u o0 1) (shF u o1) (ordF u o1) (mI u (o0 + 1)) x.toNatClampNeg).1 → (∀ s, mI v (o0 + 1) s = (weP (mI u o1 0) (mI u o0 0) (mI u o0 1) (shF u o1) (ordF u o1) (mI u (o0 + 1)) x.toNatClampNeg).2 s) → Ws G Sn_passOne 7 [(0, .ref o0), (1, .ref o1), (2, .int x2), (3, .int x)] [] v (RV fun u' => Cq L u u' ∧ (∀ n k, n ≠ o0 → n ≠ o0 + 1 → mI u' n k = mI u n k) ∧ mI u' o0 0 = mI u o0 0 + 1 ∧ mI u' o0 1 = mI u o0 1 ∧ (∀ s, mI u' (o0 + 1) s = pwk (mI u o1 0) (mI u o0 0) (mI u o0 1) (shF u o1) (ordF u o1) (mI u o1 1).toNatClampNeg (mI u (o0 + 1)) s) ∧ mL u' = mL u) := by
    refine upI (mI u o1 1) _ (fun x ih v x2 h0 hx hq hml hf h2 hd => ?_)
    have e1 : mI v o1 1 = mI u o1 1 := hf _ _ p2
    have e0 : mI v o1 0 = mI u o1 0 := hf _ _ p2
    have w0 : mI v o0 0 = mI u o0 0 := hf _ _ (by omega)
    have stop : mI u o1 1 ≤ x → (RV fun u' => Cq L u u' ∧ (∀ n k, n ≠ o0 → n ≠ o0 + 1 → mI u' n k = mI u n k) ∧ mI u' o0 0 = mI u o0 0 + 1 ∧ mI u' o0 1 = mI u o0 1 ∧ (∀ s, mI u' (o0 + 1) s = pwk (mI u o1 0) (mI u o0 0) (mI u o0 1) (shF u o1) (ordF u o1) (mI u o1 1).toNatClampNeg (mI u (o0 + 1)) s) ∧ mL u' = mL u) none (pI v o0 0 (mI v o0 0 + 1)) := fun c => by
      have ex := Int32.le_antisymm c hx
      refine ⟨rfl, hq.pI (wr_5 k0) (cm_5 k0 m0), fun n k a b => by rw [mI_ne a]; exact hf n k b, by rw [mI_eq, w0], by rw [mI_nk (by decide)]; exact hf _ _ (by omega), fun s => ?_, hml⟩
      rw [mI_ne (by omega), hd s, ← ex]; rfl
    refine sg_Sn_passOne_7 k0 k1 ⟨fun c => stop (by rw [← e1]; exact c), fun c => ⟨fun d => stop (Int32.le_trans hm.2 d), fun d => ⟨vin h0 (Int32.not_le.mp d) (by decide), ?_⟩⟩⟩
    rw [e1] at c
    have xm : x < mI u o1 1 := Int32.not_le.mp c
    have xN := tn_lt h0 xm
    have sx := tn_succ h0 c
    have ea : mI v (o1 + 3) x.toNatClampNeg = mI u (o1 + 3) x.toNatClampNeg := hf _ _ p4
    rw [ea]
    have a0 := ho.1 _ xN
    have aN : (mI u (o1 + 3) x.toNatClampNeg).toNatClampNeg < (mI u o1 1).toNatClampNeg := ho.2.1 _ xN
    generalize ha : mI u (o1 + 3) x.toNatClampNeg = a at *
    have eo : ordF u o1 x.toNatClampNeg = a.toNatClampNeg := by unfold ordF; rw [ha]
    have a7 : a < 7 := by
      rcases Int32.le_total 7 a with q | q
      · have := tn_le q; have e : (7 : Int32).toNatClampNeg = 7 := (by decide); omega
      · rcases Int32.lt_or_eq_of_le q with q | q
        · exact q
        · rw [q] at aN; have e : (7 : Int32).toNatClampNeg = 7 := (by decide); omega
    have am : a < mI v o1 1 := by
      rw [e1]
      rcases Int32.le_total (mI u o1 1) a with q | q
      · have := tn_le q; omega
      · rcases Int32.lt_or_eq_of_le q with q | q
        · exact q
        · rw [q] at aN; omega
    have aN7 : a.toNatClampNeg < 7 := by omega
    rw [shO_in a0 am a7, e0, w0]
    have f5 : ∀ k, mI v (R0 (o1 + 1) a.toNatClampNeg) k = mI u (R0 (o1 + 1) a.toNatClampNeg) k := fun k => hf _ _ (p5 _ aN7).2
    rw [f5, f5, f5]
    have eg : goC (mI u (R0 (o1 + 1) a.toNatClampNeg) 0) (mI u (R0 (o1 + 1) a.toNatClampNeg) 4) (mI u (R0 (o1 + 1) a.toNatClampNeg) 2) (mI u o0 0) = goP (shF u o1 a.toNatClampNeg) (mI u o0 0) := go_P (hv _ aN)
    rw [eg]
    have ed : snD v o0 a = (weP (mI u o1 0) (mI u o0 0) (mI u o0 1) (shF u o1) (ordF u o1) (mI u (o0 + 1)) x.toNatClampNeg).2 a.toNatClampNeg := by
      unfold snD; rw [if_pos ⟨a0, a7⟩, hd]
    rw [ed, wr_dAt hn.1 hn.2]
    -- the search
    have inner : ∀ x8 (x6 x7 : Int32), 0 ≤ x8 → x8 ≤ mI u o1 0 → 0 ≤ x7 → x7 < mI u o1 0 → seekP (mI u o1 0) x2 x6 ((mI u o1 0).toNatClampNeg - x8.toNatClampNeg) x7 = doP (mI u o1 0) (mI u o0 0) (shF u o1) (weP (mI u o1 0) (mI u o0 0) (mI u o0 1) (shF u o1) (ordF u o1) (mI u (o0 + 1)) x.toNatClampNeg) a.toNatClampNeg → Ws G Sn_passOne 75 [(0, .ref o0), (1, .ref o1), (2, .int x2), (3, .int x), (4, .int a), (6, .int x6), (7, .int x7), (8, .int x8)] [] v (RV fun u' => Cq L u u' ∧ (∀ n k, n ≠ o0 → n ≠ o0 + 1 → mI u' n k = mI u n k) ∧ mI u' o0 0 = mI u o0 0 + 1 ∧ mI u' o0 1 = mI u o0 1 ∧ (∀ s, mI u' (o0 + 1) s = pwk (mI u o1 0) (mI u o0 0) (mI u o0 1) (shF u o1) (ordF u o1) (mI u o1 1).toNatClampNeg (mI u (o0 + 1)) s) ∧ mL u' = mL u) := by
      refine upI (mI u o1 0) _ (fun x8 ih8 x6 x7 h8 h8n h7 h7n hs => ?_)
      have go : x7 = doP (mI u o1 0) (mI u o0 0) (shF u o1) (weP (mI u o1 0) (mI u o0 0) (mI u o0 1) (shF u o1) (ordF u o1) (mI u (o0 + 1)) x.toNatClampNeg) a.toNatClampNeg → Ws G Sn_passOne 7 [(0, .ref o0), (1, .ref o1), (2, .int (x2 ||| (1 <<< (x7 &&& 31)))), (3, .int (x + 1))] [] (snS v o0 a x7) (RV fun u' => Cq L u u' ∧ (∀ n k, n ≠ o0 → n ≠ o0 + 1 → mI u' n k = mI u n k) ∧ mI u' o0 0 = mI u o0 0 + 1 ∧ mI u' o0 1 = mI u o0 1 ∧ (∀ s, mI u' (o0 + 1) s = pwk (mI u o1 0) (mI u o0 0) (mI u o0 1) (shF u o1) (ordF u o1) (mI u o1 1).toNatClampNeg (mI u (o0 + 1)) s) ∧ mL u' = mL u) := fun e => by
        have eS : snS v o0 a x7 = pI v (o0 + 1) a.toNatClampNeg x7 := by unfold snS; rw [if_pos ⟨a0, a7⟩]
        refine ih c _ _ (er_up h0 c).1 (er_up h0 c).2 (cq_snS hq k0 m0) (by rw [eS]; exact hml) (fun n k hn => by rw [eS, mI_ne hn]; exact hf n k hn) ?_ (fun s => ?_)
        · rw [sx, weP, eo, ← e, ← h2]
        · rw [eS, sx, weP, eo]
          show _ = if s = a.toNatClampNeg then _ else _
          by_cases q : s = a.toNatClampNeg
          · rw [if_pos q, q, mI_eq]; exact e
          · rw [if_neg q, mI_nk q]; exact hd s
      refine sg_Sn_passOne_75 k0 k1 ⟨fun q => go ?_, fun q => ?_⟩
      · rw [e0] at q
        rw [← hs, show (mI u o1 0).toNatClampNeg - x8.toNatClampNeg = 0 by have := tn_le q; omega]; rfl
      · rw [e0] at q
        have q8 := Int32.not_le.mp q
        have l8 := tn_lt h8 q8
        have s8 := tn_succ h8 q
        have it := isI_tb (x := x2) h7 (show x7 < 31 from Int32.lt_of_lt_of_le h7n (Int32.le_trans hn.2 (by decide)))
        refine ⟨fun r => ?_, fun r => go ?_⟩
        · rw [e0, wr_dAt hn.1 hn.2]
          have rg := dAt_rg (x := (x7 + x6).toInt64) hn.1 hn.2
          refine ih8 q _ _ (er_up h8 q).1 (er_up h8 q).2 rg.1 rg.2 ?_
          rw [← hs, show (mI u o1 0).toNatClampNeg - x8.toNatClampNeg = ((mI u o1 0).toNatClampNeg - (x8 + 1).toNatClampNeg) + 1 by omega, seek_t (it.mp r)]
        · rw [← hs]
          exact (seek_f (by cases z : tb x2 x7.toNatClampNeg; · rfl
                            · exact absurd (it.mpr z) r) _).symm
    have e00 : (mI u o1 0).toNatClampNeg - (0 : Int32).toNatClampNeg = (mI u o1 0).toNatClampNeg := Nat.sub_zero _
    have rg := dAt_rg (x := ((weP (mI u o1 0) (mI u o0 0) (mI u o0 1) (shF u o1) (ordF u o1) (mI u (o0 + 1)) x.toNatClampNeg).2 a.toNatClampNeg + goP (shF u o1 a.toNatClampNeg) (mI u o0 0)).toInt64) hn.1 hn.2
    refine ⟨fun q => inner 0 _ _ (by decide) (Int32.le_trans (by decide) hn.1) rg.1 rg.2 ?_, fun q => inner 0 _ _ (by decide) (Int32.le_trans (by decide) hn.1) rg.1 rg.2 ?_⟩
    · rw [e00]; unfold doP dirP; rw [if_pos q, ← h2]
    · rw [e00]; unfold doP dirP; rw [if_neg q, ← h2]
  have z0 : (0 : Int32).toNatClampNeg = 0 := by decide
  exact key 0 u _ (by decide) hm.1 Cq.rf rfl (fun _ _ _ => rfl) (by rw [z0]; rfl) (fun s => by rw [z0]; rfl)
theorem e_passOnex {x1 x2 : Int32} {ord : Nat → Nat} (hM : InvM u) (hc : cnt x2 (mI u 76 10).toNatClampNeg ≤ 3) (ho : OrdP (shM u) (mI u 76 11).toNatClampNeg ord) : Ws G m_passOne 0 [(0, .ref 76), (1, .int x1), (2, .int x2)] [] u (RV fun u' => Mq mB u u' ∧ (∀ n k, n ≠ 85 → n ≠ 86 → mI u' n k = mI u n k) ∧ ∀ s, mI u' 85 s = pwk (mI u 76 10) x1 x2 (shM u) ord (mI u 76 11).toNatClampNeg (mI u 85) s) := by
  have m7 := hM.m7
  have m7N : (mI u 76 11).toNatClampNeg ≤ 7 := by
    have := tn_le m7.2
    have e7 : (7 : Int32).toNatClampNeg = 7 := by decide
    omega
  have key : ∀ x v (x3 x4 : Int32), 0 ≤ x → x ≤ mI u 76 11 → Mq mB u v → (∀ n k, n ≠ 85 → n ≠ 86 → mI v n k = mI u n k) → (∀ j, j < (mI u 76 11).toNatClampNeg → (tb x3 j = true ↔ ∃ i, i < x.toNatClampNeg ∧ ord i = j)) → cnt x3 (mI u 76 11).toNatClampNeg = x.toNatClampNeg → cnt x4 (mI u 76 10).toNatClampNeg ≤ 3 + x.toNatClampNeg → x4 = (weP (mI u 76 10) x1 x2 (shM u) ord (mI u 85) x.toNatClampNeg).1 → (∀ s, mI v 85 s = (weP (mI u 76 10) x1 x2 (shM u) ord (mI u 85) x.toNatClampNeg).2 s) → (∀ s, s < (mI u 76 11).toNatClampNeg → tb x3 s = false → mI v 86 s = mI v 85 s) → Ws G m_passOne 40 [(0, .ref 76), (1, .int x1), (3, .int x3), (4, .int x4), (5, .int x)] [] v (RV fun u' => Mq mB u u' ∧ (∀ n k, n ≠ 85 → n ≠ 86 → mI u' n k = mI u n k) ∧ ∀ s, mI u' 85 s = pwk (mI u 76 10) x1 x2 (shM u) ord (mI u 76 11).toNatClampNeg (mI u 85) s) := by
    refine upI (mI u 76 11) _ (fun x ih v x3 x4 h0 hx hq hf hT c3 c4 e4 hd hb => ?_)
    refine sg_m_passOne_40 ⟨fun c => ⟨rfl, hq, hf, fun s => ?_⟩, fun c => ?_⟩
    · rw [hq.m] at c
      rw [hd s, Int32.le_antisymm hx c]; rfl
    have hV := hq.inv hM
    rw [hq.m] at c
    have cx := tn_lt h0 (Int32.not_le.mp c)
    refine kI (e_takerx hV (by rw [hq.m]; omega)) (fun a v' h => ?_)
    obtain ⟨rfl, a0, a1, a2, a3⟩ := h
    rw [hq.m] at a1 a3
    have eM : shM v = shM u := by
      funext s; unfold shM mC
      rw [hf _ _ (by decide) (by decide), hf _ _ (by decide) (by decide), hf _ _ (by decide) (by decide), hf _ _ (by decide) (by decide), hf _ _ (by decide) (by decide)]
    rw [eM] at a3
    have aN := tn_lt a0 a1
    have oi := ho.1 _ cx
    have nd : tb x3 (ord x.toNatClampNeg) = false := by
      cases z : tb x3 (ord x.toNatClampNeg)
      · rfl
      · obtain ⟨i, i1, i2⟩ := (hT _ oi).mp z
        have := ho.inj (by omega) cx i2
        omega
    have ea : a.toNatClampNeg = ord x.toNatClampNeg := by
      obtain ⟨j, j1, j2⟩ := ho.2.2 _ aN
      rcases Nat.lt_trichotomy j x.toNatClampNeg with q | q | q
      · have := (hT _ aN).mpr ⟨j, q, j2⟩
        rw [a2] at this; exact absurd this (by decide)
      · rw [← q, j2]
      · have s1 := ho.2.1 _ _ q j1
        rw [j2] at s1
        exact Decidable.byContradiction (fun ne => ahP.ir ((a3 _ oi nd (fun z => ne z.symm)).tr s1))
    have n1 := hM.n10 a0 a1
    have n2 : 10 ≤ mI v 76 10 ∧ mI v 76 10 ≤ 30 := by rw [hq.n]; exact n1
    have x7 : x.toNatClampNeg < 7 := by omega
    have n10 : 10 ≤ (mI v 76 10).toNatClampNeg := by
      have := tn_le n2.1
      have e : (10 : Int32).toNatClampNeg = 10 := by decide
      omega
    have n30 : (mI v 76 10).toNatClampNeg ≤ 30 := by
      have := tn_le n2.2
      have e : (30 : Int32).toNatClampNeg = 30 := by decide
      omega
    obtain ⟨f, f1, f2⟩ := cnt_free (x := x4) (mI v 76 10).toNatClampNeg (by rw [← hq.n] at c4; omega)
    have l32 : ∀ y : Int32, y < mI v 76 10 → y < 32 := fun y hy => Int32.lt_of_lt_of_le hy (Int32.le_trans n2.2 (by decide))
    have a7 : a < 7 := by clear ih; grind
    have sx := tn_succ h0 c
    generalize hD : doP (mI u 76 10) x1 (shM u) (weP (mI u 76 10) x1 x2 (shM u) ord (mI u 85) x.toNatClampNeg) (ord x.toNatClampNeg) = D
    have exit : ∀ x8 : Int32, 0 ≤ x8 → x8 < mI v 76 10 → tb x4 x8.toNatClampNeg = false → x8 = D → vp_in a 7 ∧ Ws G m_passOne 40 [(0, .ref 76), (1, .int x1), (3, .int (x3 ||| (1 <<< (a &&& 31)))), (4, .int (x4 ||| (1 <<< (x8 &&& 31)))), (5, .int (x + 1))] [] (pI v 85 (a : Int32).toNatClampNeg x8) (RV fun u' => Mq mB u u' ∧ (∀ n k, n ≠ 85 → n ≠ 86 → mI u' n k = mI u n k) ∧ ∀ s, mI u' 85 s = pwk (mI u 76 10) x1 x2 (shM u) ord (mI u 76 11).toNatClampNeg (mI u 85) s) := by
      intro x8 h8 h9 ht e8
      have t3 : ∀ j, j < (mI u 76 11).toNatClampNeg → tb (x3 ||| (1 <<< (a &&& 31))) j = (tb x3 j || decide (j = a.toNatClampNeg)) := fun j hj => tbo a0 (Int32.lt_trans a7 (by decide)) (by omega)
      refine ⟨vin a0 a7 (by decide), ih c _ _ _ (x1_p h0 c) (by clear ih; grind) (hq.pD (.inr (.inl rfl)) ⟨h8, Int32.lt_of_lt_of_le h9 n2.2⟩) (fun n k n85 n86 => by rw [mI_ne n85]; exact hf n k n85 n86) (fun j hj => ?_) ?_ ?_ ?_ (fun s => ?_) (fun s hs z => ?_)⟩
      · rw [t3 j hj, sx]
        constructor
        · intro h
          rcases (Bool.or_eq_true _ _).mp h with h | h
          · obtain ⟨i, i1, i2⟩ := (hT j hj).mp h
            exact ⟨i, by omega, i2⟩
          · exact ⟨x.toNatClampNeg, by omega, by rw [of_decide_eq_true h, ea]⟩
        · rintro ⟨i, i1, i2⟩
          by_cases q : i = x.toNatClampNeg
          · have : j = a.toNatClampNeg := by rw [← i2, q, ea]
            rw [decide_eq_true this, Bool.or_true]
          · rw [(hT j hj).mpr ⟨i, by omega, i2⟩, Bool.true_or]
      · rw [sx, ← c3]
        exact (cnt_upd (d := a.toNatClampNeg) _ t3).2.2 aN a2
      · rw [sx]
        have := (cnt_upd (x := x4) (y := x4 ||| (1 <<< (x8 &&& 31))) (d := x8.toNatClampNeg) (mI u 76 10).toNatClampNeg (fun j hj => tbo h8 (l32 _ h9) (by rw [← hq.n] at hj; omega))).1
        omega
      · rw [sx, weP, hD, ← e4, e8]
      · rw [sx, weP]
        show _ = if s = ord x.toNatClampNeg then _ else _
        rw [hD, ea]
        by_cases q : s = ord x.toNatClampNeg
        · rw [if_pos q, q, mI_eq]; exact e8
        · rw [if_neg q, mI_nk q]; exact hd s
      · rw [t3 s hs] at z
        have z2 := (Bool.or_eq_false_iff.mp z)
        have sn : s ≠ a.toNatClampNeg := of_decide_eq_false z2.2
        rw [mI_ne (by decide), mI_nk sn]
        exact hb s hs z2.1
    have nz : ¬ (mI v 76 10).toInt64 = 0 := i64_ne (Int32.lt_of_lt_of_le (by decide) n2.1)
    have iN : ∀ y : Int32, 0 ≤ y → (y.toInt = (y.toNatClampNeg : Int)) := fun y hy => by
      have b := Int32.le_iff_toInt_le.mp hy
      have d0 : (0 : Int32).toInt = 0 := by decide
      show y.toInt = (y.toInt.toNat : Int)
      omega
    have srch : ∀ (g : Int32) (x8 : Int32), 0 ≤ x8 → x8 < mI v 76 10 → seekP (mI v 76 10) x4 (dirP g) (mI v 76 10).toNatClampNeg x8 = D → Ws G m_passOne 82 [(0, .ref 76), (1, .int x1), (3, .int x3), (4, .int x4), (5, .int x), (6, .int a), (7, .int g), (8, .int x8)] [] v (RV fun u' => Mq mB u u' ∧ (∀ n k, n ≠ 85 → n ≠ 86 → mI u' n k = mI u n k) ∧ ∀ s, mI u' 85 s = pwk (mI u 76 10) x1 x2 (shM u) ord (mI u 76 11).toNatClampNeg (mI u 85) s) := by
      intro g
      by_cases hg : 0 ≤ g
      · have up : ∀ (k F : Nat) (x8 : Int32), 0 ≤ x8 → x8 < mI v 76 10 → (if x8.toNatClampNeg ≤ f then f - x8.toNatClampNeg else f + (mI v 76 10).toNatClampNeg - x8.toNatClampNeg) = k → k ≤ F → seekP (mI v 76 10) x4 1 F x8 = D → Ws G m_passOne 82 [(0, .ref 76), (1, .int x1), (3, .int x3), (4, .int x4), (5, .int x), (6, .int a), (7, .int g), (8, .int x8)] [] v (RV fun u' => Mq mB u u' ∧ (∀ n k, n ≠ 85 → n ≠ 86 → mI u' n k = mI u n k) ∧ ∀ s, mI u' 85 s = pwk (mI u 76 10) x1 x2 (shM u) ord (mI u 76 11).toNatClampNeg (mI u 85) s) := by
          intro k
          induction k with
          | zero =>
            intro F x8 h8 h9 hk _ hs
            have l9 := tn_lt h8 h9
            have e : x8.toNatClampNeg = f := by split at hk <;> omega
            have t8 : tb x4 x8.toNatClampNeg = false := by rw [e]; exact f2
            exact sg_m_passOne_82 ⟨fun b => exit x8 h8 h9 t8 (by rw [← hs]; exact (seek_f t8 _).symm), fun b => absurd ((tbx h8 (l32 _ h9)).mp b) (by rw [t8]; decide)⟩
          | succ k ik =>
            intro F x8 h8 h9 hk hF hs
            have l9 := tn_lt h8 h9
            refine sg_m_passOne_82 ⟨fun b => exit x8 h8 h9 (tb_n h8 (l32 _ h9) b) (by rw [← hs]; exact (seek_f (tb_n h8 (l32 _ h9) b) _).symm), fun b => ⟨fun _ => ⟨nz, ?_⟩, fun z => absurd hg z⟩⟩
            have rg := dAt_rg (x := (x8 + 1).toInt64) n2.1 n2.2
            cases F with
            | zero => omega
            | succ F =>
              rw [seek_t ((tbx h8 (l32 _ h9)).mp b)] at hs
              refine ik F _ rg.1 rg.2 ?_ (by omega) hs
              have st := dAt_up2 n2.1 n2.2 h8 h9
              rw [iN _ rg.1, iN _ h8, iN (mI v 76 10) (Int32.le_trans (by decide) n2.1)] at st
              split at hk <;> split at st <;> split <;> omega
        intro x8 h8 h9 hs
        have l9 := tn_lt h8 h9
        refine up _ _ x8 h8 h9 rfl ?_ (by unfold dirP at hs; rw [if_pos hg] at hs; exact hs)
        split <;> omega
      · have dn : ∀ (k F : Nat) (x8 : Int32), 0 ≤ x8 → x8 < mI v 76 10 → (if f ≤ x8.toNatClampNeg then x8.toNatClampNeg - f else x8.toNatClampNeg + (mI v 76 10).toNatClampNeg - f) = k → k ≤ F → seekP (mI v 76 10) x4 (-1) F x8 = D → Ws G m_passOne 82 [(0, .ref 76), (1, .int x1), (3, .int x3), (4, .int x4), (5, .int x), (6, .int a), (7, .int g), (8, .int x8)] [] v (RV fun u' => Mq mB u u' ∧ (∀ n k, n ≠ 85 → n ≠ 86 → mI u' n k = mI u n k) ∧ ∀ s, mI u' 85 s = pwk (mI u 76 10) x1 x2 (shM u) ord (mI u 76 11).toNatClampNeg (mI u 85) s) := by
          intro k
          induction k with
          | zero =>
            intro F x8 h8 h9 hk _ hs
            have l9 := tn_lt h8 h9
            have e : x8.toNatClampNeg = f := by split at hk <;> omega
            have t8 : tb x4 x8.toNatClampNeg = false := by rw [e]; exact f2
            exact sg_m_passOne_82 ⟨fun b => exit x8 h8 h9 t8 (by rw [← hs]; exact (seek_f t8 _).symm), fun b => absurd ((tbx h8 (l32 _ h9)).mp b) (by rw [t8]; decide)⟩
          | succ k ik =>
            intro F x8 h8 h9 hk hF hs
            have l9 := tn_lt h8 h9
            refine sg_m_passOne_82 ⟨fun b => exit x8 h8 h9 (tb_n h8 (l32 _ h9) b) (by rw [← hs]; exact (seek_f (tb_n h8 (l32 _ h9) b) _).symm), fun b => ⟨fun z => absurd z hg, fun _ => ⟨nz, ?_⟩⟩⟩
            have rg := dAt_rg (x := (x8 + (-1)).toInt64) n2.1 n2.2
            cases F with
            | zero => omega
            | succ F =>
              rw [seek_t ((tbx h8 (l32 _ h9)).mp b)] at hs
              refine ik F _ rg.1 rg.2 ?_ (by omega) hs
              have st := dAt_dn2 n2.1 n2.2 h8 h9
              rw [iN _ rg.1, iN _ h8, iN (mI v 76 10) (Int32.le_trans (by decide) n2.1)] at st
              split at hk <;> split at st <;> split <;> omega
        intro x8 h8 h9 hs
        have l9 := tn_lt h8 h9
        refine dn _ _ x8 h8 h9 rfl ?_ (by unfold dirP at hs; rw [if_neg hg] at hs; exact hs)
        split <;> omega
    have rg := fun z : Int64 => dAt_rg (x := z) n2.1 n2.2
    have I := ix5 a0 a7
    refine ⟨v70 a0 a7 (by decide) (by decide), v70 a0 a7 (by decide) (by decide), v70 a0 a7 (by decide) (by decide), hV.2.2.1 a a0 (by rw [hq.m]; exact a1), vin a0 a7 (by decide), nz, srch _ _ (rg _).1 (rg _).2 ?_⟩
    rw [← hD]
    unfold doP
    have eg : goV (mI v 83 (5 * a + 0 : Int32).toNatClampNeg) (mI v 83 (5 * a + 2 : Int32).toNatClampNeg) (mI v 83 (5 * a + 4 : Int32).toNatClampNeg) x1 = goP (shM u (ord x.toNatClampNeg)) x1 := by
      rw [I.1, I.2.2.1, I.2.2.2.2.1, hf _ _ (by decide) (by decide), hf _ _ (by decide) (by decide), hf _ _ (by decide) (by decide), ea]; rfl
    rw [eg, hq.n, hb _ aN a2, hd, ea, e4]
  have k8 : ∀ x v, 0 ≤ x → x ≤ mI u 76 11 → Mq mB u v → (∀ n k, n ≠ 86 → mI v n k = mI u n k) → (∀ s, s < x.toNatClampNeg → mI v 86 s = mI u 85 s) → Ws G m_passOne 8 [(0, .ref 76), (1, .int x1), (3, .int 0), (4, .int x2), (5, .int x)] [] v (RV fun u' => Mq mB u u' ∧ (∀ n k, n ≠ 85 → n ≠ 86 → mI u' n k = mI u n k) ∧ ∀ s, mI u' 85 s = pwk (mI u 76 10) x1 x2 (shM u) ord (mI u 76 11).toNatClampNeg (mI u 85) s) := by
    refine upI (mI u 76 11) _ (fun x ih v h0 hx hq hf hb => ?_)
    have z0 : (0 : Int32).toNatClampNeg = 0 := by decide
    refine sg_m_passOne_8 ⟨fun c => key 0 v 0 x2 (by decide) m7.1 hq (fun n k _ a => hf n k a) (fun j hj => ?_) (by rw [cnt_0, z0]) (by omega) (by rw [z0]; rfl) (fun s => by rw [z0, hf _ _ (by decide)]; rfl) (fun s hs _ => ?_), fun c => ?_⟩
    · constructor
      · intro h
        have : tb 0 j = false := BitVec.getLsbD_zero
        rw [this] at h; exact absurd h (by decide)
      · rintro ⟨i, i1, _⟩; omega
    · rw [hq.m] at c
      rw [hf 85 _ (by decide)]
      exact hb s (by have := tn_le c; omega)
    rw [hq.m] at c
    have hv : vp_in x 7 := vin h0 (show (_ : Int32) < 7 from Int32.lt_of_lt_of_le (Int32.not_le.mp c) m7.2) (by decide)
    refine ⟨hv, hv, ih c _ (er_up h0 c).1 (er_up h0 c).2 (hq.pD (.inr (.inr rfl)) ((hq.inv hM).b85 _)) (fun n k a => by rw [mI_ne a]; exact hf n k a) (fun s hs => ?_)⟩
    rw [tn_succ h0 c] at hs
    by_cases q : s = x.toNatClampNeg
    · rw [q, mI_eq, hf _ _ (by decide)]
    · rw [mI_nk q]; exact hb s (by omega)
  have z0 : (0 : Int32).toNatClampNeg = 0 := by decide
  exact sg_m_passOne_0 (k8 0 u (by decide) m7.1 Mq.rf (fun _ _ _ => rfl) (fun s hs => by omega))
end WEEK
