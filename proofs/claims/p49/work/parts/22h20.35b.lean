/-! ===== the class's Errands: the tables of ways ===== -/
theorem mL_ne {u : pM} {a b n k : Nat} {v : Int64} (h : a ≠ n) : mL (pL u n k v) a b = mL u a b := by show up2 (mL u) n k v a b = _; simp [up2, h]
theorem mL_eq {u : pM} {n k : Nat} {v : Int64} : mL (pL u n k v) n k = v := by show up2 (mL u) n k v n k = _; simp [up2]
theorem mL_nk {u : pM} {n b k : Nat} {v : Int64} (h : b ≠ k) : mL (pL u n k v) n b = mL u n b := by show up2 (mL u) n k v n b = _; simp [up2, h]
theorem ad64 {a b : Int64} (ha : 0 ≤ a.toInt ∧ a.toInt ≤ 2305843009213693952) (hb : 0 ≤ b.toInt ∧ b.toInt ≤ 2305843009213693952) : (a + b).toInt = a.toInt + b.toInt := by
  rw [Int64.toInt_add, Int.bmod_eq_of_le (by omega) (by omega)]
theorem sh35 {a : Int32} (h : 0 ≤ a ∧ a ≤ 30) : (a.toInt64 <<< ((35 : Int32).toInt64 &&& 63)).toInt = a.toInt * 34359738368 := by
  have k := (show ∀ i, i < 31 → ((Int32.ofNat i).toInt64 <<< ((35 : Int32).toInt64 &&& 63)).toInt = (Int32.ofNat i).toInt * 34359738368 from by decide +kernel) a.toNatClampNeg (by have := tn_le h.2; have e : (30 : Int32).toNatClampNeg = 30 := (by decide); omega)
  rw [i32_nat h.1] at k
  exact k
theorem sh5 {w s : Int32} (h : 0 ≤ w ∧ w ≤ 30) (h0 : 0 ≤ s) (h7 : s < 7) : (w.toInt64 <<< ((5 * (6 - s) : Int32).toInt64 &&& 63)).toInt = w.toInt * (32 ^ (6 - s.toNatClampNeg) : Nat) := by
  have k := (show ∀ i, i < 31 → ∀ s, s < 7 → ((Int32.ofNat i).toInt64 <<< ((5 * (6 - Int32.ofNat s) : Int32).toInt64 &&& 63)).toInt = (Int32.ofNat i).toInt * (32 ^ (6 - s) : Nat) from by decide +kernel) w.toNatClampNeg (by have := tn_le h.2; have e : (30 : Int32).toNatClampNeg = 30 := (by decide); omega) s.toNatClampNeg (ixn (n := 7) h0 h7 (by decide))
  rw [i32_nat h.1, i32_nat h0] at k
  exact k
def cdn (p : Int32) (w : Int) : Nat → Int
  | 0 => 0
  | s + 1 => cdn p w s + dg5 p (fun _ => w) s * (32 ^ (6 - s) : Nat)
theorem cdn_7 (p : Int32) (w : Int) : cdn p w 7 = cod p (fun _ => w) := by
  have e6 : ((32 ^ (6 - 0) : Nat) : Int) = 1073741824 := by decide
  have e5 : ((32 ^ (6 - 1) : Nat) : Int) = 33554432 := by decide
  have e4 : ((32 ^ (6 - 2) : Nat) : Int) = 1048576 := by decide
  have e3 : ((32 ^ (6 - 3) : Nat) : Int) = 32768 := by decide
  have e2 : ((32 ^ (6 - 4) : Nat) : Int) = 1024 := by decide
  have e1 : ((32 ^ (6 - 5) : Nat) : Int) = 32 := by decide
  have e0 : ((32 ^ (6 - 6) : Nat) : Int) = 1 := by decide
  unfold cod
  rw [cdn, cdn, cdn, cdn, cdn, cdn, cdn, cdn, e6, e5, e4, e3, e2, e1, e0]
  omega
theorem cdn_b {p : Int32} {w : Int} (h : 0 ≤ w ∧ w ≤ 30) : ∀ s, s ≤ 7 → 0 ≤ cdn p w s ∧ cdn p w s ≤ s * 32212254720
  | 0, _ => by unfold cdn; omega
  | s + 1, hs => by
    have r := cdn_b (p := p) h s (by omega)
    rw [cdn]
    have d : 0 ≤ dg5 p (fun _ => w) s ∧ dg5 p (fun _ => w) s ≤ 30 := by
      unfold dg5
      split <;> omega
    have q : (0 : Int) ≤ ((32 ^ (6 - s) : Nat) : Int) ∧ ((32 ^ (6 - s) : Nat) : Int) ≤ 1073741824 := (show ∀ s, s < 7 → (0 : Int) ≤ ((32 ^ (6 - s) : Nat) : Int) ∧ ((32 ^ (6 - s) : Nat) : Int) ≤ 1073741824 from by decide) s (by omega)
    have m1 : 0 ≤ dg5 p (fun _ => w) s * ((32 ^ (6 - s) : Nat) : Int) := Int.mul_nonneg d.1 q.1
    have m2 : dg5 p (fun _ => w) s * ((32 ^ (6 - s) : Nat) : Int) ≤ 30 * 1073741824 := Int.mul_le_mul d.2 q.2 q.1 (by decide)
    omega
theorem sub_mi {k p : Int32} (h : Sub p k) : k - p = mi k p := by
  have e : mi k p + p = k := by
    apply Int32.toBitVec_inj.mp
    rw [Int32.toBitVec_add, BitVec.add_eq_or_of_and_eq_zero]
    · apply BitVec.eq_of_getLsbD_eq
      intro i hi
      have t := tb_mi (k := k) (p := p) hi
      have s := h i hi
      unfold tb at t s
      rw [BitVec.getLsbD_or, t]
      revert s
      cases k.toBitVec.getLsbD i <;> cases p.toBitVec.getLsbD i <;> simp
    · apply BitVec.eq_of_getLsbD_eq
      intro i hi
      have t := tb_mi (k := k) (p := p) hi
      unfold tb at t
      rw [BitVec.getLsbD_and, t]
      cases k.toBitVec.getLsbD i <;> cases p.toBitVec.getLsbD i <;> simp
  rw [← e]
  have : mi (mi k p + p) p = mi k p := by rw [e]
  rw [this]
  grind
def LoJ (u v : pM) (n0 : Nat) : Prop := mI v = mI u ∧ ∀ n i, n ≠ n0 → mL v n i = mL u n i
section ERC
variable {G : pG} {u : pM} {L : List Nat}
theorem c_fillJx {o0 : Nat} {x1 : Int64} (k0 : okS o0 101) (h76 : o0 < 76) (m0 : o0 ∈ L) : Ws G ja_fillJ 0 [(0, .ref o0), (1, .long x1)] [] u (RV fun u' => Cq L u u' ∧ LoJ u u' o0 ∧ ∀ i, i < (S0 o0).2 → mL u' o0 i = x1) := by
  refine sg_ja_fillJ_0 k0 ?_
  have sl := S0_lt o0
  have key : ∀ x v, 0 ≤ x → Cq L u v → LoJ u v o0 → (∀ i, i < x.toNatClampNeg → mL v o0 i = x1) → Ws G ja_fillJ 6 [(0, .ref o0), (1, .long x1), (3, .int x), (4, .int (Int32.ofNat (S0 o0).2))] [] v (RV fun u' => Cq L u u' ∧ LoJ u u' o0 ∧ ∀ i, i < (S0 o0).2 → mL u' o0 i = x1) := by
    refine upI (Int32.ofNat (S0 o0).2) _ (fun x ih v h0 hq hl hi => ?_)
    refine sg_ja_fillJ_6 k0 ⟨fun c => ⟨rfl, hq, hl, fun i hs => hi i ?_⟩, fun c => ⟨vin h0 (Int32.not_le.mp c) (S0_lt _), ih c _ ?_ (hq.pL (by rw [cd_k k0 (by decide) h76]; exact m0)) ⟨hl.1, fun n i hn => by rw [mL_ne hn]; exact hl.2 n i hn⟩ (fun i hx => ?_)⟩⟩
    · have a := tn_le c
      have b : (Int32.ofNat (S0 o0).2).toNatClampNeg = (S0 o0).2 := by
        have z : (Int32.ofNat (S0 o0).2).toInt = (((S0 o0).2 : Nat) : Int) := nI_toInt (by omega)
        show (Int32.ofNat (S0 o0).2).toInt.toNat = _
        omega
      omega
    · grind
    · rw [tn_succ h0 c] at hx
      by_cases e : i = x.toNatClampNeg
      · rw [e, mL_eq]
      · rw [mL_nk e]; exact hi i (by omega)
  have z0 : (0 : Int32).toNatClampNeg = 0 := by decide
  exact key 0 u (by decide) Cq.rf ⟨rfl, fun _ _ _ => rfl⟩ (fun i hi => by omega)
theorem c_beginx (m : 19 ∈ L ∧ 20 ∈ L) : Ws G Er_begin 0 [(0, .ref 18)] [] u (RV fun u' => Cq L u u' ∧ mI u' = mI u ∧ (∀ i, i < 128 → mL u' 19 i = 1152921504606846976) ∧ mL u' 20 0 = 0) := by
  refine sg_Er_begin_0 (kV (c_fillJx (L := L) (by decide) (by decide) m.1) (fun w h => kV (c_fillJx (L := L) (by decide) (by decide) m.2) (fun z h2 => ?_)))
  refine ⟨vin (by decide) (by decide) (by decide), rfl, (h.1.tr h2.1).pL (cm_n ⟨by decide, by decide, by decide, m.2⟩), ?_, fun i hi => ?_, mL_eq⟩
  · show mI z = _
    rw [h2.2.1.1, h.2.1.1]
  · rw [mL_ne (by decide), h2.2.1.2 _ _ (by decide)]
    exact h.2.2 i hi
theorem c_weeksCodex {x0 x1 : Int32} (hw : 0 ≤ x1 ∧ x1 ≤ 30) : Ws G Er_weeksCode 0 [(0, .int x0), (1, .int x1)] [] u (RJ fun a u' => u = u' ∧ a.toInt = cod x0 (fun _ => x1.toInt)) := by
  have a1 := Int32.le_iff_toInt_le.mp hw.1
  have a2 := Int32.le_iff_toInt_le.mp hw.2
  have d0 : (0 : Int32).toInt = 0 := by decide
  have d30 : (30 : Int32).toInt = 30 := by decide
  have wb : 0 ≤ x1.toInt ∧ x1.toInt ≤ 30 := by omega
  have key : ∀ x (y : Int64), 0 ≤ x → x ≤ 7 → y.toInt = cdn x0 x1.toInt x.toNatClampNeg → Ws G Er_weeksCode 5 [(0, .int x0), (1, .int x1), (2, .long y), (4, .int x)] [] u (RJ fun a u' => u = u' ∧ a.toInt = cod x0 (fun _ => x1.toInt)) := by
    refine upI 7 _ (fun x ih y h0 h7 hy => ?_)
    refine sg_Er_weeksCode_5 ⟨fun c => ⟨_, rfl, rfl, ?_⟩, fun c => ?_⟩
    · rw [hy, Int32.le_antisymm h7 c, ← cdn_7]; rfl
    · have x7 := Int32.not_le.mp c
      have xN : x.toNatClampNeg < 7 := ixn (n := 7) h0 x7 (by decide)
      have it := isI_tb (x := x0) h0 (show x < 31 by grind)
      have sx := tn_succ h0 c
      have b := cdn_b (p := x0) wb x.toNatClampNeg (by omega)
      have s5 := sh5 hw h0 x7
      have q : (0 : Int) ≤ ((32 ^ (6 - x.toNatClampNeg) : Nat) : Int) ∧ ((32 ^ (6 - x.toNatClampNeg) : Nat) : Int) ≤ 1073741824 := (show ∀ s, s < 7 → (0 : Int) ≤ ((32 ^ (6 - s) : Nat) : Int) ∧ ((32 ^ (6 - s) : Nat) : Int) ≤ 1073741824 from by decide) _ xN
      have m1 : 0 ≤ x1.toInt * ((32 ^ (6 - x.toNatClampNeg) : Nat) : Int) := Int.mul_nonneg wb.1 q.1
      have m2 : x1.toInt * ((32 ^ (6 - x.toNatClampNeg) : Nat) : Int) ≤ 30 * 1073741824 := Int.mul_le_mul wb.2 q.2 q.1 (by decide)
      refine ⟨fun r => ih c _ (by grind) (by grind) ?_, fun r => ih c _ (by grind) (by grind) ?_⟩
      · rw [ad64 (by omega) (by omega), s5, sx, cdn, hy]
        unfold dg5
        rw [if_pos (it.mp r)]
      · rw [sx, cdn, hy]
        unfold dg5
        rw [if_neg (fun z => r (it.mpr z))]
        omega
  have z0 : (0 : Int32).toNatClampNeg = 0 := by decide
  exact sg_Er_weeksCode_0 (key 0 0 (by decide) (by decide) (by rw [z0]; show (0 : Int64).toInt = 0; decide))
def T19 (u : pM) (p : Int32) : Int := (mL u 19 p.toNatClampNeg).toInt
def S20 (u : pM) (p : Int32) : Int := (mL u 20 p.toNatClampNeg).toInt
/-- the least of what it was and x -/
def minP (t' t x : Int) : Prop := t' ≤ t ∧ t' ≤ x ∧ (t' = t ∨ t' = x)
/-- the same, with a round's length that Q tells -/
def lkP (Q : Int32 → Prop) (t' t c : Int) : Prop := ∃ r, Q r ∧ minP t' t (r.toInt * 34359738368 + c)
theorem c_lookx {o1 o2 : Nat} {x3 x4 x5 : Int32} (k1 : okS o1 2) (k2 : okS o2 5) (m : 19 ∈ L ∧ 20 ∈ L) (hn : 10 ≤ mI u o1 0 ∧ mI u o1 0 ≤ 30) (hm : 0 ≤ mI u o1 1 ∧ mI u o1 1 ≤ 7) (hx : 0 ≤ x3 ∧ x3 < 100) (hd : ∀ s, s < (mI u o1 1).toNatClampNeg → 0 ≤ mI u (o2 + 1) s ∧ mI u (o2 + 1) s < 100) (hw : 0 ≤ x5 ∧ x5 ≤ 30) (hT : ∀ i, i < 128 → 0 ≤ (mL u 19 i).toInt) : Ws G Er_look 0 [(0, .ref 18), (1, .ref o1), (2, .ref o2), (3, .int x3), (4, .int x4), (5, .int x5)] [] u (RV fun u' => Cq L u u' ∧ LoJ u u' 19 ∧ (∀ i, i < 128 → 0 ≤ (mL u' 19 i).toInt) ∧ ∀ p, 0 < p → p < 128 → Sub p x4 → lkP (IsR (mI u o1 0) (farP (mI u o1 0) (mI u (o2 + 1)) x3) (mI u o1 1).toNatClampNeg p) (T19 u' p) (T19 u p) (cod p (fun _ => x5.toInt))) := by
  refine sg_Er_look_0 k1 k2 ?_
  have a1 := Int32.le_iff_toInt_le.mp hw.1
  have a2 := Int32.le_iff_toInt_le.mp hw.2
  have d0 : (0 : Int32).toInt = 0 := by decide
  have d30 : (30 : Int32).toInt = 30 := by decide
  have key : ∀ x v, 1 ≤ x → Cq L u v → LoJ u v 19 → (∀ i, i < 128 → 0 ≤ (mL v 19 i).toInt) → (∀ p, 0 < p → p < x → p < 128 → Sub p x4 → lkP (IsR (mI u o1 0) (farP (mI u o1 0) (mI u (o2 + 1)) x3) (mI u o1 1).toNatClampNeg p) (T19 v p) (T19 u p) (cod p (fun _ => x5.toInt))) → (∀ p, x ≤ p → p < 128 → mL v 19 p.toNatClampNeg = mL u 19 p.toNatClampNeg) → Ws G Er_look 3 [(0, .ref 18), (1, .ref o1), (2, .ref o2), (3, .int x3), (4, .int x4), (5, .int x5), (6, .int x)] [] v (RV fun u' => Cq L u u' ∧ LoJ u u' 19 ∧ (∀ i, i < 128 → 0 ≤ (mL u' 19 i).toInt) ∧ ∀ p, 0 < p → p < 128 → Sub p x4 → lkP (IsR (mI u o1 0) (farP (mI u o1 0) (mI u (o2 + 1)) x3) (mI u o1 1).toNatClampNeg p) (T19 u' p) (T19 u p) (cod p (fun _ => x5.toInt))) := by
    refine upI 128 _ (fun x ih v h0 hq hl hnn hlo hhi => ?_)
    refine sg_Er_look_3 k1 k2 ⟨fun c => ⟨rfl, hq, hl, hnn, fun p p0 p1 ps => hlo p p0 (Int32.lt_of_lt_of_le p1 c) p1 ps⟩, fun c => ?_⟩
    have x128 := Int32.not_le.mp c
    refine ⟨fun r => ih c _ (by clear ih hlo hhi; grind) hq hl hnn (fun p p0 p1 p2 ps => ?_) (fun p p0 p1 => hhi p (by clear ih hlo hhi; grind) p1), fun r => ?_⟩
    · by_cases e : p = x
      · rw [e] at ps; exact absurd ps.and r
      · exact hlo p p0 (by clear ih hlo hhi; grind) p2 ps
    · have sx : Sub x x4 := Sub.of r
      have em := hl.1
      refine kI (c_roundOfx (u := v) k2 k1 (by rw [em]; exact hn) (by rw [em]; exact hm) hx (by rw [em]; exact hd)) (fun a w h => ?_)
      obtain ⟨rfl, h⟩ := h
      rw [em] at h
      have ab : 0 ≤ a ∧ a ≤ 30 := ⟨h.1.1, Int32.le_trans h.1.2 hn.2⟩
      have vx : vp_in x 128 := vin (by clear ih hlo hhi; grind) (show (_ : Int32) < 128 by exact x128) (by decide)
      have xN : x.toNatClampNeg < 128 := ixn (n := 128) (by clear ih hlo hhi; grind) x128 (by decide)
      refine ⟨vx, kJ (c_weeksCodex hw) (fun b w' h' => ?_)⟩
      obtain ⟨rfl, hb⟩ := h'
      have cb := cod_b (p := x) (G := fun _ => x5.toInt) (fun _ _ _ => ⟨by omega, by omega⟩)
      have a3 := Int32.le_iff_toInt_le.mp ab.1
      have a4 := Int32.le_iff_toInt_le.mp ab.2
      have s35 := sh35 ab
      have es : ((a : Int32).toInt64 <<< ((35 : Int32).toInt64 &&& 63) + b).toInt = a.toInt * 34359738368 + cod x (fun _ => x5.toInt) := by
        rw [ad64 (by omega) (by omega), s35, hb]
      generalize (a : Int32).toInt64 <<< ((35 : Int32).toInt64 &&& 63) + b = Y at *
      have nnv := hnn x.toNatClampNeg xN
      have le : (if Y < mL v 19 x.toNatClampNeg then Y else mL v 19 x.toNatClampNeg).toInt ≤ Y.toInt ∧ (if Y < mL v 19 x.toNatClampNeg then Y else mL v 19 x.toNatClampNeg).toInt ≤ (mL v 19 x.toNatClampNeg).toInt ∧ ((if Y < mL v 19 x.toNatClampNeg then Y else mL v 19 x.toNatClampNeg).toInt = (mL v 19 x.toNatClampNeg).toInt ∨ (if Y < mL v 19 x.toNatClampNeg then Y else mL v 19 x.toNatClampNeg).toInt = Y.toInt) := by
        by_cases z : Y < mL v 19 x.toNatClampNeg
        · have := Int64.lt_iff_toInt_lt.mp z
          rw [if_pos z]
          exact ⟨Int.le_refl _, by omega, .inr rfl⟩
        · have := Int64.le_iff_toInt_le.mp (Int64.not_lt.mp z)
          rw [if_neg z]
          exact ⟨this, Int.le_refl _, .inl rfl⟩
      generalize (if Y < mL v 19 x.toNatClampNeg then Y else mL v 19 x.toNatClampNeg) = Z at *
      refine ⟨vx, ih c _ (by clear ih hlo hhi; grind) (hq.pL (cm_n ⟨by decide, by decide, by decide, m.1⟩)) ⟨hl.1, fun n i hn => by rw [mL_ne hn]; exact hl.2 n i hn⟩ (fun i hi => ?_) (fun p p0 p1 p2 ps => ?_) (fun p p0 p1 => ?_)⟩
      · by_cases e : i = x.toNatClampNeg
        · rw [e, mL_eq]
          rcases le.2.2 with z | z <;> omega
        · rw [mL_nk e]; exact hnn i hi
      · by_cases e : p = x
        · rw [e]
          unfold T19
          rw [mL_eq]
          rw [hhi x (Int32.le_refl _) x128] at le
          exact ⟨a, h, le.2.1, by rw [← es]; exact le.1, by rw [← es]; exact le.2.2⟩
        · have ne : p.toNatClampNeg ≠ x.toNatClampNeg := fun z => e (tn_inj (Int32.le_of_lt p0) (by clear ih hlo hhi; grind) z)
          have eT : T19 (pL v 19 x.toNatClampNeg Z) p = T19 v p := by unfold T19; rw [mL_nk ne]
          rw [eT]
          exact hlo p p0 (by clear ih hlo hhi; grind) p2 ps
      · have p0' : x < p := by clear ih hlo hhi; grind
        have ne : p.toNatClampNeg ≠ x.toNatClampNeg := fun z => by
          have := tn_inj (Int32.le_trans (by decide) (Int32.le_trans h0 (Int32.le_of_lt p0'))) (Int32.le_trans (by decide) h0) z
          rw [this] at p0'
          exact absurd p0' (Int32.not_lt.mpr (Int32.le_refl _))
        rw [mL_nk ne]
        exact hhi p (Int32.le_of_lt p0') p1
  exact key 1 u (by decide) Cq.rf ⟨rfl, fun _ _ _ => rfl⟩ hT (fun p p0 p1 => absurd p1 (by grind)) (fun _ _ _ => rfl)
theorem c_leastOfx {x1 : Int32} (h0 : 1 ≤ x1) (h1 : x1 < 128) (hT : ∀ p, ¬ p = 0 → Sub p x1 → 0 ≤ T19 u p ∧ T19 u p ≤ 1125899906842624) (hS : ∀ p, ¬ p = 0 → Sub p x1 → 0 ≤ S20 u (mi x1 p) ∧ S20 u (mi x1 p) ≤ 1125899906842624) : Ws G Er_leastOf 0 [(0, .ref 18), (1, .int x1)] [] u (RJ fun a u' => u = u' ∧ (∀ p, ¬ p = 0 → Sub p x1 → a.toInt ≤ T19 u p + S20 u (mi x1 p)) ∧ ∃ p, ¬ p = 0 ∧ Sub p x1 ∧ a.toInt = T19 u p + S20 u (mi x1 p)) := by
  refine sg_Er_leastOf_0 ?_
  have x10 : 0 ≤ x1 := Int32.le_trans (by decide) h0
  have key : ∀ x (y : Int64), 1 ≤ x → x ≤ x1 + 1 → (∀ p, ¬ p = 0 → p < x → Sub p x1 → y.toInt ≤ T19 u p + S20 u (mi x1 p)) → (y.toInt = 1152921504606846976 ∨ ∃ p, ¬ p = 0 ∧ Sub p x1 ∧ y.toInt = T19 u p + S20 u (mi x1 p)) → Ws G Er_leastOf 7 [(0, .ref 18), (1, .int x1), (2, .long y), (4, .int x)] [] u (RJ fun a u' => u = u' ∧ (∀ p, ¬ p = 0 → Sub p x1 → a.toInt ≤ T19 u p + S20 u (mi x1 p)) ∧ ∃ p, ¬ p = 0 ∧ Sub p x1 ∧ a.toInt = T19 u p + S20 u (mi x1 p)) := by
    refine upI (x1 + 1) _ (fun x ih y hx hx1 hlo hat => ?_)
    have fin : x1 < x → (RJ fun a u' => u = u' ∧ (∀ p, ¬ p = 0 → Sub p x1 → a.toInt ≤ T19 u p + S20 u (mi x1 p)) ∧ ∃ p, ¬ p = 0 ∧ Sub p x1 ∧ a.toInt = T19 u p + S20 u (mi x1 p)) (some (.long y)) u := fun c => by
      refine ⟨_, rfl, rfl, fun p p0 ps => hlo p p0 (Int32.lt_of_le_of_lt (ps.nn x10).2 c) ps, ?_⟩
      rcases hat with e | e
      · have ss : Sub x1 x1 := fun _ _ z => z
        have n0 : ¬ x1 = 0 := fun z => by rw [z] at h0; exact absurd h0 (by decide)
        have a := hlo x1 n0 c ss
        have b := hT x1 n0 ss
        have d := hS x1 n0 ss
        omega
      · exact e
    refine sg_Er_leastOf_7 ⟨fun c => fin c, fun c => ⟨fun d => absurd (Int32.lt_of_lt_of_le h1 d) c, fun d => ?_⟩⟩
    have xx1 := Int32.not_lt.mp c
    have c' : ¬ x1 + 1 ≤ x := by clear ih hlo hat fin hT hS; grind
    refine ⟨fun r => ih c' _ (by clear ih hlo hat fin hT hS; grind) (by clear ih hlo hat fin hT hS; grind) (fun p p0 p1 ps => ?_) hat, fun r => ?_⟩
    · by_cases e : p = x
      · rw [e] at ps; exact absurd ps.and r
      · exact hlo p p0 (by clear ih hlo hat fin hT hS; grind) ps
    · have sx : Sub x x1 := Sub.of r
      have x0 : ¬ x = 0 := fun z => by rw [z] at hx; exact absurd hx (by decide)
      have em := sub_mi sx
      have bm := (Sub.mi (k := x1) (p := x)).nn x10
      have v1 : vp_in x 128 := vin (Int32.le_trans (by decide) hx) (show (_ : Int32) < 128 by exact Int32.lt_of_le_of_lt xx1 h1) (by decide)
      have v2 : vp_in (x1 - x) 128 := by rw [em]; exact vin bm.1 (show (_ : Int32) < 128 by exact Int32.lt_of_le_of_lt bm.2 h1) (by decide)
      refine ⟨v1, v2, ?_⟩
      rw [em]
      have a := hT x x0 sx
      have b := hS x x0 sx
      have es : (mL u 19 x.toNatClampNeg + mL u 20 (mi x1 x).toNatClampNeg).toInt = T19 u x + S20 u (mi x1 x) := by
        unfold T19 S20 at *
        rw [ad64 (by omega) (by omega)]
      generalize mL u 19 x.toNatClampNeg + mL u 20 (mi x1 x).toNatClampNeg = Y at *
      by_cases z : Y < y
      · have lt := Int64.lt_iff_toInt_lt.mp z
        rw [if_pos z]
        refine ih c' _ (by clear ih hlo hat fin hT hS; grind) (by clear ih hlo hat fin hT hS; grind) (fun p p0 p1 ps => ?_) (.inr ⟨x, x0, sx, es⟩)
        by_cases e : p = x
        · rw [e, es]; exact Int.le_refl _
        · have := hlo p p0 (by clear ih hlo hat fin hT hS; grind) ps
          omega
      · have le := Int64.le_iff_toInt_le.mp (Int64.not_lt.mp z)
        rw [if_neg z]
        refine ih c' _ (by clear ih hlo hat fin hT hS; grind) (by clear ih hlo hat fin hT hS; grind) (fun p p0 p1 ps => ?_) hat
        by_cases e : p = x
        · rw [e, ← es]; exact le
        · exact hlo p p0 (by clear ih hlo hat fin hT hS; grind) ps
  refine key 1 _ (by decide) (by clear key; grind) (fun p p0 p1 ps => ?_) (.inl (by decide))
  have := (ps.nn x10).1
  exact absurd (show p = 0 by clear key; grind) p0
theorem c_sharex {x1 : Int32} (m : 19 ∈ L ∧ 20 ∈ L) (h10 : 0 ≤ x1) (hT : ∀ p, ¬ p = 0 → Sub p x1 → 0 ≤ T19 u p ∧ T19 u p ≤ 1125899906842624) (h00 : mL u 20 0 = 0) (h128 : x1 < 128) : Ws G Er_share 0 [(0, .ref 18), (1, .int x1)] [] u (RV fun u' => Cq L u u' ∧ LoJ u u' 20 ∧ S20 u' 0 = 0 ∧ (∀ k, Sub k x1 → 0 ≤ S20 u' k ∧ S20 u' k ≤ 1125899906842624) ∧ ∀ k, ¬ k = 0 → Sub k x1 → (∀ p, ¬ p = 0 → Sub p k → S20 u' k ≤ T19 u p + S20 u' (mi k p)) ∧ ∃ p, ¬ p = 0 ∧ Sub p k ∧ S20 u' k = T19 u p + S20 u' (mi k p)) := by
  refine sg_Er_share_0 ?_
  have z0 : (0 : Int32).toNatClampNeg = 0 := by decide
  have key : ∀ x v, 1 ≤ x → x ≤ 128 → Cq L u v → LoJ u v 20 → S20 v 0 = 0 → (∀ k, k < x → Sub k x1 → 0 ≤ S20 v k ∧ S20 v k ≤ 1125899906842624) → (∀ k, ¬ k = 0 → k < x → Sub k x1 → (∀ p, ¬ p = 0 → Sub p k → S20 v k ≤ T19 u p + S20 v (mi k p)) ∧ ∃ p, ¬ p = 0 ∧ Sub p k ∧ S20 v k = T19 u p + S20 v (mi k p)) → Ws G Er_share 2 [(0, .ref 18), (1, .int x1), (2, .int x)] [] v (RV fun u' => Cq L u u' ∧ LoJ u u' 20 ∧ S20 u' 0 = 0 ∧ (∀ k, Sub k x1 → 0 ≤ S20 u' k ∧ S20 u' k ≤ 1125899906842624) ∧ ∀ k, ¬ k = 0 → Sub k x1 → (∀ p, ¬ p = 0 → Sub p k → S20 u' k ≤ T19 u p + S20 u' (mi k p)) ∧ ∃ p, ¬ p = 0 ∧ Sub p k ∧ S20 u' k = T19 u p + S20 u' (mi k p)) := by
    refine upI 128 _ (fun x ih v hx hx8 hq hl hS0 hb hP => ?_)
    refine sg_Er_share_2 ⟨fun c => ⟨rfl, hq, hl, hS0, fun k ks => hb k (Int32.lt_of_lt_of_le (Int32.lt_of_le_of_lt (ks.nn h10).2 h128) c) ks, fun k k0 ks => hP k k0 (Int32.lt_of_lt_of_le (Int32.lt_of_le_of_lt (ks.nn h10).2 h128) c) ks⟩, fun c => ?_⟩
    have x128 := Int32.not_le.mp c
    refine ⟨fun r => ih c _ (by clear ih hb hP hT; grind) (by clear ih hb hP hT; grind) hq hl hS0 (fun k kx ks => ?_) (fun k k0 kx ks => ?_), fun r => ?_⟩
    · by_cases e : k = x
      · rw [e] at ks; exact absurd ks.and r
      · exact hb k (by clear ih hb hP hT; grind) ks
    · by_cases e : k = x
      · rw [e] at ks; exact absurd ks.and r
      · exact hP k k0 (by clear ih hb hP hT; grind) ks
    · have sx : Sub x x1 := Sub.of r
      have x00 : 0 ≤ x := Int32.le_trans (by decide) hx
      have eT : ∀ p, T19 v p = T19 u p := fun p => by unfold T19; rw [hl.2 _ _ (by decide)]
      have mlt : ∀ k p, 0 ≤ k → ¬ p = 0 → Sub p k → mi k p < k := fun k p k0 p0 ps => by
        have a := ps.nn k0
        have b := (Sub.mi (k := k) (p := p)).nn k0
        rw [← sub_mi ps] at b ⊢
        clear ih hb hP hT
        grind
      refine kJ (c_leastOfx (u := v) hx x128 (fun p p0 ps => by rw [eT]; exact hT p p0 (ps.tr sx)) (fun p p0 ps => hb _ (mlt x p x00 p0 ps) (Sub.mi.tr sx))) (fun a w h => ?_)
      obtain ⟨rfl, hlow, hatt⟩ := h
      have ss : Sub x x := fun _ _ z => z
      have x0 : ¬ x = 0 := fun z => by rw [z] at hx; exact absurd hx (by decide)
      have mxx : mi x x = 0 := b_ext (fun i hi => by rw [tb_mi hi, tb_0]; cases tb x i <;> rfl)
      have vx : vp_in x 128 := vin x00 (show (_ : Int32) < 128 by exact x128) (by decide)
      have eSn : ∀ k, 0 ≤ k → ¬ k = x → S20 (pL v 20 x.toNatClampNeg a) k = S20 v k := fun k k0 ne => by
        unfold S20
        rw [mL_nk (fun z => ne (tn_inj k0 x00 z))]
      have eSx : S20 (pL v 20 x.toNatClampNeg a) x = a.toInt := by unfold S20; rw [mL_eq]
      refine ⟨vx, ih c _ (by clear ih hb hP hT; grind) (by clear ih hb hP hT; grind) (hq.pL (cm_n ⟨by decide, by decide, by decide, m.2⟩)) ⟨hl.1, fun n i hn => by rw [mL_ne hn]; exact hl.2 n i hn⟩ (by rw [eSn 0 (by decide) (fun z => x0 z.symm)]; exact hS0) (fun k kx ks => ?_) (fun k k0 kx ks => ?_)⟩
      · by_cases e : k = x
        · rw [e, eSx]
          have u1 := hlow x x0 ss
          rw [mxx, hS0, eT] at u1
          have u2 := hT x x0 sx
          obtain ⟨p, p0, ps, ep⟩ := hatt
          have u3 := hT p p0 (ps.tr sx)
          have u4 := hb _ (mlt x p x00 p0 ps) (Sub.mi.tr sx)
          rw [eT] at ep
          omega
        · rw [eSn k (ks.nn h10).1 e]; exact hb k (by clear ih hb hP hT; grind) ks
      · have kn := (ks.nn h10).1
        have eM : ∀ p, ¬ p = 0 → Sub p k → S20 (pL v 20 x.toNatClampNeg a) (mi k p) = S20 v (mi k p) := fun p p0 ps => eSn _ ((Sub.mi (k := k) (p := p)).nn kn).1 (fun z => by
          have q := mlt k p kn p0 ps
          rw [z] at q
          have : k ≤ x := by clear ih hb hP hT; grind
          exact absurd q (Int32.not_lt.mpr this))
        by_cases e : k = x
        · rw [e] at eM ⊢
          rw [eSx]
          refine ⟨fun p p0 ps => by rw [eM p p0 ps, ← eT]; exact hlow p p0 ps, ?_⟩
          obtain ⟨p, p0, ps, ep⟩ := hatt
          exact ⟨p, p0, ps, by rw [eM p p0 ps, ← eT]; exact ep⟩
        · rw [eSn k kn e]
          have q := hP k k0 (by clear ih hb hP hT; grind) ks
          refine ⟨fun p p0 ps => by rw [eM p p0 ps]; exact q.1 p p0 ps, ?_⟩
          obtain ⟨p, p0, ps, ep⟩ := q.2
          exact ⟨p, p0, ps, by rw [eM p p0 ps]; exact ep⟩
  have s0 : S20 u 0 = 0 := by unfold S20; rw [z0, h00]; decide
  refine key 1 u (by decide) (by decide) Cq.rf ⟨rfl, fun _ _ _ => rfl⟩ s0 (fun k kx ks => ?_) (fun k k0 kx ks => ?_)
  · have : k = 0 := by have := (ks.nn h10).1; clear key; grind
    rw [this, s0]; omega
  · exact absurd (show k = 0 by have := (ks.nn h10).1; clear key; grind) k0
end ERC
