/-! ===== the texts of both sides ===== -/
def tRel (u v : pM) (t : Nat) : Prop := (mI u (62 + 2 * t) 1 < 0 ∧ mI v 81 t < 0) ∨ (0 ≤ mI u (62 + 2 * t) 1 ∧ mI u (62 + 2 * t) 1 = mI v 81 t ∧ ∀ i, i < 100 → mI u (63 + 2 * t) i = mI v 82 (100 * t + i))
/-- the class's texts in u are the reference's in v -/
def RT (u v : pM) : Prop := ∀ t, t < 4 → tRel u v t
/-- the cells of the class's texts, of the reference's -/
def tC (n : Nat) : Prop := 62 ≤ n ∧ n < 70
def tM (n : Nat) : Prop := n = 81 ∨ n = 82
theorem RT.fc {u u' v : pM} (h : RT u v) (e : ∀ n k, tC n → mI u' n k = mI u n k) : RT u' v := fun t ht => by
  have a : ∀ k, mI u' (62 + 2 * t) k = mI u (62 + 2 * t) k := fun k => e _ _ ⟨by omega, by omega⟩
  have b : ∀ k, mI u' (63 + 2 * t) k = mI u (63 + 2 * t) k := fun k => e _ _ ⟨by omega, by omega⟩
  have := h t ht
  unfold tRel at *
  simp only [a, b]
  exact this
theorem RT.fm {u v v' : pM} (h : RT u v) (e : ∀ n k, tM n → mI v' n k = mI v n k) : RT u v' := fun t ht => by
  have a : ∀ k, mI v' 81 k = mI v 81 k := fun k => e _ _ (.inl rfl)
  have b : ∀ k, mI v' 82 k = mI v 82 k := fun k => e _ _ (.inr rfl)
  have := h t ht
  unfold tRel at *
  simp only [a, b]
  exact this
theorem fp_c {L : List Nat} {u u' : pM} (h : Fp L u u') (hL : ∀ n, 62 ≤ n → n < 70 → n ∉ L) : ∀ n k, tC n → mI u' n k = mI u n k := fun n k q => h.1 n k (by rw [cd_n ⟨by have := q.2; omega, by have := q.1; omega, by have := q.2; omega⟩]; exact hL n q.1 q.2)
theorem fp_m {L : List Nat} {u u' : pM} (h : Fp L u u') (hL : 81 ∉ L ∧ 82 ∉ L) : ∀ n k, tM n → mI u' n k = mI u n k := fun n k q => h.1 n k (by
  rcases q with rfl | rfl
  · rw [cd_n (by decide)]; exact hL.1
  · rw [cd_n (by decide)]; exact hL.2)
theorem mI_dF {u : pM} {f : Int32} {n k : Nat} (h : n ≠ 2 ∧ n ≠ 21) : mI (dF u f) n k = mI u n k := by
  unfold dF
  split
  · rw [mI_ne h.2, mI_ne h.1]
  · rfl
theorem mI_mt {u : pM} {f : Int32} {n k : Nat} (h : n ≠ 76 ∧ n ≠ 77) : mI (mt u f) n k = mI u n k := by
  unfold mt
  rw [mI_ne h.2, mI_ne h.1]
theorem tO {x1 : Int32} (h : 0 ≤ x1 ∧ x1 < 4) : txV x1 = 62 + 2 * x1.toNatClampNeg ∧ x1.toNatClampNeg < 4 := by
  have l : x1.toNatClampNeg < 4 := ixn (n := 4) h.1 h.2 (by decide)
  refine ⟨?_, l⟩
  unfold txV
  rw [if_pos h]
  exact (show ∀ t, t < 4 → R0 4 t = 62 + 2 * t from by decide +kernel) _ l
theorem tL {t : Nat} (h : t < 4) : okS (62 + 2 * t) 6 ∧ (S0 (62 + 2 * t + 1)).2 = 100 := (show ∀ t, t < 4 → okS (62 + 2 * t) 6 ∧ (S0 (62 + 2 * t + 1)).2 = 100 from by decide +kernel) t h
/-- how a call of put ends: answer and memory -/
def putC (u : pM) (x1 x2 x3 a : Int32) (u' : pM) : Prop := (¬ (0 ≤ x1 ∧ x1 < 4) ∧ a = -1 ∧ u' = u) ∨ ((0 ≤ x1 ∧ x1 < 4) ∧ (¬ (0 ≤ x2 ∧ x2 < mI u (62 + 2 * x1.toNatClampNeg) 1) ∧ a = -3 ∧ (∃ f, u' = dF u f) ∨ (0 ≤ x2 ∧ x2 < mI u (62 + 2 * x1.toNatClampNeg) 1) ∧ a = mI u (63 + 2 * x1.toNatClampNeg) x2.toNatClampNeg + 1000 ∧ u' = pI u (63 + 2 * x1.toNatClampNeg) x2.toNatClampNeg x3.toInt8.toInt32))
def putM (u : pM) (x1 x2 x3 a : Int32) (u' : pM) : Prop := (¬ (0 ≤ x1 ∧ x1 < 4) ∧ a = -1 ∧ u' = u) ∨ ((0 ≤ x1 ∧ x1 < 4) ∧ (¬ (0 ≤ x2 ∧ x2 < mI u 81 x1.toNatClampNeg) ∧ a = -3 ∧ (∃ f, u' = mt u f) ∨ (0 ≤ x2 ∧ x2 < mI u 81 x1.toNatClampNeg) ∧ a = mI u 82 (100 * x1.toNatClampNeg + x2.toNatClampNeg) + 1000 ∧ u' = pI u 82 (100 * x1.toNatClampNeg + x2.toNatClampNeg) x3.toInt8.toInt32))
theorem ix_100 {x y : Int32} (hx : 0 ≤ x ∧ x < 4) (hy : 0 ≤ y ∧ y < 100) : (100 * x + y : Int32).toNatClampNeg = 100 * x.toNatClampNeg + y.toNatClampNeg := by
  have a := Int32.le_iff_toInt_le.mp hx.1
  have b := Int32.lt_iff_toInt_lt.mp hx.2
  have c := Int32.le_iff_toInt_le.mp hy.1
  have d := Int32.lt_iff_toInt_lt.mp hy.2
  have e0 : (0 : Int32).toInt = 0 := by decide
  have e4 : (4 : Int32).toInt = 4 := by decide
  have e1 : (100 : Int32).toInt = 100 := by decide
  have f : (100 * x + y : Int32).toInt = 100 * x.toInt + y.toInt := by
    rw [Int32.toInt_add, Int32.toInt_mul, e1, Int.bmod_eq_of_le (n := 100 * x.toInt) (by omega) (by omega), Int.bmod_eq_of_le (by omega) (by omega)]
  show (100 * x + y : Int32).toInt.toNat = 100 * x.toInt.toNat + y.toInt.toNat
  rw [f]
  omega
section TXT
variable {G : pG} {u : pM}
theorem tn_succ0 {x b : Int32} (h0 : 0 ≤ x) (c : ¬ b ≤ x) : (x + 1).toNatClampNeg = x.toNatClampNeg + 1 := tn_succ h0 c
theorem d_putx {x1 x2 x3 : Int32} (hC : InvC u) : Ws G D_put 0 [(0, .ref 2), (1, .int x1), (2, .int x2), (3, .int x3)] [] u (RI fun a u' => Cl (qB ++ qT) u u' ∧ putC u x1 x2 x3 a u') := by
  refine sg_D_put_0 ⟨fun a => ?_, fun a => ⟨_, rfl, Cl.rf hC, .inl ⟨a, rfl, rfl⟩⟩⟩
  obtain ⟨e, ht⟩ := tO a
  have k0 := (tL ht).1
  have z : (S0 (62 + 2 * x1.toNatClampNeg + 1)).2 = 100 := (tL ht).2
  have hs := hC.1 _ k0
  rw [z] at hs
  have mo : In2 (qB ++ qT) (62 + 2 * x1.toNatClampNeg) := (show ∀ t, t < 4 → In2 (qB ++ qT) (62 + 2 * t) from by decide) _ ht
  have bad : ∀ f, ¬ f = 0 → ¬ (0 ≤ x2 ∧ x2 < mI u (62 + 2 * x1.toNatClampNeg) 1) → (f = 0 → (RI fun a u' => Cl (qB ++ qT) u u' ∧ putC u x1 x2 x3 a u') (some (.int (spG u (62 + 2 * x1.toNatClampNeg) x2 + 1000))) (spS u (62 + 2 * x1.toNatClampNeg) x2 x3.toInt8.toInt32)) ∧ (¬ f = 0 → (RI fun a u' => Cl (qB ++ qT) u u' ∧ putC u x1 x2 x3 a u') (some (.int (-3))) (dF u f)) := fun f hf q => ⟨fun c => absurd c hf, fun _ => ⟨_, rfl, (cq_dF Cq.rf (by decide)).cl hC, .inr ⟨a, .inl ⟨q, rfl, _, rfl⟩⟩⟩⟩
  rw [e]
  refine sg_D_placeFinding_0 k0 ⟨fun b => ⟨fun c => ⟨_, rfl, ?_⟩, fun c => ⟨_, rfl, bad 2 (by decide) (fun q => c ⟨q.1, q.2, ?_⟩)⟩⟩, fun b => ⟨_, rfl, bad 1 (by decide) (fun q => b (by grind))⟩⟩
  · refine ⟨fun _ => ⟨_, rfl, (cq_spS Cq.rf k0 mo).cl hC, .inr ⟨a, .inr ⟨⟨c.1, c.2.1⟩, ?_, ?_⟩⟩⟩, fun q => absurd rfl q⟩
    · have c1 : 0 ≤ x2 ∧ x2 < mI u (62 + 2 * x1.toNatClampNeg) 1 ∧ x2 < Int32.ofNat (S0 (62 + 2 * x1.toNatClampNeg + 1)).2 := c
      rw [spG, if_pos c1, show 62 + 2 * x1.toNatClampNeg + 1 = 63 + 2 * x1.toNatClampNeg by omega]
    · have c1 : 0 ≤ x2 ∧ x2 < mI u (62 + 2 * x1.toNatClampNeg) 1 ∧ x2 < Int32.ofNat (S0 (62 + 2 * x1.toNatClampNeg + 1)).2 := c
      rw [spS, if_pos c1, show 62 + 2 * x1.toNatClampNeg + 1 = 63 + 2 * x1.toNatClampNeg by omega]
  · rw [z]
    exact Int32.lt_of_lt_of_le q.2 hs
theorem e_putx {x1 x2 x3 : Int32} (hM : InvM u) : Ws G m_put 0 [(0, .ref 76), (1, .int x1), (2, .int x2), (3, .int x3)] [] u (RI fun a u' => Mo (mB ++ mTx) u u' ∧ putM u x1 x2 x3 a u') := by
  refine sg_m_put_0 (sg_m_askedText_0 ⟨fun a => ?_, fun a => ⟨_, rfl, fun c => absurd c (by decide), fun _ => ⟨_, rfl, Mo.rf hM, .inl ⟨fun q => a ⟨q.1, by grind⟩, rfl, rfl⟩⟩⟩⟩)
  have a4 : 0 ≤ x1 ∧ x1 < 4 := ⟨a.1, by grind⟩
  have b81 := hM.b81 x1.toNatClampNeg
  have v4 : vp_in x1 4 := vin a.1 (show (_ : Int32) < 4 by grind) (by decide)
  refine ⟨v4, fun b => ⟨_, rfl, fun _ => ⟨v4, fun c => ?_, fun c => ⟨_, rfl, Mq.rf.tm.mo hM, .inr ⟨a4, .inl ⟨fun q => c ⟨q.1, by grind⟩, rfl, _, rfl⟩⟩⟩⟩, fun q => absurd (by decide) q⟩, fun b => ⟨_, rfl, fun q => absurd q (by decide), fun _ => ⟨_, rfl, Mq.rf.tm.mo hM, .inr ⟨a4, .inl ⟨fun q => b (by grind), rfl, _, rfl⟩⟩⟩⟩⟩
  have v : vp_in ((100 * x1) + x2) 400 := vin (by grind) (show (_ : Int32) < 400 by grind) (by decide)
  have i := ix_100 a4 (y := x2) ⟨c.1, by grind⟩
  exact ⟨v, v, _, rfl, (Mq.rf.pA (by decide)).mo hM, .inr ⟨a4, .inr ⟨⟨c.1, by grind⟩, by rw [i], by rw [i]⟩⟩⟩
/-- both put alike -/
theorem put_eq {u v v1 w : pM} {x1 x2 x3 a b : Int32} (hC : InvC u) (h : RT u v) (hc : putC u x1 x2 x3 a w) (hm : putM v x1 x2 x3 b v1) : a = b ∧ RT w v1 := by
  rcases hc with ⟨p, e1, rfl⟩ | ⟨p, hc⟩ <;> rcases hm with ⟨q, e2, rfl⟩ | ⟨q, hm⟩
  · exact ⟨e1.trans e2.symm, h⟩
  · exact absurd q p
  · exact absurd p q
  · have l : x1.toNatClampNeg < 4 := (tO p).2
    have r := h _ l
    have sz : (0 ≤ x2 ∧ x2 < mI u (62 + 2 * x1.toNatClampNeg) 1) ↔ (0 ≤ x2 ∧ x2 < mI v 81 x1.toNatClampNeg) := by
      rcases r with ⟨r1, r2⟩ | ⟨r1, r2, _⟩
      · constructor <;> intro z <;> exact absurd z.2 (by grind)
      · rw [r2]
    rcases hc with ⟨c, e1, f, rfl⟩ | ⟨c, e1, rfl⟩ <;> rcases hm with ⟨d, e2, g, rfl⟩ | ⟨d, e2, rfl⟩
    · exact ⟨e1.trans e2.symm, (h.fc (fun n k z => mI_dF ⟨by have := z.1; omega, by have := z.1; omega⟩)).fm (fun n k z => mI_mt (by rcases z with rfl | rfl <;> decide))⟩
    · exact absurd (sz.mpr d) c
    · exact absurd (sz.mp c) d
    · rcases r with ⟨r1, r2⟩ | ⟨r1, r2, r3⟩
      · exact absurd c.2 (by grind)
      · have i100 : x2.toNatClampNeg < 100 := by
          have hs := hC.1 _ (tL l).1
          rw [(tL l).2] at hs
          have z := Int32.lt_iff_toInt_lt.mp (Int32.lt_of_lt_of_le c.2 hs)
          have e : x2.toNatClampNeg = x2.toInt.toNat := rfl
          have d : (Int32.ofNat 100).toInt = 100 := by decide
          omega
        refine ⟨by rw [e1, e2, r3 _ i100], fun t ht => ?_⟩
        have rt := h t ht
        unfold tRel at *
        by_cases et : t = x1.toNatClampNeg
        · rw [et] at rt ⊢
          rw [mI_ne (by omega), mI_ne (by decide)]
          refine .inr ⟨r1, r2, fun i hi => ?_⟩
          by_cases ei : i = x2.toNatClampNeg
          · rw [ei, mI_eq, mI_eq]
          · rw [mI_nk ei, mI_nk (by omega)]; exact r3 i hi
        · rw [mI_ne (by omega), mI_ne (by decide)]
          rcases rt with z | ⟨z1, z2, z3⟩
          · exact .inl z
          · exact .inr ⟨z1, z2, fun i hi => by rw [mI_ne (by omega), mI_nk (by omega)]; exact z3 i hi⟩
/-! text -/
def filI (u : pM) (o N : Nat) (x : Int32) : Nat → Nat → Int32 := fun n k => if n = o ∧ k < N then x else mI u n k
theorem c_fillx {L : List Nat} {o0 : Nat} {x1 : Int32} (k0 : okS o0 100) (h76 : o0 < 76) (m0 : o0 ∈ L) : Ws G ja_fill 0 [(0, .ref o0), (1, .int x1)] [] u (RV fun u' => Cq L u u' ∧ mI u' = filI u o0 (S0 o0).2 x1) := by
  refine sg_ja_fill_0 k0 ?_
  have ofN : (Int32.ofNat (S0 o0).2).toNatClampNeg = (S0 o0).2 := Int32.toNatClampNeg_ofNat_of_lt (S0_lt _)
  have key : ∀ x v, 0 ≤ x → Cq L u v → mI v = filI u o0 x.toNatClampNeg x1 → x ≤ Int32.ofNat (S0 o0).2 → Ws G ja_fill 5 [(0, .ref o0), (1, .int x1), (2, .int x), (3, .int (Int32.ofNat (S0 o0).2))] [] v (RV fun u' => Cq L u u' ∧ mI u' = filI u o0 (S0 o0).2 x1) := by
    refine upI (Int32.ofNat (S0 o0).2) _ (fun x ih v h0 hq hm hx => ?_)
    refine sg_ja_fill_5 k0 ⟨fun c => ⟨rfl, hq, ?_⟩, fun c => ⟨vin h0 (Int32.not_le.mp c) (S0_lt _), ih c _ ?_ (hq.pI (wr_k k0 h76 (by decide) (by decide)) (by rw [cd_k k0 (by decide) h76]; exact m0)) ?_ ?_⟩⟩
    · have : x = Int32.ofNat (S0 o0).2 := Int32.le_antisymm hx c
      rw [hm, this, ofN]
    · have := S0_lt o0
      grind
    · rw [tn_succ0 h0 c]
      funext n k
      show up2 (mI v) o0 x.toNatClampNeg x1 n k = _
      rw [hm]
      unfold up2 filI
      by_cases e : n = o0 ∧ k = x.toNatClampNeg
      · rw [if_pos e, if_pos ⟨e.1, by omega⟩]
      · rw [if_neg e]
        by_cases f : n = o0 ∧ k < x.toNatClampNeg
        · rw [if_pos f, if_pos ⟨f.1, by omega⟩]
        · rw [if_neg f, if_neg (fun z => by
            by_cases g : k = x.toNatClampNeg
            · exact e ⟨z.1, g⟩
            · exact f ⟨z.1, by omega⟩)]
    · have := S0_lt o0
      grind
  refine key 0 u (by decide) Cq.rf ?_ ?_
  · funext n k
    unfold filI
    rw [if_neg (fun z => by have := z.2; have e : (0 : Int32).toNatClampNeg = 0 := (by decide); omega)]
  · apply Int32.le_iff_toInt_le.mpr
    have c : (Int32.ofNat (S0 o0).2).toInt = (S0 o0).2 := nI_toInt (S0_lt _)
    have e : (0 : Int32).toInt = 0 := by decide
    omega
def tokC (x1 x2 : Int32) : Prop := (0 ≤ x1 ∧ x1 < 4) ∧ x2 ≤ 100 ∧ 0 ≤ x2
def textC (u : pM) (x1 x2 : Int32) (u' : pM) : Prop := (¬ tokC x1 x2 ∧ (u' = u ∨ ∃ f, u' = dF u f)) ∨ (tokC x1 x2 ∧ ∀ n k, mI u' n k = if n = 63 + 2 * x1.toNatClampNeg ∧ k < 100 then 32 else if n = 62 + 2 * x1.toNatClampNeg ∧ k = 1 then x2 else mI u n k)
def textM (u : pM) (x1 x2 : Int32) (u' : pM) : Prop := (¬ tokC x1 x2 ∧ (u' = u ∨ ∃ f, u' = mt u f)) ∨ (tokC x1 x2 ∧ ∀ n k, mI u' n k = if n = 82 ∧ 100 * x1.toNatClampNeg ≤ k ∧ k < 100 * x1.toNatClampNeg + 100 then 32 else if n = 81 ∧ k = x1.toNatClampNeg then x2 else mI u n k)
theorem d_textx {x1 x2 : Int32} (hC : InvC u) : Ws G D_text 0 [(0, .ref 2), (1, .int x1), (2, .int x2)] [] u (RI fun a u' => Cl (qB ++ qT) u u' ∧ textV x1 x2 = a ∧ textC u x1 x2 u') := by
  refine sg_D_text_0 ⟨fun a => ⟨fun b => ⟨fun c => ?_, fun c => ⟨_, rfl, (cq_dF Cq.rf (by decide)).cl hC, by rw [textV, if_pos a, if_pos b, if_neg c], .inl ⟨fun q => c q.2.2, .inr ⟨_, rfl⟩⟩⟩⟩, fun b => ⟨_, rfl, Cl.rf hC, by rw [textV, if_pos a, if_neg b], .inl ⟨fun q => b q.2.1, .inl rfl⟩⟩⟩, fun a => ⟨_, rfl, Cl.rf hC, by rw [textV, if_neg a], .inl ⟨fun q => a q.1, .inl rfl⟩⟩⟩
  obtain ⟨e, ht⟩ := tO a
  have k0 := (tL ht).1
  have z : (S0 (62 + 2 * x1.toNatClampNeg + 1)).2 = 100 := (tL ht).2
  have mo : In2 (qB ++ qT) (62 + 2 * x1.toNatClampNeg) := (show ∀ t, t < 4 → In2 (qB ++ qT) (62 + 2 * t) from by decide) _ ht
  rw [e]
  have ez : ¬ Int32.ofNat 100 < x2 := fun q => absurd b (Int32.not_le.mpr q)
  refine sg_Sp_renew_0 k0 (kV (c_fillx (L := qB ++ qT) (os_6_0 k0) (by have := lt_6 k0; omega) mo.2) (fun v h => ⟨rfl, ⟨_, rfl, ?_, by rw [textV, if_pos a, if_pos b, if_pos c], .inr ⟨⟨a, b, c⟩, fun n k => ?_⟩⟩⟩))
  · refine ((Cl.rf hC).sz k0 mo ?_).cq h.1
    rw [z, if_neg ez]
    exact b
  · rw [h.2, z, if_neg ez]
    unfold filI
    have e1 : 62 + 2 * x1.toNatClampNeg + 1 = 63 + 2 * x1.toNatClampNeg := by omega
    rw [e1]
    by_cases p : n = 63 + 2 * x1.toNatClampNeg ∧ k < 100
    · rw [if_pos p, if_pos p]
    · rw [if_neg p, if_neg p]
      by_cases q : n = 62 + 2 * x1.toNatClampNeg ∧ k = 1
      · rw [if_pos q, q.1, q.2, mI_eq]
      · rw [if_neg q]
        show up2 (mI u) _ _ _ n k = _
        rw [up2, if_neg q]
theorem e_textx {x1 x2 : Int32} (hM : InvM u) : Ws G m_text 0 [(0, .ref 76), (1, .int x1), (2, .int x2)] [] u (RI fun a u' => Mo (mB ++ mTx) u u' ∧ textV x1 x2 = a ∧ textM u x1 x2 u') := by
  refine sg_m_text_0 ⟨fun a => ⟨fun b => ⟨fun c => ?_, fun c => ⟨_, rfl, Mq.rf.tm.mo hM, by rw [textV, if_pos (by grind), if_pos b, if_neg c], .inl ⟨fun q => c q.2.2, .inr ⟨_, rfl⟩⟩⟩⟩, fun b => ⟨_, rfl, Mo.rf hM, by rw [textV, if_pos (by grind), if_neg b], .inl ⟨fun q => b q.2.1, .inl rfl⟩⟩⟩, fun a => ⟨_, rfl, Mo.rf hM, by rw [textV, if_neg (by grind)], .inl ⟨fun q => a ⟨q.1.1, by have := q.1.2; grind⟩, .inl rfl⟩⟩⟩
  have a4 : 0 ≤ x1 ∧ x1 < 4 := ⟨a.1, by grind⟩
  have key : ∀ x v, 0 ≤ x → x ≤ 100 → Mq (mB ++ mTx) u v → (∀ n k, mI v n k = if n = 82 ∧ 100 * x1.toNatClampNeg ≤ k ∧ k < 100 * x1.toNatClampNeg + x.toNatClampNeg then 32 else if n = 81 ∧ k = x1.toNatClampNeg then x2 else mI u n k) → Ws G m_text 34 [(0, .ref 76), (1, .int x1), (2, .int x2), (3, .int x)] [] v (RI fun a u' => Mo (mB ++ mTx) u u' ∧ textV x1 x2 = a ∧ textM u x1 x2 u') := by
    refine upI 100 _ (fun x ih v h0 hx hq hm => ?_)
    refine sg_m_text_34 ⟨fun c1 => ⟨_, rfl, hq.mo hM, by rw [textV, if_pos a4, if_pos b, if_pos c], .inr ⟨⟨a4, b, c⟩, fun n k => ?_⟩⟩, fun c1 => ⟨vin (by grind) (show (_ : Int32) < 400 by grind) (by decide), ih c1 _ (by grind) (by grind) (hq.pA (by decide)) (fun n k => ?_)⟩⟩
    · have : x = 100 := Int32.le_antisymm hx c1
      rw [hm, this]
      have e : (100 : Int32).toNatClampNeg = 100 := by decide
      rw [e]
    · rw [ix_100 a4 ⟨h0, Int32.not_le.mp c1⟩, tn_succ0 h0 c1]
      show up2 (mI v) 82 _ 32 n k = _
      unfold up2
      by_cases e : n = 82 ∧ k = 100 * x1.toNatClampNeg + x.toNatClampNeg
      · rw [if_pos e, if_pos ⟨e.1, by omega, by omega⟩]
      · rw [if_neg e, hm]
        by_cases f : n = 82 ∧ 100 * x1.toNatClampNeg ≤ k ∧ k < 100 * x1.toNatClampNeg + x.toNatClampNeg
        · rw [if_pos f, if_pos ⟨f.1, f.2.1, by omega⟩]
        · rw [if_neg f, if_neg (show ¬ (n = 82 ∧ 100 * x1.toNatClampNeg ≤ k ∧ k < 100 * x1.toNatClampNeg + (x.toNatClampNeg + 1)) from fun z => by
            by_cases g : k = 100 * x1.toNatClampNeg + x.toNatClampNeg
            · exact e ⟨z.1, g⟩
            · exact f ⟨z.1, z.2.1, by omega⟩)]
  refine ⟨vin a.1 (show (_ : Int32) < 4 by grind) (by decide), key 0 _ (by decide) (by decide) (Mq.rf.p81 b) (fun n k => ?_)⟩
  have e0 : (0 : Int32).toNatClampNeg = 0 := by decide
  rw [if_neg (fun z => by have := z.2.1; have := z.2.2; omega)]
  show up2 (mI u) 81 _ x2 n k = _
  rfl
theorem text_eq {u v v1 w : pM} {x1 x2 : Int32} (h : RT u v) (hc : textC u x1 x2 w) (hm : textM v x1 x2 v1) : RT w v1 := by
  rcases hc with ⟨p, hc⟩ | ⟨p, hc⟩ <;> rcases hm with ⟨q, hm⟩ | ⟨q, hm⟩
  · have hw : RT w v := by
      rcases hc with rfl | ⟨f, rfl⟩
      · exact h
      · exact h.fc (fun n k z => mI_dF ⟨by have := z.1; omega, by have := z.1; omega⟩)
    rcases hm with rfl | ⟨f, rfl⟩
    · exact hw
    · exact hw.fm (fun n k z => mI_mt (by rcases z with rfl | rfl <;> decide))
  · exact absurd q p
  · exact absurd p q
  · intro t ht
    have l : x1.toNatClampNeg < 4 := (tO p.1).2
    have rt := h t ht
    unfold tRel at *
    by_cases et : t = x1.toNatClampNeg
    · right
      rw [hc, hm, if_neg (by omega), if_pos ⟨by omega, rfl⟩, if_neg (by omega), if_pos ⟨rfl, et⟩]
      refine ⟨p.2.2, rfl, fun i hi => ?_⟩
      rw [hc, hm, if_pos ⟨by omega, hi⟩, if_pos ⟨rfl, by omega, by omega⟩]
    · rw [hc, hm, if_neg (by omega), if_neg (by omega), if_neg (by omega), if_neg (by omega)]
      rcases rt with z | ⟨z1, z2, z3⟩
      · exact .inl z
      · exact .inr ⟨z1, z2, fun i hi => by rw [hc, hm, if_neg (by omega), if_neg (by omega), if_neg (by omega), if_neg (by omega)]; exact z3 i hi⟩
end TXT
