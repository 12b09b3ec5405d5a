/-! ===== looking ahead: the class's Standing ahead, the reference's went ===== -/
/-- ahead stands w weeks on from now -/
def AH (u v : pM) (w : Nat) : Prop := Cq qB u v ∧ (∀ n k, n ≠ 10 → n ≠ 11 → mI v n k = mI u n k) ∧ mI v 10 0 = mI u 7 0 + Int32.ofNat w ∧ mI v 10 1 = mI u 7 1 ∧ ∀ s, s < (mI u (mR u 2 10) 1).toNatClampNeg → mI v 11 s = dwC u w s
def AM (u v : pM) (ord : Nat → Nat) (w : Nat) : Prop := Mq mB u v ∧ (∀ n k, n ≠ 85 → n ≠ 86 → mI v n k = mI u n k) ∧ ∀ s, s < (mI u 76 11).toNatClampNeg → mI v 85 s = dwM u ord w s
/-- the first week from w0 on, to the 600th, in which P holds; or none -/
def FS (P : Nat → Prop) (w0 : Nat) (a : Int32) : Prop := (∃ w, w0 ≤ w ∧ w ≤ 600 ∧ P w ∧ (∀ j, w0 ≤ j → j < w → ¬ P j) ∧ a = Int32.ofNat w) ∨ ((∀ j, w0 ≤ j → j ≤ 600 → ¬ P j) ∧ a = -9)
theorem FS.eq {P P' : Nat → Prop} {w0 : Nat} {a b : Int32} (h : FS P w0 a) (h' : FS P' w0 b) (e : ∀ w, w ≤ 600 → (P w ↔ P' w)) : a = b := by
  rcases h with ⟨w, w1, w2, w3, w4, w5⟩ | ⟨n, e1⟩ <;> rcases h' with ⟨v, v1, v2, v3, v4, v5⟩ | ⟨n', e2⟩
  · have : w = v := by
      rcases Nat.lt_trichotomy w v with c | c | c
      · exact absurd ((e w w2).mp w3) (v4 w w1 c)
      · exact c
      · exact absurd ((e v v2).mpr v3) (w4 v v1 c)
    rw [w5, v5, this]
  · exact absurd ((e w w2).mp w3) (n' w w1 w2)
  · exact absurd ((e v v2).mpr v3) (n v v1 v2)
  · rw [e1, e2]
section AHD
variable {G : pG} {u v : pM}
theorem AH.z (hm : (mI u (mR u 2 10) 1).toNatClampNeg ≤ 7) : AH u (snB u 10 7) 0 := by
  refine ⟨cq_snB Cq.rf (by decide) (by decide), fun n k a b => snB_f a b, ?_, snB_1 (by decide), fun s hs => ?_⟩
  · rw [snB_0]
    show _ = _ + Int32.ofNat 0
    grind
  · rw [show mI (snB u 10 7) 11 s = mI (snB u 10 7) (10 + 1) s from rfl, snB_d (by decide) (by omega)]
    rfl
theorem c_ah {w : Nat} (hK : PlK u (mR u 2 10)) (hp : pl (mR u 2 10)) (h : AH u v w) : Ws G Sn_pass 0 [(0, .ref 10), (1, .ref (mR u 2 10)), (2, .int 1)] [] v (RV fun v' => AH u v' (w + 1)) := by
  have ko := pl_ok hp
  have k10 : okS 10 5 := by decide
  have pn := pl_st k10 ko
  obtain ⟨hq, hf, w0, w1, hd⟩ := h
  have K2 : PlK v (mR u 2 10) := hK.cg k10 ko hf
  refine kV (c_passx (L := qB) k10 (by decide) ko (by decide) K2) (fun v' h3 => ?_)
  obtain ⟨q3, f3, a3, b3, d3, _⟩ := h3
  rw [shF_cg k10 ko hf, ordF_cg k10 ko hf, hf _ _ pn.1.1 pn.1.2, hf _ _ pn.1.1 pn.1.2] at d3
  have o1 : (1 : Int32).toNatClampNeg = 1 := by decide
  refine ⟨hq.tr q3, fun n k a b => (f3 n k a b).trans (hf n k a b), ?_, b3.trans w1, fun s hs => ?_⟩
  · rw [a3, w0]
    have e : Int32.ofNat (w + 1) = Int32.ofNat w + 1 := by
      rw [show (1 : Int32) = Int32.ofNat 1 by rfl, ← Int32.ofNat_add]
    rw [e]
    grind
  · rw [show mI v' 11 s = mI v' (10 + 1) s from rfl, d3, o1]
    show pwk _ (mI v 10 0 + Int32.ofNat 0) _ _ _ _ _ s = _
    have e3 : dwC u (w + 1) = pwk (mI u (mR u 2 10) 0) (mI u 7 0 + Int32.ofNat w) (mI u 7 1) (shF u (mR u 2 10)) (ordF u (mR u 2 10)) (mI u (mR u 2 10) 1).toNatClampNeg (dwC u w) := rfl
    rw [e3, w0, w1, show mI u 7 0 + Int32.ofNat w + Int32.ofNat 0 = mI u 7 0 + Int32.ofNat w by show _ + (0 : Int32) = _; grind]
    refine pwk_cg hK.2.2.2.2.1 (fun t ht => ?_) s hs
    show mI v 11 t = _
    exact hd t ht
theorem e_am {ord : Nat → Nat} {w : Nat} {x : Int32} (hM : InvM u) (ho : OrdP (shM u) (mI u 76 11).toNatClampNeg ord) (h : AM u v ord w) (hx : x = Int32.ofNat w) : Ws G m_passOne 0 [(0, .ref 76), (1, .int (mI v 76 18 + x)), (2, .int (mI v 76 19))] [] v (RV fun v' => AM u v' ord (w + 1)) := by
  obtain ⟨hq, hf, hd⟩ := h
  have eM : shM v = shM u := shM_cg (fun k => hf _ _ (by decide) (by decide))
  have hi := hq.inv hM
  refine kV (e_passOnex (ord := ord) hi hi.2.2.2.1 (by rw [eM, hq.m]; exact ho)) (fun v' h => ?_)
  obtain ⟨q', f', d'⟩ := h
  rw [eM, hq.m, hq.n, hf 76 18 (by decide) (by decide), hf 76 19 (by decide) (by decide)] at d'
  refine ⟨hq.tr q', fun n k a b => (f' n k a b).trans (hf n k a b), fun s hs => ?_⟩
  have e3 : dwM u ord (w + 1) = pwk (mI u 76 10) (mI u 76 18 + Int32.ofNat w) (mI u 76 19) (shM u) ord (mI u 76 11).toNatClampNeg (dwM u ord w) := rfl
  rw [d' s, e3, hx]
  exact pwk_cg ho.1 hd s hs
theorem e_am0 {ord : Nat → Nat} (hM : InvM u) : Ws G m_fromNow 0 [(0, .ref 76)] [] u (RV fun v' => AM u v' ord 0) := kV (e_fromNowx hM) (fun v h => ⟨h.1, fun n k a _ => h.2.1 n k a, fun s hs => h.2.2 s hs⟩)
/-! where -/
def wheK (m x1 x2 : Int32) : Prop := (0 ≤ x1 ∧ x1 < m) ∧ 0 ≤ x2 ∧ x2 ≤ 400
theorem d_wherey {x1 x2 : Int32} (hC : InvC u) (hm : 0 ≤ mI u (mR u 2 10) 1 ∧ mI u (mR u 2 10) 1 ≤ 7) (hK : 0 < mI u (mR u 2 10) 1 → PlK u (mR u 2 10)) : Ws G D_where 0 [(0, .ref 2), (1, .int x1), (2, .int x2)] [] u (RI fun a u' => Cl qB u u' ∧ ((wheK (mI u (mR u 2 10) 1) x1 x2 ∧ a = dwC u x2.toNatClampNeg x1.toNatClampNeg) ∨ (¬ wheK (mI u (mR u 2 10) 1) x1 x2 ∧ a = -1))) := by
  have m7 : (mI u (mR u 2 10) 1).toNatClampNeg ≤ 7 := by have := tn_le hm.2; have e : (7 : Int32).toNatClampNeg = 7 := (by decide); omega
  have no : ¬ wheK (mI u (mR u 2 10) 1) x1 x2 → (RI fun a u' => Cl qB u u' ∧ ((wheK (mI u (mR u 2 10) 1) x1 x2 ∧ a = dwC u x2.toNatClampNeg x1.toNatClampNeg) ∨ (¬ wheK (mI u (mR u 2 10) 1) x1 x2 ∧ a = -1))) (some (.int (-1))) u := fun n => ⟨_, rfl, Cl.rf hC, .inr ⟨n, rfl⟩⟩
  refine sg_D_where_0 (fun hp => ⟨fun a => ⟨fun b => no (fun z => absurd b (Int32.not_lt.mpr z.2.1)), fun b => ⟨fun c hp2 => ?_, fun c => no (fun z => c z.2.2)⟩⟩, fun a => no (fun z => a ⟨z.1.1, z.1.2, Int32.lt_of_lt_of_le z.1.2 hm.2⟩)⟩)
  have a' : 0 ≤ x1 ∧ x1 < mI u (mR u 2 10) 1 ∧ x1 < 7 := a
  have ko := pl_ok hp
  have k10 : okS 10 5 := by decide
  have pn := pl_st k10 ko
  have A := AH.z (u := u) m7
  have hK' := hK (Int32.lt_of_le_of_lt a'.1 a'.2.1)
  have K2 : PlK (snB u 10 7) (mR u 2 10) := hK'.cg k10 ko A.2.1
  show Ws G Sn_pass 0 [(0, .ref 10), (1, .ref (mR u 2 10)), (2, .int x2)] [] (snB u 10 7) _
  refine kV (c_passx (L := qB) k10 (by decide) ko (Int32.not_lt.mp b) K2) (fun v' h3 => ?_)
  obtain ⟨q3, f3, a3, b3, d3, _⟩ := h3
  rw [shF_cg k10 ko A.2.1, ordF_cg k10 ko A.2.1, A.2.1 _ _ pn.1.1 pn.1.2, A.2.1 _ _ pn.1.1 pn.1.2, snB_0, snB_1 (by decide)] at d3
  refine ⟨_, rfl, (A.1.tr q3).cl hC, .inl ⟨⟨⟨a'.1, a'.2.1⟩, Int32.not_lt.mp b, c⟩, ?_⟩⟩
  unfold snD
  rw [if_pos ⟨a'.1, a'.2.2⟩, d3]
  exact pws_cg hK'.2.2.2.2.1 (fun t ht => by rw [show mI (snB u 10 7) (10 + 1) t = mI u 8 t from snB_d (by decide) (by omega)]) _ _ (tn_lt a'.1 a'.2.1)
theorem e_wherey {x1 x2 : Int32} {ord : Nat → Nat} (hM : InvM u) (ho : OrdP (shM u) (mI u 76 11).toNatClampNeg ord) : Ws G m_where 0 [(0, .ref 76), (1, .int x1), (2, .int x2)] [] u (RI fun a u' => Mo mB u u' ∧ ((wheK (mI u 76 11) x1 x2 ∧ a = dwM u ord x2.toNatClampNeg x1.toNatClampNeg) ∨ (¬ wheK (mI u 76 11) x1 x2 ∧ a = -1))) := by
  have m7 := hM.m7
  have no : ¬ wheK (mI u 76 11) x1 x2 → (RI fun a u' => Mo mB u u' ∧ ((wheK (mI u 76 11) x1 x2 ∧ a = dwM u ord x2.toNatClampNeg x1.toNatClampNeg) ∨ (¬ wheK (mI u 76 11) x1 x2 ∧ a = -1))) (some (.int (-1))) u := fun n => ⟨_, rfl, Mo.rf hM, .inr ⟨n, rfl⟩⟩
  refine sg_m_where_0 ⟨fun a => ⟨fun b => ?_, fun b => no (fun z => b z.2)⟩, fun a => no (fun z => a ⟨z.1.1, by have := z.1.2; grind⟩)⟩
  have xm : x1 < mI u 76 11 := by have := a.2; grind
  have k : wheK (mI u 76 11) x1 x2 := ⟨⟨a.1, xm⟩, b⟩
  have v7 : vp_in x1 7 := vin a.1 (show (_ : Int32) < 7 by exact Int32.lt_of_lt_of_le xm m7.2) (by decide)
  have key : ∀ x v, 0 ≤ x → x ≤ x2 → AM u v ord x.toNatClampNeg → Ws G m_where 27 [(0, .ref 76), (1, .int x1), (2, .int x2), (3, .int x)] [] v (RI fun a u' => Mo mB u u' ∧ ((wheK (mI u 76 11) x1 x2 ∧ a = dwM u ord x2.toNatClampNeg x1.toNatClampNeg) ∨ (¬ wheK (mI u 76 11) x1 x2 ∧ a = -1))) := by
    refine upI x2 _ (fun x ih v h0 hx hA => ?_)
    refine sg_m_where_27 ⟨fun c => ⟨v7, _, rfl, hA.1.mo hM, .inl ⟨k, ?_⟩⟩, fun c => kV (e_am hM ho hA (i32_nat h0).symm) (fun v' h => ih c v' (by grind) (by grind) (by rw [tn_succ h0 c]; exact h))⟩
    rw [Int32.le_antisymm hx c] at hA
    exact hA.2.2 _ (tn_lt a.1 xm)
  have z0 : (0 : Int32).toNatClampNeg = 0 := by decide
  exact kV (e_am0 hM) (fun v h => key 0 v (by decide) b.1 (by rw [z0]; exact h))
/-! comes -/
def comK (n m x1 x2 : Int32) : Prop := (0 ≤ x1 ∧ x1 < m) ∧ 0 ≤ x2 ∧ x2 < n
theorem d_comesy {x1 x2 : Int32} (hC : InvC u) (hm : 0 ≤ mI u (mR u 2 10) 1 ∧ mI u (mR u 2 10) 1 ≤ 7) (hK : 0 < mI u (mR u 2 10) 1 → PlK u (mR u 2 10)) : Ws G D_comes 0 [(0, .ref 2), (1, .int x1), (2, .int x2)] [] u (RI fun a u' => Cl qB u u' ∧ ((comK (mI u (mR u 2 10) 0) (mI u (mR u 2 10) 1) x1 x2 ∧ FS (fun w => dwC u w x1.toNatClampNeg = x2) 0 a) ∨ (¬ comK (mI u (mR u 2 10) 0) (mI u (mR u 2 10) 1) x1 x2 ∧ a = -1))) := by
  have m7 : (mI u (mR u 2 10) 1).toNatClampNeg ≤ 7 := by have := tn_le hm.2; have e : (7 : Int32).toNatClampNeg = 7 := (by decide); omega
  have no : ¬ comK (mI u (mR u 2 10) 0) (mI u (mR u 2 10) 1) x1 x2 → (RI fun a u' => Cl qB u u' ∧ ((comK (mI u (mR u 2 10) 0) (mI u (mR u 2 10) 1) x1 x2 ∧ FS (fun w => dwC u w x1.toNatClampNeg = x2) 0 a) ∨ (¬ comK (mI u (mR u 2 10) 0) (mI u (mR u 2 10) 1) x1 x2 ∧ a = -1))) (some (.int (-1))) u := fun n => ⟨_, rfl, Cl.rf hC, .inr ⟨n, rfl⟩⟩
  refine sg_D_comes_0 (fun hp => ⟨fun a _ => ⟨fun b => ?_, fun b => no (fun z => b z.2)⟩, fun a => no (fun z => a ⟨z.1.1, z.1.2, Int32.lt_of_lt_of_le z.1.2 hm.2⟩)⟩)
  have a' : 0 ≤ x1 ∧ x1 < mI u (mR u 2 10) 1 ∧ x1 < 7 := a
  have k : comK (mI u (mR u 2 10) 0) (mI u (mR u 2 10) 1) x1 x2 := ⟨⟨a'.1, a'.2.1⟩, b⟩
  have hK' := hK (Int32.lt_of_le_of_lt a'.1 a'.2.1)
  have key : ∀ x v, 0 ≤ x → x ≤ 601 → AH u v x.toNatClampNeg → (∀ j, j < x.toNatClampNeg → ¬ dwC u j x1.toNatClampNeg = x2) → Ws G D_comes 37 [(0, .ref 2), (1, .int x1), (2, .int x2), (3, .int x)] [] v (RI fun a u' => Cl qB u u' ∧ ((comK (mI u (mR u 2 10) 0) (mI u (mR u 2 10) 1) x1 x2 ∧ FS (fun w => dwC u w x1.toNatClampNeg = x2) 0 a) ∨ (¬ comK (mI u (mR u 2 10) 0) (mI u (mR u 2 10) 1) x1 x2 ∧ a = -1))) := by
    refine upI 601 _ (fun x ih v h0 hx hA hno => ?_)
    have ed : snD v 10 x1 = dwC u x.toNatClampNeg x1.toNatClampNeg := by
      unfold snD
      rw [if_pos ⟨a'.1, a'.2.2⟩]
      exact hA.2.2.2.2 _ (tn_lt a'.1 a'.2.1)
    have hR : mR v 2 10 = mR u 2 10 := by rw [hA.1.2.1]
    refine sg_D_comes_37 ⟨fun c => ⟨_, rfl, hA.1.cl hC, .inl ⟨k, .inr ⟨fun j _ hj => hno j ?_, rfl⟩⟩⟩, fun c => ?_⟩
    · have l := tn_lt (show (0 : Int32) ≤ 600 by decide) c
      have e : (600 : Int32).toNatClampNeg = 600 := by decide
      omega
    rw [ed, hR]
    refine ⟨fun d _ => kV (c_ah hK' hp hA) (fun v' h => ih (by clear ih; grind) v' (by clear ih; grind) (by clear ih; grind) ?_ (fun j hj => ?_)), fun d => ⟨_, rfl, hA.1.cl hC, .inl ⟨k, .inl ⟨x.toNatClampNeg, by omega, ?_, d, fun j _ hj => hno j hj, (i32_nat h0).symm⟩⟩⟩⟩
    · rw [tn_succ (b := 601) h0 (by clear ih; grind)]; exact h
    · rw [tn_succ (b := 601) h0 (by clear ih; grind)] at hj
      by_cases e : j = x.toNatClampNeg
      · rw [e]; exact d
      · exact hno j (by omega)
    · have l := tn_le (Int32.not_lt.mp c)
      have e : (600 : Int32).toNatClampNeg = 600 := by decide
      omega
  have z0 : (0 : Int32).toNatClampNeg = 0 := by decide
  exact key 0 _ (by decide) (by decide) (by rw [z0]; exact AH.z m7) (fun j hj => by omega)
theorem e_comesy {x1 x2 : Int32} {ord : Nat → Nat} (hM : InvM u) (ho : OrdP (shM u) (mI u 76 11).toNatClampNeg ord) : Ws G m_comes 0 [(0, .ref 76), (1, .int x1), (2, .int x2)] [] u (RI fun a u' => Mo mB u u' ∧ ((comK (mI u 76 10) (mI u 76 11) x1 x2 ∧ FS (fun w => dwM u ord w x1.toNatClampNeg = x2) 0 a) ∨ (¬ comK (mI u 76 10) (mI u 76 11) x1 x2 ∧ a = -1))) := by
  have m7 := hM.m7
  have n30 := hM.n30
  have no : ¬ comK (mI u 76 10) (mI u 76 11) x1 x2 → (RI fun a u' => Mo mB u u' ∧ ((comK (mI u 76 10) (mI u 76 11) x1 x2 ∧ FS (fun w => dwM u ord w x1.toNatClampNeg = x2) 0 a) ∨ (¬ comK (mI u 76 10) (mI u 76 11) x1 x2 ∧ a = -1))) (some (.int (-1))) u := fun n => ⟨_, rfl, Mo.rf hM, .inr ⟨n, rfl⟩⟩
  refine sg_m_comes_0 ⟨fun a => ⟨fun b => ?_, fun b => no (fun z => b ⟨z.2.1, by have := z.2.2; grind⟩)⟩, fun a => no (fun z => a ⟨z.1.1, by have := z.1.2; grind⟩)⟩
  have xm : x1 < mI u 76 11 := by have := a.2; grind
  have k : comK (mI u 76 10) (mI u 76 11) x1 x2 := ⟨⟨a.1, xm⟩, b.1, by have := b.2; grind⟩
  have v7 : vp_in x1 7 := vin a.1 (show (_ : Int32) < 7 by exact Int32.lt_of_lt_of_le xm m7.2) (by decide)
  have key : ∀ x v, 0 ≤ x → x ≤ 601 → AM u v ord x.toNatClampNeg → (∀ j, j < x.toNatClampNeg → ¬ dwM u ord j x1.toNatClampNeg = x2) → Ws G m_comes 24 [(0, .ref 76), (1, .int x1), (2, .int x2), (3, .int x)] [] v (RI fun a u' => Mo mB u u' ∧ ((comK (mI u 76 10) (mI u 76 11) x1 x2 ∧ FS (fun w => dwM u ord w x1.toNatClampNeg = x2) 0 a) ∨ (¬ comK (mI u 76 10) (mI u 76 11) x1 x2 ∧ a = -1))) := by
    refine upI 601 _ (fun x ih v h0 hx hA hno => ?_)
    refine sg_m_comes_24 ⟨fun c => ⟨_, rfl, hA.1.mo hM, .inl ⟨k, .inr ⟨fun j _ hj => hno j ?_, rfl⟩⟩⟩, fun c => ⟨v7, ?_⟩⟩
    · have l := tn_lt (show (0 : Int32) ≤ 600 by decide) c
      have e : (600 : Int32).toNatClampNeg = 600 := by decide
      omega
    rw [hA.2.2 _ (tn_lt a.1 xm)]
    refine ⟨fun d => kV (e_am hM ho hA (i32_nat h0).symm) (fun v' h => ih (by clear ih; grind) v' (by clear ih; grind) (by clear ih; grind) ?_ (fun j hj => ?_)), fun d => ⟨_, rfl, hA.1.mo hM, .inl ⟨k, .inl ⟨x.toNatClampNeg, by omega, ?_, d, fun j _ hj => hno j hj, (i32_nat h0).symm⟩⟩⟩⟩
    · rw [tn_succ (b := 601) h0 (by clear ih; grind)]; exact h
    · rw [tn_succ (b := 601) h0 (by clear ih; grind)] at hj
      by_cases e : j = x.toNatClampNeg
      · rw [e]; exact d
      · exact hno j (by omega)
    · have l := tn_le (Int32.not_lt.mp c)
      have e : (600 : Int32).toNatClampNeg = 600 := by decide
      omega
  have z0 : (0 : Int32).toNatClampNeg = 0 := by decide
  exact kV (e_am0 hM) (fun v h => key 0 v (by decide) (by decide) (by rw [z0]; exact h) (fun j hj => by omega))
end AHD
