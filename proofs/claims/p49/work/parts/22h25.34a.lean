/-! ===== rows, whole: what each call does to them ===== -/
theorem rwK.dF {u : pM} {f : Int32} : rwK u (dF u f) := rwK.of (fun n k a b => mI_dF ⟨by omega, by omega⟩)
theorem rwK.rf {u : pM} : rwK u u := fun _ _ => ⟨rfl, fun _ => rfl⟩
theorem rmK.rf {u : pM} : rmK u u := fun _ _ => ⟨rfl, fun _ _ => rfl⟩
theorem rmK.mt {u : pM} {f : Int32} : rmK u (mt u f) := fun _ _ => ⟨mI_mt (by decide), fun _ _ => mI_mt (by decide)⟩
/-- one row is set, or none is touched -/
def rwP (u u' : pM) (c : Prop) (r : Nat) (y : Int32) (f : Nat → Int32) : Prop := (c ∧ rwS u u' r y f) ∨ (¬ c ∧ rwK u u')
def rmP (u u' : pM) (c : Prop) (r : Nat) (y : Int32) (f : Nat → Int32) : Prop := (c ∧ rmS u u' r y f) ∨ (¬ c ∧ rmK u u')
/-- the rows of both are alike -/
def RW (u v : pM) : Prop := ∀ r, r < 6 → rRel u v r ∧ ∀ k, k < 40 → mI u (51 + 2 * r) k = mI v 79 (40 * r + k)
theorem RW.rs {u v : pM} (h : RW u v) : RS u v := fun r hr => (h r hr).1
theorem RW.K {u u' v v' : pM} (h : RW u v) (p : rwK u u') (q : rmK v v') : RW u' v' := fun r hr => by
  have a := h r hr
  refine ⟨?_, fun k hk => by rw [(p r hr).2 k, (q r hr).2 k hk]; exact a.2 k hk⟩
  have := a.1
  unfold rRel at *
  rw [(p r hr).1, (q r hr).1]
  exact this
theorem RW.S {u u' v v' : pM} {r : Nat} {y y' : Int32} {f g : Nat → Int32} (h : RW u v) (p : rwS u u' r y f) (q : rmS v v' r y' g) (hy : (y < 0 ∧ y' < 0) ∨ (0 ≤ y ∧ y = y')) (hf : ∀ k, k < 40 → f k = g k) : RW u' v' := fun t ht => by
  by_cases e : t = r
  · rw [e]
    refine ⟨?_, fun k hk => by rw [p.2.1 k hk, q.2.1 k hk]; exact hf k hk⟩
    unfold rRel
    rw [p.1, q.1]
    exact hy
  · have a := h t ht
    have p' := p.2.2 t ht e
    have q' := q.2.2 t ht e
    refine ⟨?_, fun k hk => by rw [p'.2 k, q'.2 k hk]; exact a.2 k hk⟩
    have := a.1
    unfold rRel at *
    rw [p'.1, q'.1]
    exact this
theorem RW.P {u u' v v' : pM} {c c' : Prop} {r : Nat} {y y' : Int32} {f g : Nat → Int32} (h : RW u v) (p : rwP u u' c r y f) (q : rmP v v' c' r y' g) (hc : c ↔ c') (hy : c → (y < 0 ∧ y' < 0) ∨ (0 ≤ y ∧ y = y')) (hf : c → ∀ k, k < 40 → f k = g k) : RW u' v' := by
  rcases p with ⟨p1, p2⟩ | ⟨p1, p2⟩
  · rcases q with ⟨_, q2⟩ | ⟨q1, _⟩
    · exact h.S p2 q2 (hy p1) (hf p1)
    · exact absurd (hc.mp p1) q1
  · rcases q with ⟨q1, _⟩ | ⟨_, q2⟩
    · exact absurd (hc.mpr q1) p1
    · exact h.K p2 q2
def setF (f : Nat → Int32) (j : Nat) (v : Int32) : Nat → Int32 := fun k => if k = j then v else f k
def cpyF (f g : Nat → Int32) (i j n : Nat) : Nat → Int32 := fun k => if j ≤ k ∧ k < j + n then f (i + (k - j)) else g k
section ROW
variable {G : pG} {u : pM}
theorem d_rowy {x1 x2 : Int32} (hC : InvC u) : Ws G D_row 0 [(0, .ref 2), (1, .int x1), (2, .int x2)] [] u (RI fun a u' => Cl (qB ++ qR) u u' ∧ rowV x1 x2 = a ∧ rwP u u' (rokC x1 x2) x1.toNatClampNeg (rnV x2) (fun _ => 0)) := by
  refine sg_D_row_0 ⟨fun a => ⟨fun b => ⟨fun c => ?_, fun c => ⟨_, rfl, (cq_dF Cq.rf (by decide)).cl hC, by rw [rowV, if_pos a, if_pos b, if_neg c], .inr ⟨fun z => c z.2.2, rwK.dF⟩⟩⟩, fun b => ⟨_, rfl, Cl.rf hC, by rw [rowV, if_pos a, if_neg b], .inr ⟨fun z => b z.2.1, rwK.rf⟩⟩⟩, fun a => ⟨_, rfl, Cl.rf hC, by rw [rowV, if_neg a], .inr ⟨fun z => a z.1, rwK.rf⟩⟩⟩
  obtain ⟨e, hr⟩ := rO a
  rw [e]
  exact kV (c_renewy hr hC) (fun v h => ⟨_, rfl, h.1, by rw [rowV, if_pos a, if_pos b, if_pos c], .inl ⟨⟨a, b, c⟩, rwS.of h.2.2.2.1 h.2.2.2.2.1 (fun n k _ _ n3 n4 => h.2.2.2.2.2 n k n3 n4)⟩⟩)
theorem e_rowyy {x1 x2 : Int32} (hM : InvM u) : Ws G m_row 0 [(0, .ref 76), (1, .int x1), (2, .int x2)] [] u (RI fun a u' => Mo (mB ++ mRw) u u' ∧ rowV x1 x2 = a ∧ rmP u u' (rokC x1 x2) x1.toNatClampNeg x2 (fun _ => 0)) := by
  by_cases hc : (0 ≤ x1 ∧ x1 ≤ 5) ∧ x2 ≤ 40 ∧ 0 ≤ x2
  · have a6 : 0 ≤ x1 ∧ x1 < 6 := ⟨hc.1.1, by have := hc.1.2; grind⟩
    exact kI (e_rowy hc.1 hc.2.1 hc.2.2) (fun r v h => ⟨h.2.1.mo hM, by rw [rowV, if_pos a6, if_pos hc.2.1, if_pos hc.2.2]; exact h.1.symm, .inl ⟨⟨a6, hc.2.1, hc.2.2⟩, h.2.2.2⟩⟩)
  · have nc : ¬ rokC x1 x2 := fun z => hc ⟨⟨z.1.1, by have := z.1.2; grind⟩, z.2.1, z.2.2⟩
    refine sg_m_row_0 ⟨fun a => ⟨fun b => ⟨fun c => absurd ⟨a, b, c⟩ hc, fun c => ⟨_, rfl, Mq.rf.tm.mo hM, ?_, .inr ⟨nc, rmK.mt⟩⟩⟩, fun b => ⟨_, rfl, Mo.rf hM, ?_, .inr ⟨nc, rmK.rf⟩⟩⟩, fun a => ⟨_, rfl, Mo.rf hM, ?_, .inr ⟨nc, rmK.rf⟩⟩⟩
    · rw [rowV, if_pos (by grind), if_pos b, if_neg c]
    · rw [rowV, if_pos (by grind), if_neg b]
    · rw [rowV, if_neg (by grind)]
theorem d_layy {x1 x2 x3 : Int32} (hC : InvC u) : Ws G D_lay 0 [(0, .ref 2), (1, .int x1), (2, .int x2), (3, .int x3)] [] u (RI fun a u' => Cl (qB ++ qR) u u' ∧ layV (mI u (50 + 2 * x1.toNatClampNeg) 1) x1 x2 = a ∧ rwP u u' (layV (mI u (50 + 2 * x1.toNatClampNeg) 1) x1 x2 = 1) x1.toNatClampNeg (mI u (50 + 2 * x1.toNatClampNeg) 1) (setF (mI u (51 + 2 * x1.toNatClampNeg)) x2.toNatClampNeg x3)) := by
  refine sg_D_lay_0 ⟨fun a => ?_, fun a => ⟨_, rfl, Cl.rf hC, by unfold layV; rw [if_neg a], .inr ⟨by unfold layV; rw [if_neg a]; decide, rwK.rf⟩⟩⟩
  obtain ⟨e, hr⟩ := rO a
  have k0 := (rL hr).1
  have z := (rL hr).2
  have hs := hC.1 _ k0
  rw [z] at hs
  rw [e]
  have bad : ∀ f, ¬ (0 ≤ x2 ∧ x2 < mI u (50 + 2 * x1.toNatClampNeg) 1) → (RI fun a u' => Cl (qB ++ qR) u u' ∧ layV (mI u (50 + 2 * x1.toNatClampNeg) 1) x1 x2 = a ∧ rwP u u' (layV (mI u (50 + 2 * x1.toNatClampNeg) 1) x1 x2 = 1) x1.toNatClampNeg (mI u (50 + 2 * x1.toNatClampNeg) 1) (setF (mI u (51 + 2 * x1.toNatClampNeg)) x2.toNatClampNeg x3)) (some (.int (-3))) (dF u f) := fun f q => ⟨_, rfl, (cq_dF Cq.rf (by decide)).cl hC, by unfold layV; rw [if_pos a, if_neg q], .inr ⟨by unfold layV; rw [if_pos a, if_neg q]; decide, rwK.dF⟩⟩
  refine sg_D_placeFinding_0 k0 ⟨fun b => ⟨fun c => ⟨_, rfl, fun _ => ?_, fun q => absurd rfl q⟩, fun c => ⟨_, rfl, fun q => absurd q (by decide), fun _ => bad 2 (fun q => c ⟨q.1, q.2, ?_⟩)⟩⟩, fun b => ⟨_, rfl, fun q => absurd q (by decide), fun _ => bad 1 (fun q => b (Int32.le_of_lt (Int32.lt_of_le_of_lt q.1 q.2)))⟩⟩
  · have c1 : 0 ≤ x2 ∧ x2 < mI u (50 + 2 * x1.toNatClampNeg) 1 ∧ x2 < Int32.ofNat (S0 (50 + 2 * x1.toNatClampNeg + 1)).2 := c
    have lv : layV (mI u (50 + 2 * x1.toNatClampNeg) 1) x1 x2 = 1 := by unfold layV; rw [if_pos a, if_pos ⟨c1.1, c1.2.1⟩]
    refine ⟨_, rfl, ((cq_spS Cq.rf k0 (rM hr)).pI wr_D (by decide)).cl hC, lv, .inl ⟨lv, ?_⟩⟩
    have eS : spS u (50 + 2 * x1.toNatClampNeg) x2 x3 = pI u (51 + 2 * x1.toNatClampNeg) x2.toNatClampNeg x3 := by
      unfold spS
      rw [if_pos c1, show 50 + 2 * x1.toNatClampNeg + 1 = 51 + 2 * x1.toNatClampNeg by omega]
    rw [eS]
    refine rwS.of (by rw [mI_ne (by omega), mI_ne (by omega)]) (fun k _ => ?_) (fun n k n1 n2 n3 n4 => by rw [mI_ne (by omega), mI_ne n4])
    rw [mI_ne (by omega)]
    unfold setF
    by_cases q : k = x2.toNatClampNeg
    · rw [if_pos q, q, mI_eq]
    · rw [if_neg q, mI_nk q]
  · rw [z]
    exact Int32.lt_of_lt_of_le q.2 hs
theorem e_layy {x1 x2 x3 : Int32} (hM : InvM u) : Ws G m_lay 0 [(0, .ref 76), (1, .int x1), (2, .int x2), (3, .int x3)] [] u (RI fun a u' => Mo (mB ++ mRw) u u' ∧ layV (mI u 78 x1.toNatClampNeg) x1 x2 = a ∧ rmP u u' (layV (mI u 78 x1.toNatClampNeg) x1 x2 = 1) x1.toNatClampNeg (mI u 78 x1.toNatClampNeg) (setF (fun k => mI u 79 (40 * x1.toNatClampNeg + k)) x2.toNatClampNeg x3)) := by
  refine sg_m_lay_0 (kI (e_atz hM) (fun a v h => ⟨fun c => ?_, fun c => ⟨_, rfl, h.1.up.mo hM, h.2.1, .inr ⟨fun z => c (by rw [← h.2.1, z]; decide), rmK.fp h.1.fp (by decide)⟩⟩⟩))
  obtain ⟨r0, r5, s0, s1⟩ := h.2.2 c
  have l1 := layV_1 (by rw [h.2.1]; exact c)
  have xN : x2.toNatClampNeg < 40 := ixn (n := 40) s0 s1 (by decide)
  have k := rmK.fp h.1.fp (by decide)
  have rN : x1.toNatClampNeg < 6 := ixn (n := 6) r0 (show (_ : Int32) < 6 by grind) (by decide)
  refine ⟨vin (by grind) (show (_ : Int32) < 240 by grind) (by decide), _, rfl, ((Mq.up (L := mB ++ mRw) h.1).pA (by decide)).mo hM, l1, .inl ⟨l1, ?_⟩⟩
  rw [ix40 ⟨r0, r5⟩ ⟨s0, s1⟩]
  refine ⟨by rw [mI_ne (by decide)]; exact (k _ rN).1, fun j hj => ?_, fun q hq ne => ⟨by rw [mI_ne (by decide)]; exact (k q hq).1, fun j hj => by rw [mI_nk (by omega)]; exact (k q hq).2 j hj⟩⟩
  unfold setF
  by_cases e : j = x2.toNatClampNeg
  · rw [if_pos e, e, mI_eq]
  · rw [if_neg e, mI_nk (by omega)]; exact (k _ rN).2 j hj
theorem d_teary {x1 : Int32} (hC : InvC u) : Ws G D_tear 0 [(0, .ref 2), (1, .int x1)] [] u (RI fun a u' => Cl (qB ++ qR) u u' ∧ tearV (mI u (50 + 2 * x1.toNatClampNeg) 1) x1 = a ∧ rwP u u' ((0 ≤ x1 ∧ x1 < 6) ∧ 0 ≤ mI u (50 + 2 * x1.toNatClampNeg) 1) x1.toNatClampNeg (-1) (mI u (51 + 2 * x1.toNatClampNeg))) := by
  refine sg_D_tear_0 ⟨fun a => ?_, fun a => ⟨_, rfl, Cl.rf hC, by unfold tearV; rw [if_neg a], .inr ⟨fun z => a z.1, rwK.rf⟩⟩⟩
  obtain ⟨e, hr⟩ := rO a
  have k0 := (rL hr).1
  rw [e]
  refine ⟨fun b => ⟨_, rfl, (Cl.rf hC).sz k0 (rM hr) ?_, by unfold tearV; rw [if_pos a, if_pos b], .inl ⟨⟨a, b⟩, rwS.of mI_eq (fun k _ => by rw [mI_ne (by omega)]) (fun n k _ _ n3 _ => mI_ne n3)⟩⟩, fun b => ⟨_, rfl, (cq_dF Cq.rf (by decide)).cl hC, by unfold tearV; rw [if_pos a, if_neg b], .inr ⟨fun z => b z.2, rwK.dF⟩⟩⟩
  rw [(rL hr).2]; decide
theorem e_teary {x1 : Int32} (hM : InvM u) : Ws G m_tear 0 [(0, .ref 76), (1, .int x1)] [] u (RI fun a u' => Mo (mB ++ mRw) u u' ∧ tearV (mI u 78 x1.toNatClampNeg) x1 = a ∧ rmP u u' ((0 ≤ x1 ∧ x1 < 6) ∧ 0 ≤ mI u 78 x1.toNatClampNeg) x1.toNatClampNeg (-9) (fun k => mI u 79 (40 * x1.toNatClampNeg + k))) := by
  refine sg_m_tear_0 (sg_m_askedRow_0 ⟨fun a => ?_, fun a => ⟨_, rfl, fun q => absurd q (by decide), fun _ => ⟨_, rfl, Mo.rf hM, by unfold tearV; rw [if_neg (fun z => a ⟨z.1, by have := z.2; grind⟩)], .inr ⟨fun z => a ⟨z.1.1, by have := z.1.2; grind⟩, rmK.rf⟩⟩⟩⟩)
  have a6 : 0 ≤ x1 ∧ x1 < 6 := ⟨a.1, by grind⟩
  have v6 : vp_in x1 6 := vin a.1 (show (_ : Int32) < 6 by grind) (by decide)
  refine ⟨v6, fun b => ⟨_, rfl, fun _ => ⟨v6, _, rfl, (Mq.rf.p78 (by decide)).mo hM, by unfold tearV; rw [if_pos a6, if_pos b], .inl ⟨⟨a6, b⟩, mI_eq, fun k _ => mI_ne (by decide), fun q _ ne => ⟨mI_nk ne, fun k _ => mI_ne (by decide)⟩⟩⟩, fun q => absurd (by decide) q⟩, fun b => ⟨_, rfl, fun q => absurd q (by decide), fun _ => ⟨_, rfl, Mq.rf.tm.mo hM, by unfold tearV; rw [if_pos a6, if_neg b], .inr ⟨fun z => b z.2, rmK.mt⟩⟩⟩⟩
/-! doors, image -/
def dooF (m : Nat) (dr : Nat → Int32) : Nat → Int32 := fun k => if k < m then dr k else 0
def imaF (m : Nat) (w s : Int32) (dr : Nat → Int32) : Nat → Int32 := fun k => if k = 0 then w else if k = 1 then s else if k < m + 2 then dr (k - 2) else 0
theorem spS_at {v : pM} {r : Nat} {i z : Int32} (hr : r < 6) (h0 : 0 ≤ i) (h1 : i < mI v (50 + 2 * r) 1) (h2 : i < 40) : spS v (50 + 2 * r) i z = pI v (51 + 2 * r) i.toNatClampNeg z := by
  unfold spS
  rw [if_pos ⟨h0, h1, by rw [(rL hr).2]; exact h2⟩, show 50 + 2 * r + 1 = 51 + 2 * r by omega]
theorem d_doorsy {x1 : Int32} (hC : InvC u) (hm : 0 ≤ mI u (mR u 2 10) 1 ∧ mI u (mR u 2 10) 1 ≤ 7) : Ws G D_doors 0 [(0, .ref 2), (1, .int x1)] [] u (RI fun a u' => Cl (qB ++ qR) u u' ∧ dooV (mI u (mR u 2 10) 1) x1 = a ∧ rwP u u' (0 ≤ x1 ∧ x1 < 6) x1.toNatClampNeg (mI u (mR u 2 10) 1) (dooF (mI u (mR u 2 10) 1).toNatClampNeg (mI u 8))) := by
  refine sg_D_doors_0 ⟨fun a hp => ?_, fun a => ⟨_, rfl, Cl.rf hC, by unfold dooV; rw [if_neg a], .inr ⟨a, rwK.rf⟩⟩⟩
  obtain ⟨e, hr⟩ := rO a
  rw [e]
  have ko := pl_ok hp
  generalize hP : mR u 2 10 = P at *
  have pn : P ≠ 50 + 2 * x1.toNatClampNeg ∧ P ≠ 51 + 2 * x1.toNatClampNeg := by have := lt_2 ko; omega
  have rn : rnV (mI u P 1) = mI u P 1 := by unfold rnV; rw [if_neg (Int32.not_lt.mpr (Int32.le_trans hm.2 (by decide)))]
  have m7 : (mI u P 1).toNatClampNeg ≤ 7 := by have := tn_le hm.2; have e : (7 : Int32).toNatClampNeg = 7 := (by decide); omega
  have key : ∀ x v, 0 ≤ x → x ≤ mI u P 1 → Cl (qB ++ qR) u v → mR v 2 10 = P → (∀ n k, n ≠ 50 + 2 * x1.toNatClampNeg → n ≠ 51 + 2 * x1.toNatClampNeg → mI v n k = mI u n k) → mI v (50 + 2 * x1.toNatClampNeg) 1 = mI u P 1 → (∀ k, k < 40 → mI v (51 + 2 * x1.toNatClampNeg) k = dooF x.toNatClampNeg (mI u 8) k) → Ws G D_doors 29 [(0, .ref 2), (2, .ref (50 + 2 * x1.toNatClampNeg)), (3, .int x)] [] v (RI fun a u' => Cl (qB ++ qR) u u' ∧ dooV (mI u P 1) x1 = a ∧ rwP u u' (0 ≤ x1 ∧ x1 < 6) x1.toNatClampNeg (mI u P 1) (dooF (mI u P 1).toNatClampNeg (mI u 8))) := by
    refine upI (mI u P 1) _ (fun x ih v h0 hx hl hR hf hz hc => ?_)
    refine sg_D_doors_29 (rL hr).1 (fun hp' => ?_)
    rw [hR, hf _ _ pn.1 pn.2]
    refine ⟨fun q _ => ⟨_, rfl, hl, by unfold dooV; rw [if_pos a], .inl ⟨a, rwS.of hz (by rw [Int32.le_antisymm hx q] at hc; exact hc) (fun n k _ _ n3 n4 => hf n k n3 n4)⟩⟩, fun q => ?_⟩
    have xm := Int32.not_le.mp q
    have x7 : x < 7 := Int32.lt_of_lt_of_le xm hm.2
    have cl' : Cl (qB ++ qR) u (spS v (50 + 2 * x1.toNatClampNeg) x (snD v 7 x)) := hl.cq (cq_spS Cq.rf (rL hr).1 (rM hr))
    have ed : snD v 7 x = mI u 8 x.toNatClampNeg := by
      unfold snD
      rw [if_pos ⟨h0, x7⟩]
      exact hf _ _ (by omega) (by omega)
    rw [spS_at hr h0 (by rw [hz]; exact xm) (Int32.lt_trans x7 (by decide)), ed] at cl' ⊢
    refine ih q _ (by grind) (by grind) cl' hR (fun n k n1 n2 => by rw [mI_ne n2]; exact hf n k n1 n2) (by rw [mI_ne (by omega)]; exact hz) (fun k hk => ?_)
    rw [tn_succ h0 q]
    have hck := hc k hk
    unfold dooF at hck ⊢
    by_cases e : k = x.toNatClampNeg
    · rw [e, mI_eq, if_pos (by omega)]
    · rw [mI_nk e, hck]
      by_cases e2 : k < x.toNatClampNeg
      · rw [if_pos e2, if_pos (by omega)]
      · rw [if_neg e2, if_neg (by omega)]
  refine kV (c_renewy hr hC) (fun v h => ?_)
  obtain ⟨c3, _, mr3, z3, f3, g3⟩ := h
  have z0 : (0 : Int32).toNatClampNeg = 0 := by decide
  exact key 0 v (by decide) hm.1 c3 (by rw [mr3]; exact hP) g3 (by rw [z3, rn]) (fun k hk => by rw [f3 k hk, z0]; unfold dooF; rw [if_neg (by omega)])
theorem e_doorsy {x1 : Int32} (hM : InvM u) : Ws G m_doors 0 [(0, .ref 76), (1, .int x1)] [] u (RI fun a u' => Mo (mB ++ mRw) u u' ∧ dooV (mI u 76 11) x1 = a ∧ rmP u u' (0 ≤ x1 ∧ x1 < 6) x1.toNatClampNeg (mI u 76 11) (dooF (mI u 76 11).toNatClampNeg (mI u 84))) := by
  have m7 := hM.m7
  refine sg_m_doors_0 ⟨fun a => ?_, fun a => ⟨_, rfl, Mo.rf hM, by unfold dooV; rw [if_neg (fun z => a ⟨z.1, by have := z.2; grind⟩)], .inr ⟨fun z => a ⟨z.1, by have := z.2; grind⟩, rmK.rf⟩⟩⟩
  have a6 : 0 ≤ x1 ∧ x1 < 6 := ⟨a.1, by grind⟩
  have m7N : (mI u 76 11).toNatClampNeg ≤ 7 := by have := tn_le m7.2; have e : (7 : Int32).toNatClampNeg = 7 := (by decide); omega
  have key : ∀ x v, 0 ≤ x → x ≤ mI u 76 11 → Mq (mB ++ mRw) u v → (∀ n k, n ≠ 78 → n ≠ 79 → mI v n k = mI u n k) → rmS u v x1.toNatClampNeg (mI u 76 11) (dooF x.toNatClampNeg (mI u 84)) → Ws G m_doors 21 [(0, .ref 76), (1, .int x1), (2, .int x)] [] v (RI fun a u' => Mo (mB ++ mRw) u u' ∧ dooV (mI u 76 11) x1 = a ∧ rmP u u' (0 ≤ x1 ∧ x1 < 6) x1.toNatClampNeg (mI u 76 11) (dooF (mI u 76 11).toNatClampNeg (mI u 84))) := by
    refine upI (mI u 76 11) _ (fun x ih v h0 hx hq hf hS => ?_)
    have e := hq.m
    refine sg_m_doors_21 ⟨fun c => ⟨_, rfl, hq.mo hM, by unfold dooV; rw [if_pos a6, e], .inl ⟨a6, by rw [e] at c; rw [Int32.le_antisymm hx c] at hS; exact hS⟩⟩, fun c => ?_⟩
    rw [e] at c
    have x7 : x < 7 := Int32.lt_of_lt_of_le (Int32.not_le.mp c) m7.2
    have xN : x.toNatClampNeg < 7 := ixn (n := 7) h0 x7 (by decide)
    refine ⟨vin h0 (show (_ : Int32) < 7 by exact x7) (by decide), vin (by grind) (show (_ : Int32) < 240 by grind) (by decide), ?_⟩
    rw [ix40 a ⟨h0, Int32.lt_trans x7 (by decide)⟩, hf 84 _ (by decide) (by decide)]
    refine ih c _ (by grind) (by grind) (hq.pA (by decide)) (fun n k n1 n2 => by rw [mI_ne n2]; exact hf n k n1 n2) ⟨by rw [mI_ne (by decide)]; exact hS.1, fun k hk => ?_, fun q hq' ne => ⟨by rw [mI_ne (by decide)]; exact (hS.2.2 q hq' ne).1, fun k hk => by rw [mI_nk (by omega)]; exact (hS.2.2 q hq' ne).2 k hk⟩⟩
    rw [tn_succ h0 c]
    have hck := hS.2.1 k hk
    unfold dooF at hck ⊢
    by_cases e : k = x.toNatClampNeg
    · rw [e, mI_eq, if_pos (by omega)]
    · rw [mI_nk (by omega), hck]
      by_cases e2 : k < x.toNatClampNeg
      · rw [if_pos e2, if_pos (by omega)]
      · rw [if_neg e2, if_neg (by omega)]
  have z0 : (0 : Int32).toNatClampNeg = 0 := by decide
  refine kI (e_rowy a (Int32.le_trans m7.2 (by decide)) m7.1) (fun r v h => key 0 v (by decide) m7.1 h.2.1 h.2.2.1 ⟨h.2.2.2.1, fun k hk => ?_, h.2.2.2.2.2⟩)
  rw [h.2.2.2.2.1 k hk, z0]; unfold dooF; rw [if_neg (by omega)]
end ROW
