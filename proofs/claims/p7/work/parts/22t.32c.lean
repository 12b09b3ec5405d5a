/-! ===== the rows' sizes on both sides ===== -/
def rRel (u v : pM) (r : Nat) : Prop := (mI u (50 + 2 * r) 1 < 0 ∧ mI v 78 r < 0) ∨ (0 ≤ mI u (50 + 2 * r) 1 ∧ mI u (50 + 2 * r) 1 = mI v 78 r)
def RS (u v : pM) : Prop := ∀ r, r < 6 → rRel u v r
theorem rL {r : Nat} (h : r < 6) : okS (50 + 2 * r) 6 ∧ (S0 (50 + 2 * r + 1)).2 = 40 := (show ∀ r, r < 6 → okS (50 + 2 * r) 6 ∧ (S0 (50 + 2 * r + 1)).2 = 40 from by decide +kernel) r h
theorem rO {x1 : Int32} (h : 0 ≤ x1 ∧ x1 < 6) : roV x1 = 50 + 2 * x1.toNatClampNeg ∧ x1.toNatClampNeg < 6 := by
  have l : x1.toNatClampNeg < 6 := ixn (n := 6) h.1 h.2 (by decide)
  refine ⟨?_, l⟩
  unfold roV
  rw [if_pos h]
  exact (show ∀ t, t < 6 → R0 3 t = 50 + 2 * t from by decide +kernel) _ l
theorem rM {r : Nat} (h : r < 6) : In2 (qB ++ qR) (50 + 2 * r) := (show ∀ t, t < 6 → In2 (qB ++ qR) (50 + 2 * t) from by decide) r h
/-- no size is changed -/
def kS (u u' : pM) : Prop := ∀ r, r < 6 → mI u' (50 + 2 * r) 1 = mI u (50 + 2 * r) 1
def kM (u u' : pM) : Prop := ∀ r, r < 6 → mI u' 78 r = mI u 78 r
theorem kS.cq {L : List Nat} {u u' : pM} (h : Cq L u u') : kS u u' := fun _ hr => cq_size h (rL hr).1
theorem kS.tr {u v w : pM} (h : kS u v) (g : kS v w) : kS u w := fun r hr => (g r hr).trans (h r hr)
theorem kS.dF {u : pM} {f : Int32} : kS u (dF u f) := fun r hr => mI_dF ⟨by omega, by omega⟩
theorem kM.mt {u : pM} {f : Int32} : kM u (mt u f) := fun r hr => mI_mt (by decide)
theorem kM.fp {L : List Nat} {u u' : pM} (h : Fp L u u') (hL : 78 ∉ L) : kM u u' := fun r _ => h 78 r (by rw [cd_n (by decide)]; exact hL)
theorem RS.fc {u u' v : pM} (h : RS u v) (e : kS u u') : RS u' v := fun r hr => by
  have := h r hr
  unfold rRel at *
  rw [e r hr]
  exact this
theorem RS.fm {u v v' : pM} (h : RS u v) (e : kM v v') : RS u v' := fun r hr => by
  have := h r hr
  unfold rRel at *
  rw [e r hr]
  exact this
/-- what a call did to the sizes: of one row, or of none -/
def szP (u u' : pM) (c : Prop) (x1 y : Int32) : Prop := (c ∧ x1.toNatClampNeg < 6 ∧ mI u' (50 + 2 * x1.toNatClampNeg) 1 = y ∧ ∀ r, r < 6 → r ≠ x1.toNatClampNeg → mI u' (50 + 2 * r) 1 = mI u (50 + 2 * r) 1) ∨ (¬ c ∧ kS u u')
def smP (u u' : pM) (c : Prop) (x1 y : Int32) : Prop := (c ∧ mI u' 78 x1.toNatClampNeg = y ∧ ∀ r, r < 6 → r ≠ x1.toNatClampNeg → mI u' 78 r = mI u 78 r) ∨ (¬ c ∧ kM u u')
theorem RS.both {u u' v v' : pM} {c c' : Prop} {x1 y y' : Int32} (h : RS u v) (p : szP u u' c x1 y) (q : smP v v' c' x1 y') (hc : c ↔ c') (hy : c → (y < 0 ∧ y' < 0) ∨ (0 ≤ y ∧ y = y')) : RS u' v' := by
  intro r hr
  have hr' := h r hr
  unfold rRel at *
  rcases p with ⟨p1, _, p2, p3⟩ | ⟨p1, p2⟩
  · rcases q with ⟨q1, q2, q3⟩ | ⟨q1, q2⟩
    · by_cases e : r = x1.toNatClampNeg
      · rw [e, p2, q2]; exact hy p1
      · rw [p3 r hr e, q3 r hr e]; exact hr'
    · exact absurd (hc.mp p1) q1
  · rcases q with ⟨q1, _⟩ | ⟨q1, q2⟩
    · exact absurd (hc.mpr q1) p1
    · rw [p2 r hr, q2 r hr]; exact hr'
theorem szP.post {u v w : pM} {c : Prop} {x1 y : Int32} (h : szP u v c x1 y) (e : kS v w) : szP u w c x1 y := by
  rcases h with ⟨a, l, b, d⟩ | ⟨a, b⟩
  · exact .inl ⟨a, l, (e _ l).trans b, fun r hr ne => (e r hr).trans (d r hr ne)⟩
  · exact .inr ⟨a, b.tr e⟩
theorem szP.pre {u v w : pM} {c : Prop} {x1 y : Int32} (h : szP v w c x1 y) (e : kS u v) : szP u w c x1 y := by
  rcases h with ⟨a, l, b, d⟩ | ⟨a, b⟩
  · exact .inl ⟨a, l, b, fun r hr ne => (d r hr ne).trans (e r hr)⟩
  · exact .inr ⟨a, e.tr b⟩
theorem smP.p79 {u v : pM} {c : Prop} {x1 y z : Int32} {k : Nat} (h : smP u v c x1 y) : smP u (pI v 79 k z) c x1 y := by
  have e : ∀ r, mI (pI v 79 k z) 78 r = mI v 78 r := fun r => mI_ne (by decide)
  rcases h with ⟨a, b, d⟩ | ⟨a, b⟩
  · exact .inl ⟨a, (e _).trans b, fun r hr ne => (e r).trans (d r hr ne)⟩
  · exact .inr ⟨a, fun r hr => (e r).trans (b r hr)⟩
theorem smP.pre {u v w : pM} {c c' : Prop} {x1 y : Int32} (h : smP v w c x1 y) (e : kM u v) (hc : c ↔ c') : smP u w c' x1 y := by
  rcases h with ⟨a, b, d⟩ | ⟨a, b⟩
  · exact .inl ⟨hc.mp a, b, fun r hr ne => (d r hr ne).trans (e r hr)⟩
  · exact .inr ⟨fun z => a (hc.mpr z), fun r hr => (b r hr).trans (e r hr)⟩
def rnV (y : Int32) : Int32 := if 40 < y then 40 else y
def rokC (x1 x2 : Int32) : Prop := (0 ≤ x1 ∧ x1 < 6) ∧ x2 ≤ 40 ∧ 0 ≤ x2
def layV (s x1 x2 : Int32) : Int32 := if 0 ≤ x1 ∧ x1 < 6 then (if 0 ≤ x2 ∧ x2 < s then 1 else -3) else -1
def tearV (s x1 : Int32) : Int32 := if 0 ≤ x1 ∧ x1 < 6 then (if 0 ≤ s then 1 else -3) else -1
def meanV (s x1 : Int32) : Int32 := if 0 ≤ x1 ∧ x1 < 6 then (if 0 < s then 1 else -3) else -1
theorem layV_1 {s x1 x2 : Int32} (h : 0 ≤ layV s x1 x2) : layV s x1 x2 = 1 := by
  unfold layV at *
  split at h
  · rename_i a
    rw [if_pos a]
    split at h
    · rename_i b; rw [if_pos b]
    · exact absurd h (by decide)
  · exact absurd h (by decide)
section SIZ
variable {G : pG} {u : pM}
theorem c_renewr {x1 y z : Int32} {c : Prop} (a : 0 ≤ x1 ∧ x1 < 6) (hC : InvC u) (hc : c) : Ws G Sp_renew 0 [(0, .ref (roV x1)), (1, .int y), (2, .int z)] [] u (RV fun u' => Cl (qB ++ qR) u u' ∧ szP u u' c x1 (rnV y)) := by
  obtain ⟨e, hr⟩ := rO a
  rw [e]
  have k0 := (rL hr).1
  have l := (rL hr).2
  refine sg_Sp_renew_0 k0 (kV (c_fill (L := qB ++ qR) (os_6_0 k0) (by omega) (rM hr).2) (fun v h => ⟨rfl, ((Cl.rf hC).sz k0 (rM hr) ?_).cq h, .inl ⟨hc, hr, ?_, fun r hr' ne => ?_⟩⟩))
  · split
    · exact Int32.le_refl _
    · rename_i q; exact Int32.not_lt.mp q
  · rw [cq_size h k0, mI_eq, l]
    rfl
  · rw [cq_size h (rL hr').1, mI_ne (by omega)]
theorem d_rowx {x1 x2 : Int32} (hC : InvC u) : Ws G D_row 0 [(0, .ref 2), (1, .int x1), (2, .int x2)] [] u (RI fun a u' => Cl (qB ++ qR) u u' ∧ rowV x1 x2 = a ∧ szP u u' (rokC x1 x2) x1 (rnV x2)) := by
  refine sg_D_row_0 ⟨fun a => ⟨fun b => ⟨fun c => kV (c_renewr (c := rokC x1 x2) a hC ⟨a, b, c⟩) (fun v h => ⟨_, rfl, h.1, by rw [rowV, if_pos a, if_pos b, if_pos c], h.2⟩), fun c => ⟨_, rfl, (cq_dF Cq.rf (by decide)).cl hC, by rw [rowV, if_pos a, if_pos b, if_neg c], .inr ⟨fun z => c z.2.2, kS.dF⟩⟩⟩, fun b => ⟨_, rfl, Cl.rf hC, by rw [rowV, if_pos a, if_neg b], .inr ⟨fun z => b z.2.1, fun _ _ => rfl⟩⟩⟩, fun a => ⟨_, rfl, Cl.rf hC, by rw [rowV, if_neg a], .inr ⟨fun z => a z.1, fun _ _ => rfl⟩⟩⟩
theorem e_rowz {x1 x2 : Int32} : Ws G m_row 0 [(0, .ref 76), (1, .int x1), (2, .int x2)] [] u (RI fun a u' => rowV x1 x2 = a ∧ Mq (mB ++ mRw) u u' ∧ smP u u' (rokC x1 x2) x1 x2) := by
  refine sg_m_row_0 ⟨fun a => ⟨fun b => ⟨fun c => ?_, fun c => ⟨_, rfl, ?_, Mq.rf.tm, .inr ⟨fun z => c z.2.2, kM.mt⟩⟩⟩, fun b => ⟨_, rfl, ?_, Mq.rf, .inr ⟨fun z => b z.2.1, fun _ _ => rfl⟩⟩⟩, fun a => ⟨_, rfl, ?_, Mq.rf, .inr ⟨fun z => a ⟨z.1.1, by have := z.1.2; grind⟩, fun _ _ => rfl⟩⟩⟩
  · have a6 : 0 ≤ x1 ∧ x1 < 6 := ⟨a.1, by grind⟩
    have key : ∀ x v, 0 ≤ x → Mq (mB ++ mRw) u v → smP u v (rokC x1 x2) x1 x2 → Ws G m_row 34 [(0, .ref 76), (1, .int x1), (2, .int x2), (3, .int x)] [] v (RI fun a u' => rowV x1 x2 = a ∧ Mq (mB ++ mRw) u u' ∧ smP u u' (rokC x1 x2) x1 x2) := by
      refine upI 40 _ (fun x ih v h0 hq hs => ?_)
      exact sg_m_row_34 ⟨fun _ => ⟨_, rfl, by rw [rowV, if_pos a6, if_pos b, if_pos c], hq, hs⟩, fun d => ⟨vin (by grind) (show (_ : Int32) < 240 by grind) (by decide), ih d _ (by grind) (hq.pA (by decide)) hs.p79⟩⟩
    exact ⟨vin a.1 (show (_ : Int32) < 6 by grind) (by decide), key 0 _ (by decide) (Mq.rf.p78 b) (.inl ⟨⟨a6, b, c⟩, mI_eq, fun r hr ne => mI_nk ne⟩)⟩
  · rw [rowV, if_pos (by grind), if_pos b, if_neg c]
  · rw [rowV, if_pos (by grind), if_neg b]
  · rw [rowV, if_neg (by grind)]
theorem e_rowx {x1 x2 : Int32} (hM : InvM u) : Ws G m_row 0 [(0, .ref 76), (1, .int x1), (2, .int x2)] [] u (RI fun a u' => Mo (mB ++ mRw) u u' ∧ rowV x1 x2 = a ∧ smP u u' (rokC x1 x2) x1 x2) := kI e_rowz (fun a v h => ⟨h.2.1.mo hM, h.1, h.2.2⟩)
/-! lay, at -/
theorem d_layx {x1 x2 x3 : Int32} (hC : InvC u) : Ws G D_lay 0 [(0, .ref 2), (1, .int x1), (2, .int x2), (3, .int x3)] [] u (RI fun a u' => Cl (qB ++ qR) u u' ∧ layV (mI u (50 + 2 * x1.toNatClampNeg) 1) x1 x2 = a ∧ kS u u') := by
  refine sg_D_lay_0 ⟨fun a => ?_, fun a => ⟨_, rfl, Cl.rf hC, by unfold layV; rw [if_neg a], fun _ _ => rfl⟩⟩
  obtain ⟨e, hr⟩ := rO a
  have k0 := (rL hr).1
  have z := (rL hr).2
  have hs := hC.1 _ k0
  rw [z] at hs
  rw [e]
  have bad : ∀ f, ¬ (0 ≤ x2 ∧ x2 < mI u (50 + 2 * x1.toNatClampNeg) 1) → (RI fun a u' => Cl (qB ++ qR) u u' ∧ layV (mI u (50 + 2 * x1.toNatClampNeg) 1) x1 x2 = a ∧ kS u u') (some (.int (-3))) (dF u f) := fun f q => ⟨_, rfl, (cq_dF Cq.rf (by decide)).cl hC, by unfold layV; rw [if_pos a, if_neg q], kS.dF⟩
  refine sg_D_placeFinding_0 k0 ⟨fun b => ⟨fun c => ⟨_, rfl, fun _ => ⟨_, rfl, ((cq_spS Cq.rf k0 (rM hr)).pI wr_D (by decide)).cl hC, ?_, kS.cq ((cq_spS (L := qB ++ qR) Cq.rf k0 (rM hr)).pI wr_D (by decide))⟩, fun q => absurd rfl q⟩, fun c => ⟨_, rfl, fun q => absurd q (by decide), fun _ => bad 2 (fun q => c ⟨q.1, q.2, ?_⟩)⟩⟩, fun b => ⟨_, rfl, fun q => absurd q (by decide), fun _ => bad 1 (fun q => b (Int32.le_of_lt (Int32.lt_of_le_of_lt q.1 q.2)))⟩⟩
  · have c1 : 0 ≤ x2 ∧ x2 < mI u (50 + 2 * x1.toNatClampNeg) 1 ∧ x2 < Int32.ofNat (S0 (50 + 2 * x1.toNatClampNeg + 1)).2 := c
    unfold layV
    rw [if_pos a, if_pos ⟨c1.1, c1.2.1⟩]
  · rw [z]
    exact Int32.lt_of_lt_of_le q.2 hs
theorem d_atx {x1 x2 : Int32} (hC : InvC u) : Ws G D_at 0 [(0, .ref 2), (1, .int x1), (2, .int x2)] [] u (RI fun a u' => Cl qB u u' ∧ layV (mI u (50 + 2 * x1.toNatClampNeg) 1) x1 x2 = a) := by
  refine sg_D_at_0 ⟨fun a => ?_, fun a => ⟨_, rfl, Cl.rf hC, by unfold layV; rw [if_neg a]⟩⟩
  obtain ⟨e, hr⟩ := rO a
  have k0 := (rL hr).1
  have z := (rL hr).2
  have hs := hC.1 _ k0
  rw [z] at hs
  rw [e]
  have bad : ∀ f, ¬ (0 ≤ x2 ∧ x2 < mI u (50 + 2 * x1.toNatClampNeg) 1) → (RI fun a u' => Cl qB u u' ∧ layV (mI u (50 + 2 * x1.toNatClampNeg) 1) x1 x2 = a) (some (.int (-3))) (dF u f) := fun f q => ⟨_, rfl, (cq_dF Cq.rf (by decide)).cl hC, by unfold layV; rw [if_pos a, if_neg q]⟩
  refine sg_D_placeFinding_0 k0 ⟨fun b => ⟨fun c => ⟨_, rfl, fun _ => ⟨_, rfl, (Cq.rf.pI wr_D (by decide)).cl hC, ?_⟩, fun q => absurd rfl q⟩, fun c => ⟨_, rfl, fun q => absurd q (by decide), fun _ => bad 2 (fun q => c ⟨q.1, q.2, ?_⟩)⟩⟩, fun b => ⟨_, rfl, fun q => absurd q (by decide), fun _ => bad 1 (fun q => b (Int32.le_of_lt (Int32.lt_of_le_of_lt q.1 q.2)))⟩⟩
  · have c1 : 0 ≤ x2 ∧ x2 < mI u (50 + 2 * x1.toNatClampNeg) 1 ∧ x2 < Int32.ofNat (S0 (50 + 2 * x1.toNatClampNeg + 1)).2 := c
    unfold layV
    rw [if_pos a, if_pos ⟨c1.1, c1.2.1⟩]
  · rw [z]
    exact Int32.lt_of_lt_of_le q.2 hs
theorem e_atz {x1 x2 : Int32} (hM : InvM u) : Ws G m_at 0 [(0, .ref 76), (1, .int x1), (2, .int x2)] [] u (RI fun a u' => Mq mB u u' ∧ layV (mI u 78 x1.toNatClampNeg) x1 x2 = a ∧ (0 ≤ a → 0 ≤ x1 ∧ x1 ≤ 5 ∧ 0 ≤ x2 ∧ x2 < 40)) := by
  refine sg_m_at_0 (sg_m_askedRow_0 ⟨fun a => ?_, fun a => ⟨_, rfl, fun q => absurd q (by decide), fun _ => ⟨_, rfl, Mq.rf, by unfold layV; rw [if_neg (fun z => a ⟨z.1, by have := z.2; grind⟩)], fun z => absurd z (by decide)⟩⟩⟩)
  have a6 : 0 ≤ x1 ∧ x1 < 6 := ⟨a.1, by grind⟩
  have b78 := hM.b78 x1.toNatClampNeg
  have v6 : vp_in x1 6 := vin a.1 (show (_ : Int32) < 6 by grind) (by decide)
  refine ⟨v6, fun b => ⟨_, rfl, fun _ => ⟨v6, fun d => ⟨vin (by grind) (show (_ : Int32) < 240 by grind) (by decide), _, rfl, Mq.rf.pF (by decide), ?_, fun _ => ⟨a.1, a.2, d.1, by grind⟩⟩, fun d => ⟨_, rfl, Mq.rf.tm, ?_, fun z => absurd z (by decide)⟩⟩, fun q => absurd (by decide) q⟩, fun b => ⟨_, rfl, fun q => absurd q (by decide), fun _ => ⟨_, rfl, Mq.rf.tm, ?_, fun z => absurd z (by decide)⟩⟩⟩
  · unfold layV; rw [if_pos a6, if_pos ⟨d.1, by grind⟩]
  · unfold layV; rw [if_pos a6, if_neg (fun z => d ⟨z.1, by have := z.2; grind⟩)]
  · unfold layV; rw [if_pos a6, if_neg (fun z => b (Int32.le_of_lt (Int32.lt_of_le_of_lt z.1 z.2)))]
theorem e_atx {x1 x2 : Int32} (hM : InvM u) : Ws G m_at 0 [(0, .ref 76), (1, .int x1), (2, .int x2)] [] u (RI fun a u' => Mo mB u u' ∧ layV (mI u 78 x1.toNatClampNeg) x1 x2 = a) := kI (e_atz hM) (fun a v h => ⟨h.1.mo hM, h.2.1⟩)
theorem e_layx {x1 x2 x3 : Int32} (hM : InvM u) : Ws G m_lay 0 [(0, .ref 76), (1, .int x1), (2, .int x2), (3, .int x3)] [] u (RI fun a u' => Mo (mB ++ mRw) u u' ∧ layV (mI u 78 x1.toNatClampNeg) x1 x2 = a ∧ kM u u') := by
  refine sg_m_lay_0 (kI (e_atz hM) (fun a v h => ⟨fun c => ?_, fun c => ⟨_, rfl, h.1.up.mo hM, h.2.1, kM.fp h.1.fp (by decide)⟩⟩))
  obtain ⟨r0, r5, s0, s1⟩ := h.2.2 c
  refine ⟨vin (by grind) (show (_ : Int32) < 240 by grind) (by decide), _, rfl, ((Mq.up (L := mB ++ mRw) h.1).pA (by decide)).mo hM, layV_1 (by rw [h.2.1]; exact c), fun r hr => ?_⟩
  rw [mI_ne (by decide)]
  exact kM.fp h.1.fp (by decide) r hr
/-! tear -/
theorem d_tearx {x1 : Int32} (hC : InvC u) : Ws G D_tear 0 [(0, .ref 2), (1, .int x1)] [] u (RI fun a u' => Cl (qB ++ qR) u u' ∧ tearV (mI u (50 + 2 * x1.toNatClampNeg) 1) x1 = a ∧ szP u u' ((0 ≤ x1 ∧ x1 < 6) ∧ 0 ≤ mI u (50 + 2 * x1.toNatClampNeg) 1) x1 (-1)) := by
  refine sg_D_tear_0 ⟨fun a => ?_, fun a => ⟨_, rfl, Cl.rf hC, by unfold tearV; rw [if_neg a], .inr ⟨fun z => a z.1, fun _ _ => rfl⟩⟩⟩
  obtain ⟨e, hr⟩ := rO a
  rw [e]
  exact ⟨fun c => ⟨_, rfl, (Cl.rf hC).sz (rL hr).1 (rM hr) (Int32.le_trans (Int32.le_trans (by decide) c) (hC.1 _ (rL hr).1)), by unfold tearV; rw [if_pos a, if_pos c], .inl ⟨⟨a, c⟩, hr, mI_eq, fun r hr' ne => mI_ne (by omega)⟩⟩, fun c => ⟨_, rfl, (cq_dF Cq.rf (by decide)).cl hC, by unfold tearV; rw [if_pos a, if_neg c], .inr ⟨fun z => c z.2, kS.dF⟩⟩⟩
theorem e_tearx {x1 : Int32} (hM : InvM u) : Ws G m_tear 0 [(0, .ref 76), (1, .int x1)] [] u (RI fun a u' => Mo (mB ++ mRw) u u' ∧ tearV (mI u 78 x1.toNatClampNeg) x1 = a ∧ smP u u' ((0 ≤ x1 ∧ x1 < 6) ∧ 0 ≤ mI u 78 x1.toNatClampNeg) x1 (-9)) := by
  refine sg_m_tear_0 (sg_m_askedRow_0 ⟨fun a => ?_, fun a => ⟨_, rfl, fun q => absurd q (by decide), fun _ => ⟨_, rfl, Mo.rf hM, by unfold tearV; rw [if_neg (fun z => a ⟨z.1, by have := z.2; grind⟩)], .inr ⟨fun z => a ⟨z.1.1, by have := z.1.2; grind⟩, fun _ _ => rfl⟩⟩⟩⟩)
  have a6 : 0 ≤ x1 ∧ x1 < 6 := ⟨a.1, by grind⟩
  have v6 : vp_in x1 6 := vin a.1 (show (_ : Int32) < 6 by grind) (by decide)
  exact ⟨v6, fun b => ⟨_, rfl, fun _ => ⟨v6, _, rfl, (Mq.rf.p78 (by decide)).mo hM, by unfold tearV; rw [if_pos a6, if_pos b], .inl ⟨⟨a6, b⟩, mI_eq, fun r hr ne => mI_nk ne⟩⟩, fun q => absurd (by decide) q⟩, fun b => ⟨_, rfl, fun q => absurd q (by decide), fun _ => ⟨_, rfl, Mq.rf.tm.mo hM, by unfold tearV; rw [if_pos a6, if_neg b], .inr ⟨fun z => b z.2, kM.mt⟩⟩⟩⟩
/-! mean -/
theorem d_meanx {x1 : Int32} (hC : InvC u) : Ws G D_mean 0 [(0, .ref 2), (1, .int x1)] [] u (RI fun a u' => Cl qB u u' ∧ meanV (mI u (50 + 2 * x1.toNatClampNeg) 1) x1 = a) := by
  refine sg_D_mean_0 ⟨fun a => ?_, fun a => ⟨_, rfl, Cl.rf hC, by unfold meanV; rw [if_neg a]⟩⟩
  obtain ⟨e, hr⟩ := rO a
  rw [e]
  exact ⟨fun b => ⟨fun c => kJe (c_sum (rL hr).1) (fun _ => ⟨i64_ne c, _, rfl, (Cq.rf.pI wr_D (by decide)).cl hC, by unfold meanV; rw [if_pos a, if_pos c]⟩), fun c => ⟨_, rfl, (cq_dF Cq.rf (by decide)).cl hC, by unfold meanV; rw [if_pos a, if_neg c]⟩⟩, fun b => ⟨_, rfl, (cq_dF Cq.rf (by decide)).cl hC, by unfold meanV; rw [if_pos a, if_neg (fun z => b (Int32.le_of_lt z))]⟩⟩
theorem e_meanx {x1 : Int32} (hM : InvM u) : Ws G m_mean 0 [(0, .ref 76), (1, .int x1)] [] u (RI fun a u' => Mo mB u u' ∧ meanV (mI u 78 x1.toNatClampNeg) x1 = a) := by
  refine sg_m_mean_0 (sg_m_askedRow_0 ⟨fun a => ?_, fun a => ⟨_, rfl, fun q => absurd q (by decide), fun _ => ⟨_, rfl, Mo.rf hM, by unfold meanV; rw [if_neg (fun z => a ⟨z.1, by have := z.2; grind⟩)]⟩⟩⟩)
  have a6 : 0 ≤ x1 ∧ x1 < 6 := ⟨a.1, by grind⟩
  have b78 := hM.b78 x1.toNatClampNeg
  have v6 : vp_in x1 6 := vin a.1 (show (_ : Int32) < 6 by grind) (by decide)
  refine ⟨v6, fun b => ⟨_, rfl, fun _ => ?_, fun q => absurd (by decide) q⟩, fun b => ⟨_, rfl, fun q => absurd q (by decide), fun _ => ⟨_, rfl, Mq.rf.tm.mo hM, by unfold meanV; rw [if_pos a6, if_neg (fun z => b (Int32.le_of_lt z))]⟩⟩⟩
  have key : ∀ x (y : Int64), 0 ≤ x → Ws G m_mean 17 [(0, .ref 76), (1, .int x1), (3, .long y), (5, .int x)] [] u (RI fun a u' => Mo mB u u' ∧ meanV (mI u 78 x1.toNatClampNeg) x1 = a) := by
    refine upI (mI u 78 x1.toNatClampNeg) _ (fun x ih y h0 => ?_)
    exact sg_m_mean_17 ⟨v6, fun _ => ⟨v6, fun z => ⟨v6, i64_ne (by grind), _, rfl, (Mq.rf.pF (by decide)).mo hM, by unfold meanV; rw [if_pos a6, if_pos (by grind)]⟩, fun z => ⟨_, rfl, Mq.rf.tm.mo hM, by unfold meanV; rw [if_pos a6, if_neg (by rw [z]; decide)]⟩⟩, fun c => ⟨vin (by grind) (show (_ : Int32) < 240 by grind) (by decide), ih c _ (by grind)⟩⟩
  exact key 0 0 (by decide)
/-! copy -/
def copV (s1 s3 x1 x2 x3 x4 x5 : Int32) : Int32 := if (0 ≤ x1 ∧ x1 < 6) ∧ 0 ≤ x3 ∧ x3 < 6 then (if 0 ≤ x5 ∧ 0 ≤ s1 ∧ 0 ≤ s3 ∧ (0 ≤ x2 ∧ x2 ≤ s1 - x5) ∧ 0 ≤ x4 ∧ x4 ≤ s3 - x5 then 1 else -3) else -1
theorem cpL {a b m : Int32} (ha : 0 ≤ a) (hb : 0 ≤ b) (hm : 0 ≤ m) : lg_cmp (a.toInt64 + b.toInt64) m.toInt64 ≤ 0 ↔ a ≤ m - b := by
  have c1 := Int32.toInt_lt a
  have c2 := Int32.toInt_lt b
  have c3 := Int32.toInt_lt m
  have d0 : (0 : Int32).toInt = 0 := by decide
  have a0 := Int32.le_iff_toInt_le.mp ha
  have b0 := Int32.le_iff_toInt_le.mp hb
  have m0 := Int32.le_iff_toInt_le.mp hm
  have e1 : (a.toInt64 + b.toInt64).toInt = a.toInt + b.toInt := by rw [Int64.toInt_add, Int32.toInt_toInt64, Int32.toInt_toInt64, Int.bmod_eq_of_le (by omega) (by omega)]
  have e2 : (m - b).toInt = m.toInt - b.toInt := by rw [Int32.toInt_sub, Int.bmod_eq_of_le (by omega) (by omega)]
  have e3 : m.toInt64.toInt = m.toInt := Int32.toInt_toInt64 _
  constructor
  · intro h
    have := lg_le h
    exact Int32.le_iff_toInt_le.mpr (by omega)
  · intro h
    have h := Int32.le_iff_toInt_le.mp h
    have nz : ¬ ((a.toInt64 + b.toInt64) > m.toInt64) := fun z => by
      have := Int64.lt_iff_toInt_lt.mp z
      omega
    unfold lg_cmp
    rw [if_neg nz]
    split <;> decide
theorem d_copyx {x1 x2 x3 x4 x5 : Int32} (hC : InvC u) : Ws G D_copy 0 [(0, .ref 2), (1, .int x1), (2, .int x2), (3, .int x3), (4, .int x4), (5, .int x5)] [] u (RI fun a u' => Cl (qB ++ qR) u u' ∧ copV (mI u (50 + 2 * x1.toNatClampNeg) 1) (mI u (50 + 2 * x3.toNatClampNeg) 1) x1 x2 x3 x4 x5 = a ∧ kS u u') := by
  refine sg_D_copy_0 ⟨fun a => ⟨fun b => ?_, fun b => ⟨_, rfl, Cl.rf hC, by unfold copV; rw [if_neg (fun z => b z.2)], fun _ _ => rfl⟩⟩, fun a => ⟨_, rfl, Cl.rf hC, by unfold copV; rw [if_neg (fun z => a z.1)], fun _ _ => rfl⟩⟩
  obtain ⟨e1, h1⟩ := rO a
  obtain ⟨e3, h3⟩ := rO b
  rw [e1, e3]
  have bad : ∀ f, ¬ (0 ≤ x5 ∧ 0 ≤ mI u (50 + 2 * x1.toNatClampNeg) 1 ∧ 0 ≤ mI u (50 + 2 * x3.toNatClampNeg) 1 ∧ (0 ≤ x2 ∧ x2 ≤ mI u (50 + 2 * x1.toNatClampNeg) 1 - x5) ∧ 0 ≤ x4 ∧ x4 ≤ mI u (50 + 2 * x3.toNatClampNeg) 1 - x5) → (RI fun a u' => Cl (qB ++ qR) u u' ∧ copV (mI u (50 + 2 * x1.toNatClampNeg) 1) (mI u (50 + 2 * x3.toNatClampNeg) 1) x1 x2 x3 x4 x5 = a ∧ kS u u') (some (.int (-3))) (dF u f) := fun f q => ⟨_, rfl, (cq_dF Cq.rf (by decide)).cl hC, by unfold copV; rw [if_pos ⟨a, b⟩, if_neg q], kS.dF⟩
  refine ⟨fun c5 => ⟨fun c1 => ⟨fun c3 => ⟨fun d => ⟨fun f => ?_, fun f => bad 2 (fun z => f ⟨z.2.2.2.2.1, z.1, z.2.2.2.2.2⟩)⟩, fun d => bad 2 (fun z => d ⟨z.2.2.2.1.1, z.1, z.2.2.2.1.2⟩)⟩, fun c3 => bad 1 (fun z => c3 z.2.2.1)⟩, fun c1 => bad 1 (fun z => c1 z.2.1)⟩, fun c5 => bad 5 (fun z => c5 z.1)⟩
  have p := cp_ok d c1 (hC.1 _ (rL h1).1) (S0_lt _)
  have q := cp_ok f c3 (hC.1 _ (rL h3).1) (S0_lt _)
  exact ⟨⟨p.1, q.1, p.2.1, p.2.2, q.2.2⟩, _, rfl, (Cq.rf.cpI (fun _ => wr_6a (rL h3).1) (fun _ => cm_6a (rL h3).1 (rM h3))).cl hC, by unfold copV; rw [if_pos ⟨a, b⟩, if_pos ⟨c5, c1, c3, ⟨d.1, d.2.2⟩, f.1, f.2.2⟩], kS.cq (L := qB ++ qR) (Cq.rf.cpI (fun _ => wr_6a (rL h3).1) (fun _ => cm_6a (rL h3).1 (rM h3)))⟩
theorem e_copyx {x1 x2 x3 x4 x5 : Int32} (hM : InvM u) : Ws G m_copy 0 [(0, .ref 76), (1, .int x1), (2, .int x2), (3, .int x3), (4, .int x4), (5, .int x5)] [] u (RI fun a u' => Mo (mB ++ mRw) u u' ∧ copV (mI u 78 x1.toNatClampNeg) (mI u 78 x3.toNatClampNeg) x1 x2 x3 x4 x5 = a ∧ kM u u') := by
  refine sg_m_copy_0 ⟨fun a => ⟨fun b => ?_, fun b => ⟨_, rfl, Mo.rf hM, by unfold copV; rw [if_neg (fun z => b ⟨z.2.1, by have := z.2.2; grind⟩)], fun _ _ => rfl⟩⟩, fun a => ⟨_, rfl, Mo.rf hM, by unfold copV; rw [if_neg (fun z => a ⟨z.1.1, by have := z.1.2; grind⟩)], fun _ _ => rfl⟩⟩
  have a6 : 0 ≤ x1 ∧ x1 < 6 := ⟨a.1, by grind⟩
  have b6 : 0 ≤ x3 ∧ x3 < 6 := ⟨b.1, by grind⟩
  have v1 : vp_in x1 6 := vin a.1 (show (_ : Int32) < 6 by grind) (by decide)
  have v3 : vp_in x3 6 := vin b.1 (show (_ : Int32) < 6 by grind) (by decide)
  have bad : ∀ f, ¬ (0 ≤ x5 ∧ 0 ≤ mI u 78 x1.toNatClampNeg ∧ 0 ≤ mI u 78 x3.toNatClampNeg ∧ (0 ≤ x2 ∧ x2 ≤ mI u 78 x1.toNatClampNeg - x5) ∧ 0 ≤ x4 ∧ x4 ≤ mI u 78 x3.toNatClampNeg - x5) → (RI fun a u' => Mo (mB ++ mRw) u u' ∧ copV (mI u 78 x1.toNatClampNeg) (mI u 78 x3.toNatClampNeg) x1 x2 x3 x4 x5 = a ∧ kM u u') (some (.int (-3))) (mt u f) := fun f q => ⟨_, rfl, Mq.rf.tm.mo hM, by unfold copV; rw [if_pos ⟨a6, b6⟩, if_neg q], kM.mt⟩
  refine ⟨fun c => ⟨v1, fun d => bad 1 (fun z => absurd d (Int32.not_lt.mpr z.2.1)), fun d => ⟨v3, fun f => ⟨fun g => bad 2 (fun z => absurd g (Int32.not_lt.mpr z.2.2.2.1.1)), fun g => ⟨fun h => bad 2 (fun z => absurd h (Int32.not_lt.mpr z.2.2.2.2.1)), fun h => ⟨v1, fun i => bad 2 (fun z => absurd i (Int32.not_lt.mpr ((cpL z.2.2.2.1.1 z.1 z.2.1).mpr z.2.2.2.1.2))), fun i => ⟨v3, fun j => ?_, fun j => bad 2 (fun z => j ((cpL z.2.2.2.2.1 z.1 z.2.2.1).mpr z.2.2.2.2.2))⟩⟩⟩⟩, fun f => bad 1 (fun z => f z.2.2.1)⟩⟩, fun c => bad 5 (fun z => c z.1)⟩
  have p := cp2 (Int32.not_lt.mp g) c (hM.b78 (x1 : Int32).toNatClampNeg) (Int32.not_lt.mp i)
  have q := cp2 (Int32.not_lt.mp h) c (hM.b78 (x3 : Int32).toNatClampNeg) j
  have val : copV (mI u 78 x1.toNatClampNeg) (mI u 78 x3.toNatClampNeg) x1 x2 x3 x4 x5 = 1 := by
    unfold copV
    rw [if_pos ⟨a6, b6⟩, if_pos ⟨c, Int32.not_lt.mp d, f, ⟨Int32.not_lt.mp g, (cpL (Int32.not_lt.mp g) c (Int32.not_lt.mp d)).mp (Int32.not_lt.mp i)⟩, Int32.not_lt.mp h, (cpL (Int32.not_lt.mp h) c f).mp j⟩]
  have k2 : ∀ x v, 0 ≤ x → Mq (mB ++ [79]) u v → Ws G m_copy 136 [(0, .ref 76), (3, .int x3), (4, .int x4), (5, .int x5), (6, .int x)] [] v (RI fun a u' => Mo (mB ++ mRw) u u' ∧ copV (mI u 78 x1.toNatClampNeg) (mI u 78 x3.toNatClampNeg) x1 x2 x3 x4 x5 = a ∧ kM u u') := by
    refine upI x5 _ (fun x ih v h0 hq => ?_)
    exact sg_m_copy_136 ⟨fun _ => ⟨_, rfl, (Mq.up (L := mB ++ mRw) hq).mo hM, val, kM.fp hq.fp (by decide)⟩, fun cx => ⟨(vin (by grind) (show (_ : Int32) < 40 by grind) (by decide)), (vin (by grind) (show (_ : Int32) < 240 by grind) (by decide)), ih cx _ (by grind) (hq.pA (by decide))⟩⟩
  have k1 : ∀ x v, 0 ≤ x → Mq (mB ++ [79]) u v → Ws G m_copy 104 [(0, .ref 76), (1, .int x1), (2, .int x2), (3, .int x3), (4, .int x4), (5, .int x5), (6, .int x)] [] v (RI fun a u' => Mo (mB ++ mRw) u u' ∧ copV (mI u 78 x1.toNatClampNeg) (mI u 78 x3.toNatClampNeg) x1 x2 x3 x4 x5 = a ∧ kM u u') := by
    refine upI x5 _ (fun x ih v h0 hq => ?_)
    exact sg_m_copy_104 ⟨fun _ => k2 0 v (by decide) hq, fun cx => ⟨(vin (by grind) (show (_ : Int32) < 240 by grind) (by decide)), (vin (by grind) (show (_ : Int32) < 40 by grind) (by decide)), ih cx _ (by grind) (hq.pA (by decide))⟩⟩
  exact k1 0 u (by decide) Mq.rf
/-! doors, image -/
theorem pl_kept {L : List Nat} {w : pM} {k : Nat} (h : Cl L u w) (h0 : 0 ∉ L) (hp : pl (mR u 2 10)) (hL : 22 ∉ L ∧ 36 ∉ L) : mI w (mR w 2 10) k = mI u (mR u 2 10) k := by
  rw [h.2.2.2 h0 10]
  refine h.fp _ _ ?_
  rw [cd_k (pl_ok hp) (by decide) (by have := lt_2 (pl_ok hp); omega)]
  rcases hp with z | z <;> rw [z]
  · exact hL.1
  · exact hL.2
theorem d_doorsz {x1 : Int32} (hC : InvC u) : Ws G D_doors 0 [(0, .ref 2), (1, .int x1)] [] u (RI fun a u' => Cl (qB ++ qR) u u' ∧ dooV (mI u (mR u 2 10) 1) x1 = a ∧ szP u u' (0 ≤ x1 ∧ x1 < 6) x1 (rnV (mI u (mR u 2 10) 1))) := by
  have key : ∀ o, okS o 6 → In2 (qB ++ qR) o → ∀ w, Cl (qB ++ qR) u w → szP u w (0 ≤ x1 ∧ x1 < 6) x1 (rnV (mI u (mR u 2 10) 1)) → (0 ≤ x1 ∧ x1 < 6) → ∀ x v, Cq (qB ++ qR) w v → Ws G D_doors 29 [(0, .ref 2), (2, .ref o), (3, .int x)] [] v (RI fun a u' => Cl (qB ++ qR) u u' ∧ dooV (mI u (mR u 2 10) 1) x1 = a ∧ szP u u' (0 ≤ x1 ∧ x1 < 6) x1 (rnV (mI u (mR u 2 10) 1))) := by
    intro o ho mo w hl hz hx
    refine upI (mI w (mR w 2 10) 1) _ (fun x ih v hq => ?_)
    refine sg_D_doors_29 ho (fun hp => ⟨fun _ _ => ⟨_, rfl, hl.cq hq, ?_, hz.post (kS.cq hq)⟩, fun c => ih (by rw [cq_pl hq hp] at c; exact c) _ (cq_spS hq ho mo)⟩)
    have hp0 : pl (mR u 2 10) := by
      have r := hl.2.2.2 (by decide) 10
      rw [hq.2.1, r] at hp; exact hp
    unfold dooV
    rw [if_pos hx, cq_pl hq hp, pl_kept hl (by decide) hp0 (by decide)]
  exact sg_D_doors_0 ⟨fun a hp => kV (c_renewr (c := 0 ≤ x1 ∧ x1 < 6) a hC a) (fun v h => key _ (roV_ok _) (roV_m (by decide)) v h.1 h.2 a 0 v Cq.rf), fun a => ⟨_, rfl, Cl.rf hC, by unfold dooV; rw [if_neg a], .inr ⟨a, fun _ _ => rfl⟩⟩⟩
theorem e_doorsz {x1 : Int32} (hM : InvM u) : Ws G m_doors 0 [(0, .ref 76), (1, .int x1)] [] u (RI fun a u' => Mo (mB ++ mRw) u u' ∧ dooV (mI u 76 11) x1 = a ∧ smP u u' (0 ≤ x1 ∧ x1 < 6) x1 (mI u 76 11)) := by
  have m7 := hM.m7
  have key : 0 ≤ x1 ∧ x1 ≤ 5 → ∀ x v, 0 ≤ x → Mq (mB ++ mRw) u v → smP u v (0 ≤ x1 ∧ x1 < 6) x1 (mI u 76 11) → Ws G m_doors 21 [(0, .ref 76), (1, .int x1), (2, .int x)] [] v (RI fun a u' => Mo (mB ++ mRw) u u' ∧ dooV (mI u 76 11) x1 = a ∧ smP u u' (0 ≤ x1 ∧ x1 < 6) x1 (mI u 76 11)) := by
    intro a
    refine upI (mI u 76 11) _ (fun x ih v h0 hq hz => ?_)
    have e := hq.m
    refine sg_m_doors_21 ⟨fun _ => ⟨_, rfl, hq.mo hM, by unfold dooV; rw [if_pos ⟨a.1, by grind⟩, e], hz⟩, fun c => ?_⟩
    rw [e] at c
    exact ⟨vin h0 (show (_ : Int32) < 7 by grind) (by decide), vin (by grind) (show (_ : Int32) < 240 by grind) (by decide), ih c _ (by grind) (hq.pA (by decide)) hz.p79⟩
  refine sg_m_doors_0 ⟨fun a => kI e_rowz (fun _ v h => key a 0 v (by decide) h.2.1.up (h.2.2.pre (fun _ _ => rfl) ⟨fun z => z.1, fun z => ⟨z, ?_, m7.1⟩⟩)), fun a => ⟨_, rfl, Mo.rf hM, by unfold dooV; rw [if_neg (fun z => a ⟨z.1, by have := z.2; grind⟩)], .inr ⟨fun z => a ⟨z.1, by have := z.2; grind⟩, fun _ _ => rfl⟩⟩⟩
  exact Int32.le_trans m7.2 (by decide)
def imaV (n m x1 : Int32) : Int32 := if 0 ≤ x1 ∧ x1 < 6 then (if 0 < n then m + 2 else -4) else -1
theorem d_imagex {x1 : Int32} (hC : InvC u) : Ws G D_image 0 [(0, .ref 2), (1, .int x1)] [] u (RI fun a u' => Cl (qB ++ qR) u u' ∧ imaV (mI u (mR u 2 10) 0) (mI u (mR u 2 10) 1) x1 = a ∧ szP u u' ((0 ≤ x1 ∧ x1 < 6) ∧ 0 < mI u (mR u 2 10) 0) x1 (rnV (mI u (mR u 2 10) 1 + 2))) := by
  have key : ∀ o, okS o 6 → In2 (qB ++ qR) o → ∀ w, Cl (qB ++ qR) u w → szP u w ((0 ≤ x1 ∧ x1 < 6) ∧ 0 < mI u (mR u 2 10) 0) x1 (rnV (mI u (mR u 2 10) 1 + 2)) → (0 ≤ x1 ∧ x1 < 6) → 0 < mI u (mR u 2 10) 0 → ∀ x v, Cq (qB ++ qR) w v → Ws G D_image 68 [(0, .ref 2), (2, .ref o), (3, .int x)] [] v (RI fun a u' => Cl (qB ++ qR) u u' ∧ imaV (mI u (mR u 2 10) 0) (mI u (mR u 2 10) 1) x1 = a ∧ szP u u' ((0 ≤ x1 ∧ x1 < 6) ∧ 0 < mI u (mR u 2 10) 0) x1 (rnV (mI u (mR u 2 10) 1 + 2))) := by
    intro o ho mo w hl hz hx hn
    refine upI (mI w (mR w 2 10) 1) _ (fun x ih v hq => ?_)
    refine sg_D_image_68 ho (fun hp => ⟨fun _ _ => ⟨_, rfl, hl.cq hq, ?_, hz.post (kS.cq hq)⟩, fun c => ih (by rw [cq_pl hq hp] at c; exact c) _ (cq_spS hq ho mo)⟩)
    have hp0 : pl (mR u 2 10) := by
      have r := hl.2.2.2 (by decide) 10
      rw [hq.2.1, r] at hp; exact hp
    unfold imaV
    rw [if_pos hx, if_pos hn, cq_pl hq hp, pl_kept hl (by decide) hp0 (by decide)]
  exact sg_D_image_0 ⟨fun a _ => ⟨fun b _ => kV (c_renewr (c := (0 ≤ x1 ∧ x1 < 6) ∧ 0 < mI u (mR u 2 10) 0) a hC ⟨a, b⟩) (fun v h => key _ (roV_ok _) (roV_m (by decide)) v h.1 h.2 a b 0 _ (cq_spS (cq_spS Cq.rf (roV_ok _) (roV_m (by decide))) (roV_ok _) (roV_m (by decide)))), fun b => ⟨_, rfl, Cl.rf hC, by unfold imaV; rw [if_pos a, if_neg b], .inr ⟨fun z => b z.2, fun _ _ => rfl⟩⟩⟩, fun a => ⟨_, rfl, Cl.rf hC, by unfold imaV; rw [if_neg a], .inr ⟨fun z => a z.1, fun _ _ => rfl⟩⟩⟩
theorem e_imagex {x1 : Int32} (hM : InvM u) : Ws G m_image 0 [(0, .ref 76), (1, .int x1)] [] u (RI fun a u' => Mo (mB ++ mRw) u u' ∧ imaV (mI u 76 10) (mI u 76 11) x1 = a ∧ smP u u' ((0 ≤ x1 ∧ x1 < 6) ∧ 0 < mI u 76 10) x1 (mI u 76 11 + 2)) := by
  have m7 := hM.m7
  have n30 := hM.n30
  have key : 0 ≤ x1 ∧ x1 ≤ 5 → 0 < mI u 76 10 → ∀ x v, 0 ≤ x → Mq (mB ++ mRw) u v → smP u v ((0 ≤ x1 ∧ x1 < 6) ∧ 0 < mI u 76 10) x1 (mI u 76 11 + 2) → Ws G m_image 53 [(0, .ref 76), (1, .int x1), (2, .int x)] [] v (RI fun a u' => Mo (mB ++ mRw) u u' ∧ imaV (mI u 76 10) (mI u 76 11) x1 = a ∧ smP u u' ((0 ≤ x1 ∧ x1 < 6) ∧ 0 < mI u 76 10) x1 (mI u 76 11 + 2)) := by
    intro h1 hn
    refine upI (mI u 76 11) _ (fun x ih v h0 hq hz => ?_)
    have e := hq.m
    refine sg_m_image_53 ⟨fun _ => ⟨_, rfl, hq.mo hM, by unfold imaV; rw [if_pos ⟨h1.1, by grind⟩, if_pos hn, e], hz⟩, fun c => ?_⟩
    rw [e] at c
    exact ⟨(vin (by grind) (show (_ : Int32) < 7 by grind) (by decide)), (vin (by grind) (show (_ : Int32) < 240 by grind) (by decide)), ih c _ (by grind) (hq.pA (by decide)) hz.p79⟩
  refine sg_m_image_0 ⟨fun a => ⟨fun b => ?_, fun b => ⟨_, rfl, Mo.rf hM, ?_, .inr ⟨fun z => ?_, fun _ _ => rfl⟩⟩⟩, fun a => ⟨_, rfl, Mo.rf hM, ?_, .inr ⟨fun z => a ⟨z.1.1, by have := z.1.2; grind⟩, fun _ _ => rfl⟩⟩⟩
  · have hn : 0 < mI u 76 10 := by grind
    have m40 : mI u 76 11 + 2 ≤ 40 ∧ 0 ≤ mI u 76 11 + 2 := by grind
    exact kI e_rowz (fun _ v h => ⟨(vin (by grind) (show (_ : Int32) < 240 by grind) (by decide)), (vin (by grind) (show (_ : Int32) < 240 by grind) (by decide)), key a hn 0 _ (by decide) ((h.2.1.pA (by decide)).pA (by decide)) ((h.2.2.pre (fun _ _ => rfl) ⟨fun z => ⟨z.1, hn⟩, fun z => ⟨z.1, m40⟩⟩).p79.p79)⟩)
  · unfold imaV; rw [if_pos ⟨a.1, by grind⟩, b, if_neg (by decide)]
  · have := z.2; rw [b] at this; exact absurd this (by decide)
  · unfold imaV; rw [if_neg (fun z => a ⟨z.1, by have := z.2; grind⟩)]
end SIZ
