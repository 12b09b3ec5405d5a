/-! ===== the square's numbers on both sides ===== -/
def RN (u v : pM) : Prop := mR u 2 10 ≠ mR u 2 11 ∧ (pl (mR u 2 10) ∧ pl (mR u 2 11)) ∧ mI u (mR u 2 10) 0 = mI v 76 10 ∧ mI u (mR u 2 10) 1 = mI v 76 11
theorem RN.fc {u u' v : pM} (h : RN u v) (hr : ∀ k, mR u' 2 k = mR u 2 k) (e : ∀ k, mI u' (mR u 2 10) k = mI u (mR u 2 10) k) : RN u' v := by
  unfold RN at *
  rw [hr, hr, e, e]
  exact h
theorem RN.fm {u v v' : pM} (h : RN u v) (e : mI v' 76 10 = mI v 76 10 ∧ mI v' 76 11 = mI v 76 11) : RN u v' := by
  unfold RN at *
  rw [e.1, e.2]
  exact h
theorem RN.cl {L : List Nat} {u u1 v : pM} (h : RN u v) (q : Cl L u u1) (h0 : 0 ∉ L) (hL : mR u 2 10 ∉ L) : RN u1 v := h.fc (q.2.2.2 h0) (fun k => q.fp _ _ (by
  have ko := pl_ok h.2.1.1
  rw [cd_k ko (by decide) (by have := lt_2 ko; omega)]
  exact hL))
theorem RN.mo {L : List Nat} {u v v1 : pM} (h : RN u v) (q : Mo L v v1) (hL : 210 ∉ L ∧ 211 ∉ L) : RN u v1 := h.fm ⟨q.fp _ _ hL.1, q.fp _ _ hL.2⟩
/-- the class's cells and references are the same in u and u', the reference's in v and v' -/
theorem RN.cc {u u' v : pM} (h : RN u v) (hr : mR u' = mR u) (e : ∀ n k, n < 76 → mI u' n k = mI u n k) : RN u' v := h.fc (fun k => by rw [hr]) (fun k => e _ _ (by have := lt_2 (pl_ok h.2.1.1); omega))
section RNX
variable {G : pG} {u : pM}
/-- about: whose answer needs many alone -/
def aboV (m x1 x2 : Int32) : Int32 := if (0 ≤ x1 ∧ x1 < m ∧ x1 < 7) ∧ 0 ≤ x2 ∧ x2 ≤ 5 then 1 else -1
theorem d_aboutx {x1 x2 : Int32} (hC : InvC u) : Ws G D_about 0 [(0, .ref 2), (1, .int x1), (2, .int x2)] [] u (RI fun a u' => Cl qB u u' ∧ aboV (mI u (mR u 2 10) 1) x1 x2 = a) := by
  refine sg_D_about_0 (fun _ => ⟨fun a => ⟨fun b => ⟨_, rfl, Cl.rf hC, ?_⟩, fun b => ⟨fun c => kIe h_trait (fun a6 => ⟨_, rfl, (Cq.rf.pI wr_D (by decide)).cl hC, ?_⟩), fun c => ⟨_, rfl, Cl.rf hC, ?_⟩⟩⟩, fun a => ⟨_, rfl, Cl.rf hC, ?_⟩⟩)
  · unfold aboV; rw [if_neg (fun z => absurd b (Int32.not_lt.mpr z.2.1))]
  · unfold aboV; rw [if_pos ⟨a, Int32.not_lt.mp b, c⟩]
  · unfold aboV; rw [if_neg (fun z => c z.2.2)]
  · unfold aboV; rw [if_neg (fun z => a z.1)]
theorem e_aboutx {x1 x2 : Int32} (hM : InvM u) : Ws G m_about 0 [(0, .ref 76), (1, .int x1), (2, .int x2)] [] u (RI fun a u' => Mo mB u u' ∧ aboV (mI u 76 11) x1 x2 = a) := by
  have m7 := hM.m7
  refine sg_m_about_0 ⟨fun a => ⟨fun b => kIe (e_aboutOf hM (by grind) b) (fun _ => ⟨_, rfl, (Mq.rf.pF (by decide)).mo hM, ?_⟩), fun b => ⟨_, rfl, Mo.rf hM, ?_⟩⟩, fun a => ⟨_, rfl, Mo.rf hM, ?_⟩⟩
  · unfold aboV; rw [if_pos ⟨⟨a.1, by grind, by grind⟩, b⟩]
  · unfold aboV; rw [if_neg (fun z => b z.2)]
  · unfold aboV; rw [if_neg (fun z => a ⟨z.1.1, by have := z.1.2.1; grind⟩)]
/-- doors: the row apart, whose answer needs many alone -/
def dooV (m x1 : Int32) : Int32 := if 0 ≤ x1 ∧ x1 < 6 then m else -1
theorem d_doorsx {x1 : Int32} (hC : InvC u) : Ws G D_doors 0 [(0, .ref 2), (1, .int x1)] [] u (RI fun a u' => Cl (qB ++ qR) u u' ∧ dooV (mI u (mR u 2 10) 1) x1 = a) := by
  have key : ∀ o, okS o 6 → In2 (qB ++ qR) o → ∀ w, Cl (qB ++ qR) u w → (pl (mR u 2 10) → mI w (mR w 2 10) 1 = mI u (mR u 2 10) 1) → (0 ≤ x1 ∧ x1 < 6) → ∀ x v, Cq (qB ++ qR) w v → Ws G D_doors 29 [(0, .ref 2), (2, .ref o), (3, .int x)] [] v (RI fun a u' => Cl (qB ++ qR) u u' ∧ dooV (mI u (mR u 2 10) 1) x1 = a) := by
    intro o ho mo w hl hw hx
    refine upI (mI w (mR w 2 10) 1) _ (fun x ih v hq => ?_)
    refine sg_D_doors_29 ho (fun hp => ⟨fun _ _ => ⟨_, rfl, hl.cq hq, ?_⟩, fun c => ih (by rw [cq_pl hq hp] at c; exact c) _ (cq_spS hq ho mo)⟩)
    have hp0 : pl (mR u 2 10) := by
      have r := hl.2.2.2 (by decide) 10
      rw [hq.2.1, r] at hp; exact hp
    unfold dooV
    rw [if_pos hx, cq_pl hq hp, hw hp0]
  refine sg_D_doors_0 ⟨fun a hp => kV (c_renew (L := qB ++ qR) (roV_ok _) (roV_m (by decide)) hC) (fun v h => key _ (roV_ok _) (roV_m (by decide)) v h (fun hp => ?_) a 0 v Cq.rf), fun a => ⟨_, rfl, Cl.rf hC, by unfold dooV; rw [if_neg a]⟩⟩
  have r := h.2.2.2 (by decide) 10
  rw [r]
  refine h.fp _ _ ?_
  rw [cd_k (pl_ok hp) (by decide) (by have := lt_2 (pl_ok hp); omega)]
  rcases hp with z | z <;> rw [z] <;> decide
theorem e_doorsx {x1 : Int32} (hM : InvM u) : Ws G m_doors 0 [(0, .ref 76), (1, .int x1)] [] u (RI fun a u' => Mo (mB ++ mRw) u u' ∧ dooV (mI u 76 11) x1 = a) := by
  have m7 := hM.m7
  have key : 0 ≤ x1 ∧ x1 ≤ 5 → ∀ x v, 0 ≤ x → Mq (mB ++ mRw) u v → Ws G m_doors 21 [(0, .ref 76), (1, .int x1), (2, .int x)] [] v (RI fun a u' => Mo (mB ++ mRw) u u' ∧ dooV (mI u 76 11) x1 = a) := by
    intro a
    refine upI (mI u 76 11) _ (fun x ih v h0 hq => ?_)
    have e := hq.m
    refine sg_m_doors_21 ⟨fun _ => ⟨_, rfl, hq.mo hM, by unfold dooV; rw [if_pos ⟨a.1, by grind⟩, e]⟩, fun c => ?_⟩
    rw [e] at c
    exact ⟨vin h0 (show (_ : Int32) < 7 by grind) (by decide), vin (by grind) (show (_ : Int32) < 240 by grind) (by decide), ih c _ (by grind) (hq.pA (by decide))⟩
  exact sg_m_doors_0 ⟨fun a => kI e_row (fun _ v h => key a 0 v (by decide) h.2.up), fun a => ⟨_, rfl, Mo.rf hM, by unfold dooV; rw [if_neg (fun z => a ⟨z.1, by grind⟩)]⟩⟩
end RNX
