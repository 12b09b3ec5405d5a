section GON
variable {G : pG} {u : pM}
theorem d_goney {x1 : Int32} (hC : InvC u) (hm : 0 ≤ mI u (mR u 2 10) 1 ∧ mI u (mR u 2 10) 1 ≤ 7) : Ws G D_gone 0 [(0, .ref 2), (1, .int x1)] [] u (RI fun a u' => Cl (qB ++ qN) u u' ∧ ((gonK (mI u (mR u 2 10) 0) (mI u (mR u 2 10) 1) (mI u (50 + 2 * x1.toNatClampNeg) 1) x1 (mI u (51 + 2 * x1.toNatClampNeg)) ∧ a = mI u (51 + 2 * x1.toNatClampNeg) 0 ∧ mI u' 7 0 = mI u (51 + 2 * x1.toNatClampNeg) 0 ∧ mI u' 7 1 = mI u (51 + 2 * x1.toNatClampNeg) 1 ∧ ∀ s, s < (mI u (mR u 2 10) 1).toNatClampNeg → mI u' 8 s = mI u (51 + 2 * x1.toNatClampNeg) (2 + s)) ∨ (¬ gonK (mI u (mR u 2 10) 0) (mI u (mR u 2 10) 1) (mI u (50 + 2 * x1.toNatClampNeg) 1) x1 (mI u (51 + 2 * x1.toNatClampNeg)) ∧ a = (if 0 ≤ x1 ∧ x1 < 6 then (if 0 < mI u (mR u 2 10) 0 then -3 else -4) else -1) ∧ nwS u u' (mI u 7 1)))) := by
  refine sg_D_gone_0 ⟨fun a hp => ⟨fun b => ?_, fun b => ⟨_, rfl, Cl.rf hC, .inr ⟨fun z => b z.2.1, by rw [if_pos a, if_neg b], rfl, rfl, fun _ => rfl⟩⟩⟩, fun a => ⟨_, rfl, Cl.rf hC, .inr ⟨fun z => a z.1, by rw [if_neg a], rfl, rfl, fun _ => rfl⟩⟩⟩
  obtain ⟨er, hr⟩ := rO a
  rw [er]
  have ko := pl_ok hp
  refine kI (c_imageFindingx hr hC b hm) (fun g v h => ?_)
  obtain ⟨rfl, h⟩ := h
  refine ⟨fun c => ?_, fun c => ?_⟩
  rotate_left
  · refine ⟨_, rfl, (cq_dF Cq.rf (by decide)).cl hC, .inr ⟨fun z => ?_, by rw [if_pos a, if_pos b], mI_dF (by decide), mI_dF (by decide), fun k => mI_dF (by decide)⟩⟩
    rcases h with ⟨z', _⟩ | ⟨_, z'⟩
    · exact c z'
    · exact z' z.2.2
  have hk : mI u (50 + 2 * x1.toNatClampNeg) 1 = mI u (mR u 2 10) 1 + 2 ∧ imK (mI u (mR u 2 10) 0) (mI u (mR u 2 10) 1) (mI u (51 + 2 * x1.toNatClampNeg)) := by
    rcases h with ⟨_, z⟩ | ⟨z, _⟩
    · exact z
    · exact absurd c z
  have z0 : (0 : Int32).toNatClampNeg = 0 := by decide
  have z1 : (1 : Int32).toNatClampNeg = 1 := by decide
  generalize hP : mR u 2 10 = P at *
  have e0 : spG u (50 + 2 * x1.toNatClampNeg) 0 = mI u (51 + 2 * x1.toNatClampNeg) 0 := by rw [spG_at hr (by decide) (by rw [hk.1]; grind) (by decide), z0]
  rw [e0]
  have e1 : spG (pI u 7 0 (mI u (51 + 2 * x1.toNatClampNeg) 0)) (50 + 2 * x1.toNatClampNeg) 1 = mI u (51 + 2 * x1.toNatClampNeg) 1 := by rw [spG_at hr (by decide) (by rw [mI_ne (by omega), hk.1]; grind) (by decide), z1, mI_ne (by omega)]
  rw [e1]
  have pn : P ≠ 7 ∧ P ≠ 8 := by rcases hp with z | z <;> omega
  have m7 : (mI u P 1).toNatClampNeg ≤ 7 := by have := tn_le hm.2; have e : (7 : Int32).toNatClampNeg = 7 := (by decide); omega
  have key : ∀ x v, 0 ≤ x → x ≤ mI u P 1 → Cl (qB ++ qN) u v → mR v 2 10 = P → (∀ n k, n ≠ 7 → n ≠ 8 → mI v n k = mI u n k) → mI v 7 0 = mI u (51 + 2 * x1.toNatClampNeg) 0 → mI v 7 1 = mI u (51 + 2 * x1.toNatClampNeg) 1 → (∀ s, s < x.toNatClampNeg → mI v 8 s = mI u (51 + 2 * x1.toNatClampNeg) (2 + s)) → Ws G D_gone 71 [(0, .ref 2), (2, .ref (50 + 2 * x1.toNatClampNeg)), (4, .int x)] [] v (RI fun a u' => Cl (qB ++ qN) u u' ∧ ((gonK (mI u P 0) (mI u P 1) (mI u (50 + 2 * x1.toNatClampNeg) 1) x1 (mI u (51 + 2 * x1.toNatClampNeg)) ∧ a = mI u (51 + 2 * x1.toNatClampNeg) 0 ∧ mI u' 7 0 = mI u (51 + 2 * x1.toNatClampNeg) 0 ∧ mI u' 7 1 = mI u (51 + 2 * x1.toNatClampNeg) 1 ∧ ∀ s, s < (mI u P 1).toNatClampNeg → mI u' 8 s = mI u (51 + 2 * x1.toNatClampNeg) (2 + s)) ∨ (¬ gonK (mI u P 0) (mI u P 1) (mI u (50 + 2 * x1.toNatClampNeg) 1) x1 (mI u (51 + 2 * x1.toNatClampNeg)) ∧ a = (if 0 ≤ x1 ∧ x1 < 6 then (if 0 < mI u P 0 then -3 else -4) else -1) ∧ nwS u u' (mI u 7 1)))) := by
    refine upI (mI u P 1) _ (fun x ih v h0 hx hl hR hf w0 w1 hd => ?_)
    refine sg_D_gone_71 (rL hr).1 (fun hp' => ?_)
    rw [hR, hf _ _ pn.1 pn.2]
    refine ⟨fun q => ⟨_, rfl, hl, .inl ⟨⟨a, b, hk.1, hk.2⟩, w0, w0, w1, by rw [Int32.le_antisymm hx q] at hd; exact hd⟩⟩, fun q => ?_⟩
    have xm := Int32.not_le.mp q
    have x7 : x < 7 := Int32.lt_of_lt_of_le xm hm.2
    have xN : x.toNatClampNeg < 7 := ixn (n := 7) h0 x7 (by decide)
    have k2 := (show ∀ i, i < 7 → (Int32.ofNat i + 2).toNatClampNeg = 2 + i from by decide) _ xN
    rw [i32_nat h0] at k2
    have eg : spG v (50 + 2 * x1.toNatClampNeg) (x + 2) = mI u (51 + 2 * x1.toNatClampNeg) (2 + x.toNatClampNeg) := by rw [spG_at hr (by clear ih; grind) (by rw [hf _ _ (by omega) (by omega), hk.1]; clear ih; grind) (by clear ih; grind), k2, hf _ _ (by omega) (by omega)]
    have cl' : Cl (qB ++ qN) u (snS v 7 x (spG v (50 + 2 * x1.toNatClampNeg) (x + 2))) := hl.cq (cq_snS Cq.rf (by decide) (by decide))
    have eS : snS v 7 x (spG v (50 + 2 * x1.toNatClampNeg) (x + 2)) = pI v 8 x.toNatClampNeg (mI u (51 + 2 * x1.toNatClampNeg) (2 + x.toNatClampNeg)) := by
      unfold snS
      rw [if_pos ⟨h0, x7⟩, eg]
    rw [eS] at cl' ⊢
    refine ih q _ (by clear ih; grind) (by clear ih; grind) cl' hR (fun n k n1 n2 => by rw [mI_ne n2]; exact hf n k n1 n2) (by rw [mI_ne (by decide)]; exact w0) (by rw [mI_ne (by decide)]; exact w1) (fun s hs => ?_)
    rw [tn_succ h0 q] at hs
    by_cases e : s = x.toNatClampNeg
    · rw [e, mI_eq]
    · rw [mI_nk e]; exact hd s (by omega)
  exact key 0 _ (by decide) hm.1 (((Cq.rf.pI (wr_5 (n := 7) (by decide)) (by decide)).pI (wr_5 (n := 7) (by decide)) (by decide)).cl hC) hP (fun n k n1 n2 => by rw [mI_ne n1, mI_ne n1]) (by rw [mI_nk (by decide), mI_eq]) mI_eq (fun s hs => by omega)
end GON
