section CPY
variable {G : pG} {u : pM}
theorem d_imagey {x1 : Int32} (hC : InvC u) (hm : 0 ≤ mI u (mR u 2 10) 1 ∧ mI u (mR u 2 10) 1 ≤ 7) : Ws G D_image 0 [(0, .ref 2), (1, .int x1)] [] u (RI fun a u' => Cl (qB ++ qR) u u' ∧ imaV (mI u (mR u 2 10) 0) (mI u (mR u 2 10) 1) x1 = a ∧ rwP u u' ((0 ≤ x1 ∧ x1 < 6) ∧ 0 < mI u (mR u 2 10) 0) x1.toNatClampNeg (mI u (mR u 2 10) 1 + 2) (imaF (mI u (mR u 2 10) 1).toNatClampNeg (mI u 7 0) (mI u 7 1) (mI u 8))) := by
  refine sg_D_image_0 ⟨fun a hp => ⟨fun b _ => ?_, fun b => ⟨_, rfl, Cl.rf hC, by unfold imaV; rw [if_pos a, if_neg b], .inr ⟨fun z => b z.2, rwK.rf⟩⟩⟩, fun a => ⟨_, rfl, Cl.rf hC, by unfold imaV; rw [if_neg a], .inr ⟨fun z => a z.1, rwK.rf⟩⟩⟩
  obtain ⟨e, hr⟩ := rO a
  rw [e]
  have ko := pl_ok hp
  generalize hP : mR u 2 10 = P at *
  have pn : P ≠ 50 + 2 * x1.toNatClampNeg ∧ P ≠ 51 + 2 * x1.toNatClampNeg := by have := lt_2 ko; omega
  have rn : rnV (mI u P 1 + 2) = mI u P 1 + 2 := by unfold rnV; rw [if_neg (by grind)]
  have val : imaV (mI u P 0) (mI u P 1) x1 = mI u P 1 + 2 := by unfold imaV; rw [if_pos a, if_pos b]
  have key : ∀ x v, 0 ≤ x → x ≤ mI u P 1 → Cl (qB ++ qR) u v → mR v 2 10 = P → (∀ n k, n ≠ 50 + 2 * x1.toNatClampNeg → n ≠ 51 + 2 * x1.toNatClampNeg → mI v n k = mI u n k) → mI v (50 + 2 * x1.toNatClampNeg) 1 = mI u P 1 + 2 → (∀ k, k < 40 → mI v (51 + 2 * x1.toNatClampNeg) k = imaF x.toNatClampNeg (mI u 7 0) (mI u 7 1) (mI u 8) k) → Ws G D_image 68 [(0, .ref 2), (2, .ref (50 + 2 * x1.toNatClampNeg)), (3, .int x)] [] v (RI fun a u' => Cl (qB ++ qR) u u' ∧ imaV (mI u P 0) (mI u P 1) x1 = a ∧ rwP u u' ((0 ≤ x1 ∧ x1 < 6) ∧ 0 < mI u P 0) x1.toNatClampNeg (mI u P 1 + 2) (imaF (mI u P 1).toNatClampNeg (mI u 7 0) (mI u 7 1) (mI u 8))) := by
    refine upI (mI u P 1) _ (fun x ih v h0 hx hl hR hf hz hc => ?_)
    refine sg_D_image_68 (rL hr).1 (fun hp' => ?_)
    rw [hR, hf _ _ pn.1 pn.2]
    refine ⟨fun q _ => ⟨_, rfl, hl, val, .inl ⟨⟨a, b⟩, rwS.of hz (by rw [Int32.le_antisymm hx q] at hc; exact hc) (fun n k _ _ n3 n4 => hf n k n3 n4)⟩⟩, fun q => ?_⟩
    have xm := Int32.not_le.mp q
    have x7 : x < 7 := Int32.lt_of_lt_of_le xm hm.2
    have cl' : Cl (qB ++ qR) u (spS v (50 + 2 * x1.toNatClampNeg) (x + 2) (snD v 7 x)) := hl.cq (cq_spS Cq.rf (rL hr).1 (rM hr))
    have ed : snD v 7 x = mI u 8 x.toNatClampNeg := by
      unfold snD
      rw [if_pos ⟨h0, x7⟩]
      exact hf _ _ (by omega) (by omega)
    have e2 : (x + 2).toNatClampNeg = x.toNatClampNeg + 2 := by
      have k := (show ∀ i, i < 7 → (Int32.ofNat i + 2).toNatClampNeg = i + 2 from by decide) _ (ixn (n := 7) h0 x7 (by decide))
      rw [i32_nat h0] at k
      exact k
    rw [spS_at hr (by clear ih; grind) (by rw [hz]; clear ih; grind) (by clear ih; grind), ed, e2] at cl' ⊢
    refine ih q _ (by clear ih; grind) (by clear ih; grind) cl' hR (fun n k n1 n2 => by rw [mI_ne n2]; exact hf n k n1 n2) (by rw [mI_ne (by omega)]; exact hz) (fun k hk => ?_)
    rw [tn_succ h0 q]
    have hck := hc k hk
    unfold imaF at hck ⊢
    by_cases e : k = x.toNatClampNeg + 2
    · rw [e, mI_eq, if_neg (by omega), if_neg (by omega), if_pos (by omega), show x.toNatClampNeg + 2 - 2 = x.toNatClampNeg by omega]
    · rw [mI_nk e, hck]
      by_cases k0 : k = 0
      · rw [if_pos k0, if_pos k0]
      · rw [if_neg k0, if_neg k0]
        by_cases k1 : k = 1
        · rw [if_pos k1, if_pos k1]
        · rw [if_neg k1, if_neg k1]
          by_cases e2 : k < x.toNatClampNeg + 2
          · rw [if_pos e2, if_pos (by omega)]
          · rw [if_neg e2, if_neg (by omega)]
  refine kV (c_renewy hr hC) (fun v h => ?_)
  obtain ⟨c3, _, mr3, z3, f3, g3⟩ := h
  have z0 : (0 : Int32).toNatClampNeg = 0 := by decide
  have z1 : (1 : Int32).toNatClampNeg = 1 := by decide
  rw [rn] at z3
  have cl2 : Cl (qB ++ qR) u (spS (spS v (50 + 2 * x1.toNatClampNeg) 0 (mI v 7 0)) (50 + 2 * x1.toNatClampNeg) 1 (mI (spS v (50 + 2 * x1.toNatClampNeg) 0 (mI v 7 0)) 7 1)) := (c3.cq (cq_spS Cq.rf (rL hr).1 (rM hr))).cq (cq_spS Cq.rf (rL hr).1 (rM hr))
  rw [spS_at (i := 0) hr (by decide) (by rw [z3]; grind) (by decide), spS_at (i := 1) hr (by decide) (by rw [mI_ne (by omega), z3]; grind) (by decide), z0, z1, mI_ne (by omega), g3 7 0 (by omega) (by omega), g3 7 1 (by omega) (by omega)] at cl2 ⊢
  refine key 0 _ (by decide) hm.1 cl2 (by show mR v 2 10 = P; rw [mr3]; exact hP) (fun n k n1 n2 => by rw [mI_ne n2, mI_ne n2]; exact g3 n k n1 n2) (by rw [mI_ne (by omega), mI_ne (by omega)]; exact z3) (fun k hk => ?_)
  rw [z0]
  unfold imaF
  by_cases k0 : k = 0
  · rw [if_pos k0, k0, mI_nk (by decide), mI_eq]
  · rw [if_neg k0]
    by_cases k1 : k = 1
    · rw [if_pos k1, k1, mI_eq]
    · rw [if_neg k1, if_neg (by omega), mI_nk k1, mI_nk k0]; exact f3 k hk
end CPY
