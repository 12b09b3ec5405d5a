section ERM
variable {G : pG} {u : pM}
theorem e_rowy {x1 x2 : Int32} (a : 0 ≤ x1 ∧ x1 ≤ 5) (b : x2 ≤ 40) (c : 0 ≤ x2) : Ws G m_row 0 [(0, .ref 76), (1, .int x1), (2, .int x2)] [] u (RI fun r u' => r = x2 ∧ Mq (mB ++ mRw) u u' ∧ (∀ n k, n ≠ 78 → n ≠ 79 → mI u' n k = mI u n k) ∧ rmS u u' x1.toNatClampNeg x2 (fun _ => 0)) := by
  have rN : x1.toNatClampNeg ≤ 5 := by have := tn_le a.2; have e : (5 : Int32).toNatClampNeg = 5 := (by decide); omega
  refine sg_m_row_0 ⟨fun _ => ⟨fun _ => ⟨fun _ => ?_, fun z => absurd c z⟩, fun z => absurd b z⟩, fun z => absurd a z⟩
  have key : ∀ x v, 0 ≤ x → Mq (mB ++ mRw) u v → (∀ n k, n ≠ 78 → n ≠ 79 → mI v n k = mI u n k) → mI v 78 x1.toNatClampNeg = x2 → (∀ q, q ≠ x1.toNatClampNeg → mI v 78 q = mI u 78 q) → (∀ k, k < x.toNatClampNeg → k < 40 → mI v 79 (40 * x1.toNatClampNeg + k) = 0) → (∀ j, j < 40 * x1.toNatClampNeg ∨ 40 * x1.toNatClampNeg + 40 ≤ j → mI v 79 j = mI u 79 j) → Ws G m_row 34 [(0, .ref 76), (1, .int x1), (2, .int x2), (3, .int x)] [] v (RI fun r u' => r = x2 ∧ Mq (mB ++ mRw) u u' ∧ (∀ n k, n ≠ 78 → n ≠ 79 → mI u' n k = mI u n k) ∧ rmS u u' x1.toNatClampNeg x2 (fun _ => 0)) := by
    refine upI 40 _ (fun x ih v h0 hq hf hs ho hz hr => ?_)
    refine sg_m_row_34 ⟨fun q => ⟨_, rfl, rfl, hq, hf, hs, fun k hk => hz k (by have := tn_le q; have e : (40 : Int32).toNatClampNeg = 40 := (by decide); omega) hk, fun q' hq' ne => ⟨ho q' ne, fun k hk => hr _ (by omega)⟩⟩, fun d => ?_⟩
    have x40 := Int32.not_le.mp d
    have xN : x.toNatClampNeg < 40 := ixn (n := 40) h0 x40 (by decide)
    have ix := ix40 a ⟨h0, x40⟩
    refine ⟨vin (by grind) (show (_ : Int32) < 240 by grind) (by decide), ih d _ (by grind) (hq.pA (by decide)) (fun n k n1 n2 => by rw [mI_ne n2]; exact hf n k n1 n2) (by rw [mI_ne (by decide)]; exact hs) (fun q hq' => by rw [mI_ne (by decide)]; exact ho q hq') (fun k hk h40 => ?_) (fun j hj => ?_)⟩
    · rw [tn_succ h0 d] at hk
      rw [ix]
      by_cases e : k = x.toNatClampNeg
      · rw [e, mI_eq]
      · rw [mI_nk (by omega)]; exact hz k (by omega) h40
    · rw [ix, mI_nk (by omega)]; exact hr j hj
  have z0 : (0 : Int32).toNatClampNeg = 0 := by decide
  exact ⟨vin a.1 (show (_ : Int32) < 6 by grind) (by decide), key 0 _ (by decide) (Mq.rf.p78 b) (fun n k n1 _ => mI_ne n1) mI_eq (fun q hq => mI_nk hq) (fun k hk => by omega) (fun j _ => mI_ne (by decide))⟩
end ERM
