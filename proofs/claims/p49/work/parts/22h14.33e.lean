/-! ===== a Standing begun; an order elsewhere ===== -/
theorem OrdP.sh {sh sh' : Nat → Sh5} {m : Nat} {ord : Nat → Nat} (h : OrdP sh m ord) (e : ∀ s, s < m → sh' s = sh s) : OrdP sh' m ord := by
  refine ⟨h.1, fun i j hij hj => ?_, h.2.2⟩
  have r := h.2.1 i j hij hj
  unfold ahP at *
  rw [e _ (h.1 i (by omega)), e _ (h.1 j hj)]
  exact r
theorem OrdP.cg {sh : Nat → Sh5} {m : Nat} {ord ord' : Nat → Nat} (h : OrdP sh m ord) (e : ∀ i, i < m → ord' i = ord i) : OrdP sh m ord' := by
  refine ⟨fun i hi => by rw [e i hi]; exact h.1 i hi, fun i j hij hj => by rw [e i (by omega), e j hj]; exact h.2.1 i j hij hj, fun q hq => ?_⟩
  obtain ⟨i, i1, i2⟩ := h.2.2 q hq
  exact ⟨i, i1, by rw [e i i1]; exact i2⟩
theorem OrdC.cg {u v : pM} {o m : Nat} {sh : Nat → Sh5} (h : OrdC u o sh m) (e : ∀ i, i < m → mI v (o + 3) i = mI u (o + 3) i) : OrdC v o sh m := ⟨fun i hi => by rw [e i hi]; exact h.1 i hi, h.2.cg (fun i hi => by rw [e i hi])⟩
theorem OrdC.sh {u : pM} {o m : Nat} {sh sh' : Nat → Sh5} (h : OrdC u o sh m) (e : ∀ s, s < m → sh' s = sh s) : OrdC u o sh' m := ⟨h.1, h.2.sh e⟩
section BEG
variable {G : pG} {u : pM} {L : List Nat}
theorem c_snBeginx {o0 o1 : Nat} (k0 : okS o0 5) (m0 : In2 L o0) (k1 : okS o1 2) (hm : 0 ≤ mI u o1 1 ∧ mI u o1 1 ≤ 7) : Ws G Sn_begin 0 [(0, .ref o0), (1, .ref o1)] [] u (RV fun u' => Cq L u u' ∧ (∀ n k, n ≠ o0 → n ≠ o0 + 1 → mI u' n k = mI u n k) ∧ mI u' o0 0 = 0 ∧ mI u' o0 1 = 0 ∧ ∀ s, s < (mI u o1 1).toNatClampNeg → mI u' (o0 + 1) s = (shF u o1 s).2.1) := by
  obtain ⟨⟨p1, p2⟩, ⟨p3, p4⟩, p5⟩ := pl_st k0 k1
  have key : ∀ x v, 0 ≤ x → Cq L u v → (∀ n k, n ≠ o0 → n ≠ o0 + 1 → mI v n k = mI u n k) → mI v o0 0 = 0 → mI v o0 1 = 0 → (∀ s, s < x.toNatClampNeg → s < (mI u o1 1).toNatClampNeg → mI v (o0 + 1) s = (shF u o1 s).2.1) → Ws G Sn_begin 12 [(0, .ref o0), (1, .ref o1), (2, .int x)] [] v (RV fun u' => Cq L u u' ∧ (∀ n k, n ≠ o0 → n ≠ o0 + 1 → mI u' n k = mI u n k) ∧ mI u' o0 0 = 0 ∧ mI u' o0 1 = 0 ∧ ∀ s, s < (mI u o1 1).toNatClampNeg → mI u' (o0 + 1) s = (shF u o1 s).2.1) := by
    refine upI (mI u o1 1) _ (fun x ih v h0 hq hf w0 w1 hd => ?_)
    have e1 : mI v o1 1 = mI u o1 1 := hf _ _ p1 p2
    refine sg_Sn_begin_12 k0 k1 ⟨fun c => ⟨rfl, hq, hf, w0, w1, fun s hs => hd s (by rw [e1] at c; have := tn_le c; omega) hs⟩, fun c => ?_⟩
    rw [e1] at c
    have x7 : x < 7 := by grind
    have xm := Int32.not_le.mp c
    have xN := tn_lt h0 xm
    have xN7 : x.toNatClampNeg < 7 := by have := tn_lt h0 x7; have e : (7 : Int32).toNatClampNeg = 7 := (by decide); omega
    have eS : snS v o0 x (mI v (shO v o1 x) 1) = pI v (o0 + 1) x.toNatClampNeg (mI u (R0 (o1 + 1) x.toNatClampNeg) 1) := by
      unfold snS
      rw [if_pos ⟨h0, x7⟩, shO_in h0 (by rw [e1]; exact xm) x7, hf _ _ (p5 _ xN7).1 (p5 _ xN7).2]
    refine ih c _ (by grind) (cq_snS hq k0 m0) (fun n k a b => by rw [eS, mI_ne b]; exact hf n k a b) (by rw [eS, mI_ne (by omega)]; exact w0) (by rw [eS, mI_ne (by omega)]; exact w1) (fun s hs hm => ?_)
    rw [tn_succ h0 c] at hs
    rw [eS]
    by_cases e : s = x.toNatClampNeg
    · rw [e, mI_eq]; rfl
    · rw [mI_nk e]; exact hd s (by omega) hm
  have z0 : (0 : Int32).toNatClampNeg = 0 := by decide
  exact sg_Sn_begin_0 k0 k1 (key 0 _ (by decide) ((Cq.rf.pI (wr_5 k0) (cm_5 k0 m0)).pI (wr_5 k0) (cm_5 k0 m0)) (fun n k a _ => by rw [mI_ne a, mI_ne a]) (by rw [mI_nk (by decide), mI_eq]) mI_eq (fun s hs => by omega))
end BEG
