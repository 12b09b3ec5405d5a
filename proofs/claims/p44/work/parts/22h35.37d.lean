/-! ===== rent, dearest ===== -/
/-- went stands w weeks on from now, with these doors closed; what E names may have been written -/
def AMg (u v : pM) (ord : Nat → Nat) (cl : Int32) (E : Nat → Nat → Prop) (w : Nat) : Prop := Mq mB u v ∧ (∀ n k, n ≠ 85 → n ≠ 86 → ¬ E n k → mI v n k = mI u n k) ∧ ∀ s, s < (mI u 76 11).toNatClampNeg → mI v 85 s = pws (mI u 76 10) (mI u 76 18) cl (shM u) ord (mI u 76 11).toNatClampNeg (mI u 84) w s
/-- only ahead has been written -/
def FRc (u v : pM) : Prop := Cq qB u v ∧ ∀ n k, n ≠ 10 → n ≠ 11 → mI v n k = mI u n k
section AND
variable {G : pG} {u v : pM} {Q : Option Value → pM → Prop}
theorem FRc.tr {w : pM} (h : FRc u v) (h2 : FRc v w) : FRc u w := ⟨h.1.tr h2.1, fun n k a b => (h2.2 n k a b).trans (h.2 n k a b)⟩
theorem FRc.ro (h : FRc u v) : mR v 2 10 = mR u 2 10 := by rw [h.1.2.1]
theorem FRc.dw (h : FRc u v) (ko : okS (mR u 2 10) 2) : dwC v = dwC u := by
  have k10 : okS 10 5 := by decide
  have pn := pl_st k10 ko
  funext w
  unfold dwC
  rw [h.ro, h.2 _ _ pn.1.1 pn.1.2, h.2 _ _ pn.1.1 pn.1.2, h.2 7 0 (by decide) (by decide), h.2 7 1 (by decide) (by decide), shF_cg k10 ko h.2, ordF_cg k10 ko h.2, show mI v 8 = mI u 8 from funext (fun k => h.2 8 k (by decide) (by decide))]
theorem AH.fr {w : Nat} (h : AH u v w) : FRc u v := ⟨h.1, h.2.1⟩
theorem e_amg {ord : Nat → Nat} {cl : Int32} {E : Nat → Nat → Prop} {w : Nat} {y x : Int32} (hM : InvM u) (ho : OrdP (shM u) (mI u 76 11).toNatClampNeg ord) (hc : cnt cl (mI u 76 10).toNatClampNeg ≤ 3) (hE : ¬ E 76 18) (h : AMg u v ord cl E w) (hy : y = mI u 76 18 + Int32.ofNat w) (hx : x = cl) : Ws G m_passOne 0 [(0, .ref 76), (1, .int y), (2, .int x)] [] v (RV fun v' => AMg u v' ord cl E (w + 1) ∧ ∀ n k, n ≠ 85 → n ≠ 86 → mI v' n k = mI v n k) := by
  obtain ⟨hq, hf, hd⟩ := h
  have eM : shM v = shM u := shM_cg (fun k => hq.sh k)
  have hi := hq.inv hM
  rw [hx, hy]
  refine kV (e_passOnex (ord := ord) hi (by rw [hq.n]; exact hc) (by rw [eM, hq.m]; exact ho)) (fun v' h => ?_)
  obtain ⟨q', f', d'⟩ := h
  rw [eM, hq.m, hq.n] at d'
  refine ⟨⟨hq.tr q', fun n k a b e => (f' n k a b).trans (hf n k a b e), fun s hs => ?_⟩, f'⟩
  rw [d' s, pws]
  exact pwk_cg ho.1 hd s hs
theorem e_amg0 {ord : Nat → Nat} {cl : Int32} {E : Nat → Nat → Prop} (hM : InvM u) : Ws G m_fromNow 0 [(0, .ref 76)] [] u (RV fun v' => AMg u v' ord cl E 0 ∧ ∀ n k, n ≠ 85 → mI v' n k = mI u n k) := kV (e_fromNowx hM) (fun v h => ⟨⟨h.1, fun n k a _ _ => h.2.1 n k a, fun s hs => h.2.2 s hs⟩, h.2.1⟩)
/-! rent -/
/-! dearest -/
end AND
