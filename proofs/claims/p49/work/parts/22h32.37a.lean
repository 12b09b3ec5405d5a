/-! ===== looking ahead: the class's Standing ahead, the reference's went ===== -/
/-- ahead stands w weeks on from now -/
def AH (u v : pM) (w : Nat) : Prop := Cq qB u v ∧ (∀ n k, n ≠ 10 → n ≠ 11 → mI v n k = mI u n k) ∧ mI v 10 0 = mI u 7 0 + Int32.ofNat w ∧ mI v 10 1 = mI u 7 1 ∧ ∀ s, s < (mI u (mR u 2 10) 1).toNatClampNeg → mI v 11 s = dwC u w s
/-- the first week from w0 on, to the 600th, in which P holds; or none -/
def FS (P : Nat → Prop) (w0 : Nat) (a : Int32) : Prop := (∃ w, w0 ≤ w ∧ w ≤ 600 ∧ P w ∧ (∀ j, w0 ≤ j → j < w → ¬ P j) ∧ a = Int32.ofNat w) ∨ ((∀ j, w0 ≤ j → j ≤ 600 → ¬ P j) ∧ a = -9)
theorem FS.eq {P P' : Nat → Prop} {w0 : Nat} {a b : Int32} (h : FS P w0 a) (h' : FS P' w0 b) (e : ∀ w, w ≤ 600 → (P w ↔ P' w)) : a = b := by
  rcases h with ⟨w, w1, w2, w3, w4, w5⟩ | ⟨n, e1⟩ <;> rcases h' with ⟨v, v1, v2, v3, v4, v5⟩ | ⟨n', e2⟩
  · have : w = v := by
      rcases Nat.lt_trichotomy w v with c | c | c
      · exact absurd ((e w w2).mp w3) (v4 w w1 c)
      · exact c
      · exact absurd ((e v v2).mpr v3) (w4 v v1 c)
    rw [w5, v5, this]
  · exact absurd ((e w w2).mp w3) (n' w w1 w2)
  · exact absurd ((e v v2).mpr v3) (n v v1 v2)
  · rw [e1, e2]
section AHD
variable {G : pG} {u v : pM}
theorem AH.z (hm : (mI u (mR u 2 10) 1).toNatClampNeg ≤ 7) : AH u (snB u 10 7) 0 := by
  refine ⟨cq_snB Cq.rf (by decide) (by decide), fun n k a b => snB_f a b, ?_, snB_1 (by decide), fun s hs => ?_⟩
  · rw [snB_0]
    show _ = _ + Int32.ofNat 0
    grind
  · rw [show mI (snB u 10 7) 11 s = mI (snB u 10 7) (10 + 1) s from rfl, snB_d (by decide) (by omega)]
    rfl
theorem c_ah {w : Nat} (hK : PlK u (mR u 2 10)) (hp : pl (mR u 2 10)) (h : AH u v w) : Ws G Sn_pass 0 [(0, .ref 10), (1, .ref (mR u 2 10)), (2, .int 1)] [] v (RV fun v' => AH u v' (w + 1)) := by
  have ko := pl_ok hp
  have k10 : okS 10 5 := by decide
  have pn := pl_st k10 ko
  obtain ⟨hq, hf, w0, w1, hd⟩ := h
  have K2 : PlK v (mR u 2 10) := hK.cg k10 ko hf
  refine kV (c_passx (L := qB) k10 (by decide) ko (by decide) K2) (fun v' h3 => ?_)
  obtain ⟨q3, f3, a3, b3, d3, _⟩ := h3
  rw [shF_cg k10 ko hf, ordF_cg k10 ko hf, hf _ _ pn.1.1 pn.1.2, hf _ _ pn.1.1 pn.1.2] at d3
  have o1 : (1 : Int32).toNatClampNeg = 1 := by decide
  refine ⟨hq.tr q3, fun n k a b => (f3 n k a b).trans (hf n k a b), ?_, b3.trans w1, fun s hs => ?_⟩
  · rw [a3, w0]
    have e : Int32.ofNat (w + 1) = Int32.ofNat w + 1 := by
      rw [show (1 : Int32) = Int32.ofNat 1 by rfl, ← Int32.ofNat_add]
    rw [e]
    grind
  · rw [show mI v' 11 s = mI v' (10 + 1) s from rfl, d3, o1]
    show pwk _ (mI v 10 0 + Int32.ofNat 0) _ _ _ _ _ s = _
    have e3 : dwC u (w + 1) = pwk (mI u (mR u 2 10) 0) (mI u 7 0 + Int32.ofNat w) (mI u 7 1) (shF u (mR u 2 10)) (ordF u (mR u 2 10)) (mI u (mR u 2 10) 1).toNatClampNeg (dwC u w) := rfl
    rw [e3, w0, w1, show mI u 7 0 + Int32.ofNat w + Int32.ofNat 0 = mI u 7 0 + Int32.ofNat w by show _ + (0 : Int32) = _; grind]
    refine pwk_cg hK.2.2.2.2.1 (fun t ht => ?_) s hs
    show mI v 11 t = _
    exact hd t ht
/-! where -/
/-! comes -/
end AHD
