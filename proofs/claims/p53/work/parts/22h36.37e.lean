/-! ===== mends, worst ===== -/
/-- the first week of 1 to N in which P holds, or none -/
def FB (P : Nat → Prop) (N : Nat) (a : Int32) : Prop := (∃ w, 1 ≤ w ∧ w ≤ N ∧ P w ∧ (∀ j, 1 ≤ j → j < w → ¬ P j) ∧ a = Int32.ofNat w) ∨ ((∀ j, 1 ≤ j → j ≤ N → ¬ P j) ∧ a = -9)
theorem ofN_n9 : ∀ w, w ≤ 60 → ¬ Int32.ofNat w = -9 := by decide
theorem FB.eq {P P' : Nat → Prop} {N : Nat} {a b : Int32} (h : FB P N a) (h' : FB P' N b) (e : ∀ w, w ≤ N → (P w ↔ P' w)) : a = b := by
  rcases h with ⟨w, w1, w2, w3, w4, w5⟩ | ⟨n, e1⟩ <;> rcases h' with ⟨v, v1, v2, v3, v4, v5⟩ | ⟨n', e2⟩
  · have : w = v := by
      rcases Nat.lt_trichotomy w v with c | c | c
      · exact absurd ((e w w2).mp w3) (v4 w w1 c)
      · exact c
      · exact absurd ((e v v2).mpr v3) (w4 v v1 c)
    rw [w5, v5, this]
  · exact absurd ((e w w2).mp w3) (n' w w1 w2)
  · exact absurd ((e v v2).mpr v3) (n v v1 v2)
  · rw [e1, e2]
theorem FB.z {P : Nat → Prop} : FB P 0 (-9) := .inr ⟨fun j h1 h2 => by omega, rfl⟩
theorem FB.k {P : Nat → Prop} {N : Nat} {a : Int32} (h : FB P N a) (c : ¬ a = -9 ∨ ¬ P (N + 1)) : FB P (N + 1) a := by
  rcases h with ⟨w, w1, w2, w3, w4, w5⟩ | ⟨n, e⟩
  · exact .inl ⟨w, w1, by omega, w3, w4, w5⟩
  · refine .inr ⟨fun j h1 h2 => ?_, e⟩
    by_cases q : j = N + 1
    · rw [q]; exact c.resolve_left (fun z => z e)
    · exact n j h1 (by omega)
theorem FB.s {P : Nat → Prop} {N : Nat} {a : Int32} (h : FB P N a) (hN : N ≤ 60) (e : a = -9) (c : P (N + 1)) : FB P (N + 1) (Int32.ofNat (N + 1)) := by
  rcases h with ⟨w, w1, w2, w3, w4, w5⟩ | ⟨n, _⟩
  · exact absurd (w5.symm.trans e) (ofN_n9 w (by omega))
  · exact .inl ⟨N + 1, by omega, Nat.le_refl _, c, fun j h1 h2 => n j h1 (by omega), rfl⟩
theorem shF_fr {u v : pM} {o1 : Nat} (k1 : okS o1 2) (h : ∀ n k, n ≠ 10 → n ≠ 11 → n ≠ 12 → n ≠ 13 → mI v n k = mI u n k) : shF v o1 = shF u o1 ∧ ordF v o1 = ordF u o1 ∧ (∀ k, mI v o1 k = mI u o1 k) ∧ ∀ k, mI v (o1 + 3) k = mI u (o1 + 3) k := by
  have a := pl_st (show okS 10 5 by decide) k1
  have b := pl_st (show okS 12 5 by decide) k1
  have e3 : ∀ k, mI v (o1 + 3) k = mI u (o1 + 3) k := fun k => h _ _ a.2.1.1 a.2.1.2 b.2.1.1 b.2.1.2
  refine ⟨funext (fun s => ?_), funext (fun i => ?_), fun k => h _ _ a.1.1 a.1.2 b.1.1 b.1.2, e3⟩
  · have r := pl_R (show okS 10 5 by decide) k1 s
    have r' := pl_R (show okS 12 5 by decide) k1 s
    unfold shF shC
    rw [h _ 0 r.1 r.2 r'.1 r'.2, h _ 1 r.1 r.2 r'.1 r'.2, h _ 2 r.1 r.2 r'.1 r'.2, h _ 3 r.1 r.2 r'.1 r'.2, h _ 4 r.1 r.2 r'.1 r'.2]
  · unfold ordF
    rw [e3]
theorem PlK.fr {u v : pM} {o1 : Nat} (hK : PlK u o1) (k1 : okS o1 2) (h : ∀ n k, n ≠ 10 → n ≠ 11 → n ≠ 12 → n ≠ 13 → mI v n k = mI u n k) : PlK v o1 := by
  obtain ⟨e1, _, e0, e3⟩ := shF_fr k1 h
  unfold PlK
  rw [e1, e0, e0]
  exact ⟨hK.1, hK.2.1, hK.2.2.1, hK.2.2.2.cg (fun i _ => e3 i)⟩
/-- with these doors closed, w weeks on from now -/
def dwX (u : pM) (cl : Int32) (w : Nat) : Nat → Int32 := pws (mI u (mR u 2 10) 0) (mI u 7 0) cl (shF u (mR u 2 10)) (ordF u (mR u 2 10)) (mI u (mR u 2 10) 1).toNatClampNeg (mI u 8) w
def F4 (u v : pM) : Prop := Cq qB u v ∧ ∀ n k, n ≠ 10 → n ≠ 11 → n ≠ 12 → n ≠ 13 → mI v n k = mI u n k
def SDx (u v : pM) (o : Nat) (cl : Int32) (w : Nat) : Prop := mI v o 0 = mI u 7 0 + Int32.ofNat w ∧ mI v o 1 = cl ∧ ∀ s, s < (mI u (mR u 2 10) 1).toNatClampNeg → mI v (o + 1) s = dwX u cl w s
section ANE
variable {G : pG} {u v : pM} {Q : Option Value → pM → Prop}
theorem F4.ro (h : F4 u v) : mR v 2 10 = mR u 2 10 := by rw [h.1.2.1]
theorem SDx.k {o o' : Nat} {cl : Int32} {w : Nat} {v' : pM} (h : SDx u v o cl w) (hf : ∀ n k, n ≠ o' → n ≠ o' + 1 → mI v' n k = mI v n k) (ne : o ≠ o' ∧ o ≠ o' + 1 ∧ o + 1 ≠ o' ∧ o + 1 ≠ o' + 1) : SDx u v' o cl w := ⟨by rw [hf _ _ ne.1 ne.2.1]; exact h.1, by rw [hf _ _ ne.1 ne.2.1]; exact h.2.1, fun s hs => by rw [hf _ _ ne.2.2.1 ne.2.2.2]; exact h.2.2 s hs⟩
theorem SDx.b {o : Nat} (h : F4 u v) (m7 : (mI u (mR u 2 10) 1).toNatClampNeg ≤ 7) (ho : o = 10 ∨ o = 12) : F4 u (snB v o 7) ∧ SDx u (snB v o 7) o (mI u 7 1) 0 := by
  have k0 : okS o 5 := by rcases ho with q | q <;> rw [q] <;> decide
  have m0 : In2 qB o := by rcases ho with q | q <;> rw [q] <;> decide
  refine ⟨⟨cq_snB h.1 k0 m0, fun n k a b c d => by rw [snB_f (by omega) (by omega)]; exact h.2 n k a b c d⟩, ?_, ?_, fun s hs => ?_⟩
  · rw [snB_0, h.2 7 0 (by decide) (by decide) (by decide) (by decide)]
    exact (Int32.add_zero _).symm
  · rw [snB_1 (by omega), h.2 7 1 (by decide) (by decide) (by decide) (by decide)]
  · rw [snB_d (by omega) (by omega)]
    exact h.2 8 s (by decide) (by decide) (by decide) (by decide)
theorem SDx.o {o : Nat} {y : Int32} (h : F4 u v) (hs : SDx u v o (mI u 7 1) 0) (ho : o = 10 ∨ o = 12) : F4 u (pI v o 1 (mI v o 1 ||| y)) ∧ SDx u (pI v o 1 (mI v o 1 ||| y)) o (mI u 7 1 ||| y) 0 := by
  have k0 : okS o 5 := by rcases ho with q | q <;> rw [q] <;> decide
  have m0 : In2 qB o := by rcases ho with q | q <;> rw [q] <;> decide
  refine ⟨⟨h.1.pI (wr_5 k0) (cm_5 k0 m0), fun n k a b c d => by rw [mI_ne (by omega)]; exact h.2 n k a b c d⟩, ?_, ?_, fun s hs' => ?_⟩
  · rw [mI_nk (by decide)]; exact hs.1
  · rw [mI_eq, hs.2.1]
  · rw [mI_ne (by omega)]; exact hs.2.2 s hs'
/-! the reference -/
/-! worst -/
end ANE
