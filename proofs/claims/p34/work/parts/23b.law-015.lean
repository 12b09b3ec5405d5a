section LAW
variable {G : pG} {u : pM}
theorem law_loop (hn : gn G ≤ 3072) : ∀ (f : Nat) (x3 : Int32) (u : pM), 3072 - x3.toInt ≤ f → 0 ≤ x3 → InvC u → InvM u → RX u → Ws G L_law 18 [(0, .ref 0), (1, .ref 2), (2, .ref 76), (3, .int x3)] [] u LQ := by
  have l : Int32.ofNat (gn G) ≤ 3072 := by
    apply Int32.le_iff_toInt_le.mpr
    have : (3072 : Int32).toInt = 3072 := by decide
    have e : (Int32.ofNat (gn G)).toInt = gn G := nI_toInt (by omega)
    omega
  have z : 0 ≤ Int32.ofNat (gn G) := by
    apply Int32.le_iff_toInt_le.mpr
    have : (0 : Int32).toInt = 0 := by decide
    have e : (Int32.ofNat (gn G)).toInt = gn G := nI_toInt (by omega)
    omega
  intro f
  induction f with
  | zero =>
    intro x3 u hf h0 hC hM hX
    have g : 3072 ≤ x3 := by
      apply Int32.le_iff_toInt_le.mpr
      have : (3072 : Int32).toInt = 3072 := by decide
      omega
    exact sg_L_law_18 ⟨fun _ => ⟨1, rfl, rfl⟩, fun c => absurd (by grind) c⟩
  | succ f ih =>
    intro x3 u hf h0 hC hM hX
    have K : (h1 : ¬ (Int32.ofNat (gn G) - 6) < x3) → ∀ v, InvC v → InvM v → RX v → Ws G L_law 1742 [(0, .ref 0), (1, .ref 2), (2, .ref 76), (3, .int x3)] [] v LQ := fun h1 v vC vM vX => by
      refine sg_L_law_1742 (ih _ v ?_ (by grind) vC vM vX)
      have e6 : (x3 + 6).toInt = x3.toInt + 6 := by
        have b := Int32.le_iff_toInt_le.mp h0
        have g : x3 ≤ 3072 := by grind
        have c := Int32.le_iff_toInt_le.mp g
        have d : (3072 : Int32).toInt = 3072 := by decide
        have d0 : (0 : Int32).toInt = 0 := by decide
        rw [Int32.toInt_add, show (6 : Int32).toInt = 6 by decide, Int.bmod_eq_of_le (by omega) (by omega)]
      omega
    refine sg_L_law_18 ⟨fun _ => ⟨1, rfl, rfl⟩, fun h1 => ⟨vscr0 hn h0 h1, fun _ => lw_c0 hn h0 h1 hC hM hX (K h1), fun _ => lw_c1 hn h0 h1 hC hM hX (K h1), fun _ => lw_c2 hn h0 h1 hC hM hX (K h1), fun _ => lw_c3 hn h0 h1 hC hM hX (K h1), fun _ => lw_c4 hn h0 h1 hC hM hX (K h1), fun _ => lw_c5 hn h0 h1 hC hM hX (K h1), fun _ => lw_c6 hn h0 h1 hC hM hX (K h1), fun _ => lw_c7 hn h0 h1 hC hM hX (K h1), fun _ => lw_c8 hn h0 h1 hC hM hX (K h1), fun _ => lw_c9 hn h0 h1 hC hM hX (K h1), fun _ => lw_c10 hn h0 h1 hC hM hX (K h1), fun _ => lw_c11 hn h0 h1 hC hM hX (K h1), fun _ => lw_c12 hn h0 h1 hC hM hX (K h1), fun _ => lw_c13 hn h0 h1 hC hM hX (K h1), fun _ => lw_c14 hn h0 h1 hC hM hX (K h1), fun _ => lw_c15 hn h0 h1 hC hM hX (K h1), fun _ => lw_c16 hn h0 h1 hC hM hX (K h1), fun _ => lw_c17 hn h0 h1 hC hM hX (K h1), fun _ => lw_c18 hn h0 h1 hC hM hX (K h1), fun _ => lw_c19 hn h0 h1 hC hM hX (K h1), fun _ => lw_c20 hn h0 h1 hC hM hX (K h1), fun _ => lw_c21 hn h0 h1 hC hM hX (K h1), fun _ => lw_c22 hn h0 h1 hC hM hX (K h1), fun _ => lw_c23 hn h0 h1 hC hM hX (K h1), fun _ => lw_c24 hn h0 h1 hC hM hX (K h1), fun _ => lw_c25 hn h0 h1 hC hM hX (K h1), fun _ => lw_c26 hn h0 h1 hC hM hX (K h1), fun _ => lw_c27 hn h0 h1 hC hM hX (K h1), fun _ => lw_c28 hn h0 h1 hC hM hX (K h1), fun _ => lw_c29 hn h0 h1 hC hM hX (K h1), fun _ => lw_c30 hn h0 h1 hC hM hX (K h1), fun _ => lw_c31 hn h0 h1 hC hM hX (K h1), fun _ => lw_c32 hn h0 h1 hC hM hX (K h1), fun _ => lw_c33 hn h0 h1 hC hM hX (K h1), fun _ => lw_c34 hn h0 h1 hC hM hX (K h1), fun _ => lw_c35 hn h0 h1 hC hM hX (K h1), fun _ => lw_c36 hn h0 h1 hC hM hX (K h1), fun _ => lw_c37 hn h0 h1 hC hM hX (K h1), fun _ => lw_c38 hn h0 h1 hC hM hX (K h1), fun _ => lw_c39 hn h0 h1 hC hM hX (K h1), fun _ => lw_c40 hn h0 h1 hC hM hX (K h1), fun _ => lw_c41 hn h0 h1 hC hM hX (K h1), fun _ => lw_c42 hn h0 h1 hC hM hX (K h1), fun _ => lw_c43 hn h0 h1 hC hM hX (K h1), fun _ => lw_c44 hn h0 h1 hC hM hX (K h1), fun _ => lw_c45 hn h0 h1 hC hM hX (K h1), fun _ => lw_c46 hn h0 h1 hC hM hX (K h1), fun _ => lw_c47 hn h0 h1 hC hM hX (K h1), fun _ => lw_c48 hn h0 h1 hC hM hX (K h1), fun _ => lw_c49 hn h0 h1 hC hM hX (K h1), fun _ => lw_c50 hn h0 h1 hC hM hX (K h1), fun _ => lw_c51 hn h0 h1 hC hM hX (K h1), fun _ => K h1 u hC hM hX⟩⟩
end LAW
