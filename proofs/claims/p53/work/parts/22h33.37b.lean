/-! ===== again, wants, beside, round, best, agree ===== -/
theorem ofN_s (k : Nat) : Int32.ofNat (k + 1) = Int32.ofNat k + 1 := by rw [show (1 : Int32) = Int32.ofNat 1 by rfl, ← Int32.ofNat_add]
theorem stU {x b : Int32} (h0 : 0 ≤ x) (c : ¬ b ≤ x) : 0 ≤ x + 1 ∧ x + 1 ≤ b := ⟨by grind, by grind⟩
section ANB
variable {G : pG} {u v : pM} {Q : Option Value → pM → Prop}
/-! again -/
/-! wants -/
/-! beside -/
def besK (m x1 x2 : Int32) : Prop := (0 ≤ x1 ∧ x1 < m) ∧ (0 ≤ x2 ∧ x2 < m) ∧ ¬ x1 = x2
/-! round -/
/-! best -/
end ANB
