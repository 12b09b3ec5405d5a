/-! ===== agree, rent, dearest ===== -/
theorem dm_ {m w s : Nat} (h : s < m) : (m * w + s) / m = w ∧ (m * w + s) % m = s := ⟨by rw [Nat.mul_add_div (by omega), Nat.div_eq_of_lt h, Nat.add_zero], by rw [Nat.mul_add_mod, Nat.mod_eq_of_lt h]⟩
section ANC
variable {G : pG} {u v : pM} {Q : Option Value → pM → Prop}
end ANC
