/-! ===== mark ===== -/
def cbN (c : Nat → Bool) : Nat → Nat
  | 0 => 0
  | s + 1 => cbN c s + (if c s = true then 1 else 0)
theorem cbN_cg {c c' : Nat → Bool} : ∀ m, (∀ s, s < m → c' s = c s) → cbN c' m = cbN c m
  | 0, _ => rfl
  | m + 1, e => by rw [cbN, cbN, cbN_cg m (fun s hs => e s (by omega)), e m (by omega)]
theorem cb_1 {c : Nat → Bool} {s : Nat} (h : c s = true) : cbN c (s + 1) = cbN c s + 1 := by rw [cbN, if_pos h]
theorem cb_0 {c : Nat → Bool} {s : Nat} (h : c s = false) : cbN c (s + 1) = cbN c s := by rw [cbN, if_neg (by rw [h]; decide), Nat.add_zero]
section ANH
variable {G : pG} {u v : pM} {Q : Option Value → pM → Prop}
end ANH
