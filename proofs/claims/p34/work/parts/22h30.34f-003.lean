theorem set_eqn {n x : Int32} (h : 0 ≤ n ∧ n ≤ 30) : (0 ≤ x ∧ x >>> (n &&& 31) = 0) ↔ (0 ≤ x ∧ x ≤ (1 <<< (n &&& 31)) - 1) := by
  have l := tn_le h.2
  have e : (30 : Int32).toNatClampNeg = 30 := by decide
  have k := (show ∀ j, j < 31 → ((1 : Int32) <<< (Int32.ofNat j &&& 31) - 1).toInt = ((2 ^ j : Nat) : Int) - 1 ∧ (0 : Int) < ((2 ^ j : Nat) : Int) from by decide) n.toNatClampNeg (by omega)
  have s := set_eq1 (x := x) (j := n.toNatClampNeg) (P := ((2 ^ n.toNatClampNeg : Nat) : Int)) (by omega) rfl k.1 k.2
  rw [i32_nat h.1] at s
  exact s
