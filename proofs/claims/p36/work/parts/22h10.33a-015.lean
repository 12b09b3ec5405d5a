theorem ix5 {z : Int32} (h0 : 0 ≤ z) (h7 : z < 7) : (5 * z + 0 : Int32).toNatClampNeg = 5 * z.toNatClampNeg ∧ (5 * z + 1 : Int32).toNatClampNeg = 5 * z.toNatClampNeg + 1 ∧ (5 * z + 2 : Int32).toNatClampNeg = 5 * z.toNatClampNeg + 2 ∧ (5 * z + 3 : Int32).toNatClampNeg = 5 * z.toNatClampNeg + 3 ∧ (5 * z + 4 : Int32).toNatClampNeg = 5 * z.toNatClampNeg + 4 ∧ z.toNatClampNeg < 7 := by
  have key : ∀ i, i < 7 → (5 * Int32.ofNat i + 0 : Int32).toNatClampNeg = 5 * i ∧ (5 * Int32.ofNat i + 1 : Int32).toNatClampNeg = 5 * i + 1 ∧ (5 * Int32.ofNat i + 2 : Int32).toNatClampNeg = 5 * i + 2 ∧ (5 * Int32.ofNat i + 3 : Int32).toNatClampNeg = 5 * i + 3 ∧ (5 * Int32.ofNat i + 4 : Int32).toNatClampNeg = 5 * i + 4 := by decide
  have l := tn_lt h0 h7
  have e : (7 : Int32).toNatClampNeg = 7 := by decide
  have := key z.toNatClampNeg (by omega)
  rw [i32_nat h0] at this
  exact ⟨this.1, this.2.1, this.2.2.1, this.2.2.2.1, this.2.2.2.2, by omega⟩
