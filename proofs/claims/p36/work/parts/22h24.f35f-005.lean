theorem set_m {m x : Int32} (h : 0 ≤ m ∧ m ≤ 7) (hx : 0 ≤ x ∧ x ≤ (1 <<< (m &&& 31)) - 1) : ∀ s, s < 7 → tb x s = true → s < m.toNatClampNeg := by
  have k := set_pw h
  have a := Int32.le_iff_toInt_le.mp hx.1
  have b := Int32.le_iff_toInt_le.mp hx.2
  have c := Int32.lt_iff_toInt_lt.mp (set128 h hx.2)
  have d : (128 : Int32).toInt = 128 := by decide
  have z : (0 : Int32).toInt = 0 := by decide
  have e : x.toNatClampNeg = x.toInt.toNat := rfl
  rw [k.2] at b
  have K := (show ∀ m, m < 8 → ∀ n, n < 128 → n < 2 ^ m → ∀ s, s < 7 → tb (Int32.ofNat n) s = true → s < m from by decide +kernel) m.toNatClampNeg k.1 x.toNatClampNeg (by omega) (by omega)
  rw [i32_nat hx.1] at K
  exact K
