theorem bn_set {n x : Int32} (h : 0 ≤ n ∧ n ≤ 30) (hx : 0 ≤ x ∧ x >>> (n &&& 31) = 0) : bnK n x := fun i hi h32 => by
  have l := tn_le h.2
  have e30 : (30 : Int32).toNatClampNeg = 30 := by decide
  have k := (show ∀ j, j < 31 → ((1 : Int32) <<< (Int32.ofNat j &&& 31) - 1).toInt = ((2 ^ j : Nat) : Int) - 1 from by decide) n.toNatClampNeg (by omega)
  rw [i32_nat h.1] at k
  have b := Int32.le_iff_toInt_le.mp ((set_eqn h).mp hx).2
  have t1 : x.toInt = (x.toBitVec.toNat : Int) := BitVec.toInt_eq_toNat_of_msb (nn_msb hx.1)
  rw [k, t1] at b
  have p : (2 : Nat) ^ n.toNatClampNeg ≤ 2 ^ i := Nat.pow_le_pow_right (by decide) hi
  unfold tb
  rw [BitVec.getLsbD, Nat.testBit_lt_two_pow (by omega)]
