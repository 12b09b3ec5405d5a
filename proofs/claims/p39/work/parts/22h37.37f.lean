/-! ===== by remainders: meets, never, joins, quiet, busy ===== -/
theorem stp9 {x : Int32} (h : -9 ≤ x ∧ x ≤ 9) : -9 ≤ x.toInt ∧ x.toInt ≤ 9 := by
  have a := Int32.le_iff_toInt_le.mp h.1
  have b := Int32.le_iff_toInt_le.mp h.2
  have e1 : (-9 : Int32).toInt = -9 := by decide
  have e2 : (9 : Int32).toInt = 9 := by decide
  omega
theorem st30 {x n : Int32} (hn : n ≤ 30) (h : 0 ≤ x ∧ x < n) : 0 ≤ x.toInt ∧ x.toInt < 30 := by
  have a := Int32.le_iff_toInt_le.mp h.1
  have b := Int32.lt_iff_toInt_lt.mp h.2
  have c := Int32.le_iff_toInt_le.mp hn
  have e1 : (0 : Int32).toInt = 0 := by decide
  have e2 : (30 : Int32).toInt = 30 := by decide
  omega
theorem nI30 {n : Int32} (hn : 10 ≤ n ∧ n ≤ 30) : 10 ≤ n.toInt ∧ n.toInt ≤ 30 := by
  have a := Int32.le_iff_toInt_le.mp hn.1
  have b := Int32.le_iff_toInt_le.mp hn.2
  have e1 : (10 : Int32).toInt = 10 := by decide
  have e2 : (30 : Int32).toInt = 30 := by decide
  omega
/-- the shops that a new one would meet, as a set -/
def jmV (c : Nat → Bool) : Nat → Int32
  | 0 => 0
  | s + 1 => if c s = true then jmV c s ||| (1 <<< (Int32.ofNat s &&& 31)) else jmV c s
theorem jmV_0 {c : Nat → Bool} {s : Nat} (h : c s = false) : jmV c (s + 1) = jmV c s := by rw [jmV, if_neg (by rw [h]; decide)]
theorem jmV_1 {c : Nat → Bool} {s : Nat} (h : c s = true) : jmV c (s + 1) = jmV c s ||| (1 <<< (Int32.ofNat s &&& 31)) := by rw [jmV, if_pos h]
theorem jmV_cg {c c' : Nat → Bool} : ∀ m, (∀ s, s < m → c' s = c s) → jmV c' m = jmV c m
  | 0, _ => rfl
  | m + 1, e => by rw [jmV, jmV, jmV_cg m (fun s hs => e s (by omega)), e m (by omega)]
def gapV (dr : Nat → Int32) (x1 x2 : Int32) : Int32 := dr x2.toNatClampNeg - dr x1.toNatClampNeg
def gnV (sh : Nat → Sh5) (x1 x2 : Int32) : Int32 := (sh x2.toNatClampNeg).2.2.1 - (sh x1.toNatClampNeg).2.2.1
section ANF
variable {G : pG} {u v : pM} {Q : Option Value → pM → Prop}
/-! meets -/
/-! never -/
/-! joins -/
/-! quiet, busy: door and step by one number -/
/-- a step between -9 and 9, as a place -/
theorem qu_y {y : Int32} (y0 : -9 ≤ y) (y1 : y ≤ 10) : 0 ≤ y + 9 ∧ (¬ 9 < y → (y + 9).toNatClampNeg < 19 ∧ (y + 1 + 9).toNatClampNeg = (y + 9).toNatClampNeg + 1 ∧ Int32.ofNat (y + 9).toNatClampNeg - 9 = y ∧ ¬ 10 ≤ y ∧ -9 ≤ y + 1 ∧ y + 1 ≤ 10) ∧ (9 < y → (y + 9).toNatClampNeg = 19) := by
  have a0 : 0 ≤ y + 9 := by grind
  refine ⟨a0, fun c => ?_, fun c => ?_⟩
  · have l : ¬ 19 ≤ y + 9 := by grind
    have t := tn_lt a0 (Int32.not_le.mp l)
    have e : (19 : Int32).toNatClampNeg = 19 := by decide
    refine ⟨by omega, ?_, ?_, by grind, by grind, by grind⟩
    · rw [show y + 1 + 9 = y + 9 + 1 by grind]
      exact tn_succ a0 l
    · rw [i32_nat a0]
      grind
  · have e : y = 10 := by grind
    rw [e]
    decide
end ANF
