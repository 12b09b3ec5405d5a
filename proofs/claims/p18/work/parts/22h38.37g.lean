/-! ===== ways: plainly ===== -/
theorem tnX {x : Int32} (h : 0 ≤ x) : x.toInt = (x.toNatClampNeg : Int) := by
  have a := Int32.le_iff_toInt_le.mp h
  have e : (0 : Int32).toInt = 0 := by decide
  show x.toInt = ((x.toInt.toNat : Nat) : Int)
  omega
abbrev kd9 (kind : Int32) (K : Nat) : Prop := kind = 3 ∨ kind = 4 ∨ kind = 5 → K = 2 ∨ K = 3 ∨ K = 4 ∨ K = 5 ∨ K = 6 ∨ K = 7 ∨ K = 8 ∨ K = 9
/-- a kind and its k -/
def kdK (kind k : Int32) : Prop := (0 ≤ kind ∧ kind ≤ 5) ∧ (kind < 3 → k = 0) ∧ (3 ≤ kind → 2 ≤ k ∧ k ≤ 9)
theorem kdC {kind k : Int32} (h : kdK kind k) : ((kind = 0 ∨ kind = 1 ∨ kind = 2) ∧ k = 0) ∨ ((kind = 3 ∨ kind = 4 ∨ kind = 5) ∧ 2 ≤ k ∧ k ≤ 9) := by
  obtain ⟨⟨a, b⟩, c, d⟩ := h
  have l := tn_le b
  have e5 : (5 : Int32).toNatClampNeg = 5 := by decide
  have q := (show ∀ k, k < 6 → (Int32.ofNat k = 0 ∨ Int32.ofNat k = 1 ∨ Int32.ofNat k = 2) ∨ (Int32.ofNat k = 3 ∨ Int32.ofNat k = 4 ∨ Int32.ofNat k = 5) from by decide) kind.toNatClampNeg (by omega)
  rw [i32_nat a] at q
  rcases q with q | q
  · exact .inl ⟨q, c (by rcases q with e | e | e <;> rw [e] <;> decide)⟩
  · exact .inr ⟨q, d (by rcases q with e | e | e <;> rw [e] <;> decide)⟩
theorem kd29 {k : Int32} (h : 2 ≤ k ∧ k ≤ 9) : 0 ≤ k ∧ 2 ≤ k.toNatClampNeg ∧ k.toNatClampNeg ≤ 9 := by
  have a := tn_le h.1
  have b := tn_le h.2
  have e2 : (2 : Int32).toNatClampNeg = 2 := by decide
  have e9 : (9 : Int32).toNatClampNeg = 9 := by decide
  exact ⟨Int32.le_trans (by decide) h.1, by omega, by omega⟩
theorem kdK.k9 {kind k : Int32} (h : kdK kind k) : kd9 kind k.toNatClampNeg := fun q => by
  rcases kdC h with ⟨a, _⟩ | ⟨_, b⟩
  · rcases a with e | e | e <;> rw [e] at q <;> rcases q with q | q | q <;> exact absurd q (by decide)
  · have := kd29 b
    omega
section ANG
variable {G : pG} {u v : pM} {Q : Option Value → pM → Prop}
theorem shV.kd {s : Sh5} (h : shV s) : kdK s.1 s.2.2.2.2 := ⟨h.1, h.2.1, h.2.2.1⟩
end ANG
