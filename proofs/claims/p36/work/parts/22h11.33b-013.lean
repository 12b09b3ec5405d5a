section WEEK
variable {G : pG} {u : pM} {L : List Nat}
/-- a Plan's cells lie apart from a Standing's -/
theorem pl_st {o0 o1 : Nat} (k0 : okS o0 5) (k1 : okS o1 2) : (o1 ≠ o0 ∧ o1 ≠ o0 + 1) ∧ (o1 + 3 ≠ o0 ∧ o1 + 3 ≠ o0 + 1) ∧ ∀ i, i < 7 → R0 (o1 + 1) i ≠ o0 ∧ R0 (o1 + 1) i ≠ o0 + 1 := by
  have h0 : o0 = 7 ∨ o0 = 10 ∨ o0 = 12 ∨ o0 = 70 ∨ o0 = 72 ∨ o0 = 74 := (show ∀ o, o < 95 → (S0 o).1 = 5 → o = 7 ∨ o = 10 ∨ o = 12 ∨ o = 70 ∨ o = 72 ∨ o = 74 from by decide +kernel) o0 k0.2.1 k0.2.2
  have h1 : o1 = 22 ∨ o1 = 36 := (show ∀ o, o < 95 → (S0 o).1 = 2 → o = 22 ∨ o = 36 from by decide +kernel) o1 k1.2.1 k1.2.2
  have R : ∀ i, i < 7 → R0 (o1 + 1) i = o1 + 7 + i := (show ∀ o, o < 95 → (S0 o).1 = 2 → ∀ i, i < 7 → R0 (o + 1) i = o + 7 + i from by decide +kernel) _ k1.2.1 k1.2.2
  refine ⟨⟨by omega, by omega⟩, ⟨by omega, by omega⟩, fun i hi => ?_⟩
  rw [R i hi]
  omega
end WEEK
