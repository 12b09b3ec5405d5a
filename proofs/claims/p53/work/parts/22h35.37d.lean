/-! ===== rent, dearest ===== -/
/-- only ahead has been written -/
def FRc (u v : pM) : Prop := Cq qB u v ∧ ∀ n k, n ≠ 10 → n ≠ 11 → mI v n k = mI u n k
section AND
variable {G : pG} {u v : pM} {Q : Option Value → pM → Prop}
theorem FRc.tr {w : pM} (h : FRc u v) (h2 : FRc v w) : FRc u w := ⟨h.1.tr h2.1, fun n k a b => (h2.2 n k a b).trans (h.2 n k a b)⟩
theorem FRc.ro (h : FRc u v) : mR v 2 10 = mR u 2 10 := by rw [h.1.2.1]
theorem AH.fr {w : Nat} (h : AH u v w) : FRc u v := ⟨h.1, h.2.1⟩
/-! rent -/
/-! dearest -/
end AND
