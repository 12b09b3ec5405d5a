/-! ===== rent, dearest ===== -/
/-- only ahead has been written -/
def FRc (u v : pM) : Prop := Cq qB u v ∧ ∀ n k, n ≠ 10 → n ≠ 11 → mI v n k = mI u n k
section AND
variable {G : pG} {u v : pM} {Q : Option Value → pM → Prop}
theorem FRc.tr {w : pM} (h : FRc u v) (h2 : FRc v w) : FRc u w := ⟨h.1.tr h2.1, fun n k a b => (h2.2 n k a b).trans (h.2 n k a b)⟩
theorem FRc.ro (h : FRc u v) : mR v 2 10 = mR u 2 10 := by rw [h.1.2.1]
theorem FRc.dw (h : FRc u v) (ko : okS (mR u 2 10) 2) : dwC v = dwC u := by
  have k10 : okS 10 5 := by decide
  have pn := pl_st k10 ko
  funext w
  unfold dwC
  rw [h.ro, h.2 _ _ pn.1.1 pn.1.2, h.2 _ _ pn.1.1 pn.1.2, h.2 7 0 (by decide) (by decide), h.2 7 1 (by decide) (by decide), shF_cg k10 ko h.2, ordF_cg k10 ko h.2, show mI v 8 = mI u 8 from funext (fun k => h.2 8 k (by decide) (by decide))]
theorem AH.fr {w : Nat} (h : AH u v w) : FRc u v := ⟨h.1, h.2.1⟩
/-! rent -/
/-! dearest -/
end AND
