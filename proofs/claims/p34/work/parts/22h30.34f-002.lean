theorem imK.cg {n m : Int32} {f g : Nat → Int32} (hm : m.toNatClampNeg ≤ 7) (e : ∀ k, k < 40 → f k = g k) (h : imK n m f) : imK n m g := by
  unfold imK at *
  rw [← e 0 (by decide), ← e 1 (by decide)]
  exact ⟨h.1, h.2.1, h.2.2.1, fun s hs => by rw [← e _ (by omega)]; exact h.2.2.2.1 s hs, fun s q a b => by rw [← e _ (by omega), ← e _ (by omega)]; exact h.2.2.2.2 s q a b⟩
