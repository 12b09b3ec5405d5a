section GON
variable {G : pG} {u : pM}
theorem spG_at {v : pM} {r : Nat} {i : Int32} (hr : r < 6) (h0 : 0 ≤ i) (h1 : i < mI v (50 + 2 * r) 1) (h2 : i < 40) : spG v (50 + 2 * r) i = mI v (51 + 2 * r) i.toNatClampNeg := by
  unfold spG
  rw [if_pos ⟨h0, h1, by rw [(rL hr).2]; exact h2⟩, show 50 + 2 * r + 1 = 51 + 2 * r by omega]
end GON
