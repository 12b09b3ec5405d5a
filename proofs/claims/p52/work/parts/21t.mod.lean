/-! ===== errands ===== -/
section MOD
variable {G : pG} {u v w : pM}
theorem fn2 {f g : Nat → Int32} (h : ∀ k, f k = g k) : f = g := funext h
theorem fx_w {n s : Nat} {x : Int32} {F : Nat → Int32} {v : pM} {y : Int32} (h : mI v n = fx F s y) : mI (pI v n s x) n = fx F s x := by
  funext t
  by_cases e : t = s
  · rw [e, mI_eq, fx, if_pos rfl]
  · rw [mI_nk e, h, fx, fx, if_neg e, if_neg e]
theorem fx_w0 {n s : Nat} {x : Int32} {v : pM} : mI (pI v n s x) n = fx (mI v n) s x := by
  funext t
  by_cases e : t = s
  · rw [e, mI_eq, fx, if_pos rfl]
  · rw [mI_nk e, fx, if_neg e]
end MOD
