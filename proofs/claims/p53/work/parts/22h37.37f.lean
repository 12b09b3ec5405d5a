/-! ===== by remainders: meets, never, joins, quiet, busy ===== -/
theorem bcV_p (x : Int32) : 0 ≤ bcV x := by
  rw [(bcV_cnt x).1]
  exact (show ∀ k, k < 33 → 0 ≤ Int32.ofNat k from by decide) _ (by have := (bcV_cnt x).2; omega)
def gapV (dr : Nat → Int32) (x1 x2 : Int32) : Int32 := dr x2.toNatClampNeg - dr x1.toNatClampNeg
def gnV (sh : Nat → Sh5) (x1 x2 : Int32) : Int32 := (sh x2.toNatClampNeg).2.2.1 - (sh x1.toNatClampNeg).2.2.1
section ANF
variable {G : pG} {u v : pM} {Q : Option Value → pM → Prop}
/-! meets -/
/-! never -/
/-! joins -/
/-! quiet, busy: door and step by one number -/
end ANF
