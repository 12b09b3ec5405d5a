/-! ===== ways: plainly ===== -/
/-- a kind and its k -/
def kdK (kind k : Int32) : Prop := (0 ≤ kind ∧ kind ≤ 5) ∧ (kind < 3 → k = 0) ∧ (3 ≤ kind → 2 ≤ k ∧ k ≤ 9)
section ANG
variable {G : pG} {u v : pM} {Q : Option Value → pM → Prop}
theorem shV.kd {s : Sh5} (h : shV s) : kdK s.1 s.2.2.2.2 := ⟨h.1, h.2.1, h.2.2.1⟩
end ANG
