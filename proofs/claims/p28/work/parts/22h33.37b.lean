/-! ===== again, wants, beside, round, best, agree ===== -/
section ANB
variable {G : pG} {u v : pM} {Q : Option Value → pM → Prop}
/-! again -/
/-! wants -/
/-! beside -/
def besK (m x1 x2 : Int32) : Prop := (0 ≤ x1 ∧ x1 < m) ∧ (0 ≤ x2 ∧ x2 < m) ∧ ¬ x1 = x2
theorem c_areTwox {x1 x2 : Int32} (hm : mI u (mR u 2 10) 1 ≤ 7) : Ws G D_areTwo 0 [(0, .ref 2), (1, .int x1), (2, .int x2)] [] u (RI fun a u' => u = u' ∧ (¬ a = 0 ↔ besK (mI u (mR u 2 10) 1) x1 x2)) := by
  refine sg_D_areTwo_0 (fun _ => ⟨fun a _ => ⟨fun b => ⟨fun c => ⟨_, rfl, rfl, ?_⟩, fun c => ⟨_, rfl, rfl, ?_⟩⟩, fun b => ⟨_, rfl, rfl, ?_⟩⟩, fun a => ⟨_, rfl, rfl, ?_⟩⟩)
  · exact ⟨fun z => absurd rfl z, fun z => absurd c z.2.2⟩
  · exact ⟨fun _ => ⟨⟨a.1, a.2.1⟩, ⟨b.1, b.2.1⟩, c⟩, fun _ => by decide⟩
  · exact ⟨fun z => absurd rfl z, fun z => (b ⟨z.2.1.1, z.2.1.2, Int32.lt_of_lt_of_le z.2.1.2 hm⟩).elim⟩
  · exact ⟨fun z => absurd rfl z, fun z => (a ⟨z.1.1, z.1.2, Int32.lt_of_lt_of_le z.1.2 hm⟩).elim⟩
/-! round -/
/-! best -/
end ANB
