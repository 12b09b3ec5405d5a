/-- one round for both is no longer than two -/
theorem IsR.add {n : Int32} {far : Nat → Int32} {m : Nat} {A B C a b c : Int32} (hn : n ≤ 30) (hA : IsR n far m A a) (hB : IsR n far m B b) (hC : IsR n far m C c) (hs : ∀ s, s < m → tb C s = true → tb A s = true ∨ tb B s = true) : c ≤ a + b := by
  have qA := hA.1
  have qB := hB.1
  have qC := hC.1
  rcases hA.2.2 with e | ⟨h1, l1, h1b, l1b, c1, e1⟩
  · grind
  rcases hB.2.2 with e | ⟨h2, l2, h2b, l2b, c2, e2⟩
  · grind
  unfold b30 at *
  have key : ∀ h l : Int32, (h = h1 ∨ h = h2) → (l = l1 ∨ l = l2) → h1 ≤ h → h2 ≤ h → l1 ≤ l → l2 ≤ l → c ≤ 2 * (h + l) := by
    intro h l eh el p1 p2 p3 p4
    refine hC.2.1 h l (by unfold b30; rcases eh with e | e <;> rw [e] <;> assumption) (by unfold b30; rcases el with e | e <;> rw [e] <;> assumption) (fun s hsm ht => ?_)
    rcases hs s hsm ht with q | q
    · rcases c1 s hsm q with r | r
      · exact .inl (Int32.le_trans r p1)
      · exact .inr (Int32.le_trans r p3)
    · rcases c2 s hsm q with r | r
      · exact .inl (Int32.le_trans r p2)
      · exact .inr (Int32.le_trans r p4)
  rcases Int32.le_total h1 h2 with q | q <;> rcases Int32.le_total l1 l2 with r | r
  · have := key h2 l2 (.inr rfl) (.inr rfl) q (Int32.le_refl _) r (Int32.le_refl _); grind
  · have := key h2 l1 (.inr rfl) (.inl rfl) q (Int32.le_refl _) (Int32.le_refl _) r; grind
  · have := key h1 l2 (.inl rfl) (.inr rfl) (Int32.le_refl _) q r (Int32.le_refl _); grind
  · have := key h1 l1 (.inl rfl) (.inl rfl) (Int32.le_refl _) q (Int32.le_refl _) r; grind
