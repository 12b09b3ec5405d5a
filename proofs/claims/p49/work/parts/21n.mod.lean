/-! ===== errands: which weeks may be ===== -/
def mayP (u : pM) (part w : Int32) (b : Nat) : Prop := ∀ s, s < b → tb part s = true → mI u 91 s = -9 ∨ mI u 91 s = w
section MOD
variable {G : pG} {u w : pM}
theorem e_mayIn {x1 x2 : Int32} (hM : InvM u) : Ws G m_mayIn 0 [(0, .ref 76), (1, .int x1), (2, .int x2)] [] u (RI fun a u' => u = u' ∧ (¬ a = 0 ↔ mayP u x1 x2 (mI u 76 11).toNatClampNeg)) := by
  have m7 := hM.m7
  have key : ∀ x (y : Int32), 0 ≤ x → x ≤ mI u 76 11 → (y = 0 ∨ y = 1) → (¬ y = 0 ↔ mayP u x1 x2 x.toNatClampNeg) → Ws G m_mayIn 5 [(0, .ref 76), (1, .int x1), (2, .int x2), (3, .int y), (4, .int x)] [] u (RI fun a u' => u = u' ∧ (¬ a = 0 ↔ mayP u x1 x2 (mI u 76 11).toNatClampNeg)) := by
    refine upI (mI u 76 11) _ (fun x ih y h0 h1 hy hP => ?_)
    refine sg_m_mayIn_5 ⟨fun c => ⟨vb01 hy, _, rfl, rfl, ?_⟩, fun c => ?_⟩
    · have e : x = mI u 76 11 := by grind
      rw [← e]; exact hP
    · have v7 : vp_in x 7 := vin h0 (show (_ : Int32) < 7 by grind) (by decide)
      have sx := tn_succ h0 c
      have dn : ∀ z : Int32, mayP u x1 x2 (x + 1).toNatClampNeg → mayP u x1 x2 x.toNatClampNeg := fun _ q s hs => q s (by omega)
      have up1 : mayP u x1 x2 x.toNatClampNeg → (tb x1 x.toNatClampNeg = true → mI u 91 x.toNatClampNeg = -9 ∨ mI u 91 x.toNatClampNeg = x2) → mayP u x1 x2 (x + 1).toNatClampNeg := fun q g s hs ht => by
        by_cases e : s = x.toNatClampNeg
        · rw [e] at ht ⊢; exact g ht
        · exact q s (by omega) ht
      have one : ¬ (1 : Int32) = 0 := by decide
      refine ⟨fun z => ih c _ (by grind) (by grind) (.inl rfl) ⟨fun q => absurd rfl q, fun q => absurd z (hP.mpr (dn 0 q))⟩, fun z => ⟨fun b => ih c _ (by grind) (by grind) (.inr rfl) ⟨fun _ => up1 (hP.mp z) (fun t => ?_), fun _ => one⟩, fun b => ⟨v7, fun g => ih c _ (by grind) (by grind) (.inr rfl) ⟨fun _ => up1 (hP.mp z) (fun _ => .inl g), fun _ => one⟩, fun g => ⟨v7, fun k => ih c _ (by grind) (by grind) (.inl rfl) ⟨fun q => absurd rfl q, fun q => ?_⟩, fun k => ih c _ (by grind) (by grind) (.inr rfl) ⟨fun _ => up1 (hP.mp z) (fun _ => .inr k), fun _ => one⟩⟩⟩⟩⟩
      · have f := tb_f h0 (by grind) b
        rw [f] at t; exact absurd t (by decide)
      · have t := tb_t h0 (by grind) b
        rcases q x.toNatClampNeg (by omega) t with r | r
        · exact absurd r g
        · exact absurd r k
  have z0 : (0 : Int32).toNatClampNeg = 0 := by decide
  exact sg_m_mayIn_0 (key 0 1 (by decide) m7.1 (.inr rfl) ⟨fun _ s hs => by omega, fun _ => by decide⟩)
end MOD
