/-! ===== again, wants, beside, round, best, agree ===== -/
/-- in how many two differ -/
def dfN (f g : Nat → Int32) : Nat → Nat
  | 0 => 0
  | s + 1 => dfN f g s + (if f s = g s then 0 else 1)
theorem dfN_le {f g : Nat → Int32} : ∀ m, dfN f g m ≤ m
  | 0 => Nat.le_refl _
  | m + 1 => by
    have := dfN_le (f := f) (g := g) m
    rw [dfN]
    split <;> omega
theorem dfN_cg {f g f' g' : Nat → Int32} : ∀ m, (∀ s, s < m → f' s = f s ∧ g' s = g s) → dfN f' g' m = dfN f g m
  | 0, _ => rfl
  | m + 1, e => by rw [dfN, dfN, dfN_cg m (fun s hs => e s (by omega)), (e m (by omega)).1, (e m (by omega)).2]
theorem ofN_s (k : Nat) : Int32.ofNat (k + 1) = Int32.ofNat k + 1 := by rw [show (1 : Int32) = Int32.ofNat 1 by rfl, ← Int32.ofNat_add]
theorem stU {x b : Int32} (h0 : 0 ≤ x) (c : ¬ b ≤ x) : 0 ≤ x + 1 ∧ x + 1 ≤ b := ⟨by grind, by grind⟩
section ANB
variable {G : pG} {u v : pM} {Q : Option Value → pM → Prop}
theorem c_differingx {o0 o1 : Nat} {x2 : Int32} (k0 : okS o0 5) (k1 : okS o1 5) (h2 : 0 ≤ x2 ∧ x2 ≤ 7) : Ws G Sn_differing 0 [(0, .ref o0), (1, .ref o1), (2, .int x2)] [] u (RI fun a u' => u = u' ∧ a = Int32.ofNat (dfN (mI u (o0 + 1)) (mI u (o1 + 1)) x2.toNatClampNeg)) := by
  refine sg_Sn_differing_0 k0 k1 ?_
  have key : ∀ x (x3 : Int32), 0 ≤ x → x ≤ x2 → x3 = Int32.ofNat (dfN (mI u (o0 + 1)) (mI u (o1 + 1)) x.toNatClampNeg) → Ws G Sn_differing 5 [(0, .ref o0), (1, .ref o1), (2, .int x2), (3, .int x3), (4, .int x)] [] u (RI fun a u' => u = u' ∧ a = Int32.ofNat (dfN (mI u (o0 + 1)) (mI u (o1 + 1)) x2.toNatClampNeg)) := by
    refine upI x2 _ (fun x ih x3 h0 hx h3 => ?_)
    refine sg_Sn_differing_5 k0 k1 ⟨fun c => ⟨_, rfl, rfl, by rw [h3, Int32.le_antisymm hx c]⟩, fun c => ?_⟩
    have x7 : x < 7 := Int32.lt_of_lt_of_le (Int32.not_le.mp c) h2.2
    have ed : ∀ o, snD u o x = mI u (o + 1) x.toNatClampNeg := fun o => by unfold snD; rw [if_pos ⟨h0, x7⟩]
    rw [ed o0, ed o1]
    have sx := tn_succ h0 c
    have su := stU h0 c
    refine ⟨fun d => ih c _ su.1 su.2 ?_, fun d => ih c _ su.1 su.2 ?_⟩
    · rw [sx, dfN, if_pos d, h3]; exact Int32.add_zero _
    · rw [sx, dfN, if_neg d, h3, ofN_s]
  exact key 0 0 (by decide) h2.1 rfl
/-! again -/
/-! wants -/
/-! beside -/
/-! round -/
/-! best -/
theorem st61 {x3 : Int32} (h : 0 ≤ x3 ∧ x3 ≤ 60) : 0 ≤ x3 + 1 ∧ (x3 + 1).toNatClampNeg = x3.toNatClampNeg + 1 := ⟨by have := h.1; have := h.2; grind, tn_succ (b := 61) h.1 (by have := h.2; grind)⟩
theorem st62 {x x3 : Int32} (h : 0 ≤ x3 ∧ x3 ≤ 60) (h0 : 0 ≤ x) (c : ¬ x3 < x) : ¬ x3 + 1 ≤ x ∧ 0 ≤ x + 1 ∧ x + 1 ≤ x3 + 1 := ⟨by have := h.1; have := h.2; grind, by have := h.1; have := h.2; grind, by have := h.1; have := h.2; grind⟩
theorem st63 {x x3 : Int32} (h : 0 ≤ x3 ∧ x3 ≤ 60) (h0 : 0 ≤ x) (hx : x ≤ x3 + 1) (c : x3 < x) : x.toNatClampNeg = x3.toNatClampNeg + 1 := by
  have : x = x3 + 1 := by have := h.1; have := h.2; grind
  rw [this]; exact (st61 h).2
end ANB
