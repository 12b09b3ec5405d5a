section GON
variable {G : pG} {u : pM}
theorem c_imageFindingx {r : Nat} (hr : r < 6) (hC : InvC u) (hn : 0 < mI u (mR u 2 10) 0) (hm : 0 ≤ mI u (mR u 2 10) 1 ∧ mI u (mR u 2 10) 1 ≤ 7) : Ws G D_imageFinding 0 [(0, .ref 2), (1, .ref (50 + 2 * r))] [] u (RI fun a u' => u = u' ∧ ((a = 0 ∧ mI u (50 + 2 * r) 1 = mI u (mR u 2 10) 1 + 2 ∧ imK (mI u (mR u 2 10) 0) (mI u (mR u 2 10) 1) (mI u (51 + 2 * r))) ∨ (¬ a = 0 ∧ ¬ (mI u (50 + 2 * r) 1 = mI u (mR u 2 10) 1 + 2 ∧ imK (mI u (mR u 2 10) 0) (mI u (mR u 2 10) 1) (mI u (51 + 2 * r)))))) := by
  have z0 : (0 : Int32).toNatClampNeg = 0 := by decide
  have z1 : (1 : Int32).toNatClampNeg = 1 := by decide
  have bad : ∀ v : Int32, ¬ v = 0 → ¬ (mI u (50 + 2 * r) 1 = mI u (mR u 2 10) 1 + 2 ∧ imK (mI u (mR u 2 10) 0) (mI u (mR u 2 10) 1) (mI u (51 + 2 * r))) → (RI fun a u' => u = u' ∧ ((a = 0 ∧ mI u (50 + 2 * r) 1 = mI u (mR u 2 10) 1 + 2 ∧ imK (mI u (mR u 2 10) 0) (mI u (mR u 2 10) 1) (mI u (51 + 2 * r))) ∨ (¬ a = 0 ∧ ¬ (mI u (50 + 2 * r) 1 = mI u (mR u 2 10) 1 + 2 ∧ imK (mI u (mR u 2 10) 0) (mI u (mR u 2 10) 1) (mI u (51 + 2 * r)))))) (some (.int v)) u := fun v e n => ⟨_, rfl, rfl, .inr ⟨e, n⟩⟩
  refine sg_D_imageFinding_0 (rL hr).1 ⟨fun a hp => ⟨fun b => ?_, fun b => bad 5 (by decide) (fun z => b z.1)⟩, fun a => bad 1 (by decide) (fun z => a (by rw [z.1]; grind))⟩
  have ko := pl_ok hp
  have n30 := hC.2 _ ko
  have e0 : spG u (50 + 2 * r) 0 = mI u (51 + 2 * r) 0 := by rw [spG_at hr (by decide) (by rw [b]; grind) (by decide), z0]
  have e1 : spG u (50 + 2 * r) 1 = mI u (51 + 2 * r) 1 := by rw [spG_at hr (by decide) (by rw [b]; grind) (by decide), z1]
  rw [e0, e1]
  refine ⟨fun c => bad 3 (by decide) (fun z => absurd c (Int32.not_lt.mpr z.2.1.1)), fun c => ⟨fun d => bad 3 (by decide) (fun z => absurd d (Int32.not_lt.mpr z.2.1.2)), fun d _ => ⟨fun e => ⟨fun g => ?_, fun g => bad 3 (by decide) (fun z => g z.2.2.2.1)⟩, fun e => bad 3 (by decide) (fun z => e z.2.2.1)⟩⟩⟩
  have es : ∀ x : Int32, 0 ≤ x → x < mI u (mR u 2 10) 1 → spG u (50 + 2 * r) (x + 2) = mI u (51 + 2 * r) (2 + x.toNatClampNeg) := fun x x0 xm => by
    have x7 : x < 7 := Int32.lt_of_lt_of_le xm hm.2
    have k := (show ∀ i, i < 7 → (Int32.ofNat i + 2).toNatClampNeg = 2 + i from by decide) _ (ixn (n := 7) x0 x7 (by decide))
    rw [i32_nat x0] at k
    rw [spG_at hr (by grind) (by rw [b]; grind) (by grind), k]
  have key : ∀ x (x4 : Int32), 0 ≤ x → x ≤ mI u (mR u 2 10) 1 → (∀ s, s < x.toNatClampNeg → 0 ≤ mI u (51 + 2 * r) (2 + s) ∧ mI u (51 + 2 * r) (2 + s) < mI u (mR u 2 10) 0) → (∀ s q, s < q → q < x.toNatClampNeg → mI u (51 + 2 * r) (2 + s) ≠ mI u (51 + 2 * r) (2 + q)) → (∀ d : Int32, 0 ≤ d → d < 31 → (tb x4 d.toNatClampNeg = true ↔ ∃ s, s < x.toNatClampNeg ∧ mI u (51 + 2 * r) (2 + s) = d)) → Ws G D_imageFinding 76 [(0, .ref 2), (1, .ref (50 + 2 * r)), (4, .int x4), (5, .int x)] [] u (RI fun a u' => u = u' ∧ ((a = 0 ∧ mI u (50 + 2 * r) 1 = mI u (mR u 2 10) 1 + 2 ∧ imK (mI u (mR u 2 10) 0) (mI u (mR u 2 10) 1) (mI u (51 + 2 * r))) ∨ (¬ a = 0 ∧ ¬ (mI u (50 + 2 * r) 1 = mI u (mR u 2 10) 1 + 2 ∧ imK (mI u (mR u 2 10) 0) (mI u (mR u 2 10) 1) (mI u (51 + 2 * r)))))) := by
    refine upI (mI u (mR u 2 10) 1) _ (fun x ih x4 h0 hx hrg hds htk => ?_)
    refine sg_D_imageFinding_76 (rL hr).1 (fun _ => ⟨fun q => ⟨_, rfl, rfl, .inl ⟨rfl, b, ⟨Int32.not_lt.mp c, Int32.not_lt.mp d⟩, e, g, ?_, ?_⟩⟩, fun q _ => ?_⟩)
    · rw [Int32.le_antisymm hx q] at hrg; exact hrg
    · rw [Int32.le_antisymm hx q] at hds; exact hds
    have xm := Int32.not_le.mp q
    have xN := tn_lt h0 xm
    have sx := tn_succ h0 q
    rw [es x h0 xm]
    refine ⟨fun w => ?_, fun w => bad 3 (by decide) (fun z => w (z.2.2.2.2.1 _ xN))⟩
    have w31 : mI u (51 + 2 * r) (2 + x.toNatClampNeg) < 31 := Int32.lt_of_lt_of_le w.2 (Int32.le_trans n30 (by decide))
    have it := isI_tb (x := x4) w.1 w31
    refine ⟨fun t => bad 3 (by decide) (fun z => ?_), fun t => ih q _ (by grind) (by grind) (fun s hs => ?_) (fun s q' a1 a2 => ?_) (fun d' d0 d1 => ?_)⟩
    · obtain ⟨s, s1, s2⟩ := (htk _ w.1 w31).mp (it.mp t)
      exact z.2.2.2.2.2 s _ s1 xN s2
    · rw [sx] at hs
      by_cases e' : s = x.toNatClampNeg
      · rw [e']; exact w
      · exact hrg s (by omega)
    · rw [sx] at a2
      by_cases e' : q' = x.toNatClampNeg
      · rw [e']
        intro z
        exact t (it.mpr ((htk _ w.1 w31).mpr ⟨s, by omega, z⟩))
      · exact hds s q' a1 (by omega)
    · have dN : d'.toNatClampNeg < 31 := ixn (n := 31) d0 d1 (by decide)
      rw [tbo w.1 (Int32.lt_trans w31 (by decide)) (by omega), Bool.or_eq_true, htk d' d0 d1, sx]
      constructor
      · rintro (⟨s, s1, s2⟩ | z)
        · exact ⟨s, by omega, s2⟩
        · exact ⟨x.toNatClampNeg, by omega, (tn_inj d0 w.1 (of_decide_eq_true z)).symm⟩
      · rintro ⟨s, s1, s2⟩
        by_cases e' : s = x.toNatClampNeg
        · right; rw [← s2, e']; simp
        · exact .inl ⟨s, by omega, s2⟩
  refine key 0 0 (by decide) hm.1 (fun s hs => by omega) (fun s q _ hq => by omega) (fun d' _ _ => ?_)
  constructor
  · intro h; rw [tb_0] at h; exact absurd h (by decide)
  · rintro ⟨s, s1, _⟩; omega
end GON
