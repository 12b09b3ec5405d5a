section ORD
variable {G : pG} {u : pM} {L : List Nat}
/-- the reference's taker: the first of those that are not done -/
theorem e_takerx {x1 : Int32} (hM : InvM u) (hc : cnt x1 (mI u 76 11).toNatClampNeg < (mI u 76 11).toNatClampNeg) : Ws G m_taker 0 [(0, .ref 76), (1, .int x1)] [] u (RI fun a u' => u = u' ∧ 0 ≤ a ∧ a < mI u 76 11 ∧ tb x1 a.toNatClampNeg = false ∧ ∀ q, q < (mI u 76 11).toNatClampNeg → tb x1 q = false → q ≠ a.toNatClampNeg → ahP (shM u) a.toNatClampNeg q) := by
  have m7 := hM.m7
  have key : ∀ x (y : Int32), 0 ≤ x → x ≤ mI u 76 11 → ((y = -9 ∧ ∀ j, j < x.toNatClampNeg → tb x1 j = true) ∨ (0 ≤ y ∧ y < mI u 76 11 ∧ tb x1 y.toNatClampNeg = false ∧ y.toNatClampNeg < x.toNatClampNeg ∧ ∀ q, q < x.toNatClampNeg → tb x1 q = false → q ≠ y.toNatClampNeg → ahP (shM u) y.toNatClampNeg q)) → Ws G m_taker 5 [(0, .ref 76), (1, .int x1), (2, .int y), (3, .int x)] [] u (RI fun a u' => u = u' ∧ 0 ≤ a ∧ a < mI u 76 11 ∧ tb x1 a.toNatClampNeg = false ∧ ∀ q, q < (mI u 76 11).toNatClampNeg → tb x1 q = false → q ≠ a.toNatClampNeg → ahP (shM u) a.toNatClampNeg q) := by
    refine upI (mI u 76 11) _ (fun x ih y h0 hx hT => ?_)
    refine sg_m_taker_5 ⟨fun c => ?_, fun c => ⟨fun b => ih c _ (er_up h0 c).1 (er_up h0 c).2 ?_, fun b => ?_⟩⟩
    · have ex := Int32.le_antisymm c hx
      rcases hT with ⟨_, hT⟩ | hT
      · have := cnt_full (x := x1) (mI u 76 11).toNatClampNeg (fun j hj => hT j (by have := tn_le c; omega))
        omega
      · rw [← ex] at hT
        exact ⟨_, rfl, rfl, hT.1, hT.2.1, hT.2.2.1, hT.2.2.2.2⟩
    · rw [tn_succ h0 c]
      have bx := tb_t h0 (by clear ih hT; grind) b
      rcases hT with ⟨e, hT⟩ | hT
      · refine .inl ⟨e, fun j hj => ?_⟩
        by_cases q : j = x.toNatClampNeg
        · rw [q]; exact bx
        · exact hT j (by omega)
      · refine .inr ⟨hT.1, hT.2.1, hT.2.2.1, by have := hT.2.2.2.1; omega, fun q hq hf hn => ?_⟩
        by_cases e : q = x.toNatClampNeg
        · rw [e, bx] at hf; exact absurd hf (by decide)
        · exact hT.2.2.2.2 q (by omega) hf hn
    · have fx := tb_f h0 (by clear ih hT; grind) b
      have sx := tn_succ h0 c
      have x6 : x ≤ 6 := by clear ih hT; grind
      have hB : (¬ y = -9 → keyP (shM u y.toNatClampNeg) < keyP (shM u x.toNatClampNeg)) → Ws G m_taker 5 [(0, .ref 76), (1, .int x1), (2, .int x), (3, .int (x + 1))] [] u (RI fun a u' => u = u' ∧ 0 ≤ a ∧ a < mI u 76 11 ∧ tb x1 a.toNatClampNeg = false ∧ ∀ q, q < (mI u 76 11).toNatClampNeg → tb x1 q = false → q ≠ a.toNatClampNeg → ahP (shM u) a.toNatClampNeg q) := fun hk => by
        refine ih c _ (er_up h0 c).1 (er_up h0 c).2 (.inr ⟨h0, Int32.not_le.mp c, fx, by omega, fun q hq hf hn => ?_⟩)
        have hq2 : q < x.toNatClampNeg := by omega
        rcases hT with ⟨_, hT⟩ | hT
        · rw [hT q hq2] at hf; exact absurd hf (by decide)
        · have y9 : ¬ y = -9 := fun e => by rw [e] at hT; exact absurd hT.1 (by decide)
          have a1 : ahP (shM u) x.toNatClampNeg y.toNatClampNeg := .inl (hk y9)
          by_cases e : q = y.toNatClampNeg
          · rw [e]; exact a1
          · exact a1.tr (hT.2.2.2.2 q hq2 hf e)
      have h2 : ¬ y = -9 → 0 ≤ y ∧ y < 7 := fun q => by
        rcases hT with ⟨e, _⟩ | hT
        · exact absurd e q
        · exact ⟨hT.1, Int32.lt_of_lt_of_le hT.2.1 m7.2⟩
      have hA : ¬ y = -9 → keyP (shM u x.toNatClampNeg) ≤ keyP (shM u y.toNatClampNeg) → Ws G m_taker 5 [(0, .ref 76), (1, .int x1), (2, .int y), (3, .int (x + 1))] [] u (RI fun a u' => u = u' ∧ 0 ≤ a ∧ a < mI u 76 11 ∧ tb x1 a.toNatClampNeg = false ∧ ∀ q, q < (mI u 76 11).toNatClampNeg → tb x1 q = false → q ≠ a.toNatClampNeg → ahP (shM u) a.toNatClampNeg q) := fun q hk => by
        rcases hT with ⟨e, _⟩ | hT
        · exact absurd e q
        · refine ih c _ (er_up h0 c).1 (er_up h0 c).2 (.inr ⟨hT.1, hT.2.1, hT.2.2.1, by have := hT.2.2.2.1; omega, fun q hq hf hn => ?_⟩)
          by_cases e : q = x.toNatClampNeg
          · rw [e]
            rcases Int32.lt_or_eq_of_le hk with r | r
            · exact .inl r
            · exact .inr ⟨r, hT.2.2.2.1⟩
          · exact hT.2.2.2.2 q (by omega) hf hn
      have kx : ∀ z : Int32, 0 ≤ z → z < 7 → keyP (shM u z.toNatClampNeg) = (if mI u 83 (5 * z + 0 : Int32).toNatClampNeg = 2 then 0 else 1000) + mI u 83 (5 * z + 3 : Int32).toNatClampNeg := fun z z0 z7 => by
        have I := ix5 z0 z7
        rw [I.1, I.2.2.2.1]; rfl
      have kX := kx x h0 (Int32.lt_of_le_of_lt x6 (by decide))
      refine ⟨v70 h0 (Int32.lt_of_le_of_lt x6 (by decide)) (by decide) (by decide), fun p => ⟨v70 h0 (Int32.lt_of_le_of_lt x6 (by decide)) (by decide) (by decide), fun y9 => hB (fun z => absurd y9 z), fun y9 => ?_⟩, fun p => ⟨v70 h0 (Int32.lt_of_le_of_lt x6 (by decide)) (by decide) (by decide), fun y9 => hB (fun z => absurd y9 z), fun y9 => ?_⟩⟩
      · have kY := kx y (h2 y9).1 (h2 y9).2
        rw [if_neg p] at kX
        have q2 := h2 y9
        refine ⟨v70 q2.1 q2.2 (by decide) (by decide), fun r => ⟨v70 q2.1 q2.2 (by decide) (by decide), fun t => hA y9 ?_, fun t => hB (fun _ => ?_)⟩, fun r => ⟨v70 q2.1 q2.2 (by decide) (by decide), fun t => hA y9 ?_, fun t => hB (fun _ => ?_)⟩⟩
        · rw [if_neg r] at kY; rw [kX, kY]; exact t
        · rw [if_neg r] at kY; rw [kX, kY]; exact Int32.not_le.mp t
        · rw [if_pos r] at kY; rw [kX, kY]; exact t
        · rw [if_pos r] at kY; rw [kX, kY]; exact Int32.not_le.mp t
      · have kY := kx y (h2 y9).1 (h2 y9).2
        rw [if_pos p] at kX
        have q2 := h2 y9
        refine ⟨v70 q2.1 q2.2 (by decide) (by decide), fun r => ⟨v70 q2.1 q2.2 (by decide) (by decide), fun t => hA y9 ?_, fun t => hB (fun _ => ?_)⟩, fun r => ⟨v70 q2.1 q2.2 (by decide) (by decide), fun t => hA y9 ?_, fun t => hB (fun _ => ?_)⟩⟩
        · rw [if_neg r] at kY; rw [kX, kY]; exact t
        · rw [if_neg r] at kY; rw [kX, kY]; exact Int32.not_le.mp t
        · rw [if_pos r] at kY; rw [kX, kY]; exact t
        · rw [if_pos r] at kY; rw [kX, kY]; exact Int32.not_le.mp t
  have z : (0 : Int32).toNatClampNeg = 0 := by decide
  exact sg_m_taker_0 (key 0 (-9) (by decide) m7.1 (.inl ⟨rfl, fun j hj => absurd hj (by omega)⟩))
end ORD
