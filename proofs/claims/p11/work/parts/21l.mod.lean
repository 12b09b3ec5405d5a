/-! ===== a text is read ===== -/
def Rd0 (u w : pM) : Prop := ∀ n k, ¬ (n = 76 ∧ (k = 13 ∨ k = 14 ∨ k = 15 ∨ k = 16)) → ¬ (n = 83 ∧ 35 ≤ k) → mI w n k = mI u n k
def shG (w : pM) : Prop := ∀ s : Int32, 0 ≤ s → s < mI w 76 16 → (3 ≤ mI w 83 (35 + 5 * s : Int32).toNatClampNeg → ¬ mI w 83 (35 + 5 * s + 4 : Int32).toNatClampNeg = 0) ∧ 0 ≤ mI w 83 (35 + 5 * s + 1 : Int32).toNatClampNeg ∧ mI w 83 (35 + 5 * s + 1 : Int32).toNatClampNeg < 30
def GI (t : Int32) (u v : pM) : Prop := PR t v ∧ Rd0 u v ∧ 0 ≤ mI v 76 16 ∧ mI v 76 16 ≤ 7 ∧ (mI v 76 15 = 0 ∨ (10 ≤ mI v 76 15 ∧ mI v 76 15 ≤ 30)) ∧ shG v
theorem ix_j {m : Int32} (h0 : 0 ≤ m) (h1 : m ≤ 6) : (35 + 5 * m + 1 : Int32).toNatClampNeg = (35 + 5 * m : Int32).toNatClampNeg + 1 ∧ (35 + 5 * m + 4 : Int32).toNatClampNeg = (35 + 5 * m : Int32).toNatClampNeg + 4 ∧ (35 + 5 * m : Int32).toNatClampNeg = 35 + 5 * m.toNatClampNeg := by
  have key : ∀ i, i < 7 → (35 + 5 * Int32.ofNat i + 1 : Int32).toNatClampNeg = (35 + 5 * Int32.ofNat i : Int32).toNatClampNeg + 1 ∧ (35 + 5 * Int32.ofNat i + 4 : Int32).toNatClampNeg = (35 + 5 * Int32.ofNat i : Int32).toNatClampNeg + 4 ∧ (35 + 5 * Int32.ofNat i : Int32).toNatClampNeg = 35 + 5 * i := by decide
  have l := tn_le h1
  have e : (6 : Int32).toNatClampNeg = 6 := by decide
  have := key m.toNatClampNeg (by omega)
  rw [i32_nat h0] at this
  exact this
theorem Rd0.mo {u w : pM} (h : Rd0 u w) (hM : InvM u) : Mo mB u w := by
  have m7 := hM.m7
  have q : ∀ n k, n ≠ 76 → n ≠ 83 → mI w n k = mI u n k := fun n k a b => h n k (by omega) (by omega)
  have f : ∀ k, k = 10 ∨ k = 11 ∨ k = 19 ∨ k = 28 → mI w 76 k = mI u 76 k := fun k hk => h 76 k (by omega) (by omega)
  obtain ⟨a, b, c, d, e, o⟩ := hM
  have i5 : ∀ i, i < 7 → (5 * Int32.ofNat i + 0 : Int32).toNatClampNeg < 35 ∧ (5 * Int32.ofNat i + 4 : Int32).toNatClampNeg < 35 := by decide
  have fp : Fp mB u w := fun n k hn => by
    refine h n k (fun z => hn ?_) (fun z => hn ?_)
    · rw [z.1]; rcases z.2 with e | e | e | e <;> rw [e] <;> decide
    · have : cd n k = 183 := by unfold cd; rw [z.1, if_neg (by decide), if_neg (by decide), if_pos ⟨rfl, z.2⟩]
      rw [this]; decide
  refine ⟨⟨fun n k => ?_, ?_, ?_, ?_, ?_, ?_⟩, fun n k hn => q n k (by omega) (by omega), fp⟩
  · by_cases n6 : n = 76
    · rw [n6]; exact ⟨fun z => by omega, fun z => by omega, fun z => by omega, fun z => by omega⟩
    · by_cases n8 : n = 83
      · rw [n8]; exact ⟨fun z => by omega, fun z => by omega, fun z => by omega, fun z => by omega⟩
      · rw [q n k n6 n8]; exact a n k
  · unfold szK at *; rw [f _ (by decide), f _ (by decide)]; exact b
  · unfold shK at *
    rw [f _ (by decide)]
    intro s s0 s1
    have l := tn_lt s0 s1
    have l2 := tn_le m7.2
    have e7 : (7 : Int32).toNatClampNeg = 7 := by decide
    have i6 := i5 s.toNatClampNeg (by omega)
    rw [i32_nat s0] at i6
    rw [h 83 _ (by omega) (by omega), h 83 _ (by omega) (by omega)]
    exact c s s0 s1
  · rw [f _ (by decide), f _ (by decide)]; exact d
  · unfold kpK at *
    rw [f _ (by decide)]
    intro k k0 k2
    rw [q _ _ (by decide) (by decide), q _ _ (by decide) (by decide)]
    exact ⟨(e k k0 k2).1, fun s => by rw [q _ _ (by decide) (by decide)]; exact (e k k0 k2).2 s⟩
  · rw [f _ (by decide)]; exact o
section MOD
variable {G : pG} {u w : pM}
theorem f_goesOn {x1 : Int32} (h1 : 0 ≤ x1 ∧ x1 ≤ 3) (hl : 0 ≤ mI u 81 (x1 : Int32).toNatClampNeg ∧ mI u 81 (x1 : Int32).toNatClampNeg ≤ 100) : Ws G m_goesOn 0 [(0, .ref 76), (1, .int x1)] [] u (RI fun a w => Rd0 u w ∧ (a = -9 → 10 ≤ mI w 76 15 ∧ mI w 76 15 ≤ 30 ∧ 0 ≤ mI w 76 16 ∧ mI w 76 16 ≤ 7 ∧ shG w)) := by
  have key : ∀ (k : Nat) v, (mI u 81 (x1 : Int32).toNatClampNeg).toInt - (mI v 76 13).toInt ≤ k → GI x1 u v → Ws G m_goesOn 15 [(0, .ref 76), (1, .int x1)] [] v (RI fun a w => Rd0 u w ∧ (a = -9 → 10 ≤ mI w 76 15 ∧ mI w 76 15 ≤ 30 ∧ 0 ≤ mI w 76 16 ∧ mI w 76 16 ≤ 7 ∧ shG w)) := by
    intro k
    induction k with
    | zero =>
      intro v hk hG
      obtain ⟨p, r, m0, m7, d, s⟩ := hG
      have hL : mI v 81 (x1 : Int32).toNatClampNeg = mI u 81 (x1 : Int32).toNatClampNeg := r _ _ (by omega) (by omega)
      refine sg_m_goesOn_15 ⟨p.v4, fun _ => ⟨fun z => ⟨_, rfl, r, fun _ => ?_⟩, fun z => ⟨p.v4, _, rfl, r, fun y => ?_⟩⟩, fun c => ?_⟩
      · have := d.resolve_left z
        exact ⟨this.1, this.2, m0, m7, s⟩
      · rw [hL] at y; grind
      · have c1 := Int32.lt_iff_toInt_lt.mp (Int32.not_le.mp c)
        rw [hL] at c1
        omega
    | succ k ih =>
      intro v hk hG
      obtain ⟨p, r, m0, m7, d, s⟩ := id hG
      have hL : mI v 81 (x1 : Int32).toNatClampNeg = mI u 81 (x1 : Int32).toNatClampNeg := r _ _ (by omega) (by omega)
      have nx : ∀ w, mI v 76 13 < mI w 76 13 → (mI u 81 (x1 : Int32).toNatClampNeg).toInt - (mI w 76 13).toInt ≤ k := fun w q => by
        have := Int32.lt_iff_toInt_lt.mp q
        omega
      have ng : ∀ w, PR x1 w → mI w 76 13 = -9 → False := fun w pw q => by
        have := pw.2.2.1
        rw [q] at this
        exact absurd this (by decide)
      refine sg_m_goesOn_15 ⟨p.v4, fun _ => ⟨fun z => ⟨_, rfl, r, fun _ => ?_⟩, fun z => ⟨p.v4, _, rfl, r, fun y => ?_⟩⟩, fun c => ⟨p.v4, p.v400, fun _ => ⟨fun z => kI (f_readsShop p ⟨m0, m7⟩ (d.resolve_left z)) (fun a w h => ?_), fun z => kI (f_readsDoors p) (fun a w h => ?_)⟩, fun z => ?_⟩⟩
      · have := d.resolve_left z
        exact ⟨this.1, this.2, m0, m7, s⟩
      · rw [hL] at y; grind
      · have rw0 : Rd0 u w := fun n j a b => by
          have i35 : 35 ≤ bB v := by
            by_cases q : mI v 76 16 ≤ 6
            · have := (ix_j m0 q).2.2
              unfold bB; omega
            · have q7 : mI v 76 16 = 7 := by grind
              unfold bB; rw [q7]; decide
          rw [h.1 n j (by omega) (by omega)]
          exact r n j a b
        refine ⟨fun y => ?_, fun y => ⟨_, rfl, rw0, fun q => (ng w h.2.1 q).elim⟩⟩
        obtain ⟨g1, g2, g3, g4, g5, g6⟩ := h.2.2.2 y
        refine ih w (nx w g1) ⟨h.2.1, rw0, by grind, by grind, ?_, fun s' a b => ?_⟩
        · rw [h.1 76 15 (by omega) (by omega)]; exact d
        · rw [g2] at b
          have I := ix_j m0 g6
          by_cases e : s' = mI v 76 16
          · rw [e, I.1, I.2.1]
            exact ⟨g3, g4, g5⟩
          · have b2 : s' < mI v 76 16 := by grind
            have J := ix_j a (show s' ≤ 6 by grind)
            have lt := tn_lt a b2
            have I3 := I.2.2
            have J3 := J.2.2
            have hb : bB v = 35 + 5 * (mI v 76 16).toNatClampNeg := I3
            have g := s s' a b2
            rw [J.1, J.2.1, J3] at g ⊢
            rw [h.1 83 _ (by omega) (by omega), h.1 83 _ (by omega) (by omega), h.1 83 _ (by omega) (by omega)]
            exact g
      · have rw0 : Rd0 u w := fun n j a b => by
          rw [h.1 n j (by omega)]
          exact r n j a b
        refine ⟨fun y => ih w (nx w (h.2.2.1 y).1) ⟨h.2.1, rw0, ?_, ?_, .inr (h.2.2.1 y).2, ?_⟩, fun y => ⟨_, rfl, rw0, fun q => (ng w h.2.1 q).elim⟩⟩
        · rw [h.1 76 16 (by omega)]; exact m0
        · rw [h.1 76 16 (by omega)]; exact m7
        · unfold shG at *
          rw [h.1 76 16 (by omega)]
          intro s' a b
          rw [h.1 83 _ (by omega), h.1 83 _ (by omega), h.1 83 _ (by omega)]
          exact s s' a b
      · have hh : mI v 76 13 < mI v 81 (x1 : Int32).toNatClampNeg := Int32.not_le.mp c
        obtain ⟨pa, pb, pc, pd, pe⟩ := id p
        refine ih _ (nx _ (by rw [mI_eq]; grind)) ⟨⟨pa, pb, by rw [mI_eq]; grind, by rw [mI_eq, mI_ne (by decide)]; grind, by rw [mI_ne (by decide)]; exact pe⟩, fun n j a b => ?_, by rw [mI_nk (by decide)]; exact m0, by rw [mI_nk (by decide)]; exact m7, by rw [mI_nk (by decide)]; exact d, ?_⟩
        · show up2 (mI v) 76 13 _ n j = _
          rw [up2, if_neg (by omega)]
          exact r n j a b
        · unfold shG at *
          rw [mI_nk (by decide)]
          intro s' a b
          rw [mI_ne (by decide), mI_ne (by decide), mI_ne (by decide)]
          exact s s' a b
  refine sg_m_goesOn_0 (key ((mI u 81 (x1 : Int32).toNatClampNeg).toInt.toNat) _ ?_ ⟨⟨h1.1, h1.2, ?_, ?_, ?_⟩, fun n j a b => ?_, ?_, ?_, ?_, ?_⟩)
  · rw [mI_nk (by decide), mI_nk (by decide), mI_eq]
    have d0 : (0 : Int32).toInt = 0 := by decide
    omega
  · rw [mI_nk (by decide), mI_nk (by decide), mI_eq]; decide
  · rw [mI_nk (by decide), mI_nk (by decide), mI_eq, mI_ne (by decide), mI_ne (by decide), mI_ne (by decide)]; exact hl.1
  · rw [mI_ne (by decide), mI_ne (by decide), mI_ne (by decide)]; exact hl.2
  · show up2 (up2 (up2 (mI u) 76 13 0) 76 15 0) 76 16 0 n j = _
    rw [up2, if_neg (by omega), up2, if_neg (by omega), up2, if_neg (by omega)]
  · rw [mI_eq]; decide
  · rw [mI_eq]; decide
  · rw [mI_nk (by decide), mI_eq]; exact .inl rfl
  · unfold shG
    rw [mI_eq]
    intro s a b
    exact absurd b (by grind)
theorem e_fault {x1 : Int32} (hM : InvM u) : Ws G m_fault 0 [(0, .ref 76), (1, .int x1)] [] u (RI fun _ u' => Mo mB u u') := by
  refine sg_m_fault_0 (kI e_askedText (fun a v h => ⟨fun c => ?_, fun c => lfM hM h.1.up⟩))
  obtain ⟨rfl, r0, r5, s0⟩ := h.2 c
  exact kI (f_goesOn ⟨r0, r5⟩ ⟨s0, hM.b81 _⟩) (fun _ w h => ⟨_, rfl, h.1.mo hM⟩)
end MOD
