/-! ===== at, lay, mean, about: what they tell ===== -/
def atQ (sz x1 x2 a : Int32) (B F1 F2 T : Prop) : Prop := (¬ (0 ≤ x1 ∧ x1 < 6) ∧ a = -1 ∧ B) ∨ ((0 ≤ x1 ∧ x1 < 6) ∧ ¬ 0 ≤ sz ∧ a = -3 ∧ F1) ∨ ((0 ≤ x1 ∧ x1 < 6) ∧ 0 ≤ sz ∧ ¬ (0 ≤ x2 ∧ x2 < sz) ∧ a = -3 ∧ F2) ∨ ((0 ≤ x1 ∧ x1 < 6) ∧ 0 ≤ sz ∧ (0 ≤ x2 ∧ x2 < sz) ∧ a = 1 ∧ T)
def smF (f : Nat → Int32) : Nat → Int64
  | 0 => 0
  | k + 1 => smF f k + (f k).toInt64
def meaV (sz : Int32) (f : Nat → Int32) : Int32 := (smF f sz.toNatClampNeg / sz.toInt64).toInt32
def meaQ (sz x1 a : Int32) (B F1 F4 T : Prop) : Prop := (¬ (0 ≤ x1 ∧ x1 < 6) ∧ a = -1 ∧ B) ∨ ((0 ≤ x1 ∧ x1 < 6) ∧ ¬ 0 ≤ sz ∧ a = -3 ∧ F1) ∨ ((0 ≤ x1 ∧ x1 < 6) ∧ 0 ≤ sz ∧ ¬ 0 < sz ∧ a = -3 ∧ F4) ∨ ((0 ≤ x1 ∧ x1 < 6) ∧ 0 ≤ sz ∧ 0 < sz ∧ a = 1 ∧ T)
section AT8
variable {G : pG} {u v : pM} {Q : Option Value → pM → Prop}
theorem d_atq {x1 x2 : Int32} (hC : InvC u) (hQ : ∀ a u', atQ (mI u (50 + 2 * x1.toNatClampNeg) 1) x1 x2 a (u' = u) (u' = dF u 1) (u' = dF u 2) (u' = pI u 2 12 (mI u (51 + 2 * x1.toNatClampNeg) x2.toNatClampNeg)) → Q (some (.int a)) u') : Ws G D_at 0 [(0, .ref 2), (1, .int x1), (2, .int x2)] [] u Q := by
  refine sg_D_at_0 ⟨fun a => ?_, fun a => hQ _ _ (.inl ⟨a, rfl, rfl⟩)⟩
  obtain ⟨e, hr⟩ := rO a
  have k0 := (rL hr).1
  have z := (rL hr).2
  have hs := hC.1 _ k0
  rw [z] at hs
  rw [e]
  refine sg_D_placeFinding_0 k0 ⟨fun b => ⟨fun c => ⟨_, rfl, fun _ => ?_, fun q => absurd rfl q⟩, fun c => ⟨_, rfl, fun q => absurd q (by decide), fun _ => hQ _ _ (.inr (.inr (.inl ⟨a, b, fun q => c ⟨q.1, q.2, ?_⟩, rfl, rfl⟩)))⟩⟩, fun b => ⟨_, rfl, fun q => absurd q (by decide), fun _ => hQ _ _ (.inr (.inl ⟨a, b, rfl, rfl⟩))⟩⟩
  · have c1 : 0 ≤ x2 ∧ x2 < mI u (50 + 2 * x1.toNatClampNeg) 1 ∧ x2 < Int32.ofNat (S0 (50 + 2 * x1.toNatClampNeg + 1)).2 := c
    refine hQ _ _ (.inr (.inr (.inr ⟨a, b, ⟨c1.1, c1.2.1⟩, rfl, ?_⟩)))
    unfold spG
    rw [if_pos c1, show 50 + 2 * x1.toNatClampNeg + 1 = 51 + 2 * x1.toNatClampNeg by omega]
  · rw [z]
    exact Int32.lt_of_lt_of_le q.2 hs
theorem d_layq {x1 x2 x3 : Int32} (hC : InvC u) (hQ : ∀ a u', atQ (mI u (50 + 2 * x1.toNatClampNeg) 1) x1 x2 a (u' = u) (u' = dF u 1) (u' = dF u 2) (u' = pI (pI u (51 + 2 * x1.toNatClampNeg) x2.toNatClampNeg x3) 2 12 (mI u (51 + 2 * x1.toNatClampNeg) x2.toNatClampNeg)) → Q (some (.int a)) u') : Ws G D_lay 0 [(0, .ref 2), (1, .int x1), (2, .int x2), (3, .int x3)] [] u Q := by
  refine sg_D_lay_0 ⟨fun a => ?_, fun a => hQ _ _ (.inl ⟨a, rfl, rfl⟩)⟩
  obtain ⟨e, hr⟩ := rO a
  have k0 := (rL hr).1
  have z := (rL hr).2
  have hs := hC.1 _ k0
  rw [z] at hs
  rw [e]
  refine sg_D_placeFinding_0 k0 ⟨fun b => ⟨fun c => ⟨_, rfl, fun _ => ?_, fun q => absurd rfl q⟩, fun c => ⟨_, rfl, fun q => absurd q (by decide), fun _ => hQ _ _ (.inr (.inr (.inl ⟨a, b, fun q => c ⟨q.1, q.2, ?_⟩, rfl, rfl⟩)))⟩⟩, fun b => ⟨_, rfl, fun q => absurd q (by decide), fun _ => hQ _ _ (.inr (.inl ⟨a, b, rfl, rfl⟩))⟩⟩
  · have c1 : 0 ≤ x2 ∧ x2 < mI u (50 + 2 * x1.toNatClampNeg) 1 ∧ x2 < Int32.ofNat (S0 (50 + 2 * x1.toNatClampNeg + 1)).2 := c
    refine hQ _ _ (.inr (.inr (.inr ⟨a, b, ⟨c1.1, c1.2.1⟩, rfl, ?_⟩)))
    unfold spG spS
    rw [if_pos c1, if_pos c1, show 50 + 2 * x1.toNatClampNeg + 1 = 51 + 2 * x1.toNatClampNeg by omega]
  · rw [z]
    exact Int32.lt_of_lt_of_le q.2 hs
theorem c_sumx {o0 : Nat} (k0 : okS o0 6) (hz : mI u o0 1 ≤ Int32.ofNat (S0 (o0 + 1)).2) (h0 : 0 ≤ mI u o0 1) : Ws G Sp_sum 0 [(0, .ref o0)] [] u (RJ fun a u' => u = u' ∧ a = smF (mI u (o0 + 1)) (mI u o0 1).toNatClampNeg) := by
  have z0 : (0 : Int32).toNatClampNeg = 0 := by decide
  have key : ∀ (x : Int32) (y : Int64), 0 ≤ x → x ≤ mI u o0 1 → y = smF (mI u (o0 + 1)) x.toNatClampNeg → Ws G Sp_sum 4 [(0, .ref o0), (1, .long y), (3, .int x)] [] u (RJ fun a u' => u = u' ∧ a = smF (mI u (o0 + 1)) (mI u o0 1).toNatClampNeg) := by
    refine upI (mI u o0 1) _ (fun x ih y x0 hx e => sg_Sp_sum_4 k0 ⟨fun c => ⟨_, rfl, rfl, by rw [e, Int32.le_antisymm hx c]⟩, fun c => ?_⟩)
    have xm := Int32.not_le.mp c
    have su := stU x0 c
    have eg : spG u o0 x = mI u (o0 + 1) x.toNatClampNeg := by
      unfold spG
      rw [if_pos ⟨x0, xm, Int32.lt_of_lt_of_le xm hz⟩]
    rw [eg]
    exact ih c _ su.1 su.2 (by rw [tn_succ x0 c, smF, e])
  exact sg_Sp_sum_0 k0 (key 0 0 (by decide) h0 (by rw [z0]; rfl))
theorem d_meanq {x1 : Int32} (hC : InvC u) (hQ : ∀ a u', meaQ (mI u (50 + 2 * x1.toNatClampNeg) 1) x1 a (u' = u) (u' = dF u 1) (u' = dF u 4) (u' = pI u 2 12 (meaV (mI u (50 + 2 * x1.toNatClampNeg) 1) (mI u (51 + 2 * x1.toNatClampNeg)))) → Q (some (.int a)) u') : Ws G D_mean 0 [(0, .ref 2), (1, .int x1)] [] u Q := by
  refine sg_D_mean_0 ⟨fun a => ?_, fun a => hQ _ _ (.inl ⟨a, rfl, rfl⟩)⟩
  obtain ⟨e, hr⟩ := rO a
  have k0 := (rL hr).1
  have hs := hC.1 _ k0
  rw [e]
  refine ⟨fun b => ⟨fun c => kJ (c_sumx k0 hs b) (fun y v q => ?_), fun c => hQ _ _ (.inr (.inr (.inl ⟨a, b, c, rfl, rfl⟩)))⟩, fun b => hQ _ _ (.inr (.inl ⟨a, b, rfl, rfl⟩))⟩
  obtain ⟨rfl, ey⟩ := q
  refine ⟨i64_ne c, hQ _ _ (.inr (.inr (.inr ⟨a, b, c, rfl, ?_⟩)))⟩
  unfold meaV
  rw [ey, show 50 + 2 * x1.toNatClampNeg + 1 = 51 + 2 * x1.toNatClampNeg by omega]
theorem e_atq {x1 x2 : Int32} (hM : InvM u) (hQ : ∀ a u', atQ (mI u 78 x1.toNatClampNeg) x1 x2 a (u' = u) (u' = mt u 1) (u' = mt u 2) (u' = pI u 76 2 (mI u 79 (40 * x1.toNatClampNeg + x2.toNatClampNeg))) → Q (some (.int a)) u') : Ws G m_at 0 [(0, .ref 76), (1, .int x1), (2, .int x2)] [] u Q := by
  have b40 := hM.b78 x1.toNatClampNeg
  refine sg_m_at_0 (sg_m_askedRow_0 ⟨fun a => ?_, fun a => ⟨_, rfl, fun q => absurd q (by decide), fun _ => hQ _ _ (.inl ⟨fun z => a ⟨z.1, by obtain ⟨p, q⟩ := z; grind⟩, rfl, rfl⟩)⟩⟩)
  have a' : 0 ≤ x1 ∧ x1 < 6 := ⟨a.1, by obtain ⟨p, q⟩ := a; grind⟩
  have v6 : vp_in x1 6 := vin a'.1 (show (_ : Int32) < 6 from a'.2) (by decide)
  refine ⟨v6, fun b => ⟨_, rfl, fun _ => ⟨v6, fun c => ?_, fun c => hQ _ _ (.inr (.inr (.inl ⟨a', b, fun q => c ⟨q.1, ?_⟩, rfl, rfl⟩)))⟩, fun q => absurd (by decide) q⟩, fun b => ⟨_, rfl, fun q => absurd q (by decide), fun _ => hQ _ _ (.inr (.inl ⟨a', b, rfl, rfl⟩))⟩⟩
  · have c2 : x2 < mI u 78 x1.toNatClampNeg := by
      obtain ⟨c1, c2⟩ := c
      generalize mI u 78 x1.toNatClampNeg = S at *
      grind
    have l40 : x2 < 40 := Int32.lt_of_lt_of_le c2 b40
    have c1 := c.1
    rw [ix40 a ⟨c.1, l40⟩]
    obtain ⟨p, q⟩ := a'
    exact ⟨vin (by grind) (show (_ : Int32) < 240 by grind) (by decide), hQ _ _ (.inr (.inr (.inr ⟨⟨p, q⟩, b, ⟨c1, c2⟩, rfl, rfl⟩)))⟩
  · obtain ⟨q1, q2⟩ := q
    generalize mI u 78 x1.toNatClampNeg = S at *
    grind
theorem e_layq {x1 x2 x3 : Int32} (hM : InvM u) (hQ : ∀ a u', atQ (mI u 78 x1.toNatClampNeg) x1 x2 a (u' = u) (u' = mt u 1) (u' = mt u 2) (u' = pI (pI u 76 2 (mI u 79 (40 * x1.toNatClampNeg + x2.toNatClampNeg))) 79 (40 * x1.toNatClampNeg + x2.toNatClampNeg) x3) → Q (some (.int a)) u') : Ws G m_lay 0 [(0, .ref 76), (1, .int x1), (2, .int x2), (3, .int x3)] [] u Q := by
  refine sg_m_lay_0 (e_atq hM (fun a v h => ⟨_, rfl, fun c => ?_, fun c => ?_⟩))
  · rcases h with ⟨_, e, _⟩ | ⟨_, _, e, _⟩ | ⟨_, _, _, e, _⟩ | ⟨k, b, d, e, ev⟩
    · rw [e] at c; exact absurd c (by decide)
    · rw [e] at c; exact absurd c (by decide)
    · rw [e] at c; exact absurd c (by decide)
    · have l40 : x2 < 40 := Int32.lt_of_lt_of_le d.2 (hM.b78 _)
      have r5 : 0 ≤ x1 ∧ x1 ≤ 5 := ⟨k.1, by obtain ⟨p, q⟩ := k; grind⟩
      rw [ix40 r5 ⟨d.1, l40⟩, ev]
      have d1 := d.1
      obtain ⟨p, q⟩ := k
      exact ⟨vin (by clear ev; grind) (show (_ : Int32) < 240 by clear ev; grind) (by decide), hQ _ _ (.inr (.inr (.inr ⟨⟨p, q⟩, b, d, rfl, rfl⟩)))⟩
  · rcases h with ⟨k, e, ev⟩ | ⟨k, b, e, ev⟩ | ⟨k, b, d, e, ev⟩ | ⟨k, b, d, e, ev⟩
    · exact hQ _ _ (.inl ⟨k, e, ev⟩)
    · exact hQ _ _ (.inr (.inl ⟨k, b, e, ev⟩))
    · exact hQ _ _ (.inr (.inr (.inl ⟨k, b, d, e, ev⟩)))
    · rw [e] at c; exact absurd (by decide) c
theorem e_meanq {x1 : Int32} (hM : InvM u) (hQ : ∀ a u', meaQ (mI u 78 x1.toNatClampNeg) x1 a (u' = u) (u' = mt u 1) (u' = mt u 4) (u' = pI u 76 2 (meaV (mI u 78 x1.toNatClampNeg) (fun k => mI u 79 (40 * x1.toNatClampNeg + k)))) → Q (some (.int a)) u') : Ws G m_mean 0 [(0, .ref 76), (1, .int x1)] [] u Q := by
  have b40 := hM.b78 x1.toNatClampNeg
  have z0 : (0 : Int32).toNatClampNeg = 0 := by decide
  refine sg_m_mean_0 (sg_m_askedRow_0 ⟨fun a => ?_, fun a => ⟨_, rfl, fun q => absurd q (by decide), fun _ => hQ _ _ (.inl ⟨fun z => a ⟨z.1, by obtain ⟨p, q⟩ := z; grind⟩, rfl, rfl⟩)⟩⟩)
  have a' : 0 ≤ x1 ∧ x1 < 6 := ⟨a.1, by obtain ⟨p, q⟩ := a; grind⟩
  have v6 : vp_in x1 6 := vin a'.1 (show (_ : Int32) < 6 from a'.2) (by decide)
  refine ⟨v6, fun b => ⟨_, rfl, fun _ => ?_, fun q => absurd (by decide) q⟩, fun b => ⟨_, rfl, fun q => absurd q (by decide), fun _ => hQ _ _ (.inr (.inl ⟨a', b, rfl, rfl⟩))⟩⟩
  have key : ∀ (x : Int32) (y : Int64), 0 ≤ x → x ≤ mI u 78 x1.toNatClampNeg → y = smF (fun k => mI u 79 (40 * x1.toNatClampNeg + k)) x.toNatClampNeg → Ws G m_mean 17 [(0, .ref 76), (1, .int x1), (3, .long y), (5, .int x)] [] u Q := by
    refine upI (mI u 78 x1.toNatClampNeg) _ (fun x ih y h0 hx e => sg_m_mean_17 ⟨v6, fun c => ⟨v6, fun d => ⟨v6, ?_⟩, fun d => hQ _ _ (.inr (.inr (.inl ⟨a', b, fun z => by rw [d] at z; exact absurd z (by decide), rfl, rfl⟩)))⟩, fun c => ?_⟩)
    · have sp : 0 < mI u 78 x1.toNatClampNeg := by
        generalize mI u 78 x1.toNatClampNeg = S at *
        clear ih
        grind
      refine ⟨i64_ne sp, hQ _ _ (.inr (.inr (.inr ⟨a', b, sp, rfl, ?_⟩)))⟩
      unfold meaV
      rw [e, Int32.le_antisymm hx c]
    · have xm := Int32.not_le.mp c
      have l40 : x < 40 := Int32.lt_of_lt_of_le xm b40
      have su := stU h0 c
      rw [ix40 a ⟨h0, l40⟩]
      refine ⟨vin (by clear ih; grind) (show (_ : Int32) < 240 by clear ih; grind) (by decide), ih c _ su.1 su.2 ?_⟩
      rw [tn_succ h0 c, smF, e]
  exact key 0 0 (by decide) b (by rw [z0]; rfl)
end AT8
