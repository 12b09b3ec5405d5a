section CPY
variable {G : pG} {u : pM}
theorem e_imagey {x1 : Int32} (hM : InvM u) : Ws G m_image 0 [(0, .ref 76), (1, .int x1)] [] u (RI fun a u' => Mo (mB ++ mRw) u u' ∧ imaV (mI u 76 10) (mI u 76 11) x1 = a ∧ rmP u u' ((0 ≤ x1 ∧ x1 < 6) ∧ 0 < mI u 76 10) x1.toNatClampNeg (mI u 76 11 + 2) (imaF (mI u 76 11).toNatClampNeg (mI u 76 18) (mI u 76 19) (mI u 84))) := by
  have m7 := hM.m7
  have n30 := hM.n30
  refine sg_m_image_0 ⟨fun a => ⟨fun b => ?_, fun b => ⟨_, rfl, Mo.rf hM, ?_, .inr ⟨fun z => ?_, rmK.rf⟩⟩⟩, fun a => ⟨_, rfl, Mo.rf hM, ?_, .inr ⟨fun z => a ⟨z.1.1, by have := z.1.2; grind⟩, rmK.rf⟩⟩⟩
  rotate_left
  · unfold imaV; rw [if_pos ⟨a.1, by grind⟩, b, if_neg (by decide)]
  · have := z.2; rw [b] at this; exact absurd this (by decide)
  · unfold imaV; rw [if_neg (fun z => a ⟨z.1, by have := z.2; grind⟩)]
  have a6 : 0 ≤ x1 ∧ x1 < 6 := ⟨a.1, by grind⟩
  have hn : 0 < mI u 76 10 := by grind
  have m40 : mI u 76 11 + 2 ≤ 40 ∧ 0 ≤ mI u 76 11 + 2 := by grind
  have key : ∀ x v, 0 ≤ x → x ≤ mI u 76 11 → Mq (mB ++ mRw) u v → (∀ n k, n ≠ 78 → n ≠ 79 → mI v n k = mI u n k) → rmS u v x1.toNatClampNeg (mI u 76 11 + 2) (imaF x.toNatClampNeg (mI u 76 18) (mI u 76 19) (mI u 84)) → Ws G m_image 53 [(0, .ref 76), (1, .int x1), (2, .int x)] [] v (RI fun a u' => Mo (mB ++ mRw) u u' ∧ imaV (mI u 76 10) (mI u 76 11) x1 = a ∧ rmP u u' ((0 ≤ x1 ∧ x1 < 6) ∧ 0 < mI u 76 10) x1.toNatClampNeg (mI u 76 11 + 2) (imaF (mI u 76 11).toNatClampNeg (mI u 76 18) (mI u 76 19) (mI u 84))) := by
    refine upI (mI u 76 11) _ (fun x ih v h0 hx hq hf hS => ?_)
    have e := hq.m
    refine sg_m_image_53 ⟨fun c => ⟨_, rfl, hq.mo hM, by unfold imaV; rw [if_pos a6, if_pos hn, e], .inl ⟨⟨a6, hn⟩, by rw [e] at c; rw [Int32.le_antisymm hx c] at hS; exact hS⟩⟩, fun c => ?_⟩
    rw [e] at c
    have x7 : x < 7 := Int32.lt_of_lt_of_le (Int32.not_le.mp c) m7.2
    have xN : x.toNatClampNeg < 7 := ixn (n := 7) h0 x7 (by decide)
    have e2 : (2 + x).toNatClampNeg = 2 + x.toNatClampNeg ∧ 0 ≤ 2 + x ∧ 2 + x < 40 := by
      have k := (show ∀ i, i < 7 → (2 + Int32.ofNat i).toNatClampNeg = 2 + i ∧ 0 ≤ 2 + Int32.ofNat i ∧ 2 + Int32.ofNat i < 40 from by decide) _ xN
      rw [i32_nat h0] at k
      exact k
    refine ⟨vin h0 (show (_ : Int32) < 7 by exact x7) (by decide), vin (by grind) (show (_ : Int32) < 240 by grind) (by decide), ?_⟩
    rw [ix40 a e2.2, e2.1, hf 84 _ (by decide) (by decide)]
    refine ih c _ (by grind) (by grind) (hq.pA (by decide)) (fun n k n1 n2 => by rw [mI_ne n2]; exact hf n k n1 n2) ⟨by rw [mI_ne (by decide)]; exact hS.1, fun k hk => ?_, fun q hq' ne => ⟨by rw [mI_ne (by decide)]; exact (hS.2.2 q hq' ne).1, fun k hk => by rw [mI_nk (by omega)]; exact (hS.2.2 q hq' ne).2 k hk⟩⟩
    rw [tn_succ h0 c]
    have hck := hS.2.1 k hk
    unfold imaF at hck ⊢
    by_cases e : k = 2 + x.toNatClampNeg
    · rw [e, mI_eq, if_neg (by omega), if_neg (by omega), if_pos (by omega), show 2 + x.toNatClampNeg - 2 = x.toNatClampNeg by omega]
    · rw [mI_nk (by omega), hck]
      by_cases k0 : k = 0
      · rw [if_pos k0, if_pos k0]
      · rw [if_neg k0, if_neg k0]
        by_cases k1 : k = 1
        · rw [if_pos k1, if_pos k1]
        · rw [if_neg k1, if_neg k1]
          by_cases e2 : k < x.toNatClampNeg + 2
          · rw [if_pos e2, if_pos (by omega)]
          · rw [if_neg e2, if_neg (by omega)]
  have z0 : (0 : Int32).toNatClampNeg = 0 := by decide
  have z1 : (1 : Int32).toNatClampNeg = 1 := by decide
  refine kI (e_rowy a m40.1 m40.2) (fun r v h => ⟨vin (by grind) (show (_ : Int32) < 240 by grind) (by decide), vin (by grind) (show (_ : Int32) < 240 by grind) (by decide), ?_⟩)
  obtain ⟨_, q, f, S⟩ := h
  rw [ix40 (x := 0) a (by decide), ix40 (x := 1) a (by decide), z0, z1, mI_ne (by decide), f 76 18 (by decide) (by decide), f 76 19 (by decide) (by decide)]
  refine key 0 _ (by decide) m7.1 ((q.pA (by decide)).pA (by decide)) (fun n k n1 n2 => by rw [mI_ne n2, mI_ne n2]; exact f n k n1 n2) ⟨by rw [mI_ne (by decide), mI_ne (by decide)]; exact S.1, fun k hk => ?_, fun t ht ne => ⟨by rw [mI_ne (by decide), mI_ne (by decide)]; exact (S.2.2 t ht ne).1, fun k hk => by rw [mI_nk (by omega), mI_nk (by omega)]; exact (S.2.2 t ht ne).2 k hk⟩⟩
  rw [z0]
  unfold imaF
  by_cases k0 : k = 0
  · rw [if_pos k0, k0, mI_nk (by omega), mI_eq]
  · rw [if_neg k0]
    by_cases k1 : k = 1
    · rw [if_pos k1, k1, mI_eq]
    · rw [if_neg k1, if_neg (by omega), mI_nk (by omega), mI_nk (by omega)]; exact S.2.1 k hk
end CPY
