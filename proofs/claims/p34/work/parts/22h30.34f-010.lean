section GON
variable {G : pG} {u : pM}
theorem e_goney {x1 : Int32} (hM : InvM u) : Ws G m_gone 0 [(0, .ref 76), (1, .int x1)] [] u (RI fun a u' => Mo (mB ++ mNw) u u' ∧ ((gonK (mI u 76 10) (mI u 76 11) (mI u 78 x1.toNatClampNeg) x1 (fun k => mI u 79 (40 * x1.toNatClampNeg + k)) ∧ a = mI u 79 (40 * x1.toNatClampNeg) ∧ mI u' 76 18 = mI u 79 (40 * x1.toNatClampNeg) ∧ mI u' 76 19 = mI u 79 (40 * x1.toNatClampNeg + 1) ∧ ∀ s, s < (mI u 76 11).toNatClampNeg → mI u' 84 s = mI u 79 (40 * x1.toNatClampNeg + (2 + s))) ∨ (¬ gonK (mI u 76 10) (mI u 76 11) (mI u 78 x1.toNatClampNeg) x1 (fun k => mI u 79 (40 * x1.toNatClampNeg + k)) ∧ a = (if 0 ≤ x1 ∧ x1 < 6 then (if 0 < mI u 76 10 then -3 else -4) else -1) ∧ nmS u u' (mI u 76 19)))) := by
  have m7 := hM.m7
  have n30 := hM.n30
  have nN : (mI u 76 10).toNatClampNeg ≤ 30 := by have := tn_le n30.2; have e : (30 : Int32).toNatClampNeg = 30 := (by decide); omega
  have z0 : (0 : Int32).toNatClampNeg = 0 := by decide
  have z1 : (1 : Int32).toNatClampNeg = 1 := by decide
  refine sg_m_gone_0 ⟨fun a => ?_, fun a => ⟨_, rfl, Mo.rf hM, .inr ⟨fun z => a ⟨z.1.1, by have := z.1.2; grind⟩, by rw [if_neg (fun z => a ⟨z.1, by have := z.2; grind⟩)], rfl, rfl, fun _ => rfl⟩⟩⟩
  have a6 : 0 ≤ x1 ∧ x1 < 6 := ⟨a.1, by have := a.2; grind⟩
  have v6 : vp_in x1 6 := vin a.1 (show (_ : Int32) < 6 by grind) (by decide)
  refine ⟨fun b => ?_, fun b => ⟨_, rfl, Mo.rf hM, .inr ⟨fun z => by have := z.2.1; rw [b] at this; exact absurd this (by decide), by rw [if_pos a6, if_neg (by rw [b]; decide)], rfl, rfl, fun _ => rfl⟩⟩⟩
  have hn : 0 < mI u 76 10 := by grind
  have bad : ∀ f : Int32, ¬ gonK (mI u 76 10) (mI u 76 11) (mI u 78 x1.toNatClampNeg) x1 (fun k => mI u 79 (40 * x1.toNatClampNeg + k)) → (RI fun a u' => Mo (mB ++ mNw) u u' ∧ ((gonK (mI u 76 10) (mI u 76 11) (mI u 78 x1.toNatClampNeg) x1 (fun k => mI u 79 (40 * x1.toNatClampNeg + k)) ∧ a = mI u 79 (40 * x1.toNatClampNeg) ∧ mI u' 76 18 = mI u 79 (40 * x1.toNatClampNeg) ∧ mI u' 76 19 = mI u 79 (40 * x1.toNatClampNeg + 1) ∧ ∀ s, s < (mI u 76 11).toNatClampNeg → mI u' 84 s = mI u 79 (40 * x1.toNatClampNeg + (2 + s))) ∨ (¬ gonK (mI u 76 10) (mI u 76 11) (mI u 78 x1.toNatClampNeg) x1 (fun k => mI u 79 (40 * x1.toNatClampNeg + k)) ∧ a = (if 0 ≤ x1 ∧ x1 < 6 then (if 0 < mI u 76 10 then -3 else -4) else -1) ∧ nmS u u' (mI u 76 19)))) (some (.int (-3))) (mt u f) := fun f q => ⟨_, rfl, Mq.rf.tm.mo hM, .inr ⟨q, by rw [if_pos a6, if_pos hn], mI_mtF (by decide), mI_mtF (by decide), fun k => mI_mt (by decide)⟩⟩
  refine ⟨v6, fun c => ⟨v6, fun d => ?_, fun d => bad 5 (fun z => d z.2.2.1)⟩, fun c => bad 1 (fun z => c (by rw [z.2.2.1]; grind))⟩
  refine kI (e_isImagex hM a) (fun g v h => ?_)
  obtain ⟨rfl, h⟩ := h
  refine ⟨fun e => ?_, fun e => bad 3 (fun z => ?_)⟩
  rotate_left
  · rcases h with ⟨q, _⟩ | ⟨_, q⟩
    · exact q e
    · exact q z.2.2.2
  have hk : imK (mI u 76 10) (mI u 76 11) (fun k => mI u 79 (40 * x1.toNatClampNeg + k)) := by
    rcases h with ⟨_, q⟩ | ⟨q, _⟩
    · exact q
    · exact absurd q e
  refine ⟨(vin (by grind) (show (_ : Int32) < 240 by grind) (by decide)), (vin (by grind) (show (_ : Int32) < 240 by grind) (by decide)), ?_⟩
  rw [mI_ne (show (79 : Nat) ≠ 76 by decide), ix40 (x := 0) a (by decide), ix40 (x := 1) a (by decide), z0, z1, Nat.add_zero]
  have q1 : Mq (mB ++ mNw) u (pI u 76 18 (mI u 79 (40 * x1.toNatClampNeg))) := Mq.rf.pF (by decide)
  have hc3 : cnt (mI u 79 (40 * x1.toNatClampNeg + 1)) (mI u 76 10).toNatClampNeg ≤ 3 := by
    have bc := (bcV_cnt (mI u 79 (40 * x1.toNatClampNeg + 1))).1
    have c32 := (bcV_cnt (mI u 79 (40 * x1.toNatClampNeg + 1))).2
    have b3 : bcV (mI u 79 (40 * x1.toNatClampNeg + 1)) ≤ 3 := hk.2.2.1
    rw [bc] at b3
    have t := Int32.le_iff_toInt_le.mp b3
    have t2 : (Int32.ofNat (cnt (mI u 79 (40 * x1.toNatClampNeg + 1)) 32)).toInt = (cnt (mI u 79 (40 * x1.toNatClampNeg + 1)) 32 : Int) := nI_toInt (by omega)
    have d3 : (3 : Int32).toInt = 3 := by decide
    have mo := cnt_mono (mI u 79 (40 * x1.toNatClampNeg + 1)) (mI u 76 10).toNatClampNeg 32 (by omega)
    omega
  have hS := (q1.inv hM).pS (x := mI u 79 (40 * x1.toNatClampNeg + 1)) (by rw [q1.n]; exact hc3)
  have hS2 := (q1.mo hM).tr hS
  generalize hw : pI (pI u 76 18 (mI u 79 (40 * x1.toNatClampNeg))) 76 19 (mI u 79 (40 * x1.toNatClampNeg + 1)) = w0 at hS2
  have hm : mI w0 76 11 = mI u 76 11 := by rw [← hw, mI_nk (by decide), mI_nk (by decide)]
  have h79 : ∀ k, mI w0 79 k = mI u 79 k := fun k => by rw [← hw, mI_ne (by decide), mI_ne (by decide)]
  have h18 : mI w0 76 18 = mI u 79 (40 * x1.toNatClampNeg) := by rw [← hw, mI_nk (by decide), mI_eq]
  have h19 : mI w0 76 19 = mI u 79 (40 * x1.toNatClampNeg + 1) := by rw [← hw, mI_eq]
  have key : ∀ x v, 0 ≤ x → x ≤ mI u 76 11 → Mq (mB ++ mNw) w0 v → (∀ n k, n ≠ 84 → mI v n k = mI w0 n k) → (∀ s, s < x.toNatClampNeg → mI v 84 s = mI u 79 (40 * x1.toNatClampNeg + (2 + s))) → Ws G m_gone 91 [(0, .ref 76), (1, .int x1), (2, .int x)] [] v (RI fun a u' => Mo (mB ++ mNw) u u' ∧ ((gonK (mI u 76 10) (mI u 76 11) (mI u 78 x1.toNatClampNeg) x1 (fun k => mI u 79 (40 * x1.toNatClampNeg + k)) ∧ a = mI u 79 (40 * x1.toNatClampNeg) ∧ mI u' 76 18 = mI u 79 (40 * x1.toNatClampNeg) ∧ mI u' 76 19 = mI u 79 (40 * x1.toNatClampNeg + 1) ∧ ∀ s, s < (mI u 76 11).toNatClampNeg → mI u' 84 s = mI u 79 (40 * x1.toNatClampNeg + (2 + s))) ∨ (¬ gonK (mI u 76 10) (mI u 76 11) (mI u 78 x1.toNatClampNeg) x1 (fun k => mI u 79 (40 * x1.toNatClampNeg + k)) ∧ a = (if 0 ≤ x1 ∧ x1 < 6 then (if 0 < mI u 76 10 then -3 else -4) else -1) ∧ nmS u u' (mI u 76 19)))) := by
    refine upI (mI u 76 11) _ (fun x ih v h0 hx hq hf hd => ?_)
    have e18 : mI v 76 18 = mI u 79 (40 * x1.toNatClampNeg) := by rw [hf _ _ (by decide)]; exact h18
    refine sg_m_gone_91 ⟨fun c' => ⟨_, rfl, hS2.mq hq, .inl ⟨⟨a6, hn, d, hk⟩, e18, e18, by rw [hf _ _ (by decide)]; exact h19, fun s hs => hd s (by rw [hq.m, hm] at c'; have := tn_le c'; omega)⟩⟩, fun c' => ?_⟩
    rw [hq.m, hm] at c'
    have xm := Int32.not_le.mp c'
    have x7 : x < 7 := Int32.lt_of_lt_of_le xm m7.2
    have xN := tn_lt h0 xm
    have k2 := (show ∀ i, i < 7 → (2 + Int32.ofNat i).toNatClampNeg = 2 + i ∧ 0 ≤ 2 + Int32.ofNat i ∧ 2 + Int32.ofNat i < 40 from by decide) _ (ixn (n := 7) h0 x7 (by decide))
    rw [i32_nat h0] at k2
    have e79 : mI v 79 (40 * x1 + (2 + x) : Int32).toNatClampNeg = mI u 79 (40 * x1.toNatClampNeg + (2 + x.toNatClampNeg)) := by rw [hf _ _ (by decide), h79, ix40 a k2.2, k2.1]
    have bd := hk.2.2.2.1 _ xN
    refine ⟨(vin (by grind) (show (_ : Int32) < 240 by grind) (by decide)), (vin (by grind) (show (_ : Int32) < 7 by grind) (by decide)), ?_⟩
    rw [e79]
    refine ih c' _ (by grind) (by grind) (hq.pD (.inl rfl) ⟨bd.1, Int32.lt_of_lt_of_le bd.2 n30.2⟩) (fun n k n1 => by rw [mI_ne n1]; exact hf n k n1) (fun s hs => ?_)
    rw [tn_succ h0 c'] at hs
    by_cases e : s = x.toNatClampNeg
    · rw [e, mI_eq]
    · rw [mI_nk e]; exact hd s (by omega)
  exact key 0 w0 (by decide) m7.1 Mq.rf (fun _ _ _ => rfl) (fun s hs => by omega)
end GON
