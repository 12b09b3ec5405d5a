section CPY
variable {G : pG} {u : pM}
theorem e_copyy {x1 x2 x3 x4 x5 : Int32} (hM : InvM u) : Ws G m_copy 0 [(0, .ref 76), (1, .int x1), (2, .int x2), (3, .int x3), (4, .int x4), (5, .int x5)] [] u (RI fun a u' => Mo (mB ++ mRw) u u' ∧ copV (mI u 78 x1.toNatClampNeg) (mI u 78 x3.toNatClampNeg) x1 x2 x3 x4 x5 = a ∧ rmP u u' (copV (mI u 78 x1.toNatClampNeg) (mI u 78 x3.toNatClampNeg) x1 x2 x3 x4 x5 = 1) x3.toNatClampNeg (mI u 78 x3.toNatClampNeg) (cpyF (fun k => mI u 79 (40 * x1.toNatClampNeg + k)) (fun k => mI u 79 (40 * x3.toNatClampNeg + k)) x2.toNatClampNeg x4.toNatClampNeg x5.toNatClampNeg)) := by
  have no : ∀ z, copV (mI u 78 x1.toNatClampNeg) (mI u 78 x3.toNatClampNeg) x1 x2 x3 x4 x5 = z → ¬ z = 1 → ¬ copV (mI u 78 x1.toNatClampNeg) (mI u 78 x3.toNatClampNeg) x1 x2 x3 x4 x5 = 1 := fun z e n q => n (e.symm.trans q)
  refine sg_m_copy_0 ⟨fun a => ⟨fun b => ?_, fun b => ?_⟩, fun a => ?_⟩
  rotate_left
  · have v : copV (mI u 78 x1.toNatClampNeg) (mI u 78 x3.toNatClampNeg) x1 x2 x3 x4 x5 = -1 := by unfold copV; rw [if_neg (fun z => b ⟨z.2.1, by have := z.2.2; grind⟩)]
    exact ⟨_, rfl, Mo.rf hM, v, .inr ⟨no _ v (by decide), rmK.rf⟩⟩
  · have v : copV (mI u 78 x1.toNatClampNeg) (mI u 78 x3.toNatClampNeg) x1 x2 x3 x4 x5 = -1 := by unfold copV; rw [if_neg (fun z => a ⟨z.1.1, by have := z.1.2; grind⟩)]
    exact ⟨_, rfl, Mo.rf hM, v, .inr ⟨no _ v (by decide), rmK.rf⟩⟩
  have a6 : 0 ≤ x1 ∧ x1 < 6 := ⟨a.1, by grind⟩
  have b6 : 0 ≤ x3 ∧ x3 < 6 := ⟨b.1, by grind⟩
  have v1 : vp_in x1 6 := vin a.1 (show (_ : Int32) < 6 by grind) (by decide)
  have v3 : vp_in x3 6 := vin b.1 (show (_ : Int32) < 6 by grind) (by decide)
  have bad : ∀ f, ¬ (0 ≤ x5 ∧ 0 ≤ mI u 78 x1.toNatClampNeg ∧ 0 ≤ mI u 78 x3.toNatClampNeg ∧ (0 ≤ x2 ∧ x2 ≤ mI u 78 x1.toNatClampNeg - x5) ∧ 0 ≤ x4 ∧ x4 ≤ mI u 78 x3.toNatClampNeg - x5) → (RI fun a u' => Mo (mB ++ mRw) u u' ∧ copV (mI u 78 x1.toNatClampNeg) (mI u 78 x3.toNatClampNeg) x1 x2 x3 x4 x5 = a ∧ rmP u u' (copV (mI u 78 x1.toNatClampNeg) (mI u 78 x3.toNatClampNeg) x1 x2 x3 x4 x5 = 1) x3.toNatClampNeg (mI u 78 x3.toNatClampNeg) (cpyF (fun k => mI u 79 (40 * x1.toNatClampNeg + k)) (fun k => mI u 79 (40 * x3.toNatClampNeg + k)) x2.toNatClampNeg x4.toNatClampNeg x5.toNatClampNeg)) (some (.int (-3))) (mt u f) := fun f q => by
    have v : copV (mI u 78 x1.toNatClampNeg) (mI u 78 x3.toNatClampNeg) x1 x2 x3 x4 x5 = -3 := by unfold copV; rw [if_pos ⟨a6, b6⟩, if_neg q]
    exact ⟨_, rfl, Mq.rf.tm.mo hM, v, .inr ⟨no _ v (by decide), rmK.mt⟩⟩
  refine ⟨fun c => ⟨v1, fun d => bad 1 (fun z => absurd d (Int32.not_lt.mpr z.2.1)), fun d => ⟨v3, fun f => ⟨fun g => bad 2 (fun z => absurd g (Int32.not_lt.mpr z.2.2.2.1.1)), fun g => ⟨fun h => bad 2 (fun z => absurd h (Int32.not_lt.mpr z.2.2.2.2.1)), fun h => ⟨v1, fun i => bad 2 (fun z => absurd i (Int32.not_lt.mpr ((cpL z.2.2.2.1.1 z.1 z.2.1).mpr z.2.2.2.1.2))), fun i => ⟨v3, fun j => ?_, fun j => bad 2 (fun z => j ((cpL z.2.2.2.2.1 z.1 z.2.2.1).mpr z.2.2.2.2.2))⟩⟩⟩⟩, fun f => bad 1 (fun z => f z.2.2.1)⟩⟩, fun c => bad 5 (fun z => c z.1)⟩
  have p := cp2 (Int32.not_lt.mp g) c (hM.b78 (x1 : Int32).toNatClampNeg) (Int32.not_lt.mp i)
  have q := cp2 (Int32.not_lt.mp h) c (hM.b78 (x3 : Int32).toNatClampNeg) j
  have val : copV (mI u 78 x1.toNatClampNeg) (mI u 78 x3.toNatClampNeg) x1 x2 x3 x4 x5 = 1 := by
    unfold copV
    rw [if_pos ⟨a6, b6⟩, if_pos ⟨c, Int32.not_lt.mp d, f, ⟨Int32.not_lt.mp g, (cpL (Int32.not_lt.mp g) c (Int32.not_lt.mp d)).mp (Int32.not_lt.mp i)⟩, Int32.not_lt.mp h, (cpL (Int32.not_lt.mp h) c f).mp j⟩]
  have g0 := Int32.not_lt.mp g
  have h0' := Int32.not_lt.mp h
  -- the places as numbers
  have nn : ∀ y x : Int32, 0 ≤ y → 0 ≤ x → y + x < 40 → y < 41 → x < 41 → (y + x).toNatClampNeg = y.toNatClampNeg + x.toNatClampNeg ∧ 0 ≤ y + x := fun y x y0 x0 l l1 l2 => by
    have a := Int32.le_iff_toInt_le.mp y0
    have b := Int32.le_iff_toInt_le.mp x0
    have c1 := Int32.lt_iff_toInt_lt.mp l1
    have c2 := Int32.lt_iff_toInt_lt.mp l2
    have d0 : (0 : Int32).toInt = 0 := by decide
    have d1 : (41 : Int32).toInt = 41 := by decide
    have e : (y + x).toInt = y.toInt + x.toInt := by rw [Int32.toInt_add, Int.bmod_eq_of_le (by omega) (by omega)]
    refine ⟨?_, Int32.le_iff_toInt_le.mpr (by omega)⟩
    show (y + x).toInt.toNat = y.toInt.toNat + x.toInt.toNat
    omega
  have k2 : ∀ x v, 0 ≤ x → x ≤ x5 → Mq (mB ++ [79]) u v → (∀ k, k < x5.toNatClampNeg → mI v 80 k = mI u 79 (40 * x1.toNatClampNeg + (x2.toNatClampNeg + k))) → rmS u v x3.toNatClampNeg (mI u 78 x3.toNatClampNeg) (cpyF (fun k => mI u 79 (40 * x1.toNatClampNeg + k)) (fun k => mI u 79 (40 * x3.toNatClampNeg + k)) x2.toNatClampNeg x4.toNatClampNeg x.toNatClampNeg) → Ws G m_copy 136 [(0, .ref 76), (3, .int x3), (4, .int x4), (5, .int x5), (6, .int x)] [] v (RI fun a u' => Mo (mB ++ mRw) u u' ∧ copV (mI u 78 x1.toNatClampNeg) (mI u 78 x3.toNatClampNeg) x1 x2 x3 x4 x5 = a ∧ rmP u u' (copV (mI u 78 x1.toNatClampNeg) (mI u 78 x3.toNatClampNeg) x1 x2 x3 x4 x5 = 1) x3.toNatClampNeg (mI u 78 x3.toNatClampNeg) (cpyF (fun k => mI u 79 (40 * x1.toNatClampNeg + k)) (fun k => mI u 79 (40 * x3.toNatClampNeg + k)) x2.toNatClampNeg x4.toNatClampNeg x5.toNatClampNeg)) := by
    refine upI x5 _ (fun x ih v h0 hx hq h80 hS => ?_)
    refine sg_m_copy_136 ⟨fun cx => ⟨_, rfl, (Mq.up (L := mB ++ mRw) hq).mo hM, val, .inl ⟨val, by rw [Int32.le_antisymm hx cx] at hS; exact hS⟩⟩, fun cx => ⟨(vin (by grind) (show (_ : Int32) < 40 by grind) (by decide)), (vin (by grind) (show (_ : Int32) < 240 by grind) (by decide)), ?_⟩⟩
    have x40 : x < 40 := by clear ih; grind
    have y40 : x4 + x < 40 := by clear ih; grind
    have N := nn x4 x h0' h0 y40 (by clear ih; grind) (by clear ih; grind)
    have lt40 : (x4 + x).toNatClampNeg < 40 := ixn (n := 40) N.2 y40 (by decide)
    have xl := tn_lt h0 (Int32.not_le.mp cx)
    rw [ix40 b ⟨N.2, y40⟩, N.1, h80 _ xl]
    refine ih cx _ (by clear ih; grind) (by clear ih; grind) (hq.pA (by decide)) (fun k hk => by rw [mI_ne (by decide)]; exact h80 k hk) ⟨by rw [mI_ne (by decide)]; exact hS.1, fun k hk => ?_, fun t ht ne => ⟨by rw [mI_ne (by decide)]; exact (hS.2.2 t ht ne).1, fun k hk => by rw [mI_nk (by omega)]; exact (hS.2.2 t ht ne).2 k hk⟩⟩
    rw [tn_succ h0 cx]
    have hck := hS.2.1 k hk
    unfold cpyF at hck ⊢
    by_cases e : k = x4.toNatClampNeg + x.toNatClampNeg
    · rw [e, mI_eq, if_pos (by omega), show x4.toNatClampNeg + x.toNatClampNeg - x4.toNatClampNeg = x.toNatClampNeg by omega]
    · rw [mI_nk (by omega), hck]
      by_cases e2 : x4.toNatClampNeg ≤ k ∧ k < x4.toNatClampNeg + x.toNatClampNeg
      · rw [if_pos e2, if_pos (by omega)]
      · rw [if_neg e2, if_neg (by omega)]
  have k1 : ∀ x v, 0 ≤ x → x ≤ x5 → Mq (mB ++ [79]) u v → (∀ n k, n ≠ 80 → mI v n k = mI u n k) → (∀ k, k < x.toNatClampNeg → mI v 80 k = mI u 79 (40 * x1.toNatClampNeg + (x2.toNatClampNeg + k))) → Ws G m_copy 104 [(0, .ref 76), (1, .int x1), (2, .int x2), (3, .int x3), (4, .int x4), (5, .int x5), (6, .int x)] [] v (RI fun a u' => Mo (mB ++ mRw) u u' ∧ copV (mI u 78 x1.toNatClampNeg) (mI u 78 x3.toNatClampNeg) x1 x2 x3 x4 x5 = a ∧ rmP u u' (copV (mI u 78 x1.toNatClampNeg) (mI u 78 x3.toNatClampNeg) x1 x2 x3 x4 x5 = 1) x3.toNatClampNeg (mI u 78 x3.toNatClampNeg) (cpyF (fun k => mI u 79 (40 * x1.toNatClampNeg + k)) (fun k => mI u 79 (40 * x3.toNatClampNeg + k)) x2.toNatClampNeg x4.toNatClampNeg x5.toNatClampNeg)) := by
    refine upI x5 _ (fun x ih v h0 hx hq hf h80 => ?_)
    refine sg_m_copy_104 ⟨fun cx => k2 0 v (by decide) c hq (fun k hk => h80 k (by have := tn_le cx; omega)) ⟨hf _ _ (by decide), fun k hk => ?_, fun t _ _ => ⟨hf _ _ (by decide), fun k _ => hf _ _ (by decide)⟩⟩, fun cx => ⟨(vin (by grind) (show (_ : Int32) < 240 by grind) (by decide)), (vin (by grind) (show (_ : Int32) < 40 by grind) (by decide)), ?_⟩⟩
    · have z0 : (0 : Int32).toNatClampNeg = 0 := by decide
      rw [hf _ _ (by decide), z0]
      unfold cpyF
      rw [if_neg (by omega)]
    · have x40 : x < 40 := by clear ih; grind
      have y40 : x2 + x < 40 := by clear ih; grind
      have N := nn x2 x g0 h0 y40 (by clear ih; grind) (by clear ih; grind)
      rw [ix40 a ⟨N.2, y40⟩, N.1, hf 79 _ (by decide)]
      refine ih cx _ (by clear ih; grind) (by clear ih; grind) (hq.pA (by decide)) (fun n k hn => by rw [mI_ne hn]; exact hf n k hn) (fun k hk => ?_)
      rw [tn_succ h0 cx] at hk
      by_cases e : k = x.toNatClampNeg
      · rw [e, mI_eq]
      · rw [mI_nk e]; exact h80 k (by omega)
  have z0 : (0 : Int32).toNatClampNeg = 0 := by decide
  exact k1 0 u (by decide) c Mq.rf (fun _ _ _ => rfl) (fun k hk => by omega)
end CPY
