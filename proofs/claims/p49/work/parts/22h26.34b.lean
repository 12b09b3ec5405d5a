/-! ===== copy and image, whole ===== -/
theorem cpI_at {u : pM} {a b sp dp n k : Nat} : mI (cpI u a b sp dp n) b k = cpyF (mI u a) (mI u b) sp dp n k := by
  show (if b = b then va_cpy (mI u a) (mI u b) sp dp n k else mI u b k) = _
  rw [if_pos rfl]
  rfl
theorem cpI_ne {u : pM} {a b sp dp n x k : Nat} (h : x ≠ b) : mI (cpI u a b sp dp n) x k = mI u x k := by
  show (if x = b then _ else mI u x k) = _
  rw [if_neg h]
section CPY
variable {G : pG} {u : pM}
theorem d_copyy {x1 x2 x3 x4 x5 : Int32} (hC : InvC u) : Ws G D_copy 0 [(0, .ref 2), (1, .int x1), (2, .int x2), (3, .int x3), (4, .int x4), (5, .int x5)] [] u (RI fun a u' => Cl (qB ++ qR) u u' ∧ copV (mI u (50 + 2 * x1.toNatClampNeg) 1) (mI u (50 + 2 * x3.toNatClampNeg) 1) x1 x2 x3 x4 x5 = a ∧ rwP u u' (copV (mI u (50 + 2 * x1.toNatClampNeg) 1) (mI u (50 + 2 * x3.toNatClampNeg) 1) x1 x2 x3 x4 x5 = 1) x3.toNatClampNeg (mI u (50 + 2 * x3.toNatClampNeg) 1) (cpyF (mI u (51 + 2 * x1.toNatClampNeg)) (mI u (51 + 2 * x3.toNatClampNeg)) x2.toNatClampNeg x4.toNatClampNeg x5.toNatClampNeg)) := by
  have no : ∀ z, copV (mI u (50 + 2 * x1.toNatClampNeg) 1) (mI u (50 + 2 * x3.toNatClampNeg) 1) x1 x2 x3 x4 x5 = z → ¬ z = 1 → ¬ copV (mI u (50 + 2 * x1.toNatClampNeg) 1) (mI u (50 + 2 * x3.toNatClampNeg) 1) x1 x2 x3 x4 x5 = 1 := fun z e n q => n (e.symm.trans q)
  refine sg_D_copy_0 ⟨fun a => ⟨fun b => ?_, fun b => ?_⟩, fun a => ?_⟩
  rotate_left
  · have v : copV (mI u (50 + 2 * x1.toNatClampNeg) 1) (mI u (50 + 2 * x3.toNatClampNeg) 1) x1 x2 x3 x4 x5 = -1 := by unfold copV; rw [if_neg (fun z => b z.2)]
    exact ⟨_, rfl, Cl.rf hC, v, .inr ⟨no _ v (by decide), rwK.rf⟩⟩
  · have v : copV (mI u (50 + 2 * x1.toNatClampNeg) 1) (mI u (50 + 2 * x3.toNatClampNeg) 1) x1 x2 x3 x4 x5 = -1 := by unfold copV; rw [if_neg (fun z => a z.1)]
    exact ⟨_, rfl, Cl.rf hC, v, .inr ⟨no _ v (by decide), rwK.rf⟩⟩
  obtain ⟨e1, h1⟩ := rO a
  obtain ⟨e3, h3⟩ := rO b
  rw [e1, e3]
  have bad : ∀ f, ¬ (0 ≤ x5 ∧ 0 ≤ mI u (50 + 2 * x1.toNatClampNeg) 1 ∧ 0 ≤ mI u (50 + 2 * x3.toNatClampNeg) 1 ∧ (0 ≤ x2 ∧ x2 ≤ mI u (50 + 2 * x1.toNatClampNeg) 1 - x5) ∧ 0 ≤ x4 ∧ x4 ≤ mI u (50 + 2 * x3.toNatClampNeg) 1 - x5) → (RI fun a u' => Cl (qB ++ qR) u u' ∧ copV (mI u (50 + 2 * x1.toNatClampNeg) 1) (mI u (50 + 2 * x3.toNatClampNeg) 1) x1 x2 x3 x4 x5 = a ∧ rwP u u' (copV (mI u (50 + 2 * x1.toNatClampNeg) 1) (mI u (50 + 2 * x3.toNatClampNeg) 1) x1 x2 x3 x4 x5 = 1) x3.toNatClampNeg (mI u (50 + 2 * x3.toNatClampNeg) 1) (cpyF (mI u (51 + 2 * x1.toNatClampNeg)) (mI u (51 + 2 * x3.toNatClampNeg)) x2.toNatClampNeg x4.toNatClampNeg x5.toNatClampNeg)) (some (.int (-3))) (dF u f) := fun f q => by
    have v : copV (mI u (50 + 2 * x1.toNatClampNeg) 1) (mI u (50 + 2 * x3.toNatClampNeg) 1) x1 x2 x3 x4 x5 = -3 := by unfold copV; rw [if_pos ⟨a, b⟩, if_neg q]
    exact ⟨_, rfl, (cq_dF Cq.rf (by decide)).cl hC, v, .inr ⟨no _ v (by decide), rwK.dF⟩⟩
  refine ⟨fun c5 => ⟨fun c1 => ⟨fun c3 => ⟨fun d => ⟨fun f => ?_, fun f => bad 2 (fun z => f ⟨z.2.2.2.2.1, z.1, z.2.2.2.2.2⟩)⟩, fun d => bad 2 (fun z => d ⟨z.2.2.2.1.1, z.1, z.2.2.2.1.2⟩)⟩, fun c3 => bad 1 (fun z => c3 z.2.2.1)⟩, fun c1 => bad 1 (fun z => c1 z.2.1)⟩, fun c5 => bad 5 (fun z => c5 z.1)⟩
  have p := cp_ok d c1 (hC.1 _ (rL h1).1) (S0_lt _)
  have q := cp_ok f c3 (hC.1 _ (rL h3).1) (S0_lt _)
  have v : copV (mI u (50 + 2 * x1.toNatClampNeg) 1) (mI u (50 + 2 * x3.toNatClampNeg) 1) x1 x2 x3 x4 x5 = 1 := by unfold copV; rw [if_pos ⟨a, b⟩, if_pos ⟨c5, c1, c3, ⟨d.1, d.2.2⟩, f.1, f.2.2⟩]
  refine ⟨⟨p.1, q.1, p.2.1, p.2.2, q.2.2⟩, _, rfl, (Cq.rf.cpI (fun _ => wr_6a (rL h3).1) (fun _ => cm_6a (rL h3).1 (rM h3))).cl hC, v, .inl ⟨v, ?_⟩⟩
  rw [show 50 + 2 * x1.toNatClampNeg + 1 = 51 + 2 * x1.toNatClampNeg by omega, show 50 + 2 * x3.toNatClampNeg + 1 = 51 + 2 * x3.toNatClampNeg by omega]
  exact rwS.of (cpI_ne (by omega)) (fun k _ => cpI_at) (fun n k _ _ _ n4 => cpI_ne n4)
theorem e_copyy {x1 x2 x3 x4 x5 : Int32} (hM : InvM u) : Ws G m_copy 0 [(0, .ref 76), (1, .int x1), (2, .int x2), (3, .int x3), (4, .int x4), (5, .int x5)] [] u (RI fun a u' => Mo (mB ++ mRw) u u' ∧ copV (mI u 78 x1.toNatClampNeg) (mI u 78 x3.toNatClampNeg) x1 x2 x3 x4 x5 = a ∧ rmP u u' (copV (mI u 78 x1.toNatClampNeg) (mI u 78 x3.toNatClampNeg) x1 x2 x3 x4 x5 = 1) x3.toNatClampNeg (mI u 78 x3.toNatClampNeg) (cpyF (fun k => mI u 79 (40 * x1.toNatClampNeg + k)) (fun k => mI u 79 (40 * x3.toNatClampNeg + k)) x2.toNatClampNeg x4.toNatClampNeg x5.toNatClampNeg)) := by
  have no : ∀ z, copV (mI u 78 x1.toNatClampNeg) (mI u 78 x3.toNatClampNeg) x1 x2 x3 x4 x5 = z → ¬ z = 1 → ¬ copV (mI u 78 x1.toNatClampNeg) (mI u 78 x3.toNatClampNeg) x1 x2 x3 x4 x5 = 1 := fun z e n q => n (e.symm.trans q)
  refine sg_m_copy_0 ⟨fun a => ⟨fun b => ?_, fun b => ?_⟩, fun a => ?_⟩
  rotate_left
  · have v : copV (mI u 78 x1.toNatClampNeg) (mI u 78 x3.toNatClampNeg) x1 x2 x3 x4 x5 = -1 := by unfold copV; rw [if_neg (fun z => b ⟨z.2.1, by have := z.2.2; grind⟩)]
    exact ⟨_, rfl, Mo.rf hM, v, .inr ⟨no _ v (by decide), rmK.rf⟩⟩
  · have v : copV (mI u 78 x1.toNatClampNeg) (mI u 78 x3.toNatClampNeg) x1 x2 x3 x4 x5 = -1 := by unfold copV; rw [if_neg (fun z => a ⟨z.1.1, by have := z.1.2; grind⟩)]
    exact ⟨_, rfl, Mo.rf hM, v, .inr ⟨no _ v (by decide), rmK.rf⟩⟩
  have a6 : 0 ≤ x1 ∧ x1 < 6 := ⟨a.1, by grind⟩
  have b6 : 0 ≤ x3 ∧ x3 < 6 := ⟨b.1, by grind⟩
  have v1 : vp_in x1 6 := vin a.1 (show (_ : Int32) < 6 by grind) (by decide)
  have v3 : vp_in x3 6 := vin b.1 (show (_ : Int32) < 6 by grind) (by decide)
  have bad : ∀ f, ¬ (0 ≤ x5 ∧ 0 ≤ mI u 78 x1.toNatClampNeg ∧ 0 ≤ mI u 78 x3.toNatClampNeg ∧ (0 ≤ x2 ∧ x2 ≤ mI u 78 x1.toNatClampNeg - x5) ∧ 0 ≤ x4 ∧ x4 ≤ mI u 78 x3.toNatClampNeg - x5) → (RI fun a u' => Mo (mB ++ mRw) u u' ∧ copV (mI u 78 x1.toNatClampNeg) (mI u 78 x3.toNatClampNeg) x1 x2 x3 x4 x5 = a ∧ rmP u u' (copV (mI u 78 x1.toNatClampNeg) (mI u 78 x3.toNatClampNeg) x1 x2 x3 x4 x5 = 1) x3.toNatClampNeg (mI u 78 x3.toNatClampNeg) (cpyF (fun k => mI u 79 (40 * x1.toNatClampNeg + k)) (fun k => mI u 79 (40 * x3.toNatClampNeg + k)) x2.toNatClampNeg x4.toNatClampNeg x5.toNatClampNeg)) (some (.int (-3))) (mt u f) := fun f q => by
    have v : copV (mI u 78 x1.toNatClampNeg) (mI u 78 x3.toNatClampNeg) x1 x2 x3 x4 x5 = -3 := by unfold copV; rw [if_pos ⟨a6, b6⟩, if_neg q]
    exact ⟨_, rfl, Mq.rf.tm.mo hM, v, .inr ⟨no _ v (by decide), rmK.mt⟩⟩
  refine ⟨fun c => ⟨v1, fun d => bad 1 (fun z => absurd d (Int32.not_lt.mpr z.2.1)), fun d => ⟨v3, fun f => ⟨fun g => bad 2 (fun z => absurd g (Int32.not_lt.mpr z.2.2.2.1.1)), fun g => ⟨fun h => bad 2 (fun z => absurd h (Int32.not_lt.mpr z.2.2.2.2.1)), fun h => ⟨v1, fun i => bad 2 (fun z => absurd i (Int32.not_lt.mpr ((cpL z.2.2.2.1.1 z.1 z.2.1).mpr z.2.2.2.1.2))), fun i => ⟨v3, fun j => ?_, fun j => bad 2 (fun z => j ((cpL z.2.2.2.2.1 z.1 z.2.2.1).mpr z.2.2.2.2.2))⟩⟩⟩⟩, fun f => bad 1 (fun z => f z.2.2.1)⟩⟩, fun c => bad 5 (fun z => c z.1)⟩
  have p := cp2 (Int32.not_lt.mp g) c (hM.b78 (x1 : Int32).toNatClampNeg) (Int32.not_lt.mp i)
  have q := cp2 (Int32.not_lt.mp h) c (hM.b78 (x3 : Int32).toNatClampNeg) j
  have val : copV (mI u 78 x1.toNatClampNeg) (mI u 78 x3.toNatClampNeg) x1 x2 x3 x4 x5 = 1 := by
    unfold copV
    rw [if_pos ⟨a6, b6⟩, if_pos ⟨c, Int32.not_lt.mp d, f, ⟨Int32.not_lt.mp g, (cpL (Int32.not_lt.mp g) c (Int32.not_lt.mp d)).mp (Int32.not_lt.mp i)⟩, Int32.not_lt.mp h, (cpL (Int32.not_lt.mp h) c f).mp j⟩]
  have g0 := Int32.not_lt.mp g
  have h0' := Int32.not_lt.mp h
  -- the places as numbers
  have nn : ∀ y x : Int32, 0 ≤ y → 0 ≤ x → y + x < 40 → y < 41 → x < 41 → (y + x).toNatClampNeg = y.toNatClampNeg + x.toNatClampNeg ∧ 0 ≤ y + x := fun y x y0 x0 l l1 l2 => by
    have a := Int32.le_iff_toInt_le.mp y0
    have b := Int32.le_iff_toInt_le.mp x0
    have c1 := Int32.lt_iff_toInt_lt.mp l1
    have c2 := Int32.lt_iff_toInt_lt.mp l2
    have d0 : (0 : Int32).toInt = 0 := by decide
    have d1 : (41 : Int32).toInt = 41 := by decide
    have e : (y + x).toInt = y.toInt + x.toInt := by rw [Int32.toInt_add, Int.bmod_eq_of_le (by omega) (by omega)]
    refine ⟨?_, Int32.le_iff_toInt_le.mpr (by omega)⟩
    show (y + x).toInt.toNat = y.toInt.toNat + x.toInt.toNat
    omega
  have k2 : ∀ x v, 0 ≤ x → x ≤ x5 → Mq (mB ++ [79]) u v → (∀ k, k < x5.toNatClampNeg → mI v 80 k = mI u 79 (40 * x1.toNatClampNeg + (x2.toNatClampNeg + k))) → rmS u v x3.toNatClampNeg (mI u 78 x3.toNatClampNeg) (cpyF (fun k => mI u 79 (40 * x1.toNatClampNeg + k)) (fun k => mI u 79 (40 * x3.toNatClampNeg + k)) x2.toNatClampNeg x4.toNatClampNeg x.toNatClampNeg) → Ws G m_copy 136 [(0, .ref 76), (3, .int x3), (4, .int x4), (5, .int x5), (6, .int x)] [] v (RI fun a u' => Mo (mB ++ mRw) u u' ∧ copV (mI u 78 x1.toNatClampNeg) (mI u 78 x3.toNatClampNeg) x1 x2 x3 x4 x5 = a ∧ rmP u u' (copV (mI u 78 x1.toNatClampNeg) (mI u 78 x3.toNatClampNeg) x1 x2 x3 x4 x5 = 1) x3.toNatClampNeg (mI u 78 x3.toNatClampNeg) (cpyF (fun k => mI u 79 (40 * x1.toNatClampNeg + k)) (fun k => mI u 79 (40 * x3.toNatClampNeg + k)) x2.toNatClampNeg x4.toNatClampNeg x5.toNatClampNeg)) := by
    refine upI x5 _ (fun x ih v h0 hx hq h80 hS => ?_)
    refine sg_m_copy_136 ⟨fun cx => ⟨_, rfl, (Mq.up (L := mB ++ mRw) hq).mo hM, val, .inl ⟨val, by rw [Int32.le_antisymm hx cx] at hS; exact hS⟩⟩, fun cx => ⟨(vin (by grind) (show (_ : Int32) < 40 by grind) (by decide)), (vin (by grind) (show (_ : Int32) < 240 by grind) (by decide)), ?_⟩⟩
    have x40 : x < 40 := by clear ih; grind
    have y40 : x4 + x < 40 := by clear ih; grind
    have N := nn x4 x h0' h0 y40 (by clear ih; grind) (by clear ih; grind)
    have lt40 : (x4 + x).toNatClampNeg < 40 := ixn (n := 40) N.2 y40 (by decide)
    have xl := tn_lt h0 (Int32.not_le.mp cx)
    rw [ix40 b ⟨N.2, y40⟩, N.1, h80 _ xl]
    refine ih cx _ (by clear ih; grind) (by clear ih; grind) (hq.pA (by decide)) (fun k hk => by rw [mI_ne (by decide)]; exact h80 k hk) ⟨by rw [mI_ne (by decide)]; exact hS.1, fun k hk => ?_, fun t ht ne => ⟨by rw [mI_ne (by decide)]; exact (hS.2.2 t ht ne).1, fun k hk => by rw [mI_nk (by omega)]; exact (hS.2.2 t ht ne).2 k hk⟩⟩
    rw [tn_succ h0 cx]
    have hck := hS.2.1 k hk
    unfold cpyF at hck ⊢
    by_cases e : k = x4.toNatClampNeg + x.toNatClampNeg
    · rw [e, mI_eq, if_pos (by omega), show x4.toNatClampNeg + x.toNatClampNeg - x4.toNatClampNeg = x.toNatClampNeg by omega]
    · rw [mI_nk (by omega), hck]
      by_cases e2 : x4.toNatClampNeg ≤ k ∧ k < x4.toNatClampNeg + x.toNatClampNeg
      · rw [if_pos e2, if_pos (by omega)]
      · rw [if_neg e2, if_neg (by omega)]
  have k1 : ∀ x v, 0 ≤ x → x ≤ x5 → Mq (mB ++ [79]) u v → (∀ n k, n ≠ 80 → mI v n k = mI u n k) → (∀ k, k < x.toNatClampNeg → mI v 80 k = mI u 79 (40 * x1.toNatClampNeg + (x2.toNatClampNeg + k))) → Ws G m_copy 104 [(0, .ref 76), (1, .int x1), (2, .int x2), (3, .int x3), (4, .int x4), (5, .int x5), (6, .int x)] [] v (RI fun a u' => Mo (mB ++ mRw) u u' ∧ copV (mI u 78 x1.toNatClampNeg) (mI u 78 x3.toNatClampNeg) x1 x2 x3 x4 x5 = a ∧ rmP u u' (copV (mI u 78 x1.toNatClampNeg) (mI u 78 x3.toNatClampNeg) x1 x2 x3 x4 x5 = 1) x3.toNatClampNeg (mI u 78 x3.toNatClampNeg) (cpyF (fun k => mI u 79 (40 * x1.toNatClampNeg + k)) (fun k => mI u 79 (40 * x3.toNatClampNeg + k)) x2.toNatClampNeg x4.toNatClampNeg x5.toNatClampNeg)) := by
    refine upI x5 _ (fun x ih v h0 hx hq hf h80 => ?_)
    refine sg_m_copy_104 ⟨fun cx => k2 0 v (by decide) c hq (fun k hk => h80 k (by have := tn_le cx; omega)) ⟨hf _ _ (by decide), fun k hk => ?_, fun t _ _ => ⟨hf _ _ (by decide), fun k _ => hf _ _ (by decide)⟩⟩, fun cx => ⟨(vin (by grind) (show (_ : Int32) < 240 by grind) (by decide)), (vin (by grind) (show (_ : Int32) < 40 by grind) (by decide)), ?_⟩⟩
    · have z0 : (0 : Int32).toNatClampNeg = 0 := by decide
      rw [hf _ _ (by decide), z0]
      unfold cpyF
      rw [if_neg (by omega)]
    · have x40 : x < 40 := by clear ih; grind
      have y40 : x2 + x < 40 := by clear ih; grind
      have N := nn x2 x g0 h0 y40 (by clear ih; grind) (by clear ih; grind)
      rw [ix40 a ⟨N.2, y40⟩, N.1, hf 79 _ (by decide)]
      refine ih cx _ (by clear ih; grind) (by clear ih; grind) (hq.pA (by decide)) (fun n k hn => by rw [mI_ne hn]; exact hf n k hn) (fun k hk => ?_)
      rw [tn_succ h0 cx] at hk
      by_cases e : k = x.toNatClampNeg
      · rw [e, mI_eq]
      · rw [mI_nk e]; exact h80 k (by omega)
  have z0 : (0 : Int32).toNatClampNeg = 0 := by decide
  exact k1 0 u (by decide) c Mq.rf (fun _ _ _ => rfl) (fun k hk => by omega)
theorem d_imagey {x1 : Int32} (hC : InvC u) (hm : 0 ≤ mI u (mR u 2 10) 1 ∧ mI u (mR u 2 10) 1 ≤ 7) : Ws G D_image 0 [(0, .ref 2), (1, .int x1)] [] u (RI fun a u' => Cl (qB ++ qR) u u' ∧ imaV (mI u (mR u 2 10) 0) (mI u (mR u 2 10) 1) x1 = a ∧ rwP u u' ((0 ≤ x1 ∧ x1 < 6) ∧ 0 < mI u (mR u 2 10) 0) x1.toNatClampNeg (mI u (mR u 2 10) 1 + 2) (imaF (mI u (mR u 2 10) 1).toNatClampNeg (mI u 7 0) (mI u 7 1) (mI u 8))) := by
  refine sg_D_image_0 ⟨fun a hp => ⟨fun b _ => ?_, fun b => ⟨_, rfl, Cl.rf hC, by unfold imaV; rw [if_pos a, if_neg b], .inr ⟨fun z => b z.2, rwK.rf⟩⟩⟩, fun a => ⟨_, rfl, Cl.rf hC, by unfold imaV; rw [if_neg a], .inr ⟨fun z => a z.1, rwK.rf⟩⟩⟩
  obtain ⟨e, hr⟩ := rO a
  rw [e]
  have ko := pl_ok hp
  generalize hP : mR u 2 10 = P at *
  have pn : P ≠ 50 + 2 * x1.toNatClampNeg ∧ P ≠ 51 + 2 * x1.toNatClampNeg := by have := lt_2 ko; omega
  have rn : rnV (mI u P 1 + 2) = mI u P 1 + 2 := by unfold rnV; rw [if_neg (by grind)]
  have val : imaV (mI u P 0) (mI u P 1) x1 = mI u P 1 + 2 := by unfold imaV; rw [if_pos a, if_pos b]
  have key : ∀ x v, 0 ≤ x → x ≤ mI u P 1 → Cl (qB ++ qR) u v → mR v 2 10 = P → (∀ n k, n ≠ 50 + 2 * x1.toNatClampNeg → n ≠ 51 + 2 * x1.toNatClampNeg → mI v n k = mI u n k) → mI v (50 + 2 * x1.toNatClampNeg) 1 = mI u P 1 + 2 → (∀ k, k < 40 → mI v (51 + 2 * x1.toNatClampNeg) k = imaF x.toNatClampNeg (mI u 7 0) (mI u 7 1) (mI u 8) k) → Ws G D_image 68 [(0, .ref 2), (2, .ref (50 + 2 * x1.toNatClampNeg)), (3, .int x)] [] v (RI fun a u' => Cl (qB ++ qR) u u' ∧ imaV (mI u P 0) (mI u P 1) x1 = a ∧ rwP u u' ((0 ≤ x1 ∧ x1 < 6) ∧ 0 < mI u P 0) x1.toNatClampNeg (mI u P 1 + 2) (imaF (mI u P 1).toNatClampNeg (mI u 7 0) (mI u 7 1) (mI u 8))) := by
    refine upI (mI u P 1) _ (fun x ih v h0 hx hl hR hf hz hc => ?_)
    refine sg_D_image_68 (rL hr).1 (fun hp' => ?_)
    rw [hR, hf _ _ pn.1 pn.2]
    refine ⟨fun q _ => ⟨_, rfl, hl, val, .inl ⟨⟨a, b⟩, rwS.of hz (by rw [Int32.le_antisymm hx q] at hc; exact hc) (fun n k _ _ n3 n4 => hf n k n3 n4)⟩⟩, fun q => ?_⟩
    have xm := Int32.not_le.mp q
    have x7 : x < 7 := Int32.lt_of_lt_of_le xm hm.2
    have cl' : Cl (qB ++ qR) u (spS v (50 + 2 * x1.toNatClampNeg) (x + 2) (snD v 7 x)) := hl.cq (cq_spS Cq.rf (rL hr).1 (rM hr))
    have ed : snD v 7 x = mI u 8 x.toNatClampNeg := by
      unfold snD
      rw [if_pos ⟨h0, x7⟩]
      exact hf _ _ (by omega) (by omega)
    have e2 : (x + 2).toNatClampNeg = x.toNatClampNeg + 2 := by
      have k := (show ∀ i, i < 7 → (Int32.ofNat i + 2).toNatClampNeg = i + 2 from by decide) _ (ixn (n := 7) h0 x7 (by decide))
      rw [i32_nat h0] at k
      exact k
    rw [spS_at hr (by clear ih; grind) (by rw [hz]; clear ih; grind) (by clear ih; grind), ed, e2] at cl' ⊢
    refine ih q _ (by clear ih; grind) (by clear ih; grind) cl' hR (fun n k n1 n2 => by rw [mI_ne n2]; exact hf n k n1 n2) (by rw [mI_ne (by omega)]; exact hz) (fun k hk => ?_)
    rw [tn_succ h0 q]
    have hck := hc k hk
    unfold imaF at hck ⊢
    by_cases e : k = x.toNatClampNeg + 2
    · rw [e, mI_eq, if_neg (by omega), if_neg (by omega), if_pos (by omega), show x.toNatClampNeg + 2 - 2 = x.toNatClampNeg by omega]
    · rw [mI_nk e, hck]
      by_cases k0 : k = 0
      · rw [if_pos k0, if_pos k0]
      · rw [if_neg k0, if_neg k0]
        by_cases k1 : k = 1
        · rw [if_pos k1, if_pos k1]
        · rw [if_neg k1, if_neg k1]
          by_cases e2 : k < x.toNatClampNeg + 2
          · rw [if_pos e2, if_pos (by omega)]
          · rw [if_neg e2, if_neg (by omega)]
  refine kV (c_renewy hr hC) (fun v h => ?_)
  obtain ⟨c3, _, mr3, z3, f3, g3⟩ := h
  have z0 : (0 : Int32).toNatClampNeg = 0 := by decide
  have z1 : (1 : Int32).toNatClampNeg = 1 := by decide
  rw [rn] at z3
  have cl2 : Cl (qB ++ qR) u (spS (spS v (50 + 2 * x1.toNatClampNeg) 0 (mI v 7 0)) (50 + 2 * x1.toNatClampNeg) 1 (mI (spS v (50 + 2 * x1.toNatClampNeg) 0 (mI v 7 0)) 7 1)) := (c3.cq (cq_spS Cq.rf (rL hr).1 (rM hr))).cq (cq_spS Cq.rf (rL hr).1 (rM hr))
  rw [spS_at (i := 0) hr (by decide) (by rw [z3]; grind) (by decide), spS_at (i := 1) hr (by decide) (by rw [mI_ne (by omega), z3]; grind) (by decide), z0, z1, mI_ne (by omega), g3 7 0 (by omega) (by omega), g3 7 1 (by omega) (by omega)] at cl2 ⊢
  refine key 0 _ (by decide) hm.1 cl2 (by show mR v 2 10 = P; rw [mr3]; exact hP) (fun n k n1 n2 => by rw [mI_ne n2, mI_ne n2]; exact g3 n k n1 n2) (by rw [mI_ne (by omega), mI_ne (by omega)]; exact z3) (fun k hk => ?_)
  rw [z0]
  unfold imaF
  by_cases k0 : k = 0
  · rw [if_pos k0, k0, mI_nk (by decide), mI_eq]
  · rw [if_neg k0]
    by_cases k1 : k = 1
    · rw [if_pos k1, k1, mI_eq]
    · rw [if_neg k1, if_neg (by omega), mI_nk k1, mI_nk k0]; exact f3 k hk
theorem e_imagey {x1 : Int32} (hM : InvM u) : Ws G m_image 0 [(0, .ref 76), (1, .int x1)] [] u (RI fun a u' => Mo (mB ++ mRw) u u' ∧ imaV (mI u 76 10) (mI u 76 11) x1 = a ∧ rmP u u' ((0 ≤ x1 ∧ x1 < 6) ∧ 0 < mI u 76 10) x1.toNatClampNeg (mI u 76 11 + 2) (imaF (mI u 76 11).toNatClampNeg (mI u 76 18) (mI u 76 19) (mI u 84))) := by
  have m7 := hM.m7
  have n30 := hM.n30
  refine sg_m_image_0 ⟨fun a => ⟨fun b => ?_, fun b => ⟨_, rfl, Mo.rf hM, ?_, .inr ⟨fun z => ?_, rmK.rf⟩⟩⟩, fun a => ⟨_, rfl, Mo.rf hM, ?_, .inr ⟨fun z => a ⟨z.1.1, by have := z.1.2; grind⟩, rmK.rf⟩⟩⟩
  rotate_left
  · unfold imaV; rw [if_pos ⟨a.1, by grind⟩, b, if_neg (by decide)]
  · have := z.2; rw [b] at this; exact absurd this (by decide)
  · unfold imaV; rw [if_neg (fun z => a ⟨z.1, by have := z.2; grind⟩)]
  have a6 : 0 ≤ x1 ∧ x1 < 6 := ⟨a.1, by grind⟩
  have hn : 0 < mI u 76 10 := by grind
  have m40 : mI u 76 11 + 2 ≤ 40 ∧ 0 ≤ mI u 76 11 + 2 := by grind
  have key : ∀ x v, 0 ≤ x → x ≤ mI u 76 11 → Mq (mB ++ mRw) u v → (∀ n k, n ≠ 78 → n ≠ 79 → mI v n k = mI u n k) → rmS u v x1.toNatClampNeg (mI u 76 11 + 2) (imaF x.toNatClampNeg (mI u 76 18) (mI u 76 19) (mI u 84)) → Ws G m_image 53 [(0, .ref 76), (1, .int x1), (2, .int x)] [] v (RI fun a u' => Mo (mB ++ mRw) u u' ∧ imaV (mI u 76 10) (mI u 76 11) x1 = a ∧ rmP u u' ((0 ≤ x1 ∧ x1 < 6) ∧ 0 < mI u 76 10) x1.toNatClampNeg (mI u 76 11 + 2) (imaF (mI u 76 11).toNatClampNeg (mI u 76 18) (mI u 76 19) (mI u 84))) := by
    refine upI (mI u 76 11) _ (fun x ih v h0 hx hq hf hS => ?_)
    have e := hq.m
    refine sg_m_image_53 ⟨fun c => ⟨_, rfl, hq.mo hM, by unfold imaV; rw [if_pos a6, if_pos hn, e], .inl ⟨⟨a6, hn⟩, by rw [e] at c; rw [Int32.le_antisymm hx c] at hS; exact hS⟩⟩, fun c => ?_⟩
    rw [e] at c
    have x7 : x < 7 := Int32.lt_of_lt_of_le (Int32.not_le.mp c) m7.2
    have xN : x.toNatClampNeg < 7 := ixn (n := 7) h0 x7 (by decide)
    have e2 : (2 + x).toNatClampNeg = 2 + x.toNatClampNeg ∧ 0 ≤ 2 + x ∧ 2 + x < 40 := by
      have k := (show ∀ i, i < 7 → (2 + Int32.ofNat i).toNatClampNeg = 2 + i ∧ 0 ≤ 2 + Int32.ofNat i ∧ 2 + Int32.ofNat i < 40 from by decide) _ xN
      rw [i32_nat h0] at k
      exact k
    refine ⟨vin h0 (show (_ : Int32) < 7 by exact x7) (by decide), vin (by grind) (show (_ : Int32) < 240 by grind) (by decide), ?_⟩
    rw [ix40 a e2.2, e2.1, hf 84 _ (by decide) (by decide)]
    refine ih c _ (by grind) (by grind) (hq.pA (by decide)) (fun n k n1 n2 => by rw [mI_ne n2]; exact hf n k n1 n2) ⟨by rw [mI_ne (by decide)]; exact hS.1, fun k hk => ?_, fun q hq' ne => ⟨by rw [mI_ne (by decide)]; exact (hS.2.2 q hq' ne).1, fun k hk => by rw [mI_nk (by omega)]; exact (hS.2.2 q hq' ne).2 k hk⟩⟩
    rw [tn_succ h0 c]
    have hck := hS.2.1 k hk
    unfold imaF at hck ⊢
    by_cases e : k = 2 + x.toNatClampNeg
    · rw [e, mI_eq, if_neg (by omega), if_neg (by omega), if_pos (by omega), show 2 + x.toNatClampNeg - 2 = x.toNatClampNeg by omega]
    · rw [mI_nk (by omega), hck]
      by_cases k0 : k = 0
      · rw [if_pos k0, if_pos k0]
      · rw [if_neg k0, if_neg k0]
        by_cases k1 : k = 1
        · rw [if_pos k1, if_pos k1]
        · rw [if_neg k1, if_neg k1]
          by_cases e2 : k < x.toNatClampNeg + 2
          · rw [if_pos e2, if_pos (by omega)]
          · rw [if_neg e2, if_neg (by omega)]
  have z0 : (0 : Int32).toNatClampNeg = 0 := by decide
  have z1 : (1 : Int32).toNatClampNeg = 1 := by decide
  refine kI (e_rowy a m40.1 m40.2) (fun r v h => ⟨vin (by grind) (show (_ : Int32) < 240 by grind) (by decide), vin (by grind) (show (_ : Int32) < 240 by grind) (by decide), ?_⟩)
  obtain ⟨_, q, f, S⟩ := h
  rw [ix40 (x := 0) a (by decide), ix40 (x := 1) a (by decide), z0, z1, mI_ne (by decide), f 76 18 (by decide) (by decide), f 76 19 (by decide) (by decide)]
  refine key 0 _ (by decide) m7.1 ((q.pA (by decide)).pA (by decide)) (fun n k n1 n2 => by rw [mI_ne n2, mI_ne n2]; exact f n k n1 n2) ⟨by rw [mI_ne (by decide), mI_ne (by decide)]; exact S.1, fun k hk => ?_, fun t ht ne => ⟨by rw [mI_ne (by decide), mI_ne (by decide)]; exact (S.2.2 t ht ne).1, fun k hk => by rw [mI_nk (by omega), mI_nk (by omega)]; exact (S.2.2 t ht ne).2 k hk⟩⟩
  rw [z0]
  unfold imaF
  by_cases k0 : k = 0
  · rw [if_pos k0, k0, mI_nk (by omega), mI_eq]
  · rw [if_neg k0]
    by_cases k1 : k = 1
    · rw [if_pos k1, k1, mI_eq]
    · rw [if_neg k1, if_neg (by omega), mI_nk (by omega), mI_nk (by omega)]; exact S.2.1 k hk
end CPY
