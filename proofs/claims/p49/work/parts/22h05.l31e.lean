/-! ===== the class reads a square ===== -/
theorem Sk.cq {L : List Nat} {o q : Nat} {u v : pM} {p a : Int32} (h : Sk o q u v p a) (k0 : okS o 3) (kq : okS q 4) (m : o ∈ L) (mq : q ∈ L) : Cq L u v := by
  refine ⟨fun n k z => h.1 n k (fun y => z (by rw [y.1]; exact wr_3 k0)) (fun y => z (by rw [y]; exact wr_4 kq)), mRQ_r h.2.1, ⟨fun n k z => h.1 n k (fun y => z (by rw [y.1]; exact m_3 m k0)) (fun y => z (by rw [y]; exact m_4 mq kq)), (mRQ_l h.2.1).lk⟩⟩
theorem R0_inj {o i j : Nat} (h : okS o 2) (hi : i < 7) (hj : j < 7) (e : R0 (o + 1) i = R0 (o + 1) j) : i = j := by
  have a : R0 (o + 1) i = o + 7 + i := (show ∀ o, o < 95 → (S0 o).1 = 2 → ∀ i, i < 7 → R0 (o + 1) i = o + 7 + i from by decide +kernel) o h.2.1 h.2.2 i hi
  have b : R0 (o + 1) j = o + 7 + j := (show ∀ o, o < 95 → (S0 o).1 = 2 → ∀ i, i < 7 → R0 (o + 1) i = o + 7 + i from by decide +kernel) o h.2.1 h.2.2 j hj
  omega
/-- how reading ends: the answer, the Plan's numbers -/
def RdC (o : Nat) (T : Int32 → Int32) (n : Int32) (a : Int32) (u' : pM) : Prop := (rdA T n = none ∧ 0 ≤ a) ∨ ∃ d l, rdA T n = some (d, l) ∧ a = -9 ∧ mI u' o 0 = d ∧ PlL u' o l ∧ 10 ≤ d ∧ d ≤ 30
section RDX
variable {G : pG} {u : pM}
theorem x_read {L : List Nat} {o0 o1 : Nat} (mP : PlW L o0) (k0 : okS o0 2) (k1 : okS o1 6) (hC : InvC u) (h100 : mI u o1 1 ≤ 100) : Ws G Pl_read 0 [(0, .ref o0), (1, .ref o1)] [] u (RI fun a u' => Cl L u u' ∧ (∀ n k, n ≠ o0 + 4 → mR u' n k = mR u n k) ∧ RdC o0 (sgT (mI u o1 1) (mI u (o1 + 1))) (mI u o1 1) a u') := by
  have k3 := os_2_5 k0
  have mp : o0 + 4 ∈ L := mP _ (by omega) (by omega)
  have ml : o0 ∈ L := mP _ (by omega) (by omega)
  have n36 := ne_3_6 k3 k1
  have n26 : o1 ≠ o0 ∧ o1 + 1 ≠ o0 := by
    refine ⟨fun e => ?_, fun e => ?_⟩
    · rw [e] at k1; have := k1.2.2; rw [k0.2.2] at this; exact absurd this (by decide)
    · have q := os_6_0 k1
      rw [e] at q; have := q.2.2; rw [k0.2.2] at this; exact absurd this (by decide)
  obtain ⟨T, hT⟩ : ∃ T, T = sgT (mI u o1 1) (mI u (o1 + 1)) := ⟨_, rfl⟩
  obtain ⟨n, hn⟩ : ∃ n, n = mI u o1 1 := ⟨_, rfl⟩
  have hT2 : T = sgT n (mI u (o1 + 1)) := by rw [hT, hn]
  rw [← hT, ← hn]
  rw [← hn] at h100
  -- what stands while it reads
  have RS : ∀ v, Cl L u v → mR v (o0 + 4) 0 = o1 → (∀ k, mI v o1 k = mI u o1 k) → (∀ k, mI v (o1 + 1) k = mI u (o1 + 1) k) → 0 ≤ mI v (o0 + 4) 1 → RO v (o0 + 4) ∧ Tx v (o0 + 4) = T ∧ Tn v (o0 + 4) = n := by
    intro v _ e1 e2 e3 hp
    have t : Tn v (o0 + 4) = n := by unfold Tn; rw [e1, e2, hn]
    have e3' : mI v (o1 + 1) = mI u (o1 + 1) := by funext k; exact e3 k
    refine ⟨⟨k3, by rw [e1]; exact k1, by rw [t, e1, hn]; exact hC.1 _ k1, by rw [t]; exact h100, hp⟩, ?_, t⟩
    unfold Tx; rw [e1, e2, e3', hT]
  have s0 : Cl L u (pI (pR (pI (pI u o0 0 0) o0 1 0) (o0 + 4) 0 o1) (o0 + 4) 1 0) := (((((Cl.rf hC).pla k0 ml (.inr (by decide))).pla k0 ml (.inl (by decide))).pR (.inl (by have := gt_2 k0; omega))).pI (wr_3 k3) (m_3 mp k3))
  have a0 : mR (pI (pR (pI (pI u o0 0 0) o0 1 0) (o0 + 4) 0 o1) (o0 + 4) 1 0) (o0 + 4) 0 = o1 := by
    show up2 (mR u) (o0 + 4) 0 o1 (o0 + 4) 0 = o1
    simp [up2]
  have b0 : ∀ k, mI (pI (pR (pI (pI u o0 0 0) o0 1 0) (o0 + 4) 0 o1) (o0 + 4) 1 0) o1 k = mI u o1 k := fun k => by
    rw [mI_ne n36.1]
    show mI (pI (pI u o0 0 0) o0 1 0) o1 k = _
    rw [mI_ne n26.1, mI_ne n26.1]
  have c0 : ∀ k, mI (pI (pR (pI (pI u o0 0 0) o0 1 0) (o0 + 4) 0 o1) (o0 + 4) 1 0) (o1 + 1) k = mI u (o1 + 1) k := fun k => by
    rw [mI_ne n36.2]
    show mI (pI (pI u o0 0 0) o0 1 0) (o1 + 1) k = _
    rw [mI_ne n26.2, mI_ne n26.2]
  have d0 : mI (pI (pR (pI (pI u o0 0 0) o0 1 0) (o0 + 4) 0 o1) (o0 + 4) 1 0) (o0 + 4) 1 = 0 := mI_eq
  have f0 : mI (pI (pR (pI (pI u o0 0 0) o0 1 0) (o0 + 4) 0 o1) (o0 + 4) 1 0) o0 1 = 0 := by
    rw [mI_ne (by omega)]
    show mI (pI (pI u o0 0 0) o0 1 0) o0 1 = 0
    exact mI_eq
  have g0 : ∀ n k, n ≠ o0 + 4 → mR (pI (pR (pI (pI u o0 0 0) o0 1 0) (o0 + 4) 0 o1) (o0 + 4) 1 0) n k = mR u n k := fun n k h => by
    show up2 (mR u) (o0 + 4) 0 o1 n k = _
    rw [up2, if_neg (fun z => h z.1)]
  refine sg_Pl_read_0 k0 k1 ?_
  generalize pI (pR (pI (pI u o0 0 0) o0 1 0) (o0 + 4) 0 o1) (o0 + 4) 1 0 = w0 at *
  obtain ⟨r0, t0, n0⟩ := RS w0 s0 a0 b0 c0 (by rw [d0]; decide)
  have mm : ∀ {v : pM}, mRQ v = mRQ w0 → ∀ n k, n ≠ o0 + 4 → mR v n k = mR u n k := fun e n k h => by rw [mRQ_r e]; exact g0 n k h
  have a0' : mRQ w0 = mRQ w0 := rfl
  -- a step of the Reader keeps what stands
  have st : ∀ {v w : pM} {p b : Int32}, Cl L u v → mRQ v = mRQ w0 → (∀ k, mI v o1 k = mI u o1 k) → (∀ k, mI v (o1 + 1) k = mI u (o1 + 1) k) → Rk (o0 + 4) v w p b → Cl L u w ∧ mRQ w = mRQ w0 ∧ (∀ k, mI w o1 k = mI u o1 k) ∧ (∀ k, mI w (o1 + 1) k = mI u (o1 + 1) k) := fun h e1 e2 e3 rk => ⟨h.cq (rk.cq k3 mp), rk.2.1.trans e1, fun k => (rk.1 _ _ (fun z => n36.1 z.1)).trans (e2 k), fun k => (rk.1 _ _ (fun z => n36.2 z.1)).trans (e3 k)⟩
  have skp : ∀ x, 0 ≤ x → 0 ≤ sk T n x := by
    refine upI n _ (fun x ih hx => ?_)
    by_cases e : T x = 32
    · have i := sg_in (n := n) (f := mI u (o1 + 1)) (x := x) (by rw [← hT2, e]; decide)
      rw [hT2] at e ih ⊢
      rw [sk_b h100 e]
      exact ih (Int32.not_le.mpr i.2) (by grind)
    · rw [hT2] at e ⊢
      rw [sk_n e]; exact hx
  refine kV (x_skip r0) (fun v1 h1 => ?_)
  rw [t0, n0, d0] at h1
  obtain ⟨s1, a1, b1, c1⟩ := st s0 a0' b0 c0 h1
  have P1 := skp 0 (by decide)
  obtain ⟨r1, t1, n1⟩ := RS v1 s1 (by rw [mRQ_r a1]; exact a0) b1 c1 (by rw [h1.2.2.1]; exact P1)
  refine kI (x_passes r1 (c := 100) (by decide) (by decide)) (fun a2 v2 h2 => ?_)
  rw [t1, h1.2.2.1] at h2
  rcases h2 with ⟨e2, a2n, rk2⟩ | ⟨e2, a20, rfl⟩
  rotate_left
  · refine ⟨fun _ => ⟨_, rfl, s1, mm a1, .inl ⟨by unfold rdA; rw [if_pos e2], by rw [h1.2.2.1]; exact P1⟩⟩, fun z => absurd a20 z⟩
  refine ⟨fun z => absurd z a2n, fun _ => ?_⟩
  obtain ⟨s2, a2', b2, c2⟩ := st s1 a1 b1 c1 rk2
  have P2 : 0 ≤ sk T n 0 + 1 := by
    have i := sg_in (n := n) (f := mI u (o1 + 1)) (x := sk T n 0) (by rw [← hT2, e2]; decide)
    grind
  obtain ⟨r2, t2, n2⟩ := RS v2 s2 (by rw [mRQ_r a2']; exact a0) b2 c2 (by rw [rk2.2.2.1]; exact P2)
  refine kI (x_num2 r2) (fun a4 v4 h4 => ?_)
  have P4 := nm2_p r2 (x := sk T n 0 + 1) P2
  rw [t2, rk2.2.2.1] at h4
  rw [t2] at P4
  obtain ⟨rk4, i4⟩ := h4
  obtain ⟨s4, a4', b4, c4⟩ := st s2 a2' b2 c2 rk4
  refine ⟨fun a4n => ?_, fun a40 => ⟨_, rfl, s4, mm a4', .inl ⟨?_, by rw [rk4.2.2.1]; exact P4⟩⟩⟩
  rotate_left
  · unfold rdA
    rw [if_neg (fun z => z e2), if_pos]
    by_cases y : 10 ≤ (nm2 T (sk T n 0 + 1)).2.1 ∧ (nm2 T (sk T n 0 + 1)).2.1 ≤ 30
    · exact absurd a40 (i4.mpr ⟨by rw [nm2_1 y.1]; decide, y⟩)
    · exact .inr y
  have j4 := i4.mp a4n
  have E4 : rdA T n = (rdS T n (nm2 T (sk T n 0 + 1)).2.1 8 [] (nm2 T (sk T n 0 + 1)).2.2).map (fun l => ((nm2 T (sk T n 0 + 1)).2.1, l)) := by
    unfold rdA
    rw [if_neg (fun z => z e2), if_neg (fun z => z.elim (fun y => by rw [nm2_1 j4.2.1] at y; exact absurd y (by decide)) (fun y => y j4.2))]
  rw [rk4.2.2.2]
  generalize (nm2 T (sk T n 0 + 1)).2.1 = D at *
  generalize (nm2 T (sk T n 0 + 1)).2.2 = X at *
  have s5 : Cl L u (pI v4 o0 0 D) := s4.pla k0 ml (.inr j4.2.2)
  have a5 : mRQ (pI v4 o0 0 D) = mRQ w0 := a4'
  have b5 : ∀ k, mI (pI v4 o0 0 D) o1 k = mI u o1 k := fun k => by rw [mI_ne n26.1]; exact b4 k
  have c5 : ∀ k, mI (pI v4 o0 0 D) (o1 + 1) k = mI u (o1 + 1) k := fun k => by rw [mI_ne n26.2]; exact c4 k
  have d5 : mI (pI v4 o0 0 D) (o0 + 4) 1 = X := by rw [mI_ne (by omega)]; exact rk4.2.2.1
  have g5 : mI (pI v4 o0 0 D) o0 0 = D := mI_eq
  have f5 : mI (pI v4 o0 0 D) o0 1 = 0 := by
    rw [mI_nk (by decide), rk4.1 _ _ (fun z => by omega), rk2.1 _ _ (fun z => by omega), h1.1 _ _ (fun z => by omega)]; exact f0
  generalize pI v4 o0 0 D = w5 at *
  obtain ⟨r5, t5, n5⟩ := RS w5 s5 (by rw [mRQ_r a5]; exact a0) b5 c5 (by rw [d5]; exact P4)
  -- the loop
  have key : ∀ (f : Nat) (l : List Sh5) (x p : Int32) (v : pM), f + l.length = 8 → x = Int32.ofNat l.length → 0 ≤ p → Cl L u v → mRQ v = mRQ w0 → (∀ k, mI v o1 k = mI u o1 k) → (∀ k, mI v (o1 + 1) k = mI u (o1 + 1) k) → mI v (o0 + 4) 1 = sk T n p → mI v o0 0 = D → PlL v o0 l → rdA T n = (rdS T n D f l p).map (fun l => (D, l)) → Ws G Pl_read 81 [(0, .ref o0), (2, .int x)] [] v (RI fun a u' => Cl L u u' ∧ (∀ n k, n ≠ o0 + 4 → mR u' n k = mR u n k) ∧ RdC o0 T n a u') := by
    intro f
    induction f with
    | zero => intro l x p v hf _ _ _ _ _ _ _ _ hl; exact absurd hl.2.1 (by omega)
    | succ f ih =>
      intro l x p v hf hx hp s a b c d g hl E
      have PP := skp p hp
      have e7 : (Int32.ofNat l.length).toInt = l.length := nI_toInt (by have := hl.2.1; omega)
      have tn : mI v (mR v (o0 + 4) 0) 1 = n := by rw [mRQ_r a, a0, b, hn]
      have yes : n ≤ sk T n p → (RI fun a u' => Cl L u u' ∧ (∀ n k, n ≠ o0 + 4 → mR u' n k = mR u n k) ∧ RdC o0 T n a u') (some (.int (-9))) v := fun h => ⟨_, rfl, s, mm a, .inr ⟨D, l, by rw [E, rdS, if_pos h]; rfl, rfl, g, hl, j4.2⟩⟩
      refine sg_Pl_read_81 k0 ⟨fun c7 => ?_, fun c7 => ?_⟩
      · rw [tn, d]
        refine ⟨yes, fun q => ⟨_, rfl, s, mm a, .inl ⟨?_, PP⟩⟩⟩
        have l7 : l.length = 7 := by
          have := Int32.le_iff_toInt_le.mp c7
          rw [hx, e7] at this
          have q7 : (7 : Int32).toInt = 7 := by decide
          have := hl.2.1
          omega
        rw [E, rdS, if_neg q, if_pos l7]; rfl
      · rw [tn, d]
        refine ⟨fun q => ⟨fun q => yes q, fun z => absurd q z⟩, fun q => ?_⟩
        have l7 : l.length < 7 := by
          have := Int32.lt_iff_toInt_lt.mp (Int32.not_le.mp c7)
          rw [hx, e7] at this
          have q7 : (7 : Int32).toInt = 7 := by decide
          omega
        have xl : x.toNatClampNeg = l.length := by rw [hx]; exact Int32.toNatClampNeg_ofNat_of_lt (by omega)
        have x0 : 0 ≤ x := by
          apply Int32.le_iff_toInt_le.mpr
          rw [hx, e7]
          have : (0 : Int32).toInt = 0 := by decide
          omega
        have hv : vp_in x 7 := vin x0 (show (_ : Int32) < 7 from Int32.not_le.mp c7) (by decide)
        have okq : okS (R0 (o0 + 1) x.toNatClampNeg) 4 := (ra_ok (os_2_2 k0) (by decide) (by rw [ol_2_2 k0]; exact ix_lt hv)).2
        have inj : ∀ s, s < l.length → R0 (o0 + 1) s ≠ R0 (o0 + 1) x.toNatClampNeg := fun s hs e => by
          have := R0_inj k0 (show s < 7 by omega) (show x.toNatClampNeg < 7 by omega) e
          omega
        obtain ⟨r, t, nn⟩ := RS v s (by rw [mRQ_r a]; exact a0) b c (by rw [d]; exact PP)
        have mq := mP _ (sh_in k0 (ix_lt hv)).1 (sh_in k0 (ix_lt hv)).2
        refine ⟨hv, kI (x_readShop k0 okq r hl inj) (fun a13 v13 h13 => ?_)⟩
        obtain ⟨p', b', hp', sk13, h13⟩ := h13
        rw [t, g, d] at h13
        have s13 := s.cq (sk13.cq (L := L) k3 okq mp mq)
        have n46 := ne_4 (o := 0) okq k1 (by decide)
        have n47 := ne_4 (o := 0) okq (os_6_0 k1) (by decide)
        have q0 : o0 ≠ R0 (o0 + 1) x.toNatClampNeg := ne_4 (o := 0) okq k0 (by decide)
        rcases h13 with ⟨e13, a130⟩ | ⟨a13n, e13⟩
        · refine ⟨fun z => absurd a130 z, fun _ => ⟨_, rfl, s13, mm (sk13.2.1.trans a), .inl ⟨?_, by rw [sk13.2.2.1]; exact hp'⟩⟩⟩
          rw [E, rdS, if_neg q, if_neg (by omega), e13]; rfl
        · refine ⟨fun _ => ?_, fun z => absurd z a13n⟩
          have E' : rdA T n = (rdS T n D f (l ++ [shC v13 (R0 (o0 + 1) x.toNatClampNeg)]) p').map (fun l => (D, l)) := by
            rw [E, rdS, if_neg q, if_neg (by omega), e13]
          have x1 : x + 1 = Int32.ofNat (l ++ [shC v13 (R0 (o0 + 1) x.toNatClampNeg)]).length := by
            rw [List.length_append, List.length_singleton]
            apply Int32.toInt_inj.mp
            have p1 : (Int32.ofNat (l.length + 1)).toInt = ((l.length + 1 : Nat) : Int) := nI_toInt (by omega)
            rw [p1, i32_succ c7, hx, e7]
            omega
          have l13 := hl.sk k0 sk13 inj q0
          have sF : Cl L u (pI v13 o0 1 (x + 1)) := s13.pla k0 ml (.inl (by decide))
          have aF : mRQ (pI v13 o0 1 (x + 1)) = mRQ w0 := sk13.2.1.trans a
          have bF : ∀ k, mI (pI v13 o0 1 (x + 1)) o1 k = mI u o1 k := fun k => by rw [mI_ne n26.1, sk13.1 _ _ (fun z => n36.1 z.1) n46]; exact b k
          have cF : ∀ k, mI (pI v13 o0 1 (x + 1)) (o1 + 1) k = mI u (o1 + 1) k := fun k => by rw [mI_ne n26.2, sk13.1 _ _ (fun z => n36.2 z.1) n47]; exact c k
          have dF' : mI (pI v13 o0 1 (x + 1)) (o0 + 4) 1 = p' := by rw [mI_ne (by omega)]; exact sk13.2.2.1
          have gF : mI (pI v13 o0 1 (x + 1)) o0 0 = D := by rw [mI_nk (by decide), sk13.1 _ _ (fun z => by omega) q0]; exact g
          have ne2 : ∀ i, i < 7 → R0 (o0 + 1) i ≠ o0 := fun i hi => (show ∀ o, o < 95 → (S0 o).1 = 2 → ∀ i, i < 7 → R0 (o + 1) i ≠ o from by decide +kernel) o0 k0.2.1 k0.2.2 i hi
          have ne3 : ∀ i, i < 7 → R0 (o0 + 1) i ≠ o0 + 4 := fun i hi => (show ∀ o, o < 95 → (S0 o).1 = 2 → ∀ i, i < 7 → R0 (o + 1) i ≠ o + 4 from by decide +kernel) o0 k0.2.1 k0.2.2 i hi
          have shE : ∀ i, i < 7 → shC (pI v13 o0 1 (x + 1)) (R0 (o0 + 1) i) = shC v13 (R0 (o0 + 1) i) := fun i hi => by
            unfold shC; rw [mI_ne (ne2 i hi), mI_ne (ne2 i hi), mI_ne (ne2 i hi), mI_ne (ne2 i hi), mI_ne (ne2 i hi)]
          have lF : PlL (pI v13 o0 1 (x + 1)) o0 (l ++ [shC v13 (R0 (o0 + 1) x.toNatClampNeg)]) := by
            refine ⟨by rw [mI_eq]; exact x1, by rw [List.length_append, List.length_singleton]; omega, fun i hi => ?_⟩
            rw [List.length_append, List.length_singleton] at hi
            rw [shE i (by omega)]
            by_cases ei : i = l.length
            · rw [ei, List.getElem?_append_right (Nat.le_refl _), Nat.sub_self, xl]; rfl
            · rw [List.getElem?_append_left (by omega)]; exact l13.2.2 i (by omega)
          generalize pI v13 o0 1 (x + 1) = wF at *
          obtain ⟨rF, tF, nF⟩ := RS wF sF (by rw [mRQ_r aF]; exact a0) bF cF (by rw [dF']; exact hp')
          refine kV (x_skip rF) (fun v15 h15 => ?_)
          rw [tF, nF, dF'] at h15
          obtain ⟨s15, a15, b15, c15⟩ := st sF aF bF cF h15
          refine ih _ _ p' v15 (by rw [List.length_append, List.length_singleton]; omega) x1 hp' s15 a15 b15 c15 h15.2.2.1 (by rw [h15.1 _ _ (fun z => by omega)]; exact gF) ?_ E'
          refine ⟨by rw [h15.1 _ _ (fun z => by omega)]; exact lF.1, lF.2.1, fun i hi => ?_⟩
          rw [lF.2.2 i hi]
          have i7 : i < 7 := by have := lF.2.1; omega
          have ek : ∀ k, mI v15 (R0 (o0 + 1) i) k = mI wF (R0 (o0 + 1) i) k := fun k => h15.1 _ _ (fun z => ne3 i i7 z.1)
          unfold shC; rw [ek, ek, ek, ek, ek]
  refine kV (x_skip r5) (fun v6 h6 => ?_)
  rw [t5, n5, d5] at h6
  obtain ⟨s6, a6, b6, c6⟩ := st s5 a5 b5 c5 h6
  refine key 8 [] 0 X v6 rfl rfl P4 s6 a6 b6 c6 h6.2.2.1 (by rw [h6.1 _ _ (fun z => by omega)]; exact g5) ⟨by rw [h6.1 _ _ (fun z => by omega), f5]; rfl, by decide, fun i hi => absurd hi (by simp)⟩ E4
end RDX
