/-! ===== the class reads a shop ===== -/
/-- a shop read, or not -/
def ShR (o0 q : Nat) (u : pM) (l : List Sh5) (a : Int32) (u' : pM) : Prop := ∃ p b, 0 ≤ p ∧ Sk (o0 + 4) q u u' p b ∧ ((shp (Tx u (o0 + 4)) (mI u o0 0) (toldL l) (mI u (o0 + 4) 1) = none ∧ a = 0) ∨ (¬ a = 0 ∧ shp (Tx u (o0 + 4)) (mI u o0 0) (toldL l) (mI u (o0 + 4) 1) = some (shC u' q, p)))
theorem PlL.sk {o0 q : Nat} {u v : pM} {p a : Int32} {l : List Sh5} (h : PlL u o0 l) (k0 : okS o0 2) (s : Sk (o0 + 4) q u v p a) (hq : ∀ s, s < l.length → R0 (o0 + 1) s ≠ q) (h0 : o0 ≠ q) : PlL v o0 l := by
  refine ⟨by rw [s.1 o0 1 (fun z => by omega) h0]; exact h.1, h.2.1, fun i hi => ?_⟩
  rw [h.2.2 i hi]
  have e : ∀ k, mI v (R0 (o0 + 1) i) k = mI u (R0 (o0 + 1) i) k := fun k => s.1 _ _ (fun z => ?_) (hq i hi)
  · unfold shC; rw [e, e, e, e, e]
  · have a := (ra_ok (os_2_2 k0) (by decide) (show i < (S0 (o0 + 1)).2 by rw [ol_2_2 k0]; have := h.2.1; omega)).2
    exact ne_4 (o := 0) a (os_2_5 k0) (by decide) z.1.symm
section RDX
variable {G : pG} {u : pM}
theorem x_readShop {o0 q : Nat} {l : List Sh5} (k0 : okS o0 2) (kq : okS q 4) (r : RO u (o0 + 4)) (hl : PlL u o0 l) (hq : ∀ s, s < l.length → R0 (o0 + 1) s ≠ q) : Ws G Pl_readShop 0 [(0, .ref o0), (1, .ref q)] [] u (RI fun a u' => ShR o0 q u l a u') := by
  have k3 := os_2_5 k0
  have qo : q ≠ o0 + 4 := (ne_4 (o := 0) kq k3 (by decide)).symm
  have q0 : o0 ≠ q := ne_4 (o := 0) kq k0 (by decide)
  -- T and the first place
  have nn : ∀ {a : Int32} {v : pM} {p b : Int32}, 0 ≤ p → Sk (o0 + 4) q u v p b → shp (Tx u (o0 + 4)) (mI u o0 0) (toldL l) (mI u (o0 + 4) 1) = none → a = 0 → ShR o0 q u l a v := fun hp s e a0 => ⟨_, _, hp, s, .inl ⟨e, a0⟩⟩
  refine sg_Pl_readShop_0 k0 kq (kI (x_readKind r) (fun a1 v1 h1 => ?_))
  rcases h1 with ⟨kn, a1n, rk1⟩ | ⟨kn, a10, rfl⟩
  rotate_left
  · exact ⟨fun z => absurd a10 z, fun _ => ⟨_, rfl, nn r.2.2.2.2 Sk.rf (by unfold shp; rw [if_pos kn]) rfl⟩⟩
  refine ⟨fun _ => ?_, fun z => absurd z a1n⟩
  have P1 : 0 ≤ mI u (o0 + 4) 1 + 1 := nx r rfl (fun e => kn (by rw [e]; decide))
  rw [rk1.2.2.2]
  have s1 : Sk (o0 + 4) q u (pI v1 q 0 (kindV (Tx u (o0 + 4) (mI u (o0 + 4) 1)))) (mI u (o0 + 4) 1 + 1) (kindV (Tx u (o0 + 4) (mI u (o0 + 4) 1))) := (Sk.rf.rk rk1).wr qo
  have c1 : mI (pI v1 q 0 (kindV (Tx u (o0 + 4) (mI u (o0 + 4) 1)))) q 0 = kindV (Tx u (o0 + 4) (mI u (o0 + 4) 1)) := mI_eq
  generalize pI v1 q 0 (kindV (Tx u (o0 + 4) (mI u (o0 + 4) 1))) = w1 at s1 c1
  have R1 := s1.ro r kq P1
  have d1 : mI w1 o0 0 = mI u o0 0 := s1.1 _ _ (fun z => by omega) q0
  rw [d1]
  refine kI (x_num2 R1) (fun a3 v3 h3 => ?_)
  rw [(s1.tx r kq).1, s1.2.2.1] at h3
  obtain ⟨rk3, i3⟩ := h3
  have P3 := nm2_p r P1
  have s3 := s1.rk rk3
  have c3 : mI v3 q 0 = kindV (Tx u (o0 + 4) (mI u (o0 + 4) 1)) := (rk_q rk3 qo).trans c1
  have cn : 1 ≤ (nm2 (Tx u (o0 + 4)) (mI u (o0 + 4) 1 + 1)).1 ↔ ¬ (nm2 (Tx u (o0 + 4)) (mI u (o0 + 4) 1 + 1)).1 = 0 := nm2_c _ _
  refine ⟨fun z => ⟨_, rfl, nn P3 s3 ?_ rfl⟩, fun a3n => ?_⟩
  · unfold shp
    rw [if_neg kn, if_pos]
    by_cases e : (nm2 (Tx u (o0 + 4)) (mI u (o0 + 4) 1 + 1)).1 = 0
    · exact .inl e
    · exact .inr (fun y => absurd z (i3.mpr ⟨cn.mpr e, y⟩))
  have j3 := i3.mp a3n
  have t3 := s3.tx r kq
  have l3 : PlL v3 o0 l := hl.sk k0 s3 hq q0
  rw [rk3.2.2.2]
  refine kI (x_isFirst k0 l3) (fun a5 v5 h5 => ?_)
  obtain ⟨rfl, i5⟩ := h5
  have sh1 : ¬ ((nm2 (Tx u (o0 + 4)) (mI u (o0 + 4) 1 + 1)).1 = 0 ∨ ¬ (0 ≤ (nm2 (Tx u (o0 + 4)) (mI u (o0 + 4) 1 + 1)).2.1 ∧ (nm2 (Tx u (o0 + 4)) (mI u (o0 + 4) 1 + 1)).2.1 ≤ mI u o0 0 - 1)) := fun z => z.elim (cn.mp j3.1) (fun y => y j3.2)
  refine ⟨fun a50 => ?_, fun a5n => ⟨_, rfl, nn P3 s3 (by unfold shp; rw [if_neg kn, if_neg sh1, if_pos (i5.mp a5n)]) rfl⟩⟩
  have nt : ¬ toldL l (nm2 (Tx u (o0 + 4)) (mI u (o0 + 4) 1 + 1)).2.1 = true := fun z => i5.mpr z a50
  have E1 : shp (Tx u (o0 + 4)) (mI u o0 0) (toldL l) (mI u (o0 + 4) 1) = shp2 (Tx u (o0 + 4)) (kindV (Tx u (o0 + 4) (mI u (o0 + 4) 1))) (nm2 (Tx u (o0 + 4)) (mI u (o0 + 4) 1 + 1)).2.1 (nm2 (Tx u (o0 + 4)) (mI u (o0 + 4) 1 + 1)).2.2 := by
    unfold shp; rw [if_neg kn, if_neg sh1, if_neg nt]
  rw [rk3.2.2.2]
  generalize kindV (Tx u (o0 + 4) (mI u (o0 + 4) 1)) = K at *
  generalize (nm2 (Tx u (o0 + 4)) (mI u (o0 + 4) 1 + 1)).2.1 = V at *
  generalize (nm2 (Tx u (o0 + 4)) (mI u (o0 + 4) 1 + 1)).2.2 = Y at *
  have s5 : Sk (o0 + 4) q u (pI v5 q 1 V) Y V := s3.wr qo
  have c50 : mI (pI v5 q 1 V) q 0 = K := by rw [mI_nk (by decide)]; exact c3
  have c51 : mI (pI v5 q 1 V) q 1 = V := mI_eq
  generalize pI v5 q 1 V = w5 at s5 c50 c51
  have R5 := s5.ro r kq P3
  refine kI (x_passes R5 (c := 58) (by decide) (by decide)) (fun a7 v7 h7 => ?_)
  rw [(s5.tx r kq).1, s5.2.2.1] at h7
  rcases h7 with ⟨e7, a7n, rk7⟩ | ⟨e7, a70, rfl⟩
  rotate_left
  · exact ⟨fun _ => ⟨_, rfl, nn P3 s5 (by rw [E1]; unfold shp2; rw [if_pos e7]) rfl⟩, fun z => absurd a70 z⟩
  refine ⟨fun z => absurd z a7n, fun _ => ?_⟩
  have P7 : 0 ≤ Y + 1 := nx r e7 (by decide)
  have s7 := s5.rk rk7
  have R7 := s7.ro r kq P7
  have c70 : mI v7 q 0 = K := (rk_q rk7 qo).trans c50
  have c71 : mI v7 q 1 = V := (rk_q rk7 qo).trans c51
  refine kI (x_readStep R7) (fun a9 v9 h9 => ?_)
  rw [(s7.tx r kq).1, s7.2.2.1] at h9
  rcases h9 with ⟨e9, a9n, rk9⟩ | ⟨e9, a90, p, b, hp, rk9⟩
  rotate_left
  · refine ⟨fun z => absurd a90 z, fun _ => ⟨_, rfl, nn hp (s7.rk rk9) ?_ rfl⟩⟩
    rw [E1]; unfold shp2
    rw [if_neg (fun z => z e7)]
    by_cases y : Tx u (o0 + 4) (Y + 1) = 45 ∨ Tx u (o0 + 4) (Y + 1) = 43
    · rw [if_neg (fun z => z y), if_pos (fun z => e9 ⟨y, z⟩)]
    · rw [if_pos y]
  refine ⟨fun _ => ?_, fun z => absurd z a9n⟩
  have E2 : shp (Tx u (o0 + 4)) (mI u o0 0) (toldL l) (mI u (o0 + 4) 1) = shp3 (Tx u (o0 + 4)) K V (if Tx u (o0 + 4) (Y + 1) = 45 then -dg (Tx u (o0 + 4) (Y + 1 + 1)) else dg (Tx u (o0 + 4) (Y + 1 + 1))) (Y + 1 + 1 + 1) := by
    rw [E1]; unfold shp2
    rw [if_neg (fun z => z e7), if_neg (fun z => z e9.1), if_neg (fun z => z e9.2)]
  have P9 : 0 ≤ Y + 1 + 1 + 1 := by
    have i := fig_in e9.2
    have := r.2.2.2.1
    grind
  rw [rk9.2.2.2]
  generalize (if Tx u (o0 + 4) (Y + 1) = 45 then -dg (Tx u (o0 + 4) (Y + 1 + 1)) else dg (Tx u (o0 + 4) (Y + 1 + 1))) = S at *
  have s9 : Sk (o0 + 4) q u (pI v9 q 2 S) (Y + 1 + 1 + 1) S := (s7.rk rk9).wr qo
  have c90 : mI (pI v9 q 2 S) q 0 = K := by rw [mI_nk (by decide)]; exact (rk_q rk9 qo).trans c70
  have c91 : mI (pI v9 q 2 S) q 1 = V := by rw [mI_nk (by decide)]; exact (rk_q rk9 qo).trans c71
  have c92 : mI (pI v9 q 2 S) q 2 = S := mI_eq
  generalize pI v9 q 2 S = w9 at s9 c90 c91 c92
  generalize Y + 1 + 1 + 1 = Z at *
  have R9 := s9.ro r kq P9
  refine kI (x_passes R9 (c := 58) (by decide) (by decide)) (fun a11 v11 h11 => ?_)
  rw [(s9.tx r kq).1, s9.2.2.1] at h11
  rcases h11 with ⟨e11, a11n, rk11⟩ | ⟨e11, a110, rfl⟩
  rotate_left
  · exact ⟨fun _ => ⟨_, rfl, nn P9 s9 (by rw [E2]; unfold shp3; rw [if_pos e11]) rfl⟩, fun z => absurd a110 z⟩
  refine ⟨fun z => absurd z a11n, fun _ => ?_⟩
  have P11 : 0 ≤ Z + 1 := nx r e11 (by decide)
  have s11 := s9.rk rk11
  have R11 := s11.ro r kq P11
  refine kI (x_num2 R11) (fun a13 v13 h13 => ?_)
  rw [(s11.tx r kq).1, s11.2.2.1] at h13
  obtain ⟨rk13, i13⟩ := h13
  have P13 := nm2_p r P11
  have s13 := s11.rk rk13
  have cn2 : 1 ≤ (nm2 (Tx u (o0 + 4)) (Z + 1)).1 ↔ ¬ (nm2 (Tx u (o0 + 4)) (Z + 1)).1 = 0 := nm2_c _ _
  refine ⟨fun a13n => ?_, fun a130 => ⟨_, rfl, nn P13 s13 ?_ rfl⟩⟩
  rotate_left
  · rw [E2]; unfold shp3
    rw [if_neg (fun z => z e11), if_pos]
    by_cases e : (nm2 (Tx u (o0 + 4)) (Z + 1)).1 = 0
    · exact .inl e
    · exact .inr (fun y => absurd a130 (i13.mpr ⟨cn2.mpr e, y⟩))
  have j13 := i13.mp a13n
  have E3 : shp (Tx u (o0 + 4)) (mI u o0 0) (toldL l) (mI u (o0 + 4) 1) = shp4 (Tx u (o0 + 4)) K V S (nm2 (Tx u (o0 + 4)) (Z + 1)).2.1 (nm2 (Tx u (o0 + 4)) (Z + 1)).2.2 := by
    rw [E2]; unfold shp3
    rw [if_neg (fun z => z e11), if_neg (fun z => z.elim (cn2.mp j13.1) (fun y => y j13.2))]
  rw [rk13.2.2.2]
  generalize (nm2 (Tx u (o0 + 4)) (Z + 1)).2.1 = A at *
  generalize (nm2 (Tx u (o0 + 4)) (Z + 1)).2.2 = X at *
  have sF : Sk (o0 + 4) q u (pI (pI v13 q 3 A) q 4 0) X A := (s13.wr qo).wr qo
  have q13 : ∀ k, mI v13 q k = mI w9 q k := fun k => (rk_q rk13 qo).trans (rk_q rk11 qo)
  have f0 : mI (pI (pI v13 q 3 A) q 4 0) q 0 = K := by rw [mI_nk (by decide), mI_nk (by decide), q13]; exact c90
  have f1 : mI (pI (pI v13 q 3 A) q 4 0) q 1 = V := by rw [mI_nk (by decide), mI_nk (by decide), q13]; exact c91
  have f2 : mI (pI (pI v13 q 3 A) q 4 0) q 2 = S := by rw [mI_nk (by decide), mI_nk (by decide), q13]; exact c92
  have f3 : mI (pI (pI v13 q 3 A) q 4 0) q 3 = A := by rw [mI_nk (by decide), mI_eq]
  have f4 : mI (pI (pI v13 q 3 A) q 4 0) q 4 = 0 := mI_eq
  rw [f0]
  generalize pI (pI v13 q 3 A) q 4 0 = wF at *
  refine ⟨fun k3 => ⟨_, rfl, _, _, P13, sF, .inr ⟨by decide, ?_⟩⟩, fun k3 => ?_⟩
  · rw [E3]; unfold shp4 shC
    rw [if_pos k3, f0, f1, f2, f3, f4]
  have RF := sF.ro r kq P13
  refine kI (x_passes RF (c := 58) (by decide) (by decide)) (fun a16 v16 h16 => ?_)
  rw [(sF.tx r kq).1, sF.2.2.1] at h16
  rcases h16 with ⟨e16, a16n, rk16⟩ | ⟨e16, a160, rfl⟩
  rotate_left
  · exact ⟨fun _ => ⟨_, rfl, nn P13 sF (by rw [E3]; unfold shp4; rw [if_neg k3, if_pos e16]) rfl⟩, fun z => absurd a160 z⟩
  refine ⟨fun z => absurd z a16n, fun _ => ?_⟩
  have P16 : 0 ≤ X + 1 := nx r e16 (by decide)
  have s16 := sF.rk rk16
  have R16 := s16.ro r kq P16
  refine kI (x_num1 R16 (by decide)) (fun a18 v18 h18 => ?_)
  rw [(s16.tx r kq).1, s16.2.2.1] at h18
  rcases h18 with ⟨g18, rk18, i18⟩ | ⟨g18, a180, rk18⟩
  · have P18 : 0 ≤ X + 1 + 1 := by
      have i := fig_in g18
      have := r.2.2.2.1
      grind
    have s18 := s16.rk rk18
    refine ⟨fun a18n => ?_, fun a180 => ⟨_, rfl, nn P18 s18 ?_ rfl⟩⟩
    · rw [rk18.2.2.2]
      refine ⟨_, rfl, _, _, P18, s18.wr qo, .inr ⟨by decide, ?_⟩⟩
      have q18 : ∀ k, mI v18 q k = mI wF q k := fun k => (rk_q rk18 qo).trans (rk_q rk16 qo)
      rw [E3]; unfold shp4 shC
      rw [if_neg k3, if_neg (fun z => z e16), if_neg (fun z => z ⟨g18, i18.mp a18n⟩), mI_nk (by decide), mI_nk (by decide), mI_nk (by decide), mI_nk (by decide), mI_eq, q18, q18, q18, q18, f0, f1, f2, f3]
    · rw [E3]; unfold shp4
      rw [if_neg k3, if_neg (fun z => z e16), if_pos (fun z => i18.mpr z.2 a180)]
  · refine ⟨fun z => absurd a180 z, fun _ => ⟨_, rfl, nn P16 (s16.rk rk18) ?_ rfl⟩⟩
    rw [E3]; unfold shp4
    rw [if_neg k3, if_neg (fun z => z e16), if_pos (fun z => g18 z.1)]
end RDX
