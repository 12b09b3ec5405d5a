section SQX
variable {G : pG} {u : pM}
theorem d_squarex {x1 : Int32} (hC : InvC u) : Ws G D_square 0 [(0, .ref 2), (1, .int x1)] [] u (RI fun a u' => Cl (qB ++ qN ++ qK ++ qJ ++ qP ++ qZ) u u' ∧ sqQ (mI u (62 + 2 * x1.toNatClampNeg) 1) (sgT (mI u (62 + 2 * x1.toNatClampNeg) 1) (mI u (63 + 2 * x1.toNatClampNeg))) x1 a (sqF u u') (sqS u u')) := by
  refine sg_D_square_0 ⟨fun a => ?_, fun a => ⟨_, rfl, Cl.rf hC, .inl ⟨a, rfl, fun _ => rfl, fun _ _ _ _ _ _ _ => rfl, fun _ _ _ _ => rfl⟩⟩⟩
  obtain ⟨et, ht⟩ := tO a
  have k0 := (tL ht).1
  have hs := hC.1 _ k0
  rw [(tL ht).2] at hs
  rw [et]
  refine ⟨fun b hp => ?_, fun b => ⟨_, rfl, (cq_dF Cq.rf (by decide)).cl hC, .inr ⟨a, .inl ⟨b, rfl, ?_⟩⟩⟩⟩
  rotate_left
  · have z := (cq_dF (L := qB) (f := 1) (Cq.rf (u := u)) (by decide))
    refine sqF.of z.2.2 (fun k => by rw [z.2.1]) (fun _ h10 _ n h1 h2 => ?_) (by decide)
    have : 22 ≤ n ∧ n < 50 := by rcases h10 with e | e <;> omega
    exact (show ∀ n, n < 50 → 22 ≤ n → n ∉ qB from by decide) n this.2 this.1
  refine kI (x_read (L := qPl (mR u 2 11)) (qPl_w (fun n h => h)) (pl_ok hp) k0 hC hs) (fun a6 u6 h6 => ?_)
  obtain ⟨c6s, m6, h6⟩ := h6
  have c6 : Cl (qB ++ qN ++ qK ++ qJ ++ qP ++ qZ) u u6 := c6s.mono (by rcases hp with z | z <;> rw [z] <;> decide)
  have e63 : 62 + 2 * x1.toNatClampNeg + 1 = 63 + 2 * x1.toNatClampNeg := by omega
  rw [e63] at h6
  have n4 : (2 : Nat) ≠ mR u 2 11 + 4 := by rcases hp with z | z <;> rw [z] <;> decide
  rcases h6 with ⟨e, p⟩ | ⟨d, l, e, p, g0, hm, hd⟩
  · refine ⟨fun z => absurd p (by rw [z]; decide), fun _ => ⟨_, rfl, c6, .inr ⟨a, .inr ⟨b, .inl ⟨e, rfl, ?_⟩⟩⟩⟩⟩
    refine sqF.of c6s.fp (fun k => m6 _ _ n4) (fun hne h10 h11 n h1 h2 => ?_) (by rcases hp with z | z <;> rw [z] <;> decide)
    rcases h10 with e | e <;> rcases h11 with f | f
    · exact absurd (e.trans f.symm) hne
    · rw [f]; rw [e] at h1 h2; exact (show ∀ n, n < 22 + 14 → 22 ≤ n → n ∉ qPl 36 from by decide) n h2 h1
    · rw [f]; rw [e] at h1 h2; exact (show ∀ n, n < 36 + 14 → 36 ≤ n → n ∉ qPl 22 from by decide) n h2 h1
    · exact absurd (e.trans f.symm) hne
  · refine ⟨fun _ _ hp11 hp2 => ?_, fun z => absurd p z⟩
    have e11 : mR u6 2 11 = mR u 2 11 := m6 _ _ n4
    have e10 : mR u6 2 10 = mR u 2 10 := m6 _ _ n4
    have s0 : mR (pR (pR u6 2 10 (mR u6 2 11)) 2 11 (mR u6 2 10)) 2 10 = mR u 2 11 := by
      show up2 (up2 (mR u6) 2 10 (mR u6 2 11)) 2 11 (mR u6 2 10) 2 10 = _
      rw [up2, if_neg (by decide), up2, if_pos ⟨rfl, rfl⟩, e11]
    have s1 : mR (pR (pR u6 2 10 (mR u6 2 11)) 2 11 (mR u6 2 10)) 2 11 = mR u 2 10 := by
      show up2 (up2 (mR u6) 2 10 (mR u6 2 11)) 2 11 (mR u6 2 10) 2 11 = _
      rw [up2, if_pos ⟨rfl, rfl⟩, e10]
    have t0 : Cl (qB ++ qN ++ qK ++ qJ ++ qP ++ qZ) u (pR (pR u6 2 10 (mR u6 2 11)) 2 11 (mR u6 2 10)) := (c6.pR (.inr (by decide))).pR (.inr (by decide))
    have z0 : mI (pR (pR u6 2 10 (mR u6 2 11)) 2 11 (mR u6 2 10)) (mR u 2 11) 0 = d := g0
    have y0 : PlL (pR (pR u6 2 10 (mR u6 2 11)) 2 11 (mR u6 2 10)) (mR u 2 11) l := hm
    generalize pR (pR u6 2 10 (mR u6 2 11)) 2 11 (mR u6 2 10) = w0 at s0 s1 t0 z0 y0 hp2
    have ko := pl_ok hp
    -- what is written beside leaves the Plan's numbers and shops
    have kp : ∀ {L : List Nat} {v w : pM}, Fp L v w → mR u 2 11 ∉ L → (∀ i, i < 7 → R0 (mR u 2 11 + 1) i ∉ L) → mI v (mR u 2 11) 0 = d → PlL v (mR u 2 11) l → mI w (mR u 2 11) 0 = d ∧ PlL w (mR u 2 11) l := by
      intro L v w hf h1 h2 g hl
      have c1 : ∀ k, mI w (mR u 2 11) k = mI v (mR u 2 11) k := fun k => hf _ _ (by rw [cd_k ko (by decide) (by have := lt_2 ko; omega)]; exact h1)
      refine ⟨by rw [c1]; exact g, by rw [c1]; exact hl.1, hl.2.1, fun i hi => ?_⟩
      have i7 : i < 7 := by have := hl.2.1; omega
      have kq : okS (R0 (mR u 2 11 + 1) i) 4 := (ra_ok (os_2_2 ko) (by decide) (by rw [ol_2_2 ko]; exact i7)).2
      have c2 : ∀ k, mI w (R0 (mR u 2 11 + 1) i) k = mI v (R0 (mR u 2 11 + 1) i) k := fun k => hf _ _ (by rw [cd_k kq (by decide) (by have := lt_4 kq; omega)]; exact h2 i i7)
      rw [hl.2.2 i hi]; unfold shC
      rw [c2, c2, c2, c2, c2]
    have RR : ∀ i, i < 7 → R0 (mR u 2 11 + 1) i = mR u 2 11 + 7 + i := fun i hi => (show ∀ o, o < 95 → (S0 o).1 = 2 → ∀ i, i < 7 → R0 (o + 1) i = o + 7 + i from by decide +kernel) _ ko.2.1 ko.2.2 i hi
    have far : mR u 2 11 = 22 ∨ mR u 2 11 = 36 := hp
    have key : ∀ x v, Cl (qB ++ qN ++ qK ++ qJ ++ qP ++ qZ) u v → mR v 2 10 = mR u 2 11 → mR v 2 11 = mR u 2 10 → mI v (mR u 2 11) 0 = d → PlL v (mR u 2 11) l → 0 ≤ x → mI v 14 0 = 0 → mI v 7 0 = 0 → mI v 7 1 = 0 → (∀ s, s < l.length → mI v 8 s = (shF v (mR u 2 11) s).2.1) → (∀ k, k < 3 → k < x.toNatClampNeg → mI v (70 + 2 * k) 0 = -1) → OrdC v (mR u 2 11) (shF v (mR u 2 11)) l.length → Ws G D_square 91 [(0, .ref 2), (4, .int x)] [] v (RI fun a u' => Cl (qB ++ qN ++ qK ++ qJ ++ qP ++ qZ) u u' ∧ sqQ (mI u (62 + 2 * x1.toNatClampNeg) 1) (sgT (mI u (62 + 2 * x1.toNatClampNeg) 1) (mI u (63 + 2 * x1.toNatClampNeg))) x1 a (sqF u u') (sqS u u')) := by
      refine upI 3 _ (fun x ih v h q1 q1b q2 q3 x0 w1 w2 w3 w4 w5 w6 => ?_)
      refine sg_D_square_91 ⟨fun c3 _ => ⟨_, rfl, h, .inr ⟨a, .inr ⟨b, .inr ⟨d, l, e, by rw [q1]; exact q3.1, q1, q1b, q2, q3, hd.1, hd.2, w1, w2, w3, w4, fun k hk => w5 k hk (by have := tn_le c3; have e : (3 : Int32).toNatClampNeg = 3 := (by decide); omega), w6⟩⟩⟩⟩, fun c => ?_⟩
      have m5 := kpV_m (L := [10, 11, 70, 71, 72, 73, 74, 75]) (r := x) (fun n h => h)
      have fp : Fp [10, 11, 70, 71, 72, 73, 74, 75] v (pI v (kpV x) 0 (-1)) := Fp.rf.pI (cm_5 (kpV_ok _) m5)
      have q := kp fp (by rcases far with z | z <;> rw [z] <;> decide) (fun i hi => by rw [RR i hi]; rcases far with z | z <;> rw [z] <;> revert i <;> decide) q2 q3
      have x3 := Int32.not_le.mp c
      have xN : x.toNatClampNeg < 3 := by have := tn_lt x0 x3; have e : (3 : Int32).toNatClampNeg = 3 := (by decide); omega
      have ek : kpV x = 70 + 2 * x.toNatClampNeg := by
        unfold kpV
        rw [if_pos ⟨x0, x3⟩]
        exact (show ∀ t, t < 3 → R0 9 t = 70 + 2 * t from by decide +kernel) _ xN
      have lo : ∀ n k, n < 70 → mI (pI v (kpV x) 0 (-1)) n k = mI v n k := fun n k hn => mI_ne (by rw [ek]; omega)
      have p3 : mR u 2 11 + 3 < 70 := by rcases far with z | z <;> rw [z] <;> decide
      have eF : ∀ s, s < 7 → shF (pI v (kpV x) 0 (-1)) (mR u 2 11) s = shF v (mR u 2 11) s := fun s hs => by
        have r : R0 (mR u 2 11 + 1) s < 70 := by rw [RR s hs]; rcases far with z | z <;> omega
        unfold shF shC
        rw [lo _ _ r, lo _ _ r, lo _ _ r, lo _ _ r, lo _ _ r]
      refine ih c _ (h.pI (wr_5 (kpV_ok _)) (cm_5 (kpV_ok _) (kpV_m (by decide)))) q1 q1b q.1 q.2 (by grind) (by rw [lo _ _ (by decide)]; exact w1) (by rw [lo _ _ (by decide)]; exact w2) (by rw [lo _ _ (by decide)]; exact w3) (fun s hs => by rw [lo _ _ (by decide), eF s (by have := q3.2.1; omega)]; exact w4 s hs) (fun k hk hx => ?_) ?_
      · rw [tn_succ x0 c] at hx
        by_cases e : k = x.toNatClampNeg
        · rw [e, ek, mI_eq]
        · rw [ek, mI_ne (by omega)]; exact w5 k hk (by omega)
      · exact (w6.cg (fun i _ => lo _ _ p3)).sh (fun s hs => eF s (by have := q3.2.1; omega))
    rw [s0]
    have l7 := y0.2.1
    have sz : (mI w0 (mR u 2 11) 1).toNatClampNeg = l.length := by rw [y0.1, on7 l7]
    have hm7 : 0 ≤ mI w0 (mR u 2 11) 1 ∧ mI w0 (mR u 2 11) 1 ≤ 7 := by
      rw [y0.1]
      exact (show ∀ n, n < 8 → 0 ≤ Int32.ofNat n ∧ Int32.ofNat n ≤ 7 from by decide) _ (by omega)
    have ag : agK (shF w0 (mR u 2 11)) (mI w0 (mR u 2 11) 1).toNatClampNeg := fun s hs => by
      rw [sz] at hs
      have r := (rdA_okx e).1 _ (List.mem_of_getElem? (y0.2.2 s hs))
      have q := r.1.2.2.2.2
      exact ⟨Int32.le_trans (by decide) q.1, q.2⟩
    refine kV (c_rankx (L := [mR u 2 11 + 3]) (by simp) ko hm7 ag) (fun v2 h2r hp3 => ?_)
    obtain ⟨h2, f2, o2⟩ := h2r
    rw [sz] at o2
    have b2 : Cq (qB ++ qN ++ qK ++ qJ ++ qP ++ qZ) w0 v2 := h2.mono (fun x hx => by rw [List.mem_singleton.mp hx]; rcases far with z | z <;> rw [z] <;> decide)
    have s2 : mR v2 2 10 = mR u 2 11 := by rw [h2.2.1]; exact s0
    have s2b : mR v2 2 11 = mR u 2 10 := by rw [h2.2.1]; exact s1
    have q2 := kp h2.2.2 (by simp) (fun i hi => by rw [RR i hi]; simp; omega) z0 y0
    rw [s2]
    have eF2 : ∀ s, s < 7 → shF v2 (mR u 2 11) s = shF w0 (mR u 2 11) s := fun s hs => by
      have r : R0 (mR u 2 11 + 1) s ≠ mR u 2 11 + 3 := by rw [RR s hs]; omega
      unfold shF shC
      rw [f2 _ _ r, f2 _ _ r, f2 _ _ r, f2 _ _ r, f2 _ _ r]
    refine kV (c_snBeginx (L := [7, 8]) (by decide) (by decide) ko ⟨by rw [q2.2.1]; exact (show ∀ n, n < 8 → 0 ≤ Int32.ofNat n from by decide) _ (by omega), by rw [q2.2.1]; exact (show ∀ n, n < 8 → Int32.ofNat n ≤ 7 from by decide) _ (by omega)⟩) (fun v3 h3r => ?_)
    obtain ⟨h3, f3, b30, b31, b3d⟩ := h3r
    rw [q2.2.1, on7 l7] at b3d
    have p3 : ¬ (mR u 2 11 + 3 = 7) ∧ ¬ (mR u 2 11 + 3 = 8) := by rcases far with z | z <;> rw [z] <;> decide
    have eF3 : ∀ s, s < 7 → shF v3 (mR u 2 11) s = shF v2 (mR u 2 11) s := fun s hs => by
      have r : R0 (mR u 2 11 + 1) s ≠ 7 ∧ R0 (mR u 2 11 + 1) s ≠ 8 := by rw [RR s hs]; rcases far with z | z <;> omega
      unfold shF shC
      rw [f3 _ _ r.1 r.2, f3 _ _ r.1 r.2, f3 _ _ r.1 r.2, f3 _ _ r.1 r.2, f3 _ _ r.1 r.2]
    have eF4 : ∀ s, s < 7 → shF (pI v3 14 0 0) (mR u 2 11) s = shF v3 (mR u 2 11) s := fun s hs => by
      have r : R0 (mR u 2 11 + 1) s ≠ 14 := by rw [RR s hs]; rcases far with z | z <;> omega
      unfold shF shC
      rw [mI_ne r, mI_ne r, mI_ne r, mI_ne r, mI_ne r]
    have b3 : Cq (qB ++ qN ++ qK ++ qJ ++ qP ++ qZ) v2 v3 := h3.mono (by decide)
    have q3 := kp h3.2.2 (by rcases far with z | z <;> rw [z] <;> decide) (fun i hi => by rw [RR i hi]; rcases far with z | z <;> rw [z] <;> revert i <;> decide) q2.1 q2.2
    have f4 : Fp [14] v3 (pI v3 14 0 0) := Fp.rf.pI (by decide)
    have q4 := kp f4 (by rcases far with z | z <;> rw [z] <;> decide) (fun i hi => by rw [RR i hi]; rcases far with z | z <;> rw [z] <;> revert i <;> decide) q3.1 q3.2
    exact key 0 _ (((t0.cq b2).cq b3).pI (wr_k (n := 14) (kd := 0) (by decide) (by decide) (by decide) (by decide)) (by decide)) (by show mR v3 2 10 = _; rw [h3.2.1]; exact s2) (by show mR v3 2 11 = _; rw [h3.2.1]; exact s2b) q4.1 q4.2 (by decide) mI_eq (by rw [mI_ne (by decide)]; exact b30) (by rw [mI_ne (by decide)]; exact b31) (fun s hs => by rw [mI_ne (by decide), eF4 s (by omega), eF3 s (by omega)]; exact b3d s hs) (fun k _ hx => absurd hx (by have z0 : (0 : Int32).toNatClampNeg = 0 := (by decide); omega)) (((o2.cg (fun i _ => by rw [mI_ne (by rcases far with z | z <;> omega)]; exact f3 _ _ p3.1 p3.2)).sh (fun s hs => by rw [eF4 s (by omega), eF3 s (by omega), eF2 s (by omega)])))
end SQX
