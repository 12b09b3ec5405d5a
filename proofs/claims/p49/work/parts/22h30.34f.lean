/-! ===== gone: a row that is an image ===== -/
/-- what a row must hold to be gone on from, its size apart -/
def imK (n m : Int32) (f : Nat → Int32) : Prop := (0 ≤ f 0 ∧ f 0 ≤ 100000) ∧ (0 ≤ f 1 ∧ f 1 >>> (n &&& 31) = 0) ∧ bcV (f 1) ≤ 3 ∧ (∀ s, s < m.toNatClampNeg → 0 ≤ f (2 + s) ∧ f (2 + s) < n) ∧ ∀ s q, s < q → q < m.toNatClampNeg → f (2 + s) ≠ f (2 + q)
def gonK (n m sz x : Int32) (f : Nat → Int32) : Prop := (0 ≤ x ∧ x < 6) ∧ 0 < n ∧ sz = m + 2 ∧ imK n m f
theorem imK.cg {n m : Int32} {f g : Nat → Int32} (hm : m.toNatClampNeg ≤ 7) (e : ∀ k, k < 40 → f k = g k) (h : imK n m f) : imK n m g := by
  unfold imK at *
  rw [← e 0 (by decide), ← e 1 (by decide)]
  exact ⟨h.1, h.2.1, h.2.2.1, fun s hs => by rw [← e _ (by omega)]; exact h.2.2.2.1 s hs, fun s q a b => by rw [← e _ (by omega), ← e _ (by omega)]; exact h.2.2.2.2 s q a b⟩
theorem set_eqn {n x : Int32} (h : 0 ≤ n ∧ n ≤ 30) : (0 ≤ x ∧ x >>> (n &&& 31) = 0) ↔ (0 ≤ x ∧ x ≤ (1 <<< (n &&& 31)) - 1) := by
  have l := tn_le h.2
  have e : (30 : Int32).toNatClampNeg = 30 := by decide
  have k := (show ∀ j, j < 31 → ((1 : Int32) <<< (Int32.ofNat j &&& 31) - 1).toInt = ((2 ^ j : Nat) : Int) - 1 ∧ (0 : Int) < ((2 ^ j : Nat) : Int) from by decide) n.toNatClampNeg (by omega)
  have s := set_eq1 (x := x) (j := n.toNatClampNeg) (P := ((2 ^ n.toNatClampNeg : Nat) : Int)) (by omega) rfl k.1 k.2
  rw [i32_nat h.1] at s
  exact s
theorem bn_set {n x : Int32} (h : 0 ≤ n ∧ n ≤ 30) (hx : 0 ≤ x ∧ x >>> (n &&& 31) = 0) : bnK n x := fun i hi h32 => by
  have l := tn_le h.2
  have e30 : (30 : Int32).toNatClampNeg = 30 := by decide
  have k := (show ∀ j, j < 31 → ((1 : Int32) <<< (Int32.ofNat j &&& 31) - 1).toInt = ((2 ^ j : Nat) : Int) - 1 from by decide) n.toNatClampNeg (by omega)
  rw [i32_nat h.1] at k
  have b := Int32.le_iff_toInt_le.mp ((set_eqn h).mp hx).2
  have t1 : x.toInt = (x.toBitVec.toNat : Int) := BitVec.toInt_eq_toNat_of_msb (nn_msb hx.1)
  rw [k, t1] at b
  have p : (2 : Nat) ^ n.toNatClampNeg ≤ 2 ^ i := Nat.pow_le_pow_right (by decide) hi
  unfold tb
  rw [BitVec.getLsbD, Nat.testBit_lt_two_pow (by omega)]
theorem nn_31 {x : Int32} (h : 0 ≤ x) : cnt x 32 = cnt x 31 := cnt_hi (n := 31) 32 (by decide) (Nat.le_refl _) (fun i a b => by
  have e : i = 31 := by omega
  have m := nn_msb h
  rw [BitVec.msb_eq_getLsbD_last] at m
  rw [e]
  exact m)
section GON
variable {G : pG} {u : pM}
theorem spG_at {v : pM} {r : Nat} {i : Int32} (hr : r < 6) (h0 : 0 ≤ i) (h1 : i < mI v (50 + 2 * r) 1) (h2 : i < 40) : spG v (50 + 2 * r) i = mI v (51 + 2 * r) i.toNatClampNeg := by
  unfold spG
  rw [if_pos ⟨h0, h1, by rw [(rL hr).2]; exact h2⟩, show 50 + 2 * r + 1 = 51 + 2 * r by omega]
theorem c_imageFindingx {r : Nat} (hr : r < 6) (hC : InvC u) (hn : 0 < mI u (mR u 2 10) 0) (hm : 0 ≤ mI u (mR u 2 10) 1 ∧ mI u (mR u 2 10) 1 ≤ 7) : Ws G D_imageFinding 0 [(0, .ref 2), (1, .ref (50 + 2 * r))] [] u (RI fun a u' => u = u' ∧ ((a = 0 ∧ mI u (50 + 2 * r) 1 = mI u (mR u 2 10) 1 + 2 ∧ imK (mI u (mR u 2 10) 0) (mI u (mR u 2 10) 1) (mI u (51 + 2 * r))) ∨ (¬ a = 0 ∧ ¬ (mI u (50 + 2 * r) 1 = mI u (mR u 2 10) 1 + 2 ∧ imK (mI u (mR u 2 10) 0) (mI u (mR u 2 10) 1) (mI u (51 + 2 * r)))))) := by
  have z0 : (0 : Int32).toNatClampNeg = 0 := by decide
  have z1 : (1 : Int32).toNatClampNeg = 1 := by decide
  have bad : ∀ v : Int32, ¬ v = 0 → ¬ (mI u (50 + 2 * r) 1 = mI u (mR u 2 10) 1 + 2 ∧ imK (mI u (mR u 2 10) 0) (mI u (mR u 2 10) 1) (mI u (51 + 2 * r))) → (RI fun a u' => u = u' ∧ ((a = 0 ∧ mI u (50 + 2 * r) 1 = mI u (mR u 2 10) 1 + 2 ∧ imK (mI u (mR u 2 10) 0) (mI u (mR u 2 10) 1) (mI u (51 + 2 * r))) ∨ (¬ a = 0 ∧ ¬ (mI u (50 + 2 * r) 1 = mI u (mR u 2 10) 1 + 2 ∧ imK (mI u (mR u 2 10) 0) (mI u (mR u 2 10) 1) (mI u (51 + 2 * r)))))) (some (.int v)) u := fun v e n => ⟨_, rfl, rfl, .inr ⟨e, n⟩⟩
  refine sg_D_imageFinding_0 (rL hr).1 ⟨fun a hp => ⟨fun b => ?_, fun b => bad 5 (by decide) (fun z => b z.1)⟩, fun a => bad 1 (by decide) (fun z => a (by rw [z.1]; grind))⟩
  have ko := pl_ok hp
  have n30 := hC.2 _ ko
  have e0 : spG u (50 + 2 * r) 0 = mI u (51 + 2 * r) 0 := by rw [spG_at hr (by decide) (by rw [b]; grind) (by decide), z0]
  have e1 : spG u (50 + 2 * r) 1 = mI u (51 + 2 * r) 1 := by rw [spG_at hr (by decide) (by rw [b]; grind) (by decide), z1]
  rw [e0, e1]
  refine ⟨fun c => bad 3 (by decide) (fun z => absurd c (Int32.not_lt.mpr z.2.1.1)), fun c => ⟨fun d => bad 3 (by decide) (fun z => absurd d (Int32.not_lt.mpr z.2.1.2)), fun d _ => ⟨fun e => ⟨fun g => ?_, fun g => bad 3 (by decide) (fun z => g z.2.2.2.1)⟩, fun e => bad 3 (by decide) (fun z => e z.2.2.1)⟩⟩⟩
  have es : ∀ x : Int32, 0 ≤ x → x < mI u (mR u 2 10) 1 → spG u (50 + 2 * r) (x + 2) = mI u (51 + 2 * r) (2 + x.toNatClampNeg) := fun x x0 xm => by
    have x7 : x < 7 := Int32.lt_of_lt_of_le xm hm.2
    have k := (show ∀ i, i < 7 → (Int32.ofNat i + 2).toNatClampNeg = 2 + i from by decide) _ (ixn (n := 7) x0 x7 (by decide))
    rw [i32_nat x0] at k
    rw [spG_at hr (by grind) (by rw [b]; grind) (by grind), k]
  have key : ∀ x (x4 : Int32), 0 ≤ x → x ≤ mI u (mR u 2 10) 1 → (∀ s, s < x.toNatClampNeg → 0 ≤ mI u (51 + 2 * r) (2 + s) ∧ mI u (51 + 2 * r) (2 + s) < mI u (mR u 2 10) 0) → (∀ s q, s < q → q < x.toNatClampNeg → mI u (51 + 2 * r) (2 + s) ≠ mI u (51 + 2 * r) (2 + q)) → (∀ d : Int32, 0 ≤ d → d < 31 → (tb x4 d.toNatClampNeg = true ↔ ∃ s, s < x.toNatClampNeg ∧ mI u (51 + 2 * r) (2 + s) = d)) → Ws G D_imageFinding 76 [(0, .ref 2), (1, .ref (50 + 2 * r)), (4, .int x4), (5, .int x)] [] u (RI fun a u' => u = u' ∧ ((a = 0 ∧ mI u (50 + 2 * r) 1 = mI u (mR u 2 10) 1 + 2 ∧ imK (mI u (mR u 2 10) 0) (mI u (mR u 2 10) 1) (mI u (51 + 2 * r))) ∨ (¬ a = 0 ∧ ¬ (mI u (50 + 2 * r) 1 = mI u (mR u 2 10) 1 + 2 ∧ imK (mI u (mR u 2 10) 0) (mI u (mR u 2 10) 1) (mI u (51 + 2 * r)))))) := by
    refine upI (mI u (mR u 2 10) 1) _ (fun x ih x4 h0 hx hrg hds htk => ?_)
    refine sg_D_imageFinding_76 (rL hr).1 (fun _ => ⟨fun q => ⟨_, rfl, rfl, .inl ⟨rfl, b, ⟨Int32.not_lt.mp c, Int32.not_lt.mp d⟩, e, g, ?_, ?_⟩⟩, fun q _ => ?_⟩)
    · rw [Int32.le_antisymm hx q] at hrg; exact hrg
    · rw [Int32.le_antisymm hx q] at hds; exact hds
    have xm := Int32.not_le.mp q
    have xN := tn_lt h0 xm
    have sx := tn_succ h0 q
    rw [es x h0 xm]
    refine ⟨fun w => ?_, fun w => bad 3 (by decide) (fun z => w (z.2.2.2.2.1 _ xN))⟩
    have w31 : mI u (51 + 2 * r) (2 + x.toNatClampNeg) < 31 := Int32.lt_of_lt_of_le w.2 (Int32.le_trans n30 (by decide))
    have it := isI_tb (x := x4) w.1 w31
    refine ⟨fun t => bad 3 (by decide) (fun z => ?_), fun t => ih q _ (by grind) (by grind) (fun s hs => ?_) (fun s q' a1 a2 => ?_) (fun d' d0 d1 => ?_)⟩
    · obtain ⟨s, s1, s2⟩ := (htk _ w.1 w31).mp (it.mp t)
      exact z.2.2.2.2.2 s _ s1 xN s2
    · rw [sx] at hs
      by_cases e' : s = x.toNatClampNeg
      · rw [e']; exact w
      · exact hrg s (by omega)
    · rw [sx] at a2
      by_cases e' : q' = x.toNatClampNeg
      · rw [e']
        intro z
        exact t (it.mpr ((htk _ w.1 w31).mpr ⟨s, by omega, z⟩))
      · exact hds s q' a1 (by omega)
    · have dN : d'.toNatClampNeg < 31 := ixn (n := 31) d0 d1 (by decide)
      rw [tbo w.1 (Int32.lt_trans w31 (by decide)) (by omega), Bool.or_eq_true, htk d' d0 d1, sx]
      constructor
      · rintro (⟨s, s1, s2⟩ | z)
        · exact ⟨s, by omega, s2⟩
        · exact ⟨x.toNatClampNeg, by omega, (tn_inj d0 w.1 (of_decide_eq_true z)).symm⟩
      · rintro ⟨s, s1, s2⟩
        by_cases e' : s = x.toNatClampNeg
        · right; rw [← s2, e']; simp
        · exact .inl ⟨s, by omega, s2⟩
  refine key 0 0 (by decide) hm.1 (fun s hs => by omega) (fun s q _ hq => by omega) (fun d' _ _ => ?_)
  constructor
  · intro h; rw [tb_0] at h; exact absurd h (by decide)
  · rintro ⟨s, s1, _⟩; omega
theorem d_goney {x1 : Int32} (hC : InvC u) (hm : 0 ≤ mI u (mR u 2 10) 1 ∧ mI u (mR u 2 10) 1 ≤ 7) : Ws G D_gone 0 [(0, .ref 2), (1, .int x1)] [] u (RI fun a u' => Cl (qB ++ qN) u u' ∧ ((gonK (mI u (mR u 2 10) 0) (mI u (mR u 2 10) 1) (mI u (50 + 2 * x1.toNatClampNeg) 1) x1 (mI u (51 + 2 * x1.toNatClampNeg)) ∧ a = mI u (51 + 2 * x1.toNatClampNeg) 0 ∧ mI u' 7 0 = mI u (51 + 2 * x1.toNatClampNeg) 0 ∧ mI u' 7 1 = mI u (51 + 2 * x1.toNatClampNeg) 1 ∧ ∀ s, s < (mI u (mR u 2 10) 1).toNatClampNeg → mI u' 8 s = mI u (51 + 2 * x1.toNatClampNeg) (2 + s)) ∨ (¬ gonK (mI u (mR u 2 10) 0) (mI u (mR u 2 10) 1) (mI u (50 + 2 * x1.toNatClampNeg) 1) x1 (mI u (51 + 2 * x1.toNatClampNeg)) ∧ a = (if 0 ≤ x1 ∧ x1 < 6 then (if 0 < mI u (mR u 2 10) 0 then -3 else -4) else -1) ∧ nwS u u' (mI u 7 1)))) := by
  refine sg_D_gone_0 ⟨fun a hp => ⟨fun b => ?_, fun b => ⟨_, rfl, Cl.rf hC, .inr ⟨fun z => b z.2.1, by rw [if_pos a, if_neg b], rfl, rfl, fun _ => rfl⟩⟩⟩, fun a => ⟨_, rfl, Cl.rf hC, .inr ⟨fun z => a z.1, by rw [if_neg a], rfl, rfl, fun _ => rfl⟩⟩⟩
  obtain ⟨er, hr⟩ := rO a
  rw [er]
  have ko := pl_ok hp
  refine kI (c_imageFindingx hr hC b hm) (fun g v h => ?_)
  obtain ⟨rfl, h⟩ := h
  refine ⟨fun c => ?_, fun c => ?_⟩
  rotate_left
  · refine ⟨_, rfl, (cq_dF Cq.rf (by decide)).cl hC, .inr ⟨fun z => ?_, by rw [if_pos a, if_pos b], mI_dF (by decide), mI_dF (by decide), fun k => mI_dF (by decide)⟩⟩
    rcases h with ⟨z', _⟩ | ⟨_, z'⟩
    · exact c z'
    · exact z' z.2.2
  have hk : mI u (50 + 2 * x1.toNatClampNeg) 1 = mI u (mR u 2 10) 1 + 2 ∧ imK (mI u (mR u 2 10) 0) (mI u (mR u 2 10) 1) (mI u (51 + 2 * x1.toNatClampNeg)) := by
    rcases h with ⟨_, z⟩ | ⟨z, _⟩
    · exact z
    · exact absurd c z
  have z0 : (0 : Int32).toNatClampNeg = 0 := by decide
  have z1 : (1 : Int32).toNatClampNeg = 1 := by decide
  generalize hP : mR u 2 10 = P at *
  have e0 : spG u (50 + 2 * x1.toNatClampNeg) 0 = mI u (51 + 2 * x1.toNatClampNeg) 0 := by rw [spG_at hr (by decide) (by rw [hk.1]; grind) (by decide), z0]
  rw [e0]
  have e1 : spG (pI u 7 0 (mI u (51 + 2 * x1.toNatClampNeg) 0)) (50 + 2 * x1.toNatClampNeg) 1 = mI u (51 + 2 * x1.toNatClampNeg) 1 := by rw [spG_at hr (by decide) (by rw [mI_ne (by omega), hk.1]; grind) (by decide), z1, mI_ne (by omega)]
  rw [e1]
  have pn : P ≠ 7 ∧ P ≠ 8 := by rcases hp with z | z <;> omega
  have m7 : (mI u P 1).toNatClampNeg ≤ 7 := by have := tn_le hm.2; have e : (7 : Int32).toNatClampNeg = 7 := (by decide); omega
  have key : ∀ x v, 0 ≤ x → x ≤ mI u P 1 → Cl (qB ++ qN) u v → mR v 2 10 = P → (∀ n k, n ≠ 7 → n ≠ 8 → mI v n k = mI u n k) → mI v 7 0 = mI u (51 + 2 * x1.toNatClampNeg) 0 → mI v 7 1 = mI u (51 + 2 * x1.toNatClampNeg) 1 → (∀ s, s < x.toNatClampNeg → mI v 8 s = mI u (51 + 2 * x1.toNatClampNeg) (2 + s)) → Ws G D_gone 71 [(0, .ref 2), (2, .ref (50 + 2 * x1.toNatClampNeg)), (4, .int x)] [] v (RI fun a u' => Cl (qB ++ qN) u u' ∧ ((gonK (mI u P 0) (mI u P 1) (mI u (50 + 2 * x1.toNatClampNeg) 1) x1 (mI u (51 + 2 * x1.toNatClampNeg)) ∧ a = mI u (51 + 2 * x1.toNatClampNeg) 0 ∧ mI u' 7 0 = mI u (51 + 2 * x1.toNatClampNeg) 0 ∧ mI u' 7 1 = mI u (51 + 2 * x1.toNatClampNeg) 1 ∧ ∀ s, s < (mI u P 1).toNatClampNeg → mI u' 8 s = mI u (51 + 2 * x1.toNatClampNeg) (2 + s)) ∨ (¬ gonK (mI u P 0) (mI u P 1) (mI u (50 + 2 * x1.toNatClampNeg) 1) x1 (mI u (51 + 2 * x1.toNatClampNeg)) ∧ a = (if 0 ≤ x1 ∧ x1 < 6 then (if 0 < mI u P 0 then -3 else -4) else -1) ∧ nwS u u' (mI u 7 1)))) := by
    refine upI (mI u P 1) _ (fun x ih v h0 hx hl hR hf w0 w1 hd => ?_)
    refine sg_D_gone_71 (rL hr).1 (fun hp' => ?_)
    rw [hR, hf _ _ pn.1 pn.2]
    refine ⟨fun q => ⟨_, rfl, hl, .inl ⟨⟨a, b, hk.1, hk.2⟩, w0, w0, w1, by rw [Int32.le_antisymm hx q] at hd; exact hd⟩⟩, fun q => ?_⟩
    have xm := Int32.not_le.mp q
    have x7 : x < 7 := Int32.lt_of_lt_of_le xm hm.2
    have xN : x.toNatClampNeg < 7 := ixn (n := 7) h0 x7 (by decide)
    have k2 := (show ∀ i, i < 7 → (Int32.ofNat i + 2).toNatClampNeg = 2 + i from by decide) _ xN
    rw [i32_nat h0] at k2
    have eg : spG v (50 + 2 * x1.toNatClampNeg) (x + 2) = mI u (51 + 2 * x1.toNatClampNeg) (2 + x.toNatClampNeg) := by rw [spG_at hr (by clear ih; grind) (by rw [hf _ _ (by omega) (by omega), hk.1]; clear ih; grind) (by clear ih; grind), k2, hf _ _ (by omega) (by omega)]
    have cl' : Cl (qB ++ qN) u (snS v 7 x (spG v (50 + 2 * x1.toNatClampNeg) (x + 2))) := hl.cq (cq_snS Cq.rf (by decide) (by decide))
    have eS : snS v 7 x (spG v (50 + 2 * x1.toNatClampNeg) (x + 2)) = pI v 8 x.toNatClampNeg (mI u (51 + 2 * x1.toNatClampNeg) (2 + x.toNatClampNeg)) := by
      unfold snS
      rw [if_pos ⟨h0, x7⟩, eg]
    rw [eS] at cl' ⊢
    refine ih q _ (by clear ih; grind) (by clear ih; grind) cl' hR (fun n k n1 n2 => by rw [mI_ne n2]; exact hf n k n1 n2) (by rw [mI_ne (by decide)]; exact w0) (by rw [mI_ne (by decide)]; exact w1) (fun s hs => ?_)
    rw [tn_succ h0 q] at hs
    by_cases e : s = x.toNatClampNeg
    · rw [e, mI_eq]
    · rw [mI_nk e]; exact hd s (by omega)
  exact key 0 _ (by decide) hm.1 (((Cq.rf.pI (wr_5 (n := 7) (by decide)) (by decide)).pI (wr_5 (n := 7) (by decide)) (by decide)).cl hC) hP (fun n k n1 n2 => by rw [mI_ne n1, mI_ne n1]) (by rw [mI_nk (by decide), mI_eq]) mI_eq (fun s hs => by omega)
theorem e_isImagex {x1 : Int32} (hM : InvM u) (h1 : 0 ≤ x1 ∧ x1 ≤ 5) : Ws G m_isImage 0 [(0, .ref 76), (1, .int x1)] [] u (RI fun a u' => u = u' ∧ ((¬ a = 0 ∧ imK (mI u 76 10) (mI u 76 11) (fun k => mI u 79 (40 * x1.toNatClampNeg + k))) ∨ (a = 0 ∧ ¬ imK (mI u 76 10) (mI u 76 11) (fun k => mI u 79 (40 * x1.toNatClampNeg + k))))) := by
  have m7 := hM.m7
  have n30 := hM.n30
  have z0 : (0 : Int32).toNatClampNeg = 0 := by decide
  have z1 : (1 : Int32).toNatClampNeg = 1 := by decide
  have i0 := ix40 (x := 0) h1 (by decide)
  have i1 := ix40 (x := 1) h1 (by decide)
  rw [z0] at i0
  rw [z1] at i1
  have is : ∀ x : Int32, 0 ≤ x → x < 7 → (40 * x1 + (2 + x) : Int32).toNatClampNeg = 40 * x1.toNatClampNeg + (2 + x.toNatClampNeg) := fun x x0 x7 => by
    have k := (show ∀ i, i < 7 → (2 + Int32.ofNat i).toNatClampNeg = 2 + i ∧ 0 ≤ 2 + Int32.ofNat i ∧ 2 + Int32.ofNat i < 40 from by decide) _ (ixn (n := 7) x0 x7 (by decide))
    rw [i32_nat x0] at k
    rw [ix40 h1 k.2, k.1]
  generalize hf : (fun k => mI u 79 (40 * x1.toNatClampNeg + k)) = f
  have ef : ∀ k, mI u 79 (40 * x1.toNatClampNeg + k) = f k := fun k => by rw [← hf]
  have key : ∀ x (x3 x4 : Int32), 0 ≤ x → x ≤ mI u 76 11 → ((x3 = 0 ∧ ¬ imK (mI u 76 10) (mI u 76 11) f) ∨ (x3 = 1 ∧ (0 ≤ f 0 ∧ f 0 ≤ 100000) ∧ (0 ≤ f 1 ∧ f 1 >>> (mI u 76 10 &&& 31) = 0) ∧ bcV (f 1) ≤ 3 ∧ (∀ s, s < x.toNatClampNeg → 0 ≤ f (2 + s) ∧ f (2 + s) < mI u 76 10) ∧ (∀ s q, s < q → q < x.toNatClampNeg → f (2 + s) ≠ f (2 + q)) ∧ ∀ d : Int32, 0 ≤ d → d < 31 → (tb x4 d.toNatClampNeg = true ↔ ∃ s, s < x.toNatClampNeg ∧ f (2 + s) = d))) → Ws G m_isImage 58 [(0, .ref 76), (1, .int x1), (3, .int x3), (4, .int x4), (5, .int x)] [] u (RI fun a u' => u = u' ∧ ((¬ a = 0 ∧ imK (mI u 76 10) (mI u 76 11) f) ∨ (a = 0 ∧ ¬ imK (mI u 76 10) (mI u 76 11) f))) := by
    refine upI (mI u 76 11) _ (fun x ih x3 x4 h0 hx h3 => ?_)
    have hb : vb x3 := vb01 (by rcases h3 with h | h; exact .inl h.1; exact .inr h.1)
    refine sg_m_isImage_58 ⟨fun c => ⟨hb, _, rfl, rfl, ?_⟩, fun c => ⟨fun z => ⟨hb, _, rfl, rfl, ?_⟩, fun z => ?_⟩⟩
    · rcases h3 with h | h
      · exact .inr h
      · refine .inl ⟨by rw [h.1]; decide, h.2.1, h.2.2.1, h.2.2.2.1, ?_, ?_⟩
        · have := h.2.2.2.2.1; rw [Int32.le_antisymm hx c] at this; exact this
        · have := h.2.2.2.2.2.1; rw [Int32.le_antisymm hx c] at this; exact this
    · rcases h3 with h | h
      · exact .inr h
      · rw [h.1] at z; exact absurd z (by decide)
    · rcases h3 with h | ⟨_, b0, b1, b2, hrg, hds, htk⟩
      · exact absurd h.1 z
      have xm := Int32.not_le.mp c
      have x7 : x < 7 := Int32.lt_of_lt_of_le xm m7.2
      have xN := tn_lt h0 xm
      have sx := tn_succ h0 c
      rw [is x h0 x7, ef]
      refine ⟨(vin (by grind) (show (_ : Int32) < 240 by grind) (by decide)), fun w => ?_, fun w => ih c _ _ (by grind) (by grind) (.inl ⟨rfl, fun q => w ⟨(q.2.2.2.1 _ xN).1, by have := (q.2.2.2.1 _ xN).2; grind⟩⟩)⟩
      have w' : 0 ≤ f (2 + x.toNatClampNeg) ∧ f (2 + x.toNatClampNeg) < mI u 76 10 := ⟨w.1, by have := w.2; grind⟩
      have w31 : f (2 + x.toNatClampNeg) < 31 := Int32.lt_of_lt_of_le w'.2 (Int32.le_trans n30.2 (by decide))
      refine ⟨fun t => ih c _ _ (by grind) (by grind) (.inl ⟨rfl, fun q => ?_⟩), fun t => ih c _ _ (by grind) (by grind) (.inr ⟨rfl, b0, b1, b2, fun s hs => ?_, fun s q' a1 a2 => ?_, fun d' d0 d1 => ?_⟩)⟩
      · obtain ⟨s, s1, s2⟩ := (htk _ w'.1 w31).mp (tb_t w'.1 (Int32.lt_trans w31 (by decide)) t)
        exact q.2.2.2.2 s _ s1 xN s2
      · rw [sx] at hs
        by_cases e' : s = x.toNatClampNeg
        · rw [e']; exact w'
        · exact hrg s (by omega)
      · rw [sx] at a2
        by_cases e' : q' = x.toNatClampNeg
        · rw [e']
          intro z'
          have := (htk _ w'.1 w31).mpr ⟨s, by omega, z'⟩
          rw [tb_f w'.1 (Int32.lt_trans w31 (by decide)) t] at this
          exact absurd this (by decide)
        · exact hds s q' a1 (by omega)
      · have dN : d'.toNatClampNeg < 31 := ixn (n := 31) d0 d1 (by decide)
        rw [tbo w'.1 (Int32.lt_trans w31 (by decide)) (by omega), Bool.or_eq_true, htk d' d0 d1, sx]
        constructor
        · rintro (⟨s, s1, s2⟩ | z')
          · exact ⟨s, by omega, s2⟩
          · exact ⟨x.toNatClampNeg, by omega, (tn_inj d0 w'.1 (of_decide_eq_true z')).symm⟩
        · rintro ⟨s, s1, s2⟩
          by_cases e' : s = x.toNatClampNeg
          · right; rw [← s2, e']; simp
          · exact .inl ⟨s, by omega, s2⟩
  have t0 : ∀ d : Int32, 0 ≤ d → d < 31 → (tb 0 d.toNatClampNeg = true ↔ ∃ s, s < (0 : Int32).toNatClampNeg ∧ f (2 + s) = d) := fun d _ _ => by
    constructor
    · intro h; rw [tb_0] at h; exact absurd h (by decide)
    · rintro ⟨s, s1, _⟩; omega
  refine sg_m_isImage_0 ⟨(vin (by grind) (show (_ : Int32) < 240 by grind) (by decide)), (vin (by grind) (show (_ : Int32) < 240 by grind) (by decide)), ?_⟩
  rw [i0, i1, ef, ef]
  refine ⟨fun a => ⟨fun b => kI e_sizeOf (fun g v h => ?_), fun b => key 0 0 0 (by decide) m7.1 (.inl ⟨rfl, fun q => b ((set_eqn n30).mp q.2.1)⟩)⟩, fun a => key 0 0 0 (by decide) m7.1 (.inl ⟨rfl, fun q => a q.1⟩)⟩
  obtain ⟨rfl, h⟩ := h
  have bc := (bcV_cnt (f 1)).1
  rw [nn_31 b.1] at bc
  have c31 := cnt_le (f 1) 31
  have bt : (bcV (f 1)).toInt = (cnt (f 1) 31 : Int) := by rw [bc]; exact nI_toInt (by omega)
  have d3 : (3 : Int32).toInt = 3 := by decide
  refine ⟨fun c => key 0 0 0 (by decide) m7.1 (.inl ⟨rfl, fun q => ?_⟩), fun c => key 0 1 0 (by decide) m7.1 (.inr ⟨rfl, a, (set_eqn n30).mpr b, ?_, fun s hs => by omega, fun s q _ hq => by omega, t0⟩)⟩
  · have l1 := Int32.lt_iff_toInt_lt.mp c
    have l2 := Int32.le_iff_toInt_le.mp q.2.2.1
    omega
  · have l1 := Int32.le_iff_toInt_le.mp (Int32.not_lt.mp c)
    exact Int32.le_iff_toInt_le.mpr (by omega)
theorem e_goney {x1 : Int32} (hM : InvM u) : Ws G m_gone 0 [(0, .ref 76), (1, .int x1)] [] u (RI fun a u' => Mo (mB ++ mNw) u u' ∧ ((gonK (mI u 76 10) (mI u 76 11) (mI u 78 x1.toNatClampNeg) x1 (fun k => mI u 79 (40 * x1.toNatClampNeg + k)) ∧ a = mI u 79 (40 * x1.toNatClampNeg) ∧ mI u' 76 18 = mI u 79 (40 * x1.toNatClampNeg) ∧ mI u' 76 19 = mI u 79 (40 * x1.toNatClampNeg + 1) ∧ ∀ s, s < (mI u 76 11).toNatClampNeg → mI u' 84 s = mI u 79 (40 * x1.toNatClampNeg + (2 + s))) ∨ (¬ gonK (mI u 76 10) (mI u 76 11) (mI u 78 x1.toNatClampNeg) x1 (fun k => mI u 79 (40 * x1.toNatClampNeg + k)) ∧ a = (if 0 ≤ x1 ∧ x1 < 6 then (if 0 < mI u 76 10 then -3 else -4) else -1) ∧ nmS u u' (mI u 76 19)))) := by
  have m7 := hM.m7
  have n30 := hM.n30
  have nN : (mI u 76 10).toNatClampNeg ≤ 30 := by have := tn_le n30.2; have e : (30 : Int32).toNatClampNeg = 30 := (by decide); omega
  have z0 : (0 : Int32).toNatClampNeg = 0 := by decide
  have z1 : (1 : Int32).toNatClampNeg = 1 := by decide
  refine sg_m_gone_0 ⟨fun a => ?_, fun a => ⟨_, rfl, Mo.rf hM, .inr ⟨fun z => a ⟨z.1.1, by have := z.1.2; grind⟩, by rw [if_neg (fun z => a ⟨z.1, by have := z.2; grind⟩)], rfl, rfl, fun _ => rfl⟩⟩⟩
  have a6 : 0 ≤ x1 ∧ x1 < 6 := ⟨a.1, by have := a.2; grind⟩
  have v6 : vp_in x1 6 := vin a.1 (show (_ : Int32) < 6 by grind) (by decide)
  refine ⟨fun b => ?_, fun b => ⟨_, rfl, Mo.rf hM, .inr ⟨fun z => by have := z.2.1; rw [b] at this; exact absurd this (by decide), by rw [if_pos a6, if_neg (by rw [b]; decide)], rfl, rfl, fun _ => rfl⟩⟩⟩
  have hn : 0 < mI u 76 10 := by grind
  have bad : ∀ f : Int32, ¬ gonK (mI u 76 10) (mI u 76 11) (mI u 78 x1.toNatClampNeg) x1 (fun k => mI u 79 (40 * x1.toNatClampNeg + k)) → (RI fun a u' => Mo (mB ++ mNw) u u' ∧ ((gonK (mI u 76 10) (mI u 76 11) (mI u 78 x1.toNatClampNeg) x1 (fun k => mI u 79 (40 * x1.toNatClampNeg + k)) ∧ a = mI u 79 (40 * x1.toNatClampNeg) ∧ mI u' 76 18 = mI u 79 (40 * x1.toNatClampNeg) ∧ mI u' 76 19 = mI u 79 (40 * x1.toNatClampNeg + 1) ∧ ∀ s, s < (mI u 76 11).toNatClampNeg → mI u' 84 s = mI u 79 (40 * x1.toNatClampNeg + (2 + s))) ∨ (¬ gonK (mI u 76 10) (mI u 76 11) (mI u 78 x1.toNatClampNeg) x1 (fun k => mI u 79 (40 * x1.toNatClampNeg + k)) ∧ a = (if 0 ≤ x1 ∧ x1 < 6 then (if 0 < mI u 76 10 then -3 else -4) else -1) ∧ nmS u u' (mI u 76 19)))) (some (.int (-3))) (mt u f) := fun f q => ⟨_, rfl, Mq.rf.tm.mo hM, .inr ⟨q, by rw [if_pos a6, if_pos hn], mI_mtF (by decide), mI_mtF (by decide), fun k => mI_mt (by decide)⟩⟩
  refine ⟨v6, fun c => ⟨v6, fun d => ?_, fun d => bad 5 (fun z => d z.2.2.1)⟩, fun c => bad 1 (fun z => c (by rw [z.2.2.1]; grind))⟩
  refine kI (e_isImagex hM a) (fun g v h => ?_)
  obtain ⟨rfl, h⟩ := h
  refine ⟨fun e => ?_, fun e => bad 3 (fun z => ?_)⟩
  rotate_left
  · rcases h with ⟨q, _⟩ | ⟨_, q⟩
    · exact q e
    · exact q z.2.2.2
  have hk : imK (mI u 76 10) (mI u 76 11) (fun k => mI u 79 (40 * x1.toNatClampNeg + k)) := by
    rcases h with ⟨_, q⟩ | ⟨q, _⟩
    · exact q
    · exact absurd q e
  refine ⟨(vin (by grind) (show (_ : Int32) < 240 by grind) (by decide)), (vin (by grind) (show (_ : Int32) < 240 by grind) (by decide)), ?_⟩
  rw [mI_ne (show (79 : Nat) ≠ 76 by decide), ix40 (x := 0) a (by decide), ix40 (x := 1) a (by decide), z0, z1, Nat.add_zero]
  have q1 : Mq (mB ++ mNw) u (pI u 76 18 (mI u 79 (40 * x1.toNatClampNeg))) := Mq.rf.pF (by decide)
  have hc3 : cnt (mI u 79 (40 * x1.toNatClampNeg + 1)) (mI u 76 10).toNatClampNeg ≤ 3 := by
    have bc := (bcV_cnt (mI u 79 (40 * x1.toNatClampNeg + 1))).1
    have c32 := (bcV_cnt (mI u 79 (40 * x1.toNatClampNeg + 1))).2
    have b3 : bcV (mI u 79 (40 * x1.toNatClampNeg + 1)) ≤ 3 := hk.2.2.1
    rw [bc] at b3
    have t := Int32.le_iff_toInt_le.mp b3
    have t2 : (Int32.ofNat (cnt (mI u 79 (40 * x1.toNatClampNeg + 1)) 32)).toInt = (cnt (mI u 79 (40 * x1.toNatClampNeg + 1)) 32 : Int) := nI_toInt (by omega)
    have d3 : (3 : Int32).toInt = 3 := by decide
    have mo := cnt_mono (mI u 79 (40 * x1.toNatClampNeg + 1)) (mI u 76 10).toNatClampNeg 32 (by omega)
    omega
  have hS := (q1.inv hM).pS (x := mI u 79 (40 * x1.toNatClampNeg + 1)) (by rw [q1.n]; exact hc3)
  have hS2 := (q1.mo hM).tr hS
  generalize hw : pI (pI u 76 18 (mI u 79 (40 * x1.toNatClampNeg))) 76 19 (mI u 79 (40 * x1.toNatClampNeg + 1)) = w0 at hS2
  have hm : mI w0 76 11 = mI u 76 11 := by rw [← hw, mI_nk (by decide), mI_nk (by decide)]
  have h79 : ∀ k, mI w0 79 k = mI u 79 k := fun k => by rw [← hw, mI_ne (by decide), mI_ne (by decide)]
  have h18 : mI w0 76 18 = mI u 79 (40 * x1.toNatClampNeg) := by rw [← hw, mI_nk (by decide), mI_eq]
  have h19 : mI w0 76 19 = mI u 79 (40 * x1.toNatClampNeg + 1) := by rw [← hw, mI_eq]
  have key : ∀ x v, 0 ≤ x → x ≤ mI u 76 11 → Mq (mB ++ mNw) w0 v → (∀ n k, n ≠ 84 → mI v n k = mI w0 n k) → (∀ s, s < x.toNatClampNeg → mI v 84 s = mI u 79 (40 * x1.toNatClampNeg + (2 + s))) → Ws G m_gone 91 [(0, .ref 76), (1, .int x1), (2, .int x)] [] v (RI fun a u' => Mo (mB ++ mNw) u u' ∧ ((gonK (mI u 76 10) (mI u 76 11) (mI u 78 x1.toNatClampNeg) x1 (fun k => mI u 79 (40 * x1.toNatClampNeg + k)) ∧ a = mI u 79 (40 * x1.toNatClampNeg) ∧ mI u' 76 18 = mI u 79 (40 * x1.toNatClampNeg) ∧ mI u' 76 19 = mI u 79 (40 * x1.toNatClampNeg + 1) ∧ ∀ s, s < (mI u 76 11).toNatClampNeg → mI u' 84 s = mI u 79 (40 * x1.toNatClampNeg + (2 + s))) ∨ (¬ gonK (mI u 76 10) (mI u 76 11) (mI u 78 x1.toNatClampNeg) x1 (fun k => mI u 79 (40 * x1.toNatClampNeg + k)) ∧ a = (if 0 ≤ x1 ∧ x1 < 6 then (if 0 < mI u 76 10 then -3 else -4) else -1) ∧ nmS u u' (mI u 76 19)))) := by
    refine upI (mI u 76 11) _ (fun x ih v h0 hx hq hf hd => ?_)
    have e18 : mI v 76 18 = mI u 79 (40 * x1.toNatClampNeg) := by rw [hf _ _ (by decide)]; exact h18
    refine sg_m_gone_91 ⟨fun c' => ⟨_, rfl, hS2.mq hq, .inl ⟨⟨a6, hn, d, hk⟩, e18, e18, by rw [hf _ _ (by decide)]; exact h19, fun s hs => hd s (by rw [hq.m, hm] at c'; have := tn_le c'; omega)⟩⟩, fun c' => ?_⟩
    rw [hq.m, hm] at c'
    have xm := Int32.not_le.mp c'
    have x7 : x < 7 := Int32.lt_of_lt_of_le xm m7.2
    have xN := tn_lt h0 xm
    have k2 := (show ∀ i, i < 7 → (2 + Int32.ofNat i).toNatClampNeg = 2 + i ∧ 0 ≤ 2 + Int32.ofNat i ∧ 2 + Int32.ofNat i < 40 from by decide) _ (ixn (n := 7) h0 x7 (by decide))
    rw [i32_nat h0] at k2
    have e79 : mI v 79 (40 * x1 + (2 + x) : Int32).toNatClampNeg = mI u 79 (40 * x1.toNatClampNeg + (2 + x.toNatClampNeg)) := by rw [hf _ _ (by decide), h79, ix40 a k2.2, k2.1]
    have bd := hk.2.2.2.1 _ xN
    refine ⟨(vin (by grind) (show (_ : Int32) < 240 by grind) (by decide)), (vin (by grind) (show (_ : Int32) < 7 by grind) (by decide)), ?_⟩
    rw [e79]
    refine ih c' _ (by grind) (by grind) (hq.pD (.inl rfl) ⟨bd.1, Int32.lt_of_lt_of_le bd.2 n30.2⟩) (fun n k n1 => by rw [mI_ne n1]; exact hf n k n1) (fun s hs => ?_)
    rw [tn_succ h0 c'] at hs
    by_cases e : s = x.toNatClampNeg
    · rw [e, mI_eq]
    · rw [mI_nk e]; exact hd s (by omega)
  exact key 0 w0 (by decide) m7.1 Mq.rf (fun _ _ _ => rfl) (fun s hs => by omega)
end GON
