/-! ===== mends, worst ===== -/
/-- the first week of 1 to N in which P holds, or none -/
def FB (P : Nat → Prop) (N : Nat) (a : Int32) : Prop := (∃ w, 1 ≤ w ∧ w ≤ N ∧ P w ∧ (∀ j, 1 ≤ j → j < w → ¬ P j) ∧ a = Int32.ofNat w) ∨ ((∀ j, 1 ≤ j → j ≤ N → ¬ P j) ∧ a = -9)
theorem ofN_n9 : ∀ w, w ≤ 60 → ¬ Int32.ofNat w = -9 := by decide
theorem FB.eq {P P' : Nat → Prop} {N : Nat} {a b : Int32} (h : FB P N a) (h' : FB P' N b) (e : ∀ w, w ≤ N → (P w ↔ P' w)) : a = b := by
  rcases h with ⟨w, w1, w2, w3, w4, w5⟩ | ⟨n, e1⟩ <;> rcases h' with ⟨v, v1, v2, v3, v4, v5⟩ | ⟨n', e2⟩
  · have : w = v := by
      rcases Nat.lt_trichotomy w v with c | c | c
      · exact absurd ((e w w2).mp w3) (v4 w w1 c)
      · exact c
      · exact absurd ((e v v2).mpr v3) (w4 v v1 c)
    rw [w5, v5, this]
  · exact absurd ((e w w2).mp w3) (n' w w1 w2)
  · exact absurd ((e v v2).mpr v3) (n v v1 v2)
  · rw [e1, e2]
theorem FB.z {P : Nat → Prop} : FB P 0 (-9) := .inr ⟨fun j h1 h2 => by omega, rfl⟩
theorem FB.k {P : Nat → Prop} {N : Nat} {a : Int32} (h : FB P N a) (c : ¬ a = -9 ∨ ¬ P (N + 1)) : FB P (N + 1) a := by
  rcases h with ⟨w, w1, w2, w3, w4, w5⟩ | ⟨n, e⟩
  · exact .inl ⟨w, w1, by omega, w3, w4, w5⟩
  · refine .inr ⟨fun j h1 h2 => ?_, e⟩
    by_cases q : j = N + 1
    · rw [q]; exact c.resolve_left (fun z => z e)
    · exact n j h1 (by omega)
theorem FB.s {P : Nat → Prop} {N : Nat} {a : Int32} (h : FB P N a) (hN : N ≤ 60) (e : a = -9) (c : P (N + 1)) : FB P (N + 1) (Int32.ofNat (N + 1)) := by
  rcases h with ⟨w, w1, w2, w3, w4, w5⟩ | ⟨n, _⟩
  · exact absurd (w5.symm.trans e) (ofN_n9 w (by omega))
  · exact .inl ⟨N + 1, by omega, Nat.le_refl _, c, fun j h1 h2 => n j h1 (by omega), rfl⟩
theorem pws_1 {n wk cl : Int32} {sh : Nat → Sh5} {ord : Nat → Nat} {m : Nat} {dr : Nat → Int32} {w : Nat} : pws n (wk + Int32.ofNat w) cl sh ord m (pws n wk cl sh ord m dr w) 1 = pws n wk cl sh ord m dr (w + 1) := by
  show pwk n (wk + Int32.ofNat w + Int32.ofNat 0) cl sh ord m (pws n wk cl sh ord m dr w) = pwk n (wk + Int32.ofNat w) cl sh ord m (pws n wk cl sh ord m dr w)
  rw [show wk + Int32.ofNat w + Int32.ofNat 0 = wk + Int32.ofNat w from Int32.add_zero _]
/-- of the doors that are open, the first of the greatest -/
def woF (op : Nat → Bool) (vl : Nat → Int32) : Nat → Option (Int32 × Int32)
  | 0 => none
  | d + 1 => if op d = true then (match woF op vl d with
    | none => some (Int32.ofNat d, vl d)
    | some (b, l) => if vl d ≤ l then some (b, l) else some (Int32.ofNat d, vl d)) else woF op vl d
def woI (op : Nat → Bool) (vl : Nat → Int32) (d : Nat) (b l : Int32) : Prop := (woF op vl d = none ∧ l = -1) ∨ woF op vl d = some (b, l)
theorem wo_c {op : Nat → Bool} {vl : Nat → Int32} {d : Nat} {b l : Int32} (h : woI op vl d b l) (c : op d = false) : woI op vl (d + 1) b l := by
  unfold woI at *
  rw [woF, if_neg (by rw [c]; decide)]
  exact h
theorem wo_k {op : Nat → Bool} {vl : Nat → Int32} {d : Nat} {b l : Int32} (h : woI op vl d b l) (c : op d = true) (p : 0 ≤ vl d) (k : vl d ≤ l) : woI op vl (d + 1) b l := by
  unfold woI at *
  rcases h with ⟨_, e⟩ | e
  · rw [e] at k
    exact absurd (Int32.le_trans p k) (by decide)
  · right
    rw [woF, if_pos c, e]
    show (if vl d ≤ l then some (b, l) else some (Int32.ofNat d, vl d)) = _
    rw [if_pos k]
theorem wo_r {op : Nat → Bool} {vl : Nat → Int32} {d : Nat} {b l : Int32} (h : woI op vl d b l) (c : op d = true) (k : ¬ vl d ≤ l) : woI op vl (d + 1) (Int32.ofNat d) (vl d) := by
  unfold woI at *
  right
  rcases h with ⟨e, _⟩ | e
  · rw [woF, if_pos c, e]
  · rw [woF, if_pos c, e]
    show (if vl d ≤ l then some (b, l) else some (Int32.ofNat d, vl d)) = _
    rw [if_neg k]
theorem woF_n {op : Nat → Bool} {vl : Nat → Int32} : ∀ d, woF op vl d = none → ∀ j, j < d → op j = false
  | 0, _, j, hj => by omega
  | d + 1, h, j, hj => by
    cases c : op d with
    | false =>
      rw [woF, if_neg (by rw [c]; decide)] at h
      by_cases q : j = d
      · rw [q]; exact c
      · exact woF_n d h j (by omega)
    | true =>
      rw [woF, if_pos c] at h
      cases e : woF op vl d with
      | none => rw [e] at h; exact absurd h (by simp)
      | some p =>
        obtain ⟨b, l⟩ := p
        rw [e] at h
        by_cases k : vl d ≤ l
        · simp [k] at h
        · simp [k] at h
theorem woF_cg {op op' : Nat → Bool} {vl vl' : Nat → Int32} : ∀ d, (∀ j, j < d → op' j = op j ∧ (op j = true → vl' j = vl j)) → woF op' vl' d = woF op vl d
  | 0, _ => rfl
  | d + 1, e => by
    have h := woF_cg d (fun j hj => e j (by omega))
    have q := e d (by omega)
    cases c : op d with
    | false => rw [woF, woF, if_neg (by rw [q.1, c]; decide), if_neg (by rw [c]; decide)]; exact h
    | true => rw [woF, woF, if_pos (q.1.trans c), if_pos c, h, q.2 c]
theorem shF_fr {u v : pM} {o1 : Nat} (k1 : okS o1 2) (h : ∀ n k, n ≠ 10 → n ≠ 11 → n ≠ 12 → n ≠ 13 → mI v n k = mI u n k) : shF v o1 = shF u o1 ∧ ordF v o1 = ordF u o1 ∧ (∀ k, mI v o1 k = mI u o1 k) ∧ ∀ k, mI v (o1 + 3) k = mI u (o1 + 3) k := by
  have a := pl_st (show okS 10 5 by decide) k1
  have b := pl_st (show okS 12 5 by decide) k1
  have e3 : ∀ k, mI v (o1 + 3) k = mI u (o1 + 3) k := fun k => h _ _ a.2.1.1 a.2.1.2 b.2.1.1 b.2.1.2
  refine ⟨funext (fun s => ?_), funext (fun i => ?_), fun k => h _ _ a.1.1 a.1.2 b.1.1 b.1.2, e3⟩
  · have r := pl_R (show okS 10 5 by decide) k1 s
    have r' := pl_R (show okS 12 5 by decide) k1 s
    unfold shF shC
    rw [h _ 0 r.1 r.2 r'.1 r'.2, h _ 1 r.1 r.2 r'.1 r'.2, h _ 2 r.1 r.2 r'.1 r'.2, h _ 3 r.1 r.2 r'.1 r'.2, h _ 4 r.1 r.2 r'.1 r'.2]
  · unfold ordF
    rw [e3]
theorem PlK.fr {u v : pM} {o1 : Nat} (hK : PlK u o1) (k1 : okS o1 2) (h : ∀ n k, n ≠ 10 → n ≠ 11 → n ≠ 12 → n ≠ 13 → mI v n k = mI u n k) : PlK v o1 := by
  obtain ⟨e1, _, e0, e3⟩ := shF_fr k1 h
  unfold PlK
  rw [e1, e0, e0]
  exact ⟨hK.1, hK.2.1, hK.2.2.1, hK.2.2.2.cg (fun i _ => e3 i)⟩
/-- with these doors closed, w weeks on from now -/
def dwX (u : pM) (cl : Int32) (w : Nat) : Nat → Int32 := pws (mI u (mR u 2 10) 0) (mI u 7 0) cl (shF u (mR u 2 10)) (ordF u (mR u 2 10)) (mI u (mR u 2 10) 1).toNatClampNeg (mI u 8) w
def dwY (u : pM) (ord : Nat → Nat) (cl : Int32) (w : Nat) : Nat → Int32 := pws (mI u 76 10) (mI u 76 18) cl (shM u) ord (mI u 76 11).toNatClampNeg (mI u 84) w
def F4 (u v : pM) : Prop := Cq qB u v ∧ ∀ n k, n ≠ 10 → n ≠ 11 → n ≠ 12 → n ≠ 13 → mI v n k = mI u n k
def SDx (u v : pM) (o : Nat) (cl : Int32) (w : Nat) : Prop := mI v o 0 = mI u 7 0 + Int32.ofNat w ∧ mI v o 1 = cl ∧ ∀ s, s < (mI u (mR u 2 10) 1).toNatClampNeg → mI v (o + 1) s = dwX u cl w s
section ANE
variable {G : pG} {u v : pM} {Q : Option Value → pM → Prop}
theorem F4.ro (h : F4 u v) : mR v 2 10 = mR u 2 10 := by rw [h.1.2.1]
theorem c_sd {o : Nat} {cl x2 : Int32} {w : Nat} (ho : o = 10 ∨ o = 12) (hp : pl (mR u 2 10)) (hK : PlK u (mR u 2 10)) (h2 : 0 ≤ x2) (h : F4 u v) (hs : SDx u v o cl w) (hw : w = 0 ∨ x2 = 1) : Ws G Sn_pass 0 [(0, .ref o), (1, .ref (mR u 2 10)), (2, .int x2)] [] v (RV fun v' => F4 u v' ∧ (∀ n k, n ≠ o → n ≠ o + 1 → mI v' n k = mI v n k) ∧ SDx u v' o cl (w + x2.toNatClampNeg)) := by
  have ko := pl_ok hp
  have k0 : okS o 5 := by rcases ho with q | q <;> rw [q] <;> decide
  have m0 : In2 qB o := by rcases ho with q | q <;> rw [q] <;> decide
  obtain ⟨e1, e2, e0, _⟩ := shF_fr ko h.2
  refine kV (c_passx (L := qB) k0 m0 ko h2 (hK.fr ko h.2)) (fun v' g => ?_)
  obtain ⟨q3, f3, a3, b3, d3, _⟩ := g
  obtain ⟨w0, c0, d0⟩ := hs
  rw [e1, e2, e0, e0, w0, c0] at d3
  refine ⟨⟨h.1.tr q3, fun n k a b c d => (f3 n k (by omega) (by omega)).trans (h.2 n k a b c d)⟩, f3, ?_, b3.trans c0, fun s hs => ?_⟩
  · rw [a3, w0, Int32.ofNat_add, i32_nat h2, Int32.add_assoc]
  · have ob : ∀ i, i < (mI u (mR u 2 10) 1).toNatClampNeg → ordF u (mR u 2 10) i < (mI u (mR u 2 10) 1).toNatClampNeg := hK.2.2.2.2.1
    rw [d3, pws_cg ob d0 _ _ hs]
    rcases hw with q | q
    · rw [q, Nat.zero_add]
      show pws _ (mI u 7 0 + Int32.ofNat 0) _ _ _ _ _ _ _ = _
      rw [show mI u 7 0 + Int32.ofNat 0 = mI u 7 0 from Int32.add_zero _]
      rfl
    · rw [q, show (1 : Int32).toNatClampNeg = 1 by decide]
      unfold dwX
      rw [pws_1]
theorem SDx.k {o o' : Nat} {cl : Int32} {w : Nat} {v' : pM} (h : SDx u v o cl w) (hf : ∀ n k, n ≠ o' → n ≠ o' + 1 → mI v' n k = mI v n k) (ne : o ≠ o' ∧ o ≠ o' + 1 ∧ o + 1 ≠ o' ∧ o + 1 ≠ o' + 1) : SDx u v' o cl w := ⟨by rw [hf _ _ ne.1 ne.2.1]; exact h.1, by rw [hf _ _ ne.1 ne.2.1]; exact h.2.1, fun s hs => by rw [hf _ _ ne.2.2.1 ne.2.2.2]; exact h.2.2 s hs⟩
theorem SDx.b {o : Nat} (h : F4 u v) (m7 : (mI u (mR u 2 10) 1).toNatClampNeg ≤ 7) (ho : o = 10 ∨ o = 12) : F4 u (snB v o 7) ∧ SDx u (snB v o 7) o (mI u 7 1) 0 := by
  have k0 : okS o 5 := by rcases ho with q | q <;> rw [q] <;> decide
  have m0 : In2 qB o := by rcases ho with q | q <;> rw [q] <;> decide
  refine ⟨⟨cq_snB h.1 k0 m0, fun n k a b c d => by rw [snB_f (by omega) (by omega)]; exact h.2 n k a b c d⟩, ?_, ?_, fun s hs => ?_⟩
  · rw [snB_0, h.2 7 0 (by decide) (by decide) (by decide) (by decide)]
    exact (Int32.add_zero _).symm
  · rw [snB_1 (by omega), h.2 7 1 (by decide) (by decide) (by decide) (by decide)]
  · rw [snB_d (by omega) (by omega)]
    exact h.2 8 s (by decide) (by decide) (by decide) (by decide)
theorem SDx.o {o : Nat} {y : Int32} (h : F4 u v) (hs : SDx u v o (mI u 7 1) 0) (ho : o = 10 ∨ o = 12) : F4 u (pI v o 1 (mI v o 1 ||| y)) ∧ SDx u (pI v o 1 (mI v o 1 ||| y)) o (mI u 7 1 ||| y) 0 := by
  have k0 : okS o 5 := by rcases ho with q | q <;> rw [q] <;> decide
  have m0 : In2 qB o := by rcases ho with q | q <;> rw [q] <;> decide
  refine ⟨⟨h.1.pI (wr_5 k0) (cm_5 k0 m0), fun n k a b c d => by rw [mI_ne (by omega)]; exact h.2 n k a b c d⟩, ?_, ?_, fun s hs' => ?_⟩
  · rw [mI_nk (by decide)]; exact hs.1
  · rw [mI_eq, hs.2.1]
  · rw [mI_ne (by omega)]; exact hs.2.2 s hs'
theorem c_dif2 {cl : Int32} {w : Nat} (hp : pl (mR u 2 10)) (hm : 0 ≤ mI u (mR u 2 10) 1 ∧ mI u (mR u 2 10) 1 ≤ 7) (h : F4 u v) (h1 : SDx u v 12 cl w) (h2 : SDx u v 10 (mI u 7 1) w) : Ws G Sn_differing 0 [(0, .ref 12), (1, .ref 10), (2, .int (mI v (mR u 2 10) 1))] [] v (RI fun a v' => v = v' ∧ a = Int32.ofNat (dfN (dwX u cl w) (dwC u w) (mI u (mR u 2 10) 1).toNatClampNeg)) := by
  obtain ⟨_, _, e0, _⟩ := shF_fr (pl_ok hp) h.2
  rw [e0]
  refine kI (c_differingx (by decide) (by decide) hm) (fun a v' q => ⟨q.1, q.2.trans ?_⟩)
  rw [dfN_cg _ (fun s hs => ⟨h1.2.2 s hs, h2.2.2 s hs⟩)]
  rfl
/-! the reference -/
def EPx (n k : Nat) : Prop := n = 94 ∨ (n = 76 ∧ k = 31)
def FM (u v : pM) : Prop := Mq mB u v ∧ ∀ n k, n ≠ 85 → n ≠ 86 → ¬ EPx n k → mI v n k = mI u n k
theorem AMg.p94 {ord : Nat → Nat} {cl : Int32} {w k : Nat} {y : Int32} (h : AMg u v ord cl EPx w) : AMg u (pI v 94 k y) ord cl EPx w := ⟨h.1.pA (by decide), fun n j a b e => by rw [mI_ne (fun z => e (.inl z))]; exact h.2.1 n j a b e, fun s hs => by rw [mI_ne (by decide)]; exact h.2.2 s hs⟩
theorem AMg.p31 {ord : Nat → Nat} {cl : Int32} {w : Nat} {y : Int32} (h : AMg u v ord cl EPx w) : AMg u (pI v 76 31 y) ord cl EPx w := ⟨h.1.pF (by decide), fun n j a b e => by
  by_cases z : n = 76
  · rw [z, mI_nk (fun q => e (.inr ⟨z, q⟩)), ← z]; exact h.2.1 n j a b e
  · rw [mI_ne z]; exact h.2.1 n j a b e, fun s hs => by rw [mI_ne (by decide)]; exact h.2.2 s hs⟩
theorem ix7 {x y : Int32} (hx : 0 ≤ x ∧ x ≤ 60) (hy : 0 ≤ y ∧ y < 7) : (7 * x + y : Int32).toNatClampNeg = 7 * x.toNatClampNeg + y.toNatClampNeg ∧ vp_in (7 * x + y) 427 := by
  have a1 := Int32.le_iff_toInt_le.mp hx.1
  have a2 := Int32.le_iff_toInt_le.mp hx.2
  have b1 := Int32.le_iff_toInt_le.mp hy.1
  have b2 := Int32.lt_iff_toInt_lt.mp hy.2
  have d0 : (0 : Int32).toInt = 0 := by decide
  have d7 : (7 : Int32).toInt = 7 := by decide
  have d60 : (60 : Int32).toInt = 60 := by decide
  have e : (7 * x + y).toInt = 7 * x.toInt + y.toInt := by
    rw [Int32.toInt_add, Int32.toInt_mul, d7, Int.bmod_eq_of_le (n := 7 * x.toInt) (by omega) (by omega), Int.bmod_eq_of_le (by omega) (by omega)]
  refine ⟨?_, ?_⟩
  · unfold Int32.toNatClampNeg
    omega
  · rw [vp_in_iff]
    omega
theorem e_setPlansx {x1 : Int32} {ord : Nat → Nat} (hM : InvM u) (ho : OrdP (shM u) (mI u 76 11).toNatClampNeg ord) (h1 : 0 ≤ x1 ∧ x1 ≤ 60) : Ws G m_setPlans 0 [(0, .ref 76), (1, .int x1)] [] u (RV fun u' => FM u u' ∧ mI u' 76 2 = mI u 76 2 ∧ ∀ k s, k ≤ x1.toNatClampNeg → s < (mI u 76 11).toNatClampNeg → mI u' 94 (7 * k + s) = dwM u ord k s) := by
  have m7 := hM.m7
  have m7N : (mI u 76 11).toNatClampNeg ≤ 7 := by have := tn_le m7.2; have e : (7 : Int32).toNatClampNeg = 7 := (by decide); omega
  have hE : ¬ EPx 76 18 := by unfold EPx; decide
  have l6 : ∀ x v, 0 ≤ x → x ≤ x1 + 1 → AMg u v ord (mI u 76 19) EPx x.toNatClampNeg → (∀ k s, k < x.toNatClampNeg → s < (mI u 76 11).toNatClampNeg → mI v 94 (7 * k + s) = dwM u ord k s) → Ws G m_setPlans 6 [(0, .ref 76), (1, .int x1), (2, .int x)] [] v (RV fun u' => FM u u' ∧ mI u' 76 2 = mI u 76 2 ∧ ∀ k s, k ≤ x1.toNatClampNeg → s < (mI u 76 11).toNatClampNeg → mI u' 94 (7 * k + s) = dwM u ord k s) := by
    refine upI (x1 + 1) _ (fun x ih v h0 hx hA g => ?_)
    refine sg_m_setPlans_6 ⟨fun c => ⟨rfl, ⟨hA.1, hA.2.1⟩, hA.2.1 76 2 (by decide) (by decide) (by unfold EPx; decide), fun k s hk hs => g k s (by rw [st63 h1 h0 hx c]; omega) hs⟩, fun c => ?_⟩
    obtain ⟨s1, s2, s3⟩ := st62 h1 h0 c
    have sx := tn_succ h0 s1
    have x60 : 0 ≤ x ∧ x ≤ 60 := ⟨h0, Int32.le_trans (Int32.not_lt.mp c) h1.2⟩
    have inn : ∀ y v, 0 ≤ y → y ≤ mI u 76 11 → AMg u v ord (mI u 76 19) EPx x.toNatClampNeg → (∀ k s, k < x.toNatClampNeg → s < (mI u 76 11).toNatClampNeg → mI v 94 (7 * k + s) = dwM u ord k s) → (∀ s, s < y.toNatClampNeg → mI v 94 (7 * x.toNatClampNeg + s) = dwM u ord x.toNatClampNeg s) → Ws G m_setPlans 13 [(0, .ref 76), (1, .int x1), (2, .int x), (3, .int y)] [] v (RV fun u' => FM u u' ∧ mI u' 76 2 = mI u 76 2 ∧ ∀ k s, k ≤ x1.toNatClampNeg → s < (mI u 76 11).toNatClampNeg → mI u' 94 (7 * k + s) = dwM u ord k s) := by
      refine upI (mI u 76 11) _ (fun y ihy v y0 hy hA g1 g2 => ?_)
      have w18 : mI v 76 18 = mI u 76 18 := hA.2.1 76 18 (by decide) (by decide) hE
      refine sg_m_setPlans_13 ⟨fun c => ?_, fun c => ?_⟩
      · rw [hA.1.m] at c
        have ey := Int32.le_antisymm hy c
        refine kV (e_amg hM ho hM.2.2.2.1 hE hA (by rw [w18, i32_nat h0]) hA.1.s) (fun v' h => ih s1 v' s2 s3 (by rw [sx]; exact h.1) (fun k s hk hs => ?_))
        rw [sx] at hk
        rw [h.2 94 _ (by decide) (by decide)]
        by_cases q : k = x.toNatClampNeg
        · rw [q]; exact g2 s (by rw [ey]; exact hs)
        · exact g1 k s (by omega) hs
      rw [hA.1.m] at c
      have ym := Int32.not_le.mp c
      have yN := tn_lt y0 ym
      have sy := tn_succ y0 c
      have sv := stU y0 c
      have y7 : y < 7 := Int32.lt_of_lt_of_le ym m7.2
      have v7 : vp_in y 7 := vin y0 (show (_ : Int32) < 7 from y7) (by decide)
      obtain ⟨ei, vi⟩ := ix7 x60 ⟨y0, y7⟩
      rw [ei]
      refine ⟨v7, vi, ihy c _ sv.1 sv.2 hA.p94 (fun k s hk hs => ?_) (fun s hs => ?_)⟩
      · rw [mI_nk (by omega)]; exact g1 k s hk hs
      · rw [sy] at hs
        by_cases q : s = y.toNatClampNeg
        · rw [q, mI_eq]; exact hA.2.2 _ yN
        · rw [mI_nk (by omega)]; exact g2 s (by omega)
    have z0 : (0 : Int32).toNatClampNeg = 0 := by decide
    exact inn 0 v (by decide) m7.1 hA g (fun s hs => by omega)
  have z0 : (0 : Int32).toNatClampNeg = 0 := by decide
  exact sg_m_setPlans_0 (kV (e_amg0 hM) (fun v h => l6 0 v (by decide) (st61 h1).1 (by rw [z0]; exact h.1) (fun k s hk => by omega)))
theorem e_othersByx {x1 x2 : Int32} {ord : Nat → Nat} (hM : InvM u) (ho : OrdP (shM u) (mI u 76 11).toNatClampNeg ord) (hc : cnt (mI u 76 19 ||| (1 <<< (x1 &&& 31))) (mI u 76 10).toNatClampNeg ≤ 3) (h2 : 1 ≤ x2 ∧ x2 ≤ 60) (hF : FM u v) (hp : ∀ k s, k ≤ x2.toNatClampNeg → s < (mI u 76 11).toNatClampNeg → mI v 94 (7 * k + s) = dwM u ord k s) : Ws G m_othersBy 0 [(0, .ref 76), (1, .int x1), (2, .int x2)] [] v (RI fun a v' => FM u v' ∧ (∀ k, mI v' 94 k = mI v 94 k) ∧ a = Int32.ofNat (dfN (dwY u ord (mI u 76 19 ||| (1 <<< (x1 &&& 31))) x2.toNatClampNeg) (dwM u ord x2.toNatClampNeg) (mI u 76 11).toNatClampNeg) ∧ FB (fun w => ¬ dfN (dwY u ord (mI u 76 19 ||| (1 <<< (x1 &&& 31))) w) (dwM u ord w) (mI u 76 11).toNatClampNeg = 0) x2.toNatClampNeg (mI v' 76 31)) := by
  have m7 := hM.m7
  have m7N : (mI u 76 11).toNatClampNeg ≤ 7 := by have := tn_le m7.2; have e : (7 : Int32).toNatClampNeg = 7 := (by decide); omega
  have hE : ¬ EPx 76 18 := by unfold EPx; decide
  have b0 : 0 ≤ x2 ∧ x2 ≤ 60 := ⟨Int32.le_trans (by decide) h2.1, h2.2⟩
  have x60 : x2.toNatClampNeg ≤ 60 := by have := tn_le h2.2; have e : (60 : Int32).toNatClampNeg = 60 := (by decide); omega
  have l1 : 1 ≤ x2.toNatClampNeg := by have := tn_le h2.1; have e : (1 : Int32).toNatClampNeg = 1 := (by decide); omega
  generalize hcl : mI u 76 19 ||| (1 <<< (x1 &&& 31)) = cl at *
  have key : ∀ x w0 (x3 : Int32) (w : Nat), 0 ≤ x → x ≤ x2 + 1 → x.toNatClampNeg = w + 1 → AMg u w0 ord cl EPx w → (∀ k, mI w0 94 k = mI v 94 k) → FB (fun w => ¬ dfN (dwY u ord cl w) (dwM u ord w) (mI u 76 11).toNatClampNeg = 0) w (mI w0 76 31) → (1 ≤ w → x3 = Int32.ofNat (dfN (dwY u ord cl w) (dwM u ord w) (mI u 76 11).toNatClampNeg)) → Ws G m_othersBy 15 [(0, .ref 76), (1, .int x1), (2, .int x2), (3, .int x3), (4, .int x)] [] w0 (RI fun a v' => FM u v' ∧ (∀ k, mI v' 94 k = mI v 94 k) ∧ a = Int32.ofNat (dfN (dwY u ord cl x2.toNatClampNeg) (dwM u ord x2.toNatClampNeg) (mI u 76 11).toNatClampNeg) ∧ FB (fun w => ¬ dfN (dwY u ord cl w) (dwM u ord w) (mI u 76 11).toNatClampNeg = 0) x2.toNatClampNeg (mI v' 76 31)) := by
    refine upI (x2 + 1) _ (fun x ih w0 x3 w h0 hx hw hA h94 g3 g4 => ?_)
    have w18 : mI w0 76 18 = mI u 76 18 := hA.2.1 76 18 (by decide) (by decide) hE
    refine sg_m_othersBy_15 ⟨fun c => ?_, fun c => ?_⟩
    · have e := st63 b0 h0 hx c
      have ew : w = x2.toNatClampNeg := by omega
      rw [ew] at g3 g4
      exact ⟨_, rfl, ⟨hA.1, hA.2.1⟩, h94, g4 l1, g3⟩
    obtain ⟨s1, s2, s3⟩ := st62 b0 h0 c
    have sx := tn_succ h0 s1
    have lw : w + 1 ≤ x2.toNatClampNeg := by have := tn_le (Int32.not_lt.mp c); omega
    have ex : x = Int32.ofNat (w + 1) := by rw [← hw]; exact (i32_nat h0).symm
    have xb : 0 ≤ x ∧ x ≤ 60 := ⟨h0, Int32.le_trans (Int32.not_lt.mp c) h2.2⟩
    refine kV (e_amg hM ho hc hE hA (by
      rw [w18, ex, ofN_s]
      generalize Int32.ofNat w = W
      generalize mI u 76 18 = Y
      clear ih
      grind) (by rw [hA.1.s]; exact hcl)) (fun v1 q1 => ?_)
    obtain ⟨hA1, f1⟩ := q1
    have h941 : ∀ k, mI v1 94 k = mI v 94 k := fun k => (f1 94 k (by decide) (by decide)).trans (h94 k)
    have e31 : mI v1 76 31 = mI w0 76 31 := f1 76 31 (by decide) (by decide)
    have inn : ∀ y (x3 : Int32), 0 ≤ y → y ≤ mI u 76 11 → x3 = Int32.ofNat (dfN (dwY u ord cl (w + 1)) (dwM u ord (w + 1)) y.toNatClampNeg) → Ws G m_othersBy 47 [(0, .ref 76), (1, .int x1), (2, .int x2), (3, .int x3), (4, .int x), (5, .int y)] [] v1 (RI fun a v' => FM u v' ∧ (∀ k, mI v' 94 k = mI v 94 k) ∧ a = Int32.ofNat (dfN (dwY u ord cl x2.toNatClampNeg) (dwM u ord x2.toNatClampNeg) (mI u 76 11).toNatClampNeg) ∧ FB (fun w => ¬ dfN (dwY u ord cl w) (dwM u ord w) (mI u 76 11).toNatClampNeg = 0) x2.toNatClampNeg (mI v' 76 31)) := by
      refine upI (mI u 76 11) _ (fun y ihy x3 y0 hy h3 => ?_)
      refine sg_m_othersBy_47 ⟨fun c => ?_, fun c => ?_⟩
      · rw [hA1.1.m] at c
        rw [Int32.le_antisymm hy c] at h3
        have rl := dfN_le (f := dwY u ord cl (w + 1)) (g := dwM u ord (w + 1)) (mI u 76 11).toNatClampNeg
        have rz : x3 ≤ 0 ↔ dfN (dwY u ord cl (w + 1)) (dwM u ord (w + 1)) (mI u 76 11).toNatClampNeg = 0 := by
          rw [h3]
          exact (show ∀ k, k < 8 → (Int32.ofNat k ≤ 0 ↔ k = 0) from by decide) _ (by omega)
        have goes : ∀ z, FB (fun w => ¬ dfN (dwY u ord cl w) (dwM u ord w) (mI u 76 11).toNatClampNeg = 0) (w + 1) z → Ws G m_othersBy 15 [(0, .ref 76), (1, .int x1), (2, .int x2), (3, .int x3), (4, .int (x + 1))] [] (pI v1 76 31 z) (RI fun a v' => FM u v' ∧ (∀ k, mI v' 94 k = mI v 94 k) ∧ a = Int32.ofNat (dfN (dwY u ord cl x2.toNatClampNeg) (dwM u ord x2.toNatClampNeg) (mI u 76 11).toNatClampNeg) ∧ FB (fun w => ¬ dfN (dwY u ord cl w) (dwM u ord w) (mI u 76 11).toNatClampNeg = 0) x2.toNatClampNeg (mI v' 76 31)) := fun z hz => ih s1 _ x3 (w + 1) s2 s3 (by rw [sx, hw]) hA1.p31 (fun k => by rw [mI_ne (by decide)]; exact h941 k) (by rw [mI_eq]; exact hz) (fun _ => h3)
        rw [e31]
        refine ⟨fun d => goes _ (g3.k (.inr (fun z => z (rz.mp d)))), fun d => ⟨fun e => goes _ (g3.k (.inl e)), fun e => goes _ ?_⟩⟩
        rw [ex]
        exact g3.s (by omega) e (fun z => d (rz.mpr z))
      rw [hA1.1.m] at c
      have ym := Int32.not_le.mp c
      have yN := tn_lt y0 ym
      have sy := tn_succ y0 c
      have sv := stU y0 c
      have y7 : y < 7 := Int32.lt_of_lt_of_le ym m7.2
      have v7 : vp_in y 7 := vin y0 (show (_ : Int32) < 7 from y7) (by decide)
      obtain ⟨ei, vi⟩ := ix7 xb ⟨y0, y7⟩
      have e85 : mI v1 85 y.toNatClampNeg = dwY u ord cl (w + 1) y.toNatClampNeg := hA1.2.2 _ yN
      rw [ei, h941, hw, hp (w + 1) _ lw yN, e85]
      refine ⟨v7, vi, fun d => ihy c _ sv.1 sv.2 ?_, fun d => ihy c _ sv.1 sv.2 ?_⟩
      · rw [sy, dfN, if_neg d, ofN_s, h3]
      · rw [sy, dfN, if_pos d, h3]; exact Int32.add_zero _
    have z0 : (0 : Int32).toNatClampNeg = 0 := by decide
    exact inn 0 0 (by decide) m7.1 (by rw [z0]; rfl)
  have hV := hF.1.inv hM
  refine sg_m_othersBy_0 (kV (e_fromNowx hV) (fun v1 h => ?_))
  have A0 : AMg u v1 ord cl EPx 0 := ⟨hF.1.tr h.1, fun n k a b e => (h.2.1 n k a).trans (hF.2 n k a b e), fun s hs => by
    rw [h.2.2 s (by rw [hF.1.m]; exact hs), hF.2 84 s (by decide) (by decide) (fun z => by rcases z with z | z; exact absurd z (by decide); exact absurd z.1 (by decide))]
    rfl⟩
  exact key 1 _ _ 0 (by decide) (by obtain ⟨p, q⟩ := h2; grind) (by decide) A0.p31 (fun k => by rw [mI_ne (by decide)]; exact h.2.1 94 k (by decide)) (by rw [mI_eq]; exact FB.z) (fun z => by omega)
theorem cnt_3 {n s x : Int32} (hn : n ≤ 30) (h0 : 0 ≤ x) (h1 : x < n) (hc : cnt s n.toNatClampNeg < 3) : cnt (s ||| (1 <<< (x &&& 31))) n.toNatClampNeg ≤ 3 := by
  have x32 : x < 32 := Int32.lt_of_lt_of_le h1 (Int32.le_trans hn (by decide))
  have l := tn_le hn
  have e : (30 : Int32).toNatClampNeg = 30 := by decide
  have cu := (cnt_upd (x := s) (y := s ||| (1 <<< (x &&& 31))) (d := x.toNatClampNeg) n.toNatClampNeg (fun j hj => tbo h0 x32 (by omega))).1
  omega
/-! worst -/
def worV (m x1 shut : Int32) (dw : Nat → Nat → Int32) (dx : Int32 → Nat → Nat → Int32) (d : Nat) : Int32 := Int32.ofNat (dfN (dx (shut ||| (1 <<< (Int32.ofNat d &&& 31))) x1.toNatClampNeg) (dw x1.toNatClampNeg) m.toNatClampNeg)
def worO (shut : Int32) (d : Nat) : Bool := !tb shut d
def worQ (n m shut x1 : Int32) (dw : Nat → Nat → Int32) (dx : Int32 → Nat → Nat → Int32) (a k : Int32) (S : Prop) : Prop := ((1 ≤ x1 ∧ x1 ≤ 60) ∧ 0 < n ∧ bcV shut < 3 ∧ woI (worO shut) (worV m x1 shut dw dx) n.toNatClampNeg a k) ∨ ((1 ≤ x1 ∧ x1 ≤ 60) ∧ 0 < n ∧ ¬ bcV shut < 3 ∧ a = -2 ∧ S) ∨ ((1 ≤ x1 ∧ x1 ≤ 60) ∧ ¬ 0 < n ∧ a = -4 ∧ S) ∨ (¬ (1 ≤ x1 ∧ x1 ≤ 60) ∧ a = -1 ∧ S)
theorem worV_p {m x1 shut : Int32} {dw : Nat → Nat → Int32} {dx : Int32 → Nat → Nat → Int32} {d : Nat} (hm : m.toNatClampNeg ≤ 7) : 0 ≤ worV m x1 shut dw dx d := (show ∀ k, k < 8 → 0 ≤ Int32.ofNat k from by decide) _ (by have := dfN_le (f := dx (shut ||| (1 <<< (Int32.ofNat d &&& 31))) x1.toNatClampNeg) (g := dw x1.toNatClampNeg) m.toNatClampNeg; omega)
theorem d_worstq {x1 : Int32} (hC : InvC u) (hm : 0 ≤ mI u (mR u 2 10) 1 ∧ mI u (mR u 2 10) 1 ≤ 7) (hK : 0 < mI u (mR u 2 10) 0 → PlK u (mR u 2 10)) (hQ : ∀ a u', Cl qB u u' → worQ (mI u (mR u 2 10) 0) (mI u (mR u 2 10) 1) (mI u 7 1) x1 (dwC u) (dwX u) a (mI u' 2 12) (u' = u) → Q (some (.int a)) u') : Ws G D_worst 0 [(0, .ref 2), (1, .int x1)] [] u Q := by
  have m7 : (mI u (mR u 2 10) 1).toNatClampNeg ≤ 7 := by have := tn_le hm.2; have e : (7 : Int32).toNatClampNeg = 7 := (by decide); omega
  refine sg_D_worst_0 ⟨fun a hp => ⟨fun b => ⟨fun c _ => ?_, fun c => hQ _ _ (Cl.rf hC) (.inr (.inl ⟨a, b, c, rfl, rfl⟩))⟩, fun b => hQ _ _ (Cl.rf hC) (.inr (.inr (.inl ⟨a, b, rfl, rfl⟩)))⟩, fun a => hQ _ _ (Cl.rf hC) (.inr (.inr (.inr ⟨a, rfl, rfl⟩)))⟩
  have hK' := hK b
  have h10 : 0 ≤ x1 := Int32.le_trans (by decide) a.1
  have F0 : F4 u u := ⟨Cq.rf, fun _ _ _ _ _ _ => rfl⟩
  obtain ⟨Fa, Sa⟩ := SDx.b F0 m7 (.inl rfl : (10 : Nat) = 10 ∨ (10 : Nat) = 12)
  show Ws G Sn_pass 0 [(0, .ref 10), (1, .ref (mR u 2 10)), (2, .int x1)] [] (snB u 10 7) _
  refine kV (c_sd (.inl rfl) hp hK' h10 Fa Sa (.inl rfl)) (fun v q => ?_)
  obtain ⟨F1, _, S1⟩ := q
  rw [Nat.zero_add] at S1
  have n30N : (mI u (mR u 2 10) 0).toNatClampNeg ≤ 30 := by have := tn_le hK'.1.2; have e : (30 : Int32).toNatClampNeg = 30 := (by decide); omega
  have key : ∀ x v (x2 x3 : Int32), 0 ≤ x → x ≤ mI u (mR u 2 10) 0 → F4 u v → SDx u v 10 (mI u 7 1) x1.toNatClampNeg → woI (worO (mI u 7 1)) (worV (mI u (mR u 2 10) 1) x1 (mI u 7 1) (dwC u) (dwX u)) x.toNatClampNeg x2 x3 → Ws G D_worst 67 [(0, .ref 2), (1, .int x1), (2, .int x2), (3, .int x3), (4, .int x)] [] v Q := by
    refine upI (mI u (mR u 2 10) 0) _ (fun x ih v x2 x3 h0 hx hF hS g => ?_)
    obtain ⟨_, _, e0, _⟩ := shF_fr (pl_ok hp) hF.2
    refine sg_D_worst_67 (fun _ => ?_)
    rw [hF.ro, e0, hF.2 7 1 (by decide) (by decide) (by decide) (by decide)]
    refine ⟨fun d => ?_, fun d => ?_⟩
    · rw [Int32.le_antisymm hx d] at g
      exact hQ _ _ ((hF.1.pI wr_D (by decide)).cl hC) (.inl ⟨a, b, c, by rw [mI_eq]; exact g⟩)
    have xm := Int32.not_le.mp d
    have su := stU h0 d
    have sx := tn_succ h0 d
    have it := isI_tb (x := mI u 7 1) h0 (show x < 31 from Int32.lt_of_lt_of_le xm (Int32.le_trans hK'.1.2 (by decide)))
    refine ⟨fun e => ih d v x2 x3 su.1 su.2 hF hS ?_, fun e _ => ?_⟩
    · rw [sx]
      exact wo_c g (by unfold worO; rw [it.mp e]; rfl)
    have tf : worO (mI u 7 1) x.toNatClampNeg = true := by
      unfold worO
      cases z : tb (mI u 7 1) x.toNatClampNeg
      · rfl
      · exact absurd (it.mpr z) e
    obtain ⟨Fb, Sb⟩ := SDx.b hF m7 (.inr rfl : (12 : Nat) = 10 ∨ (12 : Nat) = 12)
    obtain ⟨Fc, Sc⟩ := SDx.o (y := 1 <<< (x &&& 31)) Fb Sb (.inr rfl)
    have Sd : SDx u (pI (snB v 12 7) 12 1 (mI (snB v 12 7) 12 1 ||| (1 <<< (x &&& 31)))) 10 (mI u 7 1) x1.toNatClampNeg := (hS.k (v' := snB v 12 7) (o' := 12) (fun n k a b => snB_f a b) (by decide)).k (o' := 12) (fun n k a _ => mI_ne a) (by decide)
    rw [Fc.ro]
    refine kV (c_sd (.inr rfl) hp hK' h10 Fc Sc (.inl rfl)) (fun v2 q2 _ => ?_)
    obtain ⟨F2, f2, S2⟩ := q2
    rw [Nat.zero_add] at S2
    rw [F2.ro]
    refine kI (c_dif2 hp hm F2 S2 (Sd.k f2 (by decide))) (fun r v3 q => ?_)
    obtain ⟨rfl, er⟩ := q
    have ev : r = worV (mI u (mR u 2 10) 1) x1 (mI u 7 1) (dwC u) (dwX u) x.toNatClampNeg := by
      unfold worV
      rw [er, i32_nat h0]
    refine ⟨fun z => ih d v2 x2 x3 su.1 su.2 F2 (Sd.k f2 (by decide)) ?_, fun z => ih d v2 x r su.1 su.2 F2 (Sd.k f2 (by decide)) ?_⟩
    · rw [sx]
      exact wo_k g tf (worV_p m7) (by rw [← ev]; exact z)
    · rw [sx]
      have w := wo_r g tf (by rw [← ev]; exact z)
      rw [i32_nat h0, ← ev] at w
      exact w
  have z0 : (0 : Int32).toNatClampNeg = 0 := by decide
  exact key 0 v _ _ (by decide) (Int32.le_of_lt b) F1 S1 (by rw [z0]; exact .inl ⟨rfl, rfl⟩)
theorem d_worsty {x1 : Int32} (hC : InvC u) (hm : 0 ≤ mI u (mR u 2 10) 1 ∧ mI u (mR u 2 10) 1 ≤ 7) (hK : 0 < mI u (mR u 2 10) 0 → PlK u (mR u 2 10)) : Ws G D_worst 0 [(0, .ref 2), (1, .int x1)] [] u (RI fun a u' => Cl qB u u' ∧ worQ (mI u (mR u 2 10) 0) (mI u (mR u 2 10) 1) (mI u 7 1) x1 (dwC u) (dwX u) a (mI u' 2 12) (u' = u)) := d_worstq hC hm hK (fun a _ h1 h2 => ⟨a, rfl, h1, h2⟩)
theorem e_worstq {x1 : Int32} {ord : Nat → Nat} (hM : InvM u) (ho : OrdP (shM u) (mI u 76 11).toNatClampNeg ord) (hb : bnK (mI u 76 10) (mI u 76 19)) (hQ : ∀ a u', Mo mB u u' → worQ (mI u 76 10) (mI u 76 11) (mI u 76 19) x1 (dwM u ord) (dwY u ord) a (mI u' 76 2) (u' = u) → Q (some (.int a)) u') : Ws G m_worst 0 [(0, .ref 76), (1, .int x1)] [] u Q := by
  have m7 := hM.m7
  have m7N : (mI u 76 11).toNatClampNeg ≤ 7 := by have := tn_le m7.2; have e : (7 : Int32).toNatClampNeg = 7 := (by decide); omega
  have n30 := hM.n30
  have sb := sm_bc n30.2 hb
  have c3 := hM.2.2.2.1
  refine sg_m_worst_0 ⟨fun a => ⟨fun b => ?_, fun b => hQ _ _ (Mo.rf hM) (.inr (.inr (.inl ⟨a, by rw [b]; decide, rfl, rfl⟩)))⟩, fun a => hQ _ _ (Mo.rf hM) (.inr (.inr (.inr ⟨a, rfl, rfl⟩)))⟩
  have hn := hM.nd b
  have np : 0 < mI u 76 10 := Int32.lt_of_lt_of_le (by decide) hn.1
  refine kI (e_shutManyx hM) (fun y v h => ?_)
  obtain ⟨rfl, ey⟩ := h
  have k3 := (show ∀ n, n < 4 → (¬ Int32.ofNat n = 3 ↔ Int32.ofNat n < 3) ∧ (Int32.ofNat n < 3 → n < 3) from by decide) _ (show cnt (mI u 76 19) (mI u 76 10).toNatClampNeg < 4 by omega)
  rw [ey]
  refine ⟨fun d => ?_, fun d => hQ _ _ (Mo.rf hM) (.inr (.inl ⟨a, np, fun z => k3.1.mpr (by rw [sb]; exact z) d, rfl, rfl⟩))⟩
  have lt3 := k3.1.mp d
  have key : ∀ x v (x2 x3 : Int32), 0 ≤ x → x ≤ mI u 76 10 → FM u v → (∀ k s, k ≤ x1.toNatClampNeg → s < (mI u 76 11).toNatClampNeg → mI v 94 (7 * k + s) = dwM u ord k s) → woI (worO (mI u 76 19)) (worV (mI u 76 11) x1 (mI u 76 19) (dwM u ord) (dwY u ord)) x.toNatClampNeg x2 x3 → -1 ≤ x3 → Ws G m_worst 45 [(0, .ref 76), (1, .int x1), (2, .int x2), (3, .int x3), (4, .int x)] [] v Q := by
    refine upI (mI u 76 10) _ (fun x ih v x2 x3 h0 hx hF hp g g1 => ?_)
    refine sg_m_worst_45 ?_
    rw [hF.1.n, hF.1.s]
    refine ⟨fun e => ?_, fun e => ?_⟩
    · rw [Int32.le_antisymm hx e] at g
      exact hQ _ _ ((hF.1.pF (by decide)).mo hM) (.inl ⟨a, np, by rw [← sb]; exact lt3, by rw [mI_eq]; exact g⟩)
    have xm := Int32.not_le.mp e
    have su := stU h0 e
    have sx := tn_succ h0 e
    have x32 : x < 32 := Int32.lt_of_lt_of_le xm (Int32.le_trans n30.2 (by decide))
    refine ⟨fun f => ?_, fun f => ⟨fun z => ⟨fun _ => ih e v x2 x3 su.1 su.2 hF hp ?_ g1, fun z' => absurd z z'⟩, fun z => absurd g1 z⟩⟩
    · have tf : worO (mI u 76 19) x.toNatClampNeg = true := by unfold worO; rw [tb_n h0 x32 f]; rfl
      refine kI (e_othersByx hM ho (cnt_3 n30.2 h0 xm (k3.2 lt3)) a hF hp) (fun r v' q => ?_)
      obtain ⟨q1, q2, q3, _⟩ := q
      have hp' : ∀ k s, k ≤ x1.toNatClampNeg → s < (mI u 76 11).toNatClampNeg → mI v' 94 (7 * k + s) = dwM u ord k s := fun k s hk hs => (q2 _).trans (hp k s hk hs)
      have ev : r = worV (mI u 76 11) x1 (mI u 76 19) (dwM u ord) (dwY u ord) x.toNatClampNeg := by
        unfold worV
        rw [q3, i32_nat h0]
      have pv := worV_p (m := mI u 76 11) (x1 := x1) (shut := mI u 76 19) (dw := dwM u ord) (dx := dwY u ord) (d := x.toNatClampNeg) m7N
      refine ⟨fun z => ⟨fun _ => ih e v' x2 x3 su.1 su.2 q1 hp' ?_ g1, fun z' => absurd z z'⟩, fun z => ⟨fun z' => absurd z' z, fun _ => ih e v' x r su.1 su.2 q1 hp' ?_ ?_⟩⟩
      · rw [sx]
        exact wo_k g tf pv (by rw [← ev]; exact z)
      · rw [sx]
        have w := wo_r g tf (by rw [← ev]; exact z)
        rw [i32_nat h0, ← ev] at w
        exact w
      · rw [ev]; exact Int32.le_trans (by decide) pv
    · rw [sx]
      exact wo_c g (by unfold worO; rw [(tbx h0 x32).mp f]; rfl)
  have z0 : (0 : Int32).toNatClampNeg = 0 := by decide
  refine kV (e_setPlansx hM ho ⟨Int32.le_trans (by decide) a.1, a.2⟩) (fun v h => ?_)
  exact key 0 v _ _ (by decide) n30.1 h.1 h.2.2 (by rw [z0]; exact .inl ⟨rfl, rfl⟩) (by decide)
theorem e_worsty {x1 : Int32} {ord : Nat → Nat} (hM : InvM u) (ho : OrdP (shM u) (mI u 76 11).toNatClampNeg ord) (hb : bnK (mI u 76 10) (mI u 76 19)) : Ws G m_worst 0 [(0, .ref 76), (1, .int x1)] [] u (RI fun a u' => Mo mB u u' ∧ worQ (mI u 76 10) (mI u 76 11) (mI u 76 19) x1 (dwM u ord) (dwY u ord) a (mI u' 76 2) (u' = u)) := e_worstq hM ho hb (fun a _ h1 h2 => ⟨a, rfl, h1, h2⟩)
end ANE
