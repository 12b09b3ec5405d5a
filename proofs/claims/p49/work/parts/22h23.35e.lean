/-! ===== rows, whole; the class's errands, whole ===== -/
/-- the class's rows are as they were -/
def rwK (u u' : pM) : Prop := ∀ r, r < 6 → mI u' (50 + 2 * r) 1 = mI u (50 + 2 * r) 1 ∧ ∀ k, mI u' (51 + 2 * r) k = mI u (51 + 2 * r) k
/-- row r has the size y and holds f, the others are as they were -/
def rwS (u u' : pM) (r : Nat) (y : Int32) (f : Nat → Int32) : Prop := mI u' (50 + 2 * r) 1 = y ∧ (∀ k, k < 40 → mI u' (51 + 2 * r) k = f k) ∧ ∀ q, q < 6 → q ≠ r → mI u' (50 + 2 * q) 1 = mI u (50 + 2 * q) 1 ∧ ∀ k, mI u' (51 + 2 * q) k = mI u (51 + 2 * q) k
theorem rwS.of {u u' : pM} {r : Nat} {y : Int32} {f : Nat → Int32} (hy : mI u' (50 + 2 * r) 1 = y) (hf : ∀ k, k < 40 → mI u' (51 + 2 * r) k = f k) (h : ∀ n k, 50 ≤ n → n < 62 → n ≠ 50 + 2 * r → n ≠ 51 + 2 * r → mI u' n k = mI u n k) : rwS u u' r y f := ⟨hy, hf, fun q hq ne => ⟨h _ _ (by omega) (by omega) (by omega) (by omega), fun k => h _ _ (by omega) (by omega) (by omega) (by omega)⟩⟩
theorem rwK.of {u u' : pM} (h : ∀ n k, 50 ≤ n → n < 62 → mI u' n k = mI u n k) : rwK u u' := fun r hr => ⟨h _ _ (by omega) (by omega), fun k => h _ _ (by omega) (by omega)⟩
/-- the weeks of a set, one behind the other -/
def rowE (set : Int32) (m : Nat) (D : Nat → Int) (f : Nat → Int32) : Prop := (∀ s, s < m → tb set s = true → (f (cnt set s)).toInt = D s) ∧ ∀ k, k < 40 → cnt set m ≤ k → f k = 0
theorem cnt_at {x : Int32} : ∀ (m k : Nat), k < cnt x m → ∃ s, s < m ∧ tb x s = true ∧ cnt x s = k
  | 0, k, h => by rw [cnt] at h; omega
  | m + 1, k, h => by
    rw [cnt] at h
    by_cases c : k < cnt x m
    · obtain ⟨s, a, b, d⟩ := cnt_at m k c
      exact ⟨s, by omega, b, d⟩
    · cases t : tb x m
      · rw [t] at h; simp at h; omega
      · rw [t] at h; simp at h; exact ⟨m, by omega, t, by omega⟩
theorem rowE.eq {set : Int32} {m : Nat} {D D' : Nat → Int} {f g : Nat → Int32} (h : rowE set m D f) (h' : rowE set m D' g) (e : ∀ s, s < m → tb set s = true → D s = D' s) : ∀ k, k < 40 → f k = g k := fun k hk => by
  by_cases c : k < cnt set m
  · obtain ⟨s, a, b, d⟩ := cnt_at m k c
    have p := h.1 s a b
    have q := h'.1 s a b
    rw [d] at p q
    exact Int32.toInt_inj.mp (by rw [p, q, e s a b])
  · rw [h.2 k hk (by omega), h'.2 k hk (by omega)]
theorem IsR.cg {n : Int32} {far far' : Nat → Int32} {m : Nat} {set r : Int32} (h : IsR n far m set r) (e : ∀ s, s < m → far' s = far s) : IsR n far' m set r := by
  have c : ∀ h l, CovP n far' m set h l ↔ CovP n far m set h l := fun a b => ⟨fun q s hs t => by rw [← e s hs]; exact q s hs t, fun q s hs t => by rw [e s hs]; exact q s hs t⟩
  refine ⟨h.1, fun a b x y z => h.2.1 a b x y ((c a b).mp z), ?_⟩
  rcases h.2.2 with z | ⟨a, b, x, y, z, q⟩
  · exact .inl z
  · exact .inr ⟨a, b, x, y, (c a b).mpr z, q⟩
theorem farP_cg {n d : Int32} {dr dr' : Nat → Int32} {m : Nat} (e : ∀ s, s < m → dr' s = dr s) : ∀ s, s < m → farP n dr' d s = farP n dr d s := fun s hs => by
  unfold farP
  rw [e s hs]
theorem snB_f {u : pM} {o p n k : Nat} (h0 : n ≠ o) (h1 : n ≠ o + 1) : mI (snB u o p) n k = mI u n k := by
  unfold snB
  show (if n = o + 1 then _ else mI (pI (pI u o 0 _) o 1 _) n k) = _
  rw [if_neg h1, mI_ne h0, mI_ne h0]
theorem snB_0 {u : pM} {o p : Nat} : mI (snB u o p) o 0 = mI u p 0 := by
  unfold snB
  show (if o = o + 1 then _ else mI (pI (pI u o 0 _) o 1 _) o 0) = _
  rw [if_neg (by omega), mI_nk (by decide), mI_eq]
theorem snB_1 {u : pM} {o p : Nat} (h : p ≠ o) : mI (snB u o p) o 1 = mI u p 1 := by
  unfold snB
  show (if o = o + 1 then _ else mI (pI (pI u o 0 _) o 1 _) o 1) = _
  rw [if_neg (by omega), mI_eq, mI_ne h]
theorem snB_d {u : pM} {o p s : Nat} (h : p + 1 ≠ o) (hs : s < 7) : mI (snB u o p) (o + 1) s = mI u (p + 1) s := by
  have z0 : (0 : Int32).toNatClampNeg = 0 := by decide
  have z7 : (7 : Int32).toNatClampNeg = 7 := by decide
  unfold snB
  show (if o + 1 = o + 1 then va_cpy (mI (pI (pI u o 0 _) o 1 _) (p + 1)) (mI (pI (pI u o 0 _) o 1 _) (o + 1)) (0 : Int32).toNatClampNeg (0 : Int32).toNatClampNeg (7 : Int32).toNatClampNeg s else _) = _
  rw [if_pos rfl, z0, z7]
  unfold va_cpy
  simp [hs, mI_ne h]
def drK (u : pM) (m : Nat) : Prop := ∀ s, s < m → 0 ≤ mI u 8 s ∧ mI u 8 s < 30
/-- doors w weeks on from now -/
def dwC (u : pM) (w : Nat) : Nat → Int32 := pws (mI u (mR u 2 10) 0) (mI u 7 0) (mI u 7 1) (shF u (mR u 2 10)) (ordF u (mR u 2 10)) (mI u (mR u 2 10) 1).toNatClampNeg (mI u 8) w
def erQ (u u' : pM) (a x1 x2 x3 x4 : Int32) : Prop := (¬ erC (mI u (mR u 2 10) 0) (mI u (mR u 2 10) 1) x1 x2 x3 x4 ∧ a = -1 ∧ rwK u u') ∨ (erC (mI u (mR u 2 10) 0) (mI u (mR u 2 10) 1) x1 x2 x3 x4 ∧ (PlK u (mR u 2 10) → drK u (mI u (mR u 2 10) 1).toNatClampNeg → ∃ (f : Nat → Int32) (S : Int), rwS u u' x4.toNatClampNeg (rnV (bcV x2)) f ∧ (0 ≤ S ∧ S ≤ 1125899906842624) ∧ erS (mI u (mR u 2 10) 0) (mI u (mR u 2 10) 1).toNatClampNeg x2 x1 (dwC u) x3.toNatClampNeg S ∧ a.toInt = S / 34359738368 ∧ rowE x2 (mI u (mR u 2 10) 1).toNatClampNeg (dgt S) f))
section ERD
variable {G : pG} {u : pM} {L : List Nat}
theorem c_filly {o0 : Nat} {x1 : Int32} (k0 : okS o0 100) (h76 : o0 < 76) (m0 : o0 ∈ L) : Ws G ja_fill 0 [(0, .ref o0), (1, .int x1)] [] u (RV fun u' => Cq L u u' ∧ mL u' = mL u ∧ (∀ n i, n ≠ o0 → mI u' n i = mI u n i) ∧ ∀ i, i < (S0 o0).2 → mI u' o0 i = x1) := by
  refine sg_ja_fill_0 k0 ?_
  have sl := S0_lt o0
  have key : ∀ x v, 0 ≤ x → Cq L u v → mL v = mL u → (∀ n i, n ≠ o0 → mI v n i = mI u n i) → (∀ i, i < x.toNatClampNeg → mI v o0 i = x1) → Ws G ja_fill 5 [(0, .ref o0), (1, .int x1), (2, .int x), (3, .int (Int32.ofNat (S0 o0).2))] [] v (RV fun u' => Cq L u u' ∧ mL u' = mL u ∧ (∀ n i, n ≠ o0 → mI u' n i = mI u n i) ∧ ∀ i, i < (S0 o0).2 → mI u' o0 i = x1) := by
    refine upI (Int32.ofNat (S0 o0).2) _ (fun x ih v h0 hq hl hf hi => ?_)
    refine sg_ja_fill_5 k0 ⟨fun c => ⟨rfl, hq, hl, hf, fun i hs => hi i ?_⟩, fun c => ⟨vin h0 (Int32.not_le.mp c) (S0_lt _), ih c _ ?_ (hq.pI (wr_k k0 h76 (by decide) (by decide)) (by rw [cd_k k0 (by decide) h76]; exact m0)) hl (fun n i hn => by rw [mI_ne hn]; exact hf n i hn) (fun i hx => ?_)⟩⟩
    · have a := tn_le c
      have z : (Int32.ofNat (S0 o0).2).toInt = (((S0 o0).2 : Nat) : Int) := nI_toInt (by omega)
      have b : (Int32.ofNat (S0 o0).2).toNatClampNeg = (S0 o0).2 := by
        show (Int32.ofNat (S0 o0).2).toInt.toNat = _
        omega
      omega
    · grind
    · rw [tn_succ h0 c] at hx
      by_cases e : i = x.toNatClampNeg
      · rw [e, mI_eq]
      · rw [mI_nk e]; exact hi i (by omega)
  have z0 : (0 : Int32).toNatClampNeg = 0 := by decide
  exact key 0 u (by decide) Cq.rf rfl (fun _ _ _ => rfl) (fun i hi => by omega)
theorem c_renewy {r : Nat} {y z : Int32} (hr : r < 6) (hC : InvC u) : Ws G Sp_renew 0 [(0, .ref (50 + 2 * r)), (1, .int y), (2, .int z)] [] u (RV fun u' => Cl (qB ++ qR) u u' ∧ mL u' = mL u ∧ mR u' = mR u ∧ mI u' (50 + 2 * r) 1 = rnV y ∧ (∀ k, k < 40 → mI u' (51 + 2 * r) k = z) ∧ ∀ n k, n ≠ 50 + 2 * r → n ≠ 51 + 2 * r → mI u' n k = mI u n k) := by
  have k0 := (rL hr).1
  have l := (rL hr).2
  have e51 : 50 + 2 * r + 1 = 51 + 2 * r := by omega
  refine sg_Sp_renew_0 k0 (kV (c_filly (L := qB ++ qR) (os_6_0 k0) (by omega) (rM hr).2) (fun v h => ⟨rfl, ((Cl.rf hC).sz k0 (rM hr) ?_).cq h.1, h.2.1, ?_, ?_, fun k hk => ?_, fun n k a b => ?_⟩))
  · split
    · exact Int32.le_refl _
    · rename_i q; exact Int32.not_lt.mp q
  · rw [h.1.2.1]; rfl
  · rw [h.2.2.1 _ _ (by omega), mI_eq, l]; rfl
  · rw [← e51]; exact h.2.2.2 k (by rw [l]; exact hk)
  · rw [h.2.2.1 _ _ (by omega), mI_ne a]
theorem c_weekForx {x1 x2 : Int32} (h0 : 0 ≤ x1) (h1 : x1 < 128) (s0 : 0 ≤ x2) (s7 : x2 < 7) : Ws G Er_weekFor 0 [(0, .ref 18), (1, .int x1), (2, .int x2)] [] u (RI fun a u' => u = u' ∧ a.toInt = dgt (S20 u x1) x2.toNatClampNeg) :=
  sg_Er_weekFor_0 ⟨fun c => absurd c (Int32.not_lt.mpr h0), fun _ => ⟨fun c => absurd h1 (Int32.not_lt.mpr c), fun _ => ⟨vin h0 (show (_ : Int32) < 128 by exact h1) (by decide), _, rfl, rfl, dg_w s0 s7⟩⟩⟩
theorem c_walkingForx {x1 : Int32} (h0 : 0 ≤ x1) (h1 : x1 < 128) (b : 0 ≤ S20 u x1 ∧ S20 u x1 ≤ 1125899906842624) : Ws G Er_walkingFor 0 [(0, .ref 18), (1, .int x1)] [] u (RI fun a u' => u = u' ∧ a.toInt = S20 u x1 / 34359738368) :=
  sg_Er_walkingFor_0 ⟨fun c => absurd c (Int32.not_lt.mpr h0), fun _ => ⟨fun c => absurd h1 (Int32.not_lt.mpr c), fun _ => ⟨vin h0 (show (_ : Int32) < 128 by exact h1) (by decide), _, rfl, rfl, dg_a b.1 b.2⟩⟩⟩
theorem d_errandsy {x1 x2 x3 x4 : Int32} (hC : InvC u) : Ws G D_errands 0 [(0, .ref 2), (1, .int x1), (2, .int x2), (3, .int x3), (4, .int x4)] [] u (RI fun a u' => Cl (qB ++ qR) u u' ∧ erQ u u' a x1 x2 x3 x4) := by
  by_cases hc : erC (mI u (mR u 2 10) 0) (mI u (mR u 2 10) 1) x1 x2 x3 x4
  rotate_left
  · have no : (RI fun a u' => Cl (qB ++ qR) u u' ∧ erQ u u' a x1 x2 x3 x4) (some (.int (-1))) u := ⟨_, rfl, Cl.rf hC, .inl ⟨hc, rfl, fun _ _ => ⟨rfl, fun _ => rfl⟩⟩⟩
    exact sg_D_errands_0 (fun _ => ⟨fun a _ => ⟨fun b => ⟨fun _ => no, fun c => ⟨fun _ => no, fun d => ⟨fun e => absurd ⟨a, b, ⟨c, d⟩, e⟩ hc, fun _ => no⟩⟩⟩, fun _ => no⟩, fun _ => no⟩)
  by_cases hP : PlK u (mR u 2 10) ∧ drK u (mI u (mR u 2 10) 1).toNatClampNeg
  rotate_left
  · exact kI (d_errandsx hC) (fun a v h => ⟨h.1, .inr ⟨hc, fun p q => absurd ⟨p, q⟩ hP⟩⟩)
  obtain ⟨hK, hdr⟩ := hP
  refine sg_D_errands_0 (fun hp => ⟨fun a _ => ⟨fun b => ⟨fun c => absurd c hc.2.2.1.1, fun c => ⟨fun d => absurd d hc.2.2.1.2, fun d => ⟨fun e => ?_, fun e => absurd hc.2.2.2 e⟩⟩⟩, fun b => absurd hc.2.1 b⟩, fun a => absurd hc.1 a⟩)
  have ko := pl_ok hp
  generalize hpp : mR u 2 10 = P at *
  have hm := hK.2.1
  have hn := hK.1
  have k10 : okS 10 5 := by decide
  have x20 := b.1
  have x2b := set128 hm ((set_eq hm).mp b).2
  have x30 := Int32.not_lt.mp c
  have x330 := Int32.not_lt.mp d
  have eW : (x3 + 1).toNatClampNeg = x3.toNatClampNeg + 1 := tn_succ (b := 100) x30 (by grind)
  have m7 : (mI u P 1).toNatClampNeg ≤ 7 := by have := tn_le hm.2; have e : (7 : Int32).toNatClampNeg = 7 := (by decide); omega
  have eDw : ∀ w, dwC u w = pws (mI u P 0) (mI u 7 0) (mI u 7 1) (shF u P) (ordF u P) (mI u P 1).toNatClampNeg (mI u 8) w := fun w => by unfold dwC; rw [hpp]
  have ordb : ∀ i, i < (mI u P 1).toNatClampNeg → ordF u P i < (mI u P 1).toNatClampNeg := hK.2.2.2.2.1
  have drg : ∀ w s, s < (mI u P 1).toNatClampNeg → 0 ≤ dwC u w s ∧ dwC u w s < 30 := fun w s hs => by rw [eDw]; exact pws_rg hn.1 hn.2 hdr w s hs
  obtain ⟨er, hr⟩ := rO e
  -- the last loop: the weeks go into the row
  have l138 : ∀ x v (x6 : Int32) (S : Int), 0 ≤ x → x ≤ mI u P 1 → Cl (qB ++ qR) u v → mR v 2 10 = P → (∀ n k, n ≠ 10 → n ≠ 11 → n ≠ 50 + 2 * x4.toNatClampNeg → n ≠ 51 + 2 * x4.toNatClampNeg → mI v n k = mI u n k) → mI v (50 + 2 * x4.toNatClampNeg) 1 = rnV (bcV x2) → S20 v x2 = S → (0 ≤ S ∧ S ≤ 1125899906842624) → erS (mI u P 0) (mI u P 1).toNatClampNeg x2 x1 (dwC u) x3.toNatClampNeg S → x6 = Int32.ofNat (cnt x2 x.toNatClampNeg) → (∀ s, s < x.toNatClampNeg → tb x2 s = true → (mI v (51 + 2 * x4.toNatClampNeg) (cnt x2 s)).toInt = dgt S s) → (∀ k, k < 40 → cnt x2 x.toNatClampNeg ≤ k → mI v (51 + 2 * x4.toNatClampNeg) k = 0) → Ws G D_errands 138 [(0, .ref 2), (2, .int x2), (5, .ref (50 + 2 * x4.toNatClampNeg)), (6, .int x6), (7, .int x)] [] v (RI fun a u' => Cl (qB ++ qR) u u' ∧ erQ u u' a x1 x2 x3 x4) := by
    refine upI (mI u P 1) _ (fun x ih v x6 S h0 hx hl hR hf hz hS hSb hE h6 hlo hhi => ?_)
    have pn : P ≠ 10 ∧ P ≠ 11 ∧ P ≠ 50 + 2 * x4.toNatClampNeg ∧ P ≠ 51 + 2 * x4.toNatClampNeg := by have := lt_2 ko; rcases hp with z | z <;> omega
    refine sg_D_errands_138 (rL hr).1 (fun hp' => ?_)
    rw [hR, hf _ _ pn.1 pn.2.1 pn.2.2.1 pn.2.2.2]
    refine ⟨fun q => kI (c_walkingForx x20 x2b (by rw [hS]; exact hSb)) (fun a v' h => ?_), fun q => ?_⟩
    · obtain ⟨rfl, ha⟩ := h
      rw [Int32.le_antisymm hx q] at hlo hhi
      refine ⟨_, rfl, hl, .inr ⟨by rw [hpp]; exact hc, fun _ _ => ⟨mI v (51 + 2 * x4.toNatClampNeg), S, rwS.of hz (fun _ _ => rfl) (fun n k n1 n2 n3 n4 => hf n k (by omega) (by omega) n3 n4), hSb, by rw [hpp]; exact hE, by rw [ha, hS], ?_⟩⟩⟩
      rw [hpp]
      exact ⟨hlo, hhi⟩
    · have xm := Int32.not_le.mp q
      have x7 : x < 7 := Int32.lt_of_lt_of_le xm hm.2
      have sx := tn_succ h0 q
      have xN := tn_lt h0 xm
      have it := isI_tb (x := x2) h0 (show x < 31 by exact Int32.lt_trans x7 (by decide))
      refine ⟨fun r => kI (c_weekForx x20 x2b h0 x7) (fun a v' h => ?_), fun r => ?_⟩
      · obtain ⟨rfl, ha⟩ := h
        have t := it.mp r
        have c1 : cnt x2 (x.toNatClampNeg + 1) = cnt x2 x.toNatClampNeg + 1 := by rw [cnt, t]; rfl
        have c2 := cnt_mono x2 (x.toNatClampNeg + 1) (mI u P 1).toNatClampNeg (by omega)
        have c3 := cnt_le x2 (mI u P 1).toNatClampNeg
        have bs := bc_set hm ((set_eq hm).mp b)
        have k8 : ∀ n, n < 8 → 0 ≤ Int32.ofNat n ∧ Int32.ofNat n < 40 ∧ (Int32.ofNat n).toNatClampNeg = n := by decide
        have k6 := k8 (cnt x2 x.toNatClampNeg) (by omega)
        have km0 : ∀ a, a < 8 → ∀ b, b < 8 → a < b → Int32.ofNat a < Int32.ofNat b := by decide
        have km : ∀ a b, a < 8 → b < 8 → a < b → Int32.ofNat a < Int32.ofNat b := fun a b p q => km0 a p b q
        have eS : spS v (50 + 2 * x4.toNatClampNeg) x6 a = pI v (51 + 2 * x4.toNatClampNeg) (cnt x2 x.toNatClampNeg) a := by
          unfold spS
          rw [hz, bs.2, h6, if_pos ⟨k6.1, km _ _ (by omega) (by omega) (by omega), by rw [(rL hr).2]; exact k6.2.1⟩, k6.2.2, show 50 + 2 * x4.toNatClampNeg + 1 = 51 + 2 * x4.toNatClampNeg by omega]
        have clv : Cl (qB ++ qR) u (spS v (50 + 2 * x4.toNatClampNeg) x6 a) := hl.cq (cq_spS Cq.rf (rL hr).1 (rM hr))
        rw [eS] at clv ⊢
        refine ih q _ _ S (by grind) (by grind) clv hR (fun n k n1 n2 n3 n4 => by rw [mI_ne n4]; exact hf n k n1 n2 n3 n4) (by rw [mI_ne (by omega)]; exact hz) hS hSb hE ?_ (fun s hs ts => ?_) (fun k hk hc' => ?_)
        · rw [sx, c1, h6]
          exact (show ∀ n, n < 8 → Int32.ofNat n + 1 = Int32.ofNat (n + 1) from by decide) _ (by omega)
        · rw [sx] at hs
          by_cases e2 : s = x.toNatClampNeg
          · rw [e2, mI_eq, ha, hS]
          · have c4 := cnt_mono x2 (s + 1) x.toNatClampNeg (by omega)
            have c5 : cnt x2 (s + 1) = cnt x2 s + 1 := by rw [cnt, ts]; rfl
            rw [mI_nk (by omega)]
            exact hlo s (by omega) ts
        · rw [sx, c1] at hc'
          rw [mI_nk (by omega)]
          exact hhi k hk (by omega)
      · have t : tb x2 x.toNatClampNeg = false := by
          cases z : tb x2 x.toNatClampNeg
          · rfl
          · exact absurd (it.mpr z) r
        have c1 : cnt x2 (x.toNatClampNeg + 1) = cnt x2 x.toNatClampNeg := by rw [cnt, t]; rfl
        refine ih q _ _ S (by grind) (by grind) hl hR hf hz hS hSb hE (by rw [sx, c1]; exact h6) (fun s hs ts => ?_) (fun k hk hc' => hhi k hk (by rw [sx, c1] at hc'; exact hc'))
        rw [sx] at hs
        by_cases e2 : s = x.toNatClampNeg
        · rw [e2, t] at ts; exact absurd ts (by decide)
        · exact hlo s (by omega) ts
  -- the weeks, looked at one by one
  have l63 : ∀ x v, 0 ≤ x → x ≤ x3 + 1 → Cq (qB ++ qR) u v → (∀ n k, n ≠ 10 → n ≠ 11 → mI v n k = mI u n k) → mI v 10 0 = mI u 7 0 + x → mI v 10 1 = mI u 7 1 → (∀ s, s < (mI u P 1).toNatClampNeg → mI v 11 s = dwC u x.toNatClampNeg s) → mL v 20 0 = 0 → (∀ i, i < 128 → 0 ≤ (mL v 19 i).toInt) → (∀ p, ¬ p = 0 → Sub p x2 → tiP (fun w r => IsR (mI u P 0) (farP (mI u P 0) (dwC u w) x1) (mI u P 1).toNatClampNeg p r) p x.toNatClampNeg (T19 v p)) → Ws G D_errands 63 [(0, .ref 2), (1, .int x1), (2, .int x2), (3, .int x3), (4, .int x4), (5, .int x)] [] v (RI fun a u' => Cl (qB ++ qR) u u' ∧ erQ u u' a x1 x2 x3 x4) := by
    refine upI (x3 + 1) _ (fun x ih v h0 hx hq hf w0 w1 hd hz hnn hT => ?_)
    have hRv : mR v 2 10 = P := by rw [hq.2.1]; exact hpp
    have pn := pl_st k10 ko
    refine sg_D_errands_63 ⟨fun q => ?_, fun q hp' => ?_⟩
    · have ex : x = x3 + 1 := Int32.le_antisymm hx (by clear ih hT; grind)
      rw [ex, eW] at hT
      have bd : ∀ w p r, IsR (mI u P 0) (farP (mI u P 0) (dwC u w) x1) (mI u P 1).toNatClampNeg p r → w ≤ 30 → 0 ≤ r.toInt * 34359738368 + cod p (fun _ => (w : Int)) ∧ r.toInt * 34359738368 + cod p (fun _ => (w : Int)) ≤ 1125899906842624 := fun w p r hr hw => by
        have cb := cod_b (p := p) (G := fun _ => (w : Int)) (fun _ _ _ => ⟨by omega, by omega⟩)
        have a1 := Int32.le_iff_toInt_le.mp hr.1.1
        have a2 := Int32.le_iff_toInt_le.mp (Int32.le_trans hr.1.2 hn.2)
        have d0 : (0 : Int32).toInt = 0 := by decide
        have d30 : (30 : Int32).toInt = 30 := by decide
        omega
      have w30 : x3.toNatClampNeg ≤ 30 := by have := tn_le x330; have e : (30 : Int32).toNatClampNeg = 30 := (by decide); omega
      have hT2 : ∀ p, ¬ p = 0 → Sub p x2 → (∀ w, w ≤ x3.toNatClampNeg → ∃ r, IsR (mI u P 0) (farP (mI u P 0) (dwC u w) x1) (mI u P 1).toNatClampNeg p r ∧ T19 v p ≤ r.toInt * 34359738368 + cod p (fun _ => (w : Int))) ∧ ∃ w, w ≤ x3.toNatClampNeg ∧ ∃ r, IsR (mI u P 0) (farP (mI u P 0) (dwC u w) x1) (mI u P 1).toNatClampNeg p r ∧ T19 v p = r.toInt * 34359738368 + cod p (fun _ => (w : Int)) := fun p p0 ps => by
        have t := hT p p0 ps
        refine ⟨fun w hw => t.1 w (by omega), ?_⟩
        rcases t.2 with y | ⟨w, hw, r, y⟩
        · obtain ⟨r, r1, r2⟩ := t.1 0 (by omega)
          have := bd 0 p r r1 (by omega)
          omega
        · exact ⟨w, by omega, r, y⟩
      have hTb : ∀ p, ¬ p = 0 → Sub p x2 → 0 ≤ T19 v p ∧ T19 v p ≤ 1125899906842624 := fun p p0 ps => by
        obtain ⟨w, hw, r, r1, r2⟩ := (hT2 p p0 ps).2
        rw [r2]
        exact bd w p r r1 (by omega)
      refine kV (c_sharex (L := qB ++ qR) (by decide) x20 hTb hz x2b) (fun v2 h2 => ?_)
      obtain ⟨q2, lj, s0, sb, sp⟩ := h2
      have hE := erS_of (n := mI u P 0) (m := (mI u P 1).toNatClampNeg) (set := x2) (d := x1) (weeks := x3) (dr := dwC u) (S := S20 v2) (T := T19 v) hn.2 s0 sp hT2
      rw [er]
      have i2 := ((hq.tr q2).cl hC).1
      refine kV (c_renewy (u := v2) hr i2) (fun v3 h3 => ?_)
      obtain ⟨c3, ml3, mr3, z3, f3, g3⟩ := h3
      have z0 : (0 : Int32).toNatClampNeg = 0 := by decide
      have c0 : cnt x2 (0 : Int32).toNatClampNeg = 0 := by rw [z0]; rfl
      refine l138 0 v3 0 (S20 v2 x2) (by decide) hm.1 (((hq.tr q2).cl hC).tr c3) (by rw [mr3, q2.2.1]; exact hRv) (fun n k n1 n2 n3 n4 => ?_) z3 (by unfold S20; rw [ml3]) (sb x2 (fun _ _ z => z)) hE (by rw [c0]; rfl) (fun s hs => by omega) (fun k hk _ => f3 k hk)
      rw [g3 n k n3 n4, lj.1]
      exact hf n k n1 n2
    · rw [hRv]
      have cx : ¬ x3 + 1 ≤ x := by clear ih hT; grind
      have xx3 := Int32.not_lt.mp q
      have e0 : mI v P 0 = mI u P 0 := hf _ _ pn.1.1 pn.1.2
      have e1 : mI v P 1 = mI u P 1 := hf _ _ pn.1.1 pn.1.2
      have d0 : (0 : Int32).toInt = 0 := by decide
      refine kV (c_lookx (u := v) (L := qB ++ qR) ko k10 (by decide) (by rw [e0]; exact hn) (by rw [e1]; exact hm) ⟨hc.1.1, by have := hc.1.2; clear ih hT; grind⟩ (fun s hs => ?_) ⟨h0, Int32.le_trans xx3 x330⟩ hnn) (fun v2 h2 => ?_)
      · rw [e1] at hs
        show 0 ≤ mI v 11 s ∧ mI v 11 s < 100
        rw [hd s hs]
        have := drg x.toNatClampNeg s hs
        exact ⟨this.1, Int32.lt_trans this.2 (by decide)⟩
      · obtain ⟨q2, lj, nn2, lk⟩ := h2
        intro hp2
        rw [q2.2.1, hRv]
        have fv2 : ∀ n k, n ≠ 10 → n ≠ 10 + 1 → mI v2 n k = mI u n k := fun n k n1 n2 => by rw [lj.1]; exact hf n k n1 n2
        have K2 : PlK v2 P := hK.cg k10 ko fv2
        refine kV (c_passx (L := qB ++ qR) k10 (by decide) ko (by decide) K2) (fun v3 h3 => ?_)
        obtain ⟨q3, f3, a3, b3, d3, ml3⟩ := h3
        have xi : x.toInt = (x.toNatClampNeg : Int) := by
          have := Int32.le_iff_toInt_le.mp h0
          show x.toInt = (x.toInt.toNat : Int)
          omega
        rw [shF_cg k10 ko fv2, ordF_cg k10 ko fv2, fv2 _ _ pn.1.1 pn.1.2, fv2 _ _ pn.1.1 pn.1.2] at d3
        have o1 : (1 : Int32).toNatClampNeg = 1 := by decide
        refine ih cx _ (by clear ih hT; grind) (by clear ih hT; grind) ((hq.tr q2).tr q3) (fun n k n1 n2 => (f3 n k n1 n2).trans (fv2 n k n1 n2)) ?_ ?_ (fun s hs => ?_) ?_ ?_ (fun p p0 ps => ?_)
        · rw [a3, lj.1, w0]; clear ih hT; grind
        · rw [b3, lj.1, w1]
        · rw [show mI v3 11 s = mI v3 (10 + 1) s from rfl, d3, o1, pws, tn_succ h0 cx, eDw, pws]
          rw [lj.1, w0, w1, show mI u 7 0 + x + Int32.ofNat 0 = mI u 7 0 + Int32.ofNat x.toNatClampNeg by rw [i32_nat h0]; clear ih hT; grind]
          refine pwk_cg ordb (fun s hs => ?_) s hs
          show mI v 11 s = _
          rw [hd s hs, eDw]
        · rw [ml3, lj.2 _ _ (by decide)]; exact hz
        · intro i hi; rw [ml3]; exact nn2 i hi
        · have pn2 := (ps.nn x20)
          have ppos : 0 < p := by
            rcases Int32.lt_or_eq_of_le pn2.1 with z | z
            · exact z
            · exact absurd z.symm p0
          have t := lk p ppos (Int32.lt_of_le_of_lt pn2.2 x2b) ps
          rw [xi] at t
          rw [tn_succ h0 cx]
          have eT : T19 v3 p = T19 v2 p := by unfold T19; rw [ml3]
          rw [eT]
          refine (hT p p0 ps).up ?_
          obtain ⟨r, hr', mm⟩ := t
          refine ⟨r, ?_, mm⟩
          rw [e0, e1] at hr'
          exact hr'.cg (farP_cg (fun s hs => (hd s hs).symm))
  refine kV (c_beginx (L := qB ++ qR) (by decide)) (fun v0 h0 => ?_)
  obtain ⟨q0, mi0, t0, z0⟩ := h0
  have zz : (0 : Int32).toNatClampNeg = 0 := by decide
  refine l63 0 (snB v0 10 7) (by decide) (by grind) (cq_snB q0 (by decide) (by decide)) (fun n k n1 n2 => by rw [snB_f n1 n2, mi0]) (by rw [snB_0, mi0]; grind) (by rw [snB_1 (by decide), mi0]) (fun s hs => ?_) z0 (fun i hi => ?_) (fun p p0 ps => ?_)
  · rw [show mI (snB v0 10 7) 11 s = mI (snB v0 10 7) (10 + 1) s from rfl, snB_d (by decide) (by omega), mi0, zz, eDw]; rfl
  · show 0 ≤ (mL v0 19 i).toInt
    rw [t0 i hi]; decide
  · have pn2 := ps.nn x20
    have e : T19 (snB v0 10 7) p = 1152921504606846976 := by
      show (mL v0 19 p.toNatClampNeg).toInt = _
      rw [t0 _ (ixn (n := 128) pn2.1 (Int32.lt_of_le_of_lt pn2.2 x2b) (by decide))]; decide
    rw [zz, e]
    exact ⟨fun w hw => by omega, .inl rfl⟩
end ERD
