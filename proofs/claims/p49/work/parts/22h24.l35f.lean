/-! ===== the reference's rows and errands, whole ===== -/
def rmK (u u' : pM) : Prop := ∀ r, r < 6 → mI u' 78 r = mI u 78 r ∧ ∀ k, k < 40 → mI u' 79 (40 * r + k) = mI u 79 (40 * r + k)
def rmS (u u' : pM) (r : Nat) (y : Int32) (f : Nat → Int32) : Prop := mI u' 78 r = y ∧ (∀ k, k < 40 → mI u' 79 (40 * r + k) = f k) ∧ ∀ q, q < 6 → q ≠ r → mI u' 78 q = mI u 78 q ∧ ∀ k, k < 40 → mI u' 79 (40 * q + k) = mI u 79 (40 * q + k)
theorem rmK.fp {L : List Nat} {u u' : pM} (h : Fp L u u') (hL : 78 ∉ L ∧ 79 ∉ L) : rmK u u' := fun r _ => ⟨h.1 78 r (by rw [cd_n (by decide)]; exact hL.1), fun k _ => h.1 79 _ (by rw [cd_n (by decide)]; exact hL.2)⟩
theorem rmS.pre {u v w : pM} {r : Nat} {y : Int32} {f : Nat → Int32} (h : rmS v w r y f) (e : rmK u v) : rmS u w r y f := ⟨h.1, h.2.1, fun q hq ne => ⟨((h.2.2 q hq ne).1).trans (e q hq).1, fun k hk => ((h.2.2 q hq ne).2 k hk).trans ((e q hq).2 k hk)⟩⟩
theorem ix40 {r x : Int32} (hr : 0 ≤ r ∧ r ≤ 5) (hx : 0 ≤ x ∧ x < 40) : (40 * r + x : Int32).toNatClampNeg = 40 * r.toNatClampNeg + x.toNatClampNeg := by
  have a := Int32.le_iff_toInt_le.mp hr.1
  have b := Int32.le_iff_toInt_le.mp hr.2
  have c := Int32.le_iff_toInt_le.mp hx.1
  have d := Int32.lt_iff_toInt_lt.mp hx.2
  have d0 : (0 : Int32).toInt = 0 := by decide
  have d1 : (5 : Int32).toInt = 5 := by decide
  have d2 : (40 : Int32).toInt = 40 := by decide
  show (40 * r + x).toInt.toNat = 40 * r.toInt.toNat + x.toInt.toNat
  rw [Int32.toInt_add, Int32.toInt_mul, d2, Int.bmod_eq_of_le (n := 40 * r.toInt) (by omega) (by omega), Int.bmod_eq_of_le (by omega) (by omega)]
  omega
theorem set_m {m x : Int32} (h : 0 ≤ m ∧ m ≤ 7) (hx : 0 ≤ x ∧ x ≤ (1 <<< (m &&& 31)) - 1) : ∀ s, s < 7 → tb x s = true → s < m.toNatClampNeg := by
  have k := set_pw h
  have a := Int32.le_iff_toInt_le.mp hx.1
  have b := Int32.le_iff_toInt_le.mp hx.2
  have c := Int32.lt_iff_toInt_lt.mp (set128 h hx.2)
  have d : (128 : Int32).toInt = 128 := by decide
  have z : (0 : Int32).toInt = 0 := by decide
  have e : x.toNatClampNeg = x.toInt.toNat := rfl
  rw [k.2] at b
  have K := (show ∀ m, m < 8 → ∀ n, n < 128 → n < 2 ^ m → ∀ s, s < 7 → tb (Int32.ofNat n) s = true → s < m from by decide +kernel) m.toNatClampNeg k.1 x.toNatClampNeg (by omega) (by omega)
  rw [i32_nat hx.1] at K
  exact K
theorem mayF_cg {F F' : Nat → Int32} {m : Nat} (h : ∀ t, t < m → F' t = F t) : mayF F' m = mayF F m := by
  funext p w
  unfold mayF
  apply decide_eq_decide.mpr
  constructor
  · intro q t ht z; rw [← h t ht]; exact q t ht z
  · intro q t ht z; rw [h t ht]; exact q t ht z
def dwM (u : pM) (ord : Nat → Nat) (w : Nat) : Nat → Int32 := pws (mI u 76 10) (mI u 76 18) (mI u 76 19) (shM u) ord (mI u 76 11).toNatClampNeg (mI u 84) w
/-- the weeks F are the first ones for the least walking -/
def erF (R : Nat → Int32) (m : Nat) (set weeks least : Int32) (F : Nat → Int32) : Prop := tab R (mayF (fun _ => -9) m) set weeks (weeks.toNatClampNeg + 1) set.toNatClampNeg = least ∧ tab R (mayF F m) set weeks (weeks.toNatClampNeg + 1) set.toNatClampNeg = least ∧ (∀ s, s < 7 → tb set s = true → 0 ≤ F s ∧ F s ≤ weeks) ∧ ∀ s, s < 7 → tb set s = true → ∀ x, 0 ≤ x → x < F s → ¬ tab R (mayF (preF set F s x) m) set weeks (weeks.toNatClampNeg + 1) set.toNatClampNeg = least
def emQ (u u' : pM) (a x1 x2 x3 x4 : Int32) : Prop := (¬ ermC (mI u 76 10) (mI u 76 11) x1 x2 x3 x4 ∧ a = -1 ∧ rmK u u') ∨ (ermC (mI u 76 10) (mI u 76 11) x1 x2 x3 x4 ∧ ((∃ ord, OrdP (shM u) (mI u 76 11).toNatClampNeg ord) → ∃ (ord : Nat → Nat) (f R F : Nat → Int32), OrdP (shM u) (mI u 76 11).toNatClampNeg ord ∧ rmS u u' x4.toNatClampNeg (Int32.ofNat (cnt x2 (mI u 76 11).toNatClampNeg)) f ∧ rOK R ∧ rdQ (mI u 76 10) (mI u 76 11).toNatClampNeg x2 x1 (dwM u ord) x3.toNatClampNeg R ∧ erF R (mI u 76 11).toNatClampNeg x2 x3 a F ∧ rowE x2 (mI u 76 11).toNatClampNeg (fun s => (F s).toInt) f))
theorem InvM.nd {u : pM} (h : InvM u) (h0 : ¬ mI u 76 10 = 0) : 10 ≤ mI u 76 10 ∧ mI u 76 10 ≤ 30 := by
  rcases h.2.1 with z | z
  · exact absurd z.1 h0
  · exact ⟨z.1, z.2.1⟩
section ERM
variable {G : pG} {u : pM}
theorem e_rowy {x1 x2 : Int32} (a : 0 ≤ x1 ∧ x1 ≤ 5) (b : x2 ≤ 40) (c : 0 ≤ x2) : Ws G m_row 0 [(0, .ref 76), (1, .int x1), (2, .int x2)] [] u (RI fun r u' => r = x2 ∧ Mq (mB ++ mRw) u u' ∧ (∀ n k, n ≠ 78 → n ≠ 79 → mI u' n k = mI u n k) ∧ rmS u u' x1.toNatClampNeg x2 (fun _ => 0)) := by
  have rN : x1.toNatClampNeg ≤ 5 := by have := tn_le a.2; have e : (5 : Int32).toNatClampNeg = 5 := (by decide); omega
  refine sg_m_row_0 ⟨fun _ => ⟨fun _ => ⟨fun _ => ?_, fun z => absurd c z⟩, fun z => absurd b z⟩, fun z => absurd a z⟩
  have key : ∀ x v, 0 ≤ x → Mq (mB ++ mRw) u v → (∀ n k, n ≠ 78 → n ≠ 79 → mI v n k = mI u n k) → mI v 78 x1.toNatClampNeg = x2 → (∀ q, q ≠ x1.toNatClampNeg → mI v 78 q = mI u 78 q) → (∀ k, k < x.toNatClampNeg → k < 40 → mI v 79 (40 * x1.toNatClampNeg + k) = 0) → (∀ j, j < 40 * x1.toNatClampNeg ∨ 40 * x1.toNatClampNeg + 40 ≤ j → mI v 79 j = mI u 79 j) → Ws G m_row 34 [(0, .ref 76), (1, .int x1), (2, .int x2), (3, .int x)] [] v (RI fun r u' => r = x2 ∧ Mq (mB ++ mRw) u u' ∧ (∀ n k, n ≠ 78 → n ≠ 79 → mI u' n k = mI u n k) ∧ rmS u u' x1.toNatClampNeg x2 (fun _ => 0)) := by
    refine upI 40 _ (fun x ih v h0 hq hf hs ho hz hr => ?_)
    refine sg_m_row_34 ⟨fun q => ⟨_, rfl, rfl, hq, hf, hs, fun k hk => hz k (by have := tn_le q; have e : (40 : Int32).toNatClampNeg = 40 := (by decide); omega) hk, fun q' hq' ne => ⟨ho q' ne, fun k hk => hr _ (by omega)⟩⟩, fun d => ?_⟩
    have x40 := Int32.not_le.mp d
    have xN : x.toNatClampNeg < 40 := ixn (n := 40) h0 x40 (by decide)
    have ix := ix40 a ⟨h0, x40⟩
    refine ⟨vin (by grind) (show (_ : Int32) < 240 by grind) (by decide), ih d _ (by grind) (hq.pA (by decide)) (fun n k n1 n2 => by rw [mI_ne n2]; exact hf n k n1 n2) (by rw [mI_ne (by decide)]; exact hs) (fun q hq' => by rw [mI_ne (by decide)]; exact ho q hq') (fun k hk h40 => ?_) (fun j hj => ?_)⟩
    · rw [tn_succ h0 d] at hk
      rw [ix]
      by_cases e : k = x.toNatClampNeg
      · rw [e, mI_eq]
      · rw [mI_nk (by omega)]; exact hz k (by omega) h40
    · rw [ix, mI_nk (by omega)]; exact hr j hj
  have z0 : (0 : Int32).toNatClampNeg = 0 := by decide
  exact ⟨vin a.1 (show (_ : Int32) < 6 by grind) (by decide), key 0 _ (by decide) (Mq.rf.p78 b) (fun n k n1 _ => mI_ne n1) mI_eq (fun q hq => mI_nk hq) (fun k hk => by omega) (fun j _ => mI_ne (by decide))⟩
theorem e_errandsy {x1 x2 x3 x4 : Int32} (hM : InvM u) : Ws G m_errands 0 [(0, .ref 76), (1, .int x1), (2, .int x2), (3, .int x3), (4, .int x4)] [] u (RI fun a u' => Mo (mB ++ mRw) u u' ∧ emQ u u' a x1 x2 x3 x4) := by
  have m7 := hM.m7
  by_cases hc : ermC (mI u 76 10) (mI u 76 11) x1 x2 x3 x4
  rotate_left
  · have no : (RI fun a u' => Mo (mB ++ mRw) u u' ∧ emQ u u' a x1 x2 x3 x4) (some (.int (-1))) u := ⟨_, rfl, Mo.rf hM, .inl ⟨hc, rfl, fun _ _ => ⟨rfl, fun _ _ => rfl⟩⟩⟩
    exact sg_m_errands_0 ⟨fun a => ⟨fun b => ⟨fun c => ⟨fun d => absurd ⟨a, b, c, d⟩ hc, fun _ => no⟩, fun _ => no⟩, fun _ => no⟩, fun _ => no⟩
  by_cases hO : ∃ ord, OrdP (shM u) (mI u 76 11).toNatClampNeg ord
  rotate_left
  · exact kI (e_errands hM) (fun a v h => ⟨h, .inr ⟨hc, fun q => absurd q hO⟩⟩)
  obtain ⟨ord, ho⟩ := hO
  obtain ⟨b1, b2, b3, b4⟩ := id hc
  have s1 : x2 < 128 := set128 m7 b2.2
  have z0 : (0 : Int32).toNatClampNeg = 0 := by decide
  have m7N : (mI u 76 11).toNatClampNeg ≤ 7 := by have := tn_le m7.2; have e : (7 : Int32).toNatClampNeg = 7 := (by decide); omega
  have hsm := set_m m7 b2
  have w30 : x3.toNatClampNeg ≤ 30 := by have := tn_le b3.2; have e : (30 : Int32).toNatClampNeg = 30 := (by decide); omega
  have hn : 10 ≤ mI u 76 10 ∧ mI u 76 10 ≤ 30 := hM.nd (fun z => by rw [z] at b1; exact absurd (Int32.le_trans b1.1 b1.2) (by decide))
  have r5 : x4.toNatClampNeg ≤ 5 := by have := tn_le b4.2; have e : (5 : Int32).toNatClampNeg = 5 := (by decide); omega
  generalize hmm : (mI u 76 11).toNatClampNeg = m at *
  -- the row
  have l235 : ∀ x (x5 x6 : Int32) v (R F f0 : Nat → Int32), 0 ≤ x → x ≤ mI u 76 11 → Mq (mB ++ mRw) u v → mI v 91 = F → x6 = Int32.ofNat (cnt x2 x.toNatClampNeg) → rmS u v x4.toNatClampNeg (Int32.ofNat (cnt x2 m)) f0 → (∀ s, s < x.toNatClampNeg → tb x2 s = true → (f0 (cnt x2 s)).toInt = (F s).toInt) → (∀ k, k < 40 → cnt x2 x.toNatClampNeg ≤ k → f0 k = 0) → rOK R → rdQ (mI u 76 10) m x2 x1 (dwM u ord) x3.toNatClampNeg R → erF R m x2 x3 x5 F → Ws G m_errands 235 [(0, .ref 76), (2, .int x2), (4, .int x4), (5, .int x5), (6, .int x6), (7, .int x)] [] v (RI fun a u' => Mo (mB ++ mRw) u u' ∧ emQ u u' a x1 x2 x3 x4) := by
    refine upI (mI u 76 11) _ (fun x ih x5 x6 v R F f0 h0 hx hq h91 h6 hS hlo hhi hRk hRd hE => ?_)
    have e11 := hq.m
    refine sg_m_errands_235 ⟨fun c => ⟨_, rfl, hq.mo hM, .inr ⟨hc, fun _ => ⟨ord, f0, R, F, by rw [hmm]; exact ho, by rw [hmm]; exact hS, hRk, by rw [hmm]; exact hRd, by rw [hmm]; exact hE, ?_⟩⟩⟩, fun c => ?_⟩
    · rw [e11] at c
      have ex := Int32.le_antisymm hx c
      rw [ex, hmm] at hlo hhi
      rw [hmm]
      exact ⟨hlo, hhi⟩
    rw [e11] at c
    have xm := Int32.not_le.mp c
    have x7 : x < 7 := Int32.lt_of_lt_of_le xm m7.2
    have sx := tn_succ h0 c
    have xN := tn_lt h0 xm
    rw [hmm] at xN
    refine ⟨fun t => ?_, fun t => ?_⟩
    · have tf := tb_n h0 (Int32.lt_trans x7 (by decide)) t
      have c1 : cnt x2 (x.toNatClampNeg + 1) = cnt x2 x.toNatClampNeg := by rw [cnt, tf]; rfl
      refine ih c _ _ _ R F f0 (by grind) (by grind) hq h91 (by rw [sx, c1]; exact h6) hS (fun s hs ts => ?_) (fun k hk hk2 => hhi k hk (by rw [sx, c1] at hk2; exact hk2)) hRk hRd hE
      rw [sx] at hs
      by_cases e : s = x.toNatClampNeg
      · rw [e, tf] at ts; exact absurd ts (by decide)
      · exact hlo s (by omega) ts
    · have tt := (tbx h0 (Int32.lt_trans x7 (by decide))).mp t
      have c1 : cnt x2 (x.toNatClampNeg + 1) = cnt x2 x.toNatClampNeg + 1 := by rw [cnt, tt]; rfl
      have c2 := cnt_mono x2 (x.toNatClampNeg + 1) m (by omega)
      have c3 := cnt_le x2 m
      have k8 := (show ∀ n, n < 8 → 0 ≤ Int32.ofNat n ∧ Int32.ofNat n < 40 ∧ (Int32.ofNat n).toNatClampNeg = n ∧ Int32.ofNat n + 1 = Int32.ofNat (n + 1) from by decide) (cnt x2 x.toNatClampNeg) (by omega)
      have ix := ix40 (r := x4) (x := x6) b4 (by rw [h6]; exact ⟨k8.1, k8.2.1⟩)
      rw [h6, k8.2.2.1] at ix
      refine ⟨vin h0 (show (_ : Int32) < 7 by exact x7) (by decide), vin (by rw [h6]; have := k8.1; have := k8.2.1; grind) (show (_ : Int32) < 240 by rw [h6]; have := k8.1; have := k8.2.1; grind) (by decide), ?_⟩
      rw [h6, ix, h91]
      refine ih c _ _ _ R F (fun k => if k = cnt x2 x.toNatClampNeg then F x.toNatClampNeg else f0 k) (by grind) (by grind) (hq.pA (by decide)) (by funext k; rw [mI_ne (by decide), h91]) (by rw [sx, c1]; exact k8.2.2.2) ⟨by rw [mI_ne (by decide)]; exact hS.1, fun k hk => ?_, fun q hq' ne => ⟨by rw [mI_ne (by decide)]; exact (hS.2.2 q hq' ne).1, fun k hk => by rw [mI_nk (by omega)]; exact (hS.2.2 q hq' ne).2 k hk⟩⟩ (fun s hs ts => ?_) (fun k hk hk2 => ?_) hRk hRd hE
      · show _ = if k = cnt x2 x.toNatClampNeg then _ else _
        by_cases e : k = cnt x2 x.toNatClampNeg
        · rw [if_pos e, e, mI_eq]
        · rw [if_neg e, mI_nk (by omega)]; exact hS.2.1 k hk
      · rw [sx] at hs
        show ((if cnt x2 s = cnt x2 x.toNatClampNeg then _ else _ : Int32)).toInt = _
        by_cases e : s = x.toNatClampNeg
        · rw [if_pos (by rw [e]), e]
        · have c4 := cnt_mono x2 (s + 1) x.toNatClampNeg (by omega)
          have c5 : cnt x2 (s + 1) = cnt x2 s + 1 := by rw [cnt, ts]; rfl
          rw [if_neg (by omega)]
          exact hlo s (by omega) ts
      · rw [sx, c1] at hk2
        show (if k = cnt x2 x.toNatClampNeg then _ else _) = _
        rw [if_neg (by omega)]
        exact hhi k hk (by omega)
  -- the weeks, one shop behind the other
  have l159 : ∀ x (x5 x6 : Int32) v (R : Nat → Int32), 0 ≤ x → x ≤ mI u 76 11 → Mq mB u v → mI v 88 = R → x6 = Int32.ofNat (cnt x2 x.toNatClampNeg) → (∀ k, k < 7 → (x.toNatClampNeg ≤ k ∨ tb x2 k = false) → mI v 91 k = -9) → tab R (mayF (mI v 91) m) x2 x3 (x3.toNatClampNeg + 1) x2.toNatClampNeg = x5 → tab R (mayF (fun _ => -9) m) x2 x3 (x3.toNatClampNeg + 1) x2.toNatClampNeg = x5 → (∀ s, s < x.toNatClampNeg → tb x2 s = true → (0 ≤ mI v 91 s ∧ mI v 91 s ≤ x3) ∧ ∀ y, 0 ≤ y → y < mI v 91 s → ¬ tab R (mayF (preF x2 (mI v 91) s y) m) x2 x3 (x3.toNatClampNeg + 1) x2.toNatClampNeg = x5) → rOK R → rdQ (mI u 76 10) m x2 x1 (dwM u ord) x3.toNatClampNeg R → Ws G m_errands 159 [(0, .ref 76), (2, .int x2), (3, .int x3), (4, .int x4), (5, .int x5), (6, .int x6), (7, .int x)] [] v (RI fun a u' => Mo (mB ++ mRw) u u' ∧ emQ u u' a x1 x2 x3 x4) := by
    refine upI (mI u 76 11) _ (fun x ih x5 x6 v R h0 hx hq h88 h6 hF hT hT0 hG hRk hRd => ?_)
    have e11 := hq.m
    have xNm := tn_le hx
    rw [hmm] at xNm
    refine sg_m_errands_159 ⟨fun c => ?_, fun c => ?_⟩
    · rw [e11] at c
      have ex := Int32.le_antisymm hx c
      have c3 := cnt_le x2 m
      have e6 : x6 = Int32.ofNat (cnt x2 m) := by rw [h6, ex, hmm]
      have k8 := (show ∀ n, n < 8 → 0 ≤ Int32.ofNat n ∧ Int32.ofNat n ≤ 40 from by decide) (cnt x2 m) (by omega)
      rw [e6]
      refine kI (e_rowy b4 k8.2 k8.1) (fun a v' h => ?_)
      obtain ⟨_, q', f', s'⟩ := h
      have e91 : mI v' 91 = mI v 91 := by funext k; exact f' _ _ (by decide) (by decide)
      refine l235 0 _ _ v' R (mI v 91) (fun _ => 0) (by decide) m7.1 ((Mq.up (L := mB ++ mRw) hq).tr q') e91 (by rw [z0]; rfl) (s'.pre (rmK.fp hq.fp (by decide))) (fun s hs => by omega) (fun _ _ _ => rfl) hRk hRd ⟨hT0, hT, fun s h7 ts => (hG s (by rw [ex, hmm]; exact hsm s h7 ts) ts).1, fun s h7 ts => (hG s (by rw [ex, hmm]; exact hsm s h7 ts) ts).2⟩
    rw [e11] at c
    have sx := tn_succ h0 c
    have xm := Int32.not_le.mp c
    have xN := tn_lt h0 xm
    rw [hmm] at xN
    have x7 : x < 7 := Int32.lt_of_lt_of_le xm m7.2
    have v7 : vp_in x 7 := vin h0 (show (_ : Int32) < 7 by exact x7) (by decide)
    refine ⟨fun t => ?_, fun t => ⟨v7, ?_⟩⟩
    · have tf := tb_n h0 (Int32.lt_trans x7 (by decide)) t
      have c1 : cnt x2 (x.toNatClampNeg + 1) = cnt x2 x.toNatClampNeg := by rw [cnt, tf]; rfl
      refine ih c _ _ _ R (by grind) (by grind) hq h88 (by rw [sx, c1]; exact h6) (fun k hk hk2 => ?_) hT hT0 (fun s hs ts => ?_) hRk hRd
      · rw [sx] at hk2
        by_cases e : k = x.toNatClampNeg
        · exact hF k hk (.inl (by omega))
        · exact hF k hk (by rcases hk2 with z | z; exact .inl (by omega); exact .inr z)
      · rw [sx] at hs
        by_cases e : s = x.toNatClampNeg
        · rw [e, tf] at ts; exact absurd ts (by decide)
        · exact hG s (by omega) ts
    have tt : tb x2 x.toNatClampNeg = true := (tbx h0 (Int32.lt_trans x7 (by decide))).mp t
    have c1 : cnt x2 (x.toNatClampNeg + 1) = cnt x2 x.toNatClampNeg + 1 := by rw [cnt, tt]; rfl
    have c2 := cnt_le x2 x.toNatClampNeg
    obtain ⟨X, X0, X1, hX⟩ := err_x (R := R) (F := mI v 91) (b := m) (s := x.toNatClampNeg) (by omega) b3.1 b2.1 s1 hRk (hF _ (by omega) (.inl (Nat.le_refl _))) tt
    rw [hT] at hX
    -- what the weeks so far, and y for this one, come to
    have ePre : ∀ y : Int32, mayF (preF x2 (mI v 91) x.toNatClampNeg y) m = mayF (fx (mI v 91) x.toNatClampNeg y) m := fun y => mayF_cg (fun q hq' => by
      unfold preF fx
      by_cases e : q = x.toNatClampNeg
      · rw [if_pos e, if_pos e]
      · rw [if_neg e, if_neg e]
        by_cases e2 : q < x.toNatClampNeg ∧ tb x2 q = true
        · rw [if_pos e2]
        · rw [if_neg e2]
          refine (hF q (by omega) ?_).symm
          rcases Nat.lt_or_ge q x.toNatClampNeg with z | z
          · right
            cases y2 : tb x2 q
            · rfl
            · exact absurd ⟨z, y2⟩ e2
          · exact .inl z)
    have l186 : ∀ y v', 0 ≤ y → y ≤ X → Mq mB u v' → mI v' 88 = R → mI v' 91 = fx (mI v 91) x.toNatClampNeg y → (∀ z, 0 ≤ z → z < y → ¬ tab R (mayF (fx (mI v 91) x.toNatClampNeg z) m) x2 x3 (x3.toNatClampNeg + 1) x2.toNatClampNeg = x5) → Ws G m_errands 186 [(0, .ref 76), (2, .int x2), (3, .int x3), (4, .int x4), (5, .int x5), (6, .int x6), (7, .int x)] [] v' (RI fun a u' => Mo (mB ++ mRw) u u' ∧ emQ u u' a x1 x2 x3 x4) := by
      refine upI X _ (fun y ihy v' y0 yX hq' h88' h91' hno => ?_)
      have Te : TT v' x2 x3 (x3.toNatClampNeg + 1) x2.toNatClampNeg = tab R (mayF (fx (mI v 91) x.toNatClampNeg y) m) x2 x3 (x3.toNatClampNeg + 1) x2.toNatClampNeg := by
        rw [TT, h88', h91', hq'.m, hmm]
      refine sg_m_errands_186 (kI (e_leastFor (hq'.inv hM) b2.1 s1 b3.1 b3.2) (fun a v'' h => ?_))
      obtain ⟨ea, lq⟩ := h
      have f88 : mI v'' 88 = mI v' 88 := fn2 lq.2.1
      have f91 : mI v'' 91 = mI v' 91 := fn2 lq.2.2
      have e91 : mI v'' 91 = fx (mI v 91) x.toNatClampNeg y := f91.trans h91'
      refine ⟨fun e => ?_, fun ne => ⟨v7, v7, ?_⟩⟩
      · refine ih c _ _ _ R (by grind) (by grind) (hq'.tr lq.1) (f88.trans h88') (by rw [sx, c1, h6]; exact (show ∀ n, n < 8 → Int32.ofNat n + 1 = Int32.ofNat (n + 1) from by decide) _ (by omega)) (fun k hk hk2 => ?_) ?_ hT0 (fun s hs ts => ?_) hRk hRd
        · rw [sx] at hk2
          have kx : k ≠ x.toNatClampNeg := by
            intro z
            rcases hk2 with q | q
            · omega
            · rw [z, tt] at q; exact absurd q (by decide)
          rw [e91, fx, if_neg kx]
          exact hF k hk (by rcases hk2 with z | z; exact .inl (by omega); exact .inr z)
        · rw [← e, ea, Te, e91]
        · rw [sx] at hs
          by_cases es : s = x.toNatClampNeg
          · have v1 : mI v'' 91 s = y := by rw [e91, fx, if_pos es]
            rw [v1]
            refine ⟨⟨y0, Int32.le_trans yX X1⟩, fun z z0' zy => ?_⟩
            have pe : mayF (preF x2 (mI v'' 91) s z) m = mayF (preF x2 (mI v 91) s z) m := mayF_cg (fun q _ => by
              unfold preF
              by_cases e1 : q = s
              · rw [if_pos e1, if_pos e1]
              · rw [if_neg e1, if_neg e1]
                by_cases e2 : q < s ∧ tb x2 q = true
                · rw [if_pos e2, if_pos e2, e91, fx, if_neg (by omega)]
                · rw [if_neg e2, if_neg e2])
            rw [pe, es, ePre]
            exact hno z z0' zy
          · have g := hG s (by omega) ts
            have v1 : mI v'' 91 s = mI v 91 s := by rw [e91, fx, if_neg es]
            rw [v1]
            refine ⟨g.1, fun z z0' zy => ?_⟩
            have pe : mayF (preF x2 (mI v'' 91) s z) m = mayF (preF x2 (mI v 91) s z) m := mayF_cg (fun q _ => by
              unfold preF
              by_cases e1 : q = s
              · rw [if_pos e1, if_pos e1]
              · rw [if_neg e1, if_neg e1]
                by_cases e2 : q < s ∧ tb x2 q = true
                · rw [if_pos e2, if_pos e2, e91, fx, if_neg (by omega)]
                · rw [if_neg e2, if_neg e2])
            rw [pe]
            exact g.2 z z0' zy
      · have neT : ¬ tab R (mayF (fx (mI v 91) x.toNatClampNeg y) m) x2 x3 (x3.toNatClampNeg + 1) x2.toNatClampNeg = x5 := fun z => ne (by rw [ea, Te, z])
        have nX : ¬ X ≤ y := by
          intro q
          have : y = X := Int32.le_antisymm yX q
          rw [this] at neT
          exact neT hX
        refine ihy nX _ (by grind) (by grind) ((hq'.tr lq.1).pA (by decide)) ?_ ?_ (fun z z0' zy => ?_)
        · funext k
          rw [mI_ne (by decide), f88, h88']
        · have ev : mI v'' 91 x.toNatClampNeg = y := by rw [e91, fx, if_pos rfl]
          rw [ev]
          exact fx_w e91
        · by_cases e : z = y
          · rw [e]; exact neT
          · exact hno z z0' (by clear ih ihy hno; grind)
    exact l186 0 _ (by decide) X0 (hq.pA (by decide)) (by funext k; rw [mI_ne (by decide), h88]) fx_w0 (fun z z1 z2 => absurd z2 (Int32.not_lt.mpr z1))
  have l123 : ∀ x v (R : Nat → Int32), 0 ≤ x → Mq mB u v → mI v 88 = R → (∀ k, k < x.toNatClampNeg → mI v 91 k = -9) → rOK R → rdQ (mI u 76 10) m x2 x1 (dwM u ord) x3.toNatClampNeg R → Ws G m_errands 123 [(0, .ref 76), (2, .int x2), (3, .int x3), (4, .int x4), (5, .int x)] [] v (RI fun a u' => Mo (mB ++ mRw) u u' ∧ emQ u u' a x1 x2 x3 x4) := by
    refine upI 7 _ (fun x ih v R h0 hq h88 hF hRk hRd => ?_)
    refine sg_m_errands_123 ⟨fun c => kI (e_leastFor (hq.inv hM) b2.1 s1 b3.1 b3.2) (fun a v' h => ?_), fun c => ?_⟩
    · obtain ⟨ea, lq⟩ := h
      have f88 : mI v' 88 = mI v 88 := fn2 lq.2.1
      have f91 : mI v' 91 = mI v 91 := fn2 lq.2.2
      have F9 : ∀ k, k < 7 → mI v' 91 k = -9 := fun k hk => by
        rw [f91]
        refine hF k ?_
        have l := tn_le c
        have : (7 : Int32).toNatClampNeg = 7 := by decide
        omega
      have e9 : mayF (mI v' 91) m = mayF (fun _ => -9) m := mayF_cg (fun t ht => F9 t (by omega))
      have e9' : mayF (mI v 91) m = mayF (fun _ => -9) m := by rw [← f91]; exact e9
      have ea' : tab R (mayF (fun _ => -9) m) x2 x3 (x3.toNatClampNeg + 1) x2.toNatClampNeg = a := by rw [ea, TT, h88, hq.m, hmm, e9']
      exact l159 0 _ _ v' R (by decide) m7.1 (hq.tr lq.1) (f88.trans h88) (by rw [z0]; rfl) (fun k hk _ => F9 k hk) (by rw [e9]; exact ea') ea' (fun s hs => by omega) hRk hRd
    · have sx := tn_succ h0 c
      refine ⟨vin h0 (show (_ : Int32) < 7 by grind) (by decide), ih c _ R (by grind) (hq.pA (by decide)) (by funext k; rw [mI_ne (by decide), h88]) (fun k hk => ?_) hRk hRd⟩
      by_cases e : k = x.toNatClampNeg
      · rw [e, mI_eq]
      · rw [mI_nk e]; exact hF k (by omega)
  have l43 : ∀ x v, 0 ≤ x → x ≤ x3 + 1 → Mq mB u v → (∀ n k, n ≠ 85 → n ≠ 86 → n ≠ 88 → mI v n k = mI u n k) → (∀ s, s < m → mI v 85 s = dwM u ord x.toNatClampNeg s) → (∀ w, w < x.toNatClampNeg → ∀ p, Sub p x2 → IsR (mI u 76 10) (farP (mI u 76 10) (dwM u ord w) x1) m p (mI v 88 (128 * w + p.toNatClampNeg))) → Ws G m_errands 43 [(0, .ref 76), (1, .int x1), (2, .int x2), (3, .int x3), (4, .int x4), (5, .int x)] [] v (RI fun a u' => Mo (mB ++ mRw) u u' ∧ emQ u u' a x1 x2 x3 x4) := by
    refine upI (x3 + 1) _ (fun x ih v h0 hx hq hf hd hR => ?_)
    refine sg_m_errands_43 ⟨fun c => ?_, fun c => ?_⟩
    · have ex : x = x3 + 1 := Int32.le_antisymm hx (by clear ih hR; grind)
      have eW : (x3 + 1).toNatClampNeg = x3.toNatClampNeg + 1 := tn_succ (b := 100) b3.1 (by clear ih hR; grind)
      rw [ex, eW] at hR
      exact l123 0 v (mI v 88) (by decide) hq rfl (fun k hk => by omega) (hq.inv hM).b88 (fun w hw p hp => hR w (by omega) p hp)
    have xx3 := Int32.not_lt.mp c
    have cx : ¬ x3 + 1 ≤ x := by clear ih hR; grind
    have xb : 0 ≤ x ∧ x ≤ 30 := ⟨h0, Int32.le_trans xx3 b3.2⟩
    have l52 : ∀ y v, 0 ≤ y → y ≤ x2 + 1 → Mq mB u v → (∀ n k, n ≠ 85 → n ≠ 86 → n ≠ 88 → mI v n k = mI u n k) → (∀ s, s < m → mI v 85 s = dwM u ord x.toNatClampNeg s) → (∀ w, w < x.toNatClampNeg → ∀ p, Sub p x2 → IsR (mI u 76 10) (farP (mI u 76 10) (dwM u ord w) x1) m p (mI v 88 (128 * w + p.toNatClampNeg))) → (∀ p, p < y → Sub p x2 → IsR (mI u 76 10) (farP (mI u 76 10) (dwM u ord x.toNatClampNeg) x1) m p (mI v 88 (128 * x.toNatClampNeg + p.toNatClampNeg))) → Ws G m_errands 52 [(0, .ref 76), (1, .int x1), (2, .int x2), (3, .int x3), (4, .int x4), (5, .int x), (6, .int y)] [] v (RI fun a u' => Mo (mB ++ mRw) u u' ∧ emQ u u' a x1 x2 x3 x4) := by
      refine upI (x2 + 1) _ (fun y ihy v y0 hy hq hf hd hR hP => ?_)
      have hi := hq.inv hM
      have eM : shM v = shM u := shM_cg (fun k => hf _ _ (by decide) (by decide) (by decide))
      refine sg_m_errands_52 ⟨fun c2 => ?_, fun c2 => ?_⟩
      · refine kV (e_passOnex (ord := ord) hi hi.2.2.2.1 (by rw [eM, hq.m, hmm]; exact ho)) (fun v' h => ?_)
        obtain ⟨q', f', d'⟩ := h
        rw [eM, hq.m, hmm, hq.n] at d'
        have e88 : ∀ k, mI v' 88 k = mI v 88 k := fun k => f' _ _ (by decide) (by decide)
        refine ih cx _ (by clear ih ihy hR hP; grind) (by clear ih ihy hR hP; grind) (hq.tr q') (fun n k n1 n2 n3 => (f' n k n1 n2).trans (hf n k n1 n2 n3)) (fun s hs => ?_) (fun w hw p hp => ?_)
        · rw [d' s, tn_succ h0 cx]
          have e1 : mI v 76 18 = mI u 76 18 := hf _ _ (by decide) (by decide) (by decide)
          have e2 : mI v 76 19 = mI u 76 19 := hf _ _ (by decide) (by decide) (by decide)
          have e3 : dwM u ord (x.toNatClampNeg + 1) = pwk (mI u 76 10) (mI u 76 18 + Int32.ofNat x.toNatClampNeg) (mI u 76 19) (shM u) ord m (dwM u ord x.toNatClampNeg) := by
            unfold dwM
            rw [pws, hmm]
          rw [e3, e1, e2, i32_nat h0]
          exact pwk_cg ho.1 hd s hs
        · rw [e88]
          rw [tn_succ h0 cx] at hw
          by_cases e : w = x.toNatClampNeg
          · rw [e]; exact hP p (Int32.lt_of_le_of_lt (hp.nn b2.1).2 c2) hp
          · exact hR w (by omega) p hp
      · have yx2 := Int32.not_lt.mp c2
        have cy : ¬ x2 + 1 ≤ y := by clear ih ihy hR hP; grind
        have y128 : y < 128 := Int32.lt_of_le_of_lt yx2 s1
        have yN : y.toNatClampNeg < 128 := ixn (n := 128) y0 y128 (by decide)
        have ix := ix128 xb ⟨y0, y128⟩
        have vx : vp_in (128 * x + y) 3968 := vin (by clear ih ihy hR hP; grind) (show (_ : Int32) < 3968 by clear ih ihy hR hP; grind) (by decide)
        have go : ∀ (a : Int32), (0 ≤ a ∧ a ≤ 16777216) → (Sub y x2 → IsR (mI u 76 10) (farP (mI u 76 10) (dwM u ord x.toNatClampNeg) x1) m y a) → Ws G m_errands 52 [(0, .ref 76), (1, .int x1), (2, .int x2), (3, .int x3), (4, .int x4), (5, .int x), (6, .int (y + 1))] [] (pI v 88 (128 * x + y : Int32).toNatClampNeg a) (RI fun a u' => Mo (mB ++ mRw) u u' ∧ emQ u u' a x1 x2 x3 x4) := fun a ab ha => by
          rw [ix]
          refine ihy cy _ (by clear ih ihy hR hP; grind) (by clear ih ihy hR hP; grind) (hq.p88 ab) (fun n k n1 n2 n3 => by rw [mI_ne n3]; exact hf n k n1 n2 n3) (fun s hs => by rw [mI_ne (by decide)]; exact hd s hs) (fun w hw p hp => ?_) (fun p py hp => ?_)
          · have pN : p.toNatClampNeg < 128 := ixn (n := 128) (hp.nn b2.1).1 (Int32.lt_of_le_of_lt (hp.nn b2.1).2 s1) (by decide)
            rw [mI_nk (by omega)]
            exact hR w hw p hp
          · by_cases e : p = y
            · rw [e, mI_eq]; exact ha (e ▸ hp)
            · have ne : p.toNatClampNeg ≠ y.toNatClampNeg := fun z => e (tn_inj (hp.nn b2.1).1 y0 z)
              rw [mI_nk (by omega)]
              exact hP p (by clear ih ihy hR hP; grind) hp
        refine ⟨fun d => ⟨vx, go _ (by decide) (fun hs => ?_)⟩, fun d => kI (e_roundOfx hi (by rw [hq.n]; exact hn) y0 y128) (fun a v' h => ?_)⟩
        · exfalso
          apply d
          refine b_ext (fun i hi => ?_)
          rw [tb_a, tb_x hi, tb_0]
          cases z : tb y i
          · rfl
          · rw [hs i hi z]; rfl
        · obtain ⟨rfl, h⟩ := h
          rw [hq.n, hq.m, hmm] at h
          exact ⟨vx, go a ⟨h.1.1, Int32.le_trans h.1.2 (Int32.le_trans hn.2 (by decide))⟩ (fun _ => h.cg (farP_cg (fun s hs => (hd s hs).symm)))⟩
    exact l52 0 v (by decide) (by clear ih hR l52; have := b2.1; grind) hq hf hd hR (fun p py hp => absurd (hp.nn b2.1).1 (Int32.not_le.mpr py))
  refine sg_m_errands_0 ⟨fun _ => ⟨fun _ => ⟨fun _ => ⟨fun _ => ?_, fun z => absurd b4 z⟩, fun z => absurd b3 z⟩, fun z => absurd b2 z⟩, fun z => absurd b1 z⟩
  refine kV (e_fromNowx hM) (fun v h => ?_)
  obtain ⟨q, f, d⟩ := h
  exact l43 0 v (by decide) (by have := b3.1; grind) q (fun n k n1 _ _ => f n k n1) (fun s hs => by rw [z0]; exact d s (by rw [hmm]; exact hs)) (fun w hw => by omega)
end ERM
