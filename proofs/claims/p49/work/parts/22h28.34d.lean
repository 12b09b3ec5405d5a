/-! ===== the standing: shut, open, go, keep, on; the diary ===== -/
def shutA (n s x : Int32) : Int32 × Int32 := if 0 ≤ x ∧ x < n then (if tb s x.toNatClampNeg = true then (-4, s) else if bcV s < 3 then (bcV (s ||| (1 <<< (x &&& 31))), s ||| (1 <<< (x &&& 31))) else (-2, s)) else (-1, s)
def openA (n s x : Int32) : Int32 × Int32 := if 0 ≤ x ∧ x < n then (if tb s x.toNatClampNeg = true then (bcV (s &&& ((1 <<< (x &&& 31)) ^^^ (-1))), s &&& ((1 <<< (x &&& 31)) ^^^ (-1))) else (-4, s)) else (-1, s)
def goK (n w x : Int32) : Prop := (0 ≤ x ∧ x ≤ 400) ∧ 0 < n ∧ w + x ≤ 100000
def goA (n w x : Int32) : Int32 := if 0 ≤ x ∧ x ≤ 400 then (if 0 < n then (if w + x ≤ 100000 then w + x else -6) else -4) else -1
theorem goA_k {n w x : Int32} (h : goK n w x) : goA n w x = w + x := by unfold goA; rw [if_pos h.1, if_pos h.2.1, if_pos h.2.2]
/-- the class's now is as it was but for what is SHUT -/
def nwS (u u' : pM) (s : Int32) : Prop := mI u' 7 0 = mI u 7 0 ∧ mI u' 7 1 = s ∧ ∀ k, mI u' 8 k = mI u 8 k
def nmS (u u' : pM) (s : Int32) : Prop := mI u' 76 18 = mI u 76 18 ∧ mI u' 76 19 = s ∧ ∀ k, mI u' 84 k = mI u 84 k
def noteK (n m sz x1 x2 x3 : Int32) : Prop := (0 ≤ x1 ∧ x1 ≤ 99) ∧ (0 ≤ x2 ∧ x2 < m) ∧ (0 ≤ x3 ∧ x3 < n) ∧ sz < 12
def noteA (n m sz x1 x2 x3 : Int32) : Int32 := if (0 ≤ x1 ∧ x1 ≤ 99) ∧ (0 ≤ x2 ∧ x2 < m) ∧ 0 ≤ x3 ∧ x3 < n then (if sz < 12 then sz else -2) else -1
def backA (sz x : Int32) : Int32 × Int32 := if 0 ≤ x ∧ x ≤ sz then (sz - x, x) else (-1, sz)
section NOW
variable {G : pG} {u : pM}
theorem d_shuty {x1 : Int32} (hC : InvC u) : Ws G D_shut 0 [(0, .ref 2), (1, .int x1)] [] u (RI fun a u' => Cl (qB ++ qN) u u' ∧ (shutA (mI u (mR u 2 10) 0) (mI u 7 1) x1).1 = a ∧ nwS u u' (shutA (mI u (mR u 2 10) 0) (mI u 7 1) x1).2) := by
  refine sg_D_shut_0 (fun hp => ?_)
  have n30 := hC.2 _ (pl_ok hp)
  have same : ∀ v : Int32, shutA (mI u (mR u 2 10) 0) (mI u 7 1) x1 = (v, mI u 7 1) → (RI fun a u' => Cl (qB ++ qN) u u' ∧ (shutA (mI u (mR u 2 10) 0) (mI u 7 1) x1).1 = a ∧ nwS u u' (shutA (mI u (mR u 2 10) 0) (mI u 7 1) x1).2) (some (.int v)) u := fun v e => ⟨_, rfl, Cl.rf hC, by rw [e], by rw [e]; exact ⟨rfl, rfl, fun _ => rfl⟩⟩
  refine ⟨fun a => ?_, fun a => same _ (by unfold shutA; rw [if_neg a])⟩
  have it := isI_tb (x := mI u 7 1) a.1 (show x1 < 31 by exact Int32.lt_of_lt_of_le a.2 (Int32.le_trans n30 (by decide)))
  refine ⟨fun b => same _ (by unfold shutA; rw [if_pos a, if_pos (it.mp b)]), fun b => ⟨fun c => ?_, fun c => same _ (by unfold shutA; rw [if_pos a, if_neg (fun z => b (it.mpr z)), if_neg c])⟩⟩
  have e : shutA (mI u (mR u 2 10) 0) (mI u 7 1) x1 = (bcV (mI u 7 1 ||| (1 <<< (x1 &&& 31))), mI u 7 1 ||| (1 <<< (x1 &&& 31))) := by unfold shutA; rw [if_pos a, if_neg (fun z => b (it.mpr z)), if_pos c]
  refine ⟨_, rfl, (Cq.rf.pI (wr_5 (n := 7) (by decide)) (by decide)).cl hC, by rw [e, mI_eq], ?_⟩
  rw [e]
  exact ⟨mI_nk (by decide), mI_eq, fun k => mI_ne (by decide)⟩
theorem d_openy {x1 : Int32} (hC : InvC u) : Ws G D_open 0 [(0, .ref 2), (1, .int x1)] [] u (RI fun a u' => Cl (qB ++ qN) u u' ∧ (openA (mI u (mR u 2 10) 0) (mI u 7 1) x1).1 = a ∧ nwS u u' (openA (mI u (mR u 2 10) 0) (mI u 7 1) x1).2) := by
  refine sg_D_open_0 (fun hp => ?_)
  have n30 := hC.2 _ (pl_ok hp)
  have same : ∀ v : Int32, openA (mI u (mR u 2 10) 0) (mI u 7 1) x1 = (v, mI u 7 1) → (RI fun a u' => Cl (qB ++ qN) u u' ∧ (openA (mI u (mR u 2 10) 0) (mI u 7 1) x1).1 = a ∧ nwS u u' (openA (mI u (mR u 2 10) 0) (mI u 7 1) x1).2) (some (.int v)) u := fun v e => ⟨_, rfl, Cl.rf hC, by rw [e], by rw [e]; exact ⟨rfl, rfl, fun _ => rfl⟩⟩
  refine ⟨fun a => ?_, fun a => same _ (by unfold openA; rw [if_neg a])⟩
  have it := isI_tb (x := mI u 7 1) a.1 (show x1 < 31 by exact Int32.lt_of_lt_of_le a.2 (Int32.le_trans n30 (by decide)))
  refine ⟨fun b => ?_, fun b => same _ (by unfold openA; rw [if_pos a, if_neg (fun z => b (it.mpr z))])⟩
  have e : openA (mI u (mR u 2 10) 0) (mI u 7 1) x1 = (bcV (mI u 7 1 &&& ((1 <<< (x1 &&& 31)) ^^^ (-1))), mI u 7 1 &&& ((1 <<< (x1 &&& 31)) ^^^ (-1))) := by unfold openA; rw [if_pos a, if_pos (it.mp b)]
  refine ⟨_, rfl, (Cq.rf.pI (wr_5 (n := 7) (by decide)) (by decide)).cl hC, by rw [e, mI_eq], ?_⟩
  rw [e]
  exact ⟨mI_nk (by decide), mI_eq, fun k => mI_ne (by decide)⟩
/-- bits of what is SHUT lie below n -/
def bnK (n s : Int32) : Prop := ∀ i, n.toNatClampNeg ≤ i → i < 32 → tb s i = false
theorem e_shutManyx (hM : InvM u) : Ws G m_shutMany 0 [(0, .ref 76)] [] u (RI fun a u' => u = u' ∧ a = Int32.ofNat (cnt (mI u 76 19) (mI u 76 10).toNatClampNeg)) := by
  have n30 := hM.n30
  have nN : (mI u 76 10).toNatClampNeg ≤ 30 := by have := tn_le n30.2; have e : (30 : Int32).toNatClampNeg = 30 := (by decide); omega
  have key : ∀ x (y : Int32), 0 ≤ x → x ≤ mI u 76 10 → y = Int32.ofNat (cnt (mI u 76 19) x.toNatClampNeg) → Ws G m_shutMany 4 [(0, .ref 76), (1, .int y), (2, .int x)] [] u (RI fun a u' => u = u' ∧ a = Int32.ofNat (cnt (mI u 76 19) (mI u 76 10).toNatClampNeg)) := by
    refine upI (mI u 76 10) _ (fun x ih y h0 hx hy => ?_)
    refine sg_m_shutMany_4 ⟨fun c => ⟨_, rfl, rfl, by rw [hy, Int32.le_antisymm hx c]⟩, fun c => ih c _ (by grind) (by grind) ?_⟩
    have x32 : x < 32 := by clear ih; grind
    have xN := tn_lt h0 (Int32.not_le.mp c)
    have cl := cnt_le (mI u 76 19) x.toNatClampNeg
    have k := (show ∀ n, n < 32 → Int32.ofNat n + 1 = Int32.ofNat (n + 1) ∧ Int32.ofNat n + 0 = Int32.ofNat n from by decide) (cnt (mI u 76 19) x.toNatClampNeg) (by omega)
    rw [hy, tn_succ h0 c, cnt]
    rcases tb_01 (mI u 76 19 >>> (x &&& 31)) with z | z
    · rw [z, tb_f h0 x32 z]
      exact k.2
    · rw [z, (tbx h0 x32).mp z]
      exact k.1
  have z0 : (0 : Int32).toNatClampNeg = 0 := by decide
  exact sg_m_shutMany_0 (key 0 0 (by decide) n30.1 (by rw [z0]; rfl))
theorem sm_bc {n s : Int32} (hn : n ≤ 30) (hb : bnK n s) : Int32.ofNat (cnt s n.toNatClampNeg) = bcV s := by
  have l := tn_le hn
  have e : (30 : Int32).toNatClampNeg = 30 := by decide
  rw [(bcV_cnt s).1, cnt_hi 32 (by omega) (Nat.le_refl _) hb]
theorem bnK.or {n s x : Int32} (hb : bnK n s) (hn : n ≤ 30) (h0 : 0 ≤ x) (h1 : x < n) : bnK n (s ||| (1 <<< (x &&& 31))) := fun i hi h32 => by
  have l := tn_lt h0 h1
  rw [tbo h0 (Int32.lt_of_lt_of_le h1 (Int32.le_trans hn (by decide))) h32, hb i hi h32, decide_eq_false (by omega)]
  rfl
theorem bnK.an {n s x : Int32} (hb : bnK n s) (hn : n ≤ 30) (h0 : 0 ≤ x) (h1 : x < n) : bnK n (s &&& ((1 <<< (x &&& 31)) ^^^ (-1))) := fun i hi h32 => by
  rw [tba h0 (Int32.lt_of_lt_of_le h1 (Int32.le_trans hn (by decide))) h32, hb i hi h32]
  rfl
theorem e_shuty {x1 : Int32} (hM : InvM u) (hb : bnK (mI u 76 10) (mI u 76 19)) : Ws G m_shut 0 [(0, .ref 76), (1, .int x1)] [] u (RI fun a u' => Mo (mB ++ mNw) u u' ∧ (shutA (mI u 76 10) (mI u 76 19) x1).1 = a ∧ nmS u u' (shutA (mI u 76 10) (mI u 76 19) x1).2 ∧ bnK (mI u 76 10) (mI u' 76 19)) := by
  have n30 := hM.n30
  by_cases hc : 0 ≤ x1 ∧ x1 < mI u 76 10
  rotate_left
  · have e : shutA (mI u 76 10) (mI u 76 19) x1 = (-1, mI u 76 19) := by unfold shutA; rw [if_neg hc]
    exact sg_m_shut_0 ⟨fun a => absurd ⟨a.1, by have := a.2; grind⟩ hc, fun _ => ⟨_, rfl, Mo.rf hM, by rw [e], by rw [e]; exact ⟨rfl, rfl, fun _ => rfl⟩, hb⟩⟩
  have x32 : x1 < 32 := Int32.lt_of_lt_of_le hc.2 (Int32.le_trans n30.2 (by decide))
  have sb := sm_bc n30.2 hb
  have c3 := hM.2.2.2.1
  refine sg_m_shut_0 ⟨fun a => ⟨fun b => ?_, fun b => ?_⟩, fun a => absurd ⟨hc.1, by have := hc.2; grind⟩ a⟩
  · have tf := tb_n hc.1 x32 b
    refine kI (e_shutManyx hM) (fun a4 v h => ?_)
    obtain ⟨rfl, ea⟩ := h
    rw [sb] at ea
    have k3 := (show ∀ n, n < 4 → (¬ Int32.ofNat n = 3 ↔ Int32.ofNat n < 3) from by decide) _ (show cnt (mI u 76 19) (mI u 76 10).toNatClampNeg < 4 by omega)
    rw [sb] at k3
    rw [ea]
    refine ⟨fun c => ?_, fun c => ?_⟩
    · have e : shutA (mI u 76 10) (mI u 76 19) x1 = (bcV (mI u 76 19 ||| (1 <<< (x1 &&& 31))), mI u 76 19 ||| (1 <<< (x1 &&& 31))) := by unfold shutA; rw [if_pos hc, if_neg (by rw [tf]; decide), if_pos (k3.mp c)]
      have hb' := hb.or (x := x1) n30.2 hc.1 hc.2
      have cu := (cnt_upd (x := mI u 76 19) (y := mI u 76 19 ||| (1 <<< (x1 &&& 31))) (d := x1.toNatClampNeg) (mI u 76 10).toNatClampNeg (fun j hj => tbo hc.1 x32 (by have := tn_le n30.2; have e : (30 : Int32).toNatClampNeg = 30 := (by decide); omega))).1
      have lt3 : cnt (mI u 76 19) (mI u 76 10).toNatClampNeg < 3 := by
        have := k3.mp c
        rw [← sb] at this
        have q := (show ∀ n, n < 4 → Int32.ofNat n < 3 → n < 3 from by decide) _ (show cnt (mI u 76 19) (mI u 76 10).toNatClampNeg < 4 by omega) this
        exact q
      have m' : Mo (mB ++ mNw) u (pI u 76 19 (mI u 76 19 ||| (1 <<< (x1 &&& 31)))) := hM.pS (by omega)
      refine kI (e_shutManyx m'.1) (fun a6 v6 h6 => ?_)
      obtain ⟨rfl, ea6⟩ := h6
      rw [mI_eq, mI_nk (by decide), sm_bc n30.2 hb'] at ea6
      refine ⟨_, rfl, m', by rw [e, ea6], ?_, by rw [mI_eq]; exact hb'⟩
      rw [e]
      exact ⟨mI_nk (by decide), mI_eq, fun k => mI_ne (by decide)⟩
    · have e : shutA (mI u 76 10) (mI u 76 19) x1 = (-2, mI u 76 19) := by unfold shutA; rw [if_pos hc, if_neg (by rw [tf]; decide), if_neg (fun z => k3.mpr z c)]
      exact ⟨_, rfl, Mo.rf hM, by rw [e], by rw [e]; exact ⟨rfl, rfl, fun _ => rfl⟩, hb⟩
  · have e : shutA (mI u 76 10) (mI u 76 19) x1 = (-4, mI u 76 19) := by unfold shutA; rw [if_pos hc, if_pos ((tbx hc.1 x32).mp b)]
    exact ⟨_, rfl, Mo.rf hM, by rw [e], by rw [e]; exact ⟨rfl, rfl, fun _ => rfl⟩, hb⟩
theorem e_openy {x1 : Int32} (hM : InvM u) (hb : bnK (mI u 76 10) (mI u 76 19)) : Ws G m_open 0 [(0, .ref 76), (1, .int x1)] [] u (RI fun a u' => Mo (mB ++ mNw) u u' ∧ (openA (mI u 76 10) (mI u 76 19) x1).1 = a ∧ nmS u u' (openA (mI u 76 10) (mI u 76 19) x1).2 ∧ bnK (mI u 76 10) (mI u' 76 19)) := by
  have n30 := hM.n30
  by_cases hc : 0 ≤ x1 ∧ x1 < mI u 76 10
  rotate_left
  · have e : openA (mI u 76 10) (mI u 76 19) x1 = (-1, mI u 76 19) := by unfold openA; rw [if_neg hc]
    exact sg_m_open_0 ⟨fun a => absurd ⟨a.1, by have := a.2; grind⟩ hc, fun _ => ⟨_, rfl, Mo.rf hM, by rw [e], by rw [e]; exact ⟨rfl, rfl, fun _ => rfl⟩, hb⟩⟩
  have x32 : x1 < 32 := Int32.lt_of_lt_of_le hc.2 (Int32.le_trans n30.2 (by decide))
  have c3 := hM.2.2.2.1
  refine sg_m_open_0 ⟨fun a => ⟨fun b => ?_, fun b => ?_⟩, fun a => absurd ⟨hc.1, by have := hc.2; grind⟩ a⟩
  · have tt := tb_t hc.1 x32 b
    have e : openA (mI u 76 10) (mI u 76 19) x1 = (bcV (mI u 76 19 &&& ((1 <<< (x1 &&& 31)) ^^^ (-1))), mI u 76 19 &&& ((1 <<< (x1 &&& 31)) ^^^ (-1))) := by unfold openA; rw [if_pos hc, if_pos tt]
    have hb' := hb.an (x := x1) n30.2 hc.1 hc.2
    have cs := cnt_sub (x := mI u 76 19 &&& ((1 <<< (x1 &&& 31)) ^^^ (-1))) (y := mI u 76 19) (mI u 76 10).toNatClampNeg (fun j hj z => by rw [tb_a, Bool.and_eq_true] at z; exact z.1)
    have m' : Mo (mB ++ mNw) u (pI u 76 19 (mI u 76 19 &&& ((1 <<< (x1 &&& 31)) ^^^ (-1)))) := hM.pS (by omega)
    refine kI (e_shutManyx m'.1) (fun a6 v6 h6 => ?_)
    obtain ⟨rfl, ea6⟩ := h6
    rw [mI_eq, mI_nk (by decide), sm_bc n30.2 hb'] at ea6
    refine ⟨_, rfl, m', by rw [e, ea6], ?_, by rw [mI_eq]; exact hb'⟩
    rw [e]
    exact ⟨mI_nk (by decide), mI_eq, fun k => mI_ne (by decide)⟩
  · have e : openA (mI u 76 10) (mI u 76 19) x1 = (-4, mI u 76 19) := by unfold openA; rw [if_pos hc, if_neg (by rw [tb_f hc.1 x32 b]; decide)]
    exact ⟨_, rfl, Mo.rf hM, by rw [e], by rw [e]; exact ⟨rfl, rfl, fun _ => rfl⟩, hb⟩
/-! go -/
theorem d_goy {x1 : Int32} (hC : InvC u) (hK : 0 < mI u (mR u 2 10) 0 → PlK u (mR u 2 10)) : Ws G D_go 0 [(0, .ref 2), (1, .int x1)] [] u (RI fun a u' => Cl (qB ++ qN) u u' ∧ goA (mI u (mR u 2 10) 0) (mI u 7 0) x1 = a ∧ ((goK (mI u (mR u 2 10) 0) (mI u 7 0) x1 ∧ mI u' 7 0 = mI u 7 0 + x1 ∧ mI u' 7 1 = mI u 7 1 ∧ mI u' 8 = dwC u x1.toNatClampNeg) ∨ (¬ goK (mI u (mR u 2 10) 0) (mI u 7 0) x1 ∧ nwS u u' (mI u 7 1)))) := by
  have no : ∀ v : Int32, goA (mI u (mR u 2 10) 0) (mI u 7 0) x1 = v → ¬ goK (mI u (mR u 2 10) 0) (mI u 7 0) x1 → (RI fun a u' => Cl (qB ++ qN) u u' ∧ goA (mI u (mR u 2 10) 0) (mI u 7 0) x1 = a ∧ ((goK (mI u (mR u 2 10) 0) (mI u 7 0) x1 ∧ mI u' 7 0 = mI u 7 0 + x1 ∧ mI u' 7 1 = mI u 7 1 ∧ mI u' 8 = dwC u x1.toNatClampNeg) ∨ (¬ goK (mI u (mR u 2 10) 0) (mI u 7 0) x1 ∧ nwS u u' (mI u 7 1)))) (some (.int v)) u := fun v e n => ⟨_, rfl, Cl.rf hC, e, .inr ⟨n, rfl, rfl, fun _ => rfl⟩⟩
  refine sg_D_go_0 ⟨fun a => no _ (by unfold goA; rw [if_neg (fun z => absurd a (Int32.not_lt.mpr z.1))]) (fun z => absurd a (Int32.not_lt.mpr z.1.1)), fun a => ⟨fun b hp => ⟨fun c => ⟨fun d hp2 => ?_, fun d => no _ (by unfold goA; rw [if_pos ⟨Int32.not_lt.mp a, b⟩, if_pos c, if_neg d]) (fun z => d z.2.2)⟩, fun c => no _ (by unfold goA; rw [if_pos ⟨Int32.not_lt.mp a, b⟩, if_neg c]) (fun z => c z.2.1)⟩, fun b => no _ (by unfold goA; rw [if_neg (fun z => b z.2)]) (fun z => b z.1.2)⟩⟩
  have k : goK (mI u (mR u 2 10) 0) (mI u 7 0) x1 := ⟨⟨Int32.not_lt.mp a, b⟩, c, d⟩
  refine kV (c_passx (L := qB ++ qN) (by decide) (by decide) (pl_ok hp) (Int32.not_lt.mp a) (hK c)) (fun v h => ?_)
  obtain ⟨q, f, w0, w1, dd, _⟩ := h
  exact ⟨_, rfl, q.cl hC, by rw [goA_k k]; exact w0.symm, .inl ⟨k, w0, w1, dd⟩⟩
theorem e_goy {x1 : Int32} {ord : Nat → Nat} (hM : InvM u) (ho : OrdP (shM u) (mI u 76 11).toNatClampNeg ord) : Ws G m_go 0 [(0, .ref 76), (1, .int x1)] [] u (RI fun a u' => Mo (mB ++ mNw) u u' ∧ goA (mI u 76 10) (mI u 76 18) x1 = a ∧ ((goK (mI u 76 10) (mI u 76 18) x1 ∧ mI u' 76 18 = mI u 76 18 + x1 ∧ mI u' 76 19 = mI u 76 19 ∧ ∀ s, s < (mI u 76 11).toNatClampNeg → mI u' 84 s = dwM u ord x1.toNatClampNeg s) ∨ (¬ goK (mI u 76 10) (mI u 76 18) x1 ∧ nmS u u' (mI u 76 19)))) := by
  have m7 := hM.m7
  have n30 := hM.n30
  have no : ∀ v : Int32, goA (mI u 76 10) (mI u 76 18) x1 = v → ¬ goK (mI u 76 10) (mI u 76 18) x1 → (RI fun a u' => Mo (mB ++ mNw) u u' ∧ goA (mI u 76 10) (mI u 76 18) x1 = a ∧ ((goK (mI u 76 10) (mI u 76 18) x1 ∧ mI u' 76 18 = mI u 76 18 + x1 ∧ mI u' 76 19 = mI u 76 19 ∧ ∀ s, s < (mI u 76 11).toNatClampNeg → mI u' 84 s = dwM u ord x1.toNatClampNeg s) ∨ (¬ goK (mI u 76 10) (mI u 76 18) x1 ∧ nmS u u' (mI u 76 19)))) (some (.int v)) u := fun v e n => ⟨_, rfl, Mo.rf hM, e, .inr ⟨n, rfl, rfl, fun _ => rfl⟩⟩
  refine sg_m_go_0 ⟨fun a => ⟨fun b => ⟨fun d => ?_, fun d => no _ (by unfold goA; rw [if_pos a, if_pos (by grind), if_neg d]) (fun z => d z.2.2)⟩, fun b => no _ (by unfold goA; rw [if_pos a, if_neg (by rw [b]; decide)]) (fun z => by have := z.2.1; rw [b] at this; exact absurd this (by decide))⟩, fun a => no _ (by unfold goA; rw [if_neg a]) (fun z => a z.1)⟩
  have k : goK (mI u 76 10) (mI u 76 18) x1 := ⟨a, by grind, d⟩
  have z0 : (0 : Int32).toNatClampNeg = 0 := by decide
  have k70 : ∀ x v, 0 ≤ x → x ≤ mI u 76 11 → Mq (mB ++ mNw) u v → (∀ n k, n ≠ 84 → n ≠ 85 → n ≠ 86 → mI v n k = mI u n k) → (∀ s, s < (mI u 76 11).toNatClampNeg → mI v 85 s = dwM u ord x1.toNatClampNeg s) → (∀ s, s < x.toNatClampNeg → mI v 84 s = dwM u ord x1.toNatClampNeg s) → Ws G m_go 70 [(0, .ref 76), (1, .int x1), (2, .int x)] [] v (RI fun a u' => Mo (mB ++ mNw) u u' ∧ goA (mI u 76 10) (mI u 76 18) x1 = a ∧ ((goK (mI u 76 10) (mI u 76 18) x1 ∧ mI u' 76 18 = mI u 76 18 + x1 ∧ mI u' 76 19 = mI u 76 19 ∧ ∀ s, s < (mI u 76 11).toNatClampNeg → mI u' 84 s = dwM u ord x1.toNatClampNeg s) ∨ (¬ goK (mI u 76 10) (mI u 76 18) x1 ∧ nmS u u' (mI u 76 19)))) := by
    refine upI (mI u 76 11) _ (fun x ih v h0 hx hq hf h85 h84 => ?_)
    refine sg_m_go_70 ⟨fun c => ?_, fun c => ?_⟩
    · have e18 : mI v 76 18 = mI u 76 18 := hf _ _ (by decide) (by decide) (by decide)
      rw [hq.m] at c
      refine ⟨_, rfl, (hq.pF (by decide)).mo hM, by rw [goA_k k, mI_eq, e18], .inl ⟨k, by rw [mI_eq, e18], by rw [mI_nk (by decide)]; exact hf _ _ (by decide) (by decide) (by decide), fun s hs => ?_⟩⟩
      rw [mI_ne (by decide)]
      exact h84 s (by rw [Int32.le_antisymm hx c]; exact hs)
    rw [hq.m] at c
    have xN := tn_lt h0 (Int32.not_le.mp c)
    refine ⟨(vin (by grind) (show (_ : Int32) < 7 by grind) (by decide)), (vin (by grind) (show (_ : Int32) < 7 by grind) (by decide)), ih c _ (by grind) (by grind) (hq.pD (.inl rfl) ((hq.inv hM).b85 _)) (fun n k n1 n2 n3 => by rw [mI_ne n1]; exact hf n k n1 n2 n3) (fun s hs => by rw [mI_ne (by decide)]; exact h85 s hs) (fun s hs => ?_)⟩
    rw [tn_succ h0 c] at hs
    by_cases e : s = x.toNatClampNeg
    · rw [e, mI_eq]; exact h85 _ xN
    · rw [mI_nk e]; exact h84 s (by omega)
  have key : ∀ x v, 0 ≤ x → x ≤ x1 → Mq mB u v → (∀ n k, n ≠ 85 → n ≠ 86 → mI v n k = mI u n k) → (∀ s, s < (mI u 76 11).toNatClampNeg → mI v 85 s = dwM u ord x.toNatClampNeg s) → Ws G m_go 43 [(0, .ref 76), (1, .int x1), (2, .int x)] [] v (RI fun a u' => Mo (mB ++ mNw) u u' ∧ goA (mI u 76 10) (mI u 76 18) x1 = a ∧ ((goK (mI u 76 10) (mI u 76 18) x1 ∧ mI u' 76 18 = mI u 76 18 + x1 ∧ mI u' 76 19 = mI u 76 19 ∧ ∀ s, s < (mI u 76 11).toNatClampNeg → mI u' 84 s = dwM u ord x1.toNatClampNeg s) ∨ (¬ goK (mI u 76 10) (mI u 76 18) x1 ∧ nmS u u' (mI u 76 19)))) := by
    refine upI x1 _ (fun x ih v h0 hx hq hf hd => ?_)
    refine sg_m_go_43 ⟨fun c => k70 0 v (by decide) m7.1 (Mq.up (L := mB ++ mNw) hq) (fun n k _ n2 n3 => hf n k n2 n3) (by rw [Int32.le_antisymm hx c] at hd; exact hd) (fun s hs => by omega), fun c => ?_⟩
    have eM : shM v = shM u := shM_cg (fun k => hf _ _ (by decide) (by decide))
    have hi := hq.inv hM
    refine kV (e_passOnex (ord := ord) hi hi.2.2.2.1 (by rw [eM, hq.m]; exact ho)) (fun v' h => ?_)
    obtain ⟨q', f', d'⟩ := h
    rw [eM, hq.m, hq.n, hf 76 18 (by decide) (by decide), hf 76 19 (by decide) (by decide)] at d'
    refine ih c _ (by grind) (by grind) (hq.tr q') (fun n k n1 n2 => (f' n k n1 n2).trans (hf n k n1 n2)) (fun s hs => ?_)
    rw [d' s, tn_succ h0 c]
    have e3 : dwM u ord (x.toNatClampNeg + 1) = pwk (mI u 76 10) (mI u 76 18 + Int32.ofNat x.toNatClampNeg) (mI u 76 19) (shM u) ord (mI u 76 11).toNatClampNeg (dwM u ord x.toNatClampNeg) := rfl
    rw [e3, i32_nat h0]
    exact pwk_cg ho.1 hd s hs
  refine kV (e_fromNowx hM) (fun v h => ?_)
  obtain ⟨q, f, d'⟩ := h
  exact key 0 v (by decide) a.1 q (fun n k n1 _ => f n k n1) (fun s hs => by rw [z0]; exact d' s hs)
/-! the diary -/
theorem d_notey {x1 x2 x3 : Int32} (hC : InvC u) (hz : 0 ≤ mI u 14 0) (hm : mI u (mR u 2 10) 1 ≤ 7) : Ws G D_note 0 [(0, .ref 2), (1, .int x1), (2, .int x2), (3, .int x3)] [] u (RI fun a u' => Cl (qB ++ qJ) u u' ∧ noteA (mI u (mR u 2 10) 0) (mI u (mR u 2 10) 1) (mI u 14 0) x1 x2 x3 = a ∧ ((noteK (mI u (mR u 2 10) 0) (mI u (mR u 2 10) 1) (mI u 14 0) x1 x2 x3 ∧ mI u' 14 0 = mI u 14 0 + 1 ∧ mI u' 15 = setF (mI u 15) (mI u 14 0).toNatClampNeg x1 ∧ mI u' 16 = setF (mI u 16) (mI u 14 0).toNatClampNeg x2 ∧ mI u' 17 = setF (mI u 17) (mI u 14 0).toNatClampNeg x3) ∨ (¬ noteK (mI u (mR u 2 10) 0) (mI u (mR u 2 10) 1) (mI u 14 0) x1 x2 x3 ∧ ∀ n k, 14 ≤ n → n ≤ 17 → mI u' n k = mI u n k))) := by
  have no : ∀ v : Int32, noteA (mI u (mR u 2 10) 0) (mI u (mR u 2 10) 1) (mI u 14 0) x1 x2 x3 = v → ¬ noteK (mI u (mR u 2 10) 0) (mI u (mR u 2 10) 1) (mI u 14 0) x1 x2 x3 → (RI fun a u' => Cl (qB ++ qJ) u u' ∧ noteA (mI u (mR u 2 10) 0) (mI u (mR u 2 10) 1) (mI u 14 0) x1 x2 x3 = a ∧ ((noteK (mI u (mR u 2 10) 0) (mI u (mR u 2 10) 1) (mI u 14 0) x1 x2 x3 ∧ mI u' 14 0 = mI u 14 0 + 1 ∧ mI u' 15 = setF (mI u 15) (mI u 14 0).toNatClampNeg x1 ∧ mI u' 16 = setF (mI u 16) (mI u 14 0).toNatClampNeg x2 ∧ mI u' 17 = setF (mI u 17) (mI u 14 0).toNatClampNeg x3) ∨ (¬ noteK (mI u (mR u 2 10) 0) (mI u (mR u 2 10) 1) (mI u 14 0) x1 x2 x3 ∧ ∀ n k, 14 ≤ n → n ≤ 17 → mI u' n k = mI u n k))) (some (.int v)) u := fun v e n => ⟨_, rfl, Cl.rf hC, e, .inr ⟨n, fun _ _ _ _ => rfl⟩⟩
  refine sg_D_note_0 ⟨fun a => no _ (by unfold noteA; rw [if_neg (fun z => absurd a (Int32.not_lt.mpr z.1.1))]) (fun z => absurd a (Int32.not_lt.mpr z.1.1)), fun a => ⟨fun b => no _ (by unfold noteA; rw [if_neg (fun z => absurd b (Int32.not_lt.mpr z.1.2))]) (fun z => absurd b (Int32.not_lt.mpr z.1.2)), fun b hp => ⟨fun c hp2 => ⟨fun d => ?_, fun d => no _ (by unfold noteA; rw [if_neg (fun z => d z.2.2)]) (fun z => d z.2.2.1)⟩, fun c => no _ (by unfold noteA; rw [if_neg (fun z => c ⟨z.2.1.1, z.2.1.2, Int32.lt_of_lt_of_le z.2.1.2 hm⟩)]) (fun z => c ⟨z.2.1.1, z.2.1.2, Int32.lt_of_lt_of_le z.2.1.2 hm⟩)⟩⟩⟩
  have c1 : 0 ≤ x2 ∧ x2 < mI u (mR u 2 10) 1 := ⟨c.1, c.2.1⟩
  have ab : (0 ≤ x1 ∧ x1 ≤ 99) ∧ (0 ≤ x2 ∧ x2 < mI u (mR u 2 10) 1) ∧ 0 ≤ x3 ∧ x3 < mI u (mR u 2 10) 0 := ⟨⟨Int32.not_lt.mp a, Int32.not_lt.mp b⟩, c1, d⟩
  refine sg_Di_write_0 ⟨fun z => absurd z (Int32.not_lt.mpr hz), fun _ => ⟨fun l => ?_, fun l => ⟨_, rfl, fun _ => no _ (by unfold noteA; rw [if_pos ab, if_neg l]) (fun z => l z.2.2.2), fun z => absurd rfl z⟩⟩⟩
  have e14 : ∀ (v : pM) (n k : Nat) (z : Int32), n ≠ 14 → mI (pI v n k z) 14 0 = mI v 14 0 := fun v n k z hn => mI_ne (fun q => hn q.symm)
  rw [e14 _ _ _ _ (by decide), e14 _ _ _ _ (by decide), e14 _ _ _ _ (by decide), e14 _ _ _ _ (by decide), e14 _ _ _ _ (by decide), e14 _ _ _ _ (by decide)]
  have v12 : vp_in (mI u 14 0) 12 := vin hz (show (_ : Int32) < 12 by exact l) (by decide)
  have kk : noteK (mI u (mR u 2 10) 0) (mI u (mR u 2 10) 1) (mI u 14 0) x1 x2 x3 := ⟨ab.1, ab.2.1, ab.2.2, l⟩
  have w : ∀ n, n = 14 ∨ n = 15 ∨ n = 16 ∨ n = 17 → ∀ k, wr n k := fun n hn k => by
    rcases hn with z | z | z | z <;> rw [z]
    · exact wr_k (n := 14) (kd := 0) (by decide) (by decide) (by decide) (by decide)
    · exact wr_k (n := 15) (kd := 100) (by decide) (by decide) (by decide) (by decide)
    · exact wr_k (n := 16) (kd := 100) (by decide) (by decide) (by decide) (by decide)
    · exact wr_k (n := 17) (kd := 100) (by decide) (by decide) (by decide) (by decide)
  have cm : ∀ n, n = 14 ∨ n = 15 ∨ n = 16 ∨ n = 17 → ∀ k, cd n k ∈ qB ++ qJ := fun n hn k => by
    refine cm_n ?_
    rcases hn with z | z | z | z <;> rw [z] <;> decide
  refine ⟨v12, v12, v12, _, rfl, fun z => absurd z (by decide), fun _ => ⟨_, rfl, ((((Cq.rf.pI (w 15 (by decide) _) (cm 15 (by decide) _)).pI (w 16 (by decide) _) (cm 16 (by decide) _)).pI (w 17 (by decide) _) (cm 17 (by decide) _)).pI (w 14 (by decide) _) (cm 14 (by decide) _)).cl hC, ?_, .inl ⟨kk, mI_eq, ?_, ?_, ?_⟩⟩⟩
  · unfold noteA; rw [if_pos ab, if_pos l, mI_eq]; grind
  · funext k
    rw [mI_ne (by decide), mI_ne (by decide), mI_ne (by decide)]
    unfold setF
    by_cases e : k = (mI u 14 0).toNatClampNeg
    · rw [if_pos e, e, mI_eq]
    · rw [if_neg e, mI_nk e]
  · funext k
    rw [mI_ne (by decide), mI_ne (by decide)]
    unfold setF
    by_cases e : k = (mI u 14 0).toNatClampNeg
    · rw [if_pos e, e, mI_eq]
    · rw [if_neg e, mI_nk e, mI_ne (by decide)]
  · funext k
    rw [mI_ne (by decide)]
    unfold setF
    by_cases e : k = (mI u 14 0).toNatClampNeg
    · rw [if_pos e, e, mI_eq]
    · rw [if_neg e, mI_nk e, mI_ne (by decide), mI_ne (by decide)]
theorem d_backy {x1 : Int32} (hC : InvC u) : Ws G D_back 0 [(0, .ref 2), (1, .int x1)] [] u (RI fun a u' => Cl (qB ++ qJ) u u' ∧ (backA (mI u 14 0) x1).1 = a ∧ mI u' 14 0 = (backA (mI u 14 0) x1).2 ∧ ∀ n k, 15 ≤ n → n ≤ 17 → mI u' n k = mI u n k) := by
  refine sg_D_back_0 ⟨fun a => ⟨_, rfl, Cl.rf hC, ?_, ?_, fun _ _ _ _ => rfl⟩, fun a => ⟨fun b => ⟨_, rfl, (Cq.rf.pI (wr_k (n := 14) (kd := 0) (by decide) (by decide) (by decide) (by decide)) (by decide)).cl hC, ?_, ?_, fun n k h1 _ => mI_ne (by omega)⟩, fun b => ⟨_, rfl, Cl.rf hC, ?_, ?_, fun _ _ _ _ => rfl⟩⟩⟩
  · unfold backA; rw [if_neg (fun z => absurd a (Int32.not_lt.mpr z.1))]
  · unfold backA; rw [if_neg (fun z => absurd a (Int32.not_lt.mpr z.1))]
  · unfold backA; rw [if_pos ⟨Int32.not_lt.mp a, b⟩]
  · unfold backA; rw [if_pos ⟨Int32.not_lt.mp a, b⟩, mI_eq]
  · unfold backA; rw [if_neg (fun z => b z.2)]
  · unfold backA; rw [if_neg (fun z => b z.2)]
theorem e_backy {x1 : Int32} (hM : InvM u) : Ws G m_back 0 [(0, .ref 76), (1, .int x1)] [] u (RI fun a u' => Mo (mB ++ mJn) u u' ∧ (backA (mI u 76 28) x1).1 = a ∧ mI u' 76 28 = (backA (mI u 76 28) x1).2 ∧ ∀ k, mI u' 92 k = mI u 92 k) := by
  have o := hM.2.2.2.2.2
  refine sg_m_back_0 ⟨fun a => ⟨_, rfl, hM.pO a.1 (by grind), ?_, ?_, fun k => mI_ne (by decide)⟩, fun a => ⟨_, rfl, Mo.rf hM, ?_, ?_, fun _ => rfl⟩⟩
  · unfold backA; rw [if_pos a]
  · unfold backA; rw [if_pos a, mI_eq]
  · unfold backA; rw [if_neg a]
  · unfold backA; rw [if_neg a]
theorem ix3 {z : Int32} (h0 : 0 ≤ z) (h1 : z < 12) : (3 * z : Int32).toNatClampNeg = 3 * z.toNatClampNeg ∧ (3 * z + 1 : Int32).toNatClampNeg = 3 * z.toNatClampNeg + 1 ∧ (3 * z + 2 : Int32).toNatClampNeg = 3 * z.toNatClampNeg + 2 := by
  have k := (show ∀ i, i < 12 → (3 * Int32.ofNat i : Int32).toNatClampNeg = 3 * i ∧ (3 * Int32.ofNat i + 1 : Int32).toNatClampNeg = 3 * i + 1 ∧ (3 * Int32.ofNat i + 2 : Int32).toNatClampNeg = 3 * i + 2 from by decide) z.toNatClampNeg (ixn (n := 12) h0 h1 (by decide))
  rw [i32_nat h0] at k
  exact k
theorem e_notey {x1 x2 x3 : Int32} (hM : InvM u) : Ws G m_note 0 [(0, .ref 76), (1, .int x1), (2, .int x2), (3, .int x3)] [] u (RI fun a u' => Mo (mB ++ mJn) u u' ∧ noteA (mI u 76 10) (mI u 76 11) (mI u 76 28) x1 x2 x3 = a ∧ ((noteK (mI u 76 10) (mI u 76 11) (mI u 76 28) x1 x2 x3 ∧ mI u' 76 28 = mI u 76 28 + 1 ∧ mI u' 92 = setF (setF (setF (mI u 92) (3 * (mI u 76 28).toNatClampNeg) x1) (3 * (mI u 76 28).toNatClampNeg + 1) x2) (3 * (mI u 76 28).toNatClampNeg + 2) x3) ∨ (¬ noteK (mI u 76 10) (mI u 76 11) (mI u 76 28) x1 x2 x3 ∧ mI u' 76 28 = mI u 76 28 ∧ ∀ k, mI u' 92 k = mI u 92 k))) := by
  have o := hM.2.2.2.2.2
  have m7 := hM.m7
  have n30 := hM.n30
  have no : ∀ v : Int32, noteA (mI u 76 10) (mI u 76 11) (mI u 76 28) x1 x2 x3 = v → ¬ noteK (mI u 76 10) (mI u 76 11) (mI u 76 28) x1 x2 x3 → (RI fun a u' => Mo (mB ++ mJn) u u' ∧ noteA (mI u 76 10) (mI u 76 11) (mI u 76 28) x1 x2 x3 = a ∧ ((noteK (mI u 76 10) (mI u 76 11) (mI u 76 28) x1 x2 x3 ∧ mI u' 76 28 = mI u 76 28 + 1 ∧ mI u' 92 = setF (setF (setF (mI u 92) (3 * (mI u 76 28).toNatClampNeg) x1) (3 * (mI u 76 28).toNatClampNeg + 1) x2) (3 * (mI u 76 28).toNatClampNeg + 2) x3) ∨ (¬ noteK (mI u 76 10) (mI u 76 11) (mI u 76 28) x1 x2 x3 ∧ mI u' 76 28 = mI u 76 28 ∧ ∀ k, mI u' 92 k = mI u 92 k))) (some (.int v)) u := fun v e n => ⟨_, rfl, Mo.rf hM, e, .inr ⟨n, rfl, fun _ => rfl⟩⟩
  refine sg_m_note_0 ⟨fun a => ⟨fun b => ⟨fun d => ⟨fun c => ?_, fun c => ?_⟩, fun d => no _ (by unfold noteA; rw [if_neg (fun z => d ⟨z.2.2.1, by have := z.2.2.2; grind⟩)]) (fun z => d ⟨z.2.2.1.1, by have := z.2.2.1.2; grind⟩)⟩, fun b => no _ (by unfold noteA; rw [if_neg (fun z => b ⟨z.2.1.1, by have := z.2.1.2; grind⟩)]) (fun z => b ⟨z.2.1.1, by have := z.2.1.2; grind⟩)⟩, fun a => no _ (by unfold noteA; rw [if_neg (fun z => a z.1)]) (fun z => a z.1)⟩
  · have ab : (0 ≤ x1 ∧ x1 ≤ 99) ∧ (0 ≤ x2 ∧ x2 < mI u 76 11) ∧ 0 ≤ x3 ∧ x3 < mI u 76 10 := ⟨a, ⟨b.1, by have := b.2; grind⟩, d.1, by have := d.2; grind⟩
    have l : mI u 76 28 < 12 := by grind
    simp only [mI_ne (show (76 : Nat) ≠ 92 by decide)]
    have hq : Mq (mB ++ mJn) u (pI (pI (pI u 92 (3 * (mI u 76 28) : Int32).toNatClampNeg x1) 92 ((3 * (mI u 76 28)) + 1 : Int32).toNatClampNeg x2) 92 ((3 * (mI u 76 28)) + 2 : Int32).toNatClampNeg x3) := ((Mq.rf.pA (by decide)).pA (by decide)).pA (by decide)
    have hO := (hq.inv hM).pO (x := mI u 76 28 + 1) (by grind) (by grind)
    refine ⟨(vin (by grind) (show (_ : Int32) < 36 by grind) (by decide)), (vin (by grind) (show (_ : Int32) < 36 by grind) (by decide)), (vin (by grind) (show (_ : Int32) < 36 by grind) (by decide)), _, rfl, (hq.mo hM).tr hO, ?_, .inl ⟨⟨ab.1, ab.2.1, ab.2.2, l⟩, mI_eq, ?_⟩⟩
    · unfold noteA; rw [if_pos ab, if_pos l, mI_eq]; grind
    · have I := ix3 o.1 l
      rw [I.1, I.2.1, I.2.2]
      funext k
      rw [mI_ne (by decide)]
      unfold setF
      by_cases e2 : k = 3 * (mI u 76 28).toNatClampNeg + 2
      · rw [if_pos e2, e2, mI_eq]
      · rw [if_neg e2, mI_nk e2]
        by_cases e1 : k = 3 * (mI u 76 28).toNatClampNeg + 1
        · rw [if_pos e1, e1, mI_eq]
        · rw [if_neg e1, mI_nk e1]
          by_cases e0 : k = 3 * (mI u 76 28).toNatClampNeg
          · rw [if_pos e0, e0, mI_eq]
          · rw [if_neg e0, mI_nk e0]
  · refine no _ ?_ (fun z => by have := z.2.2.2; rw [c] at this; exact absurd this (by decide))
    unfold noteA
    rw [if_pos ⟨a, ⟨b.1, by have := b.2; grind⟩, d.1, by have := d.2; grind⟩, c, if_neg (by decide)]
end NOW
