/-! ===== what is alike on both sides, all but asked, finding and fraction ===== -/
def nN (v : pM) : Nat := (mI v 76 11).toNatClampNeg
/-- a standing such as calls leave -/
def stK (n : Int32) (m : Nat) (w s : Int32) (dr : Nat → Int32) : Prop := (0 ≤ w ∧ w ≤ 100000) ∧ bnK n s ∧ ∀ i, i < m → 0 ≤ dr i ∧ dr i < n
def SQ (u v : pM) : Prop := (∀ s, s < nN v → shF u (mR u 2 10) s = shM v s) ∧ (∀ s, s < nN v → shD (mI v 76 10) (shM v s)) ∧ OrdC u (mR u 2 10) (shM v) (nN v)
def NoW (u v : pM) : Prop := mI u 7 0 = mI v 76 18 ∧ mI u 7 1 = mI v 76 19 ∧ (∀ s, s < nN v → mI u 8 s = mI v 84 s) ∧ stK (mI v 76 10) (nN v) (mI v 76 18) (mI v 76 19) (mI v 84)
def KP (u v : pM) : Prop := ∀ k, k < 3 → (mI u (70 + 2 * k) 0 = -1 ∧ mI v 87 (10 * k) = -9) ∨ (mI u (70 + 2 * k) 0 = mI v 87 (10 * k) ∧ mI u (70 + 2 * k) 1 = mI v 87 (10 * k + 1) ∧ (∀ s, s < nN v → mI u (71 + 2 * k) s = mI v 87 (10 * k + 2 + s)) ∧ stK (mI v 76 10) (nN v) (mI v 87 (10 * k)) (mI v 87 (10 * k + 1)) (fun s => mI v 87 (10 * k + 2 + s)))
def DI (u v : pM) : Prop := mI u 14 0 = mI v 76 28 ∧ ∀ e, e < (mI v 76 28).toNatClampNeg → mI u 15 e = mI v 92 (3 * e) ∧ mI u 16 e = mI v 92 (3 * e + 1) ∧ mI u 17 e = mI v 92 (3 * e + 2)
theorem SQ.fc {u u' v : pM} (h : SQ u v) (hp : pl (mR u 2 10)) (hr : ∀ k, mR u' 2 k = mR u 2 k) (e : ∀ n k, mR u 2 10 ≤ n → n < mR u 2 10 + 14 → mI u' n k = mI u n k) (hm : nN v ≤ 7) : SQ u' v := by
  have ko := pl_ok hp
  have R : ∀ i, i < 7 → R0 (mR u 2 10 + 1) i = mR u 2 10 + 7 + i := (show ∀ o, o < 95 → (S0 o).1 = 2 → ∀ i, i < 7 → R0 (o + 1) i = o + 7 + i from by decide +kernel) _ ko.2.1 ko.2.2
  unfold SQ at *
  rw [hr]
  refine ⟨fun s hs => ?_, h.2.1, h.2.2.cg (fun i _ => e _ _ (by omega) (by omega))⟩
  rw [← h.1 s hs]
  have r := R s (by omega)
  unfold shF shC
  rw [e _ _ (by omega) (by omega), e _ _ (by omega) (by omega), e _ _ (by omega) (by omega), e _ _ (by omega) (by omega), e _ _ (by omega) (by omega)]
theorem SQ.fm {u v v' : pM} (h : SQ u v) (e1 : mI v' 76 10 = mI v 76 10) (e2 : mI v' 76 11 = mI v 76 11) (e : ∀ k, k < 35 → mI v' 83 k = mI v 83 k) (hm : nN v ≤ 7) : SQ u v' := by
  have en : nN v' = nN v := by unfold nN; rw [e2]
  have es : ∀ s, s < nN v → shM v' s = shM v s := fun s hs => by
    unfold shM mC
    rw [e _ (by omega), e _ (by omega), e _ (by omega), e _ (by omega), e _ (by omega)]
  unfold SQ at *
  rw [en, e1]
  exact ⟨fun s hs => by rw [es s hs]; exact h.1 s hs, fun s hs => by rw [es s hs]; exact h.2.1 s hs, h.2.2.sh es⟩
theorem NoW.fc {u u' v : pM} (h : NoW u v) (e : ∀ n k, n = 7 ∨ n = 8 → mI u' n k = mI u n k) : NoW u' v := by
  unfold NoW at *
  rw [e 7 _ (.inl rfl), e 7 _ (.inl rfl)]
  exact ⟨h.1, h.2.1, fun s hs => by rw [e 8 _ (.inr rfl)]; exact h.2.2.1 s hs, h.2.2.2⟩
theorem NoW.fm {u v v' : pM} (h : NoW u v) (e : ∀ k, (k = 10 ∨ k = 11 ∨ k = 18 ∨ k = 19) → mI v' 76 k = mI v 76 k) (e4 : ∀ k, mI v' 84 k = mI v 84 k) : NoW u v' := by
  have en : nN v' = nN v := by unfold nN; rw [e 11 (by decide)]
  have ed : mI v' 84 = mI v 84 := funext e4
  unfold NoW at *
  rw [en, ed, e 10 (by decide), e 18 (by decide), e 19 (by decide)]
  exact h
theorem KP.fc {u u' v : pM} (h : KP u v) (e : ∀ n k, 70 ≤ n → n < 76 → mI u' n k = mI u n k) : KP u' v := fun k hk => by
  have := h k hk
  rw [e (70 + 2 * k) _ (by omega) (by omega), e (70 + 2 * k) _ (by omega) (by omega)]
  rcases this with z | z
  · exact .inl z
  · exact .inr ⟨z.1, z.2.1, fun s hs => by rw [e _ _ (by omega) (by omega)]; exact z.2.2.1 s hs, z.2.2.2⟩
theorem KP.fm {u v v' : pM} (h : KP u v) (e1 : mI v' 76 10 = mI v 76 10) (e2 : mI v' 76 11 = mI v 76 11) (e : ∀ k, mI v' 87 k = mI v 87 k) : KP u v' := fun k hk => by
  have en : nN v' = nN v := by unfold nN; rw [e2]
  have ef : mI v' 87 = mI v 87 := funext e
  have := h k hk
  rw [en, ef, e1]
  exact this
theorem DI.fc {u u' v : pM} (h : DI u v) (e : ∀ n k, 14 ≤ n → n ≤ 17 → mI u' n k = mI u n k) : DI u' v := by
  unfold DI at *
  rw [e 14 _ (by decide) (by decide)]
  exact ⟨h.1, fun x hx => by rw [e 15 _ (by decide) (by decide), e 16 _ (by decide) (by decide), e 17 _ (by decide) (by decide)]; exact h.2 x hx⟩
theorem DI.fm {u v v' : pM} (h : DI u v) (e1 : mI v' 76 28 = mI v 76 28) (e : ∀ k, mI v' 92 k = mI v 92 k) : DI u v' := by
  have ef : mI v' 92 = mI v 92 := funext e
  unfold DI at *
  rw [e1, ef]
  exact h
theorem RW.fc {u u' v : pM} (h : RW u v) (e : rwK u u') : RW u' v := h.K e rmK.rf
theorem RW.fm {u v v' : pM} (h : RW u v) (e : rmK v v') : RW u v' := h.K rwK.rf e
theorem rwK.fp {L : List Nat} {u u' : pM} (h : Fp L u u') (hL : ∀ n, n < 62 → 50 ≤ n → n ∉ L) : rwK u u' := rwK.of (fun n k a b => h.1 n k (by rw [cd_n ⟨by omega, by omega, by omega⟩]; exact hL n b a))
theorem fpN {L : List Nat} {u u' : pM} (h : Fp L u u') {n k : Nat} (hn : n ∉ L) (h76 : n < 76) (h2 : n ≠ 2) : mI u' n k = mI u n k := h.1 n k (by rw [cd_n ⟨by omega, h2, by omega⟩]; exact hn)
theorem fpM {L : List Nat} {u u' : pM} (h : Fp L u u') {n k : Nat} (hn : n ∉ L) (h76 : n ≠ 76 ∧ n ≠ 2 ∧ n ≠ 83) : mI u' n k = mI u n k := h.1 n k (by rw [cd_n h76]; exact hn)
theorem fpF {L : List Nat} {u u' : pM} (h : Fp L u u') {k : Nat} (hk : k < 33) (hn : 200 + k ∉ L) : mI u' 76 k = mI u 76 k := h.1 76 k (by rw [cd_m hk]; exact hn)
theorem fp83 {L : List Nat} {u u' : pM} (h : Fp L u u') {k : Nat} (hk : k < 35) (hn : 83 ∉ L) : mI u' 83 k = mI u 83 k := h.1 83 k (by unfold cd; rw [if_neg (by decide), if_neg (by decide), if_neg (by omega)]; exact hn)
def RX0 (u : pM) : Prop := RT u u ∧ RN u u ∧ RW u u ∧ SQ u u ∧ NoW u u ∧ KP u u ∧ DI u u
/-- what the class may write and what not: for calls that touch nothing of it -/
abbrev cK (L : List Nat) : Prop := ∀ n, n < 76 → (n = 0 ∨ n = 7 ∨ n = 8 ∨ (14 ≤ n ∧ n ≤ 17) ∨ 22 ≤ n) → n ∉ L
theorem InvM.clx {L : List Nat} {u u' : pM} (h : InvM u) (hc : Cl L u u') : InvM u' := by
  obtain ⟨a, b, c, d, e, f⟩ := h
  have q := hc.2.1
  refine ⟨fun n k => ?_, ?_, ?_, ?_, ?_, ?_⟩
  · by_cases g : 76 ≤ n
    · rw [q n k g]; exact a n k
    · exact ⟨fun z => by omega, fun z => by omega, fun z => by omega, fun z => by omega⟩
  · unfold szK at *; rw [q 76 10 (by decide), q 76 11 (by decide)]; exact b
  · unfold shK at *; rw [q 76 11 (by decide)]; intro s; rw [q 83 _ (by decide), q 83 _ (by decide)]; exact c s
  · rw [q 76 19 (by decide), q 76 10 (by decide)]; exact d
  · unfold kpK at *; rw [q 76 10 (by decide)]; intro k; rw [q 87 _ (by decide), q 87 _ (by decide)]; intro k0 k2; exact ⟨(e k k0 k2).1, fun s => by rw [q 87 _ (by decide)]; exact (e k k0 k2).2 s⟩
  · rw [q 76 28 (by decide)]; exact f
section REL
variable {L L' : List Nat} {u u1 u2 : pM}
theorem m7N (hM : InvM u) : nN u ≤ 7 := by
  have := tn_le hM.m7.2
  have e : (7 : Int32).toNatClampNeg = 7 := by decide
  unfold nN
  omega
/-- the parts, from before both calls to behind the first -/
theorem RX0.rt (h : RX0 u) (q1 : Cl L u u1) : RT u u1 := RT.fm h.1 (fun n k z => q1.2.1 n k (by rcases z with rfl | rfl <;> decide))
theorem RX0.rn (h : RX0 u) (q1 : Cl L u u1) : RN u u1 := h.2.1.fm ⟨q1.2.1 _ _ (by decide), q1.2.1 _ _ (by decide)⟩
theorem RX0.rw' (h : RX0 u) (q1 : Cl L u u1) : RW u u1 := h.2.2.1.fm (fun _ _ => ⟨q1.2.1 _ _ (by decide), fun _ _ => q1.2.1 _ _ (by decide)⟩)
theorem RX0.sq (h : RX0 u) (q1 : Cl L u u1) (hM : InvM u) : SQ u u1 := h.2.2.2.1.fm (q1.2.1 _ _ (by decide)) (q1.2.1 _ _ (by decide)) (fun _ _ => q1.2.1 _ _ (by decide)) (m7N hM)
theorem RX0.nw (h : RX0 u) (q1 : Cl L u u1) : NoW u u1 := h.2.2.2.2.1.fm (fun _ _ => q1.2.1 _ _ (by decide)) (fun _ => q1.2.1 _ _ (by decide))
theorem RX0.kp (h : RX0 u) (q1 : Cl L u u1) : KP u u1 := h.2.2.2.2.2.1.fm (q1.2.1 _ _ (by decide)) (q1.2.1 _ _ (by decide)) (fun _ => q1.2.1 _ _ (by decide))
theorem RX0.di (h : RX0 u) (q1 : Cl L u u1) : DI u u1 := h.2.2.2.2.2.2.fm (q1.2.1 _ _ (by decide)) (fun _ => q1.2.1 _ _ (by decide))
/-- behind both calls -/
theorem RX0.st (q2 : Mo L' u1 u2) (hM2 : InvM u2) (a : RT u1 u2) (b : RN u1 u2) (c : RW u1 u2) (d : SQ u1 u2) (e : NoW u1 u2) (f : KP u1 u2) (g : DI u1 u2) : RX0 u2 := ⟨a.fc (fun n k z => q2.2.1 n k (by have := z.2; omega)), b.cc q2.2.2.2 q2.2.1, c.fc (rwK.of (fun n k _ _ => q2.2.1 n k (by omega))), d.fc b.2.1.1 (fun k => by rw [q2.2.2.2]) (fun n k h1 h2 => q2.2.1 n k (by have := lt_2 (pl_ok b.2.1.1); omega)) (m7N hM2), e.fc (fun n k z => q2.2.1 n k (by omega)), f.fc (fun n k _ h2 => q2.2.1 n k h2), g.fc (fun n k _ h2 => q2.2.1 n k (by omega))⟩
/-- parts that a call leaves, by its footprints -/
theorem tRT (h : RX0 u) (q1 : Cl L u u1) (q2 : Mo L' u1 u2) (hL : ∀ n, n < 70 → 62 ≤ n → n ∉ L := by decide) (hL' : 81 ∉ L' ∧ 82 ∉ L' := by decide) : RT u1 u2 := (RT.fc (h.rt q1) (fp_c q1.fp (fun n a b => hL n b a))).fm (fp_m q2.fp hL')
theorem tRN (h : RX0 u) (q1 : Cl L u u1) (q2 : Mo L' u1 u2) (hL : 0 ∉ L ∧ 22 ∉ L ∧ 36 ∉ L := by decide) (hL' : 210 ∉ L' ∧ 211 ∉ L' := by decide) : RN u1 u2 := ((h.rn q1).cl q1 hL.1 (by rcases h.2.1.2.1.1 with z | z <;> rw [z]; exact hL.2.1; exact hL.2.2)).mo q2 hL'
theorem tRW (h : RX0 u) (q1 : Cl L u u1) (q2 : Mo L' u1 u2) (hL : ∀ n, n < 62 → 50 ≤ n → n ∉ L := by decide) (hL' : 78 ∉ L' ∧ 79 ∉ L' := by decide) : RW u1 u2 := ((h.rw' q1).fc (rwK.fp q1.fp hL)).fm (rmK.fp q2.fp hL')
theorem tSQ (h : RX0 u) (q1 : Cl L u u1) (q2 : Mo L' u1 u2) (hM : InvM u) (hL : ∀ n, n < 50 → (n = 0 ∨ 22 ≤ n) → n ∉ L := by decide) (hL' : 210 ∉ L' ∧ 211 ∉ L' ∧ 83 ∉ L' := by decide) : SQ u1 u2 := by
  have e : nN u1 = nN u := by unfold nN; rw [q1.2.1 _ _ (by decide)]
  refine ((h.sq q1 hM).fc h.2.1.2.1.1 (q1.2.2.2 (hL 0 (by decide) (.inl rfl))) (fun n k h1 h2 => ?_) (by rw [e]; exact m7N hM)).fm (fpF q2.fp (by decide) hL'.1) (fpF q2.fp (by decide) hL'.2.1) (fun k hk => fp83 q2.fp hk hL'.2.2) (by rw [e]; exact m7N hM)
  have := h.2.1.2.1.1
  exact fpN q1.fp (hL n (by omega) (.inr (by omega))) (by omega) (by omega)
theorem tNW (h : RX0 u) (q1 : Cl L u u1) (q2 : Mo L' u1 u2) (hL : 7 ∉ L ∧ 8 ∉ L := by decide) (hL' : 210 ∉ L' ∧ 211 ∉ L' ∧ 218 ∉ L' ∧ 219 ∉ L' ∧ 84 ∉ L' := by decide) : NoW u1 u2 := ((h.nw q1).fc (fun n k z => by rcases z with z | z <;> rw [z]; exact fpN q1.fp hL.1 (by decide) (by decide); exact fpN q1.fp hL.2 (by decide) (by decide))).fm (fun k z => by rcases z with z | z | z | z <;> rw [z]; exact fpF q2.fp (by decide) hL'.1; exact fpF q2.fp (by decide) hL'.2.1; exact fpF q2.fp (by decide) hL'.2.2.1; exact fpF q2.fp (by decide) hL'.2.2.2.1) (fun k => fpM q2.fp hL'.2.2.2.2 (by decide))
theorem tKP (h : RX0 u) (q1 : Cl L u u1) (q2 : Mo L' u1 u2) (hL : ∀ n, n < 76 → 70 ≤ n → n ∉ L := by decide) (hL' : 210 ∉ L' ∧ 211 ∉ L' ∧ 87 ∉ L' := by decide) : KP u1 u2 := ((h.kp q1).fc (fun n k a b => fpN q1.fp (hL n b a) b (by omega))).fm (fpF q2.fp (by decide) hL'.1) (fpF q2.fp (by decide) hL'.2.1) (fun k => fpM q2.fp hL'.2.2 (by decide))
theorem tDI (h : RX0 u) (q1 : Cl L u u1) (q2 : Mo L' u1 u2) (hL : ∀ n, n < 18 → 14 ≤ n → n ∉ L := by decide) (hL' : 228 ∉ L' ∧ 92 ∉ L' := by decide) : DI u1 u2 := ((h.di q1).fc (fun n k a b => fpN q1.fp (hL n (by omega) a) (by omega) (by omega))).fm (fpF q2.fp (by decide) hL'.1) (fun k => fpM q2.fp hL'.2 (by decide))
theorem RX0.cl (h : RX0 u) (hM : InvM u) (q : Cl L u u1) (hL : cK L) : RX0 u1 := by
  have hM1 : InvM u1 := hM.clx q
  have q2 : Mo ([] : List Nat) u1 u1 := Mo.rf hM1
  exact RX0.st q2 hM1 (tRT h q q2 (fun n a b => hL n (by omega) (by omega))) (tRN h q q2 ⟨hL 0 (by decide) (by decide), hL 22 (by decide) (by decide), hL 36 (by decide) (by decide)⟩) (tRW h q q2 (fun n a b => hL n (by omega) (by omega))) (tSQ h q q2 hM (fun n a b => hL n (by omega) (by omega))) (tNW h q q2 ⟨hL 7 (by decide) (by decide), hL 8 (by decide) (by decide)⟩) (tKP h q q2 (fun n a b => hL n (by omega) (by omega))) (tDI h q q2 (fun n a b => hL n (by omega) (by omega)))
theorem RX0.mo (h : RX0 u) (hC : InvC u) (hM : InvM u) (q : Mo L u u1) (hL : (81 ∉ L ∧ 82 ∉ L) ∧ (210 ∉ L ∧ 211 ∉ L) ∧ (78 ∉ L ∧ 79 ∉ L) ∧ 83 ∉ L ∧ (218 ∉ L ∧ 219 ∉ L ∧ 84 ∉ L) ∧ 87 ∉ L ∧ 228 ∉ L ∧ 92 ∉ L) : RX0 u1 := by
  have q1 : Cl ([] : List Nat) u u := Cl.rf hC
  obtain ⟨a, b, c, d, e, f, g⟩ := hL
  exact RX0.st q q.1 (tRT h q1 q (by simp) a) (tRN h q1 q (by simp) b) (tRW h q1 q (by simp) c) (tSQ h q1 q hM (by simp) ⟨b.1, b.2, d⟩) (tNW h q1 q (by simp) ⟨b.1, b.2, e.1, e.2.1, e.2.2⟩) (tKP h q1 q (by simp) ⟨b.1, b.2, f⟩) (tDI h q1 q (by simp) g)
/-- the class's Plan, told by a text, where there is one -/
theorem RX0.plk (h : RX0 u) (hM : InvM u) (hn : ¬ mI u 76 10 = 0) : PlK u (mR u 2 10) := by
  have n := hM.nd hn
  have r := h.2.1.2.2
  have s := h.2.2.2.1
  unfold PlK
  rw [r.1, r.2]
  exact ⟨n, hM.m7, fun t ht => by rw [s.1 t ht]; exact (s.2.1 t ht).1, s.2.2.sh (fun t ht => s.1 t ht)⟩
theorem dw_eq (h : RX0 u) (q1 : Cl L u u1) (hM : InvM u) : ∀ k s, s < nN u1 → dwC u k s = dwM u1 (ordF u (mR u 2 10)) k s := by
  intro k s hs
  have r := (h.rn q1).2.2
  have w := h.nw q1
  have sq := h.sq q1 hM
  unfold dwC dwM
  rw [r.1, r.2, w.1, w.2.1]
  have ob : ∀ i, i < nN u1 → ordF u (mR u 2 10) i < nN u1 := sq.2.2.2.1
  have e1 := pws_sh (n := mI u1 76 10) (w := mI u1 76 18) (shut := mI u1 76 19) (dr := mI u 8) ob (fun s hs => sq.1 s hs) (fun i _ => rfl) k
  have e1' : pws (mI u1 76 10) (mI u1 76 18) (mI u1 76 19) (shF u (mR u 2 10)) (ordF u (mR u 2 10)) (mI u1 76 11).toNatClampNeg (mI u 8) k = pws (mI u1 76 10) (mI u1 76 18) (mI u1 76 19) (shM u1) (ordF u (mR u 2 10)) (mI u1 76 11).toNatClampNeg (mI u 8) k := e1
  rw [e1']
  exact pws_cg ob (fun s hs => w.2.2.1 s hs) k s hs
end REL
