/-! ===== loops by a counter ===== -/
theorem i32_succ {x b : Int32} (h : ¬ b ≤ x) : (x + 1).toInt = x.toInt + 1 := by
  have h1 : x.toInt < b.toInt := by
    have := Int32.not_le.mp h
    exact Int32.lt_iff_toInt_lt.mp this
  have h2 := Int32.toInt_lt b
  have h3 := Int32.le_toInt x
  rw [Int32.toInt_add, show (1 : Int32).toInt = 1 by decide]
  have : -2147483648 ≤ x.toInt + 1 ∧ x.toInt + 1 < 2147483648 := by constructor <;> omega
  rw [Int.bmod_eq_of_le (by omega) (by omega)]
theorem upI (b : Int32) (M : Int32 → Prop) (step : ∀ x, (¬ b ≤ x → M (x + 1)) → M x) : ∀ x, M x := by
  have key : ∀ (n : Nat) (x : Int32), (b.toInt - x.toInt).toNat ≤ n → M x := by
    intro n
    induction n with
    | zero => intro x hx; exact step x (fun h => absurd (Int32.le_iff_toInt_le.mpr (by omega)) h)
    | succ n ih =>
      intro x hx
      refine step x (fun h => ih (x + 1) ?_)
      have h1 := i32_succ h
      have h2 : x.toInt < b.toInt := Int32.lt_iff_toInt_lt.mp (Int32.not_le.mp h)
      omega
  exact fun x => key _ x (Nat.le_refl _)
/-! ===== which cells a call may write: names, the objects' fields apart ===== -/
def cd (n k : Nat) : Nat := if n = 76 then (if k < 33 then 200 + k else 233) else if n = 2 then (if k < 16 then 300 + k else 316) else if n = 83 ∧ 35 ≤ k then 183 else n
def LgQ (u u' : pM) : Prop := mL u' 2 13 = mL u 2 13 ∧ mL u' 2 14 = mL u 2 14 ∧ mL u' 76 3 = mL u 76 3 ∧ mL u' 76 4 = mL u 76 4
def LgF (L : List Nat) (u u' : pM) : Prop := (cd 2 13 ∉ L → mL u' 2 13 = mL u 2 13) ∧ (cd 2 14 ∉ L → mL u' 2 14 = mL u 2 14) ∧ (cd 76 3 ∉ L → mL u' 76 3 = mL u 76 3) ∧ (cd 76 4 ∉ L → mL u' 76 4 = mL u 76 4)
theorem LgQ.lk {L : List Nat} {u u' : pM} (h : LgQ u u') : LgF L u u' := ⟨fun _ => h.1, fun _ => h.2.1, fun _ => h.2.2.1, fun _ => h.2.2.2⟩
def mRQ (u : pM) : (Nat → Nat → Nat) × (Nat → Nat → Int64) := (mR u, mL u)
theorem mRQ_r {u u' : pM} (h : mRQ u' = mRQ u) : mR u' = mR u := by
  have e := congrArg Prod.fst h
  exact e
theorem mRQ_l {u u' : pM} (h : mRQ u' = mRQ u) : LgQ u u' := by
  have e0 := congrArg Prod.snd h
  have e : mL u' = mL u := e0
  unfold LgQ
  rw [e]
  exact ⟨rfl, rfl, rfl, rfl⟩
def Fp (L : List Nat) (u u' : pM) : Prop := (∀ n k, cd n k ∉ L → mI u' n k = mI u n k) ∧ LgF L u u'
theorem Fp.rf {L : List Nat} {u : pM} : Fp L u u := ⟨fun _ _ _ => rfl, fun _ => rfl, fun _ => rfl, fun _ => rfl, fun _ => rfl⟩
theorem Fp.tr {L : List Nat} {u v w : pM} (h : Fp L u v) (h2 : Fp L v w) : Fp L u w := ⟨fun n k q => (h2.1 n k q).trans (h.1 n k q), fun q => (h2.2.1 q).trans (h.2.1 q), fun q => (h2.2.2.1 q).trans (h.2.2.1 q), fun q => (h2.2.2.2.1 q).trans (h.2.2.2.1 q), fun q => (h2.2.2.2.2 q).trans (h.2.2.2.2 q)⟩
theorem Fp.mono {L L' : List Nat} {u v : pM} (h : Fp L u v) (hL : ∀ x ∈ L, x ∈ L') : Fp L' u v := ⟨fun n k q => h.1 n k (fun z => q (hL _ z)), fun q => h.2.1 (fun z => q (hL _ z)), fun q => h.2.2.1 (fun z => q (hL _ z)), fun q => h.2.2.2.1 (fun z => q (hL _ z)), fun q => h.2.2.2.2 (fun z => q (hL _ z))⟩
theorem Fp.pI {L : List Nat} {u u' : pM} {n k : Nat} {v : Int32} (h : Fp L u u') (hm : cd n k ∈ L) : Fp L u (pI u' n k v) := ⟨fun a b q => by
  show up2 (mI u') n k v a b = _
  rw [up2, if_neg (fun z => q (by rw [z.1, z.2]; exact hm))]
  exact h.1 a b q, h.2⟩
theorem Fp.pL {L : List Nat} {u u' : pM} {n k : Nat} {v : Int64} (h : Fp L u u') (hm : cd n k ∈ L) : Fp L u (pL u' n k v) := by
  have key : ∀ a b, cd a b ∉ L → up2 (mL u') n k v a b = mL u' a b := fun a b q => by
    rw [up2, if_neg (fun z => q (by rw [z.1, z.2]; exact hm))]
  exact ⟨h.1, fun q => (key _ _ q).trans (h.2.1 q), fun q => (key _ _ q).trans (h.2.2.1 q), fun q => (key _ _ q).trans (h.2.2.2.1 q), fun q => (key _ _ q).trans (h.2.2.2.2 q)⟩
theorem Fp.pR {L : List Nat} {u u' : pM} {n k v : Nat} (h : Fp L u u') : Fp L u (pR u' n k v) := h
theorem Fp.cpI {L : List Nat} {u u' : pM} {a b sp dp n : Nat} (h : Fp L u u') (hm : ∀ k, cd b k ∈ L) : Fp L u (cpI u' a b sp dp n) := ⟨fun x y q => by
  show (if x = b then va_cpy (mI u' a) (mI u' b) sp dp n y else mI u' x y) = _
  rw [if_neg (fun z => q (by rw [z]; exact hm y))]
  exact h.1 x y q, h.2⟩
theorem cd_n {n k : Nat} (h : n ≠ 76 ∧ n ≠ 2 ∧ n ≠ 83) : cd n k = n := by
  unfold cd
  rw [if_neg h.1, if_neg h.2.1, if_neg (fun z => h.2.2 z.1)]
theorem cd_k {n kd k : Nat} (h : okS n kd) (h7 : kd ≠ 7 ∧ kd ≠ 8) (h76 : n < 76) : cd n k = n := cd_n ⟨by omega, fun e => by
  rw [e] at h
  exact h7.1 h.2.2.symm, by omega⟩
/-! ===== what the class's calls leave ===== -/
def wr (n k : Nat) : Prop := n < 76 ∧ (S0 n).1 ≠ 2 ∧ ¬ ((S0 n).1 = 6 ∧ k = 1)
/-- nothing of the reference, no Plan's own numbers, no Strip's size is changed; no reference is; and no cell but those of L -/
def Cq (L : List Nat) (u u' : pM) : Prop := (∀ n k, ¬ wr n k → mI u' n k = mI u n k) ∧ mR u' = mR u ∧ Fp L u u'
def InvC (u : pM) : Prop := (∀ o, okS o 6 → mI u o 1 ≤ Int32.ofNat (S0 (o + 1)).2) ∧ ∀ o, okS o 2 → mI u o 0 ≤ 30
/-- 0 of L: the class's own two references may be changed -/
def Cl (L : List Nat) (u u' : pM) : Prop := InvC u' ∧ (∀ n k, 76 ≤ n → mI u' n k = mI u n k) ∧ Fp L u u' ∧ (0 ∉ L → ∀ k, mR u' 2 k = mR u 2 k)
section FRM
variable {L : List Nat}
theorem Cq.rf {u : pM} : Cq L u u := ⟨fun _ _ _ => rfl, rfl, Fp.rf⟩
theorem Cq.tr {u v w : pM} (h : Cq L u v) (h2 : Cq L v w) : Cq L u w := ⟨fun n k q => (h2.1 n k q).trans (h.1 n k q), h2.2.1.trans h.2.1, h.2.2.tr h2.2.2⟩
theorem Cq.cl {u u' : pM} (h : Cq L u u') (hi : InvC u) : Cl L u u' := ⟨⟨fun o ho => by rw [h.1 o 1 (fun q => q.2.2 ⟨ho.2.2, rfl⟩)]; exact hi.1 o ho, fun o ho => by rw [h.1 o 0 (fun q => q.2.1 ho.2.2)]; exact hi.2 o ho⟩, fun n k q => h.1 n k (fun z => by have := z.1; omega), h.2.2, fun _ k => by rw [h.2.1]⟩
theorem Cl.rf {u : pM} (hi : InvC u) : Cl L u u := ⟨hi, fun _ _ _ => rfl, Fp.rf, fun _ _ => rfl⟩
theorem Cl.tr {u v w : pM} (h : Cl L u v) (h2 : Cl L v w) : Cl L u w := ⟨h2.1, fun n k q => (h2.2.1 n k q).trans (h.2.1 n k q), h.2.2.1.tr h2.2.2.1, fun z k => (h2.2.2.2 z k).trans (h.2.2.2 z k)⟩
theorem Cl.fp {u v : pM} (h : Cl L u v) : Fp L u v := h.2.2.1
theorem Cl.cq {u v w : pM} (h : Cl L u v) (h2 : Cq L v w) : Cl L u w := h.tr (h2.cl h.1)
theorem Cq.pI {u u' : pM} {n k : Nat} {v : Int32} (h : Cq L u u') (hw : wr n k) (hm : cd n k ∈ L) : Cq L u (pI u' n k v) := ⟨fun a b q => by
  show up2 (mI u') n k v a b = _
  rw [up2, if_neg (fun z => q (by rw [z.1, z.2]; exact hw))]
  exact h.1 a b q, h.2.1, h.2.2.pI hm⟩
theorem Cq.pL {u u' : pM} {n k : Nat} {v : Int64} (h : Cq L u u') (hm : cd n k ∈ L) : Cq L u (pL u' n k v) := ⟨h.1, h.2.1, h.2.2.pL hm⟩
theorem Cq.cpI {u u' : pM} {a b sp dp n : Nat} (h : Cq L u u') (hw : ∀ k, wr b k) (hm : ∀ k, cd b k ∈ L) : Cq L u (cpI u' a b sp dp n) := ⟨fun x y q => by
  show (if x = b then va_cpy (mI u' a) (mI u' b) sp dp n y else mI u' x y) = _
  rw [if_neg (fun z => q (by rw [z]; exact hw y))]
  exact h.1 x y q, h.2.1, h.2.2.cpI hm⟩
theorem lt_5 {n : Nat} (h : okS n 5) : n < 75 := (show ∀ n, n < 95 → (S0 n).1 = 5 → n < 75 from by decide +kernel) n h.2.1 h.2.2
theorem lt_6 {n : Nat} (h : okS n 6) : n < 75 := (show ∀ n, n < 95 → (S0 n).1 = 6 → n < 75 from by decide +kernel) n h.2.1 h.2.2
theorem lt_3 {n : Nat} (h : okS n 3) : n < 75 := (show ∀ n, n < 95 → (S0 n).1 = 3 → n < 75 from by decide +kernel) n h.2.1 h.2.2
theorem lt_4 {n : Nat} (h : okS n 4) : n < 75 := (show ∀ n, n < 95 → (S0 n).1 = 4 → n < 75 from by decide +kernel) n h.2.1 h.2.2
theorem lt_2 {n : Nat} (h : okS n 2) : n < 49 := (show ∀ n, n < 95 → (S0 n).1 = 2 → n < 49 from by decide +kernel) n h.2.1 h.2.2
theorem wr_k {n kd k : Nat} (h : okS n kd) (h1 : n < 76) (h2 : kd ≠ 2) (h6 : kd ≠ 6) : wr n k := ⟨h1, by rw [h.2.2]; exact h2, fun q => h6 (h.2.2.symm.trans q.1)⟩
theorem wr_5 {n k : Nat} (h : okS n 5) : wr n k := wr_k h (by have := lt_5 h; omega) (by decide) (by decide)
theorem wr_5a {n k : Nat} (h : okS n 5) : wr (n + 1) k := wr_k (os_5_2 h) (by have := lt_5 h; omega) (by decide) (by decide)
theorem wr_6a {n k : Nat} (h : okS n 6) : wr (n + 1) k := wr_k (os_6_0 h) (by have := lt_6 h; omega) (by decide) (by decide)
theorem wr_3 {n k : Nat} (h : okS n 3) : wr n k := wr_k h (by have := lt_3 h; omega) (by decide) (by decide)
theorem wr_4 {n k : Nat} (h : okS n 4) : wr n k := wr_k h (by have := lt_4 h; omega) (by decide) (by decide)
theorem wr_D {k : Nat} : wr 2 k := wr_k ok_2 (by decide) (by decide) (by decide)
abbrev In2 (L : List Nat) (o : Nat) : Prop := o ∈ L ∧ o + 1 ∈ L
theorem cm_5 {n k : Nat} (h : okS n 5) (m : In2 L n) : cd n k ∈ L := by rw [cd_k h (by decide) (by have := lt_5 h; omega)]; exact m.1
theorem cm_5a {n k : Nat} (h : okS n 5) (m : In2 L n) : cd (n + 1) k ∈ L := by rw [cd_k (os_5_2 h) (by decide) (by have := lt_5 h; omega)]; exact m.2
theorem cm_6 {n k : Nat} (h : okS n 6) (m : In2 L n) : cd n k ∈ L := by rw [cd_k h (by decide) (by have := lt_6 h; omega)]; exact m.1
theorem cm_6a {n k : Nat} (h : okS n 6) (m : In2 L n) : cd (n + 1) k ∈ L := by rw [cd_k (os_6_0 h) (by decide) (by have := lt_6 h; omega)]; exact m.2
theorem cm_n {n k : Nat} (h : n ≠ 76 ∧ n ≠ 2 ∧ n ≠ 83 ∧ n ∈ L) : cd n k ∈ L := by rw [cd_n ⟨h.1, h.2.1, h.2.2.1⟩]; exact h.2.2.2
theorem cd_m {k : Nat} (h : k < 33) : cd 76 k = 200 + k := by unfold cd; rw [if_pos rfl, if_pos h]
theorem cd_D {k : Nat} (h : k < 16) : cd 2 k = 300 + k := by unfold cd; rw [if_neg (by decide), if_pos rfl, if_pos h]
theorem cm_D {k : Nat} (h0 : k < 16) (h : 300 + k ∈ L) : cd 2 k ∈ L := by rw [cd_D h0]; exact h
theorem cq_spS {u u' : pM} {o : Nat} {i v : Int32} (h : Cq L u u') (ho : okS o 6) (mo : In2 L o) : Cq L u (spS u' o i v) := by
  unfold spS
  split
  · exact h.pI (wr_6a ho) (cm_6a ho mo)
  · exact h
theorem cq_snS {u u' : pM} {o : Nat} {i v : Int32} (h : Cq L u u') (ho : okS o 5) (mo : In2 L o) : Cq L u (snS u' o i v) := by
  unfold snS
  split
  · exact h.pI (wr_5a ho) (cm_5a ho mo)
  · exact h
theorem cq_snB {u u' : pM} {o p : Nat} (h : Cq L u u') (ho : okS o 5) (mo : In2 L o) : Cq L u (snB u' o p) := ((h.pI (wr_5 ho) (cm_5 ho mo)).pI (wr_5 ho) (cm_5 ho mo)).cpI (fun _ => wr_5a ho) (fun _ => cm_5a ho mo)
theorem cq_dF {u u' : pM} {f : Int32} (h : Cq L u u') (m : 315 ∈ L ∧ 21 ∈ L) : Cq L u (dF u' f) := by
  unfold dF
  split
  · exact (h.pI (k := 15) wr_D (cm_D (by decide) m.1)).pI (wr_k (n := 21) (kd := 100) (by decide) (by decide) (by decide) (by decide)) (cm_n ⟨by decide, by decide, by decide, m.2⟩)
  · exact h
theorem cq_plan {u u' : pM} {o k : Nat} (h : Cq L u u') (ho : okS o 2) : mI u' o k = mI u o k := h.1 o k (fun q => q.2.1 ho.2.2)
theorem cq_size {u u' : pM} {o : Nat} (h : Cq L u u') (ho : okS o 6) : mI u' o 1 = mI u o 1 := h.1 o 1 (fun q => q.2.2 ⟨ho.2.2, rfl⟩)
section CLS
variable {G : pG} {u : pM}
/-! Arrays.fill -/
theorem c_fill {o0 : Nat} {x1 : Int32} (k0 : okS o0 100) (h76 : o0 < 76) (m0 : o0 ∈ L) : Ws G ja_fill 0 [(0, .ref o0), (1, .int x1)] [] u (RV fun u' => Cq L u u') := by
  refine sg_ja_fill_0 k0 ?_
  have key : ∀ x v, 0 ≤ x → Cq L u v → Ws G ja_fill 5 [(0, .ref o0), (1, .int x1), (2, .int x), (3, .int (Int32.ofNat (S0 o0).2))] [] v (RV fun u' => Cq L u u') := by
    refine upI (Int32.ofNat (S0 o0).2) _ (fun x ih v h0 hq => ?_)
    refine sg_ja_fill_5 k0 ⟨fun _ => ⟨rfl, hq⟩, fun c => ⟨vin h0 (Int32.not_le.mp c) (S0_lt _), ih c _ ?_ (hq.pI (wr_k k0 h76 (by decide) (by decide)) (by rw [cd_k k0 (by decide) h76]; exact m0))⟩⟩
    have := S0_lt o0
    grind
  exact key 0 u (by decide) Cq.rf
theorem c_fillJ {o0 : Nat} {x1 : Int64} (k0 : okS o0 101) (h76 : o0 < 76) (m0 : o0 ∈ L) : Ws G ja_fillJ 0 [(0, .ref o0), (1, .long x1)] [] u (RV fun u' => Cq L u u') := by
  refine sg_ja_fillJ_0 k0 ?_
  have key : ∀ x v, 0 ≤ x → Cq L u v → Ws G ja_fillJ 6 [(0, .ref o0), (1, .long x1), (3, .int x), (4, .int (Int32.ofNat (S0 o0).2))] [] v (RV fun u' => Cq L u u') := by
    refine upI (Int32.ofNat (S0 o0).2) _ (fun x ih v h0 hq => ?_)
    refine sg_ja_fillJ_6 k0 ⟨fun _ => ⟨rfl, hq⟩, fun c => ⟨vin h0 (Int32.not_le.mp c) (S0_lt _), ih c _ ?_ (hq.pL (by rw [cd_k k0 (by decide) h76]; exact m0))⟩⟩
    grind
  exact key 0 u (by decide) Cq.rf
/-! Standing -/
theorem c_passOne {o0 o1 : Nat} (k0 : okS o0 5) (m0 : In2 L o0) (k1 : okS o1 2) : Ws G Sn_passOne 0 [(0, .ref o0), (1, .ref o1)] [] u (RV fun u' => Cq L u u') := by
  refine sg_Sn_passOne_0 k0 k1 ?_
  have key : ∀ x v (x2 : Int32), 0 ≤ x → Cq L u v → Ws G Sn_passOne 7 [(0, .ref o0), (1, .ref o1), (2, .int x2), (3, .int x)] [] v (RV fun u' => Cq L u u') := by
    refine upI 7 _ (fun x ih v x2 h0 hq => ?_)
    have inner : ∀ x8 (c : ¬ (7 : Int32) ≤ x) (x4 x6 x7 : Int32), Ws G Sn_passOne 75 [(0, .ref o0), (1, .ref o1), (2, .int x2), (3, .int x), (4, .int x4), (6, .int x6), (7, .int x7), (8, .int x8)] [] v (RV fun u' => Cq L u u') := by
      refine upI (mI v o1 0) _ (fun x8 ih8 c x4 x6 x7 => ?_)
      refine sg_Sn_passOne_75 k0 k1 ⟨fun _ => ih c _ _ (by grind) (cq_snS hq k0 m0), fun c8 => ⟨fun _ => ih8 c8 c _ _ _, fun _ => ih c _ _ (by grind) (cq_snS hq k0 m0)⟩⟩
    refine sg_Sn_passOne_7 k0 k1 ⟨fun _ => ⟨rfl, hq.pI (wr_5 k0) (cm_5 k0 m0)⟩, fun _ => ⟨fun _ => ⟨rfl, hq.pI (wr_5 k0) (cm_5 k0 m0)⟩, fun c => ⟨vin h0 (Int32.not_le.mp c) (by decide), fun _ => inner _ c _ _ _, fun _ => inner _ c _ _ _⟩⟩⟩
  exact key 0 u _ (by decide) Cq.rf
theorem c_pass {o0 o1 : Nat} {x2 : Int32} (k0 : okS o0 5) (m0 : In2 L o0) (k1 : okS o1 2) : Ws G Sn_pass 0 [(0, .ref o0), (1, .ref o1), (2, .int x2)] [] u (RV fun u' => Cq L u u') := by
  refine sg_Sn_pass_0 k0 k1 ?_
  have key : ∀ x v, Cq L u v → Ws G Sn_pass 2 [(0, .ref o0), (1, .ref o1), (2, .int x2), (3, .int x)] [] v (RV fun u' => Cq L u u') := by
    refine upI x2 _ (fun x ih v hq => ?_)
    refine sg_Sn_pass_2 k0 k1 ⟨fun _ => ⟨rfl, hq⟩, fun c => (c_passOne k0 m0 k1).mono ?_⟩
    rintro r w _ ⟨rfl, h⟩
    exact ⟨rfl, ih c w (hq.tr h)⟩
  exact key 0 u Cq.rf
end CLS
end FRM
