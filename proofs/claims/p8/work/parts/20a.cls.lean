/-! ===== loops by a counter ===== -/
theorem i32_succ {x b : Int32} (h : ¬ b ≤ x) : (x + 1).toInt = x.toInt + 1 := by
  have h1 : x.toInt < b.toInt := by
    have := Int32.not_le.mp h
    exact Int32.lt_iff_toInt_lt.mp this
  have h2 := Int32.toInt_lt b
  have h3 := Int32.le_toInt x
  rw [Int32.toInt_add, show (1 : Int32).toInt = 1 by decide]
  have : -2147483648 ≤ x.toInt + 1 ∧ x.toInt + 1 < 2147483648 := by constructor <;> omega
  rw [Int.bmod_eq_of_le (by omega) (by omega)]
theorem upI (b : Int32) (M : Int32 → Prop) (step : ∀ x, (¬ b ≤ x → M (x + 1)) → M x) : ∀ x, M x := by
  have key : ∀ (n : Nat) (x : Int32), (b.toInt - x.toInt).toNat ≤ n → M x := by
    intro n
    induction n with
    | zero => intro x hx; exact step x (fun h => absurd (Int32.le_iff_toInt_le.mpr (by omega)) h)
    | succ n ih =>
      intro x hx
      refine step x (fun h => ih (x + 1) ?_)
      have h1 := i32_succ h
      have h2 : x.toInt < b.toInt := Int32.lt_iff_toInt_lt.mp (Int32.not_le.mp h)
      omega
  exact fun x => key _ x (Nat.le_refl _)
/-! ===== what the class's calls leave ===== -/
def wr (n k : Nat) : Prop := n < 76 ∧ (S0 n).1 ≠ 2 ∧ ¬ ((S0 n).1 = 6 ∧ k = 1)
/-- nothing of the reference, no Plan's own numbers, no Strip's size is changed; no reference is -/
def Cq (u u' : pM) : Prop := (∀ n k, ¬ wr n k → mI u' n k = mI u n k) ∧ mR u' = mR u
def InvC (u : pM) : Prop := (∀ o, okS o 6 → mI u o 1 ≤ Int32.ofNat (S0 (o + 1)).2) ∧ ∀ o, okS o 2 → mI u o 0 ≤ 30
def Cl (u u' : pM) : Prop := InvC u' ∧ ∀ n k, 76 ≤ n → mI u' n k = mI u n k
theorem Cq.rf {u : pM} : Cq u u := ⟨fun _ _ _ => rfl, rfl⟩
theorem Cq.tr {u v w : pM} (h : Cq u v) (h2 : Cq v w) : Cq u w := ⟨fun n k q => (h2.1 n k q).trans (h.1 n k q), h2.2.trans h.2⟩
theorem Cq.cl {u u' : pM} (h : Cq u u') (hi : InvC u) : Cl u u' := ⟨⟨fun o ho => by rw [h.1 o 1 (fun q => q.2.2 ⟨ho.2.2, rfl⟩)]; exact hi.1 o ho, fun o ho => by rw [h.1 o 0 (fun q => q.2.1 ho.2.2)]; exact hi.2 o ho⟩, fun n k q => h.1 n k (fun z => by have := z.1; omega)⟩
theorem Cl.rf {u : pM} (hi : InvC u) : Cl u u := ⟨hi, fun _ _ _ => rfl⟩
theorem Cl.tr {u v w : pM} (h : Cl u v) (h2 : Cl v w) : Cl u w := ⟨h2.1, fun n k q => (h2.2 n k q).trans (h.2 n k q)⟩
theorem Cl.cq {u v w : pM} (h : Cl u v) (h2 : Cq v w) : Cl u w := h.tr (h2.cl h.1)
theorem Cq.pI {u u' : pM} {n k : Nat} {v : Int32} (h : Cq u u') (hw : wr n k) : Cq u (pI u' n k v) := ⟨fun a b q => by
  show up2 (mI u') n k v a b = _
  rw [up2, if_neg (fun z => q (by rw [z.1, z.2]; exact hw))]
  exact h.1 a b q, h.2⟩
theorem Cq.pL {u u' : pM} {n k : Nat} {v : Int64} (h : Cq u u') : Cq u (pL u' n k v) := h
theorem Cq.cpI {u u' : pM} {a b sp dp n : Nat} (h : Cq u u') (hw : ∀ k, wr b k) : Cq u (cpI u' a b sp dp n) := ⟨fun x y q => by
  show (if x = b then va_cpy (mI u' a) (mI u' b) sp dp n y else mI u' x y) = _
  rw [if_neg (fun z => q (by rw [z]; exact hw y))]
  exact h.1 x y q, h.2⟩
theorem lt_5 {n : Nat} (h : okS n 5) : n < 75 := (show ∀ n, n < 95 → (S0 n).1 = 5 → n < 75 from by decide +kernel) n h.2.1 h.2.2
theorem lt_6 {n : Nat} (h : okS n 6) : n < 75 := (show ∀ n, n < 95 → (S0 n).1 = 6 → n < 75 from by decide +kernel) n h.2.1 h.2.2
theorem lt_3 {n : Nat} (h : okS n 3) : n < 75 := (show ∀ n, n < 95 → (S0 n).1 = 3 → n < 75 from by decide +kernel) n h.2.1 h.2.2
theorem lt_4 {n : Nat} (h : okS n 4) : n < 75 := (show ∀ n, n < 95 → (S0 n).1 = 4 → n < 75 from by decide +kernel) n h.2.1 h.2.2
theorem lt_2 {n : Nat} (h : okS n 2) : n < 49 := (show ∀ n, n < 95 → (S0 n).1 = 2 → n < 49 from by decide +kernel) n h.2.1 h.2.2
theorem wr_k {n kd k : Nat} (h : okS n kd) (h1 : n < 76) (h2 : kd ≠ 2) (h6 : kd ≠ 6) : wr n k := ⟨h1, by rw [h.2.2]; exact h2, fun q => h6 (h.2.2.symm.trans q.1)⟩
theorem wr_5 {n k : Nat} (h : okS n 5) : wr n k := wr_k h (by have := lt_5 h; omega) (by decide) (by decide)
theorem wr_5a {n k : Nat} (h : okS n 5) : wr (n + 1) k := wr_k (os_5_2 h) (by have := lt_5 h; omega) (by decide) (by decide)
theorem wr_6a {n k : Nat} (h : okS n 6) : wr (n + 1) k := wr_k (os_6_0 h) (by have := lt_6 h; omega) (by decide) (by decide)
theorem wr_3 {n k : Nat} (h : okS n 3) : wr n k := wr_k h (by have := lt_3 h; omega) (by decide) (by decide)
theorem wr_4 {n k : Nat} (h : okS n 4) : wr n k := wr_k h (by have := lt_4 h; omega) (by decide) (by decide)
theorem wr_D {k : Nat} : wr 2 k := wr_k ok_2 (by decide) (by decide) (by decide)
theorem cq_spS {u u' : pM} {o : Nat} {i v : Int32} (h : Cq u u') (ho : okS o 6) : Cq u (spS u' o i v) := by
  unfold spS
  split
  · exact h.pI (wr_6a ho)
  · exact h
theorem cq_snS {u u' : pM} {o : Nat} {i v : Int32} (h : Cq u u') (ho : okS o 5) : Cq u (snS u' o i v) := by
  unfold snS
  split
  · exact h.pI (wr_5a ho)
  · exact h
theorem cq_snB {u u' : pM} {o p : Nat} (h : Cq u u') (ho : okS o 5) : Cq u (snB u' o p) := ((h.pI (wr_5 ho)).pI (wr_5 ho)).cpI (fun _ => wr_5a ho)
theorem cq_dF {u u' : pM} {f : Int32} (h : Cq u u') : Cq u (dF u' f) := by
  unfold dF
  split
  · exact (h.pI wr_D).pI (wr_k (n := 21) (kd := 100) (by decide) (by decide) (by decide) (by decide))
  · exact h
theorem cq_plan {u u' : pM} {o k : Nat} (h : Cq u u') (ho : okS o 2) : mI u' o k = mI u o k := h.1 o k (fun q => q.2.1 ho.2.2)
theorem cq_size {u u' : pM} {o : Nat} (h : Cq u u') (ho : okS o 6) : mI u' o 1 = mI u o 1 := h.1 o 1 (fun q => q.2.2 ⟨ho.2.2, rfl⟩)
section CLS
variable {G : pG} {u : pM}
/-! Arrays.fill -/
theorem c_fill {o0 : Nat} {x1 : Int32} (k0 : okS o0 100) (h76 : o0 < 76) : Ws G ja_fill 0 [(0, .ref o0), (1, .int x1)] [] u (RV fun u' => Cq u u') := by
  refine sg_ja_fill_0 k0 ?_
  have key : ∀ x v, 0 ≤ x → Cq u v → Ws G ja_fill 5 [(0, .ref o0), (1, .int x1), (2, .int x), (3, .int (Int32.ofNat (S0 o0).2))] [] v (RV fun u' => Cq u u') := by
    refine upI (Int32.ofNat (S0 o0).2) _ (fun x ih v h0 hq => ?_)
    refine sg_ja_fill_5 k0 ⟨fun _ => ⟨rfl, hq⟩, fun c => ⟨vin h0 (Int32.not_le.mp c) (S0_lt _), ih c _ ?_ (hq.pI (wr_k k0 h76 (by decide) (by decide)))⟩⟩
    have := S0_lt o0
    grind
  exact key 0 u (by decide) Cq.rf
theorem c_fillJ {o0 : Nat} {x1 : Int64} (k0 : okS o0 101) : Ws G ja_fillJ 0 [(0, .ref o0), (1, .long x1)] [] u (RV fun u' => Cq u u') := by
  refine sg_ja_fillJ_0 k0 ?_
  have key : ∀ x v, 0 ≤ x → Cq u v → Ws G ja_fillJ 6 [(0, .ref o0), (1, .long x1), (3, .int x), (4, .int (Int32.ofNat (S0 o0).2))] [] v (RV fun u' => Cq u u') := by
    refine upI (Int32.ofNat (S0 o0).2) _ (fun x ih v h0 hq => ?_)
    refine sg_ja_fillJ_6 k0 ⟨fun _ => ⟨rfl, hq⟩, fun c => ⟨vin h0 (Int32.not_le.mp c) (S0_lt _), ih c _ ?_ hq.pL⟩⟩
    grind
  exact key 0 u (by decide) Cq.rf
/-! Standing -/
theorem c_passOne {o0 o1 : Nat} (k0 : okS o0 5) (k1 : okS o1 2) : Ws G Sn_passOne 0 [(0, .ref o0), (1, .ref o1)] [] u (RV fun u' => Cq u u') := by
  refine sg_Sn_passOne_0 k0 k1 ?_
  have key : ∀ x v (x2 : Int32), 0 ≤ x → Cq u v → Ws G Sn_passOne 7 [(0, .ref o0), (1, .ref o1), (2, .int x2), (3, .int x)] [] v (RV fun u' => Cq u u') := by
    refine upI 7 _ (fun x ih v x2 h0 hq => ?_)
    have inner : ∀ x8 (c : ¬ (7 : Int32) ≤ x) (x4 x6 x7 : Int32), Ws G Sn_passOne 75 [(0, .ref o0), (1, .ref o1), (2, .int x2), (3, .int x), (4, .int x4), (6, .int x6), (7, .int x7), (8, .int x8)] [] v (RV fun u' => Cq u u') := by
      refine upI (mI v o1 0) _ (fun x8 ih8 c x4 x6 x7 => ?_)
      refine sg_Sn_passOne_75 k0 k1 ⟨fun _ => ih c _ _ (by grind) (cq_snS hq k0), fun c8 => ⟨fun _ => ih8 c8 c _ _ _, fun _ => ih c _ _ (by grind) (cq_snS hq k0)⟩⟩
    refine sg_Sn_passOne_7 k0 k1 ⟨fun _ => ⟨rfl, hq.pI (wr_5 k0)⟩, fun _ => ⟨fun _ => ⟨rfl, hq.pI (wr_5 k0)⟩, fun c => ⟨vin h0 (Int32.not_le.mp c) (by decide), fun _ => inner _ c _ _ _, fun _ => inner _ c _ _ _⟩⟩⟩
  exact key 0 u _ (by decide) Cq.rf
theorem c_pass {o0 o1 : Nat} {x2 : Int32} (k0 : okS o0 5) (k1 : okS o1 2) : Ws G Sn_pass 0 [(0, .ref o0), (1, .ref o1), (2, .int x2)] [] u (RV fun u' => Cq u u') := by
  refine sg_Sn_pass_0 k0 k1 ?_
  have key : ∀ x v, Cq u v → Ws G Sn_pass 2 [(0, .ref o0), (1, .ref o1), (2, .int x2), (3, .int x)] [] v (RV fun u' => Cq u u') := by
    refine upI x2 _ (fun x ih v hq => ?_)
    refine sg_Sn_pass_2 k0 k1 ⟨fun _ => ⟨rfl, hq⟩, fun c => (c_passOne k0 k1).mono ?_⟩
    rintro r w _ ⟨rfl, h⟩
    exact ⟨rfl, ih c w (hq.tr h)⟩
  exact key 0 u Cq.rf
end CLS
