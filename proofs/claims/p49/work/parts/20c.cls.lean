/-! ===== Reader, Plan ===== -/
section CLS
variable {G : pG} {u w : pM} {M : pY} {pc : Nat} {l : pLo} {st : List Value} {L : List Nat}
theorem kI {P P' : Int32 → pM → Prop} (h : Ws G M pc l st w (RI P)) (k : ∀ a v, P a v → P' a v) : Ws G M pc l st w (RI P') := h.mono (fun _ z _ ⟨x, e, hp⟩ => ⟨x, e, k x z hp⟩)
theorem kJ {P P' : Int64 → pM → Prop} (h : Ws G M pc l st w (RJ P)) (k : ∀ a v, P a v → P' a v) : Ws G M pc l st w (RJ P') := h.mono (fun _ z _ ⟨x, e, hp⟩ => ⟨x, e, k x z hp⟩)
theorem kV {P P' : pM → Prop} (h : Ws G M pc l st w (RV P)) (k : ∀ v, P v → P' v) : Ws G M pc l st w (RV P') := h.mono (fun _ z _ ⟨e, hp⟩ => ⟨e, k z hp⟩)
theorem kIe {P' : Int32 → pM → Prop} (h : Ws G M pc l st w (RI fun _ u' => w = u')) (k : ∀ a, P' a w) : Ws G M pc l st w (RI P') := kI h (fun a v e => e ▸ k a)
theorem kJe {P' : Int64 → pM → Prop} (h : Ws G M pc l st w (RJ fun _ u' => w = u')) (k : ∀ a, P' a w) : Ws G M pc l st w (RJ P') := kJ h (fun a v e => e ▸ k a)
theorem kVq {P' : pM → Prop} (h : Ws G M pc l st w (RV fun u' => Cq L w u')) (hq : Cq L u w) (k : ∀ v, Cq L u v → P' v) : Ws G M pc l st w (RV P') := kV h (fun v e => k v (hq.tr e))
theorem kIq {P' : Int32 → pM → Prop} (h : Ws G M pc l st w (RI fun _ u' => Cq L w u')) (hq : Cq L u w) (k : ∀ a v, Cq L u v → P' a v) : Ws G M pc l st w (RI P') := kI h (fun a v e => k a v (hq.tr e))
theorem lf {e : Int32} (hC : InvC u) (h : Cq L u w) : (RI fun _ u' => Cl L u u') (some (.int e)) w := ⟨e, rfl, h.cl hC⟩
abbrev PlW (L : List Nat) (o : Nat) : Prop := ∀ n, o ≤ n → n < o + 14 → n ∈ L
theorem gt_2 {n : Nat} (h : okS n 2) : 22 ≤ n ∧ n ≤ 36 := (show ∀ n, n < 95 → (S0 n).1 = 2 → 22 ≤ n ∧ n ≤ 36 from by decide +kernel) n h.2.1 h.2.2
theorem m_2 {n k : Nat} (m : n ∈ L) (h : okS n 2) : cd n k ∈ L := by rw [cd_k h (by decide) (by have := lt_2 h; omega)]; exact m
theorem m_3 {n k : Nat} (m : n ∈ L) (h : okS n 3) : cd n k ∈ L := by rw [cd_k h (by decide) (by have := lt_3 h; omega)]; exact m
theorem m_4 {n k : Nat} (m : n ∈ L) (h : okS n 4) : cd n k ∈ L := by rw [cd_k h (by decide) (by have := lt_4 h; omega)]; exact m
theorem sh_in {o : Nat} {i : Nat} (h : okS o 2) (hi : i < 7) : o ≤ R0 (o + 1) i ∧ R0 (o + 1) i < o + 14 := (show ∀ o, o < 95 → (S0 o).1 = 2 → ∀ i, i < 7 → o ≤ R0 (o + 1) i ∧ R0 (o + 1) i < o + 14 from by decide +kernel) o h.2.1 h.2.2 i hi
theorem R5_in : ∀ n, n < 6 → In2 [5, 6, 50, 51, 52, 53, 54, 55, 56, 57, 58, 59, 60, 61] (R0 3 n) := by decide +kernel
theorem T4_in : ∀ n, n < 4 → In2 [5, 6, 62, 63, 64, 65, 66, 67, 68, 69] (R0 4 n) := by decide +kernel
theorem K3_in : ∀ n, n < 3 → In2 [10, 11, 70, 71, 72, 73, 74, 75] (R0 9 n) := by decide +kernel
theorem ixn {r : Int32} {n : Nat} (h0 : 0 ≤ r) (h1 : r < Int32.ofNat n) (hn : n < 2 ^ 31) : r.toNatClampNeg < n := ix_lt (vin h0 h1 hn)
theorem roV_m {r : Int32} (h : ∀ n ∈ [5, 6, 50, 51, 52, 53, 54, 55, 56, 57, 58, 59, 60, 61], n ∈ L) : In2 L (roV r) := by
  unfold roV
  split
  · rename_i c
    have q := R5_in _ (ixn (n := 6) c.1 c.2 (by decide))
    exact ⟨h _ q.1, h _ q.2⟩
  · exact ⟨h _ (by decide), h _ (by decide)⟩
theorem txV_m {r : Int32} (h : ∀ n ∈ [5, 6, 62, 63, 64, 65, 66, 67, 68, 69], n ∈ L) : In2 L (txV r) := by
  unfold txV
  split
  · rename_i c
    have q := T4_in _ (ixn (n := 4) c.1 c.2 (by decide))
    exact ⟨h _ q.1, h _ q.2⟩
  · exact ⟨h _ (by decide), h _ (by decide)⟩
theorem kpV_m {r : Int32} (h : ∀ n ∈ [10, 11, 70, 71, 72, 73, 74, 75], n ∈ L) : In2 L (kpV r) := by
  unfold kpV
  split
  · rename_i c
    have q := K3_in _ (ixn (n := 3) c.1 c.2 (by decide))
    exact ⟨h _ q.1, h _ q.2⟩
  · exact ⟨h _ (by decide), h _ (by decide)⟩
theorem InvC.sz {o : Nat} {v : Int32} (h : InvC u) (ho : okS o 6) (hv : v ≤ Int32.ofNat (S0 (o + 1)).2) : InvC (pI u o 1 v) := ⟨fun o' ho' => by
  by_cases e : o' = o
  · rw [e, mI_eq]; exact hv
  · rw [mI_ne e]; exact h.1 o' ho', fun o' ho' => by
  rw [mI_ne (fun e => by rw [e] at ho'; have := ho'.2.2; rw [ho.2.2] at this; exact absurd this (by decide))]; exact h.2 o' ho'⟩
theorem InvC.pla {o k : Nat} {v : Int32} (h : InvC u) (ho : okS o 2) (hv : k ≠ 0 ∨ v ≤ 30) : InvC (pI u o k v) := ⟨fun o' ho' => by
  rw [mI_ne (fun e => by rw [e] at ho'; have := ho'.2.2; rw [ho.2.2] at this; exact absurd this (by decide))]; exact h.1 o' ho', fun o' ho' => by
  by_cases e : o' = o
  · rw [e]
    by_cases ek : 0 = k
    · rw [← ek, mI_eq]; exact hv.resolve_left (fun z => z ek.symm)
    · rw [mI_nk ek]; exact h.2 o ho
  · rw [mI_ne e]; exact h.2 o' ho'⟩
theorem fr_pI {n k : Nat} {v : Int32} (hn : n < 76) : ∀ a b, 76 ≤ a → mI (pI u n k v) a b = mI u a b := fun a b q => mI_ne (by omega)
theorem Cl.sz {o : Nat} {v : Int32} (h : Cl L u w) (ho : okS o 6) (mo : In2 L o) (hv : v ≤ Int32.ofNat (S0 (o + 1)).2) : Cl L u (pI w o 1 v) := ⟨h.1.sz ho hv, fun a b q => (fr_pI (by have := lt_6 ho; omega) a b q).trans (h.2.1 a b q), h.2.2.1.pI (cm_6 ho mo), h.2.2.2⟩
theorem Cl.pla {o k : Nat} {v : Int32} (h : Cl L u w) (ho : okS o 2) (mo : o ∈ L) (hv : k ≠ 0 ∨ v ≤ 30) : Cl L u (pI w o k v) := ⟨h.1.pla ho hv, fun a b q => (fr_pI (by have := lt_2 ho; omega) a b q).trans (h.2.1 a b q), h.2.2.1.pI (m_2 mo ho), h.2.2.2⟩
theorem Cl.pR {n k v : Nat} (h : Cl L u w) (hn : n ≠ 2 ∨ 0 ∈ L) : Cl L u (pR w n k v) := ⟨h.1, h.2.1, h.2.2.1, fun z j => by
  show up2 (mR w) n k v 2 j = _
  rw [up2, if_neg (fun q => hn.elim (fun y => y q.1.symm) z)]
  exact h.2.2.2 z j⟩
theorem Cl.pI {n k : Nat} {v : Int32} (h : Cl L u w) (hw : wr n k) (hm : cd n k ∈ L) : Cl L u (pI w n k v) := h.cq (Cq.rf.pI hw hm)
theorem c_skip {o0 : Nat} (mp : o0 ∈ L) (k0 : okS o0 3) : Ws G Rd_skipBlanks 0 [(0, .ref o0)] [] u (RV fun u' => Cq L u u') := by
  have key : ∀ x v, mI v o0 1 = x → Cq L u v → Ws G Rd_skipBlanks 0 [(0, .ref o0)] [] v (RV fun u' => Cq L u u') := by
    refine upI (mI u (mR u o0 0) 1) _ (fun x ih v hx hq => ?_)
    refine sg_Rd_skipBlanks_0 k0 (fun k => ⟨fun _ => ⟨rfl, hq⟩, fun c => fun _ => ⟨fun _ => ⟨rfl, hq⟩, fun _ => ih ?_ _ (by rw [mI_eq, hx]) (hq.pI (wr_3 k0) (m_3 mp k0))⟩⟩)
    rw [hq.2.1] at k c
    rw [cq_size hq k, hx] at c
    exact c
  exact key _ u rfl Cq.rf
theorem c_passes {o0 : Nat} {x1 : Int32} (mp : o0 ∈ L) (k0 : okS o0 3) : Ws G Rd_passes 0 [(0, .ref o0), (1, .int x1)] [] u (RI fun _ u' => Cq L u u') :=
  sg_Rd_passes_0 k0 ⟨fun _ => ⟨_, rfl, Cq.rf⟩, fun _ _ => ⟨fun _ => ⟨_, rfl, Cq.rf.pI (wr_3 k0) (m_3 mp k0)⟩, fun _ => ⟨_, rfl, Cq.rf⟩⟩⟩
theorem c_readNumber {o0 : Nat} {x1 x2 x3 x4 : Int32} (mp : o0 ∈ L) (k0 : okS o0 3) : Ws G Rd_readNumber 0 [(0, .ref o0), (1, .int x1), (2, .int x2), (3, .int x3), (4, .int x4)] [] u (RI fun a u' => Cq L u u' ∧ (¬ a = 0 → x3 ≤ mI u' o0 2 ∧ mI u' o0 2 ≤ x4)) := by
  have key : ∀ x v, Cq L u v → Ws G Rd_readNumber 8 [(0, .ref o0), (1, .int x1), (2, .int x2), (3, .int x3), (4, .int x4), (5, .int x)] [] v (RI fun a u' => Cq L u u' ∧ (¬ a = 0 → x3 ≤ mI u' o0 2 ∧ mI u' o0 2 ≤ x4)) := by
    refine upI x2 _ (fun x ih v hq => ?_)
    have e0 : ∀ P : Prop, Cq L u v ∧ (¬ (0 : Int32) = 0 → P) := fun P => ⟨hq, fun z => absurd rfl z⟩
    have e1 : ¬ (mI v o0 2) < x3 → ¬ x4 < (mI v o0 2) → Cq L u v ∧ (¬ (1 : Int32) = 0 → x3 ≤ mI v o0 2 ∧ mI v o0 2 ≤ x4) := fun a b => ⟨hq, fun _ => ⟨Int32.not_lt.mp a, Int32.not_lt.mp b⟩⟩
    exact sg_Rd_readNumber_8 k0 ⟨fun _ => ⟨fun _ => ⟨_, rfl, e0 _⟩, fun _ => ⟨fun _ => ⟨_, rfl, e0 _⟩, fun a => ⟨fun _ => ⟨_, rfl, e0 _⟩, fun b => ⟨_, rfl, e1 a b⟩⟩⟩⟩, fun c _ => ⟨fun _ _ => ih c _ ((hq.pI (wr_3 k0) (m_3 mp k0)).pI (wr_3 k0) (m_3 mp k0)), fun _ => ⟨fun _ => ⟨_, rfl, e0 _⟩, fun _ => ⟨fun _ => ⟨_, rfl, e0 _⟩, fun a => ⟨fun _ => ⟨_, rfl, e0 _⟩, fun b => ⟨_, rfl, e1 a b⟩⟩⟩⟩⟩⟩
  exact sg_Rd_readNumber_0 k0 (key 0 _ (Cq.rf.pI (wr_3 k0) (m_3 mp k0)))
theorem c_readKind {o0 : Nat} (mp : o0 ∈ L) (k0 : okS o0 3) : Ws G Rd_readKind 0 [(0, .ref o0)] [] u (RI fun _ u' => Cq L u u') := by
  have key : ∀ x v, 0 ≤ x → Cq L u v → Ws G Rd_readKind 2 [(0, .ref o0), (1, .int x)] [] v (RI fun _ u' => Cq L u u') := by
    refine upI 6 _ (fun x ih v h0 hq => ?_)
    refine sg_Rd_readKind_2 k0 ⟨fun _ => ⟨_, rfl, hq⟩, fun c => ⟨vin h0 (show (_ : Int32) < 6 by grind) (by decide), kIq (c_passes mp k0) hq (fun a v h => ⟨fun _ => ih c _ (by grind) h, fun _ => ⟨_, rfl, h.pI (wr_3 k0) (m_3 mp k0)⟩⟩)⟩⟩
  exact sg_Rd_readKind_0 k0 (key 0 _ (by decide) Cq.rf)
theorem kN {o0 : Nat} {x1 x2 x3 x4 : Int32} {P' : Int32 → pM → Prop} (mp : o0 ∈ L) (k0 : okS o0 3) (hq : Cq L u w) (k : ∀ a v, Cq L u v → P' a v) : Ws G Rd_readNumber 0 [(0, .ref o0), (1, .int x1), (2, .int x2), (3, .int x3), (4, .int x4)] [] w (RI P') := kI (c_readNumber mp k0) (fun a v e => k a v (hq.tr e.1))
theorem c_readStep {o0 : Nat} (mp : o0 ∈ L) (k0 : okS o0 3) : Ws G Rd_readStep 0 [(0, .ref o0)] [] u (RI fun _ u' => Cq L u u') := by
  refine sg_Rd_readStep_0 k0 (kI (c_passes mp k0) (fun a v h => ⟨fun _ => kN mp k0 h (fun b z hz => ⟨fun _ => ⟨fun _ => ⟨_, rfl, hz.pI (wr_3 k0) (m_3 mp k0)⟩, fun _ => ⟨_, rfl, hz.pI (wr_3 k0) (m_3 mp k0)⟩⟩, fun _ => ⟨_, rfl, hz⟩⟩), fun _ => kIq (c_passes mp k0) h (fun b z hz => ⟨fun _ => ⟨_, rfl, hz⟩, fun _ => kN mp k0 hz (fun d y hy => ⟨fun _ => ⟨fun _ => ⟨_, rfl, hy.pI (wr_3 k0) (m_3 mp k0)⟩, fun _ => ⟨_, rfl, hy.pI (wr_3 k0) (m_3 mp k0)⟩⟩, fun _ => ⟨_, rfl, hy⟩⟩)⟩)⟩))
theorem c_readShop {o0 o1 : Nat} (mp : o0 + 4 ∈ L) (mq : o1 ∈ L) (k0 : okS o0 2) (k1 : okS o1 4) : Ws G Pl_readShop 0 [(0, .ref o0), (1, .ref o1)] [] u (RI fun _ u' => Cq L u u') := by
  have k3 := os_2_5 k0
  refine sg_Pl_readShop_0 k0 k1 (kI (c_readKind mp k3) (fun a v h => ⟨fun _ => kN mp k3 (h.pI (wr_4 k1) (m_4 mq k1)) (fun a v h => ⟨fun _ => ⟨_, rfl, h⟩, fun _ => kIe (c_isFirstDoor k0) (fun a => ⟨fun _ => kIq (c_passes mp k3) (h.pI (wr_4 k1) (m_4 mq k1)) (fun a v h => ⟨fun _ => ⟨_, rfl, h⟩, fun _ => kIq (c_readStep mp k3) h (fun a v h => ⟨fun _ => kIq (c_passes mp k3) (h.pI (wr_4 k1) (m_4 mq k1)) (fun a v h => ⟨fun _ => ⟨_, rfl, h⟩, fun _ => kN mp k3 h (fun a v h => ⟨fun _ => ⟨fun _ => ⟨_, rfl, (h.pI (wr_4 k1) (m_4 mq k1)).pI (wr_4 k1) (m_4 mq k1)⟩, fun _ => kIq (c_passes mp k3) ((h.pI (wr_4 k1) (m_4 mq k1)).pI (wr_4 k1) (m_4 mq k1)) (fun a v h => ⟨fun _ => ⟨_, rfl, h⟩, fun _ => kN mp k3 h (fun a v h => ⟨fun _ => ⟨_, rfl, h.pI (wr_4 k1) (m_4 mq k1)⟩, fun _ => ⟨_, rfl, h⟩⟩)⟩)⟩, fun _ => ⟨_, rfl, h⟩⟩)⟩), fun _ => ⟨_, rfl, h⟩⟩)⟩), fun _ => ⟨_, rfl, h⟩⟩)⟩), fun _ => ⟨_, rfl, h⟩⟩))
theorem c_read {o0 o1 : Nat} (mP : PlW L o0) (k0 : okS o0 2) (k1 : okS o1 6) (hC : InvC u) : Ws G Pl_read 0 [(0, .ref o0), (1, .ref o1)] [] u (RI fun _ u' => Cl L u u') := by
  have k3 := os_2_5 k0
  have mp : o0 + 4 ∈ L := mP _ (by omega) (by omega)
  have ml : o0 ∈ L := mP _ (by omega) (by omega)
  have key : ∀ x v, 0 ≤ x → Cl L u v → Ws G Pl_read 81 [(0, .ref o0), (2, .int x)] [] v (RI fun _ u' => Cl L u u') := by
    refine upI 7 _ (fun x ih v h0 hq => ?_)
    refine sg_Pl_read_81 k0 ⟨fun _ => ⟨fun _ => ⟨_, rfl, hq⟩, fun _ => ⟨_, rfl, hq⟩⟩, fun c => ⟨fun _ => ⟨fun _ => ⟨_, rfl, hq⟩, fun _ => ⟨_, rfl, hq⟩⟩, fun _ => ?_⟩⟩
    have hv : vp_in x 7 := vin h0 (show (_ : Int32) < 7 by grind) (by decide)
    have ok : okS (R0 (o0 + 1) (x : Int32).toNatClampNeg) 4 := (ra_ok (os_2_2 k0) (by decide) (by rw [ol_2_2 k0]; exact ix_lt hv)).2
    exact ⟨hv, kI (c_readShop mp (mP _ (sh_in k0 (ix_lt hv)).1 (sh_in k0 (ix_lt hv)).2) k0 ok) (fun a v h => ⟨fun _ => kV (c_skip mp k3) (fun v' h' => ih c _ (by grind) (((hq.cq h).pla k0 ml (.inl (by decide))).cq h')), fun _ => ⟨_, rfl, hq.cq h⟩⟩)⟩
  have s0 : Cl L u (pI (pR (pI (pI u o0 0 0) o0 1 0) (o0 + 4) 0 o1) (o0 + 4) 1 0) := (((((Cl.rf hC).pla k0 ml (.inr (by decide))).pla k0 ml (.inl (by decide))).pR (.inl (by have := gt_2 k0; omega))).pI (wr_3 k3) (m_3 mp k3))
  exact sg_Pl_read_0 k0 k1 (kV (c_skip mp k3) (fun v h => kI (c_passes mp k3) (fun a v2 h2 => ⟨fun _ => ⟨_, rfl, (s0.cq h).cq h2⟩, fun _ => kI (c_readNumber mp k3) (fun b v3 h3 => ⟨fun cb => kV (c_skip mp k3) (fun v4 h4 => key 0 v4 (by decide) (((((s0.cq h).cq h2).cq h3.1).pla k0 ml (.inr (h3.2 cb).2)).cq h4)), fun _ => ⟨_, rfl, ((s0.cq h).cq h2).cq h3.1⟩⟩)⟩)))
end CLS
