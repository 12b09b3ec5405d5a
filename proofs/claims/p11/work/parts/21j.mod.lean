/-! ===== the Model reads a text ===== -/
def PR (t : Int32) (v : pM) : Prop := 0 ≤ t ∧ t ≤ 3 ∧ 0 ≤ mI v 76 13 ∧ mI v 76 13 ≤ mI v 81 t.toNatClampNeg ∧ mI v 81 t.toNatClampNeg ≤ 100
def R1 (t : Int32) (v w : pM) : Prop := (∀ n k, ¬ (n = 76 ∧ (k = 13 ∨ k = 14)) → mI w n k = mI v n k) ∧ mI v 76 13 ≤ mI w 76 13 ∧ mI w 76 13 ≤ mI v 81 t.toNatClampNeg
theorem PR.r1 {t : Int32} {v w : pM} (h : PR t v) (r : R1 t v w) : PR t w := by
  obtain ⟨a, b, c, d, e⟩ := h
  have q : mI w 81 t.toNatClampNeg = mI v 81 t.toNatClampNeg := r.1 _ _ (by omega)
  refine ⟨a, b, ?_, ?_, ?_⟩
  · have := r.2.1; grind
  · rw [q]; exact r.2.2
  · rw [q]; exact e
theorem R1.tr {t : Int32} {u v w : pM} (h : R1 t u v) (h2 : R1 t v w) : R1 t u w := by
  have q : mI v 81 t.toNatClampNeg = mI u 81 t.toNatClampNeg := h.1 _ _ (by omega)
  refine ⟨fun n k q => (h2.1 n k q).trans (h.1 n k q), ?_, ?_⟩
  · have := h.2.1; have := h2.2.1; grind
  · rw [← q]; exact h2.2.2
theorem PR.v4 {t : Int32} {v : pM} (h : PR t v) : vp_in t 4 := vin h.1 (show (_ : Int32) < 4 by have := h.2.1; grind) (by decide)
theorem PR.v400 {t : Int32} {v : pM} (h : PR t v) : mI v 76 13 < mI v 81 t.toNatClampNeg → vp_in (100 * t + mI v 76 13) 400 := fun q => by
  obtain ⟨a, b, c, d, e⟩ := h
  exact vin (by grind) (show (_ : Int32) < 400 by grind) (by decide)
theorem here_in {t : Int32} {v : pM} (h : ¬ hereV v t = -9) : mI v 76 13 < mI v 81 t.toNatClampNeg := by
  unfold hereV at h
  split at h
  · exact absurd rfl h
  · rename_i c; exact Int32.not_le.mp c
section MOD
variable {G : pG} {u w : pM}
theorem f_sees {x1 x2 : Int32} (hp : PR x1 u) (hs : ¬ x2 = -9) : Ws G m_sees 0 [(0, .ref 76), (1, .int x1), (2, .int x2)] [] u (RI fun a w => R1 x1 u w ∧ (¬ a = 0 → mI u 76 13 < mI w 76 13)) := by
  have fr : ∀ x : Int32, ∀ n k, ¬ (n = 76 ∧ (k = 13 ∨ k = 14)) → mI (pI u 76 13 x) n k = mI u n k := fun x n k q => by
    show up2 (mI u) 76 13 x n k = _
    rw [up2, if_neg (by omega)]
  obtain ⟨a, b, c, d, e⟩ := id hp
  refine sg_m_sees_0 ⟨hp.v4, hp.v400, fun q => ⟨_, rfl, ⟨fr _, ?_, ?_⟩, fun z => absurd rfl z⟩, fun q => ?_⟩
  · rw [mI_eq]; grind
  · rw [mI_eq]; grind
  · have l := here_in (v := u) (t := x1) (by rw [q]; exact hs)
    exact ⟨_, rfl, ⟨fr _, by rw [mI_eq]; grind, by rw [mI_eq]; grind⟩, fun _ => by rw [mI_eq]; grind⟩
theorem f_readsFigure {x1 x2 : Int32} (hp : PR x1 u) (hs : 0 ≤ x2) : Ws G m_readsFigure 0 [(0, .ref 76), (1, .int x1), (2, .int x2)] [] u (RI fun a w => R1 x1 u w ∧ (¬ a = 0 → mI u 76 13 < mI w 76 13 ∧ x2 ≤ mI w 76 14 ∧ mI w 76 14 ≤ 9)) := by
  have fr : ∀ x y : Int32, ∀ n k, ¬ (n = 76 ∧ (k = 13 ∨ k = 14)) → mI (pI (pI u 76 14 y) 76 13 x) n k = mI u n k := fun x y n k q => by
    show up2 (up2 (mI u) 76 14 y) 76 13 x n k = _
    rw [up2, if_neg (by omega), up2, if_neg (by omega)]
  obtain ⟨a, b, c, d, e⟩ := id hp
  refine sg_m_readsFigure_0 ⟨hp.v4, hp.v400, fun q => ?_, fun q => ⟨_, rfl, ⟨fr _ _, ?_, ?_⟩, fun z => absurd rfl z⟩⟩
  · rw [mI_eq] at q
    have l := here_in (v := u) (t := x1) (fun z => by rw [z] at q; grind)
    rw [mI_nk (show (13 : Nat) ≠ 14 by decide)]
    refine ⟨_, rfl, ⟨fr _ _, by rw [mI_eq]; grind, by rw [mI_eq]; grind⟩, fun _ => ?_⟩
    rw [mI_eq, mI_nk (show (14 : Nat) ≠ 13 by decide), mI_eq]
    exact ⟨by grind, q.1, q.2⟩
  · rw [mI_eq, mI_nk (show (13 : Nat) ≠ 14 by decide)]; grind
  · rw [mI_eq, mI_nk (show (13 : Nat) ≠ 14 by decide)]; grind
theorem f_readsNumber {x1 x2 x3 : Int32} (hp : PR x1 u) : Ws G m_readsNumber 0 [(0, .ref 76), (1, .int x1), (2, .int x2), (3, .int x3)] [] u (RI fun a w => R1 x1 u w ∧ (¬ a = 0 → mI u 76 13 < mI w 76 13 ∧ x2 ≤ mI w 76 14 ∧ mI w 76 14 ≤ x3)) := by
  have key : ∀ x v, mI v 76 13 - mI u 76 13 = x → R1 x1 u v → Ws G m_readsNumber 11 [(0, .ref 76), (1, .int x1), (2, .int x2), (3, .int x3), (4, .int (mI u 76 13))] [] v (RI fun a w => R1 x1 u w ∧ (¬ a = 0 → mI u 76 13 < mI w 76 13 ∧ x2 ≤ mI w 76 14 ∧ mI w 76 14 ≤ x3)) := by
    refine upI 2 _ (fun x ih v hx hr => ?_)
    have hv := hp.r1 hr
    have e0 : ∀ P : Prop, R1 x1 u v ∧ (¬ (0 : Int32) = 0 → P) := fun P => ⟨hr, fun z => absurd rfl z⟩
    have e1 : ¬ mI v 76 13 ≤ mI u 76 13 → x2 ≤ mI v 76 14 ∧ mI v 76 14 ≤ x3 → R1 x1 u v ∧ (¬ (1 : Int32) = 0 → mI u 76 13 < mI v 76 13 ∧ x2 ≤ mI v 76 14 ∧ mI v 76 14 ≤ x3) := fun a b => ⟨hr, fun _ => ⟨Int32.not_le.mp a, b⟩⟩
    refine sg_m_readsNumber_11 ⟨fun _ => ⟨fun _ => ⟨_, rfl, e0 _⟩, fun a => ⟨fun b => ⟨_, rfl, e1 a b⟩, fun _ => ⟨_, rfl, e0 _⟩⟩⟩, fun c => ⟨hv.v4, hv.v400, fun g => ⟨hv.v4, hv.v400, ?_⟩, fun _ => ⟨fun _ => ⟨_, rfl, e0 _⟩, fun a => ⟨fun b => ⟨_, rfl, e1 a b⟩, fun _ => ⟨_, rfl, e0 _⟩⟩⟩⟩⟩
    have l := here_in (v := v) (t := x1) (fun z => by rw [z] at g; grind)
    rw [mI_nk (show (13 : Nat) ≠ 14 by decide)]
    obtain ⟨a, b, c', d, e⟩ := id hv
    refine ih (by rw [← hx]; exact c) _ (by rw [mI_eq]; grind) (hr.tr ⟨fun n k q => ?_, by rw [mI_eq]; grind, by rw [mI_eq]; grind⟩)
    show up2 (up2 (mI v) 76 14 _) 76 13 _ n k = _
    rw [up2, if_neg (by omega), up2, if_neg (by omega)]
  refine sg_m_readsNumber_0 (key _ _ rfl ⟨fun n k q => ?_, ?_, ?_⟩)
  · show up2 (mI u) 76 14 0 n k = _
    rw [up2, if_neg (by omega)]
  · rw [mI_nk (by decide)]; exact Int32.le_refl _
  · rw [mI_nk (by decide)]; exact hp.2.2.2.1
theorem f_isTold {x1 : Int32} (h16 : 0 ≤ mI u 76 16 ∧ mI u 76 16 ≤ 7) : Ws G m_isTold 0 [(0, .ref 76), (1, .int x1)] [] u (RI fun _ u' => u = u') := by
  have key : ∀ x (y : Int32), 0 ≤ x → (y = 0 ∨ y = 1) → Ws G m_isTold 4 [(0, .ref 76), (1, .int x1), (2, .int y), (3, .int x)] [] u (RI fun _ u' => u = u') := by
    refine upI (mI u 76 16) _ (fun x ih y h0 hy => ?_)
    exact sg_m_isTold_4 ⟨fun _ => ⟨vb01 hy, _, rfl, rfl⟩, fun c => ⟨vin (by grind) (show (_ : Int32) < 70 by grind) (by decide), fun _ => ih c _ (by grind) (by rcases hy with rfl | rfl <;> decide), fun _ => ih c _ (by grind) (by rcases hy with rfl | rfl <;> decide)⟩⟩
  exact sg_m_isTold_0 (key 0 0 (by decide) (.inl rfl))
theorem f_readsDoors {x1 : Int32} (hp : PR x1 u) : Ws G m_readsDoors 0 [(0, .ref 76), (1, .int x1)] [] u (RI fun a w => (∀ n k, ¬ (n = 76 ∧ (k = 13 ∨ k = 14 ∨ k = 15)) → mI w n k = mI u n k) ∧ PR x1 w ∧ (¬ a = 0 → mI u 76 13 < mI w 76 13 ∧ 10 ≤ mI w 76 15 ∧ mI w 76 15 ≤ 30) ∧ (a = 0 → mI w 76 15 = mI u 76 15)) := by
  have fr : ∀ v, R1 x1 u v → ∀ n k, ¬ (n = 76 ∧ (k = 13 ∨ k = 14 ∨ k = 15)) → mI v n k = mI u n k := fun v r n k q => r.1 n k (by omega)
  refine sg_m_readsDoors_0 (kI (f_sees hp (by decide)) (fun a v h => ⟨fun z => ⟨_, rfl, fr _ h.1, hp.r1 h.1, fun q => absurd rfl q, fun _ => h.1.1 _ _ (by decide)⟩, fun z => kI (f_readsNumber (hp.r1 h.1)) (fun b v2 h2 => ⟨fun y => ⟨_, rfl, fun n k q => ?_, ?_, fun _ => ?_, fun q => absurd q (by decide)⟩, fun y => ⟨_, rfl, fr _ (h.1.tr h2.1), hp.r1 (h.1.tr h2.1), fun q => absurd rfl q, fun _ => (h.1.tr h2.1).1 _ _ (by decide)⟩⟩)⟩))
  · show up2 (mI v2) 76 15 _ n k = _
    rw [up2, if_neg (by omega)]
    exact fr _ (h.1.tr h2.1) n k q
  · have p := hp.r1 (h.1.tr h2.1)
    unfold PR at *
    rw [mI_nk (by decide), mI_ne (by decide)]
    exact p
  · rw [mI_eq, mI_nk (by decide)]
    have p := h2.2 y
    exact ⟨by have := h.2 z; grind, p.2.1, p.2.2⟩
end MOD
