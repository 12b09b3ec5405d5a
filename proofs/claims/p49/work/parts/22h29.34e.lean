/-! ===== keep, on, gone ===== -/
def keepK (n x : Int32) : Prop := (0 ≤ x ∧ x < 3) ∧ 0 < n
def keepA (n w x : Int32) : Int32 := if 0 ≤ x ∧ x < 3 then (if 0 < n then w else -4) else -1
theorem kO {x : Int32} (h : 0 ≤ x ∧ x < 3) : kpV x = 70 + 2 * x.toNatClampNeg ∧ x.toNatClampNeg < 3 := by
  have l : x.toNatClampNeg < 3 := ixn (n := 3) h.1 h.2 (by decide)
  refine ⟨?_, l⟩
  unfold kpV
  rw [if_pos h]
  exact (show ∀ t, t < 3 → R0 9 t = 70 + 2 * t from by decide +kernel) _ l
theorem ix10 {x s : Int32} (hx : 0 ≤ x ∧ x ≤ 2) (hs : 0 ≤ s ∧ s < 7) : (10 * x : Int32).toNatClampNeg = 10 * x.toNatClampNeg ∧ (10 * x + 1 : Int32).toNatClampNeg = 10 * x.toNatClampNeg + 1 ∧ (10 * x + 2 + s : Int32).toNatClampNeg = 10 * x.toNatClampNeg + 2 + s.toNatClampNeg := by
  have k := (show ∀ i, i < 3 → ∀ j, j < 7 → (10 * Int32.ofNat i : Int32).toNatClampNeg = 10 * i ∧ (10 * Int32.ofNat i + 1 : Int32).toNatClampNeg = 10 * i + 1 ∧ (10 * Int32.ofNat i + 2 + Int32.ofNat j : Int32).toNatClampNeg = 10 * i + 2 + j from by decide) x.toNatClampNeg (ixn (n := 3) hx.1 (show (_ : Int32) < 3 by have := hx.2; grind) (by decide)) s.toNatClampNeg (ixn (n := 7) hs.1 hs.2 (by decide))
  rw [i32_nat hx.1, i32_nat hs.1] at k
  exact k
theorem mI_mtF {u : pM} {f : Int32} {k : Nat} (h : k ≠ 0) : mI (mt u f) 76 k = mI u 76 k := by
  unfold mt
  rw [mI_ne (by decide), mI_nk h]
section KPT
variable {G : pG} {u : pM}
theorem d_keepy {x1 : Int32} (hC : InvC u) : Ws G D_keep 0 [(0, .ref 2), (1, .int x1)] [] u (RI fun a u' => Cl (qB ++ qK) u u' ∧ keepA (mI u (mR u 2 10) 0) (mI u 7 0) x1 = a ∧ ((keepK (mI u (mR u 2 10) 0) x1 ∧ mI u' (70 + 2 * x1.toNatClampNeg) 0 = mI u 7 0 ∧ mI u' (70 + 2 * x1.toNatClampNeg) 1 = mI u 7 1 ∧ (∀ s, s < 7 → mI u' (71 + 2 * x1.toNatClampNeg) s = mI u 8 s) ∧ ∀ n k, 70 ≤ n → n < 76 → n ≠ 70 + 2 * x1.toNatClampNeg → n ≠ 71 + 2 * x1.toNatClampNeg → mI u' n k = mI u n k) ∨ (¬ keepK (mI u (mR u 2 10) 0) x1 ∧ ∀ n k, 70 ≤ n → n < 76 → mI u' n k = mI u n k))) := by
  have no : ∀ v : Int32, keepA (mI u (mR u 2 10) 0) (mI u 7 0) x1 = v → ¬ keepK (mI u (mR u 2 10) 0) x1 → (RI fun a u' => Cl (qB ++ qK) u u' ∧ keepA (mI u (mR u 2 10) 0) (mI u 7 0) x1 = a ∧ ((keepK (mI u (mR u 2 10) 0) x1 ∧ mI u' (70 + 2 * x1.toNatClampNeg) 0 = mI u 7 0 ∧ mI u' (70 + 2 * x1.toNatClampNeg) 1 = mI u 7 1 ∧ (∀ s, s < 7 → mI u' (71 + 2 * x1.toNatClampNeg) s = mI u 8 s) ∧ ∀ n k, 70 ≤ n → n < 76 → n ≠ 70 + 2 * x1.toNatClampNeg → n ≠ 71 + 2 * x1.toNatClampNeg → mI u' n k = mI u n k) ∨ (¬ keepK (mI u (mR u 2 10) 0) x1 ∧ ∀ n k, 70 ≤ n → n < 76 → mI u' n k = mI u n k))) (some (.int v)) u := fun v e n => ⟨_, rfl, Cl.rf hC, e, .inr ⟨n, fun _ _ _ _ => rfl⟩⟩
  refine sg_D_keep_0 ⟨fun a hp => ⟨fun b => ?_, fun b => no _ (by unfold keepA; rw [if_pos a, if_neg b]) (fun z => b z.2)⟩, fun a => no _ (by unfold keepA; rw [if_neg a]) (fun z => a z.1)⟩
  have cl : Cl (qB ++ qK) u (snB u (kpV x1) 7) := (cq_snB Cq.rf (kpV_ok _) (kpV_m (by decide))).cl hC
  obtain ⟨e, l⟩ := kO a
  rw [e] at cl ⊢
  have e71 : 70 + 2 * x1.toNatClampNeg + 1 = 71 + 2 * x1.toNatClampNeg := by omega
  refine ⟨_, rfl, cl, ?_, .inl ⟨⟨a, b⟩, snB_0, snB_1 (by omega), fun s hs => ?_, fun n k _ _ n3 n4 => snB_f n3 (by omega)⟩⟩
  · unfold keepA; rw [if_pos a, if_pos b]; exact (snB_f (by omega) (by omega)).symm
  · rw [← e71]; exact snB_d (by omega) hs
theorem e_keepy {x1 : Int32} (hM : InvM u) : Ws G m_keep 0 [(0, .ref 76), (1, .int x1)] [] u (RI fun a u' => Mo (mB ++ mKp) u u' ∧ keepA (mI u 76 10) (mI u 76 18) x1 = a ∧ ((keepK (mI u 76 10) x1 ∧ mI u' 87 (10 * x1.toNatClampNeg) = mI u 76 18 ∧ mI u' 87 (10 * x1.toNatClampNeg + 1) = mI u 76 19 ∧ (∀ s, s < (mI u 76 11).toNatClampNeg → mI u' 87 (10 * x1.toNatClampNeg + 2 + s) = mI u 84 s) ∧ ∀ j, (j < 10 * x1.toNatClampNeg ∨ 10 * x1.toNatClampNeg + 10 ≤ j) → mI u' 87 j = mI u 87 j) ∨ (¬ keepK (mI u 76 10) x1 ∧ ∀ j, mI u' 87 j = mI u 87 j))) := by
  have m7 := hM.m7
  have n30 := hM.n30
  have m7N : (mI u 76 11).toNatClampNeg ≤ 7 := by have := tn_le m7.2; have e : (7 : Int32).toNatClampNeg = 7 := (by decide); omega
  have no : ∀ v : Int32, keepA (mI u 76 10) (mI u 76 18) x1 = v → ¬ keepK (mI u 76 10) x1 → (RI fun a u' => Mo (mB ++ mKp) u u' ∧ keepA (mI u 76 10) (mI u 76 18) x1 = a ∧ ((keepK (mI u 76 10) x1 ∧ mI u' 87 (10 * x1.toNatClampNeg) = mI u 76 18 ∧ mI u' 87 (10 * x1.toNatClampNeg + 1) = mI u 76 19 ∧ (∀ s, s < (mI u 76 11).toNatClampNeg → mI u' 87 (10 * x1.toNatClampNeg + 2 + s) = mI u 84 s) ∧ ∀ j, (j < 10 * x1.toNatClampNeg ∨ 10 * x1.toNatClampNeg + 10 ≤ j) → mI u' 87 j = mI u 87 j) ∨ (¬ keepK (mI u 76 10) x1 ∧ ∀ j, mI u' 87 j = mI u 87 j))) (some (.int v)) u := fun v e n => ⟨_, rfl, Mo.rf hM, e, .inr ⟨n, fun _ => rfl⟩⟩
  refine sg_m_keep_0 ⟨fun a => ⟨fun b => ⟨(vin (by grind) (show (_ : Int32) < 30 by grind) (by decide)), (vin (by grind) (show (_ : Int32) < 30 by grind) (by decide)), ?_⟩, fun b => no _ (by unfold keepA; rw [if_pos ⟨a.1, by have := a.2; grind⟩, if_neg (by rw [b]; decide)]) (fun z => by have := z.2; rw [b] at this; exact absurd this (by decide))⟩, fun a => no _ (by unfold keepA; rw [if_neg (fun z => a ⟨z.1, by have := z.2; grind⟩)]) (fun z => a ⟨z.1.1, by have := z.1.2; grind⟩)⟩
  have a3 : 0 ≤ x1 ∧ x1 < 3 := ⟨a.1, by have := a.2; grind⟩
  have kk : keepK (mI u 76 10) x1 := ⟨a3, by grind⟩
  have val : keepA (mI u 76 10) (mI u 76 18) x1 = mI u 76 18 := by unfold keepA; rw [if_pos a3, if_pos kk.2]
  rw [mI_ne (show (76 : Nat) ≠ 87 by decide)]
  have key : ∀ x v, 0 ≤ x → x ≤ mI u 76 11 → Mo (mB ++ mKp) u v → (∀ n k, n ≠ 87 → mI v n k = mI u n k) → mI v 87 (10 * x1.toNatClampNeg) = mI u 76 18 → mI v 87 (10 * x1.toNatClampNeg + 1) = mI u 76 19 → (∀ s, s < x.toNatClampNeg → mI v 87 (10 * x1.toNatClampNeg + 2 + s) = mI u 84 s) → (∀ j, (j < 10 * x1.toNatClampNeg ∨ 10 * x1.toNatClampNeg + 10 ≤ j) → mI v 87 j = mI u 87 j) → Ws G m_keep 51 [(0, .ref 76), (1, .int x1), (2, .int x)] [] v (RI fun a u' => Mo (mB ++ mKp) u u' ∧ keepA (mI u 76 10) (mI u 76 18) x1 = a ∧ ((keepK (mI u 76 10) x1 ∧ mI u' 87 (10 * x1.toNatClampNeg) = mI u 76 18 ∧ mI u' 87 (10 * x1.toNatClampNeg + 1) = mI u 76 19 ∧ (∀ s, s < (mI u 76 11).toNatClampNeg → mI u' 87 (10 * x1.toNatClampNeg + 2 + s) = mI u 84 s) ∧ ∀ j, (j < 10 * x1.toNatClampNeg ∨ 10 * x1.toNatClampNeg + 10 ≤ j) → mI u' 87 j = mI u 87 j) ∨ (¬ keepK (mI u 76 10) x1 ∧ ∀ j, mI u' 87 j = mI u 87 j))) := by
    refine upI (mI u 76 11) _ (fun x ih v h0 hx hq hf k0 k1 kd ko => ?_)
    have hm : mI v 76 11 = mI u 76 11 := hf _ _ (by decide)
    refine sg_m_keep_51 ⟨fun c => ⟨_, rfl, hq, by rw [hf _ _ (by decide)]; exact val, .inl ⟨kk, k0, k1, fun s hs => kd s (by rw [hm] at c; have := tn_le c; omega), ko⟩⟩, fun c => ?_⟩
    rw [hm] at c
    have x7 : x < 7 := Int32.lt_of_lt_of_le (Int32.not_le.mp c) m7.2
    have xN : x.toNatClampNeg < 7 := ixn (n := 7) h0 x7 (by decide)
    have I := ix10 a ⟨h0, x7⟩
    have mo' := hq.tr (hq.1.kp2 a ⟨h0, x7⟩ (hq.1.b84 x.toNatClampNeg))
    rw [I.2.2] at mo' ⊢
    refine ⟨(vin h0 (show (_ : Int32) < 7 by exact x7) (by decide)), (vin (by grind) (show (_ : Int32) < 30 by grind) (by decide)), ih c _ (by grind) (by grind) mo' (fun n k n1 => by rw [mI_ne n1]; exact hf n k n1) (by rw [mI_nk (by omega)]; exact k0) (by rw [mI_nk (by omega)]; exact k1) (fun s hs => ?_) (fun j hj => by rw [mI_nk (by omega)]; exact ko j hj)⟩
    rw [tn_succ h0 c] at hs
    by_cases e : s = x.toNatClampNeg
    · rw [e, mI_eq]; exact hf _ _ (by decide)
    · rw [mI_nk (by omega)]; exact kd s (by omega)
  have I := ix10 (s := 0) a (by decide)
  have z0 : (0 : Int32).toNatClampNeg = 0 := by decide
  have mo1 := InvM.kp1 (a := mI u 76 18) hM a hM.2.2.2.1
  rw [I.1, I.2.1] at mo1 ⊢
  refine key 0 _ (by decide) m7.1 mo1 (fun n k n1 => by rw [mI_ne n1, mI_ne n1]) (by rw [mI_nk (by omega), mI_eq]) mI_eq (fun s hs => by omega) (fun j hj => by rw [mI_nk (by omega), mI_nk (by omega)])
/-! on -/
theorem d_ony {x1 : Int32} (hC : InvC u) : Ws G D_on 0 [(0, .ref 2), (1, .int x1)] [] u (RI fun a u' => Cl (qB ++ qN) u u' ∧ ((((0 ≤ x1 ∧ x1 < 3) ∧ ¬ mI u (70 + 2 * x1.toNatClampNeg) 0 = -1) ∧ a = mI u (70 + 2 * x1.toNatClampNeg) 0 ∧ mI u' 7 0 = mI u (70 + 2 * x1.toNatClampNeg) 0 ∧ mI u' 7 1 = mI u (70 + 2 * x1.toNatClampNeg) 1 ∧ ∀ s, s < 7 → mI u' 8 s = mI u (71 + 2 * x1.toNatClampNeg) s) ∨ (¬ ((0 ≤ x1 ∧ x1 < 3) ∧ ¬ mI u (70 + 2 * x1.toNatClampNeg) 0 = -1) ∧ a = (if 0 ≤ x1 ∧ x1 < 3 then -3 else -1) ∧ nwS u u' (mI u 7 1)))) := by
  refine sg_D_on_0 ⟨fun a => ?_, fun a => ⟨_, rfl, Cl.rf hC, .inr ⟨fun z => a z.1, by rw [if_neg a], rfl, rfl, fun _ => rfl⟩⟩⟩
  have cl : Cl (qB ++ qN) u (snB u 7 (kpV x1)) := (cq_snB Cq.rf (by decide) (by decide)).cl hC
  obtain ⟨e, l⟩ := kO a
  rw [e] at cl ⊢
  refine ⟨fun b => ⟨_, rfl, cl, .inl ⟨⟨a, b⟩, snB_0, snB_0, snB_1 (by omega), fun s hs => ?_⟩⟩, fun b => ⟨_, rfl, (cq_dF Cq.rf (by decide)).cl hC, .inr ⟨fun z => z.2 b, by rw [if_pos a], mI_dF (by decide), mI_dF (by decide), fun k => mI_dF (by decide)⟩⟩⟩
  rw [show mI (snB u 7 (70 + 2 * x1.toNatClampNeg)) 8 s = mI (snB u 7 (70 + 2 * x1.toNatClampNeg)) (7 + 1) s from rfl, snB_d (by omega) hs, show 70 + 2 * x1.toNatClampNeg + 1 = 71 + 2 * x1.toNatClampNeg by omega]
theorem e_ony {x1 : Int32} (hM : InvM u) : Ws G m_on 0 [(0, .ref 76), (1, .int x1)] [] u (RI fun a u' => Mo (mB ++ mNw) u u' ∧ ((((0 ≤ x1 ∧ x1 < 3) ∧ ¬ mI u 87 (10 * x1.toNatClampNeg) = -9) ∧ a = mI u 87 (10 * x1.toNatClampNeg) ∧ mI u' 76 18 = mI u 87 (10 * x1.toNatClampNeg) ∧ mI u' 76 19 = mI u 87 (10 * x1.toNatClampNeg + 1) ∧ ∀ s, s < (mI u 76 11).toNatClampNeg → mI u' 84 s = mI u 87 (10 * x1.toNatClampNeg + 2 + s)) ∨ (¬ ((0 ≤ x1 ∧ x1 < 3) ∧ ¬ mI u 87 (10 * x1.toNatClampNeg) = -9) ∧ a = (if 0 ≤ x1 ∧ x1 < 3 then -3 else -1) ∧ nmS u u' (mI u 76 19)))) := by
  have m7 := hM.m7
  refine sg_m_on_0 ⟨fun a => ⟨(vin (by grind) (show (_ : Int32) < 30 by grind) (by decide)), ?_⟩, fun a => ⟨_, rfl, Mo.rf hM, .inr ⟨fun z => a ⟨z.1.1, by have := z.1.2; grind⟩, by rw [if_neg (fun z => a ⟨z.1, by have := z.2; grind⟩)], rfl, rfl, fun _ => rfl⟩⟩⟩
  have a3 : 0 ≤ x1 ∧ x1 < 3 := ⟨a.1, by have := a.2; grind⟩
  have I0 := ix10 (s := 0) a (by decide)
  have o := hM.2.2.2.2.1 x1 a.1 a.2
  rw [I0.1, I0.2.1] at o ⊢
  refine ⟨fun c => ⟨(vin (by grind) (show (_ : Int32) < 30 by grind) (by decide)), (vin (by grind) (show (_ : Int32) < 30 by grind) (by decide)), ?_⟩, fun c => ⟨_, rfl, Mq.rf.tm.mo hM, .inr ⟨fun z => z.2 c, by rw [if_pos a3], mI_mtF (by decide), mI_mtF (by decide), fun k => mI_mt (by decide)⟩⟩⟩
  rw [mI_ne (show (87 : Nat) ≠ 76 by decide)]
  have q1 : Mq (mB ++ mNw) u (pI u 76 18 (mI u 87 (10 * x1.toNatClampNeg))) := Mq.rf.pF (by decide)
  have hS := (q1.inv hM).pS (x := mI u 87 (10 * x1.toNatClampNeg + 1)) (by rw [q1.n]; exact o.1 c)
  have hS2 := (q1.mo hM).tr hS
  generalize hw : pI (pI u 76 18 (mI u 87 (10 * x1.toNatClampNeg))) 76 19 (mI u 87 (10 * x1.toNatClampNeg + 1)) = w0 at hS2
  have hm : mI w0 76 11 = mI u 76 11 := by rw [← hw, mI_nk (by decide), mI_nk (by decide)]
  have h87 : ∀ k, mI w0 87 k = mI u 87 k := fun k => by rw [← hw, mI_ne (by decide), mI_ne (by decide)]
  have h18 : mI w0 76 18 = mI u 87 (10 * x1.toNatClampNeg) := by rw [← hw, mI_nk (by decide), mI_eq]
  have h19 : mI w0 76 19 = mI u 87 (10 * x1.toNatClampNeg + 1) := by rw [← hw, mI_eq]
  have key : ∀ x v, 0 ≤ x → x ≤ mI u 76 11 → Mq (mB ++ mNw) w0 v → (∀ n k, n ≠ 84 → mI v n k = mI w0 n k) → (∀ s, s < x.toNatClampNeg → mI v 84 s = mI u 87 (10 * x1.toNatClampNeg + 2 + s)) → Ws G m_on 61 [(0, .ref 76), (1, .int x1), (2, .int x)] [] v (RI fun a u' => Mo (mB ++ mNw) u u' ∧ ((((0 ≤ x1 ∧ x1 < 3) ∧ ¬ mI u 87 (10 * x1.toNatClampNeg) = -9) ∧ a = mI u 87 (10 * x1.toNatClampNeg) ∧ mI u' 76 18 = mI u 87 (10 * x1.toNatClampNeg) ∧ mI u' 76 19 = mI u 87 (10 * x1.toNatClampNeg + 1) ∧ ∀ s, s < (mI u 76 11).toNatClampNeg → mI u' 84 s = mI u 87 (10 * x1.toNatClampNeg + 2 + s)) ∨ (¬ ((0 ≤ x1 ∧ x1 < 3) ∧ ¬ mI u 87 (10 * x1.toNatClampNeg) = -9) ∧ a = (if 0 ≤ x1 ∧ x1 < 3 then -3 else -1) ∧ nmS u u' (mI u 76 19)))) := by
    refine upI (mI u 76 11) _ (fun x ih v h0 hx hq hf hd => ?_)
    have e18 : mI v 76 18 = mI u 87 (10 * x1.toNatClampNeg) := by rw [hf _ _ (by decide)]; exact h18
    refine sg_m_on_61 ⟨fun c' => ⟨_, rfl, hS2.mq hq, .inl ⟨⟨a3, c⟩, e18, e18, by rw [hf _ _ (by decide)]; exact h19, fun s hs => hd s (by rw [hq.m, hm] at c'; have := tn_le c'; omega)⟩⟩, fun c' => ?_⟩
    rw [hq.m, hm] at c'
    have x7 : x < 7 := Int32.lt_of_lt_of_le (Int32.not_le.mp c') m7.2
    have I := ix10 a ⟨h0, x7⟩
    have e87 : mI v 87 (10 * x1 + 2 + x : Int32).toNatClampNeg = mI u 87 (10 * x1.toNatClampNeg + 2 + x.toNatClampNeg) := by rw [hf _ _ (by decide), h87, I.2.2]
    refine ⟨(vin (by grind) (show (_ : Int32) < 30 by grind) (by decide)), (vin (by grind) (show (_ : Int32) < 7 by grind) (by decide)), ?_⟩
    have bd := o.2 x h0 x7
    rw [I.2.2] at bd
    rw [e87]
    refine ih c' _ (by grind) (by grind) (hq.pD (.inl rfl) bd) (fun n k n1 => by rw [mI_ne n1]; exact hf n k n1) (fun s hs => ?_)
    rw [tn_succ h0 c'] at hs
    by_cases e : s = x.toNatClampNeg
    · rw [e, mI_eq]
    · rw [mI_nk e]; exact hd s (by omega)
  have z0 : (0 : Int32).toNatClampNeg = 0 := by decide
  exact key 0 w0 (by decide) m7.1 Mq.rf (fun _ _ _ => rfl) (fun s hs => by omega)
end KPT
