section MOD
variable {G : pG} {u w : pM} {L : List Nat}
theorem e_aboutOf {x1 : Int32} {x2 : Int32} (hM : InvM u) (h1 : 0 ≤ x1 ∧ x1 < mI u 76 11) (h2 : 0 ≤ x2 ∧ x2 ≤ 5) : Ws G m_aboutOf 0 [(0, .ref 76), (1, .int x1), (2, .int x2)] [] u (RI fun _ u' => u = u') := by
  have m7 := hM.m7
  exact sg_m_aboutOf_0 ⟨fun _ => ⟨fun _ => ⟨fun _ => ⟨vin (by grind) (show (_ : Int32) < 70 by grind) (by decide), _, rfl, rfl⟩, fun _ => ⟨vin (by grind) (show (_ : Int32) < 70 by grind) (by decide), _, rfl, rfl⟩⟩, fun _ => ⟨vin (by grind) (show (_ : Int32) < 7 by grind) (by decide), _, rfl, rfl⟩⟩, fun _ => ⟨vin (by grind) (show (_ : Int32) < 70 by grind) (by decide), _, rfl, rfl⟩⟩
theorem e_about {x1 : Int32} {x2 : Int32} (hM : InvM u) : Ws G m_about 0 [(0, .ref 76), (1, .int x1), (2, .int x2)] [] u (RI fun _ u' => Mo mB u u') := by
  have m7 := hM.m7
  exact sg_m_about_0 ⟨fun a => ⟨fun b => kIe (e_aboutOf hM (by grind) b) (fun _ => lfM hM (Mq.rf.pF (by decide))), fun _ => lfM hM Mq.rf⟩, fun _ => lfM hM Mq.rf⟩
theorem e_isSleeper {x1 : Int32} (hM : InvM u) (h1 : 0 ≤ x1 ∧ x1 < mI u 76 11) : Ws G m_isSleeper 0 [(0, .ref 76), (1, .int x1)] [] u (RI fun a u' => u = u' ∧ (¬ a = 0 → mI u 83 (5 * x1 + 0 : Int32).toNatClampNeg = 3 ∨ mI u 83 (5 * x1 + 0 : Int32).toNatClampNeg = 5)) := by
  have m7 := hM.m7
  refine sg_m_isSleeper_0 ⟨vin (by grind) (show (_ : Int32) < 70 by grind) (by decide), fun q => ⟨_, rfl, rfl, fun _ => .inl q⟩, fun q => ⟨vin (by grind) (show (_ : Int32) < 70 by grind) (by decide), fun q2 => ⟨_, rfl, rfl, fun z => absurd rfl z⟩, fun q2 => ⟨_, rfl, rfl, fun _ => .inr q2⟩⟩⟩
theorem e_areBeside {x1 : Int32} {x2 : Int32} (h1 : 10 ≤ mI u 76 10 ∧ mI u 76 10 ≤ 30) : Ws G m_areBeside 0 [(0, .ref 76), (1, .int x1), (2, .int x2)] [] u (RI fun _ u' => u = u') := by
  exact sg_m_areBeside_0 ⟨i64_ne (by grind), fun _ => ⟨_, rfl, rfl⟩, fun _ => ⟨i64_ne (by grind), fun _ => ⟨_, rfl, rfl⟩, fun _ => ⟨_, rfl, rfl⟩⟩⟩
theorem e_mark {x1 : Int32} {x2 : Int32} (hM : InvM u) : Ws G m_mark 0 [(0, .ref 76), (1, .int x1), (2, .int x2)] [] u (RI fun _ u' => Mo mB u u') := by
  have m7 := hM.m7
  have key : 0 ≤ x1 → x1 < mI u 76 11 → ∀ x3 : Int32, (x2 = 3 ∨ x2 = 4 → ¬ x3 = 0) → ∀ x (x4 : Int32), 0 ≤ x → Ws G m_mark 61 [(0, .ref 76), (1, .int x1), (2, .int x2), (3, .int x3), (4, .int x4), (5, .int x)] [] u (RI fun _ u' => Mo mB u u') := by
    intro a0 a1 x3 h3
    have n1 := hM.n10 a0 a1
    refine upI (mI u 76 11) _ (fun x ih x4 h0 => ?_)
    have g1 := hM.2.2.1 x1 a0 a1
    have w1 : vp_in x1 7 := vin a0 (show (_ : Int32) < 7 by grind) (by decide)
    have w2 : vp_in (5 * x1 + 0) 70 := vin (by grind) (show (_ : Int32) < 70 by grind) (by decide)
    have w3 : vp_in (5 * x1 + 2) 70 := vin (by grind) (show (_ : Int32) < 70 by grind) (by decide)
    have w4 : vp_in (5 * x1 + 4) 70 := vin (by grind) (show (_ : Int32) < 70 by grind) (by decide)
    have nz : ¬ (mI u 76 10).toInt64 = 0 := i64_ne (by grind)
    refine sg_m_mark_61 ⟨fun _ => ⟨fun q => ⟨h3 (.inl q), lfM hM Mq.rf⟩, fun q => ⟨h3 (.inr q), lfM hM Mq.rf⟩, fun q => ⟨w3, lfM hM Mq.rf⟩, fun _ => lfM hM Mq.rf⟩, fun c => ?_⟩
    have hI : ∀ y : Int32, Ws G m_mark 61 [(0, .ref 76), (1, .int x1), (2, .int x2), (3, .int x3), (4, .int y), (5, .int (x + 1))] [] u (RI fun _ u' => Mo mB u u') := fun y => ih c y (by grind)
    have c1 : x < mI u 76 11 := Int32.not_le.mp c
    have g2 := hM.2.2.1 x h0 c1
    have v1 : vp_in x 7 := vin h0 (show (_ : Int32) < 7 by grind) (by decide)
    have v2 : vp_in (5 * x + 0) 70 := vin (by grind) (show (_ : Int32) < 70 by grind) (by decide)
    have v3 : vp_in (5 * x + 2) 70 := vin (by grind) (show (_ : Int32) < 70 by grind) (by decide)
    have v4 : vp_in (5 * x + 4) 70 := vin (by grind) (show (_ : Int32) < 70 by grind) (by decide)
    refine ⟨fun _ => ⟨w1, w2, w3, w4, g1, nz, v1, v2, v3, v4, g2, nz, ?_⟩, fun _ => ⟨w1, v1, kIe (e_areBeside n1) (fun a => ?_)⟩⟩
    · exact ⟨fun _ => ⟨fun _ => hI _, fun _ => hI _⟩, fun _ => ⟨fun _ => hI _, fun _ => hI _⟩⟩
    · repeat' first
        | (exact hI _)
        | ((fail_if_success (refine Ws.str ?_)); intro _)
        | (refine And.intro ?_ ?_)
  refine sg_m_mark_0 ⟨fun a => ⟨fun b => ?_, fun _ => lfM hM Mq.rf⟩, fun _ => lfM hM Mq.rf⟩
  have a1 : x1 < mI u 76 11 := by grind
  have h5 := hM.2.2.1 x1 a.1 a1
  have hv : vp_in (5 * x1 + 4) 70 := vin (by grind) (show (_ : Int32) < 70 by grind) (by decide)
  refine ⟨vin (by grind) (show (_ : Int32) < 70 by grind) (by decide), fun c => ⟨hv, key a.1 a1 _ (fun z => h5 (by grind)) 0 0 (by decide)⟩, fun c => ⟨fun _ => lfM hM Mq.rf.tm, fun d => kI (e_isSleeper hM ⟨a.1, a1⟩) (fun g v' h => ?_)⟩⟩
  obtain ⟨rfl, h⟩ := h
  exact ⟨fun z => ⟨hv, key a.1 a1 _ (fun _ => h5 (by have := h z; grind)) 0 0 (by decide)⟩, fun _ => lfM hM Mq.rf.tm⟩
theorem e_shutMany  (hM : 0 ≤ mI u 76 10 ∧ mI u 76 10 ≤ 30) : Ws G m_shutMany 0 [(0, .ref 76)] [] u (RI fun a u' => u = u' ∧ a.toInt = (cnt (mI u 76 19) (mI u 76 10).toNatClampNeg : Int)) := by
  have m7 := hM
  have key : ∀ x (y : Int32), 0 ≤ x → x ≤ mI u 76 10 → y.toInt = (cnt (mI u 76 19) x.toNatClampNeg : Int) → Ws G m_shutMany 4 [(0, .ref 76), (1, .int y), (2, .int x)] [] u (RI fun a u' => u = u' ∧ a.toInt = (cnt (mI u 76 19) (mI u 76 10).toNatClampNeg : Int)) := by
    refine upI (mI u 76 10) _ (fun x ih y h0 h1 hy => ?_)
    refine sg_m_shutMany_4 ⟨fun c => ?_, fun c => ih c _ (by grind) (by grind) ?_⟩
    · have e : x = mI u 76 10 := by grind
      exact ⟨_, rfl, rfl, by rw [← e]; exact hy⟩
    · rw [tn_succ h0 c, cnt]
      have l := cnt_le (mI u 76 19) x.toNatClampNeg
      have x30 : x.toNatClampNeg ≤ 30 := by
        have := tn_le (show x ≤ 30 by grind)
        have e : (30 : Int32).toNatClampNeg = 30 := by decide
        omega
      rcases tb_01 (mI u 76 19 >>> (x &&& 31)) with b | b
      · have t := tb_f h0 (by grind) b
        rw [b, t]
        have z : y + 0 = y := by grind
        rw [z, hy]; simp
      · have t := (tbx h0 (by grind)).mp b
        rw [b, t, Int32.toInt_add, hy]
        have d1 : (1 : Int32).toInt = 1 := by decide
        rw [d1, Int.bmod_eq_of_le (by omega) (by omega)]
        simp
  exact sg_m_shutMany_0 (key 0 0 (by decide) (by grind) rfl)
theorem InvM.pS {x : Int32} (h : InvM u) (hc : cnt x (mI u 76 10).toNatClampNeg ≤ 3) : Mo (mB ++ mNw) u (pI u 76 19 x) := by
  obtain ⟨a, b, c, d, e, f⟩ := h
  have q : ∀ n k, (n ≠ 76 ∨ k ≠ 19) → mI (pI u 76 19 x) n k = mI u n k := fun n k hn => by
    show up2 (mI u) 76 19 x n k = _
    rw [up2, if_neg (by omega)]
  refine ⟨⟨a.wI ⟨fun z => by omega, fun z => by omega, fun z => by omega, fun z => by omega⟩, ?_, ?_, ?_, ?_, ?_⟩, fun n k hn => q n k (by omega), Fp.rf.pI (by decide), rfl⟩
  · unfold szK at *; rw [q _ _ (by decide), q _ _ (by decide)]; exact b
  · unfold shK at *; rw [q _ _ (by decide)]; intro s; rw [q _ _ (by omega), q _ _ (by omega)]; exact c s
  · rw [mI_eq, q _ _ (by decide)]; exact hc
  · unfold kpK at *; rw [q _ _ (by decide)]; intro k; rw [q _ _ (by omega), q _ _ (by omega)]; intro k0 k2; exact ⟨(e k k0 k2).1, fun s => by rw [q _ _ (by omega)]; exact (e k k0 k2).2 s⟩
  · rw [q _ _ (by decide)]; exact f
theorem n31 (h : InvM u) : (mI u 76 10).toNatClampNeg ≤ 30 := by
  have := tn_le h.n30.2
  have e : (30 : Int32).toNatClampNeg = 30 := by decide
  omega
end MOD
