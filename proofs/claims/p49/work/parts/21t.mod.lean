/-! ===== errands ===== -/
section MOD
variable {G : pG} {u v w : pM}
theorem fn2 {f g : Nat → Int32} (h : ∀ k, f k = g k) : f = g := funext h
theorem fx_w {n s : Nat} {x : Int32} {F : Nat → Int32} {v : pM} {y : Int32} (h : mI v n = fx F s y) : mI (pI v n s x) n = fx F s x := by
  funext t
  by_cases e : t = s
  · rw [e, mI_eq, fx, if_pos rfl]
  · rw [mI_nk e, h, fx, fx, if_neg e, if_neg e]
theorem fx_w0 {n s : Nat} {x : Int32} {v : pM} : mI (pI v n s x) n = fx (mI v n) s x := by
  funext t
  by_cases e : t = s
  · rw [e, mI_eq, fx, if_pos rfl]
  · rw [mI_nk e, fx, if_neg e]
theorem e_errands {x1 x2 x3 x4 : Int32} (hM : InvM u) : Ws G m_errands 0 [(0, .ref 76), (1, .int x1), (2, .int x2), (3, .int x3), (4, .int x4)] [] u (RI fun _ u' => Mo (mB ++ mRw) u u') := by
  have m7 := hM.m7
  refine sg_m_errands_0 ⟨fun b1 => ⟨fun b2 => ⟨fun b3 => ⟨fun b4 => ?_, fun _ => lfM hM Mq.rf⟩, fun _ => lfM hM Mq.rf⟩, fun _ => lfM hM Mq.rf⟩, fun _ => lfM hM Mq.rf⟩
  have s1 : x2 < 128 := set128 m7 b2.2
  have z0 : (0 : Int32).toNatClampNeg = 0 := by decide
  have l235 : ∀ x (x5 x6 : Int32) v, 0 ≤ x → 0 ≤ x6 → x6 ≤ x → Mq (mB ++ mRw) u v → Ws G m_errands 235 [(0, .ref 76), (2, .int x2), (4, .int x4), (5, .int x5), (6, .int x6), (7, .int x)] [] v (RI fun _ u' => Mo (mB ++ mRw) u u') := by
    refine upI (mI u 76 11) _ (fun x ih x5 x6 v h0 h6 h6x hq => ?_)
    have e11 := hq.m
    refine sg_m_errands_235 ⟨fun _ => lfM hM hq, fun c => ?_⟩
    rw [e11] at c
    exact ⟨fun _ => ih c _ _ _ (by grind) h6 (by grind) hq, fun _ => ⟨vin h0 (show (_ : Int32) < 7 by grind) (by decide), vin (by grind) (show (_ : Int32) < 240 by grind) (by decide), ih c _ _ _ (by grind) (by grind) (by grind) (hq.pA (by decide))⟩⟩
  have l159 : ∀ x (x5 x6 : Int32) v, 0 ≤ x → 0 ≤ x6 → x6 ≤ x → Mq (mB ++ mRw) u v → (∀ k, x.toNatClampNeg ≤ k → k < 7 → mI v 91 k = -9) → TT v x2 x3 (x3.toNatClampNeg + 1) x2.toNatClampNeg = x5 → Ws G m_errands 159 [(0, .ref 76), (2, .int x2), (3, .int x3), (4, .int x4), (5, .int x5), (6, .int x6), (7, .int x)] [] v (RI fun _ u' => Mo (mB ++ mRw) u u') := by
    refine upI (mI u 76 11) _ (fun x ih x5 x6 v h0 h6 h6x hq hF hT => ?_)
    have e11 := hq.m
    refine sg_m_errands_159 ⟨fun _ => kI e_row (fun a v' h => l235 0 _ _ v' (by decide) (by decide) (by decide) (hq.tr h.2)), fun c => ?_⟩
    rw [e11] at c
    have sx := tn_succ h0 c
    have x7 : x < 7 := by grind
    have v7 : vp_in x 7 := vin h0 (show (_ : Int32) < 7 by grind) (by decide)
    have k7 : x.toNatClampNeg < 7 := by
      have l := Int32.lt_iff_toInt_lt.mp x7
      have e : x.toNatClampNeg = x.toInt.toNat := rfl
      have d : (7 : Int32).toInt = 7 := by decide
      omega
    refine ⟨fun _ => ih c _ _ _ (by grind) h6 (by grind) hq (fun k hk => hF k (by omega)) hT, fun t => ⟨v7, ?_⟩⟩
    have tbs : tb x2 x.toNatClampNeg = true := (tbx h0 (by grind)).mp t
    obtain ⟨X, X0, X1, hX⟩ := err_x (R := mI v 88) (F := mI v 91) (b := (mI u 76 11).toNatClampNeg) (s := x.toNatClampNeg) (by omega) b3.1 b2.1 s1 (hq.inv hM).b88 (hF _ (Nat.le_refl _) k7) tbs
    have hT' : tab (mI v 88) (mayF (mI v 91) (mI u 76 11).toNatClampNeg) x2 x3 (x3.toNatClampNeg + 1) x2.toNatClampNeg = x5 := by rw [← e11]; exact hT
    rw [hT'] at hX
    have l186 : ∀ y v', 0 ≤ y → y ≤ X → Mq (mB ++ mRw) u v' → mI v' 88 = mI v 88 → mI v' 91 = fx (mI v 91) x.toNatClampNeg y → Ws G m_errands 186 [(0, .ref 76), (2, .int x2), (3, .int x3), (4, .int x4), (5, .int x5), (6, .int x6), (7, .int x)] [] v' (RI fun _ u' => Mo (mB ++ mRw) u u') := by
      refine upI X _ (fun y ihy v' y0 yX hq' h88 h91 => ?_)
      have Te : TT v' x2 x3 (x3.toNatClampNeg + 1) x2.toNatClampNeg = tab (mI v 88) (mayF (fx (mI v 91) x.toNatClampNeg y) (mI u 76 11).toNatClampNeg) x2 x3 (x3.toNatClampNeg + 1) x2.toNatClampNeg := by
        rw [TT, h88, h91, hq'.m]
      refine sg_m_errands_186 (kI (e_leastFor (hq'.inv hM) b2.1 s1 b3.1 b3.2) (fun a v'' h => ?_))
      obtain ⟨ea, lq⟩ := h
      have f88 : mI v'' 88 = mI v' 88 := fn2 lq.2.1
      have f91 : mI v'' 91 = mI v' 91 := fn2 lq.2.2
      refine ⟨fun e => ?_, fun ne => ⟨v7, v7, ?_⟩⟩
      · refine ih c _ _ _ (by grind) (by grind) (by grind) (hq'.tr lq.1) (fun k hk hk7 => ?_) ?_
        · rw [f91, h91, fx, if_neg (by omega)]
          exact hF k (by omega) hk7
        · rw [← e, ea, TT, TT, f88, f91, lq.1.m]
      · have nX : ¬ X ≤ y := by
          intro q
          have : y = X := by grind
          apply ne
          rw [ea, Te, this, hX]
        refine ihy nX _ (by grind) (by grind) ((hq'.tr lq.1).pA (by decide)) ?_ ?_
        · funext k
          rw [mI_ne (by decide), f88, h88]
        · have ev : mI v'' 91 x.toNatClampNeg = y := by rw [f91, h91, fx, if_pos rfl]
          rw [ev]
          exact fx_w (f91.trans h91)
    exact l186 0 _ (by decide) X0 (hq.pA (by decide)) (by funext k; rw [mI_ne (by decide)]) fx_w0
  have l123 : ∀ x v, 0 ≤ x → Mq (mB ++ mRw) u v → (∀ k, k < x.toNatClampNeg → mI v 91 k = -9) → Ws G m_errands 123 [(0, .ref 76), (2, .int x2), (3, .int x3), (4, .int x4), (5, .int x)] [] v (RI fun _ u' => Mo (mB ++ mRw) u u') := by
    refine upI 7 _ (fun x ih v h0 hq hF => ?_)
    refine sg_m_errands_123 ⟨fun c => kI (e_leastFor (hq.inv hM) b2.1 s1 b3.1 b3.2) (fun a v' h => ?_), fun c => ?_⟩
    · obtain ⟨ea, lq⟩ := h
      refine l159 0 _ _ v' (by decide) (by decide) (by decide) (hq.tr lq.1) (fun k _ hk => ?_) ?_
      · rw [lq.2.2]
        refine hF k ?_
        have l := tn_le c
        have : (7 : Int32).toNatClampNeg = 7 := by decide
        omega
      · rw [ea, TT, TT, fn2 lq.2.1, fn2 lq.2.2, lq.1.m]
    · have sx := tn_succ h0 c
      refine ⟨vin h0 (show (_ : Int32) < 7 by grind) (by decide), ih c _ (by grind) (hq.pA (by decide)) (fun k hk => ?_)⟩
      by_cases e : k = x.toNatClampNeg
      · rw [e, mI_eq]
      · rw [mI_nk e]; exact hF k (by omega)
  have l43 : ∀ x v, 0 ≤ x → Mq (mB ++ mRw) u v → Ws G m_errands 43 [(0, .ref 76), (1, .int x1), (2, .int x2), (3, .int x3), (4, .int x4), (5, .int x)] [] v (RI fun _ u' => Mo (mB ++ mRw) u u') := by
    refine upI (x3 + 1) _ (fun x ih v h0 hq => ?_)
    refine sg_m_errands_43 ⟨fun _ => l123 0 v (by decide) hq (fun k hk => by omega), fun c => ?_⟩
    have l52 : ∀ y v, 0 ≤ y → Mq (mB ++ mRw) u v → Ws G m_errands 52 [(0, .ref 76), (1, .int x1), (2, .int x2), (3, .int x3), (4, .int x4), (5, .int x), (6, .int y)] [] v (RI fun _ u' => Mo (mB ++ mRw) u u') := by
      refine upI (x2 + 1) _ (fun y ihy v y0 hq => ?_)
      have hi := hq.inv hM
      refine sg_m_errands_52 ⟨fun _ => kVm (u := u) (L := (mB ++ mRw)) (e_passOne hi hi.2.2.2.1) hq (fun v' hq' => ih (by grind) _ (by grind) hq'), fun d => ⟨fun _ => ⟨vin (by grind) (show (_ : Int32) < 3968 by grind) (by decide), ihy (by grind) _ (by grind) (hq.p88 (by decide))⟩, fun _ => kI (e_roundOf hi (by grind)) (fun a v' h => ?_)⟩⟩
      obtain ⟨rfl, a0, a1⟩ := h
      exact ⟨vin (by grind) (show (_ : Int32) < 3968 by grind) (by decide), ihy (by grind) _ (by grind) (hq.p88 ⟨a0, Int32.le_trans a1 (by decide)⟩)⟩
    exact l52 0 v (by decide) hq
  exact kVm (u := u) (L := (mB ++ mRw)) (e_fromNow hM) Mq.rf (fun v hq => l43 0 v (by decide) hq)
end MOD
