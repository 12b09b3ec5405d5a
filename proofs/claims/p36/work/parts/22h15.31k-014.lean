section SQX
variable {G : pG} {u : pM}
theorem e_squarex {x1 : Int32} (hM : InvM u) : Ws G m_square 0 [(0, .ref 76), (1, .int x1)] [] u (RI fun a u' => Mo (mB ++ mPl ++ mNw ++ mKp ++ mJn ++ mFd) u u' ∧ sqQ (mI u 81 x1.toNatClampNeg) (TM u x1) x1 a (Fp mB u u') (smS u')) := by
  refine sg_m_square_0 (sg_m_askedText_0 ⟨fun a => ?_, fun a => ⟨_, rfl, fun c => absurd c (by decide), fun _ => ⟨_, rfl, Mo.rf hM, .inl ⟨fun q => a ⟨q.1, by grind⟩, rfl, Fp.rf⟩⟩⟩⟩)
  have a4 : 0 ≤ x1 ∧ x1 < 4 := ⟨a.1, by grind⟩
  have v4 : vp_in x1 4 := vin a.1 (show (_ : Int32) < 4 by grind) (by decide)
  refine ⟨v4, fun b => ⟨_, rfl, fun _ => ?_, fun q => absurd (by decide) q⟩, fun b => ⟨_, rfl, fun q => absurd q (by decide), fun _ => ⟨_, rfl, Mq.rf.tm.mo hM, .inr ⟨a4, .inl ⟨b, rfl, (Mq.tm (L := mB) Mq.rf).fp⟩⟩⟩⟩⟩
  refine kI (y_goesOn a ⟨b, hM.b81 _⟩) (fun a3 w h => ?_)
  obtain ⟨hr, hr2, h⟩ := h
  rcases h with ⟨e, p⟩ | ⟨d, l, e, p, g15, hm, hd, ho⟩
  · refine ⟨fun z => absurd p (by rw [z]; decide), fun _ => ⟨_, rfl, (hr.mo hr2 hM).up, .inr ⟨a4, .inr ⟨b, .inl ⟨e, rfl, (hr.mo hr2 hM).fp⟩⟩⟩⟩⟩
  · have q := hm.sh hd.1 hd.2 ho
    refine ⟨fun _ => ?_, fun z => absurd p z⟩
    rw [mI_nk (show (16 : Nat) ≠ 10 by decide)]
    refine kI (sq_tail hM hr hr2 (by rw [g15]; exact hd.1) (by rw [g15]; exact hd.2) q.1 q.2.1 q.2.2) (fun a v h => ⟨h.1, .inr ⟨a4, .inr ⟨b, .inr ⟨d, l, e, ?_, h.2.2.1.trans g15, h.2.2.2.1.trans hm.1, hm.2.1, fun s hs => ?_, ?_⟩⟩⟩⟩)
    · rw [h.2.1]; exact hm.1
    · have f := h.2.2.2.2.1
      have h7 := hm.2.1
      rw [hm.2.2 s hs]; unfold mC
      rw [f (5 * s) (by omega), f (5 * s + 1) (by omega), f (5 * s + 2) (by omega), f (5 * s + 3) (by omega), f (5 * s + 4) (by omega)]
      rw [show 35 + (5 * s + 1) = 35 + 5 * s + 1 by omega, show 35 + (5 * s + 2) = 35 + 5 * s + 2 by omega, show 35 + (5 * s + 3) = 35 + 5 * s + 3 by omega, show 35 + (5 * s + 4) = 35 + 5 * s + 4 by omega]
    · have f := h.2.2.2.2.1
      have T := h.2.2.2.2.2
      have h7 := hm.2.1
      refine ⟨T.1, T.2.1, T.2.2.1, fun s hs => ?_, T.2.2.2.2, (rdA_okx e).1, (rdA_okx e).2⟩
      rw [T.2.2.2.1 s (by rw [hm.1, on7 h7]; exact hs)]
      show _ = mI v 83 (5 * s + 1)
      rw [f (5 * s + 1) (by omega), show 35 + (5 * s + 1) = 35 + 5 * s + 1 by omega]
end SQX
