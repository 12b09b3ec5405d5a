/-! ===== at, lay, mean, about, for the asked (lists with 312, 202) ===== -/
section AT9
variable {G : pG} {u v : pM}
theorem d_atv {x1 x2 : Int32} (hC : InvC u) : Ws G D_at 0 [(0, .ref 2), (1, .int x1), (2, .int x2)] [] u (RI fun a u' => Cl (qB ++ qA) u u' ∧ atQ (mI u (50 + 2 * x1.toNatClampNeg) 1) x1 x2 a (u' = u) (u' = dF u 1) (u' = dF u 2) (u' = pI u 2 12 (mI u (51 + 2 * x1.toNatClampNeg) x2.toNatClampNeg))) := d_atq hC (fun a u' h => ⟨_, rfl, by
  rcases h with ⟨_, _, e⟩ | ⟨_, _, _, e⟩ | ⟨_, _, _, _, e⟩ | ⟨_, _, _, _, e⟩ <;> rw [e]
  · exact Cl.rf hC
  · exact (cq_dF Cq.rf (by decide)).cl hC
  · exact (cq_dF Cq.rf (by decide)).cl hC
  · exact (Cq.rf.pI wr_D (by decide)).cl hC, h⟩)
theorem e_atv {x1 x2 : Int32} (hM : InvM u) : Ws G m_at 0 [(0, .ref 76), (1, .int x1), (2, .int x2)] [] u (RI fun a u' => Mo (mB ++ mA) u u' ∧ atQ (mI u 78 x1.toNatClampNeg) x1 x2 a (u' = u) (u' = mt u 1) (u' = mt u 2) (u' = pI u 76 2 (mI u 79 (40 * x1.toNatClampNeg + x2.toNatClampNeg)))) := e_atq hM (fun a u' h => ⟨_, rfl, by
  rcases h with ⟨_, _, e⟩ | ⟨_, _, _, e⟩ | ⟨_, _, _, _, e⟩ | ⟨_, _, _, _, e⟩ <;> rw [e]
  · exact Mo.rf hM
  · exact (Mq.rf.tm).mo hM
  · exact (Mq.rf.tm).mo hM
  · exact (Mq.rf.pF (by decide)).mo hM, h⟩)
theorem layV_at {sz x1 x2 a : Int32} {B F1 F2 T : Prop} (h : atQ sz x1 x2 a B F1 F2 T) : layV sz x1 x2 = a := by
  unfold layV
  rcases h with ⟨k, e, _⟩ | ⟨k, b, e, _⟩ | ⟨k, b, d, e, _⟩ | ⟨k, b, d, e, _⟩
  · rw [if_neg k, e]
  · rw [if_pos k, if_neg (fun z => b (Int32.le_of_lt (Int32.lt_of_le_of_lt z.1 z.2))), e]
  · rw [if_pos k, if_neg d, e]
  · rw [if_pos k, if_pos d, e]
theorem d_layv {x1 x2 x3 : Int32} (hC : InvC u) : Ws G D_lay 0 [(0, .ref 2), (1, .int x1), (2, .int x2), (3, .int x3)] [] u (RI fun a u' => Cl (qB ++ qR ++ qA) u u' ∧ layV (mI u (50 + 2 * x1.toNatClampNeg) 1) x1 x2 = a ∧ rwP u u' (layV (mI u (50 + 2 * x1.toNatClampNeg) 1) x1 x2 = 1) x1.toNatClampNeg (mI u (50 + 2 * x1.toNatClampNeg) 1) (setF (mI u (51 + 2 * x1.toNatClampNeg)) x2.toNatClampNeg x3) ∧ atQ (mI u (50 + 2 * x1.toNatClampNeg) 1) x1 x2 a (u' = u) (u' = dF u 1) (u' = dF u 2) (u' = pI (pI u (51 + 2 * x1.toNatClampNeg) x2.toNatClampNeg x3) 2 12 (mI u (51 + 2 * x1.toNatClampNeg) x2.toNatClampNeg))) := by
  refine d_layq hC (fun a u' h => ?_)
  have lv := layV_at h
  refine ⟨_, rfl, ?_, lv, ?_, h⟩
  · rcases h with ⟨_, _, e⟩ | ⟨_, _, _, e⟩ | ⟨_, _, _, _, e⟩ | ⟨k, _, _, _, e⟩ <;> rw [e]
    · exact Cl.rf hC
    · exact (cq_dF Cq.rf (by decide)).cl hC
    · exact (cq_dF Cq.rf (by decide)).cl hC
    · have hr := (rO k).2
      have k0 := (rL hr).1
      rw [show 51 + 2 * x1.toNatClampNeg = 50 + 2 * x1.toNatClampNeg + 1 by omega]
      exact ((Cq.rf.pI (wr_6a k0) (cm_6a k0 ((show ∀ t, t < 6 → In2 (qB ++ qR ++ qA) (50 + 2 * t) from by decide) _ hr))).pI wr_D (by decide)).cl hC
  · rw [lv]
    rcases h with ⟨_, ea, e⟩ | ⟨_, _, ea, e⟩ | ⟨_, _, _, ea, e⟩ | ⟨k, _, d, ea, e⟩ <;> rw [e, ea]
    · exact .inr ⟨by decide, rwK.rf⟩
    · exact .inr ⟨by decide, rwK.dF⟩
    · exact .inr ⟨by decide, rwK.dF⟩
    · refine .inl ⟨rfl, rwS.of (by rw [mI_ne (by omega), mI_ne (by omega)]) (fun j _ => ?_) (fun n j n1 n2 n3 n4 => by rw [mI_ne (by omega), mI_ne n4])⟩
      rw [mI_ne (by omega)]
      unfold setF
      by_cases q : j = x2.toNatClampNeg
      · rw [if_pos q, q, mI_eq]
      · rw [if_neg q, mI_nk q]
theorem e_layv {x1 x2 x3 : Int32} (hM : InvM u) : Ws G m_lay 0 [(0, .ref 76), (1, .int x1), (2, .int x2), (3, .int x3)] [] u (RI fun a u' => Mo (mB ++ mRw ++ mA) u u' ∧ layV (mI u 78 x1.toNatClampNeg) x1 x2 = a ∧ rmP u u' (layV (mI u 78 x1.toNatClampNeg) x1 x2 = 1) x1.toNatClampNeg (mI u 78 x1.toNatClampNeg) (setF (fun k => mI u 79 (40 * x1.toNatClampNeg + k)) x2.toNatClampNeg x3) ∧ atQ (mI u 78 x1.toNatClampNeg) x1 x2 a (u' = u) (u' = mt u 1) (u' = mt u 2) (u' = pI (pI u 76 2 (mI u 79 (40 * x1.toNatClampNeg + x2.toNatClampNeg))) 79 (40 * x1.toNatClampNeg + x2.toNatClampNeg) x3)) := by
  refine e_layq hM (fun a u' h => ?_)
  have lv := layV_at h
  refine ⟨_, rfl, ?_, lv, ?_, h⟩
  · rcases h with ⟨_, _, e⟩ | ⟨_, _, _, e⟩ | ⟨_, _, _, _, e⟩ | ⟨_, _, _, _, e⟩ <;> rw [e]
    · exact Mo.rf hM
    · exact (Mq.rf.tm).mo hM
    · exact (Mq.rf.tm).mo hM
    · exact ((Mq.rf.pF (by decide)).pA (by decide)).mo hM
  · rw [lv]
    have km : ∀ f, rmK u (mt u f) := fun f => rmK.fp (Mq.tm (L := mB) (f := f) (Mq.rf (u := u))).fp (by decide)
    rcases h with ⟨_, ea, e⟩ | ⟨_, _, ea, e⟩ | ⟨_, _, _, ea, e⟩ | ⟨k, _, d, ea, e⟩ <;> rw [e, ea]
    · exact .inr ⟨by decide, rmK.rf⟩
    · exact .inr ⟨by decide, km 1⟩
    · exact .inr ⟨by decide, km 2⟩
    · have rN := (rO k).2
      have xN : x2.toNatClampNeg < 40 := by
        have l := tn_lt d.1 (Int32.lt_of_lt_of_le d.2 (hM.b78 _))
        have e40 : (40 : Int32).toNatClampNeg = 40 := by decide
        omega
      refine .inl ⟨rfl, by rw [mI_ne (by decide), mI_ne (by decide)], fun j hj => ?_, fun q hq ne => ⟨by rw [mI_ne (by decide), mI_ne (by decide)], fun j hj => by rw [mI_nk (by omega), mI_ne (by decide)]⟩⟩
      unfold setF
      by_cases q : j = x2.toNatClampNeg
      · rw [if_pos q, q, mI_eq]
      · rw [if_neg q, mI_nk (by omega), mI_ne (by decide)]
theorem d_meanv {x1 : Int32} (hC : InvC u) : Ws G D_mean 0 [(0, .ref 2), (1, .int x1)] [] u (RI fun a u' => Cl (qB ++ qA) u u' ∧ meaQ (mI u (50 + 2 * x1.toNatClampNeg) 1) x1 a (u' = u) (u' = dF u 1) (u' = dF u 4) (u' = pI u 2 12 (meaV (mI u (50 + 2 * x1.toNatClampNeg) 1) (mI u (51 + 2 * x1.toNatClampNeg))))) := d_meanq hC (fun a u' h => ⟨_, rfl, by
  rcases h with ⟨_, _, e⟩ | ⟨_, _, _, e⟩ | ⟨_, _, _, _, e⟩ | ⟨_, _, _, _, e⟩ <;> rw [e]
  · exact Cl.rf hC
  · exact (cq_dF Cq.rf (by decide)).cl hC
  · exact (cq_dF Cq.rf (by decide)).cl hC
  · exact (Cq.rf.pI wr_D (by decide)).cl hC, h⟩)
theorem e_meanv {x1 : Int32} (hM : InvM u) : Ws G m_mean 0 [(0, .ref 76), (1, .int x1)] [] u (RI fun a u' => Mo (mB ++ mA) u u' ∧ meaQ (mI u 78 x1.toNatClampNeg) x1 a (u' = u) (u' = mt u 1) (u' = mt u 4) (u' = pI u 76 2 (meaV (mI u 78 x1.toNatClampNeg) (fun k => mI u 79 (40 * x1.toNatClampNeg + k))))) := e_meanq hM (fun a u' h => ⟨_, rfl, by
  rcases h with ⟨_, _, e⟩ | ⟨_, _, _, e⟩ | ⟨_, _, _, _, e⟩ | ⟨_, _, _, _, e⟩ <;> rw [e]
  · exact Mo.rf hM
  · exact (Mq.rf.tm).mo hM
  · exact (Mq.rf.tm).mo hM
  · exact (Mq.rf.pF (by decide)).mo hM, h⟩)
theorem d_aboutv {x1 x2 : Int32} (hC : InvC u) (hm : mI u (mR u 2 10) 1 ≤ 7) : Ws G D_about 0 [(0, .ref 2), (1, .int x1), (2, .int x2)] [] u (RI fun a u' => Cl (qB ++ qA) u u' ∧ aboQ (mI u (mR u 2 10) 1) x1 x2 a (u' = u) (u' = pI u 2 12 (trV (shF u (mR u 2 10)) (mI u 8) x1.toNatClampNeg x2.toNatClampNeg))) := d_aboutq hm (fun a u' h => ⟨_, rfl, by
  rcases h with ⟨_, _, e⟩ | ⟨_, _, e⟩ <;> rw [e]
  · exact (Cq.rf.pI wr_D (by decide)).cl hC
  · exact Cl.rf hC, h⟩)
theorem e_aboutv {x1 x2 : Int32} (hM : InvM u) : Ws G m_about 0 [(0, .ref 76), (1, .int x1), (2, .int x2)] [] u (RI fun a u' => Mo (mB ++ mA) u u' ∧ aboQ (mI u 76 11) x1 x2 a (u' = u) (u' = pI u 76 2 (trV (shM u) (mI u 84) x1.toNatClampNeg x2.toNatClampNeg))) := e_aboutq hM (fun a u' h => ⟨_, rfl, by
  rcases h with ⟨_, _, e⟩ | ⟨_, _, e⟩ <;> rw [e]
  · exact (Mq.rf.pF (by decide)).mo hM
  · exact Mo.rf hM, h⟩)
end AT9
section AT10
variable {G : pG} {u v : pM}
theorem d_askedv (hC : InvC u) : Ws G D_asked 0 [(0, .ref 2)] [] u (RI fun a u' => Cl qB u u' ∧ a = mI u 2 12) := sg_D_asked_0 ⟨_, rfl, Cl.rf hC, rfl⟩
theorem e_askedv (hM : InvM u) : Ws G m_asked 0 [(0, .ref 76)] [] u (RI fun a u' => Mo mB u u' ∧ a = mI u 76 2) := sg_m_asked_0 ⟨_, rfl, Mo.rf hM, rfl⟩
end AT10
