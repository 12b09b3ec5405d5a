/-! ===== answers that need no state: text ===== -/
section VAL
variable {G : pG} {u w : pM}
def textV (t n : Int32) : Int32 := if 0 ≤ t ∧ t < 4 then (if n ≤ 100 then (if 0 ≤ n then n else -3) else -1) else -1
theorem d_textv {x1 x2 : Int32} (hC : InvC u) : Ws G D_text 0 [(0, .ref 2), (1, .int x1), (2, .int x2)] [] u (RI fun x u' => textV x1 x2 = x ∧ Cl u u') := by
  refine sg_D_text_0 ⟨fun a => ⟨fun b => ⟨fun c => kV (c_renew (txV_ok _) hC) (fun v h => ⟨_, rfl, by rw [textV, if_pos a, if_pos b, if_pos c], h⟩), fun c => ⟨_, rfl, by rw [textV, if_pos a, if_pos b, if_neg c], (cq_dF Cq.rf).cl hC⟩⟩, fun b => ⟨_, rfl, by rw [textV, if_pos a, if_neg b], Cl.rf hC⟩⟩, fun a => ⟨_, rfl, by rw [textV, if_neg a], Cl.rf hC⟩⟩
theorem e_textv {x1 x2 : Int32} (hM : InvM u) : Ws G m_text 0 [(0, .ref 76), (1, .int x1), (2, .int x2)] [] u (RI fun x u' => textV x1 x2 = x ∧ Mo u u') := by
  have key : 0 ≤ x1 ∧ x1 ≤ 3 → ∀ x v, 0 ≤ x → Mq u v → Ws G m_text 34 [(0, .ref 76), (1, .int x1), (2, .int x2), (3, .int x)] [] v (RI fun x u' => x2 = x ∧ Mo u u') := by
    intro h1
    refine upI 100 _ (fun x ih v h0 hq => ?_)
    exact sg_m_text_34 ⟨fun _ => ⟨_, rfl, rfl, hq.mo hM⟩, fun c => ⟨vin (by grind) (show (_ : Int32) < 400 by grind) (by decide), ih c _ (by grind) (hq.pA (by decide))⟩⟩
  refine sg_m_text_0 ⟨fun a => ⟨fun b => ⟨fun c => ⟨vin a.1 (show (_ : Int32) < 4 by grind) (by decide), (key a 0 _ (by decide) (Mq.rf.p81 b)).mono ?_⟩, fun c => ⟨_, rfl, ?_, Mq.rf.tm.mo hM⟩⟩, fun b => ⟨_, rfl, ?_, Mo.rf hM⟩⟩, fun a => ⟨_, rfl, ?_, Mo.rf hM⟩⟩
  · rintro r w _ ⟨x, rfl, e, h⟩
    exact ⟨x, rfl, by rw [textV, if_pos (by grind), if_pos b, if_pos c]; exact e, h⟩
  · rw [textV, if_pos (by grind), if_pos b, if_neg c]
  · rw [textV, if_pos (by grind), if_neg b]
  · rw [textV, if_neg (by grind)]
end VAL
