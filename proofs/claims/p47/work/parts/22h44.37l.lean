/-! ===== digest ===== -/
def trV (sh : Nat → Sh5) (dr : Nat → Int32) (s w : Nat) : Int32 := if w = 0 then (sh s).1 else if w = 1 then dr s else if w = 2 then (sh s).2.2.1 else if w = 3 then (sh s).2.2.2.1 else if w = 4 then (sh s).2.2.2.2 else (sh s).2.1
section ANL
variable {G : pG} {u v : pM} {Q : Option Value → pM → Prop}
theorem c_traitx {x1 x2 : Int32} (hm : mI u (mR u 2 10) 1 ≤ 7) (h1 : 0 ≤ x1 ∧ x1 < mI u (mR u 2 10) 1) (h2 : 0 ≤ x2 ∧ x2.toNatClampNeg ≤ 5) : Ws G D_trait 0 [(0, .ref 2), (1, .int x1), (2, .int x2)] [] u (RI fun a u' => u = u' ∧ a = trV (shF u (mR u 2 10)) (mI u 8) x1.toNatClampNeg x2.toNatClampNeg) := by
  have l1 := Int32.lt_of_lt_of_le h1.2 hm
  have T : ∀ x : Int32, x2 = x → trV (shF u (mR u 2 10)) (mI u 8) x1.toNatClampNeg x2.toNatClampNeg = trV (shF u (mR u 2 10)) (mI u 8) x1.toNatClampNeg x.toNatClampNeg := fun x e => by rw [e]
  have e2 := i32_nat h2.1
  refine sg_D_trait_0 (fun _ => ?_)
  rw [shO_in h1.1 h1.2 l1]
  refine ⟨fun e => ⟨_, rfl, rfl, ?_⟩, fun e => ⟨_, rfl, rfl, ?_⟩, fun e => ⟨_, rfl, rfl, ?_⟩, fun e => ⟨_, rfl, rfl, ?_⟩, fun e => ⟨_, rfl, rfl, ?_⟩, fun e => ⟨_, rfl, rfl, ?_⟩⟩
  · rw [T _ e]; rfl
  · rw [T _ e]
    unfold snD
    rw [if_pos ⟨h1.1, l1⟩]
    rfl
  · rw [T _ e]; rfl
  · rw [T _ e]; rfl
  · rw [T _ e]; rfl
  · have q := (show ∀ k, k < 6 → Int32.ofNat k = 0 ∨ Int32.ofNat k = 1 ∨ Int32.ofNat k = 2 ∨ Int32.ofNat k = 3 ∨ Int32.ofNat k = 4 ∨ Int32.ofNat k = 5 from by decide) x2.toNatClampNeg (by omega)
    rw [e2] at q
    rcases q with z | z | z | z | z | z
    · exact absurd z e.1
    · exact absurd z e.2.1
    · exact absurd z e.2.2.1
    · exact absurd z e.2.2.2.1
    · exact absurd z e.2.2.2.2
    · rw [T _ z]; rfl
theorem mLq {u : pM} {n k : Nat} {v : Int64} : mL (pL u n k v) n k = v := by show up2 (mL u) n k v n k = _; simp [up2]
def DG (u v : pM) (h : Int64) : Prop := Mq mB u v ∧ mI v = mI u ∧ mL v 76 32 = h
theorem DG.mix {h : Int64} {y : Int32} (d : DG u v h) : DG u (pL v 76 32 (31 * mL v 76 32 + y.toInt64)) (31 * h + y.toInt64) := by
  refine ⟨d.1.wL, d.2.1, ?_⟩
  rw [mLq, d.2.2]
theorem e_aboutOfx {x1 x2 : Int32} (hm : mI u 76 11 ≤ 7) (h1 : 0 ≤ x1 ∧ x1 < mI u 76 11) (h2 : 0 ≤ x2 ∧ x2.toNatClampNeg ≤ 5) : Ws G m_aboutOf 0 [(0, .ref 76), (1, .int x1), (2, .int x2)] [] u (RI fun a u' => u = u' ∧ a = trV (shM u) (mI u 84) x1.toNatClampNeg x2.toNatClampNeg) := by
  have l1 := Int32.lt_of_lt_of_le h1.2 hm
  have a0 := h1.1
  have i5 := ix5 h1.1 l1
  have T : ∀ x : Int32, x2 = x → trV (shM u) (mI u 84) x1.toNatClampNeg x2.toNatClampNeg = trV (shM u) (mI u 84) x1.toNatClampNeg x.toNatClampNeg := fun x e => by rw [e]
  have e2 := i32_nat h2.1
  have q := (show ∀ k, k < 6 → Int32.ofNat k = 0 ∨ Int32.ofNat k = 1 ∨ Int32.ofNat k = 2 ∨ Int32.ofNat k = 3 ∨ Int32.ofNat k = 4 ∨ Int32.ofNat k = 5 from by decide) x2.toNatClampNeg (by omega)
  rw [e2] at q
  have v5 : ∀ y : Int32, 0 ≤ y → y ≤ 5 → vp_in (5 * x1 + y) 70 := fun y y0 y5 => vin (by grind) (show (_ : Int32) < 70 by grind) (by decide)
  refine sg_m_aboutOf_0 ⟨fun n0 => ⟨fun n1 => ⟨fun n5 => ?_, fun e => ⟨v5 1 (by decide) (by decide), _, rfl, rfl, ?_⟩⟩, fun e => ⟨vin h1.1 (show (_ : Int32) < 7 from l1) (by decide), _, rfl, rfl, ?_⟩⟩, fun e => ⟨v5 0 (by decide) (by decide), _, rfl, rfl, ?_⟩⟩
  · rcases q with z | z | z | z | z | z
    · exact absurd z n0
    · exact absurd z n1
    · rw [T _ z, z, i5.2.2.1]
      exact ⟨v5 2 (by decide) (by decide), _, rfl, rfl, rfl⟩
    · rw [T _ z, z, i5.2.2.2.1]
      exact ⟨v5 3 (by decide) (by decide), _, rfl, rfl, rfl⟩
    · rw [T _ z, z, i5.2.2.2.2.1]
      exact ⟨v5 4 (by decide) (by decide), _, rfl, rfl, rfl⟩
    · exact absurd z n5
  · rw [T _ e, i5.2.1]; rfl
  · rw [T _ e]; rfl
  · rw [T _ e, i5.1]; rfl
end ANL
