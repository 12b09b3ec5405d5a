section CLS
variable {G : pG} {u w : pM} {L : List Nat}
theorem d_digest (hC : InvC u) : Ws G D_digest 0 [(0, .ref 2)] [] u (RJ fun _ u' => Cl qB u u') := by
  have k159 : ∀ x (y : Int64), Ws G D_digest 159 [(0, .ref 2), (1, .long y), (3, .int x)] [] u (RJ fun _ u' => Cl qB u u') := by
    refine upI 4 _ (fun x ih y => ?_)
    exact sg_D_digest_159 ⟨fun _ => ⟨_, rfl, Cl.rf hC⟩, fun c => kJe (c_mixS (txV_ok _)) (fun _ => ih c _)⟩
  have k135 : ∀ x (y : Int64), Ws G D_digest 135 [(0, .ref 2), (1, .long y), (3, .int x)] [] u (RJ fun _ u' => Cl qB u u') := by
    refine upI 6 _ (fun x ih y => ?_)
    exact sg_D_digest_135 ⟨fun _ => k159 _ _, fun c => kJe (c_mixS (roV_ok _)) (fun _ => ih c _)⟩
  have k106 : ∀ x (y : Int64), Ws G D_digest 106 [(0, .ref 2), (1, .long y), (3, .int x)] [] u (RJ fun _ u' => Cl qB u u') := by
    refine upI 3 _ (fun x ih y => ?_)
    exact sg_D_digest_106 ⟨fun _ => k135 _ _, fun c => ih c _⟩
  have k33 : ∀ x (y : Int64), Ws G D_digest 33 [(0, .ref 2), (1, .long y), (3, .int x)] [] u (RJ fun _ u' => Cl qB u u') := by
    refine upI (mI u (mR u 2 10) 1) _ (fun x ih y => ?_)
    refine sg_D_digest_33 (fun _ => ⟨fun _ => kJe c_mixD (fun _ => k106 _ _), fun c => ?_⟩)
    have k47 : ∀ z (y : Int64), Ws G D_digest 47 [(0, .ref 2), (1, .long y), (3, .int x), (4, .int z)] [] u (RJ fun _ u' => Cl qB u u') := by
      refine upI 6 _ (fun z ihz y => ?_)
      exact sg_D_digest_47 ⟨fun _ => ih c _, fun cz => kIe h_trait (fun _ => ihz (by grind) _)⟩
    exact k47 _ _
  have k6 : ∀ x (y : Int64), Ws G D_digest 6 [(0, .ref 2), (1, .long y), (3, .int x)] [] u (RJ fun _ u' => Cl qB u u') := by
    refine upI 8 _ (fun x ih y => ?_)
    exact sg_D_digest_6 ⟨fun _ => k33 _ _, fun c => kIe h_countOf (fun _ => ih (by grind) _)⟩
  exact sg_D_digest_0 (k6 _ _)
end CLS
