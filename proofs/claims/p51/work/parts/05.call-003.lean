section CALL
variable {G : pG} {M M' : pY} {kc ks kc' ks' pc : Nat} {l : pLo} {st : List Value} {u : pM} {Q Q' : Option Value → pM → Prop}
theorem lm_args (vs : List Value) : ∀ i, lm G (lv_args i vs) = lv_args i (vs.map (tv G)) := by
  induction vs with
  | nil => intro i; rfl
  | cons v t ih =>
    intro i
    show (i, tv G v) :: lm G (lv_args _ t) = (i, tv G v) :: lv_args _ (t.map (tv G))
    rw [ih, tv_cat]
end CALL
