/-! ===== what a read square's shops are ===== -/
def shD (d : Int32) (s : Sh5) : Prop := shV s ∧ 0 ≤ s.2.1 ∧ s.2.1 ≤ d - 1
theorem shp4_okx {T : Int32 → Int32} {k v s a y : Int32} {q : Sh5 × Int32} (hk : 0 ≤ k ∧ k ≤ 5) (hs : -9 ≤ s ∧ s ≤ 9) (ha : 1 ≤ a ∧ a ≤ 99) (h : shp4 T k v s a y = some q) : shV q.1 ∧ q.1.2.1 = v := by
  unfold shp4 at h
  split at h
  · rename_i c
    cases h
    exact ⟨⟨hk, fun _ => rfl, fun z => absurd c (Int32.not_lt.mpr z), hs, ha⟩, rfl⟩
  · rename_i c
    split at h
    · cases h
    split at h
    · cases h
    rename_i e
    cases h
    have e' := Decidable.not_not.mp e
    exact ⟨⟨hk, fun z => absurd z c, fun _ => ⟨e'.2, by have := e'.1.2; show dg (T (y + 1)) ≤ 9; unfold dg; have := e'.1.1; grind⟩, hs, ha⟩, rfl⟩
theorem shp_okx {T : Int32 → Int32} {d x : Int32} {told : Int32 → Bool} {q : Sh5 × Int32} (h : shp T d told x = some q) : shD d q.1 ∧ told q.1.2.1 = false := by
  unfold shp at h
  split at h
  · cases h
  rename_i hk
  split at h
  · cases h
  rename_i hv
  split at h
  · cases h
  rename_i ht
  have hv' : 0 ≤ (nm2 T (x + 1)).2.1 ∧ (nm2 T (x + 1)).2.1 ≤ d - 1 := Decidable.not_not.mp (fun z => hv (.inr z))
  have kb : 0 ≤ kindV (T x) ∧ kindV (T x) ≤ 5 := by
    unfold kindV at hk ⊢
    repeat' split
    all_goals first
      | decide
      | exact absurd (by repeat' (first | rw [if_pos (by assumption)] | rw [if_neg (by assumption)])) hk
  unfold shp2 at h
  split at h
  · cases h
  split at h
  · cases h
  split at h
  · cases h
  rename_i hf
  have hf' := Decidable.not_not.mp hf
  have f1 := hf'.1
  have f2 := hf'.2
  unfold shp3 at h
  split at h
  · cases h
  split at h
  · cases h
  rename_i ha
  have ha' := Decidable.not_not.mp (fun z => ha (.inr z))
  have r := shp4_okx kb (by
    split
    · unfold dg; grind
    · unfold dg; grind) ha' h
  refine ⟨⟨r.1, by rw [r.2]; exact hv'.1, by rw [r.2]; exact hv'.2⟩, ?_⟩
  rw [r.2]
  exact Bool.eq_false_iff.mpr ht
theorem rdS_okx {T : Int32 → Int32} {n d : Int32} : ∀ (f : Nat) (l : List Sh5) (x : Int32) (l' : List Sh5), (∀ s ∈ l, shD d s) → l.Pairwise (fun a b => a.2.1 ≠ b.2.1) → rdS T n d f l x = some l' → (∀ s ∈ l', shD d s) ∧ l'.Pairwise (fun a b => a.2.1 ≠ b.2.1)
  | 0, l, x, l', _, _, h => by unfold rdS at h; cases h
  | f + 1, l, x, l', hl, hp, h => by
    unfold rdS at h
    split at h
    · cases h; exact ⟨hl, hp⟩
    split at h
    · cases h
    split at h
    · cases h
    rename_i q hq
    have r := shp_okx hq
    refine rdS_okx f _ _ _ (fun s hs => ?_) ?_ h
    · rcases List.mem_append.mp hs with z | z
      · exact hl s z
      · rw [List.mem_singleton.mp z]; exact r.1
    · refine List.pairwise_append.mpr ⟨hp, List.pairwise_singleton _ _, fun a ha b hb => ?_⟩
      rw [List.mem_singleton.mp hb]
      intro e
      have t : toldL l q.1.2.1 = true := List.any_eq_true.mpr ⟨a, ha, by rw [e]; exact beq_self_eq_true _⟩
      rw [r.2] at t
      exact absurd t (by decide)
theorem rdA_okx {T : Int32 → Int32} {n d : Int32} {l : List Sh5} (h : rdA T n = some (d, l)) : (∀ s ∈ l, shD d s) ∧ l.Pairwise (fun a b => a.2.1 ≠ b.2.1) := by
  unfold rdA at h
  split at h
  · cases h
  split at h
  · cases h
  cases e : rdS T n (nm2 T (sk T n 0 + 1)).2.1 8 [] (nm2 T (sk T n 0 + 1)).2.2 with
  | none => rw [e] at h; cases h
  | some l0 =>
    rw [e] at h
    cases h
    exact rdS_okx _ _ _ _ (fun s hs => absurd hs (by simp)) List.Pairwise.nil e
