/-! ===== errands: the pure table ===== -/
def seqP (some : Int32) : Nat → Int32 → List Int32
  | 0, _ => []
  | f + 1, part => if part < 0 then [] else part :: seqP some f (if part = 0 then -1 else (part - 1) &&& some)
def cnd (R V : Nat → Int32) (may : Int32 → Bool) (w some part : Int32) : Int32 := if may part then R (128 * w + part : Int32).toNatClampNeg + V (some &&& (part ^^^ (-1)) : Int32).toNatClampNeg else 16777216
def mn (a v : Int32) : Int32 := if a ≤ v then a else v
def fo (c : Int32 → Int32) (l : List Int32) (a : Int32) : Int32 := l.foldl (fun a p => mn a (c p)) a
theorem mn_le (a v : Int32) : mn a v ≤ a ∧ mn a v ≤ v ∧ (mn a v = a ∨ mn a v = v) := by
  unfold mn
  split
  · rename_i h; exact ⟨Int32.le_refl _, h, .inl rfl⟩
  · rename_i h; exact ⟨by grind, Int32.le_refl _, .inr rfl⟩
theorem fo_le (c : Int32 → Int32) : ∀ (l : List Int32) (a : Int32), fo c l a ≤ a ∧ (∀ p ∈ l, fo c l a ≤ c p) ∧ (fo c l a = a ∨ ∃ p ∈ l, fo c l a = c p)
  | [], a => ⟨Int32.le_refl _, fun p hp => absurd hp (by simp), .inl rfl⟩
  | q :: l, a => by
    have h := fo_le c l (mn a (c q))
    have m := mn_le a (c q)
    have e : fo c (q :: l) a = fo c l (mn a (c q)) := rfl
    rw [e]
    refine ⟨Int32.le_trans h.1 m.1, fun p hp => ?_, ?_⟩
    · rcases List.mem_cons.mp hp with r | r
      · rw [r]; exact Int32.le_trans h.1 m.2.1
      · exact h.2.1 p r
    · rcases h.2.2 with r | ⟨p, hp, r⟩
      · rcases m.2.2 with s | s
        · exact .inl (r.trans s)
        · exact .inr ⟨q, List.mem_cons_self, r.trans s⟩
      · exact .inr ⟨p, List.mem_cons_of_mem _ hp, r⟩
