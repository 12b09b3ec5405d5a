/-! ===== errands: the table's bounds ===== -/
def tab (R : Nat → Int32) (may : Int32 → Int32 → Bool) (set weeks : Int32) : Nat → Nat → Int32
  | 0, k => if k = 0 then 0 else 16777216
  | j + 1, k => if (Int32.ofNat k &&& (set ^^^ (-1))) = 0 then fo (cnd R (tab R may set weeks j) (fun p => may p (weeks - Int32.ofNat j)) (weeks - Int32.ofNat j) (Int32.ofNat k)) (seqP (Int32.ofNat k) 130 (Int32.ofNat k)) 16777216 else 16777216
theorem tab_le {R : Nat → Int32} {may : Int32 → Int32 → Bool} {set weeks : Int32} (j k : Nat) : tab R may set weeks j k ≤ 16777216 := by
  cases j with
  | zero => unfold tab; split <;> decide
  | succ j =>
    unfold tab
    split
    · exact (fo_le _ _ _).1
    · exact Int32.le_refl _
theorem fo_mono {c d : Int32 → Int32} {l : List Int32} (h : ∀ p ∈ l, c p ≤ d p) (a : Int32) : fo c l a ≤ fo d l a := by
  have C := fo_le c l a
  rcases (fo_le d l a).2.2 with r | ⟨p, hp, r⟩
  · rw [r]; exact C.1
  · rw [r]; exact Int32.le_trans (C.2.1 p hp) (h p hp)
theorem seq_in (some : Int32) : ∀ (f : Nat) (part : Int32), part &&& some = part → ∀ p ∈ seqP some f part, p &&& some = p ∧ 0 ≤ p
  | 0, _, _, p, hp => absurd hp (by simp [seqP])
  | f + 1, part, h, p, hp => by
    unfold seqP at hp
    split at hp
    · exact absurd hp (by simp)
    · rename_i c
      rcases List.mem_cons.mp hp with r | r
      · rw [r]; exact ⟨h, Int32.not_lt.mp c⟩
      · by_cases e : part = 0
        · rw [if_pos e] at r
          cases f with
          | zero => exact absurd r (by simp [seqP])
          | succ f => exact absurd r (by simp [seqP])
        · rw [if_neg e] at r
          exact seq_in some f _ (by rw [Int32.and_assoc, Int32.and_self]) p r
