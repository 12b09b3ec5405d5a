theorem UCv.up {n : Int32} {far : Nat → Int32} {set up : Int32} {k : Nat} {h l h' l' : Int32} (q : UCv n far set up k h l) (eh : h ≤ h') (el : l ≤ l') (bh : b30 h') (bl : b30 l') (z : (tb up k = true → far k ≤ h') ∧ (tb up k = false → tb set k = true → far k = 0 ∨ n - far k ≤ l')) : UCv n far set up (k + 1) h' l' := by
  refine ⟨bh, bl, fun s hs => ?_⟩
  by_cases e : s = k
  · rw [e]; exact z
  · have r := q.2.2 s (by omega)
    refine ⟨fun a => Int32.le_trans (r.1 a) eh, fun a b => ?_⟩
    rcases r.2 a b with c | c
    · exact .inl c
    · exact .inr (Int32.le_trans c el)
