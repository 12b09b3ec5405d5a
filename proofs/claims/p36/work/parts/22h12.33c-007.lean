theorem ex_bits (P : Nat → Bool) : ∀ k, k ≤ 31 → ∃ b : Int32, ∀ s, s < k → tb b s = P s
  | 0, _ => ⟨0, fun s hs => by omega⟩
  | k + 1, hk => by
    obtain ⟨b, hb⟩ := ex_bits P k (by omega)
    cases hP : P k
    · refine ⟨b &&& ((1 <<< (Int32.ofNat k &&& 31)) ^^^ (-1)), fun s hs => ?_⟩
      rw [tb_an (by omega) (by omega)]
      by_cases e : s = k
      · rw [e, hP]; simp
      · rw [hb s (by omega)]; simp [e]
    · refine ⟨b ||| (1 <<< (Int32.ofNat k &&& 31)), fun s hs => ?_⟩
      rw [tb_or (by omega) (by omega)]
      by_cases e : s = k
      · rw [e, hP]; simp
      · rw [hb s (by omega)]; simp [e]
