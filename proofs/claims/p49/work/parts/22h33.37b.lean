/-! ===== again, wants, beside, round, best, agree ===== -/
theorem stU {x b : Int32} (h0 : 0 ≤ x) (c : ¬ b ≤ x) : 0 ≤ x + 1 ∧ x + 1 ≤ b := ⟨by grind, by grind⟩
theorem weP_rn {n w shut : Int32} {sh : Nat → Sh5} {ord : Nat → Nat} {dr : Nat → Int32} (h0 : 10 ≤ n) (h1 : n ≤ 30) {m : Nat} (hd : ∀ s, s < m → 0 ≤ dr s ∧ dr s < n) : ∀ i s, s < m → 0 ≤ (weP n w shut sh ord dr i).2 s ∧ (weP n w shut sh ord dr i).2 s < n
  | 0, s, hs => hd s hs
  | i + 1, s, hs => by
    rw [weP]
    show 0 ≤ (if s = ord i then _ else _) ∧ (if s = ord i then _ else _) < n
    split
    · exact seek_rg (tk := (weP n w shut sh ord dr i).1) (dir := dirP (goP (sh (ord i)) w)) h0 h1 n.toNatClampNeg (dAt n ((weP n w shut sh ord dr i).2 (ord i) + goP (sh (ord i)) w).toInt64) (dAt_rg h0 h1)
    · exact weP_rn h0 h1 hd i s hs
theorem pws_rx {n w shut : Int32} {sh : Nat → Sh5} {ord : Nat → Nat} {m : Nat} {dr : Nat → Int32} (h0 : 10 ≤ n) (h1 : n ≤ 30) (hd : ∀ s, s < m → 0 ≤ dr s ∧ dr s < n) : ∀ k s, s < m → 0 ≤ pws n w shut sh ord m dr k s ∧ pws n w shut sh ord m dr k s < n
  | 0 => hd
  | k + 1 => fun s hs => weP_rn h0 h1 (pws_rx h0 h1 hd k) m s hs
section ANB
variable {G : pG} {u v : pM} {Q : Option Value → pM → Prop}
/-! again -/
/-! wants -/
/-! beside -/
/-! round -/
/-! best -/
end ANB
