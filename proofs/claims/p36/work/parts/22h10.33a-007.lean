theorem OrdP.inj {sh : Nat → Sh5} {m : Nat} {ord : Nat → Nat} (h : OrdP sh m ord) {i j : Nat} (hi : i < m) (hj : j < m) (e : ord i = ord j) : i = j := by
  rcases Nat.lt_trichotomy i j with c | c | c
  · exact absurd (e ▸ h.2.1 i j c hj) (fun z => ahP.ir z)
  · exact c
  · exact absurd (e ▸ h.2.1 j i c hi) (fun z => ahP.ir z)
