/-! ===== errands: parts of parts ===== -/
theorem sub_set {p k set : Int32} (h1 : p &&& k = p) (h2 : k &&& (set ^^^ (-1)) = 0) : p &&& set = p := by
  apply Int32.toBitVec_inj.mp
  apply BitVec.eq_of_getLsbD_eq
  intro i hi
  have a := congrArg (fun x => (Int32.toBitVec x).getLsbD i) h1
  have b := congrArg (fun x => (Int32.toBitVec x).getLsbD i) h2
  have m1 : ∀ i, i < 32 → (Int32.toBitVec (-1)).getLsbD i = true := by decide +kernel
  have z : (Int32.toBitVec 0).getLsbD i = false := BitVec.getLsbD_zero
  simp only [Int32.toBitVec_and, Int32.toBitVec_xor, BitVec.getLsbD_and, BitVec.getLsbD_xor, m1 i hi, z] at a b ⊢
  revert a b
  cases p.toBitVec.getLsbD i <;> cases k.toBitVec.getLsbD i <;> cases set.toBitVec.getLsbD i <;> simp
theorem fo_mono2 {c d : Int32 → Int32} {l : List Int32} {a : Int32} (h : ∀ p ∈ l, c p ≤ d p ∨ a ≤ d p) : fo c l a ≤ fo d l a := by
  have C := fo_le c l a
  rcases (fo_le d l a).2.2 with r | ⟨p, hp, r⟩
  · rw [r]; exact C.1
  · rw [r]
    rcases h p hp with q | q
    · exact Int32.le_trans (C.2.1 p hp) q
    · exact Int32.le_trans C.1 q
