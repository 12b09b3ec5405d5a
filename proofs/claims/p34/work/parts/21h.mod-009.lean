section MOD
variable {G : pG} {u w : pM} {L : List Nat}
theorem e_isSlp {x1 : Int32} (hM : InvM u) (h1 : 0 ≤ x1 ∧ x1 < mI u 76 11) : Ws G m_isSleeper 0 [(0, .ref 76), (1, .int x1)] [] u (RI fun _ u' => u = u') := kI (e_isSleeper hM h1) (fun _ _ h => h.1)
end MOD
