section STR
variable {G : pG} {M : pY} {pc : Nat} {l : pLo} {st : List Value} {u : pM} {Q : Option Value → pM → Prop}
theorem ws_getF {idx ci k o c a : Nat} (hf : FL M.1.cls idx ci k) (ht : fty ci k = 2) (hd : decode M.2.1 pc = .ok (.getfield idx, 3)) (ho : okS o ci) (hR : ∀ n, okS n ci → R0 n k = n + c) (ha : o + c = a) (h : Ws G M (pc + 3) l (.ref a :: st) u Q) : Ws G M pc l (.ref o :: st) u Q := fun hs => by
  subst ha
  have h1 : R0 o k = o + c := hR o ho
  have h2 : mR u o k = o + c := by rw [hs.2.2.1 o k (by rw [h1]; have := ho.1; omega), h1]
  refine wp_getR hf ht hd (ok_of hs ho) (by rw [h2]; have := ho.1; omega) ?_
  rw [h2]
  exact h hs
theorem ws_getP {idx k : Nat} (hk : k = 10 ∨ k = 11) (hf : FL M.1.cls idx 7 k) (hd : decode M.2.1 pc = .ok (.getfield idx, 3)) (h : pl (mR u 2 k) → Ws G M (pc + 3) l (.ref (mR u 2 k) :: st) u Q) : Ws G M pc l (.ref 2 :: st) u Q := fun hs => by
  have hp : pl (mR u 2 k) := by rcases hk with rfl | rfl; exact hs.2.2.2.1; exact hs.2.2.2.2.1
  refine wp_getR hf (by rcases hk with rfl | rfl <;> rfl) hd (ok_of hs (by decide)) (by rcases hp with e | e <;> rw [e] <;> decide) (h hp hs)
theorem ws_getT {idx o : Nat} (hf : FL M.1.cls idx 3 0) (hd : decode M.2.1 pc = .ok (.getfield idx, 3)) (ho : okS o 3) (h : okS (mR u o 0) 6 → Ws G M (pc + 3) l (.ref (mR u o 0) :: st) u Q) : Ws G M pc l (.ref o :: st) u Q := fun hs => by
  have ho2 : o = 26 ∨ o = 40 := (show ∀ n, n < 95 → (2 ≤ n → (S0 n).1 = 3 → n = 26 ∨ n = 40) from by decide +kernel) o ho.2.1 ho.1 ho.2.2
  have hp : okS (mR u o 0) 6 := by rcases ho2 with rfl | rfl; exact hs.2.2.2.2.2.1; exact hs.2.2.2.2.2.2
  exact wp_getR hf rfl hd (ok_of hs ho) (by have := hp.1; omega) (h hp hs)
theorem str_pR {n k v : Nat} (hs : Str u) (h0 : R0 n k = 0) (h1 : n = 2 → pl v) (h2 : n ≠ 2 → okS v 6) : Str (pR u n k v) := by
  have key : ∀ a b, mR (pR u n k v) a b = if a = n ∧ b = k then v else mR u a b := fun a b => rfl
  refine ⟨hs.1, hs.2.1, fun a b hab => ?_, ?_, ?_, ?_, ?_⟩
  · rw [key, if_neg (fun q => hab (by rw [q.1, q.2]; exact h0))]
    exact hs.2.2.1 a b hab
  · rw [key]; split
    · rename_i q; exact h1 q.1.symm
    · exact hs.2.2.2.1
  · rw [key]; split
    · rename_i q; exact h1 q.1.symm
    · exact hs.2.2.2.2.1
  · rw [key]; split
    · rename_i q; exact h2 (by omega)
    · exact hs.2.2.2.2.2.1
  · rw [key]; split
    · rename_i q; exact h2 (by omega)
    · exact hs.2.2.2.2.2.2
theorem ws_putP {idx k v : Nat} (hk : k = 10 ∨ k = 11) (hf : FL M.1.cls idx 7 k) (hnf : ∀ r ty, clOK 7 r ty → (r.2.1 k).2.2.2 = false) (hd : decode M.2.1 pc = .ok (.putfield idx, 3)) (hv : pl v) (h : Ws G M (pc + 3) l st (pR u 2 k v) Q) : Ws G M pc l (.ref v :: .ref 2 :: st) u Q := fun hs =>
  wp_putR hf (by rcases hk with rfl | rfl <;> rfl) hnf hd (ok_of hs (by decide)) (by rcases hv with e | e <;> rw [e] <;> decide) (h (str_pR hs (by rcases hk with rfl | rfl <;> decide) (fun _ => hv) (fun q => absurd rfl q)))
theorem ws_putT {idx o v : Nat} (hf : FL M.1.cls idx 3 0) (hnf : ∀ r ty, clOK 3 r ty → (r.2.1 0).2.2.2 = false) (hd : decode M.2.1 pc = .ok (.putfield idx, 3)) (ho : okS o 3) (hv : okS v 6) (h : Ws G M (pc + 3) l st (pR u o 0 v) Q) : Ws G M pc l (.ref v :: .ref o :: st) u Q := fun hs => by
  have ho2 : o = 26 ∨ o = 40 := (show ∀ n, n < 95 → (2 ≤ n → (S0 n).1 = 3 → n = 26 ∨ n = 40) from by decide +kernel) o ho.2.1 ho.1 ho.2.2
  exact wp_putR hf rfl hnf hd (ok_of hs ho) (by have := hv.1; omega) (h (str_pR hs (by rcases ho2 with rfl | rfl <;> decide) (fun q => by omega) (fun _ => hv)))
theorem ws_aald {n kd L : Nat} {i : Int32} (hd : decode M.2.1 pc = .ok (.aaload, 1)) (ha : okS n kd) (hk : 102 ≤ kd ∧ kd ≤ 104) (hL : (S0 n).2 = L) (hi : vp_in i L) (h : Ws G M (pc + 1) l (.ref (R0 n i.toNatClampNeg) :: st) u Q) : Ws G M pc l (.int i :: .ref n :: st) u Q := fun hs => by
  have h1 := (ra_ok ha hk.1 (by rw [hL]; exact ix_lt hi)).1
  have h2 := hs.2.2.1 n _ h1
  refine wp_aald hd (oka_of hs ha hL hi) hk (by rw [h2]; exact h1) ?_
  rw [h2]; exact h hs
theorem ws_iret {v : Int32} (hd : decode M.2.1 pc = .ok (.ireturn, 1)) (ht : ∃ ty, M.2.2.2.1 = some ty ∧ narrow ty (.int v) = .int v) (hQ : Q (some (.int v)) u) : Ws G M pc l [.int v] u Q := fun hs => wp_iret hd ht ⟨hs, hQ⟩
end STR
