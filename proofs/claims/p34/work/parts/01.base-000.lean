/-- a private method of a class that the tables say can be made, by its rows of tables_1 -/
def lw_okq (q : MethodName × Nat) : Prop := (q.1.cls ≠ "java/lang/invoke/MethodHandle" ∧ q.1.cls ≠ "java/lang/invoke/VarHandle") ∧ Cond.instantiable q.1.cls q.2 ∈ tables_1 ∧ Cond.privateMethod q.1 ∈ tables_1 ∧ Cond.instanceMethod q.1 ∈ tables_1
def tb_wk : List (Nat × Cond) → List Cond → Bool
  | [], _ => true
  | (g, c) :: r, l => match l.drop g with
    | [] => false
    | x :: t => decide (x = c) && tb_wk r t
theorem tb_wk_ok : ∀ (rs : List (Nat × Cond)) (l : List Cond), tb_wk rs l = true → (∀ x ∈ l, x ∈ tables_1) → ∀ q ∈ rs, q.2 ∈ tables_1
  | [], _, _, _, q, hq => absurd hq (by simp)
  | (g, c) :: r, l, h, hl, q, hq => by
    unfold tb_wk at h
    cases e : l.drop g with
    | nil => rw [e] at h; exact absurd (show false = true from h) (by decide)
    | cons x t =>
      rw [e] at h
      have h' : (decide (x = c) && tb_wk r t) = true := h
      rw [Bool.and_eq_true] at h'
      have hs : ∀ y ∈ x :: t, y ∈ tables_1 := fun y hy => hl y (List.mem_of_mem_drop (by rw [e]; exact hy))
      rcases List.mem_cons.mp hq with e2 | hq
      · rw [e2]
        show c ∈ tables_1
        rw [← of_decide_eq_true h'.1]
        exact hs x List.mem_cons_self
      · exact tb_wk_ok r t h'.2 (fun y hy => hs y (List.mem_cons_of_mem _ hy)) q hq
theorem tb_bt {l : List (Nat × Cond)} (h : tb_wk l tables_1 = true) {j i : Nat} {w : Cond} (e : l[j]? = some (i, w)) : w ∈ tables_1 := tb_wk_ok l tables_1 h (fun _ q => q) _ (List.mem_of_getElem? e)
