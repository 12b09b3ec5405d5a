theorem fm_args {args : Array Value} {s : State} {a b : Int64} (h0 : (Cond.count 2).before args s = true) (h1 : (Cond.eq (.arg 0) (.long a)).before args s = true) (h2 : (Cond.eq (.arg 1) (.long b)).before args s = true) : args = #[.long a, .long b] := by
  obtain ⟨l⟩ := args
  simp only [Cond.before, Cond.holds, Cond.value, Term.eval, List.size_toArray, beq_iff_eq, Option.some.injEq] at h0 h1 h2
  match l, h0 with
  | [x, y], _ =>
    cases x <;> simp at h1
    cases y <;> simp at h2
    subst h1; subst h2
    rfl
