def lw_sk (x : (MethodName × Nat) × Nat) : Bool := decide (lw_privs[x.2]? = some x.1) && goodWord (Cond.selects x.1.1.cls x.1.1 x.1.1)
theorem lw_bs {l : List ((MethodName × Nat) × Nat)} (h : l.all lw_sk = true) {j i : Nat} {q : MethodName × Nat} (e : l[j]? = some (q, i)) : Cond.selects q.1.cls q.1 q.1 ∈ lw_g := by
  have r := List.all_eq_true.mp h _ (List.mem_of_getElem? e)
  unfold lw_sk at r
  rw [Bool.and_eq_true] at r
  exact lw_insel (of_decide_eq_true r.1) r.2
def TX0 : u_T := fun k => match k with
  | 0 => ("DoorRounds$Diary", "size", "I", false)
  | 1 => ("DoorRounds$Diary", "weeks", "[I", true)
  | 2 => ("DoorRounds$Diary", "shops", "[I", true)
  | _ => ("DoorRounds$Diary", "doors", "[I", true)
def tyX0 : Nat → FieldType := fun k => match k with
  | 0 => .int
  | 1 => .array .int
  | 2 => .array .int
  | _ => .array .int
