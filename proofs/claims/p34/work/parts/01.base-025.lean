theorem lw_ins (ws : List Cond) (ps : List Nat) (hp : ws = ps.filterMap (fun i => tables_1[i]?)) (hg : ws.all goodWord = true) : ∀ w ∈ ws, w ∈ lw_g := by
  intro w hw
  have h1 := List.all_eq_true.mp hg w hw
  rw [hp] at hw
  obtain ⟨i, -, hi⟩ := List.mem_filterMap.mp hw
  exact lw_in hi h1
theorem lw_insel {q : MethodName × Nat} {i : Nat} (h : lw_privs[i]? = some q) (hg : goodWord (Cond.selects q.1.cls q.1 q.1) = true) : Cond.selects q.1.cls q.1 q.1 ∈ lw_g := lw_mem.mpr ⟨List.mem_append_left _ (List.mem_map.mpr ⟨q, List.mem_of_getElem? h, rfl⟩), hg⟩
def lw_ck (x : List (Nat × Cond)) : Bool := tb_wk x tables_1 && x.all (fun q => goodWord q.2)
theorem lw_bt {l : List (Nat × Cond)} (h : lw_ck l = true) {j i : Nat} {w : Cond} (e : l[j]? = some (i, w)) : w ∈ lw_g := by
  unfold lw_ck at h
  rw [Bool.and_eq_true] at h
  have hm := List.mem_of_getElem? e
  have r := List.all_eq_true.mp h.2 _ hm
  exact lw_mem.mpr ⟨List.mem_append_right _ (tb_wk_ok l tables_1 h.1 (fun _ q => q) _ hm), r⟩
