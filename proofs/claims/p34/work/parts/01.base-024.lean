noncomputable def lw_g : List Cond := Classical.choose (⟨lw_tbl.filter goodWord, rfl⟩ : ∃ l : List Cond, l = lw_tbl.filter goodWord)
theorem lw_g_e : lw_g = lw_tbl.filter goodWord := Classical.choose_spec (⟨lw_tbl.filter goodWord, rfl⟩ : ∃ l : List Cond, l = lw_tbl.filter goodWord)
theorem lw_mem {w : Cond} : w ∈ lw_g ↔ w ∈ lw_tbl ∧ goodWord w = true := by rw [lw_g_e]; exact List.mem_filter
theorem lw_in {w : Cond} {i : Nat} (h : tables_1[i]? = some w) (hg : goodWord w = true) : w ∈ lw_g := lw_mem.mpr ⟨List.mem_append_right _ (List.mem_of_getElem? h), hg⟩
