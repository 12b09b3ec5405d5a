section MEM
variable {G : pG} {M : pY} {kc ks pc : Nat} {l : pLo} {st : List Value} {u : pM} {Q : Option Value → pM → Prop}
theorem wp_if_eq {x : Int32} {off : Int} {tgt : Nat} (hd : decode M.2.1 pc = .ok (.ifCond .eq off, 3)) (ht : (pc : Int) + off = (tgt : Int)) (kt : x = 0 → Wp G M kc ks tgt l st u Q) (kf : ¬ (x = 0) → Wp G M kc ks (pc + 3) l st u Q) : Wp G M kc ks pc l (.int x :: st) u Q := fun p e R s m args below meth c C H ls locs cells slots Qf mc ms a1 a2 a3 a4 a5 a6 a7 a8 k => lv_if_eq C.1 C.2.1 hd ht (fun q => kt q p e R s m args below meth c C H ls locs cells slots Qf mc ms a1 a2 a3 a4 a5 a6 a7 a8 k) (fun q => kf q p e R s m args below meth c C H ls locs cells slots Qf mc ms a1 a2 a3 a4 a5 a6 a7 a8 k)
theorem wp_icmp_eq {x y : Int32} {off : Int} {tgt : Nat} (hd : decode M.2.1 pc = .ok (.if_icmp .eq off, 3)) (ht : (pc : Int) + off = (tgt : Int)) (kt : x = y → Wp G M kc ks tgt l st u Q) (kf : ¬ (x = y) → Wp G M kc ks (pc + 3) l st u Q) : Wp G M kc ks pc l (.int y :: .int x :: st) u Q := fun p e R s m args below meth c C H ls locs cells slots Qf mc ms a1 a2 a3 a4 a5 a6 a7 a8 k => lv_icmp_eq C.1 C.2.1 hd ht (fun q => kt q p e R s m args below meth c C H ls locs cells slots Qf mc ms a1 a2 a3 a4 a5 a6 a7 a8 k) (fun q => kf q p e R s m args below meth c C H ls locs cells slots Qf mc ms a1 a2 a3 a4 a5 a6 a7 a8 k)
theorem wp_if_ne {x : Int32} {off : Int} {tgt : Nat} (hd : decode M.2.1 pc = .ok (.ifCond .ne off, 3)) (ht : (pc : Int) + off = (tgt : Int)) (kt : ¬ x = 0 → Wp G M kc ks tgt l st u Q) (kf : x = 0 → Wp G M kc ks (pc + 3) l st u Q) : Wp G M kc ks pc l (.int x :: st) u Q := fun p e R s m args below meth c C H ls locs cells slots Qf mc ms a1 a2 a3 a4 a5 a6 a7 a8 k => lv_if_ne C.1 C.2.1 hd ht (fun q => kt q p e R s m args below meth c C H ls locs cells slots Qf mc ms a1 a2 a3 a4 a5 a6 a7 a8 k) (fun q => kf q p e R s m args below meth c C H ls locs cells slots Qf mc ms a1 a2 a3 a4 a5 a6 a7 a8 k)
theorem wp_icmp_ne {x y : Int32} {off : Int} {tgt : Nat} (hd : decode M.2.1 pc = .ok (.if_icmp .ne off, 3)) (ht : (pc : Int) + off = (tgt : Int)) (kt : ¬ x = y → Wp G M kc ks tgt l st u Q) (kf : x = y → Wp G M kc ks (pc + 3) l st u Q) : Wp G M kc ks pc l (.int y :: .int x :: st) u Q := fun p e R s m args below meth c C H ls locs cells slots Qf mc ms a1 a2 a3 a4 a5 a6 a7 a8 k => lv_icmp_ne C.1 C.2.1 hd ht (fun q => kt q p e R s m args below meth c C H ls locs cells slots Qf mc ms a1 a2 a3 a4 a5 a6 a7 a8 k) (fun q => kf q p e R s m args below meth c C H ls locs cells slots Qf mc ms a1 a2 a3 a4 a5 a6 a7 a8 k)
theorem wp_if_lt {x : Int32} {off : Int} {tgt : Nat} (hd : decode M.2.1 pc = .ok (.ifCond .lt off, 3)) (ht : (pc : Int) + off = (tgt : Int)) (kt : x < 0 → Wp G M kc ks tgt l st u Q) (kf : ¬ (x < 0) → Wp G M kc ks (pc + 3) l st u Q) : Wp G M kc ks pc l (.int x :: st) u Q := fun p e R s m args below meth c C H ls locs cells slots Qf mc ms a1 a2 a3 a4 a5 a6 a7 a8 k => lv_if_lt C.1 C.2.1 hd ht (fun q => kt q p e R s m args below meth c C H ls locs cells slots Qf mc ms a1 a2 a3 a4 a5 a6 a7 a8 k) (fun q => kf q p e R s m args below meth c C H ls locs cells slots Qf mc ms a1 a2 a3 a4 a5 a6 a7 a8 k)
theorem wp_icmp_lt {x y : Int32} {off : Int} {tgt : Nat} (hd : decode M.2.1 pc = .ok (.if_icmp .lt off, 3)) (ht : (pc : Int) + off = (tgt : Int)) (kt : x < y → Wp G M kc ks tgt l st u Q) (kf : ¬ (x < y) → Wp G M kc ks (pc + 3) l st u Q) : Wp G M kc ks pc l (.int y :: .int x :: st) u Q := fun p e R s m args below meth c C H ls locs cells slots Qf mc ms a1 a2 a3 a4 a5 a6 a7 a8 k => lv_icmp_lt C.1 C.2.1 hd ht (fun q => kt q p e R s m args below meth c C H ls locs cells slots Qf mc ms a1 a2 a3 a4 a5 a6 a7 a8 k) (fun q => kf q p e R s m args below meth c C H ls locs cells slots Qf mc ms a1 a2 a3 a4 a5 a6 a7 a8 k)
theorem wp_if_ge {x : Int32} {off : Int} {tgt : Nat} (hd : decode M.2.1 pc = .ok (.ifCond .ge off, 3)) (ht : (pc : Int) + off = (tgt : Int)) (kt : 0 ≤ x → Wp G M kc ks tgt l st u Q) (kf : ¬ (0 ≤ x) → Wp G M kc ks (pc + 3) l st u Q) : Wp G M kc ks pc l (.int x :: st) u Q := fun p e R s m args below meth c C H ls locs cells slots Qf mc ms a1 a2 a3 a4 a5 a6 a7 a8 k => lv_if_ge C.1 C.2.1 hd ht (fun q => kt q p e R s m args below meth c C H ls locs cells slots Qf mc ms a1 a2 a3 a4 a5 a6 a7 a8 k) (fun q => kf q p e R s m args below meth c C H ls locs cells slots Qf mc ms a1 a2 a3 a4 a5 a6 a7 a8 k)
theorem wp_icmp_ge {x y : Int32} {off : Int} {tgt : Nat} (hd : decode M.2.1 pc = .ok (.if_icmp .ge off, 3)) (ht : (pc : Int) + off = (tgt : Int)) (kt : y ≤ x → Wp G M kc ks tgt l st u Q) (kf : ¬ (y ≤ x) → Wp G M kc ks (pc + 3) l st u Q) : Wp G M kc ks pc l (.int y :: .int x :: st) u Q := fun p e R s m args below meth c C H ls locs cells slots Qf mc ms a1 a2 a3 a4 a5 a6 a7 a8 k => lv_icmp_ge C.1 C.2.1 hd ht (fun q => kt q p e R s m args below meth c C H ls locs cells slots Qf mc ms a1 a2 a3 a4 a5 a6 a7 a8 k) (fun q => kf q p e R s m args below meth c C H ls locs cells slots Qf mc ms a1 a2 a3 a4 a5 a6 a7 a8 k)
theorem wp_if_gt {x : Int32} {off : Int} {tgt : Nat} (hd : decode M.2.1 pc = .ok (.ifCond .gt off, 3)) (ht : (pc : Int) + off = (tgt : Int)) (kt : 0 < x → Wp G M kc ks tgt l st u Q) (kf : ¬ (0 < x) → Wp G M kc ks (pc + 3) l st u Q) : Wp G M kc ks pc l (.int x :: st) u Q := fun p e R s m args below meth c C H ls locs cells slots Qf mc ms a1 a2 a3 a4 a5 a6 a7 a8 k => lv_if_gt C.1 C.2.1 hd ht (fun q => kt q p e R s m args below meth c C H ls locs cells slots Qf mc ms a1 a2 a3 a4 a5 a6 a7 a8 k) (fun q => kf q p e R s m args below meth c C H ls locs cells slots Qf mc ms a1 a2 a3 a4 a5 a6 a7 a8 k)
theorem wp_icmp_gt {x y : Int32} {off : Int} {tgt : Nat} (hd : decode M.2.1 pc = .ok (.if_icmp .gt off, 3)) (ht : (pc : Int) + off = (tgt : Int)) (kt : y < x → Wp G M kc ks tgt l st u Q) (kf : ¬ (y < x) → Wp G M kc ks (pc + 3) l st u Q) : Wp G M kc ks pc l (.int y :: .int x :: st) u Q := fun p e R s m args below meth c C H ls locs cells slots Qf mc ms a1 a2 a3 a4 a5 a6 a7 a8 k => lv_icmp_gt C.1 C.2.1 hd ht (fun q => kt q p e R s m args below meth c C H ls locs cells slots Qf mc ms a1 a2 a3 a4 a5 a6 a7 a8 k) (fun q => kf q p e R s m args below meth c C H ls locs cells slots Qf mc ms a1 a2 a3 a4 a5 a6 a7 a8 k)
theorem wp_if_le {x : Int32} {off : Int} {tgt : Nat} (hd : decode M.2.1 pc = .ok (.ifCond .le off, 3)) (ht : (pc : Int) + off = (tgt : Int)) (kt : x ≤ 0 → Wp G M kc ks tgt l st u Q) (kf : ¬ (x ≤ 0) → Wp G M kc ks (pc + 3) l st u Q) : Wp G M kc ks pc l (.int x :: st) u Q := fun p e R s m args below meth c C H ls locs cells slots Qf mc ms a1 a2 a3 a4 a5 a6 a7 a8 k => lv_if_le C.1 C.2.1 hd ht (fun q => kt q p e R s m args below meth c C H ls locs cells slots Qf mc ms a1 a2 a3 a4 a5 a6 a7 a8 k) (fun q => kf q p e R s m args below meth c C H ls locs cells slots Qf mc ms a1 a2 a3 a4 a5 a6 a7 a8 k)
theorem wp_icmp_le {x y : Int32} {off : Int} {tgt : Nat} (hd : decode M.2.1 pc = .ok (.if_icmp .le off, 3)) (ht : (pc : Int) + off = (tgt : Int)) (kt : x ≤ y → Wp G M kc ks tgt l st u Q) (kf : ¬ (x ≤ y) → Wp G M kc ks (pc + 3) l st u Q) : Wp G M kc ks pc l (.int y :: .int x :: st) u Q := fun p e R s m args below meth c C H ls locs cells slots Qf mc ms a1 a2 a3 a4 a5 a6 a7 a8 k => lv_icmp_le C.1 C.2.1 hd ht (fun q => kt q p e R s m args below meth c C H ls locs cells slots Qf mc ms a1 a2 a3 a4 a5 a6 a7 a8 k) (fun q => kf q p e R s m args below meth c C H ls locs cells slots Qf mc ms a1 a2 a3 a4 a5 a6 a7 a8 k)
theorem wp_tableIn {x : Int32} {dflt lo hi : Int} {offs : Array Int} {len : Nat} {off : Int} {tgt : Nat} (j : Nat) (hd : decode M.2.1 pc = .ok (.tableswitch dflt lo hi offs, len)) (hx : x.toInt = lo + j) (hj : lo + j ≤ hi) (ho : offs[j]? = some off) (ht : (pc : Int) + off = (tgt : Int)) (h : Wp G M kc ks tgt l st u Q) : Wp G M kc ks pc l (.int x :: st) u Q :=
  wp_go (fun _ _ _ _ _ _ _ _ _ _ _ _ _ _ ls C hl k => lv_tableIn C.1 C.2.1 hd (by omega) (by omega) (by rw [hx, show (lo + (j : Int) - lo).toNat = j by omega]; exact ho) ht (k ls hl)) h
theorem wp_tableOut {x : Int32} {dflt lo hi : Int} {offs : Array Int} {len tgt : Nat} (hd : decode M.2.1 pc = .ok (.tableswitch dflt lo hi offs, len)) (hx : x.toInt < lo ∨ hi < x.toInt) (ht : (pc : Int) + dflt = (tgt : Int)) (h : Wp G M kc ks tgt l st u Q) : Wp G M kc ks pc l (.int x :: st) u Q :=
  wp_go (fun _ _ _ _ _ _ _ _ _ _ _ _ _ _ ls C hl k => lv_tableOut C.1 C.2.1 hd hx ht (k ls hl)) h
/-! the heap -/
theorem W_sz {p : Program} {l : Launch} {e : Env} {R : Room} {s : State} {m : MethodId} {args : Array Value} {below : List Frame} {meth : Method} {c : Code} {H : Heap} {locs : List Loc} {cells slots : Nat} {Q : State → Prop} {g : JFrame} (k : H.size ≤ s.heap.size + cells → W p l e R s m args below meth c H locs cells slots Q g) : W p l e R s m args below meth c H locs cells slots Q g := fun T hT X => k (by have h := X.same.2.2.1; rw [← hT]; exact h) T hT X
theorem va_S_sub {A : Nat → Prop} {H0 H : Heap} {locs : List Loc} (h : va_S A H0 H locs) : va_S A H H locs := ⟨Nat.le_refl _, fun _ _ _ => rfl, h.2.2⟩
theorem va_S_tr {A : Nat → Prop} {H0 H H1 : Heap} {locs locs1 : List Loc} (h : va_S A H0 H locs) (h1 : va_S A H H1 locs1) : va_S A H0 H1 locs1 := ⟨Nat.le_trans h.1 h1.1, fun q a b => (h1.2.1 q (Nat.lt_of_lt_of_le a h.1) b).trans (h.2.1 q a b), h1.2.2⟩
def ok (u : pM) (n ci : Nat) : Prop := 2 ≤ n ∧ n < mX u + 2 ∧ (mS u n).1 = ci
def oka (u : pM) (n kd : Nat) (i : Int32) : Prop := ok u n kd ∧ vp_in i (mS u n).2
theorem wl_get {n : Nat} (h1 : 2 ≤ n) (h2 : n < mX u + 2) : (wl G u)[n - 2]? = some (ad G n, ce G u n) := by
  obtain ⟨i, rfl⟩ : ∃ i, n = i + 2 := ⟨n - 2, by omega⟩
  have hi : i < mX u := by omega
  simp [wl, List.getElem?_map, List.getElem?_range hi, ad]
theorem ce_congr {u' : pM} {a : Nat} (hS : mS u' a = mS u a) (hI : ∀ k, mI u' a k = mI u a k) (hL : ∀ k, mL u' a k = mL u a k) (hR : ∀ k, mR u' a k = mR u a k) : ce G u' a = ce G u a := by
  have e1 : mI u' a = mI u a := funext hI
  have e2 : mL u' a = mL u a := funext hL
  have e3 : mR u' a = mR u a := funext hR
  simp only [ce, fvs, fv, hS, e1, e2, e3]
theorem wl_set {u' : pM} {n : Nat} (h1 : 2 ≤ n) (h2 : n < mX u + 2) (hX : mX u' = mX u) (ho : ∀ a, a ≠ n → ce G u' a = ce G u a) {e : va_E} (he : e = ce G u' n) : (wl G u).set (n - 2) (ad G n, e) = wl G u' := by
  obtain ⟨i, rfl⟩ : ∃ i, n = i + 2 := ⟨n - 2, by omega⟩
  have hi : i < mX u := by omega
  subst he
  apply List.ext_getElem?
  intro j
  simp only [wl, hX, Nat.add_sub_cancel]
  by_cases hj : j = i
  · subst hj
    rw [List.getElem?_set_self (by simpa using hi)]
    simp [List.getElem?_range hi, ad]
  · rw [List.getElem?_set_ne (Ne.symm hj)]
    by_cases hlt : j < mX u
    · simp only [List.getElem?_map, List.getElem?_range hlt, Option.map_some]
      rw [ho (j + 2) (by omega)]
    · simp [List.getElem?_map, List.getElem?_eq_none (l := List.range (mX u)) (by simpa using Nat.le_of_not_lt hlt)]
theorem ce_obj {n ci : Nat} (h : (mS u n).1 = ci) (hc : ci < 9) : ce G u n = .inr (ci, fvs G u n ci) := by simp [ce, h, hc]
theorem ce_int {n : Nat} (h : (mS u n).1 = 100) : ce G u n = .inl (gA G 0, (mS u n).2, .inl (mI u n)) := by simp [ce, h]
theorem ce_long {n : Nat} (h : (mS u n).1 = 101) : ce G u n = .inl (gA G 1, (mS u n).2, .inr (.inl (mL u n))) := by simp [ce, h]
theorem ce_ref {n kd : Nat} (h : (mS u n).1 = kd) (hk : 102 ≤ kd) : ce G u n = .inl (gA G (kd - 100), (mS u n).2, .inr (.inr (.inr (.inr (fun j => rf G (mR u n j)))))) := by
  have h1 : ¬ kd < 9 := by omega
  have h2 : ¬ kd = 100 := by omega
  have h3 : ¬ kd = 101 := by omega
  simp [ce, h, h1, h2, h3]
theorem fvs_get {n ci k : Nat} (hk : k < (ftys.getD ci []).length) : (fvs G u n ci)[k]? = some (fv G u n k (fty ci k)) := by
  simp only [fvs, List.getElem?_mapIdx, fty]
  rw [List.getD_eq_getElem?_getD (l := ftys.getD ci []), List.getElem?_eq_getElem hk]
  rfl
theorem fvs_len {n ci : Nat} : (fvs G u n ci).length = (ftys.getD ci []).length := by simp [fvs]
theorem fvs_set {u' : pM} {n ci k : Nat} (hk : k < (ftys.getD ci []).length) (ho : ∀ j t, j ≠ k → fv G u' n j t = fv G u n j t) {v : Value} (hv : v = fv G u' n k (fty ci k)) : (fvs G u n ci).set k v = fvs G u' n ci := by
  subst hv
  apply List.ext_getElem?
  intro j
  by_cases hj : j = k
  · subst hj
    rw [List.getElem?_set_self (by rw [fvs_len]; exact hk), fvs_get hk]
  · rw [List.getElem?_set_ne (Ne.symm hj)]
    by_cases hlt : j < (ftys.getD ci []).length
    · rw [fvs_get hlt, fvs_get hlt, ho _ _ hj]
    · rw [List.getElem?_eq_none (by rw [fvs_len]; omega), List.getElem?_eq_none (by rw [fvs_len]; omega)]
/-- a field's link: own class, entry, class's number, slot -/
def FL (own : String) (idx ci k : Nat) : Prop := ∃ (r : vw_C) (ty : Nat → FieldType), clOK ci r ty ∧ k < r.2.2 ∧ ci < 9 ∧ Cond.fieldLink own idx (r.2.1 k).1 (r.2.1 k).2.1 (r.2.1 k).2.2.1 ∈ lw_g
theorem wp_getX {idx ci k o t : Nat} {v : Value} (hf : FL M.1.cls idx ci k) (ht : fty ci k = t) (hd : decode M.2.1 pc = .ok (.getfield idx, 3)) (ho : ok u o ci) (hv : fv G u o k t = tv G v) (h : Wp G M kc ks (pc + 3) l (v :: st) u Q) : Wp G M kc ks pc l (.ref o :: st) u Q := by
  intro p e R s m args below meth c C H ls locs cells slots Qf mc ms a1 a2 a3 a4 a5 a6 a7 a8 k'
  obtain ⟨⟨C0, T0, N0⟩, ty, ⟨hc, hin, hty, hnm, hN, htc, hdecl⟩, hk, hci, hlink⟩ := hf
  obtain ⟨o1, o2, o3⟩ := ho
  obtain ⟨hP, hD, hK, hz⟩ := id a1
  have hw := wl_get (G := G) o1 o2
  rw [ce_obj o3 hci] at hw
  subst ht
  refine va_get (D := (gC G, gI G)) (ws := wl G u) C.1 C.2.1 C.2.2.2.2.2.1 hin C.2.2.2.2.1 hK hP (o - 2) hw hc k hk (C.2.2.2.2.2.1 _ hlink) (fun _ z => z) (fvs_get (by rw [← hN]; exact hk)) hd ?_
  rw [hv]
  exact h p e R s m args below meth c C H ls locs cells slots Qf mc ms a1 a2 a3 a4 a5 a6 a7 a8 k'
theorem wp_getI {idx ci k o : Nat} (hf : FL M.1.cls idx ci k) (ht : fty ci k = 0) (hd : decode M.2.1 pc = .ok (.getfield idx, 3)) (ho : ok u o ci) (h : Wp G M kc ks (pc + 3) l (.int (mI u o k) :: st) u Q) : Wp G M kc ks pc l (.ref o :: st) u Q := wp_getX hf ht hd ho (v := .int (mI u o k)) (by simp [fv, tv]) h
theorem wp_getL {idx ci k o : Nat} (hf : FL M.1.cls idx ci k) (ht : fty ci k = 1) (hd : decode M.2.1 pc = .ok (.getfield idx, 3)) (ho : ok u o ci) (h : Wp G M kc ks (pc + 3) l (.long (mL u o k) :: st) u Q) : Wp G M kc ks pc l (.ref o :: st) u Q := wp_getX hf ht hd ho (v := .long (mL u o k)) (by simp [fv, tv]) h
theorem wp_getR {idx ci k o : Nat} (hf : FL M.1.cls idx ci k) (ht : fty ci k = 2) (hd : decode M.2.1 pc = .ok (.getfield idx, 3)) (ho : ok u o ci) (hn : mR u o k ≠ 0) (h : Wp G M kc ks (pc + 3) l (.ref (mR u o k) :: st) u Q) : Wp G M kc ks pc l (.ref o :: st) u Q := wp_getX hf ht hd ho (v := .ref (mR u o k)) (by simp [fv, tv, rf, hn, va_rf]) h
/-- behind a store -/
theorem rl_st {s : State} {H H1 : Heap} {u' : pM} {n cells : Nat} {e : va_E} {locs1 : List Loc} (a1 : Rl G s H u) (h1 : 2 ≤ n) (h2 : n < mX u + 2) (hX : mX u' = mX u) (ho : ∀ a, a ≠ n → ce G u' a = ce G u a) (he : e = ce G u' n) (hP : va_P (gC G, gI G) cls9 ((wl G u).set (n - 2) (ad G n, e)) H1) (hD : va_D (Ag G) ((wl G u).set (n - 2) (ad G n, e))) (hS : va_S (Ag G) H H1 locs1) (hz : H.size = s.heap.size + cells) (hz1 : H1.size ≤ s.heap.size + cells) : Rl G s H1 u' ∧ H1.size = s.heap.size + cells := by
  rw [wl_set h1 h2 hX ho he] at hP hD
  have e1 : H1.size = H.size := by have := hS.1; omega
  exact ⟨⟨hP, hD, a1.2.2.1, by rw [e1, hX]; exact a1.2.2.2⟩, by rw [e1]; exact hz⟩
theorem ce_pI {n k a : Nat} {v : Int32} (h : a ≠ n) : ce G (pI u n k v) a = ce G u a := ce_congr rfl (fun j => by show (up2 (mI u) n k v) a j = _; simp [up2, h]) (fun _ => rfl) (fun _ => rfl)
theorem ce_pL {n k a : Nat} {v : Int64} (h : a ≠ n) : ce G (pL u n k v) a = ce G u a := ce_congr rfl (fun _ => rfl) (fun j => by show (up2 (mL u) n k v) a j = _; simp [up2, h]) (fun _ => rfl)
theorem ce_pR {n k a v : Nat} (h : a ≠ n) : ce G (pR u n k v) a = ce G u a := ce_congr rfl (fun _ => rfl) (fun _ => rfl) (fun j => by show (up2 (mR u) n k v) a j = _; simp [up2, h])
theorem wp_putX {idx ci k o t : Nat} {v : Value} {u' : pM} (hf : FL M.1.cls idx ci k) (ht : fty ci k = t) (hnf : ∀ r ty, clOK ci r ty → (r.2.1 k).2.2.2 = false) (hd : decode M.2.1 pc = .ok (.putfield idx, 3)) (ho : ok u o ci) (hty : ∀ ty, tyc ty = t → narrow ty (tv G v) = tv G v ∧ fits ty (tv G v) = true) (hX : mX u' = mX u) (hS' : mS u' o = mS u o) (hoth : ∀ a, a ≠ o → ce G u' a = ce G u a) (hof : ∀ j t, j ≠ k → fv G u' o j t = fv G u o j t) (hv : tv G v = fv G u' o k t) (h : Wp G M kc ks (pc + 3) l st u' Q) : Wp G M kc ks pc l (v :: .ref o :: st) u Q := by
  intro p e R s m args below meth c C H ls locs cells slots Qf mc ms a1 a2 a3 a4 a5 a6 a7 a8 k'
  obtain ⟨⟨C0, T0, N0⟩, ty, hcl, hk, hci, hlink⟩ := hf
  have hfin := hnf _ _ hcl
  obtain ⟨hc, hin, hty0, hnm, hN, htc, hdecl⟩ := hcl
  obtain ⟨o1, o2, o3⟩ := id ho
  obtain ⟨hP, hD, hK, hz⟩ := id a1
  have hw := wl_get (G := G) o1 o2
  rw [ce_obj o3 hci] at hw
  subst ht
  obtain ⟨hn1, hn2⟩ := hty (ty k) (htc k hk)
  refine va_put (D := (gC G, gI G)) (ws := wl G u) C.1 C.2.1 C.2.2.2.2.2.1 hin ty hty0 hnm C.2.2.2.2.1 hK hP hD (va_S_sub a2) (o - 2) hw hc k hk (C.2.2.2.2.2.1 _ hlink) (fun _ z => z) hfin (hty0 k hk) hn1 hn2 (by rw [fvs_len, ← hN]; exact hk) hd (fun H1 locs1 hP1 hD1 hS1 => W_sz fun hz1 => ?_)
  have he : (Sum.inr (ci, (fvs G u o ci).set k (tv G v)) : va_E) = ce G u' o := by
    rw [ce_obj (hS'.symm ▸ o3) hci, fvs_set (by rw [← hN]; exact hk) hof hv]
  obtain ⟨r1, r2⟩ := rl_st a1 o1 o2 hX hoth he hP1 hD1 hS1 a4 hz1
  exact h p e R s m args below meth c C H1 ls locs1 cells slots Qf mc ms r1 (va_S_tr a2 hS1) a3 r2 a5 a6 a7 a8 k'
theorem wp_putI {idx ci k o : Nat} {v : Int32} (hf : FL M.1.cls idx ci k) (ht : fty ci k = 0) (hnf : ∀ r ty, clOK ci r ty → (r.2.1 k).2.2.2 = false) (hd : decode M.2.1 pc = .ok (.putfield idx, 3)) (ho : ok u o ci) (h : Wp G M kc ks (pc + 3) l st (pI u o k v) Q) : Wp G M kc ks pc l (.int v :: .ref o :: st) u Q := by
  refine wp_putX (u' := pI u o k v) (v := .int v) hf ht hnf hd ho (fun ty hq => by cases ty <;> first | exact ⟨rfl, rfl⟩ | cases hq) rfl rfl (fun a ha => ce_pI ha) (fun j t hj => ?_) ?_ h
  · have e : mI (pI u o k v) o j = mI u o j := by show up2 (mI u) o k v o j = _; simp [up2, hj]
    simp only [fv, e]; rfl
  · show Value.int v = _
    have e : mI (pI u o k v) o k = v := by show up2 (mI u) o k v o k = _; simp [up2]
    simp [fv, e]
theorem wp_putL {idx ci k o : Nat} {v : Int64} (hf : FL M.1.cls idx ci k) (ht : fty ci k = 1) (hnf : ∀ r ty, clOK ci r ty → (r.2.1 k).2.2.2 = false) (hd : decode M.2.1 pc = .ok (.putfield idx, 3)) (ho : ok u o ci) (h : Wp G M kc ks (pc + 3) l st (pL u o k v) Q) : Wp G M kc ks pc l (.long v :: .ref o :: st) u Q := by
  refine wp_putX (u' := pL u o k v) (v := .long v) hf ht hnf hd ho (fun ty hq => by cases ty <;> first | exact ⟨rfl, rfl⟩ | cases hq) rfl rfl (fun a ha => ce_pL ha) (fun j t hj => ?_) ?_ h
  · have e : mL (pL u o k v) o j = mL u o j := by show up2 (mL u) o k v o j = _; simp [up2, hj]
    simp only [fv, e]; rfl
  · show Value.long v = _
    have e : mL (pL u o k v) o k = v := by show up2 (mL u) o k v o k = _; simp [up2]
    simp [fv, e]
theorem fv_pR {o k j t v : Nat} (hj : j ≠ k) : fv G (pR u o k v) o j t = fv G u o j t := by
  have e : mR (pR u o k v) o j = mR u o j := by show up2 (mR u) o k v o j = _; simp [up2, hj]
  simp only [fv, e]; rfl
theorem fv_pR' {o k v : Nat} (hn : v ≠ 0) : Value.ref (ad G v) = fv G (pR u o k v) o k 2 := by
  have e : mR (pR u o k v) o k = v := by show up2 (mR u) o k v o k = _; simp [up2]
  simp [fv, e, rf, hn, va_rf]
theorem wp_putR {idx ci k o v : Nat} (hf : FL M.1.cls idx ci k) (ht : fty ci k = 2) (hnf : ∀ r ty, clOK ci r ty → (r.2.1 k).2.2.2 = false) (hd : decode M.2.1 pc = .ok (.putfield idx, 3)) (ho : ok u o ci) (hn : v ≠ 0) (h : Wp G M kc ks (pc + 3) l st (pR u o k v) Q) : Wp G M kc ks pc l (.ref v :: .ref o :: st) u Q :=
  wp_putX (u' := pR u o k v) (v := .ref v) hf ht hnf hd ho (fun ty hq => by cases ty <;> first | exact ⟨rfl, rfl⟩ | cases hq) rfl rfl (fun a ha => ce_pR ha) (fun j t hj => fv_pR hj) (fv_pR' hn) h
/-- a final field in its constructor -/
theorem wp_putRF {idx ci k o v : Nat} (hf : FL M.1.cls idx ci k) (ht : fty ci k = 2) (hnf : ∀ r ty, clOK ci r ty → (r.2.1 k).2.2.2 = true ∧ r.1 = M.1.cls) (hin2 : M.1.name = "<init>") (hd : decode M.2.1 pc = .ok (.putfield idx, 3)) (ho : ok u o ci) (hn : v ≠ 0) (h : Wp G M kc ks (pc + 3) l st (pR u o k v) Q) : Wp G M kc ks pc l (.ref v :: .ref o :: st) u Q := by
  intro p e R s m args below meth c C H ls locs cells slots Qf mc ms a1 a2 a3 a4 a5 a6 a7 a8 k'
  obtain ⟨⟨C0, T0, N0⟩, ty, hcl, hk, hci, hlink⟩ := hf
  obtain ⟨hfin, hCo⟩ := hnf _ _ hcl
  obtain ⟨hc, hin, hty0, hnm, hN, htc, hdecl⟩ := hcl
  obtain ⟨o1, o2, o3⟩ := id ho
  obtain ⟨hP, hD, hK, hz⟩ := id a1
  have hw := wl_get (G := G) o1 o2
  rw [ce_obj o3 hci] at hw
  have ht2 : tyc (ty k) = 2 := (htc k hk).trans ht
  have hn1 : narrow (ty k) (.ref (ad G v)) = .ref (ad G v) := by cases hq : ty k <;> rw [hq] at ht2 <;> first | rfl | cases ht2
  have hn2 : fits (ty k) (.ref (ad G v)) = true := by cases hq : ty k <;> rw [hq] at ht2 <;> first | rfl | cases ht2
  refine va_putF (D := (gC G, gI G)) (ws := wl G u) C.1 C.2.1 C.2.2.2.2.2.1 hin ty hty0 hnm C.2.2.2.2.1 hK hP hD (va_S_sub a2) (o - 2) hw hc k hk (C.2.2.2.2.2.1 _ hlink) (fun _ z => z) hfin ((C.2.2.2.2.2.2.2.1 hin2).trans hin2) ((hdecl k hk).trans hCo) (hty0 k hk) hn1 hn2 (by rw [fvs_len, ← hN]; exact hk) hd (fun H1 locs1 hP1 hD1 hS1 => W_sz fun hz1 => ?_)
  have he : (Sum.inr (ci, (fvs G u o ci).set k (.ref (ad G v))) : va_E) = ce G (pR u o k v) o := by
    rw [ce_obj (u := pR u o k v) o3 hci, fvs_set (by rw [← hN]; exact hk) (fun j t hj => fv_pR hj) (by rw [ht]; exact fv_pR' hn)]
  obtain ⟨r1, r2⟩ := rl_st (u' := pR u o k v) a1 o1 o2 rfl (fun a ha => ce_pR ha) he hP1 hD1 hS1 a4 hz1
  exact h p e R s m args below meth c C H1 ls locs1 cells slots Qf mc ms r1 (va_S_tr a2 hS1) a3 r2 a5 a6 a7 a8 k'
end MEM
