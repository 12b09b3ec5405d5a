/-! ===== the pure picture: cells by names (0 the script, 1 LETTERS, 2 and on those that are made, in order) ===== -/
abbrev pM : Type := (Nat → Nat → Int32) × (Nat → Nat → Int64) × (Nat → Nat → Nat) × (Nat → Nat × Nat) × Nat
def mI (u : pM) : Nat → Nat → Int32 := u.1
def mL (u : pM) : Nat → Nat → Int64 := u.2.1
def mR (u : pM) : Nat → Nat → Nat := u.2.2.1
def mS (u : pM) : Nat → Nat × Nat := u.2.2.2.1
def mX (u : pM) : Nat := u.2.2.2.2
def up2 {α : Type} (f : Nat → Nat → α) (n k : Nat) (v : α) : Nat → Nat → α := fun a b => if a = n ∧ b = k then v else f a b
def pI (u : pM) (n k : Nat) (v : Int32) : pM := (up2 (mI u) n k v, mL u, mR u, mS u, mX u)
def pL (u : pM) (n k : Nat) (v : Int64) : pM := (mI u, up2 (mL u) n k v, mR u, mS u, mX u)
def pR (u : pM) (n k : Nat) (v : Nat) : pM := (mI u, mL u, up2 (mR u) n k v, mS u, mX u)
/-- a new cell of the kind sh, all nought -/
def pN (u : pM) (sh : Nat × Nat) : pM := (fun a b => if a = mX u + 2 then 0 else mI u a b, fun a b => if a = mX u + 2 then 0 else mL u a b, fun a b => if a = mX u + 2 then 0 else mR u a b, fun a => if a = mX u + 2 then sh else mS u a, mX u + 1)
/-- launch, class numbers, slots, first address of ours, script, LETTERS, script's length and contents, array classes -/
abbrev pG : Type := Launch × (Nat → ClassId) × (Nat → Nat → Nat) × Nat × Nat × Nat × Nat × (Nat → Int32) × (Nat → ClassId)
abbrev gl (G : pG) : Launch := G.1
abbrev gC (G : pG) : Nat → ClassId := G.2.1
abbrev gI (G : pG) : Nat → Nat → Nat := G.2.2.1
abbrev gB (G : pG) : Nat := G.2.2.2.1
abbrev gb (G : pG) : Nat := G.2.2.2.2.1
abbrev gt (G : pG) : Nat := G.2.2.2.2.2.1
abbrev gn (G : pG) : Nat := G.2.2.2.2.2.2.1
abbrev gx (G : pG) : Nat → Int32 := G.2.2.2.2.2.2.2.1
abbrev gA (G : pG) : Nat → ClassId := G.2.2.2.2.2.2.2.2
def ad (G : pG) (n : Nat) : Nat := match n with
  | 0 => gb G
  | 1 => gt G
  | i + 2 => gB G + i
def tv (G : pG) (v : Value) : Value := match v with
  | .ref n => .ref (ad G n)
  | w => w
def rf (G : pG) (r : Nat) : Option Nat := if r = 0 then none else some (ad G r)
def fv (G : pG) (u : pM) (n k t : Nat) : Value := if t = 0 then .int (mI u n k) else if t = 1 then .long (mL u n k) else va_rf (rf G (mR u n k))
def fvs (G : pG) (u : pM) (n ci : Nat) : List Value := (ftys.getD ci []).mapIdx (fun k t => fv G u n k t)
def ce (G : pG) (u : pM) (n : Nat) : va_E := if (mS u n).1 < 9 then .inr ((mS u n).1, fvs G u n (mS u n).1) else if (mS u n).1 = 100 then .inl (gA G 0, (mS u n).2, .inl (mI u n)) else if (mS u n).1 = 101 then .inl (gA G 1, (mS u n).2, .inr (.inl (mL u n))) else .inl (gA G ((mS u n).1 - 100), (mS u n).2, .inr (.inr (.inr (.inr (fun j => rf G (mR u n j))))))
def wl (G : pG) (u : pM) : va_W := (List.range (mX u)).map (fun i => (gB G + i, ce G u (i + 2)))
def gty (G : pG) : List (ClassId × FieldType) := [(gA G 0, .int), (gA G 1, .long), (gA G 2, .object "DoorRounds$Strip"), (gA G 3, .object "DoorRounds$Standing"), (gA G 4, .object "DoorRounds$Shop")]
abbrev Ag (G : pG) : Nat → Prop := fun q => gB G ≤ q
def lets : Nat → Int32 := fun j => match j with
  | 0 => 115
  | 1 => 102
  | 2 => 121
  | 3 => 110
  | 4 => 111
  | _ => 112
def Rl (G : pG) (s : State) (H : Heap) (u : pM) : Prop := va_P (gC G, gI G) cls9 (wl G u) H ∧ va_D (Ag G) (wl G u) ∧ va_K (gC G, gI G) cls9 (gty G) s ∧ H.size = gB G + mX u
/-- words that move by rules of their own -/
def nbM : List (String × Nat × MethodName × String) := nbM0
def Stt (G : pG) (s : State) : Prop := va_X (gb G) (gn G) (gx G) s s.heap ∧ gb G < gB G ∧ va_T .int (gt G) 6 (fun j => .int (lets j)) (Ag G) s s.heap ∧ gt G < gB G ∧ va_Z "DoorRounds" "LETTERS" "[I" (.ref (gt G)) (Ag G) s s.heap ∧ gB G ≤ s.heap.size ∧ (∀ q ∈ nbM, va_Nw (.methodLinkNest q.1 q.2.1 q.2.2.1 q.2.2.2) s) ∧ va_Nw (.fieldLinkNest "DoorRounds$Reader" 42 "DoorRounds" "LETTERS" "[I" "DoorRounds") s ∧ va_AO "DoorRounds$Strip" s ∧ va_AO "DoorRounds$Standing" s ∧ va_AO "DoorRounds$Shop" s
/-- a method: name, bytes, locals, answer, frames and locals' words that its calls need -/
abbrev pY : Type := MethodName × ByteArray × Nat × Option FieldType × Nat × Nat
def Cx (G : pG) (M : pY) (p : Program) (R : Room) (s : State) (m : MethodId) (args : Array Value) (meth : Method) (c : Code) : Prop := p.tables.exec = Jvm.exec ∧ c.code = M.2.1 ∧ meth.sig.returnType = M.2.2.2.1 ∧ c.maxLocals = M.2.2.1 ∧ s.vm.findClass M.1.cls = some m.cls ∧ (∀ w ∈ lw_g, w.before args s = true) ∧ meth.locks = false ∧ (M.1.name = "<init>" → meth.name = M.1.name) ∧ M.2.2.2.2.1 ≤ R.frames ∧ M.2.2.2.2.2 ≤ R.locals ∧ Stt G s
abbrev pLo : Type := List (Nat × Value)
def lm (G : pG) (l : pLo) : List (Nat × Value) := l.map (fun q => (q.1, tv G q.2))
/-- a return at pc that gives r -/
def isRet (M : pY) (pc : Nat) (r : Option Value) : Prop := match r with
  | none => decode M.2.1 pc = .ok (.return_, 1) ∧ M.2.2.2.1 = none
  | some (.int v) => decode M.2.1 pc = .ok (.ireturn, 1) ∧ ∃ ty, M.2.2.2.1 = some ty ∧ narrow ty (.int v) = .int v
  | some (.long _) => decode M.2.1 pc = .ok (.lreturn, 1) ∧ M.2.2.2.1 = some .long
  | some (.ref _) => decode M.2.1 pc = .ok (.areturn, 1) ∧ ∃ rt, M.2.2.2.1 = some rt ∧ ((∃ n, rt = .object n) ∨ ∃ t, rt = .array t)
  | _ => False
/-- from here, with the picture u, the method comes to its end, and Q of its answer and the picture then; kc cells of ks slots at most are made -/
def Wp (G : pG) (M : pY) (kc ks pc : Nat) (l : pLo) (st : List Value) (u : pM) (Q : Option Value → pM → Prop) : Prop :=
  ∀ (p : Program) (e : Env) (R : Room) (s : State) (m : MethodId) (args : Array Value) (below : List Frame) (meth : Method) (c : Code), Cx G M p R s m args meth c →
  ∀ (H : Heap) (ls : Array Slot) (locs : List Loc) (cells slots : Nat) (Qf : State → Prop) (mc ms : Nat), Rl G s H u → va_S (Ag G) s.heap H locs → lv_has ls M.2.2.1 (lm G l) → H.size = s.heap.size + cells → cells + kc = mc → slots + ks ≤ ms → mc ≤ R.cells → ms ≤ R.slots →
  (∀ (r : Option Value) (u' : pM) (H' : Heap) (ls' : Array Slot) (locs' : List Loc) (pc' : Nat), Q r u' → Rl G s H' u' → va_S (Ag G) s.heap H' locs' → H'.size = s.heap.size + mc → isRet M pc' r → W p (gl G) e R s m args below meth c H' locs' mc ms Qf (F0 m pc' ls' (r.toList.map (tv G)))) →
  W p (gl G) e R s m args below meth c H locs cells slots Qf (F0 m pc ls (st.map (tv G)))
abbrev RI (K : Int32 → pM → Prop) : Option Value → pM → Prop := fun r u => ∃ x : Int32, r = some (.int x) ∧ K x u
abbrev RJ (K : Int64 → pM → Prop) : Option Value → pM → Prop := fun r u => ∃ x : Int64, r = some (.long x) ∧ K x u
abbrev RR (K : Nat → pM → Prop) : Option Value → pM → Prop := fun r u => ∃ x : Nat, r = some (.ref x) ∧ K x u
abbrev RV (K : pM → Prop) : Option Value → pM → Prop := fun r u => r = none ∧ K u
/-! the rows of it -/
section CORE
variable {G : pG} {M : pY} {kc ks pc : Nat} {l : pLo} {st : List Value} {u : pM} {Q : Option Value → pM → Prop}
theorem Wp.mono {Q' : Option Value → pM → Prop} (h : Wp G M kc ks pc l st u Q') (hQ : ∀ r u, Q' r u → Q r u) : Wp G M kc ks pc l st u Q := fun p e R s m args below meth c C H ls locs cells slots Qf mc ms a1 a2 a3 a4 a5 a6 a7 a8 k => h p e R s m args below meth c C H ls locs cells slots Qf mc ms a1 a2 a3 a4 a5 a6 a7 a8 (fun r u' H' ls' locs' pc' q => k r u' H' ls' locs' pc' (hQ r u' q))
theorem Wp.more {ks' : Nat} (h : Wp G M kc ks pc l st u Q) (h2 : ks ≤ ks') : Wp G M kc ks' pc l st u Q := fun p e R s m args below meth c C H ls locs cells slots Qf mc ms a1 a2 a3 a4 a5 a6 a7 a8 k => h p e R s m args below meth c C H ls locs cells slots Qf mc ms a1 a2 a3 a4 a5 (by omega) a7 a8 k
theorem lm_get {l : pLo} {k i : Nat} {v : Value} (hk : l[k]? = some (i, v)) : (lm G l)[k]? = some (i, tv G v) := by simp [lm, hk]
theorem tv_cat (v : Value) : (tv G v).category = v.category := by cases v <;> rfl
theorem lm_filter (l : pLo) (f : Nat → Nat → Bool) : (lm G l).filter (fun q => f q.1 q.2.category) = lm G (l.filter (fun q => f q.1 q.2.category)) := by
  induction l with
  | nil => rfl
  | cons a t ih =>
    simp only [lm, List.map_cons, List.filter_cons, tv_cat] at ih ⊢
    by_cases h : f a.1 a.2.category = true
    · rw [if_pos h, if_pos h, List.map_cons, ← ih]
    · rw [if_neg h, if_neg h, ← ih]
def ls1 (l : pLo) (i : Nat) (v : Value) : pLo := (i, v) :: l.filter (fun q => !(q.1 == i) && !(q.1 + 1 == i && q.2.category == 2))
def ls2 (l : pLo) (i : Nat) (v : Value) : pLo := (i, v) :: l.filter (fun q => !(q.1 == i) && (!(q.1 == i + 1) && !(q.1 + 1 == i && q.2.category == 2)))
theorem lm_ls1 (l : pLo) (i : Nat) (v : Value) : (i, tv G v) :: (lm G l).filter (fun q => !(q.1 == i) && !(q.1 + 1 == i && q.2.category == 2)) = lm G (ls1 l i v) := by
  rw [lm_filter (G := G) l (fun a b => !(a == i) && !(a + 1 == i && b == 2))]
  rfl
theorem lm_ls2 (l : pLo) (i : Nat) (v : Value) : (i, tv G v) :: (lm G l).filter (fun q => !(q.1 == i) && (!(q.1 == i + 1) && !(q.1 + 1 == i && q.2.category == 2))) = lm G (ls2 l i v) := by
  rw [lm_filter (G := G) l (fun a b => !(a == i) && (!(a == i + 1) && !(a + 1 == i && b == 2)))]
  rfl
/-- fewer locals, or in another order -/
theorem wp_loc {l' : pLo} (ks' : List Nat) (hl : lv_pick l ks' = l') (h : Wp G M kc ks pc l' st u Q) : Wp G M kc ks pc l st u Q := by
  intro p e R s m args below meth c C H ls locs cells slots Qf mc ms a1 a2 a3 a4 a5 a6 a7 a8 k
  refine h p e R s m args below meth c C H ls locs cells slots Qf mc ms a1 a2 (lv_sub a3 ks' ?_) a4 a5 a6 a7 a8 k
  subst hl
  simp only [lv_pick, lm, List.getElem?_map, List.map_filterMap]
/-- one step of the machine that leaves the heap -/
theorem wp_go {pc' : Nat} {l' : pLo} {st' : List Value} (hW : ∀ (p : Program) (e : Env) (R : Room) (s : State) (m : MethodId) (args : Array Value) (below : List Frame) (meth : Method) (c : Code) (H : Heap) (locs : List Loc) (cells slots : Nat) (Qf : State → Prop) (ls : Array Slot), Cx G M p R s m args meth c → lv_has ls M.2.2.1 (lm G l) → (∀ ls', lv_has ls' M.2.2.1 (lm G l') → W p (gl G) e R s m args below meth c H locs cells slots Qf (F0 m pc' ls' (st'.map (tv G)))) → W p (gl G) e R s m args below meth c H locs cells slots Qf (F0 m pc ls (st.map (tv G)))) (h : Wp G M kc ks pc' l' st' u Q) : Wp G M kc ks pc l st u Q := by
  intro p e R s m args below meth c C H ls locs cells slots Qf mc ms a1 a2 a3 a4 a5 a6 a7 a8 k
  exact hW p e R s m args below meth c H locs cells slots Qf ls C a3 (fun ls' hl' => h p e R s m args below meth c C H ls' locs cells slots Qf mc ms a1 a2 hl' a4 a5 a6 a7 a8 k)
theorem wp_iconst {n : Int} {v : Int32} (hd : decode M.2.1 pc = .ok (.iconst n, 1)) (hv : Int32.ofInt n = v) (h : Wp G M kc ks (pc + 1) l (.int v :: st) u Q) : Wp G M kc ks pc l st u Q := wp_go (fun _ _ _ _ _ _ _ _ _ _ _ _ _ _ ls C hl k => lv_iconst C.1 C.2.1 hd hv (k ls hl)) h
theorem wp_bipush {n : Int} {v : Int32} (hd : decode M.2.1 pc = .ok (.bipush n, 2)) (hv : (Int8.ofInt n).toInt32 = v) (h : Wp G M kc ks (pc + 2) l (.int v :: st) u Q) : Wp G M kc ks pc l st u Q := wp_go (fun _ _ _ _ _ _ _ _ _ _ _ _ _ _ ls C hl k => lv_bipush C.1 C.2.1 hd hv (k ls hl)) h
theorem wp_sipush {n : Int} {v : Int32} (hd : decode M.2.1 pc = .ok (.sipush n, 3)) (hv : (Int16.ofInt n).toInt32 = v) (h : Wp G M kc ks (pc + 3) l (.int v :: st) u Q) : Wp G M kc ks pc l st u Q := wp_go (fun _ _ _ _ _ _ _ _ _ _ _ _ _ _ ls C hl k => lv_sipush C.1 C.2.1 hd hv (k ls hl)) h
theorem wp_lconst {n : Fin 2} {v : Int64} (hd : decode M.2.1 pc = .ok (.lconst n, 1)) (hv : Int64.ofNat (n : Nat) = v) (h : Wp G M kc ks (pc + 1) l (.long v :: st) u Q) : Wp G M kc ks pc l st u Q := wp_go (fun _ _ _ _ _ _ _ _ _ _ _ _ _ _ ls C hl k => lv_lconst C.1 C.2.1 hd hv (k ls hl)) h
theorem wp_ldc {i : Nat} {v : Int32} (hd : decode M.2.1 pc = .ok (.ldc i, 2)) (hw : Cond.constant M.1.cls i v ∈ lw_g) (h : Wp G M kc ks (pc + 2) l (.int v :: st) u Q) : Wp G M kc ks pc l st u Q := wp_go (fun _ _ _ _ _ _ _ _ _ _ _ _ _ _ ls C hl k => lv_ldc C.1 C.2.1 C.2.2.2.2.1 (C.2.2.2.2.2.1 _ hw) hd (k ls hl)) h
theorem wp_ldcw {i : Nat} {v : Int32} (hd : decode M.2.1 pc = .ok (.ldc_w i, 3)) (hw : Cond.constant M.1.cls i v ∈ lw_g) (h : Wp G M kc ks (pc + 3) l (.int v :: st) u Q) : Wp G M kc ks pc l st u Q := wp_go (fun _ _ _ _ _ _ _ _ _ _ _ _ _ _ ls C hl k => lv_ldcw C.1 C.2.1 C.2.2.2.2.1 (C.2.2.2.2.2.1 _ hw) hd (k ls hl)) h
theorem wp_ldc2 {i : Nat} {v : Int64} (hd : decode M.2.1 pc = .ok (.ldc2_w i, 3)) (hw : Cond.constantLong M.1.cls i v ∈ lw_g) (h : Wp G M kc ks (pc + 3) l (.long v :: st) u Q) : Wp G M kc ks pc l st u Q := wp_go (fun _ _ _ _ _ _ _ _ _ _ _ _ _ _ ls C hl k => lv_ldc2 C.1 C.2.1 C.2.2.2.2.1 (C.2.2.2.2.2.1 _ hw) hd (k ls hl)) h
theorem wp_iload_n {k0 : Fin 4} {x : Int32} (j : Nat) (hd : decode M.2.1 pc = .ok (.iload_n k0, 1)) (hl : l[j]? = some ((k0 : Nat), .int x)) (h : Wp G M kc ks (pc + 1) l (.int x :: st) u Q) : Wp G M kc ks pc l st u Q := wp_go (fun _ _ _ _ _ _ _ _ _ _ _ _ _ _ ls C hl' k => lv_iload_n C.1 C.2.1 hd rfl (lv_at hl' j (lm_get hl)) (k ls hl')) h
theorem wp_iload {i : Nat} {x : Int32} (j : Nat) (hd : decode M.2.1 pc = .ok (.iload i, 2)) (hl : l[j]? = some (i, .int x)) (h : Wp G M kc ks (pc + 2) l (.int x :: st) u Q) : Wp G M kc ks pc l st u Q := wp_go (fun _ _ _ _ _ _ _ _ _ _ _ _ _ _ ls C hl' k => lv_iload C.1 C.2.1 hd (lv_at hl' j (lm_get hl)) (k ls hl')) h
theorem wp_lload_n {k0 : Fin 4} {x : Int64} (j : Nat) (hd : decode M.2.1 pc = .ok (.lload_n k0, 1)) (hl : l[j]? = some ((k0 : Nat), .long x)) (h : Wp G M kc ks (pc + 1) l (.long x :: st) u Q) : Wp G M kc ks pc l st u Q := wp_go (fun _ _ _ _ _ _ _ _ _ _ _ _ _ _ ls C hl' k => lv_lload_n C.1 C.2.1 hd rfl (lv_at hl' j (lm_get hl)) (k ls hl')) h
theorem wp_lload {i : Nat} {x : Int64} (j : Nat) (hd : decode M.2.1 pc = .ok (.lload i, 2)) (hl : l[j]? = some (i, .long x)) (h : Wp G M kc ks (pc + 2) l (.long x :: st) u Q) : Wp G M kc ks pc l st u Q := wp_go (fun _ _ _ _ _ _ _ _ _ _ _ _ _ _ ls C hl' k => lv_lload C.1 C.2.1 hd (lv_at hl' j (lm_get hl)) (k ls hl')) h
theorem wp_aload_n {k0 : Fin 4} {x : Nat} (j : Nat) (hd : decode M.2.1 pc = .ok (.aload_n k0, 1)) (hl : l[j]? = some ((k0 : Nat), .ref x)) (h : Wp G M kc ks (pc + 1) l (.ref x :: st) u Q) : Wp G M kc ks pc l st u Q := wp_go (fun _ _ _ _ _ _ _ _ _ _ _ _ _ _ ls C hl' k => lv_aload_n C.1 C.2.1 hd rfl (lv_at hl' j (lm_get hl)) (k ls hl')) h
theorem wp_aload {i x : Nat} (j : Nat) (hd : decode M.2.1 pc = .ok (.aload i, 2)) (hl : l[j]? = some (i, .ref x)) (h : Wp G M kc ks (pc + 2) l (.ref x :: st) u Q) : Wp G M kc ks pc l st u Q := wp_go (fun _ _ _ _ _ _ _ _ _ _ _ _ _ _ ls C hl' k => lv_aload C.1 C.2.1 hd (lv_at hl' j (lm_get hl)) (k ls hl')) h
theorem wp_istore_n {k0 : Fin 4} {x : Int32} {l' : pLo} (hd : decode M.2.1 pc = .ok (.istore_n k0, 1)) (hn : (k0 : Nat) < M.2.2.1) (hl : ls1 l k0 (.int x) = l') (h : Wp G M kc ks (pc + 1) l' st u Q) : Wp G M kc ks pc l (.int x :: st) u Q := wp_go (fun _ _ _ _ _ _ _ _ _ _ _ _ _ _ ls C hl' k => lv_istore_n C.1 C.2.1 hd rfl hl' hn (by rw [← hl]; exact lm_ls1 (G := G) l k0 (.int x)) k) h
theorem wp_istore {i : Nat} {x : Int32} {l' : pLo} (hd : decode M.2.1 pc = .ok (.istore i, 2)) (hn : i < M.2.2.1) (hl : ls1 l i (.int x) = l') (h : Wp G M kc ks (pc + 2) l' st u Q) : Wp G M kc ks pc l (.int x :: st) u Q := wp_go (fun _ _ _ _ _ _ _ _ _ _ _ _ _ _ ls C hl' k => lv_istore C.1 C.2.1 hd hl' hn (by rw [← hl]; exact lm_ls1 (G := G) l i (.int x)) k) h
theorem wp_lstore_n {k0 : Fin 4} {x : Int64} {l' : pLo} (hd : decode M.2.1 pc = .ok (.lstore_n k0, 1)) (hn : (k0 : Nat) + 1 < M.2.2.1) (hl : ls2 l k0 (.long x) = l') (h : Wp G M kc ks (pc + 1) l' st u Q) : Wp G M kc ks pc l (.long x :: st) u Q := wp_go (fun _ _ _ _ _ _ _ _ _ _ _ _ _ _ ls C hl' k => lv_lstore_n C.1 C.2.1 hd rfl hl' hn (by rw [← hl]; exact lm_ls2 (G := G) l k0 (.long x)) k) h
theorem wp_lstore {i : Nat} {x : Int64} {l' : pLo} (hd : decode M.2.1 pc = .ok (.lstore i, 2)) (hn : i + 1 < M.2.2.1) (hl : ls2 l i (.long x) = l') (h : Wp G M kc ks (pc + 2) l' st u Q) : Wp G M kc ks pc l (.long x :: st) u Q := wp_go (fun _ _ _ _ _ _ _ _ _ _ _ _ _ _ ls C hl' k => lv_lstore C.1 C.2.1 hd hl' hn (by rw [← hl]; exact lm_ls2 (G := G) l i (.long x)) k) h
theorem wp_astore_n {k0 : Fin 4} {x : Nat} {l' : pLo} (hd : decode M.2.1 pc = .ok (.astore_n k0, 1)) (hn : (k0 : Nat) < M.2.2.1) (hl : ls1 l k0 (.ref x) = l') (h : Wp G M kc ks (pc + 1) l' st u Q) : Wp G M kc ks pc l (.ref x :: st) u Q := wp_go (fun _ _ _ _ _ _ _ _ _ _ _ _ _ _ ls C hl' k => lv_astore_n C.1 C.2.1 hd rfl hl' hn (by rw [← hl]; exact lm_ls1 (G := G) l k0 (.ref x)) k) h
theorem wp_astore {i x : Nat} {l' : pLo} (hd : decode M.2.1 pc = .ok (.astore i, 2)) (hn : i < M.2.2.1) (hl : ls1 l i (.ref x) = l') (h : Wp G M kc ks (pc + 2) l' st u Q) : Wp G M kc ks pc l (.ref x :: st) u Q := wp_go (fun _ _ _ _ _ _ _ _ _ _ _ _ _ _ ls C hl' k => lv_astore C.1 C.2.1 hd hl' hn (by rw [← hl]; exact lm_ls1 (G := G) l i (.ref x)) k) h
theorem wp_iinc {i : Nat} {n : Int} {x v : Int32} {l' : pLo} (j : Nat) (hd : decode M.2.1 pc = .ok (.iinc i n, 3)) (hj : l[j]? = some (i, .int x)) (hv : Int32.ofInt n = v) (hn : i < M.2.2.1) (hl : ls1 l i (.int (x + v)) = l') (h : Wp G M kc ks (pc + 3) l' st u Q) : Wp G M kc ks pc l st u Q := wp_go (fun _ _ _ _ _ _ _ _ _ _ _ _ _ _ ls C hl' k => lv_iinc C.1 C.2.1 hd hl' (lm_get hj) (by rw [hv]) hn (by rw [← hl]; exact lm_ls1 (G := G) l i (.int (x + v))) k) h
theorem wp_iadd {x y : Int32} (hd : decode M.2.1 pc = .ok (.iadd, 1)) (h : Wp G M kc ks (pc + 1) l (.int (x + y) :: st) u Q) : Wp G M kc ks pc l (.int y :: .int x :: st) u Q := wp_go (fun _ _ _ _ _ _ _ _ _ _ _ _ _ _ ls C hl k => lv_iadd C.1 C.2.1 hd (k ls hl)) h
theorem wp_isub {x y : Int32} (hd : decode M.2.1 pc = .ok (.isub, 1)) (h : Wp G M kc ks (pc + 1) l (.int (x - y) :: st) u Q) : Wp G M kc ks pc l (.int y :: .int x :: st) u Q := wp_go (fun _ _ _ _ _ _ _ _ _ _ _ _ _ _ ls C hl k => lv_isub C.1 C.2.1 hd (k ls hl)) h
theorem wp_imul {x y : Int32} (hd : decode M.2.1 pc = .ok (.imul, 1)) (h : Wp G M kc ks (pc + 1) l (.int (x * y) :: st) u Q) : Wp G M kc ks pc l (.int y :: .int x :: st) u Q := wp_go (fun _ _ _ _ _ _ _ _ _ _ _ _ _ _ ls C hl k => lv_imul C.1 C.2.1 hd (k ls hl)) h
theorem wp_iand {x y : Int32} (hd : decode M.2.1 pc = .ok (.iand, 1)) (h : Wp G M kc ks (pc + 1) l (.int (x &&& y) :: st) u Q) : Wp G M kc ks pc l (.int y :: .int x :: st) u Q := wp_go (fun _ _ _ _ _ _ _ _ _ _ _ _ _ _ ls C hl k => lv_iand C.1 C.2.1 hd (k ls hl)) h
theorem wp_ior {x y : Int32} (hd : decode M.2.1 pc = .ok (.ior, 1)) (h : Wp G M kc ks (pc + 1) l (.int (x ||| y) :: st) u Q) : Wp G M kc ks pc l (.int y :: .int x :: st) u Q := wp_go (fun _ _ _ _ _ _ _ _ _ _ _ _ _ _ ls C hl k => lv_ior C.1 C.2.1 hd (k ls hl)) h
theorem wp_ixor {x y : Int32} (hd : decode M.2.1 pc = .ok (.ixor, 1)) (h : Wp G M kc ks (pc + 1) l (.int (x ^^^ y) :: st) u Q) : Wp G M kc ks pc l (.int y :: .int x :: st) u Q := wp_go (fun _ _ _ _ _ _ _ _ _ _ _ _ _ _ ls C hl k => lv_ixor C.1 C.2.1 hd (k ls hl)) h
theorem wp_idiv {x y : Int32} (hd : decode M.2.1 pc = .ok (.idiv, 1)) (hne : ¬ y = 0) (h : Wp G M kc ks (pc + 1) l (.int (x / y) :: st) u Q) : Wp G M kc ks pc l (.int y :: .int x :: st) u Q := wp_go (fun _ _ _ _ _ _ _ _ _ _ _ _ _ _ ls C hl k => lv_idiv C.1 C.2.1 hd hne (k ls hl)) h
theorem wp_irem {x y : Int32} (hd : decode M.2.1 pc = .ok (.irem, 1)) (hne : ¬ y = 0) (h : Wp G M kc ks (pc + 1) l (.int (x - x / y * y) :: st) u Q) : Wp G M kc ks pc l (.int y :: .int x :: st) u Q := wp_go (fun _ _ _ _ _ _ _ _ _ _ _ _ _ _ ls C hl k => lv_irem C.1 C.2.1 hd hne (k ls hl)) h
theorem wp_ineg {x : Int32} (hd : decode M.2.1 pc = .ok (.ineg, 1)) (h : Wp G M kc ks (pc + 1) l (.int (-x) :: st) u Q) : Wp G M kc ks pc l (.int x :: st) u Q := wp_go (fun _ _ _ _ _ _ _ _ _ _ _ _ _ _ ls C hl k => lv_ineg C.1 C.2.1 hd (k ls hl)) h
theorem wp_ishl {x y : Int32} (hd : decode M.2.1 pc = .ok (.ishl, 1)) (h : Wp G M kc ks (pc + 1) l (.int (x <<< (y &&& 31)) :: st) u Q) : Wp G M kc ks pc l (.int y :: .int x :: st) u Q := wp_go (fun _ _ _ _ _ _ _ _ _ _ _ _ _ _ ls C hl k => lv_ishl C.1 C.2.1 hd (k ls hl)) h
theorem wp_ishr {x y : Int32} (hd : decode M.2.1 pc = .ok (.ishr, 1)) (h : Wp G M kc ks (pc + 1) l (.int (x >>> (y &&& 31)) :: st) u Q) : Wp G M kc ks pc l (.int y :: .int x :: st) u Q := wp_go (fun _ _ _ _ _ _ _ _ _ _ _ _ _ _ ls C hl k => lv_ishr C.1 C.2.1 hd (k ls hl)) h
theorem wp_iushr {x y : Int32} (hd : decode M.2.1 pc = .ok (.iushr, 1)) (h : Wp G M kc ks (pc + 1) l (.int (x.toUInt32 >>> (y.toUInt32 &&& Int32.toUInt32 31)).toInt32 :: st) u Q) : Wp G M kc ks pc l (.int y :: .int x :: st) u Q := wp_go (fun _ _ _ _ _ _ _ _ _ _ _ _ _ _ ls C hl k => lv_iushr C.1 C.2.1 hd rfl (k ls hl)) h
theorem wp_ladd {x y : Int64} (hd : decode M.2.1 pc = .ok (.ladd, 1)) (h : Wp G M kc ks (pc + 1) l (.long (x + y) :: st) u Q) : Wp G M kc ks pc l (.long y :: .long x :: st) u Q := wp_go (fun _ _ _ _ _ _ _ _ _ _ _ _ _ _ ls C hl k => lv_ladd C.1 C.2.1 hd (k ls hl)) h
theorem wp_lsub {x y : Int64} (hd : decode M.2.1 pc = .ok (.lsub, 1)) (h : Wp G M kc ks (pc + 1) l (.long (x - y) :: st) u Q) : Wp G M kc ks pc l (.long y :: .long x :: st) u Q := wp_go (fun _ _ _ _ _ _ _ _ _ _ _ _ _ _ ls C hl k => lv_lsub C.1 C.2.1 hd (k ls hl)) h
theorem wp_lmul {x y : Int64} (hd : decode M.2.1 pc = .ok (.lmul, 1)) (h : Wp G M kc ks (pc + 1) l (.long (x * y) :: st) u Q) : Wp G M kc ks pc l (.long y :: .long x :: st) u Q := wp_go (fun _ _ _ _ _ _ _ _ _ _ _ _ _ _ ls C hl k => lv_lmul C.1 C.2.1 hd (k ls hl)) h
theorem wp_ldiv {x y : Int64} (hd : decode M.2.1 pc = .ok (.ldiv, 1)) (hne : ¬ y = 0) (h : Wp G M kc ks (pc + 1) l (.long (x / y) :: st) u Q) : Wp G M kc ks pc l (.long y :: .long x :: st) u Q := wp_go (fun _ _ _ _ _ _ _ _ _ _ _ _ _ _ ls C hl k => lv_ldiv C.1 C.2.1 hd hne (k ls hl)) h
theorem wp_lrem {x y : Int64} (hd : decode M.2.1 pc = .ok (.lrem, 1)) (hne : ¬ y = 0) (h : Wp G M kc ks (pc + 1) l (.long (x - x / y * y) :: st) u Q) : Wp G M kc ks pc l (.long y :: .long x :: st) u Q := wp_go (fun _ _ _ _ _ _ _ _ _ _ _ _ _ _ ls C hl k => lv_lrem C.1 C.2.1 hd hne (k ls hl)) h
theorem wp_lshl {x : Int64} {y : Int32} (hd : decode M.2.1 pc = .ok (.lshl, 1)) (h : Wp G M kc ks (pc + 1) l (.long (x <<< (y.toInt64 &&& 63)) :: st) u Q) : Wp G M kc ks pc l (.int y :: .long x :: st) u Q := wp_go (fun _ _ _ _ _ _ _ _ _ _ _ _ _ _ ls C hl k => lv_lshl C.1 C.2.1 hd rfl (k ls hl)) h
theorem wp_lshr {x : Int64} {y : Int32} (hd : decode M.2.1 pc = .ok (.lshr, 1)) (h : Wp G M kc ks (pc + 1) l (.long (x >>> (y.toInt64 &&& 63)) :: st) u Q) : Wp G M kc ks pc l (.int y :: .long x :: st) u Q := wp_go (fun _ _ _ _ _ _ _ _ _ _ _ _ _ _ ls C hl k => lv_lshr C.1 C.2.1 hd rfl (k ls hl)) h
theorem wp_i2l {x : Int32} (hd : decode M.2.1 pc = .ok (.i2l, 1)) (h : Wp G M kc ks (pc + 1) l (.long x.toInt64 :: st) u Q) : Wp G M kc ks pc l (.int x :: st) u Q := wp_go (fun _ _ _ _ _ _ _ _ _ _ _ _ _ _ ls C hl k => lv_i2l C.1 C.2.1 hd rfl (k ls hl)) h
theorem wp_l2i {x : Int64} (hd : decode M.2.1 pc = .ok (.l2i, 1)) (h : Wp G M kc ks (pc + 1) l (.int x.toInt32 :: st) u Q) : Wp G M kc ks pc l (.long x :: st) u Q := wp_go (fun _ _ _ _ _ _ _ _ _ _ _ _ _ _ ls C hl k => lv_l2i C.1 C.2.1 hd rfl (k ls hl)) h
theorem wp_i2b {x : Int32} (hd : decode M.2.1 pc = .ok (.i2b, 1)) (h : Wp G M kc ks (pc + 1) l (.int x.toInt8.toInt32 :: st) u Q) : Wp G M kc ks pc l (.int x :: st) u Q := wp_go (fun _ _ _ _ _ _ _ _ _ _ _ _ _ _ ls C hl k => lv_i2b C.1 C.2.1 hd rfl (k ls hl)) h
theorem wp_dup {v : Value} (hd : decode M.2.1 pc = .ok (.dup, 1)) (hv : v.category = 1) (h : Wp G M kc ks (pc + 1) l (v :: v :: st) u Q) : Wp G M kc ks pc l (v :: st) u Q := wp_go (fun _ _ _ _ _ _ _ _ _ _ _ _ _ _ ls C hl k => lv_dup C.1 C.2.1 hd ((tv_cat v).trans hv) (k ls hl)) h
theorem wp_pop {v : Value} (hd : decode M.2.1 pc = .ok (.pop, 1)) (hv : v.category = 1) (h : Wp G M kc ks (pc + 1) l st u Q) : Wp G M kc ks pc l (v :: st) u Q := wp_go (fun _ _ _ _ _ _ _ _ _ _ _ _ _ _ ls C hl k => lv_pop C.1 C.2.1 hd ((tv_cat v).trans hv) (k ls hl)) h
theorem wp_dup2 {v w : Value} (hd : decode M.2.1 pc = .ok (.dup2, 1)) (hv : v.category = 1) (hw : w.category = 1) (h : Wp G M kc ks (pc + 1) l (v :: w :: v :: w :: st) u Q) : Wp G M kc ks pc l (v :: w :: st) u Q := wp_go (fun _ _ _ _ _ _ _ _ _ _ _ _ _ _ ls C hl k => lv_dup2_11 C.1 C.2.1 hd ((tv_cat v).trans hv) ((tv_cat w).trans hw) (k ls hl)) h
theorem wp_pop2 {v : Value} (hd : decode M.2.1 pc = .ok (.pop2, 1)) (hv : v.category = 2) (h : Wp G M kc ks (pc + 1) l st u Q) : Wp G M kc ks pc l (v :: st) u Q := wp_go (fun _ _ _ _ _ _ _ _ _ _ _ _ _ _ ls C hl k => lv_pop2_2 C.1 C.2.1 hd ((tv_cat v).trans hv) (k ls hl)) h
theorem wp_goto {off : Int} {tgt : Nat} (hd : decode M.2.1 pc = .ok (.goto off, 3)) (ht : (pc : Int) + off = (tgt : Int)) (h : Wp G M kc ks tgt l st u Q) : Wp G M kc ks pc l st u Q := wp_go (fun _ _ _ _ _ _ _ _ _ _ _ _ _ _ ls C hl k => lv_goto C.1 C.2.1 hd ht (k ls hl)) h
theorem wp_ifnull {x : Nat} {off : Int} (hd : decode M.2.1 pc = .ok (.ifnull off, 3)) (h : Wp G M kc ks (pc + 3) l st u Q) : Wp G M kc ks pc l (.ref x :: st) u Q := wp_go (fun _ _ _ _ _ _ _ _ _ _ _ _ _ _ ls C hl k => lv_ifnull C.1 C.2.1 hd (k ls hl)) h
theorem wp_lcmp {x y : Int64} (hd : decode M.2.1 pc = .ok (.lcmp, 1)) (h : Wp G M kc ks (pc + 1) l (.int (lg_cmp x y) :: st) u Q) : Wp G M kc ks pc l (.long y :: .long x :: st) u Q := wp_go (fun _ _ _ _ _ _ _ _ _ _ _ _ _ _ ls C hl k => W.lcmp C.1 C.2.1 hd (k ls hl)) h
end CORE
