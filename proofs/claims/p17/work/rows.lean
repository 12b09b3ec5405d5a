section
/-! a walk over the bytes of a method: what stands at each place, shown by one table of opcodes -/
def At (c : ByteArray) (p : Nat) (l : List UInt8) : Prop := c.data.toList.drop p = l
theorem at_tl {c : ByteArray} {p : Nat} {b : UInt8} {l : List UInt8} (h : At c p (b :: l)) : At c (p + 1) l := by
  have e := congrArg List.tail h
  rw [List.tail_drop] at e
  exact e
theorem at_lt {c : ByteArray} {p : Nat} {b : UInt8} {l : List UInt8} (h : At c p (b :: l)) : ∃ hp : p < c.size, c[p] = b := by
  have h0 : p < c.data.toList.length := by
    rcases Nat.lt_or_ge p c.data.toList.length with h1 | h1
    · exact h1
    · exact absurd (h.symm.trans (List.drop_eq_nil_of_le h1)) (List.cons_ne_nil _ _)
  have e : c.data.toList[p] :: c.data.toList.drop (p + 1) = b :: l := (List.drop_eq_getElem_cons h0).symm.trans h
  exact ⟨h0, (List.cons.inj e).1⟩
theorem at_dr {c : ByteArray} {p : Nat} {l : List UInt8} (n : Nat) (h : At c p l) : At c (p + n) (l.drop n) := by
  unfold At at *
  subst h
  rw [List.drop_drop]
theorem u1_at {c : ByteArray} {p : Nat} {b : UInt8} {l : List UInt8} (h : At c p (b :: l)) : (Jvm.ClassFile.Reader.u1 : Jvm.ClassFile.Decoder Nat) c p = .ok (b.toNat, p + 1) := by
  obtain ⟨hp, e⟩ := at_lt h
  show (dite (p < c.size) (fun h => (do set (p + 1); pure c[p].toNat : Jvm.ClassFile.Decoder Nat)) (fun _ => (throw (Jvm.ClassFile.HasTruncated.truncated p) : Jvm.ClassFile.Decoder Nat))) c p = _
  rw [dif_pos hp]
  show Except.ok (c[p].toNat, p + 1) = _
  rw [e]
theorem bind_at {α β : Type} {m : Jvm.ClassFile.Decoder α} {f : α → Jvm.ClassFile.Decoder β} {c : ByteArray} {p q : Nat} {a : α} (h : m c p = .ok (a, q)) : (m >>= f) c p = f a c q := by
  have e : (m >>= f) c p = (m c p).bind (fun x => f x.1 c x.2) := rfl
  rw [e, h]
  rfl
theorem map_at {α β : Type} {m : Jvm.ClassFile.Decoder α} {f : α → β} {c : ByteArray} {p q : Nat} {a : α} (h : m c p = .ok (a, q)) : (f <$> m) c p = .ok (f a, q) := by
  have e : (f <$> m) c p = (m c p).bind (fun x => .ok (f x.1, x.2)) := rfl
  rw [e, h]
  rfl
theorem u2_at {c : ByteArray} {p : Nat} {a b : UInt8} {l : List UInt8} (h : At c p (a :: b :: l)) : (Jvm.ClassFile.Reader.u2 : Jvm.ClassFile.Decoder Nat) c p = .ok (a.toNat * 256 + b.toNat, p + 2) := by
  unfold Jvm.ClassFile.Reader.u2
  rw [bind_at (u1_at h), bind_at (u1_at (at_tl h))]
  rfl
theorem s1_at {c : ByteArray} {p : Nat} {b : UInt8} {l : List UInt8} (h : At c p (b :: l)) : (Jvm.ClassFile.Reader.s1 : Jvm.ClassFile.Decoder Int) c p = .ok (Jvm.ClassFile.Reader.signed 8 b.toNat, p + 1) := map_at (u1_at h)
theorem s2_at {c : ByteArray} {p : Nat} {a b : UInt8} {l : List UInt8} (h : At c p (a :: b :: l)) : (Jvm.ClassFile.Reader.s2 : Jvm.ClassFile.Decoder Int) c p = .ok (Jvm.ClassFile.Reader.signed 16 (a.toNat * 256 + b.toNat), p + 2) := map_at (u2_at h)
theorem opx {F : Nat → Jvm.ClassFile.Decoder Instr} {c : ByteArray} {p k : Nat} {b : UInt8} {l : List UInt8} (e : Jvm.ClassFile.Decoder.instr p = Jvm.ClassFile.Reader.u1 >>= F) (h : At c p (b :: l)) (hb : b.toNat = k) : Jvm.ClassFile.Decoder.instr p c p = F k c (p + 1) := by
  rw [e, bind_at (u1_at h), hb]
abbrev OPx : Type := Nat × (List UInt8 → Option Instr)
def OKx (k : Nat) (e : OPx) : Prop := ∀ (c : ByteArray) (p : Nat) (b : UInt8) (l : List UInt8) (i : Instr), At c p (b :: l) → b.toNat = k → e.2 l = some i → Jvm.ClassFile.Decoder.instr p c p = .ok (i, p + e.1)
def zN : OPx := (0, fun _ => none)
def z0 (i : Instr) : OPx := (1, fun _ => some i)
def z1 (g : Nat → Instr) : OPx := (2, fun l => match l with | a :: _ => some (g a.toNat) | [] => none)
def z1s (g : Int → Instr) : OPx := (2, fun l => match l with | a :: _ => some (g (Jvm.ClassFile.Reader.signed 8 a.toNat)) | [] => none)
def z2 (g : Nat → Instr) : OPx := (3, fun l => match l with | a :: b :: _ => some (g (a.toNat * 256 + b.toNat)) | _ => none)
def z2s (g : Int → Instr) : OPx := (3, fun l => match l with | a :: b :: _ => some (g (Jvm.ClassFile.Reader.signed 16 (a.toNat * 256 + b.toNat))) | _ => none)
def z11 (g : Nat → Int → Instr) : OPx := (3, fun l => match l with | a :: b :: _ => some (g a.toNat (Jvm.ClassFile.Reader.signed 8 b.toNat)) | _ => none)
theorem wN (k : Nat) : OKx k zN := by
  intro c p b l j h hb he
  cases he
theorem w0 {k : Nat} {g : Instr} (H : ∀ (c : ByteArray) (p : Nat) (b : UInt8) (l : List UInt8), At c p (b :: l) → b.toNat = k → Jvm.ClassFile.Decoder.instr p c p = (pure g : Jvm.ClassFile.Decoder Instr) c (p + 1)) : OKx k (z0 g) := by
  intro c p b l j h hb he
  cases he
  exact H c p b l h hb
theorem w1 {k : Nat} {g : Nat → Instr} (H : ∀ (c : ByteArray) (p : Nat) (b : UInt8) (l : List UInt8), At c p (b :: l) → b.toNat = k → Jvm.ClassFile.Decoder.instr p c p = (Jvm.ClassFile.Reader.u1 >>= fun x => pure (g x) : Jvm.ClassFile.Decoder Instr) c (p + 1)) : OKx k (z1 g) := by
  intro c p b l j h hb he
  cases l with
  | nil => cases he
  | cons x r =>
    cases he
    exact (H c p b _ h hb).trans (bind_at (u1_at (at_tl h)))
theorem w1s {k : Nat} {g : Int → Instr} (H : ∀ (c : ByteArray) (p : Nat) (b : UInt8) (l : List UInt8), At c p (b :: l) → b.toNat = k → Jvm.ClassFile.Decoder.instr p c p = (Jvm.ClassFile.Reader.s1 >>= fun x => pure (g x) : Jvm.ClassFile.Decoder Instr) c (p + 1)) : OKx k (z1s g) := by
  intro c p b l j h hb he
  cases l with
  | nil => cases he
  | cons x r =>
    cases he
    exact (H c p b _ h hb).trans (bind_at (s1_at (at_tl h)))
theorem w2 {k : Nat} {g : Nat → Instr} (H : ∀ (c : ByteArray) (p : Nat) (b : UInt8) (l : List UInt8), At c p (b :: l) → b.toNat = k → Jvm.ClassFile.Decoder.instr p c p = (Jvm.ClassFile.Reader.u2 >>= fun x => pure (g x) : Jvm.ClassFile.Decoder Instr) c (p + 1)) : OKx k (z2 g) := by
  intro c p b l j h hb he
  cases l with
  | nil => cases he
  | cons x r =>
    cases r with
    | nil => cases he
    | cons y r =>
      cases he
      exact (H c p b _ h hb).trans (bind_at (u2_at (at_tl h)))
theorem w2s {k : Nat} {g : Int → Instr} (H : ∀ (c : ByteArray) (p : Nat) (b : UInt8) (l : List UInt8), At c p (b :: l) → b.toNat = k → Jvm.ClassFile.Decoder.instr p c p = (Jvm.ClassFile.Reader.s2 >>= fun x => pure (g x) : Jvm.ClassFile.Decoder Instr) c (p + 1)) : OKx k (z2s g) := by
  intro c p b l j h hb he
  cases l with
  | nil => cases he
  | cons x r =>
    cases r with
    | nil => cases he
    | cons y r =>
      cases he
      exact (H c p b _ h hb).trans (bind_at (s2_at (at_tl h)))
theorem w11 {k : Nat} {g : Nat → Int → Instr} (H : ∀ (c : ByteArray) (p : Nat) (b : UInt8) (l : List UInt8), At c p (b :: l) → b.toNat = k → Jvm.ClassFile.Decoder.instr p c p = (Jvm.ClassFile.Reader.u1 >>= fun x => Jvm.ClassFile.Reader.s1 >>= fun y => pure (g x y) : Jvm.ClassFile.Decoder Instr) c (p + 1)) : OKx k (z11 g) := by
  intro c p b l j h hb he
  cases l with
  | nil => cases he
  | cons x r =>
    cases r with
    | nil => cases he
    | cons y r =>
      cases he
      exact (H c p b _ h hb).trans ((bind_at (u1_at (at_tl h))).trans (bind_at (s1_at (at_tl (at_tl h)))))
theorem o_2 : OKx 2 (z0 (.iconst (-1))) := w0 fun c p b l h hb => by
  have e := opx rfl h hb
  exact e
theorem o_3 : OKx 3 (z0 (.iconst 0)) := w0 fun c p b l h hb => by
  have e := opx rfl h hb
  exact e
theorem o_4 : OKx 4 (z0 (.iconst 1)) := w0 fun c p b l h hb => by
  have e := opx rfl h hb
  exact e
theorem o_5 : OKx 5 (z0 (.iconst 2)) := w0 fun c p b l h hb => by
  have e := opx rfl h hb
  exact e
theorem o_6 : OKx 6 (z0 (.iconst 3)) := w0 fun c p b l h hb => by
  have e := opx rfl h hb
  exact e
theorem o_7 : OKx 7 (z0 (.iconst 4)) := w0 fun c p b l h hb => by
  have e := opx rfl h hb
  exact e
theorem o_8 : OKx 8 (z0 (.iconst 5)) := w0 fun c p b l h hb => by
  have e := opx rfl h hb
  exact e
theorem o_9 : OKx 9 (z0 (.lconst 0)) := w0 fun c p b l h hb => by
  have e := opx rfl h hb
  exact e
theorem o_10 : OKx 10 (z0 (.lconst 1)) := w0 fun c p b l h hb => by
  have e := opx rfl h hb
  exact e
theorem o_16 : OKx 16 (z1s .bipush) := w1s fun c p b l h hb => by
  have e := opx rfl h hb
  exact e
theorem o_17 : OKx 17 (z2s .sipush) := w2s fun c p b l h hb => by
  have e := opx rfl h hb
  exact e
theorem o_18 : OKx 18 (z1 .ldc) := w1 fun c p b l h hb => by
  have e := opx rfl h hb
  exact e
theorem o_19 : OKx 19 (z2 .ldc_w) := w2 fun c p b l h hb => by
  have e := opx rfl h hb
  exact e
theorem o_20 : OKx 20 (z2 .ldc2_w) := w2 fun c p b l h hb => by
  have e := opx rfl h hb
  exact e
theorem o_21 : OKx 21 (z1 .iload) := w1 fun c p b l h hb => by
  have e := opx rfl h hb
  exact e
theorem o_22 : OKx 22 (z1 .lload) := w1 fun c p b l h hb => by
  have e := opx rfl h hb
  exact e
theorem o_25 : OKx 25 (z1 .aload) := w1 fun c p b l h hb => by
  have e := opx rfl h hb
  exact e
theorem o_26 : OKx 26 (z0 (.iload_n 0)) := w0 fun c p b l h hb => by
  have e := opx rfl h hb
  exact e
theorem o_27 : OKx 27 (z0 (.iload_n 1)) := w0 fun c p b l h hb => by
  have e := opx rfl h hb
  exact e
theorem o_28 : OKx 28 (z0 (.iload_n 2)) := w0 fun c p b l h hb => by
  have e := opx rfl h hb
  exact e
theorem o_29 : OKx 29 (z0 (.iload_n 3)) := w0 fun c p b l h hb => by
  have e := opx rfl h hb
  exact e
theorem o_30 : OKx 30 (z0 (.lload_n 0)) := w0 fun c p b l h hb => by
  have e := opx rfl h hb
  exact e
theorem o_31 : OKx 31 (z0 (.lload_n 1)) := w0 fun c p b l h hb => by
  have e := opx rfl h hb
  exact e
theorem o_32 : OKx 32 (z0 (.lload_n 2)) := w0 fun c p b l h hb => by
  have e := opx rfl h hb
  exact e
theorem o_33 : OKx 33 (z0 (.lload_n 3)) := w0 fun c p b l h hb => by
  have e := opx rfl h hb
  exact e
theorem o_42 : OKx 42 (z0 (.aload_n 0)) := w0 fun c p b l h hb => by
  have e := opx rfl h hb
  exact e
theorem o_43 : OKx 43 (z0 (.aload_n 1)) := w0 fun c p b l h hb => by
  have e := opx rfl h hb
  exact e
theorem o_44 : OKx 44 (z0 (.aload_n 2)) := w0 fun c p b l h hb => by
  have e := opx rfl h hb
  exact e
theorem o_45 : OKx 45 (z0 (.aload_n 3)) := w0 fun c p b l h hb => by
  have e := opx rfl h hb
  exact e
theorem o_46 : OKx 46 (z0 .iaload) := w0 fun c p b l h hb => by
  have e := opx rfl h hb
  exact e
theorem o_47 : OKx 47 (z0 .laload) := w0 fun c p b l h hb => by
  have e := opx rfl h hb
  exact e
theorem o_50 : OKx 50 (z0 .aaload) := w0 fun c p b l h hb => by
  have e := opx rfl h hb
  exact e
theorem o_54 : OKx 54 (z1 .istore) := w1 fun c p b l h hb => by
  have e := opx rfl h hb
  exact e
theorem o_55 : OKx 55 (z1 .lstore) := w1 fun c p b l h hb => by
  have e := opx rfl h hb
  exact e
theorem o_58 : OKx 58 (z1 .astore) := w1 fun c p b l h hb => by
  have e := opx rfl h hb
  exact e
theorem o_59 : OKx 59 (z0 (.istore_n 0)) := w0 fun c p b l h hb => by
  have e := opx rfl h hb
  exact e
theorem o_60 : OKx 60 (z0 (.istore_n 1)) := w0 fun c p b l h hb => by
  have e := opx rfl h hb
  exact e
theorem o_61 : OKx 61 (z0 (.istore_n 2)) := w0 fun c p b l h hb => by
  have e := opx rfl h hb
  exact e
theorem o_62 : OKx 62 (z0 (.istore_n 3)) := w0 fun c p b l h hb => by
  have e := opx rfl h hb
  exact e
theorem o_63 : OKx 63 (z0 (.lstore_n 0)) := w0 fun c p b l h hb => by
  have e := opx rfl h hb
  exact e
theorem o_64 : OKx 64 (z0 (.lstore_n 1)) := w0 fun c p b l h hb => by
  have e := opx rfl h hb
  exact e
theorem o_65 : OKx 65 (z0 (.lstore_n 2)) := w0 fun c p b l h hb => by
  have e := opx rfl h hb
  exact e
theorem o_66 : OKx 66 (z0 (.lstore_n 3)) := w0 fun c p b l h hb => by
  have e := opx rfl h hb
  exact e
theorem o_75 : OKx 75 (z0 (.astore_n 0)) := w0 fun c p b l h hb => by
  have e := opx rfl h hb
  exact e
theorem o_76 : OKx 76 (z0 (.astore_n 1)) := w0 fun c p b l h hb => by
  have e := opx rfl h hb
  exact e
theorem o_77 : OKx 77 (z0 (.astore_n 2)) := w0 fun c p b l h hb => by
  have e := opx rfl h hb
  exact e
theorem o_78 : OKx 78 (z0 (.astore_n 3)) := w0 fun c p b l h hb => by
  have e := opx rfl h hb
  exact e
theorem o_79 : OKx 79 (z0 .iastore) := w0 fun c p b l h hb => by
  have e := opx rfl h hb
  exact e
theorem o_80 : OKx 80 (z0 .lastore) := w0 fun c p b l h hb => by
  have e := opx rfl h hb
  exact e
theorem o_83 : OKx 83 (z0 .aastore) := w0 fun c p b l h hb => by
  have e := opx rfl h hb
  exact e
theorem o_87 : OKx 87 (z0 .pop) := w0 fun c p b l h hb => by
  have e := opx rfl h hb
  exact e
theorem o_88 : OKx 88 (z0 .pop2) := w0 fun c p b l h hb => by
  have e := opx rfl h hb
  exact e
theorem o_89 : OKx 89 (z0 .dup) := w0 fun c p b l h hb => by
  have e := opx rfl h hb
  exact e
theorem o_92 : OKx 92 (z0 .dup2) := w0 fun c p b l h hb => by
  have e := opx rfl h hb
  exact e
theorem o_96 : OKx 96 (z0 .iadd) := w0 fun c p b l h hb => by
  have e := opx rfl h hb
  exact e
theorem o_97 : OKx 97 (z0 .ladd) := w0 fun c p b l h hb => by
  have e := opx rfl h hb
  exact e
theorem o_100 : OKx 100 (z0 .isub) := w0 fun c p b l h hb => by
  have e := opx rfl h hb
  exact e
theorem o_101 : OKx 101 (z0 .lsub) := w0 fun c p b l h hb => by
  have e := opx rfl h hb
  exact e
theorem o_104 : OKx 104 (z0 .imul) := w0 fun c p b l h hb => by
  have e := opx rfl h hb
  exact e
theorem o_105 : OKx 105 (z0 .lmul) := w0 fun c p b l h hb => by
  have e := opx rfl h hb
  exact e
theorem o_108 : OKx 108 (z0 .idiv) := w0 fun c p b l h hb => by
  have e := opx rfl h hb
  exact e
theorem o_109 : OKx 109 (z0 .ldiv) := w0 fun c p b l h hb => by
  have e := opx rfl h hb
  exact e
theorem o_112 : OKx 112 (z0 .irem) := w0 fun c p b l h hb => by
  have e := opx rfl h hb
  exact e
theorem o_113 : OKx 113 (z0 .lrem) := w0 fun c p b l h hb => by
  have e := opx rfl h hb
  exact e
theorem o_116 : OKx 116 (z0 .ineg) := w0 fun c p b l h hb => by
  have e := opx rfl h hb
  exact e
theorem o_120 : OKx 120 (z0 .ishl) := w0 fun c p b l h hb => by
  have e := opx rfl h hb
  exact e
theorem o_122 : OKx 122 (z0 .ishr) := w0 fun c p b l h hb => by
  have e := opx rfl h hb
  exact e
theorem o_124 : OKx 124 (z0 .iushr) := w0 fun c p b l h hb => by
  have e := opx rfl h hb
  exact e
theorem o_126 : OKx 126 (z0 .iand) := w0 fun c p b l h hb => by
  have e := opx rfl h hb
  exact e
theorem o_128 : OKx 128 (z0 .ior) := w0 fun c p b l h hb => by
  have e := opx rfl h hb
  exact e
theorem o_130 : OKx 130 (z0 .ixor) := w0 fun c p b l h hb => by
  have e := opx rfl h hb
  exact e
theorem o_132 : OKx 132 (z11 .iinc) := w11 fun c p b l h hb => by
  have e := opx rfl h hb
  exact e
theorem o_133 : OKx 133 (z0 .i2l) := w0 fun c p b l h hb => by
  have e := opx rfl h hb
  exact e
theorem o_136 : OKx 136 (z0 .l2i) := w0 fun c p b l h hb => by
  have e := opx rfl h hb
  exact e
theorem o_148 : OKx 148 (z0 .lcmp) := w0 fun c p b l h hb => by
  have e := opx rfl h hb
  exact e
theorem o_153 : OKx 153 (z2s (.ifCond .eq)) := w2s fun c p b l h hb => by
  have e := opx rfl h hb
  exact e
theorem o_154 : OKx 154 (z2s (.ifCond .ne)) := w2s fun c p b l h hb => by
  have e := opx rfl h hb
  exact e
theorem o_155 : OKx 155 (z2s (.ifCond .lt)) := w2s fun c p b l h hb => by
  have e := opx rfl h hb
  exact e
theorem o_156 : OKx 156 (z2s (.ifCond .ge)) := w2s fun c p b l h hb => by
  have e := opx rfl h hb
  exact e
theorem o_157 : OKx 157 (z2s (.ifCond .gt)) := w2s fun c p b l h hb => by
  have e := opx rfl h hb
  exact e
theorem o_158 : OKx 158 (z2s (.ifCond .le)) := w2s fun c p b l h hb => by
  have e := opx rfl h hb
  exact e
theorem o_159 : OKx 159 (z2s (.if_icmp .eq)) := w2s fun c p b l h hb => by
  have e := opx rfl h hb
  exact e
theorem o_160 : OKx 160 (z2s (.if_icmp .ne)) := w2s fun c p b l h hb => by
  have e := opx rfl h hb
  exact e
theorem o_161 : OKx 161 (z2s (.if_icmp .lt)) := w2s fun c p b l h hb => by
  have e := opx rfl h hb
  exact e
theorem o_162 : OKx 162 (z2s (.if_icmp .ge)) := w2s fun c p b l h hb => by
  have e := opx rfl h hb
  exact e
theorem o_163 : OKx 163 (z2s (.if_icmp .gt)) := w2s fun c p b l h hb => by
  have e := opx rfl h hb
  exact e
theorem o_164 : OKx 164 (z2s (.if_icmp .le)) := w2s fun c p b l h hb => by
  have e := opx rfl h hb
  exact e
theorem o_167 : OKx 167 (z2s .goto) := w2s fun c p b l h hb => by
  have e := opx rfl h hb
  exact e
theorem o_172 : OKx 172 (z0 .ireturn) := w0 fun c p b l h hb => by
  have e := opx rfl h hb
  exact e
theorem o_173 : OKx 173 (z0 .lreturn) := w0 fun c p b l h hb => by
  have e := opx rfl h hb
  exact e
theorem o_176 : OKx 176 (z0 .areturn) := w0 fun c p b l h hb => by
  have e := opx rfl h hb
  exact e
theorem o_177 : OKx 177 (z0 .return_) := w0 fun c p b l h hb => by
  have e := opx rfl h hb
  exact e
theorem o_178 : OKx 178 (z2 .getstatic) := w2 fun c p b l h hb => by
  have e := opx rfl h hb
  exact e
theorem o_180 : OKx 180 (z2 .getfield) := w2 fun c p b l h hb => by
  have e := opx rfl h hb
  exact e
theorem o_181 : OKx 181 (z2 .putfield) := w2 fun c p b l h hb => by
  have e := opx rfl h hb
  exact e
theorem o_182 : OKx 182 (z2 .invokevirtual) := w2 fun c p b l h hb => by
  have e := opx rfl h hb
  exact e
theorem o_183 : OKx 183 (z2 .invokespecial) := w2 fun c p b l h hb => by
  have e := opx rfl h hb
  exact e
theorem o_184 : OKx 184 (z2 .invokestatic) := w2 fun c p b l h hb => by
  have e := opx rfl h hb
  exact e
theorem o_187 : OKx 187 (z2 .new) := w2 fun c p b l h hb => by
  have e := opx rfl h hb
  exact e
theorem o_189 : OKx 189 (z2 .anewarray) := w2 fun c p b l h hb => by
  have e := opx rfl h hb
  exact e
theorem o_190 : OKx 190 (z0 .arraylength) := w0 fun c p b l h hb => by
  have e := opx rfl h hb
  exact e
def TX : List OPx := [zN, zN, z0 (.iconst (-1)), z0 (.iconst 0), z0 (.iconst 1), z0 (.iconst 2), z0 (.iconst 3), z0 (.iconst 4), z0 (.iconst 5), z0 (.lconst 0), z0 (.lconst 1), zN, zN, zN, zN, zN, z1s .bipush, z2s .sipush, z1 .ldc, z2 .ldc_w, z2 .ldc2_w, z1 .iload, z1 .lload, zN, zN, z1 .aload, z0 (.iload_n 0), z0 (.iload_n 1), z0 (.iload_n 2), z0 (.iload_n 3), z0 (.lload_n 0), z0 (.lload_n 1), z0 (.lload_n 2), z0 (.lload_n 3), zN, zN, zN, zN, zN, zN, zN, zN, z0 (.aload_n 0), z0 (.aload_n 1), z0 (.aload_n 2), z0 (.aload_n 3), z0 .iaload, z0 .laload, zN, zN, z0 .aaload, zN, zN, zN, z1 .istore, z1 .lstore, zN, zN, z1 .astore, z0 (.istore_n 0), z0 (.istore_n 1), z0 (.istore_n 2), z0 (.istore_n 3), z0 (.lstore_n 0), z0 (.lstore_n 1), z0 (.lstore_n 2), z0 (.lstore_n 3), zN, zN, zN, zN, zN, zN, zN, zN, z0 (.astore_n 0), z0 (.astore_n 1), z0 (.astore_n 2), z0 (.astore_n 3), z0 .iastore, z0 .lastore, zN, zN, z0 .aastore, zN, zN, zN, z0 .pop, z0 .pop2, z0 .dup, zN, zN, z0 .dup2, zN, zN, zN, z0 .iadd, z0 .ladd, zN, zN, z0 .isub, z0 .lsub, zN, zN, z0 .imul, z0 .lmul, zN, zN, z0 .idiv, z0 .ldiv, zN, zN, z0 .irem, z0 .lrem, zN, zN, z0 .ineg, zN, zN, zN, z0 .ishl, zN, z0 .ishr, zN, z0 .iushr, zN, z0 .iand, zN, z0 .ior, zN, z0 .ixor, zN, z11 .iinc, z0 .i2l, zN, zN, z0 .l2i, zN, zN, zN, zN, zN, zN, zN, zN, zN, zN, zN, z0 .lcmp, zN, zN, zN, zN, z2s (.ifCond .eq), z2s (.ifCond .ne), z2s (.ifCond .lt), z2s (.ifCond .ge), z2s (.ifCond .gt), z2s (.ifCond .le), z2s (.if_icmp .eq), z2s (.if_icmp .ne), z2s (.if_icmp .lt), z2s (.if_icmp .ge), z2s (.if_icmp .gt), z2s (.if_icmp .le), zN, zN, z2s .goto, zN, zN, zN, zN, z0 .ireturn, z0 .lreturn, zN, zN, z0 .areturn, z0 .return_, z2 .getstatic, zN, z2 .getfield, z2 .putfield, z2 .invokevirtual, z2 .invokespecial, z2 .invokestatic, zN, zN, z2 .new, zN, z2 .anewarray, z0 .arraylength]
def AllX : Nat → List OPx → Prop
  | _, [] => True
  | k, e :: t => OKx k e ∧ AllX (k + 1) t
theorem allx {k j : Nat} {t : List OPx} {e : OPx} (h : AllX k t) (he : t[j]? = some e) : OKx (k + j) e := by
  induction t generalizing k j with
  | nil => simp at he
  | cons a t ih =>
    cases j with
    | zero => simp at he; subst he; exact h.1
    | succ j =>
      rw [List.getElem?_cons_succ] at he
      have r := ih (k := k + 1) (j := j) h.2 he
      rw [show k + 1 + j = k + (j + 1) by omega] at r
      exact r
theorem tx_ok : AllX 0 TX := ⟨wN 0, wN 1, o_2, o_3, o_4, o_5, o_6, o_7, o_8, o_9, o_10, wN 11, wN 12, wN 13, wN 14, wN 15, o_16, o_17, o_18, o_19, o_20, o_21, o_22, wN 23, wN 24, o_25, o_26, o_27, o_28, o_29, o_30, o_31, o_32, o_33, wN 34, wN 35, wN 36, wN 37, wN 38, wN 39, wN 40, wN 41, o_42, o_43, o_44, o_45, o_46, o_47, wN 48, wN 49, o_50, wN 51, wN 52, wN 53, o_54, o_55, wN 56, wN 57, o_58, o_59, o_60, o_61, o_62, o_63, o_64, o_65, o_66, wN 67, wN 68, wN 69, wN 70, wN 71, wN 72, wN 73, wN 74, o_75, o_76, o_77, o_78, o_79, o_80, wN 81, wN 82, o_83, wN 84, wN 85, wN 86, o_87, o_88, o_89, wN 90, wN 91, o_92, wN 93, wN 94, wN 95, o_96, o_97, wN 98, wN 99, o_100, o_101, wN 102, wN 103, o_104, o_105, wN 106, wN 107, o_108, o_109, wN 110, wN 111, o_112, o_113, wN 114, wN 115, o_116, wN 117, wN 118, wN 119, o_120, wN 121, o_122, wN 123, o_124, wN 125, o_126, wN 127, o_128, wN 129, o_130, wN 131, o_132, o_133, wN 134, wN 135, o_136, wN 137, wN 138, wN 139, wN 140, wN 141, wN 142, wN 143, wN 144, wN 145, wN 146, wN 147, o_148, wN 149, wN 150, wN 151, wN 152, o_153, o_154, o_155, o_156, o_157, o_158, o_159, o_160, o_161, o_162, o_163, o_164, wN 165, wN 166, o_167, wN 168, wN 169, wN 170, wN 171, o_172, o_173, wN 174, wN 175, o_176, o_177, o_178, wN 179, o_180, o_181, o_182, o_183, o_184, wN 185, wN 186, o_187, wN 188, o_189, o_190, trivial⟩
def dx (b : UInt8) (r : List UInt8) : Option (Instr × Nat) := (TX[b.toNat]?).bind (fun e => (e.2 r).map (fun i => (i, e.1)))
theorem dx_ok {c : ByteArray} {p : Nat} {b : UInt8} {r : List UInt8} {x : Instr × Nat} (ha : At c p (b :: r)) (hx : dx b r = some x) : decode c p = .ok x := by
  unfold dx at hx
  cases he : TX[b.toNat]? with
  | none => rw [he] at hx; cases hx
  | some e =>
    rw [he] at hx
    cases hi : e.2 r with
    | none => simp [hi] at hx
    | some i =>
      have hx' : (i, e.1) = x := by simpa [hi] using hx
      subst hx'
      have h := allx tx_ok he c p b r i ha (Nat.zero_add _).symm hi
      have e0 : decode c p = (Jvm.ClassFile.Decoder.instr p c p).bind (fun x => .ok (x.1, x.2 - p)) := rfl
      rw [e0, h]
      show Except.ok (i, p + e.1 - p) = _
      rw [Nat.add_sub_cancel_left]
def w1q (c : ByteArray) (q : Nat × Instr × Nat) (p : Nat) (l : List UInt8) : Bool := match l with
  | [] => false
  | b :: r => match dx b r with
    | some x => decide (x = q.2)
    | none => decide (decode c p = .ok q.2)
theorem w1q_ok {c : ByteArray} {q : Nat × Instr × Nat} {p : Nat} {l : List UInt8} (ha : At c p l) (h : w1q c q p l = true) : decode c p = .ok q.2 := by
  unfold w1q at h
  cases l with
  | nil => cases h
  | cons b r =>
    simp only at h
    split at h
    · rename_i x hx
      rw [← of_decide_eq_true h]
      exact dx_ok ha hx
    · exact of_decide_eq_true h
def wk (c : ByteArray) : List (Nat × Instr × Nat) → List UInt8 → Nat → Bool
  | [], _, _ => true
  | q :: t, l, p => Nat.beq q.1 p && (w1q c q p l && wk c t (l.drop q.2.2) (p + q.2.2))
theorem wk_ok {c : ByteArray} {t : List (Nat × Instr × Nat)} {l : List UInt8} {p : Nat} (ha : At c p l) (h : wk c t l p = true) : ∀ q ∈ t, decode c q.1 = .ok q.2 := by
  induction t generalizing l p with
  | nil => intro q hq; cases hq
  | cons q t ih =>
    have h' : (Nat.beq q.1 p && (w1q c q p l && wk c t (l.drop q.2.2) (p + q.2.2))) = true := h
    rw [Bool.and_eq_true, Bool.and_eq_true] at h'
    obtain ⟨h1, h2, h3⟩ := h'
    intro q' hq'
    rcases List.mem_cons.mp hq' with e | hq'
    · rw [e, Nat.eq_of_beq_eq_true h1]
      exact w1q_ok ha h2
    · exact ih (at_dr _ ha) h3 q' hq'
theorem wkd {c : ByteArray} {t : List (Nat × Instr × Nat)} {p : Nat} (h : wk c t (c.data.toList.drop p) p = true) : ∀ q ∈ t, decode c q.1 = .ok q.2 := wk_ok (Eq.refl (c.data.toList.drop p)) h
theorem dcd {bs : ByteArray} {t : List (Nat × Instr × Nat)} (h : ∀ q ∈ t, decode bs q.1 = .ok q.2) (i : Nat) {pc : Nat} {x : Instr × Nat} (hq : t[i]? = some (pc, x)) : decode bs pc = .ok x := h (pc, x) (List.mem_of_getElem? hq)
end
section
def t_L_law_0 : List (Nat × Instr × Nat) := [(0, .new 7, 3), (3, .dup, 1), (4, .invokespecial 9, 3), (7, .astore_n 1, 1), (8, .new 10, 3), (11, .dup, 1), (12, .invokespecial 12, 3), (15, .astore_n 2, 1)]
theorem d_L_law_0 : ∀ q ∈ t_L_law_0, decode code q.1 = .ok q.2 := wkd (p := 0) (by decide +kernel)
def t_L_law_1 : List (Nat × Instr × Nat) := [(16, .iconst 0, 1), (17, .istore_n 3, 1), (18, .iload_n 3, 1), (19, .aload_n 0, 1), (20, .arraylength, 1), (21, .bipush 6, 2), (23, .isub, 1), (24, .if_icmp .gt 1724, 3)]
theorem d_L_law_1 : ∀ q ∈ t_L_law_1, decode code q.1 = .ok q.2 := wkd (p := 16) (by decide +kernel)
def t_L_law_2 : List (Nat × Instr × Nat) := [(27, .aload_n 0, 1), (28, .iload_n 3, 1), (29, .iaload, 1), (30, .bipush 63, 2), (32, .iand, 1), (33, .tableswitch 1709 0 51 #[223, 256, 299, 332, 355, 418, 441, 474, 517, 540, 563, 596, 629, 652, 675, 698, 721, 744, 767, 800, 833, 846, 869, 892, 925, 958, 1001, 1044, 1077, 1110, 1153, 1206, 1249, 1282, 1295, 1308, 1351, 1374, 1397, 1420, 1463, 1496, 1529, 1552, 1575, 1598, 1611, 1624, 1637, 1660, 1673, 1696], 223), (256, .aload_n 1, 1), (257, .aload_n 0, 1)]
theorem d_L_law_2 : ∀ q ∈ t_L_law_2, decode code q.1 = .ok q.2 := wkd (p := 27) (by decide +kernel)
def t_L_law_3 : List (Nat × Instr × Nat) := [(258, .iload_n 3, 1), (259, .iconst 1, 1), (260, .iadd, 1), (261, .iaload, 1), (262, .aload_n 0, 1), (263, .iload_n 3, 1), (264, .iconst 2, 1), (265, .iadd, 1)]
theorem d_L_law_3 : ∀ q ∈ t_L_law_3, decode code q.1 = .ok q.2 := wkd (p := 258) (by decide +kernel)
def t_L_law_4 : List (Nat × Instr × Nat) := [(266, .iaload, 1), (267, .invokevirtual 13, 3), (270, .pop, 1), (271, .aload_n 2, 1), (272, .aload_n 0, 1), (273, .iload_n 3, 1), (274, .iconst 1, 1), (275, .iadd, 1)]
theorem d_L_law_4 : ∀ q ∈ t_L_law_4, decode code q.1 = .ok q.2 := wkd (p := 266) (by decide +kernel)
def t_L_law_5 : List (Nat × Instr × Nat) := [(276, .iaload, 1), (277, .aload_n 0, 1), (278, .iload_n 3, 1), (279, .iconst 2, 1), (280, .iadd, 1), (281, .iaload, 1), (282, .invokevirtual 17, 3), (285, .pop, 1)]
theorem d_L_law_5 : ∀ q ∈ t_L_law_5, decode code q.1 = .ok q.2 := wkd (p := 276) (by decide +kernel)
def t_L_law_6 : List (Nat × Instr × Nat) := [(286, .goto 1456, 3), (289, .aload_n 1, 1), (290, .aload_n 0, 1), (291, .iload_n 3, 1), (292, .iconst 1, 1), (293, .iadd, 1), (294, .iaload, 1), (295, .aload_n 0, 1)]
theorem d_L_law_6 : ∀ q ∈ t_L_law_6, decode code q.1 = .ok q.2 := wkd (p := 286) (by decide +kernel)
def t_L_law_7 : List (Nat × Instr × Nat) := [(296, .iload_n 3, 1), (297, .iconst 2, 1), (298, .iadd, 1), (299, .iaload, 1), (300, .aload_n 0, 1), (301, .iload_n 3, 1), (302, .iconst 3, 1), (303, .iadd, 1)]
theorem d_L_law_7 : ∀ q ∈ t_L_law_7, decode code q.1 = .ok q.2 := wkd (p := 296) (by decide +kernel)
def t_L_law_8 : List (Nat × Instr × Nat) := [(304, .iaload, 1), (305, .invokevirtual 18, 3), (308, .pop, 1), (309, .aload_n 2, 1), (310, .aload_n 0, 1), (311, .iload_n 3, 1), (312, .iconst 1, 1), (313, .iadd, 1)]
theorem d_L_law_8 : ∀ q ∈ t_L_law_8, decode code q.1 = .ok q.2 := wkd (p := 304) (by decide +kernel)
def t_L_law_9 : List (Nat × Instr × Nat) := [(314, .iaload, 1), (315, .aload_n 0, 1), (316, .iload_n 3, 1), (317, .iconst 2, 1), (318, .iadd, 1), (319, .iaload, 1), (320, .aload_n 0, 1), (321, .iload_n 3, 1)]
theorem d_L_law_9 : ∀ q ∈ t_L_law_9, decode code q.1 = .ok q.2 := wkd (p := 314) (by decide +kernel)
def t_L_law_10 : List (Nat × Instr × Nat) := [(322, .iconst 3, 1), (323, .iadd, 1), (324, .iaload, 1), (325, .invokevirtual 22, 3), (328, .pop, 1), (329, .goto 1413, 3), (332, .aload_n 1, 1), (333, .aload_n 0, 1)]
theorem d_L_law_10 : ∀ q ∈ t_L_law_10, decode code q.1 = .ok q.2 := wkd (p := 322) (by decide +kernel)
def t_L_law_11 : List (Nat × Instr × Nat) := [(334, .iload_n 3, 1), (335, .iconst 1, 1), (336, .iadd, 1), (337, .iaload, 1), (338, .aload_n 0, 1), (339, .iload_n 3, 1), (340, .iconst 2, 1), (341, .iadd, 1)]
theorem d_L_law_11 : ∀ q ∈ t_L_law_11, decode code q.1 = .ok q.2 := wkd (p := 334) (by decide +kernel)
def t_L_law_12 : List (Nat × Instr × Nat) := [(342, .iaload, 1), (343, .invokevirtual 23, 3), (346, .pop, 1), (347, .aload_n 2, 1), (348, .aload_n 0, 1), (349, .iload_n 3, 1), (350, .iconst 1, 1), (351, .iadd, 1)]
theorem d_L_law_12 : ∀ q ∈ t_L_law_12, decode code q.1 = .ok q.2 := wkd (p := 342) (by decide +kernel)
def t_L_law_13 : List (Nat × Instr × Nat) := [(352, .iaload, 1), (353, .aload_n 0, 1), (354, .iload_n 3, 1), (355, .iconst 2, 1), (356, .iadd, 1), (357, .iaload, 1), (358, .invokevirtual 26, 3), (361, .pop, 1)]
theorem d_L_law_13 : ∀ q ∈ t_L_law_13, decode code q.1 = .ok q.2 := wkd (p := 352) (by decide +kernel)
def t_L_law_14 : List (Nat × Instr × Nat) := [(362, .goto 1380, 3), (365, .aload_n 1, 1), (366, .aload_n 0, 1), (367, .iload_n 3, 1), (368, .iconst 1, 1), (369, .iadd, 1), (370, .iaload, 1), (371, .invokevirtual 27, 3)]
theorem d_L_law_14 : ∀ q ∈ t_L_law_14, decode code q.1 = .ok q.2 := wkd (p := 362) (by decide +kernel)
def t_L_law_15 : List (Nat × Instr × Nat) := [(374, .pop, 1), (375, .aload_n 2, 1), (376, .aload_n 0, 1), (377, .iload_n 3, 1), (378, .iconst 1, 1), (379, .iadd, 1), (380, .iaload, 1), (381, .invokevirtual 31, 3)]
theorem d_L_law_15 : ∀ q ∈ t_L_law_15, decode code q.1 = .ok q.2 := wkd (p := 374) (by decide +kernel)
def t_L_law_16 : List (Nat × Instr × Nat) := [(384, .pop, 1), (385, .goto 1357, 3), (388, .aload_n 1, 1), (389, .aload_n 0, 1), (390, .iload_n 3, 1), (391, .iconst 1, 1), (392, .iadd, 1), (393, .iaload, 1)]
theorem d_L_law_16 : ∀ q ∈ t_L_law_16, decode code q.1 = .ok q.2 := wkd (p := 384) (by decide +kernel)
def t_L_law_17 : List (Nat × Instr × Nat) := [(394, .aload_n 0, 1), (395, .iload_n 3, 1), (396, .iconst 2, 1), (397, .iadd, 1), (398, .iaload, 1), (399, .aload_n 0, 1), (400, .iload_n 3, 1), (401, .iconst 3, 1)]
theorem d_L_law_17 : ∀ q ∈ t_L_law_17, decode code q.1 = .ok q.2 := wkd (p := 394) (by decide +kernel)
def t_L_law_18 : List (Nat × Instr × Nat) := [(402, .iadd, 1), (403, .iaload, 1), (404, .aload_n 0, 1), (405, .iload_n 3, 1), (406, .iconst 4, 1), (407, .iadd, 1), (408, .iaload, 1), (409, .aload_n 0, 1)]
theorem d_L_law_18 : ∀ q ∈ t_L_law_18, decode code q.1 = .ok q.2 := wkd (p := 402) (by decide +kernel)
def t_L_law_19 : List (Nat × Instr × Nat) := [(410, .iload_n 3, 1), (411, .iconst 5, 1), (412, .iadd, 1), (413, .iaload, 1), (414, .invokevirtual 32, 3), (417, .pop, 1), (418, .aload_n 2, 1), (419, .aload_n 0, 1)]
theorem d_L_law_19 : ∀ q ∈ t_L_law_19, decode code q.1 = .ok q.2 := wkd (p := 410) (by decide +kernel)
def t_L_law_20 : List (Nat × Instr × Nat) := [(420, .iload_n 3, 1), (421, .iconst 1, 1), (422, .iadd, 1), (423, .iaload, 1), (424, .aload_n 0, 1), (425, .iload_n 3, 1), (426, .iconst 2, 1), (427, .iadd, 1)]
theorem d_L_law_20 : ∀ q ∈ t_L_law_20, decode code q.1 = .ok q.2 := wkd (p := 420) (by decide +kernel)
def t_L_law_21 : List (Nat × Instr × Nat) := [(428, .iaload, 1), (429, .aload_n 0, 1), (430, .iload_n 3, 1), (431, .iconst 3, 1), (432, .iadd, 1), (433, .iaload, 1), (434, .aload_n 0, 1), (435, .iload_n 3, 1)]
theorem d_L_law_21 : ∀ q ∈ t_L_law_21, decode code q.1 = .ok q.2 := wkd (p := 428) (by decide +kernel)
def t_L_law_22 : List (Nat × Instr × Nat) := [(436, .iconst 4, 1), (437, .iadd, 1), (438, .iaload, 1), (439, .aload_n 0, 1), (440, .iload_n 3, 1), (441, .iconst 5, 1), (442, .iadd, 1), (443, .iaload, 1)]
theorem d_L_law_22 : ∀ q ∈ t_L_law_22, decode code q.1 = .ok q.2 := wkd (p := 436) (by decide +kernel)
def t_L_law_23 : List (Nat × Instr × Nat) := [(444, .invokevirtual 36, 3), (447, .pop, 1), (448, .goto 1294, 3), (451, .aload_n 1, 1), (452, .aload_n 0, 1), (453, .iload_n 3, 1), (454, .iconst 1, 1), (455, .iadd, 1)]
theorem d_L_law_23 : ∀ q ∈ t_L_law_23, decode code q.1 = .ok q.2 := wkd (p := 444) (by decide +kernel)
def t_L_law_24 : List (Nat × Instr × Nat) := [(456, .iaload, 1), (457, .invokevirtual 37, 3), (460, .pop, 1), (461, .aload_n 2, 1), (462, .aload_n 0, 1), (463, .iload_n 3, 1), (464, .iconst 1, 1), (465, .iadd, 1)]
theorem d_L_law_24 : ∀ q ∈ t_L_law_24, decode code q.1 = .ok q.2 := wkd (p := 456) (by decide +kernel)
def t_L_law_25 : List (Nat × Instr × Nat) := [(466, .iaload, 1), (467, .invokevirtual 40, 3), (470, .pop, 1), (471, .goto 1271, 3), (474, .aload_n 1, 1), (475, .aload_n 0, 1), (476, .iload_n 3, 1), (477, .iconst 1, 1)]
theorem d_L_law_25 : ∀ q ∈ t_L_law_25, decode code q.1 = .ok q.2 := wkd (p := 466) (by decide +kernel)
def t_L_law_26 : List (Nat × Instr × Nat) := [(478, .iadd, 1), (479, .iaload, 1), (480, .aload_n 0, 1), (481, .iload_n 3, 1), (482, .iconst 2, 1), (483, .iadd, 1), (484, .iaload, 1), (485, .invokevirtual 41, 3)]
theorem d_L_law_26 : ∀ q ∈ t_L_law_26, decode code q.1 = .ok q.2 := wkd (p := 478) (by decide +kernel)
def t_L_law_27 : List (Nat × Instr × Nat) := [(488, .pop, 1), (489, .aload_n 2, 1), (490, .aload_n 0, 1), (491, .iload_n 3, 1), (492, .iconst 1, 1), (493, .iadd, 1), (494, .iaload, 1), (495, .aload_n 0, 1)]
theorem d_L_law_27 : ∀ q ∈ t_L_law_27, decode code q.1 = .ok q.2 := wkd (p := 488) (by decide +kernel)
def t_L_law_28 : List (Nat × Instr × Nat) := [(496, .iload_n 3, 1), (497, .iconst 2, 1), (498, .iadd, 1), (499, .iaload, 1), (500, .invokevirtual 44, 3), (503, .pop, 1), (504, .goto 1238, 3), (507, .aload_n 1, 1)]
theorem d_L_law_28 : ∀ q ∈ t_L_law_28, decode code q.1 = .ok q.2 := wkd (p := 496) (by decide +kernel)
def t_L_law_29 : List (Nat × Instr × Nat) := [(508, .aload_n 0, 1), (509, .iload_n 3, 1), (510, .iconst 1, 1), (511, .iadd, 1), (512, .iaload, 1), (513, .aload_n 0, 1), (514, .iload_n 3, 1), (515, .iconst 2, 1)]
theorem d_L_law_29 : ∀ q ∈ t_L_law_29, decode code q.1 = .ok q.2 := wkd (p := 508) (by decide +kernel)
def t_L_law_30 : List (Nat × Instr × Nat) := [(516, .iadd, 1), (517, .iaload, 1), (518, .aload_n 0, 1), (519, .iload_n 3, 1), (520, .iconst 3, 1), (521, .iadd, 1), (522, .iaload, 1), (523, .invokevirtual 45, 3)]
theorem d_L_law_30 : ∀ q ∈ t_L_law_30, decode code q.1 = .ok q.2 := wkd (p := 516) (by decide +kernel)
def t_L_law_31 : List (Nat × Instr × Nat) := [(526, .pop, 1), (527, .aload_n 2, 1), (528, .aload_n 0, 1), (529, .iload_n 3, 1), (530, .iconst 1, 1), (531, .iadd, 1), (532, .iaload, 1), (533, .aload_n 0, 1)]
theorem d_L_law_31 : ∀ q ∈ t_L_law_31, decode code q.1 = .ok q.2 := wkd (p := 526) (by decide +kernel)
def t_L_law_32 : List (Nat × Instr × Nat) := [(534, .iload_n 3, 1), (535, .iconst 2, 1), (536, .iadd, 1), (537, .iaload, 1), (538, .aload_n 0, 1), (539, .iload_n 3, 1), (540, .iconst 3, 1), (541, .iadd, 1)]
theorem d_L_law_32 : ∀ q ∈ t_L_law_32, decode code q.1 = .ok q.2 := wkd (p := 534) (by decide +kernel)
def t_L_law_33 : List (Nat × Instr × Nat) := [(542, .iaload, 1), (543, .invokevirtual 48, 3), (546, .pop, 1), (547, .goto 1195, 3), (550, .aload_n 1, 1), (551, .aload_n 0, 1), (552, .iload_n 3, 1), (553, .iconst 1, 1)]
theorem d_L_law_33 : ∀ q ∈ t_L_law_33, decode code q.1 = .ok q.2 := wkd (p := 542) (by decide +kernel)
def t_L_law_34 : List (Nat × Instr × Nat) := [(554, .iadd, 1), (555, .iaload, 1), (556, .invokevirtual 49, 3), (559, .pop, 1), (560, .aload_n 2, 1), (561, .aload_n 0, 1), (562, .iload_n 3, 1), (563, .iconst 1, 1)]
theorem d_L_law_34 : ∀ q ∈ t_L_law_34, decode code q.1 = .ok q.2 := wkd (p := 554) (by decide +kernel)
def t_L_law_35 : List (Nat × Instr × Nat) := [(564, .iadd, 1), (565, .iaload, 1), (566, .invokevirtual 52, 3), (569, .pop, 1), (570, .goto 1172, 3), (573, .aload_n 1, 1), (574, .aload_n 0, 1), (575, .iload_n 3, 1)]
theorem d_L_law_35 : ∀ q ∈ t_L_law_35, decode code q.1 = .ok q.2 := wkd (p := 564) (by decide +kernel)
def t_L_law_36 : List (Nat × Instr × Nat) := [(576, .iconst 1, 1), (577, .iadd, 1), (578, .iaload, 1), (579, .invokevirtual 53, 3), (582, .pop, 1), (583, .aload_n 2, 1), (584, .aload_n 0, 1), (585, .iload_n 3, 1)]
theorem d_L_law_36 : ∀ q ∈ t_L_law_36, decode code q.1 = .ok q.2 := wkd (p := 576) (by decide +kernel)
def t_L_law_37 : List (Nat × Instr × Nat) := [(586, .iconst 1, 1), (587, .iadd, 1), (588, .iaload, 1), (589, .invokevirtual 56, 3), (592, .pop, 1), (593, .goto 1149, 3), (596, .aload_n 1, 1), (597, .aload_n 0, 1)]
theorem d_L_law_37 : ∀ q ∈ t_L_law_37, decode code q.1 = .ok q.2 := wkd (p := 586) (by decide +kernel)
def t_L_law_38 : List (Nat × Instr × Nat) := [(598, .iload_n 3, 1), (599, .iconst 1, 1), (600, .iadd, 1), (601, .iaload, 1), (602, .aload_n 0, 1), (603, .iload_n 3, 1), (604, .iconst 2, 1), (605, .iadd, 1)]
theorem d_L_law_38 : ∀ q ∈ t_L_law_38, decode code q.1 = .ok q.2 := wkd (p := 598) (by decide +kernel)
def t_L_law_39 : List (Nat × Instr × Nat) := [(606, .iaload, 1), (607, .invokevirtual 57, 3), (610, .pop, 1), (611, .aload_n 2, 1), (612, .aload_n 0, 1), (613, .iload_n 3, 1), (614, .iconst 1, 1), (615, .iadd, 1)]
theorem d_L_law_39 : ∀ q ∈ t_L_law_39, decode code q.1 = .ok q.2 := wkd (p := 606) (by decide +kernel)
def t_L_law_40 : List (Nat × Instr × Nat) := [(616, .iaload, 1), (617, .aload_n 0, 1), (618, .iload_n 3, 1), (619, .iconst 2, 1), (620, .iadd, 1), (621, .iaload, 1), (622, .invokevirtual 60, 3), (625, .pop, 1)]
theorem d_L_law_40 : ∀ q ∈ t_L_law_40, decode code q.1 = .ok q.2 := wkd (p := 616) (by decide +kernel)
def t_L_law_41 : List (Nat × Instr × Nat) := [(626, .goto 1116, 3), (629, .aload_n 1, 1), (630, .aload_n 0, 1), (631, .iload_n 3, 1), (632, .iconst 1, 1), (633, .iadd, 1), (634, .iaload, 1), (635, .aload_n 0, 1)]
theorem d_L_law_41 : ∀ q ∈ t_L_law_41, decode code q.1 = .ok q.2 := wkd (p := 626) (by decide +kernel)
def t_L_law_42 : List (Nat × Instr × Nat) := [(636, .iload_n 3, 1), (637, .iconst 2, 1), (638, .iadd, 1), (639, .iaload, 1), (640, .invokevirtual 61, 3), (643, .pop, 1), (644, .aload_n 2, 1), (645, .aload_n 0, 1)]
theorem d_L_law_42 : ∀ q ∈ t_L_law_42, decode code q.1 = .ok q.2 := wkd (p := 636) (by decide +kernel)
def t_L_law_43 : List (Nat × Instr × Nat) := [(646, .iload_n 3, 1), (647, .iconst 1, 1), (648, .iadd, 1), (649, .iaload, 1), (650, .aload_n 0, 1), (651, .iload_n 3, 1), (652, .iconst 2, 1), (653, .iadd, 1)]
theorem d_L_law_43 : ∀ q ∈ t_L_law_43, decode code q.1 = .ok q.2 := wkd (p := 646) (by decide +kernel)
def t_L_law_44 : List (Nat × Instr × Nat) := [(654, .iaload, 1), (655, .invokevirtual 64, 3), (658, .pop, 1), (659, .goto 1083, 3), (662, .aload_n 1, 1), (663, .aload_n 0, 1), (664, .iload_n 3, 1), (665, .iconst 1, 1)]
theorem d_L_law_44 : ∀ q ∈ t_L_law_44, decode code q.1 = .ok q.2 := wkd (p := 654) (by decide +kernel)
def t_L_law_45 : List (Nat × Instr × Nat) := [(666, .iadd, 1), (667, .iaload, 1), (668, .invokevirtual 65, 3), (671, .pop, 1), (672, .aload_n 2, 1), (673, .aload_n 0, 1), (674, .iload_n 3, 1), (675, .iconst 1, 1)]
theorem d_L_law_45 : ∀ q ∈ t_L_law_45, decode code q.1 = .ok q.2 := wkd (p := 666) (by decide +kernel)
def t_L_law_46 : List (Nat × Instr × Nat) := [(676, .iadd, 1), (677, .iaload, 1), (678, .invokevirtual 68, 3), (681, .pop, 1), (682, .goto 1060, 3), (685, .aload_n 1, 1), (686, .aload_n 0, 1), (687, .iload_n 3, 1)]
theorem d_L_law_46 : ∀ q ∈ t_L_law_46, decode code q.1 = .ok q.2 := wkd (p := 676) (by decide +kernel)
def t_L_law_47 : List (Nat × Instr × Nat) := [(688, .iconst 1, 1), (689, .iadd, 1), (690, .iaload, 1), (691, .invokevirtual 69, 3), (694, .pop, 1), (695, .aload_n 2, 1), (696, .aload_n 0, 1), (697, .iload_n 3, 1)]
theorem d_L_law_47 : ∀ q ∈ t_L_law_47, decode code q.1 = .ok q.2 := wkd (p := 688) (by decide +kernel)
def t_L_law_48 : List (Nat × Instr × Nat) := [(698, .iconst 1, 1), (699, .iadd, 1), (700, .iaload, 1), (701, .invokevirtual 72, 3), (704, .pop, 1), (705, .goto 1037, 3), (708, .aload_n 1, 1), (709, .aload_n 0, 1)]
theorem d_L_law_48 : ∀ q ∈ t_L_law_48, decode code q.1 = .ok q.2 := wkd (p := 698) (by decide +kernel)
def t_L_law_49 : List (Nat × Instr × Nat) := [(710, .iload_n 3, 1), (711, .iconst 1, 1), (712, .iadd, 1), (713, .iaload, 1), (714, .invokevirtual 73, 3), (717, .pop, 1), (718, .aload_n 2, 1), (719, .aload_n 0, 1)]
theorem d_L_law_49 : ∀ q ∈ t_L_law_49, decode code q.1 = .ok q.2 := wkd (p := 710) (by decide +kernel)
def t_L_law_50 : List (Nat × Instr × Nat) := [(720, .iload_n 3, 1), (721, .iconst 1, 1), (722, .iadd, 1), (723, .iaload, 1), (724, .invokevirtual 76, 3), (727, .pop, 1), (728, .goto 1014, 3), (731, .aload_n 1, 1)]
theorem d_L_law_50 : ∀ q ∈ t_L_law_50, decode code q.1 = .ok q.2 := wkd (p := 720) (by decide +kernel)
def t_L_law_51 : List (Nat × Instr × Nat) := [(732, .aload_n 0, 1), (733, .iload_n 3, 1), (734, .iconst 1, 1), (735, .iadd, 1), (736, .iaload, 1), (737, .invokevirtual 77, 3), (740, .aload_n 2, 1), (741, .aload_n 0, 1)]
theorem d_L_law_51 : ∀ q ∈ t_L_law_51, decode code q.1 = .ok q.2 := wkd (p := 732) (by decide +kernel)
def t_L_law_52 : List (Nat × Instr × Nat) := [(742, .iload_n 3, 1), (743, .iconst 1, 1), (744, .iadd, 1), (745, .iaload, 1), (746, .invokevirtual 80, 3), (749, .if_icmp .eq 993, 3), (752, .iconst 0, 1), (753, .ireturn, 1)]
theorem d_L_law_52 : ∀ q ∈ t_L_law_52, decode code q.1 = .ok q.2 := wkd (p := 742) (by decide +kernel)
def t_L_law_53 : List (Nat × Instr × Nat) := [(754, .aload_n 1, 1), (755, .aload_n 0, 1), (756, .iload_n 3, 1), (757, .iconst 1, 1), (758, .iadd, 1), (759, .iaload, 1), (760, .invokevirtual 81, 3), (763, .pop, 1)]
theorem d_L_law_53 : ∀ q ∈ t_L_law_53, decode code q.1 = .ok q.2 := wkd (p := 754) (by decide +kernel)
def t_L_law_54 : List (Nat × Instr × Nat) := [(764, .aload_n 2, 1), (765, .aload_n 0, 1), (766, .iload_n 3, 1), (767, .iconst 1, 1), (768, .iadd, 1), (769, .iaload, 1), (770, .invokevirtual 84, 3), (773, .pop, 1)]
theorem d_L_law_54 : ∀ q ∈ t_L_law_54, decode code q.1 = .ok q.2 := wkd (p := 764) (by decide +kernel)
def t_L_law_55 : List (Nat × Instr × Nat) := [(774, .goto 968, 3), (777, .aload_n 1, 1), (778, .aload_n 0, 1), (779, .iload_n 3, 1), (780, .iconst 1, 1), (781, .iadd, 1), (782, .iaload, 1), (783, .invokevirtual 85, 3)]
theorem d_L_law_55 : ∀ q ∈ t_L_law_55, decode code q.1 = .ok q.2 := wkd (p := 774) (by decide +kernel)
def t_L_law_56 : List (Nat × Instr × Nat) := [(786, .pop, 1), (787, .aload_n 2, 1), (788, .aload_n 0, 1), (789, .iload_n 3, 1), (790, .iconst 1, 1), (791, .iadd, 1), (792, .iaload, 1), (793, .invokevirtual 88, 3)]
theorem d_L_law_56 : ∀ q ∈ t_L_law_56, decode code q.1 = .ok q.2 := wkd (p := 786) (by decide +kernel)
def t_L_law_57 : List (Nat × Instr × Nat) := [(796, .pop, 1), (797, .goto 945, 3), (800, .aload_n 1, 1), (801, .aload_n 0, 1), (802, .iload_n 3, 1), (803, .iconst 1, 1), (804, .iadd, 1), (805, .iaload, 1)]
theorem d_L_law_57 : ∀ q ∈ t_L_law_57, decode code q.1 = .ok q.2 := wkd (p := 796) (by decide +kernel)
def t_L_law_58 : List (Nat × Instr × Nat) := [(806, .aload_n 0, 1), (807, .iload_n 3, 1), (808, .iconst 2, 1), (809, .iadd, 1), (810, .iaload, 1), (811, .invokevirtual 89, 3), (814, .pop, 1), (815, .aload_n 2, 1)]
theorem d_L_law_58 : ∀ q ∈ t_L_law_58, decode code q.1 = .ok q.2 := wkd (p := 806) (by decide +kernel)
def t_L_law_59 : List (Nat × Instr × Nat) := [(816, .aload_n 0, 1), (817, .iload_n 3, 1), (818, .iconst 1, 1), (819, .iadd, 1), (820, .iaload, 1), (821, .aload_n 0, 1), (822, .iload_n 3, 1), (823, .iconst 2, 1)]
theorem d_L_law_59 : ∀ q ∈ t_L_law_59, decode code q.1 = .ok q.2 := wkd (p := 816) (by decide +kernel)
def t_L_law_60 : List (Nat × Instr × Nat) := [(824, .iadd, 1), (825, .iaload, 1), (826, .invokevirtual 92, 3), (829, .pop, 1), (830, .goto 912, 3), (833, .aload_n 1, 1), (834, .aload_n 0, 1), (835, .iload_n 3, 1)]
theorem d_L_law_60 : ∀ q ∈ t_L_law_60, decode code q.1 = .ok q.2 := wkd (p := 824) (by decide +kernel)
def t_L_law_61 : List (Nat × Instr × Nat) := [(836, .iconst 1, 1), (837, .iadd, 1), (838, .iaload, 1), (839, .aload_n 0, 1), (840, .iload_n 3, 1), (841, .iconst 2, 1), (842, .iadd, 1), (843, .iaload, 1)]
theorem d_L_law_61 : ∀ q ∈ t_L_law_61, decode code q.1 = .ok q.2 := wkd (p := 836) (by decide +kernel)
def t_L_law_62 : List (Nat × Instr × Nat) := [(844, .invokevirtual 93, 3), (847, .pop, 1), (848, .aload_n 2, 1), (849, .aload_n 0, 1), (850, .iload_n 3, 1), (851, .iconst 1, 1), (852, .iadd, 1), (853, .iaload, 1)]
theorem d_L_law_62 : ∀ q ∈ t_L_law_62, decode code q.1 = .ok q.2 := wkd (p := 844) (by decide +kernel)
def t_L_law_63 : List (Nat × Instr × Nat) := [(854, .aload_n 0, 1), (855, .iload_n 3, 1), (856, .iconst 2, 1), (857, .iadd, 1), (858, .iaload, 1), (859, .invokevirtual 96, 3), (862, .pop, 1), (863, .goto 879, 3)]
theorem d_L_law_63 : ∀ q ∈ t_L_law_63, decode code q.1 = .ok q.2 := wkd (p := 854) (by decide +kernel)
def t_L_law_64 : List (Nat × Instr × Nat) := [(866, .aload_n 1, 1), (867, .invokevirtual 97, 3), (870, .pop, 1), (871, .aload_n 2, 1), (872, .invokevirtual 101, 3), (875, .pop, 1), (876, .goto 866, 3), (879, .aload_n 1, 1)]
theorem d_L_law_64 : ∀ q ∈ t_L_law_64, decode code q.1 = .ok q.2 := wkd (p := 866) (by decide +kernel)
def t_L_law_65 : List (Nat × Instr × Nat) := [(880, .aload_n 0, 1), (881, .iload_n 3, 1), (882, .iconst 1, 1), (883, .iadd, 1), (884, .iaload, 1), (885, .invokevirtual 102, 3), (888, .pop, 1), (889, .aload_n 2, 1)]
theorem d_L_law_65 : ∀ q ∈ t_L_law_65, decode code q.1 = .ok q.2 := wkd (p := 880) (by decide +kernel)
def t_L_law_66 : List (Nat × Instr × Nat) := [(890, .aload_n 0, 1), (891, .iload_n 3, 1), (892, .iconst 1, 1), (893, .iadd, 1), (894, .iaload, 1), (895, .invokevirtual 105, 3), (898, .pop, 1), (899, .goto 843, 3)]
theorem d_L_law_66 : ∀ q ∈ t_L_law_66, decode code q.1 = .ok q.2 := wkd (p := 890) (by decide +kernel)
def t_L_law_67 : List (Nat × Instr × Nat) := [(902, .aload_n 1, 1), (903, .aload_n 0, 1), (904, .iload_n 3, 1), (905, .iconst 1, 1), (906, .iadd, 1), (907, .iaload, 1), (908, .invokevirtual 106, 3), (911, .pop, 1)]
theorem d_L_law_67 : ∀ q ∈ t_L_law_67, decode code q.1 = .ok q.2 := wkd (p := 902) (by decide +kernel)
def t_L_law_68 : List (Nat × Instr × Nat) := [(912, .aload_n 2, 1), (913, .aload_n 0, 1), (914, .iload_n 3, 1), (915, .iconst 1, 1), (916, .iadd, 1), (917, .iaload, 1), (918, .invokevirtual 109, 3), (921, .pop, 1)]
theorem d_L_law_68 : ∀ q ∈ t_L_law_68, decode code q.1 = .ok q.2 := wkd (p := 912) (by decide +kernel)
def t_L_law_69 : List (Nat × Instr × Nat) := [(922, .goto 820, 3), (925, .aload_n 1, 1), (926, .aload_n 0, 1), (927, .iload_n 3, 1), (928, .iconst 1, 1), (929, .iadd, 1), (930, .iaload, 1), (931, .aload_n 0, 1)]
theorem d_L_law_69 : ∀ q ∈ t_L_law_69, decode code q.1 = .ok q.2 := wkd (p := 922) (by decide +kernel)
def t_L_law_70 : List (Nat × Instr × Nat) := [(932, .iload_n 3, 1), (933, .iconst 2, 1), (934, .iadd, 1), (935, .iaload, 1), (936, .invokevirtual 110, 3), (939, .pop, 1), (940, .aload_n 2, 1), (941, .aload_n 0, 1)]
theorem d_L_law_70 : ∀ q ∈ t_L_law_70, decode code q.1 = .ok q.2 := wkd (p := 932) (by decide +kernel)
def t_L_law_71 : List (Nat × Instr × Nat) := [(942, .iload_n 3, 1), (943, .iconst 1, 1), (944, .iadd, 1), (945, .iaload, 1), (946, .aload_n 0, 1), (947, .iload_n 3, 1), (948, .iconst 2, 1), (949, .iadd, 1)]
theorem d_L_law_71 : ∀ q ∈ t_L_law_71, decode code q.1 = .ok q.2 := wkd (p := 942) (by decide +kernel)
def t_L_law_72 : List (Nat × Instr × Nat) := [(950, .iaload, 1), (951, .invokevirtual 113, 3), (954, .pop, 1), (955, .goto 787, 3), (958, .aload_n 1, 1), (959, .aload_n 0, 1), (960, .iload_n 3, 1), (961, .iconst 1, 1)]
theorem d_L_law_72 : ∀ q ∈ t_L_law_72, decode code q.1 = .ok q.2 := wkd (p := 950) (by decide +kernel)
def t_L_law_73 : List (Nat × Instr × Nat) := [(962, .iadd, 1), (963, .iaload, 1), (964, .aload_n 0, 1), (965, .iload_n 3, 1), (966, .iconst 2, 1), (967, .iadd, 1), (968, .iaload, 1), (969, .invokevirtual 114, 3)]
theorem d_L_law_73 : ∀ q ∈ t_L_law_73, decode code q.1 = .ok q.2 := wkd (p := 962) (by decide +kernel)
def t_L_law_74 : List (Nat × Instr × Nat) := [(972, .pop, 1), (973, .aload_n 2, 1), (974, .aload_n 0, 1), (975, .iload_n 3, 1), (976, .iconst 1, 1), (977, .iadd, 1), (978, .iaload, 1), (979, .aload_n 0, 1)]
theorem d_L_law_74 : ∀ q ∈ t_L_law_74, decode code q.1 = .ok q.2 := wkd (p := 972) (by decide +kernel)
def t_L_law_75 : List (Nat × Instr × Nat) := [(980, .iload_n 3, 1), (981, .iconst 2, 1), (982, .iadd, 1), (983, .iaload, 1), (984, .invokevirtual 117, 3), (987, .pop, 1), (988, .goto 754, 3), (991, .aload_n 1, 1)]
theorem d_L_law_75 : ∀ q ∈ t_L_law_75, decode code q.1 = .ok q.2 := wkd (p := 980) (by decide +kernel)
def t_L_law_76 : List (Nat × Instr × Nat) := [(992, .aload_n 0, 1), (993, .iload_n 3, 1), (994, .iconst 1, 1), (995, .iadd, 1), (996, .iaload, 1), (997, .aload_n 0, 1), (998, .iload_n 3, 1), (999, .iconst 2, 1)]
theorem d_L_law_76 : ∀ q ∈ t_L_law_76, decode code q.1 = .ok q.2 := wkd (p := 992) (by decide +kernel)
def t_L_law_77 : List (Nat × Instr × Nat) := [(1000, .iadd, 1), (1001, .iaload, 1), (1002, .aload_n 0, 1), (1003, .iload_n 3, 1), (1004, .iconst 3, 1), (1005, .iadd, 1), (1006, .iaload, 1), (1007, .invokevirtual 118, 3)]
theorem d_L_law_77 : ∀ q ∈ t_L_law_77, decode code q.1 = .ok q.2 := wkd (p := 1000) (by decide +kernel)
def t_L_law_78 : List (Nat × Instr × Nat) := [(1010, .pop, 1), (1011, .aload_n 2, 1), (1012, .aload_n 0, 1), (1013, .iload_n 3, 1), (1014, .iconst 1, 1), (1015, .iadd, 1), (1016, .iaload, 1), (1017, .aload_n 0, 1)]
theorem d_L_law_78 : ∀ q ∈ t_L_law_78, decode code q.1 = .ok q.2 := wkd (p := 1010) (by decide +kernel)
def t_L_law_79 : List (Nat × Instr × Nat) := [(1018, .iload_n 3, 1), (1019, .iconst 2, 1), (1020, .iadd, 1), (1021, .iaload, 1), (1022, .aload_n 0, 1), (1023, .iload_n 3, 1), (1024, .iconst 3, 1), (1025, .iadd, 1)]
theorem d_L_law_79 : ∀ q ∈ t_L_law_79, decode code q.1 = .ok q.2 := wkd (p := 1018) (by decide +kernel)
def t_L_law_80 : List (Nat × Instr × Nat) := [(1026, .iaload, 1), (1027, .invokevirtual 121, 3), (1030, .pop, 1), (1031, .goto 711, 3), (1034, .aload_n 1, 1), (1035, .aload_n 0, 1), (1036, .iload_n 3, 1), (1037, .iconst 1, 1)]
theorem d_L_law_80 : ∀ q ∈ t_L_law_80, decode code q.1 = .ok q.2 := wkd (p := 1026) (by decide +kernel)
def t_L_law_81 : List (Nat × Instr × Nat) := [(1038, .iadd, 1), (1039, .iaload, 1), (1040, .aload_n 0, 1), (1041, .iload_n 3, 1), (1042, .iconst 2, 1), (1043, .iadd, 1), (1044, .iaload, 1), (1045, .aload_n 0, 1)]
theorem d_L_law_81 : ∀ q ∈ t_L_law_81, decode code q.1 = .ok q.2 := wkd (p := 1038) (by decide +kernel)
def t_L_law_82 : List (Nat × Instr × Nat) := [(1046, .iload_n 3, 1), (1047, .iconst 3, 1), (1048, .iadd, 1), (1049, .iaload, 1), (1050, .invokevirtual 122, 3), (1053, .pop, 1), (1054, .aload_n 2, 1), (1055, .aload_n 0, 1)]
theorem d_L_law_82 : ∀ q ∈ t_L_law_82, decode code q.1 = .ok q.2 := wkd (p := 1046) (by decide +kernel)
def t_L_law_83 : List (Nat × Instr × Nat) := [(1056, .iload_n 3, 1), (1057, .iconst 1, 1), (1058, .iadd, 1), (1059, .iaload, 1), (1060, .aload_n 0, 1), (1061, .iload_n 3, 1), (1062, .iconst 2, 1), (1063, .iadd, 1)]
theorem d_L_law_83 : ∀ q ∈ t_L_law_83, decode code q.1 = .ok q.2 := wkd (p := 1056) (by decide +kernel)
def t_L_law_84 : List (Nat × Instr × Nat) := [(1064, .iaload, 1), (1065, .aload_n 0, 1), (1066, .iload_n 3, 1), (1067, .iconst 3, 1), (1068, .iadd, 1), (1069, .iaload, 1), (1070, .invokevirtual 125, 3), (1073, .pop, 1)]
theorem d_L_law_84 : ∀ q ∈ t_L_law_84, decode code q.1 = .ok q.2 := wkd (p := 1064) (by decide +kernel)
def t_L_law_85 : List (Nat × Instr × Nat) := [(1074, .goto 668, 3), (1077, .aload_n 1, 1), (1078, .aload_n 0, 1), (1079, .iload_n 3, 1), (1080, .iconst 1, 1), (1081, .iadd, 1), (1082, .iaload, 1), (1083, .aload_n 0, 1)]
theorem d_L_law_85 : ∀ q ∈ t_L_law_85, decode code q.1 = .ok q.2 := wkd (p := 1074) (by decide +kernel)
def t_L_law_86 : List (Nat × Instr × Nat) := [(1084, .iload_n 3, 1), (1085, .iconst 2, 1), (1086, .iadd, 1), (1087, .iaload, 1), (1088, .invokevirtual 126, 3), (1091, .pop, 1), (1092, .aload_n 2, 1), (1093, .aload_n 0, 1)]
theorem d_L_law_86 : ∀ q ∈ t_L_law_86, decode code q.1 = .ok q.2 := wkd (p := 1084) (by decide +kernel)
def t_L_law_87 : List (Nat × Instr × Nat) := [(1094, .iload_n 3, 1), (1095, .iconst 1, 1), (1096, .iadd, 1), (1097, .iaload, 1), (1098, .aload_n 0, 1), (1099, .iload_n 3, 1), (1100, .iconst 2, 1), (1101, .iadd, 1)]
theorem d_L_law_87 : ∀ q ∈ t_L_law_87, decode code q.1 = .ok q.2 := wkd (p := 1094) (by decide +kernel)
def t_L_law_88 : List (Nat × Instr × Nat) := [(1102, .iaload, 1), (1103, .invokevirtual 129, 3), (1106, .pop, 1), (1107, .goto 635, 3), (1110, .aload_n 1, 1), (1111, .aload_n 0, 1), (1112, .iload_n 3, 1), (1113, .iconst 1, 1)]
theorem d_L_law_88 : ∀ q ∈ t_L_law_88, decode code q.1 = .ok q.2 := wkd (p := 1102) (by decide +kernel)
def t_L_law_89 : List (Nat × Instr × Nat) := [(1114, .iadd, 1), (1115, .iaload, 1), (1116, .aload_n 0, 1), (1117, .iload_n 3, 1), (1118, .iconst 2, 1), (1119, .iadd, 1), (1120, .iaload, 1), (1121, .invokevirtual 130, 3)]
theorem d_L_law_89 : ∀ q ∈ t_L_law_89, decode code q.1 = .ok q.2 := wkd (p := 1114) (by decide +kernel)
def t_L_law_90 : List (Nat × Instr × Nat) := [(1124, .pop, 1), (1125, .aload_n 2, 1), (1126, .aload_n 0, 1), (1127, .iload_n 3, 1), (1128, .iconst 1, 1), (1129, .iadd, 1), (1130, .iaload, 1), (1131, .aload_n 0, 1)]
theorem d_L_law_90 : ∀ q ∈ t_L_law_90, decode code q.1 = .ok q.2 := wkd (p := 1124) (by decide +kernel)
def t_L_law_91 : List (Nat × Instr × Nat) := [(1132, .iload_n 3, 1), (1133, .iconst 2, 1), (1134, .iadd, 1), (1135, .iaload, 1), (1136, .invokevirtual 133, 3), (1139, .pop, 1), (1140, .goto 602, 3), (1143, .aload_n 1, 1)]
theorem d_L_law_91 : ∀ q ∈ t_L_law_91, decode code q.1 = .ok q.2 := wkd (p := 1132) (by decide +kernel)
def t_L_law_92 : List (Nat × Instr × Nat) := [(1144, .aload_n 0, 1), (1145, .iload_n 3, 1), (1146, .iconst 1, 1), (1147, .iadd, 1), (1148, .iaload, 1), (1149, .aload_n 0, 1), (1150, .iload_n 3, 1), (1151, .iconst 2, 1)]
theorem d_L_law_92 : ∀ q ∈ t_L_law_92, decode code q.1 = .ok q.2 := wkd (p := 1144) (by decide +kernel)
def t_L_law_93 : List (Nat × Instr × Nat) := [(1152, .iadd, 1), (1153, .iaload, 1), (1154, .aload_n 0, 1), (1155, .iload_n 3, 1), (1156, .iconst 3, 1), (1157, .iadd, 1), (1158, .iaload, 1), (1159, .invokevirtual 134, 3)]
theorem d_L_law_93 : ∀ q ∈ t_L_law_93, decode code q.1 = .ok q.2 := wkd (p := 1152) (by decide +kernel)
def t_L_law_94 : List (Nat × Instr × Nat) := [(1162, .pop, 1), (1163, .aload_n 2, 1), (1164, .aload_n 0, 1), (1165, .iload_n 3, 1), (1166, .iconst 1, 1), (1167, .iadd, 1), (1168, .iaload, 1), (1169, .aload_n 0, 1)]
theorem d_L_law_94 : ∀ q ∈ t_L_law_94, decode code q.1 = .ok q.2 := wkd (p := 1162) (by decide +kernel)
def t_L_law_95 : List (Nat × Instr × Nat) := [(1170, .iload_n 3, 1), (1171, .iconst 2, 1), (1172, .iadd, 1), (1173, .iaload, 1), (1174, .aload_n 0, 1), (1175, .iload_n 3, 1), (1176, .iconst 3, 1), (1177, .iadd, 1)]
theorem d_L_law_95 : ∀ q ∈ t_L_law_95, decode code q.1 = .ok q.2 := wkd (p := 1170) (by decide +kernel)
def t_L_law_96 : List (Nat × Instr × Nat) := [(1178, .iaload, 1), (1179, .invokevirtual 137, 3), (1182, .pop, 1), (1183, .goto 559, 3), (1186, .aload_n 1, 1), (1187, .aload_n 0, 1), (1188, .iload_n 3, 1), (1189, .iconst 1, 1)]
theorem d_L_law_96 : ∀ q ∈ t_L_law_96, decode code q.1 = .ok q.2 := wkd (p := 1178) (by decide +kernel)
def t_L_law_97 : List (Nat × Instr × Nat) := [(1190, .iadd, 1), (1191, .iaload, 1), (1192, .aload_n 0, 1), (1193, .iload_n 3, 1), (1194, .iconst 2, 1), (1195, .iadd, 1), (1196, .iaload, 1), (1197, .aload_n 0, 1)]
theorem d_L_law_97 : ∀ q ∈ t_L_law_97, decode code q.1 = .ok q.2 := wkd (p := 1190) (by decide +kernel)
def t_L_law_98 : List (Nat × Instr × Nat) := [(1198, .iload_n 3, 1), (1199, .iconst 3, 1), (1200, .iadd, 1), (1201, .iaload, 1), (1202, .aload_n 0, 1), (1203, .iload_n 3, 1), (1204, .iconst 4, 1), (1205, .iadd, 1)]
theorem d_L_law_98 : ∀ q ∈ t_L_law_98, decode code q.1 = .ok q.2 := wkd (p := 1198) (by decide +kernel)
def t_L_law_99 : List (Nat × Instr × Nat) := [(1206, .iaload, 1), (1207, .invokevirtual 138, 3), (1210, .pop, 1), (1211, .aload_n 2, 1), (1212, .aload_n 0, 1), (1213, .iload_n 3, 1), (1214, .iconst 1, 1), (1215, .iadd, 1)]
theorem d_L_law_99 : ∀ q ∈ t_L_law_99, decode code q.1 = .ok q.2 := wkd (p := 1206) (by decide +kernel)
def t_L_law_100 : List (Nat × Instr × Nat) := [(1216, .iaload, 1), (1217, .aload_n 0, 1), (1218, .iload_n 3, 1), (1219, .iconst 2, 1), (1220, .iadd, 1), (1221, .iaload, 1), (1222, .aload_n 0, 1), (1223, .iload_n 3, 1)]
theorem d_L_law_100 : ∀ q ∈ t_L_law_100, decode code q.1 = .ok q.2 := wkd (p := 1216) (by decide +kernel)
def t_L_law_101 : List (Nat × Instr × Nat) := [(1224, .iconst 3, 1), (1225, .iadd, 1), (1226, .iaload, 1), (1227, .aload_n 0, 1), (1228, .iload_n 3, 1), (1229, .iconst 4, 1), (1230, .iadd, 1), (1231, .iaload, 1)]
theorem d_L_law_101 : ∀ q ∈ t_L_law_101, decode code q.1 = .ok q.2 := wkd (p := 1224) (by decide +kernel)
def t_L_law_102 : List (Nat × Instr × Nat) := [(1232, .invokevirtual 142, 3), (1235, .pop, 1), (1236, .goto 506, 3), (1239, .aload_n 1, 1), (1240, .aload_n 0, 1), (1241, .iload_n 3, 1), (1242, .iconst 1, 1), (1243, .iadd, 1)]
theorem d_L_law_102 : ∀ q ∈ t_L_law_102, decode code q.1 = .ok q.2 := wkd (p := 1232) (by decide +kernel)
def t_L_law_103 : List (Nat × Instr × Nat) := [(1244, .iaload, 1), (1245, .aload_n 0, 1), (1246, .iload_n 3, 1), (1247, .iconst 2, 1), (1248, .iadd, 1), (1249, .iaload, 1), (1250, .aload_n 0, 1), (1251, .iload_n 3, 1)]
theorem d_L_law_103 : ∀ q ∈ t_L_law_103, decode code q.1 = .ok q.2 := wkd (p := 1244) (by decide +kernel)
def t_L_law_104 : List (Nat × Instr × Nat) := [(1252, .iconst 3, 1), (1253, .iadd, 1), (1254, .iaload, 1), (1255, .invokevirtual 143, 3), (1258, .pop, 1), (1259, .aload_n 2, 1), (1260, .aload_n 0, 1), (1261, .iload_n 3, 1)]
theorem d_L_law_104 : ∀ q ∈ t_L_law_104, decode code q.1 = .ok q.2 := wkd (p := 1252) (by decide +kernel)
def t_L_law_105 : List (Nat × Instr × Nat) := [(1262, .iconst 1, 1), (1263, .iadd, 1), (1264, .iaload, 1), (1265, .aload_n 0, 1), (1266, .iload_n 3, 1), (1267, .iconst 2, 1), (1268, .iadd, 1), (1269, .iaload, 1)]
theorem d_L_law_105 : ∀ q ∈ t_L_law_105, decode code q.1 = .ok q.2 := wkd (p := 1262) (by decide +kernel)
def t_L_law_106 : List (Nat × Instr × Nat) := [(1270, .aload_n 0, 1), (1271, .iload_n 3, 1), (1272, .iconst 3, 1), (1273, .iadd, 1), (1274, .iaload, 1), (1275, .invokevirtual 146, 3), (1278, .pop, 1), (1279, .goto 463, 3)]
theorem d_L_law_106 : ∀ q ∈ t_L_law_106, decode code q.1 = .ok q.2 := wkd (p := 1270) (by decide +kernel)
def t_L_law_107 : List (Nat × Instr × Nat) := [(1282, .aload_n 1, 1), (1283, .aload_n 0, 1), (1284, .iload_n 3, 1), (1285, .iconst 1, 1), (1286, .iadd, 1), (1287, .iaload, 1), (1288, .aload_n 0, 1), (1289, .iload_n 3, 1)]
theorem d_L_law_107 : ∀ q ∈ t_L_law_107, decode code q.1 = .ok q.2 := wkd (p := 1282) (by decide +kernel)
def t_L_law_108 : List (Nat × Instr × Nat) := [(1290, .iconst 2, 1), (1291, .iadd, 1), (1292, .iaload, 1), (1293, .invokevirtual 147, 3), (1296, .pop, 1), (1297, .aload_n 2, 1), (1298, .aload_n 0, 1), (1299, .iload_n 3, 1)]
theorem d_L_law_108 : ∀ q ∈ t_L_law_108, decode code q.1 = .ok q.2 := wkd (p := 1290) (by decide +kernel)
def t_L_law_109 : List (Nat × Instr × Nat) := [(1300, .iconst 1, 1), (1301, .iadd, 1), (1302, .iaload, 1), (1303, .aload_n 0, 1), (1304, .iload_n 3, 1), (1305, .iconst 2, 1), (1306, .iadd, 1), (1307, .iaload, 1)]
theorem d_L_law_109 : ∀ q ∈ t_L_law_109, decode code q.1 = .ok q.2 := wkd (p := 1300) (by decide +kernel)
def t_L_law_110 : List (Nat × Instr × Nat) := [(1308, .invokevirtual 150, 3), (1311, .pop, 1), (1312, .goto 430, 3), (1315, .aload_n 1, 1), (1316, .invokevirtual 151, 3), (1319, .pop, 1), (1320, .aload_n 2, 1), (1321, .invokevirtual 154, 3)]
theorem d_L_law_110 : ∀ q ∈ t_L_law_110, decode code q.1 = .ok q.2 := wkd (p := 1308) (by decide +kernel)
def t_L_law_111 : List (Nat × Instr × Nat) := [(1324, .pop, 1), (1325, .goto 417, 3), (1328, .aload_n 1, 1), (1329, .invokevirtual 155, 3), (1332, .pop, 1), (1333, .aload_n 2, 1), (1334, .invokevirtual 158, 3), (1337, .pop, 1)]
theorem d_L_law_111 : ∀ q ∈ t_L_law_111, decode code q.1 = .ok q.2 := wkd (p := 1324) (by decide +kernel)
def t_L_law_112 : List (Nat × Instr × Nat) := [(1338, .goto 404, 3), (1341, .aload_n 1, 1), (1342, .aload_n 0, 1), (1343, .iload_n 3, 1), (1344, .iconst 1, 1), (1345, .iadd, 1), (1346, .iaload, 1), (1347, .aload_n 0, 1)]
theorem d_L_law_112 : ∀ q ∈ t_L_law_112, decode code q.1 = .ok q.2 := wkd (p := 1338) (by decide +kernel)
def t_L_law_113 : List (Nat × Instr × Nat) := [(1348, .iload_n 3, 1), (1349, .iconst 2, 1), (1350, .iadd, 1), (1351, .iaload, 1), (1352, .aload_n 0, 1), (1353, .iload_n 3, 1), (1354, .iconst 3, 1), (1355, .iadd, 1)]
theorem d_L_law_113 : ∀ q ∈ t_L_law_113, decode code q.1 = .ok q.2 := wkd (p := 1348) (by decide +kernel)
def t_L_law_114 : List (Nat × Instr × Nat) := [(1356, .iaload, 1), (1357, .invokevirtual 159, 3), (1360, .pop, 1), (1361, .aload_n 2, 1), (1362, .aload_n 0, 1), (1363, .iload_n 3, 1), (1364, .iconst 1, 1), (1365, .iadd, 1)]
theorem d_L_law_114 : ∀ q ∈ t_L_law_114, decode code q.1 = .ok q.2 := wkd (p := 1356) (by decide +kernel)
def t_L_law_115 : List (Nat × Instr × Nat) := [(1366, .iaload, 1), (1367, .aload_n 0, 1), (1368, .iload_n 3, 1), (1369, .iconst 2, 1), (1370, .iadd, 1), (1371, .iaload, 1), (1372, .aload_n 0, 1), (1373, .iload_n 3, 1)]
theorem d_L_law_115 : ∀ q ∈ t_L_law_115, decode code q.1 = .ok q.2 := wkd (p := 1366) (by decide +kernel)
def t_L_law_116 : List (Nat × Instr × Nat) := [(1374, .iconst 3, 1), (1375, .iadd, 1), (1376, .iaload, 1), (1377, .invokevirtual 162, 3), (1380, .pop, 1), (1381, .goto 361, 3), (1384, .aload_n 1, 1), (1385, .aload_n 0, 1)]
theorem d_L_law_116 : ∀ q ∈ t_L_law_116, decode code q.1 = .ok q.2 := wkd (p := 1374) (by decide +kernel)
def t_L_law_117 : List (Nat × Instr × Nat) := [(1386, .iload_n 3, 1), (1387, .iconst 1, 1), (1388, .iadd, 1), (1389, .iaload, 1), (1390, .invokevirtual 163, 3), (1393, .pop, 1), (1394, .aload_n 2, 1), (1395, .aload_n 0, 1)]
theorem d_L_law_117 : ∀ q ∈ t_L_law_117, decode code q.1 = .ok q.2 := wkd (p := 1386) (by decide +kernel)
def t_L_law_118 : List (Nat × Instr × Nat) := [(1396, .iload_n 3, 1), (1397, .iconst 1, 1), (1398, .iadd, 1), (1399, .iaload, 1), (1400, .invokevirtual 166, 3), (1403, .pop, 1), (1404, .goto 338, 3), (1407, .aload_n 1, 1)]
theorem d_L_law_118 : ∀ q ∈ t_L_law_118, decode code q.1 = .ok q.2 := wkd (p := 1396) (by decide +kernel)
def t_L_law_119 : List (Nat × Instr × Nat) := [(1408, .aload_n 0, 1), (1409, .iload_n 3, 1), (1410, .iconst 1, 1), (1411, .iadd, 1), (1412, .iaload, 1), (1413, .invokevirtual 167, 3), (1416, .pop, 1), (1417, .aload_n 2, 1)]
theorem d_L_law_119 : ∀ q ∈ t_L_law_119, decode code q.1 = .ok q.2 := wkd (p := 1408) (by decide +kernel)
def t_L_law_120 : List (Nat × Instr × Nat) := [(1418, .aload_n 0, 1), (1419, .iload_n 3, 1), (1420, .iconst 1, 1), (1421, .iadd, 1), (1422, .iaload, 1), (1423, .invokevirtual 170, 3), (1426, .pop, 1), (1427, .goto 315, 3)]
theorem d_L_law_120 : ∀ q ∈ t_L_law_120, decode code q.1 = .ok q.2 := wkd (p := 1418) (by decide +kernel)
def t_L_law_121 : List (Nat × Instr × Nat) := [(1430, .aload_n 1, 1), (1431, .aload_n 0, 1), (1432, .iload_n 3, 1), (1433, .iconst 1, 1), (1434, .iadd, 1), (1435, .iaload, 1), (1436, .invokevirtual 171, 3), (1439, .pop, 1)]
theorem d_L_law_121 : ∀ q ∈ t_L_law_121, decode code q.1 = .ok q.2 := wkd (p := 1430) (by decide +kernel)
def t_L_law_122 : List (Nat × Instr × Nat) := [(1440, .aload_n 2, 1), (1441, .aload_n 0, 1), (1442, .iload_n 3, 1), (1443, .iconst 1, 1), (1444, .iadd, 1), (1445, .iaload, 1), (1446, .invokevirtual 174, 3), (1449, .pop, 1)]
theorem d_L_law_122 : ∀ q ∈ t_L_law_122, decode code q.1 = .ok q.2 := wkd (p := 1440) (by decide +kernel)
def t_L_law_123 : List (Nat × Instr × Nat) := [(1450, .goto 292, 3), (1453, .aload_n 1, 1), (1454, .aload_n 0, 1), (1455, .iload_n 3, 1), (1456, .iconst 1, 1), (1457, .iadd, 1), (1458, .iaload, 1), (1459, .aload_n 0, 1)]
theorem d_L_law_123 : ∀ q ∈ t_L_law_123, decode code q.1 = .ok q.2 := wkd (p := 1450) (by decide +kernel)
def t_L_law_124 : List (Nat × Instr × Nat) := [(1460, .iload_n 3, 1), (1461, .iconst 2, 1), (1462, .iadd, 1), (1463, .iaload, 1), (1464, .aload_n 0, 1), (1465, .iload_n 3, 1), (1466, .iconst 3, 1), (1467, .iadd, 1)]
theorem d_L_law_124 : ∀ q ∈ t_L_law_124, decode code q.1 = .ok q.2 := wkd (p := 1460) (by decide +kernel)
def t_L_law_125 : List (Nat × Instr × Nat) := [(1468, .iaload, 1), (1469, .invokevirtual 175, 3), (1472, .pop, 1), (1473, .aload_n 2, 1), (1474, .aload_n 0, 1), (1475, .iload_n 3, 1), (1476, .iconst 1, 1), (1477, .iadd, 1)]
theorem d_L_law_125 : ∀ q ∈ t_L_law_125, decode code q.1 = .ok q.2 := wkd (p := 1468) (by decide +kernel)
def t_L_law_126 : List (Nat × Instr × Nat) := [(1478, .iaload, 1), (1479, .aload_n 0, 1), (1480, .iload_n 3, 1), (1481, .iconst 2, 1), (1482, .iadd, 1), (1483, .iaload, 1), (1484, .aload_n 0, 1), (1485, .iload_n 3, 1)]
theorem d_L_law_126 : ∀ q ∈ t_L_law_126, decode code q.1 = .ok q.2 := wkd (p := 1478) (by decide +kernel)
def t_L_law_127 : List (Nat × Instr × Nat) := [(1486, .iconst 3, 1), (1487, .iadd, 1), (1488, .iaload, 1), (1489, .invokevirtual 178, 3), (1492, .pop, 1), (1493, .goto 249, 3), (1496, .aload_n 1, 1), (1497, .aload_n 0, 1)]
theorem d_L_law_127 : ∀ q ∈ t_L_law_127, decode code q.1 = .ok q.2 := wkd (p := 1486) (by decide +kernel)
def t_L_law_128 : List (Nat × Instr × Nat) := [(1498, .iload_n 3, 1), (1499, .iconst 1, 1), (1500, .iadd, 1), (1501, .iaload, 1), (1502, .aload_n 0, 1), (1503, .iload_n 3, 1), (1504, .iconst 2, 1), (1505, .iadd, 1)]
theorem d_L_law_128 : ∀ q ∈ t_L_law_128, decode code q.1 = .ok q.2 := wkd (p := 1498) (by decide +kernel)
def t_L_law_129 : List (Nat × Instr × Nat) := [(1506, .iaload, 1), (1507, .invokevirtual 179, 3), (1510, .pop, 1), (1511, .aload_n 2, 1), (1512, .aload_n 0, 1), (1513, .iload_n 3, 1), (1514, .iconst 1, 1), (1515, .iadd, 1)]
theorem d_L_law_129 : ∀ q ∈ t_L_law_129, decode code q.1 = .ok q.2 := wkd (p := 1506) (by decide +kernel)
def t_L_law_130 : List (Nat × Instr × Nat) := [(1516, .iaload, 1), (1517, .aload_n 0, 1), (1518, .iload_n 3, 1), (1519, .iconst 2, 1), (1520, .iadd, 1), (1521, .iaload, 1), (1522, .invokevirtual 182, 3), (1525, .pop, 1)]
theorem d_L_law_130 : ∀ q ∈ t_L_law_130, decode code q.1 = .ok q.2 := wkd (p := 1516) (by decide +kernel)
def t_L_law_131 : List (Nat × Instr × Nat) := [(1526, .goto 216, 3), (1529, .aload_n 1, 1), (1530, .aload_n 0, 1), (1531, .iload_n 3, 1), (1532, .iconst 1, 1), (1533, .iadd, 1), (1534, .iaload, 1), (1535, .aload_n 0, 1)]
theorem d_L_law_131 : ∀ q ∈ t_L_law_131, decode code q.1 = .ok q.2 := wkd (p := 1526) (by decide +kernel)
def t_L_law_132 : List (Nat × Instr × Nat) := [(1536, .iload_n 3, 1), (1537, .iconst 2, 1), (1538, .iadd, 1), (1539, .iaload, 1), (1540, .invokevirtual 183, 3), (1543, .pop, 1), (1544, .aload_n 2, 1), (1545, .aload_n 0, 1)]
theorem d_L_law_132 : ∀ q ∈ t_L_law_132, decode code q.1 = .ok q.2 := wkd (p := 1536) (by decide +kernel)
def t_L_law_133 : List (Nat × Instr × Nat) := [(1546, .iload_n 3, 1), (1547, .iconst 1, 1), (1548, .iadd, 1), (1549, .iaload, 1), (1550, .aload_n 0, 1), (1551, .iload_n 3, 1), (1552, .iconst 2, 1), (1553, .iadd, 1)]
theorem d_L_law_133 : ∀ q ∈ t_L_law_133, decode code q.1 = .ok q.2 := wkd (p := 1546) (by decide +kernel)
def t_L_law_134 : List (Nat × Instr × Nat) := [(1554, .iaload, 1), (1555, .invokevirtual 186, 3), (1558, .pop, 1), (1559, .goto 183, 3), (1562, .aload_n 1, 1), (1563, .aload_n 0, 1), (1564, .iload_n 3, 1), (1565, .iconst 1, 1)]
theorem d_L_law_134 : ∀ q ∈ t_L_law_134, decode code q.1 = .ok q.2 := wkd (p := 1554) (by decide +kernel)
def t_L_law_135 : List (Nat × Instr × Nat) := [(1566, .iadd, 1), (1567, .iaload, 1), (1568, .invokevirtual 187, 3), (1571, .pop, 1), (1572, .aload_n 2, 1), (1573, .aload_n 0, 1), (1574, .iload_n 3, 1), (1575, .iconst 1, 1)]
theorem d_L_law_135 : ∀ q ∈ t_L_law_135, decode code q.1 = .ok q.2 := wkd (p := 1566) (by decide +kernel)
def t_L_law_136 : List (Nat × Instr × Nat) := [(1576, .iadd, 1), (1577, .iaload, 1), (1578, .invokevirtual 190, 3), (1581, .pop, 1), (1582, .goto 160, 3), (1585, .aload_n 1, 1), (1586, .aload_n 0, 1), (1587, .iload_n 3, 1)]
theorem d_L_law_136 : ∀ q ∈ t_L_law_136, decode code q.1 = .ok q.2 := wkd (p := 1576) (by decide +kernel)
def t_L_law_137 : List (Nat × Instr × Nat) := [(1588, .iconst 1, 1), (1589, .iadd, 1), (1590, .iaload, 1), (1591, .invokevirtual 191, 3), (1594, .pop, 1), (1595, .aload_n 2, 1), (1596, .aload_n 0, 1), (1597, .iload_n 3, 1)]
theorem d_L_law_137 : ∀ q ∈ t_L_law_137, decode code q.1 = .ok q.2 := wkd (p := 1588) (by decide +kernel)
def t_L_law_138 : List (Nat × Instr × Nat) := [(1598, .iconst 1, 1), (1599, .iadd, 1), (1600, .iaload, 1), (1601, .invokevirtual 194, 3), (1604, .pop, 1), (1605, .goto 137, 3), (1608, .aload_n 1, 1), (1609, .aload_n 0, 1)]
theorem d_L_law_138 : ∀ q ∈ t_L_law_138, decode code q.1 = .ok q.2 := wkd (p := 1598) (by decide +kernel)
def t_L_law_139 : List (Nat × Instr × Nat) := [(1610, .iload_n 3, 1), (1611, .iconst 1, 1), (1612, .iadd, 1), (1613, .iaload, 1), (1614, .invokevirtual 195, 3), (1617, .pop, 1), (1618, .aload_n 2, 1), (1619, .aload_n 0, 1)]
theorem d_L_law_139 : ∀ q ∈ t_L_law_139, decode code q.1 = .ok q.2 := wkd (p := 1610) (by decide +kernel)
def t_L_law_140 : List (Nat × Instr × Nat) := [(1620, .iload_n 3, 1), (1621, .iconst 1, 1), (1622, .iadd, 1), (1623, .iaload, 1), (1624, .invokevirtual 198, 3), (1627, .pop, 1), (1628, .goto 114, 3), (1631, .aload_n 1, 1)]
theorem d_L_law_140 : ∀ q ∈ t_L_law_140, decode code q.1 = .ok q.2 := wkd (p := 1620) (by decide +kernel)
def t_L_law_141 : List (Nat × Instr × Nat) := [(1632, .invokevirtual 199, 3), (1635, .pop, 1), (1636, .aload_n 2, 1), (1637, .invokevirtual 202, 3), (1640, .pop, 1), (1641, .goto 101, 3), (1644, .aload_n 1, 1), (1645, .invokevirtual 203, 3)]
theorem d_L_law_141 : ∀ q ∈ t_L_law_141, decode code q.1 = .ok q.2 := wkd (p := 1632) (by decide +kernel)
def t_L_law_142 : List (Nat × Instr × Nat) := [(1648, .pop2, 1), (1649, .aload_n 2, 1), (1650, .invokevirtual 207, 3), (1653, .pop2, 1), (1654, .goto 88, 3), (1657, .aload_n 1, 1), (1658, .invokevirtual 208, 3), (1661, .pop2, 1)]
theorem d_L_law_142 : ∀ q ∈ t_L_law_142, decode code q.1 = .ok q.2 := wkd (p := 1648) (by decide +kernel)
def t_L_law_143 : List (Nat × Instr × Nat) := [(1662, .aload_n 2, 1), (1663, .invokevirtual 211, 3), (1666, .pop2, 1), (1667, .goto 75, 3), (1670, .aload_n 1, 1), (1671, .aload_n 0, 1), (1672, .iload_n 3, 1), (1673, .iconst 1, 1)]
theorem d_L_law_143 : ∀ q ∈ t_L_law_143, decode code q.1 = .ok q.2 := wkd (p := 1662) (by decide +kernel)
def t_L_law_144 : List (Nat × Instr × Nat) := [(1674, .iadd, 1), (1675, .iaload, 1), (1676, .invokevirtual 212, 3), (1679, .pop, 1), (1680, .aload_n 2, 1), (1681, .aload_n 0, 1), (1682, .iload_n 3, 1), (1683, .iconst 1, 1)]
theorem d_L_law_144 : ∀ q ∈ t_L_law_144, decode code q.1 = .ok q.2 := wkd (p := 1674) (by decide +kernel)
def t_L_law_145 : List (Nat × Instr × Nat) := [(1684, .iadd, 1), (1685, .iaload, 1), (1686, .invokevirtual 215, 3), (1689, .pop, 1), (1690, .goto 52, 3), (1693, .aload_n 1, 1), (1694, .invokevirtual 216, 3), (1697, .pop, 1)]
theorem d_L_law_145 : ∀ q ∈ t_L_law_145, decode code q.1 = .ok q.2 := wkd (p := 1684) (by decide +kernel)
def t_L_law_146 : List (Nat × Instr × Nat) := [(1698, .aload_n 2, 1), (1699, .invokevirtual 219, 3), (1702, .pop, 1), (1703, .goto 39, 3), (1706, .aload_n 1, 1), (1707, .aload_n 0, 1), (1708, .iload_n 3, 1), (1709, .iconst 1, 1)]
theorem d_L_law_146 : ∀ q ∈ t_L_law_146, decode code q.1 = .ok q.2 := wkd (p := 1698) (by decide +kernel)
def t_L_law_147 : List (Nat × Instr × Nat) := [(1710, .iadd, 1), (1711, .iaload, 1), (1712, .invokevirtual 220, 3), (1715, .pop, 1), (1716, .aload_n 2, 1), (1717, .aload_n 0, 1), (1718, .iload_n 3, 1), (1719, .iconst 1, 1)]
theorem d_L_law_147 : ∀ q ∈ t_L_law_147, decode code q.1 = .ok q.2 := wkd (p := 1710) (by decide +kernel)
def t_L_law_148 : List (Nat × Instr × Nat) := [(1720, .iadd, 1), (1721, .iaload, 1), (1722, .invokevirtual 223, 3), (1725, .pop, 1), (1726, .goto 16, 3), (1729, .aload_n 1, 1), (1730, .invokevirtual 224, 3), (1733, .pop2, 1)]
theorem d_L_law_148 : ∀ q ∈ t_L_law_148, decode code q.1 = .ok q.2 := wkd (p := 1720) (by decide +kernel)
def t_L_law_149 : List (Nat × Instr × Nat) := [(1734, .aload_n 2, 1), (1735, .invokevirtual 227, 3), (1738, .pop2, 1), (1739, .goto 3, 3), (1742, .iinc 3 6, 3), (1745, .goto (-1727), 3), (1748, .iconst 1, 1), (1749, .ireturn, 1)]
theorem d_L_law_149 : ∀ q ∈ t_L_law_149, decode code q.1 = .ok q.2 := wkd (p := 1734) (by decide +kernel)
end
