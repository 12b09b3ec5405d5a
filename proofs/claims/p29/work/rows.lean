section
/-! a walk over the bytes of a method: what stands at each place, shown by one table of opcodes -/
def At (c : ByteArray) (p : Nat) (l : List UInt8) : Prop := c.data.toList.drop p = l
theorem at_tl {c : ByteArray} {p : Nat} {b : UInt8} {l : List UInt8} (h : At c p (b :: l)) : At c (p + 1) l := by
  have e := congrArg List.tail h
  rw [List.tail_drop] at e
  exact e
theorem at_lt {c : ByteArray} {p : Nat} {b : UInt8} {l : List UInt8} (h : At c p (b :: l)) : ∃ hp : p < c.size, c[p] = b := by
  have h0 : p < c.data.toList.length := by
    rcases Nat.lt_or_ge p c.data.toList.length with h1 | h1
    · exact h1
    · exact absurd (h.symm.trans (List.drop_eq_nil_of_le h1)) (List.cons_ne_nil _ _)
  have e : c.data.toList[p] :: c.data.toList.drop (p + 1) = b :: l := (List.drop_eq_getElem_cons h0).symm.trans h
  exact ⟨h0, (List.cons.inj e).1⟩
theorem at_dr {c : ByteArray} {p : Nat} {l : List UInt8} (n : Nat) (h : At c p l) : At c (p + n) (l.drop n) := by
  unfold At at *
  subst h
  rw [List.drop_drop]
theorem u1_at {c : ByteArray} {p : Nat} {b : UInt8} {l : List UInt8} (h : At c p (b :: l)) : (Jvm.ClassFile.Reader.u1 : Jvm.ClassFile.Decoder Nat) c p = .ok (b.toNat, p + 1) := by
  obtain ⟨hp, e⟩ := at_lt h
  show (dite (p < c.size) (fun h => (do set (p + 1); pure c[p].toNat : Jvm.ClassFile.Decoder Nat)) (fun _ => (throw (Jvm.ClassFile.HasTruncated.truncated p) : Jvm.ClassFile.Decoder Nat))) c p = _
  rw [dif_pos hp]
  show Except.ok (c[p].toNat, p + 1) = _
  rw [e]
theorem bind_at {α β : Type} {m : Jvm.ClassFile.Decoder α} {f : α → Jvm.ClassFile.Decoder β} {c : ByteArray} {p q : Nat} {a : α} (h : m c p = .ok (a, q)) : (m >>= f) c p = f a c q := by
  have e : (m >>= f) c p = (m c p).bind (fun x => f x.1 c x.2) := rfl
  rw [e, h]
  rfl
theorem map_at {α β : Type} {m : Jvm.ClassFile.Decoder α} {f : α → β} {c : ByteArray} {p q : Nat} {a : α} (h : m c p = .ok (a, q)) : (f <$> m) c p = .ok (f a, q) := by
  have e : (f <$> m) c p = (m c p).bind (fun x => .ok (f x.1, x.2)) := rfl
  rw [e, h]
  rfl
theorem u2_at {c : ByteArray} {p : Nat} {a b : UInt8} {l : List UInt8} (h : At c p (a :: b :: l)) : (Jvm.ClassFile.Reader.u2 : Jvm.ClassFile.Decoder Nat) c p = .ok (a.toNat * 256 + b.toNat, p + 2) := by
  unfold Jvm.ClassFile.Reader.u2
  rw [bind_at (u1_at h), bind_at (u1_at (at_tl h))]
  rfl
theorem s1_at {c : ByteArray} {p : Nat} {b : UInt8} {l : List UInt8} (h : At c p (b :: l)) : (Jvm.ClassFile.Reader.s1 : Jvm.ClassFile.Decoder Int) c p = .ok (Jvm.ClassFile.Reader.signed 8 b.toNat, p + 1) := map_at (u1_at h)
theorem s2_at {c : ByteArray} {p : Nat} {a b : UInt8} {l : List UInt8} (h : At c p (a :: b :: l)) : (Jvm.ClassFile.Reader.s2 : Jvm.ClassFile.Decoder Int) c p = .ok (Jvm.ClassFile.Reader.signed 16 (a.toNat * 256 + b.toNat), p + 2) := map_at (u2_at h)
theorem opx {F : Nat → Jvm.ClassFile.Decoder Instr} {c : ByteArray} {p k : Nat} {b : UInt8} {l : List UInt8} (e : Jvm.ClassFile.Decoder.instr p = Jvm.ClassFile.Reader.u1 >>= F) (h : At c p (b :: l)) (hb : b.toNat = k) : Jvm.ClassFile.Decoder.instr p c p = F k c (p + 1) := by
  rw [e, bind_at (u1_at h), hb]
abbrev OPx : Type := Nat × (List UInt8 → Option Instr)
def OKx (k : Nat) (e : OPx) : Prop := ∀ (c : ByteArray) (p : Nat) (b : UInt8) (l : List UInt8) (i : Instr), At c p (b :: l) → b.toNat = k → e.2 l = some i → Jvm.ClassFile.Decoder.instr p c p = .ok (i, p + e.1)
def zN : OPx := (0, fun _ => none)
def z0 (i : Instr) : OPx := (1, fun _ => some i)
def z1 (g : Nat → Instr) : OPx := (2, fun l => match l with | a :: _ => some (g a.toNat) | [] => none)
def z1s (g : Int → Instr) : OPx := (2, fun l => match l with | a :: _ => some (g (Jvm.ClassFile.Reader.signed 8 a.toNat)) | [] => none)
def z2 (g : Nat → Instr) : OPx := (3, fun l => match l with | a :: b :: _ => some (g (a.toNat * 256 + b.toNat)) | _ => none)
def z2s (g : Int → Instr) : OPx := (3, fun l => match l with | a :: b :: _ => some (g (Jvm.ClassFile.Reader.signed 16 (a.toNat * 256 + b.toNat))) | _ => none)
def z11 (g : Nat → Int → Instr) : OPx := (3, fun l => match l with | a :: b :: _ => some (g a.toNat (Jvm.ClassFile.Reader.signed 8 b.toNat)) | _ => none)
theorem wN (k : Nat) : OKx k zN := by
  intro c p b l j h hb he
  cases he
theorem w0 {k : Nat} {g : Instr} (H : ∀ (c : ByteArray) (p : Nat) (b : UInt8) (l : List UInt8), At c p (b :: l) → b.toNat = k → Jvm.ClassFile.Decoder.instr p c p = (pure g : Jvm.ClassFile.Decoder Instr) c (p + 1)) : OKx k (z0 g) := by
  intro c p b l j h hb he
  cases he
  exact H c p b l h hb
theorem w1 {k : Nat} {g : Nat → Instr} (H : ∀ (c : ByteArray) (p : Nat) (b : UInt8) (l : List UInt8), At c p (b :: l) → b.toNat = k → Jvm.ClassFile.Decoder.instr p c p = (Jvm.ClassFile.Reader.u1 >>= fun x => pure (g x) : Jvm.ClassFile.Decoder Instr) c (p + 1)) : OKx k (z1 g) := by
  intro c p b l j h hb he
  cases l with
  | nil => cases he
  | cons x r =>
    cases he
    exact (H c p b _ h hb).trans (bind_at (u1_at (at_tl h)))
theorem w1s {k : Nat} {g : Int → Instr} (H : ∀ (c : ByteArray) (p : Nat) (b : UInt8) (l : List UInt8), At c p (b :: l) → b.toNat = k → Jvm.ClassFile.Decoder.instr p c p = (Jvm.ClassFile.Reader.s1 >>= fun x => pure (g x) : Jvm.ClassFile.Decoder Instr) c (p + 1)) : OKx k (z1s g) := by
  intro c p b l j h hb he
  cases l with
  | nil => cases he
  | cons x r =>
    cases he
    exact (H c p b _ h hb).trans (bind_at (s1_at (at_tl h)))
theorem w2 {k : Nat} {g : Nat → Instr} (H : ∀ (c : ByteArray) (p : Nat) (b : UInt8) (l : List UInt8), At c p (b :: l) → b.toNat = k → Jvm.ClassFile.Decoder.instr p c p = (Jvm.ClassFile.Reader.u2 >>= fun x => pure (g x) : Jvm.ClassFile.Decoder Instr) c (p + 1)) : OKx k (z2 g) := by
  intro c p b l j h hb he
  cases l with
  | nil => cases he
  | cons x r =>
    cases r with
    | nil => cases he
    | cons y r =>
      cases he
      exact (H c p b _ h hb).trans (bind_at (u2_at (at_tl h)))
theorem w2s {k : Nat} {g : Int → Instr} (H : ∀ (c : ByteArray) (p : Nat) (b : UInt8) (l : List UInt8), At c p (b :: l) → b.toNat = k → Jvm.ClassFile.Decoder.instr p c p = (Jvm.ClassFile.Reader.s2 >>= fun x => pure (g x) : Jvm.ClassFile.Decoder Instr) c (p + 1)) : OKx k (z2s g) := by
  intro c p b l j h hb he
  cases l with
  | nil => cases he
  | cons x r =>
    cases r with
    | nil => cases he
    | cons y r =>
      cases he
      exact (H c p b _ h hb).trans (bind_at (s2_at (at_tl h)))
theorem w11 {k : Nat} {g : Nat → Int → Instr} (H : ∀ (c : ByteArray) (p : Nat) (b : UInt8) (l : List UInt8), At c p (b :: l) → b.toNat = k → Jvm.ClassFile.Decoder.instr p c p = (Jvm.ClassFile.Reader.u1 >>= fun x => Jvm.ClassFile.Reader.s1 >>= fun y => pure (g x y) : Jvm.ClassFile.Decoder Instr) c (p + 1)) : OKx k (z11 g) := by
  intro c p b l j h hb he
  cases l with
  | nil => cases he
  | cons x r =>
    cases r with
    | nil => cases he
    | cons y r =>
      cases he
      exact (H c p b _ h hb).trans ((bind_at (u1_at (at_tl h))).trans (bind_at (s1_at (at_tl (at_tl h)))))
theorem o_2 : OKx 2 (z0 (.iconst (-1))) := w0 fun c p b l h hb => by
  have e := opx rfl h hb
  exact e
theorem o_3 : OKx 3 (z0 (.iconst 0)) := w0 fun c p b l h hb => by
  have e := opx rfl h hb
  exact e
theorem o_4 : OKx 4 (z0 (.iconst 1)) := w0 fun c p b l h hb => by
  have e := opx rfl h hb
  exact e
theorem o_5 : OKx 5 (z0 (.iconst 2)) := w0 fun c p b l h hb => by
  have e := opx rfl h hb
  exact e
theorem o_6 : OKx 6 (z0 (.iconst 3)) := w0 fun c p b l h hb => by
  have e := opx rfl h hb
  exact e
theorem o_7 : OKx 7 (z0 (.iconst 4)) := w0 fun c p b l h hb => by
  have e := opx rfl h hb
  exact e
theorem o_8 : OKx 8 (z0 (.iconst 5)) := w0 fun c p b l h hb => by
  have e := opx rfl h hb
  exact e
theorem o_9 : OKx 9 (z0 (.lconst 0)) := w0 fun c p b l h hb => by
  have e := opx rfl h hb
  exact e
theorem o_10 : OKx 10 (z0 (.lconst 1)) := w0 fun c p b l h hb => by
  have e := opx rfl h hb
  exact e
theorem o_16 : OKx 16 (z1s .bipush) := w1s fun c p b l h hb => by
  have e := opx rfl h hb
  exact e
theorem o_17 : OKx 17 (z2s .sipush) := w2s fun c p b l h hb => by
  have e := opx rfl h hb
  exact e
theorem o_18 : OKx 18 (z1 .ldc) := w1 fun c p b l h hb => by
  have e := opx rfl h hb
  exact e
theorem o_19 : OKx 19 (z2 .ldc_w) := w2 fun c p b l h hb => by
  have e := opx rfl h hb
  exact e
theorem o_20 : OKx 20 (z2 .ldc2_w) := w2 fun c p b l h hb => by
  have e := opx rfl h hb
  exact e
theorem o_21 : OKx 21 (z1 .iload) := w1 fun c p b l h hb => by
  have e := opx rfl h hb
  exact e
theorem o_22 : OKx 22 (z1 .lload) := w1 fun c p b l h hb => by
  have e := opx rfl h hb
  exact e
theorem o_25 : OKx 25 (z1 .aload) := w1 fun c p b l h hb => by
  have e := opx rfl h hb
  exact e
theorem o_26 : OKx 26 (z0 (.iload_n 0)) := w0 fun c p b l h hb => by
  have e := opx rfl h hb
  exact e
theorem o_27 : OKx 27 (z0 (.iload_n 1)) := w0 fun c p b l h hb => by
  have e := opx rfl h hb
  exact e
theorem o_28 : OKx 28 (z0 (.iload_n 2)) := w0 fun c p b l h hb => by
  have e := opx rfl h hb
  exact e
theorem o_29 : OKx 29 (z0 (.iload_n 3)) := w0 fun c p b l h hb => by
  have e := opx rfl h hb
  exact e
theorem o_30 : OKx 30 (z0 (.lload_n 0)) := w0 fun c p b l h hb => by
  have e := opx rfl h hb
  exact e
theorem o_31 : OKx 31 (z0 (.lload_n 1)) := w0 fun c p b l h hb => by
  have e := opx rfl h hb
  exact e
theorem o_32 : OKx 32 (z0 (.lload_n 2)) := w0 fun c p b l h hb => by
  have e := opx rfl h hb
  exact e
theorem o_33 : OKx 33 (z0 (.lload_n 3)) := w0 fun c p b l h hb => by
  have e := opx rfl h hb
  exact e
theorem o_42 : OKx 42 (z0 (.aload_n 0)) := w0 fun c p b l h hb => by
  have e := opx rfl h hb
  exact e
theorem o_43 : OKx 43 (z0 (.aload_n 1)) := w0 fun c p b l h hb => by
  have e := opx rfl h hb
  exact e
theorem o_44 : OKx 44 (z0 (.aload_n 2)) := w0 fun c p b l h hb => by
  have e := opx rfl h hb
  exact e
theorem o_45 : OKx 45 (z0 (.aload_n 3)) := w0 fun c p b l h hb => by
  have e := opx rfl h hb
  exact e
theorem o_46 : OKx 46 (z0 .iaload) := w0 fun c p b l h hb => by
  have e := opx rfl h hb
  exact e
theorem o_47 : OKx 47 (z0 .laload) := w0 fun c p b l h hb => by
  have e := opx rfl h hb
  exact e
theorem o_50 : OKx 50 (z0 .aaload) := w0 fun c p b l h hb => by
  have e := opx rfl h hb
  exact e
theorem o_54 : OKx 54 (z1 .istore) := w1 fun c p b l h hb => by
  have e := opx rfl h hb
  exact e
theorem o_55 : OKx 55 (z1 .lstore) := w1 fun c p b l h hb => by
  have e := opx rfl h hb
  exact e
theorem o_58 : OKx 58 (z1 .astore) := w1 fun c p b l h hb => by
  have e := opx rfl h hb
  exact e
theorem o_59 : OKx 59 (z0 (.istore_n 0)) := w0 fun c p b l h hb => by
  have e := opx rfl h hb
  exact e
theorem o_60 : OKx 60 (z0 (.istore_n 1)) := w0 fun c p b l h hb => by
  have e := opx rfl h hb
  exact e
theorem o_61 : OKx 61 (z0 (.istore_n 2)) := w0 fun c p b l h hb => by
  have e := opx rfl h hb
  exact e
theorem o_62 : OKx 62 (z0 (.istore_n 3)) := w0 fun c p b l h hb => by
  have e := opx rfl h hb
  exact e
theorem o_63 : OKx 63 (z0 (.lstore_n 0)) := w0 fun c p b l h hb => by
  have e := opx rfl h hb
  exact e
theorem o_64 : OKx 64 (z0 (.lstore_n 1)) := w0 fun c p b l h hb => by
  have e := opx rfl h hb
  exact e
theorem o_65 : OKx 65 (z0 (.lstore_n 2)) := w0 fun c p b l h hb => by
  have e := opx rfl h hb
  exact e
theorem o_66 : OKx 66 (z0 (.lstore_n 3)) := w0 fun c p b l h hb => by
  have e := opx rfl h hb
  exact e
theorem o_75 : OKx 75 (z0 (.astore_n 0)) := w0 fun c p b l h hb => by
  have e := opx rfl h hb
  exact e
theorem o_76 : OKx 76 (z0 (.astore_n 1)) := w0 fun c p b l h hb => by
  have e := opx rfl h hb
  exact e
theorem o_77 : OKx 77 (z0 (.astore_n 2)) := w0 fun c p b l h hb => by
  have e := opx rfl h hb
  exact e
theorem o_78 : OKx 78 (z0 (.astore_n 3)) := w0 fun c p b l h hb => by
  have e := opx rfl h hb
  exact e
theorem o_79 : OKx 79 (z0 .iastore) := w0 fun c p b l h hb => by
  have e := opx rfl h hb
  exact e
theorem o_80 : OKx 80 (z0 .lastore) := w0 fun c p b l h hb => by
  have e := opx rfl h hb
  exact e
theorem o_83 : OKx 83 (z0 .aastore) := w0 fun c p b l h hb => by
  have e := opx rfl h hb
  exact e
theorem o_87 : OKx 87 (z0 .pop) := w0 fun c p b l h hb => by
  have e := opx rfl h hb
  exact e
theorem o_88 : OKx 88 (z0 .pop2) := w0 fun c p b l h hb => by
  have e := opx rfl h hb
  exact e
theorem o_89 : OKx 89 (z0 .dup) := w0 fun c p b l h hb => by
  have e := opx rfl h hb
  exact e
theorem o_92 : OKx 92 (z0 .dup2) := w0 fun c p b l h hb => by
  have e := opx rfl h hb
  exact e
theorem o_96 : OKx 96 (z0 .iadd) := w0 fun c p b l h hb => by
  have e := opx rfl h hb
  exact e
theorem o_97 : OKx 97 (z0 .ladd) := w0 fun c p b l h hb => by
  have e := opx rfl h hb
  exact e
theorem o_100 : OKx 100 (z0 .isub) := w0 fun c p b l h hb => by
  have e := opx rfl h hb
  exact e
theorem o_101 : OKx 101 (z0 .lsub) := w0 fun c p b l h hb => by
  have e := opx rfl h hb
  exact e
theorem o_104 : OKx 104 (z0 .imul) := w0 fun c p b l h hb => by
  have e := opx rfl h hb
  exact e
theorem o_105 : OKx 105 (z0 .lmul) := w0 fun c p b l h hb => by
  have e := opx rfl h hb
  exact e
theorem o_108 : OKx 108 (z0 .idiv) := w0 fun c p b l h hb => by
  have e := opx rfl h hb
  exact e
theorem o_109 : OKx 109 (z0 .ldiv) := w0 fun c p b l h hb => by
  have e := opx rfl h hb
  exact e
theorem o_112 : OKx 112 (z0 .irem) := w0 fun c p b l h hb => by
  have e := opx rfl h hb
  exact e
theorem o_113 : OKx 113 (z0 .lrem) := w0 fun c p b l h hb => by
  have e := opx rfl h hb
  exact e
theorem o_116 : OKx 116 (z0 .ineg) := w0 fun c p b l h hb => by
  have e := opx rfl h hb
  exact e
theorem o_120 : OKx 120 (z0 .ishl) := w0 fun c p b l h hb => by
  have e := opx rfl h hb
  exact e
theorem o_122 : OKx 122 (z0 .ishr) := w0 fun c p b l h hb => by
  have e := opx rfl h hb
  exact e
theorem o_124 : OKx 124 (z0 .iushr) := w0 fun c p b l h hb => by
  have e := opx rfl h hb
  exact e
theorem o_126 : OKx 126 (z0 .iand) := w0 fun c p b l h hb => by
  have e := opx rfl h hb
  exact e
theorem o_128 : OKx 128 (z0 .ior) := w0 fun c p b l h hb => by
  have e := opx rfl h hb
  exact e
theorem o_130 : OKx 130 (z0 .ixor) := w0 fun c p b l h hb => by
  have e := opx rfl h hb
  exact e
theorem o_132 : OKx 132 (z11 .iinc) := w11 fun c p b l h hb => by
  have e := opx rfl h hb
  exact e
theorem o_133 : OKx 133 (z0 .i2l) := w0 fun c p b l h hb => by
  have e := opx rfl h hb
  exact e
theorem o_136 : OKx 136 (z0 .l2i) := w0 fun c p b l h hb => by
  have e := opx rfl h hb
  exact e
theorem o_148 : OKx 148 (z0 .lcmp) := w0 fun c p b l h hb => by
  have e := opx rfl h hb
  exact e
theorem o_153 : OKx 153 (z2s (.ifCond .eq)) := w2s fun c p b l h hb => by
  have e := opx rfl h hb
  exact e
theorem o_154 : OKx 154 (z2s (.ifCond .ne)) := w2s fun c p b l h hb => by
  have e := opx rfl h hb
  exact e
theorem o_155 : OKx 155 (z2s (.ifCond .lt)) := w2s fun c p b l h hb => by
  have e := opx rfl h hb
  exact e
theorem o_156 : OKx 156 (z2s (.ifCond .ge)) := w2s fun c p b l h hb => by
  have e := opx rfl h hb
  exact e
theorem o_157 : OKx 157 (z2s (.ifCond .gt)) := w2s fun c p b l h hb => by
  have e := opx rfl h hb
  exact e
theorem o_158 : OKx 158 (z2s (.ifCond .le)) := w2s fun c p b l h hb => by
  have e := opx rfl h hb
  exact e
theorem o_159 : OKx 159 (z2s (.if_icmp .eq)) := w2s fun c p b l h hb => by
  have e := opx rfl h hb
  exact e
theorem o_160 : OKx 160 (z2s (.if_icmp .ne)) := w2s fun c p b l h hb => by
  have e := opx rfl h hb
  exact e
theorem o_161 : OKx 161 (z2s (.if_icmp .lt)) := w2s fun c p b l h hb => by
  have e := opx rfl h hb
  exact e
theorem o_162 : OKx 162 (z2s (.if_icmp .ge)) := w2s fun c p b l h hb => by
  have e := opx rfl h hb
  exact e
theorem o_163 : OKx 163 (z2s (.if_icmp .gt)) := w2s fun c p b l h hb => by
  have e := opx rfl h hb
  exact e
theorem o_164 : OKx 164 (z2s (.if_icmp .le)) := w2s fun c p b l h hb => by
  have e := opx rfl h hb
  exact e
theorem o_167 : OKx 167 (z2s .goto) := w2s fun c p b l h hb => by
  have e := opx rfl h hb
  exact e
theorem o_172 : OKx 172 (z0 .ireturn) := w0 fun c p b l h hb => by
  have e := opx rfl h hb
  exact e
theorem o_173 : OKx 173 (z0 .lreturn) := w0 fun c p b l h hb => by
  have e := opx rfl h hb
  exact e
theorem o_176 : OKx 176 (z0 .areturn) := w0 fun c p b l h hb => by
  have e := opx rfl h hb
  exact e
theorem o_177 : OKx 177 (z0 .return_) := w0 fun c p b l h hb => by
  have e := opx rfl h hb
  exact e
theorem o_178 : OKx 178 (z2 .getstatic) := w2 fun c p b l h hb => by
  have e := opx rfl h hb
  exact e
theorem o_180 : OKx 180 (z2 .getfield) := w2 fun c p b l h hb => by
  have e := opx rfl h hb
  exact e
theorem o_181 : OKx 181 (z2 .putfield) := w2 fun c p b l h hb => by
  have e := opx rfl h hb
  exact e
theorem o_182 : OKx 182 (z2 .invokevirtual) := w2 fun c p b l h hb => by
  have e := opx rfl h hb
  exact e
theorem o_183 : OKx 183 (z2 .invokespecial) := w2 fun c p b l h hb => by
  have e := opx rfl h hb
  exact e
theorem o_184 : OKx 184 (z2 .invokestatic) := w2 fun c p b l h hb => by
  have e := opx rfl h hb
  exact e
theorem o_187 : OKx 187 (z2 .new) := w2 fun c p b l h hb => by
  have e := opx rfl h hb
  exact e
theorem o_189 : OKx 189 (z2 .anewarray) := w2 fun c p b l h hb => by
  have e := opx rfl h hb
  exact e
theorem o_190 : OKx 190 (z0 .arraylength) := w0 fun c p b l h hb => by
  have e := opx rfl h hb
  exact e
def TX : List (List OPx) := [[zN, zN, z0 (.iconst (-1)), z0 (.iconst 0), z0 (.iconst 1), z0 (.iconst 2), z0 (.iconst 3), z0 (.iconst 4), z0 (.iconst 5), z0 (.lconst 0), z0 (.lconst 1), zN, zN, zN, zN, zN], [z1s .bipush, z2s .sipush, z1 .ldc, z2 .ldc_w, z2 .ldc2_w, z1 .iload, z1 .lload, zN, zN, z1 .aload, z0 (.iload_n 0), z0 (.iload_n 1), z0 (.iload_n 2), z0 (.iload_n 3), z0 (.lload_n 0), z0 (.lload_n 1)], [z0 (.lload_n 2), z0 (.lload_n 3), zN, zN, zN, zN, zN, zN, zN, zN, z0 (.aload_n 0), z0 (.aload_n 1), z0 (.aload_n 2), z0 (.aload_n 3), z0 .iaload, z0 .laload], [zN, zN, z0 .aaload, zN, zN, zN, z1 .istore, z1 .lstore, zN, zN, z1 .astore, z0 (.istore_n 0), z0 (.istore_n 1), z0 (.istore_n 2), z0 (.istore_n 3), z0 (.lstore_n 0)], [z0 (.lstore_n 1), z0 (.lstore_n 2), z0 (.lstore_n 3), zN, zN, zN, zN, zN, zN, zN, zN, z0 (.astore_n 0), z0 (.astore_n 1), z0 (.astore_n 2), z0 (.astore_n 3), z0 .iastore], [z0 .lastore, zN, zN, z0 .aastore, zN, zN, zN, z0 .pop, z0 .pop2, z0 .dup, zN, zN, z0 .dup2, zN, zN, zN], [z0 .iadd, z0 .ladd, zN, zN, z0 .isub, z0 .lsub, zN, zN, z0 .imul, z0 .lmul, zN, zN, z0 .idiv, z0 .ldiv, zN, zN], [z0 .irem, z0 .lrem, zN, zN, z0 .ineg, zN, zN, zN, z0 .ishl, zN, z0 .ishr, zN, z0 .iushr, zN, z0 .iand, zN], [z0 .ior, zN, z0 .ixor, zN, z11 .iinc, z0 .i2l, zN, zN, z0 .l2i, zN, zN, zN, zN, zN, zN, zN], [zN, zN, zN, zN, z0 .lcmp, zN, zN, zN, zN, z2s (.ifCond .eq), z2s (.ifCond .ne), z2s (.ifCond .lt), z2s (.ifCond .ge), z2s (.ifCond .gt), z2s (.ifCond .le), z2s (.if_icmp .eq)], [z2s (.if_icmp .ne), z2s (.if_icmp .lt), z2s (.if_icmp .ge), z2s (.if_icmp .gt), z2s (.if_icmp .le), zN, zN, z2s .goto, zN, zN, zN, zN, z0 .ireturn, z0 .lreturn, zN, zN], [z0 .areturn, z0 .return_, z2 .getstatic, zN, z2 .getfield, z2 .putfield, z2 .invokevirtual, z2 .invokespecial, z2 .invokestatic, zN, zN, z2 .new, zN, z2 .anewarray, z0 .arraylength, zN]]
def AllX : Nat → List OPx → Prop
  | _, [] => True
  | k, e :: t => OKx k e ∧ AllX (k + 1) t
theorem allx {k j : Nat} {t : List OPx} {e : OPx} (h : AllX k t) (he : t[j]? = some e) : OKx (k + j) e := by
  induction t generalizing k j with
  | nil => simp at he
  | cons a t ih =>
    cases j with
    | zero => simp at he; subst he; exact h.1
    | succ j =>
      rw [List.getElem?_cons_succ] at he
      have r := ih (k := k + 1) (j := j) h.2 he
      rw [show k + 1 + j = k + (j + 1) by omega] at r
      exact r
def AllY : Nat → List (List OPx) → Prop
  | _, [] => True
  | k, e :: t => AllX k e ∧ AllY (k + 16) t
theorem ally {k j : Nat} {t : List (List OPx)} {e : List OPx} (h : AllY k t) (he : t[j]? = some e) : AllX (k + 16 * j) e := by
  induction t generalizing k j with
  | nil => simp at he
  | cons a t ih =>
    cases j with
    | zero => simp at he; subst he; exact h.1
    | succ j =>
      rw [List.getElem?_cons_succ] at he
      have r := ih (k := k + 16) (j := j) h.2 he
      rw [show k + 16 + 16 * j = k + 16 * (j + 1) by omega] at r
      exact r
theorem tx_ok : AllY 0 TX := ⟨⟨wN 0, wN 1, o_2, o_3, o_4, o_5, o_6, o_7, o_8, o_9, o_10, wN 11, wN 12, wN 13, wN 14, wN 15, trivial⟩, ⟨o_16, o_17, o_18, o_19, o_20, o_21, o_22, wN 23, wN 24, o_25, o_26, o_27, o_28, o_29, o_30, o_31, trivial⟩, ⟨o_32, o_33, wN 34, wN 35, wN 36, wN 37, wN 38, wN 39, wN 40, wN 41, o_42, o_43, o_44, o_45, o_46, o_47, trivial⟩, ⟨wN 48, wN 49, o_50, wN 51, wN 52, wN 53, o_54, o_55, wN 56, wN 57, o_58, o_59, o_60, o_61, o_62, o_63, trivial⟩, ⟨o_64, o_65, o_66, wN 67, wN 68, wN 69, wN 70, wN 71, wN 72, wN 73, wN 74, o_75, o_76, o_77, o_78, o_79, trivial⟩, ⟨o_80, wN 81, wN 82, o_83, wN 84, wN 85, wN 86, o_87, o_88, o_89, wN 90, wN 91, o_92, wN 93, wN 94, wN 95, trivial⟩, ⟨o_96, o_97, wN 98, wN 99, o_100, o_101, wN 102, wN 103, o_104, o_105, wN 106, wN 107, o_108, o_109, wN 110, wN 111, trivial⟩, ⟨o_112, o_113, wN 114, wN 115, o_116, wN 117, wN 118, wN 119, o_120, wN 121, o_122, wN 123, o_124, wN 125, o_126, wN 127, trivial⟩, ⟨o_128, wN 129, o_130, wN 131, o_132, o_133, wN 134, wN 135, o_136, wN 137, wN 138, wN 139, wN 140, wN 141, wN 142, wN 143, trivial⟩, ⟨wN 144, wN 145, wN 146, wN 147, o_148, wN 149, wN 150, wN 151, wN 152, o_153, o_154, o_155, o_156, o_157, o_158, o_159, trivial⟩, ⟨o_160, o_161, o_162, o_163, o_164, wN 165, wN 166, o_167, wN 168, wN 169, wN 170, wN 171, o_172, o_173, wN 174, wN 175, trivial⟩, ⟨o_176, o_177, o_178, wN 179, o_180, o_181, o_182, o_183, o_184, wN 185, wN 186, o_187, wN 188, o_189, o_190, wN 191, trivial⟩, trivial⟩
def cN (c : Jvm.ClassFile.Cond) : Nat := match c with | .eq => 0 | .ne => 1 | .lt => 2 | .ge => 3 | .gt => 4 | .le => 5
def cO (k : Nat) : Jvm.ClassFile.Cond := match k with | 0 => .eq | 1 => .ne | 2 => .lt | 3 => .ge | 4 => .gt | _ => .le
theorem cON (c : Jvm.ClassFile.Cond) : cO (cN c) = c := by cases c <;> rfl
def f4 (k : Nat) : Fin 4 := ⟨k % 4, Nat.mod_lt _ (by decide)⟩
def f2 (k : Nat) : Fin 2 := ⟨k % 2, Nat.mod_lt _ (by decide)⟩
theorem f4v (n : Fin 4) : f4 n.val = n := Fin.ext (Nat.mod_eq_of_lt n.isLt)
theorem f2v (n : Fin 2) : f2 n.val = n := Fin.ext (Nat.mod_eq_of_lt n.isLt)
def en (i : Instr) : Option (Nat × Nat × Int) := match i with
  | .iaload => some (46, 0, 0)
  | .laload => some (47, 0, 0)
  | .aaload => some (50, 0, 0)
  | .iastore => some (79, 0, 0)
  | .lastore => some (80, 0, 0)
  | .aastore => some (83, 0, 0)
  | .pop => some (87, 0, 0)
  | .pop2 => some (88, 0, 0)
  | .dup => some (89, 0, 0)
  | .dup2 => some (92, 0, 0)
  | .iadd => some (96, 0, 0)
  | .ladd => some (97, 0, 0)
  | .isub => some (100, 0, 0)
  | .lsub => some (101, 0, 0)
  | .imul => some (104, 0, 0)
  | .lmul => some (105, 0, 0)
  | .idiv => some (108, 0, 0)
  | .ldiv => some (109, 0, 0)
  | .irem => some (112, 0, 0)
  | .lrem => some (113, 0, 0)
  | .ineg => some (116, 0, 0)
  | .ishl => some (120, 0, 0)
  | .ishr => some (122, 0, 0)
  | .iushr => some (124, 0, 0)
  | .iand => some (126, 0, 0)
  | .ior => some (128, 0, 0)
  | .ixor => some (130, 0, 0)
  | .i2l => some (133, 0, 0)
  | .l2i => some (136, 0, 0)
  | .lcmp => some (148, 0, 0)
  | .ireturn => some (172, 0, 0)
  | .lreturn => some (173, 0, 0)
  | .areturn => some (176, 0, 0)
  | .return_ => some (177, 0, 0)
  | .arraylength => some (190, 0, 0)
  | .ldc n => some (18, n, 0)
  | .ldc_w n => some (19, n, 0)
  | .ldc2_w n => some (20, n, 0)
  | .iload n => some (21, n, 0)
  | .lload n => some (22, n, 0)
  | .aload n => some (25, n, 0)
  | .istore n => some (54, n, 0)
  | .lstore n => some (55, n, 0)
  | .astore n => some (58, n, 0)
  | .getstatic n => some (178, n, 0)
  | .getfield n => some (180, n, 0)
  | .putfield n => some (181, n, 0)
  | .invokevirtual n => some (182, n, 0)
  | .invokespecial n => some (183, n, 0)
  | .invokestatic n => some (184, n, 0)
  | .new n => some (187, n, 0)
  | .anewarray n => some (189, n, 0)
  | .bipush j => some (16, 0, j)
  | .sipush j => some (17, 0, j)
  | .goto j => some (167, 0, j)
  | .iload_n j => some (26, j.val, 0)
  | .lload_n j => some (30, j.val, 0)
  | .aload_n j => some (42, j.val, 0)
  | .istore_n j => some (59, j.val, 0)
  | .lstore_n j => some (63, j.val, 0)
  | .astore_n j => some (75, j.val, 0)
  | .lconst j => some (9, j.val, 0)
  | .iconst j => some (2, 0, j)
  | .iinc n j => some (132, n, j)
  | .ifCond c j => some (153, cN c, j)
  | .if_icmp c j => some (159, cN c, j)
  | _ => none
def de (k : Nat × Nat × Int) : Option Instr := match k.1 with
  | 46 => some .iaload
  | 47 => some .laload
  | 50 => some .aaload
  | 79 => some .iastore
  | 80 => some .lastore
  | 83 => some .aastore
  | 87 => some .pop
  | 88 => some .pop2
  | 89 => some .dup
  | 92 => some .dup2
  | 96 => some .iadd
  | 97 => some .ladd
  | 100 => some .isub
  | 101 => some .lsub
  | 104 => some .imul
  | 105 => some .lmul
  | 108 => some .idiv
  | 109 => some .ldiv
  | 112 => some .irem
  | 113 => some .lrem
  | 116 => some .ineg
  | 120 => some .ishl
  | 122 => some .ishr
  | 124 => some .iushr
  | 126 => some .iand
  | 128 => some .ior
  | 130 => some .ixor
  | 133 => some .i2l
  | 136 => some .l2i
  | 148 => some .lcmp
  | 172 => some .ireturn
  | 173 => some .lreturn
  | 176 => some .areturn
  | 177 => some .return_
  | 190 => some .arraylength
  | 18 => some (.ldc k.2.1)
  | 19 => some (.ldc_w k.2.1)
  | 20 => some (.ldc2_w k.2.1)
  | 21 => some (.iload k.2.1)
  | 22 => some (.lload k.2.1)
  | 25 => some (.aload k.2.1)
  | 54 => some (.istore k.2.1)
  | 55 => some (.lstore k.2.1)
  | 58 => some (.astore k.2.1)
  | 178 => some (.getstatic k.2.1)
  | 180 => some (.getfield k.2.1)
  | 181 => some (.putfield k.2.1)
  | 182 => some (.invokevirtual k.2.1)
  | 183 => some (.invokespecial k.2.1)
  | 184 => some (.invokestatic k.2.1)
  | 187 => some (.new k.2.1)
  | 189 => some (.anewarray k.2.1)
  | 16 => some (.bipush k.2.2)
  | 17 => some (.sipush k.2.2)
  | 167 => some (.goto k.2.2)
  | 26 => some (.iload_n (f4 k.2.1))
  | 30 => some (.lload_n (f4 k.2.1))
  | 42 => some (.aload_n (f4 k.2.1))
  | 59 => some (.istore_n (f4 k.2.1))
  | 63 => some (.lstore_n (f4 k.2.1))
  | 75 => some (.astore_n (f4 k.2.1))
  | 9 => some (.lconst (f2 k.2.1))
  | 2 => some (.iconst k.2.2)
  | 132 => some (.iinc k.2.1 k.2.2)
  | 153 => some (.ifCond (cO k.2.1) k.2.2)
  | 159 => some (.if_icmp (cO k.2.1) k.2.2)
  | _ => none
theorem de_en (i : Instr) (k : Nat × Nat × Int) (h : en i = some k) : de k = some i := by
  cases i <;> first
    | (cases h; rfl)
    | (cases h; done)
    | (cases h; exact congrArg (fun z => some (Instr.iload_n z)) (f4v _))
    | (cases h; exact congrArg (fun z => some (Instr.lload_n z)) (f4v _))
    | (cases h; exact congrArg (fun z => some (Instr.aload_n z)) (f4v _))
    | (cases h; exact congrArg (fun z => some (Instr.istore_n z)) (f4v _))
    | (cases h; exact congrArg (fun z => some (Instr.lstore_n z)) (f4v _))
    | (cases h; exact congrArg (fun z => some (Instr.astore_n z)) (f4v _))
    | (cases h; exact congrArg (fun z => some (Instr.lconst z)) (f2v _))
    | (cases h; exact congrArg (fun z => some (Instr.ifCond z _)) (cON _))
    | (cases h; exact congrArg (fun z => some (Instr.if_icmp z _)) (cON _))
def eqi (i j : Instr) : Bool := match en i with
  | none => false
  | some a => match en j with
    | none => false
    | some b => Nat.beq a.1 b.1 && (Nat.beq a.2.1 b.2.1 && decide (a.2.2 = b.2.2))
theorem eqi_ok {i j : Instr} (h : eqi i j = true) : i = j := by
  unfold eqi at h
  cases ha : en i with
  | none => rw [ha] at h; cases h
  | some a =>
    rw [ha] at h
    cases hb : en j with
    | none => rw [hb] at h; cases h
    | some b =>
      rw [hb] at h
      have h' : (Nat.beq a.1 b.1 && (Nat.beq a.2.1 b.2.1 && decide (a.2.2 = b.2.2))) = true := h
      rw [Bool.and_eq_true, Bool.and_eq_true] at h'
      have e : a = b := Prod.ext (Nat.eq_of_beq_eq_true h'.1) (Prod.ext (Nat.eq_of_beq_eq_true h'.2.1) (of_decide_eq_true h'.2.2))
      have x := de_en i a ha
      rw [e, de_en j b hb] at x
      exact (Option.some.inj x).symm
def txq (k : Nat) : Option OPx := (TX[k / 16]?).bind (fun l => l[k % 16]?)
theorem txq_ok {k : Nat} {e : OPx} (h : txq k = some e) : OKx k e := by
  unfold txq at h
  cases he : TX[k / 16]? with
  | none => rw [he] at h; cases h
  | some l =>
    rw [he] at h
    have r := allx (ally tx_ok he) h
    rw [show 0 + 16 * (k / 16) + k % 16 = k by omega] at r
    exact r
def dx (b : UInt8) (r : List UInt8) : Option (Instr × Nat) := (txq b.toNat).bind (fun e => (e.2 r).map (fun i => (i, e.1)))
theorem dx_ok {c : ByteArray} {p : Nat} {b : UInt8} {r : List UInt8} {x : Instr × Nat} (ha : At c p (b :: r)) (hx : dx b r = some x) : decode c p = .ok x := by
  unfold dx at hx
  cases he : txq b.toNat with
  | none => rw [he] at hx; cases hx
  | some e =>
    rw [he] at hx
    cases hi : e.2 r with
    | none => simp [hi] at hx
    | some i =>
      have hx' : (i, e.1) = x := by simpa [hi] using hx
      subst hx'
      have h := txq_ok he c p b r i ha rfl hi
      have e0 : decode c p = (Jvm.ClassFile.Decoder.instr p c p).bind (fun x => .ok (x.1, x.2 - p)) := rfl
      rw [e0, h]
      show Except.ok (i, p + e.1 - p) = _
      rw [Nat.add_sub_cancel_left]
def w1q (c : ByteArray) (q : Nat × Instr × Nat) (p : Nat) (l : List UInt8) : Bool := match l with
  | [] => false
  | b :: r => match dx b r with
    | some x => eqi x.1 q.2.1 && Nat.beq x.2 q.2.2
    | none => decide (decode c p = .ok q.2)
theorem w1q_ok {c : ByteArray} {q : Nat × Instr × Nat} {p : Nat} {l : List UInt8} (ha : At c p l) (h : w1q c q p l = true) : decode c p = .ok q.2 := by
  unfold w1q at h
  cases l with
  | nil => cases h
  | cons b r =>
    simp only at h
    split at h
    · rename_i x hx
      rw [Bool.and_eq_true] at h
      rw [← show x = q.2 from Prod.ext (eqi_ok h.1) (Nat.eq_of_beq_eq_true h.2)]
      exact dx_ok ha hx
    · exact of_decide_eq_true h
def wk (c : ByteArray) : List (Nat × Instr × Nat) → List UInt8 → Nat → Option (List UInt8 × Nat)
  | [], l, p => some (l, p)
  | q :: t, l, p => if Nat.beq q.1 p && w1q c q p l then wk c t (l.drop q.2.2) (q.1 + q.2.2) else none
theorem wk_ok {c : ByteArray} {t : List (Nat × Instr × Nat)} {l l' : List UInt8} {p p' : Nat} (ha : At c p l) (h : wk c t l p = some (l', p')) : (∀ q ∈ t, decode c q.1 = .ok q.2) ∧ At c p' l' := by
  induction t generalizing l p with
  | nil =>
    have h' : some (l, p) = some (l', p') := h
    cases h'
    exact ⟨fun q hq => absurd hq (by simp), ha⟩
  | cons q t ih =>
    have h' : (if Nat.beq q.1 p && w1q c q p l then wk c t (l.drop q.2.2) (q.1 + q.2.2) else none) = some (l', p') := h
    by_cases hc : (Nat.beq q.1 p && w1q c q p l) = true
    · rw [if_pos hc] at h'
      rw [Bool.and_eq_true] at hc
      have e1 := Nat.eq_of_beq_eq_true hc.1
      rw [e1] at h'
      have r := ih (at_dr _ ha) h'
      refine ⟨fun q' hq' => ?_, r.2⟩
      rcases List.mem_cons.mp hq' with e | hq'
      · rw [e, e1]; exact w1q_ok ha hc.2
      · exact r.1 q' hq'
    · rw [if_neg hc] at h'; cases h'
def wkk (c : ByteArray) : List (List (Nat × Instr × Nat)) → List UInt8 → Nat → Bool
  | [], _, _ => true
  | t :: ts, l, p => match wk c t l p with
    | none => false
    | some x => wkk c ts x.1 x.2
theorem wkk_ok {c : ByteArray} {ts : List (List (Nat × Instr × Nat))} {l : List UInt8} {p : Nat} (ha : At c p l) (h : wkk c ts l p = true) : ∀ t ∈ ts, ∀ q ∈ t, decode c q.1 = .ok q.2 := by
  induction ts generalizing l p with
  | nil => intro t ht; cases ht
  | cons t ts ih =>
    unfold wkk at h
    cases hw : wk c t l p with
    | none => rw [hw] at h; cases h
    | some x =>
      rw [hw] at h
      have r := wk_ok (l' := x.1) (p' := x.2) ha hw
      intro t' ht'
      rcases List.mem_cons.mp ht' with e | ht'
      · rw [e]; exact r.1
      · exact ih r.2 h t' ht'
theorem wkd {c : ByteArray} {ts : List (List (Nat × Instr × Nat))} (h : wkk c ts c.data.toList 0 = true) {j : Nat} {t : List (Nat × Instr × Nat)} (ht : ts[j]? = some t) : ∀ q ∈ t, decode c q.1 = .ok q.2 := wkk_ok (p := 0) rfl h t (List.mem_of_getElem? ht)
theorem dcd {bs : ByteArray} {t : List (Nat × Instr × Nat)} (h : ∀ q ∈ t, decode bs q.1 = .ok q.2) (i : Nat) {pc : Nat} {x : Instr × Nat} (hq : t[i]? = some (pc, x)) : decode bs pc = .ok x := h (pc, x) (List.mem_of_getElem? hq)
end
section
def t_L_law_0 : List (Nat × Instr × Nat) := [(0, .new 7, 3), (3, .dup, 1), (4, .invokespecial 9, 3), (7, .astore_n 1, 1), (8, .new 10, 3), (11, .dup, 1), (12, .invokespecial 12, 3), (15, .astore_n 2, 1), (16, .iconst 0, 1), (17, .istore_n 3, 1), (18, .iload_n 3, 1), (19, .aload_n 0, 1), (20, .arraylength, 1), (21, .bipush 6, 2), (23, .isub, 1), (24, .if_icmp .gt 1724, 3), (27, .aload_n 0, 1), (28, .iload_n 3, 1), (29, .iaload, 1), (30, .bipush 63, 2), (32, .iand, 1), (33, .tableswitch 1709 0 51 #[223, 256, 299, 332, 355, 418, 441, 474, 517, 540, 563, 596, 629, 652, 675, 698, 721, 744, 767, 800, 833, 846, 869, 892, 925, 958, 1001, 1044, 1077, 1110, 1153, 1206, 1249, 1282, 1295, 1308, 1351, 1374, 1397, 1420, 1463, 1496, 1529, 1552, 1575, 1598, 1611, 1624, 1637, 1660, 1673, 1696], 223), (256, .aload_n 1, 1), (257, .aload_n 0, 1), (258, .iload_n 3, 1), (259, .iconst 1, 1), (260, .iadd, 1), (261, .iaload, 1), (262, .aload_n 0, 1), (263, .iload_n 3, 1)]
def t_L_law_1 : List (Nat × Instr × Nat) := [(264, .iconst 2, 1), (265, .iadd, 1), (266, .iaload, 1), (267, .invokevirtual 13, 3), (270, .pop, 1), (271, .aload_n 2, 1), (272, .aload_n 0, 1), (273, .iload_n 3, 1), (274, .iconst 1, 1), (275, .iadd, 1), (276, .iaload, 1), (277, .aload_n 0, 1), (278, .iload_n 3, 1), (279, .iconst 2, 1), (280, .iadd, 1), (281, .iaload, 1), (282, .invokevirtual 17, 3), (285, .pop, 1), (286, .goto 1456, 3), (289, .aload_n 1, 1), (290, .aload_n 0, 1), (291, .iload_n 3, 1), (292, .iconst 1, 1), (293, .iadd, 1), (294, .iaload, 1), (295, .aload_n 0, 1), (296, .iload_n 3, 1), (297, .iconst 2, 1), (298, .iadd, 1), (299, .iaload, 1)]
def t_L_law_2 : List (Nat × Instr × Nat) := [(300, .aload_n 0, 1), (301, .iload_n 3, 1), (302, .iconst 3, 1), (303, .iadd, 1), (304, .iaload, 1), (305, .invokevirtual 18, 3), (308, .pop, 1), (309, .aload_n 2, 1), (310, .aload_n 0, 1), (311, .iload_n 3, 1), (312, .iconst 1, 1), (313, .iadd, 1), (314, .iaload, 1), (315, .aload_n 0, 1), (316, .iload_n 3, 1), (317, .iconst 2, 1), (318, .iadd, 1), (319, .iaload, 1), (320, .aload_n 0, 1), (321, .iload_n 3, 1), (322, .iconst 3, 1), (323, .iadd, 1), (324, .iaload, 1), (325, .invokevirtual 22, 3), (328, .pop, 1), (329, .goto 1413, 3), (332, .aload_n 1, 1), (333, .aload_n 0, 1), (334, .iload_n 3, 1), (335, .iconst 1, 1)]
def t_L_law_3 : List (Nat × Instr × Nat) := [(336, .iadd, 1), (337, .iaload, 1), (338, .aload_n 0, 1), (339, .iload_n 3, 1), (340, .iconst 2, 1), (341, .iadd, 1), (342, .iaload, 1), (343, .invokevirtual 23, 3), (346, .pop, 1), (347, .aload_n 2, 1), (348, .aload_n 0, 1), (349, .iload_n 3, 1), (350, .iconst 1, 1), (351, .iadd, 1), (352, .iaload, 1), (353, .aload_n 0, 1), (354, .iload_n 3, 1), (355, .iconst 2, 1), (356, .iadd, 1), (357, .iaload, 1), (358, .invokevirtual 26, 3), (361, .pop, 1), (362, .goto 1380, 3), (365, .aload_n 1, 1), (366, .aload_n 0, 1), (367, .iload_n 3, 1), (368, .iconst 1, 1), (369, .iadd, 1), (370, .iaload, 1), (371, .invokevirtual 27, 3)]
def t_L_law_4 : List (Nat × Instr × Nat) := [(374, .pop, 1), (375, .aload_n 2, 1), (376, .aload_n 0, 1), (377, .iload_n 3, 1), (378, .iconst 1, 1), (379, .iadd, 1), (380, .iaload, 1), (381, .invokevirtual 31, 3), (384, .pop, 1), (385, .goto 1357, 3), (388, .aload_n 1, 1), (389, .aload_n 0, 1), (390, .iload_n 3, 1), (391, .iconst 1, 1), (392, .iadd, 1), (393, .iaload, 1), (394, .aload_n 0, 1), (395, .iload_n 3, 1), (396, .iconst 2, 1), (397, .iadd, 1), (398, .iaload, 1), (399, .aload_n 0, 1), (400, .iload_n 3, 1), (401, .iconst 3, 1), (402, .iadd, 1), (403, .iaload, 1), (404, .aload_n 0, 1), (405, .iload_n 3, 1), (406, .iconst 4, 1), (407, .iadd, 1)]
def t_L_law_5 : List (Nat × Instr × Nat) := [(408, .iaload, 1), (409, .aload_n 0, 1), (410, .iload_n 3, 1), (411, .iconst 5, 1), (412, .iadd, 1), (413, .iaload, 1), (414, .invokevirtual 32, 3), (417, .pop, 1), (418, .aload_n 2, 1), (419, .aload_n 0, 1), (420, .iload_n 3, 1), (421, .iconst 1, 1), (422, .iadd, 1), (423, .iaload, 1), (424, .aload_n 0, 1), (425, .iload_n 3, 1), (426, .iconst 2, 1), (427, .iadd, 1), (428, .iaload, 1), (429, .aload_n 0, 1), (430, .iload_n 3, 1), (431, .iconst 3, 1), (432, .iadd, 1), (433, .iaload, 1), (434, .aload_n 0, 1), (435, .iload_n 3, 1), (436, .iconst 4, 1), (437, .iadd, 1), (438, .iaload, 1), (439, .aload_n 0, 1)]
def t_L_law_6 : List (Nat × Instr × Nat) := [(440, .iload_n 3, 1), (441, .iconst 5, 1), (442, .iadd, 1), (443, .iaload, 1), (444, .invokevirtual 36, 3), (447, .pop, 1), (448, .goto 1294, 3), (451, .aload_n 1, 1), (452, .aload_n 0, 1), (453, .iload_n 3, 1), (454, .iconst 1, 1), (455, .iadd, 1), (456, .iaload, 1), (457, .invokevirtual 37, 3), (460, .pop, 1), (461, .aload_n 2, 1), (462, .aload_n 0, 1), (463, .iload_n 3, 1), (464, .iconst 1, 1), (465, .iadd, 1), (466, .iaload, 1), (467, .invokevirtual 40, 3), (470, .pop, 1), (471, .goto 1271, 3), (474, .aload_n 1, 1), (475, .aload_n 0, 1), (476, .iload_n 3, 1), (477, .iconst 1, 1), (478, .iadd, 1), (479, .iaload, 1)]
def t_L_law_7 : List (Nat × Instr × Nat) := [(480, .aload_n 0, 1), (481, .iload_n 3, 1), (482, .iconst 2, 1), (483, .iadd, 1), (484, .iaload, 1), (485, .invokevirtual 41, 3), (488, .pop, 1), (489, .aload_n 2, 1), (490, .aload_n 0, 1), (491, .iload_n 3, 1), (492, .iconst 1, 1), (493, .iadd, 1), (494, .iaload, 1), (495, .aload_n 0, 1), (496, .iload_n 3, 1), (497, .iconst 2, 1), (498, .iadd, 1), (499, .iaload, 1), (500, .invokevirtual 44, 3), (503, .pop, 1), (504, .goto 1238, 3), (507, .aload_n 1, 1), (508, .aload_n 0, 1), (509, .iload_n 3, 1), (510, .iconst 1, 1), (511, .iadd, 1), (512, .iaload, 1), (513, .aload_n 0, 1), (514, .iload_n 3, 1), (515, .iconst 2, 1)]
def t_L_law_8 : List (Nat × Instr × Nat) := [(516, .iadd, 1), (517, .iaload, 1), (518, .aload_n 0, 1), (519, .iload_n 3, 1), (520, .iconst 3, 1), (521, .iadd, 1), (522, .iaload, 1), (523, .invokevirtual 45, 3), (526, .pop, 1), (527, .aload_n 2, 1), (528, .aload_n 0, 1), (529, .iload_n 3, 1), (530, .iconst 1, 1), (531, .iadd, 1), (532, .iaload, 1), (533, .aload_n 0, 1), (534, .iload_n 3, 1), (535, .iconst 2, 1), (536, .iadd, 1), (537, .iaload, 1), (538, .aload_n 0, 1), (539, .iload_n 3, 1), (540, .iconst 3, 1), (541, .iadd, 1), (542, .iaload, 1), (543, .invokevirtual 48, 3), (546, .pop, 1), (547, .goto 1195, 3), (550, .aload_n 1, 1), (551, .aload_n 0, 1)]
def t_L_law_9 : List (Nat × Instr × Nat) := [(552, .iload_n 3, 1), (553, .iconst 1, 1), (554, .iadd, 1), (555, .iaload, 1), (556, .invokevirtual 49, 3), (559, .pop, 1), (560, .aload_n 2, 1), (561, .aload_n 0, 1), (562, .iload_n 3, 1), (563, .iconst 1, 1), (564, .iadd, 1), (565, .iaload, 1), (566, .invokevirtual 52, 3), (569, .pop, 1), (570, .goto 1172, 3), (573, .aload_n 1, 1), (574, .aload_n 0, 1), (575, .iload_n 3, 1), (576, .iconst 1, 1), (577, .iadd, 1), (578, .iaload, 1), (579, .invokevirtual 53, 3), (582, .pop, 1), (583, .aload_n 2, 1), (584, .aload_n 0, 1), (585, .iload_n 3, 1), (586, .iconst 1, 1), (587, .iadd, 1), (588, .iaload, 1), (589, .invokevirtual 56, 3)]
def t_L_law_10 : List (Nat × Instr × Nat) := [(592, .pop, 1), (593, .goto 1149, 3), (596, .aload_n 1, 1), (597, .aload_n 0, 1), (598, .iload_n 3, 1), (599, .iconst 1, 1), (600, .iadd, 1), (601, .iaload, 1), (602, .aload_n 0, 1), (603, .iload_n 3, 1), (604, .iconst 2, 1), (605, .iadd, 1), (606, .iaload, 1), (607, .invokevirtual 57, 3), (610, .pop, 1), (611, .aload_n 2, 1), (612, .aload_n 0, 1), (613, .iload_n 3, 1), (614, .iconst 1, 1), (615, .iadd, 1), (616, .iaload, 1), (617, .aload_n 0, 1), (618, .iload_n 3, 1), (619, .iconst 2, 1), (620, .iadd, 1), (621, .iaload, 1), (622, .invokevirtual 60, 3), (625, .pop, 1), (626, .goto 1116, 3), (629, .aload_n 1, 1)]
def t_L_law_11 : List (Nat × Instr × Nat) := [(630, .aload_n 0, 1), (631, .iload_n 3, 1), (632, .iconst 1, 1), (633, .iadd, 1), (634, .iaload, 1), (635, .aload_n 0, 1), (636, .iload_n 3, 1), (637, .iconst 2, 1), (638, .iadd, 1), (639, .iaload, 1), (640, .invokevirtual 61, 3), (643, .pop, 1), (644, .aload_n 2, 1), (645, .aload_n 0, 1), (646, .iload_n 3, 1), (647, .iconst 1, 1), (648, .iadd, 1), (649, .iaload, 1), (650, .aload_n 0, 1), (651, .iload_n 3, 1), (652, .iconst 2, 1), (653, .iadd, 1), (654, .iaload, 1), (655, .invokevirtual 64, 3), (658, .pop, 1), (659, .goto 1083, 3), (662, .aload_n 1, 1), (663, .aload_n 0, 1), (664, .iload_n 3, 1), (665, .iconst 1, 1)]
def t_L_law_12 : List (Nat × Instr × Nat) := [(666, .iadd, 1), (667, .iaload, 1), (668, .invokevirtual 65, 3), (671, .pop, 1), (672, .aload_n 2, 1), (673, .aload_n 0, 1), (674, .iload_n 3, 1), (675, .iconst 1, 1), (676, .iadd, 1), (677, .iaload, 1), (678, .invokevirtual 68, 3), (681, .pop, 1), (682, .goto 1060, 3), (685, .aload_n 1, 1), (686, .aload_n 0, 1), (687, .iload_n 3, 1), (688, .iconst 1, 1), (689, .iadd, 1), (690, .iaload, 1), (691, .invokevirtual 69, 3), (694, .pop, 1), (695, .aload_n 2, 1), (696, .aload_n 0, 1), (697, .iload_n 3, 1), (698, .iconst 1, 1), (699, .iadd, 1), (700, .iaload, 1), (701, .invokevirtual 72, 3), (704, .pop, 1), (705, .goto 1037, 3)]
def t_L_law_13 : List (Nat × Instr × Nat) := [(708, .aload_n 1, 1), (709, .aload_n 0, 1), (710, .iload_n 3, 1), (711, .iconst 1, 1), (712, .iadd, 1), (713, .iaload, 1), (714, .invokevirtual 73, 3), (717, .pop, 1), (718, .aload_n 2, 1), (719, .aload_n 0, 1), (720, .iload_n 3, 1), (721, .iconst 1, 1), (722, .iadd, 1), (723, .iaload, 1), (724, .invokevirtual 76, 3), (727, .pop, 1), (728, .goto 1014, 3), (731, .aload_n 1, 1), (732, .aload_n 0, 1), (733, .iload_n 3, 1), (734, .iconst 1, 1), (735, .iadd, 1), (736, .iaload, 1), (737, .invokevirtual 77, 3), (740, .pop, 1), (741, .aload_n 2, 1), (742, .aload_n 0, 1), (743, .iload_n 3, 1), (744, .iconst 1, 1), (745, .iadd, 1)]
def t_L_law_14 : List (Nat × Instr × Nat) := [(746, .iaload, 1), (747, .invokevirtual 80, 3), (750, .pop, 1), (751, .goto 991, 3), (754, .aload_n 1, 1), (755, .aload_n 0, 1), (756, .iload_n 3, 1), (757, .iconst 1, 1), (758, .iadd, 1), (759, .iaload, 1), (760, .invokevirtual 81, 3), (763, .pop, 1), (764, .aload_n 2, 1), (765, .aload_n 0, 1), (766, .iload_n 3, 1), (767, .iconst 1, 1), (768, .iadd, 1), (769, .iaload, 1), (770, .invokevirtual 84, 3), (773, .pop, 1), (774, .goto 968, 3), (777, .aload_n 1, 1), (778, .aload_n 0, 1), (779, .iload_n 3, 1), (780, .iconst 1, 1), (781, .iadd, 1), (782, .iaload, 1), (783, .invokevirtual 85, 3), (786, .pop, 1), (787, .aload_n 2, 1)]
def t_L_law_15 : List (Nat × Instr × Nat) := [(788, .aload_n 0, 1), (789, .iload_n 3, 1), (790, .iconst 1, 1), (791, .iadd, 1), (792, .iaload, 1), (793, .invokevirtual 88, 3), (796, .pop, 1), (797, .goto 945, 3), (800, .aload_n 1, 1), (801, .aload_n 0, 1), (802, .iload_n 3, 1), (803, .iconst 1, 1), (804, .iadd, 1), (805, .iaload, 1), (806, .aload_n 0, 1), (807, .iload_n 3, 1), (808, .iconst 2, 1), (809, .iadd, 1), (810, .iaload, 1), (811, .invokevirtual 89, 3), (814, .pop, 1), (815, .aload_n 2, 1), (816, .aload_n 0, 1), (817, .iload_n 3, 1), (818, .iconst 1, 1), (819, .iadd, 1), (820, .iaload, 1), (821, .aload_n 0, 1), (822, .iload_n 3, 1), (823, .iconst 2, 1)]
def t_L_law_16 : List (Nat × Instr × Nat) := [(824, .iadd, 1), (825, .iaload, 1), (826, .invokevirtual 92, 3), (829, .pop, 1), (830, .goto 912, 3), (833, .aload_n 1, 1), (834, .aload_n 0, 1), (835, .iload_n 3, 1), (836, .iconst 1, 1), (837, .iadd, 1), (838, .iaload, 1), (839, .aload_n 0, 1), (840, .iload_n 3, 1), (841, .iconst 2, 1), (842, .iadd, 1), (843, .iaload, 1), (844, .invokevirtual 93, 3), (847, .pop, 1), (848, .aload_n 2, 1), (849, .aload_n 0, 1), (850, .iload_n 3, 1), (851, .iconst 1, 1), (852, .iadd, 1), (853, .iaload, 1), (854, .aload_n 0, 1), (855, .iload_n 3, 1), (856, .iconst 2, 1), (857, .iadd, 1), (858, .iaload, 1), (859, .invokevirtual 96, 3)]
def t_L_law_17 : List (Nat × Instr × Nat) := [(862, .pop, 1), (863, .goto 879, 3), (866, .aload_n 1, 1), (867, .invokevirtual 97, 3), (870, .pop, 1), (871, .aload_n 2, 1), (872, .invokevirtual 101, 3), (875, .pop, 1), (876, .goto 866, 3), (879, .aload_n 1, 1), (880, .aload_n 0, 1), (881, .iload_n 3, 1), (882, .iconst 1, 1), (883, .iadd, 1), (884, .iaload, 1), (885, .invokevirtual 102, 3), (888, .pop, 1), (889, .aload_n 2, 1), (890, .aload_n 0, 1), (891, .iload_n 3, 1), (892, .iconst 1, 1), (893, .iadd, 1), (894, .iaload, 1), (895, .invokevirtual 105, 3), (898, .pop, 1), (899, .goto 843, 3), (902, .aload_n 1, 1), (903, .aload_n 0, 1), (904, .iload_n 3, 1), (905, .iconst 1, 1)]
def t_L_law_18 : List (Nat × Instr × Nat) := [(906, .iadd, 1), (907, .iaload, 1), (908, .invokevirtual 106, 3), (911, .pop, 1), (912, .aload_n 2, 1), (913, .aload_n 0, 1), (914, .iload_n 3, 1), (915, .iconst 1, 1), (916, .iadd, 1), (917, .iaload, 1), (918, .invokevirtual 109, 3), (921, .pop, 1), (922, .goto 820, 3), (925, .aload_n 1, 1), (926, .aload_n 0, 1), (927, .iload_n 3, 1), (928, .iconst 1, 1), (929, .iadd, 1), (930, .iaload, 1), (931, .aload_n 0, 1), (932, .iload_n 3, 1), (933, .iconst 2, 1), (934, .iadd, 1), (935, .iaload, 1), (936, .invokevirtual 110, 3), (939, .pop, 1), (940, .aload_n 2, 1), (941, .aload_n 0, 1), (942, .iload_n 3, 1), (943, .iconst 1, 1)]
def t_L_law_19 : List (Nat × Instr × Nat) := [(944, .iadd, 1), (945, .iaload, 1), (946, .aload_n 0, 1), (947, .iload_n 3, 1), (948, .iconst 2, 1), (949, .iadd, 1), (950, .iaload, 1), (951, .invokevirtual 113, 3), (954, .pop, 1), (955, .goto 787, 3), (958, .aload_n 1, 1), (959, .aload_n 0, 1), (960, .iload_n 3, 1), (961, .iconst 1, 1), (962, .iadd, 1), (963, .iaload, 1), (964, .aload_n 0, 1), (965, .iload_n 3, 1), (966, .iconst 2, 1), (967, .iadd, 1), (968, .iaload, 1), (969, .invokevirtual 114, 3), (972, .pop, 1), (973, .aload_n 2, 1), (974, .aload_n 0, 1), (975, .iload_n 3, 1), (976, .iconst 1, 1), (977, .iadd, 1), (978, .iaload, 1), (979, .aload_n 0, 1)]
def t_L_law_20 : List (Nat × Instr × Nat) := [(980, .iload_n 3, 1), (981, .iconst 2, 1), (982, .iadd, 1), (983, .iaload, 1), (984, .invokevirtual 117, 3), (987, .pop, 1), (988, .goto 754, 3), (991, .aload_n 1, 1), (992, .aload_n 0, 1), (993, .iload_n 3, 1), (994, .iconst 1, 1), (995, .iadd, 1), (996, .iaload, 1), (997, .aload_n 0, 1), (998, .iload_n 3, 1), (999, .iconst 2, 1), (1000, .iadd, 1), (1001, .iaload, 1), (1002, .aload_n 0, 1), (1003, .iload_n 3, 1), (1004, .iconst 3, 1), (1005, .iadd, 1), (1006, .iaload, 1), (1007, .invokevirtual 118, 3), (1010, .pop, 1), (1011, .aload_n 2, 1), (1012, .aload_n 0, 1), (1013, .iload_n 3, 1), (1014, .iconst 1, 1), (1015, .iadd, 1)]
def t_L_law_21 : List (Nat × Instr × Nat) := [(1016, .iaload, 1), (1017, .aload_n 0, 1), (1018, .iload_n 3, 1), (1019, .iconst 2, 1), (1020, .iadd, 1), (1021, .iaload, 1), (1022, .aload_n 0, 1), (1023, .iload_n 3, 1), (1024, .iconst 3, 1), (1025, .iadd, 1), (1026, .iaload, 1), (1027, .invokevirtual 121, 3), (1030, .pop, 1), (1031, .goto 711, 3), (1034, .aload_n 1, 1), (1035, .aload_n 0, 1), (1036, .iload_n 3, 1), (1037, .iconst 1, 1), (1038, .iadd, 1), (1039, .iaload, 1), (1040, .aload_n 0, 1), (1041, .iload_n 3, 1), (1042, .iconst 2, 1), (1043, .iadd, 1), (1044, .iaload, 1), (1045, .aload_n 0, 1), (1046, .iload_n 3, 1), (1047, .iconst 3, 1), (1048, .iadd, 1), (1049, .iaload, 1)]
def t_L_law_22 : List (Nat × Instr × Nat) := [(1050, .invokevirtual 122, 3), (1053, .pop, 1), (1054, .aload_n 2, 1), (1055, .aload_n 0, 1), (1056, .iload_n 3, 1), (1057, .iconst 1, 1), (1058, .iadd, 1), (1059, .iaload, 1), (1060, .aload_n 0, 1), (1061, .iload_n 3, 1), (1062, .iconst 2, 1), (1063, .iadd, 1), (1064, .iaload, 1), (1065, .aload_n 0, 1), (1066, .iload_n 3, 1), (1067, .iconst 3, 1), (1068, .iadd, 1), (1069, .iaload, 1), (1070, .invokevirtual 125, 3), (1073, .pop, 1), (1074, .goto 668, 3), (1077, .aload_n 1, 1), (1078, .aload_n 0, 1), (1079, .iload_n 3, 1), (1080, .iconst 1, 1), (1081, .iadd, 1), (1082, .iaload, 1), (1083, .aload_n 0, 1), (1084, .iload_n 3, 1), (1085, .iconst 2, 1)]
def t_L_law_23 : List (Nat × Instr × Nat) := [(1086, .iadd, 1), (1087, .iaload, 1), (1088, .invokevirtual 126, 3), (1091, .aload_n 2, 1), (1092, .aload_n 0, 1), (1093, .iload_n 3, 1), (1094, .iconst 1, 1), (1095, .iadd, 1), (1096, .iaload, 1), (1097, .aload_n 0, 1), (1098, .iload_n 3, 1), (1099, .iconst 2, 1), (1100, .iadd, 1), (1101, .iaload, 1), (1102, .invokevirtual 129, 3), (1105, .if_icmp .eq 637, 3), (1108, .iconst 0, 1), (1109, .ireturn, 1), (1110, .aload_n 1, 1), (1111, .aload_n 0, 1), (1112, .iload_n 3, 1), (1113, .iconst 1, 1), (1114, .iadd, 1), (1115, .iaload, 1), (1116, .aload_n 0, 1), (1117, .iload_n 3, 1), (1118, .iconst 2, 1), (1119, .iadd, 1), (1120, .iaload, 1), (1121, .invokevirtual 130, 3)]
def t_L_law_24 : List (Nat × Instr × Nat) := [(1124, .pop, 1), (1125, .aload_n 2, 1), (1126, .aload_n 0, 1), (1127, .iload_n 3, 1), (1128, .iconst 1, 1), (1129, .iadd, 1), (1130, .iaload, 1), (1131, .aload_n 0, 1), (1132, .iload_n 3, 1), (1133, .iconst 2, 1), (1134, .iadd, 1), (1135, .iaload, 1), (1136, .invokevirtual 133, 3), (1139, .pop, 1), (1140, .goto 602, 3), (1143, .aload_n 1, 1), (1144, .aload_n 0, 1), (1145, .iload_n 3, 1), (1146, .iconst 1, 1), (1147, .iadd, 1), (1148, .iaload, 1), (1149, .aload_n 0, 1), (1150, .iload_n 3, 1), (1151, .iconst 2, 1), (1152, .iadd, 1), (1153, .iaload, 1), (1154, .aload_n 0, 1), (1155, .iload_n 3, 1), (1156, .iconst 3, 1), (1157, .iadd, 1)]
def t_L_law_25 : List (Nat × Instr × Nat) := [(1158, .iaload, 1), (1159, .invokevirtual 134, 3), (1162, .pop, 1), (1163, .aload_n 2, 1), (1164, .aload_n 0, 1), (1165, .iload_n 3, 1), (1166, .iconst 1, 1), (1167, .iadd, 1), (1168, .iaload, 1), (1169, .aload_n 0, 1), (1170, .iload_n 3, 1), (1171, .iconst 2, 1), (1172, .iadd, 1), (1173, .iaload, 1), (1174, .aload_n 0, 1), (1175, .iload_n 3, 1), (1176, .iconst 3, 1), (1177, .iadd, 1), (1178, .iaload, 1), (1179, .invokevirtual 137, 3), (1182, .pop, 1), (1183, .goto 559, 3), (1186, .aload_n 1, 1), (1187, .aload_n 0, 1), (1188, .iload_n 3, 1), (1189, .iconst 1, 1), (1190, .iadd, 1), (1191, .iaload, 1), (1192, .aload_n 0, 1), (1193, .iload_n 3, 1)]
def t_L_law_26 : List (Nat × Instr × Nat) := [(1194, .iconst 2, 1), (1195, .iadd, 1), (1196, .iaload, 1), (1197, .aload_n 0, 1), (1198, .iload_n 3, 1), (1199, .iconst 3, 1), (1200, .iadd, 1), (1201, .iaload, 1), (1202, .aload_n 0, 1), (1203, .iload_n 3, 1), (1204, .iconst 4, 1), (1205, .iadd, 1), (1206, .iaload, 1), (1207, .invokevirtual 138, 3), (1210, .pop, 1), (1211, .aload_n 2, 1), (1212, .aload_n 0, 1), (1213, .iload_n 3, 1), (1214, .iconst 1, 1), (1215, .iadd, 1), (1216, .iaload, 1), (1217, .aload_n 0, 1), (1218, .iload_n 3, 1), (1219, .iconst 2, 1), (1220, .iadd, 1), (1221, .iaload, 1), (1222, .aload_n 0, 1), (1223, .iload_n 3, 1), (1224, .iconst 3, 1), (1225, .iadd, 1)]
def t_L_law_27 : List (Nat × Instr × Nat) := [(1226, .iaload, 1), (1227, .aload_n 0, 1), (1228, .iload_n 3, 1), (1229, .iconst 4, 1), (1230, .iadd, 1), (1231, .iaload, 1), (1232, .invokevirtual 142, 3), (1235, .pop, 1), (1236, .goto 506, 3), (1239, .aload_n 1, 1), (1240, .aload_n 0, 1), (1241, .iload_n 3, 1), (1242, .iconst 1, 1), (1243, .iadd, 1), (1244, .iaload, 1), (1245, .aload_n 0, 1), (1246, .iload_n 3, 1), (1247, .iconst 2, 1), (1248, .iadd, 1), (1249, .iaload, 1), (1250, .aload_n 0, 1), (1251, .iload_n 3, 1), (1252, .iconst 3, 1), (1253, .iadd, 1), (1254, .iaload, 1), (1255, .invokevirtual 143, 3), (1258, .pop, 1), (1259, .aload_n 2, 1), (1260, .aload_n 0, 1), (1261, .iload_n 3, 1)]
def t_L_law_28 : List (Nat × Instr × Nat) := [(1262, .iconst 1, 1), (1263, .iadd, 1), (1264, .iaload, 1), (1265, .aload_n 0, 1), (1266, .iload_n 3, 1), (1267, .iconst 2, 1), (1268, .iadd, 1), (1269, .iaload, 1), (1270, .aload_n 0, 1), (1271, .iload_n 3, 1), (1272, .iconst 3, 1), (1273, .iadd, 1), (1274, .iaload, 1), (1275, .invokevirtual 146, 3), (1278, .pop, 1), (1279, .goto 463, 3), (1282, .aload_n 1, 1), (1283, .aload_n 0, 1), (1284, .iload_n 3, 1), (1285, .iconst 1, 1), (1286, .iadd, 1), (1287, .iaload, 1), (1288, .aload_n 0, 1), (1289, .iload_n 3, 1), (1290, .iconst 2, 1), (1291, .iadd, 1), (1292, .iaload, 1), (1293, .invokevirtual 147, 3), (1296, .pop, 1), (1297, .aload_n 2, 1)]
def t_L_law_29 : List (Nat × Instr × Nat) := [(1298, .aload_n 0, 1), (1299, .iload_n 3, 1), (1300, .iconst 1, 1), (1301, .iadd, 1), (1302, .iaload, 1), (1303, .aload_n 0, 1), (1304, .iload_n 3, 1), (1305, .iconst 2, 1), (1306, .iadd, 1), (1307, .iaload, 1), (1308, .invokevirtual 150, 3), (1311, .pop, 1), (1312, .goto 430, 3), (1315, .aload_n 1, 1), (1316, .invokevirtual 151, 3), (1319, .pop, 1), (1320, .aload_n 2, 1), (1321, .invokevirtual 154, 3), (1324, .pop, 1), (1325, .goto 417, 3), (1328, .aload_n 1, 1), (1329, .invokevirtual 155, 3), (1332, .pop, 1), (1333, .aload_n 2, 1), (1334, .invokevirtual 158, 3), (1337, .pop, 1), (1338, .goto 404, 3), (1341, .aload_n 1, 1), (1342, .aload_n 0, 1), (1343, .iload_n 3, 1)]
def t_L_law_30 : List (Nat × Instr × Nat) := [(1344, .iconst 1, 1), (1345, .iadd, 1), (1346, .iaload, 1), (1347, .aload_n 0, 1), (1348, .iload_n 3, 1), (1349, .iconst 2, 1), (1350, .iadd, 1), (1351, .iaload, 1), (1352, .aload_n 0, 1), (1353, .iload_n 3, 1), (1354, .iconst 3, 1), (1355, .iadd, 1), (1356, .iaload, 1), (1357, .invokevirtual 159, 3), (1360, .pop, 1), (1361, .aload_n 2, 1), (1362, .aload_n 0, 1), (1363, .iload_n 3, 1), (1364, .iconst 1, 1), (1365, .iadd, 1), (1366, .iaload, 1), (1367, .aload_n 0, 1), (1368, .iload_n 3, 1), (1369, .iconst 2, 1), (1370, .iadd, 1), (1371, .iaload, 1), (1372, .aload_n 0, 1), (1373, .iload_n 3, 1), (1374, .iconst 3, 1), (1375, .iadd, 1)]
def t_L_law_31 : List (Nat × Instr × Nat) := [(1376, .iaload, 1), (1377, .invokevirtual 162, 3), (1380, .pop, 1), (1381, .goto 361, 3), (1384, .aload_n 1, 1), (1385, .aload_n 0, 1), (1386, .iload_n 3, 1), (1387, .iconst 1, 1), (1388, .iadd, 1), (1389, .iaload, 1), (1390, .invokevirtual 163, 3), (1393, .pop, 1), (1394, .aload_n 2, 1), (1395, .aload_n 0, 1), (1396, .iload_n 3, 1), (1397, .iconst 1, 1), (1398, .iadd, 1), (1399, .iaload, 1), (1400, .invokevirtual 166, 3), (1403, .pop, 1), (1404, .goto 338, 3), (1407, .aload_n 1, 1), (1408, .aload_n 0, 1), (1409, .iload_n 3, 1), (1410, .iconst 1, 1), (1411, .iadd, 1), (1412, .iaload, 1), (1413, .invokevirtual 167, 3), (1416, .pop, 1), (1417, .aload_n 2, 1)]
def t_L_law_32 : List (Nat × Instr × Nat) := [(1418, .aload_n 0, 1), (1419, .iload_n 3, 1), (1420, .iconst 1, 1), (1421, .iadd, 1), (1422, .iaload, 1), (1423, .invokevirtual 170, 3), (1426, .pop, 1), (1427, .goto 315, 3), (1430, .aload_n 1, 1), (1431, .aload_n 0, 1), (1432, .iload_n 3, 1), (1433, .iconst 1, 1), (1434, .iadd, 1), (1435, .iaload, 1), (1436, .invokevirtual 171, 3), (1439, .pop, 1), (1440, .aload_n 2, 1), (1441, .aload_n 0, 1), (1442, .iload_n 3, 1), (1443, .iconst 1, 1), (1444, .iadd, 1), (1445, .iaload, 1), (1446, .invokevirtual 174, 3), (1449, .pop, 1), (1450, .goto 292, 3), (1453, .aload_n 1, 1), (1454, .aload_n 0, 1), (1455, .iload_n 3, 1), (1456, .iconst 1, 1), (1457, .iadd, 1)]
def t_L_law_33 : List (Nat × Instr × Nat) := [(1458, .iaload, 1), (1459, .aload_n 0, 1), (1460, .iload_n 3, 1), (1461, .iconst 2, 1), (1462, .iadd, 1), (1463, .iaload, 1), (1464, .aload_n 0, 1), (1465, .iload_n 3, 1), (1466, .iconst 3, 1), (1467, .iadd, 1), (1468, .iaload, 1), (1469, .invokevirtual 175, 3), (1472, .pop, 1), (1473, .aload_n 2, 1), (1474, .aload_n 0, 1), (1475, .iload_n 3, 1), (1476, .iconst 1, 1), (1477, .iadd, 1), (1478, .iaload, 1), (1479, .aload_n 0, 1), (1480, .iload_n 3, 1), (1481, .iconst 2, 1), (1482, .iadd, 1), (1483, .iaload, 1), (1484, .aload_n 0, 1), (1485, .iload_n 3, 1), (1486, .iconst 3, 1), (1487, .iadd, 1), (1488, .iaload, 1), (1489, .invokevirtual 178, 3)]
def t_L_law_34 : List (Nat × Instr × Nat) := [(1492, .pop, 1), (1493, .goto 249, 3), (1496, .aload_n 1, 1), (1497, .aload_n 0, 1), (1498, .iload_n 3, 1), (1499, .iconst 1, 1), (1500, .iadd, 1), (1501, .iaload, 1), (1502, .aload_n 0, 1), (1503, .iload_n 3, 1), (1504, .iconst 2, 1), (1505, .iadd, 1), (1506, .iaload, 1), (1507, .invokevirtual 179, 3), (1510, .pop, 1), (1511, .aload_n 2, 1), (1512, .aload_n 0, 1), (1513, .iload_n 3, 1), (1514, .iconst 1, 1), (1515, .iadd, 1), (1516, .iaload, 1), (1517, .aload_n 0, 1), (1518, .iload_n 3, 1), (1519, .iconst 2, 1), (1520, .iadd, 1), (1521, .iaload, 1), (1522, .invokevirtual 182, 3), (1525, .pop, 1), (1526, .goto 216, 3), (1529, .aload_n 1, 1)]
def t_L_law_35 : List (Nat × Instr × Nat) := [(1530, .aload_n 0, 1), (1531, .iload_n 3, 1), (1532, .iconst 1, 1), (1533, .iadd, 1), (1534, .iaload, 1), (1535, .aload_n 0, 1), (1536, .iload_n 3, 1), (1537, .iconst 2, 1), (1538, .iadd, 1), (1539, .iaload, 1), (1540, .invokevirtual 183, 3), (1543, .pop, 1), (1544, .aload_n 2, 1), (1545, .aload_n 0, 1), (1546, .iload_n 3, 1), (1547, .iconst 1, 1), (1548, .iadd, 1), (1549, .iaload, 1), (1550, .aload_n 0, 1), (1551, .iload_n 3, 1), (1552, .iconst 2, 1), (1553, .iadd, 1), (1554, .iaload, 1), (1555, .invokevirtual 186, 3), (1558, .pop, 1), (1559, .goto 183, 3), (1562, .aload_n 1, 1), (1563, .aload_n 0, 1), (1564, .iload_n 3, 1), (1565, .iconst 1, 1)]
def t_L_law_36 : List (Nat × Instr × Nat) := [(1566, .iadd, 1), (1567, .iaload, 1), (1568, .invokevirtual 187, 3), (1571, .pop, 1), (1572, .aload_n 2, 1), (1573, .aload_n 0, 1), (1574, .iload_n 3, 1), (1575, .iconst 1, 1), (1576, .iadd, 1), (1577, .iaload, 1), (1578, .invokevirtual 190, 3), (1581, .pop, 1), (1582, .goto 160, 3), (1585, .aload_n 1, 1), (1586, .aload_n 0, 1), (1587, .iload_n 3, 1), (1588, .iconst 1, 1), (1589, .iadd, 1), (1590, .iaload, 1), (1591, .invokevirtual 191, 3), (1594, .pop, 1), (1595, .aload_n 2, 1), (1596, .aload_n 0, 1), (1597, .iload_n 3, 1), (1598, .iconst 1, 1), (1599, .iadd, 1), (1600, .iaload, 1), (1601, .invokevirtual 194, 3), (1604, .pop, 1), (1605, .goto 137, 3)]
def t_L_law_37 : List (Nat × Instr × Nat) := [(1608, .aload_n 1, 1), (1609, .aload_n 0, 1), (1610, .iload_n 3, 1), (1611, .iconst 1, 1), (1612, .iadd, 1), (1613, .iaload, 1), (1614, .invokevirtual 195, 3), (1617, .pop, 1), (1618, .aload_n 2, 1), (1619, .aload_n 0, 1), (1620, .iload_n 3, 1), (1621, .iconst 1, 1), (1622, .iadd, 1), (1623, .iaload, 1), (1624, .invokevirtual 198, 3), (1627, .pop, 1), (1628, .goto 114, 3), (1631, .aload_n 1, 1), (1632, .invokevirtual 199, 3), (1635, .pop, 1), (1636, .aload_n 2, 1), (1637, .invokevirtual 202, 3), (1640, .pop, 1), (1641, .goto 101, 3), (1644, .aload_n 1, 1), (1645, .invokevirtual 203, 3), (1648, .pop2, 1), (1649, .aload_n 2, 1), (1650, .invokevirtual 207, 3), (1653, .pop2, 1)]
def t_L_law_38 : List (Nat × Instr × Nat) := [(1654, .goto 88, 3), (1657, .aload_n 1, 1), (1658, .invokevirtual 208, 3), (1661, .pop2, 1), (1662, .aload_n 2, 1), (1663, .invokevirtual 211, 3), (1666, .pop2, 1), (1667, .goto 75, 3), (1670, .aload_n 1, 1), (1671, .aload_n 0, 1), (1672, .iload_n 3, 1), (1673, .iconst 1, 1), (1674, .iadd, 1), (1675, .iaload, 1), (1676, .invokevirtual 212, 3), (1679, .pop, 1), (1680, .aload_n 2, 1), (1681, .aload_n 0, 1), (1682, .iload_n 3, 1), (1683, .iconst 1, 1), (1684, .iadd, 1), (1685, .iaload, 1), (1686, .invokevirtual 215, 3), (1689, .pop, 1), (1690, .goto 52, 3), (1693, .aload_n 1, 1), (1694, .invokevirtual 216, 3), (1697, .pop, 1), (1698, .aload_n 2, 1), (1699, .invokevirtual 219, 3)]
def t_L_law_39 : List (Nat × Instr × Nat) := [(1702, .pop, 1), (1703, .goto 39, 3), (1706, .aload_n 1, 1), (1707, .aload_n 0, 1), (1708, .iload_n 3, 1), (1709, .iconst 1, 1), (1710, .iadd, 1), (1711, .iaload, 1), (1712, .invokevirtual 220, 3), (1715, .pop, 1), (1716, .aload_n 2, 1), (1717, .aload_n 0, 1), (1718, .iload_n 3, 1), (1719, .iconst 1, 1), (1720, .iadd, 1), (1721, .iaload, 1), (1722, .invokevirtual 223, 3), (1725, .pop, 1), (1726, .goto 16, 3), (1729, .aload_n 1, 1), (1730, .invokevirtual 224, 3), (1733, .pop2, 1), (1734, .aload_n 2, 1), (1735, .invokevirtual 227, 3), (1738, .pop2, 1), (1739, .goto 3, 3), (1742, .iinc 3 6, 3), (1745, .goto (-1727), 3), (1748, .iconst 1, 1), (1749, .ireturn, 1)]
theorem d_L_law : wkk code [t_L_law_0, t_L_law_1, t_L_law_2, t_L_law_3, t_L_law_4, t_L_law_5, t_L_law_6, t_L_law_7, t_L_law_8, t_L_law_9, t_L_law_10, t_L_law_11, t_L_law_12, t_L_law_13, t_L_law_14, t_L_law_15, t_L_law_16, t_L_law_17, t_L_law_18, t_L_law_19, t_L_law_20, t_L_law_21, t_L_law_22, t_L_law_23, t_L_law_24, t_L_law_25, t_L_law_26, t_L_law_27, t_L_law_28, t_L_law_29, t_L_law_30, t_L_law_31, t_L_law_32, t_L_law_33, t_L_law_34, t_L_law_35, t_L_law_36, t_L_law_37, t_L_law_38, t_L_law_39] code.data.toList 0 = true := by decide +kernel
theorem d_L_law_0 : ∀ q ∈ t_L_law_0, decode code q.1 = .ok q.2 := wkd d_L_law (j := 0) rfl
theorem d_L_law_1 : ∀ q ∈ t_L_law_1, decode code q.1 = .ok q.2 := wkd d_L_law (j := 1) rfl
theorem d_L_law_2 : ∀ q ∈ t_L_law_2, decode code q.1 = .ok q.2 := wkd d_L_law (j := 2) rfl
theorem d_L_law_3 : ∀ q ∈ t_L_law_3, decode code q.1 = .ok q.2 := wkd d_L_law (j := 3) rfl
theorem d_L_law_4 : ∀ q ∈ t_L_law_4, decode code q.1 = .ok q.2 := wkd d_L_law (j := 4) rfl
theorem d_L_law_5 : ∀ q ∈ t_L_law_5, decode code q.1 = .ok q.2 := wkd d_L_law (j := 5) rfl
theorem d_L_law_6 : ∀ q ∈ t_L_law_6, decode code q.1 = .ok q.2 := wkd d_L_law (j := 6) rfl
theorem d_L_law_7 : ∀ q ∈ t_L_law_7, decode code q.1 = .ok q.2 := wkd d_L_law (j := 7) rfl
theorem d_L_law_8 : ∀ q ∈ t_L_law_8, decode code q.1 = .ok q.2 := wkd d_L_law (j := 8) rfl
theorem d_L_law_9 : ∀ q ∈ t_L_law_9, decode code q.1 = .ok q.2 := wkd d_L_law (j := 9) rfl
theorem d_L_law_10 : ∀ q ∈ t_L_law_10, decode code q.1 = .ok q.2 := wkd d_L_law (j := 10) rfl
theorem d_L_law_11 : ∀ q ∈ t_L_law_11, decode code q.1 = .ok q.2 := wkd d_L_law (j := 11) rfl
theorem d_L_law_12 : ∀ q ∈ t_L_law_12, decode code q.1 = .ok q.2 := wkd d_L_law (j := 12) rfl
theorem d_L_law_13 : ∀ q ∈ t_L_law_13, decode code q.1 = .ok q.2 := wkd d_L_law (j := 13) rfl
theorem d_L_law_14 : ∀ q ∈ t_L_law_14, decode code q.1 = .ok q.2 := wkd d_L_law (j := 14) rfl
theorem d_L_law_15 : ∀ q ∈ t_L_law_15, decode code q.1 = .ok q.2 := wkd d_L_law (j := 15) rfl
theorem d_L_law_16 : ∀ q ∈ t_L_law_16, decode code q.1 = .ok q.2 := wkd d_L_law (j := 16) rfl
theorem d_L_law_17 : ∀ q ∈ t_L_law_17, decode code q.1 = .ok q.2 := wkd d_L_law (j := 17) rfl
theorem d_L_law_18 : ∀ q ∈ t_L_law_18, decode code q.1 = .ok q.2 := wkd d_L_law (j := 18) rfl
theorem d_L_law_19 : ∀ q ∈ t_L_law_19, decode code q.1 = .ok q.2 := wkd d_L_law (j := 19) rfl
theorem d_L_law_20 : ∀ q ∈ t_L_law_20, decode code q.1 = .ok q.2 := wkd d_L_law (j := 20) rfl
theorem d_L_law_21 : ∀ q ∈ t_L_law_21, decode code q.1 = .ok q.2 := wkd d_L_law (j := 21) rfl
theorem d_L_law_22 : ∀ q ∈ t_L_law_22, decode code q.1 = .ok q.2 := wkd d_L_law (j := 22) rfl
theorem d_L_law_23 : ∀ q ∈ t_L_law_23, decode code q.1 = .ok q.2 := wkd d_L_law (j := 23) rfl
theorem d_L_law_24 : ∀ q ∈ t_L_law_24, decode code q.1 = .ok q.2 := wkd d_L_law (j := 24) rfl
theorem d_L_law_25 : ∀ q ∈ t_L_law_25, decode code q.1 = .ok q.2 := wkd d_L_law (j := 25) rfl
theorem d_L_law_26 : ∀ q ∈ t_L_law_26, decode code q.1 = .ok q.2 := wkd d_L_law (j := 26) rfl
theorem d_L_law_27 : ∀ q ∈ t_L_law_27, decode code q.1 = .ok q.2 := wkd d_L_law (j := 27) rfl
theorem d_L_law_28 : ∀ q ∈ t_L_law_28, decode code q.1 = .ok q.2 := wkd d_L_law (j := 28) rfl
theorem d_L_law_29 : ∀ q ∈ t_L_law_29, decode code q.1 = .ok q.2 := wkd d_L_law (j := 29) rfl
theorem d_L_law_30 : ∀ q ∈ t_L_law_30, decode code q.1 = .ok q.2 := wkd d_L_law (j := 30) rfl
theorem d_L_law_31 : ∀ q ∈ t_L_law_31, decode code q.1 = .ok q.2 := wkd d_L_law (j := 31) rfl
theorem d_L_law_32 : ∀ q ∈ t_L_law_32, decode code q.1 = .ok q.2 := wkd d_L_law (j := 32) rfl
theorem d_L_law_33 : ∀ q ∈ t_L_law_33, decode code q.1 = .ok q.2 := wkd d_L_law (j := 33) rfl
theorem d_L_law_34 : ∀ q ∈ t_L_law_34, decode code q.1 = .ok q.2 := wkd d_L_law (j := 34) rfl
theorem d_L_law_35 : ∀ q ∈ t_L_law_35, decode code q.1 = .ok q.2 := wkd d_L_law (j := 35) rfl
theorem d_L_law_36 : ∀ q ∈ t_L_law_36, decode code q.1 = .ok q.2 := wkd d_L_law (j := 36) rfl
theorem d_L_law_37 : ∀ q ∈ t_L_law_37, decode code q.1 = .ok q.2 := wkd d_L_law (j := 37) rfl
theorem d_L_law_38 : ∀ q ∈ t_L_law_38, decode code q.1 = .ok q.2 := wkd d_L_law (j := 38) rfl
theorem d_L_law_39 : ∀ q ∈ t_L_law_39, decode code q.1 = .ok q.2 := wkd d_L_law (j := 39) rfl
end
