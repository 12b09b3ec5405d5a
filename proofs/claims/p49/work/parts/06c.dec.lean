/-! a walk over the bytes of a method: what stands at each place, shown by one table of opcodes -/
def At (c : ByteArray) (p : Nat) (l : List UInt8) : Prop := c.data.toList.drop p = l
theorem at_tl {c : ByteArray} {p : Nat} {b : UInt8} {l : List UInt8} (h : At c p (b :: l)) : At c (p + 1) l := by
  have e := congrArg List.tail h
  rw [List.tail_drop] at e
  exact e
theorem at_lt {c : ByteArray} {p : Nat} {b : UInt8} {l : List UInt8} (h : At c p (b :: l)) : ∃ hp : p < c.size, c[p] = b := by
  have h0 : p < c.data.toList.length := by
    rcases Nat.lt_or_ge p c.data.toList.length with h1 | h1
    · exact h1
    · exact absurd (h.symm.trans (List.drop_eq_nil_of_le h1)) (List.cons_ne_nil _ _)
  have e : c.data.toList[p] :: c.data.toList.drop (p + 1) = b :: l := (List.drop_eq_getElem_cons h0).symm.trans h
  exact ⟨h0, (List.cons.inj e).1⟩
theorem at_dr {c : ByteArray} {p : Nat} {l : List UInt8} (n : Nat) (h : At c p l) : At c (p + n) (l.drop n) := by
  unfold At at *
  subst h
  rw [List.drop_drop]
theorem u1_at {c : ByteArray} {p : Nat} {b : UInt8} {l : List UInt8} (h : At c p (b :: l)) : (Jvm.ClassFile.Reader.u1 : Jvm.ClassFile.Decoder Nat) c p = .ok (b.toNat, p + 1) := by
  obtain ⟨hp, e⟩ := at_lt h
  show (dite (p < c.size) (fun h => (do set (p + 1); pure c[p].toNat : Jvm.ClassFile.Decoder Nat)) (fun _ => (throw (Jvm.ClassFile.HasTruncated.truncated p) : Jvm.ClassFile.Decoder Nat))) c p = _
  rw [dif_pos hp]
  show Except.ok (c[p].toNat, p + 1) = _
  rw [e]
theorem bind_at {α β : Type} {m : Jvm.ClassFile.Decoder α} {f : α → Jvm.ClassFile.Decoder β} {c : ByteArray} {p q : Nat} {a : α} (h : m c p = .ok (a, q)) : (m >>= f) c p = f a c q := by
  have e : (m >>= f) c p = (m c p).bind (fun x => f x.1 c x.2) := rfl
  rw [e, h]
  rfl
theorem map_at {α β : Type} {m : Jvm.ClassFile.Decoder α} {f : α → β} {c : ByteArray} {p q : Nat} {a : α} (h : m c p = .ok (a, q)) : (f <$> m) c p = .ok (f a, q) := by
  have e : (f <$> m) c p = (m c p).bind (fun x => .ok (f x.1, x.2)) := rfl
  rw [e, h]
  rfl
theorem u2_at {c : ByteArray} {p : Nat} {a b : UInt8} {l : List UInt8} (h : At c p (a :: b :: l)) : (Jvm.ClassFile.Reader.u2 : Jvm.ClassFile.Decoder Nat) c p = .ok (a.toNat * 256 + b.toNat, p + 2) := by
  unfold Jvm.ClassFile.Reader.u2
  rw [bind_at (u1_at h), bind_at (u1_at (at_tl h))]
  rfl
theorem s1_at {c : ByteArray} {p : Nat} {b : UInt8} {l : List UInt8} (h : At c p (b :: l)) : (Jvm.ClassFile.Reader.s1 : Jvm.ClassFile.Decoder Int) c p = .ok (Jvm.ClassFile.Reader.signed 8 b.toNat, p + 1) := map_at (u1_at h)
theorem s2_at {c : ByteArray} {p : Nat} {a b : UInt8} {l : List UInt8} (h : At c p (a :: b :: l)) : (Jvm.ClassFile.Reader.s2 : Jvm.ClassFile.Decoder Int) c p = .ok (Jvm.ClassFile.Reader.signed 16 (a.toNat * 256 + b.toNat), p + 2) := map_at (u2_at h)
theorem opx {F : Nat → Jvm.ClassFile.Decoder Instr} {c : ByteArray} {p k : Nat} {b : UInt8} {l : List UInt8} (e : Jvm.ClassFile.Decoder.instr p = Jvm.ClassFile.Reader.u1 >>= F) (h : At c p (b :: l)) (hb : b.toNat = k) : Jvm.ClassFile.Decoder.instr p c p = F k c (p + 1) := by
  rw [e, bind_at (u1_at h), hb]
abbrev OPx : Type := Nat × (List UInt8 → Option Instr)
def OKx (k : Nat) (e : OPx) : Prop := ∀ (c : ByteArray) (p : Nat) (b : UInt8) (l : List UInt8) (i : Instr), At c p (b :: l) → b.toNat = k → e.2 l = some i → Jvm.ClassFile.Decoder.instr p c p = .ok (i, p + e.1)
def zN : OPx := (0, fun _ => none)
def z0 (i : Instr) : OPx := (1, fun _ => some i)
def z1 (g : Nat → Instr) : OPx := (2, fun l => match l with | a :: _ => some (g a.toNat) | [] => none)
def z1s (g : Int → Instr) : OPx := (2, fun l => match l with | a :: _ => some (g (Jvm.ClassFile.Reader.signed 8 a.toNat)) | [] => none)
def z2 (g : Nat → Instr) : OPx := (3, fun l => match l with | a :: b :: _ => some (g (a.toNat * 256 + b.toNat)) | _ => none)
def z2s (g : Int → Instr) : OPx := (3, fun l => match l with | a :: b :: _ => some (g (Jvm.ClassFile.Reader.signed 16 (a.toNat * 256 + b.toNat))) | _ => none)
def z11 (g : Nat → Int → Instr) : OPx := (3, fun l => match l with | a :: b :: _ => some (g a.toNat (Jvm.ClassFile.Reader.signed 8 b.toNat)) | _ => none)
theorem wN (k : Nat) : OKx k zN := by
  intro c p b l j h hb he
  cases he
theorem w0 {k : Nat} {g : Instr} (H : ∀ (c : ByteArray) (p : Nat) (b : UInt8) (l : List UInt8), At c p (b :: l) → b.toNat = k → Jvm.ClassFile.Decoder.instr p c p = (pure g : Jvm.ClassFile.Decoder Instr) c (p + 1)) : OKx k (z0 g) := by
  intro c p b l j h hb he
  cases he
  exact H c p b l h hb
theorem w1 {k : Nat} {g : Nat → Instr} (H : ∀ (c : ByteArray) (p : Nat) (b : UInt8) (l : List UInt8), At c p (b :: l) → b.toNat = k → Jvm.ClassFile.Decoder.instr p c p = (Jvm.ClassFile.Reader.u1 >>= fun x => pure (g x) : Jvm.ClassFile.Decoder Instr) c (p + 1)) : OKx k (z1 g) := by
  intro c p b l j h hb he
  cases l with
  | nil => cases he
  | cons x r =>
    cases he
    exact (H c p b _ h hb).trans (bind_at (u1_at (at_tl h)))
theorem w1s {k : Nat} {g : Int → Instr} (H : ∀ (c : ByteArray) (p : Nat) (b : UInt8) (l : List UInt8), At c p (b :: l) → b.toNat = k → Jvm.ClassFile.Decoder.instr p c p = (Jvm.ClassFile.Reader.s1 >>= fun x => pure (g x) : Jvm.ClassFile.Decoder Instr) c (p + 1)) : OKx k (z1s g) := by
  intro c p b l j h hb he
  cases l with
  | nil => cases he
  | cons x r =>
    cases he
    exact (H c p b _ h hb).trans (bind_at (s1_at (at_tl h)))
theorem w2 {k : Nat} {g : Nat → Instr} (H : ∀ (c : ByteArray) (p : Nat) (b : UInt8) (l : List UInt8), At c p (b :: l) → b.toNat = k → Jvm.ClassFile.Decoder.instr p c p = (Jvm.ClassFile.Reader.u2 >>= fun x => pure (g x) : Jvm.ClassFile.Decoder Instr) c (p + 1)) : OKx k (z2 g) := by
  intro c p b l j h hb he
  cases l with
  | nil => cases he
  | cons x r =>
    cases r with
    | nil => cases he
    | cons y r =>
      cases he
      exact (H c p b _ h hb).trans (bind_at (u2_at (at_tl h)))
theorem w2s {k : Nat} {g : Int → Instr} (H : ∀ (c : ByteArray) (p : Nat) (b : UInt8) (l : List UInt8), At c p (b :: l) → b.toNat = k → Jvm.ClassFile.Decoder.instr p c p = (Jvm.ClassFile.Reader.s2 >>= fun x => pure (g x) : Jvm.ClassFile.Decoder Instr) c (p + 1)) : OKx k (z2s g) := by
  intro c p b l j h hb he
  cases l with
  | nil => cases he
  | cons x r =>
    cases r with
    | nil => cases he
    | cons y r =>
      cases he
      exact (H c p b _ h hb).trans (bind_at (s2_at (at_tl h)))
theorem w11 {k : Nat} {g : Nat → Int → Instr} (H : ∀ (c : ByteArray) (p : Nat) (b : UInt8) (l : List UInt8), At c p (b :: l) → b.toNat = k → Jvm.ClassFile.Decoder.instr p c p = (Jvm.ClassFile.Reader.u1 >>= fun x => Jvm.ClassFile.Reader.s1 >>= fun y => pure (g x y) : Jvm.ClassFile.Decoder Instr) c (p + 1)) : OKx k (z11 g) := by
  intro c p b l j h hb he
  cases l with
  | nil => cases he
  | cons x r =>
    cases r with
    | nil => cases he
    | cons y r =>
      cases he
      exact (H c p b _ h hb).trans ((bind_at (u1_at (at_tl h))).trans (bind_at (s1_at (at_tl (at_tl h)))))
theorem o_2 : OKx 2 (z0 (.iconst (-1))) := w0 fun c p b l h hb => by
  have e := opx rfl h hb
  exact e
theorem o_3 : OKx 3 (z0 (.iconst 0)) := w0 fun c p b l h hb => by
  have e := opx rfl h hb
  exact e
theorem o_4 : OKx 4 (z0 (.iconst 1)) := w0 fun c p b l h hb => by
  have e := opx rfl h hb
  exact e
theorem o_5 : OKx 5 (z0 (.iconst 2)) := w0 fun c p b l h hb => by
  have e := opx rfl h hb
  exact e
theorem o_6 : OKx 6 (z0 (.iconst 3)) := w0 fun c p b l h hb => by
  have e := opx rfl h hb
  exact e
theorem o_7 : OKx 7 (z0 (.iconst 4)) := w0 fun c p b l h hb => by
  have e := opx rfl h hb
  exact e
theorem o_8 : OKx 8 (z0 (.iconst 5)) := w0 fun c p b l h hb => by
  have e := opx rfl h hb
  exact e
theorem o_9 : OKx 9 (z0 (.lconst 0)) := w0 fun c p b l h hb => by
  have e := opx rfl h hb
  exact e
theorem o_10 : OKx 10 (z0 (.lconst 1)) := w0 fun c p b l h hb => by
  have e := opx rfl h hb
  exact e
theorem o_16 : OKx 16 (z1s .bipush) := w1s fun c p b l h hb => by
  have e := opx rfl h hb
  exact e
theorem o_17 : OKx 17 (z2s .sipush) := w2s fun c p b l h hb => by
  have e := opx rfl h hb
  exact e
theorem o_18 : OKx 18 (z1 .ldc) := w1 fun c p b l h hb => by
  have e := opx rfl h hb
  exact e
theorem o_19 : OKx 19 (z2 .ldc_w) := w2 fun c p b l h hb => by
  have e := opx rfl h hb
  exact e
theorem o_20 : OKx 20 (z2 .ldc2_w) := w2 fun c p b l h hb => by
  have e := opx rfl h hb
  exact e
theorem o_21 : OKx 21 (z1 .iload) := w1 fun c p b l h hb => by
  have e := opx rfl h hb
  exact e
theorem o_22 : OKx 22 (z1 .lload) := w1 fun c p b l h hb => by
  have e := opx rfl h hb
  exact e
theorem o_25 : OKx 25 (z1 .aload) := w1 fun c p b l h hb => by
  have e := opx rfl h hb
  exact e
theorem o_26 : OKx 26 (z0 (.iload_n 0)) := w0 fun c p b l h hb => by
  have e := opx rfl h hb
  exact e
theorem o_27 : OKx 27 (z0 (.iload_n 1)) := w0 fun c p b l h hb => by
  have e := opx rfl h hb
  exact e
theorem o_28 : OKx 28 (z0 (.iload_n 2)) := w0 fun c p b l h hb => by
  have e := opx rfl h hb
  exact e
theorem o_29 : OKx 29 (z0 (.iload_n 3)) := w0 fun c p b l h hb => by
  have e := opx rfl h hb
  exact e
theorem o_30 : OKx 30 (z0 (.lload_n 0)) := w0 fun c p b l h hb => by
  have e := opx rfl h hb
  exact e
theorem o_31 : OKx 31 (z0 (.lload_n 1)) := w0 fun c p b l h hb => by
  have e := opx rfl h hb
  exact e
theorem o_32 : OKx 32 (z0 (.lload_n 2)) := w0 fun c p b l h hb => by
  have e := opx rfl h hb
  exact e
theorem o_33 : OKx 33 (z0 (.lload_n 3)) := w0 fun c p b l h hb => by
  have e := opx rfl h hb
  exact e
theorem o_42 : OKx 42 (z0 (.aload_n 0)) := w0 fun c p b l h hb => by
  have e := opx rfl h hb
  exact e
theorem o_43 : OKx 43 (z0 (.aload_n 1)) := w0 fun c p b l h hb => by
  have e := opx rfl h hb
  exact e
theorem o_44 : OKx 44 (z0 (.aload_n 2)) := w0 fun c p b l h hb => by
  have e := opx rfl h hb
  exact e
theorem o_45 : OKx 45 (z0 (.aload_n 3)) := w0 fun c p b l h hb => by
  have e := opx rfl h hb
  exact e
theorem o_46 : OKx 46 (z0 .iaload) := w0 fun c p b l h hb => by
  have e := opx rfl h hb
  exact e
theorem o_47 : OKx 47 (z0 .laload) := w0 fun c p b l h hb => by
  have e := opx rfl h hb
  exact e
theorem o_50 : OKx 50 (z0 .aaload) := w0 fun c p b l h hb => by
  have e := opx rfl h hb
  exact e
theorem o_54 : OKx 54 (z1 .istore) := w1 fun c p b l h hb => by
  have e := opx rfl h hb
  exact e
theorem o_55 : OKx 55 (z1 .lstore) := w1 fun c p b l h hb => by
  have e := opx rfl h hb
  exact e
theorem o_58 : OKx 58 (z1 .astore) := w1 fun c p b l h hb => by
  have e := opx rfl h hb
  exact e
theorem o_59 : OKx 59 (z0 (.istore_n 0)) := w0 fun c p b l h hb => by
  have e := opx rfl h hb
  exact e
theorem o_60 : OKx 60 (z0 (.istore_n 1)) := w0 fun c p b l h hb => by
  have e := opx rfl h hb
  exact e
theorem o_61 : OKx 61 (z0 (.istore_n 2)) := w0 fun c p b l h hb => by
  have e := opx rfl h hb
  exact e
theorem o_62 : OKx 62 (z0 (.istore_n 3)) := w0 fun c p b l h hb => by
  have e := opx rfl h hb
  exact e
theorem o_63 : OKx 63 (z0 (.lstore_n 0)) := w0 fun c p b l h hb => by
  have e := opx rfl h hb
  exact e
theorem o_64 : OKx 64 (z0 (.lstore_n 1)) := w0 fun c p b l h hb => by
  have e := opx rfl h hb
  exact e
theorem o_65 : OKx 65 (z0 (.lstore_n 2)) := w0 fun c p b l h hb => by
  have e := opx rfl h hb
  exact e
theorem o_66 : OKx 66 (z0 (.lstore_n 3)) := w0 fun c p b l h hb => by
  have e := opx rfl h hb
  exact e
theorem o_75 : OKx 75 (z0 (.astore_n 0)) := w0 fun c p b l h hb => by
  have e := opx rfl h hb
  exact e
theorem o_76 : OKx 76 (z0 (.astore_n 1)) := w0 fun c p b l h hb => by
  have e := opx rfl h hb
  exact e
theorem o_77 : OKx 77 (z0 (.astore_n 2)) := w0 fun c p b l h hb => by
  have e := opx rfl h hb
  exact e
theorem o_78 : OKx 78 (z0 (.astore_n 3)) := w0 fun c p b l h hb => by
  have e := opx rfl h hb
  exact e
theorem o_79 : OKx 79 (z0 .iastore) := w0 fun c p b l h hb => by
  have e := opx rfl h hb
  exact e
theorem o_80 : OKx 80 (z0 .lastore) := w0 fun c p b l h hb => by
  have e := opx rfl h hb
  exact e
theorem o_83 : OKx 83 (z0 .aastore) := w0 fun c p b l h hb => by
  have e := opx rfl h hb
  exact e
theorem o_87 : OKx 87 (z0 .pop) := w0 fun c p b l h hb => by
  have e := opx rfl h hb
  exact e
theorem o_88 : OKx 88 (z0 .pop2) := w0 fun c p b l h hb => by
  have e := opx rfl h hb
  exact e
theorem o_89 : OKx 89 (z0 .dup) := w0 fun c p b l h hb => by
  have e := opx rfl h hb
  exact e
theorem o_92 : OKx 92 (z0 .dup2) := w0 fun c p b l h hb => by
  have e := opx rfl h hb
  exact e
theorem o_96 : OKx 96 (z0 .iadd) := w0 fun c p b l h hb => by
  have e := opx rfl h hb
  exact e
theorem o_97 : OKx 97 (z0 .ladd) := w0 fun c p b l h hb => by
  have e := opx rfl h hb
  exact e
theorem o_100 : OKx 100 (z0 .isub) := w0 fun c p b l h hb => by
  have e := opx rfl h hb
  exact e
theorem o_101 : OKx 101 (z0 .lsub) := w0 fun c p b l h hb => by
  have e := opx rfl h hb
  exact e
theorem o_104 : OKx 104 (z0 .imul) := w0 fun c p b l h hb => by
  have e := opx rfl h hb
  exact e
theorem o_105 : OKx 105 (z0 .lmul) := w0 fun c p b l h hb => by
  have e := opx rfl h hb
  exact e
theorem o_108 : OKx 108 (z0 .idiv) := w0 fun c p b l h hb => by
  have e := opx rfl h hb
  exact e
theorem o_109 : OKx 109 (z0 .ldiv) := w0 fun c p b l h hb => by
  have e := opx rfl h hb
  exact e
theorem o_112 : OKx 112 (z0 .irem) := w0 fun c p b l h hb => by
  have e := opx rfl h hb
  exact e
theorem o_113 : OKx 113 (z0 .lrem) := w0 fun c p b l h hb => by
  have e := opx rfl h hb
  exact e
theorem o_116 : OKx 116 (z0 .ineg) := w0 fun c p b l h hb => by
  have e := opx rfl h hb
  exact e
theorem o_120 : OKx 120 (z0 .ishl) := w0 fun c p b l h hb => by
  have e := opx rfl h hb
  exact e
theorem o_122 : OKx 122 (z0 .ishr) := w0 fun c p b l h hb => by
  have e := opx rfl h hb
  exact e
theorem o_124 : OKx 124 (z0 .iushr) := w0 fun c p b l h hb => by
  have e := opx rfl h hb
  exact e
theorem o_126 : OKx 126 (z0 .iand) := w0 fun c p b l h hb => by
  have e := opx rfl h hb
  exact e
theorem o_128 : OKx 128 (z0 .ior) := w0 fun c p b l h hb => by
  have e := opx rfl h hb
  exact e
theorem o_130 : OKx 130 (z0 .ixor) := w0 fun c p b l h hb => by
  have e := opx rfl h hb
  exact e
theorem o_132 : OKx 132 (z11 .iinc) := w11 fun c p b l h hb => by
  have e := opx rfl h hb
  exact e
theorem o_133 : OKx 133 (z0 .i2l) := w0 fun c p b l h hb => by
  have e := opx rfl h hb
  exact e
theorem o_136 : OKx 136 (z0 .l2i) := w0 fun c p b l h hb => by
  have e := opx rfl h hb
  exact e
theorem o_148 : OKx 148 (z0 .lcmp) := w0 fun c p b l h hb => by
  have e := opx rfl h hb
  exact e
theorem o_153 : OKx 153 (z2s (.ifCond .eq)) := w2s fun c p b l h hb => by
  have e := opx rfl h hb
  exact e
theorem o_154 : OKx 154 (z2s (.ifCond .ne)) := w2s fun c p b l h hb => by
  have e := opx rfl h hb
  exact e
theorem o_155 : OKx 155 (z2s (.ifCond .lt)) := w2s fun c p b l h hb => by
  have e := opx rfl h hb
  exact e
theorem o_156 : OKx 156 (z2s (.ifCond .ge)) := w2s fun c p b l h hb => by
  have e := opx rfl h hb
  exact e
theorem o_157 : OKx 157 (z2s (.ifCond .gt)) := w2s fun c p b l h hb => by
  have e := opx rfl h hb
  exact e
theorem o_158 : OKx 158 (z2s (.ifCond .le)) := w2s fun c p b l h hb => by
  have e := opx rfl h hb
  exact e
theorem o_159 : OKx 159 (z2s (.if_icmp .eq)) := w2s fun c p b l h hb => by
  have e := opx rfl h hb
  exact e
theorem o_160 : OKx 160 (z2s (.if_icmp .ne)) := w2s fun c p b l h hb => by
  have e := opx rfl h hb
  exact e
theorem o_161 : OKx 161 (z2s (.if_icmp .lt)) := w2s fun c p b l h hb => by
  have e := opx rfl h hb
  exact e
theorem o_162 : OKx 162 (z2s (.if_icmp .ge)) := w2s fun c p b l h hb => by
  have e := opx rfl h hb
  exact e
theorem o_163 : OKx 163 (z2s (.if_icmp .gt)) := w2s fun c p b l h hb => by
  have e := opx rfl h hb
  exact e
theorem o_164 : OKx 164 (z2s (.if_icmp .le)) := w2s fun c p b l h hb => by
  have e := opx rfl h hb
  exact e
theorem o_167 : OKx 167 (z2s .goto) := w2s fun c p b l h hb => by
  have e := opx rfl h hb
  exact e
theorem o_172 : OKx 172 (z0 .ireturn) := w0 fun c p b l h hb => by
  have e := opx rfl h hb
  exact e
theorem o_173 : OKx 173 (z0 .lreturn) := w0 fun c p b l h hb => by
  have e := opx rfl h hb
  exact e
theorem o_176 : OKx 176 (z0 .areturn) := w0 fun c p b l h hb => by
  have e := opx rfl h hb
  exact e
theorem o_177 : OKx 177 (z0 .return_) := w0 fun c p b l h hb => by
  have e := opx rfl h hb
  exact e
theorem o_178 : OKx 178 (z2 .getstatic) := w2 fun c p b l h hb => by
  have e := opx rfl h hb
  exact e
theorem o_180 : OKx 180 (z2 .getfield) := w2 fun c p b l h hb => by
  have e := opx rfl h hb
  exact e
theorem o_181 : OKx 181 (z2 .putfield) := w2 fun c p b l h hb => by
  have e := opx rfl h hb
  exact e
theorem o_182 : OKx 182 (z2 .invokevirtual) := w2 fun c p b l h hb => by
  have e := opx rfl h hb
  exact e
theorem o_183 : OKx 183 (z2 .invokespecial) := w2 fun c p b l h hb => by
  have e := opx rfl h hb
  exact e
theorem o_184 : OKx 184 (z2 .invokestatic) := w2 fun c p b l h hb => by
  have e := opx rfl h hb
  exact e
theorem o_187 : OKx 187 (z2 .new) := w2 fun c p b l h hb => by
  have e := opx rfl h hb
  exact e
theorem o_189 : OKx 189 (z2 .anewarray) := w2 fun c p b l h hb => by
  have e := opx rfl h hb
  exact e
theorem o_190 : OKx 190 (z0 .arraylength) := w0 fun c p b l h hb => by
  have e := opx rfl h hb
  exact e
def TX : List (List OPx) := [[zN, zN, z0 (.iconst (-1)), z0 (.iconst 0), z0 (.iconst 1), z0 (.iconst 2), z0 (.iconst 3), z0 (.iconst 4), z0 (.iconst 5), z0 (.lconst 0), z0 (.lconst 1), zN, zN, zN, zN, zN], [z1s .bipush, z2s .sipush, z1 .ldc, z2 .ldc_w, z2 .ldc2_w, z1 .iload, z1 .lload, zN, zN, z1 .aload, z0 (.iload_n 0), z0 (.iload_n 1), z0 (.iload_n 2), z0 (.iload_n 3), z0 (.lload_n 0), z0 (.lload_n 1)], [z0 (.lload_n 2), z0 (.lload_n 3), zN, zN, zN, zN, zN, zN, zN, zN, z0 (.aload_n 0), z0 (.aload_n 1), z0 (.aload_n 2), z0 (.aload_n 3), z0 .iaload, z0 .laload], [zN, zN, z0 .aaload, zN, zN, zN, z1 .istore, z1 .lstore, zN, zN, z1 .astore, z0 (.istore_n 0), z0 (.istore_n 1), z0 (.istore_n 2), z0 (.istore_n 3), z0 (.lstore_n 0)], [z0 (.lstore_n 1), z0 (.lstore_n 2), z0 (.lstore_n 3), zN, zN, zN, zN, zN, zN, zN, zN, z0 (.astore_n 0), z0 (.astore_n 1), z0 (.astore_n 2), z0 (.astore_n 3), z0 .iastore], [z0 .lastore, zN, zN, z0 .aastore, zN, zN, zN, z0 .pop, z0 .pop2, z0 .dup, zN, zN, z0 .dup2, zN, zN, zN], [z0 .iadd, z0 .ladd, zN, zN, z0 .isub, z0 .lsub, zN, zN, z0 .imul, z0 .lmul, zN, zN, z0 .idiv, z0 .ldiv, zN, zN], [z0 .irem, z0 .lrem, zN, zN, z0 .ineg, zN, zN, zN, z0 .ishl, zN, z0 .ishr, zN, z0 .iushr, zN, z0 .iand, zN], [z0 .ior, zN, z0 .ixor, zN, z11 .iinc, z0 .i2l, zN, zN, z0 .l2i, zN, zN, zN, zN, zN, zN, zN], [zN, zN, zN, zN, z0 .lcmp, zN, zN, zN, zN, z2s (.ifCond .eq), z2s (.ifCond .ne), z2s (.ifCond .lt), z2s (.ifCond .ge), z2s (.ifCond .gt), z2s (.ifCond .le), z2s (.if_icmp .eq)], [z2s (.if_icmp .ne), z2s (.if_icmp .lt), z2s (.if_icmp .ge), z2s (.if_icmp .gt), z2s (.if_icmp .le), zN, zN, z2s .goto, zN, zN, zN, zN, z0 .ireturn, z0 .lreturn, zN, zN], [z0 .areturn, z0 .return_, z2 .getstatic, zN, z2 .getfield, z2 .putfield, z2 .invokevirtual, z2 .invokespecial, z2 .invokestatic, zN, zN, z2 .new, zN, z2 .anewarray, z0 .arraylength, zN]]
def AllX : Nat → List OPx → Prop
  | _, [] => True
  | k, e :: t => OKx k e ∧ AllX (k + 1) t
theorem allx {k j : Nat} {t : List OPx} {e : OPx} (h : AllX k t) (he : t[j]? = some e) : OKx (k + j) e := by
  induction t generalizing k j with
  | nil => simp at he
  | cons a t ih =>
    cases j with
    | zero => simp at he; subst he; exact h.1
    | succ j =>
      rw [List.getElem?_cons_succ] at he
      have r := ih (k := k + 1) (j := j) h.2 he
      rw [show k + 1 + j = k + (j + 1) by omega] at r
      exact r
def AllY : Nat → List (List OPx) → Prop
  | _, [] => True
  | k, e :: t => AllX k e ∧ AllY (k + 16) t
theorem ally {k j : Nat} {t : List (List OPx)} {e : List OPx} (h : AllY k t) (he : t[j]? = some e) : AllX (k + 16 * j) e := by
  induction t generalizing k j with
  | nil => simp at he
  | cons a t ih =>
    cases j with
    | zero => simp at he; subst he; exact h.1
    | succ j =>
      rw [List.getElem?_cons_succ] at he
      have r := ih (k := k + 16) (j := j) h.2 he
      rw [show k + 16 + 16 * j = k + 16 * (j + 1) by omega] at r
      exact r
theorem tx_ok : AllY 0 TX := ⟨⟨wN 0, wN 1, o_2, o_3, o_4, o_5, o_6, o_7, o_8, o_9, o_10, wN 11, wN 12, wN 13, wN 14, wN 15, trivial⟩, ⟨o_16, o_17, o_18, o_19, o_20, o_21, o_22, wN 23, wN 24, o_25, o_26, o_27, o_28, o_29, o_30, o_31, trivial⟩, ⟨o_32, o_33, wN 34, wN 35, wN 36, wN 37, wN 38, wN 39, wN 40, wN 41, o_42, o_43, o_44, o_45, o_46, o_47, trivial⟩, ⟨wN 48, wN 49, o_50, wN 51, wN 52, wN 53, o_54, o_55, wN 56, wN 57, o_58, o_59, o_60, o_61, o_62, o_63, trivial⟩, ⟨o_64, o_65, o_66, wN 67, wN 68, wN 69, wN 70, wN 71, wN 72, wN 73, wN 74, o_75, o_76, o_77, o_78, o_79, trivial⟩, ⟨o_80, wN 81, wN 82, o_83, wN 84, wN 85, wN 86, o_87, o_88, o_89, wN 90, wN 91, o_92, wN 93, wN 94, wN 95, trivial⟩, ⟨o_96, o_97, wN 98, wN 99, o_100, o_101, wN 102, wN 103, o_104, o_105, wN 106, wN 107, o_108, o_109, wN 110, wN 111, trivial⟩, ⟨o_112, o_113, wN 114, wN 115, o_116, wN 117, wN 118, wN 119, o_120, wN 121, o_122, wN 123, o_124, wN 125, o_126, wN 127, trivial⟩, ⟨o_128, wN 129, o_130, wN 131, o_132, o_133, wN 134, wN 135, o_136, wN 137, wN 138, wN 139, wN 140, wN 141, wN 142, wN 143, trivial⟩, ⟨wN 144, wN 145, wN 146, wN 147, o_148, wN 149, wN 150, wN 151, wN 152, o_153, o_154, o_155, o_156, o_157, o_158, o_159, trivial⟩, ⟨o_160, o_161, o_162, o_163, o_164, wN 165, wN 166, o_167, wN 168, wN 169, wN 170, wN 171, o_172, o_173, wN 174, wN 175, trivial⟩, ⟨o_176, o_177, o_178, wN 179, o_180, o_181, o_182, o_183, o_184, wN 185, wN 186, o_187, wN 188, o_189, o_190, wN 191, trivial⟩, trivial⟩
def cN (c : Jvm.ClassFile.Cond) : Nat := match c with | .eq => 0 | .ne => 1 | .lt => 2 | .ge => 3 | .gt => 4 | .le => 5
def cO (k : Nat) : Jvm.ClassFile.Cond := match k with | 0 => .eq | 1 => .ne | 2 => .lt | 3 => .ge | 4 => .gt | _ => .le
theorem cON (c : Jvm.ClassFile.Cond) : cO (cN c) = c := by cases c <;> rfl
def f4 (k : Nat) : Fin 4 := ⟨k % 4, Nat.mod_lt _ (by decide)⟩
def f2 (k : Nat) : Fin 2 := ⟨k % 2, Nat.mod_lt _ (by decide)⟩
theorem f4v (n : Fin 4) : f4 n.val = n := Fin.ext (Nat.mod_eq_of_lt n.isLt)
theorem f2v (n : Fin 2) : f2 n.val = n := Fin.ext (Nat.mod_eq_of_lt n.isLt)
def en (i : Instr) : Option (Nat × Nat × Int) := match i with
  | .iaload => some (46, 0, 0)
  | .laload => some (47, 0, 0)
  | .aaload => some (50, 0, 0)
  | .iastore => some (79, 0, 0)
  | .lastore => some (80, 0, 0)
  | .aastore => some (83, 0, 0)
  | .pop => some (87, 0, 0)
  | .pop2 => some (88, 0, 0)
  | .dup => some (89, 0, 0)
  | .dup2 => some (92, 0, 0)
  | .iadd => some (96, 0, 0)
  | .ladd => some (97, 0, 0)
  | .isub => some (100, 0, 0)
  | .lsub => some (101, 0, 0)
  | .imul => some (104, 0, 0)
  | .lmul => some (105, 0, 0)
  | .idiv => some (108, 0, 0)
  | .ldiv => some (109, 0, 0)
  | .irem => some (112, 0, 0)
  | .lrem => some (113, 0, 0)
  | .ineg => some (116, 0, 0)
  | .ishl => some (120, 0, 0)
  | .ishr => some (122, 0, 0)
  | .iushr => some (124, 0, 0)
  | .iand => some (126, 0, 0)
  | .ior => some (128, 0, 0)
  | .ixor => some (130, 0, 0)
  | .i2l => some (133, 0, 0)
  | .l2i => some (136, 0, 0)
  | .lcmp => some (148, 0, 0)
  | .ireturn => some (172, 0, 0)
  | .lreturn => some (173, 0, 0)
  | .areturn => some (176, 0, 0)
  | .return_ => some (177, 0, 0)
  | .arraylength => some (190, 0, 0)
  | .ldc n => some (18, n, 0)
  | .ldc_w n => some (19, n, 0)
  | .ldc2_w n => some (20, n, 0)
  | .iload n => some (21, n, 0)
  | .lload n => some (22, n, 0)
  | .aload n => some (25, n, 0)
  | .istore n => some (54, n, 0)
  | .lstore n => some (55, n, 0)
  | .astore n => some (58, n, 0)
  | .getstatic n => some (178, n, 0)
  | .getfield n => some (180, n, 0)
  | .putfield n => some (181, n, 0)
  | .invokevirtual n => some (182, n, 0)
  | .invokespecial n => some (183, n, 0)
  | .invokestatic n => some (184, n, 0)
  | .new n => some (187, n, 0)
  | .anewarray n => some (189, n, 0)
  | .bipush j => some (16, 0, j)
  | .sipush j => some (17, 0, j)
  | .goto j => some (167, 0, j)
  | .iload_n j => some (26, j.val, 0)
  | .lload_n j => some (30, j.val, 0)
  | .aload_n j => some (42, j.val, 0)
  | .istore_n j => some (59, j.val, 0)
  | .lstore_n j => some (63, j.val, 0)
  | .astore_n j => some (75, j.val, 0)
  | .lconst j => some (9, j.val, 0)
  | .iconst j => some (2, 0, j)
  | .iinc n j => some (132, n, j)
  | .ifCond c j => some (153, cN c, j)
  | .if_icmp c j => some (159, cN c, j)
  | _ => none
def de (k : Nat × Nat × Int) : Option Instr := match k.1 with
  | 46 => some .iaload
  | 47 => some .laload
  | 50 => some .aaload
  | 79 => some .iastore
  | 80 => some .lastore
  | 83 => some .aastore
  | 87 => some .pop
  | 88 => some .pop2
  | 89 => some .dup
  | 92 => some .dup2
  | 96 => some .iadd
  | 97 => some .ladd
  | 100 => some .isub
  | 101 => some .lsub
  | 104 => some .imul
  | 105 => some .lmul
  | 108 => some .idiv
  | 109 => some .ldiv
  | 112 => some .irem
  | 113 => some .lrem
  | 116 => some .ineg
  | 120 => some .ishl
  | 122 => some .ishr
  | 124 => some .iushr
  | 126 => some .iand
  | 128 => some .ior
  | 130 => some .ixor
  | 133 => some .i2l
  | 136 => some .l2i
  | 148 => some .lcmp
  | 172 => some .ireturn
  | 173 => some .lreturn
  | 176 => some .areturn
  | 177 => some .return_
  | 190 => some .arraylength
  | 18 => some (.ldc k.2.1)
  | 19 => some (.ldc_w k.2.1)
  | 20 => some (.ldc2_w k.2.1)
  | 21 => some (.iload k.2.1)
  | 22 => some (.lload k.2.1)
  | 25 => some (.aload k.2.1)
  | 54 => some (.istore k.2.1)
  | 55 => some (.lstore k.2.1)
  | 58 => some (.astore k.2.1)
  | 178 => some (.getstatic k.2.1)
  | 180 => some (.getfield k.2.1)
  | 181 => some (.putfield k.2.1)
  | 182 => some (.invokevirtual k.2.1)
  | 183 => some (.invokespecial k.2.1)
  | 184 => some (.invokestatic k.2.1)
  | 187 => some (.new k.2.1)
  | 189 => some (.anewarray k.2.1)
  | 16 => some (.bipush k.2.2)
  | 17 => some (.sipush k.2.2)
  | 167 => some (.goto k.2.2)
  | 26 => some (.iload_n (f4 k.2.1))
  | 30 => some (.lload_n (f4 k.2.1))
  | 42 => some (.aload_n (f4 k.2.1))
  | 59 => some (.istore_n (f4 k.2.1))
  | 63 => some (.lstore_n (f4 k.2.1))
  | 75 => some (.astore_n (f4 k.2.1))
  | 9 => some (.lconst (f2 k.2.1))
  | 2 => some (.iconst k.2.2)
  | 132 => some (.iinc k.2.1 k.2.2)
  | 153 => some (.ifCond (cO k.2.1) k.2.2)
  | 159 => some (.if_icmp (cO k.2.1) k.2.2)
  | _ => none
theorem de_en (i : Instr) (k : Nat × Nat × Int) (h : en i = some k) : de k = some i := by
  cases i <;> first
    | (cases h; rfl)
    | (cases h; done)
    | (cases h; exact congrArg (fun z => some (Instr.iload_n z)) (f4v _))
    | (cases h; exact congrArg (fun z => some (Instr.lload_n z)) (f4v _))
    | (cases h; exact congrArg (fun z => some (Instr.aload_n z)) (f4v _))
    | (cases h; exact congrArg (fun z => some (Instr.istore_n z)) (f4v _))
    | (cases h; exact congrArg (fun z => some (Instr.lstore_n z)) (f4v _))
    | (cases h; exact congrArg (fun z => some (Instr.astore_n z)) (f4v _))
    | (cases h; exact congrArg (fun z => some (Instr.lconst z)) (f2v _))
    | (cases h; exact congrArg (fun z => some (Instr.ifCond z _)) (cON _))
    | (cases h; exact congrArg (fun z => some (Instr.if_icmp z _)) (cON _))
def eqi (i j : Instr) : Bool := match en i with
  | none => false
  | some a => match en j with
    | none => false
    | some b => Nat.beq a.1 b.1 && (Nat.beq a.2.1 b.2.1 && decide (a.2.2 = b.2.2))
theorem eqi_ok {i j : Instr} (h : eqi i j = true) : i = j := by
  unfold eqi at h
  cases ha : en i with
  | none => rw [ha] at h; cases h
  | some a =>
    rw [ha] at h
    cases hb : en j with
    | none => rw [hb] at h; cases h
    | some b =>
      rw [hb] at h
      have h' : (Nat.beq a.1 b.1 && (Nat.beq a.2.1 b.2.1 && decide (a.2.2 = b.2.2))) = true := h
      rw [Bool.and_eq_true, Bool.and_eq_true] at h'
      have e : a = b := Prod.ext (Nat.eq_of_beq_eq_true h'.1) (Prod.ext (Nat.eq_of_beq_eq_true h'.2.1) (of_decide_eq_true h'.2.2))
      have x := de_en i a ha
      rw [e, de_en j b hb] at x
      exact (Option.some.inj x).symm
def txq (k : Nat) : Option OPx := (TX[k / 16]?).bind (fun l => l[k % 16]?)
theorem txq_ok {k : Nat} {e : OPx} (h : txq k = some e) : OKx k e := by
  unfold txq at h
  cases he : TX[k / 16]? with
  | none => rw [he] at h; cases h
  | some l =>
    rw [he] at h
    have r := allx (ally tx_ok he) h
    rw [show 0 + 16 * (k / 16) + k % 16 = k by omega] at r
    exact r
def dx (b : UInt8) (r : List UInt8) : Option (Instr × Nat) := (txq b.toNat).bind (fun e => (e.2 r).map (fun i => (i, e.1)))
theorem dx_ok {c : ByteArray} {p : Nat} {b : UInt8} {r : List UInt8} {x : Instr × Nat} (ha : At c p (b :: r)) (hx : dx b r = some x) : decode c p = .ok x := by
  unfold dx at hx
  cases he : txq b.toNat with
  | none => rw [he] at hx; cases hx
  | some e =>
    rw [he] at hx
    cases hi : e.2 r with
    | none => simp [hi] at hx
    | some i =>
      have hx' : (i, e.1) = x := by simpa [hi] using hx
      subst hx'
      have h := txq_ok he c p b r i ha rfl hi
      have e0 : decode c p = (Jvm.ClassFile.Decoder.instr p c p).bind (fun x => .ok (x.1, x.2 - p)) := rfl
      rw [e0, h]
      show Except.ok (i, p + e.1 - p) = _
      rw [Nat.add_sub_cancel_left]
def w1q (c : ByteArray) (q : Nat × Instr × Nat) (p : Nat) (l : List UInt8) : Bool := match l with
  | [] => false
  | b :: r => match dx b r with
    | some x => eqi x.1 q.2.1 && Nat.beq x.2 q.2.2
    | none => decide (decode c p = .ok q.2)
theorem w1q_ok {c : ByteArray} {q : Nat × Instr × Nat} {p : Nat} {l : List UInt8} (ha : At c p l) (h : w1q c q p l = true) : decode c p = .ok q.2 := by
  unfold w1q at h
  cases l with
  | nil => cases h
  | cons b r =>
    simp only at h
    split at h
    · rename_i x hx
      rw [Bool.and_eq_true] at h
      rw [← show x = q.2 from Prod.ext (eqi_ok h.1) (Nat.eq_of_beq_eq_true h.2)]
      exact dx_ok ha hx
    · exact of_decide_eq_true h
def wk (c : ByteArray) : List (Nat × Instr × Nat) → List UInt8 → Nat → Option (List UInt8 × Nat)
  | [], l, p => some (l, p)
  | q :: t, l, p => if Nat.beq q.1 p && w1q c q p l then wk c t (l.drop q.2.2) (q.1 + q.2.2) else none
theorem wk_ok {c : ByteArray} {t : List (Nat × Instr × Nat)} {l l' : List UInt8} {p p' : Nat} (ha : At c p l) (h : wk c t l p = some (l', p')) : (∀ q ∈ t, decode c q.1 = .ok q.2) ∧ At c p' l' := by
  induction t generalizing l p with
  | nil =>
    have h' : some (l, p) = some (l', p') := h
    cases h'
    exact ⟨fun q hq => absurd hq (by simp), ha⟩
  | cons q t ih =>
    have h' : (if Nat.beq q.1 p && w1q c q p l then wk c t (l.drop q.2.2) (q.1 + q.2.2) else none) = some (l', p') := h
    by_cases hc : (Nat.beq q.1 p && w1q c q p l) = true
    · rw [if_pos hc] at h'
      rw [Bool.and_eq_true] at hc
      have e1 := Nat.eq_of_beq_eq_true hc.1
      rw [e1] at h'
      have r := ih (at_dr _ ha) h'
      refine ⟨fun q' hq' => ?_, r.2⟩
      rcases List.mem_cons.mp hq' with e | hq'
      · rw [e, e1]; exact w1q_ok ha hc.2
      · exact r.1 q' hq'
    · rw [if_neg hc] at h'; cases h'
def wkk (c : ByteArray) : List (List (Nat × Instr × Nat)) → List UInt8 → Nat → Bool
  | [], _, _ => true
  | t :: ts, l, p => match wk c t l p with
    | none => false
    | some x => wkk c ts x.1 x.2
theorem wkk_ok {c : ByteArray} {ts : List (List (Nat × Instr × Nat))} {l : List UInt8} {p : Nat} (ha : At c p l) (h : wkk c ts l p = true) : ∀ t ∈ ts, ∀ q ∈ t, decode c q.1 = .ok q.2 := by
  induction ts generalizing l p with
  | nil => intro t ht; cases ht
  | cons t ts ih =>
    unfold wkk at h
    cases hw : wk c t l p with
    | none => rw [hw] at h; cases h
    | some x =>
      rw [hw] at h
      have r := wk_ok (l' := x.1) (p' := x.2) ha hw
      intro t' ht'
      rcases List.mem_cons.mp ht' with e | ht'
      · rw [e]; exact r.1
      · exact ih r.2 h t' ht'
theorem wkd {c : ByteArray} {ts : List (List (Nat × Instr × Nat))} (h : wkk c ts c.data.toList 0 = true) {j : Nat} {t : List (Nat × Instr × Nat)} (ht : ts[j]? = some t) : ∀ q ∈ t, decode c q.1 = .ok q.2 := wkk_ok (p := 0) rfl h t (List.mem_of_getElem? ht)
theorem dcd {bs : ByteArray} {t : List (Nat × Instr × Nat)} (h : ∀ q ∈ t, decode bs q.1 = .ok q.2) (i : Nat) {pc : Nat} {x : Instr × Nat} (hq : t[i]? = some (pc, x)) : decode bs pc = .ok x := h (pc, x) (List.mem_of_getElem? hq)
def cdq (x : MethodName) (b : ByteArray) (n : Nat) (r : Option FieldType) : Option Cond → Bool
  | some (.code x' b' n' r') => decide (x' = x) && (decide (b'.data.toList = b.data.toList) && (decide (n' = n) && decide (r' = r)))
  | _ => false
theorem cdq_ok {x : MethodName} {b : ByteArray} {n : Nat} {r : Option FieldType} {o : Option Cond} (h : cdq x b n r o = true) : o = some (.code x b n r) := by
  unfold cdq at h
  split at h
  · rename_i x' b' n' r'
    rw [Bool.and_eq_true, Bool.and_eq_true, Bool.and_eq_true] at h
    obtain ⟨h1, h2, h3, h4⟩ := h
    have e : b' = b := by
      cases b'; cases b
      exact congrArg ByteArray.mk (Array.toList_inj.mp (of_decide_eq_true h2))
    rw [of_decide_eq_true h1, e, of_decide_eq_true h3, of_decide_eq_true h4]
  · exact absurd h (by decide)
abbrev CMr (M : pY) (n : Nat) : Prop := M.1.cls ≠ "java/lang/invoke/MethodHandle" ∧ M.1.cls ≠ "java/lang/invoke/VarHandle" ∧ (parseMethodDescriptor M.1.desc).map (fun d => d.parameters.length) = some n
def cm_wk : List (pY × Nat × Nat) → List Cond → Bool
  | [], _ => true
  | (M, g, n) :: r, l => match l.drop g with
    | [] => false
    | x :: t => (plainName M.1.cls && (cdq M.1 M.2.1 M.2.2.1 M.2.2.2.1 (some x) && (goodWord (cwd M) && decide (CMr M n)))) && cm_wk r t
theorem cm_wk_ok : ∀ (rs : List (pY × Nat × Nat)) (l : List Cond), cm_wk rs l = true → (∀ x ∈ l, x ∈ tables_1) → ∀ q ∈ rs, plainName q.1.1.cls = true ∧ cwd q.1 ∈ tables_1 ∧ goodWord (cwd q.1) = true ∧ CMr q.1 q.2.2
  | [], _, _, _, q, hq => absurd hq (by simp)
  | (M, g, n) :: r, l, h, hl, q, hq => by
    unfold cm_wk at h
    cases e : l.drop g with
    | nil => rw [e] at h; exact absurd (show false = true from h) (by decide)
    | cons x t =>
      rw [e] at h
      have h' : ((plainName M.1.cls && (cdq M.1 M.2.1 M.2.2.1 M.2.2.2.1 (some x) && (goodWord (cwd M) && decide (CMr M n)))) && cm_wk r t) = true := h
      rw [Bool.and_eq_true, Bool.and_eq_true, Bool.and_eq_true, Bool.and_eq_true] at h'
      have hs : ∀ y ∈ x :: t, y ∈ tables_1 := fun y hy => hl y (List.mem_of_mem_drop (by rw [e]; exact hy))
      rcases List.mem_cons.mp hq with e2 | hq
      · rw [e2]
        have c := Option.some.inj (cdq_ok h'.1.2.1)
        exact ⟨h'.1.1, by rw [← (show x = cwd M from c)]; exact hs x List.mem_cons_self, h'.1.2.2.1, of_decide_eq_true h'.1.2.2.2⟩
      · exact cm_wk_ok r t h'.2 (fun y hy => hs y (List.mem_cons_of_mem _ hy)) q hq
theorem cm_bt {l : List (pY × Nat × Nat)} (h : cm_wk l tables_1 = true) {j i n : Nat} {M : pY} (e : l[j]? = some (M, i, n)) (hi : Cond.initialized M.1.cls ∈ lw_g) : CM M n := by
  have r := cm_wk_ok l tables_1 h (fun _ q => q) _ (List.mem_of_getElem? e)
  exact ⟨r.1, lw_mem.mpr ⟨List.mem_append_right _ r.2.1, r.2.2.1⟩, hi, r.2.2.2⟩
