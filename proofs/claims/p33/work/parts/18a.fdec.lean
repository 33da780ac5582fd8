/-! Bytes read in their order: a faster check of the tables. -/
theorem mj_u1 {cc : ByteArray} {p : Nat} (h : p < cc.size) : (Reader.u1 : Decoder Nat) cc p = .ok (cc[p].toNat, p + 1) := by
  show (dite (p < cc.size) _ _ : Decoder Nat) cc p = _
  rw [dif_pos h]
  rfl
theorem mj_bind {α β : Type} (r : Decoder α) (k : α → Decoder β) (cc : ByteArray) (p : Nat) : (r >>= k) cc p = (match r cc p with | .ok (a, q) => k a cc q | .error e => .error e) := by
  show Except.bind (r cc p) _ = _
  cases r cc p <;> rfl
theorem mj_u1b {β : Type} {cc : ByteArray} {p : Nat} (h : p < cc.size) (k : Nat → Decoder β) : ((Reader.u1 : Decoder Nat) >>= k) cc p = k cc[p].toNat cc (p + 1) := by
  rw [mj_bind, mj_u1 h]
theorem mj_u1c {β : Type} {cc : ByteArray} {p b : Nat} (h : p < cc.size) (hb : cc[p].toNat = b) (k : Nat → Decoder β) : ((Reader.u1 : Decoder Nat) >>= k) cc p = k b cc (p + 1) := by
  rw [mj_u1b h, hb]
theorem mj_dec {cc : ByteArray} {pc : Nat} {ins : Instr} {nx : Nat} (h : (Decoder.instr pc) cc pc = .ok (ins, nx)) : decode cc pc = .ok (ins, nx - pc) := by
  unfold decode
  have e : (Decoder.instr pc).runAt cc pc = .ok (ins, nx) := h
  rw [e]
  rfl
abbrev mj_F : Type := Nat × (Nat → Nat → Instr)
/-- an instruction's length and what it is by its next two bytes -/
def mj_ent (b : Nat) : Option mj_F := match b with
  | 2 => some (1, fun _ _ => .iconst (-1))
  | 3 => some (1, fun _ _ => .iconst 0)
  | 4 => some (1, fun _ _ => .iconst 1)
  | 5 => some (1, fun _ _ => .iconst 2)
  | 6 => some (1, fun _ _ => .iconst 3)
  | 7 => some (1, fun _ _ => .iconst 4)
  | 8 => some (1, fun _ _ => .iconst 5)
  | 9 => some (1, fun _ _ => .lconst 0)
  | 10 => some (1, fun _ _ => .lconst 1)
  | 16 => some (2, fun b _ => .bipush (Reader.signed 8 b))
  | 17 => some (3, fun b d => .sipush (Reader.signed 16 (b * 256 + d)))
  | 18 => some (2, fun b _ => .ldc b)
  | 19 => some (3, fun b d => .ldc_w (b * 256 + d))
  | 20 => some (3, fun b d => .ldc2_w (b * 256 + d))
  | 21 => some (2, fun b _ => .iload b)
  | 22 => some (2, fun b _ => .lload b)
  | 24 => some (2, fun b _ => .dload b)
  | 25 => some (2, fun b _ => .aload b)
  | 26 => some (1, fun _ _ => .iload_n 0)
  | 27 => some (1, fun _ _ => .iload_n 1)
  | 28 => some (1, fun _ _ => .iload_n 2)
  | 29 => some (1, fun _ _ => .iload_n 3)
  | 30 => some (1, fun _ _ => .lload_n 0)
  | 31 => some (1, fun _ _ => .lload_n 1)
  | 32 => some (1, fun _ _ => .lload_n 2)
  | 33 => some (1, fun _ _ => .lload_n 3)
  | 42 => some (1, fun _ _ => .aload_n 0)
  | 43 => some (1, fun _ _ => .aload_n 1)
  | 44 => some (1, fun _ _ => .aload_n 2)
  | 45 => some (1, fun _ _ => .aload_n 3)
  | 46 => some (1, fun _ _ => .iaload)
  | 47 => some (1, fun _ _ => .laload)
  | 50 => some (1, fun _ _ => .aaload)
  | 51 => some (1, fun _ _ => .baload)
  | 54 => some (2, fun b _ => .istore b)
  | 55 => some (2, fun b _ => .lstore b)
  | 57 => some (2, fun b _ => .dstore b)
  | 58 => some (2, fun b _ => .astore b)
  | 59 => some (1, fun _ _ => .istore_n 0)
  | 60 => some (1, fun _ _ => .istore_n 1)
  | 61 => some (1, fun _ _ => .istore_n 2)
  | 62 => some (1, fun _ _ => .istore_n 3)
  | 63 => some (1, fun _ _ => .lstore_n 0)
  | 64 => some (1, fun _ _ => .lstore_n 1)
  | 65 => some (1, fun _ _ => .lstore_n 2)
  | 66 => some (1, fun _ _ => .lstore_n 3)
  | 75 => some (1, fun _ _ => .astore_n 0)
  | 76 => some (1, fun _ _ => .astore_n 1)
  | 77 => some (1, fun _ _ => .astore_n 2)
  | 78 => some (1, fun _ _ => .astore_n 3)
  | 79 => some (1, fun _ _ => .iastore)
  | 80 => some (1, fun _ _ => .lastore)
  | 83 => some (1, fun _ _ => .aastore)
  | 84 => some (1, fun _ _ => .bastore)
  | 87 => some (1, fun _ _ => .pop)
  | 88 => some (1, fun _ _ => .pop2)
  | 89 => some (1, fun _ _ => .dup)
  | 92 => some (1, fun _ _ => .dup2)
  | 96 => some (1, fun _ _ => .iadd)
  | 97 => some (1, fun _ _ => .ladd)
  | 100 => some (1, fun _ _ => .isub)
  | 101 => some (1, fun _ _ => .lsub)
  | 104 => some (1, fun _ _ => .imul)
  | 105 => some (1, fun _ _ => .lmul)
  | 108 => some (1, fun _ _ => .idiv)
  | 109 => some (1, fun _ _ => .ldiv)
  | 110 => some (1, fun _ _ => .fdiv)
  | 111 => some (1, fun _ _ => .ddiv)
  | 112 => some (1, fun _ _ => .irem)
  | 113 => some (1, fun _ _ => .lrem)
  | 116 => some (1, fun _ _ => .ineg)
  | 117 => some (1, fun _ _ => .lneg)
  | 121 => some (1, fun _ _ => .lshl)
  | 122 => some (1, fun _ _ => .ishr)
  | 124 => some (1, fun _ _ => .iushr)
  | 126 => some (1, fun _ _ => .iand)
  | 127 => some (1, fun _ _ => .land)
  | 129 => some (1, fun _ _ => .lor)
  | 132 => some (3, fun b d => .iinc b (Reader.signed 8 d))
  | 133 => some (1, fun _ _ => .i2l)
  | 134 => some (1, fun _ _ => .i2f)
  | 135 => some (1, fun _ _ => .i2d)
  | 136 => some (1, fun _ _ => .l2i)
  | 141 => some (1, fun _ _ => .f2d)
  | 145 => some (1, fun _ _ => .i2b)
  | 148 => some (1, fun _ _ => .lcmp)
  | 151 => some (1, fun _ _ => .dcmp .l)
  | 152 => some (1, fun _ _ => .dcmp .g)
  | 153 => some (3, fun b d => .ifCond .eq (Reader.signed 16 (b * 256 + d)))
  | 154 => some (3, fun b d => .ifCond .ne (Reader.signed 16 (b * 256 + d)))
  | 155 => some (3, fun b d => .ifCond .lt (Reader.signed 16 (b * 256 + d)))
  | 156 => some (3, fun b d => .ifCond .ge (Reader.signed 16 (b * 256 + d)))
  | 157 => some (3, fun b d => .ifCond .gt (Reader.signed 16 (b * 256 + d)))
  | 158 => some (3, fun b d => .ifCond .le (Reader.signed 16 (b * 256 + d)))
  | 159 => some (3, fun b d => .if_icmp .eq (Reader.signed 16 (b * 256 + d)))
  | 160 => some (3, fun b d => .if_icmp .ne (Reader.signed 16 (b * 256 + d)))
  | 161 => some (3, fun b d => .if_icmp .lt (Reader.signed 16 (b * 256 + d)))
  | 162 => some (3, fun b d => .if_icmp .ge (Reader.signed 16 (b * 256 + d)))
  | 163 => some (3, fun b d => .if_icmp .gt (Reader.signed 16 (b * 256 + d)))
  | 164 => some (3, fun b d => .if_icmp .le (Reader.signed 16 (b * 256 + d)))
  | 167 => some (3, fun b d => .goto (Reader.signed 16 (b * 256 + d)))
  | 172 => some (1, fun _ _ => .ireturn)
  | 173 => some (1, fun _ _ => .lreturn)
  | 174 => some (1, fun _ _ => .freturn)
  | 175 => some (1, fun _ _ => .dreturn)
  | 176 => some (1, fun _ _ => .areturn)
  | 177 => some (1, fun _ _ => .return_)
  | 180 => some (3, fun b d => .getfield (b * 256 + d))
  | 181 => some (3, fun b d => .putfield (b * 256 + d))
  | 182 => some (3, fun b d => .invokevirtual (b * 256 + d))
  | 183 => some (3, fun b d => .invokespecial (b * 256 + d))
  | 184 => some (3, fun b d => .invokestatic (b * 256 + d))
  | 187 => some (3, fun b d => .new (b * 256 + d))
  | 189 => some (3, fun b d => .anewarray (b * 256 + d))
  | 190 => some (1, fun _ _ => .arraylength)
  | 191 => some (1, fun _ _ => .athrow)
  | _ => none
def mj_entOk (b : Nat) (e : mj_F) : Prop := ∀ (cc : ByteArray) (pc : Nat) (h : pc < cc.size), cc[pc].toNat = b → (e.1 = 1 ∧ decode cc pc = .ok (e.2 0 0, 1)) ∨ (e.1 = 2 ∧ ∀ h1 : pc + 1 < cc.size, decode cc pc = .ok (e.2 cc[pc + 1].toNat 0, 2)) ∨ (e.1 = 3 ∧ ∀ (h1 : pc + 1 < cc.size) (h2 : pc + 2 < cc.size), decode cc pc = .ok (e.2 cc[pc + 1].toNat cc[pc + 2].toNat, 3))
theorem mj_sub1 (pc : Nat) : pc + 1 - pc = 1 := by omega
theorem mj_sub2 (pc : Nat) : pc + 1 + 1 - pc = 2 := by omega
theorem mj_sub3 (pc : Nat) : pc + 1 + 1 + 1 - pc = 3 := by omega
theorem mj_dec1 {cc : ByteArray} {pc : Nat} {ins : Instr} (h : (Decoder.instr pc) cc pc = .ok (ins, pc + 1)) : decode cc pc = .ok (ins, 1) := by rw [mj_dec h, mj_sub1]
theorem mj_dec2 {cc : ByteArray} {pc : Nat} {ins : Instr} (h : (Decoder.instr pc) cc pc = .ok (ins, pc + 1 + 1)) : decode cc pc = .ok (ins, 2) := by rw [mj_dec h, mj_sub2]
theorem mj_dec3 {cc : ByteArray} {pc : Nat} {ins : Instr} (h : (Decoder.instr pc) cc pc = .ok (ins, pc + 1 + 1 + 1)) : decode cc pc = .ok (ins, 3) := by rw [mj_dec h, mj_sub3]
theorem mj_map1 {α β : Type} (f : α → β) (r : Decoder α) (cc : ByteArray) (p : Nat) : (f <$> r) cc p = (match r cc p with | .ok (a, q) => .ok (f a, q) | .error e => .error e) := by
  show Except.bind (r cc p) _ = _
  cases r cc p <;> rfl
theorem mj_u2 {cc : ByteArray} {p : Nat} (h : p < cc.size) (h1 : p + 1 < cc.size) : (Reader.u2 : Decoder Nat) cc p = .ok (cc[p].toNat * 256 + cc[p + 1].toNat, p + 1 + 1) := by
  unfold Reader.u2
  rw [mj_u1b h, mj_u1b h1]
  rfl
theorem mj_s1 {cc : ByteArray} {p : Nat} (h : p < cc.size) : (Reader.s1 : Decoder Int) cc p = .ok (Reader.signed 8 cc[p].toNat, p + 1) := by
  unfold Reader.s1
  rw [mj_map1, mj_u1 h]
theorem mj_s2 {cc : ByteArray} {p : Nat} (h : p < cc.size) (h1 : p + 1 < cc.size) : (Reader.s2 : Decoder Int) cc p = .ok (Reader.signed 16 (cc[p].toNat * 256 + cc[p + 1].toNat), p + 1 + 1) := by
  unfold Reader.s2
  rw [mj_map1, mj_u2 h h1]
theorem mj_e2 : mj_entOk 2 (1, fun _ _ => .iconst (-1)) := fun cc pc h hb => Or.inl ⟨rfl, by
  refine mj_dec1 ?_
  unfold Decoder.instr
  refine (mj_u1c h hb _).trans ?_
  rfl⟩
theorem mj_e3 : mj_entOk 3 (1, fun _ _ => .iconst 0) := fun cc pc h hb => Or.inl ⟨rfl, by
  refine mj_dec1 ?_
  unfold Decoder.instr
  refine (mj_u1c h hb _).trans ?_
  rfl⟩
theorem mj_e4 : mj_entOk 4 (1, fun _ _ => .iconst 1) := fun cc pc h hb => Or.inl ⟨rfl, by
  refine mj_dec1 ?_
  unfold Decoder.instr
  refine (mj_u1c h hb _).trans ?_
  rfl⟩
theorem mj_e5 : mj_entOk 5 (1, fun _ _ => .iconst 2) := fun cc pc h hb => Or.inl ⟨rfl, by
  refine mj_dec1 ?_
  unfold Decoder.instr
  refine (mj_u1c h hb _).trans ?_
  rfl⟩
theorem mj_e6 : mj_entOk 6 (1, fun _ _ => .iconst 3) := fun cc pc h hb => Or.inl ⟨rfl, by
  refine mj_dec1 ?_
  unfold Decoder.instr
  refine (mj_u1c h hb _).trans ?_
  rfl⟩
theorem mj_e7 : mj_entOk 7 (1, fun _ _ => .iconst 4) := fun cc pc h hb => Or.inl ⟨rfl, by
  refine mj_dec1 ?_
  unfold Decoder.instr
  refine (mj_u1c h hb _).trans ?_
  rfl⟩
theorem mj_e8 : mj_entOk 8 (1, fun _ _ => .iconst 5) := fun cc pc h hb => Or.inl ⟨rfl, by
  refine mj_dec1 ?_
  unfold Decoder.instr
  refine (mj_u1c h hb _).trans ?_
  rfl⟩
theorem mj_e9 : mj_entOk 9 (1, fun _ _ => .lconst 0) := fun cc pc h hb => Or.inl ⟨rfl, by
  refine mj_dec1 ?_
  unfold Decoder.instr
  refine (mj_u1c h hb _).trans ?_
  rfl⟩
theorem mj_e10 : mj_entOk 10 (1, fun _ _ => .lconst 1) := fun cc pc h hb => Or.inl ⟨rfl, by
  refine mj_dec1 ?_
  unfold Decoder.instr
  refine (mj_u1c h hb _).trans ?_
  rfl⟩
theorem mj_e16 : mj_entOk 16 (2, fun b _ => .bipush (Reader.signed 8 b)) := fun cc pc h hb => Or.inr (Or.inl ⟨rfl, fun h1 => by
  refine mj_dec2 ?_
  unfold Decoder.instr
  refine (mj_u1c h hb _).trans ?_
  show ((Reader.s1 : Decoder Int) >>= _) cc (pc + 1) = _
  rw [mj_bind, mj_s1 h1]
  rfl⟩)
theorem mj_e17 : mj_entOk 17 (3, fun b d => .sipush (Reader.signed 16 (b * 256 + d))) := fun cc pc h hb => Or.inr (Or.inr ⟨rfl, fun h1 h2 => by
  refine mj_dec3 ?_
  unfold Decoder.instr
  refine (mj_u1c h hb _).trans ?_
  show ((Reader.s2 : Decoder Int) >>= _) cc (pc + 1) = _
  rw [mj_bind, mj_s2 h1 h2]
  rfl⟩)
theorem mj_e18 : mj_entOk 18 (2, fun b _ => .ldc b) := fun cc pc h hb => Or.inr (Or.inl ⟨rfl, fun h1 => by
  refine mj_dec2 ?_
  unfold Decoder.instr
  refine (mj_u1c h hb _).trans ?_
  show ((Reader.u1 : Decoder Nat) >>= _) cc (pc + 1) = _
  rw [mj_u1b h1]
  rfl⟩)
theorem mj_e19 : mj_entOk 19 (3, fun b d => .ldc_w (b * 256 + d)) := fun cc pc h hb => Or.inr (Or.inr ⟨rfl, fun h1 h2 => by
  refine mj_dec3 ?_
  unfold Decoder.instr
  refine (mj_u1c h hb _).trans ?_
  show ((Reader.u2 : Decoder Nat) >>= _) cc (pc + 1) = _
  rw [mj_bind, mj_u2 h1 h2]
  rfl⟩)
theorem mj_e20 : mj_entOk 20 (3, fun b d => .ldc2_w (b * 256 + d)) := fun cc pc h hb => Or.inr (Or.inr ⟨rfl, fun h1 h2 => by
  refine mj_dec3 ?_
  unfold Decoder.instr
  refine (mj_u1c h hb _).trans ?_
  show ((Reader.u2 : Decoder Nat) >>= _) cc (pc + 1) = _
  rw [mj_bind, mj_u2 h1 h2]
  rfl⟩)
theorem mj_e21 : mj_entOk 21 (2, fun b _ => .iload b) := fun cc pc h hb => Or.inr (Or.inl ⟨rfl, fun h1 => by
  refine mj_dec2 ?_
  unfold Decoder.instr
  refine (mj_u1c h hb _).trans ?_
  show ((Reader.u1 : Decoder Nat) >>= _) cc (pc + 1) = _
  rw [mj_u1b h1]
  rfl⟩)
theorem mj_e22 : mj_entOk 22 (2, fun b _ => .lload b) := fun cc pc h hb => Or.inr (Or.inl ⟨rfl, fun h1 => by
  refine mj_dec2 ?_
  unfold Decoder.instr
  refine (mj_u1c h hb _).trans ?_
  show ((Reader.u1 : Decoder Nat) >>= _) cc (pc + 1) = _
  rw [mj_u1b h1]
  rfl⟩)
theorem mj_e24 : mj_entOk 24 (2, fun b _ => .dload b) := fun cc pc h hb => Or.inr (Or.inl ⟨rfl, fun h1 => by
  refine mj_dec2 ?_
  unfold Decoder.instr
  refine (mj_u1c h hb _).trans ?_
  show ((Reader.u1 : Decoder Nat) >>= _) cc (pc + 1) = _
  rw [mj_u1b h1]
  rfl⟩)
theorem mj_e25 : mj_entOk 25 (2, fun b _ => .aload b) := fun cc pc h hb => Or.inr (Or.inl ⟨rfl, fun h1 => by
  refine mj_dec2 ?_
  unfold Decoder.instr
  refine (mj_u1c h hb _).trans ?_
  show ((Reader.u1 : Decoder Nat) >>= _) cc (pc + 1) = _
  rw [mj_u1b h1]
  rfl⟩)
theorem mj_e26 : mj_entOk 26 (1, fun _ _ => .iload_n 0) := fun cc pc h hb => Or.inl ⟨rfl, by
  refine mj_dec1 ?_
  unfold Decoder.instr
  refine (mj_u1c h hb _).trans ?_
  rfl⟩
theorem mj_e27 : mj_entOk 27 (1, fun _ _ => .iload_n 1) := fun cc pc h hb => Or.inl ⟨rfl, by
  refine mj_dec1 ?_
  unfold Decoder.instr
  refine (mj_u1c h hb _).trans ?_
  rfl⟩
theorem mj_e28 : mj_entOk 28 (1, fun _ _ => .iload_n 2) := fun cc pc h hb => Or.inl ⟨rfl, by
  refine mj_dec1 ?_
  unfold Decoder.instr
  refine (mj_u1c h hb _).trans ?_
  rfl⟩
theorem mj_e29 : mj_entOk 29 (1, fun _ _ => .iload_n 3) := fun cc pc h hb => Or.inl ⟨rfl, by
  refine mj_dec1 ?_
  unfold Decoder.instr
  refine (mj_u1c h hb _).trans ?_
  rfl⟩
theorem mj_e30 : mj_entOk 30 (1, fun _ _ => .lload_n 0) := fun cc pc h hb => Or.inl ⟨rfl, by
  refine mj_dec1 ?_
  unfold Decoder.instr
  refine (mj_u1c h hb _).trans ?_
  rfl⟩
theorem mj_e31 : mj_entOk 31 (1, fun _ _ => .lload_n 1) := fun cc pc h hb => Or.inl ⟨rfl, by
  refine mj_dec1 ?_
  unfold Decoder.instr
  refine (mj_u1c h hb _).trans ?_
  rfl⟩
theorem mj_e32 : mj_entOk 32 (1, fun _ _ => .lload_n 2) := fun cc pc h hb => Or.inl ⟨rfl, by
  refine mj_dec1 ?_
  unfold Decoder.instr
  refine (mj_u1c h hb _).trans ?_
  rfl⟩
theorem mj_e33 : mj_entOk 33 (1, fun _ _ => .lload_n 3) := fun cc pc h hb => Or.inl ⟨rfl, by
  refine mj_dec1 ?_
  unfold Decoder.instr
  refine (mj_u1c h hb _).trans ?_
  rfl⟩
theorem mj_e42 : mj_entOk 42 (1, fun _ _ => .aload_n 0) := fun cc pc h hb => Or.inl ⟨rfl, by
  refine mj_dec1 ?_
  unfold Decoder.instr
  refine (mj_u1c h hb _).trans ?_
  rfl⟩
theorem mj_e43 : mj_entOk 43 (1, fun _ _ => .aload_n 1) := fun cc pc h hb => Or.inl ⟨rfl, by
  refine mj_dec1 ?_
  unfold Decoder.instr
  refine (mj_u1c h hb _).trans ?_
  rfl⟩
theorem mj_e44 : mj_entOk 44 (1, fun _ _ => .aload_n 2) := fun cc pc h hb => Or.inl ⟨rfl, by
  refine mj_dec1 ?_
  unfold Decoder.instr
  refine (mj_u1c h hb _).trans ?_
  rfl⟩
theorem mj_e45 : mj_entOk 45 (1, fun _ _ => .aload_n 3) := fun cc pc h hb => Or.inl ⟨rfl, by
  refine mj_dec1 ?_
  unfold Decoder.instr
  refine (mj_u1c h hb _).trans ?_
  rfl⟩
theorem mj_e46 : mj_entOk 46 (1, fun _ _ => .iaload) := fun cc pc h hb => Or.inl ⟨rfl, by
  refine mj_dec1 ?_
  unfold Decoder.instr
  refine (mj_u1c h hb _).trans ?_
  rfl⟩
theorem mj_e47 : mj_entOk 47 (1, fun _ _ => .laload) := fun cc pc h hb => Or.inl ⟨rfl, by
  refine mj_dec1 ?_
  unfold Decoder.instr
  refine (mj_u1c h hb _).trans ?_
  rfl⟩
theorem mj_e50 : mj_entOk 50 (1, fun _ _ => .aaload) := fun cc pc h hb => Or.inl ⟨rfl, by
  refine mj_dec1 ?_
  unfold Decoder.instr
  refine (mj_u1c h hb _).trans ?_
  rfl⟩
theorem mj_e51 : mj_entOk 51 (1, fun _ _ => .baload) := fun cc pc h hb => Or.inl ⟨rfl, by
  refine mj_dec1 ?_
  unfold Decoder.instr
  refine (mj_u1c h hb _).trans ?_
  rfl⟩
theorem mj_e54 : mj_entOk 54 (2, fun b _ => .istore b) := fun cc pc h hb => Or.inr (Or.inl ⟨rfl, fun h1 => by
  refine mj_dec2 ?_
  unfold Decoder.instr
  refine (mj_u1c h hb _).trans ?_
  show ((Reader.u1 : Decoder Nat) >>= _) cc (pc + 1) = _
  rw [mj_u1b h1]
  rfl⟩)
theorem mj_e55 : mj_entOk 55 (2, fun b _ => .lstore b) := fun cc pc h hb => Or.inr (Or.inl ⟨rfl, fun h1 => by
  refine mj_dec2 ?_
  unfold Decoder.instr
  refine (mj_u1c h hb _).trans ?_
  show ((Reader.u1 : Decoder Nat) >>= _) cc (pc + 1) = _
  rw [mj_u1b h1]
  rfl⟩)
theorem mj_e57 : mj_entOk 57 (2, fun b _ => .dstore b) := fun cc pc h hb => Or.inr (Or.inl ⟨rfl, fun h1 => by
  refine mj_dec2 ?_
  unfold Decoder.instr
  refine (mj_u1c h hb _).trans ?_
  show ((Reader.u1 : Decoder Nat) >>= _) cc (pc + 1) = _
  rw [mj_u1b h1]
  rfl⟩)
theorem mj_e58 : mj_entOk 58 (2, fun b _ => .astore b) := fun cc pc h hb => Or.inr (Or.inl ⟨rfl, fun h1 => by
  refine mj_dec2 ?_
  unfold Decoder.instr
  refine (mj_u1c h hb _).trans ?_
  show ((Reader.u1 : Decoder Nat) >>= _) cc (pc + 1) = _
  rw [mj_u1b h1]
  rfl⟩)
theorem mj_e59 : mj_entOk 59 (1, fun _ _ => .istore_n 0) := fun cc pc h hb => Or.inl ⟨rfl, by
  refine mj_dec1 ?_
  unfold Decoder.instr
  refine (mj_u1c h hb _).trans ?_
  rfl⟩
theorem mj_e60 : mj_entOk 60 (1, fun _ _ => .istore_n 1) := fun cc pc h hb => Or.inl ⟨rfl, by
  refine mj_dec1 ?_
  unfold Decoder.instr
  refine (mj_u1c h hb _).trans ?_
  rfl⟩
theorem mj_e61 : mj_entOk 61 (1, fun _ _ => .istore_n 2) := fun cc pc h hb => Or.inl ⟨rfl, by
  refine mj_dec1 ?_
  unfold Decoder.instr
  refine (mj_u1c h hb _).trans ?_
  rfl⟩
theorem mj_e62 : mj_entOk 62 (1, fun _ _ => .istore_n 3) := fun cc pc h hb => Or.inl ⟨rfl, by
  refine mj_dec1 ?_
  unfold Decoder.instr
  refine (mj_u1c h hb _).trans ?_
  rfl⟩
theorem mj_e63 : mj_entOk 63 (1, fun _ _ => .lstore_n 0) := fun cc pc h hb => Or.inl ⟨rfl, by
  refine mj_dec1 ?_
  unfold Decoder.instr
  refine (mj_u1c h hb _).trans ?_
  rfl⟩
theorem mj_e64 : mj_entOk 64 (1, fun _ _ => .lstore_n 1) := fun cc pc h hb => Or.inl ⟨rfl, by
  refine mj_dec1 ?_
  unfold Decoder.instr
  refine (mj_u1c h hb _).trans ?_
  rfl⟩
theorem mj_e65 : mj_entOk 65 (1, fun _ _ => .lstore_n 2) := fun cc pc h hb => Or.inl ⟨rfl, by
  refine mj_dec1 ?_
  unfold Decoder.instr
  refine (mj_u1c h hb _).trans ?_
  rfl⟩
theorem mj_e66 : mj_entOk 66 (1, fun _ _ => .lstore_n 3) := fun cc pc h hb => Or.inl ⟨rfl, by
  refine mj_dec1 ?_
  unfold Decoder.instr
  refine (mj_u1c h hb _).trans ?_
  rfl⟩
theorem mj_e75 : mj_entOk 75 (1, fun _ _ => .astore_n 0) := fun cc pc h hb => Or.inl ⟨rfl, by
  refine mj_dec1 ?_
  unfold Decoder.instr
  refine (mj_u1c h hb _).trans ?_
  rfl⟩
theorem mj_e76 : mj_entOk 76 (1, fun _ _ => .astore_n 1) := fun cc pc h hb => Or.inl ⟨rfl, by
  refine mj_dec1 ?_
  unfold Decoder.instr
  refine (mj_u1c h hb _).trans ?_
  rfl⟩
theorem mj_e77 : mj_entOk 77 (1, fun _ _ => .astore_n 2) := fun cc pc h hb => Or.inl ⟨rfl, by
  refine mj_dec1 ?_
  unfold Decoder.instr
  refine (mj_u1c h hb _).trans ?_
  rfl⟩
theorem mj_e78 : mj_entOk 78 (1, fun _ _ => .astore_n 3) := fun cc pc h hb => Or.inl ⟨rfl, by
  refine mj_dec1 ?_
  unfold Decoder.instr
  refine (mj_u1c h hb _).trans ?_
  rfl⟩
theorem mj_e79 : mj_entOk 79 (1, fun _ _ => .iastore) := fun cc pc h hb => Or.inl ⟨rfl, by
  refine mj_dec1 ?_
  unfold Decoder.instr
  refine (mj_u1c h hb _).trans ?_
  rfl⟩
theorem mj_e80 : mj_entOk 80 (1, fun _ _ => .lastore) := fun cc pc h hb => Or.inl ⟨rfl, by
  refine mj_dec1 ?_
  unfold Decoder.instr
  refine (mj_u1c h hb _).trans ?_
  rfl⟩
theorem mj_e83 : mj_entOk 83 (1, fun _ _ => .aastore) := fun cc pc h hb => Or.inl ⟨rfl, by
  refine mj_dec1 ?_
  unfold Decoder.instr
  refine (mj_u1c h hb _).trans ?_
  rfl⟩
theorem mj_e84 : mj_entOk 84 (1, fun _ _ => .bastore) := fun cc pc h hb => Or.inl ⟨rfl, by
  refine mj_dec1 ?_
  unfold Decoder.instr
  refine (mj_u1c h hb _).trans ?_
  rfl⟩
theorem mj_e87 : mj_entOk 87 (1, fun _ _ => .pop) := fun cc pc h hb => Or.inl ⟨rfl, by
  refine mj_dec1 ?_
  unfold Decoder.instr
  refine (mj_u1c h hb _).trans ?_
  rfl⟩
theorem mj_e88 : mj_entOk 88 (1, fun _ _ => .pop2) := fun cc pc h hb => Or.inl ⟨rfl, by
  refine mj_dec1 ?_
  unfold Decoder.instr
  refine (mj_u1c h hb _).trans ?_
  rfl⟩
theorem mj_e89 : mj_entOk 89 (1, fun _ _ => .dup) := fun cc pc h hb => Or.inl ⟨rfl, by
  refine mj_dec1 ?_
  unfold Decoder.instr
  refine (mj_u1c h hb _).trans ?_
  rfl⟩
theorem mj_e92 : mj_entOk 92 (1, fun _ _ => .dup2) := fun cc pc h hb => Or.inl ⟨rfl, by
  refine mj_dec1 ?_
  unfold Decoder.instr
  refine (mj_u1c h hb _).trans ?_
  rfl⟩
theorem mj_e96 : mj_entOk 96 (1, fun _ _ => .iadd) := fun cc pc h hb => Or.inl ⟨rfl, by
  refine mj_dec1 ?_
  unfold Decoder.instr
  refine (mj_u1c h hb _).trans ?_
  rfl⟩
theorem mj_e97 : mj_entOk 97 (1, fun _ _ => .ladd) := fun cc pc h hb => Or.inl ⟨rfl, by
  refine mj_dec1 ?_
  unfold Decoder.instr
  refine (mj_u1c h hb _).trans ?_
  rfl⟩
theorem mj_e100 : mj_entOk 100 (1, fun _ _ => .isub) := fun cc pc h hb => Or.inl ⟨rfl, by
  refine mj_dec1 ?_
  unfold Decoder.instr
  refine (mj_u1c h hb _).trans ?_
  rfl⟩
theorem mj_e101 : mj_entOk 101 (1, fun _ _ => .lsub) := fun cc pc h hb => Or.inl ⟨rfl, by
  refine mj_dec1 ?_
  unfold Decoder.instr
  refine (mj_u1c h hb _).trans ?_
  rfl⟩
theorem mj_e104 : mj_entOk 104 (1, fun _ _ => .imul) := fun cc pc h hb => Or.inl ⟨rfl, by
  refine mj_dec1 ?_
  unfold Decoder.instr
  refine (mj_u1c h hb _).trans ?_
  rfl⟩
theorem mj_e105 : mj_entOk 105 (1, fun _ _ => .lmul) := fun cc pc h hb => Or.inl ⟨rfl, by
  refine mj_dec1 ?_
  unfold Decoder.instr
  refine (mj_u1c h hb _).trans ?_
  rfl⟩
theorem mj_e108 : mj_entOk 108 (1, fun _ _ => .idiv) := fun cc pc h hb => Or.inl ⟨rfl, by
  refine mj_dec1 ?_
  unfold Decoder.instr
  refine (mj_u1c h hb _).trans ?_
  rfl⟩
theorem mj_e109 : mj_entOk 109 (1, fun _ _ => .ldiv) := fun cc pc h hb => Or.inl ⟨rfl, by
  refine mj_dec1 ?_
  unfold Decoder.instr
  refine (mj_u1c h hb _).trans ?_
  rfl⟩
theorem mj_e110 : mj_entOk 110 (1, fun _ _ => .fdiv) := fun cc pc h hb => Or.inl ⟨rfl, by
  refine mj_dec1 ?_
  unfold Decoder.instr
  refine (mj_u1c h hb _).trans ?_
  rfl⟩
theorem mj_e111 : mj_entOk 111 (1, fun _ _ => .ddiv) := fun cc pc h hb => Or.inl ⟨rfl, by
  refine mj_dec1 ?_
  unfold Decoder.instr
  refine (mj_u1c h hb _).trans ?_
  rfl⟩
theorem mj_e112 : mj_entOk 112 (1, fun _ _ => .irem) := fun cc pc h hb => Or.inl ⟨rfl, by
  refine mj_dec1 ?_
  unfold Decoder.instr
  refine (mj_u1c h hb _).trans ?_
  rfl⟩
theorem mj_e113 : mj_entOk 113 (1, fun _ _ => .lrem) := fun cc pc h hb => Or.inl ⟨rfl, by
  refine mj_dec1 ?_
  unfold Decoder.instr
  refine (mj_u1c h hb _).trans ?_
  rfl⟩
theorem mj_e116 : mj_entOk 116 (1, fun _ _ => .ineg) := fun cc pc h hb => Or.inl ⟨rfl, by
  refine mj_dec1 ?_
  unfold Decoder.instr
  refine (mj_u1c h hb _).trans ?_
  rfl⟩
theorem mj_e117 : mj_entOk 117 (1, fun _ _ => .lneg) := fun cc pc h hb => Or.inl ⟨rfl, by
  refine mj_dec1 ?_
  unfold Decoder.instr
  refine (mj_u1c h hb _).trans ?_
  rfl⟩
theorem mj_e121 : mj_entOk 121 (1, fun _ _ => .lshl) := fun cc pc h hb => Or.inl ⟨rfl, by
  refine mj_dec1 ?_
  unfold Decoder.instr
  refine (mj_u1c h hb _).trans ?_
  rfl⟩
theorem mj_e122 : mj_entOk 122 (1, fun _ _ => .ishr) := fun cc pc h hb => Or.inl ⟨rfl, by
  refine mj_dec1 ?_
  unfold Decoder.instr
  refine (mj_u1c h hb _).trans ?_
  rfl⟩
theorem mj_e124 : mj_entOk 124 (1, fun _ _ => .iushr) := fun cc pc h hb => Or.inl ⟨rfl, by
  refine mj_dec1 ?_
  unfold Decoder.instr
  refine (mj_u1c h hb _).trans ?_
  rfl⟩
theorem mj_e126 : mj_entOk 126 (1, fun _ _ => .iand) := fun cc pc h hb => Or.inl ⟨rfl, by
  refine mj_dec1 ?_
  unfold Decoder.instr
  refine (mj_u1c h hb _).trans ?_
  rfl⟩
theorem mj_e127 : mj_entOk 127 (1, fun _ _ => .land) := fun cc pc h hb => Or.inl ⟨rfl, by
  refine mj_dec1 ?_
  unfold Decoder.instr
  refine (mj_u1c h hb _).trans ?_
  rfl⟩
theorem mj_e129 : mj_entOk 129 (1, fun _ _ => .lor) := fun cc pc h hb => Or.inl ⟨rfl, by
  refine mj_dec1 ?_
  unfold Decoder.instr
  refine (mj_u1c h hb _).trans ?_
  rfl⟩
theorem mj_e132 : mj_entOk 132 (3, fun b d => .iinc b (Reader.signed 8 d)) := fun cc pc h hb => Or.inr (Or.inr ⟨rfl, fun h1 h2 => by
  refine mj_dec3 ?_
  unfold Decoder.instr
  refine (mj_u1c h hb _).trans ?_
  show ((Reader.u1 : Decoder Nat) >>= _) cc (pc + 1) = _
  rw [mj_u1b h1, mj_bind, mj_s1 h2]
  rfl⟩)
theorem mj_e133 : mj_entOk 133 (1, fun _ _ => .i2l) := fun cc pc h hb => Or.inl ⟨rfl, by
  refine mj_dec1 ?_
  unfold Decoder.instr
  refine (mj_u1c h hb _).trans ?_
  rfl⟩
theorem mj_e134 : mj_entOk 134 (1, fun _ _ => .i2f) := fun cc pc h hb => Or.inl ⟨rfl, by
  refine mj_dec1 ?_
  unfold Decoder.instr
  refine (mj_u1c h hb _).trans ?_
  rfl⟩
theorem mj_e135 : mj_entOk 135 (1, fun _ _ => .i2d) := fun cc pc h hb => Or.inl ⟨rfl, by
  refine mj_dec1 ?_
  unfold Decoder.instr
  refine (mj_u1c h hb _).trans ?_
  rfl⟩
theorem mj_e136 : mj_entOk 136 (1, fun _ _ => .l2i) := fun cc pc h hb => Or.inl ⟨rfl, by
  refine mj_dec1 ?_
  unfold Decoder.instr
  refine (mj_u1c h hb _).trans ?_
  rfl⟩
theorem mj_e141 : mj_entOk 141 (1, fun _ _ => .f2d) := fun cc pc h hb => Or.inl ⟨rfl, by
  refine mj_dec1 ?_
  unfold Decoder.instr
  refine (mj_u1c h hb _).trans ?_
  rfl⟩
theorem mj_e145 : mj_entOk 145 (1, fun _ _ => .i2b) := fun cc pc h hb => Or.inl ⟨rfl, by
  refine mj_dec1 ?_
  unfold Decoder.instr
  refine (mj_u1c h hb _).trans ?_
  rfl⟩
theorem mj_e148 : mj_entOk 148 (1, fun _ _ => .lcmp) := fun cc pc h hb => Or.inl ⟨rfl, by
  refine mj_dec1 ?_
  unfold Decoder.instr
  refine (mj_u1c h hb _).trans ?_
  rfl⟩
theorem mj_e151 : mj_entOk 151 (1, fun _ _ => .dcmp .l) := fun cc pc h hb => Or.inl ⟨rfl, by
  refine mj_dec1 ?_
  unfold Decoder.instr
  refine (mj_u1c h hb _).trans ?_
  rfl⟩
theorem mj_e152 : mj_entOk 152 (1, fun _ _ => .dcmp .g) := fun cc pc h hb => Or.inl ⟨rfl, by
  refine mj_dec1 ?_
  unfold Decoder.instr
  refine (mj_u1c h hb _).trans ?_
  rfl⟩
theorem mj_e153 : mj_entOk 153 (3, fun b d => .ifCond .eq (Reader.signed 16 (b * 256 + d))) := fun cc pc h hb => Or.inr (Or.inr ⟨rfl, fun h1 h2 => by
  refine mj_dec3 ?_
  unfold Decoder.instr
  refine (mj_u1c h hb _).trans ?_
  show ((Reader.s2 : Decoder Int) >>= _) cc (pc + 1) = _
  rw [mj_bind, mj_s2 h1 h2]
  rfl⟩)
theorem mj_e154 : mj_entOk 154 (3, fun b d => .ifCond .ne (Reader.signed 16 (b * 256 + d))) := fun cc pc h hb => Or.inr (Or.inr ⟨rfl, fun h1 h2 => by
  refine mj_dec3 ?_
  unfold Decoder.instr
  refine (mj_u1c h hb _).trans ?_
  show ((Reader.s2 : Decoder Int) >>= _) cc (pc + 1) = _
  rw [mj_bind, mj_s2 h1 h2]
  rfl⟩)
theorem mj_e155 : mj_entOk 155 (3, fun b d => .ifCond .lt (Reader.signed 16 (b * 256 + d))) := fun cc pc h hb => Or.inr (Or.inr ⟨rfl, fun h1 h2 => by
  refine mj_dec3 ?_
  unfold Decoder.instr
  refine (mj_u1c h hb _).trans ?_
  show ((Reader.s2 : Decoder Int) >>= _) cc (pc + 1) = _
  rw [mj_bind, mj_s2 h1 h2]
  rfl⟩)
theorem mj_e156 : mj_entOk 156 (3, fun b d => .ifCond .ge (Reader.signed 16 (b * 256 + d))) := fun cc pc h hb => Or.inr (Or.inr ⟨rfl, fun h1 h2 => by
  refine mj_dec3 ?_
  unfold Decoder.instr
  refine (mj_u1c h hb _).trans ?_
  show ((Reader.s2 : Decoder Int) >>= _) cc (pc + 1) = _
  rw [mj_bind, mj_s2 h1 h2]
  rfl⟩)
theorem mj_e157 : mj_entOk 157 (3, fun b d => .ifCond .gt (Reader.signed 16 (b * 256 + d))) := fun cc pc h hb => Or.inr (Or.inr ⟨rfl, fun h1 h2 => by
  refine mj_dec3 ?_
  unfold Decoder.instr
  refine (mj_u1c h hb _).trans ?_
  show ((Reader.s2 : Decoder Int) >>= _) cc (pc + 1) = _
  rw [mj_bind, mj_s2 h1 h2]
  rfl⟩)
theorem mj_e158 : mj_entOk 158 (3, fun b d => .ifCond .le (Reader.signed 16 (b * 256 + d))) := fun cc pc h hb => Or.inr (Or.inr ⟨rfl, fun h1 h2 => by
  refine mj_dec3 ?_
  unfold Decoder.instr
  refine (mj_u1c h hb _).trans ?_
  show ((Reader.s2 : Decoder Int) >>= _) cc (pc + 1) = _
  rw [mj_bind, mj_s2 h1 h2]
  rfl⟩)
theorem mj_e159 : mj_entOk 159 (3, fun b d => .if_icmp .eq (Reader.signed 16 (b * 256 + d))) := fun cc pc h hb => Or.inr (Or.inr ⟨rfl, fun h1 h2 => by
  refine mj_dec3 ?_
  unfold Decoder.instr
  refine (mj_u1c h hb _).trans ?_
  show ((Reader.s2 : Decoder Int) >>= _) cc (pc + 1) = _
  rw [mj_bind, mj_s2 h1 h2]
  rfl⟩)
theorem mj_e160 : mj_entOk 160 (3, fun b d => .if_icmp .ne (Reader.signed 16 (b * 256 + d))) := fun cc pc h hb => Or.inr (Or.inr ⟨rfl, fun h1 h2 => by
  refine mj_dec3 ?_
  unfold Decoder.instr
  refine (mj_u1c h hb _).trans ?_
  show ((Reader.s2 : Decoder Int) >>= _) cc (pc + 1) = _
  rw [mj_bind, mj_s2 h1 h2]
  rfl⟩)
theorem mj_e161 : mj_entOk 161 (3, fun b d => .if_icmp .lt (Reader.signed 16 (b * 256 + d))) := fun cc pc h hb => Or.inr (Or.inr ⟨rfl, fun h1 h2 => by
  refine mj_dec3 ?_
  unfold Decoder.instr
  refine (mj_u1c h hb _).trans ?_
  show ((Reader.s2 : Decoder Int) >>= _) cc (pc + 1) = _
  rw [mj_bind, mj_s2 h1 h2]
  rfl⟩)
theorem mj_e162 : mj_entOk 162 (3, fun b d => .if_icmp .ge (Reader.signed 16 (b * 256 + d))) := fun cc pc h hb => Or.inr (Or.inr ⟨rfl, fun h1 h2 => by
  refine mj_dec3 ?_
  unfold Decoder.instr
  refine (mj_u1c h hb _).trans ?_
  show ((Reader.s2 : Decoder Int) >>= _) cc (pc + 1) = _
  rw [mj_bind, mj_s2 h1 h2]
  rfl⟩)
theorem mj_e163 : mj_entOk 163 (3, fun b d => .if_icmp .gt (Reader.signed 16 (b * 256 + d))) := fun cc pc h hb => Or.inr (Or.inr ⟨rfl, fun h1 h2 => by
  refine mj_dec3 ?_
  unfold Decoder.instr
  refine (mj_u1c h hb _).trans ?_
  show ((Reader.s2 : Decoder Int) >>= _) cc (pc + 1) = _
  rw [mj_bind, mj_s2 h1 h2]
  rfl⟩)
theorem mj_e164 : mj_entOk 164 (3, fun b d => .if_icmp .le (Reader.signed 16 (b * 256 + d))) := fun cc pc h hb => Or.inr (Or.inr ⟨rfl, fun h1 h2 => by
  refine mj_dec3 ?_
  unfold Decoder.instr
  refine (mj_u1c h hb _).trans ?_
  show ((Reader.s2 : Decoder Int) >>= _) cc (pc + 1) = _
  rw [mj_bind, mj_s2 h1 h2]
  rfl⟩)
theorem mj_e167 : mj_entOk 167 (3, fun b d => .goto (Reader.signed 16 (b * 256 + d))) := fun cc pc h hb => Or.inr (Or.inr ⟨rfl, fun h1 h2 => by
  refine mj_dec3 ?_
  unfold Decoder.instr
  refine (mj_u1c h hb _).trans ?_
  show ((Reader.s2 : Decoder Int) >>= _) cc (pc + 1) = _
  rw [mj_bind, mj_s2 h1 h2]
  rfl⟩)
theorem mj_e172 : mj_entOk 172 (1, fun _ _ => .ireturn) := fun cc pc h hb => Or.inl ⟨rfl, by
  refine mj_dec1 ?_
  unfold Decoder.instr
  refine (mj_u1c h hb _).trans ?_
  rfl⟩
theorem mj_e173 : mj_entOk 173 (1, fun _ _ => .lreturn) := fun cc pc h hb => Or.inl ⟨rfl, by
  refine mj_dec1 ?_
  unfold Decoder.instr
  refine (mj_u1c h hb _).trans ?_
  rfl⟩
theorem mj_e174 : mj_entOk 174 (1, fun _ _ => .freturn) := fun cc pc h hb => Or.inl ⟨rfl, by
  refine mj_dec1 ?_
  unfold Decoder.instr
  refine (mj_u1c h hb _).trans ?_
  rfl⟩
theorem mj_e175 : mj_entOk 175 (1, fun _ _ => .dreturn) := fun cc pc h hb => Or.inl ⟨rfl, by
  refine mj_dec1 ?_
  unfold Decoder.instr
  refine (mj_u1c h hb _).trans ?_
  rfl⟩
theorem mj_e176 : mj_entOk 176 (1, fun _ _ => .areturn) := fun cc pc h hb => Or.inl ⟨rfl, by
  refine mj_dec1 ?_
  unfold Decoder.instr
  refine (mj_u1c h hb _).trans ?_
  rfl⟩
theorem mj_e177 : mj_entOk 177 (1, fun _ _ => .return_) := fun cc pc h hb => Or.inl ⟨rfl, by
  refine mj_dec1 ?_
  unfold Decoder.instr
  refine (mj_u1c h hb _).trans ?_
  rfl⟩
theorem mj_e180 : mj_entOk 180 (3, fun b d => .getfield (b * 256 + d)) := fun cc pc h hb => Or.inr (Or.inr ⟨rfl, fun h1 h2 => by
  refine mj_dec3 ?_
  unfold Decoder.instr
  refine (mj_u1c h hb _).trans ?_
  show ((Reader.u2 : Decoder Nat) >>= _) cc (pc + 1) = _
  rw [mj_bind, mj_u2 h1 h2]
  rfl⟩)
theorem mj_e181 : mj_entOk 181 (3, fun b d => .putfield (b * 256 + d)) := fun cc pc h hb => Or.inr (Or.inr ⟨rfl, fun h1 h2 => by
  refine mj_dec3 ?_
  unfold Decoder.instr
  refine (mj_u1c h hb _).trans ?_
  show ((Reader.u2 : Decoder Nat) >>= _) cc (pc + 1) = _
  rw [mj_bind, mj_u2 h1 h2]
  rfl⟩)
theorem mj_e182 : mj_entOk 182 (3, fun b d => .invokevirtual (b * 256 + d)) := fun cc pc h hb => Or.inr (Or.inr ⟨rfl, fun h1 h2 => by
  refine mj_dec3 ?_
  unfold Decoder.instr
  refine (mj_u1c h hb _).trans ?_
  show ((Reader.u2 : Decoder Nat) >>= _) cc (pc + 1) = _
  rw [mj_bind, mj_u2 h1 h2]
  rfl⟩)
theorem mj_e183 : mj_entOk 183 (3, fun b d => .invokespecial (b * 256 + d)) := fun cc pc h hb => Or.inr (Or.inr ⟨rfl, fun h1 h2 => by
  refine mj_dec3 ?_
  unfold Decoder.instr
  refine (mj_u1c h hb _).trans ?_
  show ((Reader.u2 : Decoder Nat) >>= _) cc (pc + 1) = _
  rw [mj_bind, mj_u2 h1 h2]
  rfl⟩)
theorem mj_e184 : mj_entOk 184 (3, fun b d => .invokestatic (b * 256 + d)) := fun cc pc h hb => Or.inr (Or.inr ⟨rfl, fun h1 h2 => by
  refine mj_dec3 ?_
  unfold Decoder.instr
  refine (mj_u1c h hb _).trans ?_
  show ((Reader.u2 : Decoder Nat) >>= _) cc (pc + 1) = _
  rw [mj_bind, mj_u2 h1 h2]
  rfl⟩)
theorem mj_e187 : mj_entOk 187 (3, fun b d => .new (b * 256 + d)) := fun cc pc h hb => Or.inr (Or.inr ⟨rfl, fun h1 h2 => by
  refine mj_dec3 ?_
  unfold Decoder.instr
  refine (mj_u1c h hb _).trans ?_
  show ((Reader.u2 : Decoder Nat) >>= _) cc (pc + 1) = _
  rw [mj_bind, mj_u2 h1 h2]
  rfl⟩)
theorem mj_e189 : mj_entOk 189 (3, fun b d => .anewarray (b * 256 + d)) := fun cc pc h hb => Or.inr (Or.inr ⟨rfl, fun h1 h2 => by
  refine mj_dec3 ?_
  unfold Decoder.instr
  refine (mj_u1c h hb _).trans ?_
  show ((Reader.u2 : Decoder Nat) >>= _) cc (pc + 1) = _
  rw [mj_bind, mj_u2 h1 h2]
  rfl⟩)
theorem mj_e190 : mj_entOk 190 (1, fun _ _ => .arraylength) := fun cc pc h hb => Or.inl ⟨rfl, by
  refine mj_dec1 ?_
  unfold Decoder.instr
  refine (mj_u1c h hb _).trans ?_
  rfl⟩
theorem mj_e191 : mj_entOk 191 (1, fun _ _ => .athrow) := fun cc pc h hb => Or.inl ⟨rfl, by
  refine mj_dec1 ?_
  unfold Decoder.instr
  refine (mj_u1c h hb _).trans ?_
  rfl⟩
theorem mj_ent_ok {b : Nat} {e : mj_F} (h : mj_ent b = some e) : mj_entOk b e := by
  unfold mj_ent at h
  split at h
  · cases h; exact mj_e2
  · cases h; exact mj_e3
  · cases h; exact mj_e4
  · cases h; exact mj_e5
  · cases h; exact mj_e6
  · cases h; exact mj_e7
  · cases h; exact mj_e8
  · cases h; exact mj_e9
  · cases h; exact mj_e10
  · cases h; exact mj_e16
  · cases h; exact mj_e17
  · cases h; exact mj_e18
  · cases h; exact mj_e19
  · cases h; exact mj_e20
  · cases h; exact mj_e21
  · cases h; exact mj_e22
  · cases h; exact mj_e24
  · cases h; exact mj_e25
  · cases h; exact mj_e26
  · cases h; exact mj_e27
  · cases h; exact mj_e28
  · cases h; exact mj_e29
  · cases h; exact mj_e30
  · cases h; exact mj_e31
  · cases h; exact mj_e32
  · cases h; exact mj_e33
  · cases h; exact mj_e42
  · cases h; exact mj_e43
  · cases h; exact mj_e44
  · cases h; exact mj_e45
  · cases h; exact mj_e46
  · cases h; exact mj_e47
  · cases h; exact mj_e50
  · cases h; exact mj_e51
  · cases h; exact mj_e54
  · cases h; exact mj_e55
  · cases h; exact mj_e57
  · cases h; exact mj_e58
  · cases h; exact mj_e59
  · cases h; exact mj_e60
  · cases h; exact mj_e61
  · cases h; exact mj_e62
  · cases h; exact mj_e63
  · cases h; exact mj_e64
  · cases h; exact mj_e65
  · cases h; exact mj_e66
  · cases h; exact mj_e75
  · cases h; exact mj_e76
  · cases h; exact mj_e77
  · cases h; exact mj_e78
  · cases h; exact mj_e79
  · cases h; exact mj_e80
  · cases h; exact mj_e83
  · cases h; exact mj_e84
  · cases h; exact mj_e87
  · cases h; exact mj_e88
  · cases h; exact mj_e89
  · cases h; exact mj_e92
  · cases h; exact mj_e96
  · cases h; exact mj_e97
  · cases h; exact mj_e100
  · cases h; exact mj_e101
  · cases h; exact mj_e104
  · cases h; exact mj_e105
  · cases h; exact mj_e108
  · cases h; exact mj_e109
  · cases h; exact mj_e110
  · cases h; exact mj_e111
  · cases h; exact mj_e112
  · cases h; exact mj_e113
  · cases h; exact mj_e116
  · cases h; exact mj_e117
  · cases h; exact mj_e121
  · cases h; exact mj_e122
  · cases h; exact mj_e124
  · cases h; exact mj_e126
  · cases h; exact mj_e127
  · cases h; exact mj_e129
  · cases h; exact mj_e132
  · cases h; exact mj_e133
  · cases h; exact mj_e134
  · cases h; exact mj_e135
  · cases h; exact mj_e136
  · cases h; exact mj_e141
  · cases h; exact mj_e145
  · cases h; exact mj_e148
  · cases h; exact mj_e151
  · cases h; exact mj_e152
  · cases h; exact mj_e153
  · cases h; exact mj_e154
  · cases h; exact mj_e155
  · cases h; exact mj_e156
  · cases h; exact mj_e157
  · cases h; exact mj_e158
  · cases h; exact mj_e159
  · cases h; exact mj_e160
  · cases h; exact mj_e161
  · cases h; exact mj_e162
  · cases h; exact mj_e163
  · cases h; exact mj_e164
  · cases h; exact mj_e167
  · cases h; exact mj_e172
  · cases h; exact mj_e173
  · cases h; exact mj_e174
  · cases h; exact mj_e175
  · cases h; exact mj_e176
  · cases h; exact mj_e177
  · cases h; exact mj_e180
  · cases h; exact mj_e181
  · cases h; exact mj_e182
  · cases h; exact mj_e183
  · cases h; exact mj_e184
  · cases h; exact mj_e187
  · cases h; exact mj_e189
  · cases h; exact mj_e190
  · cases h; exact mj_e191
  · cases h
/-- the bytes ahead are that instruction, of that length -/
def mj_fd (bs : List UInt8) (ins : Instr) (len : Nat) : Bool := match bs with
  | [] => false
  | b :: t => match mj_ent b.toNat with
    | none => false
    | some (1, f) => decide (f 0 0 = ins) && decide (len = 1)
    | some (2, f) => (match t with
      | c :: _ => decide (f c.toNat 0 = ins) && decide (len = 2)
      | _ => false)
    | some (_, f) => (match t with
      | c :: d :: _ => decide (f c.toNat d.toNat = ins) && decide (len = 3)
      | _ => false)
theorem mj_drop_get {cc : ByteArray} {pc : Nat} {b : UInt8} {t : List UInt8} (h : cc.data.toList.drop pc = b :: t) : ∃ h : pc < cc.size, cc[pc] = b ∧ cc.data.toList.drop (pc + 1) = t := by
  have h1 : cc.data.toList[pc]? = some b := by
    have := congrArg List.head? h
    rw [List.head?_drop] at this
    exact this
  obtain ⟨h2, h3⟩ := List.getElem?_eq_some_iff.mp h1
  refine ⟨?_, ?_, ?_⟩
  · rw [Array.length_toList] at h2
    exact h2
  · rw [← h3]
    rfl
  · rw [← List.drop_drop, h]
    rfl
theorem mj_fd_of {cc : ByteArray} {pc : Nat} {bs : List UInt8} {ins : Instr} {len : Nat} (hb : cc.data.toList.drop pc = bs) (h : mj_fd bs ins len = true) : decode cc pc = .ok (ins, len) := by
  unfold mj_fd at h
  split at h
  · cases h
  · rename_i b t
    obtain ⟨k, kb, kt⟩ := mj_drop_get hb
    split at h
    · cases h
    · rename_i f he
      simp only [Bool.and_eq_true, decide_eq_true_eq] at h
      rcases mj_ent_ok he cc pc k (by rw [kb]) with ⟨-, q⟩ | ⟨q, -⟩ | ⟨q, -⟩
      · refine q.trans ?_
        show Except.ok (f 0 0, 1) = _
        rw [h.1, h.2]
      · cases q
      · cases q
    · rename_i f he
      split at h
      · rename_i c t'
        simp only [Bool.and_eq_true, decide_eq_true_eq] at h
        obtain ⟨k1, kb1, -⟩ := mj_drop_get kt
        rcases mj_ent_ok he cc pc k (by rw [kb]) with ⟨q, -⟩ | ⟨-, q⟩ | ⟨q, -⟩
        · cases q
        · have := q k1
          rw [kb1] at this
          refine this.trans ?_
          show Except.ok (f c.toNat 0, 2) = _
          rw [h.1, h.2]
        · cases q
      · cases h
    · rename_i l f n1 n2 he
      split at h
      · rename_i c d t'
        simp only [Bool.and_eq_true, decide_eq_true_eq] at h
        obtain ⟨k1, kb1, kt1⟩ := mj_drop_get kt
        obtain ⟨k2, kb2, -⟩ := mj_drop_get kt1
        rcases mj_ent_ok he cc pc k (by rw [kb]) with ⟨q, -⟩ | ⟨q, -⟩ | ⟨-, q⟩
        · exact absurd q n1
        · exact absurd q n2
        · have := q k1 k2
          rw [kb1] at this
          have e2 : cc[pc + 2].toNat = d.toNat := congrArg UInt8.toNat kb2
          rw [e2] at this
          refine this.trans ?_
          show Except.ok (f c.toNat d.toNat, 3) = _
          rw [h.1, h.2]
      · cases h
