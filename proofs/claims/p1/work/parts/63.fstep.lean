/-! The fast machine's straight steps are the small machine's. -/
/-- what a straight step is in the small machine's code: its length -/
def mq_ckPu (w : mq_W) (ins : Instr) (r1 r2 : Nat) : Option Nat := match w with
  | (Sum.inl x) => (match ins with
    | .iconst k => if jn x = Int32.ofInt k then some 1 else none
    | .bipush k => if jn x = Int32.ofInt k then some 2 else none
    | .sipush k => if jn x = Int32.ofInt k then some 3 else none
    | .ldc _ => if r2 = 0 ∧ jn x = Int32.ofNat r1 then some 2 else none
    | .ldc_w _ => if r2 = 0 ∧ jn x = Int32.ofNat r1 then some 3 else none
    | _ => none)
  | (Sum.inr (Sum.inr (Sum.inl x))) => (match ins with
    | .lconst k => if jl x = Int64.ofNat k.val then some 1 else none
    | .ldc2_w _ => if r2 = 0 ∧ jl x = Int64.ofNat r1 then some 3 else none
    | _ => none)
  | (Sum.inr (Sum.inr (Sum.inr (Sum.inr (Sum.inr (Sum.inr (Sum.inl x))))))) => (match ins with
    | .ldc2_w _ => if r2 = 1 ∧ x = UInt64.ofNat r1 then some 3 else none
    | _ => none)
  | (Sum.inr (Sum.inr (Sum.inr (Sum.inr (Sum.inr (Sum.inr (Sum.inr (Sum.inl x)))))))) => (match ins with
    | .ldc _ => if r2 = 1 ∧ x = UInt32.ofNat r1 then some 2 else none
    | .ldc_w _ => if r2 = 1 ∧ x = UInt32.ofNat r1 then some 3 else none
    | _ => none)
  | _ => none
def mq_ckLd (kd i : Nat) (ins : Instr) : Option Nat := match ins with
  | .iload_n k => if kd = 0 ∧ k.val = i then some 1 else none
  | .iload k => if kd = 0 ∧ k = i then some 2 else none
  | .lload_n k => if kd = 1 ∧ k.val = i then some 1 else none
  | .lload k => if kd = 1 ∧ k = i then some 2 else none
  | .aload_n k => if kd = 2 ∧ k.val = i then some 1 else none
  | .aload k => if kd = 2 ∧ k = i then some 2 else none
  | .dload_n k => if kd = 3 ∧ k.val = i then some 1 else none
  | .dload k => if kd = 3 ∧ k = i then some 2 else none
  | _ => none
def mq_ckSt (nl kd i : Nat) (ins : Instr) : Option Nat := match ins with
  | .istore_n k => if kd = 0 ∧ k.val = i ∧ i < nl then some 1 else none
  | .istore k => if kd = 0 ∧ k = i ∧ i < nl then some 2 else none
  | .lstore_n k => if kd = 1 ∧ k.val = i ∧ i + 1 < nl then some 1 else none
  | .lstore k => if kd = 1 ∧ k = i ∧ i + 1 < nl then some 2 else none
  | .astore_n k => if kd = 2 ∧ k.val = i ∧ i < nl then some 1 else none
  | .astore k => if kd = 2 ∧ k = i ∧ i < nl then some 2 else none
  | .dstore_n k => if kd = 3 ∧ k.val = i ∧ i + 1 < nl then some 1 else none
  | .dstore k => if kd = 3 ∧ k = i ∧ i + 1 < nl then some 2 else none
  | _ => none
def mq_ckIi (nl i c : Nat) (ins : Instr) : Option Nat := match ins with
  | .iinc k x => if k = i ∧ jn c = Int32.ofInt x ∧ i < nl then some 3 else none
  | _ => none
def mq_G (D : Nat) (M : mj_M) (Q : mj_R → Prop) (ρ : Nat → Nat) (κ : mq_Kt) (pc : Nat) : Prop := ∀ loc st n t env mloc h, mq_R ρ M.2.2.1 loc n t env mloc h → κ loc st n t env = true → mj_T D M pc mloc (st.map (mq_val ρ)) h Q
section MQS
variable {D pc : Nat} {M : mj_M} {Q : mj_R → Prop} {r1 r2 r3 r4 r5 : Nat} {ρ : Nat → Nat} {loc st : List mq_W} {n : Nat} {t : mq_Ht} {env : mq_V} {mloc : mj_L} {h : mj_H} {κ : mq_Kt} {ins : Instr}
theorem mq_s_b32 {f : Nat → Nat → Nat} (hc : M.2.2.2.2.1 pc = some (ins, r1, r2, r3, r4, r5)) (hk : mj_kind ins r3 = 0) (hs : ∀ (x y : Nat) (s : List Value) (loc : mj_L) (h : mj_H), mj_step ins r1 r2 r3 mj_new pc loc (.int (jn y) :: .int (jn x) :: s) h = some (pc + 1, loc, .int (jn (f x y : Nat)) :: s, h)) (R : mq_R ρ M.2.2.1 loc n t env mloc h) (g0 : mq_x_b32 f loc st n t env κ = true) (G : mq_G D M Q ρ κ (pc + 1)) : mj_T D M pc mloc (st.map (mq_val ρ)) h Q := by
  obtain ⟨w, s, y, e, rfl, e1, S, g1⟩ := mq_pI_of g0 R.sat
  obtain ⟨v, s, x, e', rfl, e2, S', g2⟩ := mq_pI_of g1 S
  rw [List.map_cons, List.map_cons, e1, e2]
  exact mj_T.step hc hk (hs x y _ _ _) (G _ ((Sum.inl (f x y)) :: s) _ _ _ _ _ (R.env S') g2)
theorem mq_jn_zero {y : Nat} (hb : mq_nz32 y = true) : ¬ jn (y : Nat) = 0 := by
  have hb : 1 ≤ y % 4294967296 := Nat.ble_eq.mp hb
  intro e
  have h1 := mq_jn_toInt y
  rw [e] at h1
  have h2 : mq_o32 y = (y + 2147483648) % 4294967296 := rfl
  have h3 : (0 : Int32).toInt = 0 := rfl
  omega
theorem mq_jl_zero {y : Nat} (hb : mq_nz64 y = true) : ¬ jl (y : Nat) = 0 := by
  have hb : 1 ≤ y % 18446744073709551616 := Nat.ble_eq.mp hb
  intro e
  have h1 := mq_jl_toInt y
  rw [e] at h1
  have h2 : mq_o64 y = (y + 9223372036854775808) % 18446744073709551616 := rfl
  have h3 : (0 : Int64).toInt = 0 := rfl
  omega
theorem mq_s_d32 {f : Nat → Nat → Nat} (hc : M.2.2.2.2.1 pc = some (ins, r1, r2, r3, r4, r5)) (hk : mj_kind ins r3 = 0) (hs : ∀ (x y : Nat) (s : List Value) (loc : mj_L) (h : mj_H), ¬ jn (y : Nat) = 0 → mj_step ins r1 r2 r3 mj_new pc loc (.int (jn y) :: .int (jn x) :: s) h = some (pc + 1, loc, .int (jn (f x y : Nat)) :: s, h)) (R : mq_R ρ M.2.2.1 loc n t env mloc h) (g0 : mq_x_d32 f loc st n t env κ = true) (G : mq_G D M Q ρ κ (pc + 1)) : mj_T D M pc mloc (st.map (mq_val ρ)) h Q := by
  obtain ⟨w, s, y, e, rfl, e1, S, g1⟩ := mq_pI_of g0 R.sat
  obtain ⟨hz, g2⟩ := mq_cond_of g1
  obtain ⟨v, s, x, e', rfl, e2, S', g3⟩ := mq_pI_of g2 S
  rw [List.map_cons, List.map_cons, e1, e2]
  exact mj_T.step hc hk (hs x y _ _ _ (mq_jn_zero hz)) (G _ ((Sum.inl (f x y)) :: s) _ _ _ _ _ (R.env S') g3)
theorem mq_s_u32 {f : Nat → Nat} (hc : M.2.2.2.2.1 pc = some (ins, r1, r2, r3, r4, r5)) (hk : mj_kind ins r3 = 0) (hs : ∀ (x : Nat) (s : List Value) (loc : mj_L) (h : mj_H), mj_step ins r1 r2 r3 mj_new pc loc (.int (jn x) :: s) h = some (pc + 1, loc, .int (jn (f x : Nat)) :: s, h)) (R : mq_R ρ M.2.2.1 loc n t env mloc h) (g0 : mq_x_u32 f loc st n t env κ = true) (G : mq_G D M Q ρ κ (pc + 1)) : mj_T D M pc mloc (st.map (mq_val ρ)) h Q := by
  obtain ⟨v, s, x, e', rfl, e2, S', g1⟩ := mq_pI_of g0 R.sat
  rw [List.map_cons, e2]
  exact mj_T.step hc hk (hs x _ _ _) (G _ ((Sum.inl (f x)) :: s) _ _ _ _ _ (R.env S') g1)
theorem mq_s_b64 {f : Nat → Nat → Nat} (hc : M.2.2.2.2.1 pc = some (ins, r1, r2, r3, r4, r5)) (hk : mj_kind ins r3 = 0) (hs : ∀ (x y : Nat) (s : List Value) (loc : mj_L) (h : mj_H), mj_step ins r1 r2 r3 mj_new pc loc (.long (jl y) :: .long (jl x) :: s) h = some (pc + 1, loc, .long (jl (f x y : Nat)) :: s, h)) (R : mq_R ρ M.2.2.1 loc n t env mloc h) (g0 : mq_x_b64 f loc st n t env κ = true) (G : mq_G D M Q ρ κ (pc + 1)) : mj_T D M pc mloc (st.map (mq_val ρ)) h Q := by
  obtain ⟨w, s, y, e, rfl, e1, S, g1⟩ := mq_pJ_of g0 R.sat
  obtain ⟨v, s, x, e', rfl, e2, S', g2⟩ := mq_pJ_of g1 S
  rw [List.map_cons, List.map_cons, e1, e2]
  exact mj_T.step hc hk (hs x y _ _ _) (G _ ((Sum.inr (Sum.inr (Sum.inl (f x y)))) :: s) _ _ _ _ _ (R.env S') g2)
theorem mq_s_d64 {f : Nat → Nat → Nat} (hc : M.2.2.2.2.1 pc = some (ins, r1, r2, r3, r4, r5)) (hk : mj_kind ins r3 = 0) (hs : ∀ (x y : Nat) (s : List Value) (loc : mj_L) (h : mj_H), ¬ jl (y : Nat) = 0 → mj_step ins r1 r2 r3 mj_new pc loc (.long (jl y) :: .long (jl x) :: s) h = some (pc + 1, loc, .long (jl (f x y : Nat)) :: s, h)) (R : mq_R ρ M.2.2.1 loc n t env mloc h) (g0 : mq_x_d64 f loc st n t env κ = true) (G : mq_G D M Q ρ κ (pc + 1)) : mj_T D M pc mloc (st.map (mq_val ρ)) h Q := by
  obtain ⟨w, s, y, e, rfl, e1, S, g1⟩ := mq_pJ_of g0 R.sat
  obtain ⟨hz, g2⟩ := mq_cond_of g1
  obtain ⟨v, s, x, e', rfl, e2, S', g3⟩ := mq_pJ_of g2 S
  rw [List.map_cons, List.map_cons, e1, e2]
  exact mj_T.step hc hk (hs x y _ _ _ (mq_jl_zero hz)) (G _ ((Sum.inr (Sum.inr (Sum.inl (f x y)))) :: s) _ _ _ _ _ (R.env S') g3)
theorem mq_s_lneg (hc : M.2.2.2.2.1 pc = some (.lneg, r1, r2, r3, r4, r5)) (R : mq_R ρ M.2.2.1 loc n t env mloc h) (g0 : mq_x_lneg loc st n t env κ = true) (G : mq_G D M Q ρ κ (pc + 1)) : mj_T D M pc mloc (st.map (mq_val ρ)) h Q := by
  obtain ⟨v, s, x, e', rfl, e2, S', g1⟩ := mq_pJ_of g0 R.sat
  rw [List.map_cons, e2]
  exact mj_T.step hc rfl (by simp only [mj_step, ← mq_jl_neg]; rfl) (G _ ((Sum.inr (Sum.inr (Sum.inl (mq_neg64 x)))) :: s) _ _ _ _ _ (R.env S') g1)
theorem mq_s_iadd (hc : M.2.2.2.2.1 pc = some (.iadd, r1, r2, r3, r4, r5)) (R : mq_R ρ M.2.2.1 loc n t env mloc h) (g0 : mq_x_iadd loc st n t env κ = true) (G : mq_G D M Q ρ κ (pc + 1)) : mj_T D M pc mloc (st.map (mq_val ρ)) h Q := by
  obtain ⟨wy, s, rfl, g1⟩ := mq_p1_of g0
  obtain ⟨wx, s, rfl, g2⟩ := mq_p1_of g1
  have key : ∀ (z : Int) (c y : Nat), jn (z + (mq_add32 c y : Nat)) = jn (z + c) + jn (y : Nat) := fun z c y => by
    rw [← jn_add, mq_jn_add, jn_add, jn_add, jn_add, Int.add_assoc]
  have two : mq_x_iadd2 wx wy loc s n t env κ = true → mj_T D M pc mloc ((wy :: wx :: s).map (mq_val ρ)) h Q := fun g2 => by
    unfold mq_x_iadd2 at g2
    split at g2
    · rename_i x i m c _
      refine mj_T.step hc rfl ?_ (G _ ((Sum.inr (Sum.inr (Sum.inr (Sum.inl (i, m, (mq_add32 c x)))))) :: s) _ _ _ _ _ R g2)
      simp only [mj_step, mq_val, List.map_cons]
      rw [key, jn_add, jn_add, Int.add_comm]
    · rename_i i m c y _
      refine mj_T.step hc rfl ?_ (G _ ((Sum.inr (Sum.inr (Sum.inr (Sum.inl (i, m, (mq_add32 c y)))))) :: s) _ _ _ _ _ R g2)
      simp only [mj_step, mq_val, List.map_cons]
      rw [key]
    · rename_i i m c i2 m2 c2 _
      obtain ⟨e, S, g3⟩ := mq_fork_of g2 R.sat
      refine mj_T.step hc rfl ?_ (G _ ((Sum.inr (Sum.inr (Sum.inr (Sum.inl (i2, m2, (mq_add32 c2 (mq_ev (ρ i) m c))))))) :: s) _ _ _ _ _ (R.env S) g3)
      simp only [mj_step, mq_val, List.map_cons]
      rw [key, mq_ev_eq, jn_add, jn_add, Int.add_comm]
    · cases g2
  match wx, wy, g2, two with
  | .inl x, .inl y, g2, _ =>
    exact mj_T.step hc rfl (by simp only [mj_step, mq_val, List.map_cons]; rw [← mq_jn_add]) (G _ ((Sum.inl (mq_add32 x y)) :: s) _ _ _ _ _ R g2)
  | .inl x, .inr r, g2, two => exact two g2
  | .inr r, wy, g2, two => exact two g2
theorem mq_s_imul (hc : M.2.2.2.2.1 pc = some (.imul, r1, r2, r3, r4, r5)) (R : mq_R ρ M.2.2.1 loc n t env mloc h) (g0 : mq_x_imul loc st n t env κ = true) (G : mq_G D M Q ρ κ (pc + 1)) : mj_T D M pc mloc (st.map (mq_val ρ)) h Q := by
  obtain ⟨wy, s, rfl, g1⟩ := mq_p1_of g0
  obtain ⟨wx, s, rfl, g2⟩ := mq_p1_of g1
  have key : ∀ (z : Int) (m c y : Nat), jn (z * (mq_mul32 m y : Nat) + (mq_mul32 c y : Nat)) = jn (z * m + c) * jn (y : Nat) := fun z m c y => by
    rw [← jn_add, ← jn_mul, mq_jn_mul, mq_jn_mul, jn_mul, jn_mul, jn_mul, jn_mul, jn_add, Int.add_mul, Int.mul_assoc]
  have two : mq_x_imul2 wx wy loc s n t env κ = true → mj_T D M pc mloc ((wy :: wx :: s).map (mq_val ρ)) h Q := fun g2 => by
    unfold mq_x_imul2 at g2
    split at g2
    · rename_i x i m c _
      refine mj_T.step hc rfl ?_ (G _ ((Sum.inr (Sum.inr (Sum.inr (Sum.inl (i, (mq_mul32 m x), (mq_mul32 c x)))))) :: s) _ _ _ _ _ R g2)
      simp only [mj_step, mq_val, List.map_cons]
      rw [key, jn_mul, jn_mul, Int.mul_comm]
    · rename_i i m c y _
      refine mj_T.step hc rfl ?_ (G _ ((Sum.inr (Sum.inr (Sum.inr (Sum.inl (i, (mq_mul32 m y), (mq_mul32 c y)))))) :: s) _ _ _ _ _ R g2)
      simp only [mj_step, mq_val, List.map_cons]
      rw [key]
    · rename_i i m c i2 m2 c2 _
      obtain ⟨q, g2⟩ := mq_cond_of g2
      rw [mq_and_eq, mq_and_eq, mq_and_eq] at q
      obtain ⟨⟨q3, q4⟩, q5, q6⟩ := q
      have q3 : m = 1 := Nat.beq_eq.mp q3
      have q4 : c = 0 := Nat.beq_eq.mp q4
      have q5 : m2 = 1 := Nat.beq_eq.mp q5
      have q6 : c2 = 0 := Nat.beq_eq.mp q6
      subst q3
      subst q4
      subst q5
      subst q6
      have e0 : ∀ k : Nat, ((ρ k : Int) - 2147483648) * ((1 : Nat) : Int) + ((0 : Nat) : Int) = (ρ k : Int) - 2147483648 := fun k => by omega
      obtain ⟨-, v1, v2, v3, -⟩ := R.sat.vq
      rcases mq_if_or g2 with ⟨q, g2⟩ | ⟨-, g2⟩
      · rw [mq_and_eq] at q
        have q1 : i = 2 := Nat.beq_eq.mp q.1
        have q2 : i2 = 5 := Nat.beq_eq.mp q.2
        subst q1
        subst q2
        refine mj_T.step hc rfl ?_ (G _ ((Sum.inr (Sum.inr (Sum.inr (Sum.inl (6, 1, 0))))) :: s) _ _ _ _ _ R g2)
        simp only [mj_step, mq_val, List.map_cons, e0]
        rw [show jn ((ρ 6 : Int) - 2147483648) = jn ((ρ 2 : Int) - 2147483648) * jn ((ρ 5 : Int) - 2147483648) from v1]
      · rcases mq_if_or g2 with ⟨q, g2⟩ | ⟨-, g2⟩
        · rw [mq_and_eq] at q
          have q1 : i = 4 := Nat.beq_eq.mp q.1
          have q2 : i2 = 3 := Nat.beq_eq.mp q.2
          subst q1
          subst q2
          refine mj_T.step hc rfl ?_ (G _ ((Sum.inr (Sum.inr (Sum.inr (Sum.inl (7, 1, 0))))) :: s) _ _ _ _ _ R g2)
          simp only [mj_step, mq_val, List.map_cons, e0]
          rw [show jn ((ρ 7 : Int) - 2147483648) = jn ((ρ 4 : Int) - 2147483648) * jn ((ρ 3 : Int) - 2147483648) from v2]
        · obtain ⟨q, g2⟩ := mq_cond_of g2
          rw [mq_and_eq] at q
          have q1 : i = 3 := Nat.beq_eq.mp q.1
          have q2 : i2 = 5 := Nat.beq_eq.mp q.2
          subst q1
          subst q2
          refine mj_T.step hc rfl ?_ (G _ ((Sum.inr (Sum.inr (Sum.inr (Sum.inl (8, 1, 0))))) :: s) _ _ _ _ _ R g2)
          simp only [mj_step, mq_val, List.map_cons, e0]
          rw [show jn ((ρ 8 : Int) - 2147483648) = jn ((ρ 3 : Int) - 2147483648) * jn ((ρ 5 : Int) - 2147483648) from v3]
    · cases g2
  match wx, wy, g2, two with
  | .inl x, .inl y, g2, _ =>
    exact mj_T.step hc rfl (by simp only [mj_step, mq_val, List.map_cons]; rw [← mq_jn_mul]) (G _ ((Sum.inl (mq_mul32 x y)) :: s) _ _ _ _ _ R g2)
  | .inl x, .inr r, g2, two => exact two g2
  | .inr r, wy, g2, two => exact two g2
theorem mq_jn_bits (x : Nat) : (jn (x : Nat)).toBitVec = BitVec.ofNat 32 x := by
  show BitVec.ofInt 32 (x : Int) = _
  exact BitVec.ofInt_natCast 32 x
theorem mq_jl_bits (x : Nat) : (jl (x : Nat)).toBitVec = BitVec.ofNat 64 x := by
  show BitVec.ofInt 64 (x : Int) = _
  exact BitVec.ofInt_natCast 64 x
theorem mq_jn_and (x y : Nat) : jn (mq_and32 x y : Nat) = jn x &&& jn y := by
  apply Int32.toBitVec_inj.mp
  rw [Int32.toBitVec_and, mq_jn_bits, mq_jn_bits, mq_jn_bits]
  exact BitVec.ofNat_and
theorem mq_jn_byte (x : Nat) : jn (mq_i2b x : Nat) = (jn x).toInt8.toInt32 := by
  apply Int32.toInt_inj.mp
  rw [Int8.toInt_toInt32, Int32.toInt_toInt8, mq_jn_toInt, mq_jn_toInt]
  unfold mq_i2b
  have e1 : ∀ z, mq_o32 z = (z + 2147483648) % 4294967296 := fun _ => rfl
  rw [e1, e1]
  have e2 : Nat.mod x (nat_lit 256) = x % 256 := rfl
  rw [e2]
  by_cases hx : 128 ≤ x % 256
  · have e3 : Nat.ble (nat_lit 128) (x % 256) = true := Nat.ble_eq.mpr hx
    rw [e3]
    have e4 : Nat.add (x % 256) (nat_lit 4294967040) = x % 256 + 4294967040 := rfl
    show ((((Nat.add (x % 256) (nat_lit 4294967040)) + 2147483648) % 4294967296 : Nat) : Int) - 2147483648 = Int.bmod _ 256
    rw [e4]
    unfold Int.bmod
    simp only []
    split <;> omega
  · have e3 : Nat.ble (nat_lit 128) (x % 256) = false := by rw [← Bool.not_eq_true, Nat.ble_eq]; exact hx
    rw [e3]
    show (((x % 256 + 2147483648) % 4294967296 : Nat) : Int) - 2147483648 = Int.bmod _ 256
    unfold Int.bmod
    simp only []
    split <;> omega
theorem mq_s_iand (hc : M.2.2.2.2.1 pc = some (.iand, r1, r2, r3, r4, r5)) (R : mq_R ρ M.2.2.1 loc n t env mloc h) (g0 : mq_x_iand loc st n t env κ = true) (G : mq_G D M Q ρ κ (pc + 1)) : mj_T D M pc mloc (st.map (mq_val ρ)) h Q := by
  obtain ⟨w, s, y, e, rfl, e1, S, g1⟩ := mq_pI_of g0 R.sat
  obtain ⟨wx, s, rfl, g2⟩ := mq_p1_of g1
  rw [List.map_cons, List.map_cons, e1]
  split at g2
  · exact mj_T.step hc rfl (by simp only [mj_step, mq_val, ← mq_jn_and]; rfl) (G _ ((Sum.inl _) :: s) _ _ _ _ _ (R.env S) g2)
  · rename_i i m c
    split at g2
    rename_i lo hi hb
    obtain ⟨gk, g3⟩ := mq_cond_of g2
    simp only [mq_and_eq, Nat.beq_eq] at gk
    obtain ⟨⟨h1, h2, h3⟩, h4, h5⟩ := gk
    have hρ := S.of 63 lo hi hb
    have e63 : ρ 63 = lo := by omega
    refine mj_T.step hc rfl ?_ (G _ ((Sum.inl lo) :: s) _ _ _ _ _ (R.env S) g3)
    have e4 : y = 63 := h4
    subst h1 h2 h3 e4
    simp only [mj_step, mq_val]
    have e5 : ((ρ 0 : Int) - 2147483648) * ((1 : Nat) : Int) + ((0 : Nat) : Int) = (ρ 0 : Int) - 2147483648 := by omega
    have e6 : ((63 : Nat) : Int) = 63 := rfl
    rw [e5, e6, S.op, e63]
    rfl
  · cases g2
theorem mq_sh_amt : ∀ y, y < 64 → (((jn (y : Nat)).toInt64 &&& 63).toBitVec.smod 64).toNat = y := by decide
theorem mq_jl_shl (x y : Nat) (hy : y < 64) : jl (mq_shl x y : Nat) = jl x <<< ((jn (y : Nat)).toInt64 &&& 63) := by
  apply Int64.toBitVec_inj.mp
  rw [Int64.toBitVec_shiftLeft, mq_jl_bits, mq_jl_bits]
  apply BitVec.eq_of_toNat_eq
  rw [BitVec.shiftLeft_eq', BitVec.toNat_shiftLeft, mq_sh_amt y hy, BitVec.toNat_ofNat, BitVec.toNat_ofNat, Nat.shiftLeft_eq]
  have e : mq_shl x y = (x * 2 ^ y) % 18446744073709551616 := rfl
  rw [e]
  show ((x * 2 ^ y) % 18446744073709551616) % 18446744073709551616 = ((x % 18446744073709551616) * 2 ^ y) % 18446744073709551616
  rw [Nat.mod_mod, Nat.mod_mul_mod]
theorem mq_s_lshl (hc : M.2.2.2.2.1 pc = some (.lshl, r1, r2, r3, r4, r5)) (R : mq_R ρ M.2.2.1 loc n t env mloc h) (g0 : mq_x_lshl loc st n t env κ = true) (G : mq_G D M Q ρ κ (pc + 1)) : mj_T D M pc mloc (st.map (mq_val ρ)) h Q := by
  obtain ⟨w, s, y, e, rfl, e1, S, g1⟩ := mq_pI_of g0 R.sat
  obtain ⟨v, s, rfl, g2⟩ := mq_p1_of g1
  rw [List.map_cons, List.map_cons, e1]
  split at g2
  · rename_i i
    obtain ⟨q, g3⟩ := mq_cond_of g2
    rw [mq_and_eq] at q
    have q1 := Nat.beq_eq.mp q.1
    have q2 : y = 32 := Nat.beq_eq.mp q.2
    subst q1
    subst q2
    exact mj_T.step hc rfl rfl (G _ ((Sum.inr (Sum.inr (Sum.inr (Sum.inr (Sum.inr (Sum.inr (Sum.inr (Sum.inr (some (some none)))))))))) :: s) _ _ _ _ _ (R.env S) g3)
  · obtain ⟨hy, g4⟩ := mq_cond_of g2
    have hy : y ≤ 63 := Nat.ble_eq.mp hy
    obtain ⟨x, e', e2, S', g5⟩ := mq_vJ_of g4 S
    rw [e2]
    exact mj_T.step hc rfl (by simp only [mj_step, ← mq_jl_shl x y (by omega)]; rfl) (G _ ((Sum.inr (Sum.inr (Sum.inl (mq_shl x y)))) :: s) _ _ _ _ _ (R.env S') g5)
theorem mq_s_land (hc : M.2.2.2.2.1 pc = some (.land, r1, r2, r3, r4, r5)) (R : mq_R ρ M.2.2.1 loc n t env mloc h) (g0 : mq_x_land loc st n t env κ = true) (G : mq_G D M Q ρ κ (pc + 1)) : mj_T D M pc mloc (st.map (mq_val ρ)) h Q := by
  obtain ⟨w, s, rfl, g1⟩ := mq_p1_of g0
  obtain ⟨v, s, rfl, g2⟩ := mq_p1_of g1
  split at g2
  · rename_i i y
    obtain ⟨q, g3⟩ := mq_cond_of g2
    rw [mq_and_eq] at q
    have q1 := Nat.beq_eq.mp q.1
    have q2 : y = 4294967295 := Nat.beq_eq.mp q.2
    subst q1
    subst q2
    exact mj_T.step hc rfl rfl (G _ ((Sum.inr (Sum.inr (Sum.inr (Sum.inr (Sum.inr (Sum.inr (Sum.inr (Sum.inr (some (some (some true))))))))))) :: s) _ _ _ _ _ R g3)
  · cases g2
theorem mq_s_lor (hc : M.2.2.2.2.1 pc = some (.lor, r1, r2, r3, r4, r5)) (R : mq_R ρ M.2.2.1 loc n t env mloc h) (g0 : mq_x_lor loc st n t env κ = true) (G : mq_G D M Q ρ κ (pc + 1)) : mj_T D M pc mloc (st.map (mq_val ρ)) h Q := by
  obtain ⟨w, s, rfl, g1⟩ := mq_p1_of g0
  obtain ⟨v, s, rfl, g2⟩ := mq_p1_of g1
  split at g2
  · exact mj_T.step hc rfl rfl (G _ ((Sum.inr (Sum.inr (Sum.inr (Sum.inr (Sum.inr (Sum.inr (Sum.inr (Sum.inr (some (some (some false))))))))))) :: s) _ _ _ _ _ R g2)
  · cases g2
theorem mq_s_i2l (hc : M.2.2.2.2.1 pc = some (.i2l, r1, r2, r3, r4, r5)) (R : mq_R ρ M.2.2.1 loc n t env mloc h) (g0 : mq_x_i2l loc st n t env κ = true) (G : mq_G D M Q ρ κ (pc + 1)) : mj_T D M pc mloc (st.map (mq_val ρ)) h Q := by
  obtain ⟨w, s, rfl, g1⟩ := mq_p1_of g0
  split at g1
  · exact mj_T.step hc rfl (by simp only [mj_step, mq_val, List.map_cons, ← mq_jn_long]) (G _ ((Sum.inr (Sum.inr (Sum.inl _))) :: s) _ _ _ _ _ R g1)
  · rename_i i m c
    cases hb : (mq_and (Nat.beq m 1) (Nat.beq c 0))
    · rw [hb] at g1
      obtain ⟨e, h1, h2⟩ := mq_fork_of (env := env) (i := i) (k := fun o e => κ loc ((Sum.inr (Sum.inr (Sum.inl (mq_i2l (mq_ev o m c))))) :: s) n t e) g1 R.sat
      exact mj_T.step hc rfl (by simp only [mj_step, mq_val, List.map_cons, ← mq_jn_long, mq_ev_eq]) (G _ ((Sum.inr (Sum.inr (Sum.inl _))) :: s) _ _ _ _ _ (R.env h1) h2)
    · rw [hb] at g1
      rw [mq_and_eq, Nat.beq_eq, Nat.beq_eq] at hb
      obtain ⟨e1, e2⟩ := hb
      subst e1
      subst e2
      refine mj_T.step hc rfl ?_ (G _ ((Sum.inr (Sum.inr (Sum.inr (Sum.inr (Sum.inl i))))) :: s) _ _ _ _ _ R g1)
      have hbd := R.sat.bd i
      have e5 : ((ρ i : Int) - 2147483648) * ((1 : Nat) : Int) + ((0 : Nat) : Int) = (ρ i : Int) - 2147483648 := by omega
      simp only [mj_step, mq_val, List.map_cons]
      rw [e5, jn_long ⟨by omega, by omega⟩]
  · cases g1
theorem mq_s_l2i (hc : M.2.2.2.2.1 pc = some (.l2i, r1, r2, r3, r4, r5)) (R : mq_R ρ M.2.2.1 loc n t env mloc h) (g0 : mq_x_l2i loc st n t env κ = true) (G : mq_G D M Q ρ κ (pc + 1)) : mj_T D M pc mloc (st.map (mq_val ρ)) h Q := by
  obtain ⟨w, s, rfl, g1⟩ := mq_p1_of g0
  split at g1
  · rename_i x
    refine mj_T.step hc rfl ?_ (G _ ((Sum.inl _) :: s) _ _ _ _ _ R g1)
    simp only [mj_step, mq_val, List.map_cons]
    rw [mq_jl_int]
    rfl
  · rename_i i
    refine mj_T.step hc rfl ?_ (G _ ((Sum.inr (Sum.inr (Sum.inr (Sum.inl (i, 1, 0))))) :: s) _ _ _ _ _ R g1)
    have e5 : ((ρ i : Int) - 2147483648) * ((1 : Nat) : Int) + ((0 : Nat) : Int) = (ρ i : Int) - 2147483648 := by omega
    simp only [mj_step, mq_val, List.map_cons]
    rw [e5, jl_int]
  · cases g1
theorem mq_or_of {a b : Bool} (h : or a b = true) : a = true ∨ b = true := by
  cases a
  · exact Or.inr h
  · exact Or.inl rfl
theorem mq_s_dup (hc : M.2.2.2.2.1 pc = some (.dup, r1, r2, r3, r4, r5)) (R : mq_R ρ M.2.2.1 loc n t env mloc h) (g0 : mq_x_dup loc st n t env κ = true) (G : mq_G D M Q ρ κ (pc + 1)) : mj_T D M pc mloc (st.map (mq_val ρ)) h Q := by
  obtain ⟨w, s, rfl, g1⟩ := mq_p1_of g0
  obtain ⟨gk, g2⟩ := mq_cond_of g1
  have G1 := G _ (w :: w :: s) _ _ _ _ _ R g2
  simp only [List.map_cons] at G1 ⊢
  rcases mq_or_of gk with gk | gk
  · obtain ⟨x, hx⟩ := mq_kd0 (ρ := ρ) gk
    rw [hx] at G1 ⊢
    exact mj_T.step hc rfl rfl G1
  · obtain ⟨x, hx⟩ := mq_kd2 (ρ := ρ) gk
    rw [hx] at G1 ⊢
    exact mj_T.step hc rfl rfl G1
theorem mq_s_dup2 (hc : M.2.2.2.2.1 pc = some (.dup2, r1, r2, r3, r4, r5)) (R : mq_R ρ M.2.2.1 loc n t env mloc h) (g0 : mq_x_dup2 loc st n t env κ = true) (G : mq_G D M Q ρ κ (pc + 1)) : mj_T D M pc mloc (st.map (mq_val ρ)) h Q := by
  obtain ⟨w, s, rfl, g1⟩ := mq_p1_of g0
  obtain ⟨v, s, rfl, g2⟩ := mq_p1_of g1
  obtain ⟨gk, g3⟩ := mq_cond_of g2
  have G1 := G _ (w :: v :: w :: v :: s) _ _ _ _ _ R g3
  simp only [List.map_cons] at G1 ⊢
  rw [mq_and_eq] at gk
  obtain ⟨x, hx⟩ := mq_kd0 (ρ := ρ) gk.1
  obtain ⟨y, hy⟩ := mq_kd2 (ρ := ρ) gk.2
  rw [hx, hy] at G1 ⊢
  exact mj_T.step hc rfl rfl G1
theorem mq_s_pop (hc : M.2.2.2.2.1 pc = some (.pop, r1, r2, r3, r4, r5)) (R : mq_R ρ M.2.2.1 loc n t env mloc h) (g0 : mq_x_pop loc st n t env κ = true) (G : mq_G D M Q ρ κ (pc + 1)) : mj_T D M pc mloc (st.map (mq_val ρ)) h Q := by
  obtain ⟨w, s, rfl, g1⟩ := mq_p1_of g0
  obtain ⟨gk, g2⟩ := mq_cond_of g1
  have G1 := G _ s _ _ _ _ _ R g2
  simp only [List.map_cons]
  rcases mq_or_of gk with gk | gk
  · obtain ⟨x, hx⟩ := mq_kd0 (ρ := ρ) gk
    rw [hx]
    exact mj_T.step hc rfl rfl G1
  · obtain ⟨x, hx⟩ := mq_kd2 (ρ := ρ) gk
    rw [hx]
    exact mj_T.step hc rfl rfl G1
theorem mq_s_pop2 (hc : M.2.2.2.2.1 pc = some (.pop2, r1, r2, r3, r4, r5)) (R : mq_R ρ M.2.2.1 loc n t env mloc h) (g0 : mq_x_pop2 loc st n t env κ = true) (G : mq_G D M Q ρ κ (pc + 1)) : mj_T D M pc mloc (st.map (mq_val ρ)) h Q := by
  obtain ⟨w, s, rfl, g1⟩ := mq_p1_of g0
  obtain ⟨gk, g2⟩ := mq_cond_of g1
  have G1 := G _ s _ _ _ _ _ R g2
  simp only [List.map_cons]
  rcases mq_or_of gk with gk | gk
  · obtain ⟨x, hx⟩ := mq_kd1 (ρ := ρ) gk
    rw [hx]
    exact mj_T.step hc rfl rfl G1
  · obtain ⟨x, hx⟩ := mq_kd3 (ρ := ρ) gk
    rw [hx]
    exact mj_T.step hc rfl rfl G1
theorem mq_s_i2d (hc : M.2.2.2.2.1 pc = some (.i2d, r1, r2, r3, r4, r5)) (R : mq_R ρ M.2.2.1 loc n t env mloc h) (g0 : mq_x_i2d loc st n t env κ = true) (G : mq_G D M Q ρ κ (pc + 1)) : mj_T D M pc mloc (st.map (mq_val ρ)) h Q := by
  obtain ⟨w, s, x, e, rfl, e1, S, g1⟩ := mq_pI_of g0 R.sat
  rw [List.map_cons, e1]
  exact mj_T.step hc rfl rfl (G _ ((Sum.inr (Sum.inr (Sum.inr (Sum.inr (Sum.inr (Sum.inr (Sum.inl (FP.i2d (jn x))))))))) :: s) _ _ _ _ _ (R.env S) g1)
theorem mq_s_i2f (hc : M.2.2.2.2.1 pc = some (.i2f, r1, r2, r3, r4, r5)) (R : mq_R ρ M.2.2.1 loc n t env mloc h) (g0 : mq_x_i2f loc st n t env κ = true) (G : mq_G D M Q ρ κ (pc + 1)) : mj_T D M pc mloc (st.map (mq_val ρ)) h Q := by
  obtain ⟨w, s, x, e, rfl, e1, S, g1⟩ := mq_pI_of g0 R.sat
  rw [List.map_cons, e1]
  exact mj_T.step hc rfl rfl (G _ ((Sum.inr (Sum.inr (Sum.inr (Sum.inr (Sum.inr (Sum.inr (Sum.inr (Sum.inl (FP.i2f (jn x)))))))))) :: s) _ _ _ _ _ (R.env S) g1)
theorem mq_pD_of {st : List mq_W} {k : UInt64 → List mq_W → Bool} (h : mq_pD st k = true) : ∃ x s, st = (Sum.inr (Sum.inr (Sum.inr (Sum.inr (Sum.inr (Sum.inr (Sum.inl x))))))) :: s ∧ k x s = true := by
  unfold mq_pD at h
  split at h
  · exact ⟨_, _, rfl, h⟩
  · cases h
theorem mq_pF_of {st : List mq_W} {k : UInt32 → List mq_W → Bool} (h : mq_pF st k = true) : ∃ x s, st = (Sum.inr (Sum.inr (Sum.inr (Sum.inr (Sum.inr (Sum.inr (Sum.inr (Sum.inl x)))))))) :: s ∧ k x s = true := by
  unfold mq_pF at h
  split at h
  · exact ⟨_, _, rfl, h⟩
  · cases h
theorem mq_s_ddiv (hc : M.2.2.2.2.1 pc = some (.ddiv, r1, r2, r3, r4, r5)) (R : mq_R ρ M.2.2.1 loc n t env mloc h) (g0 : mq_x_ddiv loc st n t env κ = true) (G : mq_G D M Q ρ κ (pc + 1)) : mj_T D M pc mloc (st.map (mq_val ρ)) h Q := by
  obtain ⟨y, s, rfl, g1⟩ := mq_pD_of g0
  obtain ⟨x, s, rfl, g2⟩ := mq_pD_of g1
  obtain ⟨gk, g3⟩ := mq_cond_of g2
  exact mj_T.step hc rfl (by simp only [mj_step, mq_val, List.map_cons]; rw [if_pos (of_decide_eq_true gk)]) (G _ ((Sum.inr (Sum.inr (Sum.inr (Sum.inr (Sum.inr (Sum.inr (Sum.inl _))))))) :: s) _ _ _ _ _ R g3)
theorem mq_s_fdiv (hc : M.2.2.2.2.1 pc = some (.fdiv, r1, r2, r3, r4, r5)) (R : mq_R ρ M.2.2.1 loc n t env mloc h) (g0 : mq_x_fdiv loc st n t env κ = true) (G : mq_G D M Q ρ κ (pc + 1)) : mj_T D M pc mloc (st.map (mq_val ρ)) h Q := by
  obtain ⟨y, s, rfl, g1⟩ := mq_pF_of g0
  obtain ⟨x, s, rfl, g2⟩ := mq_pF_of g1
  obtain ⟨gk, g3⟩ := mq_cond_of g2
  exact mj_T.step hc rfl (by simp only [mj_step, mq_val, List.map_cons]; rw [if_pos (of_decide_eq_true gk)]) (G _ ((Sum.inr (Sum.inr (Sum.inr (Sum.inr (Sum.inr (Sum.inr (Sum.inr (Sum.inl _)))))))) :: s) _ _ _ _ _ R g3)
theorem mq_s_f2d (hc : M.2.2.2.2.1 pc = some (.f2d, r1, r2, r3, r4, r5)) (R : mq_R ρ M.2.2.1 loc n t env mloc h) (g0 : mq_x_f2d loc st n t env κ = true) (G : mq_G D M Q ρ κ (pc + 1)) : mj_T D M pc mloc (st.map (mq_val ρ)) h Q := by
  obtain ⟨x, s, rfl, g1⟩ := mq_pF_of g0
  obtain ⟨gk, g2⟩ := mq_cond_of g1
  exact mj_T.step hc rfl (by simp only [mj_step, mq_val, List.map_cons]; rw [if_pos (of_decide_eq_true gk)]) (G _ ((Sum.inr (Sum.inr (Sum.inr (Sum.inr (Sum.inr (Sum.inr (Sum.inl _))))))) :: s) _ _ _ _ _ R g2)
theorem mq_s_dc {op : CmpOp} (hc : M.2.2.2.2.1 pc = some (.dcmp op, r1, r2, r3, r4, r5)) (R : mq_R ρ M.2.2.1 loc n t env mloc h) (g0 : mq_x_dc op loc st n t env κ = true) (G : mq_G D M Q ρ κ (pc + 1)) : mj_T D M pc mloc (st.map (mq_val ρ)) h Q := by
  obtain ⟨y, s, rfl, g1⟩ := mq_pD_of g0
  obtain ⟨x, s, rfl, g2⟩ := mq_pD_of g1
  refine mj_T.step hc rfl ?_ (G _ ((Sum.inl _) :: s) _ _ _ _ _ R g2)
  have e : ∀ v : Int32, jn (v.toBitVec.toNat : Nat) = v := fun v => by
    apply Int32.toBitVec_inj.mp
    rw [mq_jn_bits]
    simp
  simp only [mj_step, mq_val, List.map_cons, e]
theorem mq_s_pu {w : mq_W} {len : Nat} (hc : M.2.2.2.2.1 pc = some (ins, r1, r2, r3, r4, r5)) (hk : mq_ckPu w ins r1 r2 = some len) (R : mq_R ρ M.2.2.1 loc n t env mloc h) (g0 : mq_x_pu w loc st n t env κ = true) (G : mq_G D M Q ρ κ (pc + len)) : mj_T D M pc mloc (st.map (mq_val ρ)) h Q := by
  have G1 := G _ (w :: st) _ _ _ _ _ R g0
  simp only [List.map_cons] at G1
  unfold mq_ckPu at hk
  repeat' split at hk
  all_goals first
    | (cases hk; done)
    | skip
  all_goals (rename_i hcond; cases hk)
  all_goals first
    | exact mj_T.step hc rfl (by simp only [mj_step, ← hcond]; rfl) G1
    | exact mj_T.step hc rfl (by simp only [mj_step, hcond.1, ← hcond.2]; rfl) G1
theorem mq_ld_1 {i : Nat} {w : mq_W} (R : mq_R ρ M.2.2.1 loc n t env mloc h) (hw : mq_nth (Sum.inr (Sum.inr (Sum.inr (Sum.inr (Sum.inr (Sum.inr (Sum.inr (Sum.inr (some none))))))))) loc i = w) (hk : mq_kd 0 w = true) : mj_load1 mloc i = some (mq_val ρ w) := by
  obtain ⟨x, hx⟩ := mq_kd0 (ρ := ρ) hk
  have h1 := R.lo i (by rw [hw]; exact mq_kd_kn hk)
  rw [hw, hx] at h1
  unfold mj_load1
  rw [h1, hx]
theorem mq_ld_L {i : Nat} {w : mq_W} (R : mq_R ρ M.2.2.1 loc n t env mloc h) (hw : mq_nth (Sum.inr (Sum.inr (Sum.inr (Sum.inr (Sum.inr (Sum.inr (Sum.inr (Sum.inr (some none))))))))) loc i = w) (hk : mq_kd 1 w = true) : mj_loadL mloc i = some (mq_val ρ w) := by
  obtain ⟨x, hx⟩ := mq_kd1 (ρ := ρ) hk
  have h1 := R.lo i (by rw [hw]; exact mq_kd_kn hk)
  rw [hw, hx] at h1
  unfold mj_loadL
  rw [h1, hx]
theorem mq_ld_A {i : Nat} {w : mq_W} (R : mq_R ρ M.2.2.1 loc n t env mloc h) (hw : mq_nth (Sum.inr (Sum.inr (Sum.inr (Sum.inr (Sum.inr (Sum.inr (Sum.inr (Sum.inr (some none))))))))) loc i = w) (hk : mq_kd 2 w = true) : mj_loadA mloc i = some (mq_val ρ w) := by
  obtain ⟨x, hx⟩ := mq_kd2 (ρ := ρ) hk
  have h1 := R.lo i (by rw [hw]; exact mq_kd_kn hk)
  rw [hw, hx] at h1
  unfold mj_loadA
  rw [h1, hx]
theorem mq_ld_D {i : Nat} {w : mq_W} (R : mq_R ρ M.2.2.1 loc n t env mloc h) (hw : mq_nth (Sum.inr (Sum.inr (Sum.inr (Sum.inr (Sum.inr (Sum.inr (Sum.inr (Sum.inr (some none))))))))) loc i = w) (hk : mq_kd 3 w = true) : mj_loadD mloc i = some (mq_val ρ w) := by
  obtain ⟨x, hx⟩ := mq_kd3 (ρ := ρ) hk
  have h1 := R.lo i (by rw [hw]; exact mq_kd_kn hk)
  rw [hw, hx] at h1
  unfold mj_loadD
  rw [h1, hx]
theorem mq_s_ld {kd i len : Nat} (hc : M.2.2.2.2.1 pc = some (ins, r1, r2, r3, r4, r5)) (hk : mq_ckLd kd i ins = some len) (R : mq_R ρ M.2.2.1 loc n t env mloc h) (g0 : mq_x_ld kd i loc st n t env κ = true) (G : mq_G D M Q ρ κ (pc + len)) : mj_T D M pc mloc (st.map (mq_val ρ)) h Q := by
  obtain ⟨w, hw⟩ : ∃ w, mq_nth (Sum.inr (Sum.inr (Sum.inr (Sum.inr (Sum.inr (Sum.inr (Sum.inr (Sum.inr (some none))))))))) loc i = w := ⟨_, rfl⟩
  have g1 : (fun w => (Bool.rec (motive := fun _ => Bool) false (κ loc (w :: st) n t env) (mq_kd kd w))) (mq_nth (Sum.inr (Sum.inr (Sum.inr (Sum.inr (Sum.inr (Sum.inr (Sum.inr (Sum.inr (some none))))))))) loc i) = true := g0
  rw [hw] at g1
  obtain ⟨gk, g2⟩ := mq_cond_of g1
  have G1 := G _ (w :: st) _ _ _ _ _ R g2
  simp only [List.map_cons] at G1
  unfold mq_ckLd at hk
  repeat' split at hk
  all_goals first
    | (cases hk; done)
    | skip
  all_goals (rename_i hcond; cases hk; obtain ⟨c1, c2⟩ := hcond; subst c1; subst c2)
  · exact mj_T.step hc rfl (by simp only [mj_step, mq_ld_1 R hw gk, Option.map_some]) G1
  · exact mj_T.step hc rfl (by simp only [mj_step, mq_ld_1 R hw gk, Option.map_some]) G1
  · exact mj_T.step hc rfl (by simp only [mj_step, mq_ld_L R hw gk, Option.map_some]) G1
  · exact mj_T.step hc rfl (by simp only [mj_step, mq_ld_L R hw gk, Option.map_some]) G1
  · exact mj_T.step hc rfl (by simp only [mj_step, mq_ld_A R hw gk, Option.map_some]) G1
  · exact mj_T.step hc rfl (by simp only [mj_step, mq_ld_A R hw gk, Option.map_some]) G1
  · exact mj_T.step hc rfl (by simp only [mj_step, mq_ld_D R hw gk, Option.map_some]) G1
  · exact mj_T.step hc rfl (by simp only [mj_step, mq_ld_D R hw gk, Option.map_some]) G1
theorem mq_s_st {kd i len : Nat} (hc : M.2.2.2.2.1 pc = some (ins, r1, r2, r3, r4, r5)) (hk : mq_ckSt M.2.2.1 kd i ins = some len) (R : mq_R ρ M.2.2.1 loc n t env mloc h) (g0 : mq_x_st kd i loc st n t env κ = true) (G : mq_G D M Q ρ κ (pc + len)) : mj_T D M pc mloc (st.map (mq_val ρ)) h Q := by
  obtain ⟨w, s, rfl, g1⟩ := mq_p1_of g0
  obtain ⟨gk, g2⟩ := mq_cond_of g1
  have hl := R.len
  simp only [List.map_cons]
  unfold mq_ckSt at hk
  repeat' split at hk
  all_goals first
    | (cases hk; done)
    | skip
  all_goals (rename_i hcond; cases hk; obtain ⟨c1, c2, c3⟩ := hcond; subst c1; subst c2)
  all_goals first
    | (obtain ⟨x, hx⟩ := mq_kd0 (ρ := ρ) gk
       rw [hx]
       exact mj_T.step hc rfl (by simp only [mj_step]; rw [if_pos (by omega)]) (G _ s _ _ _ _ _ (R.up1 c3 hx.symm) g2))
    | (obtain ⟨x, hx⟩ := mq_kd1 (ρ := ρ) gk
       rw [hx]
       exact mj_T.step hc rfl (by simp only [mj_step]; rw [if_pos (by omega)]) (G _ s _ _ _ _ _ (R.up2 (by omega) hx.symm) g2))
    | (obtain ⟨x, hx⟩ := mq_kd2 (ρ := ρ) gk
       rw [hx]
       exact mj_T.step hc rfl (by simp only [mj_step]; rw [if_pos (by omega)]) (G _ s _ _ _ _ _ (R.up1 c3 hx.symm) g2))
    | (obtain ⟨x, hx⟩ := mq_kd3 (ρ := ρ) gk
       rw [hx]
       exact mj_T.step hc rfl (by simp only [mj_step]; rw [if_pos (by omega)]) (G _ s _ _ _ _ _ (R.up2 (by omega) hx.symm) g2))
theorem mq_ckIi_of {nl i c len : Nat} {ins : Instr} (h : mq_ckIi nl i c ins = some len) : ∃ x, ins = .iinc i x ∧ jn c = Int32.ofInt x ∧ i < nl ∧ len = 3 := by
  unfold mq_ckIi at h
  split at h
  · split at h
    · rename_i hcond
      obtain ⟨rfl, h2, h3⟩ := hcond
      cases h
      exact ⟨_, rfl, h2, h3, rfl⟩
    · cases h
  · cases h
theorem mq_s_ii {i c len : Nat} (hc : M.2.2.2.2.1 pc = some (ins, r1, r2, r3, r4, r5)) (hk : mq_ckIi M.2.2.1 i c ins = some len) (R : mq_R ρ M.2.2.1 loc n t env mloc h) (g0 : mq_x_ii i c loc st n t env κ = true) (G : mq_G D M Q ρ κ (pc + len)) : mj_T D M pc mloc (st.map (mq_val ρ)) h Q := by
  obtain ⟨w, hw⟩ : ∃ w, mq_nth (Sum.inr (Sum.inr (Sum.inr (Sum.inr (Sum.inr (Sum.inr (Sum.inr (Sum.inr (some none))))))))) loc i = w := ⟨_, rfl⟩
  unfold mq_x_ii at g0
  rw [hw] at g0
  have h1 := R.lo i
  rw [hw] at h1
  obtain ⟨x, rfl, c2, c3, rfl⟩ := mq_ckIi_of hk
  have two : mq_x_ii2 i c w loc st n t env κ = true → mj_T D M pc mloc (st.map (mq_val ρ)) h Q := fun g0 => by
    unfold mq_x_ii2 at g0
    split at g0
    · rename_i j m cc _
      have e : jn (((ρ j : Int) - 2147483648) * m + (mq_add32 cc c : Nat)) = jn (((ρ j : Int) - 2147483648) * m + cc) + jn (c : Nat) := by
        rw [← jn_add, mq_jn_add, jn_add, jn_add, jn_add, Int.add_assoc]
      refine mj_T.step hc rfl ?_ (G _ st _ _ _ _ _ (R.up1 c3 (w := (Sum.inr (Sum.inr (Sum.inr (Sum.inl (j, m, (mq_add32 cc c))))))) (v := .int (jn (((ρ j : Int) - 2147483648) * m + (mq_add32 cc c : Nat)))) rfl) g0)
      simp only [mj_step, h1 rfl, mq_val]
      rw [e, c2]
    · cases g0
  match w, g0, h1, two with
  | .inl x, g0, h1, _ =>
    refine mj_T.step hc rfl ?_ (G _ st _ _ _ _ _ (R.up1 c3 (w := (Sum.inl (mq_add32 x c))) (v := .int (jn (mq_add32 x c : Nat))) rfl) g0)
    simp only [mj_step, h1 rfl, mq_val]
    rw [mq_jn_add, c2]
  | .inr r, g0, _, two => exact two g0
end MQS
