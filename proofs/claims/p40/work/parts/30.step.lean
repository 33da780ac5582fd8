/-! Rules for the instructions, their numbers as whole numbers. -/
theorem mj_updI (g : Nat → Int32) (i : Nat) (x : Int32) : updV (fun j => Value.int (g j)) i (.int x) = fun j => .int (upd g i x j) := by
  funext j
  unfold updV upd
  split <;> rfl
theorem mj_updL (g : Nat → Int64) (i : Nat) (x : Int64) : updV (fun j => Value.long (g j)) i (.long x) = fun j => .long (if j = i then x else g j) := by
  funext j
  unfold updV
  split <;> rfl
/-- an instruction that computes by itself -/
def mj_pl (ins : Instr) : Bool := match ins with
  | .ifCond _ _ => false
  | .if_icmp _ _ => false
  | .tableswitch _ _ _ _ => false
  | .iadd => false
  | .isub => false
  | .imul => false
  | .idiv => false
  | .irem => false
  | .ineg => false
  | .ladd => false
  | .lsub => false
  | .lmul => false
  | .ldiv => false
  | .lrem => false
  | .lneg => false
  | .lcmp => false
  | .i2l => false
  | .l2i => false
  | .iinc _ _ => false
  | .arraylength => false
  | .iaload => false
  | .laload => false
  | .baload => false
  | .aaload => false
  | .iastore => false
  | .lastore => false
  | .bastore => false
  | .aastore => false
  | _ => true
section MJU
variable {D pc : Nat} {M : mj_M} {loc : mj_L} {st : List Value} {h : mj_H} {Q : mj_R → Prop} {r1 r2 r3 r4 r5 : Nat}
/-- a plain step -/
theorem mj_T.pl {ins : Instr} {pc' : Nat} {loc' : mj_L} {st' : List Value} {h' : mj_H} (hc : M.2.2.2.2.1 pc = some (ins, r1, r2, r3, r4, r5)) (hp : mj_pl ins = true) (hk : mj_kind ins r3 = 0) (hs : mj_step ins r1 r2 r3 mj_new pc loc st h = some (pc', loc', st', h')) (k : mj_T D M pc' loc' st' h' Q) : mj_T D M pc loc st h Q := mj_T.step hc hk hs k
theorem mj_T.iadd {a b : Int} (hc : M.2.2.2.2.1 pc = some (.iadd, r1, r2, r3, r4, r5)) (k : mj_T D M (pc + 1) loc (.int (jn (a + b)) :: st) h Q) : mj_T D M pc loc (.int (jn b) :: .int (jn a) :: st) h Q := mj_T.step hc rfl (by simp only [mj_step, jn_add]) k
theorem mj_T.isub {a b : Int} (hc : M.2.2.2.2.1 pc = some (.isub, r1, r2, r3, r4, r5)) (k : mj_T D M (pc + 1) loc (.int (jn (a - b)) :: st) h Q) : mj_T D M pc loc (.int (jn b) :: .int (jn a) :: st) h Q := mj_T.step hc rfl (by simp only [mj_step, jn_sub]) k
theorem mj_T.imul {a b : Int} (hc : M.2.2.2.2.1 pc = some (.imul, r1, r2, r3, r4, r5)) (k : mj_T D M (pc + 1) loc (.int (jn (a * b)) :: st) h Q) : mj_T D M pc loc (.int (jn b) :: .int (jn a) :: st) h Q := mj_T.step hc rfl (by simp only [mj_step, jn_mul]) k
theorem mj_T.ineg {a : Int} (hc : M.2.2.2.2.1 pc = some (.ineg, r1, r2, r3, r4, r5)) (k : mj_T D M (pc + 1) loc (.int (jn (-a)) :: st) h Q) : mj_T D M pc loc (.int (jn a) :: st) h Q := mj_T.step hc rfl (by simp only [mj_step, jn_neg]) k
theorem jn_ne0 {b : Int} (hb : jr b) (h0 : 0 < b) : ¬ (jn b = 0) := by rw [show (0 : Int32) = jn 0 from rfl, jn_eq hb ⟨by decide, by decide⟩]; omega
theorem jl_ne0 {b : Int} (hb : jR b) (h0 : 0 < b) : ¬ (jl b = 0) := by rw [show (0 : Int64) = jl 0 from rfl, jl_eq hb ⟨by decide, by decide⟩]; omega
theorem mj_T.idiv {a b : Int} (hc : M.2.2.2.2.1 pc = some (.idiv, r1, r2, r3, r4, r5)) (ha : jr a) (hb : jr b) (h0 : 0 < b) (k : mj_T D M (pc + 1) loc (.int (jn (a.tdiv b)) :: st) h Q) : mj_T D M pc loc (.int (jn b) :: .int (jn a) :: st) h Q := mj_T.step hc rfl (by
  simp only [mj_step, jn_div ha hb h0]
  rw [if_neg (jn_ne0 hb h0)]) k
theorem mj_T.irem {a b : Int} (hc : M.2.2.2.2.1 pc = some (.irem, r1, r2, r3, r4, r5)) (ha : jr a) (hb : jr b) (h0 : 0 < b) (k : mj_T D M (pc + 1) loc (.int (jn (a.tmod b)) :: st) h Q) : mj_T D M pc loc (.int (jn b) :: .int (jn a) :: st) h Q := mj_T.step hc rfl (by
  simp only [mj_step, jn_rem ha hb h0]
  rw [if_neg (jn_ne0 hb h0)]) k
theorem mj_T.ladd {a b : Int} (hc : M.2.2.2.2.1 pc = some (.ladd, r1, r2, r3, r4, r5)) (k : mj_T D M (pc + 1) loc (.long (jl (a + b)) :: st) h Q) : mj_T D M pc loc (.long (jl b) :: .long (jl a) :: st) h Q := mj_T.step hc rfl (by simp only [mj_step, jl_add]) k
theorem mj_T.lsub {a b : Int} (hc : M.2.2.2.2.1 pc = some (.lsub, r1, r2, r3, r4, r5)) (k : mj_T D M (pc + 1) loc (.long (jl (a - b)) :: st) h Q) : mj_T D M pc loc (.long (jl b) :: .long (jl a) :: st) h Q := mj_T.step hc rfl (by simp only [mj_step, jl_sub]) k
theorem mj_T.lmul {a b : Int} (hc : M.2.2.2.2.1 pc = some (.lmul, r1, r2, r3, r4, r5)) (k : mj_T D M (pc + 1) loc (.long (jl (a * b)) :: st) h Q) : mj_T D M pc loc (.long (jl b) :: .long (jl a) :: st) h Q := mj_T.step hc rfl (by simp only [mj_step, jl_mul]) k
theorem mj_T.lneg {a : Int} (hc : M.2.2.2.2.1 pc = some (.lneg, r1, r2, r3, r4, r5)) (k : mj_T D M (pc + 1) loc (.long (jl (-a)) :: st) h Q) : mj_T D M pc loc (.long (jl a) :: st) h Q := mj_T.step hc rfl (by simp only [mj_step, jl_neg]) k
theorem mj_T.lrem {a b : Int} (hc : M.2.2.2.2.1 pc = some (.lrem, r1, r2, r3, r4, r5)) (ha : jR a) (hb : jR b) (h0 : 0 < b) (k : mj_T D M (pc + 1) loc (.long (jl (a.tmod b)) :: st) h Q) : mj_T D M pc loc (.long (jl b) :: .long (jl a) :: st) h Q := mj_T.step hc rfl (by
  simp only [mj_step, jl_rem ha hb h0]
  rw [if_neg (jl_ne0 hb h0)]) k
theorem mj_T.ldiv {a b : Int} (hc : M.2.2.2.2.1 pc = some (.ldiv, r1, r2, r3, r4, r5)) (ha : jR a) (hb : jR b) (h0 : 0 < b) (k : mj_T D M (pc + 1) loc (.long (jl (a.tdiv b)) :: st) h Q) : mj_T D M pc loc (.long (jl b) :: .long (jl a) :: st) h Q := mj_T.step hc rfl (by
  simp only [mj_step, jl_div ha hb h0]
  rw [if_neg (jl_ne0 hb h0)]) k
theorem mj_T.l2i {a : Int} (hc : M.2.2.2.2.1 pc = some (.l2i, r1, r2, r3, r4, r5)) (k : mj_T D M (pc + 1) loc (.int (jn a) :: st) h Q) : mj_T D M pc loc (.long (jl a) :: st) h Q := mj_T.step hc rfl (by simp only [mj_step, jl_int]) k
theorem mj_T.i2l {a : Int} (hc : M.2.2.2.2.1 pc = some (.i2l, r1, r2, r3, r4, r5)) (ha : jr a) (k : mj_T D M (pc + 1) loc (.long (jl a) :: st) h Q) : mj_T D M pc loc (.int (jn a) :: st) h Q := mj_T.step hc rfl (by simp only [mj_step, jn_long ha]) k
theorem mj_T.lcmp {a b : Int} (hc : M.2.2.2.2.1 pc = some (.lcmp, r1, r2, r3, r4, r5)) (ha : jR a) (hb : jR b) (k : mj_T D M (pc + 1) loc (.int (jn (if a < b then -1 else if a = b then 0 else 1)) :: st) h Q) : mj_T D M pc loc (.long (jl b) :: .long (jl a) :: st) h Q := mj_T.step hc rfl (by simp only [mj_step, jl_cmp ha hb]) k
theorem mj_T.icmp {c : ClassFile.Cond} {o : Int} {a b : Int} (hc : M.2.2.2.2.1 pc = some (.if_icmp c o, r1, r2, r3, r4, r5)) (ha : jr a) (hb : jr b) (k1 : jc c a b = true → mj_T D M r1 loc st h Q) (k2 : jc c a b = false → mj_T D M (pc + 3) loc st h Q) : mj_T D M pc loc (.int (jn b) :: .int (jn a) :: st) h Q := by
  cases hj : jc c a b with
  | true => exact mj_T.step hc rfl (by simp only [mj_step, jn_cnd ha hb, hj, if_true]) (k1 hj)
  | false => exact mj_T.step hc rfl (by simp only [mj_step, jn_cnd ha hb, hj]; rfl) (k2 hj)
theorem mj_T.if0 {c : ClassFile.Cond} {o : Int} {a : Int} (hc : M.2.2.2.2.1 pc = some (.ifCond c o, r1, r2, r3, r4, r5)) (ha : jr a) (k1 : jc c a 0 = true → mj_T D M r1 loc st h Q) (k2 : jc c a 0 = false → mj_T D M (pc + 3) loc st h Q) : mj_T D M pc loc (.int (jn a) :: st) h Q := by
  have h0 : (0 : Int32) = jn 0 := rfl
  cases hj : jc c a 0 with
  | true => exact mj_T.step hc rfl (by simp only [mj_step]; rw [h0, jn_cnd ha ⟨by decide, by decide⟩, hj]; rfl) (k1 hj)
  | false => exact mj_T.step hc rfl (by simp only [mj_step]; rw [h0, jn_cnd ha ⟨by decide, by decide⟩, hj]; rfl) (k2 hj)
/-- lcmp and a branch on it -/
def jcl (c : ClassFile.Cond) (a b : Int) : Bool := jc c (if a < b then -1 else if a = b then 0 else 1) 0
theorem jcl_eq (c : ClassFile.Cond) (a b : Int) : jcl c a b = jc c a b := by
  unfold jcl
  rcases Int.lt_trichotomy a b with h | h | h
  · rw [if_pos h]
    cases c <;> simp [jc] <;> omega
  · subst h
    simp only [Int.lt_irrefl, if_false, if_true]
    cases c <;> simp [jc]
  · rw [if_neg (by omega), if_neg (by omega)]
    cases c <;> simp [jc] <;> omega
theorem mj_T.lif {c : ClassFile.Cond} {o : Int} {a b : Int} {q1 q2 q3 q4 q5 : Nat} (hc : M.2.2.2.2.1 pc = some (.lcmp, q1, q2, q3, q4, q5)) (hc2 : M.2.2.2.2.1 (pc + 1) = some (.ifCond c o, r1, r2, r3, r4, r5)) (ha : jR a) (hb : jR b) (k1 : jc c a b = true → mj_T D M r1 loc st h Q) (k2 : jc c a b = false → mj_T D M (pc + 1 + 3) loc st h Q) : mj_T D M pc loc (.long (jl b) :: .long (jl a) :: st) h Q := by
  refine mj_T.lcmp hc ha hb (mj_T.if0 hc2 ?_ (fun q => k1 ?_) (fun q => k2 ?_))
  · constructor <;> (repeat' split) <;> decide
  · rw [← jcl_eq]; exact q
  · rw [← jcl_eq]; exact q
theorem mj_T.iinc {i : Nat} {x : Int} {a : Int} (hc : M.2.2.2.2.1 pc = some (.iinc i x, r1, r2, r3, r4, r5)) (hl : loc[i]? = some (some (.int (jn a)))) (k : mj_T D M (pc + 3) (mj_st1 loc i (.int (jn (a + x)))) st h Q) : mj_T D M pc loc st h Q := mj_T.step hc rfl (by simp only [mj_step, hl, jn_add]) k
theorem mj_T.alen {a t n : Nat} {f : Nat → Value} (hc : M.2.2.2.2.1 pc = some (.arraylength, r1, r2, r3, r4, r5)) (ha : h[a]? = some (.inl (t, n, f))) (k : mj_T D M (pc + 1) loc (.int (jn n) :: st) h Q) : mj_T D M pc loc (.ref a :: st) h Q := mj_T.step hc rfl (by simp only [mj_step, ha]; rfl) k
theorem mj_T.iast {a n : Nat} {g : Nat → Int32} {i : Int} {x : Int32} (hc : M.2.2.2.2.1 pc = some (.iastore, r1, r2, r3, r4, r5)) (ha : h[a]? = some (.inl (0, n, fun j => .int (g j)))) (hi : jr i) (h0 : 0 ≤ i ∧ i < n) (k : mj_T D M (pc + 1) loc st (h.set a (.inl (0, n, fun j => .int (upd g i.toNat x j)))) Q) : mj_T D M pc loc (.int x :: .int (jn i) :: .ref a :: st) h Q := mj_T.step hc rfl (by
  have h1 : mj_in (jn i) n = true := by rw [jn_in hi]; exact decide_eq_true h0
  simp only [mj_step, ha, h1, jn_nat h0.1 hi, true_and, if_true, mj_updI]) k
theorem mj_T.iald {a n : Nat} {g : Nat → Int32} {i : Int} (hc : M.2.2.2.2.1 pc = some (.iaload, r1, r2, r3, r4, r5)) (ha : h[a]? = some (.inl (0, n, fun j => .int (g j)))) (hi : jr i) (h0 : 0 ≤ i ∧ i < n) (k : mj_T D M (pc + 1) loc (.int (g i.toNat) :: st) h Q) : mj_T D M pc loc (.int (jn i) :: .ref a :: st) h Q := mj_T.step hc rfl (by
  have h1 : mj_in (jn i) n = true := by rw [jn_in hi]; exact decide_eq_true h0
  simp only [mj_step, ha, h1, jn_nat h0.1 hi, true_or, true_and, if_true]) k
theorem mj_T.last {a n : Nat} {g : Nat → Int64} {i : Int} {x : Int64} (hc : M.2.2.2.2.1 pc = some (.lastore, r1, r2, r3, r4, r5)) (ha : h[a]? = some (.inl (1, n, fun j => .long (g j)))) (hi : jr i) (h0 : 0 ≤ i ∧ i < n) (k : mj_T D M (pc + 1) loc st (h.set a (.inl (1, n, fun j => .long (if j = i.toNat then x else g j)))) Q) : mj_T D M pc loc (.long x :: .int (jn i) :: .ref a :: st) h Q := mj_T.step hc rfl (by
  have h1 : mj_in (jn i) n = true := by rw [jn_in hi]; exact decide_eq_true h0
  simp only [mj_step, ha, h1, jn_nat h0.1 hi, true_and, if_true, mj_updL]) k
theorem mj_T.lald {a n : Nat} {g : Nat → Int64} {i : Int} (hc : M.2.2.2.2.1 pc = some (.laload, r1, r2, r3, r4, r5)) (ha : h[a]? = some (.inl (1, n, fun j => .long (g j)))) (hi : jr i) (h0 : 0 ≤ i ∧ i < n) (k : mj_T D M (pc + 1) loc (.long (g i.toNat) :: st) h Q) : mj_T D M pc loc (.int (jn i) :: .ref a :: st) h Q := mj_T.step hc rfl (by
  have h1 : mj_in (jn i) n = true := by rw [jn_in hi]; exact decide_eq_true h0
  simp only [mj_step, ha, h1, jn_nat h0.1 hi, true_and, if_true]) k
theorem mj_T.aald {a t n : Nat} {f : Nat → Value} {i : Int} (hc : M.2.2.2.2.1 pc = some (.aaload, r1, r2, r3, r4, r5)) (ha : h[a]? = some (.inl (t, n, f))) (ht : mj_isref t = true) (hi : jr i) (h0 : 0 ≤ i ∧ i < n) (k : mj_T D M (pc + 1) loc (f i.toNat :: st) h Q) : mj_T D M pc loc (.int (jn i) :: .ref a :: st) h Q := mj_T.step hc rfl (by
  have h1 : mj_in (jn i) n = true := by rw [jn_in hi]; exact decide_eq_true h0
  simp only [mj_step, ha, ht, h1, jn_nat h0.1 hi, true_and, if_true]) k
/-- max and min -/
theorem mj_T.imax {a b : Int} {ins : Instr} (hc : M.2.2.2.2.1 pc = some (ins, r1, r2, 2, r4, r5)) (hk : mj_kind ins 2 = 4) (hcat : mj_cat st ≤ 20) (ha : jr a) (hb : jr b) (k : mj_T D M (pc + 3) loc (.int (jn (max a b)) :: st) h Q) : mj_T D M pc loc (.int (jn b) :: .int (jn a) :: st) h Q := mj_T.prim hc hk (by
  have e : (if a < b then jn b else jn a) = jn (max a b) := by split <;> (congr 1; omega)
  simp only [mj_prim, jn_lt ha hb]
  rw [if_pos hcat, e]) k
theorem mj_T.imin {a b : Int} {ins : Instr} (hc : M.2.2.2.2.1 pc = some (ins, r1, r2, 3, r4, r5)) (hk : mj_kind ins 3 = 4) (hcat : mj_cat st ≤ 20) (ha : jr a) (hb : jr b) (k : mj_T D M (pc + 3) loc (.int (jn (min a b)) :: st) h Q) : mj_T D M pc loc (.int (jn b) :: .int (jn a) :: st) h Q := mj_T.prim hc hk (by
  have e : (if b < a then jn b else jn a) = jn (min a b) := by split <;> (congr 1; omega)
  simp only [mj_prim, jn_lt hb ha]
  rw [if_pos hcat, e]) k
end MJU
