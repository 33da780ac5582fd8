/-! The bytes of an int. -/
theorem jb_and (y : BitVec 32) : (y &&& (jn 255).toBitVec).toNat = y.toNat % 256 := by
  rw [BitVec.toNat_and, show (jn 255).toBitVec.toNat = 2 ^ 8 - 1 from by decide, Nat.and_two_pow_sub_one_eq_mod]
theorem jb_jn {z : Int32} {m : Nat} (hm : m < 256) (h : z.toBitVec.toNat = m) : z = jn (m : Nat) := by
  apply Int32.toBitVec_inj.mp
  rw [mq_jn_bits]
  apply BitVec.eq_of_toNat_eq
  rw [h, BitVec.toNat_ofNat, Nat.mod_eq_of_lt (by omega)]
theorem jb_byt_lt (x : Int32) (k : Nat) : mq_byt x k < 256 := Nat.mod_lt _ (by decide)
theorem jb_ss (x : BitVec 32) {s : Nat} (hs : s = 24 ∨ s = 16 ∨ s = 8 ∨ s = 0) : (x.sshiftRight s).toNat % 256 = x.toNat / 256 ^ (s / 8) % 256 := by
  have h1 : (x.sshiftRight s).toInt = x.toInt >>> s := BitVec.toInt_sshiftRight
  rw [Int.shiftRight_eq_div_pow, BitVec.toInt_eq_toNat_cond, BitVec.toInt_eq_toNat_cond] at h1
  have h2 := x.isLt
  have h3 := (x.sshiftRight s).isLt
  generalize (x.sshiftRight s).toNat = b at h1 h3 ⊢
  generalize x.toNat = a at h1 h2 ⊢
  rcases hs with q | q | q | q <;> subst q <;> simp only [Nat.reducePow, Nat.reduceDiv, Nat.reduceMul] at h1 h2 h3 ⊢ <;> split at h1 <;> split at h1 <;> omega
theorem jb_shr (x : Int32) {s : Nat} (hs : s = 24 ∨ s = 16 ∨ s = 8 ∨ s = 0) : (x >>> (jn (s : Nat) &&& 31)) &&& jn 255 = jn (mq_byt x (s / 8) : Nat) := by
  refine jb_jn (jb_byt_lt x _) ?_
  rw [Int32.toBitVec_and, jb_and, Int32.toBitVec_shiftRight]
  show (x.toBitVec.sshiftRight (((jn (s : Nat) &&& 31).toBitVec.smod 32).toNat)).toNat % 256 = _
  have e : ((jn (s : Nat) &&& 31).toBitVec.smod 32).toNat = s := by rcases hs with q | q | q | q <;> subst q <;> decide
  rw [e, jb_ss _ hs]
  rfl
theorem jb_ushr (x : Int32) {s : Nat} (hs : s = 24 ∨ s = 16 ∨ s = 8 ∨ s = 0) : ((x.toUInt32 >>> ((jn (s : Nat)).toUInt32 &&& Int32.toUInt32 31)).toInt32) &&& jn 255 = jn (mq_byt x (s / 8) : Nat) := by
  refine jb_jn (jb_byt_lt x _) ?_
  rw [Int32.toBitVec_and, jb_and]
  have e : ((jn (s : Nat)).toUInt32 &&& Int32.toUInt32 31).toNat = s := by rcases hs with q | q | q | q <;> subst q <;> decide
  have e2 : ((x.toUInt32 >>> ((jn (s : Nat)).toUInt32 &&& Int32.toUInt32 31)).toInt32).toBitVec.toNat = x.toBitVec.toNat / 2 ^ s := by
    show (x.toUInt32 >>> ((jn (s : Nat)).toUInt32 &&& Int32.toUInt32 31)).toNat = _
    rw [UInt32.toNat_shiftRight, e, Nat.shiftRight_eq_div_pow]
    rcases hs with q | q | q | q <;> subst q <;> rfl
  rw [e2]
  rcases hs with q | q | q | q <;> subst q <;> rfl
section MBY
variable {D : Nat} {h : mj_H} {x : Int32} {Q : mj_R → Prop}
theorem jb_in_step {s c : Nat} (hs : s = 24 ∨ s = 16 ∨ s = 8 ∨ s = 0) (hc0 : c < 1000)
    (k : mj_T D mj_m160 5 [some (.int x), some (.int (jn ((c + (if mq_byt x (s / 8) = 0 then 0 else 1) : Nat) : Nat))), some (.int (jn ((s : Nat) + -8)))] [] h Q) :
    mj_T D mj_m160 5 [some (.int x), some (.int (jn (c : Nat))), some (.int (jn (s : Nat)))] [] h Q := by
  have hb := jb_byt_lt x (s / 8)
  refine mj_T.pl rfl rfl rfl rfl ?_
  refine mj_T.if0 rfl ⟨by omega, by omega⟩ (fun hc => ?_) (fun hc => ?_)
  · simp only [jc, decide_eq_true_eq] at hc; omega
  iterate 5 refine mj_T.pl rfl rfl rfl rfl ?_
  have fin : ∀ y : Nat, y = c + (if mq_byt x (s / 8) = 0 then 0 else 1) → mj_T D mj_m160 22 [some (.int x), some (.int (jn (y : Nat))), some (.int (jn (s : Nat)))] [] h Q := fun y hy => by
    subst hy
    refine mj_T.iinc (a := (s : Int)) rfl rfl ?_
    exact mj_T.pl rfl rfl rfl rfl k
  refine mj_T.eq (st2 := [.int (jn (mq_byt x (s / 8) : Nat))]) ?_ rfl rfl (congrArg (fun v => [Value.int v]) (jb_shr x hs)) rfl
  refine mj_T.if0 rfl ⟨by omega, by omega⟩ (fun hc => ?_) (fun hc => ?_)
  · simp only [jc, decide_eq_true_eq] at hc
    exact fin c (by rw [if_pos (by omega)]; rfl)
  · simp only [jc, decide_eq_false_iff_not] at hc
    refine mj_T.iinc (a := (c : Int)) rfl rfl ?_
    exact fin (c + 1) (by rw [if_neg (by omega)])
theorem jb_in : mj_Ok (D + 1) 160 [.int x] h (fun r => r = (.inl (some (.int (jn (mq_nby x : Nat)))), h)) := by
  refine mj_Ok.of (M := mj_m160) rfl rfl rfl ?_
  iterate 4 refine mj_T.pl rfl rfl rfl rfl ?_
  have hi : ∀ k, (if mq_byt x k = 0 then 0 else 1) ≤ 1 := fun k => by split <;> decide
  have i3 := hi 3
  have i2 := hi 2
  have i1 := hi 1
  refine jb_in_step (s := 24) (c := 0) (by decide) (by decide) ?_
  refine jb_in_step (s := 16) (by decide) (by show 0 + (if mq_byt x 3 = 0 then 0 else 1) < 1000; omega) ?_
  refine jb_in_step (s := 8) (by decide) (by show 0 + (if mq_byt x 3 = 0 then 0 else 1) + (if mq_byt x 2 = 0 then 0 else 1) < 1000; omega) ?_
  refine jb_in_step (s := 0) (by decide) (by show 0 + (if mq_byt x 3 = 0 then 0 else 1) + (if mq_byt x 2 = 0 then 0 else 1) + (if mq_byt x 1 = 0 then 0 else 1) < 1000; omega) ?_
  refine mj_T.pl rfl rfl rfl rfl ?_
  refine mj_T.if0 (a := ((0 : Nat) : Int) + -8) rfl ⟨by omega, by omega⟩ (fun hc => ?_) (fun hc => ?_)
  rotate_left
  · simp only [jc, decide_eq_false_iff_not] at hc; omega
  refine mj_T.pl rfl rfl rfl rfl ?_
  refine mj_T.ret rfl rfl rfl ?_
  show (Sum.inl (some (Value.int (jn ((0 + (if mq_byt x 3 = 0 then 0 else 1) + (if mq_byt x 2 = 0 then 0 else 1) + (if mq_byt x 1 = 0 then 0 else 1) + (if mq_byt x 0 = 0 then 0 else 1) : Nat) : Int)))), h) = _
  rw [show 0 + (if mq_byt x 3 = 0 then 0 else 1) + (if mq_byt x 2 = 0 then 0 else 1) + (if mq_byt x 1 = 0 then 0 else 1) + (if mq_byt x 0 = 0 then 0 else 1) = mq_nby x by unfold mq_nby; omega]
end MBY
