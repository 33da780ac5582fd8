/-! Calls of the reference: errors, append. -/
def mq_byt (x : Int32) (k : Nat) : Nat := x.toBitVec.toNat / 256 ^ k % 256
def mq_nby (x : Int32) : Nat := (if mq_byt x 3 = 0 then 0 else 1) + (if mq_byt x 2 = 0 then 0 else 1) + (if mq_byt x 1 = 0 then 0 else 1) + (if mq_byt x 0 = 0 then 0 else 1)
theorem mq_jn_bits (x : Nat) : (jn (x : Nat)).toBitVec = BitVec.ofNat 32 x := by
  show BitVec.ofInt 32 (x : Int) = _
  exact BitVec.ofInt_natCast 32 x
theorem jb_and (y : BitVec 32) : (y &&& (jn 255).toBitVec).toNat = y.toNat % 256 := by
  rw [BitVec.toNat_and, show (jn 255).toBitVec.toNat = 2 ^ 8 - 1 from by decide, Nat.and_two_pow_sub_one_eq_mod]
theorem jb_jn {z : Int32} {m : Nat} (hm : m < 256) (h : z.toBitVec.toNat = m) : z = jn (m : Nat) := by
  apply Int32.toBitVec_inj.mp
  rw [mq_jn_bits]
  apply BitVec.eq_of_toNat_eq
  rw [h, BitVec.toNat_ofNat, Nat.mod_eq_of_lt (by omega)]
theorem jb_byt_lt (x : Int32) (k : Nat) : mq_byt x k < 256 := Nat.mod_lt _ (by decide)
theorem jb_ss (x : BitVec 32) {s : Nat} (hs : s = 24 ∨ s = 16 ∨ s = 8 ∨ s = 0) : (x.sshiftRight s).toNat % 256 = x.toNat / 256 ^ (s / 8) % 256 := by
  have h1 : (x.sshiftRight s).toInt = x.toInt >>> s := BitVec.toInt_sshiftRight
  rw [Int.shiftRight_eq_div_pow, BitVec.toInt_eq_toNat_cond, BitVec.toInt_eq_toNat_cond] at h1
  have h2 := x.isLt
  have h3 := (x.sshiftRight s).isLt
  generalize (x.sshiftRight s).toNat = b at h1 h3 ⊢
  generalize x.toNat = a at h1 h2 ⊢
  rcases hs with q | q | q | q <;> subst q <;> simp only [Nat.reducePow, Nat.reduceDiv, Nat.reduceMul] at h1 h2 h3 ⊢ <;> split at h1 <;> split at h1 <;> omega
theorem jb_shr (x : Int32) {s : Nat} (hs : s = 24 ∨ s = 16 ∨ s = 8 ∨ s = 0) : (x >>> (jn (s : Nat) &&& 31)) &&& jn 255 = jn (mq_byt x (s / 8) : Nat) := by
  refine jb_jn (jb_byt_lt x _) ?_
  rw [Int32.toBitVec_and, jb_and, Int32.toBitVec_shiftRight]
  show (x.toBitVec.sshiftRight (((jn (s : Nat) &&& 31).toBitVec.smod 32).toNat)).toNat % 256 = _
  have e : ((jn (s : Nat) &&& 31).toBitVec.smod 32).toNat = s := by rcases hs with q | q | q | q <;> subst q <;> decide
  rw [e, jb_ss _ hs]
  rfl
theorem jb_ushr (x : Int32) {s : Nat} (hs : s = 24 ∨ s = 16 ∨ s = 8 ∨ s = 0) : ((x.toUInt32 >>> ((jn (s : Nat)).toUInt32 &&& Int32.toUInt32 31)).toInt32) &&& jn 255 = jn (mq_byt x (s / 8) : Nat) := by
  refine jb_jn (jb_byt_lt x _) ?_
  rw [Int32.toBitVec_and, jb_and]
  have e : ((jn (s : Nat)).toUInt32 &&& Int32.toUInt32 31).toNat = s := by rcases hs with q | q | q | q <;> subst q <;> decide
  have e2 : ((x.toUInt32 >>> ((jn (s : Nat)).toUInt32 &&& Int32.toUInt32 31)).toInt32).toBitVec.toNat = x.toBitVec.toNat / 2 ^ s := by
    show (x.toUInt32 >>> ((jn (s : Nat)).toUInt32 &&& Int32.toUInt32 31)).toNat = _
    rw [UInt32.toNat_shiftRight, e, Nat.shiftRight_eq_div_pow]
    rcases hs with q | q | q | q <;> subst q <;> rfl
  rw [e2]
  rcases hs with q | q | q | q <;> subst q <;> rfl
section MBY
variable {D : Nat} {h : mj_H} {x : Int32} {Q : mj_R → Prop}
theorem jb_in_step {s c : Nat} (hs : s = 24 ∨ s = 16 ∨ s = 8 ∨ s = 0) (hc0 : c < 1000)
    (k : mj_T D mj_m160 5 [some (.int x), some (.int (jn ((c + (if mq_byt x (s / 8) = 0 then 0 else 1) : Nat) : Nat))), some (.int (jn ((s : Nat) + -8)))] [] h Q) :
    mj_T D mj_m160 5 [some (.int x), some (.int (jn (c : Nat))), some (.int (jn (s : Nat)))] [] h Q := by
  have hb := jb_byt_lt x (s / 8)
  refine mj_T.pl rfl rfl rfl rfl ?_
  refine mj_T.if0 rfl ⟨by omega, by omega⟩ (fun hc => ?_) (fun hc => ?_)
  · simp only [jc, decide_eq_true_eq] at hc; omega
  iterate 5 refine mj_T.pl rfl rfl rfl rfl ?_
  have fin : ∀ y : Nat, y = c + (if mq_byt x (s / 8) = 0 then 0 else 1) → mj_T D mj_m160 22 [some (.int x), some (.int (jn (y : Nat))), some (.int (jn (s : Nat)))] [] h Q := fun y hy => by
    subst hy
    refine mj_T.iinc (a := (s : Int)) rfl rfl ?_
    exact mj_T.pl rfl rfl rfl rfl k
  refine mj_T.eq (st2 := [.int (jn (mq_byt x (s / 8) : Nat))]) ?_ rfl rfl (congrArg (fun v => [Value.int v]) (jb_shr x hs)) rfl
  refine mj_T.if0 rfl ⟨by omega, by omega⟩ (fun hc => ?_) (fun hc => ?_)
  · simp only [jc, decide_eq_true_eq] at hc
    exact fin c (by rw [if_pos (by omega)]; rfl)
  · simp only [jc, decide_eq_false_iff_not] at hc
    refine mj_T.iinc (a := (c : Int)) rfl rfl ?_
    exact fin (c + 1) (by rw [if_neg (by omega)])
theorem jb_in : mj_Ok (D + 1) 160 [.int x] h (fun r => r = (.inl (some (.int (jn (mq_nby x : Nat)))), h)) := by
  refine mj_Ok.of (M := mj_m160) rfl rfl rfl ?_
  iterate 4 refine mj_T.pl rfl rfl rfl rfl ?_
  have hi : ∀ k, (if mq_byt x k = 0 then 0 else 1) ≤ 1 := fun k => by split <;> decide
  have i3 := hi 3
  have i2 := hi 2
  have i1 := hi 1
  refine jb_in_step (s := 24) (c := 0) (by decide) (by decide) ?_
  refine jb_in_step (s := 16) (by decide) (by show 0 + (if mq_byt x 3 = 0 then 0 else 1) < 1000; omega) ?_
  refine jb_in_step (s := 8) (by decide) (by show 0 + (if mq_byt x 3 = 0 then 0 else 1) + (if mq_byt x 2 = 0 then 0 else 1) < 1000; omega) ?_
  refine jb_in_step (s := 0) (by decide) (by show 0 + (if mq_byt x 3 = 0 then 0 else 1) + (if mq_byt x 2 = 0 then 0 else 1) + (if mq_byt x 1 = 0 then 0 else 1) < 1000; omega) ?_
  refine mj_T.pl rfl rfl rfl rfl ?_
  refine mj_T.if0 (a := ((0 : Nat) : Int) + -8) rfl ⟨by omega, by omega⟩ (fun hc => ?_) (fun hc => ?_)
  rotate_left
  · simp only [jc, decide_eq_false_iff_not] at hc; omega
  refine mj_T.pl rfl rfl rfl rfl ?_
  refine mj_T.ret rfl rfl rfl ?_
  show (Sum.inl (some (Value.int (jn ((0 + (if mq_byt x 3 = 0 then 0 else 1) + (if mq_byt x 2 = 0 then 0 else 1) + (if mq_byt x 1 = 0 then 0 else 1) + (if mq_byt x 0 = 0 then 0 else 1) : Nat) : Int)))), h) = _
  rw [show 0 + (if mq_byt x 3 = 0 then 0 else 1) + (if mq_byt x 2 = 0 then 0 else 1) + (if mq_byt x 1 = 0 then 0 else 1) + (if mq_byt x 0 = 0 then 0 else 1) = mq_nby x by unfold mq_nby; omega]
end MBY
def jbx (x1 x2 x3 x4 x5 : Int32) (k : Nat) : Int32 := if k < 4 then x1 else if k < 8 then x2 else if k < 12 then x3 else if k < 16 then x4 else x5
def jbk (x1 x2 x3 x4 x5 : Int32) (k : Nat) : Nat := mq_byt (jbx x1 x2 x3 x4 x5 k) (3 - k % 4)
def jcn (x1 x2 x3 x4 x5 : Int32) : Nat → Nat
  | 0 => 0
  | k + 1 => jcn x1 x2 x3 x4 x5 k + (if jbk x1 x2 x3 x4 x5 k = 0 then 0 else 1)
theorem jcn_le (x1 x2 x3 x4 x5 : Int32) : ∀ k, jcn x1 x2 x3 x4 x5 k ≤ k
  | 0 => Nat.le_refl 0
  | k + 1 => by
    have := jcn_le x1 x2 x3 x4 x5 k
    show jcn x1 x2 x3 x4 x5 k + (if jbk x1 x2 x3 x4 x5 k = 0 then 0 else 1) ≤ k + 1
    split <;> omega
theorem jcn_20 (x1 x2 x3 x4 x5 : Int32) : jcn x1 x2 x3 x4 x5 20 = mq_nby x1 + mq_nby x2 + mq_nby x3 + mq_nby x4 + mq_nby x5 := by
  have e : jcn x1 x2 x3 x4 x5 20 = 0 + (if mq_byt x1 3 = 0 then 0 else 1) + (if mq_byt x1 2 = 0 then 0 else 1) + (if mq_byt x1 1 = 0 then 0 else 1) + (if mq_byt x1 0 = 0 then 0 else 1) + (if mq_byt x2 3 = 0 then 0 else 1) + (if mq_byt x2 2 = 0 then 0 else 1) + (if mq_byt x2 1 = 0 then 0 else 1) + (if mq_byt x2 0 = 0 then 0 else 1) + (if mq_byt x3 3 = 0 then 0 else 1) + (if mq_byt x3 2 = 0 then 0 else 1) + (if mq_byt x3 1 = 0 then 0 else 1) + (if mq_byt x3 0 = 0 then 0 else 1) + (if mq_byt x4 3 = 0 then 0 else 1) + (if mq_byt x4 2 = 0 then 0 else 1) + (if mq_byt x4 1 = 0 then 0 else 1) + (if mq_byt x4 0 = 0 then 0 else 1) + (if mq_byt x5 3 = 0 then 0 else 1) + (if mq_byt x5 2 = 0 then 0 else 1) + (if mq_byt x5 1 = 0 then 0 else 1) + (if mq_byt x5 0 = 0 then 0 else 1) := rfl
  rw [e]
  unfold mq_nby
  simp only [Nat.zero_add, Nat.add_assoc]
section MRA
variable {D : Nat} {h : mj_H} {a : Nat} {x1 x2 x3 x4 x5 : Int32} {Q : mj_R → Prop}
theorem jb_of {k : Nat} (hk : k < 20) : mj_Ok (D + 1) 284 [.ref a, .int (jn (k : Nat)), .int x1, .int x2, .int x3, .int x4, .int x5] h (fun r => r = (.inl (some (.int (jn (jbk x1 x2 x3 x4 x5 k : Nat)))), h)) := by
  refine mj_Ok.of (M := mj_m284) rfl rfl rfl ?_
  have fin : ∀ x : Int32, x = jbx x1 x2 x3 x4 x5 k → mj_T D mj_m284 43 [some (.ref a), some (.int (jn (k : Nat))), some (.int x1), some (.int x2), some (.int x3), some (.int x4), some (.int x5), none] [.int x] h (fun r => r = (.inl (some (.int (jn (jbk x1 x2 x3 x4 x5 k : Nat)))), h)) := fun x hx => by
    subst hx
    iterate 6 refine mj_T.pl rfl rfl rfl rfl ?_
    refine mj_T.irem (a := (k : Int)) (b := 4) rfl ⟨by omega, by omega⟩ ⟨by decide, by decide⟩ (by decide) ?_
    rw [show (k : Int).tmod 4 = ((k % 4 : Nat) : Int) from rfl]
    refine mj_T.imul (a := 8) (b := ((k % 4 : Nat) : Int)) rfl ?_
    refine mj_T.isub (a := 24) (b := 8 * ((k % 4 : Nat) : Int)) rfl ?_
    have hs : 24 - 8 * (k % 4) = 24 ∨ 24 - 8 * (k % 4) = 16 ∨ 24 - 8 * (k % 4) = 8 ∨ 24 - 8 * (k % 4) = 0 := by omega
    rw [show (24 : Int) - 8 * ((k % 4 : Nat) : Int) = ((24 - 8 * (k % 4) : Nat) : Int) by omega]
    iterate 3 refine mj_T.pl rfl rfl rfl rfl ?_
    refine mj_T.eq (st2 := [.int (jn (mq_byt (jbx x1 x2 x3 x4 x5 k) ((24 - 8 * (k % 4)) / 8) : Nat))]) ?_ rfl rfl (congrArg (fun v => [Value.int v]) (jb_ushr (jbx x1 x2 x3 x4 x5 k) hs)) rfl
    refine mj_T.ret rfl rfl rfl ?_
    unfold jbk
    rw [show (24 - 8 * (k % 4)) / 8 = 3 - k % 4 by omega]
  have jmp : ∀ (b : Nat) {c : Bool}, jc .ge ((k : Nat) : Int) ((b : Nat) : Int) = c → (c = true ↔ b ≤ k) := fun b c hc => by
    rw [← hc]
    simp only [jc, decide_eq_true_eq]
    omega
  iterate 2 refine mj_T.pl rfl rfl rfl rfl ?_
  refine mj_T.icmp (a := ((k : Nat) : Int)) (b := ((4 : Nat) : Int)) rfl ⟨by omega, by omega⟩ ⟨by decide, by decide⟩ (fun hc => ?_) (fun hc => ?_)
  · have c1 := (jmp 4 hc).mp rfl
    iterate 2 refine mj_T.pl rfl rfl rfl rfl ?_
    refine mj_T.icmp (a := ((k : Nat) : Int)) (b := ((8 : Nat) : Int)) rfl ⟨by omega, by omega⟩ ⟨by decide, by decide⟩ (fun hc => ?_) (fun hc => ?_)
    · have c2 := (jmp 8 hc).mp rfl
      iterate 2 refine mj_T.pl rfl rfl rfl rfl ?_
      refine mj_T.icmp (a := ((k : Nat) : Int)) (b := ((12 : Nat) : Int)) rfl ⟨by omega, by omega⟩ ⟨by decide, by decide⟩ (fun hc => ?_) (fun hc => ?_)
      · have c3 := (jmp 12 hc).mp rfl
        iterate 2 refine mj_T.pl rfl rfl rfl rfl ?_
        refine mj_T.icmp (a := ((k : Nat) : Int)) (b := ((16 : Nat) : Int)) rfl ⟨by omega, by omega⟩ ⟨by decide, by decide⟩ (fun hc => ?_) (fun hc => ?_)
        · have c4 := (jmp 16 hc).mp rfl
          refine mj_T.pl rfl rfl rfl rfl ?_
          exact fin x5 (by unfold jbx; rw [if_neg (by omega), if_neg (by omega), if_neg (by omega), if_neg (by omega)])
        · have c4 : ¬ 16 ≤ k := fun q => by have := (jmp 16 hc).mpr q; cases this
          iterate 2 refine mj_T.pl rfl rfl rfl rfl ?_
          exact fin x4 (by unfold jbx; rw [if_neg (by omega), if_neg (by omega), if_neg (by omega), if_pos (by omega)])
      · have c3 : ¬ 12 ≤ k := fun q => by have := (jmp 12 hc).mpr q; cases this
        iterate 2 refine mj_T.pl rfl rfl rfl rfl ?_
        exact fin x3 (by unfold jbx; rw [if_neg (by omega), if_neg (by omega), if_pos (by omega)])
    · have c2 : ¬ 8 ≤ k := fun q => by have := (jmp 8 hc).mpr q; cases this
      iterate 2 refine mj_T.pl rfl rfl rfl rfl ?_
      exact fin x2 (by unfold jbx; rw [if_neg (by omega), if_pos (by omega)])
  · have c1 : ¬ 4 ≤ k := fun q => by have := (jmp 4 hc).mpr q; cases this
    iterate 2 refine mj_T.pl rfl rfl rfl rfl ?_
    exact fin x1 (by unfold jbx; rw [if_pos (by omega)])
theorem jb_count {fs0 : List Value} {l8 : Option Value} (hA : h[a]? = some (.inr (10, fs0))) (K : mj_T (D + 1) mj_m285 50 [some (.ref a), some (.int x1), some (.int x2), some (.int x3), some (.int x4), some (.int x5), some (.int (jn (jcn x1 x2 x3 x4 x5 20 : Nat))), some (.int (jn (20 : Nat))), l8] [] h Q) : ∀ m k : Nat, k + m = 20 → mj_T (D + 1) mj_m285 11 [some (.ref a), some (.int x1), some (.int x2), some (.int x3), some (.int x4), some (.int x5), some (.int (jn (jcn x1 x2 x3 x4 x5 k : Nat))), some (.int (jn (k : Nat))), l8] [] h Q
  | 0, k, hk => by
    have e : k = 20 := by omega
    subst e
    iterate 2 refine mj_T.pl rfl rfl rfl rfl ?_
    refine mj_T.icmp (a := ((20 : Nat) : Int)) (b := 20) rfl ⟨by decide, by decide⟩ ⟨by decide, by decide⟩ (fun hc => K) (fun hc => ?_)
    simp only [jc, decide_eq_false_iff_not] at hc; omega
  | m + 1, k, hk => by
    have hb := jb_byt_lt (jbx x1 x2 x3 x4 x5 k) (3 - k % 4)
    have hb : jbk x1 x2 x3 x4 x5 k < 256 := hb
    iterate 2 refine mj_T.pl rfl rfl rfl rfl ?_
    refine mj_T.icmp (a := (k : Int)) (b := 20) rfl ⟨by omega, by omega⟩ ⟨by decide, by decide⟩ (fun hc => ?_) (fun hc => ?_)
    · simp only [jc, decide_eq_true_eq] at hc; omega
    clear hc
    iterate 8 refine mj_T.pl rfl rfl rfl rfl ?_
    refine mj_T.call (ins := .invokevirtual 344) rfl rfl (Nat.le_of_ble_eq_true rfl) (Nat.le_of_ble_eq_true rfl) (by simp [mj_recv, hA]) rfl (jb_of (D := D) (a := a) (x1 := x1) (x2 := x2) (x3 := x3) (x4 := x4) (x5 := x5) (show k < 20 by omega)) (fun v' h' hq' => ?_) (fun i h' hq' => by cases hq')
    cases hq'
    have fin : ∀ y : Nat, y = (if jbk x1 x2 x3 x4 x5 k = 0 then 0 else 1) → mj_T (D + 1) mj_m285 41 [some (.ref a), some (.int x1), some (.int x2), some (.int x3), some (.int x4), some (.int x5), some (.int (jn (jcn x1 x2 x3 x4 x5 k : Nat))), some (.int (jn (k : Nat))), l8] [.int (jn (y : Nat)), .int (jn (jcn x1 x2 x3 x4 x5 k : Nat))] h Q := fun y hy => by
      subst hy
      refine mj_T.iadd (a := (jcn x1 x2 x3 x4 x5 k : Nat)) rfl ?_
      refine mj_T.pl rfl rfl rfl rfl ?_
      refine mj_T.iinc (a := (k : Int)) rfl rfl ?_
      refine mj_T.pl rfl rfl rfl rfl ?_
      exact jb_count hA K m (k + 1) (by omega)
    refine mj_T.if0 (a := ((jbk x1 x2 x3 x4 x5 k : Nat) : Int)) rfl ⟨by omega, by omega⟩ (fun hc => ?_) (fun hc => ?_)
    · simp only [jc, decide_eq_true_eq] at hc
      refine mj_T.pl rfl rfl rfl rfl ?_
      exact fin 0 (by rw [if_pos (by omega)])
    · simp only [jc, decide_eq_false_iff_not] at hc
      iterate 2 refine mj_T.pl rfl rfl rfl rfl ?_
      exact fin 1 (by rw [if_neg (by omega)])
end MRA
/-- the text with the bytes behind it -/
def apT (x1 x2 x3 x4 x5 : Int32) (tm : Nat) (T : Nat → Int) : Nat → (Nat → Int)
  | 0 => T
  | k + 1 => if jbk x1 x2 x3 x4 x5 k = 0 then apT x1 x2 x3 x4 x5 tm T k else jvu (apT x1 x2 x3 x4 x5 tm T k) (tm + jcn x1 x2 x3 x4 x5 k) (jbk x1 x2 x3 x4 x5 k : Nat)
theorem apT_ok (x1 x2 x3 x4 x5 : Int32) {tm : Nat} {T : Nat → Int} (h : ∀ j : Nat, j < tm → 1 ≤ T j ∧ T j ≤ 255) : ∀ k j, j < tm + jcn x1 x2 x3 x4 x5 k → 1 ≤ apT x1 x2 x3 x4 x5 tm T k j ∧ apT x1 x2 x3 x4 x5 tm T k j ≤ 255
  | 0, j, hj => h j hj
  | k + 1, j, hj => by
    have ih := apT_ok x1 x2 x3 x4 x5 h k
    have hb : jbk x1 x2 x3 x4 x5 k < 256 := jb_byt_lt (jbx x1 x2 x3 x4 x5 k) (3 - k % 4)
    have e : jcn x1 x2 x3 x4 x5 (k + 1) = jcn x1 x2 x3 x4 x5 k + (if jbk x1 x2 x3 x4 x5 k = 0 then 0 else 1) := rfl
    rw [e] at hj
    unfold apT
    split
    · rename_i c
      rw [if_pos c] at hj
      exact ih j hj
    · rename_i c
      rw [if_neg c] at hj
      by_cases q : j = tm + jcn x1 x2 x3 x4 x5 k
      · rw [q, jvu_at]
        omega
      · rw [jvu_ne _ _ _ q]
        exact ih j (by omega)
/-- what holds between two calls, with what was thrown -/
def jIt (c tm er : Int) (T : Nat → Int) (h : mj_H) : Prop := ∃ S N B X V : Nat → Int, rS S N B T X V h ∧ jK tm er S N B T ∧ S 3 = c
theorem jIt.to {c tm er : Int} {T : Nat → Int} {h : mj_H} (k : jIt c tm er T h) : jI tm er T h := by
  obtain ⟨S, N, B, X, V, h1, h2, _⟩ := k
  exact ⟨S, N, B, X, V, h1, h2⟩
section RPU
variable {h : mj_H} {tm er : Int} {T : Nat → Int}
theorem rp_ap_loop {S N B X V T0 : Nat → Int} {x1 x2 x3 x4 x5 : Int32} {tm0 : Nat} (hroom : tm0 + jcn x1 x2 x3 x4 x5 20 ≤ 200) (hj : ∀ k, k ≤ 20 → jcn x1 x2 x3 x4 x5 k ≤ jcn x1 x2 x3 x4 x5 20) {Q : mj_R → Prop}
    (hend : ∀ h, rS (jvu S 9 ((tm0 + jcn x1 x2 x3 x4 x5 20 : Nat) : Int)) N B (apT x1 x2 x3 x4 x5 tm0 T0 20) X V h → Q (.inl (some (.int (jn ((tm0 + jcn x1 x2 x3 x4 x5 20 : Nat) : Int)))), h)) :
    ∀ (m k : Nat) (h : mj_H) (l8 : Option Value), k + m = 20 → rS (jvu S 9 ((tm0 + jcn x1 x2 x3 x4 x5 k : Nat) : Int)) N B (apT x1 x2 x3 x4 x5 tm0 T0 k) X V h → mj_T 39 mj_m285 72 [some (.ref 0), some (.int x1), some (.int x2), some (.int x3), some (.int x4), some (.int x5), some (.int (jn (jcn x1 x2 x3 x4 x5 20 : Nat))), some (.int (jn (k : Nat))), l8] [] h Q := by
  intro m
  induction m with
  | zero =>
    intro k h l8 hk hs
    have hk : k = 20 := by omega
    subst hk
    iterate 2 refine mj_T.pl rfl rfl rfl rfl ?_
    refine mj_T.icmp (a := ((20 : Nat) : Int)) (b := 20) rfl ⟨by decide, by decide⟩ ⟨by decide, by decide⟩ (fun hc => ?_) (fun hc => ?_)
    · refine mj_T.pl rfl rfl rfl rfl ?_
      refine rT_get (v := .int (jn ((tm0 + jcn x1 x2 x3 x4 x5 20 : Nat) : Int))) hs rfl (by show some (Value.int (jn (jvu S 9 _ 9))) = _; rw [jvu_at]) ?_
      exact mj_T.ret rfl rfl rfl (hend h hs)
    · simp [jc] at hc
  | succ m ih =>
    intro k h l8 hk hs
    have hb : jbk x1 x2 x3 x4 x5 k < 256 := jb_byt_lt (jbx x1 x2 x3 x4 x5 k) (3 - k % 4)
    have hj1 := hj (k + 1) (by omega)
    have e9 : ∀ z : Int, (rF (jvu S 9 z))[9]? = some (.int (jn z)) := fun z => by
      show some (Value.int (jn (jvu S 9 z 9))) = _
      rw [jvu_at]
    iterate 2 refine mj_T.pl rfl rfl rfl rfl ?_
    refine mj_T.icmp (a := (k : Int)) (b := 20) rfl ⟨by omega, by omega⟩ ⟨by decide, by decide⟩ (fun hc => ?_) (fun hc => ?_)
    · simp only [jc, decide_eq_true_eq] at hc
      omega
    iterate 7 refine mj_T.pl rfl rfl rfl rfl ?_
    refine mj_T.call (ins := .invokevirtual 344) rfl rfl (Nat.le_of_ble_eq_true rfl) (Nat.le_of_ble_eq_true rfl) (by simp [mj_recv, rS_f hs]) rfl (mj_Ok.up (by decide) (jb_of (D := 0) (a := 0) (x1 := x1) (x2 := x2) (x3 := x3) (x4 := x4) (x5 := x5) (show k < 20 by omega))) (fun v' h' hq' => ?_) (fun i h' hq' => by cases hq')
    cases hq'
    iterate 2 refine mj_T.pl rfl rfl rfl rfl ?_
    have ec : jcn x1 x2 x3 x4 x5 (k + 1) = jcn x1 x2 x3 x4 x5 k + (if jbk x1 x2 x3 x4 x5 k = 0 then 0 else 1) := rfl
    refine mj_T.if0 (a := ((jbk x1 x2 x3 x4 x5 k : Nat) : Int)) rfl ⟨by omega, by omega⟩ (fun hc2 => ?_) (fun hc2 => ?_)
    · simp only [jc, Bool.not_eq_true', decide_eq_false_iff_not] at hc2
      have hb0 : jbk x1 x2 x3 x4 x5 k ≠ 0 := by omega
      rw [if_neg hb0] at ec
      refine mj_T.pl rfl rfl rfl rfl ?_
      refine rT_get hs rfl rfl ?_
      refine mj_T.pl rfl rfl rfl rfl ?_
      refine rT_get hs rfl (e9 _) ?_
      refine mj_T.pl rfl rfl rfl rfl ?_
      refine rT_stT hs rfl ⟨by omega, by omega⟩ (fun h1 hs1 => ?_)
      rw [Int.toNat_natCast] at hs1
      iterate 2 refine mj_T.pl rfl rfl rfl rfl ?_
      refine rT_get hs1 rfl (e9 _) ?_
      refine mj_T.pl rfl rfl rfl rfl ?_
      refine mj_T.iadd (a := ((tm0 + jcn x1 x2 x3 x4 x5 k : Nat) : Int)) (b := 1) rfl ?_
      rw [show ((tm0 + jcn x1 x2 x3 x4 x5 k : Nat) : Int) + 1 = ((tm0 + jcn x1 x2 x3 x4 x5 (k + 1) : Nat) : Int) by omega]
      refine rT_put (v := ((tm0 + jcn x1 x2 x3 x4 x5 (k + 1) : Nat) : Int)) hs1 rfl rfl (by decide) rfl (fun h2 hs2 => ?_)
      rw [jvu_jvu] at hs2
      refine mj_T.iinc (a := (k : Int)) rfl rfl ?_
      refine mj_T.pl rfl rfl rfl rfl ?_
      refine ih (k + 1) h2 _ (by omega) ?_
      rw [show apT x1 x2 x3 x4 x5 tm0 T0 (k + 1) = jvu (apT x1 x2 x3 x4 x5 tm0 T0 k) (tm0 + jcn x1 x2 x3 x4 x5 k) (jbk x1 x2 x3 x4 x5 k : Nat) from if_neg hb0]
      exact hs2
    · simp only [jc, Bool.not_eq_false', decide_eq_true_eq] at hc2
      have hb0 : jbk x1 x2 x3 x4 x5 k = 0 := by omega
      rw [if_pos hb0, Nat.add_zero] at ec
      refine mj_T.pl rfl rfl rfl rfl ?_
      refine mj_T.iinc (a := (k : Int)) rfl rfl ?_
      refine mj_T.pl rfl rfl rfl rfl ?_
      refine ih (k + 1) h _ (by omega) ?_
      rw [show apT x1 x2 x3 x4 x5 tm0 T0 (k + 1) = apT x1 x2 x3 x4 x5 tm0 T0 k from if_pos hb0, ec]
      exact hs
theorem jcn_mono (x1 x2 x3 x4 x5 : Int32) {k : Nat} : ∀ n, k ≤ n → jcn x1 x2 x3 x4 x5 k ≤ jcn x1 x2 x3 x4 x5 n
  | 0, h => by
    have : k = 0 := by omega
    rw [this]
    exact Nat.le_refl _
  | n + 1, h => by
    by_cases q : k = n + 1
    · rw [q]
      exact Nat.le_refl _
    · exact Nat.le_trans (jcn_mono x1 x2 x3 x4 x5 n (by omega)) (Nat.le_add_right _ _)
theorem jK.text {tm er : Int} {S N B T : Nat → Int} (K : jK tm er S N B T) {n : Nat} {T2 : Nat → Int} (hn : n ≤ 200) (hT : ∀ j : Nat, j < n → 1 ≤ T2 j ∧ T2 j ≤ 255) : jK n er (jvu S 9 (n : Int)) N B T2 := by
  obtain ⟨k1, k2, k3, k4, k5, k6, k7, k8, k9⟩ := K
  have e : ∀ x, x ≠ 9 → jvu S 9 (n : Int) x = S x := fun x hx => jvu_ne _ _ _ hx
  refine ⟨k1, by rw [e 2 (by decide)]; exact k2, fun j hj => k3 j (by rw [e 2 (by decide)] at hj; exact hj), ⟨jvu_at _ _ _, by omega, by omega⟩, by rw [e 12 (by decide)]; exact k5, by rw [e 15 (by decide)]; exact k6, fun x => ?_, by rw [e 13 (by decide)]; exact k8, fun j hj => hT j (by omega)⟩
  by_cases hx : x = 9
  · subst hx
    rw [jvu_at]
    exact ⟨by omega, by omega⟩
  · rw [e x hx]
    exact k7 x
theorem rp_append {x1 x2 x3 x4 x5 : Int32} {tm0 : Nat} (hI : jI (tm0 : Int) er T h) : mj_Ok 40 285 [.ref 0, .int x1, .int x2, .int x3, .int x4, .int x5] h (fun r => (200 < tm0 + jcn x1 x2 x3 x4 x5 20 ∧ ∃ h', jIt 1 tm0 er T h' ∧ r = (.inl (some (.int (jn 0))), h')) ∨ (tm0 + jcn x1 x2 x3 x4 x5 20 ≤ 200 ∧ ∃ h', jIt 0 ((tm0 + jcn x1 x2 x3 x4 x5 20 : Nat) : Int) er (apT x1 x2 x3 x4 x5 tm0 T 20) h' ∧ r = (.inl (some (.int (jn ((tm0 + jcn x1 x2 x3 x4 x5 20 : Nat) : Int)))), h'))) := by
  refine mj_Ok.of (M := mj_m285) rfl rfl rfl ?_
  obtain ⟨S, N, B, X, V, hs, K⟩ := hI
  iterate 2 refine mj_T.pl rfl rfl rfl rfl ?_
  refine rT_put (v := 0) hs rfl rfl (by decide) rfl (fun h1 hs1 => ?_)
  have K1 := K.put (k := 3) (v := 0) ⟨by decide, by decide⟩ (by decide) (by decide) (by decide) (by decide) (by decide)
  have e3 : jvu S 3 0 3 = 0 := jvu_at _ _ _
  generalize jvu S 3 0 = S1 at hs1 K1 e3
  have k4 := K1.2.2.2.1
  have k9 := K1.2.2.2.2.2.2.2.2
  have hle := jcn_le x1 x2 x3 x4 x5 20
  iterate 4 refine mj_T.pl rfl rfl rfl rfl ?_
  refine jb_count (D := 38) (a := 0) (rS_f hs1) ?_ 20 0 (by omega)
  refine mj_T.pl rfl rfl rfl rfl ?_
  refine rT_get hs1 rfl rfl ?_
  rw [k4.1]
  refine mj_T.pl rfl rfl rfl rfl ?_
  refine mj_T.iadd (a := (tm0 : Int)) (b := ((jcn x1 x2 x3 x4 x5 20 : Nat) : Int)) rfl ?_
  rw [show (tm0 : Int) + ((jcn x1 x2 x3 x4 x5 20 : Nat) : Int) = ((tm0 + jcn x1 x2 x3 x4 x5 20 : Nat) : Int) by omega]
  refine mj_T.pl rfl rfl rfl rfl ?_
  refine mj_T.icmp (a := ((tm0 + jcn x1 x2 x3 x4 x5 20 : Nat) : Int)) (b := 200) rfl ⟨by omega, by omega⟩ ⟨by decide, by decide⟩ (fun hc => ?_) (fun hc => ?_)
  · simp only [jc, decide_eq_true_eq] at hc
    iterate 2 refine mj_T.pl rfl rfl rfl rfl ?_
    have es : jvu S1 9 (tm0 : Int) = S1 := funext fun x => by
      unfold jvu
      split
      · rename_i q
        rw [q, k4.1]
      · rfl
    refine rp_ap_loop (S := S1) (N := N) (B := B) (X := X) (V := V) (T0 := T) (tm0 := tm0) (by omega) (fun k hk => jcn_mono x1 x2 x3 x4 x5 20 hk) (fun h2 hs2 => Or.inr ⟨by omega, h2, ⟨_, _, _, _, _, hs2, K1.text (by omega) (fun j hj2 => apT_ok x1 x2 x3 x4 x5 (fun j2 hj3 => k9 j2 (by omega)) 20 j hj2), by rw [jvu_ne _ _ _ (by decide)]; exact e3⟩, rfl⟩) 20 0 h1 _ (by omega) ?_
    show rS (jvu S1 9 ((tm0 + 0 : Nat) : Int)) N B T X V h1
    rw [Nat.add_zero, es]
    exact hs1
  simp only [jc, decide_eq_false_iff_not] at hc
  iterate 2 refine mj_T.pl rfl rfl rfl rfl ?_
  refine mj_T.call (ins := .invokevirtual 198) rfl rfl (Nat.le_of_ble_eq_true rfl) (Nat.le_of_ble_eq_true rfl) (by simp [mj_recv, rS_f hs1]) rfl (mj_Ok.up (by decide) (rp_fails (D := 0) (c := 1) hs1)) (fun v' h2 hq' => ?_) (fun i h' hq' => by obtain ⟨_, _, h⟩ := hq'; cases h)
  obtain ⟨_, hs2, hq'⟩ := hq'
  cases hq'
  exact mj_T.ret rfl rfl rfl (Or.inl ⟨by omega, h2, ⟨_, _, _, _, _, hs2, K1.put ⟨by decide, by decide⟩ (by decide) (by decide) (by decide) (by decide) (by decide), jvu_at _ _ _⟩, rfl⟩)
end RPU
