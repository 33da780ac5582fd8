/-! Whole numbers as the machine's ints and longs. -/
abbrev jn (z : Int) : Int32 := Int32.ofInt z
abbrev jl (z : Int) : Int64 := Int64.ofInt z
/-- in an int's range; in a long's -/
def jr (z : Int) : Prop := -2147483648 ≤ z ∧ z < 2147483648
def jR (z : Int) : Prop := -9223372036854775808 ≤ z ∧ z < 9223372036854775808
theorem jn_toInt {z : Int} (h : jr z) : (jn z).toInt = z := Int32.toInt_ofInt_of_le h.1 h.2
theorem jl_toInt {z : Int} (h : jR z) : (jl z).toInt = z := Int64.toInt_ofInt_of_le h.1 h.2
theorem jn_of (x : Int32) : jn x.toInt = x := Int32.ofInt_toInt x
theorem jl_of (x : Int64) : jl x.toInt = x := Int64.ofInt_toInt x
theorem jr_of (x : Int32) : jr x.toInt := ⟨Int32.le_toInt x, Int32.toInt_lt x⟩
theorem jR_of (x : Int64) : jR x.toInt := ⟨Int64.le_toInt x, Int64.toInt_lt x⟩
theorem jn_add (a b : Int) : jn a + jn b = jn (a + b) := (Int32.ofInt_add a b).symm
theorem jn_sub (a b : Int) : jn a - jn b = jn (a - b) := (Int32.ofInt_sub a b).symm
theorem jn_mul (a b : Int) : jn a * jn b = jn (a * b) := (Int32.ofInt_mul a b).symm
theorem jn_neg (a : Int) : -jn a = jn (-a) := (Int32.ofInt_neg a).symm
theorem jl_add (a b : Int) : jl a + jl b = jl (a + b) := (Int64.ofInt_add a b).symm
theorem jl_sub (a b : Int) : jl a - jl b = jl (a - b) := (Int64.ofInt_sub a b).symm
theorem jl_mul (a b : Int) : jl a * jl b = jl (a * b) := (Int64.ofInt_mul a b).symm
theorem jl_neg (a : Int) : -jl a = jl (-a) := (Int64.ofInt_neg a).symm
theorem jn_lt {a b : Int} (ha : jr a) (hb : jr b) : jn a < jn b ↔ a < b := by rw [Int32.lt_iff_toInt_lt, jn_toInt ha, jn_toInt hb]
theorem jn_le {a b : Int} (ha : jr a) (hb : jr b) : jn a ≤ jn b ↔ a ≤ b := by rw [Int32.le_iff_toInt_le, jn_toInt ha, jn_toInt hb]
theorem jn_eq {a b : Int} (ha : jr a) (hb : jr b) : jn a = jn b ↔ a = b := by rw [← Int32.toInt_inj, jn_toInt ha, jn_toInt hb]
theorem jl_lt {a b : Int} (ha : jR a) (hb : jR b) : jl a < jl b ↔ a < b := by rw [Int64.lt_iff_toInt_lt, jl_toInt ha, jl_toInt hb]
theorem jl_le {a b : Int} (ha : jR a) (hb : jR b) : jl a ≤ jl b ↔ a ≤ b := by rw [Int64.le_iff_toInt_le, jl_toInt ha, jl_toInt hb]
theorem jl_eq {a b : Int} (ha : jR a) (hb : jR b) : jl a = jl b ↔ a = b := by rw [← Int64.toInt_inj, jl_toInt ha, jl_toInt hb]
theorem jn_long {a : Int} (ha : jr a) : (jn a).toInt64 = jl a := by
  apply Int64.toInt_inj.mp
  rw [Int32.toInt_toInt64, jn_toInt ha, jl_toInt ⟨by have := ha.1; omega, by have := ha.2; omega⟩]
theorem jl_int (a : Int) : (jl a).toInt32 = jn a := by
  first
    | exact Int64.toInt32_ofInt a
    | simp
theorem jn_nat {a : Int} (h0 : 0 ≤ a) (ha : jr a) : (jn a).toNatClampNeg = a.toNat := by
  show (jn a).toInt.toNat = a.toNat
  rw [jn_toInt ha]
theorem jn_div {a b : Int} (ha : jr a) (hb : jr b) (h : 0 < b) : jn a / jn b = jn (a.tdiv b) := by
  apply Int32.toInt_inj.mp
  have h1 : jr (a.tdiv b) := by
    have h2 := Int.natAbs_tdiv_le_natAbs a b
    have := ha.1; have := ha.2
    rcases Int.le_total 0 a with h3 | h3
    · have h4 := Int.tdiv_nonneg h3 (Int.le_of_lt h)
      exact ⟨by omega, by omega⟩
    · have h4 := Int.tdiv_nonneg (a := -a) (b := b) (by omega) (Int.le_of_lt h)
      rw [Int.neg_tdiv] at h4
      exact ⟨by omega, by omega⟩
  rw [jn_toInt h1]
  have h2 : jn b ≠ -1 := by
    rw [show (-1 : Int32) = jn (-1) from rfl, Ne, jn_eq hb ⟨by decide, by decide⟩]
    omega
  rw [Int32.toInt_div_of_ne_right _ _ h2, jn_toInt ha, jn_toInt hb]
theorem jl_div {a b : Int} (ha : jR a) (hb : jR b) (h : 0 < b) : jl a / jl b = jl (a.tdiv b) := by
  apply Int64.toInt_inj.mp
  have h1 : jR (a.tdiv b) := by
    have h2 := Int.natAbs_tdiv_le_natAbs a b
    have := ha.1; have := ha.2
    rcases Int.le_total 0 a with h3 | h3
    · have h4 := Int.tdiv_nonneg h3 (Int.le_of_lt h)
      exact ⟨by omega, by omega⟩
    · have h4 := Int.tdiv_nonneg (a := -a) (b := b) (by omega) (Int.le_of_lt h)
      rw [Int.neg_tdiv] at h4
      exact ⟨by omega, by omega⟩
  rw [jl_toInt h1]
  have h2 : jl b ≠ -1 := by
    rw [show (-1 : Int64) = jl (-1) from rfl, Ne, jl_eq hb ⟨by decide, by decide⟩]
    omega
  rw [Int64.toInt_div_of_ne_right _ _ h2, jl_toInt ha, jl_toInt hb]
theorem jn_rem {a b : Int} (ha : jr a) (hb : jr b) (h : 0 < b) : jn a - jn a / jn b * jn b = jn (a.tmod b) := by
  rw [jn_div ha hb h, jn_mul, jn_sub]
  congr 1
  have := Int.tmod_add_mul_tdiv a b
  rw [Int.mul_comm]
  omega
theorem jl_rem {a b : Int} (ha : jR a) (hb : jR b) (h : 0 < b) : jl a - jl a / jl b * jl b = jl (a.tmod b) := by
  rw [jl_div ha hb h, jl_mul, jl_sub]
  congr 1
  have := Int.tmod_add_mul_tdiv a b
  rw [Int.mul_comm]
  omega
theorem jl_cmp {a b : Int} (ha : jR a) (hb : jR b) : lg_cmp (jl a) (jl b) = jn (if a < b then -1 else if a = b then 0 else 1) := by
  unfold lg_cmp
  simp only [jl_lt ha hb, jl_eq ha hb, jl_lt hb ha, jl_le ha hb, jl_le hb ha]
  rcases Int.lt_trichotomy a b with h | h | h
  · simp [h, Int.not_le.mpr h, Int.not_lt.mpr (Int.le_of_lt h), Int.ne_of_lt h]
  · subst h
    simp
    rfl
  · simp [h, Int.not_le.mpr h, Int.not_lt.mpr (Int.le_of_lt h), (Int.ne_of_lt h).symm]
    rfl
def jc (c : ClassFile.Cond) (a b : Int) : Bool := match c with
  | .eq => decide (a = b)
  | .ne => !decide (a = b)
  | .lt => decide (a < b)
  | .ge => decide (b ≤ a)
  | .gt => decide (b < a)
  | .le => decide (a ≤ b)
theorem jn_cnd {a b : Int} (ha : jr a) (hb : jr b) (c : ClassFile.Cond) : mj_cnd c (jn a) (jn b) = jc c a b := by
  cases c <;> simp [mj_cnd, jc, jn_eq ha hb, jn_lt ha hb, jn_le ha hb, jn_lt hb ha, jn_le hb ha]
theorem jn_in {i : Int} {n : Nat} (hi : jr i) : mj_in (jn i) n = decide (0 ≤ i ∧ i < n) := by
  unfold mj_in
  have h0 : (0 : Int32) = jn 0 := rfl
  rw [h0]
  rcases Int.lt_or_le i 0 with h | h
  · have h1 : ¬ (jn 0 ≤ jn i) := by rw [jn_le ⟨by decide, by decide⟩ hi]; omega
    simp [h1]
    omega
  · have h1 : jn 0 ≤ jn i := by rw [jn_le ⟨by decide, by decide⟩ hi]; exact h
    rw [jn_nat h hi]
    simp only [h1, decide_true, Bool.true_and]
    rw [Bool.eq_iff_iff]
    simp [Nat.blt_eq]
    omega
