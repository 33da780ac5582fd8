/-! Limbs: nine digits each. -/
abbrev jB : Nat := 1000000000
def jlb (x j : Nat) : Nat := x / jB ^ j % jB
/-- how many limbs a number has -/
def jnl (x : Nat) : Nat := if x = 0 then 0 else jnl (x / jB) + 1
decreasing_by exact Nat.div_lt_self (by omega) (by decide)
theorem jlb_lt (x j : Nat) : jlb x j < 1000000000 := Nat.mod_lt _ (by decide)
theorem jnl_zero : jnl 0 = 0 := by unfold jnl; simp
theorem jnl_pos {x : Nat} (h : x ≠ 0) : jnl x = jnl (x / jB) + 1 := by rw [jnl]; simp [h]
theorem jnl_eq0 {x : Nat} : jnl x = 0 ↔ x = 0 := by
  constructor
  · intro h
    by_cases hx : x = 0
    · exact hx
    · rw [jnl_pos hx] at h; omega
  · intro h; rw [h, jnl_zero]
theorem jB_pow (j : Nat) : 0 < jB ^ j := Nat.pow_pos (by decide)
/-- fewer limbs than j: nothing is left behind j limbs -/
theorem jnl_le {x j : Nat} : jnl x ≤ j ↔ x / jB ^ j = 0 := by
  induction j generalizing x with
  | zero =>
    by_cases h : x = 0
    · subst h; simp [jnl_zero]
    · rw [jnl_pos h]; simp [h]
  | succ j ih =>
    by_cases h : x = 0
    · subst h; simp [jnl_zero]
    · rw [jnl_pos h, Nat.add_le_add_iff_right, ih, Nat.div_div_eq_div_mul, Nat.pow_succ, Nat.mul_comm]
theorem jnl_le_lt {x j : Nat} : jnl x ≤ j ↔ x < jB ^ j := by
  rw [jnl_le, Nat.div_eq_zero_iff]
  have := jB_pow j
  omega
theorem jnl_lt {x j : Nat} : j < jnl x ↔ x / jB ^ j ≠ 0 := by
  have := @jnl_le x j
  omega
theorem jnl_mono {x y : Nat} (h : x ≤ y) : jnl x ≤ jnl y := jnl_le_lt.mpr (Nat.lt_of_le_of_lt h (jnl_le_lt.mp (Nat.le_refl _)))
theorem jdiv (x i : Nat) : x / jB ^ i = x / jB ^ (i + 1) * jB + jlb x i := by
  unfold jlb
  rw [Nat.pow_succ, ← Nat.div_div_eq_div_mul, Nat.mul_comm]
  exact (Nat.div_add_mod _ _).symm
theorem jlb_high {x j : Nat} (h : jnl x ≤ j) : jlb x j = 0 := by
  unfold jlb
  rw [jnl_le.mp h, Nat.zero_mod]
theorem jlb_top {x j : Nat} (h : j + 1 = jnl x) : jlb x j ≠ 0 := by
  intro h0
  have h1 := jdiv x j
  rw [h0, jnl_le.mp (Nat.le_of_eq h.symm)] at h1
  have h2 : j < jnl x := by omega
  exact jnl_lt.mp h2 (by simpa using h1)
/-- the low limbs' number -/
theorem jmod (x i : Nat) : x % jB ^ (i + 1) = jlb x i * jB ^ i + x % jB ^ i := by
  unfold jlb
  rw [Nat.pow_succ, Nat.mod_mul, Nat.mul_comm, Nat.add_comm]
theorem jmod_full {x i : Nat} (h : jnl x ≤ i) : x % jB ^ i = x := Nat.mod_eq_of_lt (jnl_le_lt.mp h)
theorem jnl_of {x j : Nat} (h : x < jB ^ j) : jnl x ≤ j := jnl_le_lt.mpr h
/-- a number by its limbs -/
theorem jlb_of {a c i : Nat} (h : c < jB) (ha : a < jB ^ i) : jlb (c * jB ^ i + a) i = c := by
  unfold jlb
  rw [Nat.mul_comm, Nat.mul_add_div (jB_pow i), Nat.div_eq_of_lt ha, Nat.add_zero, Nat.mod_eq_of_lt h]
theorem jlb_low {a c i j : Nat} (hj : j < i) : jlb (c * jB ^ i + a) j = jlb a j := by
  unfold jlb
  obtain ⟨d, rfl⟩ : ∃ d, i = j + 1 + d := ⟨i - (j + 1), by omega⟩
  rw [show c * jB ^ (j + 1 + d) + a = a + jB ^ j * (jB * (c * jB ^ d)) by rw [Nat.pow_add, Nat.pow_succ, Nat.add_comm]; congr 1; simp only [Nat.mul_comm, Nat.mul_left_comm, Nat.mul_assoc]]
  rw [Nat.add_mul_div_left _ _ (jB_pow j), Nat.add_mul_mod_self_left]
