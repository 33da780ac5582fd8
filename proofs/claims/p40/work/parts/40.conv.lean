/-! Products by limbs: the columns. -/
def jsm (f : Nat → Nat) : Nat → Nat
  | 0 => 0
  | n + 1 => jsm f n + f n
theorem jsm_head (f : Nat → Nat) : ∀ n, jsm f (n + 1) = f 0 + jsm (fun i => f (i + 1)) n
  | 0 => by simp [jsm]
  | n + 1 => by
    show jsm f (n + 1) + f (n + 1) = _
    rw [jsm_head f n]
    simp only [jsm]
    omega
theorem jsm_congr {f g : Nat → Nat} : ∀ {n : Nat}, (∀ i, i < n → f i = g i) → jsm f n = jsm g n
  | 0, _ => rfl
  | n + 1, h => by
    simp only [jsm]
    rw [jsm_congr (fun i hi => h i (by omega)), h n (by omega)]
theorem jsm_add (f g : Nat → Nat) : ∀ n, jsm (fun i => f i + g i) n = jsm f n + jsm g n
  | 0 => rfl
  | n + 1 => by simp only [jsm]; rw [jsm_add f g n]; omega
theorem jsm_mul (c : Nat) (f : Nat → Nat) : ∀ n, jsm (fun i => c * f i) n = c * jsm f n
  | 0 => rfl
  | n + 1 => by simp only [jsm]; rw [jsm_mul c f n, Nat.mul_add]
theorem jsm_flat {f : Nat → Nat} {lo : Nat} : ∀ {d : Nat}, (∀ i, lo ≤ i → i < lo + d → f i = 0) → jsm f (lo + d) = jsm f lo
  | 0, _ => rfl
  | d + 1, h => by
    show jsm f (lo + d) + f (lo + d) = _
    rw [h (lo + d) (by omega) (by omega), jsm_flat (fun i h1 h2 => h i h1 (by omega))]
    rfl
theorem jsm_flat' {f : Nat → Nat} {lo hi : Nat} (hl : lo ≤ hi) (h : ∀ i, lo ≤ i → i < hi → f i = 0) : jsm f hi = jsm f lo := by
  obtain ⟨d, rfl⟩ : ∃ d, hi = lo + d := ⟨hi - lo, by omega⟩
  exact jsm_flat h
theorem jsm_low (b : Nat) : ∀ k, jsm (fun j => jlb b j * jB ^ j) k = b % jB ^ k
  | 0 => by simp [jsm, Nat.mod_one]
  | k + 1 => by
    simp only [jsm]
    rw [jsm_low b k, jmod, Nat.add_comm]
theorem jlb_succ (a i : Nat) : jlb a (i + 1) = jlb (a / jB) i := by
  unfold jlb
  rw [Nat.pow_succ, Nat.mul_comm, ← Nat.div_div_eq_div_mul]
/-- a column -/
def jco (a b k : Nat) : Nat := jsm (fun i => jlb a i * jlb b (k - i)) (k + 1)
theorem jco_zero (a b : Nat) : jco a b 0 = jlb a 0 * jlb b 0 := by simp [jco, jsm]
theorem jco_succ (a b k : Nat) : jco a b (k + 1) = jlb a 0 * jlb b (k + 1) + jco (a / jB) b k := by
  unfold jco
  rw [jsm_head]
  congr 1
  apply jsm_congr
  intro i _
  rw [jlb_succ, Nat.add_sub_add_right]
def jP (a b k : Nat) : Nat := jsm (fun j => jco a b j * jB ^ j) k
theorem jP_rec (a b k : Nat) : jP a b (k + 1) = jlb a 0 * (b % jB ^ (k + 1)) + jB * jP (a / jB) b k := by
  unfold jP
  rw [← jsm_low b (k + 1), jsm_head (fun j => jco a b j * jB ^ j), jsm_head (fun j => jlb b j * jB ^ j), Nat.mul_add, jco_zero]
  simp only [Nat.pow_zero, Nat.mul_one]
  rw [Nat.add_assoc]
  congr 1
  rw [← jsm_mul, ← jsm_mul, ← jsm_add]
  apply jsm_congr
  intro i _
  rw [jco_succ, Nat.add_mul, Nat.pow_succ]
  congr 1
  · rw [Nat.mul_assoc]
  · simp only [Nat.mul_comm, Nat.mul_left_comm, Nat.mul_assoc]
theorem jlb_z (a : Nat) : jlb a 0 = a % jB := by simp [jlb]
theorem jP_mod : ∀ (k a b : Nat), jP a b k % jB ^ k = a * b % jB ^ k
  | 0, a, b => by simp [Nat.mod_one]
  | k + 1, a, b => by
    rw [jP_rec]
    have h1 := jP_mod k (a / jB) b
    have e1 : jB * jP (a / jB) b k % jB ^ (k + 1) = jB * (a / jB * b) % jB ^ (k + 1) := by
      rw [Nat.pow_succ, Nat.mul_comm (jB ^ k), Nat.mul_mod_mul_left, Nat.mul_mod_mul_left, h1]
    rw [Nat.add_mod, e1, Nat.mul_mod_mod, ← Nat.add_mod]
    congr 1
    conv => rhs; rw [← Nat.div_add_mod a jB]
    rw [jlb_z, Nat.add_mul, Nat.mul_assoc, Nat.add_comm]
/-- what is carried into a column -/
def jcc (a b k : Nat) : Nat := jP a b k / jB ^ k
theorem jcc_zero (a b : Nat) : jcc a b 0 = 0 := by simp [jcc, jP, jsm]
theorem jcc_div (a b k : Nat) : jP a b (k + 1) / jB ^ k = jcc a b k + jco a b k := by
  show (jP a b k + jco a b k * jB ^ k) / jB ^ k = _
  rw [Nat.add_mul_div_right _ _ (jB_pow k)]
  rfl
theorem jcc_next (a b k : Nat) : jcc a b (k + 1) = (jcc a b k + jco a b k) / jB := by
  rw [← jcc_div]
  unfold jcc
  rw [Nat.pow_succ, Nat.div_div_eq_div_mul]
theorem jcc_limb (a b k : Nat) : jlb (a * b) k = (jcc a b k + jco a b k) % jB := by
  have h1 : ∀ x, x % jB ^ (k + 1) / jB ^ k = x / jB ^ k % jB := by
    intro x
    rw [Nat.pow_succ, Nat.mod_mul_right_div_self]
  have h2 := jP_mod (k + 1) a b
  rw [← jcc_div]
  unfold jlb
  rw [← h1, ← h1, h2]
theorem jsm_le {f : Nat → Nat} {c : Nat} (h : ∀ i, f i ≤ c) : ∀ n, jsm f n ≤ n * c
  | 0 => by simp [jsm]
  | n + 1 => by
    have h1 := jsm_le h n
    have h2 := h n
    simp only [jsm]
    rw [Nat.add_mul]
    omega
theorem jmul_le (a b i j : Nat) : jlb a i * jlb b j ≤ 999999999 * 999999999 := Nat.mul_le_mul (by have := jlb_lt a i; omega) (by have := jlb_lt b j; omega)
theorem jcc_le (a b : Nat) : ∀ k, jcc a b k ≤ k * 1000000000
  | 0 => by rw [jcc_zero]; omega
  | k + 1 => by
    rw [jcc_next]
    have h1 := jcc_le a b k
    have h2 : jco a b k ≤ (k + 1) * (999999999 * 999999999) := jsm_le (fun i => jmul_le a b i (k - i)) (k + 1)
    exact Nat.div_le_of_le_mul (by show _ ≤ 1000000000 * _; omega)
theorem jnl_mul (a b : Nat) : jnl (a * b) ≤ jnl a + jnl b := by
  rw [jnl_le_lt, Nat.pow_add]
  by_cases h : a = 0
  · subst h; rw [Nat.zero_mul]; exact Nat.mul_pos (jB_pow _) (jB_pow _)
  · exact Nat.mul_lt_mul_of_lt_of_le (jnl_le_lt.mp (Nat.le_refl _)) (Nat.le_of_lt (jnl_le_lt.mp (Nat.le_refl _))) (jB_pow _)
