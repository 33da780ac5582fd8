/-! Polynomials as rows of whole numbers without an end: products, degrees. -/
abbrev pz_P : Type := Nat → Int
def pz_tl (u : pz_P) : pz_P := fun i => u (i + 1)
def pz_c : Nat → pz_P → pz_P → Int
  | 0, u, f => u 0 * f 0
  | n + 1, u, f => u 0 * f (n + 1) + pz_c n (pz_tl u) f
def pz_mul (u f : pz_P) : pz_P := fun n => pz_c n u f
def pz_add (u v : pz_P) : pz_P := fun i => u i + v i
def pz_sc (c : Int) (u : pz_P) : pz_P := fun i => c * u i
def pz_0 : pz_P := fun _ => 0
theorem pz_c_addL : ∀ (n : Nat) (u v f : pz_P), pz_c n (pz_add u v) f = pz_c n u f + pz_c n v f
  | 0, u, v, f => by show (u 0 + v 0) * f 0 = _; rw [Int.add_mul]; rfl
  | n + 1, u, v, f => by
    show (u 0 + v 0) * f (n + 1) + pz_c n (pz_add (pz_tl u) (pz_tl v)) f = (u 0 * f (n + 1) + pz_c n (pz_tl u) f) + (v 0 * f (n + 1) + pz_c n (pz_tl v) f)
    rw [pz_c_addL n, Int.add_mul]
    omega
theorem pz_c_addR : ∀ (n : Nat) (u f g : pz_P), pz_c n u (pz_add f g) = pz_c n u f + pz_c n u g
  | 0, u, f, g => by show u 0 * (f 0 + g 0) = _; rw [Int.mul_add]; rfl
  | n + 1, u, f, g => by
    show u 0 * (f (n + 1) + g (n + 1)) + pz_c n (pz_tl u) (pz_add f g) = (u 0 * f (n + 1) + pz_c n (pz_tl u) f) + (u 0 * g (n + 1) + pz_c n (pz_tl u) g)
    rw [pz_c_addR n, Int.mul_add]
    omega
theorem pz_c_scL : ∀ (n : Nat) (c : Int) (u f : pz_P), pz_c n (pz_sc c u) f = c * pz_c n u f
  | 0, c, u, f => by show c * u 0 * f 0 = _; rw [Int.mul_assoc]; rfl
  | n + 1, c, u, f => by
    show c * u 0 * f (n + 1) + pz_c n (pz_sc c (pz_tl u)) f = c * (u 0 * f (n + 1) + pz_c n (pz_tl u) f)
    rw [pz_c_scL n, Int.mul_add, Int.mul_assoc]
theorem pz_c_scR : ∀ (n : Nat) (c : Int) (u f : pz_P), pz_c n u (pz_sc c f) = c * pz_c n u f
  | 0, c, u, f => by show u 0 * (c * f 0) = c * (u 0 * f 0); rw [Int.mul_left_comm]
  | n + 1, c, u, f => by
    show u 0 * (c * f (n + 1)) + pz_c n (pz_tl u) (pz_sc c f) = c * (u 0 * f (n + 1) + pz_c n (pz_tl u) f)
    rw [pz_c_scR n, Int.mul_add, Int.mul_left_comm]
theorem pz_c_zeroL : ∀ (n : Nat) (u f : pz_P), (∀ i, u i = 0) → pz_c n u f = 0
  | 0, u, f, h => by show u 0 * f 0 = 0; rw [h 0, Int.zero_mul]
  | n + 1, u, f, h => by
    show u 0 * f (n + 1) + pz_c n (pz_tl u) f = 0
    rw [h 0, Int.zero_mul, pz_c_zeroL n (pz_tl u) f (fun i => h (i + 1))]
    rfl
theorem pz_c_congrL {n : Nat} {u v : pz_P} (f : pz_P) (h : u = v) : pz_c n u f = pz_c n v f := by rw [h]
theorem pz_tl_mul (u v : pz_P) : pz_tl (pz_mul u v) = pz_add (pz_sc (u 0) (pz_tl v)) (pz_mul (pz_tl u) v) := by
  funext n
  show u 0 * v (n + 1) + pz_c n (pz_tl u) v = u 0 * v (n + 1) + pz_c n (pz_tl u) v
  rfl
theorem pz_c_assoc : ∀ (n : Nat) (u v f : pz_P), pz_c n (pz_mul u v) f = pz_c n u (pz_mul v f)
  | 0, u, v, f => by show u 0 * v 0 * f 0 = u 0 * (v 0 * f 0); rw [Int.mul_assoc]
  | n + 1, u, v, f => by
    show (u 0 * v 0) * f (n + 1) + pz_c n (pz_tl (pz_mul u v)) f = u 0 * (v 0 * f (n + 1) + pz_c n (pz_tl v) f) + pz_c n (pz_tl u) (pz_mul v f)
    rw [pz_tl_mul, pz_c_addL, pz_c_scL, pz_c_assoc n, Int.mul_add, Int.mul_assoc]
    omega
theorem pz_mul_assoc (u v f : pz_P) : pz_mul (pz_mul u v) f = pz_mul u (pz_mul v f) := funext fun n => pz_c_assoc n u v f
theorem pz_mul_addL (u v f : pz_P) : pz_mul (pz_add u v) f = pz_add (pz_mul u f) (pz_mul v f) := funext fun n => pz_c_addL n u v f
theorem pz_mul_addR (u f g : pz_P) : pz_mul u (pz_add f g) = pz_add (pz_mul u f) (pz_mul u g) := funext fun n => pz_c_addR n u f g
theorem pz_mul_scL (c : Int) (u f : pz_P) : pz_mul (pz_sc c u) f = pz_sc c (pz_mul u f) := funext fun n => pz_c_scL n c u f
theorem pz_mul_scR (c : Int) (u f : pz_P) : pz_mul u (pz_sc c f) = pz_sc c (pz_mul u f) := funext fun n => pz_c_scR n c u f
/-- no coefficient from the place d on -/
def pz_lt (u : pz_P) (d : Nat) : Prop := ∀ i, d ≤ i → u i = 0
theorem pz_lt.mono {u : pz_P} {d e : Nat} (h : pz_lt u d) (hd : d ≤ e) : pz_lt u e := fun i hi => h i (by omega)
theorem pz_lt.add {u v : pz_P} {d : Nat} (h : pz_lt u d) (k : pz_lt v d) : pz_lt (pz_add u v) d := fun i hi => by
  show u i + v i = 0
  rw [h i hi, k i hi]
  rfl
theorem pz_lt.sc {u : pz_P} {d : Nat} (h : pz_lt u d) (c : Int) : pz_lt (pz_sc c u) d := fun i hi => by
  show c * u i = 0
  rw [h i hi, Int.mul_zero]
/-- products: the degrees add up (both one above the degree) -/
theorem pz_c_lt : ∀ (a n : Nat) (u f : pz_P) (b : Nat), pz_lt u a → pz_lt f b → a + b ≤ n + 1 → pz_c n u f = 0
  | 0, n, u, f, b, hu, hf, h => pz_c_zeroL n u f (fun i => hu i (Nat.zero_le _))
  | a + 1, 0, u, f, b, hu, hf, h => by
    show u 0 * f 0 = 0
    rw [hf 0 (by omega), Int.mul_zero]
  | a + 1, n + 1, u, f, b, hu, hf, h => by
    show u 0 * f (n + 1) + pz_c n (pz_tl u) f = 0
    rw [hf (n + 1) (by omega), Int.mul_zero, pz_c_lt a n (pz_tl u) f b (fun i hi => hu (i + 1) (by omega)) hf (by omega)]
    rfl
theorem pz_lt.mul {u f : pz_P} {a b c : Nat} (hu : pz_lt u a) (hf : pz_lt f b) (h : a + b ≤ c + 1) : pz_lt (pz_mul u f) c := fun n hn => pz_c_lt a n u f b hu hf (by omega)
theorem pz_lt.zero (u : pz_P) (h : pz_lt u 0) : u = pz_0 := funext fun i => h i (Nat.zero_le _)
/-- the leading coefficient of a product -/
theorem pz_c_lead : ∀ (a : Nat) (u f : pz_P) (b : Nat), pz_lt u (a + 1) → pz_lt f (b + 1) → pz_c (a + b) u f = u a * f b
  | 0, u, f, b, hu, hf => by
    cases b with
    | zero => rfl
    | succ b =>
      show pz_c (0 + (b + 1)) u f = _
      rw [Nat.zero_add]
      show u 0 * f (b + 1) + pz_c b (pz_tl u) f = u 0 * f (b + 1)
      rw [pz_c_zeroL b (pz_tl u) f (fun i => hu (i + 1) (by omega))]
      omega
  | a + 1, u, f, b, hu, hf => by
    rw [show a + 1 + b = (a + b) + 1 by omega]
    show u 0 * f (a + b + 1) + pz_c (a + b) (pz_tl u) f = u (a + 1) * f b
    rw [hf (a + b + 1) (by omega), pz_c_lead a (pz_tl u) f b (fun i hi => hu (i + 1) (by omega)) hf]
    show u 0 * 0 + u (a + 1) * f b = _
    omega
/-- a factor of a product of a low degree is of a low degree -/
theorem pz_deg_of {f : pz_P} {b : Nat} (hf : pz_lt f (b + 1)) (hb : f b ≠ 0) (k : Nat) : ∀ (a : Nat) (u : pz_P), pz_lt u a → pz_lt (pz_mul u f) (k + b) → pz_lt u k
  | 0, u, hu, h => hu.mono (by omega)
  | a + 1, u, hu, h => by
    by_cases hk : a + 1 ≤ k
    · exact hu.mono hk
    · have h1 : pz_mul u f (a + b) = 0 := h (a + b) (by omega)
      have h2 : pz_mul u f (a + b) = u a * f b := pz_c_lead a u f b hu hf
      rw [h2] at h1
      have h3 : u a = 0 := by
        rcases Int.mul_eq_zero.mp h1 with q | q
        · exact q
        · exact absurd q hb
      refine pz_deg_of hf hb k a u (fun i hi => ?_) h
      by_cases e : i = a
      · rw [e]; exact h3
      · exact hu i (by omega)
/-! Few equations in many unknowns have a small solution. -/
theorem pz_hole : ∀ (m n : Nat) (f : Nat → Nat), m < n → (∀ i, i < n → f i < m) → ∃ i j, i < j ∧ j < n ∧ f i = f j
  | 0, n, f, h, hf => by
    have := hf 0 (by omega)
    omega
  | m + 1, 0, f, h, hf => by omega
  | m + 1, n + 1, f, h, hf => by
    by_cases hc : ∃ i, i < n ∧ f i = f n
    · obtain ⟨i, h1, h2⟩ := hc
      exact ⟨i, n, h1, by omega, h2⟩
    · have hne : ∀ i, i < n → f i ≠ f n := fun i hi e => hc ⟨i, hi, e⟩
      obtain ⟨i, j, h1, h2, h3⟩ := pz_hole m n (fun i => if f i = m then f n else f i) (by omega) (fun i hi => by
        have k1 := hf i (by omega)
        have k2 := hf n (by omega)
        have k3 := hne i hi
        show (if f i = m then f n else f i) < m
        split <;> omega)
      have k1 := hne i (by omega)
      have k2 := hne j (by omega)
      refine ⟨i, j, h1, by omega, ?_⟩
      have h3 : (if f i = m then f n else f i) = (if f j = m then f n else f j) := h3
      split at h3 <;> split at h3 <;> omega
/-- a row of naturals below K as one number -/
def pz_code (K : Nat) : Nat → (Nat → Nat) → Nat
  | 0, _ => 0
  | n + 1, y => y 0 + K * pz_code K n (fun i => y (i + 1))
theorem pz_code_lt {K : Nat} (hK : 1 ≤ K) : ∀ (n : Nat) (y : Nat → Nat), (∀ i, i < n → y i < K) → pz_code K n y < K ^ n
  | 0, y, h => by show 0 < K ^ 0; rw [Nat.pow_zero]; omega
  | n + 1, y, h => by
    have h1 := pz_code_lt hK n (fun i => y (i + 1)) (fun i hi => h (i + 1) (by omega))
    have h2 := h 0 (by omega)
    show y 0 + K * pz_code K n (fun i => y (i + 1)) < K ^ (n + 1)
    rw [Nat.pow_succ, Nat.mul_comm (K ^ n) K]
    have h3 : K * (pz_code K n (fun i => y (i + 1)) + 1) ≤ K * K ^ n := Nat.mul_le_mul_left K h1
    rw [Nat.mul_add] at h3
    omega
theorem pz_code_eq {K : Nat} : ∀ (n : Nat) (y z : Nat → Nat), (∀ i, i < n → y i < K) → (∀ i, i < n → z i < K) → pz_code K n y = pz_code K n z → ∀ i, i < n → y i = z i
  | 0, y, z, hy, hz, h, i, hi => by omega
  | n + 1, y, z, hy, hz, h, i, hi => by
    have h : y 0 + K * pz_code K n (fun i => y (i + 1)) = z 0 + K * pz_code K n (fun i => z (i + 1)) := h
    have a := hy 0 (by omega)
    have b := hz 0 (by omega)
    have m1 : (y 0 + K * pz_code K n (fun i => y (i + 1))) % K = y 0 := by rw [Nat.add_mul_mod_self_left, Nat.mod_eq_of_lt a]
    have m2 : (z 0 + K * pz_code K n (fun i => z (i + 1))) % K = z 0 := by rw [Nat.add_mul_mod_self_left, Nat.mod_eq_of_lt b]
    have e0 : y 0 = z 0 := by rw [← m1, h, m2]
    cases i with
    | zero => exact e0
    | succ i =>
      have h4 : K * pz_code K n (fun i => y (i + 1)) = K * pz_code K n (fun i => z (i + 1)) := by omega
      have h5 := Nat.eq_of_mul_eq_mul_left (by omega) h4
      exact pz_code_eq n _ _ (fun i hi => hy (i + 1) (by omega)) (fun i hi => hz (i + 1) (by omega)) h5 i (by omega)
/-- a number's digits -/
theorem pz_digs {B : Nat} (hB : 1 ≤ B) : ∀ (n t s : Nat), t < B ^ n → s < B ^ n → (∀ i, i < n → t / B ^ i % B = s / B ^ i % B) → t = s
  | 0, t, s, h1, h2, _ => by rw [Nat.pow_zero] at h1 h2; omega
  | n + 1, t, s, h1, h2, h => by
    rw [Nat.pow_succ, Nat.mul_comm] at h1 h2
    have e0 := h 0 (by omega)
    rw [Nat.pow_zero, Nat.div_one, Nat.div_one] at e0
    have e1 := pz_digs hB n (t / B) (s / B) (Nat.div_lt_of_lt_mul h1) (Nat.div_lt_of_lt_mul h2) (fun i hi => by
      have := h (i + 1) (by omega)
      rw [Nat.pow_succ, Nat.mul_comm] at this
      rw [Nat.div_div_eq_div_mul, Nat.div_div_eq_div_mul]
      exact this)
    have d1 := Nat.div_add_mod t B
    have d2 := Nat.div_add_mod s B
    rw [e1, e0] at d1
    omega
/-- a sum of products -/
def pz_dot : Nat → pz_P → pz_P → Int
  | 0, _, _ => 0
  | n + 1, a, x => a 0 * x 0 + pz_dot n (pz_tl a) (pz_tl x)
theorem pz_dot_sub : ∀ (n : Nat) (a x y : pz_P), pz_dot n a (fun i => x i - y i) = pz_dot n a x - pz_dot n a y
  | 0, a, x, y => rfl
  | n + 1, a, x, y => by
    show a 0 * (x 0 - y 0) + pz_dot n (pz_tl a) (fun i => pz_tl x i - pz_tl y i) = (a 0 * x 0 + pz_dot n (pz_tl a) (pz_tl x)) - (a 0 * y 0 + pz_dot n (pz_tl a) (pz_tl y))
    rw [pz_dot_sub n, Int.mul_sub]
    omega
theorem pz_dot_abs {A U : Nat} : ∀ (n : Nat) (a x : pz_P), (∀ i, i < n → (a i).natAbs ≤ A) → (∀ i, i < n → (x i).natAbs ≤ U) → (pz_dot n a x).natAbs ≤ n * (A * U)
  | 0, a, x, _, _ => by show (0 : Int).natAbs ≤ _; exact Nat.zero_le _
  | n + 1, a, x, ha, hx => by
    have h1 := pz_dot_abs n (pz_tl a) (pz_tl x) (fun i hi => ha (i + 1) (by omega)) (fun i hi => hx (i + 1) (by omega))
    have h2 : (a 0 * x 0).natAbs ≤ A * U := by
      rw [Int.natAbs_mul]
      exact Nat.mul_le_mul (ha 0 (by omega)) (hx 0 (by omega))
    have h3 := Int.natAbs_add_le (a 0 * x 0) (pz_dot n (pz_tl a) (pz_tl x))
    show (a 0 * x 0 + pz_dot n (pz_tl a) (pz_tl x)).natAbs ≤ (n + 1) * (A * U)
    rw [Nat.add_mul, Nat.one_mul]
    omega
theorem pz_dot_congr : ∀ (n : Nat) (a b x : pz_P), (∀ i, i < n → a i = b i) → pz_dot n a x = pz_dot n b x
  | 0, _, _, _, _ => rfl
  | n + 1, a, b, x, h => by
    show a 0 * x 0 + pz_dot n (pz_tl a) (pz_tl x) = b 0 * x 0 + pz_dot n (pz_tl b) (pz_tl x)
    rw [h 0 (by omega), pz_dot_congr n (pz_tl a) (pz_tl b) _ (fun i hi => h (i + 1) (by omega))]
theorem pz_dot_congrR : ∀ (n : Nat) (a x y : pz_P), (∀ i, i < n → x i = y i) → pz_dot n a x = pz_dot n a y
  | 0, _, _, _, _ => rfl
  | n + 1, a, x, y, h => by
    show a 0 * x 0 + pz_dot n (pz_tl a) (pz_tl x) = a 0 * y 0 + pz_dot n (pz_tl a) (pz_tl y)
    rw [h 0 (by omega), pz_dot_congrR n (pz_tl a) (pz_tl x) (pz_tl y) (fun i hi => h (i + 1) (by omega))]
theorem pz_dot_zero : ∀ (n : Nat) (a x : pz_P), (∀ i, i < n → a i * x i = 0) → pz_dot n a x = 0
  | 0, _, _, _ => rfl
  | n + 1, a, x, h => by
    show a 0 * x 0 + pz_dot n (pz_tl a) (pz_tl x) = 0
    rw [h 0 (by omega), pz_dot_zero n (pz_tl a) (pz_tl x) (fun i hi => h (i + 1) (by omega))]
    rfl
theorem pz_dot_split : ∀ (p q : Nat) (a x : pz_P), pz_dot (p + q) a x = pz_dot p a x + pz_dot q (fun i => a (p + i)) (fun i => x (p + i))
  | 0, q, a, x => by
    rw [Nat.zero_add]
    have e1 : (fun i => a (0 + i)) = a := funext fun i => by rw [Nat.zero_add]
    have e2 : (fun i => x (0 + i)) = x := funext fun i => by rw [Nat.zero_add]
    rw [e1, e2]
    show _ = 0 + _
    omega
  | p + 1, q, a, x => by
    rw [show p + 1 + q = (p + q) + 1 by omega]
    show a 0 * x 0 + pz_dot (p + q) (pz_tl a) (pz_tl x) = (a 0 * x 0 + pz_dot p (pz_tl a) (pz_tl x)) + pz_dot q (fun i => a (p + 1 + i)) (fun i => x (p + 1 + i))
    rw [pz_dot_split p q (pz_tl a) (pz_tl x)]
    have e1 : (fun i => a (p + 1 + i)) = (fun i => pz_tl a (p + i)) := funext fun i => by show a (p + 1 + i) = a (p + i + 1); rw [show p + 1 + i = p + i + 1 by omega]
    have e2 : (fun i => x (p + 1 + i)) = (fun i => pz_tl x (p + i)) := funext fun i => by show x (p + 1 + i) = x (p + i + 1); rw [show p + 1 + i = p + i + 1 by omega]
    rw [e1, e2]
    omega
theorem pz_siegel {M N A : Nat} (a : Nat → pz_P) (hA : ∀ m i, m < M → i < N → (a m i).natAbs ≤ A) (hMN : M < N) (hA1 : 1 ≤ A) : ∃ x : pz_P, (∀ i, (x i).natAbs ≤ (2 * N * A) ^ M) ∧ (∀ i, N ≤ i → x i = 0) ∧ (∃ i, i < N ∧ x i ≠ 0) ∧ ∀ m, m < M → pz_dot N (a m) x = 0 := by
  generalize hU : (2 * N * A) ^ M = U
  generalize hT : N * (A * U) = T
  -- the codes of all outputs
  have hK : (2 * T + 1) ^ M < (U + 1) ^ N := by
    have h1 : 2 * T + 1 ≤ (2 * N * A) * (U + 1) := by
      have eT : T = N * A * U := by rw [← hT, Nat.mul_assoc]
      have h2 : 1 ≤ N * A := Nat.mul_le_mul (show 1 ≤ N by omega) hA1
      rw [Nat.mul_assoc 2 N A, eT]
      generalize N * A = P at h2 ⊢
      have e2 : 2 * P * (U + 1) = 2 * (P * U) + 2 * P := by rw [Nat.mul_add, Nat.mul_one, Nat.mul_assoc]
      omega
    have h2 : (2 * T + 1) ^ M ≤ U * (U + 1) ^ M := by
      have h3 := Nat.pow_le_pow_left h1 M
      rw [Nat.mul_pow, hU] at h3
      exact h3
    have h4 : (U + 1) ^ (M + 1) ≤ (U + 1) ^ N := Nat.pow_le_pow_right (by omega) hMN
    have h5 : 0 < (U + 1) ^ M := Nat.pow_pos (by omega)
    rw [Nat.pow_succ, Nat.mul_comm, Nat.add_mul, Nat.one_mul] at h4
    omega
  have hbd : ∀ t m, m < M → (pz_dot N (a m) (fun i => ((t / (U + 1) ^ i % (U + 1) : Nat) : Int))).natAbs ≤ T := fun t m hm => by
    rw [← hT]
    refine pz_dot_abs N _ _ (fun i hi => hA m i hm hi) (fun i hi => ?_)
    have : t / (U + 1) ^ i % (U + 1) < U + 1 := Nat.mod_lt _ (by omega)
    show ((t / (U + 1) ^ i % (U + 1) : Nat) : Int).natAbs ≤ U
    omega
  have hY : ∀ t m, m < M → (pz_dot N (a m) (fun i => ((t / (U + 1) ^ i % (U + 1) : Nat) : Int)) + T).toNat < 2 * T + 1 := fun t m hm => by
    have := hbd t m hm
    omega
  obtain ⟨s, t, h1, h2, h3⟩ := pz_hole ((2 * T + 1) ^ M) ((U + 1) ^ N) (fun t => pz_code (2 * T + 1) M (fun m => (pz_dot N (a m) (fun i => ((t / (U + 1) ^ i % (U + 1) : Nat) : Int)) + T).toNat)) hK (fun t _ => pz_code_lt (by omega) M _ (fun m hm => hY t m hm))
  have h4 := pz_code_eq M _ _ (fun m hm => hY s m hm) (fun m hm => hY t m hm) h3
  have hdig : ∀ r i, r / (U + 1) ^ i % (U + 1) < U + 1 := fun r i => Nat.mod_lt _ (by omega)
  refine ⟨fun i => if i < N then ((t / (U + 1) ^ i % (U + 1) : Nat) : Int) - ((s / (U + 1) ^ i % (U + 1) : Nat) : Int) else 0, fun i => ?_, fun i hi => by show (if i < N then _ else (0 : Int)) = 0; rw [if_neg (by omega)], ?_, fun m hm => ?_⟩
  · have k1 := hdig t i
    have k2 := hdig s i
    show (if i < N then ((t / (U + 1) ^ i % (U + 1) : Nat) : Int) - ((s / (U + 1) ^ i % (U + 1) : Nat) : Int) else 0).natAbs ≤ U
    split <;> omega
  · by_cases hc : ∃ i, i < N ∧ t / (U + 1) ^ i % (U + 1) ≠ s / (U + 1) ^ i % (U + 1)
    · obtain ⟨i, k1, k2⟩ := hc
      refine ⟨i, k1, ?_⟩
      show (if i < N then ((t / (U + 1) ^ i % (U + 1) : Nat) : Int) - ((s / (U + 1) ^ i % (U + 1) : Nat) : Int) else 0) ≠ 0
      rw [if_pos k1]
      omega
    · have e : s = t := pz_digs (B := U + 1) (by omega) N s t (by omega) h2 (fun i hi => by
        by_cases e : s / (U + 1) ^ i % (U + 1) = t / (U + 1) ^ i % (U + 1)
        · exact e
        · exact absurd ⟨i, hi, fun q => e q.symm⟩ hc)
      omega
  · have k1 := h4 m hm
    have k2 := hbd s m hm
    have k3 := hbd t m hm
    have e1 : pz_dot N (a m) (fun i => if i < N then ((t / (U + 1) ^ i % (U + 1) : Nat) : Int) - ((s / (U + 1) ^ i % (U + 1) : Nat) : Int) else 0) = pz_dot N (a m) (fun i => ((t / (U + 1) ^ i % (U + 1) : Nat) : Int) - ((s / (U + 1) ^ i % (U + 1) : Nat) : Int)) := pz_dot_congrR N _ _ _ (fun i hi => by rw [if_pos hi])
    rw [e1, pz_dot_sub N (a m) (fun i => ((t / (U + 1) ^ i % (U + 1) : Nat) : Int)) (fun i => ((s / (U + 1) ^ i % (U + 1) : Nat) : Int))]
    omega
/-! The remainders of two polynomials without their contents are small. -/
theorem pz_c_dot : ∀ (n : Nat) (u f : pz_P), pz_c n u f = pz_dot (n + 1) (fun i => f (n - i)) u
  | 0, u, f => by
    show u 0 * f 0 = f 0 * u 0 + 0
    rw [Int.mul_comm]
    omega
  | n + 1, u, f => by
    show u 0 * f (n + 1) + pz_c n (pz_tl u) f = f (n + 1 - 0) * u 0 + pz_dot (n + 1) (pz_tl (fun i => f (n + 1 - i))) (pz_tl u)
    have e : pz_tl (fun i => f (n + 1 - i)) = fun i => f (n - i) := funext fun i => by show f (n + 1 - (i + 1)) = f (n - i); rw [show n + 1 - (i + 1) = n - i by omega]
    rw [e, pz_c_dot n, Int.mul_comm]
    rfl
def pz_mask (n : Nat) (f : pz_P) : pz_P := fun i => if i ≤ n then f (n - i) else 0
theorem pz_c_dotp {p : Nat} {u : pz_P} (hu : pz_lt u p) (n : Nat) (f : pz_P) : pz_c n u f = pz_dot p (pz_mask n f) u := by
  have h1 := pz_dot_split (n + 1) p (pz_mask n f) u
  have h2 := pz_dot_split p (n + 1) (pz_mask n f) u
  rw [show n + 1 + p = p + (n + 1) by omega, h2] at h1
  rw [pz_dot_zero (n + 1) (fun i => pz_mask n f (p + i)) (fun i => u (p + i)) (fun i _ => by show _ * u (p + i) = 0; rw [hu (p + i) (by omega), Int.mul_zero])] at h1
  rw [pz_dot_zero p (fun i => pz_mask n f (n + 1 + i)) (fun i => u (n + 1 + i)) (fun i _ => by show (if n + 1 + i ≤ n then f (n - (n + 1 + i)) else 0) * _ = 0; rw [if_neg (by omega), Int.zero_mul])] at h1
  rw [pz_dot_congr (n + 1) (pz_mask n f) (fun i => f (n - i)) u (fun i hi => by show (if i ≤ n then f (n - i) else 0) = _; rw [if_pos (by omega)])] at h1
  rw [pz_c_dot]
  omega
/-- two factors with small coefficients, so that M coefficients from the place j on are 0 -/
theorem pz_comb {f g : pz_P} {p q j M A : Nat} (hf : ∀ i, (f i).natAbs ≤ A) (hg : ∀ i, (g i).natAbs ≤ A) (hA : 1 ≤ A) (hM : M < p + q) : ∃ u v : pz_P, pz_lt u p ∧ pz_lt v q ∧ (∃ i, u i ≠ 0 ∨ v i ≠ 0) ∧ (∀ m, j ≤ m → m < j + M → pz_add (pz_mul u f) (pz_mul v g) m = 0) ∧ (∀ m, (pz_add (pz_mul u f) (pz_mul v g) m).natAbs ≤ (p + q) * (A * (2 * (p + q) * A) ^ M)) ∧ (∀ i, (u i).natAbs ≤ (2 * (p + q) * A) ^ M) ∧ (∀ i, (v i).natAbs ≤ (2 * (p + q) * A) ^ M) := by
  have hrow : ∀ n i, i < p + q → ((fun i => if i < p then pz_mask n f i else pz_mask n g (i - p)) i : Int).natAbs ≤ A := fun n i _ => by
    show (if i < p then (if i ≤ n then f (n - i) else 0) else (if i - p ≤ n then g (n - (i - p)) else 0)).natAbs ≤ A
    split
    · split
      · exact hf _
      · exact Nat.zero_le _
    · split
      · exact hg _
      · exact Nat.zero_le _
  obtain ⟨x, hx1, hx2, ⟨i0, hi0, hx3⟩, hx4⟩ := pz_siegel (M := M) (N := p + q) (A := A) (fun m i => if i < p then pz_mask (j + m) f i else pz_mask (j + m) g (i - p)) (fun m i _ hi => hrow (j + m) i hi) hM hA
  have hu : pz_lt (fun i => if i < p then x i else 0) p := fun i hi => by show (if i < p then x i else 0) = 0; rw [if_neg (by omega)]
  have hv : pz_lt (fun i => x (p + i)) q := fun i hi => hx2 (p + i) (by omega)
  have key : ∀ n, pz_add (pz_mul (fun i => if i < p then x i else 0) f) (pz_mul (fun i => x (p + i)) g) n = pz_dot (p + q) (fun i => if i < p then pz_mask n f i else pz_mask n g (i - p)) x := fun n => by
    show pz_c n (fun i => if i < p then x i else 0) f + pz_c n (fun i => x (p + i)) g = _
    rw [pz_c_dotp hu, pz_c_dotp hv, pz_dot_split]
    rw [pz_dot_congrR p (pz_mask n f) (fun i => if i < p then x i else 0) x (fun i hi => by rw [if_pos hi])]
    rw [pz_dot_congr p (fun i => if i < p then pz_mask n f i else pz_mask n g (i - p)) (pz_mask n f) x (fun i hi => by rw [if_pos hi])]
    rw [pz_dot_congr q (fun i => if p + i < p then pz_mask n f (p + i) else pz_mask n g (p + i - p)) (pz_mask n g) (fun i => x (p + i)) (fun i hi => by rw [if_neg (by omega), show p + i - p = i by omega])]
  refine ⟨fun i => if i < p then x i else 0, fun i => x (p + i), hu, hv, ?_, fun m h1 h2 => ?_, fun m => ?_, fun i => ?_, fun i => hx1 _⟩
  · by_cases c : i0 < p
    · exact ⟨i0, Or.inl (by show (if i0 < p then x i0 else 0) ≠ 0; rw [if_pos c]; exact hx3)⟩
    · exact ⟨i0 - p, Or.inr (by show x (p + (i0 - p)) ≠ 0; rw [show p + (i0 - p) = i0 by omega]; exact hx3)⟩
  · rw [key m]
    have := hx4 (m - j) (by omega)
    rw [show j + (m - j) = m by omega] at this
    exact this
  · rw [key m]
    exact pz_dot_abs (p + q) _ x (fun i hi => hrow m i hi) (fun i _ => hx1 i)
  · show (if i < p then x i else 0).natAbs ≤ _
    split
    · exact hx1 i
    · exact Nat.zero_le _
/-- what is made of f and g of a low degree is made of x and y -/
def pz_J (f g : pz_P) (df dg : Nat) (x y : pz_P) (dx dy : Nat) : Prop := ∀ e, e ≤ dy → ∀ u v : pz_P, pz_lt u (dg - e + 1) → pz_lt v (df - e + 1) → pz_lt (pz_add (pz_mul u f) (pz_mul v g)) e →
  ∃ (c : Int) (u' v' : pz_P), c ≠ 0 ∧ pz_sc c (pz_add (pz_mul u f) (pz_mul v g)) = pz_add (pz_mul u' x) (pz_mul v' y) ∧ pz_lt u' (dy - e + 1) ∧ pz_lt v' (dx - e + 1) ∧ (u' = pz_0 → v' = pz_0 → u = pz_0 ∧ v = pz_0)
theorem pz_sc_one (u : pz_P) : pz_sc 1 u = u := funext fun i => Int.one_mul _
theorem pz_J.start (f g : pz_P) (df dg : Nat) : pz_J f g df dg f g df dg := fun e he u v hu hv hw =>
  ⟨1, u, v, by decide, pz_sc_one _, hu, hv, fun a b => ⟨a, b⟩⟩
theorem pz_sc_0 {c : Int} (hc : c ≠ 0) {u : pz_P} (h : pz_sc c u = pz_0) : u = pz_0 := funext fun i => by
  have h1 : c * u i = 0 := congrFun h i
  rcases Int.mul_eq_zero.mp h1 with q | q
  · exact absurd q hc
  · exact q
theorem pz_mul_0L (f : pz_P) : pz_mul pz_0 f = pz_0 := funext fun n => pz_c_zeroL n _ f (fun _ => rfl)
theorem pz_J.step {f g x y r q : pz_P} {df dg dx dy dr : Nat} {c0 c2 : Int} (hJ : pz_J f g df dg x y dx dy) (hy : pz_lt y (dy + 1)) (hyl : y dy ≠ 0) (hr : pz_lt r (dr + 1)) (hrd : dr < dy) (hc0 : c0 ≠ 0) (hc2 : c2 ≠ 0) {nq : Nat} (hq : pz_lt q nq)
    (hrel : pz_sc c0 x = pz_add (pz_mul q y) (pz_sc c2 r)) : pz_J f g df dg y r dy dr := by
  intro e he u v hu hv hw
  obtain ⟨c, u', v', h1, h2, h3, h4, h5⟩ := hJ e (by omega) u v hu hv hw
  have hid : pz_sc (c0 * c) (pz_add (pz_mul u f) (pz_mul v g)) = pz_add (pz_mul (pz_add (pz_mul u' q) (pz_sc c0 v')) y) (pz_mul (pz_sc c2 u') r) := by
    have e1 : pz_sc (c0 * c) (pz_add (pz_mul u f) (pz_mul v g)) = pz_sc c0 (pz_sc c (pz_add (pz_mul u f) (pz_mul v g))) := funext fun i => Int.mul_assoc _ _ _
    rw [e1, h2]
    have e2 : pz_sc c0 (pz_add (pz_mul u' x) (pz_mul v' y)) = pz_add (pz_mul u' (pz_sc c0 x)) (pz_mul (pz_sc c0 v') y) := by
      rw [pz_mul_scR, pz_mul_scL]
      exact funext fun i => Int.mul_add _ _ _
    rw [e2, hrel, pz_mul_addR, pz_mul_addL, pz_mul_assoc, pz_mul_scR, pz_mul_scL c2]
    funext i
    show (pz_mul u' (pz_mul q y) i + pz_sc c2 (pz_mul u' r) i) + pz_mul (pz_sc c0 v') y i = (pz_mul u' (pz_mul q y) i + pz_mul (pz_sc c0 v') y i) + pz_sc c2 (pz_mul u' r) i
    omega
  have hv'' : pz_lt (pz_sc c2 u') (dy - e + 1) := h3.sc c2
  have hprod : pz_lt (pz_mul (pz_add (pz_mul u' q) (pz_sc c0 v')) y) (dr - e + 1 + dy) := fun i hi => by
    have k1 : pz_sc (c0 * c) (pz_add (pz_mul u f) (pz_mul v g)) i = 0 := (hw.sc _) i (by omega)
    have k2 : pz_mul (pz_sc c2 u') r i = 0 := (pz_lt.mul (c := dr - e + 1 + dy) hv'' hr (by omega)) i hi
    have k3 := congrFun hid i
    rw [k1] at k3
    have k4 : (0 : Int) = pz_mul (pz_add (pz_mul u' q) (pz_sc c0 v')) y i + pz_mul (pz_sc c2 u') r i := k3
    omega
  have hbig : pz_lt (pz_add (pz_mul u' q) (pz_sc c0 v')) (dy - e + 1 + nq + (dx - e + 1)) := pz_lt.add ((pz_lt.mul (c := dy - e + 1 + nq) h3 hq (by omega)).mono (by omega)) ((h4.sc c0).mono (by omega))
  refine ⟨c0 * c, pz_add (pz_mul u' q) (pz_sc c0 v'), pz_sc c2 u', fun h => ?_, hid, pz_deg_of hy hyl (dr - e + 1) _ _ hbig hprod, hv'', fun a b => ?_⟩
  · rcases Int.mul_eq_zero.mp h with k | k
    · exact hc0 k
    · exact h1 k
  · have k1 := pz_sc_0 hc2 b
    rw [k1, pz_mul_0L] at a
    have k2 : pz_sc c0 v' = pz_0 := by
      funext i
      have k3 : pz_0 i + pz_sc c0 v' i = 0 := congrFun a i
      have k4 : pz_0 i = 0 := rfl
      show pz_sc c0 v' i = 0
      omega
    exact h5 k1 (pz_sc_0 hc0 k2)
theorem pz_cd {m : Nat} {n : Int} : (m : Int) ∣ n ↔ m ∣ n.natAbs := by
  rw [← Int.natAbs_dvd_natAbs, Int.natAbs_natCast]
/-- no number but 1 and -1 divides all coefficients -/
def pz_prim (y : pz_P) : Prop := ∀ k : Nat, (∀ i, (k : Int) ∣ y i) → k = 1
theorem pz_prim_dvd {y : pz_P} (h : pz_prim y) {C z : Int} (hC : C ≠ 0) (hd : ∀ i, C ∣ z * y i) : C ∣ z := by
  have hg : 0 < Nat.gcd C.natAbs z.natAbs := Nat.gcd_pos_of_pos_left _ (by omega)
  have h1 : C.natAbs / Nat.gcd C.natAbs z.natAbs = 1 := by
    refine h _ (fun i => ?_)
    have k1 : C.natAbs ∣ z.natAbs * (y i).natAbs := by
      have := Int.natAbs_dvd_natAbs.mpr (hd i)
      rwa [Int.natAbs_mul] at this
    obtain ⟨c', hc'⟩ := Nat.gcd_dvd_left C.natAbs z.natAbs
    obtain ⟨z', hz'⟩ := Nat.gcd_dvd_right C.natAbs z.natAbs
    have hcop : Nat.Coprime (C.natAbs / Nat.gcd C.natAbs z.natAbs) (z.natAbs / Nat.gcd C.natAbs z.natAbs) := Nat.coprime_div_gcd_div_gcd hg
    have k2 : C.natAbs / Nat.gcd C.natAbs z.natAbs ∣ (z.natAbs / Nat.gcd C.natAbs z.natAbs) * (y i).natAbs := by
      obtain ⟨m, hm⟩ := k1
      refine ⟨m, ?_⟩
      have e1 : Nat.gcd C.natAbs z.natAbs * (C.natAbs / Nat.gcd C.natAbs z.natAbs) = C.natAbs := Nat.mul_div_cancel' (Nat.gcd_dvd_left _ _)
      have e2 : Nat.gcd C.natAbs z.natAbs * (z.natAbs / Nat.gcd C.natAbs z.natAbs) = z.natAbs := Nat.mul_div_cancel' (Nat.gcd_dvd_right _ _)
      refine Nat.eq_of_mul_eq_mul_left hg ?_
      rw [← Nat.mul_assoc, e2, ← Nat.mul_assoc, e1]
      exact hm
    have k3 := Nat.Coprime.dvd_of_dvd_mul_left hcop k2
    exact pz_cd.mpr k3
  have h2 : Nat.gcd C.natAbs z.natAbs = C.natAbs := by
    have e1 : Nat.gcd C.natAbs z.natAbs * (C.natAbs / Nat.gcd C.natAbs z.natAbs) = C.natAbs := Nat.mul_div_cancel' (Nat.gcd_dvd_left _ _)
    rw [h1, Nat.mul_one] at e1
    exact e1
  have h3 : C.natAbs ∣ z.natAbs := by
    rw [← h2]
    exact Nat.gcd_dvd_right _ _
  exact Int.natAbs_dvd_natAbs.mp h3
/-- the next remainder, if no number divides it, is small -/
theorem pz_bound {f g x y r q : pz_P} {df dg dx dy A : Nat} {c0 c2 : Int} (hf : ∀ i, (f i).natAbs ≤ A) (hg : ∀ i, (g i).natAbs ≤ A) (hA : 1 ≤ A) (hfd : pz_lt f (df + 1)) (hgd : pz_lt g (dg + 1)) (hJ : pz_J f g df dg x y dx dy) (hdx : dy ≤ dx) (hdf : dy ≤ df) (hdg : dy ≤ dg) (hy : pz_lt y (dy + 1)) (hyl : y dy ≠ 0) (hr : pz_lt r dy) (hc0 : c0 ≠ 0) (hc2 : c2 ≠ 0) {nq : Nat} (hq : pz_lt q nq)
    (hrel : pz_sc c0 x = pz_add (pz_mul q y) (pz_sc c2 r)) (hp : pz_prim r) : ∀ i, (r i).natAbs ≤ (df + dg - 2 * dy + 2) * (A * (2 * (df + dg - 2 * dy + 2) * A) ^ (df + dg - 2 * dy + 1)) := by
  obtain ⟨u, v, hu, hv, hne, hz, hb, -, -⟩ := pz_comb (f := f) (g := g) (p := dg - dy + 1) (q := df - dy + 1) (j := dy) (M := df + dg - 2 * dy + 1) (A := A) hf hg hA (by omega)
  have hw : pz_lt (pz_add (pz_mul u f) (pz_mul v g)) dy := fun i hi => by
    by_cases c : i < dy + (df + dg - 2 * dy + 1)
    · exact hz i hi c
    · have k1 : pz_mul u f i = 0 := (pz_lt.mul (c := df + dg - dy + 1) hu hfd (by omega)) i (by omega)
      have k2 : pz_mul v g i = 0 := (pz_lt.mul (c := df + dg - dy + 1) hv hgd (by omega)) i (by omega)
      show pz_mul u f i + pz_mul v g i = 0
      rw [k1, k2]
      rfl
  obtain ⟨c, u', v', h1, h2, h3, h4, h5⟩ := hJ dy (Nat.le_refl _) u v hu hv hw
  have hid : pz_sc (c0 * c) (pz_add (pz_mul u f) (pz_mul v g)) = pz_add (pz_mul (pz_add (pz_mul u' q) (pz_sc c0 v')) y) (pz_mul (pz_sc c2 u') r) := by
    have e1 : pz_sc (c0 * c) (pz_add (pz_mul u f) (pz_mul v g)) = pz_sc c0 (pz_sc c (pz_add (pz_mul u f) (pz_mul v g))) := funext fun i => Int.mul_assoc _ _ _
    rw [e1, h2]
    have e2 : pz_sc c0 (pz_add (pz_mul u' x) (pz_mul v' y)) = pz_add (pz_mul u' (pz_sc c0 x)) (pz_mul (pz_sc c0 v') y) := by
      rw [pz_mul_scR, pz_mul_scL]
      exact funext fun i => Int.mul_add _ _ _
    rw [e2, hrel, pz_mul_addR, pz_mul_addL, pz_mul_assoc, pz_mul_scR, pz_mul_scL c2]
    funext i
    show (pz_mul u' (pz_mul q y) i + pz_sc c2 (pz_mul u' r) i) + pz_mul (pz_sc c0 v') y i = (pz_mul u' (pz_mul q y) i + pz_mul (pz_sc c0 v') y i) + pz_sc c2 (pz_mul u' r) i
    omega
  have hconst : ∀ i, pz_mul (pz_sc c2 u') r i = c2 * u' 0 * r i := fun i => by
    have hl : pz_lt (pz_sc c2 u') 1 := (h3.mono (by omega)).sc c2
    cases i with
    | zero => rfl
    | succ i =>
      show c2 * u' 0 * r (i + 1) + pz_c i (pz_tl (pz_sc c2 u')) r = c2 * u' 0 * r (i + 1)
      rw [pz_c_zeroL i (pz_tl (pz_sc c2 u')) r (fun k => hl (k + 1) (by omega))]
      omega
  have hprod : pz_lt (pz_mul (pz_add (pz_mul u' q) (pz_sc c0 v')) y) (0 + dy) := fun i hi => by
    have k1 : pz_sc (c0 * c) (pz_add (pz_mul u f) (pz_mul v g)) i = 0 := (hw.sc _) i (by omega)
    have k2 : pz_mul (pz_sc c2 u') r i = 0 := by rw [hconst i, hr i (by omega), Int.mul_zero]
    have k3 := congrFun hid i
    rw [k1] at k3
    have k4 : (0 : Int) = pz_mul (pz_add (pz_mul u' q) (pz_sc c0 v')) y i + pz_mul (pz_sc c2 u') r i := k3
    omega
  have hbig : pz_lt (pz_add (pz_mul u' q) (pz_sc c0 v')) (1 + nq + (dx - dy + 1)) := pz_lt.add ((pz_lt.mul (a := 1) (c := 1 + nq) (h3.mono (by omega)) hq (by omega)).mono (by omega)) ((h4.sc c0).mono (by omega))
  have hzero := pz_lt.zero _ (pz_deg_of hy hyl 0 _ _ hbig hprod)
  have hmain : ∀ i, c0 * c * pz_add (pz_mul u f) (pz_mul v g) i = c2 * u' 0 * r i := fun i => by
    have k3 := congrFun hid i
    have k4 : c0 * c * pz_add (pz_mul u f) (pz_mul v g) i = pz_mul (pz_add (pz_mul u' q) (pz_sc c0 v')) y i + pz_mul (pz_sc c2 u') r i := k3
    rw [hzero, pz_mul_0L, hconst i] at k4
    have k5 : pz_0 i = 0 := rfl
    rw [k5] at k4
    omega
  have hC : c0 * c ≠ 0 := fun h => by
    rcases Int.mul_eq_zero.mp h with k | k
    · exact hc0 k
    · exact h1 k
  have hz0 : c2 * u' 0 ≠ 0 := fun h => by
    have k0 : u' 0 = 0 := by
      rcases Int.mul_eq_zero.mp h with k | k
      · exact absurd k hc2
      · exact k
    have k1 : u' = pz_0 := funext fun i => by
      cases i with
      | zero => exact k0
      | succ i => exact h3 (i + 1) (by omega)
    have k2 : v' = pz_0 := by
      rw [k1, pz_mul_0L] at hzero
      refine pz_sc_0 hc0 (funext fun i => ?_)
      have k3 : pz_0 i + pz_sc c0 v' i = 0 := congrFun hzero i
      have k4 : pz_0 i = 0 := rfl
      show pz_sc c0 v' i = 0
      omega
    obtain ⟨k3, k4⟩ := h5 k1 k2
    obtain ⟨i, k5 | k5⟩ := hne
    · exact k5 (congrFun k3 i)
    · exact k5 (congrFun k4 i)
  obtain ⟨t, ht⟩ := pz_prim_dvd hp hC (fun i => ⟨_, (hmain i).symm⟩)
  have ht0 : t ≠ 0 := fun h => by rw [h, Int.mul_zero] at ht; exact hz0 ht
  intro i
  have k1 : c0 * c * pz_add (pz_mul u f) (pz_mul v g) i = c0 * c * (t * r i) := by rw [hmain i, ht, Int.mul_assoc]
  have k2 := Int.eq_of_mul_eq_mul_left hC k1
  have k3 := hb i
  rw [k2, Int.natAbs_mul] at k3
  have k4 : 1 ≤ t.natAbs := by omega
  have k5 : (r i).natAbs ≤ t.natAbs * (r i).natAbs := by
    have := Nat.mul_le_mul_right (r i).natAbs k4
    omega
  have e3 : dg - dy + 1 + (df - dy + 1) = df + dg - 2 * dy + 2 := by omega
  rw [e3] at k3
  exact Nat.le_trans k5 k3
/-! Products of polynomials that no number divides; exact quotients. -/
theorem pz_pf : ∀ n : Nat, 2 ≤ n → ∃ p, 2 ≤ p ∧ p ∣ n ∧ ∀ m, m ∣ p → m = 1 ∨ m = p := by
  intro n
  induction n using Nat.strongRecOn with
  | ind n ih =>
    intro hn
    by_cases h : ∃ m, m ∣ n ∧ m ≠ 1 ∧ m ≠ n
    · obtain ⟨m, h1, h2, h3⟩ := h
      have h4 := Nat.le_of_dvd (by omega) h1
      have h5 : m ≠ 0 := fun e => by
        rw [e] at h1
        have := Nat.eq_zero_of_zero_dvd h1
        omega
      obtain ⟨p, k1, k2, k3⟩ := ih m (by omega) (by omega)
      exact ⟨p, k1, Nat.dvd_trans k2 h1, k3⟩
    · exact ⟨n, hn, Nat.dvd_refl n, fun m hm => by
        by_cases e : m = 1
        · exact Or.inl e
        · by_cases e2 : m = n
          · exact Or.inr e2
          · exact absurd ⟨m, hm, e, e2⟩ h⟩
theorem pz_pf_mul {p : Nat} (h2 : 2 ≤ p) (hp : ∀ m, m ∣ p → m = 1 ∨ m = p) {a b : Int} (h : (p : Int) ∣ a * b) : (p : Int) ∣ a ∨ (p : Int) ∣ b := by
  have h1 : p ∣ a.natAbs * b.natAbs := by
    have := pz_cd.mp h
    rwa [Int.natAbs_mul] at this
  rcases hp (Nat.gcd p a.natAbs) (Nat.gcd_dvd_left _ _) with e | e
  · right
    have : Nat.Coprime p a.natAbs := e
    exact pz_cd.mpr (Nat.Coprime.dvd_of_dvd_mul_left this h1)
  · left
    refine pz_cd.mpr ?_
    rw [← e]
    exact Nat.gcd_dvd_right _ _
theorem pz_c_dvdR {k : Int} : ∀ (n : Nat) (u f : pz_P), (∀ i, i ≤ n → k ∣ f i) → k ∣ pz_c n u f
  | 0, u, f, h => Int.dvd_trans (h 0 (Nat.le_refl _)) (Int.dvd_mul_left _ _)
  | n + 1, u, f, h => Int.dvd_add (Int.dvd_trans (h (n + 1) (Nat.le_refl _)) (Int.dvd_mul_left _ _)) (pz_c_dvdR n (pz_tl u) f (fun i hi => h i (by omega)))
theorem pz_c_low {k : Int} : ∀ (i : Nat) (u f : pz_P) (j : Nat), (∀ a, a < i → k ∣ u a) → (∀ b, b < j → k ∣ f b) → k ∣ pz_c (i + j) u f - u i * f j
  | 0, u, f, 0, hu, hf => ⟨0, by show u 0 * f 0 - u 0 * f 0 = k * 0; omega⟩
  | 0, u, f, j + 1, hu, hf => by
    rw [Nat.zero_add]
    show k ∣ u 0 * f (j + 1) + pz_c j (pz_tl u) f - u 0 * f (j + 1)
    rw [show u 0 * f (j + 1) + pz_c j (pz_tl u) f - u 0 * f (j + 1) = pz_c j (pz_tl u) f by omega]
    exact pz_c_dvdR j (pz_tl u) f (fun b hb => hf b (by omega))
  | i + 1, u, f, j, hu, hf => by
    rw [show i + 1 + j = (i + j) + 1 by omega]
    show k ∣ u 0 * f (i + j + 1) + pz_c (i + j) (pz_tl u) f - u (i + 1) * f j
    have h1 := pz_c_low i (pz_tl u) f j (fun a ha => hu (a + 1) (by omega)) hf
    have h2 : k ∣ u 0 * f (i + j + 1) := Int.dvd_trans (hu 0 (by omega)) (Int.dvd_mul_right _ _)
    have h3 := Int.dvd_add h2 h1
    have e : u 0 * f (i + j + 1) + (pz_c (i + j) (pz_tl u) f - pz_tl u i * f j) = u 0 * f (i + j + 1) + pz_c (i + j) (pz_tl u) f - u (i + 1) * f j := by
      show u 0 * f (i + j + 1) + (pz_c (i + j) (pz_tl u) f - u (i + 1) * f j) = _
      omega
    rwa [e] at h3
/-- the first place where p does not divide -/
theorem pz_first {p : Nat} {u : pz_P} (h : ∃ i, ¬ (p : Int) ∣ u i) : ∃ i, ¬ (p : Int) ∣ u i ∧ ∀ a, a < i → (p : Int) ∣ u a := by
  obtain ⟨i, hi⟩ := h
  induction i using Nat.strongRecOn with
  | ind i ih =>
    by_cases c : ∃ a, a < i ∧ ¬ (p : Int) ∣ u a
    · obtain ⟨a, h1, h2⟩ := c
      exact ih a h1 h2
    · exact ⟨i, hi, fun a ha => by
        by_cases e : (p : Int) ∣ u a
        · exact e
        · exact absurd ⟨a, ha, e⟩ c⟩
theorem pz_prim_not {u : pz_P} (h : pz_prim u) {p : Nat} (hp : p ≠ 1) : ∃ i, ¬ (p : Int) ∣ u i := by
  by_cases c : ∃ i, ¬ (p : Int) ∣ u i
  · exact c
  · exact absurd (h p (fun i => by
      by_cases e : (p : Int) ∣ u i
      · exact e
      · exact absurd ⟨i, e⟩ c)) hp
theorem pz_prim.mul {u v : pz_P} (hu : pz_prim u) (hv : pz_prim v) : pz_prim (pz_mul u v) := by
  intro k hk
  by_cases h1 : k = 1
  · exact h1
  · exfalso
    have hpk : ∃ p, 2 ≤ p ∧ p ∣ k ∧ ∀ m, m ∣ p → m = 1 ∨ m = p := by
      by_cases h0 : k = 0
      · obtain ⟨p, a, b, c⟩ := pz_pf 2 (Nat.le_refl _)
        exact ⟨p, a, by rw [h0]; exact Nat.dvd_zero _, c⟩
      · exact pz_pf k (by omega)
    obtain ⟨p, p2, pk, pp⟩ := hpk
    obtain ⟨i, a1, a2⟩ := pz_first (pz_prim_not hu (p := p) (by omega))
    obtain ⟨j, b1, b2⟩ := pz_first (pz_prim_not hv (p := p) (by omega))
    have c1 := pz_c_low i u v j a2 b2
    have c2 : (p : Int) ∣ pz_c (i + j) u v := Int.dvd_trans (Int.natCast_dvd_natCast.mpr pk) (hk (i + j))
    have c3 : (p : Int) ∣ u i * v j := by
      have := Int.dvd_sub c2 c1
      have e : pz_c (i + j) u v - (pz_c (i + j) u v - u i * v j) = u i * v j := by omega
      rwa [e] at this
    rcases pz_pf_mul p2 pp c3 with q | q
    · exact a1 q
    · exact b1 q
/-- a polynomial that is not 0: a number times one that no number divides -/
theorem pz_content : ∀ (N : Nat) (u : pz_P) (i : Nat), u i ≠ 0 → (u i).natAbs ≤ N → ∃ (t : Nat) (u' : pz_P), t ≠ 0 ∧ u = pz_sc t u' ∧ pz_prim u'
  | 0, u, i, h, hN => by omega
  | N + 1, u, i, h, hN => by
    by_cases c : pz_prim u
    · exact ⟨1, u, by decide, (pz_sc_one u).symm, c⟩
    · have h1 : ∃ k : Nat, (∀ i, (k : Int) ∣ u i) ∧ k ≠ 1 := by
        by_cases e : ∃ k : Nat, (∀ i, (k : Int) ∣ u i) ∧ k ≠ 1
        · exact e
        · exact absurd (fun k hk => by
            by_cases e2 : k = 1
            · exact e2
            · exact absurd ⟨k, hk, e2⟩ e) c
      obtain ⟨k, k1, k2⟩ := h1
      have hk0 : k ≠ 0 := fun e => by
        rw [e] at k1
        exact h (Int.zero_dvd.mp (k1 i))
      have hdiv : ∀ j, (k : Int) * (u j / k) = u j := fun j => Int.mul_ediv_cancel' (k1 j)
      have hi : u i / k ≠ 0 := fun e => by
        have := hdiv i
        rw [e, Int.mul_zero] at this
        exact h this.symm
      have hlt : (u i / k).natAbs ≤ N := by
        have e1 := congrArg Int.natAbs (hdiv i)
        rw [Int.natAbs_mul, Int.natAbs_natCast] at e1
        have e2 : 1 ≤ (u i / k).natAbs := by omega
        have e3 : 2 * (u i / k).natAbs ≤ k * (u i / k).natAbs := Nat.mul_le_mul_right _ (by omega)
        omega
      obtain ⟨t, u', t0, t1, t2⟩ := pz_content N (fun j => u j / k) i hi hlt
      refine ⟨k * t, u', Nat.mul_ne_zero hk0 t0, funext fun j => ?_, t2⟩
      have e1 := congrFun t1 j
      have e2 : u j / k = (t : Int) * u' j := e1
      show u j = ((k * t : Nat) : Int) * u' j
      rw [← hdiv j, e2, Int.natCast_mul, Int.mul_assoc]
/-- a quotient by a polynomial that no number divides has whole coefficients -/
theorem pz_exact {X T G : pz_P} {c : Int} (hc : c ≠ 0) (hG : pz_prim G) (h : pz_sc c X = pz_mul T G) : ∃ S : pz_P, T = pz_sc c S ∧ X = pz_mul S G := by
  have fin : ∀ S : pz_P, T = pz_sc c S → X = pz_mul S G := fun S e => by
    rw [e, pz_mul_scL] at h
    exact funext fun i => Int.eq_of_mul_eq_mul_left hc (congrFun h i)
  by_cases h0 : ∃ i, T i ≠ 0
  · obtain ⟨i, hi⟩ := h0
    obtain ⟨t, T', t0, t1, t2⟩ := pz_content _ T i hi (Nat.le_refl _)
    have h2 : c ∣ (t : Int) := pz_prim_dvd (t2.mul hG) hc (fun i => ⟨X i, by
      have := congrFun h i
      rw [t1, pz_mul_scL] at this
      exact this.symm⟩)
    obtain ⟨s, hs⟩ := h2
    have e : T = pz_sc c (pz_sc s T') := by
      rw [t1, hs]
      exact funext fun i => Int.mul_assoc _ _ _
    exact ⟨_, e, fin _ e⟩
  · have e : T = pz_sc c pz_0 := funext fun i => by
      show T i = c * 0
      rw [Int.mul_zero]
      by_cases q : T i = 0
      · exact q
      · exact absurd ⟨i, q⟩ h0
    exact ⟨pz_0, e, fin _ e⟩
/-- what divides the later two divides the first, but for a number -/
def pz_D (f x y : pz_P) : Prop := ∀ G : pz_P, (∃ (c : Int) (T : pz_P), c ≠ 0 ∧ pz_sc c x = pz_mul T G) → (∃ (c : Int) (T : pz_P), c ≠ 0 ∧ pz_sc c y = pz_mul T G) → ∃ (c : Int) (T : pz_P), c ≠ 0 ∧ pz_sc c f = pz_mul T G
theorem pz_D.start (f g : pz_P) : pz_D f f g := fun _ h _ => h
theorem pz_D.start2 (f g : pz_P) : pz_D g f g := fun _ _ h => h
theorem pz_sc_sc (a b : Int) (u : pz_P) : pz_sc a (pz_sc b u) = pz_sc (a * b) u := funext fun i => (Int.mul_assoc _ _ _).symm
theorem pz_D.step {f x y r q : pz_P} {c0 c2 : Int} (h : pz_D f x y) (hc0 : c0 ≠ 0) (hrel : pz_sc c0 x = pz_add (pz_mul q y) (pz_sc c2 r)) : pz_D f y r := by
  intro G hy hr
  obtain ⟨a, T, a0, a1⟩ := hy
  obtain ⟨b, S, b0, b1⟩ := hr
  refine h G ⟨b * (a * c0), pz_add (pz_sc b (pz_mul q T)) (pz_sc (a * c2) S), fun e => ?_, ?_⟩ ⟨a, T, a0, a1⟩
  · rcases Int.mul_eq_zero.mp e with k | k
    · exact b0 k
    · rcases Int.mul_eq_zero.mp k with k | k
      · exact a0 k
      · exact hc0 k
  · have e1 : pz_sc (b * (a * c0)) x = pz_sc (b * a) (pz_sc c0 x) := by rw [pz_sc_sc, Int.mul_assoc]
    rw [e1, hrel, pz_mul_addL, pz_mul_scL, pz_mul_scL, ← b1, pz_mul_assoc, ← a1, pz_mul_scR]
    funext i
    show b * a * (pz_mul q y i + c2 * r i) = b * (a * pz_mul q y i) + a * c2 * (b * r i)
    rw [Int.mul_add, Int.mul_assoc]
    congr 1
    rw [← Int.mul_assoc, ← Int.mul_assoc]
    congr 1
    rw [Int.mul_comm b a, Int.mul_assoc, Int.mul_assoc, Int.mul_comm b c2]
/-! Values; a polynomial with small values at many places has small coefficients; so has a factor. -/
def pz_ev : Nat → pz_P → Int → Int
  | 0, _, _ => 0
  | n + 1, p, x => p 0 + x * pz_ev n (pz_tl p) x
theorem pz_ev_zero : ∀ (n : Nat) (p : pz_P) (x : Int), (∀ i, p i = 0) → pz_ev n p x = 0
  | 0, _, _, _ => rfl
  | n + 1, p, x, h => by
    show p 0 + x * pz_ev n (pz_tl p) x = 0
    rw [h 0, pz_ev_zero n (pz_tl p) x (fun i => h (i + 1)), Int.mul_zero]
    rfl
theorem pz_ev_more : ∀ (n k : Nat) (p : pz_P) (x : Int), pz_lt p n → pz_ev (n + k) p x = pz_ev n p x
  | 0, k, p, x, h => pz_ev_zero _ p x (fun i => h i (Nat.zero_le _))
  | n + 1, k, p, x, h => by
    rw [show n + 1 + k = (n + k) + 1 by omega]
    show p 0 + x * pz_ev (n + k) (pz_tl p) x = p 0 + x * pz_ev n (pz_tl p) x
    rw [pz_ev_more n k (pz_tl p) x (fun i hi => h (i + 1) (by omega))]
theorem pz_ev_le {n m : Nat} {p : pz_P} (x : Int) (h : pz_lt p n) (hm : n ≤ m) : pz_ev m p x = pz_ev n p x := by
  rw [show m = n + (m - n) by omega]
  exact pz_ev_more n (m - n) p x h
theorem pz_ev_add : ∀ (n : Nat) (p q : pz_P) (x : Int), pz_ev n (pz_add p q) x = pz_ev n p x + pz_ev n q x
  | 0, _, _, _ => rfl
  | n + 1, p, q, x => by
    show (p 0 + q 0) + x * pz_ev n (pz_add (pz_tl p) (pz_tl q)) x = (p 0 + x * pz_ev n (pz_tl p) x) + (q 0 + x * pz_ev n (pz_tl q) x)
    rw [pz_ev_add n, Int.mul_add]
    omega
theorem pz_ev_sc : ∀ (n : Nat) (c : Int) (p : pz_P) (x : Int), pz_ev n (pz_sc c p) x = c * pz_ev n p x
  | 0, c, _, _ => (Int.mul_zero c).symm
  | n + 1, c, p, x => by
    show c * p 0 + x * pz_ev n (pz_sc c (pz_tl p)) x = c * (p 0 + x * pz_ev n (pz_tl p) x)
    rw [pz_ev_sc n, Int.mul_add, Int.mul_left_comm]
theorem pz_ev_mul : ∀ (a b : Nat) (u f : pz_P) (x : Int), pz_lt u a → pz_lt f b → pz_ev (a + b) (pz_mul u f) x = pz_ev a u x * pz_ev b f x
  | 0, b, u, f, x, hu, hf => by
    show _ = 0 * _
    rw [Int.zero_mul]
    exact pz_ev_zero _ _ x (fun i => pz_c_zeroL i u f (fun j => hu j (Nat.zero_le _)))
  | a + 1, b, u, f, x, hu, hf => by
    rw [show a + 1 + b = (a + b) + 1 by omega]
    show u 0 * f 0 + x * pz_ev (a + b) (pz_tl (pz_mul u f)) x = (u 0 + x * pz_ev a (pz_tl u) x) * pz_ev b f x
    rw [pz_tl_mul, pz_ev_add, pz_ev_sc, pz_ev_mul a b (pz_tl u) f x (fun i hi => hu (i + 1) (by omega)) hf]
    have h1 : pz_ev b f x = f 0 + x * pz_ev (a + b) (pz_tl f) x := by
      rw [← pz_ev_le x hf (show b ≤ (a + b) + 1 by omega)]
      rfl
    rw [Int.add_mul, Int.mul_add, ← Int.add_assoc]
    congr 1
    · rw [h1, Int.mul_add, Int.mul_left_comm]
    · rw [Int.mul_assoc]
/-- the quotient by x - a -/
def pz_syn (N : Nat) (p : pz_P) (a : Int) : pz_P := fun i => pz_ev N (fun j => p (j + (i + 1))) a
theorem pz_syn_lt {N : Nat} {p : pz_P} (h : pz_lt p (N + 1)) (a : Int) : pz_lt (pz_syn (N + 1) p a) N := fun i hi => pz_ev_zero _ _ _ (fun j => h _ (by omega))
theorem pz_syn_succ {N : Nat} {p : pz_P} (h : pz_lt p (N + 1)) (a : Int) (i : Nat) : p (i + 1) = pz_syn (N + 1) p a i - a * pz_syn (N + 1) p a (i + 1) := by
  have e : pz_syn (N + 1) p a i = p (0 + (i + 1)) + a * pz_ev N (pz_tl (fun j => p (j + (i + 1)))) a := rfl
  have e2 : pz_tl (fun j => p (j + (i + 1))) = fun j => p (j + (i + 1 + 1)) := funext fun j => by show p (j + 1 + (i + 1)) = _; rw [show j + 1 + (i + 1) = j + (i + 1 + 1) by omega]
  have e3 : pz_syn (N + 1) p a (i + 1) = pz_ev N (fun j => p (j + (i + 1 + 1))) a := pz_ev_le a (fun j hj => h _ (by omega)) (by omega)
  rw [e2, ← e3, Nat.zero_add] at e
  omega
theorem pz_syn_zero {N : Nat} {p : pz_P} (h : pz_lt p (N + 1)) (a : Int) : p 0 = pz_ev (N + 1) p a - a * pz_syn (N + 1) p a 0 := by
  have e : pz_ev (N + 1) p a = p 0 + a * pz_ev N (pz_tl p) a := rfl
  have e3 : pz_syn (N + 1) p a 0 = pz_ev N (fun j => p (j + (0 + 1))) a := pz_ev_le a (fun j hj => h _ (by omega)) (by omega)
  have e4 : pz_tl p = fun j => p (j + (0 + 1)) := rfl
  rw [e4, ← e3] at e
  omega
def pz_lin (w a : Int) (q : pz_P) : pz_P := fun i => match i with
  | 0 => w - a * q 0
  | i + 1 => q i - a * q (i + 1)
theorem pz_ev_lin (a x : Int) : ∀ (n : Nat) (q : pz_P) (w : Int), pz_lt q n → pz_ev (n + 1) (pz_lin w a q) x = w + (x - a) * pz_ev n q x
  | 0, q, w, h => by
    show (w - a * q 0) + x * 0 = w + (x - a) * 0
    rw [h 0 (by omega), Int.mul_zero, Int.mul_zero, Int.mul_zero]
    omega
  | n + 1, q, w, h => by
    have e : pz_tl (pz_lin w a q) = pz_lin (q 0) a (pz_tl q) := funext fun i => by
      cases i with
      | zero => rfl
      | succ i => rfl
    show (w - a * q 0) + x * pz_ev (n + 1) (pz_tl (pz_lin w a q)) x = w + (x - a) * (q 0 + x * pz_ev n (pz_tl q) x)
    rw [e, pz_ev_lin a x n (pz_tl q) (q 0) (fun i hi => h (i + 1) (by omega))]
    generalize pz_ev n (pz_tl q) x = z
    rw [Int.mul_add, Int.mul_add, Int.sub_mul x a (q 0), Int.mul_left_comm x (x - a) z]
    omega
theorem pz_syn_ev {N : Nat} {p : pz_P} (h : pz_lt p (N + 1)) (a x : Int) : pz_ev (N + 1) p x = pz_ev (N + 1) p a + (x - a) * pz_ev N (pz_syn (N + 1) p a) x := by
  rw [← pz_ev_lin a x N (pz_syn (N + 1) p a) _ (pz_syn_lt h a)]
  congr 1
  funext i
  cases i with
  | zero => exact pz_syn_zero h a
  | succ i => exact pz_syn_succ h a i
theorem pz_kron {X : Nat} : ∀ (d : Nat) (p : pz_P) (pts : List Int) (V : Nat), pz_lt p (d + 1) → pts.length = d + 1 → pts.Pairwise (fun a b => a ≠ b) → (∀ x ∈ pts, x.natAbs ≤ X ∧ (pz_ev (d + 1) p x).natAbs ≤ V) → ∀ i, (p i).natAbs ≤ V * (2 * X + 3) ^ d
  | 0, p, [], V, hp, hl, _, _ => by simp at hl
  | 0, p, x :: l, V, hp, hl, hd, hv => fun i => by
    cases i with
    | zero =>
      have h1 := (hv x List.mem_cons_self).2
      have e : pz_ev 1 p x = p 0 + x * 0 := rfl
      rw [e, Int.mul_zero, Int.add_zero] at h1
      rw [Nat.pow_zero, Nat.mul_one]
      exact h1
    | succ i =>
      rw [hp (i + 1) (by omega)]
      exact Nat.zero_le _
  | d + 1, p, [], V, hp, hl, _, _ => by simp at hl
  | d + 1, p, a :: l, V, hp, hl, hd, hv => by
    have hd1 := (List.pairwise_cons.mp hd)
    have ha := hv a List.mem_cons_self
    have hq := pz_syn_lt hp a
    have ih := pz_kron d (pz_syn (d + 1 + 1) p a) l (2 * V) hq (by simpa using hl) hd1.2 (fun x hx => by
      have h1 := hv x (List.mem_cons_of_mem _ hx)
      refine ⟨h1.1, ?_⟩
      have h2 := pz_syn_ev hp a x
      have h3 : x - a ≠ 0 := fun e => hd1.1 x hx (by omega)
      have h4 : ((x - a) * pz_ev (d + 1) (pz_syn (d + 1 + 1) p a) x).natAbs ≤ 2 * V := by
        have := h1.2
        have := ha.2
        omega
      rw [Int.natAbs_mul] at h4
      have h5 : 1 ≤ (x - a).natAbs := by omega
      have h6 := Nat.mul_le_mul_right (pz_ev (d + 1) (pz_syn (d + 1 + 1) p a) x).natAbs h5
      omega)
    generalize hB : (2 * X + 3) ^ d = B at ih
    have hB1 : 1 ≤ B := by rw [← hB]; exact Nat.pow_pos (by omega)
    intro i
    rw [Nat.pow_succ, hB]
    have key : ∀ (z : Int) (q0 : Int) (W : Nat), q0.natAbs ≤ 2 * V * B → W ≤ 2 * V * B → z.natAbs ≤ W + X * (2 * V * B) → z.natAbs ≤ V * (B * (2 * X + 3)) := fun z q0 W _ hW hz => by
      have e1 : V * (B * (2 * X + 3)) = 2 * (X * (V * B)) + 3 * (V * B) := by
        rw [← Nat.mul_assoc, Nat.mul_add, Nat.mul_comm (V * B) (2 * X), Nat.mul_assoc 2 X (V * B), Nat.mul_comm (V * B) 3]
      have e2 : X * (2 * V * B) = 2 * (X * (V * B)) := by
        rw [Nat.mul_assoc 2 V B, Nat.mul_left_comm]
      have e3 : 2 * V * B = 2 * (V * B) := Nat.mul_assoc _ _ _
      omega
    have prod : ∀ j, (a * pz_syn (d + 1 + 1) p a j).natAbs ≤ X * (2 * V * B) := fun j => by
      rw [Int.natAbs_mul]
      exact Nat.mul_le_mul ha.1 (ih j)
    cases i with
    | zero =>
      have h1 := pz_syn_zero hp a
      have h2 := prod 0
      have h3 : V ≤ 2 * V * B := by
        have := Nat.mul_le_mul_left (2 * V) hB1
        omega
      refine key (p 0) (pz_syn (d + 1 + 1) p a 0) V (ih 0) h3 ?_
      have := ha.2
      omega
    | succ i =>
      have h1 := pz_syn_succ hp a i
      have h2 := prod (i + 1)
      have h3 := ih i
      exact key (p (i + 1)) (pz_syn (d + 1 + 1) p a i) (2 * V * B) h3 (Nat.le_refl _) (by omega)
theorem pz_filter_len (f : Int → Bool) : ∀ l : List Int, (l.filter f).length + (l.filter (fun x => ! f x)).length = l.length
  | [] => rfl
  | x :: l => by
    have := pz_filter_len f l
    rw [List.filter_cons, List.filter_cons]
    cases hx : f x <;> simp [hx] <;> omega
theorem pz_take_pw {l : List Int} (h : l.Pairwise (fun a b => a ≠ b)) (k : Nat) : (l.take k).Pairwise (fun a b => a ≠ b) := List.Pairwise.sublist (List.take_sublist k l) h
/-- a polynomial that is not 0 is 0 at few places only -/
theorem pz_nonroots {d : Nat} {p : pz_P} (hp : pz_lt p (d + 1)) (h0 : ∃ i, p i ≠ 0) {pts : List Int} (hd : pts.Pairwise (fun a b => a ≠ b)) : pts.length ≤ (pts.filter (fun x => ! decide (pz_ev (d + 1) p x = 0))).length + d := by
  by_cases c : (pts.filter (fun x => decide (pz_ev (d + 1) p x = 0))).length ≤ d
  · have := pz_filter_len (fun x => decide (pz_ev (d + 1) p x = 0)) pts
    omega
  · exfalso
    obtain ⟨i, hi⟩ := h0
    have hX : ∀ l : List Int, ∃ X : Nat, ∀ x ∈ l, x.natAbs ≤ X := by
      intro l
      induction l with
      | nil => exact ⟨0, fun x hx => by cases hx⟩
      | cons y l ih =>
        obtain ⟨X, hX⟩ := ih
        refine ⟨X + y.natAbs, fun x hx => ?_⟩
        rcases List.mem_cons.mp hx with e | e
        · rw [e]; omega
        · have := hX x e
          omega
    obtain ⟨X, hX⟩ := hX pts
    have h1 := pz_kron (X := X) d p ((pts.filter (fun x => decide (pz_ev (d + 1) p x = 0))).take (d + 1)) 0 hp (by rw [List.length_take]; omega) (pz_take_pw (List.Pairwise.filter _ hd) _) (fun x hx => by
      have h2 := List.mem_of_mem_take hx
      have h3 := List.mem_filter.mp h2
      refine ⟨hX x h3.1, ?_⟩
      have h4 : pz_ev (d + 1) p x = 0 := by simpa using h3.2
      rw [h4]
      exact Nat.zero_le _) i
    omega
/-- a factor of a polynomial of degree at most 12: its coefficients -/
theorem pz_factor {P S G : pz_P} {A : Nat} (hP : pz_lt P 13) (hS : pz_lt S 13) (hG : pz_lt G 13) (h : P = pz_mul S G) (h0 : ∃ i, P i ≠ 0) (hA : ∀ i, (P i).natAbs ≤ A) : ∀ i, (S i).natAbs ≤ A * 13 ^ 13 * 27 ^ 12 := by
  have hpts : ((List.range 25).map (fun k : Nat => (k : Int) - 12)).Pairwise (fun a b => a ≠ b) := by decide
  have hn := pz_nonroots (d := 12) hP h0 hpts
  have hlen : ((List.range 25).map (fun k : Nat => (k : Int) - 12)).length = 25 := by decide
  rw [hlen] at hn
  have hpow : ∀ (n : Nat) (p : pz_P) (x : Int), x.natAbs ≤ 12 → (∀ i, (p i).natAbs ≤ A) → (pz_ev n p x).natAbs ≤ A * 13 ^ n := by
    intro n
    induction n with
    | zero => intro p x _ _; exact Nat.zero_le _
    | succ n ih =>
      intro p x hx hp
      have h1 := ih (pz_tl p) x hx (fun i => hp (i + 1))
      have h2 : (x * pz_ev n (pz_tl p) x).natAbs ≤ 12 * (A * 13 ^ n) := by
        rw [Int.natAbs_mul]
        exact Nat.mul_le_mul hx h1
      have h3 := Int.natAbs_add_le (p 0) (x * pz_ev n (pz_tl p) x)
      have h4 := hp 0
      have h5 : A ≤ A * 13 ^ n := by
        have := Nat.mul_le_mul_left A (show 1 ≤ 13 ^ n from Nat.pow_pos (by omega))
        omega
      show (p 0 + x * pz_ev n (pz_tl p) x).natAbs ≤ A * 13 ^ (n + 1)
      rw [Nat.pow_succ, ← Nat.mul_assoc]
      omega
  intro i
  have key := pz_kron (X := 12) 12 S ((((List.range 25).map (fun k : Nat => (k : Int) - 12)).filter (fun x => ! decide (pz_ev (12 + 1) P x = 0))).take 13) (A * 13 ^ 13) hS (by rw [List.length_take]; omega) (pz_take_pw (List.Pairwise.filter _ hpts) _) (fun x hx => by
    have h2 := List.mem_of_mem_take hx
    have h3 := List.mem_filter.mp h2
    have hx12 : x.natAbs ≤ 12 := by
      obtain ⟨k, k1, k2⟩ := List.mem_map.mp h3.1
      have := List.mem_range.mp k1
      omega
    refine ⟨hx12, ?_⟩
    have h4 : pz_ev 13 P x ≠ 0 := by simpa using h3.2
    have h5 := pz_ev_mul 13 13 S G x hS hG
    rw [← h, pz_ev_le x hP (by omega)] at h5
    have h6 := hpow 13 P x hx12 hA
    rw [h5, Int.natAbs_mul] at h6
    have h7 : 1 ≤ (pz_ev 13 G x).natAbs := by
      have : pz_ev 13 G x ≠ 0 := fun e => by rw [e, Int.mul_zero] at h5; exact h4 h5
      omega
    have h8 := Nat.mul_le_mul_left (pz_ev 13 S x).natAbs h7
    show (pz_ev 13 S x).natAbs ≤ A * 13 ^ 13
    omega) i
  exact key
/-! The reference's rows of numbers as functions: polynomials emptied, copied, negated, their degrees. -/
def jV (bg : Nat → Int32) (V : Nat → Int) : Prop := ∀ s, s < 665 → jrs bg s (V s)
def jvu (V : Nat → Int) (s : Nat) (v : Int) : Nat → Int := fun x => if x = s then v else V x
theorem jV.up {bg bg' : Nat → Int32} {V : Nat → Int} {s : Nat} {v : Int} (h : jV bg V) (h1 : jrs bg' s v) (h2 : jrf bg bg' s) : jV bg' (jvu V s v) := fun x hx => by
  unfold jvu
  by_cases e : x = s
  · subst e; rw [if_pos rfl]; exact h1
  · rw [if_neg e]; exact jrs_keep (h x hx) h2 e
theorem jV.to {bg : Nat → Int32} {V W : Nat → Int} (h : jV bg V) (e : W = V) : jV bg W := by rw [e]; exact h
/-- the first k coefficients of the polynomial p are w's -/
def jfl (V : Nat → Int) (p : Nat) (w : Nat → Int) (k : Nat) : Nat → Int := fun s => if p * 13 ≤ s ∧ s < p * 13 + k then w (s - p * 13) else V s
theorem jfl_zero (V : Nat → Int) (p : Nat) (w : Nat → Int) : jfl V p w 0 = V := funext fun s => if_neg (by omega)
theorem jfl_succ (V : Nat → Int) (p : Nat) (w : Nat → Int) (k : Nat) : jfl V p w (k + 1) = jvu (jfl V p w k) (p * 13 + k) (w k) := funext fun s => by
  unfold jfl jvu
  by_cases e : s = p * 13 + k
  · subst e
    rw [if_pos (by omega), if_pos rfl, show p * 13 + k - p * 13 = k by omega]
  · rw [if_neg e]
    show _ = (if p * 13 ≤ s ∧ s < p * 13 + k then w (s - p * 13) else V s)
    by_cases c : p * 13 ≤ s ∧ s < p * 13 + k
    · rw [if_pos c, if_pos (by omega)]
    · rw [if_neg c, if_neg (by omega)]
theorem jfl_at (V : Nat → Int) (p : Nat) (w : Nat → Int) {k e : Nat} (h : e < k) : jfl V p w k (p * 13 + e) = w e := by
  unfold jfl
  rw [if_pos (by omega), show p * 13 + e - p * 13 = e by omega]
theorem jfl_off (V : Nat → Int) (p : Nat) (w : Nat → Int) {k s : Nat} (h : s < p * 13 ∨ p * 13 + k ≤ s) : jfl V p w k s = V s := by
  unfold jfl
  rw [if_neg (by omega)]
/-- the degree and 1 more: all coefficients from there on are 0, the one below is not -/
def jdg (V : Nat → Int) (p : Nat) : Nat → Nat
  | 0 => 0
  | k + 1 => if V (p * 13 + k) = 0 then jdg V p k else k + 1
theorem jdg_le (V : Nat → Int) (p : Nat) : ∀ k, jdg V p k ≤ k
  | 0 => Nat.le_refl _
  | k + 1 => by
    unfold jdg
    split
    · have := jdg_le V p k; omega
    · exact Nat.le_refl _
theorem jdg_zero (V : Nat → Int) (p : Nat) : ∀ k i, jdg V p k ≤ i → i < k → V (p * 13 + i) = 0
  | 0, i, _, h => by omega
  | k + 1, i, h1, h2 => by
    unfold jdg at h1
    split at h1
    · rename_i e
      by_cases c : i = k
      · rw [c]; exact e
      · exact jdg_zero V p k i h1 (by omega)
    · omega
theorem jdg_ne (V : Nat → Int) (p : Nat) : ∀ k, 1 ≤ jdg V p k → V (p * 13 + (jdg V p k - 1)) ≠ 0
  | 0, h => by simp [jdg] at h
  | k + 1, h => by
    unfold jdg at h ⊢
    split
    · rename_i e
      rw [if_pos e] at h
      exact jdg_ne V p k h
    · rename_i e
      exact e
/-- the reference in a heap: its numbers are V -/
def jS (hp : mj_H) (q1 q2 q3 : Nat) (V : Nat → Int) (h : mj_H) : Prop := ∃ (bg : Nat → Int32) (ov db : Nat → Value), jV bg V ∧ h = jZ hp q1 q2 q3 bg ov db
section JP
variable {D : Nat} {hp h : mj_H} {q0 q1 q2 q3 : Nat} {fs : List Value} {V : Nat → Int}
theorem jS_a (G : jG hp q0 q1 q2 q3 fs) (hs : jS hp q1 q2 q3 V h) : h[q0]? = some (.inr (10, fs)) := by
  obtain ⟨bg, ov, db, _, rfl⟩ := hs
  exact jX_a (jE_c (jG_e G _) _)
theorem jS_len (G : jG hp q0 q1 q2 q3 fs) (hs : jS hp q1 q2 q3 V h) : h.length = hp.length := by
  obtain ⟨bg, ov, db, _, rfl⟩ := hs
  simp
theorem jS.to {W : Nat → Int} (hs : jS hp q1 q2 q3 V h) (e : W = V) : jS hp q1 q2 q3 W h := by rw [e]; exact hs
theorem jS_sets (G : jG hp q0 q1 q2 q3 fs) {s : Nat} {v : Int} (hl : s < 665) (hv : jR v) (hs : jS hp q1 q2 q3 V h) : mj_Ok (D + 1) 181 [.ref q0, .int (jn (s : Nat)), .long (jl v)] h (fun r => ∃ h', jS hp q1 q2 q3 (jvu V s v) h' ∧ r = (.inl none, h')) := by
  obtain ⟨bg, ov, db, k, rfl⟩ := hs
  refine (jq_sets (D := D) (jE_c (jG_e G _) _) hl hv).to (fun r hq => ?_)
  obtain ⟨b1, c1, c2, e⟩ := hq
  exact ⟨_, ⟨b1, ov, db, k.up c1 c2, rfl⟩, e⟩
theorem jS_copies (G : jG hp q0 q1 q2 q3 fs) {to s : Nat} (ht : to < 665) (hl : s < 665) (hs : jS hp q1 q2 q3 V h) : mj_Ok (D + 2) 182 [.ref q0, .int (jn (to : Nat)), .int (jn (s : Nat))] h (fun r => ∃ h', jS hp q1 q2 q3 (jvu V to (V s)) h' ∧ r = (.inl none, h')) := by
  obtain ⟨bg, ov, db, k, rfl⟩ := hs
  refine (jq_copies (D := D) (jE_c (jG_e G _) _) ht hl (k s hl)).to (fun r hq => ?_)
  obtain ⟨b1, c1, c2, e⟩ := hq
  exact ⟨_, ⟨b1, ov, db, k.up c1 c2, rfl⟩, e⟩
theorem jS_sign (G : jG hp q0 q1 q2 q3 fs) {s : Nat} (hl : s < 665) (hs : jS hp q1 q2 q3 V h) : mj_Ok (D + 1) 178 [.ref q0, .int (jn (s : Nat))] h (fun r => r = (.inl (some (.int (jn (jsg (V s))))), h)) := by
  obtain ⟨bg, ov, db, k, rfl⟩ := hs
  exact jq_sign (jX_a (jE_c (jG_e G _) _)) G.1.1.2.1 (jX_b (jE_c (jG_e G _) _)) hl (k s hl)
theorem jS_length (G : jG hp q0 q1 q2 q3 fs) {s : Nat} (hl : s < 665) (hs : jS hp q1 q2 q3 V h) : mj_Ok (D + 1) 179 [.ref q0, .int (jn (s : Nat))] h (fun r => r = (.inl (some (.int (jn (jnl (V s).natAbs : Nat)))), h)) := by
  obtain ⟨bg, ov, db, k, rfl⟩ := hs
  exact jq_length (jX_a (jE_c (jG_e G _) _)) G.1.1.2.1 (jX_b (jE_c (jG_e G _) _)) hl (k s hl)
theorem jS_limb (G : jG hp q0 q1 q2 q3 fs) {s j : Nat} (hl : s < 665) (hj : j ≤ 700) (hs : jS hp q1 q2 q3 V h) : mj_Ok (D + 2) 180 [.ref q0, .int (jn (s : Nat)), .int (jn (j : Nat))] h (fun r => r = (.inl (some (.int (jn (jlb (V s).natAbs j : Nat)))), h)) := by
  obtain ⟨bg, ov, db, k, rfl⟩ := hs
  exact jq_limb (D := D) (jX_a (jE_c (jG_e G _) _)) G.1.1.2.1 (jX_b (jE_c (jG_e G _) _)) hl hj (k s hl)
theorem jS_cmp (G : jG hp q0 q1 q2 q3 fs) {s t : Nat} (hl : s < 665) (ht : t < 665) (hs : jS hp q1 q2 q3 V h) : mj_Ok (D + 3) 184 [.ref q0, .int (jn (s : Nat)), .int (jn (t : Nat))] h (fun r => r = (.inl (some (.int (jn (jcm (V s).natAbs (V t).natAbs)))), h)) := by
  obtain ⟨bg, ov, db, k, rfl⟩ := hs
  exact jq_cmp (D := D) (jE_c (jG_e G _) _) hl ht (k s hl) (k t ht)
theorem jS_adds (G : jG hp q0 q1 q2 q3 fs) {to a b : Nat} {f : Int} (hto : to < 665) (ha : a < 665) (hb : b < 665) (hf : f = 1 ∨ f = -1) (hz : jnl (V a + f * V b).natAbs ≤ 698) (hs : jS hp q1 q2 q3 V h) : mj_Ok (D + 4) 188 [.ref q0, .int (jn (to : Nat)), .int (jn (a : Nat)), .int (jn (b : Nat)), .int (jn f)] h (fun r => ∃ h', jS hp q1 q2 q3 (jvu V to (V a + f * V b)) h' ∧ r = (.inl none, h')) := by
  obtain ⟨bg, ov, db, k, rfl⟩ := hs
  refine (jq_adds (D := D) (jE_c (jG_e G _) _) hto ha hb hf (k a ha) (k b hb) hz).to (fun r hq => ?_)
  obtain ⟨b1, c1, c2, e⟩ := hq
  exact ⟨_, ⟨b1, ov, db, k.up c1 c2, rfl⟩, e⟩
theorem jS_mul (G : jG hp q0 q1 q2 q3 fs) {to a b : Nat} (hto : to < 665) (ha : a < 665) (hb : b < 665) (hz : jnl (V a * V b).natAbs ≤ 698) (hs : jS hp q1 q2 q3 V h) : mj_Ok (D + 2) 189 [.ref q0, .int (jn (to : Nat)), .int (jn (a : Nat)), .int (jn (b : Nat))] h (fun r => ∃ h', jS hp q1 q2 q3 (jvu V to (V a * V b)) h' ∧ r = (.inl none, h')) := by
  obtain ⟨bg, ov, db, k, rfl⟩ := hs
  refine (jq_mul (D := D) (jG_e G _) hto ha hb (k a ha) (k b hb) hz).to (fun r hq => ?_)
  obtain ⟨b1, o1, c1, c2, e⟩ := hq
  exact ⟨_, ⟨b1, o1, db, k.up c1 c2, rfl⟩, e⟩
theorem jS_cuts (G : jG hp q0 q1 q2 q3 fs) {q r a b : Nat} (hq : q < 665) (hr : r < 665) (ha : a < 665) (hb : b < 665) (n1 : q ≠ r) (n2 : q ≠ a) (n3 : q ≠ b) (n4 : r ≠ a) (hv0 : V b ≠ 0) (hs : jS hp q1 q2 q3 V h) : mj_Ok (D + 4) 191 [.ref q0, .int (jn (q : Nat)), .int (jn (r : Nat)), .int (jn (a : Nat)), .int (jn (b : Nat))] h (fun z => ∃ h', jS hp q1 q2 q3 (jvu (jvu V q ((V a).tdiv (V b))) r ((V a).tmod (V b))) h' ∧ z = (.inl none, h')) := by
  obtain ⟨bg, ov, db, k, rfl⟩ := hs
  refine (jq_cuts (D := D) G hq hr ha hb n1 n2 n3 n4 (k a ha) (k b hb) hv0).to (fun z hz => ?_)
  obtain ⟨b1, o1, d1, c1, c2, c3, e⟩ := hz
  refine ⟨_, ⟨b1, o1, d1, fun s hs => ?_, rfl⟩, e⟩
  unfold jvu
  by_cases e1 : s = r
  · subst e1; rw [if_pos rfl]; exact c2
  · rw [if_neg e1]
    by_cases e2 : s = q
    · subst e2; rw [if_pos rfl]; exact c1
    · rw [if_neg e2]
      exact c3 s _ e2 e1 (k s hs)
theorem jp_empties_loop (G : jG hp q0 q1 q2 q3 fs) {p : Nat} (hpp : p ≤ 50) {Q : mj_R → Prop} (hend : ∀ h, jS hp q1 q2 q3 (jfl V p (fun _ => 0) 13) h → Q (.inl none, h)) :
    ∀ (d k : Nat) (h : mj_H), k + d = 13 → jS hp q1 q2 q3 (jfl V p (fun _ => 0) k) h → mj_T (D + 1) mj_m198 2 [some (.ref q0), some (.int (jn (p : Nat))), some (.int (jn (k : Nat)))] [] h Q := by
  intro d
  induction d with
  | zero =>
    intro k h hk hs
    have hk : k = 13 := by omega
    subst hk
    iterate 2 refine mj_T.pl rfl rfl rfl rfl ?_
    refine mj_T.icmp (a := ((13 : Nat) : Int)) (b := 13) rfl ⟨by decide, by decide⟩ ⟨by decide, by decide⟩ (fun hc => ?_) (fun hc => ?_)
    · exact mj_T.ret rfl rfl rfl (hend h hs)
    · simp [jc] at hc
  | succ d ih =>
    intro k h hk hs
    iterate 2 refine mj_T.pl rfl rfl rfl rfl ?_
    refine mj_T.icmp (a := (k : Int)) (b := 13) rfl ⟨by omega, by omega⟩ ⟨by decide, by decide⟩ (fun hc => ?_) (fun hc => ?_)
    · simp only [jc, decide_eq_true_eq] at hc
      omega
    · iterate 3 refine mj_T.pl rfl rfl rfl rfl ?_
      refine mj_T.call (ins := .invokestatic 104) rfl rfl (Nat.le_of_ble_eq_true rfl) (Nat.le_of_ble_eq_true rfl) rfl rfl (jq_slot (D := D) (p := p) (i := k)) (fun v' h' hq' => ?_) (fun i h' hq' => by cases hq')
      cases hq'
      refine mj_T.pl rfl rfl rfl rfl ?_
      refine mj_T.call (ins := .invokevirtual 45) rfl rfl (Nat.le_of_ble_eq_true rfl) (Nat.le_of_ble_eq_true rfl) (by simp [mj_recv, jS_a G hs]) rfl (jS_sets (D := D) G (s := p * 13 + k) (v := 0) (by omega) ⟨by decide, by decide⟩ hs) (fun v' h1 hq' => ?_) (fun i h' hq' => by obtain ⟨_, _, h⟩ := hq'; cases h)
      obtain ⟨_, hs1, hq'⟩ := hq'
      cases hq'
      refine mj_T.iinc (a := k) rfl rfl ?_
      refine mj_T.pl rfl rfl rfl rfl ?_
      exact ih (k + 1) h1 (by omega) (hs1.to (jfl_succ _ _ _ _))
theorem jp_empties (G : jG hp q0 q1 q2 q3 fs) {p : Nat} (hpp : p ≤ 50) (hs : jS hp q1 q2 q3 V h) : mj_Ok (D + 2) 198 [.ref q0, .int (jn (p : Nat))] h (fun r => ∃ h', jS hp q1 q2 q3 (jfl V p (fun _ => 0) 13) h' ∧ r = (.inl none, h')) := by
  refine mj_Ok.of (M := mj_m198) rfl rfl rfl ?_
  iterate 2 refine mj_T.pl rfl rfl rfl rfl ?_
  exact jp_empties_loop (D := D) G hpp (fun h k => ⟨h, k, rfl⟩) 13 0 h rfl (hs.to (jfl_zero _ _ _))
theorem jp_copies_loop (G : jG hp q0 q1 q2 q3 fs) {p q : Nat} (hpp : p ≤ 50) (hqq : q ≤ 50) (hne : p ≠ q) {Q : mj_R → Prop} (hend : ∀ h, jS hp q1 q2 q3 (jfl V p (fun e => V (q * 13 + e)) 13) h → Q (.inl none, h)) :
    ∀ (d k : Nat) (h : mj_H), k + d = 13 → jS hp q1 q2 q3 (jfl V p (fun e => V (q * 13 + e)) k) h → mj_T (D + 2) mj_m200 2 [some (.ref q0), some (.int (jn (p : Nat))), some (.int (jn (q : Nat))), some (.int (jn (k : Nat)))] [] h Q := by
  intro d
  induction d with
  | zero =>
    intro k h hk hs
    have hk : k = 13 := by omega
    subst hk
    iterate 2 refine mj_T.pl rfl rfl rfl rfl ?_
    refine mj_T.icmp (a := ((13 : Nat) : Int)) (b := 13) rfl ⟨by decide, by decide⟩ ⟨by decide, by decide⟩ (fun hc => ?_) (fun hc => ?_)
    · exact mj_T.ret rfl rfl rfl (hend h hs)
    · simp [jc] at hc
  | succ d ih =>
    intro k h hk hs
    iterate 2 refine mj_T.pl rfl rfl rfl rfl ?_
    refine mj_T.icmp (a := (k : Int)) (b := 13) rfl ⟨by omega, by omega⟩ ⟨by decide, by decide⟩ (fun hc => ?_) (fun hc => ?_)
    · simp only [jc, decide_eq_true_eq] at hc
      omega
    · iterate 3 refine mj_T.pl rfl rfl rfl rfl ?_
      refine mj_T.call (ins := .invokestatic 104) rfl rfl (Nat.le_of_ble_eq_true rfl) (Nat.le_of_ble_eq_true rfl) rfl rfl (jq_slot (D := D + 1) (p := p) (i := k)) (fun v' h' hq' => ?_) (fun i h' hq' => by cases hq')
      cases hq'
      iterate 2 refine mj_T.pl rfl rfl rfl rfl ?_
      refine mj_T.call (ins := .invokestatic 104) rfl rfl (Nat.le_of_ble_eq_true rfl) (Nat.le_of_ble_eq_true rfl) rfl rfl (jq_slot (D := D + 1) (p := q) (i := k)) (fun v' h' hq' => ?_) (fun i h' hq' => by cases hq')
      cases hq'
      refine mj_T.call (ins := .invokevirtual 84) rfl rfl (Nat.le_of_ble_eq_true rfl) (Nat.le_of_ble_eq_true rfl) (by simp [mj_recv, jS_a G hs]) rfl (jS_copies (D := D) G (to := p * 13 + k) (s := q * 13 + k) (by omega) (by omega) hs) (fun v' h1 hq' => ?_) (fun i h' hq' => by obtain ⟨_, _, h⟩ := hq'; cases h)
      obtain ⟨_, hs1, hq'⟩ := hq'
      cases hq'
      refine mj_T.iinc (a := k) rfl rfl ?_
      refine mj_T.pl rfl rfl rfl rfl ?_
      refine ih (k + 1) h1 (by omega) (hs1.to ?_)
      rw [jfl_succ, jfl_off V p _ (s := q * 13 + k) (by omega)]
theorem jp_copiesPoly (G : jG hp q0 q1 q2 q3 fs) {p q : Nat} (hpp : p ≤ 50) (hqq : q ≤ 50) (hne : p ≠ q) (hs : jS hp q1 q2 q3 V h) : mj_Ok (D + 3) 200 [.ref q0, .int (jn (p : Nat)), .int (jn (q : Nat))] h (fun r => ∃ h', jS hp q1 q2 q3 (jfl V p (fun e => V (q * 13 + e)) 13) h' ∧ r = (.inl none, h')) := by
  refine mj_Ok.of (M := mj_m200) rfl rfl rfl ?_
  iterate 2 refine mj_T.pl rfl rfl rfl rfl ?_
  exact jp_copies_loop (D := D) G hpp hqq hne (fun h k => ⟨h, k, rfl⟩) 13 0 h rfl (hs.to (jfl_zero _ _ _))
theorem jp_degree_loop (G : jG hp q0 q1 q2 q3 fs) {p : Nat} (hpp : p ≤ 50) (hs : jS hp q1 q2 q3 V h) {Q : mj_R → Prop} (hend : Q (.inl (some (.int (jn ((jdg V p 13 : Int) - 1)))), h)) :
    ∀ k : Nat, k ≤ 13 → jdg V p k = jdg V p 13 → mj_T (D + 1) mj_m197 3 [some (.ref q0), some (.int (jn (p : Nat))), some (.int (jn ((k : Int) - 1)))] [] h Q := by
  intro k
  induction k with
  | zero =>
    intro _ hk
    refine mj_T.pl rfl rfl rfl rfl ?_
    refine mj_T.if0 rfl ⟨by omega, by omega⟩ (fun hc => ?_) (fun hc => ?_)
    · refine mj_T.pl rfl rfl rfl rfl ?_
      rw [← hk] at hend
      exact mj_T.ret rfl rfl rfl hend
    · simp only [jc, decide_eq_false_iff_not] at hc
      omega
  | succ k ih =>
    intro hk1 hk
    rw [show ((k + 1 : Nat) : Int) - 1 = (k : Int) by omega]
    refine mj_T.pl rfl rfl rfl rfl ?_
    refine mj_T.if0 rfl ⟨by omega, by omega⟩ (fun hc => ?_) (fun hc => ?_)
    · simp only [jc, decide_eq_true_eq] at hc
      omega
    · iterate 3 refine mj_T.pl rfl rfl rfl rfl ?_
      refine mj_T.call (ins := .invokestatic 104) rfl rfl (Nat.le_of_ble_eq_true rfl) (Nat.le_of_ble_eq_true rfl) rfl rfl (jq_slot (D := D) (p := p) (i := k)) (fun v' h' hq' => ?_) (fun i h' hq' => by cases hq')
      cases hq'
      refine mj_T.call (ins := .invokevirtual 68) rfl rfl (Nat.le_of_ble_eq_true rfl) (Nat.le_of_ble_eq_true rfl) (by simp [mj_recv, jS_a G hs]) rfl (jS_sign (D := D) G (s := p * 13 + k) (by omega) hs) (fun v' h' hq' => ?_) (fun i h' hq' => by cases hq')
      cases hq'
      have hsr := jsg_range (V (p * 13 + k))
      unfold jdg at hk
      refine mj_T.if0 rfl ⟨by omega, by omega⟩ (fun hc => ?_) (fun hc => ?_)
      · simp only [jc, Bool.not_eq_true', decide_eq_false_iff_not] at hc
        have hv : V (p * 13 + k) ≠ 0 := fun e => hc (by rw [e]; rfl)
        rw [if_neg hv] at hk
        refine mj_T.pl rfl rfl rfl rfl ?_
        have e : jdg V p 13 = k + 1 := hk.symm
        rw [e, show ((k + 1 : Nat) : Int) - 1 = (k : Int) by omega] at hend
        exact mj_T.ret rfl rfl rfl hend
      · simp only [jc, Bool.not_eq_false', decide_eq_true_eq] at hc
        have hv : V (p * 13 + k) = 0 := by
          rcases Int.lt_trichotomy (V (p * 13 + k)) 0 with c | c | c
          · rw [jsg_neg c] at hc; omega
          · exact c
          · rw [jsg_pos c] at hc; omega
        rw [if_pos hv] at hk
        refine mj_T.iinc (a := k) rfl rfl ?_
        refine mj_T.pl rfl rfl rfl rfl ?_
        exact ih (by omega) hk
theorem jp_degreeOf (G : jG hp q0 q1 q2 q3 fs) {p : Nat} (hpp : p ≤ 50) (hs : jS hp q1 q2 q3 V h) : mj_Ok (D + 2) 197 [.ref q0, .int (jn (p : Nat))] h (fun r => r = (.inl (some (.int (jn ((jdg V p 13 : Int) - 1)))), h)) := by
  refine mj_Ok.of (M := mj_m197) rfl rfl rfl ?_
  iterate 2 refine mj_T.pl rfl rfl rfl rfl ?_
  exact jp_degree_loop (D := D) G hpp hs (Q := fun r => r = (.inl (some (.int (jn ((jdg V p 13 : Int) - 1)))), h)) rfl 13 (Nat.le_refl _) rfl
end JP
/-! The reference's greatest common divisor of two numbers, exact quotients, negated polynomials. -/
theorem jrs_sg {bg : Nat → Int32} {s : Nat} {v w : Int} (h : jrs bg s v) (e : w.natAbs = v.natAbs) : jrs (upd bg (s * 702) (jn (jsg w))) s w := by
  obtain ⟨h1, h2, h3, h4⟩ := h
  refine ⟨?_, ?_, fun j hj => ?_, ?_⟩
  · unfold upd; rw [if_pos rfl]
  · unfold upd; rw [if_neg (by omega), e]; exact h2
  · unfold upd
    rw [e] at hj ⊢
    rw [if_neg (by omega)]
    exact h3 j hj
  · rw [e]; exact h4
theorem jrf_sg {bg : Nat → Int32} {s : Nat} {x : Int32} : jrf bg (upd bg (s * 702) x) s := fun j hj => by
  unfold upd
  rw [if_neg (by omega)]
section JQ
variable {D : Nat} {hp h : mj_H} {q0 q1 q2 q3 : Nat} {fs : List Value} {V : Nat → Int}
section JQT
variable {pc n r1 r2 r3 r4 r5 : Nat} {M : mj_M} {loc : mj_L} {st : List Value} {Q : mj_R → Prop}
theorem jS_gb (G : jG hp q0 q1 q2 q3 fs) (hs : jS hp q1 q2 q3 V h) (hc : M.2.2.2.2.1 pc = some (.getfield n, 10, 4, r3, r4, r5)) (k : mj_T D M (pc + 3) loc (.ref q1 :: st) h Q) : mj_T D M pc loc (.ref q0 :: st) h Q :=
  mj_T.step hc rfl (by simp only [mj_step, jS_a G hs, G.1.1.2.1, if_true]) k
theorem jS_st (G : jG hp q0 q1 q2 q3 fs) (hs : jS hp q1 q2 q3 V h) {s : Nat} {w : Int} (hl : s < 665) (e : w.natAbs = (V s).natAbs) (hc : M.2.2.2.2.1 pc = some (.iastore, r1, r2, r3, r4, r5)) (k : ∀ h', jS hp q1 q2 q3 (jvu V s w) h' → mj_T D M (pc + 1) loc st h' Q) : mj_T D M pc loc (.int (jn (jsg w)) :: .int (jn ((s * 702 : Nat) : Int)) :: .ref q1 :: st) h Q := by
  obtain ⟨bg, ov, db, kk, rfl⟩ := hs
  refine mj_T.xst (jE_c (jG_e G _) _) hc ⟨by omega, by omega⟩ ⟨by omega, by omega⟩ ?_
  rw [Int.toNat_natCast]
  exact k _ ⟨_, ov, db, kk.up (jrs_sg (kk s hl) e) jrf_sg, rfl⟩
end JQT
theorem jp_commons_loop (G : jG hp q0 q1 q2 q3 fs) {to i j : Nat} {g : Nat} (hto : to < 665) (t1 : to ≠ 655) (t2 : to ≠ 663) (t3 : to ≠ 664) {Q : mj_R → Prop}
    (hend : ∀ (W : Nat → Int) (h : mj_H), jS hp q1 q2 q3 W h → (W 663).natAbs = g → (∀ s, s ≠ to → s ≠ 655 → s ≠ 663 → s ≠ 664 → W s = V s) → mj_T (D + 4) mj_m193 61 [some (.ref q0), some (.int (jn (to : Nat))), some (.int (jn (i : Nat))), some (.int (jn (j : Nat)))] [] h Q) :
    ∀ (N : Nat) (W : Nat → Int) (h : mj_H), (W 664).natAbs ≤ N → jS hp q1 q2 q3 W h → Nat.gcd (W 663).natAbs (W 664).natAbs = g → (∀ s, s ≠ to → s ≠ 655 → s ≠ 663 → s ≠ 664 → W s = V s) → mj_T (D + 4) mj_m193 16 [some (.ref q0), some (.int (jn (to : Nat))), some (.int (jn (i : Nat))), some (.int (jn (j : Nat)))] [] h Q := by
  intro N
  induction N with
  | zero =>
    intro W h hN hs hg hf
    have h0 : W 664 = 0 := by omega
    iterate 2 refine mj_T.pl rfl rfl rfl rfl ?_
    refine mj_T.call (ins := .invokevirtual 68) rfl rfl (Nat.le_of_ble_eq_true rfl) (Nat.le_of_ble_eq_true rfl) (by simp [mj_recv, jS_a G hs]) rfl (jS_sign (D := D + 3) G (s := 664) (by decide) hs) (fun v' h' hq' => ?_) (fun i h' hq' => by cases hq')
    cases hq'
    rw [h0, jsg_zero]
    refine mj_T.if0 rfl ⟨by decide, by decide⟩ (fun hc => ?_) (fun hc => by cases hc)
    refine hend W h hs ?_ hf
    rw [h0] at hg
    simpa using hg
  | succ N ih =>
    intro W h hN hs hg hf
    iterate 2 refine mj_T.pl rfl rfl rfl rfl ?_
    refine mj_T.call (ins := .invokevirtual 68) rfl rfl (Nat.le_of_ble_eq_true rfl) (Nat.le_of_ble_eq_true rfl) (by simp [mj_recv, jS_a G hs]) rfl (jS_sign (D := D + 3) G (s := 664) (by decide) hs) (fun v' h' hq' => ?_) (fun i h' hq' => by cases hq')
    cases hq'
    have hsg := jsg_range (W 664)
    refine mj_T.if0 rfl ⟨by omega, by omega⟩ (fun hc => ?_) (fun hc => ?_)
    · simp only [jc, decide_eq_true_eq] at hc
      have h0 : W 664 = 0 := by
        rcases Int.lt_trichotomy (W 664) 0 with q | q | q
        · rw [jsg_neg q] at hc; omega
        · exact q
        · rw [jsg_pos q] at hc; omega
      refine hend W h hs ?_ hf
      rw [h0] at hg
      simpa using hg
    · simp only [jc, decide_eq_false_iff_not] at hc
      have h0 : W 664 ≠ 0 := fun q => hc (by rw [q]; rfl)
      iterate 5 refine mj_T.pl rfl rfl rfl rfl ?_
      refine mj_T.call (ins := .invokevirtual 101) rfl rfl (Nat.le_of_ble_eq_true rfl) (Nat.le_of_ble_eq_true rfl) (by simp [mj_recv, jS_a G hs]) rfl (jS_cuts (D := D) G (q := 655) (r := to) (a := 663) (b := 664) (by decide) hto (by decide) (by decide) (Ne.symm t1) (by decide) (by decide) t2 h0 hs) (fun v' h1 hq' => ?_) (fun i h' hq' => by obtain ⟨_, _, h⟩ := hq'; cases h)
      obtain ⟨_, hs1, hq'⟩ := hq'
      cases hq'
      iterate 3 refine mj_T.pl rfl rfl rfl rfl ?_
      refine mj_T.call (ins := .invokevirtual 84) rfl rfl (Nat.le_of_ble_eq_true rfl) (Nat.le_of_ble_eq_true rfl) (by simp [mj_recv, jS_a G hs1]) rfl (jS_copies (D := D + 2) G (to := 663) (s := 664) (by decide) (by decide) hs1) (fun v' h2 hq' => ?_) (fun i h' hq' => by obtain ⟨_, _, h⟩ := hq'; cases h)
      obtain ⟨_, hs2, hq'⟩ := hq'
      cases hq'
      iterate 3 refine mj_T.pl rfl rfl rfl rfl ?_
      refine mj_T.call (ins := .invokevirtual 84) rfl rfl (Nat.le_of_ble_eq_true rfl) (Nat.le_of_ble_eq_true rfl) (by simp [mj_recv, jS_a G hs2]) rfl (jS_copies (D := D + 2) G (to := 664) (s := to) (by decide) hto hs2) (fun v' h3 hq' => ?_) (fun i h' hq' => by obtain ⟨_, _, h⟩ := hq'; cases h)
      obtain ⟨_, hs3, hq'⟩ := hq'
      cases hq'
      refine mj_T.pl rfl rfl rfl rfl ?_
      have v664 : (jvu (jvu (jvu (jvu W 655 ((W 663).tdiv (W 664))) to ((W 663).tmod (W 664))) 663 (jvu (jvu W 655 ((W 663).tdiv (W 664))) to ((W 663).tmod (W 664)) 664)) 664 (jvu (jvu (jvu W 655 ((W 663).tdiv (W 664))) to ((W 663).tmod (W 664))) 663 (jvu (jvu W 655 ((W 663).tdiv (W 664))) to ((W 663).tmod (W 664)) 664) to)) 664 = (W 663).tmod (W 664) := by
        unfold jvu
        rw [if_pos rfl, if_neg t2, if_pos rfl]
      have v663 : (jvu (jvu (jvu (jvu W 655 ((W 663).tdiv (W 664))) to ((W 663).tmod (W 664))) 663 (jvu (jvu W 655 ((W 663).tdiv (W 664))) to ((W 663).tmod (W 664)) 664)) 664 (jvu (jvu (jvu W 655 ((W 663).tdiv (W 664))) to ((W 663).tmod (W 664))) 663 (jvu (jvu W 655 ((W 663).tdiv (W 664))) to ((W 663).tmod (W 664)) 664) to)) 663 = W 664 := by
        unfold jvu
        rw [if_neg (by decide), if_pos rfl, if_neg (Ne.symm t3), if_neg (by decide)]
      have hlt : ((W 663).tmod (W 664)).natAbs < (W 664).natAbs := by
        rw [Int.natAbs_tmod]
        exact Nat.mod_lt _ (by omega)
      refine ih _ h3 (by rw [v664]; omega) hs3 ?_ (fun s s1 s2 s3 s4 => ?_)
      · rw [v663, v664, Int.natAbs_tmod, Nat.gcd_comm, ← Nat.gcd_rec, Nat.gcd_comm]
        exact hg
      · rw [← hf s s1 s2 s3 s4]
        unfold jvu
        rw [if_neg s4, if_neg s3, if_neg s1, if_neg s2]
theorem jp_commons (G : jG hp q0 q1 q2 q3 fs) {to i j : Nat} (hto : to < 665) (hi : i < 665) (hj : j < 665) (t1 : to ≠ 655) (t2 : to ≠ 663) (t3 : to ≠ 664) (hj2 : j ≠ 663) (hs : jS hp q1 q2 q3 V h) :
    mj_Ok (D + 5) 193 [.ref q0, .int (jn (to : Nat)), .int (jn (i : Nat)), .int (jn (j : Nat))] h (fun r => ∃ (W : Nat → Int) (h' : mj_H), jS hp q1 q2 q3 W h' ∧ W to = ((Nat.gcd (V i).natAbs (V j).natAbs : Nat) : Int) ∧ (∀ s, s ≠ to → s ≠ 655 → s ≠ 663 → s ≠ 664 → W s = V s) ∧ r = (.inl none, h')) := by
  refine mj_Ok.of (M := mj_m193) rfl rfl rfl ?_
  iterate 3 refine mj_T.pl rfl rfl rfl rfl ?_
  refine mj_T.call (ins := .invokevirtual 84) rfl rfl (Nat.le_of_ble_eq_true rfl) (Nat.le_of_ble_eq_true rfl) (by simp [mj_recv, jS_a G hs]) rfl (jS_copies (D := D + 2) G (to := 663) (s := i) (by decide) hi hs) (fun v' h1 hq' => ?_) (fun i h' hq' => by obtain ⟨_, _, h⟩ := hq'; cases h)
  obtain ⟨_, hs1, hq'⟩ := hq'
  cases hq'
  iterate 3 refine mj_T.pl rfl rfl rfl rfl ?_
  refine mj_T.call (ins := .invokevirtual 84) rfl rfl (Nat.le_of_ble_eq_true rfl) (Nat.le_of_ble_eq_true rfl) (by simp [mj_recv, jS_a G hs1]) rfl (jS_copies (D := D + 2) G (to := 664) (s := j) (by decide) hj hs1) (fun v' h2 hq' => ?_) (fun i h' hq' => by obtain ⟨_, _, h⟩ := hq'; cases h)
  obtain ⟨_, hs2, hq'⟩ := hq'
  cases hq'
  refine jp_commons_loop (D := D) (V := V) G (g := Nat.gcd (V i).natAbs (V j).natAbs) hto t1 t2 t3 (fun W h3 hs3 k1 k2 => ?_) _ _ h2 (Nat.le_refl _) hs2 ?_ (fun s s1 s2 s3 s4 => ?_)
  · iterate 3 refine mj_T.pl rfl rfl rfl rfl ?_
    refine mj_T.call (ins := .invokevirtual 84) rfl rfl (Nat.le_of_ble_eq_true rfl) (Nat.le_of_ble_eq_true rfl) (by simp [mj_recv, jS_a G hs3]) rfl (jS_copies (D := D + 2) G (to := to) (s := 663) hto (by decide) hs3) (fun v' h4 hq' => ?_) (fun i h' hq' => by obtain ⟨_, _, h⟩ := hq'; cases h)
    obtain ⟨_, hs4, hq'⟩ := hq'
    cases hq'
    refine mj_T.pl rfl rfl rfl rfl ?_
    refine jS_gb G hs4 rfl ?_
    iterate 2 refine mj_T.pl rfl rfl rfl rfl ?_
    refine mj_T.imul (a := (to : Int)) (b := 702) rfl ?_
    rw [show (to : Int) * 702 = ((to * 702 : Nat) : Int) by omega]
    iterate 2 refine mj_T.pl rfl rfl rfl rfl ?_
    refine mj_T.call (ins := .invokevirtual 68) rfl rfl (Nat.le_of_ble_eq_true rfl) (Nat.le_of_ble_eq_true rfl) (by simp [mj_recv, jS_a G hs4]) rfl (jS_sign (D := D + 3) G (s := to) hto hs4) (fun v' h' hq' => ?_) (fun i h' hq' => by cases hq')
    cases hq'
    have vto : jvu W to (W 663) to = W 663 := by unfold jvu; rw [if_pos rfl]
    rw [vto]
    have fin : ∀ y : Int, y = jsg ((W 663).natAbs : Int) → mj_T (D + 4) mj_m193 91 [some (.ref q0), some (.int (jn (to : Nat))), some (.int (jn (i : Nat))), some (.int (jn (j : Nat)))] [.int (jn y), .int (jn ((to * 702 : Nat) : Int)), .ref q1] h4 (fun r => ∃ (W : Nat → Int) (h' : mj_H), jS hp q1 q2 q3 W h' ∧ W to = ((Nat.gcd (V i).natAbs (V j).natAbs : Nat) : Int) ∧ (∀ s, s ≠ to → s ≠ 655 → s ≠ 663 → s ≠ 664 → W s = V s) ∧ r = (.inl none, h')) := by
      intro y hy
      subst hy
      refine jS_st G hs4 (s := to) (w := ((W 663).natAbs : Int)) hto (by rw [vto]; exact Int.natAbs_natCast _) rfl (fun h5 hs5 => ?_)
      refine mj_T.ret rfl rfl rfl ⟨_, h5, hs5, ?_, fun s s1 s2 s3 s4 => ?_, rfl⟩
      · unfold jvu
        rw [if_pos rfl, k1]
      · rw [← k2 s s1 s2 s3 s4]
        unfold jvu
        rw [if_neg s1, if_neg s1]
    have hsg := jsg_range (W 663)
    refine mj_T.if0 rfl ⟨by omega, by omega⟩ (fun hc => ?_) (fun hc => ?_)
    · simp only [jc, Bool.not_eq_true', decide_eq_false_iff_not] at hc
      refine mj_T.pl rfl rfl rfl rfl ?_
      refine fin 1 ?_
      have : W 663 ≠ 0 := fun q => hc (by rw [q]; rfl)
      rw [jsg_pos (by omega)]
    · simp only [jc, Bool.not_eq_false', decide_eq_true_eq] at hc
      iterate 2 refine mj_T.pl rfl rfl rfl rfl ?_
      refine fin 0 ?_
      have : W 663 = 0 := by
        rcases Int.lt_trichotomy (W 663) 0 with q | q | q
        · rw [jsg_neg q] at hc; omega
        · exact q
        · rw [jsg_pos q] at hc; omega
      rw [this]
      rfl
  · have e1 : jvu (jvu V 663 (V i)) 664 (jvu V 663 (V i) j) 663 = V i := by unfold jvu; rw [if_neg (by decide), if_pos rfl]
    have e2 : jvu (jvu V 663 (V i)) 664 (jvu V 663 (V i) j) 664 = V j := by unfold jvu; rw [if_pos rfl, if_neg hj2]
    rw [e1, e2]
  · unfold jvu
    rw [if_neg s4, if_neg s3]
theorem jp_exact (G : jG hp q0 q1 q2 q3 fs) {i j : Nat} (hi : i < 665) (hj : j < 665) (n1 : i ≠ 663) (n2 : i ≠ 664) (n3 : i ≠ j) (n4 : j ≠ 663) (hv0 : V j ≠ 0) (hs : jS hp q1 q2 q3 V h) :
    mj_Ok (D + 5) 194 [.ref q0, .int (jn (i : Nat)), .int (jn (j : Nat))] h (fun r => ∃ (W : Nat → Int) (h' : mj_H), jS hp q1 q2 q3 W h' ∧ W i = (V i).tdiv (V j) ∧ (∀ s, s ≠ i → s ≠ 663 → s ≠ 664 → W s = V s) ∧ r = (.inl none, h')) := by
  refine mj_Ok.of (M := mj_m194) rfl rfl rfl ?_
  iterate 3 refine mj_T.pl rfl rfl rfl rfl ?_
  refine mj_T.call (ins := .invokevirtual 84) rfl rfl (Nat.le_of_ble_eq_true rfl) (Nat.le_of_ble_eq_true rfl) (by simp [mj_recv, jS_a G hs]) rfl (jS_copies (D := D + 2) G (to := 663) (s := i) (by decide) hi hs) (fun v' h1 hq' => ?_) (fun i h' hq' => by obtain ⟨_, _, h⟩ := hq'; cases h)
  obtain ⟨_, hs1, hq'⟩ := hq'
  cases hq'
  have ej : jvu V 663 (V i) j = V j := by unfold jvu; rw [if_neg n4]
  have e3 : jvu V 663 (V i) 663 = V i := by unfold jvu; rw [if_pos rfl]
  iterate 5 refine mj_T.pl rfl rfl rfl rfl ?_
  refine mj_T.call (ins := .invokevirtual 101) rfl rfl (Nat.le_of_ble_eq_true rfl) (Nat.le_of_ble_eq_true rfl) (by simp [mj_recv, jS_a G hs1]) rfl (jS_cuts (D := D) G (q := i) (r := 664) (a := 663) (b := j) hi (by decide) (by decide) hj n2 n1 n3 (by decide) (by rw [ej]; exact hv0) hs1) (fun v' h2 hq' => ?_) (fun i h' hq' => by obtain ⟨_, _, h⟩ := hq'; cases h)
  obtain ⟨_, hs2, hq'⟩ := hq'
  cases hq'
  refine mj_T.ret rfl rfl rfl ⟨_, h2, hs2, ?_, fun s s1 s2 s3 => ?_, rfl⟩
  · rw [ej, e3]
    unfold jvu
    rw [if_neg n2, if_pos rfl]
  · unfold jvu
    rw [if_neg s3, if_neg s1, if_neg s2]
theorem jp_negates_loop (G : jG hp q0 q1 q2 q3 fs) {p : Nat} (hpp : p ≤ 50) {Q : mj_R → Prop} (hend : ∀ h, jS hp q1 q2 q3 (jfl V p (fun e => - V (p * 13 + e)) 13) h → Q (.inl none, h)) :
    ∀ (d k : Nat) (h : mj_H), k + d = 13 → jS hp q1 q2 q3 (jfl V p (fun e => - V (p * 13 + e)) k) h → mj_T (D + 2) mj_m208 2 [some (.ref q0), some (.int (jn (p : Nat))), some (.int (jn (k : Nat)))] [] h Q := by
  intro d
  induction d with
  | zero =>
    intro k h hk hs
    have hk : k = 13 := by omega
    subst hk
    iterate 2 refine mj_T.pl rfl rfl rfl rfl ?_
    refine mj_T.icmp (a := ((13 : Nat) : Int)) (b := 13) rfl ⟨by decide, by decide⟩ ⟨by decide, by decide⟩ (fun hc => ?_) (fun hc => ?_)
    · exact mj_T.ret rfl rfl rfl (hend h hs)
    · simp [jc] at hc
  | succ d ih =>
    intro k h hk hs
    iterate 2 refine mj_T.pl rfl rfl rfl rfl ?_
    refine mj_T.icmp (a := (k : Int)) (b := 13) rfl ⟨by omega, by omega⟩ ⟨by decide, by decide⟩ (fun hc => ?_) (fun hc => ?_)
    · simp only [jc, decide_eq_true_eq] at hc
      omega
    · refine mj_T.pl rfl rfl rfl rfl ?_
      refine jS_gb G hs rfl ?_
      iterate 2 refine mj_T.pl rfl rfl rfl rfl ?_
      refine mj_T.call (ins := .invokestatic 104) rfl rfl (Nat.le_of_ble_eq_true rfl) (Nat.le_of_ble_eq_true rfl) rfl rfl (jq_slot (D := D + 1) (p := p) (i := k)) (fun v' h' hq' => ?_) (fun i h' hq' => by cases hq')
      cases hq'
      refine mj_T.pl rfl rfl rfl rfl ?_
      refine mj_T.imul (a := ((p * 13 + k : Nat) : Int)) (b := 702) rfl ?_
      rw [show ((p * 13 + k : Nat) : Int) * 702 = (((p * 13 + k) * 702 : Nat) : Int) by omega]
      iterate 3 refine mj_T.pl rfl rfl rfl rfl ?_
      refine mj_T.call (ins := .invokestatic 104) rfl rfl (Nat.le_of_ble_eq_true rfl) (Nat.le_of_ble_eq_true rfl) rfl rfl (jq_slot (D := D + 1) (p := p) (i := k)) (fun v' h' hq' => ?_) (fun i h' hq' => by cases hq')
      cases hq'
      refine mj_T.call (ins := .invokevirtual 68) rfl rfl (Nat.le_of_ble_eq_true rfl) (Nat.le_of_ble_eq_true rfl) (by simp [mj_recv, jS_a G hs]) rfl (jS_sign (D := D + 1) G (s := p * 13 + k) (by omega) hs) (fun v' h' hq' => ?_) (fun i h' hq' => by cases hq')
      cases hq'
      have ev : jfl V p (fun e => - V (p * 13 + e)) k (p * 13 + k) = V (p * 13 + k) := jfl_off V p _ (by omega)
      rw [ev]
      refine mj_T.ineg rfl ?_
      rw [show - jsg (V (p * 13 + k)) = jsg (- V (p * 13 + k)) by unfold jsg; (repeat' split) <;> omega]
      refine jS_st G hs (s := p * 13 + k) (w := - V (p * 13 + k)) (by omega) (by rw [ev]; exact Int.natAbs_neg _) rfl (fun h1 hs1 => ?_)
      refine mj_T.iinc (a := k) rfl rfl ?_
      refine mj_T.pl rfl rfl rfl rfl ?_
      exact ih (k + 1) h1 (by omega) (hs1.to (jfl_succ _ _ _ _))
theorem jp_negates (G : jG hp q0 q1 q2 q3 fs) {p : Nat} (hpp : p ≤ 50) (hs : jS hp q1 q2 q3 V h) : mj_Ok (D + 3) 208 [.ref q0, .int (jn (p : Nat))] h (fun r => ∃ h', jS hp q1 q2 q3 (jfl V p (fun e => - V (p * 13 + e)) 13) h' ∧ r = (.inl none, h')) := by
  refine mj_Ok.of (M := mj_m208) rfl rfl rfl ?_
  iterate 2 refine mj_T.pl rfl rfl rfl rfl ?_
  exact jp_negates_loop (D := D) G hpp (fun h k => ⟨h, k, rfl⟩) 13 0 h rfl (hs.to (jfl_zero _ _ _))
end JQ
/-! The reference's polynomials: sums, derivatives, whether they fit. -/
section JR
variable {D : Nat} {hp h : mj_H} {q0 q1 q2 q3 : Nat} {fs : List Value} {V : Nat → Int}
theorem jp_adds_loop (G : jG hp q0 q1 q2 q3 fs) {p a b : Nat} {f : Int} (hpp : p ≤ 50) (haa : a ≤ 50) (hbb : b ≤ 50) (hf : f = 1 ∨ f = -1) (hfit : ∀ e, e < 13 → jnl (V (a * 13 + e) + f * V (b * 13 + e)).natAbs ≤ 698) {Q : mj_R → Prop} (hend : ∀ h, jS hp q1 q2 q3 (jfl V p (fun e => V (a * 13 + e) + f * V (b * 13 + e)) 13) h → Q (.inl none, h)) :
    ∀ (d k : Nat) (h : mj_H), k + d = 13 → jS hp q1 q2 q3 (jfl V p (fun e => V (a * 13 + e) + f * V (b * 13 + e)) k) h → mj_T (D + 4) mj_m201 3 [some (.ref q0), some (.int (jn (p : Nat))), some (.int (jn (a : Nat))), some (.int (jn (b : Nat))), some (.int (jn f)), some (.int (jn (k : Nat)))] [] h Q := by
  intro d
  induction d with
  | zero =>
    intro k h hk hs
    have hk : k = 13 := by omega
    subst hk
    iterate 2 refine mj_T.pl rfl rfl rfl rfl ?_
    refine mj_T.icmp (a := ((13 : Nat) : Int)) (b := 13) rfl ⟨by decide, by decide⟩ ⟨by decide, by decide⟩ (fun hc => ?_) (fun hc => ?_)
    · exact mj_T.ret rfl rfl rfl (hend h hs)
    · simp [jc] at hc
  | succ d ih =>
    intro k h hk hs
    iterate 2 refine mj_T.pl rfl rfl rfl rfl ?_
    refine mj_T.icmp (a := (k : Int)) (b := 13) rfl ⟨by omega, by omega⟩ ⟨by decide, by decide⟩ (fun hc => ?_) (fun hc => ?_)
    · simp only [jc, decide_eq_true_eq] at hc
      omega
    · have ea : jfl V p (fun e => V (a * 13 + e) + f * V (b * 13 + e)) k (a * 13 + k) = V (a * 13 + k) := jfl_off V p _ (by omega)
      have eb : jfl V p (fun e => V (a * 13 + e) + f * V (b * 13 + e)) k (b * 13 + k) = V (b * 13 + k) := jfl_off V p _ (by omega)
      iterate 3 refine mj_T.pl rfl rfl rfl rfl ?_
      refine mj_T.call (ins := .invokestatic 104) rfl rfl (Nat.le_of_ble_eq_true rfl) (Nat.le_of_ble_eq_true rfl) rfl rfl (jq_slot (D := D + 3) (p := p) (i := k)) (fun v' h' hq' => ?_) (fun i h' hq' => by cases hq')
      cases hq'
      iterate 2 refine mj_T.pl rfl rfl rfl rfl ?_
      refine mj_T.call (ins := .invokestatic 104) rfl rfl (Nat.le_of_ble_eq_true rfl) (Nat.le_of_ble_eq_true rfl) rfl rfl (jq_slot (D := D + 3) (p := a) (i := k)) (fun v' h' hq' => ?_) (fun i h' hq' => by cases hq')
      cases hq'
      iterate 2 refine mj_T.pl rfl rfl rfl rfl ?_
      refine mj_T.call (ins := .invokestatic 104) rfl rfl (Nat.le_of_ble_eq_true rfl) (Nat.le_of_ble_eq_true rfl) rfl rfl (jq_slot (D := D + 3) (p := b) (i := k)) (fun v' h' hq' => ?_) (fun i h' hq' => by cases hq')
      cases hq'
      refine mj_T.pl rfl rfl rfl rfl ?_
      refine mj_T.call (ins := .invokevirtual 107) rfl rfl (Nat.le_of_ble_eq_true rfl) (Nat.le_of_ble_eq_true rfl) (by simp [mj_recv, jS_a G hs]) rfl (jS_adds (D := D) G (to := p * 13 + k) (a := a * 13 + k) (b := b * 13 + k) (f := f) (by omega) (by omega) (by omega) hf (by rw [ea, eb]; exact hfit k (by omega)) hs) (fun v' h1 hq' => ?_) (fun i h' hq' => by obtain ⟨_, _, h⟩ := hq'; cases h)
      obtain ⟨_, hs1, hq'⟩ := hq'
      cases hq'
      refine mj_T.iinc (a := k) rfl rfl ?_
      refine mj_T.pl rfl rfl rfl rfl ?_
      refine ih (k + 1) h1 (by omega) (hs1.to ?_)
      rw [jfl_succ, ea, eb]
theorem jp_addsPoly (G : jG hp q0 q1 q2 q3 fs) {p a b : Nat} {f : Int} (hpp : p ≤ 50) (haa : a ≤ 50) (hbb : b ≤ 50) (hf : f = 1 ∨ f = -1) (hfit : ∀ e, e < 13 → jnl (V (a * 13 + e) + f * V (b * 13 + e)).natAbs ≤ 698) (hs : jS hp q1 q2 q3 V h) :
    mj_Ok (D + 5) 201 [.ref q0, .int (jn (p : Nat)), .int (jn (a : Nat)), .int (jn (b : Nat)), .int (jn f)] h (fun r => ∃ h', jS hp q1 q2 q3 (jfl V p (fun e => V (a * 13 + e) + f * V (b * 13 + e)) 13) h' ∧ r = (.inl none, h')) := by
  refine mj_Ok.of (M := mj_m201) rfl rfl rfl ?_
  iterate 2 refine mj_T.pl rfl rfl rfl rfl ?_
  exact jp_adds_loop (D := D) G hpp haa hbb hf hfit (fun h k => ⟨h, k, rfl⟩) 13 0 h rfl (hs.to (jfl_zero _ _ _))
/-- the derivative's coefficients -/
def jdv (V : Nat → Int) (a : Nat) : Nat → Int := fun e => V (a * 13 + e + 1) * ((e + 1 : Nat) : Int)
theorem jp_derives_loop (G : jG hp q0 q1 q2 q3 fs) {p a : Nat} (hpp : p ≤ 49) (haa : a ≤ 49) (hne : p ≠ a) (hfit : ∀ e, e < 12 → jnl (V (a * 13 + e + 1) * ((e + 1 : Nat) : Int)).natAbs ≤ 698) {Q : mj_R → Prop}
    (hend : ∀ (W : Nat → Int) (h : mj_H), jS hp q1 q2 q3 W h → (∀ s, s ≠ 652 → W s = jfl V p (jdv V a) 12 s) → mj_T (D + 2) mj_m206 42 [some (.ref q0), some (.int (jn (p : Nat))), some (.int (jn (a : Nat))), some (.int (jn ((13 : Nat) : Int)))] [] h Q) :
    ∀ (d k : Nat) (W : Nat → Int) (h : mj_H), k + d = 12 → jS hp q1 q2 q3 W h → (∀ s, s ≠ 652 → W s = jfl V p (jdv V a) k s) → mj_T (D + 2) mj_m206 2 [some (.ref q0), some (.int (jn (p : Nat))), some (.int (jn (a : Nat))), some (.int (jn ((k + 1 : Nat) : Int)))] [] h Q := by
  intro d
  induction d with
  | zero =>
    intro k W h hk hs hW
    have hk : k = 12 := by omega
    subst hk
    iterate 2 refine mj_T.pl rfl rfl rfl rfl ?_
    refine mj_T.icmp (a := ((12 + 1 : Nat) : Int)) (b := 12) rfl ⟨by decide, by decide⟩ ⟨by decide, by decide⟩ (fun hc => ?_) (fun hc => ?_)
    · exact hend W h hs hW
    · simp [jc] at hc
  | succ d ih =>
    intro k W h hk hs hW
    iterate 2 refine mj_T.pl rfl rfl rfl rfl ?_
    refine mj_T.icmp (a := ((k + 1 : Nat) : Int)) (b := 12) rfl ⟨by omega, by omega⟩ ⟨by decide, by decide⟩ (fun hc => ?_) (fun hc => ?_)
    · simp only [jc, decide_eq_true_eq] at hc
      omega
    · have ea : W (a * 13 + (k + 1)) = V (a * 13 + k + 1) := by
        rw [hW _ (by omega), jfl_off V p _ (by omega)]
        rfl
      iterate 3 refine mj_T.pl rfl rfl rfl rfl ?_
      refine mj_T.i2l rfl ⟨by omega, by omega⟩ ?_
      refine mj_T.call (ins := .invokevirtual 45) rfl rfl (Nat.le_of_ble_eq_true rfl) (Nat.le_of_ble_eq_true rfl) (by simp [mj_recv, jS_a G hs]) rfl (jS_sets (D := D + 1) G (s := 652) (v := ((k + 1 : Nat) : Int)) (by decide) ⟨by omega, by omega⟩ hs) (fun v' h1 hq' => ?_) (fun i h' hq' => by obtain ⟨_, _, h⟩ := hq'; cases h)
      obtain ⟨_, hs1, hq'⟩ := hq'
      cases hq'
      have e1 : jvu W 652 ((k + 1 : Nat) : Int) (a * 13 + (k + 1)) = V (a * 13 + k + 1) := by unfold jvu; rw [if_neg (by omega)]; exact ea
      have e2 : jvu W 652 ((k + 1 : Nat) : Int) 652 = ((k + 1 : Nat) : Int) := by unfold jvu; rw [if_pos rfl]
      iterate 4 refine mj_T.pl rfl rfl rfl rfl ?_
      refine mj_T.isub (a := ((k + 1 : Nat) : Int)) (b := 1) rfl ?_
      rw [show ((k + 1 : Nat) : Int) - 1 = (k : Int) by omega]
      refine mj_T.call (ins := .invokestatic 104) rfl rfl (Nat.le_of_ble_eq_true rfl) (Nat.le_of_ble_eq_true rfl) rfl rfl (jq_slot (D := D + 1) (p := p) (i := k)) (fun v' h' hq' => ?_) (fun i h' hq' => by cases hq')
      cases hq'
      iterate 2 refine mj_T.pl rfl rfl rfl rfl ?_
      refine mj_T.call (ins := .invokestatic 104) rfl rfl (Nat.le_of_ble_eq_true rfl) (Nat.le_of_ble_eq_true rfl) rfl rfl (jq_slot (D := D + 1) (p := a) (i := k + 1)) (fun v' h' hq' => ?_) (fun i h' hq' => by cases hq')
      cases hq'
      refine mj_T.pl rfl rfl rfl rfl ?_
      refine mj_T.call (ins := .invokevirtual 117) rfl rfl (Nat.le_of_ble_eq_true rfl) (Nat.le_of_ble_eq_true rfl) (by simp [mj_recv, jS_a G hs1]) rfl (jS_mul (D := D) G (to := p * 13 + k) (a := a * 13 + (k + 1)) (b := 652) (by omega) (by omega) (by decide) (by rw [e1, e2]; exact hfit k (by omega)) hs1) (fun v' h2 hq' => ?_) (fun i h' hq' => by obtain ⟨_, _, h⟩ := hq'; cases h)
      obtain ⟨_, hs2, hq'⟩ := hq'
      cases hq'
      refine mj_T.iinc (a := ((k + 1 : Nat) : Int)) rfl rfl ?_
      refine mj_T.pl rfl rfl rfl rfl ?_
      refine ih (k + 1) _ h2 (by omega) hs2 (fun s h652 => ?_)
      rw [e1, e2, jfl_succ]
      unfold jvu
      by_cases c : s = p * 13 + k
      · rw [if_pos c, if_pos c]
        rfl
      · rw [if_neg c, if_neg c, if_neg h652]
        exact hW s h652
theorem jp_derives (G : jG hp q0 q1 q2 q3 fs) {p a : Nat} (hpp : p ≤ 49) (haa : a ≤ 49) (hne : p ≠ a) (hfit : ∀ e, e < 12 → jnl (V (a * 13 + e + 1) * ((e + 1 : Nat) : Int)).natAbs ≤ 698) (hs : jS hp q1 q2 q3 V h) :
    mj_Ok (D + 3) 206 [.ref q0, .int (jn (p : Nat)), .int (jn (a : Nat))] h (fun r => ∃ (W : Nat → Int) (h' : mj_H), jS hp q1 q2 q3 W h' ∧ (∀ s, s ≠ 652 → W s = jfl V p (fun e => if e < 12 then jdv V a e else 0) 13 s) ∧ r = (.inl none, h')) := by
  refine mj_Ok.of (M := mj_m206) rfl rfl rfl ?_
  iterate 2 refine mj_T.pl rfl rfl rfl rfl ?_
  refine jp_derives_loop (D := D) G hpp haa hne hfit (fun W h1 hs1 hW => ?_) 12 0 V h rfl hs (fun s _ => by rw [jfl_zero])
  iterate 3 refine mj_T.pl rfl rfl rfl rfl ?_
  refine mj_T.call (ins := .invokestatic 104) rfl rfl (Nat.le_of_ble_eq_true rfl) (Nat.le_of_ble_eq_true rfl) rfl rfl (jq_slot (D := D + 1) (p := p) (i := 12)) (fun v' h' hq' => ?_) (fun i h' hq' => by cases hq')
  cases hq'
  refine mj_T.pl rfl rfl rfl rfl ?_
  refine mj_T.call (ins := .invokevirtual 45) rfl rfl (Nat.le_of_ble_eq_true rfl) (Nat.le_of_ble_eq_true rfl) (by simp [mj_recv, jS_a G hs1]) rfl (jS_sets (D := D + 1) G (s := p * 13 + 12) (v := 0) (by omega) ⟨by decide, by decide⟩ hs1) (fun v' h2 hq' => ?_) (fun i h' hq' => by obtain ⟨_, _, h⟩ := hq'; cases h)
  obtain ⟨_, hs2, hq'⟩ := hq'
  cases hq'
  refine mj_T.ret rfl rfl rfl ⟨_, h2, hs2, fun s h652 => ?_, rfl⟩
  unfold jvu
  by_cases c : s = p * 13 + 12
  · rw [if_pos c, c, jfl_at _ _ _ (by omega), if_neg (by omega)]
  · rw [if_neg c, hW s h652]
    unfold jfl
    by_cases c2 : p * 13 ≤ s ∧ s < p * 13 + 12
    · rw [if_pos c2, if_pos (by omega)]
      show jdv V a (s - p * 13) = (if s - p * 13 < 12 then jdv V a (s - p * 13) else 0)
      rw [if_pos (by omega)]
    · rw [if_neg c2, if_neg (by omega)]
end JR
/-! The reference's contents: the greatest number that divides all coefficients; polynomials divided by it. -/
/-- the greatest common divisor of the upper coefficients of a polynomial -/
def jgk (V : Nat → Int) (p : Nat) : Nat → Nat
  | 0 => 0
  | m + 1 => Nat.gcd (jgk V p m) (V (p * 13 + (12 - m))).natAbs
theorem jgk_dvd (V : Nat → Int) (p : Nat) : ∀ m e, m ≤ 13 → 13 ≤ e + m → e < 13 → jgk V p m ∣ (V (p * 13 + e)).natAbs
  | 0, e, _, h1, h2 => by omega
  | m + 1, e, h0, h1, h2 => by
    by_cases c : e = 12 - m
    · rw [c]
      exact Nat.gcd_dvd_right _ _
    · exact Nat.dvd_trans (Nat.gcd_dvd_left _ _) (jgk_dvd V p m e (by omega) (by omega) h2)
theorem jgk_max (V : Nat → Int) (p d : Nat) (h : ∀ e, e < 13 → d ∣ (V (p * 13 + e)).natAbs) : ∀ m, m ≤ 13 → d ∣ jgk V p m
  | 0, _ => Nat.dvd_zero d
  | m + 1, h0 => Nat.dvd_gcd (jgk_max V p d h m (by omega)) (h (12 - m) (by omega))
theorem jgk_zero (V : Nat → Int) (p : Nat) : ∀ m, m ≤ 13 → (∀ e, 13 - m ≤ e → e < 13 → V (p * 13 + e) = 0) → jgk V p m = 0
  | 0, _, _ => rfl
  | m + 1, h0, h => by
    show Nat.gcd (jgk V p m) (V (p * 13 + (12 - m))).natAbs = 0
    rw [jgk_zero V p m (by omega) (fun e h1 h2 => h e (by omega) h2), h (12 - m) (by omega) (by omega)]
    rfl
section JCN
variable {D : Nat} {hp h : mj_H} {q0 q1 q2 q3 : Nat} {fs : List Value} {V : Nat → Int}
theorem jp_contents_loop (G : jG hp q0 q1 q2 q3 fs) {to p : Nat} (hto : to < 665) (hpp : p ≤ 49) (t0 : 650 ≤ to) (t1 : to ≠ 652) (t2 : to ≠ 655) (t3 : to ≠ 663) (t4 : to ≠ 664) {Q : mj_R → Prop}
    (hend : ∀ (W : Nat → Int) (h : mj_H), jS hp q1 q2 q3 W h → W to = ((jgk V p 13 : Nat) : Int) → (∀ s, s ≠ to → s ≠ 652 → s ≠ 655 → s ≠ 663 → s ≠ 664 → W s = V s) → Q (.inl none, h)) :
    ∀ (k : Nat) (W : Nat → Int) (h : mj_H), k ≤ 13 → jS hp q1 q2 q3 W h → W to = ((jgk V p (13 - k) : Nat) : Int) → (∀ s, s ≠ to → s ≠ 652 → s ≠ 655 → s ≠ 663 → s ≠ 664 → W s = V s) → mj_T (D + 5) mj_m207 12 [some (.ref q0), some (.int (jn (to : Nat))), some (.int (jn (p : Nat))), some (.int (jn ((k : Int) - 1)))] [] h Q := by
  intro k
  induction k with
  | zero =>
    intro W h _ hs hg hf
    refine mj_T.pl rfl rfl rfl rfl ?_
    refine mj_T.if0 rfl ⟨by omega, by omega⟩ (fun hc => ?_) (fun hc => ?_)
    · exact mj_T.ret rfl rfl rfl (hend W h hs hg hf)
    · simp only [jc, decide_eq_false_iff_not] at hc
      omega
  | succ k ih =>
    intro W h hk hs hg hf
    rw [show ((k + 1 : Nat) : Int) - 1 = (k : Int) by omega]
    refine mj_T.pl rfl rfl rfl rfl ?_
    refine mj_T.if0 rfl ⟨by omega, by omega⟩ (fun hc => ?_) (fun hc => ?_)
    · simp only [jc, decide_eq_true_eq] at hc
      omega
    · iterate 3 refine mj_T.pl rfl rfl rfl rfl ?_
      refine mj_T.call (ins := .invokevirtual 84) rfl rfl (Nat.le_of_ble_eq_true rfl) (Nat.le_of_ble_eq_true rfl) (by simp [mj_recv, jS_a G hs]) rfl (jS_copies (D := D + 3) G (to := 652) (s := to) (by decide) hto hs) (fun v' h1 hq' => ?_) (fun i h' hq' => by obtain ⟨_, _, h⟩ := hq'; cases h)
      obtain ⟨_, hs1, hq'⟩ := hq'
      cases hq'
      iterate 5 refine mj_T.pl rfl rfl rfl rfl ?_
      refine mj_T.call (ins := .invokestatic 104) rfl rfl (Nat.le_of_ble_eq_true rfl) (Nat.le_of_ble_eq_true rfl) rfl rfl (jq_slot (D := D + 4) (p := p) (i := k)) (fun v' h' hq' => ?_) (fun i h' hq' => by cases hq')
      cases hq'
      refine mj_T.call (ins := .invokevirtual 127) rfl rfl (Nat.le_of_ble_eq_true rfl) (Nat.le_of_ble_eq_true rfl) (by simp [mj_recv, jS_a G hs1]) rfl (jp_commons (D := D) G (to := to) (i := 652) (j := p * 13 + k) hto (by decide) (by omega) t2 t3 t4 (by omega) hs1) (fun v' h2 hq' => ?_) (fun i h' hq' => by obtain ⟨_, _, _, _, _, h⟩ := hq'; cases h)
      obtain ⟨W2, _, hs2, g2, f2, hq'⟩ := hq'
      cases hq'
      refine mj_T.iinc (a := k) rfl rfl ?_
      refine mj_T.pl rfl rfl rfl rfl ?_
      refine ih W2 h2 (by omega) hs2 ?_ (fun s s1 s2 s3 s4 s5 => ?_)
      · have e1 : jvu W 652 (W to) 652 = W to := by unfold jvu; rw [if_pos rfl]
        have e2 : jvu W 652 (W to) (p * 13 + k) = V (p * 13 + k) := by
          unfold jvu
          rw [if_neg (by omega)]
          exact hf _ (by omega) (by omega) (by omega) (by omega) (by omega)
        rw [g2, e1, e2, hg, Int.natAbs_natCast, show 13 - k = (13 - (k + 1)) + 1 by omega]
        show _ = ((Nat.gcd (jgk V p (13 - (k + 1))) (V (p * 13 + (12 - (13 - (k + 1))))).natAbs : Nat) : Int)
        rw [show 12 - (13 - (k + 1)) = k by omega]
      · rw [f2 s s1 s3 s4 s5]
        unfold jvu
        rw [if_neg s2]
        exact hf s s1 s2 s3 s4 s5
theorem jp_contents (G : jG hp q0 q1 q2 q3 fs) {to p : Nat} (hto : to < 665) (hpp : p ≤ 49) (t0 : 650 ≤ to) (t1 : to ≠ 652) (t2 : to ≠ 655) (t3 : to ≠ 663) (t4 : to ≠ 664) (hs : jS hp q1 q2 q3 V h) :
    mj_Ok (D + 6) 207 [.ref q0, .int (jn (to : Nat)), .int (jn (p : Nat))] h (fun r => ∃ (W : Nat → Int) (h' : mj_H), jS hp q1 q2 q3 W h' ∧ W to = ((jgk V p 13 : Nat) : Int) ∧ (∀ s, s ≠ to → s ≠ 652 → s ≠ 655 → s ≠ 663 → s ≠ 664 → W s = V s) ∧ r = (.inl none, h')) := by
  refine mj_Ok.of (M := mj_m207) rfl rfl rfl ?_
  iterate 3 refine mj_T.pl rfl rfl rfl rfl ?_
  refine mj_T.call (ins := .invokevirtual 45) rfl rfl (Nat.le_of_ble_eq_true rfl) (Nat.le_of_ble_eq_true rfl) (by simp [mj_recv, jS_a G hs]) rfl (jS_sets (D := D + 4) G (s := to) (v := 0) hto ⟨by decide, by decide⟩ hs) (fun v' h1 hq' => ?_) (fun i h' hq' => by obtain ⟨_, _, h⟩ := hq'; cases h)
  obtain ⟨_, hs1, hq'⟩ := hq'
  cases hq'
  iterate 2 refine mj_T.pl rfl rfl rfl rfl ?_
  refine mj_T.call (ins := .invokevirtual 114) rfl rfl (Nat.le_of_ble_eq_true rfl) (Nat.le_of_ble_eq_true rfl) (by simp [mj_recv, jS_a G hs1]) rfl (jp_degreeOf (D := D + 3) G (p := p) (by omega) hs1) (fun v' h' hq' => ?_) (fun i h' hq' => by cases hq')
  cases hq'
  refine mj_T.pl rfl rfl rfl rfl ?_
  have e0 : ∀ e, e < 13 → jvu V to 0 (p * 13 + e) = V (p * 13 + e) := fun e he => by unfold jvu; rw [if_neg (by omega)]
  have hle := jdg_le (jvu V to 0) p 13
  refine jp_contents_loop (D := D) (V := V) G hto hpp t0 t1 t2 t3 t4 (fun W h2 hs2 g2 f2 => ⟨W, h2, hs2, g2, f2, rfl⟩) (jdg (jvu V to 0) p 13) _ h1 hle hs1 ?_ (fun s s1 s2 s3 s4 s5 => by unfold jvu; rw [if_neg s1])
  rw [jgk_zero V p _ (by omega) (fun e a b => by rw [← e0 e b]; exact jdg_zero _ p 13 e (by omega) b)]
  unfold jvu
  rw [if_pos rfl]
  rfl
theorem jp_shrinks_loop (G : jG hp q0 q1 q2 q3 fs) {p : Nat} (hpp : p ≤ 49) {g : Nat} {Q : mj_R → Prop}
    (hend : ∀ (W : Nat → Int) (h : mj_H), jS hp q1 q2 q3 W h → (∀ e, e < 13 → W (p * 13 + e) = (V (p * 13 + e)).tdiv (g : Int)) → (∀ s, (s < p * 13 ∨ p * 13 + 13 ≤ s) → s ≠ 663 → s ≠ 664 → W s = V s) → Q (.inl none, h)) :
    ∀ (k : Nat) (W : Nat → Int) (h : mj_H), k ≤ 13 → (1 ≤ k → 0 < g) → jS hp q1 q2 q3 W h → V 653 = (g : Int) → (∀ e, k ≤ e → e < 13 → W (p * 13 + e) = (V (p * 13 + e)).tdiv (g : Int)) → (∀ e, e < k → W (p * 13 + e) = V (p * 13 + e)) → (∀ s, (s < p * 13 ∨ p * 13 + 13 ≤ s) → s ≠ 663 → s ≠ 664 → W s = V s) → mj_T (D + 5) mj_m209 38 [some (.ref q0), some (.int (jn (p : Nat))), some (.int (jn ((k : Int) - 1)))] [] h Q := by
  intro k
  induction k with
  | zero =>
    intro W h _ _ hs hv hd hu hf
    refine mj_T.pl rfl rfl rfl rfl ?_
    refine mj_T.if0 rfl ⟨by omega, by omega⟩ (fun hc => ?_) (fun hc => ?_)
    · exact mj_T.ret rfl rfl rfl (hend W h hs (fun e he => hd e (Nat.zero_le _) he) hf)
    · simp only [jc, decide_eq_false_iff_not] at hc
      omega
  | succ k ih =>
    intro W h hk hg0 hs hv hd hu hf
    have hg := hg0 (by omega)
    rw [show ((k + 1 : Nat) : Int) - 1 = (k : Int) by omega]
    refine mj_T.pl rfl rfl rfl rfl ?_
    refine mj_T.if0 rfl ⟨by omega, by omega⟩ (fun hc => ?_) (fun hc => ?_)
    · simp only [jc, decide_eq_true_eq] at hc
      omega
    · have w653 : W 653 = (g : Int) := by rw [hf 653 (by omega) (by decide) (by decide)]; exact hv
      iterate 3 refine mj_T.pl rfl rfl rfl rfl ?_
      refine mj_T.call (ins := .invokestatic 104) rfl rfl (Nat.le_of_ble_eq_true rfl) (Nat.le_of_ble_eq_true rfl) rfl rfl (jq_slot (D := D + 4) (p := p) (i := k)) (fun v' h' hq' => ?_) (fun i h' hq' => by cases hq')
      cases hq'
      refine mj_T.pl rfl rfl rfl rfl ?_
      refine mj_T.call (ins := .invokevirtual 133) rfl rfl (Nat.le_of_ble_eq_true rfl) (Nat.le_of_ble_eq_true rfl) (by simp [mj_recv, jS_a G hs]) rfl (jp_exact (D := D) G (i := p * 13 + k) (j := 653) (by omega) (by decide) (by omega) (by omega) (by omega) (by decide) (by rw [w653]; omega) hs) (fun v' h1 hq' => ?_) (fun i h' hq' => by obtain ⟨_, _, _, _, _, h⟩ := hq'; cases h)
      obtain ⟨W1, _, hs1, g1, f1, hq'⟩ := hq'
      cases hq'
      refine mj_T.iinc (a := k) rfl rfl ?_
      refine mj_T.pl rfl rfl rfl rfl ?_
      refine ih W1 h1 (by omega) (fun _ => hg) hs1 hv (fun e a b => ?_) (fun e a => ?_) (fun s a b c => ?_)
      · by_cases c : e = k
        · rw [c, g1, w653, hu k (by omega)]
        · rw [f1 _ (by omega) (by omega) (by omega)]
          exact hd e (by omega) b
      · rw [f1 _ (by omega) (by omega) (by omega)]
        exact hu e (by omega)
      · rw [f1 s (by omega) b c]
        exact hf s a b c
theorem jgk_one {g : Nat} (h1 : jnl g = 1) (h2 : jlb g 0 = 1) : g = 1 := by
  have e1 := jnl_le_lt.mp (Nat.le_of_eq h1)
  rw [Nat.pow_one] at e1
  have e3 : g < 1000000000 := e1
  have e2 : jlb g 0 = g % 1000000000 := by
    show g / jB ^ 0 % jB = g % 1000000000
    rw [Nat.pow_zero, Nat.div_one]
  omega
end JCN
/-! The reference's polynomials without their contents. -/
section JSH
variable {D : Nat} {hp h : mj_H} {q0 q1 q2 q3 : Nat} {fs : List Value} {V : Nat → Int}
theorem jp_shrinks (G : jG hp q0 q1 q2 q3 fs) {p : Nat} (hpp : p ≤ 49) (hs : jS hp q1 q2 q3 V h) :
    mj_Ok (D + 7) 209 [.ref q0, .int (jn (p : Nat))] h (fun r => ∃ (W : Nat → Int) (h' : mj_H), jS hp q1 q2 q3 W h' ∧ (∀ e, e < 13 → W (p * 13 + e) = (V (p * 13 + e)).tdiv ((jgk V p 13 : Nat) : Int)) ∧ (∀ s, (s < p * 13 ∨ p * 13 + 13 ≤ s) → s ≠ 652 → s ≠ 653 → s ≠ 655 → s ≠ 663 → s ≠ 664 → W s = V s) ∧ r = (.inl none, h')) := by
  refine mj_Ok.of (M := mj_m209) rfl rfl rfl ?_
  iterate 3 refine mj_T.pl rfl rfl rfl rfl ?_
  refine mj_T.call (ins := .invokevirtual 130) rfl rfl (Nat.le_of_ble_eq_true rfl) (Nat.le_of_ble_eq_true rfl) (by simp [mj_recv, jS_a G hs]) rfl (jp_contents (D := D) G (to := 653) (p := p) (by decide) hpp (by decide) (by decide) (by decide) (by decide) (by decide) hs) (fun v' h1 hq' => ?_) (fun i h' hq' => by obtain ⟨_, _, _, _, _, h⟩ := hq'; cases h)
  obtain ⟨W1, _, hs1, g1, f1, hq'⟩ := hq'
  cases hq'
  have e1 : ∀ e, e < 13 → W1 (p * 13 + e) = V (p * 13 + e) := fun e he => f1 _ (by omega) (by omega) (by omega) (by omega) (by omega)
  generalize hgg : jgk V p 13 = g at g1 ⊢
  -- from the loop on
  have loop : mj_T (D + 6) mj_m209 32 [some (.ref q0), some (.int (jn (p : Nat))), none] [] h1 (fun r => ∃ (W : Nat → Int) (h' : mj_H), jS hp q1 q2 q3 W h' ∧ (∀ e, e < 13 → W (p * 13 + e) = (V (p * 13 + e)).tdiv ((g : Nat) : Int)) ∧ (∀ s, (s < p * 13 ∨ p * 13 + 13 ≤ s) → s ≠ 652 → s ≠ 653 → s ≠ 655 → s ≠ 663 → s ≠ 664 → W s = V s) ∧ r = (.inl none, h')) := by
    iterate 2 refine mj_T.pl rfl rfl rfl rfl ?_
    refine mj_T.call (ins := .invokevirtual 114) rfl rfl (Nat.le_of_ble_eq_true rfl) (Nat.le_of_ble_eq_true rfl) (by simp [mj_recv, jS_a G hs1]) rfl (jp_degreeOf (D := D + 4) G (p := p) (by omega) hs1) (fun v' h' hq' => ?_) (fun i h' hq' => by cases hq')
    cases hq'
    refine mj_T.pl rfl rfl rfl rfl ?_
    have hle := jdg_le W1 p 13
    have hz := jdg_zero W1 p 13
    refine jp_shrinks_loop (D := D + 1) (V := W1) G hpp (g := g) (fun W2 h2 hs2 g2 f2 => ⟨W2, h2, hs2, fun e he => by rw [g2 e he, e1 e he], fun s a b c d e f => by rw [f2 s a e f]; exact f1 s c b d e f, rfl⟩) (jdg W1 p 13) W1 h1 hle (fun hk => ?_) hs1 g1 (fun e a b => ?_) (fun e _ => rfl) (fun s _ _ _ => rfl)
    · have hn := jdg_ne W1 p 13 hk
      rcases Nat.eq_zero_or_pos g with q | q
      · have hd := jgk_dvd V p 13 (jdg W1 p 13 - 1) (Nat.le_refl _) (by omega) (by omega)
        rw [hgg, q] at hd
        rw [e1 _ (by omega)] at hn
        have := Nat.eq_zero_of_zero_dvd hd
        omega
      · exact q
    · rw [hz e a b]
      exact (Int.zero_tdiv _).symm
  have done : g = 1 → (∃ (W : Nat → Int) (h' : mj_H), jS hp q1 q2 q3 W h' ∧ (∀ e, e < 13 → W (p * 13 + e) = (V (p * 13 + e)).tdiv ((g : Nat) : Int)) ∧ (∀ s, (s < p * 13 ∨ p * 13 + 13 ≤ s) → s ≠ 652 → s ≠ 653 → s ≠ 655 → s ≠ 663 → s ≠ 664 → W s = V s) ∧ ((.inl none, h1) : mj_R) = (.inl none, h')) := fun q => ⟨W1, h1, hs1, fun e he => by rw [q, e1 e he]; exact (Int.tdiv_one _).symm, fun s a b c d e f => f1 s c b d e f, rfl⟩
  iterate 2 refine mj_T.pl rfl rfl rfl rfl ?_
  refine mj_T.call (ins := .invokevirtual 52) rfl rfl (Nat.le_of_ble_eq_true rfl) (Nat.le_of_ble_eq_true rfl) (by simp [mj_recv, jS_a G hs1]) rfl (jS_length (D := D + 5) G (s := 653) (by decide) hs1) (fun v' h' hq' => ?_) (fun i h' hq' => by cases hq')
  cases hq'
  rw [g1, Int.natAbs_natCast]
  have hn : jnl g ≤ 700 := by
    obtain ⟨bg, ov, db, k, -⟩ := hs1
    have := (k 653 (by decide)).2.2.2
    rw [g1, Int.natAbs_natCast] at this
    exact this
  refine mj_T.pl rfl rfl rfl rfl ?_
  refine mj_T.icmp (a := ((jnl g : Nat) : Int)) (b := 1) rfl ⟨by omega, by omega⟩ ⟨by decide, by decide⟩ (fun hc => ?_) (fun hc => ?_)
  · exact loop
  · simp only [jc, Bool.not_eq_false', decide_eq_true_eq] at hc
    iterate 3 refine mj_T.pl rfl rfl rfl rfl ?_
    refine mj_T.call (ins := .invokevirtual 64) rfl rfl (Nat.le_of_ble_eq_true rfl) (Nat.le_of_ble_eq_true rfl) (by simp [mj_recv, jS_a G hs1]) rfl (jS_limb (D := D + 4) G (s := 653) (j := 0) (by decide) (by decide) hs1) (fun v' h' hq' => ?_) (fun i h' hq' => by cases hq')
    cases hq'
    rw [g1, Int.natAbs_natCast]
    have hl := jlb_lt g 0
    refine mj_T.pl rfl rfl rfl rfl ?_
    refine mj_T.icmp (a := ((jlb g 0 : Nat) : Int)) (b := 1) rfl ⟨by omega, by have : jB = 1000000000 := rfl; omega⟩ ⟨by decide, by decide⟩ (fun hc2 => ?_) (fun hc2 => ?_)
    · exact loop
    · simp only [jc, Bool.not_eq_false', decide_eq_true_eq] at hc2
      exact mj_T.ret rfl rfl rfl (done (jgk_one (by omega) (by omega)))
theorem jp_makesPrimitive (G : jG hp q0 q1 q2 q3 fs) {p : Nat} (hpp : p ≤ 49) (hs : jS hp q1 q2 q3 V h) :
    mj_Ok (D + 8) 210 [.ref q0, .int (jn (p : Nat))] h (fun r => ∃ (W : Nat → Int) (h' : mj_H), jS hp q1 q2 q3 W h' ∧ (∃ f : Int, (f = 1 ∨ f = -1) ∧ ∀ e, e < 13 → W (p * 13 + e) = f * (V (p * 13 + e)).tdiv ((jgk V p 13 : Nat) : Int)) ∧ (∀ s, (s < p * 13 ∨ p * 13 + 13 ≤ s) → s ≠ 652 → s ≠ 653 → s ≠ 655 → s ≠ 663 → s ≠ 664 → W s = V s) ∧ r = (.inl none, h')) := by
  refine mj_Ok.of (M := mj_m210) rfl rfl rfl ?_
  iterate 2 refine mj_T.pl rfl rfl rfl rfl ?_
  refine mj_T.call (ins := .invokevirtual 136) rfl rfl (Nat.le_of_ble_eq_true rfl) (Nat.le_of_ble_eq_true rfl) (by simp [mj_recv, jS_a G hs]) rfl (jp_shrinks (D := D) G (p := p) hpp hs) (fun v' h1 hq' => ?_) (fun i h' hq' => by obtain ⟨_, _, _, _, _, h⟩ := hq'; cases h)
  obtain ⟨W1, _, hs1, g1, f1, hq'⟩ := hq'
  cases hq'
  have fin : ∃ (W : Nat → Int) (h' : mj_H), jS hp q1 q2 q3 W h' ∧ (∃ f : Int, (f = 1 ∨ f = -1) ∧ ∀ e, e < 13 → W (p * 13 + e) = f * (V (p * 13 + e)).tdiv ((jgk V p 13 : Nat) : Int)) ∧ (∀ s, (s < p * 13 ∨ p * 13 + 13 ≤ s) → s ≠ 652 → s ≠ 653 → s ≠ 655 → s ≠ 663 → s ≠ 664 → W s = V s) ∧ ((.inl none, h1) : mj_R) = (.inl none, h') := ⟨W1, h1, hs1, ⟨1, Or.inl rfl, fun e he => by rw [g1 e he, Int.one_mul]⟩, f1, rfl⟩
  iterate 2 refine mj_T.pl rfl rfl rfl rfl ?_
  refine mj_T.call (ins := .invokevirtual 114) rfl rfl (Nat.le_of_ble_eq_true rfl) (Nat.le_of_ble_eq_true rfl) (by simp [mj_recv, jS_a G hs1]) rfl (jp_degreeOf (D := D + 5) G (p := p) (by omega) hs1) (fun v' h' hq' => ?_) (fun i h' hq' => by cases hq')
  cases hq'
  have hle := jdg_le W1 p 13
  generalize hdd : jdg W1 p 13 = dd at hle
  iterate 2 refine mj_T.pl rfl rfl rfl rfl ?_
  refine mj_T.if0 rfl ⟨by omega, by omega⟩ (fun hc => ?_) (fun hc => ?_)
  · exact mj_T.ret rfl rfl rfl fin
  · simp only [jc, decide_eq_false_iff_not] at hc
    obtain ⟨e, rfl⟩ : ∃ e, dd = e + 1 := ⟨dd - 1, by omega⟩
    rw [show ((e + 1 : Nat) : Int) - 1 = (e : Int) by omega]
    iterate 3 refine mj_T.pl rfl rfl rfl rfl ?_
    refine mj_T.call (ins := .invokestatic 104) rfl rfl (Nat.le_of_ble_eq_true rfl) (Nat.le_of_ble_eq_true rfl) rfl rfl (jq_slot (D := D + 6) (p := p) (i := e)) (fun v' h' hq' => ?_) (fun i h' hq' => by cases hq')
    cases hq'
    refine mj_T.call (ins := .invokevirtual 68) rfl rfl (Nat.le_of_ble_eq_true rfl) (Nat.le_of_ble_eq_true rfl) (by simp [mj_recv, jS_a G hs1]) rfl (jS_sign (D := D + 6) G (s := p * 13 + e) (by omega) hs1) (fun v' h' hq' => ?_) (fun i h' hq' => by cases hq')
    cases hq'
    have hsr := jsg_range (W1 (p * 13 + e))
    refine mj_T.if0 rfl ⟨by omega, by omega⟩ (fun hc2 => ?_) (fun hc2 => ?_)
    · exact mj_T.ret rfl rfl rfl fin
    · iterate 2 refine mj_T.pl rfl rfl rfl rfl ?_
      refine mj_T.call (ins := .invokevirtual 139) rfl rfl (Nat.le_of_ble_eq_true rfl) (Nat.le_of_ble_eq_true rfl) (by simp [mj_recv, jS_a G hs1]) rfl (jp_negates (D := D + 4) G (p := p) (by omega) hs1) (fun v' h2 hq' => ?_) (fun i h' hq' => by obtain ⟨_, _, h⟩ := hq'; cases h)
      obtain ⟨_, hs2, hq'⟩ := hq'
      cases hq'
      refine mj_T.ret rfl rfl rfl ⟨_, h2, hs2, ⟨-1, Or.inr rfl, fun e' he => ?_⟩, fun s a b c d e f => ?_, rfl⟩
      · rw [jfl_at _ _ _ he, g1 e' he]
        omega
      · rw [jfl_off _ _ _ a]
        exact f1 s a b c d e f
end JSH
/-! The reference's division with remainder: its two inner loops. -/
section JDV
variable {D : Nat} {hp h : mj_H} {q0 q1 q2 q3 : Nat} {fs : List Value} {V : Nat → Int} {a b db n lf dd : Nat}
theorem jp_dv1 (G : jG hp q0 q1 q2 q3 fs) {qf rf : Nat → Int} {lc : Int} (hb : b ≤ 49) (hb2 : b ≠ 2) (hb3 : b ≠ 3) (hdb : db < 13) (hlc : V (b * 13 + db) = lc) (hfq : ∀ e, e < 13 → jnl (qf e * lc).natAbs ≤ 698) (hfr : ∀ e, e < 13 → jnl (rf e * lc).natAbs ≤ 698) {Q : mj_R → Prop}
    (hend : ∀ (W : Nat → Int) (h : mj_H), jS hp q1 q2 q3 W h → (∀ e, e < 13 → W (2 * 13 + e) = qf e * lc ∧ W (3 * 13 + e) = rf e * lc) → (∀ s, (s < 26 ∨ 52 ≤ s) → W s = V s) → mj_T (D + 2) mj_m211 141 [some (.ref q0), some (.int (jn ((2 : Nat) : Int))), some (.int (jn ((3 : Nat) : Int))), some (.int (jn (a : Nat))), some (.int (jn (b : Nat))), some (.int (jn (db : Nat))), some (.int (jn (n : Nat))), some (.int (jn (lf : Nat))), some (.int (jn (dd : Nat))), some (.int (jn ((13 : Nat) : Int)))] [] h Q) :
    ∀ (d k : Nat) (W : Nat → Int) (h : mj_H), k + d = 13 → jS hp q1 q2 q3 W h → (∀ e, e < k → W (2 * 13 + e) = qf e * lc ∧ W (3 * 13 + e) = rf e * lc) → (∀ e, k ≤ e → e < 13 → W (2 * 13 + e) = qf e ∧ W (3 * 13 + e) = rf e) → (∀ s, (s < 26 ∨ 52 ≤ s) → W s = V s) → mj_T (D + 2) mj_m211 82 [some (.ref q0), some (.int (jn ((2 : Nat) : Int))), some (.int (jn ((3 : Nat) : Int))), some (.int (jn (a : Nat))), some (.int (jn (b : Nat))), some (.int (jn (db : Nat))), some (.int (jn (n : Nat))), some (.int (jn (lf : Nat))), some (.int (jn (dd : Nat))), some (.int (jn (k : Nat)))] [] h Q := by
  intro d
  induction d with
  | zero =>
    intro k W h hk hs h1 h2 hf
    have hk : k = 13 := by omega
    subst hk
    iterate 2 refine mj_T.pl rfl rfl rfl rfl ?_
    refine mj_T.icmp (a := ((13 : Nat) : Int)) (b := 13) rfl ⟨by decide, by decide⟩ ⟨by decide, by decide⟩ (fun hc => ?_) (fun hc => ?_)
    · exact hend W h hs h1 hf
    · simp [jc] at hc
  | succ d ih =>
    intro k W h hk hs h1 h2 hf
    obtain ⟨eq, er⟩ := h2 k (Nat.le_refl _) (by omega)
    have el : W (b * 13 + db) = lc := by rw [hf _ (by omega)]; exact hlc
    iterate 2 refine mj_T.pl rfl rfl rfl rfl ?_
    refine mj_T.icmp (a := (k : Int)) (b := 13) rfl ⟨by omega, by omega⟩ ⟨by decide, by decide⟩ (fun hc => ?_) (fun hc => ?_)
    · simp only [jc, decide_eq_true_eq] at hc
      omega
    · iterate 3 refine mj_T.pl rfl rfl rfl rfl ?_
      refine mj_T.call (ins := .invokestatic 104) rfl rfl (Nat.le_of_ble_eq_true rfl) (Nat.le_of_ble_eq_true rfl) rfl rfl (jq_slot (D := D + 1) (p := 2) (i := k)) (fun v' h' hq' => ?_) (fun i h' hq' => by cases hq')
      cases hq'
      iterate 2 refine mj_T.pl rfl rfl rfl rfl ?_
      refine mj_T.call (ins := .invokestatic 104) rfl rfl (Nat.le_of_ble_eq_true rfl) (Nat.le_of_ble_eq_true rfl) rfl rfl (jq_slot (D := D + 1) (p := 2) (i := k)) (fun v' h' hq' => ?_) (fun i h' hq' => by cases hq')
      cases hq'
      iterate 2 refine mj_T.pl rfl rfl rfl rfl ?_
      refine mj_T.call (ins := .invokestatic 104) rfl rfl (Nat.le_of_ble_eq_true rfl) (Nat.le_of_ble_eq_true rfl) rfl rfl (jq_slot (D := D + 1) (p := b) (i := db)) (fun v' h' hq' => ?_) (fun i h' hq' => by cases hq')
      cases hq'
      refine mj_T.call (ins := .invokevirtual 117) rfl rfl (Nat.le_of_ble_eq_true rfl) (Nat.le_of_ble_eq_true rfl) (by simp [mj_recv, jS_a G hs]) rfl (jS_mul (D := D) G (to := 2 * 13 + k) (a := 2 * 13 + k) (b := b * 13 + db) (by omega) (by omega) (by omega) (by rw [eq, el]; exact hfq k (by omega)) hs) (fun v' g1 hq' => ?_) (fun i h' hq' => by obtain ⟨_, _, h⟩ := hq'; cases h)
      obtain ⟨_, hs1, hq'⟩ := hq'
      cases hq'
      have f1 : ∀ s, s ≠ 2 * 13 + k → jvu W (2 * 13 + k) (W (2 * 13 + k) * W (b * 13 + db)) s = W s := fun s c => by unfold jvu; rw [if_neg c]
      have f2 : jvu W (2 * 13 + k) (W (2 * 13 + k) * W (b * 13 + db)) (2 * 13 + k) = qf k * lc := by unfold jvu; rw [if_pos rfl, eq, el]
      generalize jvu W (2 * 13 + k) (W (2 * 13 + k) * W (b * 13 + db)) = W1 at hs1 f1 f2
      iterate 3 refine mj_T.pl rfl rfl rfl rfl ?_
      refine mj_T.call (ins := .invokestatic 104) rfl rfl (Nat.le_of_ble_eq_true rfl) (Nat.le_of_ble_eq_true rfl) rfl rfl (jq_slot (D := D + 1) (p := 3) (i := k)) (fun v' h' hq' => ?_) (fun i h' hq' => by cases hq')
      cases hq'
      iterate 2 refine mj_T.pl rfl rfl rfl rfl ?_
      refine mj_T.call (ins := .invokestatic 104) rfl rfl (Nat.le_of_ble_eq_true rfl) (Nat.le_of_ble_eq_true rfl) rfl rfl (jq_slot (D := D + 1) (p := 3) (i := k)) (fun v' h' hq' => ?_) (fun i h' hq' => by cases hq')
      cases hq'
      iterate 2 refine mj_T.pl rfl rfl rfl rfl ?_
      refine mj_T.call (ins := .invokestatic 104) rfl rfl (Nat.le_of_ble_eq_true rfl) (Nat.le_of_ble_eq_true rfl) rfl rfl (jq_slot (D := D + 1) (p := b) (i := db)) (fun v' h' hq' => ?_) (fun i h' hq' => by cases hq')
      cases hq'
      refine mj_T.call (ins := .invokevirtual 117) rfl rfl (Nat.le_of_ble_eq_true rfl) (Nat.le_of_ble_eq_true rfl) (by simp [mj_recv, jS_a G hs1]) rfl (jS_mul (D := D) G (to := 3 * 13 + k) (a := 3 * 13 + k) (b := b * 13 + db) (by omega) (by omega) (by omega) (by rw [f1 _ (by omega), f1 _ (by omega), er, el]; exact hfr k (by omega)) hs1) (fun v' g2 hq' => ?_) (fun i h' hq' => by obtain ⟨_, _, h⟩ := hq'; cases h)
      obtain ⟨_, hs2, hq'⟩ := hq'
      cases hq'
      have f3 : ∀ s, s ≠ 3 * 13 + k → jvu W1 (3 * 13 + k) (W1 (3 * 13 + k) * W1 (b * 13 + db)) s = W1 s := fun s c => by unfold jvu; rw [if_neg c]
      have f4 : jvu W1 (3 * 13 + k) (W1 (3 * 13 + k) * W1 (b * 13 + db)) (3 * 13 + k) = rf k * lc := by unfold jvu; rw [if_pos rfl, f1 _ (by omega), f1 _ (by omega), er, el]
      generalize jvu W1 (3 * 13 + k) (W1 (3 * 13 + k) * W1 (b * 13 + db)) = W2 at hs2 f3 f4
      refine mj_T.iinc (a := k) rfl rfl ?_
      refine mj_T.pl rfl rfl rfl rfl ?_
      refine ih (k + 1) W2 g2 (by omega) hs2 (fun e he => ?_) (fun e a1 a2 => ?_) (fun s c => ?_)
      · by_cases c : e = k
        · rw [c, f4, f3 _ (by omega), f2]
          exact ⟨rfl, rfl⟩
        · rw [f3 _ (by omega), f1 _ (by omega), f3 _ (by omega), f1 _ (by omega)]
          exact h1 e (by omega)
      · rw [f3 _ (by omega), f1 _ (by omega), f3 _ (by omega), f1 _ (by omega)]
        exact h2 e (by omega) a2
      · rw [f3 _ (by omega), f1 _ (by omega)]
        exact hf s c
theorem jp_dv2 (G : jG hp q0 q1 q2 q3 fs) {rf : Nat → Int} {t : Int} (hb : b ≤ 49) (hb2 : b ≠ 2) (hb3 : b ≠ 3) (hdb : db ≤ dd) (hdd : dd < 13) (ht : V 654 = t) (hfp : ∀ e, e ≤ db → jnl (t * V (b * 13 + e)).natAbs ≤ 698) (hfr : ∀ e, e ≤ db → jnl (rf (dd - db + e) + -1 * (t * V (b * 13 + e))).natAbs ≤ 698) {Q : mj_R → Prop}
    (hend : ∀ (W : Nat → Int) (h : mj_H), jS hp q1 q2 q3 W h → (∀ e, e ≤ db → W (3 * 13 + (dd - db + e)) = rf (dd - db + e) + -1 * (t * V (b * 13 + e))) → (∀ s, (s < 3 * 13 + (dd - db) ∨ 3 * 13 + dd < s) → s ≠ 652 → W s = V s) → mj_T (D + 4) mj_m211 232 [some (.ref q0), some (.int (jn ((2 : Nat) : Int))), some (.int (jn ((3 : Nat) : Int))), some (.int (jn (a : Nat))), some (.int (jn (b : Nat))), some (.int (jn (db : Nat))), some (.int (jn (n : Nat))), some (.int (jn (lf : Nat))), some (.int (jn (dd : Nat))), some (.int (jn ((db + 1 : Nat) : Int)))] [] h Q) :
    ∀ (d k : Nat) (W : Nat → Int) (h : mj_H), k + d = db + 1 → jS hp q1 q2 q3 W h → (∀ e, e < k → W (3 * 13 + (dd - db + e)) = rf (dd - db + e) + -1 * (t * V (b * 13 + e))) → (∀ e, k ≤ e → e ≤ db → W (3 * 13 + (dd - db + e)) = rf (dd - db + e)) → (∀ s, (s < 3 * 13 + (dd - db) ∨ 3 * 13 + dd < s) → s ≠ 652 → W s = V s) → mj_T (D + 4) mj_m211 170 [some (.ref q0), some (.int (jn ((2 : Nat) : Int))), some (.int (jn ((3 : Nat) : Int))), some (.int (jn (a : Nat))), some (.int (jn (b : Nat))), some (.int (jn (db : Nat))), some (.int (jn (n : Nat))), some (.int (jn (lf : Nat))), some (.int (jn (dd : Nat))), some (.int (jn (k : Nat)))] [] h Q := by
  intro d
  induction d with
  | zero =>
    intro k W h hk hs h1 h2 hf
    have hk : k = db + 1 := by omega
    subst hk
    iterate 2 refine mj_T.pl rfl rfl rfl rfl ?_
    refine mj_T.icmp (a := ((db + 1 : Nat) : Int)) (b := (db : Int)) rfl ⟨by omega, by omega⟩ ⟨by omega, by omega⟩ (fun hc => ?_) (fun hc => ?_)
    · exact hend W h hs (fun e he => h1 e (by omega)) hf
    · simp only [jc, decide_eq_false_iff_not] at hc
      omega
  | succ d ih =>
    intro k W h hk hs h1 h2 hf
    have er := h2 k (Nat.le_refl _) (by omega)
    have eb : W (b * 13 + k) = V (b * 13 + k) := hf _ (by omega) (by omega)
    have et : W 654 = t := by rw [hf 654 (by omega) (by decide)]; exact ht
    iterate 2 refine mj_T.pl rfl rfl rfl rfl ?_
    refine mj_T.icmp (a := (k : Int)) (b := (db : Int)) rfl ⟨by omega, by omega⟩ ⟨by omega, by omega⟩ (fun hc => ?_) (fun hc => ?_)
    · simp only [jc, decide_eq_true_eq] at hc
      omega
    · iterate 5 refine mj_T.pl rfl rfl rfl rfl ?_
      refine mj_T.call (ins := .invokestatic 104) rfl rfl (Nat.le_of_ble_eq_true rfl) (Nat.le_of_ble_eq_true rfl) rfl rfl (jq_slot (D := D + 3) (p := b) (i := k)) (fun v' h' hq' => ?_) (fun i h' hq' => by cases hq')
      cases hq'
      refine mj_T.call (ins := .invokevirtual 117) rfl rfl (Nat.le_of_ble_eq_true rfl) (Nat.le_of_ble_eq_true rfl) (by simp [mj_recv, jS_a G hs]) rfl (jS_mul (D := D + 2) G (to := 652) (a := 654) (b := b * 13 + k) (by decide) (by decide) (by omega) (by rw [et, eb]; exact hfp k (by omega)) hs) (fun v' g1 hq' => ?_) (fun i h' hq' => by obtain ⟨_, _, h⟩ := hq'; cases h)
      obtain ⟨_, hs1, hq'⟩ := hq'
      cases hq'
      have f1 : ∀ s, s ≠ 652 → jvu W 652 (W 654 * W (b * 13 + k)) s = W s := fun s c => by unfold jvu; rw [if_neg c]
      have f2 : jvu W 652 (W 654 * W (b * 13 + k)) 652 = t * V (b * 13 + k) := by unfold jvu; rw [if_pos rfl, et, eb]
      generalize jvu W 652 (W 654 * W (b * 13 + k)) = W1 at hs1 f1 f2
      refine mj_T.pl rfl rfl rfl rfl ?_
      iterate 3 refine mj_T.pl rfl rfl rfl rfl ?_
      refine mj_T.isub (a := (dd : Int)) (b := (db : Int)) rfl ?_
      refine mj_T.pl rfl rfl rfl rfl ?_
      refine mj_T.iadd (a := (dd : Int) - (db : Int)) (b := (k : Int)) rfl ?_
      rw [show (dd : Int) - (db : Int) + (k : Int) = ((dd - db + k : Nat) : Int) by omega]
      refine mj_T.call (ins := .invokestatic 104) rfl rfl (Nat.le_of_ble_eq_true rfl) (Nat.le_of_ble_eq_true rfl) rfl rfl (jq_slot (D := D + 3) (p := 3) (i := dd - db + k)) (fun v' h' hq' => ?_) (fun i h' hq' => by cases hq')
      cases hq'
      iterate 3 refine mj_T.pl rfl rfl rfl rfl ?_
      refine mj_T.isub (a := (dd : Int)) (b := (db : Int)) rfl ?_
      refine mj_T.pl rfl rfl rfl rfl ?_
      refine mj_T.iadd (a := (dd : Int) - (db : Int)) (b := (k : Int)) rfl ?_
      rw [show (dd : Int) - (db : Int) + (k : Int) = ((dd - db + k : Nat) : Int) by omega]
      refine mj_T.call (ins := .invokestatic 104) rfl rfl (Nat.le_of_ble_eq_true rfl) (Nat.le_of_ble_eq_true rfl) rfl rfl (jq_slot (D := D + 3) (p := 3) (i := dd - db + k)) (fun v' h' hq' => ?_) (fun i h' hq' => by cases hq')
      cases hq'
      iterate 2 refine mj_T.pl rfl rfl rfl rfl ?_
      refine mj_T.call (ins := .invokevirtual 107) rfl rfl (Nat.le_of_ble_eq_true rfl) (Nat.le_of_ble_eq_true rfl) (by simp [mj_recv, jS_a G hs1]) rfl (jS_adds (D := D) G (to := 3 * 13 + (dd - db + k)) (a := 3 * 13 + (dd - db + k)) (b := 652) (f := -1) (by omega) (by omega) (by decide) (Or.inr rfl) (by rw [f1 _ (by omega), er, f2]; exact hfr k (by omega)) hs1) (fun v' g2 hq' => ?_) (fun i h' hq' => by obtain ⟨_, _, h⟩ := hq'; cases h)
      obtain ⟨_, hs2, hq'⟩ := hq'
      cases hq'
      have f3 : ∀ s, s ≠ 3 * 13 + (dd - db + k) → jvu W1 (3 * 13 + (dd - db + k)) (W1 (3 * 13 + (dd - db + k)) + -1 * W1 652) s = W1 s := fun s c => by unfold jvu; rw [if_neg c]
      have f4 : jvu W1 (3 * 13 + (dd - db + k)) (W1 (3 * 13 + (dd - db + k)) + -1 * W1 652) (3 * 13 + (dd - db + k)) = rf (dd - db + k) + -1 * (t * V (b * 13 + k)) := by unfold jvu; rw [if_pos rfl, f1 _ (by omega), er, f2]
      generalize jvu W1 (3 * 13 + (dd - db + k)) (W1 (3 * 13 + (dd - db + k)) + -1 * W1 652) = W2 at hs2 f3 f4
      refine mj_T.iinc (a := k) rfl rfl ?_
      refine mj_T.pl rfl rfl rfl rfl ?_
      refine ih (k + 1) W2 g2 (by omega) hs2 (fun e he => ?_) (fun e a1 a2 => ?_) (fun s c c6 => ?_)
      · by_cases c : e = k
        · rw [c]; exact f4
        · rw [f3 _ (by omega), f1 _ (by omega)]
          exact h1 e (by omega)
      · rw [f3 _ (by omega), f1 _ (by omega)]
        exact h2 e (by omega) a2
      · rw [f3 _ (by omega), f1 _ c6]
        exact hf s c c6
end JDV
/-! The reference's division with remainder: what it leaves. -/
/-- a polynomial's row -/
def jpo (V : Nat → Int) (p : Nat) : pz_P := fun e => if e < 13 then V (p * 13 + e) else 0
theorem jpo_lt (V : Nat → Int) (p : Nat) : pz_lt (jpo V p) 13 := fun i hi => by unfold jpo; rw [if_neg (by omega)]
theorem jpo_at {V : Nat → Int} {p e : Nat} (h : e < 13) : jpo V p e = V (p * 13 + e) := by unfold jpo; rw [if_pos h]
def pz_mono (s : Nat) (t : Int) : pz_P := fun i => if i = s then t else 0
theorem pz_mono_tl (s : Nat) (t : Int) : pz_tl (pz_mono (s + 1) t) = pz_mono s t := funext fun i => by
  show (if i + 1 = s + 1 then t else 0) = (if i = s then t else 0)
  by_cases c : i = s
  · rw [if_pos c, if_pos (by omega)]
  · rw [if_neg c, if_neg (by omega)]
theorem pz_mono_mul (t : Int) (f : pz_P) : ∀ (s n : Nat), pz_c n (pz_mono s t) f = if s ≤ n then t * f (n - s) else 0
  | 0, 0 => by
    rw [if_pos (Nat.le_refl _)]
    rfl
  | 0, n + 1 => by
    rw [if_pos (Nat.zero_le _)]
    show t * f (n + 1) + pz_c n (pz_tl (pz_mono 0 t)) f = t * f (n + 1)
    rw [pz_c_zeroL n (pz_tl (pz_mono 0 t)) f (fun i => by show (if i + 1 = 0 then t else 0) = 0; rw [if_neg (by omega)])]
    omega
  | s + 1, 0 => by
    rw [if_neg (by omega)]
    show (if 0 = s + 1 then t else 0) * f 0 = 0
    rw [if_neg (by omega), Int.zero_mul]
  | s + 1, n + 1 => by
    show (if 0 = s + 1 then t else 0) * f (n + 1) + pz_c n (pz_tl (pz_mono (s + 1) t)) f = _
    rw [if_neg (by omega), Int.zero_mul, pz_mono_tl, pz_mono_mul t f s n]
    by_cases c : s ≤ n
    · rw [if_pos c, if_pos (by omega), show n + 1 - (s + 1) = n - s by omega]
      omega
    · rw [if_neg c, if_neg (by omega)]
      rfl
theorem jdv_next {P B q r q' r' : pz_P} {c lc t : Int} {m : Nat} (h : pz_sc c P = pz_add (pz_mul q B) r) (hq : q' = pz_add (pz_sc lc q) (pz_mono m t)) (hr : r' = pz_add (pz_sc lc r) (pz_sc (-1) (pz_mul (pz_mono m t) B))) : pz_sc (lc * c) P = pz_add (pz_mul q' B) r' := by
  have e1 : pz_sc (lc * c) P = pz_sc lc (pz_sc c P) := (pz_sc_sc lc c P).symm
  rw [e1, h, hq, hr, pz_mul_addL, pz_mul_scL]
  funext i
  show lc * (pz_mul q B i + r i) = (lc * pz_mul q B i + pz_mul (pz_mono m t) B i) + (lc * r i + -1 * pz_mul (pz_mono m t) B i)
  rw [Int.mul_add]
  omega
theorem jnl_of_lt {z : Int} {M : Nat} (h : z.natAbs ≤ M) (hM : M < jB ^ 698) : jnl z.natAbs ≤ 698 := jnl_le_lt.mpr (by omega)
section JDW
variable {D : Nat} {hp h : mj_H} {q0 q1 q2 q3 : Nat} {fs : List Value} {V : Nat → Int} {a b db n : Nat}
theorem jp_dv (G : jG hp q0 q1 q2 q3 fs) {lc : Int} {al be : Nat} (hb : b ≤ 49) (hb2 : b ≠ 2) (hb3 : b ≠ 3) (hdb : jdg V b 13 = db + 1) (hlc : V (b * 13 + db) = lc) (hn : db + n ≤ 13) (hbe : ∀ e, e < 13 → (V (b * 13 + e)).natAbs ≤ be) (hbe1 : 1 ≤ be) (hfit : al * (2 * be) ^ n < jB ^ 698) {Q : mj_R → Prop}
    (hend : ∀ (W : Nat → Int) (h : mj_H), jS hp q1 q2 q3 W h → (∀ s, (s < 26 ∨ 52 ≤ s) → s ≠ 652 → s ≠ 654 → W s = V s) → pz_sc (lc ^ n) (jpo V a) = pz_add (pz_mul (jpo W 2) (jpo V b)) (jpo W 3) → (∀ e, db ≤ e → e < 13 → W (3 * 13 + e) = 0) → (∀ e, e < 13 → (W (2 * 13 + e)).natAbs ≤ al * (2 * be) ^ n ∧ (W (3 * 13 + e)).natAbs ≤ al * (2 * be) ^ n) → Q (.inl (some (.int (jn (n : Nat)))), h)) :
    ∀ (m : Nat) (W : Nat → Int) (h : mj_H) (e9 : Option Value), m ≤ n → jS hp q1 q2 q3 W h → (∀ s, (s < 26 ∨ 52 ≤ s) → s ≠ 652 → s ≠ 654 → W s = V s) → pz_sc (lc ^ (n - m)) (jpo V a) = pz_add (pz_mul (jpo W 2) (jpo V b)) (jpo W 3) → (∀ e, db + m ≤ e → e < 13 → W (3 * 13 + e) = 0) → (∀ e, e < 13 → (W (2 * 13 + e)).natAbs ≤ al * (2 * be) ^ (n - m) ∧ (W (3 * 13 + e)).natAbs ≤ al * (2 * be) ^ (n - m)) →
      mj_T (D + 4) mj_m211 51 [some (.ref q0), some (.int (jn ((2 : Nat) : Int))), some (.int (jn ((3 : Nat) : Int))), some (.int (jn (a : Nat))), some (.int (jn (b : Nat))), some (.int (jn (db : Nat))), some (.int (jn (n : Nat))), some (.int (jn ((m : Nat) : Int))), some (.int (jn (((db + m : Nat) : Int) - 1))), e9] [] h Q := by
  have hdb13 : db < 13 := by have := jdg_le V b 13; omega
  have hB0 : ∀ e, db < e → jpo V b e = 0 := fun e he => by
    unfold jpo
    split
    · exact jdg_zero V b 13 e (by omega) (by omega)
    · rfl
  have hlcb : lc.natAbs ≤ be := by rw [← hlc]; exact hbe db hdb13
  intro m
  induction m with
  | zero =>
    intro W h e9 hm hs hf hrel hz hbd
    iterate 2 refine mj_T.pl rfl rfl rfl rfl ?_
    refine mj_T.icmp (a := ((db + 0 : Nat) : Int) - 1) (b := (db : Int)) rfl ⟨by omega, by omega⟩ ⟨by omega, by omega⟩ (fun hc => ?_) (fun hc => ?_)
    · refine mj_T.pl rfl rfl rfl rfl ?_
      exact mj_T.ret rfl rfl rfl (hend W h hs hf hrel (fun e a1 a2 => hz e (by omega) a2) hbd)
    · simp only [jc, decide_eq_false_iff_not] at hc
      omega
  | succ m ih =>
    intro W h e9 hm hs hf hrel hz hbd
    -- one step's bounds
    generalize hMM : al * (2 * be) ^ (n - (m + 1)) = M at hbd
    have hstep : al * (2 * be) ^ (n - m) = 2 * (M * be) := by
      rw [show n - m = (n - (m + 1)) + 1 by omega, Nat.pow_succ, ← Nat.mul_assoc, hMM, Nat.mul_left_comm]
    have hM2 : 2 * (M * be) < jB ^ 698 := by
      rw [← hstep]
      refine Nat.lt_of_le_of_lt (Nat.mul_le_mul_left al (Nat.pow_le_pow_right (by omega) (by omega))) hfit
    have hmul : ∀ x y : Int, x.natAbs ≤ M → y.natAbs ≤ be → (x * y).natAbs ≤ M * be := fun x y hx hy => by
      rw [Int.natAbs_mul]
      exact Nat.mul_le_mul hx hy
    have hMb : M ≤ M * be := by
      have := Nat.mul_le_mul_left M hbe1
      omega
    rw [show ((db + (m + 1) : Nat) : Int) - 1 = ((db + m : Nat) : Int) by omega]
    iterate 2 refine mj_T.pl rfl rfl rfl rfl ?_
    refine mj_T.icmp (a := ((db + m : Nat) : Int)) (b := (db : Int)) rfl ⟨by omega, by omega⟩ ⟨by omega, by omega⟩ (fun hc => ?_) (fun hc => ?_)
    · simp only [jc, decide_eq_true_eq] at hc
      omega
    refine mj_T.pl rfl rfl rfl rfl ?_
    refine mj_T.if0 (a := ((m + 1 : Nat) : Int)) rfl ⟨by omega, by omega⟩ (fun hc2 => ?_) (fun hc2 => ?_)
    · simp only [jc, decide_eq_true_eq] at hc2
      omega
    refine mj_T.iinc (a := ((m + 1 : Nat) : Int)) rfl rfl ?_
    rw [show ((m + 1 : Nat) : Int) + -1 = (m : Int) by omega]
    iterate 4 refine mj_T.pl rfl rfl rfl rfl ?_
    refine mj_T.call (ins := .invokestatic 104) rfl rfl (Nat.le_of_ble_eq_true rfl) (Nat.le_of_ble_eq_true rfl) rfl rfl (jq_slot (D := D + 3) (p := 3) (i := db + m)) (fun v' h' hq' => ?_) (fun i h' hq' => by cases hq')
    cases hq'
    refine mj_T.call (ins := .invokevirtual 84) rfl rfl (Nat.le_of_ble_eq_true rfl) (Nat.le_of_ble_eq_true rfl) (by simp [mj_recv, jS_a G hs]) rfl (jS_copies (D := D + 2) G (to := 654) (s := 3 * 13 + (db + m)) (by decide) (by omega) hs) (fun v' g1 hq' => ?_) (fun i h' hq' => by obtain ⟨_, _, h⟩ := hq'; cases h)
    obtain ⟨_, hs1, hq'⟩ := hq'
    cases hq'
    generalize ht : W (3 * 13 + (db + m)) = t at hs1
    have f1 : ∀ s, s ≠ 654 → jvu W 654 t s = W s := fun s c => by unfold jvu; rw [if_neg c]
    have f2 : jvu W 654 t 654 = t := by unfold jvu; rw [if_pos rfl]
    generalize jvu W 654 t = W1 at hs1 f1 f2
    have htb : t.natAbs ≤ M := by rw [← ht]; exact (hbd (db + m) (by omega)).2
    have w1b : ∀ e, e < 13 → W1 (b * 13 + e) = V (b * 13 + e) := fun e he => by rw [f1 _ (by omega)]; exact hf _ (by omega) (by omega) (by omega)
    iterate 2 refine mj_T.pl rfl rfl rfl rfl ?_
    refine jp_dv1 (D := D + 2) (V := W1) (a := a) (b := b) (db := db) (n := n) (lf := m) (dd := db + m) G (qf := fun e => W (2 * 13 + e)) (rf := fun e => W (3 * 13 + e)) (lc := lc) hb hb2 hb3 hdb13 (by rw [w1b db hdb13]; exact hlc) (fun e he => jnl_of_lt (hmul _ _ (hbd e he).1 hlcb) (by omega)) (fun e he => jnl_of_lt (hmul _ _ (hbd e he).2 hlcb) (by omega)) (fun W2 h2 hs2 k1 k2 => ?_) 13 0 W1 g1 rfl hs1 (fun e he => by omega) (fun e _ he => ⟨f1 _ (by omega), f1 _ (by omega)⟩) (fun s _ => rfl)
    refine mj_T.pl rfl rfl rfl rfl ?_
    iterate 3 refine mj_T.pl rfl rfl rfl rfl ?_
    refine mj_T.isub (a := ((db + m : Nat) : Int)) (b := (db : Int)) rfl ?_
    rw [show ((db + m : Nat) : Int) - (db : Int) = (m : Int) by omega]
    refine mj_T.call (ins := .invokestatic 104) rfl rfl (Nat.le_of_ble_eq_true rfl) (Nat.le_of_ble_eq_true rfl) rfl rfl (jq_slot (D := D + 3) (p := 2) (i := m)) (fun v' h' hq' => ?_) (fun i h' hq' => by cases hq')
    cases hq'
    iterate 3 refine mj_T.pl rfl rfl rfl rfl ?_
    refine mj_T.isub (a := ((db + m : Nat) : Int)) (b := (db : Int)) rfl ?_
    rw [show ((db + m : Nat) : Int) - (db : Int) = (m : Int) by omega]
    refine mj_T.call (ins := .invokestatic 104) rfl rfl (Nat.le_of_ble_eq_true rfl) (Nat.le_of_ble_eq_true rfl) rfl rfl (jq_slot (D := D + 3) (p := 2) (i := m)) (fun v' h' hq' => ?_) (fun i h' hq' => by cases hq')
    cases hq'
    iterate 2 refine mj_T.pl rfl rfl rfl rfl ?_
    have w654 : W2 654 = t := by rw [k2 654 (by omega)]; exact f2
    have w2m := (k1 m (by omega)).1
    have hq3 : (W (2 * 13 + m) * lc + 1 * t).natAbs ≤ 2 * (M * be) := by
      have := hmul _ _ (hbd m (by omega)).1 hlcb
      omega
    refine mj_T.call (ins := .invokevirtual 107) rfl rfl (Nat.le_of_ble_eq_true rfl) (Nat.le_of_ble_eq_true rfl) (by simp [mj_recv, jS_a G hs2]) rfl (jS_adds (D := D) G (to := 2 * 13 + m) (a := 2 * 13 + m) (b := 654) (f := 1) (by omega) (by omega) (by decide) (Or.inl rfl) (by rw [w2m, w654]; exact jnl_of_lt hq3 hM2) hs2) (fun v' g3 hq' => ?_) (fun i h' hq' => by obtain ⟨_, _, h⟩ := hq'; cases h)
    obtain ⟨_, hs3, hq'⟩ := hq'
    cases hq'
    have f3 : ∀ s, s ≠ 2 * 13 + m → jvu W2 (2 * 13 + m) (W2 (2 * 13 + m) + 1 * W2 654) s = W2 s := fun s c => by unfold jvu; rw [if_neg c]
    have f4 : jvu W2 (2 * 13 + m) (W2 (2 * 13 + m) + 1 * W2 654) (2 * 13 + m) = W (2 * 13 + m) * lc + 1 * t := by unfold jvu; rw [if_pos rfl, w2m, w654]
    generalize jvu W2 (2 * 13 + m) (W2 (2 * 13 + m) + 1 * W2 654) = W3 at hs3 f3 f4
    have w3b : ∀ e, e < 13 → W3 (b * 13 + e) = V (b * 13 + e) := fun e he => by rw [f3 _ (by omega), k2 _ (by omega)]; exact w1b e he
    have w3r : ∀ e, e < 13 → W3 (3 * 13 + e) = W (3 * 13 + e) * lc := fun e he => by rw [f3 _ (by omega)]; exact (k1 e he).2
    have hr4 : ∀ e x, e < 13 → x < 13 → (W (3 * 13 + e) * lc + -1 * (t * V (b * 13 + x))).natAbs ≤ 2 * (M * be) := fun e x he hx => by
      have h1 := hmul _ _ (hbd e he).2 hlcb
      have h2 := hmul _ _ htb (hbe x hx)
      omega
    iterate 2 refine mj_T.pl rfl rfl rfl rfl ?_
    refine jp_dv2 (D := D) (V := W3) (a := a) (b := b) (db := db) (n := n) (lf := m) (dd := db + m) G (rf := fun e => W (3 * 13 + e) * lc) (t := t) hb hb2 hb3 (by omega) (by omega) (by rw [f3 _ (by omega)]; exact w654) (fun e he => by rw [w3b e (by omega)]; exact jnl_of_lt (hmul _ _ htb (hbe e (by omega))) (by omega)) (fun e he => by rw [w3b e (by omega)]; exact jnl_of_lt (hr4 _ e (by omega) (by omega)) hM2) (fun W4 h4 hs4 k3 k4 => ?_) (db + 1) 0 W3 g3 (by omega) hs3 (fun e he => by omega) (fun e _ he => w3r _ (by omega)) (fun s _ _ => rfl)
    refine mj_T.iinc (a := ((db + m : Nat) : Int)) rfl rfl ?_
    rw [show ((db + m : Nat) : Int) + -1 = ((db + m : Nat) : Int) - 1 by omega]
    refine mj_T.pl rfl rfl rfl rfl ?_
    -- the new rows
    have hq : jpo W4 2 = pz_add (pz_sc lc (jpo W 2)) (pz_mono m t) := funext fun e => by
      show jpo W4 2 e = lc * jpo W 2 e + (if e = m then t else 0)
      by_cases he : e < 13
      · rw [jpo_at he, jpo_at he, k4 _ (by omega) (by omega)]
        by_cases c : e = m
        · rw [c, f4, if_pos rfl, Int.mul_comm]
          omega
        · rw [f3 _ (by omega), (k1 e he).1, if_neg c, Int.mul_comm]
          omega
      · have e0 : ∀ X : Nat → Int, jpo X 2 e = 0 := fun X => by unfold jpo; rw [if_neg he]
        rw [e0, e0, if_neg (by omega), Int.mul_zero]
        rfl
    have hr : jpo W4 3 = pz_add (pz_sc lc (jpo W 3)) (pz_sc (-1) (pz_mul (pz_mono m t) (jpo V b))) := funext fun e => by
      show jpo W4 3 e = lc * jpo W 3 e + -1 * pz_c e (pz_mono m t) (jpo V b)
      rw [pz_mono_mul]
      by_cases he : e < 13
      · rw [jpo_at he, jpo_at he]
        by_cases c : m ≤ e
        · rw [if_pos c]
          by_cases c2 : e ≤ db + m
          · have h5 := k3 (e - m) (by omega)
            rw [show db + m - db + (e - m) = e by omega, w3b _ (by omega)] at h5
            rw [h5, jpo_at (show e - m < 13 by omega), Int.mul_comm lc]
          · rw [k4 _ (by omega) (by omega), w3r e he, hB0 (e - m) (by omega), Int.mul_zero, Int.mul_comm lc]
            omega
        · rw [if_neg c, k4 _ (by omega) (by omega), w3r e he, Int.mul_comm lc]
          omega
      · have e0 : ∀ X : Nat → Int, jpo X 3 e = 0 := fun X => by unfold jpo; rw [if_neg he]
        rw [e0, e0, if_pos (by omega), hB0 (e - m) (by omega), Int.mul_zero, Int.mul_zero]
        rfl
    have hrel2 : pz_sc (lc ^ (n - m)) (jpo V a) = pz_add (pz_mul (jpo W4 2) (jpo V b)) (jpo W4 3) := by
      have := jdv_next hrel hq hr
      rw [show n - m = (n - (m + 1)) + 1 by omega, Int.pow_succ, Int.mul_comm]
      exact this
    refine ih W4 h4 _ (by omega) hs4 (fun s c c2 c3 => ?_) hrel2 (fun e a1 a2 => ?_) (fun e he => ?_)
    · rw [k4 s (by omega) c2, f3 s (by omega), k2 s c, f1 s c3]
      exact hf s c c2 c3
    · by_cases c : e = db + m
      · have h5 := k3 db (Nat.le_refl _)
        rw [show db + m - db + db = db + m by omega, w3b _ hdb13, hlc, ht] at h5
        rw [c, h5]
        omega
      · rw [k4 _ (by omega) (by omega), w3r e a2, hz e (by omega) a2, Int.zero_mul]
    · rw [hstep]
      refine ⟨?_, ?_⟩
      · rw [k4 _ (by omega) (by omega)]
        by_cases c : e = m
        · rw [c, f4]
          exact hq3
        · rw [f3 _ (by omega), (k1 e he).1]
          have := hmul _ _ (hbd e he).1 hlcb
          omega
      · by_cases c : m ≤ e ∧ e ≤ db + m
        · have h5 := k3 (e - m) (by omega)
          rw [show db + m - db + (e - m) = e by omega, w3b _ (by omega)] at h5
          rw [h5]
          exact hr4 e (e - m) he (by omega)
        · rw [k4 _ (by omega) (by omega), w3r e he]
          have := hmul _ _ (hbd e he).2 hlcb
          omega
end JDW
