/-! Few equations in many unknowns have a small solution. -/
theorem pz_hole : ∀ (m n : Nat) (f : Nat → Nat), m < n → (∀ i, i < n → f i < m) → ∃ i j, i < j ∧ j < n ∧ f i = f j
  | 0, n, f, h, hf => by
    have := hf 0 (by omega)
    omega
  | m + 1, 0, f, h, hf => by omega
  | m + 1, n + 1, f, h, hf => by
    by_cases hc : ∃ i, i < n ∧ f i = f n
    · obtain ⟨i, h1, h2⟩ := hc
      exact ⟨i, n, h1, by omega, h2⟩
    · have hne : ∀ i, i < n → f i ≠ f n := fun i hi e => hc ⟨i, hi, e⟩
      obtain ⟨i, j, h1, h2, h3⟩ := pz_hole m n (fun i => if f i = m then f n else f i) (by omega) (fun i hi => by
        have k1 := hf i (by omega)
        have k2 := hf n (by omega)
        have k3 := hne i hi
        show (if f i = m then f n else f i) < m
        split <;> omega)
      have k1 := hne i (by omega)
      have k2 := hne j (by omega)
      refine ⟨i, j, h1, by omega, ?_⟩
      have h3 : (if f i = m then f n else f i) = (if f j = m then f n else f j) := h3
      split at h3 <;> split at h3 <;> omega
/-- a row of naturals below K as one number -/
def pz_code (K : Nat) : Nat → (Nat → Nat) → Nat
  | 0, _ => 0
  | n + 1, y => y 0 + K * pz_code K n (fun i => y (i + 1))
theorem pz_code_lt {K : Nat} (hK : 1 ≤ K) : ∀ (n : Nat) (y : Nat → Nat), (∀ i, i < n → y i < K) → pz_code K n y < K ^ n
  | 0, y, h => by show 0 < K ^ 0; rw [Nat.pow_zero]; omega
  | n + 1, y, h => by
    have h1 := pz_code_lt hK n (fun i => y (i + 1)) (fun i hi => h (i + 1) (by omega))
    have h2 := h 0 (by omega)
    show y 0 + K * pz_code K n (fun i => y (i + 1)) < K ^ (n + 1)
    rw [Nat.pow_succ, Nat.mul_comm (K ^ n) K]
    have h3 : K * (pz_code K n (fun i => y (i + 1)) + 1) ≤ K * K ^ n := Nat.mul_le_mul_left K h1
    rw [Nat.mul_add] at h3
    omega
theorem pz_code_eq {K : Nat} : ∀ (n : Nat) (y z : Nat → Nat), (∀ i, i < n → y i < K) → (∀ i, i < n → z i < K) → pz_code K n y = pz_code K n z → ∀ i, i < n → y i = z i
  | 0, y, z, hy, hz, h, i, hi => by omega
  | n + 1, y, z, hy, hz, h, i, hi => by
    have h : y 0 + K * pz_code K n (fun i => y (i + 1)) = z 0 + K * pz_code K n (fun i => z (i + 1)) := h
    have a := hy 0 (by omega)
    have b := hz 0 (by omega)
    have m1 : (y 0 + K * pz_code K n (fun i => y (i + 1))) % K = y 0 := by rw [Nat.add_mul_mod_self_left, Nat.mod_eq_of_lt a]
    have m2 : (z 0 + K * pz_code K n (fun i => z (i + 1))) % K = z 0 := by rw [Nat.add_mul_mod_self_left, Nat.mod_eq_of_lt b]
    have e0 : y 0 = z 0 := by rw [← m1, h, m2]
    cases i with
    | zero => exact e0
    | succ i =>
      have h4 : K * pz_code K n (fun i => y (i + 1)) = K * pz_code K n (fun i => z (i + 1)) := by omega
      have h5 := Nat.eq_of_mul_eq_mul_left (by omega) h4
      exact pz_code_eq n _ _ (fun i hi => hy (i + 1) (by omega)) (fun i hi => hz (i + 1) (by omega)) h5 i (by omega)
/-- a number's digits -/
theorem pz_digs {B : Nat} (hB : 1 ≤ B) : ∀ (n t s : Nat), t < B ^ n → s < B ^ n → (∀ i, i < n → t / B ^ i % B = s / B ^ i % B) → t = s
  | 0, t, s, h1, h2, _ => by rw [Nat.pow_zero] at h1 h2; omega
  | n + 1, t, s, h1, h2, h => by
    rw [Nat.pow_succ, Nat.mul_comm] at h1 h2
    have e0 := h 0 (by omega)
    rw [Nat.pow_zero, Nat.div_one, Nat.div_one] at e0
    have e1 := pz_digs hB n (t / B) (s / B) (Nat.div_lt_of_lt_mul h1) (Nat.div_lt_of_lt_mul h2) (fun i hi => by
      have := h (i + 1) (by omega)
      rw [Nat.pow_succ, Nat.mul_comm] at this
      rw [Nat.div_div_eq_div_mul, Nat.div_div_eq_div_mul]
      exact this)
    have d1 := Nat.div_add_mod t B
    have d2 := Nat.div_add_mod s B
    rw [e1, e0] at d1
    omega
/-- a sum of products -/
def pz_dot : Nat → pz_P → pz_P → Int
  | 0, _, _ => 0
  | n + 1, a, x => a 0 * x 0 + pz_dot n (pz_tl a) (pz_tl x)
theorem pz_dot_sub : ∀ (n : Nat) (a x y : pz_P), pz_dot n a (fun i => x i - y i) = pz_dot n a x - pz_dot n a y
  | 0, a, x, y => rfl
  | n + 1, a, x, y => by
    show a 0 * (x 0 - y 0) + pz_dot n (pz_tl a) (fun i => pz_tl x i - pz_tl y i) = (a 0 * x 0 + pz_dot n (pz_tl a) (pz_tl x)) - (a 0 * y 0 + pz_dot n (pz_tl a) (pz_tl y))
    rw [pz_dot_sub n, Int.mul_sub]
    omega
theorem pz_dot_abs {A U : Nat} : ∀ (n : Nat) (a x : pz_P), (∀ i, i < n → (a i).natAbs ≤ A) → (∀ i, i < n → (x i).natAbs ≤ U) → (pz_dot n a x).natAbs ≤ n * (A * U)
  | 0, a, x, _, _ => by show (0 : Int).natAbs ≤ _; exact Nat.zero_le _
  | n + 1, a, x, ha, hx => by
    have h1 := pz_dot_abs n (pz_tl a) (pz_tl x) (fun i hi => ha (i + 1) (by omega)) (fun i hi => hx (i + 1) (by omega))
    have h2 : (a 0 * x 0).natAbs ≤ A * U := by
      rw [Int.natAbs_mul]
      exact Nat.mul_le_mul (ha 0 (by omega)) (hx 0 (by omega))
    have h3 := Int.natAbs_add_le (a 0 * x 0) (pz_dot n (pz_tl a) (pz_tl x))
    show (a 0 * x 0 + pz_dot n (pz_tl a) (pz_tl x)).natAbs ≤ (n + 1) * (A * U)
    rw [Nat.add_mul, Nat.one_mul]
    omega
theorem pz_dot_congr : ∀ (n : Nat) (a b x : pz_P), (∀ i, i < n → a i = b i) → pz_dot n a x = pz_dot n b x
  | 0, _, _, _, _ => rfl
  | n + 1, a, b, x, h => by
    show a 0 * x 0 + pz_dot n (pz_tl a) (pz_tl x) = b 0 * x 0 + pz_dot n (pz_tl b) (pz_tl x)
    rw [h 0 (by omega), pz_dot_congr n (pz_tl a) (pz_tl b) _ (fun i hi => h (i + 1) (by omega))]
theorem pz_dot_congrR : ∀ (n : Nat) (a x y : pz_P), (∀ i, i < n → x i = y i) → pz_dot n a x = pz_dot n a y
  | 0, _, _, _, _ => rfl
  | n + 1, a, x, y, h => by
    show a 0 * x 0 + pz_dot n (pz_tl a) (pz_tl x) = a 0 * y 0 + pz_dot n (pz_tl a) (pz_tl y)
    rw [h 0 (by omega), pz_dot_congrR n (pz_tl a) (pz_tl x) (pz_tl y) (fun i hi => h (i + 1) (by omega))]
theorem pz_dot_zero : ∀ (n : Nat) (a x : pz_P), (∀ i, i < n → a i * x i = 0) → pz_dot n a x = 0
  | 0, _, _, _ => rfl
  | n + 1, a, x, h => by
    show a 0 * x 0 + pz_dot n (pz_tl a) (pz_tl x) = 0
    rw [h 0 (by omega), pz_dot_zero n (pz_tl a) (pz_tl x) (fun i hi => h (i + 1) (by omega))]
    rfl
theorem pz_dot_split : ∀ (p q : Nat) (a x : pz_P), pz_dot (p + q) a x = pz_dot p a x + pz_dot q (fun i => a (p + i)) (fun i => x (p + i))
  | 0, q, a, x => by
    rw [Nat.zero_add]
    have e1 : (fun i => a (0 + i)) = a := funext fun i => by rw [Nat.zero_add]
    have e2 : (fun i => x (0 + i)) = x := funext fun i => by rw [Nat.zero_add]
    rw [e1, e2]
    show _ = 0 + _
    omega
  | p + 1, q, a, x => by
    rw [show p + 1 + q = (p + q) + 1 by omega]
    show a 0 * x 0 + pz_dot (p + q) (pz_tl a) (pz_tl x) = (a 0 * x 0 + pz_dot p (pz_tl a) (pz_tl x)) + pz_dot q (fun i => a (p + 1 + i)) (fun i => x (p + 1 + i))
    rw [pz_dot_split p q (pz_tl a) (pz_tl x)]
    have e1 : (fun i => a (p + 1 + i)) = (fun i => pz_tl a (p + i)) := funext fun i => by show a (p + 1 + i) = a (p + i + 1); rw [show p + 1 + i = p + i + 1 by omega]
    have e2 : (fun i => x (p + 1 + i)) = (fun i => pz_tl x (p + i)) := funext fun i => by show x (p + 1 + i) = x (p + i + 1); rw [show p + 1 + i = p + i + 1 by omega]
    rw [e1, e2]
    omega
theorem pz_siegel {M N A : Nat} (a : Nat → pz_P) (hA : ∀ m i, m < M → i < N → (a m i).natAbs ≤ A) (hMN : M < N) (hA1 : 1 ≤ A) : ∃ x : pz_P, (∀ i, (x i).natAbs ≤ (2 * N * A) ^ M) ∧ (∀ i, N ≤ i → x i = 0) ∧ (∃ i, i < N ∧ x i ≠ 0) ∧ ∀ m, m < M → pz_dot N (a m) x = 0 := by
  generalize hU : (2 * N * A) ^ M = U
  generalize hT : N * (A * U) = T
  -- the codes of all outputs
  have hK : (2 * T + 1) ^ M < (U + 1) ^ N := by
    have h1 : 2 * T + 1 ≤ (2 * N * A) * (U + 1) := by
      have eT : T = N * A * U := by rw [← hT, Nat.mul_assoc]
      have h2 : 1 ≤ N * A := Nat.mul_le_mul (show 1 ≤ N by omega) hA1
      rw [Nat.mul_assoc 2 N A, eT]
      generalize N * A = P at h2 ⊢
      have e2 : 2 * P * (U + 1) = 2 * (P * U) + 2 * P := by rw [Nat.mul_add, Nat.mul_one, Nat.mul_assoc]
      omega
    have h2 : (2 * T + 1) ^ M ≤ U * (U + 1) ^ M := by
      have h3 := Nat.pow_le_pow_left h1 M
      rw [Nat.mul_pow, hU] at h3
      exact h3
    have h4 : (U + 1) ^ (M + 1) ≤ (U + 1) ^ N := Nat.pow_le_pow_right (by omega) hMN
    have h5 : 0 < (U + 1) ^ M := Nat.pow_pos (by omega)
    rw [Nat.pow_succ, Nat.mul_comm, Nat.add_mul, Nat.one_mul] at h4
    omega
  have hbd : ∀ t m, m < M → (pz_dot N (a m) (fun i => ((t / (U + 1) ^ i % (U + 1) : Nat) : Int))).natAbs ≤ T := fun t m hm => by
    rw [← hT]
    refine pz_dot_abs N _ _ (fun i hi => hA m i hm hi) (fun i hi => ?_)
    have : t / (U + 1) ^ i % (U + 1) < U + 1 := Nat.mod_lt _ (by omega)
    show ((t / (U + 1) ^ i % (U + 1) : Nat) : Int).natAbs ≤ U
    omega
  have hY : ∀ t m, m < M → (pz_dot N (a m) (fun i => ((t / (U + 1) ^ i % (U + 1) : Nat) : Int)) + T).toNat < 2 * T + 1 := fun t m hm => by
    have := hbd t m hm
    omega
  obtain ⟨s, t, h1, h2, h3⟩ := pz_hole ((2 * T + 1) ^ M) ((U + 1) ^ N) (fun t => pz_code (2 * T + 1) M (fun m => (pz_dot N (a m) (fun i => ((t / (U + 1) ^ i % (U + 1) : Nat) : Int)) + T).toNat)) hK (fun t _ => pz_code_lt (by omega) M _ (fun m hm => hY t m hm))
  have h4 := pz_code_eq M _ _ (fun m hm => hY s m hm) (fun m hm => hY t m hm) h3
  have hdig : ∀ r i, r / (U + 1) ^ i % (U + 1) < U + 1 := fun r i => Nat.mod_lt _ (by omega)
  refine ⟨fun i => if i < N then ((t / (U + 1) ^ i % (U + 1) : Nat) : Int) - ((s / (U + 1) ^ i % (U + 1) : Nat) : Int) else 0, fun i => ?_, fun i hi => by show (if i < N then _ else (0 : Int)) = 0; rw [if_neg (by omega)], ?_, fun m hm => ?_⟩
  · have k1 := hdig t i
    have k2 := hdig s i
    show (if i < N then ((t / (U + 1) ^ i % (U + 1) : Nat) : Int) - ((s / (U + 1) ^ i % (U + 1) : Nat) : Int) else 0).natAbs ≤ U
    split <;> omega
  · by_cases hc : ∃ i, i < N ∧ t / (U + 1) ^ i % (U + 1) ≠ s / (U + 1) ^ i % (U + 1)
    · obtain ⟨i, k1, k2⟩ := hc
      refine ⟨i, k1, ?_⟩
      show (if i < N then ((t / (U + 1) ^ i % (U + 1) : Nat) : Int) - ((s / (U + 1) ^ i % (U + 1) : Nat) : Int) else 0) ≠ 0
      rw [if_pos k1]
      omega
    · have e : s = t := pz_digs (B := U + 1) (by omega) N s t (by omega) h2 (fun i hi => by
        by_cases e : s / (U + 1) ^ i % (U + 1) = t / (U + 1) ^ i % (U + 1)
        · exact e
        · exact absurd ⟨i, hi, fun q => e q.symm⟩ hc)
      omega
  · have k1 := h4 m hm
    have k2 := hbd s m hm
    have k3 := hbd t m hm
    have e1 : pz_dot N (a m) (fun i => if i < N then ((t / (U + 1) ^ i % (U + 1) : Nat) : Int) - ((s / (U + 1) ^ i % (U + 1) : Nat) : Int) else 0) = pz_dot N (a m) (fun i => ((t / (U + 1) ^ i % (U + 1) : Nat) : Int) - ((s / (U + 1) ^ i % (U + 1) : Nat) : Int)) := pz_dot_congrR N _ _ _ (fun i hi => by rw [if_pos hi])
    rw [e1, pz_dot_sub N (a m) (fun i => ((t / (U + 1) ^ i % (U + 1) : Nat) : Int)) (fun i => ((s / (U + 1) ^ i % (U + 1) : Nat) : Int))]
    omega
