/-! Polynomials as rows of whole numbers without an end: products, degrees. -/
abbrev pz_P : Type := Nat → Int
def pz_tl (u : pz_P) : pz_P := fun i => u (i + 1)
def pz_c : Nat → pz_P → pz_P → Int
  | 0, u, f => u 0 * f 0
  | n + 1, u, f => u 0 * f (n + 1) + pz_c n (pz_tl u) f
def pz_mul (u f : pz_P) : pz_P := fun n => pz_c n u f
def pz_add (u v : pz_P) : pz_P := fun i => u i + v i
def pz_sc (c : Int) (u : pz_P) : pz_P := fun i => c * u i
def pz_0 : pz_P := fun _ => 0
theorem pz_c_addL : ∀ (n : Nat) (u v f : pz_P), pz_c n (pz_add u v) f = pz_c n u f + pz_c n v f
  | 0, u, v, f => by show (u 0 + v 0) * f 0 = _; rw [Int.add_mul]; rfl
  | n + 1, u, v, f => by
    show (u 0 + v 0) * f (n + 1) + pz_c n (pz_add (pz_tl u) (pz_tl v)) f = (u 0 * f (n + 1) + pz_c n (pz_tl u) f) + (v 0 * f (n + 1) + pz_c n (pz_tl v) f)
    rw [pz_c_addL n, Int.add_mul]
    omega
theorem pz_c_addR : ∀ (n : Nat) (u f g : pz_P), pz_c n u (pz_add f g) = pz_c n u f + pz_c n u g
  | 0, u, f, g => by show u 0 * (f 0 + g 0) = _; rw [Int.mul_add]; rfl
  | n + 1, u, f, g => by
    show u 0 * (f (n + 1) + g (n + 1)) + pz_c n (pz_tl u) (pz_add f g) = (u 0 * f (n + 1) + pz_c n (pz_tl u) f) + (u 0 * g (n + 1) + pz_c n (pz_tl u) g)
    rw [pz_c_addR n, Int.mul_add]
    omega
theorem pz_c_scL : ∀ (n : Nat) (c : Int) (u f : pz_P), pz_c n (pz_sc c u) f = c * pz_c n u f
  | 0, c, u, f => by show c * u 0 * f 0 = _; rw [Int.mul_assoc]; rfl
  | n + 1, c, u, f => by
    show c * u 0 * f (n + 1) + pz_c n (pz_sc c (pz_tl u)) f = c * (u 0 * f (n + 1) + pz_c n (pz_tl u) f)
    rw [pz_c_scL n, Int.mul_add, Int.mul_assoc]
theorem pz_c_scR : ∀ (n : Nat) (c : Int) (u f : pz_P), pz_c n u (pz_sc c f) = c * pz_c n u f
  | 0, c, u, f => by show u 0 * (c * f 0) = c * (u 0 * f 0); rw [Int.mul_left_comm]
  | n + 1, c, u, f => by
    show u 0 * (c * f (n + 1)) + pz_c n (pz_tl u) (pz_sc c f) = c * (u 0 * f (n + 1) + pz_c n (pz_tl u) f)
    rw [pz_c_scR n, Int.mul_add, Int.mul_left_comm]
theorem pz_c_zeroL : ∀ (n : Nat) (u f : pz_P), (∀ i, u i = 0) → pz_c n u f = 0
  | 0, u, f, h => by show u 0 * f 0 = 0; rw [h 0, Int.zero_mul]
  | n + 1, u, f, h => by
    show u 0 * f (n + 1) + pz_c n (pz_tl u) f = 0
    rw [h 0, Int.zero_mul, pz_c_zeroL n (pz_tl u) f (fun i => h (i + 1))]
    rfl
theorem pz_c_congrL {n : Nat} {u v : pz_P} (f : pz_P) (h : u = v) : pz_c n u f = pz_c n v f := by rw [h]
theorem pz_tl_mul (u v : pz_P) : pz_tl (pz_mul u v) = pz_add (pz_sc (u 0) (pz_tl v)) (pz_mul (pz_tl u) v) := by
  funext n
  show u 0 * v (n + 1) + pz_c n (pz_tl u) v = u 0 * v (n + 1) + pz_c n (pz_tl u) v
  rfl
theorem pz_c_assoc : ∀ (n : Nat) (u v f : pz_P), pz_c n (pz_mul u v) f = pz_c n u (pz_mul v f)
  | 0, u, v, f => by show u 0 * v 0 * f 0 = u 0 * (v 0 * f 0); rw [Int.mul_assoc]
  | n + 1, u, v, f => by
    show (u 0 * v 0) * f (n + 1) + pz_c n (pz_tl (pz_mul u v)) f = u 0 * (v 0 * f (n + 1) + pz_c n (pz_tl v) f) + pz_c n (pz_tl u) (pz_mul v f)
    rw [pz_tl_mul, pz_c_addL, pz_c_scL, pz_c_assoc n, Int.mul_add, Int.mul_assoc]
    omega
theorem pz_mul_assoc (u v f : pz_P) : pz_mul (pz_mul u v) f = pz_mul u (pz_mul v f) := funext fun n => pz_c_assoc n u v f
theorem pz_mul_addL (u v f : pz_P) : pz_mul (pz_add u v) f = pz_add (pz_mul u f) (pz_mul v f) := funext fun n => pz_c_addL n u v f
theorem pz_mul_addR (u f g : pz_P) : pz_mul u (pz_add f g) = pz_add (pz_mul u f) (pz_mul u g) := funext fun n => pz_c_addR n u f g
theorem pz_mul_scL (c : Int) (u f : pz_P) : pz_mul (pz_sc c u) f = pz_sc c (pz_mul u f) := funext fun n => pz_c_scL n c u f
theorem pz_mul_scR (c : Int) (u f : pz_P) : pz_mul u (pz_sc c f) = pz_sc c (pz_mul u f) := funext fun n => pz_c_scR n c u f
/-- no coefficient from the place d on -/
def pz_lt (u : pz_P) (d : Nat) : Prop := ∀ i, d ≤ i → u i = 0
theorem pz_lt.mono {u : pz_P} {d e : Nat} (h : pz_lt u d) (hd : d ≤ e) : pz_lt u e := fun i hi => h i (by omega)
theorem pz_lt.add {u v : pz_P} {d : Nat} (h : pz_lt u d) (k : pz_lt v d) : pz_lt (pz_add u v) d := fun i hi => by
  show u i + v i = 0
  rw [h i hi, k i hi]
  rfl
theorem pz_lt.sc {u : pz_P} {d : Nat} (h : pz_lt u d) (c : Int) : pz_lt (pz_sc c u) d := fun i hi => by
  show c * u i = 0
  rw [h i hi, Int.mul_zero]
/-- products: the degrees add up (both one above the degree) -/
theorem pz_c_lt : ∀ (a n : Nat) (u f : pz_P) (b : Nat), pz_lt u a → pz_lt f b → a + b ≤ n + 1 → pz_c n u f = 0
  | 0, n, u, f, b, hu, hf, h => pz_c_zeroL n u f (fun i => hu i (Nat.zero_le _))
  | a + 1, 0, u, f, b, hu, hf, h => by
    show u 0 * f 0 = 0
    rw [hf 0 (by omega), Int.mul_zero]
  | a + 1, n + 1, u, f, b, hu, hf, h => by
    show u 0 * f (n + 1) + pz_c n (pz_tl u) f = 0
    rw [hf (n + 1) (by omega), Int.mul_zero, pz_c_lt a n (pz_tl u) f b (fun i hi => hu (i + 1) (by omega)) hf (by omega)]
    rfl
theorem pz_lt.mul {u f : pz_P} {a b c : Nat} (hu : pz_lt u a) (hf : pz_lt f b) (h : a + b ≤ c + 1) : pz_lt (pz_mul u f) c := fun n hn => pz_c_lt a n u f b hu hf (by omega)
theorem pz_lt.zero (u : pz_P) (h : pz_lt u 0) : u = pz_0 := funext fun i => h i (Nat.zero_le _)
/-- the leading coefficient of a product -/
theorem pz_c_lead : ∀ (a : Nat) (u f : pz_P) (b : Nat), pz_lt u (a + 1) → pz_lt f (b + 1) → pz_c (a + b) u f = u a * f b
  | 0, u, f, b, hu, hf => by
    cases b with
    | zero => rfl
    | succ b =>
      show pz_c (0 + (b + 1)) u f = _
      rw [Nat.zero_add]
      show u 0 * f (b + 1) + pz_c b (pz_tl u) f = u 0 * f (b + 1)
      rw [pz_c_zeroL b (pz_tl u) f (fun i => hu (i + 1) (by omega))]
      omega
  | a + 1, u, f, b, hu, hf => by
    rw [show a + 1 + b = (a + b) + 1 by omega]
    show u 0 * f (a + b + 1) + pz_c (a + b) (pz_tl u) f = u (a + 1) * f b
    rw [hf (a + b + 1) (by omega), pz_c_lead a (pz_tl u) f b (fun i hi => hu (i + 1) (by omega)) hf]
    show u 0 * 0 + u (a + 1) * f b = _
    omega
/-- a factor of a product of a low degree is of a low degree -/
theorem pz_deg_of {f : pz_P} {b : Nat} (hf : pz_lt f (b + 1)) (hb : f b ≠ 0) (k : Nat) : ∀ (a : Nat) (u : pz_P), pz_lt u a → pz_lt (pz_mul u f) (k + b) → pz_lt u k
  | 0, u, hu, h => hu.mono (by omega)
  | a + 1, u, hu, h => by
    by_cases hk : a + 1 ≤ k
    · exact hu.mono hk
    · have h1 : pz_mul u f (a + b) = 0 := h (a + b) (by omega)
      have h2 : pz_mul u f (a + b) = u a * f b := pz_c_lead a u f b hu hf
      rw [h2] at h1
      have h3 : u a = 0 := by
        rcases Int.mul_eq_zero.mp h1 with q | q
        · exact q
        · exact absurd q hb
      refine pz_deg_of hf hb k a u (fun i hi => ?_) h
      by_cases e : i = a
      · rw [e]; exact h3
      · exact hu i (by omega)
