/-! Values; a polynomial with small values at many places has small coefficients; so has a factor. -/
def pz_ev : Nat → pz_P → Int → Int
  | 0, _, _ => 0
  | n + 1, p, x => p 0 + x * pz_ev n (pz_tl p) x
theorem pz_ev_zero : ∀ (n : Nat) (p : pz_P) (x : Int), (∀ i, p i = 0) → pz_ev n p x = 0
  | 0, _, _, _ => rfl
  | n + 1, p, x, h => by
    show p 0 + x * pz_ev n (pz_tl p) x = 0
    rw [h 0, pz_ev_zero n (pz_tl p) x (fun i => h (i + 1)), Int.mul_zero]
    rfl
theorem pz_ev_more : ∀ (n k : Nat) (p : pz_P) (x : Int), pz_lt p n → pz_ev (n + k) p x = pz_ev n p x
  | 0, k, p, x, h => pz_ev_zero _ p x (fun i => h i (Nat.zero_le _))
  | n + 1, k, p, x, h => by
    rw [show n + 1 + k = (n + k) + 1 by omega]
    show p 0 + x * pz_ev (n + k) (pz_tl p) x = p 0 + x * pz_ev n (pz_tl p) x
    rw [pz_ev_more n k (pz_tl p) x (fun i hi => h (i + 1) (by omega))]
theorem pz_ev_le {n m : Nat} {p : pz_P} (x : Int) (h : pz_lt p n) (hm : n ≤ m) : pz_ev m p x = pz_ev n p x := by
  rw [show m = n + (m - n) by omega]
  exact pz_ev_more n (m - n) p x h
theorem pz_ev_add : ∀ (n : Nat) (p q : pz_P) (x : Int), pz_ev n (pz_add p q) x = pz_ev n p x + pz_ev n q x
  | 0, _, _, _ => rfl
  | n + 1, p, q, x => by
    show (p 0 + q 0) + x * pz_ev n (pz_add (pz_tl p) (pz_tl q)) x = (p 0 + x * pz_ev n (pz_tl p) x) + (q 0 + x * pz_ev n (pz_tl q) x)
    rw [pz_ev_add n, Int.mul_add]
    omega
theorem pz_ev_sc : ∀ (n : Nat) (c : Int) (p : pz_P) (x : Int), pz_ev n (pz_sc c p) x = c * pz_ev n p x
  | 0, c, _, _ => (Int.mul_zero c).symm
  | n + 1, c, p, x => by
    show c * p 0 + x * pz_ev n (pz_sc c (pz_tl p)) x = c * (p 0 + x * pz_ev n (pz_tl p) x)
    rw [pz_ev_sc n, Int.mul_add, Int.mul_left_comm]
theorem pz_ev_mul : ∀ (a b : Nat) (u f : pz_P) (x : Int), pz_lt u a → pz_lt f b → pz_ev (a + b) (pz_mul u f) x = pz_ev a u x * pz_ev b f x
  | 0, b, u, f, x, hu, hf => by
    show _ = 0 * _
    rw [Int.zero_mul]
    exact pz_ev_zero _ _ x (fun i => pz_c_zeroL i u f (fun j => hu j (Nat.zero_le _)))
  | a + 1, b, u, f, x, hu, hf => by
    rw [show a + 1 + b = (a + b) + 1 by omega]
    show u 0 * f 0 + x * pz_ev (a + b) (pz_tl (pz_mul u f)) x = (u 0 + x * pz_ev a (pz_tl u) x) * pz_ev b f x
    rw [pz_tl_mul, pz_ev_add, pz_ev_sc, pz_ev_mul a b (pz_tl u) f x (fun i hi => hu (i + 1) (by omega)) hf]
    have h1 : pz_ev b f x = f 0 + x * pz_ev (a + b) (pz_tl f) x := by
      rw [← pz_ev_le x hf (show b ≤ (a + b) + 1 by omega)]
      rfl
    rw [Int.add_mul, Int.mul_add, ← Int.add_assoc]
    congr 1
    · rw [h1, Int.mul_add, Int.mul_left_comm]
    · rw [Int.mul_assoc]
/-- the quotient by x - a -/
def pz_syn (N : Nat) (p : pz_P) (a : Int) : pz_P := fun i => pz_ev N (fun j => p (j + (i + 1))) a
theorem pz_syn_lt {N : Nat} {p : pz_P} (h : pz_lt p (N + 1)) (a : Int) : pz_lt (pz_syn (N + 1) p a) N := fun i hi => pz_ev_zero _ _ _ (fun j => h _ (by omega))
theorem pz_syn_succ {N : Nat} {p : pz_P} (h : pz_lt p (N + 1)) (a : Int) (i : Nat) : p (i + 1) = pz_syn (N + 1) p a i - a * pz_syn (N + 1) p a (i + 1) := by
  have e : pz_syn (N + 1) p a i = p (0 + (i + 1)) + a * pz_ev N (pz_tl (fun j => p (j + (i + 1)))) a := rfl
  have e2 : pz_tl (fun j => p (j + (i + 1))) = fun j => p (j + (i + 1 + 1)) := funext fun j => by show p (j + 1 + (i + 1)) = _; rw [show j + 1 + (i + 1) = j + (i + 1 + 1) by omega]
  have e3 : pz_syn (N + 1) p a (i + 1) = pz_ev N (fun j => p (j + (i + 1 + 1))) a := pz_ev_le a (fun j hj => h _ (by omega)) (by omega)
  rw [e2, ← e3, Nat.zero_add] at e
  omega
theorem pz_syn_zero {N : Nat} {p : pz_P} (h : pz_lt p (N + 1)) (a : Int) : p 0 = pz_ev (N + 1) p a - a * pz_syn (N + 1) p a 0 := by
  have e : pz_ev (N + 1) p a = p 0 + a * pz_ev N (pz_tl p) a := rfl
  have e3 : pz_syn (N + 1) p a 0 = pz_ev N (fun j => p (j + (0 + 1))) a := pz_ev_le a (fun j hj => h _ (by omega)) (by omega)
  have e4 : pz_tl p = fun j => p (j + (0 + 1)) := rfl
  rw [e4, ← e3] at e
  omega
def pz_lin (w a : Int) (q : pz_P) : pz_P := fun i => match i with
  | 0 => w - a * q 0
  | i + 1 => q i - a * q (i + 1)
theorem pz_ev_lin (a x : Int) : ∀ (n : Nat) (q : pz_P) (w : Int), pz_lt q n → pz_ev (n + 1) (pz_lin w a q) x = w + (x - a) * pz_ev n q x
  | 0, q, w, h => by
    show (w - a * q 0) + x * 0 = w + (x - a) * 0
    rw [h 0 (by omega), Int.mul_zero, Int.mul_zero, Int.mul_zero]
    omega
  | n + 1, q, w, h => by
    have e : pz_tl (pz_lin w a q) = pz_lin (q 0) a (pz_tl q) := funext fun i => by
      cases i with
      | zero => rfl
      | succ i => rfl
    show (w - a * q 0) + x * pz_ev (n + 1) (pz_tl (pz_lin w a q)) x = w + (x - a) * (q 0 + x * pz_ev n (pz_tl q) x)
    rw [e, pz_ev_lin a x n (pz_tl q) (q 0) (fun i hi => h (i + 1) (by omega))]
    generalize pz_ev n (pz_tl q) x = z
    rw [Int.mul_add, Int.mul_add, Int.sub_mul x a (q 0), Int.mul_left_comm x (x - a) z]
    omega
theorem pz_syn_ev {N : Nat} {p : pz_P} (h : pz_lt p (N + 1)) (a x : Int) : pz_ev (N + 1) p x = pz_ev (N + 1) p a + (x - a) * pz_ev N (pz_syn (N + 1) p a) x := by
  rw [← pz_ev_lin a x N (pz_syn (N + 1) p a) _ (pz_syn_lt h a)]
  congr 1
  funext i
  cases i with
  | zero => exact pz_syn_zero h a
  | succ i => exact pz_syn_succ h a i
theorem pz_kron {X : Nat} : ∀ (d : Nat) (p : pz_P) (pts : List Int) (V : Nat), pz_lt p (d + 1) → pts.length = d + 1 → pts.Pairwise (fun a b => a ≠ b) → (∀ x ∈ pts, x.natAbs ≤ X ∧ (pz_ev (d + 1) p x).natAbs ≤ V) → ∀ i, (p i).natAbs ≤ V * (2 * X + 3) ^ d
  | 0, p, [], V, hp, hl, _, _ => by simp at hl
  | 0, p, x :: l, V, hp, hl, hd, hv => fun i => by
    cases i with
    | zero =>
      have h1 := (hv x List.mem_cons_self).2
      have e : pz_ev 1 p x = p 0 + x * 0 := rfl
      rw [e, Int.mul_zero, Int.add_zero] at h1
      rw [Nat.pow_zero, Nat.mul_one]
      exact h1
    | succ i =>
      rw [hp (i + 1) (by omega)]
      exact Nat.zero_le _
  | d + 1, p, [], V, hp, hl, _, _ => by simp at hl
  | d + 1, p, a :: l, V, hp, hl, hd, hv => by
    have hd1 := (List.pairwise_cons.mp hd)
    have ha := hv a List.mem_cons_self
    have hq := pz_syn_lt hp a
    have ih := pz_kron d (pz_syn (d + 1 + 1) p a) l (2 * V) hq (by simpa using hl) hd1.2 (fun x hx => by
      have h1 := hv x (List.mem_cons_of_mem _ hx)
      refine ⟨h1.1, ?_⟩
      have h2 := pz_syn_ev hp a x
      have h3 : x - a ≠ 0 := fun e => hd1.1 x hx (by omega)
      have h4 : ((x - a) * pz_ev (d + 1) (pz_syn (d + 1 + 1) p a) x).natAbs ≤ 2 * V := by
        have := h1.2
        have := ha.2
        omega
      rw [Int.natAbs_mul] at h4
      have h5 : 1 ≤ (x - a).natAbs := by omega
      have h6 := Nat.mul_le_mul_right (pz_ev (d + 1) (pz_syn (d + 1 + 1) p a) x).natAbs h5
      omega)
    generalize hB : (2 * X + 3) ^ d = B at ih
    have hB1 : 1 ≤ B := by rw [← hB]; exact Nat.pow_pos (by omega)
    intro i
    rw [Nat.pow_succ, hB]
    have key : ∀ (z : Int) (q0 : Int) (W : Nat), q0.natAbs ≤ 2 * V * B → W ≤ 2 * V * B → z.natAbs ≤ W + X * (2 * V * B) → z.natAbs ≤ V * (B * (2 * X + 3)) := fun z q0 W _ hW hz => by
      have e1 : V * (B * (2 * X + 3)) = 2 * (X * (V * B)) + 3 * (V * B) := by
        rw [← Nat.mul_assoc, Nat.mul_add, Nat.mul_comm (V * B) (2 * X), Nat.mul_assoc 2 X (V * B), Nat.mul_comm (V * B) 3]
      have e2 : X * (2 * V * B) = 2 * (X * (V * B)) := by
        rw [Nat.mul_assoc 2 V B, Nat.mul_left_comm]
      have e3 : 2 * V * B = 2 * (V * B) := Nat.mul_assoc _ _ _
      omega
    have prod : ∀ j, (a * pz_syn (d + 1 + 1) p a j).natAbs ≤ X * (2 * V * B) := fun j => by
      rw [Int.natAbs_mul]
      exact Nat.mul_le_mul ha.1 (ih j)
    cases i with
    | zero =>
      have h1 := pz_syn_zero hp a
      have h2 := prod 0
      have h3 : V ≤ 2 * V * B := by
        have := Nat.mul_le_mul_left (2 * V) hB1
        omega
      refine key (p 0) (pz_syn (d + 1 + 1) p a 0) V (ih 0) h3 ?_
      have := ha.2
      omega
    | succ i =>
      have h1 := pz_syn_succ hp a i
      have h2 := prod (i + 1)
      have h3 := ih i
      exact key (p (i + 1)) (pz_syn (d + 1 + 1) p a i) (2 * V * B) h3 (Nat.le_refl _) (by omega)
theorem pz_filter_len (f : Int → Bool) : ∀ l : List Int, (l.filter f).length + (l.filter (fun x => ! f x)).length = l.length
  | [] => rfl
  | x :: l => by
    have := pz_filter_len f l
    rw [List.filter_cons, List.filter_cons]
    cases hx : f x <;> simp [hx] <;> omega
theorem pz_take_pw {l : List Int} (h : l.Pairwise (fun a b => a ≠ b)) (k : Nat) : (l.take k).Pairwise (fun a b => a ≠ b) := List.Pairwise.sublist (List.take_sublist k l) h
/-- a polynomial that is not 0 is 0 at few places only -/
theorem pz_nonroots {d : Nat} {p : pz_P} (hp : pz_lt p (d + 1)) (h0 : ∃ i, p i ≠ 0) {pts : List Int} (hd : pts.Pairwise (fun a b => a ≠ b)) : pts.length ≤ (pts.filter (fun x => ! decide (pz_ev (d + 1) p x = 0))).length + d := by
  by_cases c : (pts.filter (fun x => decide (pz_ev (d + 1) p x = 0))).length ≤ d
  · have := pz_filter_len (fun x => decide (pz_ev (d + 1) p x = 0)) pts
    omega
  · exfalso
    obtain ⟨i, hi⟩ := h0
    have hX : ∀ l : List Int, ∃ X : Nat, ∀ x ∈ l, x.natAbs ≤ X := by
      intro l
      induction l with
      | nil => exact ⟨0, fun x hx => by cases hx⟩
      | cons y l ih =>
        obtain ⟨X, hX⟩ := ih
        refine ⟨X + y.natAbs, fun x hx => ?_⟩
        rcases List.mem_cons.mp hx with e | e
        · rw [e]; omega
        · have := hX x e
          omega
    obtain ⟨X, hX⟩ := hX pts
    have h1 := pz_kron (X := X) d p ((pts.filter (fun x => decide (pz_ev (d + 1) p x = 0))).take (d + 1)) 0 hp (by rw [List.length_take]; omega) (pz_take_pw (List.Pairwise.filter _ hd) _) (fun x hx => by
      have h2 := List.mem_of_mem_take hx
      have h3 := List.mem_filter.mp h2
      refine ⟨hX x h3.1, ?_⟩
      have h4 : pz_ev (d + 1) p x = 0 := by simpa using h3.2
      rw [h4]
      exact Nat.zero_le _) i
    omega
/-- a factor of a polynomial of degree at most 12: its coefficients -/
theorem pz_factor {P S G : pz_P} {A : Nat} (hP : pz_lt P 13) (hS : pz_lt S 13) (hG : pz_lt G 13) (h : P = pz_mul S G) (h0 : ∃ i, P i ≠ 0) (hA : ∀ i, (P i).natAbs ≤ A) : ∀ i, (S i).natAbs ≤ A * 13 ^ 13 * 27 ^ 12 := by
  have hpts : ((List.range 25).map (fun k : Nat => (k : Int) - 12)).Pairwise (fun a b => a ≠ b) := by decide
  have hn := pz_nonroots (d := 12) hP h0 hpts
  have hlen : ((List.range 25).map (fun k : Nat => (k : Int) - 12)).length = 25 := by decide
  rw [hlen] at hn
  have hpow : ∀ (n : Nat) (p : pz_P) (x : Int), x.natAbs ≤ 12 → (∀ i, (p i).natAbs ≤ A) → (pz_ev n p x).natAbs ≤ A * 13 ^ n := by
    intro n
    induction n with
    | zero => intro p x _ _; exact Nat.zero_le _
    | succ n ih =>
      intro p x hx hp
      have h1 := ih (pz_tl p) x hx (fun i => hp (i + 1))
      have h2 : (x * pz_ev n (pz_tl p) x).natAbs ≤ 12 * (A * 13 ^ n) := by
        rw [Int.natAbs_mul]
        exact Nat.mul_le_mul hx h1
      have h3 := Int.natAbs_add_le (p 0) (x * pz_ev n (pz_tl p) x)
      have h4 := hp 0
      have h5 : A ≤ A * 13 ^ n := by
        have := Nat.mul_le_mul_left A (show 1 ≤ 13 ^ n from Nat.pow_pos (by omega))
        omega
      show (p 0 + x * pz_ev n (pz_tl p) x).natAbs ≤ A * 13 ^ (n + 1)
      rw [Nat.pow_succ, ← Nat.mul_assoc]
      omega
  intro i
  have key := pz_kron (X := 12) 12 S ((((List.range 25).map (fun k : Nat => (k : Int) - 12)).filter (fun x => ! decide (pz_ev (12 + 1) P x = 0))).take 13) (A * 13 ^ 13) hS (by rw [List.length_take]; omega) (pz_take_pw (List.Pairwise.filter _ hpts) _) (fun x hx => by
    have h2 := List.mem_of_mem_take hx
    have h3 := List.mem_filter.mp h2
    have hx12 : x.natAbs ≤ 12 := by
      obtain ⟨k, k1, k2⟩ := List.mem_map.mp h3.1
      have := List.mem_range.mp k1
      omega
    refine ⟨hx12, ?_⟩
    have h4 : pz_ev 13 P x ≠ 0 := by simpa using h3.2
    have h5 := pz_ev_mul 13 13 S G x hS hG
    rw [← h, pz_ev_le x hP (by omega)] at h5
    have h6 := hpow 13 P x hx12 hA
    rw [h5, Int.natAbs_mul] at h6
    have h7 : 1 ≤ (pz_ev 13 G x).natAbs := by
      have : pz_ev 13 G x ≠ 0 := fun e => by rw [e, Int.mul_zero] at h5; exact h4 h5
      omega
    have h8 := Nat.mul_le_mul_left (pz_ev 13 S x).natAbs h7
    show (pz_ev 13 S x).natAbs ≤ A * 13 ^ 13
    omega) i
  exact key
