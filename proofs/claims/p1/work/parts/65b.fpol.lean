/-! The fast machine: sums of products of symbols. -/
theorem jsg_mul2 (u v : Int) : jsg u * jsg v = jsg (u * v) := by
  rcases Int.lt_trichotomy u 0 with h1 | h1 | h1
  · rcases Int.lt_trichotomy v 0 with h2 | h2 | h2
    · rw [jsg_neg h1, jsg_neg h2, jsg_pos (Int.mul_pos_of_neg_of_neg h1 h2)]; rfl
    · rw [h2, Int.mul_zero, jsg_zero, Int.mul_zero]
    · rw [jsg_neg h1, jsg_pos h2, jsg_neg (Int.mul_neg_of_neg_of_pos h1 h2)]; rfl
  · rw [h1, Int.zero_mul, jsg_zero, Int.zero_mul]
  · rcases Int.lt_trichotomy v 0 with h2 | h2 | h2
    · rw [jsg_pos h1, jsg_neg h2, jsg_neg (Int.mul_neg_of_pos_of_neg h1 h2)]; rfl
    · rw [h2, Int.mul_zero, jsg_zero, Int.mul_zero]
    · rw [jsg_pos h1, jsg_pos h2, jsg_pos (Int.mul_pos h1 h2)]; rfl
theorem mq_meq_of {a b : mq_Mn} (h : mq_meq a b = true) : a = b := by
  unfold mq_meq at h
  rw [mq_and_eq, mq_and_eq, mq_and_eq] at h
  obtain ⟨h1, h2, h3, h4⟩ := h
  obtain ⟨a1, a2, a3, a4⟩ := a
  obtain ⟨b1, b2, b3, b4⟩ := b
  have e1 : a1 = b1 := Nat.beq_eq.mp h1
  have e2 : a2 = b2 := Nat.beq_eq.mp h2
  have e3 : a3 = b3 := Nat.beq_eq.mp h3
  have e4 : a4 = b4 := Nat.beq_eq.mp h4
  rw [e1, e2, e3, e4]
section MQP
variable {ρ : Nat → Nat}
def mq_tv (ρ : Nat → Nat) (t : mq_Mn × Nat × Nat) : Int := ((t.2.1 : Int) - t.2.2) * mq_mono ρ t.1
theorem mq_pv_nil : mq_pv ρ [] = 0 := rfl
theorem mq_pv_cons (t : mq_Mn × Nat × Nat) (l : mq_Pl) : mq_pv ρ (t :: l) = mq_tv ρ t + mq_pv ρ l := rfl
theorem mq_cmb_pv (t x : mq_Mn × Nat × Nat) (xs : mq_Pl) (h : t.1 = x.1) : mq_pv ρ (mq_cmb t x xs) = mq_tv ρ t + (mq_tv ρ x + mq_pv ρ xs) := by
  unfold mq_cmb mq_tv
  rw [← h, ← Int.add_assoc, ← Int.add_mul]
  cases e : Nat.beq (Nat.add t.2.1 x.2.1) (Nat.add t.2.2 x.2.2)
  · show (((t.2.1 + x.2.1 - (t.2.2 + x.2.2) : Nat) : Int) - ((t.2.2 + x.2.2 - (t.2.1 + x.2.1) : Nat) : Int)) * mq_mono ρ t.1 + mq_pv ρ xs = _
    congr 2
    omega
  · have e : t.2.1 + x.2.1 = t.2.2 + x.2.2 := Nat.beq_eq.mp e
    show mq_pv ρ xs = _
    rw [show ((t.2.1 : Int) - t.2.2 + ((x.2.1 : Int) - x.2.2)) = 0 by omega, Int.zero_mul, Int.zero_add]
theorem mq_pa1_pv (t : mq_Mn × Nat × Nat) : ∀ l : mq_Pl, mq_pv ρ (mq_pa1 t l) = mq_tv ρ t + mq_pv ρ l
  | [] => rfl
  | x :: xs => by
    show mq_pv ρ (Bool.rec (motive := fun _ => mq_Pl) (x :: mq_pa1 t xs) (mq_cmb t x xs) (mq_meq t.1 x.1)) = _
    cases e : mq_meq t.1 x.1
    · show mq_pv ρ (x :: mq_pa1 t xs) = _
      rw [mq_pv_cons, mq_pa1_pv t xs, mq_pv_cons]
      omega
    · show mq_pv ρ (mq_cmb t x xs) = _
      rw [mq_cmb_pv t x xs (mq_meq_of e), mq_pv_cons]
theorem mq_pad_pv (l2 : mq_Pl) : ∀ l1 : mq_Pl, mq_pv ρ (mq_pad l1 l2) = mq_pv ρ l1 + mq_pv ρ l2
  | [] => by show mq_pv ρ l2 = _; rw [mq_pv_nil, Int.zero_add]
  | t :: l => by
    show mq_pv ρ (mq_pa1 t (mq_pad l l2)) = _
    rw [mq_pa1_pv, mq_pad_pv l2 l, mq_pv_cons, Int.add_assoc]
theorem mq_cf (p n q m : Nat) : (((p * q + n * m : Nat) : Int) - ((p * m + n * q : Nat) : Int)) = ((p : Int) - n) * ((q : Int) - m) := by
  rw [Int.sub_mul, Int.mul_sub, Int.mul_sub, Int.natCast_add, Int.natCast_add, Int.natCast_mul, Int.natCast_mul, Int.natCast_mul, Int.natCast_mul]
  omega
theorem mq_psc_pv (p n : Nat) : ∀ l : mq_Pl, mq_pv ρ (mq_psc p n l) = ((p : Int) - n) * mq_pv ρ l
  | [] => by show (0 : Int) = _; rw [mq_pv_nil, Int.mul_zero]
  | x :: l => by
    show (((p * x.2.1 + n * x.2.2 : Nat) : Int) - ((p * x.2.2 + n * x.2.1 : Nat) : Int)) * mq_mono ρ x.1 + mq_pv ρ (mq_psc p n l) = _
    rw [mq_psc_pv p n l, mq_cf, mq_pv_cons, Int.mul_add, Int.mul_assoc]
    rfl
theorem mq_madd_mono (a b : mq_Mn) : mq_mono ρ (mq_madd a b) = mq_mono ρ a * mq_mono ρ b := by
  show mq_xi ρ 2 ^ (a.1 + b.1) * mq_xi ρ 3 ^ (a.2.1 + b.2.1) * (mq_xi ρ 4 ^ (a.2.2.1 + b.2.2.1) * mq_xi ρ 5 ^ (a.2.2.2 + b.2.2.2)) = mq_xi ρ 2 ^ a.1 * mq_xi ρ 3 ^ a.2.1 * (mq_xi ρ 4 ^ a.2.2.1 * mq_xi ρ 5 ^ a.2.2.2) * (mq_xi ρ 2 ^ b.1 * mq_xi ρ 3 ^ b.2.1 * (mq_xi ρ 4 ^ b.2.2.1 * mq_xi ρ 5 ^ b.2.2.2))
  rw [Int.pow_add, Int.pow_add, Int.pow_add, Int.pow_add]
  simp only [Int.mul_comm, Int.mul_left_comm, Int.mul_assoc]
theorem mq_pm1_pv (t : mq_Mn × Nat × Nat) : ∀ l : mq_Pl, mq_pv ρ (mq_pm1 t l) = mq_tv ρ t * mq_pv ρ l
  | [] => by show (0 : Int) = _; rw [mq_pv_nil, Int.mul_zero]
  | x :: l => by
    show (((t.2.1 * x.2.1 + t.2.2 * x.2.2 : Nat) : Int) - ((t.2.1 * x.2.2 + t.2.2 * x.2.1 : Nat) : Int)) * mq_mono ρ (mq_madd t.1 x.1) + mq_pv ρ (mq_pm1 t l) = _
    rw [mq_pm1_pv t l, mq_cf, mq_pv_cons, Int.mul_add, mq_madd_mono]
    unfold mq_tv
    congr 1
    simp only [Int.mul_comm, Int.mul_left_comm, Int.mul_assoc]
theorem mq_pmu_pv (l2 : mq_Pl) : ∀ l1 : mq_Pl, mq_pv ρ (mq_pmu l1 l2) = mq_pv ρ l1 * mq_pv ρ l2
  | [] => by show (0 : Int) = _; rw [mq_pv_nil, Int.zero_mul]
  | t :: l => by
    show mq_pv ρ (mq_pad (mq_pm1 t l2) (mq_pmu l l2)) = _
    rw [mq_pad_pv, mq_pm1_pv, mq_pmu_pv l2 l, mq_pv_cons, Int.add_mul]
theorem mq_mono0 : mq_mono ρ (0, 0, 0, 0) = 1 := by
  show mq_xi ρ 2 ^ 0 * mq_xi ρ 3 ^ 0 * (mq_xi ρ 4 ^ 0 * mq_xi ρ 5 ^ 0) = 1
  rw [Int.pow_zero, Int.pow_zero, Int.pow_zero, Int.pow_zero]
  rfl
theorem mq_m0_mono {m : mq_Mn} (h : mq_m0 m = true) : mq_mono ρ m = 1 := by
  obtain ⟨a, b, c, d⟩ := m
  have h : a + b + (c + d) = 0 := Nat.beq_eq.mp h
  have h1 : a = 0 := by omega
  have h2 : b = 0 := by omega
  have h3 : c = 0 := by omega
  have h4 : d = 0 := by omega
  rw [h1, h2, h3, h4]
  exact mq_mono0
theorem mq_tol_pv (v : mq_N) : mq_pv ρ (mq_tol v) = mq_nv ρ v := by
  match v with
  | .inr l => rfl
  | .inl (p, n) =>
    show mq_pv ρ (Bool.rec (motive := fun _ => mq_Pl) [((0, 0, 0, 0), p, n)] [] (Nat.beq (Nat.add p n) 0)) = (p : Int) - n
    cases e : Nat.beq (Nat.add p n) 0
    · show ((p : Int) - n) * mq_mono ρ (0, 0, 0, 0) + 0 = _
      rw [mq_mono0, Int.mul_one, Int.add_zero]
    · have e : p + n = 0 := Nat.beq_eq.mp e
      show (0 : Int) = _
      omega
theorem mq_frl_nv (l : mq_Pl) : mq_nv ρ (mq_frl l) = mq_pv ρ l ∧ mq_nf (mq_frl l) ∧ mq_jk (mq_frl l) = false := by
  match l with
  | [] => exact ⟨rfl, Or.inl rfl, rfl⟩
  | t :: y :: ys => exact ⟨rfl, trivial, rfl⟩
  | [t] =>
    have e0 : mq_frl [t] = Bool.rec (motive := fun _ => mq_N) (Sum.inr [t]) (mq_mk t.2.1 t.2.2) (mq_m0 t.1) := rfl
    rw [e0]
    cases e : mq_m0 t.1
    · exact ⟨rfl, trivial, rfl⟩
    · refine ⟨?_, ?_, rfl⟩
      · show ((t.2.1 - t.2.2 : Nat) : Int) - ((t.2.2 - t.2.1 : Nat) : Int) = ((t.2.1 : Int) - t.2.2) * mq_mono ρ t.1 + 0
        rw [mq_m0_mono e]
        omega
      · show t.2.1 - t.2.2 = 0 ∨ t.2.2 - t.2.1 = 0
        omega
theorem mq_add_of {u v : mq_N} {k : mq_N → Bool} (h : mq_add u v k = true) : ∃ z, mq_nv ρ z = mq_nv ρ u + mq_nv ρ v ∧ mq_nf z ∧ k z = true := by
  match u, v, h with
  | .inl (p, n), .inl (q, m), h =>
    refine ⟨_, ?_, ?_, h⟩
    · show (((p + q) - (n + m) : Nat) : Int) - (((n + m) - (p + q) : Nat) : Int) = ((p : Int) - n) + ((q : Int) - m)
      omega
    · show (p + q) - (n + m) = 0 ∨ (n + m) - (p + q) = 0
      omega
  | .inl q, .inr l, h =>
    obtain ⟨h1, h2, -⟩ := mq_frl_nv (ρ := ρ) (mq_pad (mq_tol (Sum.inl q)) l)
    exact ⟨_, by rw [h1, mq_pad_pv, mq_tol_pv]; rfl, h2, h⟩
  | .inr l, v, h =>
    obtain ⟨h1, h2, -⟩ := mq_frl_nv (ρ := ρ) (mq_pad l (mq_tol v))
    exact ⟨_, by rw [h1, mq_pad_pv, mq_tol_pv]; rfl, h2, h⟩
theorem mq_neg_of {u : mq_N} {k : mq_N → Bool} (h : mq_neg u k = true) : ∃ z, mq_nv ρ z = -mq_nv ρ u ∧ k z = true := by
  match u, h with
  | .inl (p, n), h =>
    refine ⟨_, ?_, h⟩
    show ((n : Int) - p) = -((p : Int) - n)
    omega
  | .inr l, h =>
    refine ⟨_, ?_, h⟩
    show mq_pv ρ (mq_psc 0 1 l) = -mq_pv ρ l
    rw [mq_psc_pv]
    omega
theorem mq_mul_of {u v : mq_N} {k : mq_N → Bool} (h : mq_mul u v k = true) : ∃ z, mq_nv ρ z = mq_nv ρ u * mq_nv ρ v ∧ mq_nf z ∧ k z = true := by
  match u, v, h with
  | .inl (p, n), .inl (q, m), h =>
    refine ⟨_, ?_, ?_, h⟩
    · show (((p * q + n * m) - (p * m + n * q) : Nat) : Int) - (((p * m + n * q) - (p * q + n * m) : Nat) : Int) = ((p : Int) - n) * ((q : Int) - m)
      rw [← mq_cf]
      generalize p * q + n * m = x
      generalize p * m + n * q = y
      omega
    · show (p * q + n * m) - (p * m + n * q) = 0 ∨ (p * m + n * q) - (p * q + n * m) = 0
      generalize p * q + n * m = x
      generalize p * m + n * q = y
      omega
  | .inl q, .inr l, h =>
    obtain ⟨h1, h2, -⟩ := mq_frl_nv (ρ := ρ) (mq_pmu (mq_tol (Sum.inl q)) l)
    exact ⟨_, by rw [h1, mq_pmu_pv, mq_tol_pv]; rfl, h2, h⟩
  | .inr l, v, h =>
    obtain ⟨h1, h2, -⟩ := mq_frl_nv (ρ := ρ) (mq_pmu l (mq_tol v))
    exact ⟨_, by rw [h1, mq_pmu_pv, mq_tol_pv]; rfl, h2, h⟩
theorem mq_add_jk {u v : mq_N} {k : mq_N → Bool} (h : mq_add u v k = true) : ∃ z, mq_nv ρ z = mq_nv ρ u + mq_nv ρ v ∧ mq_nf z ∧ mq_jk z = false ∧ k z = true := by
  match u, v, h with
  | .inl q, .inl r, h =>
    obtain ⟨z, z1, z2, z3⟩ := mq_add_of (ρ := ρ) (u := Sum.inl q) (v := Sum.inl r) (k := fun z => decide (z = mq_mk (Nat.add q.1 r.1) (Nat.add q.2 r.2))) (decide_eq_true rfl)
    have z3 := of_decide_eq_true z3
    subst z3
    exact ⟨_, z1, z2, rfl, h⟩
  | .inl q, .inr l, h =>
    obtain ⟨h1, h2, h3⟩ := mq_frl_nv (ρ := ρ) (mq_pad (mq_tol (Sum.inl q)) l)
    exact ⟨_, by rw [h1, mq_pad_pv, mq_tol_pv]; rfl, h2, h3, h⟩
  | .inr l, v, h =>
    obtain ⟨h1, h2, h3⟩ := mq_frl_nv (ρ := ρ) (mq_pad l (mq_tol v))
    exact ⟨_, by rw [h1, mq_pad_pv, mq_tol_pv]; rfl, h2, h3, h⟩
theorem mq_mul_jk {u v : mq_N} {k : mq_N → Bool} (h : mq_mul u v k = true) : ∃ z, mq_nv ρ z = mq_nv ρ u * mq_nv ρ v ∧ mq_nf z ∧ mq_jk z = false ∧ k z = true := by
  match u, v, h with
  | .inl q, .inl r, h =>
    obtain ⟨z, z1, z2, z3⟩ := mq_mul_of (ρ := ρ) (u := Sum.inl q) (v := Sum.inl r) (k := fun z => decide (z = mq_mk (Nat.add (Nat.mul q.1 r.1) (Nat.mul q.2 r.2)) (Nat.add (Nat.mul q.1 r.2) (Nat.mul q.2 r.1)))) (decide_eq_true rfl)
    have z3 := of_decide_eq_true z3
    subst z3
    exact ⟨_, z1, z2, rfl, h⟩
  | .inl q, .inr l, h =>
    obtain ⟨h1, h2, h3⟩ := mq_frl_nv (ρ := ρ) (mq_pmu (mq_tol (Sum.inl q)) l)
    exact ⟨_, by rw [h1, mq_pmu_pv, mq_tol_pv]; rfl, h2, h3, h⟩
  | .inr l, v, h =>
    obtain ⟨h1, h2, h3⟩ := mq_frl_nv (ρ := ρ) (mq_pmu l (mq_tol v))
    exact ⟨_, by rw [h1, mq_pmu_pv, mq_tol_pv]; rfl, h2, h3, h⟩
theorem mq_xi_le (ρ : Nat → Nat) (i : Nat) : (mq_xi ρ i).natAbs ≤ 2147483648 := by unfold mq_xi; omega
theorem mq_mono_le (m : mq_Mn) : (mq_mono ρ m).natAbs ≤ 2147483648 ^ (m.1 + m.2.1 + (m.2.2.1 + m.2.2.2)) := by
  have h : ∀ i e, (mq_xi ρ i ^ e).natAbs ≤ 2147483648 ^ e := fun i e => by
    rw [Int.natAbs_pow]
    exact Nat.pow_le_pow_left (mq_xi_le ρ i) e
  unfold mq_mono
  rw [Int.natAbs_mul, Int.natAbs_mul, Int.natAbs_mul, Nat.pow_add, Nat.pow_add, Nat.pow_add]
  exact Nat.mul_le_mul (Nat.mul_le_mul (h _ _) (h _ _)) (Nat.mul_le_mul (h _ _) (h _ _))
theorem mq_pbd_le : ∀ l : mq_Pl, (mq_pv ρ l).natAbs ≤ mq_pbd l
  | [] => Nat.le_refl 0
  | t :: l => by
    have ih := mq_pbd_le l
    have h1 := mq_mono_le (ρ := ρ) t.1
    have h2 : (((t.2.1 : Int) - t.2.2) * mq_mono ρ t.1).natAbs ≤ (t.2.1 + t.2.2) * 2147483648 ^ (t.1.1 + t.1.2.1 + (t.1.2.2.1 + t.1.2.2.2)) := by
      rw [Int.natAbs_mul]
      exact Nat.mul_le_mul (by omega) h1
    show (((t.2.1 : Int) - t.2.2) * mq_mono ρ t.1 + mq_pv ρ l).natAbs ≤ (t.2.1 + t.2.2) * 2147483648 ^ (t.1.1 + t.1.2.1 + (t.1.2.2.1 + t.1.2.2.2)) + mq_pbd l
    omega
theorem mq_fit_of {v : mq_N} {len : Nat} (h : mq_fit v len = true) (hf : mq_nf v) : jnl (mq_nv ρ v).natAbs ≤ len := by
  match v, h, hf with
  | .inl (p, n), h, hf =>
    have g : p + n + 1 ≤ 1000000000 ^ len := Nat.ble_eq.mp h
    have hf : p = 0 ∨ n = 0 := hf
    refine jnl_of ?_
    show ((p : Int) - n).natAbs < 1000000000 ^ len
    omega
  | .inr l, h, hf =>
    have g : mq_pbd l + 1 ≤ 1000000000 ^ len := Nat.ble_eq.mp h
    have := mq_pbd_le (ρ := ρ) l
    refine jnl_of ?_
    show (mq_pv ρ l).natAbs < 1000000000 ^ len
    omega
/-- signs as 0, 1, 2 -/
def mq_sc (s : Nat) (z : Int) : Prop := (s : Int) - 1 = jsg z
theorem mq_sc_le {s : Nat} {z : Int} (h : mq_sc s z) : s = 0 ∨ s = 1 ∨ s = 2 := by
  have := jsg_range z
  have h : (s : Int) - 1 = jsg z := h
  omega
theorem mq_smu_ok {a b : Nat} {x y : Int} (ha : mq_sc a x) (hb : mq_sc b y) : mq_sc (mq_smu a b) (x * y) := by
  have h1 : (a : Int) - 1 = jsg x := ha
  have h2 : (b : Int) - 1 = jsg y := hb
  show ((a * b + 2 - (a + b) : Nat) : Int) - 1 = jsg (x * y)
  rw [← jsg_mul2, ← h1, ← h2]
  rcases mq_sc_le ha with q | q | q <;> rcases mq_sc_le hb with q2 | q2 | q2 <;> subst q <;> subst q2 <;> rfl
theorem mq_scd_ok (p n : Nat) : mq_sc (mq_scd p n) ((p : Int) - n) := by
  show ((mq_scd p n : Nat) : Int) - 1 = jsg ((p : Int) - n)
  unfold mq_scd
  have e1 : Nat.ble (Nat.add n (nat_lit 1)) p = decide (n < p) := by rw [Bool.eq_iff_iff, Nat.ble_eq, decide_eq_true_eq]; rfl
  have e2 : Nat.ble (Nat.add p (nat_lit 1)) n = decide (p < n) := by rw [Bool.eq_iff_iff, Nat.ble_eq, decide_eq_true_eq]; rfl
  rw [e1, e2]
  rcases Nat.lt_trichotomy p n with h | h | h
  · rw [jsg_neg (by omega), decide_eq_true h, decide_eq_false (show ¬ n < p by omega)]; rfl
  · rw [show (p : Int) - n = 0 by omega, decide_eq_false (show ¬ n < p by omega), decide_eq_false (show ¬ p < n by omega)]; rfl
  · rw [jsg_pos (by omega), decide_eq_true h]; rfl
theorem mq_s2i_ok {s : Nat} {z : Int} (h : mq_sc s z) : jn (mq_s2i s : Nat) = jn (jsg z) := by
  have h1 : (s : Int) - 1 = jsg z := h
  rw [← h1]
  rcases mq_sc_le h with q | q | q <;> subst q <;> rfl
theorem mq_nil_of {l : mq_Pl} (h : mq_nil l = true) : l = [] := by
  cases l
  · rfl
  · cases h
theorem mq_like_ok {pd nd pc nc s : Nat} {l q : mq_Pl} (h : mq_like pd nd pc nc l q = true) (hs : mq_sc s (mq_pv ρ q)) : mq_sc (mq_smu s (mq_smu (mq_scd pd nd) (mq_scd pc nc))) (mq_pv ρ l) := by
  unfold mq_like at h
  rw [mq_and_eq] at h
  obtain ⟨h1, h2⟩ := h
  have h1 : pd ≠ nd := by
    intro e
    rw [Nat.beq_eq.mpr e] at h1
    cases h1
  have h3 := mq_pad_pv (ρ := ρ) (mq_psc nc pc q) (mq_psc pd nd l)
  rw [mq_nil_of h2, mq_psc_pv, mq_psc_pv, mq_pv_nil] at h3
  have k := mq_smu_ok hs (mq_smu_ok (mq_scd_ok pd nd) (mq_scd_ok pc nc))
  have k : ((mq_smu s (mq_smu (mq_scd pd nd) (mq_scd pc nc)) : Nat) : Int) - 1 = jsg (mq_pv ρ q * (((pd : Int) - nd) * ((pc : Int) - nc))) := k
  show ((mq_smu s (mq_smu (mq_scd pd nd) (mq_scd pc nc)) : Nat) : Int) - 1 = jsg (mq_pv ρ l)
  rw [k]
  have e : mq_pv ρ q * (((pd : Int) - nd) * ((pc : Int) - nc)) = (((pd : Int) - nd) * ((pd : Int) - nd)) * mq_pv ρ l := by
    have e1 : ((pc : Int) - nc) * mq_pv ρ q = ((pd : Int) - nd) * mq_pv ρ l := by
      rw [Int.sub_mul] at h3 ⊢
      rw [Int.sub_mul] at h3
      rw [Int.sub_mul]
      omega
    rw [Int.mul_assoc, ← e1]
    simp only [Int.mul_comm, Int.mul_left_comm, Int.mul_assoc]
  rw [e, ← jsg_mul2]
  have hp : 0 < ((pd : Int) - nd) * ((pd : Int) - nd) := by
    rcases Nat.lt_or_gt_of_ne h1 with q1 | q1
    · exact Int.mul_pos_of_neg_of_neg (by omega) (by omega)
    · exact Int.mul_pos (by omega) (by omega)
  rw [jsg_pos hp, Int.one_mul]
theorem mq_tlk_of {t : mq_Mn × Nat × Nat} {l : mq_Pl} {env : mq_V} {k : Nat → mq_V → Bool} (hs : mq_Sat ρ env) : ∀ tab : List (Nat × mq_Pl), (∀ e ∈ tab, (ρ e.1 : Int) - 1 = jsg (mq_pv ρ e.2)) → mq_tlk tab t l env k = true → ∃ s e, mq_sc s (mq_pv ρ l) ∧ mq_Sat ρ e ∧ k s e = true
  | [], _, h => by cases h
  | e :: tab, ht, h => by
    rcases mq_if_or (show Bool.rec (motive := fun _ => Bool) (mq_tlk tab t l env k) (mq_fork env e.1 fun s en => k (mq_smu s (mq_smu (mq_scd (mq_pco t.1 e.2).1 (mq_pco t.1 e.2).2) (mq_scd t.2.1 t.2.2))) en) (mq_like (mq_pco t.1 e.2).1 (mq_pco t.1 e.2).2 t.2.1 t.2.2 l e.2) = true from h) with ⟨q, g⟩ | ⟨-, g⟩
    · obtain ⟨en, g1, g2⟩ := mq_fork_of (env := env) (i := e.1) (k := fun s en => k (mq_smu s (mq_smu (mq_scd (mq_pco t.1 e.2).1 (mq_pco t.1 e.2).2) (mq_scd t.2.1 t.2.2))) en) g hs
      exact ⟨_, en, mq_like_ok q (ht e List.mem_cons_self), g1, g2⟩
    · exact mq_tlk_of hs tab (fun e he => ht e (List.mem_cons_of_mem _ he)) g
theorem mq_lsg_of {l : mq_Pl} {env : mq_V} {k : Nat → mq_V → Bool} (hs : mq_Sat ρ env) (h : mq_lsg l env k = true) : ∃ s e, mq_sc s (mq_pv ρ l) ∧ mq_Sat ρ e ∧ k s e = true := by
  match l, h with
  | [], h => exact ⟨1, env, rfl, hs, h⟩
  | t :: y :: ys, h => exact mq_tlk_of hs mq_tabl hs.vq.1 h
  | [t], h =>
    rcases mq_if_or (show Bool.rec (motive := fun _ => Bool) (mq_tlk mq_tabl t [t] env k) (k (mq_scd t.2.1 t.2.2) env) (mq_m0 t.1) = true from h) with ⟨q, g⟩ | ⟨-, g⟩
    · refine ⟨_, env, ?_, hs, g⟩
      have e : mq_pv ρ [t] = (t.2.1 : Int) - t.2.2 := by
        show ((t.2.1 : Int) - t.2.2) * mq_mono ρ t.1 + 0 = _
        rw [mq_m0_mono q]
        omega
      rw [e]
      exact mq_scd_ok _ _
    · exact mq_tlk_of hs mq_tabl hs.vq.1 g
end MQP
/-- powers of a common product are taken out -/
def mq_mle (a b : mq_Mn) : Prop := a.1 ≤ b.1 ∧ a.2.1 ≤ b.2.1 ∧ a.2.2.1 ≤ b.2.2.1 ∧ a.2.2.2 ≤ b.2.2.2
theorem mq_min2_le (a b : Nat) : mq_min2 a b ≤ a ∧ mq_min2 a b ≤ b := by
  unfold mq_min2
  cases e : Nat.ble a b
  · have : ¬ a ≤ b := by rw [← Nat.ble_eq, e]; simp
    exact ⟨by show b ≤ a; omega, Nat.le_refl _⟩
  · have : a ≤ b := Nat.ble_eq.mp e
    exact ⟨Nat.le_refl _, this⟩
theorem mq_mle_tr {a b c : mq_Mn} (h : mq_mle a b) (h2 : mq_mle b c) : mq_mle a c := ⟨Nat.le_trans h.1 h2.1, Nat.le_trans h.2.1 h2.2.1, Nat.le_trans h.2.2.1 h2.2.2.1, Nat.le_trans h.2.2.2 h2.2.2.2⟩
theorem mq_mmin_le (a b : mq_Mn) : mq_mle (mq_mmin a b) a ∧ mq_mle (mq_mmin a b) b := ⟨⟨(mq_min2_le _ _).1, (mq_min2_le _ _).1, (mq_min2_le _ _).1, (mq_min2_le _ _).1⟩, ⟨(mq_min2_le _ _).2, (mq_min2_le _ _).2, (mq_min2_le _ _).2, (mq_min2_le _ _).2⟩⟩
theorem mq_pgc_le (g : mq_Mn) : ∀ l : mq_Pl, mq_mle (mq_pgc g l) g ∧ ∀ x ∈ l, mq_mle (mq_pgc g l) x.1
  | [] => ⟨⟨Nat.le_refl _, Nat.le_refl _, Nat.le_refl _, Nat.le_refl _⟩, fun x hx => nomatch hx⟩
  | y :: l => by
    obtain ⟨h1, h2⟩ := mq_pgc_le g l
    obtain ⟨h3, h4⟩ := mq_mmin_le y.1 (mq_pgc g l)
    refine ⟨mq_mle_tr h4 h1, fun x hx => ?_⟩
    rcases List.mem_cons.mp hx with e | e
    · rw [e]; exact h3
    · exact mq_mle_tr h4 (h2 x e)
section MQP2
variable {ρ : Nat → Nat}
theorem mq_mono_sub {g m : mq_Mn} (h : mq_mle g m) : mq_mono ρ m = mq_mono ρ g * mq_mono ρ (m.1 - g.1, m.2.1 - g.2.1, m.2.2.1 - g.2.2.1, m.2.2.2 - g.2.2.2) := by
  obtain ⟨h1, h2, h3, h4⟩ := h
  rw [← mq_madd_mono]
  show mq_xi ρ 2 ^ m.1 * mq_xi ρ 3 ^ m.2.1 * (mq_xi ρ 4 ^ m.2.2.1 * mq_xi ρ 5 ^ m.2.2.2) = mq_xi ρ 2 ^ (g.1 + (m.1 - g.1)) * mq_xi ρ 3 ^ (g.2.1 + (m.2.1 - g.2.1)) * (mq_xi ρ 4 ^ (g.2.2.1 + (m.2.2.1 - g.2.2.1)) * mq_xi ρ 5 ^ (g.2.2.2 + (m.2.2.2 - g.2.2.2)))
  rw [Nat.add_sub_cancel' h1, Nat.add_sub_cancel' h2, Nat.add_sub_cancel' h3, Nat.add_sub_cancel' h4]
theorem mq_pdv_pv (g : mq_Mn) : ∀ l : mq_Pl, (∀ x ∈ l, mq_mle g x.1) → mq_pv ρ l = mq_mono ρ g * mq_pv ρ (mq_pdv g l)
  | [], _ => by rw [mq_pv_nil]; show (0 : Int) = _ * 0; rw [Int.mul_zero]
  | x :: l, h => by
    have ih := mq_pdv_pv g l (fun y hy => h y (List.mem_cons_of_mem _ hy))
    have h1 := mq_mono_sub (ρ := ρ) (h x List.mem_cons_self)
    show ((x.2.1 : Int) - x.2.2) * mq_mono ρ x.1 + mq_pv ρ l = mq_mono ρ g * (((x.2.1 : Int) - x.2.2) * mq_mono ρ (x.1.1 - g.1, x.1.2.1 - g.2.1, x.1.2.2.1 - g.2.2.1, x.1.2.2.2 - g.2.2.2) + mq_pv ρ (mq_pdv g l))
    rw [ih, h1, Int.mul_add]
    congr 1
    simp only [Int.mul_comm, Int.mul_left_comm, Int.mul_assoc]
theorem jsg_pow (x : Int) : ∀ e : Nat, jsg (x ^ (e + 1)) = if (e + 1) % 2 = 0 then jsg x * jsg x else jsg x
  | 0 => by rw [if_neg (by decide), Int.pow_succ, Int.pow_zero, Int.one_mul]
  | e + 1 => by
    rw [Int.pow_succ, ← jsg_mul2, jsg_pow x e]
    have h3 : jsg x * jsg x * jsg x = jsg x := by
      have := jsg_range x
      rcases (show jsg x = -1 ∨ jsg x = 0 ∨ jsg x = 1 by omega) with h | h | h <;> rw [h] <;> rfl
    by_cases h : (e + 1) % 2 = 0
    · rw [if_pos h, if_neg (by omega), h3]
    · rw [if_neg h, if_pos (by omega)]
theorem mq_vsg_of {env : mq_V} {i j e : Nat} {k : Nat → mq_V → Bool} (hs : mq_Sat ρ env) (hi : (ρ i : Int) - 1 = jsg (mq_xi ρ j)) (h : mq_vsg env i e k = true) : ∃ s en, mq_sc s (mq_xi ρ j ^ e) ∧ mq_Sat ρ en ∧ k s en = true := by
  rcases mq_if_or (show Bool.rec (motive := fun _ => Bool) (mq_fork env i fun s en => k (Bool.rec (motive := fun _ => Nat) s (mq_smu s s) (Nat.beq (Nat.mod e (nat_lit 2)) 0)) en) (k (nat_lit 2) env) (Nat.beq e 0) = true from h) with ⟨q, g⟩ | ⟨q, g⟩
  · have q : e = 0 := Nat.beq_eq.mp q
    subst q
    exact ⟨2, env, (by show ((2 : Nat) : Int) - 1 = jsg (mq_xi ρ j ^ 0); rw [Int.pow_zero]; rfl), hs, g⟩
  · have q : e ≠ 0 := fun e0 => by rw [Nat.beq_eq.mpr e0] at q; cases q
    obtain ⟨d, rfl⟩ : ∃ d, e = d + 1 := ⟨e - 1, by omega⟩
    obtain ⟨en, g1, g2⟩ := mq_fork_of (env := env) (i := i) (k := fun s en => k (Bool.rec (motive := fun _ => Nat) s (mq_smu s s) (Nat.beq (Nat.mod (d + 1) (nat_lit 2)) 0)) en) g hs
    refine ⟨_, en, ?_, g1, g2⟩
    have hsc : mq_sc (ρ i) (mq_xi ρ j) := hi
    have hp := jsg_pow (mq_xi ρ j) d
    cases e0 : Nat.beq (Nat.mod (d + 1) (nat_lit 2)) 0
    · have e0 : ¬ (d + 1) % 2 = 0 := fun e1 => by
        have e2 : Nat.beq (Nat.mod (d + 1) (nat_lit 2)) 0 = true := Nat.beq_eq.mpr e1
        rw [e2] at e0; cases e0
      rw [if_neg e0] at hp
      show ((ρ i : Nat) : Int) - 1 = jsg (mq_xi ρ j ^ (d + 1))
      rw [hp]
      exact hi
    · have e0 : (d + 1) % 2 = 0 := Nat.beq_eq.mp e0
      rw [if_pos e0, jsg_mul2] at hp
      have k1 := mq_smu_ok hsc hsc
      show ((mq_smu (ρ i) (ρ i) : Nat) : Int) - 1 = jsg (mq_xi ρ j ^ (d + 1))
      rw [hp]
      exact k1
theorem mq_xi_eq {env : mq_V} (hs : mq_Sat ρ env) (i : Nat) : mq_xi ρ i = (ρ i : Int) - 2147483648 := by
  have := hs.bd i
  unfold mq_xi
  omega
theorem mq_pos_of {env : mq_V} {i e : Nat} (hs : mq_Sat ρ env) (h : mq_pos env i e = true) : 0 < mq_xi ρ i ^ e := by
  unfold mq_pos at h
  rw [Bool.or_eq_true] at h
  rcases h with h | h
  · have h : e = 0 := Nat.beq_eq.mp h
    rw [h, Int.pow_zero]
    decide
  · have h : 2147483649 ≤ (mq_bd env i).1 := Nat.ble_eq.mp h
    have h2 := hs.of i (mq_bd env i).1 (mq_bd env i).2 rfl
    refine Int.pow_pos ?_
    rw [mq_xi_eq hs]
    omega
theorem mq_psg_of {l : mq_Pl} {env : mq_V} {k : Nat → mq_V → Bool} (hs : mq_Sat ρ env) (h : mq_psg l env k = true) : ∃ x e, jn (x : Nat) = jn (jsg (mq_pv ρ l)) ∧ mq_Sat ρ e ∧ k x e = true := by
  match l, h with
  | [], h => cases h
  | t :: xs, h =>
    obtain ⟨q, h⟩ := mq_cond_of (show Bool.rec (motive := fun _ => Bool) false (mq_vsg env (nat_lit 12) (mq_pgc t.1 xs).1 fun s1 e => mq_vsg e (nat_lit 13) (mq_pgc t.1 xs).2.2.1 fun s2 e => mq_lsg (mq_pdv (mq_pgc t.1 xs) (t :: xs)) e fun s e => k (mq_s2i (mq_smu (mq_smu s1 s2) s)) e) (mq_and (mq_pos env (nat_lit 3) (mq_pgc t.1 xs).2.1) (mq_pos env (nat_lit 5) (mq_pgc t.1 xs).2.2.2)) = true from h)
    rw [mq_and_eq] at q
    have p3 := mq_pos_of hs q.1
    have p5 := mq_pos_of hs q.2
    obtain ⟨g1, g2⟩ := mq_pgc_le t.1 xs
    have hpv := mq_pdv_pv (ρ := ρ) (mq_pgc t.1 xs) (t :: xs) (fun x hx => by
      rcases List.mem_cons.mp hx with e | e
      · rw [e]; exact g1
      · exact g2 x e)
    generalize mq_pgc t.1 xs = g at *
    have t12 : (ρ 12 : Int) - 1 = jsg (mq_xi ρ 2) := by
      rw [hs.vq.1 (12, [((1, 0, 0, 0), 1, 0)]) (by simp [mq_tabl])]
      show jsg ((((1 : Nat) : Int) - ((0 : Nat) : Int)) * (mq_xi ρ 2 ^ 1 * mq_xi ρ 3 ^ 0 * (mq_xi ρ 4 ^ 0 * mq_xi ρ 5 ^ 0)) + 0) = _
      rw [Int.pow_zero, Int.pow_zero, Int.pow_zero, Int.pow_one]
      congr 1
      omega
    have t13 : (ρ 13 : Int) - 1 = jsg (mq_xi ρ 4) := by
      rw [hs.vq.1 (13, [((0, 0, 1, 0), 1, 0)]) (by simp [mq_tabl])]
      show jsg ((((1 : Nat) : Int) - ((0 : Nat) : Int)) * (mq_xi ρ 2 ^ 0 * mq_xi ρ 3 ^ 0 * (mq_xi ρ 4 ^ 1 * mq_xi ρ 5 ^ 0)) + 0) = _
      rw [Int.pow_zero, Int.pow_zero, Int.pow_zero, Int.pow_one]
      congr 1
      omega
    obtain ⟨s1, e1, a1, S1, h⟩ := mq_vsg_of (j := 2) hs t12 h
    obtain ⟨s2, e2, a2, S2, h⟩ := mq_vsg_of (j := 4) S1 t13 h
    obtain ⟨s3, e3, a3, S3, h⟩ := mq_lsg_of S2 h
    refine ⟨_, e3, ?_, S3, h⟩
    rw [mq_s2i_ok (mq_smu_ok (mq_smu_ok a1 a2) a3), hpv]
    congr 1
    show _ = jsg (mq_xi ρ 2 ^ g.1 * mq_xi ρ 3 ^ g.2.1 * (mq_xi ρ 4 ^ g.2.2.1 * mq_xi ρ 5 ^ g.2.2.2) * mq_pv ρ (mq_pdv g (t :: xs)))
    rw [← jsg_mul2, ← jsg_mul2, ← jsg_mul2, ← jsg_mul2, ← jsg_mul2, ← jsg_mul2, jsg_pos p3, jsg_pos p5, Int.mul_one, Int.mul_one]
theorem mq_sg_eq {p n : Nat} (h : mq_nf (Sum.inl (p, n))) : jn (mq_sg p n : Nat) = jn (jsg (mq_nv ρ (Sum.inl (p, n)))) := by
  have h : p = 0 ∨ n = 0 := h
  show jn (mq_sg p n : Nat) = jn (jsg ((p : Int) - n))
  unfold mq_sg jsg
  by_cases hp : 1 ≤ p
  · have e : Nat.ble (nat_lit 1) p = true := Nat.ble_eq.mpr hp
    rw [e, if_neg (by omega), if_pos (by omega)]
    rfl
  · have e : Nat.ble (nat_lit 1) p = false := by rw [← Bool.not_eq_true, Nat.ble_eq]; exact hp
    rw [e]
    by_cases hn : 1 ≤ n
    · have e : Nat.ble (nat_lit 1) n = true := Nat.ble_eq.mpr hn
      rw [e, if_pos (by omega)]
      rfl
    · have e : Nat.ble (nat_lit 1) n = false := by rw [← Bool.not_eq_true, Nat.ble_eq]; exact hn
      rw [e, if_neg (by omega), if_neg (by omega)]
      rfl
theorem mq_sgn_of {v : mq_N} {env : mq_V} {k : Nat → mq_V → Bool} (h : mq_sgn v env k = true) (hf : mq_nf v) (hs : mq_Sat ρ env) : ∃ x e, jn (x : Nat) = jn (jsg (mq_nv ρ v)) ∧ mq_Sat ρ e ∧ k x e = true := by
  match v, h, hf with
  | .inl (p, n), h, hf => exact ⟨_, _, mq_sg_eq hf, hs, h⟩
  | .inr l, h, _ => exact mq_psg_of hs h
theorem mq_long_nf (x : Nat) : mq_nf (mq_long x) ∧ mq_jk (mq_long x) = false := by
  unfold mq_long
  cases Nat.ble (nat_lit 9223372036854775808) (Nat.mod x (nat_lit 18446744073709551616))
  · exact ⟨Or.inr rfl, rfl⟩
  · exact ⟨Or.inl rfl, rfl⟩
theorem mq_long_eq (x : Nat) : mq_nv ρ (mq_long x) = (jl (x : Nat)).toInt := by
  rw [mq_jl_toInt]
  have e : mq_o64 x = (x + 9223372036854775808) % 18446744073709551616 := rfl
  rw [e]
  unfold mq_long
  have e2 : Nat.mod x (nat_lit 18446744073709551616) = x % 18446744073709551616 := rfl
  rw [e2]
  by_cases h : 9223372036854775808 ≤ x % 18446744073709551616
  · have e1 : Nat.ble (nat_lit 9223372036854775808) (x % 18446744073709551616) = true := Nat.ble_eq.mpr h
    rw [e1]
    show ((0 : Nat) : Int) - ((18446744073709551616 - x % 18446744073709551616 : Nat) : Int) = _
    omega
  · have e1 : Nat.ble (nat_lit 9223372036854775808) (x % 18446744073709551616) = false := by rw [← Bool.not_eq_true, Nat.ble_eq]; exact h
    rw [e1]
    show ((x % 18446744073709551616 : Nat) : Int) - ((0 : Nat) : Int) = _
    omega
theorem mq_syN_ok {env : mq_V} (hs : mq_Sat ρ env) {i : Nat} (h1 : 2 ≤ i) (h2 : i ≤ 5) : mq_nv ρ (mq_syN env i) = (ρ i : Int) - 2147483648 ∧ mq_nf (mq_syN env i) ∧ mq_jk (mq_syN env i) = false := by
  have hb := hs.of i (mq_bd env i).1 (mq_bd env i).2 rfl
  unfold mq_syN
  cases e : Nat.beq (mq_bd env i).1 (mq_bd env i).2
  · refine ⟨?_, trivial, rfl⟩
    have c : i = 2 ∨ i = 3 ∨ i = 4 ∨ i = 5 := by omega
    rw [← mq_xi_eq hs]
    rcases c with q | q | q | q <;> subst q
    · show (((1 : Nat) : Int) - ((0 : Nat) : Int)) * (mq_xi ρ 2 ^ 1 * mq_xi ρ 3 ^ 0 * (mq_xi ρ 4 ^ 0 * mq_xi ρ 5 ^ 0)) + 0 = _
      rw [Int.pow_zero, Int.pow_zero, Int.pow_zero, Int.pow_one]
      omega
    · show (((1 : Nat) : Int) - ((0 : Nat) : Int)) * (mq_xi ρ 2 ^ 0 * mq_xi ρ 3 ^ 1 * (mq_xi ρ 4 ^ 0 * mq_xi ρ 5 ^ 0)) + 0 = _
      rw [Int.pow_zero, Int.pow_zero, Int.pow_zero, Int.pow_one]
      omega
    · show (((1 : Nat) : Int) - ((0 : Nat) : Int)) * (mq_xi ρ 2 ^ 0 * mq_xi ρ 3 ^ 0 * (mq_xi ρ 4 ^ 1 * mq_xi ρ 5 ^ 0)) + 0 = _
      rw [Int.pow_zero, Int.pow_zero, Int.pow_zero, Int.pow_one]
      omega
    · show (((1 : Nat) : Int) - ((0 : Nat) : Int)) * (mq_xi ρ 2 ^ 0 * mq_xi ρ 3 ^ 0 * (mq_xi ρ 4 ^ 0 * mq_xi ρ 5 ^ 1)) + 0 = _
      rw [Int.pow_zero, Int.pow_zero, Int.pow_zero, Int.pow_one]
      omega
  · have e : (mq_bd env i).1 = (mq_bd env i).2 := Nat.beq_eq.mp e
    refine ⟨?_, ?_, rfl⟩
    · show (((mq_bd env i).1 - 2147483648 : Nat) : Int) - ((2147483648 - (mq_bd env i).1 : Nat) : Int) = _
      omega
    · show (mq_bd env i).1 - 2147483648 = 0 ∨ 2147483648 - (mq_bd env i).1 = 0
      omega
theorem mq_pr2_of {env : mq_V} {i j s : Nat} {k : mq_N → Bool} (hs : mq_Sat ρ env) (hi : 2 ≤ i ∧ i ≤ 5) (hj : 2 ≤ j ∧ j ≤ 5) (hv : mq_sx ρ s = mq_sx ρ i * mq_sx ρ j) (h : mq_pr2 env i j k = true) : ∃ v, mq_nv ρ v = (ρ s : Int) - 2147483648 ∧ mq_nf v ∧ k v = true := by
  unfold mq_pr2 at h
  obtain ⟨q, h⟩ := mq_cond_of h
  rw [mq_and_eq] at q
  have sm : ∀ x, mq_sml env x = true → ((ρ x : Int) - 2147483648).natAbs ≤ 32768 := fun x hx => by
    unfold mq_sml at hx
    rw [mq_and_eq] at hx
    have h1 : 2147450880 ≤ (mq_bd env x).1 := Nat.ble_eq.mp hx.1
    have h2 : (mq_bd env x).2 ≤ 2147516416 := Nat.ble_eq.mp hx.2
    have := hs.of x (mq_bd env x).1 (mq_bd env x).2 rfl
    omega
  obtain ⟨v, v1, v2, v3⟩ := mq_mul_of (ρ := ρ) h
  rw [(mq_syN_ok hs hi.1 hi.2).1, (mq_syN_ok hs hj.1 hj.2).1] at v1
  have hm : (((ρ i : Int) - 2147483648) * ((ρ j : Int) - 2147483648)).natAbs ≤ 32768 * 32768 := by
    rw [Int.natAbs_mul]
    exact Nat.mul_le_mul (sm i q.1) (sm j q.2)
  have hb := hs.bd s
  refine ⟨v, ?_, v2, v3⟩
  rw [v1]
  have hv2 : jn ((ρ s : Int) - 2147483648) = jn (((ρ i : Int) - 2147483648) * ((ρ j : Int) - 2147483648)) := by
    rw [← jn_mul]; exact hv
  exact ((jn_eq ⟨by omega, by omega⟩ ⟨by omega, by omega⟩).mp hv2).symm
theorem mq_vN_of {w : mq_W} {env : mq_V} {k : mq_N → mq_V → Bool} (hs : mq_Sat ρ env) (h : mq_vN w env k = true) : ∃ v z, mq_val ρ w = .long (jl z) ∧ jR z ∧ mq_nv ρ v = z ∧ mq_nf v ∧ k v env = true := by
  match w, h with
  | .inl _, h => cases h
  | .inr (.inl _), h => cases h
  | .inr (.inr (.inl x)), h => exact ⟨mq_long x, (jl (x : Nat)).toInt, by show Value.long (jl (x : Nat)) = _; rw [jl_of], jR_of _, mq_long_eq x, (mq_long_nf x).1, h⟩
  | .inr (.inr (.inr (.inl _))), h => cases h
  | .inr (.inr (.inr (.inr (.inr _)))), h => cases h
  | .inr (.inr (.inr (.inr (.inl i)))), h =>
    have h : mq_vNs i env k = true := h
    have hb := hs.bd i
    unfold mq_vNs at h
    rcases mq_if_or h with ⟨q, h⟩ | ⟨-, h⟩
    · rw [mq_and_eq] at q
      have q1 : 2 ≤ i := Nat.ble_eq.mp q.1
      have q2 : i ≤ 5 := Nat.ble_eq.mp q.2
      obtain ⟨v1, v2, -⟩ := mq_syN_ok hs q1 q2
      exact ⟨_, _, rfl, ⟨by omega, by omega⟩, v1, v2, h⟩
    · rcases mq_if_or h with ⟨q, h⟩ | ⟨-, h⟩
      · have q : i = 6 := Nat.beq_eq.mp q
        subst q
        obtain ⟨v, v1, v2, v3⟩ := mq_pr2_of (s := 6) hs ⟨by decide, by decide⟩ ⟨by decide, by decide⟩ hs.vq.2.1 h
        exact ⟨v, _, rfl, ⟨by omega, by omega⟩, v1, v2, v3⟩
      · rcases mq_if_or h with ⟨q, h⟩ | ⟨-, h⟩
        · have q : i = 7 := Nat.beq_eq.mp q
          subst q
          obtain ⟨v, v1, v2, v3⟩ := mq_pr2_of (s := 7) hs ⟨by decide, by decide⟩ ⟨by decide, by decide⟩ hs.vq.2.2.1 h
          exact ⟨v, _, rfl, ⟨by omega, by omega⟩, v1, v2, v3⟩
        · obtain ⟨q, h⟩ := mq_cond_of h
          have q : i = 8 := Nat.beq_eq.mp q
          subst q
          obtain ⟨v, v1, v2, v3⟩ := mq_pr2_of (s := 8) hs ⟨by decide, by decide⟩ ⟨by decide, by decide⟩ hs.vq.2.2.2.1 h
          exact ⟨v, _, rfl, ⟨by omega, by omega⟩, v1, v2, v3⟩
theorem mq_pN_of {st : List mq_W} {env : mq_V} {k : mq_N → List mq_W → mq_V → Bool} (h : mq_pN st env k = true) (hs : mq_Sat ρ env) : ∃ w s v z e, st = w :: s ∧ mq_val ρ w = .long (jl z) ∧ jR z ∧ mq_nv ρ v = z ∧ mq_nf v ∧ mq_Sat ρ e ∧ k v s e = true := by
  cases st with
  | nil => cases h
  | cons w s =>
    obtain ⟨v, z, h1, h2, h3, h4, h5⟩ := mq_vN_of (w := w) hs h
    exact ⟨w, s, v, z, env, rfl, h1, h2, h3, h4, hs, h5⟩
end MQP2
