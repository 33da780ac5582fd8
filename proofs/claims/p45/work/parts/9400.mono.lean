/-! Values at fractions, homogeneous; a row of Sturm loses changes of sign as the place goes up, one at each root of its first row. -/
def hz : Nat → pz_P → Int → Int → Int
  | 0, _, _, _ => 0
  | n + 1, p, a, D => p 0 * D ^ n + a * hz n (pz_tl p) a D
theorem hz_s (n : Nat) (p : pz_P) (a D : Int) : hz (n + 1) p a D = p 0 * D ^ n + a * hz n (pz_tl p) a D := rfl
theorem hz_zero : ∀ (n : Nat) (p : pz_P) (a D : Int), (∀ i, p i = 0) → hz n p a D = 0
  | 0, _, _, _, _ => rfl
  | n + 1, p, a, D, h => by
    rw [hz_s, h 0, hz_zero n (pz_tl p) a D (fun i => h (i + 1)), Int.mul_zero, Int.zero_mul]
    rfl
theorem hz_more : ∀ (n k : Nat) (p : pz_P) (a D : Int), pz_lt p n → hz (n + k) p a D = D ^ k * hz n p a D
  | 0, k, p, a, D, h => by
    rw [hz_zero _ p a D (fun i => h i (Nat.zero_le _))]
    exact (Int.mul_zero _).symm
  | n + 1, k, p, a, D, h => by
    rw [show n + 1 + k = (n + k) + 1 by omega, hz_s, hz_s, hz_more n k (pz_tl p) a D (fun i hi => h (i + 1) (by omega)), Int.pow_add, Int.mul_add]
    have e1 : p 0 * (D ^ n * D ^ k) = D ^ k * (p 0 * D ^ n) := by ac_rfl
    have e2 : a * (D ^ k * hz n (pz_tl p) a D) = D ^ k * (a * hz n (pz_tl p) a D) := by ac_rfl
    rw [e1, e2]
theorem hz_add : ∀ (n : Nat) (p q : pz_P) (a D : Int), hz n (pz_add p q) a D = hz n p a D + hz n q a D
  | 0, _, _, _, _ => rfl
  | n + 1, p, q, a, D => by
    show (p 0 + q 0) * D ^ n + a * hz n (pz_add (pz_tl p) (pz_tl q)) a D = _
    rw [hz_add n, hz_s, hz_s, Int.mul_add, Int.add_mul]
    omega
theorem hz_sc : ∀ (n : Nat) (c : Int) (p : pz_P) (a D : Int), hz n (pz_sc c p) a D = c * hz n p a D
  | 0, c, _, _, _ => (Int.mul_zero c).symm
  | n + 1, c, p, a, D => by
    show c * p 0 * D ^ n + a * hz n (pz_sc c (pz_tl p)) a D = _
    rw [hz_sc n, hz_s, Int.mul_add, Int.mul_left_comm, Int.mul_assoc]
theorem hz_mul : ∀ (a b : Nat) (u f : pz_P) (x D : Int), pz_lt u a → pz_lt f b → hz (a + b) (pz_mul u f) x D = D * (hz a u x D * hz b f x D)
  | 0, b, u, f, x, D, hu, hf => by
    rw [hz_zero _ (pz_mul u f) x D (fun i => pz_c_zeroL i u f (fun j => hu j (Nat.zero_le _)))]
    show 0 = D * (0 * _)
    rw [Int.zero_mul, Int.mul_zero]
  | a + 1, b, u, f, x, D, hu, hf => by
    rw [show a + 1 + b = (a + b) + 1 by omega, hz_s, hz_s, pz_tl_mul, hz_add, hz_sc, hz_mul a b (pz_tl u) f x D (fun i hi => hu (i + 1) (by omega)) hf]
    have h1 : D ^ (a + 1) * hz b f x D = f 0 * D ^ (a + b) + x * hz (a + b) (pz_tl f) x D := by
      rw [← hz_more b (a + 1) f x D hf, show b + (a + 1) = (a + b) + 1 by omega]
      rfl
    have h2 : pz_mul u f 0 = u 0 * f 0 := rfl
    rw [h2]
    have e1 : D * ((u 0 * D ^ a + x * hz a (pz_tl u) x D) * hz b f x D) = u 0 * (D ^ (a + 1) * hz b f x D) + x * (D * (hz a (pz_tl u) x D * hz b f x D)) := by
      rw [Int.add_mul, Int.mul_add, Int.pow_succ]
      congr 1
      · ac_rfl
      · ac_rfl
    rw [e1, h1, Int.mul_add, Int.mul_add]
    have e2 : u 0 * f 0 * D ^ (a + b) = u 0 * (f 0 * D ^ (a + b)) := Int.mul_assoc _ _ _
    have e3 : x * (u 0 * hz (a + b) (pz_tl f) x D) = u 0 * (x * hz (a + b) (pz_tl f) x D) := by ac_rfl
    rw [e2, e3]
    omega
theorem hz_hom : ∀ (n : Nat) (p : pz_P) (a D c : Int), hz (n + 1) p (a * c) (D * c) = c ^ n * hz (n + 1) p a D
  | 0, p, a, D, c => by
    rw [hz_s, hz_s, Int.pow_zero, Int.pow_zero, Int.pow_zero, Int.one_mul]
    show p 0 * 1 + a * c * 0 = p 0 * 1 + a * 0
    rw [Int.mul_zero, Int.mul_zero]
  | n + 1, p, a, D, c => by
    rw [hz_s, hz_hom n (pz_tl p) a D c, hz_s (n + 1) p a D, Int.mul_pow, Int.mul_add]
    have e1 : p 0 * (D ^ (n + 1) * c ^ (n + 1)) = c ^ (n + 1) * (p 0 * D ^ (n + 1)) := by ac_rfl
    have e2 : a * c * (c ^ n * hz (n + 1) (pz_tl p) a D) = c ^ (n + 1) * (a * hz (n + 1) (pz_tl p) a D) := by
      rw [Int.pow_succ]
      ac_rfl
    rw [e1, e2]
theorem hz_one : ∀ (n : Nat) (p : pz_P) (a : Int), hz n p a 1 = pz_ev n p a
  | 0, _, _ => rfl
  | n + 1, p, a => by
    rw [hz_s, hz_one n, Int.one_pow, Int.mul_one]
    rfl
/-- bounds: the value, one step of it, and what the derivative leaves of the step -/
theorem hz_B (M : Nat) : ∀ (n : Nat) (p : pz_P), ∃ K : Nat, ∀ (D : Nat) (a : Int), 1 ≤ D → a.natAbs ≤ M * D → (hz (n + 1) p a (D : Int)).natAbs ≤ K * D ^ n
  | 0, p => ⟨(p 0).natAbs, fun D a hD ha => by
    show (p 0 * 1 + a * 0).natAbs ≤ (p 0).natAbs * 1
    rw [Int.mul_one, Int.mul_zero, Int.add_zero, Nat.mul_one]
    exact Nat.le_refl _⟩
  | n + 1, p => by
    obtain ⟨K, hK⟩ := hz_B M n (pz_tl p)
    refine ⟨(p 0).natAbs + M * K, fun D a hD ha => ?_⟩
    rw [hz_s]
    refine Nat.le_trans (Int.natAbs_add_le _ _) ?_
    rw [Int.natAbs_mul, Int.natAbs_pow, Int.natAbs_mul, Int.natAbs_natCast, Nat.add_mul]
    refine Nat.add_le_add_left ?_ _
    refine Nat.le_trans (Nat.mul_le_mul ha (hK D a hD ha)) (Nat.le_of_eq ?_)
    rw [Nat.pow_succ]
    ac_rfl
theorem hz_L (M : Nat) : ∀ (n : Nat) (p : pz_P), ∃ K : Nat, ∀ (D : Nat) (a : Int), 1 ≤ D → a.natAbs ≤ M * D → (a + 1).natAbs ≤ M * D → (hz (n + 1) p (a + 1) (D : Int) - hz (n + 1) p a (D : Int)).natAbs * D ≤ K * D ^ n
  | 0, p => ⟨0, fun D a hD ha ha1 => by
    have e : hz 1 p (a + 1) (D : Int) - hz 1 p a (D : Int) = 0 := by
      show (p 0 * 1 + (a + 1) * 0) - (p 0 * 1 + a * 0) = 0
      omega
    rw [e]
    exact Nat.le_of_eq (by simp)⟩
  | n + 1, p => by
    obtain ⟨K, hK⟩ := hz_L M n (pz_tl p)
    obtain ⟨K2, hK2⟩ := hz_B M n (pz_tl p)
    refine ⟨M * K + K2, fun D a hD ha ha1 => ?_⟩
    have e : hz (n + 2) p (a + 1) (D : Int) - hz (n + 2) p a (D : Int) = a * (hz (n + 1) (pz_tl p) (a + 1) (D : Int) - hz (n + 1) (pz_tl p) a (D : Int)) + hz (n + 1) (pz_tl p) (a + 1) (D : Int) := by
      rw [hz_s (n + 1) p (a + 1), hz_s (n + 1) p a, Int.add_mul, Int.mul_sub, Int.one_mul]
      omega
    have h1 := hK D a hD ha ha1
    have h2 := hK2 D (a + 1) hD ha1
    rw [show n + 1 + 1 = n + 2 from rfl, e]
    generalize hz (n + 1) (pz_tl p) (a + 1) (D : Int) - hz (n + 1) (pz_tl p) a (D : Int) = d1 at h1
    generalize hz (n + 1) (pz_tl p) (a + 1) (D : Int) = d2 at h2
    refine Nat.le_trans (Nat.mul_le_mul_right D (Int.natAbs_add_le _ _)) ?_
    rw [Nat.add_mul, Int.natAbs_mul, Nat.mul_assoc, Nat.add_mul]
    refine Nat.add_le_add ?_ ?_
    · refine Nat.le_trans (Nat.mul_le_mul ha h1) (Nat.le_of_eq ?_)
      rw [Nat.pow_succ]
      ac_rfl
    · refine Nat.le_trans (Nat.mul_le_mul_right D h2) (Nat.le_of_eq ?_)
      rw [Nat.pow_succ, Nat.mul_assoc]
def psh (g : pz_P) : pz_P := fun i => match i with
  | 0 => 0
  | j + 1 => g j
theorem drv_tl (p : pz_P) : drv p = pz_add (pz_tl p) (psh (drv (pz_tl p))) := funext fun i => by
  match i with
  | 0 =>
    show p 1 * ((0 + 1 : Nat) : Int) = p 1 + 0
    omega
  | j + 1 =>
    show p (j + 1 + 1) * ((j + 1 + 1 : Nat) : Int) = p (j + 1 + 1) + p (j + 1 + 1) * ((j + 1 : Nat) : Int)
    rw [show ((j + 1 + 1 : Nat) : Int) = 1 + ((j + 1 : Nat) : Int) by omega, Int.mul_add, Int.mul_one]
theorem hz_dv (n : Nat) (p : pz_P) (a D : Int) : hz (n + 1) (drv p) a D = hz (n + 1) (pz_tl p) a D + a * hz n (drv (pz_tl p)) a D := by
  rw [drv_tl p, hz_add, hz_s n (psh (drv (pz_tl p)))]
  show hz (n + 1) (pz_tl p) a D + (0 * D ^ n + a * hz n (drv (pz_tl p)) a D) = _
  rw [Int.zero_mul, Int.zero_add]
theorem hz_D (M : Nat) : ∀ (n : Nat) (p : pz_P), ∃ K : Nat, ∀ (D : Nat) (a : Int), 1 ≤ D → a.natAbs ≤ M * D → (a + 1).natAbs ≤ M * D → (hz (n + 1) p (a + 1) (D : Int) - hz (n + 1) p a (D : Int) - hz n (drv p) a (D : Int)).natAbs * D * D ≤ K * D ^ n
  | 0, p => ⟨0, fun D a hD ha ha1 => by
    have e : hz 1 p (a + 1) (D : Int) - hz 1 p a (D : Int) - hz 0 (drv p) a (D : Int) = 0 := by
      show (p 0 * 1 + (a + 1) * 0) - (p 0 * 1 + a * 0) - 0 = 0
      omega
    rw [e]
    exact Nat.le_of_eq (by simp)⟩
  | n + 1, p => by
    obtain ⟨K, hK⟩ := hz_D M n (pz_tl p)
    obtain ⟨K2, hK2⟩ := hz_L M n (pz_tl p)
    refine ⟨M * K + K2, fun D a hD ha ha1 => ?_⟩
    have e : hz (n + 2) p (a + 1) (D : Int) - hz (n + 2) p a (D : Int) - hz (n + 1) (drv p) a (D : Int) = a * (hz (n + 1) (pz_tl p) (a + 1) (D : Int) - hz (n + 1) (pz_tl p) a (D : Int) - hz n (drv (pz_tl p)) a (D : Int)) + (hz (n + 1) (pz_tl p) (a + 1) (D : Int) - hz (n + 1) (pz_tl p) a (D : Int)) := by
      rw [hz_s (n + 1) p (a + 1), hz_s (n + 1) p a, hz_dv, Int.add_mul, Int.mul_sub, Int.mul_sub, Int.one_mul]
      omega
    have h1 := hK D a hD ha ha1
    have h2 := hK2 D a hD ha ha1
    rw [show n + 1 + 1 = n + 2 from rfl, e]
    generalize hz (n + 1) (pz_tl p) (a + 1) (D : Int) - hz (n + 1) (pz_tl p) a (D : Int) - hz n (drv (pz_tl p)) a (D : Int) = d1 at h1
    generalize hz (n + 1) (pz_tl p) (a + 1) (D : Int) - hz (n + 1) (pz_tl p) a (D : Int) = d2 at h2
    refine Nat.le_trans (Nat.mul_le_mul_right D (Nat.mul_le_mul_right D (Int.natAbs_add_le _ _))) ?_
    rw [Nat.add_mul, Nat.add_mul, Int.natAbs_mul, Nat.add_mul]
    refine Nat.add_le_add ?_ ?_
    · refine Nat.le_trans (Nat.le_of_eq (show a.natAbs * d1.natAbs * D * D = a.natAbs * (d1.natAbs * D * D) by ac_rfl)) (Nat.le_trans (Nat.mul_le_mul ha h1) (Nat.le_of_eq ?_))
      rw [Nat.pow_succ]
      ac_rfl
    · refine Nat.le_trans (Nat.mul_le_mul_right D h2) (Nat.le_of_eq ?_)
      rw [Nat.pow_succ, Nat.mul_assoc]
/-! Changes of sign of two lists that differ little. -/
theorem chg_two {s : Nat → Int} {n c : Nat} {p : Int} (hp : p = 1 ∨ p = -1) (h : chg s n = (c, p)) (hs : -1 ≤ s n ∧ s n ≤ 1) (h2 : s (n + 1) = -p) : chg s (n + 2) = (c + 1, -p) := by
  have e1 : chg s (n + 1) = if s n = 0 then (c, p) else ((if p * s n < 0 then c + 1 else c), s n) := by rw [chg_s, h]
  rw [chg_s, h2]
  have hn : ¬ (-p = 0) := by omega
  rw [if_neg hn]
  have hc : s n = 0 ∨ s n = 1 ∨ s n = -1 := by omega
  rcases hp with rfl | rfl
  · rcases hc with q | q | q
    · rw [if_pos q] at e1
      rw [e1]
      rfl
    · rw [if_neg (by omega), q, if_neg (by decide)] at e1
      rw [e1]
      rfl
    · rw [if_neg (by omega), q, if_pos (by decide)] at e1
      rw [e1]
      rfl
  · rcases hc with q | q | q
    · rw [if_pos q] at e1
      rw [e1]
      rfl
    · rw [if_neg (by omega), q, if_pos (by decide)] at e1
      rw [e1]
      rfl
    · rw [if_neg (by omega), q, if_neg (by decide)] at e1
      rw [e1]
      rfl
theorem chg_ne {s : Nat → Int} {n : Nat} (h : s n ≠ 0) : (chg s (n + 1)).2 = s n := by
  rw [chg_s, if_neg h]
/-- both lists agree where they are not small; a small one lies between two of opposite signs -/
def sG (s t : Nat → Int) (i : Nat) : Prop := s i = t i ∧ s i ≠ 0
def sN1 (s t : Nat → Int) (i : Nat) : Prop := sG s t (i - 1) ∧ sG s t (i + 1) ∧ s (i + 1) = - s (i - 1)
theorem chg_near {s t : Nat → Int} {k : Nat} (hs : ∀ i, -1 ≤ s i ∧ s i ≤ 1) (ht : ∀ i, -1 ≤ t i ∧ t i ≤ 1) (hi : ∀ i, 1 ≤ i → i ≤ k → sG s t i ∨ (i < k ∧ sN1 s t i)) {e : Nat} (h0 : sG s t 0 ∧ e = 0 ∨ (1 ≤ k ∧ sG s t 1 ∧ (chg s 2).1 = (chg t 2).1 + e)) : ∀ m, m ≤ k → (1 ≤ m ∨ sG s t 0) → sG s t m → (chg s (m + 1)).1 = (chg t (m + 1)).1 + e ∧ (chg s (m + 1)).2 = s m ∧ (chg t (m + 1)).2 = s m := by
  intro m
  induction m using Nat.strongRecOn with
  | ind m ih =>
    intro hm hm0 g
    have g2 : t m ≠ 0 := by rw [← g.1]; exact g.2
    refine ⟨?_, chg_ne g.2, (chg_ne g2).trans g.1.symm⟩
    match m, ih, hm, hm0, g, g2 with
    | 0, ih, hm, hm0, g, g2 =>
      rcases h0 with ⟨_, he⟩ | ⟨h1, g1, hc⟩
      · rw [he, chg_s, chg_s, if_neg g.2, if_neg g2]
        have z : ∀ x : Int, ¬ (((0 : Nat), (0 : Int)).2 * x < 0) := fun x q => by
          rw [Int.zero_mul] at q
          omega
        show (if (chg s 0).2 * s 0 < 0 then _ else _) = (if (chg t 0).2 * t 0 < 0 then _ else _) + 0
        have zs : (chg s 0) = (0, 0) := rfl
        have zt : (chg t 0) = (0, 0) := rfl
        rw [zs, zt, if_neg (z _), if_neg (z _)]
      · have g0 := g
        -- both begin alike: the first two rows tell e = 0
        have zs : (chg s 0) = (0, 0) := rfl
        have zt : (chg t 0) = (0, 0) := rfl
        have a1 : chg s 1 = (0, s 0) := by
          rw [chg_s, if_neg g.2, zs]
          simp
        have b1 : chg t 1 = (0, t 0) := by
          rw [chg_s, if_neg g2, zt]
          simp
        have a2 : chg s 2 = ((if s 0 * s 1 < 0 then 0 + 1 else 0), s 1) := by rw [chg_s, if_neg g1.2, a1]
        have b2 : chg t 2 = ((if t 0 * t 1 < 0 then 0 + 1 else 0), t 1) := by rw [chg_s, if_neg (by rw [← g1.1]; exact g1.2), b1]
        rw [a2, b2, g.1, g1.1] at hc
        rw [a1, b1]
        show 0 = 0 + e
        have hc : (if t 0 * t 1 < 0 then 0 + 1 else 0) = (if t 0 * t 1 < 0 then 0 + 1 else 0) + e := hc
        omega
    | 1, ih, hm, hm0, g, g2 =>
      rcases h0 with ⟨g0, he⟩ | ⟨h1, g1, hc⟩
      · have i0 := ih 0 (by omega) (by omega) (Or.inr g0) g0
        have i1 : (chg s 1).1 = (chg t 1).1 + e := by rw [he]; exact i0.1.trans (by rw [he])
        have i2 : (chg s 1).2 = s 0 := i0.2.1
        have i3 : (chg t 1).2 = s 0 := i0.2.2
        rw [chg_s s 1, chg_s t 1, if_neg g.2, if_neg g2]
        show (if (chg s 1).2 * s 1 < 0 then (chg s 1).1 + 1 else (chg s 1).1) = (if (chg t 1).2 * t 1 < 0 then (chg t 1).1 + 1 else (chg t 1).1) + e
        rw [i1, i2, i3, ← g.1]
        split <;> omega
      · exact hc
    | m + 2, ih, hm, hm0, g, g2 =>
      rcases hi (m + 1) (by omega) (by omega) with q | ⟨_, q0, q1, q2⟩
      · have i0 := ih (m + 1) (by omega) (by omega) (Or.inl (by omega)) q
        have i1 : (chg s (m + 2)).1 = (chg t (m + 2)).1 + e := i0.1
        have i2 : (chg s (m + 2)).2 = s (m + 1) := i0.2.1
        have i3 : (chg t (m + 2)).2 = s (m + 1) := i0.2.2
        rw [chg_s s (m + 2), chg_s t (m + 2), if_neg g.2, if_neg g2]
        show (if (chg s (m + 2)).2 * s (m + 2) < 0 then (chg s (m + 2)).1 + 1 else (chg s (m + 2)).1) = (if (chg t (m + 2)).2 * t (m + 2) < 0 then (chg t (m + 2)).1 + 1 else (chg t (m + 2)).1) + e
        rw [i1, i2, i3, ← g.1]
        split <;> omega
      · have q0 : sG s t m := q0
        have q2 : s (m + 2) = - s m := q2
        have hm1 : 1 ≤ m ∨ sG s t 0 := by
          rcases Nat.eq_zero_or_pos m with c | c
          · subst c
            exact Or.inr q0
          · exact Or.inl c
        have i0 := ih m (by omega) (by omega) hm1 q0
        have hp : s m = 1 ∨ s m = -1 := by
          have := hs m
          have := q0.2
          omega
        have e1 : chg s (m + 1) = ((chg s (m + 1)).1, s m) := by rw [← i0.2.1]
        have e2 : chg t (m + 1) = ((chg t (m + 1)).1, s m) := by rw [← i0.2.2]
        have c1 := chg_two hp e1 (hs (m + 1)) q2
        have c2 := chg_two hp e2 (ht (m + 1)) (g.1.symm.trans q2)
        rw [c1, c2, i0.1]
        show _ + e + 1 = _ + 1 + e
        omega
/-- the sign of the first is that of the last, but for the changes -/
theorem chg_par {s : Nat → Int} (hs : ∀ i, -1 ≤ s i ∧ s i ≤ 1) (h0 : s 0 ≠ 0) : ∀ m, (chg s (m + 1)).2 = (if (chg s (m + 1)).1 % 2 = 1 then -1 else 1) * s 0
  | 0 => by
    have z : (chg s 0) = (0, 0) := rfl
    have a1 : chg s 1 = (0, s 0) := by
      rw [chg_s, if_neg h0, z]
      simp
    rw [a1]
    show s 0 = (if 0 % 2 = 1 then -1 else 1) * s 0
    rw [if_neg (by decide), Int.one_mul]
  | m + 1 => by
    have ih := chg_par hs h0 m
    have a := hs (m + 1)
    have b := hs 0
    rw [chg_s s (m + 1)]
    by_cases c : s (m + 1) = 0
    · rw [if_pos c]
      exact ih
    · rw [if_neg c]
      generalize chg s (m + 1) = q at ih ⊢
      show s (m + 1) = (if (if q.2 * s (m + 1) < 0 then q.1 + 1 else q.1) % 2 = 1 then -1 else 1) * s 0
      have h1 : s 0 = 1 ∨ s 0 = -1 := by omega
      have h2 : s (m + 1) = 1 ∨ s (m + 1) = -1 := by omega
      rcases Nat.mod_two_eq_zero_or_one q.1 with p | p
      · rw [if_neg (by omega), Int.one_mul] at ih
        rw [ih]
        rcases h1 with h1 | h1 <;> rcases h2 with h2 | h2 <;> rw [h1, h2]
        · rw [if_neg (by decide : ¬ ((1 : Int) * 1 < 0)), if_neg (by omega)]
          rfl
        · rw [if_pos (by decide : (1 : Int) * -1 < 0), if_pos (by omega)]
          rfl
        · rw [if_pos (by decide : (-1 : Int) * 1 < 0), if_pos (by omega)]
          rfl
        · rw [if_neg (by decide : ¬ ((-1 : Int) * -1 < 0)), if_neg (by omega)]
          rfl
      · rw [if_pos p] at ih
        rw [ih]
        rcases h1 with h1 | h1 <;> rcases h2 with h2 | h2 <;> rw [h1, h2]
        · rw [if_pos (by decide : (-1 : Int) * 1 * 1 < 0), if_neg (by omega)]
          rfl
        · rw [if_neg (by decide : ¬ ((-1 : Int) * 1 * -1 < 0)), if_pos p]
          rfl
        · rw [if_neg (by decide : ¬ ((-1 : Int) * -1 * 1 < 0)), if_pos p]
          rfl
        · rw [if_pos (by decide : (-1 : Int) * -1 * -1 < 0), if_neg (by omega)]
          rfl
