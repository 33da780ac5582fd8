/-! Products of polynomials that no number divides; exact quotients. -/
theorem pz_pf : ∀ n : Nat, 2 ≤ n → ∃ p, 2 ≤ p ∧ p ∣ n ∧ ∀ m, m ∣ p → m = 1 ∨ m = p := by
  intro n
  induction n using Nat.strongRecOn with
  | ind n ih =>
    intro hn
    by_cases h : ∃ m, m ∣ n ∧ m ≠ 1 ∧ m ≠ n
    · obtain ⟨m, h1, h2, h3⟩ := h
      have h4 := Nat.le_of_dvd (by omega) h1
      have h5 : m ≠ 0 := fun e => by
        rw [e] at h1
        have := Nat.eq_zero_of_zero_dvd h1
        omega
      obtain ⟨p, k1, k2, k3⟩ := ih m (by omega) (by omega)
      exact ⟨p, k1, Nat.dvd_trans k2 h1, k3⟩
    · exact ⟨n, hn, Nat.dvd_refl n, fun m hm => by
        by_cases e : m = 1
        · exact Or.inl e
        · by_cases e2 : m = n
          · exact Or.inr e2
          · exact absurd ⟨m, hm, e, e2⟩ h⟩
theorem pz_pf_mul {p : Nat} (h2 : 2 ≤ p) (hp : ∀ m, m ∣ p → m = 1 ∨ m = p) {a b : Int} (h : (p : Int) ∣ a * b) : (p : Int) ∣ a ∨ (p : Int) ∣ b := by
  have h1 : p ∣ a.natAbs * b.natAbs := by
    have := pz_cd.mp h
    rwa [Int.natAbs_mul] at this
  rcases hp (Nat.gcd p a.natAbs) (Nat.gcd_dvd_left _ _) with e | e
  · right
    have : Nat.Coprime p a.natAbs := e
    exact pz_cd.mpr (Nat.Coprime.dvd_of_dvd_mul_left this h1)
  · left
    refine pz_cd.mpr ?_
    rw [← e]
    exact Nat.gcd_dvd_right _ _
theorem pz_c_dvdR {k : Int} : ∀ (n : Nat) (u f : pz_P), (∀ i, i ≤ n → k ∣ f i) → k ∣ pz_c n u f
  | 0, u, f, h => Int.dvd_trans (h 0 (Nat.le_refl _)) (Int.dvd_mul_left _ _)
  | n + 1, u, f, h => Int.dvd_add (Int.dvd_trans (h (n + 1) (Nat.le_refl _)) (Int.dvd_mul_left _ _)) (pz_c_dvdR n (pz_tl u) f (fun i hi => h i (by omega)))
theorem pz_c_low {k : Int} : ∀ (i : Nat) (u f : pz_P) (j : Nat), (∀ a, a < i → k ∣ u a) → (∀ b, b < j → k ∣ f b) → k ∣ pz_c (i + j) u f - u i * f j
  | 0, u, f, 0, hu, hf => ⟨0, by show u 0 * f 0 - u 0 * f 0 = k * 0; omega⟩
  | 0, u, f, j + 1, hu, hf => by
    rw [Nat.zero_add]
    show k ∣ u 0 * f (j + 1) + pz_c j (pz_tl u) f - u 0 * f (j + 1)
    rw [show u 0 * f (j + 1) + pz_c j (pz_tl u) f - u 0 * f (j + 1) = pz_c j (pz_tl u) f by omega]
    exact pz_c_dvdR j (pz_tl u) f (fun b hb => hf b (by omega))
  | i + 1, u, f, j, hu, hf => by
    rw [show i + 1 + j = (i + j) + 1 by omega]
    show k ∣ u 0 * f (i + j + 1) + pz_c (i + j) (pz_tl u) f - u (i + 1) * f j
    have h1 := pz_c_low i (pz_tl u) f j (fun a ha => hu (a + 1) (by omega)) hf
    have h2 : k ∣ u 0 * f (i + j + 1) := Int.dvd_trans (hu 0 (by omega)) (Int.dvd_mul_right _ _)
    have h3 := Int.dvd_add h2 h1
    have e : u 0 * f (i + j + 1) + (pz_c (i + j) (pz_tl u) f - pz_tl u i * f j) = u 0 * f (i + j + 1) + pz_c (i + j) (pz_tl u) f - u (i + 1) * f j := by
      show u 0 * f (i + j + 1) + (pz_c (i + j) (pz_tl u) f - u (i + 1) * f j) = _
      omega
    rwa [e] at h3
/-- the first place where p does not divide -/
theorem pz_first {p : Nat} {u : pz_P} (h : ∃ i, ¬ (p : Int) ∣ u i) : ∃ i, ¬ (p : Int) ∣ u i ∧ ∀ a, a < i → (p : Int) ∣ u a := by
  obtain ⟨i, hi⟩ := h
  induction i using Nat.strongRecOn with
  | ind i ih =>
    by_cases c : ∃ a, a < i ∧ ¬ (p : Int) ∣ u a
    · obtain ⟨a, h1, h2⟩ := c
      exact ih a h1 h2
    · exact ⟨i, hi, fun a ha => by
        by_cases e : (p : Int) ∣ u a
        · exact e
        · exact absurd ⟨a, ha, e⟩ c⟩
theorem pz_prim_not {u : pz_P} (h : pz_prim u) {p : Nat} (hp : p ≠ 1) : ∃ i, ¬ (p : Int) ∣ u i := by
  by_cases c : ∃ i, ¬ (p : Int) ∣ u i
  · exact c
  · exact absurd (h p (fun i => by
      by_cases e : (p : Int) ∣ u i
      · exact e
      · exact absurd ⟨i, e⟩ c)) hp
theorem pz_prim.mul {u v : pz_P} (hu : pz_prim u) (hv : pz_prim v) : pz_prim (pz_mul u v) := by
  intro k hk
  by_cases h1 : k = 1
  · exact h1
  · exfalso
    have hpk : ∃ p, 2 ≤ p ∧ p ∣ k ∧ ∀ m, m ∣ p → m = 1 ∨ m = p := by
      by_cases h0 : k = 0
      · obtain ⟨p, a, b, c⟩ := pz_pf 2 (Nat.le_refl _)
        exact ⟨p, a, by rw [h0]; exact Nat.dvd_zero _, c⟩
      · exact pz_pf k (by omega)
    obtain ⟨p, p2, pk, pp⟩ := hpk
    obtain ⟨i, a1, a2⟩ := pz_first (pz_prim_not hu (p := p) (by omega))
    obtain ⟨j, b1, b2⟩ := pz_first (pz_prim_not hv (p := p) (by omega))
    have c1 := pz_c_low i u v j a2 b2
    have c2 : (p : Int) ∣ pz_c (i + j) u v := Int.dvd_trans (Int.natCast_dvd_natCast.mpr pk) (hk (i + j))
    have c3 : (p : Int) ∣ u i * v j := by
      have := Int.dvd_sub c2 c1
      have e : pz_c (i + j) u v - (pz_c (i + j) u v - u i * v j) = u i * v j := by omega
      rwa [e] at this
    rcases pz_pf_mul p2 pp c3 with q | q
    · exact a1 q
    · exact b1 q
/-- a polynomial that is not 0: a number times one that no number divides -/
theorem pz_content : ∀ (N : Nat) (u : pz_P) (i : Nat), u i ≠ 0 → (u i).natAbs ≤ N → ∃ (t : Nat) (u' : pz_P), t ≠ 0 ∧ u = pz_sc t u' ∧ pz_prim u'
  | 0, u, i, h, hN => by omega
  | N + 1, u, i, h, hN => by
    by_cases c : pz_prim u
    · exact ⟨1, u, by decide, (pz_sc_one u).symm, c⟩
    · have h1 : ∃ k : Nat, (∀ i, (k : Int) ∣ u i) ∧ k ≠ 1 := by
        by_cases e : ∃ k : Nat, (∀ i, (k : Int) ∣ u i) ∧ k ≠ 1
        · exact e
        · exact absurd (fun k hk => by
            by_cases e2 : k = 1
            · exact e2
            · exact absurd ⟨k, hk, e2⟩ e) c
      obtain ⟨k, k1, k2⟩ := h1
      have hk0 : k ≠ 0 := fun e => by
        rw [e] at k1
        exact h (Int.zero_dvd.mp (k1 i))
      have hdiv : ∀ j, (k : Int) * (u j / k) = u j := fun j => Int.mul_ediv_cancel' (k1 j)
      have hi : u i / k ≠ 0 := fun e => by
        have := hdiv i
        rw [e, Int.mul_zero] at this
        exact h this.symm
      have hlt : (u i / k).natAbs ≤ N := by
        have e1 := congrArg Int.natAbs (hdiv i)
        rw [Int.natAbs_mul, Int.natAbs_natCast] at e1
        have e2 : 1 ≤ (u i / k).natAbs := by omega
        have e3 : 2 * (u i / k).natAbs ≤ k * (u i / k).natAbs := Nat.mul_le_mul_right _ (by omega)
        omega
      obtain ⟨t, u', t0, t1, t2⟩ := pz_content N (fun j => u j / k) i hi hlt
      refine ⟨k * t, u', Nat.mul_ne_zero hk0 t0, funext fun j => ?_, t2⟩
      have e1 := congrFun t1 j
      have e2 : u j / k = (t : Int) * u' j := e1
      show u j = ((k * t : Nat) : Int) * u' j
      rw [← hdiv j, e2, Int.natCast_mul, Int.mul_assoc]
/-- a quotient by a polynomial that no number divides has whole coefficients -/
theorem pz_exact {X T G : pz_P} {c : Int} (hc : c ≠ 0) (hG : pz_prim G) (h : pz_sc c X = pz_mul T G) : ∃ S : pz_P, T = pz_sc c S ∧ X = pz_mul S G := by
  have fin : ∀ S : pz_P, T = pz_sc c S → X = pz_mul S G := fun S e => by
    rw [e, pz_mul_scL] at h
    exact funext fun i => Int.eq_of_mul_eq_mul_left hc (congrFun h i)
  by_cases h0 : ∃ i, T i ≠ 0
  · obtain ⟨i, hi⟩ := h0
    obtain ⟨t, T', t0, t1, t2⟩ := pz_content _ T i hi (Nat.le_refl _)
    have h2 : c ∣ (t : Int) := pz_prim_dvd (t2.mul hG) hc (fun i => ⟨X i, by
      have := congrFun h i
      rw [t1, pz_mul_scL] at this
      exact this.symm⟩)
    obtain ⟨s, hs⟩ := h2
    have e : T = pz_sc c (pz_sc s T') := by
      rw [t1, hs]
      exact funext fun i => Int.mul_assoc _ _ _
    exact ⟨_, e, fin _ e⟩
  · have e : T = pz_sc c pz_0 := funext fun i => by
      show T i = c * 0
      rw [Int.mul_zero]
      by_cases q : T i = 0
      · exact q
      · exact absurd ⟨i, q⟩ h0
    exact ⟨pz_0, e, fin _ e⟩
/-- what divides the later two divides the first, but for a number -/
def pz_D (f x y : pz_P) : Prop := ∀ G : pz_P, (∃ (c : Int) (T : pz_P), c ≠ 0 ∧ pz_sc c x = pz_mul T G) → (∃ (c : Int) (T : pz_P), c ≠ 0 ∧ pz_sc c y = pz_mul T G) → ∃ (c : Int) (T : pz_P), c ≠ 0 ∧ pz_sc c f = pz_mul T G
theorem pz_D.start (f g : pz_P) : pz_D f f g := fun _ h _ => h
theorem pz_D.start2 (f g : pz_P) : pz_D g f g := fun _ _ h => h
theorem pz_sc_sc (a b : Int) (u : pz_P) : pz_sc a (pz_sc b u) = pz_sc (a * b) u := funext fun i => (Int.mul_assoc _ _ _).symm
theorem pz_D.step {f x y r q : pz_P} {c0 c2 : Int} (h : pz_D f x y) (hc0 : c0 ≠ 0) (hrel : pz_sc c0 x = pz_add (pz_mul q y) (pz_sc c2 r)) : pz_D f y r := by
  intro G hy hr
  obtain ⟨a, T, a0, a1⟩ := hy
  obtain ⟨b, S, b0, b1⟩ := hr
  refine h G ⟨b * (a * c0), pz_add (pz_sc b (pz_mul q T)) (pz_sc (a * c2) S), fun e => ?_, ?_⟩ ⟨a, T, a0, a1⟩
  · rcases Int.mul_eq_zero.mp e with k | k
    · exact b0 k
    · rcases Int.mul_eq_zero.mp k with k | k
      · exact a0 k
      · exact hc0 k
  · have e1 : pz_sc (b * (a * c0)) x = pz_sc (b * a) (pz_sc c0 x) := by rw [pz_sc_sc, Int.mul_assoc]
    rw [e1, hrel, pz_mul_addL, pz_mul_scL, pz_mul_scL, ← b1, pz_mul_assoc, ← a1, pz_mul_scR]
    funext i
    show b * a * (pz_mul q y i + c2 * r i) = b * (a * pz_mul q y i) + a * c2 * (b * r i)
    rw [Int.mul_add, Int.mul_assoc]
    congr 1
    rw [← Int.mul_assoc, ← Int.mul_assoc]
    congr 1
    rw [Int.mul_comm b a, Int.mul_assoc, Int.mul_assoc, Int.mul_comm b c2]
