/-! Long division, one limb of the quotient (Knuth, Algorithm D): the guess out of the top limbs. -/
/-- the quotient of the tops is the quotient or one more -/
theorem jkn {U V u3 w u' v' P : Nat} (hP : 0 < P) (hU : U = u3 * P + u') (hu : u' < P) (hV : V = w * P + v') (hv : v' < P) (hw : jB * jB ≤ 2 * w) (hlt : U < V * jB) : U / V ≤ u3 / w ∧ u3 / w ≤ U / V + 1 := by
  have hw0 : 0 < w := by
    have : 0 < jB * jB := by decide
    omega
  have hV0 : 0 < V := by rw [hV]; exact Nat.lt_of_lt_of_le (Nat.mul_pos hw0 hP) (Nat.le_add_right _ _)
  constructor
  · rw [Nat.le_div_iff_mul_le hw0]
    have h1 : U / V * V ≤ U := Nat.div_mul_le_self U V
    have h2 : U / V * w * P ≤ U := by
      rw [Nat.mul_assoc]
      exact Nat.le_trans (Nat.mul_le_mul_left _ (by rw [hV]; exact Nat.le_add_right _ _)) h1
    have h3 : U / V * w * P < (u3 + 1) * P := by rw [Nat.succ_mul]; omega
    have := Nat.lt_of_mul_lt_mul_right h3
    omega
  · apply Decidable.byContradiction
    intro hn
    have hq : U / V + 2 ≤ u3 / w := by omega
    -- the guess is at most the base
    have h1 : u3 / w * w ≤ u3 := Nat.div_mul_le_self u3 w
    have h2 : u3 / w * w * P ≤ U := by
      rw [hU]
      exact Nat.le_trans (Nat.mul_le_mul_right P h1) (Nat.le_add_right _ _)
    have h3 : U < (U / V + 1) * V := by rw [Nat.mul_comm]; exact Nat.lt_mul_div_succ U hV0
    generalize hQ : u3 / w = Q at *
    generalize hq0 : U / V = q at *
    have hqB : q < jB := by rw [← hq0, Nat.div_lt_iff_lt_mul hV0, Nat.mul_comm]; exact hlt
    -- Q * w * P <= U < (q + 1) * V <= (Q - 1) * V = (Q - 1) * (w P + v')
    have h4 : Q * w * P < (Q - 1) * V := Nat.lt_of_lt_of_le (Nat.lt_of_le_of_lt h2 h3) (Nat.mul_le_mul_right V (by omega))
    rw [hV, Nat.mul_add] at h4
    have h5 : Q * w * P = (Q - 1) * (w * P) + w * P := by
      rw [Nat.mul_assoc, ← Nat.succ_mul]
      congr 1
      omega
    have h6 : w * P < (Q - 1) * v' := by omega
    have h7 : (Q - 1) * v' ≤ (Q - 1) * P := Nat.mul_le_mul_left _ (Nat.le_of_lt hv)
    have h8 : w < Q - 1 := Nat.lt_of_mul_lt_mul_right (Nat.lt_of_lt_of_le h6 h7)
    -- but Q * w * P < V * B < (w + 1) * P * B
    have h9 : Q * w * P < (w + 1) * jB * P := by
      refine Nat.lt_of_le_of_lt h2 (Nat.lt_of_lt_of_le hlt ?_)
      rw [Nat.mul_assoc, Nat.mul_comm jB P, ← Nat.mul_assoc]
      exact Nat.mul_le_mul_right jB (by rw [hV, Nat.succ_mul]; omega)
    have h10 : Q * w < (w + 1) * jB := Nat.lt_of_mul_lt_mul_right h9
    have h11 : w * w < (w + 1) * jB := Nat.lt_of_le_of_lt (Nat.mul_le_mul_right w (by omega)) h10
    have hwB : 2 * jB ≤ w := by
      have : 4 * jB ≤ jB * jB := Nat.mul_le_mul_right jB (by decide)
      omega
    have h12 : 2 * jB * w ≤ w * w := Nat.mul_le_mul_right w hwB
    have h13 : (w + 1) * jB = w * jB + jB := Nat.succ_mul w jB
    have h14 : 2 * jB * w = w * jB + w * jB := by rw [Nat.mul_assoc, Nat.two_mul, Nat.mul_comm]
    have h15 : jB ≤ w * jB := Nat.le_mul_of_pos_left jB hw0
    omega
/-- one correction more, or not -/
theorem jkg {t l v2 u2 G : Nat} (hl : 0 < l) : (G * v2 > (t - G * l) * jB + u2 ↔ G * (l * jB + v2) > t * jB + u2) ∨ t < G * l := by
  by_cases h : t < G * l
  · exact Or.inr h
  · refine Or.inl ?_
    have e : t * jB = (t - G * l) * jB + G * l * jB := by rw [← Nat.add_mul]; congr 1; omega
    rw [Nat.mul_add, ← Nat.mul_assoc, e]
    omega
/-- one round of the guess's correction -/
def jgs (l v2 u2 : Nat) (p : Nat × Nat) : Nat × Nat := if p.2 < jB ∧ (jB ≤ p.1 ∨ p.2 * jB + u2 < p.1 * v2) then (p.1 - 1, p.2 + l) else p
/-- what is known of a guess G with its rest: it isn't below q, and it is the greatest that goes into t, less k -/
def jgi (t l q : Nat) (p : Nat × Nat) (k : Nat) : Prop := p.1 * l + p.2 = t ∧ q ≤ p.1 ∧ p.1 + k = t / l
theorem jgs_step {t l v2 u2 q k : Nat} {p : Nat × Nat} (hq : q < jB) (hw : q * (l * jB + v2) ≤ t * jB + u2) (h : jgi t l q p k) (hc : p.2 < jB ∧ (jB ≤ p.1 ∨ p.2 * jB + u2 < p.1 * v2)) : jgi t l q (p.1 - 1, p.2 + l) (k + 1) ∧ q < p.1 := by
  obtain ⟨h1, h2, h3⟩ := h
  have hlt : q < p.1 := by
    apply Decidable.byContradiction
    intro hn
    have e : p.1 = q := by omega
    rcases hc.2 with h4 | h4
    · omega
    · rw [e] at h1 h4
      have h5 : t * jB = q * (l * jB) + p.2 * jB := by rw [← h1, Nat.add_mul, Nat.mul_assoc]
      rw [Nat.mul_add, h5] at hw
      omega
  refine ⟨⟨?_, by show q ≤ p.1 - 1; omega, by show p.1 - 1 + (k + 1) = t / l; omega⟩, hlt⟩
  show (p.1 - 1) * l + (p.2 + l) = t
  have : p.1 * l = (p.1 - 1) * l + l := by rw [← Nat.succ_mul]; congr 1; omega
  omega
theorem jguess {t l v2 u2 q : Nat} (hl : jB ≤ 2 * l) (hv2 : v2 < jB) (hu2 : u2 < jB) (ht : t < (l + 1) * jB) (hq : q < jB) (hq1 : q ≤ (t * jB + u2) / (l * jB + v2)) (hq2 : (t * jB + u2) / (l * jB + v2) ≤ q + 1) :
    q ≤ (jgs l v2 u2 (jgs l v2 u2 (t / l, t % l))).1 ∧ (jgs l v2 u2 (jgs l v2 u2 (t / l, t % l))).1 ≤ q + 1 := by
  have hl0 : 0 < l := by
    have : 0 < jB := by decide
    omega
  have hw0 : 0 < l * jB + v2 := Nat.lt_of_lt_of_le (Nat.mul_pos hl0 (by decide)) (Nat.le_add_right _ _)
  have hqw : q * (l * jB + v2) ≤ t * jB + u2 := (Nat.le_div_iff_mul_le hw0).mp hq1
  have hup : t * jB + u2 < (q + 2) * (l * jB + v2) := by
    have := Nat.lt_mul_div_succ (t * jB + u2) hw0
    refine Nat.lt_of_lt_of_le this ?_
    rw [Nat.mul_comm]
    exact Nat.mul_le_mul_right _ (by omega)
  -- a guess that isn't too great
  have hstop : ∀ p : Nat × Nat, ∀ k, jgi t l q p k → p.1 * v2 ≤ p.2 * jB + u2 → p.1 ≤ q + 1 := by
    intro p k hp h2
    apply Decidable.byContradiction
    intro hn
    have h3 : (q + 2) * (l * jB + v2) ≤ p.1 * (l * jB + v2) := Nat.mul_le_mul_right _ (by omega)
    have h4 : t * jB = p.1 * (l * jB) + p.2 * jB := by rw [← hp.1, Nat.add_mul, Nat.mul_assoc]
    rw [Nat.mul_add p.1] at h3
    omega
  have hG : t / l ≤ jB + 1 := by
    have h1 : t / l < jB + 2 := by
      rw [Nat.div_lt_iff_lt_mul hl0]
      refine Nat.lt_of_lt_of_le ht ?_
      rw [Nat.succ_mul, Nat.add_mul, Nat.mul_comm]
      omega
    omega
  have i0 : jgi t l q (t / l, t % l) 0 := by
    refine ⟨?_, ?_, rfl⟩
    · show t / l * l + t % l = t
      rw [Nat.mul_comm]
      exact Nat.div_add_mod t l
    · show q ≤ t / l
      rw [Nat.le_div_iff_mul_le hl0]
      have h1 : q * l * jB < (t + 1) * jB := by
        rw [Nat.succ_mul, Nat.mul_assoc]
        have : q * (l * jB) ≤ q * (l * jB + v2) := Nat.mul_le_mul_left _ (Nat.le_add_right _ _)
        omega
      have := Nat.lt_of_mul_lt_mul_right h1
      omega
  have hr0 : t % l < jB ∨ jB ≤ t % l := by omega
  -- what stands where no correction is made
  have hno : ∀ p : Nat × Nat, ∀ k, jgi t l q p k → (p.2 < jB ∨ p.1 ≤ jB) → ¬ (p.2 < jB ∧ (jB ≤ p.1 ∨ p.2 * jB + u2 < p.1 * v2)) → p.1 ≤ q + 1 := by
    intro p k hp h1 h2
    refine hstop p k hp ?_
    by_cases h3 : p.2 < jB
    · have : ¬ (p.2 * jB + u2 < p.1 * v2) := fun h => h2 ⟨h3, Or.inr h⟩
      omega
    · have h4 : p.1 ≤ jB := by omega
      have h5 : p.1 * v2 ≤ jB * jB := Nat.mul_le_mul h4 (Nat.le_of_lt hv2)
      have h6 : jB * jB ≤ p.2 * jB := Nat.mul_le_mul_right _ (by omega)
      omega
  have hlB : l ≤ jB ∨ jB < l := by omega
  unfold jgs
  by_cases c1 : (t / l, t % l).2 < jB ∧ (jB ≤ (t / l, t % l).1 ∨ (t / l, t % l).2 * jB + u2 < (t / l, t % l).1 * v2)
  · rw [if_pos c1]
    obtain ⟨i1, l1⟩ := jgs_step hq hqw i0 c1
    have hG1 : t / l - 1 ≤ jB := by omega
    by_cases c2 : (t / l - 1, t % l + l).2 < jB ∧ (jB ≤ (t / l - 1, t % l + l).1 ∨ (t / l - 1, t % l + l).2 * jB + u2 < (t / l - 1, t % l + l).1 * v2)
    · simp only at c1 c2 ⊢
      rw [if_pos c2]
      obtain ⟨i2, l2⟩ := jgs_step hq hqw i1 c2
      refine ⟨i2.2.1, ?_⟩
      -- two corrections are enough
      refine hstop _ _ i2 ?_
      show (t / l - 1 - 1) * v2 ≤ (t % l + l + l) * jB + u2
      have h5 : (t / l - 1 - 1) * v2 ≤ jB * jB := Nat.mul_le_mul (by omega) (Nat.le_of_lt hv2)
      have h6 : jB * jB ≤ (t % l + l + l) * jB := Nat.mul_le_mul_right _ (by omega)
      omega
    · simp only at c1 c2 ⊢
      rw [if_neg c2]
      exact ⟨i1.2.1, hno _ _ i1 (Or.inr hG1) c2⟩
  · rw [if_neg c1]
    have h7 : (t / l, t % l).2 < jB ∨ (t / l, t % l).1 ≤ jB := by
      rcases hr0 with h | h
      · exact Or.inl h
      · refine Or.inr ?_
        show t / l ≤ jB
        have hm := Nat.mod_lt t hl0
        have h8 : t / l < jB + 1 + 1 := by omega
        have h9 : t / l * l + t % l = t := by rw [Nat.mul_comm]; exact Nat.div_add_mod t l
        apply Decidable.byContradiction
        intro hn
        have h10 : (jB + 1) * l ≤ t / l * l := Nat.mul_le_mul_right _ (by omega)
        have h11 : (jB + 1) * l = l * jB + l := by rw [Nat.succ_mul, Nat.mul_comm]
        have h12 : (l + 1) * jB = l * jB + jB := Nat.succ_mul l jB
        omega
    rw [if_neg c1]
    exact ⟨i0.2.1, hno _ _ i0 h7 c1⟩
