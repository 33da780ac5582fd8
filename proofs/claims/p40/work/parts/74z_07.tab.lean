/-! Where the class's things lie. -/
theorem cq_d2 : cK 2 = 10 := by decide +kernel
theorem cq_d12 : cK 12 = 7 := by decide +kernel
theorem cq_d13 : cK 13 = 27 := by decide +kernel
theorem cq_d15 : cK 15 = 17 := by decide +kernel
theorem cq_d17 : cK 17 = 17 := by decide +kernel
theorem cq_d19 : cK 19 = 11 := by decide +kernel
theorem cq_d20 : cK 20 = 13 := by decide +kernel
theorem cq_d50 : cK 50 = 13 := by decide +kernel
theorem cq_d80 : cK 80 = 13 := by decide +kernel
theorem cq_d110 : cK 110 = 13 := by decide +kernel
theorem cq_d164 : cK 164 = 18 := by decide +kernel
theorem cq_d166 : cK 166 = 18 := by decide +kernel
theorem cq_d168 : cK 168 = 18 := by decide +kernel
theorem cq_d170 : cK 170 = 12 := by decide +kernel
theorem cq_d172 : cK 172 = 16 := by decide +kernel
theorem cq_d173 : cK 173 = 5 := by decide +kernel
theorem cq_d174 : cK 174 = 18 := by decide +kernel
theorem cq_d176 : cK 176 = 18 := by decide +kernel
theorem cq_d178 : cK 178 = 18 := by decide +kernel
theorem cq_d444 : cK 444 = 15 := by decide +kernel
theorem cq_d445 : cK 445 = 18 := by decide +kernel
theorem cq_d447 : cK 447 = 18 := by decide +kernel
theorem cq_d449 : cK 449 = 18 := by decide +kernel
theorem cq_d451 : cK 451 = 18 := by decide +kernel
theorem cq_d453 : cK 453 = 18 := by decide +kernel
theorem cq_d455 : cK 455 = 14 := by decide +kernel
theorem cq_d456 : cK 456 = 6 := by decide +kernel
theorem cq_d466 : cK 466 = 6 := by decide +kernel
theorem cq_d476 : cK 476 = 2 := by decide +kernel
theorem cq_d477 : cK 477 = 18 := by decide +kernel
theorem cq_d479 : cK 479 = 18 := by decide +kernel
theorem cq_d481 : cK 481 = 2 := by decide +kernel
theorem cq_d482 : cK 482 = 2 := by decide +kernel
theorem mK_4 : ((List.range 563).all (fun a => !(decide (cK a = 10)) || (decide (cK (a + 1) = 6) && decide (cL (a + 1) = 6) && (List.range 6).all fun i => decide (cK (a + 2 + i) = 2)))) = true := by decide +kernel
theorem mK_b {a : Nat} (h : cK a = 10) : cK (a + 1) = 6 ∧ cL (a + 1) = 6 ∧ ∀ i, i < 6 → cK (a + 2 + i) = 2 := by
  have h1 := jall mK_4 (cK_in (a := a) (by omega))
  simp only [h, decide_true, Bool.not_true, Bool.false_or, Bool.and_eq_true, decide_eq_true_eq] at h1
  exact ⟨h1.1.1, h1.1.2, fun i hi => of_decide_eq_true (jall h1.2 hi)⟩
theorem mK_5 : ((List.range 9).all (fun i => decide (cK (457 + i) = 2) && decide (cK (467 + i) = 2)) && decide (cL 456 = 9) && decide (cL 466 = 9) && decide (cL 173 = 14) && decide (cL 12 = 8) && (List.range 14).all (fun i => decide (cK (sro i) = 13) && decide (cL (sro i + 3) = if i < 2 then 13 else 14 - i)) && (List.range 8).all (fun i => decide (cK (483 + 10 * i) = 10))) = true := by decide +kernel
theorem mK_r : (∀ i, i < 9 → cK (457 + i) = 2 ∧ cK (467 + i) = 2) ∧ cL 456 = 9 ∧ cL 466 = 9 ∧ cL 173 = 14 ∧ cL 12 = 8 ∧ (∀ i, i < 14 → cK (sro i) = 13 ∧ cL (sro i + 3) = if i < 2 then 13 else 14 - i) ∧ ∀ i, i < 8 → cK (483 + 10 * i) = 10 := by
  have h := mK_5
  simp only [Bool.and_eq_true, decide_eq_true_eq] at h
  obtain ⟨⟨⟨⟨⟨⟨a, b⟩, c⟩, d⟩, e⟩, f⟩, g⟩ := h
  refine ⟨fun i hi => ?_, b, c, d, e, fun i hi => ?_, fun i hi => of_decide_eq_true (jall g hi)⟩
  · have := jall a hi
    simpa using this
  · have := jall f hi
    simp only [Bool.and_eq_true, decide_eq_true_eq] at this
    exact this
/-- how many coefficients; how much room they have -/
theorem mK_6 : (decide (cL 23 = 13) && decide (cL 53 = 13) && decide (cL 83 = 13) && decide (cL 113 = 25) && (List.range 13).all (fun i => decide (cL (20 + 4 + 2 * i + 1) = 30) && decide (cL (50 + 4 + 2 * i + 1) = 30) && decide (cL (80 + 4 + 2 * i + 1) = 236)) && (List.range 25).all (fun i => decide (cL (110 + 4 + 2 * i + 1) = 6)) && (List.range 14).all (fun k => (List.range (if k < 2 then 13 else 14 - k)).all fun i => decide (cL (sro k + 4 + 2 * i + 1) = if k < 2 then 30 - 2 * i else 56 - 4 * i)) && decide (cL 165 = 240) && decide (cL 167 = 240) && decide (cL 169 = 40) && decide (cL 171 = 60) && decide (cL 175 = 60) && decide (cL 177 = 60) && decide (cL 179 = 3) && decide (cL 446 = 12) && decide (cL 478 = 10) && decide (cL 480 = 10)) = true := by decide +kernel
theorem mK_z : cL 23 = 13 ∧ cL 53 = 13 ∧ cL 83 = 13 ∧ cL 113 = 25 ∧ (∀ i, i < 13 → cL (20 + 4 + 2 * i + 1) = 30 ∧ cL (50 + 4 + 2 * i + 1) = 30 ∧ cL (80 + 4 + 2 * i + 1) = 236) ∧ (∀ i, i < 25 → cL (110 + 4 + 2 * i + 1) = 6) ∧ (∀ k, k < 14 → ∀ i, i < (if k < 2 then 13 else 14 - k) → cL (sro k + 4 + 2 * i + 1) = if k < 2 then 30 - 2 * i else 56 - 4 * i) ∧ cL 165 = 240 ∧ cL 167 = 240 ∧ cL 169 = 40 ∧ cL 171 = 60 ∧ cL 175 = 60 ∧ cL 177 = 60 ∧ cL 179 = 3 ∧ cL 446 = 12 ∧ cL 478 = 10 ∧ cL 480 = 10 := by
  have h := mK_6
  simp only [Bool.and_eq_true, decide_eq_true_eq] at h
  obtain ⟨⟨⟨⟨⟨⟨⟨⟨⟨⟨⟨⟨⟨⟨⟨⟨a1, a2⟩, a3⟩, a4⟩, a5⟩, a6⟩, a7⟩, b1⟩, b2⟩, b3⟩, b4⟩, b5⟩, b6⟩, b7⟩, b8⟩, b9⟩, b10⟩ := h
  refine ⟨a1, a2, a3, a4, fun i hi => ?_, fun i hi => of_decide_eq_true (jall a6 hi), fun k hk i hi => of_decide_eq_true (jall (jall a7 hk) hi), b1, b2, b3, b4, b5, b6, b7, b8, b9, b10⟩
  have := jall a5 hi
  simp only [Bool.and_eq_true, decide_eq_true_eq] at this
  exact ⟨this.1.1, this.1.2, this.2⟩
/-- coefficients of a polynomial of the memory -/
def pco (V : Nat → Int) (p : Nat) : Nat → Int := fun i => V (p + 4 + 2 * i)
def pfl (V : Nat → Int) (p : Nat) (w : Nat → Int) (k : Nat) : Nat → Int := fun a => if p + 4 ≤ a ∧ a < p + 4 + 2 * k ∧ (a - p) % 2 = 0 then w ((a - p - 4) / 2) else V a
theorem pfl_zero (V : Nat → Int) (p : Nat) (w : Nat → Int) : pfl V p w 0 = V := funext fun a => if_neg (by omega)
theorem pfl_at (V : Nat → Int) (p : Nat) (w : Nat → Int) {k e : Nat} (h : e < k) : pfl V p w k (p + 4 + 2 * e) = w e := by
  unfold pfl
  rw [if_pos (by omega), show (p + 4 + 2 * e - p - 4) / 2 = e by omega]
theorem pfl_off (V : Nat → Int) (p : Nat) (w : Nat → Int) {k a : Nat} (h : a < p + 4 ∨ p + 4 + 2 * k ≤ a) : pfl V p w k a = V a := if_neg (by omega)
theorem pfl_succ (V : Nat → Int) (p : Nat) (w : Nat → Int) (k : Nat) : pfl V p w (k + 1) = jvu (pfl V p w k) (p + 4 + 2 * k) (w k) := funext fun a => by
  simp only [pfl, jvu]
  by_cases c : a = p + 4 + 2 * k
  · rw [if_pos c, if_pos (by omega), c, show (p + 4 + 2 * k - p - 4) / 2 = k by omega]
  · rw [if_neg c]
    by_cases d : p + 4 ≤ a ∧ a < p + 4 + 2 * k ∧ (a - p) % 2 = 0
    · rw [if_pos d, if_pos (by omega)]
    · rw [if_neg d, if_neg (by omega)]
theorem pfl_pfl (V : Nat → Int) (p : Nat) (w w' : Nat → Int) (k : Nat) : pfl (pfl V p w k) p w' k = pfl V p w' k := funext fun a => by
  unfold pfl
  split <;> rfl
/-- 1 more than the degree -/
def fdg (f : Nat → Int) : Nat → Nat
  | 0 => 0
  | k + 1 => if f k = 0 then fdg f k else k + 1
theorem fdg_succ (f : Nat → Int) (k : Nat) : fdg f (k + 1) = if f k = 0 then fdg f k else k + 1 := rfl
theorem fdg_le (f : Nat → Int) : ∀ k, fdg f k ≤ k
  | 0 => Nat.le_refl 0
  | k + 1 => by
    have := fdg_le f k
    unfold fdg
    split <;> omega
theorem fdg_zero (f : Nat → Int) : ∀ k i, fdg f k ≤ i → i < k → f i = 0
  | 0, i, _, h => absurd h (by omega)
  | k + 1, i, h1, h2 => by
    unfold fdg at h1
    split at h1
    · rename_i c
      by_cases e : i = k
      · rw [e, c]
      · exact fdg_zero f k i h1 (by omega)
    · omega
theorem fdg_ne (f : Nat → Int) : ∀ k, 1 ≤ fdg f k → f (fdg f k - 1) ≠ 0
  | 0, h => absurd h (by unfold fdg; omega)
  | k + 1, h => by
    unfold fdg at h ⊢
    split
    · rename_i c
      rw [if_pos c] at h
      exact fdg_ne f k h
    · rename_i c
      exact c
theorem fdg_of {f : Nat → Int} {k d : Nat} (hd : d ≤ k) (h1 : ∀ i, d ≤ i → i < k → f i = 0) (h2 : d = 0 ∨ f (d - 1) ≠ 0) : fdg f k = d := by
  have a := fdg_le f k
  rcases Nat.lt_trichotomy (fdg f k) d with c | c | c
  · have := fdg_zero f k (d - 1) (by omega) (by omega)
    rcases h2 with h2 | h2
    · omega
    · exact absurd this h2
  · exact c
  · exact absurd (h1 (fdg f k - 1) (by omega) (by omega)) (fdg_ne f k (by omega))
theorem fdg_congr {f f' : Nat → Int} : ∀ k, (∀ i, i < k → f' i = f i) → fdg f' k = fdg f k
  | 0, _ => rfl
  | k + 1, h => by
    unfold fdg
    rw [h k (by omega), fdg_congr k (fun i hi => h i (by omega))]
