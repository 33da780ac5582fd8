/-! The row of Sturm: what a whole elimination gives, and how great determinants are. -/
/-- eliminations from the top shift down -/
def er (F B : pz_P) (db gap : Nat) : Nat → pz_P
  | 0 => F
  | k + 1 => elw (er F B db gap k) B db (gap - k)
theorem elw_top {F B : pz_P} {db s : Nat} (hB : ∀ i, db < i → B i = 0) (hF : ∀ i, db + s < i → F i = 0) : (∀ i, elw F B db s i = B db * F i - F (db + s) * pz_sh s B i) ∧ ∀ i, db + s ≤ i → elw F B db s i = 0 := by
  have h1 : ∀ i, elw F B db s i = B db * F i - F (db + s) * pz_sh s B i := fun i => by
    unfold elw pz_sh
    by_cases c : i ≤ db + s
    · rw [if_pos c]
    · rw [if_neg c, hF i (by omega), if_neg (by omega), hB (i - s) (by omega), Int.mul_zero, Int.mul_zero]
      rfl
  refine ⟨h1, fun i hi => ?_⟩
  rw [h1]
  by_cases c : i = db + s
  · rw [c]
    unfold pz_sh
    rw [if_neg (by omega), Nat.add_sub_cancel, Int.mul_comm]
    exact Int.sub_self _
  · unfold pz_sh
    rw [hF i (by omega), if_neg (by omega), hB (i - s) (by omega), Int.mul_zero, Int.mul_zero]
    rfl
theorem er_top {F B : pz_P} {db gap : Nat} (hB : ∀ i, db < i → B i = 0) (hF : ∀ i, db + gap < i → F i = 0) : ∀ k, k ≤ gap + 1 → ∀ i, db + gap + 1 - k ≤ i → er F B db gap k i = 0
  | 0, _, i, hi => hF i (by omega)
  | k + 1, hk, i, hi => (elw_top hB (fun i hi => er_top hB hF k (by omega) i (by omega))).2 i (by omega)
theorem er_dp {F B : pz_P} {db gap : Nat} (hB : ∀ i, db < i → B i = 0) (hF : ∀ i, db + gap < i → F i = 0) {a b : Nat} (ha : 1 ≤ a) (hab : a + gap ≤ b) (c : Nat) : ∀ k, k ≤ gap + 1 → ∀ x, dp (a + b - 1) c (srow a b (er F B db gap k) B) x = ((B db) ^ k) ^ a * dp (a + b - 1) c (srow a b F B) x
  | 0, _, x => by
    show dp (a + b - 1) c (srow a b F B) x = ((B db) ^ 0) ^ a * _
    rw [Int.pow_zero, Int.one_pow, Int.one_mul]
  | k + 1, hk, x => by
    have h1 := dp_elim (a := a) (b := b) (s := gap - k) (c := c) (A := er F B db gap k) (B := B) (P := er F B db gap (k + 1)) (l := B db) (t := er F B db gap k (db + (gap - k))) ha (by omega) (elw_top hB (fun i hi => er_top hB hF k (by omega) i (by omega))).1 x
    rw [h1, er_dp hB hF ha hab c k (by omega) x, ← Int.mul_assoc, ← Int.mul_pow, Int.pow_succ, Int.mul_comm (B db)]
/-- after all of them -/
theorem er_SE {F B : pz_P} {db dx : Nat} (hd : db ≤ dx) (hB : ∀ i, db < i → B i = 0) (hF : ∀ i, dx < i → F i = 0) : SE F B (er F B db (dx - db) (dx - db + 1)) dx db := fun a b c ha hab x => er_dp hB (fun i hi => hF i (by omega)) ha hab c _ (Nat.le_refl _) x
theorem er_low {F B : pz_P} {db dx : Nat} (hd : db ≤ dx) (hB : ∀ i, db < i → B i = 0) (hF : ∀ i, dx < i → F i = 0) : ∀ i, db ≤ i → er F B db (dx - db) (dx - db + 1) i = 0 := fun i hi => er_top hB (fun i hi => hF i (by omega)) _ (Nat.le_refl _) i (by omega)
theorem er_abs {F B : pz_P} {db gap al be : Nat} (hF : ∀ e, (F e).natAbs ≤ al) (hB : ∀ e, (B e).natAbs ≤ be) (h1 : 1 ≤ be) : ∀ k e, (er F B db gap k e).natAbs ≤ al * (2 * be) ^ k
  | 0, e => by
    show (F e).natAbs ≤ al * 1
    rw [Nat.mul_one]
    exact hF e
  | k + 1, e => by
    have h2 := elw_abs (F := er F B db gap k) (B := B) (db := db) (s := gap - k) (er_abs hF hB h1 k) hB h1 e
    refine Nat.le_trans h2 (Nat.le_of_eq ?_)
    rw [Nat.pow_succ]
    ac_rfl
/-- how great a determinant is -/
def fct : Nat → Nat
  | 0 => 1
  | n + 1 => (n + 1) * fct n
theorem dp_abs {M : Nat} : ∀ (k c : Nat) (L : Nat → pz_P), (∀ r, r ≤ k → ∀ i, (L r i).natAbs ≤ M) → ∀ x, (dp k c L x).natAbs ≤ fct (k + 1) * M ^ (k + 1)
  | 0, c, L, h, x => by
    have := h 0 (Nat.le_refl 0) x
    show (L 0 x).natAbs ≤ 1 * 1 * M ^ 1
    rw [Nat.pow_one]
    omega
  | k + 1, c, L, h, x => by
    show (zs (k + 2) _).natAbs ≤ _
    have h1 := zs_abs (f := fun i => sgn i * L i c * dp k (c - 1) (rsk1 i L) x) (M := M * (fct (k + 1) * M ^ (k + 1))) (k + 2) (fun i hi => by
      show (sgn i * L i c * dp k (c - 1) (rsk1 i L) x).natAbs ≤ _
      rw [Int.natAbs_mul, Int.natAbs_mul]
      have s1 : (sgn i).natAbs = 1 := by
        rcases sgn_sq i with q | q <;> rw [q] <;> rfl
      rw [s1, Nat.one_mul]
      refine Nat.mul_le_mul (h i (by omega) c) (dp_abs k (c - 1) (rsk1 i L) (fun r hr j => ?_) x)
      unfold rsk1
      split
      · exact h r (by omega) j
      · exact h (r + 1) (by omega) j)
    refine Nat.le_trans h1 (Nat.le_of_eq ?_)
    show (k + 2) * (M * (fct (k + 1) * M ^ (k + 1))) = (k + 2) * fct (k + 1) * M ^ (k + 2)
    rw [Nat.pow_succ M (k + 1)]
    ac_rfl
theorem srow_abs {A B : pz_P} {M a b : Nat} (hA : ∀ i, (A i).natAbs ≤ M) (hB : ∀ i, (B i).natAbs ≤ M) (r i : Nat) : (srow a b A B r i).natAbs ≤ M := by
  unfold srow pz_sh
  split
  · show (if i < a - 1 - r then 0 else A (i - (a - 1 - r))).natAbs ≤ M
    split
    · exact Nat.zero_le _
    · exact hA _
  · show (if i < a + b - 1 - r then 0 else B (i - (a + b - 1 - r))).natAbs ≤ M
    split
    · exact Nat.zero_le _
    · exact hB _
theorem SB_abs {A B : pz_P} {M a b n : Nat} (hab : 1 ≤ a + b) (hA : ∀ i, (A i).natAbs ≤ M) (hB : ∀ i, (B i).natAbs ≤ M) (x : Nat) : (SB a b n A B x).natAbs ≤ fct (a + b) * M ^ (a + b) := by
  have h := dp_abs (a + b - 1) (b + n - 1) (srow a b A B) (fun r _ i => srow_abs hA hB r i) x
  rw [show a + b - 1 + 1 = a + b by omega] at h
  exact h
