/-! The row of Sturm: how great its numbers are. -/
def bM : Nat := 12000000000000000000
/-- what a determinant of k rows stays below -/
def bdf (k : Nat) : Nat := fct k * bM ^ k
theorem fct_pos : ∀ k, 1 ≤ fct k
  | 0 => Nat.le_refl 1
  | k + 1 => Nat.le_trans (fct_pos k) (Nat.le_mul_of_pos_left _ (Nat.succ_pos k))
theorem bM_pos : 1 ≤ bM := by decide
theorem bdf_succ (k : Nat) : bdf k ≤ bdf (k + 1) := by
  unfold bdf
  refine Nat.mul_le_mul ?_ (Nat.pow_le_pow_right bM_pos (Nat.le_succ k))
  exact Nat.le_mul_of_pos_left _ (Nat.succ_pos k)
theorem bdf_mono {k k' : Nat} (h : k ≤ k') : bdf k ≤ bdf k' := by
  induction k' with
  | zero => rw [show k = 0 by omega]; exact Nat.le_refl _
  | succ k' ih =>
    by_cases c : k = k' + 1
    · rw [c]; exact Nat.le_refl _
    · exact Nat.le_trans (ih (by omega)) (bdf_succ k')
theorem bdf_one : bdf 1 = bM := by
  unfold bdf fct
  rw [Nat.pow_one]
  show 1 * 1 * bM = bM
  omega
theorem bdf_pos (k : Nat) : 1 ≤ bdf k := Nat.le_trans (fct_pos k) (Nat.le_mul_of_pos_right _ (Nat.pow_pos bM_pos))
/-- two neighbours of the row, with their sizes -/
def RB (A B : pz_P) (m n : Nat) (X Y : pz_P) (dx dy : Nat) (la ps : Int) : Prop := RI A B m n X Y dx dy la ps ∧ dx ≤ 12 ∧ (∀ e, (X e).natAbs ≤ bdf (25 - 2 * dx)) ∧ (∀ e, (Y e).natAbs ≤ bdf (26 - 2 * dx)) ∧ (dy = dx → ∀ e, (Y e).natAbs ≤ bM) ∧ la.natAbs ≤ bdf 24 ∧ ps.natAbs ≤ bdf 24
theorem RB.start {A B : pz_P} {m n : Nat} (hA : ∀ i, m < i → A i = 0) (hB : ∀ i, n < i → B i = 0) (hn : B n ≠ 0) (hmn : n ≤ m) (hm : m ≤ 12) (bA : ∀ e, (A e).natAbs ≤ bM) (bB : ∀ e, (B e).natAbs ≤ bM) : RB A B m n A B m n 1 1 := by
  have h1 : ∀ k, 1 ≤ k → bM ≤ bdf k := fun k hk => by
    rw [← bdf_one]
    exact bdf_mono hk
  exact ⟨RI.start hA hB hn hmn, hm, fun e => Nat.le_trans (bA e) (h1 _ (by omega)), fun e => Nat.le_trans (bB e) (h1 _ (by omega)), fun _ => bB, bdf_pos 24, bdf_pos 24⟩
theorem RB.div {A B X Y : pz_P} {m n dx dy : Nat} {la ps : Int} (r : RB A B m n X Y dx dy la ps) (hm : m ≤ 12) (hn : n ≤ 12) (bA : ∀ e, (A e).natAbs ≤ bM) (bB : ∀ e, (B e).natAbs ≤ bM) (h1 : 1 ≤ dy) (e : Nat) : (rdv X Y dx dy la ps e).natAbs ≤ bdf (26 - 2 * dy) := by
  have hdy := r.1.2.2.2.1
  by_cases c : 1 ≤ n - (dy - 1) + (m - (dy - 1))
  · have h2 := SB_abs (n := n) c bA bB e
    have h3 : bdf (n - (dy - 1) + (m - (dy - 1))) ≤ bdf (26 - 2 * dy) := bdf_mono (by omega)
    have h4 : (rdv X Y dx dy la ps e).natAbs = (SB (n - (dy - 1)) (m - (dy - 1)) n A B e).natAbs := by
      rcases (r.1.div h1).1 with q | q
      · rw [q e]
      · rw [q e, Int.natAbs_neg]
    rw [h4]
    exact Nat.le_trans h2 h3
  · -- no rows at all: impossible in a row, harmless here
    have h4 : (rdv X Y dx dy la ps e).natAbs = (SB (n - (dy - 1)) (m - (dy - 1)) n A B e).natAbs := by
      rcases (r.1.div h1).1 with q | q
      · rw [q e]
      · rw [q e, Int.natAbs_neg]
    rw [h4, show n - (dy - 1) = 0 by omega, show m - (dy - 1) = 0 by omega]
    have h5 : (SB 0 0 n A B e).natAbs ≤ bM := by
      unfold SB
      exact srow_abs bA bB 0 e
    refine Nat.le_trans h5 ?_
    rw [← bdf_one]
    exact bdf_mono (by have := r.2.1; omega)
theorem RB.next {A B X Y F : pz_P} {m n dx dy rr : Nat} {la ps : Int} (r : RB A B m n X Y dx dy la ps) (hm : m ≤ 12) (hn : n ≤ 12) (bA : ∀ e, (A e).natAbs ≤ bM) (bB : ∀ e, (B e).natAbs ≤ bM) (h1 : 1 ≤ dy) (hF : pm F (rdv X Y dx dy la ps)) (hr : rr < dy) (hz : ∀ i, rr < i → F i = 0) (hne : F rr ≠ 0) : RB A B m n Y F dy rr ((Y dy).natAbs : Int) (nxk Y dx dy ps) := by
  have hd := r.div hm hn bA bB h1
  obtain ⟨r1, r2, r3, r4, r5, r6, r7⟩ := r
  have hdy := r1.2.2.2.1
  refine ⟨r1.next h1 hF hr hz hne, by omega, fun e => ?_, fun e => ?_, fun q => by omega, ?_, ?_⟩
  · by_cases c : dy = dx
    · refine Nat.le_trans (r5 c e) ?_
      rw [← bdf_one]
      exact bdf_mono (by omega)
    · exact Nat.le_trans (r4 e) (bdf_mono (by omega))
  · have : (F e).natAbs = (rdv X Y dx dy la ps e).natAbs := by
      rcases hF with q | q
      · rw [q e]
      · rw [q e, Int.natAbs_neg]
    rw [this]
    exact hd e
  · rw [Int.natAbs_natCast]
    exact Nat.le_trans (r4 dy) (bdf_mono (by omega))
  · by_cases c : dx = dy
    · unfold nxk
      rw [if_pos c]
      exact r7
    · rw [(r1.known (by omega)).1, Int.natAbs_natCast]
      by_cases q : 1 ≤ n - dy + (m - dy)
      · exact Nat.le_trans (SB_abs (n := n) q bA bB dy) (bdf_mono (by omega))
      · rw [show n - dy = 0 by omega, show m - dy = 0 by omega]
        have h5 : (SB 0 0 n A B dy).natAbs ≤ bM := by
          unfold SB
          exact srow_abs bA bB 0 dy
        refine Nat.le_trans h5 ?_
        rw [← bdf_one]
        exact bdf_mono (by decide)
/-- the rooms suffice -/
theorem size_1 : ∀ d, d < 13 → 1 ≤ d → bdf (25 - 2 * d) * (2 * bdf (26 - 2 * d)) ^ d < jB ^ 235 := by decide +kernel
theorem size_2 : ∀ d, d < 13 → 1 ≤ d → bdf (26 - 2 * d) < jB ^ (60 - 4 * d) := by decide +kernel
theorem size_3 : bdf 24 < jB ^ 60 := by decide +kernel
theorem RB.fit {A B X Y : pz_P} {m n dx dy : Nat} {la ps : Int} (r : RB A B m n X Y dx dy la ps) (h1 : 1 ≤ dy) : bdf (25 - 2 * dx) * (2 * bdf (26 - 2 * dx)) ^ (dx - dy + 1) < jB ^ 235 := by
  have hdy := r.1.2.2.2.1
  have hd := r.2.1
  refine Nat.lt_of_le_of_lt ?_ (size_1 dx (by omega) (by omega))
  exact Nat.mul_le_mul_left _ (Nat.pow_le_pow_right (by have := bdf_pos (26 - 2 * dx); omega) (by omega))
