/-! The row of Sturm: what one step asks of the rooms. -/
section RBR
variable {A B X Y : pz_P} {m n dx dy : Nat} {la ps : Int}
theorem RB.r174 (r : RB A B m n X Y dx dy la ps) : jnl la.natAbs ≤ 60 ∧ jnl ps.natAbs ≤ 60 := by
  obtain ⟨_, _, _, _, _, a, b⟩ := r
  exact ⟨jnl_le_lt.mpr (Nat.lt_of_le_of_lt a size_3), jnl_le_lt.mpr (Nat.lt_of_le_of_lt b size_3)⟩
theorem RB.rlow (r : RB A B m n X Y dx dy la ps) : ∀ e, dy ≤ e → rdv X Y dx dy la ps e = 0 := fun e he => by
  unfold rdv
  rw [er_low r.1.2.2.2.1 r.1.2.1 r.1.1 e he, itd_zero, itd_zero]
theorem RB.rcap (r : RB A B m n X Y dx dy la ps) (hm : m ≤ 12) (hn : n ≤ 12) (bA : ∀ e, (A e).natAbs ≤ bM) (bB : ∀ e, (B e).natAbs ≤ bM) (h1 : 1 ≤ dy) (e : Nat) (he : e < 13) : jnl (rdv X Y dx dy la ps e).natAbs ≤ 56 - 4 * e := by
  have hdy := r.1.2.2.2.1
  have hdx := r.2.1
  by_cases c : dy ≤ e
  · rw [r.rlow e c]
    exact Nat.le_trans (Nat.le_of_eq jnl_zero) (Nat.zero_le _)
  · refine Nat.le_trans (jnl_le_lt.mpr (Nat.lt_of_le_of_lt (r.div hm hn bA bB h1 e) (size_2 dy (by omega) h1))) (by omega)
theorem RB.rl60 (r : RB A B m n X Y dx dy la ps) (h1 : 1 ≤ dy) : jnl (Y dy).natAbs ≤ 60 := by
  have hdy := r.1.2.2.2.1
  exact jnl_le_lt.mpr (Nat.lt_of_le_of_lt (Nat.le_trans (r.2.2.2.1 dy) (bdf_mono (by omega))) size_3)
theorem RB.rlq (r : RB A B m n X Y dx dy la ps) (h1 : 1 ≤ dy) : ∀ i, i ≤ dx - dy → jnl ((((Y dy).natAbs : Nat) : Int) ^ i).natAbs ≤ 239 := fun i hi => by
  have hdy := r.1.2.2.2.1
  have hdx := r.2.1
  have hf := r.fit h1
  rw [jnl_le_lt, Int.natAbs_pow, Int.natAbs_natCast]
  have h2 : (Y dy).natAbs ^ i ≤ (2 * bdf (26 - 2 * dx)) ^ i := Nat.pow_le_pow_left (by have := r.2.2.2.1 dy; omega) i
  have h3 : (2 * bdf (26 - 2 * dx)) ^ i ≤ (2 * bdf (26 - 2 * dx)) ^ (dx - dy + 1) := Nat.pow_le_pow_right (by have := bdf_pos (26 - 2 * dx); omega) (by omega)
  have h4 : (2 * bdf (26 - 2 * dx)) ^ (dx - dy + 1) ≤ bdf (25 - 2 * dx) * (2 * bdf (26 - 2 * dx)) ^ (dx - dy + 1) := Nat.le_mul_of_pos_left _ (bdf_pos _)
  have h5 : jB ^ 235 ≤ jB ^ 239 := Nat.pow_le_pow_right (by decide) (by decide)
  omega
theorem RB.rk60 (r : RB A B m n X Y dx dy la ps) (bA : ∀ e, (A e).natAbs ≤ bM) (bB : ∀ e, (B e).natAbs ≤ bM) (hm : m ≤ 12) (hn : n ≤ 12) (h1 : 1 ≤ dy) : jnl (itd ((((Y dy).natAbs : Nat) : Int) ^ (dx - dy)) ps (dx - dy - 1)).natAbs ≤ 60 := by
  have hdy := r.1.2.2.2.1
  by_cases c : dx = dy
  · rw [c, Nat.sub_self, Int.pow_zero]
    show jnl (1 : Int).natAbs ≤ 60
    exact Nat.le_trans (jnl_R (v := 1) (by decide)) (by decide)
  · have h2 : itd ((((Y dy).natAbs : Nat) : Int) ^ (dx - dy)) ps (dx - dy - 1) = nxk Y dx dy ps := by
      unfold nxk
      rw [if_neg c]
    rw [h2, (r.1.known (by omega)).1, Int.natAbs_natCast]
    by_cases q : 1 ≤ n - dy + (m - dy)
    · exact jnl_le_lt.mpr (Nat.lt_of_le_of_lt (Nat.le_trans (SB_abs (n := n) q bA bB dy) (bdf_mono (by omega))) size_3)
    · rw [show n - dy = 0 by omega, show m - dy = 0 by omega]
      have h5 : (SB 0 0 n A B dy).natAbs ≤ bM := by
        unfold SB
        exact srow_abs bA bB 0 dy
      refine jnl_le_lt.mpr (Nat.lt_of_le_of_lt (Nat.le_trans h5 ?_) size_3)
      rw [← bdf_one]
      exact bdf_mono (by decide)
end RBR
