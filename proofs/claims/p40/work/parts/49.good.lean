/-! The guess is the limb of the quotient or one more. -/
theorem jlb_shift (Y k j : Nat) : jlb (Y / jB ^ k) j = jlb Y (k + j) := by
  unfold jlb
  rw [Nat.div_div_eq_div_mul, ← Nat.pow_add]
theorem jtop_eq {x n : Nat} (h : x < jB ^ (n + 1)) : x / jB ^ n = jlb x n := by
  have h1 := jdiv x n
  rw [Nat.div_eq_of_lt h, Nat.zero_mul, Nat.zero_add] at h1
  exact h1
theorem jgood {U V n : Nat} (hn : jnl V = n + 1) (hnorm : jB ≤ 2 * jlb V n) (hU : U < V * jB) :
    U / V ≤ (jgn (jlb V n) (if 1 < n + 1 then jlb V (n + 1 - 2) else 0) (if 1 < n + 1 then jlb U (n + 1 - 2) else 0) 2 ((jlb U (n + 1) * jB + jlb U n) / jlb V n, (jlb U (n + 1) * jB + jlb U n) % jlb V n)).1 ∧
    (jgn (jlb V n) (if 1 < n + 1 then jlb V (n + 1 - 2) else 0) (if 1 < n + 1 then jlb U (n + 1 - 2) else 0) 2 ((jlb U (n + 1) * jB + jlb U n) / jlb V n, (jlb U (n + 1) * jB + jlb U n) % jlb V n)).1 ≤ U / V + 1 := by
  have hVlt : V < jB ^ (n + 1) := jnl_le_lt.mp (Nat.le_of_eq hn)
  have hVt := jtop_eq hVlt
  have hV0 : 0 < V := Nat.pos_of_ne_zero (fun q => by rw [q, jnl_zero] at hn; omega)
  have hUlt : U < jB ^ (n + 1 + 1) := by
    rw [Nat.pow_succ]
    exact Nat.lt_trans hU (Nat.mul_lt_mul_of_pos_right hVlt (by decide))
  have hUt := jtop_eq hUlt
  have ht : U / jB ^ n = jlb U (n + 1) * jB + jlb U n := by rw [jdiv U n, hUt]
  have hVl : V < (jlb V n + 1) * jB ^ n := by
    rw [← hVt, Nat.mul_comm]
    exact Nat.lt_mul_div_succ V (jB_pow n)
  have htl : jlb U (n + 1) * jB + jlb U n < (jlb V n + 1) * jB := by
    rw [← ht, Nat.div_lt_iff_lt_mul (jB_pow n)]
    refine Nat.lt_of_lt_of_le hU ?_
    rw [Nat.mul_assoc, Nat.mul_comm jB, ← Nat.mul_assoc]
    exact Nat.mul_le_mul_right _ (Nat.le_of_lt hVl)
  have hqB : U / V < jB := by rw [Nat.div_lt_iff_lt_mul hV0, Nat.mul_comm]; exact hU
  generalize hT : jlb U (n + 1) * jB + jlb U n = T at *
  cases n with
  | zero =>
    have e1 : V = jlb V 0 := by rw [← hVt, Nat.pow_zero, Nat.div_one]
    have e2 : U = T := by rw [← ht, Nat.pow_zero, Nat.div_one]
    have e3 : (T * jB + 0) / (jlb V 0 * jB + 0) = U / V := by
      rw [Nat.add_zero, Nat.add_zero, Nat.mul_div_mul_right _ _ (by decide), ← e1, ← e2]
    rw [if_neg (by omega), if_neg (by omega)]
    exact jguess hnorm (by decide) (by decide) htl hqB (by rw [e3]; exact Nat.le_refl _) (by rw [e3]; exact Nat.le_succ _)
  | succ p =>
    rw [if_pos (by omega), if_pos (by omega), show p + 1 + 1 - 2 = p by omega]
    have eV : V / jB ^ p = jlb V (p + 1) * jB + jlb V p := by rw [jdiv V p, hVt]
    have eU : U / jB ^ p = T * jB + jlb U p := by rw [jdiv U p, ht]
    have dV := Nat.div_add_mod V (jB ^ p)
    have dU := Nat.div_add_mod U (jB ^ p)
    rw [eV, Nat.mul_comm] at dV
    rw [eU, Nat.mul_comm] at dU
    have hk := jkn (jB_pow p) dU.symm (Nat.mod_lt _ (jB_pow p)) dV.symm (Nat.mod_lt _ (jB_pow p)) (by
      have h1 := Nat.mul_le_mul_right jB hnorm
      rw [Nat.mul_assoc] at h1
      rw [Nat.mul_add]
      exact Nat.le_trans h1 (Nat.le_add_right _ _)) hU
    exact jguess hnorm (jlb_lt V p) (jlb_lt U p) htl hqB hk.1 hk.2
