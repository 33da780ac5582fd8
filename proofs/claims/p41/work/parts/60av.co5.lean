/-! Of the reference and of numbers (as in p1, part 78z). -/
theorem jnl_b9 {x : Nat} (h : x < 1000000000 ^ 9) : jnl x ≤ 9 := jnl_of h
theorem jnl_jfa {x y : Nat} (h : x < 1000000000 ^ 9) : jnl (x * jfa y) ≤ 10 := by
  refine jnl_of (j := 10) ?_
  show x * jfa y < 1000000000 ^ 10
  rw [show (1000000000 : Nat) ^ 10 = 1000000000 ^ 9 * 1000000000 from Nat.pow_succ 1000000000 9]
  exact Nat.lt_of_le_of_lt (Nat.mul_le_mul_left x (jfa_pos y).2) (Nat.mul_lt_mul_of_pos_right h (by decide))
theorem jnl_b3 {x : Nat} (h : x < 9223372036854775808) : jnl x ≤ 3 := jnl_le_lt.mpr (by rw [show jB ^ 3 = 1000000000000000000000000000 from rfl]; omega)
section MI6
variable {ρ : Nat → Nat} {n tt tb one two sm dv b1 b2 b3 b4 b5 b6 a dk : Nat}  {h : mj_H}  
end MI6

