/-! Of the reference and of numbers (as in p1, part 78i). -/
theorem jq_limb_step (x i : Nat) : x / jB ^ (i + 1) * 1000000000 + jlb x i = x / jB ^ i := by
  rw [Nat.pow_succ, ← Nat.div_div_eq_div_mul]
  exact Nat.div_add_mod' _ _
