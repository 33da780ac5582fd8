/-! Of the reference and of numbers (as in p1, part 78z). -/
section MI7
variable {ρ : Nat → Nat} {n tt tb one two sm dv b1 b2 b3 b4 b5 b6 a dk : Nat}  {h : mj_H}  
theorem jsg_dvd {z g : Int} (hg : 0 < g) (h : g ∣ z) : jsg (z.tdiv g) = jsg z := jsg_tdivd hg h
theorem jc_pw {i : Nat} (hi : i ≤ 3) {x : Nat} (h : x ≤ 9223372036854775808 ^ i) : jnl x ≤ 10 := by
  refine jnl_of (j := 10) (Nat.lt_of_le_of_lt (Nat.le_trans h (Nat.pow_le_pow_right (by decide) hi)) ?_)
  show 9223372036854775808 ^ 3 < 1000000000 ^ 10
  decide
theorem jc_pos {g c f : Int} (hg : 0 < g) (hc : f = g * c) (hf : 0 < f) : 0 < c := by
  rcases Int.lt_or_le 0 c with q | q
  · exact q
  · have := Int.mul_le_mul_of_nonneg_left q (Int.le_of_lt hg)
    rw [Int.mul_zero] at this
    omega
theorem jc_cle {g c f : Int} (hg : 0 < g) (hc0 : 0 < c) (hc : f = g * c) : c ≤ f := by
  have := Int.mul_le_mul_of_nonneg_right (show 1 ≤ g by omega) (Int.le_of_lt hc0)
  rw [Int.one_mul] at this
  omega
end MI7
