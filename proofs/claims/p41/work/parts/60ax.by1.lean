/-! Of the reference and of numbers (as in p1, part 78z). -/
theorem jb_and (y : BitVec 32) : (y &&& (jn 255).toBitVec).toNat = y.toNat % 256 := by
  rw [BitVec.toNat_and, show (jn 255).toBitVec.toNat = 2 ^ 8 - 1 from by decide, Nat.and_two_pow_sub_one_eq_mod]
theorem jb_ss (x : BitVec 32) {s : Nat} (hs : s = 24 ∨ s = 16 ∨ s = 8 ∨ s = 0) : (x.sshiftRight s).toNat % 256 = x.toNat / 256 ^ (s / 8) % 256 := by
  have h1 : (x.sshiftRight s).toInt = x.toInt >>> s := BitVec.toInt_sshiftRight
  rw [Int.shiftRight_eq_div_pow, BitVec.toInt_eq_toNat_cond, BitVec.toInt_eq_toNat_cond] at h1
  have h2 := x.isLt
  have h3 := (x.sshiftRight s).isLt
  generalize (x.sshiftRight s).toNat = b at h1 h3 ⊢
  generalize x.toNat = a at h1 h2 ⊢
  rcases hs with q | q | q | q <;> subst q <;> simp only [Nat.reducePow, Nat.reduceDiv, Nat.reduceMul] at h1 h2 h3 ⊢ <;> split at h1 <;> split at h1 <;> omega
section MBY
variable {D : Nat} {h : mj_H} {x : Int32} {Q : mj_R → Prop}
end MBY

