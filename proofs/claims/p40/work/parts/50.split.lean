/-! Divisor: split. -/
/-- the heap of a Divisor, the divided Wide and the quotient -/
abbrev jH6 (nd m nq : Nat) (n sv fac s s2 sz : Int) (g0 : Int32) (gv gy gq : Nat → Int32) : mj_H := [.inr (2, [.ref 1, .int (jn n), .int (jn sv), .long (jl fac)]), .inl (0, nd, fun j => .int (gv j)), .inr (8, [.ref 3, .int (jn s), .int (jn s2)]), .inl (0, m, fun j => .int (gy j)), .inr (8, [.ref 5, .int (jn sz), .int g0]), .inl (0, nq, fun j => .int (gq j))]
section MJ6
variable {D nd m nq : Nat} {n sv fac s s2 sz : Int} {g0 : Int32} {gv gy gq : Nat → Int32}
theorem jat_HD {j : Nat} {as : List Value} {Q : mj_R → Prop} (c : mj_Ok D j as (jHD nd m n sv fac s s2 gv gy) Q) (hK : ∀ r, Q r → r.2.length = 4) :
    mj_Ok D j (as.map (mj_rn (jrho [0, 1, 2, 3] 6))) (jH6 nd m nq n sv fac s s2 sz g0 gv gy gq) (fun r => ∃ r0 K', Q (r0, K') ∧ r = (mj_rR (jrho [0, 1, 2, 3] 6) r0, jlay (mj_rE (jrho [0, 1, 2, 3] 6)) [0, 1, 2, 3] K' (jH6 nd m nq n sv fac s s2 sz g0 gv gy gq))) :=
  mj_Ok.at c [0, 1, 2, 3] (h := jH6 nd m nq n sv fac s s2 sz g0 gv gy gq) rfl (by decide) (fun p hp => by show p < 6; simp at hp; omega) (fun i p e hi he => by
    match i, hi, he with
    | 0, hi, he => cases hi; cases he; rfl
    | 1, hi, he => cases hi; cases he; rfl
    | 2, hi, he => cases hi; cases he; rfl
    | 3, hi, he => cases hi; cases he; rfl
    | i + 4, hi, he => simp at hi) hK
theorem jat_Q {j : Nat} {as : List Value} {Q : mj_R → Prop} (c : mj_Ok D j as (jH1 nq sz g0 gq) Q) (hK : ∀ r, Q r → r.2.length = 2) :
    mj_Ok D j (as.map (mj_rn (jrho [4, 5] 6))) (jH6 nd m nq n sv fac s s2 sz g0 gv gy gq) (fun r => ∃ r0 K', Q (r0, K') ∧ r = (mj_rR (jrho [4, 5] 6) r0, jlay (mj_rE (jrho [4, 5] 6)) [4, 5] K' (jH6 nd m nq n sv fac s s2 sz g0 gv gy gq))) :=
  mj_Ok.at c [4, 5] (h := jH6 nd m nq n sv fac s s2 sz g0 gv gy gq) rfl (by decide) (fun p hp => by show p < 6; simp at hp; omega) (fun i p e hi he => by
    match i, hi, he with
    | 0, hi, he => cases hi; cases he; rfl
    | 1, hi, he => cases hi; cases he; rfl
    | i + 2, hi, he => simp at hi) hK
theorem jat_W {j : Nat} {as : List Value} {Q : mj_R → Prop} (c : mj_Ok D j as (jH1 m s (jn s2) gy) Q) (hK : ∀ r, Q r → r.2.length = 2) :
    mj_Ok D j (as.map (mj_rn (jrho [2, 3] 6))) (jH6 nd m nq n sv fac s s2 sz g0 gv gy gq) (fun r => ∃ r0 K', Q (r0, K') ∧ r = (mj_rR (jrho [2, 3] 6) r0, jlay (mj_rE (jrho [2, 3] 6)) [2, 3] K' (jH6 nd m nq n sv fac s s2 sz g0 gv gy gq))) :=
  mj_Ok.at c [2, 3] (h := jH6 nd m nq n sv fac s s2 sz g0 gv gy gq) rfl (by decide) (fun p hp => by show p < 6; simp at hp; omega) (fun i p e hi he => by
    match i, hi, he with
    | 0, hi, he => cases hi; cases he; rfl
    | 1, hi, he => cases hi; cases he; rfl
    | i + 2, hi, he => simp at hi) hK
end MJ6
/-- what stands in the divided number's limbs once the limbs of the quotient from k on are known -/
def jyk (X V k : Nat) : Nat := X / jB ^ k % V * jB ^ k + X % jB ^ k
theorem jyk_shift (X V k : Nat) : jyk X V (k + 1) = (X / jB ^ (k + 1) % V * jB + jlb X k) * jB ^ k + X % jB ^ k := by
  unfold jyk
  rw [jmod, Nat.add_mul, Nat.pow_succ, Nat.mul_assoc (X / (jB ^ k * jB) % V), Nat.mul_comm jB (jB ^ k), Nat.add_assoc]
theorem jyk_div (X V k : Nat) : jyk X V (k + 1) / jB ^ k = X / jB ^ (k + 1) % V * jB + jlb X k := by
  rw [jyk_shift, Nat.mul_comm, Nat.mul_add_div (jB_pow k), Nat.div_eq_of_lt (Nat.mod_lt _ (jB_pow k)), Nat.add_zero]
theorem jyk_low {X V k j : Nat} (h : j < k) : jlb (jyk X V k) j = jlb X j := by
  have h1 : jlb (jyk X V k) j = jlb (X % jB ^ k) j := jlb_low h
  have h2 : jlb (X / jB ^ k * jB ^ k + X % jB ^ k) j = jlb (X % jB ^ k) j := jlb_low h
  rw [h1, ← h2, Nat.mul_comm, Nat.div_add_mod]
theorem jyk_high (X V k j : Nat) : jlb (jyk X V k) (k + j) = jlb (X / jB ^ k % V) j := by
  rw [← jlb_shift]
  congr 1
  unfold jyk
  rw [Nat.mul_comm, Nat.mul_add_div (jB_pow k), Nat.div_eq_of_lt (Nat.mod_lt _ (jB_pow k)), Nat.add_zero]
