/-! The first bounds, with bounds of four signs. -/
def mq_envG (op lo1 hi1 lo2 hi2 lo3 hi3 lo4 hi4 lo5 hi5 la ua lb ub lc uc ld ud : Nat) : mq_V := [mq_dB, (lo1, hi1), (lo2, hi2), (lo3, hi3), (lo4, hi4), (lo5, hi5), mq_dB, mq_dB, mq_dB, mq_dS, (2147483648, 2147483668), mq_dB, (la, ua), (lb, ub), mq_dS, (lc, uc), mq_dS, mq_dS, mq_dS, mq_dS, (ld, ud), mq_dS, mq_dS, mq_dS, mq_dB, mq_dB, mq_dB, mq_dB, mq_dB, mq_dB, mq_dB, mq_dB, mq_dB, mq_dB, mq_dB, mq_dB, mq_dB, mq_dB, mq_dB, mq_dB, mq_dB, mq_dB, mq_dB, mq_dB, mq_dB, mq_dB, mq_dB, mq_dB, mq_dB, mq_dB, mq_dB, mq_dB, mq_dB, mq_dB, mq_dB, mq_dB, mq_dB, mq_dB, mq_dB, mq_dB, mq_dB, mq_dB, (0, 6), (op, op)]
theorem mq_envG_sat {xs : Nat → Int32} {op lo1 hi1 lo2 hi2 lo3 hi3 lo4 hi4 lo5 hi5 la ua lb ub lc uc ld ud : Nat} (h0 : mq_rho xs 63 = op) (h1 : lo1 ≤ mq_rho xs 1 ∧ mq_rho xs 1 ≤ hi1) (h2 : lo2 ≤ mq_rho xs 2 ∧ mq_rho xs 2 ≤ hi2) (h3 : lo3 ≤ mq_rho xs 3 ∧ mq_rho xs 3 ≤ hi3) (h4 : lo4 ≤ mq_rho xs 4 ∧ mq_rho xs 4 ≤ hi4) (h5 : lo5 ≤ mq_rho xs 5 ∧ mq_rho xs 5 ≤ hi5) (h12 : la ≤ mq_rho xs 12 ∧ mq_rho xs 12 ≤ ua) (h13 : lb ≤ mq_rho xs 13 ∧ mq_rho xs 13 ≤ ub) (h15 : lc ≤ mq_rho xs 15 ∧ mq_rho xs 15 ≤ uc) (h20 : ld ≤ mq_rho xs 20 ∧ mq_rho xs 20 ≤ ud) : mq_Sat (mq_rho xs) (mq_envG op lo1 hi1 lo2 hi2 lo3 hi3 lo4 hi4 lo5 hi5 la ua lb ub lc uc ld ud) := by
  refine mq_rho_sat (fun i lo hi hb => ?_)
  have B : ∀ k, mq_dB.1 ≤ mq_rho xs k ∧ mq_rho xs k ≤ mq_dB.2 := fun k => by
    have := mq_rho_bd xs k
    show 0 ≤ _ ∧ _ ≤ 4294967295
    omega
  have S : ∀ k, 12 ≤ k → k ≤ 23 → mq_dS.1 ≤ mq_rho xs k ∧ mq_rho xs k ≤ mq_dS.2 := fun k a b => ⟨Nat.zero_le _, mq_rho_sg xs k a b⟩
  have s9 : mq_dS.1 ≤ mq_rho xs 9 ∧ mq_rho xs 9 ≤ mq_dS.2 := by
    refine ⟨Nat.zero_le _, ?_⟩
    have e9 : mq_rho xs 9 = mq_ord (mq_up31 (xs 2 * xs 5)) (mq_up31 (xs 4 * xs 3)) := rfl
    rw [e9]
    unfold mq_ord
    (repeat' split) <;> decide
  have s10 : 2147483648 ≤ mq_rho xs 10 ∧ mq_rho xs 10 ≤ 2147483668 := by
    have e : mq_rho xs 10 = 2147483648 + (mq_nby (xs 1) + mq_nby (xs 2) + mq_nby (xs 3) + mq_nby (xs 4) + mq_nby (xs 5)) := rfl
    have := mq_nby_le (xs 1)
    have := mq_nby_le (xs 2)
    have := mq_nby_le (xs 3)
    have := mq_nby_le (xs 4)
    have := mq_nby_le (xs 5)
    omega
  have s62 : 0 ≤ mq_rho xs 62 ∧ mq_rho xs 62 ≤ 6 := ⟨Nat.zero_le _, mq_rank_le _⟩
  have key : mq_bdL (mq_rho xs) (mq_envG op lo1 hi1 lo2 hi2 lo3 hi3 lo4 hi4 lo5 hi5 la ua lb ub lc uc ld ud) 0 := ⟨B 0, h1, h2, h3, h4, h5, B 6, B 7, B 8, s9, s10, B 11, h12, h13, S 14 (by decide) (by decide), h15, S 16 (by decide) (by decide), S 17 (by decide) (by decide), S 18 (by decide) (by decide), S 19 (by decide) (by decide), h20, S 21 (by decide) (by decide), S 22 (by decide) (by decide), S 23 (by decide) (by decide), B 24, B 25, B 26, B 27, B 28, B 29, B 30, B 31, B 32, B 33, B 34, B 35, B 36, B 37, B 38, B 39, B 40, B 41, B 42, B 43, B 44, B 45, B 46, B 47, B 48, B 49, B 50, B 51, B 52, B 53, B 54, B 55, B 56, B 57, B 58, B 59, B 60, B 61, s62, ⟨by show op ≤ _; exact Nat.le_of_eq h0.symm, by show _ ≤ op; exact Nat.le_of_eq h0⟩, trivial⟩
  have := mq_bdL_of (mq_rho_bd xs) _ 0 i lo hi key hb
  rw [Nat.zero_add] at this
  exact this
