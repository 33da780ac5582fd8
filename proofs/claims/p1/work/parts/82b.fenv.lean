/-! The first bounds of the symbols. -/
def mq_bdL (ρ : Nat → Nat) : List (Nat × Nat) → Nat → Prop
  | [], _ => True
  | q :: l, k => (q.1 ≤ ρ k ∧ ρ k ≤ q.2) ∧ mq_bdL ρ l (k + 1)
theorem mq_bdL_of {ρ : Nat → Nat} (hb : ∀ i, ρ i < 4294967296) : ∀ (l : List (Nat × Nat)) (k i lo hi : Nat), mq_bdL ρ l k → mq_bd l i = (lo, hi) → lo ≤ ρ (k + i) ∧ ρ (k + i) ≤ hi
  | [], k, i, lo, hi, _, h => by
    have h1 : ((0 : Nat), (4294967295 : Nat)) = (lo, hi) := h
    injection h1 with h1 h2
    have := hb (k + i)
    omega
  | q :: l, k, 0, lo, hi, hl, h => by
    have h : q = (lo, hi) := h
    subst h
    exact hl.1
  | q :: l, k, i + 1, lo, hi, hl, h => by
    have := mq_bdL_of hb l (k + 1) i lo hi hl.2 h
    rw [show k + 1 + i = k + (i + 1) by omega] at this
    exact this
def mq_dB : Nat × Nat := (0, 4294967295)
def mq_dS : Nat × Nat := (0, 2)
def mq_env (op lo1 hi1 lo2 hi2 lo3 hi3 lo4 hi4 lo5 hi5 : Nat) : mq_V := [mq_dB, (lo1, hi1), (lo2, hi2), (lo3, hi3), (lo4, hi4), (lo5, hi5), mq_dB, mq_dB, mq_dB, mq_dS, (2147483648, 2147483668), mq_dB, mq_dS, mq_dS, mq_dS, mq_dS, mq_dS, mq_dS, mq_dS, mq_dS, mq_dS, mq_dS, mq_dS, mq_dS, mq_dB, mq_dB, mq_dB, mq_dB, mq_dB, mq_dB, mq_dB, mq_dB, mq_dB, mq_dB, mq_dB, mq_dB, mq_dB, mq_dB, mq_dB, mq_dB, mq_dB, mq_dB, mq_dB, mq_dB, mq_dB, mq_dB, mq_dB, mq_dB, mq_dB, mq_dB, mq_dB, mq_dB, mq_dB, mq_dB, mq_dB, mq_dB, mq_dB, mq_dB, mq_dB, mq_dB, mq_dB, mq_dB, (0, 6), (op, op)]
theorem mq_rho_sg (xs : Nat → Int32) (i : Nat) (h1 : 12 ≤ i) (h2 : i ≤ 23) : mq_rho xs i ≤ 2 := by
  unfold mq_rho
  rw [if_neg (by omega), if_neg (by omega), if_neg (by omega), if_neg (by omega), if_neg (by omega), if_neg (by omega), if_neg (by omega), if_neg (by omega), if_neg (by omega)]
  split
  · rename_i e _
    have := jsg_range (mq_pv (mq_rh0 xs) e.2)
    omega
  · decide
theorem mq_env_sat {xs : Nat → Int32} {op lo1 hi1 lo2 hi2 lo3 hi3 lo4 hi4 lo5 hi5 : Nat} (h0 : mq_rho xs 63 = op) (h1 : lo1 ≤ mq_rho xs 1 ∧ mq_rho xs 1 ≤ hi1) (h2 : lo2 ≤ mq_rho xs 2 ∧ mq_rho xs 2 ≤ hi2) (h3 : lo3 ≤ mq_rho xs 3 ∧ mq_rho xs 3 ≤ hi3) (h4 : lo4 ≤ mq_rho xs 4 ∧ mq_rho xs 4 ≤ hi4) (h5 : lo5 ≤ mq_rho xs 5 ∧ mq_rho xs 5 ≤ hi5) : mq_Sat (mq_rho xs) (mq_env op lo1 hi1 lo2 hi2 lo3 hi3 lo4 hi4 lo5 hi5) := by
  refine mq_rho_sat (fun i lo hi hb => ?_)
  have B : ∀ k, mq_dB.1 ≤ mq_rho xs k ∧ mq_rho xs k ≤ mq_dB.2 := fun k => by
    have := mq_rho_bd xs k
    show 0 ≤ _ ∧ _ ≤ 4294967295
    omega
  have S : ∀ k, 12 ≤ k → k ≤ 23 → mq_dS.1 ≤ mq_rho xs k ∧ mq_rho xs k ≤ mq_dS.2 := fun k a b => ⟨Nat.zero_le _, mq_rho_sg xs k a b⟩
  have s9 : mq_dS.1 ≤ mq_rho xs 9 ∧ mq_rho xs 9 ≤ mq_dS.2 := by
    refine ⟨Nat.zero_le _, ?_⟩
    have e9 : mq_rho xs 9 = mq_ord (mq_up31 (xs 2 * xs 5)) (mq_up31 (xs 4 * xs 3)) := rfl
    rw [e9]
    unfold mq_ord
    (repeat' split) <;> decide
  have s10 : 2147483648 ≤ mq_rho xs 10 ∧ mq_rho xs 10 ≤ 2147483668 := by
    have e : mq_rho xs 10 = 2147483648 + (mq_nby (xs 1) + mq_nby (xs 2) + mq_nby (xs 3) + mq_nby (xs 4) + mq_nby (xs 5)) := rfl
    have := mq_nby_le (xs 1)
    have := mq_nby_le (xs 2)
    have := mq_nby_le (xs 3)
    have := mq_nby_le (xs 4)
    have := mq_nby_le (xs 5)
    omega
  have s62 : 0 ≤ mq_rho xs 62 ∧ mq_rho xs 62 ≤ 6 := ⟨Nat.zero_le _, mq_rank_le _⟩
  have key : mq_bdL (mq_rho xs) (mq_env op lo1 hi1 lo2 hi2 lo3 hi3 lo4 hi4 lo5 hi5) 0 := ⟨B 0, h1, h2, h3, h4, h5, B 6, B 7, B 8, s9, s10, B 11, S 12 (by decide) (by decide), S 13 (by decide) (by decide), S 14 (by decide) (by decide), S 15 (by decide) (by decide), S 16 (by decide) (by decide), S 17 (by decide) (by decide), S 18 (by decide) (by decide), S 19 (by decide) (by decide), S 20 (by decide) (by decide), S 21 (by decide) (by decide), S 22 (by decide) (by decide), S 23 (by decide) (by decide), B 24, B 25, B 26, B 27, B 28, B 29, B 30, B 31, B 32, B 33, B 34, B 35, B 36, B 37, B 38, B 39, B 40, B 41, B 42, B 43, B 44, B 45, B 46, B 47, B 48, B 49, B 50, B 51, B 52, B 53, B 54, B 55, B 56, B 57, B 58, B 59, B 60, B 61, s62, ⟨by show op ≤ _; exact Nat.le_of_eq h0.symm, by show _ ≤ op; exact Nat.le_of_eq h0⟩, trivial⟩
  have := mq_bdL_of (mq_rho_bd xs) _ 0 i lo hi key hb
  rw [Nat.zero_add] at this
  exact this
