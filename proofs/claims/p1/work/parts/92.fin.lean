/-! The law's run for every script: each op's boxes cover all ints. -/
def mq_Go (L : Nat) (xs : Nat → Int32) : Prop := mj_T 48 mj_mL 0 (mj_loc0 9 [.ref 0]) [] [.inl (100, L, fun j => .int (xs j))] mq_Q
theorem mq_one {xs : Nat → Int32} {op lo1 hi1 lo2 hi2 lo3 hi3 lo4 hi4 lo5 hi5 : Nat} (h0 : mq_rho xs 63 = op) (h1 : lo1 ≤ mq_rho xs 1 ∧ mq_rho xs 1 ≤ hi1) (h2 : lo2 ≤ mq_rho xs 2 ∧ mq_rho xs 2 ≤ hi2) (h3 : lo3 ≤ mq_rho xs 3 ∧ mq_rho xs 3 ≤ hi3) (h4 : lo4 ≤ mq_rho xs 4 ∧ mq_rho xs 4 ≤ hi4) (h5 : lo5 ≤ mq_rho xs 5 ∧ mq_rho xs 5 ≤ hi5) (g : mq_try mq_t6 (mq_env op lo1 hi1 lo2 hi2 lo3 hi3 lo4 hi4 lo5 hi5) = true) : mq_Go 6 xs :=
  mq_law rfl (mq_t6_ok xs) (mq_env_sat h0 h1 h2 h3 h4 h5) g
theorem mq_one2 {xs : Nat → Int32} {op lo1 hi1 lo2 hi2 lo3 hi3 lo4 hi4 lo5 hi5 : Nat} (h0 : mq_rho xs 63 = op) (h1 : lo1 ≤ mq_rho xs 1 ∧ mq_rho xs 1 ≤ hi1) (h2 : lo2 ≤ mq_rho xs 2 ∧ mq_rho xs 2 ≤ hi2) (h3 : lo3 ≤ mq_rho xs 3 ∧ mq_rho xs 3 ≤ hi3) (h4 : lo4 ≤ mq_rho xs 4 ∧ mq_rho xs 4 ≤ hi4) (h5 : lo5 ≤ mq_rho xs 5 ∧ mq_rho xs 5 ≤ hi5) (g : mq_try2 mq_t6 (mq_env op lo1 hi1 lo2 hi2 lo3 hi3 lo4 hi4 lo5 hi5) = true) : mq_Go 6 xs :=
  mq_law2 rfl (mq_t6_ok xs) (mq_env_sat h0 h1 h2 h3 h4 h5) g
theorem mq_oneG {xs : Nat → Int32} {op lo1 hi1 lo2 hi2 lo3 hi3 lo4 hi4 lo5 hi5 la ua lb ub lc uc ld ud : Nat} (h0 : mq_rho xs 63 = op) (h1 : lo1 ≤ mq_rho xs 1 ∧ mq_rho xs 1 ≤ hi1) (h2 : lo2 ≤ mq_rho xs 2 ∧ mq_rho xs 2 ≤ hi2) (h3 : lo3 ≤ mq_rho xs 3 ∧ mq_rho xs 3 ≤ hi3) (h4 : lo4 ≤ mq_rho xs 4 ∧ mq_rho xs 4 ≤ hi4) (h5 : lo5 ≤ mq_rho xs 5 ∧ mq_rho xs 5 ≤ hi5) (h12 : la ≤ mq_rho xs 12 ∧ mq_rho xs 12 ≤ ua) (h13 : lb ≤ mq_rho xs 13 ∧ mq_rho xs 13 ≤ ub) (h15 : lc ≤ mq_rho xs 15 ∧ mq_rho xs 15 ≤ uc) (h20 : ld ≤ mq_rho xs 20 ∧ mq_rho xs 20 ≤ ud) (g : mq_try mq_t6 (mq_envG op lo1 hi1 lo2 hi2 lo3 hi3 lo4 hi4 lo5 hi5 la ua lb ub lc uc ld ud) = true) : mq_Go 6 xs :=
  mq_law rfl (mq_t6_ok xs) (mq_envG_sat h0 h1 h2 h3 h4 h5 h12 h13 h15 h20) g
theorem mq_none_sat (xs : Nat → Int32) : mq_Sat (mq_rho xs) [] := by
  refine mq_rho_sat (fun i lo hi h => ?_)
  have e : ((0 : Nat), (4294967295 : Nat)) = (lo, hi) := h
  injection e with e1 e2
  have := mq_rho_bd xs i
  omega
theorem mq_pq0 (xs : Nat → Int32) (h0 : mq_rho xs 63 = 0) : mq_Go 6 xs := by
  have b1 := mq_rho_bd xs 1
  have b2 := mq_rho_bd xs 2
  have b3 := mq_rho_bd xs 3
  have b4 := mq_rho_bd xs 4
  have b5 := mq_rho_bd xs 5
  exact mq_one h0 (by omega) (by omega) (by omega) (by omega) (by omega) mq_v0_0
theorem mq_pq1 (xs : Nat → Int32) (h0 : mq_rho xs 63 = 1) : mq_Go 6 xs := by
  have b1 := mq_rho_bd xs 1
  have b2 := mq_rho_bd xs 2
  have b3 := mq_rho_bd xs 3
  have b4 := mq_rho_bd xs 4
  have b5 := mq_rho_bd xs 5
  exact mq_one h0 (by omega) (by omega) (by omega) (by omega) (by omega) mq_v1_0
theorem mq_pq2 (xs : Nat → Int32) (h0 : mq_rho xs 63 = 2) : mq_Go 6 xs := by
  have b1 := mq_rho_bd xs 1
  have b2 := mq_rho_bd xs 2
  have b3 := mq_rho_bd xs 3
  have b4 := mq_rho_bd xs 4
  have b5 := mq_rho_bd xs 5
  by_cases c0 : mq_rho xs 2 ≤ 2147483649
  · exact mq_one h0 (by omega) (by omega) (by omega) (by omega) (by omega) mq_v2_0
  · exact mq_one h0 (by omega) (by omega) (by omega) (by omega) (by omega) mq_v2_1
theorem mq_pq3 (xs : Nat → Int32) (h0 : mq_rho xs 63 = 3) : mq_Go 6 xs := by
  have b1 := mq_rho_bd xs 1
  have b2 := mq_rho_bd xs 2
  have b3 := mq_rho_bd xs 3
  have b4 := mq_rho_bd xs 4
  have b5 := mq_rho_bd xs 5
  by_cases c0 : mq_rho xs 2 ≤ 2147483650
  · by_cases c1 : mq_rho xs 2 ≤ 2147483648
    · exact mq_one2 h0 (by omega) (by omega) (by omega) (by omega) (by omega) mq_v3_0
    · by_cases c2 : mq_rho xs 2 ≤ 2147483649
      · exact mq_one2 h0 (by omega) (by omega) (by omega) (by omega) (by omega) mq_v3_1
      · exact mq_one2 h0 (by omega) (by omega) (by omega) (by omega) (by omega) mq_v3_2
  · by_cases c1 : mq_rho xs 2 ≤ 2147483651
    · exact mq_one2 h0 (by omega) (by omega) (by omega) (by omega) (by omega) mq_v3_3
    · by_cases c2 : mq_rho xs 2 ≤ 2147483652
      · exact mq_one2 h0 (by omega) (by omega) (by omega) (by omega) (by omega) mq_v3_4
      · exact mq_one2 h0 (by omega) (by omega) (by omega) (by omega) (by omega) mq_v3_5
theorem mq_pq4 (xs : Nat → Int32) (h0 : mq_rho xs 63 = 4) : mq_Go 6 xs := by
  have b1 := mq_rho_bd xs 1
  have b2 := mq_rho_bd xs 2
  have b3 := mq_rho_bd xs 3
  have b4 := mq_rho_bd xs 4
  have b5 := mq_rho_bd xs 5
  exact mq_one h0 (by omega) (by omega) (by omega) (by omega) (by omega) mq_v4_0
theorem mq_pq5 (xs : Nat → Int32) (h0 : mq_rho xs 63 = 5) : mq_Go 6 xs := by
  have b1 := mq_rho_bd xs 1
  have b2 := mq_rho_bd xs 2
  have b3 := mq_rho_bd xs 3
  have b4 := mq_rho_bd xs 4
  have b5 := mq_rho_bd xs 5
  by_cases c0 : mq_rho xs 2 ≤ 2147483650
  · by_cases c1 : mq_rho xs 2 ≤ 2147483648
    · exact mq_one2 h0 (by omega) (by omega) (by omega) (by omega) (by omega) mq_v5_0
    · by_cases c2 : mq_rho xs 2 ≤ 2147483649
      · exact mq_one2 h0 (by omega) (by omega) (by omega) (by omega) (by omega) mq_v5_1
      · exact mq_one2 h0 (by omega) (by omega) (by omega) (by omega) (by omega) mq_v5_2
  · by_cases c1 : mq_rho xs 2 ≤ 2147483651
    · exact mq_one2 h0 (by omega) (by omega) (by omega) (by omega) (by omega) mq_v5_3
    · by_cases c2 : mq_rho xs 2 ≤ 2147483652
      · exact mq_one2 h0 (by omega) (by omega) (by omega) (by omega) (by omega) mq_v5_4
      · exact mq_one2 h0 (by omega) (by omega) (by omega) (by omega) (by omega) mq_v5_5
theorem mq_pq6 (xs : Nat → Int32) (h0 : mq_rho xs 63 = 6) : mq_Go 6 xs := by
  have b1 := mq_rho_bd xs 1
  have b2 := mq_rho_bd xs 2
  have b3 := mq_rho_bd xs 3
  have b4 := mq_rho_bd xs 4
  have b5 := mq_rho_bd xs 5
  by_cases c0 : mq_rho xs 3 ≤ 2147483649
  · exact mq_one h0 (by omega) (by omega) (by omega) (by omega) (by omega) mq_v6_0
  · exact mq_one h0 (by omega) (by omega) (by omega) (by omega) (by omega) mq_v6_1
theorem mq_pq7 (xs : Nat → Int32) (h0 : mq_rho xs 63 = 7) : mq_Go 6 xs := by
  have b1 := mq_rho_bd xs 1
  have b2 := mq_rho_bd xs 2
  have b3 := mq_rho_bd xs 3
  have b4 := mq_rho_bd xs 4
  have b5 := mq_rho_bd xs 5
  by_cases c0 : mq_rho xs 2 ≤ 2147483649
  · by_cases c1 : mq_rho xs 2 ≤ 2147483648
    · exact mq_one h0 (by omega) (by omega) (by omega) (by omega) (by omega) mq_v7_0
    · exact mq_one h0 (by omega) (by omega) (by omega) (by omega) (by omega) mq_v7_1
  · by_cases c1 : mq_rho xs 2 ≤ 2147483651
    · exact mq_one h0 (by omega) (by omega) (by omega) (by omega) (by omega) mq_v7_2
    · exact mq_one h0 (by omega) (by omega) (by omega) (by omega) (by omega) mq_v7_3
theorem mq_pq8 (xs : Nat → Int32) (h0 : mq_rho xs 63 = 8) : mq_Go 6 xs := by
  have b1 := mq_rho_bd xs 1
  have b2 := mq_rho_bd xs 2
  have b3 := mq_rho_bd xs 3
  have b4 := mq_rho_bd xs 4
  have b5 := mq_rho_bd xs 5
  exact mq_one h0 (by omega) (by omega) (by omega) (by omega) (by omega) mq_v8_0
theorem mq_pq9 (xs : Nat → Int32) (h0 : mq_rho xs 63 = 9) : mq_Go 6 xs := by
  have b1 := mq_rho_bd xs 1
  have b2 := mq_rho_bd xs 2
  have b3 := mq_rho_bd xs 3
  have b4 := mq_rho_bd xs 4
  have b5 := mq_rho_bd xs 5
  exact mq_one h0 (by omega) (by omega) (by omega) (by omega) (by omega) mq_v9_0
theorem mq_pq10 (xs : Nat → Int32) (h0 : mq_rho xs 63 = 10) : mq_Go 6 xs := by
  have b1 := mq_rho_bd xs 1
  have b2 := mq_rho_bd xs 2
  have b3 := mq_rho_bd xs 3
  have b4 := mq_rho_bd xs 4
  have b5 := mq_rho_bd xs 5
  by_cases c0 : mq_rho xs 2 ≤ 2147483650
  · by_cases c1 : mq_rho xs 2 ≤ 2147483648
    · exact mq_one2 h0 (by omega) (by omega) (by omega) (by omega) (by omega) mq_v10_0
    · by_cases c2 : mq_rho xs 2 ≤ 2147483649
      · exact mq_one2 h0 (by omega) (by omega) (by omega) (by omega) (by omega) mq_v10_1
      · exact mq_one2 h0 (by omega) (by omega) (by omega) (by omega) (by omega) mq_v10_2
  · by_cases c1 : mq_rho xs 2 ≤ 2147483651
    · exact mq_one2 h0 (by omega) (by omega) (by omega) (by omega) (by omega) mq_v10_3
    · by_cases c2 : mq_rho xs 2 ≤ 2147483652
      · exact mq_one2 h0 (by omega) (by omega) (by omega) (by omega) (by omega) mq_v10_4
      · exact mq_one2 h0 (by omega) (by omega) (by omega) (by omega) (by omega) mq_v10_5
theorem mq_pq11 (xs : Nat → Int32) (h0 : mq_rho xs 63 = 11) : mq_Go 6 xs := by
  have b1 := mq_rho_bd xs 1
  have b2 := mq_rho_bd xs 2
  have b3 := mq_rho_bd xs 3
  have b4 := mq_rho_bd xs 4
  have b5 := mq_rho_bd xs 5
  by_cases c0 : mq_rho xs 2 ≤ 2147483653
  · by_cases c1 : mq_rho xs 2 ≤ 2147483649
    · by_cases c2 : mq_rho xs 2 ≤ 2147483647
      · exact mq_one h0 (by omega) (by omega) (by omega) (by omega) (by omega) mq_v11_0
      · by_cases c3 : mq_rho xs 2 ≤ 2147483648
        · exact mq_one h0 (by omega) (by omega) (by omega) (by omega) (by omega) mq_v11_1
        · exact mq_one h0 (by omega) (by omega) (by omega) (by omega) (by omega) mq_v11_2
    · by_cases c2 : mq_rho xs 2 ≤ 2147483651
      · by_cases c3 : mq_rho xs 2 ≤ 2147483650
        · exact mq_one h0 (by omega) (by omega) (by omega) (by omega) (by omega) mq_v11_3
        · exact mq_one h0 (by omega) (by omega) (by omega) (by omega) (by omega) mq_v11_4
      · by_cases c3 : mq_rho xs 2 ≤ 2147483652
        · exact mq_one h0 (by omega) (by omega) (by omega) (by omega) (by omega) mq_v11_5
        · exact mq_one h0 (by omega) (by omega) (by omega) (by omega) (by omega) mq_v11_6
  · by_cases c1 : mq_rho xs 2 ≤ 2147483657
    · by_cases c2 : mq_rho xs 2 ≤ 2147483655
      · by_cases c3 : mq_rho xs 2 ≤ 2147483654
        · exact mq_one h0 (by omega) (by omega) (by omega) (by omega) (by omega) mq_v11_7
        · exact mq_one h0 (by omega) (by omega) (by omega) (by omega) (by omega) mq_v11_8
      · by_cases c3 : mq_rho xs 2 ≤ 2147483656
        · exact mq_one h0 (by omega) (by omega) (by omega) (by omega) (by omega) mq_v11_9
        · exact mq_one h0 (by omega) (by omega) (by omega) (by omega) (by omega) mq_v11_10
    · by_cases c2 : mq_rho xs 2 ≤ 2147483659
      · by_cases c3 : mq_rho xs 2 ≤ 2147483658
        · exact mq_one h0 (by omega) (by omega) (by omega) (by omega) (by omega) mq_v11_11
        · exact mq_one h0 (by omega) (by omega) (by omega) (by omega) (by omega) mq_v11_12
      · by_cases c3 : mq_rho xs 2 ≤ 2147483660
        · exact mq_one h0 (by omega) (by omega) (by omega) (by omega) (by omega) mq_v11_13
        · exact mq_one h0 (by omega) (by omega) (by omega) (by omega) (by omega) mq_v11_14
theorem mq_pq12 (xs : Nat → Int32) (h0 : mq_rho xs 63 = 12) : mq_Go 6 xs := by
  have b1 := mq_rho_bd xs 1
  have b2 := mq_rho_bd xs 2
  have b3 := mq_rho_bd xs 3
  have b4 := mq_rho_bd xs 4
  have b5 := mq_rho_bd xs 5
  exact mq_one h0 (by omega) (by omega) (by omega) (by omega) (by omega) mq_v12_0
theorem mq_pq13 (xs : Nat → Int32) (h0 : mq_rho xs 63 = 13) : mq_Go 6 xs := by
  have b1 := mq_rho_bd xs 1
  have b2 := mq_rho_bd xs 2
  have b3 := mq_rho_bd xs 3
  have b4 := mq_rho_bd xs 4
  have b5 := mq_rho_bd xs 5
  exact mq_one h0 (by omega) (by omega) (by omega) (by omega) (by omega) mq_v13_0
theorem mq_pq14 (xs : Nat → Int32) (h0 : mq_rho xs 63 = 14) : mq_Go 6 xs := by
  have b1 := mq_rho_bd xs 1
  have b2 := mq_rho_bd xs 2
  have b3 := mq_rho_bd xs 3
  have b4 := mq_rho_bd xs 4
  have b5 := mq_rho_bd xs 5
  exact mq_one h0 (by omega) (by omega) (by omega) (by omega) (by omega) mq_v14_0
theorem mq_pq15 (xs : Nat → Int32) (h0 : mq_rho xs 63 = 15) : mq_Go 6 xs := by
  have b1 := mq_rho_bd xs 1
  have b2 := mq_rho_bd xs 2
  have b3 := mq_rho_bd xs 3
  have b4 := mq_rho_bd xs 4
  have b5 := mq_rho_bd xs 5
  exact mq_one h0 (by omega) (by omega) (by omega) (by omega) (by omega) mq_v15_0
theorem mq_pq16 (xs : Nat → Int32) (h0 : mq_rho xs 63 = 16) : mq_Go 6 xs := by
  have b1 := mq_rho_bd xs 1
  have b2 := mq_rho_bd xs 2
  have b3 := mq_rho_bd xs 3
  have b4 := mq_rho_bd xs 4
  have b5 := mq_rho_bd xs 5
  exact mq_one h0 (by omega) (by omega) (by omega) (by omega) (by omega) mq_v16_0
theorem mq_pq17 (xs : Nat → Int32) (h0 : mq_rho xs 63 = 17) : mq_Go 6 xs := by
  have b1 := mq_rho_bd xs 1
  have b2 := mq_rho_bd xs 2
  have b3 := mq_rho_bd xs 3
  have b4 := mq_rho_bd xs 4
  have b5 := mq_rho_bd xs 5
  exact mq_one h0 (by omega) (by omega) (by omega) (by omega) (by omega) mq_v17_0
theorem mq_pq18 (xs : Nat → Int32) (h0 : mq_rho xs 63 = 18) : mq_Go 6 xs := by
  have b1 := mq_rho_bd xs 1
  have b2 := mq_rho_bd xs 2
  have b3 := mq_rho_bd xs 3
  have b4 := mq_rho_bd xs 4
  have b5 := mq_rho_bd xs 5
  exact mq_one h0 (by omega) (by omega) (by omega) (by omega) (by omega) mq_v18_0
theorem mq_pq19 (xs : Nat → Int32) (h0 : mq_rho xs 63 = 19) : mq_Go 6 xs := by
  have b1 := mq_rho_bd xs 1
  have b2 := mq_rho_bd xs 2
  have b3 := mq_rho_bd xs 3
  have b4 := mq_rho_bd xs 4
  have b5 := mq_rho_bd xs 5
  exact mq_one h0 (by omega) (by omega) (by omega) (by omega) (by omega) mq_v19_0
theorem mq_pq20 (xs : Nat → Int32) (h0 : mq_rho xs 63 = 20) : mq_Go 6 xs := by
  have b1 := mq_rho_bd xs 1
  have b2 := mq_rho_bd xs 2
  have b3 := mq_rho_bd xs 3
  have b4 := mq_rho_bd xs 4
  have b5 := mq_rho_bd xs 5
  exact mq_one h0 (by omega) (by omega) (by omega) (by omega) (by omega) mq_v20_0
theorem mq_pq21 (xs : Nat → Int32) (h0 : mq_rho xs 63 = 21) : mq_Go 6 xs := by
  have b1 := mq_rho_bd xs 1
  have b2 := mq_rho_bd xs 2
  have b3 := mq_rho_bd xs 3
  have b4 := mq_rho_bd xs 4
  have b5 := mq_rho_bd xs 5
  exact mq_one h0 (by omega) (by omega) (by omega) (by omega) (by omega) mq_v21_0
theorem mq_pq22 (xs : Nat → Int32) (h0 : mq_rho xs 63 = 22) : mq_Go 6 xs := by
  have b1 := mq_rho_bd xs 1
  have b2 := mq_rho_bd xs 2
  have b3 := mq_rho_bd xs 3
  have b4 := mq_rho_bd xs 4
  have b5 := mq_rho_bd xs 5
  exact mq_one h0 (by omega) (by omega) (by omega) (by omega) (by omega) mq_v22_0
theorem mq_pq23 (xs : Nat → Int32) (h0 : mq_rho xs 63 = 23) : mq_Go 6 xs := by
  have b1 := mq_rho_bd xs 1
  have b2 := mq_rho_bd xs 2
  have b3 := mq_rho_bd xs 3
  have b4 := mq_rho_bd xs 4
  have b5 := mq_rho_bd xs 5
  exact mq_one2 h0 (by omega) (by omega) (by omega) (by omega) (by omega) mq_v23_0
theorem mq_pq24 (xs : Nat → Int32) (h0 : mq_rho xs 63 = 24) : mq_Go 6 xs := by
  have b1 := mq_rho_bd xs 1
  have b2 := mq_rho_bd xs 2
  have b3 := mq_rho_bd xs 3
  have b4 := mq_rho_bd xs 4
  have b5 := mq_rho_bd xs 5
  exact mq_one h0 (by omega) (by omega) (by omega) (by omega) (by omega) mq_v24_0
theorem mq_pq25 (xs : Nat → Int32) (h0 : mq_rho xs 63 = 25) : mq_Go 6 xs := by
  have b1 := mq_rho_bd xs 1
  have b2 := mq_rho_bd xs 2
  have b3 := mq_rho_bd xs 3
  have b4 := mq_rho_bd xs 4
  have b5 := mq_rho_bd xs 5
  by_cases c0 : mq_rho xs 1 ≤ 2147483649
  · exact mq_one2 h0 (by omega) (by omega) (by omega) (by omega) (by omega) mq_v25_0
  · exact mq_one2 h0 (by omega) (by omega) (by omega) (by omega) (by omega) mq_v25_1
theorem mq_pq26 (xs : Nat → Int32) (h0 : mq_rho xs 63 = 26) : mq_Go 6 xs := by
  have b1 := mq_rho_bd xs 1
  have b2 := mq_rho_bd xs 2
  have b3 := mq_rho_bd xs 3
  have b4 := mq_rho_bd xs 4
  have b5 := mq_rho_bd xs 5
  exact mq_one h0 (by omega) (by omega) (by omega) (by omega) (by omega) mq_v26_0
theorem mq_pq27 (xs : Nat → Int32) (h0 : mq_rho xs 63 = 27) : mq_Go 6 xs := by
  have b1 := mq_rho_bd xs 1
  have b2 := mq_rho_bd xs 2
  have b3 := mq_rho_bd xs 3
  have b4 := mq_rho_bd xs 4
  have b5 := mq_rho_bd xs 5
  exact mq_one h0 (by omega) (by omega) (by omega) (by omega) (by omega) mq_v27_0
theorem mq_pq28 (xs : Nat → Int32) (h0 : mq_rho xs 63 = 28) : mq_Go 6 xs := by
  have b1 := mq_rho_bd xs 1
  have b2 := mq_rho_bd xs 2
  have b3 := mq_rho_bd xs 3
  have b4 := mq_rho_bd xs 4
  have b5 := mq_rho_bd xs 5
  exact mq_one h0 (by omega) (by omega) (by omega) (by omega) (by omega) mq_v28_0
theorem mq_pq29 (xs : Nat → Int32) (h0 : mq_rho xs 63 = 29) : mq_Go 6 xs := by
  have b1 := mq_rho_bd xs 1
  have b2 := mq_rho_bd xs 2
  have b3 := mq_rho_bd xs 3
  have b4 := mq_rho_bd xs 4
  have b5 := mq_rho_bd xs 5
  exact mq_one2 h0 (by omega) (by omega) (by omega) (by omega) (by omega) mq_v29_0
theorem mq_pq30 (xs : Nat → Int32) (h0 : mq_rho xs 63 = 30) : mq_Go 6 xs := by
  have b1 := mq_rho_bd xs 1
  have b2 := mq_rho_bd xs 2
  have b3 := mq_rho_bd xs 3
  have b4 := mq_rho_bd xs 4
  have b5 := mq_rho_bd xs 5
  have b12 := mq_rho_sg xs 12 (by decide) (by decide)
  have b13 := mq_rho_sg xs 13 (by decide) (by decide)
  have b15 := mq_rho_sg xs 15 (by decide) (by decide)
  have b20 := mq_rho_sg xs 20 (by decide) (by decide)
  by_cases c0 : mq_rho xs 1 ≤ 2147483648
  · exact mq_one h0 (by omega) (by omega) (by omega) (by omega) (by omega) mq_v30_0
  · by_cases c1 : mq_rho xs 1 ≤ 2147483649
    · by_cases c2 : mq_rho xs 12 ≤ 0
      · by_cases c3 : mq_rho xs 15 ≤ 0
        · by_cases c4 : mq_rho xs 20 ≤ 0
          · exact mq_oneG h0 (by omega) (by omega) (by omega) (by omega) (by omega) (by omega) (by omega) (by omega) (by omega) mq_v30_1
          · exact mq_oneG h0 (by omega) (by omega) (by omega) (by omega) (by omega) (by omega) (by omega) (by omega) (by omega) mq_v30_2
        · by_cases c4 : mq_rho xs 20 ≤ 0
          · exact mq_oneG h0 (by omega) (by omega) (by omega) (by omega) (by omega) (by omega) (by omega) (by omega) (by omega) mq_v30_3
          · exact mq_oneG h0 (by omega) (by omega) (by omega) (by omega) (by omega) (by omega) (by omega) (by omega) (by omega) mq_v30_4
      · by_cases c3 : mq_rho xs 15 ≤ 0
        · by_cases c4 : mq_rho xs 20 ≤ 0
          · exact mq_oneG h0 (by omega) (by omega) (by omega) (by omega) (by omega) (by omega) (by omega) (by omega) (by omega) mq_v30_6
          · exact mq_oneG h0 (by omega) (by omega) (by omega) (by omega) (by omega) (by omega) (by omega) (by omega) (by omega) mq_v30_7
        · by_cases c4 : mq_rho xs 20 ≤ 0
          · exact mq_oneG h0 (by omega) (by omega) (by omega) (by omega) (by omega) (by omega) (by omega) (by omega) (by omega) mq_v30_8
          · exact mq_oneG h0 (by omega) (by omega) (by omega) (by omega) (by omega) (by omega) (by omega) (by omega) (by omega) mq_v30_9
    · exact mq_one h0 (by omega) (by omega) (by omega) (by omega) (by omega) mq_v30_5
theorem mq_pq31 (xs : Nat → Int32) (h0 : mq_rho xs 63 = 31) : mq_Go 6 xs := by
  have b1 := mq_rho_bd xs 1
  have b2 := mq_rho_bd xs 2
  have b3 := mq_rho_bd xs 3
  have b4 := mq_rho_bd xs 4
  have b5 := mq_rho_bd xs 5
  exact mq_one2 h0 (by omega) (by omega) (by omega) (by omega) (by omega) mq_v31_0
theorem mq_pq32 (xs : Nat → Int32) (h0 : mq_rho xs 63 = 32) : mq_Go 6 xs := by
  have b1 := mq_rho_bd xs 1
  have b2 := mq_rho_bd xs 2
  have b3 := mq_rho_bd xs 3
  have b4 := mq_rho_bd xs 4
  have b5 := mq_rho_bd xs 5
  by_cases c0 : mq_rho xs 1 ≤ 2147483648
  · exact mq_one h0 (by omega) (by omega) (by omega) (by omega) (by omega) mq_v32_0
  · by_cases c1 : mq_rho xs 1 ≤ 2147483649
    · exact mq_one h0 (by omega) (by omega) (by omega) (by omega) (by omega) mq_v32_1
    · exact mq_one h0 (by omega) (by omega) (by omega) (by omega) (by omega) mq_v32_2
theorem mq_pq33 (xs : Nat → Int32) (h0 : mq_rho xs 63 = 33) : mq_Go 6 xs := by
  have b1 := mq_rho_bd xs 1
  have b2 := mq_rho_bd xs 2
  have b3 := mq_rho_bd xs 3
  have b4 := mq_rho_bd xs 4
  have b5 := mq_rho_bd xs 5
  by_cases c0 : mq_rho xs 1 ≤ 2147483648
  · by_cases c1 : mq_rho xs 1 ≤ 2147483647
    · exact mq_one2 h0 (by omega) (by omega) (by omega) (by omega) (by omega) mq_v33_0
    · by_cases c2 : mq_rho xs 2 ≤ 2147483648
      · by_cases c3 : mq_rho xs 2 ≤ 2147483647
        · exact mq_one2 h0 (by omega) (by omega) (by omega) (by omega) (by omega) mq_v33_1
        · by_cases c4 : mq_rho xs 3 ≤ 2147483654
          · exact mq_one2 h0 (by omega) (by omega) (by omega) (by omega) (by omega) mq_v33_2
          · by_cases c5 : mq_rho xs 3 ≤ 2147483661
            · exact mq_one2 h0 (by omega) (by omega) (by omega) (by omega) (by omega) mq_v33_3
            · exact mq_one2 h0 (by omega) (by omega) (by omega) (by omega) (by omega) mq_v33_4
      · by_cases c3 : mq_rho xs 2 ≤ 2147483649
        · by_cases c4 : mq_rho xs 3 ≤ 2147483654
          · exact mq_one2 h0 (by omega) (by omega) (by omega) (by omega) (by omega) mq_v33_5
          · by_cases c5 : mq_rho xs 3 ≤ 2147483661
            · exact mq_one2 h0 (by omega) (by omega) (by omega) (by omega) (by omega) mq_v33_6
            · exact mq_one2 h0 (by omega) (by omega) (by omega) (by omega) (by omega) mq_v33_7
        · exact mq_one2 h0 (by omega) (by omega) (by omega) (by omega) (by omega) mq_v33_8
  · by_cases c1 : mq_rho xs 1 ≤ 2147483649
    · by_cases c2 : mq_rho xs 2 ≤ 2147483648
      · by_cases c3 : mq_rho xs 2 ≤ 2147483647
        · exact mq_one2 h0 (by omega) (by omega) (by omega) (by omega) (by omega) mq_v33_9
        · by_cases c4 : mq_rho xs 3 ≤ 2147483655
          · by_cases c5 : mq_rho xs 3 ≤ 2147483651
            · exact mq_one2 h0 (by omega) (by omega) (by omega) (by omega) (by omega) mq_v33_10
            · exact mq_one2 h0 (by omega) (by omega) (by omega) (by omega) (by omega) mq_v33_11
          · by_cases c5 : mq_rho xs 3 ≤ 2147483660
            · exact mq_one2 h0 (by omega) (by omega) (by omega) (by omega) (by omega) mq_v33_12
            · by_cases c6 : mq_rho xs 3 ≤ 2147483664
              · exact mq_one2 h0 (by omega) (by omega) (by omega) (by omega) (by omega) mq_v33_13
              · exact mq_one2 h0 (by omega) (by omega) (by omega) (by omega) (by omega) mq_v33_14
      · by_cases c3 : mq_rho xs 2 ≤ 2147483649
        · by_cases c4 : mq_rho xs 3 ≤ 2147483655
          · by_cases c5 : mq_rho xs 3 ≤ 2147483651
            · exact mq_one2 h0 (by omega) (by omega) (by omega) (by omega) (by omega) mq_v33_15
            · exact mq_one2 h0 (by omega) (by omega) (by omega) (by omega) (by omega) mq_v33_16
          · by_cases c5 : mq_rho xs 3 ≤ 2147483660
            · exact mq_one2 h0 (by omega) (by omega) (by omega) (by omega) (by omega) mq_v33_17
            · by_cases c6 : mq_rho xs 3 ≤ 2147483664
              · exact mq_one2 h0 (by omega) (by omega) (by omega) (by omega) (by omega) mq_v33_18
              · exact mq_one2 h0 (by omega) (by omega) (by omega) (by omega) (by omega) mq_v33_19
        · by_cases c4 : mq_rho xs 2 ≤ 2147483650
          · by_cases c5 : mq_rho xs 3 ≤ 2147483655
            · by_cases c6 : mq_rho xs 3 ≤ 2147483651
              · exact mq_one2 h0 (by omega) (by omega) (by omega) (by omega) (by omega) mq_v33_20
              · exact mq_one2 h0 (by omega) (by omega) (by omega) (by omega) (by omega) mq_v33_21
            · by_cases c6 : mq_rho xs 3 ≤ 2147483660
              · exact mq_one2 h0 (by omega) (by omega) (by omega) (by omega) (by omega) mq_v33_22
              · by_cases c7 : mq_rho xs 3 ≤ 2147483664
                · exact mq_one2 h0 (by omega) (by omega) (by omega) (by omega) (by omega) mq_v33_23
                · exact mq_one2 h0 (by omega) (by omega) (by omega) (by omega) (by omega) mq_v33_24
          · exact mq_one2 h0 (by omega) (by omega) (by omega) (by omega) (by omega) mq_v33_25
    · by_cases c2 : mq_rho xs 1 ≤ 2147483650
      · by_cases c3 : mq_rho xs 2 ≤ 2147483648
        · by_cases c4 : mq_rho xs 2 ≤ 2147483647
          · exact mq_one2 h0 (by omega) (by omega) (by omega) (by omega) (by omega) mq_v33_26
          · by_cases c5 : mq_rho xs 3 ≤ 2147483654
            · exact mq_one2 h0 (by omega) (by omega) (by omega) (by omega) (by omega) mq_v33_27
            · by_cases c6 : mq_rho xs 3 ≤ 2147483661
              · exact mq_one2 h0 (by omega) (by omega) (by omega) (by omega) (by omega) mq_v33_28
              · exact mq_one2 h0 (by omega) (by omega) (by omega) (by omega) (by omega) mq_v33_29
        · by_cases c4 : mq_rho xs 2 ≤ 2147483649
          · by_cases c5 : mq_rho xs 3 ≤ 2147483654
            · exact mq_one2 h0 (by omega) (by omega) (by omega) (by omega) (by omega) mq_v33_30
            · by_cases c6 : mq_rho xs 3 ≤ 2147483661
              · exact mq_one2 h0 (by omega) (by omega) (by omega) (by omega) (by omega) mq_v33_31
              · exact mq_one2 h0 (by omega) (by omega) (by omega) (by omega) (by omega) mq_v33_32
          · exact mq_one2 h0 (by omega) (by omega) (by omega) (by omega) (by omega) mq_v33_33
      · exact mq_one2 h0 (by omega) (by omega) (by omega) (by omega) (by omega) mq_v33_34
theorem mq_pq34 (xs : Nat → Int32) (h0 : mq_rho xs 63 = 34) : mq_Go 6 xs := by
  have b1 := mq_rho_bd xs 1
  have b2 := mq_rho_bd xs 2
  have b3 := mq_rho_bd xs 3
  have b4 := mq_rho_bd xs 4
  have b5 := mq_rho_bd xs 5
  exact mq_one2 h0 (by omega) (by omega) (by omega) (by omega) (by omega) mq_v34_0
theorem mq_pq35 (xs : Nat → Int32) (h0 : mq_rho xs 63 = 35) : mq_Go 6 xs := by
  have b1 := mq_rho_bd xs 1
  have b2 := mq_rho_bd xs 2
  have b3 := mq_rho_bd xs 3
  have b4 := mq_rho_bd xs 4
  have b5 := mq_rho_bd xs 5
  by_cases c0 : mq_rho xs 1 ≤ 2147483648
  · exact mq_one2 h0 (by omega) (by omega) (by omega) (by omega) (by omega) mq_v35_0
  · by_cases c1 : mq_rho xs 1 ≤ 2147483649
    · exact mq_one2 h0 (by omega) (by omega) (by omega) (by omega) (by omega) mq_v35_1
    · exact mq_one2 h0 (by omega) (by omega) (by omega) (by omega) (by omega) mq_v35_2
theorem mq_pq36 (xs : Nat → Int32) (h0 : mq_rho xs 63 = 36) : mq_Go 6 xs := by
  have b1 := mq_rho_bd xs 1
  have b2 := mq_rho_bd xs 2
  have b3 := mq_rho_bd xs 3
  have b4 := mq_rho_bd xs 4
  have b5 := mq_rho_bd xs 5
  by_cases c0 : mq_rho xs 1 ≤ 2147483650
  · by_cases c1 : mq_rho xs 1 ≤ 2147483648
    · exact mq_one2 h0 (by omega) (by omega) (by omega) (by omega) (by omega) mq_v36_0
    · by_cases c2 : mq_rho xs 1 ≤ 2147483649
      · exact mq_one2 h0 (by omega) (by omega) (by omega) (by omega) (by omega) mq_v36_1
      · exact mq_one2 h0 (by omega) (by omega) (by omega) (by omega) (by omega) mq_v36_2
  · by_cases c1 : mq_rho xs 1 ≤ 2147483651
    · exact mq_one2 h0 (by omega) (by omega) (by omega) (by omega) (by omega) mq_v36_3
    · by_cases c2 : mq_rho xs 1 ≤ 2147483652
      · exact mq_one2 h0 (by omega) (by omega) (by omega) (by omega) (by omega) mq_v36_4
      · exact mq_one2 h0 (by omega) (by omega) (by omega) (by omega) (by omega) mq_v36_5
theorem mq_pq37 (xs : Nat → Int32) (h0 : mq_rho xs 63 = 37) : mq_Go 6 xs := by
  have b1 := mq_rho_bd xs 1
  have b2 := mq_rho_bd xs 2
  have b3 := mq_rho_bd xs 3
  have b4 := mq_rho_bd xs 4
  have b5 := mq_rho_bd xs 5
  by_cases c0 : mq_rho xs 1 ≤ 2147483649
  · exact mq_one2 h0 (by omega) (by omega) (by omega) (by omega) (by omega) mq_v37_0
  · exact mq_one2 h0 (by omega) (by omega) (by omega) (by omega) (by omega) mq_v37_1
theorem mq_pq38 (xs : Nat → Int32) (h0 : mq_rho xs 63 = 38) : mq_Go 6 xs := by
  have b1 := mq_rho_bd xs 1
  have b2 := mq_rho_bd xs 2
  have b3 := mq_rho_bd xs 3
  have b4 := mq_rho_bd xs 4
  have b5 := mq_rho_bd xs 5
  exact mq_one h0 (by omega) (by omega) (by omega) (by omega) (by omega) mq_v38_0
theorem mq_pq39 (xs : Nat → Int32) (h0 : mq_rho xs 63 = 39) : mq_Go 6 xs := by
  have b1 := mq_rho_bd xs 1
  have b2 := mq_rho_bd xs 2
  have b3 := mq_rho_bd xs 3
  have b4 := mq_rho_bd xs 4
  have b5 := mq_rho_bd xs 5
  exact mq_one h0 (by omega) (by omega) (by omega) (by omega) (by omega) mq_v39_0
theorem mq_pq40 (xs : Nat → Int32) (h0 : mq_rho xs 63 = 40) : mq_Go 6 xs := by
  have b1 := mq_rho_bd xs 1
  have b2 := mq_rho_bd xs 2
  have b3 := mq_rho_bd xs 3
  have b4 := mq_rho_bd xs 4
  have b5 := mq_rho_bd xs 5
  exact mq_one h0 (by omega) (by omega) (by omega) (by omega) (by omega) mq_v40_0
theorem mq_pq41 (xs : Nat → Int32) (h0 : mq_rho xs 63 = 41) : mq_Go 6 xs := by
  have b1 := mq_rho_bd xs 1
  have b2 := mq_rho_bd xs 2
  have b3 := mq_rho_bd xs 3
  have b4 := mq_rho_bd xs 4
  have b5 := mq_rho_bd xs 5
  exact mq_one h0 (by omega) (by omega) (by omega) (by omega) (by omega) mq_v41_0
theorem mq_pq42 (xs : Nat → Int32) (h0 : mq_rho xs 63 = 42) : mq_Go 6 xs := by
  have b1 := mq_rho_bd xs 1
  have b2 := mq_rho_bd xs 2
  have b3 := mq_rho_bd xs 3
  have b4 := mq_rho_bd xs 4
  have b5 := mq_rho_bd xs 5
  exact mq_one h0 (by omega) (by omega) (by omega) (by omega) (by omega) mq_v42_0
theorem mq_pq43 (xs : Nat → Int32) (h0 : mq_rho xs 63 = 43) : mq_Go 6 xs := by
  have b1 := mq_rho_bd xs 1
  have b2 := mq_rho_bd xs 2
  have b3 := mq_rho_bd xs 3
  have b4 := mq_rho_bd xs 4
  have b5 := mq_rho_bd xs 5
  exact mq_one h0 (by omega) (by omega) (by omega) (by omega) (by omega) mq_v43_0
theorem mq_pq44 (xs : Nat → Int32) (h0 : mq_rho xs 63 = 44) : mq_Go 6 xs := by
  have b1 := mq_rho_bd xs 1
  have b2 := mq_rho_bd xs 2
  have b3 := mq_rho_bd xs 3
  have b4 := mq_rho_bd xs 4
  have b5 := mq_rho_bd xs 5
  exact mq_one h0 (by omega) (by omega) (by omega) (by omega) (by omega) mq_v44_0
theorem mq_pq45 (xs : Nat → Int32) (h0 : mq_rho xs 63 = 45) : mq_Go 6 xs := by
  have b1 := mq_rho_bd xs 1
  have b2 := mq_rho_bd xs 2
  have b3 := mq_rho_bd xs 3
  have b4 := mq_rho_bd xs 4
  have b5 := mq_rho_bd xs 5
  exact mq_one h0 (by omega) (by omega) (by omega) (by omega) (by omega) mq_v45_0
theorem mq_pq46 (xs : Nat → Int32) (h0 : mq_rho xs 63 = 46) : mq_Go 6 xs := by
  have b1 := mq_rho_bd xs 1
  have b2 := mq_rho_bd xs 2
  have b3 := mq_rho_bd xs 3
  have b4 := mq_rho_bd xs 4
  have b5 := mq_rho_bd xs 5
  exact mq_one2 h0 (by omega) (by omega) (by omega) (by omega) (by omega) mq_v46_0
theorem mq_pqD (xs : Nat → Int32) (k : Nat) (hk : k < 17) (h0 : mq_rho xs 63 = k + 47) : mq_Go 6 xs := by
  have b1 := mq_rho_bd xs 1
  have b2 := mq_rho_bd xs 2
  have b3 := mq_rho_bd xs 3
  have b4 := mq_rho_bd xs 4
  have b5 := mq_rho_bd xs 5
  have g := mq_all_of mq_vD k hk
  exact mq_one (op := 47 + k) (by omega) (by omega) (by omega) (by omega) (by omega) (by omega) g
theorem mq_pqA (xs : Nat → Int32) : mq_Go 6 xs := by
  have hop := mq_rho_63 xs
  match h : mq_rho xs 63 with
  | 0 => exact mq_pq0 xs h
  | 1 => exact mq_pq1 xs h
  | 2 => exact mq_pq2 xs h
  | 3 => exact mq_pq3 xs h
  | 4 => exact mq_pq4 xs h
  | 5 => exact mq_pq5 xs h
  | 6 => exact mq_pq6 xs h
  | 7 => exact mq_pq7 xs h
  | 8 => exact mq_pq8 xs h
  | 9 => exact mq_pq9 xs h
  | 10 => exact mq_pq10 xs h
  | 11 => exact mq_pq11 xs h
  | 12 => exact mq_pq12 xs h
  | 13 => exact mq_pq13 xs h
  | 14 => exact mq_pq14 xs h
  | 15 => exact mq_pq15 xs h
  | 16 => exact mq_pq16 xs h
  | 17 => exact mq_pq17 xs h
  | 18 => exact mq_pq18 xs h
  | 19 => exact mq_pq19 xs h
  | 20 => exact mq_pq20 xs h
  | 21 => exact mq_pq21 xs h
  | 22 => exact mq_pq22 xs h
  | 23 => exact mq_pq23 xs h
  | 24 => exact mq_pq24 xs h
  | 25 => exact mq_pq25 xs h
  | 26 => exact mq_pq26 xs h
  | 27 => exact mq_pq27 xs h
  | 28 => exact mq_pq28 xs h
  | 29 => exact mq_pq29 xs h
  | 30 => exact mq_pq30 xs h
  | 31 => exact mq_pq31 xs h
  | 32 => exact mq_pq32 xs h
  | 33 => exact mq_pq33 xs h
  | 34 => exact mq_pq34 xs h
  | 35 => exact mq_pq35 xs h
  | 36 => exact mq_pq36 xs h
  | 37 => exact mq_pq37 xs h
  | 38 => exact mq_pq38 xs h
  | 39 => exact mq_pq39 xs h
  | 40 => exact mq_pq40 xs h
  | 41 => exact mq_pq41 xs h
  | 42 => exact mq_pq42 xs h
  | 43 => exact mq_pq43 xs h
  | 44 => exact mq_pq44 xs h
  | 45 => exact mq_pq45 xs h
  | 46 => exact mq_pq46 xs h
  | k + 47 => exact mq_pqD xs k (by omega) h
theorem mq_runs {L : Nat} (hL : L ≤ 6) (xs : Nat → Int32) : mq_Go L xs := by
  match L, hL with
  | 0, _ => exact mq_law rfl (mq_tL_ok (by decide) xs) (mq_none_sat xs) mq_vL0
  | 1, _ => exact mq_law rfl (mq_tL_ok (by decide) xs) (mq_none_sat xs) mq_vL1
  | 2, _ => exact mq_law rfl (mq_tL_ok (by decide) xs) (mq_none_sat xs) mq_vL2
  | 3, _ => exact mq_law rfl (mq_tL_ok (by decide) xs) (mq_none_sat xs) mq_vL3
  | 4, _ => exact mq_law rfl (mq_tL_ok (by decide) xs) (mq_none_sat xs) mq_vL4
  | 5, _ => exact mq_law rfl (mq_tL_ok (by decide) xs) (mq_none_sat xs) mq_vL5
  | 6, _ => exact mq_pqA xs
  | k + 7, h => omega
