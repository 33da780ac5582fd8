/-! The law's script as symbols. -/
/-- a long's rank among -(10^18 - 1), 0 and 10^18 - 1 -/
def mq_rank (z : Int) : Nat := if z < -999999999999999999 then 0 else if z ≤ -999999999999999999 then 1 else if z < 0 then 2 else if z ≤ 0 then 3 else if z < 999999999999999999 then 4 else if z ≤ 999999999999999999 then 5 else 6
theorem mq_rank_ok (z : Int) : mq_Rk (mq_rank z) z := by
  unfold mq_Rk mq_rank
  refine ⟨?_, ?_, ?_, ?_, ?_, ?_⟩ <;> (repeat' split) <;> omega
theorem mq_rank_le (z : Int) : mq_rank z ≤ 6 := by
  unfold mq_rank
  (repeat' split) <;> omega
/-- what a script's ints are as symbols -/
def mq_rho (xs : Nat → Int32) (i : Nat) : Nat := if i < 6 then ((xs i).toInt + 2147483648).toNat else if i = 62 then mq_rank (((xs 3).toInt64 <<< ((jn 32).toInt64 &&& 63)) ||| ((xs 4).toInt64 &&& jl 4294967295)).toInt else if i = 63 then (xs 0 &&& jn 63).toInt.toNat else 0
theorem mq_rho_lt {xs : Nat → Int32} {i : Nat} (hi : i < 6) : ((mq_rho xs i : Nat) : Int) - 2147483648 = (xs i).toInt := by
  unfold mq_rho
  rw [if_pos hi]
  have h1 := Int32.le_toInt (xs i)
  have e : (Int32.minValue).toInt = -2147483648 := by decide
  omega
theorem mq_and63 (x : Int32) : 0 ≤ (x &&& jn 63).toInt ∧ (x &&& jn 63).toInt < 64 := by
  have h : x &&& jn 63 = jn (((x.toBitVec.toNat &&& 63 : Nat)) : Int) := by
    apply Int32.toBitVec_inj.mp
    rw [Int32.toBitVec_and, mq_jn_bits]
    apply BitVec.eq_of_toNat_eq
    rw [BitVec.toNat_and, BitVec.toNat_ofNat]
    have h1 : x.toBitVec.toNat &&& 63 ≤ 63 := Nat.and_le_right
    have e : (jn 63).toBitVec.toNat = 63 := by decide
    rw [e, Nat.mod_eq_of_lt (by omega)]
  have h1 : x.toBitVec.toNat &&& 63 ≤ 63 := Nat.and_le_right
  rw [h, jn_toInt ⟨by omega, by omega⟩]
  omega
theorem mq_rho_63 (xs : Nat → Int32) : mq_rho xs 63 < 64 := by
  have := mq_and63 (xs 0)
  unfold mq_rho
  rw [if_neg (by decide), if_neg (by decide), if_pos rfl]
  omega
theorem mq_rho_sat {xs : Nat → Int32} {env : mq_V} (h : ∀ i lo hi, mq_bd env i = (lo, hi) → lo ≤ mq_rho xs i ∧ mq_rho xs i ≤ hi) : mq_Sat (mq_rho xs) env := by
  have h3 : jl ((mq_rho xs 3 : Int) - 2147483648) = (xs 3).toInt64 := by
    rw [mq_rho_lt (by decide)]
    apply Int64.toInt_inj.mp
    have h1 := jr_of (xs 3)
    rw [Int32.toInt_toInt64, jl_toInt ⟨by have := h1.1; omega, by have := h1.2; omega⟩]
  have h4 : jl ((mq_rho xs 4 : Int) - 2147483648) = (xs 4).toInt64 := by
    rw [mq_rho_lt (by decide)]
    apply Int64.toInt_inj.mp
    have h1 := jr_of (xs 4)
    rw [Int32.toInt_toInt64, jl_toInt ⟨by have := h1.1; omega, by have := h1.2; omega⟩]
  refine ⟨fun i => ?_, ?_, ?_, h⟩
  · by_cases hi : i < 6
    · have h1 := mq_rho_lt (xs := xs) hi
      have h2 := jr_of (xs i)
      have := h2.2
      omega
    · by_cases h62 : i = 62
      · subst h62
        have : mq_rho xs 62 = mq_rank (((xs 3).toInt64 <<< ((jn 32).toInt64 &&& 63)) ||| ((xs 4).toInt64 &&& jl 4294967295)).toInt := rfl
        have := mq_rank_le (((xs 3).toInt64 <<< ((jn 32).toInt64 &&& 63)) ||| ((xs 4).toInt64 &&& jl 4294967295)).toInt
        omega
      · by_cases h63 : i = 63
        · subst h63
          have := mq_rho_63 xs
          omega
        · unfold mq_rho
          rw [if_neg hi, if_neg h62, if_neg h63]
          decide
  · rw [h3, h4]
    exact mq_rank_ok _
  · rw [mq_rho_lt (by decide)]
    have e : mq_rho xs 63 = (xs 0 &&& jn 63).toInt.toNat := rfl
    have h5 := mq_and63 (xs 0)
    rw [e, jn_of]
    have e2 : (((xs 0 &&& jn 63).toInt.toNat : Nat) : Int) = (xs 0 &&& jn 63).toInt := by omega
    rw [e2, jn_of]
/-- the script's cell -/
noncomputable def mq_ta : mq_T mq_W := .branch 4 (.branch 2 (.branch 1 (.leaf (.inr (.inr (.inr (.inl (0, 1, 0)))))) (.leaf (.inr (.inr (.inr (.inl (1, 1, 0))))))) (.branch 3 (.leaf (.inr (.inr (.inr (.inl (2, 1, 0)))))) (.leaf (.inr (.inr (.inr (.inl (3, 1, 0)))))))) (.branch 6 (.branch 5 (.leaf (.inr (.inr (.inr (.inl (4, 1, 0)))))) (.leaf (.inr (.inr (.inr (.inl (5, 1, 0))))))) (.leaf mq_U))
noncomputable def mq_t6 : mq_Ht := ([(0, some (.inl (100, 6, 3, mq_ta)))], .leaf none)
theorem mq_t6_ok (xs : Nat → Int32) : mq_Hr (mq_rho xs) 1 mq_t6 [.inl (100, 6, fun j => .int (xs j))] := by
  refine ⟨rfl, by decide, ⟨⟨by decide, mq_wf_l _ _ _⟩, fun q hq => ?_⟩, fun a ha => ?_, by show 6 + 0 ≤ 6000 * 1 + 0; omega⟩
  · rcases List.mem_cons.mp hq with e | e
    · rw [e]; show 0 < 1024; omega
    · cases e
  · by_cases h0 : a = 0
    · subst h0
      refine Or.inr ⟨trivial, _, rfl, fun j => .int (xs j), rfl, ⟨⟨by decide, ?_⟩, by decide⟩, fun i hi _ => ?_⟩
      · exact ⟨rfl, ⟨rfl, ⟨rfl, trivial, trivial⟩, ⟨rfl, trivial, trivial⟩⟩, ⟨rfl, ⟨rfl, trivial, trivial⟩, trivial⟩⟩
      · have key : ∀ k, k < 6 → Value.int (xs k) = .int (jn (((mq_rho xs k : Int) - 2147483648) * ((1 : Nat) : Int) + ((0 : Nat) : Int))) := fun k hk => by
          have e : ((mq_rho xs k : Int) - 2147483648) * ((1 : Nat) : Int) + ((0 : Nat) : Int) = (mq_rho xs k : Int) - 2147483648 := by omega
          rw [e, mq_rho_lt hk, jn_of]
        have hi : i < 6 := hi
        match i, hi with
        | 0, _ => exact key 0 (by decide)
        | 1, _ => exact key 1 (by decide)
        | 2, _ => exact key 2 (by decide)
        | 3, _ => exact key 3 (by decide)
        | 4, _ => exact key 4 (by decide)
        | 5, _ => exact key 5 (by decide)
    · left
      show mq_fget [(0, some (.inl (100, 6, 3, mq_ta)))] a (.leaf none) = none
      rw [mq_fget_cons, if_neg h0]
      rfl
/-- a shorter script's cell: nothing is said of it -/
noncomputable def mq_tL (L : Nat) : mq_Ht := ([(0, some (.inl (100, L, 3, .leaf mq_U)))], .leaf none)
theorem mq_tL_ok {L : Nat} (hL : L < 6) (xs : Nat → Int32) : mq_Hr (mq_rho xs) 1 (mq_tL L) [.inl (100, L, fun j => .int (xs j))] := by
  refine ⟨rfl, by decide, ⟨⟨by decide, mq_wf_l _ _ _⟩, fun q hq => ?_⟩, fun a ha => ?_, by show L + 0 ≤ 6000 * 1 + 0; omega⟩
  · rcases List.mem_cons.mp hq with e | e
    · rw [e]; show 0 < 1024; omega
    · cases e
  · by_cases h0 : a = 0
    · subst h0
      exact Or.inr ⟨trivial, _, rfl, fun j => .int (xs j), rfl, ⟨mq_wl.leaf (by omega) _, by omega⟩, fun i hi hk => by rw [mq_get_l] at hk; cases hk⟩
    · left
      show mq_fget [(0, some (.inl (100, L, 3, .leaf mq_U)))] a (.leaf none) = none
      rw [mq_fget_cons, if_neg h0]
      rfl
