/-! The law's script as symbols. -/
/-- a long's rank among -(10^18 - 1), 0 and 10^18 - 1 -/
def mq_rank (z : Int) : Nat := if z < -999999999999999999 then 0 else if z ≤ -999999999999999999 then 1 else if z < 0 then 2 else if z ≤ 0 then 3 else if z < 999999999999999999 then 4 else if z ≤ 999999999999999999 then 5 else 6
theorem mq_rank_ok (z : Int) : mq_Rk (mq_rank z) z := by
  unfold mq_Rk mq_rank
  refine ⟨?_, ?_, ?_, ?_, ?_, ?_⟩ <;> (repeat' split) <;> omega
theorem mq_rank_le (z : Int) : mq_rank z ≤ 6 := by
  unfold mq_rank
  (repeat' split) <;> omega
/-- what a script's ints are as symbols -/
def mq_rh0 (xs : Nat → Int32) (i : Nat) : Nat := if i < 6 then ((xs i).toInt + 2147483648).toNat else 0
def mq_up31 (x : Int32) : Nat := (x.toInt + 2147483648).toNat
def mq_ord (a b : Nat) : Nat := if a < b then 0 else if a ≤ b then 1 else 2
def mq_rho (xs : Nat → Int32) (i : Nat) : Nat := if i < 6 then ((xs i).toInt + 2147483648).toNat else if i = 62 then mq_rank (((xs 3).toInt64 <<< ((jn 32).toInt64 &&& 63)) ||| ((xs 4).toInt64 &&& jl 4294967295)).toInt else if i = 63 then (xs 0 &&& jn 63).toInt.toNat else
  if i = 6 then mq_up31 (xs 2 * xs 5) else if i = 7 then mq_up31 (xs 4 * xs 3) else if i = 8 then mq_up31 (xs 3 * xs 5) else if i = 9 then mq_ord (mq_up31 (xs 2 * xs 5)) (mq_up31 (xs 4 * xs 3)) else
  if i = 10 then 2147483648 + (mq_nby (xs 1) + mq_nby (xs 2) + mq_nby (xs 3) + mq_nby (xs 4) + mq_nby (xs 5)) else
  if i = 11 then (if mq_rh0 xs 1 = mq_rh0 xs 2 then 0 else 1) else
  match mq_tabl.find? (fun e => e.1 == i) with
  | some e => (jsg (mq_pv (mq_rh0 xs) e.2) + 1).toNat
  | none => 0
theorem mq_up31_ok (x : Int32) : ((mq_up31 x : Nat) : Int) - 2147483648 = x.toInt ∧ mq_up31 x < 4294967296 := by
  have h1 := jr_of x
  have := h1.1
  have := h1.2
  unfold mq_up31
  omega
theorem mq_pv_eq {ρ ρ' : Nat → Nat} (h : ∀ i, i < 6 → ρ i = ρ' i) : ∀ l : mq_Pl, mq_pv ρ l = mq_pv ρ' l
  | [] => rfl
  | t :: l => by
    have hx : ∀ i, i < 6 → mq_xi ρ i = mq_xi ρ' i := fun i hi => by unfold mq_xi; rw [h i hi]
    show ((t.2.1 : Int) - t.2.2) * mq_mono ρ t.1 + mq_pv ρ l = ((t.2.1 : Int) - t.2.2) * mq_mono ρ' t.1 + mq_pv ρ' l
    rw [mq_pv_eq h l]
    unfold mq_mono
    rw [hx 2 (by decide), hx 3 (by decide), hx 4 (by decide), hx 5 (by decide)]
theorem mq_nby_le (x : Int32) : mq_nby x ≤ 4 := by
  unfold mq_nby
  have h : ∀ k, (if mq_byt x k = 0 then 0 else 1) ≤ 1 := fun k => by split <;> decide
  have := h 3
  have := h 2
  have := h 1
  have := h 0
  omega
theorem mq_rho_lt {xs : Nat → Int32} {i : Nat} (hi : i < 6) : ((mq_rho xs i : Nat) : Int) - 2147483648 = (xs i).toInt := by
  unfold mq_rho
  rw [if_pos hi]
  have h1 := Int32.le_toInt (xs i)
  have e : (Int32.minValue).toInt = -2147483648 := by decide
  omega
theorem mq_and63 (x : Int32) : 0 ≤ (x &&& jn 63).toInt ∧ (x &&& jn 63).toInt < 64 := by
  have h : x &&& jn 63 = jn (((x.toBitVec.toNat &&& 63 : Nat)) : Int) := by
    apply Int32.toBitVec_inj.mp
    rw [Int32.toBitVec_and, mq_jn_bits]
    apply BitVec.eq_of_toNat_eq
    rw [BitVec.toNat_and, BitVec.toNat_ofNat]
    have h1 : x.toBitVec.toNat &&& 63 ≤ 63 := Nat.and_le_right
    have e : (jn 63).toBitVec.toNat = 63 := by decide
    rw [e, Nat.mod_eq_of_lt (by omega)]
  have h1 : x.toBitVec.toNat &&& 63 ≤ 63 := Nat.and_le_right
  rw [h, jn_toInt ⟨by omega, by omega⟩]
  omega
theorem mq_rho_63 (xs : Nat → Int32) : mq_rho xs 63 < 64 := by
  have := mq_and63 (xs 0)
  unfold mq_rho
  rw [if_neg (by decide), if_neg (by decide), if_pos rfl]
  omega
theorem mq_sx_lt {xs : Nat → Int32} {i : Nat} (hi : i < 6) : mq_sx (mq_rho xs) i = xs i := by
  show jn ((mq_rho xs i : Int) - 2147483648) = xs i
  rw [mq_rho_lt hi, jn_of]
theorem mq_rho_vq (xs : Nat → Int32) : mq_Vq (mq_rho xs) := by
  have e6 : mq_rho xs 6 = mq_up31 (xs 2 * xs 5) := rfl
  have e7 : mq_rho xs 7 = mq_up31 (xs 4 * xs 3) := rfl
  have e8 : mq_rho xs 8 = mq_up31 (xs 3 * xs 5) := rfl
  have e9 : mq_rho xs 9 = mq_ord (mq_up31 (xs 2 * xs 5)) (mq_up31 (xs 4 * xs 3)) := rfl
  have up : ∀ (k : Nat) (x : Int32), mq_rho xs k = mq_up31 x → mq_sx (mq_rho xs) k = x := fun k x e => by
    show jn ((mq_rho xs k : Int) - 2147483648) = x
    rw [e, (mq_up31_ok x).1, jn_of]
  have e11 : mq_rho xs 11 = if mq_rh0 xs 1 = mq_rh0 xs 2 then 0 else 1 := rfl
  have r1 : mq_rho xs 1 = mq_rh0 xs 1 := rfl
  have r2 : mq_rho xs 2 = mq_rh0 xs 2 := rfl
  refine ⟨fun e he => ?_, ?_, ?_, ?_, ?_, ?_, ?_, ?_⟩
  · have hq : mq_pv (mq_rho xs) e.2 = mq_pv (mq_rh0 xs) e.2 := mq_pv_eq (fun i hi => by unfold mq_rho mq_rh0; rw [if_pos hi, if_pos hi]) e.2
    have hf : mq_rho xs e.1 = (jsg (mq_pv (mq_rh0 xs) e.2) + 1).toNat := by
      simp only [mq_tabl, List.mem_cons, List.not_mem_nil, or_false] at he
      rcases he with q | q | q | q | q | q | q | q | q | q | q | q <;> subst q <;> rfl
    have := jsg_range (mq_pv (mq_rh0 xs) e.2)
    rw [hf, hq]
    omega
  · rw [up 6 _ e6, mq_sx_lt (by decide), mq_sx_lt (by decide)]
  · rw [up 7 _ e7, mq_sx_lt (by decide), mq_sx_lt (by decide)]
  · rw [up 8 _ e8, mq_sx_lt (by decide), mq_sx_lt (by decide)]
  · rw [e6, e7, e9]
    unfold mq_ord
    (repeat' split) <;> omega
  · rw [e6, e7, e9]
    unfold mq_ord
    (repeat' split) <;> omega
  · rw [mq_sx_lt (by decide), mq_sx_lt (by decide), mq_sx_lt (by decide), mq_sx_lt (by decide), mq_sx_lt (by decide)]
    rfl
  · rw [e11, r1, r2]
    split <;> omega
theorem mq_rho_bd (xs : Nat → Int32) (i : Nat) : mq_rho xs i < 4294967296 := by
  by_cases hi : i < 6
  · have h1 := mq_rho_lt (xs := xs) hi
    have h2 := jr_of (xs i)
    have := h2.2
    omega
  · by_cases h62 : i = 62
    · subst h62
      have : mq_rho xs 62 = mq_rank (((xs 3).toInt64 <<< ((jn 32).toInt64 &&& 63)) ||| ((xs 4).toInt64 &&& jl 4294967295)).toInt := rfl
      have := mq_rank_le (((xs 3).toInt64 <<< ((jn 32).toInt64 &&& 63)) ||| ((xs 4).toInt64 &&& jl 4294967295)).toInt
      omega
    · by_cases h63 : i = 63
      · subst h63
        have := mq_rho_63 xs
        omega
      · unfold mq_rho
        rw [if_neg hi, if_neg h62, if_neg h63]
        split
        · exact (mq_up31_ok _).2
        split
        · exact (mq_up31_ok _).2
        split
        · exact (mq_up31_ok _).2
        split
        · unfold mq_ord
          (repeat' split) <;> decide
        split
        · have := mq_nby_le (xs 1)
          have := mq_nby_le (xs 2)
          have := mq_nby_le (xs 3)
          have := mq_nby_le (xs 4)
          have := mq_nby_le (xs 5)
          omega
        split
        · split <;> decide
        split
        · rename_i e _
          have := jsg_range (mq_pv (mq_rh0 xs) e.2)
          omega
        · decide
theorem mq_rho_sat {xs : Nat → Int32} {env : mq_V} (h : ∀ i lo hi, mq_bd env i = (lo, hi) → lo ≤ mq_rho xs i ∧ mq_rho xs i ≤ hi) : mq_Sat (mq_rho xs) env := by
  have h3 : jl ((mq_rho xs 3 : Int) - 2147483648) = (xs 3).toInt64 := by
    rw [mq_rho_lt (by decide)]
    apply Int64.toInt_inj.mp
    have h1 := jr_of (xs 3)
    rw [Int32.toInt_toInt64, jl_toInt ⟨by have := h1.1; omega, by have := h1.2; omega⟩]
  have h4 : jl ((mq_rho xs 4 : Int) - 2147483648) = (xs 4).toInt64 := by
    rw [mq_rho_lt (by decide)]
    apply Int64.toInt_inj.mp
    have h1 := jr_of (xs 4)
    rw [Int32.toInt_toInt64, jl_toInt ⟨by have := h1.1; omega, by have := h1.2; omega⟩]
  refine ⟨mq_rho_bd xs, ⟨?_, mq_rho_vq xs⟩, ?_, h⟩
  · rw [h3, h4]
    exact mq_rank_ok _
  · rw [mq_rho_lt (by decide)]
    have e : mq_rho xs 63 = (xs 0 &&& jn 63).toInt.toNat := rfl
    have h5 := mq_and63 (xs 0)
    rw [e, jn_of]
    have e2 : (((xs 0 &&& jn 63).toInt.toNat : Nat) : Int) = (xs 0 &&& jn 63).toInt := by omega
    rw [e2, jn_of]
/-- the script's cell -/
noncomputable def mq_ta : mq_T mq_W := .branch 4 (.branch 2 (.branch 1 (.leaf (.inr (.inr (.inr (.inl (0, 1, 0)))))) (.leaf (.inr (.inr (.inr (.inl (1, 1, 0))))))) (.branch 3 (.leaf (.inr (.inr (.inr (.inl (2, 1, 0)))))) (.leaf (.inr (.inr (.inr (.inl (3, 1, 0)))))))) (.branch 6 (.branch 5 (.leaf (.inr (.inr (.inr (.inl (4, 1, 0)))))) (.leaf (.inr (.inr (.inr (.inl (5, 1, 0))))))) (.leaf mq_U))
noncomputable def mq_t6 : mq_Ht := ([(0, some (.inl (100, 6, 3, mq_ta)))], .leaf none)
theorem mq_t6_ok (xs : Nat → Int32) : mq_Hr (mq_rho xs) 1 mq_t6 [.inl (100, 6, fun j => .int (xs j))] := by
  refine ⟨rfl, by decide, ⟨⟨by decide, mq_wf_l _ _ _⟩, fun q hq => ?_⟩, fun a ha => ?_, by show 6 + 0 ≤ 6000 * 1 + 0; omega⟩
  · rcases List.mem_cons.mp hq with e | e
    · rw [e]; show 0 < 1024; omega
    · cases e
  · by_cases h0 : a = 0
    · subst h0
      refine Or.inr ⟨trivial, _, rfl, fun j => .int (xs j), rfl, ⟨⟨by decide, ?_⟩, by decide⟩, fun i hi _ => ?_⟩
      · exact ⟨rfl, ⟨rfl, ⟨rfl, trivial, trivial⟩, ⟨rfl, trivial, trivial⟩⟩, ⟨rfl, ⟨rfl, trivial, trivial⟩, trivial⟩⟩
      · have key : ∀ k, k < 6 → Value.int (xs k) = .int (jn (((mq_rho xs k : Int) - 2147483648) * ((1 : Nat) : Int) + ((0 : Nat) : Int))) := fun k hk => by
          have e : ((mq_rho xs k : Int) - 2147483648) * ((1 : Nat) : Int) + ((0 : Nat) : Int) = (mq_rho xs k : Int) - 2147483648 := by omega
          rw [e, mq_rho_lt hk, jn_of]
        have hi : i < 6 := hi
        match i, hi with
        | 0, _ => exact key 0 (by decide)
        | 1, _ => exact key 1 (by decide)
        | 2, _ => exact key 2 (by decide)
        | 3, _ => exact key 3 (by decide)
        | 4, _ => exact key 4 (by decide)
        | 5, _ => exact key 5 (by decide)
    · left
      show mq_fget [(0, some (.inl (100, 6, 3, mq_ta)))] a (.leaf none) = none
      rw [mq_fget_cons, if_neg h0]
      rfl
/-- a shorter script's cell: nothing is said of it -/
noncomputable def mq_tL (L : Nat) : mq_Ht := ([(0, some (.inl (100, L, 3, .leaf mq_U)))], .leaf none)
theorem mq_tL_ok {L : Nat} (hL : L < 6) (xs : Nat → Int32) : mq_Hr (mq_rho xs) 1 (mq_tL L) [.inl (100, L, fun j => .int (xs j))] := by
  refine ⟨rfl, by decide, ⟨⟨by decide, mq_wf_l _ _ _⟩, fun q hq => ?_⟩, fun a ha => ?_, by show L + 0 ≤ 6000 * 1 + 0; omega⟩
  · rcases List.mem_cons.mp hq with e | e
    · rw [e]; show 0 < 1024; omega
    · cases e
  · by_cases h0 : a = 0
    · subst h0
      exact Or.inr ⟨trivial, _, rfl, fun j => .int (xs j), rfl, ⟨mq_wl.leaf (by omega) _, by omega⟩, fun i hi hk => by rw [mq_get_l] at hk; cases hk⟩
    · left
      show mq_fget [(0, some (.inl (100, L, 3, .leaf mq_U)))] a (.leaf none) = none
      rw [mq_fget_cons, if_neg h0]
      rfl
