/-! What the class does with rows and numbers alone, exactly. -/
/-- rounds of Euclid: the product halves -/
theorem euc_step {a b k : Nat} (hb : 0 < b) (hab : b ≤ a) (hk : a * b < 2 ^ (k + 1)) : a % b ≤ b ∧ b * (a % b) < 2 ^ k := by
  have h1 := Nat.mod_lt a hb
  refine ⟨by omega, ?_⟩
  have h2 : 2 * (a % b) ≤ a := by
    have h3 := Nat.div_add_mod a b
    have h4 : 1 ≤ a / b := (Nat.le_div_iff_mul_le hb).mpr (by omega)
    have h5 : b ≤ b * (a / b) := Nat.le_mul_of_pos_right _ h4
    omega
  have h6 : b * (2 * (a % b)) ≤ b * a := Nat.mul_le_mul_left _ h2
  rw [Nat.mul_left_comm, Nat.mul_comm b a] at h6
  rw [Nat.pow_succ] at hk
  omega
section MST
variable {g h : mj_H} {n D r : Nat} {V : Nat → Int} {X : Nat → Nat → Int}
theorem mS_cm_loop {p q : Int} {gg : Nat} {Q : mj_R → Prop} (hend : Q (.inl (some (.long (jl (gg : Int)))), h)) : ∀ (k a b i : Nat) (w4 w5 : Option Value), Nat.gcd a b = gg → a < 9223372036854775808 → b < 9223372036854775808 → b ≤ a → a * b < 2 ^ k → i + k ≤ 129 → mj_T D mj_m171 31 [some (.long (jl p)), none, some (.long (jl q)), none, some (.long (jl (a : Int))), none, some (.long (jl (b : Int))), none, some (.int (jn (i : Int))), w4, w5] [] h Q
  | 0, a, b, i, w4, w5, hg, ha, hb, hba, hk, hi => by
    have hb0 : b = 0 := by
      rcases Nat.eq_zero_or_pos b with q | q
      · exact q
      · have := Nat.mul_le_mul (show 1 ≤ a by omega) (show 1 ≤ b from q)
        rw [Nat.pow_zero] at hk
        omega
    subst hb0
    iterate 2 refine mj_T.pl rfl rfl rfl rfl ?_
    refine mj_T.icmp (a := ((i : Nat) : Int)) (b := 130) rfl ⟨by omega, by omega⟩ ⟨by omega, by omega⟩ (fun c1 => ?_) (fun c1 => ?_)
    · exfalso
      simp only [jc, Bool.not_eq_true', Bool.not_eq_false', decide_eq_true_eq, decide_eq_false_iff_not] at c1
      omega
    · simp only [jc, Bool.not_eq_true', Bool.not_eq_false', decide_eq_true_eq, decide_eq_false_iff_not] at c1
      refine mj_T.pl rfl rfl rfl rfl ?_
      refine jT.lc 0 rfl rfl ?_
      refine mj_T.lif (a := ((0 : Nat) : Int)) (b := ((0 : Nat) : Int)) rfl rfl ⟨by omega, by omega⟩ jR_0 (fun c2 => ?_) (fun c2 => ?_)
      · simp only [jc, Bool.not_eq_true', Bool.not_eq_false', decide_eq_true_eq, decide_eq_false_iff_not] at c2
        refine mj_T.pl rfl rfl rfl rfl ?_
        refine mj_T.ret rfl rfl rfl ?_
        rw [Nat.gcd_zero_right] at hg
        rw [hg]
        exact hend
      · exfalso
        simp [jc] at c2
  | k + 1, a, b, i, w4, w5, hg, ha, hb, hba, hk, hi => by
    iterate 2 refine mj_T.pl rfl rfl rfl rfl ?_
    refine mj_T.icmp (a := ((i : Nat) : Int)) (b := 130) rfl ⟨by omega, by omega⟩ ⟨by omega, by omega⟩ (fun c1 => ?_) (fun c1 => ?_)
    · exfalso
      simp only [jc, Bool.not_eq_true', Bool.not_eq_false', decide_eq_true_eq, decide_eq_false_iff_not] at c1
      omega
    · simp only [jc, Bool.not_eq_true', Bool.not_eq_false', decide_eq_true_eq, decide_eq_false_iff_not] at c1
      refine mj_T.pl rfl rfl rfl rfl ?_
      refine jT.lc 0 rfl rfl ?_
      refine mj_T.lif (a := (b : Int)) (b := ((0 : Nat) : Int)) rfl rfl ⟨by omega, by omega⟩ jR_0 (fun c2 => ?_) (fun c2 => ?_)
      · simp only [jc, Bool.not_eq_true', Bool.not_eq_false', decide_eq_true_eq, decide_eq_false_iff_not] at c2
        refine mj_T.pl rfl rfl rfl rfl ?_
        refine mj_T.ret rfl rfl rfl ?_
        rw [show b = 0 by omega, Nat.gcd_zero_right] at hg
        rw [hg]
        exact hend
      · simp only [jc, Bool.not_eq_true', Bool.not_eq_false', decide_eq_true_eq, decide_eq_false_iff_not] at c2
        have hb0 : 0 < b := by omega
        have he := euc_step hb0 hba hk
        iterate 2 refine mj_T.pl rfl rfl rfl rfl ?_
        refine mj_T.lrem (a := (a : Int)) (b := (b : Int)) rfl ⟨by omega, by omega⟩ ⟨by omega, by omega⟩ (by omega) ?_
        rw [show (a : Int).tmod (b : Int) = ((a % b : Nat) : Int) from (Int.ofNat_tmod a b).symm]
        refine mj_T.pl (loc' := [some (.long (jl p)), none, some (.long (jl q)), none, some (.long (jl (a : Int))), none, some (.long (jl (b : Int))), none, some (.int (jn ((i : Nat) : Int))), some (.long (jl ((a % b : Nat) : Int))), none]) rfl rfl rfl rfl ?_
        refine mj_T.pl rfl rfl rfl rfl ?_
        refine mj_T.pl (loc' := [some (.long (jl p)), none, some (.long (jl q)), none, some (.long (jl (b : Int))), none, some (.long (jl (b : Int))), none, some (.int (jn ((i : Nat) : Int))), some (.long (jl ((a % b : Nat) : Int))), none]) rfl rfl rfl rfl ?_
        refine mj_T.pl rfl rfl rfl rfl ?_
        refine mj_T.pl (loc' := [some (.long (jl p)), none, some (.long (jl q)), none, some (.long (jl (b : Int))), none, some (.long (jl ((a % b : Nat) : Int))), none, some (.int (jn ((i : Nat) : Int))), some (.long (jl ((a % b : Nat) : Int))), none]) rfl rfl rfl rfl ?_
        refine mj_T.iinc rfl rfl ?_
        rw [show ((i : Nat) : Int) + 1 = ((i + 1 : Nat) : Int) by omega]
        refine mj_T.eq (loc2 := [some (.long (jl p)), none, some (.long (jl q)), none, some (.long (jl (b : Int))), none, some (.long (jl ((a % b : Nat) : Int))), none, some (.int (jn (((i + 1) : Nat) : Int))), some (.long (jl ((a % b : Nat) : Int))), none]) ?_ rfl rfl rfl rfl
        refine mj_T.pl rfl rfl rfl rfl ?_
        refine mS_cm_loop hend k b (a % b) (i + 1) _ _ (by rw [← hg, Nat.gcd_comm a b, Nat.gcd_rec b a]; exact Nat.gcd_comm _ _) (by omega) (by have := Nat.mod_lt a hb0; omega) he.1 he.2 (by omega)
end MST
