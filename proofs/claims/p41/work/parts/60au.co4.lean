/-! Of the reference and of numbers (as in p1, part 78z). -/
section MTQ
variable {ρ : Nat → Nat} {n a o u b d d2 len len2 len3 : Nat}  {h : mj_H} 
end MTQ
section MGC
variable {D : Nat} {h : mj_H} {a b : Int64} {Q : mj_R → Prop}
theorem jc_gcd_step {x y i : Nat} {l9 l10 : Option Value} (hx : x < 9223372036854775808) (hy : y < 9223372036854775808) (hi : i < 130) (h0 : 0 < y)
    (k : mj_T D mj_m171 31 [some (.long a), none, some (.long b), none, some (.long (jl (y : Nat))), none, some (.long (jl ((x % y : Nat) : Nat))), none, some (.int (jn ((i + 1 : Nat) : Nat))), some (.long (jl ((x % y : Nat) : Nat))), none] [] h Q) :
    mj_T D mj_m171 31 [some (.long a), none, some (.long b), none, some (.long (jl (x : Nat))), none, some (.long (jl (y : Nat))), none, some (.int (jn (i : Nat))), l9, l10] [] h Q := by
  iterate 2 refine mj_T.pl rfl rfl rfl rfl ?_
  refine mj_T.icmp (a := (i : Int)) (b := 130) rfl ⟨by omega, by omega⟩ ⟨by omega, by omega⟩ (fun hc => ?_) (fun hc => ?_)
  · simp only [jc, decide_eq_true_eq] at hc; omega
  iterate 2 refine mj_T.pl rfl rfl rfl rfl ?_
  refine mj_T.lif (a := (y : Int)) (b := 0) rfl rfl ⟨by omega, by omega⟩ ⟨by omega, by omega⟩ (fun hc => ?_) (fun hc => ?_)
  · simp only [jc, decide_eq_true_eq] at hc; omega
  iterate 2 refine mj_T.pl rfl rfl rfl rfl ?_
  refine mj_T.lrem (a := (x : Int)) (b := (y : Int)) rfl ⟨by omega, by omega⟩ ⟨by omega, by omega⟩ (by omega) ?_
  rw [show (x : Int).tmod (y : Int) = ((x % y : Nat) : Int) from rfl]
  iterate 5 refine mj_T.pl rfl rfl rfl rfl ?_
  refine mj_T.iinc (a := (i : Int)) rfl rfl ?_
  refine mj_T.pl rfl rfl rfl rfl ?_
  exact k
theorem jc_gcd_end {x y i : Nat} {l9 l10 : Option Value} (hi : i ≤ 130) (h0 : y = 0) (k : Q (.inl (some (.long (jl (x : Nat)))), h)) :
    mj_T D mj_m171 31 [some (.long a), none, some (.long b), none, some (.long (jl (x : Nat))), none, some (.long (jl (y : Nat))), none, some (.int (jn (i : Nat))), l9, l10] [] h Q := by
  subst h0
  iterate 2 refine mj_T.pl rfl rfl rfl rfl ?_
  have fin : mj_T D mj_m171 67 [some (.long a), none, some (.long b), none, some (.long (jl (x : Nat))), none, some (.long (jl ((0 : Nat) : Int))), none, some (.int (jn (i : Nat))), l9, l10] [] h Q := by
    refine mj_T.pl rfl rfl rfl rfl ?_
    exact mj_T.ret rfl rfl rfl k
  refine mj_T.icmp (a := (i : Int)) (b := 130) rfl ⟨by omega, by omega⟩ ⟨by omega, by omega⟩ (fun hc => fin) (fun hc => ?_)
  iterate 2 refine mj_T.pl rfl rfl rfl rfl ?_
  refine mj_T.lif (a := ((0 : Nat) : Int)) (b := 0) rfl rfl ⟨by omega, by omega⟩ ⟨by omega, by omega⟩ (fun hc => fin) (fun hc => ?_)
  cases hc
theorem jc_half {x y : Nat} (h0 : 0 < x % y) (hy : 0 < y) : 2 * (y % (x % y)) < y := by
  have h1 := Nat.mod_lt x hy
  have h2 := Nat.mod_lt y h0
  have h3 := Nat.mod_add_div y (x % y)
  have h4 : 1 ≤ y / (x % y) := (Nat.le_div_iff_mul_le h0).mpr (by omega)
  have h5 := Nat.mul_le_mul_left (x % y) h4
  omega
theorem jc_gcd_loop {x0 y0 : Nat} (hend : ∀ g : Nat, g ∣ x0 → g ∣ y0 → 0 < g → Q (.inl (some (.long (jl (g : Nat)))), h)) : ∀ (k x y i : Nat) (l9 l10 : Option Value), y < 2 ^ k → x < 9223372036854775808 → y < 9223372036854775808 → (0 < x ∨ 0 < y) → i + 2 * k ≤ 130 → (∀ d, d ∣ x → d ∣ y → d ∣ x0 ∧ d ∣ y0) →
    mj_T D mj_m171 31 [some (.long a), none, some (.long b), none, some (.long (jl (x : Nat))), none, some (.long (jl (y : Nat))), none, some (.int (jn (i : Nat))), l9, l10] [] h Q := by
  intro k
  have stop : ∀ x y, y = 0 → (0 < x ∨ 0 < y) → (∀ d, d ∣ x → d ∣ y → d ∣ x0 ∧ d ∣ y0) → Q (.inl (some (.long (jl (x : Nat)))), h) := fun x y hy hp hd => by
    subst hy
    obtain ⟨d1, d2⟩ := hd x (Nat.dvd_refl x) (Nat.dvd_zero x)
    exact hend x d1 d2 (by omega)
  have nxt : ∀ x y, (∀ d, d ∣ x → d ∣ y → d ∣ x0 ∧ d ∣ y0) → (∀ d, d ∣ y → d ∣ x % y → d ∣ x0 ∧ d ∣ y0) := fun x y hd d h1 h2 => hd d ((Nat.dvd_mod_iff h1).mp h2) h1
  induction k with
  | zero =>
    intro x y i l9 l10 hy _ _ hp hi hd
    have hy0 : y = 0 := by omega
    exact jc_gcd_end (by omega) hy0 (stop x y hy0 hp hd)
  | succ k ih =>
    intro x y i l9 l10 hy hx hy2 hp hi hd
    rcases Nat.eq_zero_or_pos y with hy0 | hy0
    · exact jc_gcd_end (by omega) hy0 (stop x y hy0 hp hd)
    refine jc_gcd_step hx hy2 (by omega) hy0 ?_
    have h1 := Nat.mod_lt x hy0
    have hd1 := nxt x y hd
    rcases Nat.eq_zero_or_pos (x % y) with hr0 | hr0
    · exact jc_gcd_end (by omega) hr0 (stop y (x % y) hr0 (Or.inl hy0) hd1)
    refine jc_gcd_step hy2 (by omega) (by omega) hr0 ?_
    have h2 := jc_half hr0 hy0
    have h3 := Nat.mod_lt y hr0
    have hp2 : 2 ^ (k + 1) = 2 * 2 ^ k := by rw [Nat.pow_succ, Nat.mul_comm]
    exact ih _ _ _ _ _ (by omega) (by omega) (by omega) (Or.inl hr0) (by omega) (nxt y (x % y) hd1)
theorem jc_gcd {x y : Int} (hx : x.natAbs < 9223372036854775808) (hy : 0 < y) (hy2 : y < 9223372036854775808) : mj_Ok (D + 1) 171 [.long (jl x), .long (jl y)] h (fun r => ∃ g : Int, 0 < g ∧ g ∣ x ∧ g ∣ y ∧ r = (.inl (some (.long (jl g))), h)) := by
  refine mj_Ok.of (M := mj_m171) rfl rfl rfl ?_
  have loop : mj_T D mj_m171 31 [some (.long (jl x)), none, some (.long (jl y)), none, some (.long (jl (x.natAbs : Nat))), none, some (.long (jl (y.natAbs : Nat))), none, some (.int (jn ((0 : Nat) : Int))), none, none] [] h (fun r => ∃ g : Int, 0 < g ∧ g ∣ x ∧ g ∣ y ∧ r = (.inl (some (.long (jl g))), h)) := by
    refine jc_gcd_loop (x0 := x.natAbs) (y0 := y.natAbs) (fun g g1 g2 g3 => ⟨(g : Int), by omega, Int.ofNat_dvd_left.mpr g1, Int.ofNat_dvd_left.mpr g2, rfl⟩) 63 x.natAbs y.natAbs 0 none none ?_ hx (by omega) (Or.inr (by omega)) (by decide) (fun d h1 h2 => ⟨h1, h2⟩)
    show y.natAbs < 9223372036854775808
    omega
  have t14 : mj_T D mj_m171 14 [some (.long (jl x)), none, some (.long (jl y)), none, some (.long (jl (x.natAbs : Nat))), none, none, none, none, none, none] [] h (fun r => ∃ g : Int, 0 < g ∧ g ∣ x ∧ g ∣ y ∧ r = (.inl (some (.long (jl g))), h)) := by
    iterate 2 refine mj_T.pl rfl rfl rfl rfl ?_
    refine mj_T.lif (a := y) (b := 0) rfl rfl ⟨by omega, by omega⟩ ⟨by omega, by omega⟩ (fun hc => ?_) (fun hc => ?_)
    · refine mj_T.pl rfl rfl rfl rfl ?_
      rw [show y = ((y.natAbs : Nat) : Int) by omega] at loop ⊢
      iterate 3 refine mj_T.pl rfl rfl rfl rfl ?_
      exact loop
    · simp only [jc, decide_eq_false_iff_not] at hc; omega
  iterate 2 refine mj_T.pl rfl rfl rfl rfl ?_
  refine mj_T.lif (a := x) (b := 0) rfl rfl ⟨by omega, by omega⟩ ⟨by omega, by omega⟩ (fun hc => ?_) (fun hc => ?_)
  · simp only [jc, decide_eq_true_eq] at hc
    refine mj_T.pl rfl rfl rfl rfl ?_
    rw [show ((x.natAbs : Nat) : Int) = x by omega] at t14
    exact mj_T.pl rfl rfl rfl rfl t14
  · simp only [jc, decide_eq_false_iff_not] at hc
    refine mj_T.pl rfl rfl rfl rfl ?_
    refine mj_T.lneg rfl ?_
    refine mj_T.pl rfl rfl rfl rfl ?_
    rw [show -x = ((x.natAbs : Nat) : Int) by omega]
    exact mj_T.pl rfl rfl rfl rfl t14
end MGC

