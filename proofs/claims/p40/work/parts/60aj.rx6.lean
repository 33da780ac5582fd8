/-! Of the reference and of numbers (as in p1, part 78q). -/
theorem jnl_mul_ge {x y : Nat} (hx : x ≠ 0) (hy : y ≠ 0) : jnl x + jnl y ≤ jnl (x * y) + 1 := by
  obtain ⟨p, hp⟩ : ∃ p, jnl x = p + 1 := ⟨jnl x - 1, by have := jnl_eq0 (x := x); omega⟩
  obtain ⟨q, hq⟩ : ∃ q, jnl y = q + 1 := ⟨jnl y - 1, by have := jnl_eq0 (x := y); omega⟩
  have h1 : jB ^ p ≤ x := Nat.le_of_not_lt fun h => by have := jnl_le_lt.mpr h; omega
  have h2 : jB ^ q ≤ y := Nat.le_of_not_lt fun h => by have := jnl_le_lt.mpr h; omega
  have h3 : jB ^ (p + q) ≤ x * y := by rw [Nat.pow_add]; exact Nat.mul_le_mul h1 h2
  have h4 : ¬ jnl (x * y) ≤ p + q := fun h => by have := jnl_le_lt.mp h; omega
  omega
theorem jnl_mul_up (x y : Nat) : jnl (x * y) ≤ jnl x + jnl y := by
  have h1 := jnl_le_lt.mp (Nat.le_refl (jnl x))
  have h2 := jnl_le_lt.mp (Nat.le_refl (jnl y))
  refine jnl_le_lt.mpr ?_
  rw [Nat.pow_add]
  exact Nat.mul_lt_mul'' h1 h2
/-- what is carried out of place i + k, what stands there so far -/
def jmc (A X y i k : Nat) : Nat := (A % jB ^ (i + k) + X * (y % jB ^ k) * jB ^ i) / jB ^ (i + k)
def jmp (A X y i k : Nat) : Nat := A + X * (y % jB ^ k) * jB ^ i
theorem jmc_zero (A X y i : Nat) : jmc A X y i 0 = 0 := by
  unfold jmc
  rw [Nat.pow_zero, Nat.mod_one, Nat.mul_zero, Nat.zero_mul, Nat.add_zero, Nat.add_zero]
  exact Nat.div_eq_of_lt (Nat.mod_lt _ (jB_pow i))
theorem jmc_le (A X y i k : Nat) : jmc A X y i k ≤ X := by
  unfold jmc
  have h := jB_pow (i + k)
  have h1 := Nat.mod_lt A h
  have h2 : y % jB ^ k + 1 ≤ jB ^ k := Nat.mod_lt y (jB_pow k)
  have h3 : X * (y % jB ^ k) * jB ^ i ≤ X * jB ^ (i + k) := by
    rw [Nat.pow_add, Nat.mul_comm (jB ^ i), ← Nat.mul_assoc]
    exact Nat.mul_le_mul_right _ (Nat.mul_le_mul_left _ (by omega))
  have h4 : A % jB ^ (i + k) + X * (y % jB ^ k) * jB ^ i < (X + 1) * jB ^ (i + k) := by
    rw [Nat.add_mul, Nat.one_mul]
    omega
  have h5 := (Nat.div_lt_iff_lt_mul h).mpr h4
  omega
theorem jmc_step (A X y i k : Nat) : (A % jB ^ (i + k + 1) + X * (y % jB ^ (k + 1)) * jB ^ i) / jB ^ (i + k) = jlb A (i + k) + X * jlb y k + jmc A X y i k := by
  unfold jmc
  rw [jmod A (i + k), jmod y k]
  have e : jlb A (i + k) * jB ^ (i + k) + A % jB ^ (i + k) + X * (jlb y k * jB ^ k + y % jB ^ k) * jB ^ i = A % jB ^ (i + k) + X * (y % jB ^ k) * jB ^ i + jB ^ (i + k) * (jlb A (i + k) + X * jlb y k) := by
    rw [Nat.pow_add]
    simp only [Nat.mul_add, Nat.add_mul]
    have e1 : X * (jlb y k * jB ^ k) * jB ^ i = jB ^ i * jB ^ k * (X * jlb y k) := by
      simp only [Nat.mul_comm, Nat.mul_left_comm, Nat.mul_assoc]
    have e2 : jlb A (i + k) * (jB ^ i * jB ^ k) = jB ^ i * jB ^ k * jlb A (i + k) := Nat.mul_comm _ _
    rw [e1, e2]
    omega
  rw [e, Nat.add_mul_div_left _ _ (jB_pow _), Nat.add_comm]
theorem jmc_succ (A X y i k : Nat) : jmc A X y i (k + 1) = (jlb A (i + k) + X * jlb y k + jmc A X y i k) / jB := by
  rw [← jmc_step, Nat.div_div_eq_div_mul, ← Nat.pow_succ]
  rfl
theorem jmp_limb (A X y i k : Nat) : jlb (jmp A X y i (k + 1)) (i + k) = (jlb A (i + k) + X * jlb y k + jmc A X y i k) % jB := by
  rw [← jmc_step]
  unfold jlb jmp
  have e : A = A % jB ^ (i + k + 1) + jB ^ (i + k) * (jB * (A / jB ^ (i + k + 1))) := by
    have := Nat.mod_add_div A (jB ^ (i + k + 1))
    rw [← Nat.mul_assoc, ← Nat.pow_succ]
    exact this.symm
  have e2 : A + X * (y % jB ^ (k + 1)) * jB ^ i = A % jB ^ (i + k + 1) + X * (y % jB ^ (k + 1)) * jB ^ i + jB ^ (i + k) * (jB * (A / jB ^ (i + k + 1))) := by
    conv => lhs; rw [e]
    omega
  rw [e2, Nat.add_mul_div_left _ _ (jB_pow _), Nat.add_mul_mod_self_left]
theorem jlb_add_high {x z n j : Nat} (hj : j < n) : jlb (x + z * jB ^ n) j = jlb x j := by
  rw [Nat.add_comm]
  exact jlb_low hj
theorem jmp_low {A X y i k j : Nat} (hj : j < i + k) : jlb (jmp A X y i (k + 1)) j = jlb (jmp A X y i k) j := by
  have e : jmp A X y i (k + 1) = jmp A X y i k + (X * jlb y k) * jB ^ (i + k) := by
    unfold jmp
    rw [jmod y k, Nat.pow_add]
    simp only [Nat.mul_add, Nat.add_mul]
    have e1 : X * (jlb y k * jB ^ k) * jB ^ i = X * jlb y k * (jB ^ i * jB ^ k) := by
      simp only [Nat.mul_comm, Nat.mul_left_comm, Nat.mul_assoc]
    rw [e1]
    omega
  rw [e]
  exact jlb_add_high hj
/-- the row 'over' beside -/
abbrev jY (hp : mj_H) (q1 q2 : Nat) (bg : Nat → Int32) (ov : Nat → Value) : mj_H := jX (hp.set q2 (.inl (0, 1404, ov))) q1 bg
abbrev jE (hp : mj_H) (q0 q1 q2 : Nat) (fs : List Value) : Prop := jC hp q0 q1 fs ∧ fs[5]? = some (.ref q2) ∧ q2 ≠ q0 ∧ q2 ≠ q1 ∧ q2 < hp.length
section JX6
variable {D pc : Nat} {M : mj_M} {loc : mj_L} {st : List Value} {hp : mj_H} {q0 q1 q2 : Nat} {fs : List Value} {bg : Nat → Int32} {ov : Nat → Value} {Q : mj_R → Prop} {n r1 r2 r3 r4 r5 : Nat}
theorem jE_c (E : jE hp q0 q1 q2 fs) (e : mj_E) : jC (hp.set q2 e) q0 q1 fs := by
  obtain ⟨⟨c1, c2, c3, c4⟩, -, h2, h3, -⟩ := E
  exact ⟨by rw [List.getElem?_set_ne h2]; exact c1, c2, c3, by rw [List.length_set]; exact c4⟩
theorem jY_o (E : jE hp q0 q1 q2 fs) : (jY hp q1 q2 bg ov)[q2]? = some (.inl (0, 1404, ov)) := by
  obtain ⟨-, -, h2, h3, h4⟩ := E
  rw [List.getElem?_set_ne (Ne.symm h3), List.getElem?_set_self h4]
theorem jY_set (E : jE hp q0 q1 q2 fs) {ov' : Nat → Value} : (jY hp q1 q2 bg ov).set q2 (.inl (0, 1404, ov')) = jY hp q1 q2 bg ov' := by
  obtain ⟨-, -, h2, h3, h4⟩ := E
  show (((hp.set q2 _).set q1 _).set q2 _) = (hp.set q2 _).set q1 _
  rw [List.set_comm _ _ (Ne.symm h3), List.set_set]
theorem mj_T.gov (E : jE hp q0 q1 q2 fs) (hc : M.2.2.2.2.1 pc = some (.getfield n, 10, 5, r3, r4, r5)) (k : mj_T D M (pc + 3) loc (.ref q2 :: st) (jY hp q1 q2 bg ov) Q) : mj_T D M pc loc (.ref q0 :: st) (jY hp q1 q2 bg ov) Q :=
  mj_T.step hc rfl (by simp only [mj_step, jX_a (jE_c E _), E.2.1, if_true]) k
theorem mj_T.old {i : Int} {v : Value} (E : jE hp q0 q1 q2 fs) (hc : M.2.2.2.2.1 pc = some (.iaload, r1, r2, r3, r4, r5)) (hi : jr i) (h0 : 0 ≤ i ∧ i < 1404) (hv : ov i.toNat = v) (k : mj_T D M (pc + 1) loc (v :: st) (jY hp q1 q2 bg ov) Q) : mj_T D M pc loc (.int (jn i) :: .ref q2 :: st) (jY hp q1 q2 bg ov) Q :=
  mj_T.step hc rfl (by
    have h1 : mj_in (jn i) 1404 = true := by rw [jn_in hi]; exact decide_eq_true h0
    simp only [mj_step, jY_o E, h1, jn_nat h0.1 hi, true_or, true_and, if_true, hv]) k
theorem mj_T.ost {i : Int} {x : Int32} (E : jE hp q0 q1 q2 fs) (hc : M.2.2.2.2.1 pc = some (.iastore, r1, r2, r3, r4, r5)) (hi : jr i) (h0 : 0 ≤ i ∧ i < 1404) (k : mj_T D M (pc + 1) loc st (jY hp q1 q2 bg (updV ov i.toNat (.int x))) Q) : mj_T D M pc loc (.int x :: .int (jn i) :: .ref q2 :: st) (jY hp q1 q2 bg ov) Q :=
  mj_T.step hc rfl (by
    have h1 : mj_in (jn i) 1404 = true := by rw [jn_in hi]; exact decide_eq_true h0
    simp only [mj_step, jY_o E, h1, jn_nat h0.1 hi, true_and, if_true, jY_set E]) k
end JX6
section JX7
variable {D : Nat} {hp : mj_H} {q0 q1 q2 : Nat} {fs : List Value} {bg : Nat → Int32}
theorem jq_mul_zero (E : jE hp q0 q1 q2 fs) {to a b la lb : Nat} (hl : la + lb ≤ 701) {Q : mj_R → Prop}
    (hend : ∀ ov : Nat → Value, (∀ j, j ≤ la + lb → ov j = .int (jn 0)) → mj_T D mj_m189 41 [some (.ref q0), some (.int (jn to)), some (.int (jn a)), some (.int (jn b)), some (.int (jn la)), some (.int (jn lb)), some (.int (jn (la + lb + 1 : Nat))), none, none, none, none, none, none, none] [] (jY hp q1 q2 bg ov) Q) :
    ∀ (d k : Nat) (ov : Nat → Value), k + d = la + lb + 1 → (∀ j, j < k → ov j = .int (jn 0)) →
      mj_T D mj_m189 17 [some (.ref q0), some (.int (jn to)), some (.int (jn a)), some (.int (jn b)), some (.int (jn la)), some (.int (jn lb)), some (.int (jn k)), none, none, none, none, none, none, none] [] (jY hp q1 q2 bg ov) Q := by
  intro d
  induction d with
  | zero =>
    intro k ov hk h1
    have ek : k = la + lb + 1 := by omega
    subst ek
    iterate 3 refine mj_T.pl rfl rfl rfl rfl ?_
    refine mj_T.iadd rfl ?_
    refine mj_T.icmp rfl ⟨by omega, by omega⟩ ⟨by omega, by omega⟩ (fun hc => ?_) (fun hc => ?_)
    · exact hend ov (fun j hj => h1 j (by omega))
    · simp only [jc, decide_eq_false_iff_not] at hc; omega
  | succ d ih =>
    intro k ov hk h1
    iterate 3 refine mj_T.pl rfl rfl rfl rfl ?_
    refine mj_T.iadd rfl ?_
    refine mj_T.icmp rfl ⟨by omega, by omega⟩ ⟨by omega, by omega⟩ (fun hc => ?_) (fun hc => ?_)
    · simp only [jc, decide_eq_true_eq] at hc; omega
    refine mj_T.pl rfl rfl rfl rfl ?_
    refine mj_T.gov E rfl ?_
    iterate 2 refine mj_T.pl rfl rfl rfl rfl ?_
    refine mj_T.ost E rfl ⟨by omega, by omega⟩ ⟨by omega, by omega⟩ ?_
    refine mj_T.iinc (a := k) rfl rfl ?_
    refine mj_T.pl rfl rfl rfl rfl ?_
    refine ih (k + 1) _ (by omega) (fun j hj => ?_)
    unfold updV
    by_cases h : j = k
    · subst h; exact if_pos rfl
    · rw [if_neg (by omega)]; exact h1 j (by omega)
theorem jq_mul_in (E : jE hp q0 q1 q2 fs) {to a b la lb i A X y : Nat} (hb : b < 665) (hla : la + lb ≤ 701) (hi : i < la) (hX : X < 1000000000) (hlb : lb = jnl y) (hy : ∀ j, j < jnl y → bg (b * 702 + 2 + j) = jn (jlb y j)) {Q : mj_R → Prop}
    (hend : ∀ (ov : Nat → Value) (l11 l12 : Option Value), (∀ j, j < i + lb → ov j = .int (jn (jlb (jmp A X y i lb) j : Nat))) → (∀ j, i + lb ≤ j → j ≤ la + lb → ov j = .int (jn (jlb A j : Nat))) → mj_T D mj_m189 149 [some (.ref q0), some (.int (jn to)), some (.int (jn a)), some (.int (jn b)), some (.int (jn la)), some (.int (jn lb)), some (.int (jn i)), some (.long (jl (jmc A X y i lb : Nat))), none, some (.long (jl X)), none, l11, l12, none] [] (jY hp q1 q2 bg ov) Q) :
    ∀ (d k : Nat) (ov : Nat → Value) (l12 : Option Value), k + d = lb → (∀ j, j < i + k → ov j = .int (jn (jlb (jmp A X y i k) j : Nat))) → (∀ j, i + k ≤ j → j ≤ la + lb → ov j = .int (jn (jlb A j : Nat))) →
      mj_T D mj_m189 75 [some (.ref q0), some (.int (jn to)), some (.int (jn a)), some (.int (jn b)), some (.int (jn la)), some (.int (jn lb)), some (.int (jn i)), some (.long (jl (jmc A X y i k : Nat))), none, some (.long (jl X)), none, some (.int (jn k)), l12, none] [] (jY hp q1 q2 bg ov) Q := by
  intro d
  induction d with
  | zero =>
    intro k ov l12 hk h1 h2
    have ek : k = lb := by omega
    subst ek
    iterate 2 refine mj_T.pl rfl rfl rfl rfl ?_
    refine mj_T.icmp rfl ⟨by omega, by omega⟩ ⟨by omega, by omega⟩ (fun hc => ?_) (fun hc => ?_)
    · exact hend ov _ l12 h1 h2
    · simp only [jc, decide_eq_false_iff_not] at hc; omega
  | succ d ih =>
    intro k ov l12 hk h1 h2
    have c1 := jmc_le A X y i k
    have a1 := jlb_lt A (i + k)
    have y1 := jlb_lt y k
    have hs := jmc_succ A X y i k
    have hp1 := jmp_limb A X y i k
    have hm : X * jlb y k ≤ 999999999 * 999999999 := Nat.mul_le_mul (by omega) (by omega)
    have hS : ((jlb A (i + k) : Nat) : Int) + (X : Int) * ((jlb y k : Nat) : Int) + ((jmc A X y i k : Nat) : Int) = ((jlb A (i + k) + X * jlb y k + jmc A X y i k : Nat) : Int) := by
      rw [Int.natCast_add, Int.natCast_add, Int.natCast_mul]
    have hSb : jlb A (i + k) + X * jlb y k + jmc A X y i k < 4000000000000000000 := by omega
    generalize hSS : jlb A (i + k) + X * jlb y k + jmc A X y i k = S at *
    iterate 2 refine mj_T.pl rfl rfl rfl rfl ?_
    refine mj_T.icmp rfl ⟨by omega, by omega⟩ ⟨by omega, by omega⟩ (fun hc => ?_) (fun hc => ?_)
    · simp only [jc, decide_eq_true_eq] at hc; omega
    clear hc
    refine mj_T.pl rfl rfl rfl rfl ?_
    refine mj_T.gov E rfl ?_
    iterate 2 refine mj_T.pl rfl rfl rfl rfl ?_
    refine mj_T.iadd rfl ?_
    rw [show (i : Int) + (k : Int) = ((i + k : Nat) : Int) by omega]
    refine mj_T.old E rfl ⟨by omega, by omega⟩ ⟨by omega, by omega⟩ (h2 (i + k) (by omega) (by omega)) ?_
    refine mj_T.i2l rfl ⟨by omega, by omega⟩ ?_
    iterate 2 refine mj_T.pl rfl rfl rfl rfl ?_
    refine mj_T.gb (jE_c E _) rfl ?_
    iterate 2 refine mj_T.pl rfl rfl rfl rfl ?_
    refine mj_T.imul (b := 702) rfl ?_
    refine mj_T.pl rfl rfl rfl rfl ?_
    refine mj_T.iadd (b := 2) rfl ?_
    refine mj_T.pl rfl rfl rfl rfl ?_
    refine mj_T.iadd rfl ?_
    rw [show (b : Int) * 702 + 2 + (k : Int) = ((b * 702 + 2 + k : Nat) : Int) by omega]
    refine mj_T.xld (jE_c E _) rfl ⟨by omega, by omega⟩ ⟨by omega, by omega⟩ (hy k (by omega)) ?_
    refine mj_T.i2l rfl ⟨by omega, by omega⟩ ?_
    refine mj_T.lmul rfl ?_
    refine mj_T.ladd rfl ?_
    refine mj_T.pl rfl rfl rfl rfl ?_
    refine mj_T.ladd rfl ?_
    rw [hS]
    iterate 2 refine mj_T.pl rfl rfl rfl rfl ?_
    refine mj_T.gov E rfl ?_
    iterate 2 refine mj_T.pl rfl rfl rfl rfl ?_
    refine mj_T.iadd rfl ?_
    rw [show (i : Int) + (k : Int) = ((i + k : Nat) : Int) by omega]
    iterate 2 refine mj_T.pl rfl rfl rfl rfl ?_
    refine mj_T.lrem (b := 1000000000) rfl ⟨by omega, by omega⟩ ⟨by omega, by omega⟩ (by omega) ?_
    refine mj_T.l2i rfl ?_
    rw [show ((S : Nat) : Int).tmod 1000000000 = ((jlb (jmp A X y i (k + 1)) (i + k) : Nat) : Int) by rw [hp1]; rfl]
    refine mj_T.ost E rfl ⟨by omega, by omega⟩ ⟨by omega, by omega⟩ ?_
    iterate 2 refine mj_T.pl rfl rfl rfl rfl ?_
    refine mj_T.ldiv (b := 1000000000) rfl ⟨by omega, by omega⟩ ⟨by omega, by omega⟩ (by omega) ?_
    rw [show ((S : Nat) : Int).tdiv 1000000000 = ((jmc A X y i (k + 1) : Nat) : Int) by rw [hs]; rfl]
    refine mj_T.pl rfl rfl rfl rfl ?_
    refine mj_T.iinc (a := k) rfl rfl ?_
    refine mj_T.pl rfl rfl rfl rfl ?_
    refine ih (k + 1) _ _ (by omega) (fun j hj => ?_) (fun j hj hj2 => ?_)
    · unfold updV
      by_cases h : j = i + k
      · subst h; exact if_pos rfl
      · rw [if_neg (by omega), jmp_low (by omega)]; exact h1 j (by omega)
    · unfold updV
      rw [if_neg (by omega)]
      exact h2 j (by omega) hj2
end JX7

