/-! Rests by small numbers, at once. -/
theorem mq_rsd_of {x p : Nat} (hp : 2 ≤ p) (hx : x < 18446744073709551616) : ∃ z : Int, z = ((jl (x : Nat)).toInt).tmod (p : Int) ∧ -(p : Int) < z ∧ z < p ∧ (0 ≤ z → ((mq_rsd x p : Nat) : Int) = z) ∧ (z < 0 → ((mq_rsd x p : Nat) : Int) = z + p) := by
  refine ⟨_, rfl, ?_⟩
  rw [mq_jl_toInt]
  have e : mq_o64 x = (x + 9223372036854775808) % 18446744073709551616 := rfl
  rw [e]
  unfold mq_rsd
  by_cases h : 9223372036854775808 ≤ x
  · have e1 : Nat.ble (nat_lit 9223372036854775808) x = true := Nat.ble_eq.mpr h
    rw [e1]
    have e2 : (((x + 9223372036854775808) % 18446744073709551616 : Nat) : Int) - 9223372036854775808 = -((18446744073709551616 - x : Nat) : Int) := by omega
    rw [e2, Int.neg_tmod, mq_tmod_nat]
    have e3 : (Bool.rec (motive := fun _ => Nat) (Nat.mod x p) (Nat.mod (Nat.sub p (Nat.mod (Nat.sub (nat_lit 18446744073709551616) x) p)) p) true) = (p - (18446744073709551616 - x) % p) % p := rfl
    rw [e3]
    have h1 : (18446744073709551616 - x) % p < p := Nat.mod_lt _ (by omega)
    generalize (18446744073709551616 - x) % p = r at h1 ⊢
    by_cases hr : r = 0
    · subst hr
      rw [Nat.sub_zero, Nat.mod_self]
      omega
    · rw [Nat.mod_eq_of_lt (by omega)]
      omega
  · have e1 : Nat.ble (nat_lit 9223372036854775808) x = false := by rw [← Bool.not_eq_true, Nat.ble_eq]; exact h
    rw [e1]
    have e2 : (((x + 9223372036854775808) % 18446744073709551616 : Nat) : Int) - 9223372036854775808 = (x : Int) := by omega
    rw [e2, mq_tmod_nat]
    have e3 : (Bool.rec (motive := fun _ => Nat) (Nat.mod x p) (Nat.mod (Nat.sub p (Nat.mod (Nat.sub (nat_lit 18446744073709551616) x) p)) p) false) = x % p := rfl
    rw [e3]
    have h1 : x % p < p := Nat.mod_lt _ (by omega)
    generalize x % p = r at h1 ⊢
    omega
theorem jq_rsd {D x p : Nat} {h : mj_H} (hp : 2 ≤ p) (hp2 : p ≤ 97) (hx : x < 18446744073709551616) : mj_Ok (D + 1) 172 [.long (jl (x : Nat)), .int (jn (p : Nat))] h (fun r => r = (.inl (some (.int (jn (mq_rsd x p : Nat)))), h)) := by
  obtain ⟨z, hz, z1, z2, z3, z4⟩ := mq_rsd_of hp hx
  have hv := jR_of (jl (x : Nat))
  rw [← jl_of (jl (x : Nat))]
  generalize (jl (x : Nat)).toInt = v at hz hv ⊢
  refine mj_Ok.of (M := mj_m172) rfl rfl rfl ?_
  refine mj_T.pl rfl rfl rfl rfl ?_
  refine mj_T.if0 rfl ⟨by omega, by omega⟩ (fun hc1 => ?_) (fun hc1 => ?_)
  · iterate 2 refine mj_T.pl rfl rfl rfl rfl ?_
    refine mj_T.i2l rfl ⟨by omega, by omega⟩ ?_
    refine mj_T.lrem rfl hv ⟨by omega, by omega⟩ (by omega) ?_
    rw [← hz]
    iterate 3 refine mj_T.pl rfl rfl rfl rfl ?_
    refine mj_T.lif (b := 0) rfl rfl ⟨by omega, by omega⟩ ⟨by omega, by omega⟩ (fun hc15 => ?_) (fun hc15 => ?_)
    · simp only [jc, decide_eq_true_eq] at hc15
      refine mj_T.pl rfl rfl rfl rfl ?_
      refine mj_T.l2i rfl ?_
      refine mj_T.ret rfl rfl rfl ?_
      rw [z3 (by omega)]
    · simp only [jc, decide_eq_false_iff_not] at hc15
      iterate 2 refine mj_T.pl rfl rfl rfl rfl ?_
      refine mj_T.i2l rfl ⟨by omega, by omega⟩ ?_
      refine mj_T.ladd rfl ?_
      refine mj_T.pl rfl rfl rfl rfl ?_
      refine mj_T.l2i rfl ?_
      refine mj_T.ret rfl rfl rfl ?_
      rw [z4 (by omega)]
  · simp only [jc, decide_eq_false_iff_not] at hc1
    omega
theorem mq_w172 : mq_okO 172 2 mq_o_rsd := by
  intro ρ as n t env kr kx h hl g hs hr
  obtain ⟨w, s, x, e, rfl, e1, S, g1⟩ := mq_pJ_of g hs
  obtain ⟨w2, s2, p, e2, rfl, e3, S2, g2⟩ := mq_pI_of g1 S
  have hs2 : s2 = [] := mq_len1 (by simpa using hl)
  subst hs2
  obtain ⟨q, g3⟩ := mq_cond_of g2
  unfold mq_p97 mq_x64 at q
  rw [mq_and_eq, mq_and_eq] at q
  have q1 : 2 ≤ p := Nat.ble_eq.mp q.1.1
  have q2 : p ≤ 97 := Nat.ble_eq.mp q.1.2
  have q3 : x + 1 ≤ 18446744073709551616 := Nat.ble_eq.mp q.2
  rw [List.map_cons, List.map_cons, List.map_nil, e1, e3]
  refine ((jq_rsd (D := 7) q1 q2 (by omega)).to (fun r hq => ?_))
  subst hq
  exact ⟨_, _, _, _, rfl, hr, S2, g3⟩
