/-! The class's numbers, at once. -/
theorem mq_len1 {as : List mq_W} (h : as.length = 0) : as = [] := List.length_eq_zero_iff.mp h
/-- a contract of a number's two cells, where they lie -/
theorem mq_at2 {D j : Nat} {as : List Value} {K : mj_H} {Q : mj_R → Prop} {h : mj_H} {a b : Nat} {e0 e1 : mj_E} (c : mj_Ok D j as [e0, e1] Q) (hab : a ≠ b) (h0 : h[a]? = some (mj_rE (jrho [a, b] h.length) e0)) (h1 : h[b]? = some (mj_rE (jrho [a, b] h.length) e1)) (hK : ∀ r, Q r → r.2.length = 2) :
    mj_Ok D j (as.map (mj_rn (jrho [a, b] h.length))) h (fun r => ∃ r0 K', Q (r0, K') ∧ r = (mj_rR (jrho [a, b] h.length) r0, jlay (mj_rE (jrho [a, b] h.length)) [a, b] K' h)) := by
  have ha := (List.getElem?_eq_some_iff.mp h0).1
  have hb := (List.getElem?_eq_some_iff.mp h1).1
  refine c.at [a, b] rfl (by simp [hab]) (fun p hp => ?_) (fun i p e hi he => ?_) hK
  · rcases List.mem_cons.mp hp with q | q
    · omega
    · have : p = b := by simpa using q
      omega
  · match i, hi, he with
    | 0, hi, he => cases hi; cases he; exact h0
    | 1, hi, he => cases hi; cases he; exact h1
    | i + 2, hi, he => simp at hi
theorem mq_fit_of {ρ : Nat → Nat} {v : mq_N} {len : Nat} (h : mq_fit v len = true) (hf : mq_nf v) : jnl (mq_nv ρ v).natAbs ≤ len := by
  obtain ⟨p, n, rfl, g⟩ := mq_nZ_of h
  have g : p + n + 1 ≤ 1000000000 ^ len := Nat.ble_eq.mp g
  rw [mq_nv_abs hf]
  exact jnl_of (by show p + n < 1000000000 ^ len; omega)
theorem mq_long_nf (x : Nat) : mq_nf (mq_long x) := by
  unfold mq_long
  cases Nat.ble (nat_lit 9223372036854775808) x
  · exact Or.inr rfl
  · exact Or.inl rfl
theorem mq_long_eq {ρ : Nat → Nat} {x : Nat} (hx : x < 18446744073709551616) : mq_nv ρ (mq_long x) = (jl (x : Nat)).toInt := by
  rw [mq_jl_toInt]
  have e : mq_o64 x = (x + 9223372036854775808) % 18446744073709551616 := rfl
  rw [e]
  unfold mq_long
  by_cases h : 9223372036854775808 ≤ x
  · have e1 : Nat.ble (nat_lit 9223372036854775808) x = true := Nat.ble_eq.mpr h
    rw [e1]
    show ((0 : Nat) : Int) - ((18446744073709551616 - x : Nat) : Int) = _
    omega
  · have e1 : Nat.ble (nat_lit 9223372036854775808) x = false := by rw [← Bool.not_eq_true, Nat.ble_eq]; exact h
    rw [e1]
    show ((x : Nat) : Int) - ((0 : Nat) : Int) = _
    omega
