/-! The class's numbers, at once. -/
theorem mq_len1 {as : List mq_W} (h : as.length = 0) : as = [] := List.length_eq_zero_iff.mp h
/-- a contract of a number's two cells, where they lie -/
theorem mq_at2 {D j : Nat} {as : List Value} {Q : mj_R → Prop} {h : mj_H} {a b : Nat} {e0 e1 : mj_E} (c : mj_Ok D j as [e0, e1] Q) (hab : a ≠ b) (h0 : h[a]? = some (mj_rE (jrho [a, b] h.length) e0)) (h1 : h[b]? = some (mj_rE (jrho [a, b] h.length) e1)) (hK : ∀ r, Q r → r.2.length = 2) :
    mj_Ok D j (as.map (mj_rn (jrho [a, b] h.length))) h (fun r => ∃ r0 K', Q (r0, K') ∧ r = (mj_rR (jrho [a, b] h.length) r0, jlay (mj_rE (jrho [a, b] h.length)) [a, b] K' h)) := by
  have ha := (List.getElem?_eq_some_iff.mp h0).1
  have hb := (List.getElem?_eq_some_iff.mp h1).1
  refine c.at [a, b] rfl (by simp [hab]) (fun p hp => ?_) (fun i p e hi he => ?_) hK
  · rcases List.mem_cons.mp hp with q | q
    · omega
    · have : p = b := by simpa using q
      omega
  · match i, hi, he with
    | 0, hi, he => cases hi; cases he; exact h0
    | 1, hi, he => cases hi; cases he; exact h1
    | i + 2, hi, he => simp at hi
theorem mq_fit_of {ρ : Nat → Nat} {v : mq_N} {len : Nat} (h : mq_fit v len = true) (hf : mq_nf v) : jnl (mq_nv ρ v).natAbs ≤ len := by
  obtain ⟨p, n, rfl, g⟩ := mq_nZ_of h
  have g : p + n + 1 ≤ 1000000000 ^ len := Nat.ble_eq.mp g
  rw [mq_nv_abs hf]
  exact jnl_of (by show p + n < 1000000000 ^ len; omega)
theorem mq_long_nf (x : Nat) : mq_nf (mq_long x) := by
  unfold mq_long
  cases Nat.ble (nat_lit 9223372036854775808) (Nat.mod x (nat_lit 18446744073709551616))
  · exact Or.inr rfl
  · exact Or.inl rfl
theorem mq_long_eq {ρ : Nat → Nat} (x : Nat) : mq_nv ρ (mq_long x) = (jl (x : Nat)).toInt := by
  rw [mq_jl_toInt]
  have e : mq_o64 x = (x + 9223372036854775808) % 18446744073709551616 := rfl
  rw [e]
  unfold mq_long
  have e2 : Nat.mod x (nat_lit 18446744073709551616) = x % 18446744073709551616 := rfl
  rw [e2]
  by_cases h : 9223372036854775808 ≤ x % 18446744073709551616
  · have e1 : Nat.ble (nat_lit 9223372036854775808) (x % 18446744073709551616) = true := Nat.ble_eq.mpr h
    rw [e1]
    show ((0 : Nat) : Int) - ((18446744073709551616 - x % 18446744073709551616 : Nat) : Int) = _
    omega
  · have e1 : Nat.ble (nat_lit 9223372036854775808) (x % 18446744073709551616) = false := by rw [← Bool.not_eq_true, Nat.ble_eq]; exact h
    rw [e1]
    show ((x % 18446744073709551616 : Nat) : Int) - ((0 : Nat) : Int) = _
    omega
theorem mq_w86 : mq_okO 86 2 mq_o_setLong := by
  intro ρ as n t env kr kx h hl g hs hr
  obtain ⟨w, s, a, e, rfl, e1, S, g1⟩ := mq_pA_of g hs
  obtain ⟨w2, s2, x, e2, rfl, e3, S2, g2⟩ := mq_pJ_of g1 S
  have hs2 : s2 = [] := mq_len1 (by simpa using hl)
  subst hs2
  obtain ⟨b, len, v, gg, h1, h2, h3, h4, h5, h6, h7, h8, h9, h10, h11, g3⟩ := mq_cW_of g2 hr
  unfold mq_putW at g3
  obtain ⟨q, g4⟩ := mq_cond_of g3
  rw [mq_hk_eq] at g4
  have hf := mq_long_nf x
  have hfit := mq_fit_of (ρ := ρ) q hf
  have hv := mq_long_eq (ρ := ρ) x
  have c := mq_at2 (h := h) (a := a) (b := b) (jw_setLong (D := 7) (n := len) (v := (jl (x : Nat)).toInt) (jR_of _) (s0 := jn (jnl (mq_nv ρ v).natAbs)) (g0 := jn (jsg (mq_nv ρ v))) (g := gg) (by omega)) h11 h2 h3 (fun r hr => by obtain ⟨_, _, _, hr⟩ := hr; rw [hr]; rfl)
  have e4 : [w, w2].map (mq_val ρ) = ([.ref 0, .long (jl (jl (x : Nat)).toInt)] : List Value).map (mj_rn (jrho [a, b] h.length)) := by
    rw [List.map_cons, List.map_cons, List.map_nil, e1, e3, jl_of]
    rfl
  rw [e4]
  refine c.to (fun r hq => ?_)
  obtain ⟨r0, K', ⟨g', k1, k2, k3⟩, k4⟩ := hq
  cases k3
  subst k4
  have hmin : min len (jnl (jl (x : Nat)).toInt.natAbs) = jnl (jl (x : Nat)).toInt.natAbs := by
    rw [hv] at hfit
    omega
  rw [hmin] at k1 ⊢
  refine ⟨mq_U, n, _, e2, rfl, ?_, S2, g4⟩
  have hR := hr.wide (v := mq_long x) (g := g') h10 h1 h2 rfl h8 h9 h3 h11 (by rw [hv]; exact k1) hfit h6 hf
  rw [hv] at hR
  exact hR
