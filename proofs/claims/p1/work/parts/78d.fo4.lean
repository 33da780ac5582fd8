/-! The class's division, at once. -/
theorem mq_quoZ_eq {ρ : Nat → Nat} {p m p2 m2 : Nat} (h1 : mq_nf (Sum.inl (p, m))) (h2 : mq_nf (Sum.inl (p2, m2))) : mq_nv ρ (mq_quoZ p m p2 m2) = (mq_nv ρ (Sum.inl (p, m))).tdiv (mq_nv ρ (Sum.inl (p2, m2))) ∧ mq_nf (mq_quoZ p m p2 m2) := by
  have h1 : p = 0 ∨ m = 0 := h1
  have h2 : p2 = 0 ∨ m2 = 0 := h2
  refine ⟨?_, ?_⟩
  · show ((((p / p2 + m / m2) - (p / m2 + m / p2) : Nat)) : Int) - ((((p / m2 + m / p2) - (p / p2 + m / m2) : Nat)) : Int) = ((p : Int) - m).tdiv ((p2 : Int) - m2)
    rcases h1 with e | e <;> rcases h2 with e2 | e2 <;> subst e <;> subst e2
    · rw [Nat.zero_div, Nat.zero_div, Nat.div_zero, show ((0 : Nat) : Int) - (m : Int) = -(m : Int) by omega, show ((0 : Nat) : Int) - (m2 : Int) = -(m2 : Int) by omega, Int.neg_tdiv, Int.tdiv_neg, Int.neg_neg, mq_tdiv_nat]
      generalize m / m2 = z
      omega
    · rw [Nat.zero_div, Nat.zero_div, Nat.div_zero, show ((0 : Nat) : Int) - (m : Int) = -(m : Int) by omega, show (p2 : Int) - ((0 : Nat) : Int) = (p2 : Int) by omega, Int.neg_tdiv, mq_tdiv_nat]
      generalize m / p2 = z
      omega
    · rw [Nat.zero_div, Nat.zero_div, Nat.div_zero, show (p : Int) - ((0 : Nat) : Int) = (p : Int) by omega, show ((0 : Nat) : Int) - (m2 : Int) = -(m2 : Int) by omega, Int.tdiv_neg, mq_tdiv_nat]
      generalize p / m2 = z
      omega
    · rw [Nat.zero_div, Nat.zero_div, Nat.div_zero, show (p : Int) - ((0 : Nat) : Int) = (p : Int) by omega, show (p2 : Int) - ((0 : Nat) : Int) = (p2 : Int) by omega, mq_tdiv_nat]
      generalize p / p2 = z
      omega
  · show (p / p2 + m / m2) - (p / m2 + m / p2) = 0 ∨ (p / m2 + m / p2) - (p / p2 + m / m2) = 0
    generalize p / p2 + m / m2 = x
    generalize p / m2 + m / p2 = y
    omega
theorem mq_tmod_nat (x y : Nat) : (x : Int).tmod (y : Int) = ((x % y : Nat) : Int) := rfl
theorem mq_remZ_eq {ρ : Nat → Nat} {p m p2 m2 : Nat} (h1 : mq_nf (Sum.inl (p, m))) (h2 : mq_nf (Sum.inl (p2, m2))) : mq_nv ρ (Sum.inl (Nat.mod p (Nat.add p2 m2), Nat.mod m (Nat.add p2 m2))) = (mq_nv ρ (Sum.inl (p, m))).tmod (mq_nv ρ (Sum.inl (p2, m2))) ∧ mq_nf (Sum.inl (Nat.mod p (Nat.add p2 m2), Nat.mod m (Nat.add p2 m2))) := by
  have h1 : p = 0 ∨ m = 0 := h1
  have h2 : p2 = 0 ∨ m2 = 0 := h2
  refine ⟨?_, ?_⟩
  · show ((p % (p2 + m2) : Nat) : Int) - ((m % (p2 + m2) : Nat) : Int) = ((p : Int) - m).tmod ((p2 : Int) - m2)
    rcases h1 with e | e <;> rcases h2 with e2 | e2 <;> subst e <;> subst e2
    · rw [Nat.zero_mod, Nat.zero_add, show ((0 : Nat) : Int) - (m : Int) = -(m : Int) by omega, show ((0 : Nat) : Int) - (m2 : Int) = -(m2 : Int) by omega, Int.neg_tmod, Int.tmod_neg, mq_tmod_nat]
      generalize m % m2 = z
      omega
    · rw [Nat.zero_mod, Nat.add_zero, show ((0 : Nat) : Int) - (m : Int) = -(m : Int) by omega, show (p2 : Int) - ((0 : Nat) : Int) = (p2 : Int) by omega, Int.neg_tmod, mq_tmod_nat]
      generalize m % p2 = z
      omega
    · rw [Nat.zero_mod, Nat.zero_add, show (p : Int) - ((0 : Nat) : Int) = (p : Int) by omega, show ((0 : Nat) : Int) - (m2 : Int) = -(m2 : Int) by omega, Int.tmod_neg, mq_tmod_nat]
      generalize p % m2 = z
      omega
    · rw [Nat.zero_mod, Nat.add_zero, show (p : Int) - ((0 : Nat) : Int) = (p : Int) by omega, show (p2 : Int) - ((0 : Nat) : Int) = (p2 : Int) by omega, mq_tmod_nat]
      generalize p % p2 = z
      omega
  · show p % (p2 + m2) = 0 ∨ m % (p2 + m2) = 0
    rcases h1 with e | e <;> subst e <;> simp
theorem mq_w31 : mq_okO 31 3 mq_o_split := by
  intro ρ as n t env kr kx h hl g hs hr
  obtain ⟨w, s, a, e, rfl, e1, S, g1⟩ := mq_pA_of g hs
  obtain ⟨w2, s2, u, e2, rfl, e3, S2, g2⟩ := mq_pA_of g1 S
  obtain ⟨w3, s3, o, e4, rfl, e5, S3, g3⟩ := mq_pA_of g2 S2
  have hs2 : s3 = [] := mq_len1 (by simpa using hl)
  subst hs2
  obtain ⟨b, len, v, gg, h1, h2, h3, h4, h5, h6, h7, h8, h9, h10, h11, g4⟩ := mq_cD_of g3 hr
  obtain ⟨d, len2, x, gq, k1, k2, k3, k4, k5, k6, k7, k8, k9, k10, k11, g5⟩ := mq_cW_of g4 hr
  obtain ⟨d2, len3, y0, gq2, l1, l2, l3, l4, l5, l6, l7, l8, l9, l10, l11, g6⟩ := mq_cW_of g5 hr
  obtain ⟨p, m, rfl, g7⟩ := mq_nZ_of g6
  obtain ⟨p2, m2, rfl, g8⟩ := mq_nZ_of g7
  obtain ⟨hc, g9⟩ := mq_cond_of g8
  rw [mq_and_eq, mq_and_eq] at hc
  obtain ⟨q0, q1, q2⟩ := hc
  have n1 : @Ne Nat u o := fun q => by
    unfold mq_ne at q0
    rw [Nat.beq_eq.mpr q] at q0
    cases q0
  have q1 : 1 ≤ p2 + m2 := Nat.ble_eq.mp q1
  have q2 : (p + m) * 1000000000 + 1 ≤ 1000000000 ^ len2 := Nat.ble_eq.mp q2
  obtain ⟨a0, a1, a2, a3⟩ := mq_disjD h1 h9 k1 k9
  obtain ⟨b0, b1, b2, b3⟩ := mq_disjD h1 h9 l1 l9
  have a0 : @Ne Nat a u := a0
  have b0 : @Ne Nat a o := b0
  obtain ⟨c1, c2, c3⟩ := mq_disj k1 k9 l1 l9 n1
  obtain ⟨rv, rf⟩ := mq_remZ_eq (ρ := ρ) k7 h7
  obtain ⟨qv, qf⟩ := mq_quoZ_eq (ρ := ρ) k7 h7
  unfold mq_putW at g9
  obtain ⟨f1, g10⟩ := mq_cond_of g9
  rw [mq_hk_eq] at g10
  obtain ⟨f2, g11⟩ := mq_cond_of g10
  rw [mq_hk_eq] at g11
  have hf1 := mq_fit_of (ρ := ρ) f1 rf
  have hf2 := mq_fit_of (ρ := ρ) f2 qf
  have hX : jnl ((mq_nv ρ (Sum.inl (p, m))).natAbs * jfa (mq_nv ρ (Sum.inl (p2, m2))).natAbs) ≤ len2 := by
    rw [mq_nv_abs k7]
    have hj := (jfa_pos (mq_nv ρ (Sum.inl (p2, m2))).natAbs).2
    have := Nat.mul_le_mul_left (p + m) hj
    exact jnl_of (show _ < 1000000000 ^ len2 by omega)
  have c := mq_at6 (h := h) (a := a) (b := b) (o := u) (d := d) (u := o) (x := d2) (jw_split (D := 6) (nd := len) (m := len2) (nq := len3) (u := mq_nv ρ (Sum.inl (p, m))) (v := mq_nv ρ (Sum.inl (p2, m2))) (sz0 := jnl (mq_nv ρ y0).natAbs) (g0 := jn (jsg (mq_nv ρ y0))) (gv := gg) (gy := gq) (gq := gq2) (by omega) (by omega) (by omega) h5 hX (by rw [← qv]; exact hf2) h4 k4) (by simp; omega) h2 h3 k2 k3 l2 l3 (fun r hr => by obtain ⟨_, _, _, _, hr⟩ := hr; rw [hr]; rfl)
  have e6 : [w, w2, w3].map (mq_val ρ) = ([.ref 0, .ref 2, .ref 4] : List Value).map (mj_rn (jrho [a, b, u, d, o, d2] h.length)) := by
    rw [List.map_cons, List.map_cons, List.map_cons, List.map_nil, e1, e3, e5]
    rfl
  rw [e6]
  refine c.to (fun r hq => ?_)
  obtain ⟨r0, K', ⟨g', g'', m1, mm1, m3⟩, m4⟩ := hq
  cases m3
  subst m4
  rw [← rv] at m1 ⊢
  rw [← qv] at mm1 ⊢
  refine ⟨mq_U, n, _, e4, rfl, ?_, S3, g11⟩
  have hR := hr.wide (g := g') k10 k1 k2 rfl k8 k9 k3 k11 m1 hf1 k6 rf
  have x1 : mq_hg (mq_hset t u (mq_wide d len2 (Sum.inl (Nat.mod p (Nat.add p2 m2), Nat.mod m (Nat.add p2 m2))))) o = mq_wide d2 len3 y0 := by
    rw [mq_hg_set hr.wl _ k10 l10, if_neg (fun q => n1 q.symm)]
    exact l1
  have x2 : mq_hg (mq_hset t u (mq_wide d len2 (Sum.inl (Nat.mod p (Nat.add p2 m2), Nat.mod m (Nat.add p2 m2))))) d2 = mq_lim o := by
    rw [mq_hg_set hr.wl _ k10 l8, if_neg c2]
    exact l9
  have hR2 := hR.wide (g := g'') l10 x1 (by rw [List.getElem?_set_ne (by omega), List.getElem?_set_ne (by omega)]; exact l2) rfl l8 x2 (by rw [List.getElem?_set_ne (by omega), List.getElem?_set_ne (by omega)]; exact l3) l11 mm1 hf2 l6 qf
  have s1 : h.set a (.inr (2, [.ref b, .int (jn (jnl (mq_nv ρ (Sum.inl (p2, m2))).natAbs)), .int (jn (jsg (mq_nv ρ (Sum.inl (p2, m2))))), .long (jl (jfa (mq_nv ρ (Sum.inl (p2, m2))).natAbs))])) = h := mq_set_same h2
  have s2 : h.set b (.inl (0, len, fun j => .int (gg j))) = h := mq_set_same h3
  rw [← s2] at hR2
  rw [← s1] at hR2
  exact hR2
