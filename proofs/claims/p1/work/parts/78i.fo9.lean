/-! The low bits, at once. -/
theorem jq_limb_step (x i : Nat) : x / jB ^ (i + 1) * 1000000000 + jlb x i = x / jB ^ i := by
  rw [Nat.pow_succ, ← Nat.div_div_eq_div_mul]
  exact Nat.div_add_mod' _ _
theorem jq_low_loop {D a b len x : Nat} {sg : Int} {h : mj_H} {g : Nat → Int32} {Q : mj_R → Prop} (h2 : h[a]? = some (.inr (8, [.ref b, .int (jn (jnl x : Nat)), .int (jn sg)]))) (h3 : h[b]? = some (.inl (0, len, fun j => .int (g j)))) (k4 : mq_lbs x g) (k5 : jnl x ≤ len) (k6 : len ≤ 700) (K : mj_T D mj_m100 42 [some (.ref a), some (.long (jl (x : Nat))), none, some (.int (jn (-1)))] [] h Q) : ∀ i, i ≤ jnl x → mj_T D mj_m100 9 [some (.ref a), some (.long (jl (x / jB ^ i : Nat))), none, some (.int (jn ((i : Int) - 1)))] [] h Q
  | 0, hi => by
    refine mj_T.pl rfl rfl rfl rfl ?_
    refine mj_T.if0 rfl ⟨by omega, by omega⟩ (fun hc => ?_) (fun hc => ?_)
    · rw [Nat.pow_zero, Nat.div_one]
      exact K
    · simp only [jc, decide_eq_false_iff_not] at hc
      omega
  | i + 1, hi => by
    have ih := jq_low_loop h2 h3 k4 k5 k6 K i (by omega)
    have hb := jlb_lt x i
    have hst : ((x / jB ^ (i + 1) : Nat) : Int) * 1000000000 + ((jlb x i : Nat) : Int) = ((x / jB ^ i : Nat) : Int) := by
      rw [← jq_limb_step x i, Int.natCast_add, Int.natCast_mul]
      rfl
    rw [show ((i + 1 : Nat) : Int) - 1 = (i : Int) by omega]
    generalize x / jB ^ (i + 1) = y at hst ⊢
    refine mj_T.pl rfl rfl rfl rfl ?_
    refine mj_T.if0 rfl ⟨by omega, by omega⟩ (fun hc => ?_) (fun hc => ?_)
    · simp only [jc, decide_eq_true_eq] at hc
      omega
    · iterate 2 refine mj_T.pl rfl rfl rfl rfl ?_
      refine mj_T.step (loc' := [some (.ref a), some (.long (jl (y : Nat))), none, some (.int (jn (i : Int)))]) (st' := [.ref b, .int (jn (i : Int))]) (h' := h) (pc' := 18) rfl rfl (by simp only [mj_step, h2, if_true]; rfl) ?_
      refine mj_T.alen rfl h3 ?_
      refine mj_T.icmp rfl ⟨by omega, by omega⟩ ⟨by omega, by omega⟩ (fun hc19 => ?_) (fun hc19 => ?_)
      · simp only [jc, decide_eq_true_eq] at hc19
        omega
      · iterate 2 refine mj_T.pl rfl rfl rfl rfl ?_
        refine mj_T.lmul (b := 1000000000) rfl ?_
        refine mj_T.pl rfl rfl rfl rfl ?_
        refine mj_T.step (loc' := [some (.ref a), some (.long (jl (y : Nat))), none, some (.int (jn (i : Int)))]) (st' := [.ref b, .long (jl ((y : Int) * 1000000000))]) (h' := h) (pc' := 31) rfl rfl (by simp only [mj_step, h2, if_true]; rfl) ?_
        refine mj_T.pl rfl rfl rfl rfl ?_
        refine mj_T.ialv rfl h3 ⟨by omega, by omega⟩ ⟨by omega, by omega⟩ (k4 i (by omega)) ?_
        refine mj_T.i2l rfl ⟨by omega, by omega⟩ ?_
        refine mj_T.ladd rfl ?_
        rw [hst]
        refine mj_T.pl rfl rfl rfl rfl ?_
        refine mj_T.iinc rfl rfl ?_
        refine mj_T.pl rfl rfl rfl rfl ?_
        exact ih
theorem mq_w100 : mq_okO 100 1 mq_o_low := by
  intro ρ as n t env kr kx h hl g hs hr
  obtain ⟨w, s, a, e, rfl, e1, S, g1⟩ := mq_pA_of g hs
  have hs2 : s = [] := mq_len1 (by simpa using hl)
  subst hs2
  obtain ⟨b, len, v, gg, h1, h2, h3, h4, h5, h6, h7, h8, h9, h10, h11, g3⟩ := mq_cW_of g1 hr
  obtain ⟨p, m, rfl, g4⟩ := mq_nZ_of g3
  have fin : ∀ z : Int, z = mq_nv ρ (Sum.inl (p, m)) → mq_Po ρ kr kx (.inl (some (.long (jl z))), h) := fun z hz => by
    refine ⟨_, _, _, _, ?_, hr, S, g4⟩
    rw [hz]
    show some (Value.long (jl ((p : Int) - m))) = some (Value.long (jl (mq_sub64 p m : Nat)))
    rw [mq_jl_sub, jl_sub]
  generalize mq_nv ρ (Sum.inl (p, m)) = v at h2 h4 h5 fin
  have hz : v.natAbs / jB ^ jnl v.natAbs = 0 := jnl_le.mp (Nat.le_refl _)
  have hsr := jsg_range v
  rw [List.map_cons, List.map_nil, e1]
  refine (mj_Ok.of (D := 0) (M := mj_m100) rfl rfl rfl ?_).up (by omega)
  iterate 3 refine mj_T.pl rfl rfl rfl rfl ?_
  refine mj_T.step (loc' := [some (.ref a), some (.long (jl 0)), none, none]) (st' := [.int (jn (jnl v.natAbs : Nat))]) (h' := h) (pc' := 6) rfl rfl (by simp only [mj_step, h2, if_true]; rfl) ?_
  refine mj_T.pl rfl rfl rfl rfl ?_
  refine mj_T.isub (b := 1) rfl ?_
  refine mj_T.pl rfl rfl rfl rfl ?_
  have L := jq_low_loop (D := 0) (Q := mq_Po ρ kr kx) h2 h3 h4 h5 h6 ?_ (jnl v.natAbs) (Nat.le_refl _)
  · rw [hz] at L
    exact L
  · refine mj_T.pl rfl rfl rfl rfl ?_
    refine mj_T.step (loc' := [some (.ref a), some (.long (jl (v.natAbs : Nat))), none, some (.int (jn (-1)))]) (st' := [.int (jn (jsg v))]) (h' := h) (pc' := 46) rfl rfl (by simp only [mj_step, h2, if_true]; rfl) ?_
    refine mj_T.if0 rfl ⟨by omega, by omega⟩ (fun hc => ?_) (fun hc => ?_)
    · simp only [jc, decide_eq_true_eq] at hc
      have hv : 0 ≤ v := by
        rcases Int.lt_or_le v 0 with q | q
        · rw [jsg_neg q] at hc
          omega
        · exact q
      refine mj_T.pl rfl rfl rfl rfl ?_
      exact mj_T.ret rfl rfl rfl (fin _ (by omega))
    · simp only [jc, decide_eq_false_iff_not] at hc
      have hv : v < 0 := by
        rcases Int.lt_trichotomy v 0 with q | q | q
        · exact q
        · rw [q, jsg_zero] at hc
          omega
        · rw [jsg_pos q] at hc
          omega
      refine mj_T.pl rfl rfl rfl rfl ?_
      refine mj_T.lneg rfl ?_
      refine mj_T.pl rfl rfl rfl rfl ?_
      exact mj_T.ret rfl rfl rfl (fin _ (by omega))
