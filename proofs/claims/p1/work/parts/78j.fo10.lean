/-! The reference's numbers as longs, at once. -/
theorem jq_sign {D a b i : Nat} {v : Int} {h : mj_H} {fs' : List Value} {bg : Nat → Int32} (h1 : h[a]? = some (.inr (10, fs'))) (h2 : fs'[4]? = some (.ref b)) (h4 : h[b]? = some (.inl (0, 466830, fun j => .int (bg j)))) (hi : i < 665) (k1 : jrs bg i v) : mj_Ok (D + 1) 178 [.ref a, .int (jn (i : Nat))] h (fun r => r = (.inl (some (.int (jn (jsg v)))), h)) := by
  refine mj_Ok.of (M := mj_m178) rfl rfl rfl ?_
  refine mj_T.pl rfl rfl rfl rfl ?_
  refine mj_T.step (loc' := mj_loc0 2 [.ref a, .int (jn i)]) (st' := [.ref b]) (h' := h) (pc' := 4) rfl rfl (by simp only [mj_step, h1, h2, if_true]; rfl) ?_
  iterate 2 refine mj_T.pl rfl rfl rfl rfl ?_
  refine mj_T.imul (b := 702) rfl ?_
  rw [show (i : Int) * 702 = ((i * 702 : Nat) : Int) by omega]
  refine mj_T.ialv rfl h4 ⟨by omega, by omega⟩ ⟨by omega, by omega⟩ k1.1 ?_
  exact mj_T.ret rfl rfl rfl rfl
theorem jq_limb {D a b i j : Nat} {v : Int} {h : mj_H} {fs' : List Value} {bg : Nat → Int32} (h1 : h[a]? = some (.inr (10, fs'))) (h2 : fs'[4]? = some (.ref b)) (h4 : h[b]? = some (.inl (0, 466830, fun j => .int (bg j)))) (hi : i < 665) (hj : j ≤ 700) (k1 : jrs bg i v) : mj_Ok (D + 2) 180 [.ref a, .int (jn (i : Nat)), .int (jn (j : Nat))] h (fun r => r = (.inl (some (.int (jn (jlb v.natAbs j : Nat)))), h)) := by
  have hlen := jq_length (D := D) h1 h2 h4 hi k1
  have k3 := k1.2.2.2
  have k4 := k1.2.2.1
  refine mj_Ok.of (D := D + 1) (M := mj_m180) rfl rfl rfl ?_
  iterate 3 refine mj_T.pl rfl rfl rfl rfl ?_
  refine mj_T.call (ins := .invokevirtual 52) rfl rfl (Nat.le_of_ble_eq_true rfl) (Nat.le_of_ble_eq_true rfl) (by simp [mj_recv, h1]) rfl hlen (fun v' h' hq' => ?_) (fun i h' hq' => by cases hq')
  cases hq'
  refine mj_T.icmp rfl ⟨by omega, by omega⟩ ⟨by omega, by omega⟩ (fun hc => ?_) (fun hc => ?_)
  · simp only [jc, decide_eq_true_eq] at hc
    refine mj_T.pl rfl rfl rfl rfl ?_
    refine mj_T.ret rfl rfl rfl ?_
    rw [jlb_high (show jnl v.natAbs ≤ j by omega)]
    rfl
  · simp only [jc, decide_eq_false_iff_not] at hc
    refine mj_T.pl rfl rfl rfl rfl ?_
    refine mj_T.step (loc' := mj_loc0 3 [.ref a, .int (jn i), .int (jn j)]) (st' := [.ref b]) (h' := h) (pc' := 13) rfl rfl (by simp only [mj_step, h1, h2, if_true]; rfl) ?_
    iterate 2 refine mj_T.pl rfl rfl rfl rfl ?_
    refine mj_T.imul (b := 702) rfl ?_
    refine mj_T.pl rfl rfl rfl rfl ?_
    refine mj_T.iadd (b := 2) rfl ?_
    refine mj_T.pl rfl rfl rfl rfl ?_
    refine mj_T.iadd rfl ?_
    rw [show (i : Int) * 702 + 2 + (j : Int) = ((i * 702 + 2 + j : Nat) : Int) by omega]
    refine mj_T.ialv rfl h4 ⟨by omega, by omega⟩ ⟨by omega, by omega⟩ (k4 j (by omega)) ?_
    refine mj_T.pl rfl rfl rfl rfl ?_
    exact mj_T.ret rfl rfl rfl rfl
theorem jq_long_loop {a b s : Nat} {v : Int} {h : mj_H} {fs' : List Value} {bg : Nat → Int32} {Q : mj_R → Prop} (h1 : h[a]? = some (.inr (10, fs'))) (h2 : fs'[4]? = some (.ref b)) (h4 : h[b]? = some (.inl (0, 466830, fun j => .int (bg j)))) (hi : s < 665) (k1 : jrs bg s v) (K : mj_T 2 mj_m195 37 [some (.ref a), some (.int (jn (s : Nat))), some (.long (jl (v.natAbs : Nat))), none, some (.int (jn (-1)))] [] h Q) : ∀ i, i ≤ jnl v.natAbs → mj_T 2 mj_m195 11 [some (.ref a), some (.int (jn (s : Nat))), some (.long (jl (v.natAbs / jB ^ i : Nat))), none, some (.int (jn ((i : Int) - 1)))] [] h Q
  | 0, hi0 => by
    refine mj_T.pl rfl rfl rfl rfl ?_
    refine mj_T.if0 rfl ⟨by omega, by omega⟩ (fun hc => ?_) (fun hc => ?_)
    · rw [Nat.pow_zero, Nat.div_one]
      exact K
    · simp only [jc, decide_eq_false_iff_not] at hc
      omega
  | i + 1, hi0 => by
    have ih := jq_long_loop h1 h2 h4 hi k1 K i (by omega)
    have hb := jlb_lt v.natAbs i
    have k3 := k1.2.2.2
    have hst : ((v.natAbs / jB ^ (i + 1) : Nat) : Int) * 1000000000 + ((jlb v.natAbs i : Nat) : Int) = ((v.natAbs / jB ^ i : Nat) : Int) := by
      rw [← jq_limb_step v.natAbs i, Int.natCast_add, Int.natCast_mul]
      rfl
    rw [show ((i + 1 : Nat) : Int) - 1 = (i : Int) by omega]
    generalize v.natAbs / jB ^ (i + 1) = y at hst ⊢
    refine mj_T.pl rfl rfl rfl rfl ?_
    refine mj_T.if0 rfl ⟨by omega, by omega⟩ (fun hc => ?_) (fun hc => ?_)
    · simp only [jc, decide_eq_true_eq] at hc
      omega
    · iterate 2 refine mj_T.pl rfl rfl rfl rfl ?_
      refine mj_T.lmul (b := 1000000000) rfl ?_
      iterate 3 refine mj_T.pl rfl rfl rfl rfl ?_
      refine mj_T.call (ins := .invokevirtual 64) rfl rfl (Nat.le_of_ble_eq_true rfl) (Nat.le_of_ble_eq_true rfl) (by simp [mj_recv, h1]) rfl (jq_limb (D := 0) h1 h2 h4 hi (show i ≤ 700 by omega) k1) (fun v' h' hq' => ?_) (fun i h' hq' => by cases hq')
      cases hq'
      refine mj_T.i2l rfl ⟨by omega, by omega⟩ ?_
      refine mj_T.ladd rfl ?_
      rw [hst]
      refine mj_T.pl rfl rfl rfl rfl ?_
      refine mj_T.iinc rfl rfl ?_
      refine mj_T.pl rfl rfl rfl rfl ?_
      exact ih
theorem mq_w195 : mq_okO 195 2 mq_r_long := by
  intro ρ as n t env kr kx h hl g hs hr
  obtain ⟨w, s, a, e, rfl, e1, S, g1⟩ := mq_pA_of g hs
  obtain ⟨w2, s2, i, e2, rfl, e3, S2, g2⟩ := mq_pI_of g1 S
  have hs2 : s2 = [] := mq_len1 (by simpa using hl)
  subst hs2
  obtain ⟨b, d, fs', bg, h1, h2, h3, h4, h5, h6, h7, g3⟩ := mq_rS_of g2 S2 hr
  obtain ⟨q, g4⟩ := mq_cond_of g3
  have q : i + 1 ≤ 665 := Nat.ble_eq.mp q
  obtain ⟨k1, k2⟩ := h6 i (by omega)
  obtain ⟨p, m, hv, g5⟩ := mq_nZ_of g4
  rw [hv] at k1
  have fin : ∀ z : Int, z = mq_nv ρ (Sum.inl (p, m)) → mq_Po ρ kr kx (.inl (some (.long (jl z))), h) := fun z hz => by
    refine ⟨_, _, _, _, ?_, hr, S2, g5⟩
    rw [hz]
    show some (Value.long (jl ((p : Int) - m))) = some (Value.long (jl (mq_sub64 p m : Nat)))
    rw [mq_jl_sub, jl_sub]
  generalize mq_nv ρ (Sum.inl (p, m)) = v at k1 fin
  have hz : v.natAbs / jB ^ jnl v.natAbs = 0 := jnl_le.mp (Nat.le_refl _)
  have hsr := jsg_range v
  have k3 := k1.2.2.2
  rw [List.map_cons, List.map_cons, List.map_nil, e1, e3]
  refine (mj_Ok.of (D := 2) (M := mj_m195) rfl rfl rfl ?_).up (by omega)
  iterate 4 refine mj_T.pl rfl rfl rfl rfl ?_
  refine mj_T.call (ins := .invokevirtual 52) rfl rfl (Nat.le_of_ble_eq_true rfl) (Nat.le_of_ble_eq_true rfl) (by simp [mj_recv, h1]) rfl (jq_length (D := 1) h1 h2 h4 (show i < 665 by omega) k1) (fun v' h' hq' => ?_) (fun i h' hq' => by cases hq')
  cases hq'
  refine mj_T.pl rfl rfl rfl rfl ?_
  refine mj_T.isub (b := 1) rfl ?_
  refine mj_T.pl rfl rfl rfl rfl ?_
  have L := jq_long_loop (Q := mq_Po ρ kr kx) h1 h2 h4 (show i < 665 by omega) k1 ?_ (jnl v.natAbs) (Nat.le_refl _)
  · rw [hz] at L
    exact L
  · iterate 2 refine mj_T.pl rfl rfl rfl rfl ?_
    refine mj_T.call (ins := .invokevirtual 68) rfl rfl (Nat.le_of_ble_eq_true rfl) (Nat.le_of_ble_eq_true rfl) (by simp [mj_recv, h1]) rfl (jq_sign (D := 1) h1 h2 h4 (show i < 665 by omega) k1) (fun v' h' hq' => ?_) (fun i h' hq' => by cases hq')
    cases hq'
    refine mj_T.if0 rfl ⟨by omega, by omega⟩ (fun hc => ?_) (fun hc => ?_)
    · simp only [jc, decide_eq_true_eq] at hc
      have hv : 0 ≤ v := by
        rcases Int.lt_or_le v 0 with q | q
        · rw [jsg_neg q] at hc
          omega
        · exact q
      refine mj_T.pl rfl rfl rfl rfl ?_
      exact mj_T.ret rfl rfl rfl (fin _ (by omega))
    · simp only [jc, decide_eq_false_iff_not] at hc
      have hv : v < 0 := by
        rcases Int.lt_trichotomy v 0 with q | q | q
        · exact q
        · rw [q, jsg_zero] at hc
          omega
        · rw [jsg_pos q] at hc
          omega
      refine mj_T.pl rfl rfl rfl rfl ?_
      refine mj_T.lneg rfl ?_
      refine mj_T.pl rfl rfl rfl rfl ?_
      exact mj_T.ret rfl rfl rfl (fin _ (by omega))
