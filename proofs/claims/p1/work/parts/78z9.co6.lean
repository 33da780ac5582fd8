/-! The class's tellQuotient, the whole of it. -/
section MI7
variable {ρ : Nat → Nat} {n tt tb one two sm dv b1 b2 b3 b4 b5 b6 a dk : Nat} {t T : mq_Ht} {h : mj_H} {u w x : mq_N} {fa fk : List mq_W}
theorem jsg_dvd {z g : Int} (hg : 0 < g) (h : g ∣ z) : jsg (z.tdiv g) = jsg z := jsg_tdivd hg h
theorem jc_pw {i : Nat} (hi : i ≤ 3) {x : Nat} (h : x ≤ 9223372036854775808 ^ i) : jnl x ≤ 10 := by
  refine jnl_of (j := 10) (Nat.lt_of_le_of_lt (Nat.le_trans h (Nat.pow_le_pow_right (by decide) hi)) ?_)
  show 9223372036854775808 ^ 3 < 1000000000 ^ 10
  decide
theorem jc_pos {g c f : Int} (hg : 0 < g) (hc : f = g * c) (hf : 0 < f) : 0 < c := by
  rcases Int.lt_or_le 0 c with q | q
  · exact q
  · have := Int.mul_le_mul_of_nonneg_left q (Int.le_of_lt hg)
    rw [Int.mul_zero] at this
    omega
theorem jc_cle {g c f : Int} (hg : 0 < g) (hc0 : 0 < c) (hc : f = g * c) : c ≤ f := by
  have := Int.mul_le_mul_of_nonneg_right (show 1 ≤ g by omega) (Int.le_of_lt hc0)
  rw [Int.one_mul] at this
  omega
set_option maxRecDepth 100000 in
theorem jc_tell_loop {D o : Nat} {tm f s0 : Int} (E : mq_D6 tt tb one two sm dv) (O : mq_O6 ρ tt tb one two sm dv a dk t fa fk) (ht : jr tm) (hm : tm ≤ 3) (hf : 0 < f) (hf2 : f < 9223372036854775808) : ∀ (k i : Nat) (T : mq_Ht) (h : mj_H) (u w : mq_N) (l6 l7 : Option Value), tm ≤ (i : Int) + k → i ≤ 3 → mq_Hr ρ n T h → mq_J6 tt tb one two sm dv b1 b2 b3 b4 b5 b6 t T u w → mq_jk u = false → (mq_nv ρ u).natAbs < 1000000000 ^ 9 → jsg (mq_nv ρ u) = s0 → mq_jk w = false → (mq_nv ρ w).natAbs ≤ 9223372036854775808 ^ i →
    mj_T (D + 3) mj_m159 19 [some (.ref a), some (.ref o), some (.long (jl f)), none, some (.int (jn tm)), some (.int (jn (i : Nat))), l6, l7] [] h (fun r => ∃ T' h' u' w', mq_Hr ρ n T' h' ∧ mq_J6 tt tb one two sm dv b1 b2 b3 b4 b5 b6 t T' u' w' ∧ r = (.inl (some (.int (jn s0))), h'))
  | 0, i, T, h, u, w, l6, l7, hk, hi3, R0, J0, hju, hN, hs0, hjw, hW => by
    obtain ⟨z0, g0, hz0, o0, -⟩ := R0.wd E.1.1 J0.2.2.2.1
    have hz0 := hz0 hju
    subst hz0
    obtain ⟨fa', fk', hA, fa11, -⟩ := mq_J6.see R0 J0 E O
    refine mj_T.pl rfl rfl rfl rfl ?_
    refine mj_T.pl rfl rfl rfl rfl ?_
    refine mj_T.icmp (a := (i : Int)) (b := tm) rfl ⟨by omega, by omega⟩ ht (fun hc => ?_) (fun hc => ?_)
    · refine mj_T.pl rfl rfl rfl rfl ?_
      refine mj_T.gfl rfl hA fa11 ?_
      refine mj_T.gfl rfl o0 rfl ?_
      rw [hs0]
      exact mj_T.ret rfl rfl rfl ⟨T, h, u, w, R0, J0, rfl⟩
    · simp only [jc, decide_eq_false_iff_not] at hc
      omega
  | k + 1, i, T, h, u, w, l6, l7, hk, hi3, R0, J0, hju, hN, hs0, hjw, hW => by
    obtain ⟨fa', fk', hA, fa11, fa12, fa7, hK, fk4, fk5, fk6, fk7, ⟨y0, o0⟩, ⟨y1, o1⟩, ⟨y2, o2⟩, ⟨y3, o3⟩, ⟨y4, o4⟩, ⟨y5, o5⟩⟩ := mq_J6.see R0 J0 E O
    refine mj_T.pl rfl rfl rfl rfl ?_
    refine mj_T.pl rfl rfl rfl rfl ?_
    refine mj_T.icmp (a := (i : Int)) (b := tm) rfl ⟨by omega, by omega⟩ ht (fun hc => ?_) (fun hc => ?_)
    · obtain ⟨z0, g0, hz0, oo0, -⟩ := R0.wd E.1.1 J0.2.2.2.1
      have hz0 := hz0 hju
      subst hz0
      refine mj_T.pl rfl rfl rfl rfl ?_
      refine mj_T.gfl rfl hA fa11 ?_
      refine mj_T.gfl rfl oo0 rfl ?_
      rw [hs0]
      exact mj_T.ret rfl rfl rfl ⟨T, h, u, w, R0, J0, rfl⟩
    simp only [jc, decide_eq_false_iff_not] at hc
    have hi4 : i + 1 ≤ 3 := by omega
    clear hc
    refine mj_T.pl rfl rfl rfl rfl ?_
    refine mj_T.gfl rfl hA fa7 ?_
    refine mj_T.pl rfl rfl rfl rfl ?_
    refine mj_T.gfl rfl hA fa11 ?_
    refine mj_T.pl rfl rfl rfl rfl ?_
    refine mj_T.call (ins := .invokevirtual 379) rfl rfl (Nat.le_of_ble_eq_true rfl) (Nat.le_of_ble_eq_true rfl) (by simp [mj_recv, hK]) rfl (jc_common (D := D) R0 J0 E O hju hN hf hf2) (fun v' h' hq' => ?_) (fun i h' hq' => by obtain ⟨_, _, _, _, _, _, _, _, h⟩ := hq'; cases h)
    obtain ⟨g, T1, h1, g1, g2, g3, R1, J1, hq'⟩ := hq'
    cases hq'
    clear hA fa11 fa12 fa7 hK fk4 fk5 fk6 fk7 o0 o1 o2 o3 o4 o5
    obtain ⟨fa', fk', hA, fa11, fa12, fa7, hK, fk4, fk5, fk6, fk7, ⟨y0, o0⟩, ⟨y1, o1⟩, ⟨y2, o2⟩, ⟨y3, o3⟩, ⟨y4, o4⟩, ⟨y5, o5⟩⟩ := mq_J6.see R1 J1 E O
    have gle : g ≤ f := Int.le_of_dvd hf g3
    refine mj_T.pl rfl rfl rfl rfl ?_
    refine mj_T.pl rfl rfl rfl rfl ?_
    refine mj_T.gfl rfl hA fa7 ?_
    refine mj_T.pl rfl rfl rfl rfl ?_
    refine mj_T.gfl rfl hA fa11 ?_
    refine mj_T.pl rfl rfl rfl rfl ?_
    refine mj_T.call (ins := .invokevirtual 383) rfl rfl (Nat.le_of_ble_eq_true rfl) (Nat.le_of_ble_eq_true rfl) (by simp [mj_recv, hK]) rfl (jc_lessen (D := D) R1 J1 E O hju hN g1 (by omega)) (fun v' h' hq' => ?_) (fun i h' hq' => by obtain ⟨_, _, _, _, h⟩ := hq'; cases h)
    obtain ⟨T2, h2, R2, J2, hq'⟩ := hq'
    cases hq'
    clear hA fa11 fa12 fa7 hK fk4 fk5 fk6 fk7 o0 o1 o2 o3 o4 o5
    obtain ⟨fa', fk', hA, fa11, fa12, fa7, hK, fk4, fk5, fk6, fk7, ⟨y0, o0⟩, ⟨y1, o1⟩, ⟨y2, o2⟩, ⟨y3, o3⟩, ⟨y4, o4⟩, ⟨y5, o5⟩⟩ := mq_J6.see R2 J2 E O
    obtain ⟨qz1, qz2, qz3⟩ := mq_zn_ok (ρ := ρ) ((mq_nv ρ u).tdiv g)
    have hq9 : ((mq_nv ρ u).tdiv g).natAbs < 1000000000 ^ 9 := by rw [Int.natAbs_tdiv]; exact Nat.lt_of_le_of_lt (Nat.div_le_self _ _) hN
    obtain ⟨c, hc⟩ := g3
    have ec : f.tdiv g = c := by rw [hc]; exact Int.mul_tdiv_cancel_left _ (by omega)
    have c0 : 0 < c := jc_pos g1 hc hf
    have c1 : c < 9223372036854775808 := Int.lt_of_le_of_lt (jc_cle g1 c0 hc) hf2
    have hW2 : (mq_nv ρ w * c).natAbs ≤ 9223372036854775808 ^ (i + 1) := by
      rw [Int.natAbs_mul, Nat.pow_succ]
      exact Nat.mul_le_mul hW (by omega)
    refine mj_T.pl rfl rfl rfl rfl ?_
    refine mj_T.gfl rfl hA fa7 ?_
    refine mj_T.pl rfl rfl rfl rfl ?_
    refine mj_T.gfl rfl hA fa12 ?_
    refine mj_T.pl rfl rfl rfl rfl ?_
    refine mj_T.pl rfl rfl rfl rfl ?_
    refine mj_T.lif (a := g) (b := 0) rfl rfl ⟨by omega, by omega⟩ ⟨by omega, by omega⟩ (fun hc => ?_) (fun hc => ?_)
    · refine mj_T.pl rfl rfl rfl rfl ?_
      refine mj_T.pl rfl rfl rfl rfl ?_
      refine mj_T.ldiv rfl ⟨by omega, by omega⟩ ⟨by omega, by omega⟩ g1 ?_
      rw [ec]
      refine mj_T.call (ins := .invokevirtual 387) rfl rfl (Nat.le_of_ble_eq_true rfl) (Nat.le_of_ble_eq_true rfl) (by simp [mj_recv, hK]) rfl (jc_enlarge (D := D) (f := c) R2 J2 E O hjw (jc_pw hi4 hW2) c0 c1) (fun v' h' hq' => ?_) (fun i h' hq' => by obtain ⟨_, _, _, _, h⟩ := hq'; cases h)
      obtain ⟨T3, h3, R3, J3, hq'⟩ := hq'
      cases hq'
      obtain ⟨wz1, wz2, wz3⟩ := mq_zn_ok (ρ := ρ) (mq_nv ρ w * c)
      refine mj_T.iinc (a := (i : Int)) rfl rfl ?_
      refine mj_T.pl rfl rfl rfl rfl ?_
      exact jc_tell_loop E O ht hm hf hf2 k (i + 1) _ _ _ _ _ _ (by omega) hi4 R3 J3 qz3 (by rw [qz1]; exact hq9) (by rw [qz1, jsg_tdivd g1 g2]; exact hs0) wz3 (by rw [wz1]; exact hW2)
    · simp only [jc, Bool.not_eq_false', decide_eq_true_eq] at hc
      omega
end MI7
theorem mq_w159 : mq_okO 159 4 mq_o_tell := by
  intro ρ as n t env kr kx h hl g hs hr
  obtain ⟨w1, s1, a, e, rfl, e1, S, g1⟩ := mq_pA_of g hs
  obtain ⟨w2, s2, o, e2, rfl, e3, S2, g2⟩ := mq_pA_of g1 S
  obtain ⟨w3, s3, fN, f, e4, rfl, e5, hfR, hfv, hff, S3, g3⟩ := mq_pN_of g2 S2
  obtain ⟨w4, s4, m, e6, rfl, e7, S4, g4⟩ := mq_pI_of g3 S3
  have hs2 : s4 = [] := mq_len1 (by simpa using hl)
  subst hs2
  obtain ⟨ci, fa, fa', A, hA, -, fA, ha, g5⟩ := mq_cO_of g4 hr
  obtain ⟨tt, ea, f11, Sa, g6⟩ := mq_fA_kn g5 hs.nil
  obtain ⟨tb, eb, f12, Sb, g7⟩ := mq_fA_kn g6 hs.nil
  obtain ⟨dk, ec, f7, Sc, g8⟩ := mq_fA_kn g7 hs.nil
  obtain ⟨ck, fk, fk', K, hK, -, fK, hdk, g9⟩ := mq_cO_of g8 hr
  obtain ⟨one, ed, k4, Sd, g10⟩ := mq_fA_kn g9 hs.nil
  obtain ⟨two, ee, k5, Se, g11⟩ := mq_fA_kn g10 hs.nil
  obtain ⟨sm, ef, k6, Sf, g12⟩ := mq_fA_kn g11 hs.nil
  obtain ⟨dv, eg, k7, Sg, g13⟩ := mq_fA_kn g12 hs.nil
  obtain ⟨b1, l1, v1, _, _, C0, -, o0, -, -, -, -, -, -, -, h0, -, g14⟩ := mq_cV_of g13 hr
  obtain ⟨b2, l2, v2, _, _, C1, -, o1, -, -, -, -, -, -, -, h1, -, g15⟩ := mq_cV_of g14 hr
  obtain ⟨b3, l3, v3, _, _, C2, -, -, -, -, -, -, -, -, -, h2, -, g16⟩ := mq_cV_of g15 hr
  obtain ⟨b4, l4, v4, _, _, C3, -, -, -, -, -, -, -, -, -, h3, -, g17⟩ := mq_cV_of g16 hr
  obtain ⟨b5, l5, v5, _, _, C4, -, -, -, -, -, -, -, -, -, h4, -, g18⟩ := mq_cV_of g17 hr
  obtain ⟨b6, l6, v6, gv6, C5, -, -, -, -, -, -, -, -, h5, -, g19⟩ := mq_cD_of g18 hr
  obtain ⟨bo, lo, v, CO, hjv, hvf, ho, -, g20⟩ := mq_cW_jk g19 hr
  obtain ⟨cc, g21⟩ := mq_cond_of g20
  simp only [mq_and_eq] at cc
  obtain ⟨⟨⟨c1, c2⟩, c3, c4⟩, ⟨⟨d1, d2⟩, d3, d4, d5, d6⟩, ⟨⟨n1, n2⟩, n3, n4⟩, ⟨⟨n5, n6⟩, n7, n8⟩, n9, n10, n11⟩ := cc
  have c1 : ci = 9 := Nat.beq_eq.mp c1
  have c2 : ck = 1 := Nat.beq_eq.mp c2
  obtain ⟨tm, em, ht, hm3, hm4⟩ : ∃ tm : Int, jn (m : Nat) = jn tm ∧ jr tm ∧ tm ≤ 3 ∧ tm ≤ ((0 : Nat) : Int) + ((3 : Nat) : Int) := by
    rw [Bool.or_eq_true, mq_and_eq] at c3
    rcases c3 with q | ⟨q, q2⟩
    · have q : m ≤ 3 := Nat.ble_eq.mp q
      exact ⟨(m : Int), rfl, ⟨by omega, by omega⟩, by omega, by omega⟩
    · have q : 2147483648 ≤ m := Nat.ble_eq.mp q
      have q2 : m ≤ 4294967295 := Nat.ble_eq.mp q2
      exact ⟨(m : Int) - 4294967296, mq_jn_eq (by omega), ⟨by omega, by omega⟩, by omega, by omega⟩
  have d1 : l1 = 10 := Nat.beq_eq.mp d1
  have d2 : l2 = 10 := Nat.beq_eq.mp d2
  have d3 : l3 = 240 := Nat.beq_eq.mp d3
  have d4 : l4 = 240 := Nat.beq_eq.mp d4
  have d5 : l5 = 40 := Nat.beq_eq.mp d5
  have d6 : l6 = 60 := Nat.beq_eq.mp d6
  subst c1 c2 d1 d2 d3 d4 d5 d6
  have n9 := mq_ne_of n9
  have nd : ∀ {x b' l' : Nat} {v' : mq_N}, mq_hg t x = mq_wide b' l' v' → x ≠ dv := fun hx e => by rw [e, C5] at hx; cases hx
  have E : mq_D6 tt tb one two sm dv := ⟨⟨h0, h1, h2, h3, h4, h5⟩, mq_ne_of n1, mq_ne_of n2, mq_ne_of n3, mq_ne_of n4, nd C0, mq_ne_of n5, mq_ne_of n6, mq_ne_of n7, nd C1, mq_ne_of n8, mq_ne_of n10, nd C2, mq_ne_of n11, nd C3, nd C4⟩
  have na : ∀ {x c' : Nat} {fs : List mq_W}, mq_hg t x = some (.inr (.inl (c', fs))) → x ≠ tt ∧ x ≠ tb ∧ x ≠ one ∧ x ≠ two ∧ x ≠ sm ∧ x ≠ dv := fun hx => ⟨mq_wide_ne hx C0 (by intro e; cases e), mq_wide_ne hx C1 (by intro e; cases e), mq_wide_ne hx C2 (by intro e; cases e), mq_wide_ne hx C3 (by intro e; cases e), mq_wide_ne hx C4 (by intro e; cases e), fun e => by rw [e, C5] at hx; cases hx⟩
  have O : mq_O6 ρ tt tb one two sm dv a dk t fa fk := ⟨⟨ha, hdk⟩, A, K, f11, f12, f7, k4, k5, k6, k7, na A, na K⟩
  have J0 : mq_J6 tt tb one two sm dv b1 b2 b3 b4 b5 b6 t t v1 v2 := ⟨hr.wl, hr.wl, fun y _ _ _ _ _ _ _ => rfl, C0, C1, ⟨_, C2⟩, ⟨_, C3⟩, ⟨_, C4⟩, ⟨_, C5⟩⟩
  obtain ⟨y, e8, hy, S8, g22⟩ := mq_sgn_of (ρ := ρ) g21 hff S4
  obtain ⟨q1, g23⟩ := mq_cond_of g22
  obtain ⟨x, e9, hx, S9, g24⟩ := mq_sgn_of (ρ := ρ) g23 hvf S8
  rw [mq_hk_eq, mq_hk_eq, mq_hk_eq, mq_hk_eq, mq_hk_eq, mq_hk_eq] at g24
  have hf0 : 0 < f := by
    have q1 : y = 1 := Nat.beq_eq.mp q1
    subst q1
    rw [hfv] at hy
    have hsr := jsg_range f
    have := (jn_eq ⟨by omega, by omega⟩ ⟨by omega, by omega⟩).mp hy
    rcases Int.lt_trichotomy f 0 with q | q | q
    · rw [jsg_neg q] at this; omega
    · rw [q, jsg_zero] at this; omega
    · exact q
  have hf2 : f < 9223372036854775808 := by have := hfR.2; omega
  have c4b := mq_fit_of (ρ := ρ) c4 hvf
  have hN : (mq_nv ρ v).natAbs < 1000000000 ^ 9 := jnl_le_lt.mp c4b
  rw [List.map_cons, List.map_cons, List.map_cons, List.map_cons, List.map_nil, e1, e3, e5, e7, em]
  refine (mj_Ok.of (D := 3) (M := mj_m159) rfl rfl rfl ?_).up (by omega)
  obtain ⟨fa', fk', hA, fa11, fa12, fa7, hK, fk4, fk5, fk6, fk7, ⟨y0, o0⟩, ⟨y1, o1⟩, ⟨y2, o2⟩, ⟨y3, o3⟩, ⟨y4, o4⟩, ⟨y5, o5⟩⟩ := mq_J6.see hr J0 E O
  refine mj_T.pl rfl rfl rfl rfl ?_
  refine mj_T.gfl rfl hA fa11 ?_
  refine mj_T.pl rfl rfl rfl rfl ?_
  refine mj_T.call (ins := .invokevirtual 375) rfl rfl (Nat.le_of_ble_eq_true rfl) (Nat.le_of_ble_eq_true rfl) (by simp [mj_recv, o0]) rfl (mq_k87 (D := 2) hr h0 ho (Ne.symm n9) C0 CO hjv (Nat.le_trans c4b (by decide))) (fun v' h' hq' => ?_) (fun i h' hq' => by obtain ⟨_, h, _⟩ := hq'; cases h)
  obtain ⟨_, hq', R1⟩ := hq'
  cases hq'
  have J1 := J0.c0 (x := v) E
  clear hA fa11 fa12 fa7 hK fk4 fk5 fk6 fk7 o0 o1 o2 o3 o4 o5
  obtain ⟨fa', fk', hA, fa11, fa12, fa7, hK, fk4, fk5, fk6, fk7, ⟨y0, o0⟩, ⟨y1, o1⟩, ⟨y2, o2⟩, ⟨y3, o3⟩, ⟨y4, o4⟩, ⟨y5, o5⟩⟩ := mq_J6.see R1 J1 E O
  refine mj_T.pl rfl rfl rfl rfl ?_
  refine mj_T.gfl rfl hA fa12 ?_
  refine mj_T.pl rfl rfl rfl rfl ?_
  refine mj_T.call (ins := .invokevirtual 93) rfl rfl (Nat.le_of_ble_eq_true rfl) (Nat.le_of_ble_eq_true rfl) (by simp [mj_recv, o1]) rfl (mq_k86 (D := 2) (x := 1) (v := Sum.inl (1, 0)) R1 h1 J1.2.2.2.2.1 ⟨by omega, by omega⟩ rfl (Or.inr rfl) (mq_fit_of (ρ := ρ) (v := Sum.inl (1, 0)) (len := 10) rfl (Or.inr rfl))) (fun v' h' hq' => ?_) (fun i h' hq' => by obtain ⟨_, h, _⟩ := hq'; cases h)
  obtain ⟨_, hq', R2⟩ := hq'
  cases hq'
  have J2 := J1.c1 (x := Sum.inl (1, 0)) E
  refine mj_T.pl rfl rfl rfl rfl ?_
  refine mj_T.pl rfl rfl rfl rfl ?_
  refine (jc_tell_loop (D := 0) (o := o) (s0 := jsg (mq_nv ρ v)) E O ht hm3 hf0 hf2 3 0 _ _ _ _ none none hm4 (by decide) R2 J2 hjv hN rfl rfl (Nat.le_refl 1)).to (fun r hq => ?_)
  obtain ⟨T', h', u', w', R3, J3, rfl⟩ := hq
  rw [← hx]
  exact ⟨Sum.inl x, n, _, e9, rfl, mq_J6.fin R3 J3 E, S9, g24⟩
