/-! The reference's rest, at once. -/
theorem mq_vJ_kn {w : mq_W} {env : mq_V} {k : Nat → mq_V → Bool} (h : mq_vJ w env k = true) : mq_kn w = true := by
  rcases mq_Wd w with ⟨n, rfl⟩ | ⟨a, rfl⟩ | ⟨n, rfl⟩ | ⟨i, m, c, rfl⟩ | ⟨i, rfl⟩ | ⟨i, lo, l, rfl⟩ | ⟨x, rfl⟩ | ⟨x, rfl⟩ | rfl | rfl | rfl | rfl | rfl <;> first | rfl | cases h
theorem mq_rN_of {ρ : Nat → Nat} {n a : Nat} {t : mq_Ht} {h : mj_H} {env : mq_V} {k : mq_T mq_W → Bool} (hh : mq_rN t a k = true) (hs : mq_Sat ρ env) (hr : mq_Hr ρ n t h) : ∃ b d fs', ∃ f : Nat → Value, h[a]? = some (.inr (10, fs')) ∧ fs'[0]? = some (.ref b) ∧ h[b]? = some (.inl (1, 91, f)) ∧ (∀ i, i < 91 → mq_kn (mq_get d i) = true → f i = mq_val ρ (mq_get d i)) ∧ k d = true := by
  unfold mq_rN at hh
  obtain ⟨ci, fs, fs', h1, h2, h3, h4, h5, g⟩ := mq_cO_of hh hr
  obtain ⟨q, g2⟩ := mq_cond_of g
  have q : ci = 10 := Nat.beq_eq.mp q
  subst q
  obtain ⟨b, e', k1, k2, g3⟩ := mq_fA_of (env := env) g2 hs.nil h4
  obtain ⟨ty, len, dep, d, f, l1, l2, l3, l4, l5, g4⟩ := mq_cA_of g3 hr
  obtain ⟨q, g5⟩ := mq_cond_of g4
  rw [mq_and_eq] at q
  have q1 : ty = 1 := Nat.beq_eq.mp q.1
  have q2 : len = 91 := Nat.beq_eq.mp q.2
  subst q1
  subst q2
  exact ⟨b, d, fs', f, h2, k1, l2, l4, g5⟩
theorem mq_w242 : mq_okO 242 4 mq_r_rest := by
  intro ρ as n t env kr kx h hl g hs hr
  obtain ⟨w, s, a, e, rfl, e1, S, g1⟩ := mq_pA_of g hs
  obtain ⟨w2, s2, r, e2, rfl, e3, S2, g2⟩ := mq_pI_of g1 S
  obtain ⟨w3, s3, i, e4, rfl, e5, S3, g3⟩ := mq_pI_of g2 S2
  obtain ⟨w4, s4, p, e6, rfl, e7, S4, g4⟩ := mq_pI_of g3 S3
  have hs2 : s4 = [] := mq_len1 (by simpa using hl)
  subst hs2
  obtain ⟨b, d, fs', f, h1, h2, h3, h4, g5⟩ := mq_rN_of g4 S4 hr
  have hk := mq_vJ_kn g5
  obtain ⟨y, e8, e9, S5, g6⟩ := mq_vJ_of g5 S4
  obtain ⟨q, g7⟩ := mq_cond_of g6
  unfold mq_p97 mq_x64 at q
  rw [mq_and_eq, mq_and_eq, mq_and_eq, mq_and_eq] at q
  have q1 : 2 ≤ p := Nat.ble_eq.mp q.1.1.1
  have q2 : p ≤ 97 := Nat.ble_eq.mp q.1.1.2
  have q3 : y + 1 ≤ 18446744073709551616 := Nat.ble_eq.mp q.1.2
  have q4 : r ≤ 5 := Nat.ble_eq.mp q.2.1
  have q5 : i ≤ 12 := Nat.ble_eq.mp q.2.2
  have hld : f (r * 13 + i) = .long (jl (y : Nat)) := (h4 (r * 13 + i) (by omega) hk).trans e9
  obtain ⟨z, hz, z1, z2, z3, z4⟩ := mq_rsd_of (x := y) q1 (by omega)
  have hv := jR_of (jl (y : Nat))
  rw [← jl_of (jl (y : Nat))] at hld
  generalize (jl (y : Nat)).toInt = v at hz hv hld
  obtain ⟨i1, i2⟩ := mq_idx (show r * 13 + i < 91 by omega) (show 91 ≤ 1000000 by omega)
  have fin : ∀ m : Int, m = ((mq_rsd y p : Nat) : Int) → mq_Po ρ kr kx (.inl (some (.long (jl m))), h) := fun m hm => by
    refine ⟨_, _, _, _, ?_, hr, S5, g7⟩
    rw [hm]
    rfl
  rw [List.map_cons, List.map_cons, List.map_cons, List.map_cons, List.map_nil, e1, e3, e5, e7]
  refine (mj_Ok.of (D := 0) (M := mj_m242) rfl rfl rfl ?_).up (by omega)
  refine mj_T.pl rfl rfl rfl rfl ?_
  refine mj_T.step (loc' := mj_loc0 6 [.ref a, .int (jn r), .int (jn i), .int (jn p)]) (st' := [.ref b]) (h' := h) (pc' := 4) rfl rfl (by simp only [mj_step, h1, h2, if_true]; rfl) ?_
  iterate 2 refine mj_T.pl rfl rfl rfl rfl ?_
  refine mj_T.imul (b := 13) rfl ?_
  refine mj_T.pl rfl rfl rfl rfl ?_
  refine mj_T.iadd rfl ?_
  rw [show (r : Int) * 13 + (i : Int) = ((r * 13 + i : Nat) : Int) by omega]
  refine mj_T.step (loc' := mj_loc0 6 [.ref a, .int (jn r), .int (jn i), .int (jn p)]) (st' := [.long (jl v)]) (h' := h) (pc' := 11) rfl rfl (by
    simp only [mj_step, h3, i1, i2]
    rw [if_pos ⟨(by first | trivial | rfl | omega), (by first | trivial | rfl | omega)⟩, hld]) ?_
  refine mj_T.pl rfl rfl rfl rfl ?_
  refine mj_T.i2l rfl ⟨by omega, by omega⟩ ?_
  refine mj_T.lrem rfl hv ⟨by omega, by omega⟩ (by omega) ?_
  rw [← hz]
  iterate 3 refine mj_T.pl rfl rfl rfl rfl ?_
  refine mj_T.lif (b := 0) rfl rfl ⟨by omega, by omega⟩ ⟨by omega, by omega⟩ (fun hc => ?_) (fun hc => ?_)
  · simp only [jc, decide_eq_true_eq] at hc
    refine mj_T.pl rfl rfl rfl rfl ?_
    exact mj_T.ret rfl rfl rfl (fin _ (z3 (by omega)).symm)
  · simp only [jc, decide_eq_false_iff_not] at hc
    iterate 2 refine mj_T.pl rfl rfl rfl rfl ?_
    refine mj_T.i2l rfl ⟨by omega, by omega⟩ ?_
    refine mj_T.ladd rfl ?_
    refine mj_T.pl rfl rfl rfl rfl ?_
    exact mj_T.ret rfl rfl rfl (fin _ (z4 (by omega)).symm)
