/-! The reference's limb, at once. -/
theorem jq_length {D a b i : Nat} {v : Int} {h : mj_H} {fs' : List Value} {bg : Nat → Int32} (h1 : h[a]? = some (.inr (10, fs'))) (h2 : fs'[4]? = some (.ref b)) (h4 : h[b]? = some (.inl (0, 466830, fun j => .int (bg j)))) (hi : i < 665) (k1 : jrs bg i v) : mj_Ok (D + 1) 179 [.ref a, .int (jn (i : Nat))] h (fun r => r = (.inl (some (.int (jn (jnl v.natAbs : Nat)))), h)) := by
  refine mj_Ok.of (M := mj_m179) rfl rfl rfl ?_
  refine mj_T.pl rfl rfl rfl rfl ?_
  refine mj_T.step (loc' := mj_loc0 2 [.ref a, .int (jn i)]) (st' := [.ref b]) (h' := h) (pc' := 4) rfl rfl (by simp only [mj_step, h1, h2, if_true]; rfl) ?_
  iterate 2 refine mj_T.pl rfl rfl rfl rfl ?_
  refine mj_T.imul (b := 702) rfl ?_
  refine mj_T.pl rfl rfl rfl rfl ?_
  refine mj_T.iadd (b := 1) rfl ?_
  rw [show (i : Int) * 702 + 1 = ((i * 702 + 1 : Nat) : Int) by omega]
  refine mj_T.ialv rfl h4 ⟨by omega, by omega⟩ ⟨by omega, by omega⟩ k1.2.1 ?_
  exact mj_T.ret rfl rfl rfl rfl
theorem mq_w180 : mq_okO 180 3 mq_r_limb := by
  intro ρ as n t env kr kx h hl g hs hr
  obtain ⟨w, s, a, e, rfl, e1, S, g1⟩ := mq_pA_of g hs
  obtain ⟨w2, s2, i, e2, rfl, e3, S2, g2⟩ := mq_pI_of g1 S
  obtain ⟨w3, s3, j, e4, rfl, e5, S3, g3⟩ := mq_pI_of g2 S2
  have hs2 : s3 = [] := mq_len1 (by simpa using hl)
  subst hs2
  obtain ⟨b, d, fs', bg, h1, h2, h3, h4, h5, h6, h7, g4⟩ := mq_rS_of g3 S3 hr
  obtain ⟨q, g5⟩ := mq_cond_of g4
  rw [mq_and_eq] at q
  have q1 : i + 1 ≤ 665 := Nat.ble_eq.mp q.1
  have q2 : j ≤ 700 := Nat.ble_eq.mp q.2
  obtain ⟨k1, k2⟩ := h6 i (by omega)
  obtain ⟨p, m, hv, g6⟩ := mq_nZ_of g5
  rw [hv] at k1 k2
  have ea := mq_nv_abs (ρ := ρ) k2
  have k3 := k1.2.2.2
  have hlen := jq_length (D := 0) h1 h2 h4 (show i < 665 by omega) k1
  rw [ea] at hlen k3
  have k4 := k1.2.2.1
  rw [ea] at k4
  have fin : ∀ z : Int, z = jlb (p + m) j → mq_Po ρ kr kx (.inl (some (.int (jn z))), h) := fun z hz => by
    refine ⟨_, _, _, _, ?_, hr, S3, g6⟩
    rw [hz]
    rfl
  rw [List.map_cons, List.map_cons, List.map_cons, List.map_nil, e1, e3, e5]
  refine (mj_Ok.of (D := 1) (M := mj_m180) rfl rfl rfl ?_).up (by omega)
  iterate 3 refine mj_T.pl rfl rfl rfl rfl ?_
  refine mj_T.call (ins := .invokevirtual 52) rfl rfl (Nat.le_of_ble_eq_true rfl) (Nat.le_of_ble_eq_true rfl) (by simp [mj_recv, h1]) rfl hlen (fun v' h' hq' => ?_) (fun i h' hq' => by cases hq')
  cases hq'
  refine mj_T.icmp rfl ⟨by omega, by omega⟩ ⟨by omega, by omega⟩ (fun hc => ?_) (fun hc => ?_)
  · simp only [jc, decide_eq_true_eq] at hc
    refine mj_T.pl rfl rfl rfl rfl ?_
    refine mj_T.ret rfl rfl rfl ?_
    exact fin 0 (by rw [jlb_high (show jnl (p + m) ≤ j by omega)]; rfl)
  · simp only [jc, decide_eq_false_iff_not] at hc
    refine mj_T.pl rfl rfl rfl rfl ?_
    refine mj_T.step (loc' := mj_loc0 3 [.ref a, .int (jn i), .int (jn j)]) (st' := [.ref b]) (h' := h) (pc' := 13) rfl rfl (by simp only [mj_step, h1, h2, if_true]; rfl) ?_
    iterate 2 refine mj_T.pl rfl rfl rfl rfl ?_
    refine mj_T.imul (b := 702) rfl ?_
    refine mj_T.pl rfl rfl rfl rfl ?_
    refine mj_T.iadd (b := 2) rfl ?_
    refine mj_T.pl rfl rfl rfl rfl ?_
    refine mj_T.iadd rfl ?_
    rw [show (i : Int) * 702 + 2 + (j : Int) = ((i * 702 + 2 + j : Nat) : Int) by omega]
    refine mj_T.ialv rfl h4 ⟨by omega, by omega⟩ ⟨by omega, by omega⟩ (k4 j (by omega)) ?_
    refine mj_T.pl rfl rfl rfl rfl ?_
    exact mj_T.ret rfl rfl rfl (fin _ rfl)
