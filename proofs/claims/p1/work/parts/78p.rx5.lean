/-! The reference's writing methods, at once: sets, copies, comparesSizes, adds. -/
theorem mq_jC {h : mj_H} {a b : Nat} {fs' : List Value} {bg : Nat → Int32} (h1 : h[a]? = some (.inr (10, fs'))) (h2 : fs'[4]? = some (.ref b)) (h4 : h[b]? = some (.inl (0, 466830, fun j => .int (bg j)))) : jC h a b fs' := ⟨h1, h2, (fun q => by rw [q, h4] at h1; cases h1), (List.getElem?_eq_some_iff.mp h4).1⟩
theorem mq_putS_of {t : mq_Ht} {b s : Nat} {d : mq_T mq_N} {v : mq_N} {k : mq_Ht → Bool} (h : mq_putS t b d s v k = true) : s < 665 ∧ mq_fit v 698 = true ∧ k (mq_hset t b (mq_slots (mq_set 10 d s v))) = true := by
  unfold mq_putS at h
  obtain ⟨q, g⟩ := mq_cond_of h
  rw [mq_and_eq] at q
  rw [mq_setK_eq, mq_hk_eq] at g
  have q1 : s + 1 ≤ 665 := Nat.ble_eq.mp q.1
  exact ⟨by omega, q.2, g⟩
theorem mq_Hr.slot {ρ : Nat → Nat} {n b i : Nat} {t : mq_Ht} {h : mj_H} {d : mq_T mq_N} {v : mq_N} {bg bg' : Nat → Int32} (hr : mq_Hr ρ n t h) (hb : b < 1024) (hg : mq_hg t b = mq_slots d) (h4 : h[b]? = some (.inl (0, 466830, fun j => .int (bg j)))) (h5 : mq_wl 10 665 d) (h6 : ∀ s, s < 665 → jrs bg s (mq_nv ρ (mq_get d s)) ∧ mq_nf (mq_get d s)) (hi : i < 665) (hv : jrs bg' i (mq_nv ρ v)) (hf : jrf bg bg' i) (hn : mq_nf v) : mq_Hr ρ n (mq_hset t b (mq_slots (mq_set 10 d i v))) (jX h b bg') := by
  refine hr.set hb h4 (by rw [hg]; trivial) trivial ⟨h5.set hi v, bg', rfl, fun s hs => ?_⟩ rfl
  rw [mq_get_set h5 v hi hs]
  by_cases e : s = i
  · subst e
    rw [if_pos rfl]
    exact ⟨hv, hn⟩
  · rw [if_neg e]
    exact ⟨jrs_keep (h6 s hs).1 hf e, (h6 s hs).2⟩
theorem mq_w181 : mq_okO 181 3 mq_r_sets := by
  intro ρ as n t env kr kx h hl g hs hr
  obtain ⟨w, s, a, e, rfl, e1, S, g1⟩ := mq_pA_of g hs
  obtain ⟨w2, s2, i, e2, rfl, e3, S2, g2⟩ := mq_pI_of g1 S
  obtain ⟨w3, s3, v, z, e4, rfl, e5, hR1, hv, hf, S3, g3⟩ := mq_pN_of g2 S2
  have hs2 : s3 = [] := mq_len1 (by simpa using hl)
  subst hs2
  obtain ⟨b, d, fs', bg, h1, h2, h3, h4, h5, h6, h7, g4⟩ := mq_rS_of g3 S3 hr
  obtain ⟨hi, -, g5⟩ := mq_putS_of g4
  have C := mq_jC h1 h2 h4
  rw [List.map_cons, List.map_cons, List.map_cons, List.map_nil, e1, e3, e5]
  have c := jq_sets (D := 7) C (bg := bg) (s := i) (v := z) hi hR1
  rw [jX_same h4] at c
  refine c.to (fun r hq => ?_)
  obtain ⟨bg', k1, k2, rfl⟩ := hq
  exact ⟨mq_U, n, _, e4, rfl, hr.slot h7 h3 h4 h5 h6 hi (by rw [hv]; exact k1) k2 hf, S3, g5⟩
theorem mq_w182 : mq_okO 182 3 mq_r_copies := by
  intro ρ as n t env kr kx h hl g hs hr
  obtain ⟨w, s, a, e, rfl, e1, S, g1⟩ := mq_pA_of g hs
  obtain ⟨w2, s2, i, e2, rfl, e3, S2, g2⟩ := mq_pI_of g1 S
  obtain ⟨w3, s3, j, e4, rfl, e5, S3, g3⟩ := mq_pI_of g2 S2
  have hs2 : s3 = [] := mq_len1 (by simpa using hl)
  subst hs2
  obtain ⟨b, d, fs', bg, h1, h2, h3, h4, h5, h6, h7, g4⟩ := mq_rS_of g3 S3 hr
  obtain ⟨q, g4⟩ := mq_cond_of g4
  have q : j + 1 ≤ 665 := Nat.ble_eq.mp q
  obtain ⟨hi, -, g5⟩ := mq_putS_of g4
  have C := mq_jC h1 h2 h4
  obtain ⟨v1, v2⟩ := h6 j (by omega)
  rw [List.map_cons, List.map_cons, List.map_cons, List.map_nil, e1, e3, e5]
  have c := jq_copies (D := 6) C (bg := bg) (to := i) (s := j) hi (by omega) v1
  rw [jX_same h4] at c
  refine c.to (fun r hq => ?_)
  obtain ⟨bg', k1, k2, rfl⟩ := hq
  exact ⟨mq_U, n, _, e4, rfl, hr.slot h7 h3 h4 h5 h6 hi k1 k2 v2, S3, g5⟩
theorem mq_cpN_eq (x y : Nat) : jn (mq_cpN x y : Nat) = jn (jcm x y) := by
  unfold mq_cpN
  have e1 : Nat.ble (Nat.add y 1) x = decide (y < x) := by rw [Bool.eq_iff_iff, Nat.ble_eq, decide_eq_true_eq]; rfl
  have e2 : Nat.ble (Nat.add x 1) y = decide (x < y) := by rw [Bool.eq_iff_iff, Nat.ble_eq, decide_eq_true_eq]; rfl
  rw [e1, e2]
  rcases Nat.lt_trichotomy x y with h | h | h
  · rw [jcm_lt h, decide_eq_true h, decide_eq_false (show ¬ y < x by omega)]; rfl
  · rw [jcm_eq h, decide_eq_false (show ¬ y < x by omega), decide_eq_false (show ¬ x < y by omega)]; rfl
  · rw [jcm_gt h, decide_eq_true h]; rfl
theorem mq_w184 : mq_okO 184 3 mq_r_cmp := by
  intro ρ as n t env kr kx h hl g hs hr
  obtain ⟨w, s, a, e, rfl, e1, S, g1⟩ := mq_pA_of g hs
  obtain ⟨w2, s2, i, e2, rfl, e3, S2, g2⟩ := mq_pI_of g1 S
  obtain ⟨w3, s3, j, e4, rfl, e5, S3, g3⟩ := mq_pI_of g2 S2
  have hs2 : s3 = [] := mq_len1 (by simpa using hl)
  subst hs2
  obtain ⟨b, d, fs', bg, h1, h2, h3, h4, h5, h6, h7, g4⟩ := mq_rS_of g3 S3 hr
  obtain ⟨q, g4⟩ := mq_cond_of g4
  rw [mq_and_eq] at q
  have q1 : i + 1 ≤ 665 := Nat.ble_eq.mp q.1
  have q2 : j + 1 ≤ 665 := Nat.ble_eq.mp q.2
  have C := mq_jC h1 h2 h4
  obtain ⟨u1, u2⟩ := h6 i (by omega)
  obtain ⟨v1, v2⟩ := h6 j (by omega)
  obtain ⟨p, m, hu, g5⟩ := mq_nZ_of g4
  obtain ⟨p2, m2, hv, g6⟩ := mq_nZ_of g5
  rw [hu] at u1 u2
  rw [hv] at v1 v2
  rw [List.map_cons, List.map_cons, List.map_cons, List.map_nil, e1, e3, e5]
  have c := jq_cmp (D := 5) C (bg := bg) (s1 := i) (s2 := j) (by omega) (by omega) u1 v1
  rw [jX_same h4, mq_nv_abs u2, mq_nv_abs v2] at c
  refine c.to (fun r hq => ?_)
  subst hq
  refine ⟨_, n, _, e4, ?_, hr, S3, g6⟩
  show some (Value.int (jn (jcm (p + m) (p2 + m2)))) = some (Value.int (jn (mq_cpN (p + m) (p2 + m2) : Nat)))
  rw [mq_cpN_eq]
theorem mq_w188 : mq_okO 188 5 mq_r_adds := by
  intro ρ as n t env kr kx h hl g hs hr
  obtain ⟨w, s, a, e, rfl, e1, S, g1⟩ := mq_pA_of g hs
  obtain ⟨w1, s1, to, e11, rfl, e12, S1, g1⟩ := mq_pI_of g1 S
  obtain ⟨w2, s2, i, e2, rfl, e3, S2, g2⟩ := mq_pI_of g1 S1
  obtain ⟨w3, s3, j, e4, rfl, e5, S3, g3⟩ := mq_pI_of g2 S2
  obtain ⟨w4, s4, f, e6, rfl, e7, S4, g4⟩ := mq_pI_of g3 S3
  have hs2 : s4 = [] := mq_len1 (by simpa using hl)
  subst hs2
  obtain ⟨b, d, fs', bg, h1, h2, h3, h4, h5, h6, h7, g5⟩ := mq_rS_of g4 S4 hr
  obtain ⟨q, g6⟩ := mq_cond_of g5
  rw [mq_and_eq] at q
  have q1 : i + 1 ≤ 665 := Nat.ble_eq.mp q.1
  have q2 : j + 1 ≤ 665 := Nat.ble_eq.mp q.2
  have C := mq_jC h1 h2 h4
  obtain ⟨u1, u2⟩ := h6 i (by omega)
  obtain ⟨v1, v2⟩ := h6 j (by omega)
  have key : ∃ (fz : Int) (z : mq_N), (fz = 1 ∨ fz = -1) ∧ jn (f : Nat) = jn fz ∧ mq_nv ρ z = mq_nv ρ (mq_get d i) + fz * mq_nv ρ (mq_get d j) ∧ mq_nf z ∧ (mq_putS t b d to z fun t => kr mq_U n t e6) = true := by
    rcases mq_if_or g6 with ⟨q, g7⟩ | ⟨-, g7⟩
    · have q : f = 1 := Nat.beq_eq.mp q
      obtain ⟨z, z1, z2, z3⟩ := mq_add_of (ρ := ρ) g7
      exact ⟨1, z, Or.inl rfl, by rw [q]; rfl, by rw [z1, Int.one_mul], z2, z3⟩
    · obtain ⟨q, g7⟩ := mq_cond_of g7
      have q : f = 4294967295 := Nat.beq_eq.mp q
      obtain ⟨y, y1, g8⟩ := mq_neg_of (ρ := ρ) g7
      obtain ⟨z, z1, z2, z3⟩ := mq_add_of (ρ := ρ) g8
      exact ⟨-1, z, Or.inr rfl, by rw [q]; rfl, by rw [z1, y1]; omega, z2, z3⟩
  obtain ⟨fz, z, hfz, hjf, hz, hnf, g7⟩ := key
  obtain ⟨hi, q, g8⟩ := mq_putS_of g7
  have hfit := mq_fit_of (ρ := ρ) q hnf
  rw [List.map_cons, List.map_cons, List.map_cons, List.map_cons, List.map_cons, List.map_nil, e1, e12, e3, e5, e7, hjf]
  have c := jq_adds (D := 4) C (bg := bg) (to := to) (a := i) (b := j) (f := fz) hi (by omega) (by omega) hfz u1 v1 (by rw [← hz]; exact hfit)
  rw [jX_same h4, ← hz] at c
  refine c.to (fun r hq => ?_)
  obtain ⟨bg', k1, k2, rfl⟩ := hq
  exact ⟨mq_U, n, _, e6, rfl, hr.slot h7 h3 h4 h5 h6 hi k1 k2 hnf, S4, g8⟩
