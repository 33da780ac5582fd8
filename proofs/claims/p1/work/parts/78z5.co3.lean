/-! The class's stretch, at once. -/
theorem mq_ne_of {x y : Nat} (hx : mq_ne x y = true) : x ≠ y := fun e => by
  unfold mq_ne at hx
  rw [Nat.beq_eq.mpr e] at hx
  cases hx
theorem mq_w86 : mq_okO 86 2 mq_o_setLong := by
  intro ρ as n t env kr kx h hl g hs hr
  obtain ⟨w, s, a, e, rfl, e1, S, g1⟩ := mq_pA_of g hs
  obtain ⟨w2, s2, v1, z, e2, rfl, e3, hR1, hv, hf, S2, g2⟩ := mq_pN_of g1 S
  have hs2 : s2 = [] := mq_len1 (by simpa using hl)
  subst hs2
  obtain ⟨b, len, v0, z0, g0, h1, -, -, -, -, -, -, -, -, -, ha, -, g3⟩ := mq_cV_of g2 hr
  unfold mq_putW at g3
  obtain ⟨q, g4⟩ := mq_cond_of g3
  rw [mq_hk_eq] at g4
  rw [List.map_cons, List.map_cons, List.map_nil, e1, e3]
  refine (mq_k86 (D := 7) hr ha h1 hR1 hv hf (mq_fit_of (ρ := ρ) q hf)).to (fun r hq => ?_)
  obtain ⟨h', rfl, R⟩ := hq
  exact ⟨mq_U, n, _, e2, rfl, R, S2, g4⟩
theorem mq_w87 : mq_okO 87 2 mq_o_set := by
  intro ρ as n t env kr kx h hl g hs hr
  obtain ⟨w, s, a, e, rfl, e1, S, g1⟩ := mq_pA_of g hs
  obtain ⟨w2, s2, o, e2, rfl, e3, S2, g2⟩ := mq_pA_of g1 S
  have hs2 : s2 = [] := mq_len1 (by simpa using hl)
  subst hs2
  obtain ⟨b, len, v0, z0, g0, h1, -, -, -, -, -, -, -, -, -, ha, -, g3⟩ := mq_cV_of g2 hr
  obtain ⟨d, len2, v, k1, hj, hf, ho, -, g4⟩ := mq_cW_jk g3 hr
  obtain ⟨hao, g5⟩ := mq_cond_no g4
  have hao : a ≠ o := mq_beq_ne hao
  unfold mq_putW at g5
  obtain ⟨q, g6⟩ := mq_cond_of g5
  rw [mq_hk_eq] at g6
  rw [List.map_cons, List.map_cons, List.map_nil, e1, e3]
  refine (mq_k87 (D := 7) hr ha ho hao h1 k1 hj (mq_fit_of (ρ := ρ) q hf)).to (fun r hq => ?_)
  obtain ⟨h', rfl, R⟩ := hq
  exact ⟨mq_U, n, _, e2, rfl, R, S2, g6⟩
theorem mq_w95 : mq_okO 95 3 mq_o_prod := by
  intro ρ as n t env kr kx h hl g hs hr
  obtain ⟨w, s, a, e, rfl, e1, S, g1⟩ := mq_pA_of g hs
  obtain ⟨w2, s2, o, e2, rfl, e3, S2, g2⟩ := mq_pA_of g1 S
  obtain ⟨w3, s3, o2, e4, rfl, e5, S3, g3⟩ := mq_pA_of g2 S2
  have hs2 : s3 = [] := mq_len1 (by simpa using hl)
  subst hs2
  obtain ⟨b, len, v0, z0, g0, h1, -, -, -, -, -, -, -, -, -, ha, -, g4⟩ := mq_cV_of g3 hr
  obtain ⟨d, len2, u, k1, hju, hfu, ho, -, g5⟩ := mq_cW_jk g4 hr
  obtain ⟨d2, len3, v, l1, hjv, hfv, ho2, -, g6⟩ := mq_cW_jk g5 hr
  obtain ⟨cc, g7⟩ := mq_cond_no g6
  rw [Bool.or_eq_false_iff, Bool.or_eq_false_iff] at cc
  obtain ⟨c1, c2, c3⟩ := cc
  have c1 : o ≠ o2 := mq_beq_ne c1
  have c2 : a ≠ o := mq_beq_ne c2
  have c3 : a ≠ o2 := mq_beq_ne c3
  obtain ⟨z, z1, z2, z3, g8⟩ := mq_mul_jk (ρ := ρ) g7
  unfold mq_putW at g8
  obtain ⟨q, g9⟩ := mq_cond_of g8
  rw [mq_hk_eq] at g9
  rw [List.map_cons, List.map_cons, List.map_cons, List.map_nil, e1, e3, e5]
  refine (mq_k95 (D := 7) hr ha ho ho2 c1 c2 c3 h1 k1 hju l1 hjv z1 z2 (mq_fit_of (ρ := ρ) q z2)).to (fun r hq => ?_)
  obtain ⟨h', rfl, R⟩ := hq
  exact ⟨mq_U, n, _, e4, rfl, R, S3, g9⟩
section MST
variable {ρ : Nat → Nat} {n a : Nat} {t : mq_Ht} {h : mj_H}
/-- a number's cells, as they are, by another name or by none -/
theorem mq_Hr.as {b len : Nat} {v v' : mq_N} (hr : mq_Hr ρ n t h) (ha : a < 1024) (h1 : mq_hg t a = mq_wide b len v) (hj : mq_jk v' = false → mq_jk v = false ∧ mq_nv ρ v' = mq_nv ρ v) (hf : mq_nf v') : mq_Hr ρ n (mq_hset t a (mq_wide b len v')) h := by
  have nl : ∀ x, mq_hg t a ≠ mq_lim x := fun x e => by rw [h1] at e; cases e
  refine ⟨hr.len, hr.le, hr.wl.set ha _, fun y hy => ?_, hr.sl⟩
  rw [mq_hg_set hr.wl _ ha hy]
  by_cases hya : y = a
  · subst hya
    rw [if_pos rfl]
    rcases hr.cell y hy with h2 | ⟨ho, e, h3, h4⟩
    · rw [h1] at h2; cases h2
    · rw [h1] at ho h4
      obtain ⟨z, h0, h4, h5, h6, h7, h8⟩ := h4
      refine Or.inr ⟨?_, e, h3, z, fun q => ?_, h4, h5, h6, h7, hf⟩
      · refine ⟨ho.1, ?_⟩
        have hb := ho.2
        rw [mq_hg_set hr.wl _ ha ho.1, if_neg (fun q => nl y ((congrArg (mq_hg t) q.symm).trans hb))]
        exact hb
      · rw [(hj q).2]
        exact h0 (hj q).1
  · rw [if_neg hya]
    rcases hr.cell y hy with h2 | ⟨ho, hc⟩
    · exact Or.inl h2
    · exact Or.inr ⟨mq_ow_set hr.wl ha hy ho nl, hc⟩
theorem mq_cW_raw {k : Nat → Nat → mq_N → Bool} (hh : mq_cW t a k = true) : ∃ b len v, a < 1024 ∧ mq_hg t a = mq_wide b len v ∧ mq_jk v = false ∧ k b len v = true := by
  unfold mq_cW mq_cV at hh
  obtain ⟨h1, h2⟩ := mq_cond_of hh
  have ha : a < 1024 := by
    have : a ≤ 1023 := Nat.ble_eq.mp h1
    omega
  match hg : mq_hg t a, h2 with
  | .none, h2 => cases h2
  | some (.inl _), h2 => cases h2
  | some (.inr (.inl _)), h2 => cases h2
  | some (.inr (.inr (.inl (b, len, v)))), h2 =>
    obtain ⟨q, h3⟩ := mq_cond_no h2
    exact ⟨b, len, v, ha, rfl, q, h3⟩
  | some (.inr (.inr (.inr _))), h2 => cases h2
end MST
/-- but for three numbers all is as it is known -/
def mq_I3 (ρ : Nat → Nat) (n one two sm b1 b2 b3 : Nat) (t T : mq_Ht) (h : mj_H) (c : mq_N) : Prop := mq_Hr ρ n T h ∧ mq_hw t ∧ (∀ y, y < 1024 → y ≠ one → y ≠ two → y ≠ sm → mq_hg T y = mq_hg t y) ∧ (∃ u, mq_hg T one = mq_wide b1 240 u) ∧ (∃ u, mq_hg T two = mq_wide b2 240 u) ∧ mq_hg T sm = mq_wide b3 40 c ∧ mq_nf c ∧ mq_jk c = false
section MI3
variable {ρ : Nat → Nat} {n one two sm b1 b2 b3 : Nat} {t T : mq_Ht} {h h' : mj_H} {c u : mq_N}
theorem mq_I3.s1 (I : mq_I3 ρ n one two sm b1 b2 b3 t T h c) (h1 : one < 1024) (h2 : two < 1024) (h3 : sm < 1024) (n1 : one ≠ two) (n2 : one ≠ sm) (n3 : two ≠ sm) (R : mq_Hr ρ n (mq_hset T one (mq_wide b1 240 u)) h') : mq_I3 ρ n one two sm b1 b2 b3 t (mq_hset T one (mq_wide b1 240 u)) h' c := by
  obtain ⟨R0, W, F, U1, U2, U3, C1, C2⟩ := I
  refine ⟨R, W, fun y hy m1 m2 m3 => ?_, ⟨u, ?_⟩, ?_, ?_, C1, C2⟩
  · rw [mq_hg_set R0.wl _ h1 hy, if_neg m1]; exact F y hy m1 m2 m3
  · rw [mq_hg_set R0.wl _ h1 h1, if_pos rfl]
  · rw [mq_hg_set R0.wl _ h1 h2, if_neg (Ne.symm n1)]; exact U2
  · rw [mq_hg_set R0.wl _ h1 h3, if_neg (Ne.symm n2)]; exact U3
theorem mq_I3.s2 (I : mq_I3 ρ n one two sm b1 b2 b3 t T h c) (h1 : one < 1024) (h2 : two < 1024) (h3 : sm < 1024) (n1 : one ≠ two) (n2 : one ≠ sm) (n3 : two ≠ sm) (R : mq_Hr ρ n (mq_hset T two (mq_wide b2 240 u)) h') : mq_I3 ρ n one two sm b1 b2 b3 t (mq_hset T two (mq_wide b2 240 u)) h' c := by
  obtain ⟨R0, W, F, U1, U2, U3, C1, C2⟩ := I
  refine ⟨R, W, fun y hy m1 m2 m3 => ?_, ?_, ⟨u, ?_⟩, ?_, C1, C2⟩
  · rw [mq_hg_set R0.wl _ h2 hy, if_neg m2]; exact F y hy m1 m2 m3
  · rw [mq_hg_set R0.wl _ h2 h1, if_neg n1]; exact U1
  · rw [mq_hg_set R0.wl _ h2 h2, if_pos rfl]
  · rw [mq_hg_set R0.wl _ h2 h3, if_neg (Ne.symm n3)]; exact U3
theorem mq_I3.s3 {c' : mq_N} (I : mq_I3 ρ n one two sm b1 b2 b3 t T h c) (h1 : one < 1024) (h2 : two < 1024) (h3 : sm < 1024) (n1 : one ≠ two) (n2 : one ≠ sm) (n3 : two ≠ sm) (R : mq_Hr ρ n (mq_hset T sm (mq_wide b3 40 c')) h') (hf : mq_nf c') (hj : mq_jk c' = false) : mq_I3 ρ n one two sm b1 b2 b3 t (mq_hset T sm (mq_wide b3 40 c')) h' c' := by
  obtain ⟨R0, W, F, U1, U2, U3, C1, C2⟩ := I
  refine ⟨R, W, fun y hy m1 m2 m3 => ?_, ?_, ?_, ?_, hf, hj⟩
  · rw [mq_hg_set R0.wl _ h3 hy, if_neg m3]; exact F y hy m1 m2 m3
  · rw [mq_hg_set R0.wl _ h3 h1, if_neg n2]; exact U1
  · rw [mq_hg_set R0.wl _ h3 h2, if_neg n3]; exact U2
  · rw [mq_hg_set R0.wl _ h3 h3, if_pos rfl]
theorem mq_I3.w {w : Nat} {C : mq_C} (I : mq_I3 ρ n one two sm b1 b2 b3 t T h c) (h1 : one < 1024) (h2 : two < 1024) (h3 : sm < 1024) (n1 : one ≠ two) (n2 : one ≠ sm) (n3 : two ≠ sm) (hw : w < 1024) (m1 : w ≠ one) (m2 : w ≠ two) (m3 : w ≠ sm) (R : mq_Hr ρ n (mq_hset T w C) h') : mq_I3 ρ n one two sm b1 b2 b3 (mq_hset t w C) (mq_hset T w C) h' c := by
  obtain ⟨R0, W, F, U1, U2, U3, C1, C2⟩ := I
  refine ⟨R, W.set hw _, fun y hy k1 k2 k3 => ?_, ?_, ?_, ?_, C1, C2⟩
  · rw [mq_hg_set R0.wl _ hw hy, mq_hg_set W _ hw hy]
    split
    · rfl
    · exact F y hy k1 k2 k3
  · rw [mq_hg_set R0.wl _ hw h1, if_neg (Ne.symm m1)]; exact U1
  · rw [mq_hg_set R0.wl _ hw h2, if_neg (Ne.symm m2)]; exact U2
  · rw [mq_hg_set R0.wl _ hw h3, if_neg (Ne.symm m3)]; exact U3
/-- at the end the first two say nothing -/
theorem mq_I3.fin (I : mq_I3 ρ n one two sm b1 b2 b3 t T h c) (h1 : one < 1024) (h2 : two < 1024) (h3 : sm < 1024) (n1 : one ≠ two) (n2 : one ≠ sm) (n3 : two ≠ sm) : mq_Hr ρ n (mq_hset (mq_hset (mq_hset t one (mq_wide b1 240 mq_jN)) two (mq_wide b2 240 mq_jN)) sm (mq_wide b3 40 c)) h := by
  obtain ⟨R0, W, F, ⟨u1, U1⟩, ⟨u2, U2⟩, U3, C1, C2⟩ := I
  have R1 := R0.as (v' := mq_jN) h1 U1 (fun q => by cases q) trivial
  have R2 := R1.as (v' := mq_jN) (b := b2) (len := 240) (v := u2) h2 (by rw [mq_hg_set R0.wl _ h1 h2, if_neg (Ne.symm n1)]; exact U2) (fun q => by cases q) trivial
  refine R2.eqv (((W.set h1 _).set h2 _).set h3 _) (fun y hy => ?_)
  rw [mq_hg_set ((W.set h1 _).set h2 _) _ h3 hy, mq_hg_set (W.set h1 _) _ h2 hy, mq_hg_set W _ h1 hy, mq_hg_set R1.wl _ h2 hy, mq_hg_set R0.wl _ h1 hy]
  by_cases y3 : y = sm
  · rw [if_pos y3, if_neg (fun q => n3 (q.symm.trans y3)), if_neg (fun q => n2 (q.symm.trans y3)), y3, U3]
  · rw [if_neg y3]
    by_cases y2 : y = two
    · rw [if_pos y2, if_pos y2]
    · rw [if_neg y2, if_neg y2]
      by_cases y1 : y = one
      · rw [if_pos y1, if_pos y1]
      · rw [if_neg y1, if_neg y1]; exact (F y hy y1 y2 y3).symm
end MI3
/-- a step of the stretching -/
theorem mq_str_of {ρ : Nat → Nat} {d : mq_T mq_W} {x c : mq_N} {one two sm m : Nat} {t : mq_Ht} {k : mq_Ht → mq_N → Bool} (hs : mq_Sat ρ []) (hg : mq_str d x one two sm (m + 1) t c k = true) : ∃ w b lw v c1 p, (mq_kn (mq_get d m) = true ∧ mq_val ρ (mq_get d m) = .ref w) ∧ (w < 1024 ∧ mq_hg t w = mq_wide b lw v ∧ mq_jk v = false) ∧ (mq_nv ρ c1 = mq_nv ρ c * mq_nv ρ x ∧ mq_nf c1 ∧ mq_jk c1 = false) ∧ (mq_nv ρ p = mq_nv ρ v * mq_nv ρ c1 ∧ mq_nf p ∧ mq_jk p = false) ∧ (w ≠ one ∧ w ≠ two ∧ w ≠ sm) ∧ (jnl (mq_nv ρ c1).natAbs ≤ 40 ∧ jnl (mq_nv ρ p).natAbs ≤ 240 ∧ jnl (mq_nv ρ p).natAbs ≤ lw) ∧ mq_str d x one two sm m (mq_hset t w (mq_wide b lw p)) c1 k = true := by
  have hg : (mq_vA (mq_get d m) [] fun w _ => mq_cW t w fun b len v => mq_mul c x fun c => mq_mul v c fun v => (Bool.rec (motive := fun _ => Bool) false (mq_putW t w b len v fun t => mq_str d x one two sm m t c k) (mq_and (mq_and (mq_ne w one) (mq_and (mq_ne w two) (mq_ne w sm))) (mq_and (mq_fit c (nat_lit 40)) (mq_fit v (nat_lit 240)))))) = true := hg
  have hkn := mq_vA_kn hg
  obtain ⟨w, e', hw, -, hg⟩ := mq_vA_of hg hs
  obtain ⟨b, lw, v, c4, c1, c2, hg⟩ := mq_cW_raw hg
  obtain ⟨v1, z1, z2, z3, hg⟩ := mq_mul_jk (ρ := ρ) hg
  obtain ⟨u1, y1, y2, y3, hg⟩ := mq_mul_jk (ρ := ρ) hg
  obtain ⟨cc, hg⟩ := mq_cond_of hg
  rw [mq_and_eq, mq_and_eq, mq_and_eq, mq_and_eq] at cc
  obtain ⟨⟨m1, m2, m3⟩, m4, m5⟩ := cc
  unfold mq_putW at hg
  obtain ⟨fp, hg⟩ := mq_cond_of hg
  rw [mq_hk_eq] at hg
  exact ⟨w, b, lw, v, v1, u1, ⟨hkn, hw⟩, ⟨c4, c1, c2⟩, ⟨z1, z2, z3⟩, ⟨y1, y2, y3⟩, ⟨mq_ne_of m1, mq_ne_of m2, mq_ne_of m3⟩, ⟨mq_fit_of (ρ := ρ) m4 z2, mq_fit_of (ρ := ρ) m5 y2, mq_fit_of (ρ := ρ) fp y2⟩, hg⟩
/-- by 1 nothing changes -/
theorem mq_str_one {ρ : Nat → Nat} {n one two sm b1 b2 b3 : Nat} {d : mq_T mq_W} {x : mq_N} {h : mj_H} {k : mq_Ht → mq_N → Bool} (hs : mq_Sat ρ []) (h1 : one < 1024) (h2 : two < 1024) (h3 : sm < 1024) (n1 : one ≠ two) (n2 : one ≠ sm) (n3 : two ≠ sm) (hx : mq_nv ρ x = 1) : ∀ (m : Nat) (t T : mq_Ht) (c : mq_N), mq_str d x one two sm m t c k = true → mq_I3 ρ n one two sm b1 b2 b3 t T h c → mq_nv ρ c = 1 → ∃ t' T' c', k t' c' = true ∧ mq_I3 ρ n one two sm b1 b2 b3 t' T' h c'
  | 0, t, T, c, hg, I, _ => ⟨t, T, c, hg, I⟩
  | m + 1, t, T, c, hg, I, hc => by
    obtain ⟨w, b, lw, v, c1, p, -, ⟨w1, w2, w3⟩, ⟨z1, z2, z3⟩, ⟨y1, y2, y3⟩, ⟨m1, m2, m3⟩, -, hg⟩ := mq_str_of hs hg
    have e1 : mq_nv ρ c1 = 1 := by rw [z1, hc, hx]; rfl
    have e2 : mq_nv ρ p = mq_nv ρ v := by rw [y1, e1, Int.mul_one]
    have J := I.s3 (c' := c1) h1 h2 h3 n1 n2 n3 (I.1.as h3 I.2.2.2.2.2.1 (fun _ => ⟨I.2.2.2.2.2.2.2, by rw [e1, hc]⟩) z2) z2 z3
    have Jw := J.w h1 h2 h3 n1 n2 n3 w1 m1 m2 m3 (J.1.as (v' := p) w1 ((J.2.2.1 w w1 m1 m2 m3).trans w2) (fun _ => ⟨w3, e2⟩) y2)
    exact mq_str_one hs h1 h2 h3 n1 n2 n3 hx m _ _ c1 hg Jw e1
set_option maxRecDepth 100000 in
theorem jw_str_loop {ρ : Nat → Nat} {n a q one two sm b1 b2 b3 pa len dep : Nat} {fs fq : List mq_W} {d : mq_T mq_W} {x : mq_N} {z : Int} (hs : mq_Sat ρ []) (ha : a < 1024) (hq : q < 1024) (hpa : pa < 1024) (h1 : one < 1024) (h2 : two < 1024) (h3 : sm < 1024)
    (f4 : 4 < fs.length ∧ mq_kn (mq_nth mq_U fs 4) = true ∧ mq_val ρ (mq_nth mq_U fs 4) = .ref one) (f5 : 5 < fs.length ∧ mq_kn (mq_nth mq_U fs 5) = true ∧ mq_val ρ (mq_nth mq_U fs 5) = .ref two) (f6 : 6 < fs.length ∧ mq_kn (mq_nth mq_U fs 6) = true ∧ mq_val ρ (mq_nth mq_U fs 6) = .ref sm)
    (g0 : 0 < fq.length ∧ mq_kn (mq_nth mq_U fq 0) = true ∧ mq_val ρ (mq_nth mq_U fq 0) = .ref pa) (n1 : one ≠ two) (n2 : one ≠ sm) (n3 : two ≠ sm)
    (N : ∀ y, (y = a ∨ y = q ∨ y = pa) → y ≠ one ∧ y ≠ two ∧ y ≠ sm) (hl : len ≤ 1000000) (hx : mq_nv ρ x = z) (hxf : mq_nf x) (hxj : mq_jk x = false) (hz : jR z) (hx4 : jnl (mq_nv ρ x).natAbs ≤ 240) {k : mq_Ht → mq_N → Bool} {Q : mj_R → Prop}
    (K : ∀ (t T : mq_Ht) (c : mq_N) (h : mj_H) (i : Int), k t c = true → mq_I3 ρ n one two sm b1 b2 b3 t T h c → mj_T 3 mj_m26 97 [some (.ref a), some (.ref q), some (.long (jl z)), none, some (.int (jn i))] [] h Q) :
    ∀ (m : Nat) (t T : mq_Ht) (c : mq_N) (h : mj_H) (i : Int), m ≤ len → mq_str d x one two sm m t c k = true → mq_I3 ρ n one two sm b1 b2 b3 t T h c → mq_hg t a = some (.inr (.inl (1, fs))) → mq_hg t q = some (.inr (.inl (3, fq))) → mq_hg t pa = some (.inl (5, len, dep, d)) → (z = 1 → mq_nv ρ c = 1) → jr i → (0 < m → i = (m : Int) - 1) → (m = 0 → i < 0) →
      mj_T 3 mj_m26 16 [some (.ref a), some (.ref q), some (.long (jl z)), none, some (.int (jn i))] [] h Q
  | 0, t, T, c, h, i, hm, hg, I, _, _, _, _, hi, _, hi0 => by
    refine mj_T.pl rfl rfl rfl rfl ?_
    refine mj_T.if0 rfl hi (fun hc => ?_) (fun hc => ?_)
    · exact K t T c h i hg I
    · simp only [jc, decide_eq_false_iff_not] at hc
      exact absurd (hi0 rfl) hc
  | m + 1, t, T, c, h, i, hm, hg, I, A, B, C, hz1, hi, hi1, _ => by
    have ei : i = (m : Int) := by have := hi1 (Nat.succ_pos m); omega
    subst ei
    refine mj_T.pl rfl rfl rfl rfl ?_
    refine mj_T.if0 rfl hi (fun hc => ?_) (fun hc => ?_)
    · simp only [jc, decide_eq_true_eq] at hc; omega
    clear hc
    iterate 2 refine mj_T.pl rfl rfl rfl rfl ?_
    refine mj_T.lif (b := 1) rfl rfl hz ⟨by omega, by omega⟩ (fun hc => ?_) (fun hc => ?_)
    · simp only [jc, decide_eq_true_eq] at hc
      obtain ⟨t', T', c', k1, I'⟩ := mq_str_one hs h1 h2 h3 n1 n2 n3 (hx.trans hc) (m + 1) t T c hg I (hz1 hc)
      exact K t' T' c' h _ k1 I'
    simp only [jc, decide_eq_false_iff_not] at hc
    obtain ⟨w, b, lw, v, c1, p, ⟨hkn, hw⟩, ⟨w1, w2, w3⟩, ⟨z1, z2, z3⟩, ⟨y1, y2, y3⟩, ⟨m1, m2, m3⟩, ⟨l1, l2, l3⟩, hg⟩ := mq_str_of hs hg
    obtain ⟨Na1, Na2, Na3⟩ := N a (Or.inl rfl)
    obtain ⟨Nq1, Nq2, Nq3⟩ := N q (Or.inr (Or.inl rfl))
    obtain ⟨Np1, Np2, Np3⟩ := N pa (Or.inr (Or.inr rfl))
    -- what the heap's cells say, whatever the three numbers are
    have cells : ∀ (T : mq_Ht) (h : mj_H) (c : mq_N), mq_I3 ρ n one two sm b1 b2 b3 t T h c → ∃ fs' fq' fa, h[a]? = some (.inr (1, fs')) ∧ fs'[4]? = some (.ref one) ∧ fs'[5]? = some (.ref two) ∧ fs'[6]? = some (.ref sm) ∧ h[q]? = some (.inr (3, fq')) ∧ fq'[0]? = some (.ref pa) ∧ h[pa]? = some (.inl (5, len, fa)) ∧ fa m = .ref w ∧ (∃ x1, h[one]? = some (.inr (8, x1))) ∧ (∃ x2, h[two]? = some (.inr (8, x2))) ∧ (∃ x3, h[sm]? = some (.inr (8, x3))) ∧ (∃ x4, h[w]? = some (.inr (8, x4))) := fun T h c I => by
      obtain ⟨R, W, F, ⟨u1, U1⟩, ⟨u2, U2⟩, U3, C1, C2⟩ := I
      obtain ⟨fs', hA, fA⟩ := R.obj ha ((F a ha Na1 Na2 Na3).trans A)
      obtain ⟨fq', hQ, fQ⟩ := R.obj hq ((F q hq Nq1 Nq2 Nq3).trans B)
      obtain ⟨fa, hP, -, fP⟩ := R.arr hpa ((F pa hpa Np1 Np2 Np3).trans C)
      obtain ⟨_, _, -, o1, -⟩ := R.wd h1 U1
      obtain ⟨_, _, -, o2, -⟩ := R.wd h2 U2
      obtain ⟨_, _, -, o3, -⟩ := R.wd h3 U3
      obtain ⟨_, _, -, o4, -⟩ := R.wd w1 ((F w w1 m1 m2 m3).trans w2)
      exact ⟨fs', fq', fa, hA, (fA 4 f4.1 f4.2.1).trans (congrArg some f4.2.2), (fA 5 f5.1 f5.2.1).trans (congrArg some f5.2.2), (fA 6 f6.1 f6.2.1).trans (congrArg some f6.2.2), hQ, (fQ 0 g0.1 g0.2.1).trans (congrArg some g0.2.2), hP, (fP m (by omega) hkn).trans hw, ⟨_, o1⟩, ⟨_, o2⟩, ⟨_, o3⟩, ⟨_, o4⟩⟩
    -- two.setLong(scale)
    obtain ⟨fs', fq', fa, hA, hf4, hf5, hf6, hQ, hg0, hP, hfm, ⟨x1, o1⟩, ⟨x2, o2⟩, ⟨x3, o3⟩, ⟨x4, o4⟩⟩ := cells T h c I
    obtain ⟨u2, U2⟩ := I.2.2.2.2.1
    refine mj_T.pl rfl rfl rfl rfl ?_
    refine mj_T.gfl rfl hA hf5 ?_
    refine mj_T.pl rfl rfl rfl rfl ?_
    refine mj_T.call (ins := .invokevirtual 70) rfl rfl (Nat.le_of_ble_eq_true rfl) (Nat.le_of_ble_eq_true rfl) (by simp [mj_recv, o2]) rfl (mq_k86 (D := 2) (x := z) (v := x) I.1 h2 U2 hz hx hxf hx4) (fun v' h' hq' => ?_) (fun i h' hq' => by obtain ⟨_, h, _⟩ := hq'; cases h)
    obtain ⟨ha1, hq', R1⟩ := hq'
    cases hq'
    have I1 := I.s2 h1 h2 h3 n1 n2 n3 R1
    have V2 : mq_hg (mq_hset T two (mq_wide b2 240 x)) two = mq_wide b2 240 x := by rw [mq_hg_set I.1.wl _ h2 h2, if_pos rfl]
    -- one.setProduct(small, two)
    clear hA hf4 hf5 hf6 hQ hg0 hP hfm o1 o2 o3 o4
    obtain ⟨fs', fq', fa, hA, hf4, hf5, hf6, hQ, hg0, hP, hfm, ⟨x1, o1⟩, ⟨x2, o2⟩, ⟨x3, o3⟩, ⟨x4, o4⟩⟩ := cells _ _ c I1
    obtain ⟨u1, U1⟩ := I1.2.2.2.1
    refine mj_T.pl rfl rfl rfl rfl ?_
    refine mj_T.gfl rfl hA hf4 ?_
    refine mj_T.pl rfl rfl rfl rfl ?_
    refine mj_T.gfl rfl hA hf6 ?_
    refine mj_T.pl rfl rfl rfl rfl ?_
    refine mj_T.gfl rfl hA hf5 ?_
    refine mj_T.call (ins := .invokevirtual 96) rfl rfl (Nat.le_of_ble_eq_true rfl) (Nat.le_of_ble_eq_true rfl) (by simp [mj_recv, o1]) rfl (mq_k95 (D := 2) (z := c1) I1.1 h1 h3 h2 (Ne.symm n3) n2 n1 U1 I1.2.2.2.2.2.1 I1.2.2.2.2.2.2.2 V2 hxj z1 z2 (Nat.le_trans l1 (by decide))) (fun v' h' hq' => ?_) (fun i h' hq' => by obtain ⟨_, h, _⟩ := hq'; cases h)
    obtain ⟨ha2, hq', R2⟩ := hq'
    cases hq'
    have I2 := I1.s1 h1 h2 h3 n1 n2 n3 R2
    have V1 : mq_hg (mq_hset (mq_hset T two (mq_wide b2 240 x)) one (mq_wide b1 240 c1)) one = mq_wide b1 240 c1 := by rw [mq_hg_set I1.1.wl _ h1 h1, if_pos rfl]
    -- small.set(one)
    clear hA hf4 hf5 hf6 hQ hg0 hP hfm o1 o2 o3 o4
    obtain ⟨fs', fq', fa, hA, hf4, hf5, hf6, hQ, hg0, hP, hfm, ⟨x1, o1⟩, ⟨x2, o2⟩, ⟨x3, o3⟩, ⟨x4, o4⟩⟩ := cells _ _ c I2
    refine mj_T.pl rfl rfl rfl rfl ?_
    refine mj_T.gfl rfl hA hf6 ?_
    refine mj_T.pl rfl rfl rfl rfl ?_
    refine mj_T.gfl rfl hA hf4 ?_
    refine mj_T.call (ins := .invokevirtual 104) rfl rfl (Nat.le_of_ble_eq_true rfl) (Nat.le_of_ble_eq_true rfl) (by simp [mj_recv, o3]) rfl (mq_k87 (D := 2) I2.1 h3 h1 (Ne.symm n2) I2.2.2.2.2.2.1 V1 z3 l1) (fun v' h' hq' => ?_) (fun i h' hq' => by obtain ⟨_, h, _⟩ := hq'; cases h)
    obtain ⟨ha3, hq', R3⟩ := hq'
    cases hq'
    have I3 := I2.s3 h1 h2 h3 n1 n2 n3 R3 z2 z3
    -- one.setProduct(part, small)
    clear hA hf4 hf5 hf6 hQ hg0 hP hfm o1 o2 o3 o4
    obtain ⟨fs', fq', fa, hA, hf4, hf5, hf6, hQ, hg0, hP, hfm, ⟨x1, o1⟩, ⟨x2, o2⟩, ⟨x3, o3⟩, ⟨x4, o4⟩⟩ := cells _ _ c1 I3
    obtain ⟨u3, U4⟩ := I3.2.2.2.1
    refine mj_T.pl rfl rfl rfl rfl ?_
    refine mj_T.gfl rfl hA hf4 ?_
    iterate 2 refine mj_T.pl rfl rfl rfl rfl ?_
    refine mj_T.call (ins := .invokevirtual 66) rfl rfl (Nat.le_of_ble_eq_true rfl) (Nat.le_of_ble_eq_true rfl) (by simp [mj_recv, hQ]) rfl (jw_part (D := 2) hQ hg0 hP rfl (show m < len by omega) hl hfm) (fun v' h' hq' => ?_) (fun i h' hq' => by cases hq')
    cases hq'
    refine mj_T.pl rfl rfl rfl rfl ?_
    refine mj_T.gfl rfl hA hf6 ?_
    refine mj_T.call (ins := .invokevirtual 96) rfl rfl (Nat.le_of_ble_eq_true rfl) (Nat.le_of_ble_eq_true rfl) (by simp [mj_recv, o1]) rfl (mq_k95 (D := 2) (z := p) I3.1 h1 w1 h3 m3 (Ne.symm m1) n2 U4 ((I3.2.2.1 w w1 m1 m2 m3).trans w2) w3 I3.2.2.2.2.2.1 z3 y1 y2 l2) (fun v' h' hq' => ?_) (fun i h' hq' => by obtain ⟨_, h, _⟩ := hq'; cases h)
    obtain ⟨ha4, hq', R4⟩ := hq'
    cases hq'
    have I4 := I3.s1 h1 h2 h3 n1 n2 n3 R4
    have V4 := (mq_hg_set I3.1.wl (mq_wide b1 240 p) h1 h1).trans (if_pos rfl)
    -- part.set(one)
    clear hA hf4 hf5 hf6 hQ hg0 hP hfm o1 o2 o3 o4
    obtain ⟨fs', fq', fa, hA, hf4, hf5, hf6, hQ, hg0, hP, hfm, ⟨x1, o1⟩, ⟨x2, o2⟩, ⟨x3, o3⟩, ⟨x4, o4⟩⟩ := cells _ _ c1 I4
    iterate 2 refine mj_T.pl rfl rfl rfl rfl ?_
    refine mj_T.call (ins := .invokevirtual 66) rfl rfl (Nat.le_of_ble_eq_true rfl) (Nat.le_of_ble_eq_true rfl) (by simp [mj_recv, hQ]) rfl (jw_part (D := 2) hQ hg0 hP rfl (show m < len by omega) hl hfm) (fun v' h' hq' => ?_) (fun i h' hq' => by cases hq')
    cases hq'
    refine mj_T.pl rfl rfl rfl rfl ?_
    refine mj_T.gfl rfl hA hf4 ?_
    refine mj_T.call (ins := .invokevirtual 104) rfl rfl (Nat.le_of_ble_eq_true rfl) (Nat.le_of_ble_eq_true rfl) (by simp [mj_recv, o4]) rfl (mq_k87 (D := 2) I4.1 w1 h1 m1 ((I4.2.2.1 w w1 m1 m2 m3).trans w2) V4 y3 l3) (fun v' h' hq' => ?_) (fun i h' hq' => by obtain ⟨_, h, _⟩ := hq'; cases h)
    obtain ⟨ha5, hq', R5⟩ := hq'
    cases hq'
    have I5 := I4.w h1 h2 h3 n1 n2 n3 w1 m1 m2 m3 R5
    refine mj_T.iinc (a := m) rfl rfl ?_
    refine mj_T.pl rfl rfl rfl rfl ?_
    have keep : ∀ y, y < 1024 → mq_hg t y ≠ mq_wide b lw v → mq_hg (mq_hset t w (mq_wide b lw p)) y = mq_hg t y := fun y hy hc => by rw [mq_hg_set I.2.1 _ w1 hy, if_neg (fun e => hc (by rw [e]; exact w2))]
    exact jw_str_loop hs ha hq hpa h1 h2 h3 f4 f5 f6 g0 n1 n2 n3 N hl hx hxf hxj hz hx4 K m _ _ c1 _ ((m : Int) + -1) (by omega) hg I5 ((keep a ha (by rw [A]; intro e; cases e)).trans A) ((keep q hq (by rw [B]; intro e; cases e)).trans B) ((keep pa hpa (by rw [C]; intro e; cases e)).trans C) (fun e => absurd e hc) ⟨by omega, by omega⟩ (fun _ => by omega) (fun e => by omega)
theorem mq_w26 : mq_okO 26 3 mq_o_str := by
  intro ρ as n t env kr kx h hl g hs hr
  obtain ⟨w1, s1, a, e, rfl, e1, S, g1⟩ := mq_pA_of g hs
  obtain ⟨w2, s2, q, e2, rfl, e3, S2, g2⟩ := mq_pA_of g1 S
  obtain ⟨w3, s3, x, z, e4, rfl, e5, hz, hx, hxf, S3, g3⟩ := mq_pN_of g2 S2
  have hs2 : s3 = [] := mq_len1 (by simpa using hl)
  subst hs2
  obtain ⟨ci, fs, fs', A, hA, -, fA, ha, g4⟩ := mq_cO_of g3 hr
  obtain ⟨cq, fq, fq', B, hB, -, fB, hq, g5⟩ := mq_cO_of g4 hr
  obtain ⟨one, ea, f4, Sa, g6⟩ := mq_fA_kn g5 hs.nil
  obtain ⟨two, eb, f5, Sb, g7⟩ := mq_fA_kn g6 hs.nil
  obtain ⟨sm, ec, f6, Sc, g8⟩ := mq_fA_kn g7 hs.nil
  obtain ⟨b1, l1, v1, _, _, O1, -, hO, -, -, -, -, -, -, -, ho, -, g9⟩ := mq_cV_of g8 hr
  obtain ⟨b2, l2, v2, _, _, T1, -, hT, -, -, -, -, -, -, -, ht, -, g10⟩ := mq_cV_of g9 hr
  obtain ⟨b3, l3, v3, _, _, M1, -, hM, -, -, -, -, -, -, -, hm, -, g11⟩ := mq_cV_of g10 hr
  obtain ⟨pa, ed, q0, Sd, g12⟩ := mq_fA_kn g11 hs.nil
  have hkd : mq_kn (mq_nth mq_U fq 2) = true := by
    rcases mq_Wd (mq_nth mq_U fq 2) with ⟨n, e⟩ | ⟨a, e⟩ | ⟨n, e⟩ | ⟨i, m, c, e⟩ | ⟨i, e⟩ | ⟨i, lo, l, e⟩ | ⟨x, e⟩ | ⟨x, e⟩ | e | e | e | e | e <;> rw [e] at g12 ⊢ <;> first | rfl | cases g12
  obtain ⟨dg, e6, hdg, S6, g13⟩ := mq_vI_of g12 S3
  obtain ⟨ty, len, dep, d, f, C, hC, hCl, -, hpa, g14⟩ := mq_cA_of g13 hr
  obtain ⟨cc, g15⟩ := mq_cond_of g14
  rw [mq_and_eq, mq_and_eq, mq_and_eq, mq_and_eq, mq_and_eq, mq_and_eq, mq_and_eq, mq_and_eq, mq_and_eq, mq_and_eq, mq_and_eq] at cc
  obtain ⟨⟨⟨c1, c2, c3⟩, c4, c5, c6⟩, ⟨c7, c8, c9⟩, c10, c11, c12⟩ := cc
  have c1 : ci = 1 := Nat.beq_eq.mp c1
  have c2 : ty = 5 := Nat.beq_eq.mp c2
  have c3 : cq = 3 := Nat.beq_eq.mp c3
  have c4 : l1 = 240 := Nat.beq_eq.mp c4
  have c5 : l2 = 240 := Nat.beq_eq.mp c5
  have c6 : l3 = 40 := Nat.beq_eq.mp c6
  have c7 : mq_add32 dg 1 - 1 ≤ len := Nat.ble_eq.mp c7
  have c9 : mq_jk x = false := by
    cases hj : mq_jk x
    · rfl
    · rw [hj] at c9; cases c9
  have c10 := mq_ne_of c10
  have c11 := mq_ne_of c11
  have c12 := mq_ne_of c12
  subst c1 c2 c3 c4 c5 c6
  have hx4 := mq_fit_of (ρ := ρ) c8 hxf
  rw [List.map_cons, List.map_cons, List.map_cons, List.map_nil, e1, e3, e5]
  refine (mj_Ok.of (D := 3) (M := mj_m26) rfl rfl rfl ?_).up (by omega)
  refine mj_T.pl rfl rfl rfl rfl ?_
  refine mj_T.gfl rfl hA ((fA 6 f6.1 f6.2.1).trans (congrArg some f6.2.2)) ?_
  refine mj_T.pl rfl rfl rfl rfl ?_
  refine mj_T.call (ins := .invokevirtual 70) rfl rfl (Nat.le_of_ble_eq_true rfl) (Nat.le_of_ble_eq_true rfl) (by simp [mj_recv, hM]) rfl (mq_k86 (D := 2) (x := 1) (v := Sum.inl (1, 0)) hr hm M1 ⟨by omega, by omega⟩ rfl (Or.inr rfl) (mq_fit_of (ρ := ρ) (v := Sum.inl (1, 0)) (len := 40) rfl (Or.inr rfl))) (fun v' h' hq' => ?_) (fun i h' hq' => by obtain ⟨_, h, _⟩ := hq'; cases h)
  obtain ⟨h1, hq', R1⟩ := hq'
  cases hq'
  have ft : ∀ y, y < 1024 → y ≠ sm → mq_hg (mq_hset t sm (mq_wide b3 40 (Sum.inl (1, 0)))) y = mq_hg t y := fun y hy hn => by rw [mq_hg_set hr.wl _ hm hy, if_neg hn]
  have I0 : mq_I3 ρ n one two sm b1 b2 b3 t (mq_hset t sm (mq_wide b3 40 (Sum.inl (1, 0)))) h' (Sum.inl (1, 0)) := by
    refine ⟨R1, hr.wl, fun y hy _ _ n3 => ft y hy n3, ⟨v1, (ft one ho c11).trans O1⟩, ⟨v2, (ft two ht c12).trans T1⟩, ?_, Or.inr rfl, rfl⟩
    rw [mq_hg_set hr.wl _ hm hm, if_pos rfl]
  have n4 : q ≠ sm := mq_wide_ne B M1 (by intro e; cases e)
  obtain ⟨fq1, hQ, fQ⟩ := R1.obj hq ((ft q hq n4).trans B)
  have hdg3 := (fQ 2 (mq_kn_lt hkd) hkd).trans (congrArg some hdg)
  refine mj_T.pl rfl rfl rfl rfl ?_
  refine mj_T.gfl rfl hQ hdg3 ?_
  refine mj_T.pl rfl rfl rfl rfl ?_
  have hlt : mq_add32 dg 1 < 4294967296 := Nat.mod_lt _ (by decide)
  obtain ⟨i0, ei, hi, hi1, hi2⟩ : ∃ i0 : Int, jn (dg : Nat) = jn (i0 + 1) ∧ jr i0 ∧ (0 < mq_add32 dg 1 - 1 → i0 = ((mq_add32 dg 1 - 1 : Nat) : Int) - 1) ∧ (mq_add32 dg 1 - 1 = 0 → i0 < 0) := by
    have hm : jn (dg : Nat) = jn (((mq_add32 dg 1 : Nat) : Int) - 1) := by
      rw [← jn_sub, mq_jn_add]
      show jn (dg : Nat) = jn (dg : Nat) + jn 1 - jn 1
      rw [jn_add, jn_sub]
      congr 1
      omega
    have hc2 := hCl.2
    refine ⟨((mq_add32 dg 1 : Nat) : Int) - 2, ?_, ⟨by omega, by omega⟩, fun _ => by omega, fun _ => by omega⟩
    rw [hm]
    congr 1
    omega
  rw [ei]
  refine mj_T.isub rfl ?_
  rw [show i0 + 1 - 1 = i0 by omega]
  refine mj_T.pl rfl rfl rfl rfl ?_
  refine jw_str_loop (k := fun t c => mq_hk t one (mq_wide b1 240 mq_jN) fun t => mq_hk t two (mq_wide b2 240 mq_jN) fun t => mq_hk t sm (mq_wide b3 40 c) fun t => kr mq_U n t e6) hs.nil ha hq hpa ho ht hm f4 f5 f6 q0 c10 c11 c12 (fun y hy => ?_) hCl.2 hx hxf c9 hz hx4 (fun t' T' c' h' i' k1 I' => ?_) _ t _ _ _ i0 c7 g15 I0 A B C (fun _ => rfl) hi hi1 hi2
  · rcases hy with q | q | q <;> subst q
    · exact ⟨mq_wide_ne A O1 (by intro e; cases e), mq_wide_ne A T1 (by intro e; cases e), mq_wide_ne A M1 (by intro e; cases e)⟩
    · exact ⟨mq_wide_ne B O1 (by intro e; cases e), mq_wide_ne B T1 (by intro e; cases e), mq_wide_ne B M1 (by intro e; cases e)⟩
    · exact ⟨mq_wide_ne C O1 (by intro e; cases e), mq_wide_ne C T1 (by intro e; cases e), mq_wide_ne C M1 (by intro e; cases e)⟩
  · rw [mq_hk_eq, mq_hk_eq, mq_hk_eq] at k1
    exact mj_T.ret rfl rfl rfl ⟨mq_U, n, _, e6, rfl, I'.fin ho ht hm c10 c11 c12, S6, k1⟩
