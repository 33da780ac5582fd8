/-! The reference's small methods, at once. -/
theorem mq_Sat.nil {ρ : Nat → Nat} {env : mq_V} (hs : mq_Sat ρ env) : mq_Sat ρ [] := ⟨hs.bd, ⟨hs.rk, hs.vq⟩, hs.op, fun i lo hi h => by
  have h1 : ((0 : Nat), (4294967295 : Nat)) = (lo, hi) := h
  injection h1 with h1 h2
  have := hs.bd i
  omega⟩
theorem mq_vA_kn {w : mq_W} {env : mq_V} {k : Nat → mq_V → Bool} (h : mq_vA w env k = true) : mq_kn w = true := by
  rcases mq_Wd w with ⟨n, rfl⟩ | ⟨a, rfl⟩ | ⟨n, rfl⟩ | ⟨i, m, c, rfl⟩ | ⟨i, rfl⟩ | ⟨i, lo, l, rfl⟩ | ⟨x, rfl⟩ | ⟨x, rfl⟩ | rfl | rfl | rfl | rfl | rfl <;> first | rfl | cases h
theorem mq_kn_lt {fs : List mq_W} {i : Nat} (h : mq_kn (mq_nth mq_U fs i) = true) : i < fs.length := by
  rcases Nat.lt_or_ge i fs.length with q | q
  · exact q
  · rw [mq_nth_ge q] at h
    cases h
/-- a known reference in a field -/
theorem mq_fA_of {ρ : Nat → Nat} {fs : List mq_W} {fs' : List Value} {env e : mq_V} {i : Nat} {k : Nat → mq_V → Bool} (h : mq_vA (mq_nth mq_U fs i) e k = true) (hs : mq_Sat ρ e) (h4 : ∀ i, i < fs.length → mq_kn (mq_nth mq_U fs i) = true → fs'[i]? = some (mq_val ρ (mq_nth mq_U fs i))) : ∃ b e', fs'[i]? = some (.ref b) ∧ mq_Sat ρ e' ∧ k b e' = true := by
  obtain ⟨b, e', h1, h2, h3⟩ := mq_vA_of h hs
  have hk := mq_vA_kn h
  refine ⟨b, e', ?_, h2, h3⟩
  rw [h4 i (mq_kn_lt hk) hk, h1]
theorem mq_rS_of {ρ : Nat → Nat} {n a : Nat} {t : mq_Ht} {h : mj_H} {env : mq_V} {k : Nat → mq_T mq_N → Bool} (hh : mq_rS t a k = true) (hs : mq_Sat ρ env) (hr : mq_Hr ρ n t h) : ∃ b d fs', ∃ bg : Nat → Int32, h[a]? = some (.inr (10, fs')) ∧ fs'[4]? = some (.ref b) ∧ mq_hg t b = mq_slots d ∧ h[b]? = some (.inl (0, 466830, fun j => .int (bg j))) ∧ mq_wl 10 665 d ∧ (∀ s, s < 665 → jrs bg s (mq_nv ρ (mq_get d s)) ∧ mq_nf (mq_get d s)) ∧ b < 1024 ∧ k b d = true := by
  unfold mq_rS at hh
  obtain ⟨ci, fs, fs', h1, h2, h3, h4, h5, g⟩ := mq_cO_of hh hr
  obtain ⟨q, g2⟩ := mq_cond_of g
  have q : ci = 10 := Nat.beq_eq.mp q
  subst q
  obtain ⟨b, e', k1, k2, g3⟩ := mq_fA_of (env := env) g2 hs.nil h4
  obtain ⟨d, bg, l1, l2, l3, l4, l5, g4⟩ := mq_cS_of g3 hr
  exact ⟨b, d, fs', bg, h2, k1, l1, l2, l3, l4, l5, g4⟩
theorem mq_w196 : mq_okO 196 2 mq_r_slot := by
  intro ρ as n t env kr kx h hl g hs hr
  obtain ⟨w, s, p, e, rfl, e1, S, g1⟩ := mq_pI_of g hs
  obtain ⟨w2, s2, i, e2, rfl, e3, S2, g2⟩ := mq_pI_of g1 S
  have hs2 : s2 = [] := mq_len1 (by simpa using hl)
  subst hs2
  obtain ⟨q, g3⟩ := mq_cond_of g2
  rw [List.map_cons, List.map_cons, List.map_nil, e1, e3]
  refine (mj_Ok.of (D := 0) (M := mj_m196) rfl rfl rfl ?_).up (by omega)
  iterate 2 refine mj_T.pl rfl rfl rfl rfl ?_
  refine mj_T.imul (b := 13) rfl ?_
  refine mj_T.pl rfl rfl rfl rfl ?_
  refine mj_T.iadd rfl ?_
  refine mj_T.ret rfl rfl rfl ⟨_, _, _, _, ?_, hr, S2, g3⟩
  show some (Value.int (jn ((p : Int) * 13 + (i : Int)))) = some (Value.int (jn ((p * 13 + i : Nat) : Int)))
  rw [show ((p * 13 + i : Nat) : Int) = (p : Int) * 13 + (i : Int) by omega]
theorem mq_w178 : mq_okO 178 2 mq_r_sign := by
  intro ρ as n t env kr kx h hl g hs hr
  obtain ⟨w, s, a, e, rfl, e1, S, g1⟩ := mq_pA_of g hs
  obtain ⟨w2, s2, i, e2, rfl, e3, S2, g2⟩ := mq_pI_of g1 S
  have hs2 : s2 = [] := mq_len1 (by simpa using hl)
  subst hs2
  obtain ⟨b, d, fs', bg, h1, h2, h3, h4, h5, h6, h7, g3⟩ := mq_rS_of g2 S2 hr
  obtain ⟨q, g4⟩ := mq_cond_of g3
  have q : i + 1 ≤ 665 := Nat.ble_eq.mp q
  obtain ⟨k1, k2⟩ := h6 i (by omega)
  obtain ⟨x, e4, hx, S4, g5⟩ := mq_sgn_of (ρ := ρ) g4 k2 S2
  rw [List.map_cons, List.map_cons, List.map_nil, e1, e3]
  refine (mj_Ok.of (D := 0) (M := mj_m178) rfl rfl rfl ?_).up (by omega)
  refine mj_T.pl rfl rfl rfl rfl ?_
  refine mj_T.step (loc' := mj_loc0 2 [.ref a, .int (jn i)]) (st' := [.ref b]) (h' := h) (pc' := 4) rfl rfl (by simp only [mj_step, h1, h2, if_true]; rfl) ?_
  iterate 2 refine mj_T.pl rfl rfl rfl rfl ?_
  refine mj_T.imul (b := 702) rfl ?_
  rw [show (i : Int) * 702 = ((i * 702 : Nat) : Int) by omega]
  refine mj_T.ialv rfl h4 ⟨by omega, by omega⟩ ⟨by omega, by omega⟩ k1.1 ?_
  refine mj_T.ret rfl rfl rfl ⟨_, _, _, _, ?_, hr, S4, g5⟩
  show some (Value.int (jn (jsg (mq_nv ρ (mq_get d i))))) = some (Value.int (jn (x : Nat)))
  rw [hx]
theorem mq_w179 : mq_okO 179 2 mq_r_length := by
  intro ρ as n t env kr kx h hl g hs hr
  obtain ⟨w, s, a, e, rfl, e1, S, g1⟩ := mq_pA_of g hs
  obtain ⟨w2, s2, i, e2, rfl, e3, S2, g2⟩ := mq_pI_of g1 S
  have hs2 : s2 = [] := mq_len1 (by simpa using hl)
  subst hs2
  obtain ⟨b, d, fs', bg, h1, h2, h3, h4, h5, h6, h7, g3⟩ := mq_rS_of g2 S2 hr
  obtain ⟨q, g4⟩ := mq_cond_of g3
  have q : i + 1 ≤ 665 := Nat.ble_eq.mp q
  obtain ⟨k1, k2⟩ := h6 i (by omega)
  obtain ⟨p, m, hv, g5⟩ := mq_nZ_of g4
  rw [hv] at k1 k2
  have ea := mq_nv_abs (ρ := ρ) k2
  have k3 := k1.2.2.2
  rw [ea] at k3
  have e4 : mq_nl (Nat.add p m) = jnl (p + m) := mq_nl_jnl (x := p + m) k3
  rw [e4] at g5
  rw [List.map_cons, List.map_cons, List.map_nil, e1, e3]
  refine (mj_Ok.of (D := 0) (M := mj_m179) rfl rfl rfl ?_).up (by omega)
  refine mj_T.pl rfl rfl rfl rfl ?_
  refine mj_T.step (loc' := mj_loc0 2 [.ref a, .int (jn i)]) (st' := [.ref b]) (h' := h) (pc' := 4) rfl rfl (by simp only [mj_step, h1, h2, if_true]; rfl) ?_
  iterate 2 refine mj_T.pl rfl rfl rfl rfl ?_
  refine mj_T.imul (b := 702) rfl ?_
  refine mj_T.pl rfl rfl rfl rfl ?_
  refine mj_T.iadd (b := 1) rfl ?_
  rw [show (i : Int) * 702 + 1 = ((i * 702 + 1 : Nat) : Int) by omega]
  refine mj_T.ialv rfl h4 ⟨by omega, by omega⟩ ⟨by omega, by omega⟩ k1.2.1 ?_
  refine mj_T.ret rfl rfl rfl ⟨_, _, _, _, ?_, hr, S2, g5⟩
  show some (Value.int (jn (jnl (mq_nv ρ (Sum.inl (p, m))).natAbs : Nat))) = some (Value.int (jn (jnl (p + m) : Nat)))
  rw [ea]
