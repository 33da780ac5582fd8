/-! The reference's degree, at once. -/
theorem jq_slot {D p i : Nat} {h : mj_H} : mj_Ok (D + 1) 196 [.int (jn (p : Nat)), .int (jn (i : Nat))] h (fun r => r = (.inl (some (.int (jn (p * 13 + i : Nat)))), h)) := by
  refine mj_Ok.of (M := mj_m196) rfl rfl rfl ?_
  iterate 2 refine mj_T.pl rfl rfl rfl rfl ?_
  refine mj_T.imul (b := 13) rfl ?_
  refine mj_T.pl rfl rfl rfl rfl ?_
  refine mj_T.iadd rfl ?_
  refine mj_T.ret rfl rfl rfl ?_
  rw [show ((p * 13 + i : Nat) : Int) = (p : Int) * 13 + (i : Int) by omega]
theorem jq_deg_loop {ρ : Nat → Nat} {a b p : Nat} {h : mj_H} {fs' : List Value} {bg : Nat → Int32} {d : mq_T mq_N} {k : Nat → Bool} {Q : mj_R → Prop} (h1 : h[a]? = some (.inr (10, fs'))) (h2 : fs'[4]? = some (.ref b)) (h4 : h[b]? = some (.inl (0, 466830, fun j => .int (bg j)))) (h6 : ∀ s, s < 665 → jrs bg s (mq_nv ρ (mq_get d s)) ∧ mq_nf (mq_get d s)) (hp : p ≤ 49) (K : ∀ m, m ≤ 13 → k m = true → mj_T 1 mj_m197 25 [some (.ref a), some (.int (jn (p : Nat))), some (.int (jn ((m : Int) - 1)))] [] h Q) : ∀ m, m ≤ 13 → mq_deg d (p * 13) m k = true → mj_T 1 mj_m197 3 [some (.ref a), some (.int (jn (p : Nat))), some (.int (jn ((m : Int) - 1)))] [] h Q
  | 0, hm, hg => by
    refine mj_T.pl rfl rfl rfl rfl ?_
    refine mj_T.if0 rfl ⟨by omega, by omega⟩ (fun hc => ?_) (fun hc => ?_)
    · exact K 0 (by omega) hg
    · simp only [jc, decide_eq_false_iff_not] at hc
      omega
  | m + 1, hm, hg => by
    have g0 : mq_nZ (mq_get d (p * 13 + m)) (fun q n => Bool.rec (motive := fun _ => Bool) (mq_deg d (p * 13) m k) (k (m + 1)) (Nat.ble 1 (q + n))) = true := hg
    obtain ⟨k1, k2⟩ := h6 (p * 13 + m) (by omega)
    obtain ⟨q, n, hv, g1⟩ := mq_nZ_of g0
    rw [hv] at k1 k2
    have ea := mq_nv_abs (ρ := ρ) k2
    generalize mq_nv ρ (Sum.inl (q, n)) = v at k1 ea
    have hsr := jsg_range v
    have K1 := K (m + 1) hm
    rw [show ((m + 1 : Nat) : Int) - 1 = (m : Int) by omega] at K1 ⊢
    refine mj_T.pl rfl rfl rfl rfl ?_
    refine mj_T.if0 rfl ⟨by omega, by omega⟩ (fun hc => ?_) (fun hc => ?_)
    · simp only [jc, decide_eq_true_eq] at hc
      omega
    · iterate 3 refine mj_T.pl rfl rfl rfl rfl ?_
      refine mj_T.call (ins := .invokestatic 104) rfl rfl (Nat.le_of_ble_eq_true rfl) (Nat.le_of_ble_eq_true rfl) rfl rfl (jq_slot (D := 0) (p := p) (i := m)) (fun v' h' hq' => ?_) (fun i h' hq' => by cases hq')
      cases hq'
      refine mj_T.call (ins := .invokevirtual 68) rfl rfl (Nat.le_of_ble_eq_true rfl) (Nat.le_of_ble_eq_true rfl) (by simp [mj_recv, h1]) rfl (jq_sign (D := 0) h1 h2 h4 (show p * 13 + m < 665 by omega) k1) (fun v' h' hq' => ?_) (fun i h' hq' => by cases hq')
      cases hq'
      cases hb : Nat.ble 1 (q + n) with
      | false =>
        rw [hb] at g1
        have hv0 : v = 0 := by
          have : ¬ (1 ≤ q + n) := by rw [← Nat.ble_eq, hb]; exact Bool.false_ne_true
          omega
        have ih := jq_deg_loop h1 h2 h4 h6 hp K m (by omega) g1
        rw [hv0, jsg_zero]
        refine mj_T.if0 rfl ⟨by omega, by omega⟩ (fun hc => ?_) (fun hc => ?_)
        · exact absurd hc (by simp [jc])
        · refine mj_T.iinc rfl rfl ?_
          refine mj_T.pl rfl rfl rfl rfl ?_
          exact ih
      | true =>
        rw [hb] at g1
        have h1q : 1 ≤ q + n := Nat.ble_eq.mp hb
        refine mj_T.if0 rfl ⟨by omega, by omega⟩ (fun hc => ?_) (fun hc => ?_)
        · exact K1 g1
        · simp only [jc, Bool.not_eq_false', decide_eq_true_eq] at hc
          rcases Int.lt_trichotomy v 0 with c | c | c
          · rw [jsg_neg c] at hc
            omega
          · omega
          · rw [jsg_pos c] at hc
            omega
theorem mq_w197 : mq_okO 197 2 mq_r_deg := by
  intro ρ as n t env kr kx h hl g hs hr
  obtain ⟨w, s, a, e, rfl, e1, S, g1⟩ := mq_pA_of g hs
  obtain ⟨w2, s2, p, e2, rfl, e3, S2, g2⟩ := mq_pI_of g1 S
  have hs2 : s2 = [] := mq_len1 (by simpa using hl)
  subst hs2
  obtain ⟨b, d, fs', bg, h1, h2, h3, h4, h5, h6, h7, g3⟩ := mq_rS_of g2 S2 hr
  obtain ⟨q, g4⟩ := mq_cond_of g3
  have q : p ≤ 49 := Nat.ble_eq.mp q
  rw [List.map_cons, List.map_cons, List.map_nil, e1, e3]
  refine (mj_Ok.of (D := 1) (M := mj_m197) rfl rfl rfl ?_).up (by omega)
  iterate 2 refine mj_T.pl rfl rfl rfl rfl ?_
  refine jq_deg_loop (ρ := ρ) h1 h2 h4 h6 q (fun m hm hk => ?_) 13 (Nat.le_refl _) g4
  refine mj_T.pl rfl rfl rfl rfl ?_
  refine mj_T.ret rfl rfl rfl ⟨_, _, _, _, ?_, hr, S2, hk⟩
  show some (Value.int (jn ((m : Int) - 1))) = some (Value.int (jn (mq_sub32 m 1 : Nat)))
  rw [mq_jn_sub, ← jn_sub]
  rfl
