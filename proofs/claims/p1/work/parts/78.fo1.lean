/-! The class's numbers, at once. -/
theorem mq_len1 {as : List mq_W} (h : as.length = 0) : as = [] := List.length_eq_zero_iff.mp h
/-- a contract of a number's two cells, where they lie -/
theorem mq_at2 {D j : Nat} {as : List Value} {Q : mj_R → Prop} {h : mj_H} {a b : Nat} {e0 e1 : mj_E} (c : mj_Ok D j as [e0, e1] Q) (hab : a ≠ b) (h0 : h[a]? = some (mj_rE (jrho [a, b] h.length) e0)) (h1 : h[b]? = some (mj_rE (jrho [a, b] h.length) e1)) (hK : ∀ r, Q r → r.2.length = 2) :
    mj_Ok D j (as.map (mj_rn (jrho [a, b] h.length))) h (fun r => ∃ r0 K', Q (r0, K') ∧ r = (mj_rR (jrho [a, b] h.length) r0, jlay (mj_rE (jrho [a, b] h.length)) [a, b] K' h)) := by
  have ha := (List.getElem?_eq_some_iff.mp h0).1
  have hb := (List.getElem?_eq_some_iff.mp h1).1
  refine c.at [a, b] rfl (by simp [hab]) (fun p hp => ?_) (fun i p e hi he => ?_) hK
  · rcases List.mem_cons.mp hp with q | q
    · omega
    · have : p = b := by simpa using q
      omega
  · match i, hi, he with
    | 0, hi, he => cases hi; cases he; exact h0
    | 1, hi, he => cases hi; cases he; exact h1
    | i + 2, hi, he => simp at hi
theorem mq_lim_inj {a o : Nat} (h : mq_lim a = mq_lim o) : a = o := by
  unfold mq_lim at h
  injection h with h
  injection h with h
  injection h with h
  injection h with h
  injection h with h
  injection h with h
theorem mq_disj {t : mq_Ht} {a b len o d len2 : Nat} {v v2 : mq_N} (h1 : mq_hg t a = mq_wide b len v) (h9 : mq_hg t b = mq_lim a) (k1 : mq_hg t o = mq_wide d len2 v2) (k9 : mq_hg t d = mq_lim o) (hao : a ≠ o) : b ≠ o ∧ d ≠ a ∧ b ≠ d := by
  refine ⟨fun q => ?_, fun q => ?_, fun q => ?_⟩
  · rw [q, k1] at h9; cases h9
  · rw [q, h1] at k9; cases k9
  · rw [q] at h9
    exact hao (mq_lim_inj (h9.symm.trans k9))
theorem mq_at4 {D j : Nat} {as : List Value} {Q : mj_R → Prop} {h : mj_H} {a b o d : Nat} {e0 e1 e2 e3 : mj_E} (c : mj_Ok D j as [e0, e1, e2, e3] Q) (nd : [a, b, o, d].Nodup) (h0 : h[a]? = some (mj_rE (jrho [a, b, o, d] h.length) e0)) (h1 : h[b]? = some (mj_rE (jrho [a, b, o, d] h.length) e1)) (h2 : h[o]? = some (mj_rE (jrho [a, b, o, d] h.length) e2)) (h3 : h[d]? = some (mj_rE (jrho [a, b, o, d] h.length) e3)) (hK : ∀ r, Q r → r.2.length = 4) :
    mj_Ok D j (as.map (mj_rn (jrho [a, b, o, d] h.length))) h (fun r => ∃ r0 K', Q (r0, K') ∧ r = (mj_rR (jrho [a, b, o, d] h.length) r0, jlay (mj_rE (jrho [a, b, o, d] h.length)) [a, b, o, d] K' h)) := by
  have g0 := (List.getElem?_eq_some_iff.mp h0).1
  have g1 := (List.getElem?_eq_some_iff.mp h1).1
  have g2 := (List.getElem?_eq_some_iff.mp h2).1
  have g3 := (List.getElem?_eq_some_iff.mp h3).1
  refine c.at [a, b, o, d] rfl nd (fun p hp => ?_) (fun i p e hi he => ?_) hK
  · simp only [List.mem_cons, List.not_mem_nil, or_false] at hp
    rcases hp with q | q | q | q <;> rw [q] <;> assumption
  · match i, hi, he with
    | 0, hi, he => cases hi; cases he; exact h0
    | 1, hi, he => cases hi; cases he; exact h1
    | 2, hi, he => cases hi; cases he; exact h2
    | 3, hi, he => cases hi; cases he; exact h3
    | i + 4, hi, he => simp at hi
theorem mq_at6 {D j : Nat} {as : List Value} {Q : mj_R → Prop} {h : mj_H} {a b o d u x : Nat} {e0 e1 e2 e3 e4 e5 : mj_E} (c : mj_Ok D j as [e0, e1, e2, e3, e4, e5] Q) (nd : [a, b, o, d, u, x].Nodup) (h0 : h[a]? = some (mj_rE (jrho [a, b, o, d, u, x] h.length) e0)) (h1 : h[b]? = some (mj_rE (jrho [a, b, o, d, u, x] h.length) e1)) (h2 : h[o]? = some (mj_rE (jrho [a, b, o, d, u, x] h.length) e2)) (h3 : h[d]? = some (mj_rE (jrho [a, b, o, d, u, x] h.length) e3)) (h4 : h[u]? = some (mj_rE (jrho [a, b, o, d, u, x] h.length) e4)) (h5 : h[x]? = some (mj_rE (jrho [a, b, o, d, u, x] h.length) e5)) (hK : ∀ r, Q r → r.2.length = 6) :
    mj_Ok D j (as.map (mj_rn (jrho [a, b, o, d, u, x] h.length))) h (fun r => ∃ r0 K', Q (r0, K') ∧ r = (mj_rR (jrho [a, b, o, d, u, x] h.length) r0, jlay (mj_rE (jrho [a, b, o, d, u, x] h.length)) [a, b, o, d, u, x] K' h)) := by
  have g0 := (List.getElem?_eq_some_iff.mp h0).1
  have g1 := (List.getElem?_eq_some_iff.mp h1).1
  have g2 := (List.getElem?_eq_some_iff.mp h2).1
  have g3 := (List.getElem?_eq_some_iff.mp h3).1
  have g4 := (List.getElem?_eq_some_iff.mp h4).1
  have g5 := (List.getElem?_eq_some_iff.mp h5).1
  refine c.at [a, b, o, d, u, x] rfl nd (fun p hp => ?_) (fun i p e hi he => ?_) hK
  · simp only [List.mem_cons, List.not_mem_nil, or_false] at hp
    rcases hp with q | q | q | q | q | q <;> rw [q] <;> assumption
  · match i, hi, he with
    | 0, hi, he => cases hi; cases he; exact h0
    | 1, hi, he => cases hi; cases he; exact h1
    | 2, hi, he => cases hi; cases he; exact h2
    | 3, hi, he => cases hi; cases he; exact h3
    | 4, hi, he => cases hi; cases he; exact h4
    | 5, hi, he => cases hi; cases he; exact h5
    | i + 6, hi, he => simp at hi
theorem mq_jsg_0 {v : Int} (h : jnl v.natAbs = 0) : jsg v = 0 := by
  have := jnl_eq0.mp h
  have : v = 0 := by omega
  rw [this]
  rfl
theorem mq_w96 : mq_okO 96 2 mq_o_scale := by
  intro ρ as n t env kr kx h hl g hs hr
  obtain ⟨w, s, a, e, rfl, e1, S, g1⟩ := mq_pA_of g hs
  obtain ⟨w2, s2, f, e2, rfl, e3, S2, g2⟩ := mq_pJ_of g1 S
  have hs2 : s2 = [] := mq_len1 (by simpa using hl)
  subst hs2
  obtain ⟨b, len, v, gg, h1, h2, h3, h4, h5, h6, h7, h8, h9, h10, h11, g3⟩ := mq_cW_of g2 hr
  obtain ⟨p, m, rfl, g4⟩ := mq_nZ_of g3
  obtain ⟨q1, g5⟩ := mq_cond_of g4
  rw [mq_and_eq] at q1
  have f1 : 1 ≤ f := Nat.ble_eq.mp q1.1
  have f2 : f ≤ 1000000000 := Nat.ble_eq.mp q1.2
  unfold mq_putW at g5
  obtain ⟨q, g6⟩ := mq_cond_of g5
  rw [mq_hk_eq] at g6
  have hf : mq_nf (Sum.inl (Nat.mul p f, Nat.mul m f)) := by
    have h7 : p = 0 ∨ m = 0 := h7
    show p * f = 0 ∨ m * f = 0
    rcases h7 with e | e <;> subst e <;> simp
  have hfit := mq_fit_of (ρ := ρ) q hf
  have ev : (mq_nv ρ (Sum.inl (Nat.mul p f, Nat.mul m f))) = mq_nv ρ (Sum.inl (p, m)) * f := by
    show ((p * f : Nat) : Int) - ((m * f : Nat) : Int) = ((p : Int) - m) * f
    rw [Int.sub_mul, Int.natCast_mul, Int.natCast_mul]
  have ea : (mq_nv ρ (Sum.inl (Nat.mul p f, Nat.mul m f))).natAbs = (mq_nv ρ (Sum.inl (p, m))).natAbs * f := by
    rw [ev, Int.natAbs_mul, Int.natAbs_natCast]
  have es : jsg (mq_nv ρ (Sum.inl (Nat.mul p f, Nat.mul m f))) = jsg (mq_nv ρ (Sum.inl (p, m))) := by
    rw [ev]
    rcases Int.lt_trichotomy (mq_nv ρ (Sum.inl (p, m))) 0 with c | c | c
    · exact (jsg_neg (Int.mul_neg_of_neg_of_pos c (by omega))).trans (jsg_neg c).symm
    · rw [c, Int.zero_mul]
    · exact (jsg_pos (Int.mul_pos c (by omega))).trans (jsg_pos c).symm
  have c := mq_at2 (h := h) (a := a) (b := b) (jw_scale (D := 7) (n := len) (x := (mq_nv ρ (Sum.inl (p, m))).natAbs) (f := f) (g0 := jn (jsg (mq_nv ρ (Sum.inl (p, m))))) (g := gg) (by omega) f1 f2 (by rw [← ea]; exact hfit) h4) h11 h2 h3 (fun r hr => by obtain ⟨_, _, hr⟩ := hr; rw [hr]; rfl)
  have e4 : [w, w2].map (mq_val ρ) = ([.ref 0, .long (jl (f : Nat))] : List Value).map (mj_rn (jrho [a, b] h.length)) := by
    rw [List.map_cons, List.map_cons, List.map_nil, e1, e3]
    rfl
  rw [e4]
  refine c.to (fun r hq => ?_)
  obtain ⟨r0, K', ⟨g', k1, k3⟩, k4⟩ := hq
  cases k3
  subst k4
  refine ⟨mq_U, n, _, e2, rfl, ?_, S2, g6⟩
  have hR := hr.wide (v := (Sum.inl (Nat.mul p f, Nat.mul m f))) (g := g') h10 h1 h2 rfl h8 h9 h3 h11 (by rw [ea]; exact k1) hfit h6 hf
  rw [ea, es] at hR
  exact hR
theorem mq_w97 : mq_okO 97 2 mq_o_cut := by
  intro ρ as n t env kr kx h hl g hs hr
  obtain ⟨w, s, a, e, rfl, e1, S, g1⟩ := mq_pA_of g hs
  obtain ⟨w2, s2, f, e2, rfl, e3, S2, g2⟩ := mq_pJ_of g1 S
  have hs2 : s2 = [] := mq_len1 (by simpa using hl)
  subst hs2
  obtain ⟨b, len, v, gg, h1, h2, h3, h4, h5, h6, h7, h8, h9, h10, h11, g3⟩ := mq_cW_of g2 hr
  obtain ⟨p, m, rfl, g4⟩ := mq_nZ_of g3
  obtain ⟨q1, g5⟩ := mq_cond_of g4
  rw [mq_and_eq] at q1
  have f1 : 1 ≤ f := Nat.ble_eq.mp q1.1
  have f2 : f ≤ 1000000000 := Nat.ble_eq.mp q1.2
  unfold mq_putW at g5
  obtain ⟨q, g6⟩ := mq_cond_of g5
  rw [mq_hk_eq] at g6
  have h7' : p = 0 ∨ m = 0 := h7
  have hf : mq_nf (Sum.inl (Nat.div p f, Nat.div m f)) := by
    show p / f = 0 ∨ m / f = 0
    rcases h7' with e | e <;> subst e <;> simp
  have hfit := mq_fit_of (ρ := ρ) q hf
  have e0 := mq_nv_abs (ρ := ρ) h7
  have ea : (mq_nv ρ (Sum.inl (Nat.div p f, Nat.div m f))).natAbs = (mq_nv ρ (Sum.inl (p, m))).natAbs / f := by
    rw [mq_nv_abs hf, e0]
    show p / f + m / f = (p + m) / f
    rcases h7' with e | e <;> subst e <;> simp
  have es : jsg (mq_nv ρ (Sum.inl (Nat.div p f, Nat.div m f))) = if (mq_nv ρ (Sum.inl (p, m))).natAbs / f = 0 then 0 else jsg (mq_nv ρ (Sum.inl (p, m))) := by
    split
    · rename_i c
      exact mq_jsg_0 (by rw [ea, c, jnl_zero])
    · rename_i c
      rw [e0] at c
      show jsg (((p / f : Nat) : Int) - ((m / f : Nat) : Int)) = jsg ((p : Int) - m)
      rcases h7' with e | e
      · subst e
        have c1 : m / f ≠ 0 := by simpa using c
        have c2 : m ≠ 0 := fun q => c1 (by rw [q]; exact Nat.zero_div f)
        rw [Nat.zero_div]
        generalize m / f = z at c1 ⊢
        exact (jsg_neg (by omega)).trans (jsg_neg (by omega)).symm
      · subst e
        have c1 : p / f ≠ 0 := by simpa using c
        have c2 : p ≠ 0 := fun q => c1 (by rw [q]; exact Nat.zero_div f)
        rw [Nat.zero_div]
        generalize p / f = z at c1 ⊢
        exact (jsg_pos (by omega)).trans (jsg_pos (by omega)).symm
  have c := mq_at2 (h := h) (a := a) (b := b) (jw_cut (D := 7) (n := len) (x := (mq_nv ρ (Sum.inl (p, m))).natAbs) (f := f) (s := jsg (mq_nv ρ (Sum.inl (p, m)))) (g := gg) (by omega) f1 f2 h5 h4) h11 h2 h3 (fun r hr => by obtain ⟨_, _, hr⟩ := hr; rw [hr]; rfl)
  have e4 : [w, w2].map (mq_val ρ) = ([.ref 0, .long (jl (f : Nat))] : List Value).map (mj_rn (jrho [a, b] h.length)) := by
    rw [List.map_cons, List.map_cons, List.map_nil, e1, e3]
    rfl
  rw [e4]
  refine c.to (fun r hq => ?_)
  obtain ⟨r0, K', ⟨g', k1, k3⟩, k4⟩ := hq
  cases k3
  subst k4
  refine ⟨mq_U, n, _, e2, rfl, ?_, S2, g6⟩
  have hR := hr.wide (v := (Sum.inl (Nat.div p f, Nat.div m f))) (g := g') h10 h1 h2 rfl h8 h9 h3 h11 (by
    rw [ea]
    intro j hj
    exact k1 j (Nat.lt_of_lt_of_le hj (jnl_mono (Nat.div_le_self _ _)))) hfit h6 hf
  rw [ea, es] at hR
  exact hR
