/-! The class's divisors, at once. -/
theorem mq_cD_of {ρ : Nat → Nat} {n a : Nat} {t : mq_Ht} {h : mj_H} {k : Nat → Nat → mq_N → Bool} (hh : mq_cD t a k = true) (hr : mq_Hr ρ n t h) : ∃ b len v, ∃ g : Nat → Int32, mq_hg t a = mq_dvd b len v ∧ h[a]? = some (.inr (2, [.ref b, .int (jn (jnl (mq_nv ρ v).natAbs)), .int (jn (jsg (mq_nv ρ v))), .long (jl (jfa (mq_nv ρ v).natAbs))])) ∧ h[b]? = some (.inl (0, len, fun j => .int (g j))) ∧ (∀ j, j < jnl (mq_nv ρ v).natAbs → g j = jn (jlb ((mq_nv ρ v).natAbs * jfa (mq_nv ρ v).natAbs) j)) ∧ jnl (mq_nv ρ v).natAbs ≤ len ∧ len ≤ 700 ∧ mq_nf v ∧ b < 1024 ∧ mq_hg t b = mq_lim a ∧ a < 1024 ∧ a ≠ b ∧ k b len v = true := by
  unfold mq_cD at hh
  obtain ⟨h1, h2⟩ := mq_cond_of hh
  have ha : a < 1024 := by
    have : a ≤ 1023 := Nat.ble_eq.mp h1
    omega
  have hcell := hr.cell a ha
  match hg : mq_hg t a, hcell, h2 with
  | .none, _, h2 => cases h2
  | some (.inl _), _, h2 => cases h2
  | some (.inr (.inl _)), _, h2 => cases h2
  | some (.inr (.inr (.inl _))), _, h2 => cases h2
  | some (.inr (.inr (.inr (.inl (b, len, v))))), hcell, h2 =>
    rcases hcell with h3 | ⟨ho, e, h3, h4, ⟨g, h5, h6⟩, h7, h8, h9⟩
    · cases h3
    · subst h4
      refine ⟨b, len, v, g, rfl, h3, h5, h6, h7, h8, h9, ho.1, ho.2, ha, fun q => ?_, h2⟩
      have := ho.2
      rw [← q, hg] at this
      cases this
  | some (.inr (.inr (.inr (.inr _)))), _, h2 => cases h2
/-- a divisor's cells are set -/
theorem mq_Hr.dvd {ρ : Nat → Nat} {n a b len : Nat} {t : mq_Ht} {h : mj_H} {v0 v : mq_N} {g0 g : Nat → Int32} {e0 : mj_E} (hr : mq_Hr ρ n t h) (ha : a < 1024) (h0 : mq_hg t a = mq_dvd b len v0) (hl0 : h[a]? = some e0) (hz : mj_slot e0 = 4) (hb : b < 1024) (hlb : mq_hg t b = mq_lim a) (hl1 : h[b]? = some (.inl (0, len, fun j => .int (g0 j)))) (hab : a ≠ b) (hv : ∀ j, j < jnl (mq_nv ρ v).natAbs → g j = jn (jlb ((mq_nv ρ v).natAbs * jfa (mq_nv ρ v).natAbs) j)) (hc : jnl (mq_nv ρ v).natAbs ≤ len) (hlen : len ≤ 700) (hf : mq_nf v) :
    mq_Hr ρ n (mq_hset t a (mq_dvd b len v)) ((h.set a (.inr (2, [.ref b, .int (jn (jnl (mq_nv ρ v).natAbs)), .int (jn (jsg (mq_nv ρ v))), .long (jl (jfa (mq_nv ρ v).natAbs))]))).set b (.inl (0, len, fun j => .int (g j)))) := by
  have hla : a < h.length := (List.getElem?_eq_some_iff.mp hl0).1
  have hlb2 : b < h.length := (List.getElem?_eq_some_iff.mp hl1).1
  have out : ∀ x, x ≠ a → x ≠ b → ((h.set a (.inr (2, [.ref b, .int (jn (jnl (mq_nv ρ v).natAbs)), .int (jn (jsg (mq_nv ρ v))), .long (jl (jfa (mq_nv ρ v).natAbs))]))).set b (.inl (0, len, fun j => .int (g j))))[x]? = h[x]? := fun x h1 h2 => by
    rw [List.getElem?_set_ne (by omega), List.getElem?_set_ne (by omega)]
  have e1 : ((h.set a (.inr (2, [.ref b, .int (jn (jnl (mq_nv ρ v).natAbs)), .int (jn (jsg (mq_nv ρ v))), .long (jl (jfa (mq_nv ρ v).natAbs))]))).set b (.inl (0, len, fun j => .int (g j))))[a]? = some (.inr (2, [.ref b, .int (jn (jnl (mq_nv ρ v).natAbs)), .int (jn (jsg (mq_nv ρ v))), .long (jl (jfa (mq_nv ρ v).natAbs))])) := by
    rw [List.getElem?_set_ne (by omega), List.getElem?_set_self hla]
  have e2 : ((h.set a (.inr (2, [.ref b, .int (jn (jnl (mq_nv ρ v).natAbs)), .int (jn (jsg (mq_nv ρ v))), .long (jl (jfa (mq_nv ρ v).natAbs))]))).set b (.inl (0, len, fun j => .int (g j))))[b]? = some (.inl (0, len, fun j => .int (g j))) := by
    rw [List.getElem?_set_self (by rw [List.length_set]; exact hlb2)]
  have hnl : ∀ x, mq_hg t a ≠ mq_lim x := fun x q => by rw [h0] at q; cases q
  refine ⟨by rw [List.length_set, List.length_set]; exact hr.len, hr.le, hr.wl.set ha _, fun x hx => ?_, ?_⟩
  · rw [mq_hg_set hr.wl _ ha hx]
    split
    · rename_i q
      subst q
      refine Or.inr ⟨⟨hb, ?_⟩, _, e1, rfl, ⟨g, e2, hv⟩, hc, hlen, hf⟩
      rw [mq_hg_set hr.wl _ ha hb, if_neg (by omega)]
      exact hlb
    · rename_i q
      rcases hr.cell x hx with h1 | ⟨ho, e', h1, h2⟩
      · exact Or.inl h1
      · by_cases hxb : x = b
        · subst hxb
          rw [hlb]
          exact Or.inr ⟨trivial, _, e2, trivial⟩
        · refine Or.inr ⟨mq_ow_set hr.wl ha hx ho hnl, e', by rw [out x q hxb]; exact h1, mq_cr_keep h2 (fun y len' v' hy => ?_)⟩
          have := mq_ow_w ho hy
          refine out y (fun q2 => ?_) (fun q2 => ?_)
          · rw [q2, h0] at this; cases this.2
          · rw [q2, hlb] at this
            have h3 := this.2
            unfold mq_lim at h3
            injection h3 with h3
            injection h3 with h3
            injection h3 with h3
            injection h3 with h3
            injection h3 with h3
            injection h3 with h3
            exact q h3.symm
  · have s2 := mj_sl_set (h := h.set a (.inr (2, [.ref b, .int (jn (jnl (mq_nv ρ v).natAbs)), .int (jn (jsg (mq_nv ρ v))), .long (jl (jfa (mq_nv ρ v).natAbs))]))) (k := b) (e := .inl (0, len, fun j => .int (g0 j))) (e' := .inl (0, len, fun j => .int (g j))) (by rw [List.getElem?_set_ne (by omega)]; exact hl1) rfl
    have s1 := mj_sl_set (h := h) (k := a) (e' := .inr (2, [.ref b, .int (jn (jnl (mq_nv ρ v).natAbs)), .int (jn (jsg (mq_nv ρ v))), .long (jl (jfa (mq_nv ρ v).natAbs))])) hl0 (by rw [hz]; rfl)
    rw [s2, s1]
    exact hr.sl
theorem mq_disjD {t : mq_Ht} {a b len o d len2 : Nat} {v v2 : mq_N} (h1 : mq_hg t a = mq_dvd b len v) (h9 : mq_hg t b = mq_lim a) (k1 : mq_hg t o = mq_wide d len2 v2) (k9 : mq_hg t d = mq_lim o) : a ≠ o ∧ b ≠ o ∧ d ≠ a ∧ b ≠ d := by
  have hao : a ≠ o := fun q => by rw [q, k1] at h1; cases h1
  refine ⟨hao, fun q => ?_, fun q => ?_, fun q => ?_⟩
  · rw [q, k1] at h9; cases h9
  · rw [q, h1] at k9; cases k9
  · rw [q] at h9
    exact hao (mq_lim_inj (h9.symm.trans k9))
theorem mq_w30 : mq_okO 30 2 mq_o_prep := by
  intro ρ as n t env kr kx h hl g hs hr
  obtain ⟨w, s, a, e, rfl, e1, S, g1⟩ := mq_pA_of g hs
  obtain ⟨w2, s2, o, e2, rfl, e3, S2, g2⟩ := mq_pA_of g1 S
  have hs2 : s2 = [] := mq_len1 (by simpa using hl)
  subst hs2
  obtain ⟨b, len, v0, gg, h1, h2, h3, h4, h5, h6, h7, h8, h9, h10, h11, g3⟩ := mq_cD_of g2 hr
  obtain ⟨d, len2, v, gq, k1, k2, k3, k4, k5, k6, k7, k8, k9, k10, k11, g4⟩ := mq_cW_of g3 hr
  obtain ⟨d0, d1, d2, d3⟩ := mq_disjD h1 h9 k1 k9
  have d0 : @Ne Nat a o := d0
  obtain ⟨q, g6⟩ := mq_cond_of g4
  rw [mq_hk_eq] at g6
  have hfit := mq_fit_of (ρ := ρ) q k7
  have c := mq_at4 (h := h) (a := a) (b := b) (o := o) (d := d) (jw_prepare (D := 7) (nd := len) (m := len2) (x := (mq_nv ρ v).natAbs) (s2 := jsg (mq_nv ρ v)) (s0 := jn (jnl (mq_nv ρ v0).natAbs)) (sv0 := jn (jsg (mq_nv ρ v0))) (fac0 := jl (jfa (mq_nv ρ v0).natAbs)) (gv := gg) (gy := gq) (by omega) (by omega) hfit k5 k4) (by simp; omega) h2 h3 k2 k3 (fun r hr => by obtain ⟨_, _, hr⟩ := hr; rw [hr]; rfl)
  have e4 : [w, w2].map (mq_val ρ) = ([.ref 0, .ref 2] : List Value).map (mj_rn (jrho [a, b, o, d] h.length)) := by
    rw [List.map_cons, List.map_cons, List.map_nil, e1, e3]
    rfl
  rw [e4]
  refine c.to (fun r hq => ?_)
  obtain ⟨r0, K', ⟨g', m1, m3⟩, m4⟩ := hq
  cases m3
  subst m4
  refine ⟨mq_U, n, _, e2, rfl, ?_, S2, g6⟩
  have hR := hr.dvd (v := v) (g := g') h10 h1 h2 rfl h8 h9 h3 h11 m1 hfit h6 k7
  have hL := mq_lay4 (h := h) (a := a) (b := b) (x := .inr (2, [.ref b, .int (jn (jnl (mq_nv ρ v).natAbs)), .int (jn (jsg (mq_nv ρ v))), .long (jl (jfa (mq_nv ρ v).natAbs))])) (y := .inl (0, len, fun j => .int (g' j))) k2 k3 (by omega) (by omega) (by omega) (by omega)
  rw [← hL] at hR
  exact hR
