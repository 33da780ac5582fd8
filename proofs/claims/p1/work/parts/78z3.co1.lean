/-! The class's numbers by their cells: contracts over the great heap. -/
section MKK
variable {ρ : Nat → Nat} {n a o o2 b d d2 len len2 len3 : Nat} {t : mq_Ht} {h : mj_H} {v0 u v z : mq_N}
theorem mq_Hr.wd (hr : mq_Hr ρ n t h) (ha : a < 1024) (h1 : mq_hg t a = mq_wide b len v) : ∃ z : Int, ∃ g : Nat → Int32, (mq_jk v = false → z = mq_nv ρ v) ∧ h[a]? = some (.inr (8, [.ref b, .int (jn (jnl z.natAbs)), .int (jn (jsg z))])) ∧ h[b]? = some (.inl (0, len, fun j => .int (g j))) ∧ mq_lbs z.natAbs g ∧ jnl z.natAbs ≤ len ∧ len ≤ 700 ∧ mq_nf v ∧ b < 1024 ∧ mq_hg t b = mq_lim a ∧ a ≠ b := by
  rcases hr.cell a ha with h2 | ⟨ho, e, h3, h4⟩
  · rw [h1] at h2; cases h2
  · rw [h1] at ho h4
    obtain ⟨z, h0, h4, ⟨g, h5, h6⟩, h7, h8, h9⟩ := h4
    subst h4
    refine ⟨z, g, h0, h3, h5, h6, h7, h8, h9, ho.1, ho.2, fun q => ?_⟩
    have := ho.2
    rw [← q, h1] at this
    cases this
/-- the same cells, laid otherwise -/
theorem mq_Hr.eqv {t' : mq_Ht} (hr : mq_Hr ρ n t h) (hw : mq_hw t') (he : ∀ y, y < 1024 → mq_hg t' y = mq_hg t y) : mq_Hr ρ n t' h := by
  refine ⟨hr.len, hr.le, hw, fun x hx => ?_, hr.sl⟩
  rw [he x hx]
  rcases hr.cell x hx with hc | ⟨ho, hc⟩
  · exact Or.inl hc
  · refine Or.inr ⟨?_, hc⟩
    match hcc : mq_hg t x, ho with
    | none, _ => trivial
    | some (.inl _), _ => trivial
    | some (.inr (.inl _)), _ => trivial
    | some (.inr (.inr (.inl (y, _, _)))), ho => exact ⟨ho.1, (he y ho.1).trans ho.2⟩
    | some (.inr (.inr (.inr (.inl (y, _, _))))), ho => exact ⟨ho.1, (he y ho.1).trans ho.2⟩
    | some (.inr (.inr (.inr (.inr (.inl _))))), _ => trivial
    | some (.inr (.inr (.inr (.inr (.inr _))))), _ => trivial
/-- what is set to a number's cells -/
abbrev mq_Z (ρ : Nat → Nat) (n : Nat) (t : mq_Ht) (a b len : Nat) (v : mq_N) (r : mj_R) : Prop := ∃ h', r = (.inl none, h') ∧ mq_Hr ρ n (mq_hset t a (mq_wide b len v)) h'
theorem mq_k86 {D : Nat} {x : Int} (hr : mq_Hr ρ n t h) (ha : a < 1024) (h1 : mq_hg t a = mq_wide b len v0) (hx : jR x) (hv : mq_nv ρ v = x) (hf : mq_nf v) (hfit : jnl (mq_nv ρ v).natAbs ≤ len) : mj_Ok (D + 1) 86 [.ref a, .long (jl x)] h (mq_Z ρ n t a b len v) := by
  obtain ⟨z0, gg, -, h2, h3, h4, h5, h6, h7, h8, h9, h11⟩ := hr.wd ha h1
  have c := mq_at2 (h := h) (a := a) (b := b) (jw_setLong (D := D) (n := len) (v := x) hx (s0 := jn (jnl z0.natAbs)) (g0 := jn (jsg z0)) (g := gg) (by omega)) h11 h2 h3 (fun r hr => by obtain ⟨_, _, _, hr⟩ := hr; rw [hr]; rfl)
  refine c.to (fun r hq => ?_)
  obtain ⟨r0, K', ⟨g', k1, k2, k3⟩, k4⟩ := hq
  cases k3
  subst k4
  have hmin : min len (jnl x.natAbs) = jnl x.natAbs := by
    rw [hv] at hfit
    omega
  rw [hmin] at k1 ⊢
  have hR := hr.wide (v := v) (g := g') ha h1 h2 rfl h8 h9 h3 h11 (by rw [hv]; exact k1) hfit h6 hf
  rw [hv] at hR
  exact ⟨_, rfl, hR⟩
theorem mq_k87 {D : Nat} (hr : mq_Hr ρ n t h) (ha : a < 1024) (ho : o < 1024) (hao : a ≠ o) (h1 : mq_hg t a = mq_wide b len v0) (k1 : mq_hg t o = mq_wide d len2 v) (hj : mq_jk v = false) (hfit : jnl (mq_nv ρ v).natAbs ≤ len) : mj_Ok (D + 1) 87 [.ref a, .ref o] h (mq_Z ρ n t a b len v) := by
  obtain ⟨z0, gg, -, h2, h3, h4, h5, h6, h7, h8, h9, h11⟩ := hr.wd ha h1
  obtain ⟨z, gq, kz, k2, k3, k4, k5, k6, k7, k8, k9, k11⟩ := hr.wd ho k1
  have kz := kz hj
  subst kz
  obtain ⟨d1, d2, d3⟩ := mq_disj h1 h9 k1 k9 hao
  have hmin : min (jnl (mq_nv ρ v).natAbs) len = jnl (mq_nv ρ v).natAbs := by omega
  have c := mq_at4 (h := h) (a := a) (b := b) (o := o) (d := d) (jw_set (D := D) (n := len) (m := len2) (s := jnl (mq_nv ρ v).natAbs) (sg := jsg (mq_nv ρ v)) (s0 := jn (jnl z0.natAbs)) (g0 := jn (jsg z0)) (g := gg) (q := gq) (by omega) (by omega) k5) (by simp; omega) h2 h3 k2 k3 (fun r hr => by obtain ⟨_, _, hr⟩ := hr; rw [hr]; rfl)
  refine c.to (fun r hq => ?_)
  obtain ⟨r0, K', ⟨g', m1, m3⟩, m4⟩ := hq
  cases m3
  subst m4
  rw [hmin] at m1 ⊢
  have hsg : (if jnl (mq_nv ρ v).natAbs = 0 then 0 else jsg (mq_nv ρ v)) = jsg (mq_nv ρ v) := by
    split
    · rename_i q0
      exact (mq_jsg_0 q0).symm
    · rfl
  rw [hsg]
  have hR := hr.wide (v := v) (g := g') ha h1 h2 rfl h8 h9 h3 h11 (fun j hj => (m1 j hj).trans (k4 j hj)) hfit h6 k7
  have hL := mq_lay4 (h := h) (a := a) (b := b) (x := .inr (8, [.ref b, .int (jn (jnl (mq_nv ρ v).natAbs)), .int (jn (jsg (mq_nv ρ v)))])) (y := .inl (0, len, fun j => .int (g' j))) k2 k3 (by omega) (by omega) (by omega) (by omega)
  rw [← hL] at hR
  exact ⟨_, rfl, hR⟩
theorem mq_k91 {D : Nat} (hr : mq_Hr ρ n t h) (ha : a < 1024) (ho : o < 1024) (hao : a ≠ o) (h1 : mq_hg t a = mq_wide b len u) (hju : mq_jk u = false) (k1 : mq_hg t o = mq_wide d len2 v) (hj : mq_jk v = false) (hz : mq_nv ρ z = mq_nv ρ u + mq_nv ρ v) (hnf : mq_nf z) (hvl : jnl (mq_nv ρ v).natAbs ≤ len) (hfit : jnl (mq_nv ρ z).natAbs ≤ len) : mj_Ok (D + 2) 91 [.ref a, .ref o, .int (jn 1)] h (mq_Z ρ n t a b len z) := by
  obtain ⟨z0, gg, hz0, h2, h3, h4, h5, h6, h7, h8, h9, h11⟩ := hr.wd ha h1
  have hz0 := hz0 hju
  subst hz0
  obtain ⟨z1, gq, kz, k2, k3, k4, k5, k6, k7, k8, k9, k11⟩ := hr.wd ho k1
  have kz := kz hj
  subst kz
  obtain ⟨d1, d2, d3⟩ := mq_disj h1 h9 k1 k9 hao
  rw [show mq_nv ρ u + mq_nv ρ v = mq_nv ρ u + 1 * mq_nv ρ v by omega] at hz
  have c := mq_at4 (h := h) (a := a) (b := b) (o := o) (d := d) (jw_plus (D := D) (n := len) (m := len2) (u := mq_nv ρ u) (w := mq_nv ρ v) (f := 1) (g := gg) (q := gq) (by omega) (by omega) (Or.inl rfl) h5 k5 hvl (by rw [← hz]; exact hfit) h4 k4) (by simp; omega) h2 h3 k2 k3 (fun r hr => by obtain ⟨_, _, hr⟩ := hr; rw [hr]; rfl)
  refine c.to (fun r hq => ?_)
  obtain ⟨r0, K', ⟨g', m1, m3⟩, m4⟩ := hq
  cases m3
  subst m4
  rw [← hz] at m1 ⊢
  have hR := hr.wide (v := z) (g := g') ha h1 h2 rfl h8 h9 h3 h11 m1 hfit h6 hnf
  have hL := mq_lay4 (h := h) (a := a) (b := b) (x := .inr (8, [.ref b, .int (jn (jnl (mq_nv ρ z).natAbs)), .int (jn (jsg (mq_nv ρ z)))])) (y := .inl (0, len, fun j => .int (g' j))) k2 k3 (by omega) (by omega) (by omega) (by omega)
  rw [← hL] at hR
  exact ⟨_, rfl, hR⟩
theorem mq_k95 {D : Nat} (hr : mq_Hr ρ n t h) (ha : a < 1024) (ho : o < 1024) (ho2 : o2 < 1024) (n1 : o ≠ o2) (n2 : a ≠ o) (n3 : a ≠ o2) (h1 : mq_hg t a = mq_wide b len v0) (k1 : mq_hg t o = mq_wide d len2 u) (hju : mq_jk u = false) (l1 : mq_hg t o2 = mq_wide d2 len3 v) (hjv : mq_jk v = false) (z1 : mq_nv ρ z = mq_nv ρ u * mq_nv ρ v) (z2 : mq_nf z) (hfit : jnl (mq_nv ρ z).natAbs ≤ len) : mj_Ok (D + 1) 95 [.ref a, .ref o, .ref o2] h (mq_Z ρ n t a b len z) := by
  obtain ⟨z0, gg, -, h2, h3, h4, h5, h6, h7, h8, h9, h11⟩ := hr.wd ha h1
  obtain ⟨zu, gq, kz, k2, k3, k4, k5, k6, k7, k8, k9, k11⟩ := hr.wd ho k1
  have kz := kz hju
  subst kz
  obtain ⟨zv, gq2, lz, l2, l3, l4, l5, l6, l7, l8, l9, l11⟩ := hr.wd ho2 l1
  have lz := lz hjv
  subst lz
  obtain ⟨a1, a2, a3⟩ := mq_disj h1 h9 k1 k9 n2
  obtain ⟨b1, b2, b3⟩ := mq_disj h1 h9 l1 l9 n3
  obtain ⟨c1, c2, c3⟩ := mq_disj k1 k9 l1 l9 n1
  have c := mq_at6 (h := h) (a := a) (b := b) (o := o) (d := d) (u := o2) (x := d2) (jw_setProduct (D := D) (n := len) (m1 := len2) (m2 := len3) (u := mq_nv ρ u) (w := mq_nv ρ v) (s0 := jn (jnl z0.natAbs)) (g0 := jn (jsg z0)) (g := gg) (q1 := gq) (q2 := gq2) (by omega) (by omega) (by omega) k5 l5 (by rw [← z1]; exact hfit) k4 l4) (by simp; omega) h2 h3 k2 k3 l2 l3 (fun r hr => by obtain ⟨_, _, hr⟩ := hr; rw [hr]; rfl)
  refine c.to (fun r hq => ?_)
  obtain ⟨r0, K', ⟨g', m1, m3⟩, m4⟩ := hq
  cases m3
  subst m4
  rw [← z1] at m1 ⊢
  have hR := hr.wide (v := z) (g := g') ha h1 h2 rfl h8 h9 h3 h11 m1 hfit h6 z2
  have hL := mq_lay4 (h := h) (a := a) (b := b) (x := .inr (8, [.ref b, .int (jn (jnl (mq_nv ρ z).natAbs)), .int (jn (jsg (mq_nv ρ z)))])) (y := .inl (0, len, fun j => .int (g' j))) k2 k3 (by omega) (by omega) (by omega) (by omega)
  have hL2 := mq_lay4 (h := h) (a := a) (b := b) (x := .inr (8, [.ref b, .int (jn (jnl (mq_nv ρ z).natAbs)), .int (jn (jsg (mq_nv ρ z)))])) (y := .inl (0, len, fun j => .int (g' j))) l2 l3 (by omega) (by omega) (by omega) (by omega)
  rw [← hL2, ← hL] at hR
  exact ⟨_, rfl, hR⟩
end MKK
theorem mq_w88 : mq_okO 88 2 mq_o_size := by
  intro ρ as n t env kr kx h hl g hs hr
  obtain ⟨w, s, a, e, rfl, e1, S, g1⟩ := mq_pA_of g hs
  obtain ⟨w2, s2, o, e2, rfl, e3, S2, g2⟩ := mq_pA_of g1 S
  have hs2 : s2 = [] := mq_len1 (by simpa using hl)
  subst hs2
  obtain ⟨b, len, v0, gg, h1, h2, h3, h4, h5, h6, h7, h8, h9, h10, h11, g3⟩ := mq_cW_of g2 hr
  obtain ⟨d, len2, v, gq, k1, k2, k3, k4, k5, k6, k7, k8, k9, k10, k11, g4⟩ := mq_cW_of g3 hr
  obtain ⟨hao, g5⟩ := mq_cond_no g4
  have hao : @Ne Nat a o := mq_beq_ne hao
  obtain ⟨p, m, rfl, g6⟩ := mq_nZ_of g5
  unfold mq_putW at g6
  obtain ⟨q, g7⟩ := mq_cond_of g6
  rw [mq_hk_eq] at g7
  have hf1 : mq_nf (Sum.inl (p + m, 0)) := Or.inr rfl
  have hfit1 := mq_fit_of (ρ := ρ) q hf1
  have ea := mq_nv_abs (ρ := ρ) k7
  have ea1 : (mq_nv ρ (Sum.inl (p + m, 0))).natAbs = p + m := (mq_nv_abs (ρ := ρ) hf1).trans (Nat.add_zero _)
  have hfit : jnl (mq_nv ρ (Sum.inl (p, m))).natAbs ≤ len := by
    rw [ea]
    rw [show Nat.add p m = p + m from rfl, ea1] at hfit1
    exact hfit1
  rw [List.map_cons, List.map_cons, List.map_nil, e1, e3]
  refine (mj_Ok.of (D := 1) (M := mj_m88) rfl rfl rfl ?_).up (by omega)
  iterate 2 refine mj_T.pl rfl rfl rfl rfl ?_
  refine mj_T.call (ins := .invokevirtual 28) rfl rfl (Nat.le_of_ble_eq_true rfl) (Nat.le_of_ble_eq_true rfl) (by simp [mj_recv, h2]) rfl (mq_k87 (D := 0) hr h10 k10 hao h1 k1 rfl hfit) (fun v' h' hq' => ?_) (fun i h' hq' => by obtain ⟨_, h, _⟩ := hq'; cases h)
  obtain ⟨hh, hq, R⟩ := hq'
  cases hq
  have ht : mq_hg (mq_hset t a (mq_wide b len (Sum.inl (p, m)))) a = mq_wide b len (Sum.inl (p, m)) := by rw [mq_hg_set hr.wl _ h10 h10, if_pos rfl]
  obtain ⟨z, g', hz, x2, x3, x4, x5, x6, x7, x8, x9, x11⟩ := R.wd h10 ht
  have hz := hz rfl
  subst hz
  have hsg := jsg_range (mq_nv ρ (Sum.inl (p, m)))
  -- the sign is set
  have fin : ∀ y : Int, y = jsg (mq_nv ρ (Sum.inl (p + m, 0))) → mj_T 1 mj_m88 18 [some (.ref a), some (.ref o)] [.int (jn y), .ref a] h' (mq_Po ρ kr kx) := by
    intro y hy
    subst hy
    have R2 := R.wide (v := Sum.inl (p + m, 0)) (g := g') h10 ht x2 rfl x8 x9 x3 x11 (by rw [ea1, ← ea]; exact x4) (by rw [ea1, ← ea]; exact x5) x6 hf1
    rw [ea1, show jn ((jnl (p + m) : Nat) : Int) = jn ((jnl (mq_nv ρ (Sum.inl (p, m))).natAbs : Nat) : Int) by rw [ea], mq_set_same (by rw [List.getElem?_set_ne x11]; exact x3)] at R2
    refine mj_T.step (loc' := [some (.ref a), some (.ref o)]) (st' := []) (h' := h'.set a (.inr (8, [.ref b, .int (jn (jnl (mq_nv ρ (Sum.inl (p, m))).natAbs)), .int (jn (jsg (mq_nv ρ (Sum.inl (p + m, 0)))))]))) (pc' := 21) rfl rfl ?_ ?_
    · simp only [mj_step, x2]
      rfl
    refine mj_T.ret rfl rfl rfl ⟨mq_U, n, _, e2, rfl, ?_, S2, g7⟩
    refine R2.eqv (hr.wl.set h10 _) (fun y hy => ?_)
    rw [mq_hg_set (hr.wl.set h10 _) _ h10 hy, mq_hg_set hr.wl _ h10 hy, mq_hg_set hr.wl _ h10 hy]
    split <;> rfl
  have hval : mq_nv ρ (Sum.inl (p + m, 0)) = ((p + m : Nat) : Int) := by show ((p + m : Nat) : Int) - ((0 : Nat) : Int) = _; omega
  iterate 2 refine mj_T.pl rfl rfl rfl rfl ?_
  refine mj_T.gfl rfl x2 rfl ?_
  refine mj_T.if0 rfl ⟨by omega, by omega⟩ (fun hc => ?_) (fun hc => ?_)
  · simp only [jc, Bool.not_eq_true', decide_eq_false_iff_not] at hc
    refine mj_T.pl rfl rfl rfl rfl ?_
    refine fin 1 ?_
    rw [hval, jsg_pos]
    have : (mq_nv ρ (Sum.inl (p, m))) ≠ 0 := fun q0 => hc (by rw [q0]; rfl)
    omega
  · simp only [jc, Bool.not_eq_false', decide_eq_true_eq] at hc
    iterate 2 refine mj_T.pl rfl rfl rfl rfl ?_
    refine fin 0 ?_
    have : (mq_nv ρ (Sum.inl (p, m))) = 0 := by
      rcases Int.lt_trichotomy (mq_nv ρ (Sum.inl (p, m))) 0 with q0 | q0 | q0
      · rw [jsg_neg q0] at hc; omega
      · exact q0
      · rw [jsg_pos q0] at hc; omega
    have e0 : p + m = 0 := by omega
    rw [hval, e0]
    rfl
