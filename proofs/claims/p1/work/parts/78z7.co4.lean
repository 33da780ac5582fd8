/-! The class's tellQuotient: contracts over the great heap. -/
section MTQ
variable {ρ : Nat → Nat} {n a o u b d d2 len len2 len3 : Nat} {t : mq_Ht} {h : mj_H} {v0 v x y0 xr xq : mq_N}
theorem mq_Hr.dd (hr : mq_Hr ρ n t h) (ha : a < 1024) (h1 : mq_hg t a = mq_dvd b len v) : ∃ g : Nat → Int32, h[a]? = some (.inr (2, [.ref b, .int (jn (jnl (mq_nv ρ v).natAbs)), .int (jn (jsg (mq_nv ρ v))), .long (jl (jfa (mq_nv ρ v).natAbs))])) ∧ h[b]? = some (.inl (0, len, fun j => .int (g j))) ∧ (∀ j, j < jnl (mq_nv ρ v).natAbs → g j = jn (jlb ((mq_nv ρ v).natAbs * jfa (mq_nv ρ v).natAbs) j)) ∧ jnl (mq_nv ρ v).natAbs ≤ len ∧ len ≤ 700 ∧ mq_nf v ∧ b < 1024 ∧ mq_hg t b = mq_lim a ∧ a ≠ b := by
  rcases hr.cell a ha with h2 | ⟨ho, e, h3, h4⟩
  · rw [h1] at h2; cases h2
  · rw [h1] at ho h4
    obtain ⟨h4, ⟨g, h5, h6⟩, h7, h8, h9⟩ := h4
    subst h4
    refine ⟨g, h3, h5, h6, h7, h8, h9, ho.1, ho.2, fun q => ?_⟩
    have := ho.2
    rw [← q, h1] at this
    cases this
theorem mq_k30 {D : Nat} (hr : mq_Hr ρ n t h) (ha : a < 1024) (ho : o < 1024) (h1 : mq_hg t a = mq_dvd b len v0) (k1 : mq_hg t o = mq_wide d len2 v) (hj : mq_jk v = false) (hfit : jnl (mq_nv ρ v).natAbs ≤ len) : mj_Ok (D + 1) 30 [.ref a, .ref o] h (fun r => ∃ h', r = (.inl none, h') ∧ mq_Hr ρ n (mq_hset t a (mq_dvd b len v)) h') := by
  obtain ⟨gg, h2, h3, h4, h5, h6, h7, h8, h9, h11⟩ := hr.dd ha h1
  obtain ⟨z, gq, kz, k2, k3, k4, k5, k6, k7, k8, k9, k11⟩ := hr.wd ho k1
  have kz := kz hj
  subst kz
  obtain ⟨d0, d1, d2, d3⟩ := mq_disjD h1 h9 k1 k9
  have c := mq_at4 (h := h) (a := a) (b := b) (o := o) (d := d) (jw_prepare (D := D) (nd := len) (m := len2) (x := (mq_nv ρ v).natAbs) (s2 := jsg (mq_nv ρ v)) (s0 := jn (jnl (mq_nv ρ v0).natAbs)) (sv0 := jn (jsg (mq_nv ρ v0))) (fac0 := jl (jfa (mq_nv ρ v0).natAbs)) (gv := gg) (gy := gq) (by omega) (by omega) hfit k5 k4) (by simp; omega) h2 h3 k2 k3 (fun r hr => by obtain ⟨_, _, hr⟩ := hr; rw [hr]; rfl)
  refine c.to (fun r hq => ?_)
  obtain ⟨r0, K', ⟨g', m1, m3⟩, m4⟩ := hq
  cases m3
  subst m4
  have hR := hr.dvd (v := v) (g := g') ha h1 h2 rfl h8 h9 h3 h11 m1 hfit h6 k7
  have hL := mq_lay4 (h := h) (a := a) (b := b) (x := .inr (2, [.ref b, .int (jn (jnl (mq_nv ρ v).natAbs)), .int (jn (jsg (mq_nv ρ v))), .long (jl (jfa (mq_nv ρ v).natAbs))])) (y := .inl (0, len, fun j => .int (g' j))) k2 k3 (by omega) (by omega) (by omega) (by omega)
  rw [← hL] at hR
  exact ⟨_, rfl, hR⟩
theorem mq_k31 {D : Nat} (hr : mq_Hr ρ n t h) (ha : a < 1024) (hu : u < 1024) (ho : o < 1024) (n1 : u ≠ o) (h1 : mq_hg t a = mq_dvd b len v) (k1 : mq_hg t u = mq_wide d len2 x) (hj : mq_jk x = false) (l1 : mq_hg t o = mq_wide d2 len3 y0)
    (hX : jnl ((mq_nv ρ x).natAbs * jfa (mq_nv ρ v).natAbs) ≤ len2) (rv : mq_nv ρ xr = (mq_nv ρ x).tmod (mq_nv ρ v)) (rf : mq_nf xr) (hf1 : jnl (mq_nv ρ xr).natAbs ≤ len2) (qv : mq_nv ρ xq = (mq_nv ρ x).tdiv (mq_nv ρ v)) (qf : mq_nf xq) (hf2 : jnl (mq_nv ρ xq).natAbs ≤ len3) :
    mj_Ok (D + 2) 31 [.ref a, .ref u, .ref o] h (fun r => ∃ h', r = (.inl none, h') ∧ mq_Hr ρ n (mq_hset (mq_hset t u (mq_wide d len2 xr)) o (mq_wide d2 len3 xq)) h') := by
  obtain ⟨gg, h2, h3, h4, h5, h6, h7, h8, h9, h11⟩ := hr.dd ha h1
  obtain ⟨z, gq, kz, k2, k3, k4, k5, k6, k7, k8, k9, k11⟩ := hr.wd hu k1
  have kz := kz hj
  subst kz
  obtain ⟨z0, gq2, -, l2, l3, l4, l5, l6, l7, l8, l9, l11⟩ := hr.wd ho l1
  obtain ⟨a0, a1, a2, a3⟩ := mq_disjD h1 h9 k1 k9
  obtain ⟨b0, b1, b2, b3⟩ := mq_disjD h1 h9 l1 l9
  have a0 : @Ne Nat a u := a0
  have b0 : @Ne Nat a o := b0
  obtain ⟨c1, c2, c3⟩ := mq_disj k1 k9 l1 l9 n1
  have c := mq_at6 (h := h) (a := a) (b := b) (o := u) (d := d) (u := o) (x := d2) (jw_split (D := D) (nd := len) (m := len2) (nq := len3) (u := mq_nv ρ x) (v := mq_nv ρ v) (sz0 := jnl z0.natAbs) (g0 := jn (jsg z0)) (gv := gg) (gy := gq) (gq := gq2) (by omega) (by omega) (by omega) h5 hX (by rw [← qv]; exact hf2) h4 k4) (by simp; omega) h2 h3 k2 k3 l2 l3 (fun r hr => by obtain ⟨_, _, _, _, hr⟩ := hr; rw [hr]; rfl)
  refine c.to (fun r hq => ?_)
  obtain ⟨r0, K', ⟨g', g'', m1, mm1, m3⟩, m4⟩ := hq
  cases m3
  subst m4
  rw [← rv] at m1 ⊢
  rw [← qv] at mm1 ⊢
  have hR := hr.wide (g := g') hu k1 k2 rfl k8 k9 k3 k11 m1 hf1 k6 rf
  have x1 : mq_hg (mq_hset t u (mq_wide d len2 xr)) o = mq_wide d2 len3 y0 := by
    rw [mq_hg_set hr.wl _ hu ho, if_neg (fun q => n1 q.symm)]
    exact l1
  have x2 : mq_hg (mq_hset t u (mq_wide d len2 xr)) d2 = mq_lim o := by
    rw [mq_hg_set hr.wl _ hu l8, if_neg c2]
    exact l9
  have hR2 := hR.wide (g := g'') ho x1 (by rw [List.getElem?_set_ne (by omega), List.getElem?_set_ne (by omega)]; exact l2) rfl l8 x2 (by rw [List.getElem?_set_ne (by omega), List.getElem?_set_ne (by omega)]; exact l3) l11 mm1 hf2 l6 qf
  have s1 : h.set a (.inr (2, [.ref b, .int (jn (jnl (mq_nv ρ v).natAbs)), .int (jn (jsg (mq_nv ρ v))), .long (jl (jfa (mq_nv ρ v).natAbs))])) = h := mq_set_same h2
  have s2 : h.set b (.inl (0, len, fun j => .int (gg j))) = h := mq_set_same h3
  rw [← s2] at hR2
  rw [← s1] at hR2
  exact ⟨_, rfl, hR2⟩
theorem mq_k100 {D : Nat} (hr : mq_Hr ρ n t h) (ha : a < 1024) (h1 : mq_hg t a = mq_wide b len v) (hj : mq_jk v = false) : mj_Ok (D + 1) 100 [.ref a] h (fun r => r = (.inl (some (.long (jl (mq_nv ρ v)))), h)) := by
  obtain ⟨z, gg, kz, h2, h3, h4, h5, h6, -, -, -, -⟩ := hr.wd ha h1
  have kz := kz hj
  subst kz
  generalize mq_nv ρ v = v at h2 h4 h5
  have hz : v.natAbs / jB ^ jnl v.natAbs = 0 := jnl_le.mp (Nat.le_refl _)
  have hsr := jsg_range v
  refine mj_Ok.of (D := D) (M := mj_m100) rfl rfl rfl ?_
  iterate 3 refine mj_T.pl rfl rfl rfl rfl ?_
  refine mj_T.step (loc' := [some (.ref a), some (.long (jl 0)), none, none]) (st' := [.int (jn (jnl v.natAbs : Nat))]) (h' := h) (pc' := 6) rfl rfl (by simp only [mj_step, h2, if_true]; rfl) ?_
  refine mj_T.pl rfl rfl rfl rfl ?_
  refine mj_T.isub (b := 1) rfl ?_
  refine mj_T.pl rfl rfl rfl rfl ?_
  have L := jq_low_loop (D := D) (Q := fun r => r = (.inl (some (.long (jl v))), h)) h2 h3 h4 h5 h6 ?_ (jnl v.natAbs) (Nat.le_refl _)
  · rw [hz] at L
    exact L
  · refine mj_T.pl rfl rfl rfl rfl ?_
    refine mj_T.step (loc' := [some (.ref a), some (.long (jl (v.natAbs : Nat))), none, some (.int (jn (-1)))]) (st' := [.int (jn (jsg v))]) (h' := h) (pc' := 46) rfl rfl (by simp only [mj_step, h2, if_true]; rfl) ?_
    refine mj_T.if0 rfl ⟨by omega, by omega⟩ (fun hc => ?_) (fun hc => ?_)
    · simp only [jc, decide_eq_true_eq] at hc
      have hv : 0 ≤ v := by
        rcases Int.lt_or_le v 0 with q | q
        · rw [jsg_neg q] at hc
          omega
        · exact q
      refine mj_T.pl rfl rfl rfl rfl ?_
      refine mj_T.ret rfl rfl rfl ?_
      show (Sum.inl (some (Value.long (jl (v.natAbs : Nat)))), h) = _
      rw [show ((v.natAbs : Nat) : Int) = v by omega]
    · simp only [jc, decide_eq_false_iff_not] at hc
      have hv : v < 0 := by
        rcases Int.lt_trichotomy v 0 with q | q | q
        · exact q
        · rw [q, jsg_zero] at hc
          omega
        · rw [jsg_pos q] at hc
          omega
      refine mj_T.pl rfl rfl rfl rfl ?_
      refine mj_T.lneg rfl ?_
      refine mj_T.pl rfl rfl rfl rfl ?_
      refine mj_T.ret rfl rfl rfl ?_
      show (Sum.inl (some (Value.long (jl (-((v.natAbs : Nat) : Int))))), h) = _
      rw [show -((v.natAbs : Nat) : Int) = v by omega]
end MTQ
/-! The greatest number that divides two longs. -/
section MGC
variable {D : Nat} {h : mj_H} {a b : Int64} {Q : mj_R → Prop}
theorem jc_gcd_step {x y i : Nat} {l9 l10 : Option Value} (hx : x < 9223372036854775808) (hy : y < 9223372036854775808) (hi : i < 130) (h0 : 0 < y)
    (k : mj_T D mj_m171 31 [some (.long a), none, some (.long b), none, some (.long (jl (y : Nat))), none, some (.long (jl ((x % y : Nat) : Nat))), none, some (.int (jn ((i + 1 : Nat) : Nat))), some (.long (jl ((x % y : Nat) : Nat))), none] [] h Q) :
    mj_T D mj_m171 31 [some (.long a), none, some (.long b), none, some (.long (jl (x : Nat))), none, some (.long (jl (y : Nat))), none, some (.int (jn (i : Nat))), l9, l10] [] h Q := by
  iterate 2 refine mj_T.pl rfl rfl rfl rfl ?_
  refine mj_T.icmp (a := (i : Int)) (b := 130) rfl ⟨by omega, by omega⟩ ⟨by omega, by omega⟩ (fun hc => ?_) (fun hc => ?_)
  · simp only [jc, decide_eq_true_eq] at hc; omega
  iterate 2 refine mj_T.pl rfl rfl rfl rfl ?_
  refine mj_T.lif (a := (y : Int)) (b := 0) rfl rfl ⟨by omega, by omega⟩ ⟨by omega, by omega⟩ (fun hc => ?_) (fun hc => ?_)
  · simp only [jc, decide_eq_true_eq] at hc; omega
  iterate 2 refine mj_T.pl rfl rfl rfl rfl ?_
  refine mj_T.lrem (a := (x : Int)) (b := (y : Int)) rfl ⟨by omega, by omega⟩ ⟨by omega, by omega⟩ (by omega) ?_
  rw [show (x : Int).tmod (y : Int) = ((x % y : Nat) : Int) from rfl]
  iterate 5 refine mj_T.pl rfl rfl rfl rfl ?_
  refine mj_T.iinc (a := (i : Int)) rfl rfl ?_
  refine mj_T.pl rfl rfl rfl rfl ?_
  exact k
theorem jc_gcd_end {x y i : Nat} {l9 l10 : Option Value} (hi : i ≤ 130) (h0 : y = 0) (k : Q (.inl (some (.long (jl (x : Nat)))), h)) :
    mj_T D mj_m171 31 [some (.long a), none, some (.long b), none, some (.long (jl (x : Nat))), none, some (.long (jl (y : Nat))), none, some (.int (jn (i : Nat))), l9, l10] [] h Q := by
  subst h0
  iterate 2 refine mj_T.pl rfl rfl rfl rfl ?_
  have fin : mj_T D mj_m171 67 [some (.long a), none, some (.long b), none, some (.long (jl (x : Nat))), none, some (.long (jl ((0 : Nat) : Int))), none, some (.int (jn (i : Nat))), l9, l10] [] h Q := by
    refine mj_T.pl rfl rfl rfl rfl ?_
    exact mj_T.ret rfl rfl rfl k
  refine mj_T.icmp (a := (i : Int)) (b := 130) rfl ⟨by omega, by omega⟩ ⟨by omega, by omega⟩ (fun hc => fin) (fun hc => ?_)
  iterate 2 refine mj_T.pl rfl rfl rfl rfl ?_
  refine mj_T.lif (a := ((0 : Nat) : Int)) (b := 0) rfl rfl ⟨by omega, by omega⟩ ⟨by omega, by omega⟩ (fun hc => fin) (fun hc => ?_)
  cases hc
theorem jc_half {x y : Nat} (h0 : 0 < x % y) (hy : 0 < y) : 2 * (y % (x % y)) < y := by
  have h1 := Nat.mod_lt x hy
  have h2 := Nat.mod_lt y h0
  have h3 := Nat.mod_add_div y (x % y)
  have h4 : 1 ≤ y / (x % y) := (Nat.le_div_iff_mul_le h0).mpr (by omega)
  have h5 := Nat.mul_le_mul_left (x % y) h4
  omega
theorem jc_gcd_loop {x0 y0 : Nat} (hend : ∀ g : Nat, g ∣ x0 → g ∣ y0 → 0 < g → Q (.inl (some (.long (jl (g : Nat)))), h)) : ∀ (k x y i : Nat) (l9 l10 : Option Value), y < 2 ^ k → x < 9223372036854775808 → y < 9223372036854775808 → (0 < x ∨ 0 < y) → i + 2 * k ≤ 130 → (∀ d, d ∣ x → d ∣ y → d ∣ x0 ∧ d ∣ y0) →
    mj_T D mj_m171 31 [some (.long a), none, some (.long b), none, some (.long (jl (x : Nat))), none, some (.long (jl (y : Nat))), none, some (.int (jn (i : Nat))), l9, l10] [] h Q := by
  intro k
  have stop : ∀ x y, y = 0 → (0 < x ∨ 0 < y) → (∀ d, d ∣ x → d ∣ y → d ∣ x0 ∧ d ∣ y0) → Q (.inl (some (.long (jl (x : Nat)))), h) := fun x y hy hp hd => by
    subst hy
    obtain ⟨d1, d2⟩ := hd x (Nat.dvd_refl x) (Nat.dvd_zero x)
    exact hend x d1 d2 (by omega)
  have nxt : ∀ x y, (∀ d, d ∣ x → d ∣ y → d ∣ x0 ∧ d ∣ y0) → (∀ d, d ∣ y → d ∣ x % y → d ∣ x0 ∧ d ∣ y0) := fun x y hd d h1 h2 => hd d ((Nat.dvd_mod_iff h1).mp h2) h1
  induction k with
  | zero =>
    intro x y i l9 l10 hy _ _ hp hi hd
    have hy0 : y = 0 := by omega
    exact jc_gcd_end (by omega) hy0 (stop x y hy0 hp hd)
  | succ k ih =>
    intro x y i l9 l10 hy hx hy2 hp hi hd
    rcases Nat.eq_zero_or_pos y with hy0 | hy0
    · exact jc_gcd_end (by omega) hy0 (stop x y hy0 hp hd)
    refine jc_gcd_step hx hy2 (by omega) hy0 ?_
    have h1 := Nat.mod_lt x hy0
    have hd1 := nxt x y hd
    rcases Nat.eq_zero_or_pos (x % y) with hr0 | hr0
    · exact jc_gcd_end (by omega) hr0 (stop y (x % y) hr0 (Or.inl hy0) hd1)
    refine jc_gcd_step hy2 (by omega) (by omega) hr0 ?_
    have h2 := jc_half hr0 hy0
    have h3 := Nat.mod_lt y hr0
    have hp2 : 2 ^ (k + 1) = 2 * 2 ^ k := by rw [Nat.pow_succ, Nat.mul_comm]
    exact ih _ _ _ _ _ (by omega) (by omega) (by omega) (Or.inl hr0) (by omega) (nxt y (x % y) hd1)
theorem jc_gcd {x y : Int} (hx : x.natAbs < 9223372036854775808) (hy : 0 < y) (hy2 : y < 9223372036854775808) : mj_Ok (D + 1) 171 [.long (jl x), .long (jl y)] h (fun r => ∃ g : Int, 0 < g ∧ g ∣ x ∧ g ∣ y ∧ r = (.inl (some (.long (jl g))), h)) := by
  refine mj_Ok.of (M := mj_m171) rfl rfl rfl ?_
  have loop : mj_T D mj_m171 31 [some (.long (jl x)), none, some (.long (jl y)), none, some (.long (jl (x.natAbs : Nat))), none, some (.long (jl (y.natAbs : Nat))), none, some (.int (jn ((0 : Nat) : Int))), none, none] [] h (fun r => ∃ g : Int, 0 < g ∧ g ∣ x ∧ g ∣ y ∧ r = (.inl (some (.long (jl g))), h)) := by
    refine jc_gcd_loop (x0 := x.natAbs) (y0 := y.natAbs) (fun g g1 g2 g3 => ⟨(g : Int), by omega, Int.ofNat_dvd_left.mpr g1, Int.ofNat_dvd_left.mpr g2, rfl⟩) 63 x.natAbs y.natAbs 0 none none ?_ hx (by omega) (Or.inr (by omega)) (by decide) (fun d h1 h2 => ⟨h1, h2⟩)
    show y.natAbs < 9223372036854775808
    omega
  have t14 : mj_T D mj_m171 14 [some (.long (jl x)), none, some (.long (jl y)), none, some (.long (jl (x.natAbs : Nat))), none, none, none, none, none, none] [] h (fun r => ∃ g : Int, 0 < g ∧ g ∣ x ∧ g ∣ y ∧ r = (.inl (some (.long (jl g))), h)) := by
    iterate 2 refine mj_T.pl rfl rfl rfl rfl ?_
    refine mj_T.lif (a := y) (b := 0) rfl rfl ⟨by omega, by omega⟩ ⟨by omega, by omega⟩ (fun hc => ?_) (fun hc => ?_)
    · refine mj_T.pl rfl rfl rfl rfl ?_
      rw [show y = ((y.natAbs : Nat) : Int) by omega] at loop ⊢
      iterate 3 refine mj_T.pl rfl rfl rfl rfl ?_
      exact loop
    · simp only [jc, decide_eq_false_iff_not] at hc; omega
  iterate 2 refine mj_T.pl rfl rfl rfl rfl ?_
  refine mj_T.lif (a := x) (b := 0) rfl rfl ⟨by omega, by omega⟩ ⟨by omega, by omega⟩ (fun hc => ?_) (fun hc => ?_)
  · simp only [jc, decide_eq_true_eq] at hc
    refine mj_T.pl rfl rfl rfl rfl ?_
    rw [show ((x.natAbs : Nat) : Int) = x by omega] at t14
    exact mj_T.pl rfl rfl rfl rfl t14
  · simp only [jc, decide_eq_false_iff_not] at hc
    refine mj_T.pl rfl rfl rfl rfl ?_
    refine mj_T.lneg rfl ?_
    refine mj_T.pl rfl rfl rfl rfl ?_
    rw [show -x = ((x.natAbs : Nat) : Int) by omega]
    exact mj_T.pl rfl rfl rfl rfl t14
end MGC
