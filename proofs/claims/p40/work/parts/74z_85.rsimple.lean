/-! The reference, exactly: simple. -/
theorem pz_prim_fac {A S G : pz_P} (h : pz_prim A) (e : A = pz_mul S G) : pz_prim S := fun k hk => h k (fun i => by
  have e1 : S = pz_sc (k : Int) (fun i => S i / (k : Int)) := funext fun i => (Int.mul_ediv_cancel' (hk i)).symm
  rw [e1, pz_mul_scL] at e
  rw [e]
  exact ⟨_, rfl⟩)
theorem posP_fac {A S G : pz_P} {dg ds : Nat} (hA : posP A) (hS : pz_lt S (ds + 1)) (hS0 : S ds ≠ 0) (hG : pz_lt G (dg + 1)) (hG0 : 0 < G dg) (e : A = pz_mul S G) : posP S := fun d h1 h2 => by
  have hd : d = ds := by
    rcases Nat.lt_trichotomy d ds with c | c | c
    · exact absurd (h2 ds c) hS0
    · exact c
    · exact absurd (hS d (by omega)) h1
  subst hd
  have l : A (d + dg) = S d * G dg := by
    rw [e]
    exact pz_c_lead d S G dg hS hG
  have p := hA (d + dg) (by rw [l]; exact Int.mul_ne_zero hS0 (by omega)) (fun i hi => by
    rw [e]
    exact pz_lt.mul (a := d + 1) (b := dg + 1) (c := d + dg + 1) hS hG (by omega) i (by omega))
  rw [l] at p
  rcases Int.lt_trichotomy (S d) 0 with c | c | c
  · exact absurd (Int.mul_neg_of_neg_of_pos c hG0) (by omega)
  · exact absurd c h1
  · exact c
/-- the primitive part of a primitive polynomial whose lead is above 0 is the same -/
theorem pm_same {V W : Nat → Int} {p : Nat} {f : Int} (hpr : pz_prim (jpo V p)) (hV : posP (jpo V p)) (hf : f = 1 ∨ f = -1) (hW : ∀ e, e < 13 → W (p * 13 + e) = f * (V (p * 13 + e)).tdiv ((jgk V p 13 : Nat) : Int)) (hP : posL W p) : jpo W p = jpo V p := by
  have h1 : jgk V p 13 = 1 := hpr _ (fun i => by
    by_cases q : i < 13
    · rw [jpo_at q]
      exact Int.natAbs_dvd_natAbs.mp (jgk_dvd V p 13 i (Nat.le_refl _) (by omega) q)
    · rw [jpo_lt V p i (by omega)]
      exact ⟨0, (Int.mul_zero _).symm⟩)
  have h2 : ∀ e, e < 13 → W (p * 13 + e) = f * V (p * 13 + e) := fun e he => by
    rw [hW e he, h1]
    show f * (V (p * 13 + e)).tdiv 1 = _
    rw [Int.tdiv_one]
  rcases hf with rfl | rfl
  · exact jpo_eq fun e he => by rw [h2 e he, Int.one_mul]
  · obtain ⟨d, d1, d2, d3⟩ := kq_deg 13 _ (jpo_lt V p) (kq_prim_ne hpr)
    have a := hV d d3 (fun e he => d2 e (by omega))
    rw [jpo_at d1] at a
    have b := hP d d1 (by rw [h2 d d1]; omega) (fun e he h3 => by
      have := d2 e (by omega)
      rw [jpo_at h3] at this
      rw [h2 e h3, this]
      rfl)
    rw [h2 d d1] at b
    omega
theorem drv_sc (c : Int) (A : pz_P) : drv (pz_sc c A) = pz_sc c (drv A) := funext fun e => Int.mul_assoc _ _ _
/-- the greatest divisor with the derivative -/
theorem GP_of {F G : pz_P} (s : sml F) (z : ∀ i, 13 ≤ i → F i = 0) (hne : F ≠ pz_0) (hl : pz_lt G 13) (hp : posP G) (d1 : qdv G F) (d2 : qdv G (drv F)) (hg : ∀ K : pz_P, qdv K F → qdv K (drv F) → qdv K G) (hP : pz_prim G) : ∃ dg, dg < 13 ∧ GP (ppr F) (drv (ppr F)) G dg := by
  obtain ⟨d, e1, e2, e3⟩ := kq_deg 13 G hl (kq_prim_ne hP)
  have hd : ∀ K : pz_P, qdv K (drv F) ↔ qdv K (drv (ppr F)) := fun K => by
    rcases ppr_sc s z with ⟨h1, _, _⟩ | ⟨_, c, h1, h2⟩
    · exact absurd h1 hne
    · constructor
      · intro k
        rw [h2, drv_sc] at k
        exact k.un h1
      · intro k
        rw [h2, drv_sc]
        exact k.sc c
  exact ⟨d, e1, hP, hp d e3 (fun e he => e2 e (by omega)), fun i hi => e2 i (by omega), qdv_exact hP ((ppr_qdv s z G).mp d1), qdv_exact hP ((hd G).mp d2), fun K k1 k2 => hg K ((ppr_qdv s z K).mpr k1) ((hd K).mpr k2)⟩
theorem smR_of {F G S : pz_P} {dg : Nat} (hpp : pz_prim (ppr F)) (hS : pz_lt S 13) (hG : GP (ppr F) (drv (ppr F)) G dg) (e : ppr F = pz_mul S G) : smR F S := by
  have hne : S ≠ pz_0 := fun q => kq_prim_ne hpp (by rw [e, q, pz_mul_0L])
  obtain ⟨ds, k1, k2, k3⟩ := kq_deg 13 S hS hne
  exact ⟨G, dg, hG, e, ds, by omega, k2, k3⟩
section JXS
variable {D : Nat} {hp h : mj_H} {q0 q1 q2 q3 : Nat} {fs : List Value} {V : Nat → Int} {a b to : Nat}
theorem jx_simplifies (G : jG hp q0 q1 q2 q3 fs) (hsm : sml (jpo V 0)) (hne : jpo V 0 ≠ pz_0) (hA : ∀ e, e < 13 → (V (0 * 13 + e)).natAbs ≤ 10 ^ 18) (hs : jS hp q1 q2 q3 V h) :
    mj_Ok (D + 10) 214 [.ref q0, .int (jn ((8 : Nat) : Int)), .int (jn ((0 : Nat) : Int))] h (fun r => ∃ (W : Nat → Int) (h' : mj_H), jS hp q1 q2 q3 W h' ∧ (∀ s, (s < 26 ∨ 91 ≤ s) → (s < 104 ∨ 117 ≤ s) → s ≠ 652 → s ≠ 653 → s ≠ 654 → s ≠ 655 → s ≠ 663 → s ≠ 664 → W s = V s) ∧ smR (jpo V 0) (jpo W 8) ∧ r = (.inl none, h')) := by
  refine mj_Ok.of (M := mj_m214) rfl rfl rfl ?_
  iterate 3 refine mj_T.pl rfl rfl rfl rfl ?_
  refine mj_T.call (ins := .invokevirtual 124) rfl rfl (Nat.le_of_ble_eq_true rfl) (Nat.le_of_ble_eq_true rfl) (by simp [mj_recv, jS_a G hs]) rfl (jp_copiesPoly (D := D + 6) G (p := 5) (q := 0) (by decide) (by decide) (by decide) hs) (fun v' h1 hq' => ?_) (fun i h' hq' => by obtain ⟨_, _, h⟩ := hq'; cases h)
  obtain ⟨_, hs1, hq'⟩ := hq'
  cases hq'
  have a1 : ∀ e, e < 13 → jfl V 5 (fun e => V (0 * 13 + e)) 13 (5 * 13 + e) = V (0 * 13 + e) := fun e he => jfl_at _ 5 _ he
  have a2 : ∀ s, (s < 65 ∨ 78 ≤ s) → jfl V 5 (fun e => V (0 * 13 + e)) 13 s = V s := fun s hc => jfl_off _ 5 _ (by omega)
  generalize jfl V 5 (fun e => V (0 * 13 + e)) 13 = W1 at hs1 a1 a2
  iterate 3 refine mj_T.pl rfl rfl rfl rfl ?_
  refine mj_T.call (ins := .invokevirtual 149) rfl rfl (Nat.le_of_ble_eq_true rfl) (Nat.le_of_ble_eq_true rfl) (by simp [mj_recv, jS_a G hs1]) rfl (jp_derives (D := D + 6) (V := W1) G (p := 6) (a := 0) (by decide) (by decide) (by decide) (fun e he => jnl_of_lt (M := 10 ^ 18 * 13) (by
    rw [a2 _ (by omega), Int.natAbs_mul]
    exact Nat.mul_le_mul (hA (e + 1) (by omega)) (by omega)) kq_small) hs1) (fun v' h2 hq' => ?_) (fun i h' hq' => by obtain ⟨_, _, _, _, h⟩ := hq'; cases h)
  obtain ⟨W2, _, hs2, b1, hq'⟩ := hq'
  cases hq'
  have b2 : ∀ e, e < 13 → (W2 (6 * 13 + e)).natAbs ≤ 10 ^ 18 * 13 := fun e he => by
    rw [b1 _ (by omega), jfl_at _ 6 _ he]
    split
    · show (W1 (0 * 13 + e + 1) * ((e + 1 : Nat) : Int)).natAbs ≤ _
      rw [a2 _ (by omega), Int.natAbs_mul]
      exact Nat.mul_le_mul (hA (e + 1) (by omega)) (by omega)
    · exact Nat.zero_le _
  have b3 : ∀ s, (s < 78 ∨ 91 ≤ s) → s ≠ 652 → W2 s = W1 s := fun s hc h0 => by
    rw [b1 _ h0, jfl_off _ 6 _ (by omega)]
  have b4 : jpo W2 5 = jpo V 0 := jpo_eq fun e he => by rw [b3 _ (by omega) (by omega), a1 e he]
  iterate 4 refine mj_T.pl rfl rfl rfl rfl ?_
  refine mj_T.call (ins := .invokevirtual 152) rfl rfl (Nat.le_of_ble_eq_true rfl) (Nat.le_of_ble_eq_true rfl) (by simp [mj_recv, jS_a G hs2]) rfl (jx_commonsA (D := D) (V := W2) G (A := 10 ^ 18 * 13) kq_fit19 (to := 4) (a := 5) (b := 6) (by decide) (by decide) (by decide) (by decide) (by decide) (by decide) (by decide) (by decide) (by decide) (fun e he => by rw [b3 _ (by omega) (by omega), a1 e he]; have := hA e he; omega) b2 hs2) (fun v' h3 hq' => ?_) (fun i h' hq' => by obtain ⟨_, _, _, _, _, h⟩ := hq'; cases h)
  obtain ⟨W3, _, hs3, c1, ⟨c2, cX⟩, hq'⟩ := hq'
  cases hq'
  have b5 : jpo W2 6 = drv (jpo V 0) := funext fun e => by
    by_cases he : e < 13
    · rw [jpo_at he, b1 _ (by omega), jfl_at _ 6 _ he]
      show (if e < 12 then W1 (0 * 13 + e + 1) * ((e + 1 : Nat) : Int) else 0) = jpo V 0 (e + 1) * ((e + 1 : Nat) : Int)
      by_cases h12 : e < 12
      · rw [if_pos h12, a2 _ (by omega), jpo_at (by omega)]
        rfl
      · rw [if_neg h12, jpo_lt V 0 (e + 1) (by omega), Int.zero_mul]
    · show _ = jpo V 0 (e + 1) * ((e + 1 : Nat) : Int)
      rw [jpo_lt W2 6 e (by omega), jpo_lt V 0 (e + 1) (by omega), Int.zero_mul]
  rw [b4, b5] at cX
  obtain ⟨x1, x2, x3, x4, x5⟩ := cX.fin
  have c3 : jpo V 0 ≠ pz_0 → pz_prim (jpo W3 4) ∧ qdv (jpo W3 4) (jpo V 0) := fun q => ⟨x5 (Or.inl q), x2⟩
  obtain ⟨c4, c, T, N, c5, cN, c6⟩ := c3 hne
  iterate 3 refine mj_T.pl rfl rfl rfl rfl ?_
  refine mj_T.call (ins := .invokevirtual 124) rfl rfl (Nat.le_of_ble_eq_true rfl) (Nat.le_of_ble_eq_true rfl) (by simp [mj_recv, jS_a G hs3]) rfl (jp_copiesPoly (D := D + 6) G (p := 5) (q := 0) (by decide) (by decide) (by decide) hs3) (fun v' h4 hq' => ?_) (fun i h' hq' => by obtain ⟨_, _, h⟩ := hq'; cases h)
  obtain ⟨_, hs4, hq'⟩ := hq'
  cases hq'
  have d1 : ∀ e, e < 13 → jfl W3 5 (fun e => W3 (0 * 13 + e)) 13 (5 * 13 + e) = V (0 * 13 + e) := fun e he => by
    rw [jfl_at _ 5 _ he, c1 _ (by omega) (by omega) (by omega) (by omega) (by omega) (by omega) (by omega) (by omega) (by omega) (by omega), b3 _ (by omega) (by omega), a2 _ (by omega)]
  have d2 : ∀ s, (s < 65 ∨ 78 ≤ s) → jfl W3 5 (fun e => W3 (0 * 13 + e)) 13 s = W3 s := fun s hc => jfl_off _ 5 _ (by omega)
  generalize jfl W3 5 (fun e => W3 (0 * 13 + e)) 13 = W4 at hs4 d1 d2
  iterate 2 refine mj_T.pl rfl rfl rfl rfl ?_
  refine mj_T.call (ins := .invokevirtual 142) rfl rfl (Nat.le_of_ble_eq_true rfl) (Nat.le_of_ble_eq_true rfl) (by simp [mj_recv, jS_a G hs4]) rfl (jx_makesPrimitive (D := D + 1) G (p := 5) (by decide) hs4) (fun v' h5 hq' => ?_) (fun i h' hq' => by obtain ⟨_, _, _, _, _, _, h⟩ := hq'; cases h)
  obtain ⟨W5, _, hs5, ⟨f, hf, e1⟩, e2, hL5, hq'⟩ := hq'
  cases hq'
  have e3 := jcm_prim (V := W4) (W := W5) (p := 5) hf e1
  rw [jpo_eq (V := V) (W := W4) (p := 0) (q := 5) d1] at e3
  have e4 : jpo W5 4 = jpo W3 4 := jpo_eq fun e he => by rw [e2 _ (by omega) (by omega) (by omega) (by omega) (by omega) (by omega), d2 _ (by omega)]
  have e5 : ∀ i, (jpo W5 5 i).natAbs ≤ 10 ^ 18 := kq_rel_le e3 (jpo_le hA)
  obtain ⟨z, z1, z2, z3⟩ : ∃ z : Int, z ≠ 0 ∧ jpo V 0 = pz_sc z (jpo W5 5) ∧ pz_prim (jpo W5 5) := by
    rcases e3 with ⟨k, _⟩ | k
    · exact absurd k hne
    · exact k
  have e6 : pz_sc (c * z) (jpo W5 5) = pz_mul T (jpo W5 4) := by
    rw [e4, ← c6, z2, pz_sc_sc]
  obtain ⟨S, s1, s2⟩ := pz_exact (fun k => by
    rcases Int.mul_eq_zero.mp k with k | k
    · exact c5 k
    · exact z1 k) (by rw [e4]; exact c4) e6
  have g1 : 1 ≤ jdg W5 4 13 := jpo_ne (by rw [e4]; exact kq_prim_ne c4)
  have g2 := jdg_le W5 4 13
  have g3 := jdg_le W5 5 13
  have g4 := jdg_ne W5 4 13 g1
  have g5 : ∀ e, e < 13 → (W5 (4 * 13 + e)).natAbs ≤ kq_F (10 ^ 18 * 13) 24 := fun e he => by
    have := c2 e
    rw [← e4, jpo_at he] at this
    exact this
  have g6 : ∀ e, e < 13 → (W5 (5 * 13 + e)).natAbs ≤ 10 ^ 18 := fun e he => by
    have := e5 e
    rw [jpo_at he] at this
    exact this
  have g7 : jpo W5 5 ≠ pz_0 := kq_prim_ne z3
  obtain ⟨be, i1, i2, i3⟩ : ∃ be : Nat, 1 ≤ be ∧ (∀ e, e < 13 → (W5 (4 * 13 + e)).natAbs ≤ be) ∧ 10 ^ 18 * (2 * be) ^ (jdg W5 5 13 - (jdg W5 4 13 - 1)) < jB ^ 698 := by
    by_cases k : jdg W5 4 13 = 1
    · refine ⟨1, Nat.le_refl _, fun e he => ?_, Nat.lt_of_le_of_lt (Nat.mul_le_mul_left _ (Nat.pow_le_pow_right (by decide) (by omega : _ ≤ 13))) kq_room1⟩
      have := kq_prim_const (u := jpo W5 4) (by rw [e4]; exact c4) (fun i hi => by
        by_cases hi2 : i < 13
        · rw [jpo_at hi2]
          exact jdg_zero W5 4 13 i (by omega) hi2
        · exact jpo_lt W5 4 i (by omega)) e
      rw [jpo_at he] at this
      exact this
    · refine ⟨kq_F (10 ^ 18 * 13) 24, kq_one24, g5, Nat.lt_of_le_of_lt (Nat.mul_le_mul_left _ (Nat.pow_le_pow_right ?_ (by omega : _ ≤ 12))) kq_room24⟩
      have := kq_one24
      omega
  iterate 4 refine mj_T.pl rfl rfl rfl rfl ?_
  refine mj_T.call (ins := .invokevirtual 155) rfl rfl (Nat.le_of_ble_eq_true rfl) (Nat.le_of_ble_eq_true rfl) (by simp [mj_recv, jS_a G hs5]) rfl (jp_dividesExactly (D := D + 3) (V := W5) G (tq := 8) (a := 5) (b := 4) (db := jdg W5 4 13 - 1) (lc := W5 (4 * 13 + (jdg W5 4 13 - 1))) (al := 10 ^ 18) (be := be) (by decide) (by decide) (by decide) (by decide) (by decide) (by decide) (by decide) (by decide) (by omega) rfl g6 i2 i1 i3 hs5) (fun v' h6 hq' => ?_) (fun i h' hq' => by obtain ⟨_, _, _, _, ⟨_, h⟩ | ⟨_, h⟩⟩ := hq' <;> cases h)
  obtain ⟨W6, _, hs6, f1, ⟨f2, hq'⟩ | ⟨f2, hq'⟩⟩ := hq'
  · cases hq'
    have t1 : ∀ i, (jpo W6 8 i).natAbs ≤ kq_S := pz_factor (jpo_lt W5 5) (jpo_lt W6 8) (jpo_lt W5 4) f2 (by
      by_cases k : ∃ i, jpo W5 5 i ≠ 0
      · exact k
      · exact absurd (funext fun i => Classical.byContradiction fun q => k ⟨i, q⟩) g7) e5
    have t2 : jpo W6 8 ≠ pz_0 := fun k => g7 (by rw [f2, k, pz_mul_0L])
    iterate 3 refine mj_T.pl rfl rfl rfl rfl ?_
    refine mj_T.call (ins := .invokevirtual 142) rfl rfl (Nat.le_of_ble_eq_true rfl) (Nat.le_of_ble_eq_true rfl) (by simp [mj_recv, jS_a G hs6]) rfl (jx_makesPrimitive (D := D + 1) G (p := 8) (by decide) hs6) (fun v' h7 hq' => ?_) (fun i h' hq' => by obtain ⟨_, _, _, _, _, _, h⟩ := hq'; cases h)
    obtain ⟨W7, _, hs7, ⟨f', hf', u1⟩, u2, hL7, hq'⟩ := hq'
    cases hq'
    obtain ⟨dg, dg1, hGP⟩ := GP_of hsm (fun i hi => jpo_lt V 0 i hi) hne (jpo_lt W3 4) x1 x2 x3 x4 c4
    have e9 : jpo W5 5 = ppr (jpo V 0) := funext fun e => by
      have hv : ∀ e, e < 13 → W4 (5 * 13 + e) = jpo V 0 e := fun e he => (d1 e he).trans (jpo_at he).symm
      by_cases q : e < 13
      · rw [jpo_at q]
        exact ppr_of (W := fun e => W5 (5 * 13 + e)) hf (fun e he => by
          show W5 (5 * 13 + e) = _
          rw [e1 e he, hv e he, jgk_cgd hv]) (fun d hd h1 h2 => hL5 d hd h1 h2) e q
      · rw [jpo_lt W5 5 e (by omega)]
        exact (if_neg q).symm
    have hpp : pz_prim (ppr (jpo V 0)) := by
      rw [← e9]
      exact z3
    rw [e9, e4] at f2
    have hS0 : jpo W6 8 ≠ pz_0 := t2
    obtain ⟨ds, k1, k2, k3⟩ := kq_deg 13 _ (jpo_lt W6 8) hS0
    have pS := pz_prim_fac hpp f2
    have oS := posP_fac (by rw [← e9]; exact posP_of hL5) k2 k3 (fun i hi => hGP.2.2.1 i (by omega)) hGP.2.1 f2
    have u5 := pm_same pS oS hf' u1 hL7
    refine mj_T.ret rfl rfl rfl ⟨W7, h7, hs7, fun s x1 x2 x3 x4 x5 x6 x7 x8 => ?_, ?_, rfl⟩
    · rw [u2 s (by omega) x3 x4 x6 x7 x8, f1 s (by omega) (by omega) x3 x4 x5, e2 s (by omega) x3 x4 x6 x7 x8, d2 s (by omega), c1 s (by omega) (by omega) (by omega) (by omega) x3 x4 x5 x6 x7 x8, b3 s (by omega) x3, a2 s (by omega)]
    · rw [u5]
      exact smR_of hpp (jpo_lt W6 8) hGP f2
  · refine absurd s2 (f2 S N (fun i hi => ?_))
    have k1 : c * z * S i = 0 := by rw [← cN i hi, s1]; rfl
    rcases Int.mul_eq_zero.mp k1 with k | k
    · rcases Int.mul_eq_zero.mp k with k | k
      · exact absurd k c5
      · exact absurd k z1
    · exact k
end JXS
section RSI
variable {h : mj_H} {tm er : Int} {T : Nat → Int} {N0 : Nat → Int} {u0 : Nat} {H : Nat → Nat → Int}
theorem rx_simple {x y : Int} (hx : jr x) (hy : jr y) (hI : jIx N0 u0 H tm er T h) : mj_Ok 40 240 [.ref 0, .int (jn x), .int (jn y)] h (fun r => ∃ S : pz_P, (((0 ≤ x ∧ x ≤ 5) ∧ (0 ≤ y ∧ y ≤ 5)) → 0 < fdg (rwN N0 y) 13 → smR (rwN N0 y) S) ∧ RP tm er T N0 u0 H (((0 ≤ x ∧ x ≤ 5) ∧ (0 ≤ y ∧ y ≤ 5)) ∧ 0 < fdg (rwN N0 y) 13) S x r) := by
  refine mj_Ok.of (M := mj_m240) rfl rfl rfl ?_
  obtain ⟨S, N, B, X, V, hs, K⟩ := hI
  iterate 2 refine mj_T.pl rfl rfl rfl rfl ?_
  refine rT_put (v := 0) hs rfl rfl (by decide) rfl (fun g22 hs22 => ?_)
  have K22 := K.put (k := 3) (v := 0) ⟨by decide, by decide⟩ (by decide) (by decide) (by decide) (by decide) (by decide)
  generalize jvu S 3 0 = S22 at hs22 K22
  iterate 3 refine mj_T.pl rfl rfl rfl rfl ?_
  refine mj_T.call (ins := .invokestatic 210) rfl rfl (Nat.le_of_ble_eq_true rfl) (Nat.le_of_ble_eq_true rfl) rfl rfl (mj_Ok.up (by decide) (rx_areRegisters (D := 0) hx hy hy)) (fun v' h' hq' => ?_) (fun i h' hq' => by rcases hq' with ⟨_, _, h⟩ | ⟨_, h⟩ <;> cases h)
  rcases hq' with ⟨⟨x1, x2⟩, ⟨y3, y4, y5, y6⟩, hq'⟩ | ⟨hno, hq'⟩
  case' inr =>
    cases hq'
    refine mj_T.if0 (a := 0) rfl ⟨by decide, by decide⟩ (fun hc => ?_) (fun hc => ?_)
    · simp [jc] at hc
    iterate 2 refine mj_T.pl rfl rfl rfl rfl ?_
    refine mj_T.call (ins := .invokevirtual 198) rfl rfl (Nat.le_of_ble_eq_true rfl) (Nat.le_of_ble_eq_true rfl) (by simp [mj_recv, rS_f hs22]) rfl (mj_Ok.up (by decide) (rp_fails (D := 0) (c := 1) hs22)) (fun v' g23 hq' => ?_) (fun i h' hq' => by obtain ⟨_, _, h⟩ := hq'; cases h)
    obtain ⟨_, hs23, hq'⟩ := hq'
    cases hq'
    exact mj_T.ret rfl rfl rfl ⟨pz_0, fun q => absurd q (fun q => hno ⟨q.1, q.2, q.2⟩), Or.inr ⟨fun q => hno ⟨q.1.1, q.1.2, q.1.2⟩, 0, g23, ⟨by decide, by decide⟩, rfl, ⟨_, N, B, X, V, hs23, K22.put ⟨by decide, by decide⟩ (by decide) (by decide) (by decide) (by decide) (by decide)⟩⟩⟩
  cases hq'
  refine mj_T.if0 (a := 1) rfl ⟨by decide, by decide⟩ (fun hc => ?_) (fun hc => ?_)
  rotate_left
  · simp [jc] at hc
  obtain ⟨x, rfl⟩ := Int.eq_ofNat_of_zero_le x1
  obtain ⟨y, rfl⟩ := Int.eq_ofNat_of_zero_le y3
  iterate 2 refine mj_T.pl rfl rfl rfl rfl ?_
  refine mj_T.call (ins := .invokevirtual 232) rfl rfl (Nat.le_of_ble_eq_true rfl) (Nat.le_of_ble_eq_true rfl) (by simp [mj_recv, rS_f hs22]) rfl (mj_Ok.up (by decide) (rp_isZero (D := 0) (r := y) (by omega) K22.nR hs22)) (fun v' h' hq' => ?_) (fun i h' hq' => by rcases hq' with ⟨_, h⟩ | ⟨_, h⟩ <;> cases h)
  have hfu : fdg (rwN N0 (y : Int)) 13 = jdg N y 13 := by
    rw [← fdg_jpo]
    exact (fdg_congr 13 fun i hi => by
      rw [jpo_at hi]
      exact rwN_at K22.2.1 (by omega) hi).symm
  rcases hq' with ⟨z24, hq'⟩ | ⟨nz24, hq'⟩
  case' inl =>
    cases hq'
    refine mj_T.if0 (a := 1) rfl ⟨by decide, by decide⟩ (fun hc => ?_) (fun hc => ?_)
    · simp [jc] at hc
    iterate 2 refine mj_T.pl rfl rfl rfl rfl ?_
    refine mj_T.call (ins := .invokevirtual 198) rfl rfl (Nat.le_of_ble_eq_true rfl) (Nat.le_of_ble_eq_true rfl) (by simp [mj_recv, rS_f hs22]) rfl (mj_Ok.up (by decide) (rp_fails (D := 0) (c := 2) hs22)) (fun v' g25 hq' => ?_) (fun i h' hq' => by obtain ⟨_, _, h⟩ := hq'; cases h)
    obtain ⟨_, hs25, hq'⟩ := hq'
    cases hq'
    exact mj_T.ret rfl rfl rfl ⟨pz_0, fun _ q => absurd q (by omega), Or.inr ⟨fun q => by have := q.2; omega, 0, g25, ⟨by decide, by decide⟩, rfl, ⟨_, N, B, X, V, hs25, K22.put ⟨by decide, by decide⟩ (by decide) (by decide) (by decide) (by decide) (by decide)⟩⟩⟩
  cases hq'
  refine mj_T.if0 (a := 0) rfl ⟨by decide, by decide⟩ (fun hc => ?_) (fun hc => ?_)
  rotate_left
  · simp [jc] at hc
  iterate 3 refine mj_T.pl rfl rfl rfl rfl ?_
  refine mj_T.call (ins := .invokevirtual 213) rfl rfl (Nat.le_of_ble_eq_true rfl) (Nat.le_of_ble_eq_true rfl) (by simp [mj_recv, rS_f hs22]) rfl (mj_Ok.up (by decide) (rp_loads (D := 0) (p := 0) (r := y) (by decide) (by omega) K22.nR hs22)) (fun v' g26 hq' => ?_) (fun i h' hq' => by obtain ⟨_, _, h⟩ := hq'; cases h)
  obtain ⟨_, hs26, hq'⟩ := hq'
  cases hq'
  have a26 : ∀ e, e < 13 → jfl V 0 (fun e => N (y * 13 + e)) 13 (0 * 13 + e) = N (y * 13 + e) := fun e he => jfl_at _ _ _ he
  have b26 : ∀ s, (s < 0 * 13 ∨ 0 * 13 + 13 ≤ s) → jfl V 0 (fun e => N (y * 13 + e)) 13 s = V s := fun s hc => jfl_off _ _ _ hc
  generalize jfl V 0 (fun e => N (y * 13 + e)) 13 = W26 at hs26 a26 b26
  have eA : jpo W26 0 = rwN N0 (y : Int) := funext fun e => by
    by_cases q : e < 13
    · rw [jpo_at q, a26 e q]
      exact rwN_at K22.2.1 (by omega) q
    · rw [jpo_lt W26 0 e (by omega), rwN_z N0 _ e (by omega)]
  have hsm : sml (jpo W26 0) := fun j hj => by
    rw [jpo_at hj, a26 j hj]
    have := K22.1.1.1 (y * 13 + j) (by omega)
    omega
  have c1 : ∀ e, e < 13 → (W26 (0 * 13 + e)).natAbs ≤ 10 ^ 18 := fun e he => by
    rw [a26 e he]
    exact K22.sh (r := y) (by omega) he
  have c2 : jpo W26 0 ≠ pz_0 := jpo_ne_of (by rw [jdg_congr 13 a26]; exact nz24)
  iterate 3 refine mj_T.pl rfl rfl rfl rfl ?_
  refine mj_T.call (ins := .invokevirtual 235) rfl rfl (Nat.le_of_ble_eq_true rfl) (Nat.le_of_ble_eq_true rfl) (by simp [mj_recv, rS_f hs26]) rfl (mj_Ok.up (by decide) (jx_simplifies (D := 0) (rG S22 N B T X) hsm c2 c1 hs26)) (fun v' g27 hq' => ?_) (fun i h' hq' => by obtain ⟨_, _, _, _, _, h⟩ := hq'; cases h)
  obtain ⟨W27, _, hs27, _, hSm, hq'⟩ := hq'
  cases hq'
  iterate 4 refine mj_T.pl rfl rfl rfl rfl ?_
  refine mj_T.call (ins := .invokevirtual 219) rfl rfl (Nat.le_of_ble_eq_true rfl) (Nat.le_of_ble_eq_true rfl) (by simp [mj_recv, rS_f hs27]) rfl (mj_Ok.up (by decide) (rx_puts (D := 0) (r := x) (p := 8) (c := 3) (by omega) (by decide) ⟨by decide, by decide⟩ K22 hs27)) (fun v' h' hq' => ?_) (fun i h' hq' => by rcases hq' with ⟨_, _, _, _, h, _⟩ | ⟨_, _, _, _, h, _⟩ <;> cases h)
  rw [eA] at hSm
  have hres : ∀ j, j < 13 → (fun e => W27 (8 * 13 + e)) j = jpo W27 8 j := fun j hj => (jpo_at hj).symm
  have hR : ((0 ≤ (x : Int) ∧ (x : Int) ≤ 5) ∧ (0 ≤ (y : Int) ∧ (y : Int) ≤ 5)) := ⟨⟨by omega, by omega⟩, ⟨by omega, by omega⟩⟩
  rcases hq' with ⟨hs9, z9, h9, hz9, e9, hI9⟩ | ⟨hs9, z9, h9, hz9, e9, hI9⟩
  · cases e9
    exact mj_T.ret rfl rfl rfl ⟨jpo W27 8, fun _ _ => hSm, Or.inl ⟨⟨hR, by omega⟩, Or.inl ⟨⟨sml_cg hres hs9, jpo_lt W27 8⟩, _, hres, z9, _, hz9, rfl, hI9⟩⟩⟩
  · cases e9
    exact mj_T.ret rfl rfl rfl ⟨jpo W27 8, fun _ _ => hSm, Or.inl ⟨⟨hR, by omega⟩, Or.inr ⟨fun q => hs9 (sml_cg (fun j hj => (hres j hj).symm) q.1), z9, _, hz9, rfl, hI9⟩⟩⟩
end RSI
