/-! The reference, exactly: primitive. -/
theorem jgk_mx {V : Nat → Int} {p d : Nat} (h : ∀ e, e < 13 → d ∣ (V (p * 13 + e)).natAbs) : ∀ m, d ∣ jgk V p m
  | 0 => Nat.dvd_zero d
  | m + 1 => Nat.dvd_gcd (jgk_mx h m) (h (12 - m) (by omega))
theorem jgk_cgd {V f : Nat → Int} {p : Nat} (h : ∀ e, e < 13 → V (p * 13 + e) = f e) : jgk V p 13 = cgd f 13 := Nat.dvd_antisymm (cgd_max f _ 13 (fun i hi => by rw [← h i hi]; exact jgk_dvd V p 13 i (Nat.le_refl _) (by omega) hi)) (jgk_mx (fun e he => by rw [h e he]; exact cgd_dvd f 13 e he) 13)
theorem ppr_of {R W : Nat → Int} {f : Int} (hf : f = 1 ∨ f = -1) (hw : ∀ e, e < 13 → W e = f * (R e).tdiv ((cgd R 13 : Nat) : Int)) (hp : ∀ d, d < 13 → W d ≠ 0 → (∀ e, d < e → e < 13 → W e = 0) → 0 < W d) : ∀ e, e < 13 → W e = ppr R e := fun e he => by
  have hle := fdg_le R 13
  have hpp : ppr R e = (R e).tdiv (sgc R) := if_pos he
  rw [hpp, hw e he]
  by_cases h0 : fdg R 13 = 0
  · rw [fdg_zero R 13 e (by omega) he, Int.zero_tdiv, Int.zero_tdiv, Int.mul_zero]
  · obtain ⟨d, hd⟩ : ∃ d, fdg R 13 = d + 1 := ⟨fdg R 13 - 1, by omega⟩
    have hne := fdg_ne R 13 (by omega)
    rw [hd, Nat.add_sub_cancel] at hne
    have hc : (cgd R 13 : Nat) ≠ 0 := fun y => hne (cgd_0 y d (by omega))
    have hdv : ((cgd R 13 : Nat) : Int) ∣ R d := Int.natAbs_dvd_natAbs.mp (by rw [Int.natAbs_natCast]; exact cgd_dvd R 13 d (by omega))
    obtain ⟨q, hq⟩ := hdv
    have hq2 : (R d).tdiv ((cgd R 13 : Nat) : Int) = q := by
      rw [hq]
      exact Int.mul_tdiv_cancel_left _ (by omega)
    have hq0 : q ≠ 0 := fun y => hne (by rw [hq, y, Int.mul_zero])
    have hwd : W d = f * q := by rw [hw d (by omega), hq2]
    have hpos := hp d (by omega) (by rw [hwd]; rcases hf with rfl | rfl <;> omega) (fun e' h1 h2 => by
      rw [hw e' h2, fdg_zero R 13 e' (by omega) h2, Int.zero_tdiv, Int.mul_zero])
    rw [hwd] at hpos
    have hcp : (0 : Int) < ((cgd R 13 : Nat) : Int) := by omega
    unfold sgc
    rw [hd, Nat.add_sub_cancel]
    by_cases hn : R d < 0
    · rw [if_pos ⟨by omega, hn⟩, Int.tdiv_neg]
      have hqn : q < 0 := by
        rcases Int.lt_trichotomy q 0 with y | y | y
        · exact y
        · exact absurd y hq0
        · have := Int.mul_pos hcp y
          omega
      rcases hf with rfl | rfl
      · omega
      · omega
    · rw [if_neg (fun y => hn y.2)]
      have hqp : 0 < q := by
        rcases Int.lt_trichotomy q 0 with y | y | y
        · have := Int.mul_neg_of_pos_of_neg hcp y
          omega
        · exact absurd y hq0
        · exact y
      rcases hf with rfl | rfl
      · omega
      · omega
section RPV
variable {h : mj_H} {tm er : Int} {T : Nat → Int} {N0 : Nat → Int} {u0 : Nat} {H : Nat → Nat → Int}
theorem rx_primitive {x y : Int} (hx : jr x) (hy : jr y) (hI : jIx N0 u0 H tm er T h) : mj_Ok 40 239 [.ref 0, .int (jn x), .int (jn y)] h (RP tm er T N0 u0 H ((0 ≤ x ∧ x ≤ 5) ∧ (0 ≤ y ∧ y ≤ 5)) (ppr (rwN N0 y)) x) := by
  refine mj_Ok.of (M := mj_m239) rfl rfl rfl ?_
  obtain ⟨S, N, B, X, V, hs, K⟩ := hI
  iterate 2 refine mj_T.pl rfl rfl rfl rfl ?_
  refine rT_put (v := 0) hs rfl rfl (by decide) rfl (fun g18 hs18 => ?_)
  have K18 := K.put (k := 3) (v := 0) ⟨by decide, by decide⟩ (by decide) (by decide) (by decide) (by decide) (by decide)
  generalize jvu S 3 0 = S18 at hs18 K18
  iterate 3 refine mj_T.pl rfl rfl rfl rfl ?_
  refine mj_T.call (ins := .invokestatic 210) rfl rfl (Nat.le_of_ble_eq_true rfl) (Nat.le_of_ble_eq_true rfl) rfl rfl (mj_Ok.up (by decide) (rx_areRegisters (D := 0) hx hy hy)) (fun v' h' hq' => ?_) (fun i h' hq' => by rcases hq' with ⟨_, _, h⟩ | ⟨_, h⟩ <;> cases h)
  rcases hq' with ⟨⟨x1, x2⟩, ⟨y3, y4, y5, y6⟩, hq'⟩ | ⟨hno, hq'⟩
  case' inr =>
    cases hq'
    refine mj_T.if0 (a := 0) rfl ⟨by decide, by decide⟩ (fun hc => ?_) (fun hc => ?_)
    · simp [jc] at hc
    iterate 2 refine mj_T.pl rfl rfl rfl rfl ?_
    refine mj_T.call (ins := .invokevirtual 198) rfl rfl (Nat.le_of_ble_eq_true rfl) (Nat.le_of_ble_eq_true rfl) (by simp [mj_recv, rS_f hs18]) rfl (mj_Ok.up (by decide) (rp_fails (D := 0) (c := 1) hs18)) (fun v' g19 hq' => ?_) (fun i h' hq' => by obtain ⟨_, _, h⟩ := hq'; cases h)
    obtain ⟨_, hs19, hq'⟩ := hq'
    cases hq'
    exact mj_T.ret rfl rfl rfl (Or.inr ⟨fun q => hno ⟨q.1, q.2, q.2⟩, 0, g19, ⟨by decide, by decide⟩, rfl, ⟨_, N, B, X, V, hs19, K18.put ⟨by decide, by decide⟩ (by decide) (by decide) (by decide) (by decide) (by decide)⟩⟩)
  cases hq'
  refine mj_T.if0 (a := 1) rfl ⟨by decide, by decide⟩ (fun hc => ?_) (fun hc => ?_)
  rotate_left
  · simp [jc] at hc
  obtain ⟨x, rfl⟩ := Int.eq_ofNat_of_zero_le x1
  obtain ⟨y, rfl⟩ := Int.eq_ofNat_of_zero_le y3
  iterate 3 refine mj_T.pl rfl rfl rfl rfl ?_
  refine mj_T.call (ins := .invokevirtual 213) rfl rfl (Nat.le_of_ble_eq_true rfl) (Nat.le_of_ble_eq_true rfl) (by simp [mj_recv, rS_f hs18]) rfl (mj_Ok.up (by decide) (rp_loads (D := 0) (p := 0) (r := y) (by decide) (by omega) K18.nR hs18)) (fun v' g20 hq' => ?_) (fun i h' hq' => by obtain ⟨_, _, h⟩ := hq'; cases h)
  obtain ⟨_, hs20, hq'⟩ := hq'
  cases hq'
  have a20 : ∀ e, e < 13 → jfl V 0 (fun e => N (y * 13 + e)) 13 (0 * 13 + e) = N (y * 13 + e) := fun e he => jfl_at _ _ _ he
  have b20 : ∀ s, (s < 0 * 13 ∨ 0 * 13 + 13 ≤ s) → jfl V 0 (fun e => N (y * 13 + e)) 13 s = V s := fun s hc => jfl_off _ _ _ hc
  generalize jfl V 0 (fun e => N (y * 13 + e)) 13 = W20 at hs20 a20 b20
  iterate 2 refine mj_T.pl rfl rfl rfl rfl ?_
  refine mj_T.call (ins := .invokevirtual 142) rfl rfl (Nat.le_of_ble_eq_true rfl) (Nat.le_of_ble_eq_true rfl) (by simp [mj_recv, rS_f hs20]) rfl (mj_Ok.up (by decide) (jx_makesPrimitive (D := 0) (rG S18 N B T X) (p := 0) (by decide) hs20)) (fun v' g21 hq' => ?_) (fun i h' hq' => by obtain ⟨_, _, _, _, _, _, h⟩ := hq'; cases h)
  obtain ⟨W21, _, hs21, ⟨f, hf, hW⟩, _, hP, hq'⟩ := hq'
  cases hq'
  iterate 4 refine mj_T.pl rfl rfl rfl rfl ?_
  refine mj_T.call (ins := .invokevirtual 219) rfl rfl (Nat.le_of_ble_eq_true rfl) (Nat.le_of_ble_eq_true rfl) (by simp [mj_recv, rS_f hs21]) rfl (mj_Ok.up (by decide) (rx_puts (D := 0) (r := x) (p := 0) (c := 2) (by omega) (by decide) ⟨by decide, by decide⟩ K18 hs21)) (fun v' h' hq' => ?_) (fun i h' hq' => by rcases hq' with ⟨_, _, _, _, h, _⟩ | ⟨_, _, _, _, h, _⟩ <;> cases h)
  have hR : ∀ e, e < 13 → W20 (0 * 13 + e) = rwN N0 (y : Int) e := fun e he => by
    rw [a20 e he]
    exact rwN_at K18.2.1 (by omega) he
  have hRs : sml (rwN N0 (y : Int)) := fun j hj => by
    rw [← rwN_at K18.2.1 (r := y) (by omega) hj]
    have := K18.1.1.1 (y * 13 + j) (by omega)
    omega
  have hres : ∀ j, j < 13 → (fun e => W21 (0 * 13 + e)) j = ppr (rwN N0 (y : Int)) j := ppr_of hf (fun e he => by
    show W21 (0 * 13 + e) = _
    rw [hW e he, hR e he, jgk_cgd hR]) (fun d hd h1 h2 => hP d hd h1 h2)
  have hfit : fit13 (ppr (rwN N0 (y : Int))) := ⟨fun j hj => ppr_sml hRs j, fun i hi => if_neg (by omega)⟩
  rcases hq' with ⟨hs9, z9, h9, hz9, e9, hI9⟩ | ⟨hs9, z9, h9, hz9, e9, hI9⟩
  · cases e9
    exact mj_T.ret rfl rfl rfl (Or.inl ⟨⟨⟨by omega, by omega⟩, ⟨by omega, by omega⟩⟩, Or.inl ⟨hfit, _, hres, z9, _, hz9, rfl, hI9⟩⟩)
  · exact absurd (sml_cg (fun j hj => (hres j hj).symm) hfit.1) hs9
end RPV
