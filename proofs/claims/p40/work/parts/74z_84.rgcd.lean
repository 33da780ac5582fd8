/-! The reference, exactly: gcd. -/
theorem rwN_z (N : Nat → Int) (a : Int) : ∀ i, 13 ≤ i → rwN N a i = 0 := fun i hi => by
  show (if i < 13 then _ else 0) = 0
  rw [if_neg (by omega)]
theorem ppr_sc {f : Nat → Int} (hf : sml f) (hz : ∀ i, 13 ≤ i → f i = 0) : (f = pz_0 ∧ fdg f 13 = 0 ∧ ppr f = pz_0) ∨ (1 ≤ fdg f 13 ∧ ∃ c : Int, c ≠ 0 ∧ f = pz_sc c (ppr f)) := by
  rcases Nat.eq_zero_or_pos (fdg f 13) with h | h
  · refine Or.inl ⟨funext fun i => ?_, h, ppr_z hf h⟩
    by_cases q : i < 13
    · exact fdg_zero f 13 i (by omega) q
    · exact hz i (by omega)
  · obtain ⟨h1, _, h2, h3, _⟩ := ppr_ok hf (m := fdg f 13 - 1) (by omega)
    refine Or.inr ⟨h, sgc f, h1, funext fun i => ?_⟩
    by_cases q : i < 13
    · exact h2 i q
    · show f i = sgc f * ppr f i
      rw [hz i (by omega), show ppr f i = 0 from if_neg q, Int.mul_zero]
theorem ppr_qdv {f : Nat → Int} (hf : sml f) (hz : ∀ i, 13 ≤ i → f i = 0) (G : pz_P) : qdv G f ↔ qdv G (ppr f) := by
  rcases ppr_sc hf hz with ⟨h1, _, h2⟩ | ⟨_, c, h1, h2⟩
  · rw [h1, ← h1, h2, h1]
  · constructor
    · intro k
      rw [h2] at k
      exact k.un h1
    · intro k
      rw [h2]
      exact k.sc c
theorem cgd_z {f : Nat → Int} (h : fdg f 13 = 0) : cgd f 13 = 0 := Nat.eq_zero_of_zero_dvd (cgd_max f 0 13 (fun i hi => by rw [fdg_zero f 13 i (by omega) hi]; exact ⟨0, rfl⟩))
theorem gcR_of {f1 f2 G : pz_P} (s1 : sml f1) (s2 : sml f2) (z1 : ∀ i, 13 ≤ i → f1 i = 0) (z2 : ∀ i, 13 ≤ i → f2 i = 0) (hl : pz_lt G 13) (hp : posP G) (d1 : qdv G f1) (d2 : qdv G f2) (hg : ∀ K : pz_P, qdv K f1 → qdv K f2 → qdv K G) (hpr : f1 ≠ pz_0 ∨ f2 ≠ pz_0 → pz_prim G) : gcR f1 f2 (pz_sc ((Nat.gcd (cgd f1 13) (cgd f2 13) : Nat) : Int) G) := by
  have nz : ∀ f : pz_P, 1 ≤ fdg f 13 → f ≠ pz_0 := fun f h1 h2 => by
    have := fdg_ne f 13 h1
    rw [h2] at this
    exact this rfl
  by_cases h : fdg f1 13 = 0 ∧ fdg f2 13 = 0
  · refine Or.inl ⟨h.1, h.2, ?_⟩
    rw [cgd_z h.1, cgd_z h.2]
    exact funext fun i => Int.zero_mul _
  · have hne : 1 ≤ fdg f1 13 ∨ 1 ≤ fdg f2 13 := by omega
    have hP := hpr (hne.imp (nz f1) (nz f2))
    obtain ⟨d, e1, e2, e3⟩ := kq_deg 13 G hl (kq_prim_ne hP)
    refine Or.inr ⟨hne, G, d, e1, ⟨hP, hp d e3 (fun e he => e2 e (by omega)), fun i hi => e2 i (by omega), qdv_exact hP ((ppr_qdv s1 z1 G).mp d1), qdv_exact hP ((ppr_qdv s2 z2 G).mp d2), fun K k1 k2 => hg K ((ppr_qdv s1 z1 K).mpr k1) ((ppr_qdv s2 z2 K).mpr k2)⟩, rfl⟩
section RGC
variable {h : mj_H} {tm er : Int} {T : Nat → Int} {N0 : Nat → Int} {u0 : Nat} {H : Nat → Nat → Int}
theorem rx_gcd_loop {S N B X : Nat → Int} {x : Nat} {y z : Int} {reg : Prop} (hreg : reg) {c : Int} {G0 P : pz_P} (hP : P = pz_sc c G0) (hG0 : pz_lt G0 13) (hx : x ≤ 5) (K : jKx N0 u0 H tm er S N B T) :
    ∀ (m k : Nat) (V : Nat → Int) (h : mj_H), k + m = 13 → rS S N B T X V h → (V 656).natAbs ≤ 10 ^ 18 → (∀ e, k ≤ e → e < 13 → (V (4 * 13 + e)).natAbs ≤ kq_F (10 ^ 18) 24) → V 656 = c → (∀ e, e < k → V (4 * 13 + e) = c * G0 e) → (∀ e, k ≤ e → e < 13 → V (4 * 13 + e) = G0 e) → mj_T 39 mj_m238 74 [some (.ref 0), some (.int (jn (x : Int))), some (.int (jn y)), some (.int (jn z)), some (.int (jn (k : Int)))] [] h (RP tm er T N0 u0 H reg P (x : Int)) := by
  intro m
  induction m with
  | zero =>
    intro k V h hk hs c1 c2 v6 l1 l2
    have hk : k = 13 := by omega
    subst hk
    iterate 2 refine mj_T.pl rfl rfl rfl rfl ?_
    refine mj_T.icmp (a := ((13 : Nat) : Int)) (b := 13) rfl ⟨by decide, by decide⟩ ⟨by decide, by decide⟩ (fun hc => ?_) (fun hc => ?_)
    rotate_left
    · simp [jc] at hc
    iterate 4 refine mj_T.pl rfl rfl rfl rfl ?_
    refine mj_T.call (ins := .invokevirtual 219) rfl rfl (Nat.le_of_ble_eq_true rfl) (Nat.le_of_ble_eq_true rfl) (by simp [mj_recv, rS_f hs]) rfl (mj_Ok.up (by decide) (rx_puts (D := 0) (r := x) (p := 4) (c := 2) (by omega) (by decide) ⟨by decide, by decide⟩ K hs)) (fun v' h' hq' => ?_) (fun i h' hq' => by rcases hq' with ⟨_, _, _, _, h, _⟩ | ⟨_, _, _, _, h, _⟩ <;> cases h)
    have hres : ∀ j, j < 13 → (fun e => V (4 * 13 + e)) j = P j := fun j hj => by
      rw [hP]
      exact l1 j hj
    have hz : ∀ i, 13 ≤ i → P i = 0 := fun i hi => by
      rw [hP]
      show c * G0 i = 0
      rw [hG0 i hi, Int.mul_zero]
    rcases hq' with ⟨hs9, z9, h9, hz9, e9, hI9⟩ | ⟨hs9, z9, h9, hz9, e9, hI9⟩
    · cases e9
      exact mj_T.ret rfl rfl rfl (Or.inl ⟨hreg, Or.inl ⟨⟨sml_cg hres hs9, hz⟩, _, hres, z9, _, hz9, rfl, hI9⟩⟩)
    · cases e9
      exact mj_T.ret rfl rfl rfl (Or.inl ⟨hreg, Or.inr ⟨fun q => hs9 (sml_cg (fun j hj => (hres j hj).symm) q.1), z9, _, hz9, rfl, hI9⟩⟩)
  | succ m ih =>
    intro k V h hk hs c1 c2 v6 l1 l2
    iterate 2 refine mj_T.pl rfl rfl rfl rfl ?_
    refine mj_T.icmp (a := (k : Int)) (b := 13) rfl ⟨by omega, by omega⟩ ⟨by decide, by decide⟩ (fun hc => ?_) (fun hc => ?_)
    · simp only [jc, decide_eq_true_eq] at hc
      omega
    iterate 3 refine mj_T.pl rfl rfl rfl rfl ?_
    refine mj_T.call (ins := .invokestatic 104) rfl rfl (Nat.le_of_ble_eq_true rfl) (Nat.le_of_ble_eq_true rfl) rfl rfl (mj_Ok.up (by decide) (jq_slot (D := 0) (p := 4) (i := k))) (fun v' h' hq' => ?_) (fun i h' hq' => by cases hq')
    cases hq'
    iterate 2 refine mj_T.pl rfl rfl rfl rfl ?_
    refine mj_T.call (ins := .invokestatic 104) rfl rfl (Nat.le_of_ble_eq_true rfl) (Nat.le_of_ble_eq_true rfl) rfl rfl (mj_Ok.up (by decide) (jq_slot (D := 0) (p := 4) (i := k))) (fun v' h' hq' => ?_) (fun i h' hq' => by cases hq')
    cases hq'
    refine mj_T.pl rfl rfl rfl rfl ?_
    refine mj_T.call (ins := .invokevirtual 117) rfl rfl (Nat.le_of_ble_eq_true rfl) (Nat.le_of_ble_eq_true rfl) (by simp [mj_recv, rS_f hs]) rfl (mj_Ok.up (by decide) (jS_mul (D := 0) (V := V) (rG S N B T X) (to := 4 * 13 + k) (a := 4 * 13 + k) (b := 656) (by omega) (by omega) (by decide) (jnl_of_lt (M := kq_F (10 ^ 18) 24 * 10 ^ 18) (by rw [Int.natAbs_mul]; exact Nat.mul_le_mul (c2 k (by omega) (by omega)) c1) rp_small5) hs)) (fun v' g1 hq' => ?_) (fun i h' hq' => by obtain ⟨_, _, h⟩ := hq'; cases h)
    obtain ⟨_, hs1, hq'⟩ := hq'
    cases hq'
    refine mj_T.iinc (a := (k : Int)) rfl rfl ?_
    refine mj_T.pl rfl rfl rfl rfl ?_
    refine ih (k + 1) _ g1 (by omega) hs1 (by rw [jvu_ne _ _ _ (by omega)]; exact c1) (fun e e1 e2 => by rw [jvu_ne _ _ _ (by omega)]; exact c2 e (by omega) e2) (by rw [jvu_ne _ _ _ (by omega)]; exact v6) (fun e he => ?_) (fun e e1 e2 => by rw [jvu_ne _ _ _ (by omega)]; exact l2 e (by omega) e2)
    by_cases q : e = k
    · subst q
      rw [jvu_at, l2 e (Nat.le_refl _) (by omega), v6, Int.mul_comm]
    · rw [jvu_ne _ _ _ (by omega)]
      exact l1 e (by omega)
theorem rx_gcd {x y z : Int} (hx : jr x) (hy : jr y) (hz : jr z) (hI : jIx N0 u0 H tm er T h) : mj_Ok 40 238 [.ref 0, .int (jn x), .int (jn y), .int (jn z)] h (fun r => ∃ R : pz_P, (((0 ≤ x ∧ x ≤ 5) ∧ (0 ≤ y ∧ y ≤ 5) ∧ (0 ≤ z ∧ z ≤ 5)) → gcR (rwN N0 y) (rwN N0 z) R) ∧ RP tm er T N0 u0 H ((0 ≤ x ∧ x ≤ 5) ∧ (0 ≤ y ∧ y ≤ 5) ∧ (0 ≤ z ∧ z ≤ 5)) R x r) := by
  refine mj_Ok.of (M := mj_m238) rfl rfl rfl ?_
  obtain ⟨S, N, B, X, V, hs, K⟩ := hI
  iterate 2 refine mj_T.pl rfl rfl rfl rfl ?_
  refine rT_put (v := 0) hs rfl rfl (by decide) rfl (fun g15 hs15 => ?_)
  have K15 := K.put (k := 3) (v := 0) ⟨by decide, by decide⟩ (by decide) (by decide) (by decide) (by decide) (by decide)
  generalize jvu S 3 0 = S15 at hs15 K15
  iterate 3 refine mj_T.pl rfl rfl rfl rfl ?_
  refine mj_T.call (ins := .invokestatic 210) rfl rfl (Nat.le_of_ble_eq_true rfl) (Nat.le_of_ble_eq_true rfl) rfl rfl (mj_Ok.up (by decide) (rx_areRegisters (D := 0) hx hy hz)) (fun v' h' hq' => ?_) (fun i h' hq' => by rcases hq' with ⟨_, _, h⟩ | ⟨_, h⟩ <;> cases h)
  rcases hq' with ⟨⟨x1, x2⟩, ⟨y3, y4, z5, z6⟩, hq'⟩ | ⟨hno, hq'⟩
  case' inr =>
    cases hq'
    refine mj_T.if0 (a := 0) rfl ⟨by decide, by decide⟩ (fun hc => ?_) (fun hc => ?_)
    · simp [jc] at hc
    iterate 2 refine mj_T.pl rfl rfl rfl rfl ?_
    refine mj_T.call (ins := .invokevirtual 198) rfl rfl (Nat.le_of_ble_eq_true rfl) (Nat.le_of_ble_eq_true rfl) (by simp [mj_recv, rS_f hs15]) rfl (mj_Ok.up (by decide) (rp_fails (D := 0) (c := 1) hs15)) (fun v' g16 hq' => ?_) (fun i h' hq' => by obtain ⟨_, _, h⟩ := hq'; cases h)
    obtain ⟨_, hs16, hq'⟩ := hq'
    cases hq'
    exact mj_T.ret rfl rfl rfl ⟨pz_0, fun q => absurd q hno, Or.inr ⟨hno, 0, g16, ⟨by decide, by decide⟩, rfl, ⟨_, N, B, X, V, hs16, K15.put ⟨by decide, by decide⟩ (by decide) (by decide) (by decide) (by decide) (by decide)⟩⟩⟩
  cases hq'
  refine mj_T.if0 (a := 1) rfl ⟨by decide, by decide⟩ (fun hc => ?_) (fun hc => ?_)
  rotate_left
  · simp [jc] at hc
  obtain ⟨x, rfl⟩ := Int.eq_ofNat_of_zero_le x1
  obtain ⟨y, rfl⟩ := Int.eq_ofNat_of_zero_le y3
  obtain ⟨z, rfl⟩ := Int.eq_ofNat_of_zero_le z5
  iterate 3 refine mj_T.pl rfl rfl rfl rfl ?_
  refine mj_T.call (ins := .invokevirtual 213) rfl rfl (Nat.le_of_ble_eq_true rfl) (Nat.le_of_ble_eq_true rfl) (by simp [mj_recv, rS_f hs15]) rfl (mj_Ok.up (by decide) (rp_loads (D := 0) (p := 5) (r := y) (by decide) (by omega) K15.nR hs15)) (fun v' g17 hq' => ?_) (fun i h' hq' => by obtain ⟨_, _, h⟩ := hq'; cases h)
  obtain ⟨_, hs17, hq'⟩ := hq'
  cases hq'
  have a17 : ∀ e, e < 13 → jfl V 5 (fun e => N (y * 13 + e)) 13 (5 * 13 + e) = N (y * 13 + e) := fun e he => jfl_at _ _ _ he
  have b17 : ∀ s, (s < 5 * 13 ∨ 5 * 13 + 13 ≤ s) → jfl V 5 (fun e => N (y * 13 + e)) 13 s = V s := fun s hc => jfl_off _ _ _ hc
  generalize jfl V 5 (fun e => N (y * 13 + e)) 13 = W17 at hs17 a17 b17
  iterate 3 refine mj_T.pl rfl rfl rfl rfl ?_
  refine mj_T.call (ins := .invokevirtual 213) rfl rfl (Nat.le_of_ble_eq_true rfl) (Nat.le_of_ble_eq_true rfl) (by simp [mj_recv, rS_f hs17]) rfl (mj_Ok.up (by decide) (rp_loads (D := 0) (p := 6) (r := z) (by decide) (by omega) K15.nR hs17)) (fun v' g18 hq' => ?_) (fun i h' hq' => by obtain ⟨_, _, h⟩ := hq'; cases h)
  obtain ⟨_, hs18, hq'⟩ := hq'
  cases hq'
  have a18 : ∀ e, e < 13 → jfl W17 6 (fun e => N (z * 13 + e)) 13 (6 * 13 + e) = N (z * 13 + e) := fun e he => jfl_at _ _ _ he
  have b18 : ∀ s, (s < 6 * 13 ∨ 6 * 13 + 13 ≤ s) → jfl W17 6 (fun e => N (z * 13 + e)) 13 s = W17 s := fun s hc => jfl_off _ _ _ hc
  generalize jfl W17 6 (fun e => N (z * 13 + e)) 13 = W18 at hs18 a18 b18
  have c1 : ∀ e, e < 13 → (W18 (5 * 13 + e)).natAbs ≤ 10 ^ 18 := fun e he => by
    rw [b18 _ (by omega), a17 e he]
    exact K15.sh (r := y) (by omega) he
  have c2 : ∀ e, e < 13 → (W18 (6 * 13 + e)).natAbs ≤ 10 ^ 18 := fun e he => by
    rw [a18 e he]
    exact K15.sh (r := z) (by omega) he
  iterate 3 refine mj_T.pl rfl rfl rfl rfl ?_
  refine mj_T.call (ins := .invokevirtual 130) rfl rfl (Nat.le_of_ble_eq_true rfl) (Nat.le_of_ble_eq_true rfl) (by simp [mj_recv, rS_f hs18]) rfl (mj_Ok.up (by decide) (jp_contents (D := 0) (rG S15 N B T X) (to := 661) (p := 5) (by decide) (by decide) (by decide) (by decide) (by decide) (by decide) (by decide) hs18)) (fun v' g19 hq' => ?_) (fun i h' hq' => by obtain ⟨_, _, _, _, _, h⟩ := hq'; cases h)
  obtain ⟨W19, _, hs19, d1, d2, hq'⟩ := hq'
  cases hq'
  iterate 3 refine mj_T.pl rfl rfl rfl rfl ?_
  refine mj_T.call (ins := .invokevirtual 130) rfl rfl (Nat.le_of_ble_eq_true rfl) (Nat.le_of_ble_eq_true rfl) (by simp [mj_recv, rS_f hs19]) rfl (mj_Ok.up (by decide) (jp_contents (D := 0) (rG S15 N B T X) (to := 662) (p := 6) (by decide) (by decide) (by decide) (by decide) (by decide) (by decide) (by decide) hs19)) (fun v' g20 hq' => ?_) (fun i h' hq' => by obtain ⟨_, _, _, _, _, h⟩ := hq'; cases h)
  obtain ⟨W20, _, hs20, d3, d4, hq'⟩ := hq'
  cases hq'
  iterate 4 refine mj_T.pl rfl rfl rfl rfl ?_
  refine mj_T.call (ins := .invokevirtual 127) rfl rfl (Nat.le_of_ble_eq_true rfl) (Nat.le_of_ble_eq_true rfl) (by simp [mj_recv, rS_f hs20]) rfl (mj_Ok.up (by decide) (jp_commons (D := 0) (V := W20) (rG S15 N B T X) (to := 656) (i := 661) (j := 662) (by decide) (by decide) (by decide) (by decide) (by decide) (by decide) (by decide) hs20)) (fun v' g21 hq' => ?_) (fun i h' hq' => by obtain ⟨_, _, _, _, _, h⟩ := hq'; cases h)
  obtain ⟨W21, _, hs21, d5, d6, hq'⟩ := hq'
  cases hq'
  have k5 : jgk W18 5 13 ≤ 10 ^ 18 := jgk_le c1
  have c3 : ∀ e, e < 13 → (W19 (6 * 13 + e)).natAbs ≤ 10 ^ 18 := fun e he => by rw [d2 _ (by omega) (by omega) (by omega) (by omega) (by omega)]; exact c2 e he
  have k6 : jgk W19 6 13 ≤ 10 ^ 18 := jgk_le c3
  have k7 : (W21 656).natAbs ≤ 10 ^ 18 := by rw [d5, d4 661 (by decide) (by decide) (by decide) (by decide) (by decide), d1, d3, Int.natAbs_natCast, Int.natAbs_natCast, Int.natAbs_natCast]; exact gcd_le2 k5 k6
  have c5 : ∀ e, e < 13 → (W21 (5 * 13 + e)).natAbs ≤ 10 ^ 18 := fun e he => by rw [d6 _ (by omega) (by omega) (by omega) (by omega), d4 _ (by omega) (by omega) (by omega) (by omega) (by omega), d2 _ (by omega) (by omega) (by omega) (by omega) (by omega)]; exact c1 e he
  have c6 : ∀ e, e < 13 → (W21 (6 * 13 + e)).natAbs ≤ 10 ^ 18 := fun e he => by rw [d6 _ (by omega) (by omega) (by omega) (by omega), d4 _ (by omega) (by omega) (by omega) (by omega) (by omega)]; exact c3 e he
  iterate 4 refine mj_T.pl rfl rfl rfl rfl ?_
  refine mj_T.call (ins := .invokevirtual 152) rfl rfl (Nat.le_of_ble_eq_true rfl) (Nat.le_of_ble_eq_true rfl) (by simp [mj_recv, rS_f hs21]) rfl (mj_Ok.up (by decide) (jx_commonsA (D := 0) (V := W21) (rG S15 N B T X) (A := 10 ^ 18) kq_fit18 (to := 4) (a := 5) (b := 6) (by decide) (by decide) (by decide) (by decide) (by decide) (by decide) (by decide) (by decide) (by decide) c5 c6 hs21)) (fun v' g22 hq' => ?_) (fun i h' hq' => by obtain ⟨_, _, _, _, _, h⟩ := hq'; cases h)
  obtain ⟨W22, _, hs22, d7, ⟨d8, dX⟩, hq'⟩ := hq'
  cases hq'
  iterate 2 refine mj_T.pl rfl rfl rfl rfl ?_
  have v65 : ∀ e, e < 13 → W21 (5 * 13 + e) = rwN N0 (y : Int) e := fun e he => by
    rw [d6 _ (by omega) (by omega) (by omega) (by omega), d4 _ (by omega) (by omega) (by omega) (by omega) (by omega), d2 _ (by omega) (by omega) (by omega) (by omega) (by omega), b18 _ (by omega), a17 e he]
    exact rwN_at K15.2.1 (by omega) he
  have v66 : ∀ e, e < 13 → W21 (6 * 13 + e) = rwN N0 (z : Int) e := fun e he => by
    rw [d6 _ (by omega) (by omega) (by omega) (by omega), d4 _ (by omega) (by omega) (by omega) (by omega) (by omega), d2 _ (by omega) (by omega) (by omega) (by omega) (by omega), a18 e he]
    exact rwN_at K15.2.1 (by omega) he
  have eA : jpo W21 5 = rwN N0 (y : Int) := funext fun e => by
    by_cases q : e < 13
    · rw [jpo_at q, v65 e q]
    · rw [jpo_lt W21 5 e (by omega), rwN_z N0 _ e (by omega)]
  have eB : jpo W21 6 = rwN N0 (z : Int) := funext fun e => by
    by_cases q : e < 13
    · rw [jpo_at q, v66 e q]
    · rw [jpo_lt W21 6 e (by omega), rwN_z N0 _ e (by omega)]
  have hg1 : W21 656 = ((Nat.gcd (cgd (rwN N0 (y : Int)) 13) (cgd (rwN N0 (z : Int)) 13) : Nat) : Int) := by
    have j5 : jgk W18 5 13 = cgd (rwN N0 (y : Int)) 13 := jgk_cgd (fun e he => by
      rw [b18 _ (by omega), a17 e he]
      exact rwN_at K15.2.1 (by omega) he)
    have j6 : jgk W19 6 13 = cgd (rwN N0 (z : Int)) 13 := jgk_cgd (fun e he => by
      rw [d2 _ (by omega) (by omega) (by omega) (by omega) (by omega), a18 e he]
      exact rwN_at K15.2.1 (by omega) he)
    rw [d5, d4 661 (by decide) (by decide) (by decide) (by decide) (by decide), d1, d3, Int.natAbs_natCast, Int.natAbs_natCast, j5, j6]
  have sm : ∀ r : Nat, r ≤ 5 → sml (rwN N0 (r : Int)) := fun r hr j hj => by
    rw [← rwN_at K15.2.1 hr hj]
    have := K15.1.1.1 (r * 13 + j) (by omega)
    omega
  rw [eA, eB] at dX
  obtain ⟨x1', x2', x3', x4', x5'⟩ := dX.fin
  have hgc := gcR_of (G := jpo W22 4) (sm y (by omega)) (sm z (by omega)) (rwN_z N0 _) (rwN_z N0 _) (jpo_lt W22 4) x1' x2' x3' x4' x5'
  refine mj_T.to (rx_gcd_loop (reg := ((0 ≤ (x : Int) ∧ (x : Int) ≤ 5) ∧ (0 ≤ (y : Int) ∧ (y : Int) ≤ 5) ∧ (0 ≤ (z : Int) ∧ (z : Int) ≤ 5))) (c := W21 656) (G0 := jpo W22 4) ⟨⟨by omega, by omega⟩, ⟨by omega, by omega⟩, ⟨by omega, by omega⟩⟩ (by rw [hg1]) (jpo_lt W22 4) (by omega) K15 13 0 _ _ (by omega) hs22 (by rw [d7 656 (by decide) (by decide) (by decide) (by decide) (by decide) (by decide) (by decide) (by decide) (by decide) (by decide)]; exact k7) (fun e _ he => by have := d8 e; rw [jpo_at he] at this; exact this) (d7 656 (by decide) (by decide) (by decide) (by decide) (by decide) (by decide) (by decide) (by decide) (by decide) (by decide)) (fun e he => absurd he (by omega)) (fun e _ he => (jpo_at he).symm)) (fun r hr => ⟨_, fun _ => hgc, hr⟩)
end RGC
