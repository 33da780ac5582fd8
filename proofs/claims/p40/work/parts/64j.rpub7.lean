/-! Calls of the reference: substitution, roots by a prime, real roots. -/
theorem rp_cr1 : 13 * (kq_F (10 ^ 51) 24 * 1000 ^ 12) < jB ^ 698 := by decide +kernel
theorem rp_a51 : 13 * 10 ^ 51 < jB ^ 698 := by decide +kernel
theorem rp_cr2 : 13 * (kq_F (10 ^ 51) 24 * (6 * ((10 ^ 50 + 2) * 10 ^ 50)) ^ 12) < jB ^ 698 := by decide +kernel
theorem rp_cr3 : (6 * ((10 ^ 50 + 2) * 10 ^ 50)) ^ 12 < jB ^ 698 := by decide +kernel
theorem rp_cr4 : 13 * (10 ^ 50 * (6 * ((10 ^ 50 + 2) * 10 ^ 50)) ^ 12) < jB ^ 698 := by decide +kernel
theorem rp_ks : kq_S ≤ 10 ^ 50 ∧ kq_S * 12 ≤ 10 ^ 51 := by decide +kernel
theorem rp_x50 : 10 ^ 50 ≤ 6 * ((10 ^ 50 + 2) * 10 ^ 50) := by decide +kernel
theorem rp_x1 : 1 ≤ 6 * ((10 ^ 50 + 2) * 10 ^ 50) := by decide +kernel
theorem rp_b20 : ∀ x, x ≤ 20 → 2 ^ x ≤ 10 ^ 50 := by decide +kernel
section RPU
variable {h : mj_H} {tm er : Int} {T : Nat → Int}
theorem rp_sb_loop {S N B X V0 : Nat → Int} {x : Nat} {y z : Int} (hx : x ≤ 5) (K : jK tm er S N B T) (hA : ∀ e, e < 13 → (V0 (0 * 13 + e)).natAbs ≤ 10 ^ 18) (hB : ∀ e, e < 13 → (V0 (1 * 13 + e)).natAbs ≤ 10 ^ 18) (hdeg : (jdg V0 0 13 - 1) * (jdg V0 1 13 - 1) ≤ 12) :
    ∀ (m s : Nat) (V : Nat → Int) (h : mj_H), m + s = jdg V0 0 13 → rS S N B T X V h → (∀ j, j < 26 → V j = V0 j) → (∀ e, e < 13 → (V (2 * 13 + e)).natAbs ≤ (170 * 10 ^ 18) ^ s) → ((s = 0 ∧ jdg V 2 13 = 0) ∨ (1 ≤ s ∧ jdg V 2 13 ≤ (s - 1) * (jdg V0 1 13 - 1) + 1)) → mj_T 39 mj_m236 74 [some (.ref 0), some (.int (jn (x : Int))), some (.int (jn y)), some (.int (jn z)), some (.int (jn ((m : Int) - 1)))] [] h (rI tm er T) := by
  have hl0 := jdg_le V0 0 13
  have hl1 := jdg_le V0 1 13
  intro m
  induction m with
  | zero =>
    intro s V h hm hs f c1 c2
    refine mj_T.pl rfl rfl rfl rfl ?_
    refine mj_T.if0 (a := ((0 : Nat) : Int) - 1) rfl ⟨by decide, by decide⟩ (fun hc => ?_) (fun hc => ?_)
    rotate_left
    · simp [jc] at hc
    iterate 4 refine mj_T.pl rfl rfl rfl rfl ?_
    refine mj_T.call (ins := .invokevirtual 219) rfl rfl (Nat.le_of_ble_eq_true rfl) (Nat.le_of_ble_eq_true rfl) (by simp [mj_recv, rS_f hs]) rfl (mj_Ok.up (by decide) (rp_puts (D := 0) (r := x) (p := 2) (c := 2) (by omega) (by decide) ⟨by decide, by decide⟩ K hs)) (fun v' h' hq' => ?_) (fun i h' hq' => by obtain ⟨_, _, _, h, _⟩ := hq'; cases h)
    obtain ⟨z9, h9, hz9, e9, hI9⟩ := hq'
    cases e9
    exact mj_T.ret rfl rfl rfl ⟨z9, _, hz9, rfl, hI9⟩
  | succ m ih =>
    intro s V h hm hs f c1 c2
    refine mj_T.pl rfl rfl rfl rfl ?_
    refine mj_T.if0 (a := ((m + 1 : Nat) : Int) - 1) rfl ⟨by omega, by omega⟩ (fun hc => ?_) (fun hc => ?_)
    · simp only [jc, decide_eq_true_eq] at hc
      omega
    rw [show ((m + 1 : Nat) : Int) - 1 = (m : Int) by omega]
    have e1 : jdg V 1 13 = jdg V0 1 13 := jdg_congr 13 fun e he => f _ (by omega)
    have hmul : (s - 1) * (jdg V0 1 13 - 1) + (jdg V0 1 13 - 1) = s * (jdg V0 1 13 - 1) ∨ s = 0 := by
      rcases Nat.eq_zero_or_pos s with q | q
      · exact Or.inr q
      · refine Or.inl ?_
        obtain ⟨t, rfl⟩ : ∃ t, s = t + 1 := ⟨s - 1, by omega⟩
        rw [Nat.add_sub_cancel, Nat.succ_mul]
    have hle : s * (jdg V0 1 13 - 1) ≤ 12 := Nat.le_trans (Nat.mul_le_mul_right _ (by omega)) hdeg
    have hpw : (170 * 10 ^ 18) ^ s ≤ (170 * 10 ^ 18) ^ 13 := Nat.pow_le_pow_right (by decide) (by omega)
    have hp1 : 1 ≤ (170 * 10 ^ 18) ^ s := Nat.pow_pos (by decide)
    have h6 := rp_small6
    have hps : (170 * 10 ^ 18) ^ (s + 1) = (170 * 10 ^ 18) ^ s * (170 * 10 ^ 18) := Nat.pow_succ _ _
    obtain ⟨al, ha1, ha2, ha3⟩ : ∃ al : Nat, (∀ e, e < 13 → (V (2 * 13 + e)).natAbs ≤ al) ∧ al ≤ (170 * 10 ^ 18) ^ s ∧ (s = 0 → al = 0) := by
      rcases c2 with ⟨q, q2⟩ | ⟨q, _⟩
      · exact ⟨0, fun e he => by rw [jdg_zero V 2 13 e (by omega) he]; exact Nat.zero_le _, Nat.zero_le _, fun _ => rfl⟩
      · exact ⟨_, c1, Nat.le_refl _, fun q2 => absurd q2 (by omega)⟩
    iterate 4 refine mj_T.pl rfl rfl rfl rfl ?_
    refine mj_T.call (ins := .invokevirtual 121) rfl rfl (Nat.le_of_ble_eq_true rfl) (Nat.le_of_ble_eq_true rfl) (by simp [mj_recv, rS_f hs]) rfl (mj_Ok.up (by decide) (jp_multipliesPoly (D := 0) (V := V) (rG S N B T X) (to := 7) (a := 2) (b := 1) (by decide) (by decide) (by decide) (by decide) (by decide) (al := al) (be := 10 ^ 18) ha1 (fun e he => by rw [f _ (by omega)]; exact hB e he) (by rw [e1]; omega) (by omega) hs)) (fun v' g1 hq' => ?_) (fun i h' hq' => by obtain ⟨_, _, _, _, _, _, h⟩ := hq'; cases h)
    obtain ⟨W1, _, hs1, d1, d2, d3, hq'⟩ := hq'
    cases hq'
    iterate 3 refine mj_T.pl rfl rfl rfl rfl ?_
    refine mj_T.call (ins := .invokevirtual 124) rfl rfl (Nat.le_of_ble_eq_true rfl) (Nat.le_of_ble_eq_true rfl) (by simp [mj_recv, rS_f hs1]) rfl (mj_Ok.up (by decide) (jp_copiesPoly (D := 0) (V := W1) (rG S N B T X) (p := 2) (q := 7) (by decide) (by decide) (by decide) hs1)) (fun v' g2 hq' => ?_) (fun i h' hq' => by obtain ⟨_, _, h⟩ := hq'; cases h)
    obtain ⟨_, hs2, hq'⟩ := hq'
    cases hq'
    have q1 : ∀ e, e < 13 → jfl W1 2 (fun e => W1 (7 * 13 + e)) 13 (2 * 13 + e) = W1 (7 * 13 + e) := fun e he => jfl_at _ _ _ he
    have q2 : ∀ s, (s < 26 ∨ 39 ≤ s) → jfl W1 2 (fun e => W1 (7 * 13 + e)) 13 s = W1 s := fun s hc => jfl_off _ _ _ (by omega)
    generalize jfl W1 2 (fun e => W1 (7 * 13 + e)) 13 = W2 at hs2 q1 q2
    iterate 3 refine mj_T.pl rfl rfl rfl rfl ?_
    refine mj_T.call (ins := .invokestatic 104) rfl rfl (Nat.le_of_ble_eq_true rfl) (Nat.le_of_ble_eq_true rfl) rfl rfl (mj_Ok.up (by decide) (jq_slot (D := 0) (p := 2) (i := 0))) (fun v' h' hq' => ?_) (fun i h' hq' => by cases hq')
    cases hq'
    iterate 2 refine mj_T.pl rfl rfl rfl rfl ?_
    refine mj_T.call (ins := .invokestatic 104) rfl rfl (Nat.le_of_ble_eq_true rfl) (Nat.le_of_ble_eq_true rfl) rfl rfl (mj_Ok.up (by decide) (jq_slot (D := 0) (p := 2) (i := 0))) (fun v' h' hq' => ?_) (fun i h' hq' => by cases hq')
    cases hq'
    iterate 2 refine mj_T.pl rfl rfl rfl rfl ?_
    refine mj_T.call (ins := .invokestatic 104) rfl rfl (Nat.le_of_ble_eq_true rfl) (Nat.le_of_ble_eq_true rfl) rfl rfl (mj_Ok.up (by decide) (jq_slot (D := 0) (p := 0) (i := m))) (fun v' h' hq' => ?_) (fun i h' hq' => by cases hq')
    cases hq'
    refine mj_T.pl rfl rfl rfl rfl ?_
    have va : W2 (0 * 13 + m) = V0 (0 * 13 + m) := by rw [q2 _ (by omega), d1 _ (by omega) (by omega), f _ (by omega)]
    have v1 : (W2 (2 * 13 + 0) + 1 * W2 (0 * 13 + m)).natAbs ≤ (170 * 10 ^ 18) ^ (s + 1) := by
      rw [va, q1 0 (by decide), Int.one_mul]
      have k1 := d2 0 (by decide)
      have k2 := hA m (by omega)
      have k3 := Int.natAbs_add_le (W1 (7 * 13 + 0)) (V0 (0 * 13 + m))
      omega
    refine mj_T.call (ins := .invokevirtual 107) rfl rfl (Nat.le_of_ble_eq_true rfl) (Nat.le_of_ble_eq_true rfl) (by simp [mj_recv, rS_f hs2]) rfl (mj_Ok.up (by decide) (jS_adds (D := 0) (V := W2) (rG S N B T X) (to := 2 * 13 + 0) (a := 2 * 13 + 0) (b := 0 * 13 + m) (f := 1) (by decide) (by decide) (by omega) (Or.inl rfl) (jnl_of_lt v1 (by omega)) hs2)) (fun v' g3 hq' => ?_) (fun i h' hq' => by obtain ⟨_, _, h⟩ := hq'; cases h)
    obtain ⟨_, hs3, hq'⟩ := hq'
    cases hq'
    have u1 : jvu W2 (2 * 13 + 0) (W2 (2 * 13 + 0) + 1 * W2 (0 * 13 + m)) (2 * 13 + 0) = W2 (2 * 13 + 0) + 1 * W2 (0 * 13 + m) := jvu_at _ _ _
    have u2 : ∀ s, s ≠ 2 * 13 + 0 → jvu W2 (2 * 13 + 0) (W2 (2 * 13 + 0) + 1 * W2 (0 * 13 + m)) s = W2 s := fun s hne => jvu_ne _ _ _ hne
    generalize jvu W2 (2 * 13 + 0) (W2 (2 * 13 + 0) + 1 * W2 (0 * 13 + m)) = W3 at hs3 u1 u2
    refine mj_T.iinc (a := (m : Int)) rfl rfl ?_
    refine mj_T.pl rfl rfl rfl rfl ?_
    refine ih (s + 1) W3 g3 (by omega) hs3 (fun j hj => by rw [u2 _ (by omega), q2 _ (by omega), d1 _ (by omega) (by omega), f _ hj]) (fun e he => ?_) (Or.inr ⟨by omega, ?_⟩)
    · by_cases e0 : e = 0
      · subst e0
        rw [u1]
        exact v1
      · rw [u2 _ (by omega), q1 e he]
        have := d2 e he
        omega
    · have j1 : jdg W1 7 13 ≤ jdg V 2 13 + jdg V 1 13 - 1 := d3
      refine jdg_of_zero fun e x1 x2 => ?_
      rw [Nat.add_sub_cancel] at x1
      rw [u2 _ (by omega), q1 e x2]
      by_cases q : s = 0
      · have := d2 e x2
        rw [ha3 q, Nat.zero_mul, Nat.mul_zero] at this
        omega
      · exact jdg_zero W1 7 13 e (by omega) x2
theorem rp_substitute {x y z : Int} (hx : jr x) (hy : jr y) (hz : jr z) (hI : jI tm er T h) : mj_Ok 40 236 [.ref 0, .int (jn x), .int (jn y), .int (jn z)] h (rI tm er T) := by
  refine mj_Ok.of (M := mj_m236) rfl rfl rfl ?_
  obtain ⟨S, N, B, X, V, hs, K⟩ := hI
  iterate 2 refine mj_T.pl rfl rfl rfl rfl ?_
  refine rT_put (v := 0) hs rfl rfl (by decide) rfl (fun g4 hs4 => ?_)
  have K4 := K.put (k := 3) (v := 0) ⟨by decide, by decide⟩ (by decide) (by decide) (by decide) (by decide) (by decide)
  generalize jvu S 3 0 = S4 at hs4 K4
  iterate 3 refine mj_T.pl rfl rfl rfl rfl ?_
  refine mj_T.call (ins := .invokestatic 210) rfl rfl (Nat.le_of_ble_eq_true rfl) (Nat.le_of_ble_eq_true rfl) rfl rfl (mj_Ok.up (by decide) (rp_areRegisters (D := 0) hx hy hz)) (fun v' h' hq' => ?_) (fun i h' hq' => by rcases hq' with ⟨_, _, h⟩ | ⟨_, h⟩ <;> cases h)
  rcases hq' with ⟨⟨x1, x2⟩, ⟨y3, y4, z5, z6⟩, hq'⟩ | ⟨_, hq'⟩
  case' inr =>
    cases hq'
    refine mj_T.if0 (a := 0) rfl ⟨by decide, by decide⟩ (fun hc => ?_) (fun hc => ?_)
    · simp [jc] at hc
    iterate 2 refine mj_T.pl rfl rfl rfl rfl ?_
    refine mj_T.call (ins := .invokevirtual 198) rfl rfl (Nat.le_of_ble_eq_true rfl) (Nat.le_of_ble_eq_true rfl) (by simp [mj_recv, rS_f hs4]) rfl (mj_Ok.up (by decide) (rp_fails (D := 0) (c := 1) hs4)) (fun v' g5 hq' => ?_) (fun i h' hq' => by obtain ⟨_, _, h⟩ := hq'; cases h)
    obtain ⟨_, hs5, hq'⟩ := hq'
    cases hq'
    exact mj_T.ret rfl rfl rfl ⟨0, g5, ⟨by decide, by decide⟩, rfl, ⟨_, N, B, X, V, hs5, K4.put ⟨by decide, by decide⟩ (by decide) (by decide) (by decide) (by decide) (by decide)⟩⟩
  cases hq'
  refine mj_T.if0 (a := 1) rfl ⟨by decide, by decide⟩ (fun hc => ?_) (fun hc => ?_)
  rotate_left
  · simp [jc] at hc
  obtain ⟨x, rfl⟩ := Int.eq_ofNat_of_zero_le x1
  obtain ⟨y, rfl⟩ := Int.eq_ofNat_of_zero_le y3
  obtain ⟨z, rfl⟩ := Int.eq_ofNat_of_zero_le z5
  iterate 3 refine mj_T.pl rfl rfl rfl rfl ?_
  refine mj_T.call (ins := .invokevirtual 213) rfl rfl (Nat.le_of_ble_eq_true rfl) (Nat.le_of_ble_eq_true rfl) (by simp [mj_recv, rS_f hs4]) rfl (mj_Ok.up (by decide) (rp_loads (D := 0) (p := 0) (r := y) (by decide) (by omega) K4.nR hs4)) (fun v' g6 hq' => ?_) (fun i h' hq' => by obtain ⟨_, _, h⟩ := hq'; cases h)
  obtain ⟨_, hs6, hq'⟩ := hq'
  cases hq'
  have a6 : ∀ e, e < 13 → jfl V 0 (fun e => N (y * 13 + e)) 13 (0 * 13 + e) = N (y * 13 + e) := fun e he => jfl_at _ _ _ he
  have b6 : ∀ s, (s < 0 * 13 ∨ 0 * 13 + 13 ≤ s) → jfl V 0 (fun e => N (y * 13 + e)) 13 s = V s := fun s hc => jfl_off _ _ _ hc
  generalize jfl V 0 (fun e => N (y * 13 + e)) 13 = W6 at hs6 a6 b6
  iterate 3 refine mj_T.pl rfl rfl rfl rfl ?_
  refine mj_T.call (ins := .invokevirtual 213) rfl rfl (Nat.le_of_ble_eq_true rfl) (Nat.le_of_ble_eq_true rfl) (by simp [mj_recv, rS_f hs6]) rfl (mj_Ok.up (by decide) (rp_loads (D := 0) (p := 1) (r := z) (by decide) (by omega) K4.nR hs6)) (fun v' g7 hq' => ?_) (fun i h' hq' => by obtain ⟨_, _, h⟩ := hq'; cases h)
  obtain ⟨_, hs7, hq'⟩ := hq'
  cases hq'
  have a7 : ∀ e, e < 13 → jfl W6 1 (fun e => N (z * 13 + e)) 13 (1 * 13 + e) = N (z * 13 + e) := fun e he => jfl_at _ _ _ he
  have b7 : ∀ s, (s < 1 * 13 ∨ 1 * 13 + 13 ≤ s) → jfl W6 1 (fun e => N (z * 13 + e)) 13 s = W6 s := fun s hc => jfl_off _ _ _ hc
  generalize jfl W6 1 (fun e => N (z * 13 + e)) 13 = W7 at hs7 a7 b7
  have c1 : ∀ e, e < 13 → (W7 (0 * 13 + e)).natAbs ≤ 10 ^ 18 := fun e he => by
    rw [b7 _ (by omega), a6 e he]
    exact K4.sh (r := y) (by omega) he
  have c2 : ∀ e, e < 13 → (W7 (1 * 13 + e)).natAbs ≤ 10 ^ 18 := fun e he => by
    rw [a7 e he]
    exact K4.sh (r := z) (by omega) he
  have hl0 := jdg_le W7 0 13
  have hl1 := jdg_le W7 1 13
  have t62 : (jdg W7 0 13 - 1) * (jdg W7 1 13 - 1) ≤ 12 → mj_T 39 mj_m236 62 [some (.ref 0), some (.int (jn (x : Int))), some (.int (jn (y : Int))), some (.int (jn (z : Int))), none] [] g7 (rI tm er T) := fun hd => by
    iterate 2 refine mj_T.pl rfl rfl rfl rfl ?_
    refine mj_T.call (ins := .invokevirtual 110) rfl rfl (Nat.le_of_ble_eq_true rfl) (Nat.le_of_ble_eq_true rfl) (by simp [mj_recv, rS_f hs7]) rfl (mj_Ok.up (by decide) (jp_empties (D := 0) (rG S4 N B T X) (p := 2) (by decide) hs7)) (fun v' g8 hq' => ?_) (fun i h' hq' => by obtain ⟨_, _, h⟩ := hq'; cases h)
    obtain ⟨_, hs8, hq'⟩ := hq'
    cases hq'
    have q1 : ∀ e, e < 13 → jfl W7 2 (fun _ => 0) 13 (2 * 13 + e) = 0 := fun e he => jfl_at _ _ _ he
    have q2 : ∀ s, (s < 26 ∨ 39 ≤ s) → jfl W7 2 (fun _ => 0) 13 s = W7 s := fun s hc => jfl_off _ _ _ (by omega)
    generalize jfl W7 2 (fun _ => 0) 13 = W8 at hs8 q1 q2
    have e0 : jdg W8 0 13 = jdg W7 0 13 := jdg_congr 13 fun e he => q2 _ (by omega)
    iterate 2 refine mj_T.pl rfl rfl rfl rfl ?_
    refine mj_T.call (ins := .invokevirtual 114) rfl rfl (Nat.le_of_ble_eq_true rfl) (Nat.le_of_ble_eq_true rfl) (by simp [mj_recv, rS_f hs8]) rfl (mj_Ok.up (by decide) (jp_degreeOf (D := 0) (rG S4 N B T X) (p := 0) (by decide) hs8)) (fun v' h' hq' => ?_) (fun i h' hq' => by cases hq')
    cases hq'
    rw [e0]
    refine mj_T.pl rfl rfl rfl rfl ?_
    exact rp_sb_loop (V0 := W7) (by omega) K4 c1 c2 hd (jdg W7 0 13) 0 _ _ (by omega) hs8 (fun j hj => q2 _ (by omega)) (fun e he => by rw [q1 e he]; exact Nat.zero_le _) (Or.inl ⟨rfl, by have := jdg_of_zero (W := W8) (p := 2) (d := 0) (k := 13) (fun e _ he => q1 e he); omega⟩)
  iterate 2 refine mj_T.pl rfl rfl rfl rfl ?_
  refine mj_T.call (ins := .invokevirtual 114) rfl rfl (Nat.le_of_ble_eq_true rfl) (Nat.le_of_ble_eq_true rfl) (by simp [mj_recv, rS_f hs7]) rfl (mj_Ok.up (by decide) (jp_degreeOf (D := 0) (rG S4 N B T X) (p := 1) (by decide) hs7)) (fun v' h' hq' => ?_) (fun i h' hq' => by cases hq')
  cases hq'
  refine mj_T.if0 (a := (jdg W7 1 13 : Int) - 1) rfl ⟨by omega, by omega⟩ (fun hc => ?_) (fun hc => ?_)
  · simp only [jc, decide_eq_true_eq] at hc
    exact t62 (by rw [show jdg W7 1 13 - 1 = 0 by omega, Nat.mul_zero]; exact Nat.zero_le _)
  simp only [jc, decide_eq_false_iff_not] at hc
  iterate 2 refine mj_T.pl rfl rfl rfl rfl ?_
  refine mj_T.call (ins := .invokevirtual 114) rfl rfl (Nat.le_of_ble_eq_true rfl) (Nat.le_of_ble_eq_true rfl) (by simp [mj_recv, rS_f hs7]) rfl (mj_Ok.up (by decide) (jp_degreeOf (D := 0) (rG S4 N B T X) (p := 0) (by decide) hs7)) (fun v' h' hq' => ?_) (fun i h' hq' => by cases hq')
  cases hq'
  iterate 2 refine mj_T.pl rfl rfl rfl rfl ?_
  refine mj_T.call (ins := .invokevirtual 114) rfl rfl (Nat.le_of_ble_eq_true rfl) (Nat.le_of_ble_eq_true rfl) (by simp [mj_recv, rS_f hs7]) rfl (mj_Ok.up (by decide) (jp_degreeOf (D := 0) (rG S4 N B T X) (p := 1) (by decide) hs7)) (fun v' h' hq' => ?_) (fun i h' hq' => by cases hq')
  cases hq'
  refine mj_T.imul rfl ?_
  have e2 : (jdg W7 0 13 - 1) * (jdg W7 1 13 - 1) ≤ 12 * 12 := Nat.mul_le_mul (by omega) (by omega)
  have e3 : ((jdg W7 0 13 : Nat) : Int) - 1 = ((jdg W7 0 13 - 1 : Nat) : Int) ∨ jdg W7 0 13 = 0 := by omega
  have e4 : ((jdg W7 1 13 : Nat) : Int) - 1 = ((jdg W7 1 13 - 1 : Nat) : Int) := by omega
  have e5 : -12 ≤ (((jdg W7 0 13 : Nat) : Int) - 1) * (((jdg W7 1 13 : Nat) : Int) - 1) ∧ (((jdg W7 0 13 : Nat) : Int) - 1) * (((jdg W7 1 13 : Nat) : Int) - 1) ≤ 144 ∧ ((((jdg W7 0 13 : Nat) : Int) - 1) * (((jdg W7 1 13 : Nat) : Int) - 1) ≤ 12 → (jdg W7 0 13 - 1) * (jdg W7 1 13 - 1) ≤ 12) := by
    rcases e3 with e3 | e3
    · rw [e3, e4, ← Int.natCast_mul]
      omega
    · rw [e3]
      omega
  refine mj_T.pl rfl rfl rfl rfl ?_
  refine mj_T.icmp (a := (((jdg W7 0 13 : Nat) : Int) - 1) * (((jdg W7 1 13 : Nat) : Int) - 1)) (b := 12) rfl ⟨by omega, by omega⟩ ⟨by decide, by decide⟩ (fun hc2 => ?_) (fun hc2 => ?_)
  · simp only [jc, decide_eq_true_eq] at hc2
    exact t62 (e5.2.2 hc2)
  iterate 2 refine mj_T.pl rfl rfl rfl rfl ?_
  refine mj_T.call (ins := .invokevirtual 198) rfl rfl (Nat.le_of_ble_eq_true rfl) (Nat.le_of_ble_eq_true rfl) (by simp [mj_recv, rS_f hs7]) rfl (mj_Ok.up (by decide) (rp_fails (D := 0) (c := 2) hs7)) (fun v' g9 hq' => ?_) (fun i h' hq' => by obtain ⟨_, _, h⟩ := hq'; cases h)
  obtain ⟨_, hs9, hq'⟩ := hq'
  cases hq'
  exact mj_T.ret rfl rfl rfl ⟨0, g9, ⟨by decide, by decide⟩, rfl, ⟨_, N, B, X, W7, hs9, K4.put ⟨by decide, by decide⟩ (by decide) (by decide) (by decide) (by decide) (by decide)⟩⟩
theorem rp_rb_loop {S N B X V : Nat → Int} {r x z : Nat} (hr : r ≤ 5) (hx : x < z) (hz : 2 ≤ z) (hz2 : z ≤ 97) (hN : ∀ j, j < 78 → jR (N j)) (hs : rS S N B T X V h) {Q : mj_R → Prop} (q0 : Q (.inl (some (.int (jn 0))), h)) (q1 : Q (.inl (some (.int (jn 1))), h)) :
    ∀ (m : Nat) (v : Int), m ≤ 13 → 0 ≤ v → v < z → mj_T 38 mj_m280 7 [some (.ref 0), some (.int (jn (r : Int))), some (.int (jn (x : Int))), some (.int (jn (z : Int))), some (.long (jl v)), none, some (.int (jn ((m : Int) - 1)))] [] h Q := by
  intro m
  induction m with
  | zero =>
    intro v hm v0 v1
    refine mj_T.pl rfl rfl rfl rfl ?_
    refine mj_T.if0 (a := ((0 : Nat) : Int) - 1) rfl ⟨by decide, by decide⟩ (fun hc => ?_) (fun hc => ?_)
    · iterate 2 refine mj_T.pl rfl rfl rfl rfl ?_
      refine mj_T.lif (a := v) (b := 0) rfl rfl ⟨by omega, by omega⟩ ⟨by decide, by decide⟩ (fun hc2 => ?_) (fun hc2 => ?_)
      · refine mj_T.pl rfl rfl rfl rfl ?_
        exact mj_T.ret rfl rfl rfl q0
      · iterate 2 refine mj_T.pl rfl rfl rfl rfl ?_
        exact mj_T.ret rfl rfl rfl q1
    · simp [jc] at hc
  | succ m ih =>
    intro v hm v0 v1
    refine mj_T.pl rfl rfl rfl rfl ?_
    refine mj_T.if0 (a := ((m + 1 : Nat) : Int) - 1) rfl ⟨by omega, by omega⟩ (fun hc => ?_) (fun hc => ?_)
    · simp only [jc, decide_eq_true_eq] at hc
      omega
    rw [show ((m + 1 : Nat) : Int) - 1 = (m : Int) by omega]
    iterate 2 refine mj_T.pl rfl rfl rfl rfl ?_
    refine mj_T.i2l rfl ⟨by omega, by omega⟩ ?_
    refine mj_T.lmul rfl ?_
    iterate 4 refine mj_T.pl rfl rfl rfl rfl ?_
    refine mj_T.call (ins := .invokevirtual 243) rfl rfl (Nat.le_of_ble_eq_true rfl) (Nat.le_of_ble_eq_true rfl) (by simp [mj_recv, rS_f hs]) rfl (mj_Ok.up (by decide) (rp_rest (D := 0) (r := r) (e := m) (x := z) hr (by omega) hz hz2 (hN _ (by omega)) hs)) (fun v' h' hq' => ?_) (fun i h' hq' => by obtain ⟨_, _, h⟩ := hq'; cases h)
    obtain ⟨w, ⟨w0, w1⟩, hq'⟩ := hq'
    cases hq'
    have hb : 0 ≤ v * (x : Int) ∧ v * (x : Int) ≤ 97 * 97 := ⟨Int.mul_nonneg v0 (by omega), Int.mul_le_mul (by omega) (by omega) (by omega) (by decide)⟩
    refine mj_T.ladd rfl ?_
    refine mj_T.pl rfl rfl rfl rfl ?_
    refine mj_T.i2l rfl ⟨by omega, by omega⟩ ?_
    have t1 := Int.tmod_lt_of_pos (v * (x : Int) + w) (show (0 : Int) < (z : Int) by omega)
    have t2 := Int.tmod_nonneg (z : Int) (show 0 ≤ v * (x : Int) + w by omega)
    refine mj_T.lrem (a := v * (x : Int) + w) (b := (z : Int)) rfl ⟨by omega, by omega⟩ ⟨by omega, by omega⟩ (by omega) ?_
    refine mj_T.pl rfl rfl rfl rfl ?_
    refine mj_T.iinc (a := (m : Int)) rfl rfl ?_
    refine mj_T.pl rfl rfl rfl rfl ?_
    exact ih _ (by omega) t2 t1
theorem rp_isRootBy {S N B X V : Nat → Int} {r x z : Nat} (hr : r ≤ 5) (hx : x < z) (hz : 2 ≤ z) (hz2 : z ≤ 97) (hN : ∀ j, j < 78 → jR (N j)) (hs : rS S N B T X V h) : mj_Ok 39 280 [.ref 0, .int (jn (r : Int)), .int (jn (x : Int)), .int (jn (z : Int))] h (fun q => (True ∧ q = (.inl (some (.int (jn 0))), h)) ∨ (True ∧ q = (.inl (some (.int (jn 1))), h))) := by
  refine mj_Ok.of (M := mj_m280) rfl rfl rfl ?_
  iterate 4 refine mj_T.pl rfl rfl rfl rfl ?_
  exact rp_rb_loop hr hx hz hz2 hN hs (Or.inl ⟨trivial, rfl⟩) (Or.inr ⟨trivial, rfl⟩) 13 0 (by omega) (by decide) (by omega)
theorem rp_rsb_loop {S N B X V : Nat → Int} {r z : Nat} (hr : r ≤ 5) (hz : 2 ≤ z) (hz2 : z ≤ 97) (hs : rS S N B T X V h) (K : jK tm er S N B T) :
    ∀ (m k c : Nat), k + m = z → c ≤ k → mj_T 39 mj_m281 36 [some (.ref 0), some (.int (jn (r : Int))), some (.int (jn (z : Int))), some (.int (jn (c : Int))), some (.int (jn (k : Int)))] [] h (rI tm er T) := by
  intro m
  induction m with
  | zero =>
    intro k c hk hc
    iterate 2 refine mj_T.pl rfl rfl rfl rfl ?_
    refine mj_T.icmp (a := (k : Int)) (b := (z : Int)) rfl ⟨by omega, by omega⟩ ⟨by omega, by omega⟩ (fun hc2 => ?_) (fun hc2 => ?_)
    · refine mj_T.pl rfl rfl rfl rfl ?_
      exact mj_T.ret rfl rfl rfl ⟨(c : Int), h, ⟨by omega, by omega⟩, rfl, ⟨_, _, _, _, _, hs, K⟩⟩
    · simp only [jc, decide_eq_false_iff_not] at hc2
      omega
  | succ m ih =>
    intro k c hk hc
    iterate 2 refine mj_T.pl rfl rfl rfl rfl ?_
    refine mj_T.icmp (a := (k : Int)) (b := (z : Int)) rfl ⟨by omega, by omega⟩ ⟨by omega, by omega⟩ (fun hc2 => ?_) (fun hc2 => ?_)
    · simp only [jc, decide_eq_true_eq] at hc2
      omega
    iterate 5 refine mj_T.pl rfl rfl rfl rfl ?_
    refine mj_T.call (ins := .invokevirtual 341) rfl rfl (Nat.le_of_ble_eq_true rfl) (Nat.le_of_ble_eq_true rfl) (by simp [mj_recv, rS_f hs]) rfl (mj_Ok.up (by decide) (rp_isRootBy (r := r) (x := k) (z := z) hr (by omega) hz hz2 K.nR hs)) (fun v' h' hq' => ?_) (fun i h' hq' => by rcases hq' with ⟨_, h⟩ | ⟨_, h⟩ <;> cases h)
    rcases hq' with ⟨_, hq'⟩ | ⟨_, hq'⟩
    · cases hq'
      refine mj_T.if0 (a := 0) rfl ⟨by decide, by decide⟩ (fun hc => ?_) (fun hc => ?_)
      rotate_left
      · simp [jc] at hc
      refine mj_T.pl rfl rfl rfl rfl ?_
      refine mj_T.iadd (a := (c : Int)) (b := 0) rfl ?_
      rw [show (c : Int) + 0 = ((c + 0 : Nat) : Int) by omega]
      refine mj_T.pl rfl rfl rfl rfl ?_
      refine mj_T.iinc (a := (k : Int)) rfl rfl ?_
      refine mj_T.pl rfl rfl rfl rfl ?_
      exact ih (k + 1) (c + 0) (by omega) (by omega)
    · cases hq'
      refine mj_T.if0 (a := 1) rfl ⟨by decide, by decide⟩ (fun hc => ?_) (fun hc => ?_)
      · simp [jc] at hc
      iterate 2 refine mj_T.pl rfl rfl rfl rfl ?_
      refine mj_T.iadd (a := (c : Int)) (b := 1) rfl ?_
      rw [show (c : Int) + 1 = ((c + 1 : Nat) : Int) by omega]
      refine mj_T.pl rfl rfl rfl rfl ?_
      refine mj_T.iinc (a := (k : Int)) rfl rfl ?_
      refine mj_T.pl rfl rfl rfl rfl ?_
      exact ih (k + 1) (c + 1) (by omega) (by omega)
theorem rp_rootsBy {x y : Int} (hx : jr x) (hy : jr y) (hI : jI tm er T h) : mj_Ok 40 281 [.ref 0, .int (jn x), .int (jn y)] h (rI tm er T) := by
  refine mj_Ok.of (M := mj_m281) rfl rfl rfl ?_
  obtain ⟨S, N, B, X, V, hs, K⟩ := hI
  iterate 2 refine mj_T.pl rfl rfl rfl rfl ?_
  refine rT_put (v := 0) hs rfl rfl (by decide) rfl (fun g10 hs10 => ?_)
  have K10 := K.put (k := 3) (v := 0) ⟨by decide, by decide⟩ (by decide) (by decide) (by decide) (by decide) (by decide)
  generalize jvu S 3 0 = S10 at hs10 K10
  refine mj_T.pl rfl rfl rfl rfl ?_
  refine mj_T.call (ins := .invokestatic 181) rfl rfl (Nat.le_of_ble_eq_true rfl) (Nat.le_of_ble_eq_true rfl) rfl rfl (mj_Ok.up (by decide) (rp_isRegister (D := 0) hx)) (fun v' h' hq' => ?_) (fun i h' hq' => by rcases hq' with ⟨_, _, h⟩ | ⟨_, h⟩ <;> cases h)
  rcases hq' with ⟨x1, x2, hq'⟩ | ⟨_, hq'⟩
  case' inr =>
    cases hq'
    refine mj_T.if0 (a := 0) rfl ⟨by decide, by decide⟩ (fun hc => ?_) (fun hc => ?_)
    · simp [jc] at hc
    iterate 2 refine mj_T.pl rfl rfl rfl rfl ?_
    refine mj_T.call (ins := .invokevirtual 198) rfl rfl (Nat.le_of_ble_eq_true rfl) (Nat.le_of_ble_eq_true rfl) (by simp [mj_recv, rS_f hs10]) rfl (mj_Ok.up (by decide) (rp_fails (D := 0) (c := 1) hs10)) (fun v' g11 hq' => ?_) (fun i h' hq' => by obtain ⟨_, _, h⟩ := hq'; cases h)
    obtain ⟨_, hs11, hq'⟩ := hq'
    cases hq'
    exact mj_T.ret rfl rfl rfl ⟨0, g11, ⟨by decide, by decide⟩, rfl, ⟨_, N, B, X, V, hs11, K10.put ⟨by decide, by decide⟩ (by decide) (by decide) (by decide) (by decide) (by decide)⟩⟩
  cases hq'
  refine mj_T.if0 (a := 1) rfl ⟨by decide, by decide⟩ (fun hc => ?_) (fun hc => ?_)
  rotate_left
  · simp [jc] at hc
  obtain ⟨x, rfl⟩ := Int.eq_ofNat_of_zero_le x1
  refine mj_T.pl rfl rfl rfl rfl ?_
  refine mj_T.call (ins := .invokestatic 240) rfl rfl (Nat.le_of_ble_eq_true rfl) (Nat.le_of_ble_eq_true rfl) rfl rfl (mj_Ok.up (by decide) (rp_isPrime hy)) (fun v' h' hq' => ?_) (fun i h' hq' => by rcases hq' with ⟨_, _, h⟩ | ⟨_, h⟩ <;> cases h)
  rcases hq' with ⟨y1, y2, hq'⟩ | ⟨_, hq'⟩
  case' inr =>
    cases hq'
    refine mj_T.if0 (a := 0) rfl ⟨by decide, by decide⟩ (fun hc => ?_) (fun hc => ?_)
    · simp [jc] at hc
    iterate 2 refine mj_T.pl rfl rfl rfl rfl ?_
    refine mj_T.call (ins := .invokevirtual 198) rfl rfl (Nat.le_of_ble_eq_true rfl) (Nat.le_of_ble_eq_true rfl) (by simp [mj_recv, rS_f hs10]) rfl (mj_Ok.up (by decide) (rp_fails (D := 0) (c := 2) hs10)) (fun v' g12 hq' => ?_) (fun i h' hq' => by obtain ⟨_, _, h⟩ := hq'; cases h)
    obtain ⟨_, hs12, hq'⟩ := hq'
    cases hq'
    exact mj_T.ret rfl rfl rfl ⟨0, g12, ⟨by decide, by decide⟩, rfl, ⟨_, N, B, X, V, hs12, K10.put ⟨by decide, by decide⟩ (by decide) (by decide) (by decide) (by decide) (by decide)⟩⟩
  cases hq'
  refine mj_T.if0 (a := 1) rfl ⟨by decide, by decide⟩ (fun hc => ?_) (fun hc => ?_)
  rotate_left
  · simp [jc] at hc
  obtain ⟨y, rfl⟩ := Int.eq_ofNat_of_zero_le (show 0 ≤ y by omega)
  iterate 4 refine mj_T.pl rfl rfl rfl rfl ?_
  exact rp_rsb_loop (by omega) (by omega) (by omega) hs10 K10 y 0 0 (by omega) (by decide)
theorem rp_rtb_loop {S N B X V : Nat → Int} {r z : Nat} (hr : r ≤ 5) (hz : 2 ≤ z) (hz2 : z ≤ 97) (hs : rS S N B T X V h) (K : jK tm er S N B T) :
    ∀ (m k : Nat), k + m = z → mj_T 39 mj_m282 33 [some (.ref 0), some (.int (jn (r : Int))), some (.int (jn (z : Int))), some (.int (jn (k : Int)))] [] h (rI tm er T) := by
  intro m
  induction m with
  | zero =>
    intro k hk
    iterate 2 refine mj_T.pl rfl rfl rfl rfl ?_
    refine mj_T.icmp (a := (k : Int)) (b := (z : Int)) rfl ⟨by omega, by omega⟩ ⟨by omega, by omega⟩ (fun hc2 => ?_) (fun hc2 => ?_)
    rotate_left
    · simp only [jc, decide_eq_false_iff_not] at hc2
      omega
    iterate 2 refine mj_T.pl rfl rfl rfl rfl ?_
    refine mj_T.call (ins := .invokevirtual 198) rfl rfl (Nat.le_of_ble_eq_true rfl) (Nat.le_of_ble_eq_true rfl) (by simp [mj_recv, rS_f hs]) rfl (mj_Ok.up (by decide) (rp_fails (D := 0) (c := 3) hs)) (fun v' g13 hq' => ?_) (fun i h' hq' => by obtain ⟨_, _, h⟩ := hq'; cases h)
    obtain ⟨_, hs13, hq'⟩ := hq'
    cases hq'
    exact mj_T.ret rfl rfl rfl ⟨0, g13, ⟨by decide, by decide⟩, rfl, ⟨_, N, B, X, V, hs13, K.put ⟨by decide, by decide⟩ (by decide) (by decide) (by decide) (by decide) (by decide)⟩⟩
  | succ m ih =>
    intro k hk
    iterate 2 refine mj_T.pl rfl rfl rfl rfl ?_
    refine mj_T.icmp (a := (k : Int)) (b := (z : Int)) rfl ⟨by omega, by omega⟩ ⟨by omega, by omega⟩ (fun hc2 => ?_) (fun hc2 => ?_)
    · simp only [jc, decide_eq_true_eq] at hc2
      omega
    iterate 4 refine mj_T.pl rfl rfl rfl rfl ?_
    refine mj_T.call (ins := .invokevirtual 341) rfl rfl (Nat.le_of_ble_eq_true rfl) (Nat.le_of_ble_eq_true rfl) (by simp [mj_recv, rS_f hs]) rfl (mj_Ok.up (by decide) (rp_isRootBy (r := r) (x := k) (z := z) hr (by omega) hz hz2 K.nR hs)) (fun v' h' hq' => ?_) (fun i h' hq' => by rcases hq' with ⟨_, h⟩ | ⟨_, h⟩ <;> cases h)
    rcases hq' with ⟨_, hq'⟩ | ⟨_, hq'⟩
    · cases hq'
      refine mj_T.if0 (a := 0) rfl ⟨by decide, by decide⟩ (fun hc => ?_) (fun hc => ?_)
      rotate_left
      · simp [jc] at hc
      refine mj_T.iinc (a := (k : Int)) rfl rfl ?_
      refine mj_T.pl rfl rfl rfl rfl ?_
      exact ih (k + 1) (by omega)
    · cases hq'
      refine mj_T.if0 (a := 1) rfl ⟨by decide, by decide⟩ (fun hc => ?_) (fun hc => ?_)
      · simp [jc] at hc
      refine mj_T.pl rfl rfl rfl rfl ?_
      exact mj_T.ret rfl rfl rfl ⟨(k : Int), h, ⟨by omega, by omega⟩, rfl, ⟨_, _, _, _, _, hs, K⟩⟩
theorem rp_rootBy {x y : Int} (hx : jr x) (hy : jr y) (hI : jI tm er T h) : mj_Ok 40 282 [.ref 0, .int (jn x), .int (jn y)] h (rI tm er T) := by
  refine mj_Ok.of (M := mj_m282) rfl rfl rfl ?_
  obtain ⟨S, N, B, X, V, hs, K⟩ := hI
  iterate 2 refine mj_T.pl rfl rfl rfl rfl ?_
  refine rT_put (v := 0) hs rfl rfl (by decide) rfl (fun g14 hs14 => ?_)
  have K14 := K.put (k := 3) (v := 0) ⟨by decide, by decide⟩ (by decide) (by decide) (by decide) (by decide) (by decide)
  generalize jvu S 3 0 = S14 at hs14 K14
  refine mj_T.pl rfl rfl rfl rfl ?_
  refine mj_T.call (ins := .invokestatic 181) rfl rfl (Nat.le_of_ble_eq_true rfl) (Nat.le_of_ble_eq_true rfl) rfl rfl (mj_Ok.up (by decide) (rp_isRegister (D := 0) hx)) (fun v' h' hq' => ?_) (fun i h' hq' => by rcases hq' with ⟨_, _, h⟩ | ⟨_, h⟩ <;> cases h)
  rcases hq' with ⟨x1, x2, hq'⟩ | ⟨_, hq'⟩
  case' inr =>
    cases hq'
    refine mj_T.if0 (a := 0) rfl ⟨by decide, by decide⟩ (fun hc => ?_) (fun hc => ?_)
    · simp [jc] at hc
    iterate 2 refine mj_T.pl rfl rfl rfl rfl ?_
    refine mj_T.call (ins := .invokevirtual 198) rfl rfl (Nat.le_of_ble_eq_true rfl) (Nat.le_of_ble_eq_true rfl) (by simp [mj_recv, rS_f hs14]) rfl (mj_Ok.up (by decide) (rp_fails (D := 0) (c := 1) hs14)) (fun v' g15 hq' => ?_) (fun i h' hq' => by obtain ⟨_, _, h⟩ := hq'; cases h)
    obtain ⟨_, hs15, hq'⟩ := hq'
    cases hq'
    exact mj_T.ret rfl rfl rfl ⟨0, g15, ⟨by decide, by decide⟩, rfl, ⟨_, N, B, X, V, hs15, K14.put ⟨by decide, by decide⟩ (by decide) (by decide) (by decide) (by decide) (by decide)⟩⟩
  cases hq'
  refine mj_T.if0 (a := 1) rfl ⟨by decide, by decide⟩ (fun hc => ?_) (fun hc => ?_)
  rotate_left
  · simp [jc] at hc
  obtain ⟨x, rfl⟩ := Int.eq_ofNat_of_zero_le x1
  refine mj_T.pl rfl rfl rfl rfl ?_
  refine mj_T.call (ins := .invokestatic 240) rfl rfl (Nat.le_of_ble_eq_true rfl) (Nat.le_of_ble_eq_true rfl) rfl rfl (mj_Ok.up (by decide) (rp_isPrime hy)) (fun v' h' hq' => ?_) (fun i h' hq' => by rcases hq' with ⟨_, _, h⟩ | ⟨_, h⟩ <;> cases h)
  rcases hq' with ⟨y1, y2, hq'⟩ | ⟨_, hq'⟩
  case' inr =>
    cases hq'
    refine mj_T.if0 (a := 0) rfl ⟨by decide, by decide⟩ (fun hc => ?_) (fun hc => ?_)
    · simp [jc] at hc
    iterate 2 refine mj_T.pl rfl rfl rfl rfl ?_
    refine mj_T.call (ins := .invokevirtual 198) rfl rfl (Nat.le_of_ble_eq_true rfl) (Nat.le_of_ble_eq_true rfl) (by simp [mj_recv, rS_f hs14]) rfl (mj_Ok.up (by decide) (rp_fails (D := 0) (c := 2) hs14)) (fun v' g16 hq' => ?_) (fun i h' hq' => by obtain ⟨_, _, h⟩ := hq'; cases h)
    obtain ⟨_, hs16, hq'⟩ := hq'
    cases hq'
    exact mj_T.ret rfl rfl rfl ⟨0, g16, ⟨by decide, by decide⟩, rfl, ⟨_, N, B, X, V, hs16, K14.put ⟨by decide, by decide⟩ (by decide) (by decide) (by decide) (by decide) (by decide)⟩⟩
  cases hq'
  refine mj_T.if0 (a := 1) rfl ⟨by decide, by decide⟩ (fun hc => ?_) (fun hc => ?_)
  rotate_left
  · simp [jc] at hc
  obtain ⟨y, rfl⟩ := Int.eq_ofNat_of_zero_le (show 0 ≤ y by omega)
  iterate 2 refine mj_T.pl rfl rfl rfl rfl ?_
  exact rp_rtb_loop (by omega) (by omega) (by omega) hs14 K14 y 0 (by omega)
end RPU
