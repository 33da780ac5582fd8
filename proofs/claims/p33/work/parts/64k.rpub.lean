/-! Calls of the reference: real roots, roots closed in, roots that are fractions. -/
theorem rF7 {S : Nat → Int} {v : Int} : (rF (jvu S 7 v))[7]? = some (.int (jn v)) := by
  show some (Value.int (jn (jvu S 7 v 7))) = _
  rw [jvu_at]
abbrev rCr : Nat := kq_F (10 ^ 51) 24
abbrev rY : Nat := 6 * ((10 ^ 50 + 2) * 10 ^ 50)
/-- the row of Sturm of a simple part -/
def kfr (k : Nat) (V : Nat → Int) : Prop := (∀ p, 9 ≤ p → p ≤ 9 + k → 1 ≤ jdg V p 13 ∧ ∀ e, e < 13 → (V (p * 13 + e)).natAbs ≤ rCr) ∧ (∀ e, e < 13 → (V (9 * 13 + e)).natAbs ≤ 10 ^ 50) ∧ 1 ≤ jdg V 8 13 ∧ (∀ e, e < 13 → (V (8 * 13 + e)).natAbs ≤ 10 ^ 50)
theorem kfr.keep {k : Nat} {V W : Nat → Int} (h : kfr k V) (hk : k ≤ 12) (f : ∀ s, s < 650 → W s = V s) : kfr k W := by
  obtain ⟨h1, h2, h3, h4⟩ := h
  exact ⟨jrows_keep h1 hk f, fun e he => by rw [f _ (by omega)]; exact h2 e he, by rw [jdg_congr (V := V) (p := 8) 13 fun e he => f (8 * 13 + e) (by omega)]; exact h3, fun e he => by rw [f _ (by omega)]; exact h4 e he⟩
section RPU
variable {h : mj_H} {tm er : Int} {T : Nat → Int}
theorem rp_realRoots {x : Int} (hx : jr x) (hI : jI tm er T h) : mj_Ok 40 271 [.ref 0, .int (jn x)] h (rI tm er T) := by
  refine mj_Ok.of (M := mj_m271) rfl rfl rfl ?_
  obtain ⟨S, N, B, X, V, hs, K⟩ := hI
  iterate 2 refine mj_T.pl rfl rfl rfl rfl ?_
  refine rT_put (v := 0) hs rfl rfl (by decide) rfl (fun g1 hs1 => ?_)
  have K1 := K.put (k := 3) (v := 0) ⟨by decide, by decide⟩ (by decide) (by decide) (by decide) (by decide) (by decide)
  generalize jvu S 3 0 = S1 at hs1 K1
  refine mj_T.pl rfl rfl rfl rfl ?_
  refine mj_T.call (ins := .invokestatic 181) rfl rfl (Nat.le_of_ble_eq_true rfl) (Nat.le_of_ble_eq_true rfl) rfl rfl (mj_Ok.up (by decide) (rp_isRegister (D := 0) hx)) (fun v' h' hq' => ?_) (fun i h' hq' => by rcases hq' with ⟨_, _, h⟩ | ⟨_, h⟩ <;> cases h)
  rcases hq' with ⟨x1, x2, hq'⟩ | ⟨_, hq'⟩
  case' inr =>
    cases hq'
    refine mj_T.if0 (a := 0) rfl ⟨by decide, by decide⟩ (fun hc => ?_) (fun hc => ?_)
    · simp [jc] at hc
    iterate 2 refine mj_T.pl rfl rfl rfl rfl ?_
    refine mj_T.call (ins := .invokevirtual 198) rfl rfl (Nat.le_of_ble_eq_true rfl) (Nat.le_of_ble_eq_true rfl) (by simp [mj_recv, rS_f hs1]) rfl (mj_Ok.up (by decide) (rp_fails (D := 0) (c := 1) hs1)) (fun v' g2 hq' => ?_) (fun i h' hq' => by obtain ⟨_, _, h⟩ := hq'; cases h)
    obtain ⟨_, hs2, hq'⟩ := hq'
    cases hq'
    exact mj_T.ret rfl rfl rfl ⟨0, g2, ⟨by decide, by decide⟩, rfl, ⟨_, N, B, X, V, hs2, K1.put ⟨by decide, by decide⟩ (by decide) (by decide) (by decide) (by decide) (by decide)⟩⟩
  cases hq'
  refine mj_T.if0 (a := 1) rfl ⟨by decide, by decide⟩ (fun hc => ?_) (fun hc => ?_)
  rotate_left
  · simp [jc] at hc
  obtain ⟨x, rfl⟩ := Int.eq_ofNat_of_zero_le x1
  iterate 2 refine mj_T.pl rfl rfl rfl rfl ?_
  refine mj_T.call (ins := .invokevirtual 232) rfl rfl (Nat.le_of_ble_eq_true rfl) (Nat.le_of_ble_eq_true rfl) (by simp [mj_recv, rS_f hs1]) rfl (mj_Ok.up (by decide) (rp_isZero (D := 0) (r := x) (by omega) K1.nR hs1)) (fun v' h' hq' => ?_) (fun i h' hq' => by rcases hq' with ⟨_, h⟩ | ⟨_, h⟩ <;> cases h)
  rcases hq' with ⟨_, hq'⟩ | ⟨nz3, hq'⟩
  case' inl =>
    cases hq'
    refine mj_T.if0 (a := 1) rfl ⟨by decide, by decide⟩ (fun hc => ?_) (fun hc => ?_)
    · simp [jc] at hc
    iterate 2 refine mj_T.pl rfl rfl rfl rfl ?_
    refine mj_T.call (ins := .invokevirtual 198) rfl rfl (Nat.le_of_ble_eq_true rfl) (Nat.le_of_ble_eq_true rfl) (by simp [mj_recv, rS_f hs1]) rfl (mj_Ok.up (by decide) (rp_fails (D := 0) (c := 2) hs1)) (fun v' g4 hq' => ?_) (fun i h' hq' => by obtain ⟨_, _, h⟩ := hq'; cases h)
    obtain ⟨_, hs4, hq'⟩ := hq'
    cases hq'
    exact mj_T.ret rfl rfl rfl ⟨0, g4, ⟨by decide, by decide⟩, rfl, ⟨_, N, B, X, V, hs4, K1.put ⟨by decide, by decide⟩ (by decide) (by decide) (by decide) (by decide) (by decide)⟩⟩
  cases hq'
  refine mj_T.if0 (a := 0) rfl ⟨by decide, by decide⟩ (fun hc => ?_) (fun hc => ?_)
  rotate_left
  · simp [jc] at hc
  iterate 3 refine mj_T.pl rfl rfl rfl rfl ?_
  refine mj_T.call (ins := .invokevirtual 213) rfl rfl (Nat.le_of_ble_eq_true rfl) (Nat.le_of_ble_eq_true rfl) (by simp [mj_recv, rS_f hs1]) rfl (mj_Ok.up (by decide) (rp_loads (D := 0) (p := 0) (r := x) (by decide) (by omega) K1.nR hs1)) (fun v' g5 hq' => ?_) (fun i h' hq' => by obtain ⟨_, _, h⟩ := hq'; cases h)
  obtain ⟨_, hs5, hq'⟩ := hq'
  cases hq'
  have a5 : ∀ e, e < 13 → jfl V 0 (fun e => N (x * 13 + e)) 13 (0 * 13 + e) = N (x * 13 + e) := fun e he => jfl_at _ _ _ he
  have b5 : ∀ s, (s < 0 * 13 ∨ 0 * 13 + 13 ≤ s) → jfl V 0 (fun e => N (x * 13 + e)) 13 s = V s := fun s hc => jfl_off _ _ _ hc
  generalize jfl V 0 (fun e => N (x * 13 + e)) 13 = W5 at hs5 a5 b5
  have c1 : ∀ e, e < 13 → (W5 (0 * 13 + e)).natAbs ≤ 10 ^ 18 := fun e he => by
    rw [a5 e he]
    exact K1.sh (r := x) (by omega) he
  have c2 : jpo W5 0 ≠ pz_0 := jpo_ne_of (by rw [jdg_congr 13 a5]; exact nz3)
  iterate 2 refine mj_T.pl rfl rfl rfl rfl ?_
  refine mj_T.call (ins := .invokevirtual 324) rfl rfl (Nat.le_of_ble_eq_true rfl) (Nat.le_of_ble_eq_true rfl) (by simp [mj_recv, rS_f hs5]) rfl (mj_Ok.up (by decide) (jp_laysRow (D := 0) (rG S1 N B T X) (by show 7 < 16; decide) kq_fit51 rp_a51 (a := 0) (by decide) (by decide) (by decide) c2 (fun e he => by have := c1 e he; omega) hs5)) (fun v' g6 hq' => ?_) (fun i h' hq' => by obtain ⟨_, _, _, _, _, _, _, _, h⟩ := hq'; cases h)
  obtain ⟨k6, W6, _, hk6, hs6, hrow6, hf6, hn6, hq'⟩ := hq'
  cases hq'
  have hs6a : rS (jvu S1 7 ((k6 + 1 : Nat) : Int)) N B T X W6 g6 := hs6
  have K6 := K1.put (k := 7) (v := ((k6 + 1 : Nat) : Int)) ⟨by omega, by omega⟩ (by decide) (by decide) (by decide) (by decide) (by decide)
  have h76 : (rF (jvu S1 7 ((k6 + 1 : Nat) : Int)))[7]? = some (.int (jn ((k6 + 1 : Nat) : Int))) := rF7
  clear hs6
  generalize jvu S1 7 ((k6 + 1 : Nat) : Int) = S6 at hs6a K6 h76
  refine mj_T.pl rfl rfl rfl rfl ?_
  refine mj_T.call (ins := .invokevirtual 327) rfl rfl (Nat.le_of_ble_eq_true rfl) (Nat.le_of_ble_eq_true rfl) (by simp [mj_recv, rS_f hs6a]) rfl (mj_Ok.up (by decide) (jp_rootsOf (D := 0) (rG S6 N B T X) h76 hk6 hrow6 hs6a)) (fun v' g7 hq' => ?_) (fun i h' hq' => by obtain ⟨_, _, _, _, _, _, _, h⟩ := hq'; cases h)
  obtain ⟨W7, _, z7, hs7, f7, z7a, z7b, hq'⟩ := hq'
  cases hq'
  exact mj_T.ret rfl rfl rfl ⟨z7, g7, ⟨by omega, by omega⟩, rfl, ⟨S6, N, B, X, W7, hs7, K6⟩⟩
theorem rp_sturmLength {x : Int} (hx : jr x) (hI : jI tm er T h) : mj_Ok 40 273 [.ref 0, .int (jn x)] h (rI tm er T) := by
  refine mj_Ok.of (M := mj_m273) rfl rfl rfl ?_
  obtain ⟨S, N, B, X, V, hs, K⟩ := hI
  iterate 2 refine mj_T.pl rfl rfl rfl rfl ?_
  refine rT_put (v := 0) hs rfl rfl (by decide) rfl (fun g8 hs8 => ?_)
  have K8 := K.put (k := 3) (v := 0) ⟨by decide, by decide⟩ (by decide) (by decide) (by decide) (by decide) (by decide)
  generalize jvu S 3 0 = S8 at hs8 K8
  refine mj_T.pl rfl rfl rfl rfl ?_
  refine mj_T.call (ins := .invokestatic 181) rfl rfl (Nat.le_of_ble_eq_true rfl) (Nat.le_of_ble_eq_true rfl) rfl rfl (mj_Ok.up (by decide) (rp_isRegister (D := 0) hx)) (fun v' h' hq' => ?_) (fun i h' hq' => by rcases hq' with ⟨_, _, h⟩ | ⟨_, h⟩ <;> cases h)
  rcases hq' with ⟨x1, x2, hq'⟩ | ⟨_, hq'⟩
  case' inr =>
    cases hq'
    refine mj_T.if0 (a := 0) rfl ⟨by decide, by decide⟩ (fun hc => ?_) (fun hc => ?_)
    · simp [jc] at hc
    iterate 2 refine mj_T.pl rfl rfl rfl rfl ?_
    refine mj_T.call (ins := .invokevirtual 198) rfl rfl (Nat.le_of_ble_eq_true rfl) (Nat.le_of_ble_eq_true rfl) (by simp [mj_recv, rS_f hs8]) rfl (mj_Ok.up (by decide) (rp_fails (D := 0) (c := 1) hs8)) (fun v' g9 hq' => ?_) (fun i h' hq' => by obtain ⟨_, _, h⟩ := hq'; cases h)
    obtain ⟨_, hs9, hq'⟩ := hq'
    cases hq'
    exact mj_T.ret rfl rfl rfl ⟨0, g9, ⟨by decide, by decide⟩, rfl, ⟨_, N, B, X, V, hs9, K8.put ⟨by decide, by decide⟩ (by decide) (by decide) (by decide) (by decide) (by decide)⟩⟩
  cases hq'
  refine mj_T.if0 (a := 1) rfl ⟨by decide, by decide⟩ (fun hc => ?_) (fun hc => ?_)
  rotate_left
  · simp [jc] at hc
  obtain ⟨x, rfl⟩ := Int.eq_ofNat_of_zero_le x1
  iterate 2 refine mj_T.pl rfl rfl rfl rfl ?_
  refine mj_T.call (ins := .invokevirtual 232) rfl rfl (Nat.le_of_ble_eq_true rfl) (Nat.le_of_ble_eq_true rfl) (by simp [mj_recv, rS_f hs8]) rfl (mj_Ok.up (by decide) (rp_isZero (D := 0) (r := x) (by omega) K8.nR hs8)) (fun v' h' hq' => ?_) (fun i h' hq' => by rcases hq' with ⟨_, h⟩ | ⟨_, h⟩ <;> cases h)
  rcases hq' with ⟨_, hq'⟩ | ⟨nz10, hq'⟩
  case' inl =>
    cases hq'
    refine mj_T.if0 (a := 1) rfl ⟨by decide, by decide⟩ (fun hc => ?_) (fun hc => ?_)
    · simp [jc] at hc
    iterate 2 refine mj_T.pl rfl rfl rfl rfl ?_
    refine mj_T.call (ins := .invokevirtual 198) rfl rfl (Nat.le_of_ble_eq_true rfl) (Nat.le_of_ble_eq_true rfl) (by simp [mj_recv, rS_f hs8]) rfl (mj_Ok.up (by decide) (rp_fails (D := 0) (c := 2) hs8)) (fun v' g11 hq' => ?_) (fun i h' hq' => by obtain ⟨_, _, h⟩ := hq'; cases h)
    obtain ⟨_, hs11, hq'⟩ := hq'
    cases hq'
    exact mj_T.ret rfl rfl rfl ⟨0, g11, ⟨by decide, by decide⟩, rfl, ⟨_, N, B, X, V, hs11, K8.put ⟨by decide, by decide⟩ (by decide) (by decide) (by decide) (by decide) (by decide)⟩⟩
  cases hq'
  refine mj_T.if0 (a := 0) rfl ⟨by decide, by decide⟩ (fun hc => ?_) (fun hc => ?_)
  rotate_left
  · simp [jc] at hc
  iterate 3 refine mj_T.pl rfl rfl rfl rfl ?_
  refine mj_T.call (ins := .invokevirtual 213) rfl rfl (Nat.le_of_ble_eq_true rfl) (Nat.le_of_ble_eq_true rfl) (by simp [mj_recv, rS_f hs8]) rfl (mj_Ok.up (by decide) (rp_loads (D := 0) (p := 0) (r := x) (by decide) (by omega) K8.nR hs8)) (fun v' g12 hq' => ?_) (fun i h' hq' => by obtain ⟨_, _, h⟩ := hq'; cases h)
  obtain ⟨_, hs12, hq'⟩ := hq'
  cases hq'
  have a12 : ∀ e, e < 13 → jfl V 0 (fun e => N (x * 13 + e)) 13 (0 * 13 + e) = N (x * 13 + e) := fun e he => jfl_at _ _ _ he
  have b12 : ∀ s, (s < 0 * 13 ∨ 0 * 13 + 13 ≤ s) → jfl V 0 (fun e => N (x * 13 + e)) 13 s = V s := fun s hc => jfl_off _ _ _ hc
  generalize jfl V 0 (fun e => N (x * 13 + e)) 13 = W12 at hs12 a12 b12
  have c1 : ∀ e, e < 13 → (W12 (0 * 13 + e)).natAbs ≤ 10 ^ 18 := fun e he => by
    rw [a12 e he]
    exact K8.sh (r := x) (by omega) he
  have c2 : jpo W12 0 ≠ pz_0 := jpo_ne_of (by rw [jdg_congr 13 a12]; exact nz10)
  iterate 2 refine mj_T.pl rfl rfl rfl rfl ?_
  refine mj_T.call (ins := .invokevirtual 324) rfl rfl (Nat.le_of_ble_eq_true rfl) (Nat.le_of_ble_eq_true rfl) (by simp [mj_recv, rS_f hs12]) rfl (mj_Ok.up (by decide) (jp_laysRow (D := 0) (rG S8 N B T X) (by show 7 < 16; decide) kq_fit51 rp_a51 (a := 0) (by decide) (by decide) (by decide) c2 (fun e he => by have := c1 e he; omega) hs12)) (fun v' g13 hq' => ?_) (fun i h' hq' => by obtain ⟨_, _, _, _, _, _, _, _, h⟩ := hq'; cases h)
  obtain ⟨k13, W13, _, hk13, hs13, hrow13, hf13, hn13, hq'⟩ := hq'
  cases hq'
  have hs13a : rS (jvu S8 7 ((k13 + 1 : Nat) : Int)) N B T X W13 g13 := hs13
  have K13 := K8.put (k := 7) (v := ((k13 + 1 : Nat) : Int)) ⟨by omega, by omega⟩ (by decide) (by decide) (by decide) (by decide) (by decide)
  have h713 : (rF (jvu S8 7 ((k13 + 1 : Nat) : Int)))[7]? = some (.int (jn ((k13 + 1 : Nat) : Int))) := rF7
  clear hs13
  generalize jvu S8 7 ((k13 + 1 : Nat) : Int) = S13 at hs13a K13 h713
  refine mj_T.pl rfl rfl rfl rfl ?_
  refine rT_get hs13a rfl h713 ?_
  exact mj_T.ret rfl rfl rfl ⟨_, g13, ⟨by omega, by omega⟩, rfl, ⟨S13, N, B, X, W13, hs13a, K13⟩⟩
theorem rp_changes {x y z : Int} (hx : jr x) (hy : jr y) (hz : jr z) (hI : jI tm er T h) : mj_Ok 40 274 [.ref 0, .int (jn x), .int (jn y), .int (jn z)] h (rI tm er T) := by
  refine mj_Ok.of (M := mj_m274) rfl rfl rfl ?_
  obtain ⟨S, N, B, X, V, hs, K⟩ := hI
  iterate 2 refine mj_T.pl rfl rfl rfl rfl ?_
  refine rT_put (v := 0) hs rfl rfl (by decide) rfl (fun g14 hs14 => ?_)
  have K14 := K.put (k := 3) (v := 0) ⟨by decide, by decide⟩ (by decide) (by decide) (by decide) (by decide) (by decide)
  generalize jvu S 3 0 = S14 at hs14 K14
  refine mj_T.pl rfl rfl rfl rfl ?_
  refine mj_T.call (ins := .invokestatic 181) rfl rfl (Nat.le_of_ble_eq_true rfl) (Nat.le_of_ble_eq_true rfl) rfl rfl (mj_Ok.up (by decide) (rp_isRegister (D := 0) hx)) (fun v' h' hq' => ?_) (fun i h' hq' => by rcases hq' with ⟨_, _, h⟩ | ⟨_, h⟩ <;> cases h)
  rcases hq' with ⟨x1, x2, hq'⟩ | ⟨_, hq'⟩
  case' inr =>
    cases hq'
    refine mj_T.if0 (a := 0) rfl ⟨by decide, by decide⟩ (fun hc => ?_) (fun hc => ?_)
    · simp [jc] at hc
    iterate 2 refine mj_T.pl rfl rfl rfl rfl ?_
    refine mj_T.call (ins := .invokevirtual 198) rfl rfl (Nat.le_of_ble_eq_true rfl) (Nat.le_of_ble_eq_true rfl) (by simp [mj_recv, rS_f hs14]) rfl (mj_Ok.up (by decide) (rp_fails (D := 0) (c := 1) hs14)) (fun v' g15 hq' => ?_) (fun i h' hq' => by obtain ⟨_, _, h⟩ := hq'; cases h)
    obtain ⟨_, hs15, hq'⟩ := hq'
    cases hq'
    exact mj_T.ret rfl rfl rfl ⟨0, g15, ⟨by decide, by decide⟩, rfl, ⟨_, N, B, X, V, hs15, K14.put ⟨by decide, by decide⟩ (by decide) (by decide) (by decide) (by decide) (by decide)⟩⟩
  cases hq'
  refine mj_T.if0 (a := 1) rfl ⟨by decide, by decide⟩ (fun hc => ?_) (fun hc => ?_)
  rotate_left
  · simp [jc] at hc
  obtain ⟨x, rfl⟩ := Int.eq_ofNat_of_zero_le x1
  iterate 2 refine mj_T.pl rfl rfl rfl rfl ?_
  refine mj_T.call (ins := .invokestatic 302) rfl rfl (Nat.le_of_ble_eq_true rfl) (Nat.le_of_ble_eq_true rfl) rfl rfl (mj_Ok.up (by decide) (rp_isFraction hy hz)) (fun v' h' hq' => ?_) (fun i h' hq' => by rcases hq' with ⟨_, _, h⟩ | ⟨_, h⟩ <;> cases h)
  rcases hq' with ⟨⟨y1, y2⟩, ⟨z1, z2⟩, hq'⟩ | ⟨_, hq'⟩
  case' inr =>
    cases hq'
    refine mj_T.if0 (a := 0) rfl ⟨by decide, by decide⟩ (fun hc => ?_) (fun hc => ?_)
    · simp [jc] at hc
    iterate 2 refine mj_T.pl rfl rfl rfl rfl ?_
    refine mj_T.call (ins := .invokevirtual 198) rfl rfl (Nat.le_of_ble_eq_true rfl) (Nat.le_of_ble_eq_true rfl) (by simp [mj_recv, rS_f hs14]) rfl (mj_Ok.up (by decide) (rp_fails (D := 0) (c := 2) hs14)) (fun v' g16 hq' => ?_) (fun i h' hq' => by obtain ⟨_, _, h⟩ := hq'; cases h)
    obtain ⟨_, hs16, hq'⟩ := hq'
    cases hq'
    exact mj_T.ret rfl rfl rfl ⟨0, g16, ⟨by decide, by decide⟩, rfl, ⟨_, N, B, X, V, hs16, K14.put ⟨by decide, by decide⟩ (by decide) (by decide) (by decide) (by decide) (by decide)⟩⟩
  cases hq'
  refine mj_T.if0 (a := 1) rfl ⟨by decide, by decide⟩ (fun hc => ?_) (fun hc => ?_)
  rotate_left
  · simp [jc] at hc
  iterate 2 refine mj_T.pl rfl rfl rfl rfl ?_
  refine mj_T.call (ins := .invokevirtual 232) rfl rfl (Nat.le_of_ble_eq_true rfl) (Nat.le_of_ble_eq_true rfl) (by simp [mj_recv, rS_f hs14]) rfl (mj_Ok.up (by decide) (rp_isZero (D := 0) (r := x) (by omega) K14.nR hs14)) (fun v' h' hq' => ?_) (fun i h' hq' => by rcases hq' with ⟨_, h⟩ | ⟨_, h⟩ <;> cases h)
  rcases hq' with ⟨_, hq'⟩ | ⟨nz17, hq'⟩
  case' inl =>
    cases hq'
    refine mj_T.if0 (a := 1) rfl ⟨by decide, by decide⟩ (fun hc => ?_) (fun hc => ?_)
    · simp [jc] at hc
    iterate 2 refine mj_T.pl rfl rfl rfl rfl ?_
    refine mj_T.call (ins := .invokevirtual 198) rfl rfl (Nat.le_of_ble_eq_true rfl) (Nat.le_of_ble_eq_true rfl) (by simp [mj_recv, rS_f hs14]) rfl (mj_Ok.up (by decide) (rp_fails (D := 0) (c := 3) hs14)) (fun v' g18 hq' => ?_) (fun i h' hq' => by obtain ⟨_, _, h⟩ := hq'; cases h)
    obtain ⟨_, hs18, hq'⟩ := hq'
    cases hq'
    exact mj_T.ret rfl rfl rfl ⟨0, g18, ⟨by decide, by decide⟩, rfl, ⟨_, N, B, X, V, hs18, K14.put ⟨by decide, by decide⟩ (by decide) (by decide) (by decide) (by decide) (by decide)⟩⟩
  cases hq'
  refine mj_T.if0 (a := 0) rfl ⟨by decide, by decide⟩ (fun hc => ?_) (fun hc => ?_)
  rotate_left
  · simp [jc] at hc
  iterate 3 refine mj_T.pl rfl rfl rfl rfl ?_
  refine mj_T.call (ins := .invokevirtual 213) rfl rfl (Nat.le_of_ble_eq_true rfl) (Nat.le_of_ble_eq_true rfl) (by simp [mj_recv, rS_f hs14]) rfl (mj_Ok.up (by decide) (rp_loads (D := 0) (p := 0) (r := x) (by decide) (by omega) K14.nR hs14)) (fun v' g19 hq' => ?_) (fun i h' hq' => by obtain ⟨_, _, h⟩ := hq'; cases h)
  obtain ⟨_, hs19, hq'⟩ := hq'
  cases hq'
  have a19 : ∀ e, e < 13 → jfl V 0 (fun e => N (x * 13 + e)) 13 (0 * 13 + e) = N (x * 13 + e) := fun e he => jfl_at _ _ _ he
  have b19 : ∀ s, (s < 0 * 13 ∨ 0 * 13 + 13 ≤ s) → jfl V 0 (fun e => N (x * 13 + e)) 13 s = V s := fun s hc => jfl_off _ _ _ hc
  generalize jfl V 0 (fun e => N (x * 13 + e)) 13 = W19 at hs19 a19 b19
  have c1 : ∀ e, e < 13 → (W19 (0 * 13 + e)).natAbs ≤ 10 ^ 18 := fun e he => by
    rw [a19 e he]
    exact K14.sh (r := x) (by omega) he
  have c2 : jpo W19 0 ≠ pz_0 := jpo_ne_of (by rw [jdg_congr 13 a19]; exact nz17)
  iterate 2 refine mj_T.pl rfl rfl rfl rfl ?_
  refine mj_T.call (ins := .invokevirtual 324) rfl rfl (Nat.le_of_ble_eq_true rfl) (Nat.le_of_ble_eq_true rfl) (by simp [mj_recv, rS_f hs19]) rfl (mj_Ok.up (by decide) (jp_laysRow (D := 0) (rG S14 N B T X) (by show 7 < 16; decide) kq_fit51 rp_a51 (a := 0) (by decide) (by decide) (by decide) c2 (fun e he => by have := c1 e he; omega) hs19)) (fun v' g20 hq' => ?_) (fun i h' hq' => by obtain ⟨_, _, _, _, _, _, _, _, h⟩ := hq'; cases h)
  obtain ⟨k20, W20, _, hk20, hs20, hrow20, hf20, hn20, hq'⟩ := hq'
  cases hq'
  have hs20a : rS (jvu S14 7 ((k20 + 1 : Nat) : Int)) N B T X W20 g20 := hs20
  have K20 := K14.put (k := 7) (v := ((k20 + 1 : Nat) : Int)) ⟨by omega, by omega⟩ (by decide) (by decide) (by decide) (by decide) (by decide)
  have h720 : (rF (jvu S14 7 ((k20 + 1 : Nat) : Int)))[7]? = some (.int (jn ((k20 + 1 : Nat) : Int))) := rF7
  clear hs20
  generalize jvu S14 7 ((k20 + 1 : Nat) : Int) = S20 at hs20a K20 h720
  iterate 3 refine mj_T.pl rfl rfl rfl rfl ?_
  refine mj_T.call (ins := .invokevirtual 305) rfl rfl (Nat.le_of_ble_eq_true rfl) (Nat.le_of_ble_eq_true rfl) (by simp [mj_recv, rS_f hs20a]) rfl (mj_Ok.up (by decide) (rp_setsFraction (D := 0) (x := y) (y := z) hy hz hs20a)) (fun v' g21 hq' => ?_) (fun i h' hq' => by obtain ⟨_, _, _, _, _, _, h⟩ := hq'; cases h)
  obtain ⟨W21, _, hs21, x21a, x21b, x21c, hq'⟩ := hq'
  cases hq'
  iterate 2 refine mj_T.pl rfl rfl rfl rfl ?_
  refine mj_T.call (ins := .invokevirtual 165) rfl rfl (Nat.le_of_ble_eq_true rfl) (Nat.le_of_ble_eq_true rfl) (by simp [mj_recv, rS_f hs21]) rfl (mj_Ok.up (by decide) (jp_changesAt (D := 0) (V := W21) (rG S20 N B T X) h720 hk20 (way := 0) (x := 1000) (by decide) (jrows_keep hrow20 hk20 (fun s hlt => x21c _ (by omega) (by omega))) (fun _ => ⟨by rw [x21a]; omega, by rw [x21b]; omega, by decide, rp_cr1, rp_fitv2⟩) hs21)) (fun v' g22 hq' => ?_) (fun i h' hq' => by obtain ⟨_, _, _, _, _, _, _, h⟩ := hq'; cases h)
  obtain ⟨W22, _, z22, hs22, f22, z22a, z22b, hq'⟩ := hq'
  cases hq'
  exact mj_T.ret rfl rfl rfl ⟨z22, g22, ⟨by omega, by omega⟩, rfl, ⟨S20, N, B, X, W22, hs22, K20⟩⟩
theorem rp_rootsBetween {x y z u w : Int} (hx : jr x) (hy : jr y) (hz : jr z) (hu : jr u) (hw : jr w) (hI : jI tm er T h) : mj_Ok 40 272 [.ref 0, .int (jn x), .int (jn y), .int (jn z), .int (jn u), .int (jn w)] h (rI tm er T) := by
  refine mj_Ok.of (M := mj_m272) rfl rfl rfl ?_
  obtain ⟨S, N, B, X, V, hs, K⟩ := hI
  iterate 2 refine mj_T.pl rfl rfl rfl rfl ?_
  refine rT_put (v := 0) hs rfl rfl (by decide) rfl (fun g23 hs23 => ?_)
  have K23 := K.put (k := 3) (v := 0) ⟨by decide, by decide⟩ (by decide) (by decide) (by decide) (by decide) (by decide)
  generalize jvu S 3 0 = S23 at hs23 K23
  refine mj_T.pl rfl rfl rfl rfl ?_
  refine mj_T.call (ins := .invokestatic 181) rfl rfl (Nat.le_of_ble_eq_true rfl) (Nat.le_of_ble_eq_true rfl) rfl rfl (mj_Ok.up (by decide) (rp_isRegister (D := 0) hx)) (fun v' h' hq' => ?_) (fun i h' hq' => by rcases hq' with ⟨_, _, h⟩ | ⟨_, h⟩ <;> cases h)
  rcases hq' with ⟨x1, x2, hq'⟩ | ⟨_, hq'⟩
  case' inr =>
    cases hq'
    refine mj_T.if0 (a := 0) rfl ⟨by decide, by decide⟩ (fun hc => ?_) (fun hc => ?_)
    · simp [jc] at hc
    iterate 2 refine mj_T.pl rfl rfl rfl rfl ?_
    refine mj_T.call (ins := .invokevirtual 198) rfl rfl (Nat.le_of_ble_eq_true rfl) (Nat.le_of_ble_eq_true rfl) (by simp [mj_recv, rS_f hs23]) rfl (mj_Ok.up (by decide) (rp_fails (D := 0) (c := 1) hs23)) (fun v' g24 hq' => ?_) (fun i h' hq' => by obtain ⟨_, _, h⟩ := hq'; cases h)
    obtain ⟨_, hs24, hq'⟩ := hq'
    cases hq'
    exact mj_T.ret rfl rfl rfl ⟨0, g24, ⟨by decide, by decide⟩, rfl, ⟨_, N, B, X, V, hs24, K23.put ⟨by decide, by decide⟩ (by decide) (by decide) (by decide) (by decide) (by decide)⟩⟩
  cases hq'
  refine mj_T.if0 (a := 1) rfl ⟨by decide, by decide⟩ (fun hc => ?_) (fun hc => ?_)
  rotate_left
  · simp [jc] at hc
  obtain ⟨x, rfl⟩ := Int.eq_ofNat_of_zero_le x1
  have t47 : mj_T 39 mj_m272 47 [some (.ref 0), some (.int (jn (x : Int))), some (.int (jn y)), some (.int (jn z)), some (.int (jn u)), some (.int (jn w)), none, none] [] g23 (rI tm er T) := by
    iterate 2 refine mj_T.pl rfl rfl rfl rfl ?_
    refine mj_T.call (ins := .invokevirtual 198) rfl rfl (Nat.le_of_ble_eq_true rfl) (Nat.le_of_ble_eq_true rfl) (by simp [mj_recv, rS_f hs23]) rfl (mj_Ok.up (by decide) (rp_fails (D := 0) (c := 2) hs23)) (fun v' g25 hq' => ?_) (fun i h' hq' => by obtain ⟨_, _, h⟩ := hq'; cases h)
    obtain ⟨_, hs25, hq'⟩ := hq'
    cases hq'
    exact mj_T.ret rfl rfl rfl ⟨0, g25, ⟨by decide, by decide⟩, rfl, ⟨_, N, B, X, V, hs25, K23.put ⟨by decide, by decide⟩ (by decide) (by decide) (by decide) (by decide) (by decide)⟩⟩
  iterate 2 refine mj_T.pl rfl rfl rfl rfl ?_
  refine mj_T.call (ins := .invokestatic 302) rfl rfl (Nat.le_of_ble_eq_true rfl) (Nat.le_of_ble_eq_true rfl) rfl rfl (mj_Ok.up (by decide) (rp_isFraction hy hz)) (fun v' h' hq' => ?_) (fun i h' hq' => by rcases hq' with ⟨_, _, h⟩ | ⟨_, h⟩ <;> cases h)
  rcases hq' with ⟨⟨y1, y2⟩, ⟨z1, z2⟩, hq'⟩ | ⟨_, hq'⟩
  case' inr =>
    cases hq'
    refine mj_T.if0 (a := 0) rfl ⟨by decide, by decide⟩ (fun hc => ?_) (fun hc => ?_)
    · exact t47
    · simp [jc] at hc
  cases hq'
  refine mj_T.if0 (a := 1) rfl ⟨by decide, by decide⟩ (fun hc => ?_) (fun hc => ?_)
  · simp [jc] at hc
  iterate 2 refine mj_T.pl rfl rfl rfl rfl ?_
  refine mj_T.call (ins := .invokestatic 302) rfl rfl (Nat.le_of_ble_eq_true rfl) (Nat.le_of_ble_eq_true rfl) rfl rfl (mj_Ok.up (by decide) (rp_isFraction hu hw)) (fun v' h' hq' => ?_) (fun i h' hq' => by rcases hq' with ⟨_, _, h⟩ | ⟨_, h⟩ <;> cases h)
  rcases hq' with ⟨⟨u1, u2⟩, ⟨w1, w2⟩, hq'⟩ | ⟨_, hq'⟩
  case' inr =>
    cases hq'
    refine mj_T.if0 (a := 0) rfl ⟨by decide, by decide⟩ (fun hc => ?_) (fun hc => ?_)
    · exact t47
    · simp [jc] at hc
  cases hq'
  refine mj_T.if0 (a := 1) rfl ⟨by decide, by decide⟩ (fun hc => ?_) (fun hc => ?_)
  · simp [jc] at hc
  have m1 : -1000000 ≤ y * w ∧ y * w ≤ 1000000 := by
    have k1 : y * w ≤ 1000 * w := Int.mul_le_mul_of_nonneg_right (by omega) (by omega)
    have k2 : -1000 * w ≤ y * w := Int.mul_le_mul_of_nonneg_right (by omega) (by omega)
    omega
  have m2 : -1000000 ≤ u * z ∧ u * z ≤ 1000000 := by
    have k1 : u * z ≤ 1000 * z := Int.mul_le_mul_of_nonneg_right (by omega) (by omega)
    have k2 : -1000 * z ≤ u * z := Int.mul_le_mul_of_nonneg_right (by omega) (by omega)
    omega
  iterate 2 refine mj_T.pl rfl rfl rfl rfl ?_
  refine mj_T.imul rfl ?_
  iterate 2 refine mj_T.pl rfl rfl rfl rfl ?_
  refine mj_T.imul rfl ?_
  refine mj_T.icmp (a := y * w) (b := u * z) rfl ⟨by omega, by omega⟩ ⟨by omega, by omega⟩ (fun hc => ?_) (fun hc => ?_)
  rotate_left
  · exact t47
  clear t47
  iterate 2 refine mj_T.pl rfl rfl rfl rfl ?_
  refine mj_T.call (ins := .invokevirtual 232) rfl rfl (Nat.le_of_ble_eq_true rfl) (Nat.le_of_ble_eq_true rfl) (by simp [mj_recv, rS_f hs23]) rfl (mj_Ok.up (by decide) (rp_isZero (D := 0) (r := x) (by omega) K23.nR hs23)) (fun v' h' hq' => ?_) (fun i h' hq' => by rcases hq' with ⟨_, h⟩ | ⟨_, h⟩ <;> cases h)
  rcases hq' with ⟨_, hq'⟩ | ⟨nz26, hq'⟩
  case' inl =>
    cases hq'
    refine mj_T.if0 (a := 1) rfl ⟨by decide, by decide⟩ (fun hc => ?_) (fun hc => ?_)
    · simp [jc] at hc
    iterate 2 refine mj_T.pl rfl rfl rfl rfl ?_
    refine mj_T.call (ins := .invokevirtual 198) rfl rfl (Nat.le_of_ble_eq_true rfl) (Nat.le_of_ble_eq_true rfl) (by simp [mj_recv, rS_f hs23]) rfl (mj_Ok.up (by decide) (rp_fails (D := 0) (c := 3) hs23)) (fun v' g27 hq' => ?_) (fun i h' hq' => by obtain ⟨_, _, h⟩ := hq'; cases h)
    obtain ⟨_, hs27, hq'⟩ := hq'
    cases hq'
    exact mj_T.ret rfl rfl rfl ⟨0, g27, ⟨by decide, by decide⟩, rfl, ⟨_, N, B, X, V, hs27, K23.put ⟨by decide, by decide⟩ (by decide) (by decide) (by decide) (by decide) (by decide)⟩⟩
  cases hq'
  refine mj_T.if0 (a := 0) rfl ⟨by decide, by decide⟩ (fun hc => ?_) (fun hc => ?_)
  rotate_left
  · simp [jc] at hc
  iterate 3 refine mj_T.pl rfl rfl rfl rfl ?_
  refine mj_T.call (ins := .invokevirtual 213) rfl rfl (Nat.le_of_ble_eq_true rfl) (Nat.le_of_ble_eq_true rfl) (by simp [mj_recv, rS_f hs23]) rfl (mj_Ok.up (by decide) (rp_loads (D := 0) (p := 0) (r := x) (by decide) (by omega) K23.nR hs23)) (fun v' g28 hq' => ?_) (fun i h' hq' => by obtain ⟨_, _, h⟩ := hq'; cases h)
  obtain ⟨_, hs28, hq'⟩ := hq'
  cases hq'
  have a28 : ∀ e, e < 13 → jfl V 0 (fun e => N (x * 13 + e)) 13 (0 * 13 + e) = N (x * 13 + e) := fun e he => jfl_at _ _ _ he
  have b28 : ∀ s, (s < 0 * 13 ∨ 0 * 13 + 13 ≤ s) → jfl V 0 (fun e => N (x * 13 + e)) 13 s = V s := fun s hc => jfl_off _ _ _ hc
  generalize jfl V 0 (fun e => N (x * 13 + e)) 13 = W28 at hs28 a28 b28
  have c1 : ∀ e, e < 13 → (W28 (0 * 13 + e)).natAbs ≤ 10 ^ 18 := fun e he => by
    rw [a28 e he]
    exact K23.sh (r := x) (by omega) he
  have c2 : jpo W28 0 ≠ pz_0 := jpo_ne_of (by rw [jdg_congr 13 a28]; exact nz26)
  iterate 3 refine mj_T.pl rfl rfl rfl rfl ?_
  refine mj_T.call (ins := .invokevirtual 305) rfl rfl (Nat.le_of_ble_eq_true rfl) (Nat.le_of_ble_eq_true rfl) (by simp [mj_recv, rS_f hs28]) rfl (mj_Ok.up (by decide) (rp_setsFraction (D := 0) (x := y) (y := z) hy hz hs28)) (fun v' g29 hq' => ?_) (fun i h' hq' => by obtain ⟨_, _, _, _, _, _, h⟩ := hq'; cases h)
  obtain ⟨W29, _, hs29, x29a, x29b, x29c, hq'⟩ := hq'
  cases hq'
  iterate 2 refine mj_T.pl rfl rfl rfl rfl ?_
  refine mj_T.call (ins := .invokevirtual 162) rfl rfl (Nat.le_of_ble_eq_true rfl) (Nat.le_of_ble_eq_true rfl) (by simp [mj_recv, rS_f hs29]) rfl (mj_Ok.up (by decide) (jp_valueAt (D := 0) (V := W29) (p := 0) (rG S23 N B T X) (by decide) (C := 10 ^ 18) (x := 1000) (fun e he => by rw [x29c _ (by omega) (by omega)]; exact c1 e he) (by rw [x29a]; omega) (by rw [x29b]; omega) (by decide) rp_fitv rp_fitv2 hs29)) (fun v' g30 hq' => ?_) (fun i h' hq' => by obtain ⟨_, _, _, _, _, _, _, h⟩ := hq'; cases h)
  obtain ⟨W30, _, hs30, v29, _, _, _, hq'⟩ := hq'
  cases hq'
  have f1 : ∀ j, j < 13 → W30 j = W28 j := fun j hj => by rw [v29 _ (by omega) (by omega) (by omega), x29c _ (by omega) (by omega)]
  have t92 : ∀ b : Int, (b = 0 ∨ b = 1) → mj_T 39 mj_m272 92 [some (.ref 0), some (.int (jn (x : Int))), some (.int (jn y)), some (.int (jn z)), some (.int (jn u)), some (.int (jn w)), none, none] [.int (jn b)] g30 (rI tm er T) := fun b hb => by
    refine mj_T.pl rfl rfl rfl rfl ?_
    iterate 3 refine mj_T.pl rfl rfl rfl rfl ?_
    refine mj_T.call (ins := .invokevirtual 305) rfl rfl (Nat.le_of_ble_eq_true rfl) (Nat.le_of_ble_eq_true rfl) (by simp [mj_recv, rS_f hs30]) rfl (mj_Ok.up (by decide) (rp_setsFraction (D := 0) (x := u) (y := w) hu hw hs30)) (fun v' g31 hq' => ?_) (fun i h' hq' => by obtain ⟨_, _, _, _, _, _, h⟩ := hq'; cases h)
    obtain ⟨W31, _, hs31, x31a, x31b, x31c, hq'⟩ := hq'
    cases hq'
    have f2 : ∀ j, j < 13 → W31 j = W28 j := fun j hj => by rw [x31c _ (by omega) (by omega), f1 j hj]
    have t115 : ∀ (V2 : Nat → Int) (g : mj_H), rS S23 N B T X V2 g → mj_T 39 mj_m272 115 [some (.ref 0), some (.int (jn (x : Int))), some (.int (jn y)), some (.int (jn z)), some (.int (jn u)), some (.int (jn w)), some (.int (jn b)), none] [] g (rI tm er T) := fun V2 g hg => by
      iterate 2 refine mj_T.pl rfl rfl rfl rfl ?_
      refine mj_T.call (ins := .invokevirtual 198) rfl rfl (Nat.le_of_ble_eq_true rfl) (Nat.le_of_ble_eq_true rfl) (by simp [mj_recv, rS_f hg]) rfl (mj_Ok.up (by decide) (rp_fails (D := 0) (c := 4) hg)) (fun v' g32 hq' => ?_) (fun i h' hq' => by obtain ⟨_, _, h⟩ := hq'; cases h)
      obtain ⟨_, hs32, hq'⟩ := hq'
      cases hq'
      exact mj_T.ret rfl rfl rfl ⟨0, g32, ⟨by decide, by decide⟩, rfl, ⟨_, N, B, X, V2, hs32, K23.put ⟨by decide, by decide⟩ (by decide) (by decide) (by decide) (by decide) (by decide)⟩⟩
    refine mj_T.pl rfl rfl rfl rfl ?_
    refine mj_T.if0 (a := b) rfl ⟨by omega, by omega⟩ (fun hc9 => ?_) (fun hc9 => ?_)
    · exact t115 _ _ hs31
    iterate 2 refine mj_T.pl rfl rfl rfl rfl ?_
    refine mj_T.call (ins := .invokevirtual 162) rfl rfl (Nat.le_of_ble_eq_true rfl) (Nat.le_of_ble_eq_true rfl) (by simp [mj_recv, rS_f hs31]) rfl (mj_Ok.up (by decide) (jp_valueAt (D := 0) (V := W31) (p := 0) (rG S23 N B T X) (by decide) (C := 10 ^ 18) (x := 1000) (fun e he => by rw [f2 _ (by omega)]; exact c1 e he) (by rw [x31a]; omega) (by rw [x31b]; omega) (by decide) rp_fitv rp_fitv2 hs31)) (fun v' g33 hq' => ?_) (fun i h' hq' => by obtain ⟨_, _, _, _, _, _, _, h⟩ := hq'; cases h)
    obtain ⟨W33, _, hs33, v32, _, _, _, hq'⟩ := hq'
    cases hq'
    have f3 : ∀ j, j < 13 → W33 j = W28 j := fun j hj => by rw [v32 _ (by omega) (by omega) (by omega), f2 j hj]
    have hsr := jsg_range (W33 659)
    refine mj_T.if0 (a := jsg (W33 659)) rfl ⟨by omega, by omega⟩ (fun hc8 => ?_) (fun hc8 => ?_)
    rotate_left
    · exact t115 _ _ hs33
    have c3 : ∀ e, e < 13 → (W33 (0 * 13 + e)).natAbs ≤ 10 ^ 18 := fun e he => by rw [f3 _ (by omega)]; exact c1 e he
    have c4 : jpo W33 0 ≠ pz_0 := by rw [jpo_eq (V := W28) (p := 0) fun e he => f3 _ (by omega)]; exact c2
    iterate 2 refine mj_T.pl rfl rfl rfl rfl ?_
    refine mj_T.call (ins := .invokevirtual 324) rfl rfl (Nat.le_of_ble_eq_true rfl) (Nat.le_of_ble_eq_true rfl) (by simp [mj_recv, rS_f hs33]) rfl (mj_Ok.up (by decide) (jp_laysRow (D := 0) (rG S23 N B T X) (by show 7 < 16; decide) kq_fit51 rp_a51 (a := 0) (by decide) (by decide) (by decide) c4 (fun e he => by have := c3 e he; omega) hs33)) (fun v' g34 hq' => ?_) (fun i h' hq' => by obtain ⟨_, _, _, _, _, _, _, _, h⟩ := hq'; cases h)
    obtain ⟨k34, W34, _, hk34, hs34, hrow34, hf34, hn34, hq'⟩ := hq'
    cases hq'
    have hs34a : rS (jvu S23 7 ((k34 + 1 : Nat) : Int)) N B T X W34 g34 := hs34
    have K34 := K23.put (k := 7) (v := ((k34 + 1 : Nat) : Int)) ⟨by omega, by omega⟩ (by decide) (by decide) (by decide) (by decide) (by decide)
    have h734 : (rF (jvu S23 7 ((k34 + 1 : Nat) : Int)))[7]? = some (.int (jn ((k34 + 1 : Nat) : Int))) := rF7
    clear hs34
    generalize jvu S23 7 ((k34 + 1 : Nat) : Int) = S34 at hs34a K34 h734
    iterate 3 refine mj_T.pl rfl rfl rfl rfl ?_
    refine mj_T.call (ins := .invokevirtual 305) rfl rfl (Nat.le_of_ble_eq_true rfl) (Nat.le_of_ble_eq_true rfl) (by simp [mj_recv, rS_f hs34a]) rfl (mj_Ok.up (by decide) (rp_setsFraction (D := 0) (x := y) (y := z) hy hz hs34a)) (fun v' g35 hq' => ?_) (fun i h' hq' => by obtain ⟨_, _, _, _, _, _, h⟩ := hq'; cases h)
    obtain ⟨W35, _, hs35, x35a, x35b, x35c, hq'⟩ := hq'
    cases hq'
    iterate 2 refine mj_T.pl rfl rfl rfl rfl ?_
    refine mj_T.call (ins := .invokevirtual 165) rfl rfl (Nat.le_of_ble_eq_true rfl) (Nat.le_of_ble_eq_true rfl) (by simp [mj_recv, rS_f hs35]) rfl (mj_Ok.up (by decide) (jp_changesAt (D := 0) (V := W35) (rG S34 N B T X) h734 hk34 (way := 0) (x := 1000) (by decide) (jrows_keep hrow34 hk34 (fun s hlt => x35c _ (by omega) (by omega))) (fun _ => ⟨by rw [x35a]; omega, by rw [x35b]; omega, by decide, rp_cr1, rp_fitv2⟩) hs35)) (fun v' g36 hq' => ?_) (fun i h' hq' => by obtain ⟨_, _, _, _, _, _, _, h⟩ := hq'; cases h)
    obtain ⟨W36, _, z36, hs36, f36, z36a, z36b, hq'⟩ := hq'
    cases hq'
    refine mj_T.pl rfl rfl rfl rfl ?_
    iterate 3 refine mj_T.pl rfl rfl rfl rfl ?_
    refine mj_T.call (ins := .invokevirtual 305) rfl rfl (Nat.le_of_ble_eq_true rfl) (Nat.le_of_ble_eq_true rfl) (by simp [mj_recv, rS_f hs36]) rfl (mj_Ok.up (by decide) (rp_setsFraction (D := 0) (x := u) (y := w) hu hw hs36)) (fun v' g37 hq' => ?_) (fun i h' hq' => by obtain ⟨_, _, _, _, _, _, h⟩ := hq'; cases h)
    obtain ⟨W37, _, hs37, x37a, x37b, x37c, hq'⟩ := hq'
    cases hq'
    refine mj_T.pl rfl rfl rfl rfl ?_
    iterate 2 refine mj_T.pl rfl rfl rfl rfl ?_
    refine mj_T.call (ins := .invokevirtual 165) rfl rfl (Nat.le_of_ble_eq_true rfl) (Nat.le_of_ble_eq_true rfl) (by simp [mj_recv, rS_f hs37]) rfl (mj_Ok.up (by decide) (jp_changesAt (D := 0) (V := W37) (rG S34 N B T X) h734 hk34 (way := 0) (x := 1000) (by decide) (jrows_keep hrow34 hk34 (fun s hlt => by rw [x37c _ (by omega) (by omega), f36 _ (by omega) (by omega) (by omega), x35c _ (by omega) (by omega)])) (fun _ => ⟨by rw [x37a]; omega, by rw [x37b]; omega, by decide, rp_cr1, rp_fitv2⟩) hs37)) (fun v' g38 hq' => ?_) (fun i h' hq' => by obtain ⟨_, _, _, _, _, _, _, h⟩ := hq'; cases h)
    obtain ⟨W38, _, z38, hs38, f38, z38a, z38b, hq'⟩ := hq'
    cases hq'
    refine mj_T.isub rfl ?_
    exact mj_T.ret rfl rfl rfl ⟨z36 - z38, g38, ⟨by omega, by omega⟩, rfl, ⟨S34, N, B, X, W38, hs38, K34⟩⟩
  have hsr := jsg_range (W30 659)
  refine mj_T.if0 (a := jsg (W30 659)) rfl ⟨by omega, by omega⟩ (fun hc8 => ?_) (fun hc8 => ?_)
  · refine mj_T.pl rfl rfl rfl rfl ?_
    exact t92 0 (Or.inl rfl)
  · iterate 2 refine mj_T.pl rfl rfl rfl rfl ?_
    exact t92 1 (Or.inr rfl)
end RPU
/-! Calls of the reference: roots closed in, roots that are fractions. -/
theorem rY1 : 1 ≤ rY := rp_x1
theorem r50 : 1 ≤ 10 ^ 50 := by decide
section RPU
variable {h : mj_H} {tm er : Int} {T : Nat → Int}
theorem rp_laysSimpleRow {S N B X V : Nat → Int} {x : Nat} (hx : x ≤ 5) (nz : 1 ≤ jdg N x 13) (hs : rS S N B T X V h) (K : jK tm er S N B T) : mj_Ok 39 275 [.ref 0, .int (jn (x : Int))] h (fun r => ∃ (S2 W : Nat → Int) (h2 : mj_H) (k : Nat) (z : Int), rS S2 N B T X W h2 ∧ jK tm er S2 N B T ∧ (k ≤ 12 ∧ (rF S2)[7]? = some (.int (jn ((k + 1 : Nat) : Int))) ∧ kfr k W) ∧ (-13 ≤ z ∧ z ≤ 13) ∧ r = (.inl (some (.int (jn z))), h2)) := by
  refine mj_Ok.of (M := mj_m275) rfl rfl rfl ?_
  iterate 3 refine mj_T.pl rfl rfl rfl rfl ?_
  refine mj_T.call (ins := .invokevirtual 213) rfl rfl (Nat.le_of_ble_eq_true rfl) (Nat.le_of_ble_eq_true rfl) (by simp [mj_recv, rS_f hs]) rfl (mj_Ok.up (by decide) (rp_loads (D := 0) (p := 0) (r := x) (by decide) (by omega) K.nR hs)) (fun v' g1 hq' => ?_) (fun i h' hq' => by obtain ⟨_, _, h⟩ := hq'; cases h)
  obtain ⟨_, hs1, hq'⟩ := hq'
  cases hq'
  have a1 : ∀ e, e < 13 → jfl V 0 (fun e => N (x * 13 + e)) 13 (0 * 13 + e) = N (x * 13 + e) := fun e he => jfl_at _ _ _ he
  have b1 : ∀ s, (s < 0 * 13 ∨ 0 * 13 + 13 ≤ s) → jfl V 0 (fun e => N (x * 13 + e)) 13 s = V s := fun s hc => jfl_off _ _ _ hc
  generalize jfl V 0 (fun e => N (x * 13 + e)) 13 = W1 at hs1 a1 b1
  have c1 : ∀ e, e < 13 → (W1 (0 * 13 + e)).natAbs ≤ 10 ^ 18 := fun e he => by
    rw [a1 e he]
    exact K.sh (r := x) (by omega) he
  have c2 : jpo W1 0 ≠ pz_0 := jpo_ne_of (by rw [jdg_congr 13 a1]; exact nz)
  iterate 3 refine mj_T.pl rfl rfl rfl rfl ?_
  refine mj_T.call (ins := .invokevirtual 235) rfl rfl (Nat.le_of_ble_eq_true rfl) (Nat.le_of_ble_eq_true rfl) (by simp [mj_recv, rS_f hs1]) rfl (mj_Ok.up (by decide) (jp_simplifies (D := 0) (rG S N B T X) c2 c1 hs1)) (fun v' g2 hq' => ?_) (fun i h' hq' => by obtain ⟨_, _, _, _, _, h⟩ := hq'; cases h)
  obtain ⟨W2, _, hs2, _, ⟨c3, c4⟩, hq'⟩ := hq'
  cases hq'
  have hks := rp_ks
  iterate 2 refine mj_T.pl rfl rfl rfl rfl ?_
  refine mj_T.call (ins := .invokevirtual 324) rfl rfl (Nat.le_of_ble_eq_true rfl) (Nat.le_of_ble_eq_true rfl) (by simp [mj_recv, rS_f hs2]) rfl (mj_Ok.up (by decide) (jp_laysRow (D := 0) (rG S N B T X) (by show 7 < 16; decide) kq_fit51 rp_a51 (a := 8) (by decide) (by decide) (by decide) c3 (fun e he => by have := c4 e he; omega) hs2)) (fun v' g3 hq' => ?_) (fun i h' hq' => by obtain ⟨_, _, _, _, _, _, _, _, h⟩ := hq'; cases h)
  obtain ⟨k3, W3, _, hk3, hs3, hrow3, hf3, hn3, hq'⟩ := hq'
  cases hq'
  have hs3a : rS (jvu S 7 ((k3 + 1 : Nat) : Int)) N B T X W3 g3 := hs3
  have K3 := K.put (k := 7) (v := ((k3 + 1 : Nat) : Int)) ⟨by omega, by omega⟩ (by decide) (by decide) (by decide) (by decide) (by decide)
  have h73 : (rF (jvu S 7 ((k3 + 1 : Nat) : Int)))[7]? = some (.int (jn ((k3 + 1 : Nat) : Int))) := rF7
  clear hs3
  generalize jvu S 7 ((k3 + 1 : Nat) : Int) = S3 at hs3a K3 h73
  have h8 : ∀ e, e < 13 → W3 (8 * 13 + e) = W2 (8 * 13 + e) := fun e he => hf3 _ (by omega) (by omega) (by omega) (by omega) (by omega) (by omega) (by omega) (by omega)
  have hkf : kfr k3 W3 := ⟨hrow3, fun e he => by rw [hn3 e he]; have := c4 e he; omega, by rw [jdg_congr 13 h8]; exact jpo_ne c3, fun e he => by rw [h8 e he]; have := c4 e he; omega⟩
  refine mj_T.pl rfl rfl rfl rfl ?_
  refine mj_T.call (ins := .invokevirtual 327) rfl rfl (Nat.le_of_ble_eq_true rfl) (Nat.le_of_ble_eq_true rfl) (by simp [mj_recv, rS_f hs3a]) rfl (mj_Ok.up (by decide) (jp_rootsOf (D := 0) (rG S3 N B T X) h73 hk3 hrow3 hs3a)) (fun v' g4 hq' => ?_) (fun i h' hq' => by obtain ⟨_, _, _, _, _, _, _, h⟩ := hq'; cases h)
  obtain ⟨W4, _, z4, hs4, f4, z4a, z4b, hq'⟩ := hq'
  cases hq'
  exact mj_T.ret rfl rfl rfl ⟨S3, W4, g4, k3, z4, hs4, K3, ⟨hk3, h73, hkf.keep hk3 (fun s hlt => f4 s (by omega) (by omega) (by omega))⟩, ⟨by omega, by omega⟩, rfl⟩
theorem rp_closeIn {x y z : Int} (hx : jr x) (hy : jr y) (hz : jr z) (hI : jI tm er T h) : mj_Ok 40 276 [.ref 0, .int (jn x), .int (jn y), .int (jn z)] h (rI tm er T) := by
  refine mj_Ok.of (M := mj_m276) rfl rfl rfl ?_
  obtain ⟨S, N, B, X, V, hs, K⟩ := hI
  iterate 2 refine mj_T.pl rfl rfl rfl rfl ?_
  refine rT_put (v := 0) hs rfl rfl (by decide) rfl (fun g5 hs5 => ?_)
  have K5 := K.put (k := 3) (v := 0) ⟨by decide, by decide⟩ (by decide) (by decide) (by decide) (by decide) (by decide)
  generalize jvu S 3 0 = S5 at hs5 K5
  have t37 : ∀ (S1 V1 : Nat → Int) (g : mj_H) (x : Int), rS S1 N B T X V1 g → jK tm er S1 N B T → mj_T 39 mj_m276 37 [some (.ref 0), some (.int (jn x)), some (.int (jn y)), some (.int (jn z))] [] g (rI tm er T) := fun S1 V1 g x hg KK => by
    iterate 2 refine mj_T.pl rfl rfl rfl rfl ?_
    refine mj_T.call (ins := .invokevirtual 198) rfl rfl (Nat.le_of_ble_eq_true rfl) (Nat.le_of_ble_eq_true rfl) (by simp [mj_recv, rS_f hg]) rfl (mj_Ok.up (by decide) (rp_fails (D := 0) (c := 1) hg)) (fun v' g6 hq' => ?_) (fun i h' hq' => by obtain ⟨_, _, h⟩ := hq'; cases h)
    obtain ⟨_, hs6, hq'⟩ := hq'
    cases hq'
    exact mj_T.ret rfl rfl rfl ⟨0, g6, ⟨by decide, by decide⟩, rfl, ⟨_, N, B, X, V1, hs6, KK.put ⟨by decide, by decide⟩ (by decide) (by decide) (by decide) (by decide) (by decide)⟩⟩
  refine mj_T.pl rfl rfl rfl rfl ?_
  refine mj_T.call (ins := .invokestatic 181) rfl rfl (Nat.le_of_ble_eq_true rfl) (Nat.le_of_ble_eq_true rfl) rfl rfl (mj_Ok.up (by decide) (rp_isRegister (D := 0) hx)) (fun v' h' hq' => ?_) (fun i h' hq' => by rcases hq' with ⟨_, _, h⟩ | ⟨_, h⟩ <;> cases h)
  rcases hq' with ⟨x1, x2, hq'⟩ | ⟨_, hq'⟩
  case' inr =>
    cases hq'
    refine mj_T.if0 (a := 0) rfl ⟨by decide, by decide⟩ (fun hc => ?_) (fun hc => ?_)
    · exact t37 _ _ _ x hs5 K5
    · simp [jc] at hc
  cases hq'
  refine mj_T.if0 (a := 1) rfl ⟨by decide, by decide⟩ (fun hc => ?_) (fun hc => ?_)
  · simp [jc] at hc
  obtain ⟨x, rfl⟩ := Int.eq_ofNat_of_zero_le x1
  iterate 2 refine mj_T.pl rfl rfl rfl rfl ?_
  refine mj_T.call (ins := .invokevirtual 232) rfl rfl (Nat.le_of_ble_eq_true rfl) (Nat.le_of_ble_eq_true rfl) (by simp [mj_recv, rS_f hs5]) rfl (mj_Ok.up (by decide) (rp_isZero (D := 0) (r := x) (by omega) K5.nR hs5)) (fun v' h' hq' => ?_) (fun i h' hq' => by rcases hq' with ⟨_, h⟩ | ⟨_, h⟩ <;> cases h)
  rcases hq' with ⟨_, hq'⟩ | ⟨nz, hq'⟩
  case' inl =>
    cases hq'
    refine mj_T.if0 (a := 1) rfl ⟨by decide, by decide⟩ (fun hc => ?_) (fun hc => ?_)
    · exact t37 _ _ _ (x : Int) hs5 K5
    · simp [jc] at hc
  cases hq'
  refine mj_T.if0 (a := 0) rfl ⟨by decide, by decide⟩ (fun hc => ?_) (fun hc => ?_)
  · simp [jc] at hc
  refine mj_T.pl rfl rfl rfl rfl ?_
  refine mj_T.i2l rfl hy ?_
  iterate 3 refine mj_T.pl rfl rfl rfl rfl ?_
  refine mj_T.call (ins := .invokevirtual 330) rfl rfl (Nat.le_of_ble_eq_true rfl) (Nat.le_of_ble_eq_true rfl) (by simp [mj_recv, rS_f hs5]) rfl (mj_Ok.up (by decide) (rp_laysSimpleRow (x := x) (by omega) nz hs5 K5)) (fun v' g8 hq' => ?_) (fun i h' hq' => by obtain ⟨_, _, _, _, _, _, _, _, _, h⟩ := hq'; cases h)
  obtain ⟨S8, W8, _, k8, z8, hs8, K8, ⟨hk8, h78, kf8⟩, ⟨z8a, z8b⟩, hq'⟩ := hq'
  cases hq'
  refine mj_T.pl rfl rfl rfl rfl ?_
  refine mj_T.isub (a := z8) (b := 1) rfl ?_
  refine mj_T.i2l rfl ⟨by omega, by omega⟩ ?_
  refine mj_T.call (ins := .invokestatic 177) rfl rfl (Nat.le_of_ble_eq_true rfl) (Nat.le_of_ble_eq_true rfl) rfl rfl (mj_Ok.up (by decide) (rp_in (D := 0) (v := y) (lo := 0) (hi := z8 - 1) ⟨by have := hy.1; omega, by have := hy.2; omega⟩ ⟨by decide, by decide⟩ ⟨by omega, by omega⟩)) (fun v' h' hq' => ?_) (fun i h' hq' => by rcases hq' with ⟨_, _, h⟩ | ⟨_, h⟩ <;> cases h)
  rcases hq' with ⟨y1, y2, hq'⟩ | ⟨_, hq'⟩
  case' inr =>
    cases hq'
    refine mj_T.if0 (a := 0) rfl ⟨by decide, by decide⟩ (fun hc => ?_) (fun hc => ?_)
    · simp [jc] at hc
    · exact t37 _ _ _ (x : Int) hs8 K8
  cases hq'
  refine mj_T.if0 (a := 1) rfl ⟨by decide, by decide⟩ (fun hc => ?_) (fun hc => ?_)
  rotate_left
  · simp [jc] at hc
  clear t37
  refine mj_T.pl rfl rfl rfl rfl ?_
  refine mj_T.i2l rfl hz ?_
  iterate 2 refine mj_T.pl rfl rfl rfl rfl ?_
  refine mj_T.call (ins := .invokestatic 177) rfl rfl (Nat.le_of_ble_eq_true rfl) (Nat.le_of_ble_eq_true rfl) rfl rfl (mj_Ok.up (by decide) (rp_in (D := 0) (v := z) (lo := 0) (hi := 20) ⟨by have := hz.1; omega, by have := hz.2; omega⟩ ⟨by decide, by decide⟩ ⟨by decide, by decide⟩)) (fun v' h' hq' => ?_) (fun i h' hq' => by rcases hq' with ⟨_, _, h⟩ | ⟨_, h⟩ <;> cases h)
  rcases hq' with ⟨r9a, r9b, hq'⟩ | ⟨_, hq'⟩
  case' inr =>
    cases hq'
    refine mj_T.if0 (a := 0) rfl ⟨by decide, by decide⟩ (fun hc => ?_) (fun hc => ?_)
    · simp [jc] at hc
    iterate 2 refine mj_T.pl rfl rfl rfl rfl ?_
    refine mj_T.call (ins := .invokevirtual 198) rfl rfl (Nat.le_of_ble_eq_true rfl) (Nat.le_of_ble_eq_true rfl) (by simp [mj_recv, rS_f hs8]) rfl (mj_Ok.up (by decide) (rp_fails (D := 0) (c := 2) hs8)) (fun v' g10 hq' => ?_) (fun i h' hq' => by obtain ⟨_, _, h⟩ := hq'; cases h)
    obtain ⟨_, hs10, hq'⟩ := hq'
    cases hq'
    exact mj_T.ret rfl rfl rfl ⟨0, g10, ⟨by decide, by decide⟩, rfl, ⟨_, N, B, X, W8, hs10, K8.put ⟨by decide, by decide⟩ (by decide) (by decide) (by decide) (by decide) (by decide)⟩⟩
  cases hq'
  refine mj_T.if0 (a := 1) rfl ⟨by decide, by decide⟩ (fun hc => ?_) (fun hc => ?_)
  rotate_left
  · simp [jc] at hc
  iterate 4 refine mj_T.pl rfl rfl rfl rfl ?_
  refine mj_T.pl rfl rfl rfl rfl ?_
  have hset : ∀ w : Int64, mj_T 39 mj_m276 68 [some (.ref 0), some (.int (jn (x : Int))), some (.int (jn y)), some (.int (jn z))] [.long w, .int (jn ((657 : Nat) : Int)), .ref 0] g8 (rI tm er T) := fun w => by
    rw [← jl_of w]
    have hwr := jR_of w
    refine mj_T.call (ins := .invokevirtual 45) rfl rfl (Nat.le_of_ble_eq_true rfl) (Nat.le_of_ble_eq_true rfl) (by simp [mj_recv, rS_f hs8]) rfl (mj_Ok.up (by decide) (jS_sets (D := 0) (rG S8 N B T X) (s := 657) (v := w.toInt) (by decide) hwr hs8)) (fun v' g11 hq' => ?_) (fun i h' hq' => by obtain ⟨_, _, h⟩ := hq'; cases h)
    obtain ⟨_, hs11, hq'⟩ := hq'
    cases hq'
    have u1 : jvu W8 657 w.toInt 657 = w.toInt := jvu_at _ _ _
    have u2 : ∀ s, s ≠ 657 → jvu W8 657 w.toInt s = W8 s := fun s hne => jvu_ne _ _ _ hne
    generalize jvu W8 657 w.toInt = W11 at hs11 u1 u2
    have kf := kf8.keep hk8 (W := W11) (fun s hlt => u2 s (by omega))
    iterate 2 refine mj_T.pl rfl rfl rfl rfl ?_
    refine mj_T.call (ins := .invokevirtual 335) rfl rfl (Nat.le_of_ble_eq_true rfl) (Nat.le_of_ble_eq_true rfl) (by simp [mj_recv, rS_f hs11]) rfl (mj_Ok.up (by decide) (jp_closes (D := 0) (V := W11) (rG S8 N B T X) h78 hk8 (root := y) hy (Cr := rCr) (C := 10 ^ 50) (x := 10 ^ 50) kf.1 kf.2.1 (by rw [u1]; have := hwr.1; have := hwr.2; omega) (by decide) rp_cr2 rp_cr3 hs11)) (fun v' g12 hq' => ?_) (fun i h' hq' => by obtain ⟨_, _, _, _, _, h⟩ := hq'; cases h)
    obtain ⟨W12, _, hs12, f12, b12, hq'⟩ := hq'
    cases hq'
    iterate 2 refine mj_T.pl rfl rfl rfl rfl ?_
    refine mj_T.call (ins := .invokevirtual 295) rfl rfl (Nat.le_of_ble_eq_true rfl) (Nat.le_of_ble_eq_true rfl) (by simp [mj_recv, rS_f hs12]) rfl (mj_Ok.up (by decide) (rp_tellsWhole (D := 0) (s := 656) (by decide) hs12)) (fun v' g13 hq' => ?_) (fun i h' hq' => by obtain ⟨_, _, _, _, _, h⟩ := hq'; cases h)
    obtain ⟨W13, z13, _, hs13, hz13, hq'⟩ := hq'
    cases hq'
    exact mj_T.ret rfl rfl rfl ⟨_, g13, hz13, rfl, ⟨S8, N, B, X, W13, hs13, K8⟩⟩
  exact hset _
theorem rp_isFractionRoot {S N B X V : Nat → Int} {root : Int} {k : Nat} (hr : jr root) (h7 : (rF S)[7]? = some (.int (jn ((k + 1 : Nat) : Int)))) (hk : k ≤ 12) (kf : kfr k V) (hs : rS S N B T X V h) : mj_Ok 39 277 [.ref 0, .int (jn root)] h (fun r => ∃ (W : Nat → Int) (h2 : mj_H), rS S N B T X W h2 ∧ (∀ s, s < 650 → W s = V s) ∧ W 657 ≠ 0 ∧ (r = (.inl (some (.int (jn 0))), h2) ∨ r = (.inl (some (.int (jn 1))), h2))) := by
  refine mj_Ok.of (M := mj_m277) rfl rfl rfl ?_
  have hl := jdg_le V 8 13
  have hne := jdg_ne V 8 13 kf.2.2.1
  have hb := kf.2.2.2 (jdg V 8 13 - 1) (by have := kf.2.2.1; omega)
  have h81 := kf.2.2.1
  obtain ⟨d, hd⟩ : ∃ d, jdg V 8 13 = d + 1 := ⟨jdg V 8 13 - 1, by omega⟩
  rw [hd, Nat.add_sub_cancel] at hne hb
  iterate 5 refine mj_T.pl rfl rfl rfl rfl ?_
  refine mj_T.call (ins := .invokevirtual 114) rfl rfl (Nat.le_of_ble_eq_true rfl) (Nat.le_of_ble_eq_true rfl) (by simp [mj_recv, rS_f hs]) rfl (mj_Ok.up (by decide) (jp_degreeOf (D := 0) (rG S N B T X) (p := 8) (by decide) hs)) (fun v' h' hq' => ?_) (fun i h' hq' => by cases hq')
  cases hq'
  rw [hd, show ((d + 1 : Nat) : Int) - 1 = (d : Int) by omega]
  refine mj_T.call (ins := .invokestatic 104) rfl rfl (Nat.le_of_ble_eq_true rfl) (Nat.le_of_ble_eq_true rfl) rfl rfl (mj_Ok.up (by decide) (jq_slot (D := 0) (p := 8) (i := d))) (fun v' h' hq' => ?_) (fun i h' hq' => by cases hq')
  cases hq'
  refine mj_T.call (ins := .invokevirtual 84) rfl rfl (Nat.le_of_ble_eq_true rfl) (Nat.le_of_ble_eq_true rfl) (by simp [mj_recv, rS_f hs]) rfl (mj_Ok.up (by decide) (jS_copies (D := 0) (rG S N B T X) (to := 657) (s := 8 * 13 + d) (by decide) (by omega) hs)) (fun v' g14 hq' => ?_) (fun i h' hq' => by obtain ⟨_, _, h⟩ := hq'; cases h)
  obtain ⟨_, hs14, hq'⟩ := hq'
  cases hq'
  have u1 : jvu V 657 (V (8 * 13 + d)) 657 = V (8 * 13 + d) := jvu_at _ _ _
  have u2 : ∀ s, s ≠ 657 → jvu V 657 (V (8 * 13 + d)) s = V s := fun s hne => jvu_ne _ _ _ hne
  generalize jvu V 657 (V (8 * 13 + d)) = W14 at hs14 u1 u2
  have kf1 := kf.keep hk (W := W14) (fun s hlt => u2 s (by omega))
  have h7x := h7
  have hkx := hk
  iterate 2 refine mj_T.pl rfl rfl rfl rfl ?_
  refine mj_T.call (ins := .invokevirtual 335) rfl rfl (Nat.le_of_ble_eq_true rfl) (Nat.le_of_ble_eq_true rfl) (by simp [mj_recv, rS_f hs14]) rfl (mj_Ok.up (by decide) (jp_closes (D := 0) (V := W14) (rG S N B T X) h7 hk (root := root) hr (Cr := rCr) (C := 10 ^ 50) (x := 10 ^ 50) kf1.1 kf1.2.1 (by rw [u1]; exact hb) (by decide) rp_cr2 rp_cr3 hs14)) (fun v' g15 hq' => ?_) (fun i h' hq' => by obtain ⟨_, _, _, _, _, h⟩ := hq'; cases h)
  obtain ⟨W15, _, hs15, fa, ba, hq'⟩ := hq'
  cases hq'
  have kf2 := kf1.keep hk (W := W15) (fun s hlt => fa s (by omega) (by omega) (by omega) (by omega) (by omega) (by omega) (by omega) (by omega) (by omega))
  have n57 : W15 657 = V (8 * 13 + d) := by rw [fa 657 (by decide) (by decide) (by decide) (by decide) (by decide) (by decide) (by decide) (by decide) (by decide), u1]
  iterate 2 refine mj_T.pl rfl rfl rfl rfl ?_
  refine mj_T.call (ins := .invokevirtual 162) rfl rfl (Nat.le_of_ble_eq_true rfl) (Nat.le_of_ble_eq_true rfl) (by simp [mj_recv, rS_f hs15]) rfl (mj_Ok.up (by decide) (jp_valueAt (D := 0) (V := W15) (p := 8) (rG S N B T X) (by decide) (C := 10 ^ 50) (x := rY) kf2.2.2.2 ba (by rw [n57]; exact Nat.le_trans hb rp_x50) rY1 rp_cr4 rp_cr3 hs15)) (fun v' g16 hq' => ?_) (fun i h' hq' => by obtain ⟨_, _, _, _, _, _, _, h⟩ := hq'; cases h)
  obtain ⟨W16, _, hs16, fb, _, _, _, hq'⟩ := hq'
  cases hq'
  have hsr := jsg_range (W16 659)
  have ff : ∀ s, s < 650 → W16 s = V s := fun s hlt => by rw [fb s (by omega) (by omega) (by omega), fa s (by omega) (by omega) (by omega) (by omega) (by omega) (by omega) (by omega) (by omega) (by omega), u2 s (by omega)]
  have fn : W16 657 ≠ 0 := by rw [fb 657 (by decide) (by decide) (by decide), n57]; exact hne
  refine mj_T.if0 (a := jsg (W16 659)) rfl ⟨by omega, by omega⟩ (fun hc8 => ?_) (fun hc8 => ?_)
  · refine mj_T.pl rfl rfl rfl rfl ?_
    exact mj_T.ret rfl rfl rfl ⟨_, _, hs16, ff, fn, Or.inl rfl⟩
  · iterate 2 refine mj_T.pl rfl rfl rfl rfl ?_
    exact mj_T.ret rfl rfl rfl ⟨_, _, hs16, ff, fn, Or.inr rfl⟩
theorem rp_frs_loop {S N B X : Nat → Int} {x : Int} {k : Nat} {z : Int} (hz : -13 ≤ z ∧ z ≤ 13) (h7 : (rF S)[7]? = some (.int (jn ((k + 1 : Nat) : Int)))) (hk : k ≤ 12) (K : jK tm er S N B T) :
    ∀ (m j c : Nat) (V : Nat → Int) (h : mj_H), z ≤ (j : Int) + m → j ≤ 13 → c ≤ j → kfr k V → rS S N B T X V h → mj_T 39 mj_m278 43 [some (.ref 0), some (.int (jn x)), some (.int (jn z)), some (.int (jn (c : Int))), some (.int (jn (j : Int)))] [] h (rI tm er T) := by
  intro m
  induction m with
  | zero =>
    intro j c V h hm hj hc kf hs
    iterate 2 refine mj_T.pl rfl rfl rfl rfl ?_
    refine mj_T.icmp (a := (j : Int)) (b := z) rfl ⟨by omega, by omega⟩ ⟨by omega, by omega⟩ (fun hc2 => ?_) (fun hc2 => ?_)
    · refine mj_T.pl rfl rfl rfl rfl ?_
      exact mj_T.ret rfl rfl rfl ⟨(c : Int), h, ⟨by omega, by omega⟩, rfl, ⟨_, _, _, _, _, hs, K⟩⟩
    · simp only [jc, decide_eq_false_iff_not] at hc2
      omega
  | succ m ih =>
    intro j c V h hm hj hc kf hs
    iterate 2 refine mj_T.pl rfl rfl rfl rfl ?_
    refine mj_T.icmp (a := (j : Int)) (b := z) rfl ⟨by omega, by omega⟩ ⟨by omega, by omega⟩ (fun hc2 => ?_) (fun hc2 => ?_)
    · refine mj_T.pl rfl rfl rfl rfl ?_
      exact mj_T.ret rfl rfl rfl ⟨(c : Int), h, ⟨by omega, by omega⟩, rfl, ⟨_, _, _, _, _, hs, K⟩⟩
    simp only [jc, decide_eq_false_iff_not] at hc2
    iterate 3 refine mj_T.pl rfl rfl rfl rfl ?_
    refine mj_T.call (ins := .invokevirtual 338) rfl rfl (Nat.le_of_ble_eq_true rfl) (Nat.le_of_ble_eq_true rfl) (by simp [mj_recv, rS_f hs]) rfl (mj_Ok.up (by decide) (rp_isFractionRoot (root := (j : Int)) ⟨by omega, by omega⟩ h7 hk kf hs)) (fun v' g1 hq' => ?_) (fun i h' hq' => by obtain ⟨_, _, _, _, _, h | h⟩ := hq' <;> cases h)
    obtain ⟨W, _, hs1, f1, _, hq' | hq'⟩ := hq'
    · cases hq'
      refine mj_T.if0 (a := 0) rfl ⟨by decide, by decide⟩ (fun hc => ?_) (fun hc => ?_)
      rotate_left
      · simp [jc] at hc
      refine mj_T.pl rfl rfl rfl rfl ?_
      refine mj_T.iadd (a := (c : Int)) (b := 0) rfl ?_
      rw [show (c : Int) + 0 = ((c + 0 : Nat) : Int) by omega]
      refine mj_T.pl rfl rfl rfl rfl ?_
      refine mj_T.iinc (a := (j : Int)) rfl rfl ?_
      refine mj_T.pl rfl rfl rfl rfl ?_
      exact ih (j + 1) (c + 0) _ _ (by omega) (by omega) (by omega) (kf.keep hk f1) hs1
    · cases hq'
      refine mj_T.if0 (a := 1) rfl ⟨by decide, by decide⟩ (fun hc => ?_) (fun hc => ?_)
      · simp [jc] at hc
      iterate 2 refine mj_T.pl rfl rfl rfl rfl ?_
      refine mj_T.iadd (a := (c : Int)) (b := 1) rfl ?_
      rw [show (c : Int) + 1 = ((c + 1 : Nat) : Int) by omega]
      refine mj_T.pl rfl rfl rfl rfl ?_
      refine mj_T.iinc (a := (j : Int)) rfl rfl ?_
      refine mj_T.pl rfl rfl rfl rfl ?_
      exact ih (j + 1) (c + 1) _ _ (by omega) (by omega) (by omega) (kf.keep hk f1) hs1
theorem rp_fractionRoots {x : Int} (hx : jr x) (hI : jI tm er T h) : mj_Ok 40 278 [.ref 0, .int (jn x)] h (rI tm er T) := by
  refine mj_Ok.of (M := mj_m278) rfl rfl rfl ?_
  obtain ⟨S, N, B, X, V, hs, K⟩ := hI
  iterate 2 refine mj_T.pl rfl rfl rfl rfl ?_
  refine rT_put (v := 0) hs rfl rfl (by decide) rfl (fun g17 hs17 => ?_)
  have K17 := K.put (k := 3) (v := 0) ⟨by decide, by decide⟩ (by decide) (by decide) (by decide) (by decide) (by decide)
  generalize jvu S 3 0 = S17 at hs17 K17
  refine mj_T.pl rfl rfl rfl rfl ?_
  refine mj_T.call (ins := .invokestatic 181) rfl rfl (Nat.le_of_ble_eq_true rfl) (Nat.le_of_ble_eq_true rfl) rfl rfl (mj_Ok.up (by decide) (rp_isRegister (D := 0) hx)) (fun v' h' hq' => ?_) (fun i h' hq' => by rcases hq' with ⟨_, _, h⟩ | ⟨_, h⟩ <;> cases h)
  rcases hq' with ⟨x1, x2, hq'⟩ | ⟨_, hq'⟩
  case' inr =>
    cases hq'
    refine mj_T.if0 (a := 0) rfl ⟨by decide, by decide⟩ (fun hc => ?_) (fun hc => ?_)
    · simp [jc] at hc
    iterate 2 refine mj_T.pl rfl rfl rfl rfl ?_
    refine mj_T.call (ins := .invokevirtual 198) rfl rfl (Nat.le_of_ble_eq_true rfl) (Nat.le_of_ble_eq_true rfl) (by simp [mj_recv, rS_f hs17]) rfl (mj_Ok.up (by decide) (rp_fails (D := 0) (c := 1) hs17)) (fun v' g18 hq' => ?_) (fun i h' hq' => by obtain ⟨_, _, h⟩ := hq'; cases h)
    obtain ⟨_, hs18, hq'⟩ := hq'
    cases hq'
    exact mj_T.ret rfl rfl rfl ⟨0, g18, ⟨by decide, by decide⟩, rfl, ⟨_, N, B, X, V, hs18, K17.put ⟨by decide, by decide⟩ (by decide) (by decide) (by decide) (by decide) (by decide)⟩⟩
  cases hq'
  refine mj_T.if0 (a := 1) rfl ⟨by decide, by decide⟩ (fun hc => ?_) (fun hc => ?_)
  rotate_left
  · simp [jc] at hc
  obtain ⟨x, rfl⟩ := Int.eq_ofNat_of_zero_le x1
  iterate 2 refine mj_T.pl rfl rfl rfl rfl ?_
  refine mj_T.call (ins := .invokevirtual 232) rfl rfl (Nat.le_of_ble_eq_true rfl) (Nat.le_of_ble_eq_true rfl) (by simp [mj_recv, rS_f hs17]) rfl (mj_Ok.up (by decide) (rp_isZero (D := 0) (r := x) (by omega) K17.nR hs17)) (fun v' h' hq' => ?_) (fun i h' hq' => by rcases hq' with ⟨_, h⟩ | ⟨_, h⟩ <;> cases h)
  rcases hq' with ⟨_, hq'⟩ | ⟨nz19, hq'⟩
  case' inl =>
    cases hq'
    refine mj_T.if0 (a := 1) rfl ⟨by decide, by decide⟩ (fun hc => ?_) (fun hc => ?_)
    · simp [jc] at hc
    iterate 2 refine mj_T.pl rfl rfl rfl rfl ?_
    refine mj_T.call (ins := .invokevirtual 198) rfl rfl (Nat.le_of_ble_eq_true rfl) (Nat.le_of_ble_eq_true rfl) (by simp [mj_recv, rS_f hs17]) rfl (mj_Ok.up (by decide) (rp_fails (D := 0) (c := 2) hs17)) (fun v' g20 hq' => ?_) (fun i h' hq' => by obtain ⟨_, _, h⟩ := hq'; cases h)
    obtain ⟨_, hs20, hq'⟩ := hq'
    cases hq'
    exact mj_T.ret rfl rfl rfl ⟨0, g20, ⟨by decide, by decide⟩, rfl, ⟨_, N, B, X, V, hs20, K17.put ⟨by decide, by decide⟩ (by decide) (by decide) (by decide) (by decide) (by decide)⟩⟩
  cases hq'
  refine mj_T.if0 (a := 0) rfl ⟨by decide, by decide⟩ (fun hc => ?_) (fun hc => ?_)
  rotate_left
  · simp [jc] at hc
  have nz := nz19
  iterate 2 refine mj_T.pl rfl rfl rfl rfl ?_
  refine mj_T.call (ins := .invokevirtual 330) rfl rfl (Nat.le_of_ble_eq_true rfl) (Nat.le_of_ble_eq_true rfl) (by simp [mj_recv, rS_f hs17]) rfl (mj_Ok.up (by decide) (rp_laysSimpleRow (x := x) (by omega) nz hs17 K17)) (fun v' g21 hq' => ?_) (fun i h' hq' => by obtain ⟨_, _, _, _, _, _, _, _, _, h⟩ := hq'; cases h)
  obtain ⟨S21, W21, _, k21, z21, hs21, K21, ⟨hk21, h721, kf21⟩, ⟨z21a, z21b⟩, hq'⟩ := hq'
  cases hq'
  iterate 5 refine mj_T.pl rfl rfl rfl rfl ?_
  exact rp_frs_loop (z := z21) ⟨z21a, z21b⟩ h721 hk21 K21 13 0 0 _ _ (by omega) (by decide) (by decide) kf21 hs21
theorem rp_fr_loop {S N B X : Nat → Int} {x y : Int} {k : Nat} {z : Int} (hz : -13 ≤ z ∧ z ≤ 13) (h7 : (rF S)[7]? = some (.int (jn ((k + 1 : Nat) : Int)))) (hk : k ≤ 12) (K : jK tm er S N B T) :
    ∀ (m j : Nat) (l : Int) (V : Nat → Int) (h : mj_H), z ≤ (j : Int) + m → j ≤ 13 → 0 ≤ l → jr l → kfr k V → rS S N B T X V h → mj_T 39 mj_m279 42 [some (.ref 0), some (.int (jn x)), some (.int (jn y)), some (.int (jn z)), some (.int (jn l)), some (.int (jn (j : Int)))] [] h (rI tm er T) := by
  have t85 : ∀ (j : Nat) (l : Int) (V : Nat → Int) (h : mj_H), rS S N B T X V h → mj_T 39 mj_m279 85 [some (.ref 0), some (.int (jn x)), some (.int (jn y)), some (.int (jn z)), some (.int (jn l)), some (.int (jn (j : Int)))] [] h (rI tm er T) := fun j l V h hs => by
    iterate 2 refine mj_T.pl rfl rfl rfl rfl ?_
    refine mj_T.call (ins := .invokevirtual 198) rfl rfl (Nat.le_of_ble_eq_true rfl) (Nat.le_of_ble_eq_true rfl) (by simp [mj_recv, rS_f hs]) rfl (mj_Ok.up (by decide) (rp_fails (D := 0) (c := 1) hs)) (fun v' g22 hq' => ?_) (fun i h' hq' => by obtain ⟨_, _, h⟩ := hq'; cases h)
    obtain ⟨_, hs22, hq'⟩ := hq'
    cases hq'
    exact mj_T.ret rfl rfl rfl ⟨0, g22, ⟨by decide, by decide⟩, rfl, ⟨_, N, B, X, V, hs22, K.put ⟨by decide, by decide⟩ (by decide) (by decide) (by decide) (by decide) (by decide)⟩⟩
  intro m
  induction m with
  | zero =>
    intro j l V h hm hj hl0 hl kf hs
    iterate 2 refine mj_T.pl rfl rfl rfl rfl ?_
    refine mj_T.icmp (a := (j : Int)) (b := z) rfl ⟨by omega, by omega⟩ ⟨by omega, by omega⟩ (fun hc2 => ?_) (fun hc2 => ?_)
    · exact t85 j l V h hs
    · simp only [jc, decide_eq_false_iff_not] at hc2
      omega
  | succ m ih =>
    intro j l V h hm hj hl0 hl kf hs
    iterate 2 refine mj_T.pl rfl rfl rfl rfl ?_
    refine mj_T.icmp (a := (j : Int)) (b := z) rfl ⟨by omega, by omega⟩ ⟨by omega, by omega⟩ (fun hc2 => ?_) (fun hc2 => ?_)
    · exact t85 j l V h hs
    simp only [jc, decide_eq_false_iff_not] at hc2
    have hla := hl.1
    have hlb := hl.2
    iterate 2 refine mj_T.pl rfl rfl rfl rfl ?_
    refine mj_T.call (ins := .invokevirtual 338) rfl rfl (Nat.le_of_ble_eq_true rfl) (Nat.le_of_ble_eq_true rfl) (by simp [mj_recv, rS_f hs]) rfl (mj_Ok.up (by decide) (rp_isFractionRoot (root := (j : Int)) ⟨by omega, by omega⟩ h7 hk kf hs)) (fun v' g1 hq' => ?_) (fun i h' hq' => by obtain ⟨_, _, _, _, _, h | h⟩ := hq' <;> cases h)
    obtain ⟨W, _, hs1, f1, n1, hq' | hq'⟩ := hq'
    · cases hq'
      refine mj_T.if0 (a := 0) rfl ⟨by decide, by decide⟩ (fun hc => ?_) (fun hc => ?_)
      · simp [jc] at hc
      refine mj_T.pl rfl rfl rfl rfl ?_
      refine mj_T.iinc (a := (j : Int)) rfl rfl ?_
      refine mj_T.pl rfl rfl rfl rfl ?_
      exact ih (j + 1) l _ _ (by omega) (by omega) hl0 hl (kf.keep hk f1) hs1
    · cases hq'
      refine mj_T.if0 (a := 1) rfl ⟨by decide, by decide⟩ (fun hc => ?_) (fun hc => ?_)
      rotate_left
      · simp [jc] at hc
      refine mj_T.pl rfl rfl rfl rfl ?_
      refine mj_T.if0 (a := l) rfl hl (fun hc3 => ?_) (fun hc3 => ?_)
      · refine mj_T.iinc (a := l) rfl rfl ?_
        refine mj_T.iinc (a := (j : Int)) rfl rfl ?_
        refine mj_T.pl rfl rfl rfl rfl ?_
        simp only [jc, Bool.not_eq_true', decide_eq_false_iff_not] at hc3
        exact ih (j + 1) (l + -1) _ _ (by omega) (by omega) (by omega) ⟨by omega, by omega⟩ (kf.keep hk f1) hs1
      iterate 3 refine mj_T.pl rfl rfl rfl rfl ?_
      refine mj_T.call (ins := .invokevirtual 308) rfl rfl (Nat.le_of_ble_eq_true rfl) (Nat.le_of_ble_eq_true rfl) (by simp [mj_recv, rS_f hs1]) rfl (mj_Ok.up (by decide) (jp_tells (D := 0) (rG S N B T X) (i := 656) (j := 657) (by decide) (by decide) (by decide) (by decide) n1 hs1)) (fun v' g23 hq' => ?_) (fun i h' hq' => by obtain ⟨_, _, _, _, _, _, h⟩ := hq'; cases h)
      obtain ⟨W23, _, hs23, _, _, _, hq'⟩ := hq'
      cases hq'
      have hsr := jsg_range (W23 650)
      exact mj_T.ret rfl rfl rfl ⟨_, g23, ⟨by omega, by omega⟩, rfl, ⟨S, N, B, X, W23, hs23, K⟩⟩
theorem rp_fractionRoot {x y : Int} (hx : jr x) (hy : jr y) (hI : jI tm er T h) : mj_Ok 40 279 [.ref 0, .int (jn x), .int (jn y)] h (rI tm er T) := by
  refine mj_Ok.of (M := mj_m279) rfl rfl rfl ?_
  obtain ⟨S, N, B, X, V, hs, K⟩ := hI
  iterate 2 refine mj_T.pl rfl rfl rfl rfl ?_
  refine rT_put (v := 0) hs rfl rfl (by decide) rfl (fun g24 hs24 => ?_)
  have K24 := K.put (k := 3) (v := 0) ⟨by decide, by decide⟩ (by decide) (by decide) (by decide) (by decide) (by decide)
  generalize jvu S 3 0 = S24 at hs24 K24
  have t24 : ∀ x : Int, mj_T 39 mj_m279 24 [some (.ref 0), some (.int (jn x)), some (.int (jn y)), none, none, none] [] g24 (rI tm er T) := fun x => by
    iterate 2 refine mj_T.pl rfl rfl rfl rfl ?_
    refine mj_T.call (ins := .invokevirtual 198) rfl rfl (Nat.le_of_ble_eq_true rfl) (Nat.le_of_ble_eq_true rfl) (by simp [mj_recv, rS_f hs24]) rfl (mj_Ok.up (by decide) (rp_fails (D := 0) (c := 1) hs24)) (fun v' g25 hq' => ?_) (fun i h' hq' => by obtain ⟨_, _, h⟩ := hq'; cases h)
    obtain ⟨_, hs25, hq'⟩ := hq'
    cases hq'
    exact mj_T.ret rfl rfl rfl ⟨0, g25, ⟨by decide, by decide⟩, rfl, ⟨_, N, B, X, V, hs25, K24.put ⟨by decide, by decide⟩ (by decide) (by decide) (by decide) (by decide) (by decide)⟩⟩
  refine mj_T.pl rfl rfl rfl rfl ?_
  refine mj_T.call (ins := .invokestatic 181) rfl rfl (Nat.le_of_ble_eq_true rfl) (Nat.le_of_ble_eq_true rfl) rfl rfl (mj_Ok.up (by decide) (rp_isRegister (D := 0) hx)) (fun v' h' hq' => ?_) (fun i h' hq' => by rcases hq' with ⟨_, _, h⟩ | ⟨_, h⟩ <;> cases h)
  rcases hq' with ⟨x1, x2, hq'⟩ | ⟨_, hq'⟩
  case' inr =>
    cases hq'
    refine mj_T.if0 (a := 0) rfl ⟨by decide, by decide⟩ (fun hc => ?_) (fun hc => ?_)
    · exact t24 x
    · simp [jc] at hc
  cases hq'
  refine mj_T.if0 (a := 1) rfl ⟨by decide, by decide⟩ (fun hc => ?_) (fun hc => ?_)
  · simp [jc] at hc
  obtain ⟨x, rfl⟩ := Int.eq_ofNat_of_zero_le x1
  iterate 2 refine mj_T.pl rfl rfl rfl rfl ?_
  refine mj_T.call (ins := .invokevirtual 232) rfl rfl (Nat.le_of_ble_eq_true rfl) (Nat.le_of_ble_eq_true rfl) (by simp [mj_recv, rS_f hs24]) rfl (mj_Ok.up (by decide) (rp_isZero (D := 0) (r := x) (by omega) K24.nR hs24)) (fun v' h' hq' => ?_) (fun i h' hq' => by rcases hq' with ⟨_, h⟩ | ⟨_, h⟩ <;> cases h)
  rcases hq' with ⟨_, hq'⟩ | ⟨nz, hq'⟩
  case' inl =>
    cases hq'
    refine mj_T.if0 (a := 1) rfl ⟨by decide, by decide⟩ (fun hc => ?_) (fun hc => ?_)
    · exact t24 (x : Int)
    · simp [jc] at hc
  cases hq'
  refine mj_T.if0 (a := 0) rfl ⟨by decide, by decide⟩ (fun hc => ?_) (fun hc => ?_)
  · simp [jc] at hc
  refine mj_T.pl rfl rfl rfl rfl ?_
  refine mj_T.if0 (a := y) rfl hy (fun hc3 => ?_) (fun hc3 => ?_)
  rotate_left
  · exact t24 (x : Int)
  simp only [jc, decide_eq_true_eq] at hc3
  iterate 2 refine mj_T.pl rfl rfl rfl rfl ?_
  refine mj_T.call (ins := .invokevirtual 330) rfl rfl (Nat.le_of_ble_eq_true rfl) (Nat.le_of_ble_eq_true rfl) (by simp [mj_recv, rS_f hs24]) rfl (mj_Ok.up (by decide) (rp_laysSimpleRow (x := x) (by omega) nz hs24 K24)) (fun v' g26 hq' => ?_) (fun i h' hq' => by obtain ⟨_, _, _, _, _, _, _, _, _, h⟩ := hq'; cases h)
  obtain ⟨S26, W26, _, k26, z26, hs26, K26, ⟨hk26, h726, kf26⟩, ⟨z26a, z26b⟩, hq'⟩ := hq'
  cases hq'
  iterate 5 refine mj_T.pl rfl rfl rfl rfl ?_
  exact rp_fr_loop (z := z26) ⟨z26a, z26b⟩ h726 hk26 K26 13 0 y _ _ (by omega) (by decide) (by omega) hy kf26 hs26
end RPU
/-! Calls of the reference: interpolation. -/
def rpr (p : Int) : List Int → Int
  | [] => 1
  | q :: R => (p - q) * rpr p R
theorem rpr_mid (p q : Int) (B : List Int) : ∀ A : List Int, rpr p (A ++ q :: B) = (p - q) * rpr p (A ++ B)
  | [] => rfl
  | a :: A => by
    show (p - a) * rpr p (A ++ q :: B) = (p - q) * ((p - a) * rpr p (A ++ B))
    rw [rpr_mid p q B A, Int.mul_left_comm]
/-- the product of the differences of a place and the first others -/
def rdf (p : Int) (g : Nat → Int) (i : Nat) : Nat → Int
  | 0 => 1
  | k + 1 => if k = i then rdf p g i k else rdf p g i k * (p - g k)
theorem rdf_dvd (p : Int) (g : Nat → Int) (i : Nat) : ∀ (k : Nat) (R : List Int), (∀ j, j < k → j ≠ i → g j ∈ R) → (∀ a b, a < b → b < k → g a ≠ g b) → rdf p g i k ∣ rpr p R
  | 0, R, _, _ => ⟨rpr p R, (Int.one_mul _).symm⟩
  | k + 1, R, h1, h2 => by
    unfold rdf
    split
    · exact rdf_dvd p g i k R (fun j hj hne => h1 j (by omega) hne) (fun a b ha hb => h2 a b ha (by omega))
    · rename_i hk
      obtain ⟨A, B, hR⟩ := List.append_of_mem (h1 k (by omega) hk)
      rw [hR, rpr_mid, Int.mul_comm]
      refine Int.mul_dvd_mul (Int.dvd_refl _) (rdf_dvd p g i k (A ++ B) (fun j hj hne => ?_) (fun a b ha hb => h2 a b ha (by omega)))
      have hm := h1 j (by omega) hne
      rw [hR] at hm
      rcases List.mem_append.mp hm with c | c
      · exact List.mem_append.mpr (Or.inl c)
      · rcases List.mem_cons.mp c with c | c
        · exact absurd c (h2 j k hj (by omega))
        · exact List.mem_append.mpr (Or.inr c)
def rpl (x : Nat) : List Int := ((List.range 19).filter (fun y => y != x)).map (fun y : Nat => (y : Int) - 9)
theorem rpl_dvd : ∀ x : Nat, x < 19 → rpr ((x : Int) - 9) (rpl x) ∣ 6402373705728000 := by decide +kernel
theorem rdf_18 {N : Nat → Int} (g : gN N) {i n : Nat} (hn : N 78 = (n : Int)) (hi : i < n) : rdf (N (79 + i)) (fun j => N (79 + j)) i n ∣ 6402373705728000 := by
  obtain ⟨g1, g2, g3, g4⟩ := g
  have hp := (g3 i (by omega)).1
  obtain ⟨x, hx⟩ : ∃ x : Nat, N (79 + i) = (x : Int) - 9 := ⟨(N (79 + i) + 9).toNat, by omega⟩
  have h1 := rpl_dvd x (by omega)
  rw [← hx] at h1
  refine Int.dvd_trans (rdf_dvd _ _ i n (rpl x) (fun j hj hne => ?_) (fun a b hab hb => g4 a b hab (by omega))) h1
  have hq := (g3 j (by omega)).1
  refine List.mem_map.mpr ⟨(N (79 + j) + 9).toNat, List.mem_filter.mpr ⟨List.mem_range.mpr (by omega), ?_⟩, by omega⟩
  have hd : N (79 + j) ≠ N (79 + i) := by
    rcases Nat.lt_or_gt_of_ne hne with c | c
    · exact g4 j i c (by omega)
    · exact fun e => g4 i j c (by omega) e.symm
  have : (N (79 + j) + 9).toNat ≠ x := by omega
  simp [this]
theorem r18_bd {d : Int} (h : d ∣ 6402373705728000) : d ≠ 0 ∧ d.natAbs ∣ 6402373705728000 ∧ d.natAbs ≤ 6402373705728000 := by
  have h1 : d.natAbs ∣ 6402373705728000 := Int.natAbs_dvd_natAbs.mpr h
  refine ⟨fun e => ?_, h1, Nat.le_of_dvd (by decide) h1⟩
  rw [e] at h
  obtain ⟨c, hc⟩ := h
  rw [Int.zero_mul] at hc
  exact absurd hc (by decide)
section RIP
variable {D pc r1 r2 r3 r4 r5 : Nat} {M : mj_M} {loc : mj_L} {st : List Value} {h : mj_H} {Q : mj_R → Prop}
theorem mj_T.ldv {x y : Int64} (hc : M.2.2.2.2.1 pc = some (.ldiv, r1, r2, r3, r4, r5)) (hy : y ≠ 0) (k : ∀ w : Int64, mj_T D M (pc + 1) loc (.long w :: st) h Q) : mj_T D M pc loc (.long y :: .long x :: st) h Q :=
  mj_T.step hc rfl (by simp only [mj_step]; rw [if_neg hy]) (k _)
end RIP
theorem rp_ip1 : 169 * ((169 * 9) ^ 5 * 9) ≤ (169 * 9) ^ 6 := by decide +kernel
theorem rp_ip2 : (169 * 9) ^ 6 < jB ^ 698 := by decide +kernel
theorem rp_ip3 : 999 * 9223372036854775808 < jB ^ 698 := by decide +kernel
theorem rp_ip4 : 7 * ((169 * 9) ^ 6 * (999 * 9223372036854775808)) < jB ^ 698 := by decide +kernel
section RPU
variable {h : mj_H} {tm er : Int} {T : Nat → Int}
theorem rp_cm_loop {l0 l1 l2 : Option Value} {D g : Nat} {Q : mj_R → Prop} (hend : Q (.inl (some (.long (jl (g : Int)))), h)) :
    ∀ (b a : Nat) (l8 l9 : Option Value), a ≤ 9223372036854775807 → b ≤ 9223372036854775807 → Nat.gcd a b = g → mj_T D mj_m248 28 [l0, l1, l2, none, some (.long (jl (a : Int))), none, some (.long (jl (b : Int))), none, l8, l9] [] h Q := by
  intro b
  induction b using Nat.strongRecOn with
  | _ b ih =>
    intro a l8 l9 ha hb hg
    iterate 2 refine mj_T.pl rfl rfl rfl rfl ?_
    refine mj_T.lif (a := (b : Int)) (b := 0) rfl rfl ⟨by omega, by omega⟩ ⟨by decide, by decide⟩ (fun hc => ?_) (fun hc => ?_)
    · simp only [jc, decide_eq_true_eq] at hc
      have hb0 : b = 0 := by omega
      rw [hb0, Nat.gcd_zero_right] at hg
      subst hg
      refine mj_T.pl rfl rfl rfl rfl ?_
      exact mj_T.ret rfl rfl rfl hend
    · simp only [jc, decide_eq_false_iff_not] at hc
      iterate 2 refine mj_T.pl rfl rfl rfl rfl ?_
      refine mj_T.lrem (a := (a : Int)) (b := (b : Int)) rfl ⟨by omega, by omega⟩ ⟨by omega, by omega⟩ (by omega) ?_
      rw [show (a : Int).tmod (b : Int) = ((a % b : Nat) : Int) from rfl]
      iterate 6 refine mj_T.pl rfl rfl rfl rfl ?_
      have hm : a % b < b := Nat.mod_lt _ (by omega)
      exact ih (a % b) hm b _ _ hb (by omega) (by rw [← hg, Nat.gcd_comm a b, Nat.gcd_rec b a, Nat.gcd_comm])
theorem rp_common {D : Nat} {a b : Int} (ha : a.natAbs ≤ 9223372036854775807) (hb : b.natAbs ≤ 9223372036854775807) : mj_Ok (D + 1) 248 [.long (jl a), .long (jl b)] h (fun r => r = (.inl (some (.long (jl (Nat.gcd a.natAbs b.natAbs : Nat)))), h)) := by
  refine mj_Ok.of (M := mj_m248) rfl rfl rfl ?_
  have t26 : ∀ z : Nat, z = b.natAbs → mj_T D mj_m248 26 [some (.long (jl a)), none, some (.long (jl b)), none, some (.long (jl (a.natAbs : Int))), none, none, none, none, none] [.long (jl (z : Int))] h (fun r => r = (.inl (some (.long (jl (Nat.gcd a.natAbs b.natAbs : Nat)))), h)) := fun z hz => by
    refine mj_T.pl rfl rfl rfl rfl ?_
    subst hz
    exact rp_cm_loop (Q := fun r => r = (.inl (some (.long (jl (Nat.gcd a.natAbs b.natAbs : Nat)))), h)) rfl b.natAbs a.natAbs none none ha hb rfl
  have t12 : ∀ z : Nat, z = a.natAbs → mj_T D mj_m248 12 [some (.long (jl a)), none, some (.long (jl b)), none, none, none, none, none, none, none] [.long (jl (z : Int))] h (fun r => r = (.inl (some (.long (jl (Nat.gcd a.natAbs b.natAbs : Nat)))), h)) := fun z hz => by
    refine mj_T.pl rfl rfl rfl rfl ?_
    subst hz
    iterate 2 refine mj_T.pl rfl rfl rfl rfl ?_
    refine mj_T.lif (a := b) (b := 0) rfl rfl ⟨by omega, by omega⟩ ⟨by decide, by decide⟩ (fun hc => ?_) (fun hc => ?_)
    · simp only [jc, decide_eq_true_eq] at hc
      refine mj_T.pl rfl rfl rfl rfl ?_
      have e : b = ((b.natAbs : Nat) : Int) := by omega
      refine mj_T.eq (st2 := [.long (jl ((b.natAbs : Nat) : Int))]) (t26 _ rfl) rfl rfl (by rw [← e]) rfl
    · simp only [jc, decide_eq_false_iff_not] at hc
      refine mj_T.pl rfl rfl rfl rfl ?_
      refine mj_T.lneg rfl ?_
      refine mj_T.pl rfl rfl rfl rfl ?_
      have e : -b = ((b.natAbs : Nat) : Int) := by omega
      refine mj_T.eq (st2 := [.long (jl ((b.natAbs : Nat) : Int))]) (t26 _ rfl) rfl rfl (by rw [← e]) rfl
  iterate 2 refine mj_T.pl rfl rfl rfl rfl ?_
  refine mj_T.lif (a := a) (b := 0) rfl rfl ⟨by omega, by omega⟩ ⟨by decide, by decide⟩ (fun hc => ?_) (fun hc => ?_)
  · simp only [jc, decide_eq_true_eq] at hc
    refine mj_T.pl rfl rfl rfl rfl ?_
    have e : a = ((a.natAbs : Nat) : Int) := by omega
    refine mj_T.eq (st2 := [.long (jl ((a.natAbs : Nat) : Int))]) (t12 _ rfl) rfl rfl (by rw [← e]) rfl
  · simp only [jc, decide_eq_false_iff_not] at hc
    refine mj_T.pl rfl rfl rfl rfl ?_
    refine mj_T.lneg rfl ?_
    refine mj_T.pl rfl rfl rfl rfl ?_
    have e : -a = ((a.natAbs : Nat) : Int) := by omega
    refine mj_T.eq (st2 := [.long (jl ((a.natAbs : Nat) : Int))]) (t12 _ rfl) rfl rfl (by rw [← e]) rfl
theorem rp_df_loop {S N B X V : Nat → Int} {D i n : Nat} (hi : i < n) (hn6 : n ≤ 6) (hn : N 78 = (n : Int)) (hs : rS S N B T X V h) {Q : mj_R → Prop} (hend : Q (.inl (some (.long (jl (rdf (N (79 + i)) (fun j => N (79 + j)) i n)))), h)) :
    ∀ (m k : Nat), k + m = n → mj_T D mj_m249 5 [some (.ref 0), some (.int (jn (i : Int))), some (.long (jl (rdf (N (79 + i)) (fun j => N (79 + j)) i k))), none, some (.int (jn (k : Int)))] [] h Q := by
  intro m
  induction m with
  | zero =>
    intro k hk
    have hkn : k = n := by omega
    subst hkn
    refine mj_T.pl rfl rfl rfl rfl ?_
    refine mj_T.i2l rfl ⟨by omega, by omega⟩ ?_
    refine mj_T.pl rfl rfl rfl rfl ?_
    refine rT_get hs rfl rfl ?_
    refine mj_T.pl rfl rfl rfl rfl ?_
    refine rT_ldN (i := ((78 : Nat) : Int)) hs rfl ⟨by decide, by decide⟩ ?_
    rw [Int.toNat_natCast, hn]
    refine mj_T.lif (a := (k : Int)) (b := (k : Int)) rfl rfl ⟨by omega, by omega⟩ ⟨by omega, by omega⟩ (fun hc => ?_) (fun hc => ?_)
    · refine mj_T.pl rfl rfl rfl rfl ?_
      exact mj_T.ret rfl rfl rfl hend
    · simp only [jc, decide_eq_false_iff_not] at hc
      omega
  | succ m ih =>
    intro k hk
    refine mj_T.pl rfl rfl rfl rfl ?_
    refine mj_T.i2l rfl ⟨by omega, by omega⟩ ?_
    refine mj_T.pl rfl rfl rfl rfl ?_
    refine rT_get hs rfl rfl ?_
    refine mj_T.pl rfl rfl rfl rfl ?_
    refine rT_ldN (i := ((78 : Nat) : Int)) hs rfl ⟨by decide, by decide⟩ ?_
    rw [Int.toNat_natCast, hn]
    refine mj_T.lif (a := (k : Int)) (b := (n : Int)) rfl rfl ⟨by omega, by omega⟩ ⟨by omega, by omega⟩ (fun hc => ?_) (fun hc => ?_)
    · simp only [jc, decide_eq_true_eq] at hc
      omega
    iterate 2 refine mj_T.pl rfl rfl rfl rfl ?_
    refine mj_T.icmp (a := (k : Int)) (b := (i : Int)) rfl ⟨by omega, by omega⟩ ⟨by omega, by omega⟩ (fun hc2 => ?_) (fun hc2 => ?_)
    · simp only [jc, decide_eq_true_eq] at hc2
      refine mj_T.iinc (a := (k : Int)) rfl rfl ?_
      refine mj_T.pl rfl rfl rfl rfl ?_
      have e : rdf (N (79 + i)) (fun j => N (79 + j)) i k = rdf (N (79 + i)) (fun j => N (79 + j)) i (k + 1) := (if_pos (by omega)).symm
      rw [e]
      exact ih (k + 1) (by omega)
    · simp only [jc, decide_eq_false_iff_not] at hc2
      iterate 2 refine mj_T.pl rfl rfl rfl rfl ?_
      refine rT_get hs rfl rfl ?_
      iterate 2 refine mj_T.pl rfl rfl rfl rfl ?_
      refine mj_T.iadd (a := 79) (b := (i : Int)) rfl ?_
      rw [show (79 : Int) + (i : Int) = ((79 + i : Nat) : Int) by omega]
      refine rT_ldN hs rfl ⟨by omega, by omega⟩ ?_
      rw [Int.toNat_natCast]
      refine mj_T.pl rfl rfl rfl rfl ?_
      refine rT_get hs rfl rfl ?_
      iterate 2 refine mj_T.pl rfl rfl rfl rfl ?_
      refine mj_T.iadd (a := 79) (b := (k : Int)) rfl ?_
      rw [show (79 : Int) + (k : Int) = ((79 + k : Nat) : Int) by omega]
      refine rT_ldN hs rfl ⟨by omega, by omega⟩ ?_
      rw [Int.toNat_natCast]
      refine mj_T.lsub rfl ?_
      refine mj_T.lmul rfl ?_
      have e : rdf (N (79 + i)) (fun j => N (79 + j)) i k * (N (79 + i) - N (79 + k)) = rdf (N (79 + i)) (fun j => N (79 + j)) i (k + 1) := (if_neg (by omega)).symm
      rw [e]
      refine mj_T.pl rfl rfl rfl rfl ?_
      refine mj_T.iinc (a := (k : Int)) rfl rfl ?_
      refine mj_T.pl rfl rfl rfl rfl ?_
      exact ih (k + 1) (by omega)
theorem rp_differences {S N B X V : Nat → Int} {D i n : Nat} (g : gN N) (hi : i < n) (hn : N 78 = (n : Int)) (hs : rS S N B T X V h) : mj_Ok (D + 1) 249 [.ref 0, .int (jn (i : Int))] h (fun r => ∃ d : Int, (d ≠ 0 ∧ d.natAbs ∣ 6402373705728000 ∧ d.natAbs ≤ 6402373705728000) ∧ r = (.inl (some (.long (jl d))), h)) := by
  refine mj_Ok.of (M := mj_m249) rfl rfl rfl ?_
  iterate 4 refine mj_T.pl rfl rfl rfl rfl ?_
  exact rp_df_loop (D := D) hi (by have := g.2.1.2; omega) hn hs (Q := fun r => ∃ d : Int, (d ≠ 0 ∧ d.natAbs ∣ 6402373705728000 ∧ d.natAbs ≤ 6402373705728000) ∧ r = (.inl (some (.long (jl d))), h)) ⟨_, r18_bd (rdf_18 g hn hi), rfl⟩ n 0 (by omega)
theorem rp_lp_loop {S N B X V0 : Nat → Int} {i n : Nat} (g : gN N) (hi : i < n) (hn6 : n ≤ 6) (hn : N 78 = (n : Int)) {Q : mj_R → Prop} (hend : ∀ (V : Nat → Int) (h : mj_H), rS S N B T X V h → (∀ s, (s < 26 ∨ 39 ≤ s) → (s < 65 ∨ 78 ≤ s) → (s < 91 ∨ 104 ≤ s) → s ≠ 652 → V s = V0 s) → (∀ e, e < 13 → (V (2 * 13 + e)).natAbs ≤ (169 * 9) ^ 6) → Q (.inl none, h)) :
    ∀ (m k : Nat) (V : Nat → Int) (h : mj_H), k + m = n → rS S N B T X V h → (∀ s, (s < 26 ∨ 39 ≤ s) → (s < 65 ∨ 78 ≤ s) → (s < 91 ∨ 104 ≤ s) → s ≠ 652 → V s = V0 s) → (∀ e, e < 13 → (V (2 * 13 + e)).natAbs ≤ (169 * 9) ^ k) → jdg V 2 13 ≤ k + 1 → mj_T 38 mj_m250 17 [some (.ref 0), some (.int (jn (i : Int))), some (.int (jn (k : Int)))] [] h Q := by
  intro m
  induction m with
  | zero =>
    intro k V h hk hs f c1 c2
    have hkn : k = n := by omega
    subst hkn
    refine mj_T.pl rfl rfl rfl rfl ?_
    refine mj_T.i2l rfl ⟨by omega, by omega⟩ ?_
    refine mj_T.pl rfl rfl rfl rfl ?_
    refine rT_get hs rfl rfl ?_
    refine mj_T.pl rfl rfl rfl rfl ?_
    refine rT_ldN (i := ((78 : Nat) : Int)) hs rfl ⟨by decide, by decide⟩ ?_
    rw [Int.toNat_natCast, hn]
    refine mj_T.lif (a := (k : Int)) (b := (k : Int)) rfl rfl ⟨by omega, by omega⟩ ⟨by omega, by omega⟩ (fun hc => ?_) (fun hc => ?_)
    · exact mj_T.ret rfl rfl rfl (hend V h hs f (fun e he => Nat.le_trans (c1 e he) (Nat.pow_le_pow_right (by decide) hn6)))
    · simp only [jc, decide_eq_false_iff_not] at hc
      omega
  | succ m ih =>
    intro k V h hk hs f c1 c2
    refine mj_T.pl rfl rfl rfl rfl ?_
    refine mj_T.i2l rfl ⟨by omega, by omega⟩ ?_
    refine mj_T.pl rfl rfl rfl rfl ?_
    refine rT_get hs rfl rfl ?_
    refine mj_T.pl rfl rfl rfl rfl ?_
    refine rT_ldN (i := ((78 : Nat) : Int)) hs rfl ⟨by decide, by decide⟩ ?_
    rw [Int.toNat_natCast, hn]
    refine mj_T.lif (a := (k : Int)) (b := (n : Int)) rfl rfl ⟨by omega, by omega⟩ ⟨by omega, by omega⟩ (fun hc => ?_) (fun hc => ?_)
    · simp only [jc, decide_eq_true_eq] at hc
      omega
    iterate 2 refine mj_T.pl rfl rfl rfl rfl ?_
    refine mj_T.icmp (a := (k : Int)) (b := (i : Int)) rfl ⟨by omega, by omega⟩ ⟨by omega, by omega⟩ (fun hc2 => ?_) (fun hc2 => ?_)
    rotate_left
    · refine mj_T.pl rfl rfl rfl rfl ?_
      refine mj_T.iinc (a := (k : Int)) rfl rfl ?_
      refine mj_T.pl rfl rfl rfl rfl ?_
      exact ih (k + 1) V h (by omega) hs f (fun e he => Nat.le_trans (c1 e he) (Nat.pow_le_pow_right (by decide) (by omega))) (by omega)
    iterate 2 refine mj_T.pl rfl rfl rfl rfl ?_
    refine mj_T.call (ins := .invokevirtual 110) rfl rfl (Nat.le_of_ble_eq_true rfl) (Nat.le_of_ble_eq_true rfl) (by simp [mj_recv, rS_f hs]) rfl (mj_Ok.up (by decide) (jp_empties (D := 0) (rG S N B T X) (p := 5) (by decide) hs)) (fun v' g1 hq' => ?_) (fun i h' hq' => by obtain ⟨_, _, h⟩ := hq'; cases h)
    obtain ⟨_, hs1, hq'⟩ := hq'
    cases hq'
    have q1 : ∀ e, e < 13 → jfl V 5 (fun _ => 0) 13 (5 * 13 + e) = 0 := fun e he => jfl_at _ _ _ he
    have q2 : ∀ s, (s < 65 ∨ 78 ≤ s) → jfl V 5 (fun _ => 0) 13 s = V s := fun s hc => jfl_off _ _ _ (by omega)
    generalize jfl V 5 (fun _ => 0) 13 = W1 at hs1 q1 q2
    iterate 3 refine mj_T.pl rfl rfl rfl rfl ?_
    refine mj_T.call (ins := .invokestatic 104) rfl rfl (Nat.le_of_ble_eq_true rfl) (Nat.le_of_ble_eq_true rfl) rfl rfl (mj_Ok.up (by decide) (jq_slot (D := 0) (p := 5) (i := 0))) (fun v' h' hq' => ?_) (fun i h' hq' => by cases hq')
    cases hq'
    refine mj_T.pl rfl rfl rfl rfl ?_
    refine rT_get hs1 rfl rfl ?_
    iterate 2 refine mj_T.pl rfl rfl rfl rfl ?_
    refine mj_T.iadd (a := 79) (b := (k : Int)) rfl ?_
    rw [show (79 : Int) + (k : Int) = ((79 + k : Nat) : Int) by omega]
    refine rT_ldN hs1 rfl ⟨by omega, by omega⟩ ?_
    rw [Int.toNat_natCast]
    refine mj_T.lneg rfl ?_
    have hp := (g.2.2.1 k (by omega)).1
    refine mj_T.call (ins := .invokevirtual 45) rfl rfl (Nat.le_of_ble_eq_true rfl) (Nat.le_of_ble_eq_true rfl) (by simp [mj_recv, rS_f hs1]) rfl (mj_Ok.up (by decide) (jS_sets (D := 0) (rG S N B T X) (s := 5 * 13 + 0) (v := -N (79 + k)) (by decide) ⟨by omega, by omega⟩ hs1)) (fun v' g2 hq' => ?_) (fun i h' hq' => by obtain ⟨_, _, h⟩ := hq'; cases h)
    obtain ⟨_, hs2, hq'⟩ := hq'
    cases hq'
    have a1 : jvu W1 (5 * 13 + 0) (-N (79 + k)) (5 * 13 + 0) = -N (79 + k) := jvu_at _ _ _
    have a2 : ∀ s, s ≠ 5 * 13 + 0 → jvu W1 (5 * 13 + 0) (-N (79 + k)) s = W1 s := fun s hne => jvu_ne _ _ _ hne
    generalize jvu W1 (5 * 13 + 0) (-N (79 + k)) = W2 at hs2 a1 a2
    iterate 3 refine mj_T.pl rfl rfl rfl rfl ?_
    refine mj_T.call (ins := .invokestatic 104) rfl rfl (Nat.le_of_ble_eq_true rfl) (Nat.le_of_ble_eq_true rfl) rfl rfl (mj_Ok.up (by decide) (jq_slot (D := 0) (p := 5) (i := 1))) (fun v' h' hq' => ?_) (fun i h' hq' => by cases hq')
    cases hq'
    refine mj_T.pl rfl rfl rfl rfl ?_
    refine mj_T.call (ins := .invokevirtual 45) rfl rfl (Nat.le_of_ble_eq_true rfl) (Nat.le_of_ble_eq_true rfl) (by simp [mj_recv, rS_f hs2]) rfl (mj_Ok.up (by decide) (jS_sets (D := 0) (rG S N B T X) (s := 5 * 13 + 1) (v := 1) (by decide) ⟨by decide, by decide⟩ hs2)) (fun v' g3 hq' => ?_) (fun i h' hq' => by obtain ⟨_, _, h⟩ := hq'; cases h)
    obtain ⟨_, hs3, hq'⟩ := hq'
    cases hq'
    have b1 : jvu W2 (5 * 13 + 1) (1) (5 * 13 + 1) = 1 := jvu_at _ _ _
    have b2 : ∀ s, s ≠ 5 * 13 + 1 → jvu W2 (5 * 13 + 1) (1) s = W2 s := fun s hne => jvu_ne _ _ _ hne
    generalize jvu W2 (5 * 13 + 1) (1) = W3 at hs3 b1 b2
    have c5 : ∀ e, e < 13 → (W3 (5 * 13 + e)).natAbs ≤ 9 := fun e he => by
      by_cases e1 : e = 1
      · subst e1
        rw [b1]
        decide
      · rw [b2 _ (by omega)]
        by_cases e0 : e = 0
        · subst e0
          rw [a1]
          omega
        · rw [a2 _ (by omega), q1 e he]
          exact Nat.zero_le _
    have d5 : jdg W3 5 13 ≤ 2 := jdg_of_zero fun e x1 x2 => by rw [b2 _ (by omega), a2 _ (by omega), q1 e x2]
    have c3 : ∀ e, e < 13 → W3 (2 * 13 + e) = V (2 * 13 + e) := fun e he => by rw [b2 _ (by omega), a2 _ (by omega), q2 _ (by omega)]
    have d2 : jdg W3 2 13 = jdg V 2 13 := jdg_congr 13 c3
    have hsz : 169 * ((169 * 9) ^ k * 9) = (169 * 9) ^ (k + 1) := by rw [Nat.pow_succ, ← Nat.mul_assoc, Nat.mul_comm 169, Nat.mul_assoc]
    have hmx : (169 * 9) ^ (k + 1) ≤ (169 * 9) ^ 6 := Nat.pow_le_pow_right (by decide) (by omega)
    have h2x := rp_ip2
    iterate 4 refine mj_T.pl rfl rfl rfl rfl ?_
    refine mj_T.call (ins := .invokevirtual 121) rfl rfl (Nat.le_of_ble_eq_true rfl) (Nat.le_of_ble_eq_true rfl) (by simp [mj_recv, rS_f hs3]) rfl (mj_Ok.up (by decide) (jp_multipliesPoly (D := 0) (V := W3) (rG S N B T X) (to := 7) (a := 2) (b := 5) (by decide) (by decide) (by decide) (by decide) (by decide) (al := (169 * 9) ^ k) (be := 9) (fun e he => by rw [c3 e he]; exact c1 e he) c5 (by omega) (by omega) hs3)) (fun v' g2 hq' => ?_) (fun i h' hq' => by obtain ⟨_, _, _, _, _, _, h⟩ := hq'; cases h)
    obtain ⟨W2, _, hs2, e1, e2, e3, hq'⟩ := hq'
    cases hq'
    iterate 3 refine mj_T.pl rfl rfl rfl rfl ?_
    refine mj_T.call (ins := .invokevirtual 124) rfl rfl (Nat.le_of_ble_eq_true rfl) (Nat.le_of_ble_eq_true rfl) (by simp [mj_recv, rS_f hs2]) rfl (mj_Ok.up (by decide) (jp_copiesPoly (D := 0) (V := W2) (rG S N B T X) (p := 2) (q := 7) (by decide) (by decide) (by decide) hs2)) (fun v' g9 hq' => ?_) (fun i h' hq' => by obtain ⟨_, _, h⟩ := hq'; cases h)
    obtain ⟨_, hs9, hq'⟩ := hq'
    cases hq'
    have i1 : ∀ e, e < 13 → jfl W2 2 (fun e => W2 (7 * 13 + e)) 13 (2 * 13 + e) = W2 (7 * 13 + e) := fun e he => jfl_at _ _ _ he
    have i2 : ∀ s, (s < 26 ∨ 39 ≤ s) → jfl W2 2 (fun e => W2 (7 * 13 + e)) 13 s = W2 s := fun s hc => jfl_off _ _ _ (by omega)
    generalize jfl W2 2 (fun e => W2 (7 * 13 + e)) 13 = W9 at hs9 i1 i2
    refine mj_T.iinc (a := (k : Int)) rfl rfl ?_
    refine mj_T.pl rfl rfl rfl rfl ?_
    refine ih (k + 1) W9 g9 (by omega) hs9 (fun s x1 x2 x3 x4 => by rw [i2 s x1, e1 s (by omega) x4, b2 s (by omega), a2 s (by omega), q2 s x2, f s x1 x2 x3 x4]) (fun e he => ?_) ?_
    · rw [i1 e he]
      have := e2 e he
      omega
    · have := jdg_congr (V := W2) (W := W9) (p := 7) (q := 2) 13 i1
      omega
theorem rp_laysProduct {S N B X V : Nat → Int} {i n : Nat} (g : gN N) (hi : i < n) (hn : N 78 = (n : Int)) (hs : rS S N B T X V h) : mj_Ok 39 250 [.ref 0, .int (jn (i : Int))] h (fun r => ∃ (W : Nat → Int) (h' : mj_H), rS S N B T X W h' ∧ (∀ s, (s < 26 ∨ 39 ≤ s) → (s < 65 ∨ 78 ≤ s) → (s < 91 ∨ 104 ≤ s) → s ≠ 652 → W s = V s) ∧ (∀ e, e < 13 → (W (2 * 13 + e)).natAbs ≤ (169 * 9) ^ 6) ∧ r = (.inl none, h')) := by
  refine mj_Ok.of (M := mj_m250) rfl rfl rfl ?_
  have hn6 := g.2.1.2
  iterate 2 refine mj_T.pl rfl rfl rfl rfl ?_
  refine mj_T.call (ins := .invokevirtual 110) rfl rfl (Nat.le_of_ble_eq_true rfl) (Nat.le_of_ble_eq_true rfl) (by simp [mj_recv, rS_f hs]) rfl (mj_Ok.up (by decide) (jp_empties (D := 0) (rG S N B T X) (p := 2) (by decide) hs)) (fun v' g1 hq' => ?_) (fun i h' hq' => by obtain ⟨_, _, h⟩ := hq'; cases h)
  obtain ⟨_, hs1, hq'⟩ := hq'
  cases hq'
  have q1 : ∀ e, e < 13 → jfl V 2 (fun _ => 0) 13 (2 * 13 + e) = 0 := fun e he => jfl_at _ _ _ he
  have q2 : ∀ s, (s < 26 ∨ 39 ≤ s) → jfl V 2 (fun _ => 0) 13 s = V s := fun s hc => jfl_off _ _ _ (by omega)
  generalize jfl V 2 (fun _ => 0) 13 = W1 at hs1 q1 q2
  iterate 3 refine mj_T.pl rfl rfl rfl rfl ?_
  refine mj_T.call (ins := .invokestatic 104) rfl rfl (Nat.le_of_ble_eq_true rfl) (Nat.le_of_ble_eq_true rfl) rfl rfl (mj_Ok.up (by decide) (jq_slot (D := 0) (p := 2) (i := 0))) (fun v' h' hq' => ?_) (fun i h' hq' => by cases hq')
  cases hq'
  refine mj_T.pl rfl rfl rfl rfl ?_
  refine mj_T.call (ins := .invokevirtual 45) rfl rfl (Nat.le_of_ble_eq_true rfl) (Nat.le_of_ble_eq_true rfl) (by simp [mj_recv, rS_f hs1]) rfl (mj_Ok.up (by decide) (jS_sets (D := 0) (rG S N B T X) (s := 2 * 13 + 0) (v := 1) (by decide) ⟨by decide, by decide⟩ hs1)) (fun v' g2 hq' => ?_) (fun i h' hq' => by obtain ⟨_, _, h⟩ := hq'; cases h)
  obtain ⟨_, hs2, hq'⟩ := hq'
  cases hq'
  have a1 : jvu W1 (2 * 13 + 0) (1) (2 * 13 + 0) = 1 := jvu_at _ _ _
  have a2 : ∀ s, s ≠ 2 * 13 + 0 → jvu W1 (2 * 13 + 0) (1) s = W1 s := fun s hne => jvu_ne _ _ _ hne
  generalize jvu W1 (2 * 13 + 0) (1) = W2 at hs2 a1 a2
  iterate 2 refine mj_T.pl rfl rfl rfl rfl ?_
  exact rp_lp_loop (V0 := V) g hi (by omega) hn (fun W h k1 k2 k3 => ⟨W, h, k1, k2, k3, rfl⟩) n 0 W2 g2 (by omega) hs2 (fun s x1 x2 x3 x4 => by rw [a2 s (by omega), q2 s x1]) (fun e he => by
    by_cases e0 : e = 0
    · subst e0
      rw [a1]
      exact Nat.le_refl _
    · rw [a2 _ (by omega), q1 e he]
      exact Nat.zero_le _) (jdg_of_zero fun e x1 x2 => by rw [a2 _ (by omega), q1 e x2])
end RPU
/-! Calls of the reference: interpolation, whole. -/
theorem lcm_step {A d M : Nat} (hA : A ∣ M) (hd : d ∣ M) (hM : 0 < M) (h0 : 1 ≤ A) : A / Nat.gcd A d * d ∣ M ∧ 1 ≤ A / Nat.gcd A d * d ∧ A / Nat.gcd A d * d ≤ M := by
  have e : A / Nat.gcd A d * d = Nat.lcm A d := by
    unfold Nat.lcm
    exact Nat.div_mul_right_comm (Nat.gcd_dvd_left A d) d
  have h1 : A / Nat.gcd A d * d ∣ M := by
    rw [e]
    exact Nat.lcm_dvd hA hd
  exact ⟨h1, Nat.pos_of_dvd_of_pos h1 hM, Nat.le_of_dvd hM h1⟩
abbrev rI1 : Nat := (169 * 9) ^ 6
abbrev rI2 : Nat := 999 * 9223372036854775808
theorem rp_ip5 : rI1 * rI2 < jB ^ 698 := by decide +kernel
theorem rp_ip6 : ∀ i, i ≤ 6 → (i + 1) * (rI1 * rI2) < jB ^ 698 := by decide +kernel
section RPU
variable {h : mj_H} {tm er : Int} {T : Nat → Int}
theorem rp_i1_loop {S N B X V : Nat → Int} {x n : Nat} (g : gN N) (hn : N 78 = (n : Int)) (hs : rS S N B T X V h) {Q : mj_R → Prop} (hend : ∀ (A : Nat) (l5 : Option Value), 1 ≤ A → A ≤ 6402373705728000 → mj_T 39 mj_m251 77 [some (.ref 0), some (.int (jn (x : Int))), some (.long (jl (A : Int))), none, some (.int (jn ((n : Int)))), l5, none] [] h Q) :
    ∀ (m k A : Nat) (l5 : Option Value), k + m = n → A ∣ 6402373705728000 → 1 ≤ A → mj_T 39 mj_m251 24 [some (.ref 0), some (.int (jn (x : Int))), some (.long (jl (A : Int))), none, some (.int (jn ((k : Int)))), l5, none] [] h Q := by
  have hn6 := g.2.1.2
  intro m
  induction m with
  | zero =>
    intro k A l5 hk hA hA1
    have hkn : k = n := by omega
    subst hkn
    refine mj_T.pl rfl rfl rfl rfl ?_
    refine mj_T.i2l rfl ⟨by omega, by omega⟩ ?_
    refine mj_T.pl rfl rfl rfl rfl ?_
    refine rT_get hs rfl rfl ?_
    refine mj_T.pl rfl rfl rfl rfl ?_
    refine rT_ldN (i := ((78 : Nat) : Int)) hs rfl ⟨by decide, by decide⟩ ?_
    rw [Int.toNat_natCast, hn]
    refine mj_T.lif (a := (k : Int)) (b := (k : Int)) rfl rfl ⟨by omega, by omega⟩ ⟨by omega, by omega⟩ (fun hc => ?_) (fun hc => ?_)
    · exact hend A l5 hA1 (Nat.le_of_dvd (by decide) hA)
    · simp only [jc, decide_eq_false_iff_not] at hc
      omega
  | succ m ih =>
    intro k A l5 hk hA hA1
    have hAm := Nat.le_of_dvd (by decide) hA
    refine mj_T.pl rfl rfl rfl rfl ?_
    refine mj_T.i2l rfl ⟨by omega, by omega⟩ ?_
    refine mj_T.pl rfl rfl rfl rfl ?_
    refine rT_get hs rfl rfl ?_
    refine mj_T.pl rfl rfl rfl rfl ?_
    refine rT_ldN (i := ((78 : Nat) : Int)) hs rfl ⟨by decide, by decide⟩ ?_
    rw [Int.toNat_natCast, hn]
    refine mj_T.lif (a := (k : Int)) (b := (n : Int)) rfl rfl ⟨by omega, by omega⟩ ⟨by omega, by omega⟩ (fun hc => ?_) (fun hc => ?_)
    · simp only [jc, decide_eq_true_eq] at hc
      omega
    iterate 2 refine mj_T.pl rfl rfl rfl rfl ?_
    refine mj_T.call (ins := .invokevirtual 282) rfl rfl (Nat.le_of_ble_eq_true rfl) (Nat.le_of_ble_eq_true rfl) (by simp [mj_recv, rS_f hs]) rfl (mj_Ok.up (by decide) (rp_differences (D := 0) (i := k) g (by omega) hn hs)) (fun v' h' hq' => ?_) (fun i h' hq' => by obtain ⟨_, _, h⟩ := hq'; cases h)
    obtain ⟨d, ⟨d1, d2, d3⟩, hq'⟩ := hq'
    cases hq'
    iterate 4 refine mj_T.pl rfl rfl rfl rfl ?_
    refine mj_T.call (ins := .invokestatic 285) rfl rfl (Nat.le_of_ble_eq_true rfl) (Nat.le_of_ble_eq_true rfl) rfl rfl (mj_Ok.up (by decide) (rp_common (D := 0) (a := (A : Int)) (b := d) (by omega) (by omega))) (fun v' h' hq' => ?_) (fun i h' hq' => by cases hq')
    cases hq'
    rw [Int.natAbs_natCast]
    have hg0 : 0 < Nat.gcd A d.natAbs := Nat.gcd_pos_of_pos_left _ (by omega)
    have hg1 : Nat.gcd A d.natAbs ≤ A := Nat.gcd_le_left _ (by omega)
    obtain ⟨s1, s2, s3⟩ := lcm_step hA d2 (by decide) hA1
    refine mj_T.ldiv (a := (A : Int)) (b := ((Nat.gcd A d.natAbs : Nat) : Int)) rfl ⟨by omega, by omega⟩ ⟨by omega, by omega⟩ (by omega) ?_
    rw [show (A : Int).tdiv ((Nat.gcd A d.natAbs : Nat) : Int) = ((A / Nat.gcd A d.natAbs : Nat) : Int) from rfl]
    have t69 : mj_T 39 mj_m251 69 [some (.ref 0), some (.int (jn (x : Int))), some (.long (jl (A : Int))), none, some (.int (jn ((k : Int)))), some (.long (jl d)), none] [.long (jl ((d.natAbs : Nat) : Int)), .long (jl ((A / Nat.gcd A d.natAbs : Nat) : Int))] h Q := by
      refine mj_T.lmul rfl ?_
      rw [← Int.natCast_mul]
      refine mj_T.pl rfl rfl rfl rfl ?_
      refine mj_T.iinc (a := (k : Int)) rfl rfl ?_
      refine mj_T.pl rfl rfl rfl rfl ?_
      exact ih (k + 1) _ _ (by omega) s1 s2
    iterate 2 refine mj_T.pl rfl rfl rfl rfl ?_
    refine mj_T.lif (a := d) (b := 0) rfl rfl ⟨by omega, by omega⟩ ⟨by decide, by decide⟩ (fun hc2 => ?_) (fun hc2 => ?_)
    · simp only [jc, decide_eq_true_eq] at hc2
      have e : d = ((d.natAbs : Nat) : Int) := by omega
      refine mj_T.pl rfl rfl rfl rfl ?_
      refine mj_T.eq (st2 := [.long (jl ((d.natAbs : Nat) : Int)), .long (jl ((A / Nat.gcd A d.natAbs : Nat) : Int))]) t69 rfl rfl (by rw [← e]; rfl) rfl
    · simp only [jc, decide_eq_false_iff_not] at hc2
      have e : -d = ((d.natAbs : Nat) : Int) := by omega
      refine mj_T.pl rfl rfl rfl rfl ?_
      refine mj_T.lneg rfl ?_
      refine mj_T.pl rfl rfl rfl rfl ?_
      refine mj_T.eq (st2 := [.long (jl ((d.natAbs : Nat) : Int)), .long (jl ((A / Nat.gcd A d.natAbs : Nat) : Int))]) t69 rfl rfl (by rw [← e]; rfl) rfl
theorem rp_i2_loop {S N B X V0 : Nat → Int} {x A k b : Nat} (hb1 : b + rI1 * rI2 < jB ^ 698) (hQ : ∀ e, e < 13 → (V0 (2 * 13 + e)).natAbs ≤ rI1) (hC : (V0 661).natAbs ≤ rI2) (hA : ∀ e, e < 13 → (V0 (0 * 13 + e)).natAbs ≤ b) {Q : mj_R → Prop} (hend : ∀ (V : Nat → Int) (h : mj_H), rS S N B T X V h → (∀ e, e < 13 → (V (0 * 13 + e)).natAbs ≤ b + rI1 * rI2) → mj_T 39 mj_m251 208 [some (.ref 0), some (.int (jn (x : Int))), some (.long (jl (A : Int))), none, some (.int (jn ((k : Int)))), some (.int (jn 13)), none] [] h Q) :
    ∀ (m j : Nat) (V : Nat → Int) (h : mj_H), j + m = 13 → rS S N B T X V h → V 661 = V0 661 → (∀ e, j ≤ e → e < 13 → V (2 * 13 + e) = V0 (2 * 13 + e) ∧ V (0 * 13 + e) = V0 (0 * 13 + e)) → (∀ e, e < j → (V (0 * 13 + e)).natAbs ≤ b + rI1 * rI2) → mj_T 39 mj_m251 153 [some (.ref 0), some (.int (jn (x : Int))), some (.long (jl (A : Int))), none, some (.int (jn ((k : Int)))), some (.int (jn (j : Int))), none] [] h Q := by
  intro m
  induction m with
  | zero =>
    intro j V h hj hs c1 c2 c3
    have hj : j = 13 := by omega
    subst hj
    iterate 2 refine mj_T.pl rfl rfl rfl rfl ?_
    refine mj_T.icmp (a := ((13 : Nat) : Int)) (b := 13) rfl ⟨by decide, by decide⟩ ⟨by decide, by decide⟩ (fun hc => ?_) (fun hc => ?_)
    · exact hend V h hs c3
    · simp [jc] at hc
  | succ m ih =>
    intro j V h hj hs c1 c2 c3
    iterate 2 refine mj_T.pl rfl rfl rfl rfl ?_
    refine mj_T.icmp (a := (j : Int)) (b := 13) rfl ⟨by omega, by omega⟩ ⟨by decide, by decide⟩ (fun hc => ?_) (fun hc => ?_)
    · simp only [jc, decide_eq_true_eq] at hc
      omega
    obtain ⟨y1, y2⟩ := c2 j (Nat.le_refl _) (by omega)
    have hm1 : (V (2 * 13 + j) * V 661).natAbs ≤ rI1 * rI2 := by
      rw [y1, c1, Int.natAbs_mul]
      exact Nat.mul_le_mul (hQ j (by omega)) hC
    iterate 3 refine mj_T.pl rfl rfl rfl rfl ?_
    refine mj_T.call (ins := .invokestatic 104) rfl rfl (Nat.le_of_ble_eq_true rfl) (Nat.le_of_ble_eq_true rfl) rfl rfl (mj_Ok.up (by decide) (jq_slot (D := 0) (p := 2) (i := j))) (fun v' h' hq' => ?_) (fun i h' hq' => by cases hq')
    cases hq'
    iterate 2 refine mj_T.pl rfl rfl rfl rfl ?_
    refine mj_T.call (ins := .invokestatic 104) rfl rfl (Nat.le_of_ble_eq_true rfl) (Nat.le_of_ble_eq_true rfl) rfl rfl (mj_Ok.up (by decide) (jq_slot (D := 0) (p := 2) (i := j))) (fun v' h' hq' => ?_) (fun i h' hq' => by cases hq')
    cases hq'
    refine mj_T.pl rfl rfl rfl rfl ?_
    refine mj_T.call (ins := .invokevirtual 117) rfl rfl (Nat.le_of_ble_eq_true rfl) (Nat.le_of_ble_eq_true rfl) (by simp [mj_recv, rS_f hs]) rfl (mj_Ok.up (by decide) (jS_mul (D := 0) (V := V) (rG S N B T X) (to := 2 * 13 + j) (a := 2 * 13 + j) (b := 661) (by omega) (by omega) (by decide) (jnl_of_lt hm1 rp_ip5) hs)) (fun v' g1 hq' => ?_) (fun i h' hq' => by obtain ⟨_, _, h⟩ := hq'; cases h)
    obtain ⟨_, hs1, hq'⟩ := hq'
    cases hq'
    have a1 : jvu V (2 * 13 + j) (V (2 * 13 + j) * V 661) (2 * 13 + j) = V (2 * 13 + j) * V 661 := jvu_at _ _ _
    have a2 : ∀ s, s ≠ 2 * 13 + j → jvu V (2 * 13 + j) (V (2 * 13 + j) * V 661) s = V s := fun s hne => jvu_ne _ _ _ hne
    generalize jvu V (2 * 13 + j) (V (2 * 13 + j) * V 661) = W1 at hs1 a1 a2
    iterate 3 refine mj_T.pl rfl rfl rfl rfl ?_
    refine mj_T.call (ins := .invokestatic 104) rfl rfl (Nat.le_of_ble_eq_true rfl) (Nat.le_of_ble_eq_true rfl) rfl rfl (mj_Ok.up (by decide) (jq_slot (D := 0) (p := 0) (i := j))) (fun v' h' hq' => ?_) (fun i h' hq' => by cases hq')
    cases hq'
    iterate 2 refine mj_T.pl rfl rfl rfl rfl ?_
    refine mj_T.call (ins := .invokestatic 104) rfl rfl (Nat.le_of_ble_eq_true rfl) (Nat.le_of_ble_eq_true rfl) rfl rfl (mj_Ok.up (by decide) (jq_slot (D := 0) (p := 0) (i := j))) (fun v' h' hq' => ?_) (fun i h' hq' => by cases hq')
    cases hq'
    iterate 2 refine mj_T.pl rfl rfl rfl rfl ?_
    refine mj_T.call (ins := .invokestatic 104) rfl rfl (Nat.le_of_ble_eq_true rfl) (Nat.le_of_ble_eq_true rfl) rfl rfl (mj_Ok.up (by decide) (jq_slot (D := 0) (p := 2) (i := j))) (fun v' h' hq' => ?_) (fun i h' hq' => by cases hq')
    cases hq'
    refine mj_T.pl rfl rfl rfl rfl ?_
    have hm2 : (W1 (0 * 13 + j) + 1 * W1 (2 * 13 + j)).natAbs ≤ b + rI1 * rI2 := by
      rw [a1, a2 _ (by omega), y2, Int.one_mul]
      have k1 := hA j (by omega)
      have k2 := Int.natAbs_add_le (V0 (0 * 13 + j)) (V (2 * 13 + j) * V 661)
      omega
    refine mj_T.call (ins := .invokevirtual 107) rfl rfl (Nat.le_of_ble_eq_true rfl) (Nat.le_of_ble_eq_true rfl) (by simp [mj_recv, rS_f hs1]) rfl (mj_Ok.up (by decide) (jS_adds (D := 0) (V := W1) (rG S N B T X) (to := 0 * 13 + j) (a := 0 * 13 + j) (b := 2 * 13 + j) (f := 1) (by omega) (by omega) (by omega) (Or.inl rfl) (jnl_of_lt hm2 hb1) hs1)) (fun v' g2 hq' => ?_) (fun i h' hq' => by obtain ⟨_, _, h⟩ := hq'; cases h)
    obtain ⟨_, hs2, hq'⟩ := hq'
    cases hq'
    have b1 : jvu W1 (0 * 13 + j) (W1 (0 * 13 + j) + 1 * W1 (2 * 13 + j)) (0 * 13 + j) = W1 (0 * 13 + j) + 1 * W1 (2 * 13 + j) := jvu_at _ _ _
    have b2 : ∀ s, s ≠ 0 * 13 + j → jvu W1 (0 * 13 + j) (W1 (0 * 13 + j) + 1 * W1 (2 * 13 + j)) s = W1 s := fun s hne => jvu_ne _ _ _ hne
    generalize jvu W1 (0 * 13 + j) (W1 (0 * 13 + j) + 1 * W1 (2 * 13 + j)) = W2 at hs2 b1 b2
    refine mj_T.iinc (a := (j : Int)) rfl rfl ?_
    refine mj_T.pl rfl rfl rfl rfl ?_
    refine ih (j + 1) W2 g2 (by omega) hs2 (by rw [b2 _ (by omega), a2 _ (by omega), c1]) (fun e e1 e2 => ?_) (fun e he => ?_)
    · obtain ⟨z1, z2⟩ := c2 e (by omega) e2
      exact ⟨by rw [b2 _ (by omega), a2 _ (by omega), z1], by rw [b2 _ (by omega), a2 _ (by omega), z2]⟩
    · by_cases q : e = j
      · subst q
        rw [b1]
        exact hm2
      · rw [b2 _ (by omega), a2 _ (by omega)]
        exact c3 e (by omega)
theorem rp_i3_loop {S N B X : Nat → Int} {x n A : Nat} (g : gN N) (hn : N 78 = (n : Int)) {Q : mj_R → Prop} (hend : ∀ (V : Nat → Int) (h : mj_H) (l5 : Option Value), rS S N B T X V h → mj_T 39 mj_m251 214 [some (.ref 0), some (.int (jn (x : Int))), some (.long (jl (A : Int))), none, some (.int (jn ((n : Int)))), l5, none] [] h Q) (hAA : A ≤ 6402373705728000) :
    ∀ (m k : Nat) (V : Nat → Int) (h : mj_H) (l5 : Option Value), k + m = n → rS S N B T X V h → (∀ e, e < 13 → (V (0 * 13 + e)).natAbs ≤ k * (rI1 * rI2)) → mj_T 39 mj_m251 85 [some (.ref 0), some (.int (jn (x : Int))), some (.long (jl (A : Int))), none, some (.int (jn ((k : Int)))), l5, none] [] h Q := by
  have hn6 := g.2.1.2
  intro m
  induction m with
  | zero =>
    intro k V h l5 hk hs c1
    have hkn : k = n := by omega
    subst hkn
    refine mj_T.pl rfl rfl rfl rfl ?_
    refine mj_T.i2l rfl ⟨by omega, by omega⟩ ?_
    refine mj_T.pl rfl rfl rfl rfl ?_
    refine rT_get hs rfl rfl ?_
    refine mj_T.pl rfl rfl rfl rfl ?_
    refine rT_ldN (i := ((78 : Nat) : Int)) hs rfl ⟨by decide, by decide⟩ ?_
    rw [Int.toNat_natCast, hn]
    refine mj_T.lif (a := (k : Int)) (b := (k : Int)) rfl rfl ⟨by omega, by omega⟩ ⟨by omega, by omega⟩ (fun hc => ?_) (fun hc => ?_)
    · exact hend V h l5 hs
    · simp only [jc, decide_eq_false_iff_not] at hc
      omega
  | succ m ih =>
    intro k V h l5 hk hs c1
    refine mj_T.pl rfl rfl rfl rfl ?_
    refine mj_T.i2l rfl ⟨by omega, by omega⟩ ?_
    refine mj_T.pl rfl rfl rfl rfl ?_
    refine rT_get hs rfl rfl ?_
    refine mj_T.pl rfl rfl rfl rfl ?_
    refine rT_ldN (i := ((78 : Nat) : Int)) hs rfl ⟨by decide, by decide⟩ ?_
    rw [Int.toNat_natCast, hn]
    refine mj_T.lif (a := (k : Int)) (b := (n : Int)) rfl rfl ⟨by omega, by omega⟩ ⟨by omega, by omega⟩ (fun hc => ?_) (fun hc => ?_)
    · simp only [jc, decide_eq_true_eq] at hc
      omega
    iterate 2 refine mj_T.pl rfl rfl rfl rfl ?_
    refine mj_T.call (ins := .invokevirtual 289) rfl rfl (Nat.le_of_ble_eq_true rfl) (Nat.le_of_ble_eq_true rfl) (by simp [mj_recv, rS_f hs]) rfl (mj_Ok.up (by decide) (rp_laysProduct (i := k) g (by omega) hn hs)) (fun v' g1 hq' => ?_) (fun i h' hq' => by obtain ⟨_, _, _, _, _, h⟩ := hq'; cases h)
    obtain ⟨W1, _, hs1, f1, q1, hq'⟩ := hq'
    cases hq'
    have gv := (g.2.2.1 k (by omega)).2
    iterate 3 refine mj_T.pl rfl rfl rfl rfl ?_
    refine rT_get hs1 rfl rfl ?_
    iterate 2 refine mj_T.pl rfl rfl rfl rfl ?_
    refine mj_T.iadd (a := 85) (b := (k : Int)) rfl ?_
    rw [show (85 : Int) + (k : Int) = ((85 + k : Nat) : Int) by omega]
    refine rT_ldN hs1 rfl ⟨by omega, by omega⟩ ?_
    rw [Int.toNat_natCast]
    refine mj_T.call (ins := .invokevirtual 45) rfl rfl (Nat.le_of_ble_eq_true rfl) (Nat.le_of_ble_eq_true rfl) (by simp [mj_recv, rS_f hs1]) rfl (mj_Ok.up (by decide) (jS_sets (D := 0) (rG S N B T X) (s := 661) (v := N (85 + k)) (by decide) ⟨by omega, by omega⟩ hs1)) (fun v' g2 hq' => ?_) (fun i h' hq' => by obtain ⟨_, _, h⟩ := hq'; cases h)
    obtain ⟨_, hs2, hq'⟩ := hq'
    cases hq'
    have a1 : jvu W1 (661) (N (85 + k)) (661) = N (85 + k) := jvu_at _ _ _
    have a2 : ∀ s, s ≠ 661 → jvu W1 (661) (N (85 + k)) s = W1 s := fun s hne => jvu_ne _ _ _ hne
    generalize jvu W1 (661) (N (85 + k)) = W2 at hs2 a1 a2
    iterate 5 refine mj_T.pl rfl rfl rfl rfl ?_
    refine mj_T.call (ins := .invokevirtual 282) rfl rfl (Nat.le_of_ble_eq_true rfl) (Nat.le_of_ble_eq_true rfl) (by simp [mj_recv, rS_f hs2]) rfl (mj_Ok.up (by decide) (rp_differences (D := 0) (i := k) g (by omega) hn hs2)) (fun v' h' hq' => ?_) (fun i h' hq' => by obtain ⟨_, _, h⟩ := hq'; cases h)
    obtain ⟨d, ⟨d1, d2, d3⟩, hq'⟩ := hq'
    cases hq'
    refine mj_T.ldv rfl (fun e => d1 ((jl_eq ⟨by omega, by omega⟩ ⟨by decide, by decide⟩).mp (e.trans (show (0 : Int64) = jl 0 from rfl)))) (fun w => ?_)
    rw [← jl_of w]
    have hw := jR_of w
    generalize w.toInt = w at hw
    refine mj_T.call (ins := .invokevirtual 45) rfl rfl (Nat.le_of_ble_eq_true rfl) (Nat.le_of_ble_eq_true rfl) (by simp [mj_recv, rS_f hs2]) rfl (mj_Ok.up (by decide) (jS_sets (D := 0) (rG S N B T X) (s := 662) (v := w) (by decide) hw hs2)) (fun v' g3 hq' => ?_) (fun i h' hq' => by obtain ⟨_, _, h⟩ := hq'; cases h)
    obtain ⟨_, hs3, hq'⟩ := hq'
    cases hq'
    have b1 : jvu W2 (662) (w) (662) = w := jvu_at _ _ _
    have b2 : ∀ s, s ≠ 662 → jvu W2 (662) (w) s = W2 s := fun s hne => jvu_ne _ _ _ hne
    generalize jvu W2 (662) (w) = W3 at hs3 b1 b2
    have hm : (W3 661 * W3 662).natAbs ≤ rI2 := by
      rw [b1, b2 _ (by decide), a1, Int.natAbs_mul]
      exact Nat.mul_le_mul (by omega) (by have := hw.1; have := hw.2; omega)
    iterate 4 refine mj_T.pl rfl rfl rfl rfl ?_
    refine mj_T.call (ins := .invokevirtual 117) rfl rfl (Nat.le_of_ble_eq_true rfl) (Nat.le_of_ble_eq_true rfl) (by simp [mj_recv, rS_f hs3]) rfl (mj_Ok.up (by decide) (jS_mul (D := 0) (V := W3) (rG S N B T X) (to := 661) (a := 661) (b := 662) (by decide) (by decide) (by decide) (jnl_of_lt hm rp_ip3) hs3)) (fun v' g4 hq' => ?_) (fun i h' hq' => by obtain ⟨_, _, h⟩ := hq'; cases h)
    obtain ⟨_, hs4, hq'⟩ := hq'
    cases hq'
    have e1 : jvu W3 661 (W3 661 * W3 662) 661 = W3 661 * W3 662 := jvu_at _ _ _
    have e2 : ∀ s, s ≠ 661 → jvu W3 661 (W3 661 * W3 662) s = W3 s := fun s hne => jvu_ne _ _ _ hne
    generalize jvu W3 661 (W3 661 * W3 662) = W4 at hs4 e1 e2
    iterate 2 refine mj_T.pl rfl rfl rfl rfl ?_
    have c0 : ∀ e, e < 13 → (W4 (0 * 13 + e)).natAbs ≤ k * (rI1 * rI2) := fun e he => by rw [e2 _ (by omega), b2 _ (by omega), a2 _ (by omega), f1 _ (by omega) (by omega) (by omega) (by omega)]; exact c1 e he
    have hsum : k * (rI1 * rI2) + rI1 * rI2 = (k + 1) * (rI1 * rI2) := (Nat.succ_mul _ _).symm
    refine rp_i2_loop (V0 := W4) (b := k * (rI1 * rI2)) (by rw [hsum]; exact rp_ip6 k (by omega)) (fun e he => by rw [e2 _ (by omega), b2 _ (by omega), a2 _ (by omega)]; exact q1 e he) (by rw [e1]; exact hm) c0 (fun W5 g5 hs5 c5 => ?_) 13 0 W4 g4 (by omega) hs4 rfl (fun e _ _ => ⟨rfl, rfl⟩) (fun e he => absurd he (by omega))
    refine mj_T.iinc (a := (k : Int)) rfl rfl ?_
    refine mj_T.pl rfl rfl rfl rfl ?_
    exact ih (k + 1) W5 g5 _ (by omega) hs5 (fun e he => by rw [← hsum]; exact c5 e he)
theorem rp_i4_loop {S N B X : Nat → Int} {x A : Nat} {l5 : Option Value} {c : Int} (hc0 : c ≠ 0) {Q : mj_R → Prop} (hend : ∀ (V : Nat → Int) (h : mj_H), rS S N B T X V h → V 662 = c → mj_T 39 mj_m251 274 [some (.ref 0), some (.int (jn (x : Int))), some (.long (jl (A : Int))), none, some (.int (jn (-1))), l5, none] [] h Q) :
    ∀ (m : Nat) (V : Nat → Int) (h : mj_H), m ≤ 13 → rS S N B T X V h → V 662 = c → mj_T 39 mj_m251 250 [some (.ref 0), some (.int (jn (x : Int))), some (.long (jl (A : Int))), none, some (.int (jn ((m : Int) - 1))), l5, none] [] h Q := by
  intro m
  induction m with
  | zero =>
    intro V h hm hs hc
    refine mj_T.pl rfl rfl rfl rfl ?_
    refine mj_T.if0 (a := ((0 : Nat) : Int) - 1) rfl ⟨by decide, by decide⟩ (fun hc => ?_) (fun hc => ?_)
    · exact hend V h hs (by assumption)
    · simp [jc] at hc
  | succ m ih =>
    intro V h hm hs hc
    refine mj_T.pl rfl rfl rfl rfl ?_
    refine mj_T.if0 (a := ((m + 1 : Nat) : Int) - 1) rfl ⟨by omega, by omega⟩ (fun hc2 => ?_) (fun hc2 => ?_)
    · simp only [jc, decide_eq_true_eq] at hc2
      omega
    rw [show ((m + 1 : Nat) : Int) - 1 = (m : Int) by omega]
    iterate 3 refine mj_T.pl rfl rfl rfl rfl ?_
    refine mj_T.call (ins := .invokestatic 104) rfl rfl (Nat.le_of_ble_eq_true rfl) (Nat.le_of_ble_eq_true rfl) rfl rfl (mj_Ok.up (by decide) (jq_slot (D := 0) (p := 0) (i := m))) (fun v' h' hq' => ?_) (fun i h' hq' => by cases hq')
    cases hq'
    refine mj_T.pl rfl rfl rfl rfl ?_
    refine mj_T.call (ins := .invokevirtual 133) rfl rfl (Nat.le_of_ble_eq_true rfl) (Nat.le_of_ble_eq_true rfl) (by simp [mj_recv, rS_f hs]) rfl (mj_Ok.up (by decide) (jp_exact (D := 0) (V := V) (rG S N B T X) (i := 0 * 13 + m) (j := 662) (by omega) (by decide) (by omega) (by omega) (by omega) (by decide) (by rw [hc]; exact hc0) hs)) (fun v' g1 hq' => ?_) (fun i h' hq' => by obtain ⟨_, _, _, _, _, h⟩ := hq'; cases h)
    obtain ⟨W1, _, hs1, _, z2, hq'⟩ := hq'
    cases hq'
    refine mj_T.iinc (a := (m : Int)) rfl rfl ?_
    refine mj_T.pl rfl rfl rfl rfl ?_
    exact ih W1 g1 (by omega) hs1 (by rw [z2 662 (by omega) (by decide) (by decide), hc])
theorem rp_interpolate {x : Int} (hx : jr x) (hI : jI tm er T h) : mj_Ok 40 251 [.ref 0, .int (jn x)] h (rJ tm er T) := by
  refine mj_Ok.of (M := mj_m251) rfl rfl rfl ?_
  obtain ⟨S, N, B, X, V, hs, K⟩ := hI
  iterate 2 refine mj_T.pl rfl rfl rfl rfl ?_
  refine rT_put (v := 0) hs rfl rfl (by decide) rfl (fun g1 hs1 => ?_)
  have K1 := K.put (k := 3) (v := 0) ⟨by decide, by decide⟩ (by decide) (by decide) (by decide) (by decide) (by decide)
  generalize jvu S 3 0 = S1 at hs1 K1
  refine mj_T.pl rfl rfl rfl rfl ?_
  refine mj_T.call (ins := .invokestatic 181) rfl rfl (Nat.le_of_ble_eq_true rfl) (Nat.le_of_ble_eq_true rfl) rfl rfl (mj_Ok.up (by decide) (rp_isRegister (D := 0) hx)) (fun v' h' hq' => ?_) (fun i h' hq' => by rcases hq' with ⟨_, _, h⟩ | ⟨_, h⟩ <;> cases h)
  rcases hq' with ⟨x1, x2, hq'⟩ | ⟨_, hq'⟩
  case' inr =>
    cases hq'
    refine mj_T.if0 (a := 0) rfl ⟨by decide, by decide⟩ (fun hc => ?_) (fun hc => ?_)
    · simp [jc] at hc
    iterate 2 refine mj_T.pl rfl rfl rfl rfl ?_
    refine mj_T.call (ins := .invokevirtual 198) rfl rfl (Nat.le_of_ble_eq_true rfl) (Nat.le_of_ble_eq_true rfl) (by simp [mj_recv, rS_f hs1]) rfl (mj_Ok.up (by decide) (rp_fails (D := 0) (c := 1) hs1)) (fun v' g2 hq' => ?_) (fun i h' hq' => by obtain ⟨_, _, h⟩ := hq'; cases h)
    obtain ⟨_, hs2, hq'⟩ := hq'
    cases hq'
    refine mj_T.i2l rfl ⟨by decide, by decide⟩ ?_
    exact mj_T.ret rfl rfl rfl ⟨0, g2, rfl, ⟨_, N, B, X, V, hs2, K1.put ⟨by decide, by decide⟩ (by decide) (by decide) (by decide) (by decide) (by decide)⟩⟩
  cases hq'
  refine mj_T.if0 (a := 1) rfl ⟨by decide, by decide⟩ (fun hc => ?_) (fun hc => ?_)
  rotate_left
  · simp [jc] at hc
  obtain ⟨x, rfl⟩ := Int.eq_ofNat_of_zero_le x1
  obtain ⟨n, hn⟩ := Int.eq_ofNat_of_zero_le K1.1.2.1.1
  iterate 4 refine mj_T.pl rfl rfl rfl rfl ?_
  refine rp_i1_loop K1.1 hn hs1 (fun A l5 hA1 hA2 => ?_) n 0 1 none (by omega) ⟨_, (Nat.one_mul _).symm⟩ (Nat.le_refl _)
  iterate 2 refine mj_T.pl rfl rfl rfl rfl ?_
  refine mj_T.call (ins := .invokevirtual 110) rfl rfl (Nat.le_of_ble_eq_true rfl) (Nat.le_of_ble_eq_true rfl) (by simp [mj_recv, rS_f hs1]) rfl (mj_Ok.up (by decide) (jp_empties (D := 0) (rG S1 N B T X) (p := 0) (by decide) hs1)) (fun v' g3 hq' => ?_) (fun i h' hq' => by obtain ⟨_, _, h⟩ := hq'; cases h)
  obtain ⟨_, hs3, hq'⟩ := hq'
  cases hq'
  have q1 : ∀ e, e < 13 → jfl V 0 (fun _ => 0) 13 (0 * 13 + e) = 0 := fun e he => jfl_at _ _ _ he
  generalize jfl V 0 (fun _ => 0) 13 = W3 at hs3 q1
  iterate 2 refine mj_T.pl rfl rfl rfl rfl ?_
  refine rp_i3_loop K1.1 hn (fun V2 h2 m5 hs2 => ?_) hA2 n 0 _ _ _ (by omega) hs3 (fun e he => by rw [q1 e he]; exact Nat.zero_le _)
  iterate 3 refine mj_T.pl rfl rfl rfl rfl ?_
  refine mj_T.call (ins := .invokevirtual 130) rfl rfl (Nat.le_of_ble_eq_true rfl) (Nat.le_of_ble_eq_true rfl) (by simp [mj_recv, rS_f hs2]) rfl (mj_Ok.up (by decide) (jp_contents (D := 0) (rG S1 N B T X) (to := 656) (p := 0) (by decide) (by decide) (by decide) (by decide) (by decide) (by decide) (by decide) hs2)) (fun v' g4 hq' => ?_) (fun i h' hq' => by obtain ⟨_, _, _, _, _, h⟩ := hq'; cases h)
  obtain ⟨W4, _, hs4, _, _, hq'⟩ := hq'
  cases hq'
  iterate 3 refine mj_T.pl rfl rfl rfl rfl ?_
  refine mj_T.call (ins := .invokevirtual 45) rfl rfl (Nat.le_of_ble_eq_true rfl) (Nat.le_of_ble_eq_true rfl) (by simp [mj_recv, rS_f hs4]) rfl (mj_Ok.up (by decide) (jS_sets (D := 0) (rG S1 N B T X) (s := 661) (v := (A : Int)) (by decide) ⟨by omega, by omega⟩ hs4)) (fun v' g5 hq' => ?_) (fun i h' hq' => by obtain ⟨_, _, h⟩ := hq'; cases h)
  obtain ⟨_, hs5, hq'⟩ := hq'
  cases hq'
  have u1 : jvu W4 661 (A : Int) 661 = (A : Int) := jvu_at _ _ _
  generalize jvu W4 661 (A : Int) = W5 at hs5 u1
  iterate 4 refine mj_T.pl rfl rfl rfl rfl ?_
  refine mj_T.call (ins := .invokevirtual 127) rfl rfl (Nat.le_of_ble_eq_true rfl) (Nat.le_of_ble_eq_true rfl) (by simp [mj_recv, rS_f hs5]) rfl (mj_Ok.up (by decide) (jp_commons (D := 0) (V := W5) (rG S1 N B T X) (to := 662) (i := 661) (j := 656) (by decide) (by decide) (by decide) (by decide) (by decide) (by decide) (by decide) hs5)) (fun v' g6 hq' => ?_) (fun i h' hq' => by obtain ⟨_, _, _, _, _, h⟩ := hq'; cases h)
  obtain ⟨W6, _, hs6, y1, _, hq'⟩ := hq'
  cases hq'
  have y0 : W6 662 ≠ 0 := by
    rw [y1, u1, Int.natAbs_natCast]
    have := Nat.gcd_pos_of_pos_left (m := A) (W5 656).natAbs (by omega)
    omega
  have hdl := jdg_le W6 0 13
  iterate 2 refine mj_T.pl rfl rfl rfl rfl ?_
  refine mj_T.call (ins := .invokevirtual 114) rfl rfl (Nat.le_of_ble_eq_true rfl) (Nat.le_of_ble_eq_true rfl) (by simp [mj_recv, rS_f hs6]) rfl (mj_Ok.up (by decide) (jp_degreeOf (D := 0) (rG S1 N B T X) (p := 0) (by decide) hs6)) (fun v' h' hq' => ?_) (fun i h' hq' => by cases hq')
  cases hq'
  refine mj_T.pl rfl rfl rfl rfl ?_
  refine rp_i4_loop (c := W6 662) y0 (fun V3 h3 hs3 hc3 => ?_) (jdg W6 0 13) _ _ hdl hs6 rfl
  iterate 3 refine mj_T.pl rfl rfl rfl rfl ?_
  refine mj_T.call (ins := .invokevirtual 133) rfl rfl (Nat.le_of_ble_eq_true rfl) (Nat.le_of_ble_eq_true rfl) (by simp [mj_recv, rS_f hs3]) rfl (mj_Ok.up (by decide) (jp_exact (D := 0) (V := V3) (rG S1 N B T X) (i := 661) (j := 662) (by decide) (by decide) (by decide) (by decide) (by decide) (by decide) (by rw [hc3]; exact y0) hs3)) (fun v' g7 hq' => ?_) (fun i h' hq' => by obtain ⟨_, _, _, _, _, h⟩ := hq'; cases h)
  obtain ⟨W7, _, hs7, _, _, hq'⟩ := hq'
  cases hq'
  iterate 2 refine mj_T.pl rfl rfl rfl rfl ?_
  refine mj_T.call (ins := .invokevirtual 191) rfl rfl (Nat.le_of_ble_eq_true rfl) (Nat.le_of_ble_eq_true rfl) (by simp [mj_recv, rS_f hs7]) rfl (mj_Ok.up (by decide) (rp_asLong (D := 0) (s := 661) (by decide) hs7)) (fun v' h' hq' => ?_) (fun i h' hq' => by cases hq')
  cases hq'
  refine mj_T.pl rfl rfl rfl rfl ?_
  iterate 4 refine mj_T.pl rfl rfl rfl rfl ?_
  refine mj_T.call (ins := .invokevirtual 219) rfl rfl (Nat.le_of_ble_eq_true rfl) (Nat.le_of_ble_eq_true rfl) (by simp [mj_recv, rS_f hs7]) rfl (mj_Ok.up (by decide) (rp_puts (D := 0) (r := x) (p := 0) (c := 2) (by omega) (by decide) ⟨by decide, by decide⟩ K1 hs7)) (fun v' h' hq' => ?_) (fun i h' hq' => by obtain ⟨_, _, _, h, _⟩ := hq'; cases h)
  obtain ⟨z9, h9, hz9, e9, ⟨S9, N9, B9, X9, V9, r9, K9⟩⟩ := hq'
  cases e9
  iterate 2 refine mj_T.pl rfl rfl rfl rfl ?_
  refine rT_get r9 rfl rfl ?_
  refine mj_T.if0 (a := S9 3) rfl (K9.2.2.2.2.2.2.1 3) (fun hc => ?_) (fun hc => ?_)
  · refine mj_T.pl rfl rfl rfl rfl ?_
    exact mj_T.ret rfl rfl rfl ⟨0, _, rfl, ⟨_, _, _, _, _, r9, K9⟩⟩
  · iterate 2 refine mj_T.pl rfl rfl rfl rfl ?_
    exact mj_T.ret rfl rfl rfl ⟨_, _, rfl, ⟨_, _, _, _, _, r9, K9⟩⟩
end RPU
/-! Calls of the reference: texts written, shares, errors. -/
section RPU
variable {h : mj_H} {tm er : Int} {T : Nat → Int}
theorem jK.clear {S N B : Nat → Int} (K : jK tm er S N B T) : jK 0 er (jvu S 9 0) N B T := by
  obtain ⟨k1, k2, k3, k4, k5, k6, k7, k8, k9⟩ := K
  have e : ∀ x, x ≠ 9 → jvu S 9 0 x = S x := fun x hx => jvu_ne _ _ _ hx
  refine ⟨k1, by rw [e 2 (by decide)]; exact k2, fun j hj => k3 j (by rw [e 2 (by decide)] at hj; exact hj), ⟨jvu_at _ _ _, by decide, by decide⟩, by rw [e 12 (by decide)]; exact k5, by rw [e 15 (by decide)]; exact k6, fun x => ?_, by rw [e 13 (by decide)]; exact k8, fun j hj => absurd hj (by omega)⟩
  by_cases hx : x = 9
  · subst hx
    rw [jvu_at]
    exact ⟨by decide, by decide⟩
  · rw [e x hx]
    exact k7 x
theorem rp_clearText (hI : jI tm er T h) : mj_Ok 40 286 [.ref 0] h (fun r => ∃ h', r = (.inl (some (.int (jn tm))), h') ∧ jI 0 er T h') := by
  refine mj_Ok.of (M := mj_m286) rfl rfl rfl ?_
  obtain ⟨S, N, B, X, V, hs, K⟩ := hI
  iterate 2 refine mj_T.pl rfl rfl rfl rfl ?_
  refine rT_put (v := 0) hs rfl rfl (by decide) rfl (fun g1 hs1 => ?_)
  have K1 := K.put (k := 3) (v := 0) ⟨by decide, by decide⟩ (by decide) (by decide) (by decide) (by decide) (by decide)
  generalize jvu S 3 0 = S1 at hs1 K1
  have k4 := K1.2.2.2.1
  refine mj_T.pl rfl rfl rfl rfl ?_
  refine rT_get hs1 rfl rfl ?_
  rw [k4.1]
  iterate 3 refine mj_T.pl rfl rfl rfl rfl ?_
  refine rT_put (v := 0) hs1 rfl rfl (by decide) rfl (fun h2 hs2 => ?_)
  refine mj_T.pl rfl rfl rfl rfl ?_
  exact mj_T.ret rfl rfl rfl ⟨h2, rfl, ⟨_, _, _, _, _, hs2, K1.clear⟩⟩
theorem rp_errorPosition  (hI : jI tm er T h) : mj_Ok 40 287 [.ref 0] h (fun r => ∃ h2, r = (.inl (some (.int (jn er))), h2) ∧ jI tm er T h2) := by
  refine mj_Ok.of (M := mj_m287) rfl rfl rfl ?_
  obtain ⟨S, N, B, X, V, hs, K⟩ := hI
  iterate 2 refine mj_T.pl rfl rfl rfl rfl ?_
  refine rT_put (v := 0) hs rfl rfl (by decide) rfl (fun g2 hs2 => ?_)
  have K2 := K.put (k := 3) (v := 0) ⟨by decide, by decide⟩ (by decide) (by decide) (by decide) (by decide) (by decide)
  generalize jvu S 3 0 = S2 at hs2 K2
  have k5 := K2.2.2.2.2.1
  refine mj_T.pl rfl rfl rfl rfl ?_
  refine rT_get hs2 rfl rfl ?_
  rw [k5]
  exact mj_T.ret rfl rfl rfl ⟨_, rfl, ⟨_, _, _, _, _, hs2, K2⟩⟩
theorem rp_writes {S N B X V : Nat → Int} {D w : Nat} {c : Int} (hw : w < 600) (hs : rS (jvu S 15 (w : Int)) N B T X V h) : mj_Ok (D + 1) 302 [.ref 0, .int (jn c)] h (fun r => ∃ (X2 : Nat → Int) (h2 : mj_H), rS (jvu S 15 ((w + 1 : Nat) : Int)) N B T X2 V h2 ∧ r = (.inl none, h2)) := by
  refine mj_Ok.of (M := mj_m302) rfl rfl rfl ?_
  have e : (rF (jvu S 15 (w : Int)))[15]? = some (.int (jn (w : Int))) := by
    show some (Value.int (jn (jvu S 15 (w : Int) 15))) = _
    rw [jvu_at]
  refine mj_T.pl rfl rfl rfl rfl ?_
  refine rT_get hs rfl rfl ?_
  refine mj_T.pl rfl rfl rfl rfl ?_
  refine rT_get hs rfl e ?_
  refine mj_T.pl rfl rfl rfl rfl ?_
  refine rT_stX hs rfl ⟨by omega, by omega⟩ (fun h1 hs1 => ?_)
  iterate 2 refine mj_T.pl rfl rfl rfl rfl ?_
  refine rT_get hs1 rfl e ?_
  refine mj_T.pl rfl rfl rfl rfl ?_
  refine mj_T.iadd (a := (w : Int)) (b := 1) rfl ?_
  rw [show (w : Int) + 1 = ((w + 1 : Nat) : Int) by omega]
  refine rT_put (v := ((w + 1 : Nat) : Int)) hs1 rfl rfl (by decide) rfl (fun h2 hs2 => ?_)
  rw [jvu_jvu] at hs2
  exact mj_T.ret rfl rfl rfl ⟨_, h2, hs2, rfl⟩
theorem rp_wn2 {S N B V : Nat → Int} {D v : Nat} (hv : v < 1000000000000000000) {Q : mj_R → Prop} :
    ∀ (m w : Nat) (X : Nat → Int) (h : mj_H), m ≤ 18 → w + m ≤ 600 → rS (jvu S 15 (w : Int)) N B T X V h → (∀ (w2 : Nat) (X2 : Nat → Int) (h2 : mj_H), w2 = w + m → rS (jvu S 15 (w2 : Int)) N B T X2 V h2 → Q (.inl none, h2)) → mj_T (D + 1) mj_m303 21 [some (.ref 0), some (.long (jl (v : Int))), none, some (.long (jl ((if m = 0 then 0 else 10 ^ (m - 1) : Nat) : Int))), none] [] h Q := by
  intro m
  induction m with
  | zero =>
    intro w X h hm hw hs hend
    rw [if_pos rfl]
    iterate 2 refine mj_T.pl rfl rfl rfl rfl ?_
    refine mj_T.lif (a := ((0 : Nat) : Int)) (b := 0) rfl rfl ⟨by decide, by decide⟩ ⟨by decide, by decide⟩ (fun hc => ?_) (fun hc => ?_)
    · exact mj_T.ret rfl rfl rfl (hend w X h rfl hs)
    · simp [jc] at hc
  | succ m ih =>
    intro w X h hm hw hs hend
    rw [if_neg (by omega), Nat.add_sub_cancel]
    have hp0 : 0 < 10 ^ m := Nat.pow_pos (by decide)
    have hp1 : 10 ^ m ≤ 10 ^ 17 := Nat.pow_le_pow_right (by decide) (by omega)
    iterate 2 refine mj_T.pl rfl rfl rfl rfl ?_
    refine mj_T.lif (a := ((10 ^ m : Nat) : Int)) (b := 0) rfl rfl ⟨by omega, by omega⟩ ⟨by decide, by decide⟩ (fun hc => ?_) (fun hc => ?_)
    · simp only [jc, decide_eq_true_eq] at hc
      omega
    iterate 4 refine mj_T.pl rfl rfl rfl rfl ?_
    refine mj_T.ldiv (a := (v : Int)) (b := ((10 ^ m : Nat) : Int)) rfl ⟨by omega, by omega⟩ ⟨by omega, by omega⟩ (by omega) ?_
    rw [show (v : Int).tdiv ((10 ^ m : Nat) : Int) = ((v / 10 ^ m : Nat) : Int) from rfl]
    have hd := Nat.div_le_self v (10 ^ m)
    generalize v / 10 ^ m = q at hd ⊢
    refine mj_T.pl rfl rfl rfl rfl ?_
    refine mj_T.lrem (a := (q : Int)) (b := 10) rfl ⟨by omega, by omega⟩ ⟨by decide, by decide⟩ (by decide) ?_
    refine mj_T.l2i rfl ?_
    refine mj_T.iadd (a := 48) rfl ?_
    refine mj_T.call (ins := .invokevirtual 396) rfl rfl (Nat.le_of_ble_eq_true rfl) (Nat.le_of_ble_eq_true rfl) (by simp [mj_recv, rS_f hs]) rfl (rp_writes (D := D) (w := w) (by omega) hs) (fun v' h1 hq' => ?_) (fun i h' hq' => by obtain ⟨_, _, _, h⟩ := hq'; cases h)
    obtain ⟨X2, _, hs1, hq'⟩ := hq'
    cases hq'
    iterate 2 refine mj_T.pl rfl rfl rfl rfl ?_
    refine mj_T.ldiv (a := ((10 ^ m : Nat) : Int)) (b := 10) rfl ⟨by omega, by omega⟩ ⟨by decide, by decide⟩ (by decide) ?_
    have e : ((10 ^ m : Nat) : Int).tdiv 10 = ((if m = 0 then 0 else 10 ^ (m - 1) : Nat) : Int) := by
      rw [show ((10 ^ m : Nat) : Int).tdiv 10 = ((10 ^ m / 10 : Nat) : Int) from rfl]
      split
      · rename_i q
        subst q
        rfl
      · rename_i q
        obtain ⟨j, rfl⟩ : ∃ j, m = j + 1 := ⟨m - 1, by omega⟩
        rw [Nat.pow_succ, Nat.add_sub_cancel, Nat.mul_div_cancel _ (by decide)]
    rw [e]
    iterate 2 refine mj_T.pl rfl rfl rfl rfl ?_
    exact ih (w + 1) X2 h1 (by omega) (by omega) hs1 (fun w2 X3 h3 hw2 hs3 => hend w2 X3 h3 (by omega) hs3)
theorem rp_wn1 {S N B X V : Nat → Int} {D v w : Nat} (hv : v < 1000000000000000000) (hw : w + 18 ≤ 600) (hs : rS (jvu S 15 (w : Int)) N B T X V h) {Q : mj_R → Prop} (hend : ∀ (w2 : Nat) (X2 : Nat → Int) (h2 : mj_H), (w ≤ w2 ∧ w2 ≤ w + 18) → rS (jvu S 15 (w2 : Int)) N B T X2 V h2 → Q (.inl none, h2)) :
    ∀ (d k : Nat), k + d = 17 → mj_T (D + 1) mj_m303 2 [some (.ref 0), some (.long (jl (v : Int))), none, some (.long (jl ((10 ^ k : Nat) : Int))), none] [] h Q := by
  intro d
  induction d with
  | zero =>
    intro k hk
    have hk : k = 17 := by omega
    subst hk
    iterate 2 refine mj_T.pl rfl rfl rfl rfl ?_
    refine mj_T.ldiv (a := (v : Int)) (b := ((10 ^ 17 : Nat) : Int)) rfl ⟨by omega, by omega⟩ ⟨by omega, by omega⟩ (by omega) ?_
    rw [show (v : Int).tdiv ((10 ^ 17 : Nat) : Int) = ((v / 10 ^ 17 : Nat) : Int) from rfl]
    refine mj_T.pl rfl rfl rfl rfl ?_
    refine mj_T.lif (a := ((v / 10 ^ 17 : Nat) : Int)) (b := 10) rfl rfl ⟨by omega, by omega⟩ ⟨by decide, by decide⟩ (fun hc => ?_) (fun hc => ?_)
    · exact rp_wn2 (D := D) hv 18 w X h (by omega) hw hs (fun w2 X2 h2 e hs2 => hend w2 X2 h2 ⟨by omega, by omega⟩ hs2)
    · simp only [jc, decide_eq_false_iff_not] at hc
      omega
  | succ d ih =>
    intro k hk
    have hp0 : 0 < 10 ^ k := Nat.pow_pos (by decide)
    have hp1 : 10 ^ k ≤ 10 ^ 16 := Nat.pow_le_pow_right (by decide) (by omega)
    have hd := Nat.div_le_self v (10 ^ k)
    iterate 2 refine mj_T.pl rfl rfl rfl rfl ?_
    refine mj_T.ldiv (a := (v : Int)) (b := ((10 ^ k : Nat) : Int)) rfl ⟨by omega, by omega⟩ ⟨by omega, by omega⟩ (by omega) ?_
    rw [show (v : Int).tdiv ((10 ^ k : Nat) : Int) = ((v / 10 ^ k : Nat) : Int) from rfl]
    generalize v / 10 ^ k = q at hd ⊢
    refine mj_T.pl rfl rfl rfl rfl ?_
    refine mj_T.lif (a := (q : Int)) (b := 10) rfl rfl ⟨by omega, by omega⟩ ⟨by decide, by decide⟩ (fun hc => ?_) (fun hc => ?_)
    · have k2 := rp_wn2 (D := D) (S := S) (N := N) (B := B) (V := V) (T := T) hv (Q := Q) (k + 1) w X h (by omega) (by omega) hs (fun w2 X2 h2 e hs2 => hend w2 X2 h2 ⟨by omega, by omega⟩ hs2)
      rw [if_neg (by omega), Nat.add_sub_cancel] at k2
      exact k2
    · iterate 2 refine mj_T.pl rfl rfl rfl rfl ?_
      refine mj_T.lmul (b := 10) rfl ?_
      rw [show ((10 ^ k : Nat) : Int) * 10 = ((10 ^ (k + 1) : Nat) : Int) by rw [Nat.pow_succ]; omega]
      iterate 2 refine mj_T.pl rfl rfl rfl rfl ?_
      exact ih (k + 1) (by omega)
theorem rp_writesNumber {S N B X V : Nat → Int} {D v w : Nat} (hv : v < 1000000000000000000) (hw : w + 18 ≤ 600) (hs : rS (jvu S 15 (w : Int)) N B T X V h) : mj_Ok (D + 2) 303 [.ref 0, .long (jl (v : Int))] h (fun r => ∃ (w2 : Nat) (X2 : Nat → Int) (h2 : mj_H), (w ≤ w2 ∧ w2 ≤ w + 18) ∧ rS (jvu S 15 (w2 : Int)) N B T X2 V h2 ∧ r = (.inl none, h2)) := by
  refine mj_Ok.of (M := mj_m303) rfl rfl rfl ?_
  iterate 2 refine mj_T.pl rfl rfl rfl rfl ?_
  exact rp_wn1 (D := D) hv hw hs (fun w2 X2 h2 e hs2 => ⟨w2, X2, h2, e, hs2, rfl⟩) 17 0 (by omega)
theorem rp_writesTerm {S N B X V : Nat → Int} {D w e : Nat} {c : Int} (hc : -999999999999999999 ≤ c ∧ c ≤ 999999999999999999) (he : e ≤ 12) (hw : w + 40 ≤ 600) (hs : rS (jvu S 15 (w : Int)) N B T X V h) : mj_Ok (D + 3) 304 [.ref 0, .long (jl c), .int (jn (e : Int))] h (fun r => ∃ (w2 : Nat) (X2 : Nat → Int) (h2 : mj_H), (w ≤ w2 ∧ w2 ≤ w + 40) ∧ rS (jvu S 15 (w2 : Int)) N B T X2 V h2 ∧ r = (.inl none, h2)) := by
  refine mj_Ok.of (M := mj_m304) rfl rfl rfl ?_
  have t51 : ∀ (w3 : Nat) (X3 : Nat → Int) (h3 : mj_H), (w ≤ w3 ∧ w3 ≤ w + 20) → rS (jvu S 15 (w3 : Int)) N B T X3 V h3 → mj_T (D + 2) mj_m304 51 [some (.ref 0), some (.long (jl c)), none, some (.int (jn (e : Int))), some (.long (jl ((c.natAbs : Nat) : Int))), none] [] h3 (fun r => ∃ (w2 : Nat) (X2 : Nat → Int) (h2 : mj_H), (w ≤ w2 ∧ w2 ≤ w + 40) ∧ rS (jvu S 15 (w2 : Int)) N B T X2 V h2 ∧ r = (.inl none, h2)) := fun w3 X3 h3 hb3 hs3 => by
    iterate 2 refine mj_T.pl rfl rfl rfl rfl ?_
    refine mj_T.icmp (a := (e : Int)) (b := 1) rfl ⟨by omega, by omega⟩ ⟨by decide, by decide⟩ (fun hc1 => ?_) (fun hc1 => ?_)
    · exact mj_T.ret rfl rfl rfl ⟨w3, X3, h3, ⟨by omega, by omega⟩, hs3, rfl⟩
    iterate 2 refine mj_T.pl rfl rfl rfl rfl ?_
    refine mj_T.call (ins := .invokevirtual 396) rfl rfl (Nat.le_of_ble_eq_true rfl) (Nat.le_of_ble_eq_true rfl) (by simp [mj_recv, rS_f hs3]) rfl (mj_Ok.up (by omega) (rp_writes (D := 0) (w := w3) (by omega) hs3)) (fun v' h4 hq' => ?_) (fun i h' hq' => by obtain ⟨_, _, _, h⟩ := hq'; cases h)
    obtain ⟨X4, _, hs4, hq'⟩ := hq'
    cases hq'
    iterate 2 refine mj_T.pl rfl rfl rfl rfl ?_
    refine mj_T.i2l rfl ⟨by omega, by omega⟩ ?_
    refine mj_T.call (ins := .invokevirtual 399) rfl rfl (Nat.le_of_ble_eq_true rfl) (Nat.le_of_ble_eq_true rfl) (by simp [mj_recv, rS_f hs4]) rfl (mj_Ok.up (by omega) (rp_writesNumber (D := 0) (v := e) (w := w3 + 1) (by omega) (by omega) hs4)) (fun v' h5 hq' => ?_) (fun i h' hq' => by obtain ⟨_, _, _, _, _, h⟩ := hq'; cases h)
    obtain ⟨w5, X5, _, wb5, hs5, hq'⟩ := hq'
    cases hq'
    exact mj_T.ret rfl rfl rfl ⟨w5, X5, _, ⟨by omega, by omega⟩, hs5, rfl⟩
  have t41 : ∀ (w3 : Nat) (X3 : Nat → Int) (h3 : mj_H), (w ≤ w3 ∧ w3 ≤ w + 19) → rS (jvu S 15 (w3 : Int)) N B T X3 V h3 → mj_T (D + 2) mj_m304 41 [some (.ref 0), some (.long (jl c)), none, some (.int (jn (e : Int))), some (.long (jl ((c.natAbs : Nat) : Int))), none] [] h3 (fun r => ∃ (w2 : Nat) (X2 : Nat → Int) (h2 : mj_H), (w ≤ w2 ∧ w2 ≤ w + 40) ∧ rS (jvu S 15 (w2 : Int)) N B T X2 V h2 ∧ r = (.inl none, h2)) := fun w3 X3 h3 hb3 hs3 => by
    refine mj_T.pl rfl rfl rfl rfl ?_
    refine mj_T.if0 (a := (e : Int)) rfl ⟨by omega, by omega⟩ (fun hc1 => ?_) (fun hc1 => ?_)
    · exact t51 w3 X3 h3 ⟨by omega, by omega⟩ hs3
    iterate 2 refine mj_T.pl rfl rfl rfl rfl ?_
    refine mj_T.call (ins := .invokevirtual 396) rfl rfl (Nat.le_of_ble_eq_true rfl) (Nat.le_of_ble_eq_true rfl) (by simp [mj_recv, rS_f hs3]) rfl (mj_Ok.up (by omega) (rp_writes (D := 0) (w := w3) (by omega) hs3)) (fun v' h4 hq' => ?_) (fun i h' hq' => by obtain ⟨_, _, _, h⟩ := hq'; cases h)
    obtain ⟨X4, _, hs4, hq'⟩ := hq'
    cases hq'
    exact t51 (w3 + 1) X4 h4 ⟨by omega, by omega⟩ hs4
  have t25 : mj_T (D + 2) mj_m304 25 [some (.ref 0), some (.long (jl c)), none, some (.int (jn (e : Int))), some (.long (jl ((c.natAbs : Nat) : Int))), none] [] h (fun r => ∃ (w2 : Nat) (X2 : Nat → Int) (h2 : mj_H), (w ≤ w2 ∧ w2 ≤ w + 40) ∧ rS (jvu S 15 (w2 : Int)) N B T X2 V h2 ∧ r = (.inl none, h2)) := by
    iterate 2 refine mj_T.pl rfl rfl rfl rfl ?_
    refine mj_T.call (ins := .invokevirtual 399) rfl rfl (Nat.le_of_ble_eq_true rfl) (Nat.le_of_ble_eq_true rfl) (by simp [mj_recv, rS_f hs]) rfl (mj_Ok.up (by omega) (rp_writesNumber (D := 0) (v := c.natAbs) (w := w) (by omega) (by omega) hs)) (fun v' h4 hq' => ?_) (fun i h' hq' => by obtain ⟨_, _, _, _, _, h⟩ := hq'; cases h)
    obtain ⟨w4, X4, _, wb4, hs4, hq'⟩ := hq'
    cases hq'
    refine mj_T.pl rfl rfl rfl rfl ?_
    refine mj_T.if0 (a := (e : Int)) rfl ⟨by omega, by omega⟩ (fun hc1 => ?_) (fun hc1 => ?_)
    · exact t41 w4 X4 h4 ⟨by omega, by omega⟩ hs4
    iterate 2 refine mj_T.pl rfl rfl rfl rfl ?_
    refine mj_T.call (ins := .invokevirtual 396) rfl rfl (Nat.le_of_ble_eq_true rfl) (Nat.le_of_ble_eq_true rfl) (by simp [mj_recv, rS_f hs4]) rfl (mj_Ok.up (by omega) (rp_writes (D := 0) (w := w4) (by omega) hs4)) (fun v' h5 hq' => ?_) (fun i h' hq' => by obtain ⟨_, _, _, h⟩ := hq'; cases h)
    obtain ⟨X5, _, hs5, hq'⟩ := hq'
    cases hq'
    exact t41 (w4 + 1) X5 h5 ⟨by omega, by omega⟩ hs5
  have t12 : ∀ z : Int, z = ((c.natAbs : Nat) : Int) → mj_T (D + 2) mj_m304 12 [some (.ref 0), some (.long (jl c)), none, some (.int (jn (e : Int))), none, none] [.long (jl z)] h (fun r => ∃ (w2 : Nat) (X2 : Nat → Int) (h2 : mj_H), (w ≤ w2 ∧ w2 ≤ w + 40) ∧ rS (jvu S 15 (w2 : Int)) N B T X2 V h2 ∧ r = (.inl none, h2)) := fun z hz => by
    subst hz
    iterate 3 refine mj_T.pl rfl rfl rfl rfl ?_
    refine mj_T.lif (a := ((c.natAbs : Nat) : Int)) (b := 1) rfl rfl ⟨by omega, by omega⟩ ⟨by decide, by decide⟩ (fun hc1 => ?_) (fun hc1 => ?_)
    · exact t25
    refine mj_T.pl rfl rfl rfl rfl ?_
    refine mj_T.if0 (a := (e : Int)) rfl ⟨by omega, by omega⟩ (fun hc2 => ?_) (fun hc2 => ?_)
    · exact t41 w X h ⟨by omega, by omega⟩ hs
    · exact t25
  iterate 2 refine mj_T.pl rfl rfl rfl rfl ?_
  refine mj_T.lif (a := c) (b := 0) rfl rfl ⟨by omega, by omega⟩ ⟨by decide, by decide⟩ (fun hc1 => ?_) (fun hc1 => ?_)
  · simp only [jc, decide_eq_true_eq] at hc1
    refine mj_T.pl rfl rfl rfl rfl ?_
    exact t12 c (by omega)
  · simp only [jc, decide_eq_false_iff_not] at hc1
    refine mj_T.pl rfl rfl rfl rfl ?_
    refine mj_T.lneg rfl ?_
    refine mj_T.pl rfl rfl rfl rfl ?_
    exact t12 (-c) (by omega)
end RPU
/-! Calls of the reference: write, writtenAt, shares, errors. -/
def rD (tm er : Int) (T : Nat → Int) (r : mj_R) : Prop := ∃ (z : UInt64) (h' : mj_H), r = (.inl (some (.double z)), h') ∧ jI tm er T h'
def rE (tm er : Int) (T : Nat → Int) (r : mj_R) : Prop := ∃ (z : UInt32) (h' : mj_H), r = (.inl (some (.float z)), h') ∧ jI tm er T h'
theorem jK.put15 {tm er : Int} {S N B T : Nat → Int} (K : jK tm er S N B T) {w : Nat} (hw : w ≤ 600) : jK tm er (jvu S 15 (w : Int)) N B T := by
  obtain ⟨k1, k2, k3, k4, k5, k6, k7, k8, k9⟩ := K
  have e : ∀ x, x ≠ 15 → jvu S 15 (w : Int) x = S x := fun x hx => jvu_ne _ _ _ hx
  refine ⟨k1, by rw [e 2 (by decide)]; exact k2, fun j hj => k3 j (by rw [e 2 (by decide)] at hj; exact hj), by rw [e 9 (by decide)]; exact k4, by rw [e 12 (by decide)]; exact k5, by rw [jvu_at]; omega, fun x => ?_, by rw [e 13 (by decide)]; exact k8, k9⟩
  by_cases hx : x = 15
  · subst hx
    rw [jvu_at]
    exact ⟨by omega, by omega⟩
  · rw [e x hx]
    exact k7 x
theorem rp_dd : ∀ n, n < 79 → FP.ddiv (FP.i2d (jn (n : Nat))) 4618441417868443648 &&& 0x7fffffffffffffff ≤ 0x7ff0000000000000 := by decide +kernel
theorem rp_ff : ∀ n, n < 79 → FP.fdiv (FP.i2f (jn (n : Nat))) 1086324736 &&& 0x7fffffff ≤ 0x7f800000 := by decide +kernel
section RFP
variable {D pc r1 r2 r3 r4 r5 : Nat} {M : mj_M} {loc : mj_L} {st : List Value} {h : mj_H} {Q : mj_R → Prop}
theorem mj_T.ddv {x y : UInt64} (hc : M.2.2.2.2.1 pc = some (.ddiv, r1, r2, r3, r4, r5)) (hy : FP.ddiv x y &&& 0x7fffffffffffffff ≤ 0x7ff0000000000000) (k : mj_T D M (pc + 1) loc (.double (FP.ddiv x y) :: st) h Q) : mj_T D M pc loc (.double y :: .double x :: st) h Q :=
  mj_T.step hc rfl (by simp only [mj_step]; rw [if_pos hy]) k
theorem mj_T.fdv {x y : UInt32} (hc : M.2.2.2.2.1 pc = some (.fdiv, r1, r2, r3, r4, r5)) (hy : FP.fdiv x y &&& 0x7fffffff ≤ 0x7f800000) (k : mj_T D M (pc + 1) loc (.float (FP.fdiv x y) :: st) h Q) : mj_T D M pc loc (.float y :: .float x :: st) h Q :=
  mj_T.step hc rfl (by simp only [mj_step]; rw [if_pos hy]) k
end RFP
section RPU
variable {h : mj_H} {tm er : Int} {T : Nat → Int}
theorem rp_wr_loop {S N B V : Nat → Int} {a : Nat} {d : Int} (ha : a ≤ 5) (hd : -1 ≤ d ∧ d ≤ 12) (K : jK tm er S N B T) :
    ∀ (m w : Nat) (X : Nat → Int) (h : mj_H) (l4 : Option Value), m ≤ 13 → w + 43 * m ≤ 600 → rS (jvu S 15 (w : Int)) N B T X V h → mj_T 39 mj_m305 41 [some (.ref 0), some (.int (jn (a : Int))), some (.int (jn d)), some (.int (jn ((m : Int) - 1))), l4, none] [] h (rI tm er T) := by
  intro m
  induction m with
  | zero =>
    intro w X h l4 hm hw hs
    refine mj_T.pl rfl rfl rfl rfl ?_
    refine mj_T.if0 (a := ((0 : Nat) : Int) - 1) rfl ⟨by decide, by decide⟩ (fun hc => ?_) (fun hc => ?_)
    · refine mj_T.pl rfl rfl rfl rfl ?_
      refine rT_get (v := .int (jn (w : Int))) hs rfl (by show some (Value.int (jn (jvu S 15 (w : Int) 15))) = _; rw [jvu_at]) ?_
      exact mj_T.ret rfl rfl rfl ⟨(w : Int), h, ⟨by omega, by omega⟩, rfl, ⟨_, _, _, _, _, hs, K.put15 (by omega)⟩⟩
    · simp [jc] at hc
  | succ m ih =>
    intro w X h l4 hm hw hs
    refine mj_T.pl rfl rfl rfl rfl ?_
    refine mj_T.if0 (a := ((m + 1 : Nat) : Int) - 1) rfl ⟨by omega, by omega⟩ (fun hc => ?_) (fun hc => ?_)
    · simp only [jc, decide_eq_true_eq] at hc
      omega
    rw [show ((m + 1 : Nat) : Int) - 1 = (m : Int) by omega]
    have hN := K.1.1 (a * 13 + m) (by omega)
    refine mj_T.pl rfl rfl rfl rfl ?_
    refine rT_get hs rfl rfl ?_
    iterate 2 refine mj_T.pl rfl rfl rfl rfl ?_
    refine mj_T.imul (a := (a : Int)) (b := 13) rfl ?_
    refine mj_T.pl rfl rfl rfl rfl ?_
    refine mj_T.iadd rfl ?_
    rw [show (a : Int) * 13 + (m : Int) = ((a * 13 + m : Nat) : Int) by omega]
    refine rT_ldN hs rfl ⟨by omega, by omega⟩ ?_
    rw [Int.toNat_natCast]
    iterate 3 refine mj_T.pl rfl rfl rfl rfl ?_
    have t126 : ∀ (w2 : Nat) (X2 : Nat → Int) (h2 : mj_H), w2 ≤ w + 43 → rS (jvu S 15 (w2 : Int)) N B T X2 V h2 → mj_T 39 mj_m305 126 [some (.ref 0), some (.int (jn (a : Int))), some (.int (jn d)), some (.int (jn (m : Int))), some (.long (jl (N (a * 13 + m)))), none] [] h2 (rI tm er T) := fun w2 X2 h2 hw2 hs2 => by
      refine mj_T.iinc (a := (m : Int)) rfl rfl ?_
      refine mj_T.pl rfl rfl rfl rfl ?_
      exact ih w2 X2 h2 _ (by omega) (by omega) hs2
    have t119 : ∀ (w2 : Nat) (X2 : Nat → Int) (h2 : mj_H), w2 ≤ w + 3 → rS (jvu S 15 (w2 : Int)) N B T X2 V h2 → mj_T 39 mj_m305 119 [some (.ref 0), some (.int (jn (a : Int))), some (.int (jn d)), some (.int (jn (m : Int))), some (.long (jl (N (a * 13 + m)))), none] [] h2 (rI tm er T) := fun w2 X2 h2 hw2 hs2 => by
      iterate 3 refine mj_T.pl rfl rfl rfl rfl ?_
      refine mj_T.call (ins := .invokevirtual 403) rfl rfl (Nat.le_of_ble_eq_true rfl) (Nat.le_of_ble_eq_true rfl) (by simp [mj_recv, rS_f hs2]) rfl (mj_Ok.up (by decide) (rp_writesTerm (D := 0) (w := w2) (e := m) hN (by omega) (by omega) hs2)) (fun v' h3 hq' => ?_) (fun i h' hq' => by obtain ⟨_, _, _, _, _, h⟩ := hq'; cases h)
      obtain ⟨w3, X3, _, wb3, hs3, hq'⟩ := hq'
      cases hq'
      exact t126 w3 X3 _ (by omega) hs3
    refine mj_T.lif (a := N (a * 13 + m)) (b := 0) rfl rfl ⟨by omega, by omega⟩ ⟨by decide, by decide⟩ (fun hc2 => ?_) (fun hc2 => ?_)
    rotate_left
    · refine mj_T.pl rfl rfl rfl rfl ?_
      exact t126 w X h (by omega) hs
    iterate 2 refine mj_T.pl rfl rfl rfl rfl ?_
    refine mj_T.icmp (a := (m : Int)) (b := d) rfl ⟨by omega, by omega⟩ ⟨by omega, by omega⟩ (fun hc3 => ?_) (fun hc3 => ?_)
    · iterate 2 refine mj_T.pl rfl rfl rfl rfl ?_
      refine mj_T.lif (a := N (a * 13 + m)) (b := 0) rfl rfl ⟨by omega, by omega⟩ ⟨by decide, by decide⟩ (fun hc4 => ?_) (fun hc4 => ?_)
      · exact t119 w X h (by omega) hs
      iterate 2 refine mj_T.pl rfl rfl rfl rfl ?_
      refine mj_T.call (ins := .invokevirtual 396) rfl rfl (Nat.le_of_ble_eq_true rfl) (Nat.le_of_ble_eq_true rfl) (by simp [mj_recv, rS_f hs]) rfl (mj_Ok.up (by omega) (rp_writes (D := 0) (w := w) (by omega) hs)) (fun v' h5 hq' => ?_) (fun i h' hq' => by obtain ⟨_, _, _, h⟩ := hq'; cases h)
      obtain ⟨X5, _, hs5, hq'⟩ := hq'
      cases hq'
      exact t119 (w + 1) X5 h5 (by omega) hs5
    iterate 2 refine mj_T.pl rfl rfl rfl rfl ?_
    refine mj_T.call (ins := .invokevirtual 396) rfl rfl (Nat.le_of_ble_eq_true rfl) (Nat.le_of_ble_eq_true rfl) (by simp [mj_recv, rS_f hs]) rfl (mj_Ok.up (by omega) (rp_writes (D := 0) (w := w) (by omega) hs)) (fun v' h5 hq' => ?_) (fun i h' hq' => by obtain ⟨_, _, _, h⟩ := hq'; cases h)
    obtain ⟨X5, _, hs5, hq'⟩ := hq'
    cases hq'
    iterate 3 refine mj_T.pl rfl rfl rfl rfl ?_
    have t94 : ∀ c : Int, mj_T 39 mj_m305 94 [some (.ref 0), some (.int (jn (a : Int))), some (.int (jn d)), some (.int (jn (m : Int))), some (.long (jl (N (a * 13 + m)))), none] [.int (jn c), .ref 0] h5 (rI tm er T) := fun c => by
      refine mj_T.call (ins := .invokevirtual 396) rfl rfl (Nat.le_of_ble_eq_true rfl) (Nat.le_of_ble_eq_true rfl) (by simp [mj_recv, rS_f hs5]) rfl (mj_Ok.up (by omega) (rp_writes (D := 0) (w := w + 1) (by omega) hs5)) (fun v' h6 hq' => ?_) (fun i h' hq' => by obtain ⟨_, _, _, h⟩ := hq'; cases h)
      obtain ⟨X6, _, hs6, hq'⟩ := hq'
      cases hq'
      iterate 2 refine mj_T.pl rfl rfl rfl rfl ?_
      refine mj_T.call (ins := .invokevirtual 396) rfl rfl (Nat.le_of_ble_eq_true rfl) (Nat.le_of_ble_eq_true rfl) (by simp [mj_recv, rS_f hs6]) rfl (mj_Ok.up (by omega) (rp_writes (D := 0) (w := w + 1 + 1) (by omega) hs6)) (fun v' h7 hq' => ?_) (fun i h' hq' => by obtain ⟨_, _, _, h⟩ := hq'; cases h)
      obtain ⟨X7, _, hs7, hq'⟩ := hq'
      cases hq'
      refine mj_T.pl rfl rfl rfl rfl ?_
      exact t119 (w + 1 + 1 + 1) X7 h7 (by omega) hs7
    refine mj_T.lif (a := N (a * 13 + m)) (b := 0) rfl rfl ⟨by omega, by omega⟩ ⟨by decide, by decide⟩ (fun hc4 => ?_) (fun hc4 => ?_)
    · refine mj_T.pl rfl rfl rfl rfl ?_
      exact t94 43
    · iterate 2 refine mj_T.pl rfl rfl rfl rfl ?_
      exact t94 45
theorem rp_write {x : Int} (hx : jr x) (hI : jI tm er T h) : mj_Ok 40 305 [.ref 0, .int (jn x)] h (rI tm er T) := by
  refine mj_Ok.of (M := mj_m305) rfl rfl rfl ?_
  obtain ⟨S, N, B, X, V, hs, K⟩ := hI
  iterate 2 refine mj_T.pl rfl rfl rfl rfl ?_
  refine rT_put (v := 0) hs rfl rfl (by decide) rfl (fun g1 hs1 => ?_)
  have K1 := K.put (k := 3) (v := 0) ⟨by decide, by decide⟩ (by decide) (by decide) (by decide) (by decide) (by decide)
  generalize jvu S 3 0 = S1 at hs1 K1
  refine mj_T.pl rfl rfl rfl rfl ?_
  refine mj_T.call (ins := .invokestatic 181) rfl rfl (Nat.le_of_ble_eq_true rfl) (Nat.le_of_ble_eq_true rfl) rfl rfl (mj_Ok.up (by decide) (rp_isRegister (D := 0) hx)) (fun v' h' hq' => ?_) (fun i h' hq' => by rcases hq' with ⟨_, _, h⟩ | ⟨_, h⟩ <;> cases h)
  rcases hq' with ⟨x1, x2, hq'⟩ | ⟨_, hq'⟩
  case' inr =>
    cases hq'
    refine mj_T.if0 (a := 0) rfl ⟨by decide, by decide⟩ (fun hc => ?_) (fun hc => ?_)
    · simp [jc] at hc
    iterate 2 refine mj_T.pl rfl rfl rfl rfl ?_
    refine mj_T.call (ins := .invokevirtual 198) rfl rfl (Nat.le_of_ble_eq_true rfl) (Nat.le_of_ble_eq_true rfl) (by simp [mj_recv, rS_f hs1]) rfl (mj_Ok.up (by decide) (rp_fails (D := 0) (c := 1) hs1)) (fun v' g2 hq' => ?_) (fun i h' hq' => by obtain ⟨_, _, h⟩ := hq'; cases h)
    obtain ⟨_, hs2, hq'⟩ := hq'
    cases hq'
    exact mj_T.ret rfl rfl rfl ⟨0, g2, ⟨by decide, by decide⟩, rfl, ⟨_, N, B, X, V, hs2, K1.put ⟨by decide, by decide⟩ (by decide) (by decide) (by decide) (by decide) (by decide)⟩⟩
  cases hq'
  refine mj_T.if0 (a := 1) rfl ⟨by decide, by decide⟩ (fun hc => ?_) (fun hc => ?_)
  rotate_left
  · simp [jc] at hc
  obtain ⟨x, rfl⟩ := Int.eq_ofNat_of_zero_le x1
  iterate 2 refine mj_T.pl rfl rfl rfl rfl ?_
  refine rT_put (v := ((0 : Nat) : Int)) hs1 rfl rfl (by decide) rfl (fun h2 hs2 => ?_)
  have hd := jdg_le N x 13
  iterate 2 refine mj_T.pl rfl rfl rfl rfl ?_
  refine mj_T.call (ins := .invokevirtual 185) rfl rfl (Nat.le_of_ble_eq_true rfl) (Nat.le_of_ble_eq_true rfl) (by simp [mj_recv, rS_f hs2]) rfl (mj_Ok.up (by decide) (rp_degreeIn (D := 0) (r := x) (by omega) K1.nR hs2)) (fun v' h' hq' => ?_) (fun i h' hq' => by cases hq')
  cases hq'
  iterate 2 refine mj_T.pl rfl rfl rfl rfl ?_
  have t39 : ∀ (w : Nat) (X2 : Nat → Int) (h3 : mj_H), w ≤ 1 → rS (jvu S1 15 (w : Int)) N B T X2 V h3 → mj_T 39 mj_m305 39 [some (.ref 0), some (.int (jn (x : Int))), some (.int (jn ((jdg N x 13 : Int) - 1))), none, none, none] [] h3 (rI tm er T) := fun w X2 h3 hw hs3 => by
    iterate 2 refine mj_T.pl rfl rfl rfl rfl ?_
    obtain ⟨m, hm⟩ : ∃ m, jdg N x 13 = m := ⟨_, rfl⟩
    rw [hm] at hd ⊢
    exact rp_wr_loop (d := (m : Int) - 1) (by omega) ⟨by omega, by omega⟩ K1 m w X2 h3 none hd (by omega) hs3
  refine mj_T.if0 (a := (jdg N x 13 : Int) - 1) rfl ⟨by omega, by omega⟩ (fun hc => ?_) (fun hc => ?_)
  · exact t39 0 X h2 (by decide) hs2
  iterate 2 refine mj_T.pl rfl rfl rfl rfl ?_
  refine mj_T.call (ins := .invokevirtual 396) rfl rfl (Nat.le_of_ble_eq_true rfl) (Nat.le_of_ble_eq_true rfl) (by simp [mj_recv, rS_f hs2]) rfl (mj_Ok.up (by omega) (rp_writes (D := 0) (w := 0) (by omega) hs2)) (fun v' h5 hq' => ?_) (fun i h' hq' => by obtain ⟨_, _, _, h⟩ := hq'; cases h)
  obtain ⟨X5, _, hs5, hq'⟩ := hq'
  cases hq'
  exact t39 1 X5 h5 (by decide) hs5
theorem rp_writtenAt {x : Int} (hx : jr x) (hI : jI tm er T h) : mj_Ok 40 306 [.ref 0, .int (jn x)] h (rI tm er T) := by
  refine mj_Ok.of (M := mj_m306) rfl rfl rfl ?_
  obtain ⟨S, N, B, X, V, hs, K⟩ := hI
  iterate 2 refine mj_T.pl rfl rfl rfl rfl ?_
  refine rT_put (v := 0) hs rfl rfl (by decide) rfl (fun g3 hs3 => ?_)
  have K3 := K.put (k := 3) (v := 0) ⟨by decide, by decide⟩ (by decide) (by decide) (by decide) (by decide) (by decide)
  generalize jvu S 3 0 = S3 at hs3 K3
  have k6 := K3.2.2.2.2.2.1
  refine mj_T.pl rfl rfl rfl rfl ?_
  refine mj_T.i2l rfl hx ?_
  iterate 2 refine mj_T.pl rfl rfl rfl rfl ?_
  refine rT_get hs3 rfl rfl ?_
  refine mj_T.pl rfl rfl rfl rfl ?_
  refine mj_T.isub (a := S3 15) (b := 1) rfl ?_
  refine mj_T.i2l rfl ⟨by omega, by omega⟩ ?_
  refine mj_T.call (ins := .invokestatic 177) rfl rfl (Nat.le_of_ble_eq_true rfl) (Nat.le_of_ble_eq_true rfl) rfl rfl (mj_Ok.up (by decide) (rp_in (D := 0) (v := x) (lo := 0) (hi := S3 15 - 1) ⟨by have := hx.1; omega, by have := hx.2; omega⟩ ⟨by decide, by decide⟩ ⟨by omega, by omega⟩)) (fun v' h' hq' => ?_) (fun i h' hq' => by rcases hq' with ⟨_, _, h⟩ | ⟨_, h⟩ <;> cases h)
  rcases hq' with ⟨x1, x2, hq'⟩ | ⟨_, hq'⟩
  case' inr =>
    cases hq'
    refine mj_T.if0 (a := 0) rfl ⟨by decide, by decide⟩ (fun hc => ?_) (fun hc => ?_)
    rotate_left
    · simp [jc] at hc
    iterate 2 refine mj_T.pl rfl rfl rfl rfl ?_
    refine mj_T.call (ins := .invokevirtual 198) rfl rfl (Nat.le_of_ble_eq_true rfl) (Nat.le_of_ble_eq_true rfl) (by simp [mj_recv, rS_f hs3]) rfl (mj_Ok.up (by decide) (rp_fails (D := 0) (c := 1) hs3)) (fun v' g4 hq' => ?_) (fun i h' hq' => by obtain ⟨_, _, h⟩ := hq'; cases h)
    obtain ⟨_, hs4, hq'⟩ := hq'
    cases hq'
    exact mj_T.ret rfl rfl rfl ⟨0, g4, ⟨by decide, by decide⟩, rfl, ⟨_, N, B, X, V, hs4, K3.put ⟨by decide, by decide⟩ (by decide) (by decide) (by decide) (by decide) (by decide)⟩⟩
  cases hq'
  refine mj_T.if0 (a := 1) rfl ⟨by decide, by decide⟩ (fun hc => ?_) (fun hc => ?_)
  · simp [jc] at hc
  refine mj_T.pl rfl rfl rfl rfl ?_
  refine rT_get hs3 rfl rfl ?_
  refine mj_T.pl rfl rfl rfl rfl ?_
  refine rT_ldX hs3 rfl ⟨by omega, by omega⟩ ?_
  refine mj_T.pl rfl rfl rfl rfl ?_
  rw [← jn_of (jn (X x.toNat))]
  exact mj_T.ret rfl rfl rfl ⟨_, _, jr_of _, rfl, ⟨_, _, _, _, _, hs3, K3⟩⟩
theorem rp_meanTerms_loop {S N B X V : Nat → Int} (hs : rS S N B T X V h) (K : jK tm er S N B T) :
    ∀ (m k c : Nat), k + m = 6 → c ≤ 13 * k → mj_T 39 mj_m307 9 [some (.ref 0), some (.int (jn (c : Int))), some (.int (jn (k : Int)))] [] h (rD tm er T) := by
  intro m
  induction m with
  | zero =>
    intro k c hk hcb
    have hk : k = 6 := by omega
    subst hk
    iterate 2 refine mj_T.pl rfl rfl rfl rfl ?_
    refine mj_T.icmp (a := ((6 : Nat) : Int)) (b := 6) rfl ⟨by decide, by decide⟩ ⟨by decide, by decide⟩ (fun hc => ?_) (fun hc => ?_)
    · iterate 3 refine mj_T.pl rfl rfl rfl rfl ?_
      refine mj_T.ddv rfl (rp_dd c (by omega)) ?_
      exact mj_T.ret rfl rfl rfl ⟨_, h, rfl, ⟨_, _, _, _, _, hs, K⟩⟩
    · simp [jc] at hc
  | succ m ih =>
    intro k c hk hcb
    iterate 2 refine mj_T.pl rfl rfl rfl rfl ?_
    refine mj_T.icmp (a := (k : Int)) (b := 6) rfl ⟨by omega, by omega⟩ ⟨by decide, by decide⟩ (fun hc => ?_) (fun hc => ?_)
    · simp only [jc, decide_eq_true_eq] at hc
      omega
    iterate 3 refine mj_T.pl rfl rfl rfl rfl ?_
    have hrt := rtm_le N k 13
    refine mj_T.call (ins := .invokevirtual 292) rfl rfl (Nat.le_of_ble_eq_true rfl) (Nat.le_of_ble_eq_true rfl) (by simp [mj_recv, rS_f hs]) rfl (mj_Ok.up (by decide) (rp_termsOf (D := 0) (r := k) (by omega) K.nR hs)) (fun v' h' hq' => ?_) (fun i h' hq' => by cases hq')
    cases hq'
    refine mj_T.iadd (a := (c : Int)) (b := ((rtm N k 13 : Nat) : Int)) rfl ?_
    rw [show (c : Int) + ((rtm N k 13 : Nat) : Int) = ((c + rtm N k 13 : Nat) : Int) by omega]
    refine mj_T.pl rfl rfl rfl rfl ?_
    refine mj_T.iinc (a := (k : Int)) rfl rfl ?_
    refine mj_T.pl rfl rfl rfl rfl ?_
    exact ih (k + 1) _ (by omega) (by omega)
theorem rp_meanTerms  (hI : jI tm er T h) : mj_Ok 40 307 [.ref 0] h (rD tm er T) := by
  refine mj_Ok.of (M := mj_m307) rfl rfl rfl ?_
  obtain ⟨S, N, B, X, V, hs, K⟩ := hI
  iterate 2 refine mj_T.pl rfl rfl rfl rfl ?_
  refine rT_put (v := 0) hs rfl rfl (by decide) rfl (fun g5 hs5 => ?_)
  have K5 := K.put (k := 3) (v := 0) ⟨by decide, by decide⟩ (by decide) (by decide) (by decide) (by decide) (by decide)
  generalize jvu S 3 0 = S5 at hs5 K5
  iterate 4 refine mj_T.pl rfl rfl rfl rfl ?_
  exact rp_meanTerms_loop hs5 K5 6 0 0 (by omega) (by decide)
theorem rp_usedShare_loop {S N B X V : Nat → Int} (hs : rS S N B T X V h) (K : jK tm er S N B T) :
    ∀ (m k c : Nat), k + m = 6 → c ≤ 13 * k → mj_T 39 mj_m308 9 [some (.ref 0), some (.int (jn (c : Int))), some (.int (jn (k : Int)))] [] h (rE tm er T) := by
  intro m
  induction m with
  | zero =>
    intro k c hk hcb
    have hk : k = 6 := by omega
    subst hk
    iterate 2 refine mj_T.pl rfl rfl rfl rfl ?_
    refine mj_T.icmp (a := ((6 : Nat) : Int)) (b := 6) rfl ⟨by decide, by decide⟩ ⟨by decide, by decide⟩ (fun hc => ?_) (fun hc => ?_)
    · iterate 3 refine mj_T.pl rfl rfl rfl rfl ?_
      refine mj_T.fdv rfl (rp_ff c (by omega)) ?_
      exact mj_T.ret rfl rfl rfl ⟨_, h, rfl, ⟨_, _, _, _, _, hs, K⟩⟩
    · simp [jc] at hc
  | succ m ih =>
    intro k c hk hcb
    iterate 2 refine mj_T.pl rfl rfl rfl rfl ?_
    refine mj_T.icmp (a := (k : Int)) (b := 6) rfl ⟨by omega, by omega⟩ ⟨by decide, by decide⟩ (fun hc => ?_) (fun hc => ?_)
    · simp only [jc, decide_eq_true_eq] at hc
      omega
    iterate 3 refine mj_T.pl rfl rfl rfl rfl ?_
    refine mj_T.call (ins := .invokevirtual 232) rfl rfl (Nat.le_of_ble_eq_true rfl) (Nat.le_of_ble_eq_true rfl) (by simp [mj_recv, rS_f hs]) rfl (mj_Ok.up (by decide) (rp_isZero (D := 0) (r := k) (by omega) K.nR hs)) (fun v' h' hq' => ?_) (fun i h' hq' => by rcases hq' with ⟨_, h⟩ | ⟨_, h⟩ <;> cases h)
    rcases hq' with ⟨_, hq'⟩ | ⟨_, hq'⟩
    · cases hq'
      refine mj_T.if0 (a := 1) rfl ⟨by decide, by decide⟩ (fun hc => ?_) (fun hc => ?_)
      · simp [jc] at hc
      iterate 2 refine mj_T.pl rfl rfl rfl rfl ?_
      refine mj_T.iadd (a := (c : Int)) (b := 0) rfl ?_
      rw [show (c : Int) + 0 = ((c + 0 : Nat) : Int) by omega]
      refine mj_T.pl rfl rfl rfl rfl ?_
      refine mj_T.iinc (a := (k : Int)) rfl rfl ?_
      refine mj_T.pl rfl rfl rfl rfl ?_
      exact ih (k + 1) _ (by omega) (by omega)
    · cases hq'
      refine mj_T.if0 (a := 0) rfl ⟨by decide, by decide⟩ (fun hc => ?_) (fun hc => ?_)
      rotate_left
      · simp [jc] at hc
      refine mj_T.pl rfl rfl rfl rfl ?_
      refine mj_T.iadd (a := (c : Int)) (b := 1) rfl ?_
      rw [show (c : Int) + 1 = ((c + 1 : Nat) : Int) by omega]
      refine mj_T.pl rfl rfl rfl rfl ?_
      refine mj_T.iinc (a := (k : Int)) rfl rfl ?_
      refine mj_T.pl rfl rfl rfl rfl ?_
      exact ih (k + 1) _ (by omega) (by omega)
theorem rp_usedShare  (hI : jI tm er T h) : mj_Ok 40 308 [.ref 0] h (rE tm er T) := by
  refine mj_Ok.of (M := mj_m308) rfl rfl rfl ?_
  obtain ⟨S, N, B, X, V, hs, K⟩ := hI
  iterate 2 refine mj_T.pl rfl rfl rfl rfl ?_
  refine rT_put (v := 0) hs rfl rfl (by decide) rfl (fun g6 hs6 => ?_)
  have K6 := K.put (k := 3) (v := 0) ⟨by decide, by decide⟩ (by decide) (by decide) (by decide) (by decide) (by decide)
  generalize jvu S 3 0 = S6 at hs6 K6
  iterate 4 refine mj_T.pl rfl rfl rfl rfl ?_
  exact rp_usedShare_loop hs6 K6 6 0 0 (by omega) (by decide)
end RPU
/-! Calls of the reference: errors, append. -/
def mq_byt (x : Int32) (k : Nat) : Nat := x.toBitVec.toNat / 256 ^ k % 256
def mq_nby (x : Int32) : Nat := (if mq_byt x 3 = 0 then 0 else 1) + (if mq_byt x 2 = 0 then 0 else 1) + (if mq_byt x 1 = 0 then 0 else 1) + (if mq_byt x 0 = 0 then 0 else 1)
theorem mq_jn_bits (x : Nat) : (jn (x : Nat)).toBitVec = BitVec.ofNat 32 x := by
  show BitVec.ofInt 32 (x : Int) = _
  exact BitVec.ofInt_natCast 32 x
theorem jb_and (y : BitVec 32) : (y &&& (jn 255).toBitVec).toNat = y.toNat % 256 := by
  rw [BitVec.toNat_and, show (jn 255).toBitVec.toNat = 2 ^ 8 - 1 from by decide, Nat.and_two_pow_sub_one_eq_mod]
theorem jb_jn {z : Int32} {m : Nat} (hm : m < 256) (h : z.toBitVec.toNat = m) : z = jn (m : Nat) := by
  apply Int32.toBitVec_inj.mp
  rw [mq_jn_bits]
  apply BitVec.eq_of_toNat_eq
  rw [h, BitVec.toNat_ofNat, Nat.mod_eq_of_lt (by omega)]
theorem jb_byt_lt (x : Int32) (k : Nat) : mq_byt x k < 256 := Nat.mod_lt _ (by decide)
theorem jb_ss (x : BitVec 32) {s : Nat} (hs : s = 24 ∨ s = 16 ∨ s = 8 ∨ s = 0) : (x.sshiftRight s).toNat % 256 = x.toNat / 256 ^ (s / 8) % 256 := by
  have h1 : (x.sshiftRight s).toInt = x.toInt >>> s := BitVec.toInt_sshiftRight
  rw [Int.shiftRight_eq_div_pow, BitVec.toInt_eq_toNat_cond, BitVec.toInt_eq_toNat_cond] at h1
  have h2 := x.isLt
  have h3 := (x.sshiftRight s).isLt
  generalize (x.sshiftRight s).toNat = b at h1 h3 ⊢
  generalize x.toNat = a at h1 h2 ⊢
  rcases hs with q | q | q | q <;> subst q <;> simp only [Nat.reducePow, Nat.reduceDiv, Nat.reduceMul] at h1 h2 h3 ⊢ <;> split at h1 <;> split at h1 <;> omega
theorem jb_shr (x : Int32) {s : Nat} (hs : s = 24 ∨ s = 16 ∨ s = 8 ∨ s = 0) : (x >>> (jn (s : Nat) &&& 31)) &&& jn 255 = jn (mq_byt x (s / 8) : Nat) := by
  refine jb_jn (jb_byt_lt x _) ?_
  rw [Int32.toBitVec_and, jb_and, Int32.toBitVec_shiftRight]
  show (x.toBitVec.sshiftRight (((jn (s : Nat) &&& 31).toBitVec.smod 32).toNat)).toNat % 256 = _
  have e : ((jn (s : Nat) &&& 31).toBitVec.smod 32).toNat = s := by rcases hs with q | q | q | q <;> subst q <;> decide
  rw [e, jb_ss _ hs]
  rfl
theorem jb_ushr (x : Int32) {s : Nat} (hs : s = 24 ∨ s = 16 ∨ s = 8 ∨ s = 0) : ((x.toUInt32 >>> ((jn (s : Nat)).toUInt32 &&& Int32.toUInt32 31)).toInt32) &&& jn 255 = jn (mq_byt x (s / 8) : Nat) := by
  refine jb_jn (jb_byt_lt x _) ?_
  rw [Int32.toBitVec_and, jb_and]
  have e : ((jn (s : Nat)).toUInt32 &&& Int32.toUInt32 31).toNat = s := by rcases hs with q | q | q | q <;> subst q <;> decide
  have e2 : ((x.toUInt32 >>> ((jn (s : Nat)).toUInt32 &&& Int32.toUInt32 31)).toInt32).toBitVec.toNat = x.toBitVec.toNat / 2 ^ s := by
    show (x.toUInt32 >>> ((jn (s : Nat)).toUInt32 &&& Int32.toUInt32 31)).toNat = _
    rw [UInt32.toNat_shiftRight, e, Nat.shiftRight_eq_div_pow]
    rcases hs with q | q | q | q <;> subst q <;> rfl
  rw [e2]
  rcases hs with q | q | q | q <;> subst q <;> rfl
section MBY
variable {D : Nat} {h : mj_H} {x : Int32} {Q : mj_R → Prop}
theorem jb_in_step {s c : Nat} (hs : s = 24 ∨ s = 16 ∨ s = 8 ∨ s = 0) (hc0 : c < 1000)
    (k : mj_T D mj_m160 5 [some (.int x), some (.int (jn ((c + (if mq_byt x (s / 8) = 0 then 0 else 1) : Nat) : Nat))), some (.int (jn ((s : Nat) + -8)))] [] h Q) :
    mj_T D mj_m160 5 [some (.int x), some (.int (jn (c : Nat))), some (.int (jn (s : Nat)))] [] h Q := by
  have hb := jb_byt_lt x (s / 8)
  refine mj_T.pl rfl rfl rfl rfl ?_
  refine mj_T.if0 rfl ⟨by omega, by omega⟩ (fun hc => ?_) (fun hc => ?_)
  · simp only [jc, decide_eq_true_eq] at hc; omega
  iterate 5 refine mj_T.pl rfl rfl rfl rfl ?_
  have fin : ∀ y : Nat, y = c + (if mq_byt x (s / 8) = 0 then 0 else 1) → mj_T D mj_m160 22 [some (.int x), some (.int (jn (y : Nat))), some (.int (jn (s : Nat)))] [] h Q := fun y hy => by
    subst hy
    refine mj_T.iinc (a := (s : Int)) rfl rfl ?_
    exact mj_T.pl rfl rfl rfl rfl k
  refine mj_T.eq (st2 := [.int (jn (mq_byt x (s / 8) : Nat))]) ?_ rfl rfl (congrArg (fun v => [Value.int v]) (jb_shr x hs)) rfl
  refine mj_T.if0 rfl ⟨by omega, by omega⟩ (fun hc => ?_) (fun hc => ?_)
  · simp only [jc, decide_eq_true_eq] at hc
    exact fin c (by rw [if_pos (by omega)]; rfl)
  · simp only [jc, decide_eq_false_iff_not] at hc
    refine mj_T.iinc (a := (c : Int)) rfl rfl ?_
    exact fin (c + 1) (by rw [if_neg (by omega)])
theorem jb_in : mj_Ok (D + 1) 160 [.int x] h (fun r => r = (.inl (some (.int (jn (mq_nby x : Nat)))), h)) := by
  refine mj_Ok.of (M := mj_m160) rfl rfl rfl ?_
  iterate 4 refine mj_T.pl rfl rfl rfl rfl ?_
  have hi : ∀ k, (if mq_byt x k = 0 then 0 else 1) ≤ 1 := fun k => by split <;> decide
  have i3 := hi 3
  have i2 := hi 2
  have i1 := hi 1
  refine jb_in_step (s := 24) (c := 0) (by decide) (by decide) ?_
  refine jb_in_step (s := 16) (by decide) (by show 0 + (if mq_byt x 3 = 0 then 0 else 1) < 1000; omega) ?_
  refine jb_in_step (s := 8) (by decide) (by show 0 + (if mq_byt x 3 = 0 then 0 else 1) + (if mq_byt x 2 = 0 then 0 else 1) < 1000; omega) ?_
  refine jb_in_step (s := 0) (by decide) (by show 0 + (if mq_byt x 3 = 0 then 0 else 1) + (if mq_byt x 2 = 0 then 0 else 1) + (if mq_byt x 1 = 0 then 0 else 1) < 1000; omega) ?_
  refine mj_T.pl rfl rfl rfl rfl ?_
  refine mj_T.if0 (a := ((0 : Nat) : Int) + -8) rfl ⟨by omega, by omega⟩ (fun hc => ?_) (fun hc => ?_)
  rotate_left
  · simp only [jc, decide_eq_false_iff_not] at hc; omega
  refine mj_T.pl rfl rfl rfl rfl ?_
  refine mj_T.ret rfl rfl rfl ?_
  show (Sum.inl (some (Value.int (jn ((0 + (if mq_byt x 3 = 0 then 0 else 1) + (if mq_byt x 2 = 0 then 0 else 1) + (if mq_byt x 1 = 0 then 0 else 1) + (if mq_byt x 0 = 0 then 0 else 1) : Nat) : Int)))), h) = _
  rw [show 0 + (if mq_byt x 3 = 0 then 0 else 1) + (if mq_byt x 2 = 0 then 0 else 1) + (if mq_byt x 1 = 0 then 0 else 1) + (if mq_byt x 0 = 0 then 0 else 1) = mq_nby x by unfold mq_nby; omega]
end MBY
def jbx (x1 x2 x3 x4 x5 : Int32) (k : Nat) : Int32 := if k < 4 then x1 else if k < 8 then x2 else if k < 12 then x3 else if k < 16 then x4 else x5
def jbk (x1 x2 x3 x4 x5 : Int32) (k : Nat) : Nat := mq_byt (jbx x1 x2 x3 x4 x5 k) (3 - k % 4)
def jcn (x1 x2 x3 x4 x5 : Int32) : Nat → Nat
  | 0 => 0
  | k + 1 => jcn x1 x2 x3 x4 x5 k + (if jbk x1 x2 x3 x4 x5 k = 0 then 0 else 1)
theorem jcn_le (x1 x2 x3 x4 x5 : Int32) : ∀ k, jcn x1 x2 x3 x4 x5 k ≤ k
  | 0 => Nat.le_refl 0
  | k + 1 => by
    have := jcn_le x1 x2 x3 x4 x5 k
    show jcn x1 x2 x3 x4 x5 k + (if jbk x1 x2 x3 x4 x5 k = 0 then 0 else 1) ≤ k + 1
    split <;> omega
theorem jcn_20 (x1 x2 x3 x4 x5 : Int32) : jcn x1 x2 x3 x4 x5 20 = mq_nby x1 + mq_nby x2 + mq_nby x3 + mq_nby x4 + mq_nby x5 := by
  have e : jcn x1 x2 x3 x4 x5 20 = 0 + (if mq_byt x1 3 = 0 then 0 else 1) + (if mq_byt x1 2 = 0 then 0 else 1) + (if mq_byt x1 1 = 0 then 0 else 1) + (if mq_byt x1 0 = 0 then 0 else 1) + (if mq_byt x2 3 = 0 then 0 else 1) + (if mq_byt x2 2 = 0 then 0 else 1) + (if mq_byt x2 1 = 0 then 0 else 1) + (if mq_byt x2 0 = 0 then 0 else 1) + (if mq_byt x3 3 = 0 then 0 else 1) + (if mq_byt x3 2 = 0 then 0 else 1) + (if mq_byt x3 1 = 0 then 0 else 1) + (if mq_byt x3 0 = 0 then 0 else 1) + (if mq_byt x4 3 = 0 then 0 else 1) + (if mq_byt x4 2 = 0 then 0 else 1) + (if mq_byt x4 1 = 0 then 0 else 1) + (if mq_byt x4 0 = 0 then 0 else 1) + (if mq_byt x5 3 = 0 then 0 else 1) + (if mq_byt x5 2 = 0 then 0 else 1) + (if mq_byt x5 1 = 0 then 0 else 1) + (if mq_byt x5 0 = 0 then 0 else 1) := rfl
  rw [e]
  unfold mq_nby
  simp only [Nat.zero_add, Nat.add_assoc]
section MRA
variable {D : Nat} {h : mj_H} {a : Nat} {x1 x2 x3 x4 x5 : Int32} {Q : mj_R → Prop}
theorem jb_of {k : Nat} (hk : k < 20) : mj_Ok (D + 1) 284 [.ref a, .int (jn (k : Nat)), .int x1, .int x2, .int x3, .int x4, .int x5] h (fun r => r = (.inl (some (.int (jn (jbk x1 x2 x3 x4 x5 k : Nat)))), h)) := by
  refine mj_Ok.of (M := mj_m284) rfl rfl rfl ?_
  have fin : ∀ x : Int32, x = jbx x1 x2 x3 x4 x5 k → mj_T D mj_m284 43 [some (.ref a), some (.int (jn (k : Nat))), some (.int x1), some (.int x2), some (.int x3), some (.int x4), some (.int x5), none] [.int x] h (fun r => r = (.inl (some (.int (jn (jbk x1 x2 x3 x4 x5 k : Nat)))), h)) := fun x hx => by
    subst hx
    iterate 6 refine mj_T.pl rfl rfl rfl rfl ?_
    refine mj_T.irem (a := (k : Int)) (b := 4) rfl ⟨by omega, by omega⟩ ⟨by decide, by decide⟩ (by decide) ?_
    rw [show (k : Int).tmod 4 = ((k % 4 : Nat) : Int) from rfl]
    refine mj_T.imul (a := 8) (b := ((k % 4 : Nat) : Int)) rfl ?_
    refine mj_T.isub (a := 24) (b := 8 * ((k % 4 : Nat) : Int)) rfl ?_
    have hs : 24 - 8 * (k % 4) = 24 ∨ 24 - 8 * (k % 4) = 16 ∨ 24 - 8 * (k % 4) = 8 ∨ 24 - 8 * (k % 4) = 0 := by omega
    rw [show (24 : Int) - 8 * ((k % 4 : Nat) : Int) = ((24 - 8 * (k % 4) : Nat) : Int) by omega]
    iterate 3 refine mj_T.pl rfl rfl rfl rfl ?_
    refine mj_T.eq (st2 := [.int (jn (mq_byt (jbx x1 x2 x3 x4 x5 k) ((24 - 8 * (k % 4)) / 8) : Nat))]) ?_ rfl rfl (congrArg (fun v => [Value.int v]) (jb_ushr (jbx x1 x2 x3 x4 x5 k) hs)) rfl
    refine mj_T.ret rfl rfl rfl ?_
    unfold jbk
    rw [show (24 - 8 * (k % 4)) / 8 = 3 - k % 4 by omega]
  have jmp : ∀ (b : Nat) {c : Bool}, jc .ge ((k : Nat) : Int) ((b : Nat) : Int) = c → (c = true ↔ b ≤ k) := fun b c hc => by
    rw [← hc]
    simp only [jc, decide_eq_true_eq]
    omega
  iterate 2 refine mj_T.pl rfl rfl rfl rfl ?_
  refine mj_T.icmp (a := ((k : Nat) : Int)) (b := ((4 : Nat) : Int)) rfl ⟨by omega, by omega⟩ ⟨by decide, by decide⟩ (fun hc => ?_) (fun hc => ?_)
  · have c1 := (jmp 4 hc).mp rfl
    iterate 2 refine mj_T.pl rfl rfl rfl rfl ?_
    refine mj_T.icmp (a := ((k : Nat) : Int)) (b := ((8 : Nat) : Int)) rfl ⟨by omega, by omega⟩ ⟨by decide, by decide⟩ (fun hc => ?_) (fun hc => ?_)
    · have c2 := (jmp 8 hc).mp rfl
      iterate 2 refine mj_T.pl rfl rfl rfl rfl ?_
      refine mj_T.icmp (a := ((k : Nat) : Int)) (b := ((12 : Nat) : Int)) rfl ⟨by omega, by omega⟩ ⟨by decide, by decide⟩ (fun hc => ?_) (fun hc => ?_)
      · have c3 := (jmp 12 hc).mp rfl
        iterate 2 refine mj_T.pl rfl rfl rfl rfl ?_
        refine mj_T.icmp (a := ((k : Nat) : Int)) (b := ((16 : Nat) : Int)) rfl ⟨by omega, by omega⟩ ⟨by decide, by decide⟩ (fun hc => ?_) (fun hc => ?_)
        · have c4 := (jmp 16 hc).mp rfl
          refine mj_T.pl rfl rfl rfl rfl ?_
          exact fin x5 (by unfold jbx; rw [if_neg (by omega), if_neg (by omega), if_neg (by omega), if_neg (by omega)])
        · have c4 : ¬ 16 ≤ k := fun q => by have := (jmp 16 hc).mpr q; cases this
          iterate 2 refine mj_T.pl rfl rfl rfl rfl ?_
          exact fin x4 (by unfold jbx; rw [if_neg (by omega), if_neg (by omega), if_neg (by omega), if_pos (by omega)])
      · have c3 : ¬ 12 ≤ k := fun q => by have := (jmp 12 hc).mpr q; cases this
        iterate 2 refine mj_T.pl rfl rfl rfl rfl ?_
        exact fin x3 (by unfold jbx; rw [if_neg (by omega), if_neg (by omega), if_pos (by omega)])
    · have c2 : ¬ 8 ≤ k := fun q => by have := (jmp 8 hc).mpr q; cases this
      iterate 2 refine mj_T.pl rfl rfl rfl rfl ?_
      exact fin x2 (by unfold jbx; rw [if_neg (by omega), if_pos (by omega)])
  · have c1 : ¬ 4 ≤ k := fun q => by have := (jmp 4 hc).mpr q; cases this
    iterate 2 refine mj_T.pl rfl rfl rfl rfl ?_
    exact fin x1 (by unfold jbx; rw [if_pos (by omega)])
theorem jb_count {fs0 : List Value} {l8 : Option Value} (hA : h[a]? = some (.inr (10, fs0))) (K : mj_T (D + 1) mj_m285 50 [some (.ref a), some (.int x1), some (.int x2), some (.int x3), some (.int x4), some (.int x5), some (.int (jn (jcn x1 x2 x3 x4 x5 20 : Nat))), some (.int (jn (20 : Nat))), l8] [] h Q) : ∀ m k : Nat, k + m = 20 → mj_T (D + 1) mj_m285 11 [some (.ref a), some (.int x1), some (.int x2), some (.int x3), some (.int x4), some (.int x5), some (.int (jn (jcn x1 x2 x3 x4 x5 k : Nat))), some (.int (jn (k : Nat))), l8] [] h Q
  | 0, k, hk => by
    have e : k = 20 := by omega
    subst e
    iterate 2 refine mj_T.pl rfl rfl rfl rfl ?_
    refine mj_T.icmp (a := ((20 : Nat) : Int)) (b := 20) rfl ⟨by decide, by decide⟩ ⟨by decide, by decide⟩ (fun hc => K) (fun hc => ?_)
    simp only [jc, decide_eq_false_iff_not] at hc; omega
  | m + 1, k, hk => by
    have hb := jb_byt_lt (jbx x1 x2 x3 x4 x5 k) (3 - k % 4)
    have hb : jbk x1 x2 x3 x4 x5 k < 256 := hb
    iterate 2 refine mj_T.pl rfl rfl rfl rfl ?_
    refine mj_T.icmp (a := (k : Int)) (b := 20) rfl ⟨by omega, by omega⟩ ⟨by decide, by decide⟩ (fun hc => ?_) (fun hc => ?_)
    · simp only [jc, decide_eq_true_eq] at hc; omega
    clear hc
    iterate 8 refine mj_T.pl rfl rfl rfl rfl ?_
    refine mj_T.call (ins := .invokevirtual 344) rfl rfl (Nat.le_of_ble_eq_true rfl) (Nat.le_of_ble_eq_true rfl) (by simp [mj_recv, hA]) rfl (jb_of (D := D) (a := a) (x1 := x1) (x2 := x2) (x3 := x3) (x4 := x4) (x5 := x5) (show k < 20 by omega)) (fun v' h' hq' => ?_) (fun i h' hq' => by cases hq')
    cases hq'
    have fin : ∀ y : Nat, y = (if jbk x1 x2 x3 x4 x5 k = 0 then 0 else 1) → mj_T (D + 1) mj_m285 41 [some (.ref a), some (.int x1), some (.int x2), some (.int x3), some (.int x4), some (.int x5), some (.int (jn (jcn x1 x2 x3 x4 x5 k : Nat))), some (.int (jn (k : Nat))), l8] [.int (jn (y : Nat)), .int (jn (jcn x1 x2 x3 x4 x5 k : Nat))] h Q := fun y hy => by
      subst hy
      refine mj_T.iadd (a := (jcn x1 x2 x3 x4 x5 k : Nat)) rfl ?_
      refine mj_T.pl rfl rfl rfl rfl ?_
      refine mj_T.iinc (a := (k : Int)) rfl rfl ?_
      refine mj_T.pl rfl rfl rfl rfl ?_
      exact jb_count hA K m (k + 1) (by omega)
    refine mj_T.if0 (a := ((jbk x1 x2 x3 x4 x5 k : Nat) : Int)) rfl ⟨by omega, by omega⟩ (fun hc => ?_) (fun hc => ?_)
    · simp only [jc, decide_eq_true_eq] at hc
      refine mj_T.pl rfl rfl rfl rfl ?_
      exact fin 0 (by rw [if_pos (by omega)])
    · simp only [jc, decide_eq_false_iff_not] at hc
      iterate 2 refine mj_T.pl rfl rfl rfl rfl ?_
      exact fin 1 (by rw [if_neg (by omega)])
end MRA
/-- the text with the bytes behind it -/
def apT (x1 x2 x3 x4 x5 : Int32) (tm : Nat) (T : Nat → Int) : Nat → (Nat → Int)
  | 0 => T
  | k + 1 => if jbk x1 x2 x3 x4 x5 k = 0 then apT x1 x2 x3 x4 x5 tm T k else jvu (apT x1 x2 x3 x4 x5 tm T k) (tm + jcn x1 x2 x3 x4 x5 k) (jbk x1 x2 x3 x4 x5 k : Nat)
theorem apT_ok (x1 x2 x3 x4 x5 : Int32) {tm : Nat} {T : Nat → Int} (h : ∀ j : Nat, j < tm → 1 ≤ T j ∧ T j ≤ 255) : ∀ k j, j < tm + jcn x1 x2 x3 x4 x5 k → 1 ≤ apT x1 x2 x3 x4 x5 tm T k j ∧ apT x1 x2 x3 x4 x5 tm T k j ≤ 255
  | 0, j, hj => h j hj
  | k + 1, j, hj => by
    have ih := apT_ok x1 x2 x3 x4 x5 h k
    have hb : jbk x1 x2 x3 x4 x5 k < 256 := jb_byt_lt (jbx x1 x2 x3 x4 x5 k) (3 - k % 4)
    have e : jcn x1 x2 x3 x4 x5 (k + 1) = jcn x1 x2 x3 x4 x5 k + (if jbk x1 x2 x3 x4 x5 k = 0 then 0 else 1) := rfl
    rw [e] at hj
    unfold apT
    split
    · rename_i c
      rw [if_pos c] at hj
      exact ih j hj
    · rename_i c
      rw [if_neg c] at hj
      by_cases q : j = tm + jcn x1 x2 x3 x4 x5 k
      · rw [q, jvu_at]
        omega
      · rw [jvu_ne _ _ _ q]
        exact ih j (by omega)
/-- what holds between two calls, with what was thrown -/
def jIt (c tm er : Int) (T : Nat → Int) (h : mj_H) : Prop := ∃ S N B X V : Nat → Int, rS S N B T X V h ∧ jK tm er S N B T ∧ S 3 = c
theorem jIt.to {c tm er : Int} {T : Nat → Int} {h : mj_H} (k : jIt c tm er T h) : jI tm er T h := by
  obtain ⟨S, N, B, X, V, h1, h2, _⟩ := k
  exact ⟨S, N, B, X, V, h1, h2⟩
section RPU
variable {h : mj_H} {tm er : Int} {T : Nat → Int}
theorem rp_ap_loop {S N B X V T0 : Nat → Int} {x1 x2 x3 x4 x5 : Int32} {tm0 : Nat} (hroom : tm0 + jcn x1 x2 x3 x4 x5 20 ≤ 200) (hj : ∀ k, k ≤ 20 → jcn x1 x2 x3 x4 x5 k ≤ jcn x1 x2 x3 x4 x5 20) {Q : mj_R → Prop}
    (hend : ∀ h, rS (jvu S 9 ((tm0 + jcn x1 x2 x3 x4 x5 20 : Nat) : Int)) N B (apT x1 x2 x3 x4 x5 tm0 T0 20) X V h → Q (.inl (some (.int (jn ((tm0 + jcn x1 x2 x3 x4 x5 20 : Nat) : Int)))), h)) :
    ∀ (m k : Nat) (h : mj_H) (l8 : Option Value), k + m = 20 → rS (jvu S 9 ((tm0 + jcn x1 x2 x3 x4 x5 k : Nat) : Int)) N B (apT x1 x2 x3 x4 x5 tm0 T0 k) X V h → mj_T 39 mj_m285 72 [some (.ref 0), some (.int x1), some (.int x2), some (.int x3), some (.int x4), some (.int x5), some (.int (jn (jcn x1 x2 x3 x4 x5 20 : Nat))), some (.int (jn (k : Nat))), l8] [] h Q := by
  intro m
  induction m with
  | zero =>
    intro k h l8 hk hs
    have hk : k = 20 := by omega
    subst hk
    iterate 2 refine mj_T.pl rfl rfl rfl rfl ?_
    refine mj_T.icmp (a := ((20 : Nat) : Int)) (b := 20) rfl ⟨by decide, by decide⟩ ⟨by decide, by decide⟩ (fun hc => ?_) (fun hc => ?_)
    · refine mj_T.pl rfl rfl rfl rfl ?_
      refine rT_get (v := .int (jn ((tm0 + jcn x1 x2 x3 x4 x5 20 : Nat) : Int))) hs rfl (by show some (Value.int (jn (jvu S 9 _ 9))) = _; rw [jvu_at]) ?_
      exact mj_T.ret rfl rfl rfl (hend h hs)
    · simp [jc] at hc
  | succ m ih =>
    intro k h l8 hk hs
    have hb : jbk x1 x2 x3 x4 x5 k < 256 := jb_byt_lt (jbx x1 x2 x3 x4 x5 k) (3 - k % 4)
    have hj1 := hj (k + 1) (by omega)
    have e9 : ∀ z : Int, (rF (jvu S 9 z))[9]? = some (.int (jn z)) := fun z => by
      show some (Value.int (jn (jvu S 9 z 9))) = _
      rw [jvu_at]
    iterate 2 refine mj_T.pl rfl rfl rfl rfl ?_
    refine mj_T.icmp (a := (k : Int)) (b := 20) rfl ⟨by omega, by omega⟩ ⟨by decide, by decide⟩ (fun hc => ?_) (fun hc => ?_)
    · simp only [jc, decide_eq_true_eq] at hc
      omega
    iterate 7 refine mj_T.pl rfl rfl rfl rfl ?_
    refine mj_T.call (ins := .invokevirtual 344) rfl rfl (Nat.le_of_ble_eq_true rfl) (Nat.le_of_ble_eq_true rfl) (by simp [mj_recv, rS_f hs]) rfl (mj_Ok.up (by decide) (jb_of (D := 0) (a := 0) (x1 := x1) (x2 := x2) (x3 := x3) (x4 := x4) (x5 := x5) (show k < 20 by omega))) (fun v' h' hq' => ?_) (fun i h' hq' => by cases hq')
    cases hq'
    iterate 2 refine mj_T.pl rfl rfl rfl rfl ?_
    have ec : jcn x1 x2 x3 x4 x5 (k + 1) = jcn x1 x2 x3 x4 x5 k + (if jbk x1 x2 x3 x4 x5 k = 0 then 0 else 1) := rfl
    refine mj_T.if0 (a := ((jbk x1 x2 x3 x4 x5 k : Nat) : Int)) rfl ⟨by omega, by omega⟩ (fun hc2 => ?_) (fun hc2 => ?_)
    · simp only [jc, Bool.not_eq_true', decide_eq_false_iff_not] at hc2
      have hb0 : jbk x1 x2 x3 x4 x5 k ≠ 0 := by omega
      rw [if_neg hb0] at ec
      refine mj_T.pl rfl rfl rfl rfl ?_
      refine rT_get hs rfl rfl ?_
      refine mj_T.pl rfl rfl rfl rfl ?_
      refine rT_get hs rfl (e9 _) ?_
      refine mj_T.pl rfl rfl rfl rfl ?_
      refine rT_stT hs rfl ⟨by omega, by omega⟩ (fun h1 hs1 => ?_)
      rw [Int.toNat_natCast] at hs1
      iterate 2 refine mj_T.pl rfl rfl rfl rfl ?_
      refine rT_get hs1 rfl (e9 _) ?_
      refine mj_T.pl rfl rfl rfl rfl ?_
      refine mj_T.iadd (a := ((tm0 + jcn x1 x2 x3 x4 x5 k : Nat) : Int)) (b := 1) rfl ?_
      rw [show ((tm0 + jcn x1 x2 x3 x4 x5 k : Nat) : Int) + 1 = ((tm0 + jcn x1 x2 x3 x4 x5 (k + 1) : Nat) : Int) by omega]
      refine rT_put (v := ((tm0 + jcn x1 x2 x3 x4 x5 (k + 1) : Nat) : Int)) hs1 rfl rfl (by decide) rfl (fun h2 hs2 => ?_)
      rw [jvu_jvu] at hs2
      refine mj_T.iinc (a := (k : Int)) rfl rfl ?_
      refine mj_T.pl rfl rfl rfl rfl ?_
      refine ih (k + 1) h2 _ (by omega) ?_
      rw [show apT x1 x2 x3 x4 x5 tm0 T0 (k + 1) = jvu (apT x1 x2 x3 x4 x5 tm0 T0 k) (tm0 + jcn x1 x2 x3 x4 x5 k) (jbk x1 x2 x3 x4 x5 k : Nat) from if_neg hb0]
      exact hs2
    · simp only [jc, Bool.not_eq_false', decide_eq_true_eq] at hc2
      have hb0 : jbk x1 x2 x3 x4 x5 k = 0 := by omega
      rw [if_pos hb0, Nat.add_zero] at ec
      refine mj_T.pl rfl rfl rfl rfl ?_
      refine mj_T.iinc (a := (k : Int)) rfl rfl ?_
      refine mj_T.pl rfl rfl rfl rfl ?_
      refine ih (k + 1) h _ (by omega) ?_
      rw [show apT x1 x2 x3 x4 x5 tm0 T0 (k + 1) = apT x1 x2 x3 x4 x5 tm0 T0 k from if_pos hb0, ec]
      exact hs
theorem jcn_mono (x1 x2 x3 x4 x5 : Int32) {k : Nat} : ∀ n, k ≤ n → jcn x1 x2 x3 x4 x5 k ≤ jcn x1 x2 x3 x4 x5 n
  | 0, h => by
    have : k = 0 := by omega
    rw [this]
    exact Nat.le_refl _
  | n + 1, h => by
    by_cases q : k = n + 1
    · rw [q]
      exact Nat.le_refl _
    · exact Nat.le_trans (jcn_mono x1 x2 x3 x4 x5 n (by omega)) (Nat.le_add_right _ _)
theorem jK.text {tm er : Int} {S N B T : Nat → Int} (K : jK tm er S N B T) {n : Nat} {T2 : Nat → Int} (hn : n ≤ 200) (hT : ∀ j : Nat, j < n → 1 ≤ T2 j ∧ T2 j ≤ 255) : jK n er (jvu S 9 (n : Int)) N B T2 := by
  obtain ⟨k1, k2, k3, k4, k5, k6, k7, k8, k9⟩ := K
  have e : ∀ x, x ≠ 9 → jvu S 9 (n : Int) x = S x := fun x hx => jvu_ne _ _ _ hx
  refine ⟨k1, by rw [e 2 (by decide)]; exact k2, fun j hj => k3 j (by rw [e 2 (by decide)] at hj; exact hj), ⟨jvu_at _ _ _, by omega, by omega⟩, by rw [e 12 (by decide)]; exact k5, by rw [e 15 (by decide)]; exact k6, fun x => ?_, by rw [e 13 (by decide)]; exact k8, fun j hj => hT j (by omega)⟩
  by_cases hx : x = 9
  · subst hx
    rw [jvu_at]
    exact ⟨by omega, by omega⟩
  · rw [e x hx]
    exact k7 x
theorem rp_append {x1 x2 x3 x4 x5 : Int32} {tm0 : Nat} (hI : jI (tm0 : Int) er T h) : mj_Ok 40 285 [.ref 0, .int x1, .int x2, .int x3, .int x4, .int x5] h (fun r => (200 < tm0 + jcn x1 x2 x3 x4 x5 20 ∧ ∃ h', jIt 1 tm0 er T h' ∧ r = (.inl (some (.int (jn 0))), h')) ∨ (tm0 + jcn x1 x2 x3 x4 x5 20 ≤ 200 ∧ ∃ h', jIt 0 ((tm0 + jcn x1 x2 x3 x4 x5 20 : Nat) : Int) er (apT x1 x2 x3 x4 x5 tm0 T 20) h' ∧ r = (.inl (some (.int (jn ((tm0 + jcn x1 x2 x3 x4 x5 20 : Nat) : Int)))), h'))) := by
  refine mj_Ok.of (M := mj_m285) rfl rfl rfl ?_
  obtain ⟨S, N, B, X, V, hs, K⟩ := hI
  iterate 2 refine mj_T.pl rfl rfl rfl rfl ?_
  refine rT_put (v := 0) hs rfl rfl (by decide) rfl (fun h1 hs1 => ?_)
  have K1 := K.put (k := 3) (v := 0) ⟨by decide, by decide⟩ (by decide) (by decide) (by decide) (by decide) (by decide)
  have e3 : jvu S 3 0 3 = 0 := jvu_at _ _ _
  generalize jvu S 3 0 = S1 at hs1 K1 e3
  have k4 := K1.2.2.2.1
  have k9 := K1.2.2.2.2.2.2.2.2
  have hle := jcn_le x1 x2 x3 x4 x5 20
  iterate 4 refine mj_T.pl rfl rfl rfl rfl ?_
  refine jb_count (D := 38) (a := 0) (rS_f hs1) ?_ 20 0 (by omega)
  refine mj_T.pl rfl rfl rfl rfl ?_
  refine rT_get hs1 rfl rfl ?_
  rw [k4.1]
  refine mj_T.pl rfl rfl rfl rfl ?_
  refine mj_T.iadd (a := (tm0 : Int)) (b := ((jcn x1 x2 x3 x4 x5 20 : Nat) : Int)) rfl ?_
  rw [show (tm0 : Int) + ((jcn x1 x2 x3 x4 x5 20 : Nat) : Int) = ((tm0 + jcn x1 x2 x3 x4 x5 20 : Nat) : Int) by omega]
  refine mj_T.pl rfl rfl rfl rfl ?_
  refine mj_T.icmp (a := ((tm0 + jcn x1 x2 x3 x4 x5 20 : Nat) : Int)) (b := 200) rfl ⟨by omega, by omega⟩ ⟨by decide, by decide⟩ (fun hc => ?_) (fun hc => ?_)
  · simp only [jc, decide_eq_true_eq] at hc
    iterate 2 refine mj_T.pl rfl rfl rfl rfl ?_
    have es : jvu S1 9 (tm0 : Int) = S1 := funext fun x => by
      unfold jvu
      split
      · rename_i q
        rw [q, k4.1]
      · rfl
    refine rp_ap_loop (S := S1) (N := N) (B := B) (X := X) (V := V) (T0 := T) (tm0 := tm0) (by omega) (fun k hk => jcn_mono x1 x2 x3 x4 x5 20 hk) (fun h2 hs2 => Or.inr ⟨by omega, h2, ⟨_, _, _, _, _, hs2, K1.text (by omega) (fun j hj2 => apT_ok x1 x2 x3 x4 x5 (fun j2 hj3 => k9 j2 (by omega)) 20 j hj2), by rw [jvu_ne _ _ _ (by decide)]; exact e3⟩, rfl⟩) 20 0 h1 _ (by omega) ?_
    show rS (jvu S1 9 ((tm0 + 0 : Nat) : Int)) N B T X V h1
    rw [Nat.add_zero, es]
    exact hs1
  simp only [jc, decide_eq_false_iff_not] at hc
  iterate 2 refine mj_T.pl rfl rfl rfl rfl ?_
  refine mj_T.call (ins := .invokevirtual 198) rfl rfl (Nat.le_of_ble_eq_true rfl) (Nat.le_of_ble_eq_true rfl) (by simp [mj_recv, rS_f hs1]) rfl (mj_Ok.up (by decide) (rp_fails (D := 0) (c := 1) hs1)) (fun v' h2 hq' => ?_) (fun i h' hq' => by obtain ⟨_, _, h⟩ := hq'; cases h)
  obtain ⟨_, hs2, hq'⟩ := hq'
  cases hq'
  exact mj_T.ret rfl rfl rfl (Or.inl ⟨by omega, h2, ⟨_, _, _, _, _, hs2, K1.put ⟨by decide, by decide⟩ (by decide) (by decide) (by decide) (by decide) (by decide), jvu_at _ _ _⟩, rfl⟩)
end RPU
/-! Calls of the reference: errors: it is 0. -/
theorem rp_er1 : 10 ^ 18 * 10 ^ 18 < jB ^ 698 := by decide +kernel
section RPU
variable {h : mj_H} {tm er : Int} {T : Nat → Int}
theorem rp_er_in {S N B X : Nat → Int} {a : Nat} (ha : a ≤ 5) (K : jK tm er S N B T) {Q : mj_R → Prop} (hend : ∀ (V : Nat → Int) (h : mj_H), rS S N B T X V h → mj_T 39 mj_m309 125 [some (.ref 0), some (.int (jn 0)), some (.int (jn (a : Int))), some (.int (jn 6))] [] h Q) :
    ∀ (m b : Nat) (V : Nat → Int) (h : mj_H), b + m = 6 → rS S N B T X V h → mj_T 39 mj_m309 19 [some (.ref 0), some (.int (jn 0)), some (.int (jn (a : Int))), some (.int (jn (b : Int)))] [] h Q := by
  intro m
  induction m with
  | zero =>
    intro b V h hb hs
    have hb : b = 6 := by omega
    subst hb
    iterate 2 refine mj_T.pl rfl rfl rfl rfl ?_
    refine mj_T.icmp (a := ((6 : Nat) : Int)) (b := 6) rfl ⟨by decide, by decide⟩ ⟨by decide, by decide⟩ (fun hc => ?_) (fun hc => ?_)
    · exact hend V h hs
    · simp [jc] at hc
  | succ m ih =>
    intro b V h hb hs
    iterate 2 refine mj_T.pl rfl rfl rfl rfl ?_
    refine mj_T.icmp (a := (b : Int)) (b := 6) rfl ⟨by omega, by omega⟩ ⟨by decide, by decide⟩ (fun hc => ?_) (fun hc => ?_)
    · simp only [jc, decide_eq_true_eq] at hc
      omega
    have t119 : ∀ (V2 : Nat → Int) (h2 : mj_H), rS S N B T X V2 h2 → mj_T 39 mj_m309 119 [some (.ref 0), some (.int (jn 0)), some (.int (jn (a : Int))), some (.int (jn (b : Int)))] [] h2 Q := fun V2 h2 hs2 => by
      refine mj_T.iinc (a := (b : Int)) rfl rfl ?_
      refine mj_T.pl rfl rfl rfl rfl ?_
      exact ih (b + 1) V2 h2 (by omega) hs2
    iterate 2 refine mj_T.pl rfl rfl rfl rfl ?_
    refine mj_T.call (ins := .invokevirtual 232) rfl rfl (Nat.le_of_ble_eq_true rfl) (Nat.le_of_ble_eq_true rfl) (by simp [mj_recv, rS_f hs]) rfl (mj_Ok.up (by decide) (rp_isZero (D := 0) (r := a) (by omega) K.nR hs)) (fun v' h' hq' => ?_) (fun i h' hq' => by rcases hq' with ⟨_, h⟩ | ⟨_, h⟩ <;> cases h)
    rcases hq' with ⟨_, hq'⟩ | ⟨nza, hq'⟩
    case' inl =>
      cases hq'
      refine mj_T.if0 (a := 1) rfl ⟨by decide, by decide⟩ (fun hc => ?_) (fun hc => ?_)
      · exact t119 V h hs
      · simp [jc] at hc
    cases hq'
    refine mj_T.if0 (a := 0) rfl ⟨by decide, by decide⟩ (fun hc => ?_) (fun hc => ?_)
    · simp [jc] at hc
    iterate 2 refine mj_T.pl rfl rfl rfl rfl ?_
    refine mj_T.call (ins := .invokevirtual 232) rfl rfl (Nat.le_of_ble_eq_true rfl) (Nat.le_of_ble_eq_true rfl) (by simp [mj_recv, rS_f hs]) rfl (mj_Ok.up (by decide) (rp_isZero (D := 0) (r := b) (by omega) K.nR hs)) (fun v' h' hq' => ?_) (fun i h' hq' => by rcases hq' with ⟨_, h⟩ | ⟨_, h⟩ <;> cases h)
    rcases hq' with ⟨_, hq'⟩ | ⟨nzb, hq'⟩
    case' inl =>
      cases hq'
      refine mj_T.if0 (a := 1) rfl ⟨by decide, by decide⟩ (fun hc => ?_) (fun hc => ?_)
      · simp [jc] at hc
      refine mj_T.pl rfl rfl rfl rfl ?_
      exact t119 V h hs
    cases hq'
    refine mj_T.if0 (a := 0) rfl ⟨by decide, by decide⟩ (fun hc => ?_) (fun hc => ?_)
    rotate_left
    · simp [jc] at hc
    have hda := jdg_le N a 13
    have hna := jdg_ne N a 13 nza
    obtain ⟨da, ea⟩ : ∃ d, jdg N a 13 = d + 1 := ⟨jdg N a 13 - 1, by omega⟩
    rw [ea, Nat.add_sub_cancel] at hna
    have hga := K.1.1 (a * 13 + da) (by omega)
    have hdb := jdg_le N b 13
    have hnb := jdg_ne N b 13 nzb
    obtain ⟨db, eb⟩ : ∃ d, jdg N b 13 = d + 1 := ⟨jdg N b 13 - 1, by omega⟩
    rw [eb, Nat.add_sub_cancel] at hnb
    have hgb := K.1.1 (b * 13 + db) (by omega)
    iterate 3 refine mj_T.pl rfl rfl rfl rfl ?_
    refine rT_get hs rfl rfl ?_
    iterate 2 refine mj_T.pl rfl rfl rfl rfl ?_
    refine mj_T.imul (a := (a : Int)) (b := 13) rfl ?_
    iterate 2 refine mj_T.pl rfl rfl rfl rfl ?_
    refine mj_T.call (ins := .invokevirtual 185) rfl rfl (Nat.le_of_ble_eq_true rfl) (Nat.le_of_ble_eq_true rfl) (by simp [mj_recv, rS_f hs]) rfl (mj_Ok.up (by decide) (rp_degreeIn (D := 0) (r := a) (by omega) K.nR hs)) (fun v' h' hq' => ?_) (fun i h' hq' => by cases hq')
    cases hq'
    rw [ea, show ((da + 1 : Nat) : Int) - 1 = (da : Int) by omega]
    refine mj_T.iadd rfl ?_
    rw [show (a : Int) * 13 + (da : Int) = ((a * 13 + da : Nat) : Int) by omega]
    refine rT_ldN hs rfl ⟨by omega, by omega⟩ ?_
    rw [Int.toNat_natCast]
    refine mj_T.call (ins := .invokevirtual 45) rfl rfl (Nat.le_of_ble_eq_true rfl) (Nat.le_of_ble_eq_true rfl) (by simp [mj_recv, rS_f hs]) rfl (mj_Ok.up (by decide) (jS_sets (D := 0) (rG S N B T X) (s := 652) (v := N (a * 13 + da)) (by decide) (K.nR _ (by omega)) hs)) (fun v' g1 hq' => ?_) (fun i h' hq' => by obtain ⟨_, _, h⟩ := hq'; cases h)
    obtain ⟨_, hs1, hq'⟩ := hq'
    cases hq'
    have u11 : jvu V 652 (N (a * 13 + da)) 652 = N (a * 13 + da) := jvu_at _ _ _
    have u12 : ∀ s, s ≠ 652 → jvu V 652 (N (a * 13 + da)) s = V s := fun s hne => jvu_ne _ _ _ hne
    generalize jvu V 652 (N (a * 13 + da)) = W1 at hs1 u11 u12
    iterate 3 refine mj_T.pl rfl rfl rfl rfl ?_
    refine rT_get hs1 rfl rfl ?_
    iterate 2 refine mj_T.pl rfl rfl rfl rfl ?_
    refine mj_T.imul (a := (b : Int)) (b := 13) rfl ?_
    iterate 2 refine mj_T.pl rfl rfl rfl rfl ?_
    refine mj_T.call (ins := .invokevirtual 185) rfl rfl (Nat.le_of_ble_eq_true rfl) (Nat.le_of_ble_eq_true rfl) (by simp [mj_recv, rS_f hs1]) rfl (mj_Ok.up (by decide) (rp_degreeIn (D := 0) (r := b) (by omega) K.nR hs1)) (fun v' h' hq' => ?_) (fun i h' hq' => by cases hq')
    cases hq'
    rw [eb, show ((db + 1 : Nat) : Int) - 1 = (db : Int) by omega]
    refine mj_T.iadd rfl ?_
    rw [show (b : Int) * 13 + (db : Int) = ((b * 13 + db : Nat) : Int) by omega]
    refine rT_ldN hs1 rfl ⟨by omega, by omega⟩ ?_
    rw [Int.toNat_natCast]
    refine mj_T.call (ins := .invokevirtual 45) rfl rfl (Nat.le_of_ble_eq_true rfl) (Nat.le_of_ble_eq_true rfl) (by simp [mj_recv, rS_f hs1]) rfl (mj_Ok.up (by decide) (jS_sets (D := 0) (rG S N B T X) (s := 653) (v := N (b * 13 + db)) (by decide) (K.nR _ (by omega)) hs1)) (fun v' g2 hq' => ?_) (fun i h' hq' => by obtain ⟨_, _, h⟩ := hq'; cases h)
    obtain ⟨_, hs2, hq'⟩ := hq'
    cases hq'
    have u21 : jvu W1 653 (N (b * 13 + db)) 653 = N (b * 13 + db) := jvu_at _ _ _
    have u22 : ∀ s, s ≠ 653 → jvu W1 653 (N (b * 13 + db)) s = W1 s := fun s hne => jvu_ne _ _ _ hne
    generalize jvu W1 653 (N (b * 13 + db)) = W2 at hs2 u21 u22
    iterate 4 refine mj_T.pl rfl rfl rfl rfl ?_
    have hm : (W2 652 * W2 653).natAbs ≤ 10 ^ 18 * 10 ^ 18 := by
      rw [u21, u22 652 (by decide), u11, Int.natAbs_mul]
      exact Nat.mul_le_mul (by omega) (by omega)
    have hne : W2 652 * W2 653 ≠ 0 := fun e => by
      rw [u21, u22 652 (by decide), u11] at e
      rcases Int.mul_eq_zero.mp e with q | q
      · exact hna q
      · exact hnb q
    refine mj_T.call (ins := .invokevirtual 117) rfl rfl (Nat.le_of_ble_eq_true rfl) (Nat.le_of_ble_eq_true rfl) (by simp [mj_recv, rS_f hs2]) rfl (mj_Ok.up (by decide) (jS_mul (D := 0) (V := W2) (rG S N B T X) (to := 654) (a := 652) (b := 653) (by decide) (by decide) (by decide) (jnl_of_lt hm rp_er1) hs2)) (fun v' g3 hq' => ?_) (fun i h' hq' => by obtain ⟨_, _, h⟩ := hq'; cases h)
    obtain ⟨_, hs3, hq'⟩ := hq'
    cases hq'
    have u3 : jvu W2 654 (W2 652 * W2 653) 654 = W2 652 * W2 653 := jvu_at _ _ _
    generalize jvu W2 654 (W2 652 * W2 653) = W3 at hs3 u3
    iterate 3 refine mj_T.pl rfl rfl rfl rfl ?_
    refine mj_T.call (ins := .invokevirtual 68) rfl rfl (Nat.le_of_ble_eq_true rfl) (Nat.le_of_ble_eq_true rfl) (by simp [mj_recv, rS_f hs3]) rfl (mj_Ok.up (by decide) (jS_sign (D := 0) (rG S N B T X) (s := 654) (by decide) hs3)) (fun v' h' hq' => ?_) (fun i h' hq' => by cases hq')
    cases hq'
    have hsr := jsg_range (W3 654)
    refine mj_T.if0 (a := jsg (W3 654)) rfl ⟨by omega, by omega⟩ (fun hc2 => ?_) (fun hc2 => ?_)
    · refine mj_T.pl rfl rfl rfl rfl ?_
      refine mj_T.iadd (a := 0) (b := 0) rfl ?_
      refine mj_T.pl rfl rfl rfl rfl ?_
      exact t119 W3 _ hs3
    · simp only [jc, Bool.not_eq_false', decide_eq_true_eq] at hc2
      rcases (show W3 654 < 0 ∨ W3 654 = 0 ∨ 0 < W3 654 by omega) with q | q | q
      · rw [jsg_neg q] at hc2
        exact absurd hc2 (by decide)
      · rw [u3] at q
        exact absurd q hne
      · rw [jsg_pos q] at hc2
        exact absurd hc2 (by decide)
theorem rp_er_out {S N B X : Nat → Int} (K : jK tm er S N B T) {Q : mj_R → Prop} (hend : ∀ (V : Nat → Int) (h : mj_H), rS S N B T X V h → Q (.inl (some (.int (jn 0))), h)) :
    ∀ (m a : Nat) (V : Nat → Int) (h : mj_H) (l3 : Option Value), a + m = 6 → rS S N B T X V h → mj_T 39 mj_m309 9 [some (.ref 0), some (.int (jn 0)), some (.int (jn (a : Int))), l3] [] h Q := by
  intro m
  induction m with
  | zero =>
    intro a V h l3 ha hs
    have ha : a = 6 := by omega
    subst ha
    iterate 2 refine mj_T.pl rfl rfl rfl rfl ?_
    refine mj_T.icmp (a := ((6 : Nat) : Int)) (b := 6) rfl ⟨by decide, by decide⟩ ⟨by decide, by decide⟩ (fun hc => ?_) (fun hc => ?_)
    · refine mj_T.pl rfl rfl rfl rfl ?_
      exact mj_T.ret rfl rfl rfl (hend V h hs)
    · simp [jc] at hc
  | succ m ih =>
    intro a V h l3 ha hs
    iterate 2 refine mj_T.pl rfl rfl rfl rfl ?_
    refine mj_T.icmp (a := (a : Int)) (b := 6) rfl ⟨by omega, by omega⟩ ⟨by decide, by decide⟩ (fun hc => ?_) (fun hc => ?_)
    · simp only [jc, decide_eq_true_eq] at hc
      omega
    iterate 2 refine mj_T.pl rfl rfl rfl rfl ?_
    refine mj_T.iadd (a := (a : Int)) (b := 1) rfl ?_
    rw [show (a : Int) + 1 = ((a + 1 : Nat) : Int) by omega]
    refine mj_T.pl rfl rfl rfl rfl ?_
    refine rp_er_in (by omega) K (fun V2 h2 hs2 => ?_) (5 - a) (a + 1) V h (by omega) hs
    refine mj_T.iinc (a := (a : Int)) rfl rfl ?_
    refine mj_T.pl rfl rfl rfl rfl ?_
    exact ih (a + 1) V2 h2 _ (by omega) hs2
theorem rp_errors  (hI : jI tm er T h) : mj_Ok 40 309 [.ref 0] h (fun r => ∃ h2, r = (.inl (some (.int (jn 0))), h2) ∧ jI tm er T h2) := by
  refine mj_Ok.of (M := mj_m309) rfl rfl rfl ?_
  obtain ⟨S, N, B, X, V, hs, K⟩ := hI
  iterate 2 refine mj_T.pl rfl rfl rfl rfl ?_
  refine rT_put (v := 0) hs rfl rfl (by decide) rfl (fun g1 hs1 => ?_)
  have K1 := K.put (k := 3) (v := 0) ⟨by decide, by decide⟩ (by decide) (by decide) (by decide) (by decide) (by decide)
  generalize jvu S 3 0 = S1 at hs1 K1
  iterate 4 refine mj_T.pl rfl rfl rfl rfl ?_
  exact rp_er_out (S := S1) (N := N) (B := B) (X := X) K1 (fun V2 h2 hs2 => ⟨h2, rfl, ⟨_, _, _, _, _, hs2, K1⟩⟩) 6 0 _ _ none (by omega) hs1
end RPU
/-! The reading of a text: what it is, and the reference's small steps of it. -/
section RDS
variable (T : Nat → Int) (tm : Nat)
def rsk : Nat → Nat → Nat
  | 0, a => a
  | n + 1, a => if T a = 32 then rsk n (a + 1) else a
abbrev rskp (a : Nat) : Nat := rsk T (tm - a) a
def rdg : Nat → Nat → Nat
  | 0, a => a
  | n + 1, a => if 48 ≤ T a ∧ T a ≤ 57 then rdg n (a + 1) else a
abbrev rdgp (a : Nat) : Nat := rdg T (tm - a) a
def rvl (s : Nat) : Nat → Int
  | 0 => 0
  | n + 1 => 10 * rvl s n + T (s + n) - 48
def rtk (c : Int) (a : Nat) : Option Nat := if rskp T tm a < tm ∧ T (rskp T tm a) = c then some (rskp T tm a + 1) else none
def rnm (most : Int) (a : Nat) : Bool × Nat :=
  if (1 ≤ rdgp T tm (rskp T tm a) - rskp T tm a ∧ rdgp T tm (rskp T tm a) - rskp T tm a ≤ 18) ∧ rvl T (rskp T tm a) (rdgp T tm (rskp T tm a) - rskp T tm a) ≤ most then (true, rdgp T tm (rskp T tm a)) else (false, rskp T tm a)
def rex (a : Nat) : Bool × Nat := match rtk T tm 94 a with
  | some c => rnm T tm 12 c
  | none => (true, rskp T tm a)
/-- the reading: fuel, what (0 a power, 1 a product, 2 a sum's rest, 3 a sum), how many parentheses may be opened, from where; whether it is one, and where it ends or where the error is -/
def rpr0 : Nat → Nat → Nat → Nat → Option (Bool × Nat)
  | 0, _, _, _ => none
  | f + 1, 0, d, a =>
    if rskp T tm a < tm ∧ T (rskp T tm a) = 120 then some (rex T tm (rskp T tm a + 1))
    else if rskp T tm a < tm ∧ T (rskp T tm a) = 40 then
      (if d = 0 then some (false, rskp T tm a) else match rpr0 f 3 (d - 1) (rskp T tm a + 1) with
        | none => none
        | some (false, e) => some (false, e)
        | some (true, c) => match rtk T tm 41 c with
          | none => some (false, rskp T tm c)
          | some e => some (rex T tm e))
    else match rnm T tm 9223372036854775807 (rskp T tm a) with
      | (false, e) => some (false, e)
      | (true, c) => some (rex T tm c)
  | f + 1, 1, d, a => match rpr0 f 0 d a with
    | some (true, c) => (match rtk T tm 42 c with
      | none => some (true, rskp T tm c)
      | some e => rpr0 f 1 d e)
    | r => r
  | f + 1, 2, d, a => match rpr0 f 1 d a with
    | some (true, c) => (match rtk T tm 43 c with
      | some e => rpr0 f 2 d e
      | none => match rtk T tm 45 (rskp T tm c) with
        | some e => rpr0 f 2 d e
        | none => some (true, rskp T tm c))
    | r => r
  | f + 1, _ + 3, d, a => match rtk T tm 45 a with
    | some e => rpr0 f 2 d e
    | none => rpr0 f 2 d (rskp T tm a)
end RDS
section RDL
variable {T : Nat → Int} {tm : Nat}
theorem rsk_ge : ∀ n a, a ≤ rsk T n a
  | 0, a => Nat.le_refl _
  | n + 1, a => by
    unfold rsk
    split
    · exact Nat.le_trans (Nat.le_succ _) (rsk_ge n (a + 1))
    · exact Nat.le_refl _
theorem rsk_le : ∀ n a, rsk T n a ≤ a + n
  | 0, a => Nat.le_refl _
  | n + 1, a => by
    unfold rsk
    split
    · have := rsk_le n (a + 1)
      omega
    · omega
theorem rsk_stop : ∀ n a, rsk T n a = a + n ∨ T (rsk T n a) ≠ 32
  | 0, a => Or.inl rfl
  | n + 1, a => by
    unfold rsk
    split
    · rcases rsk_stop n (a + 1) with h | h
      · exact Or.inl (by omega)
      · exact Or.inr h
    · rename_i c
      exact Or.inr c
theorem rskp_ge (a : Nat) : a ≤ rskp T tm a := rsk_ge _ _
theorem rskp_le {a : Nat} (h : a ≤ tm) : rskp T tm a ≤ tm := by
  have := rsk_le (T := T) (tm - a) a
  show rsk T (tm - a) a ≤ tm
  omega
theorem rskp_idem {a : Nat} (h : a ≤ tm) : rskp T tm (rskp T tm a) = rskp T tm a := by
  rcases rsk_stop (T := T) (tm - a) a with q | q
  · have e : rskp T tm a = tm := by show rsk T (tm - a) a = tm; omega
    rw [e]
    show rsk T (tm - tm) tm = tm
    rw [Nat.sub_self]
    rfl
  · show rsk T (tm - rskp T tm a) (rskp T tm a) = rskp T tm a
    generalize tm - rskp T tm a = n
    cases n with
    | zero => rfl
    | succ n => exact if_neg q
theorem rdg_ge : ∀ n a, a ≤ rdg T n a
  | 0, a => Nat.le_refl _
  | n + 1, a => by
    unfold rdg
    split
    · exact Nat.le_trans (Nat.le_succ _) (rdg_ge n (a + 1))
    · exact Nat.le_refl _
theorem rdg_le : ∀ n a, rdg T n a ≤ a + n
  | 0, a => Nat.le_refl _
  | n + 1, a => by
    unfold rdg
    split
    · have := rdg_le n (a + 1)
      omega
    · omega
theorem rdg_in : ∀ n a j, a ≤ j → j < rdg T n a → 48 ≤ T j ∧ T j ≤ 57
  | 0, a, j, h1, h2 => by
    have h3 : j < a := h2
    omega
  | n + 1, a, j, h1, h2 => by
    unfold rdg at h2
    split at h2
    · rename_i c
      by_cases q : j = a
      · rw [q]
        exact c
      · exact rdg_in n (a + 1) j (by omega) h2
    · omega
theorem rvl_bd {s : Nat} : ∀ k, (∀ j, s ≤ j → j < s + k → 48 ≤ T j ∧ T j ≤ 57) → 0 ≤ rvl T s k ∧ rvl T s k < ((10 ^ k : Nat) : Int)
  | 0, _ => by
    show (0 : Int) ≤ 0 ∧ (0 : Int) < ((10 ^ 0 : Nat) : Int)
    decide
  | k + 1, h => by
    have ih := rvl_bd (s := s) k (fun j h1 h2 => h j h1 (by omega))
    have hk := h (s + k) (by omega) (by omega)
    show 0 ≤ 10 * rvl T s k + T (s + k) - 48 ∧ 10 * rvl T s k + T (s + k) - 48 < ((10 ^ (k + 1) : Nat) : Int)
    rw [Nat.pow_succ]
    omega
end RDL
/-- the fields of a reading: where it is, how many parentheses are open, where the error is -/
def st3 (S : Nat → Int) (a o e : Int) : Nat → Int := jvu (jvu (jvu S 10 a) 11 o) 12 e
theorem st3_10 (S : Nat → Int) (a o e b : Int) : jvu (st3 S a o e) 10 b = st3 S b o e := funext fun x => by
  unfold st3 jvu
  (repeat' split) <;> omega
theorem st3_11 (S : Nat → Int) (a o e b : Int) : jvu (st3 S a o e) 11 b = st3 S a b e := funext fun x => by
  unfold st3 jvu
  (repeat' split) <;> omega
theorem st3_12 (S : Nat → Int) (a o e b : Int) : jvu (st3 S a o e) 12 b = st3 S a o b := funext fun x => by
  unfold st3 jvu
  (repeat' split) <;> omega
section RDM
variable {S N B T X V : Nat → Int} {h : mj_H} {D tm : Nat} {o e : Int}
theorem st3_g10 {a : Int} : (rF (st3 S a o e))[10]? = some (.int (jn a)) := rfl
theorem st3_g11 {a : Int} : (rF (st3 S a o e))[11]? = some (.int (jn o)) := rfl
theorem st3_g9 {a : Int} (h9 : S 9 = (tm : Int)) : (rF (st3 S a o e))[9]? = some (.int (jn (tm : Int))) := by
  rw [← h9]
  rfl
theorem rd_errs {a x : Int} (hs : rS (st3 S a o e) N B T X V h) : mj_Ok (D + 1) 288 [.ref 0, .int (jn x)] h (fun r => ∃ h2, rS (st3 S a o x) N B T X V h2 ∧ r = (.inl (some (.int (jn 0))), h2)) := by
  refine mj_Ok.of (M := mj_m288) rfl rfl rfl ?_
  iterate 2 refine mj_T.pl rfl rfl rfl rfl ?_
  refine rT_put (v := x) hs rfl rfl (by decide) rfl (fun h1 hs1 => ?_)
  rw [st3_12] at hs1
  refine mj_T.pl rfl rfl rfl rfl ?_
  exact mj_T.ret rfl rfl rfl ⟨h1, hs1, rfl⟩
theorem rd_isDigit {v : Int} (hv : jr v) : mj_Ok (D + 1) 291 [.int (jn v)] h (fun r => ((48 ≤ v ∧ v ≤ 57) ∧ r = (.inl (some (.int (jn 1))), h)) ∨ (¬ (48 ≤ v ∧ v ≤ 57) ∧ r = (.inl (some (.int (jn 0))), h))) := by
  refine mj_Ok.of (M := mj_m291) rfl rfl rfl ?_
  iterate 2 refine mj_T.pl rfl rfl rfl rfl ?_
  refine mj_T.icmp (a := v) (b := 48) rfl hv ⟨by decide, by decide⟩ (fun hc => ?_) (fun hc => ?_)
  · simp only [jc, decide_eq_true_eq] at hc
    refine mj_T.pl rfl rfl rfl rfl ?_
    exact mj_T.ret rfl rfl rfl (Or.inr ⟨by omega, rfl⟩)
  simp only [jc, decide_eq_false_iff_not] at hc
  iterate 2 refine mj_T.pl rfl rfl rfl rfl ?_
  refine mj_T.icmp (a := v) (b := 57) rfl hv ⟨by decide, by decide⟩ (fun hc2 => ?_) (fun hc2 => ?_)
  · simp only [jc, decide_eq_true_eq] at hc2
    refine mj_T.pl rfl rfl rfl rfl ?_
    exact mj_T.ret rfl rfl rfl (Or.inr ⟨by omega, rfl⟩)
  · simp only [jc, decide_eq_false_iff_not] at hc2
    iterate 2 refine mj_T.pl rfl rfl rfl rfl ?_
    exact mj_T.ret rfl rfl rfl (Or.inl ⟨⟨by omega, by omega⟩, rfl⟩)
/-- the current sign is loaded -/
theorem rd_skips_loop (h9 : S 9 = (tm : Int)) (ht : tm ≤ 200) (hT : ∀ j : Nat, j < tm → 1 ≤ T j ∧ T j ≤ 255) {Q : mj_R → Prop} :
    ∀ (n a : Nat) (h : mj_H), a + n = tm → rS (st3 S (a : Int) o e) N B T X V h → (∀ h2, rS (st3 S (rsk T n a : Nat) o e) N B T X V h2 → Q (.inl none, h2)) → mj_T D mj_m289 0 [some (.ref 0)] [] h Q := by
  intro n
  induction n with
  | zero =>
    intro a h ha hs hend
    have ha2 : a = tm := by omega
    subst ha2
    refine mj_T.pl rfl rfl rfl rfl ?_
    refine rT_get hs rfl st3_g10 ?_
    refine mj_T.pl rfl rfl rfl rfl ?_
    refine rT_get hs rfl (st3_g9 h9) ?_
    refine mj_T.icmp (a := (a : Int)) (b := (a : Int)) rfl ⟨by omega, by omega⟩ ⟨by omega, by omega⟩ (fun hc => ?_) (fun hc => ?_)
    · exact mj_T.ret rfl rfl rfl (hend h hs)
    · simp only [jc, decide_eq_false_iff_not] at hc
      omega
  | succ n ih =>
    intro a h ha hs hend
    have hTa := hT a (by omega)
    refine mj_T.pl rfl rfl rfl rfl ?_
    refine rT_get hs rfl st3_g10 ?_
    refine mj_T.pl rfl rfl rfl rfl ?_
    refine rT_get hs rfl (st3_g9 h9) ?_
    refine mj_T.icmp (a := (a : Int)) (b := (tm : Int)) rfl ⟨by omega, by omega⟩ ⟨by omega, by omega⟩ (fun hc => ?_) (fun hc => ?_)
    · simp only [jc, decide_eq_true_eq] at hc
      omega
    refine mj_T.pl rfl rfl rfl rfl ?_
    refine rT_get hs rfl rfl ?_
    refine mj_T.pl rfl rfl rfl rfl ?_
    refine rT_get hs rfl st3_g10 ?_
    refine rT_ldT hs rfl ⟨by omega, by omega⟩ ?_
    rw [Int.toNat_natCast]
    refine mj_T.pl rfl rfl rfl rfl ?_
    refine mj_T.icmp (a := T a) (b := 32) rfl ⟨by omega, by omega⟩ ⟨by decide, by decide⟩ (fun hc2 => ?_) (fun hc2 => ?_)
    · simp only [jc, Bool.not_eq_true', decide_eq_false_iff_not] at hc2
      rw [show rsk T (n + 1) a = a from if_neg hc2] at hend
      exact mj_T.ret rfl rfl rfl (hend h hs)
    · simp only [jc, Bool.not_eq_false', decide_eq_true_eq] at hc2
      rw [show rsk T (n + 1) a = rsk T n (a + 1) from if_pos hc2] at hend
      iterate 2 refine mj_T.pl rfl rfl rfl rfl ?_
      refine rT_get hs rfl st3_g10 ?_
      refine mj_T.pl rfl rfl rfl rfl ?_
      refine mj_T.iadd (a := (a : Int)) (b := 1) rfl ?_
      rw [show (a : Int) + 1 = ((a + 1 : Nat) : Int) by omega]
      refine rT_put (v := ((a + 1 : Nat) : Int)) hs rfl rfl (by decide) rfl (fun h1 hs1 => ?_)
      rw [st3_10] at hs1
      refine mj_T.pl rfl rfl rfl rfl ?_
      exact ih (a + 1) h1 (by omega) hs1 hend
theorem rd_skips {a : Nat} (h9 : S 9 = (tm : Int)) (ht : tm ≤ 200) (hT : ∀ j : Nat, j < tm → 1 ≤ T j ∧ T j ≤ 255) (ha : a ≤ tm) (hs : rS (st3 S (a : Int) o e) N B T X V h) : mj_Ok (D + 1) 289 [.ref 0] h (fun r => ∃ h2, rS (st3 S (rskp T tm a : Nat) o e) N B T X V h2 ∧ r = (.inl none, h2)) := by
  refine mj_Ok.of (M := mj_m289) rfl rfl rfl ?_
  exact rd_skips_loop (D := D) h9 ht hT (tm - a) a h (by omega) hs (fun h2 hs2 => ⟨h2, hs2, rfl⟩)
theorem rd_takes {a : Nat} {c : Int} (hc : jr c) (h9 : S 9 = (tm : Int)) (ht : tm ≤ 200) (hT : ∀ j : Nat, j < tm → 1 ≤ T j ∧ T j ≤ 255) (ha : a ≤ tm) (hs : rS (st3 S (a : Int) o e) N B T X V h) : mj_Ok (D + 2) 290 [.ref 0, .int (jn c)] h (fun r => (∃ (b : Nat) (h2 : mj_H), (rtk T tm c a = some b ∧ b ≤ tm ∧ a < b) ∧ rS (st3 S (b : Int) o e) N B T X V h2 ∧ r = (.inl (some (.int (jn 1))), h2)) ∨ (∃ h2, rtk T tm c a = none ∧ rS (st3 S (rskp T tm a : Nat) o e) N B T X V h2 ∧ r = (.inl (some (.int (jn 0))), h2))) := by
  refine mj_Ok.of (M := mj_m290) rfl rfl rfl ?_
  have hle := rskp_le (T := T) ha
  have hge := rskp_ge (T := T) (tm := tm) a
  refine mj_T.pl rfl rfl rfl rfl ?_
  refine mj_T.call (ins := .invokevirtual 348) rfl rfl (Nat.le_of_ble_eq_true rfl) (Nat.le_of_ble_eq_true rfl) (by simp [mj_recv, rS_f hs]) rfl (rd_skips (D := D) h9 ht hT ha hs) (fun v' h1 hq' => ?_) (fun i h' hq' => by obtain ⟨_, _, h⟩ := hq'; cases h)
  obtain ⟨_, hs1, hq'⟩ := hq'
  cases hq'
  obtain ⟨s, hsdef⟩ : ∃ s, rskp T tm a = s := ⟨_, rfl⟩
  rw [hsdef] at hs1 hle hge ⊢
  refine mj_T.pl rfl rfl rfl rfl ?_
  refine rT_get hs1 rfl st3_g10 ?_
  refine mj_T.pl rfl rfl rfl rfl ?_
  refine rT_get hs1 rfl (st3_g9 h9) ?_
  have t28 : ¬ (s < tm ∧ T s = c) → mj_T (D + 1) mj_m290 28 [some (.ref 0), some (.int (jn c))] [] h1 (fun r => (∃ (b : Nat) (h2 : mj_H), (rtk T tm c a = some b ∧ b ≤ tm ∧ a < b) ∧ rS (st3 S (b : Int) o e) N B T X V h2 ∧ r = (.inl (some (.int (jn 1))), h2)) ∨ (∃ h2, rtk T tm c a = none ∧ rS (st3 S (s : Nat) o e) N B T X V h2 ∧ r = (.inl (some (.int (jn 0))), h2))) := fun hn => by
    refine mj_T.pl rfl rfl rfl rfl ?_
    exact mj_T.ret rfl rfl rfl (Or.inr ⟨h1, by unfold rtk; rw [hsdef, if_neg hn], hs1, rfl⟩)
  refine mj_T.icmp (a := (s : Int)) (b := (tm : Int)) rfl ⟨by omega, by omega⟩ ⟨by omega, by omega⟩ (fun hc1 => ?_) (fun hc1 => ?_)
  · simp only [jc, decide_eq_true_eq] at hc1
    exact t28 (by omega)
  simp only [jc, decide_eq_false_iff_not] at hc1
  have hTs := hT s (by omega)
  refine mj_T.pl rfl rfl rfl rfl ?_
  refine rT_get hs1 rfl rfl ?_
  refine mj_T.pl rfl rfl rfl rfl ?_
  refine rT_get hs1 rfl st3_g10 ?_
  refine rT_ldT hs1 rfl ⟨by omega, by omega⟩ ?_
  rw [Int.toNat_natCast]
  refine mj_T.pl rfl rfl rfl rfl ?_
  refine mj_T.icmp (a := T s) (b := c) rfl ⟨by omega, by omega⟩ hc (fun hc2 => ?_) (fun hc2 => ?_)
  · simp only [jc, decide_eq_true_eq] at hc2
    iterate 2 refine mj_T.pl rfl rfl rfl rfl ?_
    refine rT_get hs1 rfl st3_g10 ?_
    refine mj_T.pl rfl rfl rfl rfl ?_
    refine mj_T.iadd (a := (s : Int)) (b := 1) rfl ?_
    rw [show (s : Int) + 1 = ((s + 1 : Nat) : Int) by omega]
    refine rT_put (v := ((s + 1 : Nat) : Int)) hs1 rfl rfl (by decide) rfl (fun h2 hs2 => ?_)
    rw [st3_10] at hs2
    refine mj_T.pl rfl rfl rfl rfl ?_
    exact mj_T.ret rfl rfl rfl (Or.inl ⟨s + 1, h2, ⟨by unfold rtk; rw [hsdef, if_pos ⟨by omega, hc2⟩], by omega, by omega⟩, hs2, rfl⟩)
  · simp only [jc, decide_eq_false_iff_not] at hc2
    exact t28 (fun q => hc2 q.2)
end RDM
/-! The reading of a number by the reference. -/
section RNM
variable {S N B T X V : Nat → Int} {h : mj_H} {D tm : Nat} {o e : Int}
theorem rd_num_loop (h9 : S 9 = (tm : Int)) (ht : tm ≤ 200) (hT : ∀ j : Nat, j < tm → 1 ≤ T j ∧ T j ≤ 255) {s : Nat} {most : Int} {Q : mj_R → Prop} :
    ∀ (n k : Nat) (h : mj_H), s + k + n = tm → rS (st3 S ((s + k : Nat) : Int) o e) N B T X V h → (∀ (k2 : Nat) (h2 : mj_H), s + k2 = rdg T n (s + k) → rS (st3 S ((s + k2 : Nat) : Int) o e) N B T X V h2 → mj_T (D + 2) mj_m295 85 [some (.ref 0), some (.long (jl most)), none, some (.int (jn (s : Int))), some (.long (jl (rvl T s (min k2 18)))), none] [] h2 Q) → mj_T (D + 2) mj_m295 12 [some (.ref 0), some (.long (jl most)), none, some (.int (jn (s : Int))), some (.long (jl (rvl T s (min k 18)))), none] [] h Q := by
  intro n
  induction n with
  | zero =>
    intro k h hk hs hend
    refine mj_T.pl rfl rfl rfl rfl ?_
    refine rT_get hs rfl st3_g10 ?_
    refine mj_T.pl rfl rfl rfl rfl ?_
    refine rT_get hs rfl (st3_g9 h9) ?_
    refine mj_T.icmp (a := ((s + k : Nat) : Int)) (b := (tm : Int)) rfl ⟨by omega, by omega⟩ ⟨by omega, by omega⟩ (fun hc => ?_) (fun hc => ?_)
    · exact hend k h rfl hs
    · simp only [jc, decide_eq_false_iff_not] at hc
      omega
  | succ n ih =>
    intro k h hk hs hend
    have hTa := hT (s + k) (by omega)
    refine mj_T.pl rfl rfl rfl rfl ?_
    refine rT_get hs rfl st3_g10 ?_
    refine mj_T.pl rfl rfl rfl rfl ?_
    refine rT_get hs rfl (st3_g9 h9) ?_
    refine mj_T.icmp (a := ((s + k : Nat) : Int)) (b := (tm : Int)) rfl ⟨by omega, by omega⟩ ⟨by omega, by omega⟩ (fun hc => ?_) (fun hc => ?_)
    · simp only [jc, decide_eq_true_eq] at hc
      omega
    refine mj_T.pl rfl rfl rfl rfl ?_
    refine rT_get hs rfl rfl ?_
    refine mj_T.pl rfl rfl rfl rfl ?_
    refine rT_get hs rfl st3_g10 ?_
    refine rT_ldT hs rfl ⟨by omega, by omega⟩ ?_
    rw [Int.toNat_natCast]
    refine mj_T.call (ins := .invokestatic 363) rfl rfl (Nat.le_of_ble_eq_true rfl) (Nat.le_of_ble_eq_true rfl) rfl rfl (mj_Ok.up (by omega) (rd_isDigit (D := 0) (v := T (s + k)) ⟨by omega, by omega⟩)) (fun v' h' hq' => ?_) (fun i h' hq' => by rcases hq' with ⟨_, h⟩ | ⟨_, h⟩ <;> cases h)
    rcases hq' with ⟨hd, hq'⟩ | ⟨hd, hq'⟩
    · cases hq'
      rw [show rdg T (n + 1) (s + k) = rdg T n (s + k + 1) from if_pos hd] at hend
      refine mj_T.if0 (a := 1) rfl ⟨by decide, by decide⟩ (fun hc2 => ?_) (fun hc2 => ?_)
      · simp [jc] at hc2
      have t72 : mj_T (D + 2) mj_m295 72 [some (.ref 0), some (.long (jl most)), none, some (.int (jn (s : Int))), some (.long (jl (rvl T s (min (k + 1) 18)))), none] [] h Q := by
        iterate 2 refine mj_T.pl rfl rfl rfl rfl ?_
        refine rT_get hs rfl st3_g10 ?_
        refine mj_T.pl rfl rfl rfl rfl ?_
        refine mj_T.iadd (a := ((s + k : Nat) : Int)) (b := 1) rfl ?_
        rw [show ((s + k : Nat) : Int) + 1 = ((s + (k + 1) : Nat) : Int) by omega]
        refine rT_put (v := ((s + (k + 1) : Nat) : Int)) hs rfl rfl (by decide) rfl (fun h1 hs1 => ?_)
        rw [st3_10] at hs1
        refine mj_T.pl rfl rfl rfl rfl ?_
        exact ih (k + 1) h1 (by omega) hs1 hend
      refine mj_T.pl rfl rfl rfl rfl ?_
      refine rT_get hs rfl st3_g10 ?_
      refine mj_T.pl rfl rfl rfl rfl ?_
      refine mj_T.isub (a := ((s + k : Nat) : Int)) (b := (s : Int)) rfl ?_
      rw [show ((s + k : Nat) : Int) - (s : Int) = (k : Int) by omega]
      refine mj_T.pl rfl rfl rfl rfl ?_
      refine mj_T.icmp (a := (k : Int)) (b := 18) rfl ⟨by omega, by omega⟩ ⟨by decide, by decide⟩ (fun hc3 => ?_) (fun hc3 => ?_)
      · simp only [jc, decide_eq_true_eq] at hc3
        rw [show min (k + 1) 18 = min k 18 by omega] at t72
        exact t72
      · simp only [jc, decide_eq_false_iff_not] at hc3
        iterate 2 refine mj_T.pl rfl rfl rfl rfl ?_
        refine mj_T.lmul (a := 10) rfl ?_
        refine mj_T.pl rfl rfl rfl rfl ?_
        refine rT_get hs rfl rfl ?_
        refine mj_T.pl rfl rfl rfl rfl ?_
        refine rT_get hs rfl st3_g10 ?_
        refine rT_ldT hs rfl ⟨by omega, by omega⟩ ?_
        rw [Int.toNat_natCast]
        refine mj_T.i2l rfl ⟨by omega, by omega⟩ ?_
        refine mj_T.ladd rfl ?_
        refine mj_T.pl rfl rfl rfl rfl ?_
        refine mj_T.lsub (b := 48) rfl ?_
        refine mj_T.pl rfl rfl rfl rfl ?_
        have e1 : 10 * rvl T s (min k 18) + T (s + k) - 48 = rvl T s (min (k + 1) 18) := by
          rw [show min k 18 = k by omega, show min (k + 1) 18 = k + 1 by omega]
          rfl
        rw [e1]
        exact t72
    · cases hq'
      rw [show rdg T (n + 1) (s + k) = s + k from if_neg hd] at hend
      refine mj_T.if0 (a := 0) rfl ⟨by decide, by decide⟩ (fun hc2 => ?_) (fun hc2 => ?_)
      · exact hend k h rfl hs
      · simp [jc] at hc2
theorem rd_number (h9 : S 9 = (tm : Int)) (ht : tm ≤ 200) (hT : ∀ j : Nat, j < tm → 1 ≤ T j ∧ T j ≤ 255) {a : Nat} {most : Int} (hm : jR most) (ha : a ≤ tm) (hs : rS (st3 S (a : Int) o e) N B T X V h) : mj_Ok (D + 3) 295 [.ref 0, .long (jl most)] h (fun r => (∃ (b : Nat) (h2 : mj_H), (rnm T tm most a = (true, b) ∧ b ≤ tm ∧ a < b) ∧ rS (st3 S (b : Int) o e) N B T X V h2 ∧ r = (.inl (some (.int (jn 1))), h2)) ∨ (∃ (x b : Nat) (h2 : mj_H), (rnm T tm most a = (false, x) ∧ x ≤ tm ∧ b ≤ tm) ∧ rS (st3 S (b : Int) o (x : Int)) N B T X V h2 ∧ r = (.inl (some (.int (jn 0))), h2))) := by
  refine mj_Ok.of (M := mj_m295) rfl rfl rfl ?_
  have hle := rskp_le (T := T) ha
  have hge := rskp_ge (T := T) (tm := tm) a
  refine mj_T.pl rfl rfl rfl rfl ?_
  refine mj_T.call (ins := .invokevirtual 348) rfl rfl (Nat.le_of_ble_eq_true rfl) (Nat.le_of_ble_eq_true rfl) (by simp [mj_recv, rS_f hs]) rfl (mj_Ok.up (by omega) (rd_skips (D := 0) h9 ht hT ha hs)) (fun v' h1 hq' => ?_) (fun i h' hq' => by obtain ⟨_, _, h⟩ := hq'; cases h)
  obtain ⟨_, hs1, hq'⟩ := hq'
  cases hq'
  obtain ⟨s, hsdef⟩ : ∃ s, rskp T tm a = s := ⟨_, rfl⟩
  rw [hsdef] at hs1 hle hge
  refine mj_T.pl rfl rfl rfl rfl ?_
  refine rT_get hs1 rfl st3_g10 ?_
  iterate 3 refine mj_T.pl rfl rfl rfl rfl ?_
  refine rd_num_loop (D := D) (most := most) h9 ht hT (tm - s) 0 h1 (by omega) hs1 (fun k h2 hk hs2 => ?_)
  have hdl := rdg_le (T := T) (tm - s) (s + 0)
  rw [← hk] at hdl
  have hek : rdgp T tm s = s + k := hk.symm
  have hin : ∀ j, s ≤ j → j < s + k → 48 ≤ T j ∧ T j ≤ 57 := fun j j1 j2 => rdg_in (T := T) (tm - s) s j j1 (by show j < rdgp T tm s; omega)
  have eN : rnm T tm most a = if (1 ≤ k ∧ k ≤ 18) ∧ rvl T s k ≤ most then (true, s + k) else (false, s) := by
    unfold rnm
    rw [hsdef, hek, Nat.add_sub_cancel_left]
  rw [eN]
  have no : ¬ ((1 ≤ k ∧ k ≤ 18) ∧ rvl T s k ≤ most) → mj_T (D + 2) mj_m295 109 [some (.ref 0), some (.long (jl most)), none, some (.int (jn (s : Int))), some (.long (jl (rvl T s (min k 18)))), none] [] h2 (fun r => (∃ (b : Nat) (h2 : mj_H), ((if (1 ≤ k ∧ k ≤ 18) ∧ rvl T s k ≤ most then (true, s + k) else (false, s)) = (true, b) ∧ b ≤ tm ∧ a < b) ∧ rS (st3 S (b : Int) o e) N B T X V h2 ∧ r = (.inl (some (.int (jn 1))), h2)) ∨ (∃ (x b : Nat) (h2 : mj_H), ((if (1 ≤ k ∧ k ≤ 18) ∧ rvl T s k ≤ most then (true, s + k) else (false, s)) = (false, x) ∧ x ≤ tm ∧ b ≤ tm) ∧ rS (st3 S (b : Int) o (x : Int)) N B T X V h2 ∧ r = (.inl (some (.int (jn 0))), h2))) := fun hn => by
    iterate 2 refine mj_T.pl rfl rfl rfl rfl ?_
    refine mj_T.call (ins := .invokevirtual 351) rfl rfl (Nat.le_of_ble_eq_true rfl) (Nat.le_of_ble_eq_true rfl) (by simp [mj_recv, rS_f hs2]) rfl (mj_Ok.up (by omega) (rd_errs (D := 0) (x := (s : Int)) hs2)) (fun v' h3 hq' => ?_) (fun i h' hq' => by obtain ⟨_, _, h⟩ := hq'; cases h)
    obtain ⟨_, hs3, hq'⟩ := hq'
    cases hq'
    refine mj_T.if0 (a := 0) rfl ⟨by decide, by decide⟩ (fun hc => ?_) (fun hc => ?_)
    · refine mj_T.pl rfl rfl rfl rfl ?_
      exact mj_T.ret rfl rfl rfl (Or.inr ⟨s, s + k, h3, ⟨if_neg hn, by omega, by omega⟩, hs3, rfl⟩)
    · simp [jc] at hc
  refine mj_T.pl rfl rfl rfl rfl ?_
  refine rT_get hs2 rfl st3_g10 ?_
  refine mj_T.pl rfl rfl rfl rfl ?_
  refine mj_T.isub (a := ((s + k : Nat) : Int)) (b := (s : Int)) rfl ?_
  rw [show ((s + k : Nat) : Int) - (s : Int) = (k : Int) by omega]
  refine mj_T.i2l rfl ⟨by omega, by omega⟩ ?_
  iterate 2 refine mj_T.pl rfl rfl rfl rfl ?_
  refine mj_T.call (ins := .invokestatic 177) rfl rfl (Nat.le_of_ble_eq_true rfl) (Nat.le_of_ble_eq_true rfl) rfl rfl (mj_Ok.up (by omega) (rp_in (D := 0) (v := (k : Int)) (lo := 1) (hi := 18) ⟨by omega, by omega⟩ ⟨by decide, by decide⟩ ⟨by decide, by decide⟩)) (fun v' h' hq' => ?_) (fun i h' hq' => by rcases hq' with ⟨_, _, h⟩ | ⟨_, h⟩ <;> cases h)
  rcases hq' with ⟨k1, k2, hq'⟩ | ⟨k1, hq'⟩
  · cases hq'
    have hbd := rvl_bd (T := T) (s := s) k hin
    have hpw : 10 ^ k ≤ 10 ^ 18 := Nat.pow_le_pow_right (by decide) (by omega)
    have hmin : min k 18 = k := by omega
    refine mj_T.if0 (a := 1) rfl ⟨by decide, by decide⟩ (fun hc => ?_) (fun hc => ?_)
    · simp [jc] at hc
    iterate 2 refine mj_T.pl rfl rfl rfl rfl ?_
    rw [hmin] at no ⊢
    refine mj_T.lif (a := rvl T s k) (b := most) rfl rfl ⟨by omega, by omega⟩ hm (fun hc2 => ?_) (fun hc2 => ?_)
    · simp only [jc, decide_eq_true_eq] at hc2
      iterate 2 refine mj_T.pl rfl rfl rfl rfl ?_
      exact mj_T.ret rfl rfl rfl (Or.inl ⟨s + k, h2, ⟨if_pos ⟨⟨by omega, by omega⟩, hc2⟩, by omega, by omega⟩, hs2, rfl⟩)
    · simp only [jc, decide_eq_false_iff_not] at hc2
      exact no (fun q => hc2 q.2)
  · cases hq'
    refine mj_T.if0 (a := 0) rfl ⟨by decide, by decide⟩ (fun hc => ?_) (fun hc => ?_)
    · exact no (fun q => by omega)
    · simp [jc] at hc
end RNM
/-! The reading of sums, products and powers by the reference. -/
def rdPost (S N B T X V : Nat → Int) (tm : Nat) (er : Int) (a d : Nat) (res : Bool × Nat) (r : mj_R) : Prop := (∃ (b : Nat) (h2 : mj_H), (res = (true, b) ∧ b ≤ tm ∧ a < b) ∧ rS (st3 S (b : Int) (8 - (d : Int)) er) N B T X V h2 ∧ r = (.inl (some (.int (jn 1))), h2)) ∨ (∃ (x b : Nat) (o2 : Int) (h2 : mj_H), (res = (false, x) ∧ x ≤ tm ∧ b ≤ tm ∧ jr o2) ∧ rS (st3 S (b : Int) o2 (x : Int)) N B T X V h2 ∧ r = (.inl (some (.int (jn 0))), h2))
section RPW
variable {S N B T X V : Nat → Int} {h : mj_H} {tm : Nat} {er : Int}
theorem rdPost.le {a a2 d : Nat} {res : Bool × Nat} {r : mj_R} (k : rdPost S N B T X V tm er a2 d res r) (ha : a ≤ a2) : rdPost S N B T X V tm er a d res r := by
  rcases k with ⟨b, h2, ⟨k1, k2, k3⟩, k4⟩ | k
  · exact Or.inl ⟨b, h2, ⟨k1, k2, by omega⟩, k4⟩
  · exact Or.inr k
/-- the exponent behind a factor -/
theorem rd_ex (h9 : S 9 = (tm : Int)) (ht : tm ≤ 200) (hT : ∀ j : Nat, j < tm → 1 ≤ T j ∧ T j ≤ 255) {D a d : Nat} (hd : d ≤ 8) (ha : a ≤ tm) (hs : rS (st3 S (a : Int) (8 - (d : Int)) er) N B T X V h) {a0 : Nat} (ha0 : a0 < a) {Q : mj_R → Prop} (hend : ∀ r, rdPost S N B T X V tm er a0 d (rex T tm a) r → Q r) : mj_T (D + 3) mj_m296 155 [some (.ref 0), some (.int (jn 1))] [] h Q := by
  have hle := rskp_le (T := T) ha
  have hge := rskp_ge (T := T) (tm := tm) a
  refine mj_T.pl rfl rfl rfl rfl ?_
  refine mj_T.if0 (a := 1) rfl ⟨by decide, by decide⟩ (fun hc => ?_) (fun hc => ?_)
  · simp [jc] at hc
  iterate 2 refine mj_T.pl rfl rfl rfl rfl ?_
  refine mj_T.call (ins := .invokevirtual 354) rfl rfl (Nat.le_of_ble_eq_true rfl) (Nat.le_of_ble_eq_true rfl) (by simp [mj_recv, rS_f hs]) rfl (mj_Ok.up (by omega) (rd_takes (D := 0) (c := 94) ⟨by decide, by decide⟩ h9 ht hT ha hs)) (fun v' h1 hq' => ?_) (fun i h' hq' => by rcases hq' with ⟨_, _, _, _, h⟩ | ⟨_, _, _, h⟩ <;> cases h)
  rcases hq' with ⟨b, _, ⟨b1, b2, b3⟩, hs1, hq'⟩ | ⟨_, b1, hs1, hq'⟩
  · cases hq'
    have ee : rex T tm a = rnm T tm 12 b := by
      unfold rex
      rw [b1]
    rw [ee] at hend
    refine mj_T.if0 (a := 1) rfl ⟨by decide, by decide⟩ (fun hc => ?_) (fun hc => ?_)
    · simp [jc] at hc
    iterate 2 refine mj_T.pl rfl rfl rfl rfl ?_
    refine mj_T.call (ins := .invokevirtual 376) rfl rfl (Nat.le_of_ble_eq_true rfl) (Nat.le_of_ble_eq_true rfl) (by simp [mj_recv, rS_f hs1]) rfl (mj_Ok.up (by omega) (rd_number (D := 0) (most := 12) h9 ht hT ⟨by decide, by decide⟩ b2 hs1)) (fun v' h2 hq' => ?_) (fun i h' hq' => by rcases hq' with ⟨_, _, _, _, h⟩ | ⟨_, _, _, _, _, h⟩ <;> cases h)
    rcases hq' with ⟨c, _, ⟨c1, c2, c3⟩, hs2, hq'⟩ | ⟨x, c, _, ⟨c1, c2, c3⟩, hs2, hq'⟩
    · cases hq'
      iterate 2 refine mj_T.pl rfl rfl rfl rfl ?_
      exact mj_T.ret rfl rfl rfl (hend _ (Or.inl ⟨c, h2, ⟨c1, c2, by omega⟩, hs2, rfl⟩))
    · cases hq'
      iterate 2 refine mj_T.pl rfl rfl rfl rfl ?_
      exact mj_T.ret rfl rfl rfl (hend _ (Or.inr ⟨x, c, _, h2, ⟨c1, c2, c3, ⟨by omega, by omega⟩⟩, hs2, rfl⟩))
  · cases hq'
    have ee : rex T tm a = (true, rskp T tm a) := by
      unfold rex
      rw [b1]
    rw [ee] at hend
    refine mj_T.if0 (a := 0) rfl ⟨by decide, by decide⟩ (fun hc => ?_) (fun hc => ?_)
    · refine mj_T.pl rfl rfl rfl rfl ?_
      exact mj_T.ret rfl rfl rfl (hend _ (Or.inl ⟨_, h1, ⟨rfl, hle, by omega⟩, hs1, rfl⟩))
    · simp [jc] at hc
theorem rd_power_step (h9 : S 9 = (tm : Int)) (ht : tm ≤ 200) (hT : ∀ j : Nat, j < tm → 1 ≤ T j ∧ T j ≤ 255) {f d a : Nat} {res : Bool × Nat} (hd : d ≤ 8) (ha : a ≤ tm) (hr : rpr0 T tm (f + 1) 0 d a = some res) (hs : rS (st3 S (a : Int) (8 - (d : Int)) er) N B T X V h)
    (ih : ∀ (d2 a2 : Nat) (h : mj_H) (res : Bool × Nat), d = d2 + 1 → a2 ≤ tm → rpr0 T tm f 3 d2 a2 = some res → rS (st3 S (a2 : Int) (8 - (d2 : Int)) er) N B T X V h → mj_Ok (4 * d2 + 7) 293 [.ref 0] h (rdPost S N B T X V tm er a2 d2 res)) : mj_Ok (4 * d + 5) 296 [.ref 0] h (rdPost S N B T X V tm er a d res) := by
  refine mj_Ok.of (M := mj_m296) rfl rfl rfl ?_
  have hle := rskp_le (T := T) ha
  have hge := rskp_ge (T := T) (tm := tm) a
  refine mj_T.pl rfl rfl rfl rfl ?_
  refine mj_T.call (ins := .invokevirtual 348) rfl rfl (Nat.le_of_ble_eq_true rfl) (Nat.le_of_ble_eq_true rfl) (by simp [mj_recv, rS_f hs]) rfl (mj_Ok.up (by omega) (rd_skips (D := 0) h9 ht hT ha hs)) (fun v' h1 hq' => ?_) (fun i h' hq' => by obtain ⟨_, _, h⟩ := hq'; cases h)
  obtain ⟨_, hs1, hq'⟩ := hq'
  cases hq'
  have hid := rskp_idem (T := T) ha
  unfold rpr0 at hr
  obtain ⟨s, hsdef⟩ : ∃ s, rskp T tm a = s := ⟨_, rfl⟩
  rw [hsdef] at hs1 hle hge hr hid
  have ex : ∀ (c : Nat) (h2 : mj_H), c ≤ tm → a < c → rS (st3 S (c : Int) (8 - (d : Int)) er) N B T X V h2 → res = rex T tm c → mj_T (4 * d + 4) mj_m296 155 [some (.ref 0), some (.int (jn 1))] [] h2 (rdPost S N B T X V tm er a d res) := fun c h2 c1 c2 hs2 e => by
    subst e
    exact rd_ex (D := 4 * d + 1) h9 ht hT hd c1 hs2 c2 (fun r hr => hr)
  have t147 : ¬ (s < tm ∧ T s = 120) → ¬ (s < tm ∧ T s = 40) → mj_T (4 * d + 4) mj_m296 147 [some (.ref 0), none] [] h1 (rdPost S N B T X V tm er a d res) := fun n1 n2 => by
    rw [if_neg n1, if_neg n2] at hr
    iterate 2 refine mj_T.pl rfl rfl rfl rfl ?_
    refine mj_T.call (ins := .invokevirtual 376) rfl rfl (Nat.le_of_ble_eq_true rfl) (Nat.le_of_ble_eq_true rfl) (by simp [mj_recv, rS_f hs1]) rfl (mj_Ok.up (by omega) (rd_number (D := 0) (most := 9223372036854775807) h9 ht hT ⟨by decide, by decide⟩ hle hs1)) (fun v' h2 hq' => ?_) (fun i h' hq' => by rcases hq' with ⟨_, _, _, _, h⟩ | ⟨_, _, _, _, _, h⟩ <;> cases h)
    rcases hq' with ⟨c, _, ⟨c1, c2, c3⟩, hs2, hq'⟩ | ⟨x, c, _, ⟨c1, c2, c3⟩, hs2, hq'⟩
    · cases hq'
      rw [c1] at hr
      refine mj_T.pl rfl rfl rfl rfl ?_
      exact ex c h2 c2 (by omega) hs2 (Option.some.inj hr).symm
    · cases hq'
      rw [c1] at hr
      iterate 2 refine mj_T.pl rfl rfl rfl rfl ?_
      refine mj_T.if0 (a := 0) rfl ⟨by decide, by decide⟩ (fun hc => ?_) (fun hc => ?_)
      · refine mj_T.pl rfl rfl rfl rfl ?_
        exact mj_T.ret rfl rfl rfl (Or.inr ⟨x, c, _, h2, ⟨(Option.some.inj hr).symm, c2, c3, ⟨by omega, by omega⟩⟩, hs2, rfl⟩)
      · simp [jc] at hc
  have t44 : ¬ (s < tm ∧ T s = 120) → mj_T (4 * d + 4) mj_m296 44 [some (.ref 0), none] [] h1 (rdPost S N B T X V tm er a d res) := fun n1 => by
    refine mj_T.pl rfl rfl rfl rfl ?_
    refine rT_get hs1 rfl st3_g10 ?_
    refine mj_T.pl rfl rfl rfl rfl ?_
    refine rT_get hs1 rfl (st3_g9 h9) ?_
    refine mj_T.icmp (a := (s : Int)) (b := (tm : Int)) rfl ⟨by omega, by omega⟩ ⟨by omega, by omega⟩ (fun hc1 => ?_) (fun hc1 => ?_)
    · simp only [jc, decide_eq_true_eq] at hc1
      exact t147 n1 (by omega)
    simp only [jc, decide_eq_false_iff_not] at hc1
    have hTs := hT s (by omega)
    refine mj_T.pl rfl rfl rfl rfl ?_
    refine rT_get hs1 rfl rfl ?_
    refine mj_T.pl rfl rfl rfl rfl ?_
    refine rT_get hs1 rfl st3_g10 ?_
    refine rT_ldT hs1 rfl ⟨by omega, by omega⟩ ?_
    rw [Int.toNat_natCast]
    refine mj_T.pl rfl rfl rfl rfl ?_
    refine mj_T.icmp (a := T s) (b := 40) rfl ⟨by omega, by omega⟩ ⟨by decide, by decide⟩ (fun hc2 => ?_) (fun hc2 => ?_)
    · simp only [jc, Bool.not_eq_true', decide_eq_false_iff_not] at hc2
      exact t147 n1 (fun q => hc2 q.2)
    simp only [jc, Bool.not_eq_false', decide_eq_true_eq] at hc2
    rw [if_neg n1, if_pos ⟨by omega, hc2⟩] at hr
    refine mj_T.pl rfl rfl rfl rfl ?_
    refine rT_get hs1 rfl st3_g11 ?_
    refine mj_T.pl rfl rfl rfl rfl ?_
    refine mj_T.icmp (a := 8 - (d : Int)) (b := 8) rfl ⟨by omega, by omega⟩ ⟨by decide, by decide⟩ (fun hc3 => ?_) (fun hc3 => ?_)
    rotate_left
    · simp only [jc, Bool.not_eq_false', decide_eq_true_eq] at hc3
      rw [if_pos (by omega)] at hr
      iterate 2 refine mj_T.pl rfl rfl rfl rfl ?_
      refine rT_get hs1 rfl st3_g10 ?_
      refine mj_T.call (ins := .invokevirtual 351) rfl rfl (Nat.le_of_ble_eq_true rfl) (Nat.le_of_ble_eq_true rfl) (by simp [mj_recv, rS_f hs1]) rfl (mj_Ok.up (by omega) (rd_errs (D := 0) (x := (s : Int)) hs1)) (fun v' h3 hq' => ?_) (fun i h' hq' => by obtain ⟨_, _, h⟩ := hq'; cases h)
      obtain ⟨_, hs3, hq'⟩ := hq'
      cases hq'
      exact mj_T.ret rfl rfl rfl (Or.inr ⟨s, s, _, h3, ⟨(Option.some.inj hr).symm, hle, hle, ⟨by omega, by omega⟩⟩, hs3, rfl⟩)
    simp only [jc, Bool.not_eq_true', decide_eq_false_iff_not] at hc3
    obtain ⟨d2, rfl⟩ : ∃ d2, d = d2 + 1 := ⟨d - 1, by omega⟩
    rw [if_neg (by omega), Nat.add_sub_cancel] at hr
    iterate 2 refine mj_T.pl rfl rfl rfl rfl ?_
    refine rT_get hs1 rfl st3_g10 ?_
    refine mj_T.pl rfl rfl rfl rfl ?_
    refine mj_T.iadd (a := (s : Int)) (b := 1) rfl ?_
    rw [show (s : Int) + 1 = ((s + 1 : Nat) : Int) by omega]
    refine rT_put (v := ((s + 1 : Nat) : Int)) hs1 rfl rfl (by decide) rfl (fun h2 hs2 => ?_)
    rw [st3_10] at hs2
    iterate 2 refine mj_T.pl rfl rfl rfl rfl ?_
    refine rT_get hs2 rfl st3_g11 ?_
    refine mj_T.pl rfl rfl rfl rfl ?_
    refine mj_T.iadd (a := 8 - ((d2 + 1 : Nat) : Int)) (b := 1) rfl ?_
    rw [show (8 : Int) - ((d2 + 1 : Nat) : Int) + 1 = 8 - (d2 : Int) by omega]
    refine rT_put (v := 8 - (d2 : Int)) hs2 rfl rfl (by decide) rfl (fun h3 hs3 => ?_)
    rw [st3_11] at hs3
    refine mj_T.pl rfl rfl rfl rfl ?_
    obtain ⟨res3, hres3⟩ : ∃ res3, rpr0 T tm f 3 d2 (s + 1) = some res3 := by
      rcases hx : rpr0 T tm f 3 d2 (s + 1) with _ | z
      · rw [hx] at hr
        cases hr
      · exact ⟨z, rfl⟩
    rw [hres3] at hr
    refine mj_T.call (ins := .invokevirtual 257) rfl rfl (Nat.le_of_ble_eq_true rfl) (Nat.le_of_ble_eq_true rfl) (by simp [mj_recv, rS_f hs3]) rfl (mj_Ok.up (by omega) (ih d2 (s + 1) h3 res3 rfl (by omega) hres3 hs3)) (fun v' h4 hq' => ?_) (fun i h' hq' => by rcases hq' with ⟨_, _, _, _, h⟩ | ⟨_, _, _, _, _, _, h⟩ <;> cases h)
    rcases hq' with ⟨c, _, ⟨c1, c2, c3⟩, hs4, hq'⟩ | ⟨x, c, o2, _, ⟨c1, c2, c3, c4⟩, hs4, hq'⟩
    · cases hq'
      subst c1
      iterate 2 refine mj_T.pl rfl rfl rfl rfl ?_
      refine mj_T.if0 (a := 1) rfl ⟨by decide, by decide⟩ (fun hc => ?_) (fun hc => ?_)
      · simp [jc] at hc
      iterate 2 refine mj_T.pl rfl rfl rfl rfl ?_
      have hcl := rskp_le (T := T) c2
      refine mj_T.call (ins := .invokevirtual 354) rfl rfl (Nat.le_of_ble_eq_true rfl) (Nat.le_of_ble_eq_true rfl) (by simp [mj_recv, rS_f hs4]) rfl (mj_Ok.up (by omega) (rd_takes (D := 0) (c := 41) ⟨by decide, by decide⟩ h9 ht hT c2 hs4)) (fun v' h5 hq' => ?_) (fun i h' hq' => by rcases hq' with ⟨_, _, _, _, h⟩ | ⟨_, _, _, h⟩ <;> cases h)
      rcases hq' with ⟨b, _, ⟨b1, b2, b3⟩, hs5, hq'⟩ | ⟨_, b1, hs5, hq'⟩
      · cases hq'
        simp only [b1] at hr
        refine mj_T.if0 (a := 1) rfl ⟨by decide, by decide⟩ (fun hc => ?_) (fun hc => ?_)
        rotate_left
        · simp [jc] at hc
        iterate 2 refine mj_T.pl rfl rfl rfl rfl ?_
        refine rT_get hs5 rfl st3_g11 ?_
        refine mj_T.pl rfl rfl rfl rfl ?_
        refine mj_T.isub (a := 8 - (d2 : Int)) (b := 1) rfl ?_
        rw [show (8 : Int) - (d2 : Int) - 1 = 8 - ((d2 + 1 : Nat) : Int) by omega]
        refine rT_put (v := 8 - ((d2 + 1 : Nat) : Int)) hs5 rfl rfl (by decide) rfl (fun h6 hs6 => ?_)
        rw [st3_11] at hs6
        refine mj_T.pl rfl rfl rfl rfl ?_
        exact ex b h6 b2 (by omega) hs6 (Option.some.inj hr).symm
      · cases hq'
        simp only [b1] at hr
        refine mj_T.if0 (a := 0) rfl ⟨by decide, by decide⟩ (fun hc => ?_) (fun hc => ?_)
        · simp [jc] at hc
        iterate 2 refine mj_T.pl rfl rfl rfl rfl ?_
        refine rT_get hs5 rfl st3_g10 ?_
        refine mj_T.call (ins := .invokevirtual 351) rfl rfl (Nat.le_of_ble_eq_true rfl) (Nat.le_of_ble_eq_true rfl) (by simp [mj_recv, rS_f hs5]) rfl (mj_Ok.up (by omega) (rd_errs (D := 0) (x := ((rskp T tm c : Nat) : Int)) hs5)) (fun v' h6 hq' => ?_) (fun i h' hq' => by obtain ⟨_, _, h⟩ := hq'; cases h)
        obtain ⟨_, hs6, hq'⟩ := hq'
        cases hq'
        exact mj_T.ret rfl rfl rfl (Or.inr ⟨_, _, _, h6, ⟨(Option.some.inj hr).symm, hcl, hcl, ⟨by omega, by omega⟩⟩, hs6, rfl⟩)
    · cases hq'
      subst c1
      iterate 2 refine mj_T.pl rfl rfl rfl rfl ?_
      refine mj_T.if0 (a := 0) rfl ⟨by decide, by decide⟩ (fun hc => ?_) (fun hc => ?_)
      rotate_left
      · simp [jc] at hc
      iterate 2 refine mj_T.pl rfl rfl rfl rfl ?_
      refine rT_get hs4 rfl st3_g11 ?_
      refine mj_T.pl rfl rfl rfl rfl ?_
      refine mj_T.isub (a := o2) (b := 1) rfl ?_
      obtain ⟨o3, ho3, ho4⟩ : ∃ o3 : Int, jr o3 ∧ jn (o2 - 1) = jn o3 := ⟨(jn (o2 - 1)).toInt, jr_of _, (jn_of _).symm⟩
      rw [ho4]
      refine rT_put (v := o3) hs4 rfl rfl (by decide) rfl (fun h6 hs6 => ?_)
      rw [st3_11] at hs6
      iterate 2 refine mj_T.pl rfl rfl rfl rfl ?_
      refine mj_T.if0 (a := 0) rfl ⟨by decide, by decide⟩ (fun hc => ?_) (fun hc => ?_)
      · refine mj_T.pl rfl rfl rfl rfl ?_
        exact mj_T.ret rfl rfl rfl (Or.inr ⟨x, c, o3, h6, ⟨(Option.some.inj hr).symm, c2, c3, ho3⟩, hs6, rfl⟩)
      · simp [jc] at hc
  refine mj_T.pl rfl rfl rfl rfl ?_
  refine rT_get hs1 rfl st3_g10 ?_
  refine mj_T.pl rfl rfl rfl rfl ?_
  refine rT_get hs1 rfl (st3_g9 h9) ?_
  refine mj_T.icmp (a := (s : Int)) (b := (tm : Int)) rfl ⟨by omega, by omega⟩ ⟨by omega, by omega⟩ (fun hc1 => ?_) (fun hc1 => ?_)
  · simp only [jc, decide_eq_true_eq] at hc1
    exact t44 (by omega)
  simp only [jc, decide_eq_false_iff_not] at hc1
  have hTs := hT s (by omega)
  refine mj_T.pl rfl rfl rfl rfl ?_
  refine rT_get hs1 rfl rfl ?_
  refine mj_T.pl rfl rfl rfl rfl ?_
  refine rT_get hs1 rfl st3_g10 ?_
  refine rT_ldT hs1 rfl ⟨by omega, by omega⟩ ?_
  rw [Int.toNat_natCast]
  refine mj_T.pl rfl rfl rfl rfl ?_
  refine mj_T.icmp (a := T s) (b := 120) rfl ⟨by omega, by omega⟩ ⟨by decide, by decide⟩ (fun hc2 => ?_) (fun hc2 => ?_)
  · simp only [jc, Bool.not_eq_true', decide_eq_false_iff_not] at hc2
    exact t44 (fun q => hc2 q.2)
  simp only [jc, Bool.not_eq_false', decide_eq_true_eq] at hc2
  rw [if_pos ⟨by omega, hc2⟩] at hr
  iterate 2 refine mj_T.pl rfl rfl rfl rfl ?_
  refine rT_get hs1 rfl st3_g10 ?_
  refine mj_T.pl rfl rfl rfl rfl ?_
  refine mj_T.iadd (a := (s : Int)) (b := 1) rfl ?_
  rw [show (s : Int) + 1 = ((s + 1 : Nat) : Int) by omega]
  refine rT_put (v := ((s + 1 : Nat) : Int)) hs1 rfl rfl (by decide) rfl (fun h2 hs2 => ?_)
  rw [st3_10] at hs2
  iterate 3 refine mj_T.pl rfl rfl rfl rfl ?_
  exact ex (s + 1) h2 (by omega) (by omega) hs2 (Option.some.inj hr).symm
end RPW
