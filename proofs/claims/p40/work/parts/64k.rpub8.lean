/-! Calls of the reference: real roots, roots closed in, roots that are fractions. -/
theorem rF7 {S : Nat → Int} {v : Int} : (rF (jvu S 7 v))[7]? = some (.int (jn v)) := by
  show some (Value.int (jn (jvu S 7 v 7))) = _
  rw [jvu_at]
abbrev rCr : Nat := kq_F (10 ^ 51) 24
abbrev rY : Nat := 6 * ((10 ^ 50 + 2) * 10 ^ 50)
/-- the row of Sturm of a simple part -/
def kfr (k : Nat) (V : Nat → Int) : Prop := (∀ p, 9 ≤ p → p ≤ 9 + k → 1 ≤ jdg V p 13 ∧ ∀ e, e < 13 → (V (p * 13 + e)).natAbs ≤ rCr) ∧ (∀ e, e < 13 → (V (9 * 13 + e)).natAbs ≤ 10 ^ 50) ∧ 1 ≤ jdg V 8 13 ∧ (∀ e, e < 13 → (V (8 * 13 + e)).natAbs ≤ 10 ^ 50)
theorem kfr.keep {k : Nat} {V W : Nat → Int} (h : kfr k V) (hk : k ≤ 12) (f : ∀ s, s < 650 → W s = V s) : kfr k W := by
  obtain ⟨h1, h2, h3, h4⟩ := h
  exact ⟨jrows_keep h1 hk f, fun e he => by rw [f _ (by omega)]; exact h2 e he, by rw [jdg_congr (V := V) (p := 8) 13 fun e he => f (8 * 13 + e) (by omega)]; exact h3, fun e he => by rw [f _ (by omega)]; exact h4 e he⟩
section RPU
variable {h : mj_H} {tm er : Int} {T : Nat → Int}
theorem rp_realRoots {x : Int} (hx : jr x) (hI : jI tm er T h) : mj_Ok 40 271 [.ref 0, .int (jn x)] h (rI tm er T) := by
  refine mj_Ok.of (M := mj_m271) rfl rfl rfl ?_
  obtain ⟨S, N, B, X, V, hs, K⟩ := hI
  iterate 2 refine mj_T.pl rfl rfl rfl rfl ?_
  refine rT_put (v := 0) hs rfl rfl (by decide) rfl (fun g1 hs1 => ?_)
  have K1 := K.put (k := 3) (v := 0) ⟨by decide, by decide⟩ (by decide) (by decide) (by decide) (by decide) (by decide)
  generalize jvu S 3 0 = S1 at hs1 K1
  refine mj_T.pl rfl rfl rfl rfl ?_
  refine mj_T.call (ins := .invokestatic 181) rfl rfl (Nat.le_of_ble_eq_true rfl) (Nat.le_of_ble_eq_true rfl) rfl rfl (mj_Ok.up (by decide) (rp_isRegister (D := 0) hx)) (fun v' h' hq' => ?_) (fun i h' hq' => by rcases hq' with ⟨_, _, h⟩ | ⟨_, h⟩ <;> cases h)
  rcases hq' with ⟨x1, x2, hq'⟩ | ⟨_, hq'⟩
  case' inr =>
    cases hq'
    refine mj_T.if0 (a := 0) rfl ⟨by decide, by decide⟩ (fun hc => ?_) (fun hc => ?_)
    · simp [jc] at hc
    iterate 2 refine mj_T.pl rfl rfl rfl rfl ?_
    refine mj_T.call (ins := .invokevirtual 198) rfl rfl (Nat.le_of_ble_eq_true rfl) (Nat.le_of_ble_eq_true rfl) (by simp [mj_recv, rS_f hs1]) rfl (mj_Ok.up (by decide) (rp_fails (D := 0) (c := 1) hs1)) (fun v' g2 hq' => ?_) (fun i h' hq' => by obtain ⟨_, _, h⟩ := hq'; cases h)
    obtain ⟨_, hs2, hq'⟩ := hq'
    cases hq'
    exact mj_T.ret rfl rfl rfl ⟨0, g2, ⟨by decide, by decide⟩, rfl, ⟨_, N, B, X, V, hs2, K1.put ⟨by decide, by decide⟩ (by decide) (by decide) (by decide) (by decide) (by decide)⟩⟩
  cases hq'
  refine mj_T.if0 (a := 1) rfl ⟨by decide, by decide⟩ (fun hc => ?_) (fun hc => ?_)
  rotate_left
  · simp [jc] at hc
  obtain ⟨x, rfl⟩ := Int.eq_ofNat_of_zero_le x1
  iterate 2 refine mj_T.pl rfl rfl rfl rfl ?_
  refine mj_T.call (ins := .invokevirtual 232) rfl rfl (Nat.le_of_ble_eq_true rfl) (Nat.le_of_ble_eq_true rfl) (by simp [mj_recv, rS_f hs1]) rfl (mj_Ok.up (by decide) (rp_isZero (D := 0) (r := x) (by omega) K1.nR hs1)) (fun v' h' hq' => ?_) (fun i h' hq' => by rcases hq' with ⟨_, h⟩ | ⟨_, h⟩ <;> cases h)
  rcases hq' with ⟨_, hq'⟩ | ⟨nz3, hq'⟩
  case' inl =>
    cases hq'
    refine mj_T.if0 (a := 1) rfl ⟨by decide, by decide⟩ (fun hc => ?_) (fun hc => ?_)
    · simp [jc] at hc
    iterate 2 refine mj_T.pl rfl rfl rfl rfl ?_
    refine mj_T.call (ins := .invokevirtual 198) rfl rfl (Nat.le_of_ble_eq_true rfl) (Nat.le_of_ble_eq_true rfl) (by simp [mj_recv, rS_f hs1]) rfl (mj_Ok.up (by decide) (rp_fails (D := 0) (c := 2) hs1)) (fun v' g4 hq' => ?_) (fun i h' hq' => by obtain ⟨_, _, h⟩ := hq'; cases h)
    obtain ⟨_, hs4, hq'⟩ := hq'
    cases hq'
    exact mj_T.ret rfl rfl rfl ⟨0, g4, ⟨by decide, by decide⟩, rfl, ⟨_, N, B, X, V, hs4, K1.put ⟨by decide, by decide⟩ (by decide) (by decide) (by decide) (by decide) (by decide)⟩⟩
  cases hq'
  refine mj_T.if0 (a := 0) rfl ⟨by decide, by decide⟩ (fun hc => ?_) (fun hc => ?_)
  rotate_left
  · simp [jc] at hc
  iterate 3 refine mj_T.pl rfl rfl rfl rfl ?_
  refine mj_T.call (ins := .invokevirtual 213) rfl rfl (Nat.le_of_ble_eq_true rfl) (Nat.le_of_ble_eq_true rfl) (by simp [mj_recv, rS_f hs1]) rfl (mj_Ok.up (by decide) (rp_loads (D := 0) (p := 0) (r := x) (by decide) (by omega) K1.nR hs1)) (fun v' g5 hq' => ?_) (fun i h' hq' => by obtain ⟨_, _, h⟩ := hq'; cases h)
  obtain ⟨_, hs5, hq'⟩ := hq'
  cases hq'
  have a5 : ∀ e, e < 13 → jfl V 0 (fun e => N (x * 13 + e)) 13 (0 * 13 + e) = N (x * 13 + e) := fun e he => jfl_at _ _ _ he
  have b5 : ∀ s, (s < 0 * 13 ∨ 0 * 13 + 13 ≤ s) → jfl V 0 (fun e => N (x * 13 + e)) 13 s = V s := fun s hc => jfl_off _ _ _ hc
  generalize jfl V 0 (fun e => N (x * 13 + e)) 13 = W5 at hs5 a5 b5
  have c1 : ∀ e, e < 13 → (W5 (0 * 13 + e)).natAbs ≤ 10 ^ 18 := fun e he => by
    rw [a5 e he]
    exact K1.sh (r := x) (by omega) he
  have c2 : jpo W5 0 ≠ pz_0 := jpo_ne_of (by rw [jdg_congr 13 a5]; exact nz3)
  iterate 2 refine mj_T.pl rfl rfl rfl rfl ?_
  refine mj_T.call (ins := .invokevirtual 324) rfl rfl (Nat.le_of_ble_eq_true rfl) (Nat.le_of_ble_eq_true rfl) (by simp [mj_recv, rS_f hs5]) rfl (mj_Ok.up (by decide) (jp_laysRow (D := 0) (rG S1 N B T X) (by show 7 < 16; decide) kq_fit51 rp_a51 (a := 0) (by decide) (by decide) (by decide) c2 (fun e he => by have := c1 e he; omega) hs5)) (fun v' g6 hq' => ?_) (fun i h' hq' => by obtain ⟨_, _, _, _, _, _, _, _, h⟩ := hq'; cases h)
  obtain ⟨k6, W6, _, hk6, hs6, hrow6, hf6, hn6, hq'⟩ := hq'
  cases hq'
  have hs6a : rS (jvu S1 7 ((k6 + 1 : Nat) : Int)) N B T X W6 g6 := hs6
  have K6 := K1.put (k := 7) (v := ((k6 + 1 : Nat) : Int)) ⟨by omega, by omega⟩ (by decide) (by decide) (by decide) (by decide) (by decide)
  have h76 : (rF (jvu S1 7 ((k6 + 1 : Nat) : Int)))[7]? = some (.int (jn ((k6 + 1 : Nat) : Int))) := rF7
  clear hs6
  generalize jvu S1 7 ((k6 + 1 : Nat) : Int) = S6 at hs6a K6 h76
  refine mj_T.pl rfl rfl rfl rfl ?_
  refine mj_T.call (ins := .invokevirtual 327) rfl rfl (Nat.le_of_ble_eq_true rfl) (Nat.le_of_ble_eq_true rfl) (by simp [mj_recv, rS_f hs6a]) rfl (mj_Ok.up (by decide) (jp_rootsOf (D := 0) (rG S6 N B T X) h76 hk6 hrow6 hs6a)) (fun v' g7 hq' => ?_) (fun i h' hq' => by obtain ⟨_, _, _, _, _, _, _, h⟩ := hq'; cases h)
  obtain ⟨W7, _, z7, hs7, f7, z7a, z7b, hq'⟩ := hq'
  cases hq'
  exact mj_T.ret rfl rfl rfl ⟨z7, g7, ⟨by omega, by omega⟩, rfl, ⟨S6, N, B, X, W7, hs7, K6⟩⟩
theorem rp_sturmLength {x : Int} (hx : jr x) (hI : jI tm er T h) : mj_Ok 40 273 [.ref 0, .int (jn x)] h (rI tm er T) := by
  refine mj_Ok.of (M := mj_m273) rfl rfl rfl ?_
  obtain ⟨S, N, B, X, V, hs, K⟩ := hI
  iterate 2 refine mj_T.pl rfl rfl rfl rfl ?_
  refine rT_put (v := 0) hs rfl rfl (by decide) rfl (fun g8 hs8 => ?_)
  have K8 := K.put (k := 3) (v := 0) ⟨by decide, by decide⟩ (by decide) (by decide) (by decide) (by decide) (by decide)
  generalize jvu S 3 0 = S8 at hs8 K8
  refine mj_T.pl rfl rfl rfl rfl ?_
  refine mj_T.call (ins := .invokestatic 181) rfl rfl (Nat.le_of_ble_eq_true rfl) (Nat.le_of_ble_eq_true rfl) rfl rfl (mj_Ok.up (by decide) (rp_isRegister (D := 0) hx)) (fun v' h' hq' => ?_) (fun i h' hq' => by rcases hq' with ⟨_, _, h⟩ | ⟨_, h⟩ <;> cases h)
  rcases hq' with ⟨x1, x2, hq'⟩ | ⟨_, hq'⟩
  case' inr =>
    cases hq'
    refine mj_T.if0 (a := 0) rfl ⟨by decide, by decide⟩ (fun hc => ?_) (fun hc => ?_)
    · simp [jc] at hc
    iterate 2 refine mj_T.pl rfl rfl rfl rfl ?_
    refine mj_T.call (ins := .invokevirtual 198) rfl rfl (Nat.le_of_ble_eq_true rfl) (Nat.le_of_ble_eq_true rfl) (by simp [mj_recv, rS_f hs8]) rfl (mj_Ok.up (by decide) (rp_fails (D := 0) (c := 1) hs8)) (fun v' g9 hq' => ?_) (fun i h' hq' => by obtain ⟨_, _, h⟩ := hq'; cases h)
    obtain ⟨_, hs9, hq'⟩ := hq'
    cases hq'
    exact mj_T.ret rfl rfl rfl ⟨0, g9, ⟨by decide, by decide⟩, rfl, ⟨_, N, B, X, V, hs9, K8.put ⟨by decide, by decide⟩ (by decide) (by decide) (by decide) (by decide) (by decide)⟩⟩
  cases hq'
  refine mj_T.if0 (a := 1) rfl ⟨by decide, by decide⟩ (fun hc => ?_) (fun hc => ?_)
  rotate_left
  · simp [jc] at hc
  obtain ⟨x, rfl⟩ := Int.eq_ofNat_of_zero_le x1
  iterate 2 refine mj_T.pl rfl rfl rfl rfl ?_
  refine mj_T.call (ins := .invokevirtual 232) rfl rfl (Nat.le_of_ble_eq_true rfl) (Nat.le_of_ble_eq_true rfl) (by simp [mj_recv, rS_f hs8]) rfl (mj_Ok.up (by decide) (rp_isZero (D := 0) (r := x) (by omega) K8.nR hs8)) (fun v' h' hq' => ?_) (fun i h' hq' => by rcases hq' with ⟨_, h⟩ | ⟨_, h⟩ <;> cases h)
  rcases hq' with ⟨_, hq'⟩ | ⟨nz10, hq'⟩
  case' inl =>
    cases hq'
    refine mj_T.if0 (a := 1) rfl ⟨by decide, by decide⟩ (fun hc => ?_) (fun hc => ?_)
    · simp [jc] at hc
    iterate 2 refine mj_T.pl rfl rfl rfl rfl ?_
    refine mj_T.call (ins := .invokevirtual 198) rfl rfl (Nat.le_of_ble_eq_true rfl) (Nat.le_of_ble_eq_true rfl) (by simp [mj_recv, rS_f hs8]) rfl (mj_Ok.up (by decide) (rp_fails (D := 0) (c := 2) hs8)) (fun v' g11 hq' => ?_) (fun i h' hq' => by obtain ⟨_, _, h⟩ := hq'; cases h)
    obtain ⟨_, hs11, hq'⟩ := hq'
    cases hq'
    exact mj_T.ret rfl rfl rfl ⟨0, g11, ⟨by decide, by decide⟩, rfl, ⟨_, N, B, X, V, hs11, K8.put ⟨by decide, by decide⟩ (by decide) (by decide) (by decide) (by decide) (by decide)⟩⟩
  cases hq'
  refine mj_T.if0 (a := 0) rfl ⟨by decide, by decide⟩ (fun hc => ?_) (fun hc => ?_)
  rotate_left
  · simp [jc] at hc
  iterate 3 refine mj_T.pl rfl rfl rfl rfl ?_
  refine mj_T.call (ins := .invokevirtual 213) rfl rfl (Nat.le_of_ble_eq_true rfl) (Nat.le_of_ble_eq_true rfl) (by simp [mj_recv, rS_f hs8]) rfl (mj_Ok.up (by decide) (rp_loads (D := 0) (p := 0) (r := x) (by decide) (by omega) K8.nR hs8)) (fun v' g12 hq' => ?_) (fun i h' hq' => by obtain ⟨_, _, h⟩ := hq'; cases h)
  obtain ⟨_, hs12, hq'⟩ := hq'
  cases hq'
  have a12 : ∀ e, e < 13 → jfl V 0 (fun e => N (x * 13 + e)) 13 (0 * 13 + e) = N (x * 13 + e) := fun e he => jfl_at _ _ _ he
  have b12 : ∀ s, (s < 0 * 13 ∨ 0 * 13 + 13 ≤ s) → jfl V 0 (fun e => N (x * 13 + e)) 13 s = V s := fun s hc => jfl_off _ _ _ hc
  generalize jfl V 0 (fun e => N (x * 13 + e)) 13 = W12 at hs12 a12 b12
  have c1 : ∀ e, e < 13 → (W12 (0 * 13 + e)).natAbs ≤ 10 ^ 18 := fun e he => by
    rw [a12 e he]
    exact K8.sh (r := x) (by omega) he
  have c2 : jpo W12 0 ≠ pz_0 := jpo_ne_of (by rw [jdg_congr 13 a12]; exact nz10)
  iterate 2 refine mj_T.pl rfl rfl rfl rfl ?_
  refine mj_T.call (ins := .invokevirtual 324) rfl rfl (Nat.le_of_ble_eq_true rfl) (Nat.le_of_ble_eq_true rfl) (by simp [mj_recv, rS_f hs12]) rfl (mj_Ok.up (by decide) (jp_laysRow (D := 0) (rG S8 N B T X) (by show 7 < 16; decide) kq_fit51 rp_a51 (a := 0) (by decide) (by decide) (by decide) c2 (fun e he => by have := c1 e he; omega) hs12)) (fun v' g13 hq' => ?_) (fun i h' hq' => by obtain ⟨_, _, _, _, _, _, _, _, h⟩ := hq'; cases h)
  obtain ⟨k13, W13, _, hk13, hs13, hrow13, hf13, hn13, hq'⟩ := hq'
  cases hq'
  have hs13a : rS (jvu S8 7 ((k13 + 1 : Nat) : Int)) N B T X W13 g13 := hs13
  have K13 := K8.put (k := 7) (v := ((k13 + 1 : Nat) : Int)) ⟨by omega, by omega⟩ (by decide) (by decide) (by decide) (by decide) (by decide)
  have h713 : (rF (jvu S8 7 ((k13 + 1 : Nat) : Int)))[7]? = some (.int (jn ((k13 + 1 : Nat) : Int))) := rF7
  clear hs13
  generalize jvu S8 7 ((k13 + 1 : Nat) : Int) = S13 at hs13a K13 h713
  refine mj_T.pl rfl rfl rfl rfl ?_
  refine rT_get hs13a rfl h713 ?_
  exact mj_T.ret rfl rfl rfl ⟨_, g13, ⟨by omega, by omega⟩, rfl, ⟨S13, N, B, X, W13, hs13a, K13⟩⟩
theorem rp_changes {x y z : Int} (hx : jr x) (hy : jr y) (hz : jr z) (hI : jI tm er T h) : mj_Ok 40 274 [.ref 0, .int (jn x), .int (jn y), .int (jn z)] h (rI tm er T) := by
  refine mj_Ok.of (M := mj_m274) rfl rfl rfl ?_
  obtain ⟨S, N, B, X, V, hs, K⟩ := hI
  iterate 2 refine mj_T.pl rfl rfl rfl rfl ?_
  refine rT_put (v := 0) hs rfl rfl (by decide) rfl (fun g14 hs14 => ?_)
  have K14 := K.put (k := 3) (v := 0) ⟨by decide, by decide⟩ (by decide) (by decide) (by decide) (by decide) (by decide)
  generalize jvu S 3 0 = S14 at hs14 K14
  refine mj_T.pl rfl rfl rfl rfl ?_
  refine mj_T.call (ins := .invokestatic 181) rfl rfl (Nat.le_of_ble_eq_true rfl) (Nat.le_of_ble_eq_true rfl) rfl rfl (mj_Ok.up (by decide) (rp_isRegister (D := 0) hx)) (fun v' h' hq' => ?_) (fun i h' hq' => by rcases hq' with ⟨_, _, h⟩ | ⟨_, h⟩ <;> cases h)
  rcases hq' with ⟨x1, x2, hq'⟩ | ⟨_, hq'⟩
  case' inr =>
    cases hq'
    refine mj_T.if0 (a := 0) rfl ⟨by decide, by decide⟩ (fun hc => ?_) (fun hc => ?_)
    · simp [jc] at hc
    iterate 2 refine mj_T.pl rfl rfl rfl rfl ?_
    refine mj_T.call (ins := .invokevirtual 198) rfl rfl (Nat.le_of_ble_eq_true rfl) (Nat.le_of_ble_eq_true rfl) (by simp [mj_recv, rS_f hs14]) rfl (mj_Ok.up (by decide) (rp_fails (D := 0) (c := 1) hs14)) (fun v' g15 hq' => ?_) (fun i h' hq' => by obtain ⟨_, _, h⟩ := hq'; cases h)
    obtain ⟨_, hs15, hq'⟩ := hq'
    cases hq'
    exact mj_T.ret rfl rfl rfl ⟨0, g15, ⟨by decide, by decide⟩, rfl, ⟨_, N, B, X, V, hs15, K14.put ⟨by decide, by decide⟩ (by decide) (by decide) (by decide) (by decide) (by decide)⟩⟩
  cases hq'
  refine mj_T.if0 (a := 1) rfl ⟨by decide, by decide⟩ (fun hc => ?_) (fun hc => ?_)
  rotate_left
  · simp [jc] at hc
  obtain ⟨x, rfl⟩ := Int.eq_ofNat_of_zero_le x1
  iterate 2 refine mj_T.pl rfl rfl rfl rfl ?_
  refine mj_T.call (ins := .invokestatic 302) rfl rfl (Nat.le_of_ble_eq_true rfl) (Nat.le_of_ble_eq_true rfl) rfl rfl (mj_Ok.up (by decide) (rp_isFraction hy hz)) (fun v' h' hq' => ?_) (fun i h' hq' => by rcases hq' with ⟨_, _, h⟩ | ⟨_, h⟩ <;> cases h)
  rcases hq' with ⟨⟨y1, y2⟩, ⟨z1, z2⟩, hq'⟩ | ⟨_, hq'⟩
  case' inr =>
    cases hq'
    refine mj_T.if0 (a := 0) rfl ⟨by decide, by decide⟩ (fun hc => ?_) (fun hc => ?_)
    · simp [jc] at hc
    iterate 2 refine mj_T.pl rfl rfl rfl rfl ?_
    refine mj_T.call (ins := .invokevirtual 198) rfl rfl (Nat.le_of_ble_eq_true rfl) (Nat.le_of_ble_eq_true rfl) (by simp [mj_recv, rS_f hs14]) rfl (mj_Ok.up (by decide) (rp_fails (D := 0) (c := 2) hs14)) (fun v' g16 hq' => ?_) (fun i h' hq' => by obtain ⟨_, _, h⟩ := hq'; cases h)
    obtain ⟨_, hs16, hq'⟩ := hq'
    cases hq'
    exact mj_T.ret rfl rfl rfl ⟨0, g16, ⟨by decide, by decide⟩, rfl, ⟨_, N, B, X, V, hs16, K14.put ⟨by decide, by decide⟩ (by decide) (by decide) (by decide) (by decide) (by decide)⟩⟩
  cases hq'
  refine mj_T.if0 (a := 1) rfl ⟨by decide, by decide⟩ (fun hc => ?_) (fun hc => ?_)
  rotate_left
  · simp [jc] at hc
  iterate 2 refine mj_T.pl rfl rfl rfl rfl ?_
  refine mj_T.call (ins := .invokevirtual 232) rfl rfl (Nat.le_of_ble_eq_true rfl) (Nat.le_of_ble_eq_true rfl) (by simp [mj_recv, rS_f hs14]) rfl (mj_Ok.up (by decide) (rp_isZero (D := 0) (r := x) (by omega) K14.nR hs14)) (fun v' h' hq' => ?_) (fun i h' hq' => by rcases hq' with ⟨_, h⟩ | ⟨_, h⟩ <;> cases h)
  rcases hq' with ⟨_, hq'⟩ | ⟨nz17, hq'⟩
  case' inl =>
    cases hq'
    refine mj_T.if0 (a := 1) rfl ⟨by decide, by decide⟩ (fun hc => ?_) (fun hc => ?_)
    · simp [jc] at hc
    iterate 2 refine mj_T.pl rfl rfl rfl rfl ?_
    refine mj_T.call (ins := .invokevirtual 198) rfl rfl (Nat.le_of_ble_eq_true rfl) (Nat.le_of_ble_eq_true rfl) (by simp [mj_recv, rS_f hs14]) rfl (mj_Ok.up (by decide) (rp_fails (D := 0) (c := 3) hs14)) (fun v' g18 hq' => ?_) (fun i h' hq' => by obtain ⟨_, _, h⟩ := hq'; cases h)
    obtain ⟨_, hs18, hq'⟩ := hq'
    cases hq'
    exact mj_T.ret rfl rfl rfl ⟨0, g18, ⟨by decide, by decide⟩, rfl, ⟨_, N, B, X, V, hs18, K14.put ⟨by decide, by decide⟩ (by decide) (by decide) (by decide) (by decide) (by decide)⟩⟩
  cases hq'
  refine mj_T.if0 (a := 0) rfl ⟨by decide, by decide⟩ (fun hc => ?_) (fun hc => ?_)
  rotate_left
  · simp [jc] at hc
  iterate 3 refine mj_T.pl rfl rfl rfl rfl ?_
  refine mj_T.call (ins := .invokevirtual 213) rfl rfl (Nat.le_of_ble_eq_true rfl) (Nat.le_of_ble_eq_true rfl) (by simp [mj_recv, rS_f hs14]) rfl (mj_Ok.up (by decide) (rp_loads (D := 0) (p := 0) (r := x) (by decide) (by omega) K14.nR hs14)) (fun v' g19 hq' => ?_) (fun i h' hq' => by obtain ⟨_, _, h⟩ := hq'; cases h)
  obtain ⟨_, hs19, hq'⟩ := hq'
  cases hq'
  have a19 : ∀ e, e < 13 → jfl V 0 (fun e => N (x * 13 + e)) 13 (0 * 13 + e) = N (x * 13 + e) := fun e he => jfl_at _ _ _ he
  have b19 : ∀ s, (s < 0 * 13 ∨ 0 * 13 + 13 ≤ s) → jfl V 0 (fun e => N (x * 13 + e)) 13 s = V s := fun s hc => jfl_off _ _ _ hc
  generalize jfl V 0 (fun e => N (x * 13 + e)) 13 = W19 at hs19 a19 b19
  have c1 : ∀ e, e < 13 → (W19 (0 * 13 + e)).natAbs ≤ 10 ^ 18 := fun e he => by
    rw [a19 e he]
    exact K14.sh (r := x) (by omega) he
  have c2 : jpo W19 0 ≠ pz_0 := jpo_ne_of (by rw [jdg_congr 13 a19]; exact nz17)
  iterate 2 refine mj_T.pl rfl rfl rfl rfl ?_
  refine mj_T.call (ins := .invokevirtual 324) rfl rfl (Nat.le_of_ble_eq_true rfl) (Nat.le_of_ble_eq_true rfl) (by simp [mj_recv, rS_f hs19]) rfl (mj_Ok.up (by decide) (jp_laysRow (D := 0) (rG S14 N B T X) (by show 7 < 16; decide) kq_fit51 rp_a51 (a := 0) (by decide) (by decide) (by decide) c2 (fun e he => by have := c1 e he; omega) hs19)) (fun v' g20 hq' => ?_) (fun i h' hq' => by obtain ⟨_, _, _, _, _, _, _, _, h⟩ := hq'; cases h)
  obtain ⟨k20, W20, _, hk20, hs20, hrow20, hf20, hn20, hq'⟩ := hq'
  cases hq'
  have hs20a : rS (jvu S14 7 ((k20 + 1 : Nat) : Int)) N B T X W20 g20 := hs20
  have K20 := K14.put (k := 7) (v := ((k20 + 1 : Nat) : Int)) ⟨by omega, by omega⟩ (by decide) (by decide) (by decide) (by decide) (by decide)
  have h720 : (rF (jvu S14 7 ((k20 + 1 : Nat) : Int)))[7]? = some (.int (jn ((k20 + 1 : Nat) : Int))) := rF7
  clear hs20
  generalize jvu S14 7 ((k20 + 1 : Nat) : Int) = S20 at hs20a K20 h720
  iterate 3 refine mj_T.pl rfl rfl rfl rfl ?_
  refine mj_T.call (ins := .invokevirtual 305) rfl rfl (Nat.le_of_ble_eq_true rfl) (Nat.le_of_ble_eq_true rfl) (by simp [mj_recv, rS_f hs20a]) rfl (mj_Ok.up (by decide) (rp_setsFraction (D := 0) (x := y) (y := z) hy hz hs20a)) (fun v' g21 hq' => ?_) (fun i h' hq' => by obtain ⟨_, _, _, _, _, _, h⟩ := hq'; cases h)
  obtain ⟨W21, _, hs21, x21a, x21b, x21c, hq'⟩ := hq'
  cases hq'
  iterate 2 refine mj_T.pl rfl rfl rfl rfl ?_
  refine mj_T.call (ins := .invokevirtual 165) rfl rfl (Nat.le_of_ble_eq_true rfl) (Nat.le_of_ble_eq_true rfl) (by simp [mj_recv, rS_f hs21]) rfl (mj_Ok.up (by decide) (jp_changesAt (D := 0) (V := W21) (rG S20 N B T X) h720 hk20 (way := 0) (x := 1000) (by decide) (jrows_keep hrow20 hk20 (fun s hlt => x21c _ (by omega) (by omega))) (fun _ => ⟨by rw [x21a]; omega, by rw [x21b]; omega, by decide, rp_cr1, rp_fitv2⟩) hs21)) (fun v' g22 hq' => ?_) (fun i h' hq' => by obtain ⟨_, _, _, _, _, _, _, h⟩ := hq'; cases h)
  obtain ⟨W22, _, z22, hs22, f22, z22a, z22b, hq'⟩ := hq'
  cases hq'
  exact mj_T.ret rfl rfl rfl ⟨z22, g22, ⟨by omega, by omega⟩, rfl, ⟨S20, N, B, X, W22, hs22, K20⟩⟩
theorem rp_rootsBetween {x y z u w : Int} (hx : jr x) (hy : jr y) (hz : jr z) (hu : jr u) (hw : jr w) (hI : jI tm er T h) : mj_Ok 40 272 [.ref 0, .int (jn x), .int (jn y), .int (jn z), .int (jn u), .int (jn w)] h (rI tm er T) := by
  refine mj_Ok.of (M := mj_m272) rfl rfl rfl ?_
  obtain ⟨S, N, B, X, V, hs, K⟩ := hI
  iterate 2 refine mj_T.pl rfl rfl rfl rfl ?_
  refine rT_put (v := 0) hs rfl rfl (by decide) rfl (fun g23 hs23 => ?_)
  have K23 := K.put (k := 3) (v := 0) ⟨by decide, by decide⟩ (by decide) (by decide) (by decide) (by decide) (by decide)
  generalize jvu S 3 0 = S23 at hs23 K23
  refine mj_T.pl rfl rfl rfl rfl ?_
  refine mj_T.call (ins := .invokestatic 181) rfl rfl (Nat.le_of_ble_eq_true rfl) (Nat.le_of_ble_eq_true rfl) rfl rfl (mj_Ok.up (by decide) (rp_isRegister (D := 0) hx)) (fun v' h' hq' => ?_) (fun i h' hq' => by rcases hq' with ⟨_, _, h⟩ | ⟨_, h⟩ <;> cases h)
  rcases hq' with ⟨x1, x2, hq'⟩ | ⟨_, hq'⟩
  case' inr =>
    cases hq'
    refine mj_T.if0 (a := 0) rfl ⟨by decide, by decide⟩ (fun hc => ?_) (fun hc => ?_)
    · simp [jc] at hc
    iterate 2 refine mj_T.pl rfl rfl rfl rfl ?_
    refine mj_T.call (ins := .invokevirtual 198) rfl rfl (Nat.le_of_ble_eq_true rfl) (Nat.le_of_ble_eq_true rfl) (by simp [mj_recv, rS_f hs23]) rfl (mj_Ok.up (by decide) (rp_fails (D := 0) (c := 1) hs23)) (fun v' g24 hq' => ?_) (fun i h' hq' => by obtain ⟨_, _, h⟩ := hq'; cases h)
    obtain ⟨_, hs24, hq'⟩ := hq'
    cases hq'
    exact mj_T.ret rfl rfl rfl ⟨0, g24, ⟨by decide, by decide⟩, rfl, ⟨_, N, B, X, V, hs24, K23.put ⟨by decide, by decide⟩ (by decide) (by decide) (by decide) (by decide) (by decide)⟩⟩
  cases hq'
  refine mj_T.if0 (a := 1) rfl ⟨by decide, by decide⟩ (fun hc => ?_) (fun hc => ?_)
  rotate_left
  · simp [jc] at hc
  obtain ⟨x, rfl⟩ := Int.eq_ofNat_of_zero_le x1
  have t47 : mj_T 39 mj_m272 47 [some (.ref 0), some (.int (jn (x : Int))), some (.int (jn y)), some (.int (jn z)), some (.int (jn u)), some (.int (jn w)), none, none] [] g23 (rI tm er T) := by
    iterate 2 refine mj_T.pl rfl rfl rfl rfl ?_
    refine mj_T.call (ins := .invokevirtual 198) rfl rfl (Nat.le_of_ble_eq_true rfl) (Nat.le_of_ble_eq_true rfl) (by simp [mj_recv, rS_f hs23]) rfl (mj_Ok.up (by decide) (rp_fails (D := 0) (c := 2) hs23)) (fun v' g25 hq' => ?_) (fun i h' hq' => by obtain ⟨_, _, h⟩ := hq'; cases h)
    obtain ⟨_, hs25, hq'⟩ := hq'
    cases hq'
    exact mj_T.ret rfl rfl rfl ⟨0, g25, ⟨by decide, by decide⟩, rfl, ⟨_, N, B, X, V, hs25, K23.put ⟨by decide, by decide⟩ (by decide) (by decide) (by decide) (by decide) (by decide)⟩⟩
  iterate 2 refine mj_T.pl rfl rfl rfl rfl ?_
  refine mj_T.call (ins := .invokestatic 302) rfl rfl (Nat.le_of_ble_eq_true rfl) (Nat.le_of_ble_eq_true rfl) rfl rfl (mj_Ok.up (by decide) (rp_isFraction hy hz)) (fun v' h' hq' => ?_) (fun i h' hq' => by rcases hq' with ⟨_, _, h⟩ | ⟨_, h⟩ <;> cases h)
  rcases hq' with ⟨⟨y1, y2⟩, ⟨z1, z2⟩, hq'⟩ | ⟨_, hq'⟩
  case' inr =>
    cases hq'
    refine mj_T.if0 (a := 0) rfl ⟨by decide, by decide⟩ (fun hc => ?_) (fun hc => ?_)
    · exact t47
    · simp [jc] at hc
  cases hq'
  refine mj_T.if0 (a := 1) rfl ⟨by decide, by decide⟩ (fun hc => ?_) (fun hc => ?_)
  · simp [jc] at hc
  iterate 2 refine mj_T.pl rfl rfl rfl rfl ?_
  refine mj_T.call (ins := .invokestatic 302) rfl rfl (Nat.le_of_ble_eq_true rfl) (Nat.le_of_ble_eq_true rfl) rfl rfl (mj_Ok.up (by decide) (rp_isFraction hu hw)) (fun v' h' hq' => ?_) (fun i h' hq' => by rcases hq' with ⟨_, _, h⟩ | ⟨_, h⟩ <;> cases h)
  rcases hq' with ⟨⟨u1, u2⟩, ⟨w1, w2⟩, hq'⟩ | ⟨_, hq'⟩
  case' inr =>
    cases hq'
    refine mj_T.if0 (a := 0) rfl ⟨by decide, by decide⟩ (fun hc => ?_) (fun hc => ?_)
    · exact t47
    · simp [jc] at hc
  cases hq'
  refine mj_T.if0 (a := 1) rfl ⟨by decide, by decide⟩ (fun hc => ?_) (fun hc => ?_)
  · simp [jc] at hc
  have m1 : -1000000 ≤ y * w ∧ y * w ≤ 1000000 := by
    have k1 : y * w ≤ 1000 * w := Int.mul_le_mul_of_nonneg_right (by omega) (by omega)
    have k2 : -1000 * w ≤ y * w := Int.mul_le_mul_of_nonneg_right (by omega) (by omega)
    omega
  have m2 : -1000000 ≤ u * z ∧ u * z ≤ 1000000 := by
    have k1 : u * z ≤ 1000 * z := Int.mul_le_mul_of_nonneg_right (by omega) (by omega)
    have k2 : -1000 * z ≤ u * z := Int.mul_le_mul_of_nonneg_right (by omega) (by omega)
    omega
  iterate 2 refine mj_T.pl rfl rfl rfl rfl ?_
  refine mj_T.imul rfl ?_
  iterate 2 refine mj_T.pl rfl rfl rfl rfl ?_
  refine mj_T.imul rfl ?_
  refine mj_T.icmp (a := y * w) (b := u * z) rfl ⟨by omega, by omega⟩ ⟨by omega, by omega⟩ (fun hc => ?_) (fun hc => ?_)
  rotate_left
  · exact t47
  clear t47
  iterate 2 refine mj_T.pl rfl rfl rfl rfl ?_
  refine mj_T.call (ins := .invokevirtual 232) rfl rfl (Nat.le_of_ble_eq_true rfl) (Nat.le_of_ble_eq_true rfl) (by simp [mj_recv, rS_f hs23]) rfl (mj_Ok.up (by decide) (rp_isZero (D := 0) (r := x) (by omega) K23.nR hs23)) (fun v' h' hq' => ?_) (fun i h' hq' => by rcases hq' with ⟨_, h⟩ | ⟨_, h⟩ <;> cases h)
  rcases hq' with ⟨_, hq'⟩ | ⟨nz26, hq'⟩
  case' inl =>
    cases hq'
    refine mj_T.if0 (a := 1) rfl ⟨by decide, by decide⟩ (fun hc => ?_) (fun hc => ?_)
    · simp [jc] at hc
    iterate 2 refine mj_T.pl rfl rfl rfl rfl ?_
    refine mj_T.call (ins := .invokevirtual 198) rfl rfl (Nat.le_of_ble_eq_true rfl) (Nat.le_of_ble_eq_true rfl) (by simp [mj_recv, rS_f hs23]) rfl (mj_Ok.up (by decide) (rp_fails (D := 0) (c := 3) hs23)) (fun v' g27 hq' => ?_) (fun i h' hq' => by obtain ⟨_, _, h⟩ := hq'; cases h)
    obtain ⟨_, hs27, hq'⟩ := hq'
    cases hq'
    exact mj_T.ret rfl rfl rfl ⟨0, g27, ⟨by decide, by decide⟩, rfl, ⟨_, N, B, X, V, hs27, K23.put ⟨by decide, by decide⟩ (by decide) (by decide) (by decide) (by decide) (by decide)⟩⟩
  cases hq'
  refine mj_T.if0 (a := 0) rfl ⟨by decide, by decide⟩ (fun hc => ?_) (fun hc => ?_)
  rotate_left
  · simp [jc] at hc
  iterate 3 refine mj_T.pl rfl rfl rfl rfl ?_
  refine mj_T.call (ins := .invokevirtual 213) rfl rfl (Nat.le_of_ble_eq_true rfl) (Nat.le_of_ble_eq_true rfl) (by simp [mj_recv, rS_f hs23]) rfl (mj_Ok.up (by decide) (rp_loads (D := 0) (p := 0) (r := x) (by decide) (by omega) K23.nR hs23)) (fun v' g28 hq' => ?_) (fun i h' hq' => by obtain ⟨_, _, h⟩ := hq'; cases h)
  obtain ⟨_, hs28, hq'⟩ := hq'
  cases hq'
  have a28 : ∀ e, e < 13 → jfl V 0 (fun e => N (x * 13 + e)) 13 (0 * 13 + e) = N (x * 13 + e) := fun e he => jfl_at _ _ _ he
  have b28 : ∀ s, (s < 0 * 13 ∨ 0 * 13 + 13 ≤ s) → jfl V 0 (fun e => N (x * 13 + e)) 13 s = V s := fun s hc => jfl_off _ _ _ hc
  generalize jfl V 0 (fun e => N (x * 13 + e)) 13 = W28 at hs28 a28 b28
  have c1 : ∀ e, e < 13 → (W28 (0 * 13 + e)).natAbs ≤ 10 ^ 18 := fun e he => by
    rw [a28 e he]
    exact K23.sh (r := x) (by omega) he
  have c2 : jpo W28 0 ≠ pz_0 := jpo_ne_of (by rw [jdg_congr 13 a28]; exact nz26)
  iterate 3 refine mj_T.pl rfl rfl rfl rfl ?_
  refine mj_T.call (ins := .invokevirtual 305) rfl rfl (Nat.le_of_ble_eq_true rfl) (Nat.le_of_ble_eq_true rfl) (by simp [mj_recv, rS_f hs28]) rfl (mj_Ok.up (by decide) (rp_setsFraction (D := 0) (x := y) (y := z) hy hz hs28)) (fun v' g29 hq' => ?_) (fun i h' hq' => by obtain ⟨_, _, _, _, _, _, h⟩ := hq'; cases h)
  obtain ⟨W29, _, hs29, x29a, x29b, x29c, hq'⟩ := hq'
  cases hq'
  iterate 2 refine mj_T.pl rfl rfl rfl rfl ?_
  refine mj_T.call (ins := .invokevirtual 162) rfl rfl (Nat.le_of_ble_eq_true rfl) (Nat.le_of_ble_eq_true rfl) (by simp [mj_recv, rS_f hs29]) rfl (mj_Ok.up (by decide) (jp_valueAt (D := 0) (V := W29) (p := 0) (rG S23 N B T X) (by decide) (C := 10 ^ 18) (x := 1000) (fun e he => by rw [x29c _ (by omega) (by omega)]; exact c1 e he) (by rw [x29a]; omega) (by rw [x29b]; omega) (by decide) rp_fitv rp_fitv2 hs29)) (fun v' g30 hq' => ?_) (fun i h' hq' => by obtain ⟨_, _, _, _, _, _, _, h⟩ := hq'; cases h)
  obtain ⟨W30, _, hs30, v29, _, _, _, hq'⟩ := hq'
  cases hq'
  have f1 : ∀ j, j < 13 → W30 j = W28 j := fun j hj => by rw [v29 _ (by omega) (by omega) (by omega), x29c _ (by omega) (by omega)]
  have t92 : ∀ b : Int, (b = 0 ∨ b = 1) → mj_T 39 mj_m272 92 [some (.ref 0), some (.int (jn (x : Int))), some (.int (jn y)), some (.int (jn z)), some (.int (jn u)), some (.int (jn w)), none, none] [.int (jn b)] g30 (rI tm er T) := fun b hb => by
    refine mj_T.pl rfl rfl rfl rfl ?_
    iterate 3 refine mj_T.pl rfl rfl rfl rfl ?_
    refine mj_T.call (ins := .invokevirtual 305) rfl rfl (Nat.le_of_ble_eq_true rfl) (Nat.le_of_ble_eq_true rfl) (by simp [mj_recv, rS_f hs30]) rfl (mj_Ok.up (by decide) (rp_setsFraction (D := 0) (x := u) (y := w) hu hw hs30)) (fun v' g31 hq' => ?_) (fun i h' hq' => by obtain ⟨_, _, _, _, _, _, h⟩ := hq'; cases h)
    obtain ⟨W31, _, hs31, x31a, x31b, x31c, hq'⟩ := hq'
    cases hq'
    have f2 : ∀ j, j < 13 → W31 j = W28 j := fun j hj => by rw [x31c _ (by omega) (by omega), f1 j hj]
    have t115 : ∀ (V2 : Nat → Int) (g : mj_H), rS S23 N B T X V2 g → mj_T 39 mj_m272 115 [some (.ref 0), some (.int (jn (x : Int))), some (.int (jn y)), some (.int (jn z)), some (.int (jn u)), some (.int (jn w)), some (.int (jn b)), none] [] g (rI tm er T) := fun V2 g hg => by
      iterate 2 refine mj_T.pl rfl rfl rfl rfl ?_
      refine mj_T.call (ins := .invokevirtual 198) rfl rfl (Nat.le_of_ble_eq_true rfl) (Nat.le_of_ble_eq_true rfl) (by simp [mj_recv, rS_f hg]) rfl (mj_Ok.up (by decide) (rp_fails (D := 0) (c := 4) hg)) (fun v' g32 hq' => ?_) (fun i h' hq' => by obtain ⟨_, _, h⟩ := hq'; cases h)
      obtain ⟨_, hs32, hq'⟩ := hq'
      cases hq'
      exact mj_T.ret rfl rfl rfl ⟨0, g32, ⟨by decide, by decide⟩, rfl, ⟨_, N, B, X, V2, hs32, K23.put ⟨by decide, by decide⟩ (by decide) (by decide) (by decide) (by decide) (by decide)⟩⟩
    refine mj_T.pl rfl rfl rfl rfl ?_
    refine mj_T.if0 (a := b) rfl ⟨by omega, by omega⟩ (fun hc9 => ?_) (fun hc9 => ?_)
    · exact t115 _ _ hs31
    iterate 2 refine mj_T.pl rfl rfl rfl rfl ?_
    refine mj_T.call (ins := .invokevirtual 162) rfl rfl (Nat.le_of_ble_eq_true rfl) (Nat.le_of_ble_eq_true rfl) (by simp [mj_recv, rS_f hs31]) rfl (mj_Ok.up (by decide) (jp_valueAt (D := 0) (V := W31) (p := 0) (rG S23 N B T X) (by decide) (C := 10 ^ 18) (x := 1000) (fun e he => by rw [f2 _ (by omega)]; exact c1 e he) (by rw [x31a]; omega) (by rw [x31b]; omega) (by decide) rp_fitv rp_fitv2 hs31)) (fun v' g33 hq' => ?_) (fun i h' hq' => by obtain ⟨_, _, _, _, _, _, _, h⟩ := hq'; cases h)
    obtain ⟨W33, _, hs33, v32, _, _, _, hq'⟩ := hq'
    cases hq'
    have f3 : ∀ j, j < 13 → W33 j = W28 j := fun j hj => by rw [v32 _ (by omega) (by omega) (by omega), f2 j hj]
    have hsr := jsg_range (W33 659)
    refine mj_T.if0 (a := jsg (W33 659)) rfl ⟨by omega, by omega⟩ (fun hc8 => ?_) (fun hc8 => ?_)
    rotate_left
    · exact t115 _ _ hs33
    have c3 : ∀ e, e < 13 → (W33 (0 * 13 + e)).natAbs ≤ 10 ^ 18 := fun e he => by rw [f3 _ (by omega)]; exact c1 e he
    have c4 : jpo W33 0 ≠ pz_0 := by rw [jpo_eq (V := W28) (p := 0) fun e he => f3 _ (by omega)]; exact c2
    iterate 2 refine mj_T.pl rfl rfl rfl rfl ?_
    refine mj_T.call (ins := .invokevirtual 324) rfl rfl (Nat.le_of_ble_eq_true rfl) (Nat.le_of_ble_eq_true rfl) (by simp [mj_recv, rS_f hs33]) rfl (mj_Ok.up (by decide) (jp_laysRow (D := 0) (rG S23 N B T X) (by show 7 < 16; decide) kq_fit51 rp_a51 (a := 0) (by decide) (by decide) (by decide) c4 (fun e he => by have := c3 e he; omega) hs33)) (fun v' g34 hq' => ?_) (fun i h' hq' => by obtain ⟨_, _, _, _, _, _, _, _, h⟩ := hq'; cases h)
    obtain ⟨k34, W34, _, hk34, hs34, hrow34, hf34, hn34, hq'⟩ := hq'
    cases hq'
    have hs34a : rS (jvu S23 7 ((k34 + 1 : Nat) : Int)) N B T X W34 g34 := hs34
    have K34 := K23.put (k := 7) (v := ((k34 + 1 : Nat) : Int)) ⟨by omega, by omega⟩ (by decide) (by decide) (by decide) (by decide) (by decide)
    have h734 : (rF (jvu S23 7 ((k34 + 1 : Nat) : Int)))[7]? = some (.int (jn ((k34 + 1 : Nat) : Int))) := rF7
    clear hs34
    generalize jvu S23 7 ((k34 + 1 : Nat) : Int) = S34 at hs34a K34 h734
    iterate 3 refine mj_T.pl rfl rfl rfl rfl ?_
    refine mj_T.call (ins := .invokevirtual 305) rfl rfl (Nat.le_of_ble_eq_true rfl) (Nat.le_of_ble_eq_true rfl) (by simp [mj_recv, rS_f hs34a]) rfl (mj_Ok.up (by decide) (rp_setsFraction (D := 0) (x := y) (y := z) hy hz hs34a)) (fun v' g35 hq' => ?_) (fun i h' hq' => by obtain ⟨_, _, _, _, _, _, h⟩ := hq'; cases h)
    obtain ⟨W35, _, hs35, x35a, x35b, x35c, hq'⟩ := hq'
    cases hq'
    iterate 2 refine mj_T.pl rfl rfl rfl rfl ?_
    refine mj_T.call (ins := .invokevirtual 165) rfl rfl (Nat.le_of_ble_eq_true rfl) (Nat.le_of_ble_eq_true rfl) (by simp [mj_recv, rS_f hs35]) rfl (mj_Ok.up (by decide) (jp_changesAt (D := 0) (V := W35) (rG S34 N B T X) h734 hk34 (way := 0) (x := 1000) (by decide) (jrows_keep hrow34 hk34 (fun s hlt => x35c _ (by omega) (by omega))) (fun _ => ⟨by rw [x35a]; omega, by rw [x35b]; omega, by decide, rp_cr1, rp_fitv2⟩) hs35)) (fun v' g36 hq' => ?_) (fun i h' hq' => by obtain ⟨_, _, _, _, _, _, _, h⟩ := hq'; cases h)
    obtain ⟨W36, _, z36, hs36, f36, z36a, z36b, hq'⟩ := hq'
    cases hq'
    refine mj_T.pl rfl rfl rfl rfl ?_
    iterate 3 refine mj_T.pl rfl rfl rfl rfl ?_
    refine mj_T.call (ins := .invokevirtual 305) rfl rfl (Nat.le_of_ble_eq_true rfl) (Nat.le_of_ble_eq_true rfl) (by simp [mj_recv, rS_f hs36]) rfl (mj_Ok.up (by decide) (rp_setsFraction (D := 0) (x := u) (y := w) hu hw hs36)) (fun v' g37 hq' => ?_) (fun i h' hq' => by obtain ⟨_, _, _, _, _, _, h⟩ := hq'; cases h)
    obtain ⟨W37, _, hs37, x37a, x37b, x37c, hq'⟩ := hq'
    cases hq'
    refine mj_T.pl rfl rfl rfl rfl ?_
    iterate 2 refine mj_T.pl rfl rfl rfl rfl ?_
    refine mj_T.call (ins := .invokevirtual 165) rfl rfl (Nat.le_of_ble_eq_true rfl) (Nat.le_of_ble_eq_true rfl) (by simp [mj_recv, rS_f hs37]) rfl (mj_Ok.up (by decide) (jp_changesAt (D := 0) (V := W37) (rG S34 N B T X) h734 hk34 (way := 0) (x := 1000) (by decide) (jrows_keep hrow34 hk34 (fun s hlt => by rw [x37c _ (by omega) (by omega), f36 _ (by omega) (by omega) (by omega), x35c _ (by omega) (by omega)])) (fun _ => ⟨by rw [x37a]; omega, by rw [x37b]; omega, by decide, rp_cr1, rp_fitv2⟩) hs37)) (fun v' g38 hq' => ?_) (fun i h' hq' => by obtain ⟨_, _, _, _, _, _, _, h⟩ := hq'; cases h)
    obtain ⟨W38, _, z38, hs38, f38, z38a, z38b, hq'⟩ := hq'
    cases hq'
    refine mj_T.isub rfl ?_
    exact mj_T.ret rfl rfl rfl ⟨z36 - z38, g38, ⟨by omega, by omega⟩, rfl, ⟨S34, N, B, X, W38, hs38, K34⟩⟩
  have hsr := jsg_range (W30 659)
  refine mj_T.if0 (a := jsg (W30 659)) rfl ⟨by omega, by omega⟩ (fun hc8 => ?_) (fun hc8 => ?_)
  · refine mj_T.pl rfl rfl rfl rfl ?_
    exact t92 0 (Or.inl rfl)
  · iterate 2 refine mj_T.pl rfl rfl rfl rfl ?_
    exact t92 1 (Or.inr rfl)
end RPU
