/-! Calls of the reference: roots closed in, roots that are fractions. -/
theorem rY1 : 1 ≤ rY := rp_x1
theorem r50 : 1 ≤ 10 ^ 50 := by decide
section RPU
variable {h : mj_H} {tm er : Int} {T : Nat → Int}
theorem rp_laysSimpleRow {S N B X V : Nat → Int} {x : Nat} (hx : x ≤ 5) (nz : 1 ≤ jdg N x 13) (hs : rS S N B T X V h) (K : jK tm er S N B T) : mj_Ok 39 275 [.ref 0, .int (jn (x : Int))] h (fun r => ∃ (S2 W : Nat → Int) (h2 : mj_H) (k : Nat) (z : Int), rS S2 N B T X W h2 ∧ jK tm er S2 N B T ∧ (k ≤ 12 ∧ (rF S2)[7]? = some (.int (jn ((k + 1 : Nat) : Int))) ∧ kfr k W) ∧ (-13 ≤ z ∧ z ≤ 13) ∧ r = (.inl (some (.int (jn z))), h2)) := by
  refine mj_Ok.of (M := mj_m275) rfl rfl rfl ?_
  iterate 3 refine mj_T.pl rfl rfl rfl rfl ?_
  refine mj_T.call (ins := .invokevirtual 213) rfl rfl (Nat.le_of_ble_eq_true rfl) (Nat.le_of_ble_eq_true rfl) (by simp [mj_recv, rS_f hs]) rfl (mj_Ok.up (by decide) (rp_loads (D := 0) (p := 0) (r := x) (by decide) (by omega) K.nR hs)) (fun v' g1 hq' => ?_) (fun i h' hq' => by obtain ⟨_, _, h⟩ := hq'; cases h)
  obtain ⟨_, hs1, hq'⟩ := hq'
  cases hq'
  have a1 : ∀ e, e < 13 → jfl V 0 (fun e => N (x * 13 + e)) 13 (0 * 13 + e) = N (x * 13 + e) := fun e he => jfl_at _ _ _ he
  have b1 : ∀ s, (s < 0 * 13 ∨ 0 * 13 + 13 ≤ s) → jfl V 0 (fun e => N (x * 13 + e)) 13 s = V s := fun s hc => jfl_off _ _ _ hc
  generalize jfl V 0 (fun e => N (x * 13 + e)) 13 = W1 at hs1 a1 b1
  have c1 : ∀ e, e < 13 → (W1 (0 * 13 + e)).natAbs ≤ 10 ^ 18 := fun e he => by
    rw [a1 e he]
    exact K.sh (r := x) (by omega) he
  have c2 : jpo W1 0 ≠ pz_0 := jpo_ne_of (by rw [jdg_congr 13 a1]; exact nz)
  iterate 3 refine mj_T.pl rfl rfl rfl rfl ?_
  refine mj_T.call (ins := .invokevirtual 235) rfl rfl (Nat.le_of_ble_eq_true rfl) (Nat.le_of_ble_eq_true rfl) (by simp [mj_recv, rS_f hs1]) rfl (mj_Ok.up (by decide) (jp_simplifies (D := 0) (rG S N B T X) c2 c1 hs1)) (fun v' g2 hq' => ?_) (fun i h' hq' => by obtain ⟨_, _, _, _, _, h⟩ := hq'; cases h)
  obtain ⟨W2, _, hs2, _, ⟨c3, c4⟩, hq'⟩ := hq'
  cases hq'
  have hks := rp_ks
  iterate 2 refine mj_T.pl rfl rfl rfl rfl ?_
  refine mj_T.call (ins := .invokevirtual 324) rfl rfl (Nat.le_of_ble_eq_true rfl) (Nat.le_of_ble_eq_true rfl) (by simp [mj_recv, rS_f hs2]) rfl (mj_Ok.up (by decide) (jp_laysRow (D := 0) (rG S N B T X) (by show 7 < 16; decide) kq_fit51 rp_a51 (a := 8) (by decide) (by decide) (by decide) c3 (fun e he => by have := c4 e he; omega) hs2)) (fun v' g3 hq' => ?_) (fun i h' hq' => by obtain ⟨_, _, _, _, _, _, _, _, h⟩ := hq'; cases h)
  obtain ⟨k3, W3, _, hk3, hs3, hrow3, hf3, hn3, hq'⟩ := hq'
  cases hq'
  have hs3a : rS (jvu S 7 ((k3 + 1 : Nat) : Int)) N B T X W3 g3 := hs3
  have K3 := K.put (k := 7) (v := ((k3 + 1 : Nat) : Int)) ⟨by omega, by omega⟩ (by decide) (by decide) (by decide) (by decide) (by decide)
  have h73 : (rF (jvu S 7 ((k3 + 1 : Nat) : Int)))[7]? = some (.int (jn ((k3 + 1 : Nat) : Int))) := rF7
  clear hs3
  generalize jvu S 7 ((k3 + 1 : Nat) : Int) = S3 at hs3a K3 h73
  have h8 : ∀ e, e < 13 → W3 (8 * 13 + e) = W2 (8 * 13 + e) := fun e he => hf3 _ (by omega) (by omega) (by omega) (by omega) (by omega) (by omega) (by omega) (by omega)
  have hkf : kfr k3 W3 := ⟨hrow3, fun e he => by rw [hn3 e he]; have := c4 e he; omega, by rw [jdg_congr 13 h8]; exact jpo_ne c3, fun e he => by rw [h8 e he]; have := c4 e he; omega⟩
  refine mj_T.pl rfl rfl rfl rfl ?_
  refine mj_T.call (ins := .invokevirtual 327) rfl rfl (Nat.le_of_ble_eq_true rfl) (Nat.le_of_ble_eq_true rfl) (by simp [mj_recv, rS_f hs3a]) rfl (mj_Ok.up (by decide) (jp_rootsOf (D := 0) (rG S3 N B T X) h73 hk3 hrow3 hs3a)) (fun v' g4 hq' => ?_) (fun i h' hq' => by obtain ⟨_, _, _, _, _, _, _, h⟩ := hq'; cases h)
  obtain ⟨W4, _, z4, hs4, f4, z4a, z4b, hq'⟩ := hq'
  cases hq'
  exact mj_T.ret rfl rfl rfl ⟨S3, W4, g4, k3, z4, hs4, K3, ⟨hk3, h73, hkf.keep hk3 (fun s hlt => f4 s (by omega) (by omega) (by omega))⟩, ⟨by omega, by omega⟩, rfl⟩
theorem rp_closeIn {x y z : Int} (hx : jr x) (hy : jr y) (hz : jr z) (hI : jI tm er T h) : mj_Ok 40 276 [.ref 0, .int (jn x), .int (jn y), .int (jn z)] h (rI tm er T) := by
  refine mj_Ok.of (M := mj_m276) rfl rfl rfl ?_
  obtain ⟨S, N, B, X, V, hs, K⟩ := hI
  iterate 2 refine mj_T.pl rfl rfl rfl rfl ?_
  refine rT_put (v := 0) hs rfl rfl (by decide) rfl (fun g5 hs5 => ?_)
  have K5 := K.put (k := 3) (v := 0) ⟨by decide, by decide⟩ (by decide) (by decide) (by decide) (by decide) (by decide)
  generalize jvu S 3 0 = S5 at hs5 K5
  have t37 : ∀ (S1 V1 : Nat → Int) (g : mj_H) (x : Int), rS S1 N B T X V1 g → jK tm er S1 N B T → mj_T 39 mj_m276 37 [some (.ref 0), some (.int (jn x)), some (.int (jn y)), some (.int (jn z))] [] g (rI tm er T) := fun S1 V1 g x hg KK => by
    iterate 2 refine mj_T.pl rfl rfl rfl rfl ?_
    refine mj_T.call (ins := .invokevirtual 198) rfl rfl (Nat.le_of_ble_eq_true rfl) (Nat.le_of_ble_eq_true rfl) (by simp [mj_recv, rS_f hg]) rfl (mj_Ok.up (by decide) (rp_fails (D := 0) (c := 1) hg)) (fun v' g6 hq' => ?_) (fun i h' hq' => by obtain ⟨_, _, h⟩ := hq'; cases h)
    obtain ⟨_, hs6, hq'⟩ := hq'
    cases hq'
    exact mj_T.ret rfl rfl rfl ⟨0, g6, ⟨by decide, by decide⟩, rfl, ⟨_, N, B, X, V1, hs6, KK.put ⟨by decide, by decide⟩ (by decide) (by decide) (by decide) (by decide) (by decide)⟩⟩
  refine mj_T.pl rfl rfl rfl rfl ?_
  refine mj_T.call (ins := .invokestatic 181) rfl rfl (Nat.le_of_ble_eq_true rfl) (Nat.le_of_ble_eq_true rfl) rfl rfl (mj_Ok.up (by decide) (rp_isRegister (D := 0) hx)) (fun v' h' hq' => ?_) (fun i h' hq' => by rcases hq' with ⟨_, _, h⟩ | ⟨_, h⟩ <;> cases h)
  rcases hq' with ⟨x1, x2, hq'⟩ | ⟨_, hq'⟩
  case' inr =>
    cases hq'
    refine mj_T.if0 (a := 0) rfl ⟨by decide, by decide⟩ (fun hc => ?_) (fun hc => ?_)
    · exact t37 _ _ _ x hs5 K5
    · simp [jc] at hc
  cases hq'
  refine mj_T.if0 (a := 1) rfl ⟨by decide, by decide⟩ (fun hc => ?_) (fun hc => ?_)
  · simp [jc] at hc
  obtain ⟨x, rfl⟩ := Int.eq_ofNat_of_zero_le x1
  iterate 2 refine mj_T.pl rfl rfl rfl rfl ?_
  refine mj_T.call (ins := .invokevirtual 232) rfl rfl (Nat.le_of_ble_eq_true rfl) (Nat.le_of_ble_eq_true rfl) (by simp [mj_recv, rS_f hs5]) rfl (mj_Ok.up (by decide) (rp_isZero (D := 0) (r := x) (by omega) K5.nR hs5)) (fun v' h' hq' => ?_) (fun i h' hq' => by rcases hq' with ⟨_, h⟩ | ⟨_, h⟩ <;> cases h)
  rcases hq' with ⟨_, hq'⟩ | ⟨nz, hq'⟩
  case' inl =>
    cases hq'
    refine mj_T.if0 (a := 1) rfl ⟨by decide, by decide⟩ (fun hc => ?_) (fun hc => ?_)
    · exact t37 _ _ _ (x : Int) hs5 K5
    · simp [jc] at hc
  cases hq'
  refine mj_T.if0 (a := 0) rfl ⟨by decide, by decide⟩ (fun hc => ?_) (fun hc => ?_)
  · simp [jc] at hc
  refine mj_T.pl rfl rfl rfl rfl ?_
  refine mj_T.i2l rfl hy ?_
  iterate 3 refine mj_T.pl rfl rfl rfl rfl ?_
  refine mj_T.call (ins := .invokevirtual 330) rfl rfl (Nat.le_of_ble_eq_true rfl) (Nat.le_of_ble_eq_true rfl) (by simp [mj_recv, rS_f hs5]) rfl (mj_Ok.up (by decide) (rp_laysSimpleRow (x := x) (by omega) nz hs5 K5)) (fun v' g8 hq' => ?_) (fun i h' hq' => by obtain ⟨_, _, _, _, _, _, _, _, _, h⟩ := hq'; cases h)
  obtain ⟨S8, W8, _, k8, z8, hs8, K8, ⟨hk8, h78, kf8⟩, ⟨z8a, z8b⟩, hq'⟩ := hq'
  cases hq'
  refine mj_T.pl rfl rfl rfl rfl ?_
  refine mj_T.isub (a := z8) (b := 1) rfl ?_
  refine mj_T.i2l rfl ⟨by omega, by omega⟩ ?_
  refine mj_T.call (ins := .invokestatic 177) rfl rfl (Nat.le_of_ble_eq_true rfl) (Nat.le_of_ble_eq_true rfl) rfl rfl (mj_Ok.up (by decide) (rp_in (D := 0) (v := y) (lo := 0) (hi := z8 - 1) ⟨by have := hy.1; omega, by have := hy.2; omega⟩ ⟨by decide, by decide⟩ ⟨by omega, by omega⟩)) (fun v' h' hq' => ?_) (fun i h' hq' => by rcases hq' with ⟨_, _, h⟩ | ⟨_, h⟩ <;> cases h)
  rcases hq' with ⟨y1, y2, hq'⟩ | ⟨_, hq'⟩
  case' inr =>
    cases hq'
    refine mj_T.if0 (a := 0) rfl ⟨by decide, by decide⟩ (fun hc => ?_) (fun hc => ?_)
    · simp [jc] at hc
    · exact t37 _ _ _ (x : Int) hs8 K8
  cases hq'
  refine mj_T.if0 (a := 1) rfl ⟨by decide, by decide⟩ (fun hc => ?_) (fun hc => ?_)
  rotate_left
  · simp [jc] at hc
  clear t37
  refine mj_T.pl rfl rfl rfl rfl ?_
  refine mj_T.i2l rfl hz ?_
  iterate 2 refine mj_T.pl rfl rfl rfl rfl ?_
  refine mj_T.call (ins := .invokestatic 177) rfl rfl (Nat.le_of_ble_eq_true rfl) (Nat.le_of_ble_eq_true rfl) rfl rfl (mj_Ok.up (by decide) (rp_in (D := 0) (v := z) (lo := 0) (hi := 20) ⟨by have := hz.1; omega, by have := hz.2; omega⟩ ⟨by decide, by decide⟩ ⟨by decide, by decide⟩)) (fun v' h' hq' => ?_) (fun i h' hq' => by rcases hq' with ⟨_, _, h⟩ | ⟨_, h⟩ <;> cases h)
  rcases hq' with ⟨r9a, r9b, hq'⟩ | ⟨_, hq'⟩
  case' inr =>
    cases hq'
    refine mj_T.if0 (a := 0) rfl ⟨by decide, by decide⟩ (fun hc => ?_) (fun hc => ?_)
    · simp [jc] at hc
    iterate 2 refine mj_T.pl rfl rfl rfl rfl ?_
    refine mj_T.call (ins := .invokevirtual 198) rfl rfl (Nat.le_of_ble_eq_true rfl) (Nat.le_of_ble_eq_true rfl) (by simp [mj_recv, rS_f hs8]) rfl (mj_Ok.up (by decide) (rp_fails (D := 0) (c := 2) hs8)) (fun v' g10 hq' => ?_) (fun i h' hq' => by obtain ⟨_, _, h⟩ := hq'; cases h)
    obtain ⟨_, hs10, hq'⟩ := hq'
    cases hq'
    exact mj_T.ret rfl rfl rfl ⟨0, g10, ⟨by decide, by decide⟩, rfl, ⟨_, N, B, X, W8, hs10, K8.put ⟨by decide, by decide⟩ (by decide) (by decide) (by decide) (by decide) (by decide)⟩⟩
  cases hq'
  refine mj_T.if0 (a := 1) rfl ⟨by decide, by decide⟩ (fun hc => ?_) (fun hc => ?_)
  rotate_left
  · simp [jc] at hc
  iterate 4 refine mj_T.pl rfl rfl rfl rfl ?_
  refine mj_T.pl rfl rfl rfl rfl ?_
  have hset : ∀ w : Int64, mj_T 39 mj_m276 68 [some (.ref 0), some (.int (jn (x : Int))), some (.int (jn y)), some (.int (jn z))] [.long w, .int (jn ((657 : Nat) : Int)), .ref 0] g8 (rI tm er T) := fun w => by
    rw [← jl_of w]
    have hwr := jR_of w
    refine mj_T.call (ins := .invokevirtual 45) rfl rfl (Nat.le_of_ble_eq_true rfl) (Nat.le_of_ble_eq_true rfl) (by simp [mj_recv, rS_f hs8]) rfl (mj_Ok.up (by decide) (jS_sets (D := 0) (rG S8 N B T X) (s := 657) (v := w.toInt) (by decide) hwr hs8)) (fun v' g11 hq' => ?_) (fun i h' hq' => by obtain ⟨_, _, h⟩ := hq'; cases h)
    obtain ⟨_, hs11, hq'⟩ := hq'
    cases hq'
    have u1 : jvu W8 657 w.toInt 657 = w.toInt := jvu_at _ _ _
    have u2 : ∀ s, s ≠ 657 → jvu W8 657 w.toInt s = W8 s := fun s hne => jvu_ne _ _ _ hne
    generalize jvu W8 657 w.toInt = W11 at hs11 u1 u2
    have kf := kf8.keep hk8 (W := W11) (fun s hlt => u2 s (by omega))
    iterate 2 refine mj_T.pl rfl rfl rfl rfl ?_
    refine mj_T.call (ins := .invokevirtual 335) rfl rfl (Nat.le_of_ble_eq_true rfl) (Nat.le_of_ble_eq_true rfl) (by simp [mj_recv, rS_f hs11]) rfl (mj_Ok.up (by decide) (jp_closes (D := 0) (V := W11) (rG S8 N B T X) h78 hk8 (root := y) hy (Cr := rCr) (C := 10 ^ 50) (x := 10 ^ 50) kf.1 kf.2.1 (by rw [u1]; have := hwr.1; have := hwr.2; omega) (by decide) rp_cr2 rp_cr3 hs11)) (fun v' g12 hq' => ?_) (fun i h' hq' => by obtain ⟨_, _, _, _, _, h⟩ := hq'; cases h)
    obtain ⟨W12, _, hs12, f12, b12, hq'⟩ := hq'
    cases hq'
    iterate 2 refine mj_T.pl rfl rfl rfl rfl ?_
    refine mj_T.call (ins := .invokevirtual 295) rfl rfl (Nat.le_of_ble_eq_true rfl) (Nat.le_of_ble_eq_true rfl) (by simp [mj_recv, rS_f hs12]) rfl (mj_Ok.up (by decide) (rp_tellsWhole (D := 0) (s := 656) (by decide) hs12)) (fun v' g13 hq' => ?_) (fun i h' hq' => by obtain ⟨_, _, _, _, _, h⟩ := hq'; cases h)
    obtain ⟨W13, z13, _, hs13, hz13, hq'⟩ := hq'
    cases hq'
    exact mj_T.ret rfl rfl rfl ⟨_, g13, hz13, rfl, ⟨S8, N, B, X, W13, hs13, K8⟩⟩
  exact hset _
theorem rp_isFractionRoot {S N B X V : Nat → Int} {root : Int} {k : Nat} (hr : jr root) (h7 : (rF S)[7]? = some (.int (jn ((k + 1 : Nat) : Int)))) (hk : k ≤ 12) (kf : kfr k V) (hs : rS S N B T X V h) : mj_Ok 39 277 [.ref 0, .int (jn root)] h (fun r => ∃ (W : Nat → Int) (h2 : mj_H), rS S N B T X W h2 ∧ (∀ s, s < 650 → W s = V s) ∧ W 657 ≠ 0 ∧ (r = (.inl (some (.int (jn 0))), h2) ∨ r = (.inl (some (.int (jn 1))), h2))) := by
  refine mj_Ok.of (M := mj_m277) rfl rfl rfl ?_
  have hl := jdg_le V 8 13
  have hne := jdg_ne V 8 13 kf.2.2.1
  have hb := kf.2.2.2 (jdg V 8 13 - 1) (by have := kf.2.2.1; omega)
  have h81 := kf.2.2.1
  obtain ⟨d, hd⟩ : ∃ d, jdg V 8 13 = d + 1 := ⟨jdg V 8 13 - 1, by omega⟩
  rw [hd, Nat.add_sub_cancel] at hne hb
  iterate 5 refine mj_T.pl rfl rfl rfl rfl ?_
  refine mj_T.call (ins := .invokevirtual 114) rfl rfl (Nat.le_of_ble_eq_true rfl) (Nat.le_of_ble_eq_true rfl) (by simp [mj_recv, rS_f hs]) rfl (mj_Ok.up (by decide) (jp_degreeOf (D := 0) (rG S N B T X) (p := 8) (by decide) hs)) (fun v' h' hq' => ?_) (fun i h' hq' => by cases hq')
  cases hq'
  rw [hd, show ((d + 1 : Nat) : Int) - 1 = (d : Int) by omega]
  refine mj_T.call (ins := .invokestatic 104) rfl rfl (Nat.le_of_ble_eq_true rfl) (Nat.le_of_ble_eq_true rfl) rfl rfl (mj_Ok.up (by decide) (jq_slot (D := 0) (p := 8) (i := d))) (fun v' h' hq' => ?_) (fun i h' hq' => by cases hq')
  cases hq'
  refine mj_T.call (ins := .invokevirtual 84) rfl rfl (Nat.le_of_ble_eq_true rfl) (Nat.le_of_ble_eq_true rfl) (by simp [mj_recv, rS_f hs]) rfl (mj_Ok.up (by decide) (jS_copies (D := 0) (rG S N B T X) (to := 657) (s := 8 * 13 + d) (by decide) (by omega) hs)) (fun v' g14 hq' => ?_) (fun i h' hq' => by obtain ⟨_, _, h⟩ := hq'; cases h)
  obtain ⟨_, hs14, hq'⟩ := hq'
  cases hq'
  have u1 : jvu V 657 (V (8 * 13 + d)) 657 = V (8 * 13 + d) := jvu_at _ _ _
  have u2 : ∀ s, s ≠ 657 → jvu V 657 (V (8 * 13 + d)) s = V s := fun s hne => jvu_ne _ _ _ hne
  generalize jvu V 657 (V (8 * 13 + d)) = W14 at hs14 u1 u2
  have kf1 := kf.keep hk (W := W14) (fun s hlt => u2 s (by omega))
  have h7x := h7
  have hkx := hk
  iterate 2 refine mj_T.pl rfl rfl rfl rfl ?_
  refine mj_T.call (ins := .invokevirtual 335) rfl rfl (Nat.le_of_ble_eq_true rfl) (Nat.le_of_ble_eq_true rfl) (by simp [mj_recv, rS_f hs14]) rfl (mj_Ok.up (by decide) (jp_closes (D := 0) (V := W14) (rG S N B T X) h7 hk (root := root) hr (Cr := rCr) (C := 10 ^ 50) (x := 10 ^ 50) kf1.1 kf1.2.1 (by rw [u1]; exact hb) (by decide) rp_cr2 rp_cr3 hs14)) (fun v' g15 hq' => ?_) (fun i h' hq' => by obtain ⟨_, _, _, _, _, h⟩ := hq'; cases h)
  obtain ⟨W15, _, hs15, fa, ba, hq'⟩ := hq'
  cases hq'
  have kf2 := kf1.keep hk (W := W15) (fun s hlt => fa s (by omega) (by omega) (by omega) (by omega) (by omega) (by omega) (by omega) (by omega) (by omega))
  have n57 : W15 657 = V (8 * 13 + d) := by rw [fa 657 (by decide) (by decide) (by decide) (by decide) (by decide) (by decide) (by decide) (by decide) (by decide), u1]
  iterate 2 refine mj_T.pl rfl rfl rfl rfl ?_
  refine mj_T.call (ins := .invokevirtual 162) rfl rfl (Nat.le_of_ble_eq_true rfl) (Nat.le_of_ble_eq_true rfl) (by simp [mj_recv, rS_f hs15]) rfl (mj_Ok.up (by decide) (jp_valueAt (D := 0) (V := W15) (p := 8) (rG S N B T X) (by decide) (C := 10 ^ 50) (x := rY) kf2.2.2.2 ba (by rw [n57]; exact Nat.le_trans hb rp_x50) rY1 rp_cr4 rp_cr3 hs15)) (fun v' g16 hq' => ?_) (fun i h' hq' => by obtain ⟨_, _, _, _, _, _, _, h⟩ := hq'; cases h)
  obtain ⟨W16, _, hs16, fb, _, _, _, hq'⟩ := hq'
  cases hq'
  have hsr := jsg_range (W16 659)
  have ff : ∀ s, s < 650 → W16 s = V s := fun s hlt => by rw [fb s (by omega) (by omega) (by omega), fa s (by omega) (by omega) (by omega) (by omega) (by omega) (by omega) (by omega) (by omega) (by omega), u2 s (by omega)]
  have fn : W16 657 ≠ 0 := by rw [fb 657 (by decide) (by decide) (by decide), n57]; exact hne
  refine mj_T.if0 (a := jsg (W16 659)) rfl ⟨by omega, by omega⟩ (fun hc8 => ?_) (fun hc8 => ?_)
  · refine mj_T.pl rfl rfl rfl rfl ?_
    exact mj_T.ret rfl rfl rfl ⟨_, _, hs16, ff, fn, Or.inl rfl⟩
  · iterate 2 refine mj_T.pl rfl rfl rfl rfl ?_
    exact mj_T.ret rfl rfl rfl ⟨_, _, hs16, ff, fn, Or.inr rfl⟩
theorem rp_frs_loop {S N B X : Nat → Int} {x : Int} {k : Nat} {z : Int} (hz : -13 ≤ z ∧ z ≤ 13) (h7 : (rF S)[7]? = some (.int (jn ((k + 1 : Nat) : Int)))) (hk : k ≤ 12) (K : jK tm er S N B T) :
    ∀ (m j c : Nat) (V : Nat → Int) (h : mj_H), z ≤ (j : Int) + m → j ≤ 13 → c ≤ j → kfr k V → rS S N B T X V h → mj_T 39 mj_m278 43 [some (.ref 0), some (.int (jn x)), some (.int (jn z)), some (.int (jn (c : Int))), some (.int (jn (j : Int)))] [] h (rI tm er T) := by
  intro m
  induction m with
  | zero =>
    intro j c V h hm hj hc kf hs
    iterate 2 refine mj_T.pl rfl rfl rfl rfl ?_
    refine mj_T.icmp (a := (j : Int)) (b := z) rfl ⟨by omega, by omega⟩ ⟨by omega, by omega⟩ (fun hc2 => ?_) (fun hc2 => ?_)
    · refine mj_T.pl rfl rfl rfl rfl ?_
      exact mj_T.ret rfl rfl rfl ⟨(c : Int), h, ⟨by omega, by omega⟩, rfl, ⟨_, _, _, _, _, hs, K⟩⟩
    · simp only [jc, decide_eq_false_iff_not] at hc2
      omega
  | succ m ih =>
    intro j c V h hm hj hc kf hs
    iterate 2 refine mj_T.pl rfl rfl rfl rfl ?_
    refine mj_T.icmp (a := (j : Int)) (b := z) rfl ⟨by omega, by omega⟩ ⟨by omega, by omega⟩ (fun hc2 => ?_) (fun hc2 => ?_)
    · refine mj_T.pl rfl rfl rfl rfl ?_
      exact mj_T.ret rfl rfl rfl ⟨(c : Int), h, ⟨by omega, by omega⟩, rfl, ⟨_, _, _, _, _, hs, K⟩⟩
    simp only [jc, decide_eq_false_iff_not] at hc2
    iterate 3 refine mj_T.pl rfl rfl rfl rfl ?_
    refine mj_T.call (ins := .invokevirtual 338) rfl rfl (Nat.le_of_ble_eq_true rfl) (Nat.le_of_ble_eq_true rfl) (by simp [mj_recv, rS_f hs]) rfl (mj_Ok.up (by decide) (rp_isFractionRoot (root := (j : Int)) ⟨by omega, by omega⟩ h7 hk kf hs)) (fun v' g1 hq' => ?_) (fun i h' hq' => by obtain ⟨_, _, _, _, _, h | h⟩ := hq' <;> cases h)
    obtain ⟨W, _, hs1, f1, _, hq' | hq'⟩ := hq'
    · cases hq'
      refine mj_T.if0 (a := 0) rfl ⟨by decide, by decide⟩ (fun hc => ?_) (fun hc => ?_)
      rotate_left
      · simp [jc] at hc
      refine mj_T.pl rfl rfl rfl rfl ?_
      refine mj_T.iadd (a := (c : Int)) (b := 0) rfl ?_
      rw [show (c : Int) + 0 = ((c + 0 : Nat) : Int) by omega]
      refine mj_T.pl rfl rfl rfl rfl ?_
      refine mj_T.iinc (a := (j : Int)) rfl rfl ?_
      refine mj_T.pl rfl rfl rfl rfl ?_
      exact ih (j + 1) (c + 0) _ _ (by omega) (by omega) (by omega) (kf.keep hk f1) hs1
    · cases hq'
      refine mj_T.if0 (a := 1) rfl ⟨by decide, by decide⟩ (fun hc => ?_) (fun hc => ?_)
      · simp [jc] at hc
      iterate 2 refine mj_T.pl rfl rfl rfl rfl ?_
      refine mj_T.iadd (a := (c : Int)) (b := 1) rfl ?_
      rw [show (c : Int) + 1 = ((c + 1 : Nat) : Int) by omega]
      refine mj_T.pl rfl rfl rfl rfl ?_
      refine mj_T.iinc (a := (j : Int)) rfl rfl ?_
      refine mj_T.pl rfl rfl rfl rfl ?_
      exact ih (j + 1) (c + 1) _ _ (by omega) (by omega) (by omega) (kf.keep hk f1) hs1
theorem rp_fractionRoots {x : Int} (hx : jr x) (hI : jI tm er T h) : mj_Ok 40 278 [.ref 0, .int (jn x)] h (rI tm er T) := by
  refine mj_Ok.of (M := mj_m278) rfl rfl rfl ?_
  obtain ⟨S, N, B, X, V, hs, K⟩ := hI
  iterate 2 refine mj_T.pl rfl rfl rfl rfl ?_
  refine rT_put (v := 0) hs rfl rfl (by decide) rfl (fun g17 hs17 => ?_)
  have K17 := K.put (k := 3) (v := 0) ⟨by decide, by decide⟩ (by decide) (by decide) (by decide) (by decide) (by decide)
  generalize jvu S 3 0 = S17 at hs17 K17
  refine mj_T.pl rfl rfl rfl rfl ?_
  refine mj_T.call (ins := .invokestatic 181) rfl rfl (Nat.le_of_ble_eq_true rfl) (Nat.le_of_ble_eq_true rfl) rfl rfl (mj_Ok.up (by decide) (rp_isRegister (D := 0) hx)) (fun v' h' hq' => ?_) (fun i h' hq' => by rcases hq' with ⟨_, _, h⟩ | ⟨_, h⟩ <;> cases h)
  rcases hq' with ⟨x1, x2, hq'⟩ | ⟨_, hq'⟩
  case' inr =>
    cases hq'
    refine mj_T.if0 (a := 0) rfl ⟨by decide, by decide⟩ (fun hc => ?_) (fun hc => ?_)
    · simp [jc] at hc
    iterate 2 refine mj_T.pl rfl rfl rfl rfl ?_
    refine mj_T.call (ins := .invokevirtual 198) rfl rfl (Nat.le_of_ble_eq_true rfl) (Nat.le_of_ble_eq_true rfl) (by simp [mj_recv, rS_f hs17]) rfl (mj_Ok.up (by decide) (rp_fails (D := 0) (c := 1) hs17)) (fun v' g18 hq' => ?_) (fun i h' hq' => by obtain ⟨_, _, h⟩ := hq'; cases h)
    obtain ⟨_, hs18, hq'⟩ := hq'
    cases hq'
    exact mj_T.ret rfl rfl rfl ⟨0, g18, ⟨by decide, by decide⟩, rfl, ⟨_, N, B, X, V, hs18, K17.put ⟨by decide, by decide⟩ (by decide) (by decide) (by decide) (by decide) (by decide)⟩⟩
  cases hq'
  refine mj_T.if0 (a := 1) rfl ⟨by decide, by decide⟩ (fun hc => ?_) (fun hc => ?_)
  rotate_left
  · simp [jc] at hc
  obtain ⟨x, rfl⟩ := Int.eq_ofNat_of_zero_le x1
  iterate 2 refine mj_T.pl rfl rfl rfl rfl ?_
  refine mj_T.call (ins := .invokevirtual 232) rfl rfl (Nat.le_of_ble_eq_true rfl) (Nat.le_of_ble_eq_true rfl) (by simp [mj_recv, rS_f hs17]) rfl (mj_Ok.up (by decide) (rp_isZero (D := 0) (r := x) (by omega) K17.nR hs17)) (fun v' h' hq' => ?_) (fun i h' hq' => by rcases hq' with ⟨_, h⟩ | ⟨_, h⟩ <;> cases h)
  rcases hq' with ⟨_, hq'⟩ | ⟨nz19, hq'⟩
  case' inl =>
    cases hq'
    refine mj_T.if0 (a := 1) rfl ⟨by decide, by decide⟩ (fun hc => ?_) (fun hc => ?_)
    · simp [jc] at hc
    iterate 2 refine mj_T.pl rfl rfl rfl rfl ?_
    refine mj_T.call (ins := .invokevirtual 198) rfl rfl (Nat.le_of_ble_eq_true rfl) (Nat.le_of_ble_eq_true rfl) (by simp [mj_recv, rS_f hs17]) rfl (mj_Ok.up (by decide) (rp_fails (D := 0) (c := 2) hs17)) (fun v' g20 hq' => ?_) (fun i h' hq' => by obtain ⟨_, _, h⟩ := hq'; cases h)
    obtain ⟨_, hs20, hq'⟩ := hq'
    cases hq'
    exact mj_T.ret rfl rfl rfl ⟨0, g20, ⟨by decide, by decide⟩, rfl, ⟨_, N, B, X, V, hs20, K17.put ⟨by decide, by decide⟩ (by decide) (by decide) (by decide) (by decide) (by decide)⟩⟩
  cases hq'
  refine mj_T.if0 (a := 0) rfl ⟨by decide, by decide⟩ (fun hc => ?_) (fun hc => ?_)
  rotate_left
  · simp [jc] at hc
  have nz := nz19
  iterate 2 refine mj_T.pl rfl rfl rfl rfl ?_
  refine mj_T.call (ins := .invokevirtual 330) rfl rfl (Nat.le_of_ble_eq_true rfl) (Nat.le_of_ble_eq_true rfl) (by simp [mj_recv, rS_f hs17]) rfl (mj_Ok.up (by decide) (rp_laysSimpleRow (x := x) (by omega) nz hs17 K17)) (fun v' g21 hq' => ?_) (fun i h' hq' => by obtain ⟨_, _, _, _, _, _, _, _, _, h⟩ := hq'; cases h)
  obtain ⟨S21, W21, _, k21, z21, hs21, K21, ⟨hk21, h721, kf21⟩, ⟨z21a, z21b⟩, hq'⟩ := hq'
  cases hq'
  iterate 5 refine mj_T.pl rfl rfl rfl rfl ?_
  exact rp_frs_loop (z := z21) ⟨z21a, z21b⟩ h721 hk21 K21 13 0 0 _ _ (by omega) (by decide) (by decide) kf21 hs21
theorem rp_fr_loop {S N B X : Nat → Int} {x y : Int} {k : Nat} {z : Int} (hz : -13 ≤ z ∧ z ≤ 13) (h7 : (rF S)[7]? = some (.int (jn ((k + 1 : Nat) : Int)))) (hk : k ≤ 12) (K : jK tm er S N B T) :
    ∀ (m j : Nat) (l : Int) (V : Nat → Int) (h : mj_H), z ≤ (j : Int) + m → j ≤ 13 → 0 ≤ l → jr l → kfr k V → rS S N B T X V h → mj_T 39 mj_m279 42 [some (.ref 0), some (.int (jn x)), some (.int (jn y)), some (.int (jn z)), some (.int (jn l)), some (.int (jn (j : Int)))] [] h (rI tm er T) := by
  have t85 : ∀ (j : Nat) (l : Int) (V : Nat → Int) (h : mj_H), rS S N B T X V h → mj_T 39 mj_m279 85 [some (.ref 0), some (.int (jn x)), some (.int (jn y)), some (.int (jn z)), some (.int (jn l)), some (.int (jn (j : Int)))] [] h (rI tm er T) := fun j l V h hs => by
    iterate 2 refine mj_T.pl rfl rfl rfl rfl ?_
    refine mj_T.call (ins := .invokevirtual 198) rfl rfl (Nat.le_of_ble_eq_true rfl) (Nat.le_of_ble_eq_true rfl) (by simp [mj_recv, rS_f hs]) rfl (mj_Ok.up (by decide) (rp_fails (D := 0) (c := 1) hs)) (fun v' g22 hq' => ?_) (fun i h' hq' => by obtain ⟨_, _, h⟩ := hq'; cases h)
    obtain ⟨_, hs22, hq'⟩ := hq'
    cases hq'
    exact mj_T.ret rfl rfl rfl ⟨0, g22, ⟨by decide, by decide⟩, rfl, ⟨_, N, B, X, V, hs22, K.put ⟨by decide, by decide⟩ (by decide) (by decide) (by decide) (by decide) (by decide)⟩⟩
  intro m
  induction m with
  | zero =>
    intro j l V h hm hj hl0 hl kf hs
    iterate 2 refine mj_T.pl rfl rfl rfl rfl ?_
    refine mj_T.icmp (a := (j : Int)) (b := z) rfl ⟨by omega, by omega⟩ ⟨by omega, by omega⟩ (fun hc2 => ?_) (fun hc2 => ?_)
    · exact t85 j l V h hs
    · simp only [jc, decide_eq_false_iff_not] at hc2
      omega
  | succ m ih =>
    intro j l V h hm hj hl0 hl kf hs
    iterate 2 refine mj_T.pl rfl rfl rfl rfl ?_
    refine mj_T.icmp (a := (j : Int)) (b := z) rfl ⟨by omega, by omega⟩ ⟨by omega, by omega⟩ (fun hc2 => ?_) (fun hc2 => ?_)
    · exact t85 j l V h hs
    simp only [jc, decide_eq_false_iff_not] at hc2
    have hla := hl.1
    have hlb := hl.2
    iterate 2 refine mj_T.pl rfl rfl rfl rfl ?_
    refine mj_T.call (ins := .invokevirtual 338) rfl rfl (Nat.le_of_ble_eq_true rfl) (Nat.le_of_ble_eq_true rfl) (by simp [mj_recv, rS_f hs]) rfl (mj_Ok.up (by decide) (rp_isFractionRoot (root := (j : Int)) ⟨by omega, by omega⟩ h7 hk kf hs)) (fun v' g1 hq' => ?_) (fun i h' hq' => by obtain ⟨_, _, _, _, _, h | h⟩ := hq' <;> cases h)
    obtain ⟨W, _, hs1, f1, n1, hq' | hq'⟩ := hq'
    · cases hq'
      refine mj_T.if0 (a := 0) rfl ⟨by decide, by decide⟩ (fun hc => ?_) (fun hc => ?_)
      · simp [jc] at hc
      refine mj_T.pl rfl rfl rfl rfl ?_
      refine mj_T.iinc (a := (j : Int)) rfl rfl ?_
      refine mj_T.pl rfl rfl rfl rfl ?_
      exact ih (j + 1) l _ _ (by omega) (by omega) hl0 hl (kf.keep hk f1) hs1
    · cases hq'
      refine mj_T.if0 (a := 1) rfl ⟨by decide, by decide⟩ (fun hc => ?_) (fun hc => ?_)
      rotate_left
      · simp [jc] at hc
      refine mj_T.pl rfl rfl rfl rfl ?_
      refine mj_T.if0 (a := l) rfl hl (fun hc3 => ?_) (fun hc3 => ?_)
      · refine mj_T.iinc (a := l) rfl rfl ?_
        refine mj_T.iinc (a := (j : Int)) rfl rfl ?_
        refine mj_T.pl rfl rfl rfl rfl ?_
        simp only [jc, Bool.not_eq_true', decide_eq_false_iff_not] at hc3
        exact ih (j + 1) (l + -1) _ _ (by omega) (by omega) (by omega) ⟨by omega, by omega⟩ (kf.keep hk f1) hs1
      iterate 3 refine mj_T.pl rfl rfl rfl rfl ?_
      refine mj_T.call (ins := .invokevirtual 308) rfl rfl (Nat.le_of_ble_eq_true rfl) (Nat.le_of_ble_eq_true rfl) (by simp [mj_recv, rS_f hs1]) rfl (mj_Ok.up (by decide) (jp_tells (D := 0) (rG S N B T X) (i := 656) (j := 657) (by decide) (by decide) (by decide) (by decide) n1 hs1)) (fun v' g23 hq' => ?_) (fun i h' hq' => by obtain ⟨_, _, _, _, _, _, h⟩ := hq'; cases h)
      obtain ⟨W23, _, hs23, _, _, _, hq'⟩ := hq'
      cases hq'
      have hsr := jsg_range (W23 650)
      exact mj_T.ret rfl rfl rfl ⟨_, g23, ⟨by omega, by omega⟩, rfl, ⟨S, N, B, X, W23, hs23, K⟩⟩
theorem rp_fractionRoot {x y : Int} (hx : jr x) (hy : jr y) (hI : jI tm er T h) : mj_Ok 40 279 [.ref 0, .int (jn x), .int (jn y)] h (rI tm er T) := by
  refine mj_Ok.of (M := mj_m279) rfl rfl rfl ?_
  obtain ⟨S, N, B, X, V, hs, K⟩ := hI
  iterate 2 refine mj_T.pl rfl rfl rfl rfl ?_
  refine rT_put (v := 0) hs rfl rfl (by decide) rfl (fun g24 hs24 => ?_)
  have K24 := K.put (k := 3) (v := 0) ⟨by decide, by decide⟩ (by decide) (by decide) (by decide) (by decide) (by decide)
  generalize jvu S 3 0 = S24 at hs24 K24
  have t24 : ∀ x : Int, mj_T 39 mj_m279 24 [some (.ref 0), some (.int (jn x)), some (.int (jn y)), none, none, none] [] g24 (rI tm er T) := fun x => by
    iterate 2 refine mj_T.pl rfl rfl rfl rfl ?_
    refine mj_T.call (ins := .invokevirtual 198) rfl rfl (Nat.le_of_ble_eq_true rfl) (Nat.le_of_ble_eq_true rfl) (by simp [mj_recv, rS_f hs24]) rfl (mj_Ok.up (by decide) (rp_fails (D := 0) (c := 1) hs24)) (fun v' g25 hq' => ?_) (fun i h' hq' => by obtain ⟨_, _, h⟩ := hq'; cases h)
    obtain ⟨_, hs25, hq'⟩ := hq'
    cases hq'
    exact mj_T.ret rfl rfl rfl ⟨0, g25, ⟨by decide, by decide⟩, rfl, ⟨_, N, B, X, V, hs25, K24.put ⟨by decide, by decide⟩ (by decide) (by decide) (by decide) (by decide) (by decide)⟩⟩
  refine mj_T.pl rfl rfl rfl rfl ?_
  refine mj_T.call (ins := .invokestatic 181) rfl rfl (Nat.le_of_ble_eq_true rfl) (Nat.le_of_ble_eq_true rfl) rfl rfl (mj_Ok.up (by decide) (rp_isRegister (D := 0) hx)) (fun v' h' hq' => ?_) (fun i h' hq' => by rcases hq' with ⟨_, _, h⟩ | ⟨_, h⟩ <;> cases h)
  rcases hq' with ⟨x1, x2, hq'⟩ | ⟨_, hq'⟩
  case' inr =>
    cases hq'
    refine mj_T.if0 (a := 0) rfl ⟨by decide, by decide⟩ (fun hc => ?_) (fun hc => ?_)
    · exact t24 x
    · simp [jc] at hc
  cases hq'
  refine mj_T.if0 (a := 1) rfl ⟨by decide, by decide⟩ (fun hc => ?_) (fun hc => ?_)
  · simp [jc] at hc
  obtain ⟨x, rfl⟩ := Int.eq_ofNat_of_zero_le x1
  iterate 2 refine mj_T.pl rfl rfl rfl rfl ?_
  refine mj_T.call (ins := .invokevirtual 232) rfl rfl (Nat.le_of_ble_eq_true rfl) (Nat.le_of_ble_eq_true rfl) (by simp [mj_recv, rS_f hs24]) rfl (mj_Ok.up (by decide) (rp_isZero (D := 0) (r := x) (by omega) K24.nR hs24)) (fun v' h' hq' => ?_) (fun i h' hq' => by rcases hq' with ⟨_, h⟩ | ⟨_, h⟩ <;> cases h)
  rcases hq' with ⟨_, hq'⟩ | ⟨nz, hq'⟩
  case' inl =>
    cases hq'
    refine mj_T.if0 (a := 1) rfl ⟨by decide, by decide⟩ (fun hc => ?_) (fun hc => ?_)
    · exact t24 (x : Int)
    · simp [jc] at hc
  cases hq'
  refine mj_T.if0 (a := 0) rfl ⟨by decide, by decide⟩ (fun hc => ?_) (fun hc => ?_)
  · simp [jc] at hc
  refine mj_T.pl rfl rfl rfl rfl ?_
  refine mj_T.if0 (a := y) rfl hy (fun hc3 => ?_) (fun hc3 => ?_)
  rotate_left
  · exact t24 (x : Int)
  simp only [jc, decide_eq_true_eq] at hc3
  iterate 2 refine mj_T.pl rfl rfl rfl rfl ?_
  refine mj_T.call (ins := .invokevirtual 330) rfl rfl (Nat.le_of_ble_eq_true rfl) (Nat.le_of_ble_eq_true rfl) (by simp [mj_recv, rS_f hs24]) rfl (mj_Ok.up (by decide) (rp_laysSimpleRow (x := x) (by omega) nz hs24 K24)) (fun v' g26 hq' => ?_) (fun i h' hq' => by obtain ⟨_, _, _, _, _, _, _, _, _, h⟩ := hq'; cases h)
  obtain ⟨S26, W26, _, k26, z26, hs26, K26, ⟨hk26, h726, kf26⟩, ⟨z26a, z26b⟩, hq'⟩ := hq'
  cases hq'
  iterate 5 refine mj_T.pl rfl rfl rfl rfl ?_
  exact rp_fr_loop (z := z26) ⟨z26a, z26b⟩ h726 hk26 K26 13 0 y _ _ (by omega) (by decide) (by omega) hy kf26 hs26
end RPU
