/-! Calls of the reference: exponents, divisibility, sameness, agreements, told digits. -/
section RPU
variable {h : mj_H} {tm er : Int} {T : Nat → Int}
theorem rp_ex_in {S N B X V : Nat → Int} {D a m : Nat} {t0 : Int} (ha : a ≤ 5) (hN : ∀ j, j < 78 → jR (N j)) (hs : rS S N B T X V h) {Q : mj_R → Prop} (hout : ∀ k, k ≤ 12 → m ≤ rtm N a k → mj_T D mj_m256 71 [some (.ref 0), some (.int (jn (a : Int))), some (.int (jn (t0 : Int))), some (.int (jn ((k : Int)))), some (.int (jn ((m : Int))))] [] h Q) :
    ∀ k, k ≤ 12 → m + 1 ≤ rtm N a (k + 1) → mj_T D mj_m256 49 [some (.ref 0), some (.int (jn (a : Int))), some (.int (jn (t0 : Int))), some (.int (jn ((k : Int)))), some (.int (jn ((m : Int))))] [] h Q := by
  intro k
  induction k with
  | zero =>
    intro hk hr
    refine mj_T.pl rfl rfl rfl rfl ?_
    refine rT_get hs rfl rfl ?_
    iterate 2 refine mj_T.pl rfl rfl rfl rfl ?_
    refine mj_T.imul (a := (a : Int)) (b := 13) rfl ?_
    refine mj_T.pl rfl rfl rfl rfl ?_
    refine mj_T.iadd rfl ?_
    rw [show (a : Int) * 13 + ((0 : Nat) : Int) = ((a * 13 + 0 : Nat) : Int) by omega]
    refine rT_ldN hs rfl ⟨by omega, by omega⟩ ?_
    rw [Int.toNat_natCast]
    refine mj_T.pl rfl rfl rfl rfl ?_
    refine mj_T.lif (a := N (a * 13 + 0)) (b := 0) rfl rfl (hN _ (by omega)) ⟨by decide, by decide⟩ (fun hc2 => ?_) (fun hc2 => ?_)
    · simp only [jc, Bool.not_eq_true', decide_eq_false_iff_not] at hc2
      refine hout 0 (by omega) ?_
      rw [show rtm N a (0 + 1) = rtm N a 0 + 1 from if_neg hc2] at hr
      omega
    · simp only [jc, Bool.not_eq_false', decide_eq_true_eq] at hc2
      rw [show rtm N a (0 + 1) = rtm N a 0 from if_pos hc2] at hr
      have : rtm N a 0 = 0 := rfl
      omega
  | succ k ih =>
    intro hk hr
    refine mj_T.pl rfl rfl rfl rfl ?_
    refine rT_get hs rfl rfl ?_
    iterate 2 refine mj_T.pl rfl rfl rfl rfl ?_
    refine mj_T.imul (a := (a : Int)) (b := 13) rfl ?_
    refine mj_T.pl rfl rfl rfl rfl ?_
    refine mj_T.iadd rfl ?_
    rw [show (a : Int) * 13 + ((k + 1 : Nat) : Int) = ((a * 13 + (k + 1) : Nat) : Int) by omega]
    refine rT_ldN hs rfl ⟨by omega, by omega⟩ ?_
    rw [Int.toNat_natCast]
    refine mj_T.pl rfl rfl rfl rfl ?_
    refine mj_T.lif (a := N (a * 13 + (k + 1))) (b := 0) rfl rfl (hN _ (by omega)) ⟨by decide, by decide⟩ (fun hc2 => ?_) (fun hc2 => ?_)
    · simp only [jc, Bool.not_eq_true', decide_eq_false_iff_not] at hc2
      refine hout (k + 1) (by omega) ?_
      rw [show rtm N a ((k + 1) + 1) = rtm N a (k + 1) + 1 from if_neg hc2] at hr
      omega
    · simp only [jc, Bool.not_eq_false', decide_eq_true_eq] at hc2
      rw [show rtm N a (k + 1 + 1) = rtm N a (k + 1) from if_pos hc2] at hr
      refine mj_T.iinc (a := ((k + 1 : Nat) : Int)) rfl rfl ?_
      refine mj_T.pl rfl rfl rfl rfl ?_
      rw [show ((k + 1 : Nat) : Int) + -1 = (k : Int) by omega]
      exact ih (by omega) hr
theorem rp_ex_out {S N B X V : Nat → Int} {D a : Nat} {t0 : Int} (ha : a ≤ 5) (hN : ∀ j, j < 78 → jR (N j)) (hs : rS S N B T X V h) {Q : mj_R → Prop} (hend : ∀ k : Nat, k ≤ 13 → Q (.inl (some (.int (jn (k : Int)))), h)) :
    ∀ (m k : Nat), k ≤ 13 → m ≤ rtm N a k → mj_T D mj_m256 41 [some (.ref 0), some (.int (jn (a : Int))), some (.int (jn (t0 : Int))), some (.int (jn ((k : Int)))), some (.int (jn ((m : Int) - 1)))] [] h Q := by
  intro m
  induction m with
  | zero =>
    intro k hk hr
    refine mj_T.pl rfl rfl rfl rfl ?_
    refine mj_T.if0 (a := ((0 : Nat) : Int) - 1) rfl ⟨by decide, by decide⟩ (fun hc => ?_) (fun hc => ?_)
    · refine mj_T.pl rfl rfl rfl rfl ?_
      exact mj_T.ret rfl rfl rfl (hend k hk)
    · simp [jc] at hc
  | succ m ih =>
    intro k hk hr
    refine mj_T.pl rfl rfl rfl rfl ?_
    refine mj_T.if0 (a := ((m + 1 : Nat) : Int) - 1) rfl ⟨by have := rtm_le N a k; omega, by have := rtm_le N a k; omega⟩ (fun hc => ?_) (fun hc => ?_)
    · simp only [jc, decide_eq_true_eq] at hc
      omega
    have hk1 := rtm_le N a k
    obtain ⟨k, rfl⟩ : ∃ k2, k = k2 + 1 := ⟨k - 1, by omega⟩
    rw [show ((m + 1 : Nat) : Int) - 1 = (m : Int) by omega]
    refine mj_T.iinc (a := ((k + 1 : Nat) : Int)) rfl rfl ?_
    rw [show ((k + 1 : Nat) : Int) + -1 = (k : Int) by omega]
    refine rp_ex_in (D := D) (m := m) (t0 := t0) ha hN hs (fun k2 hk2 hr2 => ?_) k (by omega) hr
    refine mj_T.iinc (a := (m : Int)) rfl rfl ?_
    refine mj_T.pl rfl rfl rfl rfl ?_
    exact ih k2 (by omega) hr2
theorem rp_exponent {x y : Int} (hx : jr x) (hy : jr y) (hI : jI tm er T h) : mj_Ok 40 256 [.ref 0, .int (jn x), .int (jn y)] h (rI tm er T) := by
  refine mj_Ok.of (M := mj_m256) rfl rfl rfl ?_
  obtain ⟨S, N, B, X, V, hs, K⟩ := hI
  iterate 2 refine mj_T.pl rfl rfl rfl rfl ?_
  refine rT_put (v := 0) hs rfl rfl (by decide) rfl (fun g1 hs1 => ?_)
  have K1 := K.put (k := 3) (v := 0) ⟨by decide, by decide⟩ (by decide) (by decide) (by decide) (by decide) (by decide)
  generalize jvu S 3 0 = S1 at hs1 K1
  have t29 : mj_T 39 mj_m256 29 [some (.ref 0), some (.int (jn x)), some (.int (jn y)), none, none] [] g1 (rI tm er T) := by
    iterate 2 refine mj_T.pl rfl rfl rfl rfl ?_
    refine mj_T.call (ins := .invokevirtual 198) rfl rfl (Nat.le_of_ble_eq_true rfl) (Nat.le_of_ble_eq_true rfl) (by simp [mj_recv, rS_f hs1]) rfl (mj_Ok.up (by decide) (rp_fails (D := 0) (c := 1) hs1)) (fun v' g2 hq' => ?_) (fun i h' hq' => by obtain ⟨_, _, h⟩ := hq'; cases h)
    obtain ⟨_, hs2, hq'⟩ := hq'
    cases hq'
    exact mj_T.ret rfl rfl rfl ⟨0, g2, ⟨by decide, by decide⟩, rfl, ⟨_, N, B, X, V, hs2, K1.put ⟨by decide, by decide⟩ (by decide) (by decide) (by decide) (by decide) (by decide)⟩⟩
  refine mj_T.pl rfl rfl rfl rfl ?_
  refine mj_T.call (ins := .invokestatic 181) rfl rfl (Nat.le_of_ble_eq_true rfl) (Nat.le_of_ble_eq_true rfl) rfl rfl (mj_Ok.up (by decide) (rp_isRegister (D := 0) hx)) (fun v' h' hq' => ?_) (fun i h' hq' => by rcases hq' with ⟨_, _, h⟩ | ⟨_, h⟩ <;> cases h)
  rcases hq' with ⟨x1, x2, hq'⟩ | ⟨_, hq'⟩
  case' inr =>
    cases hq'
    refine mj_T.if0 (a := 0) rfl ⟨by decide, by decide⟩ (fun hc => ?_) (fun hc => ?_)
    · exact t29
    · simp [jc] at hc
  cases hq'
  refine mj_T.if0 (a := 1) rfl ⟨by decide, by decide⟩ (fun hc => ?_) (fun hc => ?_)
  · simp [jc] at hc
  obtain ⟨x, rfl⟩ := Int.eq_ofNat_of_zero_le x1
  have hrt := rtm_le N x 13
  refine mj_T.pl rfl rfl rfl rfl ?_
  refine mj_T.i2l rfl hy ?_
  iterate 3 refine mj_T.pl rfl rfl rfl rfl ?_
  refine mj_T.call (ins := .invokevirtual 292) rfl rfl (Nat.le_of_ble_eq_true rfl) (Nat.le_of_ble_eq_true rfl) (by simp [mj_recv, rS_f hs1]) rfl (mj_Ok.up (by decide) (rp_termsOf (D := 0) (r := x) (by omega) K1.nR hs1)) (fun v' h' hq' => ?_) (fun i h' hq' => by cases hq')
  cases hq'
  refine mj_T.pl rfl rfl rfl rfl ?_
  refine mj_T.isub (a := ((rtm N x 13 : Nat) : Int)) (b := 1) rfl ?_
  refine mj_T.i2l rfl ⟨by omega, by omega⟩ ?_
  refine mj_T.call (ins := .invokestatic 177) rfl rfl (Nat.le_of_ble_eq_true rfl) (Nat.le_of_ble_eq_true rfl) rfl rfl (mj_Ok.up (by decide) (rp_in (D := 0) (v := y) (lo := 0) (hi := ((rtm N x 13 : Nat) : Int) - 1) ⟨by have := hy.1; omega, by have := hy.2; omega⟩ ⟨by decide, by decide⟩ ⟨by omega, by omega⟩)) (fun v' h' hq' => ?_) (fun i h' hq' => by rcases hq' with ⟨_, _, h⟩ | ⟨_, h⟩ <;> cases h)
  rcases hq' with ⟨y1, y2, hq'⟩ | ⟨_, hq'⟩
  case' inr =>
    cases hq'
    refine mj_T.if0 (a := 0) rfl ⟨by decide, by decide⟩ (fun hc => ?_) (fun hc => ?_)
    · simp [jc] at hc
    · exact t29
  cases hq'
  refine mj_T.if0 (a := 1) rfl ⟨by decide, by decide⟩ (fun hc => ?_) (fun hc => ?_)
  rotate_left
  · simp [jc] at hc
  obtain ⟨y, rfl⟩ := Int.eq_ofNat_of_zero_le y1
  iterate 4 refine mj_T.pl rfl rfl rfl rfl ?_
  have fin := rp_ex_out (D := 39) (a := x) (t0 := (y : Int)) (by omega) K1.nR hs1 (Q := rI tm er T) (fun k hk => ⟨(k : Int), _, ⟨by omega, by omega⟩, rfl, ⟨_, _, _, _, _, hs1, K1⟩⟩) (y + 1) 13 (by omega) (by omega)
  rw [show ((y + 1 : Nat) : Int) - 1 = (y : Int) by omega] at fin
  exact fin
theorem rp_divides {x y : Int} (hx : jr x) (hy : jr y) (hI : jI tm er T h) : mj_Ok 40 262 [.ref 0, .int (jn x), .int (jn y)] h (rI tm er T) := by
  refine mj_Ok.of (M := mj_m262) rfl rfl rfl ?_
  obtain ⟨S, N, B, X, V, hs, K⟩ := hI
  have t19 : mj_T 39 mj_m262 19 [some (.ref 0), some (.int (jn x)), some (.int (jn y))] [.ref 0] h (rI tm er T) := by
    refine mj_T.pl rfl rfl rfl rfl ?_
    refine rT_put (v := 1) hs rfl rfl (by decide) rfl (fun g1 hs1 => ?_)
    refine mj_T.pl rfl rfl rfl rfl ?_
    refine rT_get (v := .int (jn 1)) hs1 rfl (by rw [← jvu_at S 3 1]; rfl) ?_
    refine mj_T.if0 (a := 1) rfl ⟨by decide, by decide⟩ (fun hc => ?_) (fun hc => ?_)
    · simp [jc] at hc
    refine mj_T.pl rfl rfl rfl rfl ?_
    exact mj_T.ret rfl rfl rfl ⟨0, g1, ⟨by decide, by decide⟩, rfl, ⟨_, N, B, X, V, hs1, K.put ⟨by decide, by decide⟩ (by decide) (by decide) (by decide) (by decide) (by decide)⟩⟩
  refine mj_T.pl rfl rfl rfl rfl ?_
  refine mj_T.pl rfl rfl rfl rfl ?_
  refine mj_T.call (ins := .invokestatic 181) rfl rfl (Nat.le_of_ble_eq_true rfl) (Nat.le_of_ble_eq_true rfl) rfl rfl (mj_Ok.up (by decide) (rp_isRegister (D := 0) hx)) (fun v' h' hq' => ?_) (fun i h' hq' => by rcases hq' with ⟨_, _, h⟩ | ⟨_, h⟩ <;> cases h)
  rcases hq' with ⟨x1, x2, hq'⟩ | ⟨_, hq'⟩
  case' inr =>
    cases hq'
    refine mj_T.if0 (a := 0) rfl ⟨by decide, by decide⟩ (fun hc => ?_) (fun hc => ?_)
    · exact t19
    · simp [jc] at hc
  cases hq'
  refine mj_T.if0 (a := 1) rfl ⟨by decide, by decide⟩ (fun hc => ?_) (fun hc => ?_)
  · simp [jc] at hc
  refine mj_T.pl rfl rfl rfl rfl ?_
  refine mj_T.call (ins := .invokestatic 181) rfl rfl (Nat.le_of_ble_eq_true rfl) (Nat.le_of_ble_eq_true rfl) rfl rfl (mj_Ok.up (by decide) (rp_isRegister (D := 0) hy)) (fun v' h' hq' => ?_) (fun i h' hq' => by rcases hq' with ⟨_, _, h⟩ | ⟨_, h⟩ <;> cases h)
  rcases hq' with ⟨y1, y2, hq'⟩ | ⟨_, hq'⟩
  case' inr =>
    cases hq'
    refine mj_T.if0 (a := 0) rfl ⟨by decide, by decide⟩ (fun hc => ?_) (fun hc => ?_)
    · exact t19
    · simp [jc] at hc
  cases hq'
  refine mj_T.if0 (a := 1) rfl ⟨by decide, by decide⟩ (fun hc => ?_) (fun hc => ?_)
  · simp [jc] at hc
  clear t19
  iterate 2 refine mj_T.pl rfl rfl rfl rfl ?_
  refine rT_put (v := 0) hs rfl rfl (by decide) rfl (fun g1 hs1 => ?_)
  have K1 := K.put (k := 3) (v := 0) ⟨by decide, by decide⟩ (by decide) (by decide) (by decide) (by decide) (by decide)
  refine mj_T.pl rfl rfl rfl rfl ?_
  refine rT_get (v := .int (jn 0)) hs1 rfl (by rw [← jvu_at S 3 0]; rfl) ?_
  generalize jvu S 3 0 = S1 at hs1 K1
  refine mj_T.if0 (a := 0) rfl ⟨by decide, by decide⟩ (fun hc => ?_) (fun hc => ?_)
  rotate_left
  · simp [jc] at hc
  obtain ⟨x, rfl⟩ := Int.eq_ofNat_of_zero_le x1
  obtain ⟨y, rfl⟩ := Int.eq_ofNat_of_zero_le y1
  have t48 : mj_T 39 mj_m262 48 [some (.ref 0), some (.int (jn (x : Int))), some (.int (jn (y : Int)))] [] g1 (rI tm er T) := by
    iterate 2 refine mj_T.pl rfl rfl rfl rfl ?_
    refine mj_T.call (ins := .invokevirtual 232) rfl rfl (Nat.le_of_ble_eq_true rfl) (Nat.le_of_ble_eq_true rfl) (by simp [mj_recv, rS_f hs1]) rfl (mj_Ok.up (by decide) (rp_isZero (D := 0) (r := y) (by omega) K1.nR hs1)) (fun v' h' hq' => ?_) (fun i h' hq' => by rcases hq' with ⟨_, h⟩ | ⟨_, h⟩ <;> cases h)
    rcases hq' with ⟨_, hq'⟩ | ⟨_, hq'⟩
    · cases hq'
      exact mj_T.ret rfl rfl rfl ⟨1, _, ⟨by decide, by decide⟩, rfl, ⟨_, _, _, _, _, hs1, K1⟩⟩
    · cases hq'
      exact mj_T.ret rfl rfl rfl ⟨0, _, ⟨by decide, by decide⟩, rfl, ⟨_, _, _, _, _, hs1, K1⟩⟩
  iterate 2 refine mj_T.pl rfl rfl rfl rfl ?_
  refine mj_T.call (ins := .invokevirtual 232) rfl rfl (Nat.le_of_ble_eq_true rfl) (Nat.le_of_ble_eq_true rfl) (by simp [mj_recv, rS_f hs1]) rfl (mj_Ok.up (by decide) (rp_isZero (D := 0) (r := x) (by omega) K1.nR hs1)) (fun v' h' hq' => ?_) (fun i h' hq' => by rcases hq' with ⟨_, h⟩ | ⟨_, h⟩ <;> cases h)
  rcases hq' with ⟨_, hq'⟩ | ⟨nzx, hq'⟩
  case' inl =>
    cases hq'
    refine mj_T.if0 (a := 1) rfl ⟨by decide, by decide⟩ (fun hc => ?_) (fun hc => ?_)
    · exact t48
    · simp [jc] at hc
  cases hq'
  refine mj_T.if0 (a := 0) rfl ⟨by decide, by decide⟩ (fun hc => ?_) (fun hc => ?_)
  · simp [jc] at hc
  iterate 2 refine mj_T.pl rfl rfl rfl rfl ?_
  refine mj_T.call (ins := .invokevirtual 232) rfl rfl (Nat.le_of_ble_eq_true rfl) (Nat.le_of_ble_eq_true rfl) (by simp [mj_recv, rS_f hs1]) rfl (mj_Ok.up (by decide) (rp_isZero (D := 0) (r := y) (by omega) K1.nR hs1)) (fun v' h' hq' => ?_) (fun i h' hq' => by rcases hq' with ⟨_, h⟩ | ⟨_, h⟩ <;> cases h)
  rcases hq' with ⟨_, hq'⟩ | ⟨nzy, hq'⟩
  case' inl =>
    cases hq'
    refine mj_T.if0 (a := 1) rfl ⟨by decide, by decide⟩ (fun hc => ?_) (fun hc => ?_)
    · simp [jc] at hc
    · exact t48
  cases hq'
  refine mj_T.if0 (a := 0) rfl ⟨by decide, by decide⟩ (fun hc => ?_) (fun hc => ?_)
  rotate_left
  · simp [jc] at hc
  clear t48
  iterate 3 refine mj_T.pl rfl rfl rfl rfl ?_
  refine mj_T.call (ins := .invokevirtual 213) rfl rfl (Nat.le_of_ble_eq_true rfl) (Nat.le_of_ble_eq_true rfl) (by simp [mj_recv, rS_f hs1]) rfl (mj_Ok.up (by decide) (rp_loads (D := 0) (p := 0) (r := x) (by decide) (by omega) K1.nR hs1)) (fun v' g3 hq' => ?_) (fun i h' hq' => by obtain ⟨_, _, h⟩ := hq'; cases h)
  obtain ⟨_, hs3, hq'⟩ := hq'
  cases hq'
  have a3 : ∀ e, e < 13 → jfl V 0 (fun e => N (x * 13 + e)) 13 (0 * 13 + e) = N (x * 13 + e) := fun e he => jfl_at _ _ _ he
  have b3 : ∀ s, (s < 0 * 13 ∨ 0 * 13 + 13 ≤ s) → jfl V 0 (fun e => N (x * 13 + e)) 13 s = V s := fun s hc => jfl_off _ _ _ hc
  generalize jfl V 0 (fun e => N (x * 13 + e)) 13 = W3 at hs3 a3 b3
  iterate 3 refine mj_T.pl rfl rfl rfl rfl ?_
  refine mj_T.call (ins := .invokevirtual 213) rfl rfl (Nat.le_of_ble_eq_true rfl) (Nat.le_of_ble_eq_true rfl) (by simp [mj_recv, rS_f hs3]) rfl (mj_Ok.up (by decide) (rp_loads (D := 0) (p := 1) (r := y) (by decide) (by omega) K1.nR hs3)) (fun v' g4 hq' => ?_) (fun i h' hq' => by obtain ⟨_, _, h⟩ := hq'; cases h)
  obtain ⟨_, hs4, hq'⟩ := hq'
  cases hq'
  have a4 : ∀ e, e < 13 → jfl W3 1 (fun e => N (y * 13 + e)) 13 (1 * 13 + e) = N (y * 13 + e) := fun e he => jfl_at _ _ _ he
  have b4 : ∀ s, (s < 1 * 13 ∨ 1 * 13 + 13 ≤ s) → jfl W3 1 (fun e => N (y * 13 + e)) 13 s = W3 s := fun s hc => jfl_off _ _ _ hc
  generalize jfl W3 1 (fun e => N (y * 13 + e)) 13 = W4 at hs4 a4 b4
  have c1 : ∀ e, e < 13 → (W4 (0 * 13 + e)).natAbs ≤ 10 ^ 18 := fun e he => by
    rw [b4 _ (by omega), a3 e he]
    exact K1.sh (r := x) (by omega) he
  have c2 : ∀ e, e < 13 → (W4 (1 * 13 + e)).natAbs ≤ 10 ^ 18 := fun e he => by
    rw [a4 e he]
    exact K1.sh (r := y) (by omega) he
  have hj0 : 1 ≤ jdg W4 0 13 := by rw [jdg_congr (V := N) (p := x) 13 (fun e he => by rw [b4 _ (by omega), a3 e he])]; exact nzx
  have hl0 := jdg_le W4 0 13
  have hl1 := jdg_le W4 1 13
  iterate 2 refine mj_T.pl rfl rfl rfl rfl ?_
  refine mj_T.call (ins := .invokevirtual 114) rfl rfl (Nat.le_of_ble_eq_true rfl) (Nat.le_of_ble_eq_true rfl) (by simp [mj_recv, rS_f hs4]) rfl (mj_Ok.up (by decide) (jp_degreeOf (D := 0) (rG S1 N B T X) (p := 1) (by decide) hs4)) (fun v' h' hq' => ?_) (fun i h' hq' => by cases hq')
  cases hq'
  iterate 2 refine mj_T.pl rfl rfl rfl rfl ?_
  refine mj_T.call (ins := .invokevirtual 114) rfl rfl (Nat.le_of_ble_eq_true rfl) (Nat.le_of_ble_eq_true rfl) (by simp [mj_recv, rS_f hs4]) rfl (mj_Ok.up (by decide) (jp_degreeOf (D := 0) (rG S1 N B T X) (p := 0) (by decide) hs4)) (fun v' h' hq' => ?_) (fun i h' hq' => by cases hq')
  cases hq'
  have t93 : ∀ (V2 : Nat → Int) (g : mj_H), rS S1 N B T X V2 g → mj_T 39 mj_m262 93 [some (.ref 0), some (.int (jn (x : Int))), some (.int (jn (y : Int)))] [] g (rI tm er T) := fun V2 g hg => by
    refine mj_T.pl rfl rfl rfl rfl ?_
    exact mj_T.ret rfl rfl rfl ⟨0, g, ⟨by decide, by decide⟩, rfl, ⟨_, _, _, _, _, hg, K1⟩⟩
  refine mj_T.icmp (a := (jdg W4 1 13 : Int) - 1) (b := (jdg W4 0 13 : Int) - 1) rfl ⟨by omega, by omega⟩ ⟨by omega, by omega⟩ (fun hc => ?_) (fun hc => ?_)
  · exact t93 _ _ hs4
  iterate 4 refine mj_T.pl rfl rfl rfl rfl ?_
  refine mj_T.call (ins := .invokevirtual 155) rfl rfl (Nat.le_of_ble_eq_true rfl) (Nat.le_of_ble_eq_true rfl) (by simp [mj_recv, rS_f hs4]) rfl (mj_Ok.up (by decide) (jp_dividesExactly (D := 0) (V := W4) (rG S1 N B T X) (tq := 2) (a := 1) (b := 0) (db := jdg W4 0 13 - 1) (lc := W4 (0 * 13 + (jdg W4 0 13 - 1))) (al := 10 ^ 18) (be := 10 ^ 18) (by decide) (by decide) (by decide) (by decide) (by decide) (by decide) (by decide) (by decide) (by omega) rfl c2 c1 (by decide) (Nat.lt_of_le_of_lt (Nat.mul_le_mul_left _ (Nat.pow_le_pow_right (by decide) (by omega : _ ≤ 13))) rp_small4) hs4)) (fun v' g5 hq' => ?_) (fun i h' hq' => by obtain ⟨_, _, _, _, ⟨_, h⟩ | ⟨_, h⟩⟩ := hq' <;> cases h)
  obtain ⟨W5, _, hs5, _, ⟨_, hq'⟩ | ⟨_, hq'⟩⟩ := hq'
  · cases hq'
    refine mj_T.if0 (a := 1) rfl ⟨by decide, by decide⟩ (fun hc => ?_) (fun hc => ?_)
    · simp [jc] at hc
    iterate 2 refine mj_T.pl rfl rfl rfl rfl ?_
    exact mj_T.ret rfl rfl rfl ⟨1, _, ⟨by decide, by decide⟩, rfl, ⟨_, _, _, _, _, hs5, K1⟩⟩
  · cases hq'
    refine mj_T.if0 (a := 0) rfl ⟨by decide, by decide⟩ (fun hc => ?_) (fun hc => ?_)
    · exact t93 _ _ hs5
    · simp [jc] at hc
theorem rp_sm_loop {S N B X V : Nat → Int} {D x y : Nat} (hx : x ≤ 5) (hy : y ≤ 5) (hN : ∀ j, j < 78 → jR (N j)) (hs : rS S N B T X V h) {Q : mj_R → Prop} (q0 : Q (.inl (some (.int (jn 0))), h)) (q1 : Q (.inl (some (.int (jn 1))), h)) :
    ∀ (m k : Nat) (b : Int), k + m = 13 → (b = 0 ∨ b = 1) → mj_T D mj_m263 5 [some (.ref 0), some (.int (jn (x : Int))), some (.int (jn (y : Int))), some (.int (jn b)), some (.int (jn (k : Int)))] [] h Q := by
  intro m
  induction m with
  | zero =>
    intro k b hk hb
    have hk : k = 13 := by omega
    subst hk
    iterate 2 refine mj_T.pl rfl rfl rfl rfl ?_
    refine mj_T.icmp (a := ((13 : Nat) : Int)) (b := 13) rfl ⟨by decide, by decide⟩ ⟨by decide, by decide⟩ (fun hc => ?_) (fun hc => ?_)
    · refine mj_T.pl rfl rfl rfl rfl ?_
      rcases hb with q | q <;> subst q
      · exact mj_T.ret rfl rfl rfl q0
      · exact mj_T.ret rfl rfl rfl q1
    · simp [jc] at hc
  | succ m ih =>
    intro k b hk hb
    iterate 2 refine mj_T.pl rfl rfl rfl rfl ?_
    refine mj_T.icmp (a := (k : Int)) (b := 13) rfl ⟨by omega, by omega⟩ ⟨by decide, by decide⟩ (fun hc => ?_) (fun hc => ?_)
    · simp only [jc, decide_eq_true_eq] at hc
      omega
    have t49 : ∀ b2 : Int, (b2 = 0 ∨ b2 = 1) → mj_T D mj_m263 49 [some (.ref 0), some (.int (jn (x : Int))), some (.int (jn (y : Int))), some (.int (jn b)), some (.int (jn (k : Int)))] [.int (jn b2)] h Q := fun b2 hb2 => by
      refine mj_T.pl rfl rfl rfl rfl ?_
      refine mj_T.iinc (a := (k : Int)) rfl rfl ?_
      refine mj_T.pl rfl rfl rfl rfl ?_
      exact ih (k + 1) b2 (by omega) hb2
    refine mj_T.pl rfl rfl rfl rfl ?_
    refine mj_T.if0 (a := b) rfl ⟨by omega, by omega⟩ (fun hc2 => ?_) (fun hc2 => ?_)
    · refine mj_T.pl rfl rfl rfl rfl ?_
      exact t49 0 (Or.inl rfl)
    refine mj_T.pl rfl rfl rfl rfl ?_
    refine rT_get hs rfl rfl ?_
    iterate 2 refine mj_T.pl rfl rfl rfl rfl ?_
    refine mj_T.imul (a := (x : Int)) (b := 13) rfl ?_
    refine mj_T.pl rfl rfl rfl rfl ?_
    refine mj_T.iadd rfl ?_
    rw [show (x : Int) * 13 + (k : Int) = ((x * 13 + k : Nat) : Int) by omega]
    refine rT_ldN hs rfl ⟨by omega, by omega⟩ ?_
    rw [Int.toNat_natCast]
    refine mj_T.pl rfl rfl rfl rfl ?_
    refine rT_get hs rfl rfl ?_
    iterate 2 refine mj_T.pl rfl rfl rfl rfl ?_
    refine mj_T.imul (a := (y : Int)) (b := 13) rfl ?_
    refine mj_T.pl rfl rfl rfl rfl ?_
    refine mj_T.iadd rfl ?_
    rw [show (y : Int) * 13 + (k : Int) = ((y * 13 + k : Nat) : Int) by omega]
    refine rT_ldN hs rfl ⟨by omega, by omega⟩ ?_
    rw [Int.toNat_natCast]
    refine mj_T.lif (a := N (x * 13 + k)) (b := N (y * 13 + k)) rfl rfl (hN _ (by omega)) (hN _ (by omega)) (fun hc3 => ?_) (fun hc3 => ?_)
    · refine mj_T.pl rfl rfl rfl rfl ?_
      exact t49 0 (Or.inl rfl)
    · iterate 2 refine mj_T.pl rfl rfl rfl rfl ?_
      exact t49 1 (Or.inr rfl)
theorem rp_isSame {S N B X V : Nat → Int} {D x y : Nat} (hx : x ≤ 5) (hy : y ≤ 5) (hN : ∀ j, j < 78 → jR (N j)) (hs : rS S N B T X V h) : mj_Ok (D + 1) 263 [.ref 0, .int (jn (x : Int)), .int (jn (y : Int))] h (fun r => (True ∧ r = (.inl (some (.int (jn 0))), h)) ∨ (True ∧ r = (.inl (some (.int (jn 1))), h))) := by
  refine mj_Ok.of (M := mj_m263) rfl rfl rfl ?_
  iterate 4 refine mj_T.pl rfl rfl rfl rfl ?_
  exact rp_sm_loop (D := D) hx hy hN hs (Or.inl ⟨trivial, rfl⟩) (Or.inr ⟨trivial, rfl⟩) 13 0 1 (by omega) (Or.inr rfl)
theorem rp_areSame {x y : Int} (hx : jr x) (hy : jr y) (hI : jI tm er T h) : mj_Ok 40 264 [.ref 0, .int (jn x), .int (jn y)] h (rI tm er T) := by
  refine mj_Ok.of (M := mj_m264) rfl rfl rfl ?_
  obtain ⟨S, N, B, X, V, hs, K⟩ := hI
  have t19 : mj_T 39 mj_m264 19 [some (.ref 0), some (.int (jn x)), some (.int (jn y))] [.ref 0] h (rI tm er T) := by
    refine mj_T.pl rfl rfl rfl rfl ?_
    refine rT_put (v := 1) hs rfl rfl (by decide) rfl (fun g1 hs1 => ?_)
    refine mj_T.pl rfl rfl rfl rfl ?_
    refine rT_get (v := .int (jn 1)) hs1 rfl (by rw [← jvu_at S 3 1]; rfl) ?_
    refine mj_T.if0 (a := 1) rfl ⟨by decide, by decide⟩ (fun hc => ?_) (fun hc => ?_)
    rotate_left
    · simp [jc] at hc
    refine mj_T.pl rfl rfl rfl rfl ?_
    exact mj_T.ret rfl rfl rfl ⟨0, g1, ⟨by decide, by decide⟩, rfl, ⟨_, N, B, X, V, hs1, K.put ⟨by decide, by decide⟩ (by decide) (by decide) (by decide) (by decide) (by decide)⟩⟩
  refine mj_T.pl rfl rfl rfl rfl ?_
  refine mj_T.pl rfl rfl rfl rfl ?_
  refine mj_T.call (ins := .invokestatic 181) rfl rfl (Nat.le_of_ble_eq_true rfl) (Nat.le_of_ble_eq_true rfl) rfl rfl (mj_Ok.up (by decide) (rp_isRegister (D := 0) hx)) (fun v' h' hq' => ?_) (fun i h' hq' => by rcases hq' with ⟨_, _, h⟩ | ⟨_, h⟩ <;> cases h)
  rcases hq' with ⟨x1, x2, hq'⟩ | ⟨_, hq'⟩
  case' inr =>
    cases hq'
    refine mj_T.if0 (a := 0) rfl ⟨by decide, by decide⟩ (fun hc => ?_) (fun hc => ?_)
    · exact t19
    · simp [jc] at hc
  cases hq'
  refine mj_T.if0 (a := 1) rfl ⟨by decide, by decide⟩ (fun hc => ?_) (fun hc => ?_)
  · simp [jc] at hc
  refine mj_T.pl rfl rfl rfl rfl ?_
  refine mj_T.call (ins := .invokestatic 181) rfl rfl (Nat.le_of_ble_eq_true rfl) (Nat.le_of_ble_eq_true rfl) rfl rfl (mj_Ok.up (by decide) (rp_isRegister (D := 0) hy)) (fun v' h' hq' => ?_) (fun i h' hq' => by rcases hq' with ⟨_, _, h⟩ | ⟨_, h⟩ <;> cases h)
  rcases hq' with ⟨y1, y2, hq'⟩ | ⟨_, hq'⟩
  case' inr =>
    cases hq'
    refine mj_T.if0 (a := 0) rfl ⟨by decide, by decide⟩ (fun hc => ?_) (fun hc => ?_)
    · exact t19
    · simp [jc] at hc
  cases hq'
  refine mj_T.if0 (a := 1) rfl ⟨by decide, by decide⟩ (fun hc => ?_) (fun hc => ?_)
  · simp [jc] at hc
  clear t19
  iterate 2 refine mj_T.pl rfl rfl rfl rfl ?_
  refine rT_put (v := 0) hs rfl rfl (by decide) rfl (fun g1 hs1 => ?_)
  have K1 := K.put (k := 3) (v := 0) ⟨by decide, by decide⟩ (by decide) (by decide) (by decide) (by decide) (by decide)
  refine mj_T.pl rfl rfl rfl rfl ?_
  refine rT_get (v := .int (jn 0)) hs1 rfl (by rw [← jvu_at S 3 0]; rfl) ?_
  generalize jvu S 3 0 = S1 at hs1 K1
  refine mj_T.if0 (a := 0) rfl ⟨by decide, by decide⟩ (fun hc => ?_) (fun hc => ?_)
  · simp [jc] at hc
  obtain ⟨x, rfl⟩ := Int.eq_ofNat_of_zero_le x1
  obtain ⟨y, rfl⟩ := Int.eq_ofNat_of_zero_le y1
  iterate 3 refine mj_T.pl rfl rfl rfl rfl ?_
  refine mj_T.call (ins := .invokevirtual 311) rfl rfl (Nat.le_of_ble_eq_true rfl) (Nat.le_of_ble_eq_true rfl) (by simp [mj_recv, rS_f hs1]) rfl (mj_Ok.up (by decide) (rp_isSame (D := 0) (x := x) (y := y) (by omega) (by omega) K1.nR hs1)) (fun v' h' hq' => ?_) (fun i h' hq' => by rcases hq' with ⟨_, h⟩ | ⟨_, h⟩ <;> cases h)
  rcases hq' with ⟨_, hq'⟩ | ⟨_, hq'⟩
  · cases hq'
    refine mj_T.if0 (a := 0) rfl ⟨by decide, by decide⟩ (fun hc => ?_) (fun hc => ?_)
    rotate_left
    · simp [jc] at hc
    refine mj_T.pl rfl rfl rfl rfl ?_
    exact mj_T.ret rfl rfl rfl ⟨0, _, ⟨by decide, by decide⟩, rfl, ⟨_, _, _, _, _, hs1, K1⟩⟩
  · cases hq'
    refine mj_T.if0 (a := 1) rfl ⟨by decide, by decide⟩ (fun hc => ?_) (fun hc => ?_)
    · simp [jc] at hc
    iterate 2 refine mj_T.pl rfl rfl rfl rfl ?_
    exact mj_T.ret rfl rfl rfl ⟨1, _, ⟨by decide, by decide⟩, rfl, ⟨_, _, _, _, _, hs1, K1⟩⟩
end RPU
