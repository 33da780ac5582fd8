/-! The reference, exactly: derive, setTerm. -/
section RPW
variable {h : mj_H} {tm er : Int} {T : Nat → Int} {N0 : Nat → Int} {u0 : Nat} {H : Nat → Nat → Int}
theorem rwN_at {N N0 : Nat → Int} (hn : ∀ j, j < 91 → N j = N0 j) {r e : Nat} (hr : r ≤ 5) (he : e < 13) : N (r * 13 + e) = rwN N0 (r : Int) e := by
  show _ = if e < 13 then N0 ((r : Int).toNat * 13 + e) else 0
  rw [if_pos he, Int.toNat_natCast]
  exact hn _ (by omega)
theorem rx_derive {x y : Int} (hx : jr x) (hy : jr y) (hI : jIx N0 u0 H tm er T h) : mj_Ok 40 235 [.ref 0, .int (jn x), .int (jn y)] h (RR tm er T N0 u0 H ((0 ≤ x ∧ x ≤ 5) ∧ (0 ≤ y ∧ y ≤ 5)) (fun w => ∀ j, j < 13 → w j = drN N0 y j) x) := by
  refine mj_Ok.of (M := mj_m235) rfl rfl rfl ?_
  obtain ⟨S, N, B, X, V, hs, K⟩ := hI
  iterate 2 refine mj_T.pl rfl rfl rfl rfl ?_
  refine rT_put (v := 0) hs rfl rfl (by decide) rfl (fun g14 hs14 => ?_)
  have K14 := K.put (k := 3) (v := 0) ⟨by decide, by decide⟩ (by decide) (by decide) (by decide) (by decide) (by decide)
  generalize jvu S 3 0 = S14 at hs14 K14
  iterate 3 refine mj_T.pl rfl rfl rfl rfl ?_
  refine mj_T.call (ins := .invokestatic 210) rfl rfl (Nat.le_of_ble_eq_true rfl) (Nat.le_of_ble_eq_true rfl) rfl rfl (mj_Ok.up (by decide) (rx_areRegisters (D := 0) hx hy hy)) (fun v' h' hq' => ?_) (fun i h' hq' => by rcases hq' with ⟨_, _, h⟩ | ⟨_, h⟩ <;> cases h)
  rcases hq' with ⟨⟨x1, x2⟩, ⟨y3, y4, y5, y6⟩, hq'⟩ | ⟨hno, hq'⟩
  case' inr =>
    cases hq'
    refine mj_T.if0 (a := 0) rfl ⟨by decide, by decide⟩ (fun hc => ?_) (fun hc => ?_)
    · simp [jc] at hc
    iterate 2 refine mj_T.pl rfl rfl rfl rfl ?_
    refine mj_T.call (ins := .invokevirtual 198) rfl rfl (Nat.le_of_ble_eq_true rfl) (Nat.le_of_ble_eq_true rfl) (by simp [mj_recv, rS_f hs14]) rfl (mj_Ok.up (by decide) (rp_fails (D := 0) (c := 1) hs14)) (fun v' g15 hq' => ?_) (fun i h' hq' => by obtain ⟨_, _, h⟩ := hq'; cases h)
    obtain ⟨_, hs15, hq'⟩ := hq'
    cases hq'
    exact mj_T.ret rfl rfl rfl (Or.inr ⟨fun q => hno ⟨q.1, q.2, q.2⟩, 0, g15, ⟨by decide, by decide⟩, rfl, ⟨_, N, B, X, V, hs15, K14.put ⟨by decide, by decide⟩ (by decide) (by decide) (by decide) (by decide) (by decide)⟩⟩)
  cases hq'
  refine mj_T.if0 (a := 1) rfl ⟨by decide, by decide⟩ (fun hc => ?_) (fun hc => ?_)
  rotate_left
  · simp [jc] at hc
  obtain ⟨x, rfl⟩ := Int.eq_ofNat_of_zero_le x1
  obtain ⟨y, rfl⟩ := Int.eq_ofNat_of_zero_le y3
  iterate 3 refine mj_T.pl rfl rfl rfl rfl ?_
  refine mj_T.call (ins := .invokevirtual 213) rfl rfl (Nat.le_of_ble_eq_true rfl) (Nat.le_of_ble_eq_true rfl) (by simp [mj_recv, rS_f hs14]) rfl (mj_Ok.up (by decide) (rp_loads (D := 0) (p := 0) (r := y) (by decide) (by omega) K14.nR hs14)) (fun v' g16 hq' => ?_) (fun i h' hq' => by obtain ⟨_, _, h⟩ := hq'; cases h)
  obtain ⟨_, hs16, hq'⟩ := hq'
  cases hq'
  have a16 : ∀ e, e < 13 → jfl V 0 (fun e => N (y * 13 + e)) 13 (0 * 13 + e) = N (y * 13 + e) := fun e he => jfl_at _ _ _ he
  have b16 : ∀ s, (s < 0 * 13 ∨ 0 * 13 + 13 ≤ s) → jfl V 0 (fun e => N (y * 13 + e)) 13 s = V s := fun s hc => jfl_off _ _ _ hc
  generalize jfl V 0 (fun e => N (y * 13 + e)) 13 = W16 at hs16 a16 b16
  have c1 : ∀ e, e < 13 → (W16 (0 * 13 + e)).natAbs ≤ 10 ^ 18 := fun e he => by
    rw [a16 e he]
    exact K14.sh (r := y) (by omega) he
  iterate 3 refine mj_T.pl rfl rfl rfl rfl ?_
  refine mj_T.call (ins := .invokevirtual 149) rfl rfl (Nat.le_of_ble_eq_true rfl) (Nat.le_of_ble_eq_true rfl) (by simp [mj_recv, rS_f hs16]) rfl (mj_Ok.up (by decide) (jp_derives (D := 0) (V := W16) (rG S14 N B T X) (p := 1) (a := 0) (by decide) (by decide) (by decide) (fun e he => jnl_of_lt (M := 10 ^ 18 * 13) (by rw [Int.natAbs_mul]; exact Nat.mul_le_mul (c1 (e + 1) (by omega)) (by omega)) kq_small) hs16)) (fun v' g17 hq' => ?_) (fun i h' hq' => by obtain ⟨_, _, _, _, h⟩ := hq'; cases h)
  obtain ⟨W17, _, hs17, hW, hq'⟩ := hq'
  cases hq'
  iterate 4 refine mj_T.pl rfl rfl rfl rfl ?_
  refine mj_T.call (ins := .invokevirtual 219) rfl rfl (Nat.le_of_ble_eq_true rfl) (Nat.le_of_ble_eq_true rfl) (by simp [mj_recv, rS_f hs17]) rfl (mj_Ok.up (by decide) (rx_puts (D := 0) (r := x) (p := 1) (c := 2) (by omega) (by decide) ⟨by decide, by decide⟩ K14 hs17)) (fun v' h' hq' => ?_) (fun i h' hq' => by rcases hq' with ⟨_, _, _, _, h, _⟩ | ⟨_, _, _, _, h, _⟩ <;> cases h)
  have hres : ∀ j, j < 13 → (fun e => W17 (1 * 13 + e)) j = drN N0 (y : Int) j := fun j hj => by
    show W17 (1 * 13 + j) = if j < 12 then rwN N0 (y : Int) (j + 1) * ((j + 1 : Nat) : Int) else 0
    rw [hW _ (by omega), jfl_at _ _ _ hj]
    by_cases q : j < 12
    · rw [if_pos q, if_pos q]
      show W16 (0 * 13 + j + 1) * ((j + 1 : Nat) : Int) = _
      rw [show 0 * 13 + j + 1 = 0 * 13 + (j + 1) by omega, a16 (j + 1) (by omega), rwN_at K14.2.1 (by omega) (by omega)]
    · rw [if_neg q, if_neg q]
  rcases hq' with ⟨hs9, z9, h9, hz9, e9, hI9⟩ | ⟨hs9, z9, h9, hz9, e9, hI9⟩
  · cases e9
    exact mj_T.ret rfl rfl rfl (Or.inl ⟨⟨⟨by omega, by omega⟩, ⟨by omega, by omega⟩⟩, _, hres, Or.inl ⟨hs9, z9, _, hz9, rfl, hI9⟩⟩)
  · cases e9
    exact mj_T.ret rfl rfl rfl (Or.inl ⟨⟨⟨by omega, by omega⟩, ⟨by omega, by omega⟩⟩, _, hres, Or.inr ⟨hs9, z9, _, hz9, rfl, hI9⟩⟩)
theorem rx_setTerm {x y : Int} (hx : jr x) (hy : jr y) {z : Int} (hz : jR z) (hI : jIx N0 u0 H tm er T h) : mj_Ok 40 244 [.ref 0, .int (jn x), .int (jn y), .long (jl z)] h (fun r => (((0 ≤ x ∧ x ≤ 5) ∧ (0 ≤ y ∧ y ≤ 12) ∧ (-999999999999999999 ≤ z ∧ z ≤ 999999999999999999)) ∧ rIx (jvu N0 (x.toNat * 13 + y.toNat) z) (upu u0) (pushH N0 H) tm er T r) ∨ (¬ ((0 ≤ x ∧ x ≤ 5) ∧ (0 ≤ y ∧ y ≤ 12) ∧ (-999999999999999999 ≤ z ∧ z ≤ 999999999999999999)) ∧ rIx N0 u0 H tm er T r)) := by
  refine mj_Ok.of (M := mj_m244) rfl rfl rfl ?_
  obtain ⟨S, N, B, X, V, hs, K⟩ := hI
  iterate 2 refine mj_T.pl rfl rfl rfl rfl ?_
  refine rT_put (v := 0) hs rfl rfl (by decide) rfl (fun g5 hs5 => ?_)
  have K5 := K.put (k := 3) (v := 0) ⟨by decide, by decide⟩ (by decide) (by decide) (by decide) (by decide) (by decide)
  generalize jvu S 3 0 = S5 at hs5 K5
  refine mj_T.pl rfl rfl rfl rfl ?_
  refine mj_T.call (ins := .invokestatic 181) rfl rfl (Nat.le_of_ble_eq_true rfl) (Nat.le_of_ble_eq_true rfl) rfl rfl (mj_Ok.up (by decide) (rp_isRegister (D := 0) hx)) (fun v' h' hq' => ?_) (fun i h' hq' => by rcases hq' with ⟨_, _, h⟩ | ⟨_, h⟩ <;> cases h)
  rcases hq' with ⟨x1, x2, hq'⟩ | ⟨cn, hq'⟩
  case' inr =>
    cases hq'
    refine mj_T.if0 (a := 0) rfl ⟨by decide, by decide⟩ (fun hc => ?_) (fun hc => ?_)
    · simp [jc] at hc
    iterate 2 refine mj_T.pl rfl rfl rfl rfl ?_
    refine mj_T.call (ins := .invokevirtual 198) rfl rfl (Nat.le_of_ble_eq_true rfl) (Nat.le_of_ble_eq_true rfl) (by simp [mj_recv, rS_f hs5]) rfl (mj_Ok.up (by decide) (rp_fails (D := 0) (c := 1) hs5)) (fun v' g6 hq' => ?_) (fun i h' hq' => by obtain ⟨_, _, h⟩ := hq'; cases h)
    obtain ⟨_, hs6, hq'⟩ := hq'
    cases hq'
    exact mj_T.ret rfl rfl rfl (Or.inr ⟨by omega, 0, g6, ⟨by decide, by decide⟩, rfl, ⟨_, N, B, X, V, hs6, K5.put ⟨by decide, by decide⟩ (by decide) (by decide) (by decide) (by decide) (by decide)⟩⟩)
  cases hq'
  refine mj_T.if0 (a := 1) rfl ⟨by decide, by decide⟩ (fun hc => ?_) (fun hc => ?_)
  rotate_left
  · simp [jc] at hc
  obtain ⟨x, rfl⟩ := Int.eq_ofNat_of_zero_le x1
  refine mj_T.pl rfl rfl rfl rfl ?_
  refine mj_T.i2l rfl hy ?_
  iterate 2 refine mj_T.pl rfl rfl rfl rfl ?_
  refine mj_T.call (ins := .invokestatic 177) rfl rfl (Nat.le_of_ble_eq_true rfl) (Nat.le_of_ble_eq_true rfl) rfl rfl (mj_Ok.up (by decide) (rp_in (D := 0) (v := y) (lo := 0) (hi := 12) ⟨by have := hy.1; omega, by have := hy.2; omega⟩ ⟨by decide, by decide⟩ ⟨by decide, by decide⟩)) (fun v' h' hq' => ?_) (fun i h' hq' => by rcases hq' with ⟨_, _, h⟩ | ⟨_, h⟩ <;> cases h)
  rcases hq' with ⟨r7a, r7b, hq'⟩ | ⟨cn, hq'⟩
  case' inr =>
    cases hq'
    refine mj_T.if0 (a := 0) rfl ⟨by decide, by decide⟩ (fun hc => ?_) (fun hc => ?_)
    · simp [jc] at hc
    iterate 2 refine mj_T.pl rfl rfl rfl rfl ?_
    refine mj_T.call (ins := .invokevirtual 198) rfl rfl (Nat.le_of_ble_eq_true rfl) (Nat.le_of_ble_eq_true rfl) (by simp [mj_recv, rS_f hs5]) rfl (mj_Ok.up (by decide) (rp_fails (D := 0) (c := 2) hs5)) (fun v' g8 hq' => ?_) (fun i h' hq' => by obtain ⟨_, _, h⟩ := hq'; cases h)
    obtain ⟨_, hs8, hq'⟩ := hq'
    cases hq'
    exact mj_T.ret rfl rfl rfl (Or.inr ⟨by omega, 0, g8, ⟨by decide, by decide⟩, rfl, ⟨_, N, B, X, V, hs8, K5.put ⟨by decide, by decide⟩ (by decide) (by decide) (by decide) (by decide) (by decide)⟩⟩)
  cases hq'
  refine mj_T.if0 (a := 1) rfl ⟨by decide, by decide⟩ (fun hc => ?_) (fun hc => ?_)
  rotate_left
  · simp [jc] at hc
  obtain ⟨y, rfl⟩ := Int.eq_ofNat_of_zero_le r7a
  refine mj_T.pl rfl rfl rfl rfl ?_
  iterate 2 refine mj_T.pl rfl rfl rfl rfl ?_
  refine mj_T.call (ins := .invokestatic 177) rfl rfl (Nat.le_of_ble_eq_true rfl) (Nat.le_of_ble_eq_true rfl) rfl rfl (mj_Ok.up (by decide) (rp_in (D := 0) (v := z) (lo := -999999999999999999) (hi := 999999999999999999) hz ⟨by decide, by decide⟩ ⟨by decide, by decide⟩)) (fun v' h' hq' => ?_) (fun i h' hq' => by rcases hq' with ⟨_, _, h⟩ | ⟨_, h⟩ <;> cases h)
  rcases hq' with ⟨r9a, r9b, hq'⟩ | ⟨cn, hq'⟩
  case' inr =>
    cases hq'
    refine mj_T.if0 (a := 0) rfl ⟨by decide, by decide⟩ (fun hc => ?_) (fun hc => ?_)
    · simp [jc] at hc
    iterate 2 refine mj_T.pl rfl rfl rfl rfl ?_
    refine mj_T.call (ins := .invokevirtual 198) rfl rfl (Nat.le_of_ble_eq_true rfl) (Nat.le_of_ble_eq_true rfl) (by simp [mj_recv, rS_f hs5]) rfl (mj_Ok.up (by decide) (rp_fails (D := 0) (c := 3) hs5)) (fun v' g10 hq' => ?_) (fun i h' hq' => by obtain ⟨_, _, h⟩ := hq'; cases h)
    obtain ⟨_, hs10, hq'⟩ := hq'
    cases hq'
    exact mj_T.ret rfl rfl rfl (Or.inr ⟨by omega, 0, g10, ⟨by decide, by decide⟩, rfl, ⟨_, N, B, X, V, hs10, K5.put ⟨by decide, by decide⟩ (by decide) (by decide) (by decide) (by decide) (by decide)⟩⟩)
  cases hq'
  refine mj_T.if0 (a := 1) rfl ⟨by decide, by decide⟩ (fun hc => ?_) (fun hc => ?_)
  rotate_left
  · simp [jc] at hc
  refine mj_T.pl rfl rfl rfl rfl ?_
  refine mj_T.call (ins := .invokevirtual 201) rfl rfl (Nat.le_of_ble_eq_true rfl) (Nat.le_of_ble_eq_true rfl) (by simp [mj_recv, rS_f hs5]) rfl (mj_Ok.up (by decide) (rx_keeps (D := 0) K5 hs5)) (fun v' g11 hq' => ?_) (fun i h' hq' => by obtain ⟨_, _, _, _, _, _, h⟩ := hq'; cases h)
  obtain ⟨S11, B11, _, hs11, K11, _, hq'⟩ := hq'
  cases hq'
  refine mj_T.pl rfl rfl rfl rfl ?_
  refine rT_get hs11 rfl rfl ?_
  iterate 2 refine mj_T.pl rfl rfl rfl rfl ?_
  refine mj_T.imul (a := (x : Int)) (b := 13) rfl ?_
  refine mj_T.pl rfl rfl rfl rfl ?_
  refine mj_T.iadd rfl ?_
  rw [show (x : Int) * 13 + (y : Int) = ((x * 13 + y : Nat) : Int) by omega]
  refine mj_T.pl rfl rfl rfl rfl ?_
  refine rT_stN hs11 rfl ⟨by omega, by omega⟩ (fun g12 hs12 => ?_)
  rw [Int.toNat_natCast] at hs12
  have K12 := K11.row (gN_put (j := x * 13 + y) (z := z) K11.1.1 (by omega) ⟨by omega, by omega⟩) (N1 := jvu N0 (x * 13 + y) z) (fun j hj => by
    unfold jvu
    split
    · rfl
    · exact K11.2.1 j hj)
  generalize jvu N (x * 13 + y) z = N12 at hs12 K12
  have hd := jdg_le N12 x 13
  iterate 2 refine mj_T.pl rfl rfl rfl rfl ?_
  refine mj_T.call (ins := .invokevirtual 185) rfl rfl (Nat.le_of_ble_eq_true rfl) (Nat.le_of_ble_eq_true rfl) (by simp [mj_recv, rS_f hs12]) rfl (mj_Ok.up (by decide) (rp_degreeIn (D := 0) (r := x) (by omega) K12.nR hs12)) (fun v' h' hq' => ?_) (fun i h' hq' => by cases hq')
  cases hq'
  exact mj_T.ret rfl rfl rfl (Or.inl ⟨⟨⟨by omega, by omega⟩, ⟨by omega, by omega⟩, ⟨by omega, by omega⟩⟩, _, g12, ⟨by omega, by omega⟩, rfl, ⟨S11, N12, B11, X, V, hs12, K12⟩⟩)
end RPW
/-! The reference, exactly: addPoint. -/
section RPA
variable {h : mj_H} {tm er : Int} {T : Nat → Int} {N0 : Nat → Int} {u0 : Nat} {H : Nat → Nat → Int}
/-- a point may be added -/
def okPt (N : Nat → Int) (x y : Int) : Prop := ((-9 ≤ x ∧ x ≤ 9) ∧ (-999 ≤ y ∧ y ≤ 999)) ∧ N 78 ≠ 6 ∧ ∀ j : Nat, (j : Int) < N 78 → N (79 + j) ≠ x
/-- a point is added, or nothing changes -/
def adR (N0 : Nat → Int) (u0 : Nat) (H : Nat → Nat → Int) (tm er : Int) (T : Nat → Int) (x y : Int) (r : mj_R) : Prop := (okPt N0 x y ∧ rIx (adN N0 x y) (upu u0) (pushH N0 H) tm er T r) ∨ (¬ okPt N0 x y ∧ rIx N0 u0 H tm er T r)
theorem rx_pt_loop {S N B X V : Nat → Int} {x y : Int} (hx : -9 ≤ x ∧ x ≤ 9) (hy : -999 ≤ y ∧ y ≤ 999) {n : Nat} (hn : N 78 = (n : Int)) (hn6 : n ≤ 6) (hs : rS S N B T X V h) (K : jKx N0 u0 H tm er S N B T) :
    ∀ (m k : Nat) (b : Int), k + m = n → (b = 0 ∨ b = 1) → (b = 0 → n ≠ 6 ∧ ∀ j, j < k → N (79 + j) ≠ x) → (b = 1 → n = 6 ∨ ∃ j, j < n ∧ N (79 + j) = x) → mj_T 39 mj_m246 62 [some (.ref 0), some (.int (jn x)), some (.int (jn y)), some (.int (jn b)), some (.int (jn (k : Int)))] [] h (adR N0 u0 H tm er T x y) := by
  intro m
  induction m with
  | zero =>
    intro k b hk hb hinv hful
    have hk : k = n := by omega
    subst hk
    refine mj_T.pl rfl rfl rfl rfl ?_
    refine mj_T.i2l rfl ⟨by omega, by omega⟩ ?_
    refine mj_T.pl rfl rfl rfl rfl ?_
    refine rT_get hs rfl rfl ?_
    refine mj_T.pl rfl rfl rfl rfl ?_
    refine rT_ldN (i := ((78 : Nat) : Int)) hs rfl ⟨by decide, by decide⟩ ?_
    rw [Int.toNat_natCast, hn]
    refine mj_T.lif (a := (k : Int)) (b := (k : Int)) rfl rfl ⟨by omega, by omega⟩ ⟨by omega, by omega⟩ (fun hc => ?_) (fun hc => ?_)
    · refine mj_T.pl rfl rfl rfl rfl ?_
      refine mj_T.if0 (a := b) rfl ⟨by omega, by omega⟩ (fun hc2 => ?_) (fun hc2 => ?_)
      · simp only [jc, decide_eq_true_eq] at hc2
        obtain ⟨i1, i2⟩ := hinv hc2
        refine mj_T.pl rfl rfl rfl rfl ?_
        refine mj_T.call (ins := .invokevirtual 201) rfl rfl (Nat.le_of_ble_eq_true rfl) (Nat.le_of_ble_eq_true rfl) (by simp [mj_recv, rS_f hs]) rfl (mj_Ok.up (by decide) (rx_keeps (D := 0) K hs)) (fun v' g1 hq' => ?_) (fun i h' hq' => by obtain ⟨_, _, _, _, _, _, h⟩ := hq'; cases h)
        obtain ⟨S1, B1, _, hs1, K1, _, hq'⟩ := hq'
        cases hq'
        refine mj_T.pl rfl rfl rfl rfl ?_
        refine rT_get hs1 rfl rfl ?_
        iterate 2 refine mj_T.pl rfl rfl rfl rfl ?_
        refine rT_get hs1 rfl rfl ?_
        refine mj_T.pl rfl rfl rfl rfl ?_
        refine rT_ldN (i := ((78 : Nat) : Int)) hs1 rfl ⟨by decide, by decide⟩ ?_
        rw [Int.toNat_natCast, hn]
        refine mj_T.l2i rfl ?_
        refine mj_T.iadd (a := 79) (b := (k : Int)) rfl ?_
        rw [show (79 : Int) + (k : Int) = ((79 + k : Nat) : Int) by omega]
        refine mj_T.pl rfl rfl rfl rfl ?_
        refine mj_T.i2l rfl ⟨by omega, by omega⟩ ?_
        refine rT_stN (z := x) hs1 rfl ⟨by omega, by omega⟩ (fun g2 hs2 => ?_)
        rw [Int.toNat_natCast] at hs2
        refine mj_T.pl rfl rfl rfl rfl ?_
        refine rT_get hs2 rfl rfl ?_
        iterate 2 refine mj_T.pl rfl rfl rfl rfl ?_
        refine rT_get hs2 rfl rfl ?_
        refine mj_T.pl rfl rfl rfl rfl ?_
        refine rT_ldN (i := ((78 : Nat) : Int)) hs2 rfl ⟨by decide, by decide⟩ ?_
        rw [Int.toNat_natCast, jvu_ne _ _ _ (by omega), hn]
        refine mj_T.l2i rfl ?_
        refine mj_T.iadd (a := 85) (b := (k : Int)) rfl ?_
        rw [show (85 : Int) + (k : Int) = ((85 + k : Nat) : Int) by omega]
        refine mj_T.pl rfl rfl rfl rfl ?_
        refine mj_T.i2l rfl ⟨by omega, by omega⟩ ?_
        refine rT_stN (z := y) hs2 rfl ⟨by omega, by omega⟩ (fun g3 hs3 => ?_)
        rw [Int.toNat_natCast] at hs3
        refine mj_T.pl rfl rfl rfl rfl ?_
        refine rT_get hs3 rfl rfl ?_
        iterate 2 refine mj_T.pl rfl rfl rfl rfl ?_
        refine rT_ldN (i := ((78 : Nat) : Int)) hs3 rfl ⟨by decide, by decide⟩ ?_
        rw [Int.toNat_natCast, jvu_ne _ _ _ (by omega), jvu_ne _ _ _ (by omega), hn]
        refine mj_T.pl rfl rfl rfl rfl ?_
        refine mj_T.ladd (a := (k : Int)) (b := 1) rfl ?_
        rw [show (k : Int) + 1 = ((k + 1 : Nat) : Int) by omega]
        refine rT_stN (i := ((78 : Nat) : Int)) (z := ((k + 1 : Nat) : Int)) hs3 rfl ⟨by decide, by decide⟩ (fun g4 hs4 => ?_)
        rw [Int.toNat_natCast] at hs4
        have n78 : N0 78 = (k : Int) := (K.2.1 78 (by decide)).symm.trans hn
        have ead : ∀ j, j < 91 → jvu (jvu (jvu N (79 + k) x) (85 + k) y) 78 ((k + 1 : Nat) : Int) j = adN N0 x y j := fun j hj => by
          unfold adN
          rw [show (N0 78).toNat = k by omega]
          unfold jvu
          split
          · rfl
          · split
            · rfl
            · split
              · rfl
              · exact K.2.1 j hj
        have hok : okPt N0 x y := ⟨⟨hx, hy⟩, by omega, fun j hj => by
          rw [← K.2.1 (79 + j) (by omega)]
          exact i2 j (by omega)⟩
        have K4 := K1.row (N1 := adN N0 x y) (gN_point (n := k) K.1.1 hn (by omega) hx hy i2) ead
        refine mj_T.pl rfl rfl rfl rfl ?_
        refine rT_get hs4 rfl rfl ?_
        refine mj_T.pl rfl rfl rfl rfl ?_
        refine rT_ldN (i := ((78 : Nat) : Int)) hs4 rfl ⟨by decide, by decide⟩ ?_
        rw [Int.toNat_natCast, jvu_at]
        refine mj_T.l2i rfl ?_
        exact mj_T.ret rfl rfl rfl (Or.inl ⟨hok, _, g4, ⟨by omega, by omega⟩, rfl, ⟨S1, _, B1, X, V, hs4, K4⟩⟩)
      · have hno : ¬ okPt N0 x y := fun q => by
          have n78 : N0 78 = (k : Int) := (K.2.1 78 (by decide)).symm.trans hn
          have hb1 : b = 1 := by
            simp only [jc, decide_eq_false_iff_not] at hc2
            exact hb.resolve_left hc2
          rcases hful hb1 with e | ⟨j, hj, e⟩
          · exact q.2.1 (by omega)
          · exact q.2.2 j (by omega) ((K.2.1 (79 + j) (by omega)).symm.trans e)
        iterate 2 refine mj_T.pl rfl rfl rfl rfl ?_
        refine mj_T.call (ins := .invokevirtual 198) rfl rfl (Nat.le_of_ble_eq_true rfl) (Nat.le_of_ble_eq_true rfl) (by simp [mj_recv, rS_f hs]) rfl (mj_Ok.up (by decide) (rp_fails (D := 0) (c := 2) hs)) (fun v' g5 hq' => ?_) (fun i h' hq' => by obtain ⟨_, _, h⟩ := hq'; cases h)
        obtain ⟨_, hs5, hq'⟩ := hq'
        cases hq'
        exact mj_T.ret rfl rfl rfl (Or.inr ⟨hno, 0, g5, ⟨by decide, by decide⟩, rfl, ⟨_, N, B, X, V, hs5, K.put ⟨by decide, by decide⟩ (by decide) (by decide) (by decide) (by decide) (by decide)⟩⟩)
    · simp only [jc, decide_eq_false_iff_not] at hc
      omega
  | succ m ih =>
    intro k b hk hb hinv hful
    refine mj_T.pl rfl rfl rfl rfl ?_
    refine mj_T.i2l rfl ⟨by omega, by omega⟩ ?_
    refine mj_T.pl rfl rfl rfl rfl ?_
    refine rT_get hs rfl rfl ?_
    refine mj_T.pl rfl rfl rfl rfl ?_
    refine rT_ldN (i := ((78 : Nat) : Int)) hs rfl ⟨by decide, by decide⟩ ?_
    rw [Int.toNat_natCast, hn]
    refine mj_T.lif (a := (k : Int)) (b := (n : Int)) rfl rfl ⟨by omega, by omega⟩ ⟨by omega, by omega⟩ (fun hc => ?_) (fun hc => ?_)
    · simp only [jc, decide_eq_true_eq] at hc
      omega
    have t101 : ∀ b2 : Int, (b2 = 0 ∨ b2 = 1) → (b2 = 0 → n ≠ 6 ∧ ∀ j, j < k + 1 → N (79 + j) ≠ x) → (b2 = 1 → n = 6 ∨ ∃ j, j < n ∧ N (79 + j) = x) → mj_T 39 mj_m246 101 [some (.ref 0), some (.int (jn x)), some (.int (jn y)), some (.int (jn b)), some (.int (jn (k : Int)))] [.int (jn b2)] h (adR N0 u0 H tm er T x y) := fun b2 hb2 hinv2 hful2 => by
      refine mj_T.pl rfl rfl rfl rfl ?_
      refine mj_T.iinc (a := (k : Int)) rfl rfl ?_
      refine mj_T.pl rfl rfl rfl rfl ?_
      exact ih (k + 1) b2 (by omega) hb2 hinv2 hful2
    refine mj_T.pl rfl rfl rfl rfl ?_
    refine mj_T.if0 (a := b) rfl ⟨by omega, by omega⟩ (fun hc2 => ?_) (fun hc2 => ?_)
    · iterate 2 refine mj_T.pl rfl rfl rfl rfl ?_
      exact t101 1 (Or.inr rfl) (fun e => absurd e (by decide)) (fun _ => hful (by simp only [jc, Bool.not_eq_true', decide_eq_false_iff_not] at hc2; exact hb.resolve_left hc2))
    simp only [jc, Bool.not_eq_false', decide_eq_true_eq] at hc2
    obtain ⟨i1, i2⟩ := hinv hc2
    refine mj_T.pl rfl rfl rfl rfl ?_
    refine rT_get hs rfl rfl ?_
    iterate 2 refine mj_T.pl rfl rfl rfl rfl ?_
    refine mj_T.iadd (a := 79) (b := (k : Int)) rfl ?_
    rw [show (79 : Int) + (k : Int) = ((79 + k : Nat) : Int) by omega]
    refine rT_ldN hs rfl ⟨by omega, by omega⟩ ?_
    rw [Int.toNat_natCast]
    refine mj_T.pl rfl rfl rfl rfl ?_
    refine mj_T.i2l rfl ⟨by omega, by omega⟩ ?_
    have hp := (K.1.1.2.2.1 k (by omega)).1
    refine mj_T.lif (a := N (79 + k)) (b := x) rfl rfl ⟨by omega, by omega⟩ ⟨by omega, by omega⟩ (fun hc3 => ?_) (fun hc3 => ?_)
    · simp only [jc, Bool.not_eq_true', decide_eq_false_iff_not] at hc3
      refine mj_T.pl rfl rfl rfl rfl ?_
      refine t101 0 (Or.inl rfl) (fun _ => ⟨i1, fun j hj => ?_⟩) (fun e => absurd e (by decide))
      by_cases q : j = k
      · rw [q]
        exact hc3
      · exact i2 j (by omega)
    · iterate 2 refine mj_T.pl rfl rfl rfl rfl ?_
      exact t101 1 (Or.inr rfl) (fun e => absurd e (by decide)) (fun _ => Or.inr ⟨k, by omega, by simp only [jc, Bool.not_eq_false', decide_eq_true_eq] at hc3; exact hc3⟩)
theorem rx_addPoint {x y : Int} (hx : jr x) (hy : jr y) (hI : jIx N0 u0 H tm er T h) : mj_Ok 40 246 [.ref 0, .int (jn x), .int (jn y)] h (adR N0 u0 H tm er T x y) := by
  refine mj_Ok.of (M := mj_m246) rfl rfl rfl ?_
  obtain ⟨S, N, B, X, V, hs, K⟩ := hI
  iterate 2 refine mj_T.pl rfl rfl rfl rfl ?_
  refine rT_put (v := 0) hs rfl rfl (by decide) rfl (fun g6 hs6 => ?_)
  have K6 := K.put (k := 3) (v := 0) ⟨by decide, by decide⟩ (by decide) (by decide) (by decide) (by decide) (by decide)
  generalize jvu S 3 0 = S6 at hs6 K6
  have t33 : ¬ ((-9 ≤ x ∧ x ≤ 9) ∧ (-999 ≤ y ∧ y ≤ 999)) → mj_T 39 mj_m246 33 [some (.ref 0), some (.int (jn x)), some (.int (jn y)), none, none] [] g6 (adR N0 u0 H tm er T x y) := by
    intro hno
    iterate 2 refine mj_T.pl rfl rfl rfl rfl ?_
    refine mj_T.call (ins := .invokevirtual 198) rfl rfl (Nat.le_of_ble_eq_true rfl) (Nat.le_of_ble_eq_true rfl) (by simp [mj_recv, rS_f hs6]) rfl (mj_Ok.up (by decide) (rp_fails (D := 0) (c := 1) hs6)) (fun v' g7 hq' => ?_) (fun i h' hq' => by obtain ⟨_, _, h⟩ := hq'; cases h)
    obtain ⟨_, hs7, hq'⟩ := hq'
    cases hq'
    exact mj_T.ret rfl rfl rfl (Or.inr ⟨fun q => hno q.1, 0, g7, ⟨by decide, by decide⟩, rfl, ⟨_, N, B, X, V, hs7, K6.put ⟨by decide, by decide⟩ (by decide) (by decide) (by decide) (by decide) (by decide)⟩⟩)
  refine mj_T.pl rfl rfl rfl rfl ?_
  refine mj_T.i2l rfl hx ?_
  iterate 2 refine mj_T.pl rfl rfl rfl rfl ?_
  refine mj_T.call (ins := .invokestatic 177) rfl rfl (Nat.le_of_ble_eq_true rfl) (Nat.le_of_ble_eq_true rfl) rfl rfl (mj_Ok.up (by decide) (rp_in (D := 0) (v := x) (lo := -9) (hi := 9) ⟨by have := hx.1; omega, by have := hx.2; omega⟩ ⟨by decide, by decide⟩ ⟨by decide, by decide⟩)) (fun v' h' hq' => ?_) (fun i h' hq' => by rcases hq' with ⟨_, _, h⟩ | ⟨_, h⟩ <;> cases h)
  rcases hq' with ⟨xa, xb, hq'⟩ | ⟨cn, hq'⟩
  case' inr =>
    cases hq'
    refine mj_T.if0 (a := 0) rfl ⟨by decide, by decide⟩ (fun hc => ?_) (fun hc => ?_)
    · exact t33 (by omega)
    · simp [jc] at hc
  cases hq'
  refine mj_T.if0 (a := 1) rfl ⟨by decide, by decide⟩ (fun hc => ?_) (fun hc => ?_)
  · simp [jc] at hc
  refine mj_T.pl rfl rfl rfl rfl ?_
  refine mj_T.i2l rfl hy ?_
  iterate 2 refine mj_T.pl rfl rfl rfl rfl ?_
  refine mj_T.call (ins := .invokestatic 177) rfl rfl (Nat.le_of_ble_eq_true rfl) (Nat.le_of_ble_eq_true rfl) rfl rfl (mj_Ok.up (by decide) (rp_in (D := 0) (v := y) (lo := -999) (hi := 999) ⟨by have := hy.1; omega, by have := hy.2; omega⟩ ⟨by decide, by decide⟩ ⟨by decide, by decide⟩)) (fun v' h' hq' => ?_) (fun i h' hq' => by rcases hq' with ⟨_, _, h⟩ | ⟨_, h⟩ <;> cases h)
  rcases hq' with ⟨ya, yb, hq'⟩ | ⟨cn, hq'⟩
  case' inr =>
    cases hq'
    refine mj_T.if0 (a := 0) rfl ⟨by decide, by decide⟩ (fun hc => ?_) (fun hc => ?_)
    · simp [jc] at hc
    · exact t33 (by omega)
  cases hq'
  refine mj_T.if0 (a := 1) rfl ⟨by decide, by decide⟩ (fun hc => ?_) (fun hc => ?_)
  rotate_left
  · simp [jc] at hc
  clear t33
  obtain ⟨n, hn⟩ := Int.eq_ofNat_of_zero_le K6.1.1.2.1.1
  have hn6 := K6.1.1.2.1.2
  refine mj_T.pl rfl rfl rfl rfl ?_
  refine rT_get hs6 rfl rfl ?_
  refine mj_T.pl rfl rfl rfl rfl ?_
  refine rT_ldN (i := ((78 : Nat) : Int)) hs6 rfl ⟨by decide, by decide⟩ ?_
  rw [Int.toNat_natCast]
  refine mj_T.pl rfl rfl rfl rfl ?_
  refine mj_T.lif (a := N 78) (b := 6) rfl rfl ⟨by omega, by omega⟩ ⟨by decide, by decide⟩ (fun hc => ?_) (fun hc => ?_)
  · simp only [jc, Bool.not_eq_true', decide_eq_false_iff_not] at hc
    iterate 4 refine mj_T.pl rfl rfl rfl rfl ?_
    exact rx_pt_loop ⟨xa, xb⟩ ⟨ya, yb⟩ hn (by omega) hs6 K6 n 0 0 (by omega) (Or.inl rfl) (fun _ => ⟨by omega, fun j hj => absurd hj (by omega)⟩) (fun e => absurd e (by decide))
  · iterate 5 refine mj_T.pl rfl rfl rfl rfl ?_
    exact rx_pt_loop ⟨xa, xb⟩ ⟨ya, yb⟩ hn (by omega) hs6 K6 n 0 1 (by omega) (Or.inr rfl) (fun e => absurd e (by decide)) (fun _ => Or.inl (by simp only [jc, Bool.not_eq_false', decide_eq_true_eq] at hc; omega))
end RPA
/-! The reference's product of polynomials, exactly. -/
def psm (V : Nat → Int) (a b i : Nat) : Nat → Nat → Int
  | 0, _ => 0
  | m + 1, e => psm V a b i m e + (if i + m = e then V (a * 13 + i) * V (b * 13 + m) else 0)
def prs (V : Nat → Int) (a b : Nat) : Nat → Nat → Int
  | 0, _ => 0
  | m + 1, e => prs V a b m e + psm V a b m (jdg V b 13) e
section JMX
variable {D : Nat} {hp h : mj_H} {q0 q1 q2 q3 : Nat} {fs : List Value} {V : Nat → Int} {a b to : Nat} {Gt : Nat → Int}
theorem jx_mp2 (G : jG hp q0 q1 q2 q3 fs) (hto : to ≤ 49) (ha : a ≤ 49) (hb : b ≤ 49) (hta : to ≠ a) (htb : to ≠ b) {al be : Nat} (hal : ∀ e, e < 13 → (V (a * 13 + e)).natAbs ≤ al) (hbe : ∀ e, e < 13 → (V (b * 13 + e)).natAbs ≤ be) (hdeg : jdg V a 13 = 0 ∨ jdg V b 13 = 0 ∨ jdg V a 13 + jdg V b 13 ≤ 14) (hfit : 169 * (al * be) < jB ^ 698) {i N : Nat} (hi : i < jdg V a 13) {Q : mj_R → Prop}
    (hend : ∀ (W : Nat → Int) (h : mj_H), jS hp q1 q2 q3 W h → (∀ s, (s < to * 13 ∨ to * 13 + 13 ≤ s) → s ≠ 652 → W s = V s) → (∀ e, e < 13 → (W (to * 13 + e)).natAbs ≤ N * (al * be)) → (∀ e, e < 13 → jdg V a 13 + jdg V b 13 ≤ e + 1 → W (to * 13 + e) = 0) → (∀ e, e < 13 → W (to * 13 + e) + prs V a b i e = Gt e) → mj_T (D + 4) mj_m202 80 [some (.ref q0), some (.int (jn (to : Nat))), some (.int (jn (a : Nat))), some (.int (jn (b : Nat))), some (.int (jn (i : Nat))), some (.int (jn (-1)))] [] h Q) (hN : N ≤ 169) :
    ∀ (m n : Nat) (W : Nat → Int) (h : mj_H), m ≤ jdg V b 13 → n + m = N → jS hp q1 q2 q3 W h → (∀ s, (s < to * 13 ∨ to * 13 + 13 ≤ s) → s ≠ 652 → W s = V s) → (∀ e, e < 13 → (W (to * 13 + e)).natAbs ≤ n * (al * be)) → (∀ e, e < 13 → jdg V a 13 + jdg V b 13 ≤ e + 1 → W (to * 13 + e) = 0) → (∀ e, e < 13 → W (to * 13 + e) + psm V a b i m e + prs V a b i e = Gt e) → mj_T (D + 4) mj_m202 24 [some (.ref q0), some (.int (jn (to : Nat))), some (.int (jn (a : Nat))), some (.int (jn (b : Nat))), some (.int (jn (i : Nat))), some (.int (jn ((m : Int) - 1)))] [] h Q := by
  have hal1 := jdg_le V a 13
  have hbl1 := jdg_le V b 13
  intro m
  induction m with
  | zero =>
    intro n W h hm hn hs hf h1 h2 h3
    have hn2 : n = N := by omega
    subst hn2
    refine mj_T.pl rfl rfl rfl rfl ?_
    refine mj_T.if0 (a := ((0 : Nat) : Int) - 1) rfl ⟨by decide, by decide⟩ (fun hc => ?_) (fun hc => ?_)
    · exact hend W h hs hf h1 h2 (fun e he => by
        have y := h3 e he
        rw [show psm V a b i 0 e = 0 from rfl] at y
        omega)
    · simp [jc] at hc
  | succ m ih =>
    intro n W h hm hn hs hf h1 h2 h3
    refine mj_T.pl rfl rfl rfl rfl ?_
    refine mj_T.if0 (a := ((m + 1 : Nat) : Int) - 1) rfl ⟨by omega, by omega⟩ (fun hc => ?_) (fun hc => ?_)
    · simp only [jc, Bool.not_eq_false', decide_eq_true_eq, decide_eq_false_iff_not] at hc
      omega
    rw [show ((m + 1 : Nat) : Int) - 1 = (m : Int) by omega]
    have va : W (a * 13 + i) = V (a * 13 + i) := hf _ (by omega) (by omega)
    have vb : W (b * 13 + m) = V (b * 13 + m) := hf _ (by omega) (by omega)
    have p1 : (V (a * 13 + i) * V (b * 13 + m)).natAbs ≤ al * be := by
      rw [Int.natAbs_mul]
      exact Nat.mul_le_mul (hal i (by omega)) (hbe m (by omega))
    have hcap : ∀ x, x ≤ 169 → x * (al * be) ≤ 169 * (al * be) := fun x hx => Nat.mul_le_mul_right _ hx
    have hcap1 := hcap 1 (by decide)
    rw [Nat.one_mul] at hcap1
    iterate 4 refine mj_T.pl rfl rfl rfl rfl ?_
    refine mj_T.call (ins := .invokestatic 104) rfl rfl (Nat.le_of_ble_eq_true rfl) (Nat.le_of_ble_eq_true rfl) rfl rfl (jq_slot (D := D + 3) (p := a) (i := i)) (fun v' h' hq' => ?_) (fun i h' hq' => by cases hq')
    cases hq'
    iterate 2 refine mj_T.pl rfl rfl rfl rfl ?_
    refine mj_T.call (ins := .invokestatic 104) rfl rfl (Nat.le_of_ble_eq_true rfl) (Nat.le_of_ble_eq_true rfl) rfl rfl (jq_slot (D := D + 3) (p := b) (i := m)) (fun v' h' hq' => ?_) (fun i h' hq' => by cases hq')
    cases hq'
    refine mj_T.call (ins := .invokevirtual 117) rfl rfl (Nat.le_of_ble_eq_true rfl) (Nat.le_of_ble_eq_true rfl) (by simp [mj_recv, jS_a G hs]) rfl (jS_mul (D := D + 2) (V := W) G (to := 652) (a := a * 13 + i) (b := b * 13 + m) (by decide) (by omega) (by omega) (jnl_of_lt (M := 169 * (al * be)) (by rw [va, vb]; omega) hfit) hs) (fun v' w1 hq' => ?_) (fun i h' hq' => by obtain ⟨_, _, h⟩ := hq'; cases h)
    obtain ⟨_, hs1, hq'⟩ := hq'
    cases hq'
    have c1 : jvu W 652 (W (a * 13 + i) * W (b * 13 + m)) 652 = W (a * 13 + i) * W (b * 13 + m) := jvu_at _ _ _
    have c2 : ∀ s, s ≠ 652 → jvu W 652 (W (a * 13 + i) * W (b * 13 + m)) s = W s := fun s hne => jvu_ne _ _ _ hne
    generalize jvu W 652 (W (a * 13 + i) * W (b * 13 + m)) = W1 at hs1 c1 c2
    have v1 : (W1 (to * 13 + (i + m)) + 1 * W1 652).natAbs ≤ (n + 1) * (al * be) := by
      rw [c1, c2 _ (by omega), va, vb]
      have k1 := h1 (i + m) (by omega)
      have k2 := Int.natAbs_add_le (W (to * 13 + (i + m))) (1 * (V (a * 13 + i) * V (b * 13 + m)))
      rw [Int.one_mul] at k2 ⊢
      rw [Nat.succ_mul]
      omega
    iterate 4 refine mj_T.pl rfl rfl rfl rfl ?_
    refine mj_T.iadd (a := (i : Int)) (b := (m : Int)) rfl ?_
    rw [show (i : Int) + (m : Int) = ((i + m : Nat) : Int) by omega]
    refine mj_T.call (ins := .invokestatic 104) rfl rfl (Nat.le_of_ble_eq_true rfl) (Nat.le_of_ble_eq_true rfl) rfl rfl (jq_slot (D := D + 3) (p := to) (i := i + m)) (fun v' h' hq' => ?_) (fun i h' hq' => by cases hq')
    cases hq'
    iterate 3 refine mj_T.pl rfl rfl rfl rfl ?_
    refine mj_T.iadd (a := (i : Int)) (b := (m : Int)) rfl ?_
    rw [show (i : Int) + (m : Int) = ((i + m : Nat) : Int) by omega]
    refine mj_T.call (ins := .invokestatic 104) rfl rfl (Nat.le_of_ble_eq_true rfl) (Nat.le_of_ble_eq_true rfl) rfl rfl (jq_slot (D := D + 3) (p := to) (i := i + m)) (fun v' h' hq' => ?_) (fun i h' hq' => by cases hq')
    cases hq'
    iterate 2 refine mj_T.pl rfl rfl rfl rfl ?_
    refine mj_T.call (ins := .invokevirtual 107) rfl rfl (Nat.le_of_ble_eq_true rfl) (Nat.le_of_ble_eq_true rfl) (by simp [mj_recv, jS_a G hs1]) rfl (jS_adds (D := D) (V := W1) G (to := to * 13 + (i + m)) (a := to * 13 + (i + m)) (b := 652) (f := 1) (by omega) (by omega) (by decide) (Or.inl rfl) (jnl_of_lt (M := 169 * (al * be)) (Nat.le_trans v1 (hcap _ (by omega))) hfit) hs1) (fun v' w2 hq' => ?_) (fun i h' hq' => by obtain ⟨_, _, h⟩ := hq'; cases h)
    obtain ⟨_, hs2, hq'⟩ := hq'
    cases hq'
    have d1 : jvu W1 (to * 13 + (i + m)) (W1 (to * 13 + (i + m)) + 1 * W1 652) (to * 13 + (i + m)) = W1 (to * 13 + (i + m)) + 1 * W1 652 := jvu_at _ _ _
    have d2 : ∀ s, s ≠ (to * 13 + (i + m)) → jvu W1 (to * 13 + (i + m)) (W1 (to * 13 + (i + m)) + 1 * W1 652) s = W1 s := fun s hne => jvu_ne _ _ _ hne
    generalize jvu W1 (to * 13 + (i + m)) (W1 (to * 13 + (i + m)) + 1 * W1 652) = W2 at hs2 d1 d2
    refine mj_T.iinc (a := (m : Int)) rfl rfl ?_
    refine mj_T.pl rfl rfl rfl rfl ?_
    refine ih (n + 1) W2 w2 (by omega) (by omega) hs2 (fun s x1 x2 => by rw [d2 s (by omega), c2 s x2, hf s x1 x2]) (fun e he => ?_) (fun e he hz => ?_) (fun e he => ?_)
    · by_cases hee : e = i + m
      · subst hee
        rw [d1]
        exact v1
      · rw [d2 _ (by omega), c2 _ (by omega)]
        refine Nat.le_trans (h1 e he) (Nat.mul_le_mul_right _ (by omega))
    · rw [d2 _ (by omega), c2 _ (by omega)]
      exact h2 e he hz
    · have y := h3 e he
      rw [show psm V a b i (m + 1) e = psm V a b i m e + (if i + m = e then V (a * 13 + i) * V (b * 13 + m) else 0) from rfl] at y
      by_cases hee : e = i + m
      · subst hee
        rw [if_pos rfl] at y
        rw [d1, c1, c2 _ (by omega), va, vb]
        omega
      · rw [if_neg (by omega)] at y
        rw [d2 _ (by omega), c2 _ (by omega)]
        omega
theorem jx_mp1 (G : jG hp q0 q1 q2 q3 fs) (hto : to ≤ 49) (ha : a ≤ 49) (hb : b ≤ 49) (hta : to ≠ a) (htb : to ≠ b) {al be : Nat} (hal : ∀ e, e < 13 → (V (a * 13 + e)).natAbs ≤ al) (hbe : ∀ e, e < 13 → (V (b * 13 + e)).natAbs ≤ be) (hdeg : jdg V a 13 = 0 ∨ jdg V b 13 = 0 ∨ jdg V a 13 + jdg V b 13 ≤ 14) (hfit : 169 * (al * be) < jB ^ 698) {Q : mj_R → Prop}
    (hend : ∀ (W : Nat → Int) (h : mj_H), jS hp q1 q2 q3 W h → (∀ s, (s < to * 13 ∨ to * 13 + 13 ≤ s) → s ≠ 652 → W s = V s) → (∀ e, e < 13 → (W (to * 13 + e)).natAbs ≤ 169 * (al * be)) → (∀ e, e < 13 → jdg V a 13 + jdg V b 13 ≤ e + 1 → W (to * 13 + e) = 0) → (∀ e, e < 13 → W (to * 13 + e) = Gt e) → Q (.inl none, h)) :
    ∀ (m n : Nat) (W : Nat → Int) (h : mj_H) (e5 : Option Value), m ≤ jdg V a 13 → n + 13 * m ≤ 169 → jS hp q1 q2 q3 W h → (∀ s, (s < to * 13 ∨ to * 13 + 13 ≤ s) → s ≠ 652 → W s = V s) → (∀ e, e < 13 → (W (to * 13 + e)).natAbs ≤ n * (al * be)) → (∀ e, e < 13 → jdg V a 13 + jdg V b 13 ≤ e + 1 → W (to * 13 + e) = 0) → (∀ e, e < 13 → W (to * 13 + e) + prs V a b m e = Gt e) → mj_T (D + 4) mj_m202 12 [some (.ref q0), some (.int (jn (to : Nat))), some (.int (jn (a : Nat))), some (.int (jn (b : Nat))), some (.int (jn ((m : Int) - 1))), e5] [] h Q := by
  have hal1 := jdg_le V a 13
  have hbl1 := jdg_le V b 13
  intro m
  induction m with
  | zero =>
    intro n W h e5 hm hn hs hf h1 h2 h3
    refine mj_T.pl rfl rfl rfl rfl ?_
    refine mj_T.if0 (a := ((0 : Nat) : Int) - 1) rfl ⟨by decide, by decide⟩ (fun hc => ?_) (fun hc => ?_)
    · exact mj_T.ret rfl rfl rfl (hend W h hs hf (fun e he => Nat.le_trans (h1 e he) (Nat.mul_le_mul_right _ (by omega))) h2 (fun e he => by
        have y := h3 e he
        rw [show prs V a b 0 e = 0 from rfl] at y
        omega))
    · simp [jc] at hc
  | succ m ih =>
    intro n W h e5 hm hn hs hf h1 h2 h3
    refine mj_T.pl rfl rfl rfl rfl ?_
    refine mj_T.if0 (a := ((m + 1 : Nat) : Int) - 1) rfl ⟨by omega, by omega⟩ (fun hc => ?_) (fun hc => ?_)
    · simp only [jc, Bool.not_eq_false', decide_eq_true_eq, decide_eq_false_iff_not] at hc
      omega
    rw [show ((m + 1 : Nat) : Int) - 1 = (m : Int) by omega]
    have hjb : jdg W b 13 = jdg V b 13 := jdg_congr 13 fun e he => hf _ (by omega) (by omega)
    iterate 2 refine mj_T.pl rfl rfl rfl rfl ?_
    refine mj_T.call (ins := .invokevirtual 114) rfl rfl (Nat.le_of_ble_eq_true rfl) (Nat.le_of_ble_eq_true rfl) (by simp [mj_recv, jS_a G hs]) rfl (jp_degreeOf (D := D + 2) G (p := b) (by omega) hs) (fun v' h' hq' => ?_) (fun i h' hq' => by cases hq')
    cases hq'
    rw [hjb]
    refine mj_T.pl rfl rfl rfl rfl ?_
    refine jx_mp2 (D := D) (V := V) (Gt := Gt) (i := m) (N := n + jdg V b 13) G hto ha hb hta htb hal hbe hdeg hfit (by omega) (fun W1 h1 hs1 g1 g2 g3 g4 => ?_) (by omega) (jdg V b 13) n W h (Nat.le_refl _) rfl hs hf h1 h2 (fun e he => by
      have y := h3 e he
      rw [show prs V a b (m + 1) e = prs V a b m e + psm V a b m (jdg V b 13) e from rfl] at y
      omega)
    refine mj_T.iinc (a := (m : Int)) rfl rfl ?_
    refine mj_T.pl rfl rfl rfl rfl ?_
    exact ih (n + jdg V b 13) W1 h1 _ (by omega) (by omega) hs1 g1 g2 g3 g4
theorem jx_multipliesPoly (G : jG hp q0 q1 q2 q3 fs) (hto : to ≤ 49) (ha : a ≤ 49) (hb : b ≤ 49) (hta : to ≠ a) (htb : to ≠ b) {al be : Nat} (hal : ∀ e, e < 13 → (V (a * 13 + e)).natAbs ≤ al) (hbe : ∀ e, e < 13 → (V (b * 13 + e)).natAbs ≤ be) (hdeg : jdg V a 13 = 0 ∨ jdg V b 13 = 0 ∨ jdg V a 13 + jdg V b 13 ≤ 14) (hfit : 169 * (al * be) < jB ^ 698) (hs : jS hp q1 q2 q3 V h) :
    mj_Ok (D + 5) 202 [.ref q0, .int (jn (to : Nat)), .int (jn (a : Nat)), .int (jn (b : Nat))] h (fun r => ∃ (W : Nat → Int) (h' : mj_H), jS hp q1 q2 q3 W h' ∧ (∀ s, (s < to * 13 ∨ to * 13 + 13 ≤ s) → s ≠ 652 → W s = V s) ∧ (∀ e, e < 13 → (W (to * 13 + e)).natAbs ≤ 169 * (al * be)) ∧ jdg W to 13 ≤ jdg V a 13 + jdg V b 13 - 1 ∧ (∀ e, e < 13 → W (to * 13 + e) = prs V a b (jdg V a 13) e) ∧ r = (.inl none, h')) := by
  have hal1 := jdg_le V a 13
  refine mj_Ok.of (M := mj_m202) rfl rfl rfl ?_
  iterate 2 refine mj_T.pl rfl rfl rfl rfl ?_
  refine mj_T.call (ins := .invokevirtual 110) rfl rfl (Nat.le_of_ble_eq_true rfl) (Nat.le_of_ble_eq_true rfl) (by simp [mj_recv, jS_a G hs]) rfl (jp_empties (D := D + 2) G (p := to) (by omega) hs) (fun v' h1 hq' => ?_) (fun i h' hq' => by obtain ⟨_, _, h⟩ := hq'; cases h)
  obtain ⟨_, hs1, hq'⟩ := hq'
  cases hq'
  have a1 : ∀ e, e < 13 → jfl V to (fun _ => 0) 13 (to * 13 + e) = 0 := fun e he => jfl_at _ to _ he
  have a2 : ∀ s, (s < to * 13 ∨ to * 13 + 13 ≤ s) → jfl V to (fun _ => 0) 13 s = V s := fun s hc => jfl_off _ to _ hc
  generalize jfl V to (fun _ => 0) 13 = W1 at hs1 a1 a2
  have hja : jdg W1 a 13 = jdg V a 13 := jdg_congr 13 fun e he => a2 _ (by omega)
  iterate 2 refine mj_T.pl rfl rfl rfl rfl ?_
  refine mj_T.call (ins := .invokevirtual 114) rfl rfl (Nat.le_of_ble_eq_true rfl) (Nat.le_of_ble_eq_true rfl) (by simp [mj_recv, jS_a G hs1]) rfl (jp_degreeOf (D := D + 2) G (p := a) (by omega) hs1) (fun v' h' hq' => ?_) (fun i h' hq' => by cases hq')
  cases hq'
  rw [hja]
  refine mj_T.pl rfl rfl rfl rfl ?_
  refine jx_mp1 (D := D) (V := V) G hto ha hb hta htb hal hbe hdeg hfit (Gt := prs V a b (jdg V a 13)) (fun W h k1 k2 k3 k4 k5 => ⟨W, h, k1, k2, k3, jdg_of_zero fun e e1 e2 => k4 e e2 (by omega), k5, rfl⟩) (jdg V a 13) 0 W1 h1 _ (Nat.le_refl _) (by omega) hs1 (fun s x1 x2 => a2 s x1) (fun e he => by rw [a1 e he]; exact Nat.zero_le _) (fun e he _ => a1 e he) (fun e he => by rw [a1 e he, Int.zero_add])
end JMX
theorem psm_eq (V : Nat → Int) (a b i e : Nat) : ∀ m, psm V a b i m e = if i ≤ e ∧ e - i < m then V (a * 13 + i) * V (b * 13 + (e - i)) else 0
  | 0 => by
    rw [if_neg (by omega)]
    rfl
  | m + 1 => by
    show psm V a b i m e + (if i + m = e then V (a * 13 + i) * V (b * 13 + m) else 0) = _
    rw [psm_eq V a b i e m]
    by_cases c : i + m = e
    · rw [if_pos c, if_neg (by omega), if_pos (by omega), show e - i = m by omega, Int.zero_add]
    · rw [if_neg c, Int.add_zero]
      by_cases d : i ≤ e ∧ e - i < m
      · rw [if_pos d, if_pos (by omega)]
      · rw [if_neg d, if_neg (by omega)]
theorem jpo_zb {V : Nat → Int} {p i : Nat} (h : jdg V p 13 ≤ i) : jpo V p i = 0 := by
  unfold jpo
  split
  · exact jdg_zero V p 13 i h (by omega)
  · rfl
theorem prs_zs (V : Nat → Int) (a b e : Nat) : ∀ m, m ≤ 13 → prs V a b m e = zs m (fun u => if u ≤ e then jpo V a u * jpo V b (e - u) else 0)
  | 0, _ => rfl
  | m + 1, hm => by
    show prs V a b m e + psm V a b m (jdg V b 13) e = zs m (fun u => if u ≤ e then jpo V a u * jpo V b (e - u) else 0) + (if m ≤ e then jpo V a m * jpo V b (e - m) else 0)
    rw [prs_zs V a b e m (by omega), psm_eq]
    congr 1
    have hd := jdg_le V b 13
    by_cases c : m ≤ e
    · rw [if_pos c]
      by_cases d : e - m < jdg V b 13
      · rw [if_pos ⟨c, d⟩, jpo_at (by omega), jpo_at (by omega)]
      · rw [if_neg (fun q => d q.2), jpo_zb (V := V) (p := b) (i := e - m) (by omega), Int.mul_zero]
    · rw [if_neg c, if_neg (fun q => c q.1)]
theorem prs_mul (V : Nat → Int) (a b e : Nat) : prs V a b (jdg V a 13) e = pz_mul (jpo V a) (jpo V b) e := by
  rw [prs_zs V a b e _ (jdg_le V a 13), ← tw_end (A := jpo V a) (B := jpo V b) (da := jdg V a 13) (fun i hi => jpo_zb hi)]
  show _ = zs _ _ + (if jdg V a 13 ≤ e ∧ e - jdg V a 13 < 0 then _ else 0)
  rw [if_neg (by omega), Int.add_zero]
/-! The reference, exactly: multiply. -/
/-- the polynomial P is laid into a register if it fits -/
def RP (tm er : Int) (T : Nat → Int) (N0 : Nat → Int) (u0 : Nat) (H : Nat → Nat → Int) (reg : Prop) (P : pz_P) (to : Int) (z : mj_R) : Prop := (reg ∧ ((fit13 P ∧ ∃ w : Nat → Int, (∀ j, j < 13 → w j = P j) ∧ rIx (jfl N0 to.toNat w 13) (upu u0) (pushH N0 H) tm er T z) ∨ (¬ fit13 P ∧ rIx N0 u0 H tm er T z))) ∨ (¬ reg ∧ rIx N0 u0 H tm er T z)
theorem jpo_ltd (V : Nat → Int) (p : Nat) : pz_lt (jpo V p) (jdg V p 13) := fun i hi => jpo_zb hi
theorem jpo_big {V : Nat → Int} {a b : Nat} (h1 : 1 ≤ jdg V a 13) (h2 : 1 ≤ jdg V b 13) (h3 : 14 < jdg V a 13 + jdg V b 13) : ¬ fit13 (pz_mul (jpo V a) (jpo V b)) := fun q => by
  obtain ⟨n, hn⟩ : ∃ n, jdg V a 13 = n + 1 := ⟨jdg V a 13 - 1, by omega⟩
  obtain ⟨d, hd⟩ : ∃ d, jdg V b 13 = d + 1 := ⟨jdg V b 13 - 1, by omega⟩
  have ha := jdg_le V a 13
  have hb := jdg_le V b 13
  have e : pz_mul (jpo V a) (jpo V b) (n + d) = jpo V a n * jpo V b d := pz_c_lead n (jpo V a) (jpo V b) d (by rw [← hn]; exact jpo_ltd V a) (by rw [← hd]; exact jpo_ltd V b)
  have k1 := jdg_ne V a 13 h1
  have k2 := jdg_ne V b 13 h2
  rw [hn, Nat.add_sub_cancel] at k1
  rw [hd, Nat.add_sub_cancel] at k2
  rw [q.2 _ (by omega), jpo_at (by omega), jpo_at (by omega)] at e
  exact (Int.mul_ne_zero k1 k2) e.symm
section RPM
variable {h : mj_H} {tm er : Int} {T : Nat → Int} {N0 : Nat → Int} {u0 : Nat} {H : Nat → Nat → Int}
theorem rx_multiply {x y z : Int} (hx : jr x) (hy : jr y) (hz : jr z) (hI : jIx N0 u0 H tm er T h) : mj_Ok 40 233 [.ref 0, .int (jn x), .int (jn y), .int (jn z)] h (RP tm er T N0 u0 H ((0 ≤ x ∧ x ≤ 5) ∧ (0 ≤ y ∧ y ≤ 5) ∧ (0 ≤ z ∧ z ≤ 5)) (pz_mul (rwN N0 y) (rwN N0 z)) x) := by
  refine mj_Ok.of (M := mj_m233) rfl rfl rfl ?_
  obtain ⟨S, N, B, X, V, hs, K⟩ := hI
  iterate 2 refine mj_T.pl rfl rfl rfl rfl ?_
  refine rT_put (v := 0) hs rfl rfl (by decide) rfl (fun g1 hs1 => ?_)
  have K1 := K.put (k := 3) (v := 0) ⟨by decide, by decide⟩ (by decide) (by decide) (by decide) (by decide) (by decide)
  generalize jvu S 3 0 = S1 at hs1 K1
  iterate 3 refine mj_T.pl rfl rfl rfl rfl ?_
  refine mj_T.call (ins := .invokestatic 210) rfl rfl (Nat.le_of_ble_eq_true rfl) (Nat.le_of_ble_eq_true rfl) rfl rfl (mj_Ok.up (by decide) (rx_areRegisters (D := 0) hx hy hz)) (fun v' h' hq' => ?_) (fun i h' hq' => by rcases hq' with ⟨_, _, h⟩ | ⟨_, h⟩ <;> cases h)
  rcases hq' with ⟨⟨x1, x2⟩, ⟨y3, y4, z5, z6⟩, hq'⟩ | ⟨hno, hq'⟩
  case' inr =>
    cases hq'
    refine mj_T.if0 (a := 0) rfl ⟨by decide, by decide⟩ (fun hc => ?_) (fun hc => ?_)
    · simp [jc] at hc
    iterate 2 refine mj_T.pl rfl rfl rfl rfl ?_
    refine mj_T.call (ins := .invokevirtual 198) rfl rfl (Nat.le_of_ble_eq_true rfl) (Nat.le_of_ble_eq_true rfl) (by simp [mj_recv, rS_f hs1]) rfl (mj_Ok.up (by decide) (rp_fails (D := 0) (c := 1) hs1)) (fun v' g2 hq' => ?_) (fun i h' hq' => by obtain ⟨_, _, h⟩ := hq'; cases h)
    obtain ⟨_, hs2, hq'⟩ := hq'
    cases hq'
    exact mj_T.ret rfl rfl rfl (Or.inr ⟨hno, 0, g2, ⟨by decide, by decide⟩, rfl, ⟨_, N, B, X, V, hs2, K1.put ⟨by decide, by decide⟩ (by decide) (by decide) (by decide) (by decide) (by decide)⟩⟩)
  cases hq'
  refine mj_T.if0 (a := 1) rfl ⟨by decide, by decide⟩ (fun hc => ?_) (fun hc => ?_)
  rotate_left
  · simp [jc] at hc
  obtain ⟨x, rfl⟩ := Int.eq_ofNat_of_zero_le x1
  obtain ⟨y, rfl⟩ := Int.eq_ofNat_of_zero_le y3
  obtain ⟨z, rfl⟩ := Int.eq_ofNat_of_zero_le z5
  iterate 3 refine mj_T.pl rfl rfl rfl rfl ?_
  refine mj_T.call (ins := .invokevirtual 213) rfl rfl (Nat.le_of_ble_eq_true rfl) (Nat.le_of_ble_eq_true rfl) (by simp [mj_recv, rS_f hs1]) rfl (mj_Ok.up (by decide) (rp_loads (D := 0) (p := 0) (r := y) (by decide) (by omega) K1.nR hs1)) (fun v' g3 hq' => ?_) (fun i h' hq' => by obtain ⟨_, _, h⟩ := hq'; cases h)
  obtain ⟨_, hs3, hq'⟩ := hq'
  cases hq'
  have a3 : ∀ e, e < 13 → jfl V 0 (fun e => N (y * 13 + e)) 13 (0 * 13 + e) = N (y * 13 + e) := fun e he => jfl_at _ _ _ he
  have b3 : ∀ s, (s < 0 * 13 ∨ 0 * 13 + 13 ≤ s) → jfl V 0 (fun e => N (y * 13 + e)) 13 s = V s := fun s hc => jfl_off _ _ _ hc
  generalize jfl V 0 (fun e => N (y * 13 + e)) 13 = W3 at hs3 a3 b3
  iterate 3 refine mj_T.pl rfl rfl rfl rfl ?_
  refine mj_T.call (ins := .invokevirtual 213) rfl rfl (Nat.le_of_ble_eq_true rfl) (Nat.le_of_ble_eq_true rfl) (by simp [mj_recv, rS_f hs3]) rfl (mj_Ok.up (by decide) (rp_loads (D := 0) (p := 1) (r := z) (by decide) (by omega) K1.nR hs3)) (fun v' g4 hq' => ?_) (fun i h' hq' => by obtain ⟨_, _, h⟩ := hq'; cases h)
  obtain ⟨_, hs4, hq'⟩ := hq'
  cases hq'
  have a4 : ∀ e, e < 13 → jfl W3 1 (fun e => N (z * 13 + e)) 13 (1 * 13 + e) = N (z * 13 + e) := fun e he => jfl_at _ _ _ he
  have b4 : ∀ s, (s < 1 * 13 ∨ 1 * 13 + 13 ≤ s) → jfl W3 1 (fun e => N (z * 13 + e)) 13 s = W3 s := fun s hc => jfl_off _ _ _ hc
  generalize jfl W3 1 (fun e => N (z * 13 + e)) 13 = W4 at hs4 a4 b4
  have eA : jpo W4 0 = rwN N0 (y : Int) := funext fun e => by
    unfold jpo
    by_cases q : e < 13
    · rw [if_pos q, b4 _ (by omega), a3 e q]
      exact rwN_at K1.2.1 (by omega) q
    · rw [if_neg q]
      show 0 = if e < 13 then _ else 0
      rw [if_neg q]
  have eB : jpo W4 1 = rwN N0 (z : Int) := funext fun e => by
    unfold jpo
    by_cases q : e < 13
    · rw [if_pos q, a4 e q]
      exact rwN_at K1.2.1 (by omega) q
    · rw [if_neg q]
      show 0 = if e < 13 then _ else 0
      rw [if_neg q]
  have c1 : ∀ e, e < 13 → (W4 (0 * 13 + e)).natAbs ≤ 10 ^ 18 := fun e he => by
    rw [b4 _ (by omega), a3 e he]
    exact K1.sh (r := y) (by omega) he
  have c2 : ∀ e, e < 13 → (W4 (1 * 13 + e)).natAbs ≤ 10 ^ 18 := fun e he => by
    rw [a4 e he]
    exact K1.sh (r := z) (by omega) he
  iterate 3 refine mj_T.pl rfl rfl rfl rfl ?_
  refine mj_T.call (ins := .invokevirtual 223) rfl rfl (Nat.le_of_ble_eq_true rfl) (Nat.le_of_ble_eq_true rfl) (by simp [mj_recv, rS_f hs4]) rfl (mj_Ok.up (by decide) (jp_isTooHigh (D := 0) (rG S1 N B T X) (a := 0) (b := 1) (by decide) (by decide) hs4)) (fun v' h' hq' => ?_) (fun i h' hq' => by rcases hq' with ⟨_, _, _, h⟩ | ⟨_, h⟩ <;> cases h)
  rcases hq' with ⟨t1, t2, t3, hq'⟩ | ⟨hdeg, hq'⟩
  case' inl =>
    cases hq'
    refine mj_T.if0 (a := 1) rfl ⟨by decide, by decide⟩ (fun hc => ?_) (fun hc => ?_)
    · simp [jc] at hc
    iterate 2 refine mj_T.pl rfl rfl rfl rfl ?_
    refine mj_T.call (ins := .invokevirtual 198) rfl rfl (Nat.le_of_ble_eq_true rfl) (Nat.le_of_ble_eq_true rfl) (by simp [mj_recv, rS_f hs4]) rfl (mj_Ok.up (by decide) (rp_fails (D := 0) (c := 2) hs4)) (fun v' g5 hq' => ?_) (fun i h' hq' => by obtain ⟨_, _, h⟩ := hq'; cases h)
    obtain ⟨_, hs5, hq'⟩ := hq'
    cases hq'
    have hbad := jpo_big t1 t2 t3
    rw [eA, eB] at hbad
    exact mj_T.ret rfl rfl rfl (Or.inl ⟨⟨⟨by omega, by omega⟩, ⟨by omega, by omega⟩, ⟨by omega, by omega⟩⟩, Or.inr ⟨hbad, 0, g5, ⟨by decide, by decide⟩, rfl, ⟨_, N, B, X, W4, hs5, K1.put ⟨by decide, by decide⟩ (by decide) (by decide) (by decide) (by decide) (by decide)⟩⟩⟩)
  cases hq'
  refine mj_T.if0 (a := 0) rfl ⟨by decide, by decide⟩ (fun hc => ?_) (fun hc => ?_)
  rotate_left
  · simp [jc] at hc
  iterate 4 refine mj_T.pl rfl rfl rfl rfl ?_
  refine mj_T.call (ins := .invokevirtual 121) rfl rfl (Nat.le_of_ble_eq_true rfl) (Nat.le_of_ble_eq_true rfl) (by simp [mj_recv, rS_f hs4]) rfl (mj_Ok.up (by decide) (jx_multipliesPoly (D := 0) (rG S1 N B T X) (to := 2) (a := 0) (b := 1) (by decide) (by decide) (by decide) (by decide) (by decide) c1 c2 hdeg rp_small2 hs4)) (fun v' g6 hq' => ?_) (fun i h' hq' => by obtain ⟨_, _, _, _, _, _, _, h⟩ := hq'; cases h)
  obtain ⟨W6, _, hs6, _, _, _, hW, hq'⟩ := hq'
  cases hq'
  iterate 4 refine mj_T.pl rfl rfl rfl rfl ?_
  refine mj_T.call (ins := .invokevirtual 219) rfl rfl (Nat.le_of_ble_eq_true rfl) (Nat.le_of_ble_eq_true rfl) (by simp [mj_recv, rS_f hs6]) rfl (mj_Ok.up (by decide) (rx_puts (D := 0) (r := x) (p := 2) (c := 2) (by omega) (by decide) ⟨by decide, by decide⟩ K1 hs6)) (fun v' h' hq' => ?_) (fun i h' hq' => by rcases hq' with ⟨_, _, _, _, h, _⟩ | ⟨_, _, _, _, h, _⟩ <;> cases h)
  have hres : ∀ j, j < 13 → (fun e => W6 (2 * 13 + e)) j = pz_mul (rwN N0 (y : Int)) (rwN N0 (z : Int)) j := fun j hj => by
    rw [← eA, ← eB]
    exact (hW j hj).trans (prs_mul W4 0 1 j)
  have hz : ∀ i, 13 ≤ i → pz_mul (rwN N0 (y : Int)) (rwN N0 (z : Int)) i = 0 := fun i hi => by
    rw [← eA, ← eB]
    have ha := jdg_le W4 0 13
    have hb := jdg_le W4 1 13
    exact pz_lt.mul (c := 13) (jpo_ltd W4 0) (jpo_ltd W4 1) (by omega) i hi
  rcases hq' with ⟨hs9, z9, h9, hz9, e9, hI9⟩ | ⟨hs9, z9, h9, hz9, e9, hI9⟩
  · cases e9
    exact mj_T.ret rfl rfl rfl (Or.inl ⟨⟨⟨by omega, by omega⟩, ⟨by omega, by omega⟩, ⟨by omega, by omega⟩⟩, Or.inl ⟨⟨sml_cg hres hs9, hz⟩, _, hres, z9, _, hz9, rfl, hI9⟩⟩)
  · cases e9
    exact mj_T.ret rfl rfl rfl (Or.inl ⟨⟨⟨by omega, by omega⟩, ⟨by omega, by omega⟩, ⟨by omega, by omega⟩⟩, Or.inr ⟨fun q => hs9 (sml_cg (fun j hj => (hres j hj).symm) q.1), z9, _, hz9, rfl, hI9⟩⟩)
end RPM
/-! The reference's power of a polynomial, exactly. -/
section JRX
variable {D : Nat} {hp h : mj_H} {q0 q1 q2 q3 : Nat} {fs : List Value} {V : Nat → Int} {a p : Nat}
theorem pw_z {A : pz_P} {d j : Nat} (hA : ∀ i, d < i → A i = 0) (hj : d * j ≤ 12) : ∀ i, 13 ≤ i → pw A j i = 0 := fun i hi => (pw_lead hA j).1 i (by rw [Nat.mul_comm]; omega)
theorem jx_ra (G : jG hp q0 q1 q2 q3 fs) (hpp : p ≤ 49) (hp7 : p ≠ 7) (ha : a ≤ 49) (ha7 : a ≠ 7) (hpa : p ≠ a) {al : Nat} (hal1 : 1 ≤ al) (hal : ∀ e, e < 13 → (V (a * 13 + e)).natAbs ≤ al) {n : Nat} (hn : n ≤ 12) (hfit : (169 * al) ^ 12 < jB ^ 698) (hdeg : (jdg V a 13 - 1) * n ≤ 12) {Q : mj_R → Prop}
    (hend : ∀ (W : Nat → Int) (h : mj_H), jS hp q1 q2 q3 W h → (∀ s, (s < p * 13 ∨ p * 13 + 13 ≤ s) → (s < 91 ∨ 104 ≤ s) → s ≠ 652 → W s = V s) → (∀ e, e < 13 → (W (p * 13 + e)).natAbs ≤ (169 * al) ^ 12) → (∀ e, e < 13 → W (p * 13 + e) = pw (jpo V a) n e) → Q (.inl (some (.int (jn 1))), h)) :
    ∀ (m j : Nat) (W : Nat → Int) (h : mj_H), j + m = n → jS hp q1 q2 q3 W h → (∀ s, (s < p * 13 ∨ p * 13 + 13 ≤ s) → (s < 91 ∨ 104 ≤ s) → s ≠ 652 → W s = V s) → (∀ e, e < 13 → (W (p * 13 + e)).natAbs ≤ (169 * al) ^ j) → jdg W p 13 ≤ (jdg V a 13 - 1) * j + 1 → (∀ e, e < 13 → W (p * 13 + e) = pw (jpo V a) j e) → mj_T (D + 5) mj_m204 40 [some (.ref q0), some (.int (jn (p : Nat))), some (.int (jn (a : Nat))), some (.int (jn (n : Nat))), some (.int (jn (j : Nat)))] [] h Q := by
  have hal2 := jdg_le V a 13
  have mono : ∀ j, j ≤ 12 → (169 * al) ^ j ≤ (169 * al) ^ 12 := fun j hj => Nat.pow_le_pow_right (by omega) hj
  intro m
  induction m with
  | zero =>
    intro j W h hj hs hf h1 h2 h3
    iterate 2 refine mj_T.pl rfl rfl rfl rfl ?_
    refine mj_T.icmp (a := (j : Int)) (b := (n : Int)) rfl ⟨by omega, by omega⟩ ⟨by omega, by omega⟩ (fun hc => ?_) (fun hc => ?_)
    · refine mj_T.pl rfl rfl rfl rfl ?_
      exact mj_T.ret rfl rfl rfl (hend W h hs hf (fun e he => Nat.le_trans (h1 e he) (mono j (by omega))) (fun e he => by rw [h3 e he, show j = n by omega]))
    · simp only [jc, Bool.not_eq_false', decide_eq_true_eq, decide_eq_false_iff_not] at hc
      omega
  | succ m ih =>
    intro j W h hj hs hf h1 h2 h3
    iterate 2 refine mj_T.pl rfl rfl rfl rfl ?_
    refine mj_T.icmp (a := (j : Int)) (b := (n : Int)) rfl ⟨by omega, by omega⟩ ⟨by omega, by omega⟩ (fun hc => ?_) (fun hc => ?_)
    · simp only [jc, Bool.not_eq_false', decide_eq_true_eq, decide_eq_false_iff_not] at hc
      omega
    have hja : jdg W a 13 = jdg V a 13 := jdg_congr 13 fun e he => hf _ (by omega) (by omega) (by omega)
    have hd1 : (jdg V a 13 - 1) * (j + 1) ≤ 12 := Nat.le_trans (Nat.mul_le_mul_left _ (by omega)) hdeg
    have hd2 : (jdg V a 13 - 1) * (j + 1) = (jdg V a 13 - 1) * j + (jdg V a 13 - 1) := Nat.mul_succ _ _
    have hsz : 169 * ((169 * al) ^ j * al) = (169 * al) ^ (j + 1) := by
      rw [Nat.pow_succ, ← Nat.mul_assoc, Nat.mul_comm 169, Nat.mul_assoc]
    iterate 4 refine mj_T.pl rfl rfl rfl rfl ?_
    refine mj_T.call (ins := .invokevirtual 121) rfl rfl (Nat.le_of_ble_eq_true rfl) (Nat.le_of_ble_eq_true rfl) (by simp [mj_recv, jS_a G hs]) rfl (jx_multipliesPoly (D := D) (V := W) G (to := 7) (a := p) (b := a) (by decide) (by omega) (by omega) (by omega) (by omega) (al := (169 * al) ^ j) (be := al) h1 (fun e he => by rw [hf _ (by omega) (by omega) (by omega)]; exact hal e he) (by rw [hja]; omega) (by rw [hsz]; exact Nat.lt_of_le_of_lt (mono _ (by omega)) hfit) hs) (fun v' w2 hq' => ?_) (fun i h' hq' => by obtain ⟨_, _, _, _, _, _, _, h⟩ := hq'; cases h)
    obtain ⟨W1, _, hs1, b1, b2, b3, b4, hq'⟩ := hq'
    cases hq'
    iterate 3 refine mj_T.pl rfl rfl rfl rfl ?_
    refine mj_T.call (ins := .invokevirtual 124) rfl rfl (Nat.le_of_ble_eq_true rfl) (Nat.le_of_ble_eq_true rfl) (by simp [mj_recv, jS_a G hs1]) rfl (jp_copiesPoly (D := D + 2) G (p := p) (q := 7) (by omega) (by decide) (by omega) hs1) (fun v' w3 hq' => ?_) (fun i h' hq' => by obtain ⟨_, _, h⟩ := hq'; cases h)
    obtain ⟨_, hs2, hq'⟩ := hq'
    cases hq'
    have c1 : ∀ e, e < 13 → jfl W1 p (fun e => W1 (7 * 13 + e)) 13 (p * 13 + e) = W1 (7 * 13 + e) := fun e he => jfl_at _ p _ he
    have c2 : ∀ s, (s < p * 13 ∨ p * 13 + 13 ≤ s) → jfl W1 p (fun e => W1 (7 * 13 + e)) 13 s = W1 s := fun s hc => jfl_off _ p _ hc
    generalize jfl W1 p (fun e => W1 (7 * 13 + e)) 13 = W2 at hs2 c1 c2
    refine mj_T.iinc (a := (j : Int)) rfl rfl ?_
    refine mj_T.pl rfl rfl rfl rfl ?_
    refine ih (j + 1) W2 w3 (by omega) hs2 (fun s x1 x2 x3 => by rw [c2 s x1, b1 s (by omega) x3, hf s x1 x2 x3]) (fun e he => ?_) ?_ (fun e he => ?_)
    · rw [c1 e he, ← hsz]
      exact b2 e he
    · have : jdg W2 p 13 = jdg W1 7 13 := jdg_congr 13 c1
      omega
    · have jA : jpo W a = jpo V a := jpo_eq (fun e he => hf _ (by omega) (by omega) (by omega))
      have jz : ∀ i, 13 ≤ i → pw (jpo V a) j i = 0 := pw_z (d := jdg V a 13 - 1) (fun i hi => jpo_zb (by omega)) (by omega)
      have jP : jpo W p = pw (jpo V a) j := funext fun i => by
        unfold jpo
        by_cases q : i < 13
        · rw [if_pos q]
          exact h3 i q
        · rw [if_neg q]
          exact (jz i (by omega)).symm
      rw [c1 e he, b4 e he, prs_mul, jA, jP]
      rfl
theorem jx_raises (G : jG hp q0 q1 q2 q3 fs) (hpp : p ≤ 49) (hp7 : p ≠ 7) (ha : a ≤ 49) (ha7 : a ≠ 7) (hpa : p ≠ a) {al : Nat} (hal1 : 1 ≤ al) (hal : ∀ e, e < 13 → (V (a * 13 + e)).natAbs ≤ al) {n : Nat} (hn : n ≤ 12) (hfit : (169 * al) ^ 12 < jB ^ 698) (hs : jS hp q1 q2 q3 V h) :
    mj_Ok (D + 6) 204 [.ref q0, .int (jn (p : Nat)), .int (jn (a : Nat)), .int (jn (n : Nat))] h (fun r => ∃ (W : Nat → Int) (h' : mj_H), jS hp q1 q2 q3 W h' ∧ (∀ s, (s < p * 13 ∨ p * 13 + 13 ≤ s) → (s < 91 ∨ 104 ≤ s) → s ≠ 652 → W s = V s) ∧ (r = (.inl (some (.int (jn 0))), h') ∧ (W = V ∧ 12 < (jdg V a 13 - 1) * n) ∨ r = (.inl (some (.int (jn 1))), h') ∧ (jdg V a 13 - 1) * n ≤ 12 ∧ ∀ e, e < 13 → W (p * 13 + e) = pw (jpo V a) n e)) := by
  have hal2 := jdg_le V a 13
  refine mj_Ok.of (M := mj_m204) rfl rfl rfl ?_
  iterate 2 refine mj_T.pl rfl rfl rfl rfl ?_
  refine mj_T.call (ins := .invokevirtual 114) rfl rfl (Nat.le_of_ble_eq_true rfl) (Nat.le_of_ble_eq_true rfl) (by simp [mj_recv, jS_a G hs]) rfl (jp_degreeOf (D := D + 3) G (p := a) (by omega) hs) (fun v' h' hq' => ?_) (fun i h' hq' => by cases hq')
  cases hq'
  have t22 : (jdg V a 13 - 1) * n ≤ 12 → mj_T (D + 5) mj_m204 22 [some (.ref q0), some (.int (jn (p : Nat))), some (.int (jn (a : Nat))), some (.int (jn (n : Nat))), none] [] h (fun r => ∃ (W : Nat → Int) (h' : mj_H), jS hp q1 q2 q3 W h' ∧ (∀ s, (s < p * 13 ∨ p * 13 + 13 ≤ s) → (s < 91 ∨ 104 ≤ s) → s ≠ 652 → W s = V s) ∧ (r = (.inl (some (.int (jn 0))), h') ∧ (W = V ∧ 12 < (jdg V a 13 - 1) * n) ∨ r = (.inl (some (.int (jn 1))), h') ∧ (jdg V a 13 - 1) * n ≤ 12 ∧ ∀ e, e < 13 → W (p * 13 + e) = pw (jpo V a) n e)) := fun hdeg => by
    iterate 2 refine mj_T.pl rfl rfl rfl rfl ?_
    refine mj_T.call (ins := .invokevirtual 110) rfl rfl (Nat.le_of_ble_eq_true rfl) (Nat.le_of_ble_eq_true rfl) (by simp [mj_recv, jS_a G hs]) rfl (jp_empties (D := D + 3) G (p := p) (by omega) hs) (fun v' h1 hq' => ?_) (fun i h' hq' => by obtain ⟨_, _, h⟩ := hq'; cases h)
    obtain ⟨_, hs1, hq'⟩ := hq'
    cases hq'
    have a1 : ∀ e, e < 13 → jfl V p (fun _ => 0) 13 (p * 13 + e) = 0 := fun e he => jfl_at _ p _ he
    have a2 : ∀ s, (s < p * 13 ∨ p * 13 + 13 ≤ s) → jfl V p (fun _ => 0) 13 s = V s := fun s hc => jfl_off _ p _ hc
    generalize jfl V p (fun _ => 0) 13 = W1 at hs1 a1 a2
    iterate 3 refine mj_T.pl rfl rfl rfl rfl ?_
    refine mj_T.call (ins := .invokestatic 104) rfl rfl (Nat.le_of_ble_eq_true rfl) (Nat.le_of_ble_eq_true rfl) rfl rfl (jq_slot (D := D + 4) (p := p) (i := 0)) (fun v' h' hq' => ?_) (fun i h' hq' => by cases hq')
    cases hq'
    refine mj_T.pl rfl rfl rfl rfl ?_
    refine mj_T.call (ins := .invokevirtual 45) rfl rfl (Nat.le_of_ble_eq_true rfl) (Nat.le_of_ble_eq_true rfl) (by simp [mj_recv, jS_a G hs1]) rfl (jS_sets (D := D + 4) G (s := p * 13 + 0) (v := 1) (by omega) ⟨by decide, by decide⟩ hs1) (fun v' h2 hq' => ?_) (fun i h' hq' => by obtain ⟨_, _, h⟩ := hq'; cases h)
    obtain ⟨_, hs2, hq'⟩ := hq'
    cases hq'
    have b1 : jvu W1 (p * 13 + 0) (1) (p * 13 + 0) = 1 := jvu_at _ _ _
    have b2 : ∀ s, s ≠ (p * 13 + 0) → jvu W1 (p * 13 + 0) (1) s = W1 s := fun s hne => jvu_ne _ _ _ hne
    generalize jvu W1 (p * 13 + 0) (1) = W2 at hs2 b1 b2
    iterate 2 refine mj_T.pl rfl rfl rfl rfl ?_
    refine jx_ra (D := D) (V := V) G hpp hp7 ha ha7 hpa hal1 hal hn hfit hdeg (fun W h k1 k2 k3 k4 => ⟨W, h, k1, k2, Or.inr ⟨rfl, hdeg, k4⟩⟩) n 0 W2 h2 (by omega) hs2 (fun s x1 x2 x3 => by rw [b2 s (by omega), a2 s x1]) (fun e he => ?_) ?_ (fun e he => ?_)
    · by_cases h0 : e = 0
      · subst h0
        rw [b1]
        exact Nat.le_refl _
      · rw [b2 _ (by omega), a1 e he]
        exact Nat.zero_le _
    · refine Nat.le_trans (jdg_of_zero (d := 1) fun e e1 e2 => ?_) (by omega)
      rw [b2 _ (by omega), a1 e e2]
    · show W2 (p * 13 + e) = if e = 0 then 1 else 0
      by_cases h0 : e = 0
      · subst h0
        rw [b1]
        rfl
      · rw [b2 _ (by omega), a1 e he, if_neg h0]
  refine mj_T.if0 (a := (jdg V a 13 : Int) - 1) rfl ⟨by omega, by omega⟩ (fun hc => ?_) (fun hc => ?_)
  · simp only [jc, Bool.not_eq_true', decide_eq_true_eq, decide_eq_false_iff_not] at hc
    exact t22 (by rw [show jdg V a 13 - 1 = 0 by omega, Nat.zero_mul]; exact Nat.zero_le _)
  simp only [jc, Bool.not_eq_false', decide_eq_true_eq, decide_eq_false_iff_not] at hc
  iterate 2 refine mj_T.pl rfl rfl rfl rfl ?_
  refine mj_T.call (ins := .invokevirtual 114) rfl rfl (Nat.le_of_ble_eq_true rfl) (Nat.le_of_ble_eq_true rfl) (by simp [mj_recv, jS_a G hs]) rfl (jp_degreeOf (D := D + 3) G (p := a) (by omega) hs) (fun v' h' hq' => ?_) (fun i h' hq' => by cases hq')
  cases hq'
  refine mj_T.pl rfl rfl rfl rfl ?_
  have e1 : ((jdg V a 13 : Nat) : Int) - 1 = ((jdg V a 13 - 1 : Nat) : Int) := by omega
  have e2 : (jdg V a 13 - 1) * n ≤ 12 * 12 := Nat.mul_le_mul (by omega) hn
  rw [e1]
  refine mj_T.imul rfl ?_
  rw [← Int.natCast_mul]
  refine mj_T.pl rfl rfl rfl rfl ?_
  refine mj_T.icmp (a := (((jdg V a 13 - 1) * n : Nat) : Int)) (b := 12) rfl ⟨by omega, by omega⟩ ⟨by decide, by decide⟩ (fun hc2 => ?_) (fun hc2 => ?_)
  · simp only [jc, Bool.not_eq_true', decide_eq_true_eq, decide_eq_false_iff_not] at hc2
    exact t22 (by omega)
  · refine mj_T.pl rfl rfl rfl rfl ?_
    exact mj_T.ret rfl rfl rfl ⟨V, h, hs, fun s _ _ _ => rfl, Or.inl ⟨rfl, rfl, by
      simp only [jc, Bool.not_eq_false', decide_eq_true_eq, decide_eq_false_iff_not] at hc2
      omega⟩⟩
end JRX
/-! The reference, exactly: power. -/
section RPQ
variable {h : mj_H} {tm er : Int} {T : Nat → Int} {N0 : Nat → Int} {u0 : Nat} {H : Nat → Nat → Int}
theorem pw_nofit {V : Nat → Int} {a n : Nat} (h : 12 < (jdg V a 13 - 1) * n) : ¬ fit13 (pw (jpo V a) n) := fun q => by
  have h1 : 1 ≤ jdg V a 13 := by
    rcases Nat.eq_zero_or_pos (jdg V a 13 - 1) with y | y
    · rw [y, Nat.zero_mul] at h
      omega
    · omega
  have k := jdg_ne V a 13 h1
  have hd := jdg_le V a 13
  have e := (pw_lead (B := jpo V a) (d := jdg V a 13 - 1) (fun i hi => jpo_zb (by omega)) n).2
  rw [q.2 _ (by rw [Nat.mul_comm]; omega), jpo_at (by omega)] at e
  exact Int.pow_ne_zero k e.symm
theorem rx_power {x y z : Int} (hx : jr x) (hy : jr y) (hz : jr z) (hI : jIx N0 u0 H tm er T h) : mj_Ok 40 234 [.ref 0, .int (jn x), .int (jn y), .int (jn z)] h (RP tm er T N0 u0 H (((0 ≤ x ∧ x ≤ 5) ∧ (0 ≤ y ∧ y ≤ 5)) ∧ (0 ≤ z ∧ z ≤ 12)) (pw (rwN N0 y) z.toNat) x) := by
  refine mj_Ok.of (M := mj_m234) rfl rfl rfl ?_
  obtain ⟨S, N, B, X, V, hs, K⟩ := hI
  iterate 2 refine mj_T.pl rfl rfl rfl rfl ?_
  refine rT_put (v := 0) hs rfl rfl (by decide) rfl (fun g7 hs7 => ?_)
  have K7 := K.put (k := 3) (v := 0) ⟨by decide, by decide⟩ (by decide) (by decide) (by decide) (by decide) (by decide)
  generalize jvu S 3 0 = S7 at hs7 K7
  iterate 3 refine mj_T.pl rfl rfl rfl rfl ?_
  refine mj_T.call (ins := .invokestatic 210) rfl rfl (Nat.le_of_ble_eq_true rfl) (Nat.le_of_ble_eq_true rfl) rfl rfl (mj_Ok.up (by decide) (rx_areRegisters (D := 0) hx hy hy)) (fun v' h' hq' => ?_) (fun i h' hq' => by rcases hq' with ⟨_, _, h⟩ | ⟨_, h⟩ <;> cases h)
  rcases hq' with ⟨⟨x1, x2⟩, ⟨y3, y4, y5, y6⟩, hq'⟩ | ⟨hno, hq'⟩
  case' inr =>
    cases hq'
    refine mj_T.if0 (a := 0) rfl ⟨by decide, by decide⟩ (fun hc => ?_) (fun hc => ?_)
    · simp [jc] at hc
    iterate 2 refine mj_T.pl rfl rfl rfl rfl ?_
    refine mj_T.call (ins := .invokevirtual 198) rfl rfl (Nat.le_of_ble_eq_true rfl) (Nat.le_of_ble_eq_true rfl) (by simp [mj_recv, rS_f hs7]) rfl (mj_Ok.up (by decide) (rp_fails (D := 0) (c := 1) hs7)) (fun v' g8 hq' => ?_) (fun i h' hq' => by obtain ⟨_, _, h⟩ := hq'; cases h)
    obtain ⟨_, hs8, hq'⟩ := hq'
    cases hq'
    exact mj_T.ret rfl rfl rfl (Or.inr ⟨fun q => hno ⟨q.1.1, q.1.2, q.1.2⟩, 0, g8, ⟨by decide, by decide⟩, rfl, ⟨_, N, B, X, V, hs8, K7.put ⟨by decide, by decide⟩ (by decide) (by decide) (by decide) (by decide) (by decide)⟩⟩)
  cases hq'
  refine mj_T.if0 (a := 1) rfl ⟨by decide, by decide⟩ (fun hc => ?_) (fun hc => ?_)
  rotate_left
  · simp [jc] at hc
  obtain ⟨x, rfl⟩ := Int.eq_ofNat_of_zero_le x1
  obtain ⟨y, rfl⟩ := Int.eq_ofNat_of_zero_le y3
  refine mj_T.pl rfl rfl rfl rfl ?_
  refine mj_T.i2l rfl hz ?_
  iterate 2 refine mj_T.pl rfl rfl rfl rfl ?_
  refine mj_T.call (ins := .invokestatic 177) rfl rfl (Nat.le_of_ble_eq_true rfl) (Nat.le_of_ble_eq_true rfl) rfl rfl (mj_Ok.up (by decide) (rp_in (D := 0) (v := z) (lo := 0) (hi := 12) ⟨by have := hz.1; omega, by have := hz.2; omega⟩ ⟨by decide, by decide⟩ ⟨by decide, by decide⟩)) (fun v' h' hq' => ?_) (fun i h' hq' => by rcases hq' with ⟨_, _, h⟩ | ⟨_, h⟩ <;> cases h)
  rcases hq' with ⟨r9a, r9b, hq'⟩ | ⟨cn, hq'⟩
  case' inr =>
    cases hq'
    refine mj_T.if0 (a := 0) rfl ⟨by decide, by decide⟩ (fun hc => ?_) (fun hc => ?_)
    · simp [jc] at hc
    iterate 2 refine mj_T.pl rfl rfl rfl rfl ?_
    refine mj_T.call (ins := .invokevirtual 198) rfl rfl (Nat.le_of_ble_eq_true rfl) (Nat.le_of_ble_eq_true rfl) (by simp [mj_recv, rS_f hs7]) rfl (mj_Ok.up (by decide) (rp_fails (D := 0) (c := 2) hs7)) (fun v' g10 hq' => ?_) (fun i h' hq' => by obtain ⟨_, _, h⟩ := hq'; cases h)
    obtain ⟨_, hs10, hq'⟩ := hq'
    cases hq'
    exact mj_T.ret rfl rfl rfl (Or.inr ⟨by omega, 0, g10, ⟨by decide, by decide⟩, rfl, ⟨_, N, B, X, V, hs10, K7.put ⟨by decide, by decide⟩ (by decide) (by decide) (by decide) (by decide) (by decide)⟩⟩)
  cases hq'
  refine mj_T.if0 (a := 1) rfl ⟨by decide, by decide⟩ (fun hc => ?_) (fun hc => ?_)
  rotate_left
  · simp [jc] at hc
  obtain ⟨z, rfl⟩ := Int.eq_ofNat_of_zero_le r9a
  iterate 3 refine mj_T.pl rfl rfl rfl rfl ?_
  refine mj_T.call (ins := .invokevirtual 213) rfl rfl (Nat.le_of_ble_eq_true rfl) (Nat.le_of_ble_eq_true rfl) (by simp [mj_recv, rS_f hs7]) rfl (mj_Ok.up (by decide) (rp_loads (D := 0) (p := 0) (r := y) (by decide) (by omega) K7.nR hs7)) (fun v' g11 hq' => ?_) (fun i h' hq' => by obtain ⟨_, _, h⟩ := hq'; cases h)
  obtain ⟨_, hs11, hq'⟩ := hq'
  cases hq'
  have a11 : ∀ e, e < 13 → jfl V 0 (fun e => N (y * 13 + e)) 13 (0 * 13 + e) = N (y * 13 + e) := fun e he => jfl_at _ _ _ he
  have b11 : ∀ s, (s < 0 * 13 ∨ 0 * 13 + 13 ≤ s) → jfl V 0 (fun e => N (y * 13 + e)) 13 s = V s := fun s hc => jfl_off _ _ _ hc
  generalize jfl V 0 (fun e => N (y * 13 + e)) 13 = W11 at hs11 a11 b11
  have eA : jpo W11 0 = rwN N0 (y : Int) := funext fun e => by
    unfold jpo
    by_cases q : e < 13
    · rw [if_pos q, a11 e q]
      exact rwN_at K7.2.1 (by omega) q
    · rw [if_neg q]
      show 0 = if e < 13 then _ else 0
      rw [if_neg q]
  have c1 : ∀ e, e < 13 → (W11 (0 * 13 + e)).natAbs ≤ 10 ^ 18 := fun e he => by
    rw [a11 e he]
    exact K7.sh (r := y) (by omega) he
  iterate 4 refine mj_T.pl rfl rfl rfl rfl ?_
  refine mj_T.call (ins := .invokevirtual 229) rfl rfl (Nat.le_of_ble_eq_true rfl) (Nat.le_of_ble_eq_true rfl) (by simp [mj_recv, rS_f hs11]) rfl (mj_Ok.up (by decide) (jx_raises (D := 0) (rG S7 N B T X) (p := 1) (a := 0) (al := 10 ^ 18) (n := z) (by decide) (by decide) (by decide) (by decide) (by decide) (by decide) c1 (by omega) rp_small3 hs11)) (fun v' g12 hq' => ?_) (fun i h' hq' => by obtain ⟨_, _, _, _, ⟨h, _⟩ | ⟨h, _⟩⟩ := hq' <;> cases h)
  obtain ⟨W12, _, hs12, _, ⟨hq', _, hbig⟩ | ⟨hq', hdg, hW⟩⟩ := hq'
  case' inl =>
    cases hq'
    refine mj_T.if0 (a := 0) rfl ⟨by decide, by decide⟩ (fun hc => ?_) (fun hc => ?_)
    rotate_left
    · simp [jc] at hc
    iterate 2 refine mj_T.pl rfl rfl rfl rfl ?_
    refine mj_T.call (ins := .invokevirtual 198) rfl rfl (Nat.le_of_ble_eq_true rfl) (Nat.le_of_ble_eq_true rfl) (by simp [mj_recv, rS_f hs12]) rfl (mj_Ok.up (by decide) (rp_fails (D := 0) (c := 3) hs12)) (fun v' g13 hq' => ?_) (fun i h' hq' => by obtain ⟨_, _, h⟩ := hq'; cases h)
    obtain ⟨_, hs13, hq'⟩ := hq'
    cases hq'
    have hbad := pw_nofit hbig
    rw [eA] at hbad
    exact mj_T.ret rfl rfl rfl (Or.inl ⟨⟨⟨⟨by omega, by omega⟩, ⟨by omega, by omega⟩⟩, ⟨by omega, by omega⟩⟩, Or.inr ⟨hbad, 0, g13, ⟨by decide, by decide⟩, rfl, ⟨_, N, B, X, W12, hs13, K7.put ⟨by decide, by decide⟩ (by decide) (by decide) (by decide) (by decide) (by decide)⟩⟩⟩)
  cases hq'
  refine mj_T.if0 (a := 1) rfl ⟨by decide, by decide⟩ (fun hc => ?_) (fun hc => ?_)
  · simp [jc] at hc
  iterate 4 refine mj_T.pl rfl rfl rfl rfl ?_
  refine mj_T.call (ins := .invokevirtual 219) rfl rfl (Nat.le_of_ble_eq_true rfl) (Nat.le_of_ble_eq_true rfl) (by simp [mj_recv, rS_f hs12]) rfl (mj_Ok.up (by decide) (rx_puts (D := 0) (r := x) (p := 1) (c := 3) (by omega) (by decide) ⟨by decide, by decide⟩ K7 hs12)) (fun v' h' hq' => ?_) (fun i h' hq' => by rcases hq' with ⟨_, _, _, _, h, _⟩ | ⟨_, _, _, _, h, _⟩ <;> cases h)
  have hres : ∀ j, j < 13 → (fun e => W12 (1 * 13 + e)) j = pw (rwN N0 (y : Int)) z j := fun j hj => by
    rw [← eA]
    exact hW j hj
  rcases hq' with ⟨hs9, z9, h9, hz9, e9, hI9⟩ | ⟨hs9, z9, h9, hz9, e9, hI9⟩
  · cases e9
    refine mj_T.pl rfl rfl rfl rfl ?_
    have hz : ∀ i, 13 ≤ i → pw (rwN N0 (y : Int)) z i = 0 := by
      rw [← eA]
      exact pw_z (d := jdg W11 0 13 - 1) (fun i hi => jpo_zb (by omega)) hdg
    exact mj_T.ret rfl rfl rfl (Or.inl ⟨⟨⟨⟨by omega, by omega⟩, ⟨by omega, by omega⟩⟩, ⟨by omega, by omega⟩⟩, Or.inl ⟨⟨sml_cg hres hs9, hz⟩, _, hres, z9, _, hz9, rfl, hI9⟩⟩)
  · cases e9
    refine mj_T.pl rfl rfl rfl rfl ?_
    exact mj_T.ret rfl rfl rfl (Or.inl ⟨⟨⟨⟨by omega, by omega⟩, ⟨by omega, by omega⟩⟩, ⟨by omega, by omega⟩⟩, Or.inr ⟨fun q => hs9 (sml_cg (fun j hj => (hres j hj).symm) q.1), z9, _, hz9, rfl, hI9⟩⟩)
end RPQ
/-! When two descriptions of what is kept say the same. -/
/-- the same rows, and the same points as far as there are some -/
def eqB (N N' : Nat → Int) : Prop := (∀ j, j < 78 → N j = N' j) ∧ N 78 = N' 78 ∧ ∀ k : Nat, (k : Int) < N 78 → N (79 + k) = N' (79 + k) ∧ N (85 + k) = N' (85 + k)
theorem eqB.rf (N : Nat → Int) : eqB N N := ⟨fun _ _ => rfl, rfl, fun _ _ => ⟨rfl, rfl⟩⟩
theorem eqB.sy {N N' : Nat → Int} (h : eqB N N') : eqB N' N := ⟨fun j hj => (h.1 j hj).symm, h.2.1.symm, fun k hk => ⟨(h.2.2 k (by rw [h.2.1]; exact hk)).1.symm, (h.2.2 k (by rw [h.2.1]; exact hk)).2.symm⟩⟩
theorem eqB.of {N N' : Nat → Int} (h : ∀ j, j < 91 → N j = N' j) (hn : N 78 ≤ 6) : eqB N N' := ⟨fun j hj => h j (by omega), h 78 (by decide), fun k hk => ⟨h _ (by omega), h _ (by omega)⟩⟩
theorem BN.cgN {X : Nat → Nat → Int} {o : Nat} {N N' : Nat → Int} (h : eqB N N') (q : BN X o N) : BN X o N' := by
  refine ⟨fun r hr j hj => (q.1 r hr j hj).trans (h.1 _ (by omega)), q.2.1.trans h.2.1, fun k hk => ?_⟩
  have y := h.2.2 k (by rw [h.2.1]; exact hk)
  have z := q.2.2 k (by rw [h.2.1]; exact hk)
  exact ⟨z.1.trans y.1, z.2.trans y.2⟩
theorem CR.cgN {X : Nat → Nat → Int} {N N' : Nat → Int} {u : Nat} {H H' : Nat → Nat → Int} (h : eqB N N') (hh : ∀ k, k < u → eqB (H k) (H' k)) (c : CR X N u H) : CR X N' u H' := by
  obtain ⟨e, he, h3, h2, b, bh, tl⟩ := c
  exact ⟨e, he, h3, h2, b.cgN h, fun k hk => (bh k hk).cgN (hh k hk), tl⟩
theorem cS.cgN {g h : mj_H} {n u : Nat} {N N' : Nat → Int} {H H' : Nat → Nat → Int} (e : eqB N N') (hh : ∀ k, k < u → eqB (H k) (H' k)) (s : cS g n N u H h) : cS g n N' u H' h := by
  obtain ⟨V, X, m, b, d, c⟩ := s
  exact ⟨V, X, m, b, d, c.cgN e hh⟩
/-- a row that is the same on its places -/
theorem eqB.row {N : Nat → Int} {r : Nat} (hr : r ≤ 5) {w w' : Nat → Int} (h : ∀ j, j < 13 → w j = w' j) : eqB (jfl N r w 13) (jfl N r w' 13) := by
  refine ⟨fun j hj => ?_, ?_, fun k hk => ⟨?_, ?_⟩⟩
  · unfold jfl
    split
    · exact h _ (by omega)
    · rfl
  · rw [jfl_off _ _ _ (by omega), jfl_off _ _ _ (by omega)]
  · rw [jfl_off _ _ _ (by omega), jfl_off _ _ _ (by omega)]
  · rw [jfl_off _ _ _ (by omega), jfl_off _ _ _ (by omega)]
theorem pushH_cg {N N' : Nat → Int} {H H' : Nat → Nat → Int} {u : Nat} (h : eqB N N') (hh : ∀ k, k < u → eqB (H k) (H' k)) : ∀ k, k < u + 1 → eqB (pushH N H k) (pushH N' H' k) := fun k hk => by
  cases k with
  | zero => exact h
  | succ k => exact hh k (by omega)
/-! The reference's primitive part, with its sign. -/
/-- a leading coefficient is above 0 -/
def posL (W : Nat → Int) (p : Nat) : Prop := ∀ d, d < 13 → W (p * 13 + d) ≠ 0 → (∀ e, d < e → e < 13 → W (p * 13 + e) = 0) → 0 < W (p * 13 + d)
theorem posL_d {W : Nat → Int} {p e : Nat} (h : jdg W p 13 = e + 1) (hp : 0 < W (p * 13 + e)) : posL W p := fun d hd h1 h2 => by
  have hl := jdg_le W p 13
  have hne := jdg_ne W p 13 (by omega)
  rw [h, Nat.add_sub_cancel] at hne
  by_cases c : d = e
  · rw [c]
    exact hp
  · by_cases c2 : d < e
    · exact absurd (h2 e c2 (by omega)) hne
    · exact absurd (jdg_zero W p 13 d (by omega) hd) h1
theorem posL_0 {W : Nat → Int} {p : Nat} (h : jdg W p 13 = 0) : posL W p := fun d hd h1 _ => absurd (jdg_zero W p 13 d (by omega) hd) h1
theorem posL_n {W W' : Nat → Int} {p e : Nat} (h : jdg W p 13 = e + 1) (hp : W (p * 13 + e) < 0) (hw : ∀ i, i < 13 → W' (p * 13 + i) = -W (p * 13 + i)) : posL W' p := fun d hd h1 h2 => by
  have hl := jdg_le W p 13
  by_cases c : d = e
  · rw [c, hw e (by omega)]
    omega
  · by_cases c2 : d < e
    · have y := h2 e c2 (by omega)
      rw [hw e (by omega)] at y
      omega
    · rw [hw d hd, jdg_zero W p 13 d (by omega) hd] at h1
      exact absurd rfl h1
section JPX
variable {D : Nat} {hp h : mj_H} {q0 q1 q2 q3 : Nat} {fs : List Value} {V : Nat → Int}
theorem jx_makesPrimitive (G : jG hp q0 q1 q2 q3 fs) {p : Nat} (hpp : p ≤ 49) (hs : jS hp q1 q2 q3 V h) :
    mj_Ok (D + 8) 210 [.ref q0, .int (jn (p : Nat))] h (fun r => ∃ (W : Nat → Int) (h' : mj_H), jS hp q1 q2 q3 W h' ∧ (∃ f : Int, (f = 1 ∨ f = -1) ∧ ∀ e, e < 13 → W (p * 13 + e) = f * (V (p * 13 + e)).tdiv ((jgk V p 13 : Nat) : Int)) ∧ (∀ s, (s < p * 13 ∨ p * 13 + 13 ≤ s) → s ≠ 652 → s ≠ 653 → s ≠ 655 → s ≠ 663 → s ≠ 664 → W s = V s) ∧ posL W p ∧ r = (.inl none, h')) := by
  refine mj_Ok.of (M := mj_m210) rfl rfl rfl ?_
  iterate 2 refine mj_T.pl rfl rfl rfl rfl ?_
  refine mj_T.call (ins := .invokevirtual 136) rfl rfl (Nat.le_of_ble_eq_true rfl) (Nat.le_of_ble_eq_true rfl) (by simp [mj_recv, jS_a G hs]) rfl (jp_shrinks (D := D) G (p := p) hpp hs) (fun v' h1 hq' => ?_) (fun i h' hq' => by obtain ⟨_, _, _, _, _, h⟩ := hq'; cases h)
  obtain ⟨W1, _, hs1, g1, f1, hq'⟩ := hq'
  cases hq'
  iterate 2 refine mj_T.pl rfl rfl rfl rfl ?_
  refine mj_T.call (ins := .invokevirtual 114) rfl rfl (Nat.le_of_ble_eq_true rfl) (Nat.le_of_ble_eq_true rfl) (by simp [mj_recv, jS_a G hs1]) rfl (jp_degreeOf (D := D + 5) G (p := p) (by omega) hs1) (fun v' h' hq' => ?_) (fun i h' hq' => by cases hq')
  cases hq'
  have hle := jdg_le W1 p 13
  generalize hdd : jdg W1 p 13 = dd at hle
  iterate 2 refine mj_T.pl rfl rfl rfl rfl ?_
  refine mj_T.if0 rfl ⟨by omega, by omega⟩ (fun hc => ?_) (fun hc => ?_)
  · simp only [jc, decide_eq_true_eq] at hc
    exact mj_T.ret rfl rfl rfl ⟨W1, h1, hs1, ⟨1, Or.inl rfl, fun e he => by rw [g1 e he, Int.one_mul]⟩, f1, posL_0 (by omega), rfl⟩
  · simp only [jc, decide_eq_false_iff_not] at hc
    obtain ⟨e, rfl⟩ : ∃ e, dd = e + 1 := ⟨dd - 1, by omega⟩
    rw [show ((e + 1 : Nat) : Int) - 1 = (e : Int) by omega]
    iterate 3 refine mj_T.pl rfl rfl rfl rfl ?_
    refine mj_T.call (ins := .invokestatic 104) rfl rfl (Nat.le_of_ble_eq_true rfl) (Nat.le_of_ble_eq_true rfl) rfl rfl (jq_slot (D := D + 6) (p := p) (i := e)) (fun v' h' hq' => ?_) (fun i h' hq' => by cases hq')
    cases hq'
    refine mj_T.call (ins := .invokevirtual 68) rfl rfl (Nat.le_of_ble_eq_true rfl) (Nat.le_of_ble_eq_true rfl) (by simp [mj_recv, jS_a G hs1]) rfl (jS_sign (D := D + 6) G (s := p * 13 + e) (by omega) hs1) (fun v' h' hq' => ?_) (fun i h' hq' => by cases hq')
    cases hq'
    have hsr := jsg_range (W1 (p * 13 + e))
    refine mj_T.if0 rfl ⟨by omega, by omega⟩ (fun hc2 => ?_) (fun hc2 => ?_)
    · simp only [jc, decide_eq_true_eq] at hc2
      have hne := jdg_ne W1 p 13 (by omega)
      rw [hdd, Nat.add_sub_cancel] at hne
      exact mj_T.ret rfl rfl rfl ⟨W1, h1, hs1, ⟨1, Or.inl rfl, fun e he => by rw [g1 e he, Int.one_mul]⟩, f1, posL_d hdd (by
        rcases Int.lt_trichotomy (W1 (p * 13 + e)) 0 with y | y | y
        · rw [jsg_neg y] at hc2
          exact absurd hc2 (by decide)
        · exact absurd y hne
        · exact y), rfl⟩
    · iterate 2 refine mj_T.pl rfl rfl rfl rfl ?_
      refine mj_T.call (ins := .invokevirtual 139) rfl rfl (Nat.le_of_ble_eq_true rfl) (Nat.le_of_ble_eq_true rfl) (by simp [mj_recv, jS_a G hs1]) rfl (jp_negates (D := D + 4) G (p := p) (by omega) hs1) (fun v' h2 hq' => ?_) (fun i h' hq' => by obtain ⟨_, _, h⟩ := hq'; cases h)
      obtain ⟨_, hs2, hq'⟩ := hq'
      cases hq'
      refine mj_T.ret rfl rfl rfl ⟨_, h2, hs2, ⟨-1, Or.inr rfl, fun e' he => ?_⟩, fun s a b c d e f => ?_, posL_n (W := W1) hdd (by
        simp only [jc, Bool.not_eq_false', decide_eq_true_eq] at hc2
        rcases Int.lt_trichotomy (W1 (p * 13 + e)) 0 with y | y | y
        · exact y
        · exact absurd hc2 (by rw [y]; decide)
        · exact absurd hc2 (by rw [jsg_pos y]; decide)) (fun i hi => jfl_at _ _ _ hi), rfl⟩
      · rw [jfl_at _ _ _ he, g1 e' he]
        omega
      · rw [jfl_off _ _ _ a]
        exact f1 s a b c d e f
end JPX
/-! The reference, exactly: primitive. -/
theorem jgk_mx {V : Nat → Int} {p d : Nat} (h : ∀ e, e < 13 → d ∣ (V (p * 13 + e)).natAbs) : ∀ m, d ∣ jgk V p m
  | 0 => Nat.dvd_zero d
  | m + 1 => Nat.dvd_gcd (jgk_mx h m) (h (12 - m) (by omega))
theorem jgk_cgd {V f : Nat → Int} {p : Nat} (h : ∀ e, e < 13 → V (p * 13 + e) = f e) : jgk V p 13 = cgd f 13 := Nat.dvd_antisymm (cgd_max f _ 13 (fun i hi => by rw [← h i hi]; exact jgk_dvd V p 13 i (Nat.le_refl _) (by omega) hi)) (jgk_mx (fun e he => by rw [h e he]; exact cgd_dvd f 13 e he) 13)
theorem ppr_of {R W : Nat → Int} {f : Int} (hf : f = 1 ∨ f = -1) (hw : ∀ e, e < 13 → W e = f * (R e).tdiv ((cgd R 13 : Nat) : Int)) (hp : ∀ d, d < 13 → W d ≠ 0 → (∀ e, d < e → e < 13 → W e = 0) → 0 < W d) : ∀ e, e < 13 → W e = ppr R e := fun e he => by
  have hle := fdg_le R 13
  have hpp : ppr R e = (R e).tdiv (sgc R) := if_pos he
  rw [hpp, hw e he]
  by_cases h0 : fdg R 13 = 0
  · rw [fdg_zero R 13 e (by omega) he, Int.zero_tdiv, Int.zero_tdiv, Int.mul_zero]
  · obtain ⟨d, hd⟩ : ∃ d, fdg R 13 = d + 1 := ⟨fdg R 13 - 1, by omega⟩
    have hne := fdg_ne R 13 (by omega)
    rw [hd, Nat.add_sub_cancel] at hne
    have hc : (cgd R 13 : Nat) ≠ 0 := fun y => hne (cgd_0 y d (by omega))
    have hdv : ((cgd R 13 : Nat) : Int) ∣ R d := Int.natAbs_dvd_natAbs.mp (by rw [Int.natAbs_natCast]; exact cgd_dvd R 13 d (by omega))
    obtain ⟨q, hq⟩ := hdv
    have hq2 : (R d).tdiv ((cgd R 13 : Nat) : Int) = q := by
      rw [hq]
      exact Int.mul_tdiv_cancel_left _ (by omega)
    have hq0 : q ≠ 0 := fun y => hne (by rw [hq, y, Int.mul_zero])
    have hwd : W d = f * q := by rw [hw d (by omega), hq2]
    have hpos := hp d (by omega) (by rw [hwd]; rcases hf with rfl | rfl <;> omega) (fun e' h1 h2 => by
      rw [hw e' h2, fdg_zero R 13 e' (by omega) h2, Int.zero_tdiv, Int.mul_zero])
    rw [hwd] at hpos
    have hcp : (0 : Int) < ((cgd R 13 : Nat) : Int) := by omega
    unfold sgc
    rw [hd, Nat.add_sub_cancel]
    by_cases hn : R d < 0
    · rw [if_pos ⟨by omega, hn⟩, Int.tdiv_neg]
      have hqn : q < 0 := by
        rcases Int.lt_trichotomy q 0 with y | y | y
        · exact y
        · exact absurd y hq0
        · have := Int.mul_pos hcp y
          omega
      rcases hf with rfl | rfl
      · omega
      · omega
    · rw [if_neg (fun y => hn y.2)]
      have hqp : 0 < q := by
        rcases Int.lt_trichotomy q 0 with y | y | y
        · have := Int.mul_neg_of_pos_of_neg hcp y
          omega
        · exact absurd y hq0
        · exact y
      rcases hf with rfl | rfl
      · omega
      · omega
section RPV
variable {h : mj_H} {tm er : Int} {T : Nat → Int} {N0 : Nat → Int} {u0 : Nat} {H : Nat → Nat → Int}
theorem rx_primitive {x y : Int} (hx : jr x) (hy : jr y) (hI : jIx N0 u0 H tm er T h) : mj_Ok 40 239 [.ref 0, .int (jn x), .int (jn y)] h (RP tm er T N0 u0 H ((0 ≤ x ∧ x ≤ 5) ∧ (0 ≤ y ∧ y ≤ 5)) (ppr (rwN N0 y)) x) := by
  refine mj_Ok.of (M := mj_m239) rfl rfl rfl ?_
  obtain ⟨S, N, B, X, V, hs, K⟩ := hI
  iterate 2 refine mj_T.pl rfl rfl rfl rfl ?_
  refine rT_put (v := 0) hs rfl rfl (by decide) rfl (fun g18 hs18 => ?_)
  have K18 := K.put (k := 3) (v := 0) ⟨by decide, by decide⟩ (by decide) (by decide) (by decide) (by decide) (by decide)
  generalize jvu S 3 0 = S18 at hs18 K18
  iterate 3 refine mj_T.pl rfl rfl rfl rfl ?_
  refine mj_T.call (ins := .invokestatic 210) rfl rfl (Nat.le_of_ble_eq_true rfl) (Nat.le_of_ble_eq_true rfl) rfl rfl (mj_Ok.up (by decide) (rx_areRegisters (D := 0) hx hy hy)) (fun v' h' hq' => ?_) (fun i h' hq' => by rcases hq' with ⟨_, _, h⟩ | ⟨_, h⟩ <;> cases h)
  rcases hq' with ⟨⟨x1, x2⟩, ⟨y3, y4, y5, y6⟩, hq'⟩ | ⟨hno, hq'⟩
  case' inr =>
    cases hq'
    refine mj_T.if0 (a := 0) rfl ⟨by decide, by decide⟩ (fun hc => ?_) (fun hc => ?_)
    · simp [jc] at hc
    iterate 2 refine mj_T.pl rfl rfl rfl rfl ?_
    refine mj_T.call (ins := .invokevirtual 198) rfl rfl (Nat.le_of_ble_eq_true rfl) (Nat.le_of_ble_eq_true rfl) (by simp [mj_recv, rS_f hs18]) rfl (mj_Ok.up (by decide) (rp_fails (D := 0) (c := 1) hs18)) (fun v' g19 hq' => ?_) (fun i h' hq' => by obtain ⟨_, _, h⟩ := hq'; cases h)
    obtain ⟨_, hs19, hq'⟩ := hq'
    cases hq'
    exact mj_T.ret rfl rfl rfl (Or.inr ⟨fun q => hno ⟨q.1, q.2, q.2⟩, 0, g19, ⟨by decide, by decide⟩, rfl, ⟨_, N, B, X, V, hs19, K18.put ⟨by decide, by decide⟩ (by decide) (by decide) (by decide) (by decide) (by decide)⟩⟩)
  cases hq'
  refine mj_T.if0 (a := 1) rfl ⟨by decide, by decide⟩ (fun hc => ?_) (fun hc => ?_)
  rotate_left
  · simp [jc] at hc
  obtain ⟨x, rfl⟩ := Int.eq_ofNat_of_zero_le x1
  obtain ⟨y, rfl⟩ := Int.eq_ofNat_of_zero_le y3
  iterate 3 refine mj_T.pl rfl rfl rfl rfl ?_
  refine mj_T.call (ins := .invokevirtual 213) rfl rfl (Nat.le_of_ble_eq_true rfl) (Nat.le_of_ble_eq_true rfl) (by simp [mj_recv, rS_f hs18]) rfl (mj_Ok.up (by decide) (rp_loads (D := 0) (p := 0) (r := y) (by decide) (by omega) K18.nR hs18)) (fun v' g20 hq' => ?_) (fun i h' hq' => by obtain ⟨_, _, h⟩ := hq'; cases h)
  obtain ⟨_, hs20, hq'⟩ := hq'
  cases hq'
  have a20 : ∀ e, e < 13 → jfl V 0 (fun e => N (y * 13 + e)) 13 (0 * 13 + e) = N (y * 13 + e) := fun e he => jfl_at _ _ _ he
  have b20 : ∀ s, (s < 0 * 13 ∨ 0 * 13 + 13 ≤ s) → jfl V 0 (fun e => N (y * 13 + e)) 13 s = V s := fun s hc => jfl_off _ _ _ hc
  generalize jfl V 0 (fun e => N (y * 13 + e)) 13 = W20 at hs20 a20 b20
  iterate 2 refine mj_T.pl rfl rfl rfl rfl ?_
  refine mj_T.call (ins := .invokevirtual 142) rfl rfl (Nat.le_of_ble_eq_true rfl) (Nat.le_of_ble_eq_true rfl) (by simp [mj_recv, rS_f hs20]) rfl (mj_Ok.up (by decide) (jx_makesPrimitive (D := 0) (rG S18 N B T X) (p := 0) (by decide) hs20)) (fun v' g21 hq' => ?_) (fun i h' hq' => by obtain ⟨_, _, _, _, _, _, h⟩ := hq'; cases h)
  obtain ⟨W21, _, hs21, ⟨f, hf, hW⟩, _, hP, hq'⟩ := hq'
  cases hq'
  iterate 4 refine mj_T.pl rfl rfl rfl rfl ?_
  refine mj_T.call (ins := .invokevirtual 219) rfl rfl (Nat.le_of_ble_eq_true rfl) (Nat.le_of_ble_eq_true rfl) (by simp [mj_recv, rS_f hs21]) rfl (mj_Ok.up (by decide) (rx_puts (D := 0) (r := x) (p := 0) (c := 2) (by omega) (by decide) ⟨by decide, by decide⟩ K18 hs21)) (fun v' h' hq' => ?_) (fun i h' hq' => by rcases hq' with ⟨_, _, _, _, h, _⟩ | ⟨_, _, _, _, h, _⟩ <;> cases h)
  have hR : ∀ e, e < 13 → W20 (0 * 13 + e) = rwN N0 (y : Int) e := fun e he => by
    rw [a20 e he]
    exact rwN_at K18.2.1 (by omega) he
  have hRs : sml (rwN N0 (y : Int)) := fun j hj => by
    rw [← rwN_at K18.2.1 (r := y) (by omega) hj]
    have := K18.1.1.1 (y * 13 + j) (by omega)
    omega
  have hres : ∀ j, j < 13 → (fun e => W21 (0 * 13 + e)) j = ppr (rwN N0 (y : Int)) j := ppr_of hf (fun e he => by
    show W21 (0 * 13 + e) = _
    rw [hW e he, hR e he, jgk_cgd hR]) (fun d hd h1 h2 => hP d hd h1 h2)
  have hfit : fit13 (ppr (rwN N0 (y : Int))) := ⟨fun j hj => ppr_sml hRs j, fun i hi => if_neg (by omega)⟩
  rcases hq' with ⟨hs9, z9, h9, hz9, e9, hI9⟩ | ⟨hs9, z9, h9, hz9, e9, hI9⟩
  · cases e9
    exact mj_T.ret rfl rfl rfl (Or.inl ⟨⟨⟨by omega, by omega⟩, ⟨by omega, by omega⟩⟩, Or.inl ⟨hfit, _, hres, z9, _, hz9, rfl, hI9⟩⟩)
  · exact absurd (sml_cg (fun j hj => (hres j hj).symm) hfit.1) hs9
end RPV
/-! The reference, exactly: substitute. -/
theorem hw_low {A B : pz_P} {d : Nat} (hA : ∀ i, d ≤ i → A i = 0) : ∀ k, k + d ≤ 13 → ∀ i, hw A B k i = 0
  | 0, _, _ => rfl
  | k + 1, h, i => by
    show pz_mul (hw A B k) B i + (if i = 0 then A (12 - k) else 0) = 0
    rw [show pz_mul (hw A B k) B i = 0 from pz_c_zeroL i _ _ (hw_low hA k (by omega)), hA _ (by omega)]
    split <;> rfl
theorem hw_deg {A B : pz_P} {d b : Nat} (hA : ∀ i, d ≤ i → A i = 0) (hB : ∀ i, b < i → B i = 0) (hd : d ≤ 13) : ∀ s, s ≤ d → ∀ i, (s - 1) * b < i → hw A B (13 - d + s) i = 0
  | 0, _, i, _ => hw_low hA _ (by omega) i
  | s + 1, hs, i, hi => by
    rw [Nat.add_sub_cancel] at hi
    show hw A B (13 - d + s + 1) i = 0
    rw [hw_rest _ _ _ _ (by omega)]
    have ih := hw_deg hA hB hd s (by omega)
    cases s with
    | zero => exact pz_c_zeroL i _ _ (hw_low hA _ (by omega))
    | succ t =>
      rw [Nat.add_sub_cancel] at ih
      rw [Nat.succ_mul] at hi
      exact pz_lt.mul (a := t * b + 1) (b := b + 1) (c := t * b + b + 1) (fun j hj => ih j (by omega)) (fun j hj => hB j (by omega)) (by omega) i (by omega)
theorem hw_lead {A B : pz_P} {d b : Nat} (hA : ∀ i, d ≤ i → A i = 0) (hB : ∀ i, b < i → B i = 0) (hd : d ≤ 13) (hb : 1 ≤ b) : ∀ s, s + 1 ≤ d → hw A B (13 - d + (s + 1)) (s * b) = A (d - 1) * B b ^ s
  | 0, h => by
    show pz_mul (hw A B (13 - d)) B (0 * b) + (if 0 * b = 0 then A (12 - (13 - d)) else 0) = _
    rw [Nat.zero_mul, if_pos rfl, show pz_mul (hw A B (13 - d)) B 0 = 0 from pz_c_zeroL 0 _ _ (hw_low hA _ (by omega)), show 12 - (13 - d) = d - 1 by omega, Int.pow_zero, Int.mul_one, Int.zero_add]
  | s + 1, h => by
    have ih := hw_lead hA hB hd hb s (by omega)
    have hg := hw_deg hA hB hd (s + 1) (by omega)
    rw [Nat.add_sub_cancel] at hg
    rw [Nat.succ_mul]
    show hw A B (13 - d + (s + 1) + 1) (s * b + b) = _
    rw [hw_rest _ _ _ _ (by omega)]
    refine (pz_c_lead (s * b) (hw A B (13 - d + (s + 1))) B b (fun j hj => hg j (by omega)) (fun j hj => hB j (by omega))).trans ?_
    rw [ih, Int.pow_succ, Int.mul_assoc]
theorem hw_nofit {V : Nat → Int} (h : 12 < (jdg V 0 13 - 1) * (jdg V 1 13 - 1)) : ¬ fit13 (hw (jpo V 0) (jpo V 1) 13) := fun q => by
  have h1 : 1 ≤ jdg V 0 13 - 1 := by
    rcases Nat.eq_zero_or_pos (jdg V 0 13 - 1) with y | y
    · rw [y, Nat.zero_mul] at h
      omega
    · omega
  have h2 : 1 ≤ jdg V 1 13 - 1 := by
    rcases Nat.eq_zero_or_pos (jdg V 1 13 - 1) with y | y
    · rw [y, Nat.mul_zero] at h
      omega
    · omega
  have k0 := jdg_ne V 0 13 (by omega)
  have k1 := jdg_ne V 1 13 (by omega)
  have hd0 := jdg_le V 0 13
  have hd1 := jdg_le V 1 13
  have e := hw_lead (A := jpo V 0) (B := jpo V 1) (d := jdg V 0 13) (b := jdg V 1 13 - 1) (fun i hi => jpo_zb hi) (fun i hi => jpo_zb (by omega)) hd0 h2 (jdg V 0 13 - 1) (by omega)
  rw [show 13 - jdg V 0 13 + (jdg V 0 13 - 1 + 1) = 13 by omega, q.2 _ (by omega), jpo_at (by omega), jpo_at (by omega)] at e
  exact Int.mul_ne_zero k0 (Int.pow_ne_zero k1) e.symm
theorem hw_fits {V : Nat → Int} (h : (jdg V 0 13 - 1) * (jdg V 1 13 - 1) ≤ 12) : ∀ i, 13 ≤ i → hw (jpo V 0) (jpo V 1) 13 i = 0 := fun i hi => by
  have hd0 := jdg_le V 0 13
  have e := hw_deg (A := jpo V 0) (B := jpo V 1) (d := jdg V 0 13) (b := jdg V 1 13 - 1) (fun i hi => jpo_zb hi) (fun i hi => jpo_zb (by omega)) hd0 (jdg V 0 13) (Nat.le_refl _) i (by omega)
  rwa [show 13 - jdg V 0 13 + jdg V 0 13 = 13 by omega] at e
section RSU
variable {h : mj_H} {tm er : Int} {T : Nat → Int} {N0 : Nat → Int} {u0 : Nat} {H : Nat → Nat → Int}
theorem rx_sb_loop {S N B X V0 : Nat → Int} {x : Nat} {y z : Int} {reg : Prop} (hreg : reg) {P : pz_P} (hP : P = hw (jpo V0 0) (jpo V0 1) 13) (hx : x ≤ 5) (K : jKx N0 u0 H tm er S N B T) (hA : ∀ e, e < 13 → (V0 (0 * 13 + e)).natAbs ≤ 10 ^ 18) (hB : ∀ e, e < 13 → (V0 (1 * 13 + e)).natAbs ≤ 10 ^ 18) (hdeg : (jdg V0 0 13 - 1) * (jdg V0 1 13 - 1) ≤ 12) :
    ∀ (m s : Nat) (V : Nat → Int) (h : mj_H), m + s = jdg V0 0 13 → rS S N B T X V h → (∀ j, j < 26 → V j = V0 j) → (∀ e, e < 13 → (V (2 * 13 + e)).natAbs ≤ (170 * 10 ^ 18) ^ s) → ((s = 0 ∧ jdg V 2 13 = 0) ∨ (1 ≤ s ∧ jdg V 2 13 ≤ (s - 1) * (jdg V0 1 13 - 1) + 1)) → (∀ e, e < 13 → V (2 * 13 + e) = hw (jpo V0 0) (jpo V0 1) (13 - m) e) → mj_T 39 mj_m236 74 [some (.ref 0), some (.int (jn (x : Int))), some (.int (jn y)), some (.int (jn z)), some (.int (jn ((m : Int) - 1)))] [] h (RP tm er T N0 u0 H reg P (x : Int)) := by
  have hl0 := jdg_le V0 0 13
  have hl1 := jdg_le V0 1 13
  intro m
  induction m with
  | zero =>
    intro s V h hm hs f c1 c2 c3
    refine mj_T.pl rfl rfl rfl rfl ?_
    refine mj_T.if0 (a := ((0 : Nat) : Int) - 1) rfl ⟨by decide, by decide⟩ (fun hc => ?_) (fun hc => ?_)
    rotate_left
    · simp [jc] at hc
    iterate 4 refine mj_T.pl rfl rfl rfl rfl ?_
    refine mj_T.call (ins := .invokevirtual 219) rfl rfl (Nat.le_of_ble_eq_true rfl) (Nat.le_of_ble_eq_true rfl) (by simp [mj_recv, rS_f hs]) rfl (mj_Ok.up (by decide) (rx_puts (D := 0) (r := x) (p := 2) (c := 2) (by omega) (by decide) ⟨by decide, by decide⟩ K hs)) (fun v' h' hq' => ?_) (fun i h' hq' => by rcases hq' with ⟨_, _, _, _, h, _⟩ | ⟨_, _, _, _, h, _⟩ <;> cases h)
    have hres : ∀ j, j < 13 → (fun e => V (2 * 13 + e)) j = P j := fun j hj => by
      rw [hP]
      exact c3 j hj
    have hz : ∀ i, 13 ≤ i → P i = 0 := by
      rw [hP]
      exact hw_fits hdeg
    rcases hq' with ⟨hs9, z9, h9, hz9, e9, hI9⟩ | ⟨hs9, z9, h9, hz9, e9, hI9⟩
    · cases e9
      exact mj_T.ret rfl rfl rfl (Or.inl ⟨hreg, Or.inl ⟨⟨sml_cg hres hs9, hz⟩, _, hres, z9, _, hz9, rfl, hI9⟩⟩)
    · cases e9
      exact mj_T.ret rfl rfl rfl (Or.inl ⟨hreg, Or.inr ⟨fun q => hs9 (sml_cg (fun j hj => (hres j hj).symm) q.1), z9, _, hz9, rfl, hI9⟩⟩)
  | succ m ih =>
    intro s V h hm hs f c1 c2 c3
    refine mj_T.pl rfl rfl rfl rfl ?_
    refine mj_T.if0 (a := ((m + 1 : Nat) : Int) - 1) rfl ⟨by omega, by omega⟩ (fun hc => ?_) (fun hc => ?_)
    · simp only [jc, decide_eq_true_eq] at hc
      omega
    rw [show ((m + 1 : Nat) : Int) - 1 = (m : Int) by omega]
    have e1 : jdg V 1 13 = jdg V0 1 13 := jdg_congr 13 fun e he => f _ (by omega)
    have hmul : (s - 1) * (jdg V0 1 13 - 1) + (jdg V0 1 13 - 1) = s * (jdg V0 1 13 - 1) ∨ s = 0 := by
      rcases Nat.eq_zero_or_pos s with q | q
      · exact Or.inr q
      · refine Or.inl ?_
        obtain ⟨t, rfl⟩ : ∃ t, s = t + 1 := ⟨s - 1, by omega⟩
        rw [Nat.add_sub_cancel, Nat.succ_mul]
    have hle : s * (jdg V0 1 13 - 1) ≤ 12 := Nat.le_trans (Nat.mul_le_mul_right _ (by omega)) hdeg
    have hpw : (170 * 10 ^ 18) ^ s ≤ (170 * 10 ^ 18) ^ 13 := Nat.pow_le_pow_right (by decide) (by omega)
    have hp1 : 1 ≤ (170 * 10 ^ 18) ^ s := Nat.pow_pos (by decide)
    have h6 := rp_small6
    have hps : (170 * 10 ^ 18) ^ (s + 1) = (170 * 10 ^ 18) ^ s * (170 * 10 ^ 18) := Nat.pow_succ _ _
    obtain ⟨al, ha1, ha2, ha3⟩ : ∃ al : Nat, (∀ e, e < 13 → (V (2 * 13 + e)).natAbs ≤ al) ∧ al ≤ (170 * 10 ^ 18) ^ s ∧ (s = 0 → al = 0) := by
      rcases c2 with ⟨q, q2⟩ | ⟨q, _⟩
      · exact ⟨0, fun e he => by rw [jdg_zero V 2 13 e (by omega) he]; exact Nat.zero_le _, Nat.zero_le _, fun _ => rfl⟩
      · exact ⟨_, c1, Nat.le_refl _, fun q2 => absurd q2 (by omega)⟩
    iterate 4 refine mj_T.pl rfl rfl rfl rfl ?_
    refine mj_T.call (ins := .invokevirtual 121) rfl rfl (Nat.le_of_ble_eq_true rfl) (Nat.le_of_ble_eq_true rfl) (by simp [mj_recv, rS_f hs]) rfl (mj_Ok.up (by decide) (jx_multipliesPoly (D := 0) (V := V) (rG S N B T X) (to := 7) (a := 2) (b := 1) (by decide) (by decide) (by decide) (by decide) (by decide) (al := al) (be := 10 ^ 18) ha1 (fun e he => by rw [f _ (by omega)]; exact hB e he) (by rw [e1]; omega) (by omega) hs)) (fun v' g1 hq' => ?_) (fun i h' hq' => by obtain ⟨_, _, _, _, _, _, _, h⟩ := hq'; cases h)
    obtain ⟨W1, _, hs1, d1, d2, d3, hW, hq'⟩ := hq'
    cases hq'
    iterate 3 refine mj_T.pl rfl rfl rfl rfl ?_
    refine mj_T.call (ins := .invokevirtual 124) rfl rfl (Nat.le_of_ble_eq_true rfl) (Nat.le_of_ble_eq_true rfl) (by simp [mj_recv, rS_f hs1]) rfl (mj_Ok.up (by decide) (jp_copiesPoly (D := 0) (V := W1) (rG S N B T X) (p := 2) (q := 7) (by decide) (by decide) (by decide) hs1)) (fun v' g2 hq' => ?_) (fun i h' hq' => by obtain ⟨_, _, h⟩ := hq'; cases h)
    obtain ⟨_, hs2, hq'⟩ := hq'
    cases hq'
    have q1 : ∀ e, e < 13 → jfl W1 2 (fun e => W1 (7 * 13 + e)) 13 (2 * 13 + e) = W1 (7 * 13 + e) := fun e he => jfl_at _ _ _ he
    have q2 : ∀ s, (s < 26 ∨ 39 ≤ s) → jfl W1 2 (fun e => W1 (7 * 13 + e)) 13 s = W1 s := fun s hc => jfl_off _ _ _ (by omega)
    generalize jfl W1 2 (fun e => W1 (7 * 13 + e)) 13 = W2 at hs2 q1 q2
    iterate 3 refine mj_T.pl rfl rfl rfl rfl ?_
    refine mj_T.call (ins := .invokestatic 104) rfl rfl (Nat.le_of_ble_eq_true rfl) (Nat.le_of_ble_eq_true rfl) rfl rfl (mj_Ok.up (by decide) (jq_slot (D := 0) (p := 2) (i := 0))) (fun v' h' hq' => ?_) (fun i h' hq' => by cases hq')
    cases hq'
    iterate 2 refine mj_T.pl rfl rfl rfl rfl ?_
    refine mj_T.call (ins := .invokestatic 104) rfl rfl (Nat.le_of_ble_eq_true rfl) (Nat.le_of_ble_eq_true rfl) rfl rfl (mj_Ok.up (by decide) (jq_slot (D := 0) (p := 2) (i := 0))) (fun v' h' hq' => ?_) (fun i h' hq' => by cases hq')
    cases hq'
    iterate 2 refine mj_T.pl rfl rfl rfl rfl ?_
    refine mj_T.call (ins := .invokestatic 104) rfl rfl (Nat.le_of_ble_eq_true rfl) (Nat.le_of_ble_eq_true rfl) rfl rfl (mj_Ok.up (by decide) (jq_slot (D := 0) (p := 0) (i := m))) (fun v' h' hq' => ?_) (fun i h' hq' => by cases hq')
    cases hq'
    refine mj_T.pl rfl rfl rfl rfl ?_
    have va : W2 (0 * 13 + m) = V0 (0 * 13 + m) := by rw [q2 _ (by omega), d1 _ (by omega) (by omega), f _ (by omega)]
    have v1 : (W2 (2 * 13 + 0) + 1 * W2 (0 * 13 + m)).natAbs ≤ (170 * 10 ^ 18) ^ (s + 1) := by
      rw [va, q1 0 (by decide), Int.one_mul]
      have k1 := d2 0 (by decide)
      have k2 := hA m (by omega)
      have k3 := Int.natAbs_add_le (W1 (7 * 13 + 0)) (V0 (0 * 13 + m))
      omega
    refine mj_T.call (ins := .invokevirtual 107) rfl rfl (Nat.le_of_ble_eq_true rfl) (Nat.le_of_ble_eq_true rfl) (by simp [mj_recv, rS_f hs2]) rfl (mj_Ok.up (by decide) (jS_adds (D := 0) (V := W2) (rG S N B T X) (to := 2 * 13 + 0) (a := 2 * 13 + 0) (b := 0 * 13 + m) (f := 1) (by decide) (by decide) (by omega) (Or.inl rfl) (jnl_of_lt v1 (by omega)) hs2)) (fun v' g3 hq' => ?_) (fun i h' hq' => by obtain ⟨_, _, h⟩ := hq'; cases h)
    obtain ⟨_, hs3, hq'⟩ := hq'
    cases hq'
    have u1 : jvu W2 (2 * 13 + 0) (W2 (2 * 13 + 0) + 1 * W2 (0 * 13 + m)) (2 * 13 + 0) = W2 (2 * 13 + 0) + 1 * W2 (0 * 13 + m) := jvu_at _ _ _
    have u2 : ∀ s, s ≠ 2 * 13 + 0 → jvu W2 (2 * 13 + 0) (W2 (2 * 13 + 0) + 1 * W2 (0 * 13 + m)) s = W2 s := fun s hne => jvu_ne _ _ _ hne
    generalize jvu W2 (2 * 13 + 0) (W2 (2 * 13 + 0) + 1 * W2 (0 * 13 + m)) = W3 at hs3 u1 u2
    refine mj_T.iinc (a := (m : Int)) rfl rfl ?_
    refine mj_T.pl rfl rfl rfl rfl ?_
    refine ih (s + 1) W3 g3 (by omega) hs3 (fun j hj => by rw [u2 _ (by omega), q2 _ (by omega), d1 _ (by omega) (by omega), f _ hj]) (fun e he => ?_) (Or.inr ⟨by omega, ?_⟩) (fun e he => ?_)
    · by_cases e0 : e = 0
      · subst e0
        rw [u1]
        exact v1
      · rw [u2 _ (by omega), q1 e he]
        have := d2 e he
        omega
    · have j1 : jdg W1 7 13 ≤ jdg V 2 13 + jdg V 1 13 - 1 := d3
      refine jdg_of_zero fun e x1 x2 => ?_
      rw [Nat.add_sub_cancel] at x1
      rw [u2 _ (by omega), q1 e x2]
      by_cases q : s = 0
      · have := d2 e x2
        rw [ha3 q, Nat.zero_mul, Nat.mul_zero] at this
        omega
      · exact jdg_zero W1 7 13 e (by omega) x2
    · have hk : 13 - m = 13 - (m + 1) + 1 := by omega
      have hks : 13 - (m + 1) = 13 - jdg V0 0 13 + s := by omega
      have hlt : ∀ i : Nat, ¬ i < 13 → (s - 1) * (jdg V0 1 13 - 1) < i := fun i q => by
        rcases hmul with q2 | q2
        · omega
        · rw [q2, Nat.zero_sub, Nat.zero_mul]
          omega
      have eV : jpo V 2 = hw (jpo V0 0) (jpo V0 1) (13 - (m + 1)) := funext fun i => by
        by_cases q : i < 13
        · rw [jpo_at q]
          exact c3 i q
        · have hdg := hw_deg (A := jpo V0 0) (B := jpo V0 1) (d := jdg V0 0 13) (b := jdg V0 1 13 - 1) (fun i hi => jpo_zb hi) (fun i hi => jpo_zb (by omega)) (jdg_le V0 0 13) s (by omega) i (hlt i q)
          rw [hks, hdg]
          exact jpo_zb (by have := jdg_le V 2 13; omega)
      have eB : jpo V 1 = jpo V0 1 := funext fun i => by
        by_cases q : i < 13
        · rw [jpo_at q, jpo_at q, f _ (by omega)]
        · have x1 := jdg_le V 1 13
          have x2 := jdg_le V0 1 13
          rw [jpo_zb (by omega), jpo_zb (by omega)]
      have hm9 := (hW e he).trans (prs_mul V 2 1 e)
      rw [eV, eB] at hm9
      rw [hk]
      by_cases e0 : e = 0
      · subst e0
        rw [u1, q1 0 (by decide), hm9, va, Int.one_mul]
        show _ = pz_mul _ _ 0 + (if 0 = 0 then jpo V0 0 (12 - (13 - (m + 1))) else 0)
        rw [if_pos rfl, show 12 - (13 - (m + 1)) = m by omega, jpo_at (by omega)]
      · rw [u2 _ (by omega), q1 e he, hm9, hw_rest _ _ _ _ (by omega)]
theorem rx_substitute {x y z : Int} (hx : jr x) (hy : jr y) (hz : jr z) (hI : jIx N0 u0 H tm er T h) : mj_Ok 40 236 [.ref 0, .int (jn x), .int (jn y), .int (jn z)] h (RP tm er T N0 u0 H ((0 ≤ x ∧ x ≤ 5) ∧ (0 ≤ y ∧ y ≤ 5) ∧ (0 ≤ z ∧ z ≤ 5)) (hw (rwN N0 y) (rwN N0 z) 13) x) := by
  refine mj_Ok.of (M := mj_m236) rfl rfl rfl ?_
  obtain ⟨S, N, B, X, V, hs, K⟩ := hI
  iterate 2 refine mj_T.pl rfl rfl rfl rfl ?_
  refine rT_put (v := 0) hs rfl rfl (by decide) rfl (fun g4 hs4 => ?_)
  have K4 := K.put (k := 3) (v := 0) ⟨by decide, by decide⟩ (by decide) (by decide) (by decide) (by decide) (by decide)
  generalize jvu S 3 0 = S4 at hs4 K4
  iterate 3 refine mj_T.pl rfl rfl rfl rfl ?_
  refine mj_T.call (ins := .invokestatic 210) rfl rfl (Nat.le_of_ble_eq_true rfl) (Nat.le_of_ble_eq_true rfl) rfl rfl (mj_Ok.up (by decide) (rx_areRegisters (D := 0) hx hy hz)) (fun v' h' hq' => ?_) (fun i h' hq' => by rcases hq' with ⟨_, _, h⟩ | ⟨_, h⟩ <;> cases h)
  rcases hq' with ⟨⟨x1, x2⟩, ⟨y3, y4, z5, z6⟩, hq'⟩ | ⟨hno, hq'⟩
  case' inr =>
    cases hq'
    refine mj_T.if0 (a := 0) rfl ⟨by decide, by decide⟩ (fun hc => ?_) (fun hc => ?_)
    · simp [jc] at hc
    iterate 2 refine mj_T.pl rfl rfl rfl rfl ?_
    refine mj_T.call (ins := .invokevirtual 198) rfl rfl (Nat.le_of_ble_eq_true rfl) (Nat.le_of_ble_eq_true rfl) (by simp [mj_recv, rS_f hs4]) rfl (mj_Ok.up (by decide) (rp_fails (D := 0) (c := 1) hs4)) (fun v' g5 hq' => ?_) (fun i h' hq' => by obtain ⟨_, _, h⟩ := hq'; cases h)
    obtain ⟨_, hs5, hq'⟩ := hq'
    cases hq'
    exact mj_T.ret rfl rfl rfl (Or.inr ⟨hno, 0, g5, ⟨by decide, by decide⟩, rfl, ⟨_, N, B, X, V, hs5, K4.put ⟨by decide, by decide⟩ (by decide) (by decide) (by decide) (by decide) (by decide)⟩⟩)
  cases hq'
  refine mj_T.if0 (a := 1) rfl ⟨by decide, by decide⟩ (fun hc => ?_) (fun hc => ?_)
  rotate_left
  · simp [jc] at hc
  obtain ⟨x, rfl⟩ := Int.eq_ofNat_of_zero_le x1
  obtain ⟨y, rfl⟩ := Int.eq_ofNat_of_zero_le y3
  obtain ⟨z, rfl⟩ := Int.eq_ofNat_of_zero_le z5
  iterate 3 refine mj_T.pl rfl rfl rfl rfl ?_
  refine mj_T.call (ins := .invokevirtual 213) rfl rfl (Nat.le_of_ble_eq_true rfl) (Nat.le_of_ble_eq_true rfl) (by simp [mj_recv, rS_f hs4]) rfl (mj_Ok.up (by decide) (rp_loads (D := 0) (p := 0) (r := y) (by decide) (by omega) K4.nR hs4)) (fun v' g6 hq' => ?_) (fun i h' hq' => by obtain ⟨_, _, h⟩ := hq'; cases h)
  obtain ⟨_, hs6, hq'⟩ := hq'
  cases hq'
  have a6 : ∀ e, e < 13 → jfl V 0 (fun e => N (y * 13 + e)) 13 (0 * 13 + e) = N (y * 13 + e) := fun e he => jfl_at _ _ _ he
  have b6 : ∀ s, (s < 0 * 13 ∨ 0 * 13 + 13 ≤ s) → jfl V 0 (fun e => N (y * 13 + e)) 13 s = V s := fun s hc => jfl_off _ _ _ hc
  generalize jfl V 0 (fun e => N (y * 13 + e)) 13 = W6 at hs6 a6 b6
  iterate 3 refine mj_T.pl rfl rfl rfl rfl ?_
  refine mj_T.call (ins := .invokevirtual 213) rfl rfl (Nat.le_of_ble_eq_true rfl) (Nat.le_of_ble_eq_true rfl) (by simp [mj_recv, rS_f hs6]) rfl (mj_Ok.up (by decide) (rp_loads (D := 0) (p := 1) (r := z) (by decide) (by omega) K4.nR hs6)) (fun v' g7 hq' => ?_) (fun i h' hq' => by obtain ⟨_, _, h⟩ := hq'; cases h)
  obtain ⟨_, hs7, hq'⟩ := hq'
  cases hq'
  have a7 : ∀ e, e < 13 → jfl W6 1 (fun e => N (z * 13 + e)) 13 (1 * 13 + e) = N (z * 13 + e) := fun e he => jfl_at _ _ _ he
  have b7 : ∀ s, (s < 1 * 13 ∨ 1 * 13 + 13 ≤ s) → jfl W6 1 (fun e => N (z * 13 + e)) 13 s = W6 s := fun s hc => jfl_off _ _ _ hc
  generalize jfl W6 1 (fun e => N (z * 13 + e)) 13 = W7 at hs7 a7 b7
  have eA : jpo W7 0 = rwN N0 (y : Int) := funext fun e => by
    unfold jpo
    by_cases q : e < 13
    · rw [if_pos q, b7 _ (by omega), a6 e q]
      exact rwN_at K4.2.1 (by omega) q
    · rw [if_neg q]
      show 0 = if e < 13 then _ else 0
      rw [if_neg q]
  have eB : jpo W7 1 = rwN N0 (z : Int) := funext fun e => by
    unfold jpo
    by_cases q : e < 13
    · rw [if_pos q, a7 e q]
      exact rwN_at K4.2.1 (by omega) q
    · rw [if_neg q]
      show 0 = if e < 13 then _ else 0
      rw [if_neg q]
  have c1 : ∀ e, e < 13 → (W7 (0 * 13 + e)).natAbs ≤ 10 ^ 18 := fun e he => by
    rw [b7 _ (by omega), a6 e he]
    exact K4.sh (r := y) (by omega) he
  have c2 : ∀ e, e < 13 → (W7 (1 * 13 + e)).natAbs ≤ 10 ^ 18 := fun e he => by
    rw [a7 e he]
    exact K4.sh (r := z) (by omega) he
  have hl0 := jdg_le W7 0 13
  have hl1 := jdg_le W7 1 13
  have t62 : (jdg W7 0 13 - 1) * (jdg W7 1 13 - 1) ≤ 12 → mj_T 39 mj_m236 62 [some (.ref 0), some (.int (jn (x : Int))), some (.int (jn (y : Int))), some (.int (jn (z : Int))), none] [] g7 (RP tm er T N0 u0 H ((0 ≤ (x : Int) ∧ (x : Int) ≤ 5) ∧ (0 ≤ (y : Int) ∧ (y : Int) ≤ 5) ∧ (0 ≤ (z : Int) ∧ (z : Int) ≤ 5)) (hw (rwN N0 (y : Int)) (rwN N0 (z : Int)) 13) (x : Int)) := fun hd => by
    iterate 2 refine mj_T.pl rfl rfl rfl rfl ?_
    refine mj_T.call (ins := .invokevirtual 110) rfl rfl (Nat.le_of_ble_eq_true rfl) (Nat.le_of_ble_eq_true rfl) (by simp [mj_recv, rS_f hs7]) rfl (mj_Ok.up (by decide) (jp_empties (D := 0) (rG S4 N B T X) (p := 2) (by decide) hs7)) (fun v' g8 hq' => ?_) (fun i h' hq' => by obtain ⟨_, _, h⟩ := hq'; cases h)
    obtain ⟨_, hs8, hq'⟩ := hq'
    cases hq'
    have q1 : ∀ e, e < 13 → jfl W7 2 (fun _ => 0) 13 (2 * 13 + e) = 0 := fun e he => jfl_at _ _ _ he
    have q2 : ∀ s, (s < 26 ∨ 39 ≤ s) → jfl W7 2 (fun _ => 0) 13 s = W7 s := fun s hc => jfl_off _ _ _ (by omega)
    generalize jfl W7 2 (fun _ => 0) 13 = W8 at hs8 q1 q2
    have e0 : jdg W8 0 13 = jdg W7 0 13 := jdg_congr 13 fun e he => q2 _ (by omega)
    iterate 2 refine mj_T.pl rfl rfl rfl rfl ?_
    refine mj_T.call (ins := .invokevirtual 114) rfl rfl (Nat.le_of_ble_eq_true rfl) (Nat.le_of_ble_eq_true rfl) (by simp [mj_recv, rS_f hs8]) rfl (mj_Ok.up (by decide) (jp_degreeOf (D := 0) (rG S4 N B T X) (p := 0) (by decide) hs8)) (fun v' h' hq' => ?_) (fun i h' hq' => by cases hq')
    cases hq'
    rw [e0]
    refine mj_T.pl rfl rfl rfl rfl ?_
    exact rx_sb_loop (V0 := W7) ⟨⟨by omega, by omega⟩, ⟨by omega, by omega⟩, ⟨by omega, by omega⟩⟩ (by rw [eA, eB]) (by omega) K4 c1 c2 hd (jdg W7 0 13) 0 _ _ (by omega) hs8 (fun j hj => q2 _ (by omega)) (fun e he => by rw [q1 e he]; exact Nat.zero_le _) (Or.inl ⟨rfl, by have := jdg_of_zero (W := W8) (p := 2) (d := 0) (k := 13) (fun e _ he => q1 e he); omega⟩) (fun e he => by rw [q1 e he]; exact (hw_low (d := jdg W7 0 13) (fun i hi => jpo_zb hi) _ (by omega) e).symm)
  iterate 2 refine mj_T.pl rfl rfl rfl rfl ?_
  refine mj_T.call (ins := .invokevirtual 114) rfl rfl (Nat.le_of_ble_eq_true rfl) (Nat.le_of_ble_eq_true rfl) (by simp [mj_recv, rS_f hs7]) rfl (mj_Ok.up (by decide) (jp_degreeOf (D := 0) (rG S4 N B T X) (p := 1) (by decide) hs7)) (fun v' h' hq' => ?_) (fun i h' hq' => by cases hq')
  cases hq'
  refine mj_T.if0 (a := (jdg W7 1 13 : Int) - 1) rfl ⟨by omega, by omega⟩ (fun hc => ?_) (fun hc => ?_)
  · simp only [jc, decide_eq_true_eq] at hc
    exact t62 (by rw [show jdg W7 1 13 - 1 = 0 by omega, Nat.mul_zero]; exact Nat.zero_le _)
  simp only [jc, decide_eq_false_iff_not] at hc
  iterate 2 refine mj_T.pl rfl rfl rfl rfl ?_
  refine mj_T.call (ins := .invokevirtual 114) rfl rfl (Nat.le_of_ble_eq_true rfl) (Nat.le_of_ble_eq_true rfl) (by simp [mj_recv, rS_f hs7]) rfl (mj_Ok.up (by decide) (jp_degreeOf (D := 0) (rG S4 N B T X) (p := 0) (by decide) hs7)) (fun v' h' hq' => ?_) (fun i h' hq' => by cases hq')
  cases hq'
  iterate 2 refine mj_T.pl rfl rfl rfl rfl ?_
  refine mj_T.call (ins := .invokevirtual 114) rfl rfl (Nat.le_of_ble_eq_true rfl) (Nat.le_of_ble_eq_true rfl) (by simp [mj_recv, rS_f hs7]) rfl (mj_Ok.up (by decide) (jp_degreeOf (D := 0) (rG S4 N B T X) (p := 1) (by decide) hs7)) (fun v' h' hq' => ?_) (fun i h' hq' => by cases hq')
  cases hq'
  refine mj_T.imul rfl ?_
  have e2 : (jdg W7 0 13 - 1) * (jdg W7 1 13 - 1) ≤ 12 * 12 := Nat.mul_le_mul (by omega) (by omega)
  have e3 : ((jdg W7 0 13 : Nat) : Int) - 1 = ((jdg W7 0 13 - 1 : Nat) : Int) ∨ jdg W7 0 13 = 0 := by omega
  have e4 : ((jdg W7 1 13 : Nat) : Int) - 1 = ((jdg W7 1 13 - 1 : Nat) : Int) := by omega
  have e5 : -12 ≤ (((jdg W7 0 13 : Nat) : Int) - 1) * (((jdg W7 1 13 : Nat) : Int) - 1) ∧ (((jdg W7 0 13 : Nat) : Int) - 1) * (((jdg W7 1 13 : Nat) : Int) - 1) ≤ 144 ∧ ((((jdg W7 0 13 : Nat) : Int) - 1) * (((jdg W7 1 13 : Nat) : Int) - 1) ≤ 12 → (jdg W7 0 13 - 1) * (jdg W7 1 13 - 1) ≤ 12) ∧ (12 < (((jdg W7 0 13 : Nat) : Int) - 1) * (((jdg W7 1 13 : Nat) : Int) - 1) → 12 < (jdg W7 0 13 - 1) * (jdg W7 1 13 - 1)) := by
    rcases e3 with e3 | e3
    · rw [e3, e4, ← Int.natCast_mul]
      omega
    · rw [e3]
      omega
  refine mj_T.pl rfl rfl rfl rfl ?_
  refine mj_T.icmp (a := (((jdg W7 0 13 : Nat) : Int) - 1) * (((jdg W7 1 13 : Nat) : Int) - 1)) (b := 12) rfl ⟨by omega, by omega⟩ ⟨by decide, by decide⟩ (fun hc2 => ?_) (fun hc2 => ?_)
  · simp only [jc, decide_eq_true_eq] at hc2
    exact t62 (e5.2.2.1 hc2)
  iterate 2 refine mj_T.pl rfl rfl rfl rfl ?_
  refine mj_T.call (ins := .invokevirtual 198) rfl rfl (Nat.le_of_ble_eq_true rfl) (Nat.le_of_ble_eq_true rfl) (by simp [mj_recv, rS_f hs7]) rfl (mj_Ok.up (by decide) (rp_fails (D := 0) (c := 2) hs7)) (fun v' g9 hq' => ?_) (fun i h' hq' => by obtain ⟨_, _, h⟩ := hq'; cases h)
  obtain ⟨_, hs9, hq'⟩ := hq'
  cases hq'
  have hbad := hw_nofit (V := W7) (e5.2.2.2 (by simp only [jc, decide_eq_false_iff_not] at hc2; omega))
  rw [eA, eB] at hbad
  exact mj_T.ret rfl rfl rfl (Or.inl ⟨⟨⟨by omega, by omega⟩, ⟨by omega, by omega⟩, ⟨by omega, by omega⟩⟩, Or.inr ⟨hbad, 0, g9, ⟨by decide, by decide⟩, rfl, ⟨_, N, B, X, W7, hs9, K4.put ⟨by decide, by decide⟩ (by decide) (by decide) (by decide) (by decide) (by decide)⟩⟩⟩)
end RSU
