/-! Calls of the reference: points, degrees, terms, coefficients, contents, values, divisibility. -/
theorem rp_fitv : 13 * (10 ^ 18 * 1000 ^ 12) < jB ^ 698 := by decide +kernel
theorem rp_fitv2 : 1000 ^ 12 < jB ^ 698 := by decide +kernel
theorem gN_point {N : Nat → Int} {n : Nat} {x y : Int} (g : gN N) (hn : N 78 = (n : Int)) (h6 : n < 6) (hx : -9 ≤ x ∧ x ≤ 9) (hy : -999 ≤ y ∧ y ≤ 999) (hne : ∀ k, k < n → N (79 + k) ≠ x) : gN (jvu (jvu (jvu N (79 + n) x) (85 + n) y) 78 ((n + 1 : Nat) : Int)) := by
  obtain ⟨g1, g2, g3, g4⟩ := g
  have e : ∀ j, j ≠ 79 + n → j ≠ 85 + n → j ≠ 78 → jvu (jvu (jvu N (79 + n) x) (85 + n) y) 78 ((n + 1 : Nat) : Int) j = N j := fun j h1 h2 h3 => by rw [jvu_ne _ _ _ h3, jvu_ne _ _ _ h2, jvu_ne _ _ _ h1]
  have e1 : jvu (jvu (jvu N (79 + n) x) (85 + n) y) 78 ((n + 1 : Nat) : Int) (79 + n) = x := by rw [jvu_ne _ _ _ (by omega), jvu_ne _ _ _ (by omega), jvu_at]
  have e2 : jvu (jvu (jvu N (79 + n) x) (85 + n) y) 78 ((n + 1 : Nat) : Int) (85 + n) = y := by rw [jvu_ne _ _ _ (by omega), jvu_at]
  have e3 : jvu (jvu (jvu N (79 + n) x) (85 + n) y) 78 ((n + 1 : Nat) : Int) 78 = ((n + 1 : Nat) : Int) := jvu_at _ _ _
  refine ⟨fun j hj => by rw [e j (by omega) (by omega) (by omega)]; exact g1 j hj, by rw [e3]; omega, fun k hk => ⟨?_, ?_⟩, fun i j hij hj => ?_⟩
  · by_cases q : k = n
    · subst q
      rw [e1]
      exact hx
    · rw [e _ (by omega) (by omega) (by omega)]
      exact (g3 k hk).1
  · by_cases q : k = n
    · subst q
      rw [e2]
      exact hy
    · rw [e _ (by omega) (by omega) (by omega)]
      exact (g3 k hk).2
  · rw [e3] at hj
    rw [e _ (by omega) (by omega) (by omega)]
    by_cases q : j = n
    · subst q
      rw [e1]
      exact hne i hij
    · rw [e _ (by omega) (by omega) (by omega)]
      exact g4 i j hij (by omega)
/-- how many coefficients are not 0 -/
def rtm (N : Nat → Int) (r : Nat) : Nat → Nat
  | 0 => 0
  | k + 1 => if N (r * 13 + k) = 0 then rtm N r k else rtm N r k + 1
theorem rtm_le (N : Nat → Int) (r : Nat) : ∀ k, rtm N r k ≤ k
  | 0 => Nat.le_refl _
  | k + 1 => by have := rtm_le N r k; unfold rtm; split <;> omega
section RPU
variable {h : mj_H} {tm er : Int} {T : Nat → Int}
theorem rp_pt_loop {S N B X V : Nat → Int} {x y : Int} (hx : -9 ≤ x ∧ x ≤ 9) (hy : -999 ≤ y ∧ y ≤ 999) {n : Nat} (hn : N 78 = (n : Int)) (hn6 : n ≤ 6) (hs : rS S N B T X V h) (K : jK tm er S N B T) :
    ∀ (m k : Nat) (b : Int), k + m = n → (b = 0 ∨ b = 1) → (b = 0 → n ≠ 6 ∧ ∀ j, j < k → N (79 + j) ≠ x) → mj_T 39 mj_m246 62 [some (.ref 0), some (.int (jn x)), some (.int (jn y)), some (.int (jn b)), some (.int (jn (k : Int)))] [] h (rI tm er T) := by
  intro m
  induction m with
  | zero =>
    intro k b hk hb hinv
    have hk : k = n := by omega
    subst hk
    refine mj_T.pl rfl rfl rfl rfl ?_
    refine mj_T.i2l rfl ⟨by omega, by omega⟩ ?_
    refine mj_T.pl rfl rfl rfl rfl ?_
    refine rT_get hs rfl rfl ?_
    refine mj_T.pl rfl rfl rfl rfl ?_
    refine rT_ldN (i := ((78 : Nat) : Int)) hs rfl ⟨by decide, by decide⟩ ?_
    rw [Int.toNat_natCast, hn]
    refine mj_T.lif (a := (k : Int)) (b := (k : Int)) rfl rfl ⟨by omega, by omega⟩ ⟨by omega, by omega⟩ (fun hc => ?_) (fun hc => ?_)
    · refine mj_T.pl rfl rfl rfl rfl ?_
      refine mj_T.if0 (a := b) rfl ⟨by omega, by omega⟩ (fun hc2 => ?_) (fun hc2 => ?_)
      · simp only [jc, decide_eq_true_eq] at hc2
        obtain ⟨i1, i2⟩ := hinv hc2
        refine mj_T.pl rfl rfl rfl rfl ?_
        refine mj_T.call (ins := .invokevirtual 201) rfl rfl (Nat.le_of_ble_eq_true rfl) (Nat.le_of_ble_eq_true rfl) (by simp [mj_recv, rS_f hs]) rfl (mj_Ok.up (by decide) (rp_keeps (D := 0) K hs)) (fun v' g1 hq' => ?_) (fun i h' hq' => by obtain ⟨_, _, _, _, _, _, h⟩ := hq'; cases h)
        obtain ⟨S1, B1, _, hs1, K1, _, hq'⟩ := hq'
        cases hq'
        refine mj_T.pl rfl rfl rfl rfl ?_
        refine rT_get hs1 rfl rfl ?_
        iterate 2 refine mj_T.pl rfl rfl rfl rfl ?_
        refine rT_get hs1 rfl rfl ?_
        refine mj_T.pl rfl rfl rfl rfl ?_
        refine rT_ldN (i := ((78 : Nat) : Int)) hs1 rfl ⟨by decide, by decide⟩ ?_
        rw [Int.toNat_natCast, hn]
        refine mj_T.l2i rfl ?_
        refine mj_T.iadd (a := 79) (b := (k : Int)) rfl ?_
        rw [show (79 : Int) + (k : Int) = ((79 + k : Nat) : Int) by omega]
        refine mj_T.pl rfl rfl rfl rfl ?_
        refine mj_T.i2l rfl ⟨by omega, by omega⟩ ?_
        refine rT_stN (z := x) hs1 rfl ⟨by omega, by omega⟩ (fun g2 hs2 => ?_)
        rw [Int.toNat_natCast] at hs2
        refine mj_T.pl rfl rfl rfl rfl ?_
        refine rT_get hs2 rfl rfl ?_
        iterate 2 refine mj_T.pl rfl rfl rfl rfl ?_
        refine rT_get hs2 rfl rfl ?_
        refine mj_T.pl rfl rfl rfl rfl ?_
        refine rT_ldN (i := ((78 : Nat) : Int)) hs2 rfl ⟨by decide, by decide⟩ ?_
        rw [Int.toNat_natCast, jvu_ne _ _ _ (by omega), hn]
        refine mj_T.l2i rfl ?_
        refine mj_T.iadd (a := 85) (b := (k : Int)) rfl ?_
        rw [show (85 : Int) + (k : Int) = ((85 + k : Nat) : Int) by omega]
        refine mj_T.pl rfl rfl rfl rfl ?_
        refine mj_T.i2l rfl ⟨by omega, by omega⟩ ?_
        refine rT_stN (z := y) hs2 rfl ⟨by omega, by omega⟩ (fun g3 hs3 => ?_)
        rw [Int.toNat_natCast] at hs3
        refine mj_T.pl rfl rfl rfl rfl ?_
        refine rT_get hs3 rfl rfl ?_
        iterate 2 refine mj_T.pl rfl rfl rfl rfl ?_
        refine rT_ldN (i := ((78 : Nat) : Int)) hs3 rfl ⟨by decide, by decide⟩ ?_
        rw [Int.toNat_natCast, jvu_ne _ _ _ (by omega), jvu_ne _ _ _ (by omega), hn]
        refine mj_T.pl rfl rfl rfl rfl ?_
        refine mj_T.ladd (a := (k : Int)) (b := 1) rfl ?_
        rw [show (k : Int) + 1 = ((k + 1 : Nat) : Int) by omega]
        refine rT_stN (i := ((78 : Nat) : Int)) (z := ((k + 1 : Nat) : Int)) hs3 rfl ⟨by decide, by decide⟩ (fun g4 hs4 => ?_)
        rw [Int.toNat_natCast] at hs4
        have K4 := K1.row (gN_point (n := k) K.1 hn (by omega) hx hy i2)
        refine mj_T.pl rfl rfl rfl rfl ?_
        refine rT_get hs4 rfl rfl ?_
        refine mj_T.pl rfl rfl rfl rfl ?_
        refine rT_ldN (i := ((78 : Nat) : Int)) hs4 rfl ⟨by decide, by decide⟩ ?_
        rw [Int.toNat_natCast, jvu_at]
        refine mj_T.l2i rfl ?_
        exact mj_T.ret rfl rfl rfl ⟨_, g4, ⟨by omega, by omega⟩, rfl, ⟨S1, _, B1, X, V, hs4, K4⟩⟩
      · skip
        iterate 2 refine mj_T.pl rfl rfl rfl rfl ?_
        refine mj_T.call (ins := .invokevirtual 198) rfl rfl (Nat.le_of_ble_eq_true rfl) (Nat.le_of_ble_eq_true rfl) (by simp [mj_recv, rS_f hs]) rfl (mj_Ok.up (by decide) (rp_fails (D := 0) (c := 2) hs)) (fun v' g5 hq' => ?_) (fun i h' hq' => by obtain ⟨_, _, h⟩ := hq'; cases h)
        obtain ⟨_, hs5, hq'⟩ := hq'
        cases hq'
        exact mj_T.ret rfl rfl rfl ⟨0, g5, ⟨by decide, by decide⟩, rfl, ⟨_, N, B, X, V, hs5, K.put ⟨by decide, by decide⟩ (by decide) (by decide) (by decide) (by decide) (by decide)⟩⟩
    · simp only [jc, decide_eq_false_iff_not] at hc
      omega
  | succ m ih =>
    intro k b hk hb hinv
    refine mj_T.pl rfl rfl rfl rfl ?_
    refine mj_T.i2l rfl ⟨by omega, by omega⟩ ?_
    refine mj_T.pl rfl rfl rfl rfl ?_
    refine rT_get hs rfl rfl ?_
    refine mj_T.pl rfl rfl rfl rfl ?_
    refine rT_ldN (i := ((78 : Nat) : Int)) hs rfl ⟨by decide, by decide⟩ ?_
    rw [Int.toNat_natCast, hn]
    refine mj_T.lif (a := (k : Int)) (b := (n : Int)) rfl rfl ⟨by omega, by omega⟩ ⟨by omega, by omega⟩ (fun hc => ?_) (fun hc => ?_)
    · simp only [jc, decide_eq_true_eq] at hc
      omega
    have t101 : ∀ b2 : Int, (b2 = 0 ∨ b2 = 1) → (b2 = 0 → n ≠ 6 ∧ ∀ j, j < k + 1 → N (79 + j) ≠ x) → mj_T 39 mj_m246 101 [some (.ref 0), some (.int (jn x)), some (.int (jn y)), some (.int (jn b)), some (.int (jn (k : Int)))] [.int (jn b2)] h (rI tm er T) := fun b2 hb2 hinv2 => by
      refine mj_T.pl rfl rfl rfl rfl ?_
      refine mj_T.iinc (a := (k : Int)) rfl rfl ?_
      refine mj_T.pl rfl rfl rfl rfl ?_
      exact ih (k + 1) b2 (by omega) hb2 hinv2
    refine mj_T.pl rfl rfl rfl rfl ?_
    refine mj_T.if0 (a := b) rfl ⟨by omega, by omega⟩ (fun hc2 => ?_) (fun hc2 => ?_)
    · iterate 2 refine mj_T.pl rfl rfl rfl rfl ?_
      exact t101 1 (Or.inr rfl) (fun e => absurd e (by decide))
    simp only [jc, Bool.not_eq_false', decide_eq_true_eq] at hc2
    obtain ⟨i1, i2⟩ := hinv hc2
    refine mj_T.pl rfl rfl rfl rfl ?_
    refine rT_get hs rfl rfl ?_
    iterate 2 refine mj_T.pl rfl rfl rfl rfl ?_
    refine mj_T.iadd (a := 79) (b := (k : Int)) rfl ?_
    rw [show (79 : Int) + (k : Int) = ((79 + k : Nat) : Int) by omega]
    refine rT_ldN hs rfl ⟨by omega, by omega⟩ ?_
    rw [Int.toNat_natCast]
    refine mj_T.pl rfl rfl rfl rfl ?_
    refine mj_T.i2l rfl ⟨by omega, by omega⟩ ?_
    have hp := (K.1.2.2.1 k (by omega)).1
    refine mj_T.lif (a := N (79 + k)) (b := x) rfl rfl ⟨by omega, by omega⟩ ⟨by omega, by omega⟩ (fun hc3 => ?_) (fun hc3 => ?_)
    · simp only [jc, Bool.not_eq_true', decide_eq_false_iff_not] at hc3
      refine mj_T.pl rfl rfl rfl rfl ?_
      refine t101 0 (Or.inl rfl) (fun _ => ⟨i1, fun j hj => ?_⟩)
      by_cases q : j = k
      · rw [q]
        exact hc3
      · exact i2 j (by omega)
    · iterate 2 refine mj_T.pl rfl rfl rfl rfl ?_
      exact t101 1 (Or.inr rfl) (fun e => absurd e (by decide))
theorem rp_addPoint {x y : Int} (hx : jr x) (hy : jr y) (hI : jI tm er T h) : mj_Ok 40 246 [.ref 0, .int (jn x), .int (jn y)] h (rI tm er T) := by
  refine mj_Ok.of (M := mj_m246) rfl rfl rfl ?_
  obtain ⟨S, N, B, X, V, hs, K⟩ := hI
  iterate 2 refine mj_T.pl rfl rfl rfl rfl ?_
  refine rT_put (v := 0) hs rfl rfl (by decide) rfl (fun g6 hs6 => ?_)
  have K6 := K.put (k := 3) (v := 0) ⟨by decide, by decide⟩ (by decide) (by decide) (by decide) (by decide) (by decide)
  generalize jvu S 3 0 = S6 at hs6 K6
  have t33 : mj_T 39 mj_m246 33 [some (.ref 0), some (.int (jn x)), some (.int (jn y)), none, none] [] g6 (rI tm er T) := by
    iterate 2 refine mj_T.pl rfl rfl rfl rfl ?_
    refine mj_T.call (ins := .invokevirtual 198) rfl rfl (Nat.le_of_ble_eq_true rfl) (Nat.le_of_ble_eq_true rfl) (by simp [mj_recv, rS_f hs6]) rfl (mj_Ok.up (by decide) (rp_fails (D := 0) (c := 1) hs6)) (fun v' g7 hq' => ?_) (fun i h' hq' => by obtain ⟨_, _, h⟩ := hq'; cases h)
    obtain ⟨_, hs7, hq'⟩ := hq'
    cases hq'
    exact mj_T.ret rfl rfl rfl ⟨0, g7, ⟨by decide, by decide⟩, rfl, ⟨_, N, B, X, V, hs7, K6.put ⟨by decide, by decide⟩ (by decide) (by decide) (by decide) (by decide) (by decide)⟩⟩
  refine mj_T.pl rfl rfl rfl rfl ?_
  refine mj_T.i2l rfl hx ?_
  iterate 2 refine mj_T.pl rfl rfl rfl rfl ?_
  refine mj_T.call (ins := .invokestatic 177) rfl rfl (Nat.le_of_ble_eq_true rfl) (Nat.le_of_ble_eq_true rfl) rfl rfl (mj_Ok.up (by decide) (rp_in (D := 0) (v := x) (lo := -9) (hi := 9) ⟨by have := hx.1; omega, by have := hx.2; omega⟩ ⟨by decide, by decide⟩ ⟨by decide, by decide⟩)) (fun v' h' hq' => ?_) (fun i h' hq' => by rcases hq' with ⟨_, _, h⟩ | ⟨_, h⟩ <;> cases h)
  rcases hq' with ⟨xa, xb, hq'⟩ | ⟨_, hq'⟩
  case' inr =>
    cases hq'
    refine mj_T.if0 (a := 0) rfl ⟨by decide, by decide⟩ (fun hc => ?_) (fun hc => ?_)
    · exact t33
    · simp [jc] at hc
  cases hq'
  refine mj_T.if0 (a := 1) rfl ⟨by decide, by decide⟩ (fun hc => ?_) (fun hc => ?_)
  · simp [jc] at hc
  refine mj_T.pl rfl rfl rfl rfl ?_
  refine mj_T.i2l rfl hy ?_
  iterate 2 refine mj_T.pl rfl rfl rfl rfl ?_
  refine mj_T.call (ins := .invokestatic 177) rfl rfl (Nat.le_of_ble_eq_true rfl) (Nat.le_of_ble_eq_true rfl) rfl rfl (mj_Ok.up (by decide) (rp_in (D := 0) (v := y) (lo := -999) (hi := 999) ⟨by have := hy.1; omega, by have := hy.2; omega⟩ ⟨by decide, by decide⟩ ⟨by decide, by decide⟩)) (fun v' h' hq' => ?_) (fun i h' hq' => by rcases hq' with ⟨_, _, h⟩ | ⟨_, h⟩ <;> cases h)
  rcases hq' with ⟨ya, yb, hq'⟩ | ⟨_, hq'⟩
  case' inr =>
    cases hq'
    refine mj_T.if0 (a := 0) rfl ⟨by decide, by decide⟩ (fun hc => ?_) (fun hc => ?_)
    · simp [jc] at hc
    · exact t33
  cases hq'
  refine mj_T.if0 (a := 1) rfl ⟨by decide, by decide⟩ (fun hc => ?_) (fun hc => ?_)
  rotate_left
  · simp [jc] at hc
  clear t33
  obtain ⟨n, hn⟩ := Int.eq_ofNat_of_zero_le K6.1.2.1.1
  have hn6 := K6.1.2.1.2
  refine mj_T.pl rfl rfl rfl rfl ?_
  refine rT_get hs6 rfl rfl ?_
  refine mj_T.pl rfl rfl rfl rfl ?_
  refine rT_ldN (i := ((78 : Nat) : Int)) hs6 rfl ⟨by decide, by decide⟩ ?_
  rw [Int.toNat_natCast]
  refine mj_T.pl rfl rfl rfl rfl ?_
  refine mj_T.lif (a := N 78) (b := 6) rfl rfl ⟨by omega, by omega⟩ ⟨by decide, by decide⟩ (fun hc => ?_) (fun hc => ?_)
  · simp only [jc, Bool.not_eq_true', decide_eq_false_iff_not] at hc
    iterate 4 refine mj_T.pl rfl rfl rfl rfl ?_
    exact rp_pt_loop ⟨xa, xb⟩ ⟨ya, yb⟩ hn (by omega) hs6 K6 n 0 0 (by omega) (Or.inl rfl) (fun _ => ⟨by omega, fun j hj => absurd hj (by omega)⟩)
  · iterate 5 refine mj_T.pl rfl rfl rfl rfl ?_
    exact rp_pt_loop ⟨xa, xb⟩ ⟨ya, yb⟩ hn (by omega) hs6 K6 n 0 1 (by omega) (Or.inr rfl) (fun e => absurd e (by decide))
theorem rp_tm_loop {S N B X V : Nat → Int} {D r : Nat} (hr : r ≤ 5) (hN : ∀ j, j < 78 → jR (N j)) (hs : rS S N B T X V h) {Q : mj_R → Prop} (hend : Q (.inl (some (.int (jn (rtm N r 13 : Nat)))), h)) :
    ∀ (m k : Nat), k + m = 13 → mj_T D mj_m254 4 [some (.ref 0), some (.int (jn (r : Nat))), some (.int (jn (rtm N r k : Nat))), some (.int (jn (k : Nat)))] [] h Q := by
  intro m
  induction m with
  | zero =>
    intro k hk
    have hk : k = 13 := by omega
    subst hk
    iterate 2 refine mj_T.pl rfl rfl rfl rfl ?_
    refine mj_T.icmp (a := ((13 : Nat) : Int)) (b := 13) rfl ⟨by decide, by decide⟩ ⟨by decide, by decide⟩ (fun hc => ?_) (fun hc => ?_)
    · refine mj_T.pl rfl rfl rfl rfl ?_
      exact mj_T.ret rfl rfl rfl hend
    · simp [jc] at hc
  | succ m ih =>
    intro k hk
    iterate 2 refine mj_T.pl rfl rfl rfl rfl ?_
    refine mj_T.icmp (a := (k : Int)) (b := 13) rfl ⟨by omega, by omega⟩ ⟨by decide, by decide⟩ (fun hc => ?_) (fun hc => ?_)
    · simp only [jc, decide_eq_true_eq] at hc
      omega
    refine mj_T.pl rfl rfl rfl rfl ?_
    refine mj_T.pl rfl rfl rfl rfl ?_
    refine rT_get hs rfl rfl ?_
    iterate 2 refine mj_T.pl rfl rfl rfl rfl ?_
    refine mj_T.imul (a := (r : Int)) (b := 13) rfl ?_
    refine mj_T.pl rfl rfl rfl rfl ?_
    refine mj_T.iadd rfl ?_
    rw [show (r : Int) * 13 + (k : Int) = ((r * 13 + k : Nat) : Int) by omega]
    refine rT_ldN hs rfl ⟨by omega, by omega⟩ ?_
    rw [Int.toNat_natCast]
    refine mj_T.pl rfl rfl rfl rfl ?_
    refine mj_T.lif (a := N (r * 13 + k)) (b := 0) rfl rfl (hN _ (by omega)) ⟨by decide, by decide⟩ (fun hc2 => ?_) (fun hc2 => ?_)
    · simp only [jc, decide_eq_true_eq] at hc2
      refine mj_T.pl rfl rfl rfl rfl ?_
      refine mj_T.iadd (a := ((rtm N r k : Nat) : Int)) (b := 0) rfl ?_
      refine mj_T.pl rfl rfl rfl rfl ?_
      refine mj_T.iinc (a := (k : Int)) rfl rfl ?_
      refine mj_T.pl rfl rfl rfl rfl ?_
      have e : ((rtm N r k : Nat) : Int) + 0 = ((rtm N r (k + 1) : Nat) : Int) := by
        rw [show rtm N r (k + 1) = rtm N r k from if_pos hc2]
        omega
      rw [e]
      exact ih (k + 1) (by omega)
    · simp only [jc, decide_eq_false_iff_not] at hc2
      iterate 2 refine mj_T.pl rfl rfl rfl rfl ?_
      refine mj_T.iadd (a := ((rtm N r k : Nat) : Int)) (b := 1) rfl ?_
      refine mj_T.pl rfl rfl rfl rfl ?_
      refine mj_T.iinc (a := (k : Int)) rfl rfl ?_
      refine mj_T.pl rfl rfl rfl rfl ?_
      have e : ((rtm N r k : Nat) : Int) + 1 = ((rtm N r (k + 1) : Nat) : Int) := by
        rw [show rtm N r (k + 1) = rtm N r k + 1 from if_neg hc2]
        omega
      rw [e]
      exact ih (k + 1) (by omega)
theorem rp_termsOf {S N B X V : Nat → Int} {D r : Nat} (hr : r ≤ 5) (hN : ∀ j, j < 78 → jR (N j)) (hs : rS S N B T X V h) : mj_Ok (D + 1) 254 [.ref 0, .int (jn (r : Nat))] h (fun z => z = (.inl (some (.int (jn (rtm N r 13 : Nat)))), h)) := by
  refine mj_Ok.of (M := mj_m254) rfl rfl rfl ?_
  iterate 4 refine mj_T.pl rfl rfl rfl rfl ?_
  exact rp_tm_loop (D := D) hr hN hs (Q := fun z => z = (.inl (some (.int (jn (rtm N r 13 : Nat)))), h)) rfl 13 0 (by omega)
theorem rp_degree {x : Int} (hx : jr x) (hI : jI tm er T h) : mj_Ok 40 253 [.ref 0, .int (jn x)] h (rI tm er T) := by
  refine mj_Ok.of (M := mj_m253) rfl rfl rfl ?_
  obtain ⟨S, N, B, X, V, hs, K⟩ := hI
  iterate 2 refine mj_T.pl rfl rfl rfl rfl ?_
  refine rT_put (v := 0) hs rfl rfl (by decide) rfl (fun g8 hs8 => ?_)
  have K8 := K.put (k := 3) (v := 0) ⟨by decide, by decide⟩ (by decide) (by decide) (by decide) (by decide) (by decide)
  generalize jvu S 3 0 = S8 at hs8 K8
  refine mj_T.pl rfl rfl rfl rfl ?_
  refine mj_T.call (ins := .invokestatic 181) rfl rfl (Nat.le_of_ble_eq_true rfl) (Nat.le_of_ble_eq_true rfl) rfl rfl (mj_Ok.up (by decide) (rp_isRegister (D := 0) hx)) (fun v' h' hq' => ?_) (fun i h' hq' => by rcases hq' with ⟨_, _, h⟩ | ⟨_, h⟩ <;> cases h)
  rcases hq' with ⟨x1, x2, hq'⟩ | ⟨_, hq'⟩
  case' inr =>
    cases hq'
    refine mj_T.if0 (a := 0) rfl ⟨by decide, by decide⟩ (fun hc => ?_) (fun hc => ?_)
    rotate_left
    · simp [jc] at hc
    iterate 2 refine mj_T.pl rfl rfl rfl rfl ?_
    refine mj_T.call (ins := .invokevirtual 198) rfl rfl (Nat.le_of_ble_eq_true rfl) (Nat.le_of_ble_eq_true rfl) (by simp [mj_recv, rS_f hs8]) rfl (mj_Ok.up (by decide) (rp_fails (D := 0) (c := 1) hs8)) (fun v' g9 hq' => ?_) (fun i h' hq' => by obtain ⟨_, _, h⟩ := hq'; cases h)
    obtain ⟨_, hs9, hq'⟩ := hq'
    cases hq'
    exact mj_T.ret rfl rfl rfl ⟨0, g9, ⟨by decide, by decide⟩, rfl, ⟨_, N, B, X, V, hs9, K8.put ⟨by decide, by decide⟩ (by decide) (by decide) (by decide) (by decide) (by decide)⟩⟩
  cases hq'
  refine mj_T.if0 (a := 1) rfl ⟨by decide, by decide⟩ (fun hc => ?_) (fun hc => ?_)
  · simp [jc] at hc
  obtain ⟨x, rfl⟩ := Int.eq_ofNat_of_zero_le x1
  have hd := jdg_le N x 13
  iterate 2 refine mj_T.pl rfl rfl rfl rfl ?_
  refine mj_T.call (ins := .invokevirtual 185) rfl rfl (Nat.le_of_ble_eq_true rfl) (Nat.le_of_ble_eq_true rfl) (by simp [mj_recv, rS_f hs8]) rfl (mj_Ok.up (by decide) (rp_degreeIn (D := 0) (r := x) (by omega) K8.nR hs8)) (fun v' h' hq' => ?_) (fun i h' hq' => by cases hq')
  cases hq'
  refine mj_T.pl rfl rfl rfl rfl ?_
  exact mj_T.ret rfl rfl rfl ⟨_, g8, ⟨by omega, by omega⟩, rfl, ⟨S8, N, B, X, V, hs8, K8⟩⟩
theorem rp_terms {x : Int} (hx : jr x) (hI : jI tm er T h) : mj_Ok 40 255 [.ref 0, .int (jn x)] h (rI tm er T) := by
  refine mj_Ok.of (M := mj_m255) rfl rfl rfl ?_
  obtain ⟨S, N, B, X, V, hs, K⟩ := hI
  iterate 2 refine mj_T.pl rfl rfl rfl rfl ?_
  refine rT_put (v := 0) hs rfl rfl (by decide) rfl (fun g10 hs10 => ?_)
  have K10 := K.put (k := 3) (v := 0) ⟨by decide, by decide⟩ (by decide) (by decide) (by decide) (by decide) (by decide)
  generalize jvu S 3 0 = S10 at hs10 K10
  refine mj_T.pl rfl rfl rfl rfl ?_
  refine mj_T.call (ins := .invokestatic 181) rfl rfl (Nat.le_of_ble_eq_true rfl) (Nat.le_of_ble_eq_true rfl) rfl rfl (mj_Ok.up (by decide) (rp_isRegister (D := 0) hx)) (fun v' h' hq' => ?_) (fun i h' hq' => by rcases hq' with ⟨_, _, h⟩ | ⟨_, h⟩ <;> cases h)
  rcases hq' with ⟨x1, x2, hq'⟩ | ⟨_, hq'⟩
  case' inr =>
    cases hq'
    refine mj_T.if0 (a := 0) rfl ⟨by decide, by decide⟩ (fun hc => ?_) (fun hc => ?_)
    rotate_left
    · simp [jc] at hc
    iterate 2 refine mj_T.pl rfl rfl rfl rfl ?_
    refine mj_T.call (ins := .invokevirtual 198) rfl rfl (Nat.le_of_ble_eq_true rfl) (Nat.le_of_ble_eq_true rfl) (by simp [mj_recv, rS_f hs10]) rfl (mj_Ok.up (by decide) (rp_fails (D := 0) (c := 1) hs10)) (fun v' g11 hq' => ?_) (fun i h' hq' => by obtain ⟨_, _, h⟩ := hq'; cases h)
    obtain ⟨_, hs11, hq'⟩ := hq'
    cases hq'
    exact mj_T.ret rfl rfl rfl ⟨0, g11, ⟨by decide, by decide⟩, rfl, ⟨_, N, B, X, V, hs11, K10.put ⟨by decide, by decide⟩ (by decide) (by decide) (by decide) (by decide) (by decide)⟩⟩
  cases hq'
  refine mj_T.if0 (a := 1) rfl ⟨by decide, by decide⟩ (fun hc => ?_) (fun hc => ?_)
  · simp [jc] at hc
  obtain ⟨x, rfl⟩ := Int.eq_ofNat_of_zero_le x1
  have hd := rtm_le N x 13
  iterate 2 refine mj_T.pl rfl rfl rfl rfl ?_
  refine mj_T.call (ins := .invokevirtual 292) rfl rfl (Nat.le_of_ble_eq_true rfl) (Nat.le_of_ble_eq_true rfl) (by simp [mj_recv, rS_f hs10]) rfl (mj_Ok.up (by decide) (rp_termsOf (D := 0) (r := x) (by omega) K10.nR hs10)) (fun v' h' hq' => ?_) (fun i h' hq' => by cases hq')
  cases hq'
  refine mj_T.pl rfl rfl rfl rfl ?_
  exact mj_T.ret rfl rfl rfl ⟨_, g10, ⟨by omega, by omega⟩, rfl, ⟨S10, N, B, X, V, hs10, K10⟩⟩
theorem rp_coefficient {x y : Int} (hx : jr x) (hy : jr y) (hI : jI tm er T h) : mj_Ok 40 257 [.ref 0, .int (jn x), .int (jn y)] h (rI tm er T) := by
  refine mj_Ok.of (M := mj_m257) rfl rfl rfl ?_
  obtain ⟨S, N, B, X, V, hs, K⟩ := hI
  iterate 2 refine mj_T.pl rfl rfl rfl rfl ?_
  refine rT_put (v := 0) hs rfl rfl (by decide) rfl (fun g12 hs12 => ?_)
  have K12 := K.put (k := 3) (v := 0) ⟨by decide, by decide⟩ (by decide) (by decide) (by decide) (by decide) (by decide)
  generalize jvu S 3 0 = S12 at hs12 K12
  refine mj_T.pl rfl rfl rfl rfl ?_
  refine mj_T.call (ins := .invokestatic 181) rfl rfl (Nat.le_of_ble_eq_true rfl) (Nat.le_of_ble_eq_true rfl) rfl rfl (mj_Ok.up (by decide) (rp_isRegister (D := 0) hx)) (fun v' h' hq' => ?_) (fun i h' hq' => by rcases hq' with ⟨_, _, h⟩ | ⟨_, h⟩ <;> cases h)
  rcases hq' with ⟨x1, x2, hq'⟩ | ⟨_, hq'⟩
  case' inr =>
    cases hq'
    refine mj_T.if0 (a := 0) rfl ⟨by decide, by decide⟩ (fun hc => ?_) (fun hc => ?_)
    · simp [jc] at hc
    iterate 2 refine mj_T.pl rfl rfl rfl rfl ?_
    refine mj_T.call (ins := .invokevirtual 198) rfl rfl (Nat.le_of_ble_eq_true rfl) (Nat.le_of_ble_eq_true rfl) (by simp [mj_recv, rS_f hs12]) rfl (mj_Ok.up (by decide) (rp_fails (D := 0) (c := 1) hs12)) (fun v' g13 hq' => ?_) (fun i h' hq' => by obtain ⟨_, _, h⟩ := hq'; cases h)
    obtain ⟨_, hs13, hq'⟩ := hq'
    cases hq'
    exact mj_T.ret rfl rfl rfl ⟨0, g13, ⟨by decide, by decide⟩, rfl, ⟨_, N, B, X, V, hs13, K12.put ⟨by decide, by decide⟩ (by decide) (by decide) (by decide) (by decide) (by decide)⟩⟩
  cases hq'
  refine mj_T.if0 (a := 1) rfl ⟨by decide, by decide⟩ (fun hc => ?_) (fun hc => ?_)
  rotate_left
  · simp [jc] at hc
  obtain ⟨x, rfl⟩ := Int.eq_ofNat_of_zero_le x1
  refine mj_T.pl rfl rfl rfl rfl ?_
  refine mj_T.i2l rfl hy ?_
  iterate 2 refine mj_T.pl rfl rfl rfl rfl ?_
  refine mj_T.call (ins := .invokestatic 177) rfl rfl (Nat.le_of_ble_eq_true rfl) (Nat.le_of_ble_eq_true rfl) rfl rfl (mj_Ok.up (by decide) (rp_in (D := 0) (v := y) (lo := 0) (hi := 12) ⟨by have := hy.1; omega, by have := hy.2; omega⟩ ⟨by decide, by decide⟩ ⟨by decide, by decide⟩)) (fun v' h' hq' => ?_) (fun i h' hq' => by rcases hq' with ⟨_, _, h⟩ | ⟨_, h⟩ <;> cases h)
  rcases hq' with ⟨r14a, r14b, hq'⟩ | ⟨_, hq'⟩
  case' inr =>
    cases hq'
    refine mj_T.if0 (a := 0) rfl ⟨by decide, by decide⟩ (fun hc => ?_) (fun hc => ?_)
    · simp [jc] at hc
    iterate 2 refine mj_T.pl rfl rfl rfl rfl ?_
    refine mj_T.call (ins := .invokevirtual 198) rfl rfl (Nat.le_of_ble_eq_true rfl) (Nat.le_of_ble_eq_true rfl) (by simp [mj_recv, rS_f hs12]) rfl (mj_Ok.up (by decide) (rp_fails (D := 0) (c := 2) hs12)) (fun v' g15 hq' => ?_) (fun i h' hq' => by obtain ⟨_, _, h⟩ := hq'; cases h)
    obtain ⟨_, hs15, hq'⟩ := hq'
    cases hq'
    exact mj_T.ret rfl rfl rfl ⟨0, g15, ⟨by decide, by decide⟩, rfl, ⟨_, N, B, X, V, hs15, K12.put ⟨by decide, by decide⟩ (by decide) (by decide) (by decide) (by decide) (by decide)⟩⟩
  cases hq'
  refine mj_T.if0 (a := 1) rfl ⟨by decide, by decide⟩ (fun hc => ?_) (fun hc => ?_)
  rotate_left
  · simp [jc] at hc
  obtain ⟨y, rfl⟩ := Int.eq_ofNat_of_zero_le r14a
  iterate 2 refine mj_T.pl rfl rfl rfl rfl ?_
  refine mj_T.pl rfl rfl rfl rfl ?_
  refine rT_get hs12 rfl rfl ?_
  iterate 2 refine mj_T.pl rfl rfl rfl rfl ?_
  refine mj_T.imul (a := (x : Int)) (b := 13) rfl ?_
  refine mj_T.pl rfl rfl rfl rfl ?_
  refine mj_T.iadd rfl ?_
  rw [show (x : Int) * 13 + (y : Int) = ((x * 13 + y : Nat) : Int) by omega]
  refine rT_ldN hs12 rfl ⟨by omega, by omega⟩ ?_
  rw [Int.toNat_natCast]
  refine mj_T.call (ins := .invokevirtual 45) rfl rfl (Nat.le_of_ble_eq_true rfl) (Nat.le_of_ble_eq_true rfl) (by simp [mj_recv, rS_f hs12]) rfl (mj_Ok.up (by decide) (jS_sets (D := 0) (rG S12 N B T X) (s := 652) (v := N (x * 13 + y)) (by decide) (K12.nR _ (by omega)) hs12)) (fun v' g16 hq' => ?_) (fun i h' hq' => by obtain ⟨_, _, h⟩ := hq'; cases h)
  obtain ⟨_, hs16, hq'⟩ := hq'
  cases hq'
  iterate 2 refine mj_T.pl rfl rfl rfl rfl ?_
  refine mj_T.call (ins := .invokevirtual 295) rfl rfl (Nat.le_of_ble_eq_true rfl) (Nat.le_of_ble_eq_true rfl) (by simp [mj_recv, rS_f hs16]) rfl (mj_Ok.up (by decide) (rp_tellsWhole (D := 0) (s := 652) (by decide) hs16)) (fun v' g17 hq' => ?_) (fun i h' hq' => by obtain ⟨_, _, _, _, _, h⟩ := hq'; cases h)
  obtain ⟨W17, z17, _, hs17, hz17, hq'⟩ := hq'
  cases hq'
  exact mj_T.ret rfl rfl rfl ⟨_, g17, hz17, rfl, ⟨S12, N, B, X, W17, hs17, K12⟩⟩
theorem rp_content {x : Int} (hx : jr x) (hI : jI tm er T h) : mj_Ok 40 258 [.ref 0, .int (jn x)] h (rI tm er T) := by
  refine mj_Ok.of (M := mj_m258) rfl rfl rfl ?_
  obtain ⟨S, N, B, X, V, hs, K⟩ := hI
  iterate 2 refine mj_T.pl rfl rfl rfl rfl ?_
  refine rT_put (v := 0) hs rfl rfl (by decide) rfl (fun g18 hs18 => ?_)
  have K18 := K.put (k := 3) (v := 0) ⟨by decide, by decide⟩ (by decide) (by decide) (by decide) (by decide) (by decide)
  generalize jvu S 3 0 = S18 at hs18 K18
  refine mj_T.pl rfl rfl rfl rfl ?_
  refine mj_T.call (ins := .invokestatic 181) rfl rfl (Nat.le_of_ble_eq_true rfl) (Nat.le_of_ble_eq_true rfl) rfl rfl (mj_Ok.up (by decide) (rp_isRegister (D := 0) hx)) (fun v' h' hq' => ?_) (fun i h' hq' => by rcases hq' with ⟨_, _, h⟩ | ⟨_, h⟩ <;> cases h)
  rcases hq' with ⟨x1, x2, hq'⟩ | ⟨_, hq'⟩
  case' inr =>
    cases hq'
    refine mj_T.if0 (a := 0) rfl ⟨by decide, by decide⟩ (fun hc => ?_) (fun hc => ?_)
    · simp [jc] at hc
    iterate 2 refine mj_T.pl rfl rfl rfl rfl ?_
    refine mj_T.call (ins := .invokevirtual 198) rfl rfl (Nat.le_of_ble_eq_true rfl) (Nat.le_of_ble_eq_true rfl) (by simp [mj_recv, rS_f hs18]) rfl (mj_Ok.up (by decide) (rp_fails (D := 0) (c := 1) hs18)) (fun v' g19 hq' => ?_) (fun i h' hq' => by obtain ⟨_, _, h⟩ := hq'; cases h)
    obtain ⟨_, hs19, hq'⟩ := hq'
    cases hq'
    exact mj_T.ret rfl rfl rfl ⟨0, g19, ⟨by decide, by decide⟩, rfl, ⟨_, N, B, X, V, hs19, K18.put ⟨by decide, by decide⟩ (by decide) (by decide) (by decide) (by decide) (by decide)⟩⟩
  cases hq'
  refine mj_T.if0 (a := 1) rfl ⟨by decide, by decide⟩ (fun hc => ?_) (fun hc => ?_)
  rotate_left
  · simp [jc] at hc
  obtain ⟨x, rfl⟩ := Int.eq_ofNat_of_zero_le x1
  iterate 3 refine mj_T.pl rfl rfl rfl rfl ?_
  refine mj_T.call (ins := .invokevirtual 213) rfl rfl (Nat.le_of_ble_eq_true rfl) (Nat.le_of_ble_eq_true rfl) (by simp [mj_recv, rS_f hs18]) rfl (mj_Ok.up (by decide) (rp_loads (D := 0) (p := 0) (r := x) (by decide) (by omega) K18.nR hs18)) (fun v' g20 hq' => ?_) (fun i h' hq' => by obtain ⟨_, _, h⟩ := hq'; cases h)
  obtain ⟨_, hs20, hq'⟩ := hq'
  cases hq'
  have a20 : ∀ e, e < 13 → jfl V 0 (fun e => N (x * 13 + e)) 13 (0 * 13 + e) = N (x * 13 + e) := fun e he => jfl_at _ _ _ he
  have b20 : ∀ s, (s < 0 * 13 ∨ 0 * 13 + 13 ≤ s) → jfl V 0 (fun e => N (x * 13 + e)) 13 s = V s := fun s hc => jfl_off _ _ _ hc
  generalize jfl V 0 (fun e => N (x * 13 + e)) 13 = W20 at hs20 a20 b20
  iterate 3 refine mj_T.pl rfl rfl rfl rfl ?_
  refine mj_T.call (ins := .invokevirtual 130) rfl rfl (Nat.le_of_ble_eq_true rfl) (Nat.le_of_ble_eq_true rfl) (by simp [mj_recv, rS_f hs20]) rfl (mj_Ok.up (by decide) (jp_contents (D := 0) (rG S18 N B T X) (to := 661) (p := 0) (by decide) (by decide) (by decide) (by decide) (by decide) (by decide) (by decide) hs20)) (fun v' g21 hq' => ?_) (fun i h' hq' => by obtain ⟨_, _, _, _, _, h⟩ := hq'; cases h)
  obtain ⟨W21, _, hs21, _, _, hq'⟩ := hq'
  cases hq'
  iterate 2 refine mj_T.pl rfl rfl rfl rfl ?_
  refine mj_T.call (ins := .invokevirtual 295) rfl rfl (Nat.le_of_ble_eq_true rfl) (Nat.le_of_ble_eq_true rfl) (by simp [mj_recv, rS_f hs21]) rfl (mj_Ok.up (by decide) (rp_tellsWhole (D := 0) (s := 661) (by decide) hs21)) (fun v' g22 hq' => ?_) (fun i h' hq' => by obtain ⟨_, _, _, _, _, h⟩ := hq'; cases h)
  obtain ⟨W22, z22, _, hs22, hz22, hq'⟩ := hq'
  cases hq'
  exact mj_T.ret rfl rfl rfl ⟨_, g22, hz22, rfl, ⟨S18, N, B, X, W22, hs22, K18⟩⟩
theorem rp_isFraction {x y : Int} (hx : jr x) (hy : jr y) : mj_Ok 39 259 [.int (jn x), .int (jn y)] h (fun r => ((-1000 ≤ x ∧ x ≤ 1000) ∧ (1 ≤ y ∧ y ≤ 1000) ∧ r = (.inl (some (.int (jn 1))), h)) ∨ (True ∧ r = (.inl (some (.int (jn 0))), h))) := by
  refine mj_Ok.of (M := mj_m259) rfl rfl rfl ?_
  have t30 : mj_T 38 mj_m259 30 [some (.int (jn x)), some (.int (jn y))] [] h (fun r => ((-1000 ≤ x ∧ x ≤ 1000) ∧ (1 ≤ y ∧ y ≤ 1000) ∧ r = (.inl (some (.int (jn 1))), h)) ∨ (True ∧ r = (.inl (some (.int (jn 0))), h))) := by
    refine mj_T.pl rfl rfl rfl rfl ?_
    exact mj_T.ret rfl rfl rfl (Or.inr ⟨trivial, rfl⟩)
  refine mj_T.pl rfl rfl rfl rfl ?_
  refine mj_T.i2l rfl hx ?_
  iterate 2 refine mj_T.pl rfl rfl rfl rfl ?_
  refine mj_T.call (ins := .invokestatic 177) rfl rfl (Nat.le_of_ble_eq_true rfl) (Nat.le_of_ble_eq_true rfl) rfl rfl (mj_Ok.up (by decide) (rp_in (D := 0) (v := x) (lo := -1000) (hi := 1000) ⟨by have := hx.1; omega, by have := hx.2; omega⟩ ⟨by decide, by decide⟩ ⟨by decide, by decide⟩)) (fun v' h' hq' => ?_) (fun i h' hq' => by rcases hq' with ⟨_, _, h⟩ | ⟨_, h⟩ <;> cases h)
  rcases hq' with ⟨x1, x2, hq'⟩ | ⟨_, hq'⟩
  case' inr =>
    cases hq'
    refine mj_T.if0 (a := 0) rfl ⟨by decide, by decide⟩ (fun hc => ?_) (fun hc => ?_)
    · exact t30
    · simp [jc] at hc
  cases hq'
  refine mj_T.if0 (a := 1) rfl ⟨by decide, by decide⟩ (fun hc => ?_) (fun hc => ?_)
  · simp [jc] at hc
  refine mj_T.pl rfl rfl rfl rfl ?_
  refine mj_T.i2l rfl hy ?_
  iterate 2 refine mj_T.pl rfl rfl rfl rfl ?_
  refine mj_T.call (ins := .invokestatic 177) rfl rfl (Nat.le_of_ble_eq_true rfl) (Nat.le_of_ble_eq_true rfl) rfl rfl (mj_Ok.up (by decide) (rp_in (D := 0) (v := y) (lo := 1) (hi := 1000) ⟨by have := hy.1; omega, by have := hy.2; omega⟩ ⟨by decide, by decide⟩ ⟨by decide, by decide⟩)) (fun v' h' hq' => ?_) (fun i h' hq' => by rcases hq' with ⟨_, _, h⟩ | ⟨_, h⟩ <;> cases h)
  rcases hq' with ⟨y1, y2, hq'⟩ | ⟨_, hq'⟩
  case' inr =>
    cases hq'
    refine mj_T.if0 (a := 0) rfl ⟨by decide, by decide⟩ (fun hc => ?_) (fun hc => ?_)
    · exact t30
    · simp [jc] at hc
  cases hq'
  refine mj_T.if0 (a := 1) rfl ⟨by decide, by decide⟩ (fun hc => ?_) (fun hc => ?_)
  · simp [jc] at hc
  iterate 2 refine mj_T.pl rfl rfl rfl rfl ?_
  exact mj_T.ret rfl rfl rfl (Or.inl ⟨⟨x1, x2⟩, ⟨y1, y2⟩, rfl⟩)
theorem rp_setsFraction {S N B X V : Nat → Int} {D : Nat} {x y : Int} (hx : jr x) (hy : jr y) (hs : rS S N B T X V h) : mj_Ok (D + 2) 260 [.ref 0, .int (jn x), .int (jn y)] h (fun r => ∃ (W : Nat → Int) (h' : mj_H), rS S N B T X W h' ∧ W 656 = x ∧ W 657 = y ∧ (∀ s, s ≠ 656 → s ≠ 657 → W s = V s) ∧ r = (.inl none, h')) := by
  refine mj_Ok.of (M := mj_m260) rfl rfl rfl ?_
  iterate 3 refine mj_T.pl rfl rfl rfl rfl ?_
  refine mj_T.i2l rfl hx ?_
  refine mj_T.call (ins := .invokevirtual 45) rfl rfl (Nat.le_of_ble_eq_true rfl) (Nat.le_of_ble_eq_true rfl) (by simp [mj_recv, rS_f hs]) rfl (jS_sets (D := D) (rG S N B T X) (s := 656) (v := x) (by decide) ⟨by have := hx.1; omega, by have := hx.2; omega⟩ hs) (fun v' h1 hq' => ?_) (fun i h' hq' => by obtain ⟨_, _, h⟩ := hq'; cases h)
  obtain ⟨_, hs1, hq'⟩ := hq'
  cases hq'
  iterate 3 refine mj_T.pl rfl rfl rfl rfl ?_
  refine mj_T.i2l rfl hy ?_
  refine mj_T.call (ins := .invokevirtual 45) rfl rfl (Nat.le_of_ble_eq_true rfl) (Nat.le_of_ble_eq_true rfl) (by simp [mj_recv, rS_f hs1]) rfl (jS_sets (D := D) (rG S N B T X) (s := 657) (v := y) (by decide) ⟨by have := hy.1; omega, by have := hy.2; omega⟩ hs1) (fun v' h2 hq' => ?_) (fun i h' hq' => by obtain ⟨_, _, h⟩ := hq'; cases h)
  obtain ⟨_, hs2, hq'⟩ := hq'
  cases hq'
  exact mj_T.ret rfl rfl rfl ⟨_, h2, hs2, by rw [jvu_ne _ _ _ (by decide), jvu_at], jvu_at _ _ _, fun s h1 h2 => by rw [jvu_ne _ _ _ h2, jvu_ne _ _ _ h1], rfl⟩
theorem rp_value {x y z : Int} (hx : jr x) (hy : jr y) (hz : jr z) (hI : jI tm er T h) : mj_Ok 40 261 [.ref 0, .int (jn x), .int (jn y), .int (jn z)] h (rI tm er T) := by
  refine mj_Ok.of (M := mj_m261) rfl rfl rfl ?_
  obtain ⟨S, N, B, X, V, hs, K⟩ := hI
  iterate 2 refine mj_T.pl rfl rfl rfl rfl ?_
  refine rT_put (v := 0) hs rfl rfl (by decide) rfl (fun g23 hs23 => ?_)
  have K23 := K.put (k := 3) (v := 0) ⟨by decide, by decide⟩ (by decide) (by decide) (by decide) (by decide) (by decide)
  generalize jvu S 3 0 = S23 at hs23 K23
  refine mj_T.pl rfl rfl rfl rfl ?_
  refine mj_T.call (ins := .invokestatic 181) rfl rfl (Nat.le_of_ble_eq_true rfl) (Nat.le_of_ble_eq_true rfl) rfl rfl (mj_Ok.up (by decide) (rp_isRegister (D := 0) hx)) (fun v' h' hq' => ?_) (fun i h' hq' => by rcases hq' with ⟨_, _, h⟩ | ⟨_, h⟩ <;> cases h)
  rcases hq' with ⟨x1, x2, hq'⟩ | ⟨_, hq'⟩
  case' inr =>
    cases hq'
    refine mj_T.if0 (a := 0) rfl ⟨by decide, by decide⟩ (fun hc => ?_) (fun hc => ?_)
    · simp [jc] at hc
    iterate 2 refine mj_T.pl rfl rfl rfl rfl ?_
    refine mj_T.call (ins := .invokevirtual 198) rfl rfl (Nat.le_of_ble_eq_true rfl) (Nat.le_of_ble_eq_true rfl) (by simp [mj_recv, rS_f hs23]) rfl (mj_Ok.up (by decide) (rp_fails (D := 0) (c := 1) hs23)) (fun v' g24 hq' => ?_) (fun i h' hq' => by obtain ⟨_, _, h⟩ := hq'; cases h)
    obtain ⟨_, hs24, hq'⟩ := hq'
    cases hq'
    exact mj_T.ret rfl rfl rfl ⟨0, g24, ⟨by decide, by decide⟩, rfl, ⟨_, N, B, X, V, hs24, K23.put ⟨by decide, by decide⟩ (by decide) (by decide) (by decide) (by decide) (by decide)⟩⟩
  cases hq'
  refine mj_T.if0 (a := 1) rfl ⟨by decide, by decide⟩ (fun hc => ?_) (fun hc => ?_)
  rotate_left
  · simp [jc] at hc
  obtain ⟨x, rfl⟩ := Int.eq_ofNat_of_zero_le x1
  iterate 2 refine mj_T.pl rfl rfl rfl rfl ?_
  refine mj_T.call (ins := .invokestatic 302) rfl rfl (Nat.le_of_ble_eq_true rfl) (Nat.le_of_ble_eq_true rfl) rfl rfl (mj_Ok.up (by decide) (rp_isFraction hy hz)) (fun v' h' hq' => ?_) (fun i h' hq' => by rcases hq' with ⟨_, _, h⟩ | ⟨_, h⟩ <;> cases h)
  rcases hq' with ⟨⟨y1, y2⟩, ⟨z1, z2⟩, hq'⟩ | ⟨_, hq'⟩
  case' inr =>
    cases hq'
    refine mj_T.if0 (a := 0) rfl ⟨by decide, by decide⟩ (fun hc => ?_) (fun hc => ?_)
    · simp [jc] at hc
    iterate 2 refine mj_T.pl rfl rfl rfl rfl ?_
    refine mj_T.call (ins := .invokevirtual 198) rfl rfl (Nat.le_of_ble_eq_true rfl) (Nat.le_of_ble_eq_true rfl) (by simp [mj_recv, rS_f hs23]) rfl (mj_Ok.up (by decide) (rp_fails (D := 0) (c := 2) hs23)) (fun v' g25 hq' => ?_) (fun i h' hq' => by obtain ⟨_, _, h⟩ := hq'; cases h)
    obtain ⟨_, hs25, hq'⟩ := hq'
    cases hq'
    exact mj_T.ret rfl rfl rfl ⟨0, g25, ⟨by decide, by decide⟩, rfl, ⟨_, N, B, X, V, hs25, K23.put ⟨by decide, by decide⟩ (by decide) (by decide) (by decide) (by decide) (by decide)⟩⟩
  cases hq'
  refine mj_T.if0 (a := 1) rfl ⟨by decide, by decide⟩ (fun hc => ?_) (fun hc => ?_)
  rotate_left
  · simp [jc] at hc
  iterate 3 refine mj_T.pl rfl rfl rfl rfl ?_
  refine mj_T.call (ins := .invokevirtual 213) rfl rfl (Nat.le_of_ble_eq_true rfl) (Nat.le_of_ble_eq_true rfl) (by simp [mj_recv, rS_f hs23]) rfl (mj_Ok.up (by decide) (rp_loads (D := 0) (p := 0) (r := x) (by decide) (by omega) K23.nR hs23)) (fun v' g26 hq' => ?_) (fun i h' hq' => by obtain ⟨_, _, h⟩ := hq'; cases h)
  obtain ⟨_, hs26, hq'⟩ := hq'
  cases hq'
  have a26 : ∀ e, e < 13 → jfl V 0 (fun e => N (x * 13 + e)) 13 (0 * 13 + e) = N (x * 13 + e) := fun e he => jfl_at _ _ _ he
  have b26 : ∀ s, (s < 0 * 13 ∨ 0 * 13 + 13 ≤ s) → jfl V 0 (fun e => N (x * 13 + e)) 13 s = V s := fun s hc => jfl_off _ _ _ hc
  generalize jfl V 0 (fun e => N (x * 13 + e)) 13 = W26 at hs26 a26 b26
  have c1 : ∀ e, e < 13 → (W26 (0 * 13 + e)).natAbs ≤ 10 ^ 18 := fun e he => by
    rw [a26 e he]
    exact K23.sh (r := x) (by omega) he
  iterate 3 refine mj_T.pl rfl rfl rfl rfl ?_
  refine mj_T.call (ins := .invokevirtual 305) rfl rfl (Nat.le_of_ble_eq_true rfl) (Nat.le_of_ble_eq_true rfl) (by simp [mj_recv, rS_f hs26]) rfl (mj_Ok.up (by decide) (rp_setsFraction (D := 0) (x := y) (y := z) hy hz hs26)) (fun v' g27 hq' => ?_) (fun i h' hq' => by obtain ⟨_, _, _, _, _, _, h⟩ := hq'; cases h)
  obtain ⟨W27, _, hs27, x27a, x27b, x27c, hq'⟩ := hq'
  cases hq'
  iterate 2 refine mj_T.pl rfl rfl rfl rfl ?_
  refine mj_T.call (ins := .invokevirtual 162) rfl rfl (Nat.le_of_ble_eq_true rfl) (Nat.le_of_ble_eq_true rfl) (by simp [mj_recv, rS_f hs27]) rfl (mj_Ok.up (by decide) (jp_valueAt (D := 0) (V := W27) (p := 0) (rG S23 N B T X) (by decide) (C := 10 ^ 18) (x := 1000) (fun e he => by rw [x27c _ (by omega) (by omega)]; exact c1 e he) (by rw [x27a]; omega) (by rw [x27b]; omega) (by decide) rp_fitv rp_fitv2 hs27)) (fun v' g28 hq' => ?_) (fun i h' hq' => by obtain ⟨_, _, _, _, _, _, _, h⟩ := hq'; cases h)
  obtain ⟨W28, _, hs28, _, _, _, f0, hq'⟩ := hq'
  cases hq'
  iterate 4 refine mj_T.pl rfl rfl rfl rfl ?_
  refine mj_T.call (ins := .invokevirtual 308) rfl rfl (Nat.le_of_ble_eq_true rfl) (Nat.le_of_ble_eq_true rfl) (by simp [mj_recv, rS_f hs28]) rfl (mj_Ok.up (by decide) (jp_tells (D := 0) (rG S23 N B T X) (i := 659) (j := 660) (by decide) (by decide) (by decide) (by decide) (f0 (by rw [x27b]; omega)) hs28)) (fun v' g29 hq' => ?_) (fun i h' hq' => by obtain ⟨_, _, _, _, _, _, h⟩ := hq'; cases h)
  obtain ⟨W29, _, hs29, _, _, _, hq'⟩ := hq'
  cases hq'
  have hsr := jsg_range (W29 650)
  exact mj_T.ret rfl rfl rfl ⟨_, g29, ⟨by omega, by omega⟩, rfl, ⟨S23, N, B, X, W29, hs29, K23⟩⟩
end RPU
