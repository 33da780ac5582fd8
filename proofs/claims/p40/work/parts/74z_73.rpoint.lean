/-! The reference, exactly: addPoint. -/
section RPA
variable {h : mj_H} {tm er : Int} {T : Nat → Int} {N0 : Nat → Int} {u0 : Nat} {H : Nat → Nat → Int}
/-- a point may be added -/
def okPt (N : Nat → Int) (x y : Int) : Prop := ((-9 ≤ x ∧ x ≤ 9) ∧ (-999 ≤ y ∧ y ≤ 999)) ∧ N 78 ≠ 6 ∧ ∀ j : Nat, (j : Int) < N 78 → N (79 + j) ≠ x
/-- a point is added, or nothing changes -/
def adR (N0 : Nat → Int) (u0 : Nat) (H : Nat → Nat → Int) (tm er : Int) (T : Nat → Int) (x y : Int) (r : mj_R) : Prop := (okPt N0 x y ∧ rIx (adN N0 x y) (upu u0) (pushH N0 H) tm er T r) ∨ (¬ okPt N0 x y ∧ rIx N0 u0 H tm er T r)
theorem rx_pt_loop {S N B X V : Nat → Int} {x y : Int} (hx : -9 ≤ x ∧ x ≤ 9) (hy : -999 ≤ y ∧ y ≤ 999) {n : Nat} (hn : N 78 = (n : Int)) (hn6 : n ≤ 6) (hs : rS S N B T X V h) (K : jKx N0 u0 H tm er S N B T) :
    ∀ (m k : Nat) (b : Int), k + m = n → (b = 0 ∨ b = 1) → (b = 0 → n ≠ 6 ∧ ∀ j, j < k → N (79 + j) ≠ x) → (b = 1 → n = 6 ∨ ∃ j, j < n ∧ N (79 + j) = x) → mj_T 39 mj_m246 62 [some (.ref 0), some (.int (jn x)), some (.int (jn y)), some (.int (jn b)), some (.int (jn (k : Int)))] [] h (adR N0 u0 H tm er T x y) := by
  intro m
  induction m with
  | zero =>
    intro k b hk hb hinv hful
    have hk : k = n := by omega
    subst hk
    refine mj_T.pl rfl rfl rfl rfl ?_
    refine mj_T.i2l rfl ⟨by omega, by omega⟩ ?_
    refine mj_T.pl rfl rfl rfl rfl ?_
    refine rT_get hs rfl rfl ?_
    refine mj_T.pl rfl rfl rfl rfl ?_
    refine rT_ldN (i := ((78 : Nat) : Int)) hs rfl ⟨by decide, by decide⟩ ?_
    rw [Int.toNat_natCast, hn]
    refine mj_T.lif (a := (k : Int)) (b := (k : Int)) rfl rfl ⟨by omega, by omega⟩ ⟨by omega, by omega⟩ (fun hc => ?_) (fun hc => ?_)
    · refine mj_T.pl rfl rfl rfl rfl ?_
      refine mj_T.if0 (a := b) rfl ⟨by omega, by omega⟩ (fun hc2 => ?_) (fun hc2 => ?_)
      · simp only [jc, decide_eq_true_eq] at hc2
        obtain ⟨i1, i2⟩ := hinv hc2
        refine mj_T.pl rfl rfl rfl rfl ?_
        refine mj_T.call (ins := .invokevirtual 201) rfl rfl (Nat.le_of_ble_eq_true rfl) (Nat.le_of_ble_eq_true rfl) (by simp [mj_recv, rS_f hs]) rfl (mj_Ok.up (by decide) (rx_keeps (D := 0) K hs)) (fun v' g1 hq' => ?_) (fun i h' hq' => by obtain ⟨_, _, _, _, _, _, h⟩ := hq'; cases h)
        obtain ⟨S1, B1, _, hs1, K1, _, hq'⟩ := hq'
        cases hq'
        refine mj_T.pl rfl rfl rfl rfl ?_
        refine rT_get hs1 rfl rfl ?_
        iterate 2 refine mj_T.pl rfl rfl rfl rfl ?_
        refine rT_get hs1 rfl rfl ?_
        refine mj_T.pl rfl rfl rfl rfl ?_
        refine rT_ldN (i := ((78 : Nat) : Int)) hs1 rfl ⟨by decide, by decide⟩ ?_
        rw [Int.toNat_natCast, hn]
        refine mj_T.l2i rfl ?_
        refine mj_T.iadd (a := 79) (b := (k : Int)) rfl ?_
        rw [show (79 : Int) + (k : Int) = ((79 + k : Nat) : Int) by omega]
        refine mj_T.pl rfl rfl rfl rfl ?_
        refine mj_T.i2l rfl ⟨by omega, by omega⟩ ?_
        refine rT_stN (z := x) hs1 rfl ⟨by omega, by omega⟩ (fun g2 hs2 => ?_)
        rw [Int.toNat_natCast] at hs2
        refine mj_T.pl rfl rfl rfl rfl ?_
        refine rT_get hs2 rfl rfl ?_
        iterate 2 refine mj_T.pl rfl rfl rfl rfl ?_
        refine rT_get hs2 rfl rfl ?_
        refine mj_T.pl rfl rfl rfl rfl ?_
        refine rT_ldN (i := ((78 : Nat) : Int)) hs2 rfl ⟨by decide, by decide⟩ ?_
        rw [Int.toNat_natCast, jvu_ne _ _ _ (by omega), hn]
        refine mj_T.l2i rfl ?_
        refine mj_T.iadd (a := 85) (b := (k : Int)) rfl ?_
        rw [show (85 : Int) + (k : Int) = ((85 + k : Nat) : Int) by omega]
        refine mj_T.pl rfl rfl rfl rfl ?_
        refine mj_T.i2l rfl ⟨by omega, by omega⟩ ?_
        refine rT_stN (z := y) hs2 rfl ⟨by omega, by omega⟩ (fun g3 hs3 => ?_)
        rw [Int.toNat_natCast] at hs3
        refine mj_T.pl rfl rfl rfl rfl ?_
        refine rT_get hs3 rfl rfl ?_
        iterate 2 refine mj_T.pl rfl rfl rfl rfl ?_
        refine rT_ldN (i := ((78 : Nat) : Int)) hs3 rfl ⟨by decide, by decide⟩ ?_
        rw [Int.toNat_natCast, jvu_ne _ _ _ (by omega), jvu_ne _ _ _ (by omega), hn]
        refine mj_T.pl rfl rfl rfl rfl ?_
        refine mj_T.ladd (a := (k : Int)) (b := 1) rfl ?_
        rw [show (k : Int) + 1 = ((k + 1 : Nat) : Int) by omega]
        refine rT_stN (i := ((78 : Nat) : Int)) (z := ((k + 1 : Nat) : Int)) hs3 rfl ⟨by decide, by decide⟩ (fun g4 hs4 => ?_)
        rw [Int.toNat_natCast] at hs4
        have n78 : N0 78 = (k : Int) := (K.2.1 78 (by decide)).symm.trans hn
        have ead : ∀ j, j < 91 → jvu (jvu (jvu N (79 + k) x) (85 + k) y) 78 ((k + 1 : Nat) : Int) j = adN N0 x y j := fun j hj => by
          unfold adN
          rw [show (N0 78).toNat = k by omega]
          unfold jvu
          split
          · rfl
          · split
            · rfl
            · split
              · rfl
              · exact K.2.1 j hj
        have hok : okPt N0 x y := ⟨⟨hx, hy⟩, by omega, fun j hj => by
          rw [← K.2.1 (79 + j) (by omega)]
          exact i2 j (by omega)⟩
        have K4 := K1.row (N1 := adN N0 x y) (gN_point (n := k) K.1.1 hn (by omega) hx hy i2) ead
        refine mj_T.pl rfl rfl rfl rfl ?_
        refine rT_get hs4 rfl rfl ?_
        refine mj_T.pl rfl rfl rfl rfl ?_
        refine rT_ldN (i := ((78 : Nat) : Int)) hs4 rfl ⟨by decide, by decide⟩ ?_
        rw [Int.toNat_natCast, jvu_at]
        refine mj_T.l2i rfl ?_
        exact mj_T.ret rfl rfl rfl (Or.inl ⟨hok, _, g4, ⟨by omega, by omega⟩, rfl, ⟨S1, _, B1, X, V, hs4, K4⟩⟩)
      · have hno : ¬ okPt N0 x y := fun q => by
          have n78 : N0 78 = (k : Int) := (K.2.1 78 (by decide)).symm.trans hn
          have hb1 : b = 1 := by
            simp only [jc, decide_eq_false_iff_not] at hc2
            exact hb.resolve_left hc2
          rcases hful hb1 with e | ⟨j, hj, e⟩
          · exact q.2.1 (by omega)
          · exact q.2.2 j (by omega) ((K.2.1 (79 + j) (by omega)).symm.trans e)
        iterate 2 refine mj_T.pl rfl rfl rfl rfl ?_
        refine mj_T.call (ins := .invokevirtual 198) rfl rfl (Nat.le_of_ble_eq_true rfl) (Nat.le_of_ble_eq_true rfl) (by simp [mj_recv, rS_f hs]) rfl (mj_Ok.up (by decide) (rp_fails (D := 0) (c := 2) hs)) (fun v' g5 hq' => ?_) (fun i h' hq' => by obtain ⟨_, _, h⟩ := hq'; cases h)
        obtain ⟨_, hs5, hq'⟩ := hq'
        cases hq'
        exact mj_T.ret rfl rfl rfl (Or.inr ⟨hno, 0, g5, ⟨by decide, by decide⟩, rfl, ⟨_, N, B, X, V, hs5, K.put ⟨by decide, by decide⟩ (by decide) (by decide) (by decide) (by decide) (by decide)⟩⟩)
    · simp only [jc, decide_eq_false_iff_not] at hc
      omega
  | succ m ih =>
    intro k b hk hb hinv hful
    refine mj_T.pl rfl rfl rfl rfl ?_
    refine mj_T.i2l rfl ⟨by omega, by omega⟩ ?_
    refine mj_T.pl rfl rfl rfl rfl ?_
    refine rT_get hs rfl rfl ?_
    refine mj_T.pl rfl rfl rfl rfl ?_
    refine rT_ldN (i := ((78 : Nat) : Int)) hs rfl ⟨by decide, by decide⟩ ?_
    rw [Int.toNat_natCast, hn]
    refine mj_T.lif (a := (k : Int)) (b := (n : Int)) rfl rfl ⟨by omega, by omega⟩ ⟨by omega, by omega⟩ (fun hc => ?_) (fun hc => ?_)
    · simp only [jc, decide_eq_true_eq] at hc
      omega
    have t101 : ∀ b2 : Int, (b2 = 0 ∨ b2 = 1) → (b2 = 0 → n ≠ 6 ∧ ∀ j, j < k + 1 → N (79 + j) ≠ x) → (b2 = 1 → n = 6 ∨ ∃ j, j < n ∧ N (79 + j) = x) → mj_T 39 mj_m246 101 [some (.ref 0), some (.int (jn x)), some (.int (jn y)), some (.int (jn b)), some (.int (jn (k : Int)))] [.int (jn b2)] h (adR N0 u0 H tm er T x y) := fun b2 hb2 hinv2 hful2 => by
      refine mj_T.pl rfl rfl rfl rfl ?_
      refine mj_T.iinc (a := (k : Int)) rfl rfl ?_
      refine mj_T.pl rfl rfl rfl rfl ?_
      exact ih (k + 1) b2 (by omega) hb2 hinv2 hful2
    refine mj_T.pl rfl rfl rfl rfl ?_
    refine mj_T.if0 (a := b) rfl ⟨by omega, by omega⟩ (fun hc2 => ?_) (fun hc2 => ?_)
    · iterate 2 refine mj_T.pl rfl rfl rfl rfl ?_
      exact t101 1 (Or.inr rfl) (fun e => absurd e (by decide)) (fun _ => hful (by simp only [jc, Bool.not_eq_true', decide_eq_false_iff_not] at hc2; exact hb.resolve_left hc2))
    simp only [jc, Bool.not_eq_false', decide_eq_true_eq] at hc2
    obtain ⟨i1, i2⟩ := hinv hc2
    refine mj_T.pl rfl rfl rfl rfl ?_
    refine rT_get hs rfl rfl ?_
    iterate 2 refine mj_T.pl rfl rfl rfl rfl ?_
    refine mj_T.iadd (a := 79) (b := (k : Int)) rfl ?_
    rw [show (79 : Int) + (k : Int) = ((79 + k : Nat) : Int) by omega]
    refine rT_ldN hs rfl ⟨by omega, by omega⟩ ?_
    rw [Int.toNat_natCast]
    refine mj_T.pl rfl rfl rfl rfl ?_
    refine mj_T.i2l rfl ⟨by omega, by omega⟩ ?_
    have hp := (K.1.1.2.2.1 k (by omega)).1
    refine mj_T.lif (a := N (79 + k)) (b := x) rfl rfl ⟨by omega, by omega⟩ ⟨by omega, by omega⟩ (fun hc3 => ?_) (fun hc3 => ?_)
    · simp only [jc, Bool.not_eq_true', decide_eq_false_iff_not] at hc3
      refine mj_T.pl rfl rfl rfl rfl ?_
      refine t101 0 (Or.inl rfl) (fun _ => ⟨i1, fun j hj => ?_⟩) (fun e => absurd e (by decide))
      by_cases q : j = k
      · rw [q]
        exact hc3
      · exact i2 j (by omega)
    · iterate 2 refine mj_T.pl rfl rfl rfl rfl ?_
      exact t101 1 (Or.inr rfl) (fun e => absurd e (by decide)) (fun _ => Or.inr ⟨k, by omega, by simp only [jc, Bool.not_eq_false', decide_eq_true_eq] at hc3; exact hc3⟩)
theorem rx_addPoint {x y : Int} (hx : jr x) (hy : jr y) (hI : jIx N0 u0 H tm er T h) : mj_Ok 40 246 [.ref 0, .int (jn x), .int (jn y)] h (adR N0 u0 H tm er T x y) := by
  refine mj_Ok.of (M := mj_m246) rfl rfl rfl ?_
  obtain ⟨S, N, B, X, V, hs, K⟩ := hI
  iterate 2 refine mj_T.pl rfl rfl rfl rfl ?_
  refine rT_put (v := 0) hs rfl rfl (by decide) rfl (fun g6 hs6 => ?_)
  have K6 := K.put (k := 3) (v := 0) ⟨by decide, by decide⟩ (by decide) (by decide) (by decide) (by decide) (by decide)
  generalize jvu S 3 0 = S6 at hs6 K6
  have t33 : ¬ ((-9 ≤ x ∧ x ≤ 9) ∧ (-999 ≤ y ∧ y ≤ 999)) → mj_T 39 mj_m246 33 [some (.ref 0), some (.int (jn x)), some (.int (jn y)), none, none] [] g6 (adR N0 u0 H tm er T x y) := by
    intro hno
    iterate 2 refine mj_T.pl rfl rfl rfl rfl ?_
    refine mj_T.call (ins := .invokevirtual 198) rfl rfl (Nat.le_of_ble_eq_true rfl) (Nat.le_of_ble_eq_true rfl) (by simp [mj_recv, rS_f hs6]) rfl (mj_Ok.up (by decide) (rp_fails (D := 0) (c := 1) hs6)) (fun v' g7 hq' => ?_) (fun i h' hq' => by obtain ⟨_, _, h⟩ := hq'; cases h)
    obtain ⟨_, hs7, hq'⟩ := hq'
    cases hq'
    exact mj_T.ret rfl rfl rfl (Or.inr ⟨fun q => hno q.1, 0, g7, ⟨by decide, by decide⟩, rfl, ⟨_, N, B, X, V, hs7, K6.put ⟨by decide, by decide⟩ (by decide) (by decide) (by decide) (by decide) (by decide)⟩⟩)
  refine mj_T.pl rfl rfl rfl rfl ?_
  refine mj_T.i2l rfl hx ?_
  iterate 2 refine mj_T.pl rfl rfl rfl rfl ?_
  refine mj_T.call (ins := .invokestatic 177) rfl rfl (Nat.le_of_ble_eq_true rfl) (Nat.le_of_ble_eq_true rfl) rfl rfl (mj_Ok.up (by decide) (rp_in (D := 0) (v := x) (lo := -9) (hi := 9) ⟨by have := hx.1; omega, by have := hx.2; omega⟩ ⟨by decide, by decide⟩ ⟨by decide, by decide⟩)) (fun v' h' hq' => ?_) (fun i h' hq' => by rcases hq' with ⟨_, _, h⟩ | ⟨_, h⟩ <;> cases h)
  rcases hq' with ⟨xa, xb, hq'⟩ | ⟨cn, hq'⟩
  case' inr =>
    cases hq'
    refine mj_T.if0 (a := 0) rfl ⟨by decide, by decide⟩ (fun hc => ?_) (fun hc => ?_)
    · exact t33 (by omega)
    · simp [jc] at hc
  cases hq'
  refine mj_T.if0 (a := 1) rfl ⟨by decide, by decide⟩ (fun hc => ?_) (fun hc => ?_)
  · simp [jc] at hc
  refine mj_T.pl rfl rfl rfl rfl ?_
  refine mj_T.i2l rfl hy ?_
  iterate 2 refine mj_T.pl rfl rfl rfl rfl ?_
  refine mj_T.call (ins := .invokestatic 177) rfl rfl (Nat.le_of_ble_eq_true rfl) (Nat.le_of_ble_eq_true rfl) rfl rfl (mj_Ok.up (by decide) (rp_in (D := 0) (v := y) (lo := -999) (hi := 999) ⟨by have := hy.1; omega, by have := hy.2; omega⟩ ⟨by decide, by decide⟩ ⟨by decide, by decide⟩)) (fun v' h' hq' => ?_) (fun i h' hq' => by rcases hq' with ⟨_, _, h⟩ | ⟨_, h⟩ <;> cases h)
  rcases hq' with ⟨ya, yb, hq'⟩ | ⟨cn, hq'⟩
  case' inr =>
    cases hq'
    refine mj_T.if0 (a := 0) rfl ⟨by decide, by decide⟩ (fun hc => ?_) (fun hc => ?_)
    · simp [jc] at hc
    · exact t33 (by omega)
  cases hq'
  refine mj_T.if0 (a := 1) rfl ⟨by decide, by decide⟩ (fun hc => ?_) (fun hc => ?_)
  rotate_left
  · simp [jc] at hc
  clear t33
  obtain ⟨n, hn⟩ := Int.eq_ofNat_of_zero_le K6.1.1.2.1.1
  have hn6 := K6.1.1.2.1.2
  refine mj_T.pl rfl rfl rfl rfl ?_
  refine rT_get hs6 rfl rfl ?_
  refine mj_T.pl rfl rfl rfl rfl ?_
  refine rT_ldN (i := ((78 : Nat) : Int)) hs6 rfl ⟨by decide, by decide⟩ ?_
  rw [Int.toNat_natCast]
  refine mj_T.pl rfl rfl rfl rfl ?_
  refine mj_T.lif (a := N 78) (b := 6) rfl rfl ⟨by omega, by omega⟩ ⟨by decide, by decide⟩ (fun hc => ?_) (fun hc => ?_)
  · simp only [jc, Bool.not_eq_true', decide_eq_false_iff_not] at hc
    iterate 4 refine mj_T.pl rfl rfl rfl rfl ?_
    exact rx_pt_loop ⟨xa, xb⟩ ⟨ya, yb⟩ hn (by omega) hs6 K6 n 0 0 (by omega) (Or.inl rfl) (fun _ => ⟨by omega, fun j hj => absurd hj (by omega)⟩) (fun e => absurd e (by decide))
  · iterate 5 refine mj_T.pl rfl rfl rfl rfl ?_
    exact rx_pt_loop ⟨xa, xb⟩ ⟨ya, yb⟩ hn (by omega) hs6 K6 n 0 1 (by omega) (Or.inr rfl) (fun e => absurd e (by decide)) (fun _ => Or.inl (by simp only [jc, Bool.not_eq_false', decide_eq_true_eq] at hc; omega))
end RPA
