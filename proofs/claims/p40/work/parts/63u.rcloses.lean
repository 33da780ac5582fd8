/-! The reference's closing in, and the told number. -/
section JCL
variable {D : Nat} {hp h : mj_H} {q0 q1 q2 q3 : Nat} {fs : List Value} {V : Nat → Int} {k : Nat}
theorem jp_cl (G : jG hp q0 q1 q2 q3 fs) (h7 : fs[7]? = some (.int (jn ((k + 1 : Nat) : Int)))) (hk : k ≤ 12) {root first : Int} (hr : jr root) (hf1 : 0 ≤ first ∧ first ≤ 13) {bits : Nat} (hb : bits ≤ 20940) {Cr y : Nat} (hrow : (∀ p, 9 ≤ p → p ≤ 9 + k → 1 ≤ jdg V p 13 ∧ ∀ e, e < 13 → (V (p * 13 + e)).natAbs ≤ Cr)) (hN : (V 657).natAbs ≤ y) (hy : 1 ≤ y) (hfit : 13 * (Cr * y ^ 12) < jB ^ 698) (hfit2 : y ^ 12 < jB ^ 698) {Q : mj_R → Prop}
    (hend : ∀ (W : Nat → Int) (h : mj_H), jS hp q1 q2 q3 W h → (∀ s, s ≠ 652 → s ≠ 653 → s ≠ 654 → s ≠ 656 → s ≠ 658 → s ≠ 659 → s ≠ 660 → s ≠ 661 → s ≠ 662 → W s = V s) → (W 656).natAbs ≤ y → Q (.inl none, h)) :
    ∀ (m j : Nat) (W : Nat → Int) (h : mj_H) (e5 : Option Value), j + m = bits + 1 → jS hp q1 q2 q3 W h → (∀ s, s ≠ 652 → s ≠ 653 → s ≠ 654 → s ≠ 656 → s ≠ 658 → s ≠ 659 → s ≠ 660 → s ≠ 661 → s ≠ 662 → W s = V s) → W 662 = 2 → (W 656).natAbs + 2 * (W 658).natAbs ≤ y → mj_T (D + 6) mj_m220 46 [some (.ref q0), some (.int (jn root)), some (.int (jn first)), some (.int (jn (bits : Int))), some (.int (jn (j : Int))), e5] [] h Q := by
  have hyfit : y < jB ^ 698 := Nat.lt_of_le_of_lt (by have := Nat.pow_le_pow_right hy (show 1 ≤ 12 by decide); rwa [Nat.pow_one] at this) hfit2
  intro m
  induction m with
  | zero =>
    intro j W h e5 hj hs hf h62 hsz
    iterate 2 refine mj_T.pl rfl rfl rfl rfl ?_
    refine mj_T.icmp (a := (j : Int)) (b := (bits : Int)) rfl ⟨by omega, by omega⟩ ⟨by omega, by omega⟩ (fun hc => ?_) (fun hc => ?_)
    · exact mj_T.ret rfl rfl rfl (hend W h hs hf (by omega))
    · simp only [jc, Bool.not_eq_false', decide_eq_true_eq, decide_eq_false_iff_not] at hc
      omega
  | succ m ih =>
    intro j W h e5 hj hs hf h62 hsz
    iterate 2 refine mj_T.pl rfl rfl rfl rfl ?_
    refine mj_T.icmp (a := (j : Int)) (b := (bits : Int)) rfl ⟨by omega, by omega⟩ ⟨by omega, by omega⟩ (fun hc => ?_) (fun hc => ?_)
    · exact mj_T.ret rfl rfl rfl (hend W h hs hf (by omega))
    iterate 3 refine mj_T.pl rfl rfl rfl rfl ?_
    refine mj_T.call (ins := .invokevirtual 84) rfl rfl (Nat.le_of_ble_eq_true rfl) (Nat.le_of_ble_eq_true rfl) (by simp [mj_recv, jS_a G hs]) rfl (jS_copies (D := D + 4) G (to := 661) (s := 656) (by decide) (by decide) hs) (fun v' h1 hq' => ?_) (fun i h' hq' => by obtain ⟨_, _, h⟩ := hq'; cases h)
    obtain ⟨_, hs1, hq'⟩ := hq'
    cases hq'
    have a1 : jvu W 661 (W 656) 661 = W 656 := jvu_at _ _ _
    have a2 : ∀ s, s ≠ 661 → jvu W 661 (W 656) s = W s := fun s hne => jvu_ne _ _ _ hne
    generalize jvu W 661 (W 656) = W1 at hs1 a1 a2
    have v1 : (W1 656 + 1 * W1 658).natAbs ≤ y := by
      rw [a2 656 (by decide), a2 658 (by decide)]
      omega
    iterate 5 refine mj_T.pl rfl rfl rfl rfl ?_
    refine mj_T.call (ins := .invokevirtual 107) rfl rfl (Nat.le_of_ble_eq_true rfl) (Nat.le_of_ble_eq_true rfl) (by simp [mj_recv, jS_a G hs1]) rfl (jS_adds (D := D + 2) (V := W1) G (to := 656) (a := 656) (b := 658) (f := 1) (by decide) (by decide) (by decide) (Or.inl rfl) (jnl_of_lt v1 hyfit) hs1) (fun v' h2 hq' => ?_) (fun i h' hq' => by obtain ⟨_, _, h⟩ := hq'; cases h)
    obtain ⟨_, hs2, hq'⟩ := hq'
    cases hq'
    have b1 : jvu W1 656 (W1 656 + 1 * W1 658) 656 = W1 656 + 1 * W1 658 := jvu_at _ _ _
    have b2 : ∀ s, s ≠ 656 → jvu W1 656 (W1 656 + 1 * W1 658) s = W1 s := fun s hne => jvu_ne _ _ _ hne
    generalize jvu W1 656 (W1 656 + 1 * W1 658) = W2 at hs2 b1 b2
    have f2 : (∀ s, s ≠ 652 → s ≠ 653 → s ≠ 654 → s ≠ 656 → s ≠ 658 → s ≠ 659 → s ≠ 660 → s ≠ 661 → s ≠ 662 → W2 s = V s) := fun s x1 x2 x3 x4 x5 x6 x7 x8 x9 => by rw [b2 s x4, a2 s x8, hf s x1 x2 x3 x4 x5 x6 x7 x8 x9]
    have r2 := jrows_keep hrow hk (W := W2) (fun s hlt => f2 s (by omega) (by omega) (by omega) (by omega) (by omega) (by omega) (by omega) (by omega) (by omega))
    have k2 : (W2 656).natAbs ≤ y := by rw [b1]; exact v1
    have n2 : (W2 657).natAbs ≤ y := by rw [f2 657 (by decide) (by decide) (by decide) (by decide) (by decide) (by decide) (by decide) (by decide) (by decide)]; exact hN
    iterate 2 refine mj_T.pl rfl rfl rfl rfl ?_
    refine mj_T.call (ins := .invokevirtual 162) rfl rfl (Nat.le_of_ble_eq_true rfl) (Nat.le_of_ble_eq_true rfl) (by simp [mj_recv, jS_a G hs2]) rfl (jp_valueAt (D := D + 1) (V := W2) (p := 9) G (by decide) (C := Cr) (x := y) (r2 9 (by omega) (by omega)).2 k2 n2 hy hfit hfit2 hs2) (fun v' h3 hq' => ?_) (fun i h' hq' => by obtain ⟨_, _, _, _, _, _, _, h⟩ := hq'; cases h)
    obtain ⟨W3, _, hs3, c1, c2, c3, c4, hq'⟩ := hq'
    cases hq'
    have r3 := jrows_keep r2 hk (W := W3) (fun s hlt => c1 s (by omega) (by omega) (by omega))
    have t90 : ∀ (z : Int), 0 ≤ z → z ≤ 1 → mj_T (D + 6) mj_m220 90 [some (.ref q0), some (.int (jn root)), some (.int (jn first)), some (.int (jn (bits : Int))), some (.int (jn (j : Int))), e5] [.int (jn z)] h3 Q := by
      intro z z1 z2
      iterate 4 refine mj_T.pl rfl rfl rfl rfl ?_
      refine mj_T.call (ins := .invokevirtual 165) rfl rfl (Nat.le_of_ble_eq_true rfl) (Nat.le_of_ble_eq_true rfl) (by simp [mj_recv, jS_a G hs3]) rfl (jp_changesAt (D := D) (V := W3) G h7 hk (way := 0) (x := y) (by decide) r3 (fun _ => ⟨by rw [c1 656 (by decide) (by decide) (by decide)]; exact k2, by rw [c1 657 (by decide) (by decide) (by decide)]; exact n2, hy, hfit, hfit2⟩) hs3) (fun v' h4 hq' => ?_) (fun i h' hq' => by obtain ⟨_, _, _, _, _, _, _, h⟩ := hq'; cases h)
      obtain ⟨W4, _, zc, hs4, d1, d2, d3, hq'⟩ := hq'
      cases hq'
      refine mj_T.isub rfl ?_
      refine mj_T.pl rfl rfl rfl rfl ?_
      refine mj_T.isub rfl ?_
      refine mj_T.pl rfl rfl rfl rfl ?_
      have g4 : (∀ s, s ≠ 652 → s ≠ 653 → s ≠ 654 → s ≠ 656 → s ≠ 658 → s ≠ 659 → s ≠ 660 → s ≠ 661 → s ≠ 662 → W4 s = V s) := fun s x1 x2 x3 x4 x5 x6 x7 x8 x9 => by rw [d1 s x1 x6 x7, c1 s x1 x6 x7, f2 s x1 x2 x3 x4 x5 x6 x7 x8 x9]
      have m4 : ∀ s, s ≠ 652 → s ≠ 659 → s ≠ 660 → s ≠ 656 → W4 s = W1 s := fun s x1 x6 x7 x8 => by rw [d1 s x1 x6 x7, c1 s x1 x6 x7, b2 s x8]
      have k4 : W4 656 = W1 656 + 1 * W1 658 := by rw [d1 656 (by decide) (by decide) (by decide), c1 656 (by decide) (by decide) (by decide), b1]
      have t116 : ∀ (W5 : Nat → Int) (h5 : mj_H), jS hp q1 q2 q3 W5 h5 → (∀ s, s ≠ 652 → s ≠ 653 → s ≠ 654 → s ≠ 656 → s ≠ 658 → s ≠ 659 → s ≠ 660 → s ≠ 661 → s ≠ 662 → W5 s = V s) → W5 662 = 2 → W5 658 = W 658 → (W5 656).natAbs ≤ (W 656).natAbs + (W 658).natAbs → mj_T (D + 6) mj_m220 116 [some (.ref q0), some (.int (jn root)), some (.int (jn first)), some (.int (jn (bits : Int))), some (.int (jn (j : Int))), some (.int (jn z))] [] h5 Q := by
        intro W5 h5 hs5 g5 y2 y3 y4
        iterate 5 refine mj_T.pl rfl rfl rfl rfl ?_
        refine mj_T.call (ins := .invokevirtual 101) rfl rfl (Nat.le_of_ble_eq_true rfl) (Nat.le_of_ble_eq_true rfl) (by simp [mj_recv, jS_a G hs5]) rfl (jS_cuts (D := D + 2) (V := W5) G (q := 653) (r := 654) (a := 658) (b := 662) (by decide) (by decide) (by decide) (by decide) (by decide) (by decide) (by decide) (by decide) (by rw [y2]; decide) hs5) (fun v' h6 hq' => ?_) (fun i h' hq' => by obtain ⟨_, _, h⟩ := hq'; cases h)
        obtain ⟨_, hs6, hq'⟩ := hq'
        cases hq'
        have e1 : jvu (jvu W5 653 ((W5 658).tdiv (W5 662))) 654 ((W5 658).tmod (W5 662)) 653 = (W5 658).tdiv (W5 662) := by rw [jvu_ne _ _ _ (by decide), jvu_at]
        have e2 : ∀ s, s ≠ 653 → s ≠ 654 → jvu (jvu W5 653 ((W5 658).tdiv (W5 662))) 654 ((W5 658).tmod (W5 662)) s = W5 s := fun s x1 x2 => by rw [jvu_ne _ _ _ x2, jvu_ne _ _ _ x1]
        generalize jvu (jvu W5 653 ((W5 658).tdiv (W5 662))) 654 ((W5 658).tmod (W5 662)) = W6 at hs6 e1 e2
        iterate 3 refine mj_T.pl rfl rfl rfl rfl ?_
        refine mj_T.call (ins := .invokevirtual 84) rfl rfl (Nat.le_of_ble_eq_true rfl) (Nat.le_of_ble_eq_true rfl) (by simp [mj_recv, jS_a G hs6]) rfl (jS_copies (D := D + 4) G (to := 658) (s := 653) (by decide) (by decide) hs6) (fun v' h7 hq' => ?_) (fun i h' hq' => by obtain ⟨_, _, h⟩ := hq'; cases h)
        obtain ⟨_, hs7, hq'⟩ := hq'
        cases hq'
        have i1 : jvu W6 658 (W6 653) 658 = W6 653 := jvu_at _ _ _
        have i2 : ∀ s, s ≠ 658 → jvu W6 658 (W6 653) s = W6 s := fun s hne => jvu_ne _ _ _ hne
        generalize jvu W6 658 (W6 653) = W7 at hs7 i1 i2
        refine mj_T.iinc (a := (j : Int)) rfl rfl ?_
        refine mj_T.pl rfl rfl rfl rfl ?_
        refine ih (j + 1) W7 h7 _ (by omega) hs7 (fun s x1 x2 x3 x4 x5 x6 x7 x8 x9 => by rw [i2 s x5, e2 s x2 x3, g5 s x1 x2 x3 x4 x5 x6 x7 x8 x9]) (by rw [i2 662 (by decide), e2 662 (by decide) (by decide), y2]) ?_
        rw [i2 656 (by decide), e2 656 (by decide) (by decide), i1, e1, y2, y3, Int.natAbs_tdiv]
        show (W5 656).natAbs + 2 * ((W 658).natAbs / 2) ≤ y
        omega
      refine mj_T.icmp (a := first - zc - z) (b := root) rfl ⟨by omega, by omega⟩ hr (fun hc2 => ?_) (fun hc2 => ?_)
      · exact t116 W4 h4 hs4 g4 (by rw [m4 662 (by decide) (by decide) (by decide) (by decide), a2 662 (by decide), h62]) (by rw [m4 658 (by decide) (by decide) (by decide) (by decide), a2 658 (by decide)]) (by rw [k4, a2 656 (by decide), a2 658 (by decide)]; omega)
      iterate 3 refine mj_T.pl rfl rfl rfl rfl ?_
      refine mj_T.call (ins := .invokevirtual 84) rfl rfl (Nat.le_of_ble_eq_true rfl) (Nat.le_of_ble_eq_true rfl) (by simp [mj_recv, jS_a G hs4]) rfl (jS_copies (D := D + 4) G (to := 656) (s := 661) (by decide) (by decide) hs4) (fun v' h5 hq' => ?_) (fun i h' hq' => by obtain ⟨_, _, h⟩ := hq'; cases h)
      obtain ⟨_, hs5, hq'⟩ := hq'
      cases hq'
      have j1 : jvu W4 656 (W4 661) 656 = W4 661 := jvu_at _ _ _
      have j2 : ∀ s, s ≠ 656 → jvu W4 656 (W4 661) s = W4 s := fun s hne => jvu_ne _ _ _ hne
      generalize jvu W4 656 (W4 661) = W5 at hs5 j1 j2
      exact t116 W5 h5 hs5 (fun s x1 x2 x3 x4 x5 x6 x7 x8 x9 => by rw [j2 s x4, g4 s x1 x2 x3 x4 x5 x6 x7 x8 x9]) (by rw [j2 662 (by decide), m4 662 (by decide) (by decide) (by decide) (by decide), a2 662 (by decide), h62]) (by rw [j2 658 (by decide), m4 658 (by decide) (by decide) (by decide) (by decide), a2 658 (by decide)]) (by rw [j1, m4 661 (by decide) (by decide) (by decide) (by decide), a1]; omega)
    have hsr := jsg_range (W3 659)
    refine mj_T.if0 (a := jsg (W3 659)) rfl ⟨by omega, by omega⟩ (fun hc2 => ?_) (fun hc2 => ?_)
    · refine mj_T.pl rfl rfl rfl rfl ?_
      exact t90 0 (by decide) (by decide)
    · iterate 2 refine mj_T.pl rfl rfl rfl rfl ?_
      exact t90 1 (by decide) (by decide)
theorem jp_closes (G : jG hp q0 q1 q2 q3 fs) (h7 : fs[7]? = some (.int (jn ((k + 1 : Nat) : Int)))) (hk : k ≤ 12) {root : Int} (hr : jr root) {Cr C x : Nat} (hrow : (∀ p, 9 ≤ p → p ≤ 9 + k → 1 ≤ jdg V p 13 ∧ ∀ e, e < 13 → (V (p * 13 + e)).natAbs ≤ Cr)) (hC : ∀ e, e < 13 → (V (9 * 13 + e)).natAbs ≤ C) (hN : (V 657).natAbs ≤ x) (hx : 1 ≤ x) (hfit : 13 * (Cr * (6 * ((C + 2) * x)) ^ 12) < jB ^ 698) (hfit2 : (6 * ((C + 2) * x)) ^ 12 < jB ^ 698) (hs : jS hp q1 q2 q3 V h) :
    mj_Ok (D + 7) 220 [.ref q0, .int (jn root)] h (fun r => ∃ (W : Nat → Int) (h' : mj_H), jS hp q1 q2 q3 W h' ∧ (∀ s, s ≠ 652 → s ≠ 653 → s ≠ 654 → s ≠ 656 → s ≠ 658 → s ≠ 659 → s ≠ 660 → s ≠ 661 → s ≠ 662 → W s = V s) ∧ (W 656).natAbs ≤ 6 * ((C + 2) * x) ∧ r = (.inl none, h')) := by
  have hCx : x ≤ (C + 2) * x := Nat.le_mul_of_pos_left _ (by omega)
  obtain ⟨y, hy⟩ : ∃ y, y = 6 * ((C + 2) * x) := ⟨_, rfl⟩
  rw [← hy] at hfit hfit2
  rw [← hy]
  have hy1 : 1 ≤ y := by omega
  have hyfit : y < jB ^ 698 := Nat.lt_of_le_of_lt (by have := Nat.pow_le_pow_right hy1 (show 1 ≤ 12 by decide); rwa [Nat.pow_one] at this) hfit2
  refine mj_Ok.of (M := mj_m220) rfl rfl rfl ?_
  iterate 2 refine mj_T.pl rfl rfl rfl rfl ?_
  refine mj_T.call (ins := .invokevirtual 165) rfl rfl (Nat.le_of_ble_eq_true rfl) (Nat.le_of_ble_eq_true rfl) (by simp [mj_recv, jS_a G hs]) rfl (jp_changesAt (D := D) (V := V) G h7 hk (way := -1) (x := 1) (by decide) hrow (fun e => absurd e (by decide)) hs) (fun v' h1 hq' => ?_) (fun i h' hq' => by obtain ⟨_, _, _, _, _, _, _, h⟩ := hq'; cases h)
  obtain ⟨W1, _, zc, hs1, d1, d2, d3, hq'⟩ := hq'
  cases hq'
  have r1 := jrows_keep hrow hk (W := W1) (fun s hlt => d1 s (by omega) (by omega) (by omega))
  iterate 2 refine mj_T.pl rfl rfl rfl rfl ?_
  refine mj_T.call (ins := .invokevirtual 171) rfl rfl (Nat.le_of_ble_eq_true rfl) (Nat.le_of_ble_eq_true rfl) (by simp [mj_recv, jS_a G hs1]) rfl (jp_laysStep (D := D + 1) (V := W1) G (C := C) (x := x) (r1 9 (by omega) (by omega)).1 (fun e he => by rw [d1 _ (by omega) (by omega) (by omega)]; exact hC e he) (by rw [d1 657 (by decide) (by decide) (by decide)]; exact hN) hx (by omega) hs1) (fun v' h2 hq' => ?_) (fun i h' hq' => by obtain ⟨_, _, _, _, _, _, _, h⟩ := hq'; cases h)
  obtain ⟨W2, _, bits, hs2, e1, e2, e3, hq'⟩ := hq'
  cases hq'
  iterate 4 refine mj_T.pl rfl rfl rfl rfl ?_
  refine mj_T.call (ins := .invokevirtual 45) rfl rfl (Nat.le_of_ble_eq_true rfl) (Nat.le_of_ble_eq_true rfl) (by simp [mj_recv, jS_a G hs2]) rfl (jS_sets (D := D + 5) G (s := 656) (v := 0) (by decide) ⟨by decide, by decide⟩ hs2) (fun v' h3 hq' => ?_) (fun i h' hq' => by obtain ⟨_, _, h⟩ := hq'; cases h)
  obtain ⟨_, hs3, hq'⟩ := hq'
  cases hq'
  have a1 : jvu W2 656 (0) 656 = 0 := jvu_at _ _ _
  have a2 : ∀ s, s ≠ 656 → jvu W2 656 (0) s = W2 s := fun s hne => jvu_ne _ _ _ hne
  generalize jvu W2 656 (0) = W3 at hs3 a1 a2
  have v1 : (W3 656 + -1 * W3 658).natAbs ≤ 2 * ((C + 2) * x) := by
    rw [a1, a2 658 (by decide)]
    omega
  iterate 5 refine mj_T.pl rfl rfl rfl rfl ?_
  refine mj_T.call (ins := .invokevirtual 107) rfl rfl (Nat.le_of_ble_eq_true rfl) (Nat.le_of_ble_eq_true rfl) (by simp [mj_recv, jS_a G hs3]) rfl (jS_adds (D := D + 2) (V := W3) G (to := 656) (a := 656) (b := 658) (f := -1) (by decide) (by decide) (by decide) (Or.inr rfl) (jnl_of_lt v1 (by omega)) hs3) (fun v' h4 hq' => ?_) (fun i h' hq' => by obtain ⟨_, _, h⟩ := hq'; cases h)
  obtain ⟨_, hs4, hq'⟩ := hq'
  cases hq'
  have b1 : jvu W3 656 (W3 656 + -1 * W3 658) 656 = W3 656 + -1 * W3 658 := jvu_at _ _ _
  have b2 : ∀ s, s ≠ 656 → jvu W3 656 (W3 656 + -1 * W3 658) s = W3 s := fun s hne => jvu_ne _ _ _ hne
  generalize jvu W3 656 (W3 656 + -1 * W3 658) = W4 at hs4 b1 b2
  iterate 3 refine mj_T.pl rfl rfl rfl rfl ?_
  refine mj_T.call (ins := .invokevirtual 45) rfl rfl (Nat.le_of_ble_eq_true rfl) (Nat.le_of_ble_eq_true rfl) (by simp [mj_recv, jS_a G hs4]) rfl (jS_sets (D := D + 5) G (s := 662) (v := 2) (by decide) ⟨by decide, by decide⟩ hs4) (fun v' h5 hq' => ?_) (fun i h' hq' => by obtain ⟨_, _, h⟩ := hq'; cases h)
  obtain ⟨_, hs5, hq'⟩ := hq'
  cases hq'
  have c1 : jvu W4 662 (2) 662 = 2 := jvu_at _ _ _
  have c2 : ∀ s, s ≠ 662 → jvu W4 662 (2) s = W4 s := fun s hne => jvu_ne _ _ _ hne
  generalize jvu W4 662 (2) = W5 at hs5 c1 c2
  iterate 2 refine mj_T.pl rfl rfl rfl rfl ?_
  have f5 : (∀ s, s ≠ 652 → s ≠ 653 → s ≠ 654 → s ≠ 656 → s ≠ 658 → s ≠ 659 → s ≠ 660 → s ≠ 661 → s ≠ 662 → W5 s = V s) := fun s x1 x2 x3 x4 x5 x6 x7 x8 x9 => by rw [c2 s x9, b2 s x4, a2 s x4, e1 s x1 x2 x3 x5 x8, d1 s x1 x6 x7]
  refine jp_cl (D := D) (V := V) G h7 hk hr ⟨d2, d3⟩ e3 hrow (y := y) (Nat.le_trans hN (by omega)) hy1 hfit hfit2 (fun W h k1 k2 k3 => ⟨W, h, k1, k2, k3, rfl⟩) (bits + 1) 0 W5 h5 none (by omega) hs5 f5 c1 ?_
  rw [c2 656 (by decide), c2 658 (by decide), b1, b2 658 (by decide), a2 658 (by decide)]
  rw [a2 658 (by decide)] at v1
  omega
theorem jp_tells (G : jG hp q0 q1 q2 q3 fs) {i j : Nat} (hi : 652 ≤ i ∧ i ≤ 662) (hj : 652 ≤ j ∧ j ≤ 662) (hi2 : i ≠ 653 ∧ i ≠ 655) (hj2 : j ≠ 653 ∧ j ≠ 655) (hV : V j ≠ 0) (hs : jS hp q1 q2 q3 V h) :
    mj_Ok (D + 6) 221 [.ref q0, .int (jn (i : Nat)), .int (jn (j : Nat))] h (fun r => ∃ (W : Nat → Int) (h' : mj_H), jS hp q1 q2 q3 W h' ∧ (∀ s, s ≠ 650 → s ≠ 651 → s ≠ 653 → s ≠ 655 → s ≠ 663 → s ≠ 664 → W s = V s) ∧ (W 650).natAbs ≤ (V i).natAbs ∧ (W 651).natAbs ≤ (V j).natAbs ∧ r = (.inl (some (.int (jn (jsg (W 650))))), h')) := by
  refine mj_Ok.of (M := mj_m221) rfl rfl rfl ?_
  iterate 4 refine mj_T.pl rfl rfl rfl rfl ?_
  refine mj_T.call (ins := .invokevirtual 127) rfl rfl (Nat.le_of_ble_eq_true rfl) (Nat.le_of_ble_eq_true rfl) (by simp [mj_recv, jS_a G hs]) rfl (jp_commons (D := D) (V := V) G (to := 653) (i := i) (j := j) (by decide) (by omega) (by omega) (by decide) (by decide) (by decide) (by omega) hs) (fun v' h1 hq' => ?_) (fun i h' hq' => by obtain ⟨_, _, _, _, _, h⟩ := hq'; cases h)
  obtain ⟨W1, _, hs1, k1, k2, hq'⟩ := hq'
  cases hq'
  have g0 : W1 653 ≠ 0 := by
    rw [k1]
    have : 0 < Nat.gcd (V i).natAbs (V j).natAbs := Nat.gcd_pos_of_pos_right _ (by omega)
    omega
  iterate 3 refine mj_T.pl rfl rfl rfl rfl ?_
  refine mj_T.call (ins := .invokevirtual 84) rfl rfl (Nat.le_of_ble_eq_true rfl) (Nat.le_of_ble_eq_true rfl) (by simp [mj_recv, jS_a G hs1]) rfl (jS_copies (D := D + 3) G (to := 650) (s := i) (by decide) (by omega) hs1) (fun v' h2 hq' => ?_) (fun i h' hq' => by obtain ⟨_, _, h⟩ := hq'; cases h)
  obtain ⟨_, hs2, hq'⟩ := hq'
  cases hq'
  have a1 : jvu W1 650 (W1 i) 650 = W1 i := jvu_at _ _ _
  have a2 : ∀ s, s ≠ 650 → jvu W1 650 (W1 i) s = W1 s := fun s hne => jvu_ne _ _ _ hne
  generalize jvu W1 650 (W1 i) = W2 at hs2 a1 a2
  iterate 3 refine mj_T.pl rfl rfl rfl rfl ?_
  refine mj_T.call (ins := .invokevirtual 84) rfl rfl (Nat.le_of_ble_eq_true rfl) (Nat.le_of_ble_eq_true rfl) (by simp [mj_recv, jS_a G hs2]) rfl (jS_copies (D := D + 3) G (to := 651) (s := j) (by decide) (by omega) hs2) (fun v' h3 hq' => ?_) (fun i h' hq' => by obtain ⟨_, _, h⟩ := hq'; cases h)
  obtain ⟨_, hs3, hq'⟩ := hq'
  cases hq'
  have b1 : jvu W2 651 (W2 j) 651 = W2 j := jvu_at _ _ _
  have b2 : ∀ s, s ≠ 651 → jvu W2 651 (W2 j) s = W2 s := fun s hne => jvu_ne _ _ _ hne
  generalize jvu W2 651 (W2 j) = W3 at hs3 b1 b2
  iterate 2 refine mj_T.pl rfl rfl rfl rfl ?_
  refine mj_T.call (ins := .invokevirtual 68) rfl rfl (Nat.le_of_ble_eq_true rfl) (Nat.le_of_ble_eq_true rfl) (by simp [mj_recv, jS_a G hs3]) rfl (jS_sign (D := D + 4) G (s := 650) (by decide) hs3) (fun v' h' hq' => ?_) (fun i h' hq' => by cases hq')
  cases hq'
  have u1 : (W3 650).natAbs ≤ (V i).natAbs := by rw [b2 650 (by decide), a1, k2 i (by omega) (by omega) (by omega) (by omega)]; exact Nat.le_refl _
  have u2 : (W3 651).natAbs ≤ (V j).natAbs := by rw [b1, a2 j (by omega), k2 j (by omega) (by omega) (by omega) (by omega)]; exact Nat.le_refl _
  have u3 : W3 653 = W1 653 := by rw [b2 653 (by decide), a2 653 (by decide)]
  have u4 : ∀ s, s ≠ 650 → s ≠ 651 → s ≠ 653 → s ≠ 655 → s ≠ 663 → s ≠ 664 → W3 s = V s := fun s x1 x2 x3 x4 x5 x6 => by rw [b2 s x2, a2 s x1, k2 s x3 x4 x5 x6]
  have t45 : ∀ (W4 : Nat → Int) (h4 : mj_H), jS hp q1 q2 q3 W4 h4 → (∀ s, s ≠ 650 → s ≠ 663 → s ≠ 664 → W4 s = W3 s) → (W4 650).natAbs ≤ (V i).natAbs → mj_T (D + 5) mj_m221 45 [some (.ref q0), some (.int (jn (i : Nat))), some (.int (jn (j : Nat)))] [] h4 (fun r => ∃ (W : Nat → Int) (h' : mj_H), jS hp q1 q2 q3 W h' ∧ (∀ s, s ≠ 650 → s ≠ 651 → s ≠ 653 → s ≠ 655 → s ≠ 663 → s ≠ 664 → W s = V s) ∧ (W 650).natAbs ≤ (V i).natAbs ∧ (W 651).natAbs ≤ (V j).natAbs ∧ r = (.inl (some (.int (jn (jsg (W 650))))), h')) := by
    intro W4 h4 hs4 y1 y2
    iterate 3 refine mj_T.pl rfl rfl rfl rfl ?_
    refine mj_T.call (ins := .invokevirtual 133) rfl rfl (Nat.le_of_ble_eq_true rfl) (Nat.le_of_ble_eq_true rfl) (by simp [mj_recv, jS_a G hs4]) rfl (jp_exact (D := D) (V := W4) G (i := 651) (j := 653) (by decide) (by decide) (by decide) (by decide) (by decide) (by decide) (by rw [y1 653 (by decide) (by decide) (by decide), u3]; exact g0) hs4) (fun v' h5 hq' => ?_) (fun i h' hq' => by obtain ⟨_, _, _, _, _, h⟩ := hq'; cases h)
    obtain ⟨W5, _, hs5, z1, z2, hq'⟩ := hq'
    cases hq'
    iterate 2 refine mj_T.pl rfl rfl rfl rfl ?_
    refine mj_T.call (ins := .invokevirtual 68) rfl rfl (Nat.le_of_ble_eq_true rfl) (Nat.le_of_ble_eq_true rfl) (by simp [mj_recv, jS_a G hs5]) rfl (jS_sign (D := D + 4) G (s := 650) (by decide) hs5) (fun v' h' hq' => ?_) (fun i h' hq' => by cases hq')
    cases hq'
    refine mj_T.ret rfl rfl rfl ⟨W5, h5, hs5, fun s x1 x2 x3 x4 x5 x6 => by rw [z2 s x2 x5 x6, y1 s x1 x5 x6, u4 s x1 x2 x3 x4 x5 x6], by rw [z2 650 (by decide) (by decide) (by decide)]; exact y2, ?_, rfl⟩
    rw [z1, Int.natAbs_tdiv, y1 651 (by decide) (by decide) (by decide)]
    exact Nat.le_trans (Nat.div_le_self _ _) u2
  have hsr := jsg_range (W3 650)
  refine mj_T.if0 (a := jsg (W3 650)) rfl ⟨by omega, by omega⟩ (fun hc => ?_) (fun hc => ?_)
  · exact t45 W3 h3 hs3 (fun s _ _ _ => rfl) u1
  iterate 3 refine mj_T.pl rfl rfl rfl rfl ?_
  refine mj_T.call (ins := .invokevirtual 133) rfl rfl (Nat.le_of_ble_eq_true rfl) (Nat.le_of_ble_eq_true rfl) (by simp [mj_recv, jS_a G hs3]) rfl (jp_exact (D := D) (V := W3) G (i := 650) (j := 653) (by decide) (by decide) (by decide) (by decide) (by decide) (by decide) (by rw [u3]; exact g0) hs3) (fun v' h4 hq' => ?_) (fun i h' hq' => by obtain ⟨_, _, _, _, _, h⟩ := hq'; cases h)
  obtain ⟨W4, _, hs4, z1, z2, hq'⟩ := hq'
  cases hq'
  exact t45 W4 h4 hs4 z2 (by rw [z1, Int.natAbs_tdiv]; exact Nat.le_trans (Nat.div_le_self _ _) u1)
end JCL
