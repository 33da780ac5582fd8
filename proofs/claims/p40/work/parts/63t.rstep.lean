/-! The reference's step and closing in. -/
theorem jrows_keep {V W : Nat → Int} {k C : Nat} (hrow : (∀ p, 9 ≤ p → p ≤ 9 + k → 1 ≤ jdg V p 13 ∧ ∀ e, e < 13 → (V (p * 13 + e)).natAbs ≤ C)) (hk : k ≤ 12) (hf : ∀ s, s < 650 → W s = V s) : (∀ p, 9 ≤ p → p ≤ 9 + k → 1 ≤ jdg W p 13 ∧ ∀ e, e < 13 → (W (p * 13 + e)).natAbs ≤ C) := fun p p1 p2 => by
  obtain ⟨r1, r2⟩ := hrow p p1 p2
  refine ⟨by rw [jdg_congr 13 fun e he => hf (p * 13 + e) (by omega)]; exact r1, fun e he => ?_⟩
  rw [hf _ (by omega)]
  exact r2 e he
theorem jls_room : jB ^ 698 ≤ 2 ^ 20940 := by decide +kernel
theorem jls_bits {b M : Nat} (h : 2 ^ b ≤ M) (hM : M < jB ^ 698) : b ≤ 20940 := by
  rcases Nat.lt_or_ge 20940 b with c | c
  · have h1 : 2 ^ 20940 ≤ 2 ^ b := Nat.pow_le_pow_right (by decide) (by omega)
    have := jls_room
    omega
  · exact c
section JLS
variable {D : Nat} {hp h : mj_H} {q0 q1 q2 q3 : Nat} {fs : List Value} {V : Nat → Int} {k : Nat}
theorem jp_ls1 (G : jG hp q0 q1 q2 q3 fs) {C d : Nat} (hd : d < 13) (hC : ∀ e, e < 13 → (V (9 * 13 + e)).natAbs ≤ C) {Q : mj_R → Prop}
    (hend : ∀ (W : Nat → Int) (h : mj_H), jS hp q1 q2 q3 W h → (∀ s, s ≠ 661 → W s = V s) → (W 661).natAbs ≤ C → mj_T (D + 4) mj_m219 57 [some (.ref q0), some (.int (jn (d : Int))), some (.int (jn (d : Int)))] [] h Q) :
    ∀ (m e : Nat) (W : Nat → Int) (h : mj_H), e + m = d → jS hp q1 q2 q3 W h → (∀ s, s ≠ 661 → W s = V s) → (W 661).natAbs ≤ C → mj_T (D + 4) mj_m219 17 [some (.ref q0), some (.int (jn (d : Int))), some (.int (jn (e : Int)))] [] h Q := by
  intro m
  induction m with
  | zero =>
    intro e W h he hs hf hc1
    have he2 : e = d := by omega
    subst he2
    iterate 2 refine mj_T.pl rfl rfl rfl rfl ?_
    refine mj_T.icmp (a := (e : Int)) (b := (e : Int)) rfl ⟨by omega, by omega⟩ ⟨by omega, by omega⟩ (fun hc => ?_) (fun hc => ?_)
    · exact hend W h hs hf hc1
    · simp only [jc, decide_eq_false_iff_not] at hc
      omega
  | succ m ih =>
    intro e W h he hs hf hc1
    iterate 2 refine mj_T.pl rfl rfl rfl rfl ?_
    refine mj_T.icmp (a := (e : Int)) (b := (d : Int)) rfl ⟨by omega, by omega⟩ ⟨by omega, by omega⟩ (fun hc => ?_) (fun hc => ?_)
    · simp only [jc, decide_eq_true_eq] at hc
      omega
    have t51 : ∀ (W1 : Nat → Int) (h1 : mj_H), jS hp q1 q2 q3 W1 h1 → (∀ s, s ≠ 661 → W1 s = V s) → (W1 661).natAbs ≤ C → mj_T (D + 4) mj_m219 51 [some (.ref q0), some (.int (jn (d : Int))), some (.int (jn (e : Int)))] [] h1 Q := fun W1 h1 hs1 hf1 hc2 => by
      refine mj_T.iinc (a := (e : Int)) rfl rfl ?_
      refine mj_T.pl rfl rfl rfl rfl ?_
      exact ih (e + 1) W1 h1 (by omega) hs1 hf1 hc2
    iterate 3 refine mj_T.pl rfl rfl rfl rfl ?_
    refine mj_T.call (ins := .invokestatic 104) rfl rfl (Nat.le_of_ble_eq_true rfl) (Nat.le_of_ble_eq_true rfl) rfl rfl (jq_slot (D := D + 3) (p := 9) (i := e)) (fun v' h' hq' => ?_) (fun i h' hq' => by cases hq')
    cases hq'
    refine mj_T.pl rfl rfl rfl rfl ?_
    refine mj_T.call (ins := .invokevirtual 71) rfl rfl (Nat.le_of_ble_eq_true rfl) (Nat.le_of_ble_eq_true rfl) (by simp [mj_recv, jS_a G hs]) rfl (jS_cmp (D := D + 1) G (s := 9 * 13 + e) (t := 661) (by omega) (by decide) hs) (fun v' h' hq' => ?_) (fun i h' hq' => by cases hq')
    cases hq'
    have hr := jcm_range (W (9 * 13 + e)).natAbs (W 661).natAbs
    refine mj_T.if0 (a := jcm (W (9 * 13 + e)).natAbs (W 661).natAbs) rfl ⟨by omega, by omega⟩ (fun hc2 => ?_) (fun hc2 => ?_)
    · exact t51 W h hs hf hc1
    iterate 4 refine mj_T.pl rfl rfl rfl rfl ?_
    refine mj_T.call (ins := .invokestatic 104) rfl rfl (Nat.le_of_ble_eq_true rfl) (Nat.le_of_ble_eq_true rfl) rfl rfl (jq_slot (D := D + 3) (p := 9) (i := e)) (fun v' h' hq' => ?_) (fun i h' hq' => by cases hq')
    cases hq'
    refine mj_T.call (ins := .invokevirtual 84) rfl rfl (Nat.le_of_ble_eq_true rfl) (Nat.le_of_ble_eq_true rfl) (by simp [mj_recv, jS_a G hs]) rfl (jS_copies (D := D + 2) G (to := 661) (s := 9 * 13 + e) (by decide) (by omega) hs) (fun v' h1 hq' => ?_) (fun i h' hq' => by obtain ⟨_, _, h⟩ := hq'; cases h)
    obtain ⟨_, hs1, hq'⟩ := hq'
    cases hq'
    have a1 : jvu W 661 (W (9 * 13 + e)) 661 = W (9 * 13 + e) := jvu_at _ _ _
    have a2 : ∀ s, s ≠ 661 → jvu W 661 (W (9 * 13 + e)) s = W s := fun s hne => jvu_ne _ _ _ hne
    generalize jvu W 661 (W (9 * 13 + e)) = W1 at hs1 a1 a2
    exact t51 W1 h1 hs1 (fun s hne => by rw [a2 s hne, hf s hne]) (by rw [a1, hf _ (by omega)]; exact hC e (by omega))
theorem jp_ls2 (G : jG hp q0 q1 q2 q3 fs) {M : Nat} (hM : 2 * M < jB ^ 698) (hM1 : 1 ≤ M) {z1 : Int} {Q : mj_R → Prop}
    (hend : ∀ (W : Nat → Int) (h : mj_H) (b : Nat), jS hp q1 q2 q3 W h → (∀ s, s ≠ 658 → W s = V s) → (W 658).natAbs ≤ 2 * M → b ≤ 20940 → Q (.inl (some (.int (jn (b : Int)))), h)) (hP : (V 653).natAbs ≤ M) :
    ∀ (d b : Nat) (W : Nat → Int) (h : mj_H), (V 653).natAbs - 2 ^ b ≤ d → jS hp q1 q2 q3 W h → (∀ s, s ≠ 658 → W s = V s) → W 658 = ((2 ^ b : Nat) : Int) → 2 ^ b ≤ 2 * M → mj_T (D + 4) mj_m219 141 [some (.ref q0), some (.int (jn z1)), some (.int (jn (b : Int)))] [] h Q := by
  intro d
  induction d with
  | zero =>
    intro b W h hd hs hf hb hbM
    iterate 3 refine mj_T.pl rfl rfl rfl rfl ?_
    refine mj_T.call (ins := .invokevirtual 71) rfl rfl (Nat.le_of_ble_eq_true rfl) (Nat.le_of_ble_eq_true rfl) (by simp [mj_recv, jS_a G hs]) rfl (jS_cmp (D := D + 1) G (s := 658) (t := 653) (by decide) (by decide) hs) (fun v' h' hq' => ?_) (fun i h' hq' => by cases hq')
    cases hq'
    have hr := jcm_range (W 658).natAbs (W 653).natAbs
    refine mj_T.if0 (a := jcm (W 658).natAbs (W 653).natAbs) rfl ⟨by omega, by omega⟩ (fun hc2 => ?_) (fun hc2 => ?_)
    · refine mj_T.pl rfl rfl rfl rfl ?_
      exact mj_T.ret rfl rfl rfl (hend W h b hs hf (by rw [hb, Int.natAbs_natCast]; exact hbM) (jls_bits hbM hM))
    · simp only [jc, decide_eq_false_iff_not] at hc2
      refine absurd ?_ hc2
      rw [hb, Int.natAbs_natCast, hf 653 (by decide)]
      unfold jcm
      rw [if_neg (by omega)]
      split <;> omega
  | succ d ih =>
    intro b W h hd hs hf hb hbM
    iterate 3 refine mj_T.pl rfl rfl rfl rfl ?_
    refine mj_T.call (ins := .invokevirtual 71) rfl rfl (Nat.le_of_ble_eq_true rfl) (Nat.le_of_ble_eq_true rfl) (by simp [mj_recv, jS_a G hs]) rfl (jS_cmp (D := D + 1) G (s := 658) (t := 653) (by decide) (by decide) hs) (fun v' h' hq' => ?_) (fun i h' hq' => by cases hq')
    cases hq'
    have hr := jcm_range (W 658).natAbs (W 653).natAbs
    refine mj_T.if0 (a := jcm (W 658).natAbs (W 653).natAbs) rfl ⟨by omega, by omega⟩ (fun hc2 => ?_) (fun hc2 => ?_)
    · refine mj_T.pl rfl rfl rfl rfl ?_
      exact mj_T.ret rfl rfl rfl (hend W h b hs hf (by rw [hb, Int.natAbs_natCast]; exact hbM) (jls_bits hbM hM))
    simp only [jc, decide_eq_false_iff_not] at hc2
    have hlt : 2 ^ b < (V 653).natAbs := by
      refine Classical.byContradiction fun hn => hc2 ?_
      rw [hb, Int.natAbs_natCast, hf 653 (by decide)]
      unfold jcm
      rw [if_neg (by omega)]
      split <;> omega
    have hpos : 0 < 2 ^ b := Nat.pow_pos (by decide)
    have e2 : W 658 + 1 * W 658 = ((2 ^ (b + 1) : Nat) : Int) := by
      rw [hb, Nat.pow_succ]
      omega
    have e3 : 2 ^ (b + 1) = 2 ^ b * 2 := Nat.pow_succ 2 b
    iterate 5 refine mj_T.pl rfl rfl rfl rfl ?_
    refine mj_T.call (ins := .invokevirtual 107) rfl rfl (Nat.le_of_ble_eq_true rfl) (Nat.le_of_ble_eq_true rfl) (by simp [mj_recv, jS_a G hs]) rfl (jS_adds (D := D) (V := W) G (to := 658) (a := 658) (b := 658) (f := 1) (by decide) (by decide) (by decide) (Or.inl rfl) (jnl_of_lt (M := 2 * M) (by rw [e2, Int.natAbs_natCast]; omega) hM) hs) (fun v' h1 hq' => ?_) (fun i h' hq' => by obtain ⟨_, _, h⟩ := hq'; cases h)
    obtain ⟨_, hs1, hq'⟩ := hq'
    cases hq'
    have a1 : jvu W 658 (W 658 + 1 * W 658) 658 = W 658 + 1 * W 658 := jvu_at _ _ _
    have a2 : ∀ s, s ≠ 658 → jvu W 658 (W 658 + 1 * W 658) s = W s := fun s hne => jvu_ne _ _ _ hne
    generalize jvu W 658 (W 658 + 1 * W 658) = W1 at hs1 a1 a2
    refine mj_T.iinc (a := (b : Int)) rfl rfl ?_
    refine mj_T.pl rfl rfl rfl rfl ?_
    exact ih (b + 1) W1 h1 (by omega) hs1 (fun s hne => by rw [a2 s hne, hf s hne]) (by rw [a1, e2]) (by omega)
theorem jp_laysStep (G : jG hp q0 q1 q2 q3 fs) {C x : Nat} (hd1 : 1 ≤ jdg V 9 13) (hC : ∀ e, e < 13 → (V (9 * 13 + e)).natAbs ≤ C) (hN : (V 657).natAbs ≤ x) (hx : 1 ≤ x) (hfit : 2 * ((C + 2) * x) < jB ^ 698) (hs : jS hp q1 q2 q3 V h) :
    mj_Ok (D + 5) 219 [.ref q0] h (fun r => ∃ (W : Nat → Int) (h' : mj_H) (b : Nat), jS hp q1 q2 q3 W h' ∧ (∀ s, s ≠ 652 → s ≠ 653 → s ≠ 654 → s ≠ 658 → s ≠ 661 → W s = V s) ∧ (W 658).natAbs ≤ 2 * ((C + 2) * x) ∧ b ≤ 20940 ∧ r = (.inl (some (.int (jn (b : Int)))), h')) := by
  have hdl := jdg_le V 9 13
  have hlead := jdg_ne V 9 13 hd1
  obtain ⟨d, hd⟩ : ∃ d, jdg V 9 13 = d + 1 := ⟨jdg V 9 13 - 1, by omega⟩
  rw [hd, Nat.add_sub_cancel] at hlead
  have hCx : C + 2 ≤ (C + 2) * x := Nat.le_mul_of_pos_right _ hx
  refine mj_Ok.of (M := mj_m219) rfl rfl rfl ?_
  iterate 2 refine mj_T.pl rfl rfl rfl rfl ?_
  refine mj_T.call (ins := .invokevirtual 114) rfl rfl (Nat.le_of_ble_eq_true rfl) (Nat.le_of_ble_eq_true rfl) (by simp [mj_recv, jS_a G hs]) rfl (jp_degreeOf (D := D + 2) G (p := 9) (by decide) hs) (fun v' h' hq' => ?_) (fun i h' hq' => by cases hq')
  cases hq'
  rw [hd, show ((d + 1 : Nat) : Int) - 1 = (d : Int) by omega]
  iterate 4 refine mj_T.pl rfl rfl rfl rfl ?_
  refine mj_T.call (ins := .invokevirtual 45) rfl rfl (Nat.le_of_ble_eq_true rfl) (Nat.le_of_ble_eq_true rfl) (by simp [mj_recv, jS_a G hs]) rfl (jS_sets (D := D + 3) G (s := 661) (v := 0) (by decide) ⟨by decide, by decide⟩ hs) (fun v' h1 hq' => ?_) (fun i h' hq' => by obtain ⟨_, _, h⟩ := hq'; cases h)
  obtain ⟨_, hs1, hq'⟩ := hq'
  cases hq'
  have a1 : jvu V 661 (0) 661 = 0 := jvu_at _ _ _
  have a2 : ∀ s, s ≠ 661 → jvu V 661 (0) s = V s := fun s hne => jvu_ne _ _ _ hne
  generalize jvu V 661 (0) = W1 at hs1 a1 a2
  iterate 2 refine mj_T.pl rfl rfl rfl rfl ?_
  refine jp_ls1 (D := D) (V := V) G (C := C) (d := d) (by omega) hC (fun W2 h2 hs2 b1 b2 => ?_) d 0 W1 h1 (by omega) hs1 a2 (by rw [a1]; exact Nat.zero_le _)
  have t94 : ∀ (W3 : Nat → Int) (h3 : mj_H), jS hp q1 q2 q3 W3 h3 → (∀ s, s ≠ 653 → s ≠ 654 → s ≠ 661 → W3 s = V s) → (W3 653).natAbs ≤ C → mj_T (D + 4) mj_m219 94 [some (.ref q0), some (.int (jn (d : Int))), some (.int (jn (d : Int)))] [] h3 (fun r => ∃ (W : Nat → Int) (h' : mj_H) (b : Nat), jS hp q1 q2 q3 W h' ∧ (∀ s, s ≠ 652 → s ≠ 653 → s ≠ 654 → s ≠ 658 → s ≠ 661 → W s = V s) ∧ (W 658).natAbs ≤ 2 * ((C + 2) * x) ∧ b ≤ 20940 ∧ r = (.inl (some (.int (jn (b : Int)))), h')) := by
    intro W3 h3 hs3 c1 c2
    iterate 3 refine mj_T.pl rfl rfl rfl rfl ?_
    refine mj_T.call (ins := .invokevirtual 45) rfl rfl (Nat.le_of_ble_eq_true rfl) (Nat.le_of_ble_eq_true rfl) (by simp [mj_recv, jS_a G hs3]) rfl (jS_sets (D := D + 3) G (s := 652) (v := 2) (by decide) ⟨by decide, by decide⟩ hs3) (fun v' h4 hq' => ?_) (fun i h' hq' => by obtain ⟨_, _, h⟩ := hq'; cases h)
    obtain ⟨_, hs4, hq'⟩ := hq'
    cases hq'
    have d1 : jvu W3 652 (2) 652 = 2 := jvu_at _ _ _
    have d2 : ∀ s, s ≠ 652 → jvu W3 652 (2) s = W3 s := fun s hne => jvu_ne _ _ _ hne
    generalize jvu W3 652 (2) = W4 at hs4 d1 d2
    have v1 : (W4 653 + 1 * W4 652).natAbs ≤ C + 2 := by
      rw [d1, d2 653 (by decide)]
      omega
    iterate 5 refine mj_T.pl rfl rfl rfl rfl ?_
    refine mj_T.call (ins := .invokevirtual 107) rfl rfl (Nat.le_of_ble_eq_true rfl) (Nat.le_of_ble_eq_true rfl) (by simp [mj_recv, jS_a G hs4]) rfl (jS_adds (D := D) (V := W4) G (to := 653) (a := 653) (b := 652) (f := 1) (by decide) (by decide) (by decide) (Or.inl rfl) (jnl_of_lt (M := 2 * ((C + 2) * x)) (by omega) hfit) hs4) (fun v' h5 hq' => ?_) (fun i h' hq' => by obtain ⟨_, _, h⟩ := hq'; cases h)
    obtain ⟨_, hs5, hq'⟩ := hq'
    cases hq'
    have e1 : jvu W4 653 (W4 653 + 1 * W4 652) 653 = W4 653 + 1 * W4 652 := jvu_at _ _ _
    have e2 : ∀ s, s ≠ 653 → jvu W4 653 (W4 653 + 1 * W4 652) s = W4 s := fun s hne => jvu_ne _ _ _ hne
    generalize jvu W4 653 (W4 653 + 1 * W4 652) = W5 at hs5 e1 e2
    have v2 : (W5 653 * W5 657).natAbs ≤ (C + 2) * x := by
      rw [Int.natAbs_mul, e1, e2 657 (by decide), d2 657 (by decide), c1 657 (by decide) (by decide) (by decide)]
      exact Nat.mul_le_mul v1 hN
    iterate 4 refine mj_T.pl rfl rfl rfl rfl ?_
    refine mj_T.call (ins := .invokevirtual 117) rfl rfl (Nat.le_of_ble_eq_true rfl) (Nat.le_of_ble_eq_true rfl) (by simp [mj_recv, jS_a G hs5]) rfl (jS_mul (D := D + 2) (V := W5) G (to := 653) (a := 653) (b := 657) (by decide) (by decide) (by decide) (jnl_of_lt (M := 2 * ((C + 2) * x)) (by omega) hfit) hs5) (fun v' h6 hq' => ?_) (fun i h' hq' => by obtain ⟨_, _, h⟩ := hq'; cases h)
    obtain ⟨_, hs6, hq'⟩ := hq'
    cases hq'
    have f1 : jvu W5 653 (W5 653 * W5 657) 653 = W5 653 * W5 657 := jvu_at _ _ _
    have f2 : ∀ s, s ≠ 653 → jvu W5 653 (W5 653 * W5 657) s = W5 s := fun s hne => jvu_ne _ _ _ hne
    generalize jvu W5 653 (W5 653 * W5 657) = W6 at hs6 f1 f2
    iterate 3 refine mj_T.pl rfl rfl rfl rfl ?_
    refine mj_T.call (ins := .invokevirtual 45) rfl rfl (Nat.le_of_ble_eq_true rfl) (Nat.le_of_ble_eq_true rfl) (by simp [mj_recv, jS_a G hs6]) rfl (jS_sets (D := D + 3) G (s := 658) (v := 1) (by decide) ⟨by decide, by decide⟩ hs6) (fun v' h7 hq' => ?_) (fun i h' hq' => by obtain ⟨_, _, h⟩ := hq'; cases h)
    obtain ⟨_, hs7, hq'⟩ := hq'
    cases hq'
    have g1 : jvu W6 658 (1) 658 = 1 := jvu_at _ _ _
    have g2 : ∀ s, s ≠ 658 → jvu W6 658 (1) s = W6 s := fun s hne => jvu_ne _ _ _ hne
    generalize jvu W6 658 (1) = W7 at hs7 g1 g2
    iterate 2 refine mj_T.pl rfl rfl rfl rfl ?_
    exact jp_ls2 (D := D) (V := W7) G (M := (C + 2) * x) hfit (by omega) (fun W h b k1 k2 k3 k4 => ⟨W, h, b, k1, fun s x1 x2 x3 x4 x5 => by rw [k2 s x4, g2 s x4, f2 s x2, e2 s x2, d2 s x1, c1 s x2 x3 x5], k3, k4, rfl⟩) (by rw [g2 653 (by decide), f1]; exact v2) _ 0 W7 h7 (Nat.le_refl _) hs7 (fun s _ => rfl) (by rw [g1]; rfl) (by omega)
  iterate 6 refine mj_T.pl rfl rfl rfl rfl ?_
  refine mj_T.call (ins := .invokestatic 104) rfl rfl (Nat.le_of_ble_eq_true rfl) (Nat.le_of_ble_eq_true rfl) rfl rfl (jq_slot (D := D + 3) (p := 9) (i := d)) (fun v' h' hq' => ?_) (fun i h' hq' => by cases hq')
  cases hq'
  have v9 : W2 (9 * 13 + d) = V (9 * 13 + d) := b1 _ (by omega)
  refine mj_T.call (ins := .invokevirtual 101) rfl rfl (Nat.le_of_ble_eq_true rfl) (Nat.le_of_ble_eq_true rfl) (by simp [mj_recv, jS_a G hs2]) rfl (jS_cuts (D := D) (V := W2) G (q := 653) (r := 654) (a := 661) (b := 9 * 13 + d) (by decide) (by decide) (by decide) (by omega) (by decide) (by decide) (by omega) (by decide) (by rw [v9]; exact hlead) hs2) (fun v' h3 hq' => ?_) (fun i h' hq' => by obtain ⟨_, _, h⟩ := hq'; cases h)
  obtain ⟨_, hs3, hq'⟩ := hq'
  cases hq'
  have c1 : jvu (jvu W2 653 ((W2 661).tdiv (W2 (9 * 13 + d)))) 654 ((W2 661).tmod (W2 (9 * 13 + d))) 653 = (W2 661).tdiv (W2 (9 * 13 + d)) := by rw [jvu_ne _ _ _ (by decide), jvu_at]
  have c2 : ∀ s, s ≠ 653 → s ≠ 654 → jvu (jvu W2 653 ((W2 661).tdiv (W2 (9 * 13 + d)))) 654 ((W2 661).tmod (W2 (9 * 13 + d))) s = W2 s := fun s x1 x2 => by rw [jvu_ne _ _ _ x2, jvu_ne _ _ _ x1]
  generalize jvu (jvu W2 653 ((W2 661).tdiv (W2 (9 * 13 + d)))) 654 ((W2 661).tmod (W2 (9 * 13 + d))) = W3 at hs3 c1 c2
  have c3 : (W3 653).natAbs ≤ C := by
    rw [c1, Int.natAbs_tdiv]
    exact Nat.le_trans (Nat.div_le_self _ _) b2
  iterate 2 refine mj_T.pl rfl rfl rfl rfl ?_
  refine mj_T.call (ins := .invokevirtual 68) rfl rfl (Nat.le_of_ble_eq_true rfl) (Nat.le_of_ble_eq_true rfl) (by simp [mj_recv, jS_a G hs3]) rfl (jS_sign (D := D + 3) G (s := 653) (by decide) hs3) (fun v' h' hq' => ?_) (fun i h' hq' => by cases hq')
  cases hq'
  have hr := jsg_range (W3 653)
  refine mj_T.if0 (a := jsg (W3 653)) rfl ⟨by omega, by omega⟩ (fun hc => ?_) (fun hc => ?_)
  · exact t94 W3 h3 hs3 (fun s x1 x2 x3 => by rw [c2 s x1 x2, b1 s x3]) c3
  simp only [jc, Bool.not_eq_false', decide_eq_true_eq, decide_eq_false_iff_not] at hc
  have hneg : W3 653 < 0 := by
    rcases (show W3 653 < 0 ∨ W3 653 = 0 ∨ 0 < W3 653 by omega) with c | c | c
    · exact c
    · rw [c] at hc
      exact absurd (by decide) hc
    · rw [jsg_pos c] at hc
      exact absurd (by decide) hc
  refine mj_T.pl rfl rfl rfl rfl ?_
  refine jS_gb G hs3 rfl ?_
  iterate 2 refine mj_T.pl rfl rfl rfl rfl ?_
  refine mj_T.eq (st2 := [.int (jn (jsg ((W3 653).natAbs : Int))), .int (jn ((653 * 702 : Nat) : Int)), .ref q1]) ?_ rfl rfl (by rw [jsg_pos (by omega)]; rfl) rfl
  refine jS_st G hs3 (s := 653) (w := ((W3 653).natAbs : Int)) (by decide) (Int.natAbs_natCast _) rfl (fun h4 hs4 => ?_)
  exact t94 _ h4 hs4 (fun s x1 x2 x3 => by rw [jvu_ne _ _ _ x1, c2 s x1 x2, b1 s x3]) (by rw [jvu_at, Int.natAbs_natCast]; exact c3)
end JLS
