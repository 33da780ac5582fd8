/-! The reference's polynomials without their contents. -/
section JSH
variable {D : Nat} {hp h : mj_H} {q0 q1 q2 q3 : Nat} {fs : List Value} {V : Nat → Int}
theorem jp_shrinks (G : jG hp q0 q1 q2 q3 fs) {p : Nat} (hpp : p ≤ 49) (hs : jS hp q1 q2 q3 V h) :
    mj_Ok (D + 7) 209 [.ref q0, .int (jn (p : Nat))] h (fun r => ∃ (W : Nat → Int) (h' : mj_H), jS hp q1 q2 q3 W h' ∧ (∀ e, e < 13 → W (p * 13 + e) = (V (p * 13 + e)).tdiv ((jgk V p 13 : Nat) : Int)) ∧ (∀ s, (s < p * 13 ∨ p * 13 + 13 ≤ s) → s ≠ 652 → s ≠ 653 → s ≠ 655 → s ≠ 663 → s ≠ 664 → W s = V s) ∧ r = (.inl none, h')) := by
  refine mj_Ok.of (M := mj_m209) rfl rfl rfl ?_
  iterate 3 refine mj_T.pl rfl rfl rfl rfl ?_
  refine mj_T.call (ins := .invokevirtual 130) rfl rfl (Nat.le_of_ble_eq_true rfl) (Nat.le_of_ble_eq_true rfl) (by simp [mj_recv, jS_a G hs]) rfl (jp_contents (D := D) G (to := 653) (p := p) (by decide) hpp (by decide) (by decide) (by decide) (by decide) (by decide) hs) (fun v' h1 hq' => ?_) (fun i h' hq' => by obtain ⟨_, _, _, _, _, h⟩ := hq'; cases h)
  obtain ⟨W1, _, hs1, g1, f1, hq'⟩ := hq'
  cases hq'
  have e1 : ∀ e, e < 13 → W1 (p * 13 + e) = V (p * 13 + e) := fun e he => f1 _ (by omega) (by omega) (by omega) (by omega) (by omega)
  generalize hgg : jgk V p 13 = g at g1 ⊢
  -- from the loop on
  have loop : mj_T (D + 6) mj_m209 32 [some (.ref q0), some (.int (jn (p : Nat))), none] [] h1 (fun r => ∃ (W : Nat → Int) (h' : mj_H), jS hp q1 q2 q3 W h' ∧ (∀ e, e < 13 → W (p * 13 + e) = (V (p * 13 + e)).tdiv ((g : Nat) : Int)) ∧ (∀ s, (s < p * 13 ∨ p * 13 + 13 ≤ s) → s ≠ 652 → s ≠ 653 → s ≠ 655 → s ≠ 663 → s ≠ 664 → W s = V s) ∧ r = (.inl none, h')) := by
    iterate 2 refine mj_T.pl rfl rfl rfl rfl ?_
    refine mj_T.call (ins := .invokevirtual 114) rfl rfl (Nat.le_of_ble_eq_true rfl) (Nat.le_of_ble_eq_true rfl) (by simp [mj_recv, jS_a G hs1]) rfl (jp_degreeOf (D := D + 4) G (p := p) (by omega) hs1) (fun v' h' hq' => ?_) (fun i h' hq' => by cases hq')
    cases hq'
    refine mj_T.pl rfl rfl rfl rfl ?_
    have hle := jdg_le W1 p 13
    have hz := jdg_zero W1 p 13
    refine jp_shrinks_loop (D := D + 1) (V := W1) G hpp (g := g) (fun W2 h2 hs2 g2 f2 => ⟨W2, h2, hs2, fun e he => by rw [g2 e he, e1 e he], fun s a b c d e f => by rw [f2 s a e f]; exact f1 s c b d e f, rfl⟩) (jdg W1 p 13) W1 h1 hle (fun hk => ?_) hs1 g1 (fun e a b => ?_) (fun e _ => rfl) (fun s _ _ _ => rfl)
    · have hn := jdg_ne W1 p 13 hk
      rcases Nat.eq_zero_or_pos g with q | q
      · have hd := jgk_dvd V p 13 (jdg W1 p 13 - 1) (Nat.le_refl _) (by omega) (by omega)
        rw [hgg, q] at hd
        rw [e1 _ (by omega)] at hn
        have := Nat.eq_zero_of_zero_dvd hd
        omega
      · exact q
    · rw [hz e a b]
      exact (Int.zero_tdiv _).symm
  have done : g = 1 → (∃ (W : Nat → Int) (h' : mj_H), jS hp q1 q2 q3 W h' ∧ (∀ e, e < 13 → W (p * 13 + e) = (V (p * 13 + e)).tdiv ((g : Nat) : Int)) ∧ (∀ s, (s < p * 13 ∨ p * 13 + 13 ≤ s) → s ≠ 652 → s ≠ 653 → s ≠ 655 → s ≠ 663 → s ≠ 664 → W s = V s) ∧ ((.inl none, h1) : mj_R) = (.inl none, h')) := fun q => ⟨W1, h1, hs1, fun e he => by rw [q, e1 e he]; exact (Int.tdiv_one _).symm, fun s a b c d e f => f1 s c b d e f, rfl⟩
  iterate 2 refine mj_T.pl rfl rfl rfl rfl ?_
  refine mj_T.call (ins := .invokevirtual 52) rfl rfl (Nat.le_of_ble_eq_true rfl) (Nat.le_of_ble_eq_true rfl) (by simp [mj_recv, jS_a G hs1]) rfl (jS_length (D := D + 5) G (s := 653) (by decide) hs1) (fun v' h' hq' => ?_) (fun i h' hq' => by cases hq')
  cases hq'
  rw [g1, Int.natAbs_natCast]
  have hn : jnl g ≤ 700 := by
    obtain ⟨bg, ov, db, k, -⟩ := hs1
    have := (k 653 (by decide)).2.2.2
    rw [g1, Int.natAbs_natCast] at this
    exact this
  refine mj_T.pl rfl rfl rfl rfl ?_
  refine mj_T.icmp (a := ((jnl g : Nat) : Int)) (b := 1) rfl ⟨by omega, by omega⟩ ⟨by decide, by decide⟩ (fun hc => ?_) (fun hc => ?_)
  · exact loop
  · simp only [jc, Bool.not_eq_false', decide_eq_true_eq] at hc
    iterate 3 refine mj_T.pl rfl rfl rfl rfl ?_
    refine mj_T.call (ins := .invokevirtual 64) rfl rfl (Nat.le_of_ble_eq_true rfl) (Nat.le_of_ble_eq_true rfl) (by simp [mj_recv, jS_a G hs1]) rfl (jS_limb (D := D + 4) G (s := 653) (j := 0) (by decide) (by decide) hs1) (fun v' h' hq' => ?_) (fun i h' hq' => by cases hq')
    cases hq'
    rw [g1, Int.natAbs_natCast]
    have hl := jlb_lt g 0
    refine mj_T.pl rfl rfl rfl rfl ?_
    refine mj_T.icmp (a := ((jlb g 0 : Nat) : Int)) (b := 1) rfl ⟨by omega, by have : jB = 1000000000 := rfl; omega⟩ ⟨by decide, by decide⟩ (fun hc2 => ?_) (fun hc2 => ?_)
    · exact loop
    · simp only [jc, Bool.not_eq_false', decide_eq_true_eq] at hc2
      exact mj_T.ret rfl rfl rfl (done (jgk_one (by omega) (by omega)))
theorem jp_makesPrimitive (G : jG hp q0 q1 q2 q3 fs) {p : Nat} (hpp : p ≤ 49) (hs : jS hp q1 q2 q3 V h) :
    mj_Ok (D + 8) 210 [.ref q0, .int (jn (p : Nat))] h (fun r => ∃ (W : Nat → Int) (h' : mj_H), jS hp q1 q2 q3 W h' ∧ (∃ f : Int, (f = 1 ∨ f = -1) ∧ ∀ e, e < 13 → W (p * 13 + e) = f * (V (p * 13 + e)).tdiv ((jgk V p 13 : Nat) : Int)) ∧ (∀ s, (s < p * 13 ∨ p * 13 + 13 ≤ s) → s ≠ 652 → s ≠ 653 → s ≠ 655 → s ≠ 663 → s ≠ 664 → W s = V s) ∧ r = (.inl none, h')) := by
  refine mj_Ok.of (M := mj_m210) rfl rfl rfl ?_
  iterate 2 refine mj_T.pl rfl rfl rfl rfl ?_
  refine mj_T.call (ins := .invokevirtual 136) rfl rfl (Nat.le_of_ble_eq_true rfl) (Nat.le_of_ble_eq_true rfl) (by simp [mj_recv, jS_a G hs]) rfl (jp_shrinks (D := D) G (p := p) hpp hs) (fun v' h1 hq' => ?_) (fun i h' hq' => by obtain ⟨_, _, _, _, _, h⟩ := hq'; cases h)
  obtain ⟨W1, _, hs1, g1, f1, hq'⟩ := hq'
  cases hq'
  have fin : ∃ (W : Nat → Int) (h' : mj_H), jS hp q1 q2 q3 W h' ∧ (∃ f : Int, (f = 1 ∨ f = -1) ∧ ∀ e, e < 13 → W (p * 13 + e) = f * (V (p * 13 + e)).tdiv ((jgk V p 13 : Nat) : Int)) ∧ (∀ s, (s < p * 13 ∨ p * 13 + 13 ≤ s) → s ≠ 652 → s ≠ 653 → s ≠ 655 → s ≠ 663 → s ≠ 664 → W s = V s) ∧ ((.inl none, h1) : mj_R) = (.inl none, h') := ⟨W1, h1, hs1, ⟨1, Or.inl rfl, fun e he => by rw [g1 e he, Int.one_mul]⟩, f1, rfl⟩
  iterate 2 refine mj_T.pl rfl rfl rfl rfl ?_
  refine mj_T.call (ins := .invokevirtual 114) rfl rfl (Nat.le_of_ble_eq_true rfl) (Nat.le_of_ble_eq_true rfl) (by simp [mj_recv, jS_a G hs1]) rfl (jp_degreeOf (D := D + 5) G (p := p) (by omega) hs1) (fun v' h' hq' => ?_) (fun i h' hq' => by cases hq')
  cases hq'
  have hle := jdg_le W1 p 13
  generalize hdd : jdg W1 p 13 = dd at hle
  iterate 2 refine mj_T.pl rfl rfl rfl rfl ?_
  refine mj_T.if0 rfl ⟨by omega, by omega⟩ (fun hc => ?_) (fun hc => ?_)
  · exact mj_T.ret rfl rfl rfl fin
  · simp only [jc, decide_eq_false_iff_not] at hc
    obtain ⟨e, rfl⟩ : ∃ e, dd = e + 1 := ⟨dd - 1, by omega⟩
    rw [show ((e + 1 : Nat) : Int) - 1 = (e : Int) by omega]
    iterate 3 refine mj_T.pl rfl rfl rfl rfl ?_
    refine mj_T.call (ins := .invokestatic 104) rfl rfl (Nat.le_of_ble_eq_true rfl) (Nat.le_of_ble_eq_true rfl) rfl rfl (jq_slot (D := D + 6) (p := p) (i := e)) (fun v' h' hq' => ?_) (fun i h' hq' => by cases hq')
    cases hq'
    refine mj_T.call (ins := .invokevirtual 68) rfl rfl (Nat.le_of_ble_eq_true rfl) (Nat.le_of_ble_eq_true rfl) (by simp [mj_recv, jS_a G hs1]) rfl (jS_sign (D := D + 6) G (s := p * 13 + e) (by omega) hs1) (fun v' h' hq' => ?_) (fun i h' hq' => by cases hq')
    cases hq'
    have hsr := jsg_range (W1 (p * 13 + e))
    refine mj_T.if0 rfl ⟨by omega, by omega⟩ (fun hc2 => ?_) (fun hc2 => ?_)
    · exact mj_T.ret rfl rfl rfl fin
    · iterate 2 refine mj_T.pl rfl rfl rfl rfl ?_
      refine mj_T.call (ins := .invokevirtual 139) rfl rfl (Nat.le_of_ble_eq_true rfl) (Nat.le_of_ble_eq_true rfl) (by simp [mj_recv, jS_a G hs1]) rfl (jp_negates (D := D + 4) G (p := p) (by omega) hs1) (fun v' h2 hq' => ?_) (fun i h' hq' => by obtain ⟨_, _, h⟩ := hq'; cases h)
      obtain ⟨_, hs2, hq'⟩ := hq'
      cases hq'
      refine mj_T.ret rfl rfl rfl ⟨_, h2, hs2, ⟨-1, Or.inr rfl, fun e' he => ?_⟩, fun s a b c d e f => ?_, rfl⟩
      · rw [jfl_at _ _ _ he, g1 e' he]
        omega
      · rw [jfl_off _ _ _ a]
        exact f1 s a b c d e f
end JSH
