/-! The reference's primitive part, with its sign. -/
/-- a leading coefficient is above 0 -/
def posL (W : Nat → Int) (p : Nat) : Prop := ∀ d, d < 13 → W (p * 13 + d) ≠ 0 → (∀ e, d < e → e < 13 → W (p * 13 + e) = 0) → 0 < W (p * 13 + d)
theorem posL_d {W : Nat → Int} {p e : Nat} (h : jdg W p 13 = e + 1) (hp : 0 < W (p * 13 + e)) : posL W p := fun d hd h1 h2 => by
  have hl := jdg_le W p 13
  have hne := jdg_ne W p 13 (by omega)
  rw [h, Nat.add_sub_cancel] at hne
  by_cases c : d = e
  · rw [c]
    exact hp
  · by_cases c2 : d < e
    · exact absurd (h2 e c2 (by omega)) hne
    · exact absurd (jdg_zero W p 13 d (by omega) hd) h1
theorem posL_0 {W : Nat → Int} {p : Nat} (h : jdg W p 13 = 0) : posL W p := fun d hd h1 _ => absurd (jdg_zero W p 13 d (by omega) hd) h1
theorem posL_n {W W' : Nat → Int} {p e : Nat} (h : jdg W p 13 = e + 1) (hp : W (p * 13 + e) < 0) (hw : ∀ i, i < 13 → W' (p * 13 + i) = -W (p * 13 + i)) : posL W' p := fun d hd h1 h2 => by
  have hl := jdg_le W p 13
  by_cases c : d = e
  · rw [c, hw e (by omega)]
    omega
  · by_cases c2 : d < e
    · have y := h2 e c2 (by omega)
      rw [hw e (by omega)] at y
      omega
    · rw [hw d hd, jdg_zero W p 13 d (by omega) hd] at h1
      exact absurd rfl h1
section JPX
variable {D : Nat} {hp h : mj_H} {q0 q1 q2 q3 : Nat} {fs : List Value} {V : Nat → Int}
theorem jx_makesPrimitive (G : jG hp q0 q1 q2 q3 fs) {p : Nat} (hpp : p ≤ 49) (hs : jS hp q1 q2 q3 V h) :
    mj_Ok (D + 8) 210 [.ref q0, .int (jn (p : Nat))] h (fun r => ∃ (W : Nat → Int) (h' : mj_H), jS hp q1 q2 q3 W h' ∧ (∃ f : Int, (f = 1 ∨ f = -1) ∧ ∀ e, e < 13 → W (p * 13 + e) = f * (V (p * 13 + e)).tdiv ((jgk V p 13 : Nat) : Int)) ∧ (∀ s, (s < p * 13 ∨ p * 13 + 13 ≤ s) → s ≠ 652 → s ≠ 653 → s ≠ 655 → s ≠ 663 → s ≠ 664 → W s = V s) ∧ posL W p ∧ r = (.inl none, h')) := by
  refine mj_Ok.of (M := mj_m210) rfl rfl rfl ?_
  iterate 2 refine mj_T.pl rfl rfl rfl rfl ?_
  refine mj_T.call (ins := .invokevirtual 136) rfl rfl (Nat.le_of_ble_eq_true rfl) (Nat.le_of_ble_eq_true rfl) (by simp [mj_recv, jS_a G hs]) rfl (jp_shrinks (D := D) G (p := p) hpp hs) (fun v' h1 hq' => ?_) (fun i h' hq' => by obtain ⟨_, _, _, _, _, h⟩ := hq'; cases h)
  obtain ⟨W1, _, hs1, g1, f1, hq'⟩ := hq'
  cases hq'
  iterate 2 refine mj_T.pl rfl rfl rfl rfl ?_
  refine mj_T.call (ins := .invokevirtual 114) rfl rfl (Nat.le_of_ble_eq_true rfl) (Nat.le_of_ble_eq_true rfl) (by simp [mj_recv, jS_a G hs1]) rfl (jp_degreeOf (D := D + 5) G (p := p) (by omega) hs1) (fun v' h' hq' => ?_) (fun i h' hq' => by cases hq')
  cases hq'
  have hle := jdg_le W1 p 13
  generalize hdd : jdg W1 p 13 = dd at hle
  iterate 2 refine mj_T.pl rfl rfl rfl rfl ?_
  refine mj_T.if0 rfl ⟨by omega, by omega⟩ (fun hc => ?_) (fun hc => ?_)
  · simp only [jc, decide_eq_true_eq] at hc
    exact mj_T.ret rfl rfl rfl ⟨W1, h1, hs1, ⟨1, Or.inl rfl, fun e he => by rw [g1 e he, Int.one_mul]⟩, f1, posL_0 (by omega), rfl⟩
  · simp only [jc, decide_eq_false_iff_not] at hc
    obtain ⟨e, rfl⟩ : ∃ e, dd = e + 1 := ⟨dd - 1, by omega⟩
    rw [show ((e + 1 : Nat) : Int) - 1 = (e : Int) by omega]
    iterate 3 refine mj_T.pl rfl rfl rfl rfl ?_
    refine mj_T.call (ins := .invokestatic 104) rfl rfl (Nat.le_of_ble_eq_true rfl) (Nat.le_of_ble_eq_true rfl) rfl rfl (jq_slot (D := D + 6) (p := p) (i := e)) (fun v' h' hq' => ?_) (fun i h' hq' => by cases hq')
    cases hq'
    refine mj_T.call (ins := .invokevirtual 68) rfl rfl (Nat.le_of_ble_eq_true rfl) (Nat.le_of_ble_eq_true rfl) (by simp [mj_recv, jS_a G hs1]) rfl (jS_sign (D := D + 6) G (s := p * 13 + e) (by omega) hs1) (fun v' h' hq' => ?_) (fun i h' hq' => by cases hq')
    cases hq'
    have hsr := jsg_range (W1 (p * 13 + e))
    refine mj_T.if0 rfl ⟨by omega, by omega⟩ (fun hc2 => ?_) (fun hc2 => ?_)
    · simp only [jc, decide_eq_true_eq] at hc2
      have hne := jdg_ne W1 p 13 (by omega)
      rw [hdd, Nat.add_sub_cancel] at hne
      exact mj_T.ret rfl rfl rfl ⟨W1, h1, hs1, ⟨1, Or.inl rfl, fun e he => by rw [g1 e he, Int.one_mul]⟩, f1, posL_d hdd (by
        rcases Int.lt_trichotomy (W1 (p * 13 + e)) 0 with y | y | y
        · rw [jsg_neg y] at hc2
          exact absurd hc2 (by decide)
        · exact absurd y hne
        · exact y), rfl⟩
    · iterate 2 refine mj_T.pl rfl rfl rfl rfl ?_
      refine mj_T.call (ins := .invokevirtual 139) rfl rfl (Nat.le_of_ble_eq_true rfl) (Nat.le_of_ble_eq_true rfl) (by simp [mj_recv, jS_a G hs1]) rfl (jp_negates (D := D + 4) G (p := p) (by omega) hs1) (fun v' h2 hq' => ?_) (fun i h' hq' => by obtain ⟨_, _, h⟩ := hq'; cases h)
      obtain ⟨_, hs2, hq'⟩ := hq'
      cases hq'
      refine mj_T.ret rfl rfl rfl ⟨_, h2, hs2, ⟨-1, Or.inr rfl, fun e' he => ?_⟩, fun s a b c d e f => ?_, posL_n (W := W1) hdd (by
        simp only [jc, Bool.not_eq_false', decide_eq_true_eq] at hc2
        rcases Int.lt_trichotomy (W1 (p * 13 + e)) 0 with y | y | y
        · exact y
        · exact absurd hc2 (by rw [y]; decide)
        · exact absurd hc2 (by rw [jsg_pos y]; decide)) (fun i hi => jfl_at _ _ _ hi), rfl⟩
      · rw [jfl_at _ _ _ he, g1 e' he]
        omega
      · rw [jfl_off _ _ _ a]
        exact f1 s a b c d e f
end JPX
