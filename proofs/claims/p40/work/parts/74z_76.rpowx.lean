/-! The reference's power of a polynomial, exactly. -/
section JRX
variable {D : Nat} {hp h : mj_H} {q0 q1 q2 q3 : Nat} {fs : List Value} {V : Nat → Int} {a p : Nat}
theorem pw_z {A : pz_P} {d j : Nat} (hA : ∀ i, d < i → A i = 0) (hj : d * j ≤ 12) : ∀ i, 13 ≤ i → pw A j i = 0 := fun i hi => (pw_lead hA j).1 i (by rw [Nat.mul_comm]; omega)
theorem jx_ra (G : jG hp q0 q1 q2 q3 fs) (hpp : p ≤ 49) (hp7 : p ≠ 7) (ha : a ≤ 49) (ha7 : a ≠ 7) (hpa : p ≠ a) {al : Nat} (hal1 : 1 ≤ al) (hal : ∀ e, e < 13 → (V (a * 13 + e)).natAbs ≤ al) {n : Nat} (hn : n ≤ 12) (hfit : (169 * al) ^ 12 < jB ^ 698) (hdeg : (jdg V a 13 - 1) * n ≤ 12) {Q : mj_R → Prop}
    (hend : ∀ (W : Nat → Int) (h : mj_H), jS hp q1 q2 q3 W h → (∀ s, (s < p * 13 ∨ p * 13 + 13 ≤ s) → (s < 91 ∨ 104 ≤ s) → s ≠ 652 → W s = V s) → (∀ e, e < 13 → (W (p * 13 + e)).natAbs ≤ (169 * al) ^ 12) → (∀ e, e < 13 → W (p * 13 + e) = pw (jpo V a) n e) → Q (.inl (some (.int (jn 1))), h)) :
    ∀ (m j : Nat) (W : Nat → Int) (h : mj_H), j + m = n → jS hp q1 q2 q3 W h → (∀ s, (s < p * 13 ∨ p * 13 + 13 ≤ s) → (s < 91 ∨ 104 ≤ s) → s ≠ 652 → W s = V s) → (∀ e, e < 13 → (W (p * 13 + e)).natAbs ≤ (169 * al) ^ j) → jdg W p 13 ≤ (jdg V a 13 - 1) * j + 1 → (∀ e, e < 13 → W (p * 13 + e) = pw (jpo V a) j e) → mj_T (D + 5) mj_m204 40 [some (.ref q0), some (.int (jn (p : Nat))), some (.int (jn (a : Nat))), some (.int (jn (n : Nat))), some (.int (jn (j : Nat)))] [] h Q := by
  have hal2 := jdg_le V a 13
  have mono : ∀ j, j ≤ 12 → (169 * al) ^ j ≤ (169 * al) ^ 12 := fun j hj => Nat.pow_le_pow_right (by omega) hj
  intro m
  induction m with
  | zero =>
    intro j W h hj hs hf h1 h2 h3
    iterate 2 refine mj_T.pl rfl rfl rfl rfl ?_
    refine mj_T.icmp (a := (j : Int)) (b := (n : Int)) rfl ⟨by omega, by omega⟩ ⟨by omega, by omega⟩ (fun hc => ?_) (fun hc => ?_)
    · refine mj_T.pl rfl rfl rfl rfl ?_
      exact mj_T.ret rfl rfl rfl (hend W h hs hf (fun e he => Nat.le_trans (h1 e he) (mono j (by omega))) (fun e he => by rw [h3 e he, show j = n by omega]))
    · simp only [jc, Bool.not_eq_false', decide_eq_true_eq, decide_eq_false_iff_not] at hc
      omega
  | succ m ih =>
    intro j W h hj hs hf h1 h2 h3
    iterate 2 refine mj_T.pl rfl rfl rfl rfl ?_
    refine mj_T.icmp (a := (j : Int)) (b := (n : Int)) rfl ⟨by omega, by omega⟩ ⟨by omega, by omega⟩ (fun hc => ?_) (fun hc => ?_)
    · simp only [jc, Bool.not_eq_false', decide_eq_true_eq, decide_eq_false_iff_not] at hc
      omega
    have hja : jdg W a 13 = jdg V a 13 := jdg_congr 13 fun e he => hf _ (by omega) (by omega) (by omega)
    have hd1 : (jdg V a 13 - 1) * (j + 1) ≤ 12 := Nat.le_trans (Nat.mul_le_mul_left _ (by omega)) hdeg
    have hd2 : (jdg V a 13 - 1) * (j + 1) = (jdg V a 13 - 1) * j + (jdg V a 13 - 1) := Nat.mul_succ _ _
    have hsz : 169 * ((169 * al) ^ j * al) = (169 * al) ^ (j + 1) := by
      rw [Nat.pow_succ, ← Nat.mul_assoc, Nat.mul_comm 169, Nat.mul_assoc]
    iterate 4 refine mj_T.pl rfl rfl rfl rfl ?_
    refine mj_T.call (ins := .invokevirtual 121) rfl rfl (Nat.le_of_ble_eq_true rfl) (Nat.le_of_ble_eq_true rfl) (by simp [mj_recv, jS_a G hs]) rfl (jx_multipliesPoly (D := D) (V := W) G (to := 7) (a := p) (b := a) (by decide) (by omega) (by omega) (by omega) (by omega) (al := (169 * al) ^ j) (be := al) h1 (fun e he => by rw [hf _ (by omega) (by omega) (by omega)]; exact hal e he) (by rw [hja]; omega) (by rw [hsz]; exact Nat.lt_of_le_of_lt (mono _ (by omega)) hfit) hs) (fun v' w2 hq' => ?_) (fun i h' hq' => by obtain ⟨_, _, _, _, _, _, _, h⟩ := hq'; cases h)
    obtain ⟨W1, _, hs1, b1, b2, b3, b4, hq'⟩ := hq'
    cases hq'
    iterate 3 refine mj_T.pl rfl rfl rfl rfl ?_
    refine mj_T.call (ins := .invokevirtual 124) rfl rfl (Nat.le_of_ble_eq_true rfl) (Nat.le_of_ble_eq_true rfl) (by simp [mj_recv, jS_a G hs1]) rfl (jp_copiesPoly (D := D + 2) G (p := p) (q := 7) (by omega) (by decide) (by omega) hs1) (fun v' w3 hq' => ?_) (fun i h' hq' => by obtain ⟨_, _, h⟩ := hq'; cases h)
    obtain ⟨_, hs2, hq'⟩ := hq'
    cases hq'
    have c1 : ∀ e, e < 13 → jfl W1 p (fun e => W1 (7 * 13 + e)) 13 (p * 13 + e) = W1 (7 * 13 + e) := fun e he => jfl_at _ p _ he
    have c2 : ∀ s, (s < p * 13 ∨ p * 13 + 13 ≤ s) → jfl W1 p (fun e => W1 (7 * 13 + e)) 13 s = W1 s := fun s hc => jfl_off _ p _ hc
    generalize jfl W1 p (fun e => W1 (7 * 13 + e)) 13 = W2 at hs2 c1 c2
    refine mj_T.iinc (a := (j : Int)) rfl rfl ?_
    refine mj_T.pl rfl rfl rfl rfl ?_
    refine ih (j + 1) W2 w3 (by omega) hs2 (fun s x1 x2 x3 => by rw [c2 s x1, b1 s (by omega) x3, hf s x1 x2 x3]) (fun e he => ?_) ?_ (fun e he => ?_)
    · rw [c1 e he, ← hsz]
      exact b2 e he
    · have : jdg W2 p 13 = jdg W1 7 13 := jdg_congr 13 c1
      omega
    · have jA : jpo W a = jpo V a := jpo_eq (fun e he => hf _ (by omega) (by omega) (by omega))
      have jz : ∀ i, 13 ≤ i → pw (jpo V a) j i = 0 := pw_z (d := jdg V a 13 - 1) (fun i hi => jpo_zb (by omega)) (by omega)
      have jP : jpo W p = pw (jpo V a) j := funext fun i => by
        unfold jpo
        by_cases q : i < 13
        · rw [if_pos q]
          exact h3 i q
        · rw [if_neg q]
          exact (jz i (by omega)).symm
      rw [c1 e he, b4 e he, prs_mul, jA, jP]
      rfl
theorem jx_raises (G : jG hp q0 q1 q2 q3 fs) (hpp : p ≤ 49) (hp7 : p ≠ 7) (ha : a ≤ 49) (ha7 : a ≠ 7) (hpa : p ≠ a) {al : Nat} (hal1 : 1 ≤ al) (hal : ∀ e, e < 13 → (V (a * 13 + e)).natAbs ≤ al) {n : Nat} (hn : n ≤ 12) (hfit : (169 * al) ^ 12 < jB ^ 698) (hs : jS hp q1 q2 q3 V h) :
    mj_Ok (D + 6) 204 [.ref q0, .int (jn (p : Nat)), .int (jn (a : Nat)), .int (jn (n : Nat))] h (fun r => ∃ (W : Nat → Int) (h' : mj_H), jS hp q1 q2 q3 W h' ∧ (∀ s, (s < p * 13 ∨ p * 13 + 13 ≤ s) → (s < 91 ∨ 104 ≤ s) → s ≠ 652 → W s = V s) ∧ (r = (.inl (some (.int (jn 0))), h') ∧ (W = V ∧ 12 < (jdg V a 13 - 1) * n) ∨ r = (.inl (some (.int (jn 1))), h') ∧ (jdg V a 13 - 1) * n ≤ 12 ∧ ∀ e, e < 13 → W (p * 13 + e) = pw (jpo V a) n e)) := by
  have hal2 := jdg_le V a 13
  refine mj_Ok.of (M := mj_m204) rfl rfl rfl ?_
  iterate 2 refine mj_T.pl rfl rfl rfl rfl ?_
  refine mj_T.call (ins := .invokevirtual 114) rfl rfl (Nat.le_of_ble_eq_true rfl) (Nat.le_of_ble_eq_true rfl) (by simp [mj_recv, jS_a G hs]) rfl (jp_degreeOf (D := D + 3) G (p := a) (by omega) hs) (fun v' h' hq' => ?_) (fun i h' hq' => by cases hq')
  cases hq'
  have t22 : (jdg V a 13 - 1) * n ≤ 12 → mj_T (D + 5) mj_m204 22 [some (.ref q0), some (.int (jn (p : Nat))), some (.int (jn (a : Nat))), some (.int (jn (n : Nat))), none] [] h (fun r => ∃ (W : Nat → Int) (h' : mj_H), jS hp q1 q2 q3 W h' ∧ (∀ s, (s < p * 13 ∨ p * 13 + 13 ≤ s) → (s < 91 ∨ 104 ≤ s) → s ≠ 652 → W s = V s) ∧ (r = (.inl (some (.int (jn 0))), h') ∧ (W = V ∧ 12 < (jdg V a 13 - 1) * n) ∨ r = (.inl (some (.int (jn 1))), h') ∧ (jdg V a 13 - 1) * n ≤ 12 ∧ ∀ e, e < 13 → W (p * 13 + e) = pw (jpo V a) n e)) := fun hdeg => by
    iterate 2 refine mj_T.pl rfl rfl rfl rfl ?_
    refine mj_T.call (ins := .invokevirtual 110) rfl rfl (Nat.le_of_ble_eq_true rfl) (Nat.le_of_ble_eq_true rfl) (by simp [mj_recv, jS_a G hs]) rfl (jp_empties (D := D + 3) G (p := p) (by omega) hs) (fun v' h1 hq' => ?_) (fun i h' hq' => by obtain ⟨_, _, h⟩ := hq'; cases h)
    obtain ⟨_, hs1, hq'⟩ := hq'
    cases hq'
    have a1 : ∀ e, e < 13 → jfl V p (fun _ => 0) 13 (p * 13 + e) = 0 := fun e he => jfl_at _ p _ he
    have a2 : ∀ s, (s < p * 13 ∨ p * 13 + 13 ≤ s) → jfl V p (fun _ => 0) 13 s = V s := fun s hc => jfl_off _ p _ hc
    generalize jfl V p (fun _ => 0) 13 = W1 at hs1 a1 a2
    iterate 3 refine mj_T.pl rfl rfl rfl rfl ?_
    refine mj_T.call (ins := .invokestatic 104) rfl rfl (Nat.le_of_ble_eq_true rfl) (Nat.le_of_ble_eq_true rfl) rfl rfl (jq_slot (D := D + 4) (p := p) (i := 0)) (fun v' h' hq' => ?_) (fun i h' hq' => by cases hq')
    cases hq'
    refine mj_T.pl rfl rfl rfl rfl ?_
    refine mj_T.call (ins := .invokevirtual 45) rfl rfl (Nat.le_of_ble_eq_true rfl) (Nat.le_of_ble_eq_true rfl) (by simp [mj_recv, jS_a G hs1]) rfl (jS_sets (D := D + 4) G (s := p * 13 + 0) (v := 1) (by omega) ⟨by decide, by decide⟩ hs1) (fun v' h2 hq' => ?_) (fun i h' hq' => by obtain ⟨_, _, h⟩ := hq'; cases h)
    obtain ⟨_, hs2, hq'⟩ := hq'
    cases hq'
    have b1 : jvu W1 (p * 13 + 0) (1) (p * 13 + 0) = 1 := jvu_at _ _ _
    have b2 : ∀ s, s ≠ (p * 13 + 0) → jvu W1 (p * 13 + 0) (1) s = W1 s := fun s hne => jvu_ne _ _ _ hne
    generalize jvu W1 (p * 13 + 0) (1) = W2 at hs2 b1 b2
    iterate 2 refine mj_T.pl rfl rfl rfl rfl ?_
    refine jx_ra (D := D) (V := V) G hpp hp7 ha ha7 hpa hal1 hal hn hfit hdeg (fun W h k1 k2 k3 k4 => ⟨W, h, k1, k2, Or.inr ⟨rfl, hdeg, k4⟩⟩) n 0 W2 h2 (by omega) hs2 (fun s x1 x2 x3 => by rw [b2 s (by omega), a2 s x1]) (fun e he => ?_) ?_ (fun e he => ?_)
    · by_cases h0 : e = 0
      · subst h0
        rw [b1]
        exact Nat.le_refl _
      · rw [b2 _ (by omega), a1 e he]
        exact Nat.zero_le _
    · refine Nat.le_trans (jdg_of_zero (d := 1) fun e e1 e2 => ?_) (by omega)
      rw [b2 _ (by omega), a1 e e2]
    · show W2 (p * 13 + e) = if e = 0 then 1 else 0
      by_cases h0 : e = 0
      · subst h0
        rw [b1]
        rfl
      · rw [b2 _ (by omega), a1 e he, if_neg h0]
  refine mj_T.if0 (a := (jdg V a 13 : Int) - 1) rfl ⟨by omega, by omega⟩ (fun hc => ?_) (fun hc => ?_)
  · simp only [jc, Bool.not_eq_true', decide_eq_true_eq, decide_eq_false_iff_not] at hc
    exact t22 (by rw [show jdg V a 13 - 1 = 0 by omega, Nat.zero_mul]; exact Nat.zero_le _)
  simp only [jc, Bool.not_eq_false', decide_eq_true_eq, decide_eq_false_iff_not] at hc
  iterate 2 refine mj_T.pl rfl rfl rfl rfl ?_
  refine mj_T.call (ins := .invokevirtual 114) rfl rfl (Nat.le_of_ble_eq_true rfl) (Nat.le_of_ble_eq_true rfl) (by simp [mj_recv, jS_a G hs]) rfl (jp_degreeOf (D := D + 3) G (p := a) (by omega) hs) (fun v' h' hq' => ?_) (fun i h' hq' => by cases hq')
  cases hq'
  refine mj_T.pl rfl rfl rfl rfl ?_
  have e1 : ((jdg V a 13 : Nat) : Int) - 1 = ((jdg V a 13 - 1 : Nat) : Int) := by omega
  have e2 : (jdg V a 13 - 1) * n ≤ 12 * 12 := Nat.mul_le_mul (by omega) hn
  rw [e1]
  refine mj_T.imul rfl ?_
  rw [← Int.natCast_mul]
  refine mj_T.pl rfl rfl rfl rfl ?_
  refine mj_T.icmp (a := (((jdg V a 13 - 1) * n : Nat) : Int)) (b := 12) rfl ⟨by omega, by omega⟩ ⟨by decide, by decide⟩ (fun hc2 => ?_) (fun hc2 => ?_)
  · simp only [jc, Bool.not_eq_true', decide_eq_true_eq, decide_eq_false_iff_not] at hc2
    exact t22 (by omega)
  · refine mj_T.pl rfl rfl rfl rfl ?_
    exact mj_T.ret rfl rfl rfl ⟨V, h, hs, fun s _ _ _ => rfl, Or.inl ⟨rfl, rfl, by
      simp only [jc, Bool.not_eq_false', decide_eq_true_eq, decide_eq_false_iff_not] at hc2
      omega⟩⟩
end JRX
