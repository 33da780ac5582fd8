/-! The reference's product of polynomials, and power. -/
section JMP
variable {D : Nat} {hp h : mj_H} {q0 q1 q2 q3 : Nat} {fs : List Value} {V : Nat → Int} {a b to : Nat}
theorem jp_mp2 (G : jG hp q0 q1 q2 q3 fs) (hto : to ≤ 49) (ha : a ≤ 49) (hb : b ≤ 49) (hta : to ≠ a) (htb : to ≠ b) {al be : Nat} (hal : ∀ e, e < 13 → (V (a * 13 + e)).natAbs ≤ al) (hbe : ∀ e, e < 13 → (V (b * 13 + e)).natAbs ≤ be) (hdeg : jdg V a 13 = 0 ∨ jdg V b 13 = 0 ∨ jdg V a 13 + jdg V b 13 ≤ 14) (hfit : 169 * (al * be) < jB ^ 698) {i N : Nat} (hi : i < jdg V a 13) {Q : mj_R → Prop}
    (hend : ∀ (W : Nat → Int) (h : mj_H), jS hp q1 q2 q3 W h → (∀ s, (s < to * 13 ∨ to * 13 + 13 ≤ s) → s ≠ 652 → W s = V s) → (∀ e, e < 13 → (W (to * 13 + e)).natAbs ≤ N * (al * be)) → (∀ e, e < 13 → jdg V a 13 + jdg V b 13 ≤ e + 1 → W (to * 13 + e) = 0) → mj_T (D + 4) mj_m202 80 [some (.ref q0), some (.int (jn (to : Nat))), some (.int (jn (a : Nat))), some (.int (jn (b : Nat))), some (.int (jn (i : Nat))), some (.int (jn (-1)))] [] h Q) (hN : N ≤ 169) :
    ∀ (m n : Nat) (W : Nat → Int) (h : mj_H), m ≤ jdg V b 13 → n + m = N → jS hp q1 q2 q3 W h → (∀ s, (s < to * 13 ∨ to * 13 + 13 ≤ s) → s ≠ 652 → W s = V s) → (∀ e, e < 13 → (W (to * 13 + e)).natAbs ≤ n * (al * be)) → (∀ e, e < 13 → jdg V a 13 + jdg V b 13 ≤ e + 1 → W (to * 13 + e) = 0) → mj_T (D + 4) mj_m202 24 [some (.ref q0), some (.int (jn (to : Nat))), some (.int (jn (a : Nat))), some (.int (jn (b : Nat))), some (.int (jn (i : Nat))), some (.int (jn ((m : Int) - 1)))] [] h Q := by
  have hal1 := jdg_le V a 13
  have hbl1 := jdg_le V b 13
  intro m
  induction m with
  | zero =>
    intro n W h hm hn hs hf h1 h2
    have hn2 : n = N := by omega
    subst hn2
    refine mj_T.pl rfl rfl rfl rfl ?_
    refine mj_T.if0 (a := ((0 : Nat) : Int) - 1) rfl ⟨by decide, by decide⟩ (fun hc => ?_) (fun hc => ?_)
    · exact hend W h hs hf h1 h2
    · simp [jc] at hc
  | succ m ih =>
    intro n W h hm hn hs hf h1 h2
    refine mj_T.pl rfl rfl rfl rfl ?_
    refine mj_T.if0 (a := ((m + 1 : Nat) : Int) - 1) rfl ⟨by omega, by omega⟩ (fun hc => ?_) (fun hc => ?_)
    · simp only [jc, Bool.not_eq_false', decide_eq_true_eq, decide_eq_false_iff_not] at hc
      omega
    rw [show ((m + 1 : Nat) : Int) - 1 = (m : Int) by omega]
    have va : W (a * 13 + i) = V (a * 13 + i) := hf _ (by omega) (by omega)
    have vb : W (b * 13 + m) = V (b * 13 + m) := hf _ (by omega) (by omega)
    have p1 : (V (a * 13 + i) * V (b * 13 + m)).natAbs ≤ al * be := by
      rw [Int.natAbs_mul]
      exact Nat.mul_le_mul (hal i (by omega)) (hbe m (by omega))
    have hcap : ∀ x, x ≤ 169 → x * (al * be) ≤ 169 * (al * be) := fun x hx => Nat.mul_le_mul_right _ hx
    have hcap1 := hcap 1 (by decide)
    rw [Nat.one_mul] at hcap1
    iterate 4 refine mj_T.pl rfl rfl rfl rfl ?_
    refine mj_T.call (ins := .invokestatic 104) rfl rfl (Nat.le_of_ble_eq_true rfl) (Nat.le_of_ble_eq_true rfl) rfl rfl (jq_slot (D := D + 3) (p := a) (i := i)) (fun v' h' hq' => ?_) (fun i h' hq' => by cases hq')
    cases hq'
    iterate 2 refine mj_T.pl rfl rfl rfl rfl ?_
    refine mj_T.call (ins := .invokestatic 104) rfl rfl (Nat.le_of_ble_eq_true rfl) (Nat.le_of_ble_eq_true rfl) rfl rfl (jq_slot (D := D + 3) (p := b) (i := m)) (fun v' h' hq' => ?_) (fun i h' hq' => by cases hq')
    cases hq'
    refine mj_T.call (ins := .invokevirtual 117) rfl rfl (Nat.le_of_ble_eq_true rfl) (Nat.le_of_ble_eq_true rfl) (by simp [mj_recv, jS_a G hs]) rfl (jS_mul (D := D + 2) (V := W) G (to := 652) (a := a * 13 + i) (b := b * 13 + m) (by decide) (by omega) (by omega) (jnl_of_lt (M := 169 * (al * be)) (by rw [va, vb]; omega) hfit) hs) (fun v' w1 hq' => ?_) (fun i h' hq' => by obtain ⟨_, _, h⟩ := hq'; cases h)
    obtain ⟨_, hs1, hq'⟩ := hq'
    cases hq'
    have c1 : jvu W 652 (W (a * 13 + i) * W (b * 13 + m)) 652 = W (a * 13 + i) * W (b * 13 + m) := jvu_at _ _ _
    have c2 : ∀ s, s ≠ 652 → jvu W 652 (W (a * 13 + i) * W (b * 13 + m)) s = W s := fun s hne => jvu_ne _ _ _ hne
    generalize jvu W 652 (W (a * 13 + i) * W (b * 13 + m)) = W1 at hs1 c1 c2
    have v1 : (W1 (to * 13 + (i + m)) + 1 * W1 652).natAbs ≤ (n + 1) * (al * be) := by
      rw [c1, c2 _ (by omega), va, vb]
      have k1 := h1 (i + m) (by omega)
      have k2 := Int.natAbs_add_le (W (to * 13 + (i + m))) (1 * (V (a * 13 + i) * V (b * 13 + m)))
      rw [Int.one_mul] at k2 ⊢
      rw [Nat.succ_mul]
      omega
    iterate 4 refine mj_T.pl rfl rfl rfl rfl ?_
    refine mj_T.iadd (a := (i : Int)) (b := (m : Int)) rfl ?_
    rw [show (i : Int) + (m : Int) = ((i + m : Nat) : Int) by omega]
    refine mj_T.call (ins := .invokestatic 104) rfl rfl (Nat.le_of_ble_eq_true rfl) (Nat.le_of_ble_eq_true rfl) rfl rfl (jq_slot (D := D + 3) (p := to) (i := i + m)) (fun v' h' hq' => ?_) (fun i h' hq' => by cases hq')
    cases hq'
    iterate 3 refine mj_T.pl rfl rfl rfl rfl ?_
    refine mj_T.iadd (a := (i : Int)) (b := (m : Int)) rfl ?_
    rw [show (i : Int) + (m : Int) = ((i + m : Nat) : Int) by omega]
    refine mj_T.call (ins := .invokestatic 104) rfl rfl (Nat.le_of_ble_eq_true rfl) (Nat.le_of_ble_eq_true rfl) rfl rfl (jq_slot (D := D + 3) (p := to) (i := i + m)) (fun v' h' hq' => ?_) (fun i h' hq' => by cases hq')
    cases hq'
    iterate 2 refine mj_T.pl rfl rfl rfl rfl ?_
    refine mj_T.call (ins := .invokevirtual 107) rfl rfl (Nat.le_of_ble_eq_true rfl) (Nat.le_of_ble_eq_true rfl) (by simp [mj_recv, jS_a G hs1]) rfl (jS_adds (D := D) (V := W1) G (to := to * 13 + (i + m)) (a := to * 13 + (i + m)) (b := 652) (f := 1) (by omega) (by omega) (by decide) (Or.inl rfl) (jnl_of_lt (M := 169 * (al * be)) (Nat.le_trans v1 (hcap _ (by omega))) hfit) hs1) (fun v' w2 hq' => ?_) (fun i h' hq' => by obtain ⟨_, _, h⟩ := hq'; cases h)
    obtain ⟨_, hs2, hq'⟩ := hq'
    cases hq'
    have d1 : jvu W1 (to * 13 + (i + m)) (W1 (to * 13 + (i + m)) + 1 * W1 652) (to * 13 + (i + m)) = W1 (to * 13 + (i + m)) + 1 * W1 652 := jvu_at _ _ _
    have d2 : ∀ s, s ≠ (to * 13 + (i + m)) → jvu W1 (to * 13 + (i + m)) (W1 (to * 13 + (i + m)) + 1 * W1 652) s = W1 s := fun s hne => jvu_ne _ _ _ hne
    generalize jvu W1 (to * 13 + (i + m)) (W1 (to * 13 + (i + m)) + 1 * W1 652) = W2 at hs2 d1 d2
    refine mj_T.iinc (a := (m : Int)) rfl rfl ?_
    refine mj_T.pl rfl rfl rfl rfl ?_
    refine ih (n + 1) W2 w2 (by omega) (by omega) hs2 (fun s x1 x2 => by rw [d2 s (by omega), c2 s x2, hf s x1 x2]) (fun e he => ?_) (fun e he hz => ?_)
    · by_cases hee : e = i + m
      · subst hee
        rw [d1]
        exact v1
      · rw [d2 _ (by omega), c2 _ (by omega)]
        refine Nat.le_trans (h1 e he) (Nat.mul_le_mul_right _ (by omega))
    · rw [d2 _ (by omega), c2 _ (by omega)]
      exact h2 e he hz
theorem jp_mp1 (G : jG hp q0 q1 q2 q3 fs) (hto : to ≤ 49) (ha : a ≤ 49) (hb : b ≤ 49) (hta : to ≠ a) (htb : to ≠ b) {al be : Nat} (hal : ∀ e, e < 13 → (V (a * 13 + e)).natAbs ≤ al) (hbe : ∀ e, e < 13 → (V (b * 13 + e)).natAbs ≤ be) (hdeg : jdg V a 13 = 0 ∨ jdg V b 13 = 0 ∨ jdg V a 13 + jdg V b 13 ≤ 14) (hfit : 169 * (al * be) < jB ^ 698) {Q : mj_R → Prop}
    (hend : ∀ (W : Nat → Int) (h : mj_H), jS hp q1 q2 q3 W h → (∀ s, (s < to * 13 ∨ to * 13 + 13 ≤ s) → s ≠ 652 → W s = V s) → (∀ e, e < 13 → (W (to * 13 + e)).natAbs ≤ 169 * (al * be)) → (∀ e, e < 13 → jdg V a 13 + jdg V b 13 ≤ e + 1 → W (to * 13 + e) = 0) → Q (.inl none, h)) :
    ∀ (m n : Nat) (W : Nat → Int) (h : mj_H) (e5 : Option Value), m ≤ jdg V a 13 → n + 13 * m ≤ 169 → jS hp q1 q2 q3 W h → (∀ s, (s < to * 13 ∨ to * 13 + 13 ≤ s) → s ≠ 652 → W s = V s) → (∀ e, e < 13 → (W (to * 13 + e)).natAbs ≤ n * (al * be)) → (∀ e, e < 13 → jdg V a 13 + jdg V b 13 ≤ e + 1 → W (to * 13 + e) = 0) → mj_T (D + 4) mj_m202 12 [some (.ref q0), some (.int (jn (to : Nat))), some (.int (jn (a : Nat))), some (.int (jn (b : Nat))), some (.int (jn ((m : Int) - 1))), e5] [] h Q := by
  have hal1 := jdg_le V a 13
  have hbl1 := jdg_le V b 13
  intro m
  induction m with
  | zero =>
    intro n W h e5 hm hn hs hf h1 h2
    refine mj_T.pl rfl rfl rfl rfl ?_
    refine mj_T.if0 (a := ((0 : Nat) : Int) - 1) rfl ⟨by decide, by decide⟩ (fun hc => ?_) (fun hc => ?_)
    · exact mj_T.ret rfl rfl rfl (hend W h hs hf (fun e he => Nat.le_trans (h1 e he) (Nat.mul_le_mul_right _ (by omega))) h2)
    · simp [jc] at hc
  | succ m ih =>
    intro n W h e5 hm hn hs hf h1 h2
    refine mj_T.pl rfl rfl rfl rfl ?_
    refine mj_T.if0 (a := ((m + 1 : Nat) : Int) - 1) rfl ⟨by omega, by omega⟩ (fun hc => ?_) (fun hc => ?_)
    · simp only [jc, Bool.not_eq_false', decide_eq_true_eq, decide_eq_false_iff_not] at hc
      omega
    rw [show ((m + 1 : Nat) : Int) - 1 = (m : Int) by omega]
    have hjb : jdg W b 13 = jdg V b 13 := jdg_congr 13 fun e he => hf _ (by omega) (by omega)
    iterate 2 refine mj_T.pl rfl rfl rfl rfl ?_
    refine mj_T.call (ins := .invokevirtual 114) rfl rfl (Nat.le_of_ble_eq_true rfl) (Nat.le_of_ble_eq_true rfl) (by simp [mj_recv, jS_a G hs]) rfl (jp_degreeOf (D := D + 2) G (p := b) (by omega) hs) (fun v' h' hq' => ?_) (fun i h' hq' => by cases hq')
    cases hq'
    rw [hjb]
    refine mj_T.pl rfl rfl rfl rfl ?_
    refine jp_mp2 (D := D) (V := V) (i := m) (N := n + jdg V b 13) G hto ha hb hta htb hal hbe hdeg hfit (by omega) (fun W1 h1 hs1 g1 g2 g3 => ?_) (by omega) (jdg V b 13) n W h (Nat.le_refl _) rfl hs hf h1 h2
    refine mj_T.iinc (a := (m : Int)) rfl rfl ?_
    refine mj_T.pl rfl rfl rfl rfl ?_
    exact ih (n + jdg V b 13) W1 h1 _ (by omega) (by omega) hs1 g1 g2 g3
theorem jp_multipliesPoly (G : jG hp q0 q1 q2 q3 fs) (hto : to ≤ 49) (ha : a ≤ 49) (hb : b ≤ 49) (hta : to ≠ a) (htb : to ≠ b) {al be : Nat} (hal : ∀ e, e < 13 → (V (a * 13 + e)).natAbs ≤ al) (hbe : ∀ e, e < 13 → (V (b * 13 + e)).natAbs ≤ be) (hdeg : jdg V a 13 = 0 ∨ jdg V b 13 = 0 ∨ jdg V a 13 + jdg V b 13 ≤ 14) (hfit : 169 * (al * be) < jB ^ 698) (hs : jS hp q1 q2 q3 V h) :
    mj_Ok (D + 5) 202 [.ref q0, .int (jn (to : Nat)), .int (jn (a : Nat)), .int (jn (b : Nat))] h (fun r => ∃ (W : Nat → Int) (h' : mj_H), jS hp q1 q2 q3 W h' ∧ (∀ s, (s < to * 13 ∨ to * 13 + 13 ≤ s) → s ≠ 652 → W s = V s) ∧ (∀ e, e < 13 → (W (to * 13 + e)).natAbs ≤ 169 * (al * be)) ∧ jdg W to 13 ≤ jdg V a 13 + jdg V b 13 - 1 ∧ r = (.inl none, h')) := by
  have hal1 := jdg_le V a 13
  refine mj_Ok.of (M := mj_m202) rfl rfl rfl ?_
  iterate 2 refine mj_T.pl rfl rfl rfl rfl ?_
  refine mj_T.call (ins := .invokevirtual 110) rfl rfl (Nat.le_of_ble_eq_true rfl) (Nat.le_of_ble_eq_true rfl) (by simp [mj_recv, jS_a G hs]) rfl (jp_empties (D := D + 2) G (p := to) (by omega) hs) (fun v' h1 hq' => ?_) (fun i h' hq' => by obtain ⟨_, _, h⟩ := hq'; cases h)
  obtain ⟨_, hs1, hq'⟩ := hq'
  cases hq'
  have a1 : ∀ e, e < 13 → jfl V to (fun _ => 0) 13 (to * 13 + e) = 0 := fun e he => jfl_at _ to _ he
  have a2 : ∀ s, (s < to * 13 ∨ to * 13 + 13 ≤ s) → jfl V to (fun _ => 0) 13 s = V s := fun s hc => jfl_off _ to _ hc
  generalize jfl V to (fun _ => 0) 13 = W1 at hs1 a1 a2
  have hja : jdg W1 a 13 = jdg V a 13 := jdg_congr 13 fun e he => a2 _ (by omega)
  iterate 2 refine mj_T.pl rfl rfl rfl rfl ?_
  refine mj_T.call (ins := .invokevirtual 114) rfl rfl (Nat.le_of_ble_eq_true rfl) (Nat.le_of_ble_eq_true rfl) (by simp [mj_recv, jS_a G hs1]) rfl (jp_degreeOf (D := D + 2) G (p := a) (by omega) hs1) (fun v' h' hq' => ?_) (fun i h' hq' => by cases hq')
  cases hq'
  rw [hja]
  refine mj_T.pl rfl rfl rfl rfl ?_
  refine jp_mp1 (D := D) (V := V) G hto ha hb hta htb hal hbe hdeg hfit (fun W h k1 k2 k3 k4 => ⟨W, h, k1, k2, k3, jdg_of_zero fun e e1 e2 => k4 e e2 (by omega), rfl⟩) (jdg V a 13) 0 W1 h1 _ (Nat.le_refl _) (by omega) hs1 (fun s x1 x2 => a2 s x1) (fun e he => by rw [a1 e he]; exact Nat.zero_le _) (fun e he _ => a1 e he)
end JMP
section JRA
variable {D : Nat} {hp h : mj_H} {q0 q1 q2 q3 : Nat} {fs : List Value} {V : Nat → Int} {a p : Nat}
theorem jp_ra (G : jG hp q0 q1 q2 q3 fs) (hpp : p ≤ 49) (hp7 : p ≠ 7) (ha : a ≤ 49) (ha7 : a ≠ 7) (hpa : p ≠ a) {al : Nat} (hal1 : 1 ≤ al) (hal : ∀ e, e < 13 → (V (a * 13 + e)).natAbs ≤ al) {n : Nat} (hn : n ≤ 12) (hfit : (169 * al) ^ 12 < jB ^ 698) (hdeg : (jdg V a 13 - 1) * n ≤ 12) {Q : mj_R → Prop}
    (hend : ∀ (W : Nat → Int) (h : mj_H), jS hp q1 q2 q3 W h → (∀ s, (s < p * 13 ∨ p * 13 + 13 ≤ s) → (s < 91 ∨ 104 ≤ s) → s ≠ 652 → W s = V s) → (∀ e, e < 13 → (W (p * 13 + e)).natAbs ≤ (169 * al) ^ 12) → Q (.inl (some (.int (jn 1))), h)) :
    ∀ (m j : Nat) (W : Nat → Int) (h : mj_H), j + m = n → jS hp q1 q2 q3 W h → (∀ s, (s < p * 13 ∨ p * 13 + 13 ≤ s) → (s < 91 ∨ 104 ≤ s) → s ≠ 652 → W s = V s) → (∀ e, e < 13 → (W (p * 13 + e)).natAbs ≤ (169 * al) ^ j) → jdg W p 13 ≤ (jdg V a 13 - 1) * j + 1 → mj_T (D + 5) mj_m204 40 [some (.ref q0), some (.int (jn (p : Nat))), some (.int (jn (a : Nat))), some (.int (jn (n : Nat))), some (.int (jn (j : Nat)))] [] h Q := by
  have hal2 := jdg_le V a 13
  have mono : ∀ j, j ≤ 12 → (169 * al) ^ j ≤ (169 * al) ^ 12 := fun j hj => Nat.pow_le_pow_right (by omega) hj
  intro m
  induction m with
  | zero =>
    intro j W h hj hs hf h1 h2
    iterate 2 refine mj_T.pl rfl rfl rfl rfl ?_
    refine mj_T.icmp (a := (j : Int)) (b := (n : Int)) rfl ⟨by omega, by omega⟩ ⟨by omega, by omega⟩ (fun hc => ?_) (fun hc => ?_)
    · refine mj_T.pl rfl rfl rfl rfl ?_
      exact mj_T.ret rfl rfl rfl (hend W h hs hf (fun e he => Nat.le_trans (h1 e he) (mono j (by omega))))
    · simp only [jc, Bool.not_eq_false', decide_eq_true_eq, decide_eq_false_iff_not] at hc
      omega
  | succ m ih =>
    intro j W h hj hs hf h1 h2
    iterate 2 refine mj_T.pl rfl rfl rfl rfl ?_
    refine mj_T.icmp (a := (j : Int)) (b := (n : Int)) rfl ⟨by omega, by omega⟩ ⟨by omega, by omega⟩ (fun hc => ?_) (fun hc => ?_)
    · simp only [jc, Bool.not_eq_false', decide_eq_true_eq, decide_eq_false_iff_not] at hc
      omega
    have hja : jdg W a 13 = jdg V a 13 := jdg_congr 13 fun e he => hf _ (by omega) (by omega) (by omega)
    have hd1 : (jdg V a 13 - 1) * (j + 1) ≤ 12 := Nat.le_trans (Nat.mul_le_mul_left _ (by omega)) hdeg
    have hd2 : (jdg V a 13 - 1) * (j + 1) = (jdg V a 13 - 1) * j + (jdg V a 13 - 1) := Nat.mul_succ _ _
    have hsz : 169 * ((169 * al) ^ j * al) = (169 * al) ^ (j + 1) := by
      rw [Nat.pow_succ, ← Nat.mul_assoc, Nat.mul_comm 169, Nat.mul_assoc]
    iterate 4 refine mj_T.pl rfl rfl rfl rfl ?_
    refine mj_T.call (ins := .invokevirtual 121) rfl rfl (Nat.le_of_ble_eq_true rfl) (Nat.le_of_ble_eq_true rfl) (by simp [mj_recv, jS_a G hs]) rfl (jp_multipliesPoly (D := D) (V := W) G (to := 7) (a := p) (b := a) (by decide) (by omega) (by omega) (by omega) (by omega) (al := (169 * al) ^ j) (be := al) h1 (fun e he => by rw [hf _ (by omega) (by omega) (by omega)]; exact hal e he) (by rw [hja]; omega) (by rw [hsz]; exact Nat.lt_of_le_of_lt (mono _ (by omega)) hfit) hs) (fun v' w2 hq' => ?_) (fun i h' hq' => by obtain ⟨_, _, _, _, _, _, h⟩ := hq'; cases h)
    obtain ⟨W1, _, hs1, b1, b2, b3, hq'⟩ := hq'
    cases hq'
    iterate 3 refine mj_T.pl rfl rfl rfl rfl ?_
    refine mj_T.call (ins := .invokevirtual 124) rfl rfl (Nat.le_of_ble_eq_true rfl) (Nat.le_of_ble_eq_true rfl) (by simp [mj_recv, jS_a G hs1]) rfl (jp_copiesPoly (D := D + 2) G (p := p) (q := 7) (by omega) (by decide) (by omega) hs1) (fun v' w3 hq' => ?_) (fun i h' hq' => by obtain ⟨_, _, h⟩ := hq'; cases h)
    obtain ⟨_, hs2, hq'⟩ := hq'
    cases hq'
    have c1 : ∀ e, e < 13 → jfl W1 p (fun e => W1 (7 * 13 + e)) 13 (p * 13 + e) = W1 (7 * 13 + e) := fun e he => jfl_at _ p _ he
    have c2 : ∀ s, (s < p * 13 ∨ p * 13 + 13 ≤ s) → jfl W1 p (fun e => W1 (7 * 13 + e)) 13 s = W1 s := fun s hc => jfl_off _ p _ hc
    generalize jfl W1 p (fun e => W1 (7 * 13 + e)) 13 = W2 at hs2 c1 c2
    refine mj_T.iinc (a := (j : Int)) rfl rfl ?_
    refine mj_T.pl rfl rfl rfl rfl ?_
    refine ih (j + 1) W2 w3 (by omega) hs2 (fun s x1 x2 x3 => by rw [c2 s x1, b1 s (by omega) x3, hf s x1 x2 x3]) (fun e he => ?_) ?_
    · rw [c1 e he, ← hsz]
      exact b2 e he
    · have : jdg W2 p 13 = jdg W1 7 13 := jdg_congr 13 c1
      omega
theorem jp_raises (G : jG hp q0 q1 q2 q3 fs) (hpp : p ≤ 49) (hp7 : p ≠ 7) (ha : a ≤ 49) (ha7 : a ≠ 7) (hpa : p ≠ a) {al : Nat} (hal1 : 1 ≤ al) (hal : ∀ e, e < 13 → (V (a * 13 + e)).natAbs ≤ al) {n : Nat} (hn : n ≤ 12) (hfit : (169 * al) ^ 12 < jB ^ 698) (hs : jS hp q1 q2 q3 V h) :
    mj_Ok (D + 6) 204 [.ref q0, .int (jn (p : Nat)), .int (jn (a : Nat)), .int (jn (n : Nat))] h (fun r => ∃ (W : Nat → Int) (h' : mj_H), jS hp q1 q2 q3 W h' ∧ (∀ s, (s < p * 13 ∨ p * 13 + 13 ≤ s) → (s < 91 ∨ 104 ≤ s) → s ≠ 652 → W s = V s) ∧ (r = (.inl (some (.int (jn 0))), h') ∧ W = V ∨ r = (.inl (some (.int (jn 1))), h') ∧ ∀ e, e < 13 → (W (p * 13 + e)).natAbs ≤ (169 * al) ^ 12)) := by
  have hal2 := jdg_le V a 13
  refine mj_Ok.of (M := mj_m204) rfl rfl rfl ?_
  iterate 2 refine mj_T.pl rfl rfl rfl rfl ?_
  refine mj_T.call (ins := .invokevirtual 114) rfl rfl (Nat.le_of_ble_eq_true rfl) (Nat.le_of_ble_eq_true rfl) (by simp [mj_recv, jS_a G hs]) rfl (jp_degreeOf (D := D + 3) G (p := a) (by omega) hs) (fun v' h' hq' => ?_) (fun i h' hq' => by cases hq')
  cases hq'
  have t22 : (jdg V a 13 - 1) * n ≤ 12 → mj_T (D + 5) mj_m204 22 [some (.ref q0), some (.int (jn (p : Nat))), some (.int (jn (a : Nat))), some (.int (jn (n : Nat))), none] [] h (fun r => ∃ (W : Nat → Int) (h' : mj_H), jS hp q1 q2 q3 W h' ∧ (∀ s, (s < p * 13 ∨ p * 13 + 13 ≤ s) → (s < 91 ∨ 104 ≤ s) → s ≠ 652 → W s = V s) ∧ (r = (.inl (some (.int (jn 0))), h') ∧ W = V ∨ r = (.inl (some (.int (jn 1))), h') ∧ ∀ e, e < 13 → (W (p * 13 + e)).natAbs ≤ (169 * al) ^ 12)) := fun hdeg => by
    iterate 2 refine mj_T.pl rfl rfl rfl rfl ?_
    refine mj_T.call (ins := .invokevirtual 110) rfl rfl (Nat.le_of_ble_eq_true rfl) (Nat.le_of_ble_eq_true rfl) (by simp [mj_recv, jS_a G hs]) rfl (jp_empties (D := D + 3) G (p := p) (by omega) hs) (fun v' h1 hq' => ?_) (fun i h' hq' => by obtain ⟨_, _, h⟩ := hq'; cases h)
    obtain ⟨_, hs1, hq'⟩ := hq'
    cases hq'
    have a1 : ∀ e, e < 13 → jfl V p (fun _ => 0) 13 (p * 13 + e) = 0 := fun e he => jfl_at _ p _ he
    have a2 : ∀ s, (s < p * 13 ∨ p * 13 + 13 ≤ s) → jfl V p (fun _ => 0) 13 s = V s := fun s hc => jfl_off _ p _ hc
    generalize jfl V p (fun _ => 0) 13 = W1 at hs1 a1 a2
    iterate 3 refine mj_T.pl rfl rfl rfl rfl ?_
    refine mj_T.call (ins := .invokestatic 104) rfl rfl (Nat.le_of_ble_eq_true rfl) (Nat.le_of_ble_eq_true rfl) rfl rfl (jq_slot (D := D + 4) (p := p) (i := 0)) (fun v' h' hq' => ?_) (fun i h' hq' => by cases hq')
    cases hq'
    refine mj_T.pl rfl rfl rfl rfl ?_
    refine mj_T.call (ins := .invokevirtual 45) rfl rfl (Nat.le_of_ble_eq_true rfl) (Nat.le_of_ble_eq_true rfl) (by simp [mj_recv, jS_a G hs1]) rfl (jS_sets (D := D + 4) G (s := p * 13 + 0) (v := 1) (by omega) ⟨by decide, by decide⟩ hs1) (fun v' h2 hq' => ?_) (fun i h' hq' => by obtain ⟨_, _, h⟩ := hq'; cases h)
    obtain ⟨_, hs2, hq'⟩ := hq'
    cases hq'
    have b1 : jvu W1 (p * 13 + 0) (1) (p * 13 + 0) = 1 := jvu_at _ _ _
    have b2 : ∀ s, s ≠ (p * 13 + 0) → jvu W1 (p * 13 + 0) (1) s = W1 s := fun s hne => jvu_ne _ _ _ hne
    generalize jvu W1 (p * 13 + 0) (1) = W2 at hs2 b1 b2
    iterate 2 refine mj_T.pl rfl rfl rfl rfl ?_
    refine jp_ra (D := D) (V := V) G hpp hp7 ha ha7 hpa hal1 hal hn hfit hdeg (fun W h k1 k2 k3 => ⟨W, h, k1, k2, Or.inr ⟨rfl, k3⟩⟩) n 0 W2 h2 (by omega) hs2 (fun s x1 x2 x3 => by rw [b2 s (by omega), a2 s x1]) (fun e he => ?_) ?_
    · by_cases h0 : e = 0
      · subst h0
        rw [b1]
        exact Nat.le_refl _
      · rw [b2 _ (by omega), a1 e he]
        exact Nat.zero_le _
    · refine Nat.le_trans (jdg_of_zero (d := 1) fun e e1 e2 => ?_) (by omega)
      rw [b2 _ (by omega), a1 e e2]
  refine mj_T.if0 (a := (jdg V a 13 : Int) - 1) rfl ⟨by omega, by omega⟩ (fun hc => ?_) (fun hc => ?_)
  · simp only [jc, Bool.not_eq_true', decide_eq_true_eq, decide_eq_false_iff_not] at hc
    exact t22 (by rw [show jdg V a 13 - 1 = 0 by omega, Nat.zero_mul]; exact Nat.zero_le _)
  simp only [jc, Bool.not_eq_false', decide_eq_true_eq, decide_eq_false_iff_not] at hc
  iterate 2 refine mj_T.pl rfl rfl rfl rfl ?_
  refine mj_T.call (ins := .invokevirtual 114) rfl rfl (Nat.le_of_ble_eq_true rfl) (Nat.le_of_ble_eq_true rfl) (by simp [mj_recv, jS_a G hs]) rfl (jp_degreeOf (D := D + 3) G (p := a) (by omega) hs) (fun v' h' hq' => ?_) (fun i h' hq' => by cases hq')
  cases hq'
  refine mj_T.pl rfl rfl rfl rfl ?_
  have e1 : ((jdg V a 13 : Nat) : Int) - 1 = ((jdg V a 13 - 1 : Nat) : Int) := by omega
  have e2 : (jdg V a 13 - 1) * n ≤ 12 * 12 := Nat.mul_le_mul (by omega) hn
  rw [e1]
  refine mj_T.imul rfl ?_
  rw [← Int.natCast_mul]
  refine mj_T.pl rfl rfl rfl rfl ?_
  refine mj_T.icmp (a := (((jdg V a 13 - 1) * n : Nat) : Int)) (b := 12) rfl ⟨by omega, by omega⟩ ⟨by decide, by decide⟩ (fun hc2 => ?_) (fun hc2 => ?_)
  · simp only [jc, Bool.not_eq_true', decide_eq_true_eq, decide_eq_false_iff_not] at hc2
    exact t22 (by omega)
  · refine mj_T.pl rfl rfl rfl rfl ?_
    exact mj_T.ret rfl rfl rfl ⟨V, h, hs, fun s _ _ _ => rfl, Or.inl ⟨rfl, rfl⟩⟩
end JRA
