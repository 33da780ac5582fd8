/-! The reference's product of polynomials, exactly. -/
def psm (V : Nat → Int) (a b i : Nat) : Nat → Nat → Int
  | 0, _ => 0
  | m + 1, e => psm V a b i m e + (if i + m = e then V (a * 13 + i) * V (b * 13 + m) else 0)
def prs (V : Nat → Int) (a b : Nat) : Nat → Nat → Int
  | 0, _ => 0
  | m + 1, e => prs V a b m e + psm V a b m (jdg V b 13) e
section JMX
variable {D : Nat} {hp h : mj_H} {q0 q1 q2 q3 : Nat} {fs : List Value} {V : Nat → Int} {a b to : Nat} {Gt : Nat → Int}
theorem jx_mp2 (G : jG hp q0 q1 q2 q3 fs) (hto : to ≤ 49) (ha : a ≤ 49) (hb : b ≤ 49) (hta : to ≠ a) (htb : to ≠ b) {al be : Nat} (hal : ∀ e, e < 13 → (V (a * 13 + e)).natAbs ≤ al) (hbe : ∀ e, e < 13 → (V (b * 13 + e)).natAbs ≤ be) (hdeg : jdg V a 13 = 0 ∨ jdg V b 13 = 0 ∨ jdg V a 13 + jdg V b 13 ≤ 14) (hfit : 169 * (al * be) < jB ^ 698) {i N : Nat} (hi : i < jdg V a 13) {Q : mj_R → Prop}
    (hend : ∀ (W : Nat → Int) (h : mj_H), jS hp q1 q2 q3 W h → (∀ s, (s < to * 13 ∨ to * 13 + 13 ≤ s) → s ≠ 652 → W s = V s) → (∀ e, e < 13 → (W (to * 13 + e)).natAbs ≤ N * (al * be)) → (∀ e, e < 13 → jdg V a 13 + jdg V b 13 ≤ e + 1 → W (to * 13 + e) = 0) → (∀ e, e < 13 → W (to * 13 + e) + prs V a b i e = Gt e) → mj_T (D + 4) mj_m202 80 [some (.ref q0), some (.int (jn (to : Nat))), some (.int (jn (a : Nat))), some (.int (jn (b : Nat))), some (.int (jn (i : Nat))), some (.int (jn (-1)))] [] h Q) (hN : N ≤ 169) :
    ∀ (m n : Nat) (W : Nat → Int) (h : mj_H), m ≤ jdg V b 13 → n + m = N → jS hp q1 q2 q3 W h → (∀ s, (s < to * 13 ∨ to * 13 + 13 ≤ s) → s ≠ 652 → W s = V s) → (∀ e, e < 13 → (W (to * 13 + e)).natAbs ≤ n * (al * be)) → (∀ e, e < 13 → jdg V a 13 + jdg V b 13 ≤ e + 1 → W (to * 13 + e) = 0) → (∀ e, e < 13 → W (to * 13 + e) + psm V a b i m e + prs V a b i e = Gt e) → mj_T (D + 4) mj_m202 24 [some (.ref q0), some (.int (jn (to : Nat))), some (.int (jn (a : Nat))), some (.int (jn (b : Nat))), some (.int (jn (i : Nat))), some (.int (jn ((m : Int) - 1)))] [] h Q := by
  have hal1 := jdg_le V a 13
  have hbl1 := jdg_le V b 13
  intro m
  induction m with
  | zero =>
    intro n W h hm hn hs hf h1 h2 h3
    have hn2 : n = N := by omega
    subst hn2
    refine mj_T.pl rfl rfl rfl rfl ?_
    refine mj_T.if0 (a := ((0 : Nat) : Int) - 1) rfl ⟨by decide, by decide⟩ (fun hc => ?_) (fun hc => ?_)
    · exact hend W h hs hf h1 h2 (fun e he => by
        have y := h3 e he
        rw [show psm V a b i 0 e = 0 from rfl] at y
        omega)
    · simp [jc] at hc
  | succ m ih =>
    intro n W h hm hn hs hf h1 h2 h3
    refine mj_T.pl rfl rfl rfl rfl ?_
    refine mj_T.if0 (a := ((m + 1 : Nat) : Int) - 1) rfl ⟨by omega, by omega⟩ (fun hc => ?_) (fun hc => ?_)
    · simp only [jc, Bool.not_eq_false', decide_eq_true_eq, decide_eq_false_iff_not] at hc
      omega
    rw [show ((m + 1 : Nat) : Int) - 1 = (m : Int) by omega]
    have va : W (a * 13 + i) = V (a * 13 + i) := hf _ (by omega) (by omega)
    have vb : W (b * 13 + m) = V (b * 13 + m) := hf _ (by omega) (by omega)
    have p1 : (V (a * 13 + i) * V (b * 13 + m)).natAbs ≤ al * be := by
      rw [Int.natAbs_mul]
      exact Nat.mul_le_mul (hal i (by omega)) (hbe m (by omega))
    have hcap : ∀ x, x ≤ 169 → x * (al * be) ≤ 169 * (al * be) := fun x hx => Nat.mul_le_mul_right _ hx
    have hcap1 := hcap 1 (by decide)
    rw [Nat.one_mul] at hcap1
    iterate 4 refine mj_T.pl rfl rfl rfl rfl ?_
    refine mj_T.call (ins := .invokestatic 104) rfl rfl (Nat.le_of_ble_eq_true rfl) (Nat.le_of_ble_eq_true rfl) rfl rfl (jq_slot (D := D + 3) (p := a) (i := i)) (fun v' h' hq' => ?_) (fun i h' hq' => by cases hq')
    cases hq'
    iterate 2 refine mj_T.pl rfl rfl rfl rfl ?_
    refine mj_T.call (ins := .invokestatic 104) rfl rfl (Nat.le_of_ble_eq_true rfl) (Nat.le_of_ble_eq_true rfl) rfl rfl (jq_slot (D := D + 3) (p := b) (i := m)) (fun v' h' hq' => ?_) (fun i h' hq' => by cases hq')
    cases hq'
    refine mj_T.call (ins := .invokevirtual 117) rfl rfl (Nat.le_of_ble_eq_true rfl) (Nat.le_of_ble_eq_true rfl) (by simp [mj_recv, jS_a G hs]) rfl (jS_mul (D := D + 2) (V := W) G (to := 652) (a := a * 13 + i) (b := b * 13 + m) (by decide) (by omega) (by omega) (jnl_of_lt (M := 169 * (al * be)) (by rw [va, vb]; omega) hfit) hs) (fun v' w1 hq' => ?_) (fun i h' hq' => by obtain ⟨_, _, h⟩ := hq'; cases h)
    obtain ⟨_, hs1, hq'⟩ := hq'
    cases hq'
    have c1 : jvu W 652 (W (a * 13 + i) * W (b * 13 + m)) 652 = W (a * 13 + i) * W (b * 13 + m) := jvu_at _ _ _
    have c2 : ∀ s, s ≠ 652 → jvu W 652 (W (a * 13 + i) * W (b * 13 + m)) s = W s := fun s hne => jvu_ne _ _ _ hne
    generalize jvu W 652 (W (a * 13 + i) * W (b * 13 + m)) = W1 at hs1 c1 c2
    have v1 : (W1 (to * 13 + (i + m)) + 1 * W1 652).natAbs ≤ (n + 1) * (al * be) := by
      rw [c1, c2 _ (by omega), va, vb]
      have k1 := h1 (i + m) (by omega)
      have k2 := Int.natAbs_add_le (W (to * 13 + (i + m))) (1 * (V (a * 13 + i) * V (b * 13 + m)))
      rw [Int.one_mul] at k2 ⊢
      rw [Nat.succ_mul]
      omega
    iterate 4 refine mj_T.pl rfl rfl rfl rfl ?_
    refine mj_T.iadd (a := (i : Int)) (b := (m : Int)) rfl ?_
    rw [show (i : Int) + (m : Int) = ((i + m : Nat) : Int) by omega]
    refine mj_T.call (ins := .invokestatic 104) rfl rfl (Nat.le_of_ble_eq_true rfl) (Nat.le_of_ble_eq_true rfl) rfl rfl (jq_slot (D := D + 3) (p := to) (i := i + m)) (fun v' h' hq' => ?_) (fun i h' hq' => by cases hq')
    cases hq'
    iterate 3 refine mj_T.pl rfl rfl rfl rfl ?_
    refine mj_T.iadd (a := (i : Int)) (b := (m : Int)) rfl ?_
    rw [show (i : Int) + (m : Int) = ((i + m : Nat) : Int) by omega]
    refine mj_T.call (ins := .invokestatic 104) rfl rfl (Nat.le_of_ble_eq_true rfl) (Nat.le_of_ble_eq_true rfl) rfl rfl (jq_slot (D := D + 3) (p := to) (i := i + m)) (fun v' h' hq' => ?_) (fun i h' hq' => by cases hq')
    cases hq'
    iterate 2 refine mj_T.pl rfl rfl rfl rfl ?_
    refine mj_T.call (ins := .invokevirtual 107) rfl rfl (Nat.le_of_ble_eq_true rfl) (Nat.le_of_ble_eq_true rfl) (by simp [mj_recv, jS_a G hs1]) rfl (jS_adds (D := D) (V := W1) G (to := to * 13 + (i + m)) (a := to * 13 + (i + m)) (b := 652) (f := 1) (by omega) (by omega) (by decide) (Or.inl rfl) (jnl_of_lt (M := 169 * (al * be)) (Nat.le_trans v1 (hcap _ (by omega))) hfit) hs1) (fun v' w2 hq' => ?_) (fun i h' hq' => by obtain ⟨_, _, h⟩ := hq'; cases h)
    obtain ⟨_, hs2, hq'⟩ := hq'
    cases hq'
    have d1 : jvu W1 (to * 13 + (i + m)) (W1 (to * 13 + (i + m)) + 1 * W1 652) (to * 13 + (i + m)) = W1 (to * 13 + (i + m)) + 1 * W1 652 := jvu_at _ _ _
    have d2 : ∀ s, s ≠ (to * 13 + (i + m)) → jvu W1 (to * 13 + (i + m)) (W1 (to * 13 + (i + m)) + 1 * W1 652) s = W1 s := fun s hne => jvu_ne _ _ _ hne
    generalize jvu W1 (to * 13 + (i + m)) (W1 (to * 13 + (i + m)) + 1 * W1 652) = W2 at hs2 d1 d2
    refine mj_T.iinc (a := (m : Int)) rfl rfl ?_
    refine mj_T.pl rfl rfl rfl rfl ?_
    refine ih (n + 1) W2 w2 (by omega) (by omega) hs2 (fun s x1 x2 => by rw [d2 s (by omega), c2 s x2, hf s x1 x2]) (fun e he => ?_) (fun e he hz => ?_) (fun e he => ?_)
    · by_cases hee : e = i + m
      · subst hee
        rw [d1]
        exact v1
      · rw [d2 _ (by omega), c2 _ (by omega)]
        refine Nat.le_trans (h1 e he) (Nat.mul_le_mul_right _ (by omega))
    · rw [d2 _ (by omega), c2 _ (by omega)]
      exact h2 e he hz
    · have y := h3 e he
      rw [show psm V a b i (m + 1) e = psm V a b i m e + (if i + m = e then V (a * 13 + i) * V (b * 13 + m) else 0) from rfl] at y
      by_cases hee : e = i + m
      · subst hee
        rw [if_pos rfl] at y
        rw [d1, c1, c2 _ (by omega), va, vb]
        omega
      · rw [if_neg (by omega)] at y
        rw [d2 _ (by omega), c2 _ (by omega)]
        omega
theorem jx_mp1 (G : jG hp q0 q1 q2 q3 fs) (hto : to ≤ 49) (ha : a ≤ 49) (hb : b ≤ 49) (hta : to ≠ a) (htb : to ≠ b) {al be : Nat} (hal : ∀ e, e < 13 → (V (a * 13 + e)).natAbs ≤ al) (hbe : ∀ e, e < 13 → (V (b * 13 + e)).natAbs ≤ be) (hdeg : jdg V a 13 = 0 ∨ jdg V b 13 = 0 ∨ jdg V a 13 + jdg V b 13 ≤ 14) (hfit : 169 * (al * be) < jB ^ 698) {Q : mj_R → Prop}
    (hend : ∀ (W : Nat → Int) (h : mj_H), jS hp q1 q2 q3 W h → (∀ s, (s < to * 13 ∨ to * 13 + 13 ≤ s) → s ≠ 652 → W s = V s) → (∀ e, e < 13 → (W (to * 13 + e)).natAbs ≤ 169 * (al * be)) → (∀ e, e < 13 → jdg V a 13 + jdg V b 13 ≤ e + 1 → W (to * 13 + e) = 0) → (∀ e, e < 13 → W (to * 13 + e) = Gt e) → Q (.inl none, h)) :
    ∀ (m n : Nat) (W : Nat → Int) (h : mj_H) (e5 : Option Value), m ≤ jdg V a 13 → n + 13 * m ≤ 169 → jS hp q1 q2 q3 W h → (∀ s, (s < to * 13 ∨ to * 13 + 13 ≤ s) → s ≠ 652 → W s = V s) → (∀ e, e < 13 → (W (to * 13 + e)).natAbs ≤ n * (al * be)) → (∀ e, e < 13 → jdg V a 13 + jdg V b 13 ≤ e + 1 → W (to * 13 + e) = 0) → (∀ e, e < 13 → W (to * 13 + e) + prs V a b m e = Gt e) → mj_T (D + 4) mj_m202 12 [some (.ref q0), some (.int (jn (to : Nat))), some (.int (jn (a : Nat))), some (.int (jn (b : Nat))), some (.int (jn ((m : Int) - 1))), e5] [] h Q := by
  have hal1 := jdg_le V a 13
  have hbl1 := jdg_le V b 13
  intro m
  induction m with
  | zero =>
    intro n W h e5 hm hn hs hf h1 h2 h3
    refine mj_T.pl rfl rfl rfl rfl ?_
    refine mj_T.if0 (a := ((0 : Nat) : Int) - 1) rfl ⟨by decide, by decide⟩ (fun hc => ?_) (fun hc => ?_)
    · exact mj_T.ret rfl rfl rfl (hend W h hs hf (fun e he => Nat.le_trans (h1 e he) (Nat.mul_le_mul_right _ (by omega))) h2 (fun e he => by
        have y := h3 e he
        rw [show prs V a b 0 e = 0 from rfl] at y
        omega))
    · simp [jc] at hc
  | succ m ih =>
    intro n W h e5 hm hn hs hf h1 h2 h3
    refine mj_T.pl rfl rfl rfl rfl ?_
    refine mj_T.if0 (a := ((m + 1 : Nat) : Int) - 1) rfl ⟨by omega, by omega⟩ (fun hc => ?_) (fun hc => ?_)
    · simp only [jc, Bool.not_eq_false', decide_eq_true_eq, decide_eq_false_iff_not] at hc
      omega
    rw [show ((m + 1 : Nat) : Int) - 1 = (m : Int) by omega]
    have hjb : jdg W b 13 = jdg V b 13 := jdg_congr 13 fun e he => hf _ (by omega) (by omega)
    iterate 2 refine mj_T.pl rfl rfl rfl rfl ?_
    refine mj_T.call (ins := .invokevirtual 114) rfl rfl (Nat.le_of_ble_eq_true rfl) (Nat.le_of_ble_eq_true rfl) (by simp [mj_recv, jS_a G hs]) rfl (jp_degreeOf (D := D + 2) G (p := b) (by omega) hs) (fun v' h' hq' => ?_) (fun i h' hq' => by cases hq')
    cases hq'
    rw [hjb]
    refine mj_T.pl rfl rfl rfl rfl ?_
    refine jx_mp2 (D := D) (V := V) (Gt := Gt) (i := m) (N := n + jdg V b 13) G hto ha hb hta htb hal hbe hdeg hfit (by omega) (fun W1 h1 hs1 g1 g2 g3 g4 => ?_) (by omega) (jdg V b 13) n W h (Nat.le_refl _) rfl hs hf h1 h2 (fun e he => by
      have y := h3 e he
      rw [show prs V a b (m + 1) e = prs V a b m e + psm V a b m (jdg V b 13) e from rfl] at y
      omega)
    refine mj_T.iinc (a := (m : Int)) rfl rfl ?_
    refine mj_T.pl rfl rfl rfl rfl ?_
    exact ih (n + jdg V b 13) W1 h1 _ (by omega) (by omega) hs1 g1 g2 g3 g4
theorem jx_multipliesPoly (G : jG hp q0 q1 q2 q3 fs) (hto : to ≤ 49) (ha : a ≤ 49) (hb : b ≤ 49) (hta : to ≠ a) (htb : to ≠ b) {al be : Nat} (hal : ∀ e, e < 13 → (V (a * 13 + e)).natAbs ≤ al) (hbe : ∀ e, e < 13 → (V (b * 13 + e)).natAbs ≤ be) (hdeg : jdg V a 13 = 0 ∨ jdg V b 13 = 0 ∨ jdg V a 13 + jdg V b 13 ≤ 14) (hfit : 169 * (al * be) < jB ^ 698) (hs : jS hp q1 q2 q3 V h) :
    mj_Ok (D + 5) 202 [.ref q0, .int (jn (to : Nat)), .int (jn (a : Nat)), .int (jn (b : Nat))] h (fun r => ∃ (W : Nat → Int) (h' : mj_H), jS hp q1 q2 q3 W h' ∧ (∀ s, (s < to * 13 ∨ to * 13 + 13 ≤ s) → s ≠ 652 → W s = V s) ∧ (∀ e, e < 13 → (W (to * 13 + e)).natAbs ≤ 169 * (al * be)) ∧ jdg W to 13 ≤ jdg V a 13 + jdg V b 13 - 1 ∧ (∀ e, e < 13 → W (to * 13 + e) = prs V a b (jdg V a 13) e) ∧ r = (.inl none, h')) := by
  have hal1 := jdg_le V a 13
  refine mj_Ok.of (M := mj_m202) rfl rfl rfl ?_
  iterate 2 refine mj_T.pl rfl rfl rfl rfl ?_
  refine mj_T.call (ins := .invokevirtual 110) rfl rfl (Nat.le_of_ble_eq_true rfl) (Nat.le_of_ble_eq_true rfl) (by simp [mj_recv, jS_a G hs]) rfl (jp_empties (D := D + 2) G (p := to) (by omega) hs) (fun v' h1 hq' => ?_) (fun i h' hq' => by obtain ⟨_, _, h⟩ := hq'; cases h)
  obtain ⟨_, hs1, hq'⟩ := hq'
  cases hq'
  have a1 : ∀ e, e < 13 → jfl V to (fun _ => 0) 13 (to * 13 + e) = 0 := fun e he => jfl_at _ to _ he
  have a2 : ∀ s, (s < to * 13 ∨ to * 13 + 13 ≤ s) → jfl V to (fun _ => 0) 13 s = V s := fun s hc => jfl_off _ to _ hc
  generalize jfl V to (fun _ => 0) 13 = W1 at hs1 a1 a2
  have hja : jdg W1 a 13 = jdg V a 13 := jdg_congr 13 fun e he => a2 _ (by omega)
  iterate 2 refine mj_T.pl rfl rfl rfl rfl ?_
  refine mj_T.call (ins := .invokevirtual 114) rfl rfl (Nat.le_of_ble_eq_true rfl) (Nat.le_of_ble_eq_true rfl) (by simp [mj_recv, jS_a G hs1]) rfl (jp_degreeOf (D := D + 2) G (p := a) (by omega) hs1) (fun v' h' hq' => ?_) (fun i h' hq' => by cases hq')
  cases hq'
  rw [hja]
  refine mj_T.pl rfl rfl rfl rfl ?_
  refine jx_mp1 (D := D) (V := V) G hto ha hb hta htb hal hbe hdeg hfit (Gt := prs V a b (jdg V a 13)) (fun W h k1 k2 k3 k4 k5 => ⟨W, h, k1, k2, k3, jdg_of_zero fun e e1 e2 => k4 e e2 (by omega), k5, rfl⟩) (jdg V a 13) 0 W1 h1 _ (Nat.le_refl _) (by omega) hs1 (fun s x1 x2 => a2 s x1) (fun e he => by rw [a1 e he]; exact Nat.zero_le _) (fun e he _ => a1 e he) (fun e he => by rw [a1 e he, Int.zero_add])
end JMX
theorem psm_eq (V : Nat → Int) (a b i e : Nat) : ∀ m, psm V a b i m e = if i ≤ e ∧ e - i < m then V (a * 13 + i) * V (b * 13 + (e - i)) else 0
  | 0 => by
    rw [if_neg (by omega)]
    rfl
  | m + 1 => by
    show psm V a b i m e + (if i + m = e then V (a * 13 + i) * V (b * 13 + m) else 0) = _
    rw [psm_eq V a b i e m]
    by_cases c : i + m = e
    · rw [if_pos c, if_neg (by omega), if_pos (by omega), show e - i = m by omega, Int.zero_add]
    · rw [if_neg c, Int.add_zero]
      by_cases d : i ≤ e ∧ e - i < m
      · rw [if_pos d, if_pos (by omega)]
      · rw [if_neg d, if_neg (by omega)]
theorem jpo_zb {V : Nat → Int} {p i : Nat} (h : jdg V p 13 ≤ i) : jpo V p i = 0 := by
  unfold jpo
  split
  · exact jdg_zero V p 13 i h (by omega)
  · rfl
theorem prs_zs (V : Nat → Int) (a b e : Nat) : ∀ m, m ≤ 13 → prs V a b m e = zs m (fun u => if u ≤ e then jpo V a u * jpo V b (e - u) else 0)
  | 0, _ => rfl
  | m + 1, hm => by
    show prs V a b m e + psm V a b m (jdg V b 13) e = zs m (fun u => if u ≤ e then jpo V a u * jpo V b (e - u) else 0) + (if m ≤ e then jpo V a m * jpo V b (e - m) else 0)
    rw [prs_zs V a b e m (by omega), psm_eq]
    congr 1
    have hd := jdg_le V b 13
    by_cases c : m ≤ e
    · rw [if_pos c]
      by_cases d : e - m < jdg V b 13
      · rw [if_pos ⟨c, d⟩, jpo_at (by omega), jpo_at (by omega)]
      · rw [if_neg (fun q => d q.2), jpo_zb (V := V) (p := b) (i := e - m) (by omega), Int.mul_zero]
    · rw [if_neg c, if_neg (fun q => c q.1)]
theorem prs_mul (V : Nat → Int) (a b e : Nat) : prs V a b (jdg V a 13) e = pz_mul (jpo V a) (jpo V b) e := by
  rw [prs_zs V a b e _ (jdg_le V a 13), ← tw_end (A := jpo V a) (B := jpo V b) (da := jdg V a 13) (fun i hi => jpo_zb hi)]
  show _ = zs _ _ + (if jdg V a 13 ≤ e ∧ e - jdg V a 13 < 0 then _ else 0)
  rw [if_neg (by omega), Int.add_zero]
