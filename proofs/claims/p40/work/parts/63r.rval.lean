/-! The reference's value at a place. -/
theorem jvu_at (V : Nat → Int) (s : Nat) (z : Int) : jvu V s z s = z := by simp [jvu]
theorem jvu_ne (V : Nat → Int) (s : Nat) (z : Int) {t : Nat} (h : t ≠ s) : jvu V s z t = V t := by simp [jvu, h]
section JVA
variable {D : Nat} {hp h : mj_H} {q0 q1 q2 q3 : Nat} {fs : List Value} {V : Nat → Int} {p : Nat}
theorem jva_step {a k c : Int} {m n x C : Nat} (ha : a.natAbs ≤ m * (C * x ^ n)) (hk : k.natAbs ≤ x) (hc : c.natAbs ≤ C) (q : Int) (hq : q.natAbs ≤ x ^ (n + 1)) : (a * k).natAbs ≤ m * (C * x ^ (n + 1)) ∧ (c * q).natAbs ≤ C * x ^ (n + 1) ∧ (a * k + c * q).natAbs ≤ (m + 1) * (C * x ^ (n + 1)) := by
  have h1 : (a * k).natAbs ≤ m * (C * x ^ (n + 1)) := by
    rw [Int.natAbs_mul, Nat.pow_succ, ← Nat.mul_assoc C, ← Nat.mul_assoc m]
    exact Nat.mul_le_mul ha hk
  have h2 : (c * q).natAbs ≤ C * x ^ (n + 1) := by
    rw [Int.natAbs_mul]
    exact Nat.mul_le_mul hc hq
  refine ⟨h1, h2, ?_⟩
  have h3 := Int.natAbs_add_le (a * k) (c * q)
  have h4 : (m + 1) * (C * x ^ (n + 1)) = m * (C * x ^ (n + 1)) + C * x ^ (n + 1) := Nat.succ_mul _ _
  omega
theorem jp_va (G : jG hp q0 q1 q2 q3 fs) (hpp : p ≤ 49) {C x d : Nat} (hd : d ≤ 12) (hC : ∀ e, e < 13 → (V (p * 13 + e)).natAbs ≤ C) (hK : (V 656).natAbs ≤ x) (hN : (V 657).natAbs ≤ x) (hx : 1 ≤ x) (hfit : 13 * (C * x ^ 12) < jB ^ 698) (hfit2 : x ^ 12 < jB ^ 698) {Q : mj_R → Prop}
    (hend : ∀ (W : Nat → Int) (h : mj_H), jS hp q1 q2 q3 W h → (∀ s, s ≠ 652 → s ≠ 659 → s ≠ 660 → W s = V s) → (W 659).natAbs ≤ 13 * (C * x ^ 12) → (W 660).natAbs ≤ x ^ 12 → (V 657 ≠ 0 → W 660 ≠ 0) → Q (.inl (some (.int (jn (jsg (W 659))))), h)) :
    ∀ (m n : Nat) (W : Nat → Int) (h : mj_H), n + m = d → jS hp q1 q2 q3 W h → (∀ s, s ≠ 652 → s ≠ 659 → s ≠ 660 → W s = V s) → (W 659).natAbs ≤ (n + 1) * (C * x ^ n) → (W 660).natAbs ≤ x ^ n → (V 657 ≠ 0 → W 660 ≠ 0) → mj_T (D + 4) mj_m215 44 [some (.ref q0), some (.int (jn (p : Nat))), some (.int (jn (d : Nat))), some (.int (jn ((m : Nat) - 1 : Int)))] [] h Q := by
  have mono : ∀ n, n ≤ 12 → x ^ n ≤ x ^ 12 := fun n hn => Nat.pow_le_pow_right hx hn
  have monoC : ∀ k n, k ≤ 13 → n ≤ 12 → k * (C * x ^ n) ≤ 13 * (C * x ^ 12) := fun k n hk hn => Nat.mul_le_mul hk (Nat.mul_le_mul_left _ (mono n hn))
  intro m
  induction m with
  | zero =>
    intro n W h hn hs hf h1 h2 h3
    refine mj_T.pl rfl rfl rfl rfl ?_
    refine mj_T.if0 (a := ((0 : Nat) : Int) - 1) rfl ⟨by decide, by decide⟩ (fun hc => ?_) (fun hc => ?_)
    · iterate 2 refine mj_T.pl rfl rfl rfl rfl ?_
      refine mj_T.call (ins := .invokevirtual 68) rfl rfl (Nat.le_of_ble_eq_true rfl) (Nat.le_of_ble_eq_true rfl) (by simp [mj_recv, jS_a G hs]) rfl (jS_sign (D := D + 3) G (s := 659) (by decide) hs) (fun v' h' hq' => ?_) (fun i h' hq' => by cases hq')
      cases hq'
      exact mj_T.ret rfl rfl rfl (hend W h hs hf (Nat.le_trans h1 (monoC _ _ (by omega) (by omega))) (Nat.le_trans h2 (mono _ (by omega))) h3)
    · simp [jc] at hc
  | succ m ih =>
    intro n W h hn hs hf h1 h2 h3
    have q2 : (W 660 * W 657).natAbs ≤ x ^ (n + 1) := by
      rw [Int.natAbs_mul, Nat.pow_succ, hf 657 (by decide) (by decide) (by decide)]
      exact Nat.mul_le_mul h2 hN
    have q3 : V 657 ≠ 0 → W 660 * W 657 ≠ 0 := fun hz e => by
      rcases Int.mul_eq_zero.mp e with e | e
      · exact h3 hz e
      · rw [hf 657 (by decide) (by decide) (by decide)] at e
        exact hz e
    obtain ⟨s1, s2, s3⟩ := jva_step h1 hK (hC m (by omega)) _ q2
    refine mj_T.pl rfl rfl rfl rfl ?_
    refine mj_T.if0 (a := ((m + 1 : Nat) : Int) - 1) rfl ⟨by omega, by omega⟩ (fun hc => ?_) (fun hc => ?_)
    · simp only [jc, decide_eq_true_eq] at hc
      omega
    rw [show ((m + 1 : Nat) : Int) - 1 = (m : Int) by omega]
    iterate 4 refine mj_T.pl rfl rfl rfl rfl ?_
    refine mj_T.call (ins := .invokevirtual 117) rfl rfl (Nat.le_of_ble_eq_true rfl) (Nat.le_of_ble_eq_true rfl) (by simp [mj_recv, jS_a G hs]) rfl (jS_mul (D := D + 2) (V := W) G (to := 660) (a := 660) (b := 657) (by decide) (by decide) (by decide) (jnl_of_lt (Nat.le_trans q2 (mono _ (by omega))) hfit2) hs) (fun v' h1 hq' => ?_) (fun i h' hq' => by obtain ⟨_, _, h⟩ := hq'; cases h)
    obtain ⟨_, hs1, hq'⟩ := hq'
    cases hq'
    have a1 : jvu W 660 (W 660 * W 657) 660 = W 660 * W 657 := jvu_at _ _ _
    have a2 : ∀ s, s ≠ 660 → jvu W 660 (W 660 * W 657) s = W s := fun s hne => jvu_ne _ _ _ hne
    generalize jvu W 660 (W 660 * W 657) = W1 at hs1 a1 a2
    iterate 4 refine mj_T.pl rfl rfl rfl rfl ?_
    refine mj_T.call (ins := .invokevirtual 117) rfl rfl (Nat.le_of_ble_eq_true rfl) (Nat.le_of_ble_eq_true rfl) (by simp [mj_recv, jS_a G hs1]) rfl (jS_mul (D := D + 2) (V := W1) G (to := 659) (a := 659) (b := 656) (by decide) (by decide) (by decide) (jnl_of_lt (M := 13 * (C * x ^ 12)) (by rw [a2 659 (by decide), a2 656 (by decide), hf 656 (by decide) (by decide) (by decide)]; exact Nat.le_trans s1 (monoC _ _ (by omega) (by omega))) hfit) hs1) (fun v' h2 hq' => ?_) (fun i h' hq' => by obtain ⟨_, _, h⟩ := hq'; cases h)
    obtain ⟨_, hs2, hq'⟩ := hq'
    cases hq'
    have b1 : jvu W1 659 (W1 659 * W1 656) 659 = W1 659 * W1 656 := jvu_at _ _ _
    have b2 : ∀ s, s ≠ 659 → jvu W1 659 (W1 659 * W1 656) s = W1 s := fun s hne => jvu_ne _ _ _ hne
    generalize jvu W1 659 (W1 659 * W1 656) = W2 at hs2 b1 b2
    iterate 4 refine mj_T.pl rfl rfl rfl rfl ?_
    refine mj_T.call (ins := .invokestatic 104) rfl rfl (Nat.le_of_ble_eq_true rfl) (Nat.le_of_ble_eq_true rfl) rfl rfl (jq_slot (D := D + 3) (p := p) (i := m)) (fun v' h' hq' => ?_) (fun i h' hq' => by cases hq')
    cases hq'
    refine mj_T.pl rfl rfl rfl rfl ?_
    have vm : W2 (p * 13 + m) = V (p * 13 + m) := by rw [b2 _ (by omega), a2 _ (by omega), hf _ (by omega) (by omega) (by omega)]
    have v6 : W2 660 = W 660 * W 657 := by rw [b2 _ (by decide), a1]
    refine mj_T.call (ins := .invokevirtual 117) rfl rfl (Nat.le_of_ble_eq_true rfl) (Nat.le_of_ble_eq_true rfl) (by simp [mj_recv, jS_a G hs2]) rfl (jS_mul (D := D + 2) (V := W2) G (to := 652) (a := p * 13 + m) (b := 660) (by decide) (by omega) (by decide) (jnl_of_lt (M := 13 * (C * x ^ 12)) (by rw [vm, v6]; exact Nat.le_trans (by rw [Nat.one_mul]; exact s2) (monoC 1 (n + 1) (by omega) (by omega))) hfit) hs2) (fun v' h3 hq' => ?_) (fun i h' hq' => by obtain ⟨_, _, h⟩ := hq'; cases h)
    obtain ⟨_, hs3, hq'⟩ := hq'
    cases hq'
    have c1 : jvu W2 652 (W2 (p * 13 + m) * W2 660) 652 = W2 (p * 13 + m) * W2 660 := jvu_at _ _ _
    have c2 : ∀ s, s ≠ 652 → jvu W2 652 (W2 (p * 13 + m) * W2 660) s = W2 s := fun s hne => jvu_ne _ _ _ hne
    generalize jvu W2 652 (W2 (p * 13 + m) * W2 660) = W3 at hs3 c1 c2
    have v7 : W3 659 + 1 * W3 652 = W 659 * V 656 + V (p * 13 + m) * (W 660 * W 657) := by
      rw [c1, c2 _ (by decide), b1, vm, v6, a2 _ (by decide), a2 _ (by decide), hf 656 (by decide) (by decide) (by decide), Int.one_mul]
    iterate 5 refine mj_T.pl rfl rfl rfl rfl ?_
    refine mj_T.call (ins := .invokevirtual 107) rfl rfl (Nat.le_of_ble_eq_true rfl) (Nat.le_of_ble_eq_true rfl) (by simp [mj_recv, jS_a G hs3]) rfl (jS_adds (D := D) (V := W3) G (to := 659) (a := 659) (b := 652) (f := 1) (by decide) (by decide) (by decide) (Or.inl rfl) (jnl_of_lt (M := 13 * (C * x ^ 12)) (by rw [v7]; exact Nat.le_trans s3 (monoC _ _ (by omega) (by omega))) hfit) hs3) (fun v' h4 hq' => ?_) (fun i h' hq' => by obtain ⟨_, _, h⟩ := hq'; cases h)
    obtain ⟨_, hs4, hq'⟩ := hq'
    cases hq'
    have d1 : jvu W3 659 (W3 659 + 1 * W3 652) 659 = W3 659 + 1 * W3 652 := jvu_at _ _ _
    have d2 : ∀ s, s ≠ 659 → jvu W3 659 (W3 659 + 1 * W3 652) s = W3 s := fun s hne => jvu_ne _ _ _ hne
    generalize jvu W3 659 (W3 659 + 1 * W3 652) = W4 at hs4 d1 d2
    refine mj_T.iinc (a := (m : Int)) rfl rfl ?_
    refine mj_T.pl rfl rfl rfl rfl ?_
    have v8 : W4 660 = W 660 * W 657 := by rw [d2 _ (by decide), c2 _ (by decide), v6]
    exact ih (n + 1) W4 h4 (by omega) hs4 (fun s x1 x2 x3 => by rw [d2 s x2, c2 s x1, b2 s x2, a2 s x3, hf s x1 x2 x3]) (by rw [d1, v7]; exact s3) (by rw [v8]; exact q2) (fun hz => by rw [v8]; exact q3 hz)
theorem jp_valueAt (G : jG hp q0 q1 q2 q3 fs) (hpp : p ≤ 49) {C x : Nat} (hC : ∀ e, e < 13 → (V (p * 13 + e)).natAbs ≤ C) (hK : (V 656).natAbs ≤ x) (hN : (V 657).natAbs ≤ x) (hx : 1 ≤ x) (hfit : 13 * (C * x ^ 12) < jB ^ 698) (hfit2 : x ^ 12 < jB ^ 698) (hs : jS hp q1 q2 q3 V h) :
    mj_Ok (D + 5) 215 [.ref q0, .int (jn (p : Nat))] h (fun r => ∃ (W : Nat → Int) (h' : mj_H), jS hp q1 q2 q3 W h' ∧ (∀ s, s ≠ 652 → s ≠ 659 → s ≠ 660 → W s = V s) ∧ (W 659).natAbs ≤ 13 * (C * x ^ 12) ∧ (W 660).natAbs ≤ x ^ 12 ∧ (V 657 ≠ 0 → W 660 ≠ 0) ∧ r = (.inl (some (.int (jn (jsg (W 659))))), h')) := by
  have hdl := jdg_le V p 13
  refine mj_Ok.of (M := mj_m215) rfl rfl rfl ?_
  iterate 2 refine mj_T.pl rfl rfl rfl rfl ?_
  refine mj_T.call (ins := .invokevirtual 114) rfl rfl (Nat.le_of_ble_eq_true rfl) (Nat.le_of_ble_eq_true rfl) (by simp [mj_recv, jS_a G hs]) rfl (jp_degreeOf (D := D + 2) G (p := p) (by omega) hs) (fun v' h' hq' => ?_) (fun i h' hq' => by cases hq')
  cases hq'
  iterate 4 refine mj_T.pl rfl rfl rfl rfl ?_
  refine mj_T.call (ins := .invokevirtual 45) rfl rfl (Nat.le_of_ble_eq_true rfl) (Nat.le_of_ble_eq_true rfl) (by simp [mj_recv, jS_a G hs]) rfl (jS_sets (D := D + 3) G (s := 659) (v := 0) (by decide) ⟨by decide, by decide⟩ hs) (fun v' h1 hq' => ?_) (fun i h' hq' => by obtain ⟨_, _, h⟩ := hq'; cases h)
  obtain ⟨_, hs1, hq'⟩ := hq'
  cases hq'
  have a1 : jvu V 659 (0) 659 = 0 := jvu_at _ _ _
  have a2 : ∀ s, s ≠ 659 → jvu V 659 (0) s = V s := fun s hne => jvu_ne _ _ _ hne
  generalize jvu V 659 (0) = W1 at hs1 a1 a2
  iterate 3 refine mj_T.pl rfl rfl rfl rfl ?_
  refine mj_T.call (ins := .invokevirtual 45) rfl rfl (Nat.le_of_ble_eq_true rfl) (Nat.le_of_ble_eq_true rfl) (by simp [mj_recv, jS_a G hs1]) rfl (jS_sets (D := D + 3) G (s := 660) (v := 1) (by decide) ⟨by decide, by decide⟩ hs1) (fun v' h2 hq' => ?_) (fun i h' hq' => by obtain ⟨_, _, h⟩ := hq'; cases h)
  obtain ⟨_, hs2, hq'⟩ := hq'
  cases hq'
  have b1 : jvu W1 660 (1) 660 = 1 := jvu_at _ _ _
  have b2 : ∀ s, s ≠ 660 → jvu W1 660 (1) s = W1 s := fun s hne => jvu_ne _ _ _ hne
  generalize jvu W1 660 (1) = W2 at hs2 b1 b2
  have hx12 : 1 ≤ x ^ 12 := Nat.pow_le_pow_left hx 12
  refine mj_T.pl rfl rfl rfl rfl ?_
  refine mj_T.if0 (a := (jdg V p 13 : Int) - 1) rfl ⟨by omega, by omega⟩ (fun hc => ?_) (fun hc => ?_)
  · simp only [jc, decide_eq_true_eq] at hc
    obtain ⟨d, hd⟩ : ∃ d, jdg V p 13 = d + 1 := ⟨jdg V p 13 - 1, by omega⟩
    rw [hd, show ((d + 1 : Nat) : Int) - 1 = (d : Int) by omega]
    iterate 4 refine mj_T.pl rfl rfl rfl rfl ?_
    refine mj_T.call (ins := .invokestatic 104) rfl rfl (Nat.le_of_ble_eq_true rfl) (Nat.le_of_ble_eq_true rfl) rfl rfl (jq_slot (D := D + 3) (p := p) (i := d)) (fun v' h' hq' => ?_) (fun i h' hq' => by cases hq')
    cases hq'
    refine mj_T.call (ins := .invokevirtual 84) rfl rfl (Nat.le_of_ble_eq_true rfl) (Nat.le_of_ble_eq_true rfl) (by simp [mj_recv, jS_a G hs2]) rfl (jS_copies (D := D + 2) G (to := 659) (s := p * 13 + d) (by decide) (by omega) hs2) (fun v' h3 hq' => ?_) (fun i h' hq' => by obtain ⟨_, _, h⟩ := hq'; cases h)
    obtain ⟨_, hs3, hq'⟩ := hq'
    cases hq'
    have c1 : jvu W2 659 (W2 (p * 13 + d)) 659 = W2 (p * 13 + d) := jvu_at _ _ _
    have c2 : ∀ s, s ≠ 659 → jvu W2 659 (W2 (p * 13 + d)) s = W2 s := fun s hne => jvu_ne _ _ _ hne
    generalize jvu W2 659 (W2 (p * 13 + d)) = W3 at hs3 c1 c2
    iterate 2 refine mj_T.pl rfl rfl rfl rfl ?_
    refine mj_T.isub (b := 1) rfl ?_
    refine mj_T.pl rfl rfl rfl rfl ?_
    have v0 : W2 (p * 13 + d) = V (p * 13 + d) := by rw [b2 _ (by omega), a2 _ (by omega)]
    refine jp_va (D := D) (V := V) (p := p) G hpp (C := C) (x := x) (d := d) (by omega) hC hK hN hx hfit hfit2 (fun W h k1 k2 k3 k4 k5 => ⟨W, h, k1, k2, k3, k4, k5, rfl⟩) d 0 W3 h3 (by omega) hs3 (fun s x1 x2 x3 => by rw [c2 s x2, b2 s x3, a2 s x2]) ?_ ?_ ?_
    · rw [c1, v0, Nat.pow_zero, Nat.mul_one, Nat.zero_add, Nat.one_mul]
      exact hC d (by omega)
    · rw [c2 _ (by decide), b1]
      exact Nat.le_refl _
    · rw [c2 _ (by decide), b1]
      exact fun _ => by decide
  · simp only [jc, decide_eq_false_iff_not] at hc
    refine mj_T.pl rfl rfl rfl rfl ?_
    have v0 : W2 659 = 0 := by rw [b2 _ (by decide), a1]
    refine mj_T.ret rfl rfl rfl ⟨W2, h2, hs2, fun s x1 x2 x3 => by rw [b2 s x3, a2 s x2], by rw [v0]; exact Nat.zero_le _, by rw [b1]; exact hx12, fun _ => by rw [b1]; decide, ?_⟩
    rw [v0]
    rfl
end JVA
