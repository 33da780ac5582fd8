/-! The reference's contents: the greatest number that divides all coefficients; polynomials divided by it. -/
/-- the greatest common divisor of the upper coefficients of a polynomial -/
def jgk (V : Nat → Int) (p : Nat) : Nat → Nat
  | 0 => 0
  | m + 1 => Nat.gcd (jgk V p m) (V (p * 13 + (12 - m))).natAbs
theorem jgk_dvd (V : Nat → Int) (p : Nat) : ∀ m e, m ≤ 13 → 13 ≤ e + m → e < 13 → jgk V p m ∣ (V (p * 13 + e)).natAbs
  | 0, e, _, h1, h2 => by omega
  | m + 1, e, h0, h1, h2 => by
    by_cases c : e = 12 - m
    · rw [c]
      exact Nat.gcd_dvd_right _ _
    · exact Nat.dvd_trans (Nat.gcd_dvd_left _ _) (jgk_dvd V p m e (by omega) (by omega) h2)
theorem jgk_max (V : Nat → Int) (p d : Nat) (h : ∀ e, e < 13 → d ∣ (V (p * 13 + e)).natAbs) : ∀ m, m ≤ 13 → d ∣ jgk V p m
  | 0, _ => Nat.dvd_zero d
  | m + 1, h0 => Nat.dvd_gcd (jgk_max V p d h m (by omega)) (h (12 - m) (by omega))
theorem jgk_zero (V : Nat → Int) (p : Nat) : ∀ m, m ≤ 13 → (∀ e, 13 - m ≤ e → e < 13 → V (p * 13 + e) = 0) → jgk V p m = 0
  | 0, _, _ => rfl
  | m + 1, h0, h => by
    show Nat.gcd (jgk V p m) (V (p * 13 + (12 - m))).natAbs = 0
    rw [jgk_zero V p m (by omega) (fun e h1 h2 => h e (by omega) h2), h (12 - m) (by omega) (by omega)]
    rfl
section JCN
variable {D : Nat} {hp h : mj_H} {q0 q1 q2 q3 : Nat} {fs : List Value} {V : Nat → Int}
theorem jp_contents_loop (G : jG hp q0 q1 q2 q3 fs) {to p : Nat} (hto : to < 665) (hpp : p ≤ 49) (t0 : 650 ≤ to) (t1 : to ≠ 652) (t2 : to ≠ 655) (t3 : to ≠ 663) (t4 : to ≠ 664) {Q : mj_R → Prop}
    (hend : ∀ (W : Nat → Int) (h : mj_H), jS hp q1 q2 q3 W h → W to = ((jgk V p 13 : Nat) : Int) → (∀ s, s ≠ to → s ≠ 652 → s ≠ 655 → s ≠ 663 → s ≠ 664 → W s = V s) → Q (.inl none, h)) :
    ∀ (k : Nat) (W : Nat → Int) (h : mj_H), k ≤ 13 → jS hp q1 q2 q3 W h → W to = ((jgk V p (13 - k) : Nat) : Int) → (∀ s, s ≠ to → s ≠ 652 → s ≠ 655 → s ≠ 663 → s ≠ 664 → W s = V s) → mj_T (D + 5) mj_m207 12 [some (.ref q0), some (.int (jn (to : Nat))), some (.int (jn (p : Nat))), some (.int (jn ((k : Int) - 1)))] [] h Q := by
  intro k
  induction k with
  | zero =>
    intro W h _ hs hg hf
    refine mj_T.pl rfl rfl rfl rfl ?_
    refine mj_T.if0 rfl ⟨by omega, by omega⟩ (fun hc => ?_) (fun hc => ?_)
    · exact mj_T.ret rfl rfl rfl (hend W h hs hg hf)
    · simp only [jc, decide_eq_false_iff_not] at hc
      omega
  | succ k ih =>
    intro W h hk hs hg hf
    rw [show ((k + 1 : Nat) : Int) - 1 = (k : Int) by omega]
    refine mj_T.pl rfl rfl rfl rfl ?_
    refine mj_T.if0 rfl ⟨by omega, by omega⟩ (fun hc => ?_) (fun hc => ?_)
    · simp only [jc, decide_eq_true_eq] at hc
      omega
    · iterate 3 refine mj_T.pl rfl rfl rfl rfl ?_
      refine mj_T.call (ins := .invokevirtual 84) rfl rfl (Nat.le_of_ble_eq_true rfl) (Nat.le_of_ble_eq_true rfl) (by simp [mj_recv, jS_a G hs]) rfl (jS_copies (D := D + 3) G (to := 652) (s := to) (by decide) hto hs) (fun v' h1 hq' => ?_) (fun i h' hq' => by obtain ⟨_, _, h⟩ := hq'; cases h)
      obtain ⟨_, hs1, hq'⟩ := hq'
      cases hq'
      iterate 5 refine mj_T.pl rfl rfl rfl rfl ?_
      refine mj_T.call (ins := .invokestatic 104) rfl rfl (Nat.le_of_ble_eq_true rfl) (Nat.le_of_ble_eq_true rfl) rfl rfl (jq_slot (D := D + 4) (p := p) (i := k)) (fun v' h' hq' => ?_) (fun i h' hq' => by cases hq')
      cases hq'
      refine mj_T.call (ins := .invokevirtual 127) rfl rfl (Nat.le_of_ble_eq_true rfl) (Nat.le_of_ble_eq_true rfl) (by simp [mj_recv, jS_a G hs1]) rfl (jp_commons (D := D) G (to := to) (i := 652) (j := p * 13 + k) hto (by decide) (by omega) t2 t3 t4 (by omega) hs1) (fun v' h2 hq' => ?_) (fun i h' hq' => by obtain ⟨_, _, _, _, _, h⟩ := hq'; cases h)
      obtain ⟨W2, _, hs2, g2, f2, hq'⟩ := hq'
      cases hq'
      refine mj_T.iinc (a := k) rfl rfl ?_
      refine mj_T.pl rfl rfl rfl rfl ?_
      refine ih W2 h2 (by omega) hs2 ?_ (fun s s1 s2 s3 s4 s5 => ?_)
      · have e1 : jvu W 652 (W to) 652 = W to := by unfold jvu; rw [if_pos rfl]
        have e2 : jvu W 652 (W to) (p * 13 + k) = V (p * 13 + k) := by
          unfold jvu
          rw [if_neg (by omega)]
          exact hf _ (by omega) (by omega) (by omega) (by omega) (by omega)
        rw [g2, e1, e2, hg, Int.natAbs_natCast, show 13 - k = (13 - (k + 1)) + 1 by omega]
        show _ = ((Nat.gcd (jgk V p (13 - (k + 1))) (V (p * 13 + (12 - (13 - (k + 1))))).natAbs : Nat) : Int)
        rw [show 12 - (13 - (k + 1)) = k by omega]
      · rw [f2 s s1 s3 s4 s5]
        unfold jvu
        rw [if_neg s2]
        exact hf s s1 s2 s3 s4 s5
theorem jp_contents (G : jG hp q0 q1 q2 q3 fs) {to p : Nat} (hto : to < 665) (hpp : p ≤ 49) (t0 : 650 ≤ to) (t1 : to ≠ 652) (t2 : to ≠ 655) (t3 : to ≠ 663) (t4 : to ≠ 664) (hs : jS hp q1 q2 q3 V h) :
    mj_Ok (D + 6) 207 [.ref q0, .int (jn (to : Nat)), .int (jn (p : Nat))] h (fun r => ∃ (W : Nat → Int) (h' : mj_H), jS hp q1 q2 q3 W h' ∧ W to = ((jgk V p 13 : Nat) : Int) ∧ (∀ s, s ≠ to → s ≠ 652 → s ≠ 655 → s ≠ 663 → s ≠ 664 → W s = V s) ∧ r = (.inl none, h')) := by
  refine mj_Ok.of (M := mj_m207) rfl rfl rfl ?_
  iterate 3 refine mj_T.pl rfl rfl rfl rfl ?_
  refine mj_T.call (ins := .invokevirtual 45) rfl rfl (Nat.le_of_ble_eq_true rfl) (Nat.le_of_ble_eq_true rfl) (by simp [mj_recv, jS_a G hs]) rfl (jS_sets (D := D + 4) G (s := to) (v := 0) hto ⟨by decide, by decide⟩ hs) (fun v' h1 hq' => ?_) (fun i h' hq' => by obtain ⟨_, _, h⟩ := hq'; cases h)
  obtain ⟨_, hs1, hq'⟩ := hq'
  cases hq'
  iterate 2 refine mj_T.pl rfl rfl rfl rfl ?_
  refine mj_T.call (ins := .invokevirtual 114) rfl rfl (Nat.le_of_ble_eq_true rfl) (Nat.le_of_ble_eq_true rfl) (by simp [mj_recv, jS_a G hs1]) rfl (jp_degreeOf (D := D + 3) G (p := p) (by omega) hs1) (fun v' h' hq' => ?_) (fun i h' hq' => by cases hq')
  cases hq'
  refine mj_T.pl rfl rfl rfl rfl ?_
  have e0 : ∀ e, e < 13 → jvu V to 0 (p * 13 + e) = V (p * 13 + e) := fun e he => by unfold jvu; rw [if_neg (by omega)]
  have hle := jdg_le (jvu V to 0) p 13
  refine jp_contents_loop (D := D) (V := V) G hto hpp t0 t1 t2 t3 t4 (fun W h2 hs2 g2 f2 => ⟨W, h2, hs2, g2, f2, rfl⟩) (jdg (jvu V to 0) p 13) _ h1 hle hs1 ?_ (fun s s1 s2 s3 s4 s5 => by unfold jvu; rw [if_neg s1])
  rw [jgk_zero V p _ (by omega) (fun e a b => by rw [← e0 e b]; exact jdg_zero _ p 13 e (by omega) b)]
  unfold jvu
  rw [if_pos rfl]
  rfl
theorem jp_shrinks_loop (G : jG hp q0 q1 q2 q3 fs) {p : Nat} (hpp : p ≤ 49) {g : Nat} {Q : mj_R → Prop}
    (hend : ∀ (W : Nat → Int) (h : mj_H), jS hp q1 q2 q3 W h → (∀ e, e < 13 → W (p * 13 + e) = (V (p * 13 + e)).tdiv (g : Int)) → (∀ s, (s < p * 13 ∨ p * 13 + 13 ≤ s) → s ≠ 663 → s ≠ 664 → W s = V s) → Q (.inl none, h)) :
    ∀ (k : Nat) (W : Nat → Int) (h : mj_H), k ≤ 13 → (1 ≤ k → 0 < g) → jS hp q1 q2 q3 W h → V 653 = (g : Int) → (∀ e, k ≤ e → e < 13 → W (p * 13 + e) = (V (p * 13 + e)).tdiv (g : Int)) → (∀ e, e < k → W (p * 13 + e) = V (p * 13 + e)) → (∀ s, (s < p * 13 ∨ p * 13 + 13 ≤ s) → s ≠ 663 → s ≠ 664 → W s = V s) → mj_T (D + 5) mj_m209 38 [some (.ref q0), some (.int (jn (p : Nat))), some (.int (jn ((k : Int) - 1)))] [] h Q := by
  intro k
  induction k with
  | zero =>
    intro W h _ _ hs hv hd hu hf
    refine mj_T.pl rfl rfl rfl rfl ?_
    refine mj_T.if0 rfl ⟨by omega, by omega⟩ (fun hc => ?_) (fun hc => ?_)
    · exact mj_T.ret rfl rfl rfl (hend W h hs (fun e he => hd e (Nat.zero_le _) he) hf)
    · simp only [jc, decide_eq_false_iff_not] at hc
      omega
  | succ k ih =>
    intro W h hk hg0 hs hv hd hu hf
    have hg := hg0 (by omega)
    rw [show ((k + 1 : Nat) : Int) - 1 = (k : Int) by omega]
    refine mj_T.pl rfl rfl rfl rfl ?_
    refine mj_T.if0 rfl ⟨by omega, by omega⟩ (fun hc => ?_) (fun hc => ?_)
    · simp only [jc, decide_eq_true_eq] at hc
      omega
    · have w653 : W 653 = (g : Int) := by rw [hf 653 (by omega) (by decide) (by decide)]; exact hv
      iterate 3 refine mj_T.pl rfl rfl rfl rfl ?_
      refine mj_T.call (ins := .invokestatic 104) rfl rfl (Nat.le_of_ble_eq_true rfl) (Nat.le_of_ble_eq_true rfl) rfl rfl (jq_slot (D := D + 4) (p := p) (i := k)) (fun v' h' hq' => ?_) (fun i h' hq' => by cases hq')
      cases hq'
      refine mj_T.pl rfl rfl rfl rfl ?_
      refine mj_T.call (ins := .invokevirtual 133) rfl rfl (Nat.le_of_ble_eq_true rfl) (Nat.le_of_ble_eq_true rfl) (by simp [mj_recv, jS_a G hs]) rfl (jp_exact (D := D) G (i := p * 13 + k) (j := 653) (by omega) (by decide) (by omega) (by omega) (by omega) (by decide) (by rw [w653]; omega) hs) (fun v' h1 hq' => ?_) (fun i h' hq' => by obtain ⟨_, _, _, _, _, h⟩ := hq'; cases h)
      obtain ⟨W1, _, hs1, g1, f1, hq'⟩ := hq'
      cases hq'
      refine mj_T.iinc (a := k) rfl rfl ?_
      refine mj_T.pl rfl rfl rfl rfl ?_
      refine ih W1 h1 (by omega) (fun _ => hg) hs1 hv (fun e a b => ?_) (fun e a => ?_) (fun s a b c => ?_)
      · by_cases c : e = k
        · rw [c, g1, w653, hu k (by omega)]
        · rw [f1 _ (by omega) (by omega) (by omega)]
          exact hd e (by omega) b
      · rw [f1 _ (by omega) (by omega) (by omega)]
        exact hu e (by omega)
      · rw [f1 s (by omega) b c]
        exact hf s a b c
theorem jgk_one {g : Nat} (h1 : jnl g = 1) (h2 : jlb g 0 = 1) : g = 1 := by
  have e1 := jnl_le_lt.mp (Nat.le_of_eq h1)
  rw [Nat.pow_one] at e1
  have e3 : g < 1000000000 := e1
  have e2 : jlb g 0 = g % 1000000000 := by
    show g / jB ^ 0 % jB = g % 1000000000
    rw [Nat.pow_zero, Nat.div_one]
  omega
end JCN
