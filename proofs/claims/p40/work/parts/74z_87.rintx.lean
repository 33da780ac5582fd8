/-! The reference, exactly: the parts of an interpolation. -/
/-- a line -/
def pz_line (p : Int) : pz_P := fun e => if e = 0 then -p else if e = 1 then 1 else 0
theorem pz_mul_line (A : pz_P) (p : Int) (e : Nat) : pz_mul A (pz_line p) e = (if e = 0 then 0 else A (e - 1)) - p * A e := by
  rw [pz_mul_comm]
  cases e with
  | zero =>
    show -p * A 0 = 0 - p * A 0
    rw [Int.neg_mul]
    omega
  | succ e =>
    show -p * A (e + 1) + pz_c e (pz_tl (pz_line p)) A = A e - p * A (e + 1)
    have h1 : pz_tl (pz_line p) = pz_one := funext fun i => by
      show (if i + 1 = 0 then -p else if i + 1 = 1 then 1 else 0) = if i = 0 then 1 else 0
      rw [if_neg (by omega)]
      by_cases q : i = 0
      · rw [if_pos (by omega), if_pos q]
      · rw [if_neg (by omega), if_neg q]
    have h2 : pz_c e pz_one A = A e := congrFun (pz_one_mul A) e
    rw [h1, h2, Int.neg_mul]
    omega
theorem it_fin {I w : Nat → Int} {A c : Nat} (hA : 0 < A) (hc : c = Nat.gcd A (cgd I 13)) (hw : ∀ e, e < 13 → w e = (I e).tdiv (c : Int)) : (∀ j, j < 13 → (A : Int) * w j = (A : Int).tdiv (c : Int) * I j) ∧ 0 < (A : Int).tdiv (c : Int) ∧ Nat.gcd ((A : Int).tdiv (c : Int)).natAbs (cgd w 13) = 1 := by
  have hc0 : 0 < c := by
    rw [hc]
    exact Nat.gcd_pos_of_pos_left _ hA
  obtain ⟨D, hD⟩ : c ∣ A := by
    rw [hc]
    exact Nat.gcd_dvd_left _ _
  have hI : ∀ e, e < 13 → ∃ z : Int, I e = (c : Int) * z := fun e he => by
    have h1 : c ∣ (I e).natAbs := Nat.dvd_trans (by rw [hc]; exact Nat.gcd_dvd_right _ _) (cgd_dvd I 13 e he)
    exact Int.natAbs_dvd_natAbs.mp (by rw [Int.natAbs_natCast]; exact h1)
  have hDt : (A : Int).tdiv (c : Int) = (D : Int) := by
    rw [hD, Int.natCast_mul, Int.mul_comm]
    exact Int.mul_tdiv_cancel _ (by omega)
  have hwz : ∀ e, e < 13 → I e = (c : Int) * w e := fun e he => by
    obtain ⟨z, hz⟩ := hI e he
    rw [hw e he, hz, Int.mul_comm (c : Int) z, Int.mul_tdiv_cancel _ (by omega), Int.mul_comm]
  rw [hDt]
  refine ⟨fun j hj => ?_, ?_, ?_⟩
  · rw [hwz j hj, hD, Int.natCast_mul, Int.mul_left_comm, Int.mul_assoc]
  · rcases Nat.eq_zero_or_pos D with q | q
    · rw [q, Nat.mul_zero] at hD
      omega
    · omega
  · rw [Int.natAbs_natCast]
    have hk1 : Nat.gcd D (cgd w 13) * c ∣ c := by
      have a1 : Nat.gcd D (cgd w 13) * c ∣ A := by
        rw [hD, Nat.mul_comm c D]
        exact Nat.mul_dvd_mul_right (Nat.gcd_dvd_left _ _) c
      have a2 : Nat.gcd D (cgd w 13) * c ∣ cgd I 13 := cgd_max I _ 13 (fun i hi => by
        rw [hwz i hi, Int.natAbs_mul, Int.natAbs_natCast, Nat.mul_comm c]
        exact Nat.mul_dvd_mul_right (Nat.dvd_trans (Nat.gcd_dvd_right _ _) (cgd_dvd w 13 i hi)) c)
      have a3 := Nat.dvd_gcd a1 a2
      rw [← hc] at a3
      exact a3
    obtain ⟨y, hy⟩ := hk1
    have h5 : Nat.gcd D (cgd w 13) * y = 1 := by
      refine Nat.eq_of_mul_eq_mul_left hc0 ?_
      rw [Nat.mul_one, Nat.mul_left_comm, ← Nat.mul_assoc]
      exact hy.symm
    exact Nat.dvd_one.mp ⟨y, h5.symm⟩
theorem bsf_step {P : Nat → Int} {i k : Nat} (h : k ≠ i) (e : Nat) : bsf P i (k + 1) e = (if e = 0 then 0 else bsf P i k (e - 1)) - P k * bsf P i k e := by
  show (if k = i then bsf P i k else fun j => (if j = 0 then 0 else bsf P i k (j - 1)) - P k * bsf P i k j) e = _
  rw [if_neg h]
section RXP
variable {h : mj_H} {tm er : Int} {T : Nat → Int}
theorem rx_differences {S N B X V : Nat → Int} {D i n : Nat} (g : gN N) (hi : i < n) (hn : N 78 = (n : Int)) (hs : rS S N B T X V h) : mj_Ok (D + 1) 249 [.ref 0, .int (jn (i : Int))] h (fun r => r = (.inl (some (.long (jl (wgt (fun j => N (79 + j)) n i)))), h)) := by
  refine mj_Ok.of (M := mj_m249) rfl rfl rfl ?_
  iterate 4 refine mj_T.pl rfl rfl rfl rfl ?_
  exact rp_df_loop (D := D) hi (by have := g.2.1.2; omega) hn hs (Q := fun r => r = (.inl (some (.long (jl (wgt (fun j => N (79 + j)) n i)))), h)) rfl n 0 (by omega)
theorem rx_lp_loop {S N B X V0 : Nat → Int} {i n : Nat} (g : gN N) (hi : i < n) (hn6 : n ≤ 6) (hn : N 78 = (n : Int)) {Q : mj_R → Prop} (hend : ∀ (V : Nat → Int) (h : mj_H), rS S N B T X V h → (∀ s, (s < 26 ∨ 39 ≤ s) → (s < 65 ∨ 78 ≤ s) → (s < 91 ∨ 104 ≤ s) → s ≠ 652 → V s = V0 s) → (∀ e, e < 13 → (V (2 * 13 + e)).natAbs ≤ (169 * 9) ^ 6) → (∀ e, e < 13 → V (2 * 13 + e) = bsf (fun j => N (79 + j)) i n e) → Q (.inl none, h)) :
    ∀ (m k : Nat) (V : Nat → Int) (h : mj_H), k + m = n → rS S N B T X V h → (∀ s, (s < 26 ∨ 39 ≤ s) → (s < 65 ∨ 78 ≤ s) → (s < 91 ∨ 104 ≤ s) → s ≠ 652 → V s = V0 s) → (∀ e, e < 13 → (V (2 * 13 + e)).natAbs ≤ (169 * 9) ^ k) → jdg V 2 13 ≤ k + 1 → (∀ e, e < 13 → V (2 * 13 + e) = bsf (fun j => N (79 + j)) i k e) → mj_T 38 mj_m250 17 [some (.ref 0), some (.int (jn (i : Int))), some (.int (jn (k : Int)))] [] h Q := by
  intro m
  induction m with
  | zero =>
    intro k V h hk hs f c1 c2 c9
    have hkn : k = n := by omega
    subst hkn
    refine mj_T.pl rfl rfl rfl rfl ?_
    refine mj_T.i2l rfl ⟨by omega, by omega⟩ ?_
    refine mj_T.pl rfl rfl rfl rfl ?_
    refine rT_get hs rfl rfl ?_
    refine mj_T.pl rfl rfl rfl rfl ?_
    refine rT_ldN (i := ((78 : Nat) : Int)) hs rfl ⟨by decide, by decide⟩ ?_
    rw [Int.toNat_natCast, hn]
    refine mj_T.lif (a := (k : Int)) (b := (k : Int)) rfl rfl ⟨by omega, by omega⟩ ⟨by omega, by omega⟩ (fun hc => ?_) (fun hc => ?_)
    · exact mj_T.ret rfl rfl rfl (hend V h hs f (fun e he => Nat.le_trans (c1 e he) (Nat.pow_le_pow_right (by decide) hn6)) c9)
    · simp only [jc, decide_eq_false_iff_not] at hc
      omega
  | succ m ih =>
    intro k V h hk hs f c1 c2 c9
    refine mj_T.pl rfl rfl rfl rfl ?_
    refine mj_T.i2l rfl ⟨by omega, by omega⟩ ?_
    refine mj_T.pl rfl rfl rfl rfl ?_
    refine rT_get hs rfl rfl ?_
    refine mj_T.pl rfl rfl rfl rfl ?_
    refine rT_ldN (i := ((78 : Nat) : Int)) hs rfl ⟨by decide, by decide⟩ ?_
    rw [Int.toNat_natCast, hn]
    refine mj_T.lif (a := (k : Int)) (b := (n : Int)) rfl rfl ⟨by omega, by omega⟩ ⟨by omega, by omega⟩ (fun hc => ?_) (fun hc => ?_)
    · simp only [jc, decide_eq_true_eq] at hc
      omega
    iterate 2 refine mj_T.pl rfl rfl rfl rfl ?_
    refine mj_T.icmp (a := (k : Int)) (b := (i : Int)) rfl ⟨by omega, by omega⟩ ⟨by omega, by omega⟩ (fun hc2 => ?_) (fun hc2 => ?_)
    rotate_left
    · refine mj_T.pl rfl rfl rfl rfl ?_
      refine mj_T.iinc (a := (k : Int)) rfl rfl ?_
      refine mj_T.pl rfl rfl rfl rfl ?_
      exact ih (k + 1) V h (by omega) hs f (fun e he => Nat.le_trans (c1 e he) (Nat.pow_le_pow_right (by decide) (by omega))) (by omega) (fun e he => by
        simp only [jc, Bool.not_eq_true', Bool.not_eq_false', decide_eq_true_eq, decide_eq_false_iff_not] at hc2
        unfold bsf
        rw [if_pos (by omega)]
        exact c9 e he)
    iterate 2 refine mj_T.pl rfl rfl rfl rfl ?_
    refine mj_T.call (ins := .invokevirtual 110) rfl rfl (Nat.le_of_ble_eq_true rfl) (Nat.le_of_ble_eq_true rfl) (by simp [mj_recv, rS_f hs]) rfl (mj_Ok.up (by decide) (jp_empties (D := 0) (rG S N B T X) (p := 5) (by decide) hs)) (fun v' g1 hq' => ?_) (fun i h' hq' => by obtain ⟨_, _, h⟩ := hq'; cases h)
    obtain ⟨_, hs1, hq'⟩ := hq'
    cases hq'
    have q1 : ∀ e, e < 13 → jfl V 5 (fun _ => 0) 13 (5 * 13 + e) = 0 := fun e he => jfl_at _ _ _ he
    have q2 : ∀ s, (s < 65 ∨ 78 ≤ s) → jfl V 5 (fun _ => 0) 13 s = V s := fun s hc => jfl_off _ _ _ (by omega)
    generalize jfl V 5 (fun _ => 0) 13 = W1 at hs1 q1 q2
    iterate 3 refine mj_T.pl rfl rfl rfl rfl ?_
    refine mj_T.call (ins := .invokestatic 104) rfl rfl (Nat.le_of_ble_eq_true rfl) (Nat.le_of_ble_eq_true rfl) rfl rfl (mj_Ok.up (by decide) (jq_slot (D := 0) (p := 5) (i := 0))) (fun v' h' hq' => ?_) (fun i h' hq' => by cases hq')
    cases hq'
    refine mj_T.pl rfl rfl rfl rfl ?_
    refine rT_get hs1 rfl rfl ?_
    iterate 2 refine mj_T.pl rfl rfl rfl rfl ?_
    refine mj_T.iadd (a := 79) (b := (k : Int)) rfl ?_
    rw [show (79 : Int) + (k : Int) = ((79 + k : Nat) : Int) by omega]
    refine rT_ldN hs1 rfl ⟨by omega, by omega⟩ ?_
    rw [Int.toNat_natCast]
    refine mj_T.lneg rfl ?_
    have hp := (g.2.2.1 k (by omega)).1
    refine mj_T.call (ins := .invokevirtual 45) rfl rfl (Nat.le_of_ble_eq_true rfl) (Nat.le_of_ble_eq_true rfl) (by simp [mj_recv, rS_f hs1]) rfl (mj_Ok.up (by decide) (jS_sets (D := 0) (rG S N B T X) (s := 5 * 13 + 0) (v := -N (79 + k)) (by decide) ⟨by omega, by omega⟩ hs1)) (fun v' g2 hq' => ?_) (fun i h' hq' => by obtain ⟨_, _, h⟩ := hq'; cases h)
    obtain ⟨_, hs2, hq'⟩ := hq'
    cases hq'
    have a1 : jvu W1 (5 * 13 + 0) (-N (79 + k)) (5 * 13 + 0) = -N (79 + k) := jvu_at _ _ _
    have a2 : ∀ s, s ≠ 5 * 13 + 0 → jvu W1 (5 * 13 + 0) (-N (79 + k)) s = W1 s := fun s hne => jvu_ne _ _ _ hne
    generalize jvu W1 (5 * 13 + 0) (-N (79 + k)) = W2 at hs2 a1 a2
    iterate 3 refine mj_T.pl rfl rfl rfl rfl ?_
    refine mj_T.call (ins := .invokestatic 104) rfl rfl (Nat.le_of_ble_eq_true rfl) (Nat.le_of_ble_eq_true rfl) rfl rfl (mj_Ok.up (by decide) (jq_slot (D := 0) (p := 5) (i := 1))) (fun v' h' hq' => ?_) (fun i h' hq' => by cases hq')
    cases hq'
    refine mj_T.pl rfl rfl rfl rfl ?_
    refine mj_T.call (ins := .invokevirtual 45) rfl rfl (Nat.le_of_ble_eq_true rfl) (Nat.le_of_ble_eq_true rfl) (by simp [mj_recv, rS_f hs2]) rfl (mj_Ok.up (by decide) (jS_sets (D := 0) (rG S N B T X) (s := 5 * 13 + 1) (v := 1) (by decide) ⟨by decide, by decide⟩ hs2)) (fun v' g3 hq' => ?_) (fun i h' hq' => by obtain ⟨_, _, h⟩ := hq'; cases h)
    obtain ⟨_, hs3, hq'⟩ := hq'
    cases hq'
    have b1 : jvu W2 (5 * 13 + 1) (1) (5 * 13 + 1) = 1 := jvu_at _ _ _
    have b2 : ∀ s, s ≠ 5 * 13 + 1 → jvu W2 (5 * 13 + 1) (1) s = W2 s := fun s hne => jvu_ne _ _ _ hne
    generalize jvu W2 (5 * 13 + 1) (1) = W3 at hs3 b1 b2
    have c5 : ∀ e, e < 13 → (W3 (5 * 13 + e)).natAbs ≤ 9 := fun e he => by
      by_cases e1 : e = 1
      · subst e1
        rw [b1]
        decide
      · rw [b2 _ (by omega)]
        by_cases e0 : e = 0
        · subst e0
          rw [a1]
          omega
        · rw [a2 _ (by omega), q1 e he]
          exact Nat.zero_le _
    have d5 : jdg W3 5 13 ≤ 2 := jdg_of_zero fun e x1 x2 => by rw [b2 _ (by omega), a2 _ (by omega), q1 e x2]
    have c3 : ∀ e, e < 13 → W3 (2 * 13 + e) = V (2 * 13 + e) := fun e he => by rw [b2 _ (by omega), a2 _ (by omega), q2 _ (by omega)]
    have d2 : jdg W3 2 13 = jdg V 2 13 := jdg_congr 13 c3
    have hsz : 169 * ((169 * 9) ^ k * 9) = (169 * 9) ^ (k + 1) := by rw [Nat.pow_succ, ← Nat.mul_assoc, Nat.mul_comm 169, Nat.mul_assoc]
    have hmx : (169 * 9) ^ (k + 1) ≤ (169 * 9) ^ 6 := Nat.pow_le_pow_right (by decide) (by omega)
    have h2x := rp_ip2
    iterate 4 refine mj_T.pl rfl rfl rfl rfl ?_
    refine mj_T.call (ins := .invokevirtual 121) rfl rfl (Nat.le_of_ble_eq_true rfl) (Nat.le_of_ble_eq_true rfl) (by simp [mj_recv, rS_f hs3]) rfl (mj_Ok.up (by decide) (jx_multipliesPoly (D := 0) (V := W3) (rG S N B T X) (to := 7) (a := 2) (b := 5) (by decide) (by decide) (by decide) (by decide) (by decide) (al := (169 * 9) ^ k) (be := 9) (fun e he => by rw [c3 e he]; exact c1 e he) c5 (by omega) (by omega) hs3)) (fun v' g2 hq' => ?_) (fun i h' hq' => by obtain ⟨_, _, _, _, _, _, _, h⟩ := hq'; cases h)
    obtain ⟨W2, _, hs2, e1, e2, e3, hW, hq'⟩ := hq'
    cases hq'
    iterate 3 refine mj_T.pl rfl rfl rfl rfl ?_
    refine mj_T.call (ins := .invokevirtual 124) rfl rfl (Nat.le_of_ble_eq_true rfl) (Nat.le_of_ble_eq_true rfl) (by simp [mj_recv, rS_f hs2]) rfl (mj_Ok.up (by decide) (jp_copiesPoly (D := 0) (V := W2) (rG S N B T X) (p := 2) (q := 7) (by decide) (by decide) (by decide) hs2)) (fun v' g9 hq' => ?_) (fun i h' hq' => by obtain ⟨_, _, h⟩ := hq'; cases h)
    obtain ⟨_, hs9, hq'⟩ := hq'
    cases hq'
    have i1 : ∀ e, e < 13 → jfl W2 2 (fun e => W2 (7 * 13 + e)) 13 (2 * 13 + e) = W2 (7 * 13 + e) := fun e he => jfl_at _ _ _ he
    have i2 : ∀ s, (s < 26 ∨ 39 ≤ s) → jfl W2 2 (fun e => W2 (7 * 13 + e)) 13 s = W2 s := fun s hc => jfl_off _ _ _ (by omega)
    generalize jfl W2 2 (fun e => W2 (7 * 13 + e)) 13 = W9 at hs9 i1 i2
    refine mj_T.iinc (a := (k : Int)) rfl rfl ?_
    refine mj_T.pl rfl rfl rfl rfl ?_
    refine ih (k + 1) W9 g9 (by omega) hs9 (fun s x1 x2 x3 x4 => by rw [i2 s x1, e1 s (by omega) x4, b2 s (by omega), a2 s (by omega), q2 s x2, f s x1 x2 x3 x4]) (fun e he => ?_) ?_ (fun e he => ?_)
    · rw [i1 e he]
      have := e2 e he
      omega
    · have := jdg_congr (V := W2) (W := W9) (p := 7) (q := 2) 13 i1
      omega
    · have hm9 := (hW e he).trans (prs_mul W3 2 5 e)
      have eL : jpo W3 5 = pz_line (N (79 + k)) := funext fun i => by
        unfold pz_line
        by_cases q : i < 13
        · rw [jpo_at q]
          by_cases i1 : i = 1
          · subst i1
            rw [b1]
            rfl
          · rw [b2 _ (by omega)]
            by_cases i0 : i = 0
            · subst i0
              rw [a1, if_pos rfl]
            · rw [a2 _ (by omega), q1 i q, if_neg i0, if_neg i1]
        · rw [jpo_lt W3 5 i (by omega), if_neg (by omega), if_neg (by omega)]
      rw [eL, pz_mul_line] at hm9
      rw [i1 e he, hm9, jpo_at he, c3 e he, c9 e he, bsf_step (by simp only [jc, Bool.not_eq_true', Bool.not_eq_false', decide_eq_true_eq, decide_eq_false_iff_not] at hc2; omega)]
      by_cases q : e = 0
      · rw [if_pos q, if_pos q]
      · rw [if_neg q, if_neg q, jpo_at (by omega), c3 _ (by omega), c9 _ (by omega)]
theorem rx_laysProduct {S N B X V : Nat → Int} {i n : Nat} (g : gN N) (hi : i < n) (hn : N 78 = (n : Int)) (hs : rS S N B T X V h) : mj_Ok 39 250 [.ref 0, .int (jn (i : Int))] h (fun r => ∃ (W : Nat → Int) (h' : mj_H), rS S N B T X W h' ∧ (∀ s, (s < 26 ∨ 39 ≤ s) → (s < 65 ∨ 78 ≤ s) → (s < 91 ∨ 104 ≤ s) → s ≠ 652 → W s = V s) ∧ (∀ e, e < 13 → (W (2 * 13 + e)).natAbs ≤ (169 * 9) ^ 6) ∧ (∀ e, e < 13 → W (2 * 13 + e) = bsf (fun j => N (79 + j)) i n e) ∧ r = (.inl none, h')) := by
  refine mj_Ok.of (M := mj_m250) rfl rfl rfl ?_
  have hn6 := g.2.1.2
  iterate 2 refine mj_T.pl rfl rfl rfl rfl ?_
  refine mj_T.call (ins := .invokevirtual 110) rfl rfl (Nat.le_of_ble_eq_true rfl) (Nat.le_of_ble_eq_true rfl) (by simp [mj_recv, rS_f hs]) rfl (mj_Ok.up (by decide) (jp_empties (D := 0) (rG S N B T X) (p := 2) (by decide) hs)) (fun v' g1 hq' => ?_) (fun i h' hq' => by obtain ⟨_, _, h⟩ := hq'; cases h)
  obtain ⟨_, hs1, hq'⟩ := hq'
  cases hq'
  have q1 : ∀ e, e < 13 → jfl V 2 (fun _ => 0) 13 (2 * 13 + e) = 0 := fun e he => jfl_at _ _ _ he
  have q2 : ∀ s, (s < 26 ∨ 39 ≤ s) → jfl V 2 (fun _ => 0) 13 s = V s := fun s hc => jfl_off _ _ _ (by omega)
  generalize jfl V 2 (fun _ => 0) 13 = W1 at hs1 q1 q2
  iterate 3 refine mj_T.pl rfl rfl rfl rfl ?_
  refine mj_T.call (ins := .invokestatic 104) rfl rfl (Nat.le_of_ble_eq_true rfl) (Nat.le_of_ble_eq_true rfl) rfl rfl (mj_Ok.up (by decide) (jq_slot (D := 0) (p := 2) (i := 0))) (fun v' h' hq' => ?_) (fun i h' hq' => by cases hq')
  cases hq'
  refine mj_T.pl rfl rfl rfl rfl ?_
  refine mj_T.call (ins := .invokevirtual 45) rfl rfl (Nat.le_of_ble_eq_true rfl) (Nat.le_of_ble_eq_true rfl) (by simp [mj_recv, rS_f hs1]) rfl (mj_Ok.up (by decide) (jS_sets (D := 0) (rG S N B T X) (s := 2 * 13 + 0) (v := 1) (by decide) ⟨by decide, by decide⟩ hs1)) (fun v' g2 hq' => ?_) (fun i h' hq' => by obtain ⟨_, _, h⟩ := hq'; cases h)
  obtain ⟨_, hs2, hq'⟩ := hq'
  cases hq'
  have a1 : jvu W1 (2 * 13 + 0) (1) (2 * 13 + 0) = 1 := jvu_at _ _ _
  have a2 : ∀ s, s ≠ 2 * 13 + 0 → jvu W1 (2 * 13 + 0) (1) s = W1 s := fun s hne => jvu_ne _ _ _ hne
  generalize jvu W1 (2 * 13 + 0) (1) = W2 at hs2 a1 a2
  iterate 2 refine mj_T.pl rfl rfl rfl rfl ?_
  exact rx_lp_loop (V0 := V) g hi (by omega) hn (fun W h k1 k2 k3 k4 => ⟨W, h, k1, k2, k3, k4, rfl⟩) n 0 W2 g2 (by omega) hs2 (fun s x1 x2 x3 x4 => by rw [a2 s (by omega), q2 s x1]) (fun e he => by
    by_cases e0 : e = 0
    · subst e0
      rw [a1]
      exact Nat.le_refl _
    · rw [a2 _ (by omega), q1 e he]
      exact Nat.zero_le _) (jdg_of_zero fun e x1 x2 => by rw [a2 _ (by omega), q1 e x2]) (fun e he => by
    show _ = if e = 0 then (1 : Int) else 0
    by_cases e0 : e = 0
    · subst e0
      rw [a1]
      rfl
    · rw [a2 _ (by omega), q1 e he, if_neg e0])
theorem rx_i1_loop {S N B X V : Nat → Int} {x n : Nat} (g : gN N) (hn : N 78 = (n : Int)) (hs : rS S N B T X V h) {Q : mj_R → Prop} (hend : ∀ (A : Nat) (l5 : Option Value), 1 ≤ A → A ≤ 6402373705728000 → (∀ i, i < n → (wgt (fun j => N (79 + j)) n i).natAbs ∣ A) → mj_T 39 mj_m251 77 [some (.ref 0), some (.int (jn (x : Int))), some (.long (jl (A : Int))), none, some (.int (jn ((n : Int)))), l5, none] [] h Q) :
    ∀ (m k A : Nat) (l5 : Option Value), k + m = n → A ∣ 6402373705728000 → 1 ≤ A → (∀ i, i < k → (wgt (fun j => N (79 + j)) n i).natAbs ∣ A) → mj_T 39 mj_m251 24 [some (.ref 0), some (.int (jn (x : Int))), some (.long (jl (A : Int))), none, some (.int (jn ((k : Int)))), l5, none] [] h Q := by
  have hn6 := g.2.1.2
  intro m
  induction m with
  | zero =>
    intro k A l5 hk hA hA1 hd
    have hkn : k = n := by omega
    subst hkn
    refine mj_T.pl rfl rfl rfl rfl ?_
    refine mj_T.i2l rfl ⟨by omega, by omega⟩ ?_
    refine mj_T.pl rfl rfl rfl rfl ?_
    refine rT_get hs rfl rfl ?_
    refine mj_T.pl rfl rfl rfl rfl ?_
    refine rT_ldN (i := ((78 : Nat) : Int)) hs rfl ⟨by decide, by decide⟩ ?_
    rw [Int.toNat_natCast, hn]
    refine mj_T.lif (a := (k : Int)) (b := (k : Int)) rfl rfl ⟨by omega, by omega⟩ ⟨by omega, by omega⟩ (fun hc => ?_) (fun hc => ?_)
    · exact hend A l5 hA1 (Nat.le_of_dvd (by decide) hA) hd
    · simp only [jc, decide_eq_false_iff_not] at hc
      omega
  | succ m ih =>
    intro k A l5 hk hA hA1 hd
    have hAm := Nat.le_of_dvd (by decide) hA
    refine mj_T.pl rfl rfl rfl rfl ?_
    refine mj_T.i2l rfl ⟨by omega, by omega⟩ ?_
    refine mj_T.pl rfl rfl rfl rfl ?_
    refine rT_get hs rfl rfl ?_
    refine mj_T.pl rfl rfl rfl rfl ?_
    refine rT_ldN (i := ((78 : Nat) : Int)) hs rfl ⟨by decide, by decide⟩ ?_
    rw [Int.toNat_natCast, hn]
    refine mj_T.lif (a := (k : Int)) (b := (n : Int)) rfl rfl ⟨by omega, by omega⟩ ⟨by omega, by omega⟩ (fun hc => ?_) (fun hc => ?_)
    · simp only [jc, decide_eq_true_eq] at hc
      omega
    iterate 2 refine mj_T.pl rfl rfl rfl rfl ?_
    refine mj_T.call (ins := .invokevirtual 282) rfl rfl (Nat.le_of_ble_eq_true rfl) (Nat.le_of_ble_eq_true rfl) (by simp [mj_recv, rS_f hs]) rfl (mj_Ok.up (by decide) (rx_differences (D := 0) (i := k) g (by omega) hn hs)) (fun v' h' hq' => ?_) (fun i h' hq' => by cases hq')
    obtain ⟨d1, d2, d3⟩ := r18_bd (rdf_18 g hn (i := k) (by omega))
    cases hq'
    have hdk : rdf (N (79 + k)) (fun j => N (79 + j)) k n = wgt (fun j => N (79 + j)) n k := rfl
    rw [hdk] at d1 d2 d3
    generalize hd9 : wgt (fun j => N (79 + j)) n k = d at d1 d2 d3 ⊢
    iterate 4 refine mj_T.pl rfl rfl rfl rfl ?_
    refine mj_T.call (ins := .invokestatic 285) rfl rfl (Nat.le_of_ble_eq_true rfl) (Nat.le_of_ble_eq_true rfl) rfl rfl (mj_Ok.up (by decide) (rp_common (D := 0) (a := (A : Int)) (b := d) (by omega) (by omega))) (fun v' h' hq' => ?_) (fun i h' hq' => by cases hq')
    cases hq'
    rw [Int.natAbs_natCast]
    have hg0 : 0 < Nat.gcd A d.natAbs := Nat.gcd_pos_of_pos_left _ (by omega)
    have hg1 : Nat.gcd A d.natAbs ≤ A := Nat.gcd_le_left _ (by omega)
    obtain ⟨s1, s2, s3⟩ := lcm_step hA d2 (by decide) hA1
    refine mj_T.ldiv (a := (A : Int)) (b := ((Nat.gcd A d.natAbs : Nat) : Int)) rfl ⟨by omega, by omega⟩ ⟨by omega, by omega⟩ (by omega) ?_
    rw [show (A : Int).tdiv ((Nat.gcd A d.natAbs : Nat) : Int) = ((A / Nat.gcd A d.natAbs : Nat) : Int) from rfl]
    have t69 : mj_T 39 mj_m251 69 [some (.ref 0), some (.int (jn (x : Int))), some (.long (jl (A : Int))), none, some (.int (jn ((k : Int)))), some (.long (jl d)), none] [.long (jl ((d.natAbs : Nat) : Int)), .long (jl ((A / Nat.gcd A d.natAbs : Nat) : Int))] h Q := by
      refine mj_T.lmul rfl ?_
      rw [← Int.natCast_mul]
      refine mj_T.pl rfl rfl rfl rfl ?_
      refine mj_T.iinc (a := (k : Int)) rfl rfl ?_
      refine mj_T.pl rfl rfl rfl rfl ?_
      exact ih (k + 1) _ _ (by omega) s1 s2 (fun i hi => by
        rw [show A / Nat.gcd A d.natAbs * d.natAbs = Nat.lcm A d.natAbs from Nat.div_mul_right_comm (Nat.gcd_dvd_left A d.natAbs) d.natAbs]
        by_cases q : i = k
        · subst q
          rw [hd9]
          exact Nat.dvd_lcm_right _ _
        · exact Nat.dvd_trans (hd i (by omega)) (Nat.dvd_lcm_left _ _))
    iterate 2 refine mj_T.pl rfl rfl rfl rfl ?_
    refine mj_T.lif (a := d) (b := 0) rfl rfl ⟨by omega, by omega⟩ ⟨by decide, by decide⟩ (fun hc2 => ?_) (fun hc2 => ?_)
    · simp only [jc, decide_eq_true_eq] at hc2
      have e : d = ((d.natAbs : Nat) : Int) := by omega
      refine mj_T.pl rfl rfl rfl rfl ?_
      refine mj_T.eq (st2 := [.long (jl ((d.natAbs : Nat) : Int)), .long (jl ((A / Nat.gcd A d.natAbs : Nat) : Int))]) t69 rfl rfl (by rw [← e]; rfl) rfl
    · simp only [jc, decide_eq_false_iff_not] at hc2
      have e : -d = ((d.natAbs : Nat) : Int) := by omega
      refine mj_T.pl rfl rfl rfl rfl ?_
      refine mj_T.lneg rfl ?_
      refine mj_T.pl rfl rfl rfl rfl ?_
      refine mj_T.eq (st2 := [.long (jl ((d.natAbs : Nat) : Int)), .long (jl ((A / Nat.gcd A d.natAbs : Nat) : Int))]) t69 rfl rfl (by rw [← e]; rfl) rfl
theorem rx_i2_loop {S N B X V0 : Nat → Int} {x A k b : Nat} (hb1 : b + rI1 * rI2 < jB ^ 698) (hQ : ∀ e, e < 13 → (V0 (2 * 13 + e)).natAbs ≤ rI1) (hC : (V0 661).natAbs ≤ rI2) (hA : ∀ e, e < 13 → (V0 (0 * 13 + e)).natAbs ≤ b) {Q : mj_R → Prop} (hend : ∀ (V : Nat → Int) (h : mj_H), rS S N B T X V h → (∀ e, e < 13 → (V (0 * 13 + e)).natAbs ≤ b + rI1 * rI2) → (∀ e, e < 13 → V (0 * 13 + e) = V0 (0 * 13 + e) + V0 (2 * 13 + e) * V0 661) → mj_T 39 mj_m251 208 [some (.ref 0), some (.int (jn (x : Int))), some (.long (jl (A : Int))), none, some (.int (jn ((k : Int)))), some (.int (jn 13)), none] [] h Q) :
    ∀ (m j : Nat) (V : Nat → Int) (h : mj_H), j + m = 13 → rS S N B T X V h → V 661 = V0 661 → (∀ e, j ≤ e → e < 13 → V (2 * 13 + e) = V0 (2 * 13 + e) ∧ V (0 * 13 + e) = V0 (0 * 13 + e)) → (∀ e, e < j → (V (0 * 13 + e)).natAbs ≤ b + rI1 * rI2) → (∀ e, e < j → V (0 * 13 + e) = V0 (0 * 13 + e) + V0 (2 * 13 + e) * V0 661) → mj_T 39 mj_m251 153 [some (.ref 0), some (.int (jn (x : Int))), some (.long (jl (A : Int))), none, some (.int (jn ((k : Int)))), some (.int (jn (j : Int))), none] [] h Q := by
  intro m
  induction m with
  | zero =>
    intro j V h hj hs c1 c2 c3 c4
    have hj : j = 13 := by omega
    subst hj
    iterate 2 refine mj_T.pl rfl rfl rfl rfl ?_
    refine mj_T.icmp (a := ((13 : Nat) : Int)) (b := 13) rfl ⟨by decide, by decide⟩ ⟨by decide, by decide⟩ (fun hc => ?_) (fun hc => ?_)
    · exact hend V h hs c3 c4
    · simp [jc] at hc
  | succ m ih =>
    intro j V h hj hs c1 c2 c3 c4
    iterate 2 refine mj_T.pl rfl rfl rfl rfl ?_
    refine mj_T.icmp (a := (j : Int)) (b := 13) rfl ⟨by omega, by omega⟩ ⟨by decide, by decide⟩ (fun hc => ?_) (fun hc => ?_)
    · simp only [jc, decide_eq_true_eq] at hc
      omega
    obtain ⟨y1, y2⟩ := c2 j (Nat.le_refl _) (by omega)
    have hm1 : (V (2 * 13 + j) * V 661).natAbs ≤ rI1 * rI2 := by
      rw [y1, c1, Int.natAbs_mul]
      exact Nat.mul_le_mul (hQ j (by omega)) hC
    iterate 3 refine mj_T.pl rfl rfl rfl rfl ?_
    refine mj_T.call (ins := .invokestatic 104) rfl rfl (Nat.le_of_ble_eq_true rfl) (Nat.le_of_ble_eq_true rfl) rfl rfl (mj_Ok.up (by decide) (jq_slot (D := 0) (p := 2) (i := j))) (fun v' h' hq' => ?_) (fun i h' hq' => by cases hq')
    cases hq'
    iterate 2 refine mj_T.pl rfl rfl rfl rfl ?_
    refine mj_T.call (ins := .invokestatic 104) rfl rfl (Nat.le_of_ble_eq_true rfl) (Nat.le_of_ble_eq_true rfl) rfl rfl (mj_Ok.up (by decide) (jq_slot (D := 0) (p := 2) (i := j))) (fun v' h' hq' => ?_) (fun i h' hq' => by cases hq')
    cases hq'
    refine mj_T.pl rfl rfl rfl rfl ?_
    refine mj_T.call (ins := .invokevirtual 117) rfl rfl (Nat.le_of_ble_eq_true rfl) (Nat.le_of_ble_eq_true rfl) (by simp [mj_recv, rS_f hs]) rfl (mj_Ok.up (by decide) (jS_mul (D := 0) (V := V) (rG S N B T X) (to := 2 * 13 + j) (a := 2 * 13 + j) (b := 661) (by omega) (by omega) (by decide) (jnl_of_lt hm1 rp_ip5) hs)) (fun v' g1 hq' => ?_) (fun i h' hq' => by obtain ⟨_, _, h⟩ := hq'; cases h)
    obtain ⟨_, hs1, hq'⟩ := hq'
    cases hq'
    have a1 : jvu V (2 * 13 + j) (V (2 * 13 + j) * V 661) (2 * 13 + j) = V (2 * 13 + j) * V 661 := jvu_at _ _ _
    have a2 : ∀ s, s ≠ 2 * 13 + j → jvu V (2 * 13 + j) (V (2 * 13 + j) * V 661) s = V s := fun s hne => jvu_ne _ _ _ hne
    generalize jvu V (2 * 13 + j) (V (2 * 13 + j) * V 661) = W1 at hs1 a1 a2
    iterate 3 refine mj_T.pl rfl rfl rfl rfl ?_
    refine mj_T.call (ins := .invokestatic 104) rfl rfl (Nat.le_of_ble_eq_true rfl) (Nat.le_of_ble_eq_true rfl) rfl rfl (mj_Ok.up (by decide) (jq_slot (D := 0) (p := 0) (i := j))) (fun v' h' hq' => ?_) (fun i h' hq' => by cases hq')
    cases hq'
    iterate 2 refine mj_T.pl rfl rfl rfl rfl ?_
    refine mj_T.call (ins := .invokestatic 104) rfl rfl (Nat.le_of_ble_eq_true rfl) (Nat.le_of_ble_eq_true rfl) rfl rfl (mj_Ok.up (by decide) (jq_slot (D := 0) (p := 0) (i := j))) (fun v' h' hq' => ?_) (fun i h' hq' => by cases hq')
    cases hq'
    iterate 2 refine mj_T.pl rfl rfl rfl rfl ?_
    refine mj_T.call (ins := .invokestatic 104) rfl rfl (Nat.le_of_ble_eq_true rfl) (Nat.le_of_ble_eq_true rfl) rfl rfl (mj_Ok.up (by decide) (jq_slot (D := 0) (p := 2) (i := j))) (fun v' h' hq' => ?_) (fun i h' hq' => by cases hq')
    cases hq'
    refine mj_T.pl rfl rfl rfl rfl ?_
    have hm2 : (W1 (0 * 13 + j) + 1 * W1 (2 * 13 + j)).natAbs ≤ b + rI1 * rI2 := by
      rw [a1, a2 _ (by omega), y2, Int.one_mul]
      have k1 := hA j (by omega)
      have k2 := Int.natAbs_add_le (V0 (0 * 13 + j)) (V (2 * 13 + j) * V 661)
      omega
    refine mj_T.call (ins := .invokevirtual 107) rfl rfl (Nat.le_of_ble_eq_true rfl) (Nat.le_of_ble_eq_true rfl) (by simp [mj_recv, rS_f hs1]) rfl (mj_Ok.up (by decide) (jS_adds (D := 0) (V := W1) (rG S N B T X) (to := 0 * 13 + j) (a := 0 * 13 + j) (b := 2 * 13 + j) (f := 1) (by omega) (by omega) (by omega) (Or.inl rfl) (jnl_of_lt hm2 hb1) hs1)) (fun v' g2 hq' => ?_) (fun i h' hq' => by obtain ⟨_, _, h⟩ := hq'; cases h)
    obtain ⟨_, hs2, hq'⟩ := hq'
    cases hq'
    have b1 : jvu W1 (0 * 13 + j) (W1 (0 * 13 + j) + 1 * W1 (2 * 13 + j)) (0 * 13 + j) = W1 (0 * 13 + j) + 1 * W1 (2 * 13 + j) := jvu_at _ _ _
    have b2 : ∀ s, s ≠ 0 * 13 + j → jvu W1 (0 * 13 + j) (W1 (0 * 13 + j) + 1 * W1 (2 * 13 + j)) s = W1 s := fun s hne => jvu_ne _ _ _ hne
    generalize jvu W1 (0 * 13 + j) (W1 (0 * 13 + j) + 1 * W1 (2 * 13 + j)) = W2 at hs2 b1 b2
    refine mj_T.iinc (a := (j : Int)) rfl rfl ?_
    refine mj_T.pl rfl rfl rfl rfl ?_
    refine ih (j + 1) W2 g2 (by omega) hs2 (by rw [b2 _ (by omega), a2 _ (by omega), c1]) (fun e e1 e2 => ?_) (fun e he => ?_) (fun e he => ?_)
    · obtain ⟨z1, z2⟩ := c2 e (by omega) e2
      exact ⟨by rw [b2 _ (by omega), a2 _ (by omega), z1], by rw [b2 _ (by omega), a2 _ (by omega), z2]⟩
    · by_cases q : e = j
      · subst q
        rw [b1]
        exact hm2
      · rw [b2 _ (by omega), a2 _ (by omega)]
        exact c3 e (by omega)
    · by_cases q : e = j
      · subst q
        rw [b1, a1, a2 _ (by omega), y2, y1, c1, Int.one_mul]
      · rw [b2 _ (by omega), a2 _ (by omega)]
        exact c4 e (by omega)
theorem rx_i3_loop {S N B X : Nat → Int} {x n A : Nat} (g : gN N) (hn : N 78 = (n : Int)) {Q : mj_R → Prop} (hend : ∀ (V : Nat → Int) (h : mj_H) (l5 : Option Value), rS S N B T X V h → (∀ e, e < 13 → V (0 * 13 + e) = itp (fun j => N (79 + j)) (fun j => N (85 + j)) (A : Int) n n e) → mj_T 39 mj_m251 214 [some (.ref 0), some (.int (jn (x : Int))), some (.long (jl (A : Int))), none, some (.int (jn ((n : Int)))), l5, none] [] h Q) (hAA : A ≤ 6402373705728000) (hA1 : 1 ≤ A) :
    ∀ (m k : Nat) (V : Nat → Int) (h : mj_H) (l5 : Option Value), k + m = n → rS S N B T X V h → (∀ e, e < 13 → (V (0 * 13 + e)).natAbs ≤ k * (rI1 * rI2)) → (∀ e, e < 13 → V (0 * 13 + e) = itp (fun j => N (79 + j)) (fun j => N (85 + j)) (A : Int) n k e) → mj_T 39 mj_m251 85 [some (.ref 0), some (.int (jn (x : Int))), some (.long (jl (A : Int))), none, some (.int (jn ((k : Int)))), l5, none] [] h Q := by
  have hn6 := g.2.1.2
  intro m
  induction m with
  | zero =>
    intro k V h l5 hk hs c1 c8
    have hkn : k = n := by omega
    subst hkn
    refine mj_T.pl rfl rfl rfl rfl ?_
    refine mj_T.i2l rfl ⟨by omega, by omega⟩ ?_
    refine mj_T.pl rfl rfl rfl rfl ?_
    refine rT_get hs rfl rfl ?_
    refine mj_T.pl rfl rfl rfl rfl ?_
    refine rT_ldN (i := ((78 : Nat) : Int)) hs rfl ⟨by decide, by decide⟩ ?_
    rw [Int.toNat_natCast, hn]
    refine mj_T.lif (a := (k : Int)) (b := (k : Int)) rfl rfl ⟨by omega, by omega⟩ ⟨by omega, by omega⟩ (fun hc => ?_) (fun hc => ?_)
    · exact hend V h l5 hs c8
    · simp only [jc, decide_eq_false_iff_not] at hc
      omega
  | succ m ih =>
    intro k V h l5 hk hs c1 c8
    refine mj_T.pl rfl rfl rfl rfl ?_
    refine mj_T.i2l rfl ⟨by omega, by omega⟩ ?_
    refine mj_T.pl rfl rfl rfl rfl ?_
    refine rT_get hs rfl rfl ?_
    refine mj_T.pl rfl rfl rfl rfl ?_
    refine rT_ldN (i := ((78 : Nat) : Int)) hs rfl ⟨by decide, by decide⟩ ?_
    rw [Int.toNat_natCast, hn]
    refine mj_T.lif (a := (k : Int)) (b := (n : Int)) rfl rfl ⟨by omega, by omega⟩ ⟨by omega, by omega⟩ (fun hc => ?_) (fun hc => ?_)
    · simp only [jc, decide_eq_true_eq] at hc
      omega
    iterate 2 refine mj_T.pl rfl rfl rfl rfl ?_
    refine mj_T.call (ins := .invokevirtual 289) rfl rfl (Nat.le_of_ble_eq_true rfl) (Nat.le_of_ble_eq_true rfl) (by simp [mj_recv, rS_f hs]) rfl (mj_Ok.up (by decide) (rx_laysProduct (i := k) g (by omega) hn hs)) (fun v' g1 hq' => ?_) (fun i h' hq' => by obtain ⟨_, _, _, _, _, _, h⟩ := hq'; cases h)
    obtain ⟨W1, _, hs1, f1, q1, qb, hq'⟩ := hq'
    cases hq'
    have gv := (g.2.2.1 k (by omega)).2
    iterate 3 refine mj_T.pl rfl rfl rfl rfl ?_
    refine rT_get hs1 rfl rfl ?_
    iterate 2 refine mj_T.pl rfl rfl rfl rfl ?_
    refine mj_T.iadd (a := 85) (b := (k : Int)) rfl ?_
    rw [show (85 : Int) + (k : Int) = ((85 + k : Nat) : Int) by omega]
    refine rT_ldN hs1 rfl ⟨by omega, by omega⟩ ?_
    rw [Int.toNat_natCast]
    refine mj_T.call (ins := .invokevirtual 45) rfl rfl (Nat.le_of_ble_eq_true rfl) (Nat.le_of_ble_eq_true rfl) (by simp [mj_recv, rS_f hs1]) rfl (mj_Ok.up (by decide) (jS_sets (D := 0) (rG S N B T X) (s := 661) (v := N (85 + k)) (by decide) ⟨by omega, by omega⟩ hs1)) (fun v' g2 hq' => ?_) (fun i h' hq' => by obtain ⟨_, _, h⟩ := hq'; cases h)
    obtain ⟨_, hs2, hq'⟩ := hq'
    cases hq'
    have a1 : jvu W1 (661) (N (85 + k)) (661) = N (85 + k) := jvu_at _ _ _
    have a2 : ∀ s, s ≠ 661 → jvu W1 (661) (N (85 + k)) s = W1 s := fun s hne => jvu_ne _ _ _ hne
    generalize jvu W1 (661) (N (85 + k)) = W2 at hs2 a1 a2
    iterate 5 refine mj_T.pl rfl rfl rfl rfl ?_
    refine mj_T.call (ins := .invokevirtual 282) rfl rfl (Nat.le_of_ble_eq_true rfl) (Nat.le_of_ble_eq_true rfl) (by simp [mj_recv, rS_f hs2]) rfl (mj_Ok.up (by decide) (rx_differences (D := 0) (i := k) g (by omega) hn hs2)) (fun v' h' hq' => ?_) (fun i h' hq' => by cases hq')
    obtain ⟨d1, d2, d3⟩ := r18_bd (rdf_18 g hn (i := k) (by omega))
    cases hq'
    have hdk : rdf (N (79 + k)) (fun j => N (79 + j)) k n = wgt (fun j => N (79 + j)) n k := rfl
    rw [hdk] at d1 d2 d3
    refine mT_ldiv rfl ⟨by omega, by omega⟩ (by omega) ⟨by omega, by omega⟩ d1 ?_
    have hw : jR ((A : Int).tdiv (wgt (fun j => N (79 + j)) n k)) := by
      have h1 : ((A : Int).tdiv (wgt (fun j => N (79 + j)) n k)).natAbs ≤ A := by
        rw [Int.natAbs_tdiv, Int.natAbs_natCast]
        exact Nat.div_le_self _ _
      exact ⟨by omega, by omega⟩
    generalize hwe : (A : Int).tdiv (wgt (fun j => N (79 + j)) n k) = w at hw ⊢
    refine mj_T.call (ins := .invokevirtual 45) rfl rfl (Nat.le_of_ble_eq_true rfl) (Nat.le_of_ble_eq_true rfl) (by simp [mj_recv, rS_f hs2]) rfl (mj_Ok.up (by decide) (jS_sets (D := 0) (rG S N B T X) (s := 662) (v := w) (by decide) hw hs2)) (fun v' g3 hq' => ?_) (fun i h' hq' => by obtain ⟨_, _, h⟩ := hq'; cases h)
    obtain ⟨_, hs3, hq'⟩ := hq'
    cases hq'
    have b1 : jvu W2 (662) (w) (662) = w := jvu_at _ _ _
    have b2 : ∀ s, s ≠ 662 → jvu W2 (662) (w) s = W2 s := fun s hne => jvu_ne _ _ _ hne
    generalize jvu W2 (662) (w) = W3 at hs3 b1 b2
    have hm : (W3 661 * W3 662).natAbs ≤ rI2 := by
      rw [b1, b2 _ (by decide), a1, Int.natAbs_mul]
      exact Nat.mul_le_mul (by omega) (by have := hw.1; have := hw.2; omega)
    iterate 4 refine mj_T.pl rfl rfl rfl rfl ?_
    refine mj_T.call (ins := .invokevirtual 117) rfl rfl (Nat.le_of_ble_eq_true rfl) (Nat.le_of_ble_eq_true rfl) (by simp [mj_recv, rS_f hs3]) rfl (mj_Ok.up (by decide) (jS_mul (D := 0) (V := W3) (rG S N B T X) (to := 661) (a := 661) (b := 662) (by decide) (by decide) (by decide) (jnl_of_lt hm rp_ip3) hs3)) (fun v' g4 hq' => ?_) (fun i h' hq' => by obtain ⟨_, _, h⟩ := hq'; cases h)
    obtain ⟨_, hs4, hq'⟩ := hq'
    cases hq'
    have e1 : jvu W3 661 (W3 661 * W3 662) 661 = W3 661 * W3 662 := jvu_at _ _ _
    have e2 : ∀ s, s ≠ 661 → jvu W3 661 (W3 661 * W3 662) s = W3 s := fun s hne => jvu_ne _ _ _ hne
    generalize jvu W3 661 (W3 661 * W3 662) = W4 at hs4 e1 e2
    iterate 2 refine mj_T.pl rfl rfl rfl rfl ?_
    have c0 : ∀ e, e < 13 → (W4 (0 * 13 + e)).natAbs ≤ k * (rI1 * rI2) := fun e he => by rw [e2 _ (by omega), b2 _ (by omega), a2 _ (by omega), f1 _ (by omega) (by omega) (by omega) (by omega)]; exact c1 e he
    have hsum : k * (rI1 * rI2) + rI1 * rI2 = (k + 1) * (rI1 * rI2) := (Nat.succ_mul _ _).symm
    refine rx_i2_loop (V0 := W4) (b := k * (rI1 * rI2)) (by rw [hsum]; exact rp_ip6 k (by omega)) (fun e he => by rw [e2 _ (by omega), b2 _ (by omega), a2 _ (by omega)]; exact q1 e he) (by rw [e1]; exact hm) c0 (fun W5 g5 hs5 c5 c6 => ?_) 13 0 W4 g4 (by omega) hs4 rfl (fun e _ _ => ⟨rfl, rfl⟩) (fun e he => absurd he (by omega)) (fun e he => absurd he (by omega))
    refine mj_T.iinc (a := (k : Int)) rfl rfl ?_
    refine mj_T.pl rfl rfl rfl rfl ?_
    exact ih (k + 1) W5 g5 _ (by omega) hs5 (fun e he => by rw [← hsum]; exact c5 e he) (fun e he => by
      show _ = itp (fun j => N (79 + j)) (fun j => N (85 + j)) (A : Int) n k e + (N (85 + k) * (A : Int).tdiv (wgt (fun j => N (79 + j)) n k)) * bsf (fun j => N (79 + j)) k n e
      rw [c6 e he, e1, b1, b2 661 (by decide), a1, e2 _ (by omega), e2 _ (by omega), b2 _ (by omega), b2 _ (by omega), a2 _ (by omega), a2 _ (by omega), f1 _ (by omega) (by omega) (by omega) (by omega), c8 e he, qb e he, hwe, Int.mul_comm (bsf _ _ _ _)])
theorem rx_i4_loop {S N B X : Nat → Int} {x A : Nat} {l5 : Option Value} {c : Int} {I : Nat → Int} (hc0 : c ≠ 0) {Q : mj_R → Prop} (hend : ∀ (V : Nat → Int) (h : mj_H), rS S N B T X V h → V 662 = c → (∀ e, e < 13 → V (0 * 13 + e) = (I e).tdiv c) → mj_T 39 mj_m251 274 [some (.ref 0), some (.int (jn (x : Int))), some (.long (jl (A : Int))), none, some (.int (jn (-1))), l5, none] [] h Q) :
    ∀ (m : Nat) (V : Nat → Int) (h : mj_H), m ≤ 13 → rS S N B T X V h → V 662 = c → (∀ e, e < m → V (0 * 13 + e) = I e) → (∀ e, m ≤ e → e < 13 → V (0 * 13 + e) = (I e).tdiv c) → mj_T 39 mj_m251 250 [some (.ref 0), some (.int (jn (x : Int))), some (.long (jl (A : Int))), none, some (.int (jn ((m : Int) - 1))), l5, none] [] h Q := by
  intro m
  induction m with
  | zero =>
    intro V h hm hs hc l1 l2
    refine mj_T.pl rfl rfl rfl rfl ?_
    refine mj_T.if0 (a := ((0 : Nat) : Int) - 1) rfl ⟨by decide, by decide⟩ (fun hc => ?_) (fun hc => ?_)
    · exact hend V h hs (by assumption) (fun e he => l2 e (Nat.zero_le _) he)
    · simp [jc] at hc
  | succ m ih =>
    intro V h hm hs hc l1 l2
    refine mj_T.pl rfl rfl rfl rfl ?_
    refine mj_T.if0 (a := ((m + 1 : Nat) : Int) - 1) rfl ⟨by omega, by omega⟩ (fun hc2 => ?_) (fun hc2 => ?_)
    · simp only [jc, decide_eq_true_eq] at hc2
      omega
    rw [show ((m + 1 : Nat) : Int) - 1 = (m : Int) by omega]
    iterate 3 refine mj_T.pl rfl rfl rfl rfl ?_
    refine mj_T.call (ins := .invokestatic 104) rfl rfl (Nat.le_of_ble_eq_true rfl) (Nat.le_of_ble_eq_true rfl) rfl rfl (mj_Ok.up (by decide) (jq_slot (D := 0) (p := 0) (i := m))) (fun v' h' hq' => ?_) (fun i h' hq' => by cases hq')
    cases hq'
    refine mj_T.pl rfl rfl rfl rfl ?_
    refine mj_T.call (ins := .invokevirtual 133) rfl rfl (Nat.le_of_ble_eq_true rfl) (Nat.le_of_ble_eq_true rfl) (by simp [mj_recv, rS_f hs]) rfl (mj_Ok.up (by decide) (jp_exact (D := 0) (V := V) (rG S N B T X) (i := 0 * 13 + m) (j := 662) (by omega) (by decide) (by omega) (by omega) (by omega) (by decide) (by rw [hc]; exact hc0) hs)) (fun v' g1 hq' => ?_) (fun i h' hq' => by obtain ⟨_, _, _, _, _, h⟩ := hq'; cases h)
    obtain ⟨W1, _, hs1, z1, z2, hq'⟩ := hq'
    cases hq'
    refine mj_T.iinc (a := (m : Int)) rfl rfl ?_
    refine mj_T.pl rfl rfl rfl rfl ?_
    exact ih W1 g1 (by omega) hs1 (by rw [z2 662 (by omega) (by decide) (by decide), hc]) (fun e he => by
      rw [z2 _ (by omega) (by omega) (by omega)]
      exact l1 e (by omega)) (fun e e1 e2 => by
      by_cases q : e = m
      · subst q
        rw [z1, l1 e (by omega), hc]
      · rw [z2 _ (by omega) (by omega) (by omega)]
        exact l2 e (by omega) e2)
end RXP
