/-! Calls of the reference: interpolation, whole. -/
theorem lcm_step {A d M : Nat} (hA : A ∣ M) (hd : d ∣ M) (hM : 0 < M) (h0 : 1 ≤ A) : A / Nat.gcd A d * d ∣ M ∧ 1 ≤ A / Nat.gcd A d * d ∧ A / Nat.gcd A d * d ≤ M := by
  have e : A / Nat.gcd A d * d = Nat.lcm A d := by
    unfold Nat.lcm
    exact Nat.div_mul_right_comm (Nat.gcd_dvd_left A d) d
  have h1 : A / Nat.gcd A d * d ∣ M := by
    rw [e]
    exact Nat.lcm_dvd hA hd
  exact ⟨h1, Nat.pos_of_dvd_of_pos h1 hM, Nat.le_of_dvd hM h1⟩
abbrev rI1 : Nat := (169 * 9) ^ 6
abbrev rI2 : Nat := 999 * 9223372036854775808
theorem rp_ip5 : rI1 * rI2 < jB ^ 698 := by decide +kernel
theorem rp_ip6 : ∀ i, i ≤ 6 → (i + 1) * (rI1 * rI2) < jB ^ 698 := by decide +kernel
section RPU
variable {h : mj_H} {tm er : Int} {T : Nat → Int}
theorem rp_i1_loop {S N B X V : Nat → Int} {x n : Nat} (g : gN N) (hn : N 78 = (n : Int)) (hs : rS S N B T X V h) {Q : mj_R → Prop} (hend : ∀ (A : Nat) (l5 : Option Value), 1 ≤ A → A ≤ 6402373705728000 → mj_T 39 mj_m251 77 [some (.ref 0), some (.int (jn (x : Int))), some (.long (jl (A : Int))), none, some (.int (jn ((n : Int)))), l5, none] [] h Q) :
    ∀ (m k A : Nat) (l5 : Option Value), k + m = n → A ∣ 6402373705728000 → 1 ≤ A → mj_T 39 mj_m251 24 [some (.ref 0), some (.int (jn (x : Int))), some (.long (jl (A : Int))), none, some (.int (jn ((k : Int)))), l5, none] [] h Q := by
  have hn6 := g.2.1.2
  intro m
  induction m with
  | zero =>
    intro k A l5 hk hA hA1
    have hkn : k = n := by omega
    subst hkn
    refine mj_T.pl rfl rfl rfl rfl ?_
    refine mj_T.i2l rfl ⟨by omega, by omega⟩ ?_
    refine mj_T.pl rfl rfl rfl rfl ?_
    refine rT_get hs rfl rfl ?_
    refine mj_T.pl rfl rfl rfl rfl ?_
    refine rT_ldN (i := ((78 : Nat) : Int)) hs rfl ⟨by decide, by decide⟩ ?_
    rw [Int.toNat_natCast, hn]
    refine mj_T.lif (a := (k : Int)) (b := (k : Int)) rfl rfl ⟨by omega, by omega⟩ ⟨by omega, by omega⟩ (fun hc => ?_) (fun hc => ?_)
    · exact hend A l5 hA1 (Nat.le_of_dvd (by decide) hA)
    · simp only [jc, decide_eq_false_iff_not] at hc
      omega
  | succ m ih =>
    intro k A l5 hk hA hA1
    have hAm := Nat.le_of_dvd (by decide) hA
    refine mj_T.pl rfl rfl rfl rfl ?_
    refine mj_T.i2l rfl ⟨by omega, by omega⟩ ?_
    refine mj_T.pl rfl rfl rfl rfl ?_
    refine rT_get hs rfl rfl ?_
    refine mj_T.pl rfl rfl rfl rfl ?_
    refine rT_ldN (i := ((78 : Nat) : Int)) hs rfl ⟨by decide, by decide⟩ ?_
    rw [Int.toNat_natCast, hn]
    refine mj_T.lif (a := (k : Int)) (b := (n : Int)) rfl rfl ⟨by omega, by omega⟩ ⟨by omega, by omega⟩ (fun hc => ?_) (fun hc => ?_)
    · simp only [jc, decide_eq_true_eq] at hc
      omega
    iterate 2 refine mj_T.pl rfl rfl rfl rfl ?_
    refine mj_T.call (ins := .invokevirtual 282) rfl rfl (Nat.le_of_ble_eq_true rfl) (Nat.le_of_ble_eq_true rfl) (by simp [mj_recv, rS_f hs]) rfl (mj_Ok.up (by decide) (rp_differences (D := 0) (i := k) g (by omega) hn hs)) (fun v' h' hq' => ?_) (fun i h' hq' => by obtain ⟨_, _, h⟩ := hq'; cases h)
    obtain ⟨d, ⟨d1, d2, d3⟩, hq'⟩ := hq'
    cases hq'
    iterate 4 refine mj_T.pl rfl rfl rfl rfl ?_
    refine mj_T.call (ins := .invokestatic 285) rfl rfl (Nat.le_of_ble_eq_true rfl) (Nat.le_of_ble_eq_true rfl) rfl rfl (mj_Ok.up (by decide) (rp_common (D := 0) (a := (A : Int)) (b := d) (by omega) (by omega))) (fun v' h' hq' => ?_) (fun i h' hq' => by cases hq')
    cases hq'
    rw [Int.natAbs_natCast]
    have hg0 : 0 < Nat.gcd A d.natAbs := Nat.gcd_pos_of_pos_left _ (by omega)
    have hg1 : Nat.gcd A d.natAbs ≤ A := Nat.gcd_le_left _ (by omega)
    obtain ⟨s1, s2, s3⟩ := lcm_step hA d2 (by decide) hA1
    refine mj_T.ldiv (a := (A : Int)) (b := ((Nat.gcd A d.natAbs : Nat) : Int)) rfl ⟨by omega, by omega⟩ ⟨by omega, by omega⟩ (by omega) ?_
    rw [show (A : Int).tdiv ((Nat.gcd A d.natAbs : Nat) : Int) = ((A / Nat.gcd A d.natAbs : Nat) : Int) from rfl]
    have t69 : mj_T 39 mj_m251 69 [some (.ref 0), some (.int (jn (x : Int))), some (.long (jl (A : Int))), none, some (.int (jn ((k : Int)))), some (.long (jl d)), none] [.long (jl ((d.natAbs : Nat) : Int)), .long (jl ((A / Nat.gcd A d.natAbs : Nat) : Int))] h Q := by
      refine mj_T.lmul rfl ?_
      rw [← Int.natCast_mul]
      refine mj_T.pl rfl rfl rfl rfl ?_
      refine mj_T.iinc (a := (k : Int)) rfl rfl ?_
      refine mj_T.pl rfl rfl rfl rfl ?_
      exact ih (k + 1) _ _ (by omega) s1 s2
    iterate 2 refine mj_T.pl rfl rfl rfl rfl ?_
    refine mj_T.lif (a := d) (b := 0) rfl rfl ⟨by omega, by omega⟩ ⟨by decide, by decide⟩ (fun hc2 => ?_) (fun hc2 => ?_)
    · simp only [jc, decide_eq_true_eq] at hc2
      have e : d = ((d.natAbs : Nat) : Int) := by omega
      refine mj_T.pl rfl rfl rfl rfl ?_
      refine mj_T.eq (st2 := [.long (jl ((d.natAbs : Nat) : Int)), .long (jl ((A / Nat.gcd A d.natAbs : Nat) : Int))]) t69 rfl rfl (by rw [← e]; rfl) rfl
    · simp only [jc, decide_eq_false_iff_not] at hc2
      have e : -d = ((d.natAbs : Nat) : Int) := by omega
      refine mj_T.pl rfl rfl rfl rfl ?_
      refine mj_T.lneg rfl ?_
      refine mj_T.pl rfl rfl rfl rfl ?_
      refine mj_T.eq (st2 := [.long (jl ((d.natAbs : Nat) : Int)), .long (jl ((A / Nat.gcd A d.natAbs : Nat) : Int))]) t69 rfl rfl (by rw [← e]; rfl) rfl
theorem rp_i2_loop {S N B X V0 : Nat → Int} {x A k b : Nat} (hb1 : b + rI1 * rI2 < jB ^ 698) (hQ : ∀ e, e < 13 → (V0 (2 * 13 + e)).natAbs ≤ rI1) (hC : (V0 661).natAbs ≤ rI2) (hA : ∀ e, e < 13 → (V0 (0 * 13 + e)).natAbs ≤ b) {Q : mj_R → Prop} (hend : ∀ (V : Nat → Int) (h : mj_H), rS S N B T X V h → (∀ e, e < 13 → (V (0 * 13 + e)).natAbs ≤ b + rI1 * rI2) → mj_T 39 mj_m251 208 [some (.ref 0), some (.int (jn (x : Int))), some (.long (jl (A : Int))), none, some (.int (jn ((k : Int)))), some (.int (jn 13)), none] [] h Q) :
    ∀ (m j : Nat) (V : Nat → Int) (h : mj_H), j + m = 13 → rS S N B T X V h → V 661 = V0 661 → (∀ e, j ≤ e → e < 13 → V (2 * 13 + e) = V0 (2 * 13 + e) ∧ V (0 * 13 + e) = V0 (0 * 13 + e)) → (∀ e, e < j → (V (0 * 13 + e)).natAbs ≤ b + rI1 * rI2) → mj_T 39 mj_m251 153 [some (.ref 0), some (.int (jn (x : Int))), some (.long (jl (A : Int))), none, some (.int (jn ((k : Int)))), some (.int (jn (j : Int))), none] [] h Q := by
  intro m
  induction m with
  | zero =>
    intro j V h hj hs c1 c2 c3
    have hj : j = 13 := by omega
    subst hj
    iterate 2 refine mj_T.pl rfl rfl rfl rfl ?_
    refine mj_T.icmp (a := ((13 : Nat) : Int)) (b := 13) rfl ⟨by decide, by decide⟩ ⟨by decide, by decide⟩ (fun hc => ?_) (fun hc => ?_)
    · exact hend V h hs c3
    · simp [jc] at hc
  | succ m ih =>
    intro j V h hj hs c1 c2 c3
    iterate 2 refine mj_T.pl rfl rfl rfl rfl ?_
    refine mj_T.icmp (a := (j : Int)) (b := 13) rfl ⟨by omega, by omega⟩ ⟨by decide, by decide⟩ (fun hc => ?_) (fun hc => ?_)
    · simp only [jc, decide_eq_true_eq] at hc
      omega
    obtain ⟨y1, y2⟩ := c2 j (Nat.le_refl _) (by omega)
    have hm1 : (V (2 * 13 + j) * V 661).natAbs ≤ rI1 * rI2 := by
      rw [y1, c1, Int.natAbs_mul]
      exact Nat.mul_le_mul (hQ j (by omega)) hC
    iterate 3 refine mj_T.pl rfl rfl rfl rfl ?_
    refine mj_T.call (ins := .invokestatic 104) rfl rfl (Nat.le_of_ble_eq_true rfl) (Nat.le_of_ble_eq_true rfl) rfl rfl (mj_Ok.up (by decide) (jq_slot (D := 0) (p := 2) (i := j))) (fun v' h' hq' => ?_) (fun i h' hq' => by cases hq')
    cases hq'
    iterate 2 refine mj_T.pl rfl rfl rfl rfl ?_
    refine mj_T.call (ins := .invokestatic 104) rfl rfl (Nat.le_of_ble_eq_true rfl) (Nat.le_of_ble_eq_true rfl) rfl rfl (mj_Ok.up (by decide) (jq_slot (D := 0) (p := 2) (i := j))) (fun v' h' hq' => ?_) (fun i h' hq' => by cases hq')
    cases hq'
    refine mj_T.pl rfl rfl rfl rfl ?_
    refine mj_T.call (ins := .invokevirtual 117) rfl rfl (Nat.le_of_ble_eq_true rfl) (Nat.le_of_ble_eq_true rfl) (by simp [mj_recv, rS_f hs]) rfl (mj_Ok.up (by decide) (jS_mul (D := 0) (V := V) (rG S N B T X) (to := 2 * 13 + j) (a := 2 * 13 + j) (b := 661) (by omega) (by omega) (by decide) (jnl_of_lt hm1 rp_ip5) hs)) (fun v' g1 hq' => ?_) (fun i h' hq' => by obtain ⟨_, _, h⟩ := hq'; cases h)
    obtain ⟨_, hs1, hq'⟩ := hq'
    cases hq'
    have a1 : jvu V (2 * 13 + j) (V (2 * 13 + j) * V 661) (2 * 13 + j) = V (2 * 13 + j) * V 661 := jvu_at _ _ _
    have a2 : ∀ s, s ≠ 2 * 13 + j → jvu V (2 * 13 + j) (V (2 * 13 + j) * V 661) s = V s := fun s hne => jvu_ne _ _ _ hne
    generalize jvu V (2 * 13 + j) (V (2 * 13 + j) * V 661) = W1 at hs1 a1 a2
    iterate 3 refine mj_T.pl rfl rfl rfl rfl ?_
    refine mj_T.call (ins := .invokestatic 104) rfl rfl (Nat.le_of_ble_eq_true rfl) (Nat.le_of_ble_eq_true rfl) rfl rfl (mj_Ok.up (by decide) (jq_slot (D := 0) (p := 0) (i := j))) (fun v' h' hq' => ?_) (fun i h' hq' => by cases hq')
    cases hq'
    iterate 2 refine mj_T.pl rfl rfl rfl rfl ?_
    refine mj_T.call (ins := .invokestatic 104) rfl rfl (Nat.le_of_ble_eq_true rfl) (Nat.le_of_ble_eq_true rfl) rfl rfl (mj_Ok.up (by decide) (jq_slot (D := 0) (p := 0) (i := j))) (fun v' h' hq' => ?_) (fun i h' hq' => by cases hq')
    cases hq'
    iterate 2 refine mj_T.pl rfl rfl rfl rfl ?_
    refine mj_T.call (ins := .invokestatic 104) rfl rfl (Nat.le_of_ble_eq_true rfl) (Nat.le_of_ble_eq_true rfl) rfl rfl (mj_Ok.up (by decide) (jq_slot (D := 0) (p := 2) (i := j))) (fun v' h' hq' => ?_) (fun i h' hq' => by cases hq')
    cases hq'
    refine mj_T.pl rfl rfl rfl rfl ?_
    have hm2 : (W1 (0 * 13 + j) + 1 * W1 (2 * 13 + j)).natAbs ≤ b + rI1 * rI2 := by
      rw [a1, a2 _ (by omega), y2, Int.one_mul]
      have k1 := hA j (by omega)
      have k2 := Int.natAbs_add_le (V0 (0 * 13 + j)) (V (2 * 13 + j) * V 661)
      omega
    refine mj_T.call (ins := .invokevirtual 107) rfl rfl (Nat.le_of_ble_eq_true rfl) (Nat.le_of_ble_eq_true rfl) (by simp [mj_recv, rS_f hs1]) rfl (mj_Ok.up (by decide) (jS_adds (D := 0) (V := W1) (rG S N B T X) (to := 0 * 13 + j) (a := 0 * 13 + j) (b := 2 * 13 + j) (f := 1) (by omega) (by omega) (by omega) (Or.inl rfl) (jnl_of_lt hm2 hb1) hs1)) (fun v' g2 hq' => ?_) (fun i h' hq' => by obtain ⟨_, _, h⟩ := hq'; cases h)
    obtain ⟨_, hs2, hq'⟩ := hq'
    cases hq'
    have b1 : jvu W1 (0 * 13 + j) (W1 (0 * 13 + j) + 1 * W1 (2 * 13 + j)) (0 * 13 + j) = W1 (0 * 13 + j) + 1 * W1 (2 * 13 + j) := jvu_at _ _ _
    have b2 : ∀ s, s ≠ 0 * 13 + j → jvu W1 (0 * 13 + j) (W1 (0 * 13 + j) + 1 * W1 (2 * 13 + j)) s = W1 s := fun s hne => jvu_ne _ _ _ hne
    generalize jvu W1 (0 * 13 + j) (W1 (0 * 13 + j) + 1 * W1 (2 * 13 + j)) = W2 at hs2 b1 b2
    refine mj_T.iinc (a := (j : Int)) rfl rfl ?_
    refine mj_T.pl rfl rfl rfl rfl ?_
    refine ih (j + 1) W2 g2 (by omega) hs2 (by rw [b2 _ (by omega), a2 _ (by omega), c1]) (fun e e1 e2 => ?_) (fun e he => ?_)
    · obtain ⟨z1, z2⟩ := c2 e (by omega) e2
      exact ⟨by rw [b2 _ (by omega), a2 _ (by omega), z1], by rw [b2 _ (by omega), a2 _ (by omega), z2]⟩
    · by_cases q : e = j
      · subst q
        rw [b1]
        exact hm2
      · rw [b2 _ (by omega), a2 _ (by omega)]
        exact c3 e (by omega)
theorem rp_i3_loop {S N B X : Nat → Int} {x n A : Nat} (g : gN N) (hn : N 78 = (n : Int)) {Q : mj_R → Prop} (hend : ∀ (V : Nat → Int) (h : mj_H) (l5 : Option Value), rS S N B T X V h → mj_T 39 mj_m251 214 [some (.ref 0), some (.int (jn (x : Int))), some (.long (jl (A : Int))), none, some (.int (jn ((n : Int)))), l5, none] [] h Q) (hAA : A ≤ 6402373705728000) :
    ∀ (m k : Nat) (V : Nat → Int) (h : mj_H) (l5 : Option Value), k + m = n → rS S N B T X V h → (∀ e, e < 13 → (V (0 * 13 + e)).natAbs ≤ k * (rI1 * rI2)) → mj_T 39 mj_m251 85 [some (.ref 0), some (.int (jn (x : Int))), some (.long (jl (A : Int))), none, some (.int (jn ((k : Int)))), l5, none] [] h Q := by
  have hn6 := g.2.1.2
  intro m
  induction m with
  | zero =>
    intro k V h l5 hk hs c1
    have hkn : k = n := by omega
    subst hkn
    refine mj_T.pl rfl rfl rfl rfl ?_
    refine mj_T.i2l rfl ⟨by omega, by omega⟩ ?_
    refine mj_T.pl rfl rfl rfl rfl ?_
    refine rT_get hs rfl rfl ?_
    refine mj_T.pl rfl rfl rfl rfl ?_
    refine rT_ldN (i := ((78 : Nat) : Int)) hs rfl ⟨by decide, by decide⟩ ?_
    rw [Int.toNat_natCast, hn]
    refine mj_T.lif (a := (k : Int)) (b := (k : Int)) rfl rfl ⟨by omega, by omega⟩ ⟨by omega, by omega⟩ (fun hc => ?_) (fun hc => ?_)
    · exact hend V h l5 hs
    · simp only [jc, decide_eq_false_iff_not] at hc
      omega
  | succ m ih =>
    intro k V h l5 hk hs c1
    refine mj_T.pl rfl rfl rfl rfl ?_
    refine mj_T.i2l rfl ⟨by omega, by omega⟩ ?_
    refine mj_T.pl rfl rfl rfl rfl ?_
    refine rT_get hs rfl rfl ?_
    refine mj_T.pl rfl rfl rfl rfl ?_
    refine rT_ldN (i := ((78 : Nat) : Int)) hs rfl ⟨by decide, by decide⟩ ?_
    rw [Int.toNat_natCast, hn]
    refine mj_T.lif (a := (k : Int)) (b := (n : Int)) rfl rfl ⟨by omega, by omega⟩ ⟨by omega, by omega⟩ (fun hc => ?_) (fun hc => ?_)
    · simp only [jc, decide_eq_true_eq] at hc
      omega
    iterate 2 refine mj_T.pl rfl rfl rfl rfl ?_
    refine mj_T.call (ins := .invokevirtual 289) rfl rfl (Nat.le_of_ble_eq_true rfl) (Nat.le_of_ble_eq_true rfl) (by simp [mj_recv, rS_f hs]) rfl (mj_Ok.up (by decide) (rp_laysProduct (i := k) g (by omega) hn hs)) (fun v' g1 hq' => ?_) (fun i h' hq' => by obtain ⟨_, _, _, _, _, h⟩ := hq'; cases h)
    obtain ⟨W1, _, hs1, f1, q1, hq'⟩ := hq'
    cases hq'
    have gv := (g.2.2.1 k (by omega)).2
    iterate 3 refine mj_T.pl rfl rfl rfl rfl ?_
    refine rT_get hs1 rfl rfl ?_
    iterate 2 refine mj_T.pl rfl rfl rfl rfl ?_
    refine mj_T.iadd (a := 85) (b := (k : Int)) rfl ?_
    rw [show (85 : Int) + (k : Int) = ((85 + k : Nat) : Int) by omega]
    refine rT_ldN hs1 rfl ⟨by omega, by omega⟩ ?_
    rw [Int.toNat_natCast]
    refine mj_T.call (ins := .invokevirtual 45) rfl rfl (Nat.le_of_ble_eq_true rfl) (Nat.le_of_ble_eq_true rfl) (by simp [mj_recv, rS_f hs1]) rfl (mj_Ok.up (by decide) (jS_sets (D := 0) (rG S N B T X) (s := 661) (v := N (85 + k)) (by decide) ⟨by omega, by omega⟩ hs1)) (fun v' g2 hq' => ?_) (fun i h' hq' => by obtain ⟨_, _, h⟩ := hq'; cases h)
    obtain ⟨_, hs2, hq'⟩ := hq'
    cases hq'
    have a1 : jvu W1 (661) (N (85 + k)) (661) = N (85 + k) := jvu_at _ _ _
    have a2 : ∀ s, s ≠ 661 → jvu W1 (661) (N (85 + k)) s = W1 s := fun s hne => jvu_ne _ _ _ hne
    generalize jvu W1 (661) (N (85 + k)) = W2 at hs2 a1 a2
    iterate 5 refine mj_T.pl rfl rfl rfl rfl ?_
    refine mj_T.call (ins := .invokevirtual 282) rfl rfl (Nat.le_of_ble_eq_true rfl) (Nat.le_of_ble_eq_true rfl) (by simp [mj_recv, rS_f hs2]) rfl (mj_Ok.up (by decide) (rp_differences (D := 0) (i := k) g (by omega) hn hs2)) (fun v' h' hq' => ?_) (fun i h' hq' => by obtain ⟨_, _, h⟩ := hq'; cases h)
    obtain ⟨d, ⟨d1, d2, d3⟩, hq'⟩ := hq'
    cases hq'
    refine mj_T.ldv rfl (fun e => d1 ((jl_eq ⟨by omega, by omega⟩ ⟨by decide, by decide⟩).mp (e.trans (show (0 : Int64) = jl 0 from rfl)))) (fun w => ?_)
    rw [← jl_of w]
    have hw := jR_of w
    generalize w.toInt = w at hw
    refine mj_T.call (ins := .invokevirtual 45) rfl rfl (Nat.le_of_ble_eq_true rfl) (Nat.le_of_ble_eq_true rfl) (by simp [mj_recv, rS_f hs2]) rfl (mj_Ok.up (by decide) (jS_sets (D := 0) (rG S N B T X) (s := 662) (v := w) (by decide) hw hs2)) (fun v' g3 hq' => ?_) (fun i h' hq' => by obtain ⟨_, _, h⟩ := hq'; cases h)
    obtain ⟨_, hs3, hq'⟩ := hq'
    cases hq'
    have b1 : jvu W2 (662) (w) (662) = w := jvu_at _ _ _
    have b2 : ∀ s, s ≠ 662 → jvu W2 (662) (w) s = W2 s := fun s hne => jvu_ne _ _ _ hne
    generalize jvu W2 (662) (w) = W3 at hs3 b1 b2
    have hm : (W3 661 * W3 662).natAbs ≤ rI2 := by
      rw [b1, b2 _ (by decide), a1, Int.natAbs_mul]
      exact Nat.mul_le_mul (by omega) (by have := hw.1; have := hw.2; omega)
    iterate 4 refine mj_T.pl rfl rfl rfl rfl ?_
    refine mj_T.call (ins := .invokevirtual 117) rfl rfl (Nat.le_of_ble_eq_true rfl) (Nat.le_of_ble_eq_true rfl) (by simp [mj_recv, rS_f hs3]) rfl (mj_Ok.up (by decide) (jS_mul (D := 0) (V := W3) (rG S N B T X) (to := 661) (a := 661) (b := 662) (by decide) (by decide) (by decide) (jnl_of_lt hm rp_ip3) hs3)) (fun v' g4 hq' => ?_) (fun i h' hq' => by obtain ⟨_, _, h⟩ := hq'; cases h)
    obtain ⟨_, hs4, hq'⟩ := hq'
    cases hq'
    have e1 : jvu W3 661 (W3 661 * W3 662) 661 = W3 661 * W3 662 := jvu_at _ _ _
    have e2 : ∀ s, s ≠ 661 → jvu W3 661 (W3 661 * W3 662) s = W3 s := fun s hne => jvu_ne _ _ _ hne
    generalize jvu W3 661 (W3 661 * W3 662) = W4 at hs4 e1 e2
    iterate 2 refine mj_T.pl rfl rfl rfl rfl ?_
    have c0 : ∀ e, e < 13 → (W4 (0 * 13 + e)).natAbs ≤ k * (rI1 * rI2) := fun e he => by rw [e2 _ (by omega), b2 _ (by omega), a2 _ (by omega), f1 _ (by omega) (by omega) (by omega) (by omega)]; exact c1 e he
    have hsum : k * (rI1 * rI2) + rI1 * rI2 = (k + 1) * (rI1 * rI2) := (Nat.succ_mul _ _).symm
    refine rp_i2_loop (V0 := W4) (b := k * (rI1 * rI2)) (by rw [hsum]; exact rp_ip6 k (by omega)) (fun e he => by rw [e2 _ (by omega), b2 _ (by omega), a2 _ (by omega)]; exact q1 e he) (by rw [e1]; exact hm) c0 (fun W5 g5 hs5 c5 => ?_) 13 0 W4 g4 (by omega) hs4 rfl (fun e _ _ => ⟨rfl, rfl⟩) (fun e he => absurd he (by omega))
    refine mj_T.iinc (a := (k : Int)) rfl rfl ?_
    refine mj_T.pl rfl rfl rfl rfl ?_
    exact ih (k + 1) W5 g5 _ (by omega) hs5 (fun e he => by rw [← hsum]; exact c5 e he)
theorem rp_i4_loop {S N B X : Nat → Int} {x A : Nat} {l5 : Option Value} {c : Int} (hc0 : c ≠ 0) {Q : mj_R → Prop} (hend : ∀ (V : Nat → Int) (h : mj_H), rS S N B T X V h → V 662 = c → mj_T 39 mj_m251 274 [some (.ref 0), some (.int (jn (x : Int))), some (.long (jl (A : Int))), none, some (.int (jn (-1))), l5, none] [] h Q) :
    ∀ (m : Nat) (V : Nat → Int) (h : mj_H), m ≤ 13 → rS S N B T X V h → V 662 = c → mj_T 39 mj_m251 250 [some (.ref 0), some (.int (jn (x : Int))), some (.long (jl (A : Int))), none, some (.int (jn ((m : Int) - 1))), l5, none] [] h Q := by
  intro m
  induction m with
  | zero =>
    intro V h hm hs hc
    refine mj_T.pl rfl rfl rfl rfl ?_
    refine mj_T.if0 (a := ((0 : Nat) : Int) - 1) rfl ⟨by decide, by decide⟩ (fun hc => ?_) (fun hc => ?_)
    · exact hend V h hs (by assumption)
    · simp [jc] at hc
  | succ m ih =>
    intro V h hm hs hc
    refine mj_T.pl rfl rfl rfl rfl ?_
    refine mj_T.if0 (a := ((m + 1 : Nat) : Int) - 1) rfl ⟨by omega, by omega⟩ (fun hc2 => ?_) (fun hc2 => ?_)
    · simp only [jc, decide_eq_true_eq] at hc2
      omega
    rw [show ((m + 1 : Nat) : Int) - 1 = (m : Int) by omega]
    iterate 3 refine mj_T.pl rfl rfl rfl rfl ?_
    refine mj_T.call (ins := .invokestatic 104) rfl rfl (Nat.le_of_ble_eq_true rfl) (Nat.le_of_ble_eq_true rfl) rfl rfl (mj_Ok.up (by decide) (jq_slot (D := 0) (p := 0) (i := m))) (fun v' h' hq' => ?_) (fun i h' hq' => by cases hq')
    cases hq'
    refine mj_T.pl rfl rfl rfl rfl ?_
    refine mj_T.call (ins := .invokevirtual 133) rfl rfl (Nat.le_of_ble_eq_true rfl) (Nat.le_of_ble_eq_true rfl) (by simp [mj_recv, rS_f hs]) rfl (mj_Ok.up (by decide) (jp_exact (D := 0) (V := V) (rG S N B T X) (i := 0 * 13 + m) (j := 662) (by omega) (by decide) (by omega) (by omega) (by omega) (by decide) (by rw [hc]; exact hc0) hs)) (fun v' g1 hq' => ?_) (fun i h' hq' => by obtain ⟨_, _, _, _, _, h⟩ := hq'; cases h)
    obtain ⟨W1, _, hs1, _, z2, hq'⟩ := hq'
    cases hq'
    refine mj_T.iinc (a := (m : Int)) rfl rfl ?_
    refine mj_T.pl rfl rfl rfl rfl ?_
    exact ih W1 g1 (by omega) hs1 (by rw [z2 662 (by omega) (by decide) (by decide), hc])
theorem rp_interpolate {x : Int} (hx : jr x) (hI : jI tm er T h) : mj_Ok 40 251 [.ref 0, .int (jn x)] h (rJ tm er T) := by
  refine mj_Ok.of (M := mj_m251) rfl rfl rfl ?_
  obtain ⟨S, N, B, X, V, hs, K⟩ := hI
  iterate 2 refine mj_T.pl rfl rfl rfl rfl ?_
  refine rT_put (v := 0) hs rfl rfl (by decide) rfl (fun g1 hs1 => ?_)
  have K1 := K.put (k := 3) (v := 0) ⟨by decide, by decide⟩ (by decide) (by decide) (by decide) (by decide) (by decide)
  generalize jvu S 3 0 = S1 at hs1 K1
  refine mj_T.pl rfl rfl rfl rfl ?_
  refine mj_T.call (ins := .invokestatic 181) rfl rfl (Nat.le_of_ble_eq_true rfl) (Nat.le_of_ble_eq_true rfl) rfl rfl (mj_Ok.up (by decide) (rp_isRegister (D := 0) hx)) (fun v' h' hq' => ?_) (fun i h' hq' => by rcases hq' with ⟨_, _, h⟩ | ⟨_, h⟩ <;> cases h)
  rcases hq' with ⟨x1, x2, hq'⟩ | ⟨_, hq'⟩
  case' inr =>
    cases hq'
    refine mj_T.if0 (a := 0) rfl ⟨by decide, by decide⟩ (fun hc => ?_) (fun hc => ?_)
    · simp [jc] at hc
    iterate 2 refine mj_T.pl rfl rfl rfl rfl ?_
    refine mj_T.call (ins := .invokevirtual 198) rfl rfl (Nat.le_of_ble_eq_true rfl) (Nat.le_of_ble_eq_true rfl) (by simp [mj_recv, rS_f hs1]) rfl (mj_Ok.up (by decide) (rp_fails (D := 0) (c := 1) hs1)) (fun v' g2 hq' => ?_) (fun i h' hq' => by obtain ⟨_, _, h⟩ := hq'; cases h)
    obtain ⟨_, hs2, hq'⟩ := hq'
    cases hq'
    refine mj_T.i2l rfl ⟨by decide, by decide⟩ ?_
    exact mj_T.ret rfl rfl rfl ⟨0, g2, rfl, ⟨_, N, B, X, V, hs2, K1.put ⟨by decide, by decide⟩ (by decide) (by decide) (by decide) (by decide) (by decide)⟩⟩
  cases hq'
  refine mj_T.if0 (a := 1) rfl ⟨by decide, by decide⟩ (fun hc => ?_) (fun hc => ?_)
  rotate_left
  · simp [jc] at hc
  obtain ⟨x, rfl⟩ := Int.eq_ofNat_of_zero_le x1
  obtain ⟨n, hn⟩ := Int.eq_ofNat_of_zero_le K1.1.2.1.1
  iterate 4 refine mj_T.pl rfl rfl rfl rfl ?_
  refine rp_i1_loop K1.1 hn hs1 (fun A l5 hA1 hA2 => ?_) n 0 1 none (by omega) ⟨_, (Nat.one_mul _).symm⟩ (Nat.le_refl _)
  iterate 2 refine mj_T.pl rfl rfl rfl rfl ?_
  refine mj_T.call (ins := .invokevirtual 110) rfl rfl (Nat.le_of_ble_eq_true rfl) (Nat.le_of_ble_eq_true rfl) (by simp [mj_recv, rS_f hs1]) rfl (mj_Ok.up (by decide) (jp_empties (D := 0) (rG S1 N B T X) (p := 0) (by decide) hs1)) (fun v' g3 hq' => ?_) (fun i h' hq' => by obtain ⟨_, _, h⟩ := hq'; cases h)
  obtain ⟨_, hs3, hq'⟩ := hq'
  cases hq'
  have q1 : ∀ e, e < 13 → jfl V 0 (fun _ => 0) 13 (0 * 13 + e) = 0 := fun e he => jfl_at _ _ _ he
  generalize jfl V 0 (fun _ => 0) 13 = W3 at hs3 q1
  iterate 2 refine mj_T.pl rfl rfl rfl rfl ?_
  refine rp_i3_loop K1.1 hn (fun V2 h2 m5 hs2 => ?_) hA2 n 0 _ _ _ (by omega) hs3 (fun e he => by rw [q1 e he]; exact Nat.zero_le _)
  iterate 3 refine mj_T.pl rfl rfl rfl rfl ?_
  refine mj_T.call (ins := .invokevirtual 130) rfl rfl (Nat.le_of_ble_eq_true rfl) (Nat.le_of_ble_eq_true rfl) (by simp [mj_recv, rS_f hs2]) rfl (mj_Ok.up (by decide) (jp_contents (D := 0) (rG S1 N B T X) (to := 656) (p := 0) (by decide) (by decide) (by decide) (by decide) (by decide) (by decide) (by decide) hs2)) (fun v' g4 hq' => ?_) (fun i h' hq' => by obtain ⟨_, _, _, _, _, h⟩ := hq'; cases h)
  obtain ⟨W4, _, hs4, _, _, hq'⟩ := hq'
  cases hq'
  iterate 3 refine mj_T.pl rfl rfl rfl rfl ?_
  refine mj_T.call (ins := .invokevirtual 45) rfl rfl (Nat.le_of_ble_eq_true rfl) (Nat.le_of_ble_eq_true rfl) (by simp [mj_recv, rS_f hs4]) rfl (mj_Ok.up (by decide) (jS_sets (D := 0) (rG S1 N B T X) (s := 661) (v := (A : Int)) (by decide) ⟨by omega, by omega⟩ hs4)) (fun v' g5 hq' => ?_) (fun i h' hq' => by obtain ⟨_, _, h⟩ := hq'; cases h)
  obtain ⟨_, hs5, hq'⟩ := hq'
  cases hq'
  have u1 : jvu W4 661 (A : Int) 661 = (A : Int) := jvu_at _ _ _
  generalize jvu W4 661 (A : Int) = W5 at hs5 u1
  iterate 4 refine mj_T.pl rfl rfl rfl rfl ?_
  refine mj_T.call (ins := .invokevirtual 127) rfl rfl (Nat.le_of_ble_eq_true rfl) (Nat.le_of_ble_eq_true rfl) (by simp [mj_recv, rS_f hs5]) rfl (mj_Ok.up (by decide) (jp_commons (D := 0) (V := W5) (rG S1 N B T X) (to := 662) (i := 661) (j := 656) (by decide) (by decide) (by decide) (by decide) (by decide) (by decide) (by decide) hs5)) (fun v' g6 hq' => ?_) (fun i h' hq' => by obtain ⟨_, _, _, _, _, h⟩ := hq'; cases h)
  obtain ⟨W6, _, hs6, y1, _, hq'⟩ := hq'
  cases hq'
  have y0 : W6 662 ≠ 0 := by
    rw [y1, u1, Int.natAbs_natCast]
    have := Nat.gcd_pos_of_pos_left (m := A) (W5 656).natAbs (by omega)
    omega
  have hdl := jdg_le W6 0 13
  iterate 2 refine mj_T.pl rfl rfl rfl rfl ?_
  refine mj_T.call (ins := .invokevirtual 114) rfl rfl (Nat.le_of_ble_eq_true rfl) (Nat.le_of_ble_eq_true rfl) (by simp [mj_recv, rS_f hs6]) rfl (mj_Ok.up (by decide) (jp_degreeOf (D := 0) (rG S1 N B T X) (p := 0) (by decide) hs6)) (fun v' h' hq' => ?_) (fun i h' hq' => by cases hq')
  cases hq'
  refine mj_T.pl rfl rfl rfl rfl ?_
  refine rp_i4_loop (c := W6 662) y0 (fun V3 h3 hs3 hc3 => ?_) (jdg W6 0 13) _ _ hdl hs6 rfl
  iterate 3 refine mj_T.pl rfl rfl rfl rfl ?_
  refine mj_T.call (ins := .invokevirtual 133) rfl rfl (Nat.le_of_ble_eq_true rfl) (Nat.le_of_ble_eq_true rfl) (by simp [mj_recv, rS_f hs3]) rfl (mj_Ok.up (by decide) (jp_exact (D := 0) (V := V3) (rG S1 N B T X) (i := 661) (j := 662) (by decide) (by decide) (by decide) (by decide) (by decide) (by decide) (by rw [hc3]; exact y0) hs3)) (fun v' g7 hq' => ?_) (fun i h' hq' => by obtain ⟨_, _, _, _, _, h⟩ := hq'; cases h)
  obtain ⟨W7, _, hs7, _, _, hq'⟩ := hq'
  cases hq'
  iterate 2 refine mj_T.pl rfl rfl rfl rfl ?_
  refine mj_T.call (ins := .invokevirtual 191) rfl rfl (Nat.le_of_ble_eq_true rfl) (Nat.le_of_ble_eq_true rfl) (by simp [mj_recv, rS_f hs7]) rfl (mj_Ok.up (by decide) (rp_asLong (D := 0) (s := 661) (by decide) hs7)) (fun v' h' hq' => ?_) (fun i h' hq' => by cases hq')
  cases hq'
  refine mj_T.pl rfl rfl rfl rfl ?_
  iterate 4 refine mj_T.pl rfl rfl rfl rfl ?_
  refine mj_T.call (ins := .invokevirtual 219) rfl rfl (Nat.le_of_ble_eq_true rfl) (Nat.le_of_ble_eq_true rfl) (by simp [mj_recv, rS_f hs7]) rfl (mj_Ok.up (by decide) (rp_puts (D := 0) (r := x) (p := 0) (c := 2) (by omega) (by decide) ⟨by decide, by decide⟩ K1 hs7)) (fun v' h' hq' => ?_) (fun i h' hq' => by obtain ⟨_, _, _, h, _⟩ := hq'; cases h)
  obtain ⟨z9, h9, hz9, e9, ⟨S9, N9, B9, X9, V9, r9, K9⟩⟩ := hq'
  cases e9
  iterate 2 refine mj_T.pl rfl rfl rfl rfl ?_
  refine rT_get r9 rfl rfl ?_
  refine mj_T.if0 (a := S9 3) rfl (K9.2.2.2.2.2.2.1 3) (fun hc => ?_) (fun hc => ?_)
  · refine mj_T.pl rfl rfl rfl rfl ?_
    exact mj_T.ret rfl rfl rfl ⟨0, _, rfl, ⟨_, _, _, _, _, r9, K9⟩⟩
  · iterate 2 refine mj_T.pl rfl rfl rfl rfl ?_
    exact mj_T.ret rfl rfl rfl ⟨_, _, rfl, ⟨_, _, _, _, _, r9, K9⟩⟩
end RPU
