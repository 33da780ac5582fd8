/-! The value of a polynomial at a fraction, exactly. -/
def hpv (f : Nat → Int) (x : Int) : Nat → Int → Int
  | 0, v => v
  | m + 1, v => hpv f x m (v * x + f m)
def hvz (f : Nat → Int) (x y : Int) : Nat → Int → Int → Int
  | 0, a, _ => a
  | m + 1, a, q => hvz f x y m (a * x + f m * (q * y)) (q * y)
/-- the value at x / y, times the bottom to the degree -/
def vlz (f : Nat → Int) (x y : Int) : Int := hpv (fun e => f e * y ^ ((fdg f 13 - 1) - e)) x (fdg f 13) 0
theorem hpv_cg {f f' : Nat → Int} {x : Int} : ∀ m v, (∀ j, j < m → f' j = f j) → hpv f' x m v = hpv f x m v
  | 0, _, _ => rfl
  | m + 1, v, h => by
    unfold hpv
    rw [h m (by omega)]
    exact hpv_cg m _ (fun j hj => h j (by omega))
theorem hvz_hpv {f : Nat → Int} {x y : Int} {d : Nat} : ∀ m, m ≤ d → ∀ v, hpv (fun e => f e * y ^ (d - e)) x m v = hvz f x y m v (y ^ (d - m))
  | 0, _, _ => rfl
  | m + 1, hm, v => by
    show hpv (fun e => f e * y ^ (d - e)) x m (v * x + f m * y ^ (d - m)) = hvz f x y m (v * x + f m * (y ^ (d - (m + 1)) * y)) (y ^ (d - (m + 1)) * y)
    rw [← Int.pow_succ, show (d - (m + 1)).succ = d - m by omega]
    exact hvz_hpv m (by omega) _
theorem vlz_hvz {f : Nat → Int} {x y : Int} {d : Nat} (h : fdg f 13 = d + 1) : vlz f x y = hvz f x y d (f d) 1 := by
  unfold vlz
  rw [h, Nat.add_sub_cancel]
  show hpv (fun e => f e * y ^ (d - e)) x d (0 * x + f d * y ^ (d - d)) = _
  rw [hvz_hpv d (Nat.le_refl d), Nat.sub_self, Int.pow_zero, Int.zero_mul, Int.zero_add, Int.mul_one]
theorem vlz_0 {f : Nat → Int} {x y : Int} (h : fdg f 13 = 0) : vlz f x y = 0 := by
  unfold vlz
  rw [h]
  rfl
theorem vlz_cg {f f' : Nat → Int} {x y : Int} (h : ∀ j, j < 13 → f' j = f j) : vlz f' x y = vlz f x y := by
  have hl := fdg_le f 13
  unfold vlz
  rw [fdg_congr 13 h]
  exact hpv_cg _ _ (fun j hj => by rw [h j (by omega)])
theorem hvz_bd {f : Nat → Int} {x y : Int} {C Z : Nat} (hf : ∀ e, e < 13 → (f e).natAbs ≤ C) (hx : x.natAbs ≤ Z) (hy : y.natAbs ≤ Z) : ∀ m n (a q : Int), m ≤ 13 → a.natAbs ≤ (n + 1) * (C * Z ^ n) → q.natAbs ≤ Z ^ n → (hvz f x y m a q).natAbs ≤ (n + m + 1) * (C * Z ^ (n + m))
  | 0, n, a, q, _, h1, _ => h1
  | m + 1, n, a, q, hm, h1, h2 => by
    have q2 : (q * y).natAbs ≤ Z ^ (n + 1) := by
      rw [Int.natAbs_mul, Nat.pow_succ]
      exact Nat.mul_le_mul h2 hy
    have s := (jva_step h1 hx (hf m (by omega)) _ q2).2.2
    have k := hvz_bd hf hx hy m (n + 1) _ _ (by omega) s q2
    rw [show n + (m + 1) = n + 1 + m by omega]
    exact k
theorem vlz_bd {f : Nat → Int} {x y : Int} {C Z : Nat} (hZ : 1 ≤ Z) (hf : ∀ e, e < 13 → (f e).natAbs ≤ C) (hx : x.natAbs ≤ Z) (hy : y.natAbs ≤ Z) : (vlz f x y).natAbs ≤ 13 * (C * Z ^ 12) := by
  have hl := fdg_le f 13
  rcases Nat.eq_zero_or_pos (fdg f 13) with h | h
  · rw [vlz_0 h]
    exact Nat.zero_le _
  · obtain ⟨d, hd⟩ : ∃ d, fdg f 13 = d + 1 := ⟨fdg f 13 - 1, by omega⟩
    rw [vlz_hvz hd]
    have k := hvz_bd hf hx hy d 0 (f d) 1 (by omega) (by rw [Nat.pow_zero, Nat.mul_one, Nat.zero_add, Nat.one_mul]; exact hf d (by omega)) (by rw [Nat.pow_zero]; decide)
    rw [Nat.zero_add] at k
    exact Nat.le_trans k (Nat.mul_le_mul (by omega) (Nat.mul_le_mul_left _ (Nat.pow_le_pow_right hZ (by omega))))
theorem str_p {s : Int} (hs : 1 ≤ s ∧ s ≤ 1000) {j : Nat} (hj : j ≤ 13) : (s ^ j).natAbs ≤ 1000 ^ 13 ∧ jnl (s ^ j).natAbs ≤ 5 := by
  have h1 : (s ^ j).natAbs ≤ 1000 ^ j := by
    rw [Int.natAbs_pow]
    exact Nat.pow_le_pow_left (by omega) j
  have h2 : 1000 ^ j ≤ 1000 ^ 13 := Nat.pow_le_pow_right (by decide) hj
  exact ⟨Nat.le_trans h1 h2, jnl_le_lt.mpr (Nat.lt_of_le_of_lt (Nat.le_trans h1 h2) (by decide +kernel))⟩
theorem str_c {a s : Int} (ha : a.natAbs ≤ 2000000000000000000) (hs : 1 ≤ s ∧ s ≤ 1000) {j : Nat} (hj : j ≤ 13) : (a * s ^ j).natAbs ≤ 2000000000000000000 * 1000 ^ 13 ∧ jnl (a * s ^ j).natAbs ≤ 7 := by
  have h1 : (a * s ^ j).natAbs ≤ 2000000000000000000 * 1000 ^ 13 := by
    rw [Int.natAbs_mul]
    exact Nat.mul_le_mul ha (str_p hs hj).1
  exact ⟨h1, jnl_le_lt.mpr (Nat.lt_of_le_of_lt h1 (by decide +kernel))⟩
def hrF : Nat := 2000000000000000000 * 1000 ^ 13
theorem hor_l {v : Int} {m n : Nat} (hm : m ≤ 13) (hn : n ≤ 13) (h : v.natAbs ≤ m * (hrF * 1000 ^ n)) : jnl v.natAbs ≤ 11 := by
  have h1 : m * (hrF * 1000 ^ n) ≤ 13 * (hrF * 1000 ^ 13) := Nat.mul_le_mul hm (Nat.mul_le_mul_left _ (Nat.pow_le_pow_right (by decide) hn))
  exact jnl_le_lt.mpr (Nat.lt_of_le_of_lt (Nat.le_trans h h1) (by decide +kernel))
section MVV
variable {g h : mj_H} {n D u p r : Nat} {V : Nat → Int} {X : Nat → Nat → Int} {N : Nat → Int} {H : Nat → Nat → Int}
theorem mP_loadR_loop {d : Int} (kp : cK p = 13) (kr : cK r = 2) (hm : cL (p + 3) = 13) (hd : jR d) (hX : ∀ i, i < 13 → (X r i).natAbs ≤ 2000000000000000000) (hcap : ∀ i, i < 13 → 3 ≤ cL (p + 4 + 2 * i + 1)) {Q : mj_R → Prop} (hend : ∀ h, jM g n (pfl V p (fun e => (X r e).tdiv d) 13) X h → mj_T (D + 1) mj_m40 52 [some (.ref p), some (.ref r), some (.long (jl d)), none, some (.int (jn ((13 : Nat) : Int)))] [] h Q) : ∀ k i, i + k = 13 → ∀ h, jM g n (pfl V p (fun e => (X r e).tdiv d) i) X h → mj_T (D + 1) mj_m40 3 [some (.ref p), some (.ref r), some (.long (jl d)), none, some (.int (jn (i : Int)))] [] h Q
  | 0, i, hi, h, m => by
    have hb := (mK_p kp).2.2.1
    iterate 2 refine mj_T.pl rfl rfl rfl rfl ?_
    refine mT_get m 13 kp (by decide) rfl rfl ?_
    refine mT_alen m 4 (mK_p kp).2.1 (by decide) rfl ?_
    refine mj_T.icmp (a := ((i : Nat) : Int)) (b := ((cL (p + 3) : Nat) : Int)) rfl ⟨by omega, by omega⟩ ⟨by omega, by omega⟩ (fun c1 => ?_) (fun c1 => ?_)
    · simp only [jc, Bool.not_eq_true', Bool.not_eq_false', decide_eq_true_eq, decide_eq_false_iff_not] at c1
      rw [show i = 13 by omega] at m ⊢
      exact hend _ m
    · exfalso
      simp only [jc, Bool.not_eq_true', Bool.not_eq_false', decide_eq_true_eq, decide_eq_false_iff_not] at c1
      omega
  | k + 1, i, hi, h, m => by
    have hb := (mK_p kp).2.2.1
    have hx := hX i (by omega)
    have hxr : jR (X r i) := ⟨by omega, by omega⟩
    have hxn : X r i ≠ -9223372036854775808 := by omega
    have hq := Int.natAbs_tdiv_le_natAbs (X r i) d
    have hj : jR ((X r i).tdiv d) := ⟨by omega, by omega⟩
    have hjn : jnl ((X r i).tdiv d).natAbs ≤ cL (p + 4 + 2 * i + 1) := Nat.le_trans (jnl_R (by omega)) (hcap i (by omega))
    iterate 2 refine mj_T.pl rfl rfl rfl rfl ?_
    refine mT_get m 13 kp (by decide) rfl rfl ?_
    refine mT_alen m 4 (mK_p kp).2.1 (by decide) rfl ?_
    refine mj_T.icmp (a := ((i : Nat) : Int)) (b := ((cL (p + 3) : Nat) : Int)) rfl ⟨by omega, by omega⟩ ⟨by omega, by omega⟩ (fun c1 => ?_) (fun c1 => ?_)
    · exfalso
      simp only [jc, Bool.not_eq_true', Bool.not_eq_false', decide_eq_true_eq, decide_eq_false_iff_not] at c1
      omega
    · simp only [jc, Bool.not_eq_true', Bool.not_eq_false', decide_eq_true_eq, decide_eq_false_iff_not] at c1
      refine mj_T.pl rfl rfl rfl rfl ?_
      refine mT_get m 13 kp (by decide) rfl rfl ?_
      refine mj_T.pl rfl rfl rfl rfl ?_
      refine mT_aald m 4 (mK_p kp).2.1 (by decide) rfl rfl (by omega) ⟨by omega, by omega⟩ ?_
      refine mj_T.eq (st2 := [.ref (p + 4 + 2 * i)]) ?_ rfl rfl rfl rfl
      iterate 2 refine mj_T.pl rfl rfl rfl rfl ?_
      refine mT_llen m kr rfl ?_
      refine mj_T.icmp (a := ((i : Nat) : Int)) (b := ((13 : Nat) : Int)) rfl ⟨by omega, by omega⟩ ⟨by omega, by omega⟩ (fun c2 => ?_) (fun c2 => ?_)
      · exfalso
        simp only [jc, Bool.not_eq_true', Bool.not_eq_false', decide_eq_true_eq, decide_eq_false_iff_not] at c2
        omega
      · simp only [jc, Bool.not_eq_true', Bool.not_eq_false', decide_eq_true_eq, decide_eq_false_iff_not] at c2
        refine mj_T.pl rfl rfl rfl rfl ?_
        refine jT.lc 0 rfl rfl ?_
        refine mj_T.lif (a := d) (b := ((0 : Nat) : Int)) rfl rfl hd jR_0 (fun c3 => ?_) (fun c3 => ?_)
        · simp only [jc, Bool.not_eq_true', Bool.not_eq_false', decide_eq_true_eq, decide_eq_false_iff_not] at c3
          refine jT.lc 0 rfl rfl ?_
          refine mj_T.call rfl rfl (Nat.le_of_ble_eq_true rfl) (Nat.le_of_ble_eq_true rfl) (mV_of m 18 ((mK_p kp).2.2.2 _ (by omega)) (by decide) rfl (by decide) rfl _) rfl (mj_Ok.up (by omega) (mW_setLong (D := 0) (v := ((0 : Nat) : Int)) m ((mK_p kp).2.2.2 _ (by omega)) jR_0 (by rw [jnl_0]; omega))) (fun v g4 hq => ?_) (fun i g4 hq => ?_)
          rotate_left
          · obtain ⟨_, _, hq⟩ := hq; cases hq
          obtain ⟨_, m5, hq⟩ := hq
          cases hq
          refine mj_T.eq (pc2 := 46) (st2 := []) ?_ rfl rfl rfl rfl
          refine mj_T.iinc rfl rfl ?_
          rw [show ((i : Nat) : Int) + 1 = ((i + 1 : Nat) : Int) by omega]
          refine mj_T.eq (loc2 := [some (.ref p), some (.ref r), some (.long (jl d)), none, some (.int (jn (((i + 1) : Nat) : Int)))]) ?_ rfl rfl rfl rfl
          refine mj_T.pl rfl rfl rfl rfl ?_
          refine mP_loadR_loop kp kr hm hd hX hcap hend k (i + 1) (by omega) _ (m5.to ?_ rfl)
          rw [pfl_succ]
          congr 1
          rw [show d = 0 by omega, Int.tdiv_zero]
          rfl
        · simp only [jc, Bool.not_eq_true', Bool.not_eq_false', decide_eq_true_eq, decide_eq_false_iff_not] at c3
          iterate 2 refine mj_T.pl rfl rfl rfl rfl ?_
          refine mT_lald m kr rfl ⟨by omega, by omega⟩ ?_
          refine mj_T.eq (st2 := [.long (jl (X r i)), .ref (p + 4 + 2 * i)]) ?_ rfl rfl rfl rfl
          refine mj_T.pl rfl rfl rfl rfl ?_
          refine mT_ldiv rfl hxr hxn hd (by omega) ?_
          refine mj_T.pl rfl rfl rfl rfl ?_
          refine mj_T.call rfl rfl (Nat.le_of_ble_eq_true rfl) (Nat.le_of_ble_eq_true rfl) (mV_of m 18 ((mK_p kp).2.2.2 _ (by omega)) (by decide) rfl (by decide) rfl _) rfl (mj_Ok.up (by omega) (mW_setLong (D := 0) (v := ((X r i).tdiv d)) m ((mK_p kp).2.2.2 _ (by omega)) hj hjn)) (fun v g6 hq => ?_) (fun i g6 hq => ?_)
          rotate_left
          · obtain ⟨_, _, hq⟩ := hq; cases hq
          obtain ⟨_, m7, hq⟩ := hq
          cases hq
          refine mj_T.eq (pc2 := 46) (st2 := []) ?_ rfl rfl rfl rfl
          refine mj_T.iinc rfl rfl ?_
          rw [show ((i : Nat) : Int) + 1 = ((i + 1 : Nat) : Int) by omega]
          refine mj_T.eq (loc2 := [some (.ref p), some (.ref r), some (.long (jl d)), none, some (.int (jn (((i + 1) : Nat) : Int)))]) ?_ rfl rfl rfl rfl
          refine mj_T.pl rfl rfl rfl rfl ?_
          refine mP_loadR_loop kp kr hm hd hX hcap hend k (i + 1) (by omega) _ (m7.to ?_ rfl)
          rw [pfl_succ]
theorem mP_loadR (m : jM g n V X h) {d : Int} (kp : cK p = 13) (kr : cK r = 2) (hm : cL (p + 3) = 13) (hd : jR d) (hX : ∀ i, i < 13 → (X r i).natAbs ≤ 2000000000000000000) (hcap : ∀ i, i < 13 → 3 ≤ cL (p + 4 + 2 * i + 1)) : mj_Ok (D + 2) 40 [.ref p, .ref r, .long (jl d)] h (fun z => ∃ h2, jM g n (pfl V p (fun e => (X r e).tdiv d) 13) (xup X p 2 ((fdg (fun e => (X r e).tdiv d) 13 : Int) - 1)) h2 ∧ z = (.inl none, h2)) := by
  refine mj_Ok.of (M := mj_m40) rfl rfl rfl ?_
  refine mj_T.pl rfl rfl rfl rfl ?_
  refine mj_T.pl (loc' := [some (.ref p), some (.ref r), some (.long (jl d)), none, some (.int (jn 0))]) rfl rfl rfl rfl ?_
  refine mP_loadR_loop kp kr hm hd hX hcap (fun h1 m1 => ?_) 13 0 (by omega) _ (m.to (pfl_zero _ _ _) rfl)
  refine mj_T.pl rfl rfl rfl rfl ?_
  refine mj_T.call rfl rfl (Nat.le_of_ble_eq_true rfl) (Nat.le_of_ble_eq_true rfl) (mV_of m1 13 kp (by decide) rfl (by decide) rfl _) rfl (mj_Ok.up (by omega) (mP_settle (D := 0) m1 kp (pcl_pfl (by omega) (fun i hi => Nat.le_trans (jnl_R (by have q1 := hX i hi; have q2 := Int.natAbs_tdiv_le_natAbs (X r i) d; omega)) (by decide))))) (fun v g61 hq => ?_) (fun i g61 hq => ?_)
  rotate_left
  · obtain ⟨_, _, hq⟩ := hq; cases hq
  obtain ⟨_, m62, hq⟩ := hq
  cases hq
  refine mj_T.eq (pc2 := 56) (st2 := []) ?_ rfl rfl rfl rfl
  exact mj_T.ret rfl rfl rfl ⟨_, m62.to rfl (by rw [hm, fdg_congr _ (fun i hi => pco_pfl i hi)]), rfl⟩
theorem mP_loadR1 (m : jM g n V X h) (kp : cK p = 13) (kr : cK r = 2) (hm : cL (p + 3) = 13) (hX : ∀ i, i < 13 → (X r i).natAbs ≤ 2000000000000000000) (hcap : ∀ i, i < 13 → 3 ≤ cL (p + 4 + 2 * i + 1)) : mj_Ok (D + 2) 40 [.ref p, .ref r, .long (jl ((1 : Nat) : Int))] h (fun z => ∃ h2, jM g n (pfl V p (X r) 13) (xup X p 2 ((fdg (X r) 13 : Int) - 1)) h2 ∧ z = (.inl none, h2)) := by
  have e : (fun e => (X r e).tdiv ((1 : Nat) : Int)) = X r := funext fun e => Int.tdiv_one _
  have h1 := mP_loadR (D := D) m (d := ((1 : Nat) : Int)) kp kr hm ⟨by decide, by decide⟩ hX hcap
  rw [e] at h1
  exact h1
theorem mD_str_loop {d : Nat} {s : Int} (hd : d ≤ 12) (hs : 1 ≤ s ∧ s ≤ 1000) (hC : ∀ e, e < 13 → (V (80 + 4 + 2 * e)).natAbs ≤ 2000000000000000000) {Q : mj_R → Prop} (hend : ∀ (V1 : Nat → Int) (h1 : mj_H), jM g n V1 X h1 → (∀ e, e < 13 → V1 (80 + 4 + 2 * e) = V (80 + 4 + 2 * e) * s ^ (d - e)) → (∀ x, x ≠ 164 → x ≠ 166 → x ≠ 168 → (x < 80 + 4 ∨ 80 + 4 + 26 ≤ x) → V1 x = V x) → Q (.inl none, h1)) : ∀ k, k ≤ d → ∀ (V1 : Nat → Int) (h1 : mj_H), jM g n V1 X h1 → (∀ e, e < 13 → V1 (80 + 4 + 2 * e) = if e < k then V (80 + 4 + 2 * e) else V (80 + 4 + 2 * e) * s ^ (d - e)) → V1 168 = s ^ (d - k) → (∀ x, x ≠ 164 → x ≠ 166 → x ≠ 168 → (x < 80 + 4 ∨ 80 + 4 + 26 ≤ x) → V1 x = V x) → mj_T (D + 2) mj_m26 16 [some (.ref 19), some (.ref 80), some (.long (jl s)), none, some (.int (jn ((k : Int) - 1)))] [] h1 Q
  | 0, hk, V1, h1, m, e1, e2, e3 => by
    refine mj_T.pl rfl rfl rfl rfl ?_
    refine mj_T.if0 (a := (((0 : Nat) : Int) - 1)) rfl ⟨by omega, by omega⟩ (fun c1 => ?_) (fun c1 => ?_)
    · simp only [jc, Bool.not_eq_true', Bool.not_eq_false', decide_eq_true_eq, decide_eq_false_iff_not] at c1
      exact mj_T.ret rfl rfl rfl (hend V1 _ m (fun e he => by rw [e1 e he, if_neg (by omega)]) e3)
    · exfalso
      simp [jc] at c1
  | k + 1, hk, V1, h1, m, e1, e2, e3 => by
    have lc1 : cL (164 + 1) = 240 := mK_z.2.2.2.2.2.2.2.1
    have lc2 : cL (166 + 1) = 240 := mK_z.2.2.2.2.2.2.2.2.1
    have lc3 : cL (168 + 1) = 40 := mK_z.2.2.2.2.2.2.2.2.2.1
    have lc4 : cL (80 + 4 + 2 * k + 1) = 236 := (mK_z.2.2.2.2.1 k (by omega)).2.2
    have hs3 := jnl_R (v := s) (by omega)
    have ek := e1 k (by omega)
    rw [if_pos (by omega)] at ek
    have lc5 : cL (80 + 3) = 13 := mK_z.2.2.1
    rw [show ((k + 1 : Nat) : Int) - 1 = (k : Int) by omega]
    refine mj_T.pl rfl rfl rfl rfl ?_
    refine mj_T.if0 (a := ((k : Nat) : Int)) rfl ⟨by omega, by omega⟩ (fun c1 => ?_) (fun c1 => ?_)
    · exfalso
      simp only [jc, Bool.not_eq_true', Bool.not_eq_false', decide_eq_true_eq, decide_eq_false_iff_not] at c1
      omega
    · simp only [jc, Bool.not_eq_true', Bool.not_eq_false', decide_eq_true_eq, decide_eq_false_iff_not] at c1
      refine mj_T.pl rfl rfl rfl rfl ?_
      refine jT.lc 1 rfl rfl ?_
      refine mj_T.lif (a := s) (b := ((1 : Nat) : Int)) rfl rfl ⟨by omega, by omega⟩ ⟨by omega, by omega⟩ (fun c2 => ?_) (fun c2 => ?_)
      · simp only [jc, Bool.not_eq_true', Bool.not_eq_false', decide_eq_true_eq, decide_eq_false_iff_not] at c2
        exact mj_T.ret rfl rfl rfl (hend V1 _ m (fun e he => by rw [e1 e he, show s = 1 by omega, Int.one_pow, Int.mul_one]; split <;> rfl) e3)
      · simp only [jc, Bool.not_eq_true', Bool.not_eq_false', decide_eq_true_eq, decide_eq_false_iff_not] at c2
        refine mj_T.pl rfl rfl rfl rfl ?_
        refine mT_get m 11 cq_d19 (by decide) rfl rfl ?_
        refine mj_T.pl rfl rfl rfl rfl ?_
        refine mj_T.call rfl rfl (Nat.le_of_ble_eq_true rfl) (Nat.le_of_ble_eq_true rfl) (mV_of m 18 cq_d166 (by decide) rfl (by decide) rfl _) rfl (mj_Ok.up (by omega) (mW_setLong (D := 0) (v := s) m cq_d166 ⟨by omega, by omega⟩ (by rw [lc2]; exact Nat.le_trans hs3 (by decide)))) (fun v g3 hq => ?_) (fun i g3 hq => ?_)
        rotate_left
        · obtain ⟨_, _, hq⟩ := hq; cases hq
        obtain ⟨_, m4, hq⟩ := hq
        cases hq
        have m4 := m4.to (V' := (jvu V1 166 s)) (by rfl) rfl
        refine mj_T.eq (pc2 := 35) (st2 := []) ?_ rfl rfl rfl rfl
        refine mj_T.pl rfl rfl rfl rfl ?_
        refine mT_get m4 11 cq_d19 (by decide) rfl rfl ?_
        refine mj_T.pl rfl rfl rfl rfl ?_
        refine mT_get m4 11 cq_d19 (by decide) rfl rfl ?_
        refine mj_T.pl rfl rfl rfl rfl ?_
        refine mT_get m4 11 cq_d19 (by decide) rfl rfl ?_
        refine mj_T.call rfl rfl (Nat.le_of_ble_eq_true rfl) (Nat.le_of_ble_eq_true rfl) (mV_of m4 18 cq_d164 (by decide) rfl (by decide) rfl _) rfl (mj_Ok.up (by omega) (mW_setProduct (D := 0) m4 cq_d164 cq_d168 cq_d166 (by omega) (by omega) (by omega) (by rw [((jvu_ne _ _ _ (by omega)).trans (rfl : V1 168 = _)), (jvu_at _ _ _)]; exact (by rw [lc1, e2, ← Int.pow_succ]; exact Nat.le_trans (str_p hs (by omega)).2 (by decide))) (hca := by rw [((jvu_ne _ _ _ (by omega)).trans (rfl : V1 168 = _))]; rw [e2]; exact Nat.le_trans (str_p hs (by omega)).2 (by decide)) (hcb := by rw [(jvu_at _ _ _)]; exact Nat.le_trans hs3 (by decide)))) (fun v g5 hq => ?_) (fun i g5 hq => ?_)
        rotate_left
        · obtain ⟨_, _, hq⟩ := hq; cases hq
        obtain ⟨_, m6, hq⟩ := hq
        cases hq
        have m6 := m6.to (V' := (jvu (jvu V1 166 s) 164 ((V1 168) * s))) (by rw [((jvu_ne _ _ _ (by omega)).trans (rfl : V1 168 = _)), (jvu_at _ _ _)]) rfl
        refine mj_T.eq (pc2 := 50) (st2 := []) ?_ rfl rfl rfl rfl
        refine mj_T.pl rfl rfl rfl rfl ?_
        refine mT_get m6 11 cq_d19 (by decide) rfl rfl ?_
        refine mj_T.pl rfl rfl rfl rfl ?_
        refine mT_get m6 11 cq_d19 (by decide) rfl rfl ?_
        refine mj_T.call rfl rfl (Nat.le_of_ble_eq_true rfl) (Nat.le_of_ble_eq_true rfl) (mV_of m6 18 cq_d168 (by decide) rfl (by decide) rfl _) rfl (mj_Ok.up (by omega) (mW_set (D := 0) m6 cq_d168 cq_d164 (by omega) (by rw [(jvu_at _ _ _)]; exact (by rw [lc3, e2, ← Int.pow_succ]; exact Nat.le_trans (str_p hs (by omega)).2 (by decide))))) (fun v g7 hq => ?_) (fun i g7 hq => ?_)
        rotate_left
        · obtain ⟨_, _, hq⟩ := hq; cases hq
        obtain ⟨_, m8, hq⟩ := hq
        cases hq
        have m8 := m8.to (V' := (jvu (jvu (jvu V1 166 s) 164 ((V1 168) * s)) 168 ((V1 168) * s))) (by rw [(jvu_at _ _ _)]) rfl
        refine mj_T.eq (pc2 := 61) (st2 := []) ?_ rfl rfl rfl rfl
        refine mj_T.pl rfl rfl rfl rfl ?_
        refine mT_get m8 11 cq_d19 (by decide) rfl rfl ?_
        iterate 2 refine mj_T.pl rfl rfl rfl rfl ?_
        refine mj_T.call rfl rfl (Nat.le_of_ble_eq_true rfl) (Nat.le_of_ble_eq_true rfl) (mV_of m8 13 cq_d80 (by decide) rfl (by decide) rfl _) rfl (mj_Ok.up (by omega) (mP_at (D := 0) m8 cq_d80 (e := k) (by omega))) (fun v g9 hq => ?_) (fun i g9 hq => ?_)
        rotate_left
        · cases hq
        cases hq
        refine mj_T.eq (pc2 := 71) (st2 := [.ref (80 + 4 + 2 * k), .ref 164]) ?_ rfl rfl rfl rfl
        refine mj_T.pl rfl rfl rfl rfl ?_
        refine mT_get m8 11 cq_d19 (by decide) rfl rfl ?_
        refine mj_T.call rfl rfl (Nat.le_of_ble_eq_true rfl) (Nat.le_of_ble_eq_true rfl) (mV_of m8 18 cq_d164 (by decide) rfl (by decide) rfl _) rfl (mj_Ok.up (by omega) (mW_setProduct (D := 0) m8 cq_d164 ((mK_p cq_d80).2.2.2 _ (by omega)) cq_d168 (by omega) (by omega) (by omega) (by rw [((jvu_ne _ _ _ (by omega)).trans ((jvu_ne _ _ _ (by omega)).trans ((jvu_ne _ _ _ (by omega)).trans (rfl : V1 (80 + 4 + 2 * k) = _)))), (jvu_at _ _ _)]; exact (by rw [lc1, ek, e2, ← Int.pow_succ]; exact Nat.le_trans (str_c (hC k (by omega)) hs (by omega)).2 (by decide))) (hca := by rw [((jvu_ne _ _ _ (by omega)).trans ((jvu_ne _ _ _ (by omega)).trans ((jvu_ne _ _ _ (by omega)).trans (rfl : V1 (80 + 4 + 2 * k) = _))))]; rw [ek]; exact Nat.le_trans (jnl_R (by have := hC k (by omega); omega)) (by decide)) (hcb := by rw [(jvu_at _ _ _)]; rw [e2, ← Int.pow_succ]; exact Nat.le_trans (str_p hs (by omega)).2 (by decide)))) (fun v g10 hq => ?_) (fun i g10 hq => ?_)
        rotate_left
        · obtain ⟨_, _, hq⟩ := hq; cases hq
        obtain ⟨_, m11, hq⟩ := hq
        cases hq
        have m11 := m11.to (V' := (jvu (jvu (jvu (jvu V1 166 s) 164 ((V1 168) * s)) 168 ((V1 168) * s)) 164 ((V1 (80 + 4 + 2 * k)) * ((V1 168) * s)))) (by rw [((jvu_ne _ _ _ (by omega)).trans ((jvu_ne _ _ _ (by omega)).trans ((jvu_ne _ _ _ (by omega)).trans (rfl : V1 (80 + 4 + 2 * k) = _)))), (jvu_at _ _ _)]) rfl
        refine mj_T.eq (pc2 := 78) (st2 := []) ?_ rfl rfl rfl rfl
        iterate 2 refine mj_T.pl rfl rfl rfl rfl ?_
        refine mj_T.call rfl rfl (Nat.le_of_ble_eq_true rfl) (Nat.le_of_ble_eq_true rfl) (mV_of m11 13 cq_d80 (by decide) rfl (by decide) rfl _) rfl (mj_Ok.up (by omega) (mP_at (D := 0) m11 cq_d80 (e := k) (by omega))) (fun v g12 hq => ?_) (fun i g12 hq => ?_)
        rotate_left
        · cases hq
        cases hq
        refine mj_T.eq (pc2 := 84) (st2 := [.ref (80 + 4 + 2 * k)]) ?_ rfl rfl rfl rfl
        refine mj_T.pl rfl rfl rfl rfl ?_
        refine mT_get m11 11 cq_d19 (by decide) rfl rfl ?_
        refine mj_T.call rfl rfl (Nat.le_of_ble_eq_true rfl) (Nat.le_of_ble_eq_true rfl) (mV_of m11 18 ((mK_p cq_d80).2.2.2 _ (by omega)) (by decide) rfl (by decide) rfl _) rfl (mj_Ok.up (by omega) (mW_set (D := 0) m11 ((mK_p cq_d80).2.2.2 _ (by omega)) cq_d164 (by omega) (by rw [(jvu_at _ _ _)]; exact (by rw [lc4, ek, e2, ← Int.pow_succ]; exact Nat.le_trans (str_c (hC k (by omega)) hs (by omega)).2 (by decide))))) (fun v g13 hq => ?_) (fun i g13 hq => ?_)
        rotate_left
        · obtain ⟨_, _, hq⟩ := hq; cases hq
        obtain ⟨_, m14, hq⟩ := hq
        cases hq
        have m14 := m14.to (V' := (jvu (jvu (jvu (jvu (jvu V1 166 s) 164 ((V1 168) * s)) 168 ((V1 168) * s)) 164 ((V1 (80 + 4 + 2 * k)) * ((V1 168) * s))) (80 + 4 + 2 * k) ((V1 (80 + 4 + 2 * k)) * ((V1 168) * s)))) (by rw [(jvu_at _ _ _)]) rfl
        refine mj_T.eq (pc2 := 91) (st2 := []) ?_ rfl rfl rfl rfl
        refine mj_T.iinc rfl rfl ?_
        refine mj_T.eq (loc2 := [some (.ref 19), some (.ref 80), some (.long (jl s)), none, some (.int (jn (((k : Nat) : Int) + (-1))))]) ?_ rfl rfl rfl rfl
        refine mj_T.pl rfl rfl rfl rfl ?_
        refine mj_T.eq (mD_str_loop hd hs hC hend k (by omega) _ _ m14 (fun e he => ?_) ?_ (fun x x1 x2 x3 x4 => ?_)) rfl (by rw [show (((k : Nat) : Int) + (-1)) = (k : Int) - 1 by omega]) rfl rfl
        · by_cases q : e = k
          · rw [q, if_neg (by omega), (jvu_at _ _ _), ek, e2, ← Int.pow_succ, show (d - (k + 1)).succ = d - k by omega]
          · rw [((jvu_ne _ _ _ (by omega)).trans ((jvu_ne _ _ _ (by omega)).trans ((jvu_ne _ _ _ (by omega)).trans ((jvu_ne _ _ _ (by omega)).trans ((jvu_ne _ _ _ (by omega)).trans (rfl : V1 (80 + 4 + 2 * e) = _)))))), e1 e he]
            by_cases q2 : e < k
            · rw [if_pos q2, if_pos (by omega)]
            · rw [if_neg q2, if_neg (by omega)]
        · rw [((jvu_ne _ _ _ (by omega)).trans ((jvu_ne _ _ _ (by omega)).trans (jvu_at _ _ _))), e2, ← Int.pow_succ, show (d - (k + 1)).succ = d - k by omega]
        · rw [((jvu_ne _ _ _ (by omega)).trans ((jvu_ne _ _ _ (by omega)).trans ((jvu_ne _ _ _ (by omega)).trans ((jvu_ne _ _ _ (by omega)).trans ((jvu_ne _ _ _ (by omega)).trans (rfl : V1 x = _))))))]
          exact e3 x x1 x2 x3 x4
theorem mD_stretch (m : jM g n V X h) {d : Nat} {s : Int} (hd : d ≤ 12) (hX80 : X 80 2 = (d : Int)) (hs : 1 ≤ s ∧ s ≤ 1000) (hC : ∀ e, e < 13 → (V (80 + 4 + 2 * e)).natAbs ≤ 2000000000000000000) : mj_Ok (D + 3) 26 [.ref 19, .ref 80, .long (jl s)] h (fun r => ∃ (V2 : Nat → Int) (h2 : mj_H), jM g n V2 X h2 ∧ (∀ e, e < 13 → V2 (80 + 4 + 2 * e) = V (80 + 4 + 2 * e) * s ^ (d - e)) ∧ (∀ x, x ≠ 164 → x ≠ 166 → x ≠ 168 → (x < 80 + 4 ∨ 80 + 4 + 26 ≤ x) → V2 x = V x) ∧ r = (.inl none, h2)) := by
  have lc1 : cL (164 + 1) = 240 := mK_z.2.2.2.2.2.2.2.1
  have lc2 : cL (166 + 1) = 240 := mK_z.2.2.2.2.2.2.2.2.1
  have lc3 : cL (168 + 1) = 40 := mK_z.2.2.2.2.2.2.2.2.2.1
  refine mj_Ok.of (M := mj_m26) rfl rfl rfl ?_
  refine mj_T.pl rfl rfl rfl rfl ?_
  refine mT_get m 11 cq_d19 (by decide) rfl rfl ?_
  refine jT.lc 1 rfl rfl ?_
  refine mj_T.call rfl rfl (Nat.le_of_ble_eq_true rfl) (Nat.le_of_ble_eq_true rfl) (mV_of m 18 cq_d168 (by decide) rfl (by decide) rfl _) rfl (mj_Ok.up (by omega) (mW_setLong (D := 0) (v := ((1 : Nat) : Int)) m cq_d168 ⟨by decide, by decide⟩ (by rw [lc3]; decide +kernel))) (fun v g1 hq => ?_) (fun i g1 hq => ?_)
  rotate_left
  · obtain ⟨_, _, hq⟩ := hq; cases hq
  obtain ⟨_, m2, hq⟩ := hq
  cases hq
  have m2 := m2.to (V' := (jvu V 168 ((1 : Nat) : Int))) (by rfl) rfl
  refine mj_T.eq (pc2 := 8) (st2 := []) ?_ rfl rfl rfl rfl
  refine mj_T.pl rfl rfl rfl rfl ?_
  refine mT_get (v := .int (jn (d : Int))) m2 13 cq_d80 (by decide) rfl (congrArg (fun z : Int => some (Value.int (jn z))) (hX80)) ?_
  refine mj_T.pl rfl rfl rfl rfl ?_
  refine mj_T.isub (a := (d : Int)) (b := 1) rfl ?_
  refine mj_T.pl (loc' := [some (.ref 19), some (.ref 80), some (.long (jl s)), none, some (.int (jn ((d : Int) - 1)))]) rfl rfl rfl rfl ?_
  refine mj_T.eq (mD_str_loop (V := V) hd hs hC (fun V1 h1 m1 f1 f2 => ⟨V1, h1, m1, f1, f2, rfl⟩) d (Nat.le_refl d) _ _ m2 (fun e he => ?_) ?_ (fun x x1 x2 x3 x4 => ?_)) rfl ?_ rfl rfl
  · rw [((jvu_ne _ _ _ (by omega)).trans (rfl : V (80 + 4 + 2 * e) = _))]
    by_cases q : e < d
    · rw [if_pos q]
    · rw [if_neg q, show d - e = 0 by omega, Int.pow_zero, Int.mul_one]
  · rw [Nat.sub_self, Int.pow_zero, (jvu_at _ _ _)]
    rfl
  · rw [((jvu_ne _ _ _ (by omega)).trans (rfl : V x = _))]
  · rfl
theorem mD_stretch0 (m : jM g n V X h) {s : Int} (hX80 : X 80 2 = -1) : mj_Ok (D + 3) 26 [.ref 19, .ref 80, .long (jl s)] h (fun r => ∃ (V2 : Nat → Int) (h2 : mj_H), jM g n V2 X h2 ∧ (∀ e, e < 13 → V2 (80 + 4 + 2 * e) = V (80 + 4 + 2 * e)) ∧ (∀ x, x ≠ 164 → x ≠ 166 → x ≠ 168 → (x < 80 + 4 ∨ 80 + 4 + 26 ≤ x) → V2 x = V x) ∧ r = (.inl none, h2)) := by
  have lc1 : cL (164 + 1) = 240 := mK_z.2.2.2.2.2.2.2.1
  have lc2 : cL (166 + 1) = 240 := mK_z.2.2.2.2.2.2.2.2.1
  have lc3 : cL (168 + 1) = 40 := mK_z.2.2.2.2.2.2.2.2.2.1
  refine mj_Ok.of (M := mj_m26) rfl rfl rfl ?_
  refine mj_T.pl rfl rfl rfl rfl ?_
  refine mT_get m 11 cq_d19 (by decide) rfl rfl ?_
  refine jT.lc 1 rfl rfl ?_
  refine mj_T.call rfl rfl (Nat.le_of_ble_eq_true rfl) (Nat.le_of_ble_eq_true rfl) (mV_of m 18 cq_d168 (by decide) rfl (by decide) rfl _) rfl (mj_Ok.up (by omega) (mW_setLong (D := 0) (v := ((1 : Nat) : Int)) m cq_d168 ⟨by decide, by decide⟩ (by rw [lc3]; decide +kernel))) (fun v g1 hq => ?_) (fun i g1 hq => ?_)
  rotate_left
  · obtain ⟨_, _, hq⟩ := hq; cases hq
  obtain ⟨_, m2, hq⟩ := hq
  cases hq
  have m2 := m2.to (V' := (jvu V 168 ((1 : Nat) : Int))) (by rfl) rfl
  refine mj_T.eq (pc2 := 8) (st2 := []) ?_ rfl rfl rfl rfl
  refine mj_T.pl rfl rfl rfl rfl ?_
  refine mT_get (v := .int (jn (-1))) m2 13 cq_d80 (by decide) rfl (congrArg (fun z : Int => some (Value.int (jn z))) (hX80)) ?_
  refine mj_T.pl rfl rfl rfl rfl ?_
  refine mj_T.isub (a := (-1)) (b := 1) rfl ?_
  refine mj_T.pl (loc' := [some (.ref 19), some (.ref 80), some (.long (jl s)), none, some (.int (jn ((-1) - 1)))]) rfl rfl rfl rfl ?_
  refine mj_T.pl rfl rfl rfl rfl ?_
  refine mj_T.if0 (a := ((-1) - 1)) rfl ⟨by omega, by omega⟩ (fun c3 => ?_) (fun c3 => ?_)
  · simp only [jc, Bool.not_eq_true', Bool.not_eq_false', decide_eq_true_eq, decide_eq_false_iff_not] at c3
    exact mj_T.ret rfl rfl rfl ⟨_, _, m2, fun e he => ((jvu_ne _ _ _ (by omega)).trans (rfl : V (80 + 4 + 2 * e) = _)), fun x x1 x2 x3 x4 => ((jvu_ne _ _ _ (by omega)).trans (rfl : V x = _)), rfl⟩
  · exfalso
    simp [jc] at c3
theorem mD_hor_loop {x c : Int} (hx : x.natAbs ≤ 1000) (hV8 : V 168 = x) (hF : ∀ e, e < 13 → (V (80 + 4 + 2 * e)).natAbs ≤ hrF) {Q : mj_R → Prop} (hend : ∀ (V1 : Nat → Int) (h1 : mj_H), jM g n V1 X h1 → (∀ a, a ≠ 164 → a ≠ 166 → V1 a = V a) → V1 164 = c → Q (.inl (some (.int (jn (jsg c)))), h1)) : ∀ k t, k + t ≤ 13 → ∀ (V1 : Nat → Int) (h1 : mj_H), jM g n V1 X h1 → (∀ a, a ≠ 164 → a ≠ 166 → V1 a = V a) → (V1 164).natAbs ≤ t * (hrF * 1000 ^ t) → hpv (fun e => V (80 + 4 + 2 * e)) x k (V1 164) = c → mj_T (D + 2) mj_m28 13 [some (.ref 19), some (.ref 80), some (.ref 168), some (.int (jn ((k : Int) - 1)))] [] h1 Q
  | 0, t, hk, V1, h1, m, e2, e3, e4 => by
    refine mj_T.pl rfl rfl rfl rfl ?_
    refine mj_T.if0 (a := (((0 : Nat) : Int) - 1)) rfl ⟨by omega, by omega⟩ (fun c1 => ?_) (fun c1 => ?_)
    · simp only [jc, Bool.not_eq_true', Bool.not_eq_false', decide_eq_true_eq, decide_eq_false_iff_not] at c1
      refine mj_T.pl rfl rfl rfl rfl ?_
      refine mT_get m 11 cq_d19 (by decide) rfl rfl ?_
      refine mT_sg m cq_d164 rfl ?_ (hcl := Nat.le_trans (hor_l (by omega) (by omega) e3) (by decide))
      have e5 : V1 164 = c := e4
      rw [e5]
      exact mj_T.ret rfl rfl rfl (hend V1 _ m e2 e5)
    · exfalso
      simp [jc] at c1
  | k + 1, t, hk, V1, h1, m, e2, e3, e4 => by
    have lc1 : cL (164 + 1) = 240 := mK_z.2.2.2.2.2.2.2.1
    have lc2 : cL (166 + 1) = 240 := mK_z.2.2.2.2.2.2.2.2.1
    have lc3 : cL (168 + 1) = 40 := mK_z.2.2.2.2.2.2.2.2.2.1
    have ex : V1 168 = x := (e2 168 (by decide) (by decide)).trans hV8
    have ek : V1 (80 + 4 + 2 * k) = V (80 + 4 + 2 * k) := e2 _ (by omega) (by omega)
    have lc5 : cL (80 + 3) = 13 := mK_z.2.2.1
    have sb := jva_step (k := x) e3 hx (hF k (by omega)) 1 (show (1 : Int).natAbs ≤ 1000 ^ (t + 1) from Nat.one_le_pow _ _ (by decide))
    rw [show ((k + 1 : Nat) : Int) - 1 = (k : Int) by omega]
    refine mj_T.pl rfl rfl rfl rfl ?_
    refine mj_T.if0 (a := ((k : Nat) : Int)) rfl ⟨by omega, by omega⟩ (fun c1 => ?_) (fun c1 => ?_)
    · exfalso
      simp only [jc, Bool.not_eq_true', Bool.not_eq_false', decide_eq_true_eq, decide_eq_false_iff_not] at c1
      omega
    · simp only [jc, Bool.not_eq_true', Bool.not_eq_false', decide_eq_true_eq, decide_eq_false_iff_not] at c1
      refine mj_T.pl rfl rfl rfl rfl ?_
      refine mT_get m 11 cq_d19 (by decide) rfl rfl ?_
      refine mj_T.pl rfl rfl rfl rfl ?_
      refine mT_get m 11 cq_d19 (by decide) rfl rfl ?_
      refine mj_T.pl rfl rfl rfl rfl ?_
      refine mj_T.call rfl rfl (Nat.le_of_ble_eq_true rfl) (Nat.le_of_ble_eq_true rfl) (mV_of m 18 cq_d166 (by decide) rfl (by decide) rfl _) rfl (mj_Ok.up (by omega) (mW_setProduct (D := 0) m cq_d166 cq_d164 cq_d168 (by omega) (by omega) (by omega) (by rw [(rfl : V1 164 = _), (rfl : V1 168 = _)]; exact (by rw [lc2, ex]; exact Nat.le_trans (hor_l (by omega) (by omega) sb.1) (by decide))) (hca := by rw [(rfl : V1 164 = _)]; exact Nat.le_trans (hor_l (by omega) (by omega) e3) (by decide)) (hcb := by rw [(rfl : V1 168 = _)]; rw [ex]; exact Nat.le_trans (jnl_R (by omega)) (by decide)))) (fun v g2 hq => ?_) (fun i g2 hq => ?_)
      rotate_left
      · obtain ⟨_, _, hq⟩ := hq; cases hq
      obtain ⟨_, m3, hq⟩ := hq
      cases hq
      have m3 := m3.to (V' := (jvu V1 166 ((V1 164) * (V1 168)))) (by rw [(rfl : V1 164 = _), (rfl : V1 168 = _)]) rfl
      refine mj_T.eq (pc2 := 29) (st2 := []) ?_ rfl rfl rfl rfl
      refine mj_T.pl rfl rfl rfl rfl ?_
      refine mT_get m3 11 cq_d19 (by decide) rfl rfl ?_
      iterate 2 refine mj_T.pl rfl rfl rfl rfl ?_
      refine mj_T.call rfl rfl (Nat.le_of_ble_eq_true rfl) (Nat.le_of_ble_eq_true rfl) (mV_of m3 13 cq_d80 (by decide) rfl (by decide) rfl _) rfl (mj_Ok.up (by omega) (mP_at (D := 0) m3 cq_d80 (e := k) (by omega))) (fun v g4 hq => ?_) (fun i g4 hq => ?_)
      rotate_left
      · cases hq
      cases hq
      refine mj_T.eq (pc2 := 38) (st2 := [.ref (80 + 4 + 2 * k), .ref 166]) ?_ rfl rfl rfl rfl
      refine mj_T.pl rfl rfl rfl rfl ?_
      refine mj_T.call rfl rfl (Nat.le_of_ble_eq_true rfl) (Nat.le_of_ble_eq_true rfl) (mV_of m3 18 cq_d166 (by decide) rfl (by decide) rfl _) rfl (mj_Ok.up (by omega) (mW_plus (D := 0) (f := 1) m3 cq_d166 ((mK_p cq_d80).2.2.2 _ (by omega)) (by omega) (Or.inl rfl) (by rw [((jvu_ne _ _ _ (by omega)).trans (rfl : V1 (80 + 4 + 2 * k) = _))]; exact (by rw [lc2, ek]; exact Nat.le_trans (hor_l (by omega) (by omega) (m := 1) (n := 0) (by rw [Nat.pow_zero, Nat.mul_one, Nat.one_mul]; exact hF k (by omega))) (by decide))) (by rw [(jvu_at _ _ _), ((jvu_ne _ _ _ (by omega)).trans (rfl : V1 (80 + 4 + 2 * k) = _))]; exact (by rw [lc2, Int.one_mul, ex, ek, ← Int.mul_one (V (80 + 4 + 2 * k))]; exact Nat.le_trans (hor_l (by omega) (by omega) sb.2.2) (by decide))))) (fun v g5 hq => ?_) (fun i g5 hq => ?_)
      rotate_left
      · obtain ⟨_, _, hq⟩ := hq; cases hq
      obtain ⟨_, m6, hq⟩ := hq
      cases hq
      have m6 := m6.to (V' := (jvu (jvu V1 166 ((V1 164) * (V1 168))) 166 (((V1 164) * (V1 168)) + 1 * (V1 (80 + 4 + 2 * k))))) (by rw [(jvu_at _ _ _), ((jvu_ne _ _ _ (by omega)).trans (rfl : V1 (80 + 4 + 2 * k) = _))]) rfl
      refine mj_T.eq (pc2 := 42) (st2 := []) ?_ rfl rfl rfl rfl
      refine mj_T.pl rfl rfl rfl rfl ?_
      refine mT_get m6 11 cq_d19 (by decide) rfl rfl ?_
      refine mj_T.pl rfl rfl rfl rfl ?_
      refine mT_get m6 11 cq_d19 (by decide) rfl rfl ?_
      refine mj_T.call rfl rfl (Nat.le_of_ble_eq_true rfl) (Nat.le_of_ble_eq_true rfl) (mV_of m6 18 cq_d164 (by decide) rfl (by decide) rfl _) rfl (mj_Ok.up (by omega) (mW_set (D := 0) m6 cq_d164 cq_d166 (by omega) (by rw [(jvu_at _ _ _)]; exact (by rw [lc1, Int.one_mul, ex, ek, ← Int.mul_one (V (80 + 4 + 2 * k))]; exact Nat.le_trans (hor_l (by omega) (by omega) sb.2.2) (by decide))))) (fun v g7 hq => ?_) (fun i g7 hq => ?_)
      rotate_left
      · obtain ⟨_, _, hq⟩ := hq; cases hq
      obtain ⟨_, m8, hq⟩ := hq
      cases hq
      have m8 := m8.to (V' := (jvu (jvu (jvu V1 166 ((V1 164) * (V1 168))) 166 (((V1 164) * (V1 168)) + 1 * (V1 (80 + 4 + 2 * k)))) 164 (((V1 164) * (V1 168)) + 1 * (V1 (80 + 4 + 2 * k))))) (by rw [(jvu_at _ _ _)]) rfl
      refine mj_T.eq (pc2 := 53) (st2 := []) ?_ rfl rfl rfl rfl
      refine mj_T.iinc rfl rfl ?_
      refine mj_T.eq (loc2 := [some (.ref 19), some (.ref 80), some (.ref 168), some (.int (jn (((k : Nat) : Int) + (-1))))]) ?_ rfl rfl rfl rfl
      refine mj_T.pl rfl rfl rfl rfl ?_
      refine mj_T.eq (mD_hor_loop hx hV8 hF hend k (t + 1) (by omega) _ _ m8 (fun a a1 a2 => ?_) ?_ ?_) rfl (by rw [show (((k : Nat) : Int) + (-1)) = (k : Int) - 1 by omega]) rfl rfl
      · rw [((jvu_ne _ _ _ (by omega)).trans ((jvu_ne _ _ _ (by omega)).trans ((jvu_ne _ _ _ (by omega)).trans (rfl : V1 a = _))))]
        exact e2 a a1 a2
      · rw [(jvu_at _ _ _), Int.one_mul, ex, ek, ← Int.mul_one (V (80 + 4 + 2 * k))]
        exact sb.2.2
      · rw [(jvu_at _ _ _), Int.one_mul, ex, ek]
        exact e4
theorem mD_hor (m : jM g n V X h) {x : Int} {k : Nat} (hk : k ≤ 13) (hX80 : X 80 2 = (k : Int) - 1) (hx : x.natAbs ≤ 1000) (hV8 : V 168 = x) (hF : ∀ e, e < 13 → (V (80 + 4 + 2 * e)).natAbs ≤ hrF) : mj_Ok (D + 3) 28 [.ref 19, .ref 80, .ref 168] h (fun r => ∃ (V2 : Nat → Int) (h2 : mj_H), jM g n V2 X h2 ∧ V2 164 = hpv (fun e => V (80 + 4 + 2 * e)) x k 0 ∧ (∀ a, a ≠ 164 → a ≠ 166 → V2 a = V a) ∧ r = (.inl (some (.int (jn (jsg (hpv (fun e => V (80 + 4 + 2 * e)) x k 0))))), h2)) := by
  have lc1 : cL (164 + 1) = 240 := mK_z.2.2.2.2.2.2.2.1
  have lc2 : cL (166 + 1) = 240 := mK_z.2.2.2.2.2.2.2.2.1
  have lc3 : cL (168 + 1) = 40 := mK_z.2.2.2.2.2.2.2.2.2.1
  refine mj_Ok.of (M := mj_m28) rfl rfl rfl ?_
  refine mj_T.pl rfl rfl rfl rfl ?_
  refine mT_get m 11 cq_d19 (by decide) rfl rfl ?_
  refine jT.lc 0 rfl rfl ?_
  refine mj_T.call rfl rfl (Nat.le_of_ble_eq_true rfl) (Nat.le_of_ble_eq_true rfl) (mV_of m 18 cq_d164 (by decide) rfl (by decide) rfl _) rfl (mj_Ok.up (by omega) (mW_setLong (D := 0) (v := ((0 : Nat) : Int)) m cq_d164 ⟨by decide, by decide⟩ (by rw [lc1]; decide +kernel))) (fun v g1 hq => ?_) (fun i g1 hq => ?_)
  rotate_left
  · obtain ⟨_, _, hq⟩ := hq; cases hq
  obtain ⟨_, m2, hq⟩ := hq
  cases hq
  have m2 := m2.to (V' := (jvu V 164 ((0 : Nat) : Int))) (by rfl) rfl
  refine mj_T.eq (pc2 := 8) (st2 := []) ?_ rfl rfl rfl rfl
  refine mj_T.pl rfl rfl rfl rfl ?_
  refine mT_get (v := .int (jn ((k : Int) - 1))) m2 13 cq_d80 (by decide) rfl (congrArg (fun z : Int => some (Value.int (jn z))) (hX80)) ?_
  refine mj_T.pl (loc' := [some (.ref 19), some (.ref 80), some (.ref 168), some (.int (jn ((k : Int) - 1)))]) rfl rfl rfl rfl ?_
  exact mj_T.eq (mD_hor_loop (V := jvu V 164 0) hx ((jvu_ne _ _ _ (by decide)).trans hV8) (fun e he => by rw [jvu_ne _ _ _ (by omega)]; exact hF e he) (fun V1 h1 m1 f1 f2 => ⟨V1, h1, m1, f2, fun a a1 a2 => (f1 a a1 a2).trans (jvu_ne _ _ _ a1), rfl⟩) k 0 (by omega) _ _ m2 (fun a a1 a2 => rfl) (by rw [jvu_at]; exact Nat.zero_le _) (by rw [jvu_at]; exact hpv_cg _ _ (fun j hj => jvu_ne _ _ _ (by omega)))) rfl rfl rfl rfl
end MVV
