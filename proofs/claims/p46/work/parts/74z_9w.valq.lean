/-! The value at a fraction: answers on both sides. -/
abbrev okfr (x y : Int) : Prop := (-1000 ≤ x ∧ x ≤ 1000) ∧ (1 ≤ y ∧ y ≤ 1000)
abbrev A_value (N : Nat → Int) (a x y : Int) : Int → Int → Prop := an [(0 ≤ a ∧ a ≤ 5, 1), (okfr x y, 2)] (fun z => z = jsg (vlz (rwN N a) x y))
theorem A_value.ag {N : Nat → Int} {a x y c1 z1 c2 z2 : Int} (p : A_value N a x y c1 z1) (q : A_value N a x y c2 z2) : c1 = c2 ∧ (c1 = 0 → z1 = z2) := an.ag (fun _ _ a b => a.trans b.symm) (by simp) p q
theorem tq_g {v y : Int} (hy : 1 ≤ y ∧ y ≤ 1000) : 1 ≤ ((Nat.gcd v.natAbs y.natAbs : Nat) : Int) ∧ ((Nat.gcd v.natAbs y.natAbs : Nat) : Int) ≤ y ∧ ((Nat.gcd v.natAbs y.natAbs : Nat) : Int) ∣ v := by
  have h1 : 0 < Nat.gcd v.natAbs y.natAbs := Nat.gcd_pos_of_pos_right _ (by omega)
  have h2 := Nat.le_of_dvd (by omega) (Nat.gcd_dvd_right v.natAbs y.natAbs)
  exact ⟨by omega, by omega, Int.ofNat_dvd_left.mpr (Nat.gcd_dvd_left _ _)⟩
theorem tq_l {v : Int} {i : Nat} (hi : i ≤ 13) (h : v.natAbs ≤ 1000 ^ i) : jnl v.natAbs ≤ 10 := jnl_le_lt.mpr (Nat.lt_of_le_of_lt (Nat.le_trans h (Nat.pow_le_pow_right (by decide) hi)) (by decide +kernel))
theorem vlz_9 {f : Nat → Int} {x y : Int} (hf : ∀ e, e < 13 → (f e).natAbs ≤ 999999999999999999) (hx : x.natAbs ≤ 1000) (hy : y.natAbs ≤ 1000) : jnl (vlz f x y).natAbs ≤ 9 := jnl_le_lt.mpr (Nat.lt_of_le_of_lt (vlz_bd (Z := 1000) (by decide) hf hx hy) (by decide +kernel))
section MVW
variable {g h : mj_H} {n D u r : Nat} {V : Nat → Int} {X : Nat → Nat → Int} {N : Nat → Int} {H : Nat → Nat → Int}
theorem mD_strk (m : jM g n V X h) {k : Nat} {s : Int} (hk : k ≤ 13) (hX80 : X 80 2 = (k : Int) - 1) (hs : 1 ≤ s ∧ s ≤ 1000) (hC : ∀ e, e < 13 → (V (80 + 4 + 2 * e)).natAbs ≤ 2000000000000000000) : mj_Ok (D + 3) 26 [.ref 19, .ref 80, .long (jl s)] h (fun r => ∃ (V2 : Nat → Int) (h2 : mj_H), jM g n V2 X h2 ∧ (∀ e, e < 13 → V2 (80 + 4 + 2 * e) = V (80 + 4 + 2 * e) * s ^ ((k - 1) - e)) ∧ r = (.inl none, h2)) := by
  rcases Nat.eq_zero_or_pos k with q | q
  · subst q
    exact (mD_stretch0 m (by rw [hX80]; rfl)).to (fun r o => by
      obtain ⟨V2, h2, m2, e1, e2, e3⟩ := o
      exact ⟨V2, h2, m2, fun e he => by rw [e1 e he, Nat.zero_sub, Int.pow_zero, Int.mul_one], e3⟩)
  · obtain ⟨d, rfl⟩ : ∃ d, k = d + 1 := ⟨k - 1, by omega⟩
    rw [Nat.add_sub_cancel]
    exact (mD_stretch m (d := d) (by omega) (by rw [hX80]; omega) hs hC).to (fun r o => by
      obtain ⟨V2, h2, m2, e1, e2, e3⟩ := o
      exact ⟨V2, h2, m2, e1, e3⟩)
theorem mD_value (m : jM g n V X h) (kr : cK r = 2) (hX : ∀ i, i < 13 → (X r i).natAbs ≤ 2000000000000000000) {x y : Int} (hx : x.natAbs ≤ 1000) (hy : 1 ≤ y ∧ y ≤ 1000) : mj_Ok (D + 5) 27 [.ref 19, .ref r, .int (jn x), .int (jn y)] h (fun z => ∃ (V2 : Nat → Int) (h2 : mj_H), jM g n V2 (xup X 80 2 ((fdg (X r) 13 : Int) - 1)) h2 ∧ V2 164 = vlz (X r) x y ∧ z = (.inl (some (.int (jn (jsg (vlz (X r) x y))))), h2)) := by
  have hl := fdg_le (X r) 13
  have c3 : cL (168 + 1) = 40 := mK_z.2.2.2.2.2.2.2.2.2.1
  refine mj_Ok.of (M := mj_m27) rfl rfl rfl ?_
  refine mj_T.pl rfl rfl rfl rfl ?_
  refine mT_get m 11 cq_d19 (by decide) rfl rfl ?_
  refine mj_T.pl rfl rfl rfl rfl ?_
  refine jT.lc 1 rfl rfl ?_
  refine mj_T.call rfl rfl (Nat.le_of_ble_eq_true rfl) (Nat.le_of_ble_eq_true rfl) (mV_of m 13 cq_d80 (by decide) rfl (by decide) rfl _) rfl (mj_Ok.up (by omega) (mP_loadR1 (D := 0) m cq_d80 kr (by decide +kernel) hX (fun i hi => by have := mK_z.2.2.2.2.1 i hi; omega))) (fun v g1 hq => ?_) (fun i g1 hq => by obtain ⟨_, _, hq⟩ := hq; cases hq)
  obtain ⟨_, m3, hq⟩ := hq
  cases hq
  have a1 : ∀ e, e < 13 → pfl V 80 (X r) 13 (80 + 4 + 2 * e) = X r e := fun e he => pfl_at V 80 (X r) he
  generalize pfl V 80 (X r) 13 = V1 at m3 a1
  refine mj_T.eq (pc2 := 9) (st2 := []) ?_ rfl rfl rfl rfl
  iterate 2 refine mj_T.pl rfl rfl rfl rfl ?_
  refine mT_get m3 11 cq_d19 (by decide) rfl rfl ?_
  refine mj_T.pl rfl rfl rfl rfl ?_
  refine mj_T.i2l rfl ⟨by omega, by omega⟩ ?_
  refine mj_T.call rfl rfl (Nat.le_of_ble_eq_true rfl) (Nat.le_of_ble_eq_true rfl) (mV_of m3 11 cq_d19 (by decide) rfl (by decide) rfl _) rfl (mj_Ok.up (by omega) (mD_strk (D := 0) m3 hl (xup_at _ _ _ _) hy (fun e he => by rw [a1 e he]; exact hX e he))) (fun v g6 hq => ?_) (fun i g6 hq => by obtain ⟨_, _, _, _, hq⟩ := hq; cases hq)
  obtain ⟨V7, _, m8, b1, hq⟩ := hq
  cases hq
  refine mj_T.eq (pc2 := 19) (st2 := []) ?_ rfl rfl rfl rfl
  refine mj_T.pl rfl rfl rfl rfl ?_
  refine mT_get m8 11 cq_d19 (by decide) rfl rfl ?_
  refine mj_T.pl rfl rfl rfl rfl ?_
  refine mj_T.i2l rfl ⟨by omega, by omega⟩ ?_
  refine mj_T.call rfl rfl (Nat.le_of_ble_eq_true rfl) (Nat.le_of_ble_eq_true rfl) (mV_of m8 18 cq_d168 (by decide) rfl (by decide) rfl _) rfl (mj_Ok.up (by omega) (mW_setLong (D := 0) (v := x) m8 cq_d168 ⟨by omega, by omega⟩ (by rw [c3]; exact Nat.le_trans (jR_l10 ⟨by omega, by omega⟩) (by decide)))) (fun v g10 hq => ?_) (fun i g10 hq => by obtain ⟨_, _, hq⟩ := hq; cases hq)
  obtain ⟨_, m12, hq⟩ := hq
  cases hq
  have d1 : jvu V7 168 x 168 = x := jvu_at _ _ _
  have d2 : ∀ s, s ≠ 168 → jvu V7 168 x s = V7 s := fun s hne => jvu_ne _ _ _ hne
  generalize jvu V7 168 x = V9 at m12 d1 d2
  have f1 : ∀ e, e < 13 → V9 (80 + 4 + 2 * e) = X r e * y ^ ((fdg (X r) 13 - 1) - e) := fun e he => by rw [d2 _ (by omega), b1 e he, a1 e he]
  have f2 : hpv (fun e => V9 (80 + 4 + 2 * e)) x (fdg (X r) 13) 0 = vlz (X r) x y := hpv_cg _ _ (fun j hj => f1 j (by omega))
  refine mj_T.eq (pc2 := 28) (st2 := []) ?_ rfl rfl rfl rfl
  iterate 2 refine mj_T.pl rfl rfl rfl rfl ?_
  refine mT_get m12 11 cq_d19 (by decide) rfl rfl ?_
  refine mj_T.pl rfl rfl rfl rfl ?_
  refine mT_get m12 11 cq_d19 (by decide) rfl rfl ?_
  refine mj_T.call rfl rfl (Nat.le_of_ble_eq_true rfl) (Nat.le_of_ble_eq_true rfl) (mV_of m12 11 cq_d19 (by decide) rfl (by decide) rfl _) rfl (mj_Ok.up (by omega) (mD_hor (D := 0) m12 hl (xup_at _ _ _ _) hx d1 (fun e he => by rw [f1 e he]; exact (str_c (hX e he) hy (by omega)).1))) (fun v g14 hq => ?_) (fun i g14 hq => by obtain ⟨_, _, _, _, _, hq⟩ := hq; cases hq)
  obtain ⟨V17, _, m16, e1, _, hq⟩ := hq
  rw [f2] at e1 hq
  cases hq
  refine mj_T.eq (pc2 := 40) (st2 := [.int (jn (jsg (vlz (X r) x y)))]) ?_ rfl rfl rfl rfl
  exact mj_T.ret rfl rfl rfl ⟨V17, _, m16, e1, rfl⟩
theorem mX_tq_loop {c y t : Int} (hy : 1 ≤ y ∧ y ≤ 1000) (ht : -1 ≤ t ∧ t ≤ 12) : ∀ (k i : Nat), t - (i : Int) ≤ k → i ≤ 13 → ∀ (l6 : Option Value) (V : Nat → Int) (h : mj_H), jM g n V X h → jsg (V 477) = c → jnl (V 477).natAbs ≤ 9 → (V 479).natAbs ≤ 1000 ^ i → mj_T (D + 3) mj_m159 19 [some (.ref 1), some (.ref 164), some (.long (jl y)), none, some (.int (jn t)), some (.int (jn (i : Int))), l6, none] [] h (fun r => r.1 = .inl (some (.int (jn c))))
  | 0, i, hi, h13, l6, V, h, m, e1, e2, e3 => by
    iterate 2 refine mj_T.pl rfl rfl rfl rfl ?_
    refine mj_T.icmp (a := (i : Int)) (b := t) rfl ⟨by omega, by omega⟩ ⟨by omega, by omega⟩ (fun c1 => ?_) (fun c1 => ?_)
    · simp only [jc, Bool.not_eq_true', Bool.not_eq_false', decide_eq_true_eq, decide_eq_false_iff_not] at c1
      refine mj_T.pl rfl rfl rfl rfl ?_
      refine mT_get m 19 cq_d1 (by decide) rfl rfl ?_
      refine mT_sg m cq_d477 rfl ?_ (by omega)
      rw [e1]
      exact mj_T.ret rfl rfl rfl rfl
    · exfalso
      simp only [jc, Bool.not_eq_true', Bool.not_eq_false', decide_eq_true_eq, decide_eq_false_iff_not] at c1
      omega
  | k + 1, i, hi, h13, l6, V, h, m, e1, e2, e3 => by
    obtain ⟨k7, k9, l8, l0⟩ := ck_47
    iterate 2 refine mj_T.pl rfl rfl rfl rfl ?_
    refine mj_T.icmp (a := (i : Int)) (b := t) rfl ⟨by omega, by omega⟩ ⟨by omega, by omega⟩ (fun c1 => ?_) (fun c1 => ?_)
    · simp only [jc, Bool.not_eq_true', Bool.not_eq_false', decide_eq_true_eq, decide_eq_false_iff_not] at c1
      refine mj_T.pl rfl rfl rfl rfl ?_
      refine mT_get m 19 cq_d1 (by decide) rfl rfl ?_
      refine mT_sg m cq_d477 rfl ?_ (by omega)
      rw [e1]
      exact mj_T.ret rfl rfl rfl rfl
    · simp only [jc, Bool.not_eq_true', Bool.not_eq_false', decide_eq_true_eq, decide_eq_false_iff_not] at c1
      refine mj_T.pl rfl rfl rfl rfl ?_
      refine mT_get m 19 cq_d1 (by decide) rfl rfl ?_
      refine mj_T.pl rfl rfl rfl rfl ?_
      refine mT_get m 19 cq_d1 (by decide) rfl rfl ?_
      refine mj_T.pl rfl rfl rfl rfl ?_
      refine mj_T.call rfl rfl (Nat.le_of_ble_eq_true rfl) (Nat.le_of_ble_eq_true rfl) (mV_of m 11 cq_d19 (by decide) rfl (by decide) rfl _) rfl (mj_Ok.up (by omega) (mD_common (D := 0) m k7 ⟨by decide, by decide, by decide⟩ (f := y) (by omega) (by omega) (by omega))) (fun v g3 hq => ?_) (fun i g3 hq => by obtain ⟨_, _, _, _, hq⟩ := hq; cases hq)
      obtain ⟨V4, _, m5, q4, hq⟩ := hq
      cases hq
      obtain ⟨p1, p2, p3⟩ := tq_g (v := V 477) hy
      generalize ((Nat.gcd (V 477).natAbs y.natAbs : Nat) : Int) = q at p1 p2 p3 ⊢
      have f4 : V4 477 = V 477 := q4 477 (by decide) (by decide) (by decide) (by decide) (by decide)
      have f5 : V4 479 = V 479 := q4 479 (by decide) (by decide) (by decide) (by decide) (by decide)
      refine mj_T.eq (pc2 := 38) (st2 := [.long (jl q)]) ?_ rfl rfl rfl rfl
      refine mj_T.pl (loc' := [some (.ref 1), some (.ref 164), some (.long (jl y)), none, some (.int (jn t)), some (.int (jn (i : Int))), some (.long (jl q)), none]) rfl rfl rfl rfl ?_
      refine mj_T.pl rfl rfl rfl rfl ?_
      refine mT_get m5 19 cq_d1 (by decide) rfl rfl ?_
      refine mj_T.pl rfl rfl rfl rfl ?_
      refine mT_get m5 19 cq_d1 (by decide) rfl rfl ?_
      refine mj_T.pl rfl rfl rfl rfl ?_
      refine mj_T.call rfl rfl (Nat.le_of_ble_eq_true rfl) (Nat.le_of_ble_eq_true rfl) (mV_of m5 11 cq_d19 (by decide) rfl (by decide) rfl _) rfl (mj_Ok.up (by omega) (mD_lessen (D := 0) m5 k7 ⟨by decide, by decide, by decide⟩ (f := q) (by omega) (by rw [l8, f4]; omega) (by rw [f4]; omega))) (fun v g8 hq => ?_) (fun i g8 hq => by obtain ⟨_, _, _, _, _, hq⟩ := hq; cases hq)
      obtain ⟨V9, _, m10, w9, q9, hq⟩ := hq
      cases hq
      have f9 : V9 479 = V 479 := (q9 479 (by decide) (by decide) (by decide) (by decide) (by decide)).trans f5
      have d1 : (y.tdiv q).natAbs ≤ 1000 := by
        rw [Int.natAbs_tdiv]
        exact Nat.le_trans (Nat.div_le_self _ _) (by omega)
      have d2 : (V 479 * y.tdiv q).natAbs ≤ 1000 ^ (i + 1) := by
        rw [Int.natAbs_mul, Nat.pow_succ]
        exact Nat.mul_le_mul e3 d1
      have d3 := tq_l (i := i + 1) (by omega) d2
      have d4 := tq_l h13 e3
      refine mj_T.eq (pc2 := 53) (st2 := []) ?_ rfl rfl rfl rfl
      refine mj_T.pl rfl rfl rfl rfl ?_
      refine mT_get m10 19 cq_d1 (by decide) rfl rfl ?_
      refine mj_T.pl rfl rfl rfl rfl ?_
      refine mT_get m10 19 cq_d1 (by decide) rfl rfl ?_
      refine mj_T.pl rfl rfl rfl rfl ?_
      refine jT.lc 0 rfl rfl ?_
      refine mj_T.lif (a := q) (b := ((0 : Nat) : Int)) rfl rfl ⟨by omega, by omega⟩ ⟨by omega, by omega⟩ (fun c12 => ?_) (fun c12 => ?_)
      · iterate 2 refine mj_T.pl rfl rfl rfl rfl ?_
        refine mT_ldiv rfl ⟨by omega, by omega⟩ (by omega) ⟨by omega, by omega⟩ (by omega) ?_
        refine mj_T.call rfl rfl (Nat.le_of_ble_eq_true rfl) (Nat.le_of_ble_eq_true rfl) (mV_of m10 11 cq_d19 (by decide) rfl (by decide) rfl _) rfl (mj_Ok.up (by omega) (mD_enlarge (D := 0) m10 k9 ⟨by decide, by decide⟩ (f := y.tdiv q) (by omega) (by rw [l0, f9]; exact d3) (by rw [f9]; omega) (by rw [f9]; omega))) (fun v g14 hq => ?_) (fun i g14 hq => by obtain ⟨_, _, _, _, _, hq⟩ := hq; cases hq)
        obtain ⟨V15, _, m16, w15, q15, hq⟩ := hq
        cases hq
        have f15 : V15 477 = (V 477).tdiv q := (q15 477 (by decide) (by decide) (by decide)).trans (w9.trans (by rw [f4]))
        refine mj_T.eq (pc2 := 79) (st2 := []) ?_ rfl rfl rfl rfl
        refine mj_T.iinc rfl rfl ?_
        rw [show ((i : Nat) : Int) + 1 = ((i + 1 : Nat) : Int) by omega]
        refine mj_T.eq (loc2 := [some (.ref 1), some (.ref 164), some (.long (jl y)), none, some (.int (jn t)), some (.int (jn ((i + 1 : Nat) : Int))), some (.long (jl q)), none]) ?_ rfl rfl rfl rfl
        refine mj_T.pl rfl rfl rfl rfl ?_
        refine mX_tq_loop hy ht k (i + 1) (by omega) (by omega) _ _ _ m16 (by rw [f15, jsg_tdivd (by omega) p3]; exact e1) ?_ (by rw [w15, f9]; exact d2)
        rw [f15]
        refine jnl_le_lt.mpr (Nat.lt_of_le_of_lt ?_ (jnl_le_lt.mp e2))
        rw [Int.natAbs_tdiv]
        exact Nat.div_le_self _ _
      · exfalso
        simp only [jc, Bool.not_eq_true', Bool.not_eq_false', decide_eq_true_eq, decide_eq_false_iff_not] at c12
        omega
theorem mX_tellQ (m : jM g n V X h) {w y : Int} (hw : V 164 = w) (hb : jnl w.natAbs ≤ 9) (hy : 1 ≤ y ∧ y ≤ 1000) {t : Int} (ht : -1 ≤ t ∧ t ≤ 12) : mj_Ok (D + 4) 159 [.ref 1, .ref 164, .long (jl y), .int (jn t)] h (fun z => z.1 = .inl (some (.int (jn (jsg w))))) := by
  obtain ⟨k7, k9, l8, l0⟩ := ck_47
  refine mj_Ok.of (M := mj_m159) rfl rfl rfl ?_
  refine mj_T.pl rfl rfl rfl rfl ?_
  refine mT_get m 19 cq_d1 (by decide) rfl rfl ?_
  refine mj_T.pl rfl rfl rfl rfl ?_
  refine mj_T.call rfl rfl (Nat.le_of_ble_eq_true rfl) (Nat.le_of_ble_eq_true rfl) (mV_of m 18 k7 (by decide) rfl (by decide) rfl _) rfl (mj_Ok.up (by omega) (mW_set (D := 0) m k7 cq_d164 (by decide) (by rw [l8, hw]; omega))) (fun v g1 hq => ?_) (fun i g1 hq => by obtain ⟨_, _, hq⟩ := hq; cases hq)
  obtain ⟨_, m3, hq⟩ := hq
  cases hq
  refine mj_T.eq (pc2 := 8) (st2 := []) ?_ rfl rfl rfl rfl
  refine mj_T.pl rfl rfl rfl rfl ?_
  refine mT_get m3 19 cq_d1 (by decide) rfl rfl ?_
  refine mj_T.pl rfl rfl rfl rfl ?_
  refine mj_T.eq (st2 := [.long (jl 1), .ref 479]) ?_ rfl rfl rfl rfl
  refine mj_T.call rfl rfl (Nat.le_of_ble_eq_true rfl) (Nat.le_of_ble_eq_true rfl) (mV_of m3 18 k9 (by decide) rfl (by decide) rfl _) rfl (mj_Ok.up (by omega) (mW_setLong (D := 0) (v := 1) m3 k9 ⟨by decide, by decide⟩ (by rw [l0]; exact jR_l10 ⟨by decide, by decide⟩))) (fun v g5 hq => ?_) (fun i g5 hq => by obtain ⟨_, _, hq⟩ := hq; cases hq)
  obtain ⟨_, m7, hq⟩ := hq
  cases hq
  have e1 : jvu (jvu V 477 (V 164)) 479 1 477 = w := (jvu_ne _ _ _ (by decide)).trans ((jvu_at _ _ _).trans hw)
  have e2 : jvu (jvu V 477 (V 164)) 479 1 479 = 1 := jvu_at _ _ _
  refine mj_T.eq (pc2 := 16) (st2 := []) ?_ rfl rfl rfl rfl
  refine mj_T.pl rfl rfl rfl rfl ?_
  refine mj_T.pl (loc' := [some (.ref 1), some (.ref 164), some (.long (jl y)), none, some (.int (jn t)), some (.int (jn ((0 : Nat) : Int))), none, none]) rfl rfl rfl rfl ?_
  exact mX_tq_loop hy ht 13 0 (by omega) (by decide) none _ _ m7 (by rw [e1]) (by rw [e1]; exact hb) (by rw [e2]; decide)
theorem cv_124 (A : AS N u H) (s : cC N u H h) {a : Int} (ra : -2147483648 ≤ a ∧ a ≤ 2147483647) {f1 : Int} (rf1 : -2147483648 ≤ f1 ∧ f1 ≤ 2147483647) {f2 : Int} (rf2 : -2147483648 ≤ f2 ∧ f2 ≤ 2147483647) : mj_Ok 59 124 [.ref 1, .int (jn a), .int (jn f1), .int (jn f2)] h (cA (fun k => if k = 0 then 1 else 2) (A_value N a f1 f2)) := by
  obtain ⟨V, X, m, b, d, c, jx⟩ := cS.nr A s
  have jx : rjR X := jx
  refine mj_Ok.of (M := mj_m124) rfl rfl rfl ?_
  iterate 2 refine mj_T.pl rfl rfl rfl rfl ?_
  refine mj_T.call rfl rfl (Nat.le_of_ble_eq_true rfl) (Nat.le_of_ble_eq_true rfl) (mV_of m 19 cq_d1 (by decide) rfl (by decide) rfl _) rfl (mj_Ok.up (by omega) (mC_rowOf (D := 0) m (i := a) (by omega))) (fun v g1 hq => ?_) (fun i g1 hq => ?_)
  rotate_left
  · rcases hq with ⟨_, hq⟩ | ⟨hn, hq⟩
    · cases hq
    · cases hq
      exact Or.inl ⟨rfl, fun z => an.n hn⟩
  rcases hq with ⟨ka, hq⟩ | ⟨_, hq⟩
  rotate_left
  · cases hq
  cases hq
  refine mj_T.eq (pc2 := 5) (st2 := [.ref (4 + a.toNat)]) ?_ rfl rfl rfl rfl
  refine mj_T.pl (loc' := [some (.ref 1), some (.int (jn a)), some (.int (jn f1)), some (.int (jn f2)), some (.ref (4 + a.toNat))]) rfl rfl rfl rfl ?_
  iterate 2 refine mj_T.pl rfl rfl rfl rfl ?_
  refine mj_T.call rfl rfl (Nat.le_of_ble_eq_true rfl) (Nat.le_of_ble_eq_true rfl) rfl rfl (mj_Ok.up (by omega) (mC_fraction (D := 0) (i := f1) (j := f2) (by omega) (by omega))) (fun v g2 hq => ?_) (fun i g2 hq => ?_)
  rotate_left
  · rcases hq with ⟨_, hq⟩ | ⟨hn, hq⟩
    · cases hq
    · cases hq
      exact Or.inl ⟨rfl, fun z => an.y ka (an.n hn)⟩
  rcases hq with ⟨kf, hq⟩ | ⟨_, hq⟩
  rotate_left
  · cases hq
  cases hq
  refine mj_T.eq (pc2 := 12) (st2 := []) ?_ rfl rfl rfl rfl
  refine mj_T.pl rfl rfl rfl rfl ?_
  refine mT_get m 19 cq_d1 (by decide) rfl rfl ?_
  iterate 3 refine mj_T.pl rfl rfl rfl rfl ?_
  refine mj_T.call rfl rfl (Nat.le_of_ble_eq_true rfl) (Nat.le_of_ble_eq_true rfl) (mV_of m 11 cq_d19 (by decide) rfl (by decide) rfl _) rfl (mj_Ok.up (by omega) (mD_value (D := 0) m (mK_rt a.toNat (by omega)) (fun i hi => by have := c.sm A.1 ka i hi; omega) (x := f1) (y := f2) (by omega) kf.2)) (fun v g3 hq => ?_) (fun i g3 hq => ?_)
  rotate_left
  · obtain ⟨_, _, _, _, hq⟩ := hq; cases hq
  obtain ⟨V4, _, m5, w4, hq⟩ := hq
  cases hq
  have hj4 := jsg_range (vlz (X (4 + a.toNat)) f1 f2)
  refine mj_T.eq (pc2 := 23) (st2 := [.int (jn (jsg (vlz (X (4 + a.toNat)) f1 f2)))]) ?_ rfl rfl rfl rfl
  iterate 3 refine mj_T.pl rfl rfl rfl rfl ?_
  refine mT_get m5 19 cq_d1 (by decide) rfl rfl ?_
  refine mT_get m5 11 cq_d19 (by decide) rfl rfl ?_
  refine mj_T.pl rfl rfl rfl rfl ?_
  refine mj_T.i2l rfl ⟨by omega, by omega⟩ ?_
  refine mj_T.pl rfl rfl rfl rfl ?_
  refine mj_T.call rfl rfl (Nat.le_of_ble_eq_true rfl) (Nat.le_of_ble_eq_true rfl) rfl rfl (mj_Ok.up (by omega) (mS_deg (D := 0) m5 (mK_rt a.toNat (by omega)) ((c.sb ((sBn.rf X).tr (sBn.deg cq_d80))).sm A.1 ka))) (fun v g6 hq => ?_) (fun i g6 hq => ?_)
  rotate_left
  · cases hq
  cases hq
  have ga := fdg_le ((xup X 80 2 ((fdg (X (4 + a.toNat)) 13 : Int) - 1)) (4 + a.toNat)) 13
  refine mj_T.eq (pc2 := 39) (st2 := [.int (jn (((fdg ((xup X 80 2 ((fdg (X (4 + a.toNat)) 13 : Int) - 1)) (4 + a.toNat)) 13) : Int) - 1)), .long (jl f2), .ref 164, .ref 1]) ?_ rfl rfl rfl rfl
  refine mj_T.call rfl rfl (Nat.le_of_ble_eq_true rfl) (Nat.le_of_ble_eq_true rfl) (mV_of m5 19 cq_d1 (by decide) rfl (by decide) rfl _) rfl (mj_Ok.up (by omega) (mX_tellQ (D := 0) m5 w4 (vlz_9 (fun e he => by have := c.sm A.1 ka e he; omega) (by omega) (by omega)) kf.2 (t := (((fdg ((xup X 80 2 ((fdg (X (4 + a.toNat)) 13 : Int) - 1)) (4 + a.toNat)) 13) : Int) - 1)) ⟨by omega, by omega⟩)) (fun v g7 hq => ?_) (fun i g7 hq => ?_)
  rotate_left
  · cases hq
  have hq : (Sum.inl v : Option Value ⊕ Nat) = .inl (some (.int (jn (jsg (vlz (X (4 + a.toNat)) f1 f2))))) := hq
  cases hq
  refine mj_T.eq (pc2 := 42) (st2 := [.int (jn (jsg (vlz (X (4 + a.toNat)) f1 f2)))]) ?_ rfl rfl rfl rfl
  exact mj_T.ret rfl rfl rfl ⟨_, ⟨by omega, by omega⟩, rfl, an.y ka (an.y kf (an.e (congrArg jsg (vlz_cg (c.rw ka)))))⟩
end MVW
section RVW
variable {D : Nat} {hp h : mj_H} {q0 q1 q2 q3 : Nat} {fs : List Value} {V : Nat → Int} {p : Nat}
theorem jx_va (G : jG hp q0 q1 q2 q3 fs) (hpp : p ≤ 49) {C x d : Nat} {c : Int} (hd : d ≤ 12) (hC : ∀ e, e < 13 → (V (p * 13 + e)).natAbs ≤ C) (hK : (V 656).natAbs ≤ x) (hN : (V 657).natAbs ≤ x) (hx : 1 ≤ x) (hfit : 13 * (C * x ^ 12) < jB ^ 698) (hfit2 : x ^ 12 < jB ^ 698) {Q : mj_R → Prop}
    (hend : ∀ (W : Nat → Int) (h : mj_H), jS hp q1 q2 q3 W h → (∀ s, s ≠ 652 → s ≠ 659 → s ≠ 660 → W s = V s) → (W 659).natAbs ≤ 13 * (C * x ^ 12) → (W 660).natAbs ≤ x ^ 12 → (V 657 ≠ 0 → W 660 ≠ 0) → W 659 = c → Q (.inl (some (.int (jn (jsg (W 659))))), h)) :
    ∀ (m n : Nat) (W : Nat → Int) (h : mj_H), n + m = d → jS hp q1 q2 q3 W h → (∀ s, s ≠ 652 → s ≠ 659 → s ≠ 660 → W s = V s) → (W 659).natAbs ≤ (n + 1) * (C * x ^ n) → (W 660).natAbs ≤ x ^ n → (V 657 ≠ 0 → W 660 ≠ 0) → hvz (fun e => V (p * 13 + e)) (V 656) (V 657) m (W 659) (W 660) = c → mj_T (D + 4) mj_m215 44 [some (.ref q0), some (.int (jn (p : Nat))), some (.int (jn (d : Nat))), some (.int (jn ((m : Nat) - 1 : Int)))] [] h Q := by
  have mono : ∀ n, n ≤ 12 → x ^ n ≤ x ^ 12 := fun n hn => Nat.pow_le_pow_right hx hn
  have monoC : ∀ k n, k ≤ 13 → n ≤ 12 → k * (C * x ^ n) ≤ 13 * (C * x ^ 12) := fun k n hk hn => Nat.mul_le_mul hk (Nat.mul_le_mul_left _ (mono n hn))
  intro m
  induction m with
  | zero =>
    intro n W h hn hs hf h1 h2 h3 hz9
    refine mj_T.pl rfl rfl rfl rfl ?_
    refine mj_T.if0 (a := ((0 : Nat) : Int) - 1) rfl ⟨by decide, by decide⟩ (fun hc => ?_) (fun hc => ?_)
    · iterate 2 refine mj_T.pl rfl rfl rfl rfl ?_
      refine mj_T.call (ins := .invokevirtual 68) rfl rfl (Nat.le_of_ble_eq_true rfl) (Nat.le_of_ble_eq_true rfl) (by simp [mj_recv, jS_a G hs]) rfl (jS_sign (D := D + 3) G (s := 659) (by decide) hs) (fun v' h' hq' => ?_) (fun i h' hq' => by cases hq')
      cases hq'
      exact mj_T.ret rfl rfl rfl (hend W h hs hf (Nat.le_trans h1 (monoC _ _ (by omega) (by omega))) (Nat.le_trans h2 (mono _ (by omega))) h3 hz9)
    · simp [jc] at hc
  | succ m ih =>
    intro n W h hn hs hf h1 h2 h3 hz9
    have q2 : (W 660 * W 657).natAbs ≤ x ^ (n + 1) := by
      rw [Int.natAbs_mul, Nat.pow_succ, hf 657 (by decide) (by decide) (by decide)]
      exact Nat.mul_le_mul h2 hN
    have q3 : V 657 ≠ 0 → W 660 * W 657 ≠ 0 := fun hz e => by
      rcases Int.mul_eq_zero.mp e with e | e
      · exact h3 hz e
      · rw [hf 657 (by decide) (by decide) (by decide)] at e
        exact hz e
    obtain ⟨s1, s2, s3⟩ := jva_step h1 hK (hC m (by omega)) _ q2
    refine mj_T.pl rfl rfl rfl rfl ?_
    refine mj_T.if0 (a := ((m + 1 : Nat) : Int) - 1) rfl ⟨by omega, by omega⟩ (fun hc => ?_) (fun hc => ?_)
    · simp only [jc, decide_eq_true_eq] at hc
      omega
    rw [show ((m + 1 : Nat) : Int) - 1 = (m : Int) by omega]
    iterate 4 refine mj_T.pl rfl rfl rfl rfl ?_
    refine mj_T.call (ins := .invokevirtual 117) rfl rfl (Nat.le_of_ble_eq_true rfl) (Nat.le_of_ble_eq_true rfl) (by simp [mj_recv, jS_a G hs]) rfl (jS_mul (D := D + 2) (V := W) G (to := 660) (a := 660) (b := 657) (by decide) (by decide) (by decide) (jnl_of_lt (Nat.le_trans q2 (mono _ (by omega))) hfit2) hs) (fun v' h1 hq' => ?_) (fun i h' hq' => by obtain ⟨_, _, h⟩ := hq'; cases h)
    obtain ⟨_, hs1, hq'⟩ := hq'
    cases hq'
    have a1 : jvu W 660 (W 660 * W 657) 660 = W 660 * W 657 := jvu_at _ _ _
    have a2 : ∀ s, s ≠ 660 → jvu W 660 (W 660 * W 657) s = W s := fun s hne => jvu_ne _ _ _ hne
    generalize jvu W 660 (W 660 * W 657) = W1 at hs1 a1 a2
    iterate 4 refine mj_T.pl rfl rfl rfl rfl ?_
    refine mj_T.call (ins := .invokevirtual 117) rfl rfl (Nat.le_of_ble_eq_true rfl) (Nat.le_of_ble_eq_true rfl) (by simp [mj_recv, jS_a G hs1]) rfl (jS_mul (D := D + 2) (V := W1) G (to := 659) (a := 659) (b := 656) (by decide) (by decide) (by decide) (jnl_of_lt (M := 13 * (C * x ^ 12)) (by rw [a2 659 (by decide), a2 656 (by decide), hf 656 (by decide) (by decide) (by decide)]; exact Nat.le_trans s1 (monoC _ _ (by omega) (by omega))) hfit) hs1) (fun v' h2 hq' => ?_) (fun i h' hq' => by obtain ⟨_, _, h⟩ := hq'; cases h)
    obtain ⟨_, hs2, hq'⟩ := hq'
    cases hq'
    have b1 : jvu W1 659 (W1 659 * W1 656) 659 = W1 659 * W1 656 := jvu_at _ _ _
    have b2 : ∀ s, s ≠ 659 → jvu W1 659 (W1 659 * W1 656) s = W1 s := fun s hne => jvu_ne _ _ _ hne
    generalize jvu W1 659 (W1 659 * W1 656) = W2 at hs2 b1 b2
    iterate 4 refine mj_T.pl rfl rfl rfl rfl ?_
    refine mj_T.call (ins := .invokestatic 104) rfl rfl (Nat.le_of_ble_eq_true rfl) (Nat.le_of_ble_eq_true rfl) rfl rfl (jq_slot (D := D + 3) (p := p) (i := m)) (fun v' h' hq' => ?_) (fun i h' hq' => by cases hq')
    cases hq'
    refine mj_T.pl rfl rfl rfl rfl ?_
    have vm : W2 (p * 13 + m) = V (p * 13 + m) := by rw [b2 _ (by omega), a2 _ (by omega), hf _ (by omega) (by omega) (by omega)]
    have v6 : W2 660 = W 660 * W 657 := by rw [b2 _ (by decide), a1]
    refine mj_T.call (ins := .invokevirtual 117) rfl rfl (Nat.le_of_ble_eq_true rfl) (Nat.le_of_ble_eq_true rfl) (by simp [mj_recv, jS_a G hs2]) rfl (jS_mul (D := D + 2) (V := W2) G (to := 652) (a := p * 13 + m) (b := 660) (by decide) (by omega) (by decide) (jnl_of_lt (M := 13 * (C * x ^ 12)) (by rw [vm, v6]; exact Nat.le_trans (by rw [Nat.one_mul]; exact s2) (monoC 1 (n + 1) (by omega) (by omega))) hfit) hs2) (fun v' h3 hq' => ?_) (fun i h' hq' => by obtain ⟨_, _, h⟩ := hq'; cases h)
    obtain ⟨_, hs3, hq'⟩ := hq'
    cases hq'
    have c1 : jvu W2 652 (W2 (p * 13 + m) * W2 660) 652 = W2 (p * 13 + m) * W2 660 := jvu_at _ _ _
    have c2 : ∀ s, s ≠ 652 → jvu W2 652 (W2 (p * 13 + m) * W2 660) s = W2 s := fun s hne => jvu_ne _ _ _ hne
    generalize jvu W2 652 (W2 (p * 13 + m) * W2 660) = W3 at hs3 c1 c2
    have v7 : W3 659 + 1 * W3 652 = W 659 * V 656 + V (p * 13 + m) * (W 660 * W 657) := by
      rw [c1, c2 _ (by decide), b1, vm, v6, a2 _ (by decide), a2 _ (by decide), hf 656 (by decide) (by decide) (by decide), Int.one_mul]
    iterate 5 refine mj_T.pl rfl rfl rfl rfl ?_
    refine mj_T.call (ins := .invokevirtual 107) rfl rfl (Nat.le_of_ble_eq_true rfl) (Nat.le_of_ble_eq_true rfl) (by simp [mj_recv, jS_a G hs3]) rfl (jS_adds (D := D) (V := W3) G (to := 659) (a := 659) (b := 652) (f := 1) (by decide) (by decide) (by decide) (Or.inl rfl) (jnl_of_lt (M := 13 * (C * x ^ 12)) (by rw [v7]; exact Nat.le_trans s3 (monoC _ _ (by omega) (by omega))) hfit) hs3) (fun v' h4 hq' => ?_) (fun i h' hq' => by obtain ⟨_, _, h⟩ := hq'; cases h)
    obtain ⟨_, hs4, hq'⟩ := hq'
    cases hq'
    have d1 : jvu W3 659 (W3 659 + 1 * W3 652) 659 = W3 659 + 1 * W3 652 := jvu_at _ _ _
    have d2 : ∀ s, s ≠ 659 → jvu W3 659 (W3 659 + 1 * W3 652) s = W3 s := fun s hne => jvu_ne _ _ _ hne
    generalize jvu W3 659 (W3 659 + 1 * W3 652) = W4 at hs4 d1 d2
    refine mj_T.iinc (a := (m : Int)) rfl rfl ?_
    refine mj_T.pl rfl rfl rfl rfl ?_
    have v8 : W4 660 = W 660 * W 657 := by rw [d2 _ (by decide), c2 _ (by decide), v6]
    exact ih (n + 1) W4 h4 (by omega) hs4 (fun s x1 x2 x3 => by rw [d2 s x2, c2 s x1, b2 s x2, a2 s x3, hf s x1 x2 x3]) (by rw [d1, v7]; exact s3) (by rw [v8]; exact q2) (fun hz => by rw [v8]; exact q3 hz) (by rw [d1, v7, v8, hf 657 (by decide) (by decide) (by decide)]; exact hz9)
theorem jx_valueAt (G : jG hp q0 q1 q2 q3 fs) (hpp : p ≤ 49) {C x : Nat} (hC : ∀ e, e < 13 → (V (p * 13 + e)).natAbs ≤ C) (hK : (V 656).natAbs ≤ x) (hN : (V 657).natAbs ≤ x) (hx : 1 ≤ x) (hfit : 13 * (C * x ^ 12) < jB ^ 698) (hfit2 : x ^ 12 < jB ^ 698) (hs : jS hp q1 q2 q3 V h) :
    mj_Ok (D + 5) 215 [.ref q0, .int (jn (p : Nat))] h (fun r => ∃ (W : Nat → Int) (h' : mj_H), jS hp q1 q2 q3 W h' ∧ (∀ s, s ≠ 652 → s ≠ 659 → s ≠ 660 → W s = V s) ∧ (W 659).natAbs ≤ 13 * (C * x ^ 12) ∧ (W 660).natAbs ≤ x ^ 12 ∧ (V 657 ≠ 0 → W 660 ≠ 0) ∧ W 659 = vlz (fun e => V (p * 13 + e)) (V 656) (V 657) ∧ r = (.inl (some (.int (jn (jsg (W 659))))), h')) := by
  have hdl := jdg_le V p 13
  refine mj_Ok.of (M := mj_m215) rfl rfl rfl ?_
  iterate 2 refine mj_T.pl rfl rfl rfl rfl ?_
  refine mj_T.call (ins := .invokevirtual 114) rfl rfl (Nat.le_of_ble_eq_true rfl) (Nat.le_of_ble_eq_true rfl) (by simp [mj_recv, jS_a G hs]) rfl (jp_degreeOf (D := D + 2) G (p := p) (by omega) hs) (fun v' h' hq' => ?_) (fun i h' hq' => by cases hq')
  cases hq'
  iterate 4 refine mj_T.pl rfl rfl rfl rfl ?_
  refine mj_T.call (ins := .invokevirtual 45) rfl rfl (Nat.le_of_ble_eq_true rfl) (Nat.le_of_ble_eq_true rfl) (by simp [mj_recv, jS_a G hs]) rfl (jS_sets (D := D + 3) G (s := 659) (v := 0) (by decide) ⟨by decide, by decide⟩ hs) (fun v' h1 hq' => ?_) (fun i h' hq' => by obtain ⟨_, _, h⟩ := hq'; cases h)
  obtain ⟨_, hs1, hq'⟩ := hq'
  cases hq'
  have a1 : jvu V 659 (0) 659 = 0 := jvu_at _ _ _
  have a2 : ∀ s, s ≠ 659 → jvu V 659 (0) s = V s := fun s hne => jvu_ne _ _ _ hne
  generalize jvu V 659 (0) = W1 at hs1 a1 a2
  iterate 3 refine mj_T.pl rfl rfl rfl rfl ?_
  refine mj_T.call (ins := .invokevirtual 45) rfl rfl (Nat.le_of_ble_eq_true rfl) (Nat.le_of_ble_eq_true rfl) (by simp [mj_recv, jS_a G hs1]) rfl (jS_sets (D := D + 3) G (s := 660) (v := 1) (by decide) ⟨by decide, by decide⟩ hs1) (fun v' h2 hq' => ?_) (fun i h' hq' => by obtain ⟨_, _, h⟩ := hq'; cases h)
  obtain ⟨_, hs2, hq'⟩ := hq'
  cases hq'
  have b1 : jvu W1 660 (1) 660 = 1 := jvu_at _ _ _
  have b2 : ∀ s, s ≠ 660 → jvu W1 660 (1) s = W1 s := fun s hne => jvu_ne _ _ _ hne
  generalize jvu W1 660 (1) = W2 at hs2 b1 b2
  have hx12 : 1 ≤ x ^ 12 := Nat.pow_le_pow_left hx 12
  refine mj_T.pl rfl rfl rfl rfl ?_
  refine mj_T.if0 (a := (jdg V p 13 : Int) - 1) rfl ⟨by omega, by omega⟩ (fun hc => ?_) (fun hc => ?_)
  · simp only [jc, decide_eq_true_eq] at hc
    obtain ⟨d, hd⟩ : ∃ d, jdg V p 13 = d + 1 := ⟨jdg V p 13 - 1, by omega⟩
    rw [hd, show ((d + 1 : Nat) : Int) - 1 = (d : Int) by omega]
    iterate 4 refine mj_T.pl rfl rfl rfl rfl ?_
    refine mj_T.call (ins := .invokestatic 104) rfl rfl (Nat.le_of_ble_eq_true rfl) (Nat.le_of_ble_eq_true rfl) rfl rfl (jq_slot (D := D + 3) (p := p) (i := d)) (fun v' h' hq' => ?_) (fun i h' hq' => by cases hq')
    cases hq'
    refine mj_T.call (ins := .invokevirtual 84) rfl rfl (Nat.le_of_ble_eq_true rfl) (Nat.le_of_ble_eq_true rfl) (by simp [mj_recv, jS_a G hs2]) rfl (jS_copies (D := D + 2) G (to := 659) (s := p * 13 + d) (by decide) (by omega) hs2) (fun v' h3 hq' => ?_) (fun i h' hq' => by obtain ⟨_, _, h⟩ := hq'; cases h)
    obtain ⟨_, hs3, hq'⟩ := hq'
    cases hq'
    have c1 : jvu W2 659 (W2 (p * 13 + d)) 659 = W2 (p * 13 + d) := jvu_at _ _ _
    have c2 : ∀ s, s ≠ 659 → jvu W2 659 (W2 (p * 13 + d)) s = W2 s := fun s hne => jvu_ne _ _ _ hne
    generalize jvu W2 659 (W2 (p * 13 + d)) = W3 at hs3 c1 c2
    iterate 2 refine mj_T.pl rfl rfl rfl rfl ?_
    refine mj_T.isub (b := 1) rfl ?_
    refine mj_T.pl rfl rfl rfl rfl ?_
    have v0 : W2 (p * 13 + d) = V (p * 13 + d) := by rw [b2 _ (by omega), a2 _ (by omega)]
    refine jx_va (D := D) (V := V) (p := p) (c := vlz (fun e => V (p * 13 + e)) (V 656) (V 657)) G hpp (C := C) (x := x) (d := d) (by omega) hC hK hN hx hfit hfit2 (fun W h k1 k2 k3 k4 k5 k6 => ⟨W, h, k1, k2, k3, k4, k5, k6, rfl⟩) d 0 W3 h3 (by omega) hs3 (fun s x1 x2 x3 => by rw [c2 s x2, b2 s x3, a2 s x2]) ?_ ?_ ?_ ?_
    · rw [c1, v0, Nat.pow_zero, Nat.mul_one, Nat.zero_add, Nat.one_mul]
      exact hC d (by omega)
    · rw [c2 _ (by decide), b1]
      exact Nat.le_refl _
    · rw [c2 _ (by decide), b1]
      exact fun _ => by decide
    · rw [c1, v0, c2 660 (by decide), b1]
      exact (vlz_hvz ((fdg_jdg V p 13).trans hd)).symm
  · simp only [jc, decide_eq_false_iff_not] at hc
    refine mj_T.pl rfl rfl rfl rfl ?_
    have v0 : W2 659 = 0 := by rw [b2 _ (by decide), a1]
    refine mj_T.ret rfl rfl rfl ⟨W2, h2, hs2, fun s x1 x2 x3 => by rw [b2 s x3, a2 s x2], by rw [v0]; exact Nat.zero_le _, by rw [b1]; exact hx12, fun _ => by rw [b1]; decide, by rw [v0]; exact (vlz_0 ((fdg_jdg V p 13).trans (by omega))).symm, ?_⟩
    rw [v0]
    rfl
theorem jx_tells (G : jG hp q0 q1 q2 q3 fs) {i j : Nat} (hi : 652 ≤ i ∧ i ≤ 662) (hj : 652 ≤ j ∧ j ≤ 662) (hi2 : i ≠ 653 ∧ i ≠ 655) (hj2 : j ≠ 653 ∧ j ≠ 655) (hV : V j ≠ 0) (hs : jS hp q1 q2 q3 V h) :
    mj_Ok (D + 6) 221 [.ref q0, .int (jn (i : Nat)), .int (jn (j : Nat))] h (fun r => ∃ (W : Nat → Int) (h' : mj_H), jS hp q1 q2 q3 W h' ∧ (∀ s, s ≠ 650 → s ≠ 651 → s ≠ 653 → s ≠ 655 → s ≠ 663 → s ≠ 664 → W s = V s) ∧ (W 650).natAbs ≤ (V i).natAbs ∧ (W 651).natAbs ≤ (V j).natAbs ∧ jsg (W 650) = jsg (V i) ∧ r = (.inl (some (.int (jn (jsg (W 650))))), h')) := by
  refine mj_Ok.of (M := mj_m221) rfl rfl rfl ?_
  iterate 4 refine mj_T.pl rfl rfl rfl rfl ?_
  refine mj_T.call (ins := .invokevirtual 127) rfl rfl (Nat.le_of_ble_eq_true rfl) (Nat.le_of_ble_eq_true rfl) (by simp [mj_recv, jS_a G hs]) rfl (jp_commons (D := D) (V := V) G (to := 653) (i := i) (j := j) (by decide) (by omega) (by omega) (by decide) (by decide) (by decide) (by omega) hs) (fun v' h1 hq' => ?_) (fun i h' hq' => by obtain ⟨_, _, _, _, _, h⟩ := hq'; cases h)
  obtain ⟨W1, _, hs1, k1, k2, hq'⟩ := hq'
  cases hq'
  have g0 : W1 653 ≠ 0 := by
    rw [k1]
    have : 0 < Nat.gcd (V i).natAbs (V j).natAbs := Nat.gcd_pos_of_pos_right _ (by omega)
    omega
  iterate 3 refine mj_T.pl rfl rfl rfl rfl ?_
  refine mj_T.call (ins := .invokevirtual 84) rfl rfl (Nat.le_of_ble_eq_true rfl) (Nat.le_of_ble_eq_true rfl) (by simp [mj_recv, jS_a G hs1]) rfl (jS_copies (D := D + 3) G (to := 650) (s := i) (by decide) (by omega) hs1) (fun v' h2 hq' => ?_) (fun i h' hq' => by obtain ⟨_, _, h⟩ := hq'; cases h)
  obtain ⟨_, hs2, hq'⟩ := hq'
  cases hq'
  have a1 : jvu W1 650 (W1 i) 650 = W1 i := jvu_at _ _ _
  have a2 : ∀ s, s ≠ 650 → jvu W1 650 (W1 i) s = W1 s := fun s hne => jvu_ne _ _ _ hne
  generalize jvu W1 650 (W1 i) = W2 at hs2 a1 a2
  iterate 3 refine mj_T.pl rfl rfl rfl rfl ?_
  refine mj_T.call (ins := .invokevirtual 84) rfl rfl (Nat.le_of_ble_eq_true rfl) (Nat.le_of_ble_eq_true rfl) (by simp [mj_recv, jS_a G hs2]) rfl (jS_copies (D := D + 3) G (to := 651) (s := j) (by decide) (by omega) hs2) (fun v' h3 hq' => ?_) (fun i h' hq' => by obtain ⟨_, _, h⟩ := hq'; cases h)
  obtain ⟨_, hs3, hq'⟩ := hq'
  cases hq'
  have b1 : jvu W2 651 (W2 j) 651 = W2 j := jvu_at _ _ _
  have b2 : ∀ s, s ≠ 651 → jvu W2 651 (W2 j) s = W2 s := fun s hne => jvu_ne _ _ _ hne
  generalize jvu W2 651 (W2 j) = W3 at hs3 b1 b2
  iterate 2 refine mj_T.pl rfl rfl rfl rfl ?_
  refine mj_T.call (ins := .invokevirtual 68) rfl rfl (Nat.le_of_ble_eq_true rfl) (Nat.le_of_ble_eq_true rfl) (by simp [mj_recv, jS_a G hs3]) rfl (jS_sign (D := D + 4) G (s := 650) (by decide) hs3) (fun v' h' hq' => ?_) (fun i h' hq' => by cases hq')
  cases hq'
  have u1 : (W3 650).natAbs ≤ (V i).natAbs := by rw [b2 650 (by decide), a1, k2 i (by omega) (by omega) (by omega) (by omega)]; exact Nat.le_refl _
  have u2 : (W3 651).natAbs ≤ (V j).natAbs := by rw [b1, a2 j (by omega), k2 j (by omega) (by omega) (by omega) (by omega)]; exact Nat.le_refl _
  have u3 : W3 653 = W1 653 := by rw [b2 653 (by decide), a2 653 (by decide)]
  have u4 : ∀ s, s ≠ 650 → s ≠ 651 → s ≠ 653 → s ≠ 655 → s ≠ 663 → s ≠ 664 → W3 s = V s := fun s x1 x2 x3 x4 x5 x6 => by rw [b2 s x2, a2 s x1, k2 s x3 x4 x5 x6]
  have u0 : W3 650 = V i := by rw [b2 650 (by decide), a1, k2 i (by omega) (by omega) (by omega) (by omega)]
  have g1 : 0 < W1 653 := by
    rw [k1]
    have : 0 < Nat.gcd (V i).natAbs (V j).natAbs := Nat.gcd_pos_of_pos_right _ (by omega)
    omega
  have g2 : W1 653 ∣ V i := by
    rw [k1]
    exact Int.ofNat_dvd_left.mpr (Nat.gcd_dvd_left _ _)
  have t45 : ∀ (W4 : Nat → Int) (h4 : mj_H), jS hp q1 q2 q3 W4 h4 → (∀ s, s ≠ 650 → s ≠ 663 → s ≠ 664 → W4 s = W3 s) → (W4 650).natAbs ≤ (V i).natAbs → jsg (W4 650) = jsg (V i) → mj_T (D + 5) mj_m221 45 [some (.ref q0), some (.int (jn (i : Nat))), some (.int (jn (j : Nat)))] [] h4 (fun r => ∃ (W : Nat → Int) (h' : mj_H), jS hp q1 q2 q3 W h' ∧ (∀ s, s ≠ 650 → s ≠ 651 → s ≠ 653 → s ≠ 655 → s ≠ 663 → s ≠ 664 → W s = V s) ∧ (W 650).natAbs ≤ (V i).natAbs ∧ (W 651).natAbs ≤ (V j).natAbs ∧ jsg (W 650) = jsg (V i) ∧ r = (.inl (some (.int (jn (jsg (W 650))))), h')) := by
    intro W4 h4 hs4 y1 y2 y3
    iterate 3 refine mj_T.pl rfl rfl rfl rfl ?_
    refine mj_T.call (ins := .invokevirtual 133) rfl rfl (Nat.le_of_ble_eq_true rfl) (Nat.le_of_ble_eq_true rfl) (by simp [mj_recv, jS_a G hs4]) rfl (jp_exact (D := D) (V := W4) G (i := 651) (j := 653) (by decide) (by decide) (by decide) (by decide) (by decide) (by decide) (by rw [y1 653 (by decide) (by decide) (by decide), u3]; exact g0) hs4) (fun v' h5 hq' => ?_) (fun i h' hq' => by obtain ⟨_, _, _, _, _, h⟩ := hq'; cases h)
    obtain ⟨W5, _, hs5, z1, z2, hq'⟩ := hq'
    cases hq'
    iterate 2 refine mj_T.pl rfl rfl rfl rfl ?_
    refine mj_T.call (ins := .invokevirtual 68) rfl rfl (Nat.le_of_ble_eq_true rfl) (Nat.le_of_ble_eq_true rfl) (by simp [mj_recv, jS_a G hs5]) rfl (jS_sign (D := D + 4) G (s := 650) (by decide) hs5) (fun v' h' hq' => ?_) (fun i h' hq' => by cases hq')
    cases hq'
    refine mj_T.ret rfl rfl rfl ⟨W5, h5, hs5, fun s x1 x2 x3 x4 x5 x6 => by rw [z2 s x2 x5 x6, y1 s x1 x5 x6, u4 s x1 x2 x3 x4 x5 x6], by rw [z2 650 (by decide) (by decide) (by decide)]; exact y2, ?_, by rw [z2 650 (by decide) (by decide) (by decide)]; exact y3, rfl⟩
    rw [z1, Int.natAbs_tdiv, y1 651 (by decide) (by decide) (by decide)]
    exact Nat.le_trans (Nat.div_le_self _ _) u2
  have hsr := jsg_range (W3 650)
  refine mj_T.if0 (a := jsg (W3 650)) rfl ⟨by omega, by omega⟩ (fun hc => ?_) (fun hc => ?_)
  · exact t45 W3 h3 hs3 (fun s _ _ _ => rfl) u1 (by rw [u0])
  iterate 3 refine mj_T.pl rfl rfl rfl rfl ?_
  refine mj_T.call (ins := .invokevirtual 133) rfl rfl (Nat.le_of_ble_eq_true rfl) (Nat.le_of_ble_eq_true rfl) (by simp [mj_recv, jS_a G hs3]) rfl (jp_exact (D := D) (V := W3) G (i := 650) (j := 653) (by decide) (by decide) (by decide) (by decide) (by decide) (by decide) (by rw [u3]; exact g0) hs3) (fun v' h4 hq' => ?_) (fun i h' hq' => by obtain ⟨_, _, _, _, _, h⟩ := hq'; cases h)
  obtain ⟨W4, _, hs4, z1, z2, hq'⟩ := hq'
  cases hq'
  exact t45 W4 h4 hs4 z2 (by rw [z1, Int.natAbs_tdiv]; exact Nat.le_trans (Nat.div_le_self _ _) u1) (by rw [z1, u3, u0]; exact jsg_tdivd g1 g2)
end RVW
section RVX
variable {h : mj_H} {tm er : Int} {T : Nat → Int} {N0 : Nat → Int} {u0 : Nat} {H : Nat → Nat → Int}
theorem ra_isFraction {x y : Int} (hx : jr x) (hy : jr y) : mj_Ok 39 259 [.int (jn x), .int (jn y)] h (fun r => ((-1000 ≤ x ∧ x ≤ 1000) ∧ (1 ≤ y ∧ y ≤ 1000) ∧ r = (.inl (some (.int (jn 1))), h)) ∨ (¬ ((-1000 ≤ x ∧ x ≤ 1000) ∧ (1 ≤ y ∧ y ≤ 1000)) ∧ r = (.inl (some (.int (jn 0))), h))) := by
  refine mj_Ok.of (M := mj_m259) rfl rfl rfl ?_
  have t30 : ¬ ((-1000 ≤ x ∧ x ≤ 1000) ∧ (1 ≤ y ∧ y ≤ 1000)) → mj_T 38 mj_m259 30 [some (.int (jn x)), some (.int (jn y))] [] h (fun r => ((-1000 ≤ x ∧ x ≤ 1000) ∧ (1 ≤ y ∧ y ≤ 1000) ∧ r = (.inl (some (.int (jn 1))), h)) ∨ (¬ ((-1000 ≤ x ∧ x ≤ 1000) ∧ (1 ≤ y ∧ y ≤ 1000)) ∧ r = (.inl (some (.int (jn 0))), h))) := by
    intro hno
    refine mj_T.pl rfl rfl rfl rfl ?_
    exact mj_T.ret rfl rfl rfl (Or.inr ⟨hno, rfl⟩)
  refine mj_T.pl rfl rfl rfl rfl ?_
  refine mj_T.i2l rfl hx ?_
  iterate 2 refine mj_T.pl rfl rfl rfl rfl ?_
  refine mj_T.call (ins := .invokestatic 177) rfl rfl (Nat.le_of_ble_eq_true rfl) (Nat.le_of_ble_eq_true rfl) rfl rfl (mj_Ok.up (by decide) (rp_in (D := 0) (v := x) (lo := -1000) (hi := 1000) ⟨by have := hx.1; omega, by have := hx.2; omega⟩ ⟨by decide, by decide⟩ ⟨by decide, by decide⟩)) (fun v' h' hq' => ?_) (fun i h' hq' => by rcases hq' with ⟨_, _, h⟩ | ⟨_, h⟩ <;> cases h)
  rcases hq' with ⟨x1, x2, hq'⟩ | ⟨cn, hq'⟩
  case' inr =>
    cases hq'
    refine mj_T.if0 (a := 0) rfl ⟨by decide, by decide⟩ (fun hc => ?_) (fun hc => ?_)
    · exact t30 (by omega)
    · simp [jc] at hc
  cases hq'
  refine mj_T.if0 (a := 1) rfl ⟨by decide, by decide⟩ (fun hc => ?_) (fun hc => ?_)
  · simp [jc] at hc
  refine mj_T.pl rfl rfl rfl rfl ?_
  refine mj_T.i2l rfl hy ?_
  iterate 2 refine mj_T.pl rfl rfl rfl rfl ?_
  refine mj_T.call (ins := .invokestatic 177) rfl rfl (Nat.le_of_ble_eq_true rfl) (Nat.le_of_ble_eq_true rfl) rfl rfl (mj_Ok.up (by decide) (rp_in (D := 0) (v := y) (lo := 1) (hi := 1000) ⟨by have := hy.1; omega, by have := hy.2; omega⟩ ⟨by decide, by decide⟩ ⟨by decide, by decide⟩)) (fun v' h' hq' => ?_) (fun i h' hq' => by rcases hq' with ⟨_, _, h⟩ | ⟨_, h⟩ <;> cases h)
  rcases hq' with ⟨y1, y2, hq'⟩ | ⟨cn, hq'⟩
  case' inr =>
    cases hq'
    refine mj_T.if0 (a := 0) rfl ⟨by decide, by decide⟩ (fun hc => ?_) (fun hc => ?_)
    · exact t30 (by omega)
    · simp [jc] at hc
  cases hq'
  refine mj_T.if0 (a := 1) rfl ⟨by decide, by decide⟩ (fun hc => ?_) (fun hc => ?_)
  · simp [jc] at hc
  iterate 2 refine mj_T.pl rfl rfl rfl rfl ?_
  exact mj_T.ret rfl rfl rfl (Or.inl ⟨⟨x1, x2⟩, ⟨y1, y2⟩, rfl⟩)
theorem ra_value {x y z : Int} (hx : jr x) (hy : jr y) (hz : jr z) (hI : jIx N0 u0 H tm er T h) : mj_Ok 40 261 [.ref 0, .int (jn x), .int (jn y), .int (jn z)] h (rIa (A_value N0 x y z) N0 u0 H tm er T) := by
  refine mj_Ok.of (M := mj_m261) rfl rfl rfl ?_
  obtain ⟨S, N, B, X, V, hs, K⟩ := hI
  iterate 2 refine mj_T.pl rfl rfl rfl rfl ?_
  refine rT_put (v := 0) hs rfl rfl (by decide) rfl (fun g23 hs23 => ?_)
  have K23 := K.put (k := 3) (v := 0) ⟨by decide, by decide⟩ (by decide) (by decide) (by decide) (by decide) (by decide)
  have e23 : jvu S 3 0 3 = 0 := jvu_at S 3 0
  generalize jvu S 3 0 = S23 at hs23 K23 e23
  refine mj_T.pl rfl rfl rfl rfl ?_
  refine mj_T.call (ins := .invokestatic 181) rfl rfl (Nat.le_of_ble_eq_true rfl) (Nat.le_of_ble_eq_true rfl) rfl rfl (mj_Ok.up (by decide) (rp_isRegister (D := 0) hx)) (fun v' h' hq' => ?_) (fun i h' hq' => by rcases hq' with ⟨_, _, h⟩ | ⟨_, h⟩ <;> cases h)
  rcases hq' with ⟨x1, x2, hq'⟩ | ⟨cn, hq'⟩
  case' inr =>
    cases hq'
    refine mj_T.if0 (a := 0) rfl ⟨by decide, by decide⟩ (fun hc => ?_) (fun hc => ?_)
    · simp [jc] at hc
    iterate 2 refine mj_T.pl rfl rfl rfl rfl ?_
    refine mj_T.call (ins := .invokevirtual 198) rfl rfl (Nat.le_of_ble_eq_true rfl) (Nat.le_of_ble_eq_true rfl) (by simp [mj_recv, rS_f hs23]) rfl (mj_Ok.up (by decide) (rp_fails (D := 0) (c := 1) hs23)) (fun v' g24 hq' => ?_) (fun i h' hq' => by obtain ⟨_, _, h⟩ := hq'; cases h)
    obtain ⟨_, hs24, hq'⟩ := hq'
    cases hq'
    exact mj_T.ret rfl rfl rfl ⟨1, 0, g24, an.n (by omega), ⟨by decide, by decide⟩, rfl, ⟨_, N, B, X, V, hs24, K23.put ⟨by decide, by decide⟩ (by decide) (by decide) (by decide) (by decide) (by decide), jvu_at _ _ _⟩⟩
  cases hq'
  refine mj_T.if0 (a := 1) rfl ⟨by decide, by decide⟩ (fun hc => ?_) (fun hc => ?_)
  rotate_left
  · simp [jc] at hc
  obtain ⟨x, rfl⟩ := Int.eq_ofNat_of_zero_le x1
  iterate 2 refine mj_T.pl rfl rfl rfl rfl ?_
  refine mj_T.call (ins := .invokestatic 302) rfl rfl (Nat.le_of_ble_eq_true rfl) (Nat.le_of_ble_eq_true rfl) rfl rfl (mj_Ok.up (by decide) (ra_isFraction hy hz)) (fun v' h' hq' => ?_) (fun i h' hq' => by rcases hq' with ⟨_, _, h⟩ | ⟨_, h⟩ <;> cases h)
  rcases hq' with ⟨⟨y1, y2⟩, ⟨z1, z2⟩, hq'⟩ | ⟨cn, hq'⟩
  case' inr =>
    cases hq'
    refine mj_T.if0 (a := 0) rfl ⟨by decide, by decide⟩ (fun hc => ?_) (fun hc => ?_)
    · simp [jc] at hc
    iterate 2 refine mj_T.pl rfl rfl rfl rfl ?_
    refine mj_T.call (ins := .invokevirtual 198) rfl rfl (Nat.le_of_ble_eq_true rfl) (Nat.le_of_ble_eq_true rfl) (by simp [mj_recv, rS_f hs23]) rfl (mj_Ok.up (by decide) (rp_fails (D := 0) (c := 2) hs23)) (fun v' g25 hq' => ?_) (fun i h' hq' => by obtain ⟨_, _, h⟩ := hq'; cases h)
    obtain ⟨_, hs25, hq'⟩ := hq'
    cases hq'
    exact mj_T.ret rfl rfl rfl ⟨2, 0, g25, an.y ⟨by omega, by omega⟩ (an.n cn), ⟨by decide, by decide⟩, rfl, ⟨_, N, B, X, V, hs25, K23.put ⟨by decide, by decide⟩ (by decide) (by decide) (by decide) (by decide) (by decide), jvu_at _ _ _⟩⟩
  cases hq'
  refine mj_T.if0 (a := 1) rfl ⟨by decide, by decide⟩ (fun hc => ?_) (fun hc => ?_)
  rotate_left
  · simp [jc] at hc
  iterate 3 refine mj_T.pl rfl rfl rfl rfl ?_
  refine mj_T.call (ins := .invokevirtual 213) rfl rfl (Nat.le_of_ble_eq_true rfl) (Nat.le_of_ble_eq_true rfl) (by simp [mj_recv, rS_f hs23]) rfl (mj_Ok.up (by decide) (rp_loads (D := 0) (p := 0) (r := x) (by decide) (by omega) K23.nR hs23)) (fun v' g26 hq' => ?_) (fun i h' hq' => by obtain ⟨_, _, h⟩ := hq'; cases h)
  obtain ⟨_, hs26, hq'⟩ := hq'
  cases hq'
  have a26 : ∀ e, e < 13 → jfl V 0 (fun e => N (x * 13 + e)) 13 (0 * 13 + e) = N (x * 13 + e) := fun e he => jfl_at _ _ _ he
  have b26 : ∀ s, (s < 0 * 13 ∨ 0 * 13 + 13 ≤ s) → jfl V 0 (fun e => N (x * 13 + e)) 13 s = V s := fun s hc => jfl_off _ _ _ hc
  generalize jfl V 0 (fun e => N (x * 13 + e)) 13 = W26 at hs26 a26 b26
  have c1 : ∀ e, e < 13 → (W26 (0 * 13 + e)).natAbs ≤ 10 ^ 18 := fun e he => by
    rw [a26 e he]
    exact K23.sh (r := x) (by omega) he
  iterate 3 refine mj_T.pl rfl rfl rfl rfl ?_
  refine mj_T.call (ins := .invokevirtual 305) rfl rfl (Nat.le_of_ble_eq_true rfl) (Nat.le_of_ble_eq_true rfl) (by simp [mj_recv, rS_f hs26]) rfl (mj_Ok.up (by decide) (rp_setsFraction (D := 0) (x := y) (y := z) hy hz hs26)) (fun v' g27 hq' => ?_) (fun i h' hq' => by obtain ⟨_, _, _, _, _, _, h⟩ := hq'; cases h)
  obtain ⟨W27, _, hs27, x27a, x27b, x27c, hq'⟩ := hq'
  cases hq'
  iterate 2 refine mj_T.pl rfl rfl rfl rfl ?_
  refine mj_T.call (ins := .invokevirtual 162) rfl rfl (Nat.le_of_ble_eq_true rfl) (Nat.le_of_ble_eq_true rfl) (by simp [mj_recv, rS_f hs27]) rfl (mj_Ok.up (by decide) (jx_valueAt (D := 0) (V := W27) (p := 0) (rG S23 N B T X) (by decide) (C := 10 ^ 18) (x := 1000) (fun e he => by rw [x27c _ (by omega) (by omega)]; exact c1 e he) (by rw [x27a]; omega) (by rw [x27b]; omega) (by decide) rp_fitv rp_fitv2 hs27)) (fun v' g28 hq' => ?_) (fun i h' hq' => by obtain ⟨_, _, _, _, _, _, _, _, h⟩ := hq'; cases h)
  obtain ⟨W28, _, hs28, _, _, _, f0, v9, hq'⟩ := hq'
  cases hq'
  iterate 4 refine mj_T.pl rfl rfl rfl rfl ?_
  refine mj_T.call (ins := .invokevirtual 308) rfl rfl (Nat.le_of_ble_eq_true rfl) (Nat.le_of_ble_eq_true rfl) (by simp [mj_recv, rS_f hs28]) rfl (mj_Ok.up (by decide) (jx_tells (D := 0) (rG S23 N B T X) (i := 659) (j := 660) (by decide) (by decide) (by decide) (by decide) (f0 (by rw [x27b]; omega)) hs28)) (fun v' g29 hq' => ?_) (fun i h' hq' => by obtain ⟨_, _, _, _, _, _, _, h⟩ := hq'; cases h)
  obtain ⟨W29, _, hs29, _, _, _, w9, hq'⟩ := hq'
  cases hq'
  rw [w9, v9, x27a, x27b, vlz_cg (f := rwN N0 (x : Int)) (fun e he => (x27c _ (by omega) (by omega)).trans ((a26 e he).trans (rwN_at K23.2.1 (by omega) he)))]
  have hsr := jsg_range (vlz (rwN N0 (x : Int)) y z)
  exact mj_T.ret rfl rfl rfl ⟨0, _, g29, an.y ⟨by omega, by omega⟩ (an.y ⟨⟨y1, y2⟩, z1, z2⟩ (an.e rfl)), ⟨by omega, by omega⟩, rfl, ⟨S23, N, B, X, W29, hs29, K23, e23⟩⟩
end RVX
section RVY
variable {h : mj_H} {u : Nat} {N : Nat → Int} {H : Nat → Nat → Int} {tm er : Int} {T : Nat → Int}
theorem ga_value {x : Int} (jx : jr x) {y : Int} (jy : jr y) {z : Int} (jz : jr z) (I : jIx N u H tm er T h) : mj_Ok 60 261 [.ref 0, .int (jn x), .int (jn y), .int (jn z)] h (rZa (sameQ N u H) (A_value N x y z) tm er T) := (mj_Ok.up (by decide) (ra_value jx jy jz I)).to (fun r k => k.za)
end RVY
