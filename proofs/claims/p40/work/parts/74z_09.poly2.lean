/-! The polynomials of the class, exactly: clear, set, negate, load, store. -/
theorem jl_divn {a b : Int} (ha : jR a) (h1 : a ≠ -9223372036854775808) (hb : jR b) : jl a / jl b = jl (a.tdiv b) := by
  apply Int64.toInt_inj.mp
  have h2 := Int.natAbs_tdiv_le_natAbs a b
  have := ha.1; have := ha.2
  rw [jl_toInt ⟨by omega, by omega⟩]
  have h3 : jl a ≠ Int64.minValue := by
    rw [show (Int64.minValue) = jl (-9223372036854775808) from by decide, Ne, jl_eq ha ⟨by decide, by decide⟩]
    exact h1
  rw [Int64.toInt_div_of_ne_left _ _ h3, jl_toInt ha, jl_toInt hb]
theorem jsg_ngv (v : Int) : jsg (-v) = -jsg v := by
  unfold jsg
  (repeat' split) <;> omega
theorem jR_0 : jR ((0 : Nat) : Int) := ⟨by decide, by decide⟩
theorem jnl_0 : jnl (((0 : Nat) : Int)).natAbs = 0 := jnl_zero
def pls : List Nat := [20, 50, 80, 110, 180, 210, 240, 268, 294, 318, 340, 360, 378, 394, 408, 420, 430, 438]
theorem pls_1 : ((List.range 563).all (fun a => !(decide (cK a = 13)) || decide (a ∈ pls))) = true := by decide +kernel
theorem pls_2 : (pls.all fun p => pls.all fun q => decide (p = q) || decide (p + 4 + 2 * cL (p + 3) ≤ q) || decide (q + 4 + 2 * cL (q + 3) ≤ p)) = true := by decide +kernel
theorem pls_3 : (pls.all fun p => decide (p + 4 + 2 * cL (p + 3) ≤ 164) || (decide (180 ≤ p) && decide (p + 4 + 2 * cL (p + 3) ≤ 444))) = true := by decide +kernel
theorem mP_far {p q : Nat} (kp : cK p = 13) (kq : cK q = 13) (h : p ≠ q) : p + 4 + 2 * cL (p + 3) ≤ q ∨ q + 4 + 2 * cL (q + 3) ≤ p := by
  have h1 := jall pls_1 (cK_in (a := p) (by omega))
  have h2 := jall pls_1 (cK_in (a := q) (by omega))
  simp only [kp, kq, decide_true, Bool.not_true, Bool.false_or, decide_eq_true_eq] at h1 h2
  have h3 := List.all_eq_true.mp (List.all_eq_true.mp pls_2 p h1) q h2
  simp only [Bool.or_eq_true, decide_eq_true_eq] at h3
  omega
/-- it lies before the desk's numbers or behind them -/
theorem mP_pos {p : Nat} (kp : cK p = 13) : p + 4 + 2 * cL (p + 3) ≤ 164 ∨ (180 ≤ p ∧ p + 4 + 2 * cL (p + 3) ≤ 444) := by
  have h1 := jall pls_1 (cK_in (a := p) (by omega))
  simp only [kp, decide_true, Bool.not_true, Bool.false_or, decide_eq_true_eq] at h1
  have h3 := List.all_eq_true.mp pls_3 p h1
  simp only [Bool.or_eq_true, Bool.and_eq_true, decide_eq_true_eq] at h3
  omega
section MPQ
variable {g h : mj_H} {n D p : Nat} {V : Nat → Int} {X : Nat → Nat → Int}
theorem mW_low_loop {a : Nat} {q : Nat → Int32} (ka : cK a = 18) (h1 : h[a]? = some (.inr (8, [.ref (a + 1), .int (jn (jnl (V a).natAbs : Nat)), .int (jn (jsg (V a)))]))) (h2 : h[a + 1]? = some (.inl (0, cL (a + 1), fun j => .int (q j)))) (h3 : ∀ j, j < jnl (V a).natAbs → q j = jn (jlb (V a).natAbs j : Nat)) {Q : mj_R → Prop} : ∀ k, k ≤ jnl (V a).natAbs → (k ≤ cL (a + 1)) → mj_T D mj_m100 42 [some (.ref a), some (.long (jl (((V a).natAbs : Nat) : Int))), none, some (.int (jn (-1)))] [] h Q → mj_T D mj_m100 9 [some (.ref a), some (.long (jl (((V a).natAbs / jB ^ k : Nat) : Int))), none, some (.int (jn ((k : Int) - 1)))] [] h Q
  | 0, hk, hl, hend => by
    refine mj_T.pl rfl rfl rfl rfl ?_
    refine mj_T.if0 (a := (((0 : Nat) : Int) - 1)) rfl ⟨by omega, by omega⟩ (fun c1 => ?_) (fun c1 => ?_)
    · simp only [jc, Bool.not_eq_true', Bool.not_eq_false', decide_eq_true_eq, decide_eq_false_iff_not] at c1
      exact (by rw [show (V a).natAbs / jB ^ 0 = (V a).natAbs by simp]; exact hend : mj_T D mj_m100 42 [some (.ref a), some (.long (jl (((V a).natAbs / jB ^ 0 : Nat) : Int))), none, some (.int (jn (((0 : Nat) : Int) - 1)))] [] h Q)
    · exfalso
      simp only [jc, Bool.not_eq_true', Bool.not_eq_false', decide_eq_true_eq, decide_eq_false_iff_not] at c1
      omega
  | k + 1, hk, hl, hend => by
    have hw := (mK_w (Or.inl ka)).2.1
    have hlb := jlb_lt (V a).natAbs k
    rw [show ((k + 1 : Nat) : Int) - 1 = (k : Int) by omega]
    refine mj_T.pl rfl rfl rfl rfl ?_
    refine mj_T.if0 (a := ((k : Nat) : Int)) rfl ⟨by omega, by omega⟩ (fun c1 => ?_) (fun c1 => ?_)
    · exfalso
      simp only [jc, Bool.not_eq_true', Bool.not_eq_false', decide_eq_true_eq, decide_eq_false_iff_not] at c1
      omega
    · simp only [jc, Bool.not_eq_true', Bool.not_eq_false', decide_eq_true_eq, decide_eq_false_iff_not] at c1
      iterate 2 refine mj_T.pl rfl rfl rfl rfl ?_
      refine mj_T.gfl rfl h1 rfl ?_
      refine mj_T.alen rfl h2 ?_
      refine mj_T.icmp (a := ((k : Nat) : Int)) (b := ((cL (a + 1) : Nat) : Int)) rfl ⟨by omega, by omega⟩ ⟨by omega, by omega⟩ (fun c2 => ?_) (fun c2 => ?_)
      · exfalso
        simp only [jc, Bool.not_eq_true', Bool.not_eq_false', decide_eq_true_eq, decide_eq_false_iff_not] at c2
        omega
      · simp only [jc, Bool.not_eq_true', Bool.not_eq_false', decide_eq_true_eq, decide_eq_false_iff_not] at c2
        refine mj_T.pl rfl rfl rfl rfl ?_
        refine jT.ldcL rfl ?_
        refine mj_T.lmul (a := (((V a).natAbs / jB ^ (k + 1) : Nat) : Int)) (b := ((1000000000 : Nat) : Int)) rfl ?_
        refine mj_T.pl rfl rfl rfl rfl ?_
        refine mj_T.gfl rfl h1 rfl ?_
        refine mj_T.pl rfl rfl rfl rfl ?_
        refine mj_T.ialv rfl h2 ⟨by omega, by omega⟩ ⟨by omega, by omega⟩ (h3 _ (by omega)) ?_
        refine mj_T.eq (st2 := [.int (jn ((jlb (V a).natAbs k : Nat) : Int)), .long (jl ((((V a).natAbs / jB ^ (k + 1) : Nat) : Int) * ((1000000000 : Nat) : Int)))]) ?_ rfl rfl rfl rfl
        refine mj_T.i2l rfl ⟨by omega, by omega⟩ ?_
        refine mj_T.ladd (a := ((((V a).natAbs / jB ^ (k + 1) : Nat) : Int) * ((1000000000 : Nat) : Int))) (b := ((jlb (V a).natAbs k : Nat) : Int)) rfl ?_
        refine mj_T.pl (loc' := [some (.ref a), some (.long (jl (((((V a).natAbs / jB ^ (k + 1) : Nat) : Int) * ((1000000000 : Nat) : Int)) + ((jlb (V a).natAbs k : Nat) : Int)))), none, some (.int (jn ((k : Nat) : Int)))]) rfl rfl rfl rfl ?_
        refine mj_T.iinc rfl rfl ?_
        refine mj_T.eq (loc2 := [some (.ref a), some (.long (jl (((((V a).natAbs / jB ^ (k + 1) : Nat) : Int) * ((1000000000 : Nat) : Int)) + ((jlb (V a).natAbs k : Nat) : Int)))), none, some (.int (jn (((k : Nat) : Int) + (-1))))]) ?_ rfl rfl rfl rfl
        refine mj_T.pl rfl rfl rfl rfl ?_
        refine mj_T.eq (mW_low_loop ka h1 h2 h3 k (by omega) (by omega) hend) rfl ?_ rfl rfl
        rw [show (((V a).natAbs / jB ^ (k + 1) : Nat) : Int) * ((1000000000 : Nat) : Int) + ((jlb (V a).natAbs k : Nat) : Int) = (((V a).natAbs / jB ^ k : Nat) : Int) by rw [jdiv (V a).natAbs k]; rfl, show (((k : Nat) : Int) + (-1)) = (k : Int) - 1 by omega]
theorem jsg_s (v : Int) : (jsg v < 0 → v < 0) ∧ (0 ≤ jsg v → 0 ≤ v) := by
  unfold jsg
  (repeat' split) <;> omega
theorem mW_low (m : jM g n V X h) {a : Nat} (ka : cK a = 18) (hcl : jnl (V a).natAbs ≤ 1500 := by omega) : mj_Ok (D + 1) 100 [.ref a] h (fun r => r = (.inl (some (.long (jl (V a)))), h)) := by
  obtain ⟨q, h1, h2, h3, h4⟩ := m.W ka
  have hw := (mK_w (Or.inl ka)).2.1
  refine mj_Ok.of (M := mj_m100) rfl rfl rfl ?_
  refine jT.lc 0 rfl rfl ?_
  refine mj_T.pl (loc' := [some (.ref a), some (.long (jl ((0 : Nat) : Int))), none, none]) rfl rfl rfl rfl ?_
  refine mj_T.pl rfl rfl rfl rfl ?_
  refine mT_sz m ka rfl ?_
  refine mj_T.pl rfl rfl rfl rfl ?_
  refine mj_T.isub (a := ((jnl (V a).natAbs : Nat) : Int)) (b := 1) rfl ?_
  refine mj_T.pl (loc' := [some (.ref a), some (.long (jl ((0 : Nat) : Int))), none, some (.int (jn (((jnl (V a).natAbs : Nat) : Int) - 1)))]) rfl rfl rfl rfl ?_
  refine mj_T.eq (pc2 := 9) (loc2 := [some (.ref a), some (.long (jl (((V a).natAbs / jB ^ (jnl (V a).natAbs) : Nat) : Int))), none, some (.int (jn ((jnl (V a).natAbs : Int) - 1)))]) ?_ rfl (by rw [jnl_le.mp (Nat.le_refl _)]) rfl rfl
  refine mW_low_loop ka h1 h2 h3 _ (Nat.le_refl _) h4 ?_
  refine mj_T.pl rfl rfl rfl rfl ?_
  refine mT_sg m ka rfl ?_
  refine mj_T.if0 (a := (jsg (V a))) rfl (jsg_r _) (fun c51 => ?_) (fun c51 => ?_)
  · simp only [jc, Bool.not_eq_true', Bool.not_eq_false', decide_eq_true_eq, decide_eq_false_iff_not] at c51
    have := jsg_s (V a)
    refine mj_T.pl rfl rfl rfl rfl ?_
    exact mj_T.ret rfl rfl rfl (show _ = _ by rw [show (((V a).natAbs : Nat) : Int) = V a by omega])
  · simp only [jc, Bool.not_eq_true', Bool.not_eq_false', decide_eq_true_eq, decide_eq_false_iff_not] at c51
    have := jsg_s (V a)
    refine mj_T.pl rfl rfl rfl rfl ?_
    refine mj_T.lneg rfl ?_
    refine mj_T.pl rfl rfl rfl rfl ?_
    exact mj_T.ret rfl rfl rfl (show _ = _ by rw [show (-(((V a).natAbs : Nat) : Int)) = V a by omega])
theorem mP_clear_loop (kp : cK p = 13) {Q : mj_R → Prop} (hend : ∀ h, jM g n (pfl V p (fun _ => 0) (cL (p + 3))) (xup X p 2 (-1)) h → Q (.inl none, h)) : ∀ k i, i + k = cL (p + 3) → ∀ h, jM g n (pfl V p (fun _ => 0) i) X h → mj_T (D + 1) mj_m39 2 [some (.ref p), some (.int (jn (i : Int)))] [] h Q
  | 0, i, hi, h, m => by
    have hb := (mK_p kp).2.2.1
    iterate 2 refine mj_T.pl rfl rfl rfl rfl ?_
    refine mT_get m 13 kp (by decide) rfl rfl ?_
    refine mT_alen m 4 (mK_p kp).2.1 (by decide) rfl ?_
    refine mj_T.icmp (a := ((i : Nat) : Int)) (b := ((cL (p + 3) : Nat) : Int)) rfl ⟨by omega, by omega⟩ ⟨by omega, by omega⟩ (fun c1 => ?_) (fun c1 => ?_)
    · simp only [jc, Bool.not_eq_true', Bool.not_eq_false', decide_eq_true_eq, decide_eq_false_iff_not] at c1
      iterate 2 refine mj_T.pl rfl rfl rfl rfl ?_
      refine mT_put (v := (-1)) m 13 kp (by decide) rfl (by simp [jMf, xup]) (by simp [jMf]) rfl (fun h2 m3 => ?_)
      exact mj_T.ret rfl rfl rfl (hend _ (m3.to (by rw [show i = cL (p + 3) by omega]) rfl))
    · exfalso
      simp only [jc, Bool.not_eq_true', Bool.not_eq_false', decide_eq_true_eq, decide_eq_false_iff_not] at c1
      omega
  | k + 1, i, hi, h, m => by
    have hb := (mK_p kp).2.2.1
    iterate 2 refine mj_T.pl rfl rfl rfl rfl ?_
    refine mT_get m 13 kp (by decide) rfl rfl ?_
    refine mT_alen m 4 (mK_p kp).2.1 (by decide) rfl ?_
    refine mj_T.icmp (a := ((i : Nat) : Int)) (b := ((cL (p + 3) : Nat) : Int)) rfl ⟨by omega, by omega⟩ ⟨by omega, by omega⟩ (fun c1 => ?_) (fun c1 => ?_)
    · exfalso
      simp only [jc, Bool.not_eq_true', Bool.not_eq_false', decide_eq_true_eq, decide_eq_false_iff_not] at c1
      omega
    · simp only [jc, Bool.not_eq_true', Bool.not_eq_false', decide_eq_true_eq, decide_eq_false_iff_not] at c1
      refine mj_T.pl rfl rfl rfl rfl ?_
      refine mT_get m 13 kp (by decide) rfl rfl ?_
      refine mj_T.pl rfl rfl rfl rfl ?_
      refine mT_aald m 4 (mK_p kp).2.1 (by decide) rfl rfl (by omega) ⟨by omega, by omega⟩ ?_
      refine mj_T.eq (st2 := [.ref (p + 4 + 2 * i)]) ?_ rfl rfl rfl rfl
      refine jT.lc 0 rfl rfl ?_
      refine mj_T.call rfl rfl (Nat.le_of_ble_eq_true rfl) (Nat.le_of_ble_eq_true rfl) (mV_of m 18 ((mK_p kp).2.2.2 _ (by omega)) (by decide) rfl (by decide) rfl _) rfl (mj_Ok.up (by omega) (mW_setLong (D := 0) (v := ((0 : Nat) : Int)) m ((mK_p kp).2.2.2 _ (by omega)) jR_0 (by rw [jnl_0]; omega))) (fun v g2 hq => ?_) (fun i g2 hq => ?_)
      rotate_left
      · obtain ⟨_, _, hq⟩ := hq; cases hq
      obtain ⟨_, m3, hq⟩ := hq
      cases hq
      refine mj_T.eq (pc2 := 21) (st2 := []) ?_ rfl rfl rfl rfl
      refine mj_T.iinc rfl rfl ?_
      rw [show ((i : Nat) : Int) + 1 = ((i + 1 : Nat) : Int) by omega]
      refine mj_T.eq (loc2 := [some (.ref p), some (.int (jn (((i + 1) : Nat) : Int)))]) ?_ rfl rfl rfl rfl
      refine mj_T.pl rfl rfl rfl rfl ?_
      exact mP_clear_loop kp hend k (i + 1) (by omega) _ (m3.to (pfl_succ V p _ i) rfl)
theorem mP_clear (m : jM g n V X h) (kp : cK p = 13) : mj_Ok (D + 2) 39 [.ref p] h (fun r => ∃ h2, jM g n (pfl V p (fun _ => 0) (cL (p + 3))) (xup X p 2 (-1)) h2 ∧ r = (.inl none, h2)) := by
  refine mj_Ok.of (M := mj_m39) rfl rfl rfl ?_
  refine mj_T.pl rfl rfl rfl rfl ?_
  refine mj_T.pl (loc' := [some (.ref p), some (.int (jn 0))]) rfl rfl rfl rfl ?_
  exact mP_clear_loop kp (fun h1 m1 => ⟨h1, m1, rfl⟩) (cL (p + 3)) 0 (by omega) _ (m.to (pfl_zero _ _ _) rfl)
/-- the coefficients of o, 0 behind them -/
noncomputable def pcs (V : Nat → Int) (o : Nat) : Nat → Int := fun i => if i < cL (o + 3) then V (o + 4 + 2 * i) else 0
theorem mP_set_loop {o : Nat} (kp : cK p = 13) (ko : cK o = 13) (hpo : p ≠ o) (h0 : V (o + 1) = 0) (hcap : ∀ i, i < cL (p + 3) → jnl (pcs V o i).natAbs ≤ cL (p + 4 + 2 * i + 1)) {Q : mj_R → Prop} (hend : ∀ h, jM g n (pfl V p (pcs V o) (cL (p + 3))) X h → mj_T (D + 1) mj_m41 31 [some (.ref p), some (.ref o), some (.int (jn (cL (p + 3) : Int)))] [] h Q) : ∀ k i, i + k = cL (p + 3) → ∀ h, jM g n (pfl V p (pcs V o) i) X h → mj_T (D + 1) mj_m41 2 [some (.ref p), some (.ref o), some (.int (jn (i : Int)))] [] h Q
  | 0, i, hi, h, m => by
    have hb := (mK_p kp).2.2.1
    iterate 2 refine mj_T.pl rfl rfl rfl rfl ?_
    refine mT_get m 13 kp (by decide) rfl rfl ?_
    refine mT_alen m 4 (mK_p kp).2.1 (by decide) rfl ?_
    refine mj_T.icmp (a := ((i : Nat) : Int)) (b := ((cL (p + 3) : Nat) : Int)) rfl ⟨by omega, by omega⟩ ⟨by omega, by omega⟩ (fun c1 => ?_) (fun c1 => ?_)
    · simp only [jc, Bool.not_eq_true', Bool.not_eq_false', decide_eq_true_eq, decide_eq_false_iff_not] at c1
      rw [show i = cL (p + 3) by omega] at m ⊢
      exact hend _ m
    · exfalso
      simp only [jc, Bool.not_eq_true', Bool.not_eq_false', decide_eq_true_eq, decide_eq_false_iff_not] at c1
      omega
  | k + 1, i, hi, h, m => by
    have hb := (mK_p kp).2.2.1
    have hbo := (mK_p ko).2.2.1
    have hf := mP_far kp ko hpo
    have kx : cK (if i < cL (o + 3) then o + 4 + 2 * i else o + 1) = 18 := by
      split
      · exact (mK_p ko).2.2.2 _ (by omega)
      · exact (mK_p ko).1
    have hx : (if i < cL (o + 3) then o + 4 + 2 * i else o + 1) ≠ p + 4 + 2 * i := by
      split <;> omega
    have hv : pfl V p (pcs V o) i (if i < cL (o + 3) then o + 4 + 2 * i else o + 1) = pcs V o i := by
      rw [pfl_off _ _ _ (by split <;> omega)]
      unfold pcs
      split
      · rfl
      · exact h0
    have hat : ∀ {h1 : mj_H} {V1 : Nat → Int}, jM g n V1 X h1 → mj_Ok 1 36 [.ref o, .int (jn (i : Int))] h1 (fun r => r = (.inl (some (.ref (if i < cL (o + 3) then o + 4 + 2 * i else o + 1))), h1)) := fun m1 => by
      split
      · exact mP_at (D := 0) m1 ko (by omega)
      · exact mP_atB (D := 0) m1 ko ⟨by omega, by omega⟩ (Or.inr (by omega))
    iterate 2 refine mj_T.pl rfl rfl rfl rfl ?_
    refine mT_get m 13 kp (by decide) rfl rfl ?_
    refine mT_alen m 4 (mK_p kp).2.1 (by decide) rfl ?_
    refine mj_T.icmp (a := ((i : Nat) : Int)) (b := ((cL (p + 3) : Nat) : Int)) rfl ⟨by omega, by omega⟩ ⟨by omega, by omega⟩ (fun c1 => ?_) (fun c1 => ?_)
    · exfalso
      simp only [jc, Bool.not_eq_true', Bool.not_eq_false', decide_eq_true_eq, decide_eq_false_iff_not] at c1
      omega
    · simp only [jc, Bool.not_eq_true', Bool.not_eq_false', decide_eq_true_eq, decide_eq_false_iff_not] at c1
      refine mj_T.pl rfl rfl rfl rfl ?_
      refine mT_get m 13 kp (by decide) rfl rfl ?_
      refine mj_T.pl rfl rfl rfl rfl ?_
      refine mT_aald m 4 (mK_p kp).2.1 (by decide) rfl rfl (by omega) ⟨by omega, by omega⟩ ?_
      refine mj_T.eq (st2 := [.ref (p + 4 + 2 * i)]) ?_ rfl rfl rfl rfl
      iterate 2 refine mj_T.pl rfl rfl rfl rfl ?_
      refine mj_T.call rfl rfl (Nat.le_of_ble_eq_true rfl) (Nat.le_of_ble_eq_true rfl) (mV_of m 13 ko (by decide) rfl (by decide) rfl _) rfl (mj_Ok.up (by omega) (hat m)) (fun v g2 hq => ?_) (fun i g2 hq => ?_)
      rotate_left
      · cases hq
      cases hq
      refine mj_T.eq (pc2 := 22) (st2 := [.ref (if i < cL (o + 3) then o + 4 + 2 * i else o + 1), .ref (p + 4 + 2 * i)]) ?_ rfl rfl rfl rfl
      refine mj_T.call rfl rfl (Nat.le_of_ble_eq_true rfl) (Nat.le_of_ble_eq_true rfl) (mV_of m 18 ((mK_p kp).2.2.2 _ (by omega)) (by decide) rfl (by decide) rfl _) rfl (mj_Ok.up (by omega) (mW_set (D := 0) m ((mK_p kp).2.2.2 _ (by omega)) kx hx (by rw [hv]; exact hcap i (by omega)))) (fun v g3 hq => ?_) (fun i g3 hq => ?_)
      rotate_left
      · obtain ⟨_, _, hq⟩ := hq; cases hq
      obtain ⟨_, m4, hq⟩ := hq
      cases hq
      refine mj_T.eq (pc2 := 25) (st2 := []) ?_ rfl rfl rfl rfl
      refine mj_T.iinc rfl rfl ?_
      rw [show ((i : Nat) : Int) + 1 = ((i + 1 : Nat) : Int) by omega]
      refine mj_T.eq (loc2 := [some (.ref p), some (.ref o), some (.int (jn (((i + 1) : Nat) : Int)))]) ?_ rfl rfl rfl rfl
      refine mj_T.pl rfl rfl rfl rfl ?_
      refine mP_set_loop kp ko hpo h0 hcap hend k (i + 1) (by omega) _ (m4.to ?_ rfl)
      rw [hv]
      exact pfl_succ V p _ i
theorem pco_pfl {V : Nat → Int} {p : Nat} {w : Nat → Int} {k : Nat} : ∀ i, i < k → pco (pfl V p w k) p i = w i := fun i hi => pfl_at V p w hi
theorem pcl_pfl {V : Nat → Int} {p : Nat} {w : Nat → Int} {k : Nat} (hk : cL (p + 3) ≤ k) (hw : ∀ i, i < k → jnl (w i).natAbs ≤ 1500) : pcl (pfl V p w k) p := fun i hi => by
  rw [pfl_at V p w (by omega)]
  exact hw i (by omega)
theorem mP_set (m : jM g n V X h) {o : Nat} (kp : cK p = 13) (ko : cK o = 13) (hpo : p ≠ o) (h0 : V (o + 1) = 0) (hcap : ∀ i, i < cL (p + 3) → jnl (pcs V o i).natAbs ≤ cL (p + 4 + 2 * i + 1)) : mj_Ok (D + 2) 41 [.ref p, .ref o] h (fun r => ∃ h2, jM g n (pfl V p (pcs V o) (cL (p + 3))) (xup X p 2 ((fdg (pcs V o) (cL (p + 3)) : Int) - 1)) h2 ∧ r = (.inl none, h2)) := by
  refine mj_Ok.of (M := mj_m41) rfl rfl rfl ?_
  refine mj_T.pl rfl rfl rfl rfl ?_
  refine mj_T.pl (loc' := [some (.ref p), some (.ref o), some (.int (jn 0))]) rfl rfl rfl rfl ?_
  refine mP_set_loop kp ko hpo h0 hcap (fun h1 m1 => ?_) (cL (p + 3)) 0 (by omega) _ (m.to (pfl_zero _ _ _) rfl)
  refine mj_T.pl rfl rfl rfl rfl ?_
  refine mj_T.call rfl rfl (Nat.le_of_ble_eq_true rfl) (Nat.le_of_ble_eq_true rfl) (mV_of m1 13 kp (by decide) rfl (by decide) rfl _) rfl (mj_Ok.up (by omega) (mP_settle (D := 0) m1 kp (pcl_pfl (Nat.le_refl _) (fun i hi => by have q1 := hcap i hi; have q2 := mK_w (Or.inl ((mK_p kp).2.2.2 i hi)); omega)))) (fun v g61 hq => ?_) (fun i g61 hq => ?_)
  rotate_left
  · obtain ⟨_, _, hq⟩ := hq; cases hq
  obtain ⟨_, m62, hq⟩ := hq
  cases hq
  refine mj_T.eq (pc2 := 35) (st2 := []) ?_ rfl rfl rfl rfl
  exact mj_T.ret rfl rfl rfl ⟨_, m62.to rfl (by rw [fdg_congr _ (fun i hi => pco_pfl i hi)]), rfl⟩
theorem mP_negate_loop (kp : cK p = 13) (hcl : pcl V p) {Q : mj_R → Prop} (hend : ∀ h, jM g n (pfl V p (fun e => -V (p + 4 + 2 * e)) (cL (p + 3))) X h → Q (.inl none, h)) : ∀ k i, i + k = cL (p + 3) → ∀ h, jM g n (pfl V p (fun e => -V (p + 4 + 2 * e)) i) X h → mj_T D mj_m43 2 [some (.ref p), some (.int (jn (i : Int)))] [] h Q
  | 0, i, hi, h, m => by
    have hb := (mK_p kp).2.2.1
    iterate 2 refine mj_T.pl rfl rfl rfl rfl ?_
    refine mT_get m 13 kp (by decide) rfl rfl ?_
    refine mT_alen m 4 (mK_p kp).2.1 (by decide) rfl ?_
    refine mj_T.icmp (a := ((i : Nat) : Int)) (b := ((cL (p + 3) : Nat) : Int)) rfl ⟨by omega, by omega⟩ ⟨by omega, by omega⟩ (fun c1 => ?_) (fun c1 => ?_)
    · simp only [jc, Bool.not_eq_true', Bool.not_eq_false', decide_eq_true_eq, decide_eq_false_iff_not] at c1
      exact mj_T.ret rfl rfl rfl (hend _ (m.to (by rw [show i = cL (p + 3) by omega]) rfl))
    · exfalso
      simp only [jc, Bool.not_eq_true', Bool.not_eq_false', decide_eq_true_eq, decide_eq_false_iff_not] at c1
      omega
  | k + 1, i, hi, h, m => by
    have hb := (mK_p kp).2.2.1
    iterate 2 refine mj_T.pl rfl rfl rfl rfl ?_
    refine mT_get m 13 kp (by decide) rfl rfl ?_
    refine mT_alen m 4 (mK_p kp).2.1 (by decide) rfl ?_
    refine mj_T.icmp (a := ((i : Nat) : Int)) (b := ((cL (p + 3) : Nat) : Int)) rfl ⟨by omega, by omega⟩ ⟨by omega, by omega⟩ (fun c1 => ?_) (fun c1 => ?_)
    · exfalso
      simp only [jc, Bool.not_eq_true', Bool.not_eq_false', decide_eq_true_eq, decide_eq_false_iff_not] at c1
      omega
    · simp only [jc, Bool.not_eq_true', Bool.not_eq_false', decide_eq_true_eq, decide_eq_false_iff_not] at c1
      refine mj_T.pl rfl rfl rfl rfl ?_
      refine mT_get m 13 kp (by decide) rfl rfl ?_
      refine mj_T.pl rfl rfl rfl rfl ?_
      refine mT_aald m 4 (mK_p kp).2.1 (by decide) rfl rfl (by omega) ⟨by omega, by omega⟩ ?_
      refine mj_T.eq (st2 := [.ref (p + 4 + 2 * i)]) ?_ rfl rfl rfl rfl
      refine mj_T.pl rfl rfl rfl rfl ?_
      refine mT_get m 13 kp (by decide) rfl rfl ?_
      refine mj_T.pl rfl rfl rfl rfl ?_
      refine mT_aald m 4 (mK_p kp).2.1 (by decide) rfl rfl (by omega) ⟨by omega, by omega⟩ ?_
      refine mj_T.eq (st2 := [.ref (p + 4 + 2 * i), .ref (p + 4 + 2 * i)]) ?_ rfl rfl rfl rfl
      refine mT_sg m ((mK_p kp).2.2.2 _ (by omega)) rfl ?_ (hcl := by rw [pfl_off _ _ _ (Or.inr (Nat.le_refl _))]; exact hcl i (by omega))
      refine mj_T.ineg rfl ?_
      refine mT_psg (w := -((pfl V p (fun e => -V (p + 4 + 2 * e)) i) (p + 4 + 2 * i))) m ((mK_p kp).2.2.2 _ (by omega)) (Int.natAbs_neg _) (jsg_ngv _) rfl (fun h2 m3 => ?_) (hcl := by rw [pfl_off _ _ _ (Or.inr (Nat.le_refl _))]; exact hcl i (by omega))
      refine mj_T.iinc rfl rfl ?_
      rw [show ((i : Nat) : Int) + 1 = ((i + 1 : Nat) : Int) by omega]
      refine mj_T.eq (loc2 := [some (.ref p), some (.int (jn (((i + 1) : Nat) : Int)))]) ?_ rfl rfl rfl rfl
      refine mj_T.pl rfl rfl rfl rfl ?_
      refine mP_negate_loop kp hcl hend k (i + 1) (by omega) _ (m3.to ?_ rfl)
      rw [pfl_succ, pfl_off _ _ _ (Or.inr (Nat.le_refl _))]
theorem mP_negate (m : jM g n V X h) (kp : cK p = 13) (hcl : pcl V p) : mj_Ok (D + 1) 43 [.ref p] h (fun r => ∃ h2, jM g n (pfl V p (fun e => -V (p + 4 + 2 * e)) (cL (p + 3))) X h2 ∧ r = (.inl none, h2)) := by
  refine mj_Ok.of (M := mj_m43) rfl rfl rfl ?_
  refine mj_T.pl rfl rfl rfl rfl ?_
  refine mj_T.pl (loc' := [some (.ref p), some (.int (jn 0))]) rfl rfl rfl rfl ?_
  exact mP_negate_loop kp hcl (fun h1 m1 => ⟨h1, m1, rfl⟩) (cL (p + 3)) 0 (by omega) _ (m.to (pfl_zero _ _ _) rfl)
end MPQ
