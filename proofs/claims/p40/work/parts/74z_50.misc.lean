/-! The class exactly: gather, deriveRow, residueOf. -/
section MGA
variable {g h : mj_H} {n D r : Nat} {V : Nat → Int} {X : Nat → Nat → Int}
theorem mD_ga_loop {f : Int} {W : pz_P} {M : Nat} (kr : cK r = 2) (hf : f.natAbs ≤ 9223372036854775807) (sr : sml (X r)) (hM : ∀ e, (W e).natAbs ≤ M) (hfit : M + 9223372036854775807 * 999999999999999999 < jB ^ 29) : ∀ k i, i + k = 13 → ∀ (V1 : Nat → Int) (h1 : mj_H), jM g n V1 X h1 → (∀ e, e < 13 → V1 (20 + 4 + 2 * e) = if e < i then W e + 1 * (f * X r e) else W e) → V1 168 = f → (∀ x, x ≠ 164 → x ≠ 166 → x ≠ 168 → (x < 20 + 4 ∨ 20 + 4 + 2 * 13 ≤ x) → V1 x = V x) → mj_T (D + 3) mj_m21 11 [some (.ref 19), some (.long (jl f)), none, some (.ref r), some (.int (jn (i : Int)))] [] h1 (fun z => ∃ (V2 : Nat → Int) (h2 : mj_H), jM g n V2 (xup X 20 2 ((fdg (fun e => W e + f * X r e) 13 : Int) - 1)) h2 ∧ (∀ e, e < 13 → V2 (20 + 4 + 2 * e) = W e + f * X r e) ∧ (∀ x, x ≠ 164 → x ≠ 166 → x ≠ 168 → (x < 20 + 4 ∨ 20 + 4 + 2 * 13 ≤ x) → V2 x = V x) ∧ z = (.inl none, h2))
  | 0, i, hi, V1, h1, m, e1, e2, e3 => by
    have p20 : cL (20 + 3) = 13 := mK_z.1
    have c1 : cL (164 + 1) = 240 := mK_z.2.2.2.2.2.2.2.1
    have c2 : cL (166 + 1) = 240 := mK_z.2.2.2.2.2.2.2.2.1
    have hsz : ∀ e, e < 13 → jnl (W e + f * X r e).natAbs ≤ 29 := fun e he => by
      refine jnl_B (al := M + 9223372036854775807 * 999999999999999999) ?_ hfit
      have a1 := Nat.mul_le_mul hf (sr e he)
      rw [← Int.natAbs_mul] at a1
      have a2 := hM e
      omega
    iterate 2 refine mj_T.pl rfl rfl rfl rfl ?_
    refine mT_llen m kr rfl ?_
    refine mj_T.icmp (a := ((i : Nat) : Int)) (b := ((13 : Nat) : Int)) rfl ⟨by omega, by omega⟩ ⟨by omega, by omega⟩ (fun c1 => ?_) (fun c1 => ?_)
    · simp only [jc, Bool.not_eq_true', Bool.not_eq_false', decide_eq_true_eq, decide_eq_false_iff_not] at c1
      refine mj_T.pl rfl rfl rfl rfl ?_
      refine mT_get m 11 cq_d19 (by decide) rfl rfl ?_
      have hi2 : i = 13 := by omega
      subst hi2
      have eV : ∀ e, e < 13 → pco V1 20 e = (fun e => W e + f * X r e) e := fun e he => by
        show V1 (20 + 4 + 2 * e) = W e + f * X r e
        rw [e1 e he, if_pos he, Int.one_mul]
      refine mj_T.call rfl rfl (Nat.le_of_ble_eq_true rfl) (Nat.le_of_ble_eq_true rfl) (mV_of m 13 cq_d20 (by decide) rfl (by decide) rfl _) rfl (mj_Ok.up (by omega) (mP_settle (D := 0) m cq_d20 (fun e he => by rw [p20] at he; have q := eV e he; unfold pco at q; rw [q]; exact Nat.le_trans (hsz e he) (by decide)))) (fun v g2 hq => ?_) (fun i g2 hq => ?_)
      rotate_left
      · obtain ⟨_, _, hq⟩ := hq; cases hq
      obtain ⟨_, m3, hq⟩ := hq
      cases hq
      rw [p20, fdg_congr 13 eV] at m3
      refine mj_T.eq (pc2 := 74) (st2 := []) ?_ rfl rfl rfl rfl
      exact mj_T.ret rfl rfl rfl ⟨V1, _, m3, fun e he => eV e he, e3, rfl⟩
    · exfalso
      simp only [jc, Bool.not_eq_true', Bool.not_eq_false', decide_eq_true_eq, decide_eq_false_iff_not] at c1
      omega
  | k + 1, i, hi, V1, h1, m, e1, e2, e3 => by
    have p20 : cL (20 + 3) = 13 := mK_z.1
    have c1 : cL (164 + 1) = 240 := mK_z.2.2.2.2.2.2.2.1
    have c2 : cL (166 + 1) = 240 := mK_z.2.2.2.2.2.2.2.2.1
    have hsz : ∀ e, e < 13 → jnl (W e + f * X r e).natAbs ≤ 29 := fun e he => by
      refine jnl_B (al := M + 9223372036854775807 * 999999999999999999) ?_ hfit
      have a1 := Nat.mul_le_mul hf (sr e he)
      rw [← Int.natAbs_mul] at a1
      have a2 := hM e
      omega
    have hri := sr i (by omega)
    have hjr : jR (X r i) := ⟨by omega, by omega⟩
    have hj3 := jnl_R (v := X r i) (by omega)
    have ei : V1 (20 + 4 + 2 * i) = W i := by
      rw [e1 i (by omega), if_neg (Nat.lt_irrefl i)]
    have c20 : cL (20 + 4 + 2 * i + 1) = 30 := (mK_z.2.2.2.2.1 i (by omega)).1
    have hpr : jnl (f * X r i).natAbs ≤ 29 := by
      refine jnl_B (al := M + 9223372036854775807 * 999999999999999999) ?_ hfit
      have a1 := Nat.mul_le_mul hf hri
      rw [← Int.natAbs_mul] at a1
      omega
    have hsi := hsz i (by omega)
    rw [show f * X r i = 1 * (f * X r i) by omega] at hsi
    iterate 2 refine mj_T.pl rfl rfl rfl rfl ?_
    refine mT_llen m kr rfl ?_
    refine mj_T.icmp (a := ((i : Nat) : Int)) (b := ((13 : Nat) : Int)) rfl ⟨by omega, by omega⟩ ⟨by omega, by omega⟩ (fun c1 => ?_) (fun c1 => ?_)
    · exfalso
      simp only [jc, Bool.not_eq_true', Bool.not_eq_false', decide_eq_true_eq, decide_eq_false_iff_not] at c1
      omega
    · simp only [jc, Bool.not_eq_true', Bool.not_eq_false', decide_eq_true_eq, decide_eq_false_iff_not] at c1
      refine mj_T.pl rfl rfl rfl rfl ?_
      refine mT_get m 11 cq_d19 (by decide) rfl rfl ?_
      iterate 2 refine mj_T.pl rfl rfl rfl rfl ?_
      refine mT_lald m kr rfl ⟨by omega, by omega⟩ ?_
      refine mj_T.eq (st2 := [.long (jl (X r i)), .ref 166]) ?_ rfl rfl rfl rfl
      refine mj_T.call rfl rfl (Nat.le_of_ble_eq_true rfl) (Nat.le_of_ble_eq_true rfl) (mV_of m 18 cq_d166 (by decide) rfl (by decide) rfl _) rfl (mj_Ok.up (by omega) (mW_setLong (D := 0) (v := (X r i)) m cq_d166 hjr (by omega))) (fun v g2 hq => ?_) (fun i g2 hq => ?_)
      rotate_left
      · obtain ⟨_, _, hq⟩ := hq; cases hq
      obtain ⟨_, m3, hq⟩ := hq
      cases hq
      have m3 := m3.to (V' := (jvu V1 166 (X r i))) (by rfl) rfl
      refine mj_T.eq (pc2 := 29) (st2 := []) ?_ rfl rfl rfl rfl
      refine mj_T.pl rfl rfl rfl rfl ?_
      refine mT_get m3 11 cq_d19 (by decide) rfl rfl ?_
      refine mj_T.pl rfl rfl rfl rfl ?_
      refine mT_get m3 11 cq_d19 (by decide) rfl rfl ?_
      refine mj_T.pl rfl rfl rfl rfl ?_
      refine mT_get m3 11 cq_d19 (by decide) rfl rfl ?_
      refine mj_T.call rfl rfl (Nat.le_of_ble_eq_true rfl) (Nat.le_of_ble_eq_true rfl) (mV_of m3 18 cq_d164 (by decide) rfl (by decide) rfl _) rfl (mj_Ok.up (by omega) (mW_setProduct (D := 0) m3 cq_d164 cq_d168 cq_d166 (by omega) (by omega) (by omega) (by rw [((jvu_ne _ _ _ (by omega)).trans (rfl : V1 168 = _)), (jvu_at _ _ _)]; exact (by rw [e2]; exact Nat.le_trans hpr (by omega))) (hca := by rw [((jvu_ne _ _ _ (by omega)).trans (rfl : V1 168 = _))]; rw [e2]; exact Nat.le_trans (jnl_R hf) (by decide)) (hcb := by rw [(jvu_at _ _ _)]; omega))) (fun v g4 hq => ?_) (fun i g4 hq => ?_)
      rotate_left
      · obtain ⟨_, _, hq⟩ := hq; cases hq
      obtain ⟨_, m5, hq⟩ := hq
      cases hq
      have m5 := m5.to (V' := (jvu (jvu V1 166 (X r i)) 164 ((V1 168) * (X r i)))) (by rw [((jvu_ne _ _ _ (by omega)).trans (rfl : V1 168 = _)), (jvu_at _ _ _)]) rfl
      refine mj_T.eq (pc2 := 44) (st2 := []) ?_ rfl rfl rfl rfl
      refine mj_T.pl rfl rfl rfl rfl ?_
      refine mT_get m5 11 cq_d19 (by decide) rfl rfl ?_
      refine mj_T.pl rfl rfl rfl rfl ?_
      refine mj_T.call rfl rfl (Nat.le_of_ble_eq_true rfl) (Nat.le_of_ble_eq_true rfl) (mV_of m5 13 cq_d20 (by decide) rfl (by decide) rfl _) rfl (mj_Ok.up (by omega) (mP_at (D := 0) m5 cq_d20 (e := i) (by omega))) (fun v g6 hq => ?_) (fun i g6 hq => ?_)
      rotate_left
      · cases hq
      cases hq
      refine mj_T.eq (pc2 := 53) (st2 := [.ref (20 + 4 + 2 * i)]) ?_ rfl rfl rfl rfl
      refine mj_T.pl rfl rfl rfl rfl ?_
      refine mT_get m5 11 cq_d19 (by decide) rfl rfl ?_
      refine mj_T.pl rfl rfl rfl rfl ?_
      refine mj_T.call rfl rfl (Nat.le_of_ble_eq_true rfl) (Nat.le_of_ble_eq_true rfl) (mV_of m5 18 ((mK_p cq_d20).2.2.2 _ (by omega)) (by decide) rfl (by decide) rfl _) rfl (mj_Ok.up (by omega) (mW_plus (D := 0) (f := 1) m5 ((mK_p cq_d20).2.2.2 _ (by omega)) cq_d164 (by omega) (Or.inl rfl) (by rw [(jvu_at _ _ _)]; exact (by rw [e2, c20]; exact Nat.le_trans hpr (by decide))) (by rw [((jvu_ne _ _ _ (by omega)).trans ((jvu_ne _ _ _ (by omega)).trans (rfl : V1 (20 + 4 + 2 * i) = _))), (jvu_at _ _ _)]; exact (by rw [ei, e2, c20]; exact Nat.le_trans hsi (by decide))))) (fun v g7 hq => ?_) (fun i g7 hq => ?_)
      rotate_left
      · obtain ⟨_, _, hq⟩ := hq; cases hq
      obtain ⟨_, m8, hq⟩ := hq
      cases hq
      have m8 := m8.to (V' := (jvu (jvu (jvu V1 166 (X r i)) 164 ((V1 168) * (X r i))) (20 + 4 + 2 * i) ((V1 (20 + 4 + 2 * i)) + 1 * ((V1 168) * (X r i))))) (by rw [((jvu_ne _ _ _ (by omega)).trans ((jvu_ne _ _ _ (by omega)).trans (rfl : V1 (20 + 4 + 2 * i) = _))), (jvu_at _ _ _)]) rfl
      refine mj_T.eq (pc2 := 61) (st2 := []) ?_ rfl rfl rfl rfl
      refine mj_T.iinc rfl rfl ?_
      rw [show ((i : Nat) : Int) + 1 = ((i + 1 : Nat) : Int) by omega]
      refine mj_T.eq (loc2 := [some (.ref 19), some (.long (jl f)), none, some (.ref r), some (.int (jn (((i + 1) : Nat) : Int)))]) ?_ rfl rfl rfl rfl
      refine mj_T.pl rfl rfl rfl rfl ?_
      refine mD_ga_loop kr hf sr hM hfit k (i + 1) (by omega) _ _ m8 (fun e he => ?_) ?_ (fun x x1 x2 x3 x4 => ?_)
      · by_cases q : e = i
        · subst q
          rw [jvu_at, ei, e2, if_pos (Nat.lt_succ_self _)]
        · rw [jvu_ne _ _ _ (by omega), jvu_ne _ _ _ (by omega), jvu_ne _ _ _ (by omega), e1 e he]
          by_cases y : e < i
          · rw [if_pos y, if_pos (by omega)]
          · rw [if_neg y, if_neg (by omega)]
      · rw [((jvu_ne _ _ _ (by omega)).trans ((jvu_ne _ _ _ (by omega)).trans ((jvu_ne _ _ _ (by omega)).trans (rfl : V1 168 = _))))]
        exact e2
      · rw [((jvu_ne _ _ _ (by omega)).trans ((jvu_ne _ _ _ (by omega)).trans ((jvu_ne _ _ _ (by omega)).trans (rfl : V1 x = _))))]
        exact e3 x x1 x2 x3 x4
theorem mD_gather (m : jM g n V X h) {f : Int} {W : pz_P} {M : Nat} (kr : cK r = 2) (hf : f.natAbs ≤ 9223372036854775807) (sr : sml (X r)) (hM : ∀ e, (W e).natAbs ≤ M) (hfit : M + 9223372036854775807 * 999999999999999999 < jB ^ 29) (hW : ∀ e, e < 13 → V (20 + 4 + 2 * e) = W e) : mj_Ok (D + 4) 21 [.ref 19, .long (jl f), .ref r] h (fun z => ∃ (V2 : Nat → Int) (h2 : mj_H), jM g n V2 (xup X 20 2 ((fdg (fun e => W e + f * X r e) 13 : Int) - 1)) h2 ∧ (∀ e, e < 13 → V2 (20 + 4 + 2 * e) = W e + f * X r e) ∧ (∀ x, x ≠ 164 → x ≠ 166 → x ≠ 168 → (x < 20 + 4 ∨ 20 + 4 + 2 * 13 ≤ x) → V2 x = V x) ∧ z = (.inl none, h2)) := by
  have c3 : cL (168 + 1) = 40 := mK_z.2.2.2.2.2.2.2.2.2.1
  refine mj_Ok.of (M := mj_m21) rfl rfl rfl ?_
  refine mj_T.pl rfl rfl rfl rfl ?_
  refine mT_get m 11 cq_d19 (by decide) rfl rfl ?_
  refine mj_T.pl rfl rfl rfl rfl ?_
  refine mj_T.call rfl rfl (Nat.le_of_ble_eq_true rfl) (Nat.le_of_ble_eq_true rfl) (mV_of m 18 cq_d168 (by decide) rfl (by decide) rfl _) rfl (mj_Ok.up (by omega) (mW_setLong (D := 0) (v := f) m cq_d168 ⟨by omega, by omega⟩ (by have := jnl_R hf; omega))) (fun v g1 hq => ?_) (fun i g1 hq => ?_)
  rotate_left
  · obtain ⟨_, _, hq⟩ := hq; cases hq
  obtain ⟨_, m2, hq⟩ := hq
  cases hq
  have m2 := m2.to (V' := (jvu V 168 f)) (by rfl) rfl
  refine mj_T.eq (pc2 := 8) (st2 := []) ?_ rfl rfl rfl rfl
  refine mj_T.pl rfl rfl rfl rfl ?_
  refine mj_T.pl (loc' := [some (.ref 19), some (.long (jl f)), none, some (.ref r), some (.int (jn 0))]) rfl rfl rfl rfl ?_
  refine mD_ga_loop kr hf sr hM hfit 13 0 (by omega) _ _ m2 (fun e he => ?_) (jvu_at _ _ _) (fun x x1 x2 x3 x4 => jvu_ne _ _ _ x3)
  rw [if_neg (Nat.not_lt_zero e), jvu_ne _ _ _ (by omega)]
  exact hW e he
end MGA
/-- a number's rest, not below 0 -/
theorem emod_tmod (v p : Int) (hp : 0 < p) : v % p = if v.tmod p < 0 then v.tmod p + p else v.tmod p := by
  have h1 := Int.emod_nonneg v (show p ≠ 0 by omega)
  have h2 := Int.emod_lt_of_pos v hp
  have e1 := Int.mul_ediv_add_emod v p
  have e2 := Int.mul_tdiv_add_tmod v p
  have h3 : (v.tmod p).natAbs < p.natAbs := by
    rw [Int.natAbs_tmod]
    exact Nat.mod_lt _ (by omega)
  have e3 : v % p = v.tmod p + p * (v.tdiv p - v / p) := by
    rw [Int.mul_sub]
    omega
  generalize v.tdiv p - v / p = t at e3
  have t1 : t = 0 ∨ t = 1 ∨ 2 ≤ t ∨ t ≤ -1 := by omega
  rcases t1 with t1 | t1 | t1 | t1
  · rw [t1, Int.mul_zero, Int.add_zero] at e3
    rw [if_neg (by omega), e3]
  · rw [t1, Int.mul_one] at e3
    rw [if_pos (by omega), e3]
  · have := Int.mul_le_mul_of_nonneg_left t1 (Int.le_of_lt hp)
    omega
  · have := Int.mul_le_mul_of_nonneg_left t1 (Int.le_of_lt hp)
    omega
theorem mS_res {h : mj_H} {D : Nat} {v p : Int} (hv : jR v) (hp : 0 < p) (hp2 : p ≤ 1000) : mj_Ok (D + 1) 172 [.long (jl v), .int (jn p)] h (fun z => z = (.inl (some (.int (jn (v % p)))), h)) := by
  have h3 : (v.tmod p).natAbs < p.natAbs := by
    rw [Int.natAbs_tmod]
    exact Nat.mod_lt _ (by omega)
  refine mj_Ok.of (M := mj_m172) rfl rfl rfl ?_
  refine mj_T.pl rfl rfl rfl rfl ?_
  refine mj_T.if0 (a := p) rfl ⟨by omega, by omega⟩ (fun c1 => ?_) (fun c1 => ?_)
  · simp only [jc, Bool.not_eq_true', Bool.not_eq_false', decide_eq_true_eq, decide_eq_false_iff_not] at c1
    iterate 2 refine mj_T.pl rfl rfl rfl rfl ?_
    refine mj_T.i2l rfl ⟨by omega, by omega⟩ ?_
    refine mj_T.lrem (a := v) (b := p) rfl hv ⟨by omega, by omega⟩ (by omega) ?_
    refine mj_T.pl (loc' := [some (.long (jl v)), none, some (.int (jn p)), some (.long (jl (v.tmod p))), none]) rfl rfl rfl rfl ?_
    refine mj_T.pl rfl rfl rfl rfl ?_
    refine jT.lc 0 rfl rfl ?_
    refine mj_T.lif (a := (v.tmod p)) (b := ((0 : Nat) : Int)) rfl rfl ⟨by omega, by omega⟩ ⟨by omega, by omega⟩ (fun c2 => ?_) (fun c2 => ?_)
    · simp only [jc, Bool.not_eq_true', Bool.not_eq_false', decide_eq_true_eq, decide_eq_false_iff_not] at c2
      refine mj_T.pl rfl rfl rfl rfl ?_
      refine mj_T.l2i rfl ?_
      exact mj_T.ret rfl rfl rfl (by rw [emod_tmod v p hp, if_neg (by omega)])
    · simp only [jc, Bool.not_eq_true', Bool.not_eq_false', decide_eq_true_eq, decide_eq_false_iff_not] at c2
      iterate 2 refine mj_T.pl rfl rfl rfl rfl ?_
      refine mj_T.i2l rfl ⟨by omega, by omega⟩ ?_
      refine mj_T.ladd (a := (v.tmod p)) (b := p) rfl ?_
      refine mj_T.pl rfl rfl rfl rfl ?_
      refine mj_T.l2i rfl ?_
      exact mj_T.ret rfl rfl rfl (by rw [emod_tmod v p hp, if_pos (by omega)])
  · exfalso
    simp only [jc, Bool.not_eq_true', Bool.not_eq_false', decide_eq_true_eq, decide_eq_false_iff_not] at c1
    omega
section MDR
variable {g h : mj_H} {n D r t : Nat} {V : Nat → Int} {X : Nat → Nat → Int}
/-- a derived row -/
def dvr (A : Nat → Int) : Nat → Int := fun e => if e < 12 then A (e + 1) * ((e + 1 : Nat) : Int) else 0
theorem mS_der_loop (kr : cK r = 2) (kt : cK t = 2) (hrt : r ≠ t) (sr : sml (X r)) : ∀ k j, j + k = 12 → (∀ e, e < j → (X r (e + 1) * ((e + 1 : Nat) : Int)).natAbs ≤ 999999999999999999) → ∀ (X1 : Nat → Nat → Int) (h1 : mj_H), jM g n V X1 h1 → (∀ a, a ≠ t → X1 a = X a) → (∀ e, e < 13 → X1 t e = if e < j then X r (e + 1) * ((e + 1 : Nat) : Int) else 0) → mj_T (D + 1) mj_m168 6 [some (.ref r), some (.ref t), some (.int (jn ((j + 1 : Nat) : Int)))] [] h1 (fun z => ∃ (X2 : Nat → Nat → Int) (h2 : mj_H), jM g n V X2 h2 ∧ (∀ a, a ≠ t → X2 a = X a) ∧ ((sml (dvr (X r)) ∧ z = (.inl (some (.int (jn 1))), h2) ∧ ∀ e, e < 13 → X2 t e = dvr (X r) e) ∨ (¬ sml (dvr (X r)) ∧ z = (.inl (some (.int (jn 0))), h2))))
  | 0, j, hj, hs, X1, h1, m, f1, f2 => by
    iterate 2 refine mj_T.pl rfl rfl rfl rfl ?_
    refine mT_llen m kr rfl ?_
    refine mj_T.icmp (a := (((j + 1) : Nat) : Int)) (b := ((13 : Nat) : Int)) rfl ⟨by omega, by omega⟩ ⟨by omega, by omega⟩ (fun c1 => ?_) (fun c1 => ?_)
    · simp only [jc, Bool.not_eq_true', Bool.not_eq_false', decide_eq_true_eq, decide_eq_false_iff_not] at c1
      refine mj_T.pl rfl rfl rfl rfl ?_
      have hj : j = 12 := by omega
      subst hj
      refine mj_T.ret rfl rfl rfl ⟨_, _, m, f1, Or.inl ⟨fun e he => ?_, rfl, fun e he => f2 e he⟩⟩
      unfold dvr
      split
      · rename_i c
        exact hs e c
      · exact Nat.zero_le _
    · exfalso
      simp only [jc, Bool.not_eq_true', Bool.not_eq_false', decide_eq_true_eq, decide_eq_false_iff_not] at c1
      omega
  | k + 1, j, hj, hs, X1, h1, m, f1, f2 => by
    obtain ⟨qq, hqq⟩ : ∃ qq, qq = 999999999999999999 / (j + 1) := ⟨_, rfl⟩
    have htd : ((999999999999999999 : Nat) : Int).tdiv ((j + 1 : Nat) : Int) = (qq : Int) := by
      rw [hqq]
      rfl
    have hrow : X1 r = X r := f1 r hrt
    have hx := sr (j + 1) (by omega)
    have hjr1 : ∀ i, i < 13 → jR (X1 r i) := fun i hi => by
      rw [hrow]
      have := sr i hi
      exact ⟨by omega, by omega⟩
    have hqn : qq * (j + 1) ≤ 999999999999999999 := by
      rw [hqq]
      exact Nat.div_mul_le_self _ _
    have hqn2 : 999999999999999999 < (qq + 1) * (j + 1) := by
      have := Nat.lt_div_mul_add (a := 999999999999999999) (show 0 < j + 1 by omega)
      rw [Nat.add_mul, hqq]
      omega
    have hql : qq ≤ 999999999999999999 := by
      rw [hqq]
      exact Nat.div_le_self _ _
    clear hqq
    have hin : X1 r (j + 1) ≤ (qq : Int) → -(qq : Int) ≤ X1 r (j + 1) → (X r (j + 1) * ((j + 1 : Nat) : Int)).natAbs ≤ 999999999999999999 := fun h1 h2 => by
      rw [hrow] at h1 h2
      rw [Int.natAbs_mul, Int.natAbs_natCast]
      exact Nat.le_trans (Nat.mul_le_mul_right _ (show (X r (j + 1)).natAbs ≤ qq by omega)) hqn
    have hbig : ((qq : Int) < X1 r (j + 1) ∨ X1 r (j + 1) < -(qq : Int)) → ¬ (X r (j + 1) * ((j + 1 : Nat) : Int)).natAbs ≤ 999999999999999999 := fun h1 h2 => by
      rw [hrow] at h1
      rw [Int.natAbs_mul, Int.natAbs_natCast] at h2
      have := Nat.mul_le_mul_right (j + 1) (show qq + 1 ≤ (X r (j + 1)).natAbs by omega)
      omega
    iterate 2 refine mj_T.pl rfl rfl rfl rfl ?_
    refine mT_llen m kr rfl ?_
    refine mj_T.icmp (a := (((j + 1) : Nat) : Int)) (b := ((13 : Nat) : Int)) rfl ⟨by omega, by omega⟩ ⟨by omega, by omega⟩ (fun c1 => ?_) (fun c1 => ?_)
    · exfalso
      simp only [jc, Bool.not_eq_true', Bool.not_eq_false', decide_eq_true_eq, decide_eq_false_iff_not] at c1
      omega
    · simp only [jc, Bool.not_eq_true', Bool.not_eq_false', decide_eq_true_eq, decide_eq_false_iff_not] at c1
      iterate 2 refine mj_T.pl rfl rfl rfl rfl ?_
      refine mT_llen m kt rfl ?_
      refine mj_T.icmp (a := (((j + 1) : Nat) : Int)) (b := ((13 : Nat) : Int)) rfl ⟨by omega, by omega⟩ ⟨by omega, by omega⟩ (fun c2 => ?_) (fun c2 => ?_)
      · exfalso
        simp only [jc, Bool.not_eq_true', Bool.not_eq_false', decide_eq_true_eq, decide_eq_false_iff_not] at c2
        omega
      · simp only [jc, Bool.not_eq_true', Bool.not_eq_false', decide_eq_true_eq, decide_eq_false_iff_not] at c2
        iterate 2 refine mj_T.pl rfl rfl rfl rfl ?_
        refine mT_lald m kr rfl ⟨by omega, by omega⟩ ?_
        refine mj_T.eq (st2 := [.long (jl (X1 r (j + 1)))]) ?_ rfl rfl rfl rfl
        refine jT.ldcL rfl ?_
        refine mj_T.pl rfl rfl rfl rfl ?_
        refine mj_T.i2l rfl ⟨by omega, by omega⟩ ?_
        refine mT_ldiv rfl ⟨by decide, by decide⟩ (by decide) ⟨by omega, by omega⟩ (by omega) ?_
        refine mj_T.lif (a := (X1 r (j + 1))) (b := (((999999999999999999 : Nat) : Int).tdiv (((j + 1) : Nat) : Int))) rfl rfl (hjr1 (j + 1) (by omega)) ⟨by omega, by omega⟩ (fun c3 => ?_) (fun c3 => ?_)
        · simp only [jc, Bool.not_eq_true', Bool.not_eq_false', decide_eq_true_eq, decide_eq_false_iff_not] at c3
          refine mj_T.pl rfl rfl rfl rfl ?_
          refine mj_T.ret rfl rfl rfl ⟨_, _, m, f1, Or.inr ⟨fun q => ?_, rfl⟩⟩
          have q2 := q j (by omega)
          unfold dvr at q2
          rw [if_pos (by omega)] at q2
          exact hbig (by omega) q2
        · simp only [jc, Bool.not_eq_true', Bool.not_eq_false', decide_eq_true_eq, decide_eq_false_iff_not] at c3
          iterate 2 refine mj_T.pl rfl rfl rfl rfl ?_
          refine mT_lald m kr rfl ⟨by omega, by omega⟩ ?_
          refine mj_T.eq (st2 := [.long (jl (X1 r (j + 1)))]) ?_ rfl rfl rfl rfl
          refine jT.ldcL rfl ?_
          refine mj_T.pl rfl rfl rfl rfl ?_
          refine mj_T.i2l rfl ⟨by omega, by omega⟩ ?_
          refine mT_ldiv rfl ⟨by decide, by decide⟩ (by decide) ⟨by omega, by omega⟩ (by omega) ?_
          refine mj_T.lneg rfl ?_
          refine mj_T.lif (a := (X1 r (j + 1))) (b := (-(((999999999999999999 : Nat) : Int).tdiv (((j + 1) : Nat) : Int)))) rfl rfl (hjr1 (j + 1) (by omega)) ⟨by omega, by omega⟩ (fun c4 => ?_) (fun c4 => ?_)
          · simp only [jc, Bool.not_eq_true', Bool.not_eq_false', decide_eq_true_eq, decide_eq_false_iff_not] at c4
            iterate 3 refine mj_T.pl rfl rfl rfl rfl ?_
            refine mj_T.isub (a := (((j + 1) : Nat) : Int)) (b := 1) rfl ?_
            rw [show (((j + 1 : Nat) : Int) - 1) = ((j : Nat) : Int) by omega]
            iterate 2 refine mj_T.pl rfl rfl rfl rfl ?_
            refine mT_lald m kr rfl ⟨by omega, by omega⟩ ?_
            refine mj_T.eq (st2 := [.long (jl (X1 r (j + 1))), .int (jn ((j : Nat) : Int)), .ref t]) ?_ rfl rfl rfl rfl
            refine mj_T.pl rfl rfl rfl rfl ?_
            refine mj_T.i2l rfl ⟨by omega, by omega⟩ ?_
            refine mj_T.lmul (a := (X1 r (j + 1))) (b := (((j + 1) : Nat) : Int)) rfl ?_
            refine mT_last (v := ((X1 r (j + 1)) * (((j + 1) : Nat) : Int))) m kt rfl ⟨by omega, by omega⟩ (fun h5 m6 => ?_)
            refine mj_T.iinc rfl rfl ?_
            rw [show (((j + 1) : Nat) : Int) + 1 = (((j + 1) + 1 : Nat) : Int) by omega]
            refine mj_T.eq (loc2 := [some (.ref r), some (.ref t), some (.int (jn ((((j + 1) + 1) : Nat) : Int)))]) ?_ rfl rfl rfl rfl
            refine mj_T.pl rfl rfl rfl rfl ?_
            refine mS_der_loop kr kt hrt sr k (j + 1) (by omega) (fun e he => ?_) (xup X1 t j ((X1 r (j + 1)) * (((j + 1) : Nat) : Int))) _ m6 (fun a ha => ?_) (fun e he => ?_)
            · by_cases q : e = j
              · subst q
                exact hin (by omega) (by omega)
              · exact hs e (by omega)
            · rw [xup_oth ha]
              exact f1 a ha
            · by_cases q : e = j
              · subst q
                rw [xup_at, f1 r hrt, if_pos (Nat.lt_succ_self _)]
              · rw [xup_ne _ _ (Or.inr q), f2 e he]
                by_cases y : e < j
                · rw [if_pos y, if_pos (by omega)]
                · rw [if_neg y, if_neg (by omega)]
          · simp only [jc, Bool.not_eq_true', Bool.not_eq_false', decide_eq_true_eq, decide_eq_false_iff_not] at c4
            refine mj_T.pl rfl rfl rfl rfl ?_
            refine mj_T.ret rfl rfl rfl ⟨_, _, m, f1, Or.inr ⟨fun q => ?_, rfl⟩⟩
            have q2 := q j (by omega)
            unfold dvr at q2
            rw [if_pos (by omega)] at q2
            exact hbig (by omega) q2
theorem mS_derive (m : jM g n V X h) (kr : cK r = 2) (kt : cK t = 2) (hrt : r ≠ t) (sr : sml (X r)) : mj_Ok (D + 2) 168 [.ref r, .ref t] h (fun z => ∃ (X2 : Nat → Nat → Int) (h2 : mj_H), jM g n V X2 h2 ∧ (∀ a, a ≠ t → X2 a = X a) ∧ ((sml (dvr (X r)) ∧ z = (.inl (some (.int (jn 1))), h2) ∧ ∀ e, e < 13 → X2 t e = dvr (X r) e) ∨ (¬ sml (dvr (X r)) ∧ z = (.inl (some (.int (jn 0))), h2)))) := by
  refine mj_Ok.of (M := mj_m168) rfl rfl rfl ?_
  refine mj_T.pl rfl rfl rfl rfl ?_
  refine mj_T.call rfl rfl (Nat.le_of_ble_eq_true rfl) (Nat.le_of_ble_eq_true rfl) rfl rfl (mj_Ok.up (by omega) (mS_clear (D := 0) m kt)) (fun v g1 hq => ?_) (fun i g1 hq => ?_)
  rotate_left
  · obtain ⟨_, _, hq⟩ := hq; cases hq
  obtain ⟨_, m2, hq⟩ := hq
  cases hq
  refine mj_T.eq (pc2 := 4) (st2 := []) ?_ rfl rfl rfl rfl
  refine mj_T.pl rfl rfl rfl rfl ?_
  refine mj_T.pl (loc' := [some (.ref r), some (.ref t), some (.int (jn 1))]) rfl rfl rfl rfl ?_
  refine mj_T.eq (loc2 := [some (.ref r), some (.ref t), some (.int (jn ((0 + 1 : Nat) : Int)))]) ?_ rfl rfl rfl rfl
  exact mS_der_loop kr kt hrt sr 12 0 (by omega) (fun e he => absurd he (Nat.not_lt_zero e)) _ _ m2 (fun a ha => xfl_off _ _ _ ha) (fun e he => (xfl_at _ _ _ he).trans (if_neg (Nat.not_lt_zero e)).symm)
end MDR
