/-! The roots of the class, exactly: takePrimitive. -/
theorem shg_congr {f f' : Nat → Int} {s0 : Nat} : ∀ k, (∀ i, i < k → f' i = f i) → shg f' s0 k = shg f s0 k
  | 0, _ => rfl
  | k + 1, h => by
    show Nat.gcd (f' k).natAbs (shg f' s0 k) = Nat.gcd (f k).natAbs (shg f s0 k)
    rw [h k (by omega), shg_congr k (fun i hi => h i (by omega))]
section MTP
variable {g h : mj_H} {n D z : Nat} {V : Nat → Int} {X : Nat → Nat → Int}
theorem mR_tp_loop {dz ld : Nat} {P : pz_P} (kz : cK z = 13) (hz : 180 ≤ z) (hX : X z 2 = (dz : Int)) (hdz : dz < cL (z + 3)) (hld : 1 ≤ ld) (hld2 : ld ≤ 9223372036854775807) (hne : V (z + 4 + 2 * dz) ≠ 0) (hP : ∀ e, e ≤ dz → V (z + 4 + 2 * e) * (ld : Int) = V (z + 4 + 2 * dz) * P e) (hPz : ∀ e, dz < e → P e = 0) (hl : ∀ e, jnl (P e).natAbs ≤ 29) (hzz : ∀ e, e < cL (z + 3) → jnl (V (z + 4 + 2 * e)).natAbs ≤ 60) {Q : mj_R → Prop} (hend : ∀ (V1 : Nat → Int) (h1 : mj_H), jM g n V1 (xup X 20 2 (-1)) h1 → (∀ e, e < 13 → V1 (20 + 4 + 2 * e) = if e < dz + 1 then P e else 0) → V1 170 = V (z + 4 + 2 * dz) → (∀ x, x ≠ 164 → x ≠ 166 → x ≠ 168 → x ≠ 170 → (x < 20 + 4 ∨ 20 + 4 + 2 * 13 ≤ x) → V1 x = V x) → mj_T (D + 3) mj_m60 102 [some (.ref 444), some (.ref z), some (.long (jl (ld : Int))), none, some (.int (jn ((dz + 1 : Nat) : Int)))] [] h1 Q) : ∀ k i, i + k = dz + 1 → ∀ (V1 : Nat → Int) (h1 : mj_H), jM g n V1 (xup X 20 2 (-1)) h1 → (∀ e, e < 13 → V1 (20 + 4 + 2 * e) = if e < i then P e else 0) → V1 170 = V (z + 4 + 2 * dz) → (∀ x, x ≠ 164 → x ≠ 166 → x ≠ 168 → x ≠ 170 → (x < 20 + 4 ∨ 20 + 4 + 2 * 13 ≤ x) → V1 x = V x) → mj_T (D + 3) mj_m60 27 [some (.ref 444), some (.ref z), some (.long (jl (ld : Int))), none, some (.int (jn ((i : Nat) : Int)))] [] h1 Q
  | 0, i, hi, V1, h1, m, e1, e2, e3 => by
    have hz13 := mP_13 kz hz
    iterate 2 refine mj_T.pl rfl rfl rfl rfl ?_
    refine mT_get (v := .int (jn ((dz : Nat) : Int))) m 13 kz (by decide) rfl (congrArg (fun z : Int => some (Value.int (jn z))) ((congrFun (xup_oth (by omega)) 2).trans hX)) ?_
    refine mj_T.icmp (a := ((i : Nat) : Int)) (b := ((dz : Nat) : Int)) rfl ⟨by omega, by omega⟩ ⟨by omega, by omega⟩ (fun c1 => ?_) (fun c1 => ?_)
    · simp only [jc, Bool.not_eq_true', Bool.not_eq_false', decide_eq_true_eq, decide_eq_false_iff_not] at c1
      have hi2 : i = dz + 1 := by omega
      subst hi2
      exact hend V1 _ m e1 e2 e3
    · exfalso
      simp only [jc, Bool.not_eq_true', Bool.not_eq_false', decide_eq_true_eq, decide_eq_false_iff_not] at c1
      omega
  | k + 1, i, hi, V1, h1, m, e1, e2, e3 => by
    have p20 : cL (20 + 3) = 13 := mK_z.1
    have c2 : cL (166 + 1) = 240 := mK_z.2.2.2.2.2.2.2.2.1
    have hz13 := mP_13 kz hz
    have hpz := mP_pos kz
    have c20 := (mK_z.2.2.2.2.1 i (by omega)).1
    iterate 2 refine mj_T.pl rfl rfl rfl rfl ?_
    refine mT_get (v := .int (jn ((dz : Nat) : Int))) m 13 kz (by decide) rfl (congrArg (fun z : Int => some (Value.int (jn z))) ((congrFun (xup_oth (by omega)) 2).trans hX)) ?_
    refine mj_T.icmp (a := ((i : Nat) : Int)) (b := ((dz : Nat) : Int)) rfl ⟨by omega, by omega⟩ ⟨by omega, by omega⟩ (fun c1 => ?_) (fun c1 => ?_)
    · exfalso
      simp only [jc, Bool.not_eq_true', Bool.not_eq_false', decide_eq_true_eq, decide_eq_false_iff_not] at c1
      omega
    · simp only [jc, Bool.not_eq_true', Bool.not_eq_false', decide_eq_true_eq, decide_eq_false_iff_not] at c1
      refine mj_T.pl rfl rfl rfl rfl ?_
      refine mT_get m 15 cq_d444 (by decide) rfl rfl ?_
      refine mT_get m 11 cq_d19 (by decide) rfl rfl ?_
      iterate 2 refine mj_T.pl rfl rfl rfl rfl ?_
      refine mj_T.call rfl rfl (Nat.le_of_ble_eq_true rfl) (Nat.le_of_ble_eq_true rfl) (mV_of m 13 kz (by decide) rfl (by decide) rfl _) rfl (mj_Ok.up (by omega) (mP_at (D := 0) m kz (e := i) (by omega))) (fun v g2 hq => ?_) (fun i g2 hq => ?_)
      rotate_left
      · cases hq
      cases hq
      refine mj_T.eq (pc2 := 49) (st2 := [.ref (z + 4 + 2 * i), .ref 166]) ?_ rfl rfl rfl rfl
      have ez : V1 (z + 4 + 2 * i) = V (z + 4 + 2 * i) := e3 _ (by omega) (by omega) (by omega) (by omega) (by omega)
      have hz6 := hzz i (by omega)
      have hpr : jnl (V (z + 4 + 2 * i) * (ld : Int)).natAbs ≤ 63 := by
        rw [Int.natAbs_mul]
        have q1 := jnl_mul (V (z + 4 + 2 * i)).natAbs ((ld : Int)).natAbs
        have q2 : jnl ((ld : Int)).natAbs ≤ 3 := jnl_R (by rw [Int.natAbs_natCast]; omega)
        omega
      refine mj_T.call rfl rfl (Nat.le_of_ble_eq_true rfl) (Nat.le_of_ble_eq_true rfl) (mV_of m 18 cq_d166 (by decide) rfl (by decide) rfl _) rfl (mj_Ok.up (by omega) (mW_set (D := 0) m cq_d166 ((mK_p kz).2.2.2 _ (by omega)) (by omega) (by rw [ez]; omega))) (fun v g3 hq => ?_) (fun i g3 hq => ?_)
      rotate_left
      · obtain ⟨_, _, hq⟩ := hq; cases hq
      obtain ⟨_, m4, hq⟩ := hq
      cases hq
      refine mj_T.eq (pc2 := 52) (st2 := []) ?_ rfl rfl rfl rfl
      refine mj_T.pl rfl rfl rfl rfl ?_
      refine mT_get m4 15 cq_d444 (by decide) rfl rfl ?_
      refine mj_T.pl rfl rfl rfl rfl ?_
      refine mT_get m4 15 cq_d444 (by decide) rfl rfl ?_
      refine mT_get m4 11 cq_d19 (by decide) rfl rfl ?_
      refine mj_T.pl rfl rfl rfl rfl ?_
      refine mj_T.call rfl rfl (Nat.le_of_ble_eq_true rfl) (Nat.le_of_ble_eq_true rfl) (mV_of m4 11 cq_d19 (by decide) rfl (by decide) rfl _) rfl (mj_Ok.up (by omega) (mD_enlarge (D := 0) (f := (ld : Int)) m4 cq_d166 ⟨by decide, by decide⟩ (by rw [Int.natAbs_natCast]; omega) (by rw [jvu_at, ez]; omega) (by rw [jvu_at, ez]; omega) (hcl := by rw [jvu_at, ez]; omega))) (fun v g5 hq => ?_) (fun i g5 hq => ?_)
      rotate_left
      · obtain ⟨_, _, _, _, _, hq⟩ := hq; cases hq
      obtain ⟨V3, _, m6, f0, f1, hq⟩ := hq
      cases hq
      rw [jvu_at, ez, hP i (by omega)] at f0
      have g170 : V3 170 = V (z + 4 + 2 * dz) := (f1 170 (by decide) (by decide) (by decide)).trans ((jvu_ne _ _ _ (by decide)).trans e2)
      refine mj_T.eq (pc2 := 67) (st2 := []) ?_ rfl rfl rfl rfl
      refine mj_T.pl rfl rfl rfl rfl ?_
      refine mT_get m6 15 cq_d444 (by decide) rfl rfl ?_
      refine mT_get m6 11 cq_d19 (by decide) rfl rfl ?_
      refine mj_T.pl rfl rfl rfl rfl ?_
      refine mT_get m6 15 cq_d444 (by decide) rfl rfl ?_
      refine mT_get m6 11 cq_d19 (by decide) rfl rfl ?_
      refine mj_T.pl rfl rfl rfl rfl ?_
      refine mT_get m6 15 cq_d444 (by decide) rfl rfl ?_
      refine mT_get m6 11 cq_d19 (by decide) rfl rfl ?_
      refine mj_T.pl rfl rfl rfl rfl ?_
      refine mj_T.call rfl rfl (Nat.le_of_ble_eq_true rfl) (Nat.le_of_ble_eq_true rfl) (mV_of m6 13 cq_d20 (by decide) rfl (by decide) rfl _) rfl (mj_Ok.up (by omega) (mP_at (D := 0) m6 cq_d20 (e := i) (by omega))) (fun v g7 hq => ?_) (fun i g7 hq => ?_)
      rotate_left
      · cases hq
      cases hq
      refine mj_T.eq (pc2 := 93) (st2 := [.ref (20 + 4 + 2 * i), .ref 166, .ref 170]) ?_ rfl rfl rfl rfl
      refine mj_T.call rfl rfl (Nat.le_of_ble_eq_true rfl) (Nat.le_of_ble_eq_true rfl) (mV_of m6 12 cq_d170 (by decide) rfl (by decide) rfl _) rfl (mj_Ok.up (by omega) (mW_split (D := 0) m6 cq_d170 cq_d166 ((mK_p cq_d20).2.2.2 _ (by omega)) (by omega) (by rw [(rfl : V3 166 = _), (rfl : V3 170 = _)]; exact (by rw [f0, g170, ← hP i (by omega)]; exact jfa_one (by omega))) (by rw [(rfl : V3 166 = _), (rfl : V3 170 = _)]; exact (by rw [f0, g170, Int.mul_tdiv_cancel_left _ hne]; have := hl i; omega)) (hcc := by rw [(rfl : V3 170 = _)]; rw [g170]; have q := hzz dz hdz; omega))) (fun v g8 hq => ?_) (fun i g8 hq => ?_)
      rotate_left
      · obtain ⟨_, _, hq⟩ := hq; cases hq
      obtain ⟨_, m9, hq⟩ := hq
      cases hq
      have m9 := m9.to (V' := (jvu (jvu V3 166 ((V3 166).tmod (V3 170))) (20 + 4 + 2 * i) ((V3 166).tdiv (V3 170)))) (by rw [(rfl : V3 166 = _), (rfl : V3 170 = _)]) rfl
      refine mj_T.eq (pc2 := 96) (st2 := []) ?_ rfl rfl rfl rfl
      refine mj_T.iinc rfl rfl ?_
      rw [show ((i : Nat) : Int) + 1 = ((i + 1 : Nat) : Int) by omega]
      refine mj_T.eq (loc2 := [some (.ref 444), some (.ref z), some (.long (jl (ld : Int))), none, some (.int (jn (((i + 1) : Nat) : Int)))]) ?_ rfl rfl rfl rfl
      refine mj_T.pl rfl rfl rfl rfl ?_
      refine mR_tp_loop kz hz hX hdz hld hld2 hne hP hPz hl hzz hend k (i + 1) (by omega) _ _ m9 (fun e he => ?_) ?_ (fun x x1 x2 x3 x4 x5 => ?_)
      · by_cases q : e = i
        · subst q
          rw [jvu_at, if_pos (Nat.lt_succ_self _), f0, g170]
          exact Int.mul_tdiv_cancel_left _ hne
        · rw [jvu_ne _ _ _ (by omega), jvu_ne _ _ _ (by omega), f1 _ (by omega) (by omega) (by omega), jvu_ne _ _ _ (by omega), e1 e he]
          by_cases y : e < i
          · rw [if_pos y, if_pos (by omega)]
          · rw [if_neg y, if_neg (by omega)]
      · rw [((jvu_ne _ _ _ (by omega)).trans ((jvu_ne _ _ _ (by omega)).trans (rfl : V3 170 = _)))]
        exact g170
      · rw [((jvu_ne _ _ _ (by omega)).trans ((jvu_ne _ _ _ (by omega)).trans (rfl : V3 x = _))), f1 x x1 x3 x2, jvu_ne _ _ _ x2]
        exact e3 x x1 x2 x3 x4 x5
theorem mR_takeP (m : jM g n V X h) {dz ld : Nat} {P : pz_P} (kz : cK z = 13) (hz : 180 ≤ z) (hX : X z 2 = (dz : Int)) (hdz : dz < cL (z + 3)) (hld : 1 ≤ ld) (hld2 : ld ≤ 9223372036854775807) (hne : V (z + 4 + 2 * dz) ≠ 0) (hP : ∀ e, e ≤ dz → V (z + 4 + 2 * e) * (ld : Int) = V (z + 4 + 2 * dz) * P e) (hPz : ∀ e, dz < e → P e = 0) (hl : ∀ e, jnl (P e).natAbs ≤ 29) (hzz : ∀ e, e < cL (z + 3) → jnl (V (z + 4 + 2 * e)).natAbs ≤ 60) : mj_Ok (D + 5) 60 [.ref 444, .ref z, .long (jl (ld : Int))] h (fun r => ∃ V2 h2, jM g n V2 (xup X 20 2 ((fdg P 13 : Int) - 1)) h2 ∧ (∀ e, e < 13 → V2 (20 + 4 + 2 * e) = (P e).tdiv ((shg P ld (fdg P 13) : Nat) : Int)) ∧ (∀ x, x ≠ 164 → x ≠ 166 → x ≠ 168 → x ≠ 170 → (x < 20 + 4 ∨ 20 + 4 + 2 * 13 ≤ x) → V2 x = V x) ∧ r = (.inl none, h2)) := by
  have p20 : cL (20 + 3) = 13 := mK_z.1
  have c4 : cL (170 + 1) = 60 := mK_z.2.2.2.2.2.2.2.2.2.2.1
  have hz13 := mP_13 kz hz
  have hpz := mP_pos kz
  have hprep : jnl (V (z + 4 + 2 * dz)).natAbs ≤ cL (170 + 1) := by
    rw [c4]
    exact hzz dz hdz
  refine mj_Ok.of (M := mj_m60) rfl rfl rfl ?_
  refine mj_T.pl rfl rfl rfl rfl ?_
  refine mT_get m 15 cq_d444 (by decide) rfl rfl ?_
  refine mT_get m 11 cq_d19 (by decide) rfl rfl ?_
  refine mj_T.call rfl rfl (Nat.le_of_ble_eq_true rfl) (Nat.le_of_ble_eq_true rfl) (mV_of m 13 cq_d20 (by decide) rfl (by decide) rfl _) rfl (mj_Ok.up (by omega) (mP_clear (D := 0) m cq_d20)) (fun v g1 hq => ?_) (fun i g1 hq => ?_)
  rotate_left
  · obtain ⟨_, _, hq⟩ := hq; cases hq
  obtain ⟨_, m2, hq⟩ := hq
  cases hq
  rw [p20] at m2
  refine mj_T.eq (pc2 := 10) (st2 := []) ?_ rfl rfl rfl rfl
  refine mj_T.pl rfl rfl rfl rfl ?_
  refine mT_get m2 15 cq_d444 (by decide) rfl rfl ?_
  refine mT_get m2 11 cq_d19 (by decide) rfl rfl ?_
  refine mj_T.pl rfl rfl rfl rfl ?_
  refine mj_T.call rfl rfl (Nat.le_of_ble_eq_true rfl) (Nat.le_of_ble_eq_true rfl) (mV_of m2 13 kz (by decide) rfl (by decide) rfl _) rfl (mj_Ok.up (by omega) (mP_lead (D := 0) m2 kz ((congrFun (xup_oth (by omega)) 2).trans hX) hdz)) (fun v g3 hq => ?_) (fun i g3 hq => ?_)
  rotate_left
  · cases hq
  cases hq
  refine mj_T.eq (pc2 := 21) (st2 := [.ref (z + 4 + 2 * dz), .ref 170]) ?_ rfl rfl rfl rfl
  refine mj_T.call rfl rfl (Nat.le_of_ble_eq_true rfl) (Nat.le_of_ble_eq_true rfl) (mV_of m2 12 cq_d170 (by decide) rfl (by decide) rfl _) rfl (mj_Ok.up (by omega) (mW_prepare (D := 0) m2 cq_d170 ((mK_p kz).2.2.2 dz hdz) (by rw [pfl_off _ _ _ (by omega)]; exact hprep))) (fun v g4 hq => ?_) (fun i g4 hq => ?_)
  rotate_left
  · obtain ⟨_, _, hq⟩ := hq; cases hq
  obtain ⟨_, m5, hq⟩ := hq
  cases hq
  have m5 := m5.to (V' := (jvu (pfl V 20 (fun _ => 0) 13) 170 ((pfl V 20 (fun _ => 0) 13) (z + 4 + 2 * dz)))) (by rw [(rfl : (pfl V 20 (fun _ => 0) 13) (z + 4 + 2 * dz) = _)]) rfl
  refine mj_T.eq (pc2 := 24) (st2 := []) ?_ rfl rfl rfl rfl
  refine mj_T.pl rfl rfl rfl rfl ?_
  refine mj_T.pl (loc' := [some (.ref 444), some (.ref z), some (.long (jl (ld : Int))), none, some (.int (jn 0))]) rfl rfl rfl rfl ?_
  refine mR_tp_loop (D := D + 1) (V := V) (P := P) kz hz hX hdz hld hld2 hne hP hPz hl hzz (fun V1 h1 m1 e1 e2 e3 => ?_) (dz + 1) 0 (by omega) _ _ m5 (fun e he => ?_) ?_ (fun x x1 x2 x3 x4 x5 => ?_)
  rotate_left
  · rw [jvu_ne _ _ _ (by omega), pfl_at _ _ _ he]
    exact (if_neg (Nat.not_lt_zero _)).symm
  · exact (jvu_at _ _ _).trans (pfl_off _ _ _ (by omega))
  · rw [jvu_ne _ _ _ x4]
    exact pfl_off _ _ _ x5
  have hV1 : ∀ e, e < 13 → V1 (20 + 4 + 2 * e) = P e := fun e he => by
    rw [e1 e he]
    by_cases q : e < dz + 1
    · rw [if_pos q]
    · rw [if_neg q, hPz e (by omega)]
  have hfl := fdg_le P 13
  refine mj_T.pl rfl rfl rfl rfl ?_
  refine mT_get m1 15 cq_d444 (by decide) rfl rfl ?_
  refine mT_get m1 11 cq_d19 (by decide) rfl rfl ?_
  refine mj_T.call rfl rfl (Nat.le_of_ble_eq_true rfl) (Nat.le_of_ble_eq_true rfl) (mV_of m1 13 cq_d20 (by decide) rfl (by decide) rfl _) rfl (mj_Ok.up (by omega) (mP_settle (D := 0) m1 cq_d20 (fun e he => by rw [p20] at he; rw [hV1 e he]; have := hl e; omega))) (fun v g61 hq => ?_) (fun i g61 hq => ?_)
  rotate_left
  · obtain ⟨_, _, hq⟩ := hq; cases hq
  obtain ⟨_, m62, hq⟩ := hq
  cases hq
  rw [p20, xup_xup, fdg_congr (f' := pco V1 20) (f := P) 13 hV1] at m62
  refine mj_T.eq (pc2 := 112) (st2 := []) ?_ rfl rfl rfl rfl
  refine mj_T.pl rfl rfl rfl rfl ?_
  refine mT_get m62 15 cq_d444 (by decide) rfl rfl ?_
  refine mj_T.pl rfl rfl rfl rfl ?_
  refine mj_T.call rfl rfl (Nat.le_of_ble_eq_true rfl) (Nat.le_of_ble_eq_true rfl) (mV_of m62 11 cq_d19 (by decide) rfl (by decide) rfl _) rfl (mj_Ok.up (by omega) (mD_shorten (D := D) (d := fdg P 13) (s0 := ld) m62 (xup_at _ _ _ _) (fdg_le _ _) hld hld2 (fun e q1 q2 => by rw [hV1 e q2]; exact fdg_zero P 13 e q1 q2) (fun e he => by rw [hV1 e he]; exact hl e))) (fun v g63 hq => ?_) (fun i g63 hq => ?_)
  rotate_left
  · obtain ⟨_, _, _, _, _, hq⟩ := hq; cases hq
  obtain ⟨V5, _, m64, f1, f2, hq⟩ := hq
  cases hq
  rw [shg_congr (f' := pco V1 20) (f := P) (fdg P 13) (fun i hi => hV1 i (by omega))] at f1
  refine mj_T.eq (pc2 := 120) (st2 := [.long (jl ((shg (pco V1 20) ld (fdg P 13) : Nat) : Int))]) ?_ rfl rfl rfl rfl
  refine mj_T.pl rfl rfl rfl rfl ?_
  refine mj_T.ret rfl rfl rfl ⟨V5, _, m64, fun e he => ?_, fun x x1 x2 x3 x4 x5 => ?_, rfl⟩
  · rw [f1 e he, hV1 e he]
  · rw [f2 x x1 x2 x3 x4 x5]
    exact e3 x x1 x2 x3 x4 x5
end MTP
