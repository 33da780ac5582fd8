/-! The desk of the class, exactly: the coefficients are divided. -/
def itd (x d : Int) : Nat → Int
  | 0 => x
  | t + 1 => (itd x d t).tdiv d
theorem itd_le (x d : Int) : ∀ t, (itd x d t).natAbs ≤ x.natAbs
  | 0 => Nat.le_refl _
  | t + 1 => Nat.le_trans (Int.natAbs_tdiv_le_natAbs _ _) (itd_le x d t)
theorem itd_zero (d : Int) : ∀ t, itd 0 d t = 0
  | 0 => rfl
  | t + 1 => by
    show (itd 0 d t).tdiv d = 0
    rw [itd_zero d t, Int.zero_tdiv]
theorem itd_mul {d : Int} (hd : d ≠ 0) (y : Int) : ∀ t, itd (d ^ t * y) d t = y
  | 0 => by
    show d ^ 0 * y = y
    rw [Int.pow_zero, Int.one_mul]
  | t + 1 => by
    show (itd (d ^ (t + 1) * y) d t).tdiv d = y
    rw [Int.pow_succ, Int.mul_assoc, itd_mul hd (d * y) t]
    exact Int.mul_tdiv_cancel_left _ hd
/-- what holds while they are divided -/
def dpI (V : Nat → Int) (p m : Nat) (d : Int) (t i : Nat) (V1 : Nat → Int) : Prop := (∀ e, e < m → V1 (p + 4 + 2 * e) = if e < i then itd (V (p + 4 + 2 * e)) d t else V (p + 4 + 2 * e)) ∧ V1 170 = d ∧ ∀ x, x ≠ 164 → x ≠ 170 → (x < p + 4 ∨ p + 4 + 2 * m ≤ x) → V1 x = V x
section MDP
variable {g h : mj_H} {n D p b : Nat} {V : Nat → Int} {X : Nat → Nat → Int}
theorem mD_dp_in (kp : cK p = 13) (kb : cK b = 18) {t i : Nat} {x d : Int} {V0 : Nat → Int} (ht : t ≤ 1000) (hi : i < cL (p + 3)) (hm : jnl x.natAbs + 1 ≤ cL (p + 4 + 2 * i + 1)) (hm2 : jnl x.natAbs ≤ 240) (hd60 : jnl d.natAbs ≤ 60) {Q : mj_R → Prop} (hend : ∀ (V1 : Nat → Int) (h1 : mj_H), jM g n V1 X h1 → V1 (p + 4 + 2 * i) = itd x d t → V1 170 = d → (∀ y, y ≠ 164 → y ≠ 170 → y ≠ p + 4 + 2 * i → V1 y = V0 y) → mj_T (D + 2) mj_m20 65 [some (.ref 19), some (.ref p), some (.ref b), some (.int (jn (t : Int))), some (.int (jn (i : Int))), some (.ref (p + 4 + 2 * i)), some (.int (jn (t : Int)))] [] h1 Q) : ∀ k j, j + k = t → ∀ (V1 : Nat → Int) (h1 : mj_H), jM g n V1 X h1 → V1 (p + 4 + 2 * i) = itd x d j → V1 170 = d → (∀ y, y ≠ 164 → y ≠ 170 → y ≠ p + 4 + 2 * i → V1 y = V0 y) → mj_T (D + 2) mj_m20 31 [some (.ref 19), some (.ref p), some (.ref b), some (.int (jn (t : Int))), some (.int (jn (i : Int))), some (.ref (p + 4 + 2 * i)), some (.int (jn (j : Int)))] [] h1 Q
  | 0, j, hj, V1, h1, m, e1, e2, e3 => by
    iterate 2 refine mj_T.pl rfl rfl rfl rfl ?_
    refine mj_T.icmp (a := ((j : Nat) : Int)) (b := ((t : Nat) : Int)) rfl ⟨by omega, by omega⟩ ⟨by omega, by omega⟩ (fun c1 => ?_) (fun c1 => ?_)
    · simp only [jc, Bool.not_eq_true', Bool.not_eq_false', decide_eq_true_eq, decide_eq_false_iff_not] at c1
      have hjt : j = t := by omega
      subst hjt
      exact hend V1 _ m e1 e2 e3
    · exfalso
      simp only [jc, Bool.not_eq_true', Bool.not_eq_false', decide_eq_true_eq, decide_eq_false_iff_not] at c1
      omega
  | k + 1, j, hj, V1, h1, m, e1, e2, e3 => by
    have c1 : cL (164 + 1) = 240 := mK_z.2.2.2.2.2.2.2.1
    have hpp := mP_pos kp
    have hbp := (mK_p kp).2.2.1
    have hle := jnl_mono (itd_le x d j)
    have h170 : p + 4 + 2 * i ≠ 170 := by omega
    iterate 2 refine mj_T.pl rfl rfl rfl rfl ?_
    refine mj_T.icmp (a := ((j : Nat) : Int)) (b := ((t : Nat) : Int)) rfl ⟨by omega, by omega⟩ ⟨by omega, by omega⟩ (fun c1 => ?_) (fun c1 => ?_)
    · exfalso
      simp only [jc, Bool.not_eq_true', Bool.not_eq_false', decide_eq_true_eq, decide_eq_false_iff_not] at c1
      omega
    · simp only [jc, Bool.not_eq_true', Bool.not_eq_false', decide_eq_true_eq, decide_eq_false_iff_not] at c1
      refine mj_T.pl rfl rfl rfl rfl ?_
      refine mT_get m 11 cq_d19 (by decide) rfl rfl ?_
      iterate 2 refine mj_T.pl rfl rfl rfl rfl ?_
      refine mT_get m 11 cq_d19 (by decide) rfl rfl ?_
      refine mj_T.call rfl rfl (Nat.le_of_ble_eq_true rfl) (Nat.le_of_ble_eq_true rfl) (mV_of m 12 cq_d170 (by decide) rfl (by decide) rfl _) rfl (mj_Ok.up (by omega) (mW_split (D := 0) m cq_d170 ((mK_p kp).2.2.2 _ (by omega)) cq_d164 (by omega) (by rw [(rfl : V1 (p + 4 + 2 * i) = _), (rfl : V1 170 = _)]; exact (by rw [e1]; exact jfa_one (by omega))) (by rw [(rfl : V1 (p + 4 + 2 * i) = _), (rfl : V1 170 = _)]; exact (by rw [e1]; exact Nat.le_trans (jnl_tdiv (Nat.le_refl _)) (by omega))) (hcc := by rw [(rfl : V1 170 = _)]; rw [e2]; omega))) (fun v g2 hq => ?_) (fun i g2 hq => ?_)
      rotate_left
      · obtain ⟨_, _, hq⟩ := hq; cases hq
      obtain ⟨_, m3, hq⟩ := hq
      cases hq
      have m3 := m3.to (V' := (jvu (jvu V1 (p + 4 + 2 * i) ((V1 (p + 4 + 2 * i)).tmod (V1 170))) 164 ((V1 (p + 4 + 2 * i)).tdiv (V1 170)))) (by rw [(rfl : V1 (p + 4 + 2 * i) = _), (rfl : V1 170 = _)]) rfl
      refine mj_T.eq (pc2 := 50) (st2 := []) ?_ rfl rfl rfl rfl
      iterate 2 refine mj_T.pl rfl rfl rfl rfl ?_
      refine mT_get m3 11 cq_d19 (by decide) rfl rfl ?_
      refine mj_T.call rfl rfl (Nat.le_of_ble_eq_true rfl) (Nat.le_of_ble_eq_true rfl) (mV_of m3 18 ((mK_p kp).2.2.2 _ (by omega)) (by decide) rfl (by decide) rfl _) rfl (mj_Ok.up (by omega) (mW_set (D := 0) m3 ((mK_p kp).2.2.2 _ (by omega)) cq_d164 (by omega) (by rw [(jvu_at _ _ _)]; exact (by rw [e1]; exact Nat.le_trans (jnl_tdiv (Nat.le_refl _)) (by omega))))) (fun v g4 hq => ?_) (fun i g4 hq => ?_)
      rotate_left
      · obtain ⟨_, _, hq⟩ := hq; cases hq
      obtain ⟨_, m5, hq⟩ := hq
      cases hq
      have m5 := m5.to (V' := (jvu (jvu (jvu V1 (p + 4 + 2 * i) ((V1 (p + 4 + 2 * i)).tmod (V1 170))) 164 ((V1 (p + 4 + 2 * i)).tdiv (V1 170))) (p + 4 + 2 * i) ((V1 (p + 4 + 2 * i)).tdiv (V1 170)))) (by rw [(jvu_at _ _ _)]) rfl
      refine mj_T.eq (pc2 := 59) (st2 := []) ?_ rfl rfl rfl rfl
      refine mj_T.iinc rfl rfl ?_
      rw [show ((j : Nat) : Int) + 1 = ((j + 1 : Nat) : Int) by omega]
      refine mj_T.eq (loc2 := [some (.ref 19), some (.ref p), some (.ref b), some (.int (jn ((t : Nat) : Int))), some (.int (jn ((i : Nat) : Int))), some (.ref (p + 4 + 2 * i)), some (.int (jn (((j + 1) : Nat) : Int)))]) ?_ rfl rfl rfl rfl
      refine mj_T.pl rfl rfl rfl rfl ?_
      refine mD_dp_in kp kb ht hi hm hm2 hd60 hend k (j + 1) (by omega) _ _ m5 ?_ ?_ (fun y y1 y2 y3 => ?_)
      · rw [(jvu_at _ _ _), e1, e2]
        rfl
      · rw [((jvu_ne _ _ _ (by omega)).trans ((jvu_ne _ _ _ (by omega)).trans ((jvu_ne _ _ _ (by omega)).trans (rfl : V1 170 = _))))]
        exact e2
      · rw [((jvu_ne _ _ _ (by omega)).trans ((jvu_ne _ _ _ (by omega)).trans ((jvu_ne _ _ _ (by omega)).trans (rfl : V1 y = _))))]
        exact e3 y y1 y2 y3
theorem mD_dp_out {t dp : Nat} {d : Int} (kp : cK p = 13) (kb : cK b = 18) (ht : t ≤ 1000) (hdp : dp ≤ cL (p + 3)) (hX : X p 2 = (dp : Int) - 1) (hz : ∀ e, dp ≤ e → e < cL (p + 3) → V (p + 4 + 2 * e) = 0) (hm : ∀ e, e < cL (p + 3) → jnl (V (p + 4 + 2 * e)).natAbs + 1 ≤ cL (p + 4 + 2 * e + 1) ∧ jnl (V (p + 4 + 2 * e)).natAbs ≤ 240) (hd60 : jnl d.natAbs ≤ 60) : ∀ k i, i + k = dp → ∀ (V1 : Nat → Int) (h1 : mj_H) (l5 l6 : Option Value), jM g n V1 X h1 → dpI V p (cL (p + 3)) d t i V1 → mj_T (D + 2) mj_m20 11 [some (.ref 19), some (.ref p), some (.ref b), some (.int (jn (t : Int))), some (.int (jn (i : Int))), l5, l6] [] h1 (fun r => ∃ V2 h2, jM g n V2 X h2 ∧ dpI V p (cL (p + 3)) d t (cL (p + 3)) V2 ∧ r = (.inl none, h2))
  | 0, i, hi, V1, h1, l5, l6, m, I => by
    have hbp := (mK_p kp).2.2.1
    iterate 2 refine mj_T.pl rfl rfl rfl rfl ?_
    refine mT_get (v := .int (jn ((dp : Int) - 1))) m 13 kp (by decide) rfl (congrArg (fun z : Int => some (Value.int (jn z))) (hX)) ?_
    refine mj_T.icmp (a := ((i : Nat) : Int)) (b := ((dp : Int) - 1)) rfl ⟨by omega, by omega⟩ ⟨by omega, by omega⟩ (fun c1 => ?_) (fun c1 => ?_)
    · simp only [jc, Bool.not_eq_true', Bool.not_eq_false', decide_eq_true_eq, decide_eq_false_iff_not] at c1
      refine mj_T.ret rfl rfl rfl ⟨V1, _, m, ⟨fun e he => ?_, I.2.1, I.2.2⟩, rfl⟩
      rw [I.1 e he, if_pos he]
      by_cases q : e < i
      · rw [if_pos q]
      · rw [if_neg q, hz e (by omega) he, itd_zero]
    · exfalso
      simp only [jc, Bool.not_eq_true', Bool.not_eq_false', decide_eq_true_eq, decide_eq_false_iff_not] at c1
      omega
  | k + 1, i, hi, V1, h1, l5, l6, m, I => by
    have c1 : cL (164 + 1) = 240 := mK_z.2.2.2.2.2.2.2.1
    have hpp := mP_pos kp
    have hbp := (mK_p kp).2.2.1
    iterate 2 refine mj_T.pl rfl rfl rfl rfl ?_
    refine mT_get (v := .int (jn ((dp : Int) - 1))) m 13 kp (by decide) rfl (congrArg (fun z : Int => some (Value.int (jn z))) (hX)) ?_
    refine mj_T.icmp (a := ((i : Nat) : Int)) (b := ((dp : Int) - 1)) rfl ⟨by omega, by omega⟩ ⟨by omega, by omega⟩ (fun c1 => ?_) (fun c1 => ?_)
    · exfalso
      simp only [jc, Bool.not_eq_true', Bool.not_eq_false', decide_eq_true_eq, decide_eq_false_iff_not] at c1
      omega
    · simp only [jc, Bool.not_eq_true', Bool.not_eq_false', decide_eq_true_eq, decide_eq_false_iff_not] at c1
      iterate 2 refine mj_T.pl rfl rfl rfl rfl ?_
      refine mj_T.call rfl rfl (Nat.le_of_ble_eq_true rfl) (Nat.le_of_ble_eq_true rfl) (mV_of m 13 kp (by decide) rfl (by decide) rfl _) rfl (mj_Ok.up (by omega) (mP_at (D := 0) m kp (e := i) (by omega))) (fun v g2 hq => ?_) (fun i g2 hq => ?_)
      rotate_left
      · cases hq
      cases hq
      refine mj_T.eq (pc2 := 26) (st2 := [.ref (p + 4 + 2 * i)]) ?_ rfl rfl rfl rfl
      refine mj_T.pl (loc' := [some (.ref 19), some (.ref p), some (.ref b), some (.int (jn ((t : Nat) : Int))), some (.int (jn ((i : Nat) : Int))), some (.ref (p + 4 + 2 * i)), l6]) rfl rfl rfl rfl ?_
      refine mj_T.pl rfl rfl rfl rfl ?_
      refine mj_T.pl (loc' := [some (.ref 19), some (.ref p), some (.ref b), some (.int (jn ((t : Nat) : Int))), some (.int (jn ((i : Nat) : Int))), some (.ref (p + 4 + 2 * i)), some (.int (jn 0))]) rfl rfl rfl rfl ?_
      have ei := I.1 i (by omega)
      rw [if_neg (Nat.lt_irrefl i)] at ei
      refine mD_dp_in (x := V (p + 4 + 2 * i)) (d := d) (V0 := V1) kp kb ht (by omega) (hm i (by omega)).1 (hm i (by omega)).2 hd60 (fun V3 h3 m3 f1 f2 f3 => ?_) t 0 (by omega) V1 _ m ei I.2.1 (fun _ _ _ _ => rfl)
      refine mj_T.iinc rfl rfl ?_
      rw [show ((i : Nat) : Int) + 1 = ((i + 1 : Nat) : Int) by omega]
      refine mj_T.eq (loc2 := [some (.ref 19), some (.ref p), some (.ref b), some (.int (jn ((t : Nat) : Int))), some (.int (jn (((i + 1) : Nat) : Int))), some (.ref (p + 4 + 2 * i)), some (.int (jn ((t : Nat) : Int)))]) ?_ rfl rfl rfl rfl
      refine mj_T.pl rfl rfl rfl rfl ?_
      refine mD_dp_out kp kb ht hdp hX hz hm hd60 k (i + 1) (by omega) V3 _ _ _ m3 ⟨fun e he => ?_, f2, fun y y1 y2 y3 => ?_⟩
      · by_cases q : e = i
        · subst q
          rw [f1, if_pos (Nat.lt_succ_self _)]
        · rw [f3 _ (by omega) (by omega) (by omega), I.1 e he]
          by_cases z : e < i
          · rw [if_pos z, if_pos (by omega)]
          · rw [if_neg z, if_neg (by omega)]
      · rw [f3 y y1 y2 (by omega)]
        exact I.2.2 y y1 y2 y3
theorem mD_divParts (m : jM g n V X h) {t dp : Nat} (kp : cK p = 13) (kb : cK b = 18) (ht : t ≤ 1000) (hdp : dp ≤ cL (p + 3)) (hX : X p 2 = (dp : Int) - 1) (hz : ∀ e, dp ≤ e → e < cL (p + 3) → V (p + 4 + 2 * e) = 0) (hm : ∀ e, e < cL (p + 3) → jnl (V (p + 4 + 2 * e)).natAbs + 1 ≤ cL (p + 4 + 2 * e + 1) ∧ jnl (V (p + 4 + 2 * e)).natAbs ≤ 240) (hb : jnl (V b).natAbs ≤ 60) : mj_Ok (D + 3) 20 [.ref 19, .ref p, .ref b, .int (jn (t : Int))] h (fun r => ∃ V2 h2, jM g n V2 X h2 ∧ dpI V p (cL (p + 3)) (V b) t (cL (p + 3)) V2 ∧ r = (.inl none, h2)) := by
  have hpp := mP_pos kp
  have c4 : cL (170 + 1) = 60 := mK_z.2.2.2.2.2.2.2.2.2.2.1
  have hb60 : jnl (V b).natAbs ≤ cL (170 + 1) := by omega
  refine mj_Ok.of (M := mj_m20) rfl rfl rfl ?_
  refine mj_T.pl rfl rfl rfl rfl ?_
  refine mT_get m 11 cq_d19 (by decide) rfl rfl ?_
  refine mj_T.pl rfl rfl rfl rfl ?_
  refine mj_T.call rfl rfl (Nat.le_of_ble_eq_true rfl) (Nat.le_of_ble_eq_true rfl) (mV_of m 12 cq_d170 (by decide) rfl (by decide) rfl _) rfl (mj_Ok.up (by omega) (mW_prepare (D := 0) m cq_d170 kb (by rw [(rfl : V b = _)]; exact hb60))) (fun v g1 hq => ?_) (fun i g1 hq => ?_)
  rotate_left
  · obtain ⟨_, _, hq⟩ := hq; cases hq
  obtain ⟨_, m2, hq⟩ := hq
  cases hq
  have m2 := m2.to (V' := (jvu V 170 (V b))) (by rw [(rfl : V b = _)]) rfl
  refine mj_T.eq (pc2 := 8) (st2 := []) ?_ rfl rfl rfl rfl
  refine mj_T.pl rfl rfl rfl rfl ?_
  refine mj_T.pl (loc' := [some (.ref 19), some (.ref p), some (.ref b), some (.int (jn ((t : Nat) : Int))), some (.int (jn 0)), none, none]) rfl rfl rfl rfl ?_
  refine mD_dp_out kp kb ht hdp hX hz hm hb dp 0 (by omega) _ _ _ _ m2 ⟨fun e he => ?_, jvu_at _ _ _, fun y y1 y2 y3 => jvu_ne _ _ _ y2⟩
  rw [jvu_ne _ _ _ (by omega), if_neg (by omega)]
end MDP
