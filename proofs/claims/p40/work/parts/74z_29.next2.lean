/-! The row of Sturm of the class: the next of the row. -/
section MNX
variable {g h : mj_H} {n D p q r : Nat} {V : Nat → Int} {X : Nat → Nat → Int}
theorem mR_tail {gap dy : Nat} {w : Nat → Int} {V5 : Nat → Int} {X5 : Nat → Nat → Int} {hh5 : mj_H} {l5 : Option Value} (m : jM g n V5 X5 hh5) (kp : cK p = 13) (kq : cK q = 13) (kr : cK r = 13) (hq : 180 ≤ q) (hr : 180 ≤ r) (hqr : q ≠ r) (hdy5 : X5 q 2 = (dy : Int)) (hdq : dy < cL (q + 3)) (hg : dy + gap < 13) (h176 : jnl (V 176).natAbs ≤ 60) (hlq : ∀ i, i ≤ gap → jnl ((((pcs V q dy).natAbs : Nat) : Int) ^ i).natAbs ≤ 239) (hl60 : jnl (pcs V q dy).natAbs ≤ 60) (hk60 : jnl (itd ((((pcs V q dy).natAbs : Nat) : Int) ^ gap) (V 176) (gap - 1)).natAbs ≤ 60) (hw : (∀ e, e < cL (r + 3) → V5 (r + 4 + 2 * e) = w e)) (h5 : (∀ x, (x < 80 + 4 ∨ 80 + 4 + 2 * 13 ≤ x) → x ≠ 164 → x ≠ 166 → x ≠ 170 → (x < r + 4 ∨ r + 4 + 2 * cL (r + 3) ≤ x) → V5 x = V x)) : mj_T (D + 4) mj_m71 135 [some (.ref 172), some (.ref p), some (.ref q), some (.ref r), some (.int (jn (gap : Int))), l5] [] hh5 (fun z => ∃ V2 h2, jM g n V2 X5 h2 ∧ (∀ e, e < cL (r + 3) → V2 (r + 4 + 2 * e) = w e) ∧ V2 174 = (((pcs V q dy).natAbs : Nat) : Int) ∧ V2 176 = nxk (pcs V q) (dy + gap) dy (V 176) ∧ (∀ x, (x < 80 + 4 ∨ 80 + 4 + 2 * 13 ≤ x) → x ≠ 164 → x ≠ 166 → x ≠ 170 → x ≠ 174 → x ≠ 176 → (x < r + 4 ∨ r + 4 + 2 * cL (r + 3) ≤ x) → V2 x = V x) ∧ z = (.inl none, h2)) := by
  have c6 : cL (174 + 1) = 60 := mK_z.2.2.2.2.2.2.2.2.2.2.2.1
  have c7 : cL (176 + 1) = 60 := mK_z.2.2.2.2.2.2.2.2.2.2.2.2.1
  have hfq := mP_far kq kr hqr
  have hpq := mP_pos kq
  have hpr := mP_pos kr
  have hq5 : V5 (q + 4 + 2 * dy) = pcs V q dy := by
    rw [pcs_in hdq]
    exact h5 _ (by omega) (by omega) (by omega) (by omega) (by omega)
  have e176 : V5 176 = V 176 := h5 176 (by omega) (by decide) (by decide) (by decide) (by omega)
  refine mj_T.pl rfl rfl rfl rfl ?_
  refine mT_get m 16 cq_d172 (by decide) rfl rfl ?_
  refine mj_T.pl rfl rfl rfl rfl ?_
  refine mj_T.call rfl rfl (Nat.le_of_ble_eq_true rfl) (Nat.le_of_ble_eq_true rfl) (mV_of m 13 kq (by decide) rfl (by decide) rfl _) rfl (mj_Ok.up (by omega) (mP_lead (D := 0) m kq hdy5 hdq)) (fun v g1 hq => ?_) (fun i g1 hq => ?_)
  rotate_left
  · cases hq
  cases hq
  refine mj_T.eq (pc2 := 143) (st2 := [.ref (q + 4 + 2 * dy), .ref 174]) ?_ rfl rfl rfl rfl
  refine mj_T.call rfl rfl (Nat.le_of_ble_eq_true rfl) (Nat.le_of_ble_eq_true rfl) (mV_of m 18 cq_d174 (by decide) rfl (by decide) rfl _) rfl (mj_Ok.up (by omega) (mW_setSizeOf (D := 0) m cq_d174 ((mK_p kq).2.2.2 dy hdq) (by omega) (by rw [hq5]; omega))) (fun v g2 hq => ?_) (fun i g2 hq => ?_)
  rotate_left
  · obtain ⟨_, _, hq⟩ := hq; cases hq
  obtain ⟨_, m3, hq⟩ := hq
  cases hq
  rw [hq5] at m3
  refine mj_T.eq (pc2 := 146) (st2 := []) ?_ rfl rfl rfl rfl
  refine mj_T.pl rfl rfl rfl rfl ?_
  refine mj_T.if0 (a := ((gap : Nat) : Int)) rfl ⟨by omega, by omega⟩ (fun c4 => ?_) (fun c4 => ?_)
  · simp only [jc, Bool.not_eq_true', Bool.not_eq_false', decide_eq_true_eq, decide_eq_false_iff_not] at c4
    refine mj_T.ret rfl rfl rfl ⟨_, _, m3, fun e he => ?_, jvu_at _ _ _, ?_, fun x x1 x2 x3 x4 x5 x6 x7 => ?_, rfl⟩
    · rw [jvu_ne _ _ _ (by omega)]
      exact hw e he
    · rw [jvu_ne _ _ _ (by decide), e176]
      unfold nxk
      rw [if_pos (by omega)]
    · rw [jvu_ne _ _ _ x5]
      exact h5 x x1 x2 x3 x4 x7
  · simp only [jc, Bool.not_eq_true', Bool.not_eq_false', decide_eq_true_eq, decide_eq_false_iff_not] at c4
    iterate 2 refine mj_T.pl rfl rfl rfl rfl ?_
    refine mj_T.call rfl rfl (Nat.le_of_ble_eq_true rfl) (Nat.le_of_ble_eq_true rfl) (mV_of m3 16 cq_d172 (by decide) rfl (by decide) rfl _) rfl (mj_Ok.up (by omega) (mR_renew (D := D) (p := gap) m3 (by omega) (by omega) (by rw [jvu_at]; exact hlq) (by rw [jvu_ne _ _ _ (by decide), e176]; exact h176) (by rw [jvu_at, Int.natAbs_natCast]; omega) (by rw [jvu_at, jvu_ne _ _ _ (by decide), e176, c7]; exact hk60))) (fun v g5 hq => ?_) (fun i g5 hq => ?_)
    rotate_left
    · obtain ⟨_, _, _, _, _, hq⟩ := hq; cases hq
    obtain ⟨V6, _, m6, f1, f2, hq⟩ := hq
    cases hq
    refine mj_T.eq (pc2 := 157) (st2 := []) ?_ rfl rfl rfl rfl
    refine mj_T.ret rfl rfl rfl ⟨_, _, m6, fun e he => ?_, ?_, ?_, fun x x1 x2 x3 x4 x5 x6 x7 => ?_, rfl⟩
    · rw [f2 _ (by omega) (by omega) (by omega) (by omega), jvu_ne _ _ _ (by omega)]
      exact hw e he
    · rw [f2 _ (by decide) (by decide) (by decide) (by decide), jvu_at]
    · rw [f1, jvu_at, jvu_ne _ _ _ (by decide), e176]
      unfold nxk
      rw [if_neg (by omega), show dy + gap - dy = gap by omega]
    · rw [f2 x x2 x3 x4 x6, jvu_ne _ _ _ x5]
      exact h5 x x1 x2 x3 x4 x7
end MNX
