/-! The row of Sturm of the class: all eliminations of one step. -/
theorem elw_ext {F F' B B' : pz_P} {db s : Nat} (hs : db + s < 13) (hF : ∀ e, e < 13 → F' e = F e) (hB : ∀ e, e ≤ db → B' e = B e) : ∀ e, e < 13 → elw F' B' db s e = elw F B db s e := fun e he => by
  unfold elw
  rw [hB db (Nat.le_refl db), hF e he, hF (db + s) hs]
  by_cases c : e ≤ db + s
  · rw [if_pos c, if_pos c]
    by_cases d : e < s
    · rw [if_pos d, if_pos d]
    · rw [if_neg d, if_neg d, hB (e - s) (by omega)]
  · rw [if_neg c, if_neg c]
section MMN
variable {g h : mj_H} {n D p q r : Nat} {V : Nat → Int} {X : Nat → Nat → Int}
theorem mR_el {gap dy al be : Nat} {F : pz_P} (kp : cK p = 13) (kq : cK q = 13) (kr : cK r = 13) (hq : q ≠ 80) (hdy : X q 2 = (dy : Int)) (hdq : dy < cL (q + 3)) (hg : dy + gap < 13) (hF : ∀ e, (F e).natAbs ≤ al) (hB : ∀ e, (pcs V q e).natAbs ≤ be) (hbe : 1 ≤ be) (hfit : al * (2 * be) ^ (gap + 1) < jB ^ 235) (hbc : be < jB ^ 1500) {Q : mj_R → Prop} (hend : ∀ (V1 : Nat → Int) (h1 : mj_H), jM g n V1 X h1 → (∀ e, e < 13 → V1 (80 + 4 + 2 * e) = er F (pcs V q) dy gap (gap + 1) e) → (∀ x, x ≠ 164 → x ≠ 166 → (x < 80 + 4 ∨ 80 + 4 + 2 * 13 ≤ x) → V1 x = V x) → mj_T (D + 3) mj_m71 54 [some (.ref 172), some (.ref p), some (.ref q), some (.ref r), some (.int (jn (gap : Int))), some (.int (jn ((((0 : Nat) : Int) : Int) - 1)))] [] h1 Q) : ∀ (u k : Nat), k + u = gap + 1 → ∀ (V1 : Nat → Int) (h1 : mj_H), jM g n V1 X h1 → (∀ e, e < 13 → V1 (80 + 4 + 2 * e) = er F (pcs V q) dy gap k e) → (∀ x, x ≠ 164 → x ≠ 166 → (x < 80 + 4 ∨ 80 + 4 + 2 * 13 ≤ x) → V1 x = V x) → mj_T (D + 3) mj_m71 26 [some (.ref 172), some (.ref p), some (.ref q), some (.ref r), some (.int (jn (gap : Int))), some (.int (jn ((u : Int) - 1)))] [] h1 Q
  | 0, k, hk, V1, h1, m, e1, e2 => by
    refine mj_T.pl rfl rfl rfl rfl ?_
    refine mj_T.if0 (a := (((0 : Nat) : Int) - 1)) rfl ⟨by omega, by omega⟩ (fun c1 => ?_) (fun c1 => ?_)
    · simp only [jc, Bool.not_eq_true', Bool.not_eq_false', decide_eq_true_eq, decide_eq_false_iff_not] at c1
      have hk : k = gap + 1 := by omega
      subst hk
      exact hend V1 _ m e1 e2
    · exfalso
      simp only [jc, Bool.not_eq_true', Bool.not_eq_false', decide_eq_true_eq, decide_eq_false_iff_not] at c1
      omega
  | u + 1, k, hk, V1, h1, m, e1, e2 => by
    have hfq := mP_far kq cq_d80 hq
    have h83 : cL (80 + 3) = 13 := mK_z.2.2.1
    have hpq0 := mP_pos kq
    rw [h83] at hfq
    rw [show ((u + 1 : Nat) : Int) - 1 = (u : Int) by omega]
    have hF1 : ∀ e, e < 13 → (V1 (80 + 4 + 2 * e)).natAbs ≤ al * (2 * be) ^ k := fun e he => by
      rw [e1 e he]
      exact er_abs hF hB hbe k e
    have hpq : ∀ e, e ≤ dy → pco V1 q e = pcs V q e := fun e he => by
      rw [pcs_in (by omega)]
      exact e2 _ (by omega) (by omega) (by omega)
    have hB1 : ∀ e, e < cL (q + 3) → (V1 (q + 4 + 2 * e)).natAbs ≤ be := fun e he => by
      rw [e2 _ (by omega) (by omega) (by omega), ← pcs_in (V := V) he]
      exact hB e
    have hft : 2 * (al * (2 * be) ^ k * be) < jB ^ 236 := by
      have h1 : 2 * (al * (2 * be) ^ k * be) = al * (2 * be) ^ (k + 1) := by
        rw [Nat.pow_succ]
        ac_rfl
      have h2 : al * (2 * be) ^ (k + 1) ≤ al * (2 * be) ^ (gap + 1) := Nat.mul_le_mul_left _ (Nat.pow_le_pow_right (by omega) (by omega))
      have h3 : jB ^ 235 ≤ jB ^ 236 := Nat.pow_le_pow_right (by decide) (by decide)
      omega
    have hfc : al * (2 * be) ^ k < jB ^ 236 := by
      have h4 := Nat.le_mul_of_pos_right (al * (2 * be) ^ k) (show 0 < be by omega)
      omega
    refine mj_T.pl rfl rfl rfl rfl ?_
    refine mj_T.if0 (a := ((u : Nat) : Int)) rfl ⟨by omega, by omega⟩ (fun c1 => ?_) (fun c1 => ?_)
    · exfalso
      simp only [jc, Bool.not_eq_true', Bool.not_eq_false', decide_eq_true_eq, decide_eq_false_iff_not] at c1
      omega
    · simp only [jc, Bool.not_eq_true', Bool.not_eq_false', decide_eq_true_eq, decide_eq_false_iff_not] at c1
      refine mj_T.pl rfl rfl rfl rfl ?_
      refine mT_get m 16 cq_d172 (by decide) rfl rfl ?_
      refine mj_T.pl rfl rfl rfl rfl ?_
      refine mT_get m 16 cq_d172 (by decide) rfl rfl ?_
      refine mT_get m 11 cq_d19 (by decide) rfl rfl ?_
      iterate 2 refine mj_T.pl rfl rfl rfl rfl ?_
      refine mj_T.call rfl rfl (Nat.le_of_ble_eq_true rfl) (Nat.le_of_ble_eq_true rfl) (mV_of m 11 cq_d19 (by decide) rfl (by decide) rfl _) rfl (mj_Ok.up (by omega) (mD_elim (D := 0) (db := dy) (s := u) (al := al * (2 * be) ^ k) (be := be) m kq hq hdy hdq (by omega) hF1 hB1 hft (jB_15 (m := 236) hfc (by decide)) hbc)) (fun v g2 hq => ?_) (fun i g2 hq => ?_)
      rotate_left
      · obtain ⟨_, _, _, _, hq⟩ := hq; cases hq
      obtain ⟨z1, z2, _, m3, hq⟩ := hq
      cases hq
      refine mj_T.eq (pc2 := 48) (st2 := []) ?_ rfl rfl rfl rfl
      refine mj_T.iinc rfl rfl ?_
      refine mj_T.eq (loc2 := [some (.ref 172), some (.ref p), some (.ref q), some (.ref r), some (.int (jn ((gap : Nat) : Int))), some (.int (jn (((u : Nat) : Int) + (-1))))]) ?_ rfl rfl rfl rfl
      refine mj_T.pl rfl rfl rfl rfl ?_
      rw [show (((u : Nat) : Int) + (-1)) = (u : Int) - 1 by omega]
      refine mR_el kp kq kr hq hdy hdq hg hF hB hbe hfit hbc hend u (k + 1) (by omega) _ _ m3 (fun e he => ?_) (fun x x1 x2 x3 => ?_)
      · rw [pfl_at _ _ _ he]
        show _ = elw (er F (pcs V q) dy gap k) (pcs V q) dy (gap - k) e
        rw [show gap - k = u by omega]
        exact elw_ext (by omega) e1 hpq e he
      · rw [lk_off (by omega) x1 x2]
        exact e2 x x1 x2 x3
end MMN
