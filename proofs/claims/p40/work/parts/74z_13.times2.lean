/-! The desk of the class, exactly: products of rows. -/
theorem jB_15 {x m : Nat} (h : x < jB ^ m) (hm : m ≤ 1500) : x < jB ^ 1500 := Nat.lt_of_lt_of_le h (Nat.pow_le_pow_right (by decide) hm)
section MTJ
variable {g h : mj_H} {n D t : Nat} {V : Nat → Int} {X : Nat → Nat → Int}
theorem mD_times (m : jM g n V X h) {da db al be c : Nat} (kt : cK t = 13) (ht : t = 80 ∨ t = 110) (h1 : X 20 2 = (da : Int) - 1) (h2 : X 50 2 = (db : Int) - 1) (hda : da ≤ 13) (hdb : db ≤ 13) (hzb : ∀ i, db ≤ i → i < 13 → V (50 + 4 + 2 * i) = 0) (hA : ∀ i, (pcs V 20 i).natAbs ≤ al) (hB : ∀ i, (pcs V 50 i).natAbs ≤ be) (hc : c ≤ 240) (hcap : ∀ e, e < cL (t + 3) → c ≤ cL (t + 4 + 2 * e + 1)) (hfit : 13 * (al * be) < jB ^ c) (hc1 : al < jB ^ 1500) (hc2 : be < jB ^ 1500) (hza : ∀ i, da ≤ i → i < 13 → V (20 + 4 + 2 * i) = 0) : mj_Ok (D + 3) 14 [.ref 19, .ref t, .ref 20, .ref 50] h (fun r => ((da = 0 ∨ db = 0 ∨ da + db ≤ cL (t + 3) + 1) ∧ ∃ (z1 z2 : Int) (h2 : mj_H), jM g n (pfl (scr V z1 z2) t (pz_mul (pcs V 20) (pcs V 50)) (cL (t + 3))) (xup X t 2 ((fdg (pz_mul (pcs V 20) (pcs V 50)) (cL (t + 3)) : Int) - 1)) h2 ∧ r = (.inl (some (.int (jn 1))), h2)) ∨ (¬ (da = 0 ∨ db = 0 ∨ da + db ≤ cL (t + 3) + 1) ∧ ∃ h2 : mj_H, jM g n (pfl V t (fun _ => 0) (cL (t + 3))) (xup X t 2 (-1)) h2 ∧ r = (.inl (some (.int (jn 0))), h2))) := by
  have hbt := (mK_p kt).2.2.1
  have p20 : cL (20 + 3) = 13 := mK_z.1
  have p50 : cL (50 + 3) = 13 := mK_z.2.1
  have c1 : cL (164 + 1) = 240 := mK_z.2.2.2.2.2.2.2.1
  have hpt := mP_pos kt
  have hft := mP_far kt cq_d20 (by omega)
  have hfu := mP_far kt cq_d50 (by omega)
  rw [p20] at hft
  rw [p50] at hfu
  have hzA : ∀ i, da ≤ i → pcs V 20 i = 0 := fun i hi => by
    by_cases q : i < 13
    · rw [pcs_in (by omega), hza i hi q]
    · exact pcs_out (by omega)
  have hW : ∀ e, jnl (pz_mul (pcs V 20) (pcs V 50) e).natAbs ≤ 1500 := fun e => by
    have q1 := tw_abs hA hB da 0 e
    rw [tw_end (fun i hi => hzA i hi)] at q1
    have q2 : (da + 1) * (al * be) ≤ 14 * (al * be) := Nat.mul_le_mul_right _ (by omega)
    have q3 : jB ^ c ≤ jB ^ 240 := Nat.pow_le_pow_right (by decide) hc
    have q4 : jB ^ 240 * 2 ≤ jB ^ 240 * jB := Nat.mul_le_mul_left _ (by decide)
    exact jnl_B (al := 14 * (al * be)) (by omega) (jB_15 (m := 241) (by rw [Nat.pow_succ]; omega) (by decide))
  refine mj_Ok.of (M := mj_m14) rfl rfl rfl ?_
  refine mj_T.pl rfl rfl rfl rfl ?_
  refine mj_T.call rfl rfl (Nat.le_of_ble_eq_true rfl) (Nat.le_of_ble_eq_true rfl) (mV_of m 13 kt (by decide) rfl (by decide) rfl _) rfl (mj_Ok.up (by omega) (mP_clear (D := 0) m kt)) (fun v g1 hq => ?_) (fun i g1 hq => ?_)
  rotate_left
  · obtain ⟨_, _, hq⟩ := hq; cases hq
  obtain ⟨_, m2, hq⟩ := hq
  cases hq
  refine mj_T.eq (pc2 := 4) (st2 := []) ?_ rfl rfl rfl rfl
  have cont : (da = 0 ∨ db = 0 ∨ da + db ≤ cL (t + 3) + 1) → mj_T (D + 2) mj_m14 36 [some (.ref 19), some (.ref t), some (.ref 20), some (.ref 50), none, none] [] g1 (fun r => ((da = 0 ∨ db = 0 ∨ da + db ≤ cL (t + 3) + 1) ∧ ∃ (z1 z2 : Int) (h2 : mj_H), jM g n (pfl (scr V z1 z2) t (pz_mul (pcs V 20) (pcs V 50)) (cL (t + 3))) (xup X t 2 ((fdg (pz_mul (pcs V 20) (pcs V 50)) (cL (t + 3)) : Int) - 1)) h2 ∧ r = (.inl (some (.int (jn 1))), h2)) ∨ (¬ (da = 0 ∨ db = 0 ∨ da + db ≤ cL (t + 3) + 1) ∧ ∃ h2 : mj_H, jM g n (pfl V t (fun _ => 0) (cL (t + 3))) (xup X t 2 (-1)) h2 ∧ r = (.inl (some (.int (jn 0))), h2))) := by
    intro hfi
    refine mj_T.pl rfl rfl rfl rfl ?_
    refine mj_T.pl (loc' := [some (.ref 19), some (.ref t), some (.ref 20), some (.ref 50), some (.int (jn 0)), none]) rfl rfl rfl rfl ?_
    refine mD_times_out kt ht h1 h2 hda hdb hzb hfi hA hB hc hcap hfit hc1 hc2 (fun z1 z2 l5 h1 m1 => ?_) da 0 (by omega) (V 164) (V 166) _ _ (m2.to (by rw [scr_self, tw_0]) rfl)
    rw [tw_end (fun i hi => hzA i hi)] at m1
    refine mj_T.pl rfl rfl rfl rfl ?_
    refine mj_T.call rfl rfl (Nat.le_of_ble_eq_true rfl) (Nat.le_of_ble_eq_true rfl) (mV_of m1 13 kt (by decide) rfl (by decide) rfl _) rfl (mj_Ok.up (by omega) (mP_settle (D := 0) m1 kt (pcl_pfl (Nat.le_refl _) (fun e _ => hW e)))) (fun v g51 hq => ?_) (fun i g51 hq => ?_)
    rotate_left
    · obtain ⟨_, _, hq⟩ := hq; cases hq
    obtain ⟨_, m52, hq⟩ := hq
    cases hq
    refine mj_T.eq (pc2 := 124) (st2 := []) ?_ rfl rfl rfl rfl
    refine mj_T.pl rfl rfl rfl rfl ?_
    exact mj_T.ret rfl rfl rfl (Or.inl ⟨hfi, z1, z2, _, m52.to rfl (by rw [xup_xup, fdg_congr _ (fun i hi => pco_pfl i hi)]), rfl⟩)
  refine mj_T.pl rfl rfl rfl rfl ?_
  refine mT_get (v := .int (jn ((da : Nat) - 1 : Int))) m2 13 cq_d20 (by decide) rfl (congrArg (fun z : Int => some (Value.int (jn z))) ((xup_ne X (-1) (Or.inl (by omega))).trans h1)) ?_
  refine mj_T.if0 (a := ((da : Nat) - 1 : Int)) rfl ⟨by omega, by omega⟩ (fun c71 => ?_) (fun c71 => ?_)
  · simp only [jc, Bool.not_eq_true', Bool.not_eq_false', decide_eq_true_eq, decide_eq_false_iff_not] at c71
    exact cont (by omega)
  · simp only [jc, Bool.not_eq_true', Bool.not_eq_false', decide_eq_true_eq, decide_eq_false_iff_not] at c71
    refine mj_T.pl rfl rfl rfl rfl ?_
    refine mT_get (v := .int (jn ((db : Nat) - 1 : Int))) m2 13 cq_d50 (by decide) rfl (congrArg (fun z : Int => some (Value.int (jn z))) ((xup_ne X (-1) (Or.inl (by omega))).trans h2)) ?_
    refine mj_T.if0 (a := ((db : Nat) - 1 : Int)) rfl ⟨by omega, by omega⟩ (fun c72 => ?_) (fun c72 => ?_)
    · simp only [jc, Bool.not_eq_true', Bool.not_eq_false', decide_eq_true_eq, decide_eq_false_iff_not] at c72
      exact cont (by omega)
    · simp only [jc, Bool.not_eq_true', Bool.not_eq_false', decide_eq_true_eq, decide_eq_false_iff_not] at c72
      refine mj_T.pl rfl rfl rfl rfl ?_
      refine mT_get (v := .int (jn ((da : Nat) - 1 : Int))) m2 13 cq_d20 (by decide) rfl (congrArg (fun z : Int => some (Value.int (jn z))) ((xup_ne X (-1) (Or.inl (by omega))).trans h1)) ?_
      refine mj_T.pl rfl rfl rfl rfl ?_
      refine mT_get (v := .int (jn ((db : Nat) - 1 : Int))) m2 13 cq_d50 (by decide) rfl (congrArg (fun z : Int => some (Value.int (jn z))) ((xup_ne X (-1) (Or.inl (by omega))).trans h2)) ?_
      refine mj_T.iadd (a := ((da : Nat) - 1 : Int)) (b := ((db : Nat) - 1 : Int)) rfl ?_
      refine mj_T.pl rfl rfl rfl rfl ?_
      refine mj_T.call rfl rfl (Nat.le_of_ble_eq_true rfl) (Nat.le_of_ble_eq_true rfl) (mV_of m2 13 kt (by decide) rfl (by decide) rfl _) rfl (mj_Ok.up (by omega) (mP_highest (D := 0) m2 kt)) (fun v g73 hq => ?_) (fun i g73 hq => ?_)
      rotate_left
      · cases hq
      cases hq
      refine mj_T.eq (pc2 := 31) (st2 := [.int (jn ((cL (t + 3) : Int) - 1)), .int (jn (((da : Nat) - 1 : Int) + ((db : Nat) - 1 : Int)))]) ?_ rfl rfl rfl rfl
      refine mj_T.icmp (a := (((da : Nat) - 1 : Int) + ((db : Nat) - 1 : Int))) (b := ((cL (t + 3) : Int) - 1)) rfl ⟨by omega, by omega⟩ ⟨by omega, by omega⟩ (fun c74 => ?_) (fun c74 => ?_)
      · simp only [jc, Bool.not_eq_true', Bool.not_eq_false', decide_eq_true_eq, decide_eq_false_iff_not] at c74
        exact cont (by omega)
      · simp only [jc, Bool.not_eq_true', Bool.not_eq_false', decide_eq_true_eq, decide_eq_false_iff_not] at c74
        refine mj_T.pl rfl rfl rfl rfl ?_
        exact mj_T.ret rfl rfl rfl (Or.inr ⟨by omega, _, m2, rfl⟩)
end MTJ
