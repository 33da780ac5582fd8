/-! The row of Sturm of the class: the derivative; the last of the row. -/
theorem cq_d180 : cK 180 = 13 := by decide +kernel
theorem cq_d210 : cK 210 = 13 := by decide +kernel
/-- the derivative -/
def drv (A : pz_P) : pz_P := fun e => A (e + 1) * ((e + 1 : Nat) : Int)
/-- so much of it -/
def drw (A : pz_P) (j : Nat) : pz_P := fun e => if e < j then drv A e else 0
theorem drw_0 (A : pz_P) : drw A 0 = fun _ => 0 := funext fun e => if_neg (by omega)
theorem drw_put (A : pz_P) (j : Nat) : jvu (drw A j) j (drv A j) = drw A (j + 1) := funext fun e => by
  simp only [jvu, drw]
  by_cases c : e = j
  · rw [if_pos c, if_pos (by omega), c]
  · rw [if_neg c]
    by_cases d : e < j
    · rw [if_pos d, if_pos (by omega)]
    · rw [if_neg d, if_neg (by omega)]
section MPU
variable {g h : mj_H} {n D : Nat} {V : Nat → Int} {X : Nat → Nat → Int}
theorem mR_der_loop {d : Nat} (hd : X 180 2 = (d : Int) - 1) (hd13 : d ≤ 13) (hA : sml (pcs V 180)) {Q : mj_R → Prop} (hend : ∀ h, jM g n (pfl V 210 (drw (pcs V 180) (d - 1)) 13) (xup X 210 2 (-1)) h → mj_T (D + 1) mj_m69 64 [some (.ref 172), some (.ref 210), some (.int (jn (((d - 1) + 1 : Nat) : Int)))] [] h Q) : ∀ k j, j + k = d - 1 → ∀ h, jM g n (pfl V 210 (drw (pcs V 180) j) 13) (xup X 210 2 (-1)) h → mj_T (D + 1) mj_m69 13 [some (.ref 172), some (.ref 210), some (.int (jn ((j + 1 : Nat) : Int)))] [] h Q
  | 0, j, hj, h, m => by
    have l173 : cL 173 = 14 := mK_r.2.2.2.1
    have p210 : cL (210 + 3) = 13 := (mK_r.2.2.2.2.2.1 1 (by decide)).2
    have p180 : cL (180 + 3) = 13 := (mK_r.2.2.2.2.2.1 0 (by decide)).2
    iterate 2 refine mj_T.pl rfl rfl rfl rfl ?_
    refine mT_get m 16 cq_d172 (by decide) rfl rfl ?_
    refine mj_T.pl rfl rfl rfl rfl ?_
    refine mT_aald m 5 cq_d173 (by decide) rfl rfl (by omega) ⟨by omega, by omega⟩ ?_
    refine mj_T.eq (st2 := [.ref 180, .int (jn (((j + 1) : Nat) : Int))]) ?_ rfl rfl rfl rfl
    refine mT_get (v := .int (jn ((d : Int) - 1))) m 13 cq_d180 (by decide) rfl (congrArg (fun z : Int => some (Value.int (jn z))) ((xup_ne X (-1) (Or.inl (by decide))).trans hd)) ?_
    refine mj_T.icmp (a := (((j + 1) : Nat) : Int)) (b := ((d : Int) - 1)) rfl ⟨by omega, by omega⟩ ⟨by omega, by omega⟩ (fun c1 => ?_) (fun c1 => ?_)
    · simp only [jc, Bool.not_eq_true', Bool.not_eq_false', decide_eq_true_eq, decide_eq_false_iff_not] at c1
      have hj : j = d - 1 := by omega
      subst hj
      exact hend _ m
    · exfalso
      simp only [jc, Bool.not_eq_true', Bool.not_eq_false', decide_eq_true_eq, decide_eq_false_iff_not] at c1
      omega
  | k + 1, j, hj, h, m => by
    have l173 : cL 173 = 14 := mK_r.2.2.2.1
    have p210 : cL (210 + 3) = 13 := (mK_r.2.2.2.2.2.1 1 (by decide)).2
    have p180 : cL (180 + 3) = 13 := (mK_r.2.2.2.2.2.1 0 (by decide)).2
    have hc : cL (210 + 4 + 2 * j + 1) = 30 - 2 * j := mK_z.2.2.2.2.2.2.1 1 (by decide) j (by show j < 13; omega)
    have hrd : pfl V 210 (drw (pcs V 180) j) 13 (180 + 4 + 2 * (j + 1)) = V (180 + 4 + 2 * (j + 1)) := pfl_off _ _ _ (by omega)
    have hs := hA (j + 1) (by omega)
    rw [pcs_in (by omega)] at hs
    have hj2 := jnl_two.mpr hs
    have hdv : drv (pcs V 180) j = V (180 + 4 + 2 * (j + 1)) * ((j + 1 : Nat) : Int) := by
      unfold drv
      rw [pcs_in (by omega)]
    have hj3 : jnl (drv (pcs V 180) j).natAbs ≤ 3 := by
      rw [hdv, jnl_le_lt, Int.natAbs_mul, Int.natAbs_natCast]
      have h12 : (V (180 + 4 + 2 * (j + 1))).natAbs * (j + 1) ≤ 999999999999999999 * 13 := Nat.mul_le_mul hs (by omega)
      exact Nat.lt_of_le_of_lt h12 (by decide +kernel)
    iterate 2 refine mj_T.pl rfl rfl rfl rfl ?_
    refine mT_get m 16 cq_d172 (by decide) rfl rfl ?_
    refine mj_T.pl rfl rfl rfl rfl ?_
    refine mT_aald m 5 cq_d173 (by decide) rfl rfl (by omega) ⟨by omega, by omega⟩ ?_
    refine mj_T.eq (st2 := [.ref 180, .int (jn (((j + 1) : Nat) : Int))]) ?_ rfl rfl rfl rfl
    refine mT_get (v := .int (jn ((d : Int) - 1))) m 13 cq_d180 (by decide) rfl (congrArg (fun z : Int => some (Value.int (jn z))) ((xup_ne X (-1) (Or.inl (by decide))).trans hd)) ?_
    refine mj_T.icmp (a := (((j + 1) : Nat) : Int)) (b := ((d : Int) - 1)) rfl ⟨by omega, by omega⟩ ⟨by omega, by omega⟩ (fun c1 => ?_) (fun c1 => ?_)
    · exfalso
      simp only [jc, Bool.not_eq_true', Bool.not_eq_false', decide_eq_true_eq, decide_eq_false_iff_not] at c1
      omega
    · simp only [jc, Bool.not_eq_true', Bool.not_eq_false', decide_eq_true_eq, decide_eq_false_iff_not] at c1
      iterate 3 refine mj_T.pl rfl rfl rfl rfl ?_
      refine mj_T.isub (a := (((j + 1) : Nat) : Int)) (b := 1) rfl ?_
      rw [show (((j + 1) : Nat) : Int) - 1 = (j : Int) by omega]
      refine mj_T.call rfl rfl (Nat.le_of_ble_eq_true rfl) (Nat.le_of_ble_eq_true rfl) (mV_of m 13 cq_d210 (by decide) rfl (by decide) rfl _) rfl (mj_Ok.up (by omega) (mP_at (D := 0) m cq_d210 (e := j) (by omega))) (fun v g2 hq => ?_) (fun i g2 hq => ?_)
      rotate_left
      · cases hq
      cases hq
      refine mj_T.eq (pc2 := 33) (st2 := [.ref (210 + 4 + 2 * j)]) ?_ rfl rfl rfl rfl
      refine mj_T.pl rfl rfl rfl rfl ?_
      refine mT_get m 16 cq_d172 (by decide) rfl rfl ?_
      refine mj_T.pl rfl rfl rfl rfl ?_
      refine mT_aald m 5 cq_d173 (by decide) rfl rfl (by omega) ⟨by omega, by omega⟩ ?_
      refine mj_T.eq (st2 := [.ref 180, .ref (210 + 4 + 2 * j)]) ?_ rfl rfl rfl rfl
      refine mj_T.pl rfl rfl rfl rfl ?_
      refine mj_T.call rfl rfl (Nat.le_of_ble_eq_true rfl) (Nat.le_of_ble_eq_true rfl) (mV_of m 13 cq_d180 (by decide) rfl (by decide) rfl _) rfl (mj_Ok.up (by omega) (mP_at (D := 0) m cq_d180 (e := (j + 1)) (by omega))) (fun v g3 hq => ?_) (fun i g3 hq => ?_)
      rotate_left
      · cases hq
      cases hq
      refine mj_T.eq (pc2 := 43) (st2 := [.ref (180 + 4 + 2 * (j + 1)), .ref (210 + 4 + 2 * j)]) ?_ rfl rfl rfl rfl
      refine mj_T.call rfl rfl (Nat.le_of_ble_eq_true rfl) (Nat.le_of_ble_eq_true rfl) (mV_of m 18 ((mK_p cq_d210).2.2.2 j (by omega)) (by decide) rfl (by decide) rfl _) rfl (mj_Ok.up (by omega) (mW_set (D := 0) m ((mK_p cq_d210).2.2.2 j (by omega)) ((mK_p cq_d180).2.2.2 _ (by omega)) (by omega) (by rw [hrd]; omega))) (fun v g4 hq => ?_) (fun i g4 hq => ?_)
      rotate_left
      · obtain ⟨_, _, hq⟩ := hq; cases hq
      obtain ⟨_, m5, hq⟩ := hq
      cases hq
      rw [hrd] at m5
      refine mj_T.eq (pc2 := 46) (st2 := []) ?_ rfl rfl rfl rfl
      iterate 3 refine mj_T.pl rfl rfl rfl rfl ?_
      refine mj_T.isub (a := (((j + 1) : Nat) : Int)) (b := 1) rfl ?_
      rw [show (((j + 1) : Nat) : Int) - 1 = (j : Int) by omega]
      refine mj_T.call rfl rfl (Nat.le_of_ble_eq_true rfl) (Nat.le_of_ble_eq_true rfl) (mV_of m5 13 cq_d210 (by decide) rfl (by decide) rfl _) rfl (mj_Ok.up (by omega) (mP_at (D := 0) m5 cq_d210 (e := j) (by omega))) (fun v g6 hq => ?_) (fun i g6 hq => ?_)
      rotate_left
      · cases hq
      cases hq
      refine mj_T.eq (pc2 := 53) (st2 := [.ref (210 + 4 + 2 * j)]) ?_ rfl rfl rfl rfl
      refine mj_T.pl rfl rfl rfl rfl ?_
      refine mj_T.i2l rfl ⟨by omega, by omega⟩ ?_
      refine mj_T.call rfl rfl (Nat.le_of_ble_eq_true rfl) (Nat.le_of_ble_eq_true rfl) (mV_of m5 18 ((mK_p cq_d210).2.2.2 j (by omega)) (by decide) rfl (by decide) rfl _) rfl (mj_Ok.up (by omega) (mW_scale (D := 0) (f := j + 1) m5 ((mK_p cq_d210).2.2.2 j (by omega)) (by omega) (by omega) (by rw [jvu_at, ← hdv]; omega))) (fun v g7 hq => ?_) (fun i g7 hq => ?_)
      rotate_left
      · obtain ⟨_, _, hq⟩ := hq; cases hq
      obtain ⟨_, m8, hq⟩ := hq
      cases hq
      rw [jvu_at, jvu_jvu, ← hdv, pfl_upd (by omega), drw_put] at m8
      refine mj_T.eq (pc2 := 58) (st2 := []) ?_ rfl rfl rfl rfl
      refine mj_T.iinc rfl rfl ?_
      rw [show (((j + 1) : Nat) : Int) + 1 = (((j + 1) + 1 : Nat) : Int) by omega]
      refine mj_T.eq (loc2 := [some (.ref 172), some (.ref 210), some (.int (jn ((((j + 1) + 1) : Nat) : Int)))]) ?_ rfl rfl rfl rfl
      refine mj_T.pl rfl rfl rfl rfl ?_
      exact mR_der_loop hd hd13 hA hend k (j + 1) (by omega) _ m8
theorem mR_der (m : jM g n V X h) {d : Nat} (hd : X 180 2 = (d : Int) - 1) (hd13 : d ≤ 13) (hA : sml (pcs V 180)) (hz : ∀ i, d ≤ i → pcs V 180 i = 0) : mj_Ok (D + 3) 69 [.ref 172] h (fun r => ∃ h2, jM g n (pfl V 210 (drv (pcs V 180)) 13) (xup X 210 2 ((fdg (drv (pcs V 180)) 13 : Int) - 1)) h2 ∧ r = (.inl none, h2)) := by
  have l173 : cL 173 = 14 := mK_r.2.2.2.1
  have p210 : cL (210 + 3) = 13 := (mK_r.2.2.2.2.2.1 1 (by decide)).2
  have hfull : drw (pcs V 180) (d - 1) = drv (pcs V 180) := funext fun e => by
    unfold drw
    split
    · rfl
    · show 0 = pcs V 180 (e + 1) * ((e + 1 : Nat) : Int)
      rw [hz (e + 1) (by omega), Int.zero_mul]
  have hcl0 : ∀ i, i < 13 → jnl (drw (pcs V 180) (d - 1) i).natAbs ≤ 1500 := fun i hi => by
    rw [hfull]
    show jnl (pcs V 180 (i + 1) * ((i + 1 : Nat) : Int)).natAbs ≤ 1500
    have q1 : (pcs V 180 (i + 1)).natAbs ≤ 999999999999999999 := by
      by_cases c : i + 1 < 13
      · exact hA _ c
      · rw [hz _ (by omega)]
        decide
    have q2 : jnl (pcs V 180 (i + 1) * ((i + 1 : Nat) : Int)).natAbs ≤ 3 := by
      rw [jnl_le_lt, Int.natAbs_mul, Int.natAbs_natCast]
      exact Nat.lt_of_le_of_lt (Nat.mul_le_mul q1 (show i + 1 ≤ 13 by omega)) (by decide +kernel)
    omega
  refine mj_Ok.of (M := mj_m69) rfl rfl rfl ?_
  refine mj_T.pl rfl rfl rfl rfl ?_
  refine mT_get m 16 cq_d172 (by decide) rfl rfl ?_
  refine mj_T.pl rfl rfl rfl rfl ?_
  refine mT_aald m 5 cq_d173 (by decide) rfl rfl (by omega) ⟨by omega, by omega⟩ ?_
  refine mj_T.eq (st2 := [.ref 210]) ?_ rfl rfl rfl rfl
  refine mj_T.pl (loc' := [some (.ref 172), some (.ref 210), none]) rfl rfl rfl rfl ?_
  refine mj_T.pl rfl rfl rfl rfl ?_
  refine mj_T.call rfl rfl (Nat.le_of_ble_eq_true rfl) (Nat.le_of_ble_eq_true rfl) (mV_of m 13 cq_d210 (by decide) rfl (by decide) rfl _) rfl (mj_Ok.up (by omega) (mP_clear (D := 0) m cq_d210)) (fun v g1 hq => ?_) (fun i g1 hq => ?_)
  rotate_left
  · obtain ⟨_, _, hq⟩ := hq; cases hq
  obtain ⟨_, m2, hq⟩ := hq
  cases hq
  rw [p210, ← drw_0 (pcs V 180)] at m2
  refine mj_T.eq (pc2 := 11) (st2 := []) ?_ rfl rfl rfl rfl
  refine mj_T.pl rfl rfl rfl rfl ?_
  refine mj_T.pl (loc' := [some (.ref 172), some (.ref 210), some (.int (jn 1))]) rfl rfl rfl rfl ?_
  refine mR_der_loop (D := D + 1) hd hd13 hA (fun h1 m1 => ?_) (d - 1) 0 (by omega) _ m2
  refine mj_T.pl rfl rfl rfl rfl ?_
  refine mj_T.call rfl rfl (Nat.le_of_ble_eq_true rfl) (Nat.le_of_ble_eq_true rfl) (mV_of m1 13 cq_d210 (by decide) rfl (by decide) rfl _) rfl (mj_Ok.up (by omega) (mP_settle (D := 0) m1 cq_d210 (pcl_pfl (Nat.le_of_eq p210) hcl0))) (fun v g61 hq => ?_) (fun i g61 hq => ?_)
  rotate_left
  · obtain ⟨_, _, hq⟩ := hq; cases hq
  obtain ⟨_, m62, hq⟩ := hq
  cases hq
  rw [p210, xup_xup, fdg_congr _ (fun i hi => pco_pfl i hi)] at m62
  refine mj_T.eq (pc2 := 68) (st2 := []) ?_ rfl rfl rfl rfl
  rw [hfull] at m62
  exact mj_T.ret rfl rfl rfl ⟨_, m62, rfl⟩
end MPU
