/-! The desk of the class, exactly: powers, and a polynomial put into another one. -/
section MRB
variable {g h : mj_H} {n D b r e : Nat} {V : Nat → Int} {X : Nat → Nat → Int}
theorem mD_raise (m : jM g n V X h) (kb : cK b = 2) (kr : cK r = 2) (hb_b : sml (X b)) (he : e ≤ 12) (hz : V 81 = 0) : mj_Ok (D + 4) 12 [.ref 19, .ref b, .int (jn (e : Int)), .ref r] h (fun z => ∃ V2 X2 h2, jM g n V2 X2 h2 ∧ dF V V2 ∧ xF (fun x => x = r) X X2 ∧ ((fit13 ((pw (rw13 (X b))) e) ∧ z = (.inl (some (.int (jn 1))), h2) ∧ ∀ i, i < 13 → X2 r i = (pw (rw13 (X b))) e i) ∨ (¬ fit13 ((pw (rw13 (X b))) e) ∧ z = (.inl (some (.int (jn 0))), h2)))) := by
  have p20 : cL (20 + 3) = 13 := mK_z.1
  refine mj_Ok.of (M := mj_m12) rfl rfl rfl ?_
  refine mj_T.pl rfl rfl rfl rfl ?_
  refine mT_get m 11 cq_d19 (by decide) rfl rfl ?_
  refine mj_T.pl rfl rfl rfl rfl ?_
  refine jT.lc 1 rfl rfl ?_
  refine mj_T.call rfl rfl (Nat.le_of_ble_eq_true rfl) (Nat.le_of_ble_eq_true rfl) (mV_of m 13 cq_d50 (by decide) rfl (by decide) rfl _) rfl (mj_Ok.up (by omega) (mP_load1 (D := 0) m cq_d50 kb (by decide +kernel) (by exact hb_b) (fun i hi => by have := mK_z.2.2.2.2.1 i hi; omega))) (fun v g1 hq => ?_) (fun i g1 hq => ?_)
  rotate_left
  · obtain ⟨_, _, hq⟩ := hq; cases hq
  obtain ⟨_, m2, hq⟩ := hq
  cases hq
  refine mj_T.eq (pc2 := 9) (st2 := []) ?_ rfl rfl rfl rfl
  refine mj_T.pl rfl rfl rfl rfl ?_
  refine mT_get m2 11 cq_d19 (by decide) rfl rfl ?_
  refine mj_T.call rfl rfl (Nat.le_of_ble_eq_true rfl) (Nat.le_of_ble_eq_true rfl) (mV_of m2 13 cq_d20 (by decide) rfl (by decide) rfl _) rfl (mj_Ok.up (by omega) (mP_clear (D := 0) m2 cq_d20)) (fun v g3 hq => ?_) (fun i g3 hq => ?_)
  rotate_left
  · obtain ⟨_, _, hq⟩ := hq; cases hq
  obtain ⟨_, m4, hq⟩ := hq
  cases hq
  rw [p20] at m4
  refine mj_T.eq (pc2 := 16) (st2 := []) ?_ rfl rfl rfl rfl
  refine mj_T.pl rfl rfl rfl rfl ?_
  refine mT_get m4 11 cq_d19 (by decide) rfl rfl ?_
  refine mj_T.pl rfl rfl rfl rfl ?_
  refine mj_T.call rfl rfl (Nat.le_of_ble_eq_true rfl) (Nat.le_of_ble_eq_true rfl) (mV_of m4 13 cq_d20 (by decide) rfl (by decide) rfl _) rfl (mj_Ok.up (by omega) (mP_at (D := 0) m4 cq_d20 (e := 0) (by omega))) (fun v g5 hq => ?_) (fun i g5 hq => ?_)
  rotate_left
  · cases hq
  cases hq
  refine mj_T.eq (pc2 := 24) (st2 := [.ref (20 + 4 + 2 * 0)]) ?_ rfl rfl rfl rfl
  refine jT.lc 1 rfl rfl ?_
  refine mj_T.call rfl rfl (Nat.le_of_ble_eq_true rfl) (Nat.le_of_ble_eq_true rfl) (mV_of m4 18 ((mK_p cq_d20).2.2.2 0 (by omega)) (by decide) rfl (by decide) rfl _) rfl (mj_Ok.up (by omega) (mW_setLong (D := 0) (v := ((1 : Nat) : Int)) m4 ((mK_p cq_d20).2.2.2 0 (by omega)) ⟨by decide, by decide⟩ (Nat.le_trans (jnl_two.mpr (by decide)) (by have := (mK_z.2.2.2.2.1 0 (by decide)).1; omega)))) (fun v g6 hq => ?_) (fun i g6 hq => ?_)
  rotate_left
  · obtain ⟨_, _, hq⟩ := hq; cases hq
  obtain ⟨_, m7, hq⟩ := hq
  cases hq
  refine mj_T.eq (pc2 := 28) (st2 := []) ?_ rfl rfl rfl rfl
  refine mj_T.pl rfl rfl rfl rfl ?_
  refine mT_get m7 11 cq_d19 (by decide) rfl rfl ?_
  have hcl0 : pcl (jvu (pfl (pfl V 50 (X b) 13) 20 (fun _ => 0) 13) (20 + 4 + 2 * 0) ((1 : Nat) : Int)) 20 := fun j hj => by
    rw [p20] at hj
    by_cases q : j = 0
    · subst q
      rw [jvu_at]
      exact Nat.le_trans (jnl_two.mpr (by decide)) (by decide)
    · rw [jvu_ne _ _ _ (by omega), pfl_at _ _ _ hj]
      exact Nat.le_trans (Nat.le_of_eq jnl_zero) (Nat.zero_le _)
  refine mj_T.call rfl rfl (Nat.le_of_ble_eq_true rfl) (Nat.le_of_ble_eq_true rfl) (mV_of m7 13 cq_d20 (by decide) rfl (by decide) rfl _) rfl (mj_Ok.up (by omega) (mP_settle (D := 0) m7 cq_d20 hcl0)) (fun v g8 hq => ?_) (fun i g8 hq => ?_)
  rotate_left
  · obtain ⟨_, _, hq⟩ := hq; cases hq
  obtain ⟨_, m9, hq⟩ := hq
  cases hq
  rw [p20] at m9
  refine mj_T.eq (pc2 := 35) (st2 := []) ?_ rfl rfl rfl rfl
  refine mj_T.pl rfl rfl rfl rfl ?_
  refine mj_T.pl (loc' := [some (.ref 19), some (.ref b), some (.int (jn ((e : Nat) : Int))), some (.ref r), some (.int (jn 0))]) rfl rfl rfl rfl ?_
  have e0 : ∀ j, j < 13 → (jvu (pfl (pfl V 50 (X b) 13) 20 (fun _ => 0) 13) (20 + 4 + 2 * 0) ((1 : Nat) : Int)) (20 + 4 + 2 * j) = (pw (rw13 (X b))) 0 j := fun j hj => by
    show _ = if j = 0 then (1 : Int) else 0
    by_cases q : j = 0
    · subst q
      rw [jvu_at, if_pos rfl]
      rfl
    · rw [jvu_ne _ _ _ (by omega), pfl_at _ _ _ hj, if_neg q]
  exact mD_raise_loop kb kr hb_b he hz e 0 (by omega) _ _ _ m9 ⟨(dF.pfl (by omega)).tr ((dF.pfl (by omega)).tr (dF.jvu (by omega))), (xF.deg (by omega)).tr ((xF.deg (by omega)).tr (xF.deg (by omega))), e0, fun j hj i hi => by
    obtain rfl : j = 0 := by omega
    exact if_neg (by omega), fun j hj => by
    rw [jvu_ne _ _ _ (by omega), pfl_off _ _ _ (by omega), pfl_at _ _ _ hj], by
    rw [xup_at, fdg_congr (f' := pco (jvu (pfl (pfl V 50 (X b) 13) 20 (fun _ => 0) 13) (20 + 4 + 2 * 0) ((1 : Nat) : Int)) 20) (f := (pw (rw13 (X b))) 0) 13 e0], by
    rw [xup_ne _ _ (Or.inl (by decide)), xup_ne _ _ (Or.inl (by decide)), xup_at], by
    rw [jvu_ne _ _ _ (by decide), pfl_off _ _ _ (by decide), pfl_off _ _ _ (by decide)]
    exact hz⟩
end MRB
