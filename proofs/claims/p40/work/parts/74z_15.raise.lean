/-! The desk of the class, exactly: powers. -/
def pz_one : pz_P := fun i => if i = 0 then 1 else 0
def pw (B : pz_P) : Nat → pz_P
  | 0 => pz_one
  | k + 1 => pz_mul (pw B k) B
theorem pz_mul_abs {A B : pz_P} {al be : Nat} (hA : ∀ i, (A i).natAbs ≤ al) (hB : ∀ i, (B i).natAbs ≤ be) (hz : ∀ i, 13 ≤ i → A i = 0) (e : Nat) : (pz_mul A B e).natAbs ≤ 14 * (al * be) := by
  rw [← tw_end hz]
  exact tw_abs hA hB 13 0 e
theorem pw_abs {B : pz_P} {M : Nat} (hB : ∀ i, (B i).natAbs ≤ M) (hM : 1 ≤ M) : ∀ k, (∀ j, j ≤ k → ∀ i, 13 ≤ i → pw B j i = 0) → ∀ i, (pw B k i).natAbs ≤ (14 * M) ^ k
  | 0, _, i => by
    show (if i = 0 then (1 : Int) else 0).natAbs ≤ 1
    split <;> decide
  | k + 1, hz, i => by
    have h1 := pz_mul_abs (pw_abs hB hM k (fun j hj => hz j (by omega))) hB (hz k (by omega)) i
    refine Nat.le_trans h1 (Nat.le_of_eq ?_)
    rw [Nat.pow_succ]
    exact Nat.mul_left_comm 14 _ M
/-- the leading coefficient of a power -/
theorem pw_lead {B : pz_P} {d : Nat} (hB : ∀ i, d < i → B i = 0) : ∀ k, (∀ i, k * d < i → pw B k i = 0) ∧ pw B k (k * d) = (B d) ^ k
  | 0 => ⟨fun i hi => by
    show (if i = 0 then (1 : Int) else 0) = 0
    rw [if_neg (by omega)], by
    show (if 0 * d = 0 then (1 : Int) else 0) = (B d) ^ 0
    rw [if_pos (Nat.zero_mul d), Int.pow_zero]⟩
  | k + 1 => by
    obtain ⟨h1, h2⟩ := pw_lead hB k
    have l1 : pz_lt (pw B k) (k * d + 1) := fun i hi => h1 i (by omega)
    have l2 : pz_lt B (d + 1) := fun i hi => hB i (by omega)
    rw [Nat.succ_mul]
    refine ⟨fun i hi => pz_lt.mul (c := k * d + d + 1) l1 l2 (by omega) i (by omega), ?_⟩
    show pz_c (k * d + d) (pw B k) B = _
    rw [pz_c_lead (k * d) (pw B k) B d l1 l2, h2, Int.pow_succ]
theorem pw_big {B : pz_P} {d k e : Nat} (hB : ∀ i, d < i → B i = 0) (hn : B d ≠ 0) (hk : 13 ≤ (k + 1) * d) (he : k < e) : ¬ fit13 (pw B e) := fun h => by
  have h1 := (pw_lead hB e).2
  have h2 : (k + 1) * d ≤ e * d := Nat.mul_le_mul_right _ he
  rw [h.2 _ (by omega)] at h1
  exact Int.pow_ne_zero hn h1.symm
theorem fdg_pw {B : Nat → Int} {k : Nat} (hn : 1 ≤ fdg B 13) (hz : ∀ i, 13 ≤ i → pw (rw13 B) k i = 0) : fdg (pw (rw13 B) k) 13 = k * (fdg B 13 - 1) + 1 := by
  have hle := fdg_le B 13
  have hB : ∀ i, fdg B 13 - 1 < i → rw13 B i = 0 := fun i hi => by
    unfold rw13
    split
    · exact fdg_zero B 13 i (by omega) (by omega)
    · rfl
  obtain ⟨h1, h2⟩ := pw_lead hB k
  have hne : pw (rw13 B) k (k * (fdg B 13 - 1)) ≠ 0 := by
    rw [h2]
    refine Int.pow_ne_zero ?_
    rw [rw13_in (by omega)]
    exact fdg_ne _ _ hn
  have hlt : k * (fdg B 13 - 1) < 13 := Nat.lt_of_not_le (fun q => hne (hz _ q))
  exact fdg_of (by omega) (fun i a b => h1 i (by omega)) (Or.inr (by rw [Nat.add_sub_cancel]; exact hne))
theorem fit_pw : (14 * 999999999999999999) ^ 12 < jB ^ 30 := by decide +kernel
theorem fit_pw2 : (14 * 999999999999999999) ^ 12 < jB ^ 236 := by decide +kernel
theorem rw13_abs {A : Nat → Int} (h : sml A) (i : Nat) : (rw13 A i).natAbs ≤ 999999999999999999 := by
  unfold rw13
  split
  · exact h i (by omega)
  · decide
section MRA
variable {g h : mj_H} {n D b r e : Nat} {V : Nat → Int} {X : Nat → Nat → Int}
/-- what holds in the loop -/
def raI (V : Nat → Int) (X : Nat → Nat → Int) (b r i : Nat) (V1 : Nat → Int) (X1 : Nat → Nat → Int) : Prop := dF V V1 ∧ xF (fun x => x = r) X X1 ∧ (∀ e, e < 13 → V1 (20 + 4 + 2 * e) = (pw (rw13 (X b))) i e) ∧ (∀ j, j ≤ i → ∀ e, 13 ≤ e → (pw (rw13 (X b))) j e = 0) ∧ (∀ e, e < 13 → V1 (50 + 4 + 2 * e) = X b e) ∧ X1 20 2 = (fdg ((pw (rw13 (X b))) i) 13 : Int) - 1 ∧ X1 50 2 = (fdg (X b) 13 : Int) - 1 ∧ V1 81 = 0
theorem mD_raise_loop (kb : cK b = 2) (kr : cK r = 2) (hb_b : sml (X b)) (he : e ≤ 12) (hz : V 81 = 0) : ∀ k i, i + k = e → ∀ (V1 : Nat → Int) (X1 : Nat → Nat → Int) (h1 : mj_H), jM g n V1 X1 h1 → raI V X b r i V1 X1 → mj_T (D + 3) mj_m12 38 [some (.ref 19), some (.ref b), some (.int (jn (e : Int))), some (.ref r), some (.int (jn (i : Int)))] [] h1 (fun z => ∃ V2 X2 h2, jM g n V2 X2 h2 ∧ dF V V2 ∧ xF (fun x => x = r) X X2 ∧ ((fit13 ((pw (rw13 (X b))) e) ∧ z = (.inl (some (.int (jn 1))), h2) ∧ ∀ i, i < 13 → X2 r i = (pw (rw13 (X b))) e i) ∨ (¬ fit13 ((pw (rw13 (X b))) e) ∧ z = (.inl (some (.int (jn 0))), h2))))
  | 0, i, hi, V1, X1, h1, m, I => by
    obtain ⟨hd, hx, a1, a2, a3, a4, a5, a6⟩ := I
    have hie : i = e := by omega
    subst hie
    iterate 2 refine mj_T.pl rfl rfl rfl rfl ?_
    refine mj_T.icmp (a := ((i : Nat) : Int)) (b := ((i : Nat) : Int)) rfl ⟨by omega, by omega⟩ ⟨by omega, by omega⟩ (fun c1 => ?_) (fun c1 => ?_)
    · simp only [jc, Bool.not_eq_true', Bool.not_eq_false', decide_eq_true_eq, decide_eq_false_iff_not] at c1
      refine mj_T.pl rfl rfl rfl rfl ?_
      refine mT_get m 11 cq_d19 (by decide) rfl rfl ?_
      refine mj_T.pl rfl rfl rfl rfl ?_
      have p20 : cL (20 + 3) = 13 := mK_z.1
      have hfi := pok_fit (V := V1) (p := 20) (m := 13) p20.symm (by decide) ((pw (rw13 (X b))) i) (fun j hj => a1 j hj) (fun j hj => a2 i (Nat.le_refl i) j hj)
      refine mj_T.call rfl rfl (Nat.le_of_ble_eq_true rfl) (Nat.le_of_ble_eq_true rfl) (mV_of m 13 cq_d20 (by decide) rfl (by decide) rfl _) rfl (mj_Ok.up (by omega) (mP_store (D := 0) m cq_d20 (fun j hj => by rw [p20] at hj; rw [a1 j hj]; exact jnl_B (pw_abs (rw13_abs hb_b) (by decide) i a2 j) (jB_15 (m := 30) (Nat.lt_of_le_of_lt (Nat.pow_le_pow_right (by decide) (by omega)) fit_pw) (by decide))) kr (by omega))) (fun v g1 hq => ?_) (fun i g1 hq => ?_)
      rotate_left
      · rcases hq with ⟨_, _, _, hq⟩ | ⟨_, hq⟩ <;> cases hq
      rcases hq with ⟨ho, _, m8, hq⟩ | ⟨ho, hq⟩
      · cases hq
        refine mj_T.ret rfl rfl rfl ⟨_, _, _, m8, hd, hx.tr (xF.row (S := fun x => x = r) rfl), Or.inl ⟨hfi.mp ho, rfl, fun i hi => ?_⟩⟩
        rw [xfl_at _ _ _ hi]
        exact a1 i hi
      · cases hq
        exact mj_T.ret rfl rfl rfl ⟨_, _, _, m, hd, hx, Or.inr ⟨fun q => ho (hfi.mpr q), rfl⟩⟩
    · exfalso
      simp only [jc, Bool.not_eq_true', Bool.not_eq_false', decide_eq_true_eq, decide_eq_false_iff_not] at c1
      omega
  | k + 1, i, hi, V1, X1, h1, m, I => by
    obtain ⟨hd, hx, a1, a2, a3, a4, a5, a6⟩ := I
    have p20 : cL (20 + 3) = 13 := mK_z.1
    have p50 : cL (50 + 3) = 13 := mK_z.2.1
    have p80 : cL (80 + 3) = 13 := mK_z.2.2.1
    have eA : pcs V1 20 = (pw (rw13 (X b))) i := funext fun j => by
      unfold pcs
      rw [p20]
      by_cases y : j < 13
      · rw [if_pos y, a1 j y]
      · rw [if_neg y, a2 i (Nat.le_refl i) j (by omega)]
    have eB : pcs V1 50 = rw13 (X b) := funext fun j => by
      unfold pcs rw13
      rw [p50]
      split
      · exact a3 j (by omega)
      · rfl
    iterate 2 refine mj_T.pl rfl rfl rfl rfl ?_
    refine mj_T.icmp (a := ((i : Nat) : Int)) (b := ((e : Nat) : Int)) rfl ⟨by omega, by omega⟩ ⟨by omega, by omega⟩ (fun c1 => ?_) (fun c1 => ?_)
    · exfalso
      simp only [jc, Bool.not_eq_true', Bool.not_eq_false', decide_eq_true_eq, decide_eq_false_iff_not] at c1
      omega
    · simp only [jc, Bool.not_eq_true', Bool.not_eq_false', decide_eq_true_eq, decide_eq_false_iff_not] at c1
      iterate 2 refine mj_T.pl rfl rfl rfl rfl ?_
      refine mT_get m 11 cq_d19 (by decide) rfl rfl ?_
      refine mj_T.pl rfl rfl rfl rfl ?_
      refine mT_get m 11 cq_d19 (by decide) rfl rfl ?_
      refine mj_T.pl rfl rfl rfl rfl ?_
      refine mT_get m 11 cq_d19 (by decide) rfl rfl ?_
      have hA : ∀ i', (pcs V1 20 i').natAbs ≤ (14 * 999999999999999999) ^ i := fun i' => by rw [eA]; exact pw_abs (rw13_abs hb_b) (by decide) i a2 i'
      have hB : ∀ i', (pcs V1 50 i').natAbs ≤ 999999999999999999 := fun i' => by rw [eB]; exact rw13_abs hb_b i'
      have hpp : (14 * 999999999999999999) ^ (i + 1) ≤ (14 * 999999999999999999) ^ 12 := Nat.pow_le_pow_right (by decide) (by omega)
      have hfit : 13 * ((14 * 999999999999999999) ^ i * 999999999999999999) < jB ^ 236 := by
        refine Nat.lt_of_le_of_lt ?_ fit_pw2
        refine Nat.le_trans ?_ hpp
        rw [Nat.pow_succ]
        generalize (14 * 999999999999999999) ^ i = w
        omega
      refine mj_T.call rfl rfl (Nat.le_of_ble_eq_true rfl) (Nat.le_of_ble_eq_true rfl) (mV_of m 11 cq_d19 (by decide) rfl (by decide) rfl _) rfl (mD_times (D := D) (t := 80) m (da := fdg ((pw (rw13 (X b))) i) 13) (db := fdg (X b) 13) (al := (14 * 999999999999999999) ^ i) (be := 999999999999999999) (c := 236) cq_d80 (Or.inl rfl) a4 a5 (fdg_le _ _) (fdg_le _ _) (fun j h1 h2 => by rw [a3 j h2]; exact fdg_zero _ _ _ h1 h2) hA hB (by decide) (fun j hj => Nat.le_of_eq ((mK_z.2.2.2.2.1 j (by omega)).2.2).symm) hfit (jB_15 (m := 30) (Nat.lt_of_le_of_lt (Nat.pow_le_pow_right (by decide) (by omega)) fit_pw) (by decide)) (jB_15 (m := 3) (by decide +kernel) (by decide)) (fun j h1 h2 => by rw [a1 j h2]; exact fdg_zero _ _ _ h1 h2)) (fun v g1 hq => ?_) (fun i g1 hq => ?_)
      rotate_left
      · rcases hq with ⟨_, _, _, _, _, hq⟩ | ⟨_, _, _, hq⟩ <;> cases hq
      rw [eA, eB, p80] at hq
      rcases hq with ⟨ho, z1, z2, _, m9, hq⟩ | ⟨ho, _, m9, hq⟩
      · cases hq
        refine mj_T.eq (pc2 := 60) (st2 := [.int (jn 1)]) ?_ rfl rfl rfl rfl
        refine mj_T.if0 (a := 1) rfl ⟨by omega, by omega⟩ (fun c61 => ?_) (fun c61 => ?_)
        · simp only [jc, Bool.not_eq_true', Bool.not_eq_false', decide_eq_true_eq, decide_eq_false_iff_not] at c61
          refine mj_T.pl rfl rfl rfl rfl ?_
          refine mT_get m9 11 cq_d19 (by decide) rfl rfl ?_
          refine mj_T.pl rfl rfl rfl rfl ?_
          refine mT_get m9 11 cq_d19 (by decide) rfl rfl ?_
          have hz1 : ∀ j, 13 ≤ j → (pw (rw13 (X b))) (i + 1) j = 0 := fun j hj => by
            by_cases q : fdg (X b) 13 = 0
            · have hB0 : rw13 (X b) = fun _ => 0 := funext fun x => by
                by_cases y : x < 13
                · rw [rw13_in y]
                  exact fdg_zero _ _ _ (by omega) y
                · exact rw13_out (by omega)
              exact (pz_c_lt 13 j ((pw (rw13 (X b))) i) (rw13 (X b)) 0 (fun x hx => a2 i (Nat.le_refl i) x hx) (fun x _ => congrFun hB0 x) (by omega) : pz_c j ((pw (rw13 (X b))) i) (rw13 (X b)) = 0)
            · have q1 := fdg_pw (B := X b) (k := i) (by omega) (a2 i (Nat.le_refl i))
              have q2 := (pw_lead (B := rw13 (X b)) (d := fdg (X b) 13 - 1) (fun x hx => by
                by_cases y : x < 13
                · rw [rw13_in y]
                  exact fdg_zero _ _ _ (by omega) y
                · exact rw13_out (by omega)) (i + 1)).1
              refine q2 j ?_
              rw [Nat.succ_mul]
              omega
          have m9 : jM g n (pfl (scr V1 z1 z2) 80 ((pw (rw13 (X b))) (i + 1)) 13) (xup X1 80 2 ((fdg ((pw (rw13 (X b))) (i + 1)) 13 : Int) - 1)) _ := m9
          have eP : pcs (pfl (scr V1 z1 z2) 80 ((pw (rw13 (X b))) (i + 1)) 13) 80 = (pw (rw13 (X b))) (i + 1) := funext fun j => by
            unfold pcs
            rw [p80]
            by_cases y : j < 13
            · rw [if_pos y, pfl_at _ _ _ y]
            · rw [if_neg y, hz1 j (by omega)]
          have a2' : ∀ j, j ≤ i + 1 → ∀ e', 13 ≤ e' → (pw (rw13 (X b))) j e' = 0 := fun j hj => by
            by_cases y : j = i + 1
            · rw [y]
              exact hz1
            · exact a2 j (by omega)
          refine mj_T.call rfl rfl (Nat.le_of_ble_eq_true rfl) (Nat.le_of_ble_eq_true rfl) (mV_of m9 13 cq_d20 (by decide) rfl (by decide) rfl _) rfl (mj_Ok.up (by omega) (mP_set (D := 0) m9 cq_d20 cq_d80 (by decide) (by rw [pfl_off _ _ _ (by decide), scr_off _ _ _ (by decide) (by decide)]; exact a6) (fun j hj => ?_))) (fun v g1 hq => ?_) (fun i g1 hq => ?_)
          · rw [eP, (mK_z.2.2.2.2.1 j (by omega)).1]
            exact jnl_B (pw_abs (rw13_abs hb_b) (by decide) (i + 1) a2' j) (Nat.lt_of_le_of_lt hpp fit_pw)
          rotate_left
          · obtain ⟨_, _, hq⟩ := hq; cases hq
          obtain ⟨_, m10, hq⟩ := hq
          cases hq
          rw [eP, p20] at m10
          refine mj_T.eq (pc2 := 76) (st2 := []) ?_ rfl rfl rfl rfl
          refine mj_T.iinc rfl rfl ?_
          rw [show ((i : Nat) : Int) + 1 = ((i + 1 : Nat) : Int) by omega]
          refine mj_T.eq (loc2 := [some (.ref 19), some (.ref b), some (.int (jn ((e : Nat) : Int))), some (.ref r), some (.int (jn (((i + 1) : Nat) : Int)))]) ?_ rfl rfl rfl rfl
          refine mj_T.pl rfl rfl rfl rfl ?_
          refine mD_raise_loop kb kr hb_b he hz k (i + 1) (by omega) _ _ _ m10 ⟨hd.tr ((dF.scr _ z1 z2).tr ((dF.pfl (by omega)).tr (dF.pfl (by omega)))), hx.tr ((xF.deg (by omega)).tr (xF.deg (by omega))), fun j hj => pfl_at _ _ _ hj, a2', fun j hj => ?_, xup_at _ _ _ _, ?_, ?_⟩
          · rw [pfl_off _ _ _ (by omega), lk_off (by omega) (by omega) (by omega)]
            exact a3 j hj
          · rw [xup_ne _ _ (Or.inl (by decide)), xup_ne _ _ (Or.inl (by decide))]
            exact a5
          · rw [pfl_off _ _ _ (by omega), lk_off (by omega) (by omega) (by omega)]
            exact a6
        · exfalso
          simp [jc] at c61
      · cases hq
        refine mj_T.eq (pc2 := 60) (st2 := [.int (jn 0)]) ?_ rfl rfl rfl rfl
        refine mj_T.if0 (a := 0) rfl ⟨by omega, by omega⟩ (fun c91 => ?_) (fun c91 => ?_)
        · exfalso
          simp [jc] at c91
        · simp only [jc, Bool.not_eq_true', Bool.not_eq_false', decide_eq_true_eq, decide_eq_false_iff_not] at c91
          refine mj_T.pl rfl rfl rfl rfl ?_
          refine mj_T.ret rfl rfl rfl ⟨_, _, _, m9, hd.tr (dF.pfl (by omega)), hx.tr (xF.deg (by omega)), Or.inr ⟨?_, rfl⟩⟩
          have q1 := fdg_pw (B := X b) (k := i) (by omega) (a2 i (Nat.le_refl i))
          refine pw_big (B := rw13 (X b)) (d := fdg (X b) 13 - 1) (k := i) (e := e) (fun x hx => ?_) ?_ ?_ (by omega)
          · by_cases y : x < 13
            · rw [rw13_in y]
              exact fdg_zero _ _ _ (by omega) y
            · exact rw13_out (by omega)
          · have hl := fdg_le (X b) 13
            rw [rw13_in (by omega)]
            exact fdg_ne _ _ (by omega)
          · rw [Nat.succ_mul]
            omega
end MRA
