/-! The desk of the class, exactly: powers. -/
def pz_one : pz_P := fun i => if i = 0 then 1 else 0
def pw (B : pz_P) : Nat → pz_P
  | 0 => pz_one
  | k + 1 => pz_mul (pw B k) B
theorem pz_mul_abs {A B : pz_P} {al be : Nat} (hA : ∀ i, (A i).natAbs ≤ al) (hB : ∀ i, (B i).natAbs ≤ be) (hz : ∀ i, 13 ≤ i → A i = 0) (e : Nat) : (pz_mul A B e).natAbs ≤ 14 * (al * be) := by
  rw [← tw_end hz]
  exact tw_abs hA hB 13 0 e
theorem pw_abs {B : pz_P} {M : Nat} (hB : ∀ i, (B i).natAbs ≤ M) (hM : 1 ≤ M) : ∀ k, (∀ j, j ≤ k → ∀ i, 13 ≤ i → pw B j i = 0) → ∀ i, (pw B k i).natAbs ≤ (14 * M) ^ k
  | 0, _, i => by
    show (if i = 0 then (1 : Int) else 0).natAbs ≤ 1
    split <;> decide
  | k + 1, hz, i => by
    have h1 := pz_mul_abs (pw_abs hB hM k (fun j hj => hz j (by omega))) hB (hz k (by omega)) i
    refine Nat.le_trans h1 (Nat.le_of_eq ?_)
    rw [Nat.pow_succ]
    exact Nat.mul_left_comm 14 _ M
/-- the leading coefficient of a power -/
theorem pw_lead {B : pz_P} {d : Nat} (hB : ∀ i, d < i → B i = 0) : ∀ k, (∀ i, k * d < i → pw B k i = 0) ∧ pw B k (k * d) = (B d) ^ k
  | 0 => ⟨fun i hi => by
    show (if i = 0 then (1 : Int) else 0) = 0
    rw [if_neg (by omega)], by
    show (if 0 * d = 0 then (1 : Int) else 0) = (B d) ^ 0
    rw [if_pos (Nat.zero_mul d), Int.pow_zero]⟩
  | k + 1 => by
    obtain ⟨h1, h2⟩ := pw_lead hB k
    have l1 : pz_lt (pw B k) (k * d + 1) := fun i hi => h1 i (by omega)
    have l2 : pz_lt B (d + 1) := fun i hi => hB i (by omega)
    rw [Nat.succ_mul]
    refine ⟨fun i hi => pz_lt.mul (c := k * d + d + 1) l1 l2 (by omega) i (by omega), ?_⟩
    show pz_c (k * d + d) (pw B k) B = _
    rw [pz_c_lead (k * d) (pw B k) B d l1 l2, h2, Int.pow_succ]
theorem pw_big {B : pz_P} {d k e : Nat} (hB : ∀ i, d < i → B i = 0) (hn : B d ≠ 0) (hk : 13 ≤ (k + 1) * d) (he : k < e) : ¬ fit13 (pw B e) := fun h => by
  have h1 := (pw_lead hB e).2
  have h2 : (k + 1) * d ≤ e * d := Nat.mul_le_mul_right _ he
  rw [h.2 _ (by omega)] at h1
  exact Int.pow_ne_zero hn h1.symm
theorem fdg_pw {B : Nat → Int} {k : Nat} (hn : 1 ≤ fdg B 13) (hz : ∀ i, 13 ≤ i → pw (rw13 B) k i = 0) : fdg (pw (rw13 B) k) 13 = k * (fdg B 13 - 1) + 1 := by
  have hle := fdg_le B 13
  have hB : ∀ i, fdg B 13 - 1 < i → rw13 B i = 0 := fun i hi => by
    unfold rw13
    split
    · exact fdg_zero B 13 i (by omega) (by omega)
    · rfl
  obtain ⟨h1, h2⟩ := pw_lead hB k
  have hne : pw (rw13 B) k (k * (fdg B 13 - 1)) ≠ 0 := by
    rw [h2]
    refine Int.pow_ne_zero ?_
    rw [rw13_in (by omega)]
    exact fdg_ne _ _ hn
  have hlt : k * (fdg B 13 - 1) < 13 := Nat.lt_of_not_le (fun q => hne (hz _ q))
  exact fdg_of (by omega) (fun i a b => h1 i (by omega)) (Or.inr (by rw [Nat.add_sub_cancel]; exact hne))
theorem fit_pw : (14 * 999999999999999999) ^ 12 < jB ^ 30 := by decide +kernel
theorem fit_pw2 : (14 * 999999999999999999) ^ 12 < jB ^ 236 := by decide +kernel
theorem rw13_abs {A : Nat → Int} (h : sml A) (i : Nat) : (rw13 A i).natAbs ≤ 999999999999999999 := by
  unfold rw13
  split
  · exact h i (by omega)
  · decide
section MRA
variable {g h : mj_H} {n D b r e : Nat} {V : Nat → Int} {X : Nat → Nat → Int}
/-- what holds in the loop -/
def raI (V : Nat → Int) (X : Nat → Nat → Int) (b r i : Nat) (V1 : Nat → Int) (X1 : Nat → Nat → Int) : Prop := dF V V1 ∧ xF (fun x => x = r) X X1 ∧ (∀ e, e < 13 → V1 (20 + 4 + 2 * e) = (pw (rw13 (X b))) i e) ∧ (∀ j, j ≤ i → ∀ e, 13 ≤ e → (pw (rw13 (X b))) j e = 0) ∧ (∀ e, e < 13 → V1 (50 + 4 + 2 * e) = X b e) ∧ X1 20 2 = (fdg ((pw (rw13 (X b))) i) 13 : Int) - 1 ∧ X1 50 2 = (fdg (X b) 13 : Int) - 1 ∧ V1 81 = 0
theorem mD_raise_loop (kb : cK b = 2) (kr : cK r = 2) (hb_b : sml (X b)) (he : e ≤ 12) (hz : V 81 = 0) : ∀ k i, i + k = e → ∀ (V1 : Nat → Int) (X1 : Nat → Nat → Int) (h1 : mj_H), jM g n V1 X1 h1 → raI V X b r i V1 X1 → mj_T (D + 3) mj_m12 38 [some (.ref 19), some (.ref b), some (.int (jn (e : Int))), some (.ref r), some (.int (jn (i : Int)))] [] h1 (fun z => ∃ V2 X2 h2, jM g n V2 X2 h2 ∧ dF V V2 ∧ xF (fun x => x = r) X X2 ∧ ((fit13 ((pw (rw13 (X b))) e) ∧ z = (.inl (some (.int (jn 1))), h2) ∧ ∀ i, i < 13 → X2 r i = (pw (rw13 (X b))) e i) ∨ (¬ fit13 ((pw (rw13 (X b))) e) ∧ z = (.inl (some (.int (jn 0))), h2))))
  | 0, i, hi, V1, X1, h1, m, I => by
    obtain ⟨hd, hx, a1, a2, a3, a4, a5, a6⟩ := I
    have hie : i = e := by omega
    subst hie
    iterate 2 refine mj_T.pl rfl rfl rfl rfl ?_
    refine mj_T.icmp (a := ((i : Nat) : Int)) (b := ((i : Nat) : Int)) rfl ⟨by omega, by omega⟩ ⟨by omega, by omega⟩ (fun c1 => ?_) (fun c1 => ?_)
    · simp only [jc, Bool.not_eq_true', Bool.not_eq_false', decide_eq_true_eq, decide_eq_false_iff_not] at c1
      refine mj_T.pl rfl rfl rfl rfl ?_
      refine mT_get m 11 cq_d19 (by decide) rfl rfl ?_
      refine mj_T.pl rfl rfl rfl rfl ?_
      have p20 : cL (20 + 3) = 13 := mK_z.1
      have hfi := pok_fit (V := V1) (p := 20) (m := 13) p20.symm (by decide) ((pw (rw13 (X b))) i) (fun j hj => a1 j hj) (fun j hj => a2 i (Nat.le_refl i) j hj)
      refine mj_T.call rfl rfl (Nat.le_of_ble_eq_true rfl) (Nat.le_of_ble_eq_true rfl) (mV_of m 13 cq_d20 (by decide) rfl (by decide) rfl _) rfl (mj_Ok.up (by omega) (mP_store (D := 0) m cq_d20 (fun j hj => by rw [p20] at hj; rw [a1 j hj]; exact jnl_B (pw_abs (rw13_abs hb_b) (by decide) i a2 j) (jB_15 (m := 30) (Nat.lt_of_le_of_lt (Nat.pow_le_pow_right (by decide) (by omega)) fit_pw) (by decide))) kr (by omega))) (fun v g1 hq => ?_) (fun i g1 hq => ?_)
      rotate_left
      · rcases hq with ⟨_, _, _, hq⟩ | ⟨_, hq⟩ <;> cases hq
      rcases hq with ⟨ho, _, m8, hq⟩ | ⟨ho, hq⟩
      · cases hq
        refine mj_T.ret rfl rfl rfl ⟨_, _, _, m8, hd, hx.tr (xF.row (S := fun x => x = r) rfl), Or.inl ⟨hfi.mp ho, rfl, fun i hi => ?_⟩⟩
        rw [xfl_at _ _ _ hi]
        exact a1 i hi
      · cases hq
        exact mj_T.ret rfl rfl rfl ⟨_, _, _, m, hd, hx, Or.inr ⟨fun q => ho (hfi.mpr q), rfl⟩⟩
    · exfalso
      simp only [jc, Bool.not_eq_true', Bool.not_eq_false', decide_eq_true_eq, decide_eq_false_iff_not] at c1
      omega
  | k + 1, i, hi, V1, X1, h1, m, I => by
    obtain ⟨hd, hx, a1, a2, a3, a4, a5, a6⟩ := I
    have p20 : cL (20 + 3) = 13 := mK_z.1
    have p50 : cL (50 + 3) = 13 := mK_z.2.1
    have p80 : cL (80 + 3) = 13 := mK_z.2.2.1
    have eA : pcs V1 20 = (pw (rw13 (X b))) i := funext fun j => by
      unfold pcs
      rw [p20]
      by_cases y : j < 13
      · rw [if_pos y, a1 j y]
      · rw [if_neg y, a2 i (Nat.le_refl i) j (by omega)]
    have eB : pcs V1 50 = rw13 (X b) := funext fun j => by
      unfold pcs rw13
      rw [p50]
      split
      · exact a3 j (by omega)
      · rfl
    iterate 2 refine mj_T.pl rfl rfl rfl rfl ?_
    refine mj_T.icmp (a := ((i : Nat) : Int)) (b := ((e : Nat) : Int)) rfl ⟨by omega, by omega⟩ ⟨by omega, by omega⟩ (fun c1 => ?_) (fun c1 => ?_)
    · exfalso
      simp only [jc, Bool.not_eq_true', Bool.not_eq_false', decide_eq_true_eq, decide_eq_false_iff_not] at c1
      omega
    · simp only [jc, Bool.not_eq_true', Bool.not_eq_false', decide_eq_true_eq, decide_eq_false_iff_not] at c1
      iterate 2 refine mj_T.pl rfl rfl rfl rfl ?_
      refine mT_get m 11 cq_d19 (by decide) rfl rfl ?_
      refine mj_T.pl rfl rfl rfl rfl ?_
      refine mT_get m 11 cq_d19 (by decide) rfl rfl ?_
      refine mj_T.pl rfl rfl rfl rfl ?_
      refine mT_get m 11 cq_d19 (by decide) rfl rfl ?_
      have hA : ∀ i', (pcs V1 20 i').natAbs ≤ (14 * 999999999999999999) ^ i := fun i' => by rw [eA]; exact pw_abs (rw13_abs hb_b) (by decide) i a2 i'
      have hB : ∀ i', (pcs V1 50 i').natAbs ≤ 999999999999999999 := fun i' => by rw [eB]; exact rw13_abs hb_b i'
      have hpp : (14 * 999999999999999999) ^ (i + 1) ≤ (14 * 999999999999999999) ^ 12 := Nat.pow_le_pow_right (by decide) (by omega)
      have hfit : 13 * ((14 * 999999999999999999) ^ i * 999999999999999999) < jB ^ 236 := by
        refine Nat.lt_of_le_of_lt ?_ fit_pw2
        refine Nat.le_trans ?_ hpp
        rw [Nat.pow_succ]
        generalize (14 * 999999999999999999) ^ i = w
        omega
      refine mj_T.call rfl rfl (Nat.le_of_ble_eq_true rfl) (Nat.le_of_ble_eq_true rfl) (mV_of m 11 cq_d19 (by decide) rfl (by decide) rfl _) rfl (mD_times (D := D) (t := 80) m (da := fdg ((pw (rw13 (X b))) i) 13) (db := fdg (X b) 13) (al := (14 * 999999999999999999) ^ i) (be := 999999999999999999) (c := 236) cq_d80 (Or.inl rfl) a4 a5 (fdg_le _ _) (fdg_le _ _) (fun j h1 h2 => by rw [a3 j h2]; exact fdg_zero _ _ _ h1 h2) hA hB (by decide) (fun j hj => Nat.le_of_eq ((mK_z.2.2.2.2.1 j (by omega)).2.2).symm) hfit (jB_15 (m := 30) (Nat.lt_of_le_of_lt (Nat.pow_le_pow_right (by decide) (by omega)) fit_pw) (by decide)) (jB_15 (m := 3) (by decide +kernel) (by decide)) (fun j h1 h2 => by rw [a1 j h2]; exact fdg_zero _ _ _ h1 h2)) (fun v g1 hq => ?_) (fun i g1 hq => ?_)
      rotate_left
      · rcases hq with ⟨_, _, _, _, _, hq⟩ | ⟨_, _, _, hq⟩ <;> cases hq
      rw [eA, eB, p80] at hq
      rcases hq with ⟨ho, z1, z2, _, m9, hq⟩ | ⟨ho, _, m9, hq⟩
      · cases hq
        refine mj_T.eq (pc2 := 60) (st2 := [.int (jn 1)]) ?_ rfl rfl rfl rfl
        refine mj_T.if0 (a := 1) rfl ⟨by omega, by omega⟩ (fun c61 => ?_) (fun c61 => ?_)
        · simp only [jc, Bool.not_eq_true', Bool.not_eq_false', decide_eq_true_eq, decide_eq_false_iff_not] at c61
          refine mj_T.pl rfl rfl rfl rfl ?_
          refine mT_get m9 11 cq_d19 (by decide) rfl rfl ?_
          refine mj_T.pl rfl rfl rfl rfl ?_
          refine mT_get m9 11 cq_d19 (by decide) rfl rfl ?_
          have hz1 : ∀ j, 13 ≤ j → (pw (rw13 (X b))) (i + 1) j = 0 := fun j hj => by
            by_cases q : fdg (X b) 13 = 0
            · have hB0 : rw13 (X b) = fun _ => 0 := funext fun x => by
                by_cases y : x < 13
                · rw [rw13_in y]
                  exact fdg_zero _ _ _ (by omega) y
                · exact rw13_out (by omega)
              exact (pz_c_lt 13 j ((pw (rw13 (X b))) i) (rw13 (X b)) 0 (fun x hx => a2 i (Nat.le_refl i) x hx) (fun x _ => congrFun hB0 x) (by omega) : pz_c j ((pw (rw13 (X b))) i) (rw13 (X b)) = 0)
            · have q1 := fdg_pw (B := X b) (k := i) (by omega) (a2 i (Nat.le_refl i))
              have q2 := (pw_lead (B := rw13 (X b)) (d := fdg (X b) 13 - 1) (fun x hx => by
                by_cases y : x < 13
                · rw [rw13_in y]
                  exact fdg_zero _ _ _ (by omega) y
                · exact rw13_out (by omega)) (i + 1)).1
              refine q2 j ?_
              rw [Nat.succ_mul]
              omega
          have m9 : jM g n (pfl (scr V1 z1 z2) 80 ((pw (rw13 (X b))) (i + 1)) 13) (xup X1 80 2 ((fdg ((pw (rw13 (X b))) (i + 1)) 13 : Int) - 1)) _ := m9
          have eP : pcs (pfl (scr V1 z1 z2) 80 ((pw (rw13 (X b))) (i + 1)) 13) 80 = (pw (rw13 (X b))) (i + 1) := funext fun j => by
            unfold pcs
            rw [p80]
            by_cases y : j < 13
            · rw [if_pos y, pfl_at _ _ _ y]
            · rw [if_neg y, hz1 j (by omega)]
          have a2' : ∀ j, j ≤ i + 1 → ∀ e', 13 ≤ e' → (pw (rw13 (X b))) j e' = 0 := fun j hj => by
            by_cases y : j = i + 1
            · rw [y]
              exact hz1
            · exact a2 j (by omega)
          refine mj_T.call rfl rfl (Nat.le_of_ble_eq_true rfl) (Nat.le_of_ble_eq_true rfl) (mV_of m9 13 cq_d20 (by decide) rfl (by decide) rfl _) rfl (mj_Ok.up (by omega) (mP_set (D := 0) m9 cq_d20 cq_d80 (by decide) (by rw [pfl_off _ _ _ (by decide), scr_off _ _ _ (by decide) (by decide)]; exact a6) (fun j hj => ?_))) (fun v g1 hq => ?_) (fun i g1 hq => ?_)
          · rw [eP, (mK_z.2.2.2.2.1 j (by omega)).1]
            exact jnl_B (pw_abs (rw13_abs hb_b) (by decide) (i + 1) a2' j) (Nat.lt_of_le_of_lt hpp fit_pw)
          rotate_left
          · obtain ⟨_, _, hq⟩ := hq; cases hq
          obtain ⟨_, m10, hq⟩ := hq
          cases hq
          rw [eP, p20] at m10
          refine mj_T.eq (pc2 := 76) (st2 := []) ?_ rfl rfl rfl rfl
          refine mj_T.iinc rfl rfl ?_
          rw [show ((i : Nat) : Int) + 1 = ((i + 1 : Nat) : Int) by omega]
          refine mj_T.eq (loc2 := [some (.ref 19), some (.ref b), some (.int (jn ((e : Nat) : Int))), some (.ref r), some (.int (jn (((i + 1) : Nat) : Int)))]) ?_ rfl rfl rfl rfl
          refine mj_T.pl rfl rfl rfl rfl ?_
          refine mD_raise_loop kb kr hb_b he hz k (i + 1) (by omega) _ _ _ m10 ⟨hd.tr ((dF.scr _ z1 z2).tr ((dF.pfl (by omega)).tr (dF.pfl (by omega)))), hx.tr ((xF.deg (by omega)).tr (xF.deg (by omega))), fun j hj => pfl_at _ _ _ hj, a2', fun j hj => ?_, xup_at _ _ _ _, ?_, ?_⟩
          · rw [pfl_off _ _ _ (by omega), lk_off (by omega) (by omega) (by omega)]
            exact a3 j hj
          · rw [xup_ne _ _ (Or.inl (by decide)), xup_ne _ _ (Or.inl (by decide))]
            exact a5
          · rw [pfl_off _ _ _ (by omega), lk_off (by omega) (by omega) (by omega)]
            exact a6
        · exfalso
          simp [jc] at c61
      · cases hq
        refine mj_T.eq (pc2 := 60) (st2 := [.int (jn 0)]) ?_ rfl rfl rfl rfl
        refine mj_T.if0 (a := 0) rfl ⟨by omega, by omega⟩ (fun c91 => ?_) (fun c91 => ?_)
        · exfalso
          simp [jc] at c91
        · simp only [jc, Bool.not_eq_true', Bool.not_eq_false', decide_eq_true_eq, decide_eq_false_iff_not] at c91
          refine mj_T.pl rfl rfl rfl rfl ?_
          refine mj_T.ret rfl rfl rfl ⟨_, _, _, m9, hd.tr (dF.pfl (by omega)), hx.tr (xF.deg (by omega)), Or.inr ⟨?_, rfl⟩⟩
          have q1 := fdg_pw (B := X b) (k := i) (by omega) (a2 i (Nat.le_refl i))
          refine pw_big (B := rw13 (X b)) (d := fdg (X b) 13 - 1) (k := i) (e := e) (fun x hx => ?_) ?_ ?_ (by omega)
          · by_cases y : x < 13
            · rw [rw13_in y]
              exact fdg_zero _ _ _ (by omega) y
            · exact rw13_out (by omega)
          · have hl := fdg_le (X b) 13
            rw [rw13_in (by omega)]
            exact fdg_ne _ _ (by omega)
          · rw [Nat.succ_mul]
            omega
end MRA
/-! The desk of the class, exactly: powers, and a polynomial put into another one. -/
section MRB
variable {g h : mj_H} {n D b r e : Nat} {V : Nat → Int} {X : Nat → Nat → Int}
theorem mD_raise (m : jM g n V X h) (kb : cK b = 2) (kr : cK r = 2) (hb_b : sml (X b)) (he : e ≤ 12) (hz : V 81 = 0) : mj_Ok (D + 4) 12 [.ref 19, .ref b, .int (jn (e : Int)), .ref r] h (fun z => ∃ V2 X2 h2, jM g n V2 X2 h2 ∧ dF V V2 ∧ xF (fun x => x = r) X X2 ∧ ((fit13 ((pw (rw13 (X b))) e) ∧ z = (.inl (some (.int (jn 1))), h2) ∧ ∀ i, i < 13 → X2 r i = (pw (rw13 (X b))) e i) ∨ (¬ fit13 ((pw (rw13 (X b))) e) ∧ z = (.inl (some (.int (jn 0))), h2)))) := by
  have p20 : cL (20 + 3) = 13 := mK_z.1
  refine mj_Ok.of (M := mj_m12) rfl rfl rfl ?_
  refine mj_T.pl rfl rfl rfl rfl ?_
  refine mT_get m 11 cq_d19 (by decide) rfl rfl ?_
  refine mj_T.pl rfl rfl rfl rfl ?_
  refine jT.lc 1 rfl rfl ?_
  refine mj_T.call rfl rfl (Nat.le_of_ble_eq_true rfl) (Nat.le_of_ble_eq_true rfl) (mV_of m 13 cq_d50 (by decide) rfl (by decide) rfl _) rfl (mj_Ok.up (by omega) (mP_load1 (D := 0) m cq_d50 kb (by decide +kernel) (by exact hb_b) (fun i hi => by have := mK_z.2.2.2.2.1 i hi; omega))) (fun v g1 hq => ?_) (fun i g1 hq => ?_)
  rotate_left
  · obtain ⟨_, _, hq⟩ := hq; cases hq
  obtain ⟨_, m2, hq⟩ := hq
  cases hq
  refine mj_T.eq (pc2 := 9) (st2 := []) ?_ rfl rfl rfl rfl
  refine mj_T.pl rfl rfl rfl rfl ?_
  refine mT_get m2 11 cq_d19 (by decide) rfl rfl ?_
  refine mj_T.call rfl rfl (Nat.le_of_ble_eq_true rfl) (Nat.le_of_ble_eq_true rfl) (mV_of m2 13 cq_d20 (by decide) rfl (by decide) rfl _) rfl (mj_Ok.up (by omega) (mP_clear (D := 0) m2 cq_d20)) (fun v g3 hq => ?_) (fun i g3 hq => ?_)
  rotate_left
  · obtain ⟨_, _, hq⟩ := hq; cases hq
  obtain ⟨_, m4, hq⟩ := hq
  cases hq
  rw [p20] at m4
  refine mj_T.eq (pc2 := 16) (st2 := []) ?_ rfl rfl rfl rfl
  refine mj_T.pl rfl rfl rfl rfl ?_
  refine mT_get m4 11 cq_d19 (by decide) rfl rfl ?_
  refine mj_T.pl rfl rfl rfl rfl ?_
  refine mj_T.call rfl rfl (Nat.le_of_ble_eq_true rfl) (Nat.le_of_ble_eq_true rfl) (mV_of m4 13 cq_d20 (by decide) rfl (by decide) rfl _) rfl (mj_Ok.up (by omega) (mP_at (D := 0) m4 cq_d20 (e := 0) (by omega))) (fun v g5 hq => ?_) (fun i g5 hq => ?_)
  rotate_left
  · cases hq
  cases hq
  refine mj_T.eq (pc2 := 24) (st2 := [.ref (20 + 4 + 2 * 0)]) ?_ rfl rfl rfl rfl
  refine jT.lc 1 rfl rfl ?_
  refine mj_T.call rfl rfl (Nat.le_of_ble_eq_true rfl) (Nat.le_of_ble_eq_true rfl) (mV_of m4 18 ((mK_p cq_d20).2.2.2 0 (by omega)) (by decide) rfl (by decide) rfl _) rfl (mj_Ok.up (by omega) (mW_setLong (D := 0) (v := ((1 : Nat) : Int)) m4 ((mK_p cq_d20).2.2.2 0 (by omega)) ⟨by decide, by decide⟩ (Nat.le_trans (jnl_two.mpr (by decide)) (by have := (mK_z.2.2.2.2.1 0 (by decide)).1; omega)))) (fun v g6 hq => ?_) (fun i g6 hq => ?_)
  rotate_left
  · obtain ⟨_, _, hq⟩ := hq; cases hq
  obtain ⟨_, m7, hq⟩ := hq
  cases hq
  refine mj_T.eq (pc2 := 28) (st2 := []) ?_ rfl rfl rfl rfl
  refine mj_T.pl rfl rfl rfl rfl ?_
  refine mT_get m7 11 cq_d19 (by decide) rfl rfl ?_
  have hcl0 : pcl (jvu (pfl (pfl V 50 (X b) 13) 20 (fun _ => 0) 13) (20 + 4 + 2 * 0) ((1 : Nat) : Int)) 20 := fun j hj => by
    rw [p20] at hj
    by_cases q : j = 0
    · subst q
      rw [jvu_at]
      exact Nat.le_trans (jnl_two.mpr (by decide)) (by decide)
    · rw [jvu_ne _ _ _ (by omega), pfl_at _ _ _ hj]
      exact Nat.le_trans (Nat.le_of_eq jnl_zero) (Nat.zero_le _)
  refine mj_T.call rfl rfl (Nat.le_of_ble_eq_true rfl) (Nat.le_of_ble_eq_true rfl) (mV_of m7 13 cq_d20 (by decide) rfl (by decide) rfl _) rfl (mj_Ok.up (by omega) (mP_settle (D := 0) m7 cq_d20 hcl0)) (fun v g8 hq => ?_) (fun i g8 hq => ?_)
  rotate_left
  · obtain ⟨_, _, hq⟩ := hq; cases hq
  obtain ⟨_, m9, hq⟩ := hq
  cases hq
  rw [p20] at m9
  refine mj_T.eq (pc2 := 35) (st2 := []) ?_ rfl rfl rfl rfl
  refine mj_T.pl rfl rfl rfl rfl ?_
  refine mj_T.pl (loc' := [some (.ref 19), some (.ref b), some (.int (jn ((e : Nat) : Int))), some (.ref r), some (.int (jn 0))]) rfl rfl rfl rfl ?_
  have e0 : ∀ j, j < 13 → (jvu (pfl (pfl V 50 (X b) 13) 20 (fun _ => 0) 13) (20 + 4 + 2 * 0) ((1 : Nat) : Int)) (20 + 4 + 2 * j) = (pw (rw13 (X b))) 0 j := fun j hj => by
    show _ = if j = 0 then (1 : Int) else 0
    by_cases q : j = 0
    · subst q
      rw [jvu_at, if_pos rfl]
      rfl
    · rw [jvu_ne _ _ _ (by omega), pfl_at _ _ _ hj, if_neg q]
  exact mD_raise_loop kb kr hb_b he hz e 0 (by omega) _ _ _ m9 ⟨(dF.pfl (by omega)).tr ((dF.pfl (by omega)).tr (dF.jvu (by omega))), (xF.deg (by omega)).tr ((xF.deg (by omega)).tr (xF.deg (by omega))), e0, fun j hj i hi => by
    obtain rfl : j = 0 := by omega
    exact if_neg (by omega), fun j hj => by
    rw [jvu_ne _ _ _ (by omega), pfl_off _ _ _ (by omega), pfl_at _ _ _ hj], by
    rw [xup_at, fdg_congr (f' := pco (jvu (pfl (pfl V 50 (X b) 13) 20 (fun _ => 0) 13) (20 + 4 + 2 * 0) ((1 : Nat) : Int)) 20) (f := (pw (rw13 (X b))) 0) 13 e0], by
    rw [xup_ne _ _ (Or.inl (by decide)), xup_ne _ _ (Or.inl (by decide)), xup_at], by
    rw [jvu_ne _ _ _ (by decide), pfl_off _ _ _ (by decide), pfl_off _ _ _ (by decide)]
    exact hz⟩
end MRB
/-! The desk of the class, exactly: a polynomial put into another one. -/
/-- what has been put together so far, from the top -/
def hw (A B : pz_P) : Nat → pz_P
  | 0 => pz_0
  | k + 1 => fun i => pz_mul (hw A B k) B i + if i = 0 then A (12 - k) else 0
theorem hw_abs {A B : pz_P} {M : Nat} (hA : ∀ i, (A i).natAbs ≤ M) (hB : ∀ i, (B i).natAbs ≤ M) (hM : 1 ≤ M) : ∀ k, (∀ j, j < k → ∀ i, 13 ≤ i → hw A B j i = 0) → ∀ i, (hw A B k i).natAbs ≤ (15 * M) ^ k
  | 0, _, i => by
    show (0 : Int).natAbs ≤ 1
    decide
  | k + 1, hz, i => by
    have h1 := pz_mul_abs (hw_abs hA hB hM k (fun j hj => hz j (by omega))) hB (hz k (by omega)) i
    have h2 : M ≤ (15 * M) ^ k * M := Nat.le_mul_of_pos_left _ (Nat.pow_pos (by omega))
    have h3 : (if i = 0 then A (12 - k) else 0).natAbs ≤ M := by
      split
      · exact hA _
      · exact Nat.zero_le _
    show (pz_mul (hw A B k) B i + if i = 0 then A (12 - k) else 0).natAbs ≤ _
    rw [Nat.pow_succ, Nat.mul_left_comm]
    omega
def big13 (P : pz_P) : Prop := ∃ d, 13 ≤ d ∧ (∀ i, d < i → P i = 0) ∧ P d ≠ 0
theorem big13.not {P : pz_P} (h : big13 P) : ¬ fit13 P := fun q => by
  obtain ⟨d, h1, _, h2⟩ := h
  exact h2 (q.2 d h1)
theorem big13.mul {A B P : pz_P} {a b : Nat} (hA : ∀ i, a < i → A i = 0) (hAn : A a ≠ 0) (hB : ∀ i, b < i → B i = 0) (hBn : B b ≠ 0) (hab : 13 ≤ a + b) (hP : ∀ i, 1 ≤ i → P i = pz_mul A B i) : big13 P := by
  have l1 : pz_lt A (a + 1) := fun i hi => hA i (by omega)
  have l2 : pz_lt B (b + 1) := fun i hi => hB i (by omega)
  refine ⟨a + b, hab, fun i hi => ?_, ?_⟩
  · rw [hP i (by omega)]
    exact pz_lt.mul (c := a + b + 1) l1 l2 (by omega) i (by omega)
  · rw [hP _ (by omega)]
    show pz_c (a + b) A B ≠ 0
    rw [pz_c_lead a A B b l1 l2]
    exact Int.mul_ne_zero hAn hBn
theorem hw_rest (A B : pz_P) (k : Nat) : ∀ i, 1 ≤ i → hw A B (k + 1) i = pz_mul (hw A B k) B i := fun i hi => by
  show pz_mul (hw A B k) B i + (if i = 0 then A (12 - k) else 0) = _
  rw [if_neg (by omega), Int.add_zero]
theorem hw_big {A B : pz_P} {b : Nat} (hB : ∀ i, b < i → B i = 0) (hBn : B b ≠ 0) {k : Nat} (h : big13 (hw A B k)) : ∀ j, big13 (hw A B (k + j))
  | 0 => h
  | j + 1 => by
    obtain ⟨d, h1, h2, h3⟩ := hw_big hB hBn h j
    exact big13.mul h2 h3 hB hBn (by omega) (hw_rest A B (k + j))
theorem rw13_top {A : Nat → Int} : ∀ i, fdg A 13 - 1 < i → rw13 A i = 0 := fun i hi => by
  unfold rw13
  split
  · exact fdg_zero A 13 i (by omega) (by omega)
  · rfl
theorem fit_hw : (15 * 999999999999999999) ^ 13 < jB ^ 30 := by decide +kernel
theorem fit_hw2 : (15 * 999999999999999999) ^ 13 < jB ^ 236 := by decide +kernel
section MPI
variable {g h : mj_H} {n D a b r : Nat} {V : Nat → Int} {X : Nat → Nat → Int}
/-- what holds in the loop -/
def puI (V : Nat → Int) (X : Nat → Nat → Int) (a b k : Nat) (V1 : Nat → Int) (X1 : Nat → Nat → Int) : Prop := dF V V1 ∧ xF (fun _ => False) X X1 ∧ (∀ e, e < 13 → V1 (20 + 4 + 2 * e) = (hw (rw13 (X a)) (rw13 (X b))) k e) ∧ (∀ j, j ≤ k → ∀ e, 13 ≤ e → (hw (rw13 (X a)) (rw13 (X b))) j e = 0) ∧ (∀ e, e < 13 → V1 (50 + 4 + 2 * e) = X b e) ∧ X1 20 2 = (fdg ((hw (rw13 (X a)) (rw13 (X b))) k) 13 : Int) - 1 ∧ X1 50 2 = (fdg (X b) 13 : Int) - 1 ∧ V1 81 = 0
theorem mD_putin_loop (ka : cK a = 2) (kb : cK b = 2) (kr : cK r = 2) (hb_a : sml (X a)) (hb_b : sml (X b)) (hz : V 81 = 0) : ∀ (u k : Nat), k + u = 13 → ∀ (V1 : Nat → Int) (X1 : Nat → Nat → Int) (h1 : mj_H), jM g n V1 X1 h1 → puI V X a b k V1 X1 → mj_T (D + 3) mj_m13 22 [some (.ref 19), some (.ref a), some (.ref b), some (.ref r), some (.int (jn ((u : Int) - 1)))] [] h1 (fun z => ∃ V2 X2 h2, jM g n V2 X2 h2 ∧ dF V V2 ∧ xF (fun x => x = r) X X2 ∧ ((fit13 ((hw (rw13 (X a)) (rw13 (X b))) 13) ∧ z = (.inl (some (.int (jn 1))), h2) ∧ ∀ i, i < 13 → X2 r i = (hw (rw13 (X a)) (rw13 (X b))) 13 i) ∨ (¬ fit13 ((hw (rw13 (X a)) (rw13 (X b))) 13) ∧ z = (.inl (some (.int (jn 0))), h2))))
  | 0, k, hi, V1, X1, h1, m, I => by
    obtain ⟨hd, hx, a1, a2, a3, a4, a5, a6⟩ := I
    have hie : k = 13 := by omega
    subst hie
    refine mj_T.pl rfl rfl rfl rfl ?_
    refine mj_T.if0 (a := (((0 : Nat) : Int) - 1)) rfl ⟨by omega, by omega⟩ (fun c1 => ?_) (fun c1 => ?_)
    · simp only [jc, Bool.not_eq_true', Bool.not_eq_false', decide_eq_true_eq, decide_eq_false_iff_not] at c1
      refine mj_T.pl rfl rfl rfl rfl ?_
      refine mT_get m 11 cq_d19 (by decide) rfl rfl ?_
      refine mj_T.pl rfl rfl rfl rfl ?_
      have p20 : cL (20 + 3) = 13 := mK_z.1
      have hfi := pok_fit (V := V1) (p := 20) (m := 13) p20.symm (by decide) ((hw (rw13 (X a)) (rw13 (X b))) 13) (fun j hj => a1 j hj) (fun j hj => a2 13 (Nat.le_refl 13) j hj)
      have hx' : xF (fun x => x = r) X X1 := hx.mono (fun _ q => q.elim)
      refine mj_T.call rfl rfl (Nat.le_of_ble_eq_true rfl) (Nat.le_of_ble_eq_true rfl) (mV_of m 13 cq_d20 (by decide) rfl (by decide) rfl _) rfl (mj_Ok.up (by omega) (mP_store (D := 0) m cq_d20 (fun j hj => by rw [p20] at hj; rw [a1 j hj]; exact jnl_B (hw_abs (rw13_abs hb_a) (rw13_abs hb_b) (by decide) 13 (fun i hi => a2 i (by omega)) j) (jB_15 (m := 30) fit_hw (by decide))) kr (by omega))) (fun v g1 hq => ?_) (fun i g1 hq => ?_)
      rotate_left
      · rcases hq with ⟨_, _, _, hq⟩ | ⟨_, hq⟩ <;> cases hq
      rcases hq with ⟨ho, _, m8, hq⟩ | ⟨ho, hq⟩
      · cases hq
        refine mj_T.ret rfl rfl rfl ⟨_, _, _, m8, hd, hx'.tr (xF.row (S := fun x => x = r) rfl), Or.inl ⟨hfi.mp ho, rfl, fun i hi => ?_⟩⟩
        rw [xfl_at _ _ _ hi]
        exact a1 i hi
      · cases hq
        exact mj_T.ret rfl rfl rfl ⟨_, _, _, m, hd, hx', Or.inr ⟨fun q => ho (hfi.mpr q), rfl⟩⟩
    · exfalso
      simp only [jc, Bool.not_eq_true', Bool.not_eq_false', decide_eq_true_eq, decide_eq_false_iff_not] at c1
      omega
  | u + 1, k, hi, V1, X1, h1, m, I => by
    obtain ⟨hd, hx, a1, a2, a3, a4, a5, a6⟩ := I
    have p20 : cL (20 + 3) = 13 := mK_z.1
    have p50 : cL (50 + 3) = 13 := mK_z.2.1
    have p80 : cL (80 + 3) = 13 := mK_z.2.2.1
    have eA : pcs V1 20 = (hw (rw13 (X a)) (rw13 (X b))) k := funext fun j => by
      unfold pcs
      rw [p20]
      by_cases y : j < 13
      · rw [if_pos y, a1 j y]
      · rw [if_neg y, a2 k (Nat.le_refl k) j (by omega)]
    have eB : pcs V1 50 = rw13 (X b) := funext fun j => by
      unfold pcs rw13
      rw [p50]
      split
      · exact a3 j (by omega)
      · rfl
    rw [show ((u + 1 : Nat) : Int) - 1 = (u : Int) by omega]
    refine mj_T.pl rfl rfl rfl rfl ?_
    refine mj_T.if0 (a := ((u : Nat) : Int)) rfl ⟨by omega, by omega⟩ (fun c1 => ?_) (fun c1 => ?_)
    · exfalso
      simp only [jc, Bool.not_eq_true', Bool.not_eq_false', decide_eq_true_eq, decide_eq_false_iff_not] at c1
      omega
    · simp only [jc, Bool.not_eq_true', Bool.not_eq_false', decide_eq_true_eq, decide_eq_false_iff_not] at c1
      iterate 2 refine mj_T.pl rfl rfl rfl rfl ?_
      refine mT_get m 11 cq_d19 (by decide) rfl rfl ?_
      refine mj_T.pl rfl rfl rfl rfl ?_
      refine mT_get m 11 cq_d19 (by decide) rfl rfl ?_
      refine mj_T.pl rfl rfl rfl rfl ?_
      refine mT_get m 11 cq_d19 (by decide) rfl rfl ?_
      have hA : ∀ i', (pcs V1 20 i').natAbs ≤ (15 * 999999999999999999) ^ k := fun i' => by rw [eA]; exact hw_abs (rw13_abs hb_a) (rw13_abs hb_b) (by decide) k (fun j hj => a2 j (by omega)) i'
      have hB : ∀ i', (pcs V1 50 i').natAbs ≤ 999999999999999999 := fun i' => by rw [eB]; exact rw13_abs hb_b i'
      have hpp : (15 * 999999999999999999) ^ (k + 1) ≤ (15 * 999999999999999999) ^ 13 := Nat.pow_le_pow_right (by decide) (by omega)
      have hfit : 13 * ((15 * 999999999999999999) ^ k * 999999999999999999) < jB ^ 236 := by
        refine Nat.lt_of_le_of_lt ?_ fit_hw2
        refine Nat.le_trans ?_ hpp
        rw [Nat.pow_succ]
        generalize (15 * 999999999999999999) ^ k = w
        omega
      refine mj_T.call rfl rfl (Nat.le_of_ble_eq_true rfl) (Nat.le_of_ble_eq_true rfl) (mV_of m 11 cq_d19 (by decide) rfl (by decide) rfl _) rfl (mD_times (D := D) (t := 80) m (da := fdg ((hw (rw13 (X a)) (rw13 (X b))) k) 13) (db := fdg (X b) 13) (al := (15 * 999999999999999999) ^ k) (be := 999999999999999999) (c := 236) cq_d80 (Or.inl rfl) a4 a5 (fdg_le _ _) (fdg_le _ _) (fun j h1 h2 => by rw [a3 j h2]; exact fdg_zero _ _ _ h1 h2) hA hB (by decide) (fun j hj => Nat.le_of_eq ((mK_z.2.2.2.2.1 j (by omega)).2.2).symm) hfit (jB_15 (m := 30) (Nat.lt_of_le_of_lt (Nat.pow_le_pow_right (by decide) (by omega)) fit_hw) (by decide)) (jB_15 (m := 3) (by decide +kernel) (by decide)) (fun j h1 h2 => by rw [a1 j h2]; exact fdg_zero _ _ _ h1 h2)) (fun v g1 hq => ?_) (fun i g1 hq => ?_)
      rotate_left
      · rcases hq with ⟨_, _, _, _, _, hq⟩ | ⟨_, _, _, hq⟩ <;> cases hq
      rw [eA, eB, p80] at hq
      rcases hq with ⟨ho, z1, z2, _, m9, hq⟩ | ⟨ho, _, m9, hq⟩
      · cases hq
        refine mj_T.eq (pc2 := 43) (st2 := [.int (jn 1)]) ?_ rfl rfl rfl rfl
        have hm9 : pz_mul ((hw (rw13 (X a)) (rw13 (X b))) k) (rw13 (X b)) 0 + 1 * X a u = (hw (rw13 (X a)) (rw13 (X b))) (k + 1) 0 := by
          show _ = pz_mul ((hw (rw13 (X a)) (rw13 (X b))) k) (rw13 (X b)) 0 + (if 0 = 0 then rw13 (X a) (12 - k) else 0)
          rw [if_pos rfl, rw13_in (by omega), show 12 - k = u by omega, Int.one_mul]
        have hz1 : ∀ j, 13 ≤ j → (hw (rw13 (X a)) (rw13 (X b))) (k + 1) j = 0 := fun j hj => by
          rw [hw_rest _ _ _ _ (by omega)]
          by_cases q : fdg (X b) 13 = 0
          · have hB0 : ∀ x, rw13 (X b) x = 0 := fun x => by
              by_cases y : x < 13
              · rw [rw13_in y]
                exact fdg_zero (X b) 13 x (by omega) y
              · exact rw13_out (by omega)
            exact (pz_c_lt 13 j ((hw (rw13 (X a)) (rw13 (X b))) k) (rw13 (X b)) 0 (fun x hx => a2 k (Nat.le_refl k) x hx) (fun x _ => hB0 x) (by omega) : pz_c j ((hw (rw13 (X a)) (rw13 (X b))) k) (rw13 (X b)) = 0)
          · by_cases q2 : fdg ((hw (rw13 (X a)) (rw13 (X b))) k) 13 = 0
            · exact (pz_c_lt 0 j ((hw (rw13 (X a)) (rw13 (X b))) k) (rw13 (X b)) 13 (fun x _ => by
                by_cases y : x < 13
                · exact fdg_zero ((hw (rw13 (X a)) (rw13 (X b))) k) 13 x (by omega) y
                · exact a2 k (Nat.le_refl k) x (by omega)) (fun x hx => rw13_out hx) (by omega) : pz_c j ((hw (rw13 (X a)) (rw13 (X b))) k) (rw13 (X b)) = 0)
            · exact (pz_c_lt (fdg ((hw (rw13 (X a)) (rw13 (X b))) k) 13) j ((hw (rw13 (X a)) (rw13 (X b))) k) (rw13 (X b)) (fdg (X b) 13) (fun x hx => by
                by_cases y : x < 13
                · exact fdg_zero ((hw (rw13 (X a)) (rw13 (X b))) k) 13 x hx y
                · exact a2 k (Nat.le_refl k) x (by omega)) (fun x hx => rw13_top x (by omega)) (by omega) : pz_c j ((hw (rw13 (X a)) (rw13 (X b))) k) (rw13 (X b)) = 0)
        have a2' : ∀ j, j ≤ k + 1 → ∀ e', 13 ≤ e' → (hw (rw13 (X a)) (rw13 (X b))) j e' = 0 := fun j hj => by
          by_cases y : j = k + 1
          · rw [y]
            exact hz1
          · exact a2 j (by omega)
        have hab := fun i' => hw_abs (rw13_abs hb_a) (rw13_abs hb_b) (by decide) (k + 1) (fun j hj => a2' j (by omega)) i'
        have hua := hb_a u (by omega)
        have hX1a : X1 a = X a := hx.1 a (kR_ne ka).1 (kR_ne ka).2.1 (kR_ne ka).2.2.1 (kR_ne ka).2.2.2 (fun q => q)
        have c1 : cL (164 + 1) = 240 := mK_z.2.2.2.2.2.2.2.1
        have c8 : cL (80 + 4 + 2 * 0 + 1) = 236 := (mK_z.2.2.2.2.1 0 (by decide)).2.2
        have hrow : (xup X1 80 2 ((fdg (pz_mul ((hw (rw13 (X a)) (rw13 (X b))) k) (rw13 (X b))) 13 : Int) - 1)) a u = X a u := by rw [show (xup X1 80 2 ((fdg (pz_mul ((hw (rw13 (X a)) (rw13 (X b))) k) (rw13 (X b))) 13 : Int) - 1)) a = X1 a from funext fun j => xup_ne _ _ (Or.inl (kR_ne ka).2.2.1), hX1a]
        have hja : jR (X a u) := ⟨by omega, by omega⟩
        have hjb : jnl (X a u).natAbs ≤ 2 := jnl_two.mpr (by omega)
        refine mj_T.if0 (a := 1) rfl ⟨by omega, by omega⟩ (fun c61 => ?_) (fun c61 => ?_)
        · simp only [jc, Bool.not_eq_true', Bool.not_eq_false', decide_eq_true_eq, decide_eq_false_iff_not] at c61
          refine mj_T.pl rfl rfl rfl rfl ?_
          refine mT_get m9 11 cq_d19 (by decide) rfl rfl ?_
          iterate 2 refine mj_T.pl rfl rfl rfl rfl ?_
          refine mT_lald m9 ka rfl ⟨by omega, by omega⟩ ?_
          refine mj_T.eq (st2 := [.long (jl ((xup X1 80 2 ((fdg (pz_mul ((hw (rw13 (X a)) (rw13 (X b))) k) (rw13 (X b))) 13 : Int) - 1)) a u)), .ref 164]) ?_ rfl rfl rfl rfl
          refine mj_T.call rfl rfl (Nat.le_of_ble_eq_true rfl) (Nat.le_of_ble_eq_true rfl) (mV_of m9 18 cq_d164 (by decide) rfl (by decide) rfl _) rfl (mj_Ok.up (by omega) (mW_setLong (D := 0) (v := ((xup X1 80 2 ((fdg (pz_mul ((hw (rw13 (X a)) (rw13 (X b))) k) (rw13 (X b))) 13 : Int) - 1)) a u)) m9 cq_d164 (by rw [hrow]; exact hja) (by rw [hrow]; omega))) (fun v g62 hq => ?_) (fun i g62 hq => ?_)
          rotate_left
          · obtain ⟨_, _, hq⟩ := hq; cases hq
          obtain ⟨_, m63, hq⟩ := hq
          cases hq
          rw [hrow, lk_p1 (by decide)] at m63
          refine mj_T.eq (pc2 := 59) (st2 := []) ?_ rfl rfl rfl rfl
          refine mj_T.pl rfl rfl rfl rfl ?_
          refine mT_get m63 11 cq_d19 (by decide) rfl rfl ?_
          refine mj_T.pl rfl rfl rfl rfl ?_
          refine mj_T.call rfl rfl (Nat.le_of_ble_eq_true rfl) (Nat.le_of_ble_eq_true rfl) (mV_of m63 13 cq_d80 (by decide) rfl (by decide) rfl _) rfl (mj_Ok.up (by omega) (mP_at (D := 0) m63 cq_d80 (e := 0) (by omega))) (fun v g64 hq => ?_) (fun i g64 hq => ?_)
          rotate_left
          · cases hq
          cases hq
          refine mj_T.eq (pc2 := 67) (st2 := [.ref (80 + 4 + 2 * 0)]) ?_ rfl rfl rfl rfl
          refine mj_T.pl rfl rfl rfl rfl ?_
          refine mT_get m63 11 cq_d19 (by decide) rfl rfl ?_
          refine mj_T.pl rfl rfl rfl rfl ?_
          refine mj_T.call rfl rfl (Nat.le_of_ble_eq_true rfl) (Nat.le_of_ble_eq_true rfl) (mV_of m63 18 ((mK_p cq_d80).2.2.2 0 (by omega)) (by decide) rfl (by decide) rfl _) rfl (mj_Ok.up (by omega) (mW_plus (D := 0) (f := 1) m63 ((mK_p cq_d80).2.2.2 0 (by omega)) cq_d164 (by decide) (Or.inl rfl) (by rw [lk_1 (by decide)]; omega) (by rw [lk_1 (by decide), pfl_at _ _ _ (by decide), hm9, c8]; exact jnl_B (hab 0) (Nat.lt_of_le_of_lt hpp fit_hw2)))) (fun v g65 hq => ?_) (fun i g65 hq => ?_)
          rotate_left
          · obtain ⟨_, _, hq⟩ := hq; cases hq
          obtain ⟨_, m66, hq⟩ := hq
          cases hq
          rw [lk_1 (by decide), pfl_at _ _ _ (by decide), hm9, pfl_upd (by decide)] at m66
          have m66 := m66.to (V' := (pfl (scr V1 (X a u) z2) 80 ((hw (rw13 (X a)) (rw13 (X b))) (k + 1)) 13)) (pfl_congr (fun e he => by
            by_cases y : e = 0
            · subst y
              rw [jvu_at]
            · rw [jvu_ne _ _ _ y]
              exact hw_rest _ _ _ _ (by omega))) rfl
          refine mj_T.eq (pc2 := 75) (st2 := []) ?_ rfl rfl rfl rfl
          refine mj_T.pl rfl rfl rfl rfl ?_
          refine mT_get m66 11 cq_d19 (by decide) rfl rfl ?_
          refine mj_T.pl rfl rfl rfl rfl ?_
          refine mT_get m66 11 cq_d19 (by decide) rfl rfl ?_
          have eP : pcs (pfl (scr V1 (X a u) z2) 80 ((hw (rw13 (X a)) (rw13 (X b))) (k + 1)) 13) 80 = (hw (rw13 (X a)) (rw13 (X b))) (k + 1) := funext fun j => by
            unfold pcs
            rw [p80]
            by_cases y : j < 13
            · rw [if_pos y, pfl_at _ _ _ y]
            · rw [if_neg y, hz1 j (by omega)]
          refine mj_T.call rfl rfl (Nat.le_of_ble_eq_true rfl) (Nat.le_of_ble_eq_true rfl) (mV_of m66 13 cq_d20 (by decide) rfl (by decide) rfl _) rfl (mj_Ok.up (by omega) (mP_set (D := 0) m66 cq_d20 cq_d80 (by decide) (by rw [pfl_off _ _ _ (by decide), scr_off _ _ _ (by decide) (by decide)]; exact a6) (fun j hj => by rw [eP, (mK_z.2.2.2.2.1 j (by omega)).1]; exact jnl_B (hab j) (Nat.lt_of_le_of_lt hpp fit_hw)))) (fun v g67 hq => ?_) (fun i g67 hq => ?_)
          rotate_left
          · obtain ⟨_, _, hq⟩ := hq; cases hq
          obtain ⟨_, m68, hq⟩ := hq
          cases hq
          rw [eP, p20] at m68
          refine mj_T.eq (pc2 := 86) (st2 := []) ?_ rfl rfl rfl rfl
          refine mj_T.iinc rfl rfl ?_
          refine mj_T.eq (loc2 := [some (.ref 19), some (.ref a), some (.ref b), some (.ref r), some (.int (jn (((u : Nat) : Int) + (-1))))]) ?_ rfl rfl rfl rfl
          refine mj_T.pl rfl rfl rfl rfl ?_
          rw [show (((u : Nat) : Int) + (-1)) = (u : Int) - 1 by omega]
          refine mD_putin_loop ka kb kr hb_a hb_b hz u (k + 1) (by omega) _ _ _ m68 ⟨hd.tr ((dF.scr _ (X a u) z2).tr ((dF.pfl (by omega)).tr (dF.pfl (by omega)))), hx.tr ((xF.deg (by omega)).tr (xF.deg (by omega))), fun j hj => pfl_at _ _ _ hj, a2', fun j hj => ?_, xup_at _ _ _ _, ?_, ?_⟩
          · rw [pfl_off _ _ _ (by omega), lk_off (by omega) (by omega) (by omega)]
            exact a3 j hj
          · rw [xup_ne _ _ (Or.inl (by decide)), xup_ne _ _ (Or.inl (by decide))]
            exact a5
          · rw [pfl_off _ _ _ (by omega), lk_off (by omega) (by omega) (by omega)]
            exact a6
        · exfalso
          simp [jc] at c61
      · cases hq
        refine mj_T.eq (pc2 := 43) (st2 := [.int (jn 0)]) ?_ rfl rfl rfl rfl
        refine mj_T.if0 (a := 0) rfl ⟨by omega, by omega⟩ (fun c191 => ?_) (fun c191 => ?_)
        · exfalso
          simp [jc] at c191
        · simp only [jc, Bool.not_eq_true', Bool.not_eq_false', decide_eq_true_eq, decide_eq_false_iff_not] at c191
          refine mj_T.pl rfl rfl rfl rfl ?_
          refine mj_T.ret rfl rfl rfl ⟨_, _, _, m9, hd.tr (dF.pfl (by omega)), (hx.tr (xF.deg (by omega))).mono (fun _ q => q.elim), Or.inr ⟨?_, rfl⟩⟩
          have hl := fdg_le (X b) 13
          have hl2 := fdg_le ((hw (rw13 (X a)) (rw13 (X b))) k) 13
          have hBn : rw13 (X b) (fdg (X b) 13 - 1) ≠ 0 := by
            rw [rw13_in (by omega)]
            exact fdg_ne _ _ (by omega)
          have hb1 : big13 ((hw (rw13 (X a)) (rw13 (X b))) (k + 1)) := big13.mul (a := fdg ((hw (rw13 (X a)) (rw13 (X b))) k) 13 - 1) (b := fdg (X b) 13 - 1) (fun x hx => by
            by_cases y : x < 13
            · exact fdg_zero _ _ _ (by omega) y
            · exact a2 k (Nat.le_refl k) x (by omega)) (fdg_ne _ _ (by omega)) rw13_top hBn (by omega) (hw_rest _ _ k)
          have hb2 := hw_big (A := rw13 (X a)) rw13_top hBn hb1 u
          rw [show k + 1 + u = 13 by omega] at hb2
          exact hb2.not
theorem mD_putIn (m : jM g n V X h) (ka : cK a = 2) (kb : cK b = 2) (kr : cK r = 2) (hb_a : sml (X a)) (hb_b : sml (X b)) (hz : V 81 = 0) : mj_Ok (D + 4) 13 [.ref 19, .ref a, .ref b, .ref r] h (fun z => ∃ V2 X2 h2, jM g n V2 X2 h2 ∧ dF V V2 ∧ xF (fun x => x = r) X X2 ∧ ((fit13 ((hw (rw13 (X a)) (rw13 (X b))) 13) ∧ z = (.inl (some (.int (jn 1))), h2) ∧ ∀ i, i < 13 → X2 r i = (hw (rw13 (X a)) (rw13 (X b))) 13 i) ∨ (¬ fit13 ((hw (rw13 (X a)) (rw13 (X b))) 13) ∧ z = (.inl (some (.int (jn 0))), h2)))) := by
  have p20 : cL (20 + 3) = 13 := mK_z.1
  refine mj_Ok.of (M := mj_m13) rfl rfl rfl ?_
  refine mj_T.pl rfl rfl rfl rfl ?_
  refine mT_get m 11 cq_d19 (by decide) rfl rfl ?_
  refine mj_T.pl rfl rfl rfl rfl ?_
  refine jT.lc 1 rfl rfl ?_
  refine mj_T.call rfl rfl (Nat.le_of_ble_eq_true rfl) (Nat.le_of_ble_eq_true rfl) (mV_of m 13 cq_d50 (by decide) rfl (by decide) rfl _) rfl (mj_Ok.up (by omega) (mP_load1 (D := 0) m cq_d50 kb (by decide +kernel) (by exact hb_b) (fun i hi => by have := mK_z.2.2.2.2.1 i hi; omega))) (fun v g1 hq => ?_) (fun i g1 hq => ?_)
  rotate_left
  · obtain ⟨_, _, hq⟩ := hq; cases hq
  obtain ⟨_, m2, hq⟩ := hq
  cases hq
  refine mj_T.eq (pc2 := 9) (st2 := []) ?_ rfl rfl rfl rfl
  refine mj_T.pl rfl rfl rfl rfl ?_
  refine mT_get m2 11 cq_d19 (by decide) rfl rfl ?_
  refine mj_T.call rfl rfl (Nat.le_of_ble_eq_true rfl) (Nat.le_of_ble_eq_true rfl) (mV_of m2 13 cq_d20 (by decide) rfl (by decide) rfl _) rfl (mj_Ok.up (by omega) (mP_clear (D := 0) m2 cq_d20)) (fun v g3 hq => ?_) (fun i g3 hq => ?_)
  rotate_left
  · obtain ⟨_, _, hq⟩ := hq; cases hq
  obtain ⟨_, m4, hq⟩ := hq
  cases hq
  rw [p20] at m4
  refine mj_T.eq (pc2 := 16) (st2 := []) ?_ rfl rfl rfl rfl
  refine mj_T.pl rfl rfl rfl rfl ?_
  refine mT_llen m4 ka rfl ?_
  refine mj_T.pl rfl rfl rfl rfl ?_
  refine mj_T.isub (a := ((13 : Nat) : Int)) (b := 1) rfl ?_
  refine mj_T.pl (loc' := [some (.ref 19), some (.ref a), some (.ref b), some (.ref r), some (.int (jn (((13 : Nat) : Int) - 1)))]) rfl rfl rfl rfl ?_
  refine mj_T.eq (loc2 := [some (.ref 19), some (.ref a), some (.ref b), some (.ref r), some (.int (jn (((13 : Nat) : Int) - 1)))]) ?_ rfl rfl rfl rfl
  have e0 : ∀ j, j < 13 → (pfl (pfl V 50 (X b) 13) 20 (fun _ => 0) 13) (20 + 4 + 2 * j) = (hw (rw13 (X a)) (rw13 (X b))) 0 j := fun j hj => pfl_at _ _ _ hj
  exact mD_putin_loop ka kb kr hb_a hb_b hz 13 0 (by omega) _ _ _ m4 ⟨(dF.pfl (by omega)).tr (dF.pfl (by omega)), (xF.deg (by omega)).tr (xF.deg (by omega)), e0, fun j hj i hi => by
    obtain rfl : j = 0 := by omega
    rfl, fun j hj => by
    rw [pfl_off _ _ _ (by omega), pfl_at _ _ _ hj], by
    rw [xup_at, show fdg ((hw (rw13 (X a)) (rw13 (X b))) 0) 13 = 0 from rfl]
    rfl, by
    rw [xup_ne _ _ (Or.inl (by decide)), xup_at], by
    rw [pfl_off _ _ _ (by decide), pfl_off _ _ _ (by decide)]
    exact hz⟩
end MPI
/-! What the class does with rows and numbers alone, exactly. -/
/-- rounds of Euclid: the product halves -/
theorem euc_step {a b k : Nat} (hb : 0 < b) (hab : b ≤ a) (hk : a * b < 2 ^ (k + 1)) : a % b ≤ b ∧ b * (a % b) < 2 ^ k := by
  have h1 := Nat.mod_lt a hb
  refine ⟨by omega, ?_⟩
  have h2 : 2 * (a % b) ≤ a := by
    have h3 := Nat.div_add_mod a b
    have h4 : 1 ≤ a / b := (Nat.le_div_iff_mul_le hb).mpr (by omega)
    have h5 : b ≤ b * (a / b) := Nat.le_mul_of_pos_right _ h4
    omega
  have h6 : b * (2 * (a % b)) ≤ b * a := Nat.mul_le_mul_left _ h2
  rw [Nat.mul_left_comm, Nat.mul_comm b a] at h6
  rw [Nat.pow_succ] at hk
  omega
section MST
variable {g h : mj_H} {n D r : Nat} {V : Nat → Int} {X : Nat → Nat → Int}
theorem mS_cm_loop {p q : Int} {gg : Nat} {Q : mj_R → Prop} (hend : Q (.inl (some (.long (jl (gg : Int)))), h)) : ∀ (k a b i : Nat) (w4 w5 : Option Value), Nat.gcd a b = gg → a < 9223372036854775808 → b < 9223372036854775808 → b ≤ a → a * b < 2 ^ k → i + k ≤ 129 → mj_T D mj_m171 31 [some (.long (jl p)), none, some (.long (jl q)), none, some (.long (jl (a : Int))), none, some (.long (jl (b : Int))), none, some (.int (jn (i : Int))), w4, w5] [] h Q
  | 0, a, b, i, w4, w5, hg, ha, hb, hba, hk, hi => by
    have hb0 : b = 0 := by
      rcases Nat.eq_zero_or_pos b with q | q
      · exact q
      · have := Nat.mul_le_mul (show 1 ≤ a by omega) (show 1 ≤ b from q)
        rw [Nat.pow_zero] at hk
        omega
    subst hb0
    iterate 2 refine mj_T.pl rfl rfl rfl rfl ?_
    refine mj_T.icmp (a := ((i : Nat) : Int)) (b := 130) rfl ⟨by omega, by omega⟩ ⟨by omega, by omega⟩ (fun c1 => ?_) (fun c1 => ?_)
    · exfalso
      simp only [jc, Bool.not_eq_true', Bool.not_eq_false', decide_eq_true_eq, decide_eq_false_iff_not] at c1
      omega
    · simp only [jc, Bool.not_eq_true', Bool.not_eq_false', decide_eq_true_eq, decide_eq_false_iff_not] at c1
      refine mj_T.pl rfl rfl rfl rfl ?_
      refine jT.lc 0 rfl rfl ?_
      refine mj_T.lif (a := ((0 : Nat) : Int)) (b := ((0 : Nat) : Int)) rfl rfl ⟨by omega, by omega⟩ jR_0 (fun c2 => ?_) (fun c2 => ?_)
      · simp only [jc, Bool.not_eq_true', Bool.not_eq_false', decide_eq_true_eq, decide_eq_false_iff_not] at c2
        refine mj_T.pl rfl rfl rfl rfl ?_
        refine mj_T.ret rfl rfl rfl ?_
        rw [Nat.gcd_zero_right] at hg
        rw [hg]
        exact hend
      · exfalso
        simp [jc] at c2
  | k + 1, a, b, i, w4, w5, hg, ha, hb, hba, hk, hi => by
    iterate 2 refine mj_T.pl rfl rfl rfl rfl ?_
    refine mj_T.icmp (a := ((i : Nat) : Int)) (b := 130) rfl ⟨by omega, by omega⟩ ⟨by omega, by omega⟩ (fun c1 => ?_) (fun c1 => ?_)
    · exfalso
      simp only [jc, Bool.not_eq_true', Bool.not_eq_false', decide_eq_true_eq, decide_eq_false_iff_not] at c1
      omega
    · simp only [jc, Bool.not_eq_true', Bool.not_eq_false', decide_eq_true_eq, decide_eq_false_iff_not] at c1
      refine mj_T.pl rfl rfl rfl rfl ?_
      refine jT.lc 0 rfl rfl ?_
      refine mj_T.lif (a := (b : Int)) (b := ((0 : Nat) : Int)) rfl rfl ⟨by omega, by omega⟩ jR_0 (fun c2 => ?_) (fun c2 => ?_)
      · simp only [jc, Bool.not_eq_true', Bool.not_eq_false', decide_eq_true_eq, decide_eq_false_iff_not] at c2
        refine mj_T.pl rfl rfl rfl rfl ?_
        refine mj_T.ret rfl rfl rfl ?_
        rw [show b = 0 by omega, Nat.gcd_zero_right] at hg
        rw [hg]
        exact hend
      · simp only [jc, Bool.not_eq_true', Bool.not_eq_false', decide_eq_true_eq, decide_eq_false_iff_not] at c2
        have hb0 : 0 < b := by omega
        have he := euc_step hb0 hba hk
        iterate 2 refine mj_T.pl rfl rfl rfl rfl ?_
        refine mj_T.lrem (a := (a : Int)) (b := (b : Int)) rfl ⟨by omega, by omega⟩ ⟨by omega, by omega⟩ (by omega) ?_
        rw [show (a : Int).tmod (b : Int) = ((a % b : Nat) : Int) from (Int.ofNat_tmod a b).symm]
        refine mj_T.pl (loc' := [some (.long (jl p)), none, some (.long (jl q)), none, some (.long (jl (a : Int))), none, some (.long (jl (b : Int))), none, some (.int (jn ((i : Nat) : Int))), some (.long (jl ((a % b : Nat) : Int))), none]) rfl rfl rfl rfl ?_
        refine mj_T.pl rfl rfl rfl rfl ?_
        refine mj_T.pl (loc' := [some (.long (jl p)), none, some (.long (jl q)), none, some (.long (jl (b : Int))), none, some (.long (jl (b : Int))), none, some (.int (jn ((i : Nat) : Int))), some (.long (jl ((a % b : Nat) : Int))), none]) rfl rfl rfl rfl ?_
        refine mj_T.pl rfl rfl rfl rfl ?_
        refine mj_T.pl (loc' := [some (.long (jl p)), none, some (.long (jl q)), none, some (.long (jl (b : Int))), none, some (.long (jl ((a % b : Nat) : Int))), none, some (.int (jn ((i : Nat) : Int))), some (.long (jl ((a % b : Nat) : Int))), none]) rfl rfl rfl rfl ?_
        refine mj_T.iinc rfl rfl ?_
        rw [show ((i : Nat) : Int) + 1 = ((i + 1 : Nat) : Int) by omega]
        refine mj_T.eq (loc2 := [some (.long (jl p)), none, some (.long (jl q)), none, some (.long (jl (b : Int))), none, some (.long (jl ((a % b : Nat) : Int))), none, some (.int (jn (((i + 1) : Nat) : Int))), some (.long (jl ((a % b : Nat) : Int))), none]) ?_ rfl rfl rfl rfl
        refine mj_T.pl rfl rfl rfl rfl ?_
        refine mS_cm_loop hend k b (a % b) (i + 1) _ _ (by rw [← hg, Nat.gcd_comm a b, Nat.gcd_rec b a]; exact Nat.gcd_comm _ _) (by omega) (by have := Nat.mod_lt a hb0; omega) he.1 he.2 (by omega)
end MST
/-! Common divisors, contents, degrees of rows, exactly. -/
theorem loc171 {p q a b a' b' : Int} (ha : a = a') (hb : b = b') : [some (Value.long (jl p)), none, some (.long (jl q)), none, some (.long (jl a)), none, some (.long (jl b)), none, some (.int (jn 0)), none, none] = [some (Value.long (jl p)), none, some (.long (jl q)), none, some (.long (jl a')), none, some (.long (jl b')), none, some (.int (jn 0)), none, none] := by
  subst ha
  subst hb
  rfl
theorem two126 {a b : Nat} (ha : a < 9223372036854775808) (hb : b < 9223372036854775808) : a * b < 2 ^ 126 := by
  have h1 : a * b ≤ 9223372036854775807 * 9223372036854775807 := Nat.mul_le_mul (by omega) (by omega)
  have h2 : 9223372036854775807 * 9223372036854775807 < 2 ^ 126 := by decide +kernel
  omega
/-- the greatest number that divides the first ones -/
def cgd (f : Nat → Int) : Nat → Nat
  | 0 => 0
  | k + 1 => Nat.gcd (cgd f k) (f k).natAbs
theorem cgd_dvd (f : Nat → Int) : ∀ k i, i < k → cgd f k ∣ (f i).natAbs
  | 0, i, h => absurd h (by omega)
  | k + 1, i, h => by
    show Nat.gcd (cgd f k) (f k).natAbs ∣ _
    by_cases c : i = k
    · rw [c]
      exact Nat.gcd_dvd_right _ _
    · exact Nat.dvd_trans (Nat.gcd_dvd_left _ _) (cgd_dvd f k i (by omega))
theorem cgd_max (f : Nat → Int) (d : Nat) : ∀ k, (∀ i, i < k → d ∣ (f i).natAbs) → d ∣ cgd f k
  | 0, _ => Nat.dvd_zero d
  | k + 1, h => Nat.dvd_gcd (cgd_max f d k (fun i hi => h i (by omega))) (h k (by omega))
theorem cgd_bd {f : Nat → Int} {M : Nat} : ∀ k, (∀ i, i < k → (f i).natAbs ≤ M) → cgd f k ≤ M
  | 0, _ => Nat.zero_le _
  | k + 1, h => by
    show Nat.gcd (cgd f k) (f k).natAbs ≤ M
    by_cases c : (f k).natAbs = 0
    · rw [c, Nat.gcd_zero_right]
      exact cgd_bd k (fun i hi => h i (by omega))
    · exact Nat.le_trans (Nat.le_of_dvd (by omega) (Nat.gcd_dvd_right _ _)) (h k (by omega))
theorem cgd_0 {f : Nat → Int} {k : Nat} (h : cgd f k = 0) : ∀ i, i < k → f i = 0 := fun i hi => by
  have h1 := cgd_dvd f k i hi
  rw [h] at h1
  have := Nat.eq_zero_of_zero_dvd h1
  omega
/-- with the sign of the leading coefficient -/
def sgc (f : Nat → Int) : Int := if 0 < fdg f 13 ∧ f (fdg f 13 - 1) < 0 then -(cgd f 13 : Int) else (cgd f 13 : Int)
theorem fdg_flat {f : Nat → Int} {a b : Nat} (h : a ≤ b) (hz : ∀ i, a ≤ i → i < b → f i = 0) : fdg f b = fdg f a := by
  induction b with
  | zero => rw [show a = 0 by omega]
  | succ b ih =>
    by_cases c : a = b + 1
    · rw [c]
    · rw [fdg_succ, if_pos (hz b (by omega) (by omega))]
      exact ih (by omega) (fun i h1 h2 => hz i h1 (by omega))
section MSU
variable {g h : mj_H} {n D r : Nat} {V : Nat → Int} {X : Nat → Nat → Int}
theorem mS_common {p q : Int} (hp : p.natAbs < 9223372036854775808) (hq : q.natAbs < 9223372036854775808) : mj_Ok (D + 1) 171 [.long (jl p), .long (jl q)] h (fun z => z = (.inl (some (.long (jl (Nat.gcd p.natAbs q.natAbs : Nat)))), h)) := by
  refine mj_Ok.of (M := mj_m171) rfl rfl rfl ?_
  have fin : mj_T D mj_m171 31 [some (.long (jl p)), none, some (.long (jl q)), none, some (.long (jl ((p.natAbs : Nat) : Int))), none, some (.long (jl ((q.natAbs : Nat) : Int))), none, some (.int (jn 0)), none, none] [] h (fun z => z = (.inl (some (.long (jl (Nat.gcd p.natAbs q.natAbs : Nat)))), h)) := by
    rcases Nat.lt_or_ge p.natAbs q.natAbs with hlt | hge
    · show mj_T D mj_m171 31 [some (.long (jl p)), none, some (.long (jl q)), none, some (.long (jl ((p.natAbs : Nat) : Int))), none, some (.long (jl ((q.natAbs : Nat) : Int))), none, some (.int (jn ((0 : Nat) : Int))), none, none] [] h _
      iterate 2 refine mj_T.pl rfl rfl rfl rfl ?_
      refine mj_T.icmp (a := ((0 : Nat) : Int)) (b := 130) rfl ⟨by omega, by omega⟩ ⟨by omega, by omega⟩ (fun c41 => ?_) (fun c41 => ?_)
      · exfalso
        simp [jc] at c41
      · simp only [jc, Bool.not_eq_true', Bool.not_eq_false', decide_eq_true_eq, decide_eq_false_iff_not] at c41
        refine mj_T.pl rfl rfl rfl rfl ?_
        refine jT.lc 0 rfl rfl ?_
        refine mj_T.lif (a := ((q.natAbs : Nat) : Int)) (b := ((0 : Nat) : Int)) rfl rfl ⟨by omega, by omega⟩ jR_0 (fun c42 => ?_) (fun c42 => ?_)
        · exfalso
          simp only [jc, Bool.not_eq_true', Bool.not_eq_false', decide_eq_true_eq, decide_eq_false_iff_not] at c42
          omega
        · simp only [jc, Bool.not_eq_true', Bool.not_eq_false', decide_eq_true_eq, decide_eq_false_iff_not] at c42
          iterate 2 refine mj_T.pl rfl rfl rfl rfl ?_
          refine mj_T.lrem (a := ((p.natAbs : Nat) : Int)) (b := ((q.natAbs : Nat) : Int)) rfl ⟨by omega, by omega⟩ ⟨by omega, by omega⟩ (by omega) ?_
          rw [show (((p.natAbs : Nat) : Int)).tmod ((q.natAbs : Nat) : Int) = ((p.natAbs : Nat) : Int) from Int.tmod_eq_of_lt (by omega) (by omega)]
          refine mj_T.pl (loc' := [some (.long (jl p)), none, some (.long (jl q)), none, some (.long (jl ((p.natAbs : Nat) : Int))), none, some (.long (jl ((q.natAbs : Nat) : Int))), none, some (.int (jn ((0 : Nat) : Int))), some (.long (jl ((p.natAbs : Nat) : Int))), none]) rfl rfl rfl rfl ?_
          refine mj_T.pl rfl rfl rfl rfl ?_
          refine mj_T.pl (loc' := [some (.long (jl p)), none, some (.long (jl q)), none, some (.long (jl ((q.natAbs : Nat) : Int))), none, some (.long (jl ((q.natAbs : Nat) : Int))), none, some (.int (jn ((0 : Nat) : Int))), some (.long (jl ((p.natAbs : Nat) : Int))), none]) rfl rfl rfl rfl ?_
          refine mj_T.pl rfl rfl rfl rfl ?_
          refine mj_T.pl (loc' := [some (.long (jl p)), none, some (.long (jl q)), none, some (.long (jl ((q.natAbs : Nat) : Int))), none, some (.long (jl ((p.natAbs : Nat) : Int))), none, some (.int (jn ((0 : Nat) : Int))), some (.long (jl ((p.natAbs : Nat) : Int))), none]) rfl rfl rfl rfl ?_
          refine mj_T.iinc rfl rfl ?_
          rw [show ((0 : Nat) : Int) + 1 = ((0 + 1 : Nat) : Int) by omega]
          refine mj_T.eq (loc2 := [some (.long (jl p)), none, some (.long (jl q)), none, some (.long (jl ((q.natAbs : Nat) : Int))), none, some (.long (jl ((p.natAbs : Nat) : Int))), none, some (.int (jn (((0 + 1) : Nat) : Int))), some (.long (jl ((p.natAbs : Nat) : Int))), none]) ?_ rfl rfl rfl rfl
          refine mj_T.pl rfl rfl rfl rfl ?_
          exact mS_cm_loop (Q := fun z => z = (.inl (some (.long (jl (Nat.gcd p.natAbs q.natAbs : Nat)))), h)) (gg := Nat.gcd p.natAbs q.natAbs) rfl 126 q.natAbs p.natAbs 1 _ _ (Nat.gcd_comm _ _) (by omega) (by omega) (by omega) (two126 (by omega) (by omega)) (by omega)
    · exact mS_cm_loop (Q := fun z => z = (.inl (some (.long (jl (Nat.gcd p.natAbs q.natAbs : Nat)))), h)) (gg := Nat.gcd p.natAbs q.natAbs) rfl 126 p.natAbs q.natAbs 0 _ _ rfl (by omega) (by omega) hge (two126 (by omega) (by omega)) (by omega)
  refine mj_T.pl rfl rfl rfl rfl ?_
  refine jT.lc 0 rfl rfl ?_
  refine mj_T.lif (a := p) (b := ((0 : Nat) : Int)) rfl rfl ⟨by omega, by omega⟩ jR_0 (fun c1 => ?_) (fun c1 => ?_)
  · simp only [jc, Bool.not_eq_true', Bool.not_eq_false', decide_eq_true_eq, decide_eq_false_iff_not] at c1
    refine mj_T.pl rfl rfl rfl rfl ?_
    refine mj_T.pl (loc' := [some (.long (jl p)), none, some (.long (jl q)), none, some (.long (jl p)), none, none, none, none, none, none]) rfl rfl rfl rfl ?_
    refine mj_T.pl rfl rfl rfl rfl ?_
    refine jT.lc 0 rfl rfl ?_
    refine mj_T.lif (a := q) (b := ((0 : Nat) : Int)) rfl rfl ⟨by omega, by omega⟩ jR_0 (fun c2 => ?_) (fun c2 => ?_)
    · simp only [jc, Bool.not_eq_true', Bool.not_eq_false', decide_eq_true_eq, decide_eq_false_iff_not] at c2
      refine mj_T.pl rfl rfl rfl rfl ?_
      refine mj_T.pl (loc' := [some (.long (jl p)), none, some (.long (jl q)), none, some (.long (jl p)), none, some (.long (jl q)), none, none, none, none]) rfl rfl rfl rfl ?_
      refine mj_T.pl rfl rfl rfl rfl ?_
      refine mj_T.pl (loc' := [some (.long (jl p)), none, some (.long (jl q)), none, some (.long (jl p)), none, some (.long (jl q)), none, some (.int (jn 0)), none, none]) rfl rfl rfl rfl ?_
      exact mj_T.eq fin rfl (loc171 (by omega) (by omega)) rfl rfl
    · simp only [jc, Bool.not_eq_true', Bool.not_eq_false', decide_eq_true_eq, decide_eq_false_iff_not] at c2
      refine mj_T.pl rfl rfl rfl rfl ?_
      refine mj_T.lneg rfl ?_
      refine mj_T.pl rfl rfl rfl rfl ?_
      refine mj_T.pl (loc' := [some (.long (jl p)), none, some (.long (jl q)), none, some (.long (jl p)), none, some (.long (jl (-q))), none, none, none, none]) rfl rfl rfl rfl ?_
      refine mj_T.pl rfl rfl rfl rfl ?_
      refine mj_T.pl (loc' := [some (.long (jl p)), none, some (.long (jl q)), none, some (.long (jl p)), none, some (.long (jl (-q))), none, some (.int (jn 0)), none, none]) rfl rfl rfl rfl ?_
      exact mj_T.eq fin rfl (loc171 (by omega) (by omega)) rfl rfl
  · simp only [jc, Bool.not_eq_true', Bool.not_eq_false', decide_eq_true_eq, decide_eq_false_iff_not] at c1
    refine mj_T.pl rfl rfl rfl rfl ?_
    refine mj_T.lneg rfl ?_
    refine mj_T.pl rfl rfl rfl rfl ?_
    refine mj_T.pl (loc' := [some (.long (jl p)), none, some (.long (jl q)), none, some (.long (jl (-p))), none, none, none, none, none, none]) rfl rfl rfl rfl ?_
    refine mj_T.pl rfl rfl rfl rfl ?_
    refine jT.lc 0 rfl rfl ?_
    refine mj_T.lif (a := q) (b := ((0 : Nat) : Int)) rfl rfl ⟨by omega, by omega⟩ jR_0 (fun c3 => ?_) (fun c3 => ?_)
    · simp only [jc, Bool.not_eq_true', Bool.not_eq_false', decide_eq_true_eq, decide_eq_false_iff_not] at c3
      refine mj_T.pl rfl rfl rfl rfl ?_
      refine mj_T.pl (loc' := [some (.long (jl p)), none, some (.long (jl q)), none, some (.long (jl (-p))), none, some (.long (jl q)), none, none, none, none]) rfl rfl rfl rfl ?_
      refine mj_T.pl rfl rfl rfl rfl ?_
      refine mj_T.pl (loc' := [some (.long (jl p)), none, some (.long (jl q)), none, some (.long (jl (-p))), none, some (.long (jl q)), none, some (.int (jn 0)), none, none]) rfl rfl rfl rfl ?_
      exact mj_T.eq fin rfl (loc171 (by omega) (by omega)) rfl rfl
    · simp only [jc, Bool.not_eq_true', Bool.not_eq_false', decide_eq_true_eq, decide_eq_false_iff_not] at c3
      refine mj_T.pl rfl rfl rfl rfl ?_
      refine mj_T.lneg rfl ?_
      refine mj_T.pl rfl rfl rfl rfl ?_
      refine mj_T.pl (loc' := [some (.long (jl p)), none, some (.long (jl q)), none, some (.long (jl (-p))), none, some (.long (jl (-q))), none, none, none, none]) rfl rfl rfl rfl ?_
      refine mj_T.pl rfl rfl rfl rfl ?_
      refine mj_T.pl (loc' := [some (.long (jl p)), none, some (.long (jl q)), none, some (.long (jl (-p))), none, some (.long (jl (-q))), none, some (.int (jn 0)), none, none]) rfl rfl rfl rfl ?_
      exact mj_T.eq fin rfl (loc171 (by omega) (by omega)) rfl rfl
theorem mS_cont_loop (m : jM g n V X h) (kr : cK r = 2) (hr : sml (X r)) {Q : mj_R → Prop} (hend : Q (.inl (some (.long (jl (cgd (X r) 13 : Nat)))), h)) : ∀ k i, i + k = 13 → mj_T (D + 1) mj_m169 4 [some (.ref r), some (.long (jl ((cgd (X r) i : Nat) : Int))), none, some (.int (jn (i : Int)))] [] h Q
  | 0, i, hi => by
    iterate 2 refine mj_T.pl rfl rfl rfl rfl ?_
    refine mT_llen m kr rfl ?_
    refine mj_T.icmp (a := ((i : Nat) : Int)) (b := ((13 : Nat) : Int)) rfl ⟨by omega, by omega⟩ ⟨by omega, by omega⟩ (fun c1 => ?_) (fun c1 => ?_)
    · simp only [jc, Bool.not_eq_true', Bool.not_eq_false', decide_eq_true_eq, decide_eq_false_iff_not] at c1
      refine mj_T.pl rfl rfl rfl rfl ?_
      refine mj_T.ret rfl rfl rfl ?_
      rw [show i = 13 by omega]
      exact hend
    · exfalso
      simp only [jc, Bool.not_eq_true', Bool.not_eq_false', decide_eq_true_eq, decide_eq_false_iff_not] at c1
      omega
  | k + 1, i, hi => by
    have hx := hr i (by omega)
    have hc := cgd_bd (f := X r) (M := 999999999999999999) i (fun j hj => hr j (by omega))
    iterate 2 refine mj_T.pl rfl rfl rfl rfl ?_
    refine mT_llen m kr rfl ?_
    refine mj_T.icmp (a := ((i : Nat) : Int)) (b := ((13 : Nat) : Int)) rfl ⟨by omega, by omega⟩ ⟨by omega, by omega⟩ (fun c1 => ?_) (fun c1 => ?_)
    · exfalso
      simp only [jc, Bool.not_eq_true', Bool.not_eq_false', decide_eq_true_eq, decide_eq_false_iff_not] at c1
      omega
    · simp only [jc, Bool.not_eq_true', Bool.not_eq_false', decide_eq_true_eq, decide_eq_false_iff_not] at c1
      iterate 3 refine mj_T.pl rfl rfl rfl rfl ?_
      refine mT_lald m kr rfl ⟨by omega, by omega⟩ ?_
      refine mj_T.eq (st2 := [.long (jl (X r i)), .long (jl ((cgd (X r) i : Nat) : Int))]) ?_ rfl rfl rfl rfl
      refine mj_T.call rfl rfl (Nat.le_of_ble_eq_true rfl) (Nat.le_of_ble_eq_true rfl) rfl rfl (mj_Ok.up (by omega) (mS_common (D := 0) (p := ((cgd (X r) i : Nat) : Int)) (q := (X r i)) (by omega) (by omega))) (fun v g2 hq => ?_) (fun i g2 hq => ?_)
      rotate_left
      · cases hq
      cases hq
      refine mj_T.eq (pc2 := 17) (st2 := [.long (jl ((Nat.gcd (((cgd (X r) i : Nat) : Int)).natAbs ((X r i)).natAbs : Nat) : Int))]) ?_ rfl rfl rfl rfl
      refine mj_T.pl (loc' := [some (.ref r), some (.long (jl ((Nat.gcd (((cgd (X r) i : Nat) : Int)).natAbs ((X r i)).natAbs : Nat) : Int))), none, some (.int (jn ((i : Nat) : Int)))]) rfl rfl rfl rfl ?_
      refine mj_T.iinc rfl rfl ?_
      rw [show ((i : Nat) : Int) + 1 = ((i + 1 : Nat) : Int) by omega]
      refine mj_T.eq (loc2 := [some (.ref r), some (.long (jl ((Nat.gcd (((cgd (X r) i : Nat) : Int)).natAbs ((X r i)).natAbs : Nat) : Int))), none, some (.int (jn (((i + 1) : Nat) : Int)))]) ?_ rfl rfl rfl rfl
      refine mj_T.pl rfl rfl rfl rfl ?_
      exact mS_cont_loop m kr hr hend k (i + 1) (by omega)
theorem mS_cont (m : jM g n V X h) (kr : cK r = 2) (hr : sml (X r)) : mj_Ok (D + 2) 169 [.ref r] h (fun z => z = (.inl (some (.long (jl (cgd (X r) 13 : Nat)))), h)) := by
  refine mj_Ok.of (M := mj_m169) rfl rfl rfl ?_
  refine jT.lc 0 rfl rfl ?_
  refine mj_T.pl (loc' := [some (.ref r), some (.long (jl ((0 : Nat) : Int))), none, none]) rfl rfl rfl rfl ?_
  refine mj_T.pl rfl rfl rfl rfl ?_
  refine mj_T.pl (loc' := [some (.ref r), some (.long (jl ((0 : Nat) : Int))), none, some (.int (jn 0))]) rfl rfl rfl rfl ?_
  exact mS_cont_loop (Q := fun z => z = (.inl (some (.long (jl (cgd (X r) 13 : Nat)))), h)) m kr hr rfl 13 0 (by omega)
theorem mS_deg_loop (m : jM g n V X h) (kr : cK r = 2) (hr : sml (X r)) {Q : mj_R → Prop} (hend : Q (.inl (some (.int (jn ((fdg (X r) 13 : Int) - 1)))), h)) : ∀ k : Nat, k ≤ 13 → fdg (X r) 13 = fdg (X r) k → mj_T D mj_m162 5 [some (.ref r), some (.int (jn ((k : Int) - 1)))] [] h Q
  | 0, hl, hk => by
    refine mj_T.pl rfl rfl rfl rfl ?_
    refine mj_T.if0 (a := (((0 : Nat) : Int) - 1)) rfl ⟨by omega, by omega⟩ (fun c1 => ?_) (fun c1 => ?_)
    · simp only [jc, Bool.not_eq_true', Bool.not_eq_false', decide_eq_true_eq, decide_eq_false_iff_not] at c1
      refine mj_T.pl rfl rfl rfl rfl ?_
      refine mj_T.ret rfl rfl rfl ?_
      rw [hk] at hend
      exact hend
    · exfalso
      simp only [jc, Bool.not_eq_true', Bool.not_eq_false', decide_eq_true_eq, decide_eq_false_iff_not] at c1
      omega
  | k + 1, hl, hk => by
    have hx := hr k (by omega)
    rw [show ((k + 1 : Nat) : Int) - 1 = (k : Int) by omega]
    refine mj_T.pl rfl rfl rfl rfl ?_
    refine mj_T.if0 (a := ((k : Nat) : Int)) rfl ⟨by omega, by omega⟩ (fun c1 => ?_) (fun c1 => ?_)
    · exfalso
      simp only [jc, Bool.not_eq_true', Bool.not_eq_false', decide_eq_true_eq, decide_eq_false_iff_not] at c1
      omega
    · simp only [jc, Bool.not_eq_true', Bool.not_eq_false', decide_eq_true_eq, decide_eq_false_iff_not] at c1
      iterate 2 refine mj_T.pl rfl rfl rfl rfl ?_
      refine mT_lald m kr rfl ⟨by omega, by omega⟩ ?_
      refine mj_T.eq (st2 := [.long (jl (X r k))]) ?_ rfl rfl rfl rfl
      refine jT.lc 0 rfl rfl ?_
      refine mj_T.lif (a := (X r k)) (b := ((0 : Nat) : Int)) rfl rfl ⟨by omega, by omega⟩ jR_0 (fun c2 => ?_) (fun c2 => ?_)
      · simp only [jc, Bool.not_eq_true', Bool.not_eq_false', decide_eq_true_eq, decide_eq_false_iff_not] at c2
        refine mj_T.iinc rfl rfl ?_
        refine mj_T.eq (loc2 := [some (.ref r), some (.int (jn (((k : Nat) : Int) + (-1))))]) ?_ rfl rfl rfl rfl
        refine mj_T.pl rfl rfl rfl rfl ?_
        rw [show (((k : Nat) : Int) + (-1)) = (k : Int) - 1 by omega]
        exact mS_deg_loop m kr hr hend k (by omega) (by rw [hk, fdg_succ, if_pos (by omega)])
      · simp only [jc, Bool.not_eq_true', Bool.not_eq_false', decide_eq_true_eq, decide_eq_false_iff_not] at c2
        refine mj_T.pl rfl rfl rfl rfl ?_
        refine mj_T.ret rfl rfl rfl ?_
        rw [hk, fdg_succ, if_neg (by omega), show ((k + 1 : Nat) : Int) - 1 = (k : Int) by omega] at hend
        exact hend
theorem mS_deg (m : jM g n V X h) (kr : cK r = 2) (hr : sml (X r)) : mj_Ok (D + 1) 162 [.ref r] h (fun z => z = (.inl (some (.int (jn ((fdg (X r) 13 : Int) - 1)))), h)) := by
  refine mj_Ok.of (M := mj_m162) rfl rfl rfl ?_
  refine mj_T.pl rfl rfl rfl rfl ?_
  refine mT_llen m kr rfl ?_
  refine mj_T.pl rfl rfl rfl rfl ?_
  refine mj_T.isub (a := ((13 : Nat) : Int)) (b := 1) rfl ?_
  refine mj_T.pl (loc' := [some (.ref r), some (.int (jn (((13 : Nat) : Int) - 1)))]) rfl rfl rfl rfl ?_
  exact mS_deg_loop (Q := fun z => z = (.inl (some (.int (jn ((fdg (X r) 13 : Int) - 1)))), h)) m kr hr rfl 13 (Nat.le_refl 13) rfl
theorem mS_scont (m : jM g n V X h) (kr : cK r = 2) (hr : sml (X r)) : mj_Ok (D + 3) 170 [.ref r] h (fun z => z = (.inl (some (.long (jl (sgc (X r))))), h)) := by
  have hd := fdg_le (X r) 13
  refine mj_Ok.of (M := mj_m170) rfl rfl rfl ?_
  refine mj_T.pl rfl rfl rfl rfl ?_
  refine mj_T.call rfl rfl (Nat.le_of_ble_eq_true rfl) (Nat.le_of_ble_eq_true rfl) rfl rfl (mj_Ok.up (by omega) (mS_deg (D := 0) m kr hr)) (fun v g1 hq => ?_) (fun i g1 hq => ?_)
  rotate_left
  · cases hq
  cases hq
  refine mj_T.eq (pc2 := 4) (st2 := [.int (jn ((fdg (X r) 13 : Int) - 1))]) ?_ rfl rfl rfl rfl
  refine mj_T.pl (loc' := [some (.ref r), some (.int (jn ((fdg (X r) 13 : Int) - 1))), none, none]) rfl rfl rfl rfl ?_
  refine mj_T.pl rfl rfl rfl rfl ?_
  refine mj_T.call rfl rfl (Nat.le_of_ble_eq_true rfl) (Nat.le_of_ble_eq_true rfl) rfl rfl (mj_Ok.up (by omega) (mS_cont (D := 0) m kr hr)) (fun v g2 hq => ?_) (fun i g2 hq => ?_)
  rotate_left
  · cases hq
  cases hq
  refine mj_T.eq (pc2 := 9) (st2 := [.long (jl ((cgd (X r) 13 : Nat) : Int))]) ?_ rfl rfl rfl rfl
  refine mj_T.pl (loc' := [some (.ref r), some (.int (jn ((fdg (X r) 13 : Int) - 1))), some (.long (jl ((cgd (X r) 13 : Nat) : Int))), none]) rfl rfl rfl rfl ?_
  refine mj_T.pl rfl rfl rfl rfl ?_
  refine mj_T.if0 (a := ((fdg (X r) 13 : Int) - 1)) rfl ⟨by omega, by omega⟩ (fun c3 => ?_) (fun c3 => ?_)
  · simp only [jc, Bool.not_eq_true', Bool.not_eq_false', decide_eq_true_eq, decide_eq_false_iff_not] at c3
    refine mj_T.pl rfl rfl rfl rfl ?_
    refine mj_T.ret rfl rfl rfl ?_
    show _ = _
    unfold sgc
    rw [if_neg (by first | omega | (rw [ed] at c4; omega))]
  · simp only [jc, Bool.not_eq_true', Bool.not_eq_false', decide_eq_true_eq, decide_eq_false_iff_not] at c3
    have ed : ((fdg (X r) 13 : Int) - 1).toNat = fdg (X r) 13 - 1 := by omega
    have hx := hr (fdg (X r) 13 - 1) (by omega)
    rw [← ed] at hx
    iterate 2 refine mj_T.pl rfl rfl rfl rfl ?_
    refine mT_lald m kr rfl ⟨by omega, by omega⟩ ?_
    refine jT.lc 0 rfl rfl ?_
    refine mj_T.lif (a := (X r ((((fdg (X r) 13 : Int) - 1) : Int).toNat))) (b := ((0 : Nat) : Int)) rfl rfl ⟨by omega, by omega⟩ jR_0 (fun c4 => ?_) (fun c4 => ?_)
    · simp only [jc, Bool.not_eq_true', Bool.not_eq_false', decide_eq_true_eq, decide_eq_false_iff_not] at c4
      refine mj_T.pl rfl rfl rfl rfl ?_
      refine mj_T.ret rfl rfl rfl ?_
      show _ = _
      unfold sgc
      rw [if_neg (by first | omega | (rw [ed] at c4; omega))]
    · simp only [jc, Bool.not_eq_true', Bool.not_eq_false', decide_eq_true_eq, decide_eq_false_iff_not] at c4
      refine mj_T.pl rfl rfl rfl rfl ?_
      refine mj_T.lneg rfl ?_
      refine mj_T.pl rfl rfl rfl rfl ?_
      refine mj_T.ret rfl rfl rfl ?_
      show _ = _
      unfold sgc
      rw [if_pos ⟨by omega, by rw [ed] at c4; omega⟩]
end MSU
/-! Rows are cleared, copied, compared, added, derived, exactly. -/
theorem xfl_read (X : Nat → Nat → Int) (r : Nat) (w : Nat → Int) (i a : Nat) : xfl X r w i a i = X a i := if_neg (by omega)
theorem xfl_full {X : Nat → Nat → Int} {r i : Nat} {w : Nat → Int} {v : Int} (h : v = w i) : xfl X r w (i + 1) = xup (xfl X r w i) r i v := by
  rw [h]
  exact xfl_succ X r w i
section MSV
variable {g h : mj_H} {n D r a b : Nat} {V : Nat → Int} {X : Nat → Nat → Int}
theorem mS_clear_loop (kr : cK r = 2) {Q : mj_R → Prop} (hend : ∀ h, jM g n V (xfl X r (fun _ => 0) 13) h → Q (.inl none, h)) : ∀ k i, i + k = 13 → ∀ h, jM g n V (xfl X r (fun _ => 0) i) h → mj_T D mj_m165 2 [some (.ref r), some (.int (jn (i : Int)))] [] h Q
  | 0, i, hi, h, m => by
    iterate 2 refine mj_T.pl rfl rfl rfl rfl ?_
    refine mT_llen m kr rfl ?_
    refine mj_T.icmp (a := ((i : Nat) : Int)) (b := ((13 : Nat) : Int)) rfl ⟨by omega, by omega⟩ ⟨by omega, by omega⟩ (fun c1 => ?_) (fun c1 => ?_)
    · simp only [jc, Bool.not_eq_true', Bool.not_eq_false', decide_eq_true_eq, decide_eq_false_iff_not] at c1
      exact mj_T.ret rfl rfl rfl (hend _ (m.to rfl (by rw [show i = 13 by omega])))
    · exfalso
      simp only [jc, Bool.not_eq_true', Bool.not_eq_false', decide_eq_true_eq, decide_eq_false_iff_not] at c1
      omega
  | k + 1, i, hi, h, m => by
    iterate 2 refine mj_T.pl rfl rfl rfl rfl ?_
    refine mT_llen m kr rfl ?_
    refine mj_T.icmp (a := ((i : Nat) : Int)) (b := ((13 : Nat) : Int)) rfl ⟨by omega, by omega⟩ ⟨by omega, by omega⟩ (fun c1 => ?_) (fun c1 => ?_)
    · exfalso
      simp only [jc, Bool.not_eq_true', Bool.not_eq_false', decide_eq_true_eq, decide_eq_false_iff_not] at c1
      omega
    · simp only [jc, Bool.not_eq_true', Bool.not_eq_false', decide_eq_true_eq, decide_eq_false_iff_not] at c1
      iterate 2 refine mj_T.pl rfl rfl rfl rfl ?_
      refine jT.lc 0 rfl rfl ?_
      refine mT_last (v := ((0 : Nat) : Int)) m kr rfl ⟨by omega, by omega⟩ (fun h2 m3 => ?_)
      refine mj_T.iinc rfl rfl ?_
      rw [show ((i : Nat) : Int) + 1 = ((i + 1 : Nat) : Int) by omega]
      refine mj_T.eq (loc2 := [some (.ref r), some (.int (jn (((i + 1) : Nat) : Int)))]) ?_ rfl rfl rfl rfl
      refine mj_T.pl rfl rfl rfl rfl ?_
      exact mS_clear_loop kr hend k (i + 1) (by omega) _ (m3.to rfl (xfl_full rfl))
theorem mS_clear (m : jM g n V X h) (kr : cK r = 2) : mj_Ok (D + 1) 165 [.ref r] h (fun z => ∃ h2, jM g n V (xfl X r (fun _ => 0) 13) h2 ∧ z = (.inl none, h2)) := by
  refine mj_Ok.of (M := mj_m165) rfl rfl rfl ?_
  refine mj_T.pl rfl rfl rfl rfl ?_
  refine mj_T.pl (loc' := [some (.ref r), some (.int (jn 0))]) rfl rfl rfl rfl ?_
  exact mS_clear_loop kr (fun h1 m1 => ⟨h1, m1, rfl⟩) 13 0 (by omega) _ (m.to rfl (xfl_zero _ _ _))
theorem mS_copy_loop (ka : cK a = 2) (kb : cK b = 2) {Q : mj_R → Prop} (hend : ∀ h, jM g n V (xfl X b (X a) 13) h → Q (.inl none, h)) : ∀ k i, i + k = 13 → ∀ h, jM g n V (xfl X b (X a) i) h → mj_T D mj_m164 2 [some (.ref a), some (.ref b), some (.int (jn (i : Int)))] [] h Q
  | 0, i, hi, h, m => by
    iterate 2 refine mj_T.pl rfl rfl rfl rfl ?_
    refine mT_llen m kb rfl ?_
    refine mj_T.icmp (a := ((i : Nat) : Int)) (b := ((13 : Nat) : Int)) rfl ⟨by omega, by omega⟩ ⟨by omega, by omega⟩ (fun c1 => ?_) (fun c1 => ?_)
    · simp only [jc, Bool.not_eq_true', Bool.not_eq_false', decide_eq_true_eq, decide_eq_false_iff_not] at c1
      exact mj_T.ret rfl rfl rfl (hend _ (m.to rfl (by rw [show i = 13 by omega])))
    · exfalso
      simp only [jc, Bool.not_eq_true', Bool.not_eq_false', decide_eq_true_eq, decide_eq_false_iff_not] at c1
      omega
  | k + 1, i, hi, h, m => by
    iterate 2 refine mj_T.pl rfl rfl rfl rfl ?_
    refine mT_llen m kb rfl ?_
    refine mj_T.icmp (a := ((i : Nat) : Int)) (b := ((13 : Nat) : Int)) rfl ⟨by omega, by omega⟩ ⟨by omega, by omega⟩ (fun c1 => ?_) (fun c1 => ?_)
    · exfalso
      simp only [jc, Bool.not_eq_true', Bool.not_eq_false', decide_eq_true_eq, decide_eq_false_iff_not] at c1
      omega
    · simp only [jc, Bool.not_eq_true', Bool.not_eq_false', decide_eq_true_eq, decide_eq_false_iff_not] at c1
      iterate 4 refine mj_T.pl rfl rfl rfl rfl ?_
      refine mT_llen m ka rfl ?_
      refine mj_T.icmp (a := ((i : Nat) : Int)) (b := ((13 : Nat) : Int)) rfl ⟨by omega, by omega⟩ ⟨by omega, by omega⟩ (fun c2 => ?_) (fun c2 => ?_)
      · exfalso
        simp only [jc, Bool.not_eq_true', Bool.not_eq_false', decide_eq_true_eq, decide_eq_false_iff_not] at c2
        omega
      · simp only [jc, Bool.not_eq_true', Bool.not_eq_false', decide_eq_true_eq, decide_eq_false_iff_not] at c2
        iterate 2 refine mj_T.pl rfl rfl rfl rfl ?_
        refine mT_lald m ka rfl ⟨by omega, by omega⟩ ?_
        refine mj_T.eq (st2 := [.long (jl ((xfl X b (X a) i) a i)), .int (jn ((i : Nat) : Int)), .ref b]) ?_ rfl rfl rfl rfl
        refine mj_T.pl rfl rfl rfl rfl ?_
        refine mT_last (v := ((xfl X b (X a) i) a i)) m kb rfl ⟨by omega, by omega⟩ (fun h3 m4 => ?_)
        refine mj_T.iinc rfl rfl ?_
        rw [show ((i : Nat) : Int) + 1 = ((i + 1 : Nat) : Int) by omega]
        refine mj_T.eq (loc2 := [some (.ref a), some (.ref b), some (.int (jn (((i + 1) : Nat) : Int)))]) ?_ rfl rfl rfl rfl
        refine mj_T.pl rfl rfl rfl rfl ?_
        exact mS_copy_loop ka kb hend k (i + 1) (by omega) _ (m4.to rfl (xfl_full (xfl_read _ _ _ _ _)))
theorem mS_copy (m : jM g n V X h) (ka : cK a = 2) (kb : cK b = 2) : mj_Ok (D + 1) 164 [.ref a, .ref b] h (fun z => ∃ h2, jM g n V (xfl X b (X a) 13) h2 ∧ z = (.inl none, h2)) := by
  refine mj_Ok.of (M := mj_m164) rfl rfl rfl ?_
  refine mj_T.pl rfl rfl rfl rfl ?_
  refine mj_T.pl (loc' := [some (.ref a), some (.ref b), some (.int (jn 0))]) rfl rfl rfl rfl ?_
  exact mS_copy_loop ka kb (fun h1 m1 => ⟨h1, m1, rfl⟩) 13 0 (by omega) _ (m.to rfl (xfl_zero _ _ _))
theorem mS_same_loop (m : jM g n V X h) (ka : cK a = 2) (kb : cK b = 2) (ha : sml (X a)) (hb : sml (X b)) {Q : mj_R → Prop} (hyes : (∀ j, j < 13 → X a j = X b j) → Q (.inl (some (.int (jn 1))), h)) (hno : ¬ (∀ j, j < 13 → X a j = X b j) → Q (.inl (some (.int (jn 0))), h)) : ∀ k i, i + k = 13 → (∀ j, j < i → X a j = X b j) → mj_T D mj_m166 2 [some (.ref a), some (.ref b), some (.int (jn (i : Int)))] [] h Q
  | 0, i, hi, hp => by
    iterate 2 refine mj_T.pl rfl rfl rfl rfl ?_
    refine mT_llen m ka rfl ?_
    refine mj_T.icmp (a := ((i : Nat) : Int)) (b := ((13 : Nat) : Int)) rfl ⟨by omega, by omega⟩ ⟨by omega, by omega⟩ (fun c1 => ?_) (fun c1 => ?_)
    · simp only [jc, Bool.not_eq_true', Bool.not_eq_false', decide_eq_true_eq, decide_eq_false_iff_not] at c1
      refine mj_T.pl rfl rfl rfl rfl ?_
      refine mT_llen m ka rfl ?_
      refine mj_T.pl rfl rfl rfl rfl ?_
      refine mT_llen m kb rfl ?_
      refine mj_T.icmp (a := ((13 : Nat) : Int)) (b := ((13 : Nat) : Int)) rfl ⟨by omega, by omega⟩ ⟨by omega, by omega⟩ (fun c2 => ?_) (fun c2 => ?_)
      · exfalso
        simp [jc] at c2
      · simp only [jc, Bool.not_eq_true', Bool.not_eq_false', decide_eq_true_eq, decide_eq_false_iff_not] at c2
        iterate 2 refine mj_T.pl rfl rfl rfl rfl ?_
        exact mj_T.ret rfl rfl rfl (hyes (fun j hj => hp j (by omega)))
    · exfalso
      simp only [jc, Bool.not_eq_true', Bool.not_eq_false', decide_eq_true_eq, decide_eq_false_iff_not] at c1
      omega
  | k + 1, i, hi, hp => by
    have h1 := ha i (by omega)
    have h2 := hb i (by omega)
    iterate 2 refine mj_T.pl rfl rfl rfl rfl ?_
    refine mT_llen m ka rfl ?_
    refine mj_T.icmp (a := ((i : Nat) : Int)) (b := ((13 : Nat) : Int)) rfl ⟨by omega, by omega⟩ ⟨by omega, by omega⟩ (fun c1 => ?_) (fun c1 => ?_)
    · exfalso
      simp only [jc, Bool.not_eq_true', Bool.not_eq_false', decide_eq_true_eq, decide_eq_false_iff_not] at c1
      omega
    · simp only [jc, Bool.not_eq_true', Bool.not_eq_false', decide_eq_true_eq, decide_eq_false_iff_not] at c1
      iterate 2 refine mj_T.pl rfl rfl rfl rfl ?_
      refine mT_llen m kb rfl ?_
      refine mj_T.icmp (a := ((i : Nat) : Int)) (b := ((13 : Nat) : Int)) rfl ⟨by omega, by omega⟩ ⟨by omega, by omega⟩ (fun c2 => ?_) (fun c2 => ?_)
      · exfalso
        simp only [jc, Bool.not_eq_true', Bool.not_eq_false', decide_eq_true_eq, decide_eq_false_iff_not] at c2
        omega
      · simp only [jc, Bool.not_eq_true', Bool.not_eq_false', decide_eq_true_eq, decide_eq_false_iff_not] at c2
        iterate 2 refine mj_T.pl rfl rfl rfl rfl ?_
        refine mT_lald m ka rfl ⟨by omega, by omega⟩ ?_
        refine mj_T.eq (st2 := [.long (jl (X a i))]) ?_ rfl rfl rfl rfl
        iterate 2 refine mj_T.pl rfl rfl rfl rfl ?_
        refine mT_lald m kb rfl ⟨by omega, by omega⟩ ?_
        refine mj_T.eq (st2 := [.long (jl (X b i)), .long (jl (X a i))]) ?_ rfl rfl rfl rfl
        refine mj_T.lif (a := (X a i)) (b := (X b i)) rfl rfl ⟨by omega, by omega⟩ ⟨by omega, by omega⟩ (fun c3 => ?_) (fun c3 => ?_)
        · simp only [jc, Bool.not_eq_true', Bool.not_eq_false', decide_eq_true_eq, decide_eq_false_iff_not] at c3
          refine mj_T.iinc rfl rfl ?_
          rw [show ((i : Nat) : Int) + 1 = ((i + 1 : Nat) : Int) by omega]
          refine mj_T.eq (loc2 := [some (.ref a), some (.ref b), some (.int (jn (((i + 1) : Nat) : Int)))]) ?_ rfl rfl rfl rfl
          refine mj_T.pl rfl rfl rfl rfl ?_
          exact mS_same_loop m ka kb ha hb hyes hno k (i + 1) (by omega) (fun j hj => by
            by_cases e : j = i
            · rw [e]
              omega
            · exact hp j (by omega))
        · simp only [jc, Bool.not_eq_true', Bool.not_eq_false', decide_eq_true_eq, decide_eq_false_iff_not] at c3
          refine mj_T.pl rfl rfl rfl rfl ?_
          refine mj_T.ret rfl rfl rfl (hno (fun q => ?_))
          have := q i (by omega)
          omega
theorem mS_same (m : jM g n V X h) (ka : cK a = 2) (kb : cK b = 2) (ha : sml (X a)) (hb : sml (X b)) : mj_Ok (D + 1) 166 [.ref a, .ref b] h (fun z => ((∀ j, j < 13 → X a j = X b j) ∧ z = (.inl (some (.int (jn 1))), h)) ∨ (¬ (∀ j, j < 13 → X a j = X b j) ∧ z = (.inl (some (.int (jn 0))), h))) := by
  refine mj_Ok.of (M := mj_m166) rfl rfl rfl ?_
  refine mj_T.pl rfl rfl rfl rfl ?_
  refine mj_T.pl (loc' := [some (.ref a), some (.ref b), some (.int (jn 0))]) rfl rfl rfl rfl ?_
  exact mS_same_loop m ka kb ha hb (fun q => Or.inl ⟨q, rfl⟩) (fun q => Or.inr ⟨q, rfl⟩) 13 0 (by omega) (fun j hj => absurd hj (by omega))
theorem mS_short {x : Int} (hx : jR x) : mj_Ok (D + 1) 161 [.long (jl x)] h (fun z => (x.natAbs ≤ 999999999999999999 ∧ z = (.inl (some (.int (jn 1))), h)) ∨ (¬ x.natAbs ≤ 999999999999999999 ∧ z = (.inl (some (.int (jn 0))), h))) := by
  refine mj_Ok.of (M := mj_m161) rfl rfl rfl ?_
  refine mj_T.pl rfl rfl rfl rfl ?_
  refine jT.ldcL rfl ?_
  rw [show jl ((17446744073709551617 : Nat) : Int) = jl (-999999999999999999) from by decide]
  refine mj_T.lif (a := x) (b := (-999999999999999999)) rfl rfl hx ⟨by decide, by decide⟩ (fun c1 => ?_) (fun c1 => ?_)
  · simp only [jc, Bool.not_eq_true', Bool.not_eq_false', decide_eq_true_eq, decide_eq_false_iff_not] at c1
    refine mj_T.pl rfl rfl rfl rfl ?_
    exact mj_T.ret rfl rfl rfl (Or.inr ⟨by omega, rfl⟩)
  · simp only [jc, Bool.not_eq_true', Bool.not_eq_false', decide_eq_true_eq, decide_eq_false_iff_not] at c1
    refine mj_T.pl rfl rfl rfl rfl ?_
    refine jT.ldcL rfl ?_
    refine mj_T.lif (a := x) (b := ((999999999999999999 : Nat) : Int)) rfl rfl hx ⟨by decide, by decide⟩ (fun c2 => ?_) (fun c2 => ?_)
    · simp only [jc, Bool.not_eq_true', Bool.not_eq_false', decide_eq_true_eq, decide_eq_false_iff_not] at c2
      refine mj_T.pl rfl rfl rfl rfl ?_
      exact mj_T.ret rfl rfl rfl (Or.inr ⟨by omega, rfl⟩)
    · simp only [jc, Bool.not_eq_true', Bool.not_eq_false', decide_eq_true_eq, decide_eq_false_iff_not] at c2
      iterate 2 refine mj_T.pl rfl rfl rfl rfl ?_
      exact mj_T.ret rfl rfl rfl (Or.inl ⟨by omega, rfl⟩)
theorem mS_sum_loop {f : Int} (ka : cK a = 2) (kb : cK b = 2) (kr : cK r = 2) (ha : sml (X a)) (hb : sml (X b)) (hf : f = 1 ∨ f = -1) {Q : mj_R → Prop} (hend : ∀ (z : Int) (h : mj_H), jM g n V (xfl X r (fun e => X a e + f * X b e) 13) h → (z = 1 ∧ sml (fun e => X a e + f * X b e) ∨ z = 0 ∧ ¬ sml (fun e => X a e + f * X b e)) → Q (.inl (some (.int (jn z))), h)) : ∀ k i, i + k = 13 → ∀ (z : Int) (h : mj_H), jM g n V (xfl X r (fun e => X a e + f * X b e) i) h → (z = 1 ∧ (∀ j, j < i → (X a j + f * X b j).natAbs ≤ 999999999999999999) ∨ z = 0 ∧ ¬ (∀ j, j < i → (X a j + f * X b j).natAbs ≤ 999999999999999999)) → mj_T (D + 1) mj_m167 6 [some (.ref a), some (.ref b), some (.int (jn f)), some (.ref r), some (.int (jn z)), some (.int (jn (i : Int)))] [] h Q
  | 0, i, hi, z, h, m, hz => by
    iterate 2 refine mj_T.pl rfl rfl rfl rfl ?_
    refine mT_llen m kr rfl ?_
    refine mj_T.icmp (a := ((i : Nat) : Int)) (b := ((13 : Nat) : Int)) rfl ⟨by omega, by omega⟩ ⟨by omega, by omega⟩ (fun c1 => ?_) (fun c1 => ?_)
    · simp only [jc, Bool.not_eq_true', Bool.not_eq_false', decide_eq_true_eq, decide_eq_false_iff_not] at c1
      refine mj_T.pl rfl rfl rfl rfl ?_
      have hi13 : i = 13 := by omega
      subst hi13
      rcases hz with ⟨e, hz⟩ | ⟨e, hz⟩ <;> subst e
      · exact mj_T.ret rfl rfl rfl (hend 1 _ m (Or.inl ⟨rfl, hz⟩))
      · exact mj_T.ret rfl rfl rfl (hend 0 _ m (Or.inr ⟨rfl, hz⟩))
    · exfalso
      simp only [jc, Bool.not_eq_true', Bool.not_eq_false', decide_eq_true_eq, decide_eq_false_iff_not] at c1
      omega
  | k + 1, i, hi, z, h, m, hz => by
    have h1 := ha i (by omega)
    have h2 := hb i (by omega)
    have hfr : jr f := by rcases hf with q | q <;> subst q <;> exact ⟨by omega, by omega⟩
    have hjr : jR (X a i + f * X b i) := by rcases hf with q | q <;> subst q <;> exact ⟨by omega, by omega⟩
    have hzr : jr z := by rcases hz with ⟨q, _⟩ | ⟨q, _⟩ <;> subst q <;> exact ⟨by omega, by omega⟩
    iterate 2 refine mj_T.pl rfl rfl rfl rfl ?_
    refine mT_llen m kr rfl ?_
    refine mj_T.icmp (a := ((i : Nat) : Int)) (b := ((13 : Nat) : Int)) rfl ⟨by omega, by omega⟩ ⟨by omega, by omega⟩ (fun c1 => ?_) (fun c1 => ?_)
    · exfalso
      simp only [jc, Bool.not_eq_true', Bool.not_eq_false', decide_eq_true_eq, decide_eq_false_iff_not] at c1
      omega
    · simp only [jc, Bool.not_eq_true', Bool.not_eq_false', decide_eq_true_eq, decide_eq_false_iff_not] at c1
      iterate 2 refine mj_T.pl rfl rfl rfl rfl ?_
      refine mT_llen m ka rfl ?_
      refine mj_T.icmp (a := ((i : Nat) : Int)) (b := ((13 : Nat) : Int)) rfl ⟨by omega, by omega⟩ ⟨by omega, by omega⟩ (fun c2 => ?_) (fun c2 => ?_)
      · exfalso
        simp only [jc, Bool.not_eq_true', Bool.not_eq_false', decide_eq_true_eq, decide_eq_false_iff_not] at c2
        omega
      · simp only [jc, Bool.not_eq_true', Bool.not_eq_false', decide_eq_true_eq, decide_eq_false_iff_not] at c2
        iterate 2 refine mj_T.pl rfl rfl rfl rfl ?_
        refine mT_llen m kb rfl ?_
        refine mj_T.icmp (a := ((i : Nat) : Int)) (b := ((13 : Nat) : Int)) rfl ⟨by omega, by omega⟩ ⟨by omega, by omega⟩ (fun c3 => ?_) (fun c3 => ?_)
        · exfalso
          simp only [jc, Bool.not_eq_true', Bool.not_eq_false', decide_eq_true_eq, decide_eq_false_iff_not] at c3
          omega
        · simp only [jc, Bool.not_eq_true', Bool.not_eq_false', decide_eq_true_eq, decide_eq_false_iff_not] at c3
          iterate 4 refine mj_T.pl rfl rfl rfl rfl ?_
          refine mT_lald m ka rfl ⟨by omega, by omega⟩ ?_
          refine mj_T.eq (st2 := [.long (jl ((xfl X r (fun e => X a e + f * X b e) i) a i)), .int (jn ((i : Nat) : Int)), .ref r]) ?_ rfl rfl rfl rfl
          refine mj_T.pl rfl rfl rfl rfl ?_
          refine mj_T.i2l rfl ⟨by omega, by omega⟩ ?_
          iterate 2 refine mj_T.pl rfl rfl rfl rfl ?_
          refine mT_lald m kb rfl ⟨by omega, by omega⟩ ?_
          refine mj_T.eq (st2 := [.long (jl ((xfl X r (fun e => X a e + f * X b e) i) b i)), .long (jl f), .long (jl ((xfl X r (fun e => X a e + f * X b e) i) a i)), .int (jn ((i : Nat) : Int)), .ref r]) ?_ rfl rfl rfl rfl
          refine mj_T.lmul (a := f) (b := ((xfl X r (fun e => X a e + f * X b e) i) b i)) rfl ?_
          refine mj_T.ladd (a := ((xfl X r (fun e => X a e + f * X b e) i) a i)) (b := (f * ((xfl X r (fun e => X a e + f * X b e) i) b i))) rfl ?_
          refine mT_last (v := (((xfl X r (fun e => X a e + f * X b e) i) a i) + (f * ((xfl X r (fun e => X a e + f * X b e) i) b i)))) m kr rfl ⟨by omega, by omega⟩ (fun h4 m5 => ?_)
          have m5 := m5.to (X' := (xfl X r (fun e => X a e + f * X b e) (i + 1))) rfl (xfl_full (by rw [xfl_read, xfl_read]))
          refine mj_T.pl rfl rfl rfl rfl ?_
          refine mj_T.if0 (a := z) rfl hzr (fun c6 => ?_) (fun c6 => ?_)
          · simp only [jc, Bool.not_eq_true', Bool.not_eq_false', decide_eq_true_eq, decide_eq_false_iff_not] at c6
            refine mj_T.pl rfl rfl rfl rfl ?_
            refine mj_T.pl (loc' := [some (.ref a), some (.ref b), some (.int (jn f)), some (.ref r), some (.int (jn 0)), some (.int (jn ((i : Nat) : Int)))]) rfl rfl rfl rfl ?_
            refine mj_T.iinc rfl rfl ?_
            rw [show ((i : Nat) : Int) + 1 = ((i + 1 : Nat) : Int) by omega]
            refine mj_T.eq (loc2 := [some (.ref a), some (.ref b), some (.int (jn f)), some (.ref r), some (.int (jn 0)), some (.int (jn (((i + 1) : Nat) : Int)))]) ?_ rfl rfl rfl rfl
            refine mj_T.pl rfl rfl rfl rfl ?_
            exact mS_sum_loop ka kb kr ha hb hf hend k (i + 1) (by omega) 0 _ m5 (Or.inr ⟨rfl, fun q => by
              rcases hz with ⟨hz1, _⟩ | ⟨_, hz⟩
              · omega
              · exact hz (fun j hj => q j (by omega))⟩)
          · simp only [jc, Bool.not_eq_true', Bool.not_eq_false', decide_eq_true_eq, decide_eq_false_iff_not] at c6
            iterate 2 refine mj_T.pl rfl rfl rfl rfl ?_
            refine mT_lald m5 kr rfl ⟨by omega, by omega⟩ ?_
            refine mj_T.eq (st2 := [.long (jl ((xfl X r (fun e => X a e + f * X b e) (i + 1)) r i))]) ?_ rfl rfl rfl rfl
            rw [show ((xfl X r (fun e => X a e + f * X b e) (i + 1)) r i) = X a i + f * X b i from xfl_at _ _ _ (by omega)]
            refine mj_T.call rfl rfl (Nat.le_of_ble_eq_true rfl) (Nat.le_of_ble_eq_true rfl) rfl rfl (mj_Ok.up (by omega) (mS_short (D := 0) (x := X a i + f * X b i) hjr)) (fun v g1 hq => ?_) (fun i' g1 hq => ?_)
            rotate_left
            · rcases hq with ⟨_, hq⟩ | ⟨_, hq⟩ <;> cases hq
            rcases hq with ⟨ho, hq⟩ | ⟨ho, hq⟩
            · cases hq
              refine mj_T.eq (pc2 := 55) (st2 := [.int (jn 1)]) ?_ rfl rfl rfl rfl
              refine mj_T.if0 (a := 1) rfl ⟨by omega, by omega⟩ (fun c61 => ?_) (fun c61 => ?_)
              · exfalso
                simp [jc] at c61
              · simp only [jc, Bool.not_eq_true', Bool.not_eq_false', decide_eq_true_eq, decide_eq_false_iff_not] at c61
                iterate 2 refine mj_T.pl rfl rfl rfl rfl ?_
                refine mj_T.pl (loc' := [some (.ref a), some (.ref b), some (.int (jn f)), some (.ref r), some (.int (jn 1)), some (.int (jn ((i : Nat) : Int)))]) rfl rfl rfl rfl ?_
                refine mj_T.iinc rfl rfl ?_
                rw [show ((i : Nat) : Int) + 1 = ((i + 1 : Nat) : Int) by omega]
                refine mj_T.eq (loc2 := [some (.ref a), some (.ref b), some (.int (jn f)), some (.ref r), some (.int (jn 1)), some (.int (jn (((i + 1) : Nat) : Int)))]) ?_ rfl rfl rfl rfl
                refine mj_T.pl rfl rfl rfl rfl ?_
                exact mS_sum_loop ka kb kr ha hb hf hend k (i + 1) (by omega) 1 _ m5 (Or.inl ⟨rfl, fun j hj => by
                  by_cases e : j = i
                  · rw [e]
                    exact ho
                  · rcases hz with ⟨_, hz⟩ | ⟨hz0, _⟩
                    · exact hz j (by omega)
                    · omega⟩)
            · cases hq
              refine mj_T.eq (pc2 := 55) (st2 := [.int (jn 0)]) ?_ rfl rfl rfl rfl
              refine mj_T.if0 (a := 0) rfl ⟨by omega, by omega⟩ (fun c41 => ?_) (fun c41 => ?_)
              · simp only [jc, Bool.not_eq_true', Bool.not_eq_false', decide_eq_true_eq, decide_eq_false_iff_not] at c41
                refine mj_T.pl rfl rfl rfl rfl ?_
                refine mj_T.pl (loc' := [some (.ref a), some (.ref b), some (.int (jn f)), some (.ref r), some (.int (jn 0)), some (.int (jn ((i : Nat) : Int)))]) rfl rfl rfl rfl ?_
                refine mj_T.iinc rfl rfl ?_
                rw [show ((i : Nat) : Int) + 1 = ((i + 1 : Nat) : Int) by omega]
                refine mj_T.eq (loc2 := [some (.ref a), some (.ref b), some (.int (jn f)), some (.ref r), some (.int (jn 0)), some (.int (jn (((i + 1) : Nat) : Int)))]) ?_ rfl rfl rfl rfl
                refine mj_T.pl rfl rfl rfl rfl ?_
                exact mS_sum_loop ka kb kr ha hb hf hend k (i + 1) (by omega) 0 _ m5 (Or.inr ⟨rfl, fun q => ho (q i (by omega))⟩)
              · exfalso
                simp [jc] at c41
theorem mS_sum (m : jM g n V X h) {f : Int} (ka : cK a = 2) (kb : cK b = 2) (kr : cK r = 2) (ha : sml (X a)) (hb : sml (X b)) (hf : f = 1 ∨ f = -1) : mj_Ok (D + 2) 167 [.ref a, .ref b, .int (jn f), .ref r] h (fun z => ∃ h2, jM g n V (xfl X r (fun e => X a e + f * X b e) 13) h2 ∧ ((sml (fun e => X a e + f * X b e) ∧ z = (.inl (some (.int (jn 1))), h2)) ∨ (¬ sml (fun e => X a e + f * X b e) ∧ z = (.inl (some (.int (jn 0))), h2)))) := by
  refine mj_Ok.of (M := mj_m167) rfl rfl rfl ?_
  refine mj_T.pl rfl rfl rfl rfl ?_
  refine mj_T.pl (loc' := [some (.ref a), some (.ref b), some (.int (jn f)), some (.ref r), some (.int (jn 1)), none]) rfl rfl rfl rfl ?_
  refine mj_T.pl rfl rfl rfl rfl ?_
  refine mj_T.pl (loc' := [some (.ref a), some (.ref b), some (.int (jn f)), some (.ref r), some (.int (jn 1)), some (.int (jn 0))]) rfl rfl rfl rfl ?_
  refine mS_sum_loop ka kb kr ha hb hf (fun z h1 m1 hz => ?_) 13 0 (by omega) 1 _ (m.to rfl (xfl_zero _ _ _)) (Or.inl ⟨rfl, fun j hj => absurd hj (by omega)⟩)
  rcases hz with ⟨e, hz⟩ | ⟨e, hz⟩ <;> subst e
  · exact ⟨_, m1, Or.inl ⟨hz, rfl⟩⟩
  · exact ⟨_, m1, Or.inr ⟨hz, rfl⟩⟩
end MSV
/-! The desk of the class, exactly: a number is enlarged, is lessened; a common divisor. -/
/-- all but the desk's four numbers and a stay -/
def qF (a : Nat) (V V' : Nat → Int) : Prop := ∀ x, x ≠ 164 → x ≠ 166 → x ≠ 168 → x ≠ 170 → x ≠ a → V' x = V x
theorem jfa_one {x v m : Nat} (h : jnl x + 1 ≤ m) : jnl (x * jfa v) ≤ m := by
  rw [jnl_le_lt]
  have h1 := jnl_le_lt.mp (Nat.le_refl (jnl x))
  have h2 := (jfa_pos v).2
  have h3 : x * jfa v ≤ x * 1000000000 := Nat.mul_le_mul_left _ h2
  have h4 : jB ^ (jnl x + 1) ≤ jB ^ m := Nat.pow_le_pow_right (by decide) h
  rw [Nat.pow_succ] at h4
  have h5 : jB = 1000000000 := rfl
  rw [h5] at h4 h1
  rw [h5]
  omega
theorem jnl_R {v : Int} (h : v.natAbs ≤ 9223372036854775807) : jnl v.natAbs ≤ 3 := jnl_le_lt.mpr (Nat.lt_of_le_of_lt h (by decide +kernel))
theorem jnl_tdiv {a b : Int} {m : Nat} (h : jnl a.natAbs ≤ m) : jnl (a.tdiv b).natAbs ≤ m := Nat.le_trans (jnl_mono (Int.natAbs_tdiv_le_natAbs a b)) h
section MEN
variable {g h : mj_H} {n D a : Nat} {V : Nat → Int} {X : Nat → Nat → Int}
theorem mD_enlarge (m : jM g n V X h) (ka : cK a = 18) (hn : a ≠ 164 ∧ a ≠ 168) {f : Int} (hf : f.natAbs ≤ 9223372036854775807) (hm : jnl (V a * f).natAbs ≤ cL (a + 1)) (hm2 : jnl (V a * f).natAbs ≤ 240) (hcl : jnl (V a).natAbs ≤ 1500 := by omega) : mj_Ok (D + 2) 24 [.ref 19, .ref a, .long (jl f)] h (fun r => ∃ V2 h2, jM g n V2 X h2 ∧ V2 a = V a * f ∧ (∀ x, x ≠ 164 → x ≠ 168 → x ≠ a → V2 x = V x) ∧ r = (.inl none, h2)) := by
  have c1 : cL (164 + 1) = 240 := mK_z.2.2.2.2.2.2.2.1
  have c2 : cL (166 + 1) = 240 := mK_z.2.2.2.2.2.2.2.2.1
  have c3 : cL (168 + 1) = 40 := mK_z.2.2.2.2.2.2.2.2.2.1
  have c4 : cL (170 + 1) = 60 := mK_z.2.2.2.2.2.2.2.2.2.2.1
  have hj3 := jnl_R hf
  have h170 : a ≠ 170 := fun e => by
    rw [e] at ka
    exact absurd (ka.symm.trans cq_d170) (by decide)
  have hfr : jR f := ⟨by omega, by omega⟩
  refine mj_Ok.of (M := mj_m24) rfl rfl rfl ?_
  refine mj_T.pl rfl rfl rfl rfl ?_
  refine mT_get m 11 cq_d19 (by decide) rfl rfl ?_
  refine mj_T.pl rfl rfl rfl rfl ?_
  refine mj_T.call rfl rfl (Nat.le_of_ble_eq_true rfl) (Nat.le_of_ble_eq_true rfl) (mV_of m 18 cq_d168 (by decide) rfl (by decide) rfl _) rfl (mj_Ok.up (by omega) (mW_setLong (D := 0) (v := f) m cq_d168 hfr (by omega))) (fun v g1 hq => ?_) (fun i g1 hq => ?_)
  rotate_left
  · obtain ⟨_, _, hq⟩ := hq; cases hq
  obtain ⟨_, m2, hq⟩ := hq
  cases hq
  have m2 := m2.to (V' := (jvu V 168 f)) (by rfl) rfl
  refine mj_T.eq (pc2 := 8) (st2 := []) ?_ rfl rfl rfl rfl
  refine mj_T.pl rfl rfl rfl rfl ?_
  refine mT_get m2 11 cq_d19 (by decide) rfl rfl ?_
  iterate 2 refine mj_T.pl rfl rfl rfl rfl ?_
  refine mT_get m2 11 cq_d19 (by decide) rfl rfl ?_
  refine mj_T.call rfl rfl (Nat.le_of_ble_eq_true rfl) (Nat.le_of_ble_eq_true rfl) (mV_of m2 18 cq_d164 (by decide) rfl (by decide) rfl _) rfl (mj_Ok.up (by omega) (mW_setProduct (D := 0) m2 cq_d164 ka cq_d168 (by omega) (by omega) (by omega) (by rw [((jvu_ne _ _ _ (by omega)).trans (rfl : V a = _)), (jvu_at _ _ _)]; exact (by omega)) (hca := by rw [((jvu_ne _ _ _ (by omega)).trans (rfl : V a = _))]; omega) (hcb := by rw [(jvu_at _ _ _)]; omega))) (fun v g3 hq => ?_) (fun i g3 hq => ?_)
  rotate_left
  · obtain ⟨_, _, hq⟩ := hq; cases hq
  obtain ⟨_, m4, hq⟩ := hq
  cases hq
  have m4 := m4.to (V' := (jvu (jvu V 168 f) 164 ((V a) * f))) (by rw [((jvu_ne _ _ _ (by omega)).trans (rfl : V a = _)), (jvu_at _ _ _)]) rfl
  refine mj_T.eq (pc2 := 20) (st2 := []) ?_ rfl rfl rfl rfl
  iterate 2 refine mj_T.pl rfl rfl rfl rfl ?_
  refine mT_get m4 11 cq_d19 (by decide) rfl rfl ?_
  refine mj_T.call rfl rfl (Nat.le_of_ble_eq_true rfl) (Nat.le_of_ble_eq_true rfl) (mV_of m4 18 ka (by decide) rfl (by decide) rfl _) rfl (mj_Ok.up (by omega) (mW_set (D := 0) m4 ka cq_d164 (by omega) (by rw [(jvu_at _ _ _)]; exact hm))) (fun v g5 hq => ?_) (fun i g5 hq => ?_)
  rotate_left
  · obtain ⟨_, _, hq⟩ := hq; cases hq
  obtain ⟨_, m6, hq⟩ := hq
  cases hq
  have m6 := m6.to (V' := (jvu (jvu (jvu V 168 f) 164 ((V a) * f)) a ((V a) * f))) (by rw [(jvu_at _ _ _)]) rfl
  refine mj_T.eq (pc2 := 28) (st2 := []) ?_ rfl rfl rfl rfl
  exact mj_T.ret rfl rfl rfl ⟨_, _, m6, (jvu_at _ _ _), fun x h1 h2 h3 => ((jvu_ne _ _ _ (by omega)).trans ((jvu_ne _ _ _ (by omega)).trans ((jvu_ne _ _ _ (by omega)).trans (rfl : V x = _)))), rfl⟩
theorem mD_lessen (m : jM g n V X h) (ka : cK a = 18) (hn : a ≠ 164 ∧ a ≠ 166 ∧ a ≠ 168) {f : Int} (hf : f.natAbs ≤ 9223372036854775807) (hm : jnl (V a).natAbs + 1 ≤ cL (a + 1)) (hm2 : jnl (V a).natAbs ≤ 240) : mj_Ok (D + 3) 25 [.ref 19, .ref a, .long (jl f)] h (fun r => ∃ V2 h2, jM g n V2 X h2 ∧ V2 a = (V a).tdiv f ∧ qF a V V2 ∧ r = (.inl none, h2)) := by
  have c1 : cL (164 + 1) = 240 := mK_z.2.2.2.2.2.2.2.1
  have c2 : cL (166 + 1) = 240 := mK_z.2.2.2.2.2.2.2.2.1
  have c3 : cL (168 + 1) = 40 := mK_z.2.2.2.2.2.2.2.2.2.1
  have c4 : cL (170 + 1) = 60 := mK_z.2.2.2.2.2.2.2.2.2.2.1
  have hj3 := jnl_R hf
  have h170 : a ≠ 170 := fun e => by
    rw [e] at ka
    exact absurd (ka.symm.trans cq_d170) (by decide)
  have hfr : jR f := ⟨by omega, by omega⟩
  refine mj_Ok.of (M := mj_m25) rfl rfl rfl ?_
  refine mj_T.pl rfl rfl rfl rfl ?_
  refine mT_get m 11 cq_d19 (by decide) rfl rfl ?_
  refine mj_T.pl rfl rfl rfl rfl ?_
  refine mj_T.call rfl rfl (Nat.le_of_ble_eq_true rfl) (Nat.le_of_ble_eq_true rfl) (mV_of m 18 cq_d168 (by decide) rfl (by decide) rfl _) rfl (mj_Ok.up (by omega) (mW_setLong (D := 0) (v := f) m cq_d168 hfr (by omega))) (fun v g1 hq => ?_) (fun i g1 hq => ?_)
  rotate_left
  · obtain ⟨_, _, hq⟩ := hq; cases hq
  obtain ⟨_, m2, hq⟩ := hq
  cases hq
  have m2 := m2.to (V' := (jvu V 168 f)) (by rfl) rfl
  refine mj_T.eq (pc2 := 8) (st2 := []) ?_ rfl rfl rfl rfl
  refine mj_T.pl rfl rfl rfl rfl ?_
  refine mT_get m2 11 cq_d19 (by decide) rfl rfl ?_
  refine mj_T.pl rfl rfl rfl rfl ?_
  refine mT_get m2 11 cq_d19 (by decide) rfl rfl ?_
  refine mj_T.call rfl rfl (Nat.le_of_ble_eq_true rfl) (Nat.le_of_ble_eq_true rfl) (mV_of m2 12 cq_d170 (by decide) rfl (by decide) rfl _) rfl (mj_Ok.up (by omega) (mW_prepare (D := 0) m2 cq_d170 cq_d168 (by rw [(jvu_at _ _ _)]; exact (by omega)))) (fun v g3 hq => ?_) (fun i g3 hq => ?_)
  rotate_left
  · obtain ⟨_, _, hq⟩ := hq; cases hq
  obtain ⟨_, m4, hq⟩ := hq
  cases hq
  have m4 := m4.to (V' := (jvu (jvu V 168 f) 170 f)) (by rw [(jvu_at _ _ _)]) rfl
  refine mj_T.eq (pc2 := 19) (st2 := []) ?_ rfl rfl rfl rfl
  refine mj_T.pl rfl rfl rfl rfl ?_
  refine mT_get m4 11 cq_d19 (by decide) rfl rfl ?_
  iterate 2 refine mj_T.pl rfl rfl rfl rfl ?_
  refine mT_get m4 11 cq_d19 (by decide) rfl rfl ?_
  refine mj_T.call rfl rfl (Nat.le_of_ble_eq_true rfl) (Nat.le_of_ble_eq_true rfl) (mV_of m4 12 cq_d170 (by decide) rfl (by decide) rfl _) rfl (mj_Ok.up (by omega) (mW_split (D := 0) m4 cq_d170 ka cq_d164 (by omega) (by rw [((jvu_ne _ _ _ (by omega)).trans ((jvu_ne _ _ _ (by omega)).trans (rfl : V a = _))), (jvu_at _ _ _)]; exact (jfa_one hm)) (by rw [((jvu_ne _ _ _ (by omega)).trans ((jvu_ne _ _ _ (by omega)).trans (rfl : V a = _))), (jvu_at _ _ _)]; exact (by have := jnl_tdiv (b := f) hm2; omega)) (hcc := by rw [(jvu_at _ _ _)]; omega))) (fun v g5 hq => ?_) (fun i g5 hq => ?_)
  rotate_left
  · obtain ⟨_, _, hq⟩ := hq; cases hq
  obtain ⟨_, m6, hq⟩ := hq
  cases hq
  have m6 := m6.to (V' := (jvu (jvu (jvu (jvu V 168 f) 170 f) a ((V a).tmod f)) 164 ((V a).tdiv f))) (by rw [((jvu_ne _ _ _ (by omega)).trans ((jvu_ne _ _ _ (by omega)).trans (rfl : V a = _))), (jvu_at _ _ _)]) rfl
  refine mj_T.eq (pc2 := 31) (st2 := []) ?_ rfl rfl rfl rfl
  iterate 2 refine mj_T.pl rfl rfl rfl rfl ?_
  refine mT_get m6 11 cq_d19 (by decide) rfl rfl ?_
  refine mj_T.call rfl rfl (Nat.le_of_ble_eq_true rfl) (Nat.le_of_ble_eq_true rfl) (mV_of m6 18 ka (by decide) rfl (by decide) rfl _) rfl (mj_Ok.up (by omega) (mW_set (D := 0) m6 ka cq_d164 (by omega) (by rw [(jvu_at _ _ _)]; exact (jnl_tdiv (by omega))))) (fun v g7 hq => ?_) (fun i g7 hq => ?_)
  rotate_left
  · obtain ⟨_, _, hq⟩ := hq; cases hq
  obtain ⟨_, m8, hq⟩ := hq
  cases hq
  have m8 := m8.to (V' := (jvu (jvu (jvu (jvu (jvu V 168 f) 170 f) a ((V a).tmod f)) 164 ((V a).tdiv f)) a ((V a).tdiv f))) (by rw [(jvu_at _ _ _)]) rfl
  refine mj_T.eq (pc2 := 39) (st2 := []) ?_ rfl rfl rfl rfl
  exact mj_T.ret rfl rfl rfl ⟨_, _, m8, (jvu_at _ _ _), fun x h1 h2 h3 h4 h5 => ((jvu_ne _ _ _ (by omega)).trans ((jvu_ne _ _ _ (by omega)).trans ((jvu_ne _ _ _ (by omega)).trans ((jvu_ne _ _ _ (by omega)).trans ((jvu_ne _ _ _ (by omega)).trans (rfl : V x = _)))))), rfl⟩
theorem mD_common (m : jM g n V X h) (ka : cK a = 18) (hn : a ≠ 164 ∧ a ≠ 166 ∧ a ≠ 168) {f : Int} (hf : f.natAbs ≤ 9223372036854775807) (hf0 : f ≠ 0) (hm : jnl (V a).natAbs ≤ 239) : mj_Ok (D + 3) 23 [.ref 19, .ref a, .long (jl f)] h (fun r => ∃ V2 h2, jM g n V2 X h2 ∧ qF 164 V V2 ∧ r = (.inl (some (.long (jl (Nat.gcd (V a).natAbs f.natAbs : Nat)))), h2)) := by
  have c1 : cL (164 + 1) = 240 := mK_z.2.2.2.2.2.2.2.1
  have c2 : cL (166 + 1) = 240 := mK_z.2.2.2.2.2.2.2.2.1
  have c3 : cL (168 + 1) = 40 := mK_z.2.2.2.2.2.2.2.2.2.1
  have c4 : cL (170 + 1) = 60 := mK_z.2.2.2.2.2.2.2.2.2.2.1
  have hj3 := jnl_R hf
  have h170 : a ≠ 170 := fun e => by
    rw [e] at ka
    exact absurd (ka.symm.trans cq_d170) (by decide)
  have hfr : jR f := ⟨by omega, by omega⟩
  have hpb : ((V a).tmod f).natAbs < 9223372036854775808 := by
    rw [Int.natAbs_tmod]
    have := Nat.mod_lt (V a).natAbs (show 0 < f.natAbs by omega)
    omega
  have hj4 : jnl ((V a).tmod f).natAbs ≤ 3 := jnl_R (by omega)
  have hg : Nat.gcd ((V a).tmod f).natAbs f.natAbs = Nat.gcd (V a).natAbs f.natAbs := by
    rw [Int.natAbs_tmod, Nat.gcd_comm (V a).natAbs, Nat.gcd_rec f.natAbs]
  refine mj_Ok.of (M := mj_m23) rfl rfl rfl ?_
  refine mj_T.pl rfl rfl rfl rfl ?_
  refine mT_get m 11 cq_d19 (by decide) rfl rfl ?_
  refine mj_T.pl rfl rfl rfl rfl ?_
  refine mj_T.call rfl rfl (Nat.le_of_ble_eq_true rfl) (Nat.le_of_ble_eq_true rfl) (mV_of m 18 cq_d168 (by decide) rfl (by decide) rfl _) rfl (mj_Ok.up (by omega) (mW_setLong (D := 0) (v := f) m cq_d168 hfr (by omega))) (fun v g1 hq => ?_) (fun i g1 hq => ?_)
  rotate_left
  · obtain ⟨_, _, hq⟩ := hq; cases hq
  obtain ⟨_, m2, hq⟩ := hq
  cases hq
  have m2 := m2.to (V' := (jvu V 168 f)) (by rfl) rfl
  refine mj_T.eq (pc2 := 8) (st2 := []) ?_ rfl rfl rfl rfl
  refine mj_T.pl rfl rfl rfl rfl ?_
  refine mT_get m2 11 cq_d19 (by decide) rfl rfl ?_
  refine mj_T.pl rfl rfl rfl rfl ?_
  refine mT_get m2 11 cq_d19 (by decide) rfl rfl ?_
  refine mj_T.call rfl rfl (Nat.le_of_ble_eq_true rfl) (Nat.le_of_ble_eq_true rfl) (mV_of m2 12 cq_d170 (by decide) rfl (by decide) rfl _) rfl (mj_Ok.up (by omega) (mW_prepare (D := 0) m2 cq_d170 cq_d168 (by rw [(jvu_at _ _ _)]; exact (by omega)))) (fun v g3 hq => ?_) (fun i g3 hq => ?_)
  rotate_left
  · obtain ⟨_, _, hq⟩ := hq; cases hq
  obtain ⟨_, m4, hq⟩ := hq
  cases hq
  have m4 := m4.to (V' := (jvu (jvu V 168 f) 170 f)) (by rw [(jvu_at _ _ _)]) rfl
  refine mj_T.eq (pc2 := 19) (st2 := []) ?_ rfl rfl rfl rfl
  refine mj_T.pl rfl rfl rfl rfl ?_
  refine mT_get m4 11 cq_d19 (by decide) rfl rfl ?_
  refine mj_T.pl rfl rfl rfl rfl ?_
  refine mj_T.call rfl rfl (Nat.le_of_ble_eq_true rfl) (Nat.le_of_ble_eq_true rfl) (mV_of m4 18 cq_d166 (by decide) rfl (by decide) rfl _) rfl (mj_Ok.up (by omega) (mW_set (D := 0) m4 cq_d166 ka (by omega) (by rw [((jvu_ne _ _ _ (by omega)).trans ((jvu_ne _ _ _ (by omega)).trans (rfl : V a = _)))]; exact (by omega)))) (fun v g5 hq => ?_) (fun i g5 hq => ?_)
  rotate_left
  · obtain ⟨_, _, hq⟩ := hq; cases hq
  obtain ⟨_, m6, hq⟩ := hq
  cases hq
  have m6 := m6.to (V' := (jvu (jvu (jvu V 168 f) 170 f) 166 (V a))) (by rw [((jvu_ne _ _ _ (by omega)).trans ((jvu_ne _ _ _ (by omega)).trans (rfl : V a = _)))]) rfl
  refine mj_T.eq (pc2 := 27) (st2 := []) ?_ rfl rfl rfl rfl
  refine mj_T.pl rfl rfl rfl rfl ?_
  refine mT_get m6 11 cq_d19 (by decide) rfl rfl ?_
  refine mj_T.pl rfl rfl rfl rfl ?_
  refine mT_get m6 11 cq_d19 (by decide) rfl rfl ?_
  refine mj_T.pl rfl rfl rfl rfl ?_
  refine mT_get m6 11 cq_d19 (by decide) rfl rfl ?_
  refine mj_T.call rfl rfl (Nat.le_of_ble_eq_true rfl) (Nat.le_of_ble_eq_true rfl) (mV_of m6 12 cq_d170 (by decide) rfl (by decide) rfl _) rfl (mj_Ok.up (by omega) (mW_split (D := 0) m6 cq_d170 cq_d166 cq_d164 (by omega) (by rw [(jvu_at _ _ _), ((jvu_ne _ _ _ (by omega)).trans (jvu_at _ _ _))]; exact (jfa_one (by omega))) (by rw [(jvu_at _ _ _), ((jvu_ne _ _ _ (by omega)).trans (jvu_at _ _ _))]; exact (jnl_tdiv (by omega))) (hcc := by rw [((jvu_ne _ _ _ (by omega)).trans (jvu_at _ _ _))]; omega))) (fun v g7 hq => ?_) (fun i g7 hq => ?_)
  rotate_left
  · obtain ⟨_, _, hq⟩ := hq; cases hq
  obtain ⟨_, m8, hq⟩ := hq
  cases hq
  have m8 := m8.to (V' := (jvu (jvu (jvu (jvu (jvu V 168 f) 170 f) 166 (V a)) 166 ((V a).tmod f)) 164 ((V a).tdiv f))) (by rw [(jvu_at _ _ _), ((jvu_ne _ _ _ (by omega)).trans (jvu_at _ _ _))]) rfl
  refine mj_T.eq (pc2 := 42) (st2 := []) ?_ rfl rfl rfl rfl
  refine mj_T.pl rfl rfl rfl rfl ?_
  refine mT_get m8 11 cq_d19 (by decide) rfl rfl ?_
  refine mj_T.call rfl rfl (Nat.le_of_ble_eq_true rfl) (Nat.le_of_ble_eq_true rfl) (mV_of m8 18 cq_d166 (by decide) rfl (by decide) rfl _) rfl (mj_Ok.up (by omega) (mW_low (D := 0) m8 cq_d166 (hcl := by rw [((jvu_ne _ _ _ (by omega)).trans (jvu_at _ _ _))]; omega))) (fun v g9 hq => ?_) (fun i g9 hq => ?_)
  rotate_left
  · cases hq
  cases hq
  rw [((jvu_ne _ _ _ (by omega)).trans (jvu_at _ _ _))]
  refine mj_T.eq (pc2 := 49) (st2 := [.long (jl ((V a).tmod f))]) ?_ rfl rfl rfl rfl
  refine mj_T.pl rfl rfl rfl rfl ?_
  refine mj_T.call rfl rfl (Nat.le_of_ble_eq_true rfl) (Nat.le_of_ble_eq_true rfl) rfl rfl (mj_Ok.up (by omega) (mS_common (D := 0) (p := (V a).tmod f) (q := f) hpb (by omega))) (fun v g10 hq => ?_) (fun i g10 hq => ?_)
  rotate_left
  · cases hq
  cases hq
  refine mj_T.eq (pc2 := 53) (st2 := [.long (jl ((Nat.gcd ((V a).tmod f).natAbs f.natAbs : Nat) : Int))]) ?_ rfl rfl rfl rfl
  exact mj_T.ret rfl rfl rfl ⟨_, _, m8, fun x h1 h2 h3 h4 h5 => ((jvu_ne _ _ _ (by omega)).trans ((jvu_ne _ _ _ (by omega)).trans ((jvu_ne _ _ _ (by omega)).trans ((jvu_ne _ _ _ (by omega)).trans ((jvu_ne _ _ _ (by omega)).trans (rfl : V x = _)))))), congrArg (fun t : Nat => ((.inl (some (.long (jl (t : Int)))), _) : mj_R)) hg⟩
end MEN
/-! The desk of the class, exactly: the coefficients are divided. -/
def itd (x d : Int) : Nat → Int
  | 0 => x
  | t + 1 => (itd x d t).tdiv d
theorem itd_le (x d : Int) : ∀ t, (itd x d t).natAbs ≤ x.natAbs
  | 0 => Nat.le_refl _
  | t + 1 => Nat.le_trans (Int.natAbs_tdiv_le_natAbs _ _) (itd_le x d t)
theorem itd_zero (d : Int) : ∀ t, itd 0 d t = 0
  | 0 => rfl
  | t + 1 => by
    show (itd 0 d t).tdiv d = 0
    rw [itd_zero d t, Int.zero_tdiv]
theorem itd_mul {d : Int} (hd : d ≠ 0) (y : Int) : ∀ t, itd (d ^ t * y) d t = y
  | 0 => by
    show d ^ 0 * y = y
    rw [Int.pow_zero, Int.one_mul]
  | t + 1 => by
    show (itd (d ^ (t + 1) * y) d t).tdiv d = y
    rw [Int.pow_succ, Int.mul_assoc, itd_mul hd (d * y) t]
    exact Int.mul_tdiv_cancel_left _ hd
/-- what holds while they are divided -/
def dpI (V : Nat → Int) (p m : Nat) (d : Int) (t i : Nat) (V1 : Nat → Int) : Prop := (∀ e, e < m → V1 (p + 4 + 2 * e) = if e < i then itd (V (p + 4 + 2 * e)) d t else V (p + 4 + 2 * e)) ∧ V1 170 = d ∧ ∀ x, x ≠ 164 → x ≠ 170 → (x < p + 4 ∨ p + 4 + 2 * m ≤ x) → V1 x = V x
section MDP
variable {g h : mj_H} {n D p b : Nat} {V : Nat → Int} {X : Nat → Nat → Int}
theorem mD_dp_in (kp : cK p = 13) (kb : cK b = 18) {t i : Nat} {x d : Int} {V0 : Nat → Int} (ht : t ≤ 1000) (hi : i < cL (p + 3)) (hm : jnl x.natAbs + 1 ≤ cL (p + 4 + 2 * i + 1)) (hm2 : jnl x.natAbs ≤ 240) (hd60 : jnl d.natAbs ≤ 60) {Q : mj_R → Prop} (hend : ∀ (V1 : Nat → Int) (h1 : mj_H), jM g n V1 X h1 → V1 (p + 4 + 2 * i) = itd x d t → V1 170 = d → (∀ y, y ≠ 164 → y ≠ 170 → y ≠ p + 4 + 2 * i → V1 y = V0 y) → mj_T (D + 2) mj_m20 65 [some (.ref 19), some (.ref p), some (.ref b), some (.int (jn (t : Int))), some (.int (jn (i : Int))), some (.ref (p + 4 + 2 * i)), some (.int (jn (t : Int)))] [] h1 Q) : ∀ k j, j + k = t → ∀ (V1 : Nat → Int) (h1 : mj_H), jM g n V1 X h1 → V1 (p + 4 + 2 * i) = itd x d j → V1 170 = d → (∀ y, y ≠ 164 → y ≠ 170 → y ≠ p + 4 + 2 * i → V1 y = V0 y) → mj_T (D + 2) mj_m20 31 [some (.ref 19), some (.ref p), some (.ref b), some (.int (jn (t : Int))), some (.int (jn (i : Int))), some (.ref (p + 4 + 2 * i)), some (.int (jn (j : Int)))] [] h1 Q
  | 0, j, hj, V1, h1, m, e1, e2, e3 => by
    iterate 2 refine mj_T.pl rfl rfl rfl rfl ?_
    refine mj_T.icmp (a := ((j : Nat) : Int)) (b := ((t : Nat) : Int)) rfl ⟨by omega, by omega⟩ ⟨by omega, by omega⟩ (fun c1 => ?_) (fun c1 => ?_)
    · simp only [jc, Bool.not_eq_true', Bool.not_eq_false', decide_eq_true_eq, decide_eq_false_iff_not] at c1
      have hjt : j = t := by omega
      subst hjt
      exact hend V1 _ m e1 e2 e3
    · exfalso
      simp only [jc, Bool.not_eq_true', Bool.not_eq_false', decide_eq_true_eq, decide_eq_false_iff_not] at c1
      omega
  | k + 1, j, hj, V1, h1, m, e1, e2, e3 => by
    have c1 : cL (164 + 1) = 240 := mK_z.2.2.2.2.2.2.2.1
    have hpp := mP_pos kp
    have hbp := (mK_p kp).2.2.1
    have hle := jnl_mono (itd_le x d j)
    have h170 : p + 4 + 2 * i ≠ 170 := by omega
    iterate 2 refine mj_T.pl rfl rfl rfl rfl ?_
    refine mj_T.icmp (a := ((j : Nat) : Int)) (b := ((t : Nat) : Int)) rfl ⟨by omega, by omega⟩ ⟨by omega, by omega⟩ (fun c1 => ?_) (fun c1 => ?_)
    · exfalso
      simp only [jc, Bool.not_eq_true', Bool.not_eq_false', decide_eq_true_eq, decide_eq_false_iff_not] at c1
      omega
    · simp only [jc, Bool.not_eq_true', Bool.not_eq_false', decide_eq_true_eq, decide_eq_false_iff_not] at c1
      refine mj_T.pl rfl rfl rfl rfl ?_
      refine mT_get m 11 cq_d19 (by decide) rfl rfl ?_
      iterate 2 refine mj_T.pl rfl rfl rfl rfl ?_
      refine mT_get m 11 cq_d19 (by decide) rfl rfl ?_
      refine mj_T.call rfl rfl (Nat.le_of_ble_eq_true rfl) (Nat.le_of_ble_eq_true rfl) (mV_of m 12 cq_d170 (by decide) rfl (by decide) rfl _) rfl (mj_Ok.up (by omega) (mW_split (D := 0) m cq_d170 ((mK_p kp).2.2.2 _ (by omega)) cq_d164 (by omega) (by rw [(rfl : V1 (p + 4 + 2 * i) = _), (rfl : V1 170 = _)]; exact (by rw [e1]; exact jfa_one (by omega))) (by rw [(rfl : V1 (p + 4 + 2 * i) = _), (rfl : V1 170 = _)]; exact (by rw [e1]; exact Nat.le_trans (jnl_tdiv (Nat.le_refl _)) (by omega))) (hcc := by rw [(rfl : V1 170 = _)]; rw [e2]; omega))) (fun v g2 hq => ?_) (fun i g2 hq => ?_)
      rotate_left
      · obtain ⟨_, _, hq⟩ := hq; cases hq
      obtain ⟨_, m3, hq⟩ := hq
      cases hq
      have m3 := m3.to (V' := (jvu (jvu V1 (p + 4 + 2 * i) ((V1 (p + 4 + 2 * i)).tmod (V1 170))) 164 ((V1 (p + 4 + 2 * i)).tdiv (V1 170)))) (by rw [(rfl : V1 (p + 4 + 2 * i) = _), (rfl : V1 170 = _)]) rfl
      refine mj_T.eq (pc2 := 50) (st2 := []) ?_ rfl rfl rfl rfl
      iterate 2 refine mj_T.pl rfl rfl rfl rfl ?_
      refine mT_get m3 11 cq_d19 (by decide) rfl rfl ?_
      refine mj_T.call rfl rfl (Nat.le_of_ble_eq_true rfl) (Nat.le_of_ble_eq_true rfl) (mV_of m3 18 ((mK_p kp).2.2.2 _ (by omega)) (by decide) rfl (by decide) rfl _) rfl (mj_Ok.up (by omega) (mW_set (D := 0) m3 ((mK_p kp).2.2.2 _ (by omega)) cq_d164 (by omega) (by rw [(jvu_at _ _ _)]; exact (by rw [e1]; exact Nat.le_trans (jnl_tdiv (Nat.le_refl _)) (by omega))))) (fun v g4 hq => ?_) (fun i g4 hq => ?_)
      rotate_left
      · obtain ⟨_, _, hq⟩ := hq; cases hq
      obtain ⟨_, m5, hq⟩ := hq
      cases hq
      have m5 := m5.to (V' := (jvu (jvu (jvu V1 (p + 4 + 2 * i) ((V1 (p + 4 + 2 * i)).tmod (V1 170))) 164 ((V1 (p + 4 + 2 * i)).tdiv (V1 170))) (p + 4 + 2 * i) ((V1 (p + 4 + 2 * i)).tdiv (V1 170)))) (by rw [(jvu_at _ _ _)]) rfl
      refine mj_T.eq (pc2 := 59) (st2 := []) ?_ rfl rfl rfl rfl
      refine mj_T.iinc rfl rfl ?_
      rw [show ((j : Nat) : Int) + 1 = ((j + 1 : Nat) : Int) by omega]
      refine mj_T.eq (loc2 := [some (.ref 19), some (.ref p), some (.ref b), some (.int (jn ((t : Nat) : Int))), some (.int (jn ((i : Nat) : Int))), some (.ref (p + 4 + 2 * i)), some (.int (jn (((j + 1) : Nat) : Int)))]) ?_ rfl rfl rfl rfl
      refine mj_T.pl rfl rfl rfl rfl ?_
      refine mD_dp_in kp kb ht hi hm hm2 hd60 hend k (j + 1) (by omega) _ _ m5 ?_ ?_ (fun y y1 y2 y3 => ?_)
      · rw [(jvu_at _ _ _), e1, e2]
        rfl
      · rw [((jvu_ne _ _ _ (by omega)).trans ((jvu_ne _ _ _ (by omega)).trans ((jvu_ne _ _ _ (by omega)).trans (rfl : V1 170 = _))))]
        exact e2
      · rw [((jvu_ne _ _ _ (by omega)).trans ((jvu_ne _ _ _ (by omega)).trans ((jvu_ne _ _ _ (by omega)).trans (rfl : V1 y = _))))]
        exact e3 y y1 y2 y3
theorem mD_dp_out {t dp : Nat} {d : Int} (kp : cK p = 13) (kb : cK b = 18) (ht : t ≤ 1000) (hdp : dp ≤ cL (p + 3)) (hX : X p 2 = (dp : Int) - 1) (hz : ∀ e, dp ≤ e → e < cL (p + 3) → V (p + 4 + 2 * e) = 0) (hm : ∀ e, e < cL (p + 3) → jnl (V (p + 4 + 2 * e)).natAbs + 1 ≤ cL (p + 4 + 2 * e + 1) ∧ jnl (V (p + 4 + 2 * e)).natAbs ≤ 240) (hd60 : jnl d.natAbs ≤ 60) : ∀ k i, i + k = dp → ∀ (V1 : Nat → Int) (h1 : mj_H) (l5 l6 : Option Value), jM g n V1 X h1 → dpI V p (cL (p + 3)) d t i V1 → mj_T (D + 2) mj_m20 11 [some (.ref 19), some (.ref p), some (.ref b), some (.int (jn (t : Int))), some (.int (jn (i : Int))), l5, l6] [] h1 (fun r => ∃ V2 h2, jM g n V2 X h2 ∧ dpI V p (cL (p + 3)) d t (cL (p + 3)) V2 ∧ r = (.inl none, h2))
  | 0, i, hi, V1, h1, l5, l6, m, I => by
    have hbp := (mK_p kp).2.2.1
    iterate 2 refine mj_T.pl rfl rfl rfl rfl ?_
    refine mT_get (v := .int (jn ((dp : Int) - 1))) m 13 kp (by decide) rfl (congrArg (fun z : Int => some (Value.int (jn z))) (hX)) ?_
    refine mj_T.icmp (a := ((i : Nat) : Int)) (b := ((dp : Int) - 1)) rfl ⟨by omega, by omega⟩ ⟨by omega, by omega⟩ (fun c1 => ?_) (fun c1 => ?_)
    · simp only [jc, Bool.not_eq_true', Bool.not_eq_false', decide_eq_true_eq, decide_eq_false_iff_not] at c1
      refine mj_T.ret rfl rfl rfl ⟨V1, _, m, ⟨fun e he => ?_, I.2.1, I.2.2⟩, rfl⟩
      rw [I.1 e he, if_pos he]
      by_cases q : e < i
      · rw [if_pos q]
      · rw [if_neg q, hz e (by omega) he, itd_zero]
    · exfalso
      simp only [jc, Bool.not_eq_true', Bool.not_eq_false', decide_eq_true_eq, decide_eq_false_iff_not] at c1
      omega
  | k + 1, i, hi, V1, h1, l5, l6, m, I => by
    have c1 : cL (164 + 1) = 240 := mK_z.2.2.2.2.2.2.2.1
    have hpp := mP_pos kp
    have hbp := (mK_p kp).2.2.1
    iterate 2 refine mj_T.pl rfl rfl rfl rfl ?_
    refine mT_get (v := .int (jn ((dp : Int) - 1))) m 13 kp (by decide) rfl (congrArg (fun z : Int => some (Value.int (jn z))) (hX)) ?_
    refine mj_T.icmp (a := ((i : Nat) : Int)) (b := ((dp : Int) - 1)) rfl ⟨by omega, by omega⟩ ⟨by omega, by omega⟩ (fun c1 => ?_) (fun c1 => ?_)
    · exfalso
      simp only [jc, Bool.not_eq_true', Bool.not_eq_false', decide_eq_true_eq, decide_eq_false_iff_not] at c1
      omega
    · simp only [jc, Bool.not_eq_true', Bool.not_eq_false', decide_eq_true_eq, decide_eq_false_iff_not] at c1
      iterate 2 refine mj_T.pl rfl rfl rfl rfl ?_
      refine mj_T.call rfl rfl (Nat.le_of_ble_eq_true rfl) (Nat.le_of_ble_eq_true rfl) (mV_of m 13 kp (by decide) rfl (by decide) rfl _) rfl (mj_Ok.up (by omega) (mP_at (D := 0) m kp (e := i) (by omega))) (fun v g2 hq => ?_) (fun i g2 hq => ?_)
      rotate_left
      · cases hq
      cases hq
      refine mj_T.eq (pc2 := 26) (st2 := [.ref (p + 4 + 2 * i)]) ?_ rfl rfl rfl rfl
      refine mj_T.pl (loc' := [some (.ref 19), some (.ref p), some (.ref b), some (.int (jn ((t : Nat) : Int))), some (.int (jn ((i : Nat) : Int))), some (.ref (p + 4 + 2 * i)), l6]) rfl rfl rfl rfl ?_
      refine mj_T.pl rfl rfl rfl rfl ?_
      refine mj_T.pl (loc' := [some (.ref 19), some (.ref p), some (.ref b), some (.int (jn ((t : Nat) : Int))), some (.int (jn ((i : Nat) : Int))), some (.ref (p + 4 + 2 * i)), some (.int (jn 0))]) rfl rfl rfl rfl ?_
      have ei := I.1 i (by omega)
      rw [if_neg (Nat.lt_irrefl i)] at ei
      refine mD_dp_in (x := V (p + 4 + 2 * i)) (d := d) (V0 := V1) kp kb ht (by omega) (hm i (by omega)).1 (hm i (by omega)).2 hd60 (fun V3 h3 m3 f1 f2 f3 => ?_) t 0 (by omega) V1 _ m ei I.2.1 (fun _ _ _ _ => rfl)
      refine mj_T.iinc rfl rfl ?_
      rw [show ((i : Nat) : Int) + 1 = ((i + 1 : Nat) : Int) by omega]
      refine mj_T.eq (loc2 := [some (.ref 19), some (.ref p), some (.ref b), some (.int (jn ((t : Nat) : Int))), some (.int (jn (((i + 1) : Nat) : Int))), some (.ref (p + 4 + 2 * i)), some (.int (jn ((t : Nat) : Int)))]) ?_ rfl rfl rfl rfl
      refine mj_T.pl rfl rfl rfl rfl ?_
      refine mD_dp_out kp kb ht hdp hX hz hm hd60 k (i + 1) (by omega) V3 _ _ _ m3 ⟨fun e he => ?_, f2, fun y y1 y2 y3 => ?_⟩
      · by_cases q : e = i
        · subst q
          rw [f1, if_pos (Nat.lt_succ_self _)]
        · rw [f3 _ (by omega) (by omega) (by omega), I.1 e he]
          by_cases z : e < i
          · rw [if_pos z, if_pos (by omega)]
          · rw [if_neg z, if_neg (by omega)]
      · rw [f3 y y1 y2 (by omega)]
        exact I.2.2 y y1 y2 y3
theorem mD_divParts (m : jM g n V X h) {t dp : Nat} (kp : cK p = 13) (kb : cK b = 18) (ht : t ≤ 1000) (hdp : dp ≤ cL (p + 3)) (hX : X p 2 = (dp : Int) - 1) (hz : ∀ e, dp ≤ e → e < cL (p + 3) → V (p + 4 + 2 * e) = 0) (hm : ∀ e, e < cL (p + 3) → jnl (V (p + 4 + 2 * e)).natAbs + 1 ≤ cL (p + 4 + 2 * e + 1) ∧ jnl (V (p + 4 + 2 * e)).natAbs ≤ 240) (hb : jnl (V b).natAbs ≤ 60) : mj_Ok (D + 3) 20 [.ref 19, .ref p, .ref b, .int (jn (t : Int))] h (fun r => ∃ V2 h2, jM g n V2 X h2 ∧ dpI V p (cL (p + 3)) (V b) t (cL (p + 3)) V2 ∧ r = (.inl none, h2)) := by
  have hpp := mP_pos kp
  have c4 : cL (170 + 1) = 60 := mK_z.2.2.2.2.2.2.2.2.2.2.1
  have hb60 : jnl (V b).natAbs ≤ cL (170 + 1) := by omega
  refine mj_Ok.of (M := mj_m20) rfl rfl rfl ?_
  refine mj_T.pl rfl rfl rfl rfl ?_
  refine mT_get m 11 cq_d19 (by decide) rfl rfl ?_
  refine mj_T.pl rfl rfl rfl rfl ?_
  refine mj_T.call rfl rfl (Nat.le_of_ble_eq_true rfl) (Nat.le_of_ble_eq_true rfl) (mV_of m 12 cq_d170 (by decide) rfl (by decide) rfl _) rfl (mj_Ok.up (by omega) (mW_prepare (D := 0) m cq_d170 kb (by rw [(rfl : V b = _)]; exact hb60))) (fun v g1 hq => ?_) (fun i g1 hq => ?_)
  rotate_left
  · obtain ⟨_, _, hq⟩ := hq; cases hq
  obtain ⟨_, m2, hq⟩ := hq
  cases hq
  have m2 := m2.to (V' := (jvu V 170 (V b))) (by rw [(rfl : V b = _)]) rfl
  refine mj_T.eq (pc2 := 8) (st2 := []) ?_ rfl rfl rfl rfl
  refine mj_T.pl rfl rfl rfl rfl ?_
  refine mj_T.pl (loc' := [some (.ref 19), some (.ref p), some (.ref b), some (.int (jn ((t : Nat) : Int))), some (.int (jn 0)), none, none]) rfl rfl rfl rfl ?_
  refine mD_dp_out kp kb ht hdp hX hz hm hb dp 0 (by omega) _ _ _ _ m2 ⟨fun e he => ?_, jvu_at _ _ _, fun y y1 y2 y3 => jvu_ne _ _ _ y2⟩
  rw [jvu_ne _ _ _ (by omega), if_neg (by omega)]
end MDP
/-! The row of Sturm: what a whole elimination gives, and how great determinants are. -/
/-- eliminations from the top shift down -/
def er (F B : pz_P) (db gap : Nat) : Nat → pz_P
  | 0 => F
  | k + 1 => elw (er F B db gap k) B db (gap - k)
theorem elw_top {F B : pz_P} {db s : Nat} (hB : ∀ i, db < i → B i = 0) (hF : ∀ i, db + s < i → F i = 0) : (∀ i, elw F B db s i = B db * F i - F (db + s) * pz_sh s B i) ∧ ∀ i, db + s ≤ i → elw F B db s i = 0 := by
  have h1 : ∀ i, elw F B db s i = B db * F i - F (db + s) * pz_sh s B i := fun i => by
    unfold elw pz_sh
    by_cases c : i ≤ db + s
    · rw [if_pos c]
    · rw [if_neg c, hF i (by omega), if_neg (by omega), hB (i - s) (by omega), Int.mul_zero, Int.mul_zero]
      rfl
  refine ⟨h1, fun i hi => ?_⟩
  rw [h1]
  by_cases c : i = db + s
  · rw [c]
    unfold pz_sh
    rw [if_neg (by omega), Nat.add_sub_cancel, Int.mul_comm]
    exact Int.sub_self _
  · unfold pz_sh
    rw [hF i (by omega), if_neg (by omega), hB (i - s) (by omega), Int.mul_zero, Int.mul_zero]
    rfl
theorem er_top {F B : pz_P} {db gap : Nat} (hB : ∀ i, db < i → B i = 0) (hF : ∀ i, db + gap < i → F i = 0) : ∀ k, k ≤ gap + 1 → ∀ i, db + gap + 1 - k ≤ i → er F B db gap k i = 0
  | 0, _, i, hi => hF i (by omega)
  | k + 1, hk, i, hi => (elw_top hB (fun i hi => er_top hB hF k (by omega) i (by omega))).2 i (by omega)
theorem er_dp {F B : pz_P} {db gap : Nat} (hB : ∀ i, db < i → B i = 0) (hF : ∀ i, db + gap < i → F i = 0) {a b : Nat} (ha : 1 ≤ a) (hab : a + gap ≤ b) (c : Nat) : ∀ k, k ≤ gap + 1 → ∀ x, dp (a + b - 1) c (srow a b (er F B db gap k) B) x = ((B db) ^ k) ^ a * dp (a + b - 1) c (srow a b F B) x
  | 0, _, x => by
    show dp (a + b - 1) c (srow a b F B) x = ((B db) ^ 0) ^ a * _
    rw [Int.pow_zero, Int.one_pow, Int.one_mul]
  | k + 1, hk, x => by
    have h1 := dp_elim (a := a) (b := b) (s := gap - k) (c := c) (A := er F B db gap k) (B := B) (P := er F B db gap (k + 1)) (l := B db) (t := er F B db gap k (db + (gap - k))) ha (by omega) (elw_top hB (fun i hi => er_top hB hF k (by omega) i (by omega))).1 x
    rw [h1, er_dp hB hF ha hab c k (by omega) x, ← Int.mul_assoc, ← Int.mul_pow, Int.pow_succ, Int.mul_comm (B db)]
/-- after all of them -/
theorem er_SE {F B : pz_P} {db dx : Nat} (hd : db ≤ dx) (hB : ∀ i, db < i → B i = 0) (hF : ∀ i, dx < i → F i = 0) : SE F B (er F B db (dx - db) (dx - db + 1)) dx db := fun a b c ha hab x => er_dp hB (fun i hi => hF i (by omega)) ha hab c _ (Nat.le_refl _) x
theorem er_low {F B : pz_P} {db dx : Nat} (hd : db ≤ dx) (hB : ∀ i, db < i → B i = 0) (hF : ∀ i, dx < i → F i = 0) : ∀ i, db ≤ i → er F B db (dx - db) (dx - db + 1) i = 0 := fun i hi => er_top hB (fun i hi => hF i (by omega)) _ (Nat.le_refl _) i (by omega)
theorem er_abs {F B : pz_P} {db gap al be : Nat} (hF : ∀ e, (F e).natAbs ≤ al) (hB : ∀ e, (B e).natAbs ≤ be) (h1 : 1 ≤ be) : ∀ k e, (er F B db gap k e).natAbs ≤ al * (2 * be) ^ k
  | 0, e => by
    show (F e).natAbs ≤ al * 1
    rw [Nat.mul_one]
    exact hF e
  | k + 1, e => by
    have h2 := elw_abs (F := er F B db gap k) (B := B) (db := db) (s := gap - k) (er_abs hF hB h1 k) hB h1 e
    refine Nat.le_trans h2 (Nat.le_of_eq ?_)
    rw [Nat.pow_succ]
    ac_rfl
/-- how great a determinant is -/
def fct : Nat → Nat
  | 0 => 1
  | n + 1 => (n + 1) * fct n
theorem dp_abs {M : Nat} : ∀ (k c : Nat) (L : Nat → pz_P), (∀ r, r ≤ k → ∀ i, (L r i).natAbs ≤ M) → ∀ x, (dp k c L x).natAbs ≤ fct (k + 1) * M ^ (k + 1)
  | 0, c, L, h, x => by
    have := h 0 (Nat.le_refl 0) x
    show (L 0 x).natAbs ≤ 1 * 1 * M ^ 1
    rw [Nat.pow_one]
    omega
  | k + 1, c, L, h, x => by
    show (zs (k + 2) _).natAbs ≤ _
    have h1 := zs_abs (f := fun i => sgn i * L i c * dp k (c - 1) (rsk1 i L) x) (M := M * (fct (k + 1) * M ^ (k + 1))) (k + 2) (fun i hi => by
      show (sgn i * L i c * dp k (c - 1) (rsk1 i L) x).natAbs ≤ _
      rw [Int.natAbs_mul, Int.natAbs_mul]
      have s1 : (sgn i).natAbs = 1 := by
        rcases sgn_sq i with q | q <;> rw [q] <;> rfl
      rw [s1, Nat.one_mul]
      refine Nat.mul_le_mul (h i (by omega) c) (dp_abs k (c - 1) (rsk1 i L) (fun r hr j => ?_) x)
      unfold rsk1
      split
      · exact h r (by omega) j
      · exact h (r + 1) (by omega) j)
    refine Nat.le_trans h1 (Nat.le_of_eq ?_)
    show (k + 2) * (M * (fct (k + 1) * M ^ (k + 1))) = (k + 2) * fct (k + 1) * M ^ (k + 2)
    rw [Nat.pow_succ M (k + 1)]
    ac_rfl
theorem srow_abs {A B : pz_P} {M a b : Nat} (hA : ∀ i, (A i).natAbs ≤ M) (hB : ∀ i, (B i).natAbs ≤ M) (r i : Nat) : (srow a b A B r i).natAbs ≤ M := by
  unfold srow pz_sh
  split
  · show (if i < a - 1 - r then 0 else A (i - (a - 1 - r))).natAbs ≤ M
    split
    · exact Nat.zero_le _
    · exact hA _
  · show (if i < a + b - 1 - r then 0 else B (i - (a + b - 1 - r))).natAbs ≤ M
    split
    · exact Nat.zero_le _
    · exact hB _
theorem SB_abs {A B : pz_P} {M a b n : Nat} (hab : 1 ≤ a + b) (hA : ∀ i, (A i).natAbs ≤ M) (hB : ∀ i, (B i).natAbs ≤ M) (x : Nat) : (SB a b n A B x).natAbs ≤ fct (a + b) * M ^ (a + b) := by
  have h := dp_abs (a + b - 1) (b + n - 1) (srow a b A B) (fun r _ i => srow_abs hA hB r i) x
  rw [show a + b - 1 + 1 = a + b by omega] at h
  exact h
/-! The row of Sturm: one step of it, with its divisions exact. -/
/-- two neighbours of the row of A (degree m) and B (degree n): X of degree dx, Y of degree dy; la and ps divide what comes next -/
def RI (A B : pz_P) (m n : Nat) (X Y : pz_P) (dx dy : Nat) (la ps : Int) : Prop := (∀ i, dx < i → X i = 0) ∧ (∀ i, dy < i → Y i = 0) ∧ Y dy ≠ 0 ∧ dy ≤ dx ∧ (dy = dx → ps = 1) ∧ 0 < la ∧ 0 < ps ∧ SI A B m n X Y dx dy la ps
theorem RI.start {A B : pz_P} {m n : Nat} (hA : ∀ i, m < i → A i = 0) (hB : ∀ i, n < i → B i = 0) (hn : B n ≠ 0) (hmn : n ≤ m) : RI A B m n A B m n 1 1 := ⟨hA, hB, hn, hmn, fun _ => rfl, by decide, by decide, SI.start A B m n⟩
/-- what is left of X by Y, divided -/
def rdv (X Y : pz_P) (dx dy : Nat) (la ps : Int) : pz_P := fun i => itd (itd (er X Y dy (dx - dy) (dx - dy + 1) i) la 1) ps (dx - dy)
theorem itd_neg (x d : Int) : ∀ t, itd (-x) d t = -itd x d t
  | 0 => rfl
  | t + 1 => by
    show (itd (-x) d t).tdiv d = -((itd x d t).tdiv d)
    rw [itd_neg x d t, Int.neg_tdiv]
theorem RI.div {A B X Y : pz_P} {m n dx dy : Nat} {la ps : Int} (r : RI A B m n X Y dx dy la ps) (h1 : 1 ≤ dy) : pm (rdv X Y dx dy la ps) (SB (n - (dy - 1)) (m - (dy - 1)) n A B) ∧ pm (er X Y dy (dx - dy) (dx - dy + 1)) (pz_sc (la * ps ^ (dx - dy)) (SB (n - (dy - 1)) (m - (dy - 1)) n A B)) := by
  obtain ⟨r1, r2, r3, r4, r5, r6, r7, r8⟩ := r
  have e := r8.exact r4 h1 r2 r3 (er_SE r4 r2 r1) (er_low r4 r2 r1)
  refine ⟨?_, e⟩
  have val : ∀ s : Int, itd (itd (la * ps ^ (dx - dy) * s) la 1) ps (dx - dy) = s := fun s => by
    have q1 : itd (la * ps ^ (dx - dy) * s) la 1 = ps ^ (dx - dy) * s := by
      have := itd_mul (d := la) (by omega) (ps ^ (dx - dy) * s) 1
      rw [Int.pow_one, ← Int.mul_assoc] at this
      exact this
    rw [q1]
    exact itd_mul (by omega) s _
  rcases e with e | e
  · refine Or.inl fun i => ?_
    unfold rdv
    rw [e i]
    exact val _
  · refine Or.inr fun i => ?_
    unfold rdv
    rw [e i, itd_neg, itd_neg]
    exact congrArg Neg.neg (val _)
/-- the number that is known next -/
def nxk (Y : pz_P) (dx dy : Nat) (ps : Int) : Int := if dx = dy then ps else itd (((Y dy).natAbs : Int) ^ (dx - dy)) ps (dx - dy - 1)
theorem RI.known {A B X Y : pz_P} {m n dx dy : Nat} {la ps : Int} (r : RI A B m n X Y dx dy la ps) (hd : dy < dx) : nxk Y dx dy ps = ((SB (n - dy) (m - dy) n A B dy).natAbs : Int) ∧ ((Y dy).natAbs : Int) ^ (dx - dy) = ps ^ (dx - dy - 1) * nxk Y dx dy ps ∧ 0 < nxk Y dx dy ps := by
  obtain ⟨r1, r2, r3, r4, r5, r6, r7, r8⟩ := r
  have k := r8.known hd r2
  have k2 : ((Y dy).natAbs : Int) ^ (dx - dy) = ps ^ (dx - dy - 1) * ((SB (n - dy) (m - dy) n A B dy).natAbs : Int) := by
    have := congrArg (fun t : Nat => (t : Int)) k
    rw [Int.natCast_pow, Int.natCast_mul, Int.natCast_pow, show ((ps.natAbs : Nat) : Int) = ps by omega] at this
    exact this
  have e : nxk Y dx dy ps = ((SB (n - dy) (m - dy) n A B dy).natAbs : Int) := by
    unfold nxk
    rw [if_neg (by omega), k2]
    exact itd_mul (by omega) _ _
  refine ⟨e, by rw [e]; exact k2, ?_⟩
  rw [e]
  rcases Nat.eq_zero_or_pos (SB (n - dy) (m - dy) n A B dy).natAbs with z | z
  · rw [z] at k2
    have : ((Y dy).natAbs : Int) ^ (dx - dy) ≠ 0 := Int.pow_ne_zero (by omega)
    rw [k2] at this
    exact absurd (Int.mul_zero _) this
  · omega
/-- the next two neighbours -/
theorem RI.next {A B X Y F : pz_P} {m n dx dy rr : Nat} {la ps : Int} (r : RI A B m n X Y dx dy la ps) (h1 : 1 ≤ dy) (hF : pm F (rdv X Y dx dy la ps)) (hr : rr < dy) (hz : ∀ i, rr < i → F i = 0) (hn : F rr ≠ 0) : RI A B m n Y F dy rr ((Y dy).natAbs : Int) (nxk Y dx dy ps) := by
  have r0 := r
  obtain ⟨r1, r2, r3, r4, r5, r6, r7, r8⟩ := r
  obtain ⟨d1, d2⟩ := r0.div h1
  have hpos : 0 < nxk Y dx dy ps := by
    by_cases c : dx = dy
    · unfold nxk
      rw [if_pos c]
      exact r7
    · exact (r0.known (by omega)).2.2
  have hRz : ∀ i, rr < i → er X Y dy (dx - dy) (dx - dy + 1) i = 0 := fun i hi => by
    have f1 := hz i hi
    have f2 : rdv X Y dx dy la ps i = 0 := by
      rcases hF with q | q
      · rw [← q i]
        exact f1
      · have := q i
        omega
    have f3 : SB (n - (dy - 1)) (m - (dy - 1)) n A B i = 0 := by
      rcases d1 with q | q
      · rw [← q i]
        exact f2
      · have := q i
        omega
    rcases d2 with q | q
    · rw [q i]
      show _ * SB _ _ _ _ _ i = 0
      rw [f3, Int.mul_zero]
    · rw [q i]
      show -(_ * SB _ _ _ _ _ i) = 0
      rw [f3, Int.mul_zero]
      rfl
  have hRF : pm (er X Y dy (dx - dy) (dx - dy + 1)) (pz_sc (la * ps ^ (dx - dy)) F) := d2.tr ((d1.sy.tr hF.sy).sc _)
  refine ⟨r2, hz, hn, by omega, fun e => by omega, by omega, hpos, ?_⟩
  refine SI.step r8 r4 hr r2 r3 (er_SE r4 r2 r1) hRz hRF (by omega) (by omega) rfl ?_
  by_cases c : dx = dy
  · refine Or.inl ⟨c, r5 c.symm, ?_⟩
    unfold nxk
    rw [if_pos c]
    exact r5 c.symm
  · exact Or.inr ⟨by omega, (r0.known (by omega)).2.1⟩
/-! The row of Sturm ends in what divides both, up to a factor. -/
/-- G divides x, with fractions -/
def qdv (G x : pz_P) : Prop := ∃ (c : Int) (T : pz_P) (N : Nat), c ≠ 0 ∧ pz_lt T N ∧ pz_sc c x = pz_mul T G
theorem er_rel {F B : pz_P} {db gap : Nat} (hB : ∀ i, db < i → B i = 0) (hF : ∀ i, db + gap < i → F i = 0) : ∀ k, k ≤ gap + 1 → ∃ Q : pz_P, pz_lt Q (gap + 1) ∧ pz_sc ((B db) ^ k) F = pz_add (pz_mul Q B) (er F B db gap k)
  | 0, _ => ⟨pz_0, fun _ _ => rfl, by
    rw [Int.pow_zero, pz_sc_one, pz_mul_0L]
    funext i
    show F i = 0 + F i
    omega⟩
  | k + 1, hk => by
    obtain ⟨Q, hQl, hQ⟩ := er_rel hB hF k (by omega)
    have e := (elw_top (F := er F B db gap k) (db := db) (s := gap - k) hB (fun i hi => er_top hB hF k (by omega) i (by omega))).1
    refine ⟨pz_add (pz_sc (B db) Q) (pz_mono (gap - k) (er F B db gap k (db + (gap - k)))), ?_, ?_⟩
    · refine pz_lt.add (hQl.sc _) (fun i hi => ?_)
      unfold pz_mono
      rw [if_neg (by omega)]
    rw [Int.pow_succ, Int.mul_comm]
    refine jdv_next (lc := B db) (m := gap - k) (t := er F B db gap k (db + (gap - k))) hQ rfl ?_
    funext i
    show elw (er F B db gap k) B db (gap - k) i = B db * er F B db gap k i + -1 * pz_c i (pz_mono (gap - k) (er F B db gap k (db + (gap - k)))) B
    rw [e i, pz_mono_mul]
    unfold pz_sh
    by_cases c : i < gap - k
    · rw [if_pos c, if_neg (by omega), Int.mul_zero, Int.mul_zero]
      omega
    · rw [if_neg c, if_pos (by omega)]
      omega
theorem qdv.add {G x y : pz_P} (h : qdv G x) (k : qdv G y) : qdv G (pz_add x y) := by
  obtain ⟨c, T, N, hc, hT, h⟩ := h
  obtain ⟨d, S, K, hd, hS, k⟩ := k
  refine ⟨c * d, pz_add (pz_sc d T) (pz_sc c S), N + K, Int.mul_ne_zero hc hd, pz_lt.add ((hT.sc d).mono (by omega)) ((hS.sc c).mono (by omega)), ?_⟩
  rw [pz_mul_addL, pz_mul_scL, pz_mul_scL, ← h, ← k]
  funext i
  show c * d * (x i + y i) = d * (c * x i) + c * (d * y i)
  rw [Int.mul_add]
  have e1 : c * d * x i = d * (c * x i) := by ac_rfl
  have e2 : c * d * y i = c * (d * y i) := by ac_rfl
  rw [e1, e2]
theorem qdv.sc {G x : pz_P} (h : qdv G x) (a : Int) : qdv G (pz_sc a x) := by
  obtain ⟨c, T, N, hc, hT, h⟩ := h
  refine ⟨c, pz_sc a T, N, hc, hT.sc a, ?_⟩
  rw [pz_mul_scL, ← h, pz_sc_sc, pz_sc_sc, Int.mul_comm]
theorem qdv.un {G x : pz_P} {a : Int} (ha : a ≠ 0) (h : qdv G (pz_sc a x)) : qdv G x := by
  obtain ⟨c, T, N, hc, hT, h⟩ := h
  exact ⟨c * a, T, N, Int.mul_ne_zero hc ha, hT, by rw [← pz_sc_sc]; exact h⟩
theorem qdv.mul {G x Q : pz_P} {K : Nat} (h : qdv G x) (hQ : pz_lt Q K) : qdv G (pz_mul Q x) := by
  obtain ⟨c, T, N, hc, hT, h⟩ := h
  refine ⟨c, pz_mul Q T, K + N, hc, pz_lt.mul hQ hT (by omega), ?_⟩
  rw [pz_mul_assoc, ← h, pz_mul_scR]
theorem qdv.pm {G x y : pz_P} (h : qdv G x) (p : pm x y) : qdv G y := by
  rcases p with p | p
  · rw [← funext p]
    exact h
  · have : y = pz_sc (-1) x := funext fun i => by
      show y i = -1 * x i
      rw [p i]
      omega
    rw [this]
    exact h.sc _
/-- X and Y have the same common divisors as A and B -/
def CD (A B X Y : pz_P) : Prop := ∀ G : pz_P, (qdv G A ∧ qdv G B) ↔ (qdv G X ∧ qdv G Y)
theorem CD.start (A B : pz_P) : CD A B A B := fun G => Iff.rfl
theorem qdv_rem {X Y R Q G : pz_P} {c : Int} {K : Nat} (hc : c ≠ 0) (hQ : pz_lt Q K) (h : pz_sc c X = pz_add (pz_mul Q Y) R) (hY : qdv G Y) : qdv G X ↔ qdv G R := by
  constructor
  · intro hX
    have e : R = pz_add (pz_sc c X) (pz_sc (-1) (pz_mul Q Y)) := by
      rw [h]
      funext i
      show R i = pz_mul Q Y i + R i + -1 * pz_mul Q Y i
      omega
    rw [e]
    exact (hX.sc c).add ((hY.mul hQ).sc _)
  · intro hR
    refine qdv.un hc ?_
    rw [h]
    exact (hY.mul hQ).add hR
/-- one step of the row -/
theorem CD.next {A B X Y F : pz_P} {m n dx dy : Nat} {la ps : Int} (r : RI A B m n X Y dx dy la ps) (h1 : 1 ≤ dy) (hF : pm F (rdv X Y dx dy la ps)) (k : CD A B X Y) : CD A B Y F := fun G => by
  obtain ⟨d1, d2⟩ := r.div h1
  obtain ⟨r1, r2, r3, r4, r5, r6, r7, r8⟩ := r
  have hRF : pm (er X Y dy (dx - dy) (dx - dy + 1)) (pz_sc (la * ps ^ (dx - dy)) F) := d2.tr ((d1.sy.tr hF.sy).sc _)
  have hl : la * ps ^ (dx - dy) ≠ 0 := Int.mul_ne_zero (by omega) (Int.pow_ne_zero (by omega))
  obtain ⟨Q, hQl, hQ⟩ := er_rel (F := X) (B := Y) (db := dy) (gap := dx - dy) r2 (fun i hi => r1 i (by omega)) (dx - dy + 1) (Nat.le_refl _)
  have hc : (Y dy) ^ (dx - dy + 1) ≠ 0 := Int.pow_ne_zero r3
  rw [k G]
  constructor
  · rintro ⟨hX, hY⟩
    exact ⟨hY, qdv.un hl ((((qdv_rem hc hQl hQ hY).mp hX)).pm hRF)⟩
  · rintro ⟨hY, hFF⟩
    exact ⟨(qdv_rem hc hQl hQ hY).mpr ((hFF.sc _).pm hRF.sy), hY⟩
theorem pz_one_mul (G : pz_P) : pz_mul pz_one G = G := funext fun i => by
  show pz_c i pz_one G = G i
  rw [pz_c_zs, zs_one (p := 0) (by omega) (fun j hj hn => by
    show (if j = 0 then (1 : Int) else 0) * _ = 0
    rw [if_neg hn, Int.zero_mul])]
  show 1 * G (i - 0) = G i
  rw [Int.one_mul, Nat.sub_zero]
theorem qdv.rf (G : pz_P) : qdv G G := ⟨1, pz_one, 1, by decide, fun i hi => if_neg (by omega), by
  rw [pz_sc_one, pz_one_mul]⟩
theorem qdv.z (G : pz_P) : qdv G pz_0 := ⟨1, pz_0, 0, by decide, fun _ _ => rfl, by rw [pz_mul_0L]; funext i; rfl⟩
/-- the last of the row, where nothing is left -/
theorem CD.last {A B X Y : pz_P} {m n dx dy : Nat} {la ps : Int} (r : RI A B m n X Y dx dy la ps) (h1 : 1 ≤ dy) (hz : ∀ i, rdv X Y dx dy la ps i = 0) (k : CD A B X Y) : ∀ G, (qdv G A ∧ qdv G B) ↔ qdv G Y := fun G => by
  have k2 := CD.next (F := pz_0) r h1 (Or.inl fun i => (hz i).symm) k
  rw [k2 G]
  exact ⟨fun h => h.1, fun h => ⟨h, qdv.z G⟩⟩
/-- or where it is a number -/
theorem CD.const {A B X Y : pz_P} {N : Nat} (hX : pz_lt X N) (h0 : Y 0 ≠ 0) (hz : ∀ i, 0 < i → Y i = 0) (k : CD A B X Y) : ∀ G, (qdv G A ∧ qdv G B) ↔ qdv G Y := fun G => by
  rw [k G]
  refine ⟨fun h => h.2, fun h => ⟨?_, h⟩⟩
  have hm : pz_mul X Y = pz_sc (Y 0) X := funext fun i => by
    show pz_c i X Y = Y 0 * X i
    rw [pz_c_zs, zs_one (p := i) (by omega) (fun j hj hn => by rw [hz (i - j) (by omega), Int.mul_zero]), Nat.sub_self, Int.mul_comm]
  refine qdv.un h0 ?_
  rw [← hm]
  exact h.mul hX
/-! The row of Sturm of the class: the number that is known next. -/
section MRK
variable {g h : mj_H} {n D a c : Nat} {V : Nat → Int} {X : Nat → Nat → Int}
theorem mW_setSizeOf (m : jM g n V X h) (kc : cK c = 18) (ka : cK a = 18) (hne : a ≠ c) (hm : jnl (V a).natAbs ≤ cL (c + 1)) : mj_Ok (D + 2) 88 [.ref c, .ref a] h (fun r => ∃ h2, jM g n (jvu V c (((V a).natAbs : Nat) : Int)) X h2 ∧ r = (.inl none, h2)) := by
  have hcc2 : jnl (V a).natAbs ≤ 1500 := by
    have q := (mK_w (Or.inl kc)).2.1
    omega
  refine mj_Ok.of (M := mj_m88) rfl rfl rfl ?_
  iterate 2 refine mj_T.pl rfl rfl rfl rfl ?_
  refine mj_T.call rfl rfl (Nat.le_of_ble_eq_true rfl) (Nat.le_of_ble_eq_true rfl) (mV_of m 18 kc (by decide) rfl (by decide) rfl _) rfl (mj_Ok.up (by omega) (mW_set (D := 0) m kc ka (by omega) (by rw [(rfl : V a = _)]; exact hm))) (fun v g1 hq => ?_) (fun i g1 hq => ?_)
  rotate_left
  · obtain ⟨_, _, hq⟩ := hq; cases hq
  obtain ⟨_, m2, hq⟩ := hq
  cases hq
  have m2 := m2.to (V' := (jvu V c (V a))) (by rw [(rfl : V a = _)]) rfl
  refine mj_T.eq (pc2 := 5) (st2 := []) ?_ rfl rfl rfl rfl
  iterate 2 refine mj_T.pl rfl rfl rfl rfl ?_
  refine mT_sg m2 kc rfl ?_ (hcl := by rw [(jvu_at _ _ _)]; exact hcc2)
  refine mj_T.if0 (a := (jsg ((jvu V c (V a)) c))) rfl (jsg_r _) (fun c3 => ?_) (fun c3 => ?_)
  · simp only [jc, Bool.not_eq_true', Bool.not_eq_false', decide_eq_true_eq, decide_eq_false_iff_not] at c3
    have hs1 : jsg (((V a).natAbs : Nat) : Int) = 1 := jsg_pos (by rw [jvu_at] at c3; have := mt jsg_z0.mpr c3; omega)
    refine mj_T.pl rfl rfl rfl rfl ?_
    refine mT_psg (w := (((V a).natAbs : Nat) : Int)) m2 kc (by rw [(jvu_at _ _ _)]; rfl) hs1 rfl (fun h4 m5 => ?_) (hcl := by rw [(jvu_at _ _ _)]; exact hcc2)
    exact mj_T.ret rfl rfl rfl ⟨_, m5.to (by rw [jvu_jvu]) rfl, rfl⟩
  · simp only [jc, Bool.not_eq_true', Bool.not_eq_false', decide_eq_true_eq, decide_eq_false_iff_not] at c3
    have hs0 : jsg (((V a).natAbs : Nat) : Int) = 0 := jsg_z0.mpr (by rw [jvu_at] at c3; have := jsg_z0.mp c3; omega)
    iterate 2 refine mj_T.pl rfl rfl rfl rfl ?_
    refine mT_psg (w := (((V a).natAbs : Nat) : Int)) m2 kc (by rw [(jvu_at _ _ _)]; rfl) hs0 rfl (fun h6 m7 => ?_) (hcl := by rw [(jvu_at _ _ _)]; exact hcc2)
    exact mj_T.ret rfl rfl rfl ⟨_, m7.to (by rw [jvu_jvu]) rfl, rfl⟩
theorem mR_pow {p : Nat} {L : Int} (hp : p ≤ 12) (hL : ∀ i, i ≤ p → jnl (L ^ i).natAbs ≤ 239) {Q : mj_R → Prop} (hend : ∀ (V1 : Nat → Int) (h1 : mj_H), jM g n V1 X h1 → V1 164 = L ^ p → V1 174 = L → (∀ x, x ≠ 164 → x ≠ 166 → V1 x = V x) → mj_T (D + 1) mj_m72 55 [some (.ref 172), some (.int (jn (p : Int))), some (.ref 164), some (.int (jn (p : Int)))] [] h1 Q) : ∀ k i, i + k = p → ∀ (V1 : Nat → Int) (h1 : mj_H), jM g n V1 X h1 → V1 164 = L ^ i → V1 174 = L → (∀ x, x ≠ 164 → x ≠ 166 → V1 x = V x) → mj_T (D + 1) mj_m72 18 [some (.ref 172), some (.int (jn (p : Int))), some (.ref 164), some (.int (jn (i : Int)))] [] h1 Q
  | 0, i, hi, V1, h1, m, e1, e2, e3 => by
    iterate 2 refine mj_T.pl rfl rfl rfl rfl ?_
    refine mj_T.icmp (a := ((i : Nat) : Int)) (b := ((p : Nat) : Int)) rfl ⟨by omega, by omega⟩ ⟨by omega, by omega⟩ (fun c1 => ?_) (fun c1 => ?_)
    · simp only [jc, Bool.not_eq_true', Bool.not_eq_false', decide_eq_true_eq, decide_eq_false_iff_not] at c1
      have hip : i = p := by omega
      subst hip
      exact hend V1 _ m e1 e2 e3
    · exfalso
      simp only [jc, Bool.not_eq_true', Bool.not_eq_false', decide_eq_true_eq, decide_eq_false_iff_not] at c1
      omega
  | k + 1, i, hi, V1, h1, m, e1, e2, e3 => by
    have c1 : cL (164 + 1) = 240 := mK_z.2.2.2.2.2.2.2.1
    have c2 : cL (166 + 1) = 240 := mK_z.2.2.2.2.2.2.2.2.1
    iterate 2 refine mj_T.pl rfl rfl rfl rfl ?_
    refine mj_T.icmp (a := ((i : Nat) : Int)) (b := ((p : Nat) : Int)) rfl ⟨by omega, by omega⟩ ⟨by omega, by omega⟩ (fun c1 => ?_) (fun c1 => ?_)
    · exfalso
      simp only [jc, Bool.not_eq_true', Bool.not_eq_false', decide_eq_true_eq, decide_eq_false_iff_not] at c1
      omega
    · simp only [jc, Bool.not_eq_true', Bool.not_eq_false', decide_eq_true_eq, decide_eq_false_iff_not] at c1
      refine mj_T.pl rfl rfl rfl rfl ?_
      refine mT_get m 16 cq_d172 (by decide) rfl rfl ?_
      refine mT_get m 11 cq_d19 (by decide) rfl rfl ?_
      iterate 2 refine mj_T.pl rfl rfl rfl rfl ?_
      refine mT_get m 16 cq_d172 (by decide) rfl rfl ?_
      refine mj_T.call rfl rfl (Nat.le_of_ble_eq_true rfl) (Nat.le_of_ble_eq_true rfl) (mV_of m 18 cq_d166 (by decide) rfl (by decide) rfl _) rfl (mj_Ok.up (by omega) (mW_setProduct (D := 0) m cq_d166 cq_d164 cq_d174 (by omega) (by omega) (by omega) (by rw [(rfl : V1 164 = _), (rfl : V1 174 = _)]; exact (by rw [e1, e2, ← Int.pow_succ]; exact Nat.le_trans (hL (i + 1) (by omega)) (by omega))) (hca := by rw [(rfl : V1 164 = _)]; rw [e1]; exact Nat.le_trans (hL i (by omega)) (by decide)) (hcb := by rw [(rfl : V1 174 = _)]; rw [e2]; have q := hL 1 (by omega); rw [Int.pow_one] at q; omega))) (fun v g2 hq => ?_) (fun i g2 hq => ?_)
      rotate_left
      · obtain ⟨_, _, hq⟩ := hq; cases hq
      obtain ⟨_, m3, hq⟩ := hq
      cases hq
      have m3 := m3.to (V' := (jvu V1 166 ((V1 164) * (V1 174)))) (by rw [(rfl : V1 164 = _), (rfl : V1 174 = _)]) rfl
      refine mj_T.eq (pc2 := 38) (st2 := []) ?_ rfl rfl rfl rfl
      iterate 2 refine mj_T.pl rfl rfl rfl rfl ?_
      refine mT_get m3 16 cq_d172 (by decide) rfl rfl ?_
      refine mT_get m3 11 cq_d19 (by decide) rfl rfl ?_
      refine mj_T.call rfl rfl (Nat.le_of_ble_eq_true rfl) (Nat.le_of_ble_eq_true rfl) (mV_of m3 18 cq_d164 (by decide) rfl (by decide) rfl _) rfl (mj_Ok.up (by omega) (mW_set (D := 0) m3 cq_d164 cq_d166 (by omega) (by rw [(jvu_at _ _ _)]; exact (by rw [e1, e2, ← Int.pow_succ]; exact Nat.le_trans (hL (i + 1) (by omega)) (by omega))))) (fun v g4 hq => ?_) (fun i g4 hq => ?_)
      rotate_left
      · obtain ⟨_, _, hq⟩ := hq; cases hq
      obtain ⟨_, m5, hq⟩ := hq
      cases hq
      have m5 := m5.to (V' := (jvu (jvu V1 166 ((V1 164) * (V1 174))) 164 ((V1 164) * (V1 174)))) (by rw [(jvu_at _ _ _)]) rfl
      refine mj_T.eq (pc2 := 49) (st2 := []) ?_ rfl rfl rfl rfl
      refine mj_T.iinc rfl rfl ?_
      rw [show ((i : Nat) : Int) + 1 = ((i + 1 : Nat) : Int) by omega]
      refine mj_T.eq (loc2 := [some (.ref 172), some (.int (jn ((p : Nat) : Int))), some (.ref 164), some (.int (jn (((i + 1) : Nat) : Int)))]) ?_ rfl rfl rfl rfl
      refine mj_T.pl rfl rfl rfl rfl ?_
      refine mR_pow hp hL hend k (i + 1) (by omega) _ _ m5 ?_ ?_ (fun x x1 x2 => ?_)
      · rw [(jvu_at _ _ _), e1, e2, Int.pow_succ]
      · rw [((jvu_ne _ _ _ (by omega)).trans ((jvu_ne _ _ _ (by omega)).trans (rfl : V1 174 = _)))]
        exact e2
      · rw [((jvu_ne _ _ _ (by omega)).trans ((jvu_ne _ _ _ (by omega)).trans (rfl : V1 x = _)))]
        exact e3 x x1 x2
theorem mR_itd {p : Nat} {P K : Int} (hp : p ≤ 12) (hP : jnl P.natAbs ≤ 239) (hK : jnl K.natAbs ≤ 60) {Q : mj_R → Prop} (hend : ∀ (V1 : Nat → Int) (h1 : mj_H), jM g n V1 X h1 → V1 164 = itd P K (p - 1) → (∀ x, x ≠ 164 → x ≠ 166 → x ≠ 170 → V1 x = V x) → mj_T (D + 2) mj_m72 111 [some (.ref 172), some (.int (jn (p : Int))), some (.ref 164), some (.int (jn (p : Int)))] [] h1 Q) : ∀ k i, 1 ≤ i → i + k = p → ∀ (V1 : Nat → Int) (h1 : mj_H), jM g n V1 X h1 → V1 164 = itd P K (i - 1) → V1 170 = K → (∀ x, x ≠ 164 → x ≠ 166 → x ≠ 170 → V1 x = V x) → mj_T (D + 2) mj_m72 71 [some (.ref 172), some (.int (jn (p : Int))), some (.ref 164), some (.int (jn (i : Int)))] [] h1 Q
  | 0, i, h0, hi, V1, h1, m, e1, e2, e3 => by
    iterate 2 refine mj_T.pl rfl rfl rfl rfl ?_
    refine mj_T.icmp (a := ((i : Nat) : Int)) (b := ((p : Nat) : Int)) rfl ⟨by omega, by omega⟩ ⟨by omega, by omega⟩ (fun c1 => ?_) (fun c1 => ?_)
    · simp only [jc, Bool.not_eq_true', Bool.not_eq_false', decide_eq_true_eq, decide_eq_false_iff_not] at c1
      have hip : i = p := by omega
      subst hip
      exact hend V1 _ m e1 e3
    · exfalso
      simp only [jc, Bool.not_eq_true', Bool.not_eq_false', decide_eq_true_eq, decide_eq_false_iff_not] at c1
      omega
  | k + 1, i, h0, hi, V1, h1, m, e1, e2, e3 => by
    have c1 : cL (164 + 1) = 240 := mK_z.2.2.2.2.2.2.2.1
    have c2 : cL (166 + 1) = 240 := mK_z.2.2.2.2.2.2.2.2.1
    have hle := jnl_mono (itd_le P K (i - 1))
    iterate 2 refine mj_T.pl rfl rfl rfl rfl ?_
    refine mj_T.icmp (a := ((i : Nat) : Int)) (b := ((p : Nat) : Int)) rfl ⟨by omega, by omega⟩ ⟨by omega, by omega⟩ (fun c1 => ?_) (fun c1 => ?_)
    · exfalso
      simp only [jc, Bool.not_eq_true', Bool.not_eq_false', decide_eq_true_eq, decide_eq_false_iff_not] at c1
      omega
    · simp only [jc, Bool.not_eq_true', Bool.not_eq_false', decide_eq_true_eq, decide_eq_false_iff_not] at c1
      refine mj_T.pl rfl rfl rfl rfl ?_
      refine mT_get m 16 cq_d172 (by decide) rfl rfl ?_
      refine mT_get m 11 cq_d19 (by decide) rfl rfl ?_
      iterate 2 refine mj_T.pl rfl rfl rfl rfl ?_
      refine mT_get m 16 cq_d172 (by decide) rfl rfl ?_
      refine mT_get m 11 cq_d19 (by decide) rfl rfl ?_
      refine mj_T.call rfl rfl (Nat.le_of_ble_eq_true rfl) (Nat.le_of_ble_eq_true rfl) (mV_of m 12 cq_d170 (by decide) rfl (by decide) rfl _) rfl (mj_Ok.up (by omega) (mW_split (D := 0) m cq_d170 cq_d164 cq_d166 (by omega) (by rw [(rfl : V1 164 = _), (rfl : V1 170 = _)]; exact (by rw [e1]; exact jfa_one (by omega))) (by rw [(rfl : V1 164 = _), (rfl : V1 170 = _)]; exact (by rw [e1]; exact Nat.le_trans (jnl_tdiv (Nat.le_refl _)) (by omega))) (hcc := by rw [(rfl : V1 170 = _)]; rw [e2]; omega))) (fun v g2 hq => ?_) (fun i g2 hq => ?_)
      rotate_left
      · obtain ⟨_, _, hq⟩ := hq; cases hq
      obtain ⟨_, m3, hq⟩ := hq
      cases hq
      have m3 := m3.to (V' := (jvu (jvu V1 164 ((V1 164).tmod (V1 170))) 166 ((V1 164).tdiv (V1 170)))) (by rw [(rfl : V1 164 = _), (rfl : V1 170 = _)]) rfl
      refine mj_T.eq (pc2 := 94) (st2 := []) ?_ rfl rfl rfl rfl
      iterate 2 refine mj_T.pl rfl rfl rfl rfl ?_
      refine mT_get m3 16 cq_d172 (by decide) rfl rfl ?_
      refine mT_get m3 11 cq_d19 (by decide) rfl rfl ?_
      refine mj_T.call rfl rfl (Nat.le_of_ble_eq_true rfl) (Nat.le_of_ble_eq_true rfl) (mV_of m3 18 cq_d164 (by decide) rfl (by decide) rfl _) rfl (mj_Ok.up (by omega) (mW_set (D := 0) m3 cq_d164 cq_d166 (by omega) (by rw [(jvu_at _ _ _)]; exact (by rw [e1]; exact Nat.le_trans (jnl_tdiv (Nat.le_refl _)) (by omega))))) (fun v g4 hq => ?_) (fun i g4 hq => ?_)
      rotate_left
      · obtain ⟨_, _, hq⟩ := hq; cases hq
      obtain ⟨_, m5, hq⟩ := hq
      cases hq
      have m5 := m5.to (V' := (jvu (jvu (jvu V1 164 ((V1 164).tmod (V1 170))) 166 ((V1 164).tdiv (V1 170))) 164 ((V1 164).tdiv (V1 170)))) (by rw [(jvu_at _ _ _)]) rfl
      refine mj_T.eq (pc2 := 105) (st2 := []) ?_ rfl rfl rfl rfl
      refine mj_T.iinc rfl rfl ?_
      rw [show ((i : Nat) : Int) + 1 = ((i + 1 : Nat) : Int) by omega]
      refine mj_T.eq (loc2 := [some (.ref 172), some (.int (jn ((p : Nat) : Int))), some (.ref 164), some (.int (jn (((i + 1) : Nat) : Int)))]) ?_ rfl rfl rfl rfl
      refine mj_T.pl rfl rfl rfl rfl ?_
      refine mR_itd hp hP hK hend k (i + 1) (by omega) (by omega) _ _ m5 ?_ ?_ (fun x x1 x2 x3 => ?_)
      · rw [(jvu_at _ _ _), e1, e2, show i + 1 - 1 = i - 1 + 1 by omega]
        rfl
      · rw [((jvu_ne _ _ _ (by omega)).trans ((jvu_ne _ _ _ (by omega)).trans ((jvu_ne _ _ _ (by omega)).trans (rfl : V1 170 = _))))]
        exact e2
      · rw [((jvu_ne _ _ _ (by omega)).trans ((jvu_ne _ _ _ (by omega)).trans ((jvu_ne _ _ _ (by omega)).trans (rfl : V1 x = _))))]
        exact e3 x x1 x2 x3
theorem mR_renew (m : jM g n V X h) {p : Nat} (hp1 : 1 ≤ p) (hp : p ≤ 12) (hL : ∀ i, i ≤ p → jnl (V 174 ^ i).natAbs ≤ 239) (hk : jnl (V 176).natAbs ≤ 60) (hl : jnl (V 174).natAbs ≤ 240) (hk2 : jnl (itd (V 174 ^ p) (V 176) (p - 1)).natAbs ≤ cL (176 + 1)) : mj_Ok (D + 3) 72 [.ref 172, .int (jn (p : Int))] h (fun r => ∃ V2 h2, jM g n V2 X h2 ∧ V2 176 = itd (V 174 ^ p) (V 176) (p - 1) ∧ (∀ x, x ≠ 164 → x ≠ 166 → x ≠ 170 → x ≠ 176 → V2 x = V x) ∧ r = (.inl none, h2)) := by
  have c1 : cL (164 + 1) = 240 := mK_z.2.2.2.2.2.2.2.1
  have c4 : cL (170 + 1) = 60 := mK_z.2.2.2.2.2.2.2.2.2.2.1
  refine mj_Ok.of (M := mj_m72) rfl rfl rfl ?_
  refine mj_T.pl rfl rfl rfl rfl ?_
  refine mT_get m 16 cq_d172 (by decide) rfl rfl ?_
  refine mT_get m 11 cq_d19 (by decide) rfl rfl ?_
  refine mj_T.pl (loc' := [some (.ref 172), some (.int (jn ((p : Nat) : Int))), some (.ref 164), none]) rfl rfl rfl rfl ?_
  iterate 2 refine mj_T.pl rfl rfl rfl rfl ?_
  refine mT_get m 16 cq_d172 (by decide) rfl rfl ?_
  refine mj_T.call rfl rfl (Nat.le_of_ble_eq_true rfl) (Nat.le_of_ble_eq_true rfl) (mV_of m 18 cq_d164 (by decide) rfl (by decide) rfl _) rfl (mj_Ok.up (by omega) (mW_set (D := 0) m cq_d164 cq_d174 (by omega) (by rw [(rfl : V 174 = _)]; exact (by omega)))) (fun v g1 hq => ?_) (fun i g1 hq => ?_)
  rotate_left
  · obtain ⟨_, _, hq⟩ := hq; cases hq
  obtain ⟨_, m2, hq⟩ := hq
  cases hq
  have m2 := m2.to (V' := (jvu V 164 (V 174))) (by rw [(rfl : V 174 = _)]) rfl
  refine mj_T.eq (pc2 := 16) (st2 := []) ?_ rfl rfl rfl rfl
  refine mj_T.pl rfl rfl rfl rfl ?_
  refine mj_T.pl (loc' := [some (.ref 172), some (.int (jn ((p : Nat) : Int))), some (.ref 164), some (.int (jn 1))]) rfl rfl rfl rfl ?_
  refine mR_pow (V := V) (L := V 174) hp hL (fun V2 h2 m2 e1 e2 e3 => ?_) (p - 1) 1 (by omega) _ _ m2 ((jvu_at _ _ _).trans (Int.pow_one _).symm) (jvu_ne _ _ _ (by decide)) (fun x x1 x2 => jvu_ne _ _ _ x1)
  refine mj_T.pl rfl rfl rfl rfl ?_
  refine mT_get m2 16 cq_d172 (by decide) rfl rfl ?_
  refine mT_get m2 11 cq_d19 (by decide) rfl rfl ?_
  refine mj_T.pl rfl rfl rfl rfl ?_
  refine mT_get m2 16 cq_d172 (by decide) rfl rfl ?_
  refine mj_T.call rfl rfl (Nat.le_of_ble_eq_true rfl) (Nat.le_of_ble_eq_true rfl) (mV_of m2 12 cq_d170 (by decide) rfl (by decide) rfl _) rfl (mj_Ok.up (by omega) (mW_prepare (D := 0) m2 cq_d170 cq_d176 (by rw [(rfl : V2 176 = _)]; exact (by rw [e3 176 (by decide) (by decide)]; omega)))) (fun v g51 hq => ?_) (fun i g51 hq => ?_)
  rotate_left
  · obtain ⟨_, _, hq⟩ := hq; cases hq
  obtain ⟨_, m52, hq⟩ := hq
  cases hq
  have m52 := m52.to (V' := (jvu V2 170 (V2 176))) (by rw [(rfl : V2 176 = _)]) rfl
  refine mj_T.eq (pc2 := 69) (st2 := []) ?_ rfl rfl rfl rfl
  refine mj_T.pl rfl rfl rfl rfl ?_
  refine mj_T.pl (loc' := [some (.ref 172), some (.int (jn ((p : Nat) : Int))), some (.ref 164), some (.int (jn 1))]) rfl rfl rfl rfl ?_
  refine mR_itd (V := V) (P := V 174 ^ p) (K := V2 176) hp (hL p (Nat.le_refl p)) (by rw [e3 176 (by decide) (by decide)]; exact hk) (fun V4 h4 m4 f1 f3 => ?_) (p - 1) 1 (by omega) (by omega) _ _ m52 ((jvu_ne _ _ _ (by decide)).trans e1) (jvu_at _ _ _) (fun x x1 x2 x3 => (jvu_ne _ _ _ x3).trans (e3 x x1 x2))
  refine mj_T.pl rfl rfl rfl rfl ?_
  refine mT_get m4 16 cq_d172 (by decide) rfl rfl ?_
  refine mj_T.pl rfl rfl rfl rfl ?_
  refine mj_T.call rfl rfl (Nat.le_of_ble_eq_true rfl) (Nat.le_of_ble_eq_true rfl) (mV_of m4 18 cq_d176 (by decide) rfl (by decide) rfl _) rfl (mj_Ok.up (by omega) (mW_set (D := 0) m4 cq_d176 cq_d164 (by omega) (by rw [(rfl : V4 164 = _)]; exact (by rw [f1]; exact Nat.le_trans (jnl_mono (by rw [e3 176 (by decide) (by decide)]; exact Nat.le_refl _)) hk2)))) (fun v g91 hq => ?_) (fun i g91 hq => ?_)
  rotate_left
  · obtain ⟨_, _, hq⟩ := hq; cases hq
  obtain ⟨_, m92, hq⟩ := hq
  cases hq
  have m92 := m92.to (V' := (jvu V4 176 (V4 164))) (by rw [(rfl : V4 164 = _)]) rfl
  refine mj_T.eq (pc2 := 119) (st2 := []) ?_ rfl rfl rfl rfl
  refine mj_T.ret rfl rfl rfl ⟨_, _, m92, ?_, fun x x1 x2 x3 x4 => ?_, rfl⟩
  · rw [jvu_at, f1, e3 176 (by decide) (by decide)]
  · rw [jvu_ne _ _ _ x4]
    exact f3 x x1 x2 x3
end MRK
/-! The row of Sturm of the class: the derivative; the last of the row. -/
theorem cq_d180 : cK 180 = 13 := by decide +kernel
theorem cq_d210 : cK 210 = 13 := by decide +kernel
/-- the derivative -/
def drv (A : pz_P) : pz_P := fun e => A (e + 1) * ((e + 1 : Nat) : Int)
/-- so much of it -/
def drw (A : pz_P) (j : Nat) : pz_P := fun e => if e < j then drv A e else 0
theorem drw_0 (A : pz_P) : drw A 0 = fun _ => 0 := funext fun e => if_neg (by omega)
theorem drw_put (A : pz_P) (j : Nat) : jvu (drw A j) j (drv A j) = drw A (j + 1) := funext fun e => by
  simp only [jvu, drw]
  by_cases c : e = j
  · rw [if_pos c, if_pos (by omega), c]
  · rw [if_neg c]
    by_cases d : e < j
    · rw [if_pos d, if_pos (by omega)]
    · rw [if_neg d, if_neg (by omega)]
section MPU
variable {g h : mj_H} {n D : Nat} {V : Nat → Int} {X : Nat → Nat → Int}
theorem mR_der_loop {d : Nat} (hd : X 180 2 = (d : Int) - 1) (hd13 : d ≤ 13) (hA : sml (pcs V 180)) {Q : mj_R → Prop} (hend : ∀ h, jM g n (pfl V 210 (drw (pcs V 180) (d - 1)) 13) (xup X 210 2 (-1)) h → mj_T (D + 1) mj_m69 64 [some (.ref 172), some (.ref 210), some (.int (jn (((d - 1) + 1 : Nat) : Int)))] [] h Q) : ∀ k j, j + k = d - 1 → ∀ h, jM g n (pfl V 210 (drw (pcs V 180) j) 13) (xup X 210 2 (-1)) h → mj_T (D + 1) mj_m69 13 [some (.ref 172), some (.ref 210), some (.int (jn ((j + 1 : Nat) : Int)))] [] h Q
  | 0, j, hj, h, m => by
    have l173 : cL 173 = 14 := mK_r.2.2.2.1
    have p210 : cL (210 + 3) = 13 := (mK_r.2.2.2.2.2.1 1 (by decide)).2
    have p180 : cL (180 + 3) = 13 := (mK_r.2.2.2.2.2.1 0 (by decide)).2
    iterate 2 refine mj_T.pl rfl rfl rfl rfl ?_
    refine mT_get m 16 cq_d172 (by decide) rfl rfl ?_
    refine mj_T.pl rfl rfl rfl rfl ?_
    refine mT_aald m 5 cq_d173 (by decide) rfl rfl (by omega) ⟨by omega, by omega⟩ ?_
    refine mj_T.eq (st2 := [.ref 180, .int (jn (((j + 1) : Nat) : Int))]) ?_ rfl rfl rfl rfl
    refine mT_get (v := .int (jn ((d : Int) - 1))) m 13 cq_d180 (by decide) rfl (congrArg (fun z : Int => some (Value.int (jn z))) ((xup_ne X (-1) (Or.inl (by decide))).trans hd)) ?_
    refine mj_T.icmp (a := (((j + 1) : Nat) : Int)) (b := ((d : Int) - 1)) rfl ⟨by omega, by omega⟩ ⟨by omega, by omega⟩ (fun c1 => ?_) (fun c1 => ?_)
    · simp only [jc, Bool.not_eq_true', Bool.not_eq_false', decide_eq_true_eq, decide_eq_false_iff_not] at c1
      have hj : j = d - 1 := by omega
      subst hj
      exact hend _ m
    · exfalso
      simp only [jc, Bool.not_eq_true', Bool.not_eq_false', decide_eq_true_eq, decide_eq_false_iff_not] at c1
      omega
  | k + 1, j, hj, h, m => by
    have l173 : cL 173 = 14 := mK_r.2.2.2.1
    have p210 : cL (210 + 3) = 13 := (mK_r.2.2.2.2.2.1 1 (by decide)).2
    have p180 : cL (180 + 3) = 13 := (mK_r.2.2.2.2.2.1 0 (by decide)).2
    have hc : cL (210 + 4 + 2 * j + 1) = 30 - 2 * j := mK_z.2.2.2.2.2.2.1 1 (by decide) j (by show j < 13; omega)
    have hrd : pfl V 210 (drw (pcs V 180) j) 13 (180 + 4 + 2 * (j + 1)) = V (180 + 4 + 2 * (j + 1)) := pfl_off _ _ _ (by omega)
    have hs := hA (j + 1) (by omega)
    rw [pcs_in (by omega)] at hs
    have hj2 := jnl_two.mpr hs
    have hdv : drv (pcs V 180) j = V (180 + 4 + 2 * (j + 1)) * ((j + 1 : Nat) : Int) := by
      unfold drv
      rw [pcs_in (by omega)]
    have hj3 : jnl (drv (pcs V 180) j).natAbs ≤ 3 := by
      rw [hdv, jnl_le_lt, Int.natAbs_mul, Int.natAbs_natCast]
      have h12 : (V (180 + 4 + 2 * (j + 1))).natAbs * (j + 1) ≤ 999999999999999999 * 13 := Nat.mul_le_mul hs (by omega)
      exact Nat.lt_of_le_of_lt h12 (by decide +kernel)
    iterate 2 refine mj_T.pl rfl rfl rfl rfl ?_
    refine mT_get m 16 cq_d172 (by decide) rfl rfl ?_
    refine mj_T.pl rfl rfl rfl rfl ?_
    refine mT_aald m 5 cq_d173 (by decide) rfl rfl (by omega) ⟨by omega, by omega⟩ ?_
    refine mj_T.eq (st2 := [.ref 180, .int (jn (((j + 1) : Nat) : Int))]) ?_ rfl rfl rfl rfl
    refine mT_get (v := .int (jn ((d : Int) - 1))) m 13 cq_d180 (by decide) rfl (congrArg (fun z : Int => some (Value.int (jn z))) ((xup_ne X (-1) (Or.inl (by decide))).trans hd)) ?_
    refine mj_T.icmp (a := (((j + 1) : Nat) : Int)) (b := ((d : Int) - 1)) rfl ⟨by omega, by omega⟩ ⟨by omega, by omega⟩ (fun c1 => ?_) (fun c1 => ?_)
    · exfalso
      simp only [jc, Bool.not_eq_true', Bool.not_eq_false', decide_eq_true_eq, decide_eq_false_iff_not] at c1
      omega
    · simp only [jc, Bool.not_eq_true', Bool.not_eq_false', decide_eq_true_eq, decide_eq_false_iff_not] at c1
      iterate 3 refine mj_T.pl rfl rfl rfl rfl ?_
      refine mj_T.isub (a := (((j + 1) : Nat) : Int)) (b := 1) rfl ?_
      rw [show (((j + 1) : Nat) : Int) - 1 = (j : Int) by omega]
      refine mj_T.call rfl rfl (Nat.le_of_ble_eq_true rfl) (Nat.le_of_ble_eq_true rfl) (mV_of m 13 cq_d210 (by decide) rfl (by decide) rfl _) rfl (mj_Ok.up (by omega) (mP_at (D := 0) m cq_d210 (e := j) (by omega))) (fun v g2 hq => ?_) (fun i g2 hq => ?_)
      rotate_left
      · cases hq
      cases hq
      refine mj_T.eq (pc2 := 33) (st2 := [.ref (210 + 4 + 2 * j)]) ?_ rfl rfl rfl rfl
      refine mj_T.pl rfl rfl rfl rfl ?_
      refine mT_get m 16 cq_d172 (by decide) rfl rfl ?_
      refine mj_T.pl rfl rfl rfl rfl ?_
      refine mT_aald m 5 cq_d173 (by decide) rfl rfl (by omega) ⟨by omega, by omega⟩ ?_
      refine mj_T.eq (st2 := [.ref 180, .ref (210 + 4 + 2 * j)]) ?_ rfl rfl rfl rfl
      refine mj_T.pl rfl rfl rfl rfl ?_
      refine mj_T.call rfl rfl (Nat.le_of_ble_eq_true rfl) (Nat.le_of_ble_eq_true rfl) (mV_of m 13 cq_d180 (by decide) rfl (by decide) rfl _) rfl (mj_Ok.up (by omega) (mP_at (D := 0) m cq_d180 (e := (j + 1)) (by omega))) (fun v g3 hq => ?_) (fun i g3 hq => ?_)
      rotate_left
      · cases hq
      cases hq
      refine mj_T.eq (pc2 := 43) (st2 := [.ref (180 + 4 + 2 * (j + 1)), .ref (210 + 4 + 2 * j)]) ?_ rfl rfl rfl rfl
      refine mj_T.call rfl rfl (Nat.le_of_ble_eq_true rfl) (Nat.le_of_ble_eq_true rfl) (mV_of m 18 ((mK_p cq_d210).2.2.2 j (by omega)) (by decide) rfl (by decide) rfl _) rfl (mj_Ok.up (by omega) (mW_set (D := 0) m ((mK_p cq_d210).2.2.2 j (by omega)) ((mK_p cq_d180).2.2.2 _ (by omega)) (by omega) (by rw [hrd]; omega))) (fun v g4 hq => ?_) (fun i g4 hq => ?_)
      rotate_left
      · obtain ⟨_, _, hq⟩ := hq; cases hq
      obtain ⟨_, m5, hq⟩ := hq
      cases hq
      rw [hrd] at m5
      refine mj_T.eq (pc2 := 46) (st2 := []) ?_ rfl rfl rfl rfl
      iterate 3 refine mj_T.pl rfl rfl rfl rfl ?_
      refine mj_T.isub (a := (((j + 1) : Nat) : Int)) (b := 1) rfl ?_
      rw [show (((j + 1) : Nat) : Int) - 1 = (j : Int) by omega]
      refine mj_T.call rfl rfl (Nat.le_of_ble_eq_true rfl) (Nat.le_of_ble_eq_true rfl) (mV_of m5 13 cq_d210 (by decide) rfl (by decide) rfl _) rfl (mj_Ok.up (by omega) (mP_at (D := 0) m5 cq_d210 (e := j) (by omega))) (fun v g6 hq => ?_) (fun i g6 hq => ?_)
      rotate_left
      · cases hq
      cases hq
      refine mj_T.eq (pc2 := 53) (st2 := [.ref (210 + 4 + 2 * j)]) ?_ rfl rfl rfl rfl
      refine mj_T.pl rfl rfl rfl rfl ?_
      refine mj_T.i2l rfl ⟨by omega, by omega⟩ ?_
      refine mj_T.call rfl rfl (Nat.le_of_ble_eq_true rfl) (Nat.le_of_ble_eq_true rfl) (mV_of m5 18 ((mK_p cq_d210).2.2.2 j (by omega)) (by decide) rfl (by decide) rfl _) rfl (mj_Ok.up (by omega) (mW_scale (D := 0) (f := j + 1) m5 ((mK_p cq_d210).2.2.2 j (by omega)) (by omega) (by omega) (by rw [jvu_at, ← hdv]; omega))) (fun v g7 hq => ?_) (fun i g7 hq => ?_)
      rotate_left
      · obtain ⟨_, _, hq⟩ := hq; cases hq
      obtain ⟨_, m8, hq⟩ := hq
      cases hq
      rw [jvu_at, jvu_jvu, ← hdv, pfl_upd (by omega), drw_put] at m8
      refine mj_T.eq (pc2 := 58) (st2 := []) ?_ rfl rfl rfl rfl
      refine mj_T.iinc rfl rfl ?_
      rw [show (((j + 1) : Nat) : Int) + 1 = (((j + 1) + 1 : Nat) : Int) by omega]
      refine mj_T.eq (loc2 := [some (.ref 172), some (.ref 210), some (.int (jn ((((j + 1) + 1) : Nat) : Int)))]) ?_ rfl rfl rfl rfl
      refine mj_T.pl rfl rfl rfl rfl ?_
      exact mR_der_loop hd hd13 hA hend k (j + 1) (by omega) _ m8
theorem mR_der (m : jM g n V X h) {d : Nat} (hd : X 180 2 = (d : Int) - 1) (hd13 : d ≤ 13) (hA : sml (pcs V 180)) (hz : ∀ i, d ≤ i → pcs V 180 i = 0) : mj_Ok (D + 3) 69 [.ref 172] h (fun r => ∃ h2, jM g n (pfl V 210 (drv (pcs V 180)) 13) (xup X 210 2 ((fdg (drv (pcs V 180)) 13 : Int) - 1)) h2 ∧ r = (.inl none, h2)) := by
  have l173 : cL 173 = 14 := mK_r.2.2.2.1
  have p210 : cL (210 + 3) = 13 := (mK_r.2.2.2.2.2.1 1 (by decide)).2
  have hfull : drw (pcs V 180) (d - 1) = drv (pcs V 180) := funext fun e => by
    unfold drw
    split
    · rfl
    · show 0 = pcs V 180 (e + 1) * ((e + 1 : Nat) : Int)
      rw [hz (e + 1) (by omega), Int.zero_mul]
  have hcl0 : ∀ i, i < 13 → jnl (drw (pcs V 180) (d - 1) i).natAbs ≤ 1500 := fun i hi => by
    rw [hfull]
    show jnl (pcs V 180 (i + 1) * ((i + 1 : Nat) : Int)).natAbs ≤ 1500
    have q1 : (pcs V 180 (i + 1)).natAbs ≤ 999999999999999999 := by
      by_cases c : i + 1 < 13
      · exact hA _ c
      · rw [hz _ (by omega)]
        decide
    have q2 : jnl (pcs V 180 (i + 1) * ((i + 1 : Nat) : Int)).natAbs ≤ 3 := by
      rw [jnl_le_lt, Int.natAbs_mul, Int.natAbs_natCast]
      exact Nat.lt_of_le_of_lt (Nat.mul_le_mul q1 (show i + 1 ≤ 13 by omega)) (by decide +kernel)
    omega
  refine mj_Ok.of (M := mj_m69) rfl rfl rfl ?_
  refine mj_T.pl rfl rfl rfl rfl ?_
  refine mT_get m 16 cq_d172 (by decide) rfl rfl ?_
  refine mj_T.pl rfl rfl rfl rfl ?_
  refine mT_aald m 5 cq_d173 (by decide) rfl rfl (by omega) ⟨by omega, by omega⟩ ?_
  refine mj_T.eq (st2 := [.ref 210]) ?_ rfl rfl rfl rfl
  refine mj_T.pl (loc' := [some (.ref 172), some (.ref 210), none]) rfl rfl rfl rfl ?_
  refine mj_T.pl rfl rfl rfl rfl ?_
  refine mj_T.call rfl rfl (Nat.le_of_ble_eq_true rfl) (Nat.le_of_ble_eq_true rfl) (mV_of m 13 cq_d210 (by decide) rfl (by decide) rfl _) rfl (mj_Ok.up (by omega) (mP_clear (D := 0) m cq_d210)) (fun v g1 hq => ?_) (fun i g1 hq => ?_)
  rotate_left
  · obtain ⟨_, _, hq⟩ := hq; cases hq
  obtain ⟨_, m2, hq⟩ := hq
  cases hq
  rw [p210, ← drw_0 (pcs V 180)] at m2
  refine mj_T.eq (pc2 := 11) (st2 := []) ?_ rfl rfl rfl rfl
  refine mj_T.pl rfl rfl rfl rfl ?_
  refine mj_T.pl (loc' := [some (.ref 172), some (.ref 210), some (.int (jn 1))]) rfl rfl rfl rfl ?_
  refine mR_der_loop (D := D + 1) hd hd13 hA (fun h1 m1 => ?_) (d - 1) 0 (by omega) _ m2
  refine mj_T.pl rfl rfl rfl rfl ?_
  refine mj_T.call rfl rfl (Nat.le_of_ble_eq_true rfl) (Nat.le_of_ble_eq_true rfl) (mV_of m1 13 cq_d210 (by decide) rfl (by decide) rfl _) rfl (mj_Ok.up (by omega) (mP_settle (D := 0) m1 cq_d210 (pcl_pfl (Nat.le_of_eq p210) hcl0))) (fun v g61 hq => ?_) (fun i g61 hq => ?_)
  rotate_left
  · obtain ⟨_, _, hq⟩ := hq; cases hq
  obtain ⟨_, m62, hq⟩ := hq
  cases hq
  rw [p210, xup_xup, fdg_congr _ (fun i hi => pco_pfl i hi)] at m62
  refine mj_T.eq (pc2 := 68) (st2 := []) ?_ rfl rfl rfl rfl
  rw [hfull] at m62
  exact mj_T.ret rfl rfl rfl ⟨_, m62, rfl⟩
end MPU
/-! The row of Sturm of the class: all eliminations of one step. -/
theorem elw_ext {F F' B B' : pz_P} {db s : Nat} (hs : db + s < 13) (hF : ∀ e, e < 13 → F' e = F e) (hB : ∀ e, e ≤ db → B' e = B e) : ∀ e, e < 13 → elw F' B' db s e = elw F B db s e := fun e he => by
  unfold elw
  rw [hB db (Nat.le_refl db), hF e he, hF (db + s) hs]
  by_cases c : e ≤ db + s
  · rw [if_pos c, if_pos c]
    by_cases d : e < s
    · rw [if_pos d, if_pos d]
    · rw [if_neg d, if_neg d, hB (e - s) (by omega)]
  · rw [if_neg c, if_neg c]
section MMN
variable {g h : mj_H} {n D p q r : Nat} {V : Nat → Int} {X : Nat → Nat → Int}
theorem mR_el {gap dy al be : Nat} {F : pz_P} (kp : cK p = 13) (kq : cK q = 13) (kr : cK r = 13) (hq : q ≠ 80) (hdy : X q 2 = (dy : Int)) (hdq : dy < cL (q + 3)) (hg : dy + gap < 13) (hF : ∀ e, (F e).natAbs ≤ al) (hB : ∀ e, (pcs V q e).natAbs ≤ be) (hbe : 1 ≤ be) (hfit : al * (2 * be) ^ (gap + 1) < jB ^ 235) (hbc : be < jB ^ 1500) {Q : mj_R → Prop} (hend : ∀ (V1 : Nat → Int) (h1 : mj_H), jM g n V1 X h1 → (∀ e, e < 13 → V1 (80 + 4 + 2 * e) = er F (pcs V q) dy gap (gap + 1) e) → (∀ x, x ≠ 164 → x ≠ 166 → (x < 80 + 4 ∨ 80 + 4 + 2 * 13 ≤ x) → V1 x = V x) → mj_T (D + 3) mj_m71 54 [some (.ref 172), some (.ref p), some (.ref q), some (.ref r), some (.int (jn (gap : Int))), some (.int (jn ((((0 : Nat) : Int) : Int) - 1)))] [] h1 Q) : ∀ (u k : Nat), k + u = gap + 1 → ∀ (V1 : Nat → Int) (h1 : mj_H), jM g n V1 X h1 → (∀ e, e < 13 → V1 (80 + 4 + 2 * e) = er F (pcs V q) dy gap k e) → (∀ x, x ≠ 164 → x ≠ 166 → (x < 80 + 4 ∨ 80 + 4 + 2 * 13 ≤ x) → V1 x = V x) → mj_T (D + 3) mj_m71 26 [some (.ref 172), some (.ref p), some (.ref q), some (.ref r), some (.int (jn (gap : Int))), some (.int (jn ((u : Int) - 1)))] [] h1 Q
  | 0, k, hk, V1, h1, m, e1, e2 => by
    refine mj_T.pl rfl rfl rfl rfl ?_
    refine mj_T.if0 (a := (((0 : Nat) : Int) - 1)) rfl ⟨by omega, by omega⟩ (fun c1 => ?_) (fun c1 => ?_)
    · simp only [jc, Bool.not_eq_true', Bool.not_eq_false', decide_eq_true_eq, decide_eq_false_iff_not] at c1
      have hk : k = gap + 1 := by omega
      subst hk
      exact hend V1 _ m e1 e2
    · exfalso
      simp only [jc, Bool.not_eq_true', Bool.not_eq_false', decide_eq_true_eq, decide_eq_false_iff_not] at c1
      omega
  | u + 1, k, hk, V1, h1, m, e1, e2 => by
    have hfq := mP_far kq cq_d80 hq
    have h83 : cL (80 + 3) = 13 := mK_z.2.2.1
    have hpq0 := mP_pos kq
    rw [h83] at hfq
    rw [show ((u + 1 : Nat) : Int) - 1 = (u : Int) by omega]
    have hF1 : ∀ e, e < 13 → (V1 (80 + 4 + 2 * e)).natAbs ≤ al * (2 * be) ^ k := fun e he => by
      rw [e1 e he]
      exact er_abs hF hB hbe k e
    have hpq : ∀ e, e ≤ dy → pco V1 q e = pcs V q e := fun e he => by
      rw [pcs_in (by omega)]
      exact e2 _ (by omega) (by omega) (by omega)
    have hB1 : ∀ e, e < cL (q + 3) → (V1 (q + 4 + 2 * e)).natAbs ≤ be := fun e he => by
      rw [e2 _ (by omega) (by omega) (by omega), ← pcs_in (V := V) he]
      exact hB e
    have hft : 2 * (al * (2 * be) ^ k * be) < jB ^ 236 := by
      have h1 : 2 * (al * (2 * be) ^ k * be) = al * (2 * be) ^ (k + 1) := by
        rw [Nat.pow_succ]
        ac_rfl
      have h2 : al * (2 * be) ^ (k + 1) ≤ al * (2 * be) ^ (gap + 1) := Nat.mul_le_mul_left _ (Nat.pow_le_pow_right (by omega) (by omega))
      have h3 : jB ^ 235 ≤ jB ^ 236 := Nat.pow_le_pow_right (by decide) (by decide)
      omega
    have hfc : al * (2 * be) ^ k < jB ^ 236 := by
      have h4 := Nat.le_mul_of_pos_right (al * (2 * be) ^ k) (show 0 < be by omega)
      omega
    refine mj_T.pl rfl rfl rfl rfl ?_
    refine mj_T.if0 (a := ((u : Nat) : Int)) rfl ⟨by omega, by omega⟩ (fun c1 => ?_) (fun c1 => ?_)
    · exfalso
      simp only [jc, Bool.not_eq_true', Bool.not_eq_false', decide_eq_true_eq, decide_eq_false_iff_not] at c1
      omega
    · simp only [jc, Bool.not_eq_true', Bool.not_eq_false', decide_eq_true_eq, decide_eq_false_iff_not] at c1
      refine mj_T.pl rfl rfl rfl rfl ?_
      refine mT_get m 16 cq_d172 (by decide) rfl rfl ?_
      refine mj_T.pl rfl rfl rfl rfl ?_
      refine mT_get m 16 cq_d172 (by decide) rfl rfl ?_
      refine mT_get m 11 cq_d19 (by decide) rfl rfl ?_
      iterate 2 refine mj_T.pl rfl rfl rfl rfl ?_
      refine mj_T.call rfl rfl (Nat.le_of_ble_eq_true rfl) (Nat.le_of_ble_eq_true rfl) (mV_of m 11 cq_d19 (by decide) rfl (by decide) rfl _) rfl (mj_Ok.up (by omega) (mD_elim (D := 0) (db := dy) (s := u) (al := al * (2 * be) ^ k) (be := be) m kq hq hdy hdq (by omega) hF1 hB1 hft (jB_15 (m := 236) hfc (by decide)) hbc)) (fun v g2 hq => ?_) (fun i g2 hq => ?_)
      rotate_left
      · obtain ⟨_, _, _, _, hq⟩ := hq; cases hq
      obtain ⟨z1, z2, _, m3, hq⟩ := hq
      cases hq
      refine mj_T.eq (pc2 := 48) (st2 := []) ?_ rfl rfl rfl rfl
      refine mj_T.iinc rfl rfl ?_
      refine mj_T.eq (loc2 := [some (.ref 172), some (.ref p), some (.ref q), some (.ref r), some (.int (jn ((gap : Nat) : Int))), some (.int (jn (((u : Nat) : Int) + (-1))))]) ?_ rfl rfl rfl rfl
      refine mj_T.pl rfl rfl rfl rfl ?_
      rw [show (((u : Nat) : Int) + (-1)) = (u : Int) - 1 by omega]
      refine mR_el kp kq kr hq hdy hdq hg hF hB hbe hfit hbc hend u (k + 1) (by omega) _ _ m3 (fun e he => ?_) (fun x x1 x2 x3 => ?_)
      · rw [pfl_at _ _ _ he]
        show _ = elw (er F (pcs V q) dy gap k) (pcs V q) dy (gap - k) e
        rw [show gap - k = u by omega]
        exact elw_ext (by omega) e1 hpq e he
      · rw [lk_off (by omega) x1 x2]
        exact e2 x x1 x2 x3
end MMN
/-! The row of Sturm of the class: the next of the row. -/
section MNX
variable {g h : mj_H} {n D p q r : Nat} {V : Nat → Int} {X : Nat → Nat → Int}
theorem mR_tail {gap dy : Nat} {w : Nat → Int} {V5 : Nat → Int} {X5 : Nat → Nat → Int} {hh5 : mj_H} {l5 : Option Value} (m : jM g n V5 X5 hh5) (kp : cK p = 13) (kq : cK q = 13) (kr : cK r = 13) (hq : 180 ≤ q) (hr : 180 ≤ r) (hqr : q ≠ r) (hdy5 : X5 q 2 = (dy : Int)) (hdq : dy < cL (q + 3)) (hg : dy + gap < 13) (h176 : jnl (V 176).natAbs ≤ 60) (hlq : ∀ i, i ≤ gap → jnl ((((pcs V q dy).natAbs : Nat) : Int) ^ i).natAbs ≤ 239) (hl60 : jnl (pcs V q dy).natAbs ≤ 60) (hk60 : jnl (itd ((((pcs V q dy).natAbs : Nat) : Int) ^ gap) (V 176) (gap - 1)).natAbs ≤ 60) (hw : (∀ e, e < cL (r + 3) → V5 (r + 4 + 2 * e) = w e)) (h5 : (∀ x, (x < 80 + 4 ∨ 80 + 4 + 2 * 13 ≤ x) → x ≠ 164 → x ≠ 166 → x ≠ 170 → (x < r + 4 ∨ r + 4 + 2 * cL (r + 3) ≤ x) → V5 x = V x)) : mj_T (D + 4) mj_m71 135 [some (.ref 172), some (.ref p), some (.ref q), some (.ref r), some (.int (jn (gap : Int))), l5] [] hh5 (fun z => ∃ V2 h2, jM g n V2 X5 h2 ∧ (∀ e, e < cL (r + 3) → V2 (r + 4 + 2 * e) = w e) ∧ V2 174 = (((pcs V q dy).natAbs : Nat) : Int) ∧ V2 176 = nxk (pcs V q) (dy + gap) dy (V 176) ∧ (∀ x, (x < 80 + 4 ∨ 80 + 4 + 2 * 13 ≤ x) → x ≠ 164 → x ≠ 166 → x ≠ 170 → x ≠ 174 → x ≠ 176 → (x < r + 4 ∨ r + 4 + 2 * cL (r + 3) ≤ x) → V2 x = V x) ∧ z = (.inl none, h2)) := by
  have c6 : cL (174 + 1) = 60 := mK_z.2.2.2.2.2.2.2.2.2.2.2.1
  have c7 : cL (176 + 1) = 60 := mK_z.2.2.2.2.2.2.2.2.2.2.2.2.1
  have hfq := mP_far kq kr hqr
  have hpq := mP_pos kq
  have hpr := mP_pos kr
  have hq5 : V5 (q + 4 + 2 * dy) = pcs V q dy := by
    rw [pcs_in hdq]
    exact h5 _ (by omega) (by omega) (by omega) (by omega) (by omega)
  have e176 : V5 176 = V 176 := h5 176 (by omega) (by decide) (by decide) (by decide) (by omega)
  refine mj_T.pl rfl rfl rfl rfl ?_
  refine mT_get m 16 cq_d172 (by decide) rfl rfl ?_
  refine mj_T.pl rfl rfl rfl rfl ?_
  refine mj_T.call rfl rfl (Nat.le_of_ble_eq_true rfl) (Nat.le_of_ble_eq_true rfl) (mV_of m 13 kq (by decide) rfl (by decide) rfl _) rfl (mj_Ok.up (by omega) (mP_lead (D := 0) m kq hdy5 hdq)) (fun v g1 hq => ?_) (fun i g1 hq => ?_)
  rotate_left
  · cases hq
  cases hq
  refine mj_T.eq (pc2 := 143) (st2 := [.ref (q + 4 + 2 * dy), .ref 174]) ?_ rfl rfl rfl rfl
  refine mj_T.call rfl rfl (Nat.le_of_ble_eq_true rfl) (Nat.le_of_ble_eq_true rfl) (mV_of m 18 cq_d174 (by decide) rfl (by decide) rfl _) rfl (mj_Ok.up (by omega) (mW_setSizeOf (D := 0) m cq_d174 ((mK_p kq).2.2.2 dy hdq) (by omega) (by rw [hq5]; omega))) (fun v g2 hq => ?_) (fun i g2 hq => ?_)
  rotate_left
  · obtain ⟨_, _, hq⟩ := hq; cases hq
  obtain ⟨_, m3, hq⟩ := hq
  cases hq
  rw [hq5] at m3
  refine mj_T.eq (pc2 := 146) (st2 := []) ?_ rfl rfl rfl rfl
  refine mj_T.pl rfl rfl rfl rfl ?_
  refine mj_T.if0 (a := ((gap : Nat) : Int)) rfl ⟨by omega, by omega⟩ (fun c4 => ?_) (fun c4 => ?_)
  · simp only [jc, Bool.not_eq_true', Bool.not_eq_false', decide_eq_true_eq, decide_eq_false_iff_not] at c4
    refine mj_T.ret rfl rfl rfl ⟨_, _, m3, fun e he => ?_, jvu_at _ _ _, ?_, fun x x1 x2 x3 x4 x5 x6 x7 => ?_, rfl⟩
    · rw [jvu_ne _ _ _ (by omega)]
      exact hw e he
    · rw [jvu_ne _ _ _ (by decide), e176]
      unfold nxk
      rw [if_pos (by omega)]
    · rw [jvu_ne _ _ _ x5]
      exact h5 x x1 x2 x3 x4 x7
  · simp only [jc, Bool.not_eq_true', Bool.not_eq_false', decide_eq_true_eq, decide_eq_false_iff_not] at c4
    iterate 2 refine mj_T.pl rfl rfl rfl rfl ?_
    refine mj_T.call rfl rfl (Nat.le_of_ble_eq_true rfl) (Nat.le_of_ble_eq_true rfl) (mV_of m3 16 cq_d172 (by decide) rfl (by decide) rfl _) rfl (mj_Ok.up (by omega) (mR_renew (D := D) (p := gap) m3 (by omega) (by omega) (by rw [jvu_at]; exact hlq) (by rw [jvu_ne _ _ _ (by decide), e176]; exact h176) (by rw [jvu_at, Int.natAbs_natCast]; omega) (by rw [jvu_at, jvu_ne _ _ _ (by decide), e176, c7]; exact hk60))) (fun v g5 hq => ?_) (fun i g5 hq => ?_)
    rotate_left
    · obtain ⟨_, _, _, _, _, hq⟩ := hq; cases hq
    obtain ⟨V6, _, m6, f1, f2, hq⟩ := hq
    cases hq
    refine mj_T.eq (pc2 := 157) (st2 := []) ?_ rfl rfl rfl rfl
    refine mj_T.ret rfl rfl rfl ⟨_, _, m6, fun e he => ?_, ?_, ?_, fun x x1 x2 x3 x4 x5 x6 x7 => ?_, rfl⟩
    · rw [f2 _ (by omega) (by omega) (by omega) (by omega), jvu_ne _ _ _ (by omega)]
      exact hw e he
    · rw [f2 _ (by decide) (by decide) (by decide) (by decide), jvu_at]
    · rw [f1, jvu_at, jvu_ne _ _ _ (by decide), e176]
      unfold nxk
      rw [if_neg (by omega), show dy + gap - dy = gap by omega]
    · rw [f2 x x2 x3 x4 x6, jvu_ne _ _ _ x5]
      exact h5 x x1 x2 x3 x4 x7
end MNX
/-! The row of Sturm of the class: makeNext as a whole. -/
theorem pls_4 : (pls.all fun p => decide (p < 180) || decide (cL (p + 3) ≤ 13)) = true := by decide +kernel
theorem mP_13 {p : Nat} (kp : cK p = 13) (h : 180 ≤ p) : cL (p + 3) ≤ 13 := by
  have h1 := jall pls_1 (cK_in (a := p) (by omega))
  simp only [kp, decide_true, Bool.not_true, Bool.false_or, decide_eq_true_eq] at h1
  have h3 := List.all_eq_true.mp pls_4 p h1
  simp only [Bool.or_eq_true, decide_eq_true_eq] at h3
  omega
theorem rdv_eq (F B : pz_P) (dy gap : Nat) (la ps : Int) (e : Nat) : rdv F B (dy + gap) dy la ps e = itd (itd (er F B dy gap (gap + 1) e) la 1) ps gap := by
  unfold rdv
  rw [Nat.add_sub_cancel_left]
section MNY
variable {g h : mj_H} {n D p q r : Nat} {V : Nat → Int} {X : Nat → Nat → Int}
theorem xup_oth {X : Nat → Nat → Int} {a i b : Nat} {v : Int} (h : b ≠ a) : xup X a i v b = X b := funext fun j => xup_ne _ _ (Or.inl h)
theorem jsg_pp {v : Int} (h : 0 < jsg v) : 0 < v := by
  unfold jsg at h
  split at h
  · omega
  · split at h <;> omega
theorem mj_T.imp {D pc : Nat} {M : mj_M} {loc : mj_L} {st : List Value} {h : mj_H} {Q Q' : mj_R → Prop} (k : mj_T D M pc loc st h Q) (hQ : ∀ r, Q r → Q' r) : mj_T D M pc loc st h Q' := by
  obtain ⟨F, r, h1, h2⟩ := k
  exact ⟨F, r, h1, hQ r h2⟩
theorem mR_next (m : jM g n V X h) {gap dy al be : Nat} (kp : cK p = 13) (kq : cK q = 13) (kr : cK r = 13) (hp : 180 ≤ p) (hq : 180 ≤ q) (hr : 180 ≤ r) (hqr : q ≠ r) (hdx : X p 2 = ((dy + gap : Nat) : Int)) (hdy : X q 2 = (dy : Int)) (hdq : dy < cL (q + 3)) (hg : dy + gap < 13) (hpz : V (p + 1) = 0) (h81 : V 81 = 0) (hF : ∀ e, (pcs V p e).natAbs ≤ al) (hB : ∀ e, (pcs V q e).natAbs ≤ be) (hbe : 1 ≤ be) (hfit : al * (2 * be) ^ (gap + 1) < jB ^ 235) (hbc : be < jB ^ 1500) (h174 : jnl (V 174).natAbs ≤ 60) (h176 : jnl (V 176).natAbs ≤ 60) (hcap : ∀ i, i < cL (r + 3) → jnl ((rdv (pcs V p) (pcs V q) (dy + gap) dy (V 174) (V 176)) i).natAbs ≤ cL (r + 4 + 2 * i + 1)) (hlq : ∀ i, i ≤ gap → jnl ((((pcs V q dy).natAbs : Nat) : Int) ^ i).natAbs ≤ 239) (hl60 : jnl (pcs V q dy).natAbs ≤ 60) (hk60 : jnl (itd ((((pcs V q dy).natAbs : Nat) : Int) ^ gap) (V 176) (gap - 1)).natAbs ≤ 60) : mj_Ok (D + 5) 71 [.ref 172, .ref p, .ref q, .ref r] h (fun z => ∃ V2 X2 h2, jM g n V2 X2 h2 ∧ ((∀ e, e < cL (r + 3) → V2 (r + 4 + 2 * e) = (rdv (pcs V p) (pcs V q) (dy + gap) dy (V 174) (V 176)) e) ∨ (∀ e, e < cL (r + 3) → V2 (r + 4 + 2 * e) = -(rdv (pcs V p) (pcs V q) (dy + gap) dy (V 174) (V 176)) e)) ∧ ((0 < pcs V q dy ∨ gap % 2 ≠ 0) → ∀ e, e < cL (r + 3) → V2 (r + 4 + 2 * e) = -(rdv (pcs V p) (pcs V q) (dy + gap) dy (V 174) (V 176)) e) ∧ (¬ (0 < pcs V q dy ∨ gap % 2 ≠ 0) → ∀ e, e < cL (r + 3) → V2 (r + 4 + 2 * e) = (rdv (pcs V p) (pcs V q) (dy + gap) dy (V 174) (V 176)) e) ∧ X2 r 2 = (fdg (rdv (pcs V p) (pcs V q) (dy + gap) dy (V 174) (V 176)) (cL (r + 3)) : Int) - 1 ∧ V2 174 = (((pcs V q dy).natAbs : Nat) : Int) ∧ V2 176 = nxk (pcs V q) (dy + gap) dy (V 176) ∧ (∀ x, (x < 80 + 4 ∨ 80 + 4 + 2 * 13 ≤ x) → x ≠ 164 → x ≠ 166 → x ≠ 170 → x ≠ 174 → x ≠ 176 → (x < r + 4 ∨ r + 4 + 2 * cL (r + 3) ≤ x) → V2 x = V x) ∧ (∀ a, a ≠ 80 → a ≠ r → X2 a = X a) ∧ (-1 ≤ X2 80 2 ∧ X2 80 2 < 13) ∧ z = (.inl none, h2)) := by
  have h83 : cL (80 + 3) = 13 := mK_z.2.2.1
  have hr13 := mP_13 kr hr
  have hpr := mP_pos kr
  have hpq := mP_pos kq
  have hal : al < jB ^ 236 := by
    have h1 : al ≤ al * (2 * be) ^ (gap + 1) := Nat.le_mul_of_pos_right _ (Nat.pow_pos (by omega))
    have h2 : jB ^ 235 ≤ jB ^ 236 := Nat.pow_le_pow_right (by decide) (by decide)
    omega
  refine mj_Ok.of (M := mj_m71) rfl rfl rfl ?_
  refine mj_T.pl rfl rfl rfl rfl ?_
  refine mT_get (v := .int (jn ((dy + gap : Nat) : Int))) m 13 kp (by decide) rfl (congrArg (fun z : Int => some (Value.int (jn z))) (hdx)) ?_
  refine mj_T.pl rfl rfl rfl rfl ?_
  refine mT_get (v := .int (jn ((dy : Nat) : Int))) m 13 kq (by decide) rfl (congrArg (fun z : Int => some (Value.int (jn z))) (hdy)) ?_
  refine mj_T.isub (a := ((dy + gap : Nat) : Int)) (b := ((dy : Nat) : Int)) rfl ?_
  refine mj_T.pl (loc' := [some (.ref 172), some (.ref p), some (.ref q), some (.ref r), some (.int (jn (((dy + gap : Nat) : Int) - ((dy : Nat) : Int)))), none]) rfl rfl rfl rfl ?_
  rw [show ((dy + gap : Nat) : Int) - ((dy : Nat) : Int) = (gap : Int) by omega]
  refine mj_T.pl rfl rfl rfl rfl ?_
  refine mT_get m 16 cq_d172 (by decide) rfl rfl ?_
  refine mT_get m 11 cq_d19 (by decide) rfl rfl ?_
  refine mj_T.pl rfl rfl rfl rfl ?_
  refine mj_T.call rfl rfl (Nat.le_of_ble_eq_true rfl) (Nat.le_of_ble_eq_true rfl) (mV_of m 13 cq_d80 (by decide) rfl (by decide) rfl _) rfl (mj_Ok.up (by omega) (mP_set (D := 0) m cq_d80 kp (by omega) hpz (fun i hi => by rw [(mK_z.2.2.2.2.1 i (by omega)).2.2]; exact jnl_B (hF i) hal))) (fun v g1 hq => ?_) (fun i g1 hq => ?_)
  rotate_left
  · obtain ⟨_, _, hq⟩ := hq; cases hq
  obtain ⟨_, m2, hq⟩ := hq
  cases hq
  rw [h83] at m2
  refine mj_T.eq (pc2 := 22) (st2 := []) ?_ rfl rfl rfl rfl
  refine mj_T.pl rfl rfl rfl rfl ?_
  refine mj_T.pl (loc' := [some (.ref 172), some (.ref p), some (.ref q), some (.ref r), some (.int (jn ((gap : Nat) : Int))), some (.int (jn ((gap : Nat) : Int)))]) rfl rfl rfl rfl ?_
  refine mj_T.eq (loc2 := [some (.ref 172), some (.ref p), some (.ref q), some (.ref r), some (.int (jn (gap : Int))), some (.int (jn (((gap + 1 : Nat) : Int) - 1)))]) ?_ rfl (by rw [show ((gap + 1 : Nat) : Int) - 1 = (gap : Int) by omega]) rfl rfl
  refine mR_el (D := D + 1) (V := V) (F := pcs V p) kp kq kr (by omega) ((congrFun (xup_oth (by omega)) 2).trans hdy) hdq hg hF hB hbe hfit hbc (fun V1 h1 m1 e1 e2 => ?_) (gap + 1) 0 (by omega) _ _ m2 (fun e he => pfl_at _ _ _ he) (fun x x1 x2 x3 => pfl_off _ _ _ x3)
  refine mj_T.pl rfl rfl rfl rfl ?_
  refine mT_get m1 16 cq_d172 (by decide) rfl rfl ?_
  refine mT_get m1 11 cq_d19 (by decide) rfl rfl ?_
  refine mj_T.call rfl rfl (Nat.le_of_ble_eq_true rfl) (Nat.le_of_ble_eq_true rfl) (mV_of m1 13 cq_d80 (by decide) rfl (by decide) rfl _) rfl (mj_Ok.up (by omega) (mP_settle (D := 0) m1 cq_d80 (fun e he => by rw [h83] at he; rw [e1 e he]; exact Nat.le_trans (jnl_B (er_abs hF hB hbe (gap + 1) e) hfit) (by decide)))) (fun v g61 hq => ?_) (fun i g61 hq => ?_)
  rotate_left
  · obtain ⟨_, _, hq⟩ := hq; cases hq
  obtain ⟨_, m62, hq⟩ := hq
  cases hq
  rw [h83, xup_xup] at m62
  refine mj_T.eq (pc2 := 64) (st2 := []) ?_ rfl rfl rfl rfl
  refine mj_T.pl rfl rfl rfl rfl ?_
  refine mT_get m62 16 cq_d172 (by decide) rfl rfl ?_
  refine mj_T.pl rfl rfl rfl rfl ?_
  refine mT_get m62 16 cq_d172 (by decide) rfl rfl ?_
  refine mT_get m62 11 cq_d19 (by decide) rfl rfl ?_
  refine mj_T.pl rfl rfl rfl rfl ?_
  refine mT_get m62 16 cq_d172 (by decide) rfl rfl ?_
  refine mj_T.pl rfl rfl rfl rfl ?_
  have hE : ∀ e, e < 13 → jnl (V1 (80 + 4 + 2 * e)).natAbs ≤ 235 := fun e he => by
    rw [e1 e he]
    exact jnl_B (er_abs hF hB hbe (gap + 1) e) hfit
  have hdl := fdg_le (pco V1 80) 13
  have o174 : V1 174 = V 174 := e2 174 (by decide) (by decide) (by omega)
  have o176 : V1 176 = V 176 := e2 176 (by decide) (by decide) (by omega)
  refine mj_T.call rfl rfl (Nat.le_of_ble_eq_true rfl) (Nat.le_of_ble_eq_true rfl) (mV_of m62 11 cq_d19 (by decide) rfl (by decide) rfl _) rfl (mj_Ok.up (by omega) (mD_divParts (D := 0) (t := 1) (dp := fdg (pco V1 80) 13) m62 cq_d80 cq_d174 (by decide) (by rw [h83]; exact hdl) (xup_at _ _ _ _) (fun e h1 h2 => fdg_zero (pco V1 80) 13 e h1 (by rw [h83] at h2; exact h2)) (fun e he => by rw [h83] at he; rw [(mK_z.2.2.2.2.1 e he).2.2]; exact ⟨by have := hE e he; omega, by have := hE e he; omega⟩) (by rw [o174]; exact h174))) (fun v g63 hq => ?_) (fun i g63 hq => ?_)
  rotate_left
  · obtain ⟨_, _, _, _, hq⟩ := hq; cases hq
  obtain ⟨V2, _, m64, I2, hq⟩ := hq
  cases hq
  rw [h83, o174] at I2
  refine mj_T.eq (pc2 := 83) (st2 := []) ?_ rfl rfl rfl rfl
  refine mj_T.pl rfl rfl rfl rfl ?_
  refine mT_get m64 16 cq_d172 (by decide) rfl rfl ?_
  refine mj_T.pl rfl rfl rfl rfl ?_
  refine mT_get m64 16 cq_d172 (by decide) rfl rfl ?_
  refine mT_get m64 11 cq_d19 (by decide) rfl rfl ?_
  refine mj_T.pl rfl rfl rfl rfl ?_
  refine mT_get m64 16 cq_d172 (by decide) rfl rfl ?_
  refine mj_T.pl rfl rfl rfl rfl ?_
  have hV2 : ∀ e, e < 13 → V2 (80 + 4 + 2 * e) = itd (V1 (80 + 4 + 2 * e)) (V 174) 1 := fun e he => by
    rw [I2.1 e he, if_pos he]
  have p176 : V2 176 = V 176 := (I2.2.2 176 (by decide) (by decide) (by omega)).trans o176
  have hE2 : ∀ e, e < 13 → jnl (V2 (80 + 4 + 2 * e)).natAbs ≤ 235 := fun e he => by
    rw [hV2 e he]
    exact Nat.le_trans (jnl_mono (itd_le _ _ _)) (hE e he)
  refine mj_T.call rfl rfl (Nat.le_of_ble_eq_true rfl) (Nat.le_of_ble_eq_true rfl) (mV_of m64 11 cq_d19 (by decide) rfl (by decide) rfl _) rfl (mj_Ok.up (by omega) (mD_divParts (D := 0) (t := gap) (dp := fdg (pco V1 80) 13) m64 cq_d80 cq_d176 (by omega) (by rw [h83]; exact hdl) (xup_at _ _ _ _) (fun e h1 h2 => by rw [h83] at h2; rw [hV2 e h2, show V1 (80 + 4 + 2 * e) = 0 from fdg_zero (pco V1 80) 13 e h1 h2]; exact itd_zero _ 1) (fun e he => by rw [h83] at he; rw [(mK_z.2.2.2.2.1 e he).2.2]; exact ⟨by have := hE2 e he; omega, by have := hE2 e he; omega⟩) (by rw [p176]; exact h176))) (fun v g65 hq => ?_) (fun i g65 hq => ?_)
  rotate_left
  · obtain ⟨_, _, _, _, hq⟩ := hq; cases hq
  obtain ⟨V3, _, m66, I3, hq⟩ := hq
  cases hq
  rw [h83, p176] at I3
  refine mj_T.eq (pc2 := 103) (st2 := []) ?_ rfl rfl rfl rfl
  iterate 2 refine mj_T.pl rfl rfl rfl rfl ?_
  refine mT_get m66 16 cq_d172 (by decide) rfl rfl ?_
  refine mT_get m66 11 cq_d19 (by decide) rfl rfl ?_
  have hw3 : ∀ e, e < cL (r + 3) → pcs V3 80 e = (rdv (pcs V p) (pcs V q) (dy + gap) dy (V 174) (V 176)) e := fun e he => by
    rw [pcs_in (by omega), I3.1 e (by omega), if_pos (by omega), hV2 e (by omega), e1 e (by omega), rdv_eq]
  have off3 : ∀ x, (x < 80 + 4 ∨ 80 + 4 + 2 * 13 ≤ x) → x ≠ 164 → x ≠ 166 → x ≠ 170 → V3 x = V x := fun x x1 x2 x3 x4 => by
    rw [I3.2.2 x x2 x4 (by omega), I2.2.2 x x2 x4 (by omega), e2 x x2 x3 (by omega)]
  refine mj_T.call rfl rfl (Nat.le_of_ble_eq_true rfl) (Nat.le_of_ble_eq_true rfl) (mV_of m66 13 kr (by decide) rfl (by decide) rfl _) rfl (mj_Ok.up (by omega) (mP_set (D := 0) m66 kr cq_d80 (by omega) ((off3 81 (by omega) (by decide) (by decide) (by decide)).trans h81) (fun i hi => by rw [hw3 i hi]; exact hcap i hi))) (fun v g67 hq => ?_) (fun i g67 hq => ?_)
  rotate_left
  · obtain ⟨_, _, hq⟩ := hq; cases hq
  obtain ⟨_, m68, hq⟩ := hq
  cases hq
  refine mj_T.eq (pc2 := 114) (st2 := []) ?_ rfl rfl rfl rfl
  refine mj_T.pl rfl rfl rfl rfl ?_
  have hfq := mP_far kq kr hqr
  have hdy5 : (xup (xup X 80 2 ((fdg (pco V1 80) 13 : Int) - 1)) r 2 ((fdg (pcs V3 80) (cL (r + 3)) : Int) - 1)) q 2 = (dy : Int) := (congrFun (xup_oth (by omega)) 2).trans ((congrFun (xup_oth (by omega)) 2).trans hdy)
  have hv4 : (pfl V3 r (pcs V3 80) (cL (r + 3))) (q + 4 + 2 * dy) = pcs V q dy := by
    rw [pfl_off _ _ _ (by omega), off3 _ (by omega) (by omega) (by omega) (by omega), pcs_in hdq]
  have hX4 : (xup (xup X 80 2 ((fdg (pco V1 80) 13 : Int) - 1)) r 2 ((fdg (pcs V3 80) (cL (r + 3)) : Int) - 1)) r 2 = (fdg (rdv (pcs V p) (pcs V q) (dy + gap) dy (V 174) (V 176)) (cL (r + 3)) : Int) - 1 := by
    rw [xup_at, fdg_congr _ (fun i hi => hw3 i hi)]
  have h80r : -1 ≤ (xup (xup X 80 2 ((fdg (pco V1 80) 13 : Int) - 1)) r 2 ((fdg (pcs V3 80) (cL (r + 3)) : Int) - 1)) 80 2 ∧ (xup (xup X 80 2 ((fdg (pco V1 80) 13 : Int) - 1)) r 2 ((fdg (pcs V3 80) (cL (r + 3)) : Int) - 1)) 80 2 < 13 := by
    rw [xup_ne _ _ (Or.inl (by omega)), xup_at]
    omega
  have hXo : ∀ a, a ≠ 80 → a ≠ r → (xup (xup X 80 2 ((fdg (pco V1 80) 13 : Int) - 1)) r 2 ((fdg (pcs V3 80) (cL (r + 3)) : Int) - 1)) a = X a := fun a a1 a2 => (xup_oth a2).trans (xup_oth a1)
  refine mj_T.call rfl rfl (Nat.le_of_ble_eq_true rfl) (Nat.le_of_ble_eq_true rfl) (mV_of m68 13 kq (by decide) rfl (by decide) rfl _) rfl (mj_Ok.up (by omega) (mP_lead (D := 0) m68 kq hdy5 hdq)) (fun v g69 hq => ?_) (fun i g69 hq => ?_)
  rotate_left
  · cases hq
  cases hq
  refine mj_T.eq (pc2 := 118) (st2 := [.ref (q + 4 + 2 * dy)]) ?_ rfl rfl rfl rfl
  refine mT_sg m68 ((mK_p kq).2.2.2 dy hdq) rfl ?_ (hcl := by rw [hv4]; omega)
  refine mj_T.if0 (a := (jsg ((pfl V3 r (pcs V3 80) (cL (r + 3))) (q + 4 + 2 * dy)))) rfl (jsg_r _) (fun c70 => ?_) (fun c70 => ?_)
  · simp only [jc, Bool.not_eq_true', Bool.not_eq_false', decide_eq_true_eq, decide_eq_false_iff_not] at c70
    rw [hv4] at c70
    have hpos : 0 < pcs V q dy := jsg_pp c70
    refine mj_T.pl rfl rfl rfl rfl ?_
    refine mj_T.call rfl rfl (Nat.le_of_ble_eq_true rfl) (Nat.le_of_ble_eq_true rfl) (mV_of m68 13 kr (by decide) rfl (by decide) rfl _) rfl (mj_Ok.up (by omega) (mP_negate (D := 0) m68 kr (pcl_pfl (Nat.le_refl _) (fun e he => by have q1 := hcap e he; have q2 := mK_w (Or.inl ((mK_p kr).2.2.2 e he)); rw [hw3 e he]; omega)))) (fun v g71 hq => ?_) (fun i g71 hq => ?_)
    rotate_left
    · obtain ⟨_, _, hq⟩ := hq; cases hq
    obtain ⟨_, m72, hq⟩ := hq
    cases hq
    rw [pfl_pfl] at m72
    refine mj_T.eq (pc2 := 135) (st2 := []) ?_ rfl rfl rfl rfl
    have hw5 : ∀ e, e < cL (r + 3) → (pfl V3 r (fun e => -(pfl V3 r (pcs V3 80) (cL (r + 3))) (r + 4 + 2 * e)) (cL (r + 3))) (r + 4 + 2 * e) = -(rdv (pcs V p) (pcs V q) (dy + gap) dy (V 174) (V 176)) e := fun e he => by
      rw [pfl_at _ _ _ he, pfl_at _ _ _ he]
      rw [hw3 e he]
    refine mj_T.imp (mR_tail (D := D) (V := V) m72 kp kq kr hq hr hqr hdy5 hdq hg h176 hlq hl60 hk60 hw5 (fun x x1 x2 x3 x4 x5 => ?_)) (fun z hz => ?_)
    · rw [pfl_off _ _ _ x5]
      exact off3 x x1 x2 x3 x4
    · obtain ⟨V6, h6, m6, g1, g2, g3, g4, hz⟩ := hz
      exact ⟨V6, _, h6, m6, Or.inr g1, fun _ => g1, fun q => absurd (by first | (exact Or.inr hodd) | (exact Or.inl hpos)) q, hX4, g2, g3, g4, hXo, h80r, hz⟩
  · simp only [jc, Bool.not_eq_true', Bool.not_eq_false', decide_eq_true_eq, decide_eq_false_iff_not] at c70
    rw [hv4] at c70
    have hneg : ¬ 0 < pcs V q dy := fun z => c70 (by rw [jsg_pos z]; decide)
    iterate 2 refine mj_T.pl rfl rfl rfl rfl ?_
    refine mj_T.irem (a := (gap : Int)) (b := 2) rfl ⟨by omega, by omega⟩ ⟨by decide, by decide⟩ (by decide) ?_
    rw [show (gap : Int).tmod 2 = ((gap % 2 : Nat) : Int) from (Int.ofNat_tmod gap 2).symm]
    refine mj_T.if0 (a := ((gap % 2 : Nat) : Int)) rfl ⟨by omega, by omega⟩ (fun c73 => ?_) (fun c73 => ?_)
    · simp only [jc, Bool.not_eq_true', Bool.not_eq_false', decide_eq_true_eq, decide_eq_false_iff_not] at c73
      have hnot : ¬ (0 < pcs V q dy ∨ gap % 2 ≠ 0) := by omega
      have hw5 : ∀ e, e < cL (r + 3) → (pfl V3 r (pcs V3 80) (cL (r + 3))) (r + 4 + 2 * e) = (rdv (pcs V p) (pcs V q) (dy + gap) dy (V 174) (V 176)) e := fun e he => by
        rw [pfl_at _ _ _ he]
        exact hw3 e he
      refine mj_T.imp (mR_tail (D := D) (V := V) m68 kp kq kr hq hr hqr hdy5 hdq hg h176 hlq hl60 hk60 hw5 (fun x x1 x2 x3 x4 x5 => ?_)) (fun z hz => ?_)
      · rw [pfl_off _ _ _ x5]
        exact off3 x x1 x2 x3 x4
      · obtain ⟨V6, h6, m6, g1, g2, g3, g4, hz⟩ := hz
        exact ⟨V6, _, h6, m6, Or.inl g1, fun q => absurd q hnot, fun _ => g1, hX4, g2, g3, g4, hXo, h80r, hz⟩
    · simp only [jc, Bool.not_eq_true', Bool.not_eq_false', decide_eq_true_eq, decide_eq_false_iff_not] at c73
      have hodd : gap % 2 ≠ 0 := by omega
      refine mj_T.pl rfl rfl rfl rfl ?_
      refine mj_T.call rfl rfl (Nat.le_of_ble_eq_true rfl) (Nat.le_of_ble_eq_true rfl) (mV_of m68 13 kr (by decide) rfl (by decide) rfl _) rfl (mj_Ok.up (by omega) (mP_negate (D := 0) m68 kr (pcl_pfl (Nat.le_refl _) (fun e he => by have q1 := hcap e he; have q2 := mK_w (Or.inl ((mK_p kr).2.2.2 e he)); rw [hw3 e he]; omega)))) (fun v g74 hq => ?_) (fun i g74 hq => ?_)
      rotate_left
      · obtain ⟨_, _, hq⟩ := hq; cases hq
      obtain ⟨_, m75, hq⟩ := hq
      cases hq
      rw [pfl_pfl] at m75
      refine mj_T.eq (pc2 := 135) (st2 := []) ?_ rfl rfl rfl rfl
      have hw5 : ∀ e, e < cL (r + 3) → (pfl V3 r (fun e => -(pfl V3 r (pcs V3 80) (cL (r + 3))) (r + 4 + 2 * e)) (cL (r + 3))) (r + 4 + 2 * e) = -(rdv (pcs V p) (pcs V q) (dy + gap) dy (V 174) (V 176)) e := fun e he => by
        rw [pfl_at _ _ _ he, pfl_at _ _ _ he]
        rw [hw3 e he]
      refine mj_T.imp (mR_tail (D := D) (V := V) m75 kp kq kr hq hr hqr hdy5 hdq hg h176 hlq hl60 hk60 hw5 (fun x x1 x2 x3 x4 x5 => ?_)) (fun z hz => ?_)
      · rw [pfl_off _ _ _ x5]
        exact off3 x x1 x2 x3 x4
      · obtain ⟨V6, h6, m6, g1, g2, g3, g4, hz⟩ := hz
        exact ⟨V6, _, h6, m6, Or.inr g1, fun _ => g1, fun q => absurd (by first | (exact Or.inr hodd) | (exact Or.inl hpos)) q, hX4, g2, g3, g4, hXo, h80r, hz⟩
end MNY
/-! The row of Sturm: how great its numbers are. -/
def bM : Nat := 12000000000000000000
/-- what a determinant of k rows stays below -/
def bdf (k : Nat) : Nat := fct k * bM ^ k
theorem fct_pos : ∀ k, 1 ≤ fct k
  | 0 => Nat.le_refl 1
  | k + 1 => Nat.le_trans (fct_pos k) (Nat.le_mul_of_pos_left _ (Nat.succ_pos k))
theorem bM_pos : 1 ≤ bM := by decide
theorem bdf_succ (k : Nat) : bdf k ≤ bdf (k + 1) := by
  unfold bdf
  refine Nat.mul_le_mul ?_ (Nat.pow_le_pow_right bM_pos (Nat.le_succ k))
  exact Nat.le_mul_of_pos_left _ (Nat.succ_pos k)
theorem bdf_mono {k k' : Nat} (h : k ≤ k') : bdf k ≤ bdf k' := by
  induction k' with
  | zero => rw [show k = 0 by omega]; exact Nat.le_refl _
  | succ k' ih =>
    by_cases c : k = k' + 1
    · rw [c]; exact Nat.le_refl _
    · exact Nat.le_trans (ih (by omega)) (bdf_succ k')
theorem bdf_one : bdf 1 = bM := by
  unfold bdf fct
  rw [Nat.pow_one]
  show 1 * 1 * bM = bM
  omega
theorem bdf_pos (k : Nat) : 1 ≤ bdf k := Nat.le_trans (fct_pos k) (Nat.le_mul_of_pos_right _ (Nat.pow_pos bM_pos))
/-- two neighbours of the row, with their sizes -/
def RB (A B : pz_P) (m n : Nat) (X Y : pz_P) (dx dy : Nat) (la ps : Int) : Prop := RI A B m n X Y dx dy la ps ∧ dx ≤ 12 ∧ (∀ e, (X e).natAbs ≤ bdf (25 - 2 * dx)) ∧ (∀ e, (Y e).natAbs ≤ bdf (26 - 2 * dx)) ∧ (dy = dx → ∀ e, (Y e).natAbs ≤ bM) ∧ la.natAbs ≤ bdf 24 ∧ ps.natAbs ≤ bdf 24
theorem RB.start {A B : pz_P} {m n : Nat} (hA : ∀ i, m < i → A i = 0) (hB : ∀ i, n < i → B i = 0) (hn : B n ≠ 0) (hmn : n ≤ m) (hm : m ≤ 12) (bA : ∀ e, (A e).natAbs ≤ bM) (bB : ∀ e, (B e).natAbs ≤ bM) : RB A B m n A B m n 1 1 := by
  have h1 : ∀ k, 1 ≤ k → bM ≤ bdf k := fun k hk => by
    rw [← bdf_one]
    exact bdf_mono hk
  exact ⟨RI.start hA hB hn hmn, hm, fun e => Nat.le_trans (bA e) (h1 _ (by omega)), fun e => Nat.le_trans (bB e) (h1 _ (by omega)), fun _ => bB, bdf_pos 24, bdf_pos 24⟩
theorem RB.div {A B X Y : pz_P} {m n dx dy : Nat} {la ps : Int} (r : RB A B m n X Y dx dy la ps) (hm : m ≤ 12) (hn : n ≤ 12) (bA : ∀ e, (A e).natAbs ≤ bM) (bB : ∀ e, (B e).natAbs ≤ bM) (h1 : 1 ≤ dy) (e : Nat) : (rdv X Y dx dy la ps e).natAbs ≤ bdf (26 - 2 * dy) := by
  have hdy := r.1.2.2.2.1
  by_cases c : 1 ≤ n - (dy - 1) + (m - (dy - 1))
  · have h2 := SB_abs (n := n) c bA bB e
    have h3 : bdf (n - (dy - 1) + (m - (dy - 1))) ≤ bdf (26 - 2 * dy) := bdf_mono (by omega)
    have h4 : (rdv X Y dx dy la ps e).natAbs = (SB (n - (dy - 1)) (m - (dy - 1)) n A B e).natAbs := by
      rcases (r.1.div h1).1 with q | q
      · rw [q e]
      · rw [q e, Int.natAbs_neg]
    rw [h4]
    exact Nat.le_trans h2 h3
  · -- no rows at all: impossible in a row, harmless here
    have h4 : (rdv X Y dx dy la ps e).natAbs = (SB (n - (dy - 1)) (m - (dy - 1)) n A B e).natAbs := by
      rcases (r.1.div h1).1 with q | q
      · rw [q e]
      · rw [q e, Int.natAbs_neg]
    rw [h4, show n - (dy - 1) = 0 by omega, show m - (dy - 1) = 0 by omega]
    have h5 : (SB 0 0 n A B e).natAbs ≤ bM := by
      unfold SB
      exact srow_abs bA bB 0 e
    refine Nat.le_trans h5 ?_
    rw [← bdf_one]
    exact bdf_mono (by have := r.2.1; omega)
theorem RB.next {A B X Y F : pz_P} {m n dx dy rr : Nat} {la ps : Int} (r : RB A B m n X Y dx dy la ps) (hm : m ≤ 12) (hn : n ≤ 12) (bA : ∀ e, (A e).natAbs ≤ bM) (bB : ∀ e, (B e).natAbs ≤ bM) (h1 : 1 ≤ dy) (hF : pm F (rdv X Y dx dy la ps)) (hr : rr < dy) (hz : ∀ i, rr < i → F i = 0) (hne : F rr ≠ 0) : RB A B m n Y F dy rr ((Y dy).natAbs : Int) (nxk Y dx dy ps) := by
  have hd := r.div hm hn bA bB h1
  obtain ⟨r1, r2, r3, r4, r5, r6, r7⟩ := r
  have hdy := r1.2.2.2.1
  refine ⟨r1.next h1 hF hr hz hne, by omega, fun e => ?_, fun e => ?_, fun q => by omega, ?_, ?_⟩
  · by_cases c : dy = dx
    · refine Nat.le_trans (r5 c e) ?_
      rw [← bdf_one]
      exact bdf_mono (by omega)
    · exact Nat.le_trans (r4 e) (bdf_mono (by omega))
  · have : (F e).natAbs = (rdv X Y dx dy la ps e).natAbs := by
      rcases hF with q | q
      · rw [q e]
      · rw [q e, Int.natAbs_neg]
    rw [this]
    exact hd e
  · rw [Int.natAbs_natCast]
    exact Nat.le_trans (r4 dy) (bdf_mono (by omega))
  · by_cases c : dx = dy
    · unfold nxk
      rw [if_pos c]
      exact r7
    · rw [(r1.known (by omega)).1, Int.natAbs_natCast]
      by_cases q : 1 ≤ n - dy + (m - dy)
      · exact Nat.le_trans (SB_abs (n := n) q bA bB dy) (bdf_mono (by omega))
      · rw [show n - dy = 0 by omega, show m - dy = 0 by omega]
        have h5 : (SB 0 0 n A B dy).natAbs ≤ bM := by
          unfold SB
          exact srow_abs bA bB 0 dy
        refine Nat.le_trans h5 ?_
        rw [← bdf_one]
        exact bdf_mono (by decide)
/-- the rooms suffice -/
theorem size_1 : ∀ d, d < 13 → 1 ≤ d → bdf (25 - 2 * d) * (2 * bdf (26 - 2 * d)) ^ d < jB ^ 235 := by decide +kernel
theorem size_2 : ∀ d, d < 13 → 1 ≤ d → bdf (26 - 2 * d) < jB ^ (60 - 4 * d) := by decide +kernel
theorem size_3 : bdf 24 < jB ^ 60 := by decide +kernel
theorem RB.fit {A B X Y : pz_P} {m n dx dy : Nat} {la ps : Int} (r : RB A B m n X Y dx dy la ps) (h1 : 1 ≤ dy) : bdf (25 - 2 * dx) * (2 * bdf (26 - 2 * dx)) ^ (dx - dy + 1) < jB ^ 235 := by
  have hdy := r.1.2.2.2.1
  have hd := r.2.1
  refine Nat.lt_of_le_of_lt ?_ (size_1 dx (by omega) (by omega))
  exact Nat.mul_le_mul_left _ (Nat.pow_le_pow_right (by have := bdf_pos (26 - 2 * dx); omega) (by omega))
/-! The row of Sturm of the class: its last. -/
section MLA
variable {g h : mj_H} {n D : Nat} {V : Nat → Int} {X : Nat → Nat → Int}
theorem mR_last (m : jM g n V X h) {k : Nat} (hL : X 172 2 = ((k + 1 : Nat) : Int)) (hk : k < 14) : mj_Ok (D + 1) 73 [.ref 172] h (fun r => r = (.inl (some (.ref (sro k))), h)) := by
  have l173 : cL 173 = 14 := mK_r.2.2.2.1
  refine mj_Ok.of (M := mj_m73) rfl rfl rfl ?_
  refine mj_T.pl rfl rfl rfl rfl ?_
  refine mT_get m 16 cq_d172 (by decide) rfl rfl ?_
  refine mj_T.pl rfl rfl rfl rfl ?_
  refine mT_get (v := .int (jn (((k + 1) : Nat) : Int))) m 16 cq_d172 (by decide) rfl (congrArg (fun z : Int => some (Value.int (jn z))) (hL)) ?_
  refine mj_T.if0 (a := (((k + 1) : Nat) : Int)) rfl ⟨by omega, by omega⟩ (fun c1 => ?_) (fun c1 => ?_)
  · exfalso
    simp only [jc, Bool.not_eq_true', Bool.not_eq_false', decide_eq_true_eq, decide_eq_false_iff_not] at c1
    omega
  · simp only [jc, Bool.not_eq_true', Bool.not_eq_false', decide_eq_true_eq, decide_eq_false_iff_not] at c1
    refine mj_T.pl rfl rfl rfl rfl ?_
    refine mT_get (v := .int (jn (((k + 1) : Nat) : Int))) m 16 cq_d172 (by decide) rfl (congrArg (fun z : Int => some (Value.int (jn z))) (hL)) ?_
    refine mj_T.pl rfl rfl rfl rfl ?_
    refine mT_get m 16 cq_d172 (by decide) rfl rfl ?_
    refine mT_alen m 5 cq_d173 (by decide) rfl ?_
    refine mj_T.icmp (a := (((k + 1) : Nat) : Int)) (b := ((cL 173 : Nat) : Int)) rfl ⟨by omega, by omega⟩ ⟨by omega, by omega⟩ (fun c2 => ?_) (fun c2 => ?_)
    · exfalso
      simp only [jc, Bool.not_eq_true', Bool.not_eq_false', decide_eq_true_eq, decide_eq_false_iff_not] at c2
      omega
    · simp only [jc, Bool.not_eq_true', Bool.not_eq_false', decide_eq_true_eq, decide_eq_false_iff_not] at c2
      refine mj_T.pl rfl rfl rfl rfl ?_
      refine mT_get (v := .int (jn (((k + 1) : Nat) : Int))) m 16 cq_d172 (by decide) rfl (congrArg (fun z : Int => some (Value.int (jn z))) (hL)) ?_
      refine mj_T.pl rfl rfl rfl rfl ?_
      refine mj_T.isub (a := (((k + 1) : Nat) : Int)) (b := 1) rfl ?_
      refine mj_T.pl rfl rfl rfl rfl ?_
      rw [show ((k + 1 : Nat) : Int) - 1 = (k : Int) by omega]
      refine mT_aald m 5 cq_d173 (by decide) rfl rfl (by omega) ⟨by omega, by omega⟩ ?_
      refine mj_T.eq (st2 := [.ref (sro k)]) ?_ rfl rfl rfl rfl
      exact mj_T.ret rfl rfl rfl rfl
end MLA
