/-! The desk of the class, exactly: a polynomial put into another one. -/
/-- what has been put together so far, from the top -/
def hw (A B : pz_P) : Nat → pz_P
  | 0 => pz_0
  | k + 1 => fun i => pz_mul (hw A B k) B i + if i = 0 then A (12 - k) else 0
theorem hw_abs {A B : pz_P} {M : Nat} (hA : ∀ i, (A i).natAbs ≤ M) (hB : ∀ i, (B i).natAbs ≤ M) (hM : 1 ≤ M) : ∀ k, (∀ j, j < k → ∀ i, 13 ≤ i → hw A B j i = 0) → ∀ i, (hw A B k i).natAbs ≤ (15 * M) ^ k
  | 0, _, i => by
    show (0 : Int).natAbs ≤ 1
    decide
  | k + 1, hz, i => by
    have h1 := pz_mul_abs (hw_abs hA hB hM k (fun j hj => hz j (by omega))) hB (hz k (by omega)) i
    have h2 : M ≤ (15 * M) ^ k * M := Nat.le_mul_of_pos_left _ (Nat.pow_pos (by omega))
    have h3 : (if i = 0 then A (12 - k) else 0).natAbs ≤ M := by
      split
      · exact hA _
      · exact Nat.zero_le _
    show (pz_mul (hw A B k) B i + if i = 0 then A (12 - k) else 0).natAbs ≤ _
    rw [Nat.pow_succ, Nat.mul_left_comm]
    omega
def big13 (P : pz_P) : Prop := ∃ d, 13 ≤ d ∧ (∀ i, d < i → P i = 0) ∧ P d ≠ 0
theorem big13.not {P : pz_P} (h : big13 P) : ¬ fit13 P := fun q => by
  obtain ⟨d, h1, _, h2⟩ := h
  exact h2 (q.2 d h1)
theorem big13.mul {A B P : pz_P} {a b : Nat} (hA : ∀ i, a < i → A i = 0) (hAn : A a ≠ 0) (hB : ∀ i, b < i → B i = 0) (hBn : B b ≠ 0) (hab : 13 ≤ a + b) (hP : ∀ i, 1 ≤ i → P i = pz_mul A B i) : big13 P := by
  have l1 : pz_lt A (a + 1) := fun i hi => hA i (by omega)
  have l2 : pz_lt B (b + 1) := fun i hi => hB i (by omega)
  refine ⟨a + b, hab, fun i hi => ?_, ?_⟩
  · rw [hP i (by omega)]
    exact pz_lt.mul (c := a + b + 1) l1 l2 (by omega) i (by omega)
  · rw [hP _ (by omega)]
    show pz_c (a + b) A B ≠ 0
    rw [pz_c_lead a A B b l1 l2]
    exact Int.mul_ne_zero hAn hBn
theorem hw_rest (A B : pz_P) (k : Nat) : ∀ i, 1 ≤ i → hw A B (k + 1) i = pz_mul (hw A B k) B i := fun i hi => by
  show pz_mul (hw A B k) B i + (if i = 0 then A (12 - k) else 0) = _
  rw [if_neg (by omega), Int.add_zero]
theorem hw_big {A B : pz_P} {b : Nat} (hB : ∀ i, b < i → B i = 0) (hBn : B b ≠ 0) {k : Nat} (h : big13 (hw A B k)) : ∀ j, big13 (hw A B (k + j))
  | 0 => h
  | j + 1 => by
    obtain ⟨d, h1, h2, h3⟩ := hw_big hB hBn h j
    exact big13.mul h2 h3 hB hBn (by omega) (hw_rest A B (k + j))
theorem rw13_top {A : Nat → Int} : ∀ i, fdg A 13 - 1 < i → rw13 A i = 0 := fun i hi => by
  unfold rw13
  split
  · exact fdg_zero A 13 i (by omega) (by omega)
  · rfl
theorem fit_hw : (15 * 999999999999999999) ^ 13 < jB ^ 30 := by decide +kernel
theorem fit_hw2 : (15 * 999999999999999999) ^ 13 < jB ^ 236 := by decide +kernel
section MPI
variable {g h : mj_H} {n D a b r : Nat} {V : Nat → Int} {X : Nat → Nat → Int}
/-- what holds in the loop -/
def puI (V : Nat → Int) (X : Nat → Nat → Int) (a b k : Nat) (V1 : Nat → Int) (X1 : Nat → Nat → Int) : Prop := dF V V1 ∧ xF (fun _ => False) X X1 ∧ (∀ e, e < 13 → V1 (20 + 4 + 2 * e) = (hw (rw13 (X a)) (rw13 (X b))) k e) ∧ (∀ j, j ≤ k → ∀ e, 13 ≤ e → (hw (rw13 (X a)) (rw13 (X b))) j e = 0) ∧ (∀ e, e < 13 → V1 (50 + 4 + 2 * e) = X b e) ∧ X1 20 2 = (fdg ((hw (rw13 (X a)) (rw13 (X b))) k) 13 : Int) - 1 ∧ X1 50 2 = (fdg (X b) 13 : Int) - 1 ∧ V1 81 = 0
theorem mD_putin_loop (ka : cK a = 2) (kb : cK b = 2) (kr : cK r = 2) (hb_a : sml (X a)) (hb_b : sml (X b)) (hz : V 81 = 0) : ∀ (u k : Nat), k + u = 13 → ∀ (V1 : Nat → Int) (X1 : Nat → Nat → Int) (h1 : mj_H), jM g n V1 X1 h1 → puI V X a b k V1 X1 → mj_T (D + 3) mj_m13 22 [some (.ref 19), some (.ref a), some (.ref b), some (.ref r), some (.int (jn ((u : Int) - 1)))] [] h1 (fun z => ∃ V2 X2 h2, jM g n V2 X2 h2 ∧ dF V V2 ∧ xF (fun x => x = r) X X2 ∧ ((fit13 ((hw (rw13 (X a)) (rw13 (X b))) 13) ∧ z = (.inl (some (.int (jn 1))), h2) ∧ ∀ i, i < 13 → X2 r i = (hw (rw13 (X a)) (rw13 (X b))) 13 i) ∨ (¬ fit13 ((hw (rw13 (X a)) (rw13 (X b))) 13) ∧ z = (.inl (some (.int (jn 0))), h2))))
  | 0, k, hi, V1, X1, h1, m, I => by
    obtain ⟨hd, hx, a1, a2, a3, a4, a5, a6⟩ := I
    have hie : k = 13 := by omega
    subst hie
    refine mj_T.pl rfl rfl rfl rfl ?_
    refine mj_T.if0 (a := (((0 : Nat) : Int) - 1)) rfl ⟨by omega, by omega⟩ (fun c1 => ?_) (fun c1 => ?_)
    · simp only [jc, Bool.not_eq_true', Bool.not_eq_false', decide_eq_true_eq, decide_eq_false_iff_not] at c1
      refine mj_T.pl rfl rfl rfl rfl ?_
      refine mT_get m 11 cq_d19 (by decide) rfl rfl ?_
      refine mj_T.pl rfl rfl rfl rfl ?_
      have p20 : cL (20 + 3) = 13 := mK_z.1
      have hfi := pok_fit (V := V1) (p := 20) (m := 13) p20.symm (by decide) ((hw (rw13 (X a)) (rw13 (X b))) 13) (fun j hj => a1 j hj) (fun j hj => a2 13 (Nat.le_refl 13) j hj)
      have hx' : xF (fun x => x = r) X X1 := hx.mono (fun _ q => q.elim)
      refine mj_T.call rfl rfl (Nat.le_of_ble_eq_true rfl) (Nat.le_of_ble_eq_true rfl) (mV_of m 13 cq_d20 (by decide) rfl (by decide) rfl _) rfl (mj_Ok.up (by omega) (mP_store (D := 0) m cq_d20 (fun j hj => by rw [p20] at hj; rw [a1 j hj]; exact jnl_B (hw_abs (rw13_abs hb_a) (rw13_abs hb_b) (by decide) 13 (fun i hi => a2 i (by omega)) j) (jB_15 (m := 30) fit_hw (by decide))) kr (by omega))) (fun v g1 hq => ?_) (fun i g1 hq => ?_)
      rotate_left
      · rcases hq with ⟨_, _, _, hq⟩ | ⟨_, hq⟩ <;> cases hq
      rcases hq with ⟨ho, _, m8, hq⟩ | ⟨ho, hq⟩
      · cases hq
        refine mj_T.ret rfl rfl rfl ⟨_, _, _, m8, hd, hx'.tr (xF.row (S := fun x => x = r) rfl), Or.inl ⟨hfi.mp ho, rfl, fun i hi => ?_⟩⟩
        rw [xfl_at _ _ _ hi]
        exact a1 i hi
      · cases hq
        exact mj_T.ret rfl rfl rfl ⟨_, _, _, m, hd, hx', Or.inr ⟨fun q => ho (hfi.mpr q), rfl⟩⟩
    · exfalso
      simp only [jc, Bool.not_eq_true', Bool.not_eq_false', decide_eq_true_eq, decide_eq_false_iff_not] at c1
      omega
  | u + 1, k, hi, V1, X1, h1, m, I => by
    obtain ⟨hd, hx, a1, a2, a3, a4, a5, a6⟩ := I
    have p20 : cL (20 + 3) = 13 := mK_z.1
    have p50 : cL (50 + 3) = 13 := mK_z.2.1
    have p80 : cL (80 + 3) = 13 := mK_z.2.2.1
    have eA : pcs V1 20 = (hw (rw13 (X a)) (rw13 (X b))) k := funext fun j => by
      unfold pcs
      rw [p20]
      by_cases y : j < 13
      · rw [if_pos y, a1 j y]
      · rw [if_neg y, a2 k (Nat.le_refl k) j (by omega)]
    have eB : pcs V1 50 = rw13 (X b) := funext fun j => by
      unfold pcs rw13
      rw [p50]
      split
      · exact a3 j (by omega)
      · rfl
    rw [show ((u + 1 : Nat) : Int) - 1 = (u : Int) by omega]
    refine mj_T.pl rfl rfl rfl rfl ?_
    refine mj_T.if0 (a := ((u : Nat) : Int)) rfl ⟨by omega, by omega⟩ (fun c1 => ?_) (fun c1 => ?_)
    · exfalso
      simp only [jc, Bool.not_eq_true', Bool.not_eq_false', decide_eq_true_eq, decide_eq_false_iff_not] at c1
      omega
    · simp only [jc, Bool.not_eq_true', Bool.not_eq_false', decide_eq_true_eq, decide_eq_false_iff_not] at c1
      iterate 2 refine mj_T.pl rfl rfl rfl rfl ?_
      refine mT_get m 11 cq_d19 (by decide) rfl rfl ?_
      refine mj_T.pl rfl rfl rfl rfl ?_
      refine mT_get m 11 cq_d19 (by decide) rfl rfl ?_
      refine mj_T.pl rfl rfl rfl rfl ?_
      refine mT_get m 11 cq_d19 (by decide) rfl rfl ?_
      have hA : ∀ i', (pcs V1 20 i').natAbs ≤ (15 * 999999999999999999) ^ k := fun i' => by rw [eA]; exact hw_abs (rw13_abs hb_a) (rw13_abs hb_b) (by decide) k (fun j hj => a2 j (by omega)) i'
      have hB : ∀ i', (pcs V1 50 i').natAbs ≤ 999999999999999999 := fun i' => by rw [eB]; exact rw13_abs hb_b i'
      have hpp : (15 * 999999999999999999) ^ (k + 1) ≤ (15 * 999999999999999999) ^ 13 := Nat.pow_le_pow_right (by decide) (by omega)
      have hfit : 13 * ((15 * 999999999999999999) ^ k * 999999999999999999) < jB ^ 236 := by
        refine Nat.lt_of_le_of_lt ?_ fit_hw2
        refine Nat.le_trans ?_ hpp
        rw [Nat.pow_succ]
        generalize (15 * 999999999999999999) ^ k = w
        omega
      refine mj_T.call rfl rfl (Nat.le_of_ble_eq_true rfl) (Nat.le_of_ble_eq_true rfl) (mV_of m 11 cq_d19 (by decide) rfl (by decide) rfl _) rfl (mD_times (D := D) (t := 80) m (da := fdg ((hw (rw13 (X a)) (rw13 (X b))) k) 13) (db := fdg (X b) 13) (al := (15 * 999999999999999999) ^ k) (be := 999999999999999999) (c := 236) cq_d80 (Or.inl rfl) a4 a5 (fdg_le _ _) (fdg_le _ _) (fun j h1 h2 => by rw [a3 j h2]; exact fdg_zero _ _ _ h1 h2) hA hB (by decide) (fun j hj => Nat.le_of_eq ((mK_z.2.2.2.2.1 j (by omega)).2.2).symm) hfit (jB_15 (m := 30) (Nat.lt_of_le_of_lt (Nat.pow_le_pow_right (by decide) (by omega)) fit_hw) (by decide)) (jB_15 (m := 3) (by decide +kernel) (by decide)) (fun j h1 h2 => by rw [a1 j h2]; exact fdg_zero _ _ _ h1 h2)) (fun v g1 hq => ?_) (fun i g1 hq => ?_)
      rotate_left
      · rcases hq with ⟨_, _, _, _, _, hq⟩ | ⟨_, _, _, hq⟩ <;> cases hq
      rw [eA, eB, p80] at hq
      rcases hq with ⟨ho, z1, z2, _, m9, hq⟩ | ⟨ho, _, m9, hq⟩
      · cases hq
        refine mj_T.eq (pc2 := 43) (st2 := [.int (jn 1)]) ?_ rfl rfl rfl rfl
        have hm9 : pz_mul ((hw (rw13 (X a)) (rw13 (X b))) k) (rw13 (X b)) 0 + 1 * X a u = (hw (rw13 (X a)) (rw13 (X b))) (k + 1) 0 := by
          show _ = pz_mul ((hw (rw13 (X a)) (rw13 (X b))) k) (rw13 (X b)) 0 + (if 0 = 0 then rw13 (X a) (12 - k) else 0)
          rw [if_pos rfl, rw13_in (by omega), show 12 - k = u by omega, Int.one_mul]
        have hz1 : ∀ j, 13 ≤ j → (hw (rw13 (X a)) (rw13 (X b))) (k + 1) j = 0 := fun j hj => by
          rw [hw_rest _ _ _ _ (by omega)]
          by_cases q : fdg (X b) 13 = 0
          · have hB0 : ∀ x, rw13 (X b) x = 0 := fun x => by
              by_cases y : x < 13
              · rw [rw13_in y]
                exact fdg_zero (X b) 13 x (by omega) y
              · exact rw13_out (by omega)
            exact (pz_c_lt 13 j ((hw (rw13 (X a)) (rw13 (X b))) k) (rw13 (X b)) 0 (fun x hx => a2 k (Nat.le_refl k) x hx) (fun x _ => hB0 x) (by omega) : pz_c j ((hw (rw13 (X a)) (rw13 (X b))) k) (rw13 (X b)) = 0)
          · by_cases q2 : fdg ((hw (rw13 (X a)) (rw13 (X b))) k) 13 = 0
            · exact (pz_c_lt 0 j ((hw (rw13 (X a)) (rw13 (X b))) k) (rw13 (X b)) 13 (fun x _ => by
                by_cases y : x < 13
                · exact fdg_zero ((hw (rw13 (X a)) (rw13 (X b))) k) 13 x (by omega) y
                · exact a2 k (Nat.le_refl k) x (by omega)) (fun x hx => rw13_out hx) (by omega) : pz_c j ((hw (rw13 (X a)) (rw13 (X b))) k) (rw13 (X b)) = 0)
            · exact (pz_c_lt (fdg ((hw (rw13 (X a)) (rw13 (X b))) k) 13) j ((hw (rw13 (X a)) (rw13 (X b))) k) (rw13 (X b)) (fdg (X b) 13) (fun x hx => by
                by_cases y : x < 13
                · exact fdg_zero ((hw (rw13 (X a)) (rw13 (X b))) k) 13 x hx y
                · exact a2 k (Nat.le_refl k) x (by omega)) (fun x hx => rw13_top x (by omega)) (by omega) : pz_c j ((hw (rw13 (X a)) (rw13 (X b))) k) (rw13 (X b)) = 0)
        have a2' : ∀ j, j ≤ k + 1 → ∀ e', 13 ≤ e' → (hw (rw13 (X a)) (rw13 (X b))) j e' = 0 := fun j hj => by
          by_cases y : j = k + 1
          · rw [y]
            exact hz1
          · exact a2 j (by omega)
        have hab := fun i' => hw_abs (rw13_abs hb_a) (rw13_abs hb_b) (by decide) (k + 1) (fun j hj => a2' j (by omega)) i'
        have hua := hb_a u (by omega)
        have hX1a : X1 a = X a := hx.1 a (kR_ne ka).1 (kR_ne ka).2.1 (kR_ne ka).2.2.1 (kR_ne ka).2.2.2 (fun q => q)
        have c1 : cL (164 + 1) = 240 := mK_z.2.2.2.2.2.2.2.1
        have c8 : cL (80 + 4 + 2 * 0 + 1) = 236 := (mK_z.2.2.2.2.1 0 (by decide)).2.2
        have hrow : (xup X1 80 2 ((fdg (pz_mul ((hw (rw13 (X a)) (rw13 (X b))) k) (rw13 (X b))) 13 : Int) - 1)) a u = X a u := by rw [show (xup X1 80 2 ((fdg (pz_mul ((hw (rw13 (X a)) (rw13 (X b))) k) (rw13 (X b))) 13 : Int) - 1)) a = X1 a from funext fun j => xup_ne _ _ (Or.inl (kR_ne ka).2.2.1), hX1a]
        have hja : jR (X a u) := ⟨by omega, by omega⟩
        have hjb : jnl (X a u).natAbs ≤ 2 := jnl_two.mpr (by omega)
        refine mj_T.if0 (a := 1) rfl ⟨by omega, by omega⟩ (fun c61 => ?_) (fun c61 => ?_)
        · simp only [jc, Bool.not_eq_true', Bool.not_eq_false', decide_eq_true_eq, decide_eq_false_iff_not] at c61
          refine mj_T.pl rfl rfl rfl rfl ?_
          refine mT_get m9 11 cq_d19 (by decide) rfl rfl ?_
          iterate 2 refine mj_T.pl rfl rfl rfl rfl ?_
          refine mT_lald m9 ka rfl ⟨by omega, by omega⟩ ?_
          refine mj_T.eq (st2 := [.long (jl ((xup X1 80 2 ((fdg (pz_mul ((hw (rw13 (X a)) (rw13 (X b))) k) (rw13 (X b))) 13 : Int) - 1)) a u)), .ref 164]) ?_ rfl rfl rfl rfl
          refine mj_T.call rfl rfl (Nat.le_of_ble_eq_true rfl) (Nat.le_of_ble_eq_true rfl) (mV_of m9 18 cq_d164 (by decide) rfl (by decide) rfl _) rfl (mj_Ok.up (by omega) (mW_setLong (D := 0) (v := ((xup X1 80 2 ((fdg (pz_mul ((hw (rw13 (X a)) (rw13 (X b))) k) (rw13 (X b))) 13 : Int) - 1)) a u)) m9 cq_d164 (by rw [hrow]; exact hja) (by rw [hrow]; omega))) (fun v g62 hq => ?_) (fun i g62 hq => ?_)
          rotate_left
          · obtain ⟨_, _, hq⟩ := hq; cases hq
          obtain ⟨_, m63, hq⟩ := hq
          cases hq
          rw [hrow, lk_p1 (by decide)] at m63
          refine mj_T.eq (pc2 := 59) (st2 := []) ?_ rfl rfl rfl rfl
          refine mj_T.pl rfl rfl rfl rfl ?_
          refine mT_get m63 11 cq_d19 (by decide) rfl rfl ?_
          refine mj_T.pl rfl rfl rfl rfl ?_
          refine mj_T.call rfl rfl (Nat.le_of_ble_eq_true rfl) (Nat.le_of_ble_eq_true rfl) (mV_of m63 13 cq_d80 (by decide) rfl (by decide) rfl _) rfl (mj_Ok.up (by omega) (mP_at (D := 0) m63 cq_d80 (e := 0) (by omega))) (fun v g64 hq => ?_) (fun i g64 hq => ?_)
          rotate_left
          · cases hq
          cases hq
          refine mj_T.eq (pc2 := 67) (st2 := [.ref (80 + 4 + 2 * 0)]) ?_ rfl rfl rfl rfl
          refine mj_T.pl rfl rfl rfl rfl ?_
          refine mT_get m63 11 cq_d19 (by decide) rfl rfl ?_
          refine mj_T.pl rfl rfl rfl rfl ?_
          refine mj_T.call rfl rfl (Nat.le_of_ble_eq_true rfl) (Nat.le_of_ble_eq_true rfl) (mV_of m63 18 ((mK_p cq_d80).2.2.2 0 (by omega)) (by decide) rfl (by decide) rfl _) rfl (mj_Ok.up (by omega) (mW_plus (D := 0) (f := 1) m63 ((mK_p cq_d80).2.2.2 0 (by omega)) cq_d164 (by decide) (Or.inl rfl) (by rw [lk_1 (by decide)]; omega) (by rw [lk_1 (by decide), pfl_at _ _ _ (by decide), hm9, c8]; exact jnl_B (hab 0) (Nat.lt_of_le_of_lt hpp fit_hw2)))) (fun v g65 hq => ?_) (fun i g65 hq => ?_)
          rotate_left
          · obtain ⟨_, _, hq⟩ := hq; cases hq
          obtain ⟨_, m66, hq⟩ := hq
          cases hq
          rw [lk_1 (by decide), pfl_at _ _ _ (by decide), hm9, pfl_upd (by decide)] at m66
          have m66 := m66.to (V' := (pfl (scr V1 (X a u) z2) 80 ((hw (rw13 (X a)) (rw13 (X b))) (k + 1)) 13)) (pfl_congr (fun e he => by
            by_cases y : e = 0
            · subst y
              rw [jvu_at]
            · rw [jvu_ne _ _ _ y]
              exact hw_rest _ _ _ _ (by omega))) rfl
          refine mj_T.eq (pc2 := 75) (st2 := []) ?_ rfl rfl rfl rfl
          refine mj_T.pl rfl rfl rfl rfl ?_
          refine mT_get m66 11 cq_d19 (by decide) rfl rfl ?_
          refine mj_T.pl rfl rfl rfl rfl ?_
          refine mT_get m66 11 cq_d19 (by decide) rfl rfl ?_
          have eP : pcs (pfl (scr V1 (X a u) z2) 80 ((hw (rw13 (X a)) (rw13 (X b))) (k + 1)) 13) 80 = (hw (rw13 (X a)) (rw13 (X b))) (k + 1) := funext fun j => by
            unfold pcs
            rw [p80]
            by_cases y : j < 13
            · rw [if_pos y, pfl_at _ _ _ y]
            · rw [if_neg y, hz1 j (by omega)]
          refine mj_T.call rfl rfl (Nat.le_of_ble_eq_true rfl) (Nat.le_of_ble_eq_true rfl) (mV_of m66 13 cq_d20 (by decide) rfl (by decide) rfl _) rfl (mj_Ok.up (by omega) (mP_set (D := 0) m66 cq_d20 cq_d80 (by decide) (by rw [pfl_off _ _ _ (by decide), scr_off _ _ _ (by decide) (by decide)]; exact a6) (fun j hj => by rw [eP, (mK_z.2.2.2.2.1 j (by omega)).1]; exact jnl_B (hab j) (Nat.lt_of_le_of_lt hpp fit_hw)))) (fun v g67 hq => ?_) (fun i g67 hq => ?_)
          rotate_left
          · obtain ⟨_, _, hq⟩ := hq; cases hq
          obtain ⟨_, m68, hq⟩ := hq
          cases hq
          rw [eP, p20] at m68
          refine mj_T.eq (pc2 := 86) (st2 := []) ?_ rfl rfl rfl rfl
          refine mj_T.iinc rfl rfl ?_
          refine mj_T.eq (loc2 := [some (.ref 19), some (.ref a), some (.ref b), some (.ref r), some (.int (jn (((u : Nat) : Int) + (-1))))]) ?_ rfl rfl rfl rfl
          refine mj_T.pl rfl rfl rfl rfl ?_
          rw [show (((u : Nat) : Int) + (-1)) = (u : Int) - 1 by omega]
          refine mD_putin_loop ka kb kr hb_a hb_b hz u (k + 1) (by omega) _ _ _ m68 ⟨hd.tr ((dF.scr _ (X a u) z2).tr ((dF.pfl (by omega)).tr (dF.pfl (by omega)))), hx.tr ((xF.deg (by omega)).tr (xF.deg (by omega))), fun j hj => pfl_at _ _ _ hj, a2', fun j hj => ?_, xup_at _ _ _ _, ?_, ?_⟩
          · rw [pfl_off _ _ _ (by omega), lk_off (by omega) (by omega) (by omega)]
            exact a3 j hj
          · rw [xup_ne _ _ (Or.inl (by decide)), xup_ne _ _ (Or.inl (by decide))]
            exact a5
          · rw [pfl_off _ _ _ (by omega), lk_off (by omega) (by omega) (by omega)]
            exact a6
        · exfalso
          simp [jc] at c61
      · cases hq
        refine mj_T.eq (pc2 := 43) (st2 := [.int (jn 0)]) ?_ rfl rfl rfl rfl
        refine mj_T.if0 (a := 0) rfl ⟨by omega, by omega⟩ (fun c191 => ?_) (fun c191 => ?_)
        · exfalso
          simp [jc] at c191
        · simp only [jc, Bool.not_eq_true', Bool.not_eq_false', decide_eq_true_eq, decide_eq_false_iff_not] at c191
          refine mj_T.pl rfl rfl rfl rfl ?_
          refine mj_T.ret rfl rfl rfl ⟨_, _, _, m9, hd.tr (dF.pfl (by omega)), (hx.tr (xF.deg (by omega))).mono (fun _ q => q.elim), Or.inr ⟨?_, rfl⟩⟩
          have hl := fdg_le (X b) 13
          have hl2 := fdg_le ((hw (rw13 (X a)) (rw13 (X b))) k) 13
          have hBn : rw13 (X b) (fdg (X b) 13 - 1) ≠ 0 := by
            rw [rw13_in (by omega)]
            exact fdg_ne _ _ (by omega)
          have hb1 : big13 ((hw (rw13 (X a)) (rw13 (X b))) (k + 1)) := big13.mul (a := fdg ((hw (rw13 (X a)) (rw13 (X b))) k) 13 - 1) (b := fdg (X b) 13 - 1) (fun x hx => by
            by_cases y : x < 13
            · exact fdg_zero _ _ _ (by omega) y
            · exact a2 k (Nat.le_refl k) x (by omega)) (fdg_ne _ _ (by omega)) rw13_top hBn (by omega) (hw_rest _ _ k)
          have hb2 := hw_big (A := rw13 (X a)) rw13_top hBn hb1 u
          rw [show k + 1 + u = 13 by omega] at hb2
          exact hb2.not
theorem mD_putIn (m : jM g n V X h) (ka : cK a = 2) (kb : cK b = 2) (kr : cK r = 2) (hb_a : sml (X a)) (hb_b : sml (X b)) (hz : V 81 = 0) : mj_Ok (D + 4) 13 [.ref 19, .ref a, .ref b, .ref r] h (fun z => ∃ V2 X2 h2, jM g n V2 X2 h2 ∧ dF V V2 ∧ xF (fun x => x = r) X X2 ∧ ((fit13 ((hw (rw13 (X a)) (rw13 (X b))) 13) ∧ z = (.inl (some (.int (jn 1))), h2) ∧ ∀ i, i < 13 → X2 r i = (hw (rw13 (X a)) (rw13 (X b))) 13 i) ∨ (¬ fit13 ((hw (rw13 (X a)) (rw13 (X b))) 13) ∧ z = (.inl (some (.int (jn 0))), h2)))) := by
  have p20 : cL (20 + 3) = 13 := mK_z.1
  refine mj_Ok.of (M := mj_m13) rfl rfl rfl ?_
  refine mj_T.pl rfl rfl rfl rfl ?_
  refine mT_get m 11 cq_d19 (by decide) rfl rfl ?_
  refine mj_T.pl rfl rfl rfl rfl ?_
  refine jT.lc 1 rfl rfl ?_
  refine mj_T.call rfl rfl (Nat.le_of_ble_eq_true rfl) (Nat.le_of_ble_eq_true rfl) (mV_of m 13 cq_d50 (by decide) rfl (by decide) rfl _) rfl (mj_Ok.up (by omega) (mP_load1 (D := 0) m cq_d50 kb (by decide +kernel) (by exact hb_b) (fun i hi => by have := mK_z.2.2.2.2.1 i hi; omega))) (fun v g1 hq => ?_) (fun i g1 hq => ?_)
  rotate_left
  · obtain ⟨_, _, hq⟩ := hq; cases hq
  obtain ⟨_, m2, hq⟩ := hq
  cases hq
  refine mj_T.eq (pc2 := 9) (st2 := []) ?_ rfl rfl rfl rfl
  refine mj_T.pl rfl rfl rfl rfl ?_
  refine mT_get m2 11 cq_d19 (by decide) rfl rfl ?_
  refine mj_T.call rfl rfl (Nat.le_of_ble_eq_true rfl) (Nat.le_of_ble_eq_true rfl) (mV_of m2 13 cq_d20 (by decide) rfl (by decide) rfl _) rfl (mj_Ok.up (by omega) (mP_clear (D := 0) m2 cq_d20)) (fun v g3 hq => ?_) (fun i g3 hq => ?_)
  rotate_left
  · obtain ⟨_, _, hq⟩ := hq; cases hq
  obtain ⟨_, m4, hq⟩ := hq
  cases hq
  rw [p20] at m4
  refine mj_T.eq (pc2 := 16) (st2 := []) ?_ rfl rfl rfl rfl
  refine mj_T.pl rfl rfl rfl rfl ?_
  refine mT_llen m4 ka rfl ?_
  refine mj_T.pl rfl rfl rfl rfl ?_
  refine mj_T.isub (a := ((13 : Nat) : Int)) (b := 1) rfl ?_
  refine mj_T.pl (loc' := [some (.ref 19), some (.ref a), some (.ref b), some (.ref r), some (.int (jn (((13 : Nat) : Int) - 1)))]) rfl rfl rfl rfl ?_
  refine mj_T.eq (loc2 := [some (.ref 19), some (.ref a), some (.ref b), some (.ref r), some (.int (jn (((13 : Nat) : Int) - 1)))]) ?_ rfl rfl rfl rfl
  have e0 : ∀ j, j < 13 → (pfl (pfl V 50 (X b) 13) 20 (fun _ => 0) 13) (20 + 4 + 2 * j) = (hw (rw13 (X a)) (rw13 (X b))) 0 j := fun j hj => pfl_at _ _ _ hj
  exact mD_putin_loop ka kb kr hb_a hb_b hz 13 0 (by omega) _ _ _ m4 ⟨(dF.pfl (by omega)).tr (dF.pfl (by omega)), (xF.deg (by omega)).tr (xF.deg (by omega)), e0, fun j hj i hi => by
    obtain rfl : j = 0 := by omega
    rfl, fun j hj => by
    rw [pfl_off _ _ _ (by omega), pfl_at _ _ _ hj], by
    rw [xup_at, show fdg ((hw (rw13 (X a)) (rw13 (X b))) 0) 13 = 0 from rfl]
    rfl, by
    rw [xup_ne _ _ (Or.inl (by decide)), xup_at], by
    rw [pfl_off _ _ _ (by decide), pfl_off _ _ _ (by decide)]
    exact hz⟩
end MPI
