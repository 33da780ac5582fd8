/-! The desk of the class, exactly: divideRows. -/
/-- the quotient on the way, times powers of the leading coefficient -/
def qe (F B : pz_P) (db gap : Nat) : Nat → pz_P
  | 0 => pz_0
  | k + 1 => fun i => B db * qe F B db gap k i + if i = gap - k then er F B db gap k (db + (gap - k)) else 0
theorem qe_low (F B : pz_P) (db gap : Nat) : ∀ k, k ≤ gap + 1 → ∀ i, i + k ≤ gap → qe F B db gap k i = 0
  | 0, _, _, _ => rfl
  | k + 1, hk, i, hi => by
    show B db * qe F B db gap k i + (if i = gap - k then _ else 0) = 0
    rw [qe_low F B db gap k (by omega) i (by omega), if_neg (by omega), Int.mul_zero]
    rfl
theorem qe_hi (F B : pz_P) (db gap : Nat) : ∀ k i, gap < i → qe F B db gap k i = 0
  | 0, _, _ => rfl
  | k + 1, i, hi => by
    show B db * qe F B db gap k i + (if i = gap - k then _ else 0) = 0
    rw [qe_hi F B db gap k i hi, if_neg (by omega), Int.mul_zero]
    rfl
theorem qe_abs {F B : pz_P} {db gap M : Nat} (hF : ∀ e, (F e).natAbs ≤ M) (hB : ∀ e, (B e).natAbs ≤ M) (h1 : 1 ≤ M) : ∀ k e, (qe F B db gap k e).natAbs ≤ M * (2 * M) ^ k
  | 0, e => Nat.zero_le _
  | k + 1, e => by
    show (B db * qe F B db gap k e + (if e = gap - k then er F B db gap k (db + (gap - k)) else 0)).natAbs ≤ _
    have a1 := Nat.mul_le_mul (hB db) (qe_abs (db := db) (gap := gap) hF hB h1 k e)
    rw [← Int.natAbs_mul] at a1
    have a2 : (if e = gap - k then er F B db gap k (db + (gap - k)) else 0).natAbs ≤ M * (2 * M) ^ k := by
      split
      · exact er_abs hF hB h1 k _
      · exact Nat.zero_le _
    have a3 : M * (2 * M) ^ k ≤ M * (M * (2 * M) ^ k) := Nat.le_mul_of_pos_left _ h1
    have a4 : M * (2 * M) ^ (k + 1) = 2 * (M * (M * (2 * M) ^ k)) := by
      rw [Nat.pow_succ]
      ac_rfl
    omega
/-- it is a division -/
theorem qe_rel {F B : pz_P} {db gap : Nat} (hB : ∀ i, db < i → B i = 0) (hF : ∀ i, db + gap < i → F i = 0) : ∀ k, k ≤ gap + 1 → pz_sc ((B db) ^ k) F = pz_add (pz_mul (qe F B db gap k) B) (er F B db gap k)
  | 0, _ => by
    rw [Int.pow_zero, pz_sc_one, show qe F B db gap 0 = pz_0 from rfl, pz_mul_0L]
    funext i
    show F i = 0 + F i
    omega
  | k + 1, hk => by
    have hQ := qe_rel hB hF k (by omega)
    have e := (elw_top (F := er F B db gap k) (db := db) (s := gap - k) hB (fun i hi => er_top hB hF k (by omega) i (by omega))).1
    rw [show qe F B db gap (k + 1) = pz_add (pz_sc (B db) (qe F B db gap k)) (pz_mono (gap - k) (er F B db gap k (db + (gap - k)))) from rfl, Int.pow_succ, Int.mul_comm]
    refine jdv_next (lc := B db) (m := gap - k) (t := er F B db gap k (db + (gap - k))) hQ rfl ?_
    funext i
    show elw (er F B db gap k) B db (gap - k) i = B db * er F B db gap k i + -1 * pz_c i (pz_mono (gap - k) (er F B db gap k (db + (gap - k)))) B
    rw [e i, pz_mono_mul]
    unfold pz_sh
    by_cases c : i < gap - k
    · rw [if_pos c, if_neg (by omega), Int.mul_zero, Int.mul_zero]
      omega
    · rw [if_neg c, if_pos (by omega)]
      omega
def m18 : Nat := 999999999999999999
theorem m18_1 : ∀ k, k < 14 → m18 * (2 * m18) ^ k < jB ^ 29 := by decide +kernel
/-- and two rows -/
def FXu (t u : Nat) (X X1 : Nat → Nat → Int) : Prop := ∀ a, a ≠ t → a ≠ u → cK a ≠ 13 → cK a ≠ 15 → cK a ≠ 16 → (a < 180 ∨ 444 ≤ a) → X1 a = X a
section MDV
variable {g h : mj_H} {n D a c t u : Nat} {V : Nat → Int} {X : Nat → Nat → Int}
theorem mD_dv_end {db : Nat} {l5 l6 : Option Value} {V1 : Nat → Int} {hh1 : mj_H} (ka : cK a = 2) (kc : cK c = 2) (kt : cK t = 2) (ku : cK u = 2) (htu : t ≠ u) (sa : sml (X a)) (sc : sml (X c)) (hc : fdg (X c) 13 = db + 1) (m : jM g n V1 (xup (xup (xup X 80 2 ((fdg (X a) 13 : Int) - 1)) 50 2 (db : Int)) 20 2 (-1)) hh1) (dg1 : DG (xup (xup (xup X 80 2 ((fdg (X a) 13 : Int) - 1)) 50 2 (db : Int)) 20 2 (-1))) (fx1 : FX X (xup (xup (xup X 80 2 ((fdg (X a) 13 : Int) - 1)) 50 2 (db : Int)) 20 2 (-1))) : (∀ e, e < 13 → V1 (80 + 4 + 2 * e) = er (rw13 (X a)) (rw13 (X c)) db ((fdg (X a) 13 - db) - 1) (fdg (X a) 13 - db) e) → (∀ e, e < 13 → V1 (20 + 4 + 2 * e) = qe (rw13 (X a)) (rw13 (X c)) db ((fdg (X a) 13 - db) - 1) (fdg (X a) 13 - db) e) → (∀ e, e < 13 → V1 (50 + 4 + 2 * e) = X c e) → by0 V1 → mj_T (D + 3) mj_m16 159 [some (.ref 19), some (.ref a), some (.ref c), some (.ref t), some (.ref u), l5, l6] [] hh1 (fun z => ∃ (V2 : Nat → Int) (X2 : Nat → Nat → Int) (h2 : mj_H), jM g n V2 X2 h2 ∧ by0 V2 ∧ DG X2 ∧ FXu t u X X2 ∧ ((fit13 (qe (rw13 (X a)) (rw13 (X c)) db ((fdg (X a) 13 - db) - 1) (fdg (X a) 13 - db)) ∧ fit13 (er (rw13 (X a)) (rw13 (X c)) db ((fdg (X a) 13 - db) - 1) (fdg (X a) 13 - db)) ∧ z = (.inl (some (.int (jn 1))), h2) ∧ (∀ i, i < 13 → X2 t i = (qe (rw13 (X a)) (rw13 (X c)) db ((fdg (X a) 13 - db) - 1) (fdg (X a) 13 - db)) i) ∧ ∀ i, i < 13 → X2 u i = (er (rw13 (X a)) (rw13 (X c)) db ((fdg (X a) 13 - db) - 1) (fdg (X a) 13 - db)) i) ∨ (¬ (fit13 (qe (rw13 (X a)) (rw13 (X c)) db ((fdg (X a) 13 - db) - 1) (fdg (X a) 13 - db)) ∧ fit13 (er (rw13 (X a)) (rw13 (X c)) db ((fdg (X a) 13 - db) - 1) (fdg (X a) 13 - db))) ∧ z = (.inl (some (.int (jn 0))), h2)))) := by
  intro e1 e2 e3 b1
  have p20 : cL (20 + 3) = 13 := mK_z.1
  have p50 : cL (50 + 3) = 13 := mK_z.2.1
  have p80 : cL (80 + 3) = 13 := mK_z.2.2.1
  have hfa := fdg_le (X a) 13
  have hfc := fdg_le (X c) 13
  have hFM : ∀ e, (rw13 (X a) e).natAbs ≤ m18 := rw13_abs sa
  have hBM : ∀ e, (rw13 (X c) e).natAbs ≤ m18 := rw13_abs sc
  have hBz : ∀ i, db < i → rw13 (X c) i = 0 := fun i hi => rw13_top i (by omega)
  have hFz : ∀ i, db + (fdg (X a) 13 - db - 1) < i → rw13 (X a) i = 0 := fun i hi => rw13_top i (by omega)
  have hfi := pok_fit (V := V1) (p := 20) (m := 13) p20.symm (by decide) (qe (rw13 (X a)) (rw13 (X c)) db ((fdg (X a) 13 - db) - 1) (fdg (X a) 13 - db)) (fun j hj => e2 j hj) (fun j hj => qe_hi _ _ _ _ _ _ (by omega))
  have hfr := pok_fit (V := V1) (p := 80) (m := 13) p80.symm (by decide) (er (rw13 (X a)) (rw13 (X c)) db ((fdg (X a) 13 - db) - 1) (fdg (X a) 13 - db)) (fun j hj => e1 j hj) (fun j hj => er_top hBz hFz _ (by omega) j (by omega))
  iterate 1 refine mj_T.pl rfl rfl rfl rfl ?_
  refine mT_get m 11 cq_d19 (by decide) rfl rfl ?_
  refine mj_T.pl rfl rfl rfl rfl ?_
  refine mj_T.call rfl rfl (Nat.le_of_ble_eq_true rfl) (Nat.le_of_ble_eq_true rfl) (mV_of m 13 cq_d20 (by decide) rfl (by decide) rfl _) rfl (mj_Ok.up (by omega) (mP_store (D := 0) m cq_d20 (fun e he => by rw [p20] at he; rw [e2 e he]; exact Nat.le_trans (jnl_B (qe_abs hFM hBM (by decide) _ e) (m18_1 _ (by omega))) (by decide)) kt (by omega))) (fun v g1 hq => ?_) (fun i g1 hq => ?_)
  rotate_left
  · rcases hq with ⟨_, _, _, hq⟩ | ⟨_, hq⟩ <;> cases hq
  rcases hq with ⟨ho, _, m8, hq⟩ | ⟨ho, hq⟩
  · cases hq
    refine mj_T.eq (pc2 := 167) (st2 := [.int (jn 1)]) ?_ rfl rfl rfl rfl
    refine mj_T.if0 (a := 1) rfl ⟨by omega, by omega⟩ (fun c131 => ?_) (fun c131 => ?_)
    · exfalso
      simp [jc] at c131
    · simp only [jc, Bool.not_eq_true', Bool.not_eq_false', decide_eq_true_eq, decide_eq_false_iff_not] at c131
      refine mj_T.pl rfl rfl rfl rfl ?_
      refine mT_get m8 11 cq_d19 (by decide) rfl rfl ?_
      refine mj_T.pl rfl rfl rfl rfl ?_
      refine mj_T.call rfl rfl (Nat.le_of_ble_eq_true rfl) (Nat.le_of_ble_eq_true rfl) (mV_of m8 13 cq_d80 (by decide) rfl (by decide) rfl _) rfl (mj_Ok.up (by omega) (mP_store (D := 0) m8 cq_d80 (fun e he => by rw [p80] at he; rw [e1 e he]; exact Nat.le_trans (jnl_B (er_abs hFM hBM (by decide) _ e) (m18_1 _ (by omega))) (by decide)) ku (by omega))) (fun v g1 hq => ?_) (fun i g1 hq => ?_)
      rotate_left
      · rcases hq with ⟨_, _, _, hq⟩ | ⟨_, hq⟩ <;> cases hq
      rcases hq with ⟨ho2, _, m9, hq⟩ | ⟨ho2, hq⟩
      · cases hq
        refine mj_T.eq (pc2 := 179) (st2 := [.int (jn 1)]) ?_ rfl rfl rfl rfl
        refine mj_T.if0 (a := 1) rfl ⟨by omega, by omega⟩ (fun c172 => ?_) (fun c172 => ?_)
        · exfalso
          simp [jc] at c172
        · simp only [jc, Bool.not_eq_true', Bool.not_eq_false', decide_eq_true_eq, decide_eq_false_iff_not] at c172
          iterate 2 refine mj_T.pl rfl rfl rfl rfl ?_
          refine mj_T.ret rfl rfl rfl ⟨V1, _, _, m9, b1, (dg1.row kt).row ku, fun x x1 x2 x3 x4 x5 x6 => ?_, Or.inl ⟨hfi.mp ho, hfr.mp ho2, rfl, fun i hi => ?_, fun i hi => ?_⟩⟩
          · rw [xfl_off _ _ _ x2, xfl_off _ _ _ x1]
            exact fx1 x x3 x4 x5 x6
          · rw [xfl_off _ _ _ htu, xfl_at _ _ _ hi]
            exact e2 i hi
          · rw [xfl_at _ _ _ hi]
            exact e1 i hi
      · cases hq
        refine mj_T.eq (pc2 := 179) (st2 := [.int (jn 0)]) ?_ rfl rfl rfl rfl
        refine mj_T.if0 (a := 0) rfl ⟨by omega, by omega⟩ (fun c171 => ?_) (fun c171 => ?_)
        · simp only [jc, Bool.not_eq_true', Bool.not_eq_false', decide_eq_true_eq, decide_eq_false_iff_not] at c171
          refine mj_T.pl rfl rfl rfl rfl ?_
          refine mj_T.ret rfl rfl rfl ⟨V1, _, _, m8, b1, dg1.row kt, fun x x1 x2 x3 x4 x5 x6 => ?_, Or.inr ⟨fun y => ho2 (hfr.mpr y.2), rfl⟩⟩
          rw [xfl_off _ _ _ x1]
          exact fx1 x x3 x4 x5 x6
        · exfalso
          simp [jc] at c171
  · cases hq
    refine mj_T.eq (pc2 := 167) (st2 := [.int (jn 0)]) ?_ rfl rfl rfl rfl
    refine mj_T.if0 (a := 0) rfl ⟨by omega, by omega⟩ (fun c151 => ?_) (fun c151 => ?_)
    · simp only [jc, Bool.not_eq_true', Bool.not_eq_false', decide_eq_true_eq, decide_eq_false_iff_not] at c151
      refine mj_T.pl rfl rfl rfl rfl ?_
      exact mj_T.ret rfl rfl rfl ⟨V1, _, _, m, b1, dg1, fun x x1 x2 x3 x4 x5 x6 => fx1 x x3 x4 x5 x6, Or.inr ⟨fun y => ho (hfi.mpr y.1), rfl⟩⟩
    · exfalso
      simp [jc] at c151
theorem mD_dv_in {db v M : Nat} {V0 : Nat → Int} {W : pz_P} (kt : cK t = 2) (ku : cK u = 2) (hdb : db < 13) (hW : ∀ e, (W e).natAbs ≤ M) (hBM : ∀ e, (rw13 (X c) e).natAbs ≤ m18) (hfit : m18 * M < jB ^ 29) (hM : M < jB ^ 29) (hv : v < 13) (hV5 : ∀ e, e < 13 → V0 (50 + 4 + 2 * e) = X c e) {Q : mj_R → Prop} (hend : ∀ (V1 : Nat → Int) (h1 : mj_H), jM g n V1 (xup (xup (xup X 80 2 ((fdg (X a) 13 : Int) - 1)) 50 2 (db : Int)) 20 2 (-1)) h1 → (∀ e, e < 13 → V1 (20 + 4 + 2 * e) = if v + 1 ≤ e then (rw13 (X c)) db * W e else W e) → (∀ x, x ≠ 164 → (x < 20 + 4 ∨ 20 + 4 + 2 * 13 ≤ x) → V1 x = V0 x) → mj_T (D + 3) mj_m16 110 [some (.ref 19), some (.ref a), some (.ref c), some (.ref t), some (.ref u), some (.int (jn (v : Int))), some (.int (jn ((13 : Nat) : Int)))] [] h1 Q) : ∀ k i, i + k = 13 → v + 1 ≤ i → ∀ (V1 : Nat → Int) (h1 : mj_H), jM g n V1 (xup (xup (xup X 80 2 ((fdg (X a) 13 : Int) - 1)) 50 2 (db : Int)) 20 2 (-1)) h1 → (∀ e, e < 13 → V1 (20 + 4 + 2 * e) = if v + 1 ≤ e ∧ e < i then (rw13 (X c)) db * W e else W e) → (∀ x, x ≠ 164 → (x < 20 + 4 ∨ 20 + 4 + 2 * 13 ≤ x) → V1 x = V0 x) → mj_T (D + 3) mj_m16 53 [some (.ref 19), some (.ref a), some (.ref c), some (.ref t), some (.ref u), some (.int (jn (v : Int))), some (.int (jn (i : Int)))] [] h1 Q
  | 0, i, hi, hvi, V1, hh1, m, e1, e3 => by
    have p20 : cL (20 + 3) = 13 := mK_z.1
    have p50 : cL (50 + 3) = 13 := mK_z.2.1
    have c1 : cL (164 + 1) = 240 := mK_z.2.2.2.2.2.2.2.1
    iterate 2 refine mj_T.pl rfl rfl rfl rfl ?_
    refine mT_get m 11 cq_d19 (by decide) rfl rfl ?_
    refine mj_T.call rfl rfl (Nat.le_of_ble_eq_true rfl) (Nat.le_of_ble_eq_true rfl) (mV_of m 13 cq_d20 (by decide) rfl (by decide) rfl _) rfl (mj_Ok.up (by omega) (mP_highest (D := 0) m cq_d20)) (fun v g1 hq => ?_) (fun i g1 hq => ?_)
    rotate_left
    · cases hq
    cases hq
    refine mj_T.eq (pc2 := 62) (st2 := [.int (jn ((cL (20 + 3) : Int) - 1)), .int (jn ((i : Nat) : Int))]) ?_ rfl rfl rfl rfl
    refine mj_T.icmp (a := ((i : Nat) : Int)) (b := ((cL (20 + 3) : Int) - 1)) rfl ⟨by omega, by omega⟩ ⟨by omega, by omega⟩ (fun c2 => ?_) (fun c2 => ?_)
    · simp only [jc, Bool.not_eq_true', Bool.not_eq_false', decide_eq_true_eq, decide_eq_false_iff_not] at c2
      have hi2 : i = 13 := by omega
      subst hi2
      refine hend V1 _ m (fun e he => ?_) e3
      rw [e1 e he]
      by_cases y : v + 1 ≤ e
      · rw [if_pos ⟨y, he⟩, if_pos y]
      · rw [if_neg (fun z => y z.1), if_neg y]
    · exfalso
      simp only [jc, Bool.not_eq_true', Bool.not_eq_false', decide_eq_true_eq, decide_eq_false_iff_not] at c2
      omega
  | k + 1, i, hi, hvi, V1, hh1, m, e1, e3 => by
    have p20 : cL (20 + 3) = 13 := mK_z.1
    have p50 : cL (50 + 3) = 13 := mK_z.2.1
    have c1 : cL (164 + 1) = 240 := mK_z.2.2.2.2.2.2.2.1
    have ei : V1 (20 + 4 + 2 * i) = W i := by
      rw [e1 i (by omega), if_neg (fun z => by omega)]
    have ed : V1 (50 + 4 + 2 * db) = rw13 (X c) db := by
      rw [e3 _ (by omega) (by omega), hV5 db (by omega), rw13_in (by omega)]
    have hpr : jnl (W i * rw13 (X c) db).natAbs ≤ 29 := by
      refine jnl_B (al := m18 * M) ?_ hfit
      rw [Int.natAbs_mul, Nat.mul_comm]
      exact Nat.mul_le_mul (hBM db) (hW i)
    iterate 2 refine mj_T.pl rfl rfl rfl rfl ?_
    refine mT_get m 11 cq_d19 (by decide) rfl rfl ?_
    refine mj_T.call rfl rfl (Nat.le_of_ble_eq_true rfl) (Nat.le_of_ble_eq_true rfl) (mV_of m 13 cq_d20 (by decide) rfl (by decide) rfl _) rfl (mj_Ok.up (by omega) (mP_highest (D := 0) m cq_d20)) (fun v g1 hq => ?_) (fun i g1 hq => ?_)
    rotate_left
    · cases hq
    cases hq
    refine mj_T.eq (pc2 := 62) (st2 := [.int (jn ((cL (20 + 3) : Int) - 1)), .int (jn ((i : Nat) : Int))]) ?_ rfl rfl rfl rfl
    refine mj_T.icmp (a := ((i : Nat) : Int)) (b := ((cL (20 + 3) : Int) - 1)) rfl ⟨by omega, by omega⟩ ⟨by omega, by omega⟩ (fun c2 => ?_) (fun c2 => ?_)
    · exfalso
      simp only [jc, Bool.not_eq_true', Bool.not_eq_false', decide_eq_true_eq, decide_eq_false_iff_not] at c2
      omega
    · simp only [jc, Bool.not_eq_true', Bool.not_eq_false', decide_eq_true_eq, decide_eq_false_iff_not] at c2
      refine mj_T.pl rfl rfl rfl rfl ?_
      refine mT_get m 11 cq_d19 (by decide) rfl rfl ?_
      refine mj_T.pl rfl rfl rfl rfl ?_
      refine mT_get m 11 cq_d19 (by decide) rfl rfl ?_
      refine mj_T.pl rfl rfl rfl rfl ?_
      refine mj_T.call rfl rfl (Nat.le_of_ble_eq_true rfl) (Nat.le_of_ble_eq_true rfl) (mV_of m 13 cq_d20 (by decide) rfl (by decide) rfl _) rfl (mj_Ok.up (by omega) (mP_at (D := 0) m cq_d20 (e := i) (by omega))) (fun v g3 hq => ?_) (fun i g3 hq => ?_)
      rotate_left
      · cases hq
      cases hq
      refine mj_T.eq (pc2 := 78) (st2 := [.ref (20 + 4 + 2 * i), .ref 164]) ?_ rfl rfl rfl rfl
      refine mj_T.pl rfl rfl rfl rfl ?_
      refine mT_get m 11 cq_d19 (by decide) rfl rfl ?_
      refine mj_T.call rfl rfl (Nat.le_of_ble_eq_true rfl) (Nat.le_of_ble_eq_true rfl) (mV_of m 13 cq_d50 (by decide) rfl (by decide) rfl _) rfl (mj_Ok.up (by omega) (mP_lead (D := 0) m cq_d50 ((congrFun (xup_oth (by decide)) 2).trans (xup_at _ _ _ _)) (by omega))) (fun v g4 hq => ?_) (fun i g4 hq => ?_)
      rotate_left
      · cases hq
      cases hq
      refine mj_T.eq (pc2 := 85) (st2 := [.ref (50 + 4 + 2 * db), .ref (20 + 4 + 2 * i), .ref 164]) ?_ rfl rfl rfl rfl
      refine mj_T.call rfl rfl (Nat.le_of_ble_eq_true rfl) (Nat.le_of_ble_eq_true rfl) (mV_of m 18 cq_d164 (by decide) rfl (by decide) rfl _) rfl (mj_Ok.up (by omega) (mW_setProduct (D := 0) m cq_d164 ((mK_p cq_d20).2.2.2 _ (by omega)) ((mK_p cq_d50).2.2.2 db (by omega)) (by omega) (by omega) (by omega) (by rw [(rfl : V1 (20 + 4 + 2 * i) = _), (rfl : V1 (50 + 4 + 2 * db) = _)]; exact (by rw [ei, ed]; exact Nat.le_trans hpr (by omega))) (hca := by rw [(rfl : V1 (20 + 4 + 2 * i) = _)]; rw [ei]; exact Nat.le_trans (jnl_B (hW i) hM) (by decide)) (hcb := by rw [(rfl : V1 (50 + 4 + 2 * db) = _)]; rw [ed]; exact Nat.le_trans (jnl_B (hBM db) (Nat.lt_of_le_of_lt (Nat.le_refl _) (show m18 < jB ^ 29 by decide +kernel))) (by decide)))) (fun v g5 hq => ?_) (fun i g5 hq => ?_)
      rotate_left
      · obtain ⟨_, _, hq⟩ := hq; cases hq
      obtain ⟨_, m6, hq⟩ := hq
      cases hq
      have m6 := m6.to (V' := (jvu V1 164 ((V1 (20 + 4 + 2 * i)) * (V1 (50 + 4 + 2 * db))))) (by rw [(rfl : V1 (20 + 4 + 2 * i) = _), (rfl : V1 (50 + 4 + 2 * db) = _)]) rfl
      refine mj_T.eq (pc2 := 88) (st2 := []) ?_ rfl rfl rfl rfl
      refine mj_T.pl rfl rfl rfl rfl ?_
      refine mT_get m6 11 cq_d19 (by decide) rfl rfl ?_
      refine mj_T.pl rfl rfl rfl rfl ?_
      refine mj_T.call rfl rfl (Nat.le_of_ble_eq_true rfl) (Nat.le_of_ble_eq_true rfl) (mV_of m6 13 cq_d20 (by decide) rfl (by decide) rfl _) rfl (mj_Ok.up (by omega) (mP_at (D := 0) m6 cq_d20 (e := i) (by omega))) (fun v g7 hq => ?_) (fun i g7 hq => ?_)
      rotate_left
      · cases hq
      cases hq
      refine mj_T.eq (pc2 := 97) (st2 := [.ref (20 + 4 + 2 * i)]) ?_ rfl rfl rfl rfl
      refine mj_T.pl rfl rfl rfl rfl ?_
      refine mT_get m6 11 cq_d19 (by decide) rfl rfl ?_
      refine mj_T.call rfl rfl (Nat.le_of_ble_eq_true rfl) (Nat.le_of_ble_eq_true rfl) (mV_of m6 18 ((mK_p cq_d20).2.2.2 _ (by omega)) (by decide) rfl (by decide) rfl _) rfl (mj_Ok.up (by omega) (mW_set (D := 0) m6 ((mK_p cq_d20).2.2.2 _ (by omega)) cq_d164 (by omega) (by rw [(jvu_at _ _ _)]; exact (by rw [ei, ed, (mK_z.2.2.2.2.1 i (by omega)).1]; exact Nat.le_trans hpr (by decide))))) (fun v g8 hq => ?_) (fun i g8 hq => ?_)
      rotate_left
      · obtain ⟨_, _, hq⟩ := hq; cases hq
      obtain ⟨_, m9, hq⟩ := hq
      cases hq
      have m9 := m9.to (V' := (jvu (jvu V1 164 ((V1 (20 + 4 + 2 * i)) * (V1 (50 + 4 + 2 * db)))) (20 + 4 + 2 * i) ((V1 (20 + 4 + 2 * i)) * (V1 (50 + 4 + 2 * db))))) (by rw [(jvu_at _ _ _)]) rfl
      refine mj_T.eq (pc2 := 104) (st2 := []) ?_ rfl rfl rfl rfl
      refine mj_T.iinc rfl rfl ?_
      rw [show ((i : Nat) : Int) + 1 = ((i + 1 : Nat) : Int) by omega]
      refine mj_T.eq (loc2 := [some (.ref 19), some (.ref a), some (.ref c), some (.ref t), some (.ref u), some (.int (jn ((v : Nat) : Int))), some (.int (jn (((i + 1) : Nat) : Int)))]) ?_ rfl rfl rfl rfl
      refine mj_T.pl rfl rfl rfl rfl ?_
      refine mD_dv_in kt ku hdb hW hBM hfit hM hv hV5 hend k (i + 1) (by omega) (by omega) _ _ m9 (fun e he => ?_) (fun x x1 x2 => ?_)
      · by_cases q : e = i
        · subst q
          rw [jvu_at, ei, ed, if_pos ⟨by omega, by omega⟩, Int.mul_comm]
        · rw [jvu_ne _ _ _ (by omega), jvu_ne _ _ _ (by omega), e1 e he]
          by_cases y : v + 1 ≤ e ∧ e < i
          · rw [if_pos y, if_pos (by omega)]
          · rw [if_neg y, if_neg (by omega)]
      · rw [jvu_ne _ _ _ (by omega), jvu_ne _ _ _ x1]
        exact e3 x x1 x2
theorem mD_dv_out {db : Nat} (ka : cK a = 2) (kc : cK c = 2) (kt : cK t = 2) (ku : cK u = 2) (htu : t ≠ u) (sa : sml (X a)) (sc : sml (X c)) (hc : fdg (X c) 13 = db + 1) : ∀ v k, k + v = (fdg (X a) 13 - db) → ∀ (V1 : Nat → Int) (hh1 : mj_H) (l6 : Option Value), jM g n V1 (xup (xup (xup X 80 2 ((fdg (X a) 13 : Int) - 1)) 50 2 (db : Int)) 20 2 (-1)) hh1 → DG (xup (xup (xup X 80 2 ((fdg (X a) 13 : Int) - 1)) 50 2 (db : Int)) 20 2 (-1)) → FX X (xup (xup (xup X 80 2 ((fdg (X a) 13 : Int) - 1)) 50 2 (db : Int)) 20 2 (-1)) → (∀ e, e < 13 → V1 (80 + 4 + 2 * e) = er (rw13 (X a)) (rw13 (X c)) db ((fdg (X a) 13 - db) - 1) k e) → (∀ e, e < 13 → V1 (20 + 4 + 2 * e) = qe (rw13 (X a)) (rw13 (X c)) db ((fdg (X a) 13 - db) - 1) k e) → (∀ e, e < 13 → V1 (50 + 4 + 2 * e) = X c e) → by0 V1 → mj_T (D + 4) mj_m16 42 [some (.ref 19), some (.ref a), some (.ref c), some (.ref t), some (.ref u), some (.int (jn ((v : Int) - 1))), l6] [] hh1 (fun z => ∃ (V2 : Nat → Int) (X2 : Nat → Nat → Int) (h2 : mj_H), jM g n V2 X2 h2 ∧ by0 V2 ∧ DG X2 ∧ FXu t u X X2 ∧ ((fit13 (qe (rw13 (X a)) (rw13 (X c)) db ((fdg (X a) 13 - db) - 1) (fdg (X a) 13 - db)) ∧ fit13 (er (rw13 (X a)) (rw13 (X c)) db ((fdg (X a) 13 - db) - 1) (fdg (X a) 13 - db)) ∧ z = (.inl (some (.int (jn 1))), h2) ∧ (∀ i, i < 13 → X2 t i = (qe (rw13 (X a)) (rw13 (X c)) db ((fdg (X a) 13 - db) - 1) (fdg (X a) 13 - db)) i) ∧ ∀ i, i < 13 → X2 u i = (er (rw13 (X a)) (rw13 (X c)) db ((fdg (X a) 13 - db) - 1) (fdg (X a) 13 - db)) i) ∨ (¬ (fit13 (qe (rw13 (X a)) (rw13 (X c)) db ((fdg (X a) 13 - db) - 1) (fdg (X a) 13 - db)) ∧ fit13 (er (rw13 (X a)) (rw13 (X c)) db ((fdg (X a) 13 - db) - 1) (fdg (X a) 13 - db))) ∧ z = (.inl (some (.int (jn 0))), h2))))
  | 0, k, hk, V1, hh1, l6, m, dg1, fx1, e1, e2, e3, b1 => by
    have p20 : cL (20 + 3) = 13 := mK_z.1
    have p50 : cL (50 + 3) = 13 := mK_z.2.1
    have p80 : cL (80 + 3) = 13 := mK_z.2.2.1
    have hfa := fdg_le (X a) 13
    have hfc := fdg_le (X c) 13
    have hFM : ∀ e, (rw13 (X a) e).natAbs ≤ m18 := rw13_abs sa
    have hBM : ∀ e, (rw13 (X c) e).natAbs ≤ m18 := rw13_abs sc
    have hBz : ∀ i, db < i → rw13 (X c) i = 0 := fun i hi => rw13_top i (by omega)
    have hFz : ∀ i, db + (fdg (X a) 13 - db - 1) < i → rw13 (X a) i = 0 := fun i hi => rw13_top i (by omega)
    refine mj_T.pl rfl rfl rfl rfl ?_
    refine mj_T.if0 (a := (((0 : Nat) : Int) - 1)) rfl ⟨by omega, by omega⟩ (fun c1 => ?_) (fun c1 => ?_)
    · simp only [jc, Bool.not_eq_true', Bool.not_eq_false', decide_eq_true_eq, decide_eq_false_iff_not] at c1
      have hk : k = fdg (X a) 13 - db := by omega
      subst hk
      exact mD_dv_end (D := D + 1) ka kc kt ku htu sa sc hc m dg1 fx1 e1 e2 e3 b1
    · exfalso
      simp only [jc, Bool.not_eq_true', Bool.not_eq_false', decide_eq_true_eq, decide_eq_false_iff_not] at c1
      omega
  | v + 1, k, hk, V1, hh1, l6, m, dg1, fx1, e1, e2, e3, b1 => by
    have p20 : cL (20 + 3) = 13 := mK_z.1
    have p50 : cL (50 + 3) = 13 := mK_z.2.1
    have p80 : cL (80 + 3) = 13 := mK_z.2.2.1
    have hfa := fdg_le (X a) 13
    have hfc := fdg_le (X c) 13
    have hFM : ∀ e, (rw13 (X a) e).natAbs ≤ m18 := rw13_abs sa
    have hBM : ∀ e, (rw13 (X c) e).natAbs ≤ m18 := rw13_abs sc
    have hBz : ∀ i, db < i → rw13 (X c) i = 0 := fun i hi => rw13_top i (by omega)
    have hFz : ∀ i, db + (fdg (X a) 13 - db - 1) < i → rw13 (X a) i = 0 := fun i hi => rw13_top i (by omega)
    have hfm : m18 * (m18 * (2 * m18) ^ k) < jB ^ 29 := by
      have h1 : m18 * (m18 * (2 * m18) ^ k) ≤ m18 * (2 * m18) ^ (k + 1) := by
        rw [Nat.pow_succ]
        refine Nat.mul_le_mul_left _ ?_
        rw [Nat.mul_comm]
        exact Nat.mul_le_mul_left _ (by decide)
      exact Nat.lt_of_le_of_lt h1 (m18_1 (k + 1) (by omega))
    have hfe : 2 * (m18 * (2 * m18) ^ k * m18) < jB ^ 236 := by
      have h1 : 2 * (m18 * (2 * m18) ^ k * m18) = m18 * (2 * m18) ^ (k + 1) := by
        rw [Nat.pow_succ]
        ac_rfl
      have h2 := m18_1 (k + 1) (by omega)
      have h3 : jB ^ 29 ≤ jB ^ 236 := Nat.pow_le_pow_right (by decide) (by decide)
      omega
    rw [show ((v + 1 : Nat) : Int) - 1 = (v : Int) by omega]
    refine mj_T.pl rfl rfl rfl rfl ?_
    refine mj_T.if0 (a := ((v : Nat) : Int)) rfl ⟨by omega, by omega⟩ (fun c1 => ?_) (fun c1 => ?_)
    · exfalso
      simp only [jc, Bool.not_eq_true', Bool.not_eq_false', decide_eq_true_eq, decide_eq_false_iff_not] at c1
      omega
    · simp only [jc, Bool.not_eq_true', Bool.not_eq_false', decide_eq_true_eq, decide_eq_false_iff_not] at c1
      iterate 2 refine mj_T.pl rfl rfl rfl rfl ?_
      refine mj_T.iadd (a := ((v : Nat) : Int)) (b := 1) rfl ?_
      refine mj_T.pl (loc' := [some (.ref 19), some (.ref a), some (.ref c), some (.ref t), some (.ref u), some (.int (jn ((v : Nat) : Int))), some (.int (jn (((v : Nat) : Int) + 1)))]) rfl rfl rfl rfl ?_
      rw [show ((v : Nat) : Int) + 1 = ((v + 1 : Nat) : Int) by omega]
      refine mD_dv_in (D := D + 1) (V0 := V1) (W := qe (rw13 (X a)) (rw13 (X c)) db (fdg (X a) 13 - db - 1) k) (M := m18 * (2 * m18) ^ k) kt ku (by omega) (qe_abs hFM hBM (by decide) k) hBM hfm (m18_1 k (by omega)) (by omega) e3 (fun V3 h3 m3 f1 f2 => ?_) (12 - v) (v + 1) (by omega) (Nat.le_refl _) _ _ m (fun e he => ?_) (fun _ _ _ => rfl)
      rotate_left
      · rw [e2 e he, if_neg (fun z => by omega)]
      have et : V3 (80 + 4 + 2 * (db + v)) = er (rw13 (X a)) (rw13 (X c)) db (fdg (X a) 13 - db - 1) k (db + v) := by
        rw [f2 _ (by omega) (by omega)]
        exact e1 _ (by omega)
      refine mj_T.pl rfl rfl rfl rfl ?_
      refine mT_get m3 11 cq_d19 (by decide) rfl rfl ?_
      refine mj_T.pl rfl rfl rfl rfl ?_
      refine mj_T.call rfl rfl (Nat.le_of_ble_eq_true rfl) (Nat.le_of_ble_eq_true rfl) (mV_of m3 13 cq_d20 (by decide) rfl (by decide) rfl _) rfl (mj_Ok.up (by omega) (mP_at (D := 0) m3 cq_d20 (e := v) (by omega))) (fun v g61 hq => ?_) (fun i g61 hq => ?_)
      rotate_left
      · cases hq
      cases hq
      refine mj_T.eq (pc2 := 119) (st2 := [.ref (20 + 4 + 2 * v)]) ?_ rfl rfl rfl rfl
      refine mj_T.pl rfl rfl rfl rfl ?_
      refine mT_get m3 11 cq_d19 (by decide) rfl rfl ?_
      refine mj_T.pl rfl rfl rfl rfl ?_
      refine mT_get m3 11 cq_d19 (by decide) rfl rfl ?_
      refine mT_get (v := .int (jn ((db : Nat) : Int))) m3 13 cq_d50 (by decide) rfl (congrArg (fun z : Int => some (Value.int (jn z))) ((congrFun (xup_oth (by decide)) 2).trans (xup_at _ _ _ _))) ?_
      refine mj_T.pl rfl rfl rfl rfl ?_
      refine mj_T.iadd (a := ((db : Nat) : Int)) (b := ((v : Nat) : Int)) rfl ?_
      rw [show (((db : Nat) : Int) + ((v : Nat) : Int)) = ((db + v : Nat) : Int) by omega]
      refine mj_T.call rfl rfl (Nat.le_of_ble_eq_true rfl) (Nat.le_of_ble_eq_true rfl) (mV_of m3 13 cq_d80 (by decide) rfl (by decide) rfl _) rfl (mj_Ok.up (by omega) (mP_at (D := 0) m3 cq_d80 (e := db + v) (by omega))) (fun v g62 hq => ?_) (fun i g62 hq => ?_)
      rotate_left
      · cases hq
      cases hq
      refine mj_T.eq (pc2 := 136) (st2 := [.ref (80 + 4 + 2 * (db + v)), .ref (20 + 4 + 2 * v)]) ?_ rfl rfl rfl rfl
      refine mj_T.call rfl rfl (Nat.le_of_ble_eq_true rfl) (Nat.le_of_ble_eq_true rfl) (mV_of m3 18 ((mK_p cq_d20).2.2.2 _ (by omega)) (by decide) rfl (by decide) rfl _) rfl (mj_Ok.up (by omega) (mW_set (D := 0) m3 ((mK_p cq_d20).2.2.2 _ (by omega)) ((mK_p cq_d80).2.2.2 _ (by omega)) (by omega) (by rw [(rfl : V3 (80 + 4 + 2 * (db + v)) = _)]; exact (by rw [et, (mK_z.2.2.2.2.1 v (by omega)).1]; exact Nat.le_trans (jnl_B (er_abs hFM hBM (by decide) k _) (m18_1 k (by omega))) (by decide))))) (fun v g63 hq => ?_) (fun i g63 hq => ?_)
      rotate_left
      · obtain ⟨_, _, hq⟩ := hq; cases hq
      obtain ⟨_, m64, hq⟩ := hq
      cases hq
      have m64 := m64.to (V' := (jvu V3 (20 + 4 + 2 * v) (V3 (80 + 4 + 2 * (db + v))))) (by rw [(rfl : V3 (80 + 4 + 2 * (db + v)) = _)]) rfl
      refine mj_T.eq (pc2 := 139) (st2 := []) ?_ rfl rfl rfl rfl
      iterate 2 refine mj_T.pl rfl rfl rfl rfl ?_
      refine mT_get m64 11 cq_d19 (by decide) rfl rfl ?_
      refine mj_T.pl rfl rfl rfl rfl ?_
      refine mT_get m64 11 cq_d19 (by decide) rfl rfl ?_
      refine mj_T.pl rfl rfl rfl rfl ?_
      have hVV : ∀ e, e < 13 → ((jvu V3 (20 + 4 + 2 * v) (V3 (80 + 4 + 2 * (db + v))))) (80 + 4 + 2 * e) = er (rw13 (X a)) (rw13 (X c)) db (fdg (X a) 13 - db - 1) k e := fun e he => by
        rw [jvu_ne _ _ _ (by omega), f2 _ (by omega) (by omega)]
        exact e1 e he
      have hVB : ∀ e, e < 13 → ((jvu V3 (20 + 4 + 2 * v) (V3 (80 + 4 + 2 * (db + v))))) (50 + 4 + 2 * e) = X c e := fun e he => by
        rw [jvu_ne _ _ _ (by omega), f2 _ (by omega) (by omega)]
        exact e3 e he
      refine mj_T.call rfl rfl (Nat.le_of_ble_eq_true rfl) (Nat.le_of_ble_eq_true rfl) (mV_of m64 11 cq_d19 (by decide) rfl (by decide) rfl _) rfl (mj_Ok.up (by omega) (mD_elim (D := 0) (db := db) (s := v) (al := m18 * (2 * m18) ^ k) (be := m18) m64 cq_d50 (by decide) ((congrFun (xup_oth (by decide)) 2).trans (xup_at _ _ _ _)) (by omega) (by omega) (fun e he => by rw [hVV e he]; exact er_abs hFM hBM (by decide) k e) (fun e he => by rw [hVB e (by omega), ← rw13_in (A := X c) (show e < 13 by omega)]; exact hBM e) hfe (jB_15 (m := 29) (m18_1 k (by omega)) (by decide)) (jB_15 (m := 3) (by decide +kernel) (by decide)))) (fun v g65 hq => ?_) (fun i g65 hq => ?_)
      rotate_left
      · obtain ⟨_, _, _, _, hq⟩ := hq; cases hq
      obtain ⟨z1, z2, _, m7, hq⟩ := hq
      cases hq
      refine mj_T.eq (pc2 := 153) (st2 := []) ?_ rfl rfl rfl rfl
      refine mj_T.iinc rfl rfl ?_
      refine mj_T.eq (loc2 := [some (.ref 19), some (.ref a), some (.ref c), some (.ref t), some (.ref u), some (.int (jn (((v : Nat) : Int) + (-1)))), some (.int (jn ((13 : Nat) : Int)))]) ?_ rfl rfl rfl rfl
      refine mj_T.pl rfl rfl rfl rfl ?_
      rw [show (((v : Nat) : Int) + (-1)) = (v : Int) - 1 by omega]
      have b3 : by0 (pfl (scr (jvu V3 (20 + 4 + 2 * v) (V3 (80 + 4 + 2 * (db + v)))) z1 z2) 80 (elw (pco (jvu V3 (20 + 4 + 2 * v) (V3 (80 + 4 + 2 * (db + v)))) 80) (pco (jvu V3 (20 + 4 + 2 * v) (V3 (80 + 4 + 2 * (db + v)))) 50) db v) 13) := by
        refine by0.wr (fun x hx => ?_) cq_d80 (by omega)
        have y := bydl_f hx
        rw [scr_off _ _ _ y.2.2.2.2.2.1 y.2.2.2.2.2.2.1, jvu_ne _ _ _ (by omega), f2 x y.2.2.2.2.2.1 (by omega)]
        exact b1 x hx
      refine mD_dv_out ka kc kt ku htu sa sc hc v (k + 1) (by omega) _ _ _ m7 dg1 fx1 (fun e he => ?_) (fun e he => ?_) (fun e he => ?_) b3
      · rw [pfl_at _ _ _ he]
        show _ = elw (er (rw13 (X a)) (rw13 (X c)) db (fdg (X a) 13 - db - 1) k) (rw13 (X c)) db (fdg (X a) 13 - db - 1 - k) e
        rw [show fdg (X a) 13 - db - 1 - k = v by omega]
        refine elw_ext (by omega) hVV (fun i hi => ?_) e he
        show _ = rw13 (X c) i
        rw [rw13_in (by omega)]
        exact hVB i (by omega)
      · rw [lk_off (by omega) (by omega) (by omega)]
        show _ = (rw13 (X c)) db * qe (rw13 (X a)) (rw13 (X c)) db (fdg (X a) 13 - db - 1) k e + if e = fdg (X a) 13 - db - 1 - k then er (rw13 (X a)) (rw13 (X c)) db (fdg (X a) 13 - db - 1) k (db + (fdg (X a) 13 - db - 1 - k)) else 0
        rw [show fdg (X a) 13 - db - 1 - k = v by omega]
        by_cases q : e = v
        · subst q
          rw [jvu_at, et, if_pos rfl, qe_low _ _ _ _ k (by omega) e (by omega), Int.mul_zero, Int.zero_add]
        · rw [jvu_ne _ _ _ (by omega), f1 e he, if_neg q, Int.add_zero]
          by_cases y : v + 1 ≤ e
          · rw [if_pos y]
          · rw [if_neg y, qe_low _ _ _ _ k (by omega) e (by omega), Int.mul_zero]
      · rw [lk_off (by omega) (by omega) (by omega)]
        exact hVB e he
theorem mD_divRows (m : jM g n V X h) (b : by0 V) {db : Nat} (ka : cK a = 2) (kc : cK c = 2) (kt : cK t = 2) (ku : cK u = 2) (htu : t ≠ u) (sa : sml (X a)) (sc : sml (X c)) (hc : fdg (X c) 13 = db + 1) (dg : DG X) : mj_Ok (D + 5) 16 [.ref 19, .ref a, .ref c, .ref t, .ref u] h (fun z => ∃ (V2 : Nat → Int) (X2 : Nat → Nat → Int) (h2 : mj_H), jM g n V2 X2 h2 ∧ by0 V2 ∧ DG X2 ∧ FXu t u X X2 ∧ ((fit13 (qe (rw13 (X a)) (rw13 (X c)) db ((fdg (X a) 13 - db) - 1) (fdg (X a) 13 - db)) ∧ fit13 (er (rw13 (X a)) (rw13 (X c)) db ((fdg (X a) 13 - db) - 1) (fdg (X a) 13 - db)) ∧ z = (.inl (some (.int (jn 1))), h2) ∧ (∀ i, i < 13 → X2 t i = (qe (rw13 (X a)) (rw13 (X c)) db ((fdg (X a) 13 - db) - 1) (fdg (X a) 13 - db)) i) ∧ ∀ i, i < 13 → X2 u i = (er (rw13 (X a)) (rw13 (X c)) db ((fdg (X a) 13 - db) - 1) (fdg (X a) 13 - db)) i) ∨ (¬ (fit13 (qe (rw13 (X a)) (rw13 (X c)) db ((fdg (X a) 13 - db) - 1) (fdg (X a) 13 - db)) ∧ fit13 (er (rw13 (X a)) (rw13 (X c)) db ((fdg (X a) 13 - db) - 1) (fdg (X a) 13 - db))) ∧ z = (.inl (some (.int (jn 0))), h2)))) := by
  have p20 : cL (20 + 3) = 13 := mK_z.1
  have p50 : cL (50 + 3) = 13 := mK_z.2.1
  have p80 : cL (80 + 3) = 13 := mK_z.2.2.1
  have hfa := fdg_le (X a) 13
  have hfc := fdg_le (X c) 13
  have hFM : ∀ e, (rw13 (X a) e).natAbs ≤ m18 := rw13_abs sa
  have hBM : ∀ e, (rw13 (X c) e).natAbs ≤ m18 := rw13_abs sc
  have hBz : ∀ i, db < i → rw13 (X c) i = 0 := fun i hi => rw13_top i (by omega)
  have hFz : ∀ i, db + (fdg (X a) 13 - db - 1) < i → rw13 (X a) i = 0 := fun i hi => rw13_top i (by omega)
  refine mj_Ok.of (M := mj_m16) rfl rfl rfl ?_
  refine mj_T.pl rfl rfl rfl rfl ?_
  refine mT_get m 11 cq_d19 (by decide) rfl rfl ?_
  refine mj_T.pl rfl rfl rfl rfl ?_
  refine jT.lc 1 rfl rfl ?_
  refine mj_T.call rfl rfl (Nat.le_of_ble_eq_true rfl) (Nat.le_of_ble_eq_true rfl) (mV_of m 13 cq_d80 (by decide) rfl (by decide) rfl _) rfl (mj_Ok.up (by omega) (mP_load1 (D := 0) m cq_d80 ka p80 sa (fun i hi => by rw [(mK_z.2.2.2.2.1 i hi).2.2]; decide))) (fun v g1 hq => ?_) (fun i g1 hq => ?_)
  rotate_left
  · obtain ⟨_, _, hq⟩ := hq; cases hq
  obtain ⟨_, m1, hq⟩ := hq
  cases hq
  refine mj_T.eq (pc2 := 9) (st2 := []) ?_ rfl rfl rfl rfl
  refine mj_T.pl rfl rfl rfl rfl ?_
  refine mT_get m1 11 cq_d19 (by decide) rfl rfl ?_
  refine mj_T.pl rfl rfl rfl rfl ?_
  refine jT.lc 1 rfl rfl ?_
  have hxc : (xup X 80 2 ((fdg (X a) 13 : Int) - 1)) c = X c := xup_oth (kR_ne kc).2.2.1
  refine mj_T.call rfl rfl (Nat.le_of_ble_eq_true rfl) (Nat.le_of_ble_eq_true rfl) (mV_of m1 13 cq_d50 (by decide) rfl (by decide) rfl _) rfl (mj_Ok.up (by omega) (mP_load1 (D := 0) m1 cq_d50 kc p50 (by rw [hxc]; exact sc) (fun i hi => by rw [(mK_z.2.2.2.2.1 i hi).2.1]; decide))) (fun v g2 hq => ?_) (fun i g2 hq => ?_)
  rotate_left
  · obtain ⟨_, _, hq⟩ := hq; cases hq
  obtain ⟨_, m2, hq⟩ := hq
  cases hq
  rw [hxc, hc, show ((db + 1 : Nat) : Int) - 1 = (db : Int) by omega] at m2
  refine mj_T.eq (pc2 := 18) (st2 := []) ?_ rfl rfl rfl rfl
  refine mj_T.pl rfl rfl rfl rfl ?_
  refine mT_get m2 11 cq_d19 (by decide) rfl rfl ?_
  refine mj_T.call rfl rfl (Nat.le_of_ble_eq_true rfl) (Nat.le_of_ble_eq_true rfl) (mV_of m2 13 cq_d20 (by decide) rfl (by decide) rfl _) rfl (mj_Ok.up (by omega) (mP_clear (D := 0) m2 cq_d20)) (fun v g3 hq => ?_) (fun i g3 hq => ?_)
  rotate_left
  · obtain ⟨_, _, hq⟩ := hq; cases hq
  obtain ⟨_, m3, hq⟩ := hq
  cases hq
  rw [p20] at m3
  refine mj_T.eq (pc2 := 25) (st2 := []) ?_ rfl rfl rfl rfl
  refine mj_T.pl rfl rfl rfl rfl ?_
  refine mT_get m3 11 cq_d19 (by decide) rfl rfl ?_
  refine mT_get (v := .int (jn ((fdg (X a) 13 : Int) - 1))) m3 13 cq_d80 (by decide) rfl (congrArg (fun z : Int => some (Value.int (jn z))) ((congrFun (xup_oth (by decide)) 2).trans ((congrFun (xup_oth (by decide)) 2).trans (xup_at _ _ _ _)))) ?_
  refine mj_T.pl rfl rfl rfl rfl ?_
  refine mT_get m3 11 cq_d19 (by decide) rfl rfl ?_
  refine mT_get (v := .int (jn ((db : Nat) : Int))) m3 13 cq_d50 (by decide) rfl (congrArg (fun z : Int => some (Value.int (jn z))) ((congrFun (xup_oth (by decide)) 2).trans (xup_at _ _ _ _))) ?_
  refine mj_T.isub (a := ((fdg (X a) 13 : Int) - 1)) (b := ((db : Nat) : Int)) rfl ?_
  refine mj_T.pl (loc' := [some (.ref 19), some (.ref a), some (.ref c), some (.ref t), some (.ref u), some (.int (jn (((fdg (X a) 13 : Int) - 1) - ((db : Nat) : Int)))), none]) rfl rfl rfl rfl ?_
  have dgx : DG (xup (xup (xup X 80 2 ((fdg (X a) 13 : Int) - 1)) 50 2 (db : Int)) 20 2 (-1)) := ((dg.deg (by omega)).deg (by omega)).deg (by omega)
  have fxx : FX X (xup (xup (xup X 80 2 ((fdg (X a) 13 : Int) - 1)) 50 2 (db : Int)) 20 2 (-1)) := (FX.up (Or.inl cq_d80)).tr ((FX.up (Or.inl cq_d50)).tr (FX.up (Or.inl cq_d20)))
  have b1 : by0 (pfl (pfl (pfl V 80 (X a) 13) 50 (X c) 13) 20 (fun _ => 0) 13) := ((b.wr cq_d80 (by omega)).wr cq_d50 (by omega)).wr cq_d20 (by omega)
  have e1 : ∀ e, e < 13 → (pfl (pfl (pfl V 80 (X a) 13) 50 (X c) 13) 20 (fun _ => 0) 13) (80 + 4 + 2 * e) = er (rw13 (X a)) (rw13 (X c)) db (fdg (X a) 13 - db - 1) 0 e := fun e he => by
    rw [pfl_off _ _ _ (by omega), pfl_off _ _ _ (by omega), pfl_at _ _ _ he]
    exact (rw13_in he).symm
  have e2 : ∀ e, e < 13 → (pfl (pfl (pfl V 80 (X a) 13) 50 (X c) 13) 20 (fun _ => 0) 13) (20 + 4 + 2 * e) = qe (rw13 (X a)) (rw13 (X c)) db (fdg (X a) 13 - db - 1) 0 e := fun e he => pfl_at _ _ _ he
  have e3 : ∀ e, e < 13 → (pfl (pfl (pfl V 80 (X a) 13) 50 (X c) 13) 20 (fun _ => 0) 13) (50 + 4 + 2 * e) = X c e := fun e he => by
    rw [pfl_off _ _ _ (by omega), pfl_at _ _ _ he]
  by_cases hlt : db < fdg (X a) 13
  · rw [show (((fdg (X a) 13 : Int) - 1) - ((db : Nat) : Int)) = ((fdg (X a) 13 - db : Nat) : Int) - 1 by omega]
    exact mD_dv_out ka kc kt ku htu sa sc hc (fdg (X a) 13 - db) 0 (by omega) _ _ _ m3 dgx fxx e1 e2 e3 b1
  · have hn : fdg (X a) 13 - db = 0 := by omega
    refine mj_T.pl rfl rfl rfl rfl ?_
    refine mj_T.if0 (a := (((fdg (X a) 13 : Int) - 1) - ((db : Nat) : Int))) rfl ⟨by omega, by omega⟩ (fun c91 => ?_) (fun c91 => ?_)
    · simp only [jc, Bool.not_eq_true', Bool.not_eq_false', decide_eq_true_eq, decide_eq_false_iff_not] at c91
      exact mD_dv_end (D := D + 1) ka kc kt ku htu sa sc hc m3 dgx fxx (by rw [hn]; rw [hn] at e1; exact e1) (by rw [hn]; rw [hn] at e2; exact e2) e3 b1
    · exfalso
      simp only [jc, Bool.not_eq_true', Bool.not_eq_false', decide_eq_true_eq, decide_eq_false_iff_not] at c91
      omega
end MDV
