/-! The desk of the class, exactly: a division without rest. -/
/-- the lower coefficients -/
def tk (S : pz_P) (k : Nat) : pz_P := fun i => if i < k then S i else 0
theorem tk_succ (S : pz_P) (k : Nat) : tk S (k + 1) = pz_add (tk S k) (pz_mono k (S k)) := funext fun i => by
  show (if i < k + 1 then S i else 0) = (if i < k then S i else 0) + (if i = k then S k else 0)
  by_cases c : i = k
  · subst c
    rw [if_pos (by omega), if_neg (by omega), if_pos rfl]
    omega
  · by_cases d : i < k
    · rw [if_pos (by omega), if_pos d, if_neg c]
      omega
    · rw [if_neg (by omega), if_neg d, if_neg c]
      rfl
theorem tk_mul (S G : pz_P) (k e : Nat) : pz_mul (tk S (k + 1)) G e = pz_mul (tk S k) G e + if k ≤ e then S k * G (e - k) else 0 := by
  rw [tk_succ, pz_mul_addL]
  show pz_mul (tk S k) G e + pz_c e (pz_mono k (S k)) G = _
  rw [pz_mono_mul]
theorem tk_lt (S : pz_P) (k : Nat) : pz_lt (tk S k) k := fun i hi => if_neg (by omega)
theorem tk_all {S : pz_P} {k : Nat} (h : pz_lt S k) : tk S k = S := funext fun i => by
  unfold tk
  by_cases c : i < k
  · rw [if_pos c]
  · rw [if_neg c, h i (by omega)]
theorem tk_0 (S G : pz_P) (e : Nat) : pz_mul (tk S 0) G e = 0 := by
  rw [show tk S 0 = pz_0 from funext fun i => if_neg (Nat.not_lt_zero i), pz_mul_0L]
  rfl
theorem tk_lead {S G : pz_P} {dg : Nat} (hG : ∀ i, dg < i → G i = 0) (k : Nat) : pz_mul (tk S (k + 1)) G (dg + k) = S k * G dg := by
  have h := pz_c_lead k (tk S (k + 1)) G dg (tk_lt S (k + 1)) (fun i hi => hG i (by omega))
  rw [Nat.add_comm dg k]
  refine Eq.trans (show _ = pz_c (k + dg) (tk S (k + 1)) G from rfl) (h.trans ?_)
  show (if k < k + 1 then S k else 0) * G dg = _
  rw [if_pos (Nat.lt_succ_self k)]
theorem tk_abs {S G : pz_P} {M : Nat} (hS : ∀ i, (S i).natAbs ≤ M) (hG : ∀ i, (G i).natAbs ≤ M) {k : Nat} (hk : k ≤ 13) (e : Nat) : (pz_mul (tk S k) G e).natAbs ≤ 14 * (M * M) := pz_mul_abs (fun i => by
  unfold tk
  split
  · exact hS i
  · exact Nat.zero_le _) hG (fun i hi => tk_lt S k i (by omega)) e
section MDX
variable {g h : mj_H} {n D : Nat} {V : Nat → Int} {X : Nat → Nat → Int}
theorem mD_ex_in {dg ds M k : Nat} {S G : pz_P} {V0 : Nat → Int} (h2 : X 20 2 = (dg : Int)) (h8 : X 80 2 = ((dg + ds : Nat) : Int)) (hd : dg + ds < 13) (hS : pz_lt S (ds + 1)) (hS0 : S ds ≠ 0) (hG : ∀ i, dg < i → G i = 0) (hG0 : G dg ≠ 0) (hSM : ∀ i, (S i).natAbs ≤ M) (hGM : ∀ i, (G i).natAbs ≤ M) (hfit : 15 * (M * M) < jB ^ 200) (hM : M < jB ^ 29) (hk : k ≤ ds) (hV0 : ∀ e, e < 13 → V0 (20 + 4 + 2 * e) = G e) {Q : mj_R → Prop} (hend : ∀ (V1 : Nat → Int) (h1 : mj_H), jM g n V1 (xup X 50 2 (-1)) h1 → (∀ e, e < 13 → V1 (80 + 4 + 2 * e) = (pz_mul (tk S k) G e)) → V1 (50 + 4 + 2 * k) = S k → (∀ x, x ≠ 166 → (x < 80 + 4 ∨ 80 + 4 + 2 * 13 ≤ x) → V1 x = V0 x) → mj_T (D + 3) mj_m19 136 [some (.ref 19), some (.ref 20), some (.ref 50), some (.int (jn (k : Int))), some (.ref (50 + 4 + 2 * k)), some (.int (jn ((dg + 1 : Nat) : Int)))] [] h1 Q) : ∀ u j, j + u = dg + 1 → ∀ (V1 : Nat → Int) (h1 : mj_H), jM g n V1 (xup X 50 2 (-1)) h1 → (∀ e, e < 13 → V1 (80 + 4 + 2 * e) = (pz_mul (tk S (k + 1)) G e - if k ≤ e ∧ e < k + j then S k * G (e - k) else 0)) → V1 (50 + 4 + 2 * k) = S k → (∀ x, x ≠ 166 → (x < 80 + 4 ∨ 80 + 4 + 2 * 13 ≤ x) → V1 x = V0 x) → mj_T (D + 3) mj_m19 87 [some (.ref 19), some (.ref 20), some (.ref 50), some (.int (jn (k : Int))), some (.ref (50 + 4 + 2 * k)), some (.int (jn (j : Int)))] [] h1 Q
  | 0, j, hj, V1, hh1, m, e1, e2, e3 => by
    have p20 : cL (20 + 3) = 13 := mK_z.1
    have p50 : cL (50 + 3) = 13 := mK_z.2.1
    have p80 : cL (80 + 3) = 13 := mK_z.2.2.1
    have c1 : cL (164 + 1) = 240 := mK_z.2.2.2.2.2.2.2.1
    have c2 : cL (166 + 1) = 240 := mK_z.2.2.2.2.2.2.2.2.1
    have c4 : cL (170 + 1) = 60 := mK_z.2.2.2.2.2.2.2.2.2.2.1
    iterate 2 refine mj_T.pl rfl rfl rfl rfl ?_
    refine mT_get (v := .int (jn ((dg : Nat) : Int))) m 13 cq_d20 (by decide) rfl (congrArg (fun z : Int => some (Value.int (jn z))) ((congrFun (xup_oth (by decide)) 2).trans h2)) ?_
    refine mj_T.icmp (a := ((j : Nat) : Int)) (b := ((dg : Nat) : Int)) rfl ⟨by omega, by omega⟩ ⟨by omega, by omega⟩ (fun c1 => ?_) (fun c1 => ?_)
    · simp only [jc, Bool.not_eq_true', Bool.not_eq_false', decide_eq_true_eq, decide_eq_false_iff_not] at c1
      have hj2 : j = dg + 1 := by omega
      subst hj2
      refine hend V1 _ m (fun e he => ?_) e2 e3
      rw [e1 e he, tk_mul]
      by_cases q : k ≤ e
      · rw [if_pos q]
        by_cases y : e < k + (dg + 1)
        · rw [if_pos ⟨q, y⟩]
          omega
        · rw [if_neg (fun z => y z.2), hG (e - k) (by omega), Int.mul_zero]
          omega
      · rw [if_neg q, if_neg (fun z => q z.1)]
        omega
    · exfalso
      simp only [jc, Bool.not_eq_true', Bool.not_eq_false', decide_eq_true_eq, decide_eq_false_iff_not] at c1
      omega
  | u + 1, j, hj, V1, hh1, m, e1, e2, e3 => by
    have p20 : cL (20 + 3) = 13 := mK_z.1
    have p50 : cL (50 + 3) = 13 := mK_z.2.1
    have p80 : cL (80 + 3) = 13 := mK_z.2.2.1
    have c1 : cL (164 + 1) = 240 := mK_z.2.2.2.2.2.2.2.1
    have c2 : cL (166 + 1) = 240 := mK_z.2.2.2.2.2.2.2.2.1
    have c4 : cL (170 + 1) = 60 := mK_z.2.2.2.2.2.2.2.2.2.2.1
    have ej : V1 (20 + 4 + 2 * j) = G j := (e3 _ (by omega) (by omega)).trans (hV0 j (by omega))
    have c80 : cL (80 + 4 + 2 * (j + k) + 1) = 236 := (mK_z.2.2.2.2.1 (j + k) (by omega)).2.2
    have hSG : (S k * G j).natAbs ≤ M * M := by
      rw [Int.natAbs_mul]
      exact Nat.mul_le_mul (hSM k) (hGM j)
    have hpr : jnl (S k * G j).natAbs ≤ 200 := jnl_B hSG (by omega)
    have hres : jnl ((pz_mul (tk S (k + 1)) G (j + k) - if k ≤ j + k ∧ j + k < k + j then S k * G (j + k - k) else 0) + -1 * (S k * G j)).natAbs ≤ 236 := by
      have a1 := tk_abs hSM hGM (show k + 1 ≤ 13 by omega) (j + k)
      rw [if_neg (by omega)]
      exact Nat.le_trans (jnl_B (al := 15 * (M * M)) (by omega) hfit) (by decide)
    iterate 2 refine mj_T.pl rfl rfl rfl rfl ?_
    refine mT_get (v := .int (jn ((dg : Nat) : Int))) m 13 cq_d20 (by decide) rfl (congrArg (fun z : Int => some (Value.int (jn z))) ((congrFun (xup_oth (by decide)) 2).trans h2)) ?_
    refine mj_T.icmp (a := ((j : Nat) : Int)) (b := ((dg : Nat) : Int)) rfl ⟨by omega, by omega⟩ ⟨by omega, by omega⟩ (fun c1 => ?_) (fun c1 => ?_)
    · exfalso
      simp only [jc, Bool.not_eq_true', Bool.not_eq_false', decide_eq_true_eq, decide_eq_false_iff_not] at c1
      omega
    · simp only [jc, Bool.not_eq_true', Bool.not_eq_false', decide_eq_true_eq, decide_eq_false_iff_not] at c1
      refine mj_T.pl rfl rfl rfl rfl ?_
      refine mT_get m 11 cq_d19 (by decide) rfl rfl ?_
      iterate 3 refine mj_T.pl rfl rfl rfl rfl ?_
      refine mj_T.call rfl rfl (Nat.le_of_ble_eq_true rfl) (Nat.le_of_ble_eq_true rfl) (mV_of m 13 cq_d20 (by decide) rfl (by decide) rfl _) rfl (mj_Ok.up (by omega) (mP_at (D := 0) m cq_d20 (e := j) (by omega))) (fun v g2 hq => ?_) (fun i g2 hq => ?_)
      rotate_left
      · cases hq
      cases hq
      refine mj_T.eq (pc2 := 108) (st2 := [.ref (20 + 4 + 2 * j), .ref (50 + 4 + 2 * k), .ref 166]) ?_ rfl rfl rfl rfl
      refine mj_T.call rfl rfl (Nat.le_of_ble_eq_true rfl) (Nat.le_of_ble_eq_true rfl) (mV_of m 18 cq_d166 (by decide) rfl (by decide) rfl _) rfl (mj_Ok.up (by omega) (mW_setProduct (D := 0) m cq_d166 ((mK_p cq_d50).2.2.2 k (by omega)) ((mK_p cq_d20).2.2.2 _ (by omega)) (by omega) (by omega) (by omega) (by rw [(rfl : V1 (50 + 4 + 2 * k) = _), (rfl : V1 (20 + 4 + 2 * j) = _)]; exact (by rw [ej, e2]; exact Nat.le_trans hpr (by omega))) (hca := by rw [(rfl : V1 (50 + 4 + 2 * k) = _)]; rw [e2]; exact Nat.le_trans (jnl_B (hSM k) hM) (by decide)) (hcb := by rw [(rfl : V1 (20 + 4 + 2 * j) = _)]; rw [ej]; exact Nat.le_trans (jnl_B (hGM j) hM) (by decide)))) (fun v g3 hq => ?_) (fun i g3 hq => ?_)
      rotate_left
      · obtain ⟨_, _, hq⟩ := hq; cases hq
      obtain ⟨_, m4, hq⟩ := hq
      cases hq
      have m4 := m4.to (V' := (jvu V1 166 ((V1 (50 + 4 + 2 * k)) * (V1 (20 + 4 + 2 * j))))) (by rw [(rfl : V1 (50 + 4 + 2 * k) = _), (rfl : V1 (20 + 4 + 2 * j) = _)]) rfl
      refine mj_T.eq (pc2 := 111) (st2 := []) ?_ rfl rfl rfl rfl
      refine mj_T.pl rfl rfl rfl rfl ?_
      refine mT_get m4 11 cq_d19 (by decide) rfl rfl ?_
      iterate 2 refine mj_T.pl rfl rfl rfl rfl ?_
      refine mj_T.iadd (a := ((j : Nat) : Int)) (b := ((k : Nat) : Int)) rfl ?_
      rw [show (((j : Nat) : Int) + ((k : Nat) : Int)) = ((j + k : Nat) : Int) by omega]
      refine mj_T.call rfl rfl (Nat.le_of_ble_eq_true rfl) (Nat.le_of_ble_eq_true rfl) (mV_of m4 13 cq_d80 (by decide) rfl (by decide) rfl _) rfl (mj_Ok.up (by omega) (mP_at (D := 0) m4 cq_d80 (e := j + k) (by omega))) (fun v g5 hq => ?_) (fun i g5 hq => ?_)
      rotate_left
      · cases hq
      cases hq
      refine mj_T.eq (pc2 := 122) (st2 := [.ref (80 + 4 + 2 * (j + k))]) ?_ rfl rfl rfl rfl
      refine mj_T.pl rfl rfl rfl rfl ?_
      refine mT_get m4 11 cq_d19 (by decide) rfl rfl ?_
      refine mj_T.pl rfl rfl rfl rfl ?_
      refine mj_T.call rfl rfl (Nat.le_of_ble_eq_true rfl) (Nat.le_of_ble_eq_true rfl) (mV_of m4 18 ((mK_p cq_d80).2.2.2 _ (by omega)) (by decide) rfl (by decide) rfl _) rfl (mj_Ok.up (by omega) (mW_plus (D := 0) (f := (-1)) m4 ((mK_p cq_d80).2.2.2 _ (by omega)) cq_d166 (by omega) (Or.inr rfl) (by rw [(jvu_at _ _ _)]; exact (by rw [c80, ej, e2]; exact Nat.le_trans hpr (by omega))) (by rw [((jvu_ne _ _ _ (by omega)).trans (rfl : V1 (80 + 4 + 2 * (j + k)) = _)), (jvu_at _ _ _)]; exact (by rw [c80, e1 _ (by omega), ej, e2]; exact hres)))) (fun v g6 hq => ?_) (fun i g6 hq => ?_)
      rotate_left
      · obtain ⟨_, _, hq⟩ := hq; cases hq
      obtain ⟨_, m7, hq⟩ := hq
      cases hq
      have m7 := m7.to (V' := (jvu (jvu V1 166 ((V1 (50 + 4 + 2 * k)) * (V1 (20 + 4 + 2 * j)))) (80 + 4 + 2 * (j + k)) ((V1 (80 + 4 + 2 * (j + k))) + (-1) * ((V1 (50 + 4 + 2 * k)) * (V1 (20 + 4 + 2 * j)))))) (by rw [((jvu_ne _ _ _ (by omega)).trans (rfl : V1 (80 + 4 + 2 * (j + k)) = _)), (jvu_at _ _ _)]) rfl
      refine mj_T.eq (pc2 := 130) (st2 := []) ?_ rfl rfl rfl rfl
      refine mj_T.iinc rfl rfl ?_
      rw [show ((j : Nat) : Int) + 1 = ((j + 1 : Nat) : Int) by omega]
      refine mj_T.eq (loc2 := [some (.ref 19), some (.ref 20), some (.ref 50), some (.int (jn ((k : Nat) : Int))), some (.ref (50 + 4 + 2 * k)), some (.int (jn (((j + 1) : Nat) : Int)))]) ?_ rfl rfl rfl rfl
      refine mj_T.pl rfl rfl rfl rfl ?_
      refine mD_ex_in h2 h8 hd hS hS0 hG hG0 hSM hGM hfit hM hk hV0 hend u (j + 1) (by omega) _ _ m7 (fun e he => ?_) ?_ (fun x x1 x2 => ?_)
      · by_cases q : e = j + k
        · subst q
          rw [jvu_at, e1 _ he, ej, e2, if_neg (by omega), if_pos (by omega), show j + k - k = j by omega]
          omega
        · rw [jvu_ne _ _ _ (by omega), jvu_ne _ _ _ (by omega), e1 e he]
          by_cases y : k ≤ e ∧ e < k + j
          · rw [if_pos y, if_pos (by omega)]
          · rw [if_neg y, if_neg (by omega)]
      · rw [((jvu_ne _ _ _ (by omega)).trans ((jvu_ne _ _ _ (by omega)).trans (rfl : V1 (50 + 4 + 2 * k) = _)))]
        exact e2
      · rw [((jvu_ne _ _ _ (by omega)).trans ((jvu_ne _ _ _ (by omega)).trans (rfl : V1 x = _)))]
        exact e3 x x1 x2
theorem mD_ex_out {dg ds M : Nat} {S G : pz_P} (h2 : X 20 2 = (dg : Int)) (h8 : X 80 2 = ((dg + ds : Nat) : Int)) (hd : dg + ds < 13) (hS : pz_lt S (ds + 1)) (hS0 : S ds ≠ 0) (hG : ∀ i, dg < i → G i = 0) (hG0 : G dg ≠ 0) (hSM : ∀ i, (S i).natAbs ≤ M) (hGM : ∀ i, (G i).natAbs ≤ M) (hfit : 15 * (M * M) < jB ^ 200) (hM : M < jB ^ 29) (hV : ∀ e, e < 13 → V (20 + 4 + 2 * e) = G e) : ∀ k, k ≤ ds + 1 → ∀ (V1 : Nat → Int) (h1 : mj_H) (l4 l5 : Option Value), jM g n V1 (xup X 50 2 (-1)) h1 → (∀ e, e < 13 → V1 (80 + 4 + 2 * e) = pz_mul (tk S k) G e) → (∀ e, e < 13 → V1 (50 + 4 + 2 * e) = if k ≤ e then S e else 0) → V1 170 = G dg → (∀ x, x ≠ 164 → x ≠ 166 → x ≠ 170 → (x < 50 + 4 ∨ 50 + 4 + 2 * 13 ≤ x) → (x < 80 + 4 ∨ 80 + 4 + 2 * 13 ≤ x) → V1 x = V x) → mj_T (D + 3) mj_m19 28 [some (.ref 19), some (.ref 20), some (.ref 50), some (.int (jn ((k : Int) - 1))), l4, l5] [] h1 (fun z => ∃ (V2 : Nat → Int) (h2 : mj_H), jM g n V2 (xup (xup X 50 2 (ds : Int)) 80 2 (-1)) h2 ∧ (∀ e, e < 13 → V2 (50 + 4 + 2 * e) = S e) ∧ (∀ x, x ≠ 164 → x ≠ 166 → x ≠ 170 → (x < 50 + 4 ∨ 50 + 4 + 2 * 13 ≤ x) → (x < 80 + 4 ∨ 80 + 4 + 2 * 13 ≤ x) → V2 x = V x) ∧ z = (.inl (some (.int (jn 1))), h2))
  | 0, hk, V1, hh1, l4, l5, m, e1, e2, e3, e4 => by
    have p20 : cL (20 + 3) = 13 := mK_z.1
    have p50 : cL (50 + 3) = 13 := mK_z.2.1
    have p80 : cL (80 + 3) = 13 := mK_z.2.2.1
    have c1 : cL (164 + 1) = 240 := mK_z.2.2.2.2.2.2.2.1
    have c2 : cL (166 + 1) = 240 := mK_z.2.2.2.2.2.2.2.2.1
    have c4 : cL (170 + 1) = 60 := mK_z.2.2.2.2.2.2.2.2.2.2.1
    refine mj_T.pl rfl rfl rfl rfl ?_
    refine mj_T.if0 (a := (((0 : Nat) : Int) - 1)) rfl ⟨by omega, by omega⟩ (fun c1 => ?_) (fun c1 => ?_)
    · simp only [jc, Bool.not_eq_true', Bool.not_eq_false', decide_eq_true_eq, decide_eq_false_iff_not] at c1
      refine mj_T.pl rfl rfl rfl rfl ?_
      have eS : ∀ e, e < 13 → pco V1 50 e = S e := fun e he => by
        show V1 (50 + 4 + 2 * e) = S e
        rw [e2 e he, if_pos (Nat.zero_le _)]
      have eR : ∀ e, e < 13 → pco V1 80 e = (fun _ => (0 : Int)) e := fun e he => by
        show V1 (80 + 4 + 2 * e) = 0
        rw [e1 e he, tk_0]
      have hfS : fdg S 13 = ds + 1 := fdg_top (by omega) (fun i hi => hS i (by omega)) hS0
      refine mj_T.call rfl rfl (Nat.le_of_ble_eq_true rfl) (Nat.le_of_ble_eq_true rfl) (mV_of m 13 cq_d50 (by decide) rfl (by decide) rfl _) rfl (mj_Ok.up (by omega) (mP_settle (D := 0) m cq_d50 (fun e he => by rw [p50] at he; have q := eS e he; unfold pco at q; rw [q]; exact Nat.le_trans (jnl_B (hSM e) hM) (by decide)))) (fun v g2 hq => ?_) (fun i g2 hq => ?_)
      rotate_left
      · obtain ⟨_, _, hq⟩ := hq; cases hq
      obtain ⟨_, m3, hq⟩ := hq
      cases hq
      rw [p50, xup_xup, fdg_congr 13 eS, hfS, show ((ds + 1 : Nat) : Int) - 1 = (ds : Int) by omega] at m3
      refine mj_T.eq (pc2 := 146) (st2 := []) ?_ rfl rfl rfl rfl
      refine mj_T.pl rfl rfl rfl rfl ?_
      refine mT_get m3 11 cq_d19 (by decide) rfl rfl ?_
      refine mj_T.call rfl rfl (Nat.le_of_ble_eq_true rfl) (Nat.le_of_ble_eq_true rfl) (mV_of m3 13 cq_d80 (by decide) rfl (by decide) rfl _) rfl (mj_Ok.up (by omega) (mP_settle (D := 0) m3 cq_d80 (fun e he => by rw [p80] at he; have q := eR e he; unfold pco at q; rw [q]; exact Nat.le_trans (Nat.le_of_eq jnl_zero) (Nat.zero_le _)))) (fun v g4 hq => ?_) (fun i g4 hq => ?_)
      rotate_left
      · obtain ⟨_, _, hq⟩ := hq; cases hq
      obtain ⟨_, m5, hq⟩ := hq
      cases hq
      rw [p80, fdg_congr 13 eR, show ((fdg (fun _ => (0 : Int)) 13 : Nat) : Int) - 1 = -1 by decide] at m5
      refine mj_T.eq (pc2 := 153) (st2 := []) ?_ rfl rfl rfl rfl
      refine mj_T.pl rfl rfl rfl rfl ?_
      refine mT_get m5 11 cq_d19 (by decide) rfl rfl ?_
      refine mT_get (v := .int (jn (-1))) m5 13 cq_d80 (by decide) rfl (congrArg (fun z : Int => some (Value.int (jn z))) (xup_at _ _ _ _)) ?_
      refine mj_T.if0 (a := (-1)) rfl ⟨by omega, by omega⟩ (fun c6 => ?_) (fun c6 => ?_)
      · exfalso
        simp only [jc, Bool.not_eq_true', Bool.not_eq_false', decide_eq_true_eq, decide_eq_false_iff_not] at c6
        omega
      · simp only [jc, Bool.not_eq_true', Bool.not_eq_false', decide_eq_true_eq, decide_eq_false_iff_not] at c6
        iterate 2 refine mj_T.pl rfl rfl rfl rfl ?_
        exact mj_T.ret rfl rfl rfl ⟨V1, _, m5, fun e he => eS e he, e4, rfl⟩
    · exfalso
      simp only [jc, Bool.not_eq_true', Bool.not_eq_false', decide_eq_true_eq, decide_eq_false_iff_not] at c1
      omega
  | k + 1, hk, V1, hh1, l4, l5, m, e1, e2, e3, e4 => by
    have p20 : cL (20 + 3) = 13 := mK_z.1
    have p50 : cL (50 + 3) = 13 := mK_z.2.1
    have p80 : cL (80 + 3) = 13 := mK_z.2.2.1
    have c1 : cL (164 + 1) = 240 := mK_z.2.2.2.2.2.2.2.1
    have c2 : cL (166 + 1) = 240 := mK_z.2.2.2.2.2.2.2.2.1
    have c4 : cL (170 + 1) = 60 := mK_z.2.2.2.2.2.2.2.2.2.2.1
    have et : V1 (80 + 4 + 2 * (dg + k)) = S k * G dg := (e1 _ (by omega)).trans (tk_lead hG k)
    have c50 : cL (50 + 4 + 2 * k + 1) = 30 := (mK_z.2.2.2.2.1 k (by omega)).2.1
    have ht : jnl (S k * G dg).natAbs ≤ 200 := by
      refine jnl_B (al := 15 * (M * M)) ?_ hfit
      rw [Int.natAbs_mul]
      have := Nat.mul_le_mul (hSM k) (hGM dg)
      omega
    rw [show ((k + 1 : Nat) : Int) - 1 = (k : Int) by omega]
    refine mj_T.pl rfl rfl rfl rfl ?_
    refine mj_T.if0 (a := ((k : Nat) : Int)) rfl ⟨by omega, by omega⟩ (fun c1 => ?_) (fun c1 => ?_)
    · exfalso
      simp only [jc, Bool.not_eq_true', Bool.not_eq_false', decide_eq_true_eq, decide_eq_false_iff_not] at c1
      omega
    · simp only [jc, Bool.not_eq_true', Bool.not_eq_false', decide_eq_true_eq, decide_eq_false_iff_not] at c1
      iterate 2 refine mj_T.pl rfl rfl rfl rfl ?_
      refine mj_T.call rfl rfl (Nat.le_of_ble_eq_true rfl) (Nat.le_of_ble_eq_true rfl) (mV_of m 13 cq_d50 (by decide) rfl (by decide) rfl _) rfl (mj_Ok.up (by omega) (mP_at (D := 0) m cq_d50 (e := k) (by omega))) (fun v g2 hq => ?_) (fun i g2 hq => ?_)
      rotate_left
      · cases hq
      cases hq
      refine mj_T.eq (pc2 := 37) (st2 := [.ref (50 + 4 + 2 * k)]) ?_ rfl rfl rfl rfl
      refine mj_T.pl (loc' := [some (.ref 19), some (.ref 20), some (.ref 50), some (.int (jn ((k : Nat) : Int))), some (.ref (50 + 4 + 2 * k)), l5]) rfl rfl rfl rfl ?_
      refine mj_T.pl rfl rfl rfl rfl ?_
      refine mT_get m 11 cq_d19 (by decide) rfl rfl ?_
      refine mj_T.pl rfl rfl rfl rfl ?_
      refine mT_get m 11 cq_d19 (by decide) rfl rfl ?_
      refine mj_T.pl rfl rfl rfl rfl ?_
      refine mT_get (v := .int (jn ((dg : Nat) : Int))) m 13 cq_d20 (by decide) rfl (congrArg (fun z : Int => some (Value.int (jn z))) ((congrFun (xup_oth (by decide)) 2).trans h2)) ?_
      refine mj_T.pl rfl rfl rfl rfl ?_
      refine mj_T.iadd (a := ((dg : Nat) : Int)) (b := ((k : Nat) : Int)) rfl ?_
      rw [show (((dg : Nat) : Int) + ((k : Nat) : Int)) = ((dg + k : Nat) : Int) by omega]
      refine mj_T.call rfl rfl (Nat.le_of_ble_eq_true rfl) (Nat.le_of_ble_eq_true rfl) (mV_of m 13 cq_d80 (by decide) rfl (by decide) rfl _) rfl (mj_Ok.up (by omega) (mP_at (D := 0) m cq_d80 (e := dg + k) (by omega))) (fun v g3 hq => ?_) (fun i g3 hq => ?_)
      rotate_left
      · cases hq
      cases hq
      refine mj_T.eq (pc2 := 56) (st2 := [.ref (80 + 4 + 2 * (dg + k)), .ref 164]) ?_ rfl rfl rfl rfl
      refine mj_T.call rfl rfl (Nat.le_of_ble_eq_true rfl) (Nat.le_of_ble_eq_true rfl) (mV_of m 18 cq_d164 (by decide) rfl (by decide) rfl _) rfl (mj_Ok.up (by omega) (mW_set (D := 0) m cq_d164 ((mK_p cq_d80).2.2.2 _ (by omega)) (by omega) (by rw [(rfl : V1 (80 + 4 + 2 * (dg + k)) = _)]; exact (by rw [et]; exact Nat.le_trans ht (by omega))))) (fun v g4 hq => ?_) (fun i g4 hq => ?_)
      rotate_left
      · obtain ⟨_, _, hq⟩ := hq; cases hq
      obtain ⟨_, m5, hq⟩ := hq
      cases hq
      have m5 := m5.to (V' := (jvu V1 164 (V1 (80 + 4 + 2 * (dg + k))))) (by rw [(rfl : V1 (80 + 4 + 2 * (dg + k)) = _)]) rfl
      refine mj_T.eq (pc2 := 59) (st2 := []) ?_ rfl rfl rfl rfl
      refine mj_T.pl rfl rfl rfl rfl ?_
      refine mT_get m5 11 cq_d19 (by decide) rfl rfl ?_
      refine mj_T.pl rfl rfl rfl rfl ?_
      refine mT_get m5 11 cq_d19 (by decide) rfl rfl ?_
      refine mj_T.pl rfl rfl rfl rfl ?_
      refine mj_T.call rfl rfl (Nat.le_of_ble_eq_true rfl) (Nat.le_of_ble_eq_true rfl) (mV_of m5 12 cq_d170 (by decide) rfl (by decide) rfl _) rfl (mj_Ok.up (by omega) (mW_split (D := 0) m5 cq_d170 cq_d164 ((mK_p cq_d50).2.2.2 _ (by omega)) (by omega) (by rw [(jvu_at _ _ _), ((jvu_ne _ _ _ (by omega)).trans (rfl : V1 170 = _))]; exact (by rw [et, e3]; exact jfa_one (by omega))) (by rw [(jvu_at _ _ _), ((jvu_ne _ _ _ (by omega)).trans (rfl : V1 170 = _))]; exact (by rw [et, e3, Int.mul_tdiv_cancel _ hG0, c50]; exact Nat.le_trans (jnl_B (hSM k) hM) (by decide))) (hcc := by rw [((jvu_ne _ _ _ (by omega)).trans (rfl : V1 170 = _))]; rw [e3]; exact Nat.le_trans (jnl_B (hGM dg) hM) (by decide)))) (fun v g6 hq => ?_) (fun i g6 hq => ?_)
      rotate_left
      · obtain ⟨_, _, hq⟩ := hq; cases hq
      obtain ⟨_, m7, hq⟩ := hq
      cases hq
      have m7 := m7.to (V' := (jvu (jvu (jvu V1 164 (V1 (80 + 4 + 2 * (dg + k)))) 164 ((V1 (80 + 4 + 2 * (dg + k))).tmod (V1 170))) (50 + 4 + 2 * k) ((V1 (80 + 4 + 2 * (dg + k))).tdiv (V1 170)))) (by rw [(jvu_at _ _ _), ((jvu_ne _ _ _ (by omega)).trans (rfl : V1 170 = _))]) rfl
      refine mj_T.eq (pc2 := 72) (st2 := []) ?_ rfl rfl rfl rfl
      refine mj_T.pl rfl rfl rfl rfl ?_
      refine mT_get m7 11 cq_d19 (by decide) rfl rfl ?_
      refine mT_sg m7 cq_d164 rfl ?_ (hcl := by rw [((jvu_ne _ _ _ (by omega)).trans (jvu_at _ _ _)), et, e3, Int.mul_tmod_left]; exact Nat.le_trans (Nat.le_of_eq jnl_zero) (Nat.zero_le _))
      refine mj_T.if0 (a := (jsg ((jvu (jvu (jvu V1 164 (V1 (80 + 4 + 2 * (dg + k)))) 164 ((V1 (80 + 4 + 2 * (dg + k))).tmod (V1 170))) (50 + 4 + 2 * k) ((V1 (80 + 4 + 2 * (dg + k))).tdiv (V1 170))) 164))) rfl (jsg_r _) (fun c8 => ?_) (fun c8 => ?_)
      · simp only [jc, Bool.not_eq_true', Bool.not_eq_false', decide_eq_true_eq, decide_eq_false_iff_not] at c8
        refine mj_T.pl rfl rfl rfl rfl ?_
        refine mj_T.pl (loc' := [some (.ref 19), some (.ref 20), some (.ref 50), some (.int (jn ((k : Nat) : Int))), some (.ref (50 + 4 + 2 * k)), some (.int (jn 0))]) rfl rfl rfl rfl ?_
        refine mj_T.eq (loc2 := [some (.ref 19), some (.ref 20), some (.ref 50), some (.int (jn (k : Int))), some (.ref (50 + 4 + 2 * k)), some (.int (jn ((0 : Nat) : Int)))]) ?_ rfl rfl rfl rfl
        refine mD_ex_in h2 h8 hd hS hS0 hG hG0 hSM hGM hfit hM (V0 := (jvu (jvu (jvu V1 164 (V1 (80 + 4 + 2 * (dg + k)))) 164 ((V1 (80 + 4 + 2 * (dg + k))).tmod (V1 170))) (50 + 4 + 2 * k) ((V1 (80 + 4 + 2 * (dg + k))).tdiv (V1 170)))) (by omega) (fun e he => ?_) (fun V3 h3 m3 f1 f2 f3 => ?_) (dg + 1) 0 (by omega) _ _ m7 (fun e he => ?_) ?_ (fun _ _ _ => rfl)
        · rw [((jvu_ne _ _ _ (by omega)).trans ((jvu_ne _ _ _ (by omega)).trans ((jvu_ne _ _ _ (by omega)).trans (rfl : V1 (20 + 4 + 2 * e) = _)))), e4 _ (by omega) (by omega) (by omega) (by omega) (by omega)]
          exact hV e he
        rotate_left
        · rw [jvu_ne _ _ _ (by omega), jvu_ne _ _ _ (by omega), jvu_ne _ _ _ (by omega), e1 e he, if_neg (by omega), Int.sub_zero]
        · rw [jvu_at, et, e3]
          exact Int.mul_tdiv_cancel _ hG0
        refine mj_T.iinc rfl rfl ?_
        refine mj_T.eq (loc2 := [some (.ref 19), some (.ref 20), some (.ref 50), some (.int (jn (((k : Nat) : Int) + (-1)))), some (.ref (50 + 4 + 2 * k)), some (.int (jn (((dg + 1) : Nat) : Int)))]) ?_ rfl rfl rfl rfl
        refine mj_T.pl rfl rfl rfl rfl ?_
        rw [show (((k : Nat) : Int) + (-1)) = (k : Int) - 1 by omega]
        refine mD_ex_out h2 h8 hd hS hS0 hG hG0 hSM hGM hfit hM hV k (by omega) V3 _ _ _ m3 f1 (fun e he => ?_) ?_ (fun x x1 x2 x3 x4 x5 => ?_)
        · by_cases q : e = k
          · subst q
            rw [f2, if_pos (Nat.le_refl _)]
          · rw [f3 _ (by omega) (by omega), jvu_ne _ _ _ (by omega), jvu_ne _ _ _ (by omega), jvu_ne _ _ _ (by omega), e2 e he]
            by_cases y : k + 1 ≤ e
            · rw [if_pos y, if_pos (by omega)]
            · rw [if_neg y, if_neg (by omega)]
        · rw [f3 _ (by omega) (by omega), jvu_ne _ _ _ (by omega), jvu_ne _ _ _ (by omega), jvu_ne _ _ _ (by omega)]
          exact e3
        · rw [f3 x x2 x5, jvu_ne _ _ _ (by omega), jvu_ne _ _ _ x1, jvu_ne _ _ _ x1]
          exact e4 x x1 x2 x3 x4 x5
      · exfalso
        simp only [jc, Bool.not_eq_true', Bool.not_eq_false', decide_eq_true_eq, decide_eq_false_iff_not] at c8
        rw [jvu_ne _ _ _ (by omega), jvu_at, et, e3, Int.mul_tmod_left] at c8
        exact c8 (jsg_z0.mpr rfl)
theorem mD_exact (m : jM g n V X h) {dg ds M : Nat} {S G : pz_P} (h2 : X 20 2 = (dg : Int)) (h8 : X 80 2 = ((dg + ds : Nat) : Int)) (hd : dg + ds < 13) (hS : pz_lt S (ds + 1)) (hS0 : S ds ≠ 0) (hG : ∀ i, dg < i → G i = 0) (hG0 : G dg ≠ 0) (hSM : ∀ i, (S i).natAbs ≤ M) (hGM : ∀ i, (G i).natAbs ≤ M) (hfit : 15 * (M * M) < jB ^ 200) (hM : M < jB ^ 29) (hV : ∀ e, e < 13 → V (20 + 4 + 2 * e) = G e) (hA : ∀ e, e < 13 → V (80 + 4 + 2 * e) = pz_mul S G e) : mj_Ok (D + 4) 19 [.ref 19, .ref 20, .ref 50] h (fun z => ∃ (V2 : Nat → Int) (h2 : mj_H), jM g n V2 (xup (xup X 50 2 (ds : Int)) 80 2 (-1)) h2 ∧ (∀ e, e < 13 → V2 (50 + 4 + 2 * e) = S e) ∧ (∀ x, x ≠ 164 → x ≠ 166 → x ≠ 170 → (x < 50 + 4 ∨ 50 + 4 + 2 * 13 ≤ x) → (x < 80 + 4 ∨ 80 + 4 + 2 * 13 ≤ x) → V2 x = V x) ∧ z = (.inl (some (.int (jn 1))), h2)) := by
  have p20 : cL (20 + 3) = 13 := mK_z.1
  have p50 : cL (50 + 3) = 13 := mK_z.2.1
  have p80 : cL (80 + 3) = 13 := mK_z.2.2.1
  have c1 : cL (164 + 1) = 240 := mK_z.2.2.2.2.2.2.2.1
  have c2 : cL (166 + 1) = 240 := mK_z.2.2.2.2.2.2.2.2.1
  have c4 : cL (170 + 1) = 60 := mK_z.2.2.2.2.2.2.2.2.2.2.1
  have hleadV : pfl V 50 (fun _ => 0) 13 (20 + 4 + 2 * dg) = G dg := by
    rw [pfl_off _ _ _ (by omega)]
    exact hV dg (by omega)
  refine mj_Ok.of (M := mj_m19) rfl rfl rfl ?_
  refine mj_T.pl rfl rfl rfl rfl ?_
  refine mj_T.call rfl rfl (Nat.le_of_ble_eq_true rfl) (Nat.le_of_ble_eq_true rfl) (mV_of m 13 cq_d50 (by decide) rfl (by decide) rfl _) rfl (mj_Ok.up (by omega) (mP_clear (D := 0) m cq_d50)) (fun v g1 hq => ?_) (fun i g1 hq => ?_)
  rotate_left
  · obtain ⟨_, _, hq⟩ := hq; cases hq
  obtain ⟨_, m2, hq⟩ := hq
  cases hq
  rw [p50] at m2
  refine mj_T.eq (pc2 := 4) (st2 := []) ?_ rfl rfl rfl rfl
  refine mj_T.pl rfl rfl rfl rfl ?_
  refine mT_get m2 11 cq_d19 (by decide) rfl rfl ?_
  refine mj_T.pl rfl rfl rfl rfl ?_
  refine mj_T.call rfl rfl (Nat.le_of_ble_eq_true rfl) (Nat.le_of_ble_eq_true rfl) (mV_of m2 13 cq_d20 (by decide) rfl (by decide) rfl _) rfl (mj_Ok.up (by omega) (mP_lead (D := 0) m2 cq_d20 ((congrFun (xup_oth (by decide)) 2).trans h2) (by omega))) (fun v g3 hq => ?_) (fun i g3 hq => ?_)
  rotate_left
  · cases hq
  cases hq
  refine mj_T.eq (pc2 := 12) (st2 := [.ref (20 + 4 + 2 * dg), .ref 170]) ?_ rfl rfl rfl rfl
  refine mj_T.call rfl rfl (Nat.le_of_ble_eq_true rfl) (Nat.le_of_ble_eq_true rfl) (mV_of m2 12 cq_d170 (by decide) rfl (by decide) rfl _) rfl (mj_Ok.up (by omega) (mW_prepare (D := 0) m2 cq_d170 ((mK_p cq_d20).2.2.2 dg (by omega)) (by rw [(rfl : (pfl V 50 (fun _ => 0) 13) (20 + 4 + 2 * dg) = _)]; exact (by rw [hleadV, c4]; exact Nat.le_trans (jnl_B (hGM dg) hM) (by decide))))) (fun v g4 hq => ?_) (fun i g4 hq => ?_)
  rotate_left
  · obtain ⟨_, _, hq⟩ := hq; cases hq
  obtain ⟨_, m5, hq⟩ := hq
  cases hq
  have m5 := m5.to (V' := (jvu (pfl V 50 (fun _ => 0) 13) 170 ((pfl V 50 (fun _ => 0) 13) (20 + 4 + 2 * dg)))) (by rw [(rfl : (pfl V 50 (fun _ => 0) 13) (20 + 4 + 2 * dg) = _)]) rfl
  refine mj_T.eq (pc2 := 15) (st2 := []) ?_ rfl rfl rfl rfl
  refine mj_T.pl rfl rfl rfl rfl ?_
  refine mT_get m5 11 cq_d19 (by decide) rfl rfl ?_
  refine mT_get (v := .int (jn (((dg + ds) : Nat) : Int))) m5 13 cq_d80 (by decide) rfl (congrArg (fun z : Int => some (Value.int (jn z))) ((congrFun (xup_oth (by decide)) 2).trans h8)) ?_
  refine mj_T.pl rfl rfl rfl rfl ?_
  refine mT_get (v := .int (jn ((dg : Nat) : Int))) m5 13 cq_d20 (by decide) rfl (congrArg (fun z : Int => some (Value.int (jn z))) ((congrFun (xup_oth (by decide)) 2).trans h2)) ?_
  refine mj_T.isub (a := (((dg + ds) : Nat) : Int)) (b := ((dg : Nat) : Int)) rfl ?_
  refine mj_T.pl (loc' := [some (.ref 19), some (.ref 20), some (.ref 50), some (.int (jn ((((dg + ds) : Nat) : Int) - ((dg : Nat) : Int)))), none, none]) rfl rfl rfl rfl ?_
  rw [show (((dg + ds : Nat) : Int) - ((dg : Nat) : Int)) = ((ds + 1 : Nat) : Int) - 1 by omega]
  refine mD_ex_out h2 h8 hd hS hS0 hG hG0 hSM hGM hfit hM hV (ds + 1) (Nat.le_refl _) _ _ _ _ m5 (fun e he => ?_) (fun e he => ?_) ?_ (fun x x1 x2 x3 x4 x5 => ?_)
  · rw [jvu_ne _ _ _ (by omega), pfl_off _ _ _ (by omega), tk_all hS]
    exact hA e he
  · rw [jvu_ne _ _ _ (by omega), pfl_at _ _ _ he]
    by_cases y : ds + 1 ≤ e
    · rw [if_pos y, hS e y]
    · rw [if_neg y]
  · rw [jvu_at, hleadV]
  · rw [jvu_ne _ _ _ x3]
    exact pfl_off _ _ _ x4
end MDX
