/-! The class, exactly: interpolate. -/
theorem rdf_cg {x : Int} {g g' : Nat → Int} {i : Nat} : ∀ k, (∀ j, j < k → g j = g' j) → rdf x g i k = rdf x g' i k
  | 0, _ => rfl
  | k + 1, h => by
    unfold rdf
    rw [rdf_cg k (fun j hj => h j (by omega)), h k (by omega)]
theorem wgt_cg {P P' : Nat → Int} {p : Nat} (h : ∀ j, j < p → P j = P' j) {i : Nat} (hi : i < p) : wgt P p i = wgt P' p i := by
  unfold wgt
  rw [h i hi, rdf_cg p h]
theorem lcw_cg {w w' : Nat → Int} : ∀ k, (∀ i, i < k → w i = w' i) → lcw w k = lcw w' k
  | 0, _ => rfl
  | k + 1, h => by
    unfold lcw
    rw [lcw_cg k (fun j hj => h j (by omega)), h k (by omega)]
theorem bsf_cg {P P' : Nat → Int} {i : Nat} : ∀ k, (∀ j, j < k → P j = P' j) → bsf P i k = bsf P' i k
  | 0, _ => rfl
  | k + 1, h => by
    unfold bsf
    rw [bsf_cg k (fun j hj => h j (by omega)), h k (by omega)]
theorem bsf_abs {P : Nat → Int} {i : Nat} : ∀ k, (∀ j, j < k → (P j).natAbs ≤ 9) → ∀ e, (bsf P i k e).natAbs ≤ 10 ^ k
  | 0, _, e => by
    show (if e = 0 then (1 : Int) else 0).natAbs ≤ 1
    split <;> decide
  | k + 1, h, e => by
    have ih := bsf_abs (i := i) k (fun j hj => h j (by omega))
    have hp : 10 ^ (k + 1) = 10 ^ k * 10 := Nat.pow_succ 10 k
    have h0 := Nat.pow_pos (n := k) (show 0 < 10 by decide)
    unfold bsf
    split
    · have := ih e
      omega
    · have h1 : (P k * bsf P i k e).natAbs ≤ 9 * 10 ^ k := by
        rw [Int.natAbs_mul]
        exact Nat.mul_le_mul (h k (by omega)) (ih e)
      show ((if e = 0 then 0 else bsf P i k (e - 1)) - P k * bsf P i k e).natAbs ≤ _
      split
      · omega
      · have := ih (e - 1)
        omega
/-- the polynomial through the points, times M -/
def itp (P Y : Nat → Int) (M : Int) (p : Nat) : Nat → pz_P
  | 0 => fun _ => 0
  | k + 1 => fun e => itp P Y M p k e + (Y k * M.tdiv (wgt P p k)) * bsf P k p e
theorem itp_cg {P P' Y Y' : Nat → Int} {M : Int} {p : Nat} (h : ∀ j, j < p → P j = P' j) (h' : ∀ j, j < p → Y j = Y' j) : ∀ k, k ≤ p → itp P Y M p k = itp P' Y' M p k
  | 0, _ => rfl
  | k + 1, hk => by
    unfold itp
    rw [itp_cg h h' k (by omega), h' k (by omega), wgt_cg h (by omega), bsf_cg p h]
theorem itp_f {Y M w : Int} (hY : Y.natAbs ≤ 999) (hM : M.natAbs ≤ 6402373705728000) : (Y * M.tdiv w).natAbs ≤ 6395971332022272000 := by
  rw [Int.natAbs_mul, Int.natAbs_tdiv]
  have h1 : M.natAbs.div w.natAbs ≤ 6402373705728000 := Nat.le_trans (Nat.div_le_self _ _) hM
  exact Nat.le_trans (Nat.mul_le_mul hY h1) (by decide)
theorem itp_abs {P Y : Nat → Int} {M : Int} {p : Nat} (hp : p ≤ 6) (hP : ∀ j, j < p → (P j).natAbs ≤ 9) (hY : ∀ j, j < p → (Y j).natAbs ≤ 999) (hM : M.natAbs ≤ 6402373705728000) : ∀ k, k ≤ p → ∀ e, (itp P Y M p k e).natAbs ≤ k * 6395971332022272000000000
  | 0, _, e => by
    show (0 : Int).natAbs ≤ _
    exact Nat.zero_le _
  | k + 1, hk, e => by
    have ih := itp_abs hp hP hY hM k (by omega) e
    have h1 := itp_f (w := wgt P p k) (hY k (by omega)) hM
    have h2 : (bsf P k p e).natAbs ≤ 10 ^ 6 := Nat.le_trans (bsf_abs p hP e) (Nat.pow_le_pow_right (by decide) hp)
    have h3 : ((Y k * M.tdiv (wgt P p k)) * bsf P k p e).natAbs ≤ 6395971332022272000 * 10 ^ 6 := by
      rw [Int.natAbs_mul]
      exact Nat.mul_le_mul h1 h2
    show (itp P Y M p k e + (Y k * M.tdiv (wgt P p k)) * bsf P k p e).natAbs ≤ _
    omega
/-- what interpolate lays into a register (w) and tells (D) -/
def itR (N : Nat → Int) (w : Nat → Int) (D : Int) : Prop := ∃ M : Int, 0 < M ∧ (∀ i, i < (N 78).toNat → wgt (fun i => N (79 + i)) (N 78).toNat i ∣ M) ∧ (∀ j, j < 13 → M * w j = D * itp (fun i => N (79 + i)) (fun i => N (85 + i)) M (N 78).toNat (N 78).toNat j) ∧ 0 < D ∧ Nat.gcd D.natAbs (cgd w 13) = 1
theorem it_red {I : pz_P} {M0 d : Nat} (hM : 0 < M0) (hd : d ≤ 13) (hz : ∀ e, d ≤ e → e < 13 → I e = 0) {f : Nat → Int} (hf : ∀ e, e < 13 → f e = I e) {w : Nat → Int} (hw : ∀ e, e < 13 → w e = (I e).tdiv ((shg f M0 d : Nat) : Int)) : (∀ j, j < 13 → (M0 : Int) * w j = (M0 : Int).tdiv ((shg f M0 d : Nat) : Int) * I j) ∧ 0 < (M0 : Int).tdiv ((shg f M0 d : Nat) : Int) ∧ Nat.gcd ((M0 : Int).tdiv ((shg f M0 d : Nat) : Int)).natAbs (cgd w 13) = 1 := by
  have hg := (shg_le f hM d).1
  obtain ⟨g1, g2⟩ := shg_dvd f M0 d
  generalize hG : shg f M0 d = G at hg g1 g2 hw ⊢
  have gI : ∀ e, e < 13 → (G : Int) ∣ I e := fun e he => by
    by_cases q : e < d
    · have y := g2 e q
      rw [hf e he] at y
      exact Int.natAbs_dvd_natAbs.mp (by rw [Int.natAbs_natCast]; exact y)
    · rw [hz e (by omega) he]
      exact ⟨0, (Int.mul_zero _).symm⟩
  obtain ⟨m, hm⟩ := g1
  have eM : (M0 : Int).tdiv (G : Int) = (m : Int) := by
    rw [hm, Int.natCast_mul]
    exact Int.mul_tdiv_cancel_left _ (by omega)
  have eW : ∀ e, e < 13 → I e = (G : Int) * w e := fun e he => by
    rw [hw e he]
    exact (Int.mul_tdiv_cancel' (gI e he)).symm
  rw [eM]
  have hm0 : 0 < m := Nat.pos_of_ne_zero (fun e => by rw [e, Nat.mul_zero] at hm; omega)
  refine ⟨fun j hj => ?_, by omega, ?_⟩
  · rw [eW j hj, hm, Int.natCast_mul, Int.mul_assoc, Int.mul_left_comm]
  · rw [Int.natAbs_natCast]
    have q1 : Nat.gcd m (cgd w 13) ∣ m := Nat.gcd_dvd_left _ _
    have q2 : Nat.gcd m (cgd w 13) ∣ cgd w 13 := Nat.gcd_dvd_right _ _
    generalize Nat.gcd m (cgd w 13) = q at q1 q2 ⊢
    have h1 : G * q ∣ shg f M0 d := shg_max f M0 (G * q) (by rw [hm]; exact Nat.mul_dvd_mul_left G q1) d (fun i hi => by
      rw [hf i (by omega), eW i (by omega), Int.natAbs_mul, Int.natAbs_natCast]
      exact Nat.mul_dvd_mul_left G (Nat.dvd_trans q2 (cgd_dvd w 13 i (by omega))))
    rw [hG] at h1
    have h2 := Nat.le_of_dvd hg h1
    by_cases c0 : q = 0
    · rw [c0, Nat.mul_zero] at h1
      have := Nat.eq_zero_of_zero_dvd h1
      omega
    · by_cases c1 : q = 1
      · exact c1
      · have h3 : G * 2 ≤ G * q := Nat.mul_le_mul_left G (by omega)
        omega
section MIT
variable {g h : mj_H} {n D : Nat} {V : Nat → Int} {X : Nat → Nat → Int}
theorem it_fit : 6 * 6395971332022272000000000 + 9223372036854775807 * 999999999999999999 < jB ^ 29 := by decide +kernel
theorem PT.cg {X X1 : Nat → Nat → Int} {o p : Nat} (q : PT X o p) (h : ∀ c, o ≤ c → c < o + 10 → X1 c = X c) : PT X1 o p := by
  unfold PT at q ⊢
  rw [h o (by omega) (by omega), h (o + 8) (by omega) (by omega), h (o + 9) (by omega) (by omega)]
  exact q
theorem mC_it_loop {t M : Int} {p : Nat} (hp : PT X 2 p) (hM : 0 < M ∧ M ≤ 6402373705728000) {Q : mj_R → Prop} (hend : ∀ (V1 : Nat → Int) (X1 : Nat → Nat → Int) (h1 : mj_H) (l5 : Option Value), jM g n V1 X1 h1 → (∀ e, e < 13 → V1 (20 + 4 + 2 * e) = itp (X (2 + 8)) (X (2 + 9)) M p p e) → X1 20 2 = (fdg (itp (X (2 + 8)) (X (2 + 9)) M p p) 13 : Int) - 1 → (∀ x, x ≠ 164 → x ≠ 166 → x ≠ 168 → (x < 20 + 4 ∨ 20 + 4 + 2 * 13 ≤ x) → V1 x = V x) → (∀ c, c ≠ 482 → c ≠ 20 → X1 c = X c) → mj_T (D + 4) mj_m117 106 [some (.ref 1), some (.int (jn t)), some (.long (jl M)), none, some (.int (jn ((p : Nat) : Int))), l5, none] [] h1 Q) : ∀ k i, i + k = p → ∀ (V1 : Nat → Int) (X1 : Nat → Nat → Int) (h1 : mj_H) (l5 : Option Value), jM g n V1 X1 h1 → (∀ e, e < 13 → V1 (20 + 4 + 2 * e) = itp (X (2 + 8)) (X (2 + 9)) M p i e) → X1 20 2 = (fdg (itp (X (2 + 8)) (X (2 + 9)) M p i) 13 : Int) - 1 → (∀ x, x ≠ 164 → x ≠ 166 → x ≠ 168 → (x < 20 + 4 ∨ 20 + 4 + 2 * 13 ≤ x) → V1 x = V x) → (∀ c, c ≠ 482 → c ≠ 20 → X1 c = X c) → mj_T (D + 4) mj_m117 27 [some (.ref 1), some (.int (jn t)), some (.long (jl M)), none, some (.int (jn ((i : Nat) : Int))), l5, none] [] h1 Q
  | 0, i, hi, V1, X1, h1, l5, m, e1, e2, e3, e4 => by
    have hp6 := hp.2.1
    iterate 2 refine mj_T.pl rfl rfl rfl rfl ?_
    refine mT_get m 19 cq_d1 (by decide) rfl rfl ?_
    refine mT_get (v := .int (jn ((p : Nat) : Int))) m 10 cq_d2 (by decide) rfl (congrArg (fun z : Int => some (Value.int (jn z))) ((congrFun (e4 2 (by decide) (by decide)) 3).trans hp.1)) ?_
    refine mj_T.icmp (a := ((i : Nat) : Int)) (b := ((p : Nat) : Int)) rfl ⟨by omega, by omega⟩ ⟨by omega, by omega⟩ (fun c1 => ?_) (fun c1 => ?_)
    · simp only [jc, Bool.not_eq_true', Bool.not_eq_false', decide_eq_true_eq, decide_eq_false_iff_not] at c1
      have hip : i = p := by omega
      subst hip
      exact hend _ _ _ _ m e1 e2 e3 e4
    · exfalso
      simp only [jc, Bool.not_eq_true', Bool.not_eq_false', decide_eq_true_eq, decide_eq_false_iff_not] at c1
      omega
  | k + 1, i, hi, V1, X1, h1, l5, m, e1, e2, e3, e4 => by
    have hp6 := hp.2.1
    have hPa : ∀ j, j < p → (X (2 + 8) j).natAbs ≤ 9 := fun j hj => by
      have := (hp.2.2.1 j hj).1
      omega
    have hYa : ∀ j, j < p → (X (2 + 9) j).natAbs ≤ 999 := fun j hj => by
      have := (hp.2.2.1 j hj).2
      omega
    have hw := hp.w (i := i) (by omega)
    have hYi := hYa i (by omega)
    have e8 : X1 (2 + 8) = X (2 + 8) := e4 _ (by decide) (by decide)
    have ew : wgt (X1 (2 + 8)) p i = wgt (X (2 + 8)) p i := by rw [e8]
    have hba : ∀ e, (bsf (X (2 + 8)) i p e).natAbs ≤ 1000000 := fun e => Nat.le_trans (bsf_abs p hPa e) (Nat.le_trans (Nat.pow_le_pow_right (by decide) hp6) (by decide))
    iterate 2 refine mj_T.pl rfl rfl rfl rfl ?_
    refine mT_get m 19 cq_d1 (by decide) rfl rfl ?_
    refine mT_get (v := .int (jn ((p : Nat) : Int))) m 10 cq_d2 (by decide) rfl (congrArg (fun z : Int => some (Value.int (jn z))) ((congrFun (e4 2 (by decide) (by decide)) 3).trans hp.1)) ?_
    refine mj_T.icmp (a := ((i : Nat) : Int)) (b := ((p : Nat) : Int)) rfl ⟨by omega, by omega⟩ ⟨by omega, by omega⟩ (fun c1 => ?_) (fun c1 => ?_)
    · exfalso
      simp only [jc, Bool.not_eq_true', Bool.not_eq_false', decide_eq_true_eq, decide_eq_false_iff_not] at c1
      omega
    · simp only [jc, Bool.not_eq_true', Bool.not_eq_false', decide_eq_true_eq, decide_eq_false_iff_not] at c1
      refine mj_T.pl rfl rfl rfl rfl ?_
      refine mT_get m 19 cq_d1 (by decide) rfl rfl ?_
      refine mj_T.pl rfl rfl rfl rfl ?_
      refine mj_T.call rfl rfl (Nat.le_of_ble_eq_true rfl) (Nat.le_of_ble_eq_true rfl) (mV_of m 10 cq_d2 (by decide) rfl (by decide) rfl _) rfl (mj_Ok.up (by omega) (mB_weight (D := 0) m cq_d2 (hp.cg (fun c c1 c2 => e4 c (by omega) (by omega))) (i := i) (by omega))) (fun v g2 hq => ?_) (fun i g2 hq => ?_)
      rotate_left
      · cases hq
      rw [ew] at hq
      cases hq
      refine mj_T.eq (pc2 := 48) (st2 := [.long (jl (wgt (X (2 + 8)) p i))]) ?_ rfl rfl rfl rfl
      refine mj_T.pl (loc' := [some (.ref 1), some (.int (jn t)), some (.long (jl M)), none, some (.int (jn ((i : Nat) : Int))), some (.long (jl (wgt (X (2 + 8)) p i))), none]) rfl rfl rfl rfl ?_
      refine mj_T.pl rfl rfl rfl rfl ?_
      refine mT_get m 19 cq_d1 (by decide) rfl rfl ?_
      iterate 2 refine mj_T.pl rfl rfl rfl rfl ?_
      refine mT_get m 19 cq_d1 (by decide) rfl rfl ?_
      refine mj_T.call rfl rfl (Nat.le_of_ble_eq_true rfl) (Nat.le_of_ble_eq_true rfl) (mV_of m 10 cq_d2 (by decide) rfl (by decide) rfl _) rfl (mj_Ok.up (by omega) (mB_basis (D := 0) m cq_d2 cq_d482 (hp.cg (fun c c1 c2 => e4 c (by omega) (by omega))) (i := i) (by omega) (by decide) (by decide))) (fun v g3 hq => ?_) (fun i g3 hq => ?_)
      rotate_left
      · obtain ⟨_, _, _, _, _, hq⟩ := hq; cases hq
      obtain ⟨X2, _, m2, y1, y2, hq⟩ := hq
      cases hq
      rw [e8] at y1
      have x20 : X2 20 2 = X1 20 2 := congrFun (y2 20 (by decide)) 2
      have x11 : X2 (2 + 9) i = X (2 + 9) i := by
        rw [y2 _ (by decide), e4 _ (by decide) (by decide)]
      refine mj_T.eq (pc2 := 63) (st2 := []) ?_ rfl rfl rfl rfl
      refine mj_T.pl rfl rfl rfl rfl ?_
      refine mT_get m2 19 cq_d1 (by decide) rfl rfl ?_
      refine mj_T.pl rfl rfl rfl rfl ?_
      refine jT.lc 0 rfl rfl ?_
      refine mj_T.lif (a := (wgt (X (2 + 8)) p i)) (b := ((0 : Nat) : Int)) rfl rfl ⟨by omega, by omega⟩ ⟨by omega, by omega⟩ (fun c4 => ?_) (fun c4 => ?_)
      · simp only [jc, Bool.not_eq_true', Bool.not_eq_false', decide_eq_true_eq, decide_eq_false_iff_not] at c4
        refine mj_T.pl rfl rfl rfl rfl ?_
        refine mT_get m2 19 cq_d1 (by decide) rfl rfl ?_
        refine mj_T.pl rfl rfl rfl rfl ?_
        refine mj_T.call rfl rfl (Nat.le_of_ble_eq_true rfl) (Nat.le_of_ble_eq_true rfl) (mV_of m2 10 cq_d2 (by decide) rfl (by decide) rfl _) rfl (mj_Ok.up (by omega) (mB_height (D := 0) (i := i) m2 cq_d2 (by omega))) (fun v g5 hq => ?_) (fun i g5 hq => ?_)
        rotate_left
        · cases hq
        rw [x11] at hq
        cases hq
        refine mj_T.eq (pc2 := 87) (st2 := [.int (jn (X (2 + 9) i)), .ref 19]) ?_ rfl rfl rfl rfl
        refine mj_T.i2l rfl ⟨by omega, by omega⟩ ?_
        iterate 2 refine mj_T.pl rfl rfl rfl rfl ?_
        refine mT_ldiv rfl ⟨by omega, by omega⟩ (by omega) ⟨by omega, by omega⟩ (by omega) ?_
        refine mj_T.lmul (a := (X (2 + 9) i)) (b := (M.tdiv (wgt (X (2 + 8)) p i))) rfl ?_
        refine mj_T.pl rfl rfl rfl rfl ?_
        refine mT_get m2 19 cq_d1 (by decide) rfl rfl ?_
        refine mj_T.call rfl rfl (Nat.le_of_ble_eq_true rfl) (Nat.le_of_ble_eq_true rfl) (mV_of m2 11 cq_d19 (by decide) rfl (by decide) rfl _) rfl (mj_Ok.up (by omega) (mD_gather (D := 0) m2 (f := (X (2 + 9) i * M.tdiv (wgt (X (2 + 8)) p i))) (W := itp (X (2 + 8)) (X (2 + 9)) M p i) (M := i * 6395971332022272000000000) cq_d482 (by have := itp_f (w := wgt (X (2 + 8)) p i) (Y := X (2 + 9) i) (M := M) (by omega) (by omega); omega) (fun e he => by rw [y1 e he]; have := hba e; omega) (itp_abs hp6 hPa hYa (by omega) i (by omega)) (Nat.lt_of_le_of_lt (Nat.add_le_add_right (Nat.mul_le_mul_right _ (show i ≤ 6 by omega)) _) it_fit) e1)) (fun v g6 hq => ?_) (fun i g6 hq => ?_)
        rotate_left
        · obtain ⟨_, _, _, _, _, hq⟩ := hq; cases hq
        obtain ⟨V3, _, m3, z1, z2, hq⟩ := hq
        cases hq
        refine mj_T.eq (pc2 := 100) (st2 := []) ?_ rfl rfl rfl rfl
        refine mj_T.iinc rfl rfl ?_
        rw [show ((i : Nat) : Int) + 1 = ((i + 1 : Nat) : Int) by omega]
        refine mj_T.eq (loc2 := [some (.ref 1), some (.int (jn t)), some (.long (jl M)), none, some (.int (jn (((i + 1) : Nat) : Int))), some (.long (jl (wgt (X (2 + 8)) p i))), none]) ?_ rfl rfl rfl rfl
        refine mj_T.pl rfl rfl rfl rfl ?_
        refine mC_it_loop hp hM hend k (i + 1) (by omega) _ _ _ _ m3 (fun e he => ?_) ?_ (fun x x1 x2 x3 x4 => (z2 x x1 x2 x3 x4).trans (e3 x x1 x2 x3 x4)) (fun c c1 c2 => by rw [xup_oth c2, y2 c c1, e4 c c1 c2])
        · rw [z1 e he, y1 e he]
          rfl
        · rw [xup_at]
          exact congrArg (fun z : Nat => (z : Int) - 1) (fdg_congr 13 (fun e he => by
            show itp (X (2 + 8)) (X (2 + 9)) M p i e + X (2 + 9) i * M.tdiv (wgt (X (2 + 8)) p i) * X2 482 e = itp (X (2 + 8)) (X (2 + 9)) M p i e + X (2 + 9) i * M.tdiv (wgt (X (2 + 8)) p i) * bsf (X (2 + 8)) i p e
            rw [y1 e he]))
      · exfalso
        simp only [jc, Bool.not_eq_true', Bool.not_eq_false', decide_eq_true_eq, decide_eq_false_iff_not] at c4
        omega
end MIT
