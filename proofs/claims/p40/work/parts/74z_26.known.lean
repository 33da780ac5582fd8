/-! The row of Sturm of the class: the number that is known next. -/
section MRK
variable {g h : mj_H} {n D a c : Nat} {V : Nat → Int} {X : Nat → Nat → Int}
theorem mW_setSizeOf (m : jM g n V X h) (kc : cK c = 18) (ka : cK a = 18) (hne : a ≠ c) (hm : jnl (V a).natAbs ≤ cL (c + 1)) : mj_Ok (D + 2) 88 [.ref c, .ref a] h (fun r => ∃ h2, jM g n (jvu V c (((V a).natAbs : Nat) : Int)) X h2 ∧ r = (.inl none, h2)) := by
  have hcc2 : jnl (V a).natAbs ≤ 1500 := by
    have q := (mK_w (Or.inl kc)).2.1
    omega
  refine mj_Ok.of (M := mj_m88) rfl rfl rfl ?_
  iterate 2 refine mj_T.pl rfl rfl rfl rfl ?_
  refine mj_T.call rfl rfl (Nat.le_of_ble_eq_true rfl) (Nat.le_of_ble_eq_true rfl) (mV_of m 18 kc (by decide) rfl (by decide) rfl _) rfl (mj_Ok.up (by omega) (mW_set (D := 0) m kc ka (by omega) (by rw [(rfl : V a = _)]; exact hm))) (fun v g1 hq => ?_) (fun i g1 hq => ?_)
  rotate_left
  · obtain ⟨_, _, hq⟩ := hq; cases hq
  obtain ⟨_, m2, hq⟩ := hq
  cases hq
  have m2 := m2.to (V' := (jvu V c (V a))) (by rw [(rfl : V a = _)]) rfl
  refine mj_T.eq (pc2 := 5) (st2 := []) ?_ rfl rfl rfl rfl
  iterate 2 refine mj_T.pl rfl rfl rfl rfl ?_
  refine mT_sg m2 kc rfl ?_ (hcl := by rw [(jvu_at _ _ _)]; exact hcc2)
  refine mj_T.if0 (a := (jsg ((jvu V c (V a)) c))) rfl (jsg_r _) (fun c3 => ?_) (fun c3 => ?_)
  · simp only [jc, Bool.not_eq_true', Bool.not_eq_false', decide_eq_true_eq, decide_eq_false_iff_not] at c3
    have hs1 : jsg (((V a).natAbs : Nat) : Int) = 1 := jsg_pos (by rw [jvu_at] at c3; have := mt jsg_z0.mpr c3; omega)
    refine mj_T.pl rfl rfl rfl rfl ?_
    refine mT_psg (w := (((V a).natAbs : Nat) : Int)) m2 kc (by rw [(jvu_at _ _ _)]; rfl) hs1 rfl (fun h4 m5 => ?_) (hcl := by rw [(jvu_at _ _ _)]; exact hcc2)
    exact mj_T.ret rfl rfl rfl ⟨_, m5.to (by rw [jvu_jvu]) rfl, rfl⟩
  · simp only [jc, Bool.not_eq_true', Bool.not_eq_false', decide_eq_true_eq, decide_eq_false_iff_not] at c3
    have hs0 : jsg (((V a).natAbs : Nat) : Int) = 0 := jsg_z0.mpr (by rw [jvu_at] at c3; have := jsg_z0.mp c3; omega)
    iterate 2 refine mj_T.pl rfl rfl rfl rfl ?_
    refine mT_psg (w := (((V a).natAbs : Nat) : Int)) m2 kc (by rw [(jvu_at _ _ _)]; rfl) hs0 rfl (fun h6 m7 => ?_) (hcl := by rw [(jvu_at _ _ _)]; exact hcc2)
    exact mj_T.ret rfl rfl rfl ⟨_, m7.to (by rw [jvu_jvu]) rfl, rfl⟩
theorem mR_pow {p : Nat} {L : Int} (hp : p ≤ 12) (hL : ∀ i, i ≤ p → jnl (L ^ i).natAbs ≤ 239) {Q : mj_R → Prop} (hend : ∀ (V1 : Nat → Int) (h1 : mj_H), jM g n V1 X h1 → V1 164 = L ^ p → V1 174 = L → (∀ x, x ≠ 164 → x ≠ 166 → V1 x = V x) → mj_T (D + 1) mj_m72 55 [some (.ref 172), some (.int (jn (p : Int))), some (.ref 164), some (.int (jn (p : Int)))] [] h1 Q) : ∀ k i, i + k = p → ∀ (V1 : Nat → Int) (h1 : mj_H), jM g n V1 X h1 → V1 164 = L ^ i → V1 174 = L → (∀ x, x ≠ 164 → x ≠ 166 → V1 x = V x) → mj_T (D + 1) mj_m72 18 [some (.ref 172), some (.int (jn (p : Int))), some (.ref 164), some (.int (jn (i : Int)))] [] h1 Q
  | 0, i, hi, V1, h1, m, e1, e2, e3 => by
    iterate 2 refine mj_T.pl rfl rfl rfl rfl ?_
    refine mj_T.icmp (a := ((i : Nat) : Int)) (b := ((p : Nat) : Int)) rfl ⟨by omega, by omega⟩ ⟨by omega, by omega⟩ (fun c1 => ?_) (fun c1 => ?_)
    · simp only [jc, Bool.not_eq_true', Bool.not_eq_false', decide_eq_true_eq, decide_eq_false_iff_not] at c1
      have hip : i = p := by omega
      subst hip
      exact hend V1 _ m e1 e2 e3
    · exfalso
      simp only [jc, Bool.not_eq_true', Bool.not_eq_false', decide_eq_true_eq, decide_eq_false_iff_not] at c1
      omega
  | k + 1, i, hi, V1, h1, m, e1, e2, e3 => by
    have c1 : cL (164 + 1) = 240 := mK_z.2.2.2.2.2.2.2.1
    have c2 : cL (166 + 1) = 240 := mK_z.2.2.2.2.2.2.2.2.1
    iterate 2 refine mj_T.pl rfl rfl rfl rfl ?_
    refine mj_T.icmp (a := ((i : Nat) : Int)) (b := ((p : Nat) : Int)) rfl ⟨by omega, by omega⟩ ⟨by omega, by omega⟩ (fun c1 => ?_) (fun c1 => ?_)
    · exfalso
      simp only [jc, Bool.not_eq_true', Bool.not_eq_false', decide_eq_true_eq, decide_eq_false_iff_not] at c1
      omega
    · simp only [jc, Bool.not_eq_true', Bool.not_eq_false', decide_eq_true_eq, decide_eq_false_iff_not] at c1
      refine mj_T.pl rfl rfl rfl rfl ?_
      refine mT_get m 16 cq_d172 (by decide) rfl rfl ?_
      refine mT_get m 11 cq_d19 (by decide) rfl rfl ?_
      iterate 2 refine mj_T.pl rfl rfl rfl rfl ?_
      refine mT_get m 16 cq_d172 (by decide) rfl rfl ?_
      refine mj_T.call rfl rfl (Nat.le_of_ble_eq_true rfl) (Nat.le_of_ble_eq_true rfl) (mV_of m 18 cq_d166 (by decide) rfl (by decide) rfl _) rfl (mj_Ok.up (by omega) (mW_setProduct (D := 0) m cq_d166 cq_d164 cq_d174 (by omega) (by omega) (by omega) (by rw [(rfl : V1 164 = _), (rfl : V1 174 = _)]; exact (by rw [e1, e2, ← Int.pow_succ]; exact Nat.le_trans (hL (i + 1) (by omega)) (by omega))) (hca := by rw [(rfl : V1 164 = _)]; rw [e1]; exact Nat.le_trans (hL i (by omega)) (by decide)) (hcb := by rw [(rfl : V1 174 = _)]; rw [e2]; have q := hL 1 (by omega); rw [Int.pow_one] at q; omega))) (fun v g2 hq => ?_) (fun i g2 hq => ?_)
      rotate_left
      · obtain ⟨_, _, hq⟩ := hq; cases hq
      obtain ⟨_, m3, hq⟩ := hq
      cases hq
      have m3 := m3.to (V' := (jvu V1 166 ((V1 164) * (V1 174)))) (by rw [(rfl : V1 164 = _), (rfl : V1 174 = _)]) rfl
      refine mj_T.eq (pc2 := 38) (st2 := []) ?_ rfl rfl rfl rfl
      iterate 2 refine mj_T.pl rfl rfl rfl rfl ?_
      refine mT_get m3 16 cq_d172 (by decide) rfl rfl ?_
      refine mT_get m3 11 cq_d19 (by decide) rfl rfl ?_
      refine mj_T.call rfl rfl (Nat.le_of_ble_eq_true rfl) (Nat.le_of_ble_eq_true rfl) (mV_of m3 18 cq_d164 (by decide) rfl (by decide) rfl _) rfl (mj_Ok.up (by omega) (mW_set (D := 0) m3 cq_d164 cq_d166 (by omega) (by rw [(jvu_at _ _ _)]; exact (by rw [e1, e2, ← Int.pow_succ]; exact Nat.le_trans (hL (i + 1) (by omega)) (by omega))))) (fun v g4 hq => ?_) (fun i g4 hq => ?_)
      rotate_left
      · obtain ⟨_, _, hq⟩ := hq; cases hq
      obtain ⟨_, m5, hq⟩ := hq
      cases hq
      have m5 := m5.to (V' := (jvu (jvu V1 166 ((V1 164) * (V1 174))) 164 ((V1 164) * (V1 174)))) (by rw [(jvu_at _ _ _)]) rfl
      refine mj_T.eq (pc2 := 49) (st2 := []) ?_ rfl rfl rfl rfl
      refine mj_T.iinc rfl rfl ?_
      rw [show ((i : Nat) : Int) + 1 = ((i + 1 : Nat) : Int) by omega]
      refine mj_T.eq (loc2 := [some (.ref 172), some (.int (jn ((p : Nat) : Int))), some (.ref 164), some (.int (jn (((i + 1) : Nat) : Int)))]) ?_ rfl rfl rfl rfl
      refine mj_T.pl rfl rfl rfl rfl ?_
      refine mR_pow hp hL hend k (i + 1) (by omega) _ _ m5 ?_ ?_ (fun x x1 x2 => ?_)
      · rw [(jvu_at _ _ _), e1, e2, Int.pow_succ]
      · rw [((jvu_ne _ _ _ (by omega)).trans ((jvu_ne _ _ _ (by omega)).trans (rfl : V1 174 = _)))]
        exact e2
      · rw [((jvu_ne _ _ _ (by omega)).trans ((jvu_ne _ _ _ (by omega)).trans (rfl : V1 x = _)))]
        exact e3 x x1 x2
theorem mR_itd {p : Nat} {P K : Int} (hp : p ≤ 12) (hP : jnl P.natAbs ≤ 239) (hK : jnl K.natAbs ≤ 60) {Q : mj_R → Prop} (hend : ∀ (V1 : Nat → Int) (h1 : mj_H), jM g n V1 X h1 → V1 164 = itd P K (p - 1) → (∀ x, x ≠ 164 → x ≠ 166 → x ≠ 170 → V1 x = V x) → mj_T (D + 2) mj_m72 111 [some (.ref 172), some (.int (jn (p : Int))), some (.ref 164), some (.int (jn (p : Int)))] [] h1 Q) : ∀ k i, 1 ≤ i → i + k = p → ∀ (V1 : Nat → Int) (h1 : mj_H), jM g n V1 X h1 → V1 164 = itd P K (i - 1) → V1 170 = K → (∀ x, x ≠ 164 → x ≠ 166 → x ≠ 170 → V1 x = V x) → mj_T (D + 2) mj_m72 71 [some (.ref 172), some (.int (jn (p : Int))), some (.ref 164), some (.int (jn (i : Int)))] [] h1 Q
  | 0, i, h0, hi, V1, h1, m, e1, e2, e3 => by
    iterate 2 refine mj_T.pl rfl rfl rfl rfl ?_
    refine mj_T.icmp (a := ((i : Nat) : Int)) (b := ((p : Nat) : Int)) rfl ⟨by omega, by omega⟩ ⟨by omega, by omega⟩ (fun c1 => ?_) (fun c1 => ?_)
    · simp only [jc, Bool.not_eq_true', Bool.not_eq_false', decide_eq_true_eq, decide_eq_false_iff_not] at c1
      have hip : i = p := by omega
      subst hip
      exact hend V1 _ m e1 e3
    · exfalso
      simp only [jc, Bool.not_eq_true', Bool.not_eq_false', decide_eq_true_eq, decide_eq_false_iff_not] at c1
      omega
  | k + 1, i, h0, hi, V1, h1, m, e1, e2, e3 => by
    have c1 : cL (164 + 1) = 240 := mK_z.2.2.2.2.2.2.2.1
    have c2 : cL (166 + 1) = 240 := mK_z.2.2.2.2.2.2.2.2.1
    have hle := jnl_mono (itd_le P K (i - 1))
    iterate 2 refine mj_T.pl rfl rfl rfl rfl ?_
    refine mj_T.icmp (a := ((i : Nat) : Int)) (b := ((p : Nat) : Int)) rfl ⟨by omega, by omega⟩ ⟨by omega, by omega⟩ (fun c1 => ?_) (fun c1 => ?_)
    · exfalso
      simp only [jc, Bool.not_eq_true', Bool.not_eq_false', decide_eq_true_eq, decide_eq_false_iff_not] at c1
      omega
    · simp only [jc, Bool.not_eq_true', Bool.not_eq_false', decide_eq_true_eq, decide_eq_false_iff_not] at c1
      refine mj_T.pl rfl rfl rfl rfl ?_
      refine mT_get m 16 cq_d172 (by decide) rfl rfl ?_
      refine mT_get m 11 cq_d19 (by decide) rfl rfl ?_
      iterate 2 refine mj_T.pl rfl rfl rfl rfl ?_
      refine mT_get m 16 cq_d172 (by decide) rfl rfl ?_
      refine mT_get m 11 cq_d19 (by decide) rfl rfl ?_
      refine mj_T.call rfl rfl (Nat.le_of_ble_eq_true rfl) (Nat.le_of_ble_eq_true rfl) (mV_of m 12 cq_d170 (by decide) rfl (by decide) rfl _) rfl (mj_Ok.up (by omega) (mW_split (D := 0) m cq_d170 cq_d164 cq_d166 (by omega) (by rw [(rfl : V1 164 = _), (rfl : V1 170 = _)]; exact (by rw [e1]; exact jfa_one (by omega))) (by rw [(rfl : V1 164 = _), (rfl : V1 170 = _)]; exact (by rw [e1]; exact Nat.le_trans (jnl_tdiv (Nat.le_refl _)) (by omega))) (hcc := by rw [(rfl : V1 170 = _)]; rw [e2]; omega))) (fun v g2 hq => ?_) (fun i g2 hq => ?_)
      rotate_left
      · obtain ⟨_, _, hq⟩ := hq; cases hq
      obtain ⟨_, m3, hq⟩ := hq
      cases hq
      have m3 := m3.to (V' := (jvu (jvu V1 164 ((V1 164).tmod (V1 170))) 166 ((V1 164).tdiv (V1 170)))) (by rw [(rfl : V1 164 = _), (rfl : V1 170 = _)]) rfl
      refine mj_T.eq (pc2 := 94) (st2 := []) ?_ rfl rfl rfl rfl
      iterate 2 refine mj_T.pl rfl rfl rfl rfl ?_
      refine mT_get m3 16 cq_d172 (by decide) rfl rfl ?_
      refine mT_get m3 11 cq_d19 (by decide) rfl rfl ?_
      refine mj_T.call rfl rfl (Nat.le_of_ble_eq_true rfl) (Nat.le_of_ble_eq_true rfl) (mV_of m3 18 cq_d164 (by decide) rfl (by decide) rfl _) rfl (mj_Ok.up (by omega) (mW_set (D := 0) m3 cq_d164 cq_d166 (by omega) (by rw [(jvu_at _ _ _)]; exact (by rw [e1]; exact Nat.le_trans (jnl_tdiv (Nat.le_refl _)) (by omega))))) (fun v g4 hq => ?_) (fun i g4 hq => ?_)
      rotate_left
      · obtain ⟨_, _, hq⟩ := hq; cases hq
      obtain ⟨_, m5, hq⟩ := hq
      cases hq
      have m5 := m5.to (V' := (jvu (jvu (jvu V1 164 ((V1 164).tmod (V1 170))) 166 ((V1 164).tdiv (V1 170))) 164 ((V1 164).tdiv (V1 170)))) (by rw [(jvu_at _ _ _)]) rfl
      refine mj_T.eq (pc2 := 105) (st2 := []) ?_ rfl rfl rfl rfl
      refine mj_T.iinc rfl rfl ?_
      rw [show ((i : Nat) : Int) + 1 = ((i + 1 : Nat) : Int) by omega]
      refine mj_T.eq (loc2 := [some (.ref 172), some (.int (jn ((p : Nat) : Int))), some (.ref 164), some (.int (jn (((i + 1) : Nat) : Int)))]) ?_ rfl rfl rfl rfl
      refine mj_T.pl rfl rfl rfl rfl ?_
      refine mR_itd hp hP hK hend k (i + 1) (by omega) (by omega) _ _ m5 ?_ ?_ (fun x x1 x2 x3 => ?_)
      · rw [(jvu_at _ _ _), e1, e2, show i + 1 - 1 = i - 1 + 1 by omega]
        rfl
      · rw [((jvu_ne _ _ _ (by omega)).trans ((jvu_ne _ _ _ (by omega)).trans ((jvu_ne _ _ _ (by omega)).trans (rfl : V1 170 = _))))]
        exact e2
      · rw [((jvu_ne _ _ _ (by omega)).trans ((jvu_ne _ _ _ (by omega)).trans ((jvu_ne _ _ _ (by omega)).trans (rfl : V1 x = _))))]
        exact e3 x x1 x2 x3
theorem mR_renew (m : jM g n V X h) {p : Nat} (hp1 : 1 ≤ p) (hp : p ≤ 12) (hL : ∀ i, i ≤ p → jnl (V 174 ^ i).natAbs ≤ 239) (hk : jnl (V 176).natAbs ≤ 60) (hl : jnl (V 174).natAbs ≤ 240) (hk2 : jnl (itd (V 174 ^ p) (V 176) (p - 1)).natAbs ≤ cL (176 + 1)) : mj_Ok (D + 3) 72 [.ref 172, .int (jn (p : Int))] h (fun r => ∃ V2 h2, jM g n V2 X h2 ∧ V2 176 = itd (V 174 ^ p) (V 176) (p - 1) ∧ (∀ x, x ≠ 164 → x ≠ 166 → x ≠ 170 → x ≠ 176 → V2 x = V x) ∧ r = (.inl none, h2)) := by
  have c1 : cL (164 + 1) = 240 := mK_z.2.2.2.2.2.2.2.1
  have c4 : cL (170 + 1) = 60 := mK_z.2.2.2.2.2.2.2.2.2.2.1
  refine mj_Ok.of (M := mj_m72) rfl rfl rfl ?_
  refine mj_T.pl rfl rfl rfl rfl ?_
  refine mT_get m 16 cq_d172 (by decide) rfl rfl ?_
  refine mT_get m 11 cq_d19 (by decide) rfl rfl ?_
  refine mj_T.pl (loc' := [some (.ref 172), some (.int (jn ((p : Nat) : Int))), some (.ref 164), none]) rfl rfl rfl rfl ?_
  iterate 2 refine mj_T.pl rfl rfl rfl rfl ?_
  refine mT_get m 16 cq_d172 (by decide) rfl rfl ?_
  refine mj_T.call rfl rfl (Nat.le_of_ble_eq_true rfl) (Nat.le_of_ble_eq_true rfl) (mV_of m 18 cq_d164 (by decide) rfl (by decide) rfl _) rfl (mj_Ok.up (by omega) (mW_set (D := 0) m cq_d164 cq_d174 (by omega) (by rw [(rfl : V 174 = _)]; exact (by omega)))) (fun v g1 hq => ?_) (fun i g1 hq => ?_)
  rotate_left
  · obtain ⟨_, _, hq⟩ := hq; cases hq
  obtain ⟨_, m2, hq⟩ := hq
  cases hq
  have m2 := m2.to (V' := (jvu V 164 (V 174))) (by rw [(rfl : V 174 = _)]) rfl
  refine mj_T.eq (pc2 := 16) (st2 := []) ?_ rfl rfl rfl rfl
  refine mj_T.pl rfl rfl rfl rfl ?_
  refine mj_T.pl (loc' := [some (.ref 172), some (.int (jn ((p : Nat) : Int))), some (.ref 164), some (.int (jn 1))]) rfl rfl rfl rfl ?_
  refine mR_pow (V := V) (L := V 174) hp hL (fun V2 h2 m2 e1 e2 e3 => ?_) (p - 1) 1 (by omega) _ _ m2 ((jvu_at _ _ _).trans (Int.pow_one _).symm) (jvu_ne _ _ _ (by decide)) (fun x x1 x2 => jvu_ne _ _ _ x1)
  refine mj_T.pl rfl rfl rfl rfl ?_
  refine mT_get m2 16 cq_d172 (by decide) rfl rfl ?_
  refine mT_get m2 11 cq_d19 (by decide) rfl rfl ?_
  refine mj_T.pl rfl rfl rfl rfl ?_
  refine mT_get m2 16 cq_d172 (by decide) rfl rfl ?_
  refine mj_T.call rfl rfl (Nat.le_of_ble_eq_true rfl) (Nat.le_of_ble_eq_true rfl) (mV_of m2 12 cq_d170 (by decide) rfl (by decide) rfl _) rfl (mj_Ok.up (by omega) (mW_prepare (D := 0) m2 cq_d170 cq_d176 (by rw [(rfl : V2 176 = _)]; exact (by rw [e3 176 (by decide) (by decide)]; omega)))) (fun v g51 hq => ?_) (fun i g51 hq => ?_)
  rotate_left
  · obtain ⟨_, _, hq⟩ := hq; cases hq
  obtain ⟨_, m52, hq⟩ := hq
  cases hq
  have m52 := m52.to (V' := (jvu V2 170 (V2 176))) (by rw [(rfl : V2 176 = _)]) rfl
  refine mj_T.eq (pc2 := 69) (st2 := []) ?_ rfl rfl rfl rfl
  refine mj_T.pl rfl rfl rfl rfl ?_
  refine mj_T.pl (loc' := [some (.ref 172), some (.int (jn ((p : Nat) : Int))), some (.ref 164), some (.int (jn 1))]) rfl rfl rfl rfl ?_
  refine mR_itd (V := V) (P := V 174 ^ p) (K := V2 176) hp (hL p (Nat.le_refl p)) (by rw [e3 176 (by decide) (by decide)]; exact hk) (fun V4 h4 m4 f1 f3 => ?_) (p - 1) 1 (by omega) (by omega) _ _ m52 ((jvu_ne _ _ _ (by decide)).trans e1) (jvu_at _ _ _) (fun x x1 x2 x3 => (jvu_ne _ _ _ x3).trans (e3 x x1 x2))
  refine mj_T.pl rfl rfl rfl rfl ?_
  refine mT_get m4 16 cq_d172 (by decide) rfl rfl ?_
  refine mj_T.pl rfl rfl rfl rfl ?_
  refine mj_T.call rfl rfl (Nat.le_of_ble_eq_true rfl) (Nat.le_of_ble_eq_true rfl) (mV_of m4 18 cq_d176 (by decide) rfl (by decide) rfl _) rfl (mj_Ok.up (by omega) (mW_set (D := 0) m4 cq_d176 cq_d164 (by omega) (by rw [(rfl : V4 164 = _)]; exact (by rw [f1]; exact Nat.le_trans (jnl_mono (by rw [e3 176 (by decide) (by decide)]; exact Nat.le_refl _)) hk2)))) (fun v g91 hq => ?_) (fun i g91 hq => ?_)
  rotate_left
  · obtain ⟨_, _, hq⟩ := hq; cases hq
  obtain ⟨_, m92, hq⟩ := hq
  cases hq
  have m92 := m92.to (V' := (jvu V4 176 (V4 164))) (by rw [(rfl : V4 164 = _)]) rfl
  refine mj_T.eq (pc2 := 119) (st2 := []) ?_ rfl rfl rfl rfl
  refine mj_T.ret rfl rfl rfl ⟨_, _, m92, ?_, fun x x1 x2 x3 x4 => ?_, rfl⟩
  · rw [jvu_at, f1, e3 176 (by decide) (by decide)]
  · rw [jvu_ne _ _ _ x4]
    exact f3 x x1 x2 x3
end MRK
