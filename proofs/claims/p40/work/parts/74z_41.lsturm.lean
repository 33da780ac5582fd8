/-! The class loosely: one step of the row of Sturm. -/
theorem tm2 (x : Int) : jr (x.tmod 2) := by
  have h : (x.tmod 2).natAbs = x.natAbs % 2 := Int.natAbs_tmod x 2
  exact ⟨by omega, by omega⟩
section MLS
variable {g h : mj_H} {n D p q r : Nat} {V : Nat → Int} {X : Nat → Nat → Int}
theorem mZ_69_loop {d : Int} (hd : X 180 2 = d) (hd2 : -1 ≤ d ∧ d < 13) : ∀ (k j : Nat), 13 = j + k → ∀ (V1 : Nat → Int) (h1 : mj_H), jM g n V1 (xup X 210 2 (-1)) h1 → by0 V1 → mj_T (D + 2) mj_m69 13 [some (.ref 172), some (.ref 210), some (.int (jn ((j + 1 : Nat) : Int)))] [] h1 (fun z => ∃ (V2 : Nat → Int) (d2 : Int) (h2 : mj_H), jM g n V2 (xup X 210 2 d2) h2 ∧ by0 V2 ∧ (-1 ≤ d2 ∧ d2 < cL (210 + 3)) ∧ z = (.inl none, h2))
  | 0, j, hj, V1, h1, m, b => by
    have l173 : cL 173 = 14 := mK_r.2.2.2.1
    have p210 : cL (210 + 3) = 13 := (mK_r.2.2.2.2.2.1 1 (by decide)).2
    have p180 : cL (180 + 3) = 13 := (mK_r.2.2.2.2.2.1 0 (by decide)).2
    iterate 2 refine mj_T.pl rfl rfl rfl rfl ?_
    refine mT_get m 16 cq_d172 (by decide) rfl rfl ?_
    refine mj_T.pl rfl rfl rfl rfl ?_
    refine mT_aald m 5 cq_d173 (by decide) rfl rfl (by omega) ⟨by omega, by omega⟩ ?_
    refine mj_T.eq (st2 := [.ref 180, .int (jn (((j + 1) : Nat) : Int))]) ?_ rfl rfl rfl rfl
    refine mT_get (v := .int (jn d)) m 13 cq_d180 (by decide) rfl (congrArg (fun z : Int => some (Value.int (jn z))) ((congrFun (xup_oth (by decide)) 2).trans (hd))) ?_
    refine mj_T.icmp (a := (((j + 1) : Nat) : Int)) (b := d) rfl ⟨by omega, by omega⟩ ⟨by omega, by omega⟩ (fun c1 => ?_) (fun c1 => ?_)
    · simp only [jc, Bool.not_eq_true', Bool.not_eq_false', decide_eq_true_eq, decide_eq_false_iff_not] at c1
      refine mj_T.pl rfl rfl rfl rfl ?_
      refine mj_T.call rfl rfl (Nat.le_of_ble_eq_true rfl) (Nat.le_of_ble_eq_true rfl) (mV_of m 13 cq_d210 (by decide) rfl (by decide) rfl _) rfl (mj_Ok.up (by omega) (mZ_42 (D := 0) m cq_d210)) (fun v g2 hq => ?_) (fun i g2 hq => ?_)
      rotate_left
      · obtain ⟨_, _, _, _, hq⟩ := hq; cases hq
      obtain ⟨d3, _, m4, hd3, hq⟩ := hq
      cases hq
      refine mj_T.eq (pc2 := 68) (st2 := []) ?_ rfl rfl rfl rfl
      exact mj_T.ret rfl rfl rfl ⟨V1, d3, _, m4.to rfl (xup_xup _ _ _ _ _).symm, b, hd3, rfl⟩
    · exfalso
      simp only [jc, Bool.not_eq_true', Bool.not_eq_false', decide_eq_true_eq, decide_eq_false_iff_not] at c1
      omega
  | k + 1, j, hj, V1, h1, m, b => by
    have l173 : cL 173 = 14 := mK_r.2.2.2.1
    have p210 : cL (210 + 3) = 13 := (mK_r.2.2.2.2.2.1 1 (by decide)).2
    have p180 : cL (180 + 3) = 13 := (mK_r.2.2.2.2.2.1 0 (by decide)).2
    iterate 2 refine mj_T.pl rfl rfl rfl rfl ?_
    refine mT_get m 16 cq_d172 (by decide) rfl rfl ?_
    refine mj_T.pl rfl rfl rfl rfl ?_
    refine mT_aald m 5 cq_d173 (by decide) rfl rfl (by omega) ⟨by omega, by omega⟩ ?_
    refine mj_T.eq (st2 := [.ref 180, .int (jn (((j + 1) : Nat) : Int))]) ?_ rfl rfl rfl rfl
    refine mT_get (v := .int (jn d)) m 13 cq_d180 (by decide) rfl (congrArg (fun z : Int => some (Value.int (jn z))) ((congrFun (xup_oth (by decide)) 2).trans (hd))) ?_
    refine mj_T.icmp (a := (((j + 1) : Nat) : Int)) (b := d) rfl ⟨by omega, by omega⟩ ⟨by omega, by omega⟩ (fun c1 => ?_) (fun c1 => ?_)
    · simp only [jc, Bool.not_eq_true', Bool.not_eq_false', decide_eq_true_eq, decide_eq_false_iff_not] at c1
      refine mj_T.pl rfl rfl rfl rfl ?_
      refine mj_T.call rfl rfl (Nat.le_of_ble_eq_true rfl) (Nat.le_of_ble_eq_true rfl) (mV_of m 13 cq_d210 (by decide) rfl (by decide) rfl _) rfl (mj_Ok.up (by omega) (mZ_42 (D := 0) m cq_d210)) (fun v g2 hq => ?_) (fun i g2 hq => ?_)
      rotate_left
      · obtain ⟨_, _, _, _, hq⟩ := hq; cases hq
      obtain ⟨d3, _, m4, hd3, hq⟩ := hq
      cases hq
      refine mj_T.eq (pc2 := 68) (st2 := []) ?_ rfl rfl rfl rfl
      exact mj_T.ret rfl rfl rfl ⟨V1, d3, _, m4.to rfl (xup_xup _ _ _ _ _).symm, b, hd3, rfl⟩
    · simp only [jc, Bool.not_eq_true', Bool.not_eq_false', decide_eq_true_eq, decide_eq_false_iff_not] at c1
      iterate 3 refine mj_T.pl rfl rfl rfl rfl ?_
      refine mj_T.isub (a := (((j + 1) : Nat) : Int)) (b := 1) rfl ?_
      rw [show ((((j + 1) : Nat) : Int) - 1) = ((j : Nat) : Int) by omega]
      refine mj_T.call rfl rfl (Nat.le_of_ble_eq_true rfl) (Nat.le_of_ble_eq_true rfl) (mV_of m 13 cq_d210 (by decide) rfl (by decide) rfl _) rfl (mj_Ok.up (by omega) (mP_at (D := 0) m cq_d210 (e := j) (by omega))) (fun v g5 hq => ?_) (fun i g5 hq => ?_)
      rotate_left
      · cases hq
      cases hq
      refine mj_T.eq (pc2 := 33) (st2 := [.ref (210 + 4 + 2 * j)]) ?_ rfl rfl rfl rfl
      refine mj_T.pl rfl rfl rfl rfl ?_
      refine mT_get m 16 cq_d172 (by decide) rfl rfl ?_
      refine mj_T.pl rfl rfl rfl rfl ?_
      refine mT_aald m 5 cq_d173 (by decide) rfl rfl (by omega) ⟨by omega, by omega⟩ ?_
      refine mj_T.eq (st2 := [.ref 180, .ref (210 + 4 + 2 * j)]) ?_ rfl rfl rfl rfl
      refine mj_T.pl rfl rfl rfl rfl ?_
      refine mj_T.call rfl rfl (Nat.le_of_ble_eq_true rfl) (Nat.le_of_ble_eq_true rfl) (mV_of m 13 cq_d180 (by decide) rfl (by decide) rfl _) rfl (mj_Ok.up (by omega) (mP_at (D := 0) m cq_d180 (e := (j + 1)) (by omega))) (fun v g6 hq => ?_) (fun i g6 hq => ?_)
      rotate_left
      · cases hq
      cases hq
      refine mj_T.eq (pc2 := 43) (st2 := [.ref (180 + 4 + 2 * (j + 1)), .ref (210 + 4 + 2 * j)]) ?_ rfl rfl rfl rfl
      refine mj_T.call rfl rfl (Nat.le_of_ble_eq_true rfl) (Nat.le_of_ble_eq_true rfl) (mV_of m 18 ((mK_p cq_d210).2.2.2 j (by omega)) (by decide) rfl (by decide) rfl _) rfl (mj_Ok.up (by omega) (mF_87 (D := 0) m b (fr_part cq_d210 (by omega)) (fr_part cq_d180 (by omega)))) (fun v g7 hq => ?_) (fun i g7 hq => ?_)
      rotate_left
      · obtain ⟨_, _, _, _, hq⟩ := hq; cases hq
      obtain ⟨V8, _, m9, b10, hq⟩ := hq
      cases hq
      refine mj_T.eq (pc2 := 46) (st2 := []) ?_ rfl rfl rfl rfl
      iterate 3 refine mj_T.pl rfl rfl rfl rfl ?_
      refine mj_T.isub (a := (((j + 1) : Nat) : Int)) (b := 1) rfl ?_
      rw [show ((((j + 1) : Nat) : Int) - 1) = ((j : Nat) : Int) by omega]
      refine mj_T.call rfl rfl (Nat.le_of_ble_eq_true rfl) (Nat.le_of_ble_eq_true rfl) (mV_of m9 13 cq_d210 (by decide) rfl (by decide) rfl _) rfl (mj_Ok.up (by omega) (mP_at (D := 0) m9 cq_d210 (e := j) (by omega))) (fun v g11 hq => ?_) (fun i g11 hq => ?_)
      rotate_left
      · cases hq
      cases hq
      refine mj_T.eq (pc2 := 53) (st2 := [.ref (210 + 4 + 2 * j)]) ?_ rfl rfl rfl rfl
      refine mj_T.pl rfl rfl rfl rfl ?_
      refine mj_T.i2l rfl ⟨by omega, by omega⟩ ?_
      refine mj_T.call rfl rfl (Nat.le_of_ble_eq_true rfl) (Nat.le_of_ble_eq_true rfl) (mV_of m9 18 ((mK_p cq_d210).2.2.2 j (by omega)) (by decide) rfl (by decide) rfl _) rfl (mj_Ok.up (by omega) (mF_96 (D := 0) m9 b10 (fr_part cq_d210 (by omega)) ⟨by omega, by omega⟩)) (fun v g12 hq => ?_) (fun i g12 hq => ?_)
      rotate_left
      · obtain ⟨_, _, _, _, hq⟩ := hq; cases hq
      obtain ⟨V13, _, m14, b15, hq⟩ := hq
      cases hq
      refine mj_T.eq (pc2 := 58) (st2 := []) ?_ rfl rfl rfl rfl
      refine mj_T.iinc rfl rfl ?_
      rw [show (((j + 1) : Nat) : Int) + 1 = (((j + 1) + 1 : Nat) : Int) by omega]
      refine mj_T.eq (loc2 := [some (.ref 172), some (.ref 210), some (.int (jn ((((j + 1) + 1) : Nat) : Int)))]) ?_ rfl rfl rfl rfl
      refine mj_T.pl rfl rfl rfl rfl ?_
      exact mZ_69_loop hd hd2 k (j + 1) (by omega) _ _ m14 b15
theorem mZ_69 (m : jM g n V X h) (b : by0 V) {d : Int} (hd : X 180 2 = d) (hd2 : -1 ≤ d ∧ d < 13) : mj_Ok (D + 3) 69 [.ref 172] h (fun z => ∃ (V2 : Nat → Int) (d2 : Int) (h2 : mj_H), jM g n V2 (xup X 210 2 d2) h2 ∧ by0 V2 ∧ (-1 ≤ d2 ∧ d2 < cL (210 + 3)) ∧ z = (.inl none, h2)) := by
  have l173 : cL 173 = 14 := mK_r.2.2.2.1
  have p210 : cL (210 + 3) = 13 := (mK_r.2.2.2.2.2.1 1 (by decide)).2
  have p180 : cL (180 + 3) = 13 := (mK_r.2.2.2.2.2.1 0 (by decide)).2
  refine mj_Ok.of (M := mj_m69) rfl rfl rfl ?_
  refine mj_T.pl rfl rfl rfl rfl ?_
  refine mT_get m 16 cq_d172 (by decide) rfl rfl ?_
  refine mj_T.pl rfl rfl rfl rfl ?_
  refine mT_aald m 5 cq_d173 (by decide) rfl rfl (by omega) ⟨by omega, by omega⟩ ?_
  refine mj_T.eq (st2 := [.ref 210]) ?_ rfl rfl rfl rfl
  refine mj_T.pl (loc' := [some (.ref 172), some (.ref 210), none]) rfl rfl rfl rfl ?_
  refine mj_T.pl rfl rfl rfl rfl ?_
  refine mj_T.call rfl rfl (Nat.le_of_ble_eq_true rfl) (Nat.le_of_ble_eq_true rfl) (mV_of m 13 cq_d210 (by decide) rfl (by decide) rfl _) rfl (mj_Ok.up (by omega) (mP_clear (D := 0) m cq_d210)) (fun v g1 hq => ?_) (fun i g1 hq => ?_)
  rotate_left
  · obtain ⟨_, _, hq⟩ := hq; cases hq
  obtain ⟨_, m2, hq⟩ := hq
  cases hq
  have b3 : by0 (pfl V 210 (fun _ => 0) (cL (210 + 3))) := by0.clr b cq_d210
  refine mj_T.eq (pc2 := 11) (st2 := []) ?_ rfl rfl rfl rfl
  refine mj_T.pl rfl rfl rfl rfl ?_
  refine mj_T.pl (loc' := [some (.ref 172), some (.ref 210), some (.int (jn 1))]) rfl rfl rfl rfl ?_
  refine mj_T.eq (loc2 := [some (.ref 172), some (.ref 210), some (.int (jn ((0 + 1 : Nat) : Int)))]) ?_ rfl rfl rfl rfl
  exact mZ_69_loop hd hd2 13 0 (by omega) _ _ m2 b3
theorem mZ_72_b {p : Int} (hp : -2147483648 ≤ p ∧ p ≤ 2147483647) : ∀ (k : Nat) (i : Int), (1 ≤ i ∧ i ≤ 2147483647) → p - i ≤ k → ∀ (V1 : Nat → Int) (h1 : mj_H), jM g n V1 X h1 → by0 V1 → mj_T (D + 2) mj_m72 71 [some (.ref 172), some (.int (jn p)), some (.ref 164), some (.int (jn i))] [] h1 (fun r => ∃ V2 h2, jM g n V2 X h2 ∧ by0 V2 ∧ r = (.inl none, h2))
  | 0, i, hi, hj, V1, h1, m, b => by
    iterate 2 refine mj_T.pl rfl rfl rfl rfl ?_
    refine mj_T.icmp (a := i) (b := p) rfl ⟨by omega, by omega⟩ ⟨by omega, by omega⟩ (fun c1 => ?_) (fun c1 => ?_)
    · simp only [jc, Bool.not_eq_true', Bool.not_eq_false', decide_eq_true_eq, decide_eq_false_iff_not] at c1
      refine mj_T.pl rfl rfl rfl rfl ?_
      refine mT_get m 16 cq_d172 (by decide) rfl rfl ?_
      refine mj_T.pl rfl rfl rfl rfl ?_
      refine mj_T.call rfl rfl (Nat.le_of_ble_eq_true rfl) (Nat.le_of_ble_eq_true rfl) (mV_of m 18 cq_d176 (by decide) rfl (by decide) rfl _) rfl (mj_Ok.up (by omega) (mF_87 (D := 0) m b fr_d176 fr_d164)) (fun v g2 hq => ?_) (fun i g2 hq => ?_)
      rotate_left
      · obtain ⟨_, _, _, _, hq⟩ := hq; cases hq
      obtain ⟨V3, _, m4, b5, hq⟩ := hq
      cases hq
      refine mj_T.eq (pc2 := 119) (st2 := []) ?_ rfl rfl rfl rfl
      exact mj_T.ret rfl rfl rfl ⟨V3, _, m4, b5, rfl⟩
    · exfalso
      simp only [jc, Bool.not_eq_true', Bool.not_eq_false', decide_eq_true_eq, decide_eq_false_iff_not] at c1
      omega
  | k + 1, i, hi, hj, V1, h1, m, b => by
    iterate 2 refine mj_T.pl rfl rfl rfl rfl ?_
    refine mj_T.icmp (a := i) (b := p) rfl ⟨by omega, by omega⟩ ⟨by omega, by omega⟩ (fun c1 => ?_) (fun c1 => ?_)
    · simp only [jc, Bool.not_eq_true', Bool.not_eq_false', decide_eq_true_eq, decide_eq_false_iff_not] at c1
      refine mj_T.pl rfl rfl rfl rfl ?_
      refine mT_get m 16 cq_d172 (by decide) rfl rfl ?_
      refine mj_T.pl rfl rfl rfl rfl ?_
      refine mj_T.call rfl rfl (Nat.le_of_ble_eq_true rfl) (Nat.le_of_ble_eq_true rfl) (mV_of m 18 cq_d176 (by decide) rfl (by decide) rfl _) rfl (mj_Ok.up (by omega) (mF_87 (D := 0) m b fr_d176 fr_d164)) (fun v g2 hq => ?_) (fun i g2 hq => ?_)
      rotate_left
      · obtain ⟨_, _, _, _, hq⟩ := hq; cases hq
      obtain ⟨V3, _, m4, b5, hq⟩ := hq
      cases hq
      refine mj_T.eq (pc2 := 119) (st2 := []) ?_ rfl rfl rfl rfl
      exact mj_T.ret rfl rfl rfl ⟨V3, _, m4, b5, rfl⟩
    · simp only [jc, Bool.not_eq_true', Bool.not_eq_false', decide_eq_true_eq, decide_eq_false_iff_not] at c1
      refine mj_T.pl rfl rfl rfl rfl ?_
      refine mT_get m 16 cq_d172 (by decide) rfl rfl ?_
      refine mT_get m 11 cq_d19 (by decide) rfl rfl ?_
      iterate 2 refine mj_T.pl rfl rfl rfl rfl ?_
      refine mT_get m 16 cq_d172 (by decide) rfl rfl ?_
      refine mT_get m 11 cq_d19 (by decide) rfl rfl ?_
      refine mj_T.call rfl rfl (Nat.le_of_ble_eq_true rfl) (Nat.le_of_ble_eq_true rfl) (mV_of m 12 cq_d170 (by decide) rfl (by decide) rfl _) rfl (mj_Ok.up (by omega) (mF_31 (D := 0) m b cq_d170 fr_d164 fr_d166)) (fun v g6 hq => ?_) (fun i g6 hq => ?_)
      rotate_left
      · obtain ⟨_, _, _, _, hq⟩ := hq; cases hq
      obtain ⟨V7, _, m8, b9, hq⟩ := hq
      cases hq
      refine mj_T.eq (pc2 := 94) (st2 := []) ?_ rfl rfl rfl rfl
      iterate 2 refine mj_T.pl rfl rfl rfl rfl ?_
      refine mT_get m8 16 cq_d172 (by decide) rfl rfl ?_
      refine mT_get m8 11 cq_d19 (by decide) rfl rfl ?_
      refine mj_T.call rfl rfl (Nat.le_of_ble_eq_true rfl) (Nat.le_of_ble_eq_true rfl) (mV_of m8 18 cq_d164 (by decide) rfl (by decide) rfl _) rfl (mj_Ok.up (by omega) (mF_87 (D := 0) m8 b9 fr_d164 fr_d166)) (fun v g10 hq => ?_) (fun i g10 hq => ?_)
      rotate_left
      · obtain ⟨_, _, _, _, hq⟩ := hq; cases hq
      obtain ⟨V11, _, m12, b13, hq⟩ := hq
      cases hq
      refine mj_T.eq (pc2 := 105) (st2 := []) ?_ rfl rfl rfl rfl
      refine mj_T.iinc rfl rfl ?_
      refine mj_T.eq (loc2 := [some (.ref 172), some (.int (jn p)), some (.ref 164), some (.int (jn (i + 1)))]) ?_ rfl rfl rfl rfl
      refine mj_T.pl rfl rfl rfl rfl ?_
      exact mZ_72_b hp k (i + 1) (by omega) (by omega) _ _ m12 b13
theorem mZ_72_a {p : Int} (hp : -2147483648 ≤ p ∧ p ≤ 2147483647) : ∀ (k : Nat) (i : Int), (1 ≤ i ∧ i ≤ 2147483647) → p - i ≤ k → ∀ (V1 : Nat → Int) (h1 : mj_H), jM g n V1 X h1 → by0 V1 → mj_T (D + 2) mj_m72 18 [some (.ref 172), some (.int (jn p)), some (.ref 164), some (.int (jn i))] [] h1 (fun r => ∃ V2 h2, jM g n V2 X h2 ∧ by0 V2 ∧ r = (.inl none, h2))
  | 0, i, hi, hj, V1, h1, m, b => by
    iterate 2 refine mj_T.pl rfl rfl rfl rfl ?_
    refine mj_T.icmp (a := i) (b := p) rfl ⟨by omega, by omega⟩ ⟨by omega, by omega⟩ (fun c1 => ?_) (fun c1 => ?_)
    · simp only [jc, Bool.not_eq_true', Bool.not_eq_false', decide_eq_true_eq, decide_eq_false_iff_not] at c1
      refine mj_T.pl rfl rfl rfl rfl ?_
      refine mT_get m 16 cq_d172 (by decide) rfl rfl ?_
      refine mT_get m 11 cq_d19 (by decide) rfl rfl ?_
      refine mj_T.pl rfl rfl rfl rfl ?_
      refine mT_get m 16 cq_d172 (by decide) rfl rfl ?_
      refine mj_T.call rfl rfl (Nat.le_of_ble_eq_true rfl) (Nat.le_of_ble_eq_true rfl) (mV_of m 12 cq_d170 (by decide) rfl (by decide) rfl _) rfl (mj_Ok.up (by omega) (mF_30 (D := 0) m b cq_d170 fr_d176)) (fun v g2 hq => ?_) (fun i g2 hq => ?_)
      rotate_left
      · obtain ⟨_, _, _, _, hq⟩ := hq; cases hq
      obtain ⟨V3, _, m4, b5, hq⟩ := hq
      cases hq
      refine mj_T.eq (pc2 := 69) (st2 := []) ?_ rfl rfl rfl rfl
      refine mj_T.pl rfl rfl rfl rfl ?_
      refine mj_T.pl (loc' := [some (.ref 172), some (.int (jn p)), some (.ref 164), some (.int (jn 1))]) rfl rfl rfl rfl ?_
      exact mZ_72_b hp p.toNat 1 (by omega) (by omega) _ _ m4 b5
    · exfalso
      simp only [jc, Bool.not_eq_true', Bool.not_eq_false', decide_eq_true_eq, decide_eq_false_iff_not] at c1
      omega
  | k + 1, i, hi, hj, V1, h1, m, b => by
    iterate 2 refine mj_T.pl rfl rfl rfl rfl ?_
    refine mj_T.icmp (a := i) (b := p) rfl ⟨by omega, by omega⟩ ⟨by omega, by omega⟩ (fun c1 => ?_) (fun c1 => ?_)
    · simp only [jc, Bool.not_eq_true', Bool.not_eq_false', decide_eq_true_eq, decide_eq_false_iff_not] at c1
      refine mj_T.pl rfl rfl rfl rfl ?_
      refine mT_get m 16 cq_d172 (by decide) rfl rfl ?_
      refine mT_get m 11 cq_d19 (by decide) rfl rfl ?_
      refine mj_T.pl rfl rfl rfl rfl ?_
      refine mT_get m 16 cq_d172 (by decide) rfl rfl ?_
      refine mj_T.call rfl rfl (Nat.le_of_ble_eq_true rfl) (Nat.le_of_ble_eq_true rfl) (mV_of m 12 cq_d170 (by decide) rfl (by decide) rfl _) rfl (mj_Ok.up (by omega) (mF_30 (D := 0) m b cq_d170 fr_d176)) (fun v g2 hq => ?_) (fun i g2 hq => ?_)
      rotate_left
      · obtain ⟨_, _, _, _, hq⟩ := hq; cases hq
      obtain ⟨V3, _, m4, b5, hq⟩ := hq
      cases hq
      refine mj_T.eq (pc2 := 69) (st2 := []) ?_ rfl rfl rfl rfl
      refine mj_T.pl rfl rfl rfl rfl ?_
      refine mj_T.pl (loc' := [some (.ref 172), some (.int (jn p)), some (.ref 164), some (.int (jn 1))]) rfl rfl rfl rfl ?_
      exact mZ_72_b hp p.toNat 1 (by omega) (by omega) _ _ m4 b5
    · simp only [jc, Bool.not_eq_true', Bool.not_eq_false', decide_eq_true_eq, decide_eq_false_iff_not] at c1
      refine mj_T.pl rfl rfl rfl rfl ?_
      refine mT_get m 16 cq_d172 (by decide) rfl rfl ?_
      refine mT_get m 11 cq_d19 (by decide) rfl rfl ?_
      iterate 2 refine mj_T.pl rfl rfl rfl rfl ?_
      refine mT_get m 16 cq_d172 (by decide) rfl rfl ?_
      refine mj_T.call rfl rfl (Nat.le_of_ble_eq_true rfl) (Nat.le_of_ble_eq_true rfl) (mV_of m 18 cq_d166 (by decide) rfl (by decide) rfl _) rfl (mj_Ok.up (by omega) (mF_95 (D := 0) m b fr_d166 fr_d164 fr_d174)) (fun v g6 hq => ?_) (fun i g6 hq => ?_)
      rotate_left
      · obtain ⟨_, _, _, _, hq⟩ := hq; cases hq
      obtain ⟨V7, _, m8, b9, hq⟩ := hq
      cases hq
      refine mj_T.eq (pc2 := 38) (st2 := []) ?_ rfl rfl rfl rfl
      iterate 2 refine mj_T.pl rfl rfl rfl rfl ?_
      refine mT_get m8 16 cq_d172 (by decide) rfl rfl ?_
      refine mT_get m8 11 cq_d19 (by decide) rfl rfl ?_
      refine mj_T.call rfl rfl (Nat.le_of_ble_eq_true rfl) (Nat.le_of_ble_eq_true rfl) (mV_of m8 18 cq_d164 (by decide) rfl (by decide) rfl _) rfl (mj_Ok.up (by omega) (mF_87 (D := 0) m8 b9 fr_d164 fr_d166)) (fun v g10 hq => ?_) (fun i g10 hq => ?_)
      rotate_left
      · obtain ⟨_, _, _, _, hq⟩ := hq; cases hq
      obtain ⟨V11, _, m12, b13, hq⟩ := hq
      cases hq
      refine mj_T.eq (pc2 := 49) (st2 := []) ?_ rfl rfl rfl rfl
      refine mj_T.iinc rfl rfl ?_
      refine mj_T.eq (loc2 := [some (.ref 172), some (.int (jn p)), some (.ref 164), some (.int (jn (i + 1)))]) ?_ rfl rfl rfl rfl
      refine mj_T.pl rfl rfl rfl rfl ?_
      exact mZ_72_a hp k (i + 1) (by omega) (by omega) _ _ m12 b13
theorem mZ_72 (m : jM g n V X h) (b : by0 V) {p : Int} (hp : -2147483648 ≤ p ∧ p ≤ 2147483647) : mj_Ok (D + 3) 72 [.ref 172, .int (jn p)] h (fun r => ∃ V2 h2, jM g n V2 X h2 ∧ by0 V2 ∧ r = (.inl none, h2)) := by
  refine mj_Ok.of (M := mj_m72) rfl rfl rfl ?_
  refine mj_T.pl rfl rfl rfl rfl ?_
  refine mT_get m 16 cq_d172 (by decide) rfl rfl ?_
  refine mT_get m 11 cq_d19 (by decide) rfl rfl ?_
  refine mj_T.pl (loc' := [some (.ref 172), some (.int (jn p)), some (.ref 164), none]) rfl rfl rfl rfl ?_
  iterate 2 refine mj_T.pl rfl rfl rfl rfl ?_
  refine mT_get m 16 cq_d172 (by decide) rfl rfl ?_
  refine mj_T.call rfl rfl (Nat.le_of_ble_eq_true rfl) (Nat.le_of_ble_eq_true rfl) (mV_of m 18 cq_d164 (by decide) rfl (by decide) rfl _) rfl (mj_Ok.up (by omega) (mF_87 (D := 0) m b fr_d164 fr_d174)) (fun v g1 hq => ?_) (fun i g1 hq => ?_)
  rotate_left
  · obtain ⟨_, _, _, _, hq⟩ := hq; cases hq
  obtain ⟨V2, _, m3, b4, hq⟩ := hq
  cases hq
  refine mj_T.eq (pc2 := 16) (st2 := []) ?_ rfl rfl rfl rfl
  refine mj_T.pl rfl rfl rfl rfl ?_
  refine mj_T.pl (loc' := [some (.ref 172), some (.int (jn p)), some (.ref 164), some (.int (jn 1))]) rfl rfl rfl rfl ?_
  exact mZ_72_a hp p.toNat 1 (by omega) (by omega) _ _ m3 b4
theorem mZ_71_tail {l1 l3 : Option Value} {dq : Nat} {dp e1 e2 : Int} {l5 : Option Value} {V5 : Nat → Int} {h5 : mj_H} (kq : cK q = 13) (hq8 : q ≠ 80) (hqr : q ≠ r) (hdp2 : -1 ≤ dp ∧ dp < 13) (hdq : X q 2 = (dq : Int)) (hdq2 : dq < cL (q + 3)) (he1 : -1 ≤ e1 ∧ e1 < cL (80 + 3)) (he2 : -1 ≤ e2 ∧ e2 < cL (r + 3)) (m : jM g n V5 (xup (xup X 80 2 e1) r 2 e2) h5) (b : by0 V5) : mj_T (D + 4) mj_m71 135 [some (.ref 172), l1, some (.ref q), l3, some (.int (jn (dp - (dq : Int)))), l5] [] h5 (fun z => ∃ (V2 : Nat → Int) (d1 d2 : Int) (h2 : mj_H), jM g n V2 (xup (xup X 80 2 d1) r 2 d2) h2 ∧ by0 V2 ∧ (-1 ≤ d1 ∧ d1 < cL (80 + 3)) ∧ (-1 ≤ d2 ∧ d2 < cL (r + 3)) ∧ z = (.inl none, h2)) := by
  have hbq := (mK_p kq).2.2.1
  refine mj_T.pl rfl rfl rfl rfl ?_
  refine mT_get m 16 cq_d172 (by decide) rfl rfl ?_
  refine mj_T.pl rfl rfl rfl rfl ?_
  refine mj_T.call rfl rfl (Nat.le_of_ble_eq_true rfl) (Nat.le_of_ble_eq_true rfl) (mV_of m 13 kq (by decide) rfl (by decide) rfl _) rfl (mj_Ok.up (by omega) (mP_lead (D := 0) m kq ((congrFun (xup_oth (by omega)) 2).trans ((congrFun (xup_oth (by omega)) 2).trans (hdq))) hdq2)) (fun v g1 hq => ?_) (fun i g1 hq => ?_)
  rotate_left
  · cases hq
  cases hq
  refine mj_T.eq (pc2 := 143) (st2 := [.ref (q + 4 + 2 * dq), .ref 174]) ?_ rfl rfl rfl rfl
  refine mj_T.call rfl rfl (Nat.le_of_ble_eq_true rfl) (Nat.le_of_ble_eq_true rfl) (mV_of m 18 cq_d174 (by decide) rfl (by decide) rfl _) rfl (mj_Ok.up (by omega) (mF_88 (D := 0) m b fr_d174 (fr_part kq (by omega)))) (fun v g2 hq => ?_) (fun i g2 hq => ?_)
  rotate_left
  · obtain ⟨_, _, _, _, hq⟩ := hq; cases hq
  obtain ⟨V3, _, m4, b5, hq⟩ := hq
  cases hq
  refine mj_T.eq (pc2 := 146) (st2 := []) ?_ rfl rfl rfl rfl
  refine mj_T.pl rfl rfl rfl rfl ?_
  refine mj_T.if0 (a := (dp - (dq : Int))) rfl ⟨by omega, by omega⟩ (fun c6 => ?_) (fun c6 => ?_)
  · simp only [jc, Bool.not_eq_true', Bool.not_eq_false', decide_eq_true_eq, decide_eq_false_iff_not] at c6
    exact mj_T.ret rfl rfl rfl ⟨V3, _, _, _, m4, b5, he1, he2, rfl⟩
  · simp only [jc, Bool.not_eq_true', Bool.not_eq_false', decide_eq_true_eq, decide_eq_false_iff_not] at c6
    iterate 2 refine mj_T.pl rfl rfl rfl rfl ?_
    refine mj_T.call rfl rfl (Nat.le_of_ble_eq_true rfl) (Nat.le_of_ble_eq_true rfl) (mV_of m4 16 cq_d172 (by decide) rfl (by decide) rfl _) rfl (mj_Ok.up (by omega) (mZ_72 (D := 0) m4 b5 (by omega))) (fun v g7 hq => ?_) (fun i g7 hq => ?_)
    rotate_left
    · obtain ⟨_, _, _, _, hq⟩ := hq; cases hq
    obtain ⟨V8, _, m9, b10, hq⟩ := hq
    cases hq
    refine mj_T.eq (pc2 := 157) (st2 := []) ?_ rfl rfl rfl rfl
    exact mj_T.ret rfl rfl rfl ⟨V8, _, _, _, m9, b10, he1, he2, rfl⟩
theorem mZ_71_loop {dq : Nat} {dp : Int} (kp : cK p = 13) (kq : cK q = 13) (kr : cK r = 13) (hp : 180 ≤ p) (hq8 : q ≠ 80) (hr8 : r ≠ 80) (hqr : q ≠ r) (hdp : X p 2 = dp) (hdp2 : -1 ≤ dp ∧ dp < 13) (hdq : X q 2 = (dq : Int)) (hdq2 : dq < cL (q + 3)) : ∀ (k : Nat) (s : Int), s < k → (-30 ≤ s ∧ s ≤ dp - dq) → ∀ (V1 : Nat → Int) (h1 : mj_H) (d0 : Int), jM g n V1 (xup X 80 2 d0) h1 → by0 V1 → mj_T (D + 4) mj_m71 26 [some (.ref 172), some (.ref p), some (.ref q), some (.ref r), some (.int (jn (dp - (dq : Int)))), some (.int (jn s))] [] h1 (fun z => ∃ (V2 : Nat → Int) (d1 d2 : Int) (h2 : mj_H), jM g n V2 (xup (xup X 80 2 d1) r 2 d2) h2 ∧ by0 V2 ∧ (-1 ≤ d1 ∧ d1 < cL (80 + 3)) ∧ (-1 ≤ d2 ∧ d2 < cL (r + 3)) ∧ z = (.inl none, h2))
  | 0, s, hs, hs2, V1, h1, d0, m, b => by
    have h83 : cL (80 + 3) = 13 := mK_z.2.2.1
    have hbq := (mK_p kq).2.2.1
    refine mj_T.pl rfl rfl rfl rfl ?_
    refine mj_T.if0 (a := s) rfl ⟨by omega, by omega⟩ (fun c1 => ?_) (fun c1 => ?_)
    · simp only [jc, Bool.not_eq_true', Bool.not_eq_false', decide_eq_true_eq, decide_eq_false_iff_not] at c1
      refine mj_T.pl rfl rfl rfl rfl ?_
      refine mT_get m 16 cq_d172 (by decide) rfl rfl ?_
      refine mT_get m 11 cq_d19 (by decide) rfl rfl ?_
      refine mj_T.call rfl rfl (Nat.le_of_ble_eq_true rfl) (Nat.le_of_ble_eq_true rfl) (mV_of m 13 cq_d80 (by decide) rfl (by decide) rfl _) rfl (mj_Ok.up (by omega) (mZ_42 (D := 0) m cq_d80)) (fun v g52 hq => ?_) (fun i g52 hq => ?_)
      rotate_left
      · obtain ⟨_, _, _, _, hq⟩ := hq; cases hq
      obtain ⟨d53, _, m54, hd53, hq⟩ := hq
      cases hq
      rw [xup_xup] at m54
      refine mj_T.eq (pc2 := 64) (st2 := []) ?_ rfl rfl rfl rfl
      refine mj_T.pl rfl rfl rfl rfl ?_
      refine mT_get m54 16 cq_d172 (by decide) rfl rfl ?_
      refine mj_T.pl rfl rfl rfl rfl ?_
      refine mT_get m54 16 cq_d172 (by decide) rfl rfl ?_
      refine mT_get m54 11 cq_d19 (by decide) rfl rfl ?_
      refine mj_T.pl rfl rfl rfl rfl ?_
      refine mT_get m54 16 cq_d172 (by decide) rfl rfl ?_
      refine mj_T.pl rfl rfl rfl rfl ?_
      refine mj_T.call rfl rfl (Nat.le_of_ble_eq_true rfl) (Nat.le_of_ble_eq_true rfl) (mV_of m54 11 cq_d19 (by decide) rfl (by decide) rfl _) rfl (mj_Ok.up (by omega) (mZ_20 (D := 0) m54 b cq_d80 fr_d174 (xup_at _ _ _ _) hd53 ⟨by omega, by omega⟩)) (fun v g55 hq => ?_) (fun i g55 hq => ?_)
      rotate_left
      · obtain ⟨_, _, _, _, hq⟩ := hq; cases hq
      obtain ⟨V56, _, m57, b58, hq⟩ := hq
      cases hq
      refine mj_T.eq (pc2 := 83) (st2 := []) ?_ rfl rfl rfl rfl
      refine mj_T.pl rfl rfl rfl rfl ?_
      refine mT_get m57 16 cq_d172 (by decide) rfl rfl ?_
      refine mj_T.pl rfl rfl rfl rfl ?_
      refine mT_get m57 16 cq_d172 (by decide) rfl rfl ?_
      refine mT_get m57 11 cq_d19 (by decide) rfl rfl ?_
      refine mj_T.pl rfl rfl rfl rfl ?_
      refine mT_get m57 16 cq_d172 (by decide) rfl rfl ?_
      refine mj_T.pl rfl rfl rfl rfl ?_
      refine mj_T.call rfl rfl (Nat.le_of_ble_eq_true rfl) (Nat.le_of_ble_eq_true rfl) (mV_of m57 11 cq_d19 (by decide) rfl (by decide) rfl _) rfl (mj_Ok.up (by omega) (mZ_20 (D := 0) m57 b58 cq_d80 fr_d176 (xup_at _ _ _ _) hd53 ⟨by omega, by omega⟩)) (fun v g59 hq => ?_) (fun i g59 hq => ?_)
      rotate_left
      · obtain ⟨_, _, _, _, hq⟩ := hq; cases hq
      obtain ⟨V60, _, m61, b62, hq⟩ := hq
      cases hq
      refine mj_T.eq (pc2 := 103) (st2 := []) ?_ rfl rfl rfl rfl
      iterate 2 refine mj_T.pl rfl rfl rfl rfl ?_
      refine mT_get m61 16 cq_d172 (by decide) rfl rfl ?_
      refine mT_get m61 11 cq_d19 (by decide) rfl rfl ?_
      refine mj_T.call rfl rfl (Nat.le_of_ble_eq_true rfl) (Nat.le_of_ble_eq_true rfl) (mV_of m61 13 kr (by decide) rfl (by decide) rfl _) rfl (mj_Ok.up (by omega) (mZ_41 (D := 0) m61 b62 kr cq_d80)) (fun v g63 hq => ?_) (fun i g63 hq => ?_)
      rotate_left
      · obtain ⟨_, _, _, _, _, _, hq⟩ := hq; cases hq
      obtain ⟨V65, d64, _, m66, b67, hd64, hq⟩ := hq
      cases hq
      refine mj_T.eq (pc2 := 114) (st2 := []) ?_ rfl rfl rfl rfl
      refine mj_T.pl rfl rfl rfl rfl ?_
      refine mj_T.call rfl rfl (Nat.le_of_ble_eq_true rfl) (Nat.le_of_ble_eq_true rfl) (mV_of m66 13 kq (by decide) rfl (by decide) rfl _) rfl (mj_Ok.up (by omega) (mP_lead (D := 0) m66 kq ((congrFun (xup_oth (by omega)) 2).trans ((congrFun (xup_oth (by omega)) 2).trans (hdq))) hdq2)) (fun v g68 hq => ?_) (fun i g68 hq => ?_)
      rotate_left
      · cases hq
      cases hq
      refine mj_T.eq (pc2 := 118) (st2 := [.ref (q + 4 + 2 * dq)]) ?_ rfl rfl rfl rfl
      refine mZ_sg m66 ((mK_p kq).2.2.2 dq (by omega)) rfl (fun z69 rz69 => ?_)
      refine mj_T.if0 (a := z69) rfl ⟨by omega, by omega⟩ (fun c70 => ?_) (fun c70 => ?_)
      · simp only [jc, Bool.not_eq_true', Bool.not_eq_false', decide_eq_true_eq, decide_eq_false_iff_not] at c70
        refine mj_T.pl rfl rfl rfl rfl ?_
        refine mj_T.call rfl rfl (Nat.le_of_ble_eq_true rfl) (Nat.le_of_ble_eq_true rfl) (mV_of m66 13 kr (by decide) rfl (by decide) rfl _) rfl (mj_Ok.up (by omega) (mZ_43 (D := 0) m66 b67 kr)) (fun v g71 hq => ?_) (fun i g71 hq => ?_)
        rotate_left
        · obtain ⟨_, _, _, _, hq⟩ := hq; cases hq
        obtain ⟨V72, _, m73, b74, hq⟩ := hq
        cases hq
        refine mj_T.eq (pc2 := 135) (st2 := []) ?_ rfl rfl rfl rfl
        exact mZ_71_tail kq hq8 hqr hdp2 hdq hdq2 hd53 hd64 m73 b74
      · simp only [jc, Bool.not_eq_true', Bool.not_eq_false', decide_eq_true_eq, decide_eq_false_iff_not] at c70
        iterate 2 refine mj_T.pl rfl rfl rfl rfl ?_
        refine mj_T.irem (a := (dp - (dq : Int))) (b := 2) rfl ⟨by omega, by omega⟩ ⟨by decide, by decide⟩ (by decide) ?_
        refine mj_T.if0 (a := ((dp - (dq : Int)).tmod 2)) rfl (tm2 _) (fun c75 => ?_) (fun c75 => ?_)
        · simp only [jc, Bool.not_eq_true', Bool.not_eq_false', decide_eq_true_eq, decide_eq_false_iff_not] at c75
          exact mZ_71_tail kq hq8 hqr hdp2 hdq hdq2 hd53 hd64 m66 b67
        · simp only [jc, Bool.not_eq_true', Bool.not_eq_false', decide_eq_true_eq, decide_eq_false_iff_not] at c75
          refine mj_T.pl rfl rfl rfl rfl ?_
          refine mj_T.call rfl rfl (Nat.le_of_ble_eq_true rfl) (Nat.le_of_ble_eq_true rfl) (mV_of m66 13 kr (by decide) rfl (by decide) rfl _) rfl (mj_Ok.up (by omega) (mZ_43 (D := 0) m66 b67 kr)) (fun v g76 hq => ?_) (fun i g76 hq => ?_)
          rotate_left
          · obtain ⟨_, _, _, _, hq⟩ := hq; cases hq
          obtain ⟨V77, _, m78, b79, hq⟩ := hq
          cases hq
          refine mj_T.eq (pc2 := 135) (st2 := []) ?_ rfl rfl rfl rfl
          exact mZ_71_tail kq hq8 hqr hdp2 hdq hdq2 hd53 hd64 m78 b79
    · exfalso
      simp only [jc, Bool.not_eq_true', Bool.not_eq_false', decide_eq_true_eq, decide_eq_false_iff_not] at c1
      omega
  | k + 1, s, hs, hs2, V1, h1, d0, m, b => by
    have h83 : cL (80 + 3) = 13 := mK_z.2.2.1
    have hbq := (mK_p kq).2.2.1
    refine mj_T.pl rfl rfl rfl rfl ?_
    refine mj_T.if0 (a := s) rfl ⟨by omega, by omega⟩ (fun c1 => ?_) (fun c1 => ?_)
    · simp only [jc, Bool.not_eq_true', Bool.not_eq_false', decide_eq_true_eq, decide_eq_false_iff_not] at c1
      refine mj_T.pl rfl rfl rfl rfl ?_
      refine mT_get m 16 cq_d172 (by decide) rfl rfl ?_
      refine mT_get m 11 cq_d19 (by decide) rfl rfl ?_
      refine mj_T.call rfl rfl (Nat.le_of_ble_eq_true rfl) (Nat.le_of_ble_eq_true rfl) (mV_of m 13 cq_d80 (by decide) rfl (by decide) rfl _) rfl (mj_Ok.up (by omega) (mZ_42 (D := 0) m cq_d80)) (fun v g52 hq => ?_) (fun i g52 hq => ?_)
      rotate_left
      · obtain ⟨_, _, _, _, hq⟩ := hq; cases hq
      obtain ⟨d53, _, m54, hd53, hq⟩ := hq
      cases hq
      rw [xup_xup] at m54
      refine mj_T.eq (pc2 := 64) (st2 := []) ?_ rfl rfl rfl rfl
      refine mj_T.pl rfl rfl rfl rfl ?_
      refine mT_get m54 16 cq_d172 (by decide) rfl rfl ?_
      refine mj_T.pl rfl rfl rfl rfl ?_
      refine mT_get m54 16 cq_d172 (by decide) rfl rfl ?_
      refine mT_get m54 11 cq_d19 (by decide) rfl rfl ?_
      refine mj_T.pl rfl rfl rfl rfl ?_
      refine mT_get m54 16 cq_d172 (by decide) rfl rfl ?_
      refine mj_T.pl rfl rfl rfl rfl ?_
      refine mj_T.call rfl rfl (Nat.le_of_ble_eq_true rfl) (Nat.le_of_ble_eq_true rfl) (mV_of m54 11 cq_d19 (by decide) rfl (by decide) rfl _) rfl (mj_Ok.up (by omega) (mZ_20 (D := 0) m54 b cq_d80 fr_d174 (xup_at _ _ _ _) hd53 ⟨by omega, by omega⟩)) (fun v g55 hq => ?_) (fun i g55 hq => ?_)
      rotate_left
      · obtain ⟨_, _, _, _, hq⟩ := hq; cases hq
      obtain ⟨V56, _, m57, b58, hq⟩ := hq
      cases hq
      refine mj_T.eq (pc2 := 83) (st2 := []) ?_ rfl rfl rfl rfl
      refine mj_T.pl rfl rfl rfl rfl ?_
      refine mT_get m57 16 cq_d172 (by decide) rfl rfl ?_
      refine mj_T.pl rfl rfl rfl rfl ?_
      refine mT_get m57 16 cq_d172 (by decide) rfl rfl ?_
      refine mT_get m57 11 cq_d19 (by decide) rfl rfl ?_
      refine mj_T.pl rfl rfl rfl rfl ?_
      refine mT_get m57 16 cq_d172 (by decide) rfl rfl ?_
      refine mj_T.pl rfl rfl rfl rfl ?_
      refine mj_T.call rfl rfl (Nat.le_of_ble_eq_true rfl) (Nat.le_of_ble_eq_true rfl) (mV_of m57 11 cq_d19 (by decide) rfl (by decide) rfl _) rfl (mj_Ok.up (by omega) (mZ_20 (D := 0) m57 b58 cq_d80 fr_d176 (xup_at _ _ _ _) hd53 ⟨by omega, by omega⟩)) (fun v g59 hq => ?_) (fun i g59 hq => ?_)
      rotate_left
      · obtain ⟨_, _, _, _, hq⟩ := hq; cases hq
      obtain ⟨V60, _, m61, b62, hq⟩ := hq
      cases hq
      refine mj_T.eq (pc2 := 103) (st2 := []) ?_ rfl rfl rfl rfl
      iterate 2 refine mj_T.pl rfl rfl rfl rfl ?_
      refine mT_get m61 16 cq_d172 (by decide) rfl rfl ?_
      refine mT_get m61 11 cq_d19 (by decide) rfl rfl ?_
      refine mj_T.call rfl rfl (Nat.le_of_ble_eq_true rfl) (Nat.le_of_ble_eq_true rfl) (mV_of m61 13 kr (by decide) rfl (by decide) rfl _) rfl (mj_Ok.up (by omega) (mZ_41 (D := 0) m61 b62 kr cq_d80)) (fun v g63 hq => ?_) (fun i g63 hq => ?_)
      rotate_left
      · obtain ⟨_, _, _, _, _, _, hq⟩ := hq; cases hq
      obtain ⟨V65, d64, _, m66, b67, hd64, hq⟩ := hq
      cases hq
      refine mj_T.eq (pc2 := 114) (st2 := []) ?_ rfl rfl rfl rfl
      refine mj_T.pl rfl rfl rfl rfl ?_
      refine mj_T.call rfl rfl (Nat.le_of_ble_eq_true rfl) (Nat.le_of_ble_eq_true rfl) (mV_of m66 13 kq (by decide) rfl (by decide) rfl _) rfl (mj_Ok.up (by omega) (mP_lead (D := 0) m66 kq ((congrFun (xup_oth (by omega)) 2).trans ((congrFun (xup_oth (by omega)) 2).trans (hdq))) hdq2)) (fun v g68 hq => ?_) (fun i g68 hq => ?_)
      rotate_left
      · cases hq
      cases hq
      refine mj_T.eq (pc2 := 118) (st2 := [.ref (q + 4 + 2 * dq)]) ?_ rfl rfl rfl rfl
      refine mZ_sg m66 ((mK_p kq).2.2.2 dq (by omega)) rfl (fun z69 rz69 => ?_)
      refine mj_T.if0 (a := z69) rfl ⟨by omega, by omega⟩ (fun c70 => ?_) (fun c70 => ?_)
      · simp only [jc, Bool.not_eq_true', Bool.not_eq_false', decide_eq_true_eq, decide_eq_false_iff_not] at c70
        refine mj_T.pl rfl rfl rfl rfl ?_
        refine mj_T.call rfl rfl (Nat.le_of_ble_eq_true rfl) (Nat.le_of_ble_eq_true rfl) (mV_of m66 13 kr (by decide) rfl (by decide) rfl _) rfl (mj_Ok.up (by omega) (mZ_43 (D := 0) m66 b67 kr)) (fun v g71 hq => ?_) (fun i g71 hq => ?_)
        rotate_left
        · obtain ⟨_, _, _, _, hq⟩ := hq; cases hq
        obtain ⟨V72, _, m73, b74, hq⟩ := hq
        cases hq
        refine mj_T.eq (pc2 := 135) (st2 := []) ?_ rfl rfl rfl rfl
        exact mZ_71_tail kq hq8 hqr hdp2 hdq hdq2 hd53 hd64 m73 b74
      · simp only [jc, Bool.not_eq_true', Bool.not_eq_false', decide_eq_true_eq, decide_eq_false_iff_not] at c70
        iterate 2 refine mj_T.pl rfl rfl rfl rfl ?_
        refine mj_T.irem (a := (dp - (dq : Int))) (b := 2) rfl ⟨by omega, by omega⟩ ⟨by decide, by decide⟩ (by decide) ?_
        refine mj_T.if0 (a := ((dp - (dq : Int)).tmod 2)) rfl (tm2 _) (fun c75 => ?_) (fun c75 => ?_)
        · simp only [jc, Bool.not_eq_true', Bool.not_eq_false', decide_eq_true_eq, decide_eq_false_iff_not] at c75
          exact mZ_71_tail kq hq8 hqr hdp2 hdq hdq2 hd53 hd64 m66 b67
        · simp only [jc, Bool.not_eq_true', Bool.not_eq_false', decide_eq_true_eq, decide_eq_false_iff_not] at c75
          refine mj_T.pl rfl rfl rfl rfl ?_
          refine mj_T.call rfl rfl (Nat.le_of_ble_eq_true rfl) (Nat.le_of_ble_eq_true rfl) (mV_of m66 13 kr (by decide) rfl (by decide) rfl _) rfl (mj_Ok.up (by omega) (mZ_43 (D := 0) m66 b67 kr)) (fun v g76 hq => ?_) (fun i g76 hq => ?_)
          rotate_left
          · obtain ⟨_, _, _, _, hq⟩ := hq; cases hq
          obtain ⟨V77, _, m78, b79, hq⟩ := hq
          cases hq
          refine mj_T.eq (pc2 := 135) (st2 := []) ?_ rfl rfl rfl rfl
          exact mZ_71_tail kq hq8 hqr hdp2 hdq hdq2 hd53 hd64 m78 b79
    · simp only [jc, Bool.not_eq_true', Bool.not_eq_false', decide_eq_true_eq, decide_eq_false_iff_not] at c1
      obtain ⟨e, he⟩ : ∃ e : Nat, s = (e : Int) := ⟨(s : Int).toNat, by omega⟩
      subst he
      refine mj_T.pl rfl rfl rfl rfl ?_
      refine mT_get m 16 cq_d172 (by decide) rfl rfl ?_
      refine mj_T.pl rfl rfl rfl rfl ?_
      refine mT_get m 16 cq_d172 (by decide) rfl rfl ?_
      refine mT_get m 11 cq_d19 (by decide) rfl rfl ?_
      iterate 2 refine mj_T.pl rfl rfl rfl rfl ?_
      refine mj_T.call rfl rfl (Nat.le_of_ble_eq_true rfl) (Nat.le_of_ble_eq_true rfl) (mV_of m 11 cq_d19 (by decide) rfl (by decide) rfl _) rfl (mj_Ok.up (by omega) (mZ_17 (D := 0) (dy := dq) (s := e) m b cq_d80 kq ((congrFun (xup_oth (by omega)) 2).trans (hdq)) hdq2 (by omega))) (fun v g2 hq => ?_) (fun i g2 hq => ?_)
      rotate_left
      · obtain ⟨_, _, _, _, hq⟩ := hq; cases hq
      obtain ⟨V3, _, m4, b5, hq⟩ := hq
      cases hq
      refine mj_T.eq (pc2 := 48) (st2 := []) ?_ rfl rfl rfl rfl
      refine mj_T.iinc rfl rfl ?_
      refine mj_T.eq (loc2 := [some (.ref 172), some (.ref p), some (.ref q), some (.ref r), some (.int (jn (dp - (dq : Int)))), some (.int (jn (((e : Nat) : Int) + (-1))))]) ?_ rfl rfl rfl rfl
      refine mj_T.pl rfl rfl rfl rfl ?_
      exact mZ_71_loop kp kq kr hp hq8 hr8 hqr hdp hdp2 hdq hdq2 k _ (by omega) (by omega) _ _ _ m4 b5
theorem mZ_71 (m : jM g n V X h) (b : by0 V) {dq : Nat} {dp : Int} (kp : cK p = 13) (kq : cK q = 13) (kr : cK r = 13) (hp : 180 ≤ p) (hq8 : q ≠ 80) (hr8 : r ≠ 80) (hqr : q ≠ r) (hdp : X p 2 = dp) (hdp2 : -1 ≤ dp ∧ dp < 13) (hdq : X q 2 = (dq : Int)) (hdq2 : dq < cL (q + 3)) : mj_Ok (D + 5) 71 [.ref 172, .ref p, .ref q, .ref r] h (fun z => ∃ (V2 : Nat → Int) (d1 d2 : Int) (h2 : mj_H), jM g n V2 (xup (xup X 80 2 d1) r 2 d2) h2 ∧ by0 V2 ∧ (-1 ≤ d1 ∧ d1 < cL (80 + 3)) ∧ (-1 ≤ d2 ∧ d2 < cL (r + 3)) ∧ z = (.inl none, h2)) := by
  have h83 : cL (80 + 3) = 13 := mK_z.2.2.1
  have hbq := (mK_p kq).2.2.1
  refine mj_Ok.of (M := mj_m71) rfl rfl rfl ?_
  refine mj_T.pl rfl rfl rfl rfl ?_
  refine mT_get (v := .int (jn dp)) m 13 kp (by decide) rfl (congrArg (fun z : Int => some (Value.int (jn z))) (hdp)) ?_
  refine mj_T.pl rfl rfl rfl rfl ?_
  refine mT_get (v := .int (jn ((dq : Nat) : Int))) m 13 kq (by decide) rfl (congrArg (fun z : Int => some (Value.int (jn z))) (hdq)) ?_
  refine mj_T.isub (a := dp) (b := ((dq : Nat) : Int)) rfl ?_
  refine mj_T.pl (loc' := [some (.ref 172), some (.ref p), some (.ref q), some (.ref r), some (.int (jn (dp - ((dq : Nat) : Int)))), none]) rfl rfl rfl rfl ?_
  refine mj_T.pl rfl rfl rfl rfl ?_
  refine mT_get m 16 cq_d172 (by decide) rfl rfl ?_
  refine mT_get m 11 cq_d19 (by decide) rfl rfl ?_
  refine mj_T.pl rfl rfl rfl rfl ?_
  refine mj_T.call rfl rfl (Nat.le_of_ble_eq_true rfl) (Nat.le_of_ble_eq_true rfl) (mV_of m 13 cq_d80 (by decide) rfl (by decide) rfl _) rfl (mj_Ok.up (by omega) (mZ_41 (D := 0) m b cq_d80 kp)) (fun v g1 hq => ?_) (fun i g1 hq => ?_)
  rotate_left
  · obtain ⟨_, _, _, _, _, _, hq⟩ := hq; cases hq
  obtain ⟨V3, d2, _, m4, b5, hd2, hq⟩ := hq
  cases hq
  refine mj_T.eq (pc2 := 22) (st2 := []) ?_ rfl rfl rfl rfl
  refine mj_T.pl rfl rfl rfl rfl ?_
  refine mj_T.pl (loc' := [some (.ref 172), some (.ref p), some (.ref q), some (.ref r), some (.int (jn (dp - ((dq : Nat) : Int)))), some (.int (jn (dp - ((dq : Nat) : Int))))]) rfl rfl rfl rfl ?_
  exact mZ_71_loop kp kq kr hp hq8 hr8 hqr hdp hdp2 hdq hdq2 40 _ (by omega) (by omega) _ _ _ m4 b5
end MLS
