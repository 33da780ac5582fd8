/-! The class loosely: values, divisions without rest. -/
section MLH
variable {g h : mj_H} {n D p q r : Nat} {V : Nat → Int} {X : Nat → Nat → Int}
theorem mZ_27 (m : jM g n V X h) (b : by0 V) (kr : cK r = 2) (hjr : ∀ j, jR (X r j)) {x y : Int} (hx : -2147483648 ≤ x ∧ x ≤ 2147483647) (hy : -2147483648 ≤ y ∧ y ≤ 2147483647) : mj_Ok (D + 5) 27 [.ref 19, .ref r, .int (jn x), .int (jn y)] h (fun z => ∃ (V2 : Nat → Int) (d c : Int) (h2 : mj_H), jM g n V2 (xup X 80 2 d) h2 ∧ by0 V2 ∧ (-1 ≤ d ∧ d < cL (80 + 3)) ∧ (-2147483648 ≤ c ∧ c ≤ 2147483647) ∧ z = (.inl (some (.int (jn c))), h2)) := by
  have knr : r ≠ 80 ∧ r ≠ 50 := ⟨(kR_ne kr).2.2.1, (kR_ne kr).2.1⟩
  refine mj_Ok.of (M := mj_m27) rfl rfl rfl ?_
  refine mj_T.pl rfl rfl rfl rfl ?_
  refine mT_get m 11 cq_d19 (by decide) rfl rfl ?_
  refine mj_T.pl rfl rfl rfl rfl ?_
  refine jT.lc 1 rfl rfl ?_
  refine mj_T.call rfl rfl (Nat.le_of_ble_eq_true rfl) (Nat.le_of_ble_eq_true rfl) (mV_of m 13 cq_d80 (by decide) rfl (by decide) rfl _) rfl (mj_Ok.up (by omega) (mZ_40 (D := 0) m b cq_d80 kr ⟨by decide, by decide⟩ (by intro j; first | exact hjr j | (rw [xup_oth knr.1]; exact hjr j) | (rw [xup_oth knr.2]; exact hjr j)))) (fun v g1 hq => ?_) (fun i g1 hq => ?_)
  rotate_left
  · obtain ⟨_, _, _, _, _, _, hq⟩ := hq; cases hq
  obtain ⟨V4, d2, _, m3, b5, hd2, hq⟩ := hq
  cases hq
  refine mj_T.eq (pc2 := 9) (st2 := []) ?_ rfl rfl rfl rfl
  iterate 2 refine mj_T.pl rfl rfl rfl rfl ?_
  refine mT_get m3 11 cq_d19 (by decide) rfl rfl ?_
  refine mj_T.pl rfl rfl rfl rfl ?_
  refine mj_T.i2l rfl ⟨by omega, by omega⟩ ?_
  refine mj_T.call rfl rfl (Nat.le_of_ble_eq_true rfl) (Nat.le_of_ble_eq_true rfl) (mV_of m3 11 cq_d19 (by decide) rfl (by decide) rfl _) rfl (mj_Ok.up (by omega) (mZ_26 (D := 0) m3 b5 cq_d80 ⟨by omega, by omega⟩ (xup_at _ _ _ _) hd2)) (fun v g6 hq => ?_) (fun i g6 hq => ?_)
  rotate_left
  · obtain ⟨_, _, _, _, hq⟩ := hq; cases hq
  obtain ⟨V7, _, m8, b9, hq⟩ := hq
  cases hq
  refine mj_T.eq (pc2 := 19) (st2 := []) ?_ rfl rfl rfl rfl
  refine mj_T.pl rfl rfl rfl rfl ?_
  refine mT_get m8 11 cq_d19 (by decide) rfl rfl ?_
  refine mj_T.pl rfl rfl rfl rfl ?_
  refine mj_T.i2l rfl ⟨by omega, by omega⟩ ?_
  refine mj_T.call rfl rfl (Nat.le_of_ble_eq_true rfl) (Nat.le_of_ble_eq_true rfl) (mV_of m8 18 cq_d168 (by decide) rfl (by decide) rfl _) rfl (mj_Ok.up (by omega) (mF_86 (D := 0) m8 b9 fr_d168 ⟨by omega, by omega⟩)) (fun v g10 hq => ?_) (fun i g10 hq => ?_)
  rotate_left
  · obtain ⟨_, _, _, _, hq⟩ := hq; cases hq
  obtain ⟨V11, _, m12, b13, hq⟩ := hq
  cases hq
  refine mj_T.eq (pc2 := 28) (st2 := []) ?_ rfl rfl rfl rfl
  iterate 2 refine mj_T.pl rfl rfl rfl rfl ?_
  refine mT_get m12 11 cq_d19 (by decide) rfl rfl ?_
  refine mj_T.pl rfl rfl rfl rfl ?_
  refine mT_get m12 11 cq_d19 (by decide) rfl rfl ?_
  refine mj_T.call rfl rfl (Nat.le_of_ble_eq_true rfl) (Nat.le_of_ble_eq_true rfl) (mV_of m12 11 cq_d19 (by decide) rfl (by decide) rfl _) rfl (mj_Ok.up (by omega) (mZ_28 (D := 0) m12 b13 cq_d80 fr_d168 (xup_at _ _ _ _) hd2)) (fun v g14 hq => ?_) (fun i g14 hq => ?_)
  rotate_left
  · obtain ⟨_, _, _, _, _, _, hq⟩ := hq; cases hq
  obtain ⟨V17, z15, _, m16, b18, rz15, hq⟩ := hq
  cases hq
  refine mj_T.eq (pc2 := 40) (st2 := [.int (jn z15)]) ?_ rfl rfl rfl rfl
  exact mj_T.ret rfl rfl rfl ⟨V17, _, _, _, m16, b18, hd2, rz15, rfl⟩
theorem mZ_19_in {dq dr e : Nat} (h5 : X 50 2 = (dq : Int)) (h8 : X 80 2 = (dr : Int)) (hdq : dq < 13) (hdr : dr < 13) (he : dq + e < 13) {Q : mj_R → Prop} (hend : ∀ (V1 : Nat → Int) (h1 : mj_H), jM g n V1 (xup X 20 2 (-1)) h1 → by0 V1 → mj_T (D + 3) mj_m19 136 [some (.ref 19), some (.ref 50), some (.ref 20), some (.int (jn (e : Int))), some (.ref (20 + 4 + 2 * e)), some (.int (jn ((dq + 1 : Nat) : Int)))] [] h1 Q) : ∀ k i, dq + 1 = i + k → ∀ (V1 : Nat → Int) (h1 : mj_H), jM g n V1 (xup X 20 2 (-1)) h1 → by0 V1 → mj_T (D + 3) mj_m19 87 [some (.ref 19), some (.ref 50), some (.ref 20), some (.int (jn (e : Int))), some (.ref (20 + 4 + 2 * e)), some (.int (jn (i : Int)))] [] h1 Q
  | 0, i, hi, V1, h1, m, b => by
    have p20 : cL (20 + 3) = 13 := mK_z.1
    have p50 : cL (50 + 3) = 13 := mK_z.2.1
    have p80 : cL (80 + 3) = 13 := mK_z.2.2.1
    iterate 2 refine mj_T.pl rfl rfl rfl rfl ?_
    refine mT_get (v := .int (jn ((dq : Nat) : Int))) m 13 cq_d50 (by decide) rfl (congrArg (fun z : Int => some (Value.int (jn z))) ((congrFun (xup_oth (by decide)) 2).trans (h5))) ?_
    refine mj_T.icmp (a := ((i : Nat) : Int)) (b := ((dq : Nat) : Int)) rfl ⟨by omega, by omega⟩ ⟨by omega, by omega⟩ (fun c1 => ?_) (fun c1 => ?_)
    · simp only [jc, Bool.not_eq_true', Bool.not_eq_false', decide_eq_true_eq, decide_eq_false_iff_not] at c1
      rw [show i = dq + 1 by omega]
      exact hend _ _ m b
    · exfalso
      simp only [jc, Bool.not_eq_true', Bool.not_eq_false', decide_eq_true_eq, decide_eq_false_iff_not] at c1
      omega
  | k + 1, i, hi, V1, h1, m, b => by
    have p20 : cL (20 + 3) = 13 := mK_z.1
    have p50 : cL (50 + 3) = 13 := mK_z.2.1
    have p80 : cL (80 + 3) = 13 := mK_z.2.2.1
    iterate 2 refine mj_T.pl rfl rfl rfl rfl ?_
    refine mT_get (v := .int (jn ((dq : Nat) : Int))) m 13 cq_d50 (by decide) rfl (congrArg (fun z : Int => some (Value.int (jn z))) ((congrFun (xup_oth (by decide)) 2).trans (h5))) ?_
    refine mj_T.icmp (a := ((i : Nat) : Int)) (b := ((dq : Nat) : Int)) rfl ⟨by omega, by omega⟩ ⟨by omega, by omega⟩ (fun c1 => ?_) (fun c1 => ?_)
    · exfalso
      simp only [jc, Bool.not_eq_true', Bool.not_eq_false', decide_eq_true_eq, decide_eq_false_iff_not] at c1
      omega
    · simp only [jc, Bool.not_eq_true', Bool.not_eq_false', decide_eq_true_eq, decide_eq_false_iff_not] at c1
      refine mj_T.pl rfl rfl rfl rfl ?_
      refine mT_get m 11 cq_d19 (by decide) rfl rfl ?_
      iterate 3 refine mj_T.pl rfl rfl rfl rfl ?_
      refine mj_T.call rfl rfl (Nat.le_of_ble_eq_true rfl) (Nat.le_of_ble_eq_true rfl) (mV_of m 13 cq_d50 (by decide) rfl (by decide) rfl _) rfl (mj_Ok.up (by omega) (mP_at (D := 0) m cq_d50 (e := i) (by omega))) (fun v g2 hq => ?_) (fun i g2 hq => ?_)
      rotate_left
      · cases hq
      cases hq
      refine mj_T.eq (pc2 := 108) (st2 := [.ref (50 + 4 + 2 * i), .ref (20 + 4 + 2 * e), .ref 166]) ?_ rfl rfl rfl rfl
      refine mj_T.call rfl rfl (Nat.le_of_ble_eq_true rfl) (Nat.le_of_ble_eq_true rfl) (mV_of m 18 cq_d166 (by decide) rfl (by decide) rfl _) rfl (mj_Ok.up (by omega) (mF_95 (D := 0) m b fr_d166 (fr_part cq_d20 (by omega)) (fr_part cq_d50 (by omega)))) (fun v g3 hq => ?_) (fun i g3 hq => ?_)
      rotate_left
      · obtain ⟨_, _, _, _, hq⟩ := hq; cases hq
      obtain ⟨V4, _, m5, b6, hq⟩ := hq
      cases hq
      refine mj_T.eq (pc2 := 111) (st2 := []) ?_ rfl rfl rfl rfl
      refine mj_T.pl rfl rfl rfl rfl ?_
      refine mT_get m5 11 cq_d19 (by decide) rfl rfl ?_
      iterate 2 refine mj_T.pl rfl rfl rfl rfl ?_
      refine mj_T.iadd (a := ((i : Nat) : Int)) (b := ((e : Nat) : Int)) rfl ?_
      rw [show (((i : Nat) : Int) + ((e : Nat) : Int)) = ((i + e : Nat) : Int) by omega]
      refine mj_T.call rfl rfl (Nat.le_of_ble_eq_true rfl) (Nat.le_of_ble_eq_true rfl) (mV_of m5 13 cq_d80 (by decide) rfl (by decide) rfl _) rfl (mj_Ok.up (by omega) (mP_at (D := 0) m5 cq_d80 (e := (i + e)) (by omega))) (fun v g7 hq => ?_) (fun i g7 hq => ?_)
      rotate_left
      · cases hq
      cases hq
      refine mj_T.eq (pc2 := 122) (st2 := [.ref (80 + 4 + 2 * (i + e))]) ?_ rfl rfl rfl rfl
      refine mj_T.pl rfl rfl rfl rfl ?_
      refine mT_get m5 11 cq_d19 (by decide) rfl rfl ?_
      refine mj_T.pl rfl rfl rfl rfl ?_
      refine mj_T.call rfl rfl (Nat.le_of_ble_eq_true rfl) (Nat.le_of_ble_eq_true rfl) (mV_of m5 18 ((mK_p cq_d80).2.2.2 (i + e) (by omega)) (by decide) rfl (by decide) rfl _) rfl (mj_Ok.up (by omega) (mF_91 (D := 0) m5 b6 (fr_part cq_d80 (by omega)) fr_d166 (by omega))) (fun v g8 hq => ?_) (fun i g8 hq => ?_)
      rotate_left
      · obtain ⟨_, _, _, _, hq⟩ := hq; cases hq
      obtain ⟨V9, _, m10, b11, hq⟩ := hq
      cases hq
      refine mj_T.eq (pc2 := 130) (st2 := []) ?_ rfl rfl rfl rfl
      refine mj_T.iinc rfl rfl ?_
      rw [show ((i : Nat) : Int) + 1 = ((i + 1 : Nat) : Int) by omega]
      refine mj_T.eq (loc2 := [some (.ref 19), some (.ref 50), some (.ref 20), some (.int (jn ((e : Nat) : Int))), some (.ref (20 + 4 + 2 * e)), some (.int (jn (((i + 1) : Nat) : Int)))]) ?_ rfl rfl rfl rfl
      refine mj_T.pl rfl rfl rfl rfl ?_
      exact mZ_19_in h5 h8 hdq hdr he hend k (i + 1) (by omega) _ _ m10 b11
theorem mZ_19_out {dq dr : Nat} (h5 : X 50 2 = (dq : Int)) (h8 : X 80 2 = (dr : Int)) (hdq : dq < 13) (hdr : dr < 13) : ∀ (k : Nat) (s : Int), s < k → (-30 ≤ s ∧ s ≤ (dr : Int) - dq) → ∀ (V1 : Nat → Int) (h1 : mj_H) (l4 l5 : Option Value), jM g n V1 (xup X 20 2 (-1)) h1 → by0 V1 → mj_T (D + 3) mj_m19 28 [some (.ref 19), some (.ref 50), some (.ref 20), some (.int (jn s)), l4, l5] [] h1 (fun z => ∃ (V2 : Nat → Int) (X2 : Nat → Nat → Int) (c : Int) (h2 : mj_H), jM g n V2 X2 h2 ∧ by0 V2 ∧ (∀ a, a ≠ 20 → a ≠ 80 → X2 a = X a) ∧ (-1 ≤ X2 20 2 ∧ X2 20 2 < cL (20 + 3)) ∧ (-1 ≤ X2 80 2 ∧ X2 80 2 < cL (80 + 3)) ∧ (0 ≤ c ∧ c ≤ 1) ∧ z = (.inl (some (.int (jn c))), h2))
  | 0, s, hs, hs2, V1, h1, l4, l5, m, b => by
    have p20 : cL (20 + 3) = 13 := mK_z.1
    have p50 : cL (50 + 3) = 13 := mK_z.2.1
    have p80 : cL (80 + 3) = 13 := mK_z.2.2.1
    refine mj_T.pl rfl rfl rfl rfl ?_
    refine mj_T.if0 (a := s) rfl ⟨by omega, by omega⟩ (fun c1 => ?_) (fun c1 => ?_)
    · simp only [jc, Bool.not_eq_true', Bool.not_eq_false', decide_eq_true_eq, decide_eq_false_iff_not] at c1
      refine mj_T.pl rfl rfl rfl rfl ?_
      refine mj_T.call rfl rfl (Nat.le_of_ble_eq_true rfl) (Nat.le_of_ble_eq_true rfl) (mV_of m 13 cq_d20 (by decide) rfl (by decide) rfl _) rfl (mj_Ok.up (by omega) (mZ_42 (D := 0) m cq_d20)) (fun v g42 hq => ?_) (fun i g42 hq => ?_)
      rotate_left
      · obtain ⟨_, _, _, _, hq⟩ := hq; cases hq
      obtain ⟨d43, _, m44, hd43, hq⟩ := hq
      cases hq
      refine mj_T.eq (pc2 := 146) (st2 := []) ?_ rfl rfl rfl rfl
      refine mj_T.pl rfl rfl rfl rfl ?_
      refine mT_get m44 11 cq_d19 (by decide) rfl rfl ?_
      refine mj_T.call rfl rfl (Nat.le_of_ble_eq_true rfl) (Nat.le_of_ble_eq_true rfl) (mV_of m44 13 cq_d80 (by decide) rfl (by decide) rfl _) rfl (mj_Ok.up (by omega) (mZ_42 (D := 0) m44 cq_d80)) (fun v g45 hq => ?_) (fun i g45 hq => ?_)
      rotate_left
      · obtain ⟨_, _, _, _, hq⟩ := hq; cases hq
      obtain ⟨d46, _, m47, hd46, hq⟩ := hq
      cases hq
      refine mj_T.eq (pc2 := 153) (st2 := []) ?_ rfl rfl rfl rfl
      refine mj_T.pl rfl rfl rfl rfl ?_
      refine mT_get m47 11 cq_d19 (by decide) rfl rfl ?_
      refine mT_get (v := .int (jn d46)) m47 13 cq_d80 (by decide) rfl (congrArg (fun z : Int => some (Value.int (jn z))) (xup_at _ _ _ _)) ?_
      refine mj_T.if0 (a := d46) rfl ⟨by omega, by omega⟩ (fun c48 => ?_) (fun c48 => ?_)
      · simp only [jc, Bool.not_eq_true', Bool.not_eq_false', decide_eq_true_eq, decide_eq_false_iff_not] at c48
        refine mj_T.pl rfl rfl rfl rfl ?_
        exact mj_T.ret rfl rfl rfl ⟨V1, _, _, _, m47, b, fun a a1 a2 => (xup_oth a2).trans ((xup_oth a1).trans (xup_oth a1)), by rw [xup_ne _ _ (Or.inl (by decide)), xup_at]; exact hd43, by rw [xup_at]; exact hd46, ⟨by decide, by decide⟩, rfl⟩
      · simp only [jc, Bool.not_eq_true', Bool.not_eq_false', decide_eq_true_eq, decide_eq_false_iff_not] at c48
        iterate 2 refine mj_T.pl rfl rfl rfl rfl ?_
        exact mj_T.ret rfl rfl rfl ⟨V1, _, _, _, m47, b, fun a a1 a2 => (xup_oth a2).trans ((xup_oth a1).trans (xup_oth a1)), by rw [xup_ne _ _ (Or.inl (by decide)), xup_at]; exact hd43, by rw [xup_at]; exact hd46, ⟨by decide, by decide⟩, rfl⟩
    · exfalso
      simp only [jc, Bool.not_eq_true', Bool.not_eq_false', decide_eq_true_eq, decide_eq_false_iff_not] at c1
      omega
  | k + 1, s, hs, hs2, V1, h1, l4, l5, m, b => by
    have p20 : cL (20 + 3) = 13 := mK_z.1
    have p50 : cL (50 + 3) = 13 := mK_z.2.1
    have p80 : cL (80 + 3) = 13 := mK_z.2.2.1
    refine mj_T.pl rfl rfl rfl rfl ?_
    refine mj_T.if0 (a := s) rfl ⟨by omega, by omega⟩ (fun c1 => ?_) (fun c1 => ?_)
    · simp only [jc, Bool.not_eq_true', Bool.not_eq_false', decide_eq_true_eq, decide_eq_false_iff_not] at c1
      refine mj_T.pl rfl rfl rfl rfl ?_
      refine mj_T.call rfl rfl (Nat.le_of_ble_eq_true rfl) (Nat.le_of_ble_eq_true rfl) (mV_of m 13 cq_d20 (by decide) rfl (by decide) rfl _) rfl (mj_Ok.up (by omega) (mZ_42 (D := 0) m cq_d20)) (fun v g42 hq => ?_) (fun i g42 hq => ?_)
      rotate_left
      · obtain ⟨_, _, _, _, hq⟩ := hq; cases hq
      obtain ⟨d43, _, m44, hd43, hq⟩ := hq
      cases hq
      refine mj_T.eq (pc2 := 146) (st2 := []) ?_ rfl rfl rfl rfl
      refine mj_T.pl rfl rfl rfl rfl ?_
      refine mT_get m44 11 cq_d19 (by decide) rfl rfl ?_
      refine mj_T.call rfl rfl (Nat.le_of_ble_eq_true rfl) (Nat.le_of_ble_eq_true rfl) (mV_of m44 13 cq_d80 (by decide) rfl (by decide) rfl _) rfl (mj_Ok.up (by omega) (mZ_42 (D := 0) m44 cq_d80)) (fun v g45 hq => ?_) (fun i g45 hq => ?_)
      rotate_left
      · obtain ⟨_, _, _, _, hq⟩ := hq; cases hq
      obtain ⟨d46, _, m47, hd46, hq⟩ := hq
      cases hq
      refine mj_T.eq (pc2 := 153) (st2 := []) ?_ rfl rfl rfl rfl
      refine mj_T.pl rfl rfl rfl rfl ?_
      refine mT_get m47 11 cq_d19 (by decide) rfl rfl ?_
      refine mT_get (v := .int (jn d46)) m47 13 cq_d80 (by decide) rfl (congrArg (fun z : Int => some (Value.int (jn z))) (xup_at _ _ _ _)) ?_
      refine mj_T.if0 (a := d46) rfl ⟨by omega, by omega⟩ (fun c48 => ?_) (fun c48 => ?_)
      · simp only [jc, Bool.not_eq_true', Bool.not_eq_false', decide_eq_true_eq, decide_eq_false_iff_not] at c48
        refine mj_T.pl rfl rfl rfl rfl ?_
        exact mj_T.ret rfl rfl rfl ⟨V1, _, _, _, m47, b, fun a a1 a2 => (xup_oth a2).trans ((xup_oth a1).trans (xup_oth a1)), by rw [xup_ne _ _ (Or.inl (by decide)), xup_at]; exact hd43, by rw [xup_at]; exact hd46, ⟨by decide, by decide⟩, rfl⟩
      · simp only [jc, Bool.not_eq_true', Bool.not_eq_false', decide_eq_true_eq, decide_eq_false_iff_not] at c48
        iterate 2 refine mj_T.pl rfl rfl rfl rfl ?_
        exact mj_T.ret rfl rfl rfl ⟨V1, _, _, _, m47, b, fun a a1 a2 => (xup_oth a2).trans ((xup_oth a1).trans (xup_oth a1)), by rw [xup_ne _ _ (Or.inl (by decide)), xup_at]; exact hd43, by rw [xup_at]; exact hd46, ⟨by decide, by decide⟩, rfl⟩
    · simp only [jc, Bool.not_eq_true', Bool.not_eq_false', decide_eq_true_eq, decide_eq_false_iff_not] at c1
      obtain ⟨e, he⟩ : ∃ e : Nat, s = (e : Int) := ⟨(s : Int).toNat, by omega⟩
      subst he
      iterate 2 refine mj_T.pl rfl rfl rfl rfl ?_
      refine mj_T.call rfl rfl (Nat.le_of_ble_eq_true rfl) (Nat.le_of_ble_eq_true rfl) (mV_of m 13 cq_d20 (by decide) rfl (by decide) rfl _) rfl (mj_Ok.up (by omega) (mP_at (D := 0) m cq_d20 (e := e) (by omega))) (fun v g2 hq => ?_) (fun i g2 hq => ?_)
      rotate_left
      · cases hq
      cases hq
      refine mj_T.eq (pc2 := 37) (st2 := [.ref (20 + 4 + 2 * e)]) ?_ rfl rfl rfl rfl
      refine mj_T.pl (loc' := [some (.ref 19), some (.ref 50), some (.ref 20), some (.int (jn ((e : Nat) : Int))), some (.ref (20 + 4 + 2 * e)), l5]) rfl rfl rfl rfl ?_
      refine mj_T.pl rfl rfl rfl rfl ?_
      refine mT_get m 11 cq_d19 (by decide) rfl rfl ?_
      refine mj_T.pl rfl rfl rfl rfl ?_
      refine mT_get m 11 cq_d19 (by decide) rfl rfl ?_
      refine mj_T.pl rfl rfl rfl rfl ?_
      refine mT_get (v := .int (jn ((dq : Nat) : Int))) m 13 cq_d50 (by decide) rfl (congrArg (fun z : Int => some (Value.int (jn z))) ((congrFun (xup_oth (by decide)) 2).trans (h5))) ?_
      refine mj_T.pl rfl rfl rfl rfl ?_
      refine mj_T.iadd (a := ((dq : Nat) : Int)) (b := ((e : Nat) : Int)) rfl ?_
      rw [show (((dq : Nat) : Int) + ((e : Nat) : Int)) = ((dq + e : Nat) : Int) by omega]
      refine mj_T.call rfl rfl (Nat.le_of_ble_eq_true rfl) (Nat.le_of_ble_eq_true rfl) (mV_of m 13 cq_d80 (by decide) rfl (by decide) rfl _) rfl (mj_Ok.up (by omega) (mP_at (D := 0) m cq_d80 (e := (dq + e)) (by omega))) (fun v g3 hq => ?_) (fun i g3 hq => ?_)
      rotate_left
      · cases hq
      cases hq
      refine mj_T.eq (pc2 := 56) (st2 := [.ref (80 + 4 + 2 * (dq + e)), .ref 164]) ?_ rfl rfl rfl rfl
      refine mj_T.call rfl rfl (Nat.le_of_ble_eq_true rfl) (Nat.le_of_ble_eq_true rfl) (mV_of m 18 cq_d164 (by decide) rfl (by decide) rfl _) rfl (mj_Ok.up (by omega) (mF_87 (D := 0) m b fr_d164 (fr_part cq_d80 (by omega)))) (fun v g4 hq => ?_) (fun i g4 hq => ?_)
      rotate_left
      · obtain ⟨_, _, _, _, hq⟩ := hq; cases hq
      obtain ⟨V5, _, m6, b7, hq⟩ := hq
      cases hq
      refine mj_T.eq (pc2 := 59) (st2 := []) ?_ rfl rfl rfl rfl
      refine mj_T.pl rfl rfl rfl rfl ?_
      refine mT_get m6 11 cq_d19 (by decide) rfl rfl ?_
      refine mj_T.pl rfl rfl rfl rfl ?_
      refine mT_get m6 11 cq_d19 (by decide) rfl rfl ?_
      refine mj_T.pl rfl rfl rfl rfl ?_
      refine mj_T.call rfl rfl (Nat.le_of_ble_eq_true rfl) (Nat.le_of_ble_eq_true rfl) (mV_of m6 12 cq_d170 (by decide) rfl (by decide) rfl _) rfl (mj_Ok.up (by omega) (mF_31 (D := 0) m6 b7 cq_d170 fr_d164 (fr_part cq_d20 (by omega)))) (fun v g8 hq => ?_) (fun i g8 hq => ?_)
      rotate_left
      · obtain ⟨_, _, _, _, hq⟩ := hq; cases hq
      obtain ⟨V9, _, m10, b11, hq⟩ := hq
      cases hq
      refine mj_T.eq (pc2 := 72) (st2 := []) ?_ rfl rfl rfl rfl
      refine mj_T.pl rfl rfl rfl rfl ?_
      refine mT_get m10 11 cq_d19 (by decide) rfl rfl ?_
      refine mZ_sg m10 cq_d164 rfl (fun z12 rz12 => ?_)
      refine mj_T.if0 (a := z12) rfl ⟨by omega, by omega⟩ (fun c13 => ?_) (fun c13 => ?_)
      · simp only [jc, Bool.not_eq_true', Bool.not_eq_false', decide_eq_true_eq, decide_eq_false_iff_not] at c13
        refine mj_T.pl rfl rfl rfl rfl ?_
        refine mj_T.pl (loc' := [some (.ref 19), some (.ref 50), some (.ref 20), some (.int (jn ((e : Nat) : Int))), some (.ref (20 + 4 + 2 * e)), some (.int (jn 0))]) rfl rfl rfl rfl ?_
        refine mj_T.eq (loc2 := [some (.ref 19), some (.ref 50), some (.ref 20), some (.int (jn (e : Int))), some (.ref (20 + 4 + 2 * e)), some (.int (jn ((0 : Nat) : Int)))]) ?_ rfl rfl rfl rfl
        refine mZ_19_in h5 h8 hdq hdr (by omega) (fun V3 h3 m3 b3 => ?_) (dq + 1) 0 (by omega) _ _ m10 b11
        refine mj_T.iinc rfl rfl ?_
        refine mj_T.eq (loc2 := [some (.ref 19), some (.ref 50), some (.ref 20), some (.int (jn (((e : Nat) : Int) + (-1)))), some (.ref (20 + 4 + 2 * e)), some (.int (jn (((dq + 1) : Nat) : Int)))]) ?_ rfl rfl rfl rfl
        refine mj_T.pl rfl rfl rfl rfl ?_
        exact mZ_19_out h5 h8 hdq hdr k _ (by omega) (by omega) _ _ _ _ m3 b3
      · simp only [jc, Bool.not_eq_true', Bool.not_eq_false', decide_eq_true_eq, decide_eq_false_iff_not] at c13
        refine mj_T.pl rfl rfl rfl rfl ?_
        exact mj_T.ret rfl rfl rfl ⟨V9, _, _, _, m10, b11, fun a a1 a2 => xup_oth a1, ⟨by rw [xup_at]; omega, by rw [xup_at]; omega⟩, ⟨by rw [xup_ne _ _ (Or.inl (by decide)), h8]; omega, by rw [xup_ne _ _ (Or.inl (by decide)), h8]; omega⟩, ⟨by decide, by decide⟩, rfl⟩
theorem by0.clr {V : Nat → Int} (b : by0 V) {p : Nat} (kp : cK p = 13) : by0 (pfl V p (fun _ => 0) (cL (p + 3))) := fun x hx => by
  unfold pfl
  split
  · rfl
  · exact b x hx
theorem mZ_19 (m : jM g n V X h) (b : by0 V) {dq dr : Nat} (h5 : X 50 2 = (dq : Int)) (h8 : X 80 2 = (dr : Int)) (hdq : dq < 13) (hdr : dr < 13) : mj_Ok (D + 4) 19 [.ref 19, .ref 50, .ref 20] h (fun z => ∃ (V2 : Nat → Int) (X2 : Nat → Nat → Int) (c : Int) (h2 : mj_H), jM g n V2 X2 h2 ∧ by0 V2 ∧ (∀ a, a ≠ 20 → a ≠ 80 → X2 a = X a) ∧ (-1 ≤ X2 20 2 ∧ X2 20 2 < cL (20 + 3)) ∧ (-1 ≤ X2 80 2 ∧ X2 80 2 < cL (80 + 3)) ∧ (0 ≤ c ∧ c ≤ 1) ∧ z = (.inl (some (.int (jn c))), h2)) := by
  have p20 : cL (20 + 3) = 13 := mK_z.1
  have p50 : cL (50 + 3) = 13 := mK_z.2.1
  have p80 : cL (80 + 3) = 13 := mK_z.2.2.1
  refine mj_Ok.of (M := mj_m19) rfl rfl rfl ?_
  refine mj_T.pl rfl rfl rfl rfl ?_
  refine mj_T.call rfl rfl (Nat.le_of_ble_eq_true rfl) (Nat.le_of_ble_eq_true rfl) (mV_of m 13 cq_d20 (by decide) rfl (by decide) rfl _) rfl (mj_Ok.up (by omega) (mP_clear (D := 0) m cq_d20)) (fun v g1 hq => ?_) (fun i g1 hq => ?_)
  rotate_left
  · obtain ⟨_, _, hq⟩ := hq; cases hq
  obtain ⟨_, m2, hq⟩ := hq
  cases hq
  have b3 : by0 (pfl V 20 (fun _ => 0) (cL (20 + 3))) := by0.clr b cq_d20
  refine mj_T.eq (pc2 := 4) (st2 := []) ?_ rfl rfl rfl rfl
  refine mj_T.pl rfl rfl rfl rfl ?_
  refine mT_get m2 11 cq_d19 (by decide) rfl rfl ?_
  refine mj_T.pl rfl rfl rfl rfl ?_
  refine mj_T.call rfl rfl (Nat.le_of_ble_eq_true rfl) (Nat.le_of_ble_eq_true rfl) (mV_of m2 13 cq_d50 (by decide) rfl (by decide) rfl _) rfl (mj_Ok.up (by omega) (mP_lead (D := 0) m2 cq_d50 ((congrFun (xup_oth (by decide)) 2).trans (h5)) (by omega))) (fun v g4 hq => ?_) (fun i g4 hq => ?_)
  rotate_left
  · cases hq
  cases hq
  refine mj_T.eq (pc2 := 12) (st2 := [.ref (50 + 4 + 2 * dq), .ref 170]) ?_ rfl rfl rfl rfl
  refine mj_T.call rfl rfl (Nat.le_of_ble_eq_true rfl) (Nat.le_of_ble_eq_true rfl) (mV_of m2 12 cq_d170 (by decide) rfl (by decide) rfl _) rfl (mj_Ok.up (by omega) (mF_30 (D := 0) m2 b3 cq_d170 (fr_part cq_d50 (by omega)))) (fun v g5 hq => ?_) (fun i g5 hq => ?_)
  rotate_left
  · obtain ⟨_, _, _, _, hq⟩ := hq; cases hq
  obtain ⟨V6, _, m7, b8, hq⟩ := hq
  cases hq
  refine mj_T.eq (pc2 := 15) (st2 := []) ?_ rfl rfl rfl rfl
  refine mj_T.pl rfl rfl rfl rfl ?_
  refine mT_get m7 11 cq_d19 (by decide) rfl rfl ?_
  refine mT_get (v := .int (jn ((dr : Nat) : Int))) m7 13 cq_d80 (by decide) rfl (congrArg (fun z : Int => some (Value.int (jn z))) ((congrFun (xup_oth (by decide)) 2).trans (h8))) ?_
  refine mj_T.pl rfl rfl rfl rfl ?_
  refine mT_get (v := .int (jn ((dq : Nat) : Int))) m7 13 cq_d50 (by decide) rfl (congrArg (fun z : Int => some (Value.int (jn z))) ((congrFun (xup_oth (by decide)) 2).trans (h5))) ?_
  refine mj_T.isub (a := ((dr : Nat) : Int)) (b := ((dq : Nat) : Int)) rfl ?_
  refine mj_T.pl (loc' := [some (.ref 19), some (.ref 50), some (.ref 20), some (.int (jn (((dr : Nat) : Int) - ((dq : Nat) : Int)))), none, none]) rfl rfl rfl rfl ?_
  exact mZ_19_out h5 h8 hdq hdr 40 _ (by omega) (by omega) _ _ _ _ m7 b8
end MLH
/-! The class loosely: one step of the row of Sturm. -/
theorem tm2 (x : Int) : jr (x.tmod 2) := by
  have h : (x.tmod 2).natAbs = x.natAbs % 2 := Int.natAbs_tmod x 2
  exact ⟨by omega, by omega⟩
section MLS
variable {g h : mj_H} {n D p q r : Nat} {V : Nat → Int} {X : Nat → Nat → Int}
theorem mZ_69_loop {d : Int} (hd : X 180 2 = d) (hd2 : -1 ≤ d ∧ d < 13) : ∀ (k j : Nat), 13 = j + k → ∀ (V1 : Nat → Int) (h1 : mj_H), jM g n V1 (xup X 210 2 (-1)) h1 → by0 V1 → mj_T (D + 2) mj_m69 13 [some (.ref 172), some (.ref 210), some (.int (jn ((j + 1 : Nat) : Int)))] [] h1 (fun z => ∃ (V2 : Nat → Int) (d2 : Int) (h2 : mj_H), jM g n V2 (xup X 210 2 d2) h2 ∧ by0 V2 ∧ (-1 ≤ d2 ∧ d2 < cL (210 + 3)) ∧ z = (.inl none, h2))
  | 0, j, hj, V1, h1, m, b => by
    have l173 : cL 173 = 14 := mK_r.2.2.2.1
    have p210 : cL (210 + 3) = 13 := (mK_r.2.2.2.2.2.1 1 (by decide)).2
    have p180 : cL (180 + 3) = 13 := (mK_r.2.2.2.2.2.1 0 (by decide)).2
    iterate 2 refine mj_T.pl rfl rfl rfl rfl ?_
    refine mT_get m 16 cq_d172 (by decide) rfl rfl ?_
    refine mj_T.pl rfl rfl rfl rfl ?_
    refine mT_aald m 5 cq_d173 (by decide) rfl rfl (by omega) ⟨by omega, by omega⟩ ?_
    refine mj_T.eq (st2 := [.ref 180, .int (jn (((j + 1) : Nat) : Int))]) ?_ rfl rfl rfl rfl
    refine mT_get (v := .int (jn d)) m 13 cq_d180 (by decide) rfl (congrArg (fun z : Int => some (Value.int (jn z))) ((congrFun (xup_oth (by decide)) 2).trans (hd))) ?_
    refine mj_T.icmp (a := (((j + 1) : Nat) : Int)) (b := d) rfl ⟨by omega, by omega⟩ ⟨by omega, by omega⟩ (fun c1 => ?_) (fun c1 => ?_)
    · simp only [jc, Bool.not_eq_true', Bool.not_eq_false', decide_eq_true_eq, decide_eq_false_iff_not] at c1
      refine mj_T.pl rfl rfl rfl rfl ?_
      refine mj_T.call rfl rfl (Nat.le_of_ble_eq_true rfl) (Nat.le_of_ble_eq_true rfl) (mV_of m 13 cq_d210 (by decide) rfl (by decide) rfl _) rfl (mj_Ok.up (by omega) (mZ_42 (D := 0) m cq_d210)) (fun v g2 hq => ?_) (fun i g2 hq => ?_)
      rotate_left
      · obtain ⟨_, _, _, _, hq⟩ := hq; cases hq
      obtain ⟨d3, _, m4, hd3, hq⟩ := hq
      cases hq
      refine mj_T.eq (pc2 := 68) (st2 := []) ?_ rfl rfl rfl rfl
      exact mj_T.ret rfl rfl rfl ⟨V1, d3, _, m4.to rfl (xup_xup _ _ _ _ _).symm, b, hd3, rfl⟩
    · exfalso
      simp only [jc, Bool.not_eq_true', Bool.not_eq_false', decide_eq_true_eq, decide_eq_false_iff_not] at c1
      omega
  | k + 1, j, hj, V1, h1, m, b => by
    have l173 : cL 173 = 14 := mK_r.2.2.2.1
    have p210 : cL (210 + 3) = 13 := (mK_r.2.2.2.2.2.1 1 (by decide)).2
    have p180 : cL (180 + 3) = 13 := (mK_r.2.2.2.2.2.1 0 (by decide)).2
    iterate 2 refine mj_T.pl rfl rfl rfl rfl ?_
    refine mT_get m 16 cq_d172 (by decide) rfl rfl ?_
    refine mj_T.pl rfl rfl rfl rfl ?_
    refine mT_aald m 5 cq_d173 (by decide) rfl rfl (by omega) ⟨by omega, by omega⟩ ?_
    refine mj_T.eq (st2 := [.ref 180, .int (jn (((j + 1) : Nat) : Int))]) ?_ rfl rfl rfl rfl
    refine mT_get (v := .int (jn d)) m 13 cq_d180 (by decide) rfl (congrArg (fun z : Int => some (Value.int (jn z))) ((congrFun (xup_oth (by decide)) 2).trans (hd))) ?_
    refine mj_T.icmp (a := (((j + 1) : Nat) : Int)) (b := d) rfl ⟨by omega, by omega⟩ ⟨by omega, by omega⟩ (fun c1 => ?_) (fun c1 => ?_)
    · simp only [jc, Bool.not_eq_true', Bool.not_eq_false', decide_eq_true_eq, decide_eq_false_iff_not] at c1
      refine mj_T.pl rfl rfl rfl rfl ?_
      refine mj_T.call rfl rfl (Nat.le_of_ble_eq_true rfl) (Nat.le_of_ble_eq_true rfl) (mV_of m 13 cq_d210 (by decide) rfl (by decide) rfl _) rfl (mj_Ok.up (by omega) (mZ_42 (D := 0) m cq_d210)) (fun v g2 hq => ?_) (fun i g2 hq => ?_)
      rotate_left
      · obtain ⟨_, _, _, _, hq⟩ := hq; cases hq
      obtain ⟨d3, _, m4, hd3, hq⟩ := hq
      cases hq
      refine mj_T.eq (pc2 := 68) (st2 := []) ?_ rfl rfl rfl rfl
      exact mj_T.ret rfl rfl rfl ⟨V1, d3, _, m4.to rfl (xup_xup _ _ _ _ _).symm, b, hd3, rfl⟩
    · simp only [jc, Bool.not_eq_true', Bool.not_eq_false', decide_eq_true_eq, decide_eq_false_iff_not] at c1
      iterate 3 refine mj_T.pl rfl rfl rfl rfl ?_
      refine mj_T.isub (a := (((j + 1) : Nat) : Int)) (b := 1) rfl ?_
      rw [show ((((j + 1) : Nat) : Int) - 1) = ((j : Nat) : Int) by omega]
      refine mj_T.call rfl rfl (Nat.le_of_ble_eq_true rfl) (Nat.le_of_ble_eq_true rfl) (mV_of m 13 cq_d210 (by decide) rfl (by decide) rfl _) rfl (mj_Ok.up (by omega) (mP_at (D := 0) m cq_d210 (e := j) (by omega))) (fun v g5 hq => ?_) (fun i g5 hq => ?_)
      rotate_left
      · cases hq
      cases hq
      refine mj_T.eq (pc2 := 33) (st2 := [.ref (210 + 4 + 2 * j)]) ?_ rfl rfl rfl rfl
      refine mj_T.pl rfl rfl rfl rfl ?_
      refine mT_get m 16 cq_d172 (by decide) rfl rfl ?_
      refine mj_T.pl rfl rfl rfl rfl ?_
      refine mT_aald m 5 cq_d173 (by decide) rfl rfl (by omega) ⟨by omega, by omega⟩ ?_
      refine mj_T.eq (st2 := [.ref 180, .ref (210 + 4 + 2 * j)]) ?_ rfl rfl rfl rfl
      refine mj_T.pl rfl rfl rfl rfl ?_
      refine mj_T.call rfl rfl (Nat.le_of_ble_eq_true rfl) (Nat.le_of_ble_eq_true rfl) (mV_of m 13 cq_d180 (by decide) rfl (by decide) rfl _) rfl (mj_Ok.up (by omega) (mP_at (D := 0) m cq_d180 (e := (j + 1)) (by omega))) (fun v g6 hq => ?_) (fun i g6 hq => ?_)
      rotate_left
      · cases hq
      cases hq
      refine mj_T.eq (pc2 := 43) (st2 := [.ref (180 + 4 + 2 * (j + 1)), .ref (210 + 4 + 2 * j)]) ?_ rfl rfl rfl rfl
      refine mj_T.call rfl rfl (Nat.le_of_ble_eq_true rfl) (Nat.le_of_ble_eq_true rfl) (mV_of m 18 ((mK_p cq_d210).2.2.2 j (by omega)) (by decide) rfl (by decide) rfl _) rfl (mj_Ok.up (by omega) (mF_87 (D := 0) m b (fr_part cq_d210 (by omega)) (fr_part cq_d180 (by omega)))) (fun v g7 hq => ?_) (fun i g7 hq => ?_)
      rotate_left
      · obtain ⟨_, _, _, _, hq⟩ := hq; cases hq
      obtain ⟨V8, _, m9, b10, hq⟩ := hq
      cases hq
      refine mj_T.eq (pc2 := 46) (st2 := []) ?_ rfl rfl rfl rfl
      iterate 3 refine mj_T.pl rfl rfl rfl rfl ?_
      refine mj_T.isub (a := (((j + 1) : Nat) : Int)) (b := 1) rfl ?_
      rw [show ((((j + 1) : Nat) : Int) - 1) = ((j : Nat) : Int) by omega]
      refine mj_T.call rfl rfl (Nat.le_of_ble_eq_true rfl) (Nat.le_of_ble_eq_true rfl) (mV_of m9 13 cq_d210 (by decide) rfl (by decide) rfl _) rfl (mj_Ok.up (by omega) (mP_at (D := 0) m9 cq_d210 (e := j) (by omega))) (fun v g11 hq => ?_) (fun i g11 hq => ?_)
      rotate_left
      · cases hq
      cases hq
      refine mj_T.eq (pc2 := 53) (st2 := [.ref (210 + 4 + 2 * j)]) ?_ rfl rfl rfl rfl
      refine mj_T.pl rfl rfl rfl rfl ?_
      refine mj_T.i2l rfl ⟨by omega, by omega⟩ ?_
      refine mj_T.call rfl rfl (Nat.le_of_ble_eq_true rfl) (Nat.le_of_ble_eq_true rfl) (mV_of m9 18 ((mK_p cq_d210).2.2.2 j (by omega)) (by decide) rfl (by decide) rfl _) rfl (mj_Ok.up (by omega) (mF_96 (D := 0) m9 b10 (fr_part cq_d210 (by omega)) ⟨by omega, by omega⟩)) (fun v g12 hq => ?_) (fun i g12 hq => ?_)
      rotate_left
      · obtain ⟨_, _, _, _, hq⟩ := hq; cases hq
      obtain ⟨V13, _, m14, b15, hq⟩ := hq
      cases hq
      refine mj_T.eq (pc2 := 58) (st2 := []) ?_ rfl rfl rfl rfl
      refine mj_T.iinc rfl rfl ?_
      rw [show (((j + 1) : Nat) : Int) + 1 = (((j + 1) + 1 : Nat) : Int) by omega]
      refine mj_T.eq (loc2 := [some (.ref 172), some (.ref 210), some (.int (jn ((((j + 1) + 1) : Nat) : Int)))]) ?_ rfl rfl rfl rfl
      refine mj_T.pl rfl rfl rfl rfl ?_
      exact mZ_69_loop hd hd2 k (j + 1) (by omega) _ _ m14 b15
theorem mZ_69 (m : jM g n V X h) (b : by0 V) {d : Int} (hd : X 180 2 = d) (hd2 : -1 ≤ d ∧ d < 13) : mj_Ok (D + 3) 69 [.ref 172] h (fun z => ∃ (V2 : Nat → Int) (d2 : Int) (h2 : mj_H), jM g n V2 (xup X 210 2 d2) h2 ∧ by0 V2 ∧ (-1 ≤ d2 ∧ d2 < cL (210 + 3)) ∧ z = (.inl none, h2)) := by
  have l173 : cL 173 = 14 := mK_r.2.2.2.1
  have p210 : cL (210 + 3) = 13 := (mK_r.2.2.2.2.2.1 1 (by decide)).2
  have p180 : cL (180 + 3) = 13 := (mK_r.2.2.2.2.2.1 0 (by decide)).2
  refine mj_Ok.of (M := mj_m69) rfl rfl rfl ?_
  refine mj_T.pl rfl rfl rfl rfl ?_
  refine mT_get m 16 cq_d172 (by decide) rfl rfl ?_
  refine mj_T.pl rfl rfl rfl rfl ?_
  refine mT_aald m 5 cq_d173 (by decide) rfl rfl (by omega) ⟨by omega, by omega⟩ ?_
  refine mj_T.eq (st2 := [.ref 210]) ?_ rfl rfl rfl rfl
  refine mj_T.pl (loc' := [some (.ref 172), some (.ref 210), none]) rfl rfl rfl rfl ?_
  refine mj_T.pl rfl rfl rfl rfl ?_
  refine mj_T.call rfl rfl (Nat.le_of_ble_eq_true rfl) (Nat.le_of_ble_eq_true rfl) (mV_of m 13 cq_d210 (by decide) rfl (by decide) rfl _) rfl (mj_Ok.up (by omega) (mP_clear (D := 0) m cq_d210)) (fun v g1 hq => ?_) (fun i g1 hq => ?_)
  rotate_left
  · obtain ⟨_, _, hq⟩ := hq; cases hq
  obtain ⟨_, m2, hq⟩ := hq
  cases hq
  have b3 : by0 (pfl V 210 (fun _ => 0) (cL (210 + 3))) := by0.clr b cq_d210
  refine mj_T.eq (pc2 := 11) (st2 := []) ?_ rfl rfl rfl rfl
  refine mj_T.pl rfl rfl rfl rfl ?_
  refine mj_T.pl (loc' := [some (.ref 172), some (.ref 210), some (.int (jn 1))]) rfl rfl rfl rfl ?_
  refine mj_T.eq (loc2 := [some (.ref 172), some (.ref 210), some (.int (jn ((0 + 1 : Nat) : Int)))]) ?_ rfl rfl rfl rfl
  exact mZ_69_loop hd hd2 13 0 (by omega) _ _ m2 b3
theorem mZ_72_b {p : Int} (hp : -2147483648 ≤ p ∧ p ≤ 2147483647) : ∀ (k : Nat) (i : Int), (1 ≤ i ∧ i ≤ 2147483647) → p - i ≤ k → ∀ (V1 : Nat → Int) (h1 : mj_H), jM g n V1 X h1 → by0 V1 → mj_T (D + 2) mj_m72 71 [some (.ref 172), some (.int (jn p)), some (.ref 164), some (.int (jn i))] [] h1 (fun r => ∃ V2 h2, jM g n V2 X h2 ∧ by0 V2 ∧ r = (.inl none, h2))
  | 0, i, hi, hj, V1, h1, m, b => by
    iterate 2 refine mj_T.pl rfl rfl rfl rfl ?_
    refine mj_T.icmp (a := i) (b := p) rfl ⟨by omega, by omega⟩ ⟨by omega, by omega⟩ (fun c1 => ?_) (fun c1 => ?_)
    · simp only [jc, Bool.not_eq_true', Bool.not_eq_false', decide_eq_true_eq, decide_eq_false_iff_not] at c1
      refine mj_T.pl rfl rfl rfl rfl ?_
      refine mT_get m 16 cq_d172 (by decide) rfl rfl ?_
      refine mj_T.pl rfl rfl rfl rfl ?_
      refine mj_T.call rfl rfl (Nat.le_of_ble_eq_true rfl) (Nat.le_of_ble_eq_true rfl) (mV_of m 18 cq_d176 (by decide) rfl (by decide) rfl _) rfl (mj_Ok.up (by omega) (mF_87 (D := 0) m b fr_d176 fr_d164)) (fun v g2 hq => ?_) (fun i g2 hq => ?_)
      rotate_left
      · obtain ⟨_, _, _, _, hq⟩ := hq; cases hq
      obtain ⟨V3, _, m4, b5, hq⟩ := hq
      cases hq
      refine mj_T.eq (pc2 := 119) (st2 := []) ?_ rfl rfl rfl rfl
      exact mj_T.ret rfl rfl rfl ⟨V3, _, m4, b5, rfl⟩
    · exfalso
      simp only [jc, Bool.not_eq_true', Bool.not_eq_false', decide_eq_true_eq, decide_eq_false_iff_not] at c1
      omega
  | k + 1, i, hi, hj, V1, h1, m, b => by
    iterate 2 refine mj_T.pl rfl rfl rfl rfl ?_
    refine mj_T.icmp (a := i) (b := p) rfl ⟨by omega, by omega⟩ ⟨by omega, by omega⟩ (fun c1 => ?_) (fun c1 => ?_)
    · simp only [jc, Bool.not_eq_true', Bool.not_eq_false', decide_eq_true_eq, decide_eq_false_iff_not] at c1
      refine mj_T.pl rfl rfl rfl rfl ?_
      refine mT_get m 16 cq_d172 (by decide) rfl rfl ?_
      refine mj_T.pl rfl rfl rfl rfl ?_
      refine mj_T.call rfl rfl (Nat.le_of_ble_eq_true rfl) (Nat.le_of_ble_eq_true rfl) (mV_of m 18 cq_d176 (by decide) rfl (by decide) rfl _) rfl (mj_Ok.up (by omega) (mF_87 (D := 0) m b fr_d176 fr_d164)) (fun v g2 hq => ?_) (fun i g2 hq => ?_)
      rotate_left
      · obtain ⟨_, _, _, _, hq⟩ := hq; cases hq
      obtain ⟨V3, _, m4, b5, hq⟩ := hq
      cases hq
      refine mj_T.eq (pc2 := 119) (st2 := []) ?_ rfl rfl rfl rfl
      exact mj_T.ret rfl rfl rfl ⟨V3, _, m4, b5, rfl⟩
    · simp only [jc, Bool.not_eq_true', Bool.not_eq_false', decide_eq_true_eq, decide_eq_false_iff_not] at c1
      refine mj_T.pl rfl rfl rfl rfl ?_
      refine mT_get m 16 cq_d172 (by decide) rfl rfl ?_
      refine mT_get m 11 cq_d19 (by decide) rfl rfl ?_
      iterate 2 refine mj_T.pl rfl rfl rfl rfl ?_
      refine mT_get m 16 cq_d172 (by decide) rfl rfl ?_
      refine mT_get m 11 cq_d19 (by decide) rfl rfl ?_
      refine mj_T.call rfl rfl (Nat.le_of_ble_eq_true rfl) (Nat.le_of_ble_eq_true rfl) (mV_of m 12 cq_d170 (by decide) rfl (by decide) rfl _) rfl (mj_Ok.up (by omega) (mF_31 (D := 0) m b cq_d170 fr_d164 fr_d166)) (fun v g6 hq => ?_) (fun i g6 hq => ?_)
      rotate_left
      · obtain ⟨_, _, _, _, hq⟩ := hq; cases hq
      obtain ⟨V7, _, m8, b9, hq⟩ := hq
      cases hq
      refine mj_T.eq (pc2 := 94) (st2 := []) ?_ rfl rfl rfl rfl
      iterate 2 refine mj_T.pl rfl rfl rfl rfl ?_
      refine mT_get m8 16 cq_d172 (by decide) rfl rfl ?_
      refine mT_get m8 11 cq_d19 (by decide) rfl rfl ?_
      refine mj_T.call rfl rfl (Nat.le_of_ble_eq_true rfl) (Nat.le_of_ble_eq_true rfl) (mV_of m8 18 cq_d164 (by decide) rfl (by decide) rfl _) rfl (mj_Ok.up (by omega) (mF_87 (D := 0) m8 b9 fr_d164 fr_d166)) (fun v g10 hq => ?_) (fun i g10 hq => ?_)
      rotate_left
      · obtain ⟨_, _, _, _, hq⟩ := hq; cases hq
      obtain ⟨V11, _, m12, b13, hq⟩ := hq
      cases hq
      refine mj_T.eq (pc2 := 105) (st2 := []) ?_ rfl rfl rfl rfl
      refine mj_T.iinc rfl rfl ?_
      refine mj_T.eq (loc2 := [some (.ref 172), some (.int (jn p)), some (.ref 164), some (.int (jn (i + 1)))]) ?_ rfl rfl rfl rfl
      refine mj_T.pl rfl rfl rfl rfl ?_
      exact mZ_72_b hp k (i + 1) (by omega) (by omega) _ _ m12 b13
theorem mZ_72_a {p : Int} (hp : -2147483648 ≤ p ∧ p ≤ 2147483647) : ∀ (k : Nat) (i : Int), (1 ≤ i ∧ i ≤ 2147483647) → p - i ≤ k → ∀ (V1 : Nat → Int) (h1 : mj_H), jM g n V1 X h1 → by0 V1 → mj_T (D + 2) mj_m72 18 [some (.ref 172), some (.int (jn p)), some (.ref 164), some (.int (jn i))] [] h1 (fun r => ∃ V2 h2, jM g n V2 X h2 ∧ by0 V2 ∧ r = (.inl none, h2))
  | 0, i, hi, hj, V1, h1, m, b => by
    iterate 2 refine mj_T.pl rfl rfl rfl rfl ?_
    refine mj_T.icmp (a := i) (b := p) rfl ⟨by omega, by omega⟩ ⟨by omega, by omega⟩ (fun c1 => ?_) (fun c1 => ?_)
    · simp only [jc, Bool.not_eq_true', Bool.not_eq_false', decide_eq_true_eq, decide_eq_false_iff_not] at c1
      refine mj_T.pl rfl rfl rfl rfl ?_
      refine mT_get m 16 cq_d172 (by decide) rfl rfl ?_
      refine mT_get m 11 cq_d19 (by decide) rfl rfl ?_
      refine mj_T.pl rfl rfl rfl rfl ?_
      refine mT_get m 16 cq_d172 (by decide) rfl rfl ?_
      refine mj_T.call rfl rfl (Nat.le_of_ble_eq_true rfl) (Nat.le_of_ble_eq_true rfl) (mV_of m 12 cq_d170 (by decide) rfl (by decide) rfl _) rfl (mj_Ok.up (by omega) (mF_30 (D := 0) m b cq_d170 fr_d176)) (fun v g2 hq => ?_) (fun i g2 hq => ?_)
      rotate_left
      · obtain ⟨_, _, _, _, hq⟩ := hq; cases hq
      obtain ⟨V3, _, m4, b5, hq⟩ := hq
      cases hq
      refine mj_T.eq (pc2 := 69) (st2 := []) ?_ rfl rfl rfl rfl
      refine mj_T.pl rfl rfl rfl rfl ?_
      refine mj_T.pl (loc' := [some (.ref 172), some (.int (jn p)), some (.ref 164), some (.int (jn 1))]) rfl rfl rfl rfl ?_
      exact mZ_72_b hp p.toNat 1 (by omega) (by omega) _ _ m4 b5
    · exfalso
      simp only [jc, Bool.not_eq_true', Bool.not_eq_false', decide_eq_true_eq, decide_eq_false_iff_not] at c1
      omega
  | k + 1, i, hi, hj, V1, h1, m, b => by
    iterate 2 refine mj_T.pl rfl rfl rfl rfl ?_
    refine mj_T.icmp (a := i) (b := p) rfl ⟨by omega, by omega⟩ ⟨by omega, by omega⟩ (fun c1 => ?_) (fun c1 => ?_)
    · simp only [jc, Bool.not_eq_true', Bool.not_eq_false', decide_eq_true_eq, decide_eq_false_iff_not] at c1
      refine mj_T.pl rfl rfl rfl rfl ?_
      refine mT_get m 16 cq_d172 (by decide) rfl rfl ?_
      refine mT_get m 11 cq_d19 (by decide) rfl rfl ?_
      refine mj_T.pl rfl rfl rfl rfl ?_
      refine mT_get m 16 cq_d172 (by decide) rfl rfl ?_
      refine mj_T.call rfl rfl (Nat.le_of_ble_eq_true rfl) (Nat.le_of_ble_eq_true rfl) (mV_of m 12 cq_d170 (by decide) rfl (by decide) rfl _) rfl (mj_Ok.up (by omega) (mF_30 (D := 0) m b cq_d170 fr_d176)) (fun v g2 hq => ?_) (fun i g2 hq => ?_)
      rotate_left
      · obtain ⟨_, _, _, _, hq⟩ := hq; cases hq
      obtain ⟨V3, _, m4, b5, hq⟩ := hq
      cases hq
      refine mj_T.eq (pc2 := 69) (st2 := []) ?_ rfl rfl rfl rfl
      refine mj_T.pl rfl rfl rfl rfl ?_
      refine mj_T.pl (loc' := [some (.ref 172), some (.int (jn p)), some (.ref 164), some (.int (jn 1))]) rfl rfl rfl rfl ?_
      exact mZ_72_b hp p.toNat 1 (by omega) (by omega) _ _ m4 b5
    · simp only [jc, Bool.not_eq_true', Bool.not_eq_false', decide_eq_true_eq, decide_eq_false_iff_not] at c1
      refine mj_T.pl rfl rfl rfl rfl ?_
      refine mT_get m 16 cq_d172 (by decide) rfl rfl ?_
      refine mT_get m 11 cq_d19 (by decide) rfl rfl ?_
      iterate 2 refine mj_T.pl rfl rfl rfl rfl ?_
      refine mT_get m 16 cq_d172 (by decide) rfl rfl ?_
      refine mj_T.call rfl rfl (Nat.le_of_ble_eq_true rfl) (Nat.le_of_ble_eq_true rfl) (mV_of m 18 cq_d166 (by decide) rfl (by decide) rfl _) rfl (mj_Ok.up (by omega) (mF_95 (D := 0) m b fr_d166 fr_d164 fr_d174)) (fun v g6 hq => ?_) (fun i g6 hq => ?_)
      rotate_left
      · obtain ⟨_, _, _, _, hq⟩ := hq; cases hq
      obtain ⟨V7, _, m8, b9, hq⟩ := hq
      cases hq
      refine mj_T.eq (pc2 := 38) (st2 := []) ?_ rfl rfl rfl rfl
      iterate 2 refine mj_T.pl rfl rfl rfl rfl ?_
      refine mT_get m8 16 cq_d172 (by decide) rfl rfl ?_
      refine mT_get m8 11 cq_d19 (by decide) rfl rfl ?_
      refine mj_T.call rfl rfl (Nat.le_of_ble_eq_true rfl) (Nat.le_of_ble_eq_true rfl) (mV_of m8 18 cq_d164 (by decide) rfl (by decide) rfl _) rfl (mj_Ok.up (by omega) (mF_87 (D := 0) m8 b9 fr_d164 fr_d166)) (fun v g10 hq => ?_) (fun i g10 hq => ?_)
      rotate_left
      · obtain ⟨_, _, _, _, hq⟩ := hq; cases hq
      obtain ⟨V11, _, m12, b13, hq⟩ := hq
      cases hq
      refine mj_T.eq (pc2 := 49) (st2 := []) ?_ rfl rfl rfl rfl
      refine mj_T.iinc rfl rfl ?_
      refine mj_T.eq (loc2 := [some (.ref 172), some (.int (jn p)), some (.ref 164), some (.int (jn (i + 1)))]) ?_ rfl rfl rfl rfl
      refine mj_T.pl rfl rfl rfl rfl ?_
      exact mZ_72_a hp k (i + 1) (by omega) (by omega) _ _ m12 b13
theorem mZ_72 (m : jM g n V X h) (b : by0 V) {p : Int} (hp : -2147483648 ≤ p ∧ p ≤ 2147483647) : mj_Ok (D + 3) 72 [.ref 172, .int (jn p)] h (fun r => ∃ V2 h2, jM g n V2 X h2 ∧ by0 V2 ∧ r = (.inl none, h2)) := by
  refine mj_Ok.of (M := mj_m72) rfl rfl rfl ?_
  refine mj_T.pl rfl rfl rfl rfl ?_
  refine mT_get m 16 cq_d172 (by decide) rfl rfl ?_
  refine mT_get m 11 cq_d19 (by decide) rfl rfl ?_
  refine mj_T.pl (loc' := [some (.ref 172), some (.int (jn p)), some (.ref 164), none]) rfl rfl rfl rfl ?_
  iterate 2 refine mj_T.pl rfl rfl rfl rfl ?_
  refine mT_get m 16 cq_d172 (by decide) rfl rfl ?_
  refine mj_T.call rfl rfl (Nat.le_of_ble_eq_true rfl) (Nat.le_of_ble_eq_true rfl) (mV_of m 18 cq_d164 (by decide) rfl (by decide) rfl _) rfl (mj_Ok.up (by omega) (mF_87 (D := 0) m b fr_d164 fr_d174)) (fun v g1 hq => ?_) (fun i g1 hq => ?_)
  rotate_left
  · obtain ⟨_, _, _, _, hq⟩ := hq; cases hq
  obtain ⟨V2, _, m3, b4, hq⟩ := hq
  cases hq
  refine mj_T.eq (pc2 := 16) (st2 := []) ?_ rfl rfl rfl rfl
  refine mj_T.pl rfl rfl rfl rfl ?_
  refine mj_T.pl (loc' := [some (.ref 172), some (.int (jn p)), some (.ref 164), some (.int (jn 1))]) rfl rfl rfl rfl ?_
  exact mZ_72_a hp p.toNat 1 (by omega) (by omega) _ _ m3 b4
theorem mZ_71_tail {l1 l3 : Option Value} {dq : Nat} {dp e1 e2 : Int} {l5 : Option Value} {V5 : Nat → Int} {h5 : mj_H} (kq : cK q = 13) (hq8 : q ≠ 80) (hqr : q ≠ r) (hdp2 : -1 ≤ dp ∧ dp < 13) (hdq : X q 2 = (dq : Int)) (hdq2 : dq < cL (q + 3)) (he1 : -1 ≤ e1 ∧ e1 < cL (80 + 3)) (he2 : -1 ≤ e2 ∧ e2 < cL (r + 3)) (m : jM g n V5 (xup (xup X 80 2 e1) r 2 e2) h5) (b : by0 V5) : mj_T (D + 4) mj_m71 135 [some (.ref 172), l1, some (.ref q), l3, some (.int (jn (dp - (dq : Int)))), l5] [] h5 (fun z => ∃ (V2 : Nat → Int) (d1 d2 : Int) (h2 : mj_H), jM g n V2 (xup (xup X 80 2 d1) r 2 d2) h2 ∧ by0 V2 ∧ (-1 ≤ d1 ∧ d1 < cL (80 + 3)) ∧ (-1 ≤ d2 ∧ d2 < cL (r + 3)) ∧ z = (.inl none, h2)) := by
  have hbq := (mK_p kq).2.2.1
  refine mj_T.pl rfl rfl rfl rfl ?_
  refine mT_get m 16 cq_d172 (by decide) rfl rfl ?_
  refine mj_T.pl rfl rfl rfl rfl ?_
  refine mj_T.call rfl rfl (Nat.le_of_ble_eq_true rfl) (Nat.le_of_ble_eq_true rfl) (mV_of m 13 kq (by decide) rfl (by decide) rfl _) rfl (mj_Ok.up (by omega) (mP_lead (D := 0) m kq ((congrFun (xup_oth (by omega)) 2).trans ((congrFun (xup_oth (by omega)) 2).trans (hdq))) hdq2)) (fun v g1 hq => ?_) (fun i g1 hq => ?_)
  rotate_left
  · cases hq
  cases hq
  refine mj_T.eq (pc2 := 143) (st2 := [.ref (q + 4 + 2 * dq), .ref 174]) ?_ rfl rfl rfl rfl
  refine mj_T.call rfl rfl (Nat.le_of_ble_eq_true rfl) (Nat.le_of_ble_eq_true rfl) (mV_of m 18 cq_d174 (by decide) rfl (by decide) rfl _) rfl (mj_Ok.up (by omega) (mF_88 (D := 0) m b fr_d174 (fr_part kq (by omega)))) (fun v g2 hq => ?_) (fun i g2 hq => ?_)
  rotate_left
  · obtain ⟨_, _, _, _, hq⟩ := hq; cases hq
  obtain ⟨V3, _, m4, b5, hq⟩ := hq
  cases hq
  refine mj_T.eq (pc2 := 146) (st2 := []) ?_ rfl rfl rfl rfl
  refine mj_T.pl rfl rfl rfl rfl ?_
  refine mj_T.if0 (a := (dp - (dq : Int))) rfl ⟨by omega, by omega⟩ (fun c6 => ?_) (fun c6 => ?_)
  · simp only [jc, Bool.not_eq_true', Bool.not_eq_false', decide_eq_true_eq, decide_eq_false_iff_not] at c6
    exact mj_T.ret rfl rfl rfl ⟨V3, _, _, _, m4, b5, he1, he2, rfl⟩
  · simp only [jc, Bool.not_eq_true', Bool.not_eq_false', decide_eq_true_eq, decide_eq_false_iff_not] at c6
    iterate 2 refine mj_T.pl rfl rfl rfl rfl ?_
    refine mj_T.call rfl rfl (Nat.le_of_ble_eq_true rfl) (Nat.le_of_ble_eq_true rfl) (mV_of m4 16 cq_d172 (by decide) rfl (by decide) rfl _) rfl (mj_Ok.up (by omega) (mZ_72 (D := 0) m4 b5 (by omega))) (fun v g7 hq => ?_) (fun i g7 hq => ?_)
    rotate_left
    · obtain ⟨_, _, _, _, hq⟩ := hq; cases hq
    obtain ⟨V8, _, m9, b10, hq⟩ := hq
    cases hq
    refine mj_T.eq (pc2 := 157) (st2 := []) ?_ rfl rfl rfl rfl
    exact mj_T.ret rfl rfl rfl ⟨V8, _, _, _, m9, b10, he1, he2, rfl⟩
theorem mZ_71_loop {dq : Nat} {dp : Int} (kp : cK p = 13) (kq : cK q = 13) (kr : cK r = 13) (hp : 180 ≤ p) (hq8 : q ≠ 80) (hr8 : r ≠ 80) (hqr : q ≠ r) (hdp : X p 2 = dp) (hdp2 : -1 ≤ dp ∧ dp < 13) (hdq : X q 2 = (dq : Int)) (hdq2 : dq < cL (q + 3)) : ∀ (k : Nat) (s : Int), s < k → (-30 ≤ s ∧ s ≤ dp - dq) → ∀ (V1 : Nat → Int) (h1 : mj_H) (d0 : Int), jM g n V1 (xup X 80 2 d0) h1 → by0 V1 → mj_T (D + 4) mj_m71 26 [some (.ref 172), some (.ref p), some (.ref q), some (.ref r), some (.int (jn (dp - (dq : Int)))), some (.int (jn s))] [] h1 (fun z => ∃ (V2 : Nat → Int) (d1 d2 : Int) (h2 : mj_H), jM g n V2 (xup (xup X 80 2 d1) r 2 d2) h2 ∧ by0 V2 ∧ (-1 ≤ d1 ∧ d1 < cL (80 + 3)) ∧ (-1 ≤ d2 ∧ d2 < cL (r + 3)) ∧ z = (.inl none, h2))
  | 0, s, hs, hs2, V1, h1, d0, m, b => by
    have h83 : cL (80 + 3) = 13 := mK_z.2.2.1
    have hbq := (mK_p kq).2.2.1
    refine mj_T.pl rfl rfl rfl rfl ?_
    refine mj_T.if0 (a := s) rfl ⟨by omega, by omega⟩ (fun c1 => ?_) (fun c1 => ?_)
    · simp only [jc, Bool.not_eq_true', Bool.not_eq_false', decide_eq_true_eq, decide_eq_false_iff_not] at c1
      refine mj_T.pl rfl rfl rfl rfl ?_
      refine mT_get m 16 cq_d172 (by decide) rfl rfl ?_
      refine mT_get m 11 cq_d19 (by decide) rfl rfl ?_
      refine mj_T.call rfl rfl (Nat.le_of_ble_eq_true rfl) (Nat.le_of_ble_eq_true rfl) (mV_of m 13 cq_d80 (by decide) rfl (by decide) rfl _) rfl (mj_Ok.up (by omega) (mZ_42 (D := 0) m cq_d80)) (fun v g52 hq => ?_) (fun i g52 hq => ?_)
      rotate_left
      · obtain ⟨_, _, _, _, hq⟩ := hq; cases hq
      obtain ⟨d53, _, m54, hd53, hq⟩ := hq
      cases hq
      rw [xup_xup] at m54
      refine mj_T.eq (pc2 := 64) (st2 := []) ?_ rfl rfl rfl rfl
      refine mj_T.pl rfl rfl rfl rfl ?_
      refine mT_get m54 16 cq_d172 (by decide) rfl rfl ?_
      refine mj_T.pl rfl rfl rfl rfl ?_
      refine mT_get m54 16 cq_d172 (by decide) rfl rfl ?_
      refine mT_get m54 11 cq_d19 (by decide) rfl rfl ?_
      refine mj_T.pl rfl rfl rfl rfl ?_
      refine mT_get m54 16 cq_d172 (by decide) rfl rfl ?_
      refine mj_T.pl rfl rfl rfl rfl ?_
      refine mj_T.call rfl rfl (Nat.le_of_ble_eq_true rfl) (Nat.le_of_ble_eq_true rfl) (mV_of m54 11 cq_d19 (by decide) rfl (by decide) rfl _) rfl (mj_Ok.up (by omega) (mZ_20 (D := 0) m54 b cq_d80 fr_d174 (xup_at _ _ _ _) hd53 ⟨by omega, by omega⟩)) (fun v g55 hq => ?_) (fun i g55 hq => ?_)
      rotate_left
      · obtain ⟨_, _, _, _, hq⟩ := hq; cases hq
      obtain ⟨V56, _, m57, b58, hq⟩ := hq
      cases hq
      refine mj_T.eq (pc2 := 83) (st2 := []) ?_ rfl rfl rfl rfl
      refine mj_T.pl rfl rfl rfl rfl ?_
      refine mT_get m57 16 cq_d172 (by decide) rfl rfl ?_
      refine mj_T.pl rfl rfl rfl rfl ?_
      refine mT_get m57 16 cq_d172 (by decide) rfl rfl ?_
      refine mT_get m57 11 cq_d19 (by decide) rfl rfl ?_
      refine mj_T.pl rfl rfl rfl rfl ?_
      refine mT_get m57 16 cq_d172 (by decide) rfl rfl ?_
      refine mj_T.pl rfl rfl rfl rfl ?_
      refine mj_T.call rfl rfl (Nat.le_of_ble_eq_true rfl) (Nat.le_of_ble_eq_true rfl) (mV_of m57 11 cq_d19 (by decide) rfl (by decide) rfl _) rfl (mj_Ok.up (by omega) (mZ_20 (D := 0) m57 b58 cq_d80 fr_d176 (xup_at _ _ _ _) hd53 ⟨by omega, by omega⟩)) (fun v g59 hq => ?_) (fun i g59 hq => ?_)
      rotate_left
      · obtain ⟨_, _, _, _, hq⟩ := hq; cases hq
      obtain ⟨V60, _, m61, b62, hq⟩ := hq
      cases hq
      refine mj_T.eq (pc2 := 103) (st2 := []) ?_ rfl rfl rfl rfl
      iterate 2 refine mj_T.pl rfl rfl rfl rfl ?_
      refine mT_get m61 16 cq_d172 (by decide) rfl rfl ?_
      refine mT_get m61 11 cq_d19 (by decide) rfl rfl ?_
      refine mj_T.call rfl rfl (Nat.le_of_ble_eq_true rfl) (Nat.le_of_ble_eq_true rfl) (mV_of m61 13 kr (by decide) rfl (by decide) rfl _) rfl (mj_Ok.up (by omega) (mZ_41 (D := 0) m61 b62 kr cq_d80)) (fun v g63 hq => ?_) (fun i g63 hq => ?_)
      rotate_left
      · obtain ⟨_, _, _, _, _, _, hq⟩ := hq; cases hq
      obtain ⟨V65, d64, _, m66, b67, hd64, hq⟩ := hq
      cases hq
      refine mj_T.eq (pc2 := 114) (st2 := []) ?_ rfl rfl rfl rfl
      refine mj_T.pl rfl rfl rfl rfl ?_
      refine mj_T.call rfl rfl (Nat.le_of_ble_eq_true rfl) (Nat.le_of_ble_eq_true rfl) (mV_of m66 13 kq (by decide) rfl (by decide) rfl _) rfl (mj_Ok.up (by omega) (mP_lead (D := 0) m66 kq ((congrFun (xup_oth (by omega)) 2).trans ((congrFun (xup_oth (by omega)) 2).trans (hdq))) hdq2)) (fun v g68 hq => ?_) (fun i g68 hq => ?_)
      rotate_left
      · cases hq
      cases hq
      refine mj_T.eq (pc2 := 118) (st2 := [.ref (q + 4 + 2 * dq)]) ?_ rfl rfl rfl rfl
      refine mZ_sg m66 ((mK_p kq).2.2.2 dq (by omega)) rfl (fun z69 rz69 => ?_)
      refine mj_T.if0 (a := z69) rfl ⟨by omega, by omega⟩ (fun c70 => ?_) (fun c70 => ?_)
      · simp only [jc, Bool.not_eq_true', Bool.not_eq_false', decide_eq_true_eq, decide_eq_false_iff_not] at c70
        refine mj_T.pl rfl rfl rfl rfl ?_
        refine mj_T.call rfl rfl (Nat.le_of_ble_eq_true rfl) (Nat.le_of_ble_eq_true rfl) (mV_of m66 13 kr (by decide) rfl (by decide) rfl _) rfl (mj_Ok.up (by omega) (mZ_43 (D := 0) m66 b67 kr)) (fun v g71 hq => ?_) (fun i g71 hq => ?_)
        rotate_left
        · obtain ⟨_, _, _, _, hq⟩ := hq; cases hq
        obtain ⟨V72, _, m73, b74, hq⟩ := hq
        cases hq
        refine mj_T.eq (pc2 := 135) (st2 := []) ?_ rfl rfl rfl rfl
        exact mZ_71_tail kq hq8 hqr hdp2 hdq hdq2 hd53 hd64 m73 b74
      · simp only [jc, Bool.not_eq_true', Bool.not_eq_false', decide_eq_true_eq, decide_eq_false_iff_not] at c70
        iterate 2 refine mj_T.pl rfl rfl rfl rfl ?_
        refine mj_T.irem (a := (dp - (dq : Int))) (b := 2) rfl ⟨by omega, by omega⟩ ⟨by decide, by decide⟩ (by decide) ?_
        refine mj_T.if0 (a := ((dp - (dq : Int)).tmod 2)) rfl (tm2 _) (fun c75 => ?_) (fun c75 => ?_)
        · simp only [jc, Bool.not_eq_true', Bool.not_eq_false', decide_eq_true_eq, decide_eq_false_iff_not] at c75
          exact mZ_71_tail kq hq8 hqr hdp2 hdq hdq2 hd53 hd64 m66 b67
        · simp only [jc, Bool.not_eq_true', Bool.not_eq_false', decide_eq_true_eq, decide_eq_false_iff_not] at c75
          refine mj_T.pl rfl rfl rfl rfl ?_
          refine mj_T.call rfl rfl (Nat.le_of_ble_eq_true rfl) (Nat.le_of_ble_eq_true rfl) (mV_of m66 13 kr (by decide) rfl (by decide) rfl _) rfl (mj_Ok.up (by omega) (mZ_43 (D := 0) m66 b67 kr)) (fun v g76 hq => ?_) (fun i g76 hq => ?_)
          rotate_left
          · obtain ⟨_, _, _, _, hq⟩ := hq; cases hq
          obtain ⟨V77, _, m78, b79, hq⟩ := hq
          cases hq
          refine mj_T.eq (pc2 := 135) (st2 := []) ?_ rfl rfl rfl rfl
          exact mZ_71_tail kq hq8 hqr hdp2 hdq hdq2 hd53 hd64 m78 b79
    · exfalso
      simp only [jc, Bool.not_eq_true', Bool.not_eq_false', decide_eq_true_eq, decide_eq_false_iff_not] at c1
      omega
  | k + 1, s, hs, hs2, V1, h1, d0, m, b => by
    have h83 : cL (80 + 3) = 13 := mK_z.2.2.1
    have hbq := (mK_p kq).2.2.1
    refine mj_T.pl rfl rfl rfl rfl ?_
    refine mj_T.if0 (a := s) rfl ⟨by omega, by omega⟩ (fun c1 => ?_) (fun c1 => ?_)
    · simp only [jc, Bool.not_eq_true', Bool.not_eq_false', decide_eq_true_eq, decide_eq_false_iff_not] at c1
      refine mj_T.pl rfl rfl rfl rfl ?_
      refine mT_get m 16 cq_d172 (by decide) rfl rfl ?_
      refine mT_get m 11 cq_d19 (by decide) rfl rfl ?_
      refine mj_T.call rfl rfl (Nat.le_of_ble_eq_true rfl) (Nat.le_of_ble_eq_true rfl) (mV_of m 13 cq_d80 (by decide) rfl (by decide) rfl _) rfl (mj_Ok.up (by omega) (mZ_42 (D := 0) m cq_d80)) (fun v g52 hq => ?_) (fun i g52 hq => ?_)
      rotate_left
      · obtain ⟨_, _, _, _, hq⟩ := hq; cases hq
      obtain ⟨d53, _, m54, hd53, hq⟩ := hq
      cases hq
      rw [xup_xup] at m54
      refine mj_T.eq (pc2 := 64) (st2 := []) ?_ rfl rfl rfl rfl
      refine mj_T.pl rfl rfl rfl rfl ?_
      refine mT_get m54 16 cq_d172 (by decide) rfl rfl ?_
      refine mj_T.pl rfl rfl rfl rfl ?_
      refine mT_get m54 16 cq_d172 (by decide) rfl rfl ?_
      refine mT_get m54 11 cq_d19 (by decide) rfl rfl ?_
      refine mj_T.pl rfl rfl rfl rfl ?_
      refine mT_get m54 16 cq_d172 (by decide) rfl rfl ?_
      refine mj_T.pl rfl rfl rfl rfl ?_
      refine mj_T.call rfl rfl (Nat.le_of_ble_eq_true rfl) (Nat.le_of_ble_eq_true rfl) (mV_of m54 11 cq_d19 (by decide) rfl (by decide) rfl _) rfl (mj_Ok.up (by omega) (mZ_20 (D := 0) m54 b cq_d80 fr_d174 (xup_at _ _ _ _) hd53 ⟨by omega, by omega⟩)) (fun v g55 hq => ?_) (fun i g55 hq => ?_)
      rotate_left
      · obtain ⟨_, _, _, _, hq⟩ := hq; cases hq
      obtain ⟨V56, _, m57, b58, hq⟩ := hq
      cases hq
      refine mj_T.eq (pc2 := 83) (st2 := []) ?_ rfl rfl rfl rfl
      refine mj_T.pl rfl rfl rfl rfl ?_
      refine mT_get m57 16 cq_d172 (by decide) rfl rfl ?_
      refine mj_T.pl rfl rfl rfl rfl ?_
      refine mT_get m57 16 cq_d172 (by decide) rfl rfl ?_
      refine mT_get m57 11 cq_d19 (by decide) rfl rfl ?_
      refine mj_T.pl rfl rfl rfl rfl ?_
      refine mT_get m57 16 cq_d172 (by decide) rfl rfl ?_
      refine mj_T.pl rfl rfl rfl rfl ?_
      refine mj_T.call rfl rfl (Nat.le_of_ble_eq_true rfl) (Nat.le_of_ble_eq_true rfl) (mV_of m57 11 cq_d19 (by decide) rfl (by decide) rfl _) rfl (mj_Ok.up (by omega) (mZ_20 (D := 0) m57 b58 cq_d80 fr_d176 (xup_at _ _ _ _) hd53 ⟨by omega, by omega⟩)) (fun v g59 hq => ?_) (fun i g59 hq => ?_)
      rotate_left
      · obtain ⟨_, _, _, _, hq⟩ := hq; cases hq
      obtain ⟨V60, _, m61, b62, hq⟩ := hq
      cases hq
      refine mj_T.eq (pc2 := 103) (st2 := []) ?_ rfl rfl rfl rfl
      iterate 2 refine mj_T.pl rfl rfl rfl rfl ?_
      refine mT_get m61 16 cq_d172 (by decide) rfl rfl ?_
      refine mT_get m61 11 cq_d19 (by decide) rfl rfl ?_
      refine mj_T.call rfl rfl (Nat.le_of_ble_eq_true rfl) (Nat.le_of_ble_eq_true rfl) (mV_of m61 13 kr (by decide) rfl (by decide) rfl _) rfl (mj_Ok.up (by omega) (mZ_41 (D := 0) m61 b62 kr cq_d80)) (fun v g63 hq => ?_) (fun i g63 hq => ?_)
      rotate_left
      · obtain ⟨_, _, _, _, _, _, hq⟩ := hq; cases hq
      obtain ⟨V65, d64, _, m66, b67, hd64, hq⟩ := hq
      cases hq
      refine mj_T.eq (pc2 := 114) (st2 := []) ?_ rfl rfl rfl rfl
      refine mj_T.pl rfl rfl rfl rfl ?_
      refine mj_T.call rfl rfl (Nat.le_of_ble_eq_true rfl) (Nat.le_of_ble_eq_true rfl) (mV_of m66 13 kq (by decide) rfl (by decide) rfl _) rfl (mj_Ok.up (by omega) (mP_lead (D := 0) m66 kq ((congrFun (xup_oth (by omega)) 2).trans ((congrFun (xup_oth (by omega)) 2).trans (hdq))) hdq2)) (fun v g68 hq => ?_) (fun i g68 hq => ?_)
      rotate_left
      · cases hq
      cases hq
      refine mj_T.eq (pc2 := 118) (st2 := [.ref (q + 4 + 2 * dq)]) ?_ rfl rfl rfl rfl
      refine mZ_sg m66 ((mK_p kq).2.2.2 dq (by omega)) rfl (fun z69 rz69 => ?_)
      refine mj_T.if0 (a := z69) rfl ⟨by omega, by omega⟩ (fun c70 => ?_) (fun c70 => ?_)
      · simp only [jc, Bool.not_eq_true', Bool.not_eq_false', decide_eq_true_eq, decide_eq_false_iff_not] at c70
        refine mj_T.pl rfl rfl rfl rfl ?_
        refine mj_T.call rfl rfl (Nat.le_of_ble_eq_true rfl) (Nat.le_of_ble_eq_true rfl) (mV_of m66 13 kr (by decide) rfl (by decide) rfl _) rfl (mj_Ok.up (by omega) (mZ_43 (D := 0) m66 b67 kr)) (fun v g71 hq => ?_) (fun i g71 hq => ?_)
        rotate_left
        · obtain ⟨_, _, _, _, hq⟩ := hq; cases hq
        obtain ⟨V72, _, m73, b74, hq⟩ := hq
        cases hq
        refine mj_T.eq (pc2 := 135) (st2 := []) ?_ rfl rfl rfl rfl
        exact mZ_71_tail kq hq8 hqr hdp2 hdq hdq2 hd53 hd64 m73 b74
      · simp only [jc, Bool.not_eq_true', Bool.not_eq_false', decide_eq_true_eq, decide_eq_false_iff_not] at c70
        iterate 2 refine mj_T.pl rfl rfl rfl rfl ?_
        refine mj_T.irem (a := (dp - (dq : Int))) (b := 2) rfl ⟨by omega, by omega⟩ ⟨by decide, by decide⟩ (by decide) ?_
        refine mj_T.if0 (a := ((dp - (dq : Int)).tmod 2)) rfl (tm2 _) (fun c75 => ?_) (fun c75 => ?_)
        · simp only [jc, Bool.not_eq_true', Bool.not_eq_false', decide_eq_true_eq, decide_eq_false_iff_not] at c75
          exact mZ_71_tail kq hq8 hqr hdp2 hdq hdq2 hd53 hd64 m66 b67
        · simp only [jc, Bool.not_eq_true', Bool.not_eq_false', decide_eq_true_eq, decide_eq_false_iff_not] at c75
          refine mj_T.pl rfl rfl rfl rfl ?_
          refine mj_T.call rfl rfl (Nat.le_of_ble_eq_true rfl) (Nat.le_of_ble_eq_true rfl) (mV_of m66 13 kr (by decide) rfl (by decide) rfl _) rfl (mj_Ok.up (by omega) (mZ_43 (D := 0) m66 b67 kr)) (fun v g76 hq => ?_) (fun i g76 hq => ?_)
          rotate_left
          · obtain ⟨_, _, _, _, hq⟩ := hq; cases hq
          obtain ⟨V77, _, m78, b79, hq⟩ := hq
          cases hq
          refine mj_T.eq (pc2 := 135) (st2 := []) ?_ rfl rfl rfl rfl
          exact mZ_71_tail kq hq8 hqr hdp2 hdq hdq2 hd53 hd64 m78 b79
    · simp only [jc, Bool.not_eq_true', Bool.not_eq_false', decide_eq_true_eq, decide_eq_false_iff_not] at c1
      obtain ⟨e, he⟩ : ∃ e : Nat, s = (e : Int) := ⟨(s : Int).toNat, by omega⟩
      subst he
      refine mj_T.pl rfl rfl rfl rfl ?_
      refine mT_get m 16 cq_d172 (by decide) rfl rfl ?_
      refine mj_T.pl rfl rfl rfl rfl ?_
      refine mT_get m 16 cq_d172 (by decide) rfl rfl ?_
      refine mT_get m 11 cq_d19 (by decide) rfl rfl ?_
      iterate 2 refine mj_T.pl rfl rfl rfl rfl ?_
      refine mj_T.call rfl rfl (Nat.le_of_ble_eq_true rfl) (Nat.le_of_ble_eq_true rfl) (mV_of m 11 cq_d19 (by decide) rfl (by decide) rfl _) rfl (mj_Ok.up (by omega) (mZ_17 (D := 0) (dy := dq) (s := e) m b cq_d80 kq ((congrFun (xup_oth (by omega)) 2).trans (hdq)) hdq2 (by omega))) (fun v g2 hq => ?_) (fun i g2 hq => ?_)
      rotate_left
      · obtain ⟨_, _, _, _, hq⟩ := hq; cases hq
      obtain ⟨V3, _, m4, b5, hq⟩ := hq
      cases hq
      refine mj_T.eq (pc2 := 48) (st2 := []) ?_ rfl rfl rfl rfl
      refine mj_T.iinc rfl rfl ?_
      refine mj_T.eq (loc2 := [some (.ref 172), some (.ref p), some (.ref q), some (.ref r), some (.int (jn (dp - (dq : Int)))), some (.int (jn (((e : Nat) : Int) + (-1))))]) ?_ rfl rfl rfl rfl
      refine mj_T.pl rfl rfl rfl rfl ?_
      exact mZ_71_loop kp kq kr hp hq8 hr8 hqr hdp hdp2 hdq hdq2 k _ (by omega) (by omega) _ _ _ m4 b5
theorem mZ_71 (m : jM g n V X h) (b : by0 V) {dq : Nat} {dp : Int} (kp : cK p = 13) (kq : cK q = 13) (kr : cK r = 13) (hp : 180 ≤ p) (hq8 : q ≠ 80) (hr8 : r ≠ 80) (hqr : q ≠ r) (hdp : X p 2 = dp) (hdp2 : -1 ≤ dp ∧ dp < 13) (hdq : X q 2 = (dq : Int)) (hdq2 : dq < cL (q + 3)) : mj_Ok (D + 5) 71 [.ref 172, .ref p, .ref q, .ref r] h (fun z => ∃ (V2 : Nat → Int) (d1 d2 : Int) (h2 : mj_H), jM g n V2 (xup (xup X 80 2 d1) r 2 d2) h2 ∧ by0 V2 ∧ (-1 ≤ d1 ∧ d1 < cL (80 + 3)) ∧ (-1 ≤ d2 ∧ d2 < cL (r + 3)) ∧ z = (.inl none, h2)) := by
  have h83 : cL (80 + 3) = 13 := mK_z.2.2.1
  have hbq := (mK_p kq).2.2.1
  refine mj_Ok.of (M := mj_m71) rfl rfl rfl ?_
  refine mj_T.pl rfl rfl rfl rfl ?_
  refine mT_get (v := .int (jn dp)) m 13 kp (by decide) rfl (congrArg (fun z : Int => some (Value.int (jn z))) (hdp)) ?_
  refine mj_T.pl rfl rfl rfl rfl ?_
  refine mT_get (v := .int (jn ((dq : Nat) : Int))) m 13 kq (by decide) rfl (congrArg (fun z : Int => some (Value.int (jn z))) (hdq)) ?_
  refine mj_T.isub (a := dp) (b := ((dq : Nat) : Int)) rfl ?_
  refine mj_T.pl (loc' := [some (.ref 172), some (.ref p), some (.ref q), some (.ref r), some (.int (jn (dp - ((dq : Nat) : Int)))), none]) rfl rfl rfl rfl ?_
  refine mj_T.pl rfl rfl rfl rfl ?_
  refine mT_get m 16 cq_d172 (by decide) rfl rfl ?_
  refine mT_get m 11 cq_d19 (by decide) rfl rfl ?_
  refine mj_T.pl rfl rfl rfl rfl ?_
  refine mj_T.call rfl rfl (Nat.le_of_ble_eq_true rfl) (Nat.le_of_ble_eq_true rfl) (mV_of m 13 cq_d80 (by decide) rfl (by decide) rfl _) rfl (mj_Ok.up (by omega) (mZ_41 (D := 0) m b cq_d80 kp)) (fun v g1 hq => ?_) (fun i g1 hq => ?_)
  rotate_left
  · obtain ⟨_, _, _, _, _, _, hq⟩ := hq; cases hq
  obtain ⟨V3, d2, _, m4, b5, hd2, hq⟩ := hq
  cases hq
  refine mj_T.eq (pc2 := 22) (st2 := []) ?_ rfl rfl rfl rfl
  refine mj_T.pl rfl rfl rfl rfl ?_
  refine mj_T.pl (loc' := [some (.ref 172), some (.ref p), some (.ref q), some (.ref r), some (.int (jn (dp - ((dq : Nat) : Int)))), some (.int (jn (dp - ((dq : Nat) : Int))))]) rfl rfl rfl rfl ?_
  exact mZ_71_loop kp kq kr hp hq8 hr8 hqr hdp hdp2 hdq hdq2 40 _ (by omega) (by omega) _ _ _ m4 b5
end MLS
/-! The class loosely: the row of Sturm. -/
section MLT
variable {g h : mj_H} {n D : Nat} {V : Nat → Int} {X : Nat → Nat → Int}
theorem mZ_70_loop : ∀ u t, t + u = 12 → ∀ (V1 : Nat → Int) (X1 : Nat → Nat → Int) (h1 : mj_H), jM g n V1 X1 h1 → by0 V1 → FX X X1 → DG X1 → mj_T (D + 5) mj_m70 39 [some (.ref 172), some (.int (jn ((t + 2 : Nat) : Int)))] [] h1 (fun z => ∃ (V2 : Nat → Int) (X2 : Nat → Nat → Int) (h2 : mj_H), jM g n V2 X2 h2 ∧ by0 V2 ∧ FX X X2 ∧ DG X2 ∧ z = (.inl none, h2))
  | 0, t, htu, V1, X1, hh1, m, b, fx, dg => by
    have hL : cL 173 = 14 := mK_r.2.2.2.1
    have e1 := dg (sro (t + 1)) ((sro_k (t := t + 1) (by omega)).1)
    have l1 := (mK_p ((sro_k (t := t + 1) (by omega)).1)).2.2.1
    iterate 2 refine mj_T.pl rfl rfl rfl rfl ?_
    refine mT_get m 16 cq_d172 (by decide) rfl rfl ?_
    refine mT_alen m 5 cq_d173 (by decide) rfl ?_
    refine mj_T.icmp (a := (((t + 2) : Nat) : Int)) (b := ((cL 173 : Nat) : Int)) rfl ⟨by omega, by omega⟩ ⟨by omega, by omega⟩ (fun c1 => ?_) (fun c1 => ?_)
    · simp only [jc, decide_eq_true_eq, decide_eq_false_iff_not, hL] at c1
      exact mj_T.ret rfl rfl rfl ⟨V1, _, _, m, b, fx, dg, rfl⟩
    · exfalso
      simp only [jc, decide_eq_true_eq, decide_eq_false_iff_not, hL] at c1
      omega
  | u + 1, t, htu, V1, X1, hh1, m, b, fx, dg => by
    have hL : cL 173 = 14 := mK_r.2.2.2.1
    have e1 := dg (sro (t + 1)) ((sro_k (t := t + 1) (by omega)).1)
    have l1 := (mK_p ((sro_k (t := t + 1) (by omega)).1)).2.2.1
    iterate 2 refine mj_T.pl rfl rfl rfl rfl ?_
    refine mT_get m 16 cq_d172 (by decide) rfl rfl ?_
    refine mT_alen m 5 cq_d173 (by decide) rfl ?_
    refine mj_T.icmp (a := (((t + 2) : Nat) : Int)) (b := ((cL 173 : Nat) : Int)) rfl ⟨by omega, by omega⟩ ⟨by omega, by omega⟩ (fun c1 => ?_) (fun c1 => ?_)
    · exfalso
      simp only [jc, decide_eq_true_eq, decide_eq_false_iff_not, hL] at c1
      omega
    · simp only [jc, decide_eq_true_eq, decide_eq_false_iff_not, hL] at c1
      refine mj_T.pl rfl rfl rfl rfl ?_
      refine mT_get m 16 cq_d172 (by decide) rfl rfl ?_
      iterate 2 refine mj_T.pl rfl rfl rfl rfl ?_
      refine mj_T.isub (a := (((t + 2) : Nat) : Int)) (b := 1) rfl ?_
      rw [show ((t + 2 : Nat) : Int) - 1 = ((t + 1 : Nat) : Int) by omega]
      refine mT_aald m 5 cq_d173 (by decide) rfl rfl (by omega) ⟨by omega, by omega⟩ ?_
      refine mj_T.eq (st2 := [.ref (sro (t + 1))]) ?_ rfl rfl rfl rfl
      refine mT_get m 13 (sro_k (t := t + 1) (by omega)).1 (by decide) rfl rfl ?_
      refine mj_T.if0 (a := (X1 (sro (t + 1)) 2)) rfl ⟨by omega, by omega⟩ (fun c2 => ?_) (fun c2 => ?_)
      · simp only [jc, Bool.not_eq_true', Bool.not_eq_false', decide_eq_true_eq, decide_eq_false_iff_not] at c2
        exact mj_T.ret rfl rfl rfl ⟨V1, _, _, m, b, fx, dg, rfl⟩
      · simp only [jc, Bool.not_eq_true', Bool.not_eq_false', decide_eq_true_eq, decide_eq_false_iff_not] at c2
        iterate 2 refine mj_T.pl rfl rfl rfl rfl ?_
        refine mT_get m 16 cq_d172 (by decide) rfl rfl ?_
        iterate 2 refine mj_T.pl rfl rfl rfl rfl ?_
        refine mj_T.isub (a := (((t + 2) : Nat) : Int)) (b := 2) rfl ?_
        rw [show ((t + 2 : Nat) : Int) - 2 = ((t : Nat) : Int) by omega]
        refine mT_aald m 5 cq_d173 (by decide) rfl rfl (by omega) ⟨by omega, by omega⟩ ?_
        refine mj_T.eq (st2 := [.ref (sro t), .ref 172]) ?_ rfl rfl rfl rfl
        refine mj_T.pl rfl rfl rfl rfl ?_
        refine mT_get m 16 cq_d172 (by decide) rfl rfl ?_
        iterate 2 refine mj_T.pl rfl rfl rfl rfl ?_
        refine mj_T.isub (a := (((t + 2) : Nat) : Int)) (b := 1) rfl ?_
        rw [show ((t + 2 : Nat) : Int) - 1 = ((t + 1 : Nat) : Int) by omega]
        refine mT_aald m 5 cq_d173 (by decide) rfl rfl (by omega) ⟨by omega, by omega⟩ ?_
        refine mj_T.eq (st2 := [.ref (sro (t + 1)), .ref (sro t), .ref 172]) ?_ rfl rfl rfl rfl
        refine mj_T.pl rfl rfl rfl rfl ?_
        refine mT_get m 16 cq_d172 (by decide) rfl rfl ?_
        refine mj_T.pl rfl rfl rfl rfl ?_
        refine mT_aald m 5 cq_d173 (by decide) rfl rfl (by omega) ⟨by omega, by omega⟩ ?_
        refine mj_T.eq (st2 := [.ref (sro (t + 2)), .ref (sro (t + 1)), .ref (sro t), .ref 172]) ?_ rfl rfl rfl rfl
        obtain ⟨dq, hdq⟩ : ∃ dq : Nat, X1 (sro (t + 1)) 2 = (dq : Int) := ⟨(X1 (sro (t + 1)) 2).toNat, by omega⟩
        have s12 : sro (t + 1) ≠ sro (t + 2) := ((sro_2 (i := t + 1) (by omega)).2.2 (t + 2) (by omega)).1 (by omega)
        have s1 := (sro_2 (i := t + 1) (by omega)).1
        have s2 := (sro_2 (i := t + 2) (by omega)).1
        have s0 := (sro_2 (i := t) (by omega)).1
        have e0 := dg (sro t) ((sro_k (t := t) (by omega)).1)
        have l0 := mP_13 ((sro_k (t := t) (by omega)).1) s0
        have l2 := (mK_p ((sro_k (t := t + 2) (by omega)).1)).2.2.1
        refine mj_T.call rfl rfl (Nat.le_of_ble_eq_true rfl) (Nat.le_of_ble_eq_true rfl) (mV_of m 16 cq_d172 (by decide) rfl (by decide) rfl _) rfl (mj_Ok.up (by omega) (mZ_71 (D := 0) (dp := X1 (sro t) 2) m b ((sro_k (t := t) (by omega)).1) ((sro_k (t := t + 1) (by omega)).1) ((sro_k (t := t + 2) (by omega)).1) s0 (by omega) (by omega) s12 rfl ⟨by omega, by omega⟩ hdq (by omega))) (fun v g3 hq => ?_) (fun i g3 hq => ?_)
        rotate_left
        · obtain ⟨_, _, _, _, _, _, _, _, hq⟩ := hq; cases hq
        obtain ⟨V4, d1, d2, _, m5, b6, hd1, hd2, hq⟩ := hq
        cases hq
        have fx3 : FX X (xup (xup X1 80 2 d1) (sro (t + 2)) 2 d2) := fx.tr ((FX.up (Or.inl cq_d80)).tr (FX.up (Or.inl ((sro_k (t := t + 2) (by omega)).1))))
        have dg3 : DG (xup (xup X1 80 2 d1) (sro (t + 2)) 2 d2) := (dg.deg hd1).deg hd2
        refine mj_T.eq (pc2 := 88) (st2 := []) ?_ rfl rfl rfl rfl
        refine mj_T.pl rfl rfl rfl rfl ?_
        refine mT_get m5 16 cq_d172 (by decide) rfl rfl ?_
        refine mj_T.pl rfl rfl rfl rfl ?_
        refine mT_aald m5 5 cq_d173 (by decide) rfl rfl (by omega) ⟨by omega, by omega⟩ ?_
        refine mj_T.eq (st2 := [.ref (sro (t + 2))]) ?_ rfl rfl rfl rfl
        refine mT_get (v := .int (jn d2)) m5 13 (sro_k (t := t + 2) (by omega)).1 (by decide) rfl (congrArg (fun z : Int => some (Value.int (jn z))) (xup_at _ _ _ _)) ?_
        refine mj_T.if0 (a := d2) rfl ⟨by omega, by omega⟩ (fun c7 => ?_) (fun c7 => ?_)
        · simp only [jc, Bool.not_eq_true', Bool.not_eq_false', decide_eq_true_eq, decide_eq_false_iff_not] at c7
          iterate 3 refine mj_T.pl rfl rfl rfl rfl ?_
          refine mj_T.iadd (a := (((t + 2) : Nat) : Int)) (b := 1) rfl ?_
          refine mT_put (v := ((((t + 2) : Nat) : Int) + 1)) m5 16 cq_d172 (by decide) rfl (by simp [jMf, xup]) (by simp [jMf]) rfl (fun h8 m9 => ?_)
          refine mj_T.iinc rfl rfl ?_
          rw [show (((t + 2) : Nat) : Int) + 1 = (((t + 2) + 1 : Nat) : Int) by omega]
          refine mj_T.eq (loc2 := [some (.ref 172), some (.int (jn ((((t + 2) + 1) : Nat) : Int)))]) ?_ rfl rfl rfl rfl
          refine mj_T.pl rfl rfl rfl rfl ?_
          exact mZ_70_loop u (t + 1) (by omega) _ _ _ m9 b6 (fx3.tr (FX.up (Or.inr (Or.inr cq_d172)))) (dg3.oth (by decide +kernel))
        · simp only [jc, Bool.not_eq_true', Bool.not_eq_false', decide_eq_true_eq, decide_eq_false_iff_not] at c7
          exact mj_T.ret rfl rfl rfl ⟨V4, _, _, m5, b6, fx3, dg3, rfl⟩
theorem mZ_70 (m : jM g n V X h) (b : by0 V) (dg : DG X) : mj_Ok (D + 6) 70 [.ref 172] h (fun z => ∃ (V2 : Nat → Int) (X2 : Nat → Nat → Int) (h2 : mj_H), jM g n V2 X2 h2 ∧ by0 V2 ∧ FX X X2 ∧ DG X2 ∧ z = (.inl none, h2)) := by
  have hL : cL 173 = 14 := mK_r.2.2.2.1
  have e1 := dg 210 cq_d210
  have l1 := (mK_p cq_d210).2.2.1
  refine mj_Ok.of (M := mj_m70) rfl rfl rfl ?_
  iterate 2 refine mj_T.pl rfl rfl rfl rfl ?_
  refine mT_get m 16 cq_d172 (by decide) rfl rfl ?_
  refine mj_T.pl rfl rfl rfl rfl ?_
  refine mT_aald m 5 cq_d173 (by decide) rfl rfl (by omega) ⟨by omega, by omega⟩ ?_
  refine mj_T.eq (st2 := [.ref 210, .ref 172]) ?_ rfl rfl rfl rfl
  refine mT_get m 13 cq_d210 (by decide) rfl rfl ?_
  refine mj_T.if0 (a := (X 210 2)) rfl ⟨by omega, by omega⟩ (fun c1 => ?_) (fun c1 => ?_)
  · simp only [jc, Bool.not_eq_true', Bool.not_eq_false', decide_eq_true_eq, decide_eq_false_iff_not] at c1
    refine mj_T.pl rfl rfl rfl rfl ?_
    refine mT_put (v := 2) m 16 cq_d172 (by decide) rfl (by simp [jMf, xup]) (by simp [jMf]) rfl (fun h2 m3 => ?_)
    refine mj_T.pl rfl rfl rfl rfl ?_
    refine mT_get m3 16 cq_d172 (by decide) rfl rfl ?_
    refine jT.lc 1 rfl rfl ?_
    refine mj_T.call rfl rfl (Nat.le_of_ble_eq_true rfl) (Nat.le_of_ble_eq_true rfl) (mV_of m3 18 cq_d174 (by decide) rfl (by decide) rfl _) rfl (mj_Ok.up (by omega) (mF_86 (D := 0) m3 b fr_d174 ⟨by decide, by decide⟩)) (fun v g4 hq => ?_) (fun i g4 hq => ?_)
    rotate_left
    · obtain ⟨_, _, _, _, hq⟩ := hq; cases hq
    obtain ⟨V5, _, m6, b7, hq⟩ := hq
    cases hq
    refine mj_T.eq (pc2 := 29) (st2 := []) ?_ rfl rfl rfl rfl
    refine mj_T.pl rfl rfl rfl rfl ?_
    refine mT_get m6 16 cq_d172 (by decide) rfl rfl ?_
    refine jT.lc 1 rfl rfl ?_
    refine mj_T.call rfl rfl (Nat.le_of_ble_eq_true rfl) (Nat.le_of_ble_eq_true rfl) (mV_of m6 18 cq_d176 (by decide) rfl (by decide) rfl _) rfl (mj_Ok.up (by omega) (mF_86 (D := 0) m6 b7 fr_d176 ⟨by decide, by decide⟩)) (fun v g8 hq => ?_) (fun i g8 hq => ?_)
    rotate_left
    · obtain ⟨_, _, _, _, hq⟩ := hq; cases hq
    obtain ⟨V9, _, m10, b11, hq⟩ := hq
    cases hq
    refine mj_T.eq (pc2 := 37) (st2 := []) ?_ rfl rfl rfl rfl
    refine mj_T.pl rfl rfl rfl rfl ?_
    refine mj_T.pl (loc' := [some (.ref 172), some (.int (jn 2))]) rfl rfl rfl rfl ?_
    refine mj_T.eq (loc2 := [some (.ref 172), some (.int (jn ((0 + 2 : Nat) : Int)))]) ?_ rfl rfl rfl rfl
    exact mZ_70_loop (D := D) 12 0 (by omega) _ _ _ m10 b11 (FX.up (Or.inr (Or.inr cq_d172))) (dg.oth (by decide +kernel))
  · simp only [jc, Bool.not_eq_true', Bool.not_eq_false', decide_eq_true_eq, decide_eq_false_iff_not] at c1
    iterate 2 refine mj_T.pl rfl rfl rfl rfl ?_
    refine mT_put (v := 1) m 16 cq_d172 (by decide) rfl (by simp [jMf, xup]) (by simp [jMf]) rfl (fun h12 m13 => ?_)
    refine mj_T.pl rfl rfl rfl rfl ?_
    refine mT_get m13 16 cq_d172 (by decide) rfl rfl ?_
    refine jT.lc 1 rfl rfl ?_
    refine mj_T.call rfl rfl (Nat.le_of_ble_eq_true rfl) (Nat.le_of_ble_eq_true rfl) (mV_of m13 18 cq_d174 (by decide) rfl (by decide) rfl _) rfl (mj_Ok.up (by omega) (mF_86 (D := 0) m13 b fr_d174 ⟨by decide, by decide⟩)) (fun v g14 hq => ?_) (fun i g14 hq => ?_)
    rotate_left
    · obtain ⟨_, _, _, _, hq⟩ := hq; cases hq
    obtain ⟨V15, _, m16, b17, hq⟩ := hq
    cases hq
    refine mj_T.eq (pc2 := 29) (st2 := []) ?_ rfl rfl rfl rfl
    refine mj_T.pl rfl rfl rfl rfl ?_
    refine mT_get m16 16 cq_d172 (by decide) rfl rfl ?_
    refine jT.lc 1 rfl rfl ?_
    refine mj_T.call rfl rfl (Nat.le_of_ble_eq_true rfl) (Nat.le_of_ble_eq_true rfl) (mV_of m16 18 cq_d176 (by decide) rfl (by decide) rfl _) rfl (mj_Ok.up (by omega) (mF_86 (D := 0) m16 b17 fr_d176 ⟨by decide, by decide⟩)) (fun v g18 hq => ?_) (fun i g18 hq => ?_)
    rotate_left
    · obtain ⟨_, _, _, _, hq⟩ := hq; cases hq
    obtain ⟨V19, _, m20, b21, hq⟩ := hq
    cases hq
    refine mj_T.eq (pc2 := 37) (st2 := []) ?_ rfl rfl rfl rfl
    refine mj_T.pl rfl rfl rfl rfl ?_
    refine mj_T.pl (loc' := [some (.ref 172), some (.int (jn 2))]) rfl rfl rfl rfl ?_
    refine mj_T.eq (loc2 := [some (.ref 172), some (.int (jn ((0 + 2 : Nat) : Int)))]) ?_ rfl rfl rfl rfl
    exact mZ_70_loop (D := D) 12 0 (by omega) _ _ _ m20 b21 (FX.up (Or.inr (Or.inr cq_d172))) (dg.oth (by decide +kernel))
theorem mZ_68 (m : jM g n V X h) (b : by0 V) (dg : DG X) {r : Nat} {y : Int} (kr : cK r = 2) (hy : jR y) (hjr : ∀ j, jR (X r j)) : mj_Ok (D + 7) 68 [.ref 172, .ref r, .long (jl y)] h (fun z => ∃ (V2 : Nat → Int) (X2 : Nat → Nat → Int) (h2 : mj_H), jM g n V2 X2 h2 ∧ by0 V2 ∧ FX X X2 ∧ DG X2 ∧ z = (.inl none, h2)) := by
  have hL : cL 173 = 14 := mK_r.2.2.2.1
  refine mj_Ok.of (M := mj_m68) rfl rfl rfl ?_
  refine mj_T.pl rfl rfl rfl rfl ?_
  refine mT_get m 16 cq_d172 (by decide) rfl rfl ?_
  refine mj_T.pl rfl rfl rfl rfl ?_
  refine mT_aald m 5 cq_d173 (by decide) rfl rfl (by omega) ⟨by omega, by omega⟩ ?_
  refine mj_T.eq (st2 := [.ref 180]) ?_ rfl rfl rfl rfl
  iterate 2 refine mj_T.pl rfl rfl rfl rfl ?_
  refine mj_T.call rfl rfl (Nat.le_of_ble_eq_true rfl) (Nat.le_of_ble_eq_true rfl) (mV_of m 13 cq_d180 (by decide) rfl (by decide) rfl _) rfl (mj_Ok.up (by omega) (mZ_40 (D := 0) m b cq_d180 kr hy hjr)) (fun v g1 hq => ?_) (fun i g1 hq => ?_)
  rotate_left
  · obtain ⟨_, _, _, _, _, _, hq⟩ := hq; cases hq
  obtain ⟨V3, d, _, m2, b4, hd, hq⟩ := hq
  cases hq
  have p180 : cL (180 + 3) = 13 := (mK_r.2.2.2.2.2.1 0 (by decide)).2
  refine mj_T.eq (pc2 := 11) (st2 := []) ?_ rfl rfl rfl rfl
  refine mj_T.pl rfl rfl rfl rfl ?_
  refine mj_T.call rfl rfl (Nat.le_of_ble_eq_true rfl) (Nat.le_of_ble_eq_true rfl) (mV_of m2 16 cq_d172 (by decide) rfl (by decide) rfl _) rfl (mj_Ok.up (by omega) (mZ_69 (D := 0) m2 b4 (xup_at _ _ _ _) (by omega))) (fun v g5 hq => ?_) (fun i g5 hq => ?_)
  rotate_left
  · obtain ⟨_, _, _, _, _, _, hq⟩ := hq; cases hq
  obtain ⟨V7, d2, _, m6, b8, hd2, hq⟩ := hq
  cases hq
  refine mj_T.eq (pc2 := 15) (st2 := []) ?_ rfl rfl rfl rfl
  refine mj_T.pl rfl rfl rfl rfl ?_
  refine mj_T.call rfl rfl (Nat.le_of_ble_eq_true rfl) (Nat.le_of_ble_eq_true rfl) (mV_of m6 16 cq_d172 (by decide) rfl (by decide) rfl _) rfl (mj_Ok.up (by omega) (mZ_70 (D := 0) m6 b8 ((dg.deg hd).deg hd2))) (fun v g9 hq => ?_) (fun i g9 hq => ?_)
  rotate_left
  · obtain ⟨_, _, _, _, _, _, _, hq⟩ := hq; cases hq
  obtain ⟨V11, X9, _, m10, b12, fx, dg9, hq⟩ := hq
  cases hq
  refine mj_T.eq (pc2 := 19) (st2 := []) ?_ rfl rfl rfl rfl
  exact mj_T.ret rfl rfl rfl ⟨V11, _, _, m10, b12, ((FX.up (Or.inl cq_d180)).tr (FX.up (Or.inl cq_d210))).tr fx, dg9, rfl⟩
theorem mZ_74_loop {y : Int} (hy : jR y) (dg : DG X) : ∀ (k i : Nat), 14 = i + k → ∀ (V1 : Nat → Int) (h1 : mj_H), jM g n V1 X h1 → by0 V1 → mj_T (D + 3) mj_m74 2 [some (.ref 172), some (.long (jl y)), none, some (.int (jn (i : Int)))] [] h1 (fun r => ∃ V2 h2, jM g n V2 X h2 ∧ by0 V2 ∧ r = (.inl none, h2))
  | 0, i, hi, V1, h1, m, b => by
    have hL : cL 173 = 14 := mK_r.2.2.2.1
    iterate 2 refine mj_T.pl rfl rfl rfl rfl ?_
    refine mT_get m 16 cq_d172 (by decide) rfl rfl ?_
    refine jT.anyI (fun z1 rz1 => ?_)
    refine mj_T.icmp (a := ((i : Nat) : Int)) (b := z1) rfl ⟨by omega, by omega⟩ ⟨by omega, by omega⟩ (fun c2 => ?_) (fun c2 => ?_)
    · simp only [jc, Bool.not_eq_true', Bool.not_eq_false', decide_eq_true_eq, decide_eq_false_iff_not] at c2
      exact mj_T.ret rfl rfl rfl ⟨V1, _, m, b, rfl⟩
    · simp only [jc, Bool.not_eq_true', Bool.not_eq_false', decide_eq_true_eq, decide_eq_false_iff_not] at c2
      iterate 2 refine mj_T.pl rfl rfl rfl rfl ?_
      refine mT_get m 16 cq_d172 (by decide) rfl rfl ?_
      refine mT_alen m 5 cq_d173 (by decide) rfl ?_
      refine mj_T.icmp (a := ((i : Nat) : Int)) (b := ((cL 173 : Nat) : Int)) rfl ⟨by omega, by omega⟩ ⟨by omega, by omega⟩ (fun c3 => ?_) (fun c3 => ?_)
      · simp only [jc, decide_eq_true_eq, decide_eq_false_iff_not, hL] at c3
        exact mj_T.ret rfl rfl rfl ⟨V1, _, m, b, rfl⟩
      · exfalso
        simp only [jc, decide_eq_true_eq, decide_eq_false_iff_not, hL] at c3
        omega
  | k + 1, i, hi, V1, h1, m, b => by
    have hL : cL 173 = 14 := mK_r.2.2.2.1
    iterate 2 refine mj_T.pl rfl rfl rfl rfl ?_
    refine mT_get m 16 cq_d172 (by decide) rfl rfl ?_
    refine jT.anyI (fun z1 rz1 => ?_)
    refine mj_T.icmp (a := ((i : Nat) : Int)) (b := z1) rfl ⟨by omega, by omega⟩ ⟨by omega, by omega⟩ (fun c2 => ?_) (fun c2 => ?_)
    · simp only [jc, Bool.not_eq_true', Bool.not_eq_false', decide_eq_true_eq, decide_eq_false_iff_not] at c2
      exact mj_T.ret rfl rfl rfl ⟨V1, _, m, b, rfl⟩
    · simp only [jc, Bool.not_eq_true', Bool.not_eq_false', decide_eq_true_eq, decide_eq_false_iff_not] at c2
      iterate 2 refine mj_T.pl rfl rfl rfl rfl ?_
      refine mT_get m 16 cq_d172 (by decide) rfl rfl ?_
      refine mT_alen m 5 cq_d173 (by decide) rfl ?_
      refine mj_T.icmp (a := ((i : Nat) : Int)) (b := ((cL 173 : Nat) : Int)) rfl ⟨by omega, by omega⟩ ⟨by omega, by omega⟩ (fun c3 => ?_) (fun c3 => ?_)
      · exfalso
        simp only [jc, decide_eq_true_eq, decide_eq_false_iff_not, hL] at c3
        omega
      · simp only [jc, decide_eq_true_eq, decide_eq_false_iff_not, hL] at c3
        refine mj_T.pl rfl rfl rfl rfl ?_
        refine mT_get m 16 cq_d172 (by decide) rfl rfl ?_
        refine mj_T.pl rfl rfl rfl rfl ?_
        refine mT_get m 16 cq_d172 (by decide) rfl rfl ?_
        refine mj_T.pl rfl rfl rfl rfl ?_
        refine mT_aald m 5 cq_d173 (by decide) rfl rfl (by omega) ⟨by omega, by omega⟩ ?_
        refine mj_T.eq (st2 := [.ref (sro i), .ref 19]) ?_ rfl rfl rfl rfl
        refine mj_T.pl rfl rfl rfl rfl ?_
        refine mj_T.call rfl rfl (Nat.le_of_ble_eq_true rfl) (Nat.le_of_ble_eq_true rfl) (mV_of m 11 cq_d19 (by decide) rfl (by decide) rfl _) rfl (mj_Ok.up (by omega) (mZ_26 (D := 0) m b (sro_k (t := i) (by omega)).1 hy rfl (dg _ (sro_k (t := i) (by omega)).1))) (fun v g4 hq => ?_) (fun i g4 hq => ?_)
        rotate_left
        · obtain ⟨_, _, _, _, hq⟩ := hq; cases hq
        obtain ⟨V5, _, m6, b7, hq⟩ := hq
        cases hq
        refine mj_T.eq (pc2 := 33) (st2 := []) ?_ rfl rfl rfl rfl
        refine mj_T.iinc rfl rfl ?_
        rw [show ((i : Nat) : Int) + 1 = ((i + 1 : Nat) : Int) by omega]
        refine mj_T.eq (loc2 := [some (.ref 172), some (.long (jl y)), none, some (.int (jn (((i + 1) : Nat) : Int)))]) ?_ rfl rfl rfl rfl
        refine mj_T.pl rfl rfl rfl rfl ?_
        exact mZ_74_loop hy dg k (i + 1) (by omega) _ _ m6 b7
theorem mZ_74 (m : jM g n V X h) (b : by0 V) (dg : DG X) {y : Int} (hy : jR y) : mj_Ok (D + 4) 74 [.ref 172, .long (jl y)] h (fun r => ∃ V2 h2, jM g n V2 X h2 ∧ by0 V2 ∧ r = (.inl none, h2)) := by
  refine mj_Ok.of (M := mj_m74) rfl rfl rfl ?_
  refine mj_T.pl rfl rfl rfl rfl ?_
  refine mj_T.pl (loc' := [some (.ref 172), some (.long (jl y)), none, some (.int (jn 0))]) rfl rfl rfl rfl ?_
  exact mZ_74_loop hy dg 14 0 (by omega) _ _ m b
theorem mZ_76_loop {a : Nat} (fa : frW a) (dg : DG X) : ∀ (k i : Nat), 14 = i + k → ∀ (V1 : Nat → Int) (h1 : mj_H) (c e : Int) (l5 : Option Value), (-2147483648 ≤ c ∧ c ≤ 2147483647) → (-2147483648 ≤ e ∧ e ≤ 2147483647) → jM g n V1 X h1 → by0 V1 → mj_T (D + 4) mj_m76 7 [some (.ref 172), some (.ref a), some (.int (jn c)), some (.int (jn e)), some (.int (jn (i : Int))), l5] [] h1 (fun r => ∃ (V2 : Nat → Int) (z : Int) (h2 : mj_H), jM g n V2 X h2 ∧ by0 V2 ∧ (-2147483648 ≤ z ∧ z ≤ 2147483647) ∧ r = (.inl (some (.int (jn z))), h2))
  | 0, i, hi, V1, h1, c, e, l5, hc, he, m, b => by
    have hL : cL 173 = 14 := mK_r.2.2.2.1
    iterate 2 refine mj_T.pl rfl rfl rfl rfl ?_
    refine mT_get m 16 cq_d172 (by decide) rfl rfl ?_
    refine jT.anyI (fun z1 rz1 => ?_)
    refine mj_T.icmp (a := ((i : Nat) : Int)) (b := z1) rfl ⟨by omega, by omega⟩ ⟨by omega, by omega⟩ (fun c2 => ?_) (fun c2 => ?_)
    · simp only [jc, Bool.not_eq_true', Bool.not_eq_false', decide_eq_true_eq, decide_eq_false_iff_not] at c2
      refine mj_T.pl rfl rfl rfl rfl ?_
      exact mj_T.ret rfl rfl rfl ⟨V1, _, _, m, b, ⟨by omega, by omega⟩, rfl⟩
    · simp only [jc, Bool.not_eq_true', Bool.not_eq_false', decide_eq_true_eq, decide_eq_false_iff_not] at c2
      iterate 2 refine mj_T.pl rfl rfl rfl rfl ?_
      refine mT_get m 16 cq_d172 (by decide) rfl rfl ?_
      refine mT_alen m 5 cq_d173 (by decide) rfl ?_
      refine mj_T.icmp (a := ((i : Nat) : Int)) (b := ((cL 173 : Nat) : Int)) rfl ⟨by omega, by omega⟩ ⟨by omega, by omega⟩ (fun c3 => ?_) (fun c3 => ?_)
      · simp only [jc, decide_eq_true_eq, decide_eq_false_iff_not, hL] at c3
        refine mj_T.pl rfl rfl rfl rfl ?_
        exact mj_T.ret rfl rfl rfl ⟨V1, _, _, m, b, ⟨by omega, by omega⟩, rfl⟩
      · exfalso
        simp only [jc, decide_eq_true_eq, decide_eq_false_iff_not, hL] at c3
        omega
  | k + 1, i, hi, V1, h1, c, e, l5, hc, he, m, b => by
    have hL : cL 173 = 14 := mK_r.2.2.2.1
    iterate 2 refine mj_T.pl rfl rfl rfl rfl ?_
    refine mT_get m 16 cq_d172 (by decide) rfl rfl ?_
    refine jT.anyI (fun z1 rz1 => ?_)
    refine mj_T.icmp (a := ((i : Nat) : Int)) (b := z1) rfl ⟨by omega, by omega⟩ ⟨by omega, by omega⟩ (fun c2 => ?_) (fun c2 => ?_)
    · simp only [jc, Bool.not_eq_true', Bool.not_eq_false', decide_eq_true_eq, decide_eq_false_iff_not] at c2
      refine mj_T.pl rfl rfl rfl rfl ?_
      exact mj_T.ret rfl rfl rfl ⟨V1, _, _, m, b, ⟨by omega, by omega⟩, rfl⟩
    · simp only [jc, Bool.not_eq_true', Bool.not_eq_false', decide_eq_true_eq, decide_eq_false_iff_not] at c2
      iterate 2 refine mj_T.pl rfl rfl rfl rfl ?_
      refine mT_get m 16 cq_d172 (by decide) rfl rfl ?_
      refine mT_alen m 5 cq_d173 (by decide) rfl ?_
      refine mj_T.icmp (a := ((i : Nat) : Int)) (b := ((cL 173 : Nat) : Int)) rfl ⟨by omega, by omega⟩ ⟨by omega, by omega⟩ (fun c3 => ?_) (fun c3 => ?_)
      · exfalso
        simp only [jc, decide_eq_true_eq, decide_eq_false_iff_not, hL] at c3
        omega
      · simp only [jc, decide_eq_true_eq, decide_eq_false_iff_not, hL] at c3
        refine mj_T.pl rfl rfl rfl rfl ?_
        refine mT_get m 16 cq_d172 (by decide) rfl rfl ?_
        refine mj_T.pl rfl rfl rfl rfl ?_
        refine mT_get m 16 cq_d172 (by decide) rfl rfl ?_
        refine mj_T.pl rfl rfl rfl rfl ?_
        refine mT_aald m 5 cq_d173 (by decide) rfl rfl (by omega) ⟨by omega, by omega⟩ ?_
        refine mj_T.eq (st2 := [.ref (sro i), .ref 19]) ?_ rfl rfl rfl rfl
        refine mj_T.pl rfl rfl rfl rfl ?_
        refine mj_T.call rfl rfl (Nat.le_of_ble_eq_true rfl) (Nat.le_of_ble_eq_true rfl) (mV_of m 11 cq_d19 (by decide) rfl (by decide) rfl _) rfl (mj_Ok.up (by omega) (mZ_28 (D := 0) m b (sro_k (t := i) (by omega)).1 fa rfl (dg _ (sro_k (t := i) (by omega)).1))) (fun v g4 hq => ?_) (fun i g4 hq => ?_)
        rotate_left
        · obtain ⟨_, _, _, _, _, _, hq⟩ := hq; cases hq
        obtain ⟨V7, z5, _, m6, b8, rz5, hq⟩ := hq
        cases hq
        refine mj_T.eq (pc2 := 41) (st2 := [.int (jn z5)]) ?_ rfl rfl rfl rfl
        refine mj_T.pl (loc' := [some (.ref 172), some (.ref a), some (.int (jn c)), some (.int (jn e)), some (.int (jn ((i : Nat) : Int))), some (.int (jn z5))]) rfl rfl rfl rfl ?_
        iterate 3 refine mj_T.pl rfl rfl rfl rfl ?_
        refine mj_T.imul (a := z5) (b := e) rfl ?_
        refine jT.anyI (fun z9 rz9 => ?_)
        refine mj_T.if0 (a := z9) rfl ⟨by omega, by omega⟩ (fun c10 => ?_) (fun c10 => ?_)
        · simp only [jc, Bool.not_eq_true', Bool.not_eq_false', decide_eq_true_eq, decide_eq_false_iff_not] at c10
          refine mj_T.pl rfl rfl rfl rfl ?_
          refine mj_T.iadd (a := c) (b := 0) rfl ?_
          refine jT.anyI (fun z11 rz11 => ?_)
          refine mj_T.pl (loc' := [some (.ref 172), some (.ref a), some (.int (jn z11)), some (.int (jn e)), some (.int (jn ((i : Nat) : Int))), some (.int (jn z5))]) rfl rfl rfl rfl ?_
          refine mj_T.pl rfl rfl rfl rfl ?_
          refine mj_T.if0 (a := z5) rfl ⟨by omega, by omega⟩ (fun c12 => ?_) (fun c12 => ?_)
          · simp only [jc, Bool.not_eq_true', Bool.not_eq_false', decide_eq_true_eq, decide_eq_false_iff_not] at c12
            refine mj_T.pl rfl rfl rfl rfl ?_
            refine mj_T.pl (loc' := [some (.ref 172), some (.ref a), some (.int (jn z11)), some (.int (jn z5)), some (.int (jn ((i : Nat) : Int))), some (.int (jn z5))]) rfl rfl rfl rfl ?_
            refine mj_T.iinc rfl rfl ?_
            rw [show ((i : Nat) : Int) + 1 = ((i + 1 : Nat) : Int) by omega]
            refine mj_T.eq (loc2 := [some (.ref 172), some (.ref a), some (.int (jn z11)), some (.int (jn z5)), some (.int (jn (((i + 1) : Nat) : Int))), some (.int (jn z5))]) ?_ rfl rfl rfl rfl
            refine mj_T.pl rfl rfl rfl rfl ?_
            exact mZ_76_loop fa dg k (i + 1) (by omega) _ _ _ _ _ ⟨by omega, by omega⟩ ⟨by omega, by omega⟩ m6 b8
          · simp only [jc, Bool.not_eq_true', Bool.not_eq_false', decide_eq_true_eq, decide_eq_false_iff_not] at c12
            iterate 2 refine mj_T.pl rfl rfl rfl rfl ?_
            refine mj_T.pl (loc' := [some (.ref 172), some (.ref a), some (.int (jn z11)), some (.int (jn e)), some (.int (jn ((i : Nat) : Int))), some (.int (jn z5))]) rfl rfl rfl rfl ?_
            refine mj_T.iinc rfl rfl ?_
            rw [show ((i : Nat) : Int) + 1 = ((i + 1 : Nat) : Int) by omega]
            refine mj_T.eq (loc2 := [some (.ref 172), some (.ref a), some (.int (jn z11)), some (.int (jn e)), some (.int (jn (((i + 1) : Nat) : Int))), some (.int (jn z5))]) ?_ rfl rfl rfl rfl
            refine mj_T.pl rfl rfl rfl rfl ?_
            exact mZ_76_loop fa dg k (i + 1) (by omega) _ _ _ _ _ ⟨by omega, by omega⟩ ⟨by omega, by omega⟩ m6 b8
        · simp only [jc, Bool.not_eq_true', Bool.not_eq_false', decide_eq_true_eq, decide_eq_false_iff_not] at c10
          iterate 2 refine mj_T.pl rfl rfl rfl rfl ?_
          refine mj_T.iadd (a := c) (b := 1) rfl ?_
          refine jT.anyI (fun z13 rz13 => ?_)
          refine mj_T.pl (loc' := [some (.ref 172), some (.ref a), some (.int (jn z13)), some (.int (jn e)), some (.int (jn ((i : Nat) : Int))), some (.int (jn z5))]) rfl rfl rfl rfl ?_
          refine mj_T.pl rfl rfl rfl rfl ?_
          refine mj_T.if0 (a := z5) rfl ⟨by omega, by omega⟩ (fun c14 => ?_) (fun c14 => ?_)
          · simp only [jc, Bool.not_eq_true', Bool.not_eq_false', decide_eq_true_eq, decide_eq_false_iff_not] at c14
            refine mj_T.pl rfl rfl rfl rfl ?_
            refine mj_T.pl (loc' := [some (.ref 172), some (.ref a), some (.int (jn z13)), some (.int (jn z5)), some (.int (jn ((i : Nat) : Int))), some (.int (jn z5))]) rfl rfl rfl rfl ?_
            refine mj_T.iinc rfl rfl ?_
            rw [show ((i : Nat) : Int) + 1 = ((i + 1 : Nat) : Int) by omega]
            refine mj_T.eq (loc2 := [some (.ref 172), some (.ref a), some (.int (jn z13)), some (.int (jn z5)), some (.int (jn (((i + 1) : Nat) : Int))), some (.int (jn z5))]) ?_ rfl rfl rfl rfl
            refine mj_T.pl rfl rfl rfl rfl ?_
            exact mZ_76_loop fa dg k (i + 1) (by omega) _ _ _ _ _ ⟨by omega, by omega⟩ ⟨by omega, by omega⟩ m6 b8
          · simp only [jc, Bool.not_eq_true', Bool.not_eq_false', decide_eq_true_eq, decide_eq_false_iff_not] at c14
            iterate 2 refine mj_T.pl rfl rfl rfl rfl ?_
            refine mj_T.pl (loc' := [some (.ref 172), some (.ref a), some (.int (jn z13)), some (.int (jn e)), some (.int (jn ((i : Nat) : Int))), some (.int (jn z5))]) rfl rfl rfl rfl ?_
            refine mj_T.iinc rfl rfl ?_
            rw [show ((i : Nat) : Int) + 1 = ((i + 1 : Nat) : Int) by omega]
            refine mj_T.eq (loc2 := [some (.ref 172), some (.ref a), some (.int (jn z13)), some (.int (jn e)), some (.int (jn (((i + 1) : Nat) : Int))), some (.int (jn z5))]) ?_ rfl rfl rfl rfl
            refine mj_T.pl rfl rfl rfl rfl ?_
            exact mZ_76_loop fa dg k (i + 1) (by omega) _ _ _ _ _ ⟨by omega, by omega⟩ ⟨by omega, by omega⟩ m6 b8
theorem mZ_76 (m : jM g n V X h) (b : by0 V) (dg : DG X) {a : Nat} (fa : frW a) : mj_Ok (D + 5) 76 [.ref 172, .ref a] h (fun r => ∃ (V2 : Nat → Int) (z : Int) (h2 : mj_H), jM g n V2 X h2 ∧ by0 V2 ∧ (-2147483648 ≤ z ∧ z ≤ 2147483647) ∧ r = (.inl (some (.int (jn z))), h2)) := by
  refine mj_Ok.of (M := mj_m76) rfl rfl rfl ?_
  refine mj_T.pl rfl rfl rfl rfl ?_
  refine mj_T.pl (loc' := [some (.ref 172), some (.ref a), some (.int (jn 0)), none, none, none]) rfl rfl rfl rfl ?_
  refine mj_T.pl rfl rfl rfl rfl ?_
  refine mj_T.pl (loc' := [some (.ref 172), some (.ref a), some (.int (jn 0)), some (.int (jn 0)), none, none]) rfl rfl rfl rfl ?_
  refine mj_T.pl rfl rfl rfl rfl ?_
  refine mj_T.pl (loc' := [some (.ref 172), some (.ref a), some (.int (jn 0)), some (.int (jn 0)), some (.int (jn 0)), none]) rfl rfl rfl rfl ?_
  exact mZ_76_loop fa dg 14 0 (by omega) _ _ _ _ _ ⟨by decide, by decide⟩ ⟨by decide, by decide⟩ m b
theorem mZ_75 (m : jM g n V X h) (b : by0 V) (dg : DG X) {y : Int} (hy : jR y) : mj_Ok (D + 6) 75 [.ref 172, .long (jl y)] h (fun r => ∃ (V2 : Nat → Int) (z : Int) (h2 : mj_H), jM g n V2 X h2 ∧ by0 V2 ∧ (-2147483648 ≤ z ∧ z ≤ 2147483647) ∧ r = (.inl (some (.int (jn z))), h2)) := by
  refine mj_Ok.of (M := mj_m75) rfl rfl rfl ?_
  refine mj_T.pl rfl rfl rfl rfl ?_
  refine mT_get m 16 cq_d172 (by decide) rfl rfl ?_
  refine mj_T.pl rfl rfl rfl rfl ?_
  refine mj_T.call rfl rfl (Nat.le_of_ble_eq_true rfl) (Nat.le_of_ble_eq_true rfl) (mV_of m 18 cq_d178 (by decide) rfl (by decide) rfl _) rfl (mj_Ok.up (by omega) (mF_86 (D := 0) m b fr_d178 hy)) (fun v g1 hq => ?_) (fun i g1 hq => ?_)
  rotate_left
  · obtain ⟨_, _, _, _, hq⟩ := hq; cases hq
  obtain ⟨V2, _, m3, b4, hq⟩ := hq
  cases hq
  refine mj_T.eq (pc2 := 8) (st2 := []) ?_ rfl rfl rfl rfl
  iterate 2 refine mj_T.pl rfl rfl rfl rfl ?_
  refine mT_get m3 16 cq_d172 (by decide) rfl rfl ?_
  refine mj_T.call rfl rfl (Nat.le_of_ble_eq_true rfl) (Nat.le_of_ble_eq_true rfl) (mV_of m3 16 cq_d172 (by decide) rfl (by decide) rfl _) rfl (mj_Ok.up (by omega) (mZ_76 (D := 0) m3 b4 dg fr_d178)) (fun v g5 hq => ?_) (fun i g5 hq => ?_)
  rotate_left
  · obtain ⟨_, _, _, _, _, _, hq⟩ := hq; cases hq
  obtain ⟨V8, z6, _, m7, b9, rz6, hq⟩ := hq
  cases hq
  refine mj_T.eq (pc2 := 16) (st2 := [.int (jn z6)]) ?_ rfl rfl rfl rfl
  exact mj_T.ret rfl rfl rfl ⟨V8, _, _, m7, b9, ⟨by omega, by omega⟩, rfl⟩
theorem mZ_37 (m : jM g n V X h) {p : Nat} (kp : cK p = 13) (dg : -1 ≤ X p 2 ∧ X p 2 < cL (p + 3)) : mj_Ok (D + 2) 37 [.ref p] h (fun r => ∃ a, cK a = 18 ∧ r = (.inl (some (.ref a)), h)) := by
  have hb := (mK_p kp).2.2.1
  by_cases c : 0 ≤ X p 2
  · exact (mP_lead (D := D) m kp (e := (X p 2).toNat) (by omega) (by omega)).to fun r hr => ⟨_, (mK_p kp).2.2.2 _ (by omega), hr⟩
  · refine mj_Ok.of (M := mj_m37) rfl rfl rfl ?_
    iterate 2 refine mj_T.pl rfl rfl rfl rfl ?_
    refine mT_get m 13 kp (by decide) rfl rfl ?_
    refine mj_T.call rfl rfl (Nat.le_of_ble_eq_true rfl) (Nat.le_of_ble_eq_true rfl) (mV_of m 13 kp (by decide) rfl (by decide) rfl _) rfl (mj_Ok.up (by omega) (mP_atB (D := 0) m kp (e := X p 2) ⟨by omega, by omega⟩ (Or.inl (by omega)))) (fun v g1 hq => ?_) (fun i g1 hq => ?_)
    rotate_left
    · cases hq
    cases hq
    refine mj_T.eq (pc2 := 8) (st2 := [.ref (p + 1)]) ?_ rfl rfl rfl rfl
    exact mj_T.ret rfl rfl rfl ⟨_, (mK_p kp).1, rfl⟩
theorem mZ_77_loop (m : jM g n V X h) (dg : DG X) {s : Int} (hs : -2147483648 ≤ s ∧ s ≤ 2147483647) : ∀ (k i : Nat), 14 = i + k → ∀ (c e : Int) (l5 : Option Value), (-2147483648 ≤ c ∧ c ≤ 2147483647) → (-2147483648 ≤ e ∧ e ≤ 2147483647) → mj_T (D + 2) mj_m77 7 [some (.ref 172), some (.int (jn s)), some (.int (jn c)), some (.int (jn e)), some (.int (jn (i : Int))), l5] [] h (fun r => ∃ z : Int, (-2147483648 ≤ z ∧ z ≤ 2147483647) ∧ r = (.inl (some (.int (jn z))), h))
  | 0, i, hi, c, e, l5, hc, he => by
    have hL : cL 173 = 14 := mK_r.2.2.2.1
    iterate 2 refine mj_T.pl rfl rfl rfl rfl ?_
    refine mT_get m 16 cq_d172 (by decide) rfl rfl ?_
    refine jT.anyI (fun z1 rz1 => ?_)
    refine mj_T.icmp (a := ((i : Nat) : Int)) (b := z1) rfl ⟨by omega, by omega⟩ ⟨by omega, by omega⟩ (fun c2 => ?_) (fun c2 => ?_)
    · simp only [jc, Bool.not_eq_true', Bool.not_eq_false', decide_eq_true_eq, decide_eq_false_iff_not] at c2
      refine mj_T.pl rfl rfl rfl rfl ?_
      exact mj_T.ret rfl rfl rfl ⟨_, ⟨by omega, by omega⟩, rfl⟩
    · simp only [jc, Bool.not_eq_true', Bool.not_eq_false', decide_eq_true_eq, decide_eq_false_iff_not] at c2
      iterate 2 refine mj_T.pl rfl rfl rfl rfl ?_
      refine mT_get m 16 cq_d172 (by decide) rfl rfl ?_
      refine mT_alen m 5 cq_d173 (by decide) rfl ?_
      refine mj_T.icmp (a := ((i : Nat) : Int)) (b := ((cL 173 : Nat) : Int)) rfl ⟨by omega, by omega⟩ ⟨by omega, by omega⟩ (fun c3 => ?_) (fun c3 => ?_)
      · simp only [jc, decide_eq_true_eq, decide_eq_false_iff_not, hL] at c3
        refine mj_T.pl rfl rfl rfl rfl ?_
        exact mj_T.ret rfl rfl rfl ⟨_, ⟨by omega, by omega⟩, rfl⟩
      · exfalso
        simp only [jc, decide_eq_true_eq, decide_eq_false_iff_not, hL] at c3
        omega
  | k + 1, i, hi, c, e, l5, hc, he => by
    have hL : cL 173 = 14 := mK_r.2.2.2.1
    iterate 2 refine mj_T.pl rfl rfl rfl rfl ?_
    refine mT_get m 16 cq_d172 (by decide) rfl rfl ?_
    refine jT.anyI (fun z1 rz1 => ?_)
    refine mj_T.icmp (a := ((i : Nat) : Int)) (b := z1) rfl ⟨by omega, by omega⟩ ⟨by omega, by omega⟩ (fun c2 => ?_) (fun c2 => ?_)
    · simp only [jc, Bool.not_eq_true', Bool.not_eq_false', decide_eq_true_eq, decide_eq_false_iff_not] at c2
      refine mj_T.pl rfl rfl rfl rfl ?_
      exact mj_T.ret rfl rfl rfl ⟨_, ⟨by omega, by omega⟩, rfl⟩
    · simp only [jc, Bool.not_eq_true', Bool.not_eq_false', decide_eq_true_eq, decide_eq_false_iff_not] at c2
      iterate 2 refine mj_T.pl rfl rfl rfl rfl ?_
      refine mT_get m 16 cq_d172 (by decide) rfl rfl ?_
      refine mT_alen m 5 cq_d173 (by decide) rfl ?_
      refine mj_T.icmp (a := ((i : Nat) : Int)) (b := ((cL 173 : Nat) : Int)) rfl ⟨by omega, by omega⟩ ⟨by omega, by omega⟩ (fun c3 => ?_) (fun c3 => ?_)
      · exfalso
        simp only [jc, decide_eq_true_eq, decide_eq_false_iff_not, hL] at c3
        omega
      · simp only [jc, decide_eq_true_eq, decide_eq_false_iff_not, hL] at c3
        refine mj_T.pl rfl rfl rfl rfl ?_
        refine mT_get m 16 cq_d172 (by decide) rfl rfl ?_
        refine mj_T.pl rfl rfl rfl rfl ?_
        refine mT_aald m 5 cq_d173 (by decide) rfl rfl (by omega) ⟨by omega, by omega⟩ ?_
        refine mj_T.eq (st2 := [.ref (sro i)]) ?_ rfl rfl rfl rfl
        refine mj_T.call rfl rfl (Nat.le_of_ble_eq_true rfl) (Nat.le_of_ble_eq_true rfl) (mV_of m 13 (sro_k (t := i) (by omega)).1 (by decide) rfl (by decide) rfl _) rfl (mj_Ok.up (by omega) (mZ_37 (D := 0) m (sro_k (t := i) (by omega)).1 (dg _ (sro_k (t := i) (by omega)).1))) (fun v g4 hq => ?_) (fun i g4 hq => ?_)
        rotate_left
        · obtain ⟨_, _, hq⟩ := hq; cases hq
        obtain ⟨a5, ka5, hq⟩ := hq
        cases hq
        refine mj_T.eq (pc2 := 36) (st2 := [.ref a5]) ?_ rfl rfl rfl rfl
        refine mZ_sg m ka5 rfl (fun z6 rz6 => ?_)
        refine mj_T.pl rfl rfl rfl rfl ?_
        refine mT_get m 16 cq_d172 (by decide) rfl rfl ?_
        refine mj_T.pl rfl rfl rfl rfl ?_
        refine mT_aald m 5 cq_d173 (by decide) rfl rfl (by omega) ⟨by omega, by omega⟩ ?_
        refine mj_T.eq (st2 := [.ref (sro i), .int (jn z6)]) ?_ rfl rfl rfl rfl
        refine mT_get m 13 (sro_k (t := i) (by omega)).1 (by decide) rfl rfl ?_
        refine jT.anyI (fun z7 rz7 => ?_)
        refine mj_T.pl rfl rfl rfl rfl ?_
        refine jT.irem rfl ⟨by decide, by decide⟩ (by omega) (fun z8 jz8 => ?_)
        refine mj_T.if0 (a := z8) rfl ⟨by omega, by omega⟩ (fun c9 => ?_) (fun c9 => ?_)
        · simp only [jc, Bool.not_eq_true', Bool.not_eq_false', decide_eq_true_eq, decide_eq_false_iff_not] at c9
          refine mj_T.pl rfl rfl rfl rfl ?_
          refine mj_T.imul (a := z6) (b := 1) rfl ?_
          refine jT.anyI (fun z10 rz10 => ?_)
          refine mj_T.pl (loc' := [some (.ref 172), some (.int (jn s)), some (.int (jn c)), some (.int (jn e)), some (.int (jn ((i : Nat) : Int))), some (.int (jn z10))]) rfl rfl rfl rfl ?_
          iterate 3 refine mj_T.pl rfl rfl rfl rfl ?_
          refine mj_T.imul (a := z10) (b := e) rfl ?_
          refine jT.anyI (fun z11 rz11 => ?_)
          refine mj_T.if0 (a := z11) rfl ⟨by omega, by omega⟩ (fun c12 => ?_) (fun c12 => ?_)
          · simp only [jc, Bool.not_eq_true', Bool.not_eq_false', decide_eq_true_eq, decide_eq_false_iff_not] at c12
            refine mj_T.pl rfl rfl rfl rfl ?_
            refine mj_T.iadd (a := c) (b := 0) rfl ?_
            refine jT.anyI (fun z13 rz13 => ?_)
            refine mj_T.pl (loc' := [some (.ref 172), some (.int (jn s)), some (.int (jn z13)), some (.int (jn e)), some (.int (jn ((i : Nat) : Int))), some (.int (jn z10))]) rfl rfl rfl rfl ?_
            refine mj_T.pl rfl rfl rfl rfl ?_
            refine mj_T.pl (loc' := [some (.ref 172), some (.int (jn s)), some (.int (jn z13)), some (.int (jn z10)), some (.int (jn ((i : Nat) : Int))), some (.int (jn z10))]) rfl rfl rfl rfl ?_
            refine mj_T.iinc rfl rfl ?_
            rw [show ((i : Nat) : Int) + 1 = ((i + 1 : Nat) : Int) by omega]
            refine mj_T.eq (loc2 := [some (.ref 172), some (.int (jn s)), some (.int (jn z13)), some (.int (jn z10)), some (.int (jn (((i + 1) : Nat) : Int))), some (.int (jn z10))]) ?_ rfl rfl rfl rfl
            refine mj_T.pl rfl rfl rfl rfl ?_
            exact mZ_77_loop m dg hs k (i + 1) (by omega) _ _ _ ⟨by omega, by omega⟩ ⟨by omega, by omega⟩
          · simp only [jc, Bool.not_eq_true', Bool.not_eq_false', decide_eq_true_eq, decide_eq_false_iff_not] at c12
            iterate 2 refine mj_T.pl rfl rfl rfl rfl ?_
            refine mj_T.iadd (a := c) (b := 1) rfl ?_
            refine jT.anyI (fun z14 rz14 => ?_)
            refine mj_T.pl (loc' := [some (.ref 172), some (.int (jn s)), some (.int (jn z14)), some (.int (jn e)), some (.int (jn ((i : Nat) : Int))), some (.int (jn z10))]) rfl rfl rfl rfl ?_
            refine mj_T.pl rfl rfl rfl rfl ?_
            refine mj_T.pl (loc' := [some (.ref 172), some (.int (jn s)), some (.int (jn z14)), some (.int (jn z10)), some (.int (jn ((i : Nat) : Int))), some (.int (jn z10))]) rfl rfl rfl rfl ?_
            refine mj_T.iinc rfl rfl ?_
            rw [show ((i : Nat) : Int) + 1 = ((i + 1 : Nat) : Int) by omega]
            refine mj_T.eq (loc2 := [some (.ref 172), some (.int (jn s)), some (.int (jn z14)), some (.int (jn z10)), some (.int (jn (((i + 1) : Nat) : Int))), some (.int (jn z10))]) ?_ rfl rfl rfl rfl
            refine mj_T.pl rfl rfl rfl rfl ?_
            exact mZ_77_loop m dg hs k (i + 1) (by omega) _ _ _ ⟨by omega, by omega⟩ ⟨by omega, by omega⟩
        · simp only [jc, Bool.not_eq_true', Bool.not_eq_false', decide_eq_true_eq, decide_eq_false_iff_not] at c9
          iterate 2 refine mj_T.pl rfl rfl rfl rfl ?_
          refine mj_T.imul (a := z6) (b := s) rfl ?_
          refine jT.anyI (fun z15 rz15 => ?_)
          refine mj_T.pl (loc' := [some (.ref 172), some (.int (jn s)), some (.int (jn c)), some (.int (jn e)), some (.int (jn ((i : Nat) : Int))), some (.int (jn z15))]) rfl rfl rfl rfl ?_
          iterate 3 refine mj_T.pl rfl rfl rfl rfl ?_
          refine mj_T.imul (a := z15) (b := e) rfl ?_
          refine jT.anyI (fun z16 rz16 => ?_)
          refine mj_T.if0 (a := z16) rfl ⟨by omega, by omega⟩ (fun c17 => ?_) (fun c17 => ?_)
          · simp only [jc, Bool.not_eq_true', Bool.not_eq_false', decide_eq_true_eq, decide_eq_false_iff_not] at c17
            refine mj_T.pl rfl rfl rfl rfl ?_
            refine mj_T.iadd (a := c) (b := 0) rfl ?_
            refine jT.anyI (fun z18 rz18 => ?_)
            refine mj_T.pl (loc' := [some (.ref 172), some (.int (jn s)), some (.int (jn z18)), some (.int (jn e)), some (.int (jn ((i : Nat) : Int))), some (.int (jn z15))]) rfl rfl rfl rfl ?_
            refine mj_T.pl rfl rfl rfl rfl ?_
            refine mj_T.pl (loc' := [some (.ref 172), some (.int (jn s)), some (.int (jn z18)), some (.int (jn z15)), some (.int (jn ((i : Nat) : Int))), some (.int (jn z15))]) rfl rfl rfl rfl ?_
            refine mj_T.iinc rfl rfl ?_
            rw [show ((i : Nat) : Int) + 1 = ((i + 1 : Nat) : Int) by omega]
            refine mj_T.eq (loc2 := [some (.ref 172), some (.int (jn s)), some (.int (jn z18)), some (.int (jn z15)), some (.int (jn (((i + 1) : Nat) : Int))), some (.int (jn z15))]) ?_ rfl rfl rfl rfl
            refine mj_T.pl rfl rfl rfl rfl ?_
            exact mZ_77_loop m dg hs k (i + 1) (by omega) _ _ _ ⟨by omega, by omega⟩ ⟨by omega, by omega⟩
          · simp only [jc, Bool.not_eq_true', Bool.not_eq_false', decide_eq_true_eq, decide_eq_false_iff_not] at c17
            iterate 2 refine mj_T.pl rfl rfl rfl rfl ?_
            refine mj_T.iadd (a := c) (b := 1) rfl ?_
            refine jT.anyI (fun z19 rz19 => ?_)
            refine mj_T.pl (loc' := [some (.ref 172), some (.int (jn s)), some (.int (jn z19)), some (.int (jn e)), some (.int (jn ((i : Nat) : Int))), some (.int (jn z15))]) rfl rfl rfl rfl ?_
            refine mj_T.pl rfl rfl rfl rfl ?_
            refine mj_T.pl (loc' := [some (.ref 172), some (.int (jn s)), some (.int (jn z19)), some (.int (jn z15)), some (.int (jn ((i : Nat) : Int))), some (.int (jn z15))]) rfl rfl rfl rfl ?_
            refine mj_T.iinc rfl rfl ?_
            rw [show ((i : Nat) : Int) + 1 = ((i + 1 : Nat) : Int) by omega]
            refine mj_T.eq (loc2 := [some (.ref 172), some (.int (jn s)), some (.int (jn z19)), some (.int (jn z15)), some (.int (jn (((i + 1) : Nat) : Int))), some (.int (jn z15))]) ?_ rfl rfl rfl rfl
            refine mj_T.pl rfl rfl rfl rfl ?_
            exact mZ_77_loop m dg hs k (i + 1) (by omega) _ _ _ ⟨by omega, by omega⟩ ⟨by omega, by omega⟩
theorem mZ_77 (m : jM g n V X h) (dg : DG X) {s : Int} (hs : -2147483648 ≤ s ∧ s ≤ 2147483647) : mj_Ok (D + 3) 77 [.ref 172, .int (jn s)] h (fun r => ∃ z : Int, (-2147483648 ≤ z ∧ z ≤ 2147483647) ∧ r = (.inl (some (.int (jn z))), h)) := by
  refine mj_Ok.of (M := mj_m77) rfl rfl rfl ?_
  refine mj_T.pl rfl rfl rfl rfl ?_
  refine mj_T.pl (loc' := [some (.ref 172), some (.int (jn s)), some (.int (jn 0)), none, none, none]) rfl rfl rfl rfl ?_
  refine mj_T.pl rfl rfl rfl rfl ?_
  refine mj_T.pl (loc' := [some (.ref 172), some (.int (jn s)), some (.int (jn 0)), some (.int (jn 0)), none, none]) rfl rfl rfl rfl ?_
  refine mj_T.pl rfl rfl rfl rfl ?_
  refine mj_T.pl (loc' := [some (.ref 172), some (.int (jn s)), some (.int (jn 0)), some (.int (jn 0)), some (.int (jn 0)), none]) rfl rfl rfl rfl ?_
  exact mZ_77_loop m dg hs 14 0 (by omega) _ _ _ ⟨by decide, by decide⟩ ⟨by decide, by decide⟩
end MLT
/-! The class loosely: roots. -/
section MLU
variable {g h : mj_H} {n D pc nm f r4 r5 : Nat} {V : Nat → Int} {X : Nat → Nat → Int} {M : mj_M} {loc : mj_L} {st : List Value} {Q : mj_R → Prop}
theorem jM.setOL (m : jM g n V X h) {a i k : Nat} {v : Int} (ka : cK a = k) (hk : 7 < k ∧ k ≠ 18 ∧ k ≠ 12) (he : jMf (xup X a i v) k a = (jMf X k a).set i (.long (jl v))) : jM g n V (xup X a i v) (h.set a (.inr (jkc k, (jMf X k a).set i (.long (jl v))))) := by
  have hl := (List.getElem?_eq_some_iff.mp (m.O k ka hk)).1
  refine m.up (fun x => x = a) (by rw [List.length_set]) (fun x hx => by subst hx; omega) (fun p hp => List.getElem?_set_ne (fun e => hp e.symm)) (fun _ _ => rfl) (fun x hx => funext fun j => xup_ne _ _ (Or.inl hx)) (fun x hx => ?_) (fun x hx => ?_)
  · have := mK_w hx
    constructor
    · intro e
      subst e
      omega
    · intro e
      rw [e] at this
      omega
  · subst hx
    unfold jMk
    rw [ka, if_neg (by omega), if_neg (by omega), if_neg (by omega), if_neg (by omega), if_neg (by omega), if_neg (by omega), if_neg (by omega), he, List.getElem?_set_self hl]
theorem mT_putL (m : jM g n V X h) {a : Nat} (k : Nat) {v : Int} (ka : cK a = k) (hk : 7 < k ∧ k ≠ 18 ∧ k ≠ 12) {r3 : Nat} (hc : M.2.2.2.2.1 pc = some (.putfield nm, jkc k, f, r3, r4, r5)) (he : jMf (xup X a f v) k a = (jMf X k a).set f (.long (jl v))) (hl : f < (jMf X k a).length) (hv : mj_fit r3 (.long (jl v)) = true) (q : ∀ h', jM g n V (xup X a f v) h' → mj_T D M (pc + 3) loc st h' Q) : mj_T D M pc loc (.long (jl v) :: .ref a :: st) h Q := mj_T.pfl hc (m.O k ka hk) hl hv (q _ (m.setOL ka hk he))
theorem mZ_37' (m : jM g n V X h) {p : Nat} (kp : cK p = 13) (dg : -1 ≤ X p 2 ∧ X p 2 < cL (p + 3)) : mj_Ok (D + 2) 37 [.ref p] h (fun r => ∃ a, (frW a ∨ a = p + 1) ∧ r = (.inl (some (.ref a)), h)) := by
  have hb := (mK_p kp).2.2.1
  by_cases c : 0 ≤ X p 2
  · exact (mP_lead (D := D) m kp (e := (X p 2).toNat) (by omega) (by omega)).to fun r hr => ⟨_, Or.inl (fr_part kp (by omega)), hr⟩
  · refine mj_Ok.of (M := mj_m37) rfl rfl rfl ?_
    iterate 2 refine mj_T.pl rfl rfl rfl rfl ?_
    refine mT_get m 13 kp (by decide) rfl rfl ?_
    refine mj_T.call rfl rfl (Nat.le_of_ble_eq_true rfl) (Nat.le_of_ble_eq_true rfl) (mV_of m 13 kp (by decide) rfl (by decide) rfl _) rfl (mj_Ok.up (by omega) (mP_atB (D := 0) m kp (e := X p 2) ⟨by omega, by omega⟩ (Or.inl (by omega)))) (fun v g1 hq => ?_) (fun i g1 hq => ?_)
    rotate_left
    · cases hq
    cases hq
    refine mj_T.eq (pc2 := 8) (st2 := [.ref (p + 1)]) ?_ rfl rfl rfl rfl
    exact mj_T.ret rfl rfl rfl ⟨_, Or.inr rfl, rfl⟩
theorem mF_87x (M : jM g n V X h) (b : by0 V) {c a p : Nat} (fc : frW c) (kp : cK p = 13) (fa : frW a ∨ a = p + 1) : mj_Ok (D + 1) 87 [.ref c, .ref a] h (fun r => ∃ V2 h2, jM g n V2 X h2 ∧ by0 V2 ∧ r = (.inl none, h2)) := by
  rcases fa with fa | e
  · exact mF_87 M b fc fa
  · subst e
    exact (mW_set M fc.1 (mK_p kp).1 (fun e => fc.2 (e ▸ by0_m kp)) (by rw [b.p kp]; exact Nat.le_trans (Nat.le_of_eq jnl_zero) (Nat.zero_le _))).to fun r hr => by
      obtain ⟨h2, m2, e⟩ := hr
      exact ⟨_, h2, m2, b.jvu fc.2, e⟩
theorem mZ_63_t {V1 : Nat → Int} {X1 : Nat → Nat → Int} {h1 : mj_H} (m : jM g n V1 X1 h1) (b : by0 V1) (fx : FX X X1) (dg : DG X1) : mj_T (D + 6) mj_m63 21 [some (.ref 444)] [] h1 (fun z => ∃ (V2 : Nat → Int) (X2 : Nat → Nat → Int) (c : Int) (h2 : mj_H), jM g n V2 X2 h2 ∧ by0 V2 ∧ FX X X2 ∧ DG X2 ∧ (-2147483648 ≤ c ∧ c ≤ 2147483647) ∧ z = (.inl (some (.int (jn c))), h2)) := by
  iterate 2 refine mj_T.pl rfl rfl rfl rfl ?_
  refine mT_get m 15 cq_d444 (by decide) rfl rfl ?_
  refine mj_T.pl rfl rfl rfl rfl ?_
  refine mj_T.call rfl rfl (Nat.le_of_ble_eq_true rfl) (Nat.le_of_ble_eq_true rfl) (mV_of m 16 cq_d172 (by decide) rfl (by decide) rfl _) rfl (mj_Ok.up (by omega) (mZ_77 (D := 0) m dg (by omega))) (fun v g1 hq => ?_) (fun i g1 hq => ?_)
  rotate_left
  · obtain ⟨_, _, hq⟩ := hq; cases hq
  obtain ⟨z2, rz2, hq⟩ := hq
  cases hq
  refine mj_T.eq (pc2 := 30) (st2 := [.int (jn z2), .ref 444]) ?_ rfl rfl rfl rfl
  refine mT_put (v := z2) m 15 cq_d444 (by decide) rfl (by simp [jMf, xup]) (by simp [jMf]) rfl (fun h3 m4 => ?_)
  iterate 2 refine mj_T.pl rfl rfl rfl rfl ?_
  refine mT_get m4 15 cq_d444 (by decide) rfl rfl ?_
  refine jT.anyI (fun z5 rz5 => ?_)
  refine mj_T.pl rfl rfl rfl rfl ?_
  refine mT_get m4 15 cq_d444 (by decide) rfl rfl ?_
  refine mj_T.pl rfl rfl rfl rfl ?_
  refine mj_T.call rfl rfl (Nat.le_of_ble_eq_true rfl) (Nat.le_of_ble_eq_true rfl) (mV_of m4 16 cq_d172 (by decide) rfl (by decide) rfl _) rfl (mj_Ok.up (by omega) (mZ_77 (D := 0) m4 (dg.oth (by decide +kernel)) (by omega))) (fun v g6 hq => ?_) (fun i g6 hq => ?_)
  rotate_left
  · obtain ⟨_, _, hq⟩ := hq; cases hq
  obtain ⟨z7, rz7, hq⟩ := hq
  cases hq
  refine mj_T.eq (pc2 := 46) (st2 := [.int (jn z7), .int (jn z5), .ref 444]) ?_ rfl rfl rfl rfl
  refine mj_T.isub (a := z5) (b := z7) rfl ?_
  refine jT.anyI (fun z8 rz8 => ?_)
  refine mT_put (v := z8) m4 15 cq_d444 (by decide) rfl (by simp [jMf, xup]) (by simp [jMf]) rfl (fun h9 m10 => ?_)
  refine mj_T.pl rfl rfl rfl rfl ?_
  refine mT_get m10 15 cq_d444 (by decide) rfl rfl ?_
  refine jT.anyI (fun z11 rz11 => ?_)
  exact mj_T.ret rfl rfl rfl ⟨V1, _, _, _, m10, b, ((fx.tr (FX.up (Or.inr (Or.inl cq_d444)))).tr (FX.up (Or.inr (Or.inl cq_d444)))), ((dg.oth (by decide +kernel)).oth (by decide +kernel)), ⟨by omega, by omega⟩, rfl⟩
theorem mZ_63 (m : jM g n V X h) (b : by0 V) (dg : DG X) : mj_Ok (D + 7) 63 [.ref 444] h (fun z => ∃ (V2 : Nat → Int) (X2 : Nat → Nat → Int) (c : Int) (h2 : mj_H), jM g n V2 X2 h2 ∧ by0 V2 ∧ FX X X2 ∧ DG X2 ∧ (-2147483648 ≤ c ∧ c ≤ 2147483647) ∧ z = (.inl (some (.int (jn c))), h2)) := by
  refine mj_Ok.of (M := mj_m63) rfl rfl rfl ?_
  refine mj_T.pl rfl rfl rfl rfl ?_
  refine mT_get m 15 cq_d444 (by decide) rfl rfl ?_
  refine jT.anyI (fun z1 rz1 => ?_)
  refine mj_T.if0 (a := z1) rfl ⟨by omega, by omega⟩ (fun c2 => ?_) (fun c2 => ?_)
  · simp only [jc, Bool.not_eq_true', Bool.not_eq_false', decide_eq_true_eq, decide_eq_false_iff_not] at c2
    exact mZ_63_t m b (FX.rf X) dg
  · simp only [jc, Bool.not_eq_true', Bool.not_eq_false', decide_eq_true_eq, decide_eq_false_iff_not] at c2
    refine mj_T.pl rfl rfl rfl rfl ?_
    refine mT_get m 15 cq_d444 (by decide) rfl rfl ?_
    have p180 : cL (180 + 3) = 13 := (mK_r.2.2.2.2.2.1 0 (by decide)).2
    have e180 := dg 180 cq_d180
    refine mj_T.call rfl rfl (Nat.le_of_ble_eq_true rfl) (Nat.le_of_ble_eq_true rfl) (mV_of m 16 cq_d172 (by decide) rfl (by decide) rfl _) rfl (mj_Ok.up (by omega) (mZ_69 (D := 0) m b rfl (by omega))) (fun v g3 hq => ?_) (fun i g3 hq => ?_)
    rotate_left
    · obtain ⟨_, _, _, _, _, _, hq⟩ := hq; cases hq
    obtain ⟨V5, d2, _, m4, b6, hd2, hq⟩ := hq
    cases hq
    refine mj_T.eq (pc2 := 14) (st2 := []) ?_ rfl rfl rfl rfl
    refine mj_T.pl rfl rfl rfl rfl ?_
    refine mT_get m4 15 cq_d444 (by decide) rfl rfl ?_
    refine mj_T.call rfl rfl (Nat.le_of_ble_eq_true rfl) (Nat.le_of_ble_eq_true rfl) (mV_of m4 16 cq_d172 (by decide) rfl (by decide) rfl _) rfl (mj_Ok.up (by omega) (mZ_70 (D := 0) m4 b6 (dg.deg hd2))) (fun v g7 hq => ?_) (fun i g7 hq => ?_)
    rotate_left
    · obtain ⟨_, _, _, _, _, _, _, hq⟩ := hq; cases hq
    obtain ⟨V8, X11, _, m9, b10, f12, dg13, hq⟩ := hq
    cases hq
    refine mj_T.eq (pc2 := 21) (st2 := []) ?_ rfl rfl rfl rfl
    exact mZ_63_t m9 b10 (((FX.rf X).tr (FX.up (Or.inl cq_d210))).tr f12) dg13
theorem mZ_64_b {y : Int} (hy : jR y) : ∀ (k i : Nat), 200 = i + k → ∀ (V1 : Nat → Int) (X1 : Nat → Nat → Int) (h1 : mj_H), jM g n V1 X1 h1 → by0 V1 → FX X X1 → DG X1 → mj_T (D + 4) mj_m64 97 [some (.ref 444), some (.long (jl y)), none, some (.ref 180), some (.int (jn (i : Int)))] [] h1 (fun z => ∃ (V2 : Nat → Int) (X2 : Nat → Nat → Int) (h2 : mj_H), jM g n V2 X2 h2 ∧ by0 V2 ∧ FX X X2 ∧ DG X2 ∧ z = (.inl none, h2))
  | 0, i, hi, V1, X1, h1, m, b, fx, dg => by
    iterate 2 refine mj_T.pl rfl rfl rfl rfl ?_
    refine mj_T.icmp (a := ((i : Nat) : Int)) (b := 200) rfl ⟨by omega, by omega⟩ ⟨by omega, by omega⟩ (fun c1 => ?_) (fun c1 => ?_)
    · simp only [jc, Bool.not_eq_true', Bool.not_eq_false', decide_eq_true_eq, decide_eq_false_iff_not] at c1
      refine mj_T.pl rfl rfl rfl rfl ?_
      refine mT_get m 15 cq_d444 (by decide) rfl rfl ?_
      refine mj_T.pl rfl rfl rfl rfl ?_
      refine mj_T.call rfl rfl (Nat.le_of_ble_eq_true rfl) (Nat.le_of_ble_eq_true rfl) (mV_of m 16 cq_d172 (by decide) rfl (by decide) rfl _) rfl (mj_Ok.up (by omega) (mZ_74 (D := 0) m b dg hy)) (fun v g2 hq => ?_) (fun i g2 hq => ?_)
      rotate_left
      · obtain ⟨_, _, _, _, hq⟩ := hq; cases hq
      obtain ⟨V3, _, m4, b5, hq⟩ := hq
      cases hq
      refine mj_T.eq (pc2 := 179) (st2 := []) ?_ rfl rfl rfl rfl
      exact mj_T.ret rfl rfl rfl ⟨V3, _, _, m4, b5, fx, dg, rfl⟩
    · exfalso
      simp only [jc, Bool.not_eq_true', Bool.not_eq_false', decide_eq_true_eq, decide_eq_false_iff_not] at c1
      omega
  | k + 1, i, hi, V1, X1, h1, m, b, fx, dg => by
    iterate 2 refine mj_T.pl rfl rfl rfl rfl ?_
    refine mj_T.icmp (a := ((i : Nat) : Int)) (b := 200) rfl ⟨by omega, by omega⟩ ⟨by omega, by omega⟩ (fun c1 => ?_) (fun c1 => ?_)
    · simp only [jc, Bool.not_eq_true', Bool.not_eq_false', decide_eq_true_eq, decide_eq_false_iff_not] at c1
      refine mj_T.pl rfl rfl rfl rfl ?_
      refine mT_get m 15 cq_d444 (by decide) rfl rfl ?_
      refine mj_T.pl rfl rfl rfl rfl ?_
      refine mj_T.call rfl rfl (Nat.le_of_ble_eq_true rfl) (Nat.le_of_ble_eq_true rfl) (mV_of m 16 cq_d172 (by decide) rfl (by decide) rfl _) rfl (mj_Ok.up (by omega) (mZ_74 (D := 0) m b dg hy)) (fun v g2 hq => ?_) (fun i g2 hq => ?_)
      rotate_left
      · obtain ⟨_, _, _, _, hq⟩ := hq; cases hq
      obtain ⟨V3, _, m4, b5, hq⟩ := hq
      cases hq
      refine mj_T.eq (pc2 := 179) (st2 := []) ?_ rfl rfl rfl rfl
      exact mj_T.ret rfl rfl rfl ⟨V3, _, _, m4, b5, fx, dg, rfl⟩
    · simp only [jc, Bool.not_eq_true', Bool.not_eq_false', decide_eq_true_eq, decide_eq_false_iff_not] at c1
      refine mj_T.pl rfl rfl rfl rfl ?_
      refine mT_get m 15 cq_d444 (by decide) rfl rfl ?_
      refine mj_T.pl rfl rfl rfl rfl ?_
      refine mT_get m 15 cq_d444 (by decide) rfl rfl ?_
      refine mj_T.call rfl rfl (Nat.le_of_ble_eq_true rfl) (Nat.le_of_ble_eq_true rfl) (mV_of m 18 cq_d445 (by decide) rfl (by decide) rfl _) rfl (mj_Ok.up (by omega) (mF_87 (D := 0) m b fr_d445 fr_d451)) (fun v g6 hq => ?_) (fun i g6 hq => ?_)
      rotate_left
      · obtain ⟨_, _, _, _, hq⟩ := hq; cases hq
      obtain ⟨V7, _, m8, b9, hq⟩ := hq
      cases hq
      refine mj_T.eq (pc2 := 116) (st2 := []) ?_ rfl rfl rfl rfl
      refine mj_T.pl rfl rfl rfl rfl ?_
      refine mT_get m8 15 cq_d444 (by decide) rfl rfl ?_
      refine mj_T.pl rfl rfl rfl rfl ?_
      refine mT_get m8 15 cq_d444 (by decide) rfl rfl ?_
      refine mj_T.pl rfl rfl rfl rfl ?_
      refine mj_T.call rfl rfl (Nat.le_of_ble_eq_true rfl) (Nat.le_of_ble_eq_true rfl) (mV_of m8 18 cq_d445 (by decide) rfl (by decide) rfl _) rfl (mj_Ok.up (by omega) (mF_91 (D := 0) m8 b9 fr_d445 fr_d449 (by omega))) (fun v g10 hq => ?_) (fun i g10 hq => ?_)
      rotate_left
      · obtain ⟨_, _, _, _, hq⟩ := hq; cases hq
      obtain ⟨V11, _, m12, b13, hq⟩ := hq
      cases hq
      refine mj_T.eq (pc2 := 128) (st2 := []) ?_ rfl rfl rfl rfl
      refine mj_T.pl rfl rfl rfl rfl ?_
      refine mT_get m12 15 cq_d444 (by decide) rfl rfl ?_
      refine mZ_sg m12 cq_d445 rfl (fun z14 rz14 => ?_)
      refine mj_T.if0 (a := z14) rfl ⟨by omega, by omega⟩ (fun c15 => ?_) (fun c15 => ?_)
      · simp only [jc, Bool.not_eq_true', Bool.not_eq_false', decide_eq_true_eq, decide_eq_false_iff_not] at c15
        refine mj_T.pl rfl rfl rfl rfl ?_
        refine mT_get m12 15 cq_d444 (by decide) rfl rfl ?_
        refine mj_T.pl rfl rfl rfl rfl ?_
        refine mT_get m12 15 cq_d444 (by decide) rfl rfl ?_
        refine mj_T.pl rfl rfl rfl rfl ?_
        refine mj_T.call rfl rfl (Nat.le_of_ble_eq_true rfl) (Nat.le_of_ble_eq_true rfl) (mV_of m12 18 cq_d449 (by decide) rfl (by decide) rfl _) rfl (mj_Ok.up (by omega) (mF_91 (D := 0) m12 b13 fr_d449 fr_d449 (by omega))) (fun v g16 hq => ?_) (fun i g16 hq => ?_)
        rotate_left
        · obtain ⟨_, _, _, _, hq⟩ := hq; cases hq
        obtain ⟨V17, _, m18, b19, hq⟩ := hq
        cases hq
        refine mj_T.eq (pc2 := 153) (st2 := []) ?_ rfl rfl rfl rfl
        refine mj_T.pl rfl rfl rfl rfl ?_
        refine mT_get m18 15 cq_d444 (by decide) rfl rfl ?_
        refine mj_T.pl rfl rfl rfl rfl ?_
        refine mT_get m18 15 cq_d444 (by decide) rfl rfl ?_
        refine mj_T.pl rfl rfl rfl rfl ?_
        refine mj_T.call rfl rfl (Nat.le_of_ble_eq_true rfl) (Nat.le_of_ble_eq_true rfl) (mV_of m18 18 cq_d447 (by decide) rfl (by decide) rfl _) rfl (mj_Ok.up (by omega) (mF_91 (D := 0) m18 b19 fr_d447 fr_d447 (by omega))) (fun v g20 hq => ?_) (fun i g20 hq => ?_)
        rotate_left
        · obtain ⟨_, _, _, _, hq⟩ := hq; cases hq
        obtain ⟨V21, _, m22, b23, hq⟩ := hq
        cases hq
        refine mj_T.eq (pc2 := 165) (st2 := []) ?_ rfl rfl rfl rfl
        refine mj_T.iinc rfl rfl ?_
        rw [show ((i : Nat) : Int) + 1 = ((i + 1 : Nat) : Int) by omega]
        refine mj_T.eq (loc2 := [some (.ref 444), some (.long (jl y)), none, some (.ref 180), some (.int (jn (((i + 1) : Nat) : Int)))]) ?_ rfl rfl rfl rfl
        refine mj_T.pl rfl rfl rfl rfl ?_
        exact mZ_64_b hy k (i + 1) (by omega) _ _ _ m22 b23 fx dg
      · simp only [jc, Bool.not_eq_true', Bool.not_eq_false', decide_eq_true_eq, decide_eq_false_iff_not] at c15
        iterate 2 refine mj_T.pl rfl rfl rfl rfl ?_
        refine mT_get m12 15 cq_d444 (by decide) rfl rfl ?_
        refine mj_T.pl rfl rfl rfl rfl ?_
        refine mj_T.call rfl rfl (Nat.le_of_ble_eq_true rfl) (Nat.le_of_ble_eq_true rfl) (mV_of m12 16 cq_d172 (by decide) rfl (by decide) rfl _) rfl (mj_Ok.up (by omega) (mZ_74 (D := 0) m12 b13 dg hy)) (fun v g24 hq => ?_) (fun i g24 hq => ?_)
        rotate_left
        · obtain ⟨_, _, _, _, hq⟩ := hq; cases hq
        obtain ⟨V25, _, m26, b27, hq⟩ := hq
        cases hq
        refine mj_T.eq (pc2 := 179) (st2 := []) ?_ rfl rfl rfl rfl
        exact mj_T.ret rfl rfl rfl ⟨V25, _, _, m26, b27, fx, dg, rfl⟩
theorem mZ_64_a {y : Int} (hy : jR y) : ∀ (k i : Nat), 14 = i + k → ∀ (V1 : Nat → Int) (X1 : Nat → Nat → Int) (h1 : mj_H), jM g n V1 X1 h1 → by0 V1 → FX X X1 → DG X1 → mj_T (D + 4) mj_m64 26 [some (.ref 444), some (.long (jl y)), none, some (.ref 180), some (.int (jn (i : Int)))] [] h1 (fun z => ∃ (V2 : Nat → Int) (X2 : Nat → Nat → Int) (h2 : mj_H), jM g n V2 X2 h2 ∧ by0 V2 ∧ FX X X2 ∧ DG X2 ∧ z = (.inl none, h2))
  | 0, i, hi, V1, X1, h1, m, b, fx, dg => by
    have p180 : cL (180 + 3) = 13 := (mK_r.2.2.2.2.2.1 0 (by decide)).2
    have e180 := dg 180 cq_d180
    iterate 2 refine mj_T.pl rfl rfl rfl rfl ?_
    refine mT_get m 13 cq_d180 (by decide) rfl rfl ?_
    refine mj_T.icmp (a := ((i : Nat) : Int)) (b := (X1 180 2)) rfl ⟨by omega, by omega⟩ ⟨by omega, by omega⟩ (fun c1 => ?_) (fun c1 => ?_)
    · simp only [jc, Bool.not_eq_true', Bool.not_eq_false', decide_eq_true_eq, decide_eq_false_iff_not] at c1
      refine mj_T.pl rfl rfl rfl rfl ?_
      refine mT_get m 15 cq_d444 (by decide) rfl rfl ?_
      refine mj_T.pl rfl rfl rfl rfl ?_
      refine mT_get m 15 cq_d444 (by decide) rfl rfl ?_
      refine mj_T.pl rfl rfl rfl rfl ?_
      refine mj_T.call rfl rfl (Nat.le_of_ble_eq_true rfl) (Nat.le_of_ble_eq_true rfl) (mV_of m 11 cq_d19 (by decide) rfl (by decide) rfl _) rfl (mj_Ok.up (by omega) (mZ_24 (D := 0) m b fr_d451 hy)) (fun v g22 hq => ?_) (fun i g22 hq => ?_)
      rotate_left
      · obtain ⟨_, _, _, _, hq⟩ := hq; cases hq
      obtain ⟨V23, _, m24, b25, hq⟩ := hq
      cases hq
      refine mj_T.eq (pc2 := 75) (st2 := []) ?_ rfl rfl rfl rfl
      refine mj_T.pl rfl rfl rfl rfl ?_
      refine mT_get m24 15 cq_d444 (by decide) rfl rfl ?_
      refine jT.lc 1 rfl rfl ?_
      refine mj_T.call rfl rfl (Nat.le_of_ble_eq_true rfl) (Nat.le_of_ble_eq_true rfl) (mV_of m24 18 cq_d447 (by decide) rfl (by decide) rfl _) rfl (mj_Ok.up (by omega) (mF_86 (D := 0) m24 b25 fr_d447 ⟨by decide, by decide⟩)) (fun v g26 hq => ?_) (fun i g26 hq => ?_)
      rotate_left
      · obtain ⟨_, _, _, _, hq⟩ := hq; cases hq
      obtain ⟨V27, _, m28, b29, hq⟩ := hq
      cases hq
      refine mj_T.eq (pc2 := 83) (st2 := []) ?_ rfl rfl rfl rfl
      refine mj_T.pl rfl rfl rfl rfl ?_
      refine mT_get m28 15 cq_d444 (by decide) rfl rfl ?_
      refine mj_T.pl rfl rfl rfl rfl ?_
      refine mj_T.call rfl rfl (Nat.le_of_ble_eq_true rfl) (Nat.le_of_ble_eq_true rfl) (mV_of m28 13 cq_d180 (by decide) rfl (by decide) rfl _) rfl (mj_Ok.up (by omega) (mZ_37' (D := 0) m28 cq_d180 (dg _ cq_d180))) (fun v g30 hq => ?_) (fun i g30 hq => ?_)
      rotate_left
      · obtain ⟨_, _, hq⟩ := hq; cases hq
      obtain ⟨a31, ka31, hq⟩ := hq
      cases hq
      have ca31 : cK a31 = 18 := ka31.elim (fun q => q.1) (fun q => by rw [q]; exact (mK_p cq_d180).1)
      refine mj_T.eq (pc2 := 91) (st2 := [.ref a31, .ref 449]) ?_ rfl rfl rfl rfl
      refine mj_T.call rfl rfl (Nat.le_of_ble_eq_true rfl) (Nat.le_of_ble_eq_true rfl) (mV_of m28 18 cq_d449 (by decide) rfl (by decide) rfl _) rfl (mj_Ok.up (by omega) (mF_87x (D := 0) m28 b29 fr_d449 cq_d180 ka31)) (fun v g32 hq => ?_) (fun i g32 hq => ?_)
      rotate_left
      · obtain ⟨_, _, _, _, hq⟩ := hq; cases hq
      obtain ⟨V33, _, m34, b35, hq⟩ := hq
      cases hq
      refine mj_T.eq (pc2 := 94) (st2 := []) ?_ rfl rfl rfl rfl
      refine mj_T.pl rfl rfl rfl rfl ?_
      refine mj_T.pl (loc' := [some (.ref 444), some (.long (jl y)), none, some (.ref 180), some (.int (jn 0))]) rfl rfl rfl rfl ?_
      exact mZ_64_b hy 200 0 (by omega) _ _ _ m34 b35 fx dg
    · exfalso
      simp only [jc, Bool.not_eq_true', Bool.not_eq_false', decide_eq_true_eq, decide_eq_false_iff_not] at c1
      omega
  | k + 1, i, hi, V1, X1, h1, m, b, fx, dg => by
    have p180 : cL (180 + 3) = 13 := (mK_r.2.2.2.2.2.1 0 (by decide)).2
    have e180 := dg 180 cq_d180
    iterate 2 refine mj_T.pl rfl rfl rfl rfl ?_
    refine mT_get m 13 cq_d180 (by decide) rfl rfl ?_
    refine mj_T.icmp (a := ((i : Nat) : Int)) (b := (X1 180 2)) rfl ⟨by omega, by omega⟩ ⟨by omega, by omega⟩ (fun c1 => ?_) (fun c1 => ?_)
    · simp only [jc, Bool.not_eq_true', Bool.not_eq_false', decide_eq_true_eq, decide_eq_false_iff_not] at c1
      refine mj_T.pl rfl rfl rfl rfl ?_
      refine mT_get m 15 cq_d444 (by decide) rfl rfl ?_
      refine mj_T.pl rfl rfl rfl rfl ?_
      refine mT_get m 15 cq_d444 (by decide) rfl rfl ?_
      refine mj_T.pl rfl rfl rfl rfl ?_
      refine mj_T.call rfl rfl (Nat.le_of_ble_eq_true rfl) (Nat.le_of_ble_eq_true rfl) (mV_of m 11 cq_d19 (by decide) rfl (by decide) rfl _) rfl (mj_Ok.up (by omega) (mZ_24 (D := 0) m b fr_d451 hy)) (fun v g22 hq => ?_) (fun i g22 hq => ?_)
      rotate_left
      · obtain ⟨_, _, _, _, hq⟩ := hq; cases hq
      obtain ⟨V23, _, m24, b25, hq⟩ := hq
      cases hq
      refine mj_T.eq (pc2 := 75) (st2 := []) ?_ rfl rfl rfl rfl
      refine mj_T.pl rfl rfl rfl rfl ?_
      refine mT_get m24 15 cq_d444 (by decide) rfl rfl ?_
      refine jT.lc 1 rfl rfl ?_
      refine mj_T.call rfl rfl (Nat.le_of_ble_eq_true rfl) (Nat.le_of_ble_eq_true rfl) (mV_of m24 18 cq_d447 (by decide) rfl (by decide) rfl _) rfl (mj_Ok.up (by omega) (mF_86 (D := 0) m24 b25 fr_d447 ⟨by decide, by decide⟩)) (fun v g26 hq => ?_) (fun i g26 hq => ?_)
      rotate_left
      · obtain ⟨_, _, _, _, hq⟩ := hq; cases hq
      obtain ⟨V27, _, m28, b29, hq⟩ := hq
      cases hq
      refine mj_T.eq (pc2 := 83) (st2 := []) ?_ rfl rfl rfl rfl
      refine mj_T.pl rfl rfl rfl rfl ?_
      refine mT_get m28 15 cq_d444 (by decide) rfl rfl ?_
      refine mj_T.pl rfl rfl rfl rfl ?_
      refine mj_T.call rfl rfl (Nat.le_of_ble_eq_true rfl) (Nat.le_of_ble_eq_true rfl) (mV_of m28 13 cq_d180 (by decide) rfl (by decide) rfl _) rfl (mj_Ok.up (by omega) (mZ_37' (D := 0) m28 cq_d180 (dg _ cq_d180))) (fun v g30 hq => ?_) (fun i g30 hq => ?_)
      rotate_left
      · obtain ⟨_, _, hq⟩ := hq; cases hq
      obtain ⟨a31, ka31, hq⟩ := hq
      cases hq
      have ca31 : cK a31 = 18 := ka31.elim (fun q => q.1) (fun q => by rw [q]; exact (mK_p cq_d180).1)
      refine mj_T.eq (pc2 := 91) (st2 := [.ref a31, .ref 449]) ?_ rfl rfl rfl rfl
      refine mj_T.call rfl rfl (Nat.le_of_ble_eq_true rfl) (Nat.le_of_ble_eq_true rfl) (mV_of m28 18 cq_d449 (by decide) rfl (by decide) rfl _) rfl (mj_Ok.up (by omega) (mF_87x (D := 0) m28 b29 fr_d449 cq_d180 ka31)) (fun v g32 hq => ?_) (fun i g32 hq => ?_)
      rotate_left
      · obtain ⟨_, _, _, _, hq⟩ := hq; cases hq
      obtain ⟨V33, _, m34, b35, hq⟩ := hq
      cases hq
      refine mj_T.eq (pc2 := 94) (st2 := []) ?_ rfl rfl rfl rfl
      refine mj_T.pl rfl rfl rfl rfl ?_
      refine mj_T.pl (loc' := [some (.ref 444), some (.long (jl y)), none, some (.ref 180), some (.int (jn 0))]) rfl rfl rfl rfl ?_
      exact mZ_64_b hy 200 0 (by omega) _ _ _ m34 b35 fx dg
    · simp only [jc, Bool.not_eq_true', Bool.not_eq_false', decide_eq_true_eq, decide_eq_false_iff_not] at c1
      refine mj_T.pl rfl rfl rfl rfl ?_
      refine mT_get m 15 cq_d444 (by decide) rfl rfl ?_
      iterate 2 refine mj_T.pl rfl rfl rfl rfl ?_
      refine mj_T.call rfl rfl (Nat.le_of_ble_eq_true rfl) (Nat.le_of_ble_eq_true rfl) (mV_of m 13 cq_d180 (by decide) rfl (by decide) rfl _) rfl (mj_Ok.up (by omega) (mP_at (D := 0) m cq_d180 (e := i) (by omega))) (fun v g2 hq => ?_) (fun i g2 hq => ?_)
      rotate_left
      · cases hq
      cases hq
      refine mj_T.eq (pc2 := 45) (st2 := [.ref (180 + 4 + 2 * i), .ref 451]) ?_ rfl rfl rfl rfl
      iterate 2 refine mj_T.pl rfl rfl rfl rfl ?_
      refine mj_T.call rfl rfl (Nat.le_of_ble_eq_true rfl) (Nat.le_of_ble_eq_true rfl) (mV_of m 13 cq_d180 (by decide) rfl (by decide) rfl _) rfl (mj_Ok.up (by omega) (mP_at (D := 0) m cq_d180 (e := i) (by omega))) (fun v g3 hq => ?_) (fun i g3 hq => ?_)
      rotate_left
      · cases hq
      cases hq
      refine mj_T.eq (pc2 := 51) (st2 := [.ref (180 + 4 + 2 * i), .ref (180 + 4 + 2 * i), .ref 451]) ?_ rfl rfl rfl rfl
      refine mZ_sg m ((mK_p cq_d180).2.2.2 i (by omega)) rfl (fun z4 rz4 => ?_)
      refine mj_T.call rfl rfl (Nat.le_of_ble_eq_true rfl) (Nat.le_of_ble_eq_true rfl) (mV_of m 18 cq_d451 (by decide) rfl (by decide) rfl _) rfl (mj_Ok.up (by omega) (mF_91 (D := 0) m b fr_d451 (fr_part cq_d180 (by omega)) (by omega))) (fun v g5 hq => ?_) (fun i g5 hq => ?_)
      rotate_left
      · obtain ⟨_, _, _, _, hq⟩ := hq; cases hq
      obtain ⟨V6, _, m7, b8, hq⟩ := hq
      cases hq
      refine mj_T.eq (pc2 := 57) (st2 := []) ?_ rfl rfl rfl rfl
      refine mj_T.iinc rfl rfl ?_
      rw [show ((i : Nat) : Int) + 1 = ((i + 1 : Nat) : Int) by omega]
      refine mj_T.eq (loc2 := [some (.ref 444), some (.long (jl y)), none, some (.ref 180), some (.int (jn (((i + 1) : Nat) : Int)))]) ?_ rfl rfl rfl rfl
      refine mj_T.pl rfl rfl rfl rfl ?_
      exact mZ_64_a hy k (i + 1) (by omega) _ _ _ m7 b8 fx dg
theorem mZ_64 (m : jM g n V X h) (b : by0 V) (dg : DG X) {y : Int} (hy : jR y) : mj_Ok (D + 5) 64 [.ref 444, .long (jl y)] h (fun z => ∃ (V2 : Nat → Int) (X2 : Nat → Nat → Int) (h2 : mj_H), jM g n V2 X2 h2 ∧ by0 V2 ∧ FX X X2 ∧ DG X2 ∧ z = (.inl none, h2)) := by
  have hL : cL 173 = 14 := mK_r.2.2.2.1
  refine mj_Ok.of (M := mj_m64) rfl rfl rfl ?_
  iterate 2 refine mj_T.pl rfl rfl rfl rfl ?_
  refine mT_putL (v := y) m 15 cq_d444 (by decide) rfl (by simp [jMf, xup]) (by simp [jMf]) rfl (fun h1 m2 => ?_)
  refine mj_T.pl rfl rfl rfl rfl ?_
  refine mT_get m2 15 cq_d444 (by decide) rfl rfl ?_
  refine mT_get m2 16 cq_d172 (by decide) rfl rfl ?_
  refine mj_T.pl rfl rfl rfl rfl ?_
  refine mT_aald m2 5 cq_d173 (by decide) rfl rfl (by omega) ⟨by omega, by omega⟩ ?_
  refine mj_T.eq (st2 := [.ref 180]) ?_ rfl rfl rfl rfl
  refine mj_T.pl (loc' := [some (.ref 444), some (.long (jl y)), none, some (.ref 180), none]) rfl rfl rfl rfl ?_
  refine mj_T.pl rfl rfl rfl rfl ?_
  refine mT_get m2 15 cq_d444 (by decide) rfl rfl ?_
  refine jT.lc 0 rfl rfl ?_
  refine mj_T.call rfl rfl (Nat.le_of_ble_eq_true rfl) (Nat.le_of_ble_eq_true rfl) (mV_of m2 18 cq_d451 (by decide) rfl (by decide) rfl _) rfl (mj_Ok.up (by omega) (mF_86 (D := 0) m2 b fr_d451 ⟨by decide, by decide⟩)) (fun v g3 hq => ?_) (fun i g3 hq => ?_)
  rotate_left
  · obtain ⟨_, _, _, _, hq⟩ := hq; cases hq
  obtain ⟨V4, _, m5, b6, hq⟩ := hq
  cases hq
  refine mj_T.eq (pc2 := 23) (st2 := []) ?_ rfl rfl rfl rfl
  refine mj_T.pl rfl rfl rfl rfl ?_
  refine mj_T.pl (loc' := [some (.ref 444), some (.long (jl y)), none, some (.ref 180), some (.int (jn 0))]) rfl rfl rfl rfl ?_
  exact mZ_64_a hy 14 0 (by omega) _ _ _ m5 b6 ((FX.rf X).tr (FX.up (Or.inr (Or.inl cq_d444)))) (dg.oth (by decide +kernel))
theorem mZ_65_e {r s : Int} (hr : (-2147483648 ≤ r ∧ r ≤ 2147483647)) (hs : (-2147483648 ≤ s ∧ s ≤ 2147483647)) {a c : Int} (ha : (-2147483648 ≤ a ∧ a ≤ 2147483647)) (hc : (-2147483648 ≤ c ∧ c ≤ 2147483647)) {l6 l7 : Option Value} {V1 : Nat → Int} {X1 : Nat → Nat → Int} {h1 : mj_H} (m : jM g n V1 X1 h1) (b : by0 V1) (fx : FX X X1) (dg : DG X1) : mj_T (D + 5) mj_m65 210 [some (.ref 444), some (.int (jn r)), some (.ref 180), some (.int (jn a)), some (.int (jn c)), some (.int (jn s)), l6, l7] [] h1 (fun z => ∃ (V2 : Nat → Int) (X2 : Nat → Nat → Int) (h2 : mj_H), jM g n V2 X2 h2 ∧ by0 V2 ∧ FX X X2 ∧ DG X2 ∧ z = (.inl none, h2)) := by
  refine mj_T.pl rfl rfl rfl rfl ?_
  refine mT_get m 15 cq_d444 (by decide) rfl rfl ?_
  refine mj_T.pl rfl rfl rfl rfl ?_
  refine mT_get m 15 cq_d444 (by decide) rfl rfl ?_
  refine mj_T.call rfl rfl (Nat.le_of_ble_eq_true rfl) (Nat.le_of_ble_eq_true rfl) (mV_of m 18 cq_d451 (by decide) rfl (by decide) rfl _) rfl (mj_Ok.up (by omega) (mF_87 (D := 0) m b fr_d451 fr_d445)) (fun v g1 hq => ?_) (fun i g1 hq => ?_)
  rotate_left
  · obtain ⟨_, _, _, _, hq⟩ := hq; cases hq
  obtain ⟨V2, _, m3, b4, hq⟩ := hq
  cases hq
  refine mj_T.eq (pc2 := 221) (st2 := []) ?_ rfl rfl rfl rfl
  refine mj_T.pl rfl rfl rfl rfl ?_
  refine mT_get m3 15 cq_d444 (by decide) rfl rfl ?_
  refine mj_T.pl rfl rfl rfl rfl ?_
  refine mT_get m3 15 cq_d444 (by decide) rfl rfl ?_
  refine mj_T.pl rfl rfl rfl rfl ?_
  refine mj_T.call rfl rfl (Nat.le_of_ble_eq_true rfl) (Nat.le_of_ble_eq_true rfl) (mV_of m3 18 cq_d451 (by decide) rfl (by decide) rfl _) rfl (mj_Ok.up (by omega) (mF_91 (D := 0) m3 b4 fr_d451 fr_d453 (by omega))) (fun v g5 hq => ?_) (fun i g5 hq => ?_)
  rotate_left
  · obtain ⟨_, _, _, _, hq⟩ := hq; cases hq
  obtain ⟨V6, _, m7, b8, hq⟩ := hq
  cases hq
  refine mj_T.eq (pc2 := 233) (st2 := []) ?_ rfl rfl rfl rfl
  iterate 4 refine mj_T.pl rfl rfl rfl rfl ?_
  refine mj_T.iadd (a := r) (b := 1) rfl ?_
  refine jT.anyI (fun z9 rz9 => ?_)
  refine mj_T.icmp (a := c) (b := z9) rfl ⟨by omega, by omega⟩ ⟨by omega, by omega⟩ (fun c10 => ?_) (fun c10 => ?_)
  · simp only [jc, Bool.not_eq_true', Bool.not_eq_false', decide_eq_true_eq, decide_eq_false_iff_not] at c10
    refine mj_T.pl rfl rfl rfl rfl ?_
    refine mT_put (v := 0) m7 15 cq_d444 (by decide) rfl (by simp [jMf, xup]) (by simp [jMf]) rfl (fun h11 m12 => ?_)
    refine mj_T.pl rfl rfl rfl rfl ?_
    refine mT_get m12 15 cq_d444 (by decide) rfl rfl ?_
    refine jT.anyI (fun z13 rz13 => ?_)
    refine mj_T.if0 (a := z13) rfl ⟨by omega, by omega⟩ (fun c14 => ?_) (fun c14 => ?_)
    · simp only [jc, Bool.not_eq_true', Bool.not_eq_false', decide_eq_true_eq, decide_eq_false_iff_not] at c14
      exact mj_T.ret rfl rfl rfl ⟨V6, _, _, m12, b8, (fx.tr (FX.up (Or.inr (Or.inl cq_d444)))), (dg.oth (by decide +kernel)), rfl⟩
    · simp only [jc, Bool.not_eq_true', Bool.not_eq_false', decide_eq_true_eq, decide_eq_false_iff_not] at c14
      refine mj_T.pl rfl rfl rfl rfl ?_
      refine mT_get m12 15 cq_d444 (by decide) rfl rfl ?_
      refine mj_T.pl rfl rfl rfl rfl ?_
      refine mT_get m12 15 cq_d444 (by decide) rfl rfl ?_
      refine mj_T.call rfl rfl (Nat.le_of_ble_eq_true rfl) (Nat.le_of_ble_eq_true rfl) (mV_of m12 18 cq_d445 (by decide) rfl (by decide) rfl _) rfl (mj_Ok.up (by omega) (mF_87 (D := 0) m12 b8 fr_d445 fr_d451)) (fun v g15 hq => ?_) (fun i g15 hq => ?_)
      rotate_left
      · obtain ⟨_, _, _, _, hq⟩ := hq; cases hq
      obtain ⟨V16, _, m17, b18, hq⟩ := hq
      cases hq
      refine mj_T.eq (pc2 := 283) (st2 := []) ?_ rfl rfl rfl rfl
      exact mj_T.ret rfl rfl rfl ⟨V16, _, _, m17, b18, (fx.tr (FX.up (Or.inr (Or.inl cq_d444)))), (dg.oth (by decide +kernel)), rfl⟩
  · simp only [jc, Bool.not_eq_true', Bool.not_eq_false', decide_eq_true_eq, decide_eq_false_iff_not] at c10
    refine mj_T.pl rfl rfl rfl rfl ?_
    refine mT_get m7 15 cq_d444 (by decide) rfl rfl ?_
    iterate 2 refine mj_T.pl rfl rfl rfl rfl ?_
    refine mT_get m7 15 cq_d444 (by decide) rfl rfl ?_
    refine mj_T.call rfl rfl (Nat.le_of_ble_eq_true rfl) (Nat.le_of_ble_eq_true rfl) (mV_of m7 11 cq_d19 (by decide) rfl (by decide) rfl _) rfl (mj_Ok.up (by omega) (mZ_28 (D := 0) m7 b8 cq_d180 fr_d451 rfl (dg _ cq_d180))) (fun v g19 hq => ?_) (fun i g19 hq => ?_)
    rotate_left
    · obtain ⟨_, _, _, _, _, _, hq⟩ := hq; cases hq
    obtain ⟨V22, z20, _, m21, b23, rz20, hq⟩ := hq
    cases hq
    refine mj_T.eq (pc2 := 254) (st2 := [.int (jn z20), .ref 444]) ?_ rfl rfl rfl rfl
    refine mj_T.if0 (a := z20) rfl ⟨by omega, by omega⟩ (fun c24 => ?_) (fun c24 => ?_)
    · simp only [jc, Bool.not_eq_true', Bool.not_eq_false', decide_eq_true_eq, decide_eq_false_iff_not] at c24
      refine mj_T.pl rfl rfl rfl rfl ?_
      refine mT_put (v := 0) m21 15 cq_d444 (by decide) rfl (by simp [jMf, xup]) (by simp [jMf]) rfl (fun h25 m26 => ?_)
      refine mj_T.pl rfl rfl rfl rfl ?_
      refine mT_get m26 15 cq_d444 (by decide) rfl rfl ?_
      refine jT.anyI (fun z27 rz27 => ?_)
      refine mj_T.if0 (a := z27) rfl ⟨by omega, by omega⟩ (fun c28 => ?_) (fun c28 => ?_)
      · simp only [jc, Bool.not_eq_true', Bool.not_eq_false', decide_eq_true_eq, decide_eq_false_iff_not] at c28
        exact mj_T.ret rfl rfl rfl ⟨V22, _, _, m26, b23, (fx.tr (FX.up (Or.inr (Or.inl cq_d444)))), (dg.oth (by decide +kernel)), rfl⟩
      · simp only [jc, Bool.not_eq_true', Bool.not_eq_false', decide_eq_true_eq, decide_eq_false_iff_not] at c28
        refine mj_T.pl rfl rfl rfl rfl ?_
        refine mT_get m26 15 cq_d444 (by decide) rfl rfl ?_
        refine mj_T.pl rfl rfl rfl rfl ?_
        refine mT_get m26 15 cq_d444 (by decide) rfl rfl ?_
        refine mj_T.call rfl rfl (Nat.le_of_ble_eq_true rfl) (Nat.le_of_ble_eq_true rfl) (mV_of m26 18 cq_d445 (by decide) rfl (by decide) rfl _) rfl (mj_Ok.up (by omega) (mF_87 (D := 0) m26 b23 fr_d445 fr_d451)) (fun v g29 hq => ?_) (fun i g29 hq => ?_)
        rotate_left
        · obtain ⟨_, _, _, _, hq⟩ := hq; cases hq
        obtain ⟨V30, _, m31, b32, hq⟩ := hq
        cases hq
        refine mj_T.eq (pc2 := 283) (st2 := []) ?_ rfl rfl rfl rfl
        exact mj_T.ret rfl rfl rfl ⟨V30, _, _, m31, b32, (fx.tr (FX.up (Or.inr (Or.inl cq_d444)))), (dg.oth (by decide +kernel)), rfl⟩
    · simp only [jc, Bool.not_eq_true', Bool.not_eq_false', decide_eq_true_eq, decide_eq_false_iff_not] at c24
      iterate 2 refine mj_T.pl rfl rfl rfl rfl ?_
      refine mT_put (v := 1) m21 15 cq_d444 (by decide) rfl (by simp [jMf, xup]) (by simp [jMf]) rfl (fun h33 m34 => ?_)
      refine mj_T.pl rfl rfl rfl rfl ?_
      refine mT_get m34 15 cq_d444 (by decide) rfl rfl ?_
      refine jT.anyI (fun z35 rz35 => ?_)
      refine mj_T.if0 (a := z35) rfl ⟨by omega, by omega⟩ (fun c36 => ?_) (fun c36 => ?_)
      · simp only [jc, Bool.not_eq_true', Bool.not_eq_false', decide_eq_true_eq, decide_eq_false_iff_not] at c36
        exact mj_T.ret rfl rfl rfl ⟨V22, _, _, m34, b23, (fx.tr (FX.up (Or.inr (Or.inl cq_d444)))), (dg.oth (by decide +kernel)), rfl⟩
      · simp only [jc, Bool.not_eq_true', Bool.not_eq_false', decide_eq_true_eq, decide_eq_false_iff_not] at c36
        refine mj_T.pl rfl rfl rfl rfl ?_
        refine mT_get m34 15 cq_d444 (by decide) rfl rfl ?_
        refine mj_T.pl rfl rfl rfl rfl ?_
        refine mT_get m34 15 cq_d444 (by decide) rfl rfl ?_
        refine mj_T.call rfl rfl (Nat.le_of_ble_eq_true rfl) (Nat.le_of_ble_eq_true rfl) (mV_of m34 18 cq_d445 (by decide) rfl (by decide) rfl _) rfl (mj_Ok.up (by omega) (mF_87 (D := 0) m34 b23 fr_d445 fr_d451)) (fun v g37 hq => ?_) (fun i g37 hq => ?_)
        rotate_left
        · obtain ⟨_, _, _, _, hq⟩ := hq; cases hq
        obtain ⟨V38, _, m39, b40, hq⟩ := hq
        cases hq
        refine mj_T.eq (pc2 := 283) (st2 := []) ?_ rfl rfl rfl rfl
        exact mj_T.ret rfl rfl rfl ⟨V38, _, _, m39, b40, (fx.tr (FX.up (Or.inr (Or.inl cq_d444)))), (dg.oth (by decide +kernel)), rfl⟩
theorem mZ_65_l {r s : Int} (hr : (-2147483648 ≤ r ∧ r ≤ 2147483647)) (hs : (-2147483648 ≤ s ∧ s ≤ 2147483647)) : ∀ (k i : Nat), 200 = i + k → ∀ (a c : Int) (l7 : Option Value) (V1 : Nat → Int) (X1 : Nat → Nat → Int) (h1 : mj_H), (-2147483648 ≤ a ∧ a ≤ 2147483647) → (-2147483648 ≤ c ∧ c ≤ 2147483647) → jM g n V1 X1 h1 → by0 V1 → FX X X1 → DG X1 → mj_T (D + 5) mj_m65 69 [some (.ref 444), some (.int (jn r)), some (.ref 180), some (.int (jn a)), some (.int (jn c)), some (.int (jn s)), some (.int (jn (i : Int))), l7] [] h1 (fun z => ∃ (V2 : Nat → Int) (X2 : Nat → Nat → Int) (h2 : mj_H), jM g n V2 X2 h2 ∧ by0 V2 ∧ FX X X2 ∧ DG X2 ∧ z = (.inl none, h2))
  | 0, i, hi, a, c, l7, V1, X1, h1, ha, hc, m, b, fx, dg => by
    iterate 2 refine mj_T.pl rfl rfl rfl rfl ?_
    refine mj_T.icmp (a := ((i : Nat) : Int)) (b := 200) rfl ⟨by omega, by omega⟩ ⟨by omega, by omega⟩ (fun c1 => ?_) (fun c1 => ?_)
    · simp only [jc, Bool.not_eq_true', Bool.not_eq_false', decide_eq_true_eq, decide_eq_false_iff_not] at c1
      exact mZ_65_e hr hs ⟨by omega, by omega⟩ ⟨by omega, by omega⟩ m b fx dg
    · exfalso
      simp only [jc, Bool.not_eq_true', Bool.not_eq_false', decide_eq_true_eq, decide_eq_false_iff_not] at c1
      omega
  | k + 1, i, hi, a, c, l7, V1, X1, h1, ha, hc, m, b, fx, dg => by
    iterate 2 refine mj_T.pl rfl rfl rfl rfl ?_
    refine mj_T.icmp (a := ((i : Nat) : Int)) (b := 200) rfl ⟨by omega, by omega⟩ ⟨by omega, by omega⟩ (fun c1 => ?_) (fun c1 => ?_)
    · simp only [jc, Bool.not_eq_true', Bool.not_eq_false', decide_eq_true_eq, decide_eq_false_iff_not] at c1
      exact mZ_65_e hr hs ⟨by omega, by omega⟩ ⟨by omega, by omega⟩ m b fx dg
    · simp only [jc, Bool.not_eq_true', Bool.not_eq_false', decide_eq_true_eq, decide_eq_false_iff_not] at c1
      refine mj_T.pl rfl rfl rfl rfl ?_
      refine mT_get m 15 cq_d444 (by decide) rfl rfl ?_
      refine mZ_sg m cq_d449 rfl (fun z2 rz2 => ?_)
      refine mj_T.if0 (a := z2) rfl ⟨by omega, by omega⟩ (fun c3 => ?_) (fun c3 => ?_)
      · simp only [jc, Bool.not_eq_true', Bool.not_eq_false', decide_eq_true_eq, decide_eq_false_iff_not] at c3
        exact mZ_65_e hr hs ⟨by omega, by omega⟩ ⟨by omega, by omega⟩ m b fx dg
      · simp only [jc, Bool.not_eq_true', Bool.not_eq_false', decide_eq_true_eq, decide_eq_false_iff_not] at c3
        refine mj_T.pl rfl rfl rfl rfl ?_
        refine mT_get m 15 cq_d444 (by decide) rfl rfl ?_
        refine mj_T.pl rfl rfl rfl rfl ?_
        refine mT_get m 15 cq_d444 (by decide) rfl rfl ?_
        refine mj_T.call rfl rfl (Nat.le_of_ble_eq_true rfl) (Nat.le_of_ble_eq_true rfl) (mV_of m 18 cq_d451 (by decide) rfl (by decide) rfl _) rfl (mj_Ok.up (by omega) (mF_87 (D := 0) m b fr_d451 fr_d445)) (fun v g4 hq => ?_) (fun i g4 hq => ?_)
        rotate_left
        · obtain ⟨_, _, _, _, hq⟩ := hq; cases hq
        obtain ⟨V5, _, m6, b7, hq⟩ := hq
        cases hq
        refine mj_T.eq (pc2 := 98) (st2 := []) ?_ rfl rfl rfl rfl
        refine mj_T.pl rfl rfl rfl rfl ?_
        refine mT_get m6 15 cq_d444 (by decide) rfl rfl ?_
        refine mj_T.pl rfl rfl rfl rfl ?_
        refine mT_get m6 15 cq_d444 (by decide) rfl rfl ?_
        refine mj_T.pl rfl rfl rfl rfl ?_
        refine mj_T.call rfl rfl (Nat.le_of_ble_eq_true rfl) (Nat.le_of_ble_eq_true rfl) (mV_of m6 18 cq_d451 (by decide) rfl (by decide) rfl _) rfl (mj_Ok.up (by omega) (mF_91 (D := 0) m6 b7 fr_d451 fr_d449 (by omega))) (fun v g8 hq => ?_) (fun i g8 hq => ?_)
        rotate_left
        · obtain ⟨_, _, _, _, hq⟩ := hq; cases hq
        obtain ⟨V9, _, m10, b11, hq⟩ := hq
        cases hq
        refine mj_T.eq (pc2 := 110) (st2 := []) ?_ rfl rfl rfl rfl
        iterate 2 refine mj_T.pl rfl rfl rfl rfl ?_
        refine mj_T.isub (a := c) (b := a) rfl ?_
        refine jT.anyI (fun z12 rz12 => ?_)
        refine mj_T.pl rfl rfl rfl rfl ?_
        refine mj_T.icmp (a := z12) (b := 1) rfl ⟨by omega, by omega⟩ ⟨by omega, by omega⟩ (fun c13 => ?_) (fun c13 => ?_)
        · simp only [jc, Bool.not_eq_true', Bool.not_eq_false', decide_eq_true_eq, decide_eq_false_iff_not] at c13
          refine mj_T.pl rfl rfl rfl rfl ?_
          refine mT_get m10 15 cq_d444 (by decide) rfl rfl ?_
          refine jT.anyI (fun z14 rz14 => ?_)
          refine mj_T.pl rfl rfl rfl rfl ?_
          refine mT_get m10 15 cq_d444 (by decide) rfl rfl ?_
          refine mj_T.pl rfl rfl rfl rfl ?_
          refine mT_get m10 15 cq_d444 (by decide) rfl rfl ?_
          refine mj_T.call rfl rfl (Nat.le_of_ble_eq_true rfl) (Nat.le_of_ble_eq_true rfl) (mV_of m10 16 cq_d172 (by decide) rfl (by decide) rfl _) rfl (mj_Ok.up (by omega) (mZ_76 (D := 0) m10 b11 dg fr_d451)) (fun v g15 hq => ?_) (fun i g15 hq => ?_)
          rotate_left
          · obtain ⟨_, _, _, _, _, _, hq⟩ := hq; cases hq
          obtain ⟨V18, z16, _, m17, b19, rz16, hq⟩ := hq
          cases hq
          refine mj_T.eq (pc2 := 164) (st2 := [.int (jn z16), .int (jn z14)]) ?_ rfl rfl rfl rfl
          refine mj_T.isub (a := z14) (b := z16) rfl ?_
          refine jT.anyI (fun z20 rz20 => ?_)
          refine mj_T.pl (loc' := [some (.ref 444), some (.int (jn r)), some (.ref 180), some (.int (jn a)), some (.int (jn c)), some (.int (jn s)), some (.int (jn ((i : Nat) : Int))), some (.int (jn z20))]) rfl rfl rfl rfl ?_
          iterate 2 refine mj_T.pl rfl rfl rfl rfl ?_
          refine mj_T.icmp (a := z20) (b := r) rfl ⟨by omega, by omega⟩ ⟨by omega, by omega⟩ (fun c21 => ?_) (fun c21 => ?_)
          · simp only [jc, Bool.not_eq_true', Bool.not_eq_false', decide_eq_true_eq, decide_eq_false_iff_not] at c21
            refine mj_T.pl rfl rfl rfl rfl ?_
            refine mj_T.pl (loc' := [some (.ref 444), some (.int (jn r)), some (.ref 180), some (.int (jn a)), some (.int (jn z20)), some (.int (jn s)), some (.int (jn ((i : Nat) : Int))), some (.int (jn z20))]) rfl rfl rfl rfl ?_
            refine mj_T.pl rfl rfl rfl rfl ?_
            refine mT_get m17 15 cq_d444 (by decide) rfl rfl ?_
            refine jT.ldcL rfl ?_
            refine mj_T.call rfl rfl (Nat.le_of_ble_eq_true rfl) (Nat.le_of_ble_eq_true rfl) (mV_of m17 18 cq_d449 (by decide) rfl (by decide) rfl _) rfl (mj_Ok.up (by omega) (mF_97 (D := 0) m17 b19 fr_d449 ⟨by decide, by decide⟩)) (fun v g22 hq => ?_) (fun i g22 hq => ?_)
            rotate_left
            · obtain ⟨_, _, _, _, hq⟩ := hq; cases hq
            obtain ⟨V23, _, m24, b25, hq⟩ := hq
            cases hq
            refine mj_T.eq (pc2 := 204) (st2 := []) ?_ rfl rfl rfl rfl
            refine mj_T.iinc rfl rfl ?_
            rw [show ((i : Nat) : Int) + 1 = ((i + 1 : Nat) : Int) by omega]
            refine mj_T.eq (loc2 := [some (.ref 444), some (.int (jn r)), some (.ref 180), some (.int (jn a)), some (.int (jn z20)), some (.int (jn s)), some (.int (jn (((i + 1) : Nat) : Int))), some (.int (jn z20))]) ?_ rfl rfl rfl rfl
            refine mj_T.pl rfl rfl rfl rfl ?_
            exact mZ_65_l hr hs k (i + 1) (by omega) _ _ _ _ _ _ ⟨by omega, by omega⟩ ⟨by omega, by omega⟩ m24 b25 fx dg
          · simp only [jc, Bool.not_eq_true', Bool.not_eq_false', decide_eq_true_eq, decide_eq_false_iff_not] at c21
            refine mj_T.pl rfl rfl rfl rfl ?_
            refine mT_get m17 15 cq_d444 (by decide) rfl rfl ?_
            refine mj_T.pl rfl rfl rfl rfl ?_
            refine mT_get m17 15 cq_d444 (by decide) rfl rfl ?_
            refine mj_T.call rfl rfl (Nat.le_of_ble_eq_true rfl) (Nat.le_of_ble_eq_true rfl) (mV_of m17 18 cq_d445 (by decide) rfl (by decide) rfl _) rfl (mj_Ok.up (by omega) (mF_87 (D := 0) m17 b19 fr_d445 fr_d451)) (fun v g26 hq => ?_) (fun i g26 hq => ?_)
            rotate_left
            · obtain ⟨_, _, _, _, hq⟩ := hq; cases hq
            obtain ⟨V27, _, m28, b29, hq⟩ := hq
            cases hq
            refine mj_T.eq (pc2 := 184) (st2 := []) ?_ rfl rfl rfl rfl
            refine mj_T.pl rfl rfl rfl rfl ?_
            refine mj_T.pl (loc' := [some (.ref 444), some (.int (jn r)), some (.ref 180), some (.int (jn z20)), some (.int (jn c)), some (.int (jn s)), some (.int (jn ((i : Nat) : Int))), some (.int (jn z20))]) rfl rfl rfl rfl ?_
            iterate 2 refine mj_T.pl rfl rfl rfl rfl ?_
            refine mT_get m28 15 cq_d444 (by decide) rfl rfl ?_
            refine jT.ldcL rfl ?_
            refine mj_T.call rfl rfl (Nat.le_of_ble_eq_true rfl) (Nat.le_of_ble_eq_true rfl) (mV_of m28 18 cq_d449 (by decide) rfl (by decide) rfl _) rfl (mj_Ok.up (by omega) (mF_97 (D := 0) m28 b29 fr_d449 ⟨by decide, by decide⟩)) (fun v g30 hq => ?_) (fun i g30 hq => ?_)
            rotate_left
            · obtain ⟨_, _, _, _, hq⟩ := hq; cases hq
            obtain ⟨V31, _, m32, b33, hq⟩ := hq
            cases hq
            refine mj_T.eq (pc2 := 204) (st2 := []) ?_ rfl rfl rfl rfl
            refine mj_T.iinc rfl rfl ?_
            rw [show ((i : Nat) : Int) + 1 = ((i + 1 : Nat) : Int) by omega]
            refine mj_T.eq (loc2 := [some (.ref 444), some (.int (jn r)), some (.ref 180), some (.int (jn z20)), some (.int (jn c)), some (.int (jn s)), some (.int (jn (((i + 1) : Nat) : Int))), some (.int (jn z20))]) ?_ rfl rfl rfl rfl
            refine mj_T.pl rfl rfl rfl rfl ?_
            exact mZ_65_l hr hs k (i + 1) (by omega) _ _ _ _ _ _ ⟨by omega, by omega⟩ ⟨by omega, by omega⟩ m32 b33 fx dg
        · simp only [jc, Bool.not_eq_true', Bool.not_eq_false', decide_eq_true_eq, decide_eq_false_iff_not] at c13
          refine mj_T.pl rfl rfl rfl rfl ?_
          refine mT_get m10 15 cq_d444 (by decide) rfl rfl ?_
          iterate 2 refine mj_T.pl rfl rfl rfl rfl ?_
          refine mT_get m10 15 cq_d444 (by decide) rfl rfl ?_
          refine mj_T.call rfl rfl (Nat.le_of_ble_eq_true rfl) (Nat.le_of_ble_eq_true rfl) (mV_of m10 11 cq_d19 (by decide) rfl (by decide) rfl _) rfl (mj_Ok.up (by omega) (mZ_28 (D := 0) m10 b11 cq_d180 fr_d451 rfl (dg _ cq_d180))) (fun v g34 hq => ?_) (fun i g34 hq => ?_)
          rotate_left
          · obtain ⟨_, _, _, _, _, _, hq⟩ := hq; cases hq
          obtain ⟨V37, z35, _, m36, b38, rz35, hq⟩ := hq
          cases hq
          refine mj_T.eq (pc2 := 130) (st2 := [.int (jn z35)]) ?_ rfl rfl rfl rfl
          refine mj_T.pl rfl rfl rfl rfl ?_
          refine mj_T.icmp (a := z35) (b := s) rfl ⟨by omega, by omega⟩ ⟨by omega, by omega⟩ (fun c39 => ?_) (fun c39 => ?_)
          · simp only [jc, Bool.not_eq_true', Bool.not_eq_false', decide_eq_true_eq, decide_eq_false_iff_not] at c39
            refine mj_T.pl rfl rfl rfl rfl ?_
            refine mT_get m36 15 cq_d444 (by decide) rfl rfl ?_
            refine jT.ldcL rfl ?_
            refine mj_T.call rfl rfl (Nat.le_of_ble_eq_true rfl) (Nat.le_of_ble_eq_true rfl) (mV_of m36 18 cq_d449 (by decide) rfl (by decide) rfl _) rfl (mj_Ok.up (by omega) (mF_97 (D := 0) m36 b38 fr_d449 ⟨by decide, by decide⟩)) (fun v g40 hq => ?_) (fun i g40 hq => ?_)
            rotate_left
            · obtain ⟨_, _, _, _, hq⟩ := hq; cases hq
            obtain ⟨V41, _, m42, b43, hq⟩ := hq
            cases hq
            refine mj_T.eq (pc2 := 204) (st2 := []) ?_ rfl rfl rfl rfl
            refine mj_T.iinc rfl rfl ?_
            rw [show ((i : Nat) : Int) + 1 = ((i + 1 : Nat) : Int) by omega]
            refine mj_T.eq (loc2 := [some (.ref 444), some (.int (jn r)), some (.ref 180), some (.int (jn a)), some (.int (jn c)), some (.int (jn s)), some (.int (jn (((i + 1) : Nat) : Int))), l7]) ?_ rfl rfl rfl rfl
            refine mj_T.pl rfl rfl rfl rfl ?_
            exact mZ_65_l hr hs k (i + 1) (by omega) _ _ _ _ _ _ ⟨by omega, by omega⟩ ⟨by omega, by omega⟩ m42 b43 fx dg
          · simp only [jc, Bool.not_eq_true', Bool.not_eq_false', decide_eq_true_eq, decide_eq_false_iff_not] at c39
            refine mj_T.pl rfl rfl rfl rfl ?_
            refine mT_get m36 15 cq_d444 (by decide) rfl rfl ?_
            refine mj_T.pl rfl rfl rfl rfl ?_
            refine mT_get m36 15 cq_d444 (by decide) rfl rfl ?_
            refine mj_T.call rfl rfl (Nat.le_of_ble_eq_true rfl) (Nat.le_of_ble_eq_true rfl) (mV_of m36 18 cq_d445 (by decide) rfl (by decide) rfl _) rfl (mj_Ok.up (by omega) (mF_87 (D := 0) m36 b38 fr_d445 fr_d451)) (fun v g44 hq => ?_) (fun i g44 hq => ?_)
            rotate_left
            · obtain ⟨_, _, _, _, hq⟩ := hq; cases hq
            obtain ⟨V45, _, m46, b47, hq⟩ := hq
            cases hq
            refine mj_T.eq (pc2 := 146) (st2 := []) ?_ rfl rfl rfl rfl
            iterate 2 refine mj_T.pl rfl rfl rfl rfl ?_
            refine mT_get m46 15 cq_d444 (by decide) rfl rfl ?_
            refine jT.ldcL rfl ?_
            refine mj_T.call rfl rfl (Nat.le_of_ble_eq_true rfl) (Nat.le_of_ble_eq_true rfl) (mV_of m46 18 cq_d449 (by decide) rfl (by decide) rfl _) rfl (mj_Ok.up (by omega) (mF_97 (D := 0) m46 b47 fr_d449 ⟨by decide, by decide⟩)) (fun v g48 hq => ?_) (fun i g48 hq => ?_)
            rotate_left
            · obtain ⟨_, _, _, _, hq⟩ := hq; cases hq
            obtain ⟨V49, _, m50, b51, hq⟩ := hq
            cases hq
            refine mj_T.eq (pc2 := 204) (st2 := []) ?_ rfl rfl rfl rfl
            refine mj_T.iinc rfl rfl ?_
            rw [show ((i : Nat) : Int) + 1 = ((i + 1 : Nat) : Int) by omega]
            refine mj_T.eq (loc2 := [some (.ref 444), some (.int (jn r)), some (.ref 180), some (.int (jn a)), some (.int (jn c)), some (.int (jn s)), some (.int (jn (((i + 1) : Nat) : Int))), l7]) ?_ rfl rfl rfl rfl
            refine mj_T.pl rfl rfl rfl rfl ?_
            exact mZ_65_l hr hs k (i + 1) (by omega) _ _ _ _ _ _ ⟨by omega, by omega⟩ ⟨by omega, by omega⟩ m50 b51 fx dg
theorem mZ_65 (m : jM g n V X h) (b : by0 V) (dg : DG X) {r : Int} (hr : (-2147483648 ≤ r ∧ r ≤ 2147483647)) : mj_Ok (D + 6) 65 [.ref 444, .int (jn r)] h (fun z => ∃ (V2 : Nat → Int) (X2 : Nat → Nat → Int) (h2 : mj_H), jM g n V2 X2 h2 ∧ by0 V2 ∧ FX X X2 ∧ DG X2 ∧ z = (.inl none, h2)) := by
  have hL : cL 173 = 14 := mK_r.2.2.2.1
  refine mj_Ok.of (M := mj_m65) rfl rfl rfl ?_
  refine mj_T.pl rfl rfl rfl rfl ?_
  refine mT_get m 15 cq_d444 (by decide) rfl rfl ?_
  refine mT_get m 16 cq_d172 (by decide) rfl rfl ?_
  refine mj_T.pl rfl rfl rfl rfl ?_
  refine mT_aald m 5 cq_d173 (by decide) rfl rfl (by omega) ⟨by omega, by omega⟩ ?_
  refine mj_T.eq (st2 := [.ref 180]) ?_ rfl rfl rfl rfl
  refine mj_T.pl (loc' := [some (.ref 444), some (.int (jn r)), some (.ref 180), none, none, none, none, none]) rfl rfl rfl rfl ?_
  refine mj_T.pl rfl rfl rfl rfl ?_
  refine mj_T.pl (loc' := [some (.ref 444), some (.int (jn r)), some (.ref 180), some (.int (jn 0)), none, none, none, none]) rfl rfl rfl rfl ?_
  refine mj_T.pl rfl rfl rfl rfl ?_
  refine mT_get m 15 cq_d444 (by decide) rfl rfl ?_
  refine jT.anyI (fun z1 rz1 => ?_)
  refine mj_T.pl (loc' := [some (.ref 444), some (.int (jn r)), some (.ref 180), some (.int (jn 0)), some (.int (jn z1)), none, none, none]) rfl rfl rfl rfl ?_
  refine mj_T.pl rfl rfl rfl rfl ?_
  refine mT_get m 15 cq_d444 (by decide) rfl rfl ?_
  refine jT.anyI (fun z2 rz2 => ?_)
  refine mj_T.pl rfl rfl rfl rfl ?_
  refine mj_T.isub (a := z2) (b := r) rfl ?_
  refine jT.anyI (fun z3 rz3 => ?_)
  refine mj_T.pl rfl rfl rfl rfl ?_
  refine jT.irem rfl ⟨by decide, by decide⟩ (by omega) (fun z4 jz4 => ?_)
  refine mj_T.if0 (a := z4) rfl ⟨by omega, by omega⟩ (fun c5 => ?_) (fun c5 => ?_)
  · simp only [jc, Bool.not_eq_true', Bool.not_eq_false', decide_eq_true_eq, decide_eq_false_iff_not] at c5
    refine mj_T.pl rfl rfl rfl rfl ?_
    refine mj_T.pl (loc' := [some (.ref 444), some (.int (jn r)), some (.ref 180), some (.int (jn 0)), some (.int (jn z1)), some (.int (jn (-1))), none, none]) rfl rfl rfl rfl ?_
    refine mj_T.pl rfl rfl rfl rfl ?_
    refine mT_get m 15 cq_d444 (by decide) rfl rfl ?_
    refine mj_T.pl rfl rfl rfl rfl ?_
    refine mT_get m 15 cq_d444 (by decide) rfl rfl ?_
    refine mj_T.call rfl rfl (Nat.le_of_ble_eq_true rfl) (Nat.le_of_ble_eq_true rfl) (mV_of m 18 cq_d445 (by decide) rfl (by decide) rfl _) rfl (mj_Ok.up (by omega) (mF_87 (D := 0) m b fr_d445 fr_d447)) (fun v g6 hq => ?_) (fun i g6 hq => ?_)
    rotate_left
    · obtain ⟨_, _, _, _, hq⟩ := hq; cases hq
    obtain ⟨V7, _, m8, b9, hq⟩ := hq
    cases hq
    refine mj_T.eq (pc2 := 47) (st2 := []) ?_ rfl rfl rfl rfl
    refine mj_T.pl rfl rfl rfl rfl ?_
    refine mT_get m8 15 cq_d444 (by decide) rfl rfl ?_
    refine mj_T.pl rfl rfl rfl rfl ?_
    refine mZ_psg m8 cq_d445 rfl (fun h10 m11 => ?_)
    have b12 : by0 _ := b9.drt (sl := [445]) (fun x hx => by rw [List.mem_singleton.mp hx]; exact fr_d445.2)
    refine mj_T.pl rfl rfl rfl rfl ?_
    refine mT_get m11 15 cq_d444 (by decide) rfl rfl ?_
    refine mj_T.pl rfl rfl rfl rfl ?_
    refine mT_get m11 15 cq_d444 (by decide) rfl rfl ?_
    refine mj_T.call rfl rfl (Nat.le_of_ble_eq_true rfl) (Nat.le_of_ble_eq_true rfl) (mV_of m11 18 cq_d449 (by decide) rfl (by decide) rfl _) rfl (mj_Ok.up (by omega) (mF_87 (D := 0) m11 b12 fr_d449 fr_d447)) (fun v g13 hq => ?_) (fun i g13 hq => ?_)
    rotate_left
    · obtain ⟨_, _, _, _, hq⟩ := hq; cases hq
    obtain ⟨V14, _, m15, b16, hq⟩ := hq
    cases hq
    refine mj_T.eq (pc2 := 66) (st2 := []) ?_ rfl rfl rfl rfl
    refine mj_T.pl rfl rfl rfl rfl ?_
    refine mj_T.pl (loc' := [some (.ref 444), some (.int (jn r)), some (.ref 180), some (.int (jn 0)), some (.int (jn z1)), some (.int (jn (-1))), some (.int (jn 0)), none]) rfl rfl rfl rfl ?_
    exact mZ_65_l hr ⟨by omega, by omega⟩ 200 0 (by omega) _ _ _ _ _ _ ⟨by omega, by omega⟩ ⟨by omega, by omega⟩ m15 b16 (FX.rf X) dg
  · simp only [jc, Bool.not_eq_true', Bool.not_eq_false', decide_eq_true_eq, decide_eq_false_iff_not] at c5
    iterate 2 refine mj_T.pl rfl rfl rfl rfl ?_
    refine mj_T.pl (loc' := [some (.ref 444), some (.int (jn r)), some (.ref 180), some (.int (jn 0)), some (.int (jn z1)), some (.int (jn 1)), none, none]) rfl rfl rfl rfl ?_
    refine mj_T.pl rfl rfl rfl rfl ?_
    refine mT_get m 15 cq_d444 (by decide) rfl rfl ?_
    refine mj_T.pl rfl rfl rfl rfl ?_
    refine mT_get m 15 cq_d444 (by decide) rfl rfl ?_
    refine mj_T.call rfl rfl (Nat.le_of_ble_eq_true rfl) (Nat.le_of_ble_eq_true rfl) (mV_of m 18 cq_d445 (by decide) rfl (by decide) rfl _) rfl (mj_Ok.up (by omega) (mF_87 (D := 0) m b fr_d445 fr_d447)) (fun v g17 hq => ?_) (fun i g17 hq => ?_)
    rotate_left
    · obtain ⟨_, _, _, _, hq⟩ := hq; cases hq
    obtain ⟨V18, _, m19, b20, hq⟩ := hq
    cases hq
    refine mj_T.eq (pc2 := 47) (st2 := []) ?_ rfl rfl rfl rfl
    refine mj_T.pl rfl rfl rfl rfl ?_
    refine mT_get m19 15 cq_d444 (by decide) rfl rfl ?_
    refine mj_T.pl rfl rfl rfl rfl ?_
    refine mZ_psg m19 cq_d445 rfl (fun h21 m22 => ?_)
    have b23 : by0 _ := b20.drt (sl := [445]) (fun x hx => by rw [List.mem_singleton.mp hx]; exact fr_d445.2)
    refine mj_T.pl rfl rfl rfl rfl ?_
    refine mT_get m22 15 cq_d444 (by decide) rfl rfl ?_
    refine mj_T.pl rfl rfl rfl rfl ?_
    refine mT_get m22 15 cq_d444 (by decide) rfl rfl ?_
    refine mj_T.call rfl rfl (Nat.le_of_ble_eq_true rfl) (Nat.le_of_ble_eq_true rfl) (mV_of m22 18 cq_d449 (by decide) rfl (by decide) rfl _) rfl (mj_Ok.up (by omega) (mF_87 (D := 0) m22 b23 fr_d449 fr_d447)) (fun v g24 hq => ?_) (fun i g24 hq => ?_)
    rotate_left
    · obtain ⟨_, _, _, _, hq⟩ := hq; cases hq
    obtain ⟨V25, _, m26, b27, hq⟩ := hq
    cases hq
    refine mj_T.eq (pc2 := 66) (st2 := []) ?_ rfl rfl rfl rfl
    refine mj_T.pl rfl rfl rfl rfl ?_
    refine mj_T.pl (loc' := [some (.ref 444), some (.int (jn r)), some (.ref 180), some (.int (jn 0)), some (.int (jn z1)), some (.int (jn 1)), some (.int (jn 0)), none]) rfl rfl rfl rfl ?_
    exact mZ_65_l hr ⟨by omega, by omega⟩ 200 0 (by omega) _ _ _ _ _ _ ⟨by omega, by omega⟩ ⟨by omega, by omega⟩ m26 b27 (FX.rf X) dg
theorem mZ_66_l {q : Int} (hw : (-2147483648 ≤ q ∧ q ≤ 2147483647)) : ∀ (k : Nat) (i : Int), 2147483647 ≤ i + k → (0 ≤ i ∧ i ≤ 2147483647) → ∀ (c : Int) (V1 : Nat → Int) (X1 : Nat → Nat → Int) (h1 : mj_H), (-2147483648 ≤ c ∧ c ≤ 2147483647) → jM g n V1 X1 h1 → by0 V1 → FX X X1 → DG X1 → mj_T (D + 6) mj_m66 23 [some (.ref 444), some (.int (jn q)), some (.int (jn c)), some (.int (jn i))] [] h1 (fun z => ∃ (V2 : Nat → Int) (X2 : Nat → Nat → Int) (c : Int) (h2 : mj_H), jM g n V2 X2 h2 ∧ by0 V2 ∧ FX X X2 ∧ DG X2 ∧ (-2147483648 ≤ c ∧ c ≤ 2147483647) ∧ z = (.inl (some (.int (jn c))), h2))
  | 0, i, hk, hi, c, V1, X1, h1, hc, m, b, fx, dg => by
    iterate 2 refine mj_T.pl rfl rfl rfl rfl ?_
    refine mT_get m 15 cq_d444 (by decide) rfl rfl ?_
    refine jT.anyI (fun z1 rz1 => ?_)
    refine mj_T.icmp (a := i) (b := z1) rfl ⟨by omega, by omega⟩ ⟨by omega, by omega⟩ (fun c2 => ?_) (fun c2 => ?_)
    · simp only [jc, Bool.not_eq_true', Bool.not_eq_false', decide_eq_true_eq, decide_eq_false_iff_not] at c2
      refine mj_T.pl rfl rfl rfl rfl ?_
      exact mj_T.ret rfl rfl rfl ⟨V1, _, _, _, m, b, fx, dg, ⟨by omega, by omega⟩, rfl⟩
    · exfalso
      simp only [jc, Bool.not_eq_true', Bool.not_eq_false', decide_eq_true_eq, decide_eq_false_iff_not] at c2
      omega
  | k + 1, i, hk, hi, c, V1, X1, h1, hc, m, b, fx, dg => by
    iterate 2 refine mj_T.pl rfl rfl rfl rfl ?_
    refine mT_get m 15 cq_d444 (by decide) rfl rfl ?_
    refine jT.anyI (fun z1 rz1 => ?_)
    refine mj_T.icmp (a := i) (b := z1) rfl ⟨by omega, by omega⟩ ⟨by omega, by omega⟩ (fun c2 => ?_) (fun c2 => ?_)
    · simp only [jc, Bool.not_eq_true', Bool.not_eq_false', decide_eq_true_eq, decide_eq_false_iff_not] at c2
      refine mj_T.pl rfl rfl rfl rfl ?_
      exact mj_T.ret rfl rfl rfl ⟨V1, _, _, _, m, b, fx, dg, ⟨by omega, by omega⟩, rfl⟩
    · simp only [jc, Bool.not_eq_true', Bool.not_eq_false', decide_eq_true_eq, decide_eq_false_iff_not] at c2
      iterate 2 refine mj_T.pl rfl rfl rfl rfl ?_
      refine mj_T.icmp (a := c) (b := q) rfl ⟨by omega, by omega⟩ ⟨by omega, by omega⟩ (fun c3 => ?_) (fun c3 => ?_)
      · simp only [jc, Bool.not_eq_true', Bool.not_eq_false', decide_eq_true_eq, decide_eq_false_iff_not] at c3
        refine mj_T.pl rfl rfl rfl rfl ?_
        exact mj_T.ret rfl rfl rfl ⟨V1, _, _, _, m, b, fx, dg, ⟨by omega, by omega⟩, rfl⟩
      · simp only [jc, Bool.not_eq_true', Bool.not_eq_false', decide_eq_true_eq, decide_eq_false_iff_not] at c3
        iterate 2 refine mj_T.pl rfl rfl rfl rfl ?_
        refine mj_T.call rfl rfl (Nat.le_of_ble_eq_true rfl) (Nat.le_of_ble_eq_true rfl) (mV_of m 15 cq_d444 (by decide) rfl (by decide) rfl _) rfl (mj_Ok.up (by omega) (mZ_65 (D := 0) m b dg (by omega))) (fun v g4 hq => ?_) (fun i g4 hq => ?_)
        rotate_left
        · obtain ⟨_, _, _, _, _, _, _, hq⟩ := hq; cases hq
        obtain ⟨V5, X8, _, m6, b7, f9, dg10, hq⟩ := hq
        cases hq
        refine mj_T.eq (pc2 := 41) (st2 := []) ?_ rfl rfl rfl rfl
        iterate 2 refine mj_T.pl rfl rfl rfl rfl ?_
        refine mT_get m6 15 cq_d444 (by decide) rfl rfl ?_
        refine jT.anyI (fun z11 rz11 => ?_)
        refine mj_T.if0 (a := z11) rfl ⟨by omega, by omega⟩ (fun c12 => ?_) (fun c12 => ?_)
        · simp only [jc, Bool.not_eq_true', Bool.not_eq_false', decide_eq_true_eq, decide_eq_false_iff_not] at c12
          refine mj_T.pl rfl rfl rfl rfl ?_
          refine mj_T.iadd (a := c) (b := 0) rfl ?_
          refine jT.anyI (fun z13 rz13 => ?_)
          refine mj_T.pl (loc' := [some (.ref 444), some (.int (jn q)), some (.int (jn z13)), some (.int (jn i))]) rfl rfl rfl rfl ?_
          refine mj_T.iinc rfl rfl ?_
          refine mj_T.eq (loc2 := [some (.ref 444), some (.int (jn q)), some (.int (jn z13)), some (.int (jn (i + 1)))]) ?_ rfl rfl rfl rfl
          refine mj_T.pl rfl rfl rfl rfl ?_
          exact mZ_66_l hw k _ (by omega) (by omega) _ _ _ _ ⟨by omega, by omega⟩ m6 b7 (fx.tr f9) dg10
        · simp only [jc, Bool.not_eq_true', Bool.not_eq_false', decide_eq_true_eq, decide_eq_false_iff_not] at c12
          iterate 2 refine mj_T.pl rfl rfl rfl rfl ?_
          refine mj_T.iadd (a := c) (b := 1) rfl ?_
          refine jT.anyI (fun z14 rz14 => ?_)
          refine mj_T.pl (loc' := [some (.ref 444), some (.int (jn q)), some (.int (jn z14)), some (.int (jn i))]) rfl rfl rfl rfl ?_
          refine mj_T.iinc rfl rfl ?_
          refine mj_T.eq (loc2 := [some (.ref 444), some (.int (jn q)), some (.int (jn z14)), some (.int (jn (i + 1)))]) ?_ rfl rfl rfl rfl
          refine mj_T.pl rfl rfl rfl rfl ?_
          exact mZ_66_l hw k _ (by omega) (by omega) _ _ _ _ ⟨by omega, by omega⟩ m6 b7 (fx.tr f9) dg10
theorem mZ_66 (m : jM g n V X h) (b : by0 V) (dg : DG X) {q : Int} (hw : (-2147483648 ≤ q ∧ q ≤ 2147483647)) : mj_Ok (D + 7) 66 [.ref 444, .int (jn q)] h (fun z => ∃ (V2 : Nat → Int) (X2 : Nat → Nat → Int) (c : Int) (h2 : mj_H), jM g n V2 X2 h2 ∧ by0 V2 ∧ FX X X2 ∧ DG X2 ∧ (-2147483648 ≤ c ∧ c ≤ 2147483647) ∧ z = (.inl (some (.int (jn c))), h2)) := by
  have hL : cL 173 = 14 := mK_r.2.2.2.1
  refine mj_Ok.of (M := mj_m66) rfl rfl rfl ?_
  iterate 2 refine mj_T.pl rfl rfl rfl rfl ?_
  refine mT_get m 15 cq_d444 (by decide) rfl rfl ?_
  refine mT_get m 16 cq_d172 (by decide) rfl rfl ?_
  refine mj_T.pl rfl rfl rfl rfl ?_
  refine mT_aald m 5 cq_d173 (by decide) rfl rfl (by omega) ⟨by omega, by omega⟩ ?_
  refine mj_T.eq (st2 := [.ref 180, .ref 444]) ?_ rfl rfl rfl rfl
  refine mj_T.call rfl rfl (Nat.le_of_ble_eq_true rfl) (Nat.le_of_ble_eq_true rfl) (mV_of m 13 cq_d180 (by decide) rfl (by decide) rfl _) rfl (mj_Ok.up (by omega) (mZ_37' (D := 0) m cq_d180 (dg _ cq_d180))) (fun v g1 hq => ?_) (fun i g1 hq => ?_)
  rotate_left
  · obtain ⟨_, _, hq⟩ := hq; cases hq
  obtain ⟨a2, ka2, hq⟩ := hq
  cases hq
  have ca2 : cK a2 = 18 := ka2.elim (fun q => q.1) (fun q => by rw [q]; exact (mK_p cq_d180).1)
  refine mj_T.eq (pc2 := 13) (st2 := [.ref a2, .ref 444]) ?_ rfl rfl rfl rfl
  refine mj_T.call rfl rfl (Nat.le_of_ble_eq_true rfl) (Nat.le_of_ble_eq_true rfl) (mV_of m 18 ca2 (by decide) rfl (by decide) rfl _) rfl (mj_Ok.up (by omega) (mZ_100 (D := 0) m ca2)) (fun v g3 hq => ?_) (fun i g3 hq => ?_)
  rotate_left
  · obtain ⟨_, _, hq⟩ := hq; cases hq
  obtain ⟨y4, jy4, hq⟩ := hq
  cases hq
  refine mj_T.eq (pc2 := 16) (st2 := [.long (jl y4), .ref 444]) ?_ rfl rfl rfl rfl
  refine mj_T.call rfl rfl (Nat.le_of_ble_eq_true rfl) (Nat.le_of_ble_eq_true rfl) (mV_of m 15 cq_d444 (by decide) rfl (by decide) rfl _) rfl (mj_Ok.up (by omega) (mZ_64 (D := 0) m b dg jy4)) (fun v g5 hq => ?_) (fun i g5 hq => ?_)
  rotate_left
  · obtain ⟨_, _, _, _, _, _, _, hq⟩ := hq; cases hq
  obtain ⟨V6, X9, _, m7, b8, f10, dg11, hq⟩ := hq
  cases hq
  refine mj_T.eq (pc2 := 19) (st2 := []) ?_ rfl rfl rfl rfl
  refine mj_T.pl rfl rfl rfl rfl ?_
  refine mj_T.pl (loc' := [some (.ref 444), some (.int (jn q)), some (.int (jn 0)), none]) rfl rfl rfl rfl ?_
  refine mj_T.pl rfl rfl rfl rfl ?_
  refine mj_T.pl (loc' := [some (.ref 444), some (.int (jn q)), some (.int (jn 0)), some (.int (jn 0))]) rfl rfl rfl rfl ?_
  exact mZ_66_l hw 2147483647 0 (by omega) (by omega) _ _ _ _ ⟨by decide, by decide⟩ m7 b8 ((FX.rf X).tr f10) dg11
end MLU
/-! Greatest common divisors of polynomials: primitive, the leading coefficient above 0. -/
theorem zs_front (f : Nat → Int) : ∀ n, zs (n + 1) f = f 0 + zs n (fun u => f (u + 1))
  | 0 => by
    show zs 0 f + f 0 = f 0 + zs 0 _
    show (0 : Int) + f 0 = f 0 + 0
    omega
  | n + 1 => by
    show zs (n + 1) f + f (n + 1) = f 0 + (zs n (fun u => f (u + 1)) + f (n + 1))
    rw [zs_front f n]
    omega
theorem zs_rev (f : Nat → Int) : ∀ n, zs n (fun u => f (n - 1 - u)) = zs n f
  | 0 => rfl
  | n + 1 => by
    rw [zs_front]
    show f (n + 1 - 1 - 0) + zs n (fun u => f (n + 1 - 1 - (u + 1))) = zs n f + f n
    rw [zs_congr (f := fun u => f (n + 1 - 1 - (u + 1))) (g := fun u => f (n - 1 - u)) (fun u hu => congrArg f (by omega)), zs_rev f n]
    rw [show n + 1 - 1 - 0 = n by omega]
    omega
theorem pz_mul_comm (A B : pz_P) : pz_mul A B = pz_mul B A := funext fun e => by
  show pz_c e A B = pz_c e B A
  rw [pz_c_zs, pz_c_zs, ← zs_rev]
  refine zs_congr (fun u hu => ?_)
  show A (e + 1 - 1 - u) * B (e - (e + 1 - 1 - u)) = B u * A (e - u)
  rw [show e + 1 - 1 - u = e - u by omega, show e - (e - u) = u by omega, Int.mul_comm]
/-- G is primitive, its leading coefficient (at dg) is above 0, it divides A and B, and what divides both divides it -/
def GP (A B G : pz_P) (dg : Nat) : Prop := pz_prim G ∧ 0 < G dg ∧ (∀ i, dg < i → G i = 0) ∧ (∃ (S : pz_P) (N : Nat), pz_lt S N ∧ A = pz_mul S G) ∧ (∃ (S : pz_P) (N : Nat), pz_lt S N ∧ B = pz_mul S G) ∧ ∀ H, qdv H A → qdv H B → qdv H G
theorem qdv_exact {A G : pz_P} (hG : pz_prim G) (h : qdv G A) : ∃ (S : pz_P) (N : Nat), pz_lt S N ∧ A = pz_mul S G := by
  obtain ⟨c, T, N, hc, hT, e⟩ := h
  obtain ⟨S, h1, h2⟩ := pz_exact hc hG e
  refine ⟨S, N, fun i hi => ?_, h2⟩
  have q := hT i hi
  rw [h1] at q
  have q : c * S i = 0 := q
  rcases Int.mul_eq_zero.mp q with z | z
  · exact absurd z hc
  · exact z
theorem qdv_of {A G S : pz_P} {N : Nat} (hS : pz_lt S N) (h : A = pz_mul S G) : qdv G A := ⟨1, S, N, by decide, hS, by rw [pz_sc_one]; exact h⟩
theorem qdv.tr {F G H : pz_P} (h : qdv F G) (k : qdv G H) : qdv F H := by
  obtain ⟨c, T, N, hc, hT, e⟩ := k
  refine qdv.un hc ?_
  rw [e]
  exact h.mul hT
theorem pz_pp {Z : pz_P} {dz : Nat} (h0 : Z dz ≠ 0) : ∃ (G : pz_P) (c : Int), c ≠ 0 ∧ Z = pz_sc c G ∧ pz_prim G ∧ 0 < G dz := by
  obtain ⟨t, u, ht, hu, hp⟩ := pz_content (Z dz).natAbs Z dz h0 (Nat.le_refl _)
  have hne : u dz ≠ 0 := fun q => h0 (by
    rw [hu]
    show (t : Int) * u dz = 0
    rw [q, Int.mul_zero])
  by_cases c : 0 < u dz
  · exact ⟨u, t, by omega, hu, hp, c⟩
  · refine ⟨pz_sc (-1) u, -t, by omega, ?_, fun k hk => hp k (fun i => ?_), ?_⟩
    · rw [pz_sc_sc, hu]
      congr 1
      omega
    · have q := hk i
      have q : (k : Int) ∣ -1 * u i := q
      rw [show -1 * u i = -(u i) by omega] at q
      exact Int.dvd_neg.mp q
    · show 0 < -1 * u dz
      omega
theorem gp_of {A B Z : pz_P} {dz : Nat} (hz : ∀ i, dz < i → Z i = 0) (h0 : Z dz ≠ 0) (hD : ∀ G, (qdv G A ∧ qdv G B) ↔ qdv G Z) : ∃ (G : pz_P) (c : Int), c ≠ 0 ∧ Z = pz_sc c G ∧ GP A B G dz := by
  obtain ⟨G, c, hc, hZ, hp, hl⟩ := pz_pp h0
  have hGZ : qdv G Z := by
    rw [hZ]
    exact (qdv.rf G).sc c
  have hAB := (hD G).mpr hGZ
  refine ⟨G, c, hc, hZ, hp, hl, fun i hi => ?_, qdv_exact hp hAB.1, qdv_exact hp hAB.2, fun H h1 h2 => ?_⟩
  · have q := hz i hi
    rw [hZ] at q
    have q : c * G i = 0 := q
    rcases Int.mul_eq_zero.mp q with z | z
    · exact absurd z hc
    · exact z
  · have q := (hD H).mp ⟨h1, h2⟩
    rw [hZ] at q
    exact q.un hc
/-- degrees and leading coefficients of a product -/
theorem pz_mul_deg {A S G : pz_P} {m dg N : Nat} (hA : pz_lt A (m + 1)) (hA0 : A m ≠ 0) (hG : pz_lt G (dg + 1)) (hG0 : G dg ≠ 0) (hS : pz_lt S N) (e : A = pz_mul S G) : ∃ ds, ds + dg = m ∧ pz_lt S (ds + 1) ∧ S ds ≠ 0 ∧ A m = S ds * G dg := by
  have hne : S ≠ pz_0 := fun q => hA0 (by rw [e, q, pz_mul_0L]; rfl)
  obtain ⟨ds, h1, h2, h3⟩ := kq_deg N S hS hne
  have hl := pz_c_lead ds S G dg h2 hG
  have hl2 : A (ds + dg) = S ds * G dg := by
    rw [e]
    exact hl
  have hm : ds + dg = m := by
    refine kq_lead_eq (u := A) (fun i hi => ?_) (by rw [hl2]; exact Int.mul_ne_zero h3 hG0) hA hA0
    rw [e]
    exact pz_lt.mul h2 hG (c := ds + dg + 1) (by omega) i hi
  exact ⟨ds, hm, h2, h3, by rw [← hm]; exact hl2⟩
theorem GP.lead {A B G : pz_P} {m dg : Nat} (h : GP A B G dg) (hA : pz_lt A (m + 1)) (hA0 : A m ≠ 0) : dg ≤ m ∧ G dg ∣ A m := by
  obtain ⟨hp, hl, hz, ⟨S, N, hS, e⟩, _, _⟩ := h
  obtain ⟨ds, h1, h2, h3, h4⟩ := pz_mul_deg (dg := dg) hA hA0 (fun i hi => hz i (by omega)) (by omega) hS e
  exact ⟨by omega, S ds, by rw [h4, Int.mul_comm]⟩
theorem GP.size {A B G : pz_P} {m dg M : Nat} (h : GP A B G dg) (hA : pz_lt A (m + 1)) (hA0 : A m ≠ 0) (hm : m ≤ 12) (hM : ∀ i, (A i).natAbs ≤ M) : ∀ i, (G i).natAbs ≤ M * 13 ^ 13 * 27 ^ 12 := by
  obtain ⟨hp, hl, hz, ⟨S, N, hS, e⟩, _, _⟩ := h
  obtain ⟨ds, h1, h2, h3, h4⟩ := pz_mul_deg (dg := dg) hA hA0 (fun i hi => hz i (by omega)) (by omega) hS e
  rw [pz_mul_comm] at e
  exact pz_factor (hA.mono (by omega)) (fun i hi => hz i (by omega)) (h2.mono (by omega)) e ⟨m, hA0⟩ hM
theorem GP.sy {A B G : pz_P} {dg : Nat} (h : GP A B G dg) : GP B A G dg := ⟨h.1, h.2.1, h.2.2.1, h.2.2.2.2.1, h.2.2.2.1, fun H h1 h2 => h.2.2.2.2.2 H h2 h1⟩
/-- there is one only -/
theorem qdv_prim {G H : pz_P} {dg dh : Nat} (hG : pz_prim G) (hg : 0 < G dg) (hgz : ∀ i, dg < i → G i = 0) (hH : pz_prim H) (hh : 0 < H dh) (hhz : ∀ i, dh < i → H i = 0) (h1 : qdv G H) (h2 : qdv H G) : dg = dh ∧ G = H := by
  obtain ⟨S, N, hS, e1⟩ := qdv_exact hG h1
  obtain ⟨T, K, hT, e2⟩ := qdv_exact hH h2
  obtain ⟨ds, a1, a2, a3, a4⟩ := pz_mul_deg (A := H) (m := dh) (fun i hi => hhz i (by omega)) (by omega) (G := G) (dg := dg) (fun i hi => hgz i (by omega)) (by omega) hS e1
  obtain ⟨dt, b1, b2, b3, b4⟩ := pz_mul_deg (A := G) (m := dg) (fun i hi => hgz i (by omega)) (by omega) (G := H) (dg := dh) (fun i hi => hhz i (by omega)) (by omega) hT e2
  have hd : dg = dh := by omega
  have ds0 : ds = 0 := by omega
  subst ds0
  refine ⟨hd, ?_⟩
  have hc : H = pz_sc (S 0) G := by
    rw [e1]
    funext i
    show pz_c i S G = S 0 * G i
    rw [pz_c_zs, zs_one (p := 0) (by omega) (fun j hj hn => by rw [a2 j (by omega), Int.zero_mul]), Nat.sub_zero]
  have hs1 : (S 0).natAbs = 1 := hH (S 0).natAbs (fun i => by
    rw [hc]
    show ((S 0).natAbs : Int) ∣ S 0 * G i
    exact Int.dvd_trans (Int.natAbs_dvd.mpr (Int.dvd_refl _)) (Int.dvd_mul_right _ _))
  have hs2 : S 0 = 1 := by
    rcases Int.natAbs_eq (S 0) with q | q
    · omega
    · have q2 : H dh = S 0 * G dh := congrFun hc dh
      rw [← hd] at q2
      have q3 : S 0 = -1 := by omega
      rw [q3] at q2
      rw [hd] at q2 hg
      omega
  rw [hc, hs2, pz_sc_one]
theorem GP.one {A B G H : pz_P} {dg dh : Nat} (g : GP A B G dg) (h : GP A B H dh) : dg = dh ∧ G = H := by
  obtain ⟨g1, g2, g3, ⟨S1, N1, s1, e1⟩, ⟨S2, N2, s2, e2⟩, g6⟩ := g
  obtain ⟨h1, h2, h3, ⟨T1, K1, t1, f1⟩, ⟨T2, K2, t2, f2⟩, h6⟩ := h
  exact qdv_prim g1 g2 g3 h1 h2 h3 (h6 G (qdv_of s1 e1) (qdv_of s2 e2)) (g6 H (qdv_of t1 f1) (qdv_of t2 f2))
/-! The roots of the class: takePrimitive gives the greatest common divisor itself. -/
theorem fdg_top {f : Nat → Int} {k d : Nat} (hd : d < k) (h1 : ∀ i, d < i → f i = 0) (h2 : f d ≠ 0) : fdg f k = d + 1 := fdg_of (by omega) (fun i a b => h1 i (by omega)) (Or.inr (by rw [Nat.add_sub_cancel]; exact h2))
theorem shg_prim {G : pz_P} {dg ld q : Nat} (hG : pz_prim G) (hz : ∀ i, dg < i → G i = 0) (hq : 1 ≤ q) (hl : (ld : Int) = G dg * q) {k : Nat} (hk : dg < k) : shg (fun e => (q : Int) * G e) ld k = q := by
  have h1 : q ∣ ld := Int.natCast_dvd_natCast.mp ⟨G dg, by rw [hl, Int.mul_comm]⟩
  have h2 : ∀ i, q ∣ ((q : Int) * G i).natAbs := fun i => by
    rw [Int.natAbs_mul, Int.natAbs_natCast]
    exact Nat.dvd_mul_right _ _
  have h3 := shg_max (fun e => (q : Int) * G e) ld q h1 k (fun i _ => h2 i)
  obtain ⟨h4, h5⟩ := shg_dvd (fun e => (q : Int) * G e) ld k
  obtain ⟨t, ht⟩ := h3
  have h6 : t = 1 := hG t (fun i => by
    by_cases c : i < k
    · have h7 := h5 i c
      rw [ht, Int.natAbs_mul, Int.natAbs_natCast] at h7
      exact Int.ofNat_dvd_left.mpr (Nat.dvd_of_mul_dvd_mul_left (by omega) h7)
    · rw [hz i (by omega)]
      exact ⟨0, (Int.mul_zero _).symm⟩)
  rw [ht, h6, Nat.mul_one]
section MTG
variable {g h : mj_H} {n D z : Nat} {V : Nat → Int} {X : Nat → Nat → Int}
theorem mR_takeG (m : jM g n V X h) {dz ld M : Nat} {A B G : pz_P} {c : Int} (kz : cK z = 13) (hz : 180 ≤ z) (hX : X z 2 = (dz : Int)) (hdz : dz < cL (z + 3)) (hc : c ≠ 0) (hZ : pcs V z = pz_sc c G) (hG : GP A B G dz) (hld : 1 ≤ ld) (hld2 : ld ≤ 9223372036854775807) (hdv : G dz ∣ (ld : Int)) (hM : ∀ i, (G i).natAbs ≤ M) (hfit : 9223372036854775807 * M < jB ^ 29) (hzz : ∀ e, jnl (pcs V z e).natAbs ≤ 60) : mj_Ok (D + 5) 60 [.ref 444, .ref z, .long (jl (ld : Int))] h (fun r => ∃ V2 h2, jM g n V2 (xup X 20 2 (dz : Int)) h2 ∧ (∀ e, e < 13 → V2 (20 + 4 + 2 * e) = G e) ∧ (∀ x, x ≠ 164 → x ≠ 166 → x ≠ 168 → x ≠ 170 → (x < 20 + 4 ∨ 20 + 4 + 2 * 13 ≤ x) → V2 x = V x) ∧ r = (.inl none, h2)) := by
  obtain ⟨hp, hl, hGz, _, _, _⟩ := hG
  obtain ⟨q0, hq0⟩ := hdv
  have hq1 : 0 < q0 := by
    rcases Int.lt_or_le 0 q0 with y | y
    · exact y
    · have := Int.mul_nonpos_of_nonneg_of_nonpos (Int.le_of_lt hl) y
      omega
  obtain ⟨q, hq⟩ : ∃ q : Nat, q0 = (q : Int) := ⟨q0.toNat, by omega⟩
  subst hq
  have hqld : q ≤ ld := by
    have h1 : (q : Int) ≤ G dz * q := by
      have := Int.mul_le_mul_of_nonneg_right (show (1 : Int) ≤ G dz by omega) (show (0 : Int) ≤ q by omega)
      rw [Int.one_mul] at this
      exact this
    omega
  have h13 := mP_13 kz hz
  have eZ : ∀ e, e < cL (z + 3) → V (z + 4 + 2 * e) = c * G e := fun e he => by
    rw [← pcs_in (V := V) (o := z) (i := e) he, hZ]
    rfl
  have hne : V (z + 4 + 2 * dz) ≠ 0 := by
    rw [eZ dz hdz]
    exact Int.mul_ne_zero hc (by omega)
  have hPl : ∀ e, jnl (((q : Int) * G e)).natAbs ≤ 29 := fun e => by
    refine jnl_B (al := 9223372036854775807 * M) ?_ hfit
    rw [Int.natAbs_mul, Int.natAbs_natCast]
    exact Nat.mul_le_mul (by omega) (hM e)
  have hf : fdg (fun e => (q : Int) * G e) 13 = dz + 1 := fdg_top (by omega) (fun i hi => by rw [hGz i hi, Int.mul_zero]) (Int.mul_ne_zero (by omega) (by omega))
  refine (mR_takeP (D := D) m (dz := dz) (ld := ld) (P := fun e => (q : Int) * G e) kz hz hX hdz hld hld2 hne (fun e he => ?_) (fun e he => by rw [hGz e he, Int.mul_zero]) hPl (fun e he => by rw [← pcs_in (V := V) (o := z) (i := e) he]; exact hzz e)).to fun r hr => ?_
  · rw [eZ e (by omega), eZ dz hdz, hq0]
    ac_rfl
  · obtain ⟨V2, h2, m2, f1, f2, hr⟩ := hr
    rw [hf, shg_prim hp hGz (by omega) hq0 (show dz < dz + 1 by omega)] at f1
    rw [hf, show ((dz + 1 : Nat) : Int) - 1 = (dz : Int) by omega] at m2
    refine ⟨V2, h2, m2, fun e he => ?_, f2, hr⟩
    rw [f1 e he]
    exact Int.mul_tdiv_cancel_left _ (by omega)
end MTG
/-! The desk of the class, exactly: a division without rest. -/
/-- the lower coefficients -/
def tk (S : pz_P) (k : Nat) : pz_P := fun i => if i < k then S i else 0
theorem tk_succ (S : pz_P) (k : Nat) : tk S (k + 1) = pz_add (tk S k) (pz_mono k (S k)) := funext fun i => by
  show (if i < k + 1 then S i else 0) = (if i < k then S i else 0) + (if i = k then S k else 0)
  by_cases c : i = k
  · subst c
    rw [if_pos (by omega), if_neg (by omega), if_pos rfl]
    omega
  · by_cases d : i < k
    · rw [if_pos (by omega), if_pos d, if_neg c]
      omega
    · rw [if_neg (by omega), if_neg d, if_neg c]
      rfl
theorem tk_mul (S G : pz_P) (k e : Nat) : pz_mul (tk S (k + 1)) G e = pz_mul (tk S k) G e + if k ≤ e then S k * G (e - k) else 0 := by
  rw [tk_succ, pz_mul_addL]
  show pz_mul (tk S k) G e + pz_c e (pz_mono k (S k)) G = _
  rw [pz_mono_mul]
theorem tk_lt (S : pz_P) (k : Nat) : pz_lt (tk S k) k := fun i hi => if_neg (by omega)
theorem tk_all {S : pz_P} {k : Nat} (h : pz_lt S k) : tk S k = S := funext fun i => by
  unfold tk
  by_cases c : i < k
  · rw [if_pos c]
  · rw [if_neg c, h i (by omega)]
theorem tk_0 (S G : pz_P) (e : Nat) : pz_mul (tk S 0) G e = 0 := by
  rw [show tk S 0 = pz_0 from funext fun i => if_neg (Nat.not_lt_zero i), pz_mul_0L]
  rfl
theorem tk_lead {S G : pz_P} {dg : Nat} (hG : ∀ i, dg < i → G i = 0) (k : Nat) : pz_mul (tk S (k + 1)) G (dg + k) = S k * G dg := by
  have h := pz_c_lead k (tk S (k + 1)) G dg (tk_lt S (k + 1)) (fun i hi => hG i (by omega))
  rw [Nat.add_comm dg k]
  refine Eq.trans (show _ = pz_c (k + dg) (tk S (k + 1)) G from rfl) (h.trans ?_)
  show (if k < k + 1 then S k else 0) * G dg = _
  rw [if_pos (Nat.lt_succ_self k)]
theorem tk_abs {S G : pz_P} {M : Nat} (hS : ∀ i, (S i).natAbs ≤ M) (hG : ∀ i, (G i).natAbs ≤ M) {k : Nat} (hk : k ≤ 13) (e : Nat) : (pz_mul (tk S k) G e).natAbs ≤ 14 * (M * M) := pz_mul_abs (fun i => by
  unfold tk
  split
  · exact hS i
  · exact Nat.zero_le _) hG (fun i hi => tk_lt S k i (by omega)) e
section MDX
variable {g h : mj_H} {n D : Nat} {V : Nat → Int} {X : Nat → Nat → Int}
theorem mD_ex_in {dg ds M k : Nat} {S G : pz_P} {V0 : Nat → Int} (h2 : X 20 2 = (dg : Int)) (h8 : X 80 2 = ((dg + ds : Nat) : Int)) (hd : dg + ds < 13) (hS : pz_lt S (ds + 1)) (hS0 : S ds ≠ 0) (hG : ∀ i, dg < i → G i = 0) (hG0 : G dg ≠ 0) (hSM : ∀ i, (S i).natAbs ≤ M) (hGM : ∀ i, (G i).natAbs ≤ M) (hfit : 15 * (M * M) < jB ^ 200) (hM : M < jB ^ 29) (hk : k ≤ ds) (hV0 : ∀ e, e < 13 → V0 (20 + 4 + 2 * e) = G e) {Q : mj_R → Prop} (hend : ∀ (V1 : Nat → Int) (h1 : mj_H), jM g n V1 (xup X 50 2 (-1)) h1 → (∀ e, e < 13 → V1 (80 + 4 + 2 * e) = (pz_mul (tk S k) G e)) → V1 (50 + 4 + 2 * k) = S k → (∀ x, x ≠ 166 → (x < 80 + 4 ∨ 80 + 4 + 2 * 13 ≤ x) → V1 x = V0 x) → mj_T (D + 3) mj_m19 136 [some (.ref 19), some (.ref 20), some (.ref 50), some (.int (jn (k : Int))), some (.ref (50 + 4 + 2 * k)), some (.int (jn ((dg + 1 : Nat) : Int)))] [] h1 Q) : ∀ u j, j + u = dg + 1 → ∀ (V1 : Nat → Int) (h1 : mj_H), jM g n V1 (xup X 50 2 (-1)) h1 → (∀ e, e < 13 → V1 (80 + 4 + 2 * e) = (pz_mul (tk S (k + 1)) G e - if k ≤ e ∧ e < k + j then S k * G (e - k) else 0)) → V1 (50 + 4 + 2 * k) = S k → (∀ x, x ≠ 166 → (x < 80 + 4 ∨ 80 + 4 + 2 * 13 ≤ x) → V1 x = V0 x) → mj_T (D + 3) mj_m19 87 [some (.ref 19), some (.ref 20), some (.ref 50), some (.int (jn (k : Int))), some (.ref (50 + 4 + 2 * k)), some (.int (jn (j : Int)))] [] h1 Q
  | 0, j, hj, V1, hh1, m, e1, e2, e3 => by
    have p20 : cL (20 + 3) = 13 := mK_z.1
    have p50 : cL (50 + 3) = 13 := mK_z.2.1
    have p80 : cL (80 + 3) = 13 := mK_z.2.2.1
    have c1 : cL (164 + 1) = 240 := mK_z.2.2.2.2.2.2.2.1
    have c2 : cL (166 + 1) = 240 := mK_z.2.2.2.2.2.2.2.2.1
    have c4 : cL (170 + 1) = 60 := mK_z.2.2.2.2.2.2.2.2.2.2.1
    iterate 2 refine mj_T.pl rfl rfl rfl rfl ?_
    refine mT_get (v := .int (jn ((dg : Nat) : Int))) m 13 cq_d20 (by decide) rfl (congrArg (fun z : Int => some (Value.int (jn z))) ((congrFun (xup_oth (by decide)) 2).trans h2)) ?_
    refine mj_T.icmp (a := ((j : Nat) : Int)) (b := ((dg : Nat) : Int)) rfl ⟨by omega, by omega⟩ ⟨by omega, by omega⟩ (fun c1 => ?_) (fun c1 => ?_)
    · simp only [jc, Bool.not_eq_true', Bool.not_eq_false', decide_eq_true_eq, decide_eq_false_iff_not] at c1
      have hj2 : j = dg + 1 := by omega
      subst hj2
      refine hend V1 _ m (fun e he => ?_) e2 e3
      rw [e1 e he, tk_mul]
      by_cases q : k ≤ e
      · rw [if_pos q]
        by_cases y : e < k + (dg + 1)
        · rw [if_pos ⟨q, y⟩]
          omega
        · rw [if_neg (fun z => y z.2), hG (e - k) (by omega), Int.mul_zero]
          omega
      · rw [if_neg q, if_neg (fun z => q z.1)]
        omega
    · exfalso
      simp only [jc, Bool.not_eq_true', Bool.not_eq_false', decide_eq_true_eq, decide_eq_false_iff_not] at c1
      omega
  | u + 1, j, hj, V1, hh1, m, e1, e2, e3 => by
    have p20 : cL (20 + 3) = 13 := mK_z.1
    have p50 : cL (50 + 3) = 13 := mK_z.2.1
    have p80 : cL (80 + 3) = 13 := mK_z.2.2.1
    have c1 : cL (164 + 1) = 240 := mK_z.2.2.2.2.2.2.2.1
    have c2 : cL (166 + 1) = 240 := mK_z.2.2.2.2.2.2.2.2.1
    have c4 : cL (170 + 1) = 60 := mK_z.2.2.2.2.2.2.2.2.2.2.1
    have ej : V1 (20 + 4 + 2 * j) = G j := (e3 _ (by omega) (by omega)).trans (hV0 j (by omega))
    have c80 : cL (80 + 4 + 2 * (j + k) + 1) = 236 := (mK_z.2.2.2.2.1 (j + k) (by omega)).2.2
    have hSG : (S k * G j).natAbs ≤ M * M := by
      rw [Int.natAbs_mul]
      exact Nat.mul_le_mul (hSM k) (hGM j)
    have hpr : jnl (S k * G j).natAbs ≤ 200 := jnl_B hSG (by omega)
    have hres : jnl ((pz_mul (tk S (k + 1)) G (j + k) - if k ≤ j + k ∧ j + k < k + j then S k * G (j + k - k) else 0) + -1 * (S k * G j)).natAbs ≤ 236 := by
      have a1 := tk_abs hSM hGM (show k + 1 ≤ 13 by omega) (j + k)
      rw [if_neg (by omega)]
      exact Nat.le_trans (jnl_B (al := 15 * (M * M)) (by omega) hfit) (by decide)
    iterate 2 refine mj_T.pl rfl rfl rfl rfl ?_
    refine mT_get (v := .int (jn ((dg : Nat) : Int))) m 13 cq_d20 (by decide) rfl (congrArg (fun z : Int => some (Value.int (jn z))) ((congrFun (xup_oth (by decide)) 2).trans h2)) ?_
    refine mj_T.icmp (a := ((j : Nat) : Int)) (b := ((dg : Nat) : Int)) rfl ⟨by omega, by omega⟩ ⟨by omega, by omega⟩ (fun c1 => ?_) (fun c1 => ?_)
    · exfalso
      simp only [jc, Bool.not_eq_true', Bool.not_eq_false', decide_eq_true_eq, decide_eq_false_iff_not] at c1
      omega
    · simp only [jc, Bool.not_eq_true', Bool.not_eq_false', decide_eq_true_eq, decide_eq_false_iff_not] at c1
      refine mj_T.pl rfl rfl rfl rfl ?_
      refine mT_get m 11 cq_d19 (by decide) rfl rfl ?_
      iterate 3 refine mj_T.pl rfl rfl rfl rfl ?_
      refine mj_T.call rfl rfl (Nat.le_of_ble_eq_true rfl) (Nat.le_of_ble_eq_true rfl) (mV_of m 13 cq_d20 (by decide) rfl (by decide) rfl _) rfl (mj_Ok.up (by omega) (mP_at (D := 0) m cq_d20 (e := j) (by omega))) (fun v g2 hq => ?_) (fun i g2 hq => ?_)
      rotate_left
      · cases hq
      cases hq
      refine mj_T.eq (pc2 := 108) (st2 := [.ref (20 + 4 + 2 * j), .ref (50 + 4 + 2 * k), .ref 166]) ?_ rfl rfl rfl rfl
      refine mj_T.call rfl rfl (Nat.le_of_ble_eq_true rfl) (Nat.le_of_ble_eq_true rfl) (mV_of m 18 cq_d166 (by decide) rfl (by decide) rfl _) rfl (mj_Ok.up (by omega) (mW_setProduct (D := 0) m cq_d166 ((mK_p cq_d50).2.2.2 k (by omega)) ((mK_p cq_d20).2.2.2 _ (by omega)) (by omega) (by omega) (by omega) (by rw [(rfl : V1 (50 + 4 + 2 * k) = _), (rfl : V1 (20 + 4 + 2 * j) = _)]; exact (by rw [ej, e2]; exact Nat.le_trans hpr (by omega))) (hca := by rw [(rfl : V1 (50 + 4 + 2 * k) = _)]; rw [e2]; exact Nat.le_trans (jnl_B (hSM k) hM) (by decide)) (hcb := by rw [(rfl : V1 (20 + 4 + 2 * j) = _)]; rw [ej]; exact Nat.le_trans (jnl_B (hGM j) hM) (by decide)))) (fun v g3 hq => ?_) (fun i g3 hq => ?_)
      rotate_left
      · obtain ⟨_, _, hq⟩ := hq; cases hq
      obtain ⟨_, m4, hq⟩ := hq
      cases hq
      have m4 := m4.to (V' := (jvu V1 166 ((V1 (50 + 4 + 2 * k)) * (V1 (20 + 4 + 2 * j))))) (by rw [(rfl : V1 (50 + 4 + 2 * k) = _), (rfl : V1 (20 + 4 + 2 * j) = _)]) rfl
      refine mj_T.eq (pc2 := 111) (st2 := []) ?_ rfl rfl rfl rfl
      refine mj_T.pl rfl rfl rfl rfl ?_
      refine mT_get m4 11 cq_d19 (by decide) rfl rfl ?_
      iterate 2 refine mj_T.pl rfl rfl rfl rfl ?_
      refine mj_T.iadd (a := ((j : Nat) : Int)) (b := ((k : Nat) : Int)) rfl ?_
      rw [show (((j : Nat) : Int) + ((k : Nat) : Int)) = ((j + k : Nat) : Int) by omega]
      refine mj_T.call rfl rfl (Nat.le_of_ble_eq_true rfl) (Nat.le_of_ble_eq_true rfl) (mV_of m4 13 cq_d80 (by decide) rfl (by decide) rfl _) rfl (mj_Ok.up (by omega) (mP_at (D := 0) m4 cq_d80 (e := j + k) (by omega))) (fun v g5 hq => ?_) (fun i g5 hq => ?_)
      rotate_left
      · cases hq
      cases hq
      refine mj_T.eq (pc2 := 122) (st2 := [.ref (80 + 4 + 2 * (j + k))]) ?_ rfl rfl rfl rfl
      refine mj_T.pl rfl rfl rfl rfl ?_
      refine mT_get m4 11 cq_d19 (by decide) rfl rfl ?_
      refine mj_T.pl rfl rfl rfl rfl ?_
      refine mj_T.call rfl rfl (Nat.le_of_ble_eq_true rfl) (Nat.le_of_ble_eq_true rfl) (mV_of m4 18 ((mK_p cq_d80).2.2.2 _ (by omega)) (by decide) rfl (by decide) rfl _) rfl (mj_Ok.up (by omega) (mW_plus (D := 0) (f := (-1)) m4 ((mK_p cq_d80).2.2.2 _ (by omega)) cq_d166 (by omega) (Or.inr rfl) (by rw [(jvu_at _ _ _)]; exact (by rw [c80, ej, e2]; exact Nat.le_trans hpr (by omega))) (by rw [((jvu_ne _ _ _ (by omega)).trans (rfl : V1 (80 + 4 + 2 * (j + k)) = _)), (jvu_at _ _ _)]; exact (by rw [c80, e1 _ (by omega), ej, e2]; exact hres)))) (fun v g6 hq => ?_) (fun i g6 hq => ?_)
      rotate_left
      · obtain ⟨_, _, hq⟩ := hq; cases hq
      obtain ⟨_, m7, hq⟩ := hq
      cases hq
      have m7 := m7.to (V' := (jvu (jvu V1 166 ((V1 (50 + 4 + 2 * k)) * (V1 (20 + 4 + 2 * j)))) (80 + 4 + 2 * (j + k)) ((V1 (80 + 4 + 2 * (j + k))) + (-1) * ((V1 (50 + 4 + 2 * k)) * (V1 (20 + 4 + 2 * j)))))) (by rw [((jvu_ne _ _ _ (by omega)).trans (rfl : V1 (80 + 4 + 2 * (j + k)) = _)), (jvu_at _ _ _)]) rfl
      refine mj_T.eq (pc2 := 130) (st2 := []) ?_ rfl rfl rfl rfl
      refine mj_T.iinc rfl rfl ?_
      rw [show ((j : Nat) : Int) + 1 = ((j + 1 : Nat) : Int) by omega]
      refine mj_T.eq (loc2 := [some (.ref 19), some (.ref 20), some (.ref 50), some (.int (jn ((k : Nat) : Int))), some (.ref (50 + 4 + 2 * k)), some (.int (jn (((j + 1) : Nat) : Int)))]) ?_ rfl rfl rfl rfl
      refine mj_T.pl rfl rfl rfl rfl ?_
      refine mD_ex_in h2 h8 hd hS hS0 hG hG0 hSM hGM hfit hM hk hV0 hend u (j + 1) (by omega) _ _ m7 (fun e he => ?_) ?_ (fun x x1 x2 => ?_)
      · by_cases q : e = j + k
        · subst q
          rw [jvu_at, e1 _ he, ej, e2, if_neg (by omega), if_pos (by omega), show j + k - k = j by omega]
          omega
        · rw [jvu_ne _ _ _ (by omega), jvu_ne _ _ _ (by omega), e1 e he]
          by_cases y : k ≤ e ∧ e < k + j
          · rw [if_pos y, if_pos (by omega)]
          · rw [if_neg y, if_neg (by omega)]
      · rw [((jvu_ne _ _ _ (by omega)).trans ((jvu_ne _ _ _ (by omega)).trans (rfl : V1 (50 + 4 + 2 * k) = _)))]
        exact e2
      · rw [((jvu_ne _ _ _ (by omega)).trans ((jvu_ne _ _ _ (by omega)).trans (rfl : V1 x = _)))]
        exact e3 x x1 x2
theorem mD_ex_out {dg ds M : Nat} {S G : pz_P} (h2 : X 20 2 = (dg : Int)) (h8 : X 80 2 = ((dg + ds : Nat) : Int)) (hd : dg + ds < 13) (hS : pz_lt S (ds + 1)) (hS0 : S ds ≠ 0) (hG : ∀ i, dg < i → G i = 0) (hG0 : G dg ≠ 0) (hSM : ∀ i, (S i).natAbs ≤ M) (hGM : ∀ i, (G i).natAbs ≤ M) (hfit : 15 * (M * M) < jB ^ 200) (hM : M < jB ^ 29) (hV : ∀ e, e < 13 → V (20 + 4 + 2 * e) = G e) : ∀ k, k ≤ ds + 1 → ∀ (V1 : Nat → Int) (h1 : mj_H) (l4 l5 : Option Value), jM g n V1 (xup X 50 2 (-1)) h1 → (∀ e, e < 13 → V1 (80 + 4 + 2 * e) = pz_mul (tk S k) G e) → (∀ e, e < 13 → V1 (50 + 4 + 2 * e) = if k ≤ e then S e else 0) → V1 170 = G dg → (∀ x, x ≠ 164 → x ≠ 166 → x ≠ 170 → (x < 50 + 4 ∨ 50 + 4 + 2 * 13 ≤ x) → (x < 80 + 4 ∨ 80 + 4 + 2 * 13 ≤ x) → V1 x = V x) → mj_T (D + 3) mj_m19 28 [some (.ref 19), some (.ref 20), some (.ref 50), some (.int (jn ((k : Int) - 1))), l4, l5] [] h1 (fun z => ∃ (V2 : Nat → Int) (h2 : mj_H), jM g n V2 (xup (xup X 50 2 (ds : Int)) 80 2 (-1)) h2 ∧ (∀ e, e < 13 → V2 (50 + 4 + 2 * e) = S e) ∧ (∀ x, x ≠ 164 → x ≠ 166 → x ≠ 170 → (x < 50 + 4 ∨ 50 + 4 + 2 * 13 ≤ x) → (x < 80 + 4 ∨ 80 + 4 + 2 * 13 ≤ x) → V2 x = V x) ∧ z = (.inl (some (.int (jn 1))), h2))
  | 0, hk, V1, hh1, l4, l5, m, e1, e2, e3, e4 => by
    have p20 : cL (20 + 3) = 13 := mK_z.1
    have p50 : cL (50 + 3) = 13 := mK_z.2.1
    have p80 : cL (80 + 3) = 13 := mK_z.2.2.1
    have c1 : cL (164 + 1) = 240 := mK_z.2.2.2.2.2.2.2.1
    have c2 : cL (166 + 1) = 240 := mK_z.2.2.2.2.2.2.2.2.1
    have c4 : cL (170 + 1) = 60 := mK_z.2.2.2.2.2.2.2.2.2.2.1
    refine mj_T.pl rfl rfl rfl rfl ?_
    refine mj_T.if0 (a := (((0 : Nat) : Int) - 1)) rfl ⟨by omega, by omega⟩ (fun c1 => ?_) (fun c1 => ?_)
    · simp only [jc, Bool.not_eq_true', Bool.not_eq_false', decide_eq_true_eq, decide_eq_false_iff_not] at c1
      refine mj_T.pl rfl rfl rfl rfl ?_
      have eS : ∀ e, e < 13 → pco V1 50 e = S e := fun e he => by
        show V1 (50 + 4 + 2 * e) = S e
        rw [e2 e he, if_pos (Nat.zero_le _)]
      have eR : ∀ e, e < 13 → pco V1 80 e = (fun _ => (0 : Int)) e := fun e he => by
        show V1 (80 + 4 + 2 * e) = 0
        rw [e1 e he, tk_0]
      have hfS : fdg S 13 = ds + 1 := fdg_top (by omega) (fun i hi => hS i (by omega)) hS0
      refine mj_T.call rfl rfl (Nat.le_of_ble_eq_true rfl) (Nat.le_of_ble_eq_true rfl) (mV_of m 13 cq_d50 (by decide) rfl (by decide) rfl _) rfl (mj_Ok.up (by omega) (mP_settle (D := 0) m cq_d50 (fun e he => by rw [p50] at he; have q := eS e he; unfold pco at q; rw [q]; exact Nat.le_trans (jnl_B (hSM e) hM) (by decide)))) (fun v g2 hq => ?_) (fun i g2 hq => ?_)
      rotate_left
      · obtain ⟨_, _, hq⟩ := hq; cases hq
      obtain ⟨_, m3, hq⟩ := hq
      cases hq
      rw [p50, xup_xup, fdg_congr 13 eS, hfS, show ((ds + 1 : Nat) : Int) - 1 = (ds : Int) by omega] at m3
      refine mj_T.eq (pc2 := 146) (st2 := []) ?_ rfl rfl rfl rfl
      refine mj_T.pl rfl rfl rfl rfl ?_
      refine mT_get m3 11 cq_d19 (by decide) rfl rfl ?_
      refine mj_T.call rfl rfl (Nat.le_of_ble_eq_true rfl) (Nat.le_of_ble_eq_true rfl) (mV_of m3 13 cq_d80 (by decide) rfl (by decide) rfl _) rfl (mj_Ok.up (by omega) (mP_settle (D := 0) m3 cq_d80 (fun e he => by rw [p80] at he; have q := eR e he; unfold pco at q; rw [q]; exact Nat.le_trans (Nat.le_of_eq jnl_zero) (Nat.zero_le _)))) (fun v g4 hq => ?_) (fun i g4 hq => ?_)
      rotate_left
      · obtain ⟨_, _, hq⟩ := hq; cases hq
      obtain ⟨_, m5, hq⟩ := hq
      cases hq
      rw [p80, fdg_congr 13 eR, show ((fdg (fun _ => (0 : Int)) 13 : Nat) : Int) - 1 = -1 by decide] at m5
      refine mj_T.eq (pc2 := 153) (st2 := []) ?_ rfl rfl rfl rfl
      refine mj_T.pl rfl rfl rfl rfl ?_
      refine mT_get m5 11 cq_d19 (by decide) rfl rfl ?_
      refine mT_get (v := .int (jn (-1))) m5 13 cq_d80 (by decide) rfl (congrArg (fun z : Int => some (Value.int (jn z))) (xup_at _ _ _ _)) ?_
      refine mj_T.if0 (a := (-1)) rfl ⟨by omega, by omega⟩ (fun c6 => ?_) (fun c6 => ?_)
      · exfalso
        simp only [jc, Bool.not_eq_true', Bool.not_eq_false', decide_eq_true_eq, decide_eq_false_iff_not] at c6
        omega
      · simp only [jc, Bool.not_eq_true', Bool.not_eq_false', decide_eq_true_eq, decide_eq_false_iff_not] at c6
        iterate 2 refine mj_T.pl rfl rfl rfl rfl ?_
        exact mj_T.ret rfl rfl rfl ⟨V1, _, m5, fun e he => eS e he, e4, rfl⟩
    · exfalso
      simp only [jc, Bool.not_eq_true', Bool.not_eq_false', decide_eq_true_eq, decide_eq_false_iff_not] at c1
      omega
  | k + 1, hk, V1, hh1, l4, l5, m, e1, e2, e3, e4 => by
    have p20 : cL (20 + 3) = 13 := mK_z.1
    have p50 : cL (50 + 3) = 13 := mK_z.2.1
    have p80 : cL (80 + 3) = 13 := mK_z.2.2.1
    have c1 : cL (164 + 1) = 240 := mK_z.2.2.2.2.2.2.2.1
    have c2 : cL (166 + 1) = 240 := mK_z.2.2.2.2.2.2.2.2.1
    have c4 : cL (170 + 1) = 60 := mK_z.2.2.2.2.2.2.2.2.2.2.1
    have et : V1 (80 + 4 + 2 * (dg + k)) = S k * G dg := (e1 _ (by omega)).trans (tk_lead hG k)
    have c50 : cL (50 + 4 + 2 * k + 1) = 30 := (mK_z.2.2.2.2.1 k (by omega)).2.1
    have ht : jnl (S k * G dg).natAbs ≤ 200 := by
      refine jnl_B (al := 15 * (M * M)) ?_ hfit
      rw [Int.natAbs_mul]
      have := Nat.mul_le_mul (hSM k) (hGM dg)
      omega
    rw [show ((k + 1 : Nat) : Int) - 1 = (k : Int) by omega]
    refine mj_T.pl rfl rfl rfl rfl ?_
    refine mj_T.if0 (a := ((k : Nat) : Int)) rfl ⟨by omega, by omega⟩ (fun c1 => ?_) (fun c1 => ?_)
    · exfalso
      simp only [jc, Bool.not_eq_true', Bool.not_eq_false', decide_eq_true_eq, decide_eq_false_iff_not] at c1
      omega
    · simp only [jc, Bool.not_eq_true', Bool.not_eq_false', decide_eq_true_eq, decide_eq_false_iff_not] at c1
      iterate 2 refine mj_T.pl rfl rfl rfl rfl ?_
      refine mj_T.call rfl rfl (Nat.le_of_ble_eq_true rfl) (Nat.le_of_ble_eq_true rfl) (mV_of m 13 cq_d50 (by decide) rfl (by decide) rfl _) rfl (mj_Ok.up (by omega) (mP_at (D := 0) m cq_d50 (e := k) (by omega))) (fun v g2 hq => ?_) (fun i g2 hq => ?_)
      rotate_left
      · cases hq
      cases hq
      refine mj_T.eq (pc2 := 37) (st2 := [.ref (50 + 4 + 2 * k)]) ?_ rfl rfl rfl rfl
      refine mj_T.pl (loc' := [some (.ref 19), some (.ref 20), some (.ref 50), some (.int (jn ((k : Nat) : Int))), some (.ref (50 + 4 + 2 * k)), l5]) rfl rfl rfl rfl ?_
      refine mj_T.pl rfl rfl rfl rfl ?_
      refine mT_get m 11 cq_d19 (by decide) rfl rfl ?_
      refine mj_T.pl rfl rfl rfl rfl ?_
      refine mT_get m 11 cq_d19 (by decide) rfl rfl ?_
      refine mj_T.pl rfl rfl rfl rfl ?_
      refine mT_get (v := .int (jn ((dg : Nat) : Int))) m 13 cq_d20 (by decide) rfl (congrArg (fun z : Int => some (Value.int (jn z))) ((congrFun (xup_oth (by decide)) 2).trans h2)) ?_
      refine mj_T.pl rfl rfl rfl rfl ?_
      refine mj_T.iadd (a := ((dg : Nat) : Int)) (b := ((k : Nat) : Int)) rfl ?_
      rw [show (((dg : Nat) : Int) + ((k : Nat) : Int)) = ((dg + k : Nat) : Int) by omega]
      refine mj_T.call rfl rfl (Nat.le_of_ble_eq_true rfl) (Nat.le_of_ble_eq_true rfl) (mV_of m 13 cq_d80 (by decide) rfl (by decide) rfl _) rfl (mj_Ok.up (by omega) (mP_at (D := 0) m cq_d80 (e := dg + k) (by omega))) (fun v g3 hq => ?_) (fun i g3 hq => ?_)
      rotate_left
      · cases hq
      cases hq
      refine mj_T.eq (pc2 := 56) (st2 := [.ref (80 + 4 + 2 * (dg + k)), .ref 164]) ?_ rfl rfl rfl rfl
      refine mj_T.call rfl rfl (Nat.le_of_ble_eq_true rfl) (Nat.le_of_ble_eq_true rfl) (mV_of m 18 cq_d164 (by decide) rfl (by decide) rfl _) rfl (mj_Ok.up (by omega) (mW_set (D := 0) m cq_d164 ((mK_p cq_d80).2.2.2 _ (by omega)) (by omega) (by rw [(rfl : V1 (80 + 4 + 2 * (dg + k)) = _)]; exact (by rw [et]; exact Nat.le_trans ht (by omega))))) (fun v g4 hq => ?_) (fun i g4 hq => ?_)
      rotate_left
      · obtain ⟨_, _, hq⟩ := hq; cases hq
      obtain ⟨_, m5, hq⟩ := hq
      cases hq
      have m5 := m5.to (V' := (jvu V1 164 (V1 (80 + 4 + 2 * (dg + k))))) (by rw [(rfl : V1 (80 + 4 + 2 * (dg + k)) = _)]) rfl
      refine mj_T.eq (pc2 := 59) (st2 := []) ?_ rfl rfl rfl rfl
      refine mj_T.pl rfl rfl rfl rfl ?_
      refine mT_get m5 11 cq_d19 (by decide) rfl rfl ?_
      refine mj_T.pl rfl rfl rfl rfl ?_
      refine mT_get m5 11 cq_d19 (by decide) rfl rfl ?_
      refine mj_T.pl rfl rfl rfl rfl ?_
      refine mj_T.call rfl rfl (Nat.le_of_ble_eq_true rfl) (Nat.le_of_ble_eq_true rfl) (mV_of m5 12 cq_d170 (by decide) rfl (by decide) rfl _) rfl (mj_Ok.up (by omega) (mW_split (D := 0) m5 cq_d170 cq_d164 ((mK_p cq_d50).2.2.2 _ (by omega)) (by omega) (by rw [(jvu_at _ _ _), ((jvu_ne _ _ _ (by omega)).trans (rfl : V1 170 = _))]; exact (by rw [et, e3]; exact jfa_one (by omega))) (by rw [(jvu_at _ _ _), ((jvu_ne _ _ _ (by omega)).trans (rfl : V1 170 = _))]; exact (by rw [et, e3, Int.mul_tdiv_cancel _ hG0, c50]; exact Nat.le_trans (jnl_B (hSM k) hM) (by decide))) (hcc := by rw [((jvu_ne _ _ _ (by omega)).trans (rfl : V1 170 = _))]; rw [e3]; exact Nat.le_trans (jnl_B (hGM dg) hM) (by decide)))) (fun v g6 hq => ?_) (fun i g6 hq => ?_)
      rotate_left
      · obtain ⟨_, _, hq⟩ := hq; cases hq
      obtain ⟨_, m7, hq⟩ := hq
      cases hq
      have m7 := m7.to (V' := (jvu (jvu (jvu V1 164 (V1 (80 + 4 + 2 * (dg + k)))) 164 ((V1 (80 + 4 + 2 * (dg + k))).tmod (V1 170))) (50 + 4 + 2 * k) ((V1 (80 + 4 + 2 * (dg + k))).tdiv (V1 170)))) (by rw [(jvu_at _ _ _), ((jvu_ne _ _ _ (by omega)).trans (rfl : V1 170 = _))]) rfl
      refine mj_T.eq (pc2 := 72) (st2 := []) ?_ rfl rfl rfl rfl
      refine mj_T.pl rfl rfl rfl rfl ?_
      refine mT_get m7 11 cq_d19 (by decide) rfl rfl ?_
      refine mT_sg m7 cq_d164 rfl ?_ (hcl := by rw [((jvu_ne _ _ _ (by omega)).trans (jvu_at _ _ _)), et, e3, Int.mul_tmod_left]; exact Nat.le_trans (Nat.le_of_eq jnl_zero) (Nat.zero_le _))
      refine mj_T.if0 (a := (jsg ((jvu (jvu (jvu V1 164 (V1 (80 + 4 + 2 * (dg + k)))) 164 ((V1 (80 + 4 + 2 * (dg + k))).tmod (V1 170))) (50 + 4 + 2 * k) ((V1 (80 + 4 + 2 * (dg + k))).tdiv (V1 170))) 164))) rfl (jsg_r _) (fun c8 => ?_) (fun c8 => ?_)
      · simp only [jc, Bool.not_eq_true', Bool.not_eq_false', decide_eq_true_eq, decide_eq_false_iff_not] at c8
        refine mj_T.pl rfl rfl rfl rfl ?_
        refine mj_T.pl (loc' := [some (.ref 19), some (.ref 20), some (.ref 50), some (.int (jn ((k : Nat) : Int))), some (.ref (50 + 4 + 2 * k)), some (.int (jn 0))]) rfl rfl rfl rfl ?_
        refine mj_T.eq (loc2 := [some (.ref 19), some (.ref 20), some (.ref 50), some (.int (jn (k : Int))), some (.ref (50 + 4 + 2 * k)), some (.int (jn ((0 : Nat) : Int)))]) ?_ rfl rfl rfl rfl
        refine mD_ex_in h2 h8 hd hS hS0 hG hG0 hSM hGM hfit hM (V0 := (jvu (jvu (jvu V1 164 (V1 (80 + 4 + 2 * (dg + k)))) 164 ((V1 (80 + 4 + 2 * (dg + k))).tmod (V1 170))) (50 + 4 + 2 * k) ((V1 (80 + 4 + 2 * (dg + k))).tdiv (V1 170)))) (by omega) (fun e he => ?_) (fun V3 h3 m3 f1 f2 f3 => ?_) (dg + 1) 0 (by omega) _ _ m7 (fun e he => ?_) ?_ (fun _ _ _ => rfl)
        · rw [((jvu_ne _ _ _ (by omega)).trans ((jvu_ne _ _ _ (by omega)).trans ((jvu_ne _ _ _ (by omega)).trans (rfl : V1 (20 + 4 + 2 * e) = _)))), e4 _ (by omega) (by omega) (by omega) (by omega) (by omega)]
          exact hV e he
        rotate_left
        · rw [jvu_ne _ _ _ (by omega), jvu_ne _ _ _ (by omega), jvu_ne _ _ _ (by omega), e1 e he, if_neg (by omega), Int.sub_zero]
        · rw [jvu_at, et, e3]
          exact Int.mul_tdiv_cancel _ hG0
        refine mj_T.iinc rfl rfl ?_
        refine mj_T.eq (loc2 := [some (.ref 19), some (.ref 20), some (.ref 50), some (.int (jn (((k : Nat) : Int) + (-1)))), some (.ref (50 + 4 + 2 * k)), some (.int (jn (((dg + 1) : Nat) : Int)))]) ?_ rfl rfl rfl rfl
        refine mj_T.pl rfl rfl rfl rfl ?_
        rw [show (((k : Nat) : Int) + (-1)) = (k : Int) - 1 by omega]
        refine mD_ex_out h2 h8 hd hS hS0 hG hG0 hSM hGM hfit hM hV k (by omega) V3 _ _ _ m3 f1 (fun e he => ?_) ?_ (fun x x1 x2 x3 x4 x5 => ?_)
        · by_cases q : e = k
          · subst q
            rw [f2, if_pos (Nat.le_refl _)]
          · rw [f3 _ (by omega) (by omega), jvu_ne _ _ _ (by omega), jvu_ne _ _ _ (by omega), jvu_ne _ _ _ (by omega), e2 e he]
            by_cases y : k + 1 ≤ e
            · rw [if_pos y, if_pos (by omega)]
            · rw [if_neg y, if_neg (by omega)]
        · rw [f3 _ (by omega) (by omega), jvu_ne _ _ _ (by omega), jvu_ne _ _ _ (by omega), jvu_ne _ _ _ (by omega)]
          exact e3
        · rw [f3 x x2 x5, jvu_ne _ _ _ (by omega), jvu_ne _ _ _ x1, jvu_ne _ _ _ x1]
          exact e4 x x1 x2 x3 x4 x5
      · exfalso
        simp only [jc, Bool.not_eq_true', Bool.not_eq_false', decide_eq_true_eq, decide_eq_false_iff_not] at c8
        rw [jvu_ne _ _ _ (by omega), jvu_at, et, e3, Int.mul_tmod_left] at c8
        exact c8 (jsg_z0.mpr rfl)
theorem mD_exact (m : jM g n V X h) {dg ds M : Nat} {S G : pz_P} (h2 : X 20 2 = (dg : Int)) (h8 : X 80 2 = ((dg + ds : Nat) : Int)) (hd : dg + ds < 13) (hS : pz_lt S (ds + 1)) (hS0 : S ds ≠ 0) (hG : ∀ i, dg < i → G i = 0) (hG0 : G dg ≠ 0) (hSM : ∀ i, (S i).natAbs ≤ M) (hGM : ∀ i, (G i).natAbs ≤ M) (hfit : 15 * (M * M) < jB ^ 200) (hM : M < jB ^ 29) (hV : ∀ e, e < 13 → V (20 + 4 + 2 * e) = G e) (hA : ∀ e, e < 13 → V (80 + 4 + 2 * e) = pz_mul S G e) : mj_Ok (D + 4) 19 [.ref 19, .ref 20, .ref 50] h (fun z => ∃ (V2 : Nat → Int) (h2 : mj_H), jM g n V2 (xup (xup X 50 2 (ds : Int)) 80 2 (-1)) h2 ∧ (∀ e, e < 13 → V2 (50 + 4 + 2 * e) = S e) ∧ (∀ x, x ≠ 164 → x ≠ 166 → x ≠ 170 → (x < 50 + 4 ∨ 50 + 4 + 2 * 13 ≤ x) → (x < 80 + 4 ∨ 80 + 4 + 2 * 13 ≤ x) → V2 x = V x) ∧ z = (.inl (some (.int (jn 1))), h2)) := by
  have p20 : cL (20 + 3) = 13 := mK_z.1
  have p50 : cL (50 + 3) = 13 := mK_z.2.1
  have p80 : cL (80 + 3) = 13 := mK_z.2.2.1
  have c1 : cL (164 + 1) = 240 := mK_z.2.2.2.2.2.2.2.1
  have c2 : cL (166 + 1) = 240 := mK_z.2.2.2.2.2.2.2.2.1
  have c4 : cL (170 + 1) = 60 := mK_z.2.2.2.2.2.2.2.2.2.2.1
  have hleadV : pfl V 50 (fun _ => 0) 13 (20 + 4 + 2 * dg) = G dg := by
    rw [pfl_off _ _ _ (by omega)]
    exact hV dg (by omega)
  refine mj_Ok.of (M := mj_m19) rfl rfl rfl ?_
  refine mj_T.pl rfl rfl rfl rfl ?_
  refine mj_T.call rfl rfl (Nat.le_of_ble_eq_true rfl) (Nat.le_of_ble_eq_true rfl) (mV_of m 13 cq_d50 (by decide) rfl (by decide) rfl _) rfl (mj_Ok.up (by omega) (mP_clear (D := 0) m cq_d50)) (fun v g1 hq => ?_) (fun i g1 hq => ?_)
  rotate_left
  · obtain ⟨_, _, hq⟩ := hq; cases hq
  obtain ⟨_, m2, hq⟩ := hq
  cases hq
  rw [p50] at m2
  refine mj_T.eq (pc2 := 4) (st2 := []) ?_ rfl rfl rfl rfl
  refine mj_T.pl rfl rfl rfl rfl ?_
  refine mT_get m2 11 cq_d19 (by decide) rfl rfl ?_
  refine mj_T.pl rfl rfl rfl rfl ?_
  refine mj_T.call rfl rfl (Nat.le_of_ble_eq_true rfl) (Nat.le_of_ble_eq_true rfl) (mV_of m2 13 cq_d20 (by decide) rfl (by decide) rfl _) rfl (mj_Ok.up (by omega) (mP_lead (D := 0) m2 cq_d20 ((congrFun (xup_oth (by decide)) 2).trans h2) (by omega))) (fun v g3 hq => ?_) (fun i g3 hq => ?_)
  rotate_left
  · cases hq
  cases hq
  refine mj_T.eq (pc2 := 12) (st2 := [.ref (20 + 4 + 2 * dg), .ref 170]) ?_ rfl rfl rfl rfl
  refine mj_T.call rfl rfl (Nat.le_of_ble_eq_true rfl) (Nat.le_of_ble_eq_true rfl) (mV_of m2 12 cq_d170 (by decide) rfl (by decide) rfl _) rfl (mj_Ok.up (by omega) (mW_prepare (D := 0) m2 cq_d170 ((mK_p cq_d20).2.2.2 dg (by omega)) (by rw [(rfl : (pfl V 50 (fun _ => 0) 13) (20 + 4 + 2 * dg) = _)]; exact (by rw [hleadV, c4]; exact Nat.le_trans (jnl_B (hGM dg) hM) (by decide))))) (fun v g4 hq => ?_) (fun i g4 hq => ?_)
  rotate_left
  · obtain ⟨_, _, hq⟩ := hq; cases hq
  obtain ⟨_, m5, hq⟩ := hq
  cases hq
  have m5 := m5.to (V' := (jvu (pfl V 50 (fun _ => 0) 13) 170 ((pfl V 50 (fun _ => 0) 13) (20 + 4 + 2 * dg)))) (by rw [(rfl : (pfl V 50 (fun _ => 0) 13) (20 + 4 + 2 * dg) = _)]) rfl
  refine mj_T.eq (pc2 := 15) (st2 := []) ?_ rfl rfl rfl rfl
  refine mj_T.pl rfl rfl rfl rfl ?_
  refine mT_get m5 11 cq_d19 (by decide) rfl rfl ?_
  refine mT_get (v := .int (jn (((dg + ds) : Nat) : Int))) m5 13 cq_d80 (by decide) rfl (congrArg (fun z : Int => some (Value.int (jn z))) ((congrFun (xup_oth (by decide)) 2).trans h8)) ?_
  refine mj_T.pl rfl rfl rfl rfl ?_
  refine mT_get (v := .int (jn ((dg : Nat) : Int))) m5 13 cq_d20 (by decide) rfl (congrArg (fun z : Int => some (Value.int (jn z))) ((congrFun (xup_oth (by decide)) 2).trans h2)) ?_
  refine mj_T.isub (a := (((dg + ds) : Nat) : Int)) (b := ((dg : Nat) : Int)) rfl ?_
  refine mj_T.pl (loc' := [some (.ref 19), some (.ref 20), some (.ref 50), some (.int (jn ((((dg + ds) : Nat) : Int) - ((dg : Nat) : Int)))), none, none]) rfl rfl rfl rfl ?_
  rw [show (((dg + ds : Nat) : Int) - ((dg : Nat) : Int)) = ((ds + 1 : Nat) : Int) - 1 by omega]
  refine mD_ex_out h2 h8 hd hS hS0 hG hG0 hSM hGM hfit hM hV (ds + 1) (Nat.le_refl _) _ _ _ _ m5 (fun e he => ?_) (fun e he => ?_) ?_ (fun x x1 x2 x3 x4 x5 => ?_)
  · rw [jvu_ne _ _ _ (by omega), pfl_off _ _ _ (by omega), tk_all hS]
    exact hA e he
  · rw [jvu_ne _ _ _ (by omega), pfl_at _ _ _ he]
    by_cases y : ds + 1 ≤ e
    · rw [if_pos y, hS e y]
    · rw [if_neg y]
  · rw [jvu_at, hleadV]
  · rw [jvu_ne _ _ _ x3]
    exact pfl_off _ _ _ x4
end MDX
/-! The roots of the class, exactly: begin, storeSimple. -/
/-- the primitive part of a row -/
def ppr (f : Nat → Int) : pz_P := fun i => if i < 13 then (f i).tdiv (sgc f) else 0
theorem ppr_ok {f : Nat → Int} {m : Nat} (hf : sml f) (hm : fdg f 13 = m + 1) : sgc f ≠ 0 ∧ (sgc f).natAbs ≤ 999999999999999999 ∧ (∀ i, i < 13 → f i = sgc f * ppr f i) ∧ pz_lt (ppr f) (m + 1) ∧ 0 < ppr f m ∧ (∀ i, (ppr f i).natAbs ≤ 999999999999999999) ∧ pz_prim (ppr f) := by
  have hle := fdg_le f 13
  have hne := fdg_ne f 13 (by omega)
  rw [hm, Nat.add_sub_cancel] at hne
  have hc0 : cgd f 13 ≠ 0 := fun q => hne (cgd_0 q m (by omega))
  have hcb : cgd f 13 ≤ 999999999999999999 := cgd_bd 13 (fun i hi => hf i hi)
  have hna : (sgc f).natAbs = cgd f 13 := by
    unfold sgc
    split
    · rw [Int.natAbs_neg, Int.natAbs_natCast]
    · rw [Int.natAbs_natCast]
  have hdv : ∀ i, i < 13 → sgc f ∣ f i := fun i hi => by
    refine Int.natAbs_dvd_natAbs.mp ?_
    rw [hna]
    exact cgd_dvd f 13 i hi
  have hs0 : sgc f ≠ 0 := fun q => by
    rw [q] at hna
    exact hc0 hna.symm
  have he : ∀ i, i < 13 → f i = sgc f * ppr f i := fun i hi => by
    unfold ppr
    rw [if_pos hi]
    exact (Int.mul_tdiv_cancel' (hdv i hi)).symm
  refine ⟨hs0, by omega, he, fun i hi => ?_, ?_, fun i => ?_, fun k hk => ?_⟩
  · unfold ppr
    by_cases c : i < 13
    · rw [if_pos c, fdg_zero f 13 i (by omega) c, Int.zero_tdiv]
    · rw [if_neg c]
  · have e1 := he m (by omega)
    have hsg : (f m < 0 → sgc f < 0) ∧ (0 < f m → 0 < sgc f) := by
      unfold sgc
      rw [hm, Nat.add_sub_cancel]
      constructor
      · intro q
        rw [if_pos ⟨by omega, q⟩]
        omega
      · intro q
        rw [if_neg (fun w => by omega)]
        omega
    rcases Int.lt_or_le (f m) 0 with q | q
    · have s1 := hsg.1 q
      rcases Int.lt_or_le 0 (ppr f m) with y | y
      · exact y
      · have := Int.mul_nonneg_of_nonpos_of_nonpos (Int.le_of_lt s1) y
        omega
    · have s1 := hsg.2 (by omega)
      rcases Int.lt_or_le 0 (ppr f m) with y | y
      · exact y
      · have := Int.mul_nonpos_of_nonneg_of_nonpos (Int.le_of_lt s1) y
        omega
  · unfold ppr
    split
    · rename_i c
      exact Nat.le_trans (Int.natAbs_tdiv_le_natAbs _ _) (hf i c)
    · exact Nat.zero_le _
  · have h1 : k * cgd f 13 ∣ cgd f 13 := cgd_max f _ 13 (fun i hi => by
      rw [he i hi, Int.natAbs_mul, hna, Nat.mul_comm]
      exact Nat.mul_dvd_mul (Nat.dvd_refl _) (pz_cd.mp (hk i)))
    have h2 := Nat.le_of_dvd (by omega) h1
    have h3 : k * cgd f 13 = cgd f 13 ∨ k = 0 := by
      rcases Nat.eq_zero_or_pos k with z | z
      · exact Or.inr z
      · have := Nat.le_mul_of_pos_left (cgd f 13) z
        exact Or.inl (by omega)
    rcases h3 with z | z
    · exact Nat.eq_of_mul_eq_mul_right (show 0 < cgd f 13 by omega) (by rw [Nat.one_mul]; exact z)
    · subst z
      have h4 := Nat.eq_zero_of_zero_dvd (by rw [Nat.zero_mul] at h1; exact h1)
      exact absurd h4 hc0
theorem bydl_2 : (bydl.all fun x => decide ((x < 24 ∨ 50 ≤ x) ∧ (x < 54 ∨ 80 ≤ x) ∧ (x < 84 ∨ 110 ≤ x) ∧ (x < 184 ∨ 210 ≤ x) ∧ (x < 214 ∨ 240 ≤ x) ∧ x ≠ 164 ∧ x ≠ 166 ∧ x ≠ 168 ∧ x ≠ 170 ∧ x ≠ 174 ∧ x ≠ 176 ∧ (x < 240 ∨ (List.range 14).any (fun j => decide (x = sro j + 1))))) = true := by decide +kernel
theorem bydl_f {x : Nat} (h : x ∈ bydl) : (x < 24 ∨ 50 ≤ x) ∧ (x < 54 ∨ 80 ≤ x) ∧ (x < 84 ∨ 110 ≤ x) ∧ (x < 184 ∨ 210 ≤ x) ∧ (x < 214 ∨ 240 ≤ x) ∧ x ≠ 164 ∧ x ≠ 166 ∧ x ≠ 168 ∧ x ≠ 170 ∧ x ≠ 174 ∧ x ≠ 176 ∧ (x < 240 ∨ ∃ j, j < 14 ∧ x = sro j + 1) := by
  have k := of_decide_eq_true (List.all_eq_true.mp bydl_2 x h)
  obtain ⟨k1, k2, k3, k4, k5, k6, k7, k8, k9, k10, k11, k12⟩ := k
  refine ⟨k1, k2, k3, k4, k5, k6, k7, k8, k9, k10, k11, ?_⟩
  rcases k12 with q | q
  · exact Or.inl q
  · obtain ⟨j, j1, j2⟩ := List.any_eq_true.mp q
    exact Or.inr ⟨j, List.mem_range.mp j1, of_decide_eq_true j2⟩
theorem by0.row {V : Nat → Int} (b : by0 V) : ∀ j, j < 14 → V (sro j + 1) = 0 := fun j hj => b.p (sro_k hj).1
theorem by0.goOn {V V1 : Nat → Int} {X X1 : Nat → Nat → Int} (b : by0 V) (h1 : ∀ j, j < 14 → V1 (sro j + 1) = 0) (h2 : V1 81 = 0) (fr : GFr V X V1 X1) : by0 V1 := fun x hx => by
  have k := bydl_f hx
  rcases k.2.2.2.2.2.2.2.2.2.2.2 with q | ⟨j, hj, e⟩
  · rw [fr.1 x k.2.2.1 k.2.2.2.2.2.1 k.2.2.2.2.2.2.1 k.2.2.2.2.2.2.2.2.1 k.2.2.2.2.2.2.2.2.2.1 k.2.2.2.2.2.2.2.2.2.2.1 (Or.inl q)]
    exact b x hx
  · rw [e]
    exact h1 j hj
theorem by0.wr {V : Nat → Int} (b : by0 V) {p : Nat} (kp : cK p = 13) {w : Nat → Int} {k : Nat} (hk : k ≤ cL (p + 3)) : by0 (pfl V p w k) := fun x hx => by
  show (if p + 4 ≤ x ∧ x < p + 4 + 2 * k ∧ (x - p) % 2 = 0 then w ((x - p - 4) / 2) else V x) = 0
  by_cases c : p + 4 ≤ x ∧ x < p + 4 + 2 * k ∧ (x - p) % 2 = 0
  · have e := (fr_part kp (i := (x - p - 4) / 2) (by omega)).2
    rw [show p + 4 + 2 * ((x - p - 4) / 2) = x by omega] at e
    exact absurd hx e
  · rw [if_neg c]
    exact b x hx
theorem GFr.fx {V V1 : Nat → Int} {X X1 : Nat → Nat → Int} (fr : GFr V X V1 X1) : FX X X1 := fun a a1 a2 a3 a4 => fr.2 a (fun e => by subst e; exact a1 cq_d80) (fun e => by subst e; exact a3 cq_d172) (by omega)
theorem gp_one {A B G : pz_P} (h : GP A B G 0) : G = pz_one := by
  obtain ⟨hp, hl, hz, _⟩ := h
  have h1 := hp (G 0).natAbs (fun i => by
    by_cases c : i = 0
    · subst c
      exact Int.natAbs_dvd.mpr (Int.dvd_refl _)
    · rw [hz i (by omega)]
      exact ⟨0, (Int.mul_zero _).symm⟩)
  funext i
  by_cases c : i = 0
  · subst c
    show G 0 = 1
    omega
  · rw [hz i (by omega)]
    exact (if_neg c).symm
theorem cap180 (i : Nat) (hi : i < 13) : cL (180 + 4 + 2 * i + 1) = 30 - 2 * i := mK_z.2.2.2.2.2.2.1 0 (by decide) i hi
theorem cap210 (i : Nat) (hi : i < 13) : cL (210 + 4 + 2 * i + 1) = 30 - 2 * i := mK_z.2.2.2.2.2.2.1 1 (by decide) i hi
def kM : Nat := 999999999999999999 * 13 ^ 13 * 27 ^ 12
theorem kM_1 : 15 * (kM * kM) < jB ^ 200 ∧ kM < jB ^ 6 ∧ 9223372036854775807 * kM < jB ^ 29 := by decide +kernel
section MBG
variable {g h : mj_H} {n D r : Nat} {V : Nat → Int} {X : Nat → Nat → Int}
theorem mR_goOnC (m : jM g n V X h) (dg : DG X) {ma : Nat} (hX0 : X 180 2 = (ma : Int)) (hA : ∀ i, ma < i → pcs V 180 i = 0) (hm : ma ≤ 12) (bA : ∀ e, (pcs V 180 e).natAbs ≤ bM) (b : by0 V) (hA0 : pcs V 180 ma ≠ 0) (hc : (X 210 2 = -1 ∧ ∀ i, pcs V 210 i = 0) ∨ ∃ na : Nat, X 210 2 = (na : Int) ∧ (∀ i, na < i → pcs V 210 i = 0) ∧ pcs V 210 na ≠ 0 ∧ na ≤ 12 ∧ na ≤ ma ∧ ∀ e, (pcs V 210 e).natAbs ≤ bM) : mj_Ok (D + 6) 70 [.ref 172] h (fun z => ∃ (V2 : Nat → Int) (X2 : Nat → Nat → Int) (h2 : mj_H), jM g n V2 X2 h2 ∧ GEnd (pcs V 180) (pcs V 210) V2 X2 ∧ by0 V2 ∧ GFr V X V2 X2 ∧ DG X2 ∧ z = (.inl none, h2)) := by
  have h81 : V 81 = 0 := b.p cq_d80
  rcases hc with ⟨c1, c2⟩ | ⟨na, c1, c2, c3, c4, c5, c6⟩
  · refine (mR_goOn0 (D := D) m dg hX0 hA hm bA b.row h81 c1 c2 hA0).to fun z hz => ?_
    obtain ⟨V2, X2, h2, m2, ge, hb, h8, fr, d2, e⟩ := hz
    exact ⟨V2, X2, h2, m2, ge, b.goOn hb h8 fr, fr, d2, e⟩
  · refine (mR_goOn (D := D) m dg hX0 hA hm bA b.row h81 c1 c2 c3 c4 c5 c6).to fun z hz => ?_
    obtain ⟨V2, X2, h2, m2, ge, hb, h8, fr, d2, e⟩ := hz
    exact ⟨V2, X2, h2, m2, ge, b.goOn hb h8 fr, fr, d2, e⟩
theorem mR_begin (m : jM g n V X h) (b : by0 V) (dg : DG X) (kr : cK r = 2) (hs : sml (X r)) (hr0 : 1 ≤ fdg (X r) 13) : mj_Ok (D + 7) 61 [.ref 444, .ref r] h (fun z => ∃ (V2 : Nat → Int) (X2 : Nat → Nat → Int) (h2 : mj_H) (S G : pz_P) (ds dg : Nat), jM g n V2 X2 h2 ∧ by0 V2 ∧ DG X2 ∧ FX X X2 ∧ GP (ppr (X r)) (drv (ppr (X r))) G dg ∧ (ppr (X r)) = pz_mul S G ∧ pz_lt S (ds + 1) ∧ S ds ≠ 0 ∧ ds ≤ 12 ∧ (∀ i, (S i).natAbs ≤ kM) ∧ (∀ e, e < 13 → V2 (180 + 4 + 2 * e) = S e) ∧ X2 180 2 = (ds : Int) ∧ z = (.inl none, h2)) := by
  have hL : cL 173 = 14 := mK_r.2.2.2.1
  have p20 : cL (20 + 3) = 13 := mK_z.1
  have p50 : cL (50 + 3) = 13 := mK_z.2.1
  have p80 : cL (80 + 3) = 13 := mK_z.2.2.1
  have p180 : cL (180 + 3) = 13 := (mK_r.2.2.2.2.2.1 0 (by decide)).2
  have p210 : cL (210 + 3) = 13 := (mK_r.2.2.2.2.2.1 1 (by decide)).2
  have hfl := fdg_le (X r) 13
  obtain ⟨mm, hmm⟩ : ∃ mm, fdg (X r) 13 = mm + 1 := ⟨fdg (X r) 13 - 1, by omega⟩
  obtain ⟨a0, a1, a2, a3, a4, a5, a6⟩ := ppr_ok hs hmm
  have hfa : fdg (ppr (X r)) 13 = mm + 1 := fdg_top (by omega) (fun i hi => a3 i (by omega)) (by omega)
  refine mj_Ok.of (M := mj_m61) rfl rfl rfl ?_
  refine mj_T.pl rfl rfl rfl rfl ?_
  refine mT_get m 15 cq_d444 (by decide) rfl rfl ?_
  refine mT_get m 16 cq_d172 (by decide) rfl rfl ?_
  refine mj_T.pl rfl rfl rfl rfl ?_
  refine mT_aald m 5 cq_d173 (by decide) rfl rfl (by omega) ⟨by omega, by omega⟩ ?_
  refine mj_T.eq (st2 := [.ref 180]) ?_ rfl rfl rfl rfl
  iterate 2 refine mj_T.pl rfl rfl rfl rfl ?_
  refine mj_T.call rfl rfl (Nat.le_of_ble_eq_true rfl) (Nat.le_of_ble_eq_true rfl) rfl rfl (mj_Ok.up (by omega) (mS_scont (D := 0) m kr hs)) (fun v g1 hq => ?_) (fun i g1 hq => ?_)
  rotate_left
  · cases hq
  cases hq
  refine mj_T.eq (pc2 := 14) (st2 := [.long (jl (sgc (X r))), .ref r, .ref 180]) ?_ rfl rfl rfl rfl
  refine mj_T.call rfl rfl (Nat.le_of_ble_eq_true rfl) (Nat.le_of_ble_eq_true rfl) (mV_of m 13 cq_d180 (by decide) rfl (by decide) rfl _) rfl (mj_Ok.up (by omega) (mP_load (D := 0) m cq_d180 kr p180 ⟨by omega, by omega⟩ hs (fun i hi => by rw [cap180 i hi]; omega))) (fun v g2 hq => ?_) (fun i g2 hq => ?_)
  rotate_left
  · obtain ⟨_, _, hq⟩ := hq; cases hq
  obtain ⟨_, m1, hq⟩ := hq
  cases hq
  have hfA : fdg (fun e => (X r e).tdiv (sgc (X r))) 13 = mm + 1 := by
    rw [← hfa]
    exact fdg_congr 13 (fun i hi => by show _ = ppr (X r) i; unfold ppr; rw [if_pos hi])
  rw [hfA, show ((mm + 1 : Nat) : Int) - 1 = (mm : Int) by omega] at m1
  obtain ⟨V1, hV1⟩ : ∃ V1, V1 = pfl V 180 (fun e => (X r e).tdiv (sgc (X r))) 13 := ⟨_, rfl⟩
  rw [← hV1] at m1
  have eA : pcs V1 180 = ppr (X r) := funext fun i => by
    unfold pcs ppr
    rw [p180, hV1]
    by_cases c : i < 13
    · rw [if_pos c, if_pos c, pfl_at _ _ _ c]
    · rw [if_neg c, if_neg c]
  have b1 : by0 V1 := by
    rw [hV1]
    exact b.wr cq_d180 (by omega)
  refine mj_T.eq (pc2 := 17) (st2 := []) ?_ rfl rfl rfl rfl
  refine mj_T.pl rfl rfl rfl rfl ?_
  refine mT_get m1 15 cq_d444 (by decide) rfl rfl ?_
  refine mj_T.call rfl rfl (Nat.le_of_ble_eq_true rfl) (Nat.le_of_ble_eq_true rfl) (mV_of m1 16 cq_d172 (by decide) rfl (by decide) rfl _) rfl (mj_Ok.up (by omega) (mR_der (D := 0) (d := mm + 1) m1 (by rw [xup_at]; omega) (by omega) (by rw [eA]; exact fun i _ => a5 i) (by rw [eA]; exact a3))) (fun v g3 hq => ?_) (fun i g3 hq => ?_)
  rotate_left
  · obtain ⟨_, _, hq⟩ := hq; cases hq
  obtain ⟨_, m2, hq⟩ := hq
  cases hq
  rw [eA] at m2
  obtain ⟨V2, hV2⟩ : ∃ V2, V2 = pfl V1 210 (drv (ppr (X r))) 13 := ⟨_, rfl⟩
  rw [← hV2] at m2
  have eA2 : pcs V2 180 = ppr (X r) := by
    rw [← eA]
    funext i
    unfold pcs
    rw [p180, hV2]
    by_cases c : i < 13
    · rw [if_pos c, if_pos c, pfl_off _ _ _ (by omega)]
    · rw [if_neg c, if_neg c]
  have eB2 : pcs V2 210 = drv (ppr (X r)) := funext fun i => by
    unfold pcs
    rw [p210, hV2]
    by_cases c : i < 13
    · rw [if_pos c, pfl_at _ _ _ c]
    · rw [if_neg c]
      unfold drv
      rw [a3 (i + 1) (by omega), Int.zero_mul]
  have b2 : by0 V2 := by
    rw [hV2]
    exact b1.wr cq_d210 (by omega)
  have hle := fdg_le (drv (ppr (X r))) 13
  have dgx : DG (xup (xup X 180 2 (mm : Int)) 210 2 ((fdg (drv (ppr (X r))) 13 : Int) - 1)) := (dg.deg (by omega)).deg (by omega)
  have hcase : ((xup (xup X 180 2 (mm : Int)) 210 2 ((fdg (drv (ppr (X r))) 13 : Int) - 1)) 210 2 = -1 ∧ ∀ i, pcs V2 210 i = 0) ∨ ∃ na : Nat, (xup (xup X 180 2 (mm : Int)) 210 2 ((fdg (drv (ppr (X r))) 13 : Int) - 1)) 210 2 = (na : Int) ∧ (∀ i, na < i → pcs V2 210 i = 0) ∧ pcs V2 210 na ≠ 0 ∧ na ≤ 12 ∧ na ≤ mm ∧ ∀ e, (pcs V2 210 e).natAbs ≤ bM := by
    rw [xup_at, eB2]
    have hDz : ∀ i, mm ≤ i → drv (ppr (X r)) i = 0 := fun i hi => by
      unfold drv
      rw [a3 (i + 1) (by omega), Int.zero_mul]
    by_cases c : mm = 0
    · have e0 : fdg (drv (ppr (X r))) 13 = 0 := fdg_of (by omega) (fun i _ _ => hDz i (by omega)) (Or.inl rfl)
      exact Or.inl ⟨by rw [e0]; rfl, fun i => hDz i (by omega)⟩
    · have e1 : drv (ppr (X r)) (mm - 1) ≠ 0 := by
        unfold drv
        rw [show mm - 1 + 1 = mm by omega]
        exact Int.mul_ne_zero (by omega) (by omega)
      have e2 : fdg (drv (ppr (X r))) 13 = mm - 1 + 1 := fdg_top (by omega) (fun i hi => hDz i (by omega)) e1
      refine Or.inr ⟨mm - 1, by rw [e2]; omega, fun i hi => hDz i (by omega), e1, by omega, by omega, fun e => ?_⟩
      unfold drv
      rw [Int.natAbs_mul, Int.natAbs_natCast]
      by_cases y : e + 1 ≤ mm
      · exact Nat.le_trans (Nat.mul_le_mul (a5 (e + 1)) (show e + 1 ≤ 12 by omega)) (by decide)
      · rw [a3 (e + 1) (by omega)]
        exact Nat.le_trans (Nat.le_of_eq (Nat.zero_mul _)) (Nat.zero_le _)
  refine mj_T.eq (pc2 := 24) (st2 := []) ?_ rfl rfl rfl rfl
  refine mj_T.pl rfl rfl rfl rfl ?_
  refine mT_get m2 15 cq_d444 (by decide) rfl rfl ?_
  refine mj_T.call rfl rfl (Nat.le_of_ble_eq_true rfl) (Nat.le_of_ble_eq_true rfl) (mV_of m2 16 cq_d172 (by decide) rfl (by decide) rfl _) rfl (mj_Ok.up (by omega) (mR_goOnC (D := 0) (ma := mm) m2 dgx ((congrFun (xup_oth (by decide)) 2).trans (xup_at _ _ _ _)) (by rw [eA2]; exact fun i hi => a3 i (by omega)) (by omega) (by rw [eA2]; exact fun e => Nat.le_trans (a5 e) (by decide)) b2 (by rw [eA2]; omega) hcase)) (fun v g4 hq => ?_) (fun i g4 hq => ?_)
  rotate_left
  · obtain ⟨_, _, _, _, _, _, _, _, hq⟩ := hq; cases hq
  obtain ⟨V3, X3, _, m3, ge, b3, fr, dg3, hq⟩ := hq
  cases hq
  rw [eA2, eB2] at ge
  obtain ⟨k, dz, hk, hX172, hXk, hdz, hne, hzz, h60, hcd⟩ := ge
  obtain ⟨G, c1, hc1, hZ, hG⟩ := gp_of hzz hne hcd
  have hLk := (mK_p (sro_k hk).1).2.2.1
  have hX180 : X3 180 2 = (mm : Int) := (congrFun (fr.2 180 (by decide) (by decide) (by decide)) 2).trans ((congrFun (xup_oth (by decide)) 2).trans (xup_at _ _ _ _))
  have eA3 : ∀ e, e < 13 → V3 (180 + 4 + 2 * e) = ppr (X r) e := fun e he => by
    rw [fr.1 _ (by omega) (by omega) (by omega) (by omega) (by omega) (by omega) (by omega), ← eA2, pcs_in (by omega)]
  have fx3 : FX X X3 := ((FX.up (Or.inl cq_d180)).tr (FX.up (Or.inl cq_d210))).tr fr.fx
  refine mj_T.eq (pc2 := 31) (st2 := []) ?_ rfl rfl rfl rfl
  iterate 2 refine mj_T.pl rfl rfl rfl rfl ?_
  refine mT_get m3 15 cq_d444 (by decide) rfl rfl ?_
  refine mj_T.call rfl rfl (Nat.le_of_ble_eq_true rfl) (Nat.le_of_ble_eq_true rfl) (mV_of m3 16 cq_d172 (by decide) rfl (by decide) rfl _) rfl (mj_Ok.up (by omega) (mR_last (D := 0) m3 hX172 hk)) (fun v g5 hq => ?_) (fun i g5 hq => ?_)
  rotate_left
  · cases hq
  cases hq
  refine mj_T.eq (pc2 := 39) (st2 := [.ref (sro k), .ref 444]) ?_ rfl rfl rfl rfl
  refine mT_get (v := .int (jn ((dz : Nat) : Int))) m3 13 (sro_k hk).1 (by decide) rfl (congrArg (fun z : Int => some (Value.int (jn z))) (hXk)) ?_
  refine mj_T.if0 (a := ((dz : Nat) : Int)) rfl ⟨by omega, by omega⟩ (fun c6 => ?_) (fun c6 => ?_)
  · simp only [jc, Bool.not_eq_true', Bool.not_eq_false', decide_eq_true_eq, decide_eq_false_iff_not] at c6
    refine mj_T.pl rfl rfl rfl rfl ?_
    refine mT_put (v := 0) m3 15 cq_d444 (by decide) rfl (by simp [jMf, xup]) (by simp [jMf]) rfl (fun h7 m8 => ?_)
    refine mj_T.pl rfl rfl rfl rfl ?_
    refine mT_get (v := .int (jn 0)) m8 15 cq_d444 (by decide) rfl (congrArg (fun z : Int => some (Value.int (jn z))) (xup_at _ _ _ _)) ?_
    refine mj_T.if0 (a := 0) rfl ⟨by omega, by omega⟩ (fun c39 => ?_) (fun c39 => ?_)
    · exfalso
      simp [jc] at c39
    · simp only [jc, Bool.not_eq_true', Bool.not_eq_false', decide_eq_true_eq, decide_eq_false_iff_not] at c39
      iterate 2 refine mj_T.pl rfl rfl rfl rfl ?_
      refine mT_get m8 15 cq_d444 (by decide) rfl rfl ?_
      refine mj_T.call rfl rfl (Nat.le_of_ble_eq_true rfl) (Nat.le_of_ble_eq_true rfl) (mV_of m8 16 cq_d172 (by decide) rfl (by decide) rfl _) rfl (mj_Ok.up (by omega) (mR_last (D := 0) m8 ((congrFun (xup_oth (by decide)) 2).trans hX172) hk)) (fun v g40 hq => ?_) (fun i g40 hq => ?_)
      rotate_left
      · cases hq
      cases hq
      refine mj_T.eq (pc2 := 68) (st2 := [.ref (sro k), .ref 444]) ?_ rfl rfl rfl rfl
      refine mj_T.pl rfl rfl rfl rfl ?_
      refine mT_get m8 15 cq_d444 (by decide) rfl rfl ?_
      refine mT_get m8 16 cq_d172 (by decide) rfl rfl ?_
      refine mj_T.pl rfl rfl rfl rfl ?_
      refine mT_aald m8 5 cq_d173 (by decide) rfl rfl (by omega) ⟨by omega, by omega⟩ ?_
      refine mj_T.eq (st2 := [.ref 180, .ref (sro k), .ref 444]) ?_ rfl rfl rfl rfl
      refine mj_T.call rfl rfl (Nat.le_of_ble_eq_true rfl) (Nat.le_of_ble_eq_true rfl) (mV_of m8 13 cq_d180 (by decide) rfl (by decide) rfl _) rfl (mj_Ok.up (by omega) (mP_lead (D := 0) m8 cq_d180 ((congrFun (xup_oth (by decide)) 2).trans hX180) (by omega))) (fun v g41 hq => ?_) (fun i g41 hq => ?_)
      rotate_left
      · cases hq
      cases hq
      refine mj_T.eq (pc2 := 80) (st2 := [.ref (180 + 4 + 2 * mm), .ref (sro k), .ref 444]) ?_ rfl rfl rfl rfl
      refine mj_T.call rfl rfl (Nat.le_of_ble_eq_true rfl) (Nat.le_of_ble_eq_true rfl) (mV_of m8 18 ((mK_p cq_d180).2.2.2 mm (by omega)) (by decide) rfl (by decide) rfl _) rfl (mj_Ok.up (by omega) (mW_low (D := 0) m8 ((mK_p cq_d180).2.2.2 mm (by omega)) (hcl := by rw [eA3 mm (by omega)]; exact Nat.le_trans (jnl_two.mpr (a5 mm)) (by decide)))) (fun v g42 hq => ?_) (fun i g42 hq => ?_)
      rotate_left
      · cases hq
      cases hq
      obtain ⟨ld, hld⟩ : ∃ ld : Nat, ppr (X r) mm = (ld : Int) := ⟨(ppr (X r) mm).toNat, by omega⟩
      rw [show V3 (180 + 4 + 2 * mm) = (ld : Int) from (eA3 mm (by omega)).trans hld]
      have hldb := a5 mm
      have hGl := hG.lead a3 (by omega)
      have hGs := hG.size a3 (by omega) (by omega) a5
      have hG0 := hG
      obtain ⟨hp, hl0, hGz, ⟨S, N, hS, eS⟩, _, _⟩ := hG0
      obtain ⟨ds, hds, hS2, hSn, _⟩ := pz_mul_deg (dg := dz) a3 (by omega) (fun i hi => hGz i (by omega)) (by omega) hS eS
      have hSs : ∀ i, (S i).natAbs ≤ kM := pz_factor (a3.mono (by omega)) (hS2.mono (by omega)) (fun i hi => hGz i (by omega)) eS ⟨mm, by omega⟩ a5
      refine mj_T.eq (pc2 := 83) (st2 := [.long (jl (ld : Int)), .ref (sro k), .ref 444]) ?_ rfl rfl rfl rfl
      refine mj_T.call rfl rfl (Nat.le_of_ble_eq_true rfl) (Nat.le_of_ble_eq_true rfl) (mV_of m8 15 cq_d444 (by decide) rfl (by decide) rfl _) rfl (mj_Ok.up (by omega) (mR_takeG (D := 0) (dz := dz) (ld := ld) (M := kM) m8 (sro_k hk).1 (sro_2 hk).1 ((congrFun (xup_oth (fun e => by have := (sro_2 hk).1; have := mP_pos (sro_k hk).1; omega)) 2).trans hXk) hdz hc1 hZ hG (by omega) (by omega) (by rw [← hld]; exact hGl.2) hGs kM_1.2.2 h60)) (fun v g43 hq => ?_) (fun i g43 hq => ?_)
      rotate_left
      · obtain ⟨_, _, _, _, _, hq⟩ := hq; cases hq
      obtain ⟨V5, _, m5, f1, f2, hq⟩ := hq
      cases hq
      have b5 : by0 V5 := fun x hx => by
        have q := bydl_f hx
        rw [f2 x q.2.2.2.2.2.1 q.2.2.2.2.2.2.1 q.2.2.2.2.2.2.2.1 q.2.2.2.2.2.2.2.2.1 (by omega)]
        exact b3 x hx
      have eA5 : pcs V5 180 = ppr (X r) := funext fun i => by
        unfold pcs
        rw [p180]
        by_cases c : i < 13
        · rw [if_pos c, f2 _ (by omega) (by omega) (by omega) (by omega) (by omega), eA3 i c]
        · rw [if_neg c, a3 i (by omega)]
      refine mj_T.eq (pc2 := 86) (st2 := []) ?_ rfl rfl rfl rfl
      refine mj_T.pl rfl rfl rfl rfl ?_
      refine mT_get m5 15 cq_d444 (by decide) rfl rfl ?_
      refine mT_get m5 11 cq_d19 (by decide) rfl rfl ?_
      refine mj_T.pl rfl rfl rfl rfl ?_
      refine mT_get m5 15 cq_d444 (by decide) rfl rfl ?_
      refine mT_get m5 16 cq_d172 (by decide) rfl rfl ?_
      refine mj_T.pl rfl rfl rfl rfl ?_
      refine mT_aald m5 5 cq_d173 (by decide) rfl rfl (by omega) ⟨by omega, by omega⟩ ?_
      refine mj_T.eq (st2 := [.ref 180, .ref 80]) ?_ rfl rfl rfl rfl
      refine mj_T.call rfl rfl (Nat.le_of_ble_eq_true rfl) (Nat.le_of_ble_eq_true rfl) (mV_of m5 13 cq_d80 (by decide) rfl (by decide) rfl _) rfl (mj_Ok.up (by omega) (mP_set (D := 0) m5 cq_d80 cq_d180 (by decide) (b5.p cq_d180) (fun i hi => by rw [eA5, (mK_z.2.2.2.2.1 i (by omega)).2.2]; exact Nat.le_trans (jnl_two.mpr (a5 i)) (by decide)))) (fun v g44 hq => ?_) (fun i g44 hq => ?_)
      rotate_left
      · obtain ⟨_, _, hq⟩ := hq; cases hq
      obtain ⟨_, m6, hq⟩ := hq
      cases hq
      rw [p80, eA5, hfa, show ((mm + 1 : Nat) : Int) - 1 = (mm : Int) by omega] at m6
      have b6 : by0 (pfl V5 80 (ppr (X r)) 13) := b5.wr cq_d80 (by omega)
      refine mj_T.eq (pc2 := 105) (st2 := []) ?_ rfl rfl rfl rfl
      refine mj_T.pl rfl rfl rfl rfl ?_
      refine mT_get m6 15 cq_d444 (by decide) rfl rfl ?_
      refine mj_T.pl rfl rfl rfl rfl ?_
      refine mT_get m6 15 cq_d444 (by decide) rfl rfl ?_
      refine mT_get m6 11 cq_d19 (by decide) rfl rfl ?_
      refine mj_T.pl rfl rfl rfl rfl ?_
      refine mT_get m6 15 cq_d444 (by decide) rfl rfl ?_
      refine mT_get m6 11 cq_d19 (by decide) rfl rfl ?_
      refine mj_T.call rfl rfl (Nat.le_of_ble_eq_true rfl) (Nat.le_of_ble_eq_true rfl) (mV_of m6 11 cq_d19 (by decide) rfl (by decide) rfl _) rfl (mj_Ok.up (by omega) (mD_exact (D := 0) (dg := dz) (ds := ds) (M := kM) (S := S) (G := G) m6 ((congrFun (xup_oth (by decide)) 2).trans (xup_at _ _ _ _)) (by rw [xup_at]; omega) (by omega) hS2 hSn hGz (by omega) hSs hGs kM_1.1 (Nat.lt_trans kM_1.2.1 (by decide +kernel)) (fun e he => by rw [pfl_off _ _ _ (by omega)]; exact f1 e he) (fun e he => by rw [pfl_at _ _ _ he, eS]))) (fun v g45 hq => ?_) (fun i g45 hq => ?_)
      rotate_left
      · obtain ⟨_, _, _, _, _, hq⟩ := hq; cases hq
      obtain ⟨V7, _, m7, e7, f7, hq⟩ := hq
      cases hq
      have b7 : by0 V7 := fun x hx => by
        have q := bydl_f hx
        rw [f7 x q.2.2.2.2.2.1 q.2.2.2.2.2.2.1 q.2.2.2.2.2.2.2.2.1 (by omega) (by omega)]
        exact b6 x hx
      have eS7 : pcs V7 50 = S := funext fun i => by
        unfold pcs
        rw [p50]
        by_cases c : i < 13
        · rw [if_pos c, e7 i c]
        · rw [if_neg c, hS2 i (by omega)]
      have hfS : fdg S 13 = ds + 1 := fdg_top (by omega) (fun i hi => hS2 i (by omega)) hSn
      refine mj_T.eq (pc2 := 126) (st2 := [.int (jn 1)]) ?_ rfl rfl rfl rfl
      iterate 2 refine mj_T.pl rfl rfl rfl rfl ?_
      refine mT_get m7 15 cq_d444 (by decide) rfl rfl ?_
      refine mT_get m7 16 cq_d172 (by decide) rfl rfl ?_
      refine mj_T.pl rfl rfl rfl rfl ?_
      refine mT_aald m7 5 cq_d173 (by decide) rfl rfl (by omega) ⟨by omega, by omega⟩ ?_
      refine mj_T.eq (st2 := [.ref 180]) ?_ rfl rfl rfl rfl
      refine mj_T.pl rfl rfl rfl rfl ?_
      refine mT_get m7 15 cq_d444 (by decide) rfl rfl ?_
      refine mT_get m7 11 cq_d19 (by decide) rfl rfl ?_
      refine mj_T.call rfl rfl (Nat.le_of_ble_eq_true rfl) (Nat.le_of_ble_eq_true rfl) (mV_of m7 13 cq_d180 (by decide) rfl (by decide) rfl _) rfl (mj_Ok.up (by omega) (mP_set (D := 0) m7 cq_d180 cq_d50 (by decide) (b7.p cq_d50) (fun i hi => by rw [eS7, cap180 i (by omega)]; have := jnl_B (hSs i) kM_1.2.1; omega))) (fun v g46 hq => ?_) (fun i g46 hq => ?_)
      rotate_left
      · obtain ⟨_, _, hq⟩ := hq; cases hq
      obtain ⟨_, m8, hq⟩ := hq
      cases hq
      rw [p180, eS7, hfS, show ((ds + 1 : Nat) : Int) - 1 = (ds : Int) by omega] at m8
      have b8 : by0 (pfl V7 180 S 13) := b7.wr cq_d180 (by omega)
      refine mj_T.eq (pc2 := 146) (st2 := []) ?_ rfl rfl rfl rfl
      refine mj_T.ret rfl rfl rfl ⟨_, _, _, S, G, ds, dz, m8, b8, ?_, ?_, hG, eS, hS2, hSn, by omega, hSs, fun e he => pfl_at _ _ _ he, xup_at _ _ _ _, rfl⟩
      · exact (((((dg3.oth (by decide +kernel)).deg (by omega)).deg (by omega)).deg (by omega)).deg (by omega)).deg (by omega)
      · exact fx3.tr ((FX.up (Or.inr (Or.inl cq_d444))).tr ((FX.up (Or.inl cq_d20)).tr ((FX.up (Or.inl cq_d80)).tr ((FX.up (Or.inl cq_d50)).tr ((FX.up (Or.inl cq_d80)).tr (FX.up (Or.inl cq_d180)))))))
  · simp only [jc, Bool.not_eq_true', Bool.not_eq_false', decide_eq_true_eq, decide_eq_false_iff_not] at c6
    iterate 2 refine mj_T.pl rfl rfl rfl rfl ?_
    refine mT_put (v := 1) m3 15 cq_d444 (by decide) rfl (by simp [jMf, xup]) (by simp [jMf]) rfl (fun h9 m10 => ?_)
    refine mj_T.pl rfl rfl rfl rfl ?_
    refine mT_get (v := .int (jn 1)) m10 15 cq_d444 (by decide) rfl (congrArg (fun z : Int => some (Value.int (jn z))) (xup_at _ _ _ _)) ?_
    refine mj_T.if0 (a := 1) rfl ⟨by omega, by omega⟩ (fun c41 => ?_) (fun c41 => ?_)
    · simp only [jc, Bool.not_eq_true', Bool.not_eq_false', decide_eq_true_eq, decide_eq_false_iff_not] at c41
      have hdz0 : dz = 0 := by omega
      subst hdz0
      refine mj_T.ret rfl rfl rfl ⟨_, _, _, ppr (X r), G, mm, 0, m10, b3, dg3.oth (by decide +kernel), fx3.tr (FX.up (Or.inr (Or.inl cq_d444))), hG, ?_, a3, by omega, by omega, fun i => Nat.le_trans (a5 i) (by decide), eA3, (congrFun (xup_oth (by decide)) 2).trans hX180, rfl⟩
      rw [gp_one hG, pz_mul_comm, pz_one_mul]
    · exfalso
      simp [jc] at c41
end MBG
