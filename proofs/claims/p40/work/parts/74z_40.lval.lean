/-! The class loosely: values, divisions without rest. -/
section MLH
variable {g h : mj_H} {n D p q r : Nat} {V : Nat → Int} {X : Nat → Nat → Int}
theorem mZ_27 (m : jM g n V X h) (b : by0 V) (kr : cK r = 2) (hjr : ∀ j, jR (X r j)) {x y : Int} (hx : -2147483648 ≤ x ∧ x ≤ 2147483647) (hy : -2147483648 ≤ y ∧ y ≤ 2147483647) : mj_Ok (D + 5) 27 [.ref 19, .ref r, .int (jn x), .int (jn y)] h (fun z => ∃ (V2 : Nat → Int) (d c : Int) (h2 : mj_H), jM g n V2 (xup X 80 2 d) h2 ∧ by0 V2 ∧ (-1 ≤ d ∧ d < cL (80 + 3)) ∧ (-2147483648 ≤ c ∧ c ≤ 2147483647) ∧ z = (.inl (some (.int (jn c))), h2)) := by
  have knr : r ≠ 80 ∧ r ≠ 50 := ⟨(kR_ne kr).2.2.1, (kR_ne kr).2.1⟩
  refine mj_Ok.of (M := mj_m27) rfl rfl rfl ?_
  refine mj_T.pl rfl rfl rfl rfl ?_
  refine mT_get m 11 cq_d19 (by decide) rfl rfl ?_
  refine mj_T.pl rfl rfl rfl rfl ?_
  refine jT.lc 1 rfl rfl ?_
  refine mj_T.call rfl rfl (Nat.le_of_ble_eq_true rfl) (Nat.le_of_ble_eq_true rfl) (mV_of m 13 cq_d80 (by decide) rfl (by decide) rfl _) rfl (mj_Ok.up (by omega) (mZ_40 (D := 0) m b cq_d80 kr ⟨by decide, by decide⟩ (by intro j; first | exact hjr j | (rw [xup_oth knr.1]; exact hjr j) | (rw [xup_oth knr.2]; exact hjr j)))) (fun v g1 hq => ?_) (fun i g1 hq => ?_)
  rotate_left
  · obtain ⟨_, _, _, _, _, _, hq⟩ := hq; cases hq
  obtain ⟨V4, d2, _, m3, b5, hd2, hq⟩ := hq
  cases hq
  refine mj_T.eq (pc2 := 9) (st2 := []) ?_ rfl rfl rfl rfl
  iterate 2 refine mj_T.pl rfl rfl rfl rfl ?_
  refine mT_get m3 11 cq_d19 (by decide) rfl rfl ?_
  refine mj_T.pl rfl rfl rfl rfl ?_
  refine mj_T.i2l rfl ⟨by omega, by omega⟩ ?_
  refine mj_T.call rfl rfl (Nat.le_of_ble_eq_true rfl) (Nat.le_of_ble_eq_true rfl) (mV_of m3 11 cq_d19 (by decide) rfl (by decide) rfl _) rfl (mj_Ok.up (by omega) (mZ_26 (D := 0) m3 b5 cq_d80 ⟨by omega, by omega⟩ (xup_at _ _ _ _) hd2)) (fun v g6 hq => ?_) (fun i g6 hq => ?_)
  rotate_left
  · obtain ⟨_, _, _, _, hq⟩ := hq; cases hq
  obtain ⟨V7, _, m8, b9, hq⟩ := hq
  cases hq
  refine mj_T.eq (pc2 := 19) (st2 := []) ?_ rfl rfl rfl rfl
  refine mj_T.pl rfl rfl rfl rfl ?_
  refine mT_get m8 11 cq_d19 (by decide) rfl rfl ?_
  refine mj_T.pl rfl rfl rfl rfl ?_
  refine mj_T.i2l rfl ⟨by omega, by omega⟩ ?_
  refine mj_T.call rfl rfl (Nat.le_of_ble_eq_true rfl) (Nat.le_of_ble_eq_true rfl) (mV_of m8 18 cq_d168 (by decide) rfl (by decide) rfl _) rfl (mj_Ok.up (by omega) (mF_86 (D := 0) m8 b9 fr_d168 ⟨by omega, by omega⟩)) (fun v g10 hq => ?_) (fun i g10 hq => ?_)
  rotate_left
  · obtain ⟨_, _, _, _, hq⟩ := hq; cases hq
  obtain ⟨V11, _, m12, b13, hq⟩ := hq
  cases hq
  refine mj_T.eq (pc2 := 28) (st2 := []) ?_ rfl rfl rfl rfl
  iterate 2 refine mj_T.pl rfl rfl rfl rfl ?_
  refine mT_get m12 11 cq_d19 (by decide) rfl rfl ?_
  refine mj_T.pl rfl rfl rfl rfl ?_
  refine mT_get m12 11 cq_d19 (by decide) rfl rfl ?_
  refine mj_T.call rfl rfl (Nat.le_of_ble_eq_true rfl) (Nat.le_of_ble_eq_true rfl) (mV_of m12 11 cq_d19 (by decide) rfl (by decide) rfl _) rfl (mj_Ok.up (by omega) (mZ_28 (D := 0) m12 b13 cq_d80 fr_d168 (xup_at _ _ _ _) hd2)) (fun v g14 hq => ?_) (fun i g14 hq => ?_)
  rotate_left
  · obtain ⟨_, _, _, _, _, _, hq⟩ := hq; cases hq
  obtain ⟨V17, z15, _, m16, b18, rz15, hq⟩ := hq
  cases hq
  refine mj_T.eq (pc2 := 40) (st2 := [.int (jn z15)]) ?_ rfl rfl rfl rfl
  exact mj_T.ret rfl rfl rfl ⟨V17, _, _, _, m16, b18, hd2, rz15, rfl⟩
theorem mZ_19_in {dq dr e : Nat} (h5 : X 50 2 = (dq : Int)) (h8 : X 80 2 = (dr : Int)) (hdq : dq < 13) (hdr : dr < 13) (he : dq + e < 13) {Q : mj_R → Prop} (hend : ∀ (V1 : Nat → Int) (h1 : mj_H), jM g n V1 (xup X 20 2 (-1)) h1 → by0 V1 → mj_T (D + 3) mj_m19 136 [some (.ref 19), some (.ref 50), some (.ref 20), some (.int (jn (e : Int))), some (.ref (20 + 4 + 2 * e)), some (.int (jn ((dq + 1 : Nat) : Int)))] [] h1 Q) : ∀ k i, dq + 1 = i + k → ∀ (V1 : Nat → Int) (h1 : mj_H), jM g n V1 (xup X 20 2 (-1)) h1 → by0 V1 → mj_T (D + 3) mj_m19 87 [some (.ref 19), some (.ref 50), some (.ref 20), some (.int (jn (e : Int))), some (.ref (20 + 4 + 2 * e)), some (.int (jn (i : Int)))] [] h1 Q
  | 0, i, hi, V1, h1, m, b => by
    have p20 : cL (20 + 3) = 13 := mK_z.1
    have p50 : cL (50 + 3) = 13 := mK_z.2.1
    have p80 : cL (80 + 3) = 13 := mK_z.2.2.1
    iterate 2 refine mj_T.pl rfl rfl rfl rfl ?_
    refine mT_get (v := .int (jn ((dq : Nat) : Int))) m 13 cq_d50 (by decide) rfl (congrArg (fun z : Int => some (Value.int (jn z))) ((congrFun (xup_oth (by decide)) 2).trans (h5))) ?_
    refine mj_T.icmp (a := ((i : Nat) : Int)) (b := ((dq : Nat) : Int)) rfl ⟨by omega, by omega⟩ ⟨by omega, by omega⟩ (fun c1 => ?_) (fun c1 => ?_)
    · simp only [jc, Bool.not_eq_true', Bool.not_eq_false', decide_eq_true_eq, decide_eq_false_iff_not] at c1
      rw [show i = dq + 1 by omega]
      exact hend _ _ m b
    · exfalso
      simp only [jc, Bool.not_eq_true', Bool.not_eq_false', decide_eq_true_eq, decide_eq_false_iff_not] at c1
      omega
  | k + 1, i, hi, V1, h1, m, b => by
    have p20 : cL (20 + 3) = 13 := mK_z.1
    have p50 : cL (50 + 3) = 13 := mK_z.2.1
    have p80 : cL (80 + 3) = 13 := mK_z.2.2.1
    iterate 2 refine mj_T.pl rfl rfl rfl rfl ?_
    refine mT_get (v := .int (jn ((dq : Nat) : Int))) m 13 cq_d50 (by decide) rfl (congrArg (fun z : Int => some (Value.int (jn z))) ((congrFun (xup_oth (by decide)) 2).trans (h5))) ?_
    refine mj_T.icmp (a := ((i : Nat) : Int)) (b := ((dq : Nat) : Int)) rfl ⟨by omega, by omega⟩ ⟨by omega, by omega⟩ (fun c1 => ?_) (fun c1 => ?_)
    · exfalso
      simp only [jc, Bool.not_eq_true', Bool.not_eq_false', decide_eq_true_eq, decide_eq_false_iff_not] at c1
      omega
    · simp only [jc, Bool.not_eq_true', Bool.not_eq_false', decide_eq_true_eq, decide_eq_false_iff_not] at c1
      refine mj_T.pl rfl rfl rfl rfl ?_
      refine mT_get m 11 cq_d19 (by decide) rfl rfl ?_
      iterate 3 refine mj_T.pl rfl rfl rfl rfl ?_
      refine mj_T.call rfl rfl (Nat.le_of_ble_eq_true rfl) (Nat.le_of_ble_eq_true rfl) (mV_of m 13 cq_d50 (by decide) rfl (by decide) rfl _) rfl (mj_Ok.up (by omega) (mP_at (D := 0) m cq_d50 (e := i) (by omega))) (fun v g2 hq => ?_) (fun i g2 hq => ?_)
      rotate_left
      · cases hq
      cases hq
      refine mj_T.eq (pc2 := 108) (st2 := [.ref (50 + 4 + 2 * i), .ref (20 + 4 + 2 * e), .ref 166]) ?_ rfl rfl rfl rfl
      refine mj_T.call rfl rfl (Nat.le_of_ble_eq_true rfl) (Nat.le_of_ble_eq_true rfl) (mV_of m 18 cq_d166 (by decide) rfl (by decide) rfl _) rfl (mj_Ok.up (by omega) (mF_95 (D := 0) m b fr_d166 (fr_part cq_d20 (by omega)) (fr_part cq_d50 (by omega)))) (fun v g3 hq => ?_) (fun i g3 hq => ?_)
      rotate_left
      · obtain ⟨_, _, _, _, hq⟩ := hq; cases hq
      obtain ⟨V4, _, m5, b6, hq⟩ := hq
      cases hq
      refine mj_T.eq (pc2 := 111) (st2 := []) ?_ rfl rfl rfl rfl
      refine mj_T.pl rfl rfl rfl rfl ?_
      refine mT_get m5 11 cq_d19 (by decide) rfl rfl ?_
      iterate 2 refine mj_T.pl rfl rfl rfl rfl ?_
      refine mj_T.iadd (a := ((i : Nat) : Int)) (b := ((e : Nat) : Int)) rfl ?_
      rw [show (((i : Nat) : Int) + ((e : Nat) : Int)) = ((i + e : Nat) : Int) by omega]
      refine mj_T.call rfl rfl (Nat.le_of_ble_eq_true rfl) (Nat.le_of_ble_eq_true rfl) (mV_of m5 13 cq_d80 (by decide) rfl (by decide) rfl _) rfl (mj_Ok.up (by omega) (mP_at (D := 0) m5 cq_d80 (e := (i + e)) (by omega))) (fun v g7 hq => ?_) (fun i g7 hq => ?_)
      rotate_left
      · cases hq
      cases hq
      refine mj_T.eq (pc2 := 122) (st2 := [.ref (80 + 4 + 2 * (i + e))]) ?_ rfl rfl rfl rfl
      refine mj_T.pl rfl rfl rfl rfl ?_
      refine mT_get m5 11 cq_d19 (by decide) rfl rfl ?_
      refine mj_T.pl rfl rfl rfl rfl ?_
      refine mj_T.call rfl rfl (Nat.le_of_ble_eq_true rfl) (Nat.le_of_ble_eq_true rfl) (mV_of m5 18 ((mK_p cq_d80).2.2.2 (i + e) (by omega)) (by decide) rfl (by decide) rfl _) rfl (mj_Ok.up (by omega) (mF_91 (D := 0) m5 b6 (fr_part cq_d80 (by omega)) fr_d166 (by omega))) (fun v g8 hq => ?_) (fun i g8 hq => ?_)
      rotate_left
      · obtain ⟨_, _, _, _, hq⟩ := hq; cases hq
      obtain ⟨V9, _, m10, b11, hq⟩ := hq
      cases hq
      refine mj_T.eq (pc2 := 130) (st2 := []) ?_ rfl rfl rfl rfl
      refine mj_T.iinc rfl rfl ?_
      rw [show ((i : Nat) : Int) + 1 = ((i + 1 : Nat) : Int) by omega]
      refine mj_T.eq (loc2 := [some (.ref 19), some (.ref 50), some (.ref 20), some (.int (jn ((e : Nat) : Int))), some (.ref (20 + 4 + 2 * e)), some (.int (jn (((i + 1) : Nat) : Int)))]) ?_ rfl rfl rfl rfl
      refine mj_T.pl rfl rfl rfl rfl ?_
      exact mZ_19_in h5 h8 hdq hdr he hend k (i + 1) (by omega) _ _ m10 b11
theorem mZ_19_out {dq dr : Nat} (h5 : X 50 2 = (dq : Int)) (h8 : X 80 2 = (dr : Int)) (hdq : dq < 13) (hdr : dr < 13) : ∀ (k : Nat) (s : Int), s < k → (-30 ≤ s ∧ s ≤ (dr : Int) - dq) → ∀ (V1 : Nat → Int) (h1 : mj_H) (l4 l5 : Option Value), jM g n V1 (xup X 20 2 (-1)) h1 → by0 V1 → mj_T (D + 3) mj_m19 28 [some (.ref 19), some (.ref 50), some (.ref 20), some (.int (jn s)), l4, l5] [] h1 (fun z => ∃ (V2 : Nat → Int) (X2 : Nat → Nat → Int) (c : Int) (h2 : mj_H), jM g n V2 X2 h2 ∧ by0 V2 ∧ (∀ a, a ≠ 20 → a ≠ 80 → X2 a = X a) ∧ (-1 ≤ X2 20 2 ∧ X2 20 2 < cL (20 + 3)) ∧ (-1 ≤ X2 80 2 ∧ X2 80 2 < cL (80 + 3)) ∧ (0 ≤ c ∧ c ≤ 1) ∧ z = (.inl (some (.int (jn c))), h2))
  | 0, s, hs, hs2, V1, h1, l4, l5, m, b => by
    have p20 : cL (20 + 3) = 13 := mK_z.1
    have p50 : cL (50 + 3) = 13 := mK_z.2.1
    have p80 : cL (80 + 3) = 13 := mK_z.2.2.1
    refine mj_T.pl rfl rfl rfl rfl ?_
    refine mj_T.if0 (a := s) rfl ⟨by omega, by omega⟩ (fun c1 => ?_) (fun c1 => ?_)
    · simp only [jc, Bool.not_eq_true', Bool.not_eq_false', decide_eq_true_eq, decide_eq_false_iff_not] at c1
      refine mj_T.pl rfl rfl rfl rfl ?_
      refine mj_T.call rfl rfl (Nat.le_of_ble_eq_true rfl) (Nat.le_of_ble_eq_true rfl) (mV_of m 13 cq_d20 (by decide) rfl (by decide) rfl _) rfl (mj_Ok.up (by omega) (mZ_42 (D := 0) m cq_d20)) (fun v g42 hq => ?_) (fun i g42 hq => ?_)
      rotate_left
      · obtain ⟨_, _, _, _, hq⟩ := hq; cases hq
      obtain ⟨d43, _, m44, hd43, hq⟩ := hq
      cases hq
      refine mj_T.eq (pc2 := 146) (st2 := []) ?_ rfl rfl rfl rfl
      refine mj_T.pl rfl rfl rfl rfl ?_
      refine mT_get m44 11 cq_d19 (by decide) rfl rfl ?_
      refine mj_T.call rfl rfl (Nat.le_of_ble_eq_true rfl) (Nat.le_of_ble_eq_true rfl) (mV_of m44 13 cq_d80 (by decide) rfl (by decide) rfl _) rfl (mj_Ok.up (by omega) (mZ_42 (D := 0) m44 cq_d80)) (fun v g45 hq => ?_) (fun i g45 hq => ?_)
      rotate_left
      · obtain ⟨_, _, _, _, hq⟩ := hq; cases hq
      obtain ⟨d46, _, m47, hd46, hq⟩ := hq
      cases hq
      refine mj_T.eq (pc2 := 153) (st2 := []) ?_ rfl rfl rfl rfl
      refine mj_T.pl rfl rfl rfl rfl ?_
      refine mT_get m47 11 cq_d19 (by decide) rfl rfl ?_
      refine mT_get (v := .int (jn d46)) m47 13 cq_d80 (by decide) rfl (congrArg (fun z : Int => some (Value.int (jn z))) (xup_at _ _ _ _)) ?_
      refine mj_T.if0 (a := d46) rfl ⟨by omega, by omega⟩ (fun c48 => ?_) (fun c48 => ?_)
      · simp only [jc, Bool.not_eq_true', Bool.not_eq_false', decide_eq_true_eq, decide_eq_false_iff_not] at c48
        refine mj_T.pl rfl rfl rfl rfl ?_
        exact mj_T.ret rfl rfl rfl ⟨V1, _, _, _, m47, b, fun a a1 a2 => (xup_oth a2).trans ((xup_oth a1).trans (xup_oth a1)), by rw [xup_ne _ _ (Or.inl (by decide)), xup_at]; exact hd43, by rw [xup_at]; exact hd46, ⟨by decide, by decide⟩, rfl⟩
      · simp only [jc, Bool.not_eq_true', Bool.not_eq_false', decide_eq_true_eq, decide_eq_false_iff_not] at c48
        iterate 2 refine mj_T.pl rfl rfl rfl rfl ?_
        exact mj_T.ret rfl rfl rfl ⟨V1, _, _, _, m47, b, fun a a1 a2 => (xup_oth a2).trans ((xup_oth a1).trans (xup_oth a1)), by rw [xup_ne _ _ (Or.inl (by decide)), xup_at]; exact hd43, by rw [xup_at]; exact hd46, ⟨by decide, by decide⟩, rfl⟩
    · exfalso
      simp only [jc, Bool.not_eq_true', Bool.not_eq_false', decide_eq_true_eq, decide_eq_false_iff_not] at c1
      omega
  | k + 1, s, hs, hs2, V1, h1, l4, l5, m, b => by
    have p20 : cL (20 + 3) = 13 := mK_z.1
    have p50 : cL (50 + 3) = 13 := mK_z.2.1
    have p80 : cL (80 + 3) = 13 := mK_z.2.2.1
    refine mj_T.pl rfl rfl rfl rfl ?_
    refine mj_T.if0 (a := s) rfl ⟨by omega, by omega⟩ (fun c1 => ?_) (fun c1 => ?_)
    · simp only [jc, Bool.not_eq_true', Bool.not_eq_false', decide_eq_true_eq, decide_eq_false_iff_not] at c1
      refine mj_T.pl rfl rfl rfl rfl ?_
      refine mj_T.call rfl rfl (Nat.le_of_ble_eq_true rfl) (Nat.le_of_ble_eq_true rfl) (mV_of m 13 cq_d20 (by decide) rfl (by decide) rfl _) rfl (mj_Ok.up (by omega) (mZ_42 (D := 0) m cq_d20)) (fun v g42 hq => ?_) (fun i g42 hq => ?_)
      rotate_left
      · obtain ⟨_, _, _, _, hq⟩ := hq; cases hq
      obtain ⟨d43, _, m44, hd43, hq⟩ := hq
      cases hq
      refine mj_T.eq (pc2 := 146) (st2 := []) ?_ rfl rfl rfl rfl
      refine mj_T.pl rfl rfl rfl rfl ?_
      refine mT_get m44 11 cq_d19 (by decide) rfl rfl ?_
      refine mj_T.call rfl rfl (Nat.le_of_ble_eq_true rfl) (Nat.le_of_ble_eq_true rfl) (mV_of m44 13 cq_d80 (by decide) rfl (by decide) rfl _) rfl (mj_Ok.up (by omega) (mZ_42 (D := 0) m44 cq_d80)) (fun v g45 hq => ?_) (fun i g45 hq => ?_)
      rotate_left
      · obtain ⟨_, _, _, _, hq⟩ := hq; cases hq
      obtain ⟨d46, _, m47, hd46, hq⟩ := hq
      cases hq
      refine mj_T.eq (pc2 := 153) (st2 := []) ?_ rfl rfl rfl rfl
      refine mj_T.pl rfl rfl rfl rfl ?_
      refine mT_get m47 11 cq_d19 (by decide) rfl rfl ?_
      refine mT_get (v := .int (jn d46)) m47 13 cq_d80 (by decide) rfl (congrArg (fun z : Int => some (Value.int (jn z))) (xup_at _ _ _ _)) ?_
      refine mj_T.if0 (a := d46) rfl ⟨by omega, by omega⟩ (fun c48 => ?_) (fun c48 => ?_)
      · simp only [jc, Bool.not_eq_true', Bool.not_eq_false', decide_eq_true_eq, decide_eq_false_iff_not] at c48
        refine mj_T.pl rfl rfl rfl rfl ?_
        exact mj_T.ret rfl rfl rfl ⟨V1, _, _, _, m47, b, fun a a1 a2 => (xup_oth a2).trans ((xup_oth a1).trans (xup_oth a1)), by rw [xup_ne _ _ (Or.inl (by decide)), xup_at]; exact hd43, by rw [xup_at]; exact hd46, ⟨by decide, by decide⟩, rfl⟩
      · simp only [jc, Bool.not_eq_true', Bool.not_eq_false', decide_eq_true_eq, decide_eq_false_iff_not] at c48
        iterate 2 refine mj_T.pl rfl rfl rfl rfl ?_
        exact mj_T.ret rfl rfl rfl ⟨V1, _, _, _, m47, b, fun a a1 a2 => (xup_oth a2).trans ((xup_oth a1).trans (xup_oth a1)), by rw [xup_ne _ _ (Or.inl (by decide)), xup_at]; exact hd43, by rw [xup_at]; exact hd46, ⟨by decide, by decide⟩, rfl⟩
    · simp only [jc, Bool.not_eq_true', Bool.not_eq_false', decide_eq_true_eq, decide_eq_false_iff_not] at c1
      obtain ⟨e, he⟩ : ∃ e : Nat, s = (e : Int) := ⟨(s : Int).toNat, by omega⟩
      subst he
      iterate 2 refine mj_T.pl rfl rfl rfl rfl ?_
      refine mj_T.call rfl rfl (Nat.le_of_ble_eq_true rfl) (Nat.le_of_ble_eq_true rfl) (mV_of m 13 cq_d20 (by decide) rfl (by decide) rfl _) rfl (mj_Ok.up (by omega) (mP_at (D := 0) m cq_d20 (e := e) (by omega))) (fun v g2 hq => ?_) (fun i g2 hq => ?_)
      rotate_left
      · cases hq
      cases hq
      refine mj_T.eq (pc2 := 37) (st2 := [.ref (20 + 4 + 2 * e)]) ?_ rfl rfl rfl rfl
      refine mj_T.pl (loc' := [some (.ref 19), some (.ref 50), some (.ref 20), some (.int (jn ((e : Nat) : Int))), some (.ref (20 + 4 + 2 * e)), l5]) rfl rfl rfl rfl ?_
      refine mj_T.pl rfl rfl rfl rfl ?_
      refine mT_get m 11 cq_d19 (by decide) rfl rfl ?_
      refine mj_T.pl rfl rfl rfl rfl ?_
      refine mT_get m 11 cq_d19 (by decide) rfl rfl ?_
      refine mj_T.pl rfl rfl rfl rfl ?_
      refine mT_get (v := .int (jn ((dq : Nat) : Int))) m 13 cq_d50 (by decide) rfl (congrArg (fun z : Int => some (Value.int (jn z))) ((congrFun (xup_oth (by decide)) 2).trans (h5))) ?_
      refine mj_T.pl rfl rfl rfl rfl ?_
      refine mj_T.iadd (a := ((dq : Nat) : Int)) (b := ((e : Nat) : Int)) rfl ?_
      rw [show (((dq : Nat) : Int) + ((e : Nat) : Int)) = ((dq + e : Nat) : Int) by omega]
      refine mj_T.call rfl rfl (Nat.le_of_ble_eq_true rfl) (Nat.le_of_ble_eq_true rfl) (mV_of m 13 cq_d80 (by decide) rfl (by decide) rfl _) rfl (mj_Ok.up (by omega) (mP_at (D := 0) m cq_d80 (e := (dq + e)) (by omega))) (fun v g3 hq => ?_) (fun i g3 hq => ?_)
      rotate_left
      · cases hq
      cases hq
      refine mj_T.eq (pc2 := 56) (st2 := [.ref (80 + 4 + 2 * (dq + e)), .ref 164]) ?_ rfl rfl rfl rfl
      refine mj_T.call rfl rfl (Nat.le_of_ble_eq_true rfl) (Nat.le_of_ble_eq_true rfl) (mV_of m 18 cq_d164 (by decide) rfl (by decide) rfl _) rfl (mj_Ok.up (by omega) (mF_87 (D := 0) m b fr_d164 (fr_part cq_d80 (by omega)))) (fun v g4 hq => ?_) (fun i g4 hq => ?_)
      rotate_left
      · obtain ⟨_, _, _, _, hq⟩ := hq; cases hq
      obtain ⟨V5, _, m6, b7, hq⟩ := hq
      cases hq
      refine mj_T.eq (pc2 := 59) (st2 := []) ?_ rfl rfl rfl rfl
      refine mj_T.pl rfl rfl rfl rfl ?_
      refine mT_get m6 11 cq_d19 (by decide) rfl rfl ?_
      refine mj_T.pl rfl rfl rfl rfl ?_
      refine mT_get m6 11 cq_d19 (by decide) rfl rfl ?_
      refine mj_T.pl rfl rfl rfl rfl ?_
      refine mj_T.call rfl rfl (Nat.le_of_ble_eq_true rfl) (Nat.le_of_ble_eq_true rfl) (mV_of m6 12 cq_d170 (by decide) rfl (by decide) rfl _) rfl (mj_Ok.up (by omega) (mF_31 (D := 0) m6 b7 cq_d170 fr_d164 (fr_part cq_d20 (by omega)))) (fun v g8 hq => ?_) (fun i g8 hq => ?_)
      rotate_left
      · obtain ⟨_, _, _, _, hq⟩ := hq; cases hq
      obtain ⟨V9, _, m10, b11, hq⟩ := hq
      cases hq
      refine mj_T.eq (pc2 := 72) (st2 := []) ?_ rfl rfl rfl rfl
      refine mj_T.pl rfl rfl rfl rfl ?_
      refine mT_get m10 11 cq_d19 (by decide) rfl rfl ?_
      refine mZ_sg m10 cq_d164 rfl (fun z12 rz12 => ?_)
      refine mj_T.if0 (a := z12) rfl ⟨by omega, by omega⟩ (fun c13 => ?_) (fun c13 => ?_)
      · simp only [jc, Bool.not_eq_true', Bool.not_eq_false', decide_eq_true_eq, decide_eq_false_iff_not] at c13
        refine mj_T.pl rfl rfl rfl rfl ?_
        refine mj_T.pl (loc' := [some (.ref 19), some (.ref 50), some (.ref 20), some (.int (jn ((e : Nat) : Int))), some (.ref (20 + 4 + 2 * e)), some (.int (jn 0))]) rfl rfl rfl rfl ?_
        refine mj_T.eq (loc2 := [some (.ref 19), some (.ref 50), some (.ref 20), some (.int (jn (e : Int))), some (.ref (20 + 4 + 2 * e)), some (.int (jn ((0 : Nat) : Int)))]) ?_ rfl rfl rfl rfl
        refine mZ_19_in h5 h8 hdq hdr (by omega) (fun V3 h3 m3 b3 => ?_) (dq + 1) 0 (by omega) _ _ m10 b11
        refine mj_T.iinc rfl rfl ?_
        refine mj_T.eq (loc2 := [some (.ref 19), some (.ref 50), some (.ref 20), some (.int (jn (((e : Nat) : Int) + (-1)))), some (.ref (20 + 4 + 2 * e)), some (.int (jn (((dq + 1) : Nat) : Int)))]) ?_ rfl rfl rfl rfl
        refine mj_T.pl rfl rfl rfl rfl ?_
        exact mZ_19_out h5 h8 hdq hdr k _ (by omega) (by omega) _ _ _ _ m3 b3
      · simp only [jc, Bool.not_eq_true', Bool.not_eq_false', decide_eq_true_eq, decide_eq_false_iff_not] at c13
        refine mj_T.pl rfl rfl rfl rfl ?_
        exact mj_T.ret rfl rfl rfl ⟨V9, _, _, _, m10, b11, fun a a1 a2 => xup_oth a1, ⟨by rw [xup_at]; omega, by rw [xup_at]; omega⟩, ⟨by rw [xup_ne _ _ (Or.inl (by decide)), h8]; omega, by rw [xup_ne _ _ (Or.inl (by decide)), h8]; omega⟩, ⟨by decide, by decide⟩, rfl⟩
theorem by0.clr {V : Nat → Int} (b : by0 V) {p : Nat} (kp : cK p = 13) : by0 (pfl V p (fun _ => 0) (cL (p + 3))) := fun x hx => by
  unfold pfl
  split
  · rfl
  · exact b x hx
theorem mZ_19 (m : jM g n V X h) (b : by0 V) {dq dr : Nat} (h5 : X 50 2 = (dq : Int)) (h8 : X 80 2 = (dr : Int)) (hdq : dq < 13) (hdr : dr < 13) : mj_Ok (D + 4) 19 [.ref 19, .ref 50, .ref 20] h (fun z => ∃ (V2 : Nat → Int) (X2 : Nat → Nat → Int) (c : Int) (h2 : mj_H), jM g n V2 X2 h2 ∧ by0 V2 ∧ (∀ a, a ≠ 20 → a ≠ 80 → X2 a = X a) ∧ (-1 ≤ X2 20 2 ∧ X2 20 2 < cL (20 + 3)) ∧ (-1 ≤ X2 80 2 ∧ X2 80 2 < cL (80 + 3)) ∧ (0 ≤ c ∧ c ≤ 1) ∧ z = (.inl (some (.int (jn c))), h2)) := by
  have p20 : cL (20 + 3) = 13 := mK_z.1
  have p50 : cL (50 + 3) = 13 := mK_z.2.1
  have p80 : cL (80 + 3) = 13 := mK_z.2.2.1
  refine mj_Ok.of (M := mj_m19) rfl rfl rfl ?_
  refine mj_T.pl rfl rfl rfl rfl ?_
  refine mj_T.call rfl rfl (Nat.le_of_ble_eq_true rfl) (Nat.le_of_ble_eq_true rfl) (mV_of m 13 cq_d20 (by decide) rfl (by decide) rfl _) rfl (mj_Ok.up (by omega) (mP_clear (D := 0) m cq_d20)) (fun v g1 hq => ?_) (fun i g1 hq => ?_)
  rotate_left
  · obtain ⟨_, _, hq⟩ := hq; cases hq
  obtain ⟨_, m2, hq⟩ := hq
  cases hq
  have b3 : by0 (pfl V 20 (fun _ => 0) (cL (20 + 3))) := by0.clr b cq_d20
  refine mj_T.eq (pc2 := 4) (st2 := []) ?_ rfl rfl rfl rfl
  refine mj_T.pl rfl rfl rfl rfl ?_
  refine mT_get m2 11 cq_d19 (by decide) rfl rfl ?_
  refine mj_T.pl rfl rfl rfl rfl ?_
  refine mj_T.call rfl rfl (Nat.le_of_ble_eq_true rfl) (Nat.le_of_ble_eq_true rfl) (mV_of m2 13 cq_d50 (by decide) rfl (by decide) rfl _) rfl (mj_Ok.up (by omega) (mP_lead (D := 0) m2 cq_d50 ((congrFun (xup_oth (by decide)) 2).trans (h5)) (by omega))) (fun v g4 hq => ?_) (fun i g4 hq => ?_)
  rotate_left
  · cases hq
  cases hq
  refine mj_T.eq (pc2 := 12) (st2 := [.ref (50 + 4 + 2 * dq), .ref 170]) ?_ rfl rfl rfl rfl
  refine mj_T.call rfl rfl (Nat.le_of_ble_eq_true rfl) (Nat.le_of_ble_eq_true rfl) (mV_of m2 12 cq_d170 (by decide) rfl (by decide) rfl _) rfl (mj_Ok.up (by omega) (mF_30 (D := 0) m2 b3 cq_d170 (fr_part cq_d50 (by omega)))) (fun v g5 hq => ?_) (fun i g5 hq => ?_)
  rotate_left
  · obtain ⟨_, _, _, _, hq⟩ := hq; cases hq
  obtain ⟨V6, _, m7, b8, hq⟩ := hq
  cases hq
  refine mj_T.eq (pc2 := 15) (st2 := []) ?_ rfl rfl rfl rfl
  refine mj_T.pl rfl rfl rfl rfl ?_
  refine mT_get m7 11 cq_d19 (by decide) rfl rfl ?_
  refine mT_get (v := .int (jn ((dr : Nat) : Int))) m7 13 cq_d80 (by decide) rfl (congrArg (fun z : Int => some (Value.int (jn z))) ((congrFun (xup_oth (by decide)) 2).trans (h8))) ?_
  refine mj_T.pl rfl rfl rfl rfl ?_
  refine mT_get (v := .int (jn ((dq : Nat) : Int))) m7 13 cq_d50 (by decide) rfl (congrArg (fun z : Int => some (Value.int (jn z))) ((congrFun (xup_oth (by decide)) 2).trans (h5))) ?_
  refine mj_T.isub (a := ((dr : Nat) : Int)) (b := ((dq : Nat) : Int)) rfl ?_
  refine mj_T.pl (loc' := [some (.ref 19), some (.ref 50), some (.ref 20), some (.int (jn (((dr : Nat) : Int) - ((dq : Nat) : Int)))), none, none]) rfl rfl rfl rfl ?_
  exact mZ_19_out h5 h8 hdq hdr 40 _ (by omega) (by omega) _ _ _ _ m7 b8
end MLH
