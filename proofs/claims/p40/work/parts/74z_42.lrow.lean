/-! The class loosely: the row of Sturm. -/
section MLT
variable {g h : mj_H} {n D : Nat} {V : Nat → Int} {X : Nat → Nat → Int}
theorem mZ_70_loop : ∀ u t, t + u = 12 → ∀ (V1 : Nat → Int) (X1 : Nat → Nat → Int) (h1 : mj_H), jM g n V1 X1 h1 → by0 V1 → FX X X1 → DG X1 → mj_T (D + 5) mj_m70 39 [some (.ref 172), some (.int (jn ((t + 2 : Nat) : Int)))] [] h1 (fun z => ∃ (V2 : Nat → Int) (X2 : Nat → Nat → Int) (h2 : mj_H), jM g n V2 X2 h2 ∧ by0 V2 ∧ FX X X2 ∧ DG X2 ∧ z = (.inl none, h2))
  | 0, t, htu, V1, X1, hh1, m, b, fx, dg => by
    have hL : cL 173 = 14 := mK_r.2.2.2.1
    have e1 := dg (sro (t + 1)) ((sro_k (t := t + 1) (by omega)).1)
    have l1 := (mK_p ((sro_k (t := t + 1) (by omega)).1)).2.2.1
    iterate 2 refine mj_T.pl rfl rfl rfl rfl ?_
    refine mT_get m 16 cq_d172 (by decide) rfl rfl ?_
    refine mT_alen m 5 cq_d173 (by decide) rfl ?_
    refine mj_T.icmp (a := (((t + 2) : Nat) : Int)) (b := ((cL 173 : Nat) : Int)) rfl ⟨by omega, by omega⟩ ⟨by omega, by omega⟩ (fun c1 => ?_) (fun c1 => ?_)
    · simp only [jc, decide_eq_true_eq, decide_eq_false_iff_not, hL] at c1
      exact mj_T.ret rfl rfl rfl ⟨V1, _, _, m, b, fx, dg, rfl⟩
    · exfalso
      simp only [jc, decide_eq_true_eq, decide_eq_false_iff_not, hL] at c1
      omega
  | u + 1, t, htu, V1, X1, hh1, m, b, fx, dg => by
    have hL : cL 173 = 14 := mK_r.2.2.2.1
    have e1 := dg (sro (t + 1)) ((sro_k (t := t + 1) (by omega)).1)
    have l1 := (mK_p ((sro_k (t := t + 1) (by omega)).1)).2.2.1
    iterate 2 refine mj_T.pl rfl rfl rfl rfl ?_
    refine mT_get m 16 cq_d172 (by decide) rfl rfl ?_
    refine mT_alen m 5 cq_d173 (by decide) rfl ?_
    refine mj_T.icmp (a := (((t + 2) : Nat) : Int)) (b := ((cL 173 : Nat) : Int)) rfl ⟨by omega, by omega⟩ ⟨by omega, by omega⟩ (fun c1 => ?_) (fun c1 => ?_)
    · exfalso
      simp only [jc, decide_eq_true_eq, decide_eq_false_iff_not, hL] at c1
      omega
    · simp only [jc, decide_eq_true_eq, decide_eq_false_iff_not, hL] at c1
      refine mj_T.pl rfl rfl rfl rfl ?_
      refine mT_get m 16 cq_d172 (by decide) rfl rfl ?_
      iterate 2 refine mj_T.pl rfl rfl rfl rfl ?_
      refine mj_T.isub (a := (((t + 2) : Nat) : Int)) (b := 1) rfl ?_
      rw [show ((t + 2 : Nat) : Int) - 1 = ((t + 1 : Nat) : Int) by omega]
      refine mT_aald m 5 cq_d173 (by decide) rfl rfl (by omega) ⟨by omega, by omega⟩ ?_
      refine mj_T.eq (st2 := [.ref (sro (t + 1))]) ?_ rfl rfl rfl rfl
      refine mT_get m 13 (sro_k (t := t + 1) (by omega)).1 (by decide) rfl rfl ?_
      refine mj_T.if0 (a := (X1 (sro (t + 1)) 2)) rfl ⟨by omega, by omega⟩ (fun c2 => ?_) (fun c2 => ?_)
      · simp only [jc, Bool.not_eq_true', Bool.not_eq_false', decide_eq_true_eq, decide_eq_false_iff_not] at c2
        exact mj_T.ret rfl rfl rfl ⟨V1, _, _, m, b, fx, dg, rfl⟩
      · simp only [jc, Bool.not_eq_true', Bool.not_eq_false', decide_eq_true_eq, decide_eq_false_iff_not] at c2
        iterate 2 refine mj_T.pl rfl rfl rfl rfl ?_
        refine mT_get m 16 cq_d172 (by decide) rfl rfl ?_
        iterate 2 refine mj_T.pl rfl rfl rfl rfl ?_
        refine mj_T.isub (a := (((t + 2) : Nat) : Int)) (b := 2) rfl ?_
        rw [show ((t + 2 : Nat) : Int) - 2 = ((t : Nat) : Int) by omega]
        refine mT_aald m 5 cq_d173 (by decide) rfl rfl (by omega) ⟨by omega, by omega⟩ ?_
        refine mj_T.eq (st2 := [.ref (sro t), .ref 172]) ?_ rfl rfl rfl rfl
        refine mj_T.pl rfl rfl rfl rfl ?_
        refine mT_get m 16 cq_d172 (by decide) rfl rfl ?_
        iterate 2 refine mj_T.pl rfl rfl rfl rfl ?_
        refine mj_T.isub (a := (((t + 2) : Nat) : Int)) (b := 1) rfl ?_
        rw [show ((t + 2 : Nat) : Int) - 1 = ((t + 1 : Nat) : Int) by omega]
        refine mT_aald m 5 cq_d173 (by decide) rfl rfl (by omega) ⟨by omega, by omega⟩ ?_
        refine mj_T.eq (st2 := [.ref (sro (t + 1)), .ref (sro t), .ref 172]) ?_ rfl rfl rfl rfl
        refine mj_T.pl rfl rfl rfl rfl ?_
        refine mT_get m 16 cq_d172 (by decide) rfl rfl ?_
        refine mj_T.pl rfl rfl rfl rfl ?_
        refine mT_aald m 5 cq_d173 (by decide) rfl rfl (by omega) ⟨by omega, by omega⟩ ?_
        refine mj_T.eq (st2 := [.ref (sro (t + 2)), .ref (sro (t + 1)), .ref (sro t), .ref 172]) ?_ rfl rfl rfl rfl
        obtain ⟨dq, hdq⟩ : ∃ dq : Nat, X1 (sro (t + 1)) 2 = (dq : Int) := ⟨(X1 (sro (t + 1)) 2).toNat, by omega⟩
        have s12 : sro (t + 1) ≠ sro (t + 2) := ((sro_2 (i := t + 1) (by omega)).2.2 (t + 2) (by omega)).1 (by omega)
        have s1 := (sro_2 (i := t + 1) (by omega)).1
        have s2 := (sro_2 (i := t + 2) (by omega)).1
        have s0 := (sro_2 (i := t) (by omega)).1
        have e0 := dg (sro t) ((sro_k (t := t) (by omega)).1)
        have l0 := mP_13 ((sro_k (t := t) (by omega)).1) s0
        have l2 := (mK_p ((sro_k (t := t + 2) (by omega)).1)).2.2.1
        refine mj_T.call rfl rfl (Nat.le_of_ble_eq_true rfl) (Nat.le_of_ble_eq_true rfl) (mV_of m 16 cq_d172 (by decide) rfl (by decide) rfl _) rfl (mj_Ok.up (by omega) (mZ_71 (D := 0) (dp := X1 (sro t) 2) m b ((sro_k (t := t) (by omega)).1) ((sro_k (t := t + 1) (by omega)).1) ((sro_k (t := t + 2) (by omega)).1) s0 (by omega) (by omega) s12 rfl ⟨by omega, by omega⟩ hdq (by omega))) (fun v g3 hq => ?_) (fun i g3 hq => ?_)
        rotate_left
        · obtain ⟨_, _, _, _, _, _, _, _, hq⟩ := hq; cases hq
        obtain ⟨V4, d1, d2, _, m5, b6, hd1, hd2, hq⟩ := hq
        cases hq
        have fx3 : FX X (xup (xup X1 80 2 d1) (sro (t + 2)) 2 d2) := fx.tr ((FX.up (Or.inl cq_d80)).tr (FX.up (Or.inl ((sro_k (t := t + 2) (by omega)).1))))
        have dg3 : DG (xup (xup X1 80 2 d1) (sro (t + 2)) 2 d2) := (dg.deg hd1).deg hd2
        refine mj_T.eq (pc2 := 88) (st2 := []) ?_ rfl rfl rfl rfl
        refine mj_T.pl rfl rfl rfl rfl ?_
        refine mT_get m5 16 cq_d172 (by decide) rfl rfl ?_
        refine mj_T.pl rfl rfl rfl rfl ?_
        refine mT_aald m5 5 cq_d173 (by decide) rfl rfl (by omega) ⟨by omega, by omega⟩ ?_
        refine mj_T.eq (st2 := [.ref (sro (t + 2))]) ?_ rfl rfl rfl rfl
        refine mT_get (v := .int (jn d2)) m5 13 (sro_k (t := t + 2) (by omega)).1 (by decide) rfl (congrArg (fun z : Int => some (Value.int (jn z))) (xup_at _ _ _ _)) ?_
        refine mj_T.if0 (a := d2) rfl ⟨by omega, by omega⟩ (fun c7 => ?_) (fun c7 => ?_)
        · simp only [jc, Bool.not_eq_true', Bool.not_eq_false', decide_eq_true_eq, decide_eq_false_iff_not] at c7
          iterate 3 refine mj_T.pl rfl rfl rfl rfl ?_
          refine mj_T.iadd (a := (((t + 2) : Nat) : Int)) (b := 1) rfl ?_
          refine mT_put (v := ((((t + 2) : Nat) : Int) + 1)) m5 16 cq_d172 (by decide) rfl (by simp [jMf, xup]) (by simp [jMf]) rfl (fun h8 m9 => ?_)
          refine mj_T.iinc rfl rfl ?_
          rw [show (((t + 2) : Nat) : Int) + 1 = (((t + 2) + 1 : Nat) : Int) by omega]
          refine mj_T.eq (loc2 := [some (.ref 172), some (.int (jn ((((t + 2) + 1) : Nat) : Int)))]) ?_ rfl rfl rfl rfl
          refine mj_T.pl rfl rfl rfl rfl ?_
          exact mZ_70_loop u (t + 1) (by omega) _ _ _ m9 b6 (fx3.tr (FX.up (Or.inr (Or.inr cq_d172)))) (dg3.oth (by decide +kernel))
        · simp only [jc, Bool.not_eq_true', Bool.not_eq_false', decide_eq_true_eq, decide_eq_false_iff_not] at c7
          exact mj_T.ret rfl rfl rfl ⟨V4, _, _, m5, b6, fx3, dg3, rfl⟩
theorem mZ_70 (m : jM g n V X h) (b : by0 V) (dg : DG X) : mj_Ok (D + 6) 70 [.ref 172] h (fun z => ∃ (V2 : Nat → Int) (X2 : Nat → Nat → Int) (h2 : mj_H), jM g n V2 X2 h2 ∧ by0 V2 ∧ FX X X2 ∧ DG X2 ∧ z = (.inl none, h2)) := by
  have hL : cL 173 = 14 := mK_r.2.2.2.1
  have e1 := dg 210 cq_d210
  have l1 := (mK_p cq_d210).2.2.1
  refine mj_Ok.of (M := mj_m70) rfl rfl rfl ?_
  iterate 2 refine mj_T.pl rfl rfl rfl rfl ?_
  refine mT_get m 16 cq_d172 (by decide) rfl rfl ?_
  refine mj_T.pl rfl rfl rfl rfl ?_
  refine mT_aald m 5 cq_d173 (by decide) rfl rfl (by omega) ⟨by omega, by omega⟩ ?_
  refine mj_T.eq (st2 := [.ref 210, .ref 172]) ?_ rfl rfl rfl rfl
  refine mT_get m 13 cq_d210 (by decide) rfl rfl ?_
  refine mj_T.if0 (a := (X 210 2)) rfl ⟨by omega, by omega⟩ (fun c1 => ?_) (fun c1 => ?_)
  · simp only [jc, Bool.not_eq_true', Bool.not_eq_false', decide_eq_true_eq, decide_eq_false_iff_not] at c1
    refine mj_T.pl rfl rfl rfl rfl ?_
    refine mT_put (v := 2) m 16 cq_d172 (by decide) rfl (by simp [jMf, xup]) (by simp [jMf]) rfl (fun h2 m3 => ?_)
    refine mj_T.pl rfl rfl rfl rfl ?_
    refine mT_get m3 16 cq_d172 (by decide) rfl rfl ?_
    refine jT.lc 1 rfl rfl ?_
    refine mj_T.call rfl rfl (Nat.le_of_ble_eq_true rfl) (Nat.le_of_ble_eq_true rfl) (mV_of m3 18 cq_d174 (by decide) rfl (by decide) rfl _) rfl (mj_Ok.up (by omega) (mF_86 (D := 0) m3 b fr_d174 ⟨by decide, by decide⟩)) (fun v g4 hq => ?_) (fun i g4 hq => ?_)
    rotate_left
    · obtain ⟨_, _, _, _, hq⟩ := hq; cases hq
    obtain ⟨V5, _, m6, b7, hq⟩ := hq
    cases hq
    refine mj_T.eq (pc2 := 29) (st2 := []) ?_ rfl rfl rfl rfl
    refine mj_T.pl rfl rfl rfl rfl ?_
    refine mT_get m6 16 cq_d172 (by decide) rfl rfl ?_
    refine jT.lc 1 rfl rfl ?_
    refine mj_T.call rfl rfl (Nat.le_of_ble_eq_true rfl) (Nat.le_of_ble_eq_true rfl) (mV_of m6 18 cq_d176 (by decide) rfl (by decide) rfl _) rfl (mj_Ok.up (by omega) (mF_86 (D := 0) m6 b7 fr_d176 ⟨by decide, by decide⟩)) (fun v g8 hq => ?_) (fun i g8 hq => ?_)
    rotate_left
    · obtain ⟨_, _, _, _, hq⟩ := hq; cases hq
    obtain ⟨V9, _, m10, b11, hq⟩ := hq
    cases hq
    refine mj_T.eq (pc2 := 37) (st2 := []) ?_ rfl rfl rfl rfl
    refine mj_T.pl rfl rfl rfl rfl ?_
    refine mj_T.pl (loc' := [some (.ref 172), some (.int (jn 2))]) rfl rfl rfl rfl ?_
    refine mj_T.eq (loc2 := [some (.ref 172), some (.int (jn ((0 + 2 : Nat) : Int)))]) ?_ rfl rfl rfl rfl
    exact mZ_70_loop (D := D) 12 0 (by omega) _ _ _ m10 b11 (FX.up (Or.inr (Or.inr cq_d172))) (dg.oth (by decide +kernel))
  · simp only [jc, Bool.not_eq_true', Bool.not_eq_false', decide_eq_true_eq, decide_eq_false_iff_not] at c1
    iterate 2 refine mj_T.pl rfl rfl rfl rfl ?_
    refine mT_put (v := 1) m 16 cq_d172 (by decide) rfl (by simp [jMf, xup]) (by simp [jMf]) rfl (fun h12 m13 => ?_)
    refine mj_T.pl rfl rfl rfl rfl ?_
    refine mT_get m13 16 cq_d172 (by decide) rfl rfl ?_
    refine jT.lc 1 rfl rfl ?_
    refine mj_T.call rfl rfl (Nat.le_of_ble_eq_true rfl) (Nat.le_of_ble_eq_true rfl) (mV_of m13 18 cq_d174 (by decide) rfl (by decide) rfl _) rfl (mj_Ok.up (by omega) (mF_86 (D := 0) m13 b fr_d174 ⟨by decide, by decide⟩)) (fun v g14 hq => ?_) (fun i g14 hq => ?_)
    rotate_left
    · obtain ⟨_, _, _, _, hq⟩ := hq; cases hq
    obtain ⟨V15, _, m16, b17, hq⟩ := hq
    cases hq
    refine mj_T.eq (pc2 := 29) (st2 := []) ?_ rfl rfl rfl rfl
    refine mj_T.pl rfl rfl rfl rfl ?_
    refine mT_get m16 16 cq_d172 (by decide) rfl rfl ?_
    refine jT.lc 1 rfl rfl ?_
    refine mj_T.call rfl rfl (Nat.le_of_ble_eq_true rfl) (Nat.le_of_ble_eq_true rfl) (mV_of m16 18 cq_d176 (by decide) rfl (by decide) rfl _) rfl (mj_Ok.up (by omega) (mF_86 (D := 0) m16 b17 fr_d176 ⟨by decide, by decide⟩)) (fun v g18 hq => ?_) (fun i g18 hq => ?_)
    rotate_left
    · obtain ⟨_, _, _, _, hq⟩ := hq; cases hq
    obtain ⟨V19, _, m20, b21, hq⟩ := hq
    cases hq
    refine mj_T.eq (pc2 := 37) (st2 := []) ?_ rfl rfl rfl rfl
    refine mj_T.pl rfl rfl rfl rfl ?_
    refine mj_T.pl (loc' := [some (.ref 172), some (.int (jn 2))]) rfl rfl rfl rfl ?_
    refine mj_T.eq (loc2 := [some (.ref 172), some (.int (jn ((0 + 2 : Nat) : Int)))]) ?_ rfl rfl rfl rfl
    exact mZ_70_loop (D := D) 12 0 (by omega) _ _ _ m20 b21 (FX.up (Or.inr (Or.inr cq_d172))) (dg.oth (by decide +kernel))
theorem mZ_68 (m : jM g n V X h) (b : by0 V) (dg : DG X) {r : Nat} {y : Int} (kr : cK r = 2) (hy : jR y) (hjr : ∀ j, jR (X r j)) : mj_Ok (D + 7) 68 [.ref 172, .ref r, .long (jl y)] h (fun z => ∃ (V2 : Nat → Int) (X2 : Nat → Nat → Int) (h2 : mj_H), jM g n V2 X2 h2 ∧ by0 V2 ∧ FX X X2 ∧ DG X2 ∧ z = (.inl none, h2)) := by
  have hL : cL 173 = 14 := mK_r.2.2.2.1
  refine mj_Ok.of (M := mj_m68) rfl rfl rfl ?_
  refine mj_T.pl rfl rfl rfl rfl ?_
  refine mT_get m 16 cq_d172 (by decide) rfl rfl ?_
  refine mj_T.pl rfl rfl rfl rfl ?_
  refine mT_aald m 5 cq_d173 (by decide) rfl rfl (by omega) ⟨by omega, by omega⟩ ?_
  refine mj_T.eq (st2 := [.ref 180]) ?_ rfl rfl rfl rfl
  iterate 2 refine mj_T.pl rfl rfl rfl rfl ?_
  refine mj_T.call rfl rfl (Nat.le_of_ble_eq_true rfl) (Nat.le_of_ble_eq_true rfl) (mV_of m 13 cq_d180 (by decide) rfl (by decide) rfl _) rfl (mj_Ok.up (by omega) (mZ_40 (D := 0) m b cq_d180 kr hy hjr)) (fun v g1 hq => ?_) (fun i g1 hq => ?_)
  rotate_left
  · obtain ⟨_, _, _, _, _, _, hq⟩ := hq; cases hq
  obtain ⟨V3, d, _, m2, b4, hd, hq⟩ := hq
  cases hq
  have p180 : cL (180 + 3) = 13 := (mK_r.2.2.2.2.2.1 0 (by decide)).2
  refine mj_T.eq (pc2 := 11) (st2 := []) ?_ rfl rfl rfl rfl
  refine mj_T.pl rfl rfl rfl rfl ?_
  refine mj_T.call rfl rfl (Nat.le_of_ble_eq_true rfl) (Nat.le_of_ble_eq_true rfl) (mV_of m2 16 cq_d172 (by decide) rfl (by decide) rfl _) rfl (mj_Ok.up (by omega) (mZ_69 (D := 0) m2 b4 (xup_at _ _ _ _) (by omega))) (fun v g5 hq => ?_) (fun i g5 hq => ?_)
  rotate_left
  · obtain ⟨_, _, _, _, _, _, hq⟩ := hq; cases hq
  obtain ⟨V7, d2, _, m6, b8, hd2, hq⟩ := hq
  cases hq
  refine mj_T.eq (pc2 := 15) (st2 := []) ?_ rfl rfl rfl rfl
  refine mj_T.pl rfl rfl rfl rfl ?_
  refine mj_T.call rfl rfl (Nat.le_of_ble_eq_true rfl) (Nat.le_of_ble_eq_true rfl) (mV_of m6 16 cq_d172 (by decide) rfl (by decide) rfl _) rfl (mj_Ok.up (by omega) (mZ_70 (D := 0) m6 b8 ((dg.deg hd).deg hd2))) (fun v g9 hq => ?_) (fun i g9 hq => ?_)
  rotate_left
  · obtain ⟨_, _, _, _, _, _, _, hq⟩ := hq; cases hq
  obtain ⟨V11, X9, _, m10, b12, fx, dg9, hq⟩ := hq
  cases hq
  refine mj_T.eq (pc2 := 19) (st2 := []) ?_ rfl rfl rfl rfl
  exact mj_T.ret rfl rfl rfl ⟨V11, _, _, m10, b12, ((FX.up (Or.inl cq_d180)).tr (FX.up (Or.inl cq_d210))).tr fx, dg9, rfl⟩
theorem mZ_74_loop {y : Int} (hy : jR y) (dg : DG X) : ∀ (k i : Nat), 14 = i + k → ∀ (V1 : Nat → Int) (h1 : mj_H), jM g n V1 X h1 → by0 V1 → mj_T (D + 3) mj_m74 2 [some (.ref 172), some (.long (jl y)), none, some (.int (jn (i : Int)))] [] h1 (fun r => ∃ V2 h2, jM g n V2 X h2 ∧ by0 V2 ∧ r = (.inl none, h2))
  | 0, i, hi, V1, h1, m, b => by
    have hL : cL 173 = 14 := mK_r.2.2.2.1
    iterate 2 refine mj_T.pl rfl rfl rfl rfl ?_
    refine mT_get m 16 cq_d172 (by decide) rfl rfl ?_
    refine jT.anyI (fun z1 rz1 => ?_)
    refine mj_T.icmp (a := ((i : Nat) : Int)) (b := z1) rfl ⟨by omega, by omega⟩ ⟨by omega, by omega⟩ (fun c2 => ?_) (fun c2 => ?_)
    · simp only [jc, Bool.not_eq_true', Bool.not_eq_false', decide_eq_true_eq, decide_eq_false_iff_not] at c2
      exact mj_T.ret rfl rfl rfl ⟨V1, _, m, b, rfl⟩
    · simp only [jc, Bool.not_eq_true', Bool.not_eq_false', decide_eq_true_eq, decide_eq_false_iff_not] at c2
      iterate 2 refine mj_T.pl rfl rfl rfl rfl ?_
      refine mT_get m 16 cq_d172 (by decide) rfl rfl ?_
      refine mT_alen m 5 cq_d173 (by decide) rfl ?_
      refine mj_T.icmp (a := ((i : Nat) : Int)) (b := ((cL 173 : Nat) : Int)) rfl ⟨by omega, by omega⟩ ⟨by omega, by omega⟩ (fun c3 => ?_) (fun c3 => ?_)
      · simp only [jc, decide_eq_true_eq, decide_eq_false_iff_not, hL] at c3
        exact mj_T.ret rfl rfl rfl ⟨V1, _, m, b, rfl⟩
      · exfalso
        simp only [jc, decide_eq_true_eq, decide_eq_false_iff_not, hL] at c3
        omega
  | k + 1, i, hi, V1, h1, m, b => by
    have hL : cL 173 = 14 := mK_r.2.2.2.1
    iterate 2 refine mj_T.pl rfl rfl rfl rfl ?_
    refine mT_get m 16 cq_d172 (by decide) rfl rfl ?_
    refine jT.anyI (fun z1 rz1 => ?_)
    refine mj_T.icmp (a := ((i : Nat) : Int)) (b := z1) rfl ⟨by omega, by omega⟩ ⟨by omega, by omega⟩ (fun c2 => ?_) (fun c2 => ?_)
    · simp only [jc, Bool.not_eq_true', Bool.not_eq_false', decide_eq_true_eq, decide_eq_false_iff_not] at c2
      exact mj_T.ret rfl rfl rfl ⟨V1, _, m, b, rfl⟩
    · simp only [jc, Bool.not_eq_true', Bool.not_eq_false', decide_eq_true_eq, decide_eq_false_iff_not] at c2
      iterate 2 refine mj_T.pl rfl rfl rfl rfl ?_
      refine mT_get m 16 cq_d172 (by decide) rfl rfl ?_
      refine mT_alen m 5 cq_d173 (by decide) rfl ?_
      refine mj_T.icmp (a := ((i : Nat) : Int)) (b := ((cL 173 : Nat) : Int)) rfl ⟨by omega, by omega⟩ ⟨by omega, by omega⟩ (fun c3 => ?_) (fun c3 => ?_)
      · exfalso
        simp only [jc, decide_eq_true_eq, decide_eq_false_iff_not, hL] at c3
        omega
      · simp only [jc, decide_eq_true_eq, decide_eq_false_iff_not, hL] at c3
        refine mj_T.pl rfl rfl rfl rfl ?_
        refine mT_get m 16 cq_d172 (by decide) rfl rfl ?_
        refine mj_T.pl rfl rfl rfl rfl ?_
        refine mT_get m 16 cq_d172 (by decide) rfl rfl ?_
        refine mj_T.pl rfl rfl rfl rfl ?_
        refine mT_aald m 5 cq_d173 (by decide) rfl rfl (by omega) ⟨by omega, by omega⟩ ?_
        refine mj_T.eq (st2 := [.ref (sro i), .ref 19]) ?_ rfl rfl rfl rfl
        refine mj_T.pl rfl rfl rfl rfl ?_
        refine mj_T.call rfl rfl (Nat.le_of_ble_eq_true rfl) (Nat.le_of_ble_eq_true rfl) (mV_of m 11 cq_d19 (by decide) rfl (by decide) rfl _) rfl (mj_Ok.up (by omega) (mZ_26 (D := 0) m b (sro_k (t := i) (by omega)).1 hy rfl (dg _ (sro_k (t := i) (by omega)).1))) (fun v g4 hq => ?_) (fun i g4 hq => ?_)
        rotate_left
        · obtain ⟨_, _, _, _, hq⟩ := hq; cases hq
        obtain ⟨V5, _, m6, b7, hq⟩ := hq
        cases hq
        refine mj_T.eq (pc2 := 33) (st2 := []) ?_ rfl rfl rfl rfl
        refine mj_T.iinc rfl rfl ?_
        rw [show ((i : Nat) : Int) + 1 = ((i + 1 : Nat) : Int) by omega]
        refine mj_T.eq (loc2 := [some (.ref 172), some (.long (jl y)), none, some (.int (jn (((i + 1) : Nat) : Int)))]) ?_ rfl rfl rfl rfl
        refine mj_T.pl rfl rfl rfl rfl ?_
        exact mZ_74_loop hy dg k (i + 1) (by omega) _ _ m6 b7
theorem mZ_74 (m : jM g n V X h) (b : by0 V) (dg : DG X) {y : Int} (hy : jR y) : mj_Ok (D + 4) 74 [.ref 172, .long (jl y)] h (fun r => ∃ V2 h2, jM g n V2 X h2 ∧ by0 V2 ∧ r = (.inl none, h2)) := by
  refine mj_Ok.of (M := mj_m74) rfl rfl rfl ?_
  refine mj_T.pl rfl rfl rfl rfl ?_
  refine mj_T.pl (loc' := [some (.ref 172), some (.long (jl y)), none, some (.int (jn 0))]) rfl rfl rfl rfl ?_
  exact mZ_74_loop hy dg 14 0 (by omega) _ _ m b
theorem mZ_76_loop {a : Nat} (fa : frW a) (dg : DG X) : ∀ (k i : Nat), 14 = i + k → ∀ (V1 : Nat → Int) (h1 : mj_H) (c e : Int) (l5 : Option Value), (-2147483648 ≤ c ∧ c ≤ 2147483647) → (-2147483648 ≤ e ∧ e ≤ 2147483647) → jM g n V1 X h1 → by0 V1 → mj_T (D + 4) mj_m76 7 [some (.ref 172), some (.ref a), some (.int (jn c)), some (.int (jn e)), some (.int (jn (i : Int))), l5] [] h1 (fun r => ∃ (V2 : Nat → Int) (z : Int) (h2 : mj_H), jM g n V2 X h2 ∧ by0 V2 ∧ (-2147483648 ≤ z ∧ z ≤ 2147483647) ∧ r = (.inl (some (.int (jn z))), h2))
  | 0, i, hi, V1, h1, c, e, l5, hc, he, m, b => by
    have hL : cL 173 = 14 := mK_r.2.2.2.1
    iterate 2 refine mj_T.pl rfl rfl rfl rfl ?_
    refine mT_get m 16 cq_d172 (by decide) rfl rfl ?_
    refine jT.anyI (fun z1 rz1 => ?_)
    refine mj_T.icmp (a := ((i : Nat) : Int)) (b := z1) rfl ⟨by omega, by omega⟩ ⟨by omega, by omega⟩ (fun c2 => ?_) (fun c2 => ?_)
    · simp only [jc, Bool.not_eq_true', Bool.not_eq_false', decide_eq_true_eq, decide_eq_false_iff_not] at c2
      refine mj_T.pl rfl rfl rfl rfl ?_
      exact mj_T.ret rfl rfl rfl ⟨V1, _, _, m, b, ⟨by omega, by omega⟩, rfl⟩
    · simp only [jc, Bool.not_eq_true', Bool.not_eq_false', decide_eq_true_eq, decide_eq_false_iff_not] at c2
      iterate 2 refine mj_T.pl rfl rfl rfl rfl ?_
      refine mT_get m 16 cq_d172 (by decide) rfl rfl ?_
      refine mT_alen m 5 cq_d173 (by decide) rfl ?_
      refine mj_T.icmp (a := ((i : Nat) : Int)) (b := ((cL 173 : Nat) : Int)) rfl ⟨by omega, by omega⟩ ⟨by omega, by omega⟩ (fun c3 => ?_) (fun c3 => ?_)
      · simp only [jc, decide_eq_true_eq, decide_eq_false_iff_not, hL] at c3
        refine mj_T.pl rfl rfl rfl rfl ?_
        exact mj_T.ret rfl rfl rfl ⟨V1, _, _, m, b, ⟨by omega, by omega⟩, rfl⟩
      · exfalso
        simp only [jc, decide_eq_true_eq, decide_eq_false_iff_not, hL] at c3
        omega
  | k + 1, i, hi, V1, h1, c, e, l5, hc, he, m, b => by
    have hL : cL 173 = 14 := mK_r.2.2.2.1
    iterate 2 refine mj_T.pl rfl rfl rfl rfl ?_
    refine mT_get m 16 cq_d172 (by decide) rfl rfl ?_
    refine jT.anyI (fun z1 rz1 => ?_)
    refine mj_T.icmp (a := ((i : Nat) : Int)) (b := z1) rfl ⟨by omega, by omega⟩ ⟨by omega, by omega⟩ (fun c2 => ?_) (fun c2 => ?_)
    · simp only [jc, Bool.not_eq_true', Bool.not_eq_false', decide_eq_true_eq, decide_eq_false_iff_not] at c2
      refine mj_T.pl rfl rfl rfl rfl ?_
      exact mj_T.ret rfl rfl rfl ⟨V1, _, _, m, b, ⟨by omega, by omega⟩, rfl⟩
    · simp only [jc, Bool.not_eq_true', Bool.not_eq_false', decide_eq_true_eq, decide_eq_false_iff_not] at c2
      iterate 2 refine mj_T.pl rfl rfl rfl rfl ?_
      refine mT_get m 16 cq_d172 (by decide) rfl rfl ?_
      refine mT_alen m 5 cq_d173 (by decide) rfl ?_
      refine mj_T.icmp (a := ((i : Nat) : Int)) (b := ((cL 173 : Nat) : Int)) rfl ⟨by omega, by omega⟩ ⟨by omega, by omega⟩ (fun c3 => ?_) (fun c3 => ?_)
      · exfalso
        simp only [jc, decide_eq_true_eq, decide_eq_false_iff_not, hL] at c3
        omega
      · simp only [jc, decide_eq_true_eq, decide_eq_false_iff_not, hL] at c3
        refine mj_T.pl rfl rfl rfl rfl ?_
        refine mT_get m 16 cq_d172 (by decide) rfl rfl ?_
        refine mj_T.pl rfl rfl rfl rfl ?_
        refine mT_get m 16 cq_d172 (by decide) rfl rfl ?_
        refine mj_T.pl rfl rfl rfl rfl ?_
        refine mT_aald m 5 cq_d173 (by decide) rfl rfl (by omega) ⟨by omega, by omega⟩ ?_
        refine mj_T.eq (st2 := [.ref (sro i), .ref 19]) ?_ rfl rfl rfl rfl
        refine mj_T.pl rfl rfl rfl rfl ?_
        refine mj_T.call rfl rfl (Nat.le_of_ble_eq_true rfl) (Nat.le_of_ble_eq_true rfl) (mV_of m 11 cq_d19 (by decide) rfl (by decide) rfl _) rfl (mj_Ok.up (by omega) (mZ_28 (D := 0) m b (sro_k (t := i) (by omega)).1 fa rfl (dg _ (sro_k (t := i) (by omega)).1))) (fun v g4 hq => ?_) (fun i g4 hq => ?_)
        rotate_left
        · obtain ⟨_, _, _, _, _, _, hq⟩ := hq; cases hq
        obtain ⟨V7, z5, _, m6, b8, rz5, hq⟩ := hq
        cases hq
        refine mj_T.eq (pc2 := 41) (st2 := [.int (jn z5)]) ?_ rfl rfl rfl rfl
        refine mj_T.pl (loc' := [some (.ref 172), some (.ref a), some (.int (jn c)), some (.int (jn e)), some (.int (jn ((i : Nat) : Int))), some (.int (jn z5))]) rfl rfl rfl rfl ?_
        iterate 3 refine mj_T.pl rfl rfl rfl rfl ?_
        refine mj_T.imul (a := z5) (b := e) rfl ?_
        refine jT.anyI (fun z9 rz9 => ?_)
        refine mj_T.if0 (a := z9) rfl ⟨by omega, by omega⟩ (fun c10 => ?_) (fun c10 => ?_)
        · simp only [jc, Bool.not_eq_true', Bool.not_eq_false', decide_eq_true_eq, decide_eq_false_iff_not] at c10
          refine mj_T.pl rfl rfl rfl rfl ?_
          refine mj_T.iadd (a := c) (b := 0) rfl ?_
          refine jT.anyI (fun z11 rz11 => ?_)
          refine mj_T.pl (loc' := [some (.ref 172), some (.ref a), some (.int (jn z11)), some (.int (jn e)), some (.int (jn ((i : Nat) : Int))), some (.int (jn z5))]) rfl rfl rfl rfl ?_
          refine mj_T.pl rfl rfl rfl rfl ?_
          refine mj_T.if0 (a := z5) rfl ⟨by omega, by omega⟩ (fun c12 => ?_) (fun c12 => ?_)
          · simp only [jc, Bool.not_eq_true', Bool.not_eq_false', decide_eq_true_eq, decide_eq_false_iff_not] at c12
            refine mj_T.pl rfl rfl rfl rfl ?_
            refine mj_T.pl (loc' := [some (.ref 172), some (.ref a), some (.int (jn z11)), some (.int (jn z5)), some (.int (jn ((i : Nat) : Int))), some (.int (jn z5))]) rfl rfl rfl rfl ?_
            refine mj_T.iinc rfl rfl ?_
            rw [show ((i : Nat) : Int) + 1 = ((i + 1 : Nat) : Int) by omega]
            refine mj_T.eq (loc2 := [some (.ref 172), some (.ref a), some (.int (jn z11)), some (.int (jn z5)), some (.int (jn (((i + 1) : Nat) : Int))), some (.int (jn z5))]) ?_ rfl rfl rfl rfl
            refine mj_T.pl rfl rfl rfl rfl ?_
            exact mZ_76_loop fa dg k (i + 1) (by omega) _ _ _ _ _ ⟨by omega, by omega⟩ ⟨by omega, by omega⟩ m6 b8
          · simp only [jc, Bool.not_eq_true', Bool.not_eq_false', decide_eq_true_eq, decide_eq_false_iff_not] at c12
            iterate 2 refine mj_T.pl rfl rfl rfl rfl ?_
            refine mj_T.pl (loc' := [some (.ref 172), some (.ref a), some (.int (jn z11)), some (.int (jn e)), some (.int (jn ((i : Nat) : Int))), some (.int (jn z5))]) rfl rfl rfl rfl ?_
            refine mj_T.iinc rfl rfl ?_
            rw [show ((i : Nat) : Int) + 1 = ((i + 1 : Nat) : Int) by omega]
            refine mj_T.eq (loc2 := [some (.ref 172), some (.ref a), some (.int (jn z11)), some (.int (jn e)), some (.int (jn (((i + 1) : Nat) : Int))), some (.int (jn z5))]) ?_ rfl rfl rfl rfl
            refine mj_T.pl rfl rfl rfl rfl ?_
            exact mZ_76_loop fa dg k (i + 1) (by omega) _ _ _ _ _ ⟨by omega, by omega⟩ ⟨by omega, by omega⟩ m6 b8
        · simp only [jc, Bool.not_eq_true', Bool.not_eq_false', decide_eq_true_eq, decide_eq_false_iff_not] at c10
          iterate 2 refine mj_T.pl rfl rfl rfl rfl ?_
          refine mj_T.iadd (a := c) (b := 1) rfl ?_
          refine jT.anyI (fun z13 rz13 => ?_)
          refine mj_T.pl (loc' := [some (.ref 172), some (.ref a), some (.int (jn z13)), some (.int (jn e)), some (.int (jn ((i : Nat) : Int))), some (.int (jn z5))]) rfl rfl rfl rfl ?_
          refine mj_T.pl rfl rfl rfl rfl ?_
          refine mj_T.if0 (a := z5) rfl ⟨by omega, by omega⟩ (fun c14 => ?_) (fun c14 => ?_)
          · simp only [jc, Bool.not_eq_true', Bool.not_eq_false', decide_eq_true_eq, decide_eq_false_iff_not] at c14
            refine mj_T.pl rfl rfl rfl rfl ?_
            refine mj_T.pl (loc' := [some (.ref 172), some (.ref a), some (.int (jn z13)), some (.int (jn z5)), some (.int (jn ((i : Nat) : Int))), some (.int (jn z5))]) rfl rfl rfl rfl ?_
            refine mj_T.iinc rfl rfl ?_
            rw [show ((i : Nat) : Int) + 1 = ((i + 1 : Nat) : Int) by omega]
            refine mj_T.eq (loc2 := [some (.ref 172), some (.ref a), some (.int (jn z13)), some (.int (jn z5)), some (.int (jn (((i + 1) : Nat) : Int))), some (.int (jn z5))]) ?_ rfl rfl rfl rfl
            refine mj_T.pl rfl rfl rfl rfl ?_
            exact mZ_76_loop fa dg k (i + 1) (by omega) _ _ _ _ _ ⟨by omega, by omega⟩ ⟨by omega, by omega⟩ m6 b8
          · simp only [jc, Bool.not_eq_true', Bool.not_eq_false', decide_eq_true_eq, decide_eq_false_iff_not] at c14
            iterate 2 refine mj_T.pl rfl rfl rfl rfl ?_
            refine mj_T.pl (loc' := [some (.ref 172), some (.ref a), some (.int (jn z13)), some (.int (jn e)), some (.int (jn ((i : Nat) : Int))), some (.int (jn z5))]) rfl rfl rfl rfl ?_
            refine mj_T.iinc rfl rfl ?_
            rw [show ((i : Nat) : Int) + 1 = ((i + 1 : Nat) : Int) by omega]
            refine mj_T.eq (loc2 := [some (.ref 172), some (.ref a), some (.int (jn z13)), some (.int (jn e)), some (.int (jn (((i + 1) : Nat) : Int))), some (.int (jn z5))]) ?_ rfl rfl rfl rfl
            refine mj_T.pl rfl rfl rfl rfl ?_
            exact mZ_76_loop fa dg k (i + 1) (by omega) _ _ _ _ _ ⟨by omega, by omega⟩ ⟨by omega, by omega⟩ m6 b8
theorem mZ_76 (m : jM g n V X h) (b : by0 V) (dg : DG X) {a : Nat} (fa : frW a) : mj_Ok (D + 5) 76 [.ref 172, .ref a] h (fun r => ∃ (V2 : Nat → Int) (z : Int) (h2 : mj_H), jM g n V2 X h2 ∧ by0 V2 ∧ (-2147483648 ≤ z ∧ z ≤ 2147483647) ∧ r = (.inl (some (.int (jn z))), h2)) := by
  refine mj_Ok.of (M := mj_m76) rfl rfl rfl ?_
  refine mj_T.pl rfl rfl rfl rfl ?_
  refine mj_T.pl (loc' := [some (.ref 172), some (.ref a), some (.int (jn 0)), none, none, none]) rfl rfl rfl rfl ?_
  refine mj_T.pl rfl rfl rfl rfl ?_
  refine mj_T.pl (loc' := [some (.ref 172), some (.ref a), some (.int (jn 0)), some (.int (jn 0)), none, none]) rfl rfl rfl rfl ?_
  refine mj_T.pl rfl rfl rfl rfl ?_
  refine mj_T.pl (loc' := [some (.ref 172), some (.ref a), some (.int (jn 0)), some (.int (jn 0)), some (.int (jn 0)), none]) rfl rfl rfl rfl ?_
  exact mZ_76_loop fa dg 14 0 (by omega) _ _ _ _ _ ⟨by decide, by decide⟩ ⟨by decide, by decide⟩ m b
theorem mZ_75 (m : jM g n V X h) (b : by0 V) (dg : DG X) {y : Int} (hy : jR y) : mj_Ok (D + 6) 75 [.ref 172, .long (jl y)] h (fun r => ∃ (V2 : Nat → Int) (z : Int) (h2 : mj_H), jM g n V2 X h2 ∧ by0 V2 ∧ (-2147483648 ≤ z ∧ z ≤ 2147483647) ∧ r = (.inl (some (.int (jn z))), h2)) := by
  refine mj_Ok.of (M := mj_m75) rfl rfl rfl ?_
  refine mj_T.pl rfl rfl rfl rfl ?_
  refine mT_get m 16 cq_d172 (by decide) rfl rfl ?_
  refine mj_T.pl rfl rfl rfl rfl ?_
  refine mj_T.call rfl rfl (Nat.le_of_ble_eq_true rfl) (Nat.le_of_ble_eq_true rfl) (mV_of m 18 cq_d178 (by decide) rfl (by decide) rfl _) rfl (mj_Ok.up (by omega) (mF_86 (D := 0) m b fr_d178 hy)) (fun v g1 hq => ?_) (fun i g1 hq => ?_)
  rotate_left
  · obtain ⟨_, _, _, _, hq⟩ := hq; cases hq
  obtain ⟨V2, _, m3, b4, hq⟩ := hq
  cases hq
  refine mj_T.eq (pc2 := 8) (st2 := []) ?_ rfl rfl rfl rfl
  iterate 2 refine mj_T.pl rfl rfl rfl rfl ?_
  refine mT_get m3 16 cq_d172 (by decide) rfl rfl ?_
  refine mj_T.call rfl rfl (Nat.le_of_ble_eq_true rfl) (Nat.le_of_ble_eq_true rfl) (mV_of m3 16 cq_d172 (by decide) rfl (by decide) rfl _) rfl (mj_Ok.up (by omega) (mZ_76 (D := 0) m3 b4 dg fr_d178)) (fun v g5 hq => ?_) (fun i g5 hq => ?_)
  rotate_left
  · obtain ⟨_, _, _, _, _, _, hq⟩ := hq; cases hq
  obtain ⟨V8, z6, _, m7, b9, rz6, hq⟩ := hq
  cases hq
  refine mj_T.eq (pc2 := 16) (st2 := [.int (jn z6)]) ?_ rfl rfl rfl rfl
  exact mj_T.ret rfl rfl rfl ⟨V8, _, _, m7, b9, ⟨by omega, by omega⟩, rfl⟩
theorem mZ_37 (m : jM g n V X h) {p : Nat} (kp : cK p = 13) (dg : -1 ≤ X p 2 ∧ X p 2 < cL (p + 3)) : mj_Ok (D + 2) 37 [.ref p] h (fun r => ∃ a, cK a = 18 ∧ r = (.inl (some (.ref a)), h)) := by
  have hb := (mK_p kp).2.2.1
  by_cases c : 0 ≤ X p 2
  · exact (mP_lead (D := D) m kp (e := (X p 2).toNat) (by omega) (by omega)).to fun r hr => ⟨_, (mK_p kp).2.2.2 _ (by omega), hr⟩
  · refine mj_Ok.of (M := mj_m37) rfl rfl rfl ?_
    iterate 2 refine mj_T.pl rfl rfl rfl rfl ?_
    refine mT_get m 13 kp (by decide) rfl rfl ?_
    refine mj_T.call rfl rfl (Nat.le_of_ble_eq_true rfl) (Nat.le_of_ble_eq_true rfl) (mV_of m 13 kp (by decide) rfl (by decide) rfl _) rfl (mj_Ok.up (by omega) (mP_atB (D := 0) m kp (e := X p 2) ⟨by omega, by omega⟩ (Or.inl (by omega)))) (fun v g1 hq => ?_) (fun i g1 hq => ?_)
    rotate_left
    · cases hq
    cases hq
    refine mj_T.eq (pc2 := 8) (st2 := [.ref (p + 1)]) ?_ rfl rfl rfl rfl
    exact mj_T.ret rfl rfl rfl ⟨_, (mK_p kp).1, rfl⟩
theorem mZ_77_loop (m : jM g n V X h) (dg : DG X) {s : Int} (hs : -2147483648 ≤ s ∧ s ≤ 2147483647) : ∀ (k i : Nat), 14 = i + k → ∀ (c e : Int) (l5 : Option Value), (-2147483648 ≤ c ∧ c ≤ 2147483647) → (-2147483648 ≤ e ∧ e ≤ 2147483647) → mj_T (D + 2) mj_m77 7 [some (.ref 172), some (.int (jn s)), some (.int (jn c)), some (.int (jn e)), some (.int (jn (i : Int))), l5] [] h (fun r => ∃ z : Int, (-2147483648 ≤ z ∧ z ≤ 2147483647) ∧ r = (.inl (some (.int (jn z))), h))
  | 0, i, hi, c, e, l5, hc, he => by
    have hL : cL 173 = 14 := mK_r.2.2.2.1
    iterate 2 refine mj_T.pl rfl rfl rfl rfl ?_
    refine mT_get m 16 cq_d172 (by decide) rfl rfl ?_
    refine jT.anyI (fun z1 rz1 => ?_)
    refine mj_T.icmp (a := ((i : Nat) : Int)) (b := z1) rfl ⟨by omega, by omega⟩ ⟨by omega, by omega⟩ (fun c2 => ?_) (fun c2 => ?_)
    · simp only [jc, Bool.not_eq_true', Bool.not_eq_false', decide_eq_true_eq, decide_eq_false_iff_not] at c2
      refine mj_T.pl rfl rfl rfl rfl ?_
      exact mj_T.ret rfl rfl rfl ⟨_, ⟨by omega, by omega⟩, rfl⟩
    · simp only [jc, Bool.not_eq_true', Bool.not_eq_false', decide_eq_true_eq, decide_eq_false_iff_not] at c2
      iterate 2 refine mj_T.pl rfl rfl rfl rfl ?_
      refine mT_get m 16 cq_d172 (by decide) rfl rfl ?_
      refine mT_alen m 5 cq_d173 (by decide) rfl ?_
      refine mj_T.icmp (a := ((i : Nat) : Int)) (b := ((cL 173 : Nat) : Int)) rfl ⟨by omega, by omega⟩ ⟨by omega, by omega⟩ (fun c3 => ?_) (fun c3 => ?_)
      · simp only [jc, decide_eq_true_eq, decide_eq_false_iff_not, hL] at c3
        refine mj_T.pl rfl rfl rfl rfl ?_
        exact mj_T.ret rfl rfl rfl ⟨_, ⟨by omega, by omega⟩, rfl⟩
      · exfalso
        simp only [jc, decide_eq_true_eq, decide_eq_false_iff_not, hL] at c3
        omega
  | k + 1, i, hi, c, e, l5, hc, he => by
    have hL : cL 173 = 14 := mK_r.2.2.2.1
    iterate 2 refine mj_T.pl rfl rfl rfl rfl ?_
    refine mT_get m 16 cq_d172 (by decide) rfl rfl ?_
    refine jT.anyI (fun z1 rz1 => ?_)
    refine mj_T.icmp (a := ((i : Nat) : Int)) (b := z1) rfl ⟨by omega, by omega⟩ ⟨by omega, by omega⟩ (fun c2 => ?_) (fun c2 => ?_)
    · simp only [jc, Bool.not_eq_true', Bool.not_eq_false', decide_eq_true_eq, decide_eq_false_iff_not] at c2
      refine mj_T.pl rfl rfl rfl rfl ?_
      exact mj_T.ret rfl rfl rfl ⟨_, ⟨by omega, by omega⟩, rfl⟩
    · simp only [jc, Bool.not_eq_true', Bool.not_eq_false', decide_eq_true_eq, decide_eq_false_iff_not] at c2
      iterate 2 refine mj_T.pl rfl rfl rfl rfl ?_
      refine mT_get m 16 cq_d172 (by decide) rfl rfl ?_
      refine mT_alen m 5 cq_d173 (by decide) rfl ?_
      refine mj_T.icmp (a := ((i : Nat) : Int)) (b := ((cL 173 : Nat) : Int)) rfl ⟨by omega, by omega⟩ ⟨by omega, by omega⟩ (fun c3 => ?_) (fun c3 => ?_)
      · exfalso
        simp only [jc, decide_eq_true_eq, decide_eq_false_iff_not, hL] at c3
        omega
      · simp only [jc, decide_eq_true_eq, decide_eq_false_iff_not, hL] at c3
        refine mj_T.pl rfl rfl rfl rfl ?_
        refine mT_get m 16 cq_d172 (by decide) rfl rfl ?_
        refine mj_T.pl rfl rfl rfl rfl ?_
        refine mT_aald m 5 cq_d173 (by decide) rfl rfl (by omega) ⟨by omega, by omega⟩ ?_
        refine mj_T.eq (st2 := [.ref (sro i)]) ?_ rfl rfl rfl rfl
        refine mj_T.call rfl rfl (Nat.le_of_ble_eq_true rfl) (Nat.le_of_ble_eq_true rfl) (mV_of m 13 (sro_k (t := i) (by omega)).1 (by decide) rfl (by decide) rfl _) rfl (mj_Ok.up (by omega) (mZ_37 (D := 0) m (sro_k (t := i) (by omega)).1 (dg _ (sro_k (t := i) (by omega)).1))) (fun v g4 hq => ?_) (fun i g4 hq => ?_)
        rotate_left
        · obtain ⟨_, _, hq⟩ := hq; cases hq
        obtain ⟨a5, ka5, hq⟩ := hq
        cases hq
        refine mj_T.eq (pc2 := 36) (st2 := [.ref a5]) ?_ rfl rfl rfl rfl
        refine mZ_sg m ka5 rfl (fun z6 rz6 => ?_)
        refine mj_T.pl rfl rfl rfl rfl ?_
        refine mT_get m 16 cq_d172 (by decide) rfl rfl ?_
        refine mj_T.pl rfl rfl rfl rfl ?_
        refine mT_aald m 5 cq_d173 (by decide) rfl rfl (by omega) ⟨by omega, by omega⟩ ?_
        refine mj_T.eq (st2 := [.ref (sro i), .int (jn z6)]) ?_ rfl rfl rfl rfl
        refine mT_get m 13 (sro_k (t := i) (by omega)).1 (by decide) rfl rfl ?_
        refine jT.anyI (fun z7 rz7 => ?_)
        refine mj_T.pl rfl rfl rfl rfl ?_
        refine jT.irem rfl ⟨by decide, by decide⟩ (by omega) (fun z8 jz8 => ?_)
        refine mj_T.if0 (a := z8) rfl ⟨by omega, by omega⟩ (fun c9 => ?_) (fun c9 => ?_)
        · simp only [jc, Bool.not_eq_true', Bool.not_eq_false', decide_eq_true_eq, decide_eq_false_iff_not] at c9
          refine mj_T.pl rfl rfl rfl rfl ?_
          refine mj_T.imul (a := z6) (b := 1) rfl ?_
          refine jT.anyI (fun z10 rz10 => ?_)
          refine mj_T.pl (loc' := [some (.ref 172), some (.int (jn s)), some (.int (jn c)), some (.int (jn e)), some (.int (jn ((i : Nat) : Int))), some (.int (jn z10))]) rfl rfl rfl rfl ?_
          iterate 3 refine mj_T.pl rfl rfl rfl rfl ?_
          refine mj_T.imul (a := z10) (b := e) rfl ?_
          refine jT.anyI (fun z11 rz11 => ?_)
          refine mj_T.if0 (a := z11) rfl ⟨by omega, by omega⟩ (fun c12 => ?_) (fun c12 => ?_)
          · simp only [jc, Bool.not_eq_true', Bool.not_eq_false', decide_eq_true_eq, decide_eq_false_iff_not] at c12
            refine mj_T.pl rfl rfl rfl rfl ?_
            refine mj_T.iadd (a := c) (b := 0) rfl ?_
            refine jT.anyI (fun z13 rz13 => ?_)
            refine mj_T.pl (loc' := [some (.ref 172), some (.int (jn s)), some (.int (jn z13)), some (.int (jn e)), some (.int (jn ((i : Nat) : Int))), some (.int (jn z10))]) rfl rfl rfl rfl ?_
            refine mj_T.pl rfl rfl rfl rfl ?_
            refine mj_T.pl (loc' := [some (.ref 172), some (.int (jn s)), some (.int (jn z13)), some (.int (jn z10)), some (.int (jn ((i : Nat) : Int))), some (.int (jn z10))]) rfl rfl rfl rfl ?_
            refine mj_T.iinc rfl rfl ?_
            rw [show ((i : Nat) : Int) + 1 = ((i + 1 : Nat) : Int) by omega]
            refine mj_T.eq (loc2 := [some (.ref 172), some (.int (jn s)), some (.int (jn z13)), some (.int (jn z10)), some (.int (jn (((i + 1) : Nat) : Int))), some (.int (jn z10))]) ?_ rfl rfl rfl rfl
            refine mj_T.pl rfl rfl rfl rfl ?_
            exact mZ_77_loop m dg hs k (i + 1) (by omega) _ _ _ ⟨by omega, by omega⟩ ⟨by omega, by omega⟩
          · simp only [jc, Bool.not_eq_true', Bool.not_eq_false', decide_eq_true_eq, decide_eq_false_iff_not] at c12
            iterate 2 refine mj_T.pl rfl rfl rfl rfl ?_
            refine mj_T.iadd (a := c) (b := 1) rfl ?_
            refine jT.anyI (fun z14 rz14 => ?_)
            refine mj_T.pl (loc' := [some (.ref 172), some (.int (jn s)), some (.int (jn z14)), some (.int (jn e)), some (.int (jn ((i : Nat) : Int))), some (.int (jn z10))]) rfl rfl rfl rfl ?_
            refine mj_T.pl rfl rfl rfl rfl ?_
            refine mj_T.pl (loc' := [some (.ref 172), some (.int (jn s)), some (.int (jn z14)), some (.int (jn z10)), some (.int (jn ((i : Nat) : Int))), some (.int (jn z10))]) rfl rfl rfl rfl ?_
            refine mj_T.iinc rfl rfl ?_
            rw [show ((i : Nat) : Int) + 1 = ((i + 1 : Nat) : Int) by omega]
            refine mj_T.eq (loc2 := [some (.ref 172), some (.int (jn s)), some (.int (jn z14)), some (.int (jn z10)), some (.int (jn (((i + 1) : Nat) : Int))), some (.int (jn z10))]) ?_ rfl rfl rfl rfl
            refine mj_T.pl rfl rfl rfl rfl ?_
            exact mZ_77_loop m dg hs k (i + 1) (by omega) _ _ _ ⟨by omega, by omega⟩ ⟨by omega, by omega⟩
        · simp only [jc, Bool.not_eq_true', Bool.not_eq_false', decide_eq_true_eq, decide_eq_false_iff_not] at c9
          iterate 2 refine mj_T.pl rfl rfl rfl rfl ?_
          refine mj_T.imul (a := z6) (b := s) rfl ?_
          refine jT.anyI (fun z15 rz15 => ?_)
          refine mj_T.pl (loc' := [some (.ref 172), some (.int (jn s)), some (.int (jn c)), some (.int (jn e)), some (.int (jn ((i : Nat) : Int))), some (.int (jn z15))]) rfl rfl rfl rfl ?_
          iterate 3 refine mj_T.pl rfl rfl rfl rfl ?_
          refine mj_T.imul (a := z15) (b := e) rfl ?_
          refine jT.anyI (fun z16 rz16 => ?_)
          refine mj_T.if0 (a := z16) rfl ⟨by omega, by omega⟩ (fun c17 => ?_) (fun c17 => ?_)
          · simp only [jc, Bool.not_eq_true', Bool.not_eq_false', decide_eq_true_eq, decide_eq_false_iff_not] at c17
            refine mj_T.pl rfl rfl rfl rfl ?_
            refine mj_T.iadd (a := c) (b := 0) rfl ?_
            refine jT.anyI (fun z18 rz18 => ?_)
            refine mj_T.pl (loc' := [some (.ref 172), some (.int (jn s)), some (.int (jn z18)), some (.int (jn e)), some (.int (jn ((i : Nat) : Int))), some (.int (jn z15))]) rfl rfl rfl rfl ?_
            refine mj_T.pl rfl rfl rfl rfl ?_
            refine mj_T.pl (loc' := [some (.ref 172), some (.int (jn s)), some (.int (jn z18)), some (.int (jn z15)), some (.int (jn ((i : Nat) : Int))), some (.int (jn z15))]) rfl rfl rfl rfl ?_
            refine mj_T.iinc rfl rfl ?_
            rw [show ((i : Nat) : Int) + 1 = ((i + 1 : Nat) : Int) by omega]
            refine mj_T.eq (loc2 := [some (.ref 172), some (.int (jn s)), some (.int (jn z18)), some (.int (jn z15)), some (.int (jn (((i + 1) : Nat) : Int))), some (.int (jn z15))]) ?_ rfl rfl rfl rfl
            refine mj_T.pl rfl rfl rfl rfl ?_
            exact mZ_77_loop m dg hs k (i + 1) (by omega) _ _ _ ⟨by omega, by omega⟩ ⟨by omega, by omega⟩
          · simp only [jc, Bool.not_eq_true', Bool.not_eq_false', decide_eq_true_eq, decide_eq_false_iff_not] at c17
            iterate 2 refine mj_T.pl rfl rfl rfl rfl ?_
            refine mj_T.iadd (a := c) (b := 1) rfl ?_
            refine jT.anyI (fun z19 rz19 => ?_)
            refine mj_T.pl (loc' := [some (.ref 172), some (.int (jn s)), some (.int (jn z19)), some (.int (jn e)), some (.int (jn ((i : Nat) : Int))), some (.int (jn z15))]) rfl rfl rfl rfl ?_
            refine mj_T.pl rfl rfl rfl rfl ?_
            refine mj_T.pl (loc' := [some (.ref 172), some (.int (jn s)), some (.int (jn z19)), some (.int (jn z15)), some (.int (jn ((i : Nat) : Int))), some (.int (jn z15))]) rfl rfl rfl rfl ?_
            refine mj_T.iinc rfl rfl ?_
            rw [show ((i : Nat) : Int) + 1 = ((i + 1 : Nat) : Int) by omega]
            refine mj_T.eq (loc2 := [some (.ref 172), some (.int (jn s)), some (.int (jn z19)), some (.int (jn z15)), some (.int (jn (((i + 1) : Nat) : Int))), some (.int (jn z15))]) ?_ rfl rfl rfl rfl
            refine mj_T.pl rfl rfl rfl rfl ?_
            exact mZ_77_loop m dg hs k (i + 1) (by omega) _ _ _ ⟨by omega, by omega⟩ ⟨by omega, by omega⟩
theorem mZ_77 (m : jM g n V X h) (dg : DG X) {s : Int} (hs : -2147483648 ≤ s ∧ s ≤ 2147483647) : mj_Ok (D + 3) 77 [.ref 172, .int (jn s)] h (fun r => ∃ z : Int, (-2147483648 ≤ z ∧ z ≤ 2147483647) ∧ r = (.inl (some (.int (jn z))), h)) := by
  refine mj_Ok.of (M := mj_m77) rfl rfl rfl ?_
  refine mj_T.pl rfl rfl rfl rfl ?_
  refine mj_T.pl (loc' := [some (.ref 172), some (.int (jn s)), some (.int (jn 0)), none, none, none]) rfl rfl rfl rfl ?_
  refine mj_T.pl rfl rfl rfl rfl ?_
  refine mj_T.pl (loc' := [some (.ref 172), some (.int (jn s)), some (.int (jn 0)), some (.int (jn 0)), none, none]) rfl rfl rfl rfl ?_
  refine mj_T.pl rfl rfl rfl rfl ?_
  refine mj_T.pl (loc' := [some (.ref 172), some (.int (jn s)), some (.int (jn 0)), some (.int (jn 0)), some (.int (jn 0)), none]) rfl rfl rfl rfl ?_
  exact mZ_77_loop m dg hs 14 0 (by omega) _ _ _ ⟨by decide, by decide⟩ ⟨by decide, by decide⟩
end MLT
