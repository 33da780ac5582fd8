/-! The class loosely: its desk. -/
section MLG
variable {g h : mj_H} {n D p q r : Nat} {V : Nat → Int} {X : Nat → Nat → Int}
theorem mZ_171 (M : jM g n V X h) {x y : Int} (hx : jR x) (hy : jR y) : mj_Ok (D + 1) 171 [.long (jl x), .long (jl y)] h (fun r => ∃ z : Int, jR z ∧ r = (.inl (some (.long (jl z))), h)) := by
  have hs : isW [] := fun a ha => by simp at ha
  refine (mZ_pof (jc_171 (kS_ty hs) (Nat.le_of_eq M.1) (kS_O M hs) hx hy)).to fun r hr => ?_
  obtain ⟨v, ⟨z, hz, rfl⟩, rfl⟩ := hr
  exact ⟨z, hz, rfl⟩
theorem mZ_24 (m : jM g n V X h) (b : by0 V) {a : Nat} {y : Int} (fa : frW a) (hy : jR y) : mj_Ok (D + 2) 24 [.ref 19, .ref a, .long (jl y)] h (fun r => ∃ V2 h2, jM g n V2 X h2 ∧ by0 V2 ∧ r = (.inl none, h2)) := by
  refine mj_Ok.of (M := mj_m24) rfl rfl rfl ?_
  refine mj_T.pl rfl rfl rfl rfl ?_
  refine mT_get m 11 cq_d19 (by decide) rfl rfl ?_
  refine mj_T.pl rfl rfl rfl rfl ?_
  refine mj_T.call rfl rfl (Nat.le_of_ble_eq_true rfl) (Nat.le_of_ble_eq_true rfl) (mV_of m 18 cq_d168 (by decide) rfl (by decide) rfl _) rfl (mj_Ok.up (by omega) (mF_86 (D := 0) m b fr_d168 hy)) (fun v g1 hq => ?_) (fun i g1 hq => ?_)
  rotate_left
  · obtain ⟨_, _, _, _, hq⟩ := hq; cases hq
  obtain ⟨V2, _, m3, b4, hq⟩ := hq
  cases hq
  refine mj_T.eq (pc2 := 8) (st2 := []) ?_ rfl rfl rfl rfl
  refine mj_T.pl rfl rfl rfl rfl ?_
  refine mT_get m3 11 cq_d19 (by decide) rfl rfl ?_
  iterate 2 refine mj_T.pl rfl rfl rfl rfl ?_
  refine mT_get m3 11 cq_d19 (by decide) rfl rfl ?_
  refine mj_T.call rfl rfl (Nat.le_of_ble_eq_true rfl) (Nat.le_of_ble_eq_true rfl) (mV_of m3 18 cq_d164 (by decide) rfl (by decide) rfl _) rfl (mj_Ok.up (by omega) (mF_95 (D := 0) m3 b4 fr_d164 fa fr_d168)) (fun v g5 hq => ?_) (fun i g5 hq => ?_)
  rotate_left
  · obtain ⟨_, _, _, _, hq⟩ := hq; cases hq
  obtain ⟨V6, _, m7, b8, hq⟩ := hq
  cases hq
  refine mj_T.eq (pc2 := 20) (st2 := []) ?_ rfl rfl rfl rfl
  iterate 2 refine mj_T.pl rfl rfl rfl rfl ?_
  refine mT_get m7 11 cq_d19 (by decide) rfl rfl ?_
  refine mj_T.call rfl rfl (Nat.le_of_ble_eq_true rfl) (Nat.le_of_ble_eq_true rfl) (mV_of m7 18 fa.1 (by decide) rfl (by decide) rfl _) rfl (mj_Ok.up (by omega) (mF_87 (D := 0) m7 b8 fa fr_d164)) (fun v g9 hq => ?_) (fun i g9 hq => ?_)
  rotate_left
  · obtain ⟨_, _, _, _, hq⟩ := hq; cases hq
  obtain ⟨V10, _, m11, b12, hq⟩ := hq
  cases hq
  refine mj_T.eq (pc2 := 28) (st2 := []) ?_ rfl rfl rfl rfl
  exact mj_T.ret rfl rfl rfl ⟨V10, _, m11, b12, rfl⟩
theorem mZ_25 (m : jM g n V X h) (b : by0 V) {a : Nat} {y : Int} (fa : frW a) (hy : jR y) : mj_Ok (D + 3) 25 [.ref 19, .ref a, .long (jl y)] h (fun r => ∃ V2 h2, jM g n V2 X h2 ∧ by0 V2 ∧ r = (.inl none, h2)) := by
  refine mj_Ok.of (M := mj_m25) rfl rfl rfl ?_
  refine mj_T.pl rfl rfl rfl rfl ?_
  refine mT_get m 11 cq_d19 (by decide) rfl rfl ?_
  refine mj_T.pl rfl rfl rfl rfl ?_
  refine mj_T.call rfl rfl (Nat.le_of_ble_eq_true rfl) (Nat.le_of_ble_eq_true rfl) (mV_of m 18 cq_d168 (by decide) rfl (by decide) rfl _) rfl (mj_Ok.up (by omega) (mF_86 (D := 0) m b fr_d168 hy)) (fun v g1 hq => ?_) (fun i g1 hq => ?_)
  rotate_left
  · obtain ⟨_, _, _, _, hq⟩ := hq; cases hq
  obtain ⟨V2, _, m3, b4, hq⟩ := hq
  cases hq
  refine mj_T.eq (pc2 := 8) (st2 := []) ?_ rfl rfl rfl rfl
  refine mj_T.pl rfl rfl rfl rfl ?_
  refine mT_get m3 11 cq_d19 (by decide) rfl rfl ?_
  refine mj_T.pl rfl rfl rfl rfl ?_
  refine mT_get m3 11 cq_d19 (by decide) rfl rfl ?_
  refine mj_T.call rfl rfl (Nat.le_of_ble_eq_true rfl) (Nat.le_of_ble_eq_true rfl) (mV_of m3 12 cq_d170 (by decide) rfl (by decide) rfl _) rfl (mj_Ok.up (by omega) (mF_30 (D := 0) m3 b4 cq_d170 fr_d168)) (fun v g5 hq => ?_) (fun i g5 hq => ?_)
  rotate_left
  · obtain ⟨_, _, _, _, hq⟩ := hq; cases hq
  obtain ⟨V6, _, m7, b8, hq⟩ := hq
  cases hq
  refine mj_T.eq (pc2 := 19) (st2 := []) ?_ rfl rfl rfl rfl
  refine mj_T.pl rfl rfl rfl rfl ?_
  refine mT_get m7 11 cq_d19 (by decide) rfl rfl ?_
  iterate 2 refine mj_T.pl rfl rfl rfl rfl ?_
  refine mT_get m7 11 cq_d19 (by decide) rfl rfl ?_
  refine mj_T.call rfl rfl (Nat.le_of_ble_eq_true rfl) (Nat.le_of_ble_eq_true rfl) (mV_of m7 12 cq_d170 (by decide) rfl (by decide) rfl _) rfl (mj_Ok.up (by omega) (mF_31 (D := 0) m7 b8 cq_d170 fa fr_d164)) (fun v g9 hq => ?_) (fun i g9 hq => ?_)
  rotate_left
  · obtain ⟨_, _, _, _, hq⟩ := hq; cases hq
  obtain ⟨V10, _, m11, b12, hq⟩ := hq
  cases hq
  refine mj_T.eq (pc2 := 31) (st2 := []) ?_ rfl rfl rfl rfl
  iterate 2 refine mj_T.pl rfl rfl rfl rfl ?_
  refine mT_get m11 11 cq_d19 (by decide) rfl rfl ?_
  refine mj_T.call rfl rfl (Nat.le_of_ble_eq_true rfl) (Nat.le_of_ble_eq_true rfl) (mV_of m11 18 fa.1 (by decide) rfl (by decide) rfl _) rfl (mj_Ok.up (by omega) (mF_87 (D := 0) m11 b12 fa fr_d164)) (fun v g13 hq => ?_) (fun i g13 hq => ?_)
  rotate_left
  · obtain ⟨_, _, _, _, hq⟩ := hq; cases hq
  obtain ⟨V14, _, m15, b16, hq⟩ := hq
  cases hq
  refine mj_T.eq (pc2 := 39) (st2 := []) ?_ rfl rfl rfl rfl
  exact mj_T.ret rfl rfl rfl ⟨V14, _, m15, b16, rfl⟩
theorem mZ_23 (m : jM g n V X h) (b : by0 V) {a : Nat} {y : Int} (fa : frW a) (hy : jR y) : mj_Ok (D + 3) 23 [.ref 19, .ref a, .long (jl y)] h (fun r => ∃ (V2 : Nat → Int) (z : Int) (h2 : mj_H), jM g n V2 X h2 ∧ by0 V2 ∧ jR z ∧ r = (.inl (some (.long (jl z))), h2)) := by
  refine mj_Ok.of (M := mj_m23) rfl rfl rfl ?_
  refine mj_T.pl rfl rfl rfl rfl ?_
  refine mT_get m 11 cq_d19 (by decide) rfl rfl ?_
  refine mj_T.pl rfl rfl rfl rfl ?_
  refine mj_T.call rfl rfl (Nat.le_of_ble_eq_true rfl) (Nat.le_of_ble_eq_true rfl) (mV_of m 18 cq_d168 (by decide) rfl (by decide) rfl _) rfl (mj_Ok.up (by omega) (mF_86 (D := 0) m b fr_d168 hy)) (fun v g1 hq => ?_) (fun i g1 hq => ?_)
  rotate_left
  · obtain ⟨_, _, _, _, hq⟩ := hq; cases hq
  obtain ⟨V2, _, m3, b4, hq⟩ := hq
  cases hq
  refine mj_T.eq (pc2 := 8) (st2 := []) ?_ rfl rfl rfl rfl
  refine mj_T.pl rfl rfl rfl rfl ?_
  refine mT_get m3 11 cq_d19 (by decide) rfl rfl ?_
  refine mj_T.pl rfl rfl rfl rfl ?_
  refine mT_get m3 11 cq_d19 (by decide) rfl rfl ?_
  refine mj_T.call rfl rfl (Nat.le_of_ble_eq_true rfl) (Nat.le_of_ble_eq_true rfl) (mV_of m3 12 cq_d170 (by decide) rfl (by decide) rfl _) rfl (mj_Ok.up (by omega) (mF_30 (D := 0) m3 b4 cq_d170 fr_d168)) (fun v g5 hq => ?_) (fun i g5 hq => ?_)
  rotate_left
  · obtain ⟨_, _, _, _, hq⟩ := hq; cases hq
  obtain ⟨V6, _, m7, b8, hq⟩ := hq
  cases hq
  refine mj_T.eq (pc2 := 19) (st2 := []) ?_ rfl rfl rfl rfl
  refine mj_T.pl rfl rfl rfl rfl ?_
  refine mT_get m7 11 cq_d19 (by decide) rfl rfl ?_
  refine mj_T.pl rfl rfl rfl rfl ?_
  refine mj_T.call rfl rfl (Nat.le_of_ble_eq_true rfl) (Nat.le_of_ble_eq_true rfl) (mV_of m7 18 cq_d166 (by decide) rfl (by decide) rfl _) rfl (mj_Ok.up (by omega) (mF_87 (D := 0) m7 b8 fr_d166 fa)) (fun v g9 hq => ?_) (fun i g9 hq => ?_)
  rotate_left
  · obtain ⟨_, _, _, _, hq⟩ := hq; cases hq
  obtain ⟨V10, _, m11, b12, hq⟩ := hq
  cases hq
  refine mj_T.eq (pc2 := 27) (st2 := []) ?_ rfl rfl rfl rfl
  refine mj_T.pl rfl rfl rfl rfl ?_
  refine mT_get m11 11 cq_d19 (by decide) rfl rfl ?_
  refine mj_T.pl rfl rfl rfl rfl ?_
  refine mT_get m11 11 cq_d19 (by decide) rfl rfl ?_
  refine mj_T.pl rfl rfl rfl rfl ?_
  refine mT_get m11 11 cq_d19 (by decide) rfl rfl ?_
  refine mj_T.call rfl rfl (Nat.le_of_ble_eq_true rfl) (Nat.le_of_ble_eq_true rfl) (mV_of m11 12 cq_d170 (by decide) rfl (by decide) rfl _) rfl (mj_Ok.up (by omega) (mF_31 (D := 0) m11 b12 cq_d170 fr_d166 fr_d164)) (fun v g13 hq => ?_) (fun i g13 hq => ?_)
  rotate_left
  · obtain ⟨_, _, _, _, hq⟩ := hq; cases hq
  obtain ⟨V14, _, m15, b16, hq⟩ := hq
  cases hq
  refine mj_T.eq (pc2 := 42) (st2 := []) ?_ rfl rfl rfl rfl
  refine mj_T.pl rfl rfl rfl rfl ?_
  refine mT_get m15 11 cq_d19 (by decide) rfl rfl ?_
  refine mj_T.call rfl rfl (Nat.le_of_ble_eq_true rfl) (Nat.le_of_ble_eq_true rfl) (mV_of m15 18 cq_d166 (by decide) rfl (by decide) rfl _) rfl (mj_Ok.up (by omega) (mZ_100 (D := 0) m15 cq_d166)) (fun v g17 hq => ?_) (fun i g17 hq => ?_)
  rotate_left
  · obtain ⟨_, _, hq⟩ := hq; cases hq
  obtain ⟨y18, jy18, hq⟩ := hq
  cases hq
  refine mj_T.eq (pc2 := 49) (st2 := [.long (jl y18)]) ?_ rfl rfl rfl rfl
  refine mj_T.pl rfl rfl rfl rfl ?_
  refine mj_T.call rfl rfl (Nat.le_of_ble_eq_true rfl) (Nat.le_of_ble_eq_true rfl) rfl rfl (mj_Ok.up (by omega) (mZ_171 (D := 0) m15 jy18 hy)) (fun v g19 hq => ?_) (fun i g19 hq => ?_)
  rotate_left
  · obtain ⟨_, _, hq⟩ := hq; cases hq
  obtain ⟨y20, jy20, hq⟩ := hq
  cases hq
  refine mj_T.eq (pc2 := 53) (st2 := [.long (jl y20)]) ?_ rfl rfl rfl rfl
  exact mj_T.ret rfl rfl rfl ⟨V14, _, _, m15, b16, jy20, rfl⟩
theorem mZ_17_loop {dy s : Nat} (kp : cK p = 13) (kq : cK q = 13) (hdy : X q 2 = (dy : Int)) (hdq : dy < cL (q + 3)) (hs : dy + s < cL (p + 3)) : ∀ k i, i + k = dy + s → ∀ (V1 : Nat → Int) (h1 : mj_H) (l7 : Option Value), jM g n V1 X h1 → by0 V1 → mj_T (D + 2) mj_m17 21 [some (.ref 19), some (.ref p), some (.ref q), some (.int (jn (s : Int))), some (.ref (p + 4 + 2 * (dy + s))), some (.ref (q + 4 + 2 * dy)), some (.int (jn (i : Int))), l7] [] h1 (fun r => ∃ V2 h2, jM g n V2 X h2 ∧ by0 V2 ∧ r = (.inl none, h2))
  | 0, i, hi, V1, h1, l7, m, b => by
    have hbp := (mK_p kp).2.2.1
    have hbq := (mK_p kq).2.2.1
    iterate 2 refine mj_T.pl rfl rfl rfl rfl ?_
    refine mT_get (v := .int (jn ((dy : Nat) : Int))) m 13 kq (by decide) rfl (congrArg (fun z : Int => some (Value.int (jn z))) (hdy)) ?_
    refine mj_T.pl rfl rfl rfl rfl ?_
    refine mj_T.iadd (a := ((dy : Nat) : Int)) (b := ((s : Nat) : Int)) rfl ?_
    refine mj_T.icmp (a := ((i : Nat) : Int)) (b := (((dy : Nat) : Int) + ((s : Nat) : Int))) rfl ⟨by omega, by omega⟩ ⟨by omega, by omega⟩ (fun c1 => ?_) (fun c1 => ?_)
    · simp only [jc, Bool.not_eq_true', Bool.not_eq_false', decide_eq_true_eq, decide_eq_false_iff_not] at c1
      refine mj_T.pl rfl rfl rfl rfl ?_
      refine jT.lc 0 rfl rfl ?_
      refine mj_T.call rfl rfl (Nat.le_of_ble_eq_true rfl) (Nat.le_of_ble_eq_true rfl) (mV_of m 18 ((mK_p kp).2.2.2 (dy + s) (by omega)) (by decide) rfl (by decide) rfl _) rfl (mj_Ok.up (by omega) (mF_86 (D := 0) m b (fr_part kp (by omega)) jR_0)) (fun v g2 hq => ?_) (fun i g2 hq => ?_)
      rotate_left
      · obtain ⟨_, _, _, _, hq⟩ := hq; cases hq
      obtain ⟨V3, _, m4, b5, hq⟩ := hq
      cases hq
      refine mj_T.eq (pc2 := 107) (st2 := []) ?_ rfl rfl rfl rfl
      exact mj_T.ret rfl rfl rfl ⟨V3, _, m4, b5, rfl⟩
    · exfalso
      simp only [jc, Bool.not_eq_true', Bool.not_eq_false', decide_eq_true_eq, decide_eq_false_iff_not] at c1
      omega
  | k + 1, i, hi, V1, h1, l7, m, b => by
    have hbp := (mK_p kp).2.2.1
    have hbq := (mK_p kq).2.2.1
    iterate 2 refine mj_T.pl rfl rfl rfl rfl ?_
    refine mT_get (v := .int (jn ((dy : Nat) : Int))) m 13 kq (by decide) rfl (congrArg (fun z : Int => some (Value.int (jn z))) (hdy)) ?_
    refine mj_T.pl rfl rfl rfl rfl ?_
    refine mj_T.iadd (a := ((dy : Nat) : Int)) (b := ((s : Nat) : Int)) rfl ?_
    refine mj_T.icmp (a := ((i : Nat) : Int)) (b := (((dy : Nat) : Int) + ((s : Nat) : Int))) rfl ⟨by omega, by omega⟩ ⟨by omega, by omega⟩ (fun c1 => ?_) (fun c1 => ?_)
    · exfalso
      simp only [jc, Bool.not_eq_true', Bool.not_eq_false', decide_eq_true_eq, decide_eq_false_iff_not] at c1
      omega
    · simp only [jc, Bool.not_eq_true', Bool.not_eq_false', decide_eq_true_eq, decide_eq_false_iff_not] at c1
      iterate 2 refine mj_T.pl rfl rfl rfl rfl ?_
      refine mj_T.call rfl rfl (Nat.le_of_ble_eq_true rfl) (Nat.le_of_ble_eq_true rfl) (mV_of m 13 kp (by decide) rfl (by decide) rfl _) rfl (mj_Ok.up (by omega) (mP_at (D := 0) m kp (e := i) (by omega))) (fun v g2 hq => ?_) (fun i g2 hq => ?_)
      rotate_left
      · cases hq
      cases hq
      refine mj_T.eq (pc2 := 38) (st2 := [.ref (p + 4 + 2 * i)]) ?_ rfl rfl rfl rfl
      refine mj_T.pl (loc' := [some (.ref 19), some (.ref p), some (.ref q), some (.int (jn ((s : Nat) : Int))), some (.ref (p + 4 + 2 * (dy + s))), some (.ref (q + 4 + 2 * dy)), some (.int (jn ((i : Nat) : Int))), some (.ref (p + 4 + 2 * i))]) rfl rfl rfl rfl ?_
      refine mj_T.pl rfl rfl rfl rfl ?_
      refine mT_get m 11 cq_d19 (by decide) rfl rfl ?_
      iterate 2 refine mj_T.pl rfl rfl rfl rfl ?_
      refine mj_T.call rfl rfl (Nat.le_of_ble_eq_true rfl) (Nat.le_of_ble_eq_true rfl) (mV_of m 18 cq_d164 (by decide) rfl (by decide) rfl _) rfl (mj_Ok.up (by omega) (mF_95 (D := 0) m b fr_d164 (fr_part kp (by omega)) (fr_part kq (by omega)))) (fun v g3 hq => ?_) (fun i g3 hq => ?_)
      rotate_left
      · obtain ⟨_, _, _, _, hq⟩ := hq; cases hq
      obtain ⟨V4, _, m5, b6, hq⟩ := hq
      cases hq
      refine mj_T.eq (pc2 := 51) (st2 := []) ?_ rfl rfl rfl rfl
      iterate 2 refine mj_T.pl rfl rfl rfl rfl ?_
      refine mj_T.icmp (a := ((i : Nat) : Int)) (b := ((s : Nat) : Int)) rfl ⟨by omega, by omega⟩ ⟨by omega, by omega⟩ (fun c7 => ?_) (fun c7 => ?_)
      · simp only [jc, Bool.not_eq_true', Bool.not_eq_false', decide_eq_true_eq, decide_eq_false_iff_not] at c7
        iterate 2 refine mj_T.pl rfl rfl rfl rfl ?_
        refine mT_get m5 11 cq_d19 (by decide) rfl rfl ?_
        refine mj_T.call rfl rfl (Nat.le_of_ble_eq_true rfl) (Nat.le_of_ble_eq_true rfl) (mV_of m5 18 ((mK_p kp).2.2.2 i (by omega)) (by decide) rfl (by decide) rfl _) rfl (mj_Ok.up (by omega) (mF_87 (D := 0) m5 b6 (fr_part kp (by omega)) fr_d164)) (fun v g8 hq => ?_) (fun i g8 hq => ?_)
        rotate_left
        · obtain ⟨_, _, _, _, hq⟩ := hq; cases hq
        obtain ⟨V9, _, m10, b11, hq⟩ := hq
        cases hq
        refine mj_T.eq (pc2 := 95) (st2 := []) ?_ rfl rfl rfl rfl
        refine mj_T.iinc rfl rfl ?_
        rw [show ((i : Nat) : Int) + 1 = ((i + 1 : Nat) : Int) by omega]
        refine mj_T.eq (loc2 := [some (.ref 19), some (.ref p), some (.ref q), some (.int (jn ((s : Nat) : Int))), some (.ref (p + 4 + 2 * (dy + s))), some (.ref (q + 4 + 2 * dy)), some (.int (jn (((i + 1) : Nat) : Int))), some (.ref (p + 4 + 2 * i))]) ?_ rfl rfl rfl rfl
        refine mj_T.pl rfl rfl rfl rfl ?_
        exact mZ_17_loop kp kq hdy hdq hs k (i + 1) (by omega) _ _ _ m10 b11
      · simp only [jc, Bool.not_eq_true', Bool.not_eq_false', decide_eq_true_eq, decide_eq_false_iff_not] at c7
        refine mj_T.pl rfl rfl rfl rfl ?_
        refine mT_get m5 11 cq_d19 (by decide) rfl rfl ?_
        iterate 4 refine mj_T.pl rfl rfl rfl rfl ?_
        refine mj_T.isub (a := ((i : Nat) : Int)) (b := ((s : Nat) : Int)) rfl ?_
        rw [show (((i : Nat) : Int) - ((s : Nat) : Int)) = (((i - s) : Nat) : Int) by omega]
        refine mj_T.call rfl rfl (Nat.le_of_ble_eq_true rfl) (Nat.le_of_ble_eq_true rfl) (mV_of m5 13 kq (by decide) rfl (by decide) rfl _) rfl (mj_Ok.up (by omega) (mP_at (D := 0) m5 kq (e := (i - s)) (by omega))) (fun v g12 hq => ?_) (fun i g12 hq => ?_)
        rotate_left
        · cases hq
        cases hq
        refine mj_T.eq (pc2 := 71) (st2 := [.ref (q + 4 + 2 * (i - s)), .ref (p + 4 + 2 * (dy + s)), .ref 166]) ?_ rfl rfl rfl rfl
        refine mj_T.call rfl rfl (Nat.le_of_ble_eq_true rfl) (Nat.le_of_ble_eq_true rfl) (mV_of m5 18 cq_d166 (by decide) rfl (by decide) rfl _) rfl (mj_Ok.up (by omega) (mF_95 (D := 0) m5 b6 fr_d166 (fr_part kp (by omega)) (fr_part kq (by omega)))) (fun v g13 hq => ?_) (fun i g13 hq => ?_)
        rotate_left
        · obtain ⟨_, _, _, _, hq⟩ := hq; cases hq
        obtain ⟨V14, _, m15, b16, hq⟩ := hq
        cases hq
        refine mj_T.eq (pc2 := 74) (st2 := []) ?_ rfl rfl rfl rfl
        refine mj_T.pl rfl rfl rfl rfl ?_
        refine mT_get m15 11 cq_d19 (by decide) rfl rfl ?_
        refine mj_T.pl rfl rfl rfl rfl ?_
        refine mT_get m15 11 cq_d19 (by decide) rfl rfl ?_
        refine mj_T.pl rfl rfl rfl rfl ?_
        refine mj_T.call rfl rfl (Nat.le_of_ble_eq_true rfl) (Nat.le_of_ble_eq_true rfl) (mV_of m15 18 cq_d164 (by decide) rfl (by decide) rfl _) rfl (mj_Ok.up (by omega) (mF_91 (D := 0) m15 b16 fr_d164 fr_d166 (by omega))) (fun v g17 hq => ?_) (fun i g17 hq => ?_)
        rotate_left
        · obtain ⟨_, _, _, _, hq⟩ := hq; cases hq
        obtain ⟨V18, _, m19, b20, hq⟩ := hq
        cases hq
        refine mj_T.eq (pc2 := 86) (st2 := []) ?_ rfl rfl rfl rfl
        iterate 2 refine mj_T.pl rfl rfl rfl rfl ?_
        refine mT_get m19 11 cq_d19 (by decide) rfl rfl ?_
        refine mj_T.call rfl rfl (Nat.le_of_ble_eq_true rfl) (Nat.le_of_ble_eq_true rfl) (mV_of m19 18 ((mK_p kp).2.2.2 i (by omega)) (by decide) rfl (by decide) rfl _) rfl (mj_Ok.up (by omega) (mF_87 (D := 0) m19 b20 (fr_part kp (by omega)) fr_d164)) (fun v g21 hq => ?_) (fun i g21 hq => ?_)
        rotate_left
        · obtain ⟨_, _, _, _, hq⟩ := hq; cases hq
        obtain ⟨V22, _, m23, b24, hq⟩ := hq
        cases hq
        refine mj_T.eq (pc2 := 95) (st2 := []) ?_ rfl rfl rfl rfl
        refine mj_T.iinc rfl rfl ?_
        rw [show ((i : Nat) : Int) + 1 = ((i + 1 : Nat) : Int) by omega]
        refine mj_T.eq (loc2 := [some (.ref 19), some (.ref p), some (.ref q), some (.int (jn ((s : Nat) : Int))), some (.ref (p + 4 + 2 * (dy + s))), some (.ref (q + 4 + 2 * dy)), some (.int (jn (((i + 1) : Nat) : Int))), some (.ref (p + 4 + 2 * i))]) ?_ rfl rfl rfl rfl
        refine mj_T.pl rfl rfl rfl rfl ?_
        exact mZ_17_loop kp kq hdy hdq hs k (i + 1) (by omega) _ _ _ m23 b24
theorem mZ_17 (m : jM g n V X h) (b : by0 V) {dy s : Nat} (kp : cK p = 13) (kq : cK q = 13) (hdy : X q 2 = (dy : Int)) (hdq : dy < cL (q + 3)) (hs : dy + s < cL (p + 3)) : mj_Ok (D + 3) 17 [.ref 19, .ref p, .ref q, .int (jn (s : Int))] h (fun r => ∃ V2 h2, jM g n V2 X h2 ∧ by0 V2 ∧ r = (.inl none, h2)) := by
  have hbp := (mK_p kp).2.2.1
  have hbq := (mK_p kq).2.2.1
  refine mj_Ok.of (M := mj_m17) rfl rfl rfl ?_
  iterate 2 refine mj_T.pl rfl rfl rfl rfl ?_
  refine mT_get (v := .int (jn ((dy : Nat) : Int))) m 13 kq (by decide) rfl (congrArg (fun z : Int => some (Value.int (jn z))) (hdy)) ?_
  refine mj_T.pl rfl rfl rfl rfl ?_
  refine mj_T.iadd (a := ((dy : Nat) : Int)) (b := ((s : Nat) : Int)) rfl ?_
  rw [show (((dy : Nat) : Int) + ((s : Nat) : Int)) = ((dy + s : Nat) : Int) by omega]
  refine mj_T.call rfl rfl (Nat.le_of_ble_eq_true rfl) (Nat.le_of_ble_eq_true rfl) (mV_of m 13 kp (by decide) rfl (by decide) rfl _) rfl (mj_Ok.up (by omega) (mP_at (D := 0) m kp (e := (dy + s)) (by omega))) (fun v g1 hq => ?_) (fun i g1 hq => ?_)
  rotate_left
  · cases hq
  cases hq
  refine mj_T.eq (pc2 := 10) (st2 := [.ref (p + 4 + 2 * (dy + s))]) ?_ rfl rfl rfl rfl
  refine mj_T.pl (loc' := [some (.ref 19), some (.ref p), some (.ref q), some (.int (jn ((s : Nat) : Int))), some (.ref (p + 4 + 2 * (dy + s))), none, none, none]) rfl rfl rfl rfl ?_
  refine mj_T.pl rfl rfl rfl rfl ?_
  refine mj_T.call rfl rfl (Nat.le_of_ble_eq_true rfl) (Nat.le_of_ble_eq_true rfl) (mV_of m 13 kq (by decide) rfl (by decide) rfl _) rfl (mj_Ok.up (by omega) (mP_lead (D := 0) m kq hdy hdq)) (fun v g2 hq => ?_) (fun i g2 hq => ?_)
  rotate_left
  · cases hq
  cases hq
  refine mj_T.eq (pc2 := 16) (st2 := [.ref (q + 4 + 2 * dy)]) ?_ rfl rfl rfl rfl
  refine mj_T.pl (loc' := [some (.ref 19), some (.ref p), some (.ref q), some (.int (jn ((s : Nat) : Int))), some (.ref (p + 4 + 2 * (dy + s))), some (.ref (q + 4 + 2 * dy)), none, none]) rfl rfl rfl rfl ?_
  refine mj_T.pl rfl rfl rfl rfl ?_
  refine mj_T.pl (loc' := [some (.ref 19), some (.ref p), some (.ref q), some (.int (jn ((s : Nat) : Int))), some (.ref (p + 4 + 2 * (dy + s))), some (.ref (q + 4 + 2 * dy)), some (.int (jn 0)), none]) rfl rfl rfl rfl ?_
  exact mZ_17_loop kp kq hdy hdq hs (dy + s) 0 (by omega) _ _ _ m b
theorem mZ_20_in {a i : Nat} {d t : Int} (kp : cK p = 13) (fa : frW a) (hd : X p 2 = d) (hd2 : -1 ≤ d ∧ d < cL (p + 3)) (ht : -2147483648 ≤ t ∧ t ≤ 2147483647) (hi : i < cL (p + 3)) {Q : mj_R → Prop} (hend : ∀ (V1 : Nat → Int) (h1 : mj_H) (j : Int), jM g n V1 X h1 → by0 V1 → mj_T (D + 2) mj_m20 65 [some (.ref 19), some (.ref p), some (.ref a), some (.int (jn t)), some (.int (jn (i : Int))), some (.ref (p + 4 + 2 * i)), some (.int (jn j))] [] h1 Q) : ∀ (k : Nat) (j : Int), (0 ≤ j ∧ j ≤ 2147483647) → t - j ≤ k → ∀ (V1 : Nat → Int) (h1 : mj_H), jM g n V1 X h1 → by0 V1 → mj_T (D + 2) mj_m20 31 [some (.ref 19), some (.ref p), some (.ref a), some (.int (jn t)), some (.int (jn (i : Int))), some (.ref (p + 4 + 2 * i)), some (.int (jn j))] [] h1 Q
  | 0, j, hj, htj, V1, h1, m, b => by
    iterate 2 refine mj_T.pl rfl rfl rfl rfl ?_
    refine mj_T.icmp (a := j) (b := t) rfl ⟨by omega, by omega⟩ ⟨by omega, by omega⟩ (fun c1 => ?_) (fun c1 => ?_)
    · simp only [jc, Bool.not_eq_true', Bool.not_eq_false', decide_eq_true_eq, decide_eq_false_iff_not] at c1
      exact hend _ _ _ m b
    · exfalso
      simp only [jc, Bool.not_eq_true', Bool.not_eq_false', decide_eq_true_eq, decide_eq_false_iff_not] at c1
      omega
  | k + 1, j, hj, htj, V1, h1, m, b => by
    iterate 2 refine mj_T.pl rfl rfl rfl rfl ?_
    refine mj_T.icmp (a := j) (b := t) rfl ⟨by omega, by omega⟩ ⟨by omega, by omega⟩ (fun c1 => ?_) (fun c1 => ?_)
    · simp only [jc, Bool.not_eq_true', Bool.not_eq_false', decide_eq_true_eq, decide_eq_false_iff_not] at c1
      exact hend _ _ _ m b
    · simp only [jc, Bool.not_eq_true', Bool.not_eq_false', decide_eq_true_eq, decide_eq_false_iff_not] at c1
      refine mj_T.pl rfl rfl rfl rfl ?_
      refine mT_get m 11 cq_d19 (by decide) rfl rfl ?_
      iterate 2 refine mj_T.pl rfl rfl rfl rfl ?_
      refine mT_get m 11 cq_d19 (by decide) rfl rfl ?_
      refine mj_T.call rfl rfl (Nat.le_of_ble_eq_true rfl) (Nat.le_of_ble_eq_true rfl) (mV_of m 12 cq_d170 (by decide) rfl (by decide) rfl _) rfl (mj_Ok.up (by omega) (mF_31 (D := 0) m b cq_d170 (fr_part kp (by omega)) fr_d164)) (fun v g2 hq => ?_) (fun i g2 hq => ?_)
      rotate_left
      · obtain ⟨_, _, _, _, hq⟩ := hq; cases hq
      obtain ⟨V3, _, m4, b5, hq⟩ := hq
      cases hq
      refine mj_T.eq (pc2 := 50) (st2 := []) ?_ rfl rfl rfl rfl
      iterate 2 refine mj_T.pl rfl rfl rfl rfl ?_
      refine mT_get m4 11 cq_d19 (by decide) rfl rfl ?_
      refine mj_T.call rfl rfl (Nat.le_of_ble_eq_true rfl) (Nat.le_of_ble_eq_true rfl) (mV_of m4 18 ((mK_p kp).2.2.2 i (by omega)) (by decide) rfl (by decide) rfl _) rfl (mj_Ok.up (by omega) (mF_87 (D := 0) m4 b5 (fr_part kp (by omega)) fr_d164)) (fun v g6 hq => ?_) (fun i g6 hq => ?_)
      rotate_left
      · obtain ⟨_, _, _, _, hq⟩ := hq; cases hq
      obtain ⟨V7, _, m8, b9, hq⟩ := hq
      cases hq
      refine mj_T.eq (pc2 := 59) (st2 := []) ?_ rfl rfl rfl rfl
      refine mj_T.iinc rfl rfl ?_
      refine mj_T.eq (loc2 := [some (.ref 19), some (.ref p), some (.ref a), some (.int (jn t)), some (.int (jn ((i : Nat) : Int))), some (.ref (p + 4 + 2 * i)), some (.int (jn (j + 1)))]) ?_ rfl rfl rfl rfl
      refine mj_T.pl rfl rfl rfl rfl ?_
      exact mZ_20_in kp fa hd hd2 ht hi hend k (j + 1) (by omega) (by omega) _ _ m8 b9
theorem mZ_20_out {a : Nat} {d t : Int} (kp : cK p = 13) (fa : frW a) (hd : X p 2 = d) (hd2 : -1 ≤ d ∧ d < cL (p + 3)) (ht : -2147483648 ≤ t ∧ t ≤ 2147483647) : ∀ (k i : Nat), cL (p + 3) + 1 = i + k → ∀ (V1 : Nat → Int) (h1 : mj_H) (l5 l6 : Option Value), jM g n V1 X h1 → by0 V1 → mj_T (D + 2) mj_m20 11 [some (.ref 19), some (.ref p), some (.ref a), some (.int (jn t)), some (.int (jn (i : Int))), l5, l6] [] h1 (fun r => ∃ V2 h2, jM g n V2 X h2 ∧ by0 V2 ∧ r = (.inl none, h2))
  | 0, i, hi, V1, h1, l5, l6, m, b => by
    have hbp := (mK_p kp).2.2.1
    iterate 2 refine mj_T.pl rfl rfl rfl rfl ?_
    refine mT_get (v := .int (jn d)) m 13 kp (by decide) rfl (congrArg (fun z : Int => some (Value.int (jn z))) (hd)) ?_
    refine mj_T.icmp (a := ((i : Nat) : Int)) (b := d) rfl ⟨by omega, by omega⟩ ⟨by omega, by omega⟩ (fun c1 => ?_) (fun c1 => ?_)
    · simp only [jc, Bool.not_eq_true', Bool.not_eq_false', decide_eq_true_eq, decide_eq_false_iff_not] at c1
      exact mj_T.ret rfl rfl rfl ⟨V1, _, m, b, rfl⟩
    · exfalso
      simp only [jc, Bool.not_eq_true', Bool.not_eq_false', decide_eq_true_eq, decide_eq_false_iff_not] at c1
      omega
  | k + 1, i, hi, V1, h1, l5, l6, m, b => by
    have hbp := (mK_p kp).2.2.1
    iterate 2 refine mj_T.pl rfl rfl rfl rfl ?_
    refine mT_get (v := .int (jn d)) m 13 kp (by decide) rfl (congrArg (fun z : Int => some (Value.int (jn z))) (hd)) ?_
    refine mj_T.icmp (a := ((i : Nat) : Int)) (b := d) rfl ⟨by omega, by omega⟩ ⟨by omega, by omega⟩ (fun c1 => ?_) (fun c1 => ?_)
    · simp only [jc, Bool.not_eq_true', Bool.not_eq_false', decide_eq_true_eq, decide_eq_false_iff_not] at c1
      exact mj_T.ret rfl rfl rfl ⟨V1, _, m, b, rfl⟩
    · simp only [jc, Bool.not_eq_true', Bool.not_eq_false', decide_eq_true_eq, decide_eq_false_iff_not] at c1
      iterate 2 refine mj_T.pl rfl rfl rfl rfl ?_
      refine mj_T.call rfl rfl (Nat.le_of_ble_eq_true rfl) (Nat.le_of_ble_eq_true rfl) (mV_of m 13 kp (by decide) rfl (by decide) rfl _) rfl (mj_Ok.up (by omega) (mP_at (D := 0) m kp (e := i) (by omega))) (fun v g2 hq => ?_) (fun i g2 hq => ?_)
      rotate_left
      · cases hq
      cases hq
      refine mj_T.eq (pc2 := 26) (st2 := [.ref (p + 4 + 2 * i)]) ?_ rfl rfl rfl rfl
      refine mj_T.pl (loc' := [some (.ref 19), some (.ref p), some (.ref a), some (.int (jn t)), some (.int (jn ((i : Nat) : Int))), some (.ref (p + 4 + 2 * i)), l6]) rfl rfl rfl rfl ?_
      refine mj_T.pl rfl rfl rfl rfl ?_
      refine mj_T.pl (loc' := [some (.ref 19), some (.ref p), some (.ref a), some (.int (jn t)), some (.int (jn ((i : Nat) : Int))), some (.ref (p + 4 + 2 * i)), some (.int (jn 0))]) rfl rfl rfl rfl ?_
      refine mZ_20_in kp fa hd hd2 ht (by omega) (fun V3 h3 j3 m3 b3 => ?_) (t + 1).toNat 0 (by omega) (by omega) _ _ m b
      refine mj_T.iinc rfl rfl ?_
      rw [show ((i : Nat) : Int) + 1 = ((i + 1 : Nat) : Int) by omega]
      refine mj_T.eq (loc2 := [some (.ref 19), some (.ref p), some (.ref a), some (.int (jn t)), some (.int (jn (((i + 1) : Nat) : Int))), some (.ref (p + 4 + 2 * i)), some (.int (jn j3))]) ?_ rfl rfl rfl rfl
      refine mj_T.pl rfl rfl rfl rfl ?_
      exact mZ_20_out kp fa hd hd2 ht k (i + 1) (by omega) _ _ _ _ m3 b3
theorem mZ_20 (m : jM g n V X h) (b : by0 V) {a : Nat} {d t : Int} (kp : cK p = 13) (fa : frW a) (hd : X p 2 = d) (hd2 : -1 ≤ d ∧ d < cL (p + 3)) (ht : -2147483648 ≤ t ∧ t ≤ 2147483647) : mj_Ok (D + 3) 20 [.ref 19, .ref p, .ref a, .int (jn t)] h (fun r => ∃ V2 h2, jM g n V2 X h2 ∧ by0 V2 ∧ r = (.inl none, h2)) := by
  refine mj_Ok.of (M := mj_m20) rfl rfl rfl ?_
  refine mj_T.pl rfl rfl rfl rfl ?_
  refine mT_get m 11 cq_d19 (by decide) rfl rfl ?_
  refine mj_T.pl rfl rfl rfl rfl ?_
  refine mj_T.call rfl rfl (Nat.le_of_ble_eq_true rfl) (Nat.le_of_ble_eq_true rfl) (mV_of m 12 cq_d170 (by decide) rfl (by decide) rfl _) rfl (mj_Ok.up (by omega) (mF_30 (D := 0) m b cq_d170 fa)) (fun v g1 hq => ?_) (fun i g1 hq => ?_)
  rotate_left
  · obtain ⟨_, _, _, _, hq⟩ := hq; cases hq
  obtain ⟨V2, _, m3, b4, hq⟩ := hq
  cases hq
  refine mj_T.eq (pc2 := 8) (st2 := []) ?_ rfl rfl rfl rfl
  refine mj_T.pl rfl rfl rfl rfl ?_
  refine mj_T.pl (loc' := [some (.ref 19), some (.ref p), some (.ref a), some (.int (jn t)), some (.int (jn 0)), none, none]) rfl rfl rfl rfl ?_
  exact mZ_20_out kp fa hd hd2 ht (cL (p + 3) + 1) 0 (by omega) _ _ _ _ m3 b4
theorem mZ_26_loop {y : Int} (kp : cK p = 13) (hy : jR y) : ∀ (k : Nat) (i : Int), i < k → (-5 ≤ i ∧ i < cL (p + 3)) → ∀ (V1 : Nat → Int) (h1 : mj_H), jM g n V1 X h1 → by0 V1 → mj_T (D + 2) mj_m26 16 [some (.ref 19), some (.ref p), some (.long (jl y)), none, some (.int (jn i))] [] h1 (fun r => ∃ V2 h2, jM g n V2 X h2 ∧ by0 V2 ∧ r = (.inl none, h2))
  | 0, i, hi, hi2, V1, h1, m, b => by
    have hbp := (mK_p kp).2.2.1
    refine mj_T.pl rfl rfl rfl rfl ?_
    refine mj_T.if0 (a := i) rfl ⟨by omega, by omega⟩ (fun c1 => ?_) (fun c1 => ?_)
    · simp only [jc, Bool.not_eq_true', Bool.not_eq_false', decide_eq_true_eq, decide_eq_false_iff_not] at c1
      exact mj_T.ret rfl rfl rfl ⟨V1, _, m, b, rfl⟩
    · exfalso
      simp only [jc, Bool.not_eq_true', Bool.not_eq_false', decide_eq_true_eq, decide_eq_false_iff_not] at c1
      omega
  | k + 1, i, hi, hi2, V1, h1, m, b => by
    have hbp := (mK_p kp).2.2.1
    refine mj_T.pl rfl rfl rfl rfl ?_
    refine mj_T.if0 (a := i) rfl ⟨by omega, by omega⟩ (fun c1 => ?_) (fun c1 => ?_)
    · simp only [jc, Bool.not_eq_true', Bool.not_eq_false', decide_eq_true_eq, decide_eq_false_iff_not] at c1
      exact mj_T.ret rfl rfl rfl ⟨V1, _, m, b, rfl⟩
    · simp only [jc, Bool.not_eq_true', Bool.not_eq_false', decide_eq_true_eq, decide_eq_false_iff_not] at c1
      refine mj_T.pl rfl rfl rfl rfl ?_
      refine jT.lc 1 rfl rfl ?_
      refine mj_T.lif (a := y) (b := ((1 : Nat) : Int)) rfl rfl hy ⟨by decide, by decide⟩ (fun c2 => ?_) (fun c2 => ?_)
      · simp only [jc, Bool.not_eq_true', Bool.not_eq_false', decide_eq_true_eq, decide_eq_false_iff_not] at c2
        exact mj_T.ret rfl rfl rfl ⟨V1, _, m, b, rfl⟩
      · simp only [jc, Bool.not_eq_true', Bool.not_eq_false', decide_eq_true_eq, decide_eq_false_iff_not] at c2
        obtain ⟨e, he⟩ : ∃ e : Nat, i = (e : Int) := ⟨(i : Int).toNat, by omega⟩
        subst he
        refine mj_T.pl rfl rfl rfl rfl ?_
        refine mT_get m 11 cq_d19 (by decide) rfl rfl ?_
        refine mj_T.pl rfl rfl rfl rfl ?_
        refine mj_T.call rfl rfl (Nat.le_of_ble_eq_true rfl) (Nat.le_of_ble_eq_true rfl) (mV_of m 18 cq_d166 (by decide) rfl (by decide) rfl _) rfl (mj_Ok.up (by omega) (mF_86 (D := 0) m b fr_d166 hy)) (fun v g3 hq => ?_) (fun i g3 hq => ?_)
        rotate_left
        · obtain ⟨_, _, _, _, hq⟩ := hq; cases hq
        obtain ⟨V4, _, m5, b6, hq⟩ := hq
        cases hq
        refine mj_T.eq (pc2 := 35) (st2 := []) ?_ rfl rfl rfl rfl
        refine mj_T.pl rfl rfl rfl rfl ?_
        refine mT_get m5 11 cq_d19 (by decide) rfl rfl ?_
        refine mj_T.pl rfl rfl rfl rfl ?_
        refine mT_get m5 11 cq_d19 (by decide) rfl rfl ?_
        refine mj_T.pl rfl rfl rfl rfl ?_
        refine mT_get m5 11 cq_d19 (by decide) rfl rfl ?_
        refine mj_T.call rfl rfl (Nat.le_of_ble_eq_true rfl) (Nat.le_of_ble_eq_true rfl) (mV_of m5 18 cq_d164 (by decide) rfl (by decide) rfl _) rfl (mj_Ok.up (by omega) (mF_95 (D := 0) m5 b6 fr_d164 fr_d168 fr_d166)) (fun v g7 hq => ?_) (fun i g7 hq => ?_)
        rotate_left
        · obtain ⟨_, _, _, _, hq⟩ := hq; cases hq
        obtain ⟨V8, _, m9, b10, hq⟩ := hq
        cases hq
        refine mj_T.eq (pc2 := 50) (st2 := []) ?_ rfl rfl rfl rfl
        refine mj_T.pl rfl rfl rfl rfl ?_
        refine mT_get m9 11 cq_d19 (by decide) rfl rfl ?_
        refine mj_T.pl rfl rfl rfl rfl ?_
        refine mT_get m9 11 cq_d19 (by decide) rfl rfl ?_
        refine mj_T.call rfl rfl (Nat.le_of_ble_eq_true rfl) (Nat.le_of_ble_eq_true rfl) (mV_of m9 18 cq_d168 (by decide) rfl (by decide) rfl _) rfl (mj_Ok.up (by omega) (mF_87 (D := 0) m9 b10 fr_d168 fr_d164)) (fun v g11 hq => ?_) (fun i g11 hq => ?_)
        rotate_left
        · obtain ⟨_, _, _, _, hq⟩ := hq; cases hq
        obtain ⟨V12, _, m13, b14, hq⟩ := hq
        cases hq
        refine mj_T.eq (pc2 := 61) (st2 := []) ?_ rfl rfl rfl rfl
        refine mj_T.pl rfl rfl rfl rfl ?_
        refine mT_get m13 11 cq_d19 (by decide) rfl rfl ?_
        iterate 2 refine mj_T.pl rfl rfl rfl rfl ?_
        refine mj_T.call rfl rfl (Nat.le_of_ble_eq_true rfl) (Nat.le_of_ble_eq_true rfl) (mV_of m13 13 kp (by decide) rfl (by decide) rfl _) rfl (mj_Ok.up (by omega) (mP_at (D := 0) m13 kp (e := e) (by omega))) (fun v g15 hq => ?_) (fun i g15 hq => ?_)
        rotate_left
        · cases hq
        cases hq
        refine mj_T.eq (pc2 := 71) (st2 := [.ref (p + 4 + 2 * e), .ref 164]) ?_ rfl rfl rfl rfl
        refine mj_T.pl rfl rfl rfl rfl ?_
        refine mT_get m13 11 cq_d19 (by decide) rfl rfl ?_
        refine mj_T.call rfl rfl (Nat.le_of_ble_eq_true rfl) (Nat.le_of_ble_eq_true rfl) (mV_of m13 18 cq_d164 (by decide) rfl (by decide) rfl _) rfl (mj_Ok.up (by omega) (mF_95 (D := 0) m13 b14 fr_d164 (fr_part kp (by omega)) fr_d168)) (fun v g16 hq => ?_) (fun i g16 hq => ?_)
        rotate_left
        · obtain ⟨_, _, _, _, hq⟩ := hq; cases hq
        obtain ⟨V17, _, m18, b19, hq⟩ := hq
        cases hq
        refine mj_T.eq (pc2 := 78) (st2 := []) ?_ rfl rfl rfl rfl
        iterate 2 refine mj_T.pl rfl rfl rfl rfl ?_
        refine mj_T.call rfl rfl (Nat.le_of_ble_eq_true rfl) (Nat.le_of_ble_eq_true rfl) (mV_of m18 13 kp (by decide) rfl (by decide) rfl _) rfl (mj_Ok.up (by omega) (mP_at (D := 0) m18 kp (e := e) (by omega))) (fun v g20 hq => ?_) (fun i g20 hq => ?_)
        rotate_left
        · cases hq
        cases hq
        refine mj_T.eq (pc2 := 84) (st2 := [.ref (p + 4 + 2 * e)]) ?_ rfl rfl rfl rfl
        refine mj_T.pl rfl rfl rfl rfl ?_
        refine mT_get m18 11 cq_d19 (by decide) rfl rfl ?_
        refine mj_T.call rfl rfl (Nat.le_of_ble_eq_true rfl) (Nat.le_of_ble_eq_true rfl) (mV_of m18 18 ((mK_p kp).2.2.2 e (by omega)) (by decide) rfl (by decide) rfl _) rfl (mj_Ok.up (by omega) (mF_87 (D := 0) m18 b19 (fr_part kp (by omega)) fr_d164)) (fun v g21 hq => ?_) (fun i g21 hq => ?_)
        rotate_left
        · obtain ⟨_, _, _, _, hq⟩ := hq; cases hq
        obtain ⟨V22, _, m23, b24, hq⟩ := hq
        cases hq
        refine mj_T.eq (pc2 := 91) (st2 := []) ?_ rfl rfl rfl rfl
        refine mj_T.iinc rfl rfl ?_
        refine mj_T.eq (loc2 := [some (.ref 19), some (.ref p), some (.long (jl y)), none, some (.int (jn (((e : Nat) : Int) + (-1))))]) ?_ rfl rfl rfl rfl
        refine mj_T.pl rfl rfl rfl rfl ?_
        exact mZ_26_loop kp hy k _ (by omega) (by omega) _ _ m23 b24
theorem mZ_26 (m : jM g n V X h) (b : by0 V) {y d : Int} (kp : cK p = 13) (hy : jR y) (hd : X p 2 = d) (hd2 : -1 ≤ d ∧ d < cL (p + 3)) : mj_Ok (D + 3) 26 [.ref 19, .ref p, .long (jl y)] h (fun r => ∃ V2 h2, jM g n V2 X h2 ∧ by0 V2 ∧ r = (.inl none, h2)) := by
  have hbp := (mK_p kp).2.2.1
  refine mj_Ok.of (M := mj_m26) rfl rfl rfl ?_
  refine mj_T.pl rfl rfl rfl rfl ?_
  refine mT_get m 11 cq_d19 (by decide) rfl rfl ?_
  refine jT.lc 1 rfl rfl ?_
  refine mj_T.call rfl rfl (Nat.le_of_ble_eq_true rfl) (Nat.le_of_ble_eq_true rfl) (mV_of m 18 cq_d168 (by decide) rfl (by decide) rfl _) rfl (mj_Ok.up (by omega) (mF_86 (D := 0) m b fr_d168 ⟨by decide, by decide⟩)) (fun v g1 hq => ?_) (fun i g1 hq => ?_)
  rotate_left
  · obtain ⟨_, _, _, _, hq⟩ := hq; cases hq
  obtain ⟨V2, _, m3, b4, hq⟩ := hq
  cases hq
  refine mj_T.eq (pc2 := 8) (st2 := []) ?_ rfl rfl rfl rfl
  refine mj_T.pl rfl rfl rfl rfl ?_
  refine mT_get (v := .int (jn d)) m3 13 kp (by decide) rfl (congrArg (fun z : Int => some (Value.int (jn z))) (hd)) ?_
  refine mj_T.pl rfl rfl rfl rfl ?_
  refine mj_T.isub (a := d) (b := 1) rfl ?_
  refine mj_T.pl (loc' := [some (.ref 19), some (.ref p), some (.long (jl y)), none, some (.int (jn (d - 1)))]) rfl rfl rfl rfl ?_
  exact mZ_26_loop kp hy (d + 1).toNat _ (by omega) (by omega) _ _ m3 b4
theorem mZ_28_loop {a : Nat} (kp : cK p = 13) (fa : frW a) : ∀ (k : Nat) (i : Int), i < k → (-5 ≤ i ∧ i < cL (p + 3)) → ∀ (V1 : Nat → Int) (h1 : mj_H), jM g n V1 X h1 → by0 V1 → mj_T (D + 2) mj_m28 13 [some (.ref 19), some (.ref p), some (.ref a), some (.int (jn i))] [] h1 (fun r => ∃ (V2 : Nat → Int) (z : Int) (h2 : mj_H), jM g n V2 X h2 ∧ by0 V2 ∧ (-2147483648 ≤ z ∧ z ≤ 2147483647) ∧ r = (.inl (some (.int (jn z))), h2))
  | 0, i, hi, hi2, V1, h1, m, b => by
    have hbp := (mK_p kp).2.2.1
    refine mj_T.pl rfl rfl rfl rfl ?_
    refine mj_T.if0 (a := i) rfl ⟨by omega, by omega⟩ (fun c1 => ?_) (fun c1 => ?_)
    · simp only [jc, Bool.not_eq_true', Bool.not_eq_false', decide_eq_true_eq, decide_eq_false_iff_not] at c1
      refine mj_T.pl rfl rfl rfl rfl ?_
      refine mT_get m 11 cq_d19 (by decide) rfl rfl ?_
      refine mZ_sg m cq_d164 rfl (fun z2 rz2 => ?_)
      exact mj_T.ret rfl rfl rfl ⟨V1, _, _, m, b, rz2, rfl⟩
    · exfalso
      simp only [jc, Bool.not_eq_true', Bool.not_eq_false', decide_eq_true_eq, decide_eq_false_iff_not] at c1
      omega
  | k + 1, i, hi, hi2, V1, h1, m, b => by
    have hbp := (mK_p kp).2.2.1
    refine mj_T.pl rfl rfl rfl rfl ?_
    refine mj_T.if0 (a := i) rfl ⟨by omega, by omega⟩ (fun c1 => ?_) (fun c1 => ?_)
    · simp only [jc, Bool.not_eq_true', Bool.not_eq_false', decide_eq_true_eq, decide_eq_false_iff_not] at c1
      refine mj_T.pl rfl rfl rfl rfl ?_
      refine mT_get m 11 cq_d19 (by decide) rfl rfl ?_
      refine mZ_sg m cq_d164 rfl (fun z2 rz2 => ?_)
      exact mj_T.ret rfl rfl rfl ⟨V1, _, _, m, b, rz2, rfl⟩
    · simp only [jc, Bool.not_eq_true', Bool.not_eq_false', decide_eq_true_eq, decide_eq_false_iff_not] at c1
      obtain ⟨e, he⟩ : ∃ e : Nat, i = (e : Int) := ⟨(i : Int).toNat, by omega⟩
      subst he
      refine mj_T.pl rfl rfl rfl rfl ?_
      refine mT_get m 11 cq_d19 (by decide) rfl rfl ?_
      refine mj_T.pl rfl rfl rfl rfl ?_
      refine mT_get m 11 cq_d19 (by decide) rfl rfl ?_
      refine mj_T.pl rfl rfl rfl rfl ?_
      refine mj_T.call rfl rfl (Nat.le_of_ble_eq_true rfl) (Nat.le_of_ble_eq_true rfl) (mV_of m 18 cq_d166 (by decide) rfl (by decide) rfl _) rfl (mj_Ok.up (by omega) (mF_95 (D := 0) m b fr_d166 fr_d164 fa)) (fun v g3 hq => ?_) (fun i g3 hq => ?_)
      rotate_left
      · obtain ⟨_, _, _, _, hq⟩ := hq; cases hq
      obtain ⟨V4, _, m5, b6, hq⟩ := hq
      cases hq
      refine mj_T.eq (pc2 := 29) (st2 := []) ?_ rfl rfl rfl rfl
      refine mj_T.pl rfl rfl rfl rfl ?_
      refine mT_get m5 11 cq_d19 (by decide) rfl rfl ?_
      iterate 2 refine mj_T.pl rfl rfl rfl rfl ?_
      refine mj_T.call rfl rfl (Nat.le_of_ble_eq_true rfl) (Nat.le_of_ble_eq_true rfl) (mV_of m5 13 kp (by decide) rfl (by decide) rfl _) rfl (mj_Ok.up (by omega) (mP_at (D := 0) m5 kp (e := e) (by omega))) (fun v g7 hq => ?_) (fun i g7 hq => ?_)
      rotate_left
      · cases hq
      cases hq
      refine mj_T.eq (pc2 := 38) (st2 := [.ref (p + 4 + 2 * e), .ref 166]) ?_ rfl rfl rfl rfl
      refine mj_T.pl rfl rfl rfl rfl ?_
      refine mj_T.call rfl rfl (Nat.le_of_ble_eq_true rfl) (Nat.le_of_ble_eq_true rfl) (mV_of m5 18 cq_d166 (by decide) rfl (by decide) rfl _) rfl (mj_Ok.up (by omega) (mF_91 (D := 0) m5 b6 fr_d166 (fr_part kp (by omega)) (by omega))) (fun v g8 hq => ?_) (fun i g8 hq => ?_)
      rotate_left
      · obtain ⟨_, _, _, _, hq⟩ := hq; cases hq
      obtain ⟨V9, _, m10, b11, hq⟩ := hq
      cases hq
      refine mj_T.eq (pc2 := 42) (st2 := []) ?_ rfl rfl rfl rfl
      refine mj_T.pl rfl rfl rfl rfl ?_
      refine mT_get m10 11 cq_d19 (by decide) rfl rfl ?_
      refine mj_T.pl rfl rfl rfl rfl ?_
      refine mT_get m10 11 cq_d19 (by decide) rfl rfl ?_
      refine mj_T.call rfl rfl (Nat.le_of_ble_eq_true rfl) (Nat.le_of_ble_eq_true rfl) (mV_of m10 18 cq_d164 (by decide) rfl (by decide) rfl _) rfl (mj_Ok.up (by omega) (mF_87 (D := 0) m10 b11 fr_d164 fr_d166)) (fun v g12 hq => ?_) (fun i g12 hq => ?_)
      rotate_left
      · obtain ⟨_, _, _, _, hq⟩ := hq; cases hq
      obtain ⟨V13, _, m14, b15, hq⟩ := hq
      cases hq
      refine mj_T.eq (pc2 := 53) (st2 := []) ?_ rfl rfl rfl rfl
      refine mj_T.iinc rfl rfl ?_
      refine mj_T.eq (loc2 := [some (.ref 19), some (.ref p), some (.ref a), some (.int (jn (((e : Nat) : Int) + (-1))))]) ?_ rfl rfl rfl rfl
      refine mj_T.pl rfl rfl rfl rfl ?_
      exact mZ_28_loop kp fa k _ (by omega) (by omega) _ _ m14 b15
theorem mZ_28 (m : jM g n V X h) (b : by0 V) {a : Nat} {d : Int} (kp : cK p = 13) (fa : frW a) (hd : X p 2 = d) (hd2 : -1 ≤ d ∧ d < cL (p + 3)) : mj_Ok (D + 4) 28 [.ref 19, .ref p, .ref a] h (fun r => ∃ (V2 : Nat → Int) (z : Int) (h2 : mj_H), jM g n V2 X h2 ∧ by0 V2 ∧ (-2147483648 ≤ z ∧ z ≤ 2147483647) ∧ r = (.inl (some (.int (jn z))), h2)) := by
  have hbp := (mK_p kp).2.2.1
  refine mj_Ok.of (M := mj_m28) rfl rfl rfl ?_
  refine mj_T.pl rfl rfl rfl rfl ?_
  refine mT_get m 11 cq_d19 (by decide) rfl rfl ?_
  refine jT.lc 0 rfl rfl ?_
  refine mj_T.call rfl rfl (Nat.le_of_ble_eq_true rfl) (Nat.le_of_ble_eq_true rfl) (mV_of m 18 cq_d164 (by decide) rfl (by decide) rfl _) rfl (mj_Ok.up (by omega) (mF_86 (D := 0) m b fr_d164 jR_0)) (fun v g1 hq => ?_) (fun i g1 hq => ?_)
  rotate_left
  · obtain ⟨_, _, _, _, hq⟩ := hq; cases hq
  obtain ⟨V2, _, m3, b4, hq⟩ := hq
  cases hq
  refine mj_T.eq (pc2 := 8) (st2 := []) ?_ rfl rfl rfl rfl
  refine mj_T.pl rfl rfl rfl rfl ?_
  refine mT_get (v := .int (jn d)) m3 13 kp (by decide) rfl (congrArg (fun z : Int => some (Value.int (jn z))) (hd)) ?_
  refine mj_T.pl (loc' := [some (.ref 19), some (.ref p), some (.ref a), some (.int (jn d))]) rfl rfl rfl rfl ?_
  exact mZ_28_loop kp fa (d + 1).toNat _ (by omega) (by omega) _ _ m3 b4
end MLG
