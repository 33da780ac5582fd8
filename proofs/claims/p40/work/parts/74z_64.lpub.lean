/-! The class: calls that only read leave the benches. -/
def rjR (X : Nat → Nat → Int) : Prop := ∀ a, cK a = 2 → ∀ j, jR (X a j)
theorem rjR.deg {X : Nat → Nat → Int} (q : rjR X) {p i : Nat} {v : Int} (h : cK p = 13) : rjR (xup X p i v) := fun a ka j => by
  rw [xup_oth (fun e => by rw [e, h] at ka; cases ka)]
  exact q a ka j
theorem cq_2 : ((List.range 563).all (fun c => !(decide (cK c = 2)) || (decide (c < 180 ∨ 444 ≤ c)))) = true := by decide +kernel
theorem rjR.fx {X X1 : Nat → Nat → Int} (q : rjR X) (f : FX X X1) : rjR X1 := fun a ka j => by
  have h1 := jall cq_2 (cK_in (a := a) (by omega))
  simp only [ka, decide_true, Bool.not_true, Bool.false_or, decide_eq_true_eq] at h1
  rw [f a (by omega) (by omega) (by omega) h1]
  exact q a ka j
section MRP
variable {g h : mj_H} {n D u : Nat} {N : Nat → Int} {H : Nat → Nat → Int}
theorem pX_coefficient (hg : g.length ≤ n) (A : AS N u H) (s : cS g n N u H h) {a : Int} (ra : -2147483648 ≤ a ∧ a ≤ 2147483647) {e : Int} (re : -2147483648 ≤ e ∧ e ≤ 2147483647) : mj_Ok (D + 3) 122 [.ref 1, .int (jn a), .int (jn e)] h (rdL g n N u H) := by
  obtain ⟨V, X, m, b, d, c, jx⟩ := s.nr A
  have jx : rjR X := jx
  refine mj_Ok.of (M := mj_m122) rfl rfl rfl ?_
  iterate 2 refine mj_T.pl rfl rfl rfl rfl ?_
  refine mj_T.call rfl rfl (Nat.le_of_ble_eq_true rfl) (Nat.le_of_ble_eq_true rfl) (mV_of m 19 cq_d1 (by decide) rfl (by decide) rfl _) rfl (mj_Ok.up (by omega) (mC_rowOf (D := 0) m (i := a) (by omega))) (fun v g1 hq => ?_) (fun i g1 hq => ?_)
  rotate_left
  · rcases hq with ⟨_, hq⟩ | ⟨hn, hq⟩
    · cases hq
    · cases hq
      exact Or.inl ⟨rfl, Or.inr ⟨_, _, cS.thr hg m b d (c.sb (sBn.rf X)), rfl⟩⟩
  rcases hq with ⟨ka, hq⟩ | ⟨_, hq⟩
  rotate_left
  · cases hq
  cases hq
  refine mj_T.eq (pc2 := 5) (st2 := [.ref (4 + a.toNat)]) ?_ rfl rfl rfl rfl
  refine mj_T.pl (loc' := [some (.ref 1), some (.int (jn a)), some (.int (jn e)), some (.ref (4 + a.toNat))]) rfl rfl rfl rfl ?_
  refine mj_T.pl rfl rfl rfl rfl ?_
  refine mj_T.call rfl rfl (Nat.le_of_ble_eq_true rfl) (Nat.le_of_ble_eq_true rfl) rfl rfl (mj_Ok.up (by omega) (mC_exponent (D := 0) (i := e) (by omega))) (fun v g2 hq => ?_) (fun i g2 hq => ?_)
  rotate_left
  · rcases hq with ⟨_, hq⟩ | ⟨hn, hq⟩
    · cases hq
    · cases hq
      exact Or.inl ⟨rfl, Or.inr ⟨_, _, cS.thr hg m b d (c.sb (sBn.rf X)), rfl⟩⟩
  rcases hq with ⟨ke, hq⟩ | ⟨_, hq⟩
  rotate_left
  · cases hq
  cases hq
  refine mj_T.eq (pc2 := 10) (st2 := []) ?_ rfl rfl rfl rfl
  iterate 3 refine mj_T.pl rfl rfl rfl rfl ?_
  refine mT_lald m (mK_rt a.toNat (by omega)) rfl ⟨by omega, by omega⟩ ?_
  refine mj_T.call rfl rfl (Nat.le_of_ble_eq_true rfl) (Nat.le_of_ble_eq_true rfl) (mV_of m 19 cq_d1 (by decide) rfl (by decide) rfl _) rfl (mj_Ok.up (by omega) (mZ_158 (D := 0) m b (jx _ (mK_rt a.toNat (by omega)) _))) (fun v g3 hq => ?_) (fun i g3 hq => ?_)
  rotate_left
  · obtain ⟨_, _, _, _, _, _, hq⟩ := hq; cases hq
  obtain ⟨V4, z7, _, m5, b6, rz7, hq⟩ := hq
  cases hq
  refine mj_T.eq (pc2 := 17) (st2 := [.int (jn z7)]) ?_ rfl rfl rfl rfl
  exact mj_T.ret rfl rfl rfl (Or.inl ⟨_, _, ⟨_, _, m5, b6, d, (c.sb (sBn.rf X))⟩, rfl⟩)
theorem pX_content (hg : g.length ≤ n) (A : AS N u H) (s : cS g n N u H h) {a : Int} (ra : -2147483648 ≤ a ∧ a ≤ 2147483647) : mj_Ok (D + 3) 123 [.ref 1, .int (jn a)] h (rdL g n N u H) := by
  obtain ⟨V, X, m, b, d, c, jx⟩ := s.nr A
  have jx : rjR X := jx
  refine mj_Ok.of (M := mj_m123) rfl rfl rfl ?_
  iterate 3 refine mj_T.pl rfl rfl rfl rfl ?_
  refine mj_T.call rfl rfl (Nat.le_of_ble_eq_true rfl) (Nat.le_of_ble_eq_true rfl) (mV_of m 19 cq_d1 (by decide) rfl (by decide) rfl _) rfl (mj_Ok.up (by omega) (mC_rowOf (D := 0) m (i := a) (by omega))) (fun v g1 hq => ?_) (fun i g1 hq => ?_)
  rotate_left
  · rcases hq with ⟨_, hq⟩ | ⟨hn, hq⟩
    · cases hq
    · cases hq
      exact Or.inl ⟨rfl, Or.inr ⟨_, _, cS.thr hg m b d (c.sb (sBn.rf X)), rfl⟩⟩
  rcases hq with ⟨ka, hq⟩ | ⟨_, hq⟩
  rotate_left
  · cases hq
  cases hq
  refine mj_T.eq (pc2 := 6) (st2 := [.ref (4 + a.toNat), .ref 1]) ?_ rfl rfl rfl rfl
  refine mj_T.call rfl rfl (Nat.le_of_ble_eq_true rfl) (Nat.le_of_ble_eq_true rfl) rfl rfl (mj_Ok.up (by omega) (mS_cont (D := 0) m (mK_rt a.toNat (by omega)) ((c.sb (sBn.rf X)).sm A.1 ka))) (fun v g2 hq => ?_) (fun i g2 hq => ?_)
  rotate_left
  · cases hq
  cases hq
  have hcg : cgd (X (4 + a.toNat)) 13 ≤ 999999999999999999 := cgd_bd 13 ((c.sb (sBn.rf X)).sm A.1 ka)
  refine mj_T.eq (pc2 := 9) (st2 := [.long (jl ((cgd (X (4 + a.toNat)) 13 : Nat) : Int)), .ref 1]) ?_ rfl rfl rfl rfl
  refine mj_T.call rfl rfl (Nat.le_of_ble_eq_true rfl) (Nat.le_of_ble_eq_true rfl) (mV_of m 19 cq_d1 (by decide) rfl (by decide) rfl _) rfl (mj_Ok.up (by omega) (mZ_158 (D := 0) m b ⟨by omega, by omega⟩)) (fun v g3 hq => ?_) (fun i g3 hq => ?_)
  rotate_left
  · obtain ⟨_, _, _, _, _, _, hq⟩ := hq; cases hq
  obtain ⟨V4, z7, _, m5, b6, rz7, hq⟩ := hq
  cases hq
  refine mj_T.eq (pc2 := 12) (st2 := [.int (jn z7)]) ?_ rfl rfl rfl rfl
  exact mj_T.ret rfl rfl rfl (Or.inl ⟨_, _, ⟨_, _, m5, b6, d, (c.sb (sBn.rf X))⟩, rfl⟩)
theorem pX_value (hg : g.length ≤ n) (A : AS N u H) (s : cS g n N u H h) {a : Int} (ra : -2147483648 ≤ a ∧ a ≤ 2147483647) {f1 : Int} (rf1 : -2147483648 ≤ f1 ∧ f1 ≤ 2147483647) {f2 : Int} (rf2 : -2147483648 ≤ f2 ∧ f2 ≤ 2147483647) : mj_Ok (D + 6) 124 [.ref 1, .int (jn a), .int (jn f1), .int (jn f2)] h (rdL g n N u H) := by
  obtain ⟨V, X, m, b, d, c, jx⟩ := s.nr A
  have jx : rjR X := jx
  refine mj_Ok.of (M := mj_m124) rfl rfl rfl ?_
  iterate 2 refine mj_T.pl rfl rfl rfl rfl ?_
  refine mj_T.call rfl rfl (Nat.le_of_ble_eq_true rfl) (Nat.le_of_ble_eq_true rfl) (mV_of m 19 cq_d1 (by decide) rfl (by decide) rfl _) rfl (mj_Ok.up (by omega) (mC_rowOf (D := 0) m (i := a) (by omega))) (fun v g1 hq => ?_) (fun i g1 hq => ?_)
  rotate_left
  · rcases hq with ⟨_, hq⟩ | ⟨hn, hq⟩
    · cases hq
    · cases hq
      exact Or.inl ⟨rfl, Or.inr ⟨_, _, cS.thr hg m b d (c.sb (sBn.rf X)), rfl⟩⟩
  rcases hq with ⟨ka, hq⟩ | ⟨_, hq⟩
  rotate_left
  · cases hq
  cases hq
  refine mj_T.eq (pc2 := 5) (st2 := [.ref (4 + a.toNat)]) ?_ rfl rfl rfl rfl
  refine mj_T.pl (loc' := [some (.ref 1), some (.int (jn a)), some (.int (jn f1)), some (.int (jn f2)), some (.ref (4 + a.toNat))]) rfl rfl rfl rfl ?_
  iterate 2 refine mj_T.pl rfl rfl rfl rfl ?_
  refine mj_T.call rfl rfl (Nat.le_of_ble_eq_true rfl) (Nat.le_of_ble_eq_true rfl) rfl rfl (mj_Ok.up (by omega) (mC_fraction (D := 0) (i := f1) (j := f2) (by omega) (by omega))) (fun v g2 hq => ?_) (fun i g2 hq => ?_)
  rotate_left
  · rcases hq with ⟨_, hq⟩ | ⟨hn, hq⟩
    · cases hq
    · cases hq
      exact Or.inl ⟨rfl, Or.inr ⟨_, _, cS.thr hg m b d (c.sb (sBn.rf X)), rfl⟩⟩
  rcases hq with ⟨kff1, hq⟩ | ⟨_, hq⟩
  rotate_left
  · cases hq
  cases hq
  refine mj_T.eq (pc2 := 12) (st2 := []) ?_ rfl rfl rfl rfl
  refine mj_T.pl rfl rfl rfl rfl ?_
  refine mT_get m 19 cq_d1 (by decide) rfl rfl ?_
  iterate 3 refine mj_T.pl rfl rfl rfl rfl ?_
  refine mj_T.call rfl rfl (Nat.le_of_ble_eq_true rfl) (Nat.le_of_ble_eq_true rfl) (mV_of m 11 cq_d19 (by decide) rfl (by decide) rfl _) rfl (mj_Ok.up (by omega) (mZ_27 (D := 0) m b (mK_rt a.toNat (by omega)) (jx _ (mK_rt a.toNat (by omega))) (x := f1) (y := f2) ⟨by omega, by omega⟩ ⟨by omega, by omega⟩)) (fun v g3 hq => ?_) (fun i g3 hq => ?_)
  rotate_left
  · obtain ⟨_, _, _, _, _, _, _, _, hq⟩ := hq; cases hq
  obtain ⟨V4, e7, z8, _, m5, b6, he7, rz8, hq⟩ := hq
  cases hq
  refine mj_T.eq (pc2 := 23) (st2 := [.int (jn z8)]) ?_ rfl rfl rfl rfl
  iterate 3 refine mj_T.pl rfl rfl rfl rfl ?_
  refine mT_get m5 19 cq_d1 (by decide) rfl rfl ?_
  refine mT_get m5 11 cq_d19 (by decide) rfl rfl ?_
  refine mj_T.pl rfl rfl rfl rfl ?_
  refine mj_T.i2l rfl ⟨by omega, by omega⟩ ?_
  refine mj_T.pl rfl rfl rfl rfl ?_
  refine mj_T.call rfl rfl (Nat.le_of_ble_eq_true rfl) (Nat.le_of_ble_eq_true rfl) rfl rfl (mj_Ok.up (by omega) (mS_deg (D := 0) m5 (mK_rt a.toNat (by omega)) ((c.sb ((sBn.rf X).tr (sBn.deg cq_d80))).sm A.1 ka))) (fun v g9 hq => ?_) (fun i g9 hq => ?_)
  rotate_left
  · cases hq
  cases hq
  have ga := fdg_le ((xup X 80 2 e7) (4 + a.toNat)) 13
  refine mj_T.eq (pc2 := 39) (st2 := [.int (jn (((fdg ((xup X 80 2 e7) (4 + a.toNat)) 13) : Int) - 1)), .long (jl f2), .ref 164, .ref 1]) ?_ rfl rfl rfl rfl
  refine mj_T.call rfl rfl (Nat.le_of_ble_eq_true rfl) (Nat.le_of_ble_eq_true rfl) (mV_of m5 19 cq_d1 (by decide) rfl (by decide) rfl _) rfl (mj_Ok.up (by omega) (mZ_159 (D := 0) m5 b6 fr_d164 ⟨by omega, by omega⟩ ⟨by omega, by omega⟩)) (fun v g10 hq => ?_) (fun i g10 hq => ?_)
  rotate_left
  · obtain ⟨_, _, _, _, _, _, hq⟩ := hq; cases hq
  obtain ⟨V11, z14, _, m12, b13, rz14, hq⟩ := hq
  cases hq
  refine mj_T.eq (pc2 := 42) (st2 := [.int (jn z14)]) ?_ rfl rfl rfl rfl
  exact mj_T.ret rfl rfl rfl (Or.inl ⟨_, _, ⟨_, _, m12, b13, (d.deg he7), (c.sb ((sBn.rf X).tr (sBn.deg cq_d80)))⟩, rfl⟩)
theorem pX_divides (hg : g.length ≤ n) (A : AS N u H) (s : cS g n N u H h) {a : Int} (ra : -2147483648 ≤ a ∧ a ≤ 2147483647) {a2 : Int} (ra2 : -2147483648 ≤ a2 ∧ a2 ≤ 2147483647) : mj_Ok (D + 6) 125 [.ref 1, .int (jn a), .int (jn a2)] h (rdL g n N u H) := by
  obtain ⟨V, X, m, b, d, c, jx⟩ := s.nr A
  have jx : rjR X := jx
  refine mj_Ok.of (M := mj_m125) rfl rfl rfl ?_
  iterate 2 refine mj_T.pl rfl rfl rfl rfl ?_
  refine mj_T.call rfl rfl (Nat.le_of_ble_eq_true rfl) (Nat.le_of_ble_eq_true rfl) (mV_of m 19 cq_d1 (by decide) rfl (by decide) rfl _) rfl (mj_Ok.up (by omega) (mC_rowOf (D := 0) m (i := a) (by omega))) (fun v g1 hq => ?_) (fun i g1 hq => ?_)
  rotate_left
  · rcases hq with ⟨_, hq⟩ | ⟨hn, hq⟩
    · cases hq
    · cases hq
      exact Or.inl ⟨rfl, Or.inr ⟨_, _, cS.thr hg m b d (c.sb (sBn.rf X)), rfl⟩⟩
  rcases hq with ⟨ka, hq⟩ | ⟨_, hq⟩
  rotate_left
  · cases hq
  cases hq
  refine mj_T.eq (pc2 := 5) (st2 := [.ref (4 + a.toNat)]) ?_ rfl rfl rfl rfl
  refine mj_T.pl (loc' := [some (.ref 1), some (.int (jn a)), some (.int (jn a2)), some (.ref (4 + a.toNat)), none]) rfl rfl rfl rfl ?_
  iterate 2 refine mj_T.pl rfl rfl rfl rfl ?_
  refine mj_T.call rfl rfl (Nat.le_of_ble_eq_true rfl) (Nat.le_of_ble_eq_true rfl) (mV_of m 19 cq_d1 (by decide) rfl (by decide) rfl _) rfl (mj_Ok.up (by omega) (mC_rowOf (D := 0) m (i := a2) (by omega))) (fun v g2 hq => ?_) (fun i g2 hq => ?_)
  rotate_left
  · rcases hq with ⟨_, hq⟩ | ⟨hn, hq⟩
    · cases hq
    · cases hq
      exact Or.inl ⟨rfl, Or.inr ⟨_, _, cS.thr hg m b d (c.sb (sBn.rf X)), rfl⟩⟩
  rcases hq with ⟨ka2, hq⟩ | ⟨_, hq⟩
  rotate_left
  · cases hq
  cases hq
  refine mj_T.eq (pc2 := 11) (st2 := [.ref (4 + a2.toNat)]) ?_ rfl rfl rfl rfl
  refine mj_T.pl (loc' := [some (.ref 1), some (.int (jn a)), some (.int (jn a2)), some (.ref (4 + a.toNat)), some (.ref (4 + a2.toNat))]) rfl rfl rfl rfl ?_
  refine mj_T.pl rfl rfl rfl rfl ?_
  refine mT_get m 19 cq_d1 (by decide) rfl rfl ?_
  iterate 2 refine mj_T.pl rfl rfl rfl rfl ?_
  refine mj_T.call rfl rfl (Nat.le_of_ble_eq_true rfl) (Nat.le_of_ble_eq_true rfl) (mV_of m 11 cq_d19 (by decide) rfl (by decide) rfl _) rfl (mj_Ok.up (by omega) (mZ_18 (D := 0) m b d (mK_rt a2.toNat (by omega)) (mK_rt a.toNat (by omega)) (jx _ (mK_rt a2.toNat (by omega))) (jx _ (mK_rt a.toNat (by omega))) (by omega) (by omega))) (fun v g3 hq => ?_) (fun i g3 hq => ?_)
  rotate_left
  · obtain ⟨_, _, _, _, _, _, _, _, _, hq⟩ := hq; cases hq
  obtain ⟨V4, X7, z10, _, m5, b6, d8, s9, rz10, hq⟩ := hq
  cases hq
  refine mj_T.eq (pc2 := 23) (st2 := [.int (jn z10)]) ?_ rfl rfl rfl rfl
  rcases rz10 with rfl | rfl
  · exact mj_T.ret rfl rfl rfl (Or.inl ⟨_, _, ⟨_, _, m5, b6, d8, (c.sb ((sBn.rf X).tr s9))⟩, rfl⟩)
  · exact mj_T.ret rfl rfl rfl (Or.inl ⟨_, _, ⟨_, _, m5, b6, d8, (c.sb ((sBn.rf X).tr s9))⟩, rfl⟩)
theorem pX_realRoots (hg : g.length ≤ n) (A : AS N u H) (s : cS g n N u H h) {a : Int} (ra : -2147483648 ≤ a ∧ a ≤ 2147483647) : mj_Ok (D + 8) 131 [.ref 1, .int (jn a)] h (rdL g n N u H) := by
  obtain ⟨V, X, m, b, d, c, jx⟩ := s.nr A
  have jx : rjR X := jx
  refine mj_Ok.of (M := mj_m131) rfl rfl rfl ?_
  iterate 2 refine mj_T.pl rfl rfl rfl rfl ?_
  refine mj_T.call rfl rfl (Nat.le_of_ble_eq_true rfl) (Nat.le_of_ble_eq_true rfl) (mV_of m 19 cq_d1 (by decide) rfl (by decide) rfl _) rfl (mj_Ok.up (by omega) (mC_rowOf (D := 0) m (i := a) (by omega))) (fun v g1 hq => ?_) (fun i g1 hq => ?_)
  rotate_left
  · rcases hq with ⟨_, hq⟩ | ⟨hn, hq⟩
    · cases hq
    · cases hq
      exact Or.inl ⟨rfl, Or.inr ⟨_, _, cS.thr hg m b d (c.sb (sBn.rf X)), rfl⟩⟩
  rcases hq with ⟨ka, hq⟩ | ⟨_, hq⟩
  rotate_left
  · cases hq
  cases hq
  refine mj_T.eq (pc2 := 5) (st2 := [.ref (4 + a.toNat)]) ?_ rfl rfl rfl rfl
  refine mj_T.pl (loc' := [some (.ref 1), some (.int (jn a)), some (.ref (4 + a.toNat))]) rfl rfl rfl rfl ?_
  refine mj_T.pl rfl rfl rfl rfl ?_
  refine mj_T.call rfl rfl (Nat.le_of_ble_eq_true rfl) (Nat.le_of_ble_eq_true rfl) rfl rfl (mj_Ok.up (by omega) (mC_zero (D := 0) m (mK_rt a.toNat (by omega)) ((c.sb (sBn.rf X)).sm A.1 ka))) (fun v g2 hq => ?_) (fun i g2 hq => ?_)
  rotate_left
  · rcases hq with ⟨_, hq⟩ | ⟨hn, hq⟩
    · cases hq
    · cases hq
      exact Or.inl ⟨rfl, Or.inr ⟨_, _, cS.thr hg m b d (c.sb (sBn.rf X)), rfl⟩⟩
  rcases hq with ⟨kz, hq⟩ | ⟨_, hq⟩
  rotate_left
  · cases hq
  cases hq
  refine mj_T.eq (pc2 := 10) (st2 := []) ?_ rfl rfl rfl rfl
  refine mj_T.pl rfl rfl rfl rfl ?_
  refine mT_get m 19 cq_d1 (by decide) rfl rfl ?_
  iterate 2 refine mj_T.pl rfl rfl rfl rfl ?_
  refine mj_T.call rfl rfl (Nat.le_of_ble_eq_true rfl) (Nat.le_of_ble_eq_true rfl) rfl rfl (mj_Ok.up (by omega) (mS_cont (D := 0) m (mK_rt a.toNat (by omega)) ((c.sb (sBn.rf X)).sm A.1 ka))) (fun v g3 hq => ?_) (fun i g3 hq => ?_)
  rotate_left
  · cases hq
  cases hq
  have hcg : cgd (X (4 + a.toNat)) 13 ≤ 999999999999999999 := cgd_bd 13 ((c.sb (sBn.rf X)).sm A.1 ka)
  refine mj_T.eq (pc2 := 19) (st2 := [.long (jl ((cgd (X (4 + a.toNat)) 13 : Nat) : Int)), .ref (4 + a.toNat), .ref 172]) ?_ rfl rfl rfl rfl
  refine mj_T.call rfl rfl (Nat.le_of_ble_eq_true rfl) (Nat.le_of_ble_eq_true rfl) (mV_of m 16 cq_d172 (by decide) rfl (by decide) rfl _) rfl (mj_Ok.up (by omega) (mZ_68 (D := 0) m b d (mK_rt a.toNat (by omega)) ⟨by omega, by omega⟩ (jx _ (mK_rt a.toNat (by omega))))) (fun v g4 hq => ?_) (fun i g4 hq => ?_)
  rotate_left
  · obtain ⟨_, _, _, _, _, _, _, hq⟩ := hq; cases hq
  obtain ⟨V5, X8, _, m6, b7, f9, d10, hq⟩ := hq
  cases hq
  refine mj_T.eq (pc2 := 22) (st2 := []) ?_ rfl rfl rfl rfl
  refine mj_T.pl rfl rfl rfl rfl ?_
  refine mT_get m6 19 cq_d1 (by decide) rfl rfl ?_
  refine mj_T.pl rfl rfl rfl rfl ?_
  refine mj_T.call rfl rfl (Nat.le_of_ble_eq_true rfl) (Nat.le_of_ble_eq_true rfl) (mV_of m6 16 cq_d172 (by decide) rfl (by decide) rfl _) rfl (mj_Ok.up (by omega) (mZ_77 (D := 0) m6 d10 (s := (-1)) ⟨by omega, by omega⟩)) (fun v g11 hq => ?_) (fun i g11 hq => ?_)
  rotate_left
  · obtain ⟨_, _, hq⟩ := hq; cases hq
  obtain ⟨z12, rz12, hq⟩ := hq
  cases hq
  refine mj_T.eq (pc2 := 30) (st2 := [.int (jn z12)]) ?_ rfl rfl rfl rfl
  refine mj_T.pl rfl rfl rfl rfl ?_
  refine mT_get m6 19 cq_d1 (by decide) rfl rfl ?_
  refine mj_T.pl rfl rfl rfl rfl ?_
  refine mj_T.call rfl rfl (Nat.le_of_ble_eq_true rfl) (Nat.le_of_ble_eq_true rfl) (mV_of m6 16 cq_d172 (by decide) rfl (by decide) rfl _) rfl (mj_Ok.up (by omega) (mZ_77 (D := 0) m6 d10 (s := 1) ⟨by omega, by omega⟩)) (fun v g13 hq => ?_) (fun i g13 hq => ?_)
  rotate_left
  · obtain ⟨_, _, hq⟩ := hq; cases hq
  obtain ⟨z14, rz14, hq⟩ := hq
  cases hq
  refine mj_T.eq (pc2 := 38) (st2 := [.int (jn z14), .int (jn z12)]) ?_ rfl rfl rfl rfl
  refine mj_T.isub (a := z12) (b := z14) rfl ?_
  exact mj_T.ret rfl rfl rfl (Or.inl ⟨_, _, ⟨_, _, m6, b7, d10, (c.sb ((sBn.rf X).tr (sBn.fx f9)))⟩, rfl⟩)
theorem pX_rootsBetween (hg : g.length ≤ n) (A : AS N u H) (s : cS g n N u H h) {a : Int} (ra : -2147483648 ≤ a ∧ a ≤ 2147483647) {f1 : Int} (rf1 : -2147483648 ≤ f1 ∧ f1 ≤ 2147483647) {f2 : Int} (rf2 : -2147483648 ≤ f2 ∧ f2 ≤ 2147483647) {f3 : Int} (rf3 : -2147483648 ≤ f3 ∧ f3 ≤ 2147483647) {f4 : Int} (rf4 : -2147483648 ≤ f4 ∧ f4 ≤ 2147483647) : mj_Ok (D + 8) 132 [.ref 1, .int (jn a), .int (jn f1), .int (jn f2), .int (jn f3), .int (jn f4)] h (rdL g n N u H) := by
  obtain ⟨V, X, m, b, d, c, jx⟩ := s.nr A
  have jx : rjR X := jx
  refine mj_Ok.of (M := mj_m132) rfl rfl rfl ?_
  iterate 2 refine mj_T.pl rfl rfl rfl rfl ?_
  refine mj_T.call rfl rfl (Nat.le_of_ble_eq_true rfl) (Nat.le_of_ble_eq_true rfl) (mV_of m 19 cq_d1 (by decide) rfl (by decide) rfl _) rfl (mj_Ok.up (by omega) (mC_rowOf (D := 0) m (i := a) (by omega))) (fun v g1 hq => ?_) (fun i g1 hq => ?_)
  rotate_left
  · rcases hq with ⟨_, hq⟩ | ⟨hn, hq⟩
    · cases hq
    · cases hq
      exact Or.inl ⟨rfl, Or.inr ⟨_, _, cS.thr hg m b d (c.sb (sBn.rf X)), rfl⟩⟩
  rcases hq with ⟨ka, hq⟩ | ⟨_, hq⟩
  rotate_left
  · cases hq
  cases hq
  refine mj_T.eq (pc2 := 5) (st2 := [.ref (4 + a.toNat)]) ?_ rfl rfl rfl rfl
  refine mj_T.pl (loc' := [some (.ref 1), some (.int (jn a)), some (.int (jn f1)), some (.int (jn f2)), some (.int (jn f3)), some (.int (jn f4)), some (.ref (4 + a.toNat))]) rfl rfl rfl rfl ?_
  iterate 2 refine mj_T.pl rfl rfl rfl rfl ?_
  refine mj_T.call rfl rfl (Nat.le_of_ble_eq_true rfl) (Nat.le_of_ble_eq_true rfl) rfl rfl (mj_Ok.up (by omega) (mC_fraction (D := 0) (i := f1) (j := f2) (by omega) (by omega))) (fun v g2 hq => ?_) (fun i g2 hq => ?_)
  rotate_left
  · rcases hq with ⟨_, hq⟩ | ⟨hn, hq⟩
    · cases hq
    · cases hq
      exact Or.inl ⟨rfl, Or.inr ⟨_, _, cS.thr hg m b d (c.sb (sBn.rf X)), rfl⟩⟩
  rcases hq with ⟨kff1, hq⟩ | ⟨_, hq⟩
  rotate_left
  · cases hq
  cases hq
  refine mj_T.eq (pc2 := 12) (st2 := []) ?_ rfl rfl rfl rfl
  iterate 2 refine mj_T.pl rfl rfl rfl rfl ?_
  refine mj_T.call rfl rfl (Nat.le_of_ble_eq_true rfl) (Nat.le_of_ble_eq_true rfl) rfl rfl (mj_Ok.up (by omega) (mC_fraction (D := 0) (i := f3) (j := f4) (by omega) (by omega))) (fun v g3 hq => ?_) (fun i g3 hq => ?_)
  rotate_left
  · rcases hq with ⟨_, hq⟩ | ⟨hn, hq⟩
    · cases hq
    · cases hq
      exact Or.inl ⟨rfl, Or.inr ⟨_, _, cS.thr hg m b d (c.sb (sBn.rf X)), rfl⟩⟩
  rcases hq with ⟨kff3, hq⟩ | ⟨_, hq⟩
  rotate_left
  · cases hq
  cases hq
  refine mj_T.eq (pc2 := 19) (st2 := []) ?_ rfl rfl rfl rfl
  iterate 2 refine mj_T.pl rfl rfl rfl rfl ?_
  refine mj_T.imul (a := f1) (b := f4) rfl ?_
  refine jT.anyI (fun z4 rz4 => ?_)
  iterate 2 refine mj_T.pl rfl rfl rfl rfl ?_
  refine mj_T.imul (a := f3) (b := f2) rfl ?_
  refine jT.anyI (fun z5 rz5 => ?_)
  refine mj_T.icmp (a := z4) (b := z5) rfl ⟨by omega, by omega⟩ ⟨by omega, by omega⟩ (fun c6 => ?_) (fun c6 => ?_)
  · simp only [jc, Bool.not_eq_true', Bool.not_eq_false', decide_eq_true_eq, decide_eq_false_iff_not] at c6
    refine mj_T.pl rfl rfl rfl rfl ?_
    refine mj_T.call rfl rfl (Nat.le_of_ble_eq_true rfl) (Nat.le_of_ble_eq_true rfl) rfl rfl (mj_Ok.up (by omega) (mC_zero (D := 0) m (mK_rt a.toNat (by omega)) ((c.sb (sBn.rf X)).sm A.1 ka))) (fun v g7 hq => ?_) (fun i g7 hq => ?_)
    rotate_left
    · rcases hq with ⟨_, hq⟩ | ⟨hn, hq⟩
      · cases hq
      · cases hq
        exact Or.inl ⟨rfl, Or.inr ⟨_, _, cS.thr hg m b d (c.sb (sBn.rf X)), rfl⟩⟩
    rcases hq with ⟨kz, hq⟩ | ⟨_, hq⟩
    rotate_left
    · cases hq
    cases hq
    refine mj_T.eq (pc2 := 43) (st2 := []) ?_ rfl rfl rfl rfl
    refine mj_T.pl rfl rfl rfl rfl ?_
    refine mT_get m 19 cq_d1 (by decide) rfl rfl ?_
    iterate 3 refine mj_T.pl rfl rfl rfl rfl ?_
    refine mj_T.call rfl rfl (Nat.le_of_ble_eq_true rfl) (Nat.le_of_ble_eq_true rfl) (mV_of m 11 cq_d19 (by decide) rfl (by decide) rfl _) rfl (mj_Ok.up (by omega) (mZ_27 (D := 0) m b (mK_rt a.toNat (by omega)) (jx _ (mK_rt a.toNat (by omega))) (x := f1) (y := f2) ⟨by omega, by omega⟩ ⟨by omega, by omega⟩)) (fun v g8 hq => ?_) (fun i g8 hq => ?_)
    rotate_left
    · obtain ⟨_, _, _, _, _, _, _, _, hq⟩ := hq; cases hq
    obtain ⟨V9, e12, z13, _, m10, b11, he12, rz13, hq⟩ := hq
    cases hq
    refine mj_T.eq (pc2 := 54) (st2 := [.int (jn z13)]) ?_ rfl rfl rfl rfl
    refine mj_T.if0 (a := z13) rfl ⟨by omega, by omega⟩ (fun c14 => ?_) (fun c14 => ?_)
    · simp only [jc, Bool.not_eq_true', Bool.not_eq_false', decide_eq_true_eq, decide_eq_false_iff_not] at c14
      exact mj_T.throws rfl rfl rfl (Nat.le_of_ble_eq_true rfl) (Or.inr ⟨_, _, cS.thr hg m10 b11 (d.deg he12) (c.sb ((sBn.rf X).tr (sBn.deg cq_d80))), rfl⟩)
    · simp only [jc, Bool.not_eq_true', Bool.not_eq_false', decide_eq_true_eq, decide_eq_false_iff_not] at c14
      refine mj_T.pl rfl rfl rfl rfl ?_
      refine mT_get m10 19 cq_d1 (by decide) rfl rfl ?_
      iterate 3 refine mj_T.pl rfl rfl rfl rfl ?_
      refine mj_T.call rfl rfl (Nat.le_of_ble_eq_true rfl) (Nat.le_of_ble_eq_true rfl) (mV_of m10 11 cq_d19 (by decide) rfl (by decide) rfl _) rfl (mj_Ok.up (by omega) (mZ_27 (D := 0) m10 b11 (mK_rt a.toNat (by omega)) ((rjR.deg jx cq_d80) _ (mK_rt a.toNat (by omega))) (x := f3) (y := f4) ⟨by omega, by omega⟩ ⟨by omega, by omega⟩)) (fun v g15 hq => ?_) (fun i g15 hq => ?_)
      rotate_left
      · obtain ⟨_, _, _, _, _, _, _, _, hq⟩ := hq; cases hq
      obtain ⟨V16, e19, z20, _, m17, b18, he19, rz20, hq⟩ := hq
      cases hq
      refine mj_T.eq (pc2 := 70) (st2 := [.int (jn z20)]) ?_ rfl rfl rfl rfl
      refine mj_T.if0 (a := z20) rfl ⟨by omega, by omega⟩ (fun c21 => ?_) (fun c21 => ?_)
      · simp only [jc, Bool.not_eq_true', Bool.not_eq_false', decide_eq_true_eq, decide_eq_false_iff_not] at c21
        refine mj_T.pl rfl rfl rfl rfl ?_
        refine mT_get m17 19 cq_d1 (by decide) rfl rfl ?_
        iterate 2 refine mj_T.pl rfl rfl rfl rfl ?_
        refine mj_T.call rfl rfl (Nat.le_of_ble_eq_true rfl) (Nat.le_of_ble_eq_true rfl) rfl rfl (mj_Ok.up (by omega) (mS_cont (D := 0) m17 (mK_rt a.toNat (by omega)) ((c.sb (((sBn.rf X).tr (sBn.deg cq_d80)).tr (sBn.deg cq_d80))).sm A.1 ka))) (fun v g22 hq => ?_) (fun i g22 hq => ?_)
        rotate_left
        · cases hq
        cases hq
        have hcg : cgd ((xup (xup X 80 2 e12) 80 2 e19) (4 + a.toNat)) 13 ≤ 999999999999999999 := cgd_bd 13 ((c.sb (((sBn.rf X).tr (sBn.deg cq_d80)).tr (sBn.deg cq_d80))).sm A.1 ka)
        refine mj_T.eq (pc2 := 92) (st2 := [.long (jl ((cgd ((xup (xup X 80 2 e12) 80 2 e19) (4 + a.toNat)) 13 : Nat) : Int)), .ref (4 + a.toNat), .ref 172]) ?_ rfl rfl rfl rfl
        refine mj_T.call rfl rfl (Nat.le_of_ble_eq_true rfl) (Nat.le_of_ble_eq_true rfl) (mV_of m17 16 cq_d172 (by decide) rfl (by decide) rfl _) rfl (mj_Ok.up (by omega) (mZ_68 (D := 0) m17 b18 ((d.deg he12).deg he19) (mK_rt a.toNat (by omega)) ⟨by omega, by omega⟩ ((rjR.deg (rjR.deg jx cq_d80) cq_d80) _ (mK_rt a.toNat (by omega))))) (fun v g23 hq => ?_) (fun i g23 hq => ?_)
        rotate_left
        · obtain ⟨_, _, _, _, _, _, _, hq⟩ := hq; cases hq
        obtain ⟨V24, X27, _, m25, b26, f28, d29, hq⟩ := hq
        cases hq
        refine mj_T.eq (pc2 := 95) (st2 := []) ?_ rfl rfl rfl rfl
        refine mj_T.pl rfl rfl rfl rfl ?_
        refine mT_get m25 19 cq_d1 (by decide) rfl rfl ?_
        iterate 2 refine mj_T.pl rfl rfl rfl rfl ?_
        refine mj_T.imul (a := f2) (b := f4) rfl ?_
        refine jT.anyI (fun z30 rz30 => ?_)
        refine mj_T.i2l rfl ⟨by omega, by omega⟩ ?_
        refine mj_T.call rfl rfl (Nat.le_of_ble_eq_true rfl) (Nat.le_of_ble_eq_true rfl) (mV_of m25 16 cq_d172 (by decide) rfl (by decide) rfl _) rfl (mj_Ok.up (by omega) (mZ_74 (D := 0) m25 b26 d29 ⟨by omega, by omega⟩)) (fun v g31 hq => ?_) (fun i g31 hq => ?_)
        rotate_left
        · obtain ⟨_, _, _, _, hq⟩ := hq; cases hq
        obtain ⟨V32, _, m33, b34, hq⟩ := hq
        cases hq
        refine mj_T.eq (pc2 := 107) (st2 := []) ?_ rfl rfl rfl rfl
        refine mj_T.pl rfl rfl rfl rfl ?_
        refine mT_get m33 19 cq_d1 (by decide) rfl rfl ?_
        iterate 2 refine mj_T.pl rfl rfl rfl rfl ?_
        refine mj_T.imul (a := f1) (b := f4) rfl ?_
        refine jT.anyI (fun z35 rz35 => ?_)
        refine mj_T.i2l rfl ⟨by omega, by omega⟩ ?_
        refine mj_T.call rfl rfl (Nat.le_of_ble_eq_true rfl) (Nat.le_of_ble_eq_true rfl) (mV_of m33 16 cq_d172 (by decide) rfl (by decide) rfl _) rfl (mj_Ok.up (by omega) (mZ_75 (D := 0) m33 b34 d29 ⟨by omega, by omega⟩)) (fun v g36 hq => ?_) (fun i g36 hq => ?_)
        rotate_left
        · obtain ⟨_, _, _, _, _, _, hq⟩ := hq; cases hq
        obtain ⟨V37, z40, _, m38, b39, rz40, hq⟩ := hq
        cases hq
        refine mj_T.eq (pc2 := 119) (st2 := [.int (jn z40)]) ?_ rfl rfl rfl rfl
        refine mj_T.pl rfl rfl rfl rfl ?_
        refine mT_get m38 19 cq_d1 (by decide) rfl rfl ?_
        iterate 2 refine mj_T.pl rfl rfl rfl rfl ?_
        refine mj_T.imul (a := f3) (b := f2) rfl ?_
        refine jT.anyI (fun z41 rz41 => ?_)
        refine mj_T.i2l rfl ⟨by omega, by omega⟩ ?_
        refine mj_T.call rfl rfl (Nat.le_of_ble_eq_true rfl) (Nat.le_of_ble_eq_true rfl) (mV_of m38 16 cq_d172 (by decide) rfl (by decide) rfl _) rfl (mj_Ok.up (by omega) (mZ_75 (D := 0) m38 b39 d29 ⟨by omega, by omega⟩)) (fun v g42 hq => ?_) (fun i g42 hq => ?_)
        rotate_left
        · obtain ⟨_, _, _, _, _, _, hq⟩ := hq; cases hq
        obtain ⟨V43, z46, _, m44, b45, rz46, hq⟩ := hq
        cases hq
        refine mj_T.eq (pc2 := 131) (st2 := [.int (jn z46), .int (jn z40)]) ?_ rfl rfl rfl rfl
        refine mj_T.isub (a := z40) (b := z46) rfl ?_
        exact mj_T.ret rfl rfl rfl (Or.inl ⟨_, _, ⟨_, _, m44, b45, d29, (c.sb ((((sBn.rf X).tr (sBn.deg cq_d80)).tr (sBn.deg cq_d80)).tr (sBn.fx f28)))⟩, rfl⟩)
      · simp only [jc, Bool.not_eq_true', Bool.not_eq_false', decide_eq_true_eq, decide_eq_false_iff_not] at c21
        exact mj_T.throws rfl rfl rfl (Nat.le_of_ble_eq_true rfl) (Or.inr ⟨_, _, cS.thr hg m17 b18 ((d.deg he12).deg he19) (c.sb (((sBn.rf X).tr (sBn.deg cq_d80)).tr (sBn.deg cq_d80))), rfl⟩)
  · simp only [jc, Bool.not_eq_true', Bool.not_eq_false', decide_eq_true_eq, decide_eq_false_iff_not] at c6
    exact mj_T.throws rfl rfl rfl (Nat.le_of_ble_eq_true rfl) (Or.inr ⟨_, _, cS.thr hg m b d (c.sb (sBn.rf X)), rfl⟩)
theorem pX_sturmLength (hg : g.length ≤ n) (A : AS N u H) (s : cS g n N u H h) {a : Int} (ra : -2147483648 ≤ a ∧ a ≤ 2147483647) : mj_Ok (D + 8) 133 [.ref 1, .int (jn a)] h (rdL g n N u H) := by
  obtain ⟨V, X, m, b, d, c, jx⟩ := s.nr A
  have jx : rjR X := jx
  refine mj_Ok.of (M := mj_m133) rfl rfl rfl ?_
  iterate 2 refine mj_T.pl rfl rfl rfl rfl ?_
  refine mj_T.call rfl rfl (Nat.le_of_ble_eq_true rfl) (Nat.le_of_ble_eq_true rfl) (mV_of m 19 cq_d1 (by decide) rfl (by decide) rfl _) rfl (mj_Ok.up (by omega) (mC_rowOf (D := 0) m (i := a) (by omega))) (fun v g1 hq => ?_) (fun i g1 hq => ?_)
  rotate_left
  · rcases hq with ⟨_, hq⟩ | ⟨hn, hq⟩
    · cases hq
    · cases hq
      exact Or.inl ⟨rfl, Or.inr ⟨_, _, cS.thr hg m b d (c.sb (sBn.rf X)), rfl⟩⟩
  rcases hq with ⟨ka, hq⟩ | ⟨_, hq⟩
  rotate_left
  · cases hq
  cases hq
  refine mj_T.eq (pc2 := 5) (st2 := [.ref (4 + a.toNat)]) ?_ rfl rfl rfl rfl
  refine mj_T.pl (loc' := [some (.ref 1), some (.int (jn a)), some (.ref (4 + a.toNat))]) rfl rfl rfl rfl ?_
  refine mj_T.pl rfl rfl rfl rfl ?_
  refine mj_T.call rfl rfl (Nat.le_of_ble_eq_true rfl) (Nat.le_of_ble_eq_true rfl) rfl rfl (mj_Ok.up (by omega) (mC_zero (D := 0) m (mK_rt a.toNat (by omega)) ((c.sb (sBn.rf X)).sm A.1 ka))) (fun v g2 hq => ?_) (fun i g2 hq => ?_)
  rotate_left
  · rcases hq with ⟨_, hq⟩ | ⟨hn, hq⟩
    · cases hq
    · cases hq
      exact Or.inl ⟨rfl, Or.inr ⟨_, _, cS.thr hg m b d (c.sb (sBn.rf X)), rfl⟩⟩
  rcases hq with ⟨kz, hq⟩ | ⟨_, hq⟩
  rotate_left
  · cases hq
  cases hq
  refine mj_T.eq (pc2 := 10) (st2 := []) ?_ rfl rfl rfl rfl
  refine mj_T.pl rfl rfl rfl rfl ?_
  refine mT_get m 19 cq_d1 (by decide) rfl rfl ?_
  iterate 2 refine mj_T.pl rfl rfl rfl rfl ?_
  refine mj_T.call rfl rfl (Nat.le_of_ble_eq_true rfl) (Nat.le_of_ble_eq_true rfl) rfl rfl (mj_Ok.up (by omega) (mS_cont (D := 0) m (mK_rt a.toNat (by omega)) ((c.sb (sBn.rf X)).sm A.1 ka))) (fun v g3 hq => ?_) (fun i g3 hq => ?_)
  rotate_left
  · cases hq
  cases hq
  have hcg : cgd (X (4 + a.toNat)) 13 ≤ 999999999999999999 := cgd_bd 13 ((c.sb (sBn.rf X)).sm A.1 ka)
  refine mj_T.eq (pc2 := 19) (st2 := [.long (jl ((cgd (X (4 + a.toNat)) 13 : Nat) : Int)), .ref (4 + a.toNat), .ref 172]) ?_ rfl rfl rfl rfl
  refine mj_T.call rfl rfl (Nat.le_of_ble_eq_true rfl) (Nat.le_of_ble_eq_true rfl) (mV_of m 16 cq_d172 (by decide) rfl (by decide) rfl _) rfl (mj_Ok.up (by omega) (mZ_68 (D := 0) m b d (mK_rt a.toNat (by omega)) ⟨by omega, by omega⟩ (jx _ (mK_rt a.toNat (by omega))))) (fun v g4 hq => ?_) (fun i g4 hq => ?_)
  rotate_left
  · obtain ⟨_, _, _, _, _, _, _, hq⟩ := hq; cases hq
  obtain ⟨V5, X8, _, m6, b7, f9, d10, hq⟩ := hq
  cases hq
  refine mj_T.eq (pc2 := 22) (st2 := []) ?_ rfl rfl rfl rfl
  refine mj_T.pl rfl rfl rfl rfl ?_
  refine mT_get m6 19 cq_d1 (by decide) rfl rfl ?_
  refine mT_get m6 16 cq_d172 (by decide) rfl rfl ?_
  exact mj_T.ret rfl rfl rfl (Or.inl ⟨_, _, ⟨_, _, m6, b7, d10, (c.sb ((sBn.rf X).tr (sBn.fx f9)))⟩, rfl⟩)
theorem pX_changes (hg : g.length ≤ n) (A : AS N u H) (s : cS g n N u H h) {a : Int} (ra : -2147483648 ≤ a ∧ a ≤ 2147483647) {f1 : Int} (rf1 : -2147483648 ≤ f1 ∧ f1 ≤ 2147483647) {f2 : Int} (rf2 : -2147483648 ≤ f2 ∧ f2 ≤ 2147483647) : mj_Ok (D + 8) 134 [.ref 1, .int (jn a), .int (jn f1), .int (jn f2)] h (rdL g n N u H) := by
  obtain ⟨V, X, m, b, d, c, jx⟩ := s.nr A
  have jx : rjR X := jx
  refine mj_Ok.of (M := mj_m134) rfl rfl rfl ?_
  iterate 2 refine mj_T.pl rfl rfl rfl rfl ?_
  refine mj_T.call rfl rfl (Nat.le_of_ble_eq_true rfl) (Nat.le_of_ble_eq_true rfl) (mV_of m 19 cq_d1 (by decide) rfl (by decide) rfl _) rfl (mj_Ok.up (by omega) (mC_rowOf (D := 0) m (i := a) (by omega))) (fun v g1 hq => ?_) (fun i g1 hq => ?_)
  rotate_left
  · rcases hq with ⟨_, hq⟩ | ⟨hn, hq⟩
    · cases hq
    · cases hq
      exact Or.inl ⟨rfl, Or.inr ⟨_, _, cS.thr hg m b d (c.sb (sBn.rf X)), rfl⟩⟩
  rcases hq with ⟨ka, hq⟩ | ⟨_, hq⟩
  rotate_left
  · cases hq
  cases hq
  refine mj_T.eq (pc2 := 5) (st2 := [.ref (4 + a.toNat)]) ?_ rfl rfl rfl rfl
  refine mj_T.pl (loc' := [some (.ref 1), some (.int (jn a)), some (.int (jn f1)), some (.int (jn f2)), some (.ref (4 + a.toNat))]) rfl rfl rfl rfl ?_
  iterate 2 refine mj_T.pl rfl rfl rfl rfl ?_
  refine mj_T.call rfl rfl (Nat.le_of_ble_eq_true rfl) (Nat.le_of_ble_eq_true rfl) rfl rfl (mj_Ok.up (by omega) (mC_fraction (D := 0) (i := f1) (j := f2) (by omega) (by omega))) (fun v g2 hq => ?_) (fun i g2 hq => ?_)
  rotate_left
  · rcases hq with ⟨_, hq⟩ | ⟨hn, hq⟩
    · cases hq
    · cases hq
      exact Or.inl ⟨rfl, Or.inr ⟨_, _, cS.thr hg m b d (c.sb (sBn.rf X)), rfl⟩⟩
  rcases hq with ⟨kff1, hq⟩ | ⟨_, hq⟩
  rotate_left
  · cases hq
  cases hq
  refine mj_T.eq (pc2 := 12) (st2 := []) ?_ rfl rfl rfl rfl
  refine mj_T.pl rfl rfl rfl rfl ?_
  refine mj_T.call rfl rfl (Nat.le_of_ble_eq_true rfl) (Nat.le_of_ble_eq_true rfl) rfl rfl (mj_Ok.up (by omega) (mC_zero (D := 0) m (mK_rt a.toNat (by omega)) ((c.sb (sBn.rf X)).sm A.1 ka))) (fun v g3 hq => ?_) (fun i g3 hq => ?_)
  rotate_left
  · rcases hq with ⟨_, hq⟩ | ⟨hn, hq⟩
    · cases hq
    · cases hq
      exact Or.inl ⟨rfl, Or.inr ⟨_, _, cS.thr hg m b d (c.sb (sBn.rf X)), rfl⟩⟩
  rcases hq with ⟨kz, hq⟩ | ⟨_, hq⟩
  rotate_left
  · cases hq
  cases hq
  refine mj_T.eq (pc2 := 17) (st2 := []) ?_ rfl rfl rfl rfl
  refine mj_T.pl rfl rfl rfl rfl ?_
  refine mT_get m 19 cq_d1 (by decide) rfl rfl ?_
  iterate 2 refine mj_T.pl rfl rfl rfl rfl ?_
  refine mj_T.call rfl rfl (Nat.le_of_ble_eq_true rfl) (Nat.le_of_ble_eq_true rfl) rfl rfl (mj_Ok.up (by omega) (mS_cont (D := 0) m (mK_rt a.toNat (by omega)) ((c.sb (sBn.rf X)).sm A.1 ka))) (fun v g4 hq => ?_) (fun i g4 hq => ?_)
  rotate_left
  · cases hq
  cases hq
  have hcg : cgd (X (4 + a.toNat)) 13 ≤ 999999999999999999 := cgd_bd 13 ((c.sb (sBn.rf X)).sm A.1 ka)
  refine mj_T.eq (pc2 := 28) (st2 := [.long (jl ((cgd (X (4 + a.toNat)) 13 : Nat) : Int)), .ref (4 + a.toNat), .ref 172]) ?_ rfl rfl rfl rfl
  refine mj_T.call rfl rfl (Nat.le_of_ble_eq_true rfl) (Nat.le_of_ble_eq_true rfl) (mV_of m 16 cq_d172 (by decide) rfl (by decide) rfl _) rfl (mj_Ok.up (by omega) (mZ_68 (D := 0) m b d (mK_rt a.toNat (by omega)) ⟨by omega, by omega⟩ (jx _ (mK_rt a.toNat (by omega))))) (fun v g5 hq => ?_) (fun i g5 hq => ?_)
  rotate_left
  · obtain ⟨_, _, _, _, _, _, _, hq⟩ := hq; cases hq
  obtain ⟨V6, X9, _, m7, b8, f10, d11, hq⟩ := hq
  cases hq
  refine mj_T.eq (pc2 := 31) (st2 := []) ?_ rfl rfl rfl rfl
  refine mj_T.pl rfl rfl rfl rfl ?_
  refine mT_get m7 19 cq_d1 (by decide) rfl rfl ?_
  refine mj_T.pl rfl rfl rfl rfl ?_
  refine mj_T.i2l rfl ⟨by omega, by omega⟩ ?_
  refine mj_T.call rfl rfl (Nat.le_of_ble_eq_true rfl) (Nat.le_of_ble_eq_true rfl) (mV_of m7 16 cq_d172 (by decide) rfl (by decide) rfl _) rfl (mj_Ok.up (by omega) (mZ_74 (D := 0) m7 b8 d11 ⟨by omega, by omega⟩)) (fun v g12 hq => ?_) (fun i g12 hq => ?_)
  rotate_left
  · obtain ⟨_, _, _, _, hq⟩ := hq; cases hq
  obtain ⟨V13, _, m14, b15, hq⟩ := hq
  cases hq
  refine mj_T.eq (pc2 := 40) (st2 := []) ?_ rfl rfl rfl rfl
  refine mj_T.pl rfl rfl rfl rfl ?_
  refine mT_get m14 19 cq_d1 (by decide) rfl rfl ?_
  refine mj_T.pl rfl rfl rfl rfl ?_
  refine mj_T.i2l rfl ⟨by omega, by omega⟩ ?_
  refine mj_T.call rfl rfl (Nat.le_of_ble_eq_true rfl) (Nat.le_of_ble_eq_true rfl) (mV_of m14 16 cq_d172 (by decide) rfl (by decide) rfl _) rfl (mj_Ok.up (by omega) (mZ_75 (D := 0) m14 b15 d11 ⟨by omega, by omega⟩)) (fun v g16 hq => ?_) (fun i g16 hq => ?_)
  rotate_left
  · obtain ⟨_, _, _, _, _, _, hq⟩ := hq; cases hq
  obtain ⟨V17, z20, _, m18, b19, rz20, hq⟩ := hq
  cases hq
  refine mj_T.eq (pc2 := 49) (st2 := [.int (jn z20)]) ?_ rfl rfl rfl rfl
  exact mj_T.ret rfl rfl rfl (Or.inl ⟨_, _, ⟨_, _, m18, b19, d11, (c.sb ((sBn.rf X).tr (sBn.fx f10)))⟩, rfl⟩)
theorem pX_closeIn (hg : g.length ≤ n) (A : AS N u H) (s : cS g n N u H h) {a : Int} (ra : -2147483648 ≤ a ∧ a ≤ 2147483647) {p : Int} (rp : -2147483648 ≤ p ∧ p ≤ 2147483647) {q : Int} (rq : -2147483648 ≤ q ∧ q ≤ 2147483647) : mj_Ok (D + 8) 135 [.ref 1, .int (jn a), .int (jn p), .int (jn q)] h (rdL g n N u H) := by
  obtain ⟨V, X, m, b, d, c, jx⟩ := s.nr A
  have jx : rjR X := jx
  refine mj_Ok.of (M := mj_m135) rfl rfl rfl ?_
  iterate 2 refine mj_T.pl rfl rfl rfl rfl ?_
  refine mj_T.call rfl rfl (Nat.le_of_ble_eq_true rfl) (Nat.le_of_ble_eq_true rfl) (mV_of m 19 cq_d1 (by decide) rfl (by decide) rfl _) rfl (mj_Ok.up (by omega) (mC_rowOf (D := 0) m (i := a) (by omega))) (fun v g1 hq => ?_) (fun i g1 hq => ?_)
  rotate_left
  · rcases hq with ⟨_, hq⟩ | ⟨hn, hq⟩
    · cases hq
    · cases hq
      exact Or.inl ⟨rfl, Or.inr ⟨_, _, cS.thr hg m b d (c.sb (sBn.rf X)), rfl⟩⟩
  rcases hq with ⟨ka, hq⟩ | ⟨_, hq⟩
  rotate_left
  · cases hq
  cases hq
  refine mj_T.eq (pc2 := 5) (st2 := [.ref (4 + a.toNat)]) ?_ rfl rfl rfl rfl
  refine mj_T.pl (loc' := [some (.ref 1), some (.int (jn a)), some (.int (jn p)), some (.int (jn q)), some (.ref (4 + a.toNat))]) rfl rfl rfl rfl ?_
  refine mj_T.pl rfl rfl rfl rfl ?_
  refine mj_T.if0 (a := p) rfl ⟨by omega, by omega⟩ (fun c2 => ?_) (fun c2 => ?_)
  · simp only [jc, Bool.not_eq_true', Bool.not_eq_false', decide_eq_true_eq, decide_eq_false_iff_not] at c2
    exact mj_T.throws rfl rfl rfl (Nat.le_of_ble_eq_true rfl) (Or.inr ⟨_, _, cS.thr hg m b d (c.sb (sBn.rf X)), rfl⟩)
  · simp only [jc, Bool.not_eq_true', Bool.not_eq_false', decide_eq_true_eq, decide_eq_false_iff_not] at c2
    iterate 2 refine mj_T.pl rfl rfl rfl rfl ?_
    refine mj_T.call rfl rfl (Nat.le_of_ble_eq_true rfl) (Nat.le_of_ble_eq_true rfl) rfl rfl (mj_Ok.up (by omega) (mS_deg (D := 0) m (mK_rt a.toNat (by omega)) ((c.sb (sBn.rf X)).sm A.1 ka))) (fun v g3 hq => ?_) (fun i g3 hq => ?_)
    rotate_left
    · cases hq
    cases hq
    have ga := fdg_le (X (4 + a.toNat)) 13
    refine mj_T.eq (pc2 := 17) (st2 := [.int (jn (((fdg (X (4 + a.toNat)) 13) : Int) - 1)), .int (jn p)]) ?_ rfl rfl rfl rfl
    refine mj_T.icmp (a := p) (b := (((fdg (X (4 + a.toNat)) 13) : Int) - 1)) rfl ⟨by omega, by omega⟩ ⟨by omega, by omega⟩ (fun c4 => ?_) (fun c4 => ?_)
    · simp only [jc, Bool.not_eq_true', Bool.not_eq_false', decide_eq_true_eq, decide_eq_false_iff_not] at c4
      refine mj_T.pl rfl rfl rfl rfl ?_
      refine mT_get m 19 cq_d1 (by decide) rfl rfl ?_
      refine mj_T.pl rfl rfl rfl rfl ?_
      refine mj_T.call rfl rfl (Nat.le_of_ble_eq_true rfl) (Nat.le_of_ble_eq_true rfl) (mV_of m 15 cq_d444 (by decide) rfl (by decide) rfl _) rfl (mj_Ok.up (by omega) (mR_begin (D := 0) m b d (mK_rt a.toNat (by omega)) ((c.sb (sBn.rf X)).sm A.1 ka) (by omega))) (fun v g5 hq => ?_) (fun i g5 hq => ?_)
      rotate_left
      · obtain ⟨_, _, _, _, _, _, _, _, _, _, _, _, _, _, _, _, _, _, _, hq⟩ := hq; cases hq
      obtain ⟨V6, X9, _, _, _, _, _, m7, b8, d11, f10, _, _, _, _, _, _, _, _, hq⟩ := hq
      cases hq
      refine mj_T.eq (pc2 := 37) (st2 := []) ?_ rfl rfl rfl rfl
      iterate 2 refine mj_T.pl rfl rfl rfl rfl ?_
      refine mT_get m7 19 cq_d1 (by decide) rfl rfl ?_
      refine mj_T.call rfl rfl (Nat.le_of_ble_eq_true rfl) (Nat.le_of_ble_eq_true rfl) (mV_of m7 15 cq_d444 (by decide) rfl (by decide) rfl _) rfl (mj_Ok.up (by omega) (mZ_63 (D := 0) m7 b8 d11)) (fun v g12 hq => ?_) (fun i g12 hq => ?_)
      rotate_left
      · obtain ⟨_, _, _, _, _, _, _, _, _, hq⟩ := hq; cases hq
      obtain ⟨V13, X16, z19, _, m14, b15, f17, d18, rz19, hq⟩ := hq
      cases hq
      refine mj_T.eq (pc2 := 45) (st2 := [.int (jn z19), .int (jn p)]) ?_ rfl rfl rfl rfl
      refine mj_T.icmp (a := p) (b := z19) rfl ⟨by omega, by omega⟩ ⟨by omega, by omega⟩ (fun c20 => ?_) (fun c20 => ?_)
      · simp only [jc, Bool.not_eq_true', Bool.not_eq_false', decide_eq_true_eq, decide_eq_false_iff_not] at c20
        refine mj_T.pl rfl rfl rfl rfl ?_
        refine mj_T.if0 (a := q) rfl ⟨by omega, by omega⟩ (fun c21 => ?_) (fun c21 => ?_)
        · simp only [jc, Bool.not_eq_true', Bool.not_eq_false', decide_eq_true_eq, decide_eq_false_iff_not] at c21
          exact mj_T.throws rfl rfl rfl (Nat.le_of_ble_eq_true rfl) (Or.inr ⟨_, _, cS.thr hg m14 b15 d18 (c.sb (((sBn.rf X).tr (sBn.fx f10)).tr (sBn.fx f17))), rfl⟩)
        · simp only [jc, Bool.not_eq_true', Bool.not_eq_false', decide_eq_true_eq, decide_eq_false_iff_not] at c21
          iterate 2 refine mj_T.pl rfl rfl rfl rfl ?_
          refine mj_T.icmp (a := q) (b := 20) rfl ⟨by omega, by omega⟩ ⟨by omega, by omega⟩ (fun c22 => ?_) (fun c22 => ?_)
          · simp only [jc, Bool.not_eq_true', Bool.not_eq_false', decide_eq_true_eq, decide_eq_false_iff_not] at c22
            refine mj_T.pl rfl rfl rfl rfl ?_
            refine mT_get m14 19 cq_d1 (by decide) rfl rfl ?_
            refine jT.lc 1 rfl rfl ?_
            refine mj_T.pl rfl rfl rfl rfl ?_
            refine mj_T.pl rfl rfl rfl rfl ?_
            refine jT.anyL (fun y23 jy23 => ?_)
            refine mj_T.call rfl rfl (Nat.le_of_ble_eq_true rfl) (Nat.le_of_ble_eq_true rfl) (mV_of m14 15 cq_d444 (by decide) rfl (by decide) rfl _) rfl (mj_Ok.up (by omega) (mZ_64 (D := 0) m14 b15 d18 jy23)) (fun v g24 hq => ?_) (fun i g24 hq => ?_)
            rotate_left
            · obtain ⟨_, _, _, _, _, _, _, hq⟩ := hq; cases hq
            obtain ⟨V25, X28, _, m26, b27, f29, d30, hq⟩ := hq
            cases hq
            refine mj_T.eq (pc2 := 84) (st2 := []) ?_ rfl rfl rfl rfl
            refine mj_T.pl rfl rfl rfl rfl ?_
            refine mT_get m26 19 cq_d1 (by decide) rfl rfl ?_
            refine mj_T.pl rfl rfl rfl rfl ?_
            refine mj_T.call rfl rfl (Nat.le_of_ble_eq_true rfl) (Nat.le_of_ble_eq_true rfl) (mV_of m26 15 cq_d444 (by decide) rfl (by decide) rfl _) rfl (mj_Ok.up (by omega) (mZ_65 (D := 0) m26 b27 d30 ⟨by omega, by omega⟩)) (fun v g31 hq => ?_) (fun i g31 hq => ?_)
            rotate_left
            · obtain ⟨_, _, _, _, _, _, _, hq⟩ := hq; cases hq
            obtain ⟨V32, X35, _, m33, b34, f36, d37, hq⟩ := hq
            cases hq
            refine mj_T.eq (pc2 := 92) (st2 := []) ?_ rfl rfl rfl rfl
            iterate 2 refine mj_T.pl rfl rfl rfl rfl ?_
            refine mT_get m33 19 cq_d1 (by decide) rfl rfl ?_
            refine mT_get m33 15 cq_d444 (by decide) rfl rfl ?_
            refine jT.lc 1 rfl rfl ?_
            refine mj_T.pl rfl rfl rfl rfl ?_
            refine mj_T.call rfl rfl (Nat.le_of_ble_eq_true rfl) (Nat.le_of_ble_eq_true rfl) (mV_of m33 19 cq_d1 (by decide) rfl (by decide) rfl _) rfl (mj_Ok.up (by omega) (mZ_159 (D := 0) m33 b34 fr_d445 ⟨by decide, by decide⟩ ⟨by omega, by omega⟩)) (fun v g38 hq => ?_) (fun i g38 hq => ?_)
            rotate_left
            · obtain ⟨_, _, _, _, _, _, hq⟩ := hq; cases hq
            obtain ⟨V39, z42, _, m40, b41, rz42, hq⟩ := hq
            cases hq
            refine mj_T.eq (pc2 := 105) (st2 := [.int (jn z42)]) ?_ rfl rfl rfl rfl
            exact mj_T.ret rfl rfl rfl (Or.inl ⟨_, _, ⟨_, _, m40, b41, d37, (c.sb (((((sBn.rf X).tr (sBn.fx f10)).tr (sBn.fx f17)).tr (sBn.fx f29)).tr (sBn.fx f36)))⟩, rfl⟩)
          · simp only [jc, Bool.not_eq_true', Bool.not_eq_false', decide_eq_true_eq, decide_eq_false_iff_not] at c22
            exact mj_T.throws rfl rfl rfl (Nat.le_of_ble_eq_true rfl) (Or.inr ⟨_, _, cS.thr hg m14 b15 d18 (c.sb (((sBn.rf X).tr (sBn.fx f10)).tr (sBn.fx f17))), rfl⟩)
      · simp only [jc, Bool.not_eq_true', Bool.not_eq_false', decide_eq_true_eq, decide_eq_false_iff_not] at c20
        exact mj_T.throws rfl rfl rfl (Nat.le_of_ble_eq_true rfl) (Or.inr ⟨_, _, cS.thr hg m14 b15 d18 (c.sb (((sBn.rf X).tr (sBn.fx f10)).tr (sBn.fx f17))), rfl⟩)
    · simp only [jc, Bool.not_eq_true', Bool.not_eq_false', decide_eq_true_eq, decide_eq_false_iff_not] at c4
      exact mj_T.throws rfl rfl rfl (Nat.le_of_ble_eq_true rfl) (Or.inr ⟨_, _, cS.thr hg m b d (c.sb (sBn.rf X)), rfl⟩)
theorem pX_fractionRoots (hg : g.length ≤ n) (A : AS N u H) (s : cS g n N u H h) {a : Int} (ra : -2147483648 ≤ a ∧ a ≤ 2147483647) : mj_Ok (D + 8) 136 [.ref 1, .int (jn a)] h (rdL g n N u H) := by
  obtain ⟨V, X, m, b, d, c, jx⟩ := s.nr A
  have jx : rjR X := jx
  refine mj_Ok.of (M := mj_m136) rfl rfl rfl ?_
  iterate 2 refine mj_T.pl rfl rfl rfl rfl ?_
  refine mj_T.call rfl rfl (Nat.le_of_ble_eq_true rfl) (Nat.le_of_ble_eq_true rfl) (mV_of m 19 cq_d1 (by decide) rfl (by decide) rfl _) rfl (mj_Ok.up (by omega) (mC_rowOf (D := 0) m (i := a) (by omega))) (fun v g1 hq => ?_) (fun i g1 hq => ?_)
  rotate_left
  · rcases hq with ⟨_, hq⟩ | ⟨hn, hq⟩
    · cases hq
    · cases hq
      exact Or.inl ⟨rfl, Or.inr ⟨_, _, cS.thr hg m b d (c.sb (sBn.rf X)), rfl⟩⟩
  rcases hq with ⟨ka, hq⟩ | ⟨_, hq⟩
  rotate_left
  · cases hq
  cases hq
  refine mj_T.eq (pc2 := 5) (st2 := [.ref (4 + a.toNat)]) ?_ rfl rfl rfl rfl
  refine mj_T.pl (loc' := [some (.ref 1), some (.int (jn a)), some (.ref (4 + a.toNat))]) rfl rfl rfl rfl ?_
  refine mj_T.pl rfl rfl rfl rfl ?_
  refine mj_T.call rfl rfl (Nat.le_of_ble_eq_true rfl) (Nat.le_of_ble_eq_true rfl) rfl rfl (mj_Ok.up (by omega) (mC_zero (D := 0) m (mK_rt a.toNat (by omega)) ((c.sb (sBn.rf X)).sm A.1 ka))) (fun v g2 hq => ?_) (fun i g2 hq => ?_)
  rotate_left
  · rcases hq with ⟨_, hq⟩ | ⟨hn, hq⟩
    · cases hq
    · cases hq
      exact Or.inl ⟨rfl, Or.inr ⟨_, _, cS.thr hg m b d (c.sb (sBn.rf X)), rfl⟩⟩
  rcases hq with ⟨kz, hq⟩ | ⟨_, hq⟩
  rotate_left
  · cases hq
  cases hq
  refine mj_T.eq (pc2 := 10) (st2 := []) ?_ rfl rfl rfl rfl
  refine mj_T.pl rfl rfl rfl rfl ?_
  refine mT_get m 19 cq_d1 (by decide) rfl rfl ?_
  refine mj_T.pl rfl rfl rfl rfl ?_
  refine mj_T.call rfl rfl (Nat.le_of_ble_eq_true rfl) (Nat.le_of_ble_eq_true rfl) (mV_of m 15 cq_d444 (by decide) rfl (by decide) rfl _) rfl (mj_Ok.up (by omega) (mR_begin (D := 0) m b d (mK_rt a.toNat (by omega)) ((c.sb (sBn.rf X)).sm A.1 ka) (by omega))) (fun v g3 hq => ?_) (fun i g3 hq => ?_)
  rotate_left
  · obtain ⟨_, _, _, _, _, _, _, _, _, _, _, _, _, _, _, _, _, _, _, hq⟩ := hq; cases hq
  obtain ⟨V4, X7, _, _, _, _, _, m5, b6, d9, f8, _, _, _, _, _, _, _, _, hq⟩ := hq
  cases hq
  refine mj_T.eq (pc2 := 18) (st2 := []) ?_ rfl rfl rfl rfl
  refine mj_T.pl rfl rfl rfl rfl ?_
  refine mT_get m5 19 cq_d1 (by decide) rfl rfl ?_
  refine mj_T.call rfl rfl (Nat.le_of_ble_eq_true rfl) (Nat.le_of_ble_eq_true rfl) (mV_of m5 15 cq_d444 (by decide) rfl (by decide) rfl _) rfl (mj_Ok.up (by omega) (mZ_63 (D := 0) m5 b6 d9)) (fun v g10 hq => ?_) (fun i g10 hq => ?_)
  rotate_left
  · obtain ⟨_, _, _, _, _, _, _, _, _, hq⟩ := hq; cases hq
  obtain ⟨V11, X14, z17, _, m12, b13, f15, d16, rz17, hq⟩ := hq
  cases hq
  refine mj_T.eq (pc2 := 25) (st2 := [.int (jn z17)]) ?_ rfl rfl rfl rfl
  iterate 2 refine mj_T.pl rfl rfl rfl rfl ?_
  refine mT_get m12 19 cq_d1 (by decide) rfl rfl ?_
  refine mj_T.pl rfl rfl rfl rfl ?_
  refine mj_T.call rfl rfl (Nat.le_of_ble_eq_true rfl) (Nat.le_of_ble_eq_true rfl) (mV_of m12 15 cq_d444 (by decide) rfl (by decide) rfl _) rfl (mj_Ok.up (by omega) (mZ_66 (D := 0) m12 b13 d16 ⟨by omega, by omega⟩)) (fun v g18 hq => ?_) (fun i g18 hq => ?_)
  rotate_left
  · obtain ⟨_, _, _, _, _, _, _, _, _, hq⟩ := hq; cases hq
  obtain ⟨V19, X22, z25, _, m20, b21, f23, d24, rz25, hq⟩ := hq
  cases hq
  refine mj_T.eq (pc2 := 35) (st2 := [.int (jn z25)]) ?_ rfl rfl rfl rfl
  exact mj_T.ret rfl rfl rfl (Or.inl ⟨_, _, ⟨_, _, m20, b21, d24, (c.sb ((((sBn.rf X).tr (sBn.fx f8)).tr (sBn.fx f15)).tr (sBn.fx f23)))⟩, rfl⟩)
theorem pX_fractionRoot (hg : g.length ≤ n) (A : AS N u H) (s : cS g n N u H h) {a : Int} (ra : -2147483648 ≤ a ∧ a ≤ 2147483647) {p : Int} (rp : -2147483648 ≤ p ∧ p ≤ 2147483647) : mj_Ok (D + 8) 137 [.ref 1, .int (jn a), .int (jn p)] h (rdL g n N u H) := by
  obtain ⟨V, X, m, b, d, c, jx⟩ := s.nr A
  have jx : rjR X := jx
  refine mj_Ok.of (M := mj_m137) rfl rfl rfl ?_
  iterate 2 refine mj_T.pl rfl rfl rfl rfl ?_
  refine mj_T.call rfl rfl (Nat.le_of_ble_eq_true rfl) (Nat.le_of_ble_eq_true rfl) (mV_of m 19 cq_d1 (by decide) rfl (by decide) rfl _) rfl (mj_Ok.up (by omega) (mC_rowOf (D := 0) m (i := a) (by omega))) (fun v g1 hq => ?_) (fun i g1 hq => ?_)
  rotate_left
  · rcases hq with ⟨_, hq⟩ | ⟨hn, hq⟩
    · cases hq
    · cases hq
      exact Or.inl ⟨rfl, Or.inr ⟨_, _, cS.thr hg m b d (c.sb (sBn.rf X)), rfl⟩⟩
  rcases hq with ⟨ka, hq⟩ | ⟨_, hq⟩
  rotate_left
  · cases hq
  cases hq
  refine mj_T.eq (pc2 := 5) (st2 := [.ref (4 + a.toNat)]) ?_ rfl rfl rfl rfl
  refine mj_T.pl (loc' := [some (.ref 1), some (.int (jn a)), some (.int (jn p)), some (.ref (4 + a.toNat))]) rfl rfl rfl rfl ?_
  refine mj_T.pl rfl rfl rfl rfl ?_
  refine mj_T.if0 (a := p) rfl ⟨by omega, by omega⟩ (fun c2 => ?_) (fun c2 => ?_)
  · simp only [jc, Bool.not_eq_true', Bool.not_eq_false', decide_eq_true_eq, decide_eq_false_iff_not] at c2
    exact mj_T.throws rfl rfl rfl (Nat.le_of_ble_eq_true rfl) (Or.inr ⟨_, _, cS.thr hg m b d (c.sb (sBn.rf X)), rfl⟩)
  · simp only [jc, Bool.not_eq_true', Bool.not_eq_false', decide_eq_true_eq, decide_eq_false_iff_not] at c2
    iterate 2 refine mj_T.pl rfl rfl rfl rfl ?_
    refine mj_T.call rfl rfl (Nat.le_of_ble_eq_true rfl) (Nat.le_of_ble_eq_true rfl) rfl rfl (mj_Ok.up (by omega) (mS_deg (D := 0) m (mK_rt a.toNat (by omega)) ((c.sb (sBn.rf X)).sm A.1 ka))) (fun v g3 hq => ?_) (fun i g3 hq => ?_)
    rotate_left
    · cases hq
    cases hq
    have ga := fdg_le (X (4 + a.toNat)) 13
    refine mj_T.eq (pc2 := 15) (st2 := [.int (jn (((fdg (X (4 + a.toNat)) 13) : Int) - 1)), .int (jn p)]) ?_ rfl rfl rfl rfl
    refine mj_T.icmp (a := p) (b := (((fdg (X (4 + a.toNat)) 13) : Int) - 1)) rfl ⟨by omega, by omega⟩ ⟨by omega, by omega⟩ (fun c4 => ?_) (fun c4 => ?_)
    · simp only [jc, Bool.not_eq_true', Bool.not_eq_false', decide_eq_true_eq, decide_eq_false_iff_not] at c4
      refine mj_T.pl rfl rfl rfl rfl ?_
      refine mT_get m 19 cq_d1 (by decide) rfl rfl ?_
      refine mj_T.pl rfl rfl rfl rfl ?_
      refine mj_T.call rfl rfl (Nat.le_of_ble_eq_true rfl) (Nat.le_of_ble_eq_true rfl) (mV_of m 15 cq_d444 (by decide) rfl (by decide) rfl _) rfl (mj_Ok.up (by omega) (mR_begin (D := 0) m b d (mK_rt a.toNat (by omega)) ((c.sb (sBn.rf X)).sm A.1 ka) (by omega))) (fun v g5 hq => ?_) (fun i g5 hq => ?_)
      rotate_left
      · obtain ⟨_, _, _, _, _, _, _, _, _, _, _, _, _, _, _, _, _, _, _, hq⟩ := hq; cases hq
      obtain ⟨V6, X9, _, _, _, _, _, m7, b8, d11, f10, _, _, _, _, _, _, _, _, hq⟩ := hq
      cases hq
      refine mj_T.eq (pc2 := 34) (st2 := []) ?_ rfl rfl rfl rfl
      refine mj_T.pl rfl rfl rfl rfl ?_
      refine mT_get m7 19 cq_d1 (by decide) rfl rfl ?_
      refine mj_T.call rfl rfl (Nat.le_of_ble_eq_true rfl) (Nat.le_of_ble_eq_true rfl) (mV_of m7 15 cq_d444 (by decide) rfl (by decide) rfl _) rfl (mj_Ok.up (by omega) (mZ_63 (D := 0) m7 b8 d11)) (fun v g12 hq => ?_) (fun i g12 hq => ?_)
      rotate_left
      · obtain ⟨_, _, _, _, _, _, _, _, _, hq⟩ := hq; cases hq
      obtain ⟨V13, X16, z19, _, m14, b15, f17, d18, rz19, hq⟩ := hq
      cases hq
      refine mj_T.eq (pc2 := 41) (st2 := [.int (jn z19)]) ?_ rfl rfl rfl rfl
      iterate 2 refine mj_T.pl rfl rfl rfl rfl ?_
      refine mT_get m14 19 cq_d1 (by decide) rfl rfl ?_
      iterate 2 refine mj_T.pl rfl rfl rfl rfl ?_
      refine mj_T.iadd (a := p) (b := 1) rfl ?_
      refine mj_T.call rfl rfl (Nat.le_of_ble_eq_true rfl) (Nat.le_of_ble_eq_true rfl) (mV_of m14 15 cq_d444 (by decide) rfl (by decide) rfl _) rfl (mj_Ok.up (by omega) (mZ_66 (D := 0) m14 b15 d18 ⟨by omega, by omega⟩)) (fun v g20 hq => ?_) (fun i g20 hq => ?_)
      rotate_left
      · obtain ⟨_, _, _, _, _, _, _, _, _, hq⟩ := hq; cases hq
      obtain ⟨V21, X24, z27, _, m22, b23, f25, d26, rz27, hq⟩ := hq
      cases hq
      refine mj_T.eq (pc2 := 52) (st2 := [.int (jn z27)]) ?_ rfl rfl rfl rfl
      refine mj_T.pl rfl rfl rfl rfl ?_
      refine mj_T.icmp (a := z27) (b := p) rfl ⟨by omega, by omega⟩ ⟨by omega, by omega⟩ (fun c28 => ?_) (fun c28 => ?_)
      · simp only [jc, Bool.not_eq_true', Bool.not_eq_false', decide_eq_true_eq, decide_eq_false_iff_not] at c28
        iterate 2 refine mj_T.pl rfl rfl rfl rfl ?_
        refine mT_get m22 19 cq_d1 (by decide) rfl rfl ?_
        refine mT_get m22 15 cq_d444 (by decide) rfl rfl ?_
        refine mj_T.pl rfl rfl rfl rfl ?_
        refine mT_get m22 19 cq_d1 (by decide) rfl rfl ?_
        refine mT_get m22 15 cq_d444 (by decide) rfl rfl ?_
        refine jT.anyL (fun y29 jy29 => ?_)
        refine mj_T.pl rfl rfl rfl rfl ?_
        refine mj_T.call rfl rfl (Nat.le_of_ble_eq_true rfl) (Nat.le_of_ble_eq_true rfl) (mV_of m22 19 cq_d1 (by decide) rfl (by decide) rfl _) rfl (mj_Ok.up (by omega) (mZ_159 (D := 0) m22 b23 fr_d445 jy29 ⟨by omega, by omega⟩)) (fun v g30 hq => ?_) (fun i g30 hq => ?_)
        rotate_left
        · obtain ⟨_, _, _, _, _, _, hq⟩ := hq; cases hq
        obtain ⟨V31, z34, _, m32, b33, rz34, hq⟩ := hq
        cases hq
        refine mj_T.eq (pc2 := 83) (st2 := [.int (jn z34)]) ?_ rfl rfl rfl rfl
        exact mj_T.ret rfl rfl rfl (Or.inl ⟨_, _, ⟨_, _, m32, b33, d26, (c.sb ((((sBn.rf X).tr (sBn.fx f10)).tr (sBn.fx f17)).tr (sBn.fx f25)))⟩, rfl⟩)
      · simp only [jc, Bool.not_eq_true', Bool.not_eq_false', decide_eq_true_eq, decide_eq_false_iff_not] at c28
        exact mj_T.throws rfl rfl rfl (Nat.le_of_ble_eq_true rfl) (Or.inr ⟨_, _, cS.thr hg m22 b23 d26 (c.sb ((((sBn.rf X).tr (sBn.fx f10)).tr (sBn.fx f17)).tr (sBn.fx f25))), rfl⟩)
    · simp only [jc, Bool.not_eq_true', Bool.not_eq_false', decide_eq_true_eq, decide_eq_false_iff_not] at c4
      exact mj_T.throws rfl rfl rfl (Nat.le_of_ble_eq_true rfl) (Or.inr ⟨_, _, cS.thr hg m b d (c.sb (sBn.rf X)), rfl⟩)
end MRP
