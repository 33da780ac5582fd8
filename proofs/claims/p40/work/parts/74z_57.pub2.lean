/-! The class, exactly: the calls gcd, simple, primitive, residue, setTerm. -/
section MP4
variable {g h : mj_H} {n D u : Nat} {N : Nat → Int} {H : Nat → Nat → Int}
theorem pX_gcd (hg : g.length ≤ n) (A : AS N u H) (s : cS g n N u H h) {to : Int} (rto : -2147483648 ≤ to ∧ to ≤ 2147483647) {a : Int} (ra : -2147483648 ≤ a ∧ a ≤ 2147483647) {b : Int} (rb : -2147483648 ≤ b ∧ b ≤ 2147483647) : mj_Ok (D + 8) 109 [.ref 1, .int (jn to), .int (jn a), .int (jn b)] h (RO g n N u H ((0 ≤ to ∧ to ≤ 5) ∧ (0 ≤ a ∧ a ≤ 5) ∧ (0 ≤ b ∧ b ≤ 5)) (fun k => (∃ R, gcR (rwN N a) (rwN N b) R ∧ ¬ fit13 R) ∧ k = 1) (fun w => ∃ R, gcR (rwN N a) (rwN N b) R ∧ isP R w) to) := by
  obtain ⟨V, X, m, b0, d, c⟩ := s
  refine mj_Ok.of (M := mj_m109) rfl rfl rfl ?_
  iterate 2 refine mj_T.pl rfl rfl rfl rfl ?_
  refine mj_T.call rfl rfl (Nat.le_of_ble_eq_true rfl) (Nat.le_of_ble_eq_true rfl) (mV_of m 19 cq_d1 (by decide) rfl (by decide) rfl _) rfl (mj_Ok.up (by omega) (mC_rowOf (D := 0) m (i := to) (by omega))) (fun v g1 hq => ?_) (fun i g1 hq => ?_)
  rotate_left
  · rcases hq with ⟨_, hq⟩ | ⟨hn, hq⟩
    · cases hq
    · cases hq
      exact Or.inl ⟨rfl, Or.inr ⟨_, _, Or.inl ⟨by omega, rfl⟩, cS.thr hg m b0 d c, rfl⟩⟩
  rcases hq with ⟨kto, hq⟩ | ⟨_, hq⟩
  rotate_left
  · cases hq
  cases hq
  refine mj_T.eq (pc2 := 5) (st2 := [.ref (4 + to.toNat)]) ?_ rfl rfl rfl rfl
  iterate 2 refine mj_T.pl rfl rfl rfl rfl ?_
  refine mT_get m 19 cq_d1 (by decide) rfl rfl ?_
  iterate 2 refine mj_T.pl rfl rfl rfl rfl ?_
  refine mj_T.call rfl rfl (Nat.le_of_ble_eq_true rfl) (Nat.le_of_ble_eq_true rfl) (mV_of m 19 cq_d1 (by decide) rfl (by decide) rfl _) rfl (mj_Ok.up (by omega) (mC_rowOf (D := 0) m (i := a) (by omega))) (fun v g2 hq => ?_) (fun i g2 hq => ?_)
  rotate_left
  · rcases hq with ⟨_, hq⟩ | ⟨hn, hq⟩
    · cases hq
    · cases hq
      exact Or.inl ⟨rfl, Or.inr ⟨_, _, Or.inl ⟨by omega, rfl⟩, cS.thr hg m b0 d c, rfl⟩⟩
  rcases hq with ⟨ka, hq⟩ | ⟨_, hq⟩
  rotate_left
  · cases hq
  cases hq
  refine mj_T.eq (pc2 := 15) (st2 := [.ref (4 + a.toNat), .ref 444]) ?_ rfl rfl rfl rfl
  iterate 2 refine mj_T.pl rfl rfl rfl rfl ?_
  refine mj_T.call rfl rfl (Nat.le_of_ble_eq_true rfl) (Nat.le_of_ble_eq_true rfl) (mV_of m 19 cq_d1 (by decide) rfl (by decide) rfl _) rfl (mj_Ok.up (by omega) (mC_rowOf (D := 0) m (i := b) (by omega))) (fun v g3 hq => ?_) (fun i g3 hq => ?_)
  rotate_left
  · rcases hq with ⟨_, hq⟩ | ⟨hn, hq⟩
    · cases hq
    · cases hq
      exact Or.inl ⟨rfl, Or.inr ⟨_, _, Or.inl ⟨by omega, rfl⟩, cS.thr hg m b0 d c, rfl⟩⟩
  rcases hq with ⟨kb, hq⟩ | ⟨_, hq⟩
  rotate_left
  · cases hq
  cases hq
  refine mj_T.eq (pc2 := 20) (st2 := [.ref (4 + b.toNat), .ref (4 + a.toNat), .ref 444]) ?_ rfl rfl rfl rfl
  refine mj_T.pl rfl rfl rfl rfl ?_
  refine mT_get m 19 cq_d1 (by decide) rfl rfl ?_
  refine mj_T.call rfl rfl (Nat.le_of_ble_eq_true rfl) (Nat.le_of_ble_eq_true rfl) (mV_of m 15 cq_d444 (by decide) rfl (by decide) rfl _) rfl (mj_Ok.up (by omega) (oX_gcd (D := 0) A m b0 d c ka kb)) (fun v g4 hq => ?_) (fun i g4 hq => ?_)
  rotate_left
  · obtain ⟨_, _, _, _, _, _, _, _, _, hq⟩ := hq; cases hq
  obtain ⟨V5, X5, _, y, m5, b5, d5, s5, hy, hq⟩ := hq
  cases hq
  have hy2 : y = 0 ∨ y = 1 := by
    rcases hy with ⟨e, _⟩ | ⟨e, _⟩
    · exact Or.inr e
    · exact Or.inl e
  refine mj_T.eq (pc2 := 27) (st2 := [.int (jn y)]) ?_ rfl rfl rfl rfl
  refine mj_T.if0 (a := y) rfl ⟨by omega, by omega⟩ (fun c5 => ?_) (fun c5 => ?_)
  · simp only [jc, Bool.not_eq_true', Bool.not_eq_false', decide_eq_true_eq, decide_eq_false_iff_not] at c5
    have hok := hy.resolve_right (fun q => absurd q.1 (by omega))
    iterate 2 refine mj_T.pl rfl rfl rfl rfl ?_
    refine mj_T.call rfl rfl (Nat.le_of_ble_eq_true rfl) (Nat.le_of_ble_eq_true rfl) (mV_of m5 19 cq_d1 (by decide) rfl (by decide) rfl _) rfl (mj_Ok.up (by omega) (mX_keep (D := 0) A m5 b5 d5 (c.sb s5) kto hok.2.1)) (fun v g6 hq => ?_) (fun i g6 hq => ?_)
    rotate_left
    · obtain ⟨_, _, hq⟩ := hq; cases hq
    obtain ⟨_, cs, hq⟩ := hq
    cases hq
    refine mj_T.eq (pc2 := 43) (st2 := [.int (jn ((fdg (X5 481) 13 : Int) - 1))]) ?_ rfl rfl rfl rfl
    exact mj_T.ret rfl rfl rfl (Or.inl ⟨⟨kto, ka, kb⟩, _, _, hok.2.1, hok.2.2, cs, rfl⟩)
  · simp only [jc, Bool.not_eq_true', Bool.not_eq_false', decide_eq_true_eq, decide_eq_false_iff_not] at c5
    have hbad := hy.resolve_left (fun q => absurd q.1 (by omega))
    exact mj_T.throws rfl rfl rfl (Nat.le_of_ble_eq_true rfl) (Or.inr ⟨_, _, Or.inr ⟨⟨kto, ka, kb⟩, ⟨hbad.2, rfl⟩⟩, cS.thr hg m5 b5 d5 (c.sb s5), rfl⟩)
theorem pX_simple (hg : g.length ≤ n) (A : AS N u H) (s : cS g n N u H h) {to : Int} (rto : -2147483648 ≤ to ∧ to ≤ 2147483647) {a : Int} (ra : -2147483648 ≤ a ∧ a ≤ 2147483647) : mj_Ok (D + 8) 111 [.ref 1, .int (jn to), .int (jn a)] h (RO g n N u H ((0 ≤ to ∧ to ≤ 5) ∧ (0 ≤ a ∧ a ≤ 5)) (fun k => (fdg (rwN N a) 13 = 0 ∧ k = 3) ∨ (0 < fdg (rwN N a) 13 ∧ (∃ S, smR (rwN N a) S ∧ ¬ fit13 S) ∧ k = 1)) (fun w => 0 < fdg (rwN N a) 13 ∧ ∃ S, smR (rwN N a) S ∧ isP S w) to) := by
  obtain ⟨V, X, m, b0, d, c⟩ := s
  refine mj_Ok.of (M := mj_m111) rfl rfl rfl ?_
  iterate 2 refine mj_T.pl rfl rfl rfl rfl ?_
  refine mj_T.call rfl rfl (Nat.le_of_ble_eq_true rfl) (Nat.le_of_ble_eq_true rfl) (mV_of m 19 cq_d1 (by decide) rfl (by decide) rfl _) rfl (mj_Ok.up (by omega) (mC_rowOf (D := 0) m (i := to) (by omega))) (fun v g1 hq => ?_) (fun i g1 hq => ?_)
  rotate_left
  · rcases hq with ⟨_, hq⟩ | ⟨hn, hq⟩
    · cases hq
    · cases hq
      exact Or.inl ⟨rfl, Or.inr ⟨_, _, Or.inl ⟨by omega, rfl⟩, cS.thr hg m b0 d c, rfl⟩⟩
  rcases hq with ⟨kto, hq⟩ | ⟨_, hq⟩
  rotate_left
  · cases hq
  cases hq
  refine mj_T.eq (pc2 := 5) (st2 := [.ref (4 + to.toNat)]) ?_ rfl rfl rfl rfl
  iterate 3 refine mj_T.pl rfl rfl rfl rfl ?_
  refine mj_T.call rfl rfl (Nat.le_of_ble_eq_true rfl) (Nat.le_of_ble_eq_true rfl) (mV_of m 19 cq_d1 (by decide) rfl (by decide) rfl _) rfl (mj_Ok.up (by omega) (mC_rowOf (D := 0) m (i := a) (by omega))) (fun v g2 hq => ?_) (fun i g2 hq => ?_)
  rotate_left
  · rcases hq with ⟨_, hq⟩ | ⟨hn, hq⟩
    · cases hq
    · cases hq
      exact Or.inl ⟨rfl, Or.inr ⟨_, _, Or.inl ⟨by omega, rfl⟩, cS.thr hg m b0 d c, rfl⟩⟩
  rcases hq with ⟨ka, hq⟩ | ⟨_, hq⟩
  rotate_left
  · cases hq
  cases hq
  refine mj_T.eq (pc2 := 11) (st2 := [.ref (4 + a.toNat)]) ?_ rfl rfl rfl rfl
  refine mj_T.pl (loc' := [some (.ref 1), some (.int (jn to)), some (.int (jn a)), some (.ref (4 + a.toNat))]) rfl rfl rfl rfl ?_
  refine mj_T.pl rfl rfl rfl rfl ?_
  refine mj_T.call rfl rfl (Nat.le_of_ble_eq_true rfl) (Nat.le_of_ble_eq_true rfl) rfl rfl (mj_Ok.up (by omega) (mC_zero (D := 0) m (mK_rt a.toNat (by omega)) (c.sm A.1 ka))) (fun v g3 hq => ?_) (fun i g3 hq => ?_)
  rotate_left
  · rcases hq with ⟨_, hq⟩ | ⟨hn, hq⟩
    · cases hq
    · cases hq
      exact Or.inl ⟨rfl, Or.inr ⟨_, _, Or.inr ⟨⟨kto, ka⟩, Or.inl ⟨by have ez := fdg_congr 13 (c.rw ka); omega, rfl⟩⟩, cS.thr hg m b0 d c, rfl⟩⟩
  rcases hq with ⟨kz, hq⟩ | ⟨_, hq⟩
  rotate_left
  · cases hq
  cases hq
  refine mj_T.eq (pc2 := 16) (st2 := []) ?_ rfl rfl rfl rfl
  refine mj_T.pl rfl rfl rfl rfl ?_
  refine mT_get m 19 cq_d1 (by decide) rfl rfl ?_
  refine mj_T.pl rfl rfl rfl rfl ?_
  refine mj_T.call rfl rfl (Nat.le_of_ble_eq_true rfl) (Nat.le_of_ble_eq_true rfl) (mV_of m 15 cq_d444 (by decide) rfl (by decide) rfl _) rfl (mj_Ok.up (by omega) (mR_begin (D := 0) m b0 d (mK_rt a.toNat (by omega)) (c.sm A.1 ka) (by omega))) (fun v g4 hq => ?_) (fun i g4 hq => ?_)
  rotate_left
  · obtain ⟨_, _, _, _, _, _, _, _, _, _, _, _, _, _, _, _, _, _, _, hq⟩ := hq; cases hq
  obtain ⟨V6, X6, _, S, G, ds, dG, m6, b6, d6, fx, gp, es, hS1, hS2, hS3, hSb, hS4, hS5, hq⟩ := hq
  cases hq
  have s6 := sBn.fx fx
  have ez := fdg_congr 13 (c.rw ka)
  have hR : smR (rwN N a) S := by
    rw [ppr_cg (c.rw ka)] at gp es
    exact ⟨G, dG, gp, es, ds, hS3, hS1, hS2⟩
  refine mj_T.eq (pc2 := 24) (st2 := []) ?_ rfl rfl rfl rfl
  refine mj_T.pl rfl rfl rfl rfl ?_
  refine mT_get m6 19 cq_d1 (by decide) rfl rfl ?_
  refine mj_T.pl rfl rfl rfl rfl ?_
  refine mT_get m6 19 cq_d1 (by decide) rfl rfl ?_
  refine mj_T.call rfl rfl (Nat.le_of_ble_eq_true rfl) (Nat.le_of_ble_eq_true rfl) (mV_of m6 15 cq_d444 (by decide) rfl (by decide) rfl _) rfl (mj_Ok.up (by omega) (oX_sim (D := 0) (R := rwN N a) A m6 b6 d6 hS4 (fun e he => hS1 e (by omega)) hSb hR)) (fun v g5 hq => ?_) (fun i g5 hq => ?_)
  rotate_left
  · obtain ⟨_, _, _, _, _, _, _, _, _, hq⟩ := hq; cases hq
  obtain ⟨V5, X5, _, y, m5, b5, d5, s5, hy, hq⟩ := hq
  cases hq
  have hy2 : y = 0 ∨ y = 1 := by
    rcases hy with ⟨e, _⟩ | ⟨e, _⟩
    · exact Or.inr e
    · exact Or.inl e
  refine mj_T.eq (pc2 := 35) (st2 := [.int (jn y)]) ?_ rfl rfl rfl rfl
  refine mj_T.if0 (a := y) rfl ⟨by omega, by omega⟩ (fun c6 => ?_) (fun c6 => ?_)
  · simp only [jc, Bool.not_eq_true', Bool.not_eq_false', decide_eq_true_eq, decide_eq_false_iff_not] at c6
    have hok := hy.resolve_right (fun q => absurd q.1 (by omega))
    have hok : y = 1 ∧ sml (X5 481) ∧ (0 < fdg (rwN N a) 13 ∧ ∃ S, smR (rwN N a) S ∧ isP S (X5 481)) := ⟨hok.1, hok.2.1, by omega, hok.2.2⟩
    iterate 2 refine mj_T.pl rfl rfl rfl rfl ?_
    refine mj_T.call rfl rfl (Nat.le_of_ble_eq_true rfl) (Nat.le_of_ble_eq_true rfl) (mV_of m5 19 cq_d1 (by decide) rfl (by decide) rfl _) rfl (mj_Ok.up (by omega) (mX_keep (D := 0) A m5 b5 d5 (c.sb (s6.tr s5)) kto hok.2.1)) (fun v g7 hq => ?_) (fun i g7 hq => ?_)
    rotate_left
    · obtain ⟨_, _, hq⟩ := hq; cases hq
    obtain ⟨_, cs, hq⟩ := hq
    cases hq
    refine mj_T.eq (pc2 := 51) (st2 := [.int (jn ((fdg (X5 481) 13 : Int) - 1))]) ?_ rfl rfl rfl rfl
    exact mj_T.ret rfl rfl rfl (Or.inl ⟨⟨kto, ka⟩, _, _, hok.2.1, hok.2.2, cs, rfl⟩)
  · simp only [jc, Bool.not_eq_true', Bool.not_eq_false', decide_eq_true_eq, decide_eq_false_iff_not] at c6
    have hbad := hy.resolve_left (fun q => absurd q.1 (by omega))
    exact mj_T.throws rfl rfl rfl (Nat.le_of_ble_eq_true rfl) (Or.inr ⟨_, _, Or.inr ⟨⟨kto, ka⟩, Or.inr ⟨by omega, hbad.2, rfl⟩⟩, cS.thr hg m5 b5 d5 (c.sb (s6.tr s5)), rfl⟩)
theorem pX_primitive (hg : g.length ≤ n) (A : AS N u H) (s : cS g n N u H h) {to : Int} (rto : -2147483648 ≤ to ∧ to ≤ 2147483647) {a : Int} (ra : -2147483648 ≤ a ∧ a ≤ 2147483647) : mj_Ok (D + 6) 110 [.ref 1, .int (jn to), .int (jn a)] h (RO g n N u H ((0 ≤ to ∧ to ≤ 5) ∧ (0 ≤ a ∧ a ≤ 5)) (fun k => False ∧ k = 1) (fun w => ∀ j, j < 13 → w j = ppr (rwN N a) j) to) := by
  obtain ⟨V, X, m, b0, d, c⟩ := s
  refine mj_Ok.of (M := mj_m110) rfl rfl rfl ?_
  iterate 2 refine mj_T.pl rfl rfl rfl rfl ?_
  refine mj_T.call rfl rfl (Nat.le_of_ble_eq_true rfl) (Nat.le_of_ble_eq_true rfl) (mV_of m 19 cq_d1 (by decide) rfl (by decide) rfl _) rfl (mj_Ok.up (by omega) (mC_rowOf (D := 0) m (i := to) (by omega))) (fun v g1 hq => ?_) (fun i g1 hq => ?_)
  rotate_left
  · rcases hq with ⟨_, hq⟩ | ⟨hn, hq⟩
    · cases hq
    · cases hq
      exact Or.inl ⟨rfl, Or.inr ⟨_, _, Or.inl ⟨by omega, rfl⟩, cS.thr hg m b0 d c, rfl⟩⟩
  rcases hq with ⟨kto, hq⟩ | ⟨_, hq⟩
  rotate_left
  · cases hq
  cases hq
  refine mj_T.eq (pc2 := 5) (st2 := [.ref (4 + to.toNat)]) ?_ rfl rfl rfl rfl
  iterate 3 refine mj_T.pl rfl rfl rfl rfl ?_
  refine mj_T.call rfl rfl (Nat.le_of_ble_eq_true rfl) (Nat.le_of_ble_eq_true rfl) (mV_of m 19 cq_d1 (by decide) rfl (by decide) rfl _) rfl (mj_Ok.up (by omega) (mC_rowOf (D := 0) m (i := a) (by omega))) (fun v g2 hq => ?_) (fun i g2 hq => ?_)
  rotate_left
  · rcases hq with ⟨_, hq⟩ | ⟨hn, hq⟩
    · cases hq
    · cases hq
      exact Or.inl ⟨rfl, Or.inr ⟨_, _, Or.inl ⟨by omega, rfl⟩, cS.thr hg m b0 d c, rfl⟩⟩
  rcases hq with ⟨ka, hq⟩ | ⟨_, hq⟩
  rotate_left
  · cases hq
  cases hq
  refine mj_T.eq (pc2 := 11) (st2 := [.ref (4 + a.toNat)]) ?_ rfl rfl rfl rfl
  refine mj_T.pl (loc' := [some (.ref 1), some (.int (jn to)), some (.int (jn a)), some (.ref (4 + a.toNat)), none, none, none]) rfl rfl rfl rfl ?_
  refine mj_T.pl rfl rfl rfl rfl ?_
  refine mj_T.call rfl rfl (Nat.le_of_ble_eq_true rfl) (Nat.le_of_ble_eq_true rfl) rfl rfl (mj_Ok.up (by omega) (mS_scont (D := 0) m (mK_rt a.toNat (by omega)) (c.sm A.1 ka))) (fun v g3 hq => ?_) (fun i g3 hq => ?_)
  rotate_left
  · cases hq
  cases hq
  refine mj_T.eq (pc2 := 16) (st2 := [.long (jl (sgc (X (4 + a.toNat))))]) ?_ rfl rfl rfl rfl
  refine mj_T.pl (loc' := [some (.ref 1), some (.int (jn to)), some (.int (jn a)), some (.ref (4 + a.toNat)), some (.long (jl (sgc (X (4 + a.toNat))))), none, none]) rfl rfl rfl rfl ?_
  refine mj_T.pl rfl rfl rfl rfl ?_
  refine mj_T.pl (loc' := [some (.ref 1), some (.int (jn to)), some (.int (jn a)), some (.ref (4 + a.toNat)), some (.long (jl (sgc (X (4 + a.toNat))))), none, some (.int (jn 0))]) rfl rfl rfl rfl ?_
  refine mC_prim_loop (mK_rt a.toNat (by omega)) (by omega) (c.sm A.1 ka) (fun h5 m5 => ?_) 13 0 (by omega) _ (by rw [xfl_zero]; exact m)
  have b5 := b0
  have d5 : DG (xfl X 481 (ppr (X (4 + a.toNat))) 13) := d.of (fun p kp => xfl_off _ _ _ (by have := cK_13 kp; omega))
  have s5 : sBn X (xfl X 481 (ppr (X (4 + a.toNat))) 13) := sBn.row (Or.inl rfl)
  have hw : ∀ j, j < 13 → (xfl X 481 (ppr (X (4 + a.toNat))) 13) 481 j = ppr (rwN N a) j := fun j hj => by
    rw [xfl_at _ _ _ hj, ppr_cg (c.rw ka)]
  have hok : True ∧ sml ((xfl X 481 (ppr (X (4 + a.toNat))) 13) 481) ∧ ∀ j, j < 13 → (xfl X 481 (ppr (X (4 + a.toNat))) 13) 481 j = ppr (rwN N a) j := ⟨trivial, fun j hj => by
    rw [xfl_at _ _ _ hj]
    exact ppr_sml (c.sm A.1 ka) j, hw⟩
  iterate 2 refine mj_T.pl rfl rfl rfl rfl ?_
  refine mj_T.call rfl rfl (Nat.le_of_ble_eq_true rfl) (Nat.le_of_ble_eq_true rfl) (mV_of m5 19 cq_d1 (by decide) rfl (by decide) rfl _) rfl (mj_Ok.up (by omega) (mX_keep (D := 0) A m5 b5 d5 (c.sb s5) kto hok.2.1)) (fun v g61 hq => ?_) (fun i g61 hq => ?_)
  rotate_left
  · obtain ⟨_, _, hq⟩ := hq; cases hq
  obtain ⟨_, cs, hq⟩ := hq
  cases hq
  refine mj_T.eq (pc2 := 71) (st2 := [.int (jn ((fdg ((xfl X 481 (ppr (X (4 + a.toNat))) 13) 481) 13 : Int) - 1))]) ?_ rfl rfl rfl rfl
  exact mj_T.ret rfl rfl rfl (Or.inl ⟨⟨kto, ka⟩, _, _, hok.2.1, hok.2.2, cs, rfl⟩)
theorem pX_residue (hg : g.length ≤ n) (A : AS N u H) (s : cS g n N u H h) {to : Int} (rto : -2147483648 ≤ to ∧ to ≤ 2147483647) {a : Int} (ra : -2147483648 ≤ a ∧ a ≤ 2147483647) {p : Int} (rp : -2147483648 ≤ p ∧ p ≤ 2147483647) : mj_Ok (D + 6) 112 [.ref 1, .int (jn to), .int (jn a), .int (jn p)] h (RO g n N u H ((0 ≤ to ∧ to ≤ 5) ∧ (0 ≤ a ∧ a ≤ 5)) (fun k => ¬ prm p ∧ k = 2) (fun w => prm p ∧ ∀ j, j < 13 → w j = rwN N a j % p) to) := by
  obtain ⟨V, X, m, b0, d, c⟩ := s
  refine mj_Ok.of (M := mj_m112) rfl rfl rfl ?_
  iterate 2 refine mj_T.pl rfl rfl rfl rfl ?_
  refine mj_T.call rfl rfl (Nat.le_of_ble_eq_true rfl) (Nat.le_of_ble_eq_true rfl) (mV_of m 19 cq_d1 (by decide) rfl (by decide) rfl _) rfl (mj_Ok.up (by omega) (mC_rowOf (D := 0) m (i := to) (by omega))) (fun v g1 hq => ?_) (fun i g1 hq => ?_)
  rotate_left
  · rcases hq with ⟨_, hq⟩ | ⟨hn, hq⟩
    · cases hq
    · cases hq
      exact Or.inl ⟨rfl, Or.inr ⟨_, _, Or.inl ⟨by omega, rfl⟩, cS.thr hg m b0 d c, rfl⟩⟩
  rcases hq with ⟨kto, hq⟩ | ⟨_, hq⟩
  rotate_left
  · cases hq
  cases hq
  refine mj_T.eq (pc2 := 5) (st2 := [.ref (4 + to.toNat)]) ?_ rfl rfl rfl rfl
  iterate 3 refine mj_T.pl rfl rfl rfl rfl ?_
  refine mj_T.call rfl rfl (Nat.le_of_ble_eq_true rfl) (Nat.le_of_ble_eq_true rfl) (mV_of m 19 cq_d1 (by decide) rfl (by decide) rfl _) rfl (mj_Ok.up (by omega) (mC_rowOf (D := 0) m (i := a) (by omega))) (fun v g2 hq => ?_) (fun i g2 hq => ?_)
  rotate_left
  · rcases hq with ⟨_, hq⟩ | ⟨hn, hq⟩
    · cases hq
    · cases hq
      exact Or.inl ⟨rfl, Or.inr ⟨_, _, Or.inl ⟨by omega, rfl⟩, cS.thr hg m b0 d c, rfl⟩⟩
  rcases hq with ⟨ka, hq⟩ | ⟨_, hq⟩
  rotate_left
  · cases hq
  cases hq
  refine mj_T.eq (pc2 := 11) (st2 := [.ref (4 + a.toNat)]) ?_ rfl rfl rfl rfl
  refine mj_T.pl (loc' := [some (.ref 1), some (.int (jn to)), some (.int (jn a)), some (.int (jn p)), some (.ref (4 + a.toNat)), none]) rfl rfl rfl rfl ?_
  refine mj_T.pl rfl rfl rfl rfl ?_
  refine mj_T.call rfl rfl (Nat.le_of_ble_eq_true rfl) (Nat.le_of_ble_eq_true rfl) rfl rfl (mj_Ok.up (by omega) (mC_prime (D := 0) (p := p) (by omega))) (fun v g3 hq => ?_) (fun i g3 hq => ?_)
  rotate_left
  · rcases hq with ⟨_, hq⟩ | ⟨hn, hq⟩
    · cases hq
    · cases hq
      exact Or.inl ⟨rfl, Or.inr ⟨_, _, Or.inr ⟨⟨kto, ka⟩, ⟨hn, rfl⟩⟩, cS.thr hg m b0 d c, rfl⟩⟩
  rcases hq with ⟨kp, hq⟩ | ⟨_, hq⟩
  rotate_left
  · cases hq
  cases hq
  refine mj_T.eq (pc2 := 17) (st2 := []) ?_ rfl rfl rfl rfl
  refine mj_T.pl rfl rfl rfl rfl ?_
  refine mj_T.pl (loc' := [some (.ref 1), some (.int (jn to)), some (.int (jn a)), some (.int (jn p)), some (.ref (4 + a.toNat)), some (.int (jn 0))]) rfl rfl rfl rfl ?_
  refine mC_res_loop (mK_rt a.toNat (by omega)) (by omega) (c.sm A.1 ka) (p := p) ⟨by have := kp.1; omega, kp.1.2⟩ (fun h5 m5 => ?_) 13 0 (by omega) _ (by rw [xfl_zero]; exact m)
  have b5 := b0
  have d5 : DG (xfl X 481 (fun j => X (4 + a.toNat) j % p) 13) := d.of (fun p kp => xfl_off _ _ _ (by have := cK_13 kp; omega))
  have s5 : sBn X (xfl X 481 (fun j => X (4 + a.toNat) j % p) 13) := sBn.row (Or.inl rfl)
  have hw : ∀ j, j < 13 → (xfl X 481 (fun j => X (4 + a.toNat) j % p) 13) 481 j = rwN N a j % p := fun j hj => by
    rw [xfl_at _ _ _ hj, c.rw ka j hj]
  have hok : True ∧ sml ((xfl X 481 (fun j => X (4 + a.toNat) j % p) 13) 481) ∧ (prm p ∧ ∀ j, j < 13 → (xfl X 481 (fun j => X (4 + a.toNat) j % p) 13) 481 j = rwN N a j % p) := ⟨trivial, fun j hj => by
    rw [hw j hj]
    have h1 := Int.emod_nonneg (rwN N a j) (b := p) (by have := kp.1; omega)
    have h2 := Int.emod_lt_of_pos (rwN N a j) (b := p) (by have := kp.1; omega)
    have := kp.1
    omega, kp, hw⟩
  iterate 2 refine mj_T.pl rfl rfl rfl rfl ?_
  refine mj_T.call rfl rfl (Nat.le_of_ble_eq_true rfl) (Nat.le_of_ble_eq_true rfl) (mV_of m5 19 cq_d1 (by decide) rfl (by decide) rfl _) rfl (mj_Ok.up (by omega) (mX_keep (D := 0) A m5 b5 d5 (c.sb s5) kto hok.2.1)) (fun v g61 hq => ?_) (fun i g61 hq => ?_)
  rotate_left
  · obtain ⟨_, _, hq⟩ := hq; cases hq
  obtain ⟨_, cs, hq⟩ := hq
  cases hq
  refine mj_T.eq (pc2 := 63) (st2 := [.int (jn ((fdg ((xfl X 481 (fun j => X (4 + a.toNat) j % p) 13) 481) 13 : Int) - 1))]) ?_ rfl rfl rfl rfl
  exact mj_T.ret rfl rfl rfl (Or.inl ⟨⟨kto, ka⟩, _, _, hok.2.1, hok.2.2, cs, rfl⟩)
theorem pX_setTerm (hg : g.length ≤ n) (A : AS N u H) (s : cS g n N u H h) {to : Int} (rto : -2147483648 ≤ to ∧ to ≤ 2147483647) {e : Int} (re : -2147483648 ≤ e ∧ e ≤ 2147483647) {x : Int} (rx : jR x) : mj_Ok (D + 6) 113 [.ref 1, .int (jn to), .int (jn e), .long (jl x)] h (RO g n N u H ((0 ≤ to ∧ to ≤ 5)) (fun k => (¬ (0 ≤ e ∧ e ≤ 12) ∧ k = 2) ∨ ((0 ≤ e ∧ e ≤ 12) ∧ ¬ x.natAbs ≤ 999999999999999999 ∧ k = 1)) (fun w => ((0 ≤ e ∧ e ≤ 12) ∧ x.natAbs ≤ 999999999999999999) ∧ ∀ j, j < 13 → w j = if j = e.toNat then x else rwN N to j) to) := by
  obtain ⟨V, X, m, b0, d, c⟩ := s
  refine mj_Ok.of (M := mj_m113) rfl rfl rfl ?_
  iterate 2 refine mj_T.pl rfl rfl rfl rfl ?_
  refine mj_T.call rfl rfl (Nat.le_of_ble_eq_true rfl) (Nat.le_of_ble_eq_true rfl) (mV_of m 19 cq_d1 (by decide) rfl (by decide) rfl _) rfl (mj_Ok.up (by omega) (mC_rowOf (D := 0) m (i := to) (by omega))) (fun v g1 hq => ?_) (fun i g1 hq => ?_)
  rotate_left
  · rcases hq with ⟨_, hq⟩ | ⟨hn, hq⟩
    · cases hq
    · cases hq
      exact Or.inl ⟨rfl, Or.inr ⟨_, _, Or.inl ⟨by omega, rfl⟩, cS.thr hg m b0 d c, rfl⟩⟩
  rcases hq with ⟨kto, hq⟩ | ⟨_, hq⟩
  rotate_left
  · cases hq
  cases hq
  refine mj_T.eq (pc2 := 5) (st2 := [.ref (4 + to.toNat)]) ?_ rfl rfl rfl rfl
  refine mj_T.pl (loc' := [some (.ref 1), some (.int (jn to)), some (.int (jn e)), some (.long (jl x)), none, some (.ref (4 + to.toNat))]) rfl rfl rfl rfl ?_
  refine mj_T.pl rfl rfl rfl rfl ?_
  refine mj_T.call rfl rfl (Nat.le_of_ble_eq_true rfl) (Nat.le_of_ble_eq_true rfl) rfl rfl (mj_Ok.up (by omega) (mC_exponent (D := 0) (i := e) (by omega))) (fun v g2 hq => ?_) (fun i g2 hq => ?_)
  rotate_left
  · rcases hq with ⟨_, hq⟩ | ⟨hn, hq⟩
    · cases hq
    · cases hq
      exact Or.inl ⟨rfl, Or.inr ⟨_, _, Or.inr ⟨kto, Or.inl ⟨hn, rfl⟩⟩, cS.thr hg m b0 d c, rfl⟩⟩
  rcases hq with ⟨ke, hq⟩ | ⟨_, hq⟩
  rotate_left
  · cases hq
  cases hq
  refine mj_T.eq (pc2 := 11) (st2 := []) ?_ rfl rfl rfl rfl
  refine mj_T.pl rfl rfl rfl rfl ?_
  refine mj_T.call rfl rfl (Nat.le_of_ble_eq_true rfl) (Nat.le_of_ble_eq_true rfl) rfl rfl (mj_Ok.up (by omega) (mS_short (D := 0) (x := x) rx)) (fun v g3 hq => ?_) (fun i g3 hq => ?_)
  rotate_left
  · rcases hq with ⟨_, hq⟩ | ⟨_, hq⟩ <;> cases hq
  obtain ⟨y, hy, hq⟩ : ∃ y : Int, ((y = 1 ∧ x.natAbs ≤ 999999999999999999) ∨ (y = 0 ∧ ¬ x.natAbs ≤ 999999999999999999)) ∧ ((.inl v, g3) : mj_R) = (.inl (some (.int (jn y))), h) := by
    rcases hq with ⟨ho, hq⟩ | ⟨ho, hq⟩
    · exact ⟨1, Or.inl ⟨rfl, ho⟩, hq⟩
    · exact ⟨0, Or.inr ⟨rfl, ho⟩, hq⟩
  cases hq
  have hy2 : y = 0 ∨ y = 1 := by omega
  refine mj_T.eq (pc2 := 15) (st2 := [.int (jn y)]) ?_ rfl rfl rfl rfl
  refine mj_T.if0 (a := y) rfl ⟨by omega, by omega⟩ (fun c4 => ?_) (fun c4 => ?_)
  · simp only [jc, Bool.not_eq_true', Bool.not_eq_false', decide_eq_true_eq, decide_eq_false_iff_not] at c4
    iterate 2 refine mj_T.pl rfl rfl rfl rfl ?_
    refine mT_get m 19 cq_d1 (by decide) rfl rfl ?_
    refine mj_T.call rfl rfl (Nat.le_of_ble_eq_true rfl) (Nat.le_of_ble_eq_true rfl) rfl rfl (mj_Ok.up (by omega) (mS_copy (D := 0) m (mK_rt to.toNat (by omega)) cq_d481)) (fun v g5 hq => ?_) (fun i g5 hq => ?_)
    rotate_left
    · obtain ⟨_, _, hq⟩ := hq; cases hq
    obtain ⟨_, m6, hq⟩ := hq
    cases hq
    refine mj_T.eq (pc2 := 35) (st2 := []) ?_ rfl rfl rfl rfl
    refine mj_T.pl rfl rfl rfl rfl ?_
    refine mT_get m6 19 cq_d1 (by decide) rfl rfl ?_
    iterate 2 refine mj_T.pl rfl rfl rfl rfl ?_
    refine mT_last (v := x) m6 cq_d481 rfl ⟨by omega, by omega⟩ (fun h6 m7 => ?_)
    iterate 2 refine mj_T.pl rfl rfl rfl rfl ?_
    have hw : ∀ j, j < 13 → (xup (xfl X 481 (X (4 + to.toNat)) 13) 481 e.toNat x) 481 j = if j = e.toNat then x else rwN N to j := fun j hj => by
      by_cases q : j = e.toNat
      · rw [if_pos q, q, xup_at]
      · rw [if_neg q, xup_ne _ _ (Or.inr q), xfl_at _ _ _ hj]
        exact c.rw kto j hj
    have hok : True ∧ sml ((xup (xfl X 481 (X (4 + to.toNat)) 13) 481 e.toNat x) 481) ∧ (((0 ≤ e ∧ e ≤ 12) ∧ x.natAbs ≤ 999999999999999999) ∧ ∀ j, j < 13 → (xup (xfl X 481 (X (4 + to.toNat)) 13) 481 e.toNat x) 481 j = if j = e.toNat then x else rwN N to j) := ⟨trivial, fun j hj => by
      rw [hw j hj]
      split
      · omega
      · rw [← c.rw kto j hj]
        exact c.sm A.1 kto j hj, ⟨ke, by omega⟩, hw⟩
    have m5 : jM g n V (xup (xfl X 481 (X (4 + to.toNat)) 13) 481 e.toNat x) h6 := m7
    have b5 := b0
    have d5 : DG (xup (xfl X 481 (X (4 + to.toNat)) 13) 481 e.toNat x) := d.of (fun p kp => by rw [xup_oth (by have := cK_13 kp; omega), xfl_off _ _ _ (by have := cK_13 kp; omega)])
    have s5 : sBn X (xup (xfl X 481 (X (4 + to.toNat)) 13) 481 e.toNat x) := sBn.of (fun c hc => by rw [xup_oth hc, xfl_off _ _ _ hc])
    refine mj_T.call rfl rfl (Nat.le_of_ble_eq_true rfl) (Nat.le_of_ble_eq_true rfl) (mV_of m7 19 cq_d1 (by decide) rfl (by decide) rfl _) rfl (mj_Ok.up (by omega) (mX_keep (D := 0) A m5 b5 d5 (c.sb s5) kto hok.2.1)) (fun v g8 hq => ?_) (fun i g8 hq => ?_)
    rotate_left
    · obtain ⟨_, _, hq⟩ := hq; cases hq
    obtain ⟨_, cs, hq⟩ := hq
    cases hq
    refine mj_T.eq (pc2 := 47) (st2 := [.int (jn ((fdg ((xup (xfl X 481 (X (4 + to.toNat)) 13) 481 e.toNat x) 481) 13 : Int) - 1))]) ?_ rfl rfl rfl rfl
    exact mj_T.ret rfl rfl rfl (Or.inl ⟨kto, _, _, hok.2.1, hok.2.2, cs, rfl⟩)
  · simp only [jc, Bool.not_eq_true', Bool.not_eq_false', decide_eq_true_eq, decide_eq_false_iff_not] at c4
    exact mj_T.throws rfl rfl rfl (Nat.le_of_ble_eq_true rfl) (Or.inr ⟨_, _, Or.inr ⟨kto, Or.inr ⟨ke, by omega, rfl⟩⟩, cS.thr hg m b0 d c, rfl⟩)
end MP4
