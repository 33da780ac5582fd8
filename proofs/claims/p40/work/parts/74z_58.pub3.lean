/-! The class, exactly: divide, addPoint, clearPoints, undo. -/
/-- what divide lays: quotient and rest -/
def dvQ (A B : pz_P) : pz_P := qe A B (fdg B 13 - 1) ((fdg A 13 - (fdg B 13 - 1)) - 1) (fdg A 13 - (fdg B 13 - 1))
def dvT (A B : pz_P) : pz_P := er A B (fdg B 13 - 1) ((fdg A 13 - (fdg B 13 - 1)) - 1) (fdg A 13 - (fdg B 13 - 1))
theorem CR.pts0 {X : Nat → Nat → Int} {N : Nat → Int} {u : Nat} {H : Nat → Nat → Int} (c : CR X N u H) : CR (xup X 2 3 0) (jvu N 78 0) u H := by
  obtain ⟨e, he, h3, h2, b, bh, tl⟩ := c
  refine ⟨e, he, by rw [xup_oth (by omega)]; exact h3, by rw [xup_oth (by omega)]; exact h2, ⟨fun r hr j hj => ?_, ?_, fun k hk => ?_⟩, fun k hk => (bh k hk).cg (fun c c1 c2 => xup_oth (by omega)), tl.to (fun c hc => xup_oth (by omega))⟩
  · rw [xup_oth (by omega), jvu_ne _ _ _ (by omega)]
    exact b.1 r hr j hj
  · rw [xup_at, jvu_at]
  · rw [jvu_at] at hk
    exact absurd hk (by omega)
/-- one point more -/
def adN (N : Nat → Int) (x y : Int) : Nat → Int := jvu (jvu (jvu N (79 + (N 78).toNat) x) (85 + (N 78).toNat) y) 78 (((N 78).toNat + 1 : Nat) : Int)
theorem CR.addp {X : Nat → Nat → Int} {N : Nat → Int} {u : Nat} {H : Nat → Nat → Int} {x y : Int} (hp : 0 ≤ N 78 ∧ N 78 < 6) (c : CR X N u H) : CR (xup (xup (xup X (2 + 8) (N 78).toNat x) (2 + 9) (N 78).toNat y) 2 3 (((N 78).toNat + 1 : Nat) : Int)) (adN N x y) u H := by
  obtain ⟨e, he, h3, h2, b, bh, tl⟩ := c
  unfold adN
  refine ⟨e, he, by rw [xup_oth (by omega), xup_oth (by omega), xup_oth (by omega)]; exact h3, by rw [xup_oth (by omega), xup_oth (by omega), xup_oth (by omega)]; exact h2, ⟨fun r hr j hj => ?_, ?_, fun k hk => ?_⟩, fun k hk => (bh k hk).cg (fun c c1 c2 => by rw [xup_oth (by omega), xup_oth (by omega), xup_oth (by omega)]), tl.to (fun c hc => by rw [xup_oth (by omega), xup_oth (by omega), xup_oth (by omega)])⟩
  · rw [xup_oth (by omega), xup_oth (by omega), xup_oth (by omega), jvu_ne _ _ _ (by omega), jvu_ne _ _ _ (by omega), jvu_ne _ _ _ (by omega)]
    exact b.1 r hr j hj
  · rw [xup_at, jvu_at]
  · rw [jvu_at] at hk
    by_cases q : k = (N 78).toNat
    · subst q
      refine ⟨?_, ?_⟩
      · rw [xup_oth (by omega), xup_oth (by omega), xup_at, jvu_ne _ _ _ (by omega), jvu_ne _ _ _ (by omega), jvu_at]
      · rw [xup_oth (by omega), xup_at, jvu_ne _ _ _ (by omega), jvu_at]
    · refine ⟨?_, ?_⟩
      · rw [xup_oth (by omega), xup_oth (by omega), xup_ne _ _ (Or.inr q), jvu_ne _ _ _ (by omega), jvu_ne _ _ _ (by omega), jvu_ne _ _ _ (by omega)]
        exact (b.2.2 k (by omega)).1
      · rw [xup_oth (by omega), xup_ne _ _ (Or.inr q), xup_oth (by omega), jvu_ne _ _ _ (by omega), jvu_ne _ _ _ (by omega), jvu_ne _ _ _ (by omega)]
        exact (b.2.2 k (by omega)).2
section MP5
variable {g h : mj_H} {n D u : Nat} {V : Nat → Int} {X : Nat → Nat → Int} {N : Nat → Int} {H : Nat → Nat → Int}
theorem mX_keepM (A : AS N u H) (m : jM g n V X h) (d : DG X) (c : CR X N u H) {to : Int} (ht : 0 ≤ to ∧ to ≤ 5) (hr : sml (X 481)) : mj_Ok (D + 5) 154 [.ref 1, .int (jn to)] h (fun z => ∃ (X2 : Nat → Nat → Int) (h2 : mj_H), jM g n V (xfl X2 (4 + to.toNat) (X 481) 13) h2 ∧ DG X2 ∧ CR X2 N (upu u) (pushH N H) ∧ X2 482 = X 482 ∧ z = (.inl (some (.int (jn ((fdg (X 481) 13 : Int) - 1)))), h2)) := by
  obtain ⟨e, he, h3, h2, b, bh, tl⟩ := c
  have k := mC_keep (D := D) m he A.2.1 h3 h2 (b.pt A.1) (to := to.toNat) (by omega) hr
  rw [Int.toNat_of_nonneg ht.1] at k
  refine k.to (fun z hz => ?_)
  obtain ⟨X2, h2', m2, kk, rfl⟩ := hz
  exact ⟨X2, h2', m2, kk.dg he d, CR.keep he A.2.1 h3 b bh tl kk, kk.2.1 482 (by omega) (by decide), rfl⟩
theorem oX_div (A : AS N u H) (m : jM g n V X h) (b0 : by0 V) (d : DG X) (c : CR X N u H) {a : Int} (ha : 0 ≤ a ∧ a ≤ 5) {b : Int} (hb : 0 ≤ b ∧ b ≤ 5) (hz : 0 < fdg (X (4 + b.toNat)) 13) : mj_Ok (D + 5) 16 [.ref 19, .ref (4 + a.toNat), .ref (4 + b.toNat), .ref 481, .ref 482] h (fun z => ∃ (V2 : Nat → Int) (X2 : Nat → Nat → Int) (h2 : mj_H) (y : Int), jM g n V2 X2 h2 ∧ by0 V2 ∧ DG X2 ∧ sBn X X2 ∧ ((y = 1 ∧ (fit13 (dvQ (rwN N a) (rwN N b)) ∧ fit13 (dvT (rwN N a) (rwN N b))) ∧ (∀ j, j < 13 → X2 481 j = dvQ (rwN N a) (rwN N b) j) ∧ ∀ j, j < 13 → X2 482 j = dvT (rwN N a) (rwN N b) j) ∨ (y = 0 ∧ ¬ (fit13 (dvQ (rwN N a) (rwN N b)) ∧ fit13 (dvT (rwN N a) (rwN N b))))) ∧ z = (.inl (some (.int (jn y))), h2)) := by
  refine (mD_divRows (D := D) m b0 (db := fdg (X (4 + b.toNat)) 13 - 1) (mK_rt a.toNat (by omega)) (mK_rt b.toNat (by omega)) cq_d481 cq_d482 (by decide) (c.sm A.1 ha) (c.sm A.1 hb) (by omega) d).to (fun z hq => ?_)
  obtain ⟨V2, X2, h2, m2, b2, d2, fx, hq⟩ := hq
  rw [c.rw13 ha, c.rw13 hb, fdg_congr 13 (c.rw ha), fdg_congr 13 (c.rw hb)] at hq
  rcases hq with ⟨f1, f2, rfl, x1, x2⟩ | ⟨hf, rfl⟩
  · exact ⟨V2, X2, h2, 1, m2, b2, d2, sBn.fxu fx, Or.inl ⟨rfl, ⟨f1, f2⟩, x1, x2⟩, rfl⟩
  · exact ⟨V2, X2, h2, 0, m2, b2, d2, sBn.fxu fx, Or.inr ⟨rfl, hf⟩, rfl⟩
end MP5
section MP6
variable {g h : mj_H} {n D u : Nat} {N : Nat → Int} {H : Nat → Nat → Int}
theorem pX_divide (hg : g.length ≤ n) (A : AS N u H) (s : cS g n N u H h) {to : Int} (rto : -2147483648 ≤ to ∧ to ≤ 2147483647) {tr : Int} (rtr : -2147483648 ≤ tr ∧ tr ≤ 2147483647) {a : Int} (ra : -2147483648 ≤ a ∧ a ≤ 2147483647) {b : Int} (rb : -2147483648 ≤ b ∧ b ≤ 2147483647) : mj_Ok (D + 7) 108 [.ref 1, .int (jn to), .int (jn tr), .int (jn a), .int (jn b)] h (fun z => (((0 ≤ to ∧ to ≤ 5) ∧ (0 ≤ tr ∧ tr ≤ 5) ∧ (0 ≤ a ∧ a ≤ 5) ∧ (0 ≤ b ∧ b ≤ 5)) ∧ to ≠ tr ∧ 0 < fdg (rwN N b) 13 ∧ fit13 (dvQ (rwN N a) (rwN N b)) ∧ fit13 (dvT (rwN N a) (rwN N b)) ∧ ∃ (q r : Nat → Int) (h2 : mj_H), (∀ j, j < 13 → q j = dvQ (rwN N a) (rwN N b) j) ∧ (∀ j, j < 13 → r j = dvT (rwN N a) (rwN N b) j) ∧ cS g n (jfl (jfl N to.toNat q 13) tr.toNat r 13) (upu u) (pushH N H) h2 ∧ z = (.inl (some (.int (jn ((fdg (rwN N a) 13 - (fdg (rwN N b) 13 - 1) : Nat) : Int)))), h2)) ∨ (∃ (k : Nat) (h2 : mj_H), ((¬ ((0 ≤ to ∧ to ≤ 5) ∧ (0 ≤ tr ∧ tr ≤ 5) ∧ (0 ≤ a ∧ a ≤ 5) ∧ (0 ≤ b ∧ b ≤ 5)) ∧ k = 0) ∨ (((0 ≤ to ∧ to ≤ 5) ∧ (0 ≤ tr ∧ tr ≤ 5) ∧ (0 ≤ a ∧ a ≤ 5) ∧ (0 ≤ b ∧ b ≤ 5)) ∧ ((to = tr ∧ k = 2) ∨ (to ≠ tr ∧ fdg (rwN N b) 13 = 0 ∧ k = 3) ∨ (to ≠ tr ∧ 0 < fdg (rwN N b) 13 ∧ ¬ (fit13 (dvQ (rwN N a) (rwN N b)) ∧ fit13 (dvT (rwN N a) (rwN N b))) ∧ k = 1)))) ∧ cS g (n + 1) N u H h2 ∧ z = (.inr k, h2))) := by
  obtain ⟨V, X, m, b0, d, c⟩ := s
  refine mj_Ok.of (M := mj_m108) rfl rfl rfl ?_
  iterate 2 refine mj_T.pl rfl rfl rfl rfl ?_
  refine mj_T.call rfl rfl (Nat.le_of_ble_eq_true rfl) (Nat.le_of_ble_eq_true rfl) (mV_of m 19 cq_d1 (by decide) rfl (by decide) rfl _) rfl (mj_Ok.up (by omega) (mC_rowOf (D := 0) m (i := to) (by omega))) (fun v g1 hq => ?_) (fun i g1 hq => ?_)
  rotate_left
  · rcases hq with ⟨_, hq⟩ | ⟨hn, hq⟩
    · cases hq
    · cases hq
      exact Or.inl ⟨rfl, Or.inr ⟨_, _, Or.inl ⟨by omega, rfl⟩, cS.thr hg m b0 d c, rfl⟩⟩
  rcases hq with ⟨kto, hq⟩ | ⟨_, hq⟩
  rotate_left
  · cases hq
  cases hq
  refine mj_T.eq (pc2 := 5) (st2 := [.ref (4 + to.toNat)]) ?_ rfl rfl rfl rfl
  iterate 3 refine mj_T.pl rfl rfl rfl rfl ?_
  refine mj_T.call rfl rfl (Nat.le_of_ble_eq_true rfl) (Nat.le_of_ble_eq_true rfl) (mV_of m 19 cq_d1 (by decide) rfl (by decide) rfl _) rfl (mj_Ok.up (by omega) (mC_rowOf (D := 0) m (i := tr) (by omega))) (fun v g2 hq => ?_) (fun i g2 hq => ?_)
  rotate_left
  · rcases hq with ⟨_, hq⟩ | ⟨hn, hq⟩
    · cases hq
    · cases hq
      exact Or.inl ⟨rfl, Or.inr ⟨_, _, Or.inl ⟨by omega, rfl⟩, cS.thr hg m b0 d c, rfl⟩⟩
  rcases hq with ⟨ktr, hq⟩ | ⟨_, hq⟩
  rotate_left
  · cases hq
  cases hq
  refine mj_T.eq (pc2 := 11) (st2 := [.ref (4 + tr.toNat)]) ?_ rfl rfl rfl rfl
  iterate 3 refine mj_T.pl rfl rfl rfl rfl ?_
  refine mj_T.call rfl rfl (Nat.le_of_ble_eq_true rfl) (Nat.le_of_ble_eq_true rfl) (mV_of m 19 cq_d1 (by decide) rfl (by decide) rfl _) rfl (mj_Ok.up (by omega) (mC_rowOf (D := 0) m (i := a) (by omega))) (fun v g3 hq => ?_) (fun i g3 hq => ?_)
  rotate_left
  · rcases hq with ⟨_, hq⟩ | ⟨hn, hq⟩
    · cases hq
    · cases hq
      exact Or.inl ⟨rfl, Or.inr ⟨_, _, Or.inl ⟨by omega, rfl⟩, cS.thr hg m b0 d c, rfl⟩⟩
  rcases hq with ⟨ka, hq⟩ | ⟨_, hq⟩
  rotate_left
  · cases hq
  cases hq
  refine mj_T.eq (pc2 := 17) (st2 := [.ref (4 + a.toNat)]) ?_ rfl rfl rfl rfl
  refine mj_T.pl (loc' := [some (.ref 1), some (.int (jn to)), some (.int (jn tr)), some (.int (jn a)), some (.int (jn b)), some (.ref (4 + a.toNat)), none, none]) rfl rfl rfl rfl ?_
  iterate 2 refine mj_T.pl rfl rfl rfl rfl ?_
  refine mj_T.call rfl rfl (Nat.le_of_ble_eq_true rfl) (Nat.le_of_ble_eq_true rfl) (mV_of m 19 cq_d1 (by decide) rfl (by decide) rfl _) rfl (mj_Ok.up (by omega) (mC_rowOf (D := 0) m (i := b) (by omega))) (fun v g4 hq => ?_) (fun i g4 hq => ?_)
  rotate_left
  · rcases hq with ⟨_, hq⟩ | ⟨hn, hq⟩
    · cases hq
    · cases hq
      exact Or.inl ⟨rfl, Or.inr ⟨_, _, Or.inl ⟨by omega, rfl⟩, cS.thr hg m b0 d c, rfl⟩⟩
  rcases hq with ⟨kb, hq⟩ | ⟨_, hq⟩
  rotate_left
  · cases hq
  cases hq
  refine mj_T.eq (pc2 := 25) (st2 := [.ref (4 + b.toNat)]) ?_ rfl rfl rfl rfl
  refine mj_T.pl (loc' := [some (.ref 1), some (.int (jn to)), some (.int (jn tr)), some (.int (jn a)), some (.int (jn b)), some (.ref (4 + a.toNat)), some (.ref (4 + b.toNat)), none]) rfl rfl rfl rfl ?_
  iterate 2 refine mj_T.pl rfl rfl rfl rfl ?_
  refine mj_T.icmp (a := to) (b := tr) rfl ⟨by omega, by omega⟩ ⟨by omega, by omega⟩ (fun c5 => ?_) (fun c5 => ?_)
  · simp only [jc, Bool.not_eq_true', Bool.not_eq_false', decide_eq_true_eq, decide_eq_false_iff_not] at c5
    refine mj_T.pl rfl rfl rfl rfl ?_
    refine mj_T.call rfl rfl (Nat.le_of_ble_eq_true rfl) (Nat.le_of_ble_eq_true rfl) rfl rfl (mj_Ok.up (by omega) (mC_zero (D := 0) m (mK_rt b.toNat (by omega)) (c.sm A.1 kb))) (fun v g6 hq => ?_) (fun i g6 hq => ?_)
    rotate_left
    · rcases hq with ⟨_, hq⟩ | ⟨hn, hq⟩
      · cases hq
      · cases hq
        exact Or.inl ⟨rfl, Or.inr ⟨_, _, Or.inr ⟨⟨kto, ktr, ka, kb⟩, Or.inr (Or.inl ⟨by omega, by have ez := fdg_congr 13 (c.rw kb); omega, rfl⟩)⟩, cS.thr hg m b0 d c, rfl⟩⟩
    rcases hq with ⟨kz, hq⟩ | ⟨_, hq⟩
    rotate_left
    · cases hq
    cases hq
    refine mj_T.eq (pc2 := 45) (st2 := []) ?_ rfl rfl rfl rfl
    refine mj_T.pl rfl rfl rfl rfl ?_
    refine mj_T.call rfl rfl (Nat.le_of_ble_eq_true rfl) (Nat.le_of_ble_eq_true rfl) rfl rfl (mj_Ok.up (by omega) (mS_deg (D := 0) m (mK_rt a.toNat (by omega)) (c.sm A.1 ka))) (fun v g7 hq => ?_) (fun i g7 hq => ?_)
    rotate_left
    · cases hq
    cases hq
    have ga := fdg_le (X (4 + a.toNat)) 13
    have ea := fdg_congr 13 (c.rw ka)
    refine mj_T.eq (pc2 := 50) (st2 := [.int (jn ((fdg (X (4 + a.toNat)) 13 : Int) - 1))]) ?_ rfl rfl rfl rfl
    refine mj_T.pl rfl rfl rfl rfl ?_
    refine mj_T.call rfl rfl (Nat.le_of_ble_eq_true rfl) (Nat.le_of_ble_eq_true rfl) rfl rfl (mj_Ok.up (by omega) (mS_deg (D := 0) m (mK_rt b.toNat (by omega)) (c.sm A.1 kb))) (fun v g8 hq => ?_) (fun i g8 hq => ?_)
    rotate_left
    · cases hq
    cases hq
    have gb := fdg_le (X (4 + b.toNat)) 13
    have eb := fdg_congr 13 (c.rw kb)
    refine mj_T.eq (pc2 := 55) (st2 := [.int (jn ((fdg (X (4 + b.toNat)) 13 : Int) - 1)), .int (jn ((fdg (X (4 + a.toNat)) 13 : Int) - 1))]) ?_ rfl rfl rfl rfl
    refine mj_T.isub (a := ((fdg (X (4 + a.toNat)) 13 : Int) - 1)) (b := ((fdg (X (4 + b.toNat)) 13 : Int) - 1)) rfl ?_
    refine mj_T.pl rfl rfl rfl rfl ?_
    refine mj_T.iadd (a := (((fdg (X (4 + a.toNat)) 13 : Int) - 1) - ((fdg (X (4 + b.toNat)) 13 : Int) - 1))) (b := 1) rfl ?_
    refine mj_T.pl rfl rfl rfl rfl ?_
    refine mj_T.imax (a := ((((fdg (X (4 + a.toNat)) 13 : Int) - 1) - ((fdg (X (4 + b.toNat)) 13 : Int) - 1)) + 1)) (b := 0) rfl rfl (Nat.le_of_ble_eq_true rfl) ⟨by omega, by omega⟩ ⟨by omega, by omega⟩ ?_
    refine mj_T.pl (loc' := [some (.ref 1), some (.int (jn to)), some (.int (jn tr)), some (.int (jn a)), some (.int (jn b)), some (.ref (4 + a.toNat)), some (.ref (4 + b.toNat)), some (.int (jn (max ((((fdg (X (4 + a.toNat)) 13 : Int) - 1) - ((fdg (X (4 + b.toNat)) 13 : Int) - 1)) + 1) 0)))]) rfl rfl rfl rfl ?_
    refine mj_T.pl rfl rfl rfl rfl ?_
    refine mT_get m 19 cq_d1 (by decide) rfl rfl ?_
    iterate 3 refine mj_T.pl rfl rfl rfl rfl ?_
    refine mT_get m 19 cq_d1 (by decide) rfl rfl ?_
    refine mj_T.pl rfl rfl rfl rfl ?_
    refine mT_get m 19 cq_d1 (by decide) rfl rfl ?_
    refine mj_T.call rfl rfl (Nat.le_of_ble_eq_true rfl) (Nat.le_of_ble_eq_true rfl) (mV_of m 11 cq_d19 (by decide) rfl (by decide) rfl _) rfl (mj_Ok.up (by omega) (oX_div (D := 0) A m b0 d c ka kb (by omega))) (fun v g9 hq => ?_) (fun i g9 hq => ?_)
    rotate_left
    · obtain ⟨_, _, _, _, _, _, _, _, _, hq⟩ := hq; cases hq
    obtain ⟨V5, X5, _, y, m5, b5, d5, s5, hy, hq⟩ := hq
    cases hq
    have hy2 : y = 0 ∨ y = 1 := by
      rcases hy with ⟨e, _⟩ | ⟨e, _⟩
      · exact Or.inr e
      · exact Or.inl e
    refine mj_T.eq (pc2 := 83) (st2 := [.int (jn y)]) ?_ rfl rfl rfl rfl
    refine mj_T.if0 (a := y) rfl ⟨by omega, by omega⟩ (fun c10 => ?_) (fun c10 => ?_)
    · simp only [jc, Bool.not_eq_true', Bool.not_eq_false', decide_eq_true_eq, decide_eq_false_iff_not] at c10
      have hok := hy.resolve_right (fun q => absurd q.1 (by omega))
      iterate 2 refine mj_T.pl rfl rfl rfl rfl ?_
      refine mj_T.call rfl rfl (Nat.le_of_ble_eq_true rfl) (Nat.le_of_ble_eq_true rfl) (mV_of m5 19 cq_d1 (by decide) rfl (by decide) rfl _) rfl (mj_Ok.up (by omega) (mX_keepM (D := 0) A m5 d5 (c.sb s5) kto (isP.s ⟨hok.2.1.1, hok.2.2.1⟩))) (fun v g11 hq => ?_) (fun i g11 hq => ?_)
      rotate_left
      · obtain ⟨_, _, _, _, _, _, hq⟩ := hq; cases hq
      obtain ⟨X7, _, m7, d7, c7, e7, hq⟩ := hq
      cases hq
      have e8 : (xfl X7 (4 + to.toNat) (X5 481) 13) 482 = X5 482 := (xfl_off _ _ _ (by omega)).trans e7
      refine mj_T.eq (pc2 := 99) (st2 := [.int (jn ((fdg (X5 481) 13 : Int) - 1))]) ?_ rfl rfl rfl rfl
      iterate 2 refine mj_T.pl rfl rfl rfl rfl ?_
      refine mT_get m7 19 cq_d1 (by decide) rfl rfl ?_
      iterate 2 refine mj_T.pl rfl rfl rfl rfl ?_
      refine mj_T.call rfl rfl (Nat.le_of_ble_eq_true rfl) (Nat.le_of_ble_eq_true rfl) (mV_of m7 19 cq_d1 (by decide) rfl (by decide) rfl _) rfl (mj_Ok.up (by omega) (mC_rowOf (D := 0) m7 (i := tr) (by omega))) (fun v g12 hq => ?_) (fun i g12 hq => ?_)
      rotate_left
      · rcases hq with ⟨_, hq⟩ | ⟨hn, hq⟩
        · cases hq
        · omega
      rcases hq with ⟨ktr, hq⟩ | ⟨_, hq⟩
      rotate_left
      · cases hq
      cases hq
      refine mj_T.eq (pc2 := 109) (st2 := [.ref (4 + tr.toNat), .ref 482]) ?_ rfl rfl rfl rfl
      refine mj_T.call rfl rfl (Nat.le_of_ble_eq_true rfl) (Nat.le_of_ble_eq_true rfl) rfl rfl (mj_Ok.up (by omega) (mS_copy (D := 0) m7 cq_d482 (mK_rt tr.toNat (by omega)))) (fun v g13 hq => ?_) (fun i g13 hq => ?_)
      rotate_left
      · obtain ⟨_, _, hq⟩ := hq; cases hq
      obtain ⟨_, m9, hq⟩ := hq
      cases hq
      rw [e8] at m9
      refine mj_T.eq (pc2 := 112) (st2 := []) ?_ rfl rfl rfl rfl
      refine mj_T.pl rfl rfl rfl rfl ?_
      have hmx : (max ((((fdg (X (4 + a.toNat)) 13 : Int) - 1) - ((fdg (X (4 + b.toNat)) 13 : Int) - 1)) + 1) 0) = (((fdg (rwN N a) 13 - (fdg (rwN N b) 13 - 1)) : Nat) : Int) := by
        rw [Int.max_def]
        split <;> omega
      exact mj_T.ret rfl rfl rfl (Or.inl ⟨⟨kto, ktr, ka, kb⟩, by omega, by omega, hok.2.1.1, hok.2.1.2, X5 481, X5 482, _, hok.2.2.1, hok.2.2.2, ⟨_, _, m9, b5, d7.of (fun p kp => by rw [xfl_off _ _ _ (by have := cK_13 kp; omega), xfl_off _ _ _ (by have := cK_13 kp; omega)]), (c7.put (t := to.toNat) (by omega)).put (t := tr.toNat) (by omega)⟩, congrArg (fun z : Int => ((.inl (some (Value.int (jn z))), _) : mj_R)) hmx⟩)
    · simp only [jc, Bool.not_eq_true', Bool.not_eq_false', decide_eq_true_eq, decide_eq_false_iff_not] at c10
      have hbad := hy.resolve_left (fun q => absurd q.1 (by omega))
      exact mj_T.throws rfl rfl rfl (Nat.le_of_ble_eq_true rfl) (Or.inr ⟨_, _, Or.inr ⟨⟨kto, ktr, ka, kb⟩, Or.inr (Or.inr ⟨by omega, by omega, hbad.2, rfl⟩)⟩, cS.thr hg m5 b5 d5 (c.sb s5), rfl⟩)
  · simp only [jc, Bool.not_eq_true', Bool.not_eq_false', decide_eq_true_eq, decide_eq_false_iff_not] at c5
    exact mj_T.throws rfl rfl rfl (Nat.le_of_ble_eq_true rfl) (Or.inr ⟨_, _, Or.inr ⟨⟨kto, ktr, ka, kb⟩, Or.inl ⟨by omega, rfl⟩⟩, cS.thr hg m b0 d c, rfl⟩)
theorem pX_clearPoints (A : AS N u H) (s : cS g n N u H h) : mj_Ok (D + 5) 116 [.ref 1] h (fun z => ∃ h2, cS g n (jvu N 78 0) (upu u) (pushH N H) h2 ∧ z = (.inl (some (.int (jn (N 78)))), h2)) := by
  obtain ⟨V, X, m, b0, d, c⟩ := s
  refine mj_Ok.of (M := mj_m116) rfl rfl rfl ?_
  refine mj_T.pl rfl rfl rfl rfl ?_
  refine mj_T.call rfl rfl (Nat.le_of_ble_eq_true rfl) (Nat.le_of_ble_eq_true rfl) (mV_of m 19 cq_d1 (by decide) rfl (by decide) rfl _) rfl (mj_Ok.up (by omega) (mX_keepE (D := 0) A m d c)) (fun v g1 hq => ?_) (fun i g1 hq => ?_)
  rotate_left
  · obtain ⟨_, _, _, _, _, _, hq⟩ := hq; cases hq
  obtain ⟨X2, _, m2, d2, c2, e2, hq⟩ := hq
  cases hq
  have hp : X2 2 3 = N 78 := by
    obtain ⟨_, _, _, _, bb, _⟩ := c2
    exact bb.2.1
  refine mj_T.eq (pc2 := 4) (st2 := []) ?_ rfl rfl rfl rfl
  refine mj_T.pl rfl rfl rfl rfl ?_
  refine mT_get m2 19 cq_d1 (by decide) rfl rfl ?_
  refine mT_get (v := .int (jn (N 78))) m2 10 cq_d2 (by decide) rfl (congrArg (fun z : Int => some (Value.int (jn z))) (hp)) ?_
  refine mj_T.pl (loc' := [some (.ref 1), some (.int (jn (N 78)))]) rfl rfl rfl rfl ?_
  refine mj_T.pl rfl rfl rfl rfl ?_
  refine mT_get m2 19 cq_d1 (by decide) rfl rfl ?_
  refine mj_T.pl rfl rfl rfl rfl ?_
  refine mT_put (v := 0) m2 10 cq_d2 (by decide) rfl (by simp [jMf, xup]) (by simp [jMf]) rfl (fun h2 m3 => ?_)
  refine mj_T.pl rfl rfl rfl rfl ?_
  exact mj_T.ret rfl rfl rfl ⟨_, ⟨_, _, m3, b0, d2.of (fun p kp => xup_oth (by have := cK_13 kp; omega)), c2.pts0⟩, rfl⟩
theorem pX_addPoint (hg : g.length ≤ n) (A : AS N u H) (s : cS g n N u H h) {x : Int} (rx : -2147483648 ≤ x ∧ x ≤ 2147483647) {y : Int} (ry : -2147483648 ≤ y ∧ y ≤ 2147483647) : mj_Ok (D + 6) 115 [.ref 1, .int (jn x), .int (jn y)] h (fun z => (((-9 ≤ x ∧ x ≤ 9) ∧ (-999 ≤ y ∧ y ≤ 999)) ∧ ¬ (6 ≤ N 78 ∨ ∃ i : Nat, (i : Int) < N 78 ∧ N (79 + i) = x) ∧ ∃ h2, cS g n (adN N x y) (upu u) (pushH N H) h2 ∧ z = (.inl (some (.int (jn (((N 78).toNat + 1 : Nat) : Int)))), h2)) ∨ (∃ (k : Nat) (h2 : mj_H), ((¬ ((-9 ≤ x ∧ x ≤ 9) ∧ (-999 ≤ y ∧ y ≤ 999)) ∧ k = 2) ∨ (((-9 ≤ x ∧ x ≤ 9) ∧ (-999 ≤ y ∧ y ≤ 999)) ∧ (6 ≤ N 78 ∨ ∃ i : Nat, (i : Int) < N 78 ∧ N (79 + i) = x) ∧ k = 1)) ∧ cS g (n + 1) N u H h2 ∧ z = (.inr k, h2))) := by
  obtain ⟨V, X, m, b0, d, c⟩ := s
  have bb : BN X 2 N := by
    obtain ⟨_, _, _, _, bb, _⟩ := c
    exact bb
  have hn := A.1.2.1
  have hb3 := bb.2.1
  refine mj_Ok.of (M := mj_m115) rfl rfl rfl ?_
  iterate 2 refine mj_T.pl rfl rfl rfl rfl ?_
  refine mj_T.icmp (a := x) (b := (-9)) rfl ⟨by omega, by omega⟩ ⟨by omega, by omega⟩ (fun c1 => ?_) (fun c1 => ?_)
  · simp only [jc, Bool.not_eq_true', Bool.not_eq_false', decide_eq_true_eq, decide_eq_false_iff_not] at c1
    exact mj_T.throws rfl rfl rfl (Nat.le_of_ble_eq_true rfl) (Or.inr ⟨_, _, Or.inl ⟨by omega, rfl⟩, cS.thr hg m b0 d c, rfl⟩)
  · simp only [jc, Bool.not_eq_true', Bool.not_eq_false', decide_eq_true_eq, decide_eq_false_iff_not] at c1
    iterate 2 refine mj_T.pl rfl rfl rfl rfl ?_
    refine mj_T.icmp (a := x) (b := 9) rfl ⟨by omega, by omega⟩ ⟨by omega, by omega⟩ (fun c2 => ?_) (fun c2 => ?_)
    · simp only [jc, Bool.not_eq_true', Bool.not_eq_false', decide_eq_true_eq, decide_eq_false_iff_not] at c2
      exact mj_T.throws rfl rfl rfl (Nat.le_of_ble_eq_true rfl) (Or.inr ⟨_, _, Or.inl ⟨by omega, rfl⟩, cS.thr hg m b0 d c, rfl⟩)
    · simp only [jc, Bool.not_eq_true', Bool.not_eq_false', decide_eq_true_eq, decide_eq_false_iff_not] at c2
      iterate 2 refine mj_T.pl rfl rfl rfl rfl ?_
      refine mj_T.icmp (a := y) (b := (-999)) rfl ⟨by omega, by omega⟩ ⟨by omega, by omega⟩ (fun c3 => ?_) (fun c3 => ?_)
      · simp only [jc, Bool.not_eq_true', Bool.not_eq_false', decide_eq_true_eq, decide_eq_false_iff_not] at c3
        exact mj_T.throws rfl rfl rfl (Nat.le_of_ble_eq_true rfl) (Or.inr ⟨_, _, Or.inl ⟨by omega, rfl⟩, cS.thr hg m b0 d c, rfl⟩)
      · simp only [jc, Bool.not_eq_true', Bool.not_eq_false', decide_eq_true_eq, decide_eq_false_iff_not] at c3
        iterate 2 refine mj_T.pl rfl rfl rfl rfl ?_
        refine mj_T.icmp (a := y) (b := 999) rfl ⟨by omega, by omega⟩ ⟨by omega, by omega⟩ (fun c4 => ?_) (fun c4 => ?_)
        · simp only [jc, Bool.not_eq_true', Bool.not_eq_false', decide_eq_true_eq, decide_eq_false_iff_not] at c4
          refine mj_T.pl rfl rfl rfl rfl ?_
          refine mT_get m 19 cq_d1 (by decide) rfl rfl ?_
          refine mT_get (v := .int (jn (N 78))) m 10 cq_d2 (by decide) rfl (congrArg (fun z : Int => some (Value.int (jn z))) (bb.2.1)) ?_
          refine mj_T.pl rfl rfl rfl rfl ?_
          refine mj_T.icmp (a := (N 78)) (b := 6) rfl ⟨by omega, by omega⟩ ⟨by omega, by omega⟩ (fun c5 => ?_) (fun c5 => ?_)
          · simp only [jc, Bool.not_eq_true', Bool.not_eq_false', decide_eq_true_eq, decide_eq_false_iff_not] at c5
            exact mj_T.throws rfl rfl rfl (Nat.le_of_ble_eq_true rfl) (Or.inr ⟨_, _, Or.inr ⟨⟨⟨by omega, by omega⟩, by omega, by omega⟩, by first | exact Or.inl (by omega) | exact Or.inr (hy.resolve_right (fun q => absurd q.1 (by omega))).2, rfl⟩, cS.thr hg m b0 d c, rfl⟩)
          · simp only [jc, Bool.not_eq_true', Bool.not_eq_false', decide_eq_true_eq, decide_eq_false_iff_not] at c5
            refine mj_T.pl rfl rfl rfl rfl ?_
            refine mT_get m 19 cq_d1 (by decide) rfl rfl ?_
            refine mj_T.pl rfl rfl rfl rfl ?_
            refine mj_T.call rfl rfl (Nat.le_of_ble_eq_true rfl) (Nat.le_of_ble_eq_true rfl) (mV_of m 10 cq_d2 (by decide) rfl (by decide) rfl _) rfl (mj_Ok.up (by omega) (mB_has (D := 0) m cq_d2 (p := (N 78).toNat) (by omega) (by omega) (by omega) (fun i hi => by rw [(bb.2.2 i (by omega)).1]; exact (A.1.2.2.1 i (by omega)).1))) (fun v g6 hq => ?_) (fun i g6 hq => ?_)
            rotate_left
            · rcases hq with ⟨_, hq⟩ | ⟨_, hq⟩ <;> cases hq
            obtain ⟨v5, hy, hq⟩ : ∃ v5 : Int, ((v5 = 1 ∧ ∃ i : Nat, (i : Int) < N 78 ∧ N (79 + i) = x) ∨ (v5 = 0 ∧ ¬ ∃ i : Nat, (i : Int) < N 78 ∧ N (79 + i) = x)) ∧ ((.inl v, g6) : mj_R) = (.inl (some (.int (jn v5))), h) := by
              rcases hq with ⟨⟨i, hi, e⟩, hq⟩ | ⟨ho, hq⟩
              · exact ⟨1, Or.inl ⟨rfl, i, by omega, ((bb.2.2 i (by omega)).1.symm.trans e)⟩, hq⟩
              · exact ⟨0, Or.inr ⟨rfl, fun ⟨i, hi, e⟩ => ho i (by omega) ((bb.2.2 i hi).1.trans e)⟩, hq⟩
            cases hq
            have hy2 : v5 = 0 ∨ v5 = 1 := by
              rcases hy with ⟨e, _⟩ | ⟨e, _⟩
              · exact Or.inr e
              · exact Or.inl e
            refine mj_T.eq (pc2 := 54) (st2 := [.int (jn v5)]) ?_ rfl rfl rfl rfl
            refine mj_T.if0 (a := v5) rfl ⟨by omega, by omega⟩ (fun c7 => ?_) (fun c7 => ?_)
            · simp only [jc, Bool.not_eq_true', Bool.not_eq_false', decide_eq_true_eq, decide_eq_false_iff_not] at c7
              refine mj_T.pl rfl rfl rfl rfl ?_
              refine mj_T.call rfl rfl (Nat.le_of_ble_eq_true rfl) (Nat.le_of_ble_eq_true rfl) (mV_of m 19 cq_d1 (by decide) rfl (by decide) rfl _) rfl (mj_Ok.up (by omega) (mX_keepE (D := 0) A m d c)) (fun v g8 hq => ?_) (fun i g8 hq => ?_)
              rotate_left
              · obtain ⟨_, _, _, _, _, _, hq⟩ := hq; cases hq
              obtain ⟨X2, _, m2, d2, c2, e2, hq⟩ := hq
              cases hq
              have hp : X2 2 3 = N 78 := by
                obtain ⟨_, _, _, _, bb, _⟩ := c2
                exact bb.2.1
              refine mj_T.eq (pc2 := 69) (st2 := []) ?_ rfl rfl rfl rfl
              refine mj_T.pl rfl rfl rfl rfl ?_
              refine mT_get m2 19 cq_d1 (by decide) rfl rfl ?_
              iterate 2 refine mj_T.pl rfl rfl rfl rfl ?_
              refine mj_T.call rfl rfl (Nat.le_of_ble_eq_true rfl) (Nat.le_of_ble_eq_true rfl) (mV_of m2 10 cq_d2 (by decide) rfl (by decide) rfl _) rfl (mj_Ok.up (by omega) (mB_put (D := 0) m2 cq_d2 (p := (N 78).toNat) (x := x) (y := y) (by omega) (by omega))) (fun v g9 hq => ?_) (fun i g9 hq => ?_)
              rotate_left
              · obtain ⟨_, _, hq⟩ := hq; cases hq
              obtain ⟨_, m5, hq⟩ := hq
              cases hq
              have c5 := c2.addp (x := x) (y := y) ⟨by omega, by omega⟩
              refine mj_T.eq (pc2 := 78) (st2 := []) ?_ rfl rfl rfl rfl
              refine mj_T.pl rfl rfl rfl rfl ?_
              refine mT_get m5 19 cq_d1 (by decide) rfl rfl ?_
              refine mT_get (v := .int (jn ((((N 78).toNat + 1) : Nat) : Int))) m5 10 cq_d2 (by decide) rfl (congrArg (fun z : Int => some (Value.int (jn z))) (xup_at _ _ _ _)) ?_
              exact mj_T.ret rfl rfl rfl (Or.inl ⟨⟨⟨by omega, by omega⟩, by omega, by omega⟩, fun q => q.elim (fun y => by omega) (hy.resolve_left (fun q => absurd q.1 (by omega))).2, _, ⟨_, _, m5, b0, d2.of (fun p kp => by rw [xup_oth (by have := cK_13 kp; omega), xup_oth (by have := cK_13 kp; omega), xup_oth (by have := cK_13 kp; omega)]), c5⟩, rfl⟩)
            · simp only [jc, Bool.not_eq_true', Bool.not_eq_false', decide_eq_true_eq, decide_eq_false_iff_not] at c7
              exact mj_T.throws rfl rfl rfl (Nat.le_of_ble_eq_true rfl) (Or.inr ⟨_, _, Or.inr ⟨⟨⟨by omega, by omega⟩, by omega, by omega⟩, by first | exact Or.inl (by omega) | exact Or.inr (hy.resolve_right (fun q => absurd q.1 (by omega))).2, rfl⟩, cS.thr hg m b0 d c, rfl⟩)
        · simp only [jc, Bool.not_eq_true', Bool.not_eq_false', decide_eq_true_eq, decide_eq_false_iff_not] at c4
          exact mj_T.throws rfl rfl rfl (Nat.le_of_ble_eq_true rfl) (Or.inr ⟨_, _, Or.inl ⟨by omega, rfl⟩, cS.thr hg m b0 d c, rfl⟩)
end MP6
