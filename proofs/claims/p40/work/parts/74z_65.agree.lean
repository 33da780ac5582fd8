/-! The class: agreements only reads. -/
section MRA
variable {g h : mj_H} {n D u : Nat} {N : Nat → Int} {H : Nat → Nat → Int} {X : Nat → Nat → Int}
theorem rjR.row {X : Nat → Nat → Int} (q : rjR X) {r : Nat} {w : Nat → Int} (hw : ∀ j, j < 13 → jR (w j)) : rjR (xfl X r w 13) := fun a ka j => by
  unfold xfl
  split
  · rename_i y
    exact hw j y.2
  · exact q a ka j
theorem mC_agr_loop (hg : g.length ≤ n) (A : AS N u H) (c : CR X N u H) {a a2 l : Int} (hl : 0 ≤ l ∧ l ≤ 12) : ∀ (k : Nat) (i : Int), 0 ≤ i ∧ i ≤ 13 → l + 1 - i ≤ k → ∀ (q : Int) (V1 : Nat → Int) (X1 : Nat → Nat → Int) (h : mj_H), jM g n V1 X1 h → by0 V1 → DG X1 → sBn X X1 → rjR X1 → mj_T (D + 6) mj_m127 49 [some (.ref 1), some (.int (jn a)), some (.int (jn a2)), some (.ref (4 + a.toNat)), some (.ref (4 + a2.toNat)), some (.int (jn l)), some (.int (jn q)), some (.int (jn i))] [] h (rdL g n N u H)
  | 0, i, h0, hi, q, V1, X1, h, m, b, d1, s1, j1 => by
    iterate 2 refine mj_T.pl rfl rfl rfl rfl ?_
    refine mj_T.icmp (a := i) (b := l) rfl ⟨by omega, by omega⟩ ⟨by omega, by omega⟩ (fun c1 => ?_) (fun c1 => ?_)
    · simp only [jc, Bool.not_eq_true', Bool.not_eq_false', decide_eq_true_eq, decide_eq_false_iff_not] at c1
      refine mj_T.pl rfl rfl rfl rfl ?_
      exact mj_T.ret rfl rfl rfl (Or.inl ⟨_, _, ⟨_, _, m, b, d1, (c.sb s1)⟩, rfl⟩)
    · exfalso
      simp only [jc, Bool.not_eq_true', Bool.not_eq_false', decide_eq_true_eq, decide_eq_false_iff_not] at c1
      omega
  | k + 1, i, h0, hi, q, V1, X1, h, m, b, d1, s1, j1 => by
    iterate 2 refine mj_T.pl rfl rfl rfl rfl ?_
    refine mj_T.icmp (a := i) (b := l) rfl ⟨by omega, by omega⟩ ⟨by omega, by omega⟩ (fun c1 => ?_) (fun c1 => ?_)
    · simp only [jc, Bool.not_eq_true', Bool.not_eq_false', decide_eq_true_eq, decide_eq_false_iff_not] at c1
      refine mj_T.pl rfl rfl rfl rfl ?_
      exact mj_T.ret rfl rfl rfl (Or.inl ⟨_, _, ⟨_, _, m, b, d1, (c.sb s1)⟩, rfl⟩)
    · simp only [jc, Bool.not_eq_true', Bool.not_eq_false', decide_eq_true_eq, decide_eq_false_iff_not] at c1
      refine mj_T.pl rfl rfl rfl rfl ?_
      refine mT_get m 19 cq_d1 (by decide) rfl rfl ?_
      refine mj_T.pl rfl rfl rfl rfl ?_
      refine mT_get m 19 cq_d1 (by decide) rfl rfl ?_
      iterate 2 refine mj_T.pl rfl rfl rfl rfl ?_
      refine mj_T.call rfl rfl (Nat.le_of_ble_eq_true rfl) (Nat.le_of_ble_eq_true rfl) (mV_of m 11 cq_d19 (by decide) rfl (by decide) rfl _) rfl (mj_Ok.up (by omega) (mZ_27 (D := 0) m b cq_d482 (j1 _ cq_d482) (x := i) (y := 1) ⟨by omega, by omega⟩ ⟨by omega, by omega⟩)) (fun v g2 hq => ?_) (fun i g2 hq => ?_)
      rotate_left
      · obtain ⟨_, _, _, _, _, _, _, _, hq⟩ := hq; cases hq
      obtain ⟨V3, e6, z7, _, m4, b5, he6, rz7, hq⟩ := hq
      cases hq
      refine mj_T.eq (pc2 := 70) (st2 := [.int (jn z7)]) ?_ rfl rfl rfl rfl
      refine mj_T.if0 (a := z7) rfl ⟨by omega, by omega⟩ (fun c8 => ?_) (fun c8 => ?_)
      · simp only [jc, Bool.not_eq_true', Bool.not_eq_false', decide_eq_true_eq, decide_eq_false_iff_not] at c8
        refine mj_T.iinc rfl rfl ?_
        refine mj_T.eq (loc2 := [some (.ref 1), some (.int (jn a)), some (.int (jn a2)), some (.ref (4 + a.toNat)), some (.ref (4 + a2.toNat)), some (.int (jn l)), some (.int (jn q)), some (.int (jn (i + 1)))]) ?_ rfl rfl rfl rfl
        refine mj_T.pl rfl rfl rfl rfl ?_
        exact mC_agr_loop hg A c hl k _ (by omega) (by omega) _ _ _ _ m4 b5 (d1.deg he6) (s1.tr (sBn.deg cq_d80)) (rjR.deg j1 cq_d80)
      · simp only [jc, Bool.not_eq_true', Bool.not_eq_false', decide_eq_true_eq, decide_eq_false_iff_not] at c8
        refine mj_T.iinc rfl rfl ?_
        refine mj_T.eq (loc2 := [some (.ref 1), some (.int (jn a)), some (.int (jn a2)), some (.ref (4 + a.toNat)), some (.ref (4 + a2.toNat)), some (.int (jn l)), some (.int (jn (q + 1))), some (.int (jn i))]) ?_ rfl rfl rfl rfl
        refine mj_T.iinc rfl rfl ?_
        refine mj_T.eq (loc2 := [some (.ref 1), some (.int (jn a)), some (.int (jn a2)), some (.ref (4 + a.toNat)), some (.ref (4 + a2.toNat)), some (.int (jn l)), some (.int (jn (q + 1))), some (.int (jn (i + 1)))]) ?_ rfl rfl rfl rfl
        refine mj_T.pl rfl rfl rfl rfl ?_
        exact mC_agr_loop hg A c hl k _ (by omega) (by omega) _ _ _ _ m4 b5 (d1.deg he6) (s1.tr (sBn.deg cq_d80)) (rjR.deg j1 cq_d80)
theorem pX_agreements (hg : g.length ≤ n) (A : AS N u H) (s : cS g n N u H h) {a : Int} (ra : -2147483648 ≤ a ∧ a ≤ 2147483647) {a2 : Int} (ra2 : -2147483648 ≤ a2 ∧ a2 ≤ 2147483647) : mj_Ok (D + 7) 127 [.ref 1, .int (jn a), .int (jn a2)] h (rdL g n N u H) := by
  obtain ⟨V, X, m, b, d, c, jx⟩ := s.nr A
  have jx : rjR X := jx
  refine mj_Ok.of (M := mj_m127) rfl rfl rfl ?_
  iterate 2 refine mj_T.pl rfl rfl rfl rfl ?_
  refine mj_T.call rfl rfl (Nat.le_of_ble_eq_true rfl) (Nat.le_of_ble_eq_true rfl) (mV_of m 19 cq_d1 (by decide) rfl (by decide) rfl _) rfl (mj_Ok.up (by omega) (mC_rowOf (D := 0) m (i := a) (by omega))) (fun v g1 hq => ?_) (fun i g1 hq => ?_)
  rotate_left
  · rcases hq with ⟨_, hq⟩ | ⟨hn, hq⟩
    · cases hq
    · cases hq
      exact Or.inl ⟨rfl, Or.inr ⟨_, _, cS.thr hg m b d (c.sb (sBn.rf X)), rfl⟩⟩
  rcases hq with ⟨ka, hq⟩ | ⟨_, hq⟩
  rotate_left
  · cases hq
  cases hq
  refine mj_T.eq (pc2 := 5) (st2 := [.ref (4 + a.toNat)]) ?_ rfl rfl rfl rfl
  refine mj_T.pl (loc' := [some (.ref 1), some (.int (jn a)), some (.int (jn a2)), some (.ref (4 + a.toNat)), none, none, none, none]) rfl rfl rfl rfl ?_
  iterate 2 refine mj_T.pl rfl rfl rfl rfl ?_
  refine mj_T.call rfl rfl (Nat.le_of_ble_eq_true rfl) (Nat.le_of_ble_eq_true rfl) (mV_of m 19 cq_d1 (by decide) rfl (by decide) rfl _) rfl (mj_Ok.up (by omega) (mC_rowOf (D := 0) m (i := a2) (by omega))) (fun v g2 hq => ?_) (fun i g2 hq => ?_)
  rotate_left
  · rcases hq with ⟨_, hq⟩ | ⟨hn, hq⟩
    · cases hq
    · cases hq
      exact Or.inl ⟨rfl, Or.inr ⟨_, _, cS.thr hg m b d (c.sb (sBn.rf X)), rfl⟩⟩
  rcases hq with ⟨ka2, hq⟩ | ⟨_, hq⟩
  rotate_left
  · cases hq
  cases hq
  refine mj_T.eq (pc2 := 11) (st2 := [.ref (4 + a2.toNat)]) ?_ rfl rfl rfl rfl
  refine mj_T.pl (loc' := [some (.ref 1), some (.int (jn a)), some (.int (jn a2)), some (.ref (4 + a.toNat)), some (.ref (4 + a2.toNat)), none, none, none]) rfl rfl rfl rfl ?_
  iterate 2 refine mj_T.pl rfl rfl rfl rfl ?_
  refine mj_T.call rfl rfl (Nat.le_of_ble_eq_true rfl) (Nat.le_of_ble_eq_true rfl) rfl rfl (mj_Ok.up (by omega) (mS_deg (D := 0) m (mK_rt a.toNat (by omega)) ((c.sb (sBn.rf X)).sm A.1 ka))) (fun v g3 hq => ?_) (fun i g3 hq => ?_)
  rotate_left
  · cases hq
  cases hq
  have ga := fdg_le (X (4 + a.toNat)) 13
  refine mj_T.eq (pc2 := 18) (st2 := [.int (jn (((fdg (X (4 + a.toNat)) 13) : Int) - 1)), .int (jn 0)]) ?_ rfl rfl rfl rfl
  refine mj_T.pl rfl rfl rfl rfl ?_
  refine mj_T.call rfl rfl (Nat.le_of_ble_eq_true rfl) (Nat.le_of_ble_eq_true rfl) rfl rfl (mj_Ok.up (by omega) (mS_deg (D := 0) m (mK_rt a2.toNat (by omega)) ((c.sb (sBn.rf X)).sm A.1 ka2))) (fun v g4 hq => ?_) (fun i g4 hq => ?_)
  rotate_left
  · cases hq
  cases hq
  have ga2 := fdg_le (X (4 + a2.toNat)) 13
  refine mj_T.eq (pc2 := 23) (st2 := [.int (jn (((fdg (X (4 + a2.toNat)) 13) : Int) - 1)), .int (jn (((fdg (X (4 + a.toNat)) 13) : Int) - 1)), .int (jn 0)]) ?_ rfl rfl rfl rfl
  refine mj_T.imax (a := (((fdg (X (4 + a.toNat)) 13) : Int) - 1)) (b := (((fdg (X (4 + a2.toNat)) 13) : Int) - 1)) rfl rfl (Nat.le_of_ble_eq_true rfl) ⟨by omega, by omega⟩ ⟨by omega, by omega⟩ ?_
  refine mj_T.imax (a := 0) (b := (max (((fdg (X (4 + a.toNat)) 13) : Int) - 1) (((fdg (X (4 + a2.toNat)) 13) : Int) - 1))) rfl rfl (Nat.le_of_ble_eq_true rfl) ⟨by omega, by omega⟩ ⟨by omega, by omega⟩ ?_
  refine mj_T.pl (loc' := [some (.ref 1), some (.int (jn a)), some (.int (jn a2)), some (.ref (4 + a.toNat)), some (.ref (4 + a2.toNat)), some (.int (jn (max 0 (max (((fdg (X (4 + a.toNat)) 13) : Int) - 1) (((fdg (X (4 + a2.toNat)) 13) : Int) - 1))))), none, none]) rfl rfl rfl rfl ?_
  iterate 4 refine mj_T.pl rfl rfl rfl rfl ?_
  refine mT_get m 19 cq_d1 (by decide) rfl rfl ?_
  refine mj_T.call rfl rfl (Nat.le_of_ble_eq_true rfl) (Nat.le_of_ble_eq_true rfl) rfl rfl (mj_Ok.up (by omega) (mS_sum (D := 0) m (mK_rt a.toNat (by omega)) (mK_rt a2.toNat (by omega)) cq_d482 (c.sm A.1 ka) (c.sm A.1 ka2) (f := -1) (Or.inr rfl))) (fun v g5 hq => ?_) (fun i g5 hq => ?_)
  rotate_left
  · obtain ⟨_, _, hq⟩ := hq
    rcases hq with ⟨_, hq⟩ | ⟨_, hq⟩ <;> cases hq
  obtain ⟨h5, m5, hq⟩ := hq
  obtain ⟨y, hq⟩ : ∃ y : Int, ((.inl v, g5) : mj_R) = (.inl (some (.int (jn y))), h5) := by
    rcases hq with ⟨_, hq⟩ | ⟨_, hq⟩
    · exact ⟨1, hq⟩
    · exact ⟨0, hq⟩
  cases hq
  have j5 : rjR (xfl X 482 (fun e => X (4 + a.toNat) e + -1 * X (4 + a2.toNat) e) 13) := jx.row (fun j hj => by
    have y1 := c.sm A.1 ka j hj
    have y2 := c.sm A.1 ka2 j hj
    show jR (X (4 + a.toNat) j + -1 * X (4 + a2.toNat) j)
    exact ⟨by omega, by omega⟩)
  refine mj_T.eq (pc2 := 42) (st2 := [.int (jn y)]) ?_ rfl rfl rfl rfl
  iterate 2 refine mj_T.pl rfl rfl rfl rfl ?_
  refine mj_T.pl (loc' := [some (.ref 1), some (.int (jn a)), some (.int (jn a2)), some (.ref (4 + a.toNat)), some (.ref (4 + a2.toNat)), some (.int (jn (max 0 (max (((fdg (X (4 + a.toNat)) 13) : Int) - 1) (((fdg (X (4 + a2.toNat)) 13) : Int) - 1))))), some (.int (jn 0)), none]) rfl rfl rfl rfl ?_
  refine mj_T.pl rfl rfl rfl rfl ?_
  refine mj_T.pl (loc' := [some (.ref 1), some (.int (jn a)), some (.int (jn a2)), some (.ref (4 + a.toNat)), some (.ref (4 + a2.toNat)), some (.int (jn (max 0 (max (((fdg (X (4 + a.toNat)) 13) : Int) - 1) (((fdg (X (4 + a2.toNat)) 13) : Int) - 1))))), some (.int (jn 0)), some (.int (jn 0))]) rfl rfl rfl rfl ?_
  obtain ⟨l, hl, el⟩ : ∃ l : Int, (0 ≤ l ∧ l ≤ 12) ∧ (max 0 (max (((fdg (X (4 + a.toNat)) 13) : Int) - 1) (((fdg (X (4 + a2.toNat)) 13) : Int) - 1))) = l := ⟨_, by
    rw [Int.max_def, Int.max_def]
    refine ⟨?_, ?_⟩
    · split <;> omega
    · split <;> split <;> omega, rfl⟩
  rw [el]
  exact mC_agr_loop hg A c hl 13 0 ⟨by decide, by decide⟩ (by omega) _ _ _ _ m5 b (d.row cq_d482) (sBn.row (Or.inr rfl)) j5
end MRA
