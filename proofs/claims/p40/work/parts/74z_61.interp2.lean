/-! The class, exactly: interpolate. -/
theorem it_fit2 : 6 * 6395971332022272000000000 < jB ^ 29 := by decide +kernel
theorem itR.cg {N w w' : Nat → Int} {D : Int} (h : ∀ j, j < 13 → w j = w' j) (q : itR N w D) : itR N w' D := by
  obtain ⟨M, q1, q2, q3, q4, q5⟩ := q
  refine ⟨M, q1, q2, fun j hj => ?_, q4, ?_⟩
  · rw [← h j hj]
    exact q3 j hj
  · rw [← cgd_cg 13 h]
    exact q5
section MI2
variable {g h : mj_H} {n D u : Nat} {N : Nat → Int} {H : Nat → Nat → Int}
theorem cq_bd2 : (bydl.all fun x => decide (x = 21 ∨ (50 ≤ x ∧ x ≠ 164 ∧ x ≠ 166 ∧ x ≠ 168 ∧ x ≠ 170))) = true := by decide +kernel
theorem pX_interpolate (hg : g.length ≤ n) (A : AS N u H) (s : cS g n N u H h) {to : Int} (rto : -2147483648 ≤ to ∧ to ≤ 2147483647) : mj_Ok (D + 7) 117 [.ref 1, .int (jn to)] h (fun z => ((0 ≤ to ∧ to ≤ 5) ∧ ∃ (w : Nat → Int) (D : Int) (h2 : mj_H), itR N w D ∧ sml w ∧ cS g n (jfl N to.toNat w 13) (upu u) (pushH N H) h2 ∧ z = (.inl (some (.long (jl D))), h2)) ∨ (∃ (k : Nat) (h2 : mj_H), ((¬ (0 ≤ to ∧ to ≤ 5) ∧ k = 0) ∨ ((0 ≤ to ∧ to ≤ 5) ∧ (∃ (w : Nat → Int) (D : Int), itR N w D ∧ ¬ sml w) ∧ k = 1)) ∧ cS g (n + 1) N u H h2 ∧ z = (.inr k, h2))) := by
  obtain ⟨V, X, m, b0, d, c⟩ := s
  have bb : BN X 2 N := by
    obtain ⟨_, _, _, _, bb, _⟩ := c
    exact bb
  have hpt := bb.pt A.1
  have hp6 := hpt.2.1
  have hl := hpt.l (k := (N 78).toNat) (Nat.le_refl _)
  refine mj_Ok.of (M := mj_m117) rfl rfl rfl ?_
  iterate 2 refine mj_T.pl rfl rfl rfl rfl ?_
  refine mj_T.call rfl rfl (Nat.le_of_ble_eq_true rfl) (Nat.le_of_ble_eq_true rfl) (mV_of m 19 cq_d1 (by decide) rfl (by decide) rfl _) rfl (mj_Ok.up (by omega) (mC_rowOf (D := 0) m (i := to) (by omega))) (fun v g1 hq => ?_) (fun i g1 hq => ?_)
  rotate_left
  · rcases hq with ⟨_, hq⟩ | ⟨hn, hq⟩
    · cases hq
    · cases hq
      exact Or.inl ⟨rfl, Or.inr ⟨_, _, Or.inl ⟨by omega, rfl⟩, cS.thr hg m b0 d c, rfl⟩⟩
  rcases hq with ⟨kto, hq⟩ | ⟨_, hq⟩
  rotate_left
  · cases hq
  cases hq
  refine mj_T.eq (pc2 := 5) (st2 := [.ref (4 + to.toNat)]) ?_ rfl rfl rfl rfl
  iterate 2 refine mj_T.pl rfl rfl rfl rfl ?_
  refine mT_get m 19 cq_d1 (by decide) rfl rfl ?_
  refine mj_T.call rfl rfl (Nat.le_of_ble_eq_true rfl) (Nat.le_of_ble_eq_true rfl) (mV_of m 10 cq_d2 (by decide) rfl (by decide) rfl _) rfl (mj_Ok.up (by omega) (mB_common (D := 0) m cq_d2 hpt)) (fun v g2 hq => ?_) (fun i g2 hq => ?_)
  rotate_left
  · cases hq
  cases hq
  refine mj_T.eq (pc2 := 13) (st2 := [.long (jl (((lcw (wgt (X (2 + 8)) (N 78).toNat) (N 78).toNat).natAbs : Nat) : Int))]) ?_ rfl rfl rfl rfl
  refine mj_T.pl (loc' := [some (.ref 1), some (.int (jn to)), some (.long (jl (((lcw (wgt (X (2 + 8)) (N 78).toNat) (N 78).toNat).natAbs : Nat) : Int))), none, none, none, none]) rfl rfl rfl rfl ?_
  refine mj_T.pl rfl rfl rfl rfl ?_
  refine mT_get m 19 cq_d1 (by decide) rfl rfl ?_
  refine mT_get m 11 cq_d19 (by decide) rfl rfl ?_
  refine mj_T.call rfl rfl (Nat.le_of_ble_eq_true rfl) (Nat.le_of_ble_eq_true rfl) (mV_of m 13 cq_d20 (by decide) rfl (by decide) rfl _) rfl (mj_Ok.up (by omega) (mP_clear (D := 0) m cq_d20)) (fun v g3 hq => ?_) (fun i g3 hq => ?_)
  rotate_left
  · obtain ⟨_, _, hq⟩ := hq; cases hq
  obtain ⟨_, m4, hq⟩ := hq
  cases hq
  refine mj_T.eq (pc2 := 24) (st2 := []) ?_ rfl rfl rfl rfl
  refine mj_T.pl rfl rfl rfl rfl ?_
  refine mj_T.pl (loc' := [some (.ref 1), some (.int (jn to)), some (.long (jl (((lcw (wgt (X (2 + 8)) (N 78).toNat) (N 78).toNat).natAbs : Nat) : Int))), none, some (.int (jn 0)), none, none]) rfl rfl rfl rfl ?_
  refine mC_it_loop (V := V) (X := X) hpt (t := to) (M := (((lcw (wgt (X (2 + 8)) (N 78).toNat) (N 78).toNat).natAbs : Nat) : Int)) ⟨by omega, by omega⟩ (fun V1 X1 h1 l5 m1 i1 i2 i3 i4 => ?_) (N 78).toNat 0 (by omega) _ _ _ _ m4 (fun e he => ?_) ?_ (fun x x1 x2 x3 x4 => pfl_off _ _ _ (by rw [mK_z.1]; omega)) (fun c c1 c2 => xup_oth c2)
  rotate_left
  · exact pfl_at _ _ _ (by rw [mK_z.1]; exact he)
  · rw [xup_at]
    show (-1 : Int) = ((fdg (fun _ => (0 : Int)) 13 : Nat) : Int) - 1
    decide
  have hz : ∀ e, fdg (itp (X (2 + 8)) (X (2 + 9)) (((lcw (wgt (X (2 + 8)) (N 78).toNat) (N 78).toNat).natAbs : Nat) : Int) (N 78).toNat (N 78).toNat) 13 ≤ e → e < 13 → V1 (20 + 4 + 2 * e) = 0 := fun e h1 h2 => (i1 e h2).trans (fdg_zero (itp (X (2 + 8)) (X (2 + 9)) (((lcw (wgt (X (2 + 8)) (N 78).toNat) (N 78).toNat).natAbs : Nat) : Int) (N 78).toNat (N 78).toNat) 13 e h1 h2)
  have hIb : ∀ e, ((itp (X (2 + 8)) (X (2 + 9)) (((lcw (wgt (X (2 + 8)) (N 78).toNat) (N 78).toNat).natAbs : Nat) : Int) (N 78).toNat (N 78).toNat) e).natAbs ≤ (N 78).toNat * 6395971332022272000000000 := itp_abs hp6 (fun j hj => by have := (hpt.2.2.1 j hj).1; omega) (fun j hj => by have := (hpt.2.2.1 j hj).2; omega) (by omega) _ (Nat.le_refl _)
  have it_fit3 : (N 78).toNat * 6395971332022272000000000 < jB ^ 29 := Nat.lt_of_le_of_lt (Nat.mul_le_mul_right _ hp6) it_fit2
  refine mj_T.pl rfl rfl rfl rfl ?_
  refine mT_get m1 19 cq_d1 (by decide) rfl rfl ?_
  refine mj_T.pl rfl rfl rfl rfl ?_
  refine mj_T.call rfl rfl (Nat.le_of_ble_eq_true rfl) (Nat.le_of_ble_eq_true rfl) (mV_of m1 11 cq_d19 (by decide) rfl (by decide) rfl _) rfl (mj_Ok.up (by omega) (mD_shorten (D := 0) m1 (d := fdg (itp (X (2 + 8)) (X (2 + 9)) (((lcw (wgt (X (2 + 8)) (N 78).toNat) (N 78).toNat).natAbs : Nat) : Int) (N 78).toNat (N 78).toNat) 13) (s0 := (lcw (wgt (X (2 + 8)) (N 78).toNat) (N 78).toNat).natAbs) i2 (fdg_le _ 13) hl.1 (by omega) hz (fun e he => by rw [i1 e he]; exact jnl_B (hIb e) it_fit3))) (fun v g41 hq => ?_) (fun i g41 hq => ?_)
  rotate_left
  · obtain ⟨_, _, _, _, _, hq⟩ := hq; cases hq
  obtain ⟨V5, _, m4, j1, j2, hq⟩ := hq
  cases hq
  have hgb := shg_le (pco V1 20) (s0 := (lcw (wgt (X (2 + 8)) (N 78).toNat) (N 78).toNat).natAbs) hl.1 (fdg (itp (X (2 + 8)) (X (2 + 9)) (((lcw (wgt (X (2 + 8)) (N 78).toNat) (N 78).toNat).natAbs : Nat) : Int) (N 78).toNat (N 78).toNat) 13)
  have hw5 : ∀ e, e < 13 → pco V5 20 e = ((itp (X (2 + 8)) (X (2 + 9)) (((lcw (wgt (X (2 + 8)) (N 78).toNat) (N 78).toNat).natAbs : Nat) : Int) (N 78).toNat (N 78).toNat) e).tdiv (((shg (pco V1 20) ((lcw (wgt (X (2 + 8)) (N 78).toNat) (N 78).toNat).natAbs) (fdg (itp (X (2 + 8)) (X (2 + 9)) (((lcw (wgt (X (2 + 8)) (N 78).toNat) (N 78).toNat).natAbs : Nat) : Int) (N 78).toNat (N 78).toNat) 13)) : Nat) : Int) := fun e he => (j1 e he).trans (by rw [i1 e he])
  have hred := it_red (M0 := (lcw (wgt (X (2 + 8)) (N 78).toNat) (N 78).toNat).natAbs) hl.1 (fdg_le (itp (X (2 + 8)) (X (2 + 9)) (((lcw (wgt (X (2 + 8)) (N 78).toNat) (N 78).toNat).natAbs : Nat) : Int) (N 78).toNat (N 78).toNat) 13) (fun e h1 h2 => fdg_zero (itp (X (2 + 8)) (X (2 + 9)) (((lcw (wgt (X (2 + 8)) (N 78).toNat) (N 78).toNat).natAbs : Nat) : Int) (N 78).toNat (N 78).toNat) 13 e h1 h2) (f := pco V1 20) (fun e he => i1 e he) (w := pco V5 20) hw5
  have hit : itR N (pco V5 20) ((((lcw (wgt (X (2 + 8)) (N 78).toNat) (N 78).toNat).natAbs : Nat) : Int).tdiv (((shg (pco V1 20) ((lcw (wgt (X (2 + 8)) (N 78).toNat) (N 78).toNat).natAbs) (fdg (itp (X (2 + 8)) (X (2 + 9)) (((lcw (wgt (X (2 + 8)) (N 78).toNat) (N 78).toNat).natAbs : Nat) : Int) (N 78).toNat (N 78).toNat) 13)) : Nat) : Int)) := by
    refine ⟨(((lcw (wgt (X (2 + 8)) (N 78).toNat) (N 78).toNat).natAbs : Nat) : Int), by omega, fun i hi => ?_, fun j hj => ?_, hred.2.1, hred.2.2⟩
    · rw [← wgt_cg (P := X (2 + 8)) (fun j hj => (bb.2.2 j (by omega)).1) hi]
      have y := lcw_of (wgt (X (2 + 8)) (N 78).toNat) (N 78).toNat i hi
      exact Int.natAbs_dvd_natAbs.mp (by rw [Int.natAbs_natCast]; exact y)
    · rw [← itp_cg (P := X (2 + 8)) (Y := X (2 + 9)) (fun j hj => (bb.2.2 j (by omega)).1) (fun j hj => (bb.2.2 j (by omega)).2) _ (Nat.le_refl _)]
      exact hred.1 j hj
  have b5 : by0 V5 := fun x hx => by
    have y := of_decide_eq_true (List.all_eq_true.mp cq_bd2 x hx)
    rw [j2 x (by omega) (by omega) (by omega) (by omega) (by omega), i3 x (by omega) (by omega) (by omega) (by omega)]
    exact b0 x hx
  have d1 : DG X1 := fun p kp => by
    by_cases q : p = 20
    · subst q
      rw [i2, mK_z.1]
      have := fdg_le (itp (X (2 + 8)) (X (2 + 9)) (((lcw (wgt (X (2 + 8)) (N 78).toNat) (N 78).toNat).natAbs : Nat) : Int) (N 78).toNat (N 78).toNat) 13
      omega
    · rw [i4 p (by have := cK_13 kp; omega) q]
      exact d p kp
  have s1 : sBn X X1 := ⟨congrFun (i4 1 (by decide) (by decide)) 2, congrFun (i4 1 (by decide) (by decide)) 3, fun c hc => i4 c (by omega) (by omega)⟩
  refine mj_T.eq (pc2 := 114) (st2 := [.long (jl (((shg (pco V1 20) ((lcw (wgt (X (2 + 8)) (N 78).toNat) (N 78).toNat).natAbs) (fdg (itp (X (2 + 8)) (X (2 + 9)) (((lcw (wgt (X (2 + 8)) (N 78).toNat) (N 78).toNat).natAbs : Nat) : Int) (N 78).toNat (N 78).toNat) 13)) : Nat) : Int))]) ?_ rfl rfl rfl rfl
  refine mj_T.pl (loc' := [some (.ref 1), some (.int (jn to)), some (.long (jl (((lcw (wgt (X (2 + 8)) (N 78).toNat) (N 78).toNat).natAbs : Nat) : Int))), none, some (.long (jl (((shg (pco V1 20) ((lcw (wgt (X (2 + 8)) (N 78).toNat) (N 78).toNat).natAbs) (fdg (itp (X (2 + 8)) (X (2 + 9)) (((lcw (wgt (X (2 + 8)) (N 78).toNat) (N 78).toNat).natAbs : Nat) : Int) (N 78).toNat (N 78).toNat) 13)) : Nat) : Int))), none, none]) rfl rfl rfl rfl ?_
  refine mj_T.pl rfl rfl rfl rfl ?_
  refine mT_get m4 19 cq_d1 (by decide) rfl rfl ?_
  refine mT_get m4 11 cq_d19 (by decide) rfl rfl ?_
  refine mj_T.pl rfl rfl rfl rfl ?_
  refine mT_get m4 19 cq_d1 (by decide) rfl rfl ?_
  have hfi := pok_fit (V := V5) (p := 20) (m := 13) mK_z.1.symm (by decide) (fun e => if e < 13 then pco V5 20 e else 0) (fun i hi => by show _ = if i < 13 then pco V5 20 i else 0; rw [if_pos hi]; rfl) (fun i hi => if_neg (by omega))
  have hcl : pcl V5 20 := fun i hi => by
    rw [mK_z.1] at hi
    have y := jnl_B (hIb i) it_fit3
    have y2 : jnl (V5 (20 + 4 + 2 * i)).natAbs ≤ jnl ((itp (X (2 + 8)) (X (2 + 9)) (((lcw (wgt (X (2 + 8)) (N 78).toNat) (N 78).toNat).natAbs : Nat) : Int) (N 78).toNat (N 78).toNat) i).natAbs := by
      have e := hw5 i hi
      show jnl (pco V5 20 i).natAbs ≤ _
      rw [e, Int.natAbs_tdiv]
      exact jnl_mono (Nat.div_le_self _ _)
    omega
  refine mj_T.call rfl rfl (Nat.le_of_ble_eq_true rfl) (Nat.le_of_ble_eq_true rfl) (mV_of m4 13 cq_d20 (by decide) rfl (by decide) rfl _) rfl (mj_Ok.up (by omega) (mP_store (D := 0) m4 cq_d20 hcl cq_d481 (by rw [mK_z.1]; decide))) (fun v g42 hq => ?_) (fun i g42 hq => ?_)
  rotate_left
  · rcases hq with ⟨_, _, _, hq⟩ | ⟨_, hq⟩ <;> cases hq
  obtain ⟨y, X5, m5, hy, d5, s5, hq⟩ : ∃ (y : Int) (X5 : Nat → Nat → Int), jM g n V5 X5 g42 ∧ ((y = 1 ∧ sml (X5 481) ∧ itR N (X5 481) ((((lcw (wgt (X (2 + 8)) (N 78).toNat) (N 78).toNat).natAbs : Nat) : Int).tdiv (((shg (pco V1 20) ((lcw (wgt (X (2 + 8)) (N 78).toNat) (N 78).toNat).natAbs) (fdg (itp (X (2 + 8)) (X (2 + 9)) (((lcw (wgt (X (2 + 8)) (N 78).toNat) (N 78).toNat).natAbs : Nat) : Int) (N 78).toNat (N 78).toNat) 13)) : Nat) : Int))) ∨ (y = 0 ∧ ¬ sml (pco V5 20))) ∧ DG X5 ∧ sBn X X5 ∧ v = some (.int (jn y)) := by
    rcases hq with ⟨ho, h5, m5, hq⟩ | ⟨ho, hq⟩
    · cases hq
      have hx : ∀ j, j < 13 → pco V5 20 j = (xfl X1 481 (pco V5 20) 13) 481 j := fun j hj => (xfl_at _ _ _ hj).symm
      refine ⟨1, _, m5, Or.inl ⟨rfl, sml_cg hx (sml_cg (fun j hj => if_pos hj) (hfi.mp ho).1), hit.cg hx⟩, d1.of (fun p kp => xfl_off _ _ _ (by have := cK_13 kp; omega)), s1.tr (sBn.row (Or.inl rfl)), rfl⟩
    · cases hq
      exact ⟨0, X1, m4, Or.inr ⟨rfl, fun q => ho (hfi.mpr ⟨sml_cg (fun j hj => (if_pos hj).symm) q, fun i hi => if_neg (by omega)⟩)⟩, d1, s1, rfl⟩
  subst hq
  have hy2 : y = 0 ∨ y = 1 := by
    rcases hy with ⟨e, _⟩ | ⟨e, _⟩
    · exact Or.inr e
    · exact Or.inl e
  refine mj_T.eq (pc2 := 130) (st2 := [.int (jn y)]) ?_ rfl rfl rfl rfl
  refine mj_T.if0 (a := y) rfl ⟨by omega, by omega⟩ (fun c43 => ?_) (fun c43 => ?_)
  · simp only [jc, Bool.not_eq_true', Bool.not_eq_false', decide_eq_true_eq, decide_eq_false_iff_not] at c43
    have hok := hy.resolve_right (fun q => absurd q.1 (by omega))
    iterate 2 refine mj_T.pl rfl rfl rfl rfl ?_
    refine mj_T.call rfl rfl (Nat.le_of_ble_eq_true rfl) (Nat.le_of_ble_eq_true rfl) (mV_of m5 19 cq_d1 (by decide) rfl (by decide) rfl _) rfl (mj_Ok.up (by omega) (mX_keep (D := 0) A m5 b5 d5 (c.sb s5) kto hok.2.1)) (fun v g44 hq => ?_) (fun i g44 hq => ?_)
    rotate_left
    · obtain ⟨_, _, hq⟩ := hq; cases hq
    obtain ⟨_, cs, hq⟩ := hq
    cases hq
    refine mj_T.eq (pc2 := 146) (st2 := [.int (jn ((fdg (X5 481) 13 : Int) - 1))]) ?_ rfl rfl rfl rfl
    iterate 2 refine mj_T.pl rfl rfl rfl rfl ?_
    refine jT.lc 0 rfl rfl ?_
    refine mj_T.lif (a := (((shg (pco V1 20) ((lcw (wgt (X (2 + 8)) (N 78).toNat) (N 78).toNat).natAbs) (fdg (itp (X (2 + 8)) (X (2 + 9)) (((lcw (wgt (X (2 + 8)) (N 78).toNat) (N 78).toNat).natAbs : Nat) : Int) (N 78).toNat (N 78).toNat) 13)) : Nat) : Int)) (b := ((0 : Nat) : Int)) rfl rfl ⟨by omega, by omega⟩ ⟨by omega, by omega⟩ (fun c45 => ?_) (fun c45 => ?_)
    · simp only [jc, Bool.not_eq_true', Bool.not_eq_false', decide_eq_true_eq, decide_eq_false_iff_not] at c45
      iterate 2 refine mj_T.pl rfl rfl rfl rfl ?_
      refine mj_T.ldiv rfl ⟨by omega, by omega⟩ ⟨by omega, by omega⟩ (by omega) ?_
      exact mj_T.ret rfl rfl rfl (Or.inl ⟨kto, _, _, _, hok.2.2, hok.2.1, cs, rfl⟩)
    · exfalso
      simp only [jc, Bool.not_eq_true', Bool.not_eq_false', decide_eq_true_eq, decide_eq_false_iff_not] at c45
      omega
  · simp only [jc, Bool.not_eq_true', Bool.not_eq_false', decide_eq_true_eq, decide_eq_false_iff_not] at c43
    have hbad := hy.resolve_left (fun q => absurd q.1 (by omega))
    exact mj_T.throws rfl rfl rfl (Nat.le_of_ble_eq_true rfl) (Or.inr ⟨_, _, Or.inr ⟨kto, ⟨_, _, hit, hbad.2⟩, rfl⟩, cS.thr hg m5 b5 d5 (c.sb s5), rfl⟩)
end MI2
