/-! The class, exactly: undo. -/
section MP7
variable {g h : mj_H} {n D u : Nat} {N : Nat → Int} {H : Nat → Nat → Int}
theorem pX_undo (A : AS N u H) (s : cS g n N u H h) : mj_Ok (D + 5) 118 [.ref 1] h (fun z => (u = 0 ∧ ∃ h2, cS g n N u H h2 ∧ z = (.inl (some (.int (jn (-1)))), h2)) ∨ (∃ v : Nat, u = v + 1 ∧ ∃ h2, cS g n (H 0) v (fun k => H (k + 1)) h2 ∧ z = (.inl (some (.int (jn (v : Int)))), h2))) := by
  obtain ⟨V, X, m, b0, d, e, he, q3, q2, b, bh, tl⟩ := s
  have hu := A.2.1
  refine mj_Ok.of (M := mj_m118) rfl rfl rfl ?_
  refine mj_T.pl rfl rfl rfl rfl ?_
  refine mT_get (v := .int (jn ((u : Nat) : Int))) m 19 cq_d1 (by decide) rfl (congrArg (fun z : Int => some (Value.int (jn z))) (q2)) ?_
  refine mj_T.if0 (a := ((u : Nat) : Int)) rfl ⟨by omega, by omega⟩ (fun c1 => ?_) (fun c1 => ?_)
  · simp only [jc, Bool.not_eq_true', Bool.not_eq_false', decide_eq_true_eq, decide_eq_false_iff_not] at c1
    have hb0 : BN X (483 + 10 * ((e + 7) % 8)) (H 0) := by
          have y := bh 0 (by omega)
          rw [show (e + 7 - 0) % 8 = (e + 7) % 8 by omega] at y
          exact y
    have hg0 := (A.2.2 0 (by omega)).2.1
    iterate 2 refine mj_T.pl rfl rfl rfl rfl ?_
    refine mT_get (v := .int (jn ((e : Nat) : Int))) m 19 cq_d1 (by decide) rfl (congrArg (fun z : Int => some (Value.int (jn z))) (q3)) ?_
    refine mj_T.pl rfl rfl rfl rfl ?_
    refine mj_T.iadd (a := ((e : Nat) : Int)) (b := 8) rfl ?_
    refine mj_T.pl rfl rfl rfl rfl ?_
    refine mj_T.isub (a := (((e : Nat) : Int) + 8)) (b := 1) rfl ?_
    refine mj_T.pl rfl rfl rfl rfl ?_
    refine mj_T.irem rfl ⟨by omega, by omega⟩ ⟨by omega, by omega⟩ (by omega) ?_
    refine mT_put (v := (((((e : Nat) : Int) + 8) - 1).tmod 8)) m 19 cq_d1 (by decide) rfl (by simp [jMf, xup]) (by simp [jMf]) rfl (fun h2 m3 => ?_)
    have ev : ((((e : Nat) : Int) + 8) - 1).tmod 8 = (((e + 7) % 8 : Nat) : Int) := by
      rw [Int.tmod_eq_emod_of_nonneg (by omega)]
      omega
    rw [ev] at m3
    iterate 2 refine mj_T.pl rfl rfl rfl rfl ?_
    refine mT_get (v := .int (jn ((u : Nat) : Int))) m3 19 cq_d1 (by decide) rfl (congrArg (fun z : Int => some (Value.int (jn z))) ((xup_ne _ _ (Or.inr (by decide))).trans q2)) ?_
    refine mj_T.pl rfl rfl rfl rfl ?_
    refine mj_T.isub (a := ((u : Nat) : Int)) (b := 1) rfl ?_
    refine mT_put (v := (((u : Nat) : Int) - 1)) m3 19 cq_d1 (by decide) rfl (by simp [jMf, xup]) (by simp [jMf]) rfl (fun h4 m5 => ?_)
    refine mj_T.pl rfl rfl rfl rfl ?_
    refine mT_get m5 19 cq_d1 (by decide) rfl rfl ?_
    refine mj_T.pl rfl rfl rfl rfl ?_
    refine mj_T.call rfl rfl (Nat.le_of_ble_eq_true rfl) (Nat.le_of_ble_eq_true rfl) (mV_of m5 19 cq_d1 (by decide) rfl (by decide) rfl _) rfl (mj_Ok.up (by omega) (mC_earlier (D := 0) m5 (e := (e + 7) % 8) (by omega) ((xup_ne _ _ (Or.inr (by decide))).trans (xup_at _ _ _ _)))) (fun v g6 hq => ?_) (fun i g6 hq => ?_)
    rotate_left
    · cases hq
    cases hq
    refine mj_T.eq (pc2 := 43) (st2 := [.ref (483 + 10 * ((e + 7) % 8)), .ref 2]) ?_ rfl rfl rfl rfl
    refine mj_T.call rfl rfl (Nat.le_of_ble_eq_true rfl) (Nat.le_of_ble_eq_true rfl) (mV_of m5 10 cq_d2 (by decide) rfl (by decide) rfl _) rfl (mj_Ok.up (by omega) (mB_copy (D := 0) m5 (p := (H 0 78).toNat) cq_d2 (cq_eb ((e + 7) % 8) (by omega)) (by omega) (by rw [xup_oth (by omega), xup_oth (by omega), hb0.2.1]; omega) (by omega))) (fun v g7 hq => ?_) (fun i g7 hq => ?_)
    rotate_left
    · obtain ⟨_, _, _, _, _, _, _, hq⟩ := hq; cases hq
    obtain ⟨X5, _, m5, y1, y2, y3, y4, hq⟩ := hq
    cases hq
    refine mj_T.eq (pc2 := 46) (st2 := []) ?_ rfl rfl rfl rfl
    refine mj_T.pl rfl rfl rfl rfl ?_
    refine mT_get (v := .int (jn ((u : Int) - 1))) m5 19 cq_d1 (by decide) rfl (congrArg (fun z : Int => some (Value.int (jn z))) ((congrFun (y4 1 (by omega)) 2).trans (xup_at _ _ _ _))) ?_
    have xo : ∀ c, c ≠ 1 → (xup (xup X 1 3 (((e + 7) % 8 : Nat) : Int)) 1 2 ((u : Int) - 1)) c = X c := fun c hc => by rw [xup_oth hc, xup_oth hc]
    have x13 : (xup (xup X 1 3 (((e + 7) % 8 : Nat) : Int)) 1 2 ((u : Int) - 1)) 1 3 = (((e + 7) % 8 : Nat) : Int) := (xup_ne _ _ (Or.inr (by decide))).trans (xup_at _ _ _ _)
    have x12 : (xup (xup X 1 3 (((e + 7) % 8 : Nat) : Int)) 1 2 ((u : Int) - 1)) 1 2 = (u : Int) - 1 := xup_at _ _ _ _
    refine mj_T.ret rfl rfl rfl (Or.inr ⟨u - 1, by omega, _, ⟨V, X5, m5, b0, d.of (fun p kp => (y4 p (by have := cK_13 kp; omega)).trans (xo p (by have := cK_13 kp; omega))), (e + 7) % 8, by omega, (congrFun (y4 1 (by omega)) 3).trans x13, ((congrFun (y4 1 (by omega)) 2).trans x12).trans (by omega), ⟨fun r hr j hj => ?_, ?_, fun k hk => ?_⟩, fun k hk => ?_, tl.to (fun c hc => (y4 c (by omega)).trans (xo c (by omega)))⟩, congrArg (fun z : Int => ((.inl (some (Value.int (jn z))), _) : mj_R)) (by omega)⟩)
    · refine (y1 r hr j hj).trans ?_
      rw [xo _ (by omega)]
      exact hb0.1 r hr j hj
    · rw [y2]
      omega
    · have y := y3 k (by omega)
      rw [xo _ (by omega), xo _ (by omega)] at y
      exact ⟨y.1.trans (hb0.2.2 k hk).1, y.2.trans (hb0.2.2 k hk).2⟩
    · rw [show 483 + 10 * (((e + 7) % 8 + 7 - k) % 8) = 483 + 10 * ((e + 7 - (k + 1)) % 8) by omega]
      exact (bh (k + 1) (by omega)).cg (fun c c1 c2 => (y4 c (by omega)).trans (xo c (by omega)))
  · simp only [jc, Bool.not_eq_true', Bool.not_eq_false', decide_eq_true_eq, decide_eq_false_iff_not] at c1
    refine mj_T.pl rfl rfl rfl rfl ?_
    exact mj_T.ret rfl rfl rfl (Or.inl ⟨by omega, _, ⟨V, X, m, b0, d, e, he, q3, q2, b, bh, tl⟩, rfl⟩)
end MP7
