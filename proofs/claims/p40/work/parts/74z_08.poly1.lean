/-! The polynomials of the class, exactly. -/
theorem jsg_r (v : Int) : jr (jsg v) := by
  have := jsg_range v
  exact ⟨by omega, by omega⟩
theorem jsg_z0 {v : Int} : jsg v = 0 ↔ v = 0 := by
  unfold jsg
  constructor
  · intro h
    split at h
    · cases h
    · split at h
      · cases h
      · omega
  · intro h
    rw [if_neg (by omega), if_neg (by omega)]
theorem xup_xup (X : Nat → Nat → Int) (a i : Nat) (v w : Int) : xup (xup X a i v) a i w = xup X a i w := funext fun b => funext fun j => by
  unfold xup
  split <;> rfl
theorem jM.to {g h : mj_H} {n : Nat} {V V' : Nat → Int} {X X' : Nat → Nat → Int} (m : jM g n V X h) (e1 : V' = V) (e2 : X' = X) : jM g n V' X' h := by
  subst e1
  subst e2
  exact m
section MPP
variable {g h : mj_H} {n D p : Nat} {V : Nat → Int} {X : Nat → Nat → Int}
theorem mP_at (m : jM g n V X h) (kp : cK p = 13) {e : Nat} (he : e < cL (p + 3)) : mj_Ok (D + 1) 36 [.ref p, .int (jn (e : Int))] h (fun r => r = (.inl (some (.ref (p + 4 + 2 * e))), h)) := by
  have hb := (mK_p kp).2.2.1
  refine mj_Ok.of (M := mj_m36) rfl rfl rfl ?_
  refine mj_T.pl rfl rfl rfl rfl ?_
  refine mj_T.if0 (a := ((e : Nat) : Int)) rfl ⟨by omega, by omega⟩ (fun c1 => ?_) (fun c1 => ?_)
  · exfalso
    simp only [jc, Bool.not_eq_true', Bool.not_eq_false', decide_eq_true_eq, decide_eq_false_iff_not] at c1
    omega
  · simp only [jc, Bool.not_eq_true', Bool.not_eq_false', decide_eq_true_eq, decide_eq_false_iff_not] at c1
    iterate 2 refine mj_T.pl rfl rfl rfl rfl ?_
    refine mT_get m 13 kp (by decide) rfl rfl ?_
    refine mT_alen m 4 (mK_p kp).2.1 (by decide) rfl ?_
    refine mj_T.icmp (a := ((e : Nat) : Int)) (b := ((cL (p + 3) : Nat) : Int)) rfl ⟨by omega, by omega⟩ ⟨by omega, by omega⟩ (fun c2 => ?_) (fun c2 => ?_)
    · exfalso
      simp only [jc, Bool.not_eq_true', Bool.not_eq_false', decide_eq_true_eq, decide_eq_false_iff_not] at c2
      omega
    · simp only [jc, Bool.not_eq_true', Bool.not_eq_false', decide_eq_true_eq, decide_eq_false_iff_not] at c2
      refine mj_T.pl rfl rfl rfl rfl ?_
      refine mT_get m 13 kp (by decide) rfl rfl ?_
      refine mj_T.pl rfl rfl rfl rfl ?_
      refine mT_aald m 4 (mK_p kp).2.1 (by decide) rfl rfl (by omega) ⟨by omega, by omega⟩ ?_
      refine mj_T.eq (st2 := [.ref (p + 4 + 2 * e)]) ?_ rfl rfl rfl rfl
      refine mj_T.pl rfl rfl rfl rfl ?_
      exact mj_T.ret rfl rfl rfl rfl
theorem mP_atB (m : jM g n V X h) (kp : cK p = 13) {e : Int} (jr_e : jr e) (he : e < 0 ∨ (cL (p + 3) : Int) ≤ e) : mj_Ok (D + 1) 36 [.ref p, .int (jn e)] h (fun r => r = (.inl (some (.ref (p + 1))), h)) := by
  have hb := (mK_p kp).2.2.1
  refine mj_Ok.of (M := mj_m36) rfl rfl rfl ?_
  refine mj_T.pl rfl rfl rfl rfl ?_
  refine mj_T.if0 (a := e) rfl jr_e (fun c1 => ?_) (fun c1 => ?_)
  · simp only [jc, Bool.not_eq_true', Bool.not_eq_false', decide_eq_true_eq, decide_eq_false_iff_not] at c1
    refine mj_T.pl rfl rfl rfl rfl ?_
    refine mT_get m 13 kp (by decide) rfl rfl ?_
    exact mj_T.ret rfl rfl rfl rfl
  · simp only [jc, Bool.not_eq_true', Bool.not_eq_false', decide_eq_true_eq, decide_eq_false_iff_not] at c1
    iterate 2 refine mj_T.pl rfl rfl rfl rfl ?_
    refine mT_get m 13 kp (by decide) rfl rfl ?_
    refine mT_alen m 4 (mK_p kp).2.1 (by decide) rfl ?_
    refine mj_T.icmp (a := e) (b := ((cL (p + 3) : Nat) : Int)) rfl jr_e ⟨by omega, by omega⟩ (fun c2 => ?_) (fun c2 => ?_)
    · simp only [jc, Bool.not_eq_true', Bool.not_eq_false', decide_eq_true_eq, decide_eq_false_iff_not] at c2
      refine mj_T.pl rfl rfl rfl rfl ?_
      refine mT_get m 13 kp (by decide) rfl rfl ?_
      exact mj_T.ret rfl rfl rfl rfl
    · exfalso
      simp only [jc, Bool.not_eq_true', Bool.not_eq_false', decide_eq_true_eq, decide_eq_false_iff_not] at c2
      omega
theorem mP_lead (m : jM g n V X h) (kp : cK p = 13) {e : Nat} (hd : X p 2 = (e : Int)) (he : e < cL (p + 3)) : mj_Ok (D + 2) 37 [.ref p] h (fun r => r = (.inl (some (.ref (p + 4 + 2 * e))), h)) := by
  refine mj_Ok.of (M := mj_m37) rfl rfl rfl ?_
  iterate 2 refine mj_T.pl rfl rfl rfl rfl ?_
  refine mT_get (v := .int (jn ((e : Nat) : Int))) m 13 kp (by decide) rfl (congrArg (fun z : Int => some (Value.int (jn z))) (hd)) ?_
  refine mj_T.call rfl rfl (Nat.le_of_ble_eq_true rfl) (Nat.le_of_ble_eq_true rfl) (mV_of m 13 kp (by decide) rfl (by decide) rfl _) rfl (mj_Ok.up (by omega) (mP_at (D := 0) m kp (e := e) (by omega))) (fun v g1 hq => ?_) (fun i g1 hq => ?_)
  rotate_left
  · cases hq
  cases hq
  refine mj_T.eq (pc2 := 8) (st2 := [.ref (p + 4 + 2 * e)]) ?_ rfl rfl rfl rfl
  exact mj_T.ret rfl rfl rfl rfl
theorem mP_highest (m : jM g n V X h) (kp : cK p = 13) : mj_Ok (D + 1) 38 [.ref p] h (fun r => r = (.inl (some (.int (jn ((cL (p + 3) : Int) - 1)))), h)) := by
  refine mj_Ok.of (M := mj_m38) rfl rfl rfl ?_
  refine mj_T.pl rfl rfl rfl rfl ?_
  refine mT_get m 13 kp (by decide) rfl rfl ?_
  refine mT_alen m 4 (mK_p kp).2.1 (by decide) rfl ?_
  refine mj_T.pl rfl rfl rfl rfl ?_
  refine mj_T.isub (a := ((cL (p + 3) : Nat) : Int)) (b := 1) rfl ?_
  exact mj_T.ret rfl rfl rfl rfl
theorem mP_settle_loop (kp : cK p = 13) (hcl : pcl V p) {Q : mj_R → Prop} (hend : ∀ h, jM g n V (xup X p 2 ((fdg (pco V p) (cL (p + 3)) : Int) - 1)) h → Q (.inl none, h)) : ∀ k i, i + k = cL (p + 3) → ∀ h, jM g n V (xup X p 2 ((fdg (pco V p) i : Int) - 1)) h → mj_T D mj_m42 7 [some (.ref p), some (.int (jn (i : Int)))] [] h Q
  | 0, i, hi, h, m => by
    have hb := (mK_p kp).2.2.1
    iterate 2 refine mj_T.pl rfl rfl rfl rfl ?_
    refine mT_get m 13 kp (by decide) rfl rfl ?_
    refine mT_alen m 4 (mK_p kp).2.1 (by decide) rfl ?_
    refine mj_T.icmp (a := ((i : Nat) : Int)) (b := ((cL (p + 3) : Nat) : Int)) rfl ⟨by omega, by omega⟩ ⟨by omega, by omega⟩ (fun c1 => ?_) (fun c1 => ?_)
    · simp only [jc, Bool.not_eq_true', Bool.not_eq_false', decide_eq_true_eq, decide_eq_false_iff_not] at c1
      exact mj_T.ret rfl rfl rfl (hend _ (by rw [show i = cL (p + 3) by omega] at m; exact m))
    · exfalso
      simp only [jc, Bool.not_eq_true', Bool.not_eq_false', decide_eq_true_eq, decide_eq_false_iff_not] at c1
      omega
  | k + 1, i, hi, h, m => by
    have hb := (mK_p kp).2.2.1
    have hdl := fdg_le (pco V p) i
    have hci := hcl i (by omega)
    iterate 2 refine mj_T.pl rfl rfl rfl rfl ?_
    refine mT_get m 13 kp (by decide) rfl rfl ?_
    refine mT_alen m 4 (mK_p kp).2.1 (by decide) rfl ?_
    refine mj_T.icmp (a := ((i : Nat) : Int)) (b := ((cL (p + 3) : Nat) : Int)) rfl ⟨by omega, by omega⟩ ⟨by omega, by omega⟩ (fun c1 => ?_) (fun c1 => ?_)
    · exfalso
      simp only [jc, Bool.not_eq_true', Bool.not_eq_false', decide_eq_true_eq, decide_eq_false_iff_not] at c1
      omega
    · simp only [jc, Bool.not_eq_true', Bool.not_eq_false', decide_eq_true_eq, decide_eq_false_iff_not] at c1
      iterate 2 refine mj_T.pl rfl rfl rfl rfl ?_
      refine mT_get m 13 kp (by decide) rfl rfl ?_
      refine mj_T.pl rfl rfl rfl rfl ?_
      refine mT_aald m 4 (mK_p kp).2.1 (by decide) rfl rfl (by omega) ⟨by omega, by omega⟩ ?_
      refine mj_T.eq (st2 := [.ref (p + 4 + 2 * i), .ref p]) ?_ rfl rfl rfl rfl
      refine mT_sg m ((mK_p kp).2.2.2 _ (by omega)) rfl ?_
      refine mj_T.if0 (a := (jsg (V (p + 4 + 2 * i)))) rfl (jsg_r _) (fun c2 => ?_) (fun c2 => ?_)
      · simp only [jc, Bool.not_eq_true', Bool.not_eq_false', decide_eq_true_eq, decide_eq_false_iff_not] at c2
        refine mj_T.pl rfl rfl rfl rfl ?_
        refine mT_get (v := .int (jn ((fdg (pco V p) i : Int) - 1))) m 13 kp (by decide) rfl (congrArg (fun z : Int => some (Value.int (jn z))) (xup_at X p 2 _)) ?_
        refine mT_put (v := ((fdg (pco V p) i : Int) - 1)) m 13 kp (by decide) rfl (by simp [jMf, xup]) (by simp [jMf]) rfl (fun h3 m4 => ?_)
        refine mj_T.iinc rfl rfl ?_
        rw [show ((i : Nat) : Int) + 1 = ((i + 1 : Nat) : Int) by omega]
        refine mj_T.eq (loc2 := [some (.ref p), some (.int (jn (((i + 1) : Nat) : Int)))]) ?_ rfl rfl rfl rfl
        refine mj_T.pl rfl rfl rfl rfl ?_
        refine mP_settle_loop kp hcl hend k (i + 1) (by omega) _ (m4.to rfl ?_)
        rw [xup_xup]
        congr 1
        show ((fdg (pco V p) (i + 1) : Nat) : Int) - 1 = _
        rw [fdg_succ]
        by_cases z : V (p + 4 + 2 * i) = 0
        · first | (rw [if_pos (show pco V p i = 0 from z)]; done) | (exact absurd (jsg_z0.mpr z) (by assumption))
        · first | (rw [if_neg (show ¬ pco V p i = 0 from z)]; omega) | (exact absurd (jsg_z0.mp (by assumption)) z)
      · simp only [jc, Bool.not_eq_true', Bool.not_eq_false', decide_eq_true_eq, decide_eq_false_iff_not] at c2
        iterate 2 refine mj_T.pl rfl rfl rfl rfl ?_
        refine mT_put (v := ((i : Nat) : Int)) m 13 kp (by decide) rfl (by simp [jMf, xup]) (by simp [jMf]) rfl (fun h5 m6 => ?_)
        refine mj_T.iinc rfl rfl ?_
        rw [show ((i : Nat) : Int) + 1 = ((i + 1 : Nat) : Int) by omega]
        refine mj_T.eq (loc2 := [some (.ref p), some (.int (jn (((i + 1) : Nat) : Int)))]) ?_ rfl rfl rfl rfl
        refine mj_T.pl rfl rfl rfl rfl ?_
        refine mP_settle_loop kp hcl hend k (i + 1) (by omega) _ (m6.to rfl ?_)
        rw [xup_xup]
        congr 1
        show ((fdg (pco V p) (i + 1) : Nat) : Int) - 1 = _
        rw [fdg_succ]
        by_cases z : V (p + 4 + 2 * i) = 0
        · first | (rw [if_pos (show pco V p i = 0 from z)]; done) | (exact absurd (jsg_z0.mpr z) (by assumption))
        · first | (rw [if_neg (show ¬ pco V p i = 0 from z)]; omega) | (exact absurd (jsg_z0.mp (by assumption)) z)
theorem mP_settle (m : jM g n V X h) (kp : cK p = 13) (hcl : pcl V p) : mj_Ok (D + 1) 42 [.ref p] h (fun r => ∃ h2, jM g n V (xup X p 2 ((fdg (pco V p) (cL (p + 3)) : Int) - 1)) h2 ∧ r = (.inl none, h2)) := by
  refine mj_Ok.of (M := mj_m42) rfl rfl rfl ?_
  iterate 2 refine mj_T.pl rfl rfl rfl rfl ?_
  refine mT_put (v := (-1)) m 13 kp (by decide) rfl (by simp [jMf, xup]) (by simp [jMf]) rfl (fun h1 m2 => ?_)
  refine mj_T.pl rfl rfl rfl rfl ?_
  refine mj_T.pl (loc' := [some (.ref p), some (.int (jn 0))]) rfl rfl rfl rfl ?_
  exact mP_settle_loop kp hcl (fun h1 m1 => ⟨h1, m1, rfl⟩) (cL (p + 3)) 0 (by omega) _ (m2.to rfl (by rfl))
end MPP
