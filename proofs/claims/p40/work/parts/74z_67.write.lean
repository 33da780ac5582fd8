/-! The class: write leaves the benches. -/
section MTW
variable {g h : mj_H} {n D u t r : Nat} {V : Nat → Int} {X : Nat → Nat → Int} {N : Nat → Int} {H : Nat → Nat → Int}
theorem mZ_82_loop (q : isT t) (kr : cK r = 2) (hjr : ∀ j, jR (X r j)) : ∀ k : Nat, k ≤ 13 → ∀ (X1 : Nat → Nat → Int) (h : mj_H), jM g n V X1 h → (0 ≤ X1 t 1 ∧ X1 t 1 ≤ 340) → (∀ c, c ≠ t → c ≠ t + 1 → X1 c = X c) → mj_T (D + 3) mj_m82 10 [some (.ref t), some (.ref r), some (.int (jn ((k : Int) - 1)))] [] h (fun z => ∃ (X2 : Nat → Nat → Int) (h2 : mj_H), jM g n V X2 h2 ∧ (0 ≤ X2 t 1 ∧ X2 t 1 ≤ 340) ∧ (∀ c, c ≠ t → c ≠ t + 1 → X2 c = X c) ∧ z = (.inl none, h2))
  | 0, hk, X1, h, m, hx, e1 => by
    have hj1 : ∀ j, jR (X1 r j) := fun j => by
      rw [e1 r (fun y => by rw [y, q.1] at kr; cases kr) (fun y => by rw [y, q.2.1] at kr; cases kr)]
      exact hjr j
    refine mj_T.pl rfl rfl rfl rfl ?_
    refine mj_T.if0 (a := (((0 : Nat) : Int) - 1)) rfl ⟨by omega, by omega⟩ (fun c1 => ?_) (fun c1 => ?_)
    · simp only [jc, Bool.not_eq_true', Bool.not_eq_false', decide_eq_true_eq, decide_eq_false_iff_not] at c1
      refine mj_T.pl rfl rfl rfl rfl ?_
      refine mT_get m 17 q.1 (by decide) rfl rfl ?_
      refine mj_T.if0 (a := (X1 t 1)) rfl ⟨by omega, by omega⟩ (fun c2 => ?_) (fun c2 => ?_)
      · simp only [jc, Bool.not_eq_true', Bool.not_eq_false', decide_eq_true_eq, decide_eq_false_iff_not] at c2
        exact mj_T.ret rfl rfl rfl ⟨_, _, m, hx, e1, rfl⟩
      · simp only [jc, Bool.not_eq_true', Bool.not_eq_false', decide_eq_true_eq, decide_eq_false_iff_not] at c2
        iterate 2 refine mj_T.pl rfl rfl rfl rfl ?_
        refine mj_T.call rfl rfl (Nat.le_of_ble_eq_true rfl) (Nat.le_of_ble_eq_true rfl) (mV_of m 17 q.1 (by decide) rfl (by decide) rfl _) rfl (mj_Ok.up (by omega) (mZ_80 (D := 0) m q hx (s := 48) ⟨by omega, by omega⟩)) (fun v g3 hq => ?_) (fun i g3 hq => ?_)
        rotate_left
        · obtain ⟨_, _, _, _, _, hq⟩ := hq; cases hq
        obtain ⟨X4, _, m5, x6, e7, hq⟩ := hq
        cases hq
        have e7 : ∀ c, c ≠ t → c ≠ t + 1 → X4 c = X c := fun c c1 c2 => (e7 c c1 c2).trans (e1 c c1 c2)
        refine mj_T.eq (pc2 := 49) (st2 := []) ?_ rfl rfl rfl rfl
        exact mj_T.ret rfl rfl rfl ⟨_, _, m5, x6, e7, rfl⟩
    · exfalso
      simp only [jc, Bool.not_eq_true', Bool.not_eq_false', decide_eq_true_eq, decide_eq_false_iff_not] at c1
      omega
  | k + 1, hk, X1, h, m, hx, e1 => by
    have hj1 : ∀ j, jR (X1 r j) := fun j => by
      rw [e1 r (fun y => by rw [y, q.1] at kr; cases kr) (fun y => by rw [y, q.2.1] at kr; cases kr)]
      exact hjr j
    rw [show (((k + 1 : Nat)) : Int) - 1 = ((k : Nat) : Int) by omega]
    refine mj_T.pl rfl rfl rfl rfl ?_
    refine mj_T.if0 (a := ((k : Nat) : Int)) rfl ⟨by omega, by omega⟩ (fun c1 => ?_) (fun c1 => ?_)
    · exfalso
      simp only [jc, Bool.not_eq_true', Bool.not_eq_false', decide_eq_true_eq, decide_eq_false_iff_not] at c1
      omega
    · simp only [jc, Bool.not_eq_true', Bool.not_eq_false', decide_eq_true_eq, decide_eq_false_iff_not] at c1
      iterate 2 refine mj_T.pl rfl rfl rfl rfl ?_
      refine mT_lald m kr rfl ⟨by omega, by omega⟩ ?_
      refine mj_T.eq (st2 := [.long (jl (X1 r k))]) ?_ rfl rfl rfl rfl
      refine jT.lc 0 rfl rfl ?_
      refine mj_T.lif (a := (X1 r k)) (b := ((0 : Nat) : Int)) rfl rfl (hj1 _) ⟨by omega, by omega⟩ (fun c2 => ?_) (fun c2 => ?_)
      · simp only [jc, Bool.not_eq_true', Bool.not_eq_false', decide_eq_true_eq, decide_eq_false_iff_not] at c2
        refine mj_T.iinc rfl rfl ?_
        refine mj_T.eq (loc2 := [some (.ref t), some (.ref r), some (.int (jn (((k : Nat) : Int) + (-1))))]) ?_ rfl rfl rfl rfl
        refine mj_T.pl rfl rfl rfl rfl ?_
        rw [show (k : Int) + (-1) = (k : Int) - 1 by omega]
        exact mZ_82_loop q kr hjr k (by omega) _ _ m hx e1
      · simp only [jc, Bool.not_eq_true', Bool.not_eq_false', decide_eq_true_eq, decide_eq_false_iff_not] at c2
        iterate 3 refine mj_T.pl rfl rfl rfl rfl ?_
        refine mT_lald m kr rfl ⟨by omega, by omega⟩ ?_
        refine mj_T.eq (st2 := [.long (jl (X1 r k)), .ref t]) ?_ rfl rfl rfl rfl
        refine mj_T.pl rfl rfl rfl rfl ?_
        refine mj_T.call rfl rfl (Nat.le_of_ble_eq_true rfl) (Nat.le_of_ble_eq_true rfl) (mV_of m 17 q.1 (by decide) rfl (by decide) rfl _) rfl (mj_Ok.up (by omega) (mZ_83 (D := 0) m q hx (y := (X1 r k)) (s := ((k : Nat) : Int)) (hj1 _) ⟨by omega, by omega⟩)) (fun v g3 hq => ?_) (fun i g3 hq => ?_)
        rotate_left
        · obtain ⟨_, _, _, _, _, hq⟩ := hq; cases hq
        obtain ⟨X4, _, m5, x6, e7, hq⟩ := hq
        cases hq
        have e7 : ∀ c, c ≠ t → c ≠ t + 1 → X4 c = X c := fun c c1 c2 => (e7 c c1 c2).trans (e1 c c1 c2)
        refine mj_T.eq (pc2 := 30) (st2 := []) ?_ rfl rfl rfl rfl
        refine mj_T.iinc rfl rfl ?_
        refine mj_T.eq (loc2 := [some (.ref t), some (.ref r), some (.int (jn (((k : Nat) : Int) + (-1))))]) ?_ rfl rfl rfl rfl
        refine mj_T.pl rfl rfl rfl rfl ?_
        rw [show (k : Int) + (-1) = (k : Int) - 1 by omega]
        exact mZ_82_loop q kr hjr k (by omega) _ _ m5 x6 e7
theorem mZ_82 (m : jM g n V X h) (q : isT t) (kr : cK r = 2) (hjr : ∀ j, jR (X r j)) : mj_Ok (D + 4) 82 [.ref t, .ref r] h (fun z => ∃ (X2 : Nat → Nat → Int) (h2 : mj_H), jM g n V X2 h2 ∧ (0 ≤ X2 t 1 ∧ X2 t 1 ≤ 340) ∧ (∀ c, c ≠ t → c ≠ t + 1 → X2 c = X c) ∧ z = (.inl none, h2)) := by
  refine mj_Ok.of (M := mj_m82) rfl rfl rfl ?_
  iterate 2 refine mj_T.pl rfl rfl rfl rfl ?_
  refine mT_put (v := 0) m 17 q.1 (by decide) rfl (by simp [jMf, xup]) (by simp [jMf]) rfl (fun h1 m2 => ?_)
  refine mj_T.pl rfl rfl rfl rfl ?_
  refine mT_llen m2 kr rfl ?_
  refine mj_T.pl rfl rfl rfl rfl ?_
  refine mj_T.isub (a := ((13 : Nat) : Int)) (b := 1) rfl ?_
  refine mj_T.pl (loc' := [some (.ref t), some (.ref r), some (.int (jn (((13 : Nat) : Int) - 1)))]) rfl rfl rfl rfl ?_
  exact mZ_82_loop q kr hjr 13 (by decide) _ _ m2 ⟨by rw [xup_at]; decide, by rw [xup_at]; decide⟩ (fun c c1 c2 => xup_oth c1)
theorem CR.txt {X2 : Nat → Nat → Int} (h : ∀ c, c ≠ 15 → c ≠ 16 → c ≠ 17 → c ≠ 18 → X2 c = X c) (tl : TL X2) (c : CR X N u H) : CR X2 N u H := by
  obtain ⟨e, he, h3, h2, b, bh, _⟩ := c
  exact ⟨e, he, by rw [h 1 (by decide) (by decide) (by decide) (by decide)]; exact h3, by rw [h 1 (by decide) (by decide) (by decide) (by decide)]; exact h2, b.cg (fun c c1 c2 => h c (by omega) (by omega) (by omega) (by omega)), fun k hk => (bh k hk).cg (fun c c1 c2 => h c (by omega) (by omega) (by omega) (by omega)), tl⟩
theorem CR.tl (c : CR X N u H) : TL X := by
  obtain ⟨_, _, _, _, _, _, tl⟩ := c
  exact tl
theorem pX_write (hg : g.length ≤ n) (A : AS N u H) (s : cS g n N u H h) {a : Int} (ra : -2147483648 ≤ a ∧ a ≤ 2147483647) : mj_Ok (D + 5) 144 [.ref 1, .int (jn a)] h (rdL g n N u H) := by
  obtain ⟨V, X, m, b, d, c, jx⟩ := s.nr A
  have jx : rjR X := jx
  refine mj_Ok.of (M := mj_m144) rfl rfl rfl ?_
  refine mj_T.pl rfl rfl rfl rfl ?_
  refine mT_get m 19 cq_d1 (by decide) rfl rfl ?_
  iterate 2 refine mj_T.pl rfl rfl rfl rfl ?_
  refine mj_T.call rfl rfl (Nat.le_of_ble_eq_true rfl) (Nat.le_of_ble_eq_true rfl) (mV_of m 19 cq_d1 (by decide) rfl (by decide) rfl _) rfl (mj_Ok.up (by omega) (mC_rowOf (D := 0) m (i := a) (by omega))) (fun v g1 hq => ?_) (fun i g1 hq => ?_)
  rotate_left
  · rcases hq with ⟨_, hq⟩ | ⟨hn, hq⟩
    · cases hq
    · cases hq
      exact Or.inl ⟨rfl, Or.inr ⟨_, _, cS.thr hg m b d (c.sb (sBn.rf X)), rfl⟩⟩
  rcases hq with ⟨ka, hq⟩ | ⟨_, hq⟩
  rotate_left
  · cases hq
  cases hq
  refine mj_T.eq (pc2 := 9) (st2 := [.ref (4 + a.toNat), .ref 15]) ?_ rfl rfl rfl rfl
  refine mj_T.call rfl rfl (Nat.le_of_ble_eq_true rfl) (Nat.le_of_ble_eq_true rfl) (mV_of m 17 cq_d15 (by decide) rfl (by decide) rfl _) rfl (mj_Ok.up (by omega) (mZ_82 (D := 0) m isT_15 (mK_rt a.toNat (by omega)) (jx _ (mK_rt a.toNat (by omega))))) (fun v g2 hq => ?_) (fun i g2 hq => ?_)
  rotate_left
  · obtain ⟨_, _, _, _, _, hq⟩ := hq; cases hq
  obtain ⟨X2, _, m2, x2, e2, hq⟩ := hq
  cases hq
  have c2 : CR X2 N u H := c.txt (fun c c1 c2 c3 c4 => e2 c c1 c2) ⟨x2, by
    rw [e2 17 (by decide) (by decide)]
    exact c.tl.2⟩
  have d2 : DG X2 := d.of (fun p kp => e2 p (by have := cK_13 kp; omega) (by have := cK_13 kp; omega))
  refine mj_T.eq (pc2 := 12) (st2 := []) ?_ rfl rfl rfl rfl
  refine mj_T.pl rfl rfl rfl rfl ?_
  refine mT_get m2 19 cq_d1 (by decide) rfl rfl ?_
  refine mT_get m2 17 cq_d15 (by decide) rfl rfl ?_
  exact mj_T.ret rfl rfl rfl (Or.inl ⟨_, _, ⟨_, _, m2, b, d2, c2⟩, rfl⟩)
end MTW
