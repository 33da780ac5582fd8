/-! The class, exactly: the calls that lay a polynomial into a register (add, subtract, multiply, power, derive, substitute). -/
/-- a call that lays a polynomial into a register: reg the registers are ones, fail what is thrown, res what is laid -/
def RO (g : mj_H) (n : Nat) (N : Nat → Int) (u : Nat) (H : Nat → Nat → Int) (reg : Prop) (fail : Nat → Prop) (res : (Nat → Int) → Prop) (to : Int) (z : mj_R) : Prop := (reg ∧ ∃ (w : Nat → Int) (h2 : mj_H), sml w ∧ res w ∧ cS g n (jfl N to.toNat w 13) (upu u) (pushH N H) h2 ∧ z = (.inl (some (.int (jn ((fdg w 13 : Int) - 1)))), h2)) ∨ (∃ (k : Nat) (h2 : mj_H), ((¬ reg ∧ k = 0) ∨ (reg ∧ fail k)) ∧ cS g (n + 1) N u H h2 ∧ z = (.inr k, h2))
/-- what makes a polynomial in the result -/
def oR (g : mj_H) (n : Nat) (X : Nat → Nat → Int) (res : (Nat → Int) → Prop) (bad : Prop) (z : mj_R) : Prop := ∃ (V2 : Nat → Int) (X2 : Nat → Nat → Int) (h2 : mj_H) (y : Int), jM g n V2 X2 h2 ∧ by0 V2 ∧ DG X2 ∧ sBn X X2 ∧ ((y = 1 ∧ sml (X2 481) ∧ res (X2 481)) ∨ (y = 0 ∧ bad)) ∧ z = (.inl (some (.int (jn y))), h2)
theorem sml_cg {f f' : Nat → Int} (e : ∀ j, j < 13 → f j = f' j) (s : sml f) : sml f' := fun j hj => by
  rw [← e j hj]
  exact s j hj
/-- the sum, the difference -/
def sumN (N : Nat → Int) (f a b : Int) : Nat → Int := fun j => rwN N a j + f * rwN N b j
def drN (N : Nat → Int) (a : Int) : Nat → Int := dvr (rwN N a)
def isP (P : pz_P) (w : Nat → Int) : Prop := fit13 P ∧ ∀ j, j < 13 → w j = P j
theorem isP.s {P : pz_P} {w : Nat → Int} (h : isP P w) : sml w := sml_cg (fun j hj => (h.2 j hj).symm) h.1.1
section MP1
variable {g h : mj_H} {n D u : Nat} {V : Nat → Int} {X : Nat → Nat → Int} {N : Nat → Int} {H : Nat → Nat → Int}
theorem cR_ne {a : Int} (ha : 0 ≤ a ∧ a ≤ 5) : 4 + a.toNat ≠ 481 := by omega
theorem oX_sum (A : AS N u H) (m : jM g n V X h) (b0 : by0 V) (d : DG X) (c : CR X N u H) {a : Int} (ha : 0 ≤ a ∧ a ≤ 5) {b : Int} (hb : 0 ≤ b ∧ b ≤ 5) {f : Int} (hf : f = 1 ∨ f = -1) : mj_Ok (D + 2) 167 [.ref (4 + a.toNat), .ref (4 + b.toNat), .int (jn f), .ref 481] h (oR g n X (fun w => sml (sumN N f a b) ∧ ∀ j, j < 13 → w j = sumN N f a b j) (¬ sml (sumN N f a b))) := by
  have ea : ∀ j, j < 13 → (fun e => X (4 + a.toNat) e + f * X (4 + b.toNat) e) j = sumN N f a b j := fun j hj => by
    show X (4 + a.toNat) j + f * X (4 + b.toNat) j = rwN N a j + f * rwN N b j
    rw [c.rw ha j hj, c.rw hb j hj]
  refine (mS_sum (D := D) m (mK_rt a.toNat (by omega)) (mK_rt b.toNat (by omega)) cq_d481 (c.sm A.1 ha) (c.sm A.1 hb) hf).to (fun z hz => ?_)
  obtain ⟨h2, m2, hz⟩ := hz
  have d2 : DG (xfl X 481 (fun e => X (4 + a.toNat) e + f * X (4 + b.toNat) e) 13) := d.of (fun p kp => xfl_off _ _ _ (by have := cK_13 kp; omega))
  rcases hz with ⟨hs, rfl⟩ | ⟨hs, rfl⟩
  · refine ⟨V, _, h2, 1, m2, b0, d2, sBn.row (Or.inl rfl), Or.inl ⟨rfl, sml_cg (fun j hj => (xfl_at _ _ _ hj).symm) hs, sml_cg ea hs, fun j hj => (xfl_at _ _ _ hj).trans (ea j hj)⟩, rfl⟩
  · exact ⟨V, _, h2, 0, m2, b0, d2, sBn.row (Or.inl rfl), Or.inr ⟨rfl, fun q => hs (sml_cg (fun j hj => (ea j hj).symm) q)⟩, rfl⟩
theorem oX_mul (A : AS N u H) (m : jM g n V X h) (b0 : by0 V) (d : DG X) (c : CR X N u H) {a : Int} (ha : 0 ≤ a ∧ a ≤ 5) {b : Int} (hb : 0 ≤ b ∧ b ≤ 5) : mj_Ok (D + 4) 11 [.ref 19, .ref (4 + a.toNat), .ref (4 + b.toNat), .ref 481] h (oR g n X (isP (pz_mul (rwN N a) (rwN N b))) (¬ fit13 (pz_mul (rwN N a) (rwN N b)))) := by
  refine (mD_mulRows (D := D) m (mK_rt a.toNat (by omega)) (mK_rt b.toNat (by omega)) (c.sm A.1 ha) (c.sm A.1 hb) cq_d481).to (fun z hz => ?_)
  obtain ⟨V2, X2, h2, m2, df, xf, hz⟩ := hz
  rw [c.rw13 ha, c.rw13 hb] at hz
  rcases hz with ⟨hf, rfl, hx⟩ | ⟨hf, rfl⟩
  · exact ⟨V2, X2, h2, 1, m2, b0.dF df, d.xF xf, sBn.xF xf, Or.inl ⟨rfl, isP.s ⟨hf, hx⟩, hf, hx⟩, rfl⟩
  · exact ⟨V2, X2, h2, 0, m2, b0.dF df, d.xF xf, sBn.xF xf, Or.inr ⟨rfl, hf⟩, rfl⟩
theorem oX_put (A : AS N u H) (m : jM g n V X h) (b0 : by0 V) (d : DG X) (c : CR X N u H) {a : Int} (ha : 0 ≤ a ∧ a ≤ 5) {b : Int} (hb : 0 ≤ b ∧ b ≤ 5) : mj_Ok (D + 4) 13 [.ref 19, .ref (4 + a.toNat), .ref (4 + b.toNat), .ref 481] h (oR g n X (isP (hw (rwN N a) (rwN N b) 13)) (¬ fit13 (hw (rwN N a) (rwN N b) 13))) := by
  refine (mD_putIn (D := D) m (mK_rt a.toNat (by omega)) (mK_rt b.toNat (by omega)) cq_d481 (c.sm A.1 ha) (c.sm A.1 hb) (b0.p cq_d80)).to (fun z hz => ?_)
  obtain ⟨V2, X2, h2, m2, df, xf, hz⟩ := hz
  rw [c.rw13 ha, c.rw13 hb] at hz
  rcases hz with ⟨hf, rfl, hx⟩ | ⟨hf, rfl⟩
  · exact ⟨V2, X2, h2, 1, m2, b0.dF df, d.xF xf, sBn.xF xf, Or.inl ⟨rfl, isP.s ⟨hf, hx⟩, hf, hx⟩, rfl⟩
  · exact ⟨V2, X2, h2, 0, m2, b0.dF df, d.xF xf, sBn.xF xf, Or.inr ⟨rfl, hf⟩, rfl⟩
theorem oX_pow (A : AS N u H) (m : jM g n V X h) (b0 : by0 V) (d : DG X) (c : CR X N u H) {a : Int} (ha : 0 ≤ a ∧ a ≤ 5) {e : Int} (he : 0 ≤ e ∧ e ≤ 12) : mj_Ok (D + 4) 12 [.ref 19, .ref (4 + a.toNat), .int (jn e), .ref 481] h (oR g n X (isP (pw (rwN N a) e.toNat)) (¬ fit13 (pw (rwN N a) e.toNat))) := by
  have k := mD_raise (D := D) m (mK_rt a.toNat (by omega)) cq_d481 (c.sm A.1 ha) (e := e.toNat) (by omega) (b0.p cq_d80)
  rw [Int.toNat_of_nonneg he.1] at k
  refine k.to (fun z hz => ?_)
  obtain ⟨V2, X2, h2, m2, df, xf, hz⟩ := hz
  rw [c.rw13 ha] at hz
  rcases hz with ⟨hf, rfl, hx⟩ | ⟨hf, rfl⟩
  · exact ⟨V2, X2, h2, 1, m2, b0.dF df, d.xF xf, sBn.xF xf, Or.inl ⟨rfl, isP.s ⟨hf, hx⟩, hf, hx⟩, rfl⟩
  · exact ⟨V2, X2, h2, 0, m2, b0.dF df, d.xF xf, sBn.xF xf, Or.inr ⟨rfl, hf⟩, rfl⟩
theorem oX_der (A : AS N u H) (m : jM g n V X h) (b0 : by0 V) (d : DG X) (c : CR X N u H) {a : Int} (ha : 0 ≤ a ∧ a ≤ 5) : mj_Ok (D + 2) 168 [.ref (4 + a.toNat), .ref 481] h (oR g n X (fun w => sml (drN N a) ∧ ∀ j, j < 13 → w j = drN N a j) (¬ sml (drN N a))) := by
  have ea : ∀ j, j < 13 → dvr (X (4 + a.toNat)) j = drN N a j := fun j hj => by
    show dvr (X (4 + a.toNat)) j = dvr (rwN N a) j
    unfold dvr
    split
    · rw [c.rw ha _ (by omega)]
    · rfl
  refine (mS_derive (D := D) m (mK_rt a.toNat (by omega)) cq_d481 (cR_ne ha) (c.sm A.1 ha)).to (fun z hz => ?_)
  obtain ⟨X2, h2, m2, ho, hz⟩ := hz
  have d2 : DG X2 := d.of (fun p kp => ho p (by have := cK_13 kp; omega))
  rcases hz with ⟨hs, rfl, hx⟩ | ⟨hs, rfl⟩
  · exact ⟨V, X2, h2, 1, m2, b0, d2, sBn.of ho, Or.inl ⟨rfl, sml_cg (fun j hj => (hx j hj).symm) hs, sml_cg ea hs, fun j hj => (hx j hj).trans (ea j hj)⟩, rfl⟩
  · exact ⟨V, X2, h2, 0, m2, b0, d2, sBn.of ho, Or.inr ⟨rfl, fun q => hs (sml_cg (fun j hj => (ea j hj).symm) q)⟩, rfl⟩
end MP1
section MP2
variable {g h : mj_H} {n D u : Nat} {N : Nat → Int} {H : Nat → Nat → Int}
theorem pX_add (hg : g.length ≤ n) (A : AS N u H) (s : cS g n N u H h) {to : Int} (rto : -2147483648 ≤ to ∧ to ≤ 2147483647) {a : Int} (ra : -2147483648 ≤ a ∧ a ≤ 2147483647) {b : Int} (rb : -2147483648 ≤ b ∧ b ≤ 2147483647) : mj_Ok (D + 6) 102 [.ref 1, .int (jn to), .int (jn a), .int (jn b)] h (RO g n N u H ((0 ≤ to ∧ to ≤ 5) ∧ (0 ≤ a ∧ a ≤ 5) ∧ (0 ≤ b ∧ b ≤ 5)) (fun k => ¬ sml (sumN N 1 a b) ∧ k = 1) (fun w => sml (sumN N 1 a b) ∧ ∀ j, j < 13 → w j = sumN N 1 a b j) to) := by
  obtain ⟨V, X, m, b0, d, c⟩ := s
  refine mj_Ok.of (M := mj_m102) rfl rfl rfl ?_
  iterate 2 refine mj_T.pl rfl rfl rfl rfl ?_
  refine mj_T.call rfl rfl (Nat.le_of_ble_eq_true rfl) (Nat.le_of_ble_eq_true rfl) (mV_of m 19 cq_d1 (by decide) rfl (by decide) rfl _) rfl (mj_Ok.up (by omega) (mC_rowOf (D := 0) m (i := to) (by omega))) (fun v g1 hq => ?_) (fun i g1 hq => ?_)
  rotate_left
  · rcases hq with ⟨_, hq⟩ | ⟨hn, hq⟩
    · cases hq
    · cases hq
      exact Or.inl ⟨rfl, Or.inr ⟨_, _, Or.inl ⟨by omega, rfl⟩, cS.thr hg m b0 d c, rfl⟩⟩
  rcases hq with ⟨kto, hq⟩ | ⟨_, hq⟩
  rotate_left
  · cases hq
  cases hq
  refine mj_T.eq (pc2 := 5) (st2 := [.ref (4 + to.toNat)]) ?_ rfl rfl rfl rfl
  iterate 3 refine mj_T.pl rfl rfl rfl rfl ?_
  refine mj_T.call rfl rfl (Nat.le_of_ble_eq_true rfl) (Nat.le_of_ble_eq_true rfl) (mV_of m 19 cq_d1 (by decide) rfl (by decide) rfl _) rfl (mj_Ok.up (by omega) (mC_rowOf (D := 0) m (i := a) (by omega))) (fun v g2 hq => ?_) (fun i g2 hq => ?_)
  rotate_left
  · rcases hq with ⟨_, hq⟩ | ⟨hn, hq⟩
    · cases hq
    · cases hq
      exact Or.inl ⟨rfl, Or.inr ⟨_, _, Or.inl ⟨by omega, rfl⟩, cS.thr hg m b0 d c, rfl⟩⟩
  rcases hq with ⟨ka, hq⟩ | ⟨_, hq⟩
  rotate_left
  · cases hq
  cases hq
  refine mj_T.eq (pc2 := 11) (st2 := [.ref (4 + a.toNat)]) ?_ rfl rfl rfl rfl
  iterate 2 refine mj_T.pl rfl rfl rfl rfl ?_
  refine mj_T.call rfl rfl (Nat.le_of_ble_eq_true rfl) (Nat.le_of_ble_eq_true rfl) (mV_of m 19 cq_d1 (by decide) rfl (by decide) rfl _) rfl (mj_Ok.up (by omega) (mC_rowOf (D := 0) m (i := b) (by omega))) (fun v g3 hq => ?_) (fun i g3 hq => ?_)
  rotate_left
  · rcases hq with ⟨_, hq⟩ | ⟨hn, hq⟩
    · cases hq
    · cases hq
      exact Or.inl ⟨rfl, Or.inr ⟨_, _, Or.inl ⟨by omega, rfl⟩, cS.thr hg m b0 d c, rfl⟩⟩
  rcases hq with ⟨kb, hq⟩ | ⟨_, hq⟩
  rotate_left
  · cases hq
  cases hq
  refine mj_T.eq (pc2 := 16) (st2 := [.ref (4 + b.toNat), .ref (4 + a.toNat)]) ?_ rfl rfl rfl rfl
  iterate 2 refine mj_T.pl rfl rfl rfl rfl ?_
  refine mT_get m 19 cq_d1 (by decide) rfl rfl ?_
  refine mj_T.call rfl rfl (Nat.le_of_ble_eq_true rfl) (Nat.le_of_ble_eq_true rfl) rfl rfl (mj_Ok.up (by omega) (oX_sum (D := 0) A m b0 d c ka kb (f := 1) (Or.inl rfl))) (fun v g4 hq => ?_) (fun i g4 hq => ?_)
  rotate_left
  · obtain ⟨_, _, _, _, _, _, _, _, _, hq⟩ := hq; cases hq
  obtain ⟨V5, X5, _, y, m5, b5, d5, s5, hy, hq⟩ := hq
  cases hq
  have hy2 : y = 0 ∨ y = 1 := by
    rcases hy with ⟨e, _⟩ | ⟨e, _⟩
    · exact Or.inr e
    · exact Or.inl e
  refine mj_T.eq (pc2 := 24) (st2 := [.int (jn y)]) ?_ rfl rfl rfl rfl
  refine mj_T.if0 (a := y) rfl ⟨by omega, by omega⟩ (fun c5 => ?_) (fun c5 => ?_)
  · simp only [jc, Bool.not_eq_true', Bool.not_eq_false', decide_eq_true_eq, decide_eq_false_iff_not] at c5
    have hok := hy.resolve_right (fun q => absurd q.1 (by omega))
    iterate 2 refine mj_T.pl rfl rfl rfl rfl ?_
    refine mj_T.call rfl rfl (Nat.le_of_ble_eq_true rfl) (Nat.le_of_ble_eq_true rfl) (mV_of m5 19 cq_d1 (by decide) rfl (by decide) rfl _) rfl (mj_Ok.up (by omega) (mX_keep (D := 0) A m5 b5 d5 (c.sb s5) kto hok.2.1)) (fun v g6 hq => ?_) (fun i g6 hq => ?_)
    rotate_left
    · obtain ⟨_, _, hq⟩ := hq; cases hq
    obtain ⟨_, cs, hq⟩ := hq
    cases hq
    refine mj_T.eq (pc2 := 40) (st2 := [.int (jn ((fdg (X5 481) 13 : Int) - 1))]) ?_ rfl rfl rfl rfl
    exact mj_T.ret rfl rfl rfl (Or.inl ⟨⟨kto, ka, kb⟩, _, _, hok.2.1, hok.2.2, cs, rfl⟩)
  · simp only [jc, Bool.not_eq_true', Bool.not_eq_false', decide_eq_true_eq, decide_eq_false_iff_not] at c5
    have hbad := hy.resolve_left (fun q => absurd q.1 (by omega))
    exact mj_T.throws rfl rfl rfl (Nat.le_of_ble_eq_true rfl) (Or.inr ⟨_, _, Or.inr ⟨⟨kto, ka, kb⟩, ⟨hbad.2, rfl⟩⟩, cS.thr hg m5 b5 d5 (c.sb s5), rfl⟩)
theorem pX_subtract (hg : g.length ≤ n) (A : AS N u H) (s : cS g n N u H h) {to : Int} (rto : -2147483648 ≤ to ∧ to ≤ 2147483647) {a : Int} (ra : -2147483648 ≤ a ∧ a ≤ 2147483647) {b : Int} (rb : -2147483648 ≤ b ∧ b ≤ 2147483647) : mj_Ok (D + 6) 103 [.ref 1, .int (jn to), .int (jn a), .int (jn b)] h (RO g n N u H ((0 ≤ to ∧ to ≤ 5) ∧ (0 ≤ a ∧ a ≤ 5) ∧ (0 ≤ b ∧ b ≤ 5)) (fun k => ¬ sml (sumN N (-1) a b) ∧ k = 1) (fun w => sml (sumN N (-1) a b) ∧ ∀ j, j < 13 → w j = sumN N (-1) a b j) to) := by
  obtain ⟨V, X, m, b0, d, c⟩ := s
  refine mj_Ok.of (M := mj_m103) rfl rfl rfl ?_
  iterate 2 refine mj_T.pl rfl rfl rfl rfl ?_
  refine mj_T.call rfl rfl (Nat.le_of_ble_eq_true rfl) (Nat.le_of_ble_eq_true rfl) (mV_of m 19 cq_d1 (by decide) rfl (by decide) rfl _) rfl (mj_Ok.up (by omega) (mC_rowOf (D := 0) m (i := to) (by omega))) (fun v g1 hq => ?_) (fun i g1 hq => ?_)
  rotate_left
  · rcases hq with ⟨_, hq⟩ | ⟨hn, hq⟩
    · cases hq
    · cases hq
      exact Or.inl ⟨rfl, Or.inr ⟨_, _, Or.inl ⟨by omega, rfl⟩, cS.thr hg m b0 d c, rfl⟩⟩
  rcases hq with ⟨kto, hq⟩ | ⟨_, hq⟩
  rotate_left
  · cases hq
  cases hq
  refine mj_T.eq (pc2 := 5) (st2 := [.ref (4 + to.toNat)]) ?_ rfl rfl rfl rfl
  iterate 3 refine mj_T.pl rfl rfl rfl rfl ?_
  refine mj_T.call rfl rfl (Nat.le_of_ble_eq_true rfl) (Nat.le_of_ble_eq_true rfl) (mV_of m 19 cq_d1 (by decide) rfl (by decide) rfl _) rfl (mj_Ok.up (by omega) (mC_rowOf (D := 0) m (i := a) (by omega))) (fun v g2 hq => ?_) (fun i g2 hq => ?_)
  rotate_left
  · rcases hq with ⟨_, hq⟩ | ⟨hn, hq⟩
    · cases hq
    · cases hq
      exact Or.inl ⟨rfl, Or.inr ⟨_, _, Or.inl ⟨by omega, rfl⟩, cS.thr hg m b0 d c, rfl⟩⟩
  rcases hq with ⟨ka, hq⟩ | ⟨_, hq⟩
  rotate_left
  · cases hq
  cases hq
  refine mj_T.eq (pc2 := 11) (st2 := [.ref (4 + a.toNat)]) ?_ rfl rfl rfl rfl
  iterate 2 refine mj_T.pl rfl rfl rfl rfl ?_
  refine mj_T.call rfl rfl (Nat.le_of_ble_eq_true rfl) (Nat.le_of_ble_eq_true rfl) (mV_of m 19 cq_d1 (by decide) rfl (by decide) rfl _) rfl (mj_Ok.up (by omega) (mC_rowOf (D := 0) m (i := b) (by omega))) (fun v g3 hq => ?_) (fun i g3 hq => ?_)
  rotate_left
  · rcases hq with ⟨_, hq⟩ | ⟨hn, hq⟩
    · cases hq
    · cases hq
      exact Or.inl ⟨rfl, Or.inr ⟨_, _, Or.inl ⟨by omega, rfl⟩, cS.thr hg m b0 d c, rfl⟩⟩
  rcases hq with ⟨kb, hq⟩ | ⟨_, hq⟩
  rotate_left
  · cases hq
  cases hq
  refine mj_T.eq (pc2 := 16) (st2 := [.ref (4 + b.toNat), .ref (4 + a.toNat)]) ?_ rfl rfl rfl rfl
  iterate 2 refine mj_T.pl rfl rfl rfl rfl ?_
  refine mT_get m 19 cq_d1 (by decide) rfl rfl ?_
  refine mj_T.call rfl rfl (Nat.le_of_ble_eq_true rfl) (Nat.le_of_ble_eq_true rfl) rfl rfl (mj_Ok.up (by omega) (oX_sum (D := 0) A m b0 d c ka kb (f := -1) (Or.inr rfl))) (fun v g4 hq => ?_) (fun i g4 hq => ?_)
  rotate_left
  · obtain ⟨_, _, _, _, _, _, _, _, _, hq⟩ := hq; cases hq
  obtain ⟨V5, X5, _, y, m5, b5, d5, s5, hy, hq⟩ := hq
  cases hq
  have hy2 : y = 0 ∨ y = 1 := by
    rcases hy with ⟨e, _⟩ | ⟨e, _⟩
    · exact Or.inr e
    · exact Or.inl e
  refine mj_T.eq (pc2 := 24) (st2 := [.int (jn y)]) ?_ rfl rfl rfl rfl
  refine mj_T.if0 (a := y) rfl ⟨by omega, by omega⟩ (fun c5 => ?_) (fun c5 => ?_)
  · simp only [jc, Bool.not_eq_true', Bool.not_eq_false', decide_eq_true_eq, decide_eq_false_iff_not] at c5
    have hok := hy.resolve_right (fun q => absurd q.1 (by omega))
    iterate 2 refine mj_T.pl rfl rfl rfl rfl ?_
    refine mj_T.call rfl rfl (Nat.le_of_ble_eq_true rfl) (Nat.le_of_ble_eq_true rfl) (mV_of m5 19 cq_d1 (by decide) rfl (by decide) rfl _) rfl (mj_Ok.up (by omega) (mX_keep (D := 0) A m5 b5 d5 (c.sb s5) kto hok.2.1)) (fun v g6 hq => ?_) (fun i g6 hq => ?_)
    rotate_left
    · obtain ⟨_, _, hq⟩ := hq; cases hq
    obtain ⟨_, cs, hq⟩ := hq
    cases hq
    refine mj_T.eq (pc2 := 40) (st2 := [.int (jn ((fdg (X5 481) 13 : Int) - 1))]) ?_ rfl rfl rfl rfl
    exact mj_T.ret rfl rfl rfl (Or.inl ⟨⟨kto, ka, kb⟩, _, _, hok.2.1, hok.2.2, cs, rfl⟩)
  · simp only [jc, Bool.not_eq_true', Bool.not_eq_false', decide_eq_true_eq, decide_eq_false_iff_not] at c5
    have hbad := hy.resolve_left (fun q => absurd q.1 (by omega))
    exact mj_T.throws rfl rfl rfl (Nat.le_of_ble_eq_true rfl) (Or.inr ⟨_, _, Or.inr ⟨⟨kto, ka, kb⟩, ⟨hbad.2, rfl⟩⟩, cS.thr hg m5 b5 d5 (c.sb s5), rfl⟩)
theorem pX_multiply (hg : g.length ≤ n) (A : AS N u H) (s : cS g n N u H h) {to : Int} (rto : -2147483648 ≤ to ∧ to ≤ 2147483647) {a : Int} (ra : -2147483648 ≤ a ∧ a ≤ 2147483647) {b : Int} (rb : -2147483648 ≤ b ∧ b ≤ 2147483647) : mj_Ok (D + 6) 104 [.ref 1, .int (jn to), .int (jn a), .int (jn b)] h (RO g n N u H ((0 ≤ to ∧ to ≤ 5) ∧ (0 ≤ a ∧ a ≤ 5) ∧ (0 ≤ b ∧ b ≤ 5)) (fun k => ¬ fit13 (pz_mul (rwN N a) (rwN N b)) ∧ k = 1) (isP (pz_mul (rwN N a) (rwN N b))) to) := by
  obtain ⟨V, X, m, b0, d, c⟩ := s
  refine mj_Ok.of (M := mj_m104) rfl rfl rfl ?_
  iterate 2 refine mj_T.pl rfl rfl rfl rfl ?_
  refine mj_T.call rfl rfl (Nat.le_of_ble_eq_true rfl) (Nat.le_of_ble_eq_true rfl) (mV_of m 19 cq_d1 (by decide) rfl (by decide) rfl _) rfl (mj_Ok.up (by omega) (mC_rowOf (D := 0) m (i := to) (by omega))) (fun v g1 hq => ?_) (fun i g1 hq => ?_)
  rotate_left
  · rcases hq with ⟨_, hq⟩ | ⟨hn, hq⟩
    · cases hq
    · cases hq
      exact Or.inl ⟨rfl, Or.inr ⟨_, _, Or.inl ⟨by omega, rfl⟩, cS.thr hg m b0 d c, rfl⟩⟩
  rcases hq with ⟨kto, hq⟩ | ⟨_, hq⟩
  rotate_left
  · cases hq
  cases hq
  refine mj_T.eq (pc2 := 5) (st2 := [.ref (4 + to.toNat)]) ?_ rfl rfl rfl rfl
  iterate 2 refine mj_T.pl rfl rfl rfl rfl ?_
  refine mT_get m 19 cq_d1 (by decide) rfl rfl ?_
  iterate 2 refine mj_T.pl rfl rfl rfl rfl ?_
  refine mj_T.call rfl rfl (Nat.le_of_ble_eq_true rfl) (Nat.le_of_ble_eq_true rfl) (mV_of m 19 cq_d1 (by decide) rfl (by decide) rfl _) rfl (mj_Ok.up (by omega) (mC_rowOf (D := 0) m (i := a) (by omega))) (fun v g2 hq => ?_) (fun i g2 hq => ?_)
  rotate_left
  · rcases hq with ⟨_, hq⟩ | ⟨hn, hq⟩
    · cases hq
    · cases hq
      exact Or.inl ⟨rfl, Or.inr ⟨_, _, Or.inl ⟨by omega, rfl⟩, cS.thr hg m b0 d c, rfl⟩⟩
  rcases hq with ⟨ka, hq⟩ | ⟨_, hq⟩
  rotate_left
  · cases hq
  cases hq
  refine mj_T.eq (pc2 := 15) (st2 := [.ref (4 + a.toNat), .ref 19]) ?_ rfl rfl rfl rfl
  iterate 2 refine mj_T.pl rfl rfl rfl rfl ?_
  refine mj_T.call rfl rfl (Nat.le_of_ble_eq_true rfl) (Nat.le_of_ble_eq_true rfl) (mV_of m 19 cq_d1 (by decide) rfl (by decide) rfl _) rfl (mj_Ok.up (by omega) (mC_rowOf (D := 0) m (i := b) (by omega))) (fun v g3 hq => ?_) (fun i g3 hq => ?_)
  rotate_left
  · rcases hq with ⟨_, hq⟩ | ⟨hn, hq⟩
    · cases hq
    · cases hq
      exact Or.inl ⟨rfl, Or.inr ⟨_, _, Or.inl ⟨by omega, rfl⟩, cS.thr hg m b0 d c, rfl⟩⟩
  rcases hq with ⟨kb, hq⟩ | ⟨_, hq⟩
  rotate_left
  · cases hq
  cases hq
  refine mj_T.eq (pc2 := 20) (st2 := [.ref (4 + b.toNat), .ref (4 + a.toNat), .ref 19]) ?_ rfl rfl rfl rfl
  refine mj_T.pl rfl rfl rfl rfl ?_
  refine mT_get m 19 cq_d1 (by decide) rfl rfl ?_
  refine mj_T.call rfl rfl (Nat.le_of_ble_eq_true rfl) (Nat.le_of_ble_eq_true rfl) (mV_of m 11 cq_d19 (by decide) rfl (by decide) rfl _) rfl (mj_Ok.up (by omega) (oX_mul (D := 0) A m b0 d c ka kb)) (fun v g4 hq => ?_) (fun i g4 hq => ?_)
  rotate_left
  · obtain ⟨_, _, _, _, _, _, _, _, _, hq⟩ := hq; cases hq
  obtain ⟨V5, X5, _, y, m5, b5, d5, s5, hy, hq⟩ := hq
  cases hq
  have hy2 : y = 0 ∨ y = 1 := by
    rcases hy with ⟨e, _⟩ | ⟨e, _⟩
    · exact Or.inr e
    · exact Or.inl e
  refine mj_T.eq (pc2 := 27) (st2 := [.int (jn y)]) ?_ rfl rfl rfl rfl
  refine mj_T.if0 (a := y) rfl ⟨by omega, by omega⟩ (fun c5 => ?_) (fun c5 => ?_)
  · simp only [jc, Bool.not_eq_true', Bool.not_eq_false', decide_eq_true_eq, decide_eq_false_iff_not] at c5
    have hok := hy.resolve_right (fun q => absurd q.1 (by omega))
    iterate 2 refine mj_T.pl rfl rfl rfl rfl ?_
    refine mj_T.call rfl rfl (Nat.le_of_ble_eq_true rfl) (Nat.le_of_ble_eq_true rfl) (mV_of m5 19 cq_d1 (by decide) rfl (by decide) rfl _) rfl (mj_Ok.up (by omega) (mX_keep (D := 0) A m5 b5 d5 (c.sb s5) kto hok.2.1)) (fun v g6 hq => ?_) (fun i g6 hq => ?_)
    rotate_left
    · obtain ⟨_, _, hq⟩ := hq; cases hq
    obtain ⟨_, cs, hq⟩ := hq
    cases hq
    refine mj_T.eq (pc2 := 43) (st2 := [.int (jn ((fdg (X5 481) 13 : Int) - 1))]) ?_ rfl rfl rfl rfl
    exact mj_T.ret rfl rfl rfl (Or.inl ⟨⟨kto, ka, kb⟩, _, _, hok.2.1, hok.2.2, cs, rfl⟩)
  · simp only [jc, Bool.not_eq_true', Bool.not_eq_false', decide_eq_true_eq, decide_eq_false_iff_not] at c5
    have hbad := hy.resolve_left (fun q => absurd q.1 (by omega))
    exact mj_T.throws rfl rfl rfl (Nat.le_of_ble_eq_true rfl) (Or.inr ⟨_, _, Or.inr ⟨⟨kto, ka, kb⟩, ⟨hbad.2, rfl⟩⟩, cS.thr hg m5 b5 d5 (c.sb s5), rfl⟩)
theorem pX_power (hg : g.length ≤ n) (A : AS N u H) (s : cS g n N u H h) {to : Int} (rto : -2147483648 ≤ to ∧ to ≤ 2147483647) {a : Int} (ra : -2147483648 ≤ a ∧ a ≤ 2147483647) {e : Int} (re : -2147483648 ≤ e ∧ e ≤ 2147483647) : mj_Ok (D + 6) 105 [.ref 1, .int (jn to), .int (jn a), .int (jn e)] h (RO g n N u H ((0 ≤ to ∧ to ≤ 5) ∧ (0 ≤ a ∧ a ≤ 5)) (fun k => (¬ (0 ≤ e ∧ e ≤ 12) ∧ k = 2) ∨ ((0 ≤ e ∧ e ≤ 12) ∧ ¬ fit13 (pw (rwN N a) e.toNat) ∧ k = 1)) (isP (pw (rwN N a) e.toNat)) to) := by
  obtain ⟨V, X, m, b0, d, c⟩ := s
  refine mj_Ok.of (M := mj_m105) rfl rfl rfl ?_
  iterate 2 refine mj_T.pl rfl rfl rfl rfl ?_
  refine mj_T.call rfl rfl (Nat.le_of_ble_eq_true rfl) (Nat.le_of_ble_eq_true rfl) (mV_of m 19 cq_d1 (by decide) rfl (by decide) rfl _) rfl (mj_Ok.up (by omega) (mC_rowOf (D := 0) m (i := to) (by omega))) (fun v g1 hq => ?_) (fun i g1 hq => ?_)
  rotate_left
  · rcases hq with ⟨_, hq⟩ | ⟨hn, hq⟩
    · cases hq
    · cases hq
      exact Or.inl ⟨rfl, Or.inr ⟨_, _, Or.inl ⟨by omega, rfl⟩, cS.thr hg m b0 d c, rfl⟩⟩
  rcases hq with ⟨kto, hq⟩ | ⟨_, hq⟩
  rotate_left
  · cases hq
  cases hq
  refine mj_T.eq (pc2 := 5) (st2 := [.ref (4 + to.toNat)]) ?_ rfl rfl rfl rfl
  iterate 3 refine mj_T.pl rfl rfl rfl rfl ?_
  refine mj_T.call rfl rfl (Nat.le_of_ble_eq_true rfl) (Nat.le_of_ble_eq_true rfl) (mV_of m 19 cq_d1 (by decide) rfl (by decide) rfl _) rfl (mj_Ok.up (by omega) (mC_rowOf (D := 0) m (i := a) (by omega))) (fun v g2 hq => ?_) (fun i g2 hq => ?_)
  rotate_left
  · rcases hq with ⟨_, hq⟩ | ⟨hn, hq⟩
    · cases hq
    · cases hq
      exact Or.inl ⟨rfl, Or.inr ⟨_, _, Or.inl ⟨by omega, rfl⟩, cS.thr hg m b0 d c, rfl⟩⟩
  rcases hq with ⟨ka, hq⟩ | ⟨_, hq⟩
  rotate_left
  · cases hq
  cases hq
  refine mj_T.eq (pc2 := 11) (st2 := [.ref (4 + a.toNat)]) ?_ rfl rfl rfl rfl
  refine mj_T.pl (loc' := [some (.ref 1), some (.int (jn to)), some (.int (jn a)), some (.int (jn e)), some (.ref (4 + a.toNat))]) rfl rfl rfl rfl ?_
  refine mj_T.pl rfl rfl rfl rfl ?_
  refine mj_T.call rfl rfl (Nat.le_of_ble_eq_true rfl) (Nat.le_of_ble_eq_true rfl) rfl rfl (mj_Ok.up (by omega) (mC_exponent (D := 0) (i := e) (by omega))) (fun v g3 hq => ?_) (fun i g3 hq => ?_)
  rotate_left
  · rcases hq with ⟨_, hq⟩ | ⟨hn, hq⟩
    · cases hq
    · cases hq
      exact Or.inl ⟨rfl, Or.inr ⟨_, _, Or.inr ⟨⟨kto, ka⟩, Or.inl ⟨hn, rfl⟩⟩, cS.thr hg m b0 d c, rfl⟩⟩
  rcases hq with ⟨ke, hq⟩ | ⟨_, hq⟩
  rotate_left
  · cases hq
  cases hq
  refine mj_T.eq (pc2 := 17) (st2 := []) ?_ rfl rfl rfl rfl
  refine mj_T.pl rfl rfl rfl rfl ?_
  refine mT_get m 19 cq_d1 (by decide) rfl rfl ?_
  iterate 3 refine mj_T.pl rfl rfl rfl rfl ?_
  refine mT_get m 19 cq_d1 (by decide) rfl rfl ?_
  refine mj_T.call rfl rfl (Nat.le_of_ble_eq_true rfl) (Nat.le_of_ble_eq_true rfl) (mV_of m 11 cq_d19 (by decide) rfl (by decide) rfl _) rfl (mj_Ok.up (by omega) (oX_pow (D := 0) A m b0 d c ka ke)) (fun v g4 hq => ?_) (fun i g4 hq => ?_)
  rotate_left
  · obtain ⟨_, _, _, _, _, _, _, _, _, hq⟩ := hq; cases hq
  obtain ⟨V5, X5, _, y, m5, b5, d5, s5, hy, hq⟩ := hq
  cases hq
  have hy2 : y = 0 ∨ y = 1 := by
    rcases hy with ⟨e, _⟩ | ⟨e, _⟩
    · exact Or.inr e
    · exact Or.inl e
  refine mj_T.eq (pc2 := 31) (st2 := [.int (jn y)]) ?_ rfl rfl rfl rfl
  refine mj_T.if0 (a := y) rfl ⟨by omega, by omega⟩ (fun c5 => ?_) (fun c5 => ?_)
  · simp only [jc, Bool.not_eq_true', Bool.not_eq_false', decide_eq_true_eq, decide_eq_false_iff_not] at c5
    have hok := hy.resolve_right (fun q => absurd q.1 (by omega))
    iterate 2 refine mj_T.pl rfl rfl rfl rfl ?_
    refine mj_T.call rfl rfl (Nat.le_of_ble_eq_true rfl) (Nat.le_of_ble_eq_true rfl) (mV_of m5 19 cq_d1 (by decide) rfl (by decide) rfl _) rfl (mj_Ok.up (by omega) (mX_keep (D := 0) A m5 b5 d5 (c.sb s5) kto hok.2.1)) (fun v g6 hq => ?_) (fun i g6 hq => ?_)
    rotate_left
    · obtain ⟨_, _, hq⟩ := hq; cases hq
    obtain ⟨_, cs, hq⟩ := hq
    cases hq
    refine mj_T.eq (pc2 := 47) (st2 := [.int (jn ((fdg (X5 481) 13 : Int) - 1))]) ?_ rfl rfl rfl rfl
    exact mj_T.ret rfl rfl rfl (Or.inl ⟨⟨kto, ka⟩, _, _, hok.2.1, hok.2.2, cs, rfl⟩)
  · simp only [jc, Bool.not_eq_true', Bool.not_eq_false', decide_eq_true_eq, decide_eq_false_iff_not] at c5
    have hbad := hy.resolve_left (fun q => absurd q.1 (by omega))
    exact mj_T.throws rfl rfl rfl (Nat.le_of_ble_eq_true rfl) (Or.inr ⟨_, _, Or.inr ⟨⟨kto, ka⟩, Or.inr ⟨ke, hbad.2, rfl⟩⟩, cS.thr hg m5 b5 d5 (c.sb s5), rfl⟩)
theorem pX_derive (hg : g.length ≤ n) (A : AS N u H) (s : cS g n N u H h) {to : Int} (rto : -2147483648 ≤ to ∧ to ≤ 2147483647) {a : Int} (ra : -2147483648 ≤ a ∧ a ≤ 2147483647) : mj_Ok (D + 6) 106 [.ref 1, .int (jn to), .int (jn a)] h (RO g n N u H ((0 ≤ to ∧ to ≤ 5) ∧ (0 ≤ a ∧ a ≤ 5)) (fun k => ¬ sml (drN N a) ∧ k = 1) (fun w => sml (drN N a) ∧ ∀ j, j < 13 → w j = drN N a j) to) := by
  obtain ⟨V, X, m, b0, d, c⟩ := s
  refine mj_Ok.of (M := mj_m106) rfl rfl rfl ?_
  iterate 2 refine mj_T.pl rfl rfl rfl rfl ?_
  refine mj_T.call rfl rfl (Nat.le_of_ble_eq_true rfl) (Nat.le_of_ble_eq_true rfl) (mV_of m 19 cq_d1 (by decide) rfl (by decide) rfl _) rfl (mj_Ok.up (by omega) (mC_rowOf (D := 0) m (i := to) (by omega))) (fun v g1 hq => ?_) (fun i g1 hq => ?_)
  rotate_left
  · rcases hq with ⟨_, hq⟩ | ⟨hn, hq⟩
    · cases hq
    · cases hq
      exact Or.inl ⟨rfl, Or.inr ⟨_, _, Or.inl ⟨by omega, rfl⟩, cS.thr hg m b0 d c, rfl⟩⟩
  rcases hq with ⟨kto, hq⟩ | ⟨_, hq⟩
  rotate_left
  · cases hq
  cases hq
  refine mj_T.eq (pc2 := 5) (st2 := [.ref (4 + to.toNat)]) ?_ rfl rfl rfl rfl
  iterate 3 refine mj_T.pl rfl rfl rfl rfl ?_
  refine mj_T.call rfl rfl (Nat.le_of_ble_eq_true rfl) (Nat.le_of_ble_eq_true rfl) (mV_of m 19 cq_d1 (by decide) rfl (by decide) rfl _) rfl (mj_Ok.up (by omega) (mC_rowOf (D := 0) m (i := a) (by omega))) (fun v g2 hq => ?_) (fun i g2 hq => ?_)
  rotate_left
  · rcases hq with ⟨_, hq⟩ | ⟨hn, hq⟩
    · cases hq
    · cases hq
      exact Or.inl ⟨rfl, Or.inr ⟨_, _, Or.inl ⟨by omega, rfl⟩, cS.thr hg m b0 d c, rfl⟩⟩
  rcases hq with ⟨ka, hq⟩ | ⟨_, hq⟩
  rotate_left
  · cases hq
  cases hq
  refine mj_T.eq (pc2 := 11) (st2 := [.ref (4 + a.toNat)]) ?_ rfl rfl rfl rfl
  refine mj_T.pl rfl rfl rfl rfl ?_
  refine mT_get m 19 cq_d1 (by decide) rfl rfl ?_
  refine mj_T.call rfl rfl (Nat.le_of_ble_eq_true rfl) (Nat.le_of_ble_eq_true rfl) rfl rfl (mj_Ok.up (by omega) (oX_der (D := 0) A m b0 d c ka)) (fun v g3 hq => ?_) (fun i g3 hq => ?_)
  rotate_left
  · obtain ⟨_, _, _, _, _, _, _, _, _, hq⟩ := hq; cases hq
  obtain ⟨V5, X5, _, y, m5, b5, d5, s5, hy, hq⟩ := hq
  cases hq
  have hy2 : y = 0 ∨ y = 1 := by
    rcases hy with ⟨e, _⟩ | ⟨e, _⟩
    · exact Or.inr e
    · exact Or.inl e
  refine mj_T.eq (pc2 := 18) (st2 := [.int (jn y)]) ?_ rfl rfl rfl rfl
  refine mj_T.if0 (a := y) rfl ⟨by omega, by omega⟩ (fun c4 => ?_) (fun c4 => ?_)
  · simp only [jc, Bool.not_eq_true', Bool.not_eq_false', decide_eq_true_eq, decide_eq_false_iff_not] at c4
    have hok := hy.resolve_right (fun q => absurd q.1 (by omega))
    iterate 2 refine mj_T.pl rfl rfl rfl rfl ?_
    refine mj_T.call rfl rfl (Nat.le_of_ble_eq_true rfl) (Nat.le_of_ble_eq_true rfl) (mV_of m5 19 cq_d1 (by decide) rfl (by decide) rfl _) rfl (mj_Ok.up (by omega) (mX_keep (D := 0) A m5 b5 d5 (c.sb s5) kto hok.2.1)) (fun v g5 hq => ?_) (fun i g5 hq => ?_)
    rotate_left
    · obtain ⟨_, _, hq⟩ := hq; cases hq
    obtain ⟨_, cs, hq⟩ := hq
    cases hq
    refine mj_T.eq (pc2 := 34) (st2 := [.int (jn ((fdg (X5 481) 13 : Int) - 1))]) ?_ rfl rfl rfl rfl
    exact mj_T.ret rfl rfl rfl (Or.inl ⟨⟨kto, ka⟩, _, _, hok.2.1, hok.2.2, cs, rfl⟩)
  · simp only [jc, Bool.not_eq_true', Bool.not_eq_false', decide_eq_true_eq, decide_eq_false_iff_not] at c4
    have hbad := hy.resolve_left (fun q => absurd q.1 (by omega))
    exact mj_T.throws rfl rfl rfl (Nat.le_of_ble_eq_true rfl) (Or.inr ⟨_, _, Or.inr ⟨⟨kto, ka⟩, ⟨hbad.2, rfl⟩⟩, cS.thr hg m5 b5 d5 (c.sb s5), rfl⟩)
theorem pX_substitute (hg : g.length ≤ n) (A : AS N u H) (s : cS g n N u H h) {to : Int} (rto : -2147483648 ≤ to ∧ to ≤ 2147483647) {a : Int} (ra : -2147483648 ≤ a ∧ a ≤ 2147483647) {b : Int} (rb : -2147483648 ≤ b ∧ b ≤ 2147483647) : mj_Ok (D + 6) 107 [.ref 1, .int (jn to), .int (jn a), .int (jn b)] h (RO g n N u H ((0 ≤ to ∧ to ≤ 5) ∧ (0 ≤ a ∧ a ≤ 5) ∧ (0 ≤ b ∧ b ≤ 5)) (fun k => ¬ fit13 (hw (rwN N a) (rwN N b) 13) ∧ k = 1) (isP (hw (rwN N a) (rwN N b) 13)) to) := by
  obtain ⟨V, X, m, b0, d, c⟩ := s
  refine mj_Ok.of (M := mj_m107) rfl rfl rfl ?_
  iterate 2 refine mj_T.pl rfl rfl rfl rfl ?_
  refine mj_T.call rfl rfl (Nat.le_of_ble_eq_true rfl) (Nat.le_of_ble_eq_true rfl) (mV_of m 19 cq_d1 (by decide) rfl (by decide) rfl _) rfl (mj_Ok.up (by omega) (mC_rowOf (D := 0) m (i := to) (by omega))) (fun v g1 hq => ?_) (fun i g1 hq => ?_)
  rotate_left
  · rcases hq with ⟨_, hq⟩ | ⟨hn, hq⟩
    · cases hq
    · cases hq
      exact Or.inl ⟨rfl, Or.inr ⟨_, _, Or.inl ⟨by omega, rfl⟩, cS.thr hg m b0 d c, rfl⟩⟩
  rcases hq with ⟨kto, hq⟩ | ⟨_, hq⟩
  rotate_left
  · cases hq
  cases hq
  refine mj_T.eq (pc2 := 5) (st2 := [.ref (4 + to.toNat)]) ?_ rfl rfl rfl rfl
  iterate 2 refine mj_T.pl rfl rfl rfl rfl ?_
  refine mT_get m 19 cq_d1 (by decide) rfl rfl ?_
  iterate 2 refine mj_T.pl rfl rfl rfl rfl ?_
  refine mj_T.call rfl rfl (Nat.le_of_ble_eq_true rfl) (Nat.le_of_ble_eq_true rfl) (mV_of m 19 cq_d1 (by decide) rfl (by decide) rfl _) rfl (mj_Ok.up (by omega) (mC_rowOf (D := 0) m (i := a) (by omega))) (fun v g2 hq => ?_) (fun i g2 hq => ?_)
  rotate_left
  · rcases hq with ⟨_, hq⟩ | ⟨hn, hq⟩
    · cases hq
    · cases hq
      exact Or.inl ⟨rfl, Or.inr ⟨_, _, Or.inl ⟨by omega, rfl⟩, cS.thr hg m b0 d c, rfl⟩⟩
  rcases hq with ⟨ka, hq⟩ | ⟨_, hq⟩
  rotate_left
  · cases hq
  cases hq
  refine mj_T.eq (pc2 := 15) (st2 := [.ref (4 + a.toNat), .ref 19]) ?_ rfl rfl rfl rfl
  iterate 2 refine mj_T.pl rfl rfl rfl rfl ?_
  refine mj_T.call rfl rfl (Nat.le_of_ble_eq_true rfl) (Nat.le_of_ble_eq_true rfl) (mV_of m 19 cq_d1 (by decide) rfl (by decide) rfl _) rfl (mj_Ok.up (by omega) (mC_rowOf (D := 0) m (i := b) (by omega))) (fun v g3 hq => ?_) (fun i g3 hq => ?_)
  rotate_left
  · rcases hq with ⟨_, hq⟩ | ⟨hn, hq⟩
    · cases hq
    · cases hq
      exact Or.inl ⟨rfl, Or.inr ⟨_, _, Or.inl ⟨by omega, rfl⟩, cS.thr hg m b0 d c, rfl⟩⟩
  rcases hq with ⟨kb, hq⟩ | ⟨_, hq⟩
  rotate_left
  · cases hq
  cases hq
  refine mj_T.eq (pc2 := 20) (st2 := [.ref (4 + b.toNat), .ref (4 + a.toNat), .ref 19]) ?_ rfl rfl rfl rfl
  refine mj_T.pl rfl rfl rfl rfl ?_
  refine mT_get m 19 cq_d1 (by decide) rfl rfl ?_
  refine mj_T.call rfl rfl (Nat.le_of_ble_eq_true rfl) (Nat.le_of_ble_eq_true rfl) (mV_of m 11 cq_d19 (by decide) rfl (by decide) rfl _) rfl (mj_Ok.up (by omega) (oX_put (D := 0) A m b0 d c ka kb)) (fun v g4 hq => ?_) (fun i g4 hq => ?_)
  rotate_left
  · obtain ⟨_, _, _, _, _, _, _, _, _, hq⟩ := hq; cases hq
  obtain ⟨V5, X5, _, y, m5, b5, d5, s5, hy, hq⟩ := hq
  cases hq
  have hy2 : y = 0 ∨ y = 1 := by
    rcases hy with ⟨e, _⟩ | ⟨e, _⟩
    · exact Or.inr e
    · exact Or.inl e
  refine mj_T.eq (pc2 := 27) (st2 := [.int (jn y)]) ?_ rfl rfl rfl rfl
  refine mj_T.if0 (a := y) rfl ⟨by omega, by omega⟩ (fun c5 => ?_) (fun c5 => ?_)
  · simp only [jc, Bool.not_eq_true', Bool.not_eq_false', decide_eq_true_eq, decide_eq_false_iff_not] at c5
    have hok := hy.resolve_right (fun q => absurd q.1 (by omega))
    iterate 2 refine mj_T.pl rfl rfl rfl rfl ?_
    refine mj_T.call rfl rfl (Nat.le_of_ble_eq_true rfl) (Nat.le_of_ble_eq_true rfl) (mV_of m5 19 cq_d1 (by decide) rfl (by decide) rfl _) rfl (mj_Ok.up (by omega) (mX_keep (D := 0) A m5 b5 d5 (c.sb s5) kto hok.2.1)) (fun v g6 hq => ?_) (fun i g6 hq => ?_)
    rotate_left
    · obtain ⟨_, _, hq⟩ := hq; cases hq
    obtain ⟨_, cs, hq⟩ := hq
    cases hq
    refine mj_T.eq (pc2 := 43) (st2 := [.int (jn ((fdg (X5 481) 13 : Int) - 1))]) ?_ rfl rfl rfl rfl
    exact mj_T.ret rfl rfl rfl (Or.inl ⟨⟨kto, ka, kb⟩, _, _, hok.2.1, hok.2.2, cs, rfl⟩)
  · simp only [jc, Bool.not_eq_true', Bool.not_eq_false', decide_eq_true_eq, decide_eq_false_iff_not] at c5
    have hbad := hy.resolve_left (fun q => absurd q.1 (by omega))
    exact mj_T.throws rfl rfl rfl (Nat.le_of_ble_eq_true rfl) (Or.inr ⟨_, _, Or.inr ⟨⟨kto, ka, kb⟩, ⟨hbad.2, rfl⟩⟩, cS.thr hg m5 b5 d5 (c.sb s5), rfl⟩)
end MP2
