/-! The class's calls that change what is kept, in one form. -/
/-- a row that is one of those that fit the words -/
def exQ (reg : Prop) (U F : (Nat → Int) → Prop) (to : Nat) (N : Nat → Int) (u : Nat) (H : Nat → Nat → Int) : SP := fun N' u' H' => ∃ R : Nat → Int, (reg → U R) ∧ clQ (reg ∧ F R) R to N u H N' u' H'
theorem exQ.ag {reg : Prop} {U F : (Nat → Int) → Prop} {to : Nat} {N : Nat → Int} {u : Nat} {H : Nat → Nat → Int} (ht : reg → to ≤ 5) (hU : ∀ R1 R2, U R1 → U R2 → (∀ j, j < 13 → R1 j = R2 j) ∧ (F R1 ↔ F R2)) : AgP (exQ reg U F to N u H) (exQ reg U F to N u H) := fun N1 u1 H1 N2 u2 H2 a b => by
  obtain ⟨R1, a1, a2⟩ := a
  obtain ⟨R2, b1, b2⟩ := b
  rcases a2 with ⟨⟨c1, c2⟩, w1, a2, rfl, rfl, rfl⟩ | ⟨c1, rfl, rfl, rfl⟩
  · obtain ⟨q1, q2⟩ := hU R1 R2 (a1 c1) (b1 c1)
    rcases b2 with ⟨_, w2, b2, rfl, rfl, rfl⟩ | ⟨d1, _, _, _⟩
    · exact ⟨eqB.row (ht c1) (fun j hj => (a2 j hj).trans ((q1 j hj).trans (b2 j hj).symm)), rfl, fun k _ => eqB.rf _⟩
    · exact absurd ⟨c1, q2.mp c2⟩ d1
  · rcases b2 with ⟨⟨d1, d2⟩, _⟩ | ⟨_, rfl, rfl, rfl⟩
    · obtain ⟨q1, q2⟩ := hU R1 R2 (a1 d1) (b1 d1)
      exact absurd ⟨d1, q2.mpr d2⟩ c1
    · exact eqS.rf _ _ _
theorem eqB.tr {N N' N'' : Nat → Int} (h : eqB N N') (k : eqB N' N'') : eqB N N'' := ⟨fun j hj => (h.1 j hj).trans (k.1 j hj), h.2.1.trans k.2.1, fun i hi => ⟨(h.2.2 i hi).1.trans (k.2.2 i (by rw [← h.2.1]; exact hi)).1, (h.2.2 i hi).2.trans (k.2.2 i (by rw [← h.2.1]; exact hi)).2⟩⟩
/-- what is kept becomes that, or nothing changes -/
def eqQ (C : Prop) (M : Nat → Int) (N : Nat → Int) (u : Nat) (H : Nat → Nat → Int) : SP := fun N' u' H' => (C ∧ eqB N' M ∧ u' = upu u ∧ H' = pushH N H) ∨ (¬ C ∧ N' = N ∧ u' = u ∧ H' = H)
theorem eqQ.ag (C : Prop) (M N : Nat → Int) (u : Nat) (H : Nat → Nat → Int) : AgP (eqQ C M N u H) (eqQ C M N u H) := fun N1 u1 H1 N2 u2 H2 a b => by
  rcases a with ⟨c1, a1, rfl, rfl⟩ | ⟨c1, rfl, rfl, rfl⟩
  · rcases b with ⟨c2, b1, rfl, rfl⟩ | ⟨c2, _, _, _⟩
    · exact ⟨a1.tr b1.sy, rfl, fun k _ => eqB.rf _⟩
    · exact absurd c1 c2
  · rcases b with ⟨c2, _⟩ | ⟨c2, rfl, rfl, rfl⟩
    · exact absurd c2 c1
    · exact eqS.rf _ _ _
/-- two rows -/
def dvP (C : Prop) (R S : Nat → Int) (to tr : Nat) (N : Nat → Int) (u : Nat) (H : Nat → Nat → Int) : SP := fun N' u' H' => (C ∧ ∃ w v : Nat → Int, (∀ j, j < 13 → w j = R j) ∧ (∀ j, j < 13 → v j = S j) ∧ N' = jfl (jfl N to w 13) tr v 13 ∧ u' = upu u ∧ H' = pushH N H) ∨ (¬ C ∧ N' = N ∧ u' = u ∧ H' = H)
theorem eqB.row2 {N N' : Nat → Int} {r : Nat} (hr : r ≤ 5) {w w' : Nat → Int} (e : eqB N N') (h : ∀ j, j < 13 → w j = w' j) : eqB (jfl N r w 13) (jfl N' r w' 13) := by
  refine eqB.tr (eqB.row hr h) ⟨fun j hj => ?_, ?_, fun k hk => ?_⟩
  · unfold jfl
    split
    · rfl
    · exact e.1 j hj
  · rw [jfl_off _ _ _ (by omega), jfl_off _ _ _ (by omega)]
    exact e.2.1
  · rw [jfl_off _ _ _ (by omega)] at hk
    rw [jfl_off _ _ _ (by omega), jfl_off _ _ _ (by omega), jfl_off _ _ _ (by omega), jfl_off _ _ _ (by omega)]
    exact e.2.2 k hk
theorem dvP.ag {C : Prop} {R S : Nat → Int} {to tr : Nat} {N : Nat → Int} {u : Nat} {H : Nat → Nat → Int} (ht : C → to ≤ 5 ∧ tr ≤ 5) : AgP (dvP C R S to tr N u H) (dvP C R S to tr N u H) := fun N1 u1 H1 N2 u2 H2 a b => by
  rcases a with ⟨c1, w1, v1, a1, a2, rfl, rfl, rfl⟩ | ⟨c1, rfl, rfl, rfl⟩
  · rcases b with ⟨c2, w2, v2, b1, b2, rfl, rfl, rfl⟩ | ⟨c2, _, _, _⟩
    · exact ⟨eqB.row2 (ht c1).2 (eqB.row (ht c1).1 (fun j hj => (a1 j hj).trans (b1 j hj).symm)) (fun j hj => (a2 j hj).trans (b2 j hj).symm), rfl, fun k _ => eqB.rf _⟩
    · exact absurd c1 c2
  · rcases b with ⟨c2, _⟩ | ⟨c2, rfl, rfl, rfl⟩
    · exact absurd c2 c1
    · exact eqS.rf _ _ _
def undQ (N : Nat → Int) (u : Nat) (H : Nat → Nat → Int) : SP := fun N' u' H' => (u = 0 ∧ N' = N ∧ u' = u ∧ H' = H) ∨ ∃ v, u = v + 1 ∧ N' = H 0 ∧ u' = v ∧ H' = fun k => H (k + 1)
theorem undQ.ag (N : Nat → Int) (u : Nat) (H : Nat → Nat → Int) : AgP (undQ N u H) (undQ N u H) := fun N1 u1 H1 N2 u2 H2 a b => by
  rcases a with ⟨c1, a1, a2, a3⟩ | ⟨v, c1, a1, a2, a3⟩
  · rcases b with ⟨_, b1, b2, b3⟩ | ⟨v2, c2, _⟩
    · rw [a1, a2, a3, b1, b2, b3]
      exact eqS.rf _ _ _
    · omega
  · rcases b with ⟨c2, _⟩ | ⟨v2, c2, b1, b2, b3⟩
    · omega
    · rw [a1, a2, a3, b1, b2, b3, show v = v2 by omega]
      exact eqS.rf _ _ _
/-- what each call does -/
def rg1 (a : Int) : Prop := 0 ≤ a ∧ a ≤ 5
def Q_sum (N : Nat → Int) (u : Nat) (H : Nat → Nat → Int) (f to a b : Int) : SP := clQ (((0 ≤ to ∧ to ≤ 5) ∧ (0 ≤ a ∧ a ≤ 5) ∧ (0 ≤ b ∧ b ≤ 5)) ∧ sml (sumN N f a b)) (sumN N f a b) to.toNat N u H
def Q_multiply (N : Nat → Int) (u : Nat) (H : Nat → Nat → Int) (to a b : Int) : SP := clQ (((0 ≤ to ∧ to ≤ 5) ∧ (0 ≤ a ∧ a ≤ 5) ∧ (0 ≤ b ∧ b ≤ 5)) ∧ fit13 (pz_mul (rwN N a) (rwN N b))) (pz_mul (rwN N a) (rwN N b)) to.toNat N u H
def Q_power (N : Nat → Int) (u : Nat) (H : Nat → Nat → Int) (to a e : Int) : SP := clQ ((((0 ≤ to ∧ to ≤ 5) ∧ (0 ≤ a ∧ a ≤ 5)) ∧ (0 ≤ e ∧ e ≤ 12)) ∧ fit13 (pw (rwN N a) e.toNat)) (pw (rwN N a) e.toNat) to.toNat N u H
def Q_derive (N : Nat → Int) (u : Nat) (H : Nat → Nat → Int) (to a : Int) : SP := clQ (((0 ≤ to ∧ to ≤ 5) ∧ (0 ≤ a ∧ a ≤ 5)) ∧ sml (drN N a)) (drN N a) to.toNat N u H
def Q_substitute (N : Nat → Int) (u : Nat) (H : Nat → Nat → Int) (to a b : Int) : SP := clQ (((0 ≤ to ∧ to ≤ 5) ∧ (0 ≤ a ∧ a ≤ 5) ∧ (0 ≤ b ∧ b ≤ 5)) ∧ fit13 (hw (rwN N a) (rwN N b) 13)) (hw (rwN N a) (rwN N b) 13) to.toNat N u H
def Q_divide (N : Nat → Int) (u : Nat) (H : Nat → Nat → Int) (to tr a b : Int) : SP := dvP (okDv N to tr a b) (dvQ (rwN N a) (rwN N b)) (dvT (rwN N a) (rwN N b)) to.toNat tr.toNat N u H
def Q_gcd (N : Nat → Int) (u : Nat) (H : Nat → Nat → Int) (to a b : Int) : SP := exQ ((0 ≤ to ∧ to ≤ 5) ∧ (0 ≤ a ∧ a ≤ 5) ∧ (0 ≤ b ∧ b ≤ 5)) (gcR (rwN N a) (rwN N b)) fit13 to.toNat N u H
def Q_primitive (N : Nat → Int) (u : Nat) (H : Nat → Nat → Int) (to a : Int) : SP := clQ (((0 ≤ to ∧ to ≤ 5) ∧ (0 ≤ a ∧ a ≤ 5)) ∧ fit13 (ppr (rwN N a))) (ppr (rwN N a)) to.toNat N u H
def Q_simple (N : Nat → Int) (u : Nat) (H : Nat → Nat → Int) (to a : Int) : SP := exQ (((0 ≤ to ∧ to ≤ 5) ∧ (0 ≤ a ∧ a ≤ 5)) ∧ 0 < fdg (rwN N a) 13) (smR (rwN N a)) fit13 to.toNat N u H
def Q_residue (N : Nat → Int) (u : Nat) (H : Nat → Nat → Int) (to a p : Int) : SP := clQ (((0 ≤ to ∧ to ≤ 5) ∧ (0 ≤ a ∧ a ≤ 5)) ∧ prm p) (fun j => rwN N a j % p) to.toNat N u H
def Q_setTerm (N : Nat → Int) (u : Nat) (H : Nat → Nat → Int) (to e x : Int) : SP := eqQ ((0 ≤ to ∧ to ≤ 5) ∧ (0 ≤ e ∧ e ≤ 12) ∧ (-999999999999999999 ≤ x ∧ x ≤ 999999999999999999)) (jvu N (to.toNat * 13 + e.toNat) x) N u H
def Q_addPoint (N : Nat → Int) (u : Nat) (H : Nat → Nat → Int) (x y : Int) : SP := eqQ (okPt N x y) (adN N x y) N u H
def Q_clearPoints (N : Nat → Int) (u : Nat) (H : Nat → Nat → Int) : SP := eqQ True (jvu N 78 0) N u H
def Q_interpolate (N : Nat → Int) (u : Nat) (H : Nat → Nat → Int) (to : Int) : SP := exQ (0 ≤ to ∧ to ≤ 5) (fun w => ∃ D, itR N w D) sml to.toNat N u H
def Q_read (N : Nat → Int) (u : Nat) (H : Nat → Nat → Int) (T : Nat → Int) (tm : Nat) (to : Int) : SP := clQ ((0 ≤ to ∧ to ≤ 5) ∧ rdErr T tm = -1 ∧ ∃ P, rdV T tm = some P ∧ fit13 P) ((rdV T tm).getD pz_0) to.toNat N u H
section CZP
variable {g h : mj_H} {n D u : Nat} {N : Nat → Int} {H : Nat → Nat → Int}
theorem pY_power (hg : g.length ≤ n) (A : AS N u H) (s : cS g n N u H h) {to : Int} (rto : -2147483648 ≤ to ∧ to ≤ 2147483647) {a : Int} (ra : -2147483648 ≤ a ∧ a ≤ 2147483647) {e : Int} (re : -2147483648 ≤ e ∧ e ≤ 2147483647) : mj_Ok (D + 6) 105 [.ref 1, .int (jn to), .int (jn a), .int (jn e)] h (RO g n N u H ((0 ≤ to ∧ to ≤ 5) ∧ (0 ≤ a ∧ a ≤ 5)) (fun k => (¬ (0 ≤ e ∧ e ≤ 12) ∧ k = 2) ∨ ((0 ≤ e ∧ e ≤ 12) ∧ ¬ fit13 (pw (rwN N a) e.toNat) ∧ k = 1)) (fun w => (0 ≤ e ∧ e ≤ 12) ∧ isP (pw (rwN N a) e.toNat) w) to) := by
  obtain ⟨V, X, m, b0, d, c⟩ := s
  refine mj_Ok.of (M := mj_m105) rfl rfl rfl ?_
  iterate 2 refine mj_T.pl rfl rfl rfl rfl ?_
  refine mj_T.call rfl rfl (Nat.le_of_ble_eq_true rfl) (Nat.le_of_ble_eq_true rfl) (mV_of m 19 cq_d1 (by decide) rfl (by decide) rfl _) rfl (mj_Ok.up (by omega) (mC_rowOf (D := 0) m (i := to) (by omega))) (fun v g1 hq => ?_) (fun i g1 hq => ?_)
  rotate_left
  · rcases hq with ⟨_, hq⟩ | ⟨hn, hq⟩
    · cases hq
    · cases hq
      exact Or.inl ⟨rfl, Or.inr ⟨_, _, Or.inl ⟨by omega, rfl⟩, cS.thr hg m b0 d c, rfl⟩⟩
  rcases hq with ⟨kto, hq⟩ | ⟨_, hq⟩
  rotate_left
  · cases hq
  cases hq
  refine mj_T.eq (pc2 := 5) (st2 := [.ref (4 + to.toNat)]) ?_ rfl rfl rfl rfl
  iterate 3 refine mj_T.pl rfl rfl rfl rfl ?_
  refine mj_T.call rfl rfl (Nat.le_of_ble_eq_true rfl) (Nat.le_of_ble_eq_true rfl) (mV_of m 19 cq_d1 (by decide) rfl (by decide) rfl _) rfl (mj_Ok.up (by omega) (mC_rowOf (D := 0) m (i := a) (by omega))) (fun v g2 hq => ?_) (fun i g2 hq => ?_)
  rotate_left
  · rcases hq with ⟨_, hq⟩ | ⟨hn, hq⟩
    · cases hq
    · cases hq
      exact Or.inl ⟨rfl, Or.inr ⟨_, _, Or.inl ⟨by omega, rfl⟩, cS.thr hg m b0 d c, rfl⟩⟩
  rcases hq with ⟨ka, hq⟩ | ⟨_, hq⟩
  rotate_left
  · cases hq
  cases hq
  refine mj_T.eq (pc2 := 11) (st2 := [.ref (4 + a.toNat)]) ?_ rfl rfl rfl rfl
  refine mj_T.pl (loc' := [some (.ref 1), some (.int (jn to)), some (.int (jn a)), some (.int (jn e)), some (.ref (4 + a.toNat))]) rfl rfl rfl rfl ?_
  refine mj_T.pl rfl rfl rfl rfl ?_
  refine mj_T.call rfl rfl (Nat.le_of_ble_eq_true rfl) (Nat.le_of_ble_eq_true rfl) rfl rfl (mj_Ok.up (by omega) (mC_exponent (D := 0) (i := e) (by omega))) (fun v g3 hq => ?_) (fun i g3 hq => ?_)
  rotate_left
  · rcases hq with ⟨_, hq⟩ | ⟨hn, hq⟩
    · cases hq
    · cases hq
      exact Or.inl ⟨rfl, Or.inr ⟨_, _, Or.inr ⟨⟨kto, ka⟩, Or.inl ⟨hn, rfl⟩⟩, cS.thr hg m b0 d c, rfl⟩⟩
  rcases hq with ⟨ke, hq⟩ | ⟨_, hq⟩
  rotate_left
  · cases hq
  cases hq
  refine mj_T.eq (pc2 := 17) (st2 := []) ?_ rfl rfl rfl rfl
  refine mj_T.pl rfl rfl rfl rfl ?_
  refine mT_get m 19 cq_d1 (by decide) rfl rfl ?_
  iterate 3 refine mj_T.pl rfl rfl rfl rfl ?_
  refine mT_get m 19 cq_d1 (by decide) rfl rfl ?_
  refine mj_T.call rfl rfl (Nat.le_of_ble_eq_true rfl) (Nat.le_of_ble_eq_true rfl) (mV_of m 11 cq_d19 (by decide) rfl (by decide) rfl _) rfl (mj_Ok.up (by omega) (oX_pow (D := 0) A m b0 d c ka ke)) (fun v g4 hq => ?_) (fun i g4 hq => ?_)
  rotate_left
  · obtain ⟨_, _, _, _, _, _, _, _, _, hq⟩ := hq; cases hq
  obtain ⟨V5, X5, _, y, m5, b5, d5, s5, hy, hq⟩ := hq
  cases hq
  have hy2 : y = 0 ∨ y = 1 := by
    rcases hy with ⟨e, _⟩ | ⟨e, _⟩
    · exact Or.inr e
    · exact Or.inl e
  refine mj_T.eq (pc2 := 31) (st2 := [.int (jn y)]) ?_ rfl rfl rfl rfl
  refine mj_T.if0 (a := y) rfl ⟨by omega, by omega⟩ (fun c5 => ?_) (fun c5 => ?_)
  · simp only [jc, Bool.not_eq_true', Bool.not_eq_false', decide_eq_true_eq, decide_eq_false_iff_not] at c5
    have hok := hy.resolve_right (fun q => absurd q.1 (by omega))
    iterate 2 refine mj_T.pl rfl rfl rfl rfl ?_
    refine mj_T.call rfl rfl (Nat.le_of_ble_eq_true rfl) (Nat.le_of_ble_eq_true rfl) (mV_of m5 19 cq_d1 (by decide) rfl (by decide) rfl _) rfl (mj_Ok.up (by omega) (mX_keep (D := 0) A m5 b5 d5 (c.sb s5) kto hok.2.1)) (fun v g6 hq => ?_) (fun i g6 hq => ?_)
    rotate_left
    · obtain ⟨_, _, hq⟩ := hq; cases hq
    obtain ⟨_, cs, hq⟩ := hq
    cases hq
    refine mj_T.eq (pc2 := 47) (st2 := [.int (jn ((fdg (X5 481) 13 : Int) - 1))]) ?_ rfl rfl rfl rfl
    exact mj_T.ret rfl rfl rfl (Or.inl ⟨⟨kto, ka⟩, _, _, hok.2.1, ⟨ke, hok.2.2⟩, cs, rfl⟩)
  · simp only [jc, Bool.not_eq_true', Bool.not_eq_false', decide_eq_true_eq, decide_eq_false_iff_not] at c5
    have hbad := hy.resolve_left (fun q => absurd q.1 (by omega))
    exact mj_T.throws rfl rfl rfl (Nat.le_of_ble_eq_true rfl) (Or.inr ⟨_, _, Or.inr ⟨⟨kto, ka⟩, Or.inr ⟨ke, hbad.2, rfl⟩⟩, cS.thr hg m5 b5 d5 (c.sb s5), rfl⟩)
end CZP
section CZC
variable {n u : Nat} {h : mj_H} {N : Nat → Int} {H : Nat → Nat → Int}
theorem rdL.cz {g : mj_H} {z : mj_R} (r : rdL g n N u H z) : cZ g (sameQ N u H) z := by
  rcases r with ⟨v, h2, s, rfl⟩ | ⟨k, h2, s, rfl⟩
  · exact ⟨_, _, _, _, ⟨rfl, rfl, rfl⟩, s⟩
  · exact ⟨_, _, _, _, ⟨rfl, rfl, rfl⟩, s⟩
theorem cz_102 (A : AS N u H) (s : cC N u H h) {to a b : Int} (r1 : -2147483648 ≤ to ∧ to ≤ 2147483647) (r2 : -2147483648 ≤ a ∧ a ≤ 2147483647) (r3 : -2147483648 ≤ b ∧ b ≤ 2147483647) : mj_Ok 59 102 [.ref 1, .int (jn to), .int (jn a), .int (jn b)] h (cZ h (Q_sum N u H 1 to a b)) := (mj_Ok.up (by decide) (pX_add (D := 0) (Nat.le_refl _) A s r1 r2 r3)).to (fun z hz => RO.cz hz _ _ (fun q => q.1) (fun k hk q => hk.1 q.2) (fun w r hw _ => ⟨⟨r, hw.1⟩, hw.2⟩))
theorem cz_103 (A : AS N u H) (s : cC N u H h) {to a b : Int} (r1 : -2147483648 ≤ to ∧ to ≤ 2147483647) (r2 : -2147483648 ≤ a ∧ a ≤ 2147483647) (r3 : -2147483648 ≤ b ∧ b ≤ 2147483647) : mj_Ok 59 103 [.ref 1, .int (jn to), .int (jn a), .int (jn b)] h (cZ h (Q_sum N u H (-1) to a b)) := (mj_Ok.up (by decide) (pX_subtract (D := 0) (Nat.le_refl _) A s r1 r2 r3)).to (fun z hz => RO.cz hz _ _ (fun q => q.1) (fun k hk q => hk.1 q.2) (fun w r hw _ => ⟨⟨r, hw.1⟩, hw.2⟩))
theorem cz_104 (A : AS N u H) (s : cC N u H h) {to a b : Int} (r1 : -2147483648 ≤ to ∧ to ≤ 2147483647) (r2 : -2147483648 ≤ a ∧ a ≤ 2147483647) (r3 : -2147483648 ≤ b ∧ b ≤ 2147483647) : mj_Ok 59 104 [.ref 1, .int (jn to), .int (jn a), .int (jn b)] h (cZ h (Q_multiply N u H to a b)) := (mj_Ok.up (by decide) (pX_multiply (D := 0) (Nat.le_refl _) A s r1 r2 r3)).to (fun z hz => RO.cz hz _ _ (fun q => q.1) (fun k hk q => hk.1 q.2) (fun w r hw _ => ⟨⟨r, hw.1⟩, hw.2⟩))
theorem cz_105 (A : AS N u H) (s : cC N u H h) {to a b : Int} (r1 : -2147483648 ≤ to ∧ to ≤ 2147483647) (r2 : -2147483648 ≤ a ∧ a ≤ 2147483647) (r3 : -2147483648 ≤ b ∧ b ≤ 2147483647) : mj_Ok 59 105 [.ref 1, .int (jn to), .int (jn a), .int (jn b)] h (cZ h (Q_power N u H to a b)) := (mj_Ok.up (by decide) (pY_power (D := 0) (Nat.le_refl _) A s r1 r2 r3)).to (fun z hz => RO.cz hz _ _ (fun q => q.1.1) (fun k hk q => by
  rcases hk with hk | hk
  · exact hk.1 q.1.2
  · exact hk.2.1 q.2) (fun w r hw _ => ⟨⟨⟨r, hw.1⟩, hw.2.1⟩, hw.2.2⟩))
theorem cz_106 (A : AS N u H) (s : cC N u H h) {to a : Int} (r1 : -2147483648 ≤ to ∧ to ≤ 2147483647) (r2 : -2147483648 ≤ a ∧ a ≤ 2147483647) : mj_Ok 59 106 [.ref 1, .int (jn to), .int (jn a)] h (cZ h (Q_derive N u H to a)) := (mj_Ok.up (by decide) (pX_derive (D := 0) (Nat.le_refl _) A s r1 r2)).to (fun z hz => RO.cz hz _ _ (fun q => q.1) (fun k hk q => hk.1 q.2) (fun w r hw _ => ⟨⟨r, hw.1⟩, hw.2⟩))
theorem cz_107 (A : AS N u H) (s : cC N u H h) {to a b : Int} (r1 : -2147483648 ≤ to ∧ to ≤ 2147483647) (r2 : -2147483648 ≤ a ∧ a ≤ 2147483647) (r3 : -2147483648 ≤ b ∧ b ≤ 2147483647) : mj_Ok 59 107 [.ref 1, .int (jn to), .int (jn a), .int (jn b)] h (cZ h (Q_substitute N u H to a b)) := (mj_Ok.up (by decide) (pX_substitute (D := 0) (Nat.le_refl _) A s r1 r2 r3)).to (fun z hz => RO.cz hz _ _ (fun q => q.1) (fun k hk q => hk.1 q.2) (fun w r hw _ => ⟨⟨r, hw.1⟩, hw.2⟩))
theorem cz_108 (A : AS N u H) (s : cC N u H h) {to a b d : Int} (r1 : -2147483648 ≤ to ∧ to ≤ 2147483647) (r2 : -2147483648 ≤ a ∧ a ≤ 2147483647) (r3 : -2147483648 ≤ b ∧ b ≤ 2147483647) (r4 : -2147483648 ≤ d ∧ d ≤ 2147483647) : mj_Ok 59 108 [.ref 1, .int (jn to), .int (jn a), .int (jn b), .int (jn d)] h (cZ h (Q_divide N u H to a b d)) := (mj_Ok.up (by decide) (pX_divide (D := 0) (Nat.le_refl _) A s r1 r2 r3 r4)).to (fun z hz => by
  rcases hz with ⟨a1, a2, a3, a4, a5, q, r, h2, a6, a7, a8, rfl⟩ | ⟨k, h2, a1, a2, rfl⟩
  · exact ⟨_, _, _, _, Or.inl ⟨⟨a1, a2, a3, a4, a5⟩, q, r, a6, a7, rfl, rfl, rfl⟩, a8⟩
  · refine ⟨_, _, _, _, Or.inr ⟨fun q => ?_, rfl, rfl, rfl⟩, a2⟩
    obtain ⟨q1, q2, q3, q4, q5⟩ := q
    rcases a1 with ⟨a1, _⟩ | ⟨_, ⟨a1, _⟩ | ⟨_, a1, _⟩ | ⟨_, _, a1, _⟩⟩
    · exact a1 q1
    · exact q2 a1
    · omega
    · exact a1 ⟨q4, q5⟩)
theorem RO.ez {g : mj_H} {reg reg2 : Prop} {fail : Nat → Prop} {res : (Nat → Int) → Prop} {to : Int} {z : mj_R} (r : RO g n N u H reg fail res to z) (U F : (Nat → Int) → Prop) (h1 : reg2 → reg) (h2 : ∀ k, reg → fail k → (¬ reg2) ∨ ∃ R, U R ∧ ¬ F R) (h3 : ∀ w, reg → res w → sml w → reg2 ∧ ∃ R, U R ∧ F R ∧ ∀ j, j < 13 → w j = R j) : cZ g (exQ reg2 U F to.toNat N u H) z := by
  rcases r with ⟨a, w, h9, b, c, d, rfl⟩ | ⟨k, h9, a, b, rfl⟩
  · obtain ⟨e0, R, e1, e2, e3⟩ := h3 w a c b
    exact ⟨_, _, _, _, ⟨R, fun _ => e1, Or.inl ⟨⟨e0, e2⟩, w, e3, rfl, rfl, rfl⟩⟩, d⟩
  · by_cases q : reg2
    · rcases a with ⟨a, _⟩ | ⟨ar, a⟩
      · exact absurd (h1 q) a
      · rcases h2 k ar a with w | ⟨R, e1, e2⟩
        · exact absurd q w
        · exact ⟨_, _, _, _, ⟨R, fun _ => e1, Or.inr ⟨fun w => e2 w.2, rfl, rfl, rfl⟩⟩, b⟩
    · exact ⟨_, _, _, _, ⟨pz_0, fun w => absurd w q, Or.inr ⟨fun w => q w.1, rfl, rfl, rfl⟩⟩, b⟩
theorem cz_109 (A : AS N u H) (s : cC N u H h) {to a b : Int} (r1 : -2147483648 ≤ to ∧ to ≤ 2147483647) (r2 : -2147483648 ≤ a ∧ a ≤ 2147483647) (r3 : -2147483648 ≤ b ∧ b ≤ 2147483647) : mj_Ok 59 109 [.ref 1, .int (jn to), .int (jn a), .int (jn b)] h (cZ h (Q_gcd N u H to a b)) := (mj_Ok.up (by decide) (pX_gcd (D := 0) (Nat.le_refl _) A s r1 r2 r3)).to (fun z hz => RO.ez hz _ _ (fun q => q) (fun k _ hk => Or.inr hk.1) (fun w r hw _ => by
  obtain ⟨R, e1, e2⟩ := hw
  exact ⟨r, R, e1, e2.1, e2.2⟩))
theorem cz_110 (A : AS N u H) (s : cC N u H h) {to a : Int} (r1 : -2147483648 ≤ to ∧ to ≤ 2147483647) (r2 : -2147483648 ≤ a ∧ a ≤ 2147483647) : mj_Ok 59 110 [.ref 1, .int (jn to), .int (jn a)] h (cZ h (Q_primitive N u H to a)) := (mj_Ok.up (by decide) (pX_primitive (D := 0) (Nat.le_refl _) A s r1 r2)).to (fun z hz => RO.cz hz _ _ (fun q => q.1) (fun k hk q => hk.1) (fun w r hw sw => ⟨⟨r, sml_cg hw sw, fun i hi => if_neg (by omega)⟩, hw⟩))
theorem cz_111 (A : AS N u H) (s : cC N u H h) {to a : Int} (r1 : -2147483648 ≤ to ∧ to ≤ 2147483647) (r2 : -2147483648 ≤ a ∧ a ≤ 2147483647) : mj_Ok 59 111 [.ref 1, .int (jn to), .int (jn a)] h (cZ h (Q_simple N u H to a)) := (mj_Ok.up (by decide) (pX_simple (D := 0) (Nat.le_refl _) A s r1 r2)).to (fun z hz => RO.ez hz _ _ (fun q => q.1) (fun k _ hk => by
  rcases hk with hk | hk
  · exact Or.inl (fun q => by have := q.2; omega)
  · exact Or.inr hk.2.1) (fun w r hw _ => by
  obtain ⟨e0, R, e1, e2⟩ := hw
  exact ⟨⟨r, e0⟩, R, e1, e2.1, e2.2⟩))
theorem cz_112 (A : AS N u H) (s : cC N u H h) {to a b : Int} (r1 : -2147483648 ≤ to ∧ to ≤ 2147483647) (r2 : -2147483648 ≤ a ∧ a ≤ 2147483647) (r3 : -2147483648 ≤ b ∧ b ≤ 2147483647) : mj_Ok 59 112 [.ref 1, .int (jn to), .int (jn a), .int (jn b)] h (cZ h (Q_residue N u H to a b)) := (mj_Ok.up (by decide) (pX_residue (D := 0) (Nat.le_refl _) A s r1 r2 r3)).to (fun z hz => RO.cz hz _ _ (fun q => q.1) (fun k hk q => hk.1 q.2) (fun w r hw _ => ⟨⟨r, hw.1⟩, hw.2⟩))
theorem eqB.term {to e : Int} {x : Int} {w : Nat → Int} (h1 : 0 ≤ to ∧ to ≤ 5) (h2 : 0 ≤ e ∧ e ≤ 12) (hw : ∀ j, j < 13 → w j = if j = e.toNat then x else rwN N to j) : eqB (jfl N to.toNat w 13) (jvu N (to.toNat * 13 + e.toNat) x) := by
  refine ⟨fun j hj => ?_, ?_, fun k hk => ?_⟩
  · by_cases q : j < to.toNat * 13 ∨ to.toNat * 13 + 13 ≤ j
    · rw [jfl_off _ _ _ q, jvu_ne _ _ _ (by omega)]
    · obtain ⟨i, hi, rfl⟩ : ∃ i, i < 13 ∧ j = to.toNat * 13 + i := ⟨j - to.toNat * 13, by omega, by omega⟩
      rw [jfl_at _ _ _ hi, hw i hi]
      by_cases c : i = e.toNat
      · rw [if_pos c, c, jvu_at]
      · rw [if_neg c, jvu_ne _ _ _ (by omega)]
        exact if_pos hi
  · rw [jfl_off _ _ _ (by omega), jvu_ne _ _ _ (by omega)]
  · rw [jfl_off _ _ _ (by omega), jvu_ne _ _ _ (by omega), jfl_off _ _ _ (by omega), jvu_ne _ _ _ (by omega)]
    exact ⟨rfl, rfl⟩
theorem cz_113 (A : AS N u H) (s : cC N u H h) {to e x : Int} (r1 : -2147483648 ≤ to ∧ to ≤ 2147483647) (r2 : -2147483648 ≤ e ∧ e ≤ 2147483647) (r3 : jR x) : mj_Ok 59 113 [.ref 1, .int (jn to), .int (jn e), .long (jl x)] h (cZ h (Q_setTerm N u H to e x)) := (mj_Ok.up (by decide) (pX_setTerm (D := 0) (Nat.le_refl _) A s r1 r2 r3)).to (fun z hz => by
  rcases hz with ⟨a, w, h9, b, c, d, rfl⟩ | ⟨k, h9, a, b, rfl⟩
  · exact ⟨_, _, _, _, Or.inl ⟨⟨a, c.1.1, by have := c.1.2; omega⟩, eqB.term a c.1.1 c.2, rfl, rfl⟩, d⟩
  · refine ⟨_, _, _, _, Or.inr ⟨fun q => ?_, rfl, rfl, rfl⟩, b⟩
    rcases a with ⟨a, _⟩ | ⟨_, ⟨a, _⟩ | ⟨_, a, _⟩⟩
    · exact a q.1
    · exact a q.2.1
    · exact a (by have := q.2.2; omega))
theorem cz_115 (A : AS N u H) (s : cC N u H h) {x y : Int} (r1 : -2147483648 ≤ x ∧ x ≤ 2147483647) (r2 : -2147483648 ≤ y ∧ y ≤ 2147483647) : mj_Ok 59 115 [.ref 1, .int (jn x), .int (jn y)] h (cZ h (Q_addPoint N u H x y)) := (mj_Ok.up (by decide) (pX_addPoint (D := 0) (Nat.le_refl _) A s r1 r2)).to (fun z hz => by
  have h6 := A.1.2.1.2
  rcases hz with ⟨a, b, h2, c, rfl⟩ | ⟨k, h2, a, b, rfl⟩
  · exact ⟨_, _, _, _, Or.inl ⟨⟨a, by omega, fun j hj q => b (Or.inr ⟨j, hj, q⟩)⟩, eqB.rf _, rfl, rfl⟩, c⟩
  · refine ⟨_, _, _, _, Or.inr ⟨fun q => ?_, rfl, rfl, rfl⟩, b⟩
    rcases a with ⟨a, _⟩ | ⟨_, a | ⟨j, a1, a2⟩, _⟩
    · exact a q.1
    · exact q.2.1 (by omega)
    · exact q.2.2 j a1 a2)
theorem cz_116 (A : AS N u H) (s : cC N u H h) : mj_Ok 59 116 [.ref 1] h (cZ h (Q_clearPoints N u H)) := (mj_Ok.up (by decide) (pX_clearPoints (D := 0) A s)).to (fun z hz => by
  obtain ⟨h2, c, rfl⟩ := hz
  exact ⟨_, _, _, _, Or.inl ⟨trivial, eqB.rf _, rfl, rfl⟩, c⟩)
theorem cz_117 (A : AS N u H) (s : cC N u H h) {to : Int} (r1 : -2147483648 ≤ to ∧ to ≤ 2147483647) : mj_Ok 59 117 [.ref 1, .int (jn to)] h (cZ h (Q_interpolate N u H to)) := (mj_Ok.up (by decide) (pX_interpolate (D := 0) (Nat.le_refl _) A s r1)).to (fun z hz => by
  rcases hz with ⟨a, w, D, h2, b, c, d, rfl⟩ | ⟨k, h2, a, b, rfl⟩
  · exact ⟨_, _, _, _, ⟨w, fun _ => ⟨D, b⟩, Or.inl ⟨⟨a, c⟩, w, fun _ _ => rfl, rfl, rfl, rfl⟩⟩, d⟩
  · rcases a with ⟨a, _⟩ | ⟨_, ⟨w, D, c1, c2⟩, _⟩
    · exact ⟨_, _, _, _, ⟨pz_0, fun q => absurd q a, Or.inr ⟨fun q => a q.1, rfl, rfl, rfl⟩⟩, b⟩
    · exact ⟨_, _, _, _, ⟨w, fun _ => ⟨D, c1⟩, Or.inr ⟨fun q => c2 q.2, rfl, rfl, rfl⟩⟩, b⟩)
theorem cz_118 (A : AS N u H) (s : cC N u H h) : mj_Ok 59 118 [.ref 1] h (cZ h (undQ N u H)) := (mj_Ok.up (by decide) (pX_undo (D := 0) A s)).to (fun z hz => by
  rcases hz with ⟨a, h2, c, rfl⟩ | ⟨v, a, h2, c, rfl⟩
  · exact ⟨_, _, _, _, Or.inl ⟨a, rfl, rfl, rfl⟩, c⟩
  · exact ⟨_, _, _, _, Or.inr ⟨v, a, rfl, rfl, rfl⟩, c⟩)
theorem cz_114 {tm : Nat} {T : Nat → Int} (A : AS N u H) (s : cC N u H h) (hB0 : jBuf tm T h) (ht : tm ≤ 200) (hT : ∀ j : Nat, j < tm → 1 ≤ T j ∧ T j ≤ 255) {to : Int} (r1 : -2147483648 ≤ to ∧ to ≤ 2147483647) : mj_Ok 59 114 [.ref 1, .int (jn to)] h (cZ h (Q_read N u H T tm to)) := (mj_Ok.up (by decide) (pX_read (Nat.le_refl _) A s hB0 ht hT r1)).to (fun z hz => RO.cz hz _ _ (fun q => q.1) (fun k hk q => by
  rcases hk with hk | hk
  · exact hk.1 q.2.1
  · obtain ⟨P, p1, _⟩ := q.2.2
    rw [hk.2.1] at p1
    cases p1) (fun w r hw _ => by
  obtain ⟨e, P, p1, p2⟩ := hw
  refine ⟨⟨r, e, P, p1, p2.1⟩, ?_⟩
  rw [p1]
  exact p2.2))
end CZC
