/-! Answers of the calls that only read: the class. -/
/-- how many of the first are not 0 -/
def tmc (f : Nat → Int) : Nat → Nat
  | 0 => 0
  | k + 1 => if f k = 0 then tmc f k else tmc f k + 1
theorem tmc_z {f : Nat → Int} {k : Nat} (h : f k = 0) : tmc f (k + 1) = tmc f k := if_pos h
theorem tmc_s {f : Nat → Int} {k : Nat} (h : f k ≠ 0) : tmc f (k + 1) = tmc f k + 1 := if_neg h
theorem tmc_le (f : Nat → Int) : ∀ k, tmc f k ≤ k
  | 0 => Nat.le_refl 0
  | k + 1 => by
    have := tmc_le f k
    by_cases q : f k = 0
    · rw [tmc_z q]
      omega
    · rw [tmc_s q]
      omega
theorem tmc_cg {f f' : Nat → Int} : ∀ k, (∀ j, j < k → f' j = f j) → tmc f' k = tmc f k
  | 0, _ => rfl
  | k + 1, h => by
    have e := tmc_cg k (fun j hj => h j (by omega))
    have q := h k (by omega)
    unfold tmc
    rw [q, e]
theorem tmc_mono {f : Nat → Int} {a : Nat} : ∀ b, a ≤ b → tmc f a ≤ tmc f b
  | 0, h => by rw [show a = 0 by omega]; exact Nat.le_refl _
  | b + 1, h => by
    by_cases q : a = b + 1
    · rw [q]
      exact Nat.le_refl _
    · have h1 := tmc_mono (f := f) (a := a) b (by omega)
      by_cases z : f b = 0
      · rw [tmc_z z]
        exact h1
      · rw [tmc_s z]
        omega
/-- the exponent of the t-th term from above -/
def exF (R : Nat → Int) (t z : Int) : Prop := ∃ e : Nat, z = (e : Int) ∧ e < 13 ∧ R e ≠ 0 ∧ (tmc R 13 : Int) - tmc R (e + 1) = t
theorem exF.one {R : Nat → Int} {t : Int} (z1 z2 : Int) (a : exF R t z1) (b : exF R t z2) : z1 = z2 := by
  obtain ⟨e1, a1, a2, a3, a4⟩ := a
  obtain ⟨e2, b1, b2, b3, b4⟩ := b
  rcases Nat.lt_trichotomy e1 e2 with c | c | c
  · have h1 := tmc_mono (f := R) (a := e1 + 1) e2 (by omega)
    have h2 := tmc_s b3
    omega
  · omega
  · have h1 := tmc_mono (f := R) (a := e2 + 1) e1 (by omega)
    have h2 := tmc_s a3
    omega
abbrev A_degree (N : Nat → Int) (a : Int) : Int → Int → Prop := an [(0 ≤ a ∧ a ≤ 5, 1)] (dgF (rwN N a))
abbrev A_terms (N : Nat → Int) (a : Int) : Int → Int → Prop := an [(0 ≤ a ∧ a ≤ 5, 1)] (fun z => z = ((tmc (rwN N a) 13 : Nat) : Int))
abbrev A_exponent (N : Nat → Int) (a t : Int) : Int → Int → Prop := an [((0 ≤ a ∧ a ≤ 5) ∧ 0 ≤ t ∧ t < (tmc (rwN N a) 13 : Int), 1)] (exF (rwN N a) t)
abbrev A_coefficient (N : Nat → Int) (a e : Int) : Int → Int → Prop := an [(0 ≤ a ∧ a ≤ 5, 1), (0 ≤ e ∧ e ≤ 12, 2)] (fun z => z = jsg (rwN N a e.toNat))
abbrev A_content (N : Nat → Int) (a : Int) : Int → Int → Prop := an [(0 ≤ a ∧ a ≤ 5, 1)] (fun z => z = jsg ((cgd (rwN N a) 13 : Nat) : Int))
def smF (f f' : Nat → Int) (z : Int) : Prop := (z = 1 ∧ ∀ j, j < 13 → f j = f' j) ∨ (z = 0 ∧ ¬ ∀ j, j < 13 → f j = f' j)
theorem smF.one {f f' : Nat → Int} (z1 z2 : Int) (a : smF f f' z1) (b : smF f f' z2) : z1 = z2 := by
  rcases a with ⟨a1, a2⟩ | ⟨a1, a2⟩
  · rcases b with ⟨b1, b2⟩ | ⟨b1, b2⟩
    · omega
    · exact absurd a2 b2
  · rcases b with ⟨b1, b2⟩ | ⟨b1, b2⟩
    · exact absurd b2 a2
    · omega
abbrev A_areSame (N : Nat → Int) (a b : Int) : Int → Int → Prop := an [(rg2 a b, 1)] (smF (rwN N a) (rwN N b))
section ARG
variable {N : Nat → Int} {c1 z1 c2 z2 : Int}
theorem A_degree.ag {a : Int} (p : A_degree N a c1 z1) (q : A_degree N a c2 z2) : c1 = c2 ∧ (c1 = 0 → z1 = z2) := an.ag dgF.one (by simp) p q
theorem A_terms.ag {a : Int} (p : A_terms N a c1 z1) (q : A_terms N a c2 z2) : c1 = c2 ∧ (c1 = 0 → z1 = z2) := an.ag (fun _ _ a b => a.trans b.symm) (by simp) p q
theorem A_exponent.ag {a t : Int} (p : A_exponent N a t c1 z1) (q : A_exponent N a t c2 z2) : c1 = c2 ∧ (c1 = 0 → z1 = z2) := an.ag exF.one (by simp) p q
theorem A_coefficient.ag {a e : Int} (p : A_coefficient N a e c1 z1) (q : A_coefficient N a e c2 z2) : c1 = c2 ∧ (c1 = 0 → z1 = z2) := an.ag (fun _ _ a b => a.trans b.symm) (by simp) p q
theorem A_content.ag {a : Int} (p : A_content N a c1 z1) (q : A_content N a c2 z2) : c1 = c2 ∧ (c1 = 0 → z1 = z2) := an.ag (fun _ _ a b => a.trans b.symm) (by simp) p q
theorem A_areSame.ag {a b : Int} (p : A_areSame N a b c1 z1) (q : A_areSame N a b c2 z2) : c1 = c2 ∧ (c1 = 0 → z1 = z2) := an.ag smF.one (by simp) p q
end ARG
section MVR
variable {g h : mj_H} {n D u r : Nat} {V : Nat → Int} {X : Nat → Nat → Int} {N : Nat → Int} {H : Nat → Nat → Int}
theorem mS_tm_loop (m : jM g n V X h) (kr : cK r = 2) (hr : sml (X r)) {Q : mj_R → Prop} (hend : Q (.inl (some (.int (jn ((tmc (X r) 13 : Nat) : Int)))), h)) : ∀ k i, i + k = 13 → mj_T D mj_m163 4 [some (.ref r), some (.int (jn ((tmc (X r) i : Nat) : Int))), some (.int (jn (i : Int)))] [] h Q
  | 0, i, hi => by
    iterate 2 refine mj_T.pl rfl rfl rfl rfl ?_
    refine mT_llen m kr rfl ?_
    refine mj_T.icmp (a := ((i : Nat) : Int)) (b := ((13 : Nat) : Int)) rfl ⟨by omega, by omega⟩ ⟨by omega, by omega⟩ (fun c1 => ?_) (fun c1 => ?_)
    · simp only [jc, Bool.not_eq_true', Bool.not_eq_false', decide_eq_true_eq, decide_eq_false_iff_not] at c1
      refine mj_T.pl rfl rfl rfl rfl ?_
      obtain rfl : i = 13 := by omega
      exact mj_T.ret rfl rfl rfl hend
    · exfalso
      simp only [jc, Bool.not_eq_true', Bool.not_eq_false', decide_eq_true_eq, decide_eq_false_iff_not] at c1
      omega
  | k + 1, i, hi => by
    have h1 := hr i (by omega)
    iterate 2 refine mj_T.pl rfl rfl rfl rfl ?_
    refine mT_llen m kr rfl ?_
    refine mj_T.icmp (a := ((i : Nat) : Int)) (b := ((13 : Nat) : Int)) rfl ⟨by omega, by omega⟩ ⟨by omega, by omega⟩ (fun c1 => ?_) (fun c1 => ?_)
    · exfalso
      simp only [jc, Bool.not_eq_true', Bool.not_eq_false', decide_eq_true_eq, decide_eq_false_iff_not] at c1
      omega
    · simp only [jc, Bool.not_eq_true', Bool.not_eq_false', decide_eq_true_eq, decide_eq_false_iff_not] at c1
      iterate 2 refine mj_T.pl rfl rfl rfl rfl ?_
      refine mT_lald m kr rfl ⟨by omega, by omega⟩ ?_
      refine mj_T.eq (st2 := [.long (jl (X r i))]) ?_ rfl rfl rfl rfl
      refine jT.lc 0 rfl rfl ?_
      refine mj_T.lif (a := (X r i)) (b := ((0 : Nat) : Int)) rfl rfl ⟨by omega, by omega⟩ ⟨by omega, by omega⟩ (fun c2 => ?_) (fun c2 => ?_)
      · simp only [jc, Bool.not_eq_true', Bool.not_eq_false', decide_eq_true_eq, decide_eq_false_iff_not] at c2
        refine mj_T.iinc rfl rfl ?_
        rw [show ((i : Nat) : Int) + 1 = ((i + 1 : Nat) : Int) by omega]
        refine mj_T.eq (loc2 := [some (.ref r), some (.int (jn ((tmc (X r) i : Nat) : Int))), some (.int (jn (((i + 1) : Nat) : Int)))]) ?_ rfl rfl rfl rfl
        refine mj_T.pl rfl rfl rfl rfl ?_
        have e := tmc_z (f := X r) (k := i) (by omega)
        rw [← e]
        exact mS_tm_loop m kr hr hend k (i + 1) (by omega)
      · simp only [jc, Bool.not_eq_true', Bool.not_eq_false', decide_eq_true_eq, decide_eq_false_iff_not] at c2
        refine mj_T.iinc rfl rfl ?_
        rw [show ((tmc (X r) i : Nat) : Int) + 1 = ((tmc (X r) i + 1 : Nat) : Int) by omega]
        refine mj_T.eq (loc2 := [some (.ref r), some (.int (jn (((tmc (X r) i + 1) : Nat) : Int))), some (.int (jn ((i : Nat) : Int)))]) ?_ rfl rfl rfl rfl
        refine mj_T.iinc rfl rfl ?_
        rw [show ((i : Nat) : Int) + 1 = ((i + 1 : Nat) : Int) by omega]
        refine mj_T.eq (loc2 := [some (.ref r), some (.int (jn (((tmc (X r) i + 1) : Nat) : Int))), some (.int (jn (((i + 1) : Nat) : Int)))]) ?_ rfl rfl rfl rfl
        refine mj_T.pl rfl rfl rfl rfl ?_
        have e := tmc_s (f := X r) (k := i) (by omega)
        rw [← e]
        exact mS_tm_loop m kr hr hend k (i + 1) (by omega)
theorem mS_terms (m : jM g n V X h) (kr : cK r = 2) (hr : sml (X r)) : mj_Ok (D + 1) 163 [.ref r] h (fun z => z = (.inl (some (.int (jn ((tmc (X r) 13 : Nat) : Int)))), h)) := by
  refine mj_Ok.of (M := mj_m163) rfl rfl rfl ?_
  refine mj_T.pl rfl rfl rfl rfl ?_
  refine mj_T.pl (loc' := [some (.ref r), some (.int (jn 0)), none]) rfl rfl rfl rfl ?_
  refine mj_T.pl rfl rfl rfl rfl ?_
  refine mj_T.pl (loc' := [some (.ref r), some (.int (jn 0)), some (.int (jn 0))]) rfl rfl rfl rfl ?_
  exact mS_tm_loop (Q := fun z => z = (.inl (some (.int (jn ((tmc (X r) 13 : Nat) : Int)))), h)) m kr hr rfl 13 0 (by omega)
theorem ck_47 : cK 477 = 18 ∧ cK 479 = 18 ∧ cL 478 = 10 ∧ cL 480 = 10 := by decide +kernel
theorem jR_l10 {v : Int} (hv : jR v) : jnl v.natAbs ≤ 10 := jnl_le_lt.mpr (by have h1 := hv.1; have h2 := hv.2; rw [show jB ^ 10 = 1000000000000000000000000000000000000000000000000000000000000000000000000000000000000000000 from by decide +kernel]; omega)
theorem mX_tellLong (m : jM g n V X h) {v : Int} (hv : jR v) : mj_Ok (D + 2) 158 [.ref 1, .long (jl v)] h (fun z => z.1 = .inl (some (.int (jn (jsg v))))) := by
  obtain ⟨k7, k9, l8, l0⟩ := ck_47
  have hl := jR_l10 hv
  refine mj_Ok.of (M := mj_m158) rfl rfl rfl ?_
  refine mj_T.pl rfl rfl rfl rfl ?_
  refine mT_get m 19 cq_d1 (by decide) rfl rfl ?_
  refine mj_T.pl rfl rfl rfl rfl ?_
  refine mj_T.call rfl rfl (Nat.le_of_ble_eq_true rfl) (Nat.le_of_ble_eq_true rfl) (mV_of m 18 k7 (by decide) rfl (by decide) rfl _) rfl (mj_Ok.up (by omega) (mW_setLong (D := 0) m k7 hv (by rw [l8]; exact hl))) (fun v' h1 hq => ?_) (fun i h1 hq => by obtain ⟨_, _, hq⟩ := hq; cases hq)
  obtain ⟨_, m1, hq⟩ := hq
  cases hq
  refine mj_T.pl rfl rfl rfl rfl ?_
  refine mT_get m1 19 cq_d1 (by decide) rfl rfl ?_
  refine mj_T.pl rfl rfl rfl rfl ?_
  refine mj_T.eq (st2 := [.long (jl 1), .ref 479]) ?_ rfl rfl rfl rfl
  refine mj_T.call rfl rfl (Nat.le_of_ble_eq_true rfl) (Nat.le_of_ble_eq_true rfl) (mV_of m1 18 k9 (by decide) rfl (by decide) rfl _) rfl (mj_Ok.up (by omega) (mW_setLong (D := 0) (v := 1) m1 k9 ⟨by decide, by decide⟩ (by rw [l0]; exact jR_l10 ⟨by decide, by decide⟩))) (fun v' h2 hq => ?_) (fun i h2 hq => by obtain ⟨_, _, hq⟩ := hq; cases hq)
  obtain ⟨_, m2, hq⟩ := hq
  cases hq
  have e : jvu (jvu V 477 v) 479 1 477 = v := (jvu_ne _ _ _ (by decide)).trans (jvu_at _ _ _)
  refine mj_T.pl rfl rfl rfl rfl ?_
  refine mT_get m2 19 cq_d1 (by decide) rfl rfl ?_
  refine mT_sg m2 k7 rfl ?_ (by rw [e]; omega)
  rw [e]
  exact mj_T.ret rfl rfl rfl rfl
theorem cv_119 (A : AS N u H) (s : cC N u H h) {a : Int} (ra : -2147483648 ≤ a ∧ a ≤ 2147483647) : mj_Ok 59 119 [.ref 1, .int (jn a)] h (cA (fun k => 1) (A_degree N a)) := by
  obtain ⟨V, X, m, b, d, c, jx⟩ := cS.nr A s
  have jx : rjR X := jx
  refine mj_Ok.of (M := mj_m119) rfl rfl rfl ?_
  iterate 2 refine mj_T.pl rfl rfl rfl rfl ?_
  refine mj_T.call rfl rfl (Nat.le_of_ble_eq_true rfl) (Nat.le_of_ble_eq_true rfl) (mV_of m 19 cq_d1 (by decide) rfl (by decide) rfl _) rfl (mj_Ok.up (by omega) (mC_rowOf (D := 0) m (i := a) (by omega))) (fun v g1 hq => ?_) (fun i g1 hq => ?_)
  rotate_left
  · rcases hq with ⟨_, hq⟩ | ⟨hn, hq⟩
    · cases hq
    · cases hq
      exact Or.inl ⟨rfl, fun z => an.n hn⟩
  rcases hq with ⟨ka, hq⟩ | ⟨_, hq⟩
  rotate_left
  · cases hq
  cases hq
  refine mj_T.eq (pc2 := 5) (st2 := [.ref (4 + a.toNat)]) ?_ rfl rfl rfl rfl
  refine mj_T.call rfl rfl (Nat.le_of_ble_eq_true rfl) (Nat.le_of_ble_eq_true rfl) rfl rfl (mj_Ok.up (by omega) (mS_deg (D := 0) m (mK_rt a.toNat (by omega)) (c.sm A.1 ka))) (fun v g2 hq => ?_) (fun i g2 hq => ?_)
  rotate_left
  · cases hq
  cases hq
  have ga := fdg_le (X (4 + a.toNat)) 13
  refine mj_T.eq (pc2 := 8) (st2 := [.int (jn (((fdg (X (4 + a.toNat)) 13) : Int) - 1))]) ?_ rfl rfl rfl rfl
  exact mj_T.ret rfl rfl rfl ⟨_, ⟨by omega, by omega⟩, rfl, an.y ka (an.e (dgF.of (c.rw ka)))⟩
theorem cv_120 (A : AS N u H) (s : cC N u H h) {a : Int} (ra : -2147483648 ≤ a ∧ a ≤ 2147483647) : mj_Ok 59 120 [.ref 1, .int (jn a)] h (cA (fun k => 1) (A_terms N a)) := by
  obtain ⟨V, X, m, b, d, c, jx⟩ := cS.nr A s
  have jx : rjR X := jx
  refine mj_Ok.of (M := mj_m120) rfl rfl rfl ?_
  iterate 2 refine mj_T.pl rfl rfl rfl rfl ?_
  refine mj_T.call rfl rfl (Nat.le_of_ble_eq_true rfl) (Nat.le_of_ble_eq_true rfl) (mV_of m 19 cq_d1 (by decide) rfl (by decide) rfl _) rfl (mj_Ok.up (by omega) (mC_rowOf (D := 0) m (i := a) (by omega))) (fun v g1 hq => ?_) (fun i g1 hq => ?_)
  rotate_left
  · rcases hq with ⟨_, hq⟩ | ⟨hn, hq⟩
    · cases hq
    · cases hq
      exact Or.inl ⟨rfl, fun z => an.n hn⟩
  rcases hq with ⟨ka, hq⟩ | ⟨_, hq⟩
  rotate_left
  · cases hq
  cases hq
  refine mj_T.eq (pc2 := 5) (st2 := [.ref (4 + a.toNat)]) ?_ rfl rfl rfl rfl
  refine mj_T.call rfl rfl (Nat.le_of_ble_eq_true rfl) (Nat.le_of_ble_eq_true rfl) rfl rfl (mj_Ok.up (by omega) (mS_terms (D := 0) m (mK_rt a.toNat (by omega)) (c.sm A.1 ka))) (fun v g2 hq => ?_) (fun i g2 hq => ?_)
  rotate_left
  · cases hq
  cases hq
  have ga := tmc_le (X (4 + a.toNat)) 13
  refine mj_T.eq (pc2 := 8) (st2 := [.int (jn ((tmc (X (4 + a.toNat)) 13 : Nat) : Int))]) ?_ rfl rfl rfl rfl
  exact mj_T.ret rfl rfl rfl ⟨_, ⟨by omega, by omega⟩, rfl, an.y ka (an.e (congrArg (fun x : Nat => (x : Int)) (tmc_cg 13 (c.rw ka))))⟩
theorem cv_122 (A : AS N u H) (s : cC N u H h) {a : Int} (ra : -2147483648 ≤ a ∧ a ≤ 2147483647) {e : Int} (re : -2147483648 ≤ e ∧ e ≤ 2147483647) : mj_Ok 59 122 [.ref 1, .int (jn a), .int (jn e)] h (cA (fun k => if k = 0 then 1 else 2) (A_coefficient N a e)) := by
  obtain ⟨V, X, m, b, d, c, jx⟩ := cS.nr A s
  have jx : rjR X := jx
  refine mj_Ok.of (M := mj_m122) rfl rfl rfl ?_
  iterate 2 refine mj_T.pl rfl rfl rfl rfl ?_
  refine mj_T.call rfl rfl (Nat.le_of_ble_eq_true rfl) (Nat.le_of_ble_eq_true rfl) (mV_of m 19 cq_d1 (by decide) rfl (by decide) rfl _) rfl (mj_Ok.up (by omega) (mC_rowOf (D := 0) m (i := a) (by omega))) (fun v g1 hq => ?_) (fun i g1 hq => ?_)
  rotate_left
  · rcases hq with ⟨_, hq⟩ | ⟨hn, hq⟩
    · cases hq
    · cases hq
      exact Or.inl ⟨rfl, fun z => an.n hn⟩
  rcases hq with ⟨ka, hq⟩ | ⟨_, hq⟩
  rotate_left
  · cases hq
  cases hq
  refine mj_T.eq (pc2 := 5) (st2 := [.ref (4 + a.toNat)]) ?_ rfl rfl rfl rfl
  refine mj_T.pl (loc' := [some (.ref 1), some (.int (jn a)), some (.int (jn e)), some (.ref (4 + a.toNat))]) rfl rfl rfl rfl ?_
  refine mj_T.pl rfl rfl rfl rfl ?_
  refine mj_T.call rfl rfl (Nat.le_of_ble_eq_true rfl) (Nat.le_of_ble_eq_true rfl) rfl rfl (mj_Ok.up (by omega) (mC_exponent (D := 0) (i := e) (by omega))) (fun v g2 hq => ?_) (fun i g2 hq => ?_)
  rotate_left
  · rcases hq with ⟨_, hq⟩ | ⟨hn, hq⟩
    · cases hq
    · cases hq
      exact Or.inl ⟨rfl, fun z => an.y ka (an.n hn)⟩
  rcases hq with ⟨ke, hq⟩ | ⟨_, hq⟩
  rotate_left
  · cases hq
  cases hq
  refine mj_T.eq (pc2 := 10) (st2 := []) ?_ rfl rfl rfl rfl
  iterate 3 refine mj_T.pl rfl rfl rfl rfl ?_
  refine mT_lald m (mK_rt a.toNat (by omega)) rfl ⟨by omega, by omega⟩ ?_
  refine mj_T.call rfl rfl (Nat.le_of_ble_eq_true rfl) (Nat.le_of_ble_eq_true rfl) (mV_of m 19 cq_d1 (by decide) rfl (by decide) rfl _) rfl (mj_Ok.up (by omega) (mX_tellLong (D := 0) m (v := (X (4 + a.toNat) ((e : Int).toNat))) (jx _ (mK_rt a.toNat (by omega)) _))) (fun v g3 hq => ?_) (fun i g3 hq => ?_)
  rotate_left
  · cases hq
  have hq : (Sum.inl v : Option Value ⊕ Nat) = .inl (some (.int (jn (jsg (X (4 + a.toNat) ((e : Int).toNat)))))) := hq
  cases hq
  have hj := jsg_range (X (4 + a.toNat) ((e : Int).toNat))
  refine mj_T.eq (pc2 := 17) (st2 := [.int (jn (jsg (X (4 + a.toNat) ((e : Int).toNat))))]) ?_ rfl rfl rfl rfl
  exact mj_T.ret rfl rfl rfl ⟨_, ⟨by omega, by omega⟩, rfl, an.y ka (an.y ke (an.e (congrArg jsg (c.rw ka _ (by omega)))))⟩
theorem cv_123 (A : AS N u H) (s : cC N u H h) {a : Int} (ra : -2147483648 ≤ a ∧ a ≤ 2147483647) : mj_Ok 59 123 [.ref 1, .int (jn a)] h (cA (fun k => 1) (A_content N a)) := by
  obtain ⟨V, X, m, b, d, c, jx⟩ := cS.nr A s
  have jx : rjR X := jx
  refine mj_Ok.of (M := mj_m123) rfl rfl rfl ?_
  iterate 3 refine mj_T.pl rfl rfl rfl rfl ?_
  refine mj_T.call rfl rfl (Nat.le_of_ble_eq_true rfl) (Nat.le_of_ble_eq_true rfl) (mV_of m 19 cq_d1 (by decide) rfl (by decide) rfl _) rfl (mj_Ok.up (by omega) (mC_rowOf (D := 0) m (i := a) (by omega))) (fun v g1 hq => ?_) (fun i g1 hq => ?_)
  rotate_left
  · rcases hq with ⟨_, hq⟩ | ⟨hn, hq⟩
    · cases hq
    · cases hq
      exact Or.inl ⟨rfl, fun z => an.n hn⟩
  rcases hq with ⟨ka, hq⟩ | ⟨_, hq⟩
  rotate_left
  · cases hq
  cases hq
  refine mj_T.eq (pc2 := 6) (st2 := [.ref (4 + a.toNat), .ref 1]) ?_ rfl rfl rfl rfl
  refine mj_T.call rfl rfl (Nat.le_of_ble_eq_true rfl) (Nat.le_of_ble_eq_true rfl) rfl rfl (mj_Ok.up (by omega) (mS_cont (D := 0) m (mK_rt a.toNat (by omega)) (c.sm A.1 ka))) (fun v g2 hq => ?_) (fun i g2 hq => ?_)
  rotate_left
  · cases hq
  cases hq
  have hcg : cgd (X (4 + a.toNat)) 13 ≤ 999999999999999999 := cgd_bd 13 (c.sm A.1 ka)
  refine mj_T.eq (pc2 := 9) (st2 := [.long (jl ((cgd (X (4 + a.toNat)) 13 : Nat) : Int)), .ref 1]) ?_ rfl rfl rfl rfl
  refine mj_T.call rfl rfl (Nat.le_of_ble_eq_true rfl) (Nat.le_of_ble_eq_true rfl) (mV_of m 19 cq_d1 (by decide) rfl (by decide) rfl _) rfl (mj_Ok.up (by omega) (mX_tellLong (D := 0) m (v := ((cgd (X (4 + a.toNat)) 13 : Nat) : Int)) ⟨by omega, by omega⟩)) (fun v g3 hq => ?_) (fun i g3 hq => ?_)
  rotate_left
  · cases hq
  have hq : (Sum.inl v : Option Value ⊕ Nat) = .inl (some (.int (jn (jsg ((cgd (X (4 + a.toNat)) 13 : Nat) : Int))))) := hq
  cases hq
  have hj := jsg_range ((cgd (X (4 + a.toNat)) 13 : Nat) : Int)
  refine mj_T.eq (pc2 := 12) (st2 := [.int (jn (jsg ((cgd (X (4 + a.toNat)) 13 : Nat) : Int)))]) ?_ rfl rfl rfl rfl
  exact mj_T.ret rfl rfl rfl ⟨_, ⟨by omega, by omega⟩, rfl, an.y ka (an.e (by rw [cgd_cg 13 (c.rw ka)]))⟩
theorem cv_126 (A : AS N u H) (s : cC N u H h) {a : Int} (ra : -2147483648 ≤ a ∧ a ≤ 2147483647) {a2 : Int} (ra2 : -2147483648 ≤ a2 ∧ a2 ≤ 2147483647) : mj_Ok 59 126 [.ref 1, .int (jn a), .int (jn a2)] h (cA (fun k => 1) (A_areSame N a a2)) := by
  obtain ⟨V, X, m, b, d, c, jx⟩ := cS.nr A s
  have jx : rjR X := jx
  refine mj_Ok.of (M := mj_m126) rfl rfl rfl ?_
  iterate 2 refine mj_T.pl rfl rfl rfl rfl ?_
  refine mj_T.call rfl rfl (Nat.le_of_ble_eq_true rfl) (Nat.le_of_ble_eq_true rfl) (mV_of m 19 cq_d1 (by decide) rfl (by decide) rfl _) rfl (mj_Ok.up (by omega) (mC_rowOf (D := 0) m (i := a) (by omega))) (fun v g1 hq => ?_) (fun i g1 hq => ?_)
  rotate_left
  · rcases hq with ⟨_, hq⟩ | ⟨hn, hq⟩
    · cases hq
    · cases hq
      exact Or.inl ⟨rfl, fun z => an.n (fun q => hn q.1)⟩
  rcases hq with ⟨ka, hq⟩ | ⟨_, hq⟩
  rotate_left
  · cases hq
  cases hq
  refine mj_T.eq (pc2 := 5) (st2 := [.ref (4 + a.toNat)]) ?_ rfl rfl rfl rfl
  iterate 2 refine mj_T.pl rfl rfl rfl rfl ?_
  refine mj_T.call rfl rfl (Nat.le_of_ble_eq_true rfl) (Nat.le_of_ble_eq_true rfl) (mV_of m 19 cq_d1 (by decide) rfl (by decide) rfl _) rfl (mj_Ok.up (by omega) (mC_rowOf (D := 0) m (i := a2) (by omega))) (fun v g2 hq => ?_) (fun i g2 hq => ?_)
  rotate_left
  · rcases hq with ⟨_, hq⟩ | ⟨hn, hq⟩
    · cases hq
    · cases hq
      exact Or.inl ⟨rfl, fun z => an.n (fun q => hn q.2)⟩
  rcases hq with ⟨ka2, hq⟩ | ⟨_, hq⟩
  rotate_left
  · cases hq
  cases hq
  refine mj_T.eq (pc2 := 10) (st2 := [.ref (4 + a2.toNat), .ref (4 + a.toNat)]) ?_ rfl rfl rfl rfl
  refine mj_T.call rfl rfl (Nat.le_of_ble_eq_true rfl) (Nat.le_of_ble_eq_true rfl) rfl rfl (mj_Ok.up (by omega) (mS_same (D := 0) m (mK_rt a.toNat (by omega)) (mK_rt a2.toNat (by omega)) (c.sm A.1 ka) (c.sm A.1 ka2))) (fun v g3 hq => ?_) (fun i g3 hq => ?_)
  rotate_left
  · rcases hq with ⟨_, hq⟩ | ⟨_, hq⟩ <;> cases hq
  rcases hq with ⟨hs, hq⟩ | ⟨hs, hq⟩
  · cases hq
    exact mj_T.ret rfl rfl rfl ⟨1, ⟨by decide, by decide⟩, rfl, an.y ⟨ka, ka2⟩ (an.e (Or.inl ⟨rfl, fun j hj => (c.rw ka j hj).symm.trans ((hs j hj).trans (c.rw ka2 j hj))⟩))⟩
  · cases hq
    exact mj_T.ret rfl rfl rfl ⟨0, ⟨by decide, by decide⟩, rfl, an.y ⟨ka, ka2⟩ (an.e (Or.inr ⟨rfl, fun q => hs (fun j hj => (c.rw ka j hj).trans ((q j hj).trans (c.rw ka2 j hj).symm))⟩))⟩
theorem mX_ex_loop (m : jM g n V X h) (kr : cK r = 2) (hr : sml (X r)) {a t : Int} (ht : -2147483648 ≤ t ∧ t ≤ 2147483647) {Q : mj_R → Prop} (hret : ∀ e : Nat, e < 13 → X r e ≠ 0 → (tmc (X r) 13 : Int) - tmc (X r) (e + 1) = t → Q (.inl (some (.int (jn (e : Int)))), h)) (hthr : ¬ (0 ≤ t ∧ t < (tmc (X r) 13 : Int)) → ∀ loc, mj_T D mj_m121 51 loc [] h Q) : ∀ k, k ≤ 13 → (0 ≤ t → (tmc (X r) 13 : Int) - tmc (X r) k ≤ t) → (t < 0 → k = 13) → mj_T D mj_m121 15 [some (.ref 1), some (.int (jn a)), some (.int (jn t)), some (.ref r), some (.int (jn (t - ((tmc (X r) 13 : Int) - (tmc (X r) k : Int))))), some (.int (jn ((k : Int) - 1)))] [] h Q
  | 0, hk, hv, hw => by
    have h0 : tmc (X r) 0 = 0 := rfl
    have h13 := tmc_le (X r) 13
    refine mj_T.pl rfl rfl rfl rfl ?_
    refine mj_T.if0 (a := (((0 : Nat) : Int) - 1)) rfl ⟨by omega, by omega⟩ (fun c1 => ?_) (fun c1 => ?_)
    · simp only [jc, Bool.not_eq_true', Bool.not_eq_false', decide_eq_true_eq, decide_eq_false_iff_not] at c1
      exact hthr (by omega) _
    · exfalso
      simp [jc] at c1
  | k + 1, hk, hv, hw => by
    have h1 := hr k (by omega)
    have h13 := tmc_le (X r) 13
    have hk1 := tmc_le (X r) (k + 1)
    have h9 : t < 0 → tmc (X r) (k + 1) = tmc (X r) 13 := fun q => by rw [hw q]
    have hm1 := tmc_mono (f := X r) (a := k + 1) 13 (by omega)
    rw [show ((k + 1 : Nat) : Int) - 1 = (k : Int) by omega]
    refine mj_T.pl rfl rfl rfl rfl ?_
    refine mj_T.if0 (a := ((k : Nat) : Int)) rfl ⟨by omega, by omega⟩ (fun c1 => ?_) (fun c1 => ?_)
    · exfalso
      simp only [jc, Bool.not_eq_true', Bool.not_eq_false', decide_eq_true_eq, decide_eq_false_iff_not] at c1
      omega
    · simp only [jc, Bool.not_eq_true', Bool.not_eq_false', decide_eq_true_eq, decide_eq_false_iff_not] at c1
      refine mj_T.pl rfl rfl rfl rfl ?_
      refine mj_T.if0 (a := (t - ((tmc (X r) 13 : Int) - (tmc (X r) (k + 1) : Int)))) rfl ⟨by omega, by omega⟩ (fun c2 => ?_) (fun c2 => ?_)
      · simp only [jc, Bool.not_eq_true', Bool.not_eq_false', decide_eq_true_eq, decide_eq_false_iff_not] at c2
        exact hthr (by omega) _
      · simp only [jc, Bool.not_eq_true', Bool.not_eq_false', decide_eq_true_eq, decide_eq_false_iff_not] at c2
        iterate 2 refine mj_T.pl rfl rfl rfl rfl ?_
        refine mT_lald m kr rfl ⟨by omega, by omega⟩ ?_
        refine mj_T.eq (st2 := [.long (jl (X r k))]) ?_ rfl rfl rfl rfl
        refine jT.lc 0 rfl rfl ?_
        refine mj_T.lif (a := (X r k)) (b := ((0 : Nat) : Int)) rfl rfl ⟨by omega, by omega⟩ ⟨by omega, by omega⟩ (fun c3 => ?_) (fun c3 => ?_)
        · simp only [jc, Bool.not_eq_true', Bool.not_eq_false', decide_eq_true_eq, decide_eq_false_iff_not] at c3
          refine mj_T.iinc rfl rfl ?_
          refine mj_T.eq (loc2 := [some (.ref 1), some (.int (jn a)), some (.int (jn t)), some (.ref r), some (.int (jn (t - ((tmc (X r) 13 : Int) - (tmc (X r) (k + 1) : Int))))), some (.int (jn (((k : Nat) : Int) + (-1))))]) ?_ rfl rfl rfl rfl
          refine mj_T.pl rfl rfl rfl rfl ?_
          have e := tmc_z (f := X r) (k := k) (by omega)
          refine mj_T.eq (mX_ex_loop (a := a) m kr hr ht hret hthr k (by omega) (fun q => by have := hv q; omega) (fun q => by omega)) rfl ?_ rfl rfl
          rw [show (t - ((tmc (X r) 13 : Int) - (tmc (X r) (k + 1) : Int))) = (t - ((tmc (X r) 13 : Int) - (tmc (X r) k : Int))) by omega, show (((k : Nat) : Int) + (-1)) = (k : Int) - 1 by omega]
        · simp only [jc, Bool.not_eq_true', Bool.not_eq_false', decide_eq_true_eq, decide_eq_false_iff_not] at c3
          refine mj_T.pl rfl rfl rfl rfl ?_
          refine mj_T.if0 (a := (t - ((tmc (X r) 13 : Int) - (tmc (X r) (k + 1) : Int)))) rfl ⟨by omega, by omega⟩ (fun c4 => ?_) (fun c4 => ?_)
          · simp only [jc, Bool.not_eq_true', Bool.not_eq_false', decide_eq_true_eq, decide_eq_false_iff_not] at c4
            refine mj_T.iinc rfl rfl ?_
            refine mj_T.eq (loc2 := [some (.ref 1), some (.int (jn a)), some (.int (jn t)), some (.ref r), some (.int (jn ((t - ((tmc (X r) 13 : Int) - (tmc (X r) (k + 1) : Int))) + (-1)))), some (.int (jn ((k : Nat) : Int)))]) ?_ rfl rfl rfl rfl
            refine mj_T.iinc rfl rfl ?_
            refine mj_T.eq (loc2 := [some (.ref 1), some (.int (jn a)), some (.int (jn t)), some (.ref r), some (.int (jn ((t - ((tmc (X r) 13 : Int) - (tmc (X r) (k + 1) : Int))) + (-1)))), some (.int (jn (((k : Nat) : Int) + (-1))))]) ?_ rfl rfl rfl rfl
            refine mj_T.pl rfl rfl rfl rfl ?_
            have e := tmc_s (f := X r) (k := k) (by omega)
            refine mj_T.eq (mX_ex_loop (a := a) m kr hr ht hret hthr k (by omega) (fun q => by have := hv q; omega) (fun q => by omega)) rfl ?_ rfl rfl
            rw [show ((t - ((tmc (X r) 13 : Int) - (tmc (X r) (k + 1) : Int))) + (-1)) = (t - ((tmc (X r) 13 : Int) - (tmc (X r) k : Int))) by omega, show (((k : Nat) : Int) + (-1)) = (k : Int) - 1 by omega]
          · simp only [jc, Bool.not_eq_true', Bool.not_eq_false', decide_eq_true_eq, decide_eq_false_iff_not] at c4
            refine mj_T.pl rfl rfl rfl rfl ?_
            exact mj_T.ret rfl rfl rfl (hret k (by omega) (by omega) (by omega))
theorem cv_121 (A : AS N u H) (s : cC N u H h) {a : Int} (ra : -2147483648 ≤ a ∧ a ≤ 2147483647) {t : Int} (rt : -2147483648 ≤ t ∧ t ≤ 2147483647) : mj_Ok 59 121 [.ref 1, .int (jn a), .int (jn t)] h (cA (fun k => 1) (A_exponent N a t)) := by
  obtain ⟨V, X, m, b, d, c, jx⟩ := cS.nr A s
  have jx : rjR X := jx
  refine mj_Ok.of (M := mj_m121) rfl rfl rfl ?_
  iterate 2 refine mj_T.pl rfl rfl rfl rfl ?_
  refine mj_T.call rfl rfl (Nat.le_of_ble_eq_true rfl) (Nat.le_of_ble_eq_true rfl) (mV_of m 19 cq_d1 (by decide) rfl (by decide) rfl _) rfl (mj_Ok.up (by omega) (mC_rowOf (D := 0) m (i := a) (by omega))) (fun v g1 hq => ?_) (fun i g1 hq => ?_)
  rotate_left
  · rcases hq with ⟨_, hq⟩ | ⟨hn, hq⟩
    · cases hq
    · cases hq
      exact Or.inl ⟨rfl, fun z => an.n (fun q => hn q.1)⟩
  rcases hq with ⟨ka, hq⟩ | ⟨_, hq⟩
  rotate_left
  · cases hq
  cases hq
  refine mj_T.eq (pc2 := 5) (st2 := [.ref (4 + a.toNat)]) ?_ rfl rfl rfl rfl
  refine mj_T.pl (loc' := [some (.ref 1), some (.int (jn a)), some (.int (jn t)), some (.ref (4 + a.toNat)), none, none]) rfl rfl rfl rfl ?_
  refine mj_T.pl rfl rfl rfl rfl ?_
  refine mj_T.pl (loc' := [some (.ref 1), some (.int (jn a)), some (.int (jn t)), some (.ref (4 + a.toNat)), some (.int (jn t)), none]) rfl rfl rfl rfl ?_
  refine mj_T.pl rfl rfl rfl rfl ?_
  refine mT_llen m (mK_rt a.toNat (by omega)) rfl ?_
  refine mj_T.pl rfl rfl rfl rfl ?_
  refine mj_T.isub (a := ((13 : Nat) : Int)) (b := 1) rfl ?_
  refine mj_T.pl (loc' := [some (.ref 1), some (.int (jn a)), some (.int (jn t)), some (.ref (4 + a.toNat)), some (.int (jn t)), some (.int (jn (((13 : Nat) : Int) - 1)))]) rfl rfl rfl rfl ?_
  have e13 : (tmc (X (4 + a.toNat)) 13 : Int) = (tmc (rwN N a) 13 : Int) := congrArg (fun x : Nat => (x : Int)) (tmc_cg 13 (c.rw ka))
  refine mj_T.eq (mX_ex_loop (a := a) (r := 4 + a.toNat) (Q := cA (fun k => 1) (A_exponent N a t)) m (mK_rt a.toNat (by omega)) (c.sm A.1 ka) rt (fun e he h1 h2 => ?_) (fun hn loc => ?_) 13 (by omega) (fun q => by omega) (fun _ => rfl)) rfl (by rw [show t - ((tmc (X (4 + a.toNat)) 13 : Int) - (tmc (X (4 + a.toNat)) 13 : Int)) = t by omega]) rfl rfl
  · refine ⟨_, ⟨by omega, by omega⟩, rfl, an.y ⟨ka, ?_, ?_⟩ (an.e ⟨e, rfl, he, ?_, ?_⟩)⟩
    · have := tmc_mono (f := X (4 + a.toNat)) (a := e + 1) 13 (by omega)
      omega
    · have := tmc_s h1
      omega
    · rw [← c.rw ka e he]
      exact h1
    · rw [← e13, ← tmc_cg (e + 1) (fun j hj => c.rw ka j (by omega))]
      exact h2
  · exact mj_T.throws rfl rfl rfl (Nat.le_of_ble_eq_true rfl) (fun z => an.n (fun q => hn ⟨q.2.1, by rw [e13]; exact q.2.2⟩))
end MVR
section JZB
variable {n : Nat} {tm : Int} {h : mj_H} {Φ : SP} {A : Int → Int → Prop}
theorem jz_331 {p1 : Int} {p2 : Int} (w : jLw cK cL cR 571 n tm h) (rp1 : -2147483648 ≤ p1 ∧ p1 ≤ 2147483647) (rp2 : -2147483648 ≤ p2 ∧ p2 ≤ 2147483647) (c : mj_Ok 59 125 [.ref 1, .int (jn p1), .int (jn p2)] h (fun r => yZ Φ r.2 ∧ cA (fun k => 1) A r)) (hb : ∀ z, A 0 z → z = 0 ∨ z = 1) : mj_Ok 60 331 [.ref 1, .int (jn p1), .int (jn p2), .ref 571] h (oA A Φ) := by
  have hg : h.length ≤ n := Nat.le_of_eq w.1.1
  refine mj_Ok.of (M := mj_m331) (loc := [some (.ref 1), some (.int (jn p1)), some (.int (jn p2)), some (.ref 571), none]) rfl rfl rfl ?_
  iterate 5 refine mj_T.pl rfl rfl rfl rfl ?_
  refine mj_T.call rfl rfl (Nat.le_of_ble_eq_true rfl) (Nat.le_of_ble_eq_true rfl) (jrv_of w.1 cK4.1 (by decide) rfl (by decide) rfl _) rfl ((mj_Ok.up (by decide) (jc_125 (D := 0) cTY hg w.1 cK4.1 rp1 rp2)).and c) (fun v h1 hq => ?_) (fun i h1 hq => ?_)
  · obtain ⟨⟨_, o1⟩, y1, z, jz, rfl, az⟩ := hq
    have hz := hb z az
    obtain ⟨_, _, f, hf⟩ := w.thr o1
    refine mj_T.eq (pc2 := 8) (st2 := [.int (jn z), .int (jn 0), .ref 571]) ?_ rfl rfl rfl rfl
    refine jT.if0 rfl ⟨by omega, by omega⟩ (fun q => ?_) (fun q => ?_)
    · simp only [jc, Bool.not_eq_true', Bool.not_eq_false', decide_eq_true_eq, decide_eq_false_iff_not] at q
      obtain rfl : z = 0 := by omega
      refine mj_T.pl rfl rfl rfl rfl ?_
      refine jcx.lastv hf rfl (fun e ce => ?_)
      iterate 2 refine mj_T.pl rfl rfl rfl rfl ?_
      exact mj_T.ret rfl rfl rfl ⟨0, 0, az, ⟨by decide, by decide⟩, rfl, fun _ => ⟨⟨by decide, by decide⟩, ce⟩, yZ.set y1⟩
    · simp only [jc, Bool.not_eq_true', Bool.not_eq_false', decide_eq_true_eq, decide_eq_false_iff_not] at q
      obtain rfl : z = 1 := by omega
      iterate 2 refine mj_T.pl rfl rfl rfl rfl ?_
      refine jcx.lastv hf rfl (fun e ce => ?_)
      iterate 2 refine mj_T.pl rfl rfl rfl rfl ?_
      exact mj_T.ret rfl rfl rfl ⟨0, 1, az, ⟨by decide, by decide⟩, rfl, fun _ => ⟨⟨by decide, by decide⟩, ce⟩, yZ.set y1⟩
  · obtain ⟨⟨hi, o1⟩, y1, y2⟩ := hq
    simp only [List.mem_cons, List.not_mem_nil, or_false] at hi
    · subst hi
      refine Or.inr ⟨4, 22, rfl, (Nat.le_of_ble_eq_true rfl), ?_⟩
      refine mj_T.pl rfl rfl rfl rfl ?_
      exact mj_T.ret rfl rfl rfl ⟨1, 0, y2 0, ⟨by decide, by decide⟩, rfl, fun q => absurd q (by decide), y1⟩
theorem jz_332 {p1 : Int} {p2 : Int} (w : jLw cK cL cR 571 n tm h) (rp1 : -2147483648 ≤ p1 ∧ p1 ≤ 2147483647) (rp2 : -2147483648 ≤ p2 ∧ p2 ≤ 2147483647) (c : mj_Ok 59 126 [.ref 1, .int (jn p1), .int (jn p2)] h (fun r => yZ Φ r.2 ∧ cA (fun k => 1) A r)) (hb : ∀ z, A 0 z → z = 0 ∨ z = 1) : mj_Ok 60 332 [.ref 1, .int (jn p1), .int (jn p2), .ref 571] h (oA A Φ) := by
  have hg : h.length ≤ n := Nat.le_of_eq w.1.1
  refine mj_Ok.of (M := mj_m332) (loc := [some (.ref 1), some (.int (jn p1)), some (.int (jn p2)), some (.ref 571), none]) rfl rfl rfl ?_
  iterate 5 refine mj_T.pl rfl rfl rfl rfl ?_
  refine mj_T.call rfl rfl (Nat.le_of_ble_eq_true rfl) (Nat.le_of_ble_eq_true rfl) (jrv_of w.1 cK4.1 (by decide) rfl (by decide) rfl _) rfl ((mj_Ok.up (by decide) (mj_Ok.to (jc_126 (D := 0) cTY hg w.1 cK4.1 rp1 rp2) (fun _ k => jQp.toQ w.1 k))).and c) (fun v h1 hq => ?_) (fun i h1 hq => ?_)
  · obtain ⟨⟨_, o1⟩, y1, z, jz, rfl, az⟩ := hq
    have hz := hb z az
    obtain ⟨_, _, f, hf⟩ := w.thr o1
    refine mj_T.eq (pc2 := 8) (st2 := [.int (jn z), .int (jn 0), .ref 571]) ?_ rfl rfl rfl rfl
    refine jT.if0 rfl ⟨by omega, by omega⟩ (fun q => ?_) (fun q => ?_)
    · simp only [jc, Bool.not_eq_true', Bool.not_eq_false', decide_eq_true_eq, decide_eq_false_iff_not] at q
      obtain rfl : z = 0 := by omega
      refine mj_T.pl rfl rfl rfl rfl ?_
      refine jcx.lastv hf rfl (fun e ce => ?_)
      iterate 2 refine mj_T.pl rfl rfl rfl rfl ?_
      exact mj_T.ret rfl rfl rfl ⟨0, 0, az, ⟨by decide, by decide⟩, rfl, fun _ => ⟨⟨by decide, by decide⟩, ce⟩, yZ.set y1⟩
    · simp only [jc, Bool.not_eq_true', Bool.not_eq_false', decide_eq_true_eq, decide_eq_false_iff_not] at q
      obtain rfl : z = 1 := by omega
      iterate 2 refine mj_T.pl rfl rfl rfl rfl ?_
      refine jcx.lastv hf rfl (fun e ce => ?_)
      iterate 2 refine mj_T.pl rfl rfl rfl rfl ?_
      exact mj_T.ret rfl rfl rfl ⟨0, 1, az, ⟨by decide, by decide⟩, rfl, fun _ => ⟨⟨by decide, by decide⟩, ce⟩, yZ.set y1⟩
  · obtain ⟨⟨hi, o1⟩, y1, y2⟩ := hq
    simp only [List.mem_cons, List.not_mem_nil, or_false] at hi
    · subst hi
      refine Or.inr ⟨4, 22, rfl, (Nat.le_of_ble_eq_true rfl), ?_⟩
      refine mj_T.pl rfl rfl rfl rfl ?_
      exact mj_T.ret rfl rfl rfl ⟨1, 0, y2 0, ⟨by decide, by decide⟩, rfl, fun q => absurd q (by decide), y1⟩
end JZB
