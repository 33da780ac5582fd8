/-! What a call answers: a code (0: none), and a number where the code is 0. -/
/-- conditions with the codes that they have where they don't hold; then what the answer is -/
def an : List (Prop × Int) → (Int → Prop) → Int → Int → Prop
  | [], F, c, z => c = 0 ∧ F z
  | p :: l, F, c, z => (¬ p.1 ∧ c = p.2) ∨ (p.1 ∧ an l F c z)
theorem an.ag {F : Int → Prop} (hF : ∀ z1 z2, F z1 → F z2 → z1 = z2) : ∀ {l : List (Prop × Int)} {c1 z1 c2 z2 : Int}, (∀ p ∈ l, p.2 ≠ 0) → an l F c1 z1 → an l F c2 z2 → c1 = c2 ∧ (c1 = 0 → z1 = z2)
  | [], c1, z1, c2, z2, _, a, b => ⟨a.1.trans b.1.symm, fun _ => hF _ _ a.2 b.2⟩
  | p :: l, c1, z1, c2, z2, hk, a, b => by
    have h0 := hk p List.mem_cons_self
    rcases a with ⟨a1, a2⟩ | ⟨a1, a2⟩
    · rcases b with ⟨b1, b2⟩ | ⟨b1, b2⟩
      · exact ⟨a2.trans b2.symm, fun e => absurd (a2.symm.trans e) h0⟩
      · exact absurd b1 a1
    · rcases b with ⟨b1, b2⟩ | ⟨b1, b2⟩
      · exact absurd a1 b1
      · exact an.ag hF (fun q hq => hk q (List.mem_cons_of_mem _ hq)) a2 b2
/-- the class's call: its answer, or what is thrown and the code that the law makes of it -/
def cA (cd : Nat → Int) (A : Int → Int → Prop) (r : mj_R) : Prop := match r.1 with
  | .inl v => ∃ z : Int, jr z ∧ v = some (.int (jn z)) ∧ A 0 z
  | .inr k => ∀ z, A (cd k) z
/-- the reference's call: its answer, and what it has thrown -/
def rZa (P : SP) (A : Int → Int → Prop) (tm er : Int) (T : Nat → Int) (r : mj_R) : Prop := ∃ (c z : Int) (N' : Nat → Int) (u' : Nat) (H' : Nat → Nat → Int), A c z ∧ jr z ∧ r.1 = .inl (some (.int (jn z))) ∧ P N' u' H' ∧ jItx N' u' H' c tm er T r.2
/-- both sides hold the same, and the reference has thrown c -/
def YXt (c tm er : Int) (T : Nat → Int) (h : mj_H) : Prop := ∃ (N : Nat → Int) (u : Nat) (H : Nat → Nat → Int) (hr : mj_H), cC N u H h ∧ jEm 563 hr h ∧ jItx N u H c tm er T hr
theorem YXt.to {c tm er : Int} {T : Nat → Int} {h : mj_H} (y : YXt c tm er T h) : YX tm er T h := by
  obtain ⟨N, u, H, hr, a, b, k⟩ := y
  exact ⟨N, u, H, hr, a, b, k.to⟩
section YXA
variable {hr h : mj_H} {tm er c : Int} {T : Nat → Int}
theorem YXt.thrown {D : Nat} (y : YXt c tm er T h) : mj_Ok (D + 1) 175 [.ref 563] h (fun r => r = (.inl (some (.int (jn c))), h)) := by
  obtain ⟨N, u, H, hr, _, ⟨_, _, _, E⟩, ⟨S, N1, B, X, V, ⟨bg, ov, db, sv, rfl⟩, K, e⟩⟩ := y
  have h1 := E 0 _ rfl
  refine mj_Ok.of (M := mj_m175) rfl rfl rfl ?_
  refine mj_T.pl rfl rfl rfl rfl ?_
  refine mj_T.gfl (v := .int (jn c)) rfl h1 (by rw [← e]; rfl) ?_
  exact mj_T.ret rfl rfl rfl rfl
end YXA


/-! Answers of the calls that change registers, in one form. -/
theorem itR.oneD {N : Nat → Int} (g : gN N) {w1 w2 : Nat → Int} {D1 D2 : Int} (a : itR N w1 D1) (b : itR N w2 D2) : D1 = D2 := by
  obtain ⟨M1, a0, a1, a2, a3, a4⟩ := a
  obtain ⟨M2, b0, b1, b2, b3, b4⟩ := b
  have hlin := itp_lin (Y := fun i => N (85 + i)) a1 b1 (wgt_N g) (N 78).toNat (Nat.le_refl _)
  have hx : ∀ j, j < 13 → D2 * w1 j = D1 * w2 j := fun j hj => by
    have e1 := a2 j hj
    have e2 := b2 j hj
    have e3 := hlin j
    generalize itp (fun i => N (79 + i)) (fun i => N (85 + i)) M1 (N 78).toNat (N 78).toNat j = I1 at e1 e3
    generalize itp (fun i => N (79 + i)) (fun i => N (85 + i)) M2 (N 78).toNat (N 78).toNat j = I2 at e2 e3
    have hne : M1 * M2 ≠ 0 := Int.mul_ne_zero (by omega) (by omega)
    refine Int.eq_of_mul_eq_mul_left hne ?_
    have l1 : M1 * M2 * (D2 * w1 j) = D1 * D2 * (M2 * I1) := by
      rw [show M1 * M2 * (D2 * w1 j) = M2 * D2 * (M1 * w1 j) by ac_rfl, e1]
      ac_rfl
    have l2 : M1 * M2 * (D1 * w2 j) = D1 * D2 * (M1 * I2) := by
      rw [show M1 * M2 * (D1 * w2 j) = M1 * D1 * (M2 * w2 j) by ac_rfl, e2]
      ac_rfl
    rw [l1, l2, e3]
  have n1 : D1 = ((D1.natAbs : Nat) : Int) := by omega
  have n2 : D2 = ((D2.natAbs : Nat) : Int) := by omega
  have d1 : D1.natAbs ∣ D2.natAbs := cp_dvd a4 (fun j hj => by rw [← n1, ← n2]; exact hx j hj)
  have d2 : D2.natAbs ∣ D1.natAbs := cp_dvd b4 (fun j hj => by rw [← n1, ← n2]; exact (hx j hj).symm)
  have de : D1.natAbs = D2.natAbs := Nat.dvd_antisymm d1 d2
  omega
theorem an.e {z : Int} {F : Int → Prop} (h : F z) : an [] F 0 z := ⟨rfl, h⟩
abbrev rg2 (a b : Int) : Prop := (0 ≤ a ∧ a ≤ 5) ∧ (0 ≤ b ∧ b ≤ 5)
abbrev rg3 (a b c : Int) : Prop := (0 ≤ a ∧ a ≤ 5) ∧ (0 ≤ b ∧ b ≤ 5) ∧ (0 ≤ c ∧ c ≤ 5)
/-- the degree of what is laid -/
def dgF (R : Nat → Int) (z : Int) : Prop := z = (fdg R 13 : Int) - 1
theorem dgF.of {R w : Nat → Int} (h : ∀ j, j < 13 → w j = R j) : dgF R ((fdg w 13 : Int) - 1) := by
  unfold dgF
  rw [fdg_congr 13 h]
theorem dgF.one {R : Nat → Int} (z1 z2 : Int) (a : dgF R z1) (b : dgF R z2) : z1 = z2 := a.trans b.symm
abbrev A_sum (N : Nat → Int) (f to a b : Int) : Int → Int → Prop := an [(rg3 to a b, 1), (sml (sumN N f a b), 2)] (dgF (sumN N f a b))
abbrev A_multiply (N : Nat → Int) (to a b : Int) : Int → Int → Prop := an [(rg3 to a b, 1), (fit13 (pz_mul (rwN N a) (rwN N b)), 2)] (dgF (pz_mul (rwN N a) (rwN N b)))
abbrev A_power (N : Nat → Int) (to a e : Int) : Int → Int → Prop := an [(rg2 to a, 1), (0 ≤ e ∧ e ≤ 12, 2), (fit13 (pw (rwN N a) e.toNat), 3)] (dgF (pw (rwN N a) e.toNat))
abbrev A_derive (N : Nat → Int) (to a : Int) : Int → Int → Prop := an [(rg2 to a, 1), (sml (drN N a), 2)] (dgF (drN N a))
abbrev A_substitute (N : Nat → Int) (to a b : Int) : Int → Int → Prop := an [(rg3 to a b, 1), (fit13 (hw (rwN N a) (rwN N b) 13), 2)] (dgF (hw (rwN N a) (rwN N b) 13))
abbrev A_divide (N : Nat → Int) (x y z u : Int) : Int → Int → Prop := an [((0 ≤ x ∧ x ≤ 5) ∧ (0 ≤ y ∧ y ≤ 5) ∧ (0 ≤ z ∧ z ≤ 5) ∧ (0 ≤ u ∧ u ≤ 5), 1), (x ≠ y, 2), (0 < fdg (rwN N u) 13, 3), (fit13 (dvQ (rwN N z) (rwN N u)) ∧ fit13 (dvT (rwN N z) (rwN N u)), 4)] (fun v => v = ((fdg (rwN N z) 13 - (fdg (rwN N u) 13 - 1) : Nat) : Int))
abbrev A_gcd (N : Nat → Int) (to a b : Int) : Int → Int → Prop := an [(rg3 to a b, 1), (∃ R, gcR (rwN N a) (rwN N b) R ∧ fit13 R, 2)] (fun v => ∃ R, gcR (rwN N a) (rwN N b) R ∧ dgF R v)
abbrev A_primitive (N : Nat → Int) (to a : Int) : Int → Int → Prop := an [(rg2 to a, 1), (fit13 (ppr (rwN N a)), 2)] (dgF (ppr (rwN N a)))
abbrev A_simple (N : Nat → Int) (to a : Int) : Int → Int → Prop := an [(rg2 to a, 1), (0 < fdg (rwN N a) 13, 2), (∃ S, smR (rwN N a) S ∧ fit13 S, 3)] (fun v => ∃ S, smR (rwN N a) S ∧ dgF S v)
abbrev A_residue (N : Nat → Int) (to a p : Int) : Int → Int → Prop := an [(rg2 to a, 1), (prm p, 2)] (dgF (fun j => rwN N a j % p))
abbrev A_setTerm (N : Nat → Int) (to e x : Int) : Int → Int → Prop := an [(0 ≤ to ∧ to ≤ 5, 1), (0 ≤ e ∧ e ≤ 12, 2), (-999999999999999999 ≤ x ∧ x ≤ 999999999999999999, 3)] (dgF (fun j => if j = e.toNat then x else rwN N to j))
abbrev A_addPoint (N : Nat → Int) (x y : Int) : Int → Int → Prop := an [((-9 ≤ x ∧ x ≤ 9) ∧ (-999 ≤ y ∧ y ≤ 999), 1), (N 78 ≠ 6 ∧ ∀ j : Nat, (j : Int) < N 78 → N (79 + j) ≠ x, 2)] (fun v => v = (((N 78).toNat + 1 : Nat) : Int))
abbrev A_read (T : Nat → Int) (tm : Nat) (to : Int) : Int → Int → Prop := an [(0 ≤ to ∧ to ≤ 5, 1), (rdErr T tm = -1, 2), (∃ P, rdV T tm = some P, 3)] (fun v => ∃ P, rdV T tm = some P ∧ dgF P v)
section AAG
variable {N : Nat → Int} {c1 z1 c2 z2 : Int}
theorem A_sum.ag {f to a b : Int} (p : A_sum N f to a b c1 z1) (q : A_sum N f to a b c2 z2) : c1 = c2 ∧ (c1 = 0 → z1 = z2) := an.ag dgF.one (by simp) p q
theorem A_multiply.ag {to a b : Int} (p : A_multiply N to a b c1 z1) (q : A_multiply N to a b c2 z2) : c1 = c2 ∧ (c1 = 0 → z1 = z2) := an.ag dgF.one (by simp) p q
theorem A_power.ag {to a b : Int} (p : A_power N to a b c1 z1) (q : A_power N to a b c2 z2) : c1 = c2 ∧ (c1 = 0 → z1 = z2) := an.ag dgF.one (by simp) p q
theorem A_derive.ag {to a : Int} (p : A_derive N to a c1 z1) (q : A_derive N to a c2 z2) : c1 = c2 ∧ (c1 = 0 → z1 = z2) := an.ag dgF.one (by simp) p q
theorem A_substitute.ag {to a b : Int} (p : A_substitute N to a b c1 z1) (q : A_substitute N to a b c2 z2) : c1 = c2 ∧ (c1 = 0 → z1 = z2) := an.ag dgF.one (by simp) p q
theorem A_divide.ag {x y z u : Int} (p : A_divide N x y z u c1 z1) (q : A_divide N x y z u c2 z2) : c1 = c2 ∧ (c1 = 0 → z1 = z2) := an.ag (fun _ _ a b => a.trans b.symm) (by simp) p q
theorem A_gcd.ag {to a b : Int} (p : A_gcd N to a b c1 z1) (q : A_gcd N to a b c2 z2) : c1 = c2 ∧ (c1 = 0 → z1 = z2) := an.ag (fun z1 z2 a b => by
  obtain ⟨R1, a1, a2⟩ := a
  obtain ⟨R2, b1, b2⟩ := b
  have e := gcR.one a1 b1
  subst e
  exact dgF.one _ _ a2 b2) (by simp) p q
theorem A_primitive.ag {to a : Int} (p : A_primitive N to a c1 z1) (q : A_primitive N to a c2 z2) : c1 = c2 ∧ (c1 = 0 → z1 = z2) := an.ag dgF.one (by simp) p q
theorem A_simple.ag {to a : Int} (p : A_simple N to a c1 z1) (q : A_simple N to a c2 z2) : c1 = c2 ∧ (c1 = 0 → z1 = z2) := an.ag (fun z1 z2 a b => by
  obtain ⟨R1, a1, a2⟩ := a
  obtain ⟨R2, b1, b2⟩ := b
  have e := smR.one a1 b1
  subst e
  exact dgF.one _ _ a2 b2) (by simp) p q
theorem A_residue.ag {to a b : Int} (p : A_residue N to a b c1 z1) (q : A_residue N to a b c2 z2) : c1 = c2 ∧ (c1 = 0 → z1 = z2) := an.ag dgF.one (by simp) p q
theorem A_setTerm.ag {to a b : Int} (p : A_setTerm N to a b c1 z1) (q : A_setTerm N to a b c2 z2) : c1 = c2 ∧ (c1 = 0 → z1 = z2) := an.ag dgF.one (by simp) p q
theorem A_addPoint.ag {a b : Int} (p : A_addPoint N a b c1 z1) (q : A_addPoint N a b c2 z2) : c1 = c2 ∧ (c1 = 0 → z1 = z2) := an.ag (fun _ _ a b => a.trans b.symm) (by simp) p q
theorem A_read.ag {T : Nat → Int} {tm : Nat} {to : Int} (p : A_read T tm to c1 z1) (q : A_read T tm to c2 z2) : c1 = c2 ∧ (c1 = 0 → z1 = z2) := an.ag (fun z1 z2 a b => by
  obtain ⟨R1, a1, a2⟩ := a
  obtain ⟨R2, b1, b2⟩ := b
  rw [a1] at b1
  cases b1
  exact dgF.one _ _ a2 b2) (by simp) p q
end AAG
section ARF
variable {h : mj_H} {u : Nat} {N : Nat → Int} {H : Nat → Nat → Int} {tm er : Int} {T : Nat → Int}
theorem rZa.mono {P P' : SP} {A : Int → Int → Prop} {r : mj_R} (k : rZa P A tm er T r) (hp : ∀ N u H, P N u H → P' N u H) : rZa P' A tm er T r := by
  obtain ⟨c, z, N', u', H', a, b, d, e, f⟩ := k
  exact ⟨c, z, N', u', H', a, b, d, hp _ _ _ e, f⟩
end ARF
abbrev A_interpolate (N : Nat → Int) (to : Int) : Int → Int → Prop := an [(0 ≤ to ∧ to ≤ 5, 1), (∃ (w : Nat → Int) (D : Int), itR N w D ∧ sml w, 2)] (fun v => ∃ w : Nat → Int, itR N w v)
theorem A_interpolate.ag {N : Nat → Int} (g : gN N) {to c1 z1 c2 z2 : Int} (p : A_interpolate N to c1 z1) (q : A_interpolate N to c2 z2) : c1 = c2 ∧ (c1 = 0 → z1 = z2) := an.ag (fun z1 z2 a b => by
  obtain ⟨w1, a1⟩ := a
  obtain ⟨w2, b1⟩ := b
  exact itR.oneD g a1 b1) (by simp) p q
/-! Answers of the calls that only read: the class. -/
/-- how many of the first are not 0 -/
def tmc (f : Nat → Int) : Nat → Nat
  | 0 => 0
  | k + 1 => if f k = 0 then tmc f k else tmc f k + 1
theorem tmc_z {f : Nat → Int} {k : Nat} (h : f k = 0) : tmc f (k + 1) = tmc f k := if_pos h
theorem tmc_s {f : Nat → Int} {k : Nat} (h : f k ≠ 0) : tmc f (k + 1) = tmc f k + 1 := if_neg h
theorem tmc_mono {f : Nat → Int} {a : Nat} : ∀ b, a ≤ b → tmc f a ≤ tmc f b
  | 0, h => by rw [show a = 0 by omega]; exact Nat.le_refl _
  | b + 1, h => by
    by_cases q : a = b + 1
    · rw [q]
      exact Nat.le_refl _
    · have h1 := tmc_mono (f := f) (a := a) b (by omega)
      by_cases z : f b = 0
      · rw [tmc_z z]
        exact h1
      · rw [tmc_s z]
        omega
/-- the exponent of the t-th term from above -/
def exF (R : Nat → Int) (t z : Int) : Prop := ∃ e : Nat, z = (e : Int) ∧ e < 13 ∧ R e ≠ 0 ∧ (tmc R 13 : Int) - tmc R (e + 1) = t
theorem exF.one {R : Nat → Int} {t : Int} (z1 z2 : Int) (a : exF R t z1) (b : exF R t z2) : z1 = z2 := by
  obtain ⟨e1, a1, a2, a3, a4⟩ := a
  obtain ⟨e2, b1, b2, b3, b4⟩ := b
  rcases Nat.lt_trichotomy e1 e2 with c | c | c
  · have h1 := tmc_mono (f := R) (a := e1 + 1) e2 (by omega)
    have h2 := tmc_s b3
    omega
  · omega
  · have h1 := tmc_mono (f := R) (a := e2 + 1) e1 (by omega)
    have h2 := tmc_s a3
    omega
abbrev A_degree (N : Nat → Int) (a : Int) : Int → Int → Prop := an [(0 ≤ a ∧ a ≤ 5, 1)] (dgF (rwN N a))
abbrev A_terms (N : Nat → Int) (a : Int) : Int → Int → Prop := an [(0 ≤ a ∧ a ≤ 5, 1)] (fun z => z = ((tmc (rwN N a) 13 : Nat) : Int))
abbrev A_exponent (N : Nat → Int) (a t : Int) : Int → Int → Prop := an [((0 ≤ a ∧ a ≤ 5) ∧ 0 ≤ t ∧ t < (tmc (rwN N a) 13 : Int), 1)] (exF (rwN N a) t)
abbrev A_coefficient (N : Nat → Int) (a e : Int) : Int → Int → Prop := an [(0 ≤ a ∧ a ≤ 5, 1), (0 ≤ e ∧ e ≤ 12, 2)] (fun z => z = jsg (rwN N a e.toNat))
abbrev A_content (N : Nat → Int) (a : Int) : Int → Int → Prop := an [(0 ≤ a ∧ a ≤ 5, 1)] (fun z => z = jsg ((cgd (rwN N a) 13 : Nat) : Int))
def smF (f f' : Nat → Int) (z : Int) : Prop := (z = 1 ∧ ∀ j, j < 13 → f j = f' j) ∨ (z = 0 ∧ ¬ ∀ j, j < 13 → f j = f' j)
theorem smF.one {f f' : Nat → Int} (z1 z2 : Int) (a : smF f f' z1) (b : smF f f' z2) : z1 = z2 := by
  rcases a with ⟨a1, a2⟩ | ⟨a1, a2⟩
  · rcases b with ⟨b1, b2⟩ | ⟨b1, b2⟩
    · omega
    · exact absurd a2 b2
  · rcases b with ⟨b1, b2⟩ | ⟨b1, b2⟩
    · exact absurd b2 a2
    · omega
abbrev A_areSame (N : Nat → Int) (a b : Int) : Int → Int → Prop := an [(rg2 a b, 1)] (smF (rwN N a) (rwN N b))
section ARG
variable {N : Nat → Int} {c1 z1 c2 z2 : Int}
theorem A_degree.ag {a : Int} (p : A_degree N a c1 z1) (q : A_degree N a c2 z2) : c1 = c2 ∧ (c1 = 0 → z1 = z2) := an.ag dgF.one (by simp) p q
theorem A_terms.ag {a : Int} (p : A_terms N a c1 z1) (q : A_terms N a c2 z2) : c1 = c2 ∧ (c1 = 0 → z1 = z2) := an.ag (fun _ _ a b => a.trans b.symm) (by simp) p q
theorem A_exponent.ag {a t : Int} (p : A_exponent N a t c1 z1) (q : A_exponent N a t c2 z2) : c1 = c2 ∧ (c1 = 0 → z1 = z2) := an.ag exF.one (by simp) p q
theorem A_coefficient.ag {a e : Int} (p : A_coefficient N a e c1 z1) (q : A_coefficient N a e c2 z2) : c1 = c2 ∧ (c1 = 0 → z1 = z2) := an.ag (fun _ _ a b => a.trans b.symm) (by simp) p q
theorem A_content.ag {a : Int} (p : A_content N a c1 z1) (q : A_content N a c2 z2) : c1 = c2 ∧ (c1 = 0 → z1 = z2) := an.ag (fun _ _ a b => a.trans b.symm) (by simp) p q
theorem A_areSame.ag {a b : Int} (p : A_areSame N a b c1 z1) (q : A_areSame N a b c2 z2) : c1 = c2 ∧ (c1 = 0 → z1 = z2) := an.ag smF.one (by simp) p q
end ARG

/-! rootsBy, rootBy: answers on both sides. -/
theorem A_areSame.b {N : Nat → Int} {a b z : Int} (p : A_areSame N a b 0 z) : z = 0 ∨ z = 1 := by
  rcases p with ⟨_, e⟩ | ⟨_, _, ⟨e, _⟩ | ⟨e, _⟩⟩
  · exact absurd (show (0 : Int) = 1 from e) (by decide)
  · exact Or.inr e
  · exact Or.inl e
/-- Horner's rule by p, m coefficients to come -/
def hrv (f : Nat → Int) (x p : Int) : Nat → Int → Int
  | 0, v => v
  | m + 1, v => hrv f x p m ((v * x + f m % p) % p)
/-- how many of the first are roots by p -/
def rbc (f : Nat → Int) (p : Int) : Nat → Nat
  | 0 => 0
  | k + 1 => if hrv f (k : Int) p 13 0 = 0 then rbc f p k + 1 else rbc f p k
def rtF (f : Nat → Int) (p z : Int) : Prop := ∃ x : Nat, z = (x : Int) ∧ (x : Int) < p ∧ hrv f (x : Int) p 13 0 = 0 ∧ ∀ y : Nat, y < x → hrv f (y : Int) p 13 0 ≠ 0
theorem rtF.one {f : Nat → Int} {p : Int} (z1 z2 : Int) (a : rtF f p z1) (b : rtF f p z2) : z1 = z2 := by
  obtain ⟨x1, a1, a2, a3, a4⟩ := a
  obtain ⟨x2, b1, b2, b3, b4⟩ := b
  rcases Nat.lt_trichotomy x1 x2 with c | c | c
  · exact absurd a3 (b4 x1 c)
  · omega
  · exact absurd b3 (a4 x2 c)
abbrev A_rootsBy (N : Nat → Int) (a p : Int) : Int → Int → Prop := an [(0 ≤ a ∧ a ≤ 5, 1), (prm p, 2)] (fun z => z = ((rbc (rwN N a) p p.toNat : Nat) : Int))
abbrev A_rootBy (N : Nat → Int) (a p : Int) : Int → Int → Prop := an [(0 ≤ a ∧ a ≤ 5, 1), (prm p, 2), (∃ x : Nat, (x : Int) < p ∧ hrv (rwN N a) (x : Int) p 13 0 = 0, 3)] (rtF (rwN N a) p)
section ARB
variable {N : Nat → Int} {c1 z1 c2 z2 : Int}
theorem A_rootsBy.ag {a p : Int} (x : A_rootsBy N a p c1 z1) (y : A_rootsBy N a p c2 z2) : c1 = c2 ∧ (c1 = 0 → z1 = z2) := an.ag (fun _ _ a b => a.trans b.symm) (by simp) x y
theorem A_rootBy.ag {a p : Int} (x : A_rootBy N a p c1 z1) (y : A_rootBy N a p c2 z2) : c1 = c2 ∧ (c1 = 0 → z1 = z2) := an.ag rtF.one (by simp) x y
end ARB

/-! The value of a polynomial at a fraction, exactly. -/
def hpv (f : Nat → Int) (x : Int) : Nat → Int → Int
  | 0, v => v
  | m + 1, v => hpv f x m (v * x + f m)
/-- the value at x / y, times the bottom to the degree -/
def vlz (f : Nat → Int) (x y : Int) : Int := hpv (fun e => f e * y ^ ((fdg f 13 - 1) - e)) x (fdg f 13) 0
/-! The value at a fraction: answers on both sides. -/
abbrev okfr (x y : Int) : Prop := (-1000 ≤ x ∧ x ≤ 1000) ∧ (1 ≤ y ∧ y ≤ 1000)
abbrev A_value (N : Nat → Int) (a x y : Int) : Int → Int → Prop := an [(0 ≤ a ∧ a ≤ 5, 1), (okfr x y, 2)] (fun z => z = jsg (vlz (rwN N a) x y))
theorem A_value.ag {N : Nat → Int} {a x y c1 z1 c2 z2 : Int} (p : A_value N a x y c1 z1) (q : A_value N a x y c2 z2) : c1 = c2 ∧ (c1 = 0 → z1 = z2) := an.ag (fun _ _ a b => a.trans b.symm) (by simp) p q
def agc (f f' : Nat → Int) : Nat → Nat
  | 0 => 0
  | k + 1 => if hpv f (k : Int) 13 0 = hpv f' (k : Int) 13 0 then agc f f' k + 1 else agc f f' k
def agd (f f' : Nat → Int) : Nat := max 1 (max (fdg f 13) (fdg f' 13))
abbrev A_agreements (N : Nat → Int) (a b : Int) : Int → Int → Prop := an [(rg2 a b, 1)] (fun z => z = ((agc (rwN N a) (rwN N b) (agd (rwN N a) (rwN N b)) : Nat) : Int))
theorem A_agreements.ag {N : Nat → Int} {a b c1 z1 c2 z2 : Int} (p : A_agreements N a b c1 z1) (q : A_agreements N a b c2 z2) : c1 = c2 ∧ (c1 = 0 → z1 = z2) := an.ag (fun _ _ a b => a.trans b.symm) (by simp) p q
/-! divides: answers on both sides. -/
abbrev dvZ (f f' : Nat → Int) : Prop := ∃ (Q : pz_P) (d : Nat), pz_lt Q d ∧ rw13 f' = pz_mul Q (rw13 f)
abbrev dvF (f f' : Nat → Int) (z : Int) : Prop := (z = 1 ∧ dvZ f f') ∨ (z = 0 ∧ ¬ dvZ f f')
theorem dvF.one {f f' : Nat → Int} (z1 z2 : Int) (a : dvF f f' z1) (b : dvF f f' z2) : z1 = z2 := by
  rcases a with ⟨a1, a2⟩ | ⟨a1, a2⟩
  · rcases b with ⟨b1, b2⟩ | ⟨b1, b2⟩
    · omega
    · exact absurd a2 b2
  · rcases b with ⟨b1, b2⟩ | ⟨b1, b2⟩
    · exact absurd b2 a2
    · omega
theorem dvF.cg {f f' f1 f2 : Nat → Int} (h : ∀ j, j < 13 → f j = f1 j) (h2 : ∀ j, j < 13 → f' j = f2 j) {z : Int} (p : dvF f f' z) : dvF f1 f2 z := by
  have e1 := rw13_cg h
  have e2 := rw13_cg h2
  unfold dvF dvZ at p ⊢
  rw [← e1, ← e2]
  exact p
abbrev A_divides (N : Nat → Int) (a b : Int) : Int → Int → Prop := an [(rg2 a b, 1)] (dvF (rwN N a) (rwN N b))
theorem A_divides.ag {N : Nat → Int} {a b c1 z1 c2 z2 : Int} (p : A_divides N a b c1 z1) (q : A_divides N a b c2 z2) : c1 = c2 ∧ (c1 = 0 → z1 = z2) := an.ag dvF.one (by simp) p q
theorem A_divides.b {N : Nat → Int} {a b z : Int} (p : A_divides N a b 0 z) : z = 0 ∨ z = 1 := by
  rcases p with ⟨_, e⟩ | ⟨_, _, ⟨e, _⟩ | ⟨e, _⟩⟩
  · exact absurd (show (0 : Int) = 1 from e) (by decide)
  · exact Or.inr e
  · exact Or.inl e
/-! A polynomial as a text. -/
/-- the digits of a number, m of them -/
def dgl (v : Nat) : Nat → List Int
  | 0 => []
  | m + 1 => (48 + ((v / 10 ^ m % 10 : Nat) : Int)) :: dgl v m
theorem dgl_len (v : Nat) : ∀ m, (dgl v m).length = m
  | 0 => rfl
  | m + 1 => congrArg (fun x : Nat => x + 1) (dgl_len v m)
def kfd (v : Nat) : Nat → Nat → Nat
  | 0, k => k
  | d + 1, k => if v / 10 ^ k < 10 then k else kfd v d (k + 1)
theorem kfd_b (v : Nat) : ∀ d k, k ≤ kfd v d k ∧ kfd v d k ≤ k + d
  | 0, k => ⟨Nat.le_refl _, Nat.le_refl _⟩
  | d + 1, k => by
    have h := kfd_b v d (k + 1)
    unfold kfd
    split
    · exact ⟨Nat.le_refl _, by omega⟩
    · exact ⟨by omega, by omega⟩
def nmN (v : Nat) : Nat := kfd v 17 0 + 1
def nmL (v : Nat) : List Int := dgl v (nmN v)
theorem nmL_len (v : Nat) : (nmL v).length = nmN v := dgl_len v _
theorem nmN_b (v : Nat) : 1 ≤ nmN v ∧ nmN v ≤ 18 := by
  have h := kfd_b v 17 0
  unfold nmN
  omega
theorem nmN_2 : ∀ e, e < 13 → nmN e ≤ 2 := by decide
/-- a term without its sign -/
def tmL (c : Int) (e : Nat) : List Int := (if c.natAbs = 1 ∧ e ≠ 0 then [] else nmL c.natAbs ++ (if 0 < e then [42] else [])) ++ ((if 0 < e then [120] else []) ++ (if 1 < e then 94 :: nmL e else []))
def tmN (c : Int) (e : Nat) : Nat := (if c.natAbs = 1 ∧ e ≠ 0 then 0 else nmN c.natAbs + (if 0 < e then 1 else 0)) + ((if 0 < e then 1 else 0) + (if 1 < e then nmN e + 1 else 0))
theorem tmL_len (c : Int) (e : Nat) : (tmL c e).length = tmN c e := by
  unfold tmL tmN
  rw [List.length_append, List.length_append]
  congr 1
  · split
    · rfl
    · rw [List.length_append, nmL_len]
      split <;> rfl
  · congr 1
    · split <;> rfl
    · split
      · rw [List.length_cons, nmL_len]
      · rfl
theorem tmN_b (c : Int) {e : Nat} (he : e < 13) : tmN c e ≤ 23 := by
  have h1 := nmN_b c.natAbs
  have h2 := nmN_2 e he
  unfold tmN
  (repeat' split) <;> omega
def sgL (c : Int) (w : Nat) : List Int := if w = 0 then (if c < 0 then [45] else []) else [32, if c < 0 then 45 else 43, 32]
def sgN (c : Int) (w : Nat) : Nat := if w = 0 then (if c < 0 then 1 else 0) else 3
theorem sgL_len (c : Int) (w : Nat) : (sgL c w).length = sgN c w := by
  unfold sgL sgN
  split
  · split <;> rfl
  · rfl
theorem sgN_b (c : Int) (w : Nat) : sgN c w ≤ 3 := by
  unfold sgN
  (repeat' split) <;> omega
/-- the terms of the exponents below m, behind what stands -/
def rwL (f : Nat → Int) : Nat → List Int → List Int
  | 0, L => L
  | m + 1, L => rwL f m (if f m = 0 then L else L ++ (sgL (f m) L.length ++ tmL (f m) m))
def rlN (f : Nat → Int) : Nat → Nat → Nat
  | 0, w => w
  | m + 1, w => rlN f m (if f m = 0 then w else w + (sgN (f m) w + tmN (f m) m))
theorem rwL_len (f : Nat → Int) : ∀ m L, (rwL f m L).length = rlN f m L.length
  | 0, L => rfl
  | m + 1, L => by
    show (rwL f m _).length = rlN f m _
    rw [rwL_len f m]
    congr 1
    split
    · rfl
    · rw [List.length_append, List.length_append, sgL_len, tmL_len]
theorem rlN_b (f : Nat → Int) : ∀ m w, m ≤ 13 → w ≤ rlN f m w ∧ rlN f m w ≤ w + 26 * m
  | 0, w, _ => ⟨Nat.le_refl _, Nat.le_refl _⟩
  | m + 1, w, hm => by
    have h1 := tmN_b (f m) (show m < 13 by omega)
    have h2 := sgN_b (f m) w
    have h := rlN_b f m (if f m = 0 then w else w + (sgN (f m) w + tmN (f m) m)) (by omega)
    show w ≤ rlN f m _ ∧ rlN f m _ ≤ _
    generalize rlN f m (if f m = 0 then w else w + (sgN (f m) w + tmN (f m) m)) = y at h
    split at h <;> omega
def wrL (f : Nat → Int) : List Int := if rwL f 13 [] = [] then [48] else rwL f 13 []
def wrN (f : Nat → Int) : Nat := if rlN f 13 0 = 0 then 1 else rlN f 13 0
theorem wrL_len (f : Nat → Int) : (wrL f).length = wrN f := by
  have h := rwL_len f 13 []
  have h : (rwL f 13 []).length = rlN f 13 0 := h
  unfold wrL wrN
  by_cases q : rwL f 13 [] = []
  · rw [if_pos q]
    rw [q] at h
    rw [if_pos (by rw [← h]; rfl)]
    rfl
  · rw [if_neg q, if_neg (fun y => q (List.length_eq_zero_iff.mp (h.trans y)))]
    exact h
abbrev A_write (N : Nat → Int) (a : Int) : Int → Int → Prop := an [(0 ≤ a ∧ a ≤ 5, 1)] (fun z => z = ((wrN (rwN N a) : Nat) : Int))
theorem A_write.ag {N : Nat → Int} {a c1 z1 c2 z2 : Int} (p : A_write N a c1 z1) (q : A_write N a c2 z2) : c1 = c2 ∧ (c1 = 0 → z1 = z2) := an.ag (fun _ _ a b => a.trans b.symm) (by simp) p q
/-- the text t of the class holds L -/
def txt (X : Nat → Nat → Int) (t : Nat) (L : List Int) : Prop := X t 1 = ((L.length : Nat) : Int) ∧ ∀ j c, L[j]? = some c → X (t + 1) j = c
theorem tx_b8 : ∀ k, k < 128 → (jn ((k : Nat) : Int)).toInt8.toInt32 = jn ((k : Nat) : Int) := by decide
section MTZ
variable {g h : mj_H} {n D pc r1 r2 r3 r4 r5 : Nat} {V : Nat → Int} {X : Nat → Nat → Int} {M : mj_M} {loc : mj_L} {st : List Value} {Q : mj_R → Prop}
theorem jM.B (m : jM g n V X h) {a : Nat} (ka : cK a = 3) : h[a]? = some (.inl (2, cL a, fun j => .int (jn (X a j)))) := by
  have q := m.2.2 a
  unfold jMk at q
  rw [ka, if_neg (by omega), if_neg (by omega), if_neg (by omega), if_neg (by omega), if_neg (by omega), if_pos rfl] at q
  exact q
theorem jM.setB (m : jM g n V X h) {a i : Nat} {v : Int} (ka : cK a = 3) : jM g n V (xup X a i v) (h.set a (.inl (2, cL a, fun j => .int (if j = i then jn v else jn (X a j))))) := by
  have hl := (List.getElem?_eq_some_iff.mp (m.B ka)).1
  refine m.up (fun x => x = a) (by rw [List.length_set]) (fun x hx => by subst hx; rw [ka]; decide) (fun p hp => List.getElem?_set_ne (fun e => hp e.symm)) (fun _ _ => rfl) (fun x hx => funext fun j => xup_ne _ _ (Or.inl hx)) (fun x hx => ?_) (fun x hx => ?_)
  · constructor
    · intro e
      subst e
      omega
    · intro e
      have p2 := (mK_w hx).1
      rw [e] at p2
      omega
  · subst hx
    unfold jMk
    rw [ka, if_neg (by omega), if_neg (by omega), if_neg (by omega), if_neg (by omega), if_neg (by omega), if_pos rfl, List.getElem?_set_self hl]
    congr 4
    funext j
    unfold xup
    by_cases q : j = i
    · rw [if_pos q, if_pos ⟨rfl, q⟩]
    · rw [if_neg q, if_neg (fun w => q w.2)]
theorem mT_bast (m : jM g n V X h) {a i k : Nat} (ka : cK a = 3) (hc : M.2.2.2.2.1 pc = some (.bastore, r1, r2, r3, r4, r5)) (hi : i < cL a) (h1 : cL a ≤ 1000) (hk : k < 128) (q : ∀ h', jM g n V (xup X a i (k : Int)) h' → mj_T D M (pc + 1) loc st h' Q) : mj_T D M pc loc (.int (jn (k : Int)) :: .int (jn (i : Int)) :: .ref a :: st) h Q := by
  have hj : jr (i : Int) := ⟨by omega, by omega⟩
  have h2 : mj_in (jn (i : Int)) (cL a) = true := by
    rw [jn_in hj]
    exact decide_eq_true ⟨by omega, by omega⟩
  have h3 := m.B ka
  have h4 := tx_b8 k hk
  have k9 := m.setB (i := i) (v := (k : Int)) ka
  refine mj_T.step hc rfl (by simp only [mj_step, h3, h2, h4, true_and, if_true]; rfl) (q _ ?_)
  rw [jn_nat (show (0 : Int) ≤ (i : Int) by omega) hj, Int.toNat_natCast]
  have e : (updV (fun j => Value.int (jn (X a j))) i (Value.int (jn (k : Int)))) = fun j => Value.int (if j = i then jn (k : Int) else jn (X a j)) := funext fun j => by
    unfold updV
    split <;> rfl
  rw [e]
  exact k9
end MTZ
section MTZ2
variable {g h : mj_H} {n D t r : Nat} {V : Nat → Int} {X : Nat → Nat → Int} {N : Nat → Int} {H : Nat → Nat → Int} {u : Nat}
theorem mX_80 (m : jM g n V X h) (q : isT t) {L : List Int} (x : txt X t L) (hl : L.length < 340) {s : Nat} (hs : s < 128) : mj_Ok (D + 1) 80 [.ref t, .int (jn (s : Int))] h (fun z => ∃ (X2 : Nat → Nat → Int) (h2 : mj_H), jM g n V X2 h2 ∧ txt X2 t (L ++ [(s : Int)]) ∧ (∀ c, c ≠ t → c ≠ t + 1 → X2 c = X c) ∧ z = (.inl none, h2)) := by
  have x1 := x.1
  have l4 : cL (t + 1) = 340 := q.2.2.2.1
  refine mj_Ok.of (M := mj_m80) rfl rfl rfl ?_
  refine mj_T.pl rfl rfl rfl rfl ?_
  refine mT_get m 17 q.1 (by decide) rfl rfl ?_
  rw [x1]
  refine mj_T.if0 (a := ((L.length : Nat) : Int)) rfl ⟨by omega, by omega⟩ (fun c1 => ?_) (fun c1 => ?_)
  · exfalso
    simp only [jc, Bool.not_eq_true', Bool.not_eq_false', decide_eq_true_eq, decide_eq_false_iff_not] at c1
    omega
  refine mj_T.pl rfl rfl rfl rfl ?_
  refine mT_get m 17 q.1 (by decide) rfl rfl ?_
  rw [x1]
  refine mj_T.pl rfl rfl rfl rfl ?_
  refine mT_get m 17 q.1 (by decide) rfl rfl ?_
  refine mj_T.alen rfl (m.B q.2.1) ?_
  rw [l4]
  refine mj_T.icmp (a := ((L.length : Nat) : Int)) (b := ((340 : Nat) : Int)) rfl ⟨by omega, by omega⟩ ⟨by omega, by omega⟩ (fun c2 => ?_) (fun c2 => ?_)
  · exfalso
    simp only [jc, Bool.not_eq_true', Bool.not_eq_false', decide_eq_true_eq, decide_eq_false_iff_not] at c2
    omega
  refine mj_T.pl rfl rfl rfl rfl ?_
  refine mT_get m 17 q.1 (by decide) rfl rfl ?_
  refine mj_T.pl rfl rfl rfl rfl ?_
  refine mT_get m 17 q.1 (by decide) rfl rfl ?_
  rw [x1]
  refine mj_T.pl rfl rfl rfl rfl ?_
  refine mj_T.step (st' := [.int (jn (s : Int)), .int (jn ((L.length : Nat) : Int)), .ref (t + 1)]) rfl rfl (by simp only [mj_step]; first | (rw [tx_b8 s hs]; done) | (rw [tx_b8 s hs]; rfl)) ?_
  refine mT_bast (a := t + 1) (i := L.length) m q.2.1 rfl (by omega) (by omega) hs (fun h1 m1 => ?_)
  iterate 2 refine mj_T.pl rfl rfl rfl rfl ?_
  refine mT_get m1 17 q.1 (by decide) rfl rfl ?_
  rw [show xup X (t + 1) L.length (s : Int) t 1 = ((L.length : Nat) : Int) from (xup_ne _ _ (Or.inl (by omega))).trans x1]
  refine mj_T.pl rfl rfl rfl rfl ?_
  refine mj_T.iadd (a := ((L.length : Nat) : Int)) (b := 1) rfl ?_
  rw [show ((L.length : Nat) : Int) + 1 = ((L.length + 1 : Nat) : Int) by omega]
  refine mT_put (v := ((L.length + 1 : Nat) : Int)) m1 17 q.1 (by decide) rfl (by simp [jMf, xup]) (by simp [jMf]) rfl (fun h2 m2 => ?_)
  refine mj_T.ret rfl rfl rfl ⟨_, _, m2, ⟨?_, fun j c hj => ?_⟩, fun c c1 c2 => ?_, rfl⟩
  · rw [xup_at, List.length_append]
    rfl
  · rw [xup_oth (show t + 1 ≠ t by omega)]
    by_cases y : j = L.length
    · rw [y, xup_at]
      rw [y, List.getElem?_append_right (Nat.le_refl _), Nat.sub_self] at hj
      exact Option.some.inj hj
    · rw [xup_ne _ _ (Or.inr y)]
      have hlt : j < L.length := by
        have h9 := (List.getElem?_eq_some_iff.mp hj).1
        rw [List.length_append] at h9
        have h8 : ([(s : Int)] : List Int).length = 1 := rfl
        omega
      rw [List.getElem?_append_left hlt] at hj
      exact x.2 j c hj
  · rw [xup_oth c1, xup_oth c2]
theorem mX_84_a {v K : Nat} (hv : v < 1000000000000000000) {Q : mj_R → Prop} (hend : mj_T D mj_m84 34 [some (.ref t), some (.long (jl (v : Int))), none, some (.long (jl ((10 ^ K : Nat) : Int))), none, some (.int (jn ((K : Nat) : Int)))] [] h Q) : ∀ d k, k + d = 17 → kfd v d k = K → mj_T D mj_m84 5 [some (.ref t), some (.long (jl (v : Int))), none, some (.long (jl ((10 ^ k : Nat) : Int))), none, some (.int (jn ((k : Nat) : Int)))] [] h Q
  | 0, k, hk, e => by
    obtain rfl : k = 17 := by omega
    have e : 17 = K := e
    subst e
    iterate 2 refine mj_T.pl rfl rfl rfl rfl ?_
    refine mj_T.icmp (a := ((17 : Nat) : Int)) (b := 18) rfl ⟨by omega, by omega⟩ ⟨by decide, by decide⟩ (fun hc => ?_) (fun hc => ?_)
    · simp [jc] at hc
    iterate 2 refine mj_T.pl rfl rfl rfl rfl ?_
    refine mj_T.ldiv (a := (v : Int)) (b := ((10 ^ 17 : Nat) : Int)) rfl ⟨by omega, by omega⟩ ⟨by omega, by omega⟩ (by omega) ?_
    rw [show (v : Int).tdiv ((10 ^ 17 : Nat) : Int) = ((v / 10 ^ 17 : Nat) : Int) from rfl]
    refine mj_T.pl rfl rfl rfl rfl ?_
    refine mj_T.lif (a := ((v / 10 ^ 17 : Nat) : Int)) (b := 10) rfl rfl ⟨by omega, by omega⟩ ⟨by decide, by decide⟩ (fun hc => ?_) (fun hc => ?_)
    · exact hend
    · simp only [jc, decide_eq_false_iff_not] at hc
      omega
  | d + 1, k, hk, e => by
    have hp0 : 0 < 10 ^ k := Nat.pow_pos (by decide)
    have hp1 : 10 ^ k ≤ 10 ^ 16 := Nat.pow_le_pow_right (by decide) (by omega)
    have hd := Nat.div_le_self v (10 ^ k)
    have hjy : jR ((v / 10 ^ k : Nat) : Int) := by
      generalize v / 10 ^ k = y at hd ⊢
      exact ⟨by omega, by omega⟩
    iterate 2 refine mj_T.pl rfl rfl rfl rfl ?_
    refine mj_T.icmp (a := ((k : Nat) : Int)) (b := 18) rfl ⟨by omega, by omega⟩ ⟨by decide, by decide⟩ (fun hc => ?_) (fun hc => ?_)
    · simp only [jc, decide_eq_true_eq] at hc
      omega
    iterate 2 refine mj_T.pl rfl rfl rfl rfl ?_
    refine mj_T.ldiv (a := (v : Int)) (b := ((10 ^ k : Nat) : Int)) rfl ⟨by omega, by omega⟩ ⟨by omega, by omega⟩ (by omega) ?_
    rw [show (v : Int).tdiv ((10 ^ k : Nat) : Int) = ((v / 10 ^ k : Nat) : Int) from rfl]
    refine mj_T.pl rfl rfl rfl rfl ?_
    refine mj_T.lif (a := ((v / 10 ^ k : Nat) : Int)) (b := 10) rfl rfl hjy ⟨by decide, by decide⟩ (fun hc => ?_) (fun hc => ?_)
    · simp only [jc, decide_eq_true_eq] at hc
      have e : (if v / 10 ^ k < 10 then k else kfd v d (k + 1)) = K := e
      rw [if_pos (by omega)] at e
      subst e
      exact hend
    · simp only [jc, decide_eq_false_iff_not] at hc
      have e : (if v / 10 ^ k < 10 then k else kfd v d (k + 1)) = K := e
      rw [if_neg (by omega)] at e
      iterate 2 refine mj_T.pl rfl rfl rfl rfl ?_
      refine mj_T.lmul (b := 10) rfl ?_
      rw [show ((10 ^ k : Nat) : Int) * 10 = ((10 ^ (k + 1) : Nat) : Int) by rw [Nat.pow_succ]; omega]
      refine mj_T.pl rfl rfl rfl rfl ?_
      refine mj_T.iinc (a := (k : Int)) rfl rfl ?_
      rw [show ((k : Nat) : Int) + 1 = ((k + 1 : Nat) : Int) by omega]
      refine mj_T.pl rfl rfl rfl rfl ?_
      exact mX_84_a hv hend d (k + 1) (by omega) e
theorem mX_84_b {v : Nat} (hv : v < 1000000000000000000) (q : isT t) {Q : mj_R → Prop} : ∀ (m i : Nat) (L : List Int) (X1 : Nat → Nat → Int) (h1 : mj_H), i + m ≤ 18 → L.length + m ≤ 340 → jM g n V X1 h1 → txt X1 t L → (∀ (X2 : Nat → Nat → Int) (h2 : mj_H), jM g n V X2 h2 → txt X2 t (L ++ dgl v m) → (∀ c, c ≠ t → c ≠ t + 1 → X2 c = X1 c) → Q (.inl none, h2)) → mj_T (D + 1) mj_m84 37 [some (.ref t), some (.long (jl (v : Int))), none, some (.long (jl ((if m = 0 then 0 else 10 ^ (m - 1) : Nat) : Int))), none, some (.int (jn ((i : Nat) : Int)))] [] h1 Q
  | 0, i, L, X1, h1, hi, hl, m, x, hend => by
    iterate 2 refine mj_T.pl rfl rfl rfl rfl ?_
    refine mj_T.icmp (a := ((i : Nat) : Int)) (b := 19) rfl ⟨by omega, by omega⟩ ⟨by decide, by decide⟩ (fun hc => ?_) (fun hc => ?_)
    · simp only [jc, decide_eq_true_eq] at hc
      omega
    rw [if_pos rfl]
    iterate 2 refine mj_T.pl rfl rfl rfl rfl ?_
    refine mj_T.lif (a := ((0 : Nat) : Int)) (b := 0) rfl rfl ⟨by decide, by decide⟩ ⟨by decide, by decide⟩ (fun hc => ?_) (fun hc => ?_)
    · exact mj_T.ret rfl rfl rfl (hend X1 h1 m (by rw [show L ++ dgl v 0 = L from List.append_nil L]; exact x) (fun _ _ _ => rfl))
    · simp [jc] at hc
  | m9 + 1, i, L, X1, h1, hi, hl, m, x, hend => by
    have hp0 : 0 < 10 ^ m9 := Nat.pow_pos (by decide)
    have hp1 : 10 ^ m9 ≤ 10 ^ 17 := Nat.pow_le_pow_right (by decide) (by omega)
    iterate 2 refine mj_T.pl rfl rfl rfl rfl ?_
    refine mj_T.icmp (a := ((i : Nat) : Int)) (b := 19) rfl ⟨by omega, by omega⟩ ⟨by decide, by decide⟩ (fun hc => ?_) (fun hc => ?_)
    · simp only [jc, decide_eq_true_eq] at hc
      omega
    rw [if_neg (Nat.succ_ne_zero _), Nat.add_sub_cancel]
    iterate 2 refine mj_T.pl rfl rfl rfl rfl ?_
    refine mj_T.lif (a := ((10 ^ m9 : Nat) : Int)) (b := 0) rfl rfl ⟨by omega, by omega⟩ ⟨by decide, by decide⟩ (fun hc => ?_) (fun hc => ?_)
    · simp only [jc, decide_eq_true_eq] at hc
      omega
    iterate 4 refine mj_T.pl rfl rfl rfl rfl ?_
    refine mj_T.ldiv (a := (v : Int)) (b := ((10 ^ m9 : Nat) : Int)) rfl ⟨by omega, by omega⟩ ⟨by omega, by omega⟩ (by omega) ?_
    rw [show (v : Int).tdiv ((10 ^ m9 : Nat) : Int) = ((v / 10 ^ m9 : Nat) : Int) from rfl]
    have hd := Nat.div_le_self v (10 ^ m9)
    have hjy : jR ((v / 10 ^ m9 : Nat) : Int) := by
      generalize v / 10 ^ m9 = y at hd ⊢
      exact ⟨by omega, by omega⟩
    refine mj_T.pl rfl rfl rfl rfl ?_
    refine mj_T.lrem (a := ((v / 10 ^ m9 : Nat) : Int)) (b := 10) rfl hjy ⟨by decide, by decide⟩ (by decide) ?_
    rw [show ((v / 10 ^ m9 : Nat) : Int).tmod 10 = ((v / 10 ^ m9 % 10 : Nat) : Int) from rfl]
    have hr := Nat.mod_lt (v / 10 ^ m9) (show 0 < 10 by decide)
    refine mj_T.ladd (a := 48) (b := ((v / 10 ^ m9 % 10 : Nat) : Int)) rfl ?_
    refine mj_T.l2i rfl ?_
    have es : (48 : Int) + ((v / 10 ^ m9 % 10 : Nat) : Int) = ((48 + v / 10 ^ m9 % 10 : Nat) : Int) := by omega
    rw [es]
    refine mj_T.call rfl rfl (Nat.le_of_ble_eq_true rfl) (Nat.le_of_ble_eq_true rfl) (mV_of m 17 q.1 (by decide) rfl (by decide) rfl _) rfl (mj_Ok.up (by omega) (mX_80 (D := 0) m q x (by omega) (s := 48 + v / 10 ^ m9 % 10) (by omega))) (fun v' h2 hq => ?_) (fun i' h2 hq => by obtain ⟨_, _, _, _, _, hq⟩ := hq; cases hq)
    obtain ⟨X2, _, m2, x2, e2, hq⟩ := hq
    cases hq
    rw [← es] at x2
    iterate 2 refine mj_T.pl rfl rfl rfl rfl ?_
    refine mj_T.ldiv (a := ((10 ^ m9 : Nat) : Int)) (b := 10) rfl ⟨by omega, by omega⟩ ⟨by decide, by decide⟩ (by decide) ?_
    have e : ((10 ^ m9 : Nat) : Int).tdiv 10 = ((if m9 = 0 then 0 else 10 ^ (m9 - 1) : Nat) : Int) := by
      rw [show ((10 ^ m9 : Nat) : Int).tdiv 10 = ((10 ^ m9 / 10 : Nat) : Int) from rfl]
      split
      · rename_i y
        subst y
        rfl
      · rename_i y
        obtain ⟨j, rfl⟩ : ∃ j, m9 = j + 1 := ⟨m9 - 1, by omega⟩
        rw [Nat.pow_succ, Nat.add_sub_cancel, Nat.mul_div_cancel _ (by decide)]
    rw [e]
    refine mj_T.pl rfl rfl rfl rfl ?_
    refine mj_T.iinc (a := (i : Int)) rfl rfl ?_
    rw [show ((i : Nat) : Int) + 1 = ((i + 1 : Nat) : Int) by omega]
    refine mj_T.pl rfl rfl rfl rfl ?_
    refine mX_84_b hv q m9 (i + 1) _ X2 _ (by omega) (by rw [List.length_append]; have h8 : ([48 + ((v / 10 ^ m9 % 10 : Nat) : Int)] : List Int).length = 1 := rfl; omega) m2 x2 (fun X3 h3 m3 x3 e3 => ?_)
    exact hend X3 h3 m3 (by rw [List.append_assoc] at x3; exact x3) (fun c c1 c2 => (e3 c c1 c2).trans (e2 c c1 c2))
theorem mX_84 (m : jM g n V X h) (q : isT t) {L : List Int} (x : txt X t L) {v : Nat} (hv : v < 1000000000000000000) (hl : L.length + nmN v ≤ 340) : mj_Ok (D + 2) 84 [.ref t, .long (jl (v : Int))] h (fun z => ∃ (X2 : Nat → Nat → Int) (h2 : mj_H), jM g n V X2 h2 ∧ txt X2 t (L ++ nmL v) ∧ (∀ c, c ≠ t → c ≠ t + 1 → X2 c = X c) ∧ z = (.inl none, h2)) := by
  have hb := nmN_b v
  refine mj_Ok.of (M := mj_m84) rfl rfl rfl ?_
  refine mj_T.pl rfl rfl rfl rfl ?_
  refine mj_T.pl rfl rfl rfl rfl ?_
  iterate 2 refine mj_T.pl rfl rfl rfl rfl ?_
  refine mX_84_a (D := D + 1) (K := kfd v 17 0) hv ?_ 17 0 (by omega) rfl
  iterate 2 refine mj_T.pl rfl rfl rfl rfl ?_
  have k2 := mX_84_b (D := D) (V := V) (g := g) (n := n) (t := t) hv q (Q := (fun z => ∃ (X2 : Nat → Nat → Int) (h2 : mj_H), jM g n V X2 h2 ∧ txt X2 t (L ++ nmL v) ∧ (∀ c, c ≠ t → c ≠ t + 1 → X2 c = X c) ∧ z = (.inl none, h2))) (nmN v) 0 L X h (by omega) hl m x (fun X2 h2 m2 x2 e2 => ⟨X2, h2, m2, x2, e2, rfl⟩)
  rw [if_neg (by omega)] at k2
  exact k2
end MTZ2
section MTY
variable {g h : mj_H} {n D t r : Nat} {V : Nat → Int} {X : Nat → Nat → Int} {N : Nat → Int} {H : Nat → Nat → Int} {u : Nat}
theorem mX_83_120 {e : Nat} {c : Int} {w4 : Int} {Q : mj_R → Prop} (he : e < 13) (hc : -999999999999999999 ≤ c ∧ c ≤ 999999999999999999) (q : isT t) (m : jM g n V X h) {L : List Int} (x : txt X t L) (hl : L.length + 3 ≤ 340) (hend : ∀ (X2 : Nat → Nat → Int) (h2 : mj_H), jM g n V X2 h2 → txt X2 t (L ++ (if 1 < e then 94 :: nmL e else [])) → (∀ c, c ≠ t → c ≠ t + 1 → X2 c = X c) → Q (.inl none, h2)) : mj_T (D + 2) mj_m83 120 [some (.ref t), some (.long (jl c)), none, some (.int (jn (e : Int))), some (.int (jn w4)), some (.long (jl ((c.natAbs : Nat) : Int))), none] [] h Q := by
  have h2 := nmN_2 e he
  iterate 2 refine mj_T.pl rfl rfl rfl rfl ?_
  refine mj_T.icmp (a := (e : Int)) (b := 1) rfl ⟨by omega, by omega⟩ ⟨by decide, by decide⟩ (fun hc1 => ?_) (fun hc1 => ?_)
  · simp only [jc, Bool.not_eq_true', Bool.not_eq_false', decide_eq_true_eq, decide_eq_false_iff_not] at hc1
    exact mj_T.ret rfl rfl rfl (hend X h m (by rw [if_neg (by omega), List.append_nil]; exact x) (fun _ _ _ => rfl))
  · simp only [jc, Bool.not_eq_true', Bool.not_eq_false', decide_eq_true_eq, decide_eq_false_iff_not] at hc1
    rw [if_pos (show 1 < e by omega)] at hend
    iterate 2 refine mj_T.pl rfl rfl rfl rfl ?_
    refine mj_T.eq (st2 := [.int (jn ((94 : Nat) : Int)), .ref t]) ?_ rfl rfl rfl rfl
    refine mj_T.call rfl rfl (Nat.le_of_ble_eq_true rfl) (Nat.le_of_ble_eq_true rfl) (mV_of m 17 q.1 (by decide) rfl (by decide) rfl _) rfl (mj_Ok.up (by omega) (mX_80 (D := 0) m q x (by (try simp only [List.length_append, List.length_cons, List.length_nil]); omega) (s := 94) (by decide))) (fun v' h5 hq => ?_) (fun i' h5 hq => by obtain ⟨_, _, _, _, _, hq⟩ := hq; cases hq)
    obtain ⟨X5, _, m5, x5, e5, hq⟩ := hq
    cases hq
    iterate 2 refine mj_T.pl rfl rfl rfl rfl ?_
    refine mj_T.i2l rfl ⟨by omega, by omega⟩ ?_
    refine mj_T.call rfl rfl (Nat.le_of_ble_eq_true rfl) (Nat.le_of_ble_eq_true rfl) (mV_of m5 17 q.1 (by decide) rfl (by decide) rfl _) rfl (mj_Ok.up (by omega) (mX_84 (D := 0) m5 q x5 (v := e) (by omega) (by (try simp only [List.length_append, List.length_cons, List.length_nil]); omega))) (fun v' h6 hq => ?_) (fun i' h6 hq => by obtain ⟨_, _, _, _, _, hq⟩ := hq; cases hq)
    obtain ⟨X6, _, m6, x6, e6, hq⟩ := hq
    cases hq
    exact mj_T.ret rfl rfl rfl (hend X6 h6 m6 (by rw [List.append_assoc] at x6; exact x6) (fun c c1 c2 => (e6 c c1 c2).trans (e5 c c1 c2)))
theorem mX_83_110 {e : Nat} {c : Int} {w4 : Int} {Q : mj_R → Prop} (he : e < 13) (hc : -999999999999999999 ≤ c ∧ c ≤ 999999999999999999) (q : isT t) (m : jM g n V X h) {L : List Int} (x : txt X t L) (hl : L.length + 4 ≤ 340) (hend : ∀ (X2 : Nat → Nat → Int) (h2 : mj_H), jM g n V X2 h2 → txt X2 t (L ++ ((if 0 < e then [120] else []) ++ (if 1 < e then 94 :: nmL e else []))) → (∀ c, c ≠ t → c ≠ t + 1 → X2 c = X c) → Q (.inl none, h2)) : mj_T (D + 2) mj_m83 110 [some (.ref t), some (.long (jl c)), none, some (.int (jn (e : Int))), some (.int (jn w4)), some (.long (jl ((c.natAbs : Nat) : Int))), none] [] h Q := by
  refine mj_T.pl rfl rfl rfl rfl ?_
  refine mj_T.if0 (a := (e : Int)) rfl ⟨by omega, by omega⟩ (fun hc1 => ?_) (fun hc1 => ?_)
  · simp only [jc, Bool.not_eq_true', Bool.not_eq_false', decide_eq_true_eq, decide_eq_false_iff_not] at hc1
    rw [if_neg (show ¬ 0 < e by omega)] at hend
    exact mX_83_120 he hc q m x (by omega) hend
  · simp only [jc, Bool.not_eq_true', Bool.not_eq_false', decide_eq_true_eq, decide_eq_false_iff_not] at hc1
    rw [if_pos (show 0 < e by omega)] at hend
    iterate 2 refine mj_T.pl rfl rfl rfl rfl ?_
    refine mj_T.eq (st2 := [.int (jn ((120 : Nat) : Int)), .ref t]) ?_ rfl rfl rfl rfl
    refine mj_T.call rfl rfl (Nat.le_of_ble_eq_true rfl) (Nat.le_of_ble_eq_true rfl) (mV_of m 17 q.1 (by decide) rfl (by decide) rfl _) rfl (mj_Ok.up (by omega) (mX_80 (D := 0) m q x (by (try simp only [List.length_append, List.length_cons, List.length_nil]); omega) (s := 120) (by decide))) (fun v' h5 hq => ?_) (fun i' h5 hq => by obtain ⟨_, _, _, _, _, hq⟩ := hq; cases hq)
    obtain ⟨X5, _, m5, x5, e5, hq⟩ := hq
    cases hq
    refine mX_83_120 he hc q m5 x5 (by rw [List.length_append]; have h8 : ([120] : List Int).length = 1 := rfl; omega) (fun X2 h2 m2 x2 e2 => hend X2 h2 m2 (by rw [List.append_assoc] at x2; exact x2) (fun c c1 c2 => (e2 c c1 c2).trans (e5 c c1 c2)))
theorem mX_83_93 {e : Nat} {c : Int} {w4 : Int} {Q : mj_R → Prop} (he : e < 13) (hc : -999999999999999999 ≤ c ∧ c ≤ 999999999999999999) (q : isT t) (m : jM g n V X h) {L : List Int} (x : txt X t L) (hl : L.length + 5 ≤ 340) (hend : ∀ (X2 : Nat → Nat → Int) (h2 : mj_H), jM g n V X2 h2 → txt X2 t (L ++ ((if c.natAbs ≠ 1 ∧ 0 < e then [42] else []) ++ ((if 0 < e then [120] else []) ++ (if 1 < e then 94 :: nmL e else [])))) → (∀ c, c ≠ t → c ≠ t + 1 → X2 c = X c) → Q (.inl none, h2)) : mj_T (D + 2) mj_m83 93 [some (.ref t), some (.long (jl c)), none, some (.int (jn (e : Int))), some (.int (jn w4)), some (.long (jl ((c.natAbs : Nat) : Int))), none] [] h Q := by
  iterate 2 refine mj_T.pl rfl rfl rfl rfl ?_
  refine mj_T.lif (a := ((c.natAbs : Nat) : Int)) (b := 1) rfl rfl ⟨by omega, by omega⟩ ⟨by decide, by decide⟩ (fun hc1 => ?_) (fun hc1 => ?_)
  · simp only [jc, Bool.not_eq_true', Bool.not_eq_false', decide_eq_true_eq, decide_eq_false_iff_not] at hc1
    rw [if_neg (fun y => y.1 (by omega)), List.nil_append] at hend
    exact mX_83_110 he hc q m x (by omega) hend
  · simp only [jc, Bool.not_eq_true', Bool.not_eq_false', decide_eq_true_eq, decide_eq_false_iff_not] at hc1
    refine mj_T.pl rfl rfl rfl rfl ?_
    refine mj_T.if0 (a := (e : Int)) rfl ⟨by omega, by omega⟩ (fun hc2 => ?_) (fun hc2 => ?_)
    · simp only [jc, Bool.not_eq_true', Bool.not_eq_false', decide_eq_true_eq, decide_eq_false_iff_not] at hc2
      rw [if_neg (fun y => absurd y.2 (by omega)), List.nil_append] at hend
      exact mX_83_110 he hc q m x (by omega) hend
    · simp only [jc, Bool.not_eq_true', Bool.not_eq_false', decide_eq_true_eq, decide_eq_false_iff_not] at hc2
      rw [if_pos (show c.natAbs ≠ 1 ∧ 0 < e from ⟨by omega, by omega⟩)] at hend
      iterate 2 refine mj_T.pl rfl rfl rfl rfl ?_
      refine mj_T.eq (st2 := [.int (jn ((42 : Nat) : Int)), .ref t]) ?_ rfl rfl rfl rfl
      refine mj_T.call rfl rfl (Nat.le_of_ble_eq_true rfl) (Nat.le_of_ble_eq_true rfl) (mV_of m 17 q.1 (by decide) rfl (by decide) rfl _) rfl (mj_Ok.up (by omega) (mX_80 (D := 0) m q x (by (try simp only [List.length_append, List.length_cons, List.length_nil]); omega) (s := 42) (by decide))) (fun v' h5 hq => ?_) (fun i' h5 hq => by obtain ⟨_, _, _, _, _, hq⟩ := hq; cases hq)
      obtain ⟨X5, _, m5, x5, e5, hq⟩ := hq
      cases hq
      refine mX_83_110 he hc q m5 x5 (by rw [List.length_append]; have h8 : ([42] : List Int).length = 1 := rfl; omega) (fun X2 h2 m2 x2 e2 => hend X2 h2 m2 (by rw [List.append_assoc] at x2; exact x2) (fun c c1 c2 => (e2 c c1 c2).trans (e5 c c1 c2)))
theorem mX_83_62 {e : Nat} {c : Int} {w4 : Int} {Q : mj_R → Prop} (he : e < 13) (hc : -999999999999999999 ≤ c ∧ c ≤ 999999999999999999) (q : isT t) (m : jM g n V X h) {L : List Int} (x : txt X t L) (hl : L.length + 23 ≤ 340) (hend : ∀ (X2 : Nat → Nat → Int) (h2 : mj_H), jM g n V X2 h2 → txt X2 t (L ++ tmL c e) → (∀ c, c ≠ t → c ≠ t + 1 → X2 c = X c) → Q (.inl none, h2)) : mj_T (D + 2) mj_m83 62 [some (.ref t), some (.long (jl c)), none, some (.int (jn (e : Int))), some (.int (jn w4)), none, none] [] h Q := by
  have hb := nmN_b c.natAbs
  have t87 : ¬ (c.natAbs = 1 ∧ e ≠ 0) → mj_T (D + 2) mj_m83 87 [some (.ref t), some (.long (jl c)), none, some (.int (jn (e : Int))), some (.int (jn w4)), some (.long (jl ((c.natAbs : Nat) : Int))), none] [] h Q := fun hno => by
    iterate 2 refine mj_T.pl rfl rfl rfl rfl ?_
    refine mj_T.call rfl rfl (Nat.le_of_ble_eq_true rfl) (Nat.le_of_ble_eq_true rfl) (mV_of m 17 q.1 (by decide) rfl (by decide) rfl _) rfl (mj_Ok.up (by omega) (mX_84 (D := 0) m q x (v := c.natAbs) (by omega) (by (try simp only [List.length_append, List.length_cons, List.length_nil]); omega))) (fun v' h6 hq => ?_) (fun i' h6 hq => by obtain ⟨_, _, _, _, _, hq⟩ := hq; cases hq)
    obtain ⟨X6, _, m6, x6, e6, hq⟩ := hq
    cases hq
    refine mX_83_93 he hc q m6 x6 (by rw [List.length_append, nmL_len]; omega) (fun X2 h2 m2 x2 e2 => hend X2 h2 m2 ?_ (fun c c1 c2 => (e2 c c1 c2).trans (e6 c c1 c2)))
    unfold tmL
    rw [if_neg hno]
    rw [List.append_assoc] at x2
    rw [List.append_assoc]
    by_cases y : 0 < e
    · rw [if_pos (show c.natAbs ≠ 1 ∧ 0 < e from ⟨fun w => hno ⟨w, by omega⟩, y⟩)] at x2
      simp only [if_pos y] at x2 ⊢
      exact x2
    · rw [if_neg (fun w => y w.2)] at x2
      simp only [if_neg y] at x2 ⊢
      exact x2
  have t74 : ∀ z : Int, z = ((c.natAbs : Nat) : Int) → mj_T (D + 2) mj_m83 74 [some (.ref t), some (.long (jl c)), none, some (.int (jn (e : Int))), some (.int (jn w4)), none, none] [.long (jl z)] h Q := fun z hz => by
    subst hz
    refine mj_T.pl (loc' := [some (.ref t), some (.long (jl c)), none, some (.int (jn (e : Int))), some (.int (jn w4)), some (.long (jl ((c.natAbs : Nat) : Int))), none]) rfl rfl rfl rfl ?_
    iterate 2 refine mj_T.pl rfl rfl rfl rfl ?_
    refine mj_T.lif (a := ((c.natAbs : Nat) : Int)) (b := 1) rfl rfl ⟨by omega, by omega⟩ ⟨by decide, by decide⟩ (fun hc1 => ?_) (fun hc1 => ?_)
    · simp only [jc, Bool.not_eq_true', Bool.not_eq_false', decide_eq_true_eq, decide_eq_false_iff_not] at hc1
      exact t87 (fun y => by omega)
    · simp only [jc, Bool.not_eq_true', Bool.not_eq_false', decide_eq_true_eq, decide_eq_false_iff_not] at hc1
      refine mj_T.pl rfl rfl rfl rfl ?_
      refine mj_T.if0 (a := (e : Int)) rfl ⟨by omega, by omega⟩ (fun hc2 => ?_) (fun hc2 => ?_)
      · simp only [jc, Bool.not_eq_true', Bool.not_eq_false', decide_eq_true_eq, decide_eq_false_iff_not] at hc2
        refine mX_83_93 he hc q m x (by omega) (fun X2 h2 m2 x2 e2 => hend X2 h2 m2 ?_ e2)
        unfold tmL
        rw [if_pos (show c.natAbs = 1 ∧ e ≠ 0 from ⟨by omega, by omega⟩), List.nil_append]
        rw [if_neg (fun w => w.1 (by omega)), List.nil_append] at x2
        exact x2
      · simp only [jc, Bool.not_eq_true', Bool.not_eq_false', decide_eq_true_eq, decide_eq_false_iff_not] at hc2
        exact t87 (fun y => y.2 (by omega))
  iterate 2 refine mj_T.pl rfl rfl rfl rfl ?_
  refine mj_T.lif (a := c) (b := 0) rfl rfl ⟨by omega, by omega⟩ ⟨by decide, by decide⟩ (fun hc1 => ?_) (fun hc1 => ?_)
  · simp only [jc, Bool.not_eq_true', Bool.not_eq_false', decide_eq_true_eq, decide_eq_false_iff_not] at hc1
    refine mj_T.pl rfl rfl rfl rfl ?_
    exact t74 c (by omega)
  · simp only [jc, Bool.not_eq_true', Bool.not_eq_false', decide_eq_true_eq, decide_eq_false_iff_not] at hc1
    refine mj_T.pl rfl rfl rfl rfl ?_
    refine mj_T.lneg rfl ?_
    refine mj_T.pl rfl rfl rfl rfl ?_
    exact t74 (-c) (by omega)
theorem mX_83 {e : Nat} {c : Int} (he : e < 13) (hc : -999999999999999999 ≤ c ∧ c ≤ 999999999999999999) (q : isT t) (m : jM g n V X h) {L : List Int} (x : txt X t L) (hl : L.length + 26 ≤ 340) : mj_Ok (D + 3) 83 [.ref t, .long (jl c), .int (jn (e : Int))] h (fun z => ∃ (X2 : Nat → Nat → Int) (h2 : mj_H), jM g n V X2 h2 ∧ txt X2 t (L ++ (sgL c L.length ++ tmL c e)) ∧ (∀ c, c ≠ t → c ≠ t + 1 → X2 c = X c) ∧ z = (.inl none, h2)) := by
  have x1 := x.1
  refine mj_Ok.of (M := mj_m83) rfl rfl rfl ?_
  refine mj_T.pl rfl rfl rfl rfl ?_
  refine mT_get m 17 q.1 (by decide) rfl rfl ?_
  rw [x1]
  refine mj_T.if0 (a := ((L.length : Nat) : Int)) rfl ⟨by omega, by omega⟩ (fun hc1 => ?_) (fun hc1 => ?_)
  · simp only [jc, Bool.not_eq_true', Bool.not_eq_false', decide_eq_true_eq, decide_eq_false_iff_not] at hc1
    have hw : L.length ≠ 0 := by omega
    unfold sgL
    rw [if_neg hw]
    iterate 3 refine mj_T.pl rfl rfl rfl rfl ?_
    refine mj_T.if0 (a := 0) rfl ⟨by decide, by decide⟩ (fun y => by simp [jc] at y) (fun _ => ?_)
    iterate 2 refine mj_T.pl rfl rfl rfl rfl ?_
    refine mj_T.eq (st2 := [.int (jn ((32 : Nat) : Int)), .ref t]) ?_ rfl rfl rfl rfl
    refine mj_T.call rfl rfl (Nat.le_of_ble_eq_true rfl) (Nat.le_of_ble_eq_true rfl) (mV_of m 17 q.1 (by decide) rfl (by decide) rfl _) rfl (mj_Ok.up (by omega) (mX_80 (D := 0) m q x (by (try simp only [List.length_append, List.length_cons, List.length_nil]); omega) (s := 32) (by decide))) (fun v' h5 hq => ?_) (fun i' h5 hq => by obtain ⟨_, _, _, _, _, hq⟩ := hq; cases hq)
    obtain ⟨X5, _, m5, x5, e5, hq⟩ := hq
    cases hq
    have t51 : ∀ (s : Int) (X6 : Nat → Nat → Int) (h6 : mj_H), s = (if c < 0 then 45 else 43) → jM g n V X6 h6 → txt X6 t ((L ++ [32]) ++ [s]) → (∀ c, c ≠ t → c ≠ t + 1 → X6 c = X5 c) → mj_T (D + 2) mj_m83 51 [some (.ref t), some (.long (jl c)), none, some (.int (jn (e : Int))), some (.int (jn 0)), none, none] [] h6 (fun z => ∃ (X2 : Nat → Nat → Int) (h2 : mj_H), jM g n V X2 h2 ∧ txt X2 t (L ++ ([32, if c < 0 then 45 else 43, 32] ++ tmL c e)) ∧ (∀ c, c ≠ t → c ≠ t + 1 → X2 c = X c) ∧ z = (.inl none, h2)) := fun s X6 h6 hs m6 x6 e6 => by
      refine mj_T.pl rfl rfl rfl rfl ?_
      refine mj_T.if0 (a := 0) rfl ⟨by decide, by decide⟩ (fun y => by simp [jc] at y) (fun _ => ?_)
      iterate 2 refine mj_T.pl rfl rfl rfl rfl ?_
      refine mj_T.eq (st2 := [.int (jn ((32 : Nat) : Int)), .ref t]) ?_ rfl rfl rfl rfl
      refine mj_T.call rfl rfl (Nat.le_of_ble_eq_true rfl) (Nat.le_of_ble_eq_true rfl) (mV_of m6 17 q.1 (by decide) rfl (by decide) rfl _) rfl (mj_Ok.up (by omega) (mX_80 (D := 0) m6 q x6 (by (try simp only [List.length_append, List.length_cons, List.length_nil]); omega) (s := 32) (by decide))) (fun v' h7 hq => ?_) (fun i' h7 hq => by obtain ⟨_, _, _, _, _, hq⟩ := hq; cases hq)
      obtain ⟨X7, _, m7, x7, e7, hq⟩ := hq
      cases hq
      refine mX_83_62 (w4 := 0) he hc q m7 x7 (by simp only [List.length_append, List.length_cons, List.length_nil]; omega) (fun X2 h2 m2 x2 e2 => ⟨X2, h2, m2, ?_, fun c c1 c2 => (e2 c c1 c2).trans ((e7 c c1 c2).trans ((e6 c c1 c2).trans (e5 c c1 c2))), rfl⟩)
      rw [List.append_assoc, List.append_assoc, List.append_assoc] at x2
      rw [← hs]
      exact x2
    iterate 2 refine mj_T.pl rfl rfl rfl rfl ?_
    refine mj_T.lif (a := c) (b := 0) rfl rfl ⟨by omega, by omega⟩ ⟨by decide, by decide⟩ (fun hc2 => ?_) (fun hc2 => ?_)
    · simp only [jc, Bool.not_eq_true', Bool.not_eq_false', decide_eq_true_eq, decide_eq_false_iff_not] at hc2
      refine mj_T.pl rfl rfl rfl rfl ?_
      refine mj_T.if0 (a := 0) rfl ⟨by decide, by decide⟩ (fun y => by simp [jc] at y) (fun _ => ?_)
      iterate 2 refine mj_T.pl rfl rfl rfl rfl ?_
      refine mj_T.eq (st2 := [.int (jn ((43 : Nat) : Int)), .ref t]) ?_ rfl rfl rfl rfl
      refine mj_T.call rfl rfl (Nat.le_of_ble_eq_true rfl) (Nat.le_of_ble_eq_true rfl) (mV_of m5 17 q.1 (by decide) rfl (by decide) rfl _) rfl (mj_Ok.up (by omega) (mX_80 (D := 0) m5 q x5 (by (try simp only [List.length_append, List.length_cons, List.length_nil]); omega) (s := 43) (by decide))) (fun v' h6 hq => ?_) (fun i' h6 hq => by obtain ⟨_, _, _, _, _, hq⟩ := hq; cases hq)
      obtain ⟨X6, _, m6, x6, e6, hq⟩ := hq
      cases hq
      exact t51 43 X6 h6 (by rw [if_neg (by omega)]) m6 x6 e6
    · simp only [jc, Bool.not_eq_true', Bool.not_eq_false', decide_eq_true_eq, decide_eq_false_iff_not] at hc2
      iterate 2 refine mj_T.pl rfl rfl rfl rfl ?_
      refine mj_T.eq (st2 := [.int (jn ((45 : Nat) : Int)), .ref t]) ?_ rfl rfl rfl rfl
      refine mj_T.call rfl rfl (Nat.le_of_ble_eq_true rfl) (Nat.le_of_ble_eq_true rfl) (mV_of m5 17 q.1 (by decide) rfl (by decide) rfl _) rfl (mj_Ok.up (by omega) (mX_80 (D := 0) m5 q x5 (by (try simp only [List.length_append, List.length_cons, List.length_nil]); omega) (s := 45) (by decide))) (fun v' h6 hq => ?_) (fun i' h6 hq => by obtain ⟨_, _, _, _, _, hq⟩ := hq; cases hq)
      obtain ⟨X6, _, m6, x6, e6, hq⟩ := hq
      cases hq
      refine mj_T.pl rfl rfl rfl rfl ?_
      exact t51 45 X6 h6 (by rw [if_pos (by omega)]) m6 x6 e6
  · simp only [jc, Bool.not_eq_true', Bool.not_eq_false', decide_eq_true_eq, decide_eq_false_iff_not] at hc1
    have hw : L.length = 0 := by omega
    unfold sgL
    rw [if_pos hw]
    iterate 2 refine mj_T.pl rfl rfl rfl rfl ?_
    iterate 2 refine mj_T.pl rfl rfl rfl rfl ?_
    refine mj_T.if0 (a := 1) rfl ⟨by decide, by decide⟩ (fun _ => ?_) (fun y => by simp [jc] at y)
    iterate 2 refine mj_T.pl rfl rfl rfl rfl ?_
    refine mj_T.lif (a := c) (b := 0) rfl rfl ⟨by omega, by omega⟩ ⟨by decide, by decide⟩ (fun hc2 => ?_) (fun hc2 => ?_)
    · simp only [jc, Bool.not_eq_true', Bool.not_eq_false', decide_eq_true_eq, decide_eq_false_iff_not] at hc2
      refine mj_T.pl rfl rfl rfl rfl ?_
      refine mj_T.if0 (a := 1) rfl ⟨by decide, by decide⟩ (fun _ => ?_) (fun y => by simp [jc] at y)
      refine mj_T.pl rfl rfl rfl rfl ?_
      refine mj_T.if0 (a := 1) rfl ⟨by decide, by decide⟩ (fun _ => ?_) (fun y => by simp [jc] at y)
      rw [if_neg (show ¬ c < 0 by omega), List.nil_append]
      exact mX_83_62 (w4 := 1) he hc q m x (by omega) (fun X2 h2 m2 x2 e2 => ⟨X2, h2, m2, x2, e2, rfl⟩)
    · simp only [jc, Bool.not_eq_true', Bool.not_eq_false', decide_eq_true_eq, decide_eq_false_iff_not] at hc2
      iterate 2 refine mj_T.pl rfl rfl rfl rfl ?_
      refine mj_T.eq (st2 := [.int (jn ((45 : Nat) : Int)), .ref t]) ?_ rfl rfl rfl rfl
      refine mj_T.call rfl rfl (Nat.le_of_ble_eq_true rfl) (Nat.le_of_ble_eq_true rfl) (mV_of m 17 q.1 (by decide) rfl (by decide) rfl _) rfl (mj_Ok.up (by omega) (mX_80 (D := 0) m q x (by (try simp only [List.length_append, List.length_cons, List.length_nil]); omega) (s := 45) (by decide))) (fun v' h6 hq => ?_) (fun i' h6 hq => by obtain ⟨_, _, _, _, _, hq⟩ := hq; cases hq)
      obtain ⟨X6, _, m6, x6, e6, hq⟩ := hq
      cases hq
      refine mj_T.pl rfl rfl rfl rfl ?_
      refine mj_T.pl rfl rfl rfl rfl ?_
      refine mj_T.if0 (a := 1) rfl ⟨by decide, by decide⟩ (fun _ => ?_) (fun y => by simp [jc] at y)
      rw [if_pos (show c < 0 by omega)]
      exact mX_83_62 (w4 := 1) he hc q m6 x6 (by simp only [List.length_append, List.length_cons, List.length_nil]; omega) (fun X2 h2 m2 x2 e2 => ⟨X2, h2, m2, by rw [List.append_assoc] at x2; exact x2, fun c c1 c2 => (e2 c c1 c2).trans (e6 c c1 c2), rfl⟩)
def fin (L : List Int) : List Int := if L = [] then [48] else L
theorem mX_82_loop (q : isT t) (kr : cK r = 2) (hr : sml (X r)) : ∀ k : Nat, k ≤ 13 → ∀ (L : List Int) (X1 : Nat → Nat → Int) (h : mj_H), jM g n V X1 h → txt X1 t L → (∀ c, c ≠ t → c ≠ t + 1 → X1 c = X c) → L.length + 26 * k ≤ 338 → mj_T (D + 3) mj_m82 10 [some (.ref t), some (.ref r), some (.int (jn ((k : Int) - 1)))] [] h (fun z => ∃ (X2 : Nat → Nat → Int) (h2 : mj_H), jM g n V X2 h2 ∧ txt X2 t (fin (rwL (X r) k L)) ∧ (∀ c, c ≠ t → c ≠ t + 1 → X2 c = X c) ∧ z = (.inl none, h2))
  | 0, hk, L, X1, h, m, x, e1, hl => by
    have x1 := x.1
    refine mj_T.pl rfl rfl rfl rfl ?_
    refine mj_T.if0 (a := (((0 : Nat) : Int) - 1)) rfl ⟨by omega, by omega⟩ (fun c1 => ?_) (fun c1 => ?_)
    · refine mj_T.pl rfl rfl rfl rfl ?_
      refine mT_get m 17 q.1 (by decide) rfl rfl ?_
      rw [x1]
      refine mj_T.if0 (a := ((L.length : Nat) : Int)) rfl ⟨by omega, by omega⟩ (fun c2 => ?_) (fun c2 => ?_)
      · simp only [jc, Bool.not_eq_true', Bool.not_eq_false', decide_eq_true_eq, decide_eq_false_iff_not] at c2
        refine mj_T.ret rfl rfl rfl ⟨_, _, m, ?_, e1, rfl⟩
        show txt X1 t (fin L)
        unfold fin
        rw [if_neg (fun y => by rw [y] at c2; exact c2 rfl)]
        exact x
      · simp only [jc, Bool.not_eq_true', Bool.not_eq_false', decide_eq_true_eq, decide_eq_false_iff_not] at c2
        have hL : L = [] := List.length_eq_zero_iff.mp (by omega)
        subst hL
        iterate 2 refine mj_T.pl rfl rfl rfl rfl ?_
        refine mj_T.eq (st2 := [.int (jn ((48 : Nat) : Int)), .ref t]) ?_ rfl rfl rfl rfl
        refine mj_T.call rfl rfl (Nat.le_of_ble_eq_true rfl) (Nat.le_of_ble_eq_true rfl) (mV_of m 17 q.1 (by decide) rfl (by decide) rfl _) rfl (mj_Ok.up (by omega) (mX_80 (D := 0) m q x (by (try simp only [List.length_append, List.length_cons, List.length_nil]); omega) (s := 48) (by decide))) (fun v' h5 hq => ?_) (fun i' h5 hq => by obtain ⟨_, _, _, _, _, hq⟩ := hq; cases hq)
        obtain ⟨X5, _, m5, x5, e5, hq⟩ := hq
        cases hq
        exact mj_T.ret rfl rfl rfl ⟨_, _, m5, x5, fun c c1 c2 => (e5 c c1 c2).trans (e1 c c1 c2), rfl⟩
    · exfalso
      simp only [jc, Bool.not_eq_true', Bool.not_eq_false', decide_eq_true_eq, decide_eq_false_iff_not] at c1
      omega
  | k + 1, hk, L, X1, h, m, x, e1, hl => by
    have er : X1 r = X r := e1 r (fun y => by rw [y, q.1] at kr; cases kr) (fun y => by rw [y, q.2.1] at kr; cases kr)
    have hb := hr k (by omega)
    rw [show (((k + 1 : Nat)) : Int) - 1 = ((k : Nat) : Int) by omega]
    refine mj_T.pl rfl rfl rfl rfl ?_
    refine mj_T.if0 (a := ((k : Nat) : Int)) rfl ⟨by omega, by omega⟩ (fun c1 => ?_) (fun c1 => ?_)
    · exfalso
      simp only [jc, Bool.not_eq_true', Bool.not_eq_false', decide_eq_true_eq, decide_eq_false_iff_not] at c1
      omega
    · iterate 2 refine mj_T.pl rfl rfl rfl rfl ?_
      refine mT_lald m kr rfl ⟨by omega, by omega⟩ ?_
      refine mj_T.eq (st2 := [.long (jl (X1 r k))]) ?_ rfl rfl rfl rfl
      rw [er]
      refine jT.lc 0 rfl rfl ?_
      refine mj_T.lif (a := (X r k)) (b := ((0 : Nat) : Int)) rfl rfl ⟨by omega, by omega⟩ ⟨by omega, by omega⟩ (fun c2 => ?_) (fun c2 => ?_)
      · simp only [jc, Bool.not_eq_true', Bool.not_eq_false', decide_eq_true_eq, decide_eq_false_iff_not] at c2
        refine mj_T.iinc rfl rfl ?_
        refine mj_T.pl rfl rfl rfl rfl ?_
        rw [show (k : Int) + (-1) = (k : Int) - 1 by omega]
        have k9 := mX_82_loop q kr hr k (by omega) L X1 h m x e1 (by omega)
        rw [show rwL (X r) (k + 1) L = rwL (X r) k (if X r k = 0 then L else L ++ (sgL (X r k) L.length ++ tmL (X r k) k)) from rfl, if_pos (by omega)]
        exact k9
      · simp only [jc, Bool.not_eq_true', Bool.not_eq_false', decide_eq_true_eq, decide_eq_false_iff_not] at c2
        iterate 3 refine mj_T.pl rfl rfl rfl rfl ?_
        refine mT_lald m kr rfl ⟨by omega, by omega⟩ ?_
        refine mj_T.eq (st2 := [.long (jl (X1 r k)), .ref t]) ?_ rfl rfl rfl rfl
        rw [er]
        refine mj_T.pl rfl rfl rfl rfl ?_
        refine mj_T.call rfl rfl (Nat.le_of_ble_eq_true rfl) (Nat.le_of_ble_eq_true rfl) (mV_of m 17 q.1 (by decide) rfl (by decide) rfl _) rfl (mj_Ok.up (by omega) (mX_83 (D := 0) (e := k) (c := X r k) (by omega) ⟨by omega, by omega⟩ q m x (by omega))) (fun v g3 hq => ?_) (fun i g3 hq => by obtain ⟨_, _, _, _, _, hq⟩ := hq; cases hq)
        obtain ⟨X4, _, m5, x5, e5, hq⟩ := hq
        cases hq
        refine mj_T.eq (pc2 := 30) (st2 := []) ?_ rfl rfl rfl rfl
        refine mj_T.iinc rfl rfl ?_
        refine mj_T.pl rfl rfl rfl rfl ?_
        rw [show (k : Int) + (-1) = (k : Int) - 1 by omega]
        have b1 := tmN_b (X r k) (show k < 13 by omega)
        have b2 := sgN_b (X r k) L.length
        have k9 := mX_82_loop q kr hr k (by omega) _ X4 _ m5 x5 (fun c c1 c2 => (e5 c c1 c2).trans (e1 c c1 c2)) (by rw [List.length_append, List.length_append, sgL_len, tmL_len]; omega)
        rw [show rwL (X r) (k + 1) L = rwL (X r) k (if X r k = 0 then L else L ++ (sgL (X r k) L.length ++ tmL (X r k) k)) from rfl, if_neg (by omega)]
        exact k9
theorem mX_82 (m : jM g n V X h) (q : isT t) (kr : cK r = 2) (hr : sml (X r)) : mj_Ok (D + 4) 82 [.ref t, .ref r] h (fun z => ∃ (X2 : Nat → Nat → Int) (h2 : mj_H), jM g n V X2 h2 ∧ txt X2 t (wrL (X r)) ∧ (∀ c, c ≠ t → c ≠ t + 1 → X2 c = X c) ∧ z = (.inl none, h2)) := by
  have nr : r ≠ t := fun y => by rw [y, q.1] at kr; cases kr
  refine mj_Ok.of (M := mj_m82) rfl rfl rfl ?_
  iterate 2 refine mj_T.pl rfl rfl rfl rfl ?_
  refine mT_put (v := 0) m 17 q.1 (by decide) rfl (by simp [jMf, xup]) (by simp [jMf]) rfl (fun h1 m2 => ?_)
  refine mj_T.pl rfl rfl rfl rfl ?_
  refine mT_llen m2 kr rfl ?_
  refine mj_T.pl rfl rfl rfl rfl ?_
  refine mj_T.isub (a := ((13 : Nat) : Int)) (b := 1) rfl ?_
  refine mj_T.pl (loc' := [some (.ref t), some (.ref r), some (.int (jn (((13 : Nat) : Int) - 1)))]) rfl rfl rfl rfl ?_
  exact mX_82_loop q kr hr 13 (by decide) [] _ _ m2 ⟨xup_at _ _ _ _, fun j c hj => by cases hj⟩ (fun c c1 c2 => xup_oth c1) (by decide)
theorem wrN_b (f : Nat → Int) : wrN f ≤ 338 := by
  have h := rlN_b f 13 0 (by decide)
  unfold wrN
  split <;> omega
end MTY
/-! What stands written is read again: the text from a place on, its blanks, its numbers. -/
/-- from a on the text is R -/
def atL (T : Nat → Int) (tm a : Nat) (R : List Int) : Prop := a + R.length = tm ∧ ∀ j c, R[j]? = some c → T (a + j) = c
section TRP
variable {T : Nat → Int} {tm : Nat}
theorem atL.head {a : Nat} {c : Int} {R : List Int} (h : atL T tm a (c :: R)) : T a = c ∧ a < tm ∧ atL T tm (a + 1) R := by
  have h1 := h.1
  rw [List.length_cons] at h1
  refine ⟨h.2 0 c rfl, by omega, by omega, fun j x hj => ?_⟩
  have h2 := h.2 (j + 1) x hj
  rwa [show a + (j + 1) = a + 1 + j by omega] at h2
theorem atL.app {a : Nat} {A R : List Int} (h : atL T tm a (A ++ R)) : atL T tm (a + A.length) R ∧ ∀ j c, A[j]? = some c → T (a + j) = c := by
  have h1 := h.1
  rw [List.length_append] at h1
  refine ⟨⟨by omega, fun j c hj => ?_⟩, fun j c hj => h.2 j c ?_⟩
  · have h2 := h.2 (A.length + j) c (by rw [List.getElem?_append_right (by omega), Nat.add_sub_cancel_left]; exact hj)
    rwa [← Nat.add_assoc] at h2
  · rw [List.getElem?_append_left (List.getElem?_eq_some_iff.mp hj).1]
    exact hj
theorem atL.fn {a : Nat} (h : atL T tm a []) : a = tm := h.1
theorem sk_n {a : Nat} {c : Int} {R : List Int} (h : atL T tm a (c :: R)) (hc : c ≠ 32) : rskp T tm a = a := by
  obtain ⟨h1, h2, _⟩ := h.head
  obtain ⟨y, hy⟩ : ∃ y, tm - a = y + 1 := ⟨tm - a - 1, by omega⟩
  show rsk T (tm - a) a = a
  rw [hy]
  exact if_neg (by rw [h1]; exact hc)
theorem sk_s {a : Nat} {R : List Int} (h : atL T tm a (32 :: R)) : rskp T tm a = rskp T tm (a + 1) := by
  obtain ⟨h1, h2, _⟩ := h.head
  show rsk T (tm - a) a = rsk T (tm - (a + 1)) (a + 1)
  rw [show tm - a = tm - (a + 1) + 1 by omega]
  exact if_pos h1
theorem sk_e {a : Nat} (h : atL T tm a []) : rskp T tm a = a := by
  show rsk T (tm - a) a = a
  rw [h.fn, Nat.sub_self]
  rfl
/-- no digit comes next -/
def nd (R : List Int) : Prop := ∀ c R', R = c :: R' → ¬ (48 ≤ c ∧ c ≤ 57)
theorem dg_stop {a : Nat} {R : List Int} (h : atL T tm a R) (hn : nd R) : rdgp T tm a = a := by
  show rdg T (tm - a) a = a
  cases R with
  | nil =>
    rw [h.fn, Nat.sub_self]
    rfl
  | cons c R =>
    obtain ⟨h1, h2, _⟩ := h.head
    rw [show tm - a = tm - (a + 1) + 1 by omega]
    exact if_neg (by rw [h1]; exact hn c R rfl)
theorem dg_len {v : Nat} {R : List Int} (hn : nd R) : ∀ m a, atL T tm a (dgl v m ++ R) → rdgp T tm a = a + m
  | 0, a, h => dg_stop h hn
  | m + 1, a, h => by
    have h : atL T tm a ((48 + ((v / 10 ^ m % 10 : Nat) : Int)) :: (dgl v m ++ R)) := h
    obtain ⟨h1, h2, h3⟩ := h.head
    have hm := Nat.mod_lt (v / 10 ^ m) (show 0 < 10 by decide)
    have k := dg_len hn m (a + 1) h3
    show rdg T (tm - a) a = a + (m + 1)
    rw [show tm - a = tm - (a + 1) + 1 by omega]
    show (if 48 ≤ T a ∧ T a ≤ 57 then rdg T (tm - (a + 1)) (a + 1) else a) = _
    rw [if_pos (by rw [h1]; omega)]
    have k : rdg T (tm - (a + 1)) (a + 1) = a + 1 + m := k
    omega
theorem dgl_get (v : Nat) : ∀ m k, k < m → (dgl v m)[k]? = some (48 + ((v / 10 ^ (m - 1 - k) % 10 : Nat) : Int))
  | 0, k, h => absurd h (Nat.not_lt_zero _)
  | m + 1, 0, _ => rfl
  | m + 1, k + 1, h => by
    have e := dgl_get v m k (by omega)
    rw [show m + 1 - 1 - (k + 1) = m - 1 - k by omega]
    exact e
theorem dg_val {v a m : Nat} (hv : v < 10 ^ m) (hT : ∀ j c, (dgl v m)[j]? = some c → T (a + j) = c) : ∀ k, k ≤ m → rvl T a k = ((v / 10 ^ (m - k) : Nat) : Int)
  | 0, _ => by
    rw [Nat.sub_zero, Nat.div_eq_of_lt hv]
    rfl
  | k + 1, hk => by
    have ih := dg_val hv hT k (by omega)
    have ht := hT k _ (dgl_get v m k (by omega))
    show 10 * rvl T a k + T (a + k) - 48 = _
    rw [ih, ht, show m - k = m - 1 - k + 1 by omega, Nat.pow_succ, ← Nat.div_div_eq_div_mul, show m - (k + 1) = m - 1 - k by omega]
    generalize v / 10 ^ (m - 1 - k) = y
    omega
theorem kfd_lt (v : Nat) : ∀ d k, v < 10 ^ (k + d + 1) → v < 10 ^ (kfd v d k + 1)
  | 0, k, h => h
  | d + 1, k, h => by
    show v < 10 ^ ((if v / 10 ^ k < 10 then k else kfd v d (k + 1)) + 1)
    by_cases q : v / 10 ^ k < 10
    · rw [if_pos q, Nat.pow_succ, Nat.mul_comm]
      exact (Nat.div_lt_iff_lt_mul (Nat.pow_pos (by decide))).mp q
    · rw [if_neg q]
      exact kfd_lt v d (k + 1) (by rw [show k + 1 + d + 1 = k + (d + 1) + 1 by omega]; exact h)
theorem nmN_lt {v : Nat} (hv : v < 1000000000000000000) : v < 10 ^ nmN v := kfd_lt v 17 0 (by
  rw [show (10 : Nat) ^ (0 + 17 + 1) = 1000000000000000000 from by decide]
  exact hv)
theorem nmL_hd (v : Nat) : ∃ (c : Int) (R : List Int), nmL v = c :: R ∧ 48 ≤ c ∧ c ≤ 57 := by
  have hb := (nmN_b v).1
  obtain ⟨m, hm⟩ : ∃ m, nmN v = m + 1 := ⟨nmN v - 1, by omega⟩
  have hr := Nat.mod_lt (v / 10 ^ m) (show 0 < 10 by decide)
  exact ⟨48 + ((v / 10 ^ m % 10 : Nat) : Int), dgl v m, by unfold nmL; rw [hm]; rfl, by omega, by omega⟩
theorem nm_sk {v a : Nat} {R : List Int} (h : atL T tm a (nmL v ++ R)) : rskp T tm a = a ∧ (48 ≤ T a ∧ T a ≤ 57) ∧ a < tm := by
  obtain ⟨c, R', e, h1, h2⟩ := nmL_hd v
  rw [e, List.cons_append] at h
  obtain ⟨k1, k2, _⟩ := h.head
  exact ⟨sk_n h (by omega), by rw [k1]; exact ⟨h1, h2⟩, k2⟩
theorem nm_val {v a : Nat} {R : List Int} (h : atL T tm a (nmL v ++ R)) (hn : nd R) (hv : v < 1000000000000000000) : rdgp T tm a = a + nmN v ∧ rvl T a (nmN v) = (v : Int) ∧ atL T tm (a + nmN v) R := by
  have h1 := h.app
  rw [nmL_len] at h1
  have h2 := dg_val (T := T) (a := a) (nmN_lt hv) h1.2 (nmN v) (Nat.le_refl _)
  rw [Nat.sub_self, Nat.pow_zero, Nat.div_one] at h2
  exact ⟨dg_len hn (nmN v) a h, h2, h1.1⟩
theorem nm_ok {v a : Nat} {most : Int} {R : List Int} (h : atL T tm a (nmL v ++ R)) (hn : nd R) (hv : v < 1000000000000000000) (hm : (v : Int) ≤ most) : rnm T tm most a = (true, a + nmN v) ∧ rnv T tm a = (v : Int) := by
  obtain ⟨s1, _, _⟩ := nm_sk h
  obtain ⟨s2, s3, _⟩ := nm_val h hn hv
  have hb := nmN_b v
  constructor
  · unfold rnm
    rw [s1, s2, Nat.add_sub_cancel_left, s3]
    exact if_pos ⟨hb, hm⟩
  · unfold rnv
    rw [s1, s2, Nat.add_sub_cancel_left]
    exact s3
theorem tk_y {a : Nat} {c : Int} {R : List Int} (h : atL T tm a (c :: R)) (hc : c ≠ 32) : rtk T tm c a = some (a + 1) := by
  obtain ⟨h1, h2, _⟩ := h.head
  unfold rtk
  rw [sk_n h hc, if_pos ⟨h2, h1⟩]
theorem tk_n {a b : Nat} {c : Int} (hs : rskp T tm a = b) (hb : b = tm ∨ T b ≠ c) : rtk T tm c a = none := by
  unfold rtk
  rw [hs]
  exact if_neg (fun y => by
    rcases hb with q | q
    · omega
    · exact q y.2)
/-- what may follow a term: nothing, or a blank, a sign and more -/
def tlR (R : List Int) : Prop := R = [] ∨ ∃ (s : Int) (R' : List Int), R = 32 :: s :: R' ∧ (s = 43 ∨ s = 45)
theorem tlR.nd {R : List Int} (h : tlR R) : nd R := fun c R' e => by
  rcases h with rfl | ⟨s, R2, rfl, _⟩
  · cases e
  · cases e
    decide
/-- the place behind a term: the end, or a sign -/
theorem tlR.sk {a : Nat} {R : List Int} (h : tlR R) (k : atL T tm a R) : (R = [] ∧ rskp T tm a = tm) ∨ ∃ (s : Int) (R' : List Int), R = 32 :: s :: R' ∧ (s = 43 ∨ s = 45) ∧ rskp T tm a = a + 1 ∧ T (a + 1) = s ∧ atL T tm (a + 1) (s :: R') := by
  rcases h with rfl | ⟨s, R', rfl, hs⟩
  · exact Or.inl ⟨rfl, (sk_e k).trans k.fn⟩
  · obtain ⟨_, _, k2⟩ := k.head
    exact Or.inr ⟨s, R', rfl, hs, (sk_s k).trans (sk_n k2 (by omega)), k2.head.1, k2⟩
/-- no sign c stands next, blanks left out -/
theorem tlR.tk {a : Nat} {R : List Int} {c : Int} (h : tlR R) (k : atL T tm a R) (hc : c ≠ 43 ∧ c ≠ 45) : rtk T tm c a = none := by
  rcases h.sk k with ⟨_, e⟩ | ⟨s, R', _, hs, e, e2, _⟩
  · exact tk_n e (Or.inl rfl)
  · exact tk_n e (Or.inr (by rw [e2]; omega))
end TRP
/-! What stands written is read again: powers and products. -/
section TRQ
variable {T : Nat → Int} {tm : Nat}
theorem rnv_sk {a0 a : Nat} (hs : rskp T tm a0 = a) (ha : rskp T tm a = a) : rnv T tm a0 = rnv T tm a := by
  unfold rnv
  rw [hs, ha]
theorem pw_num {v a0 a : Nat} {R : List Int} (hs : rskp T tm a0 = a) (h : atL T tm a (nmL v ++ R)) (hn : nd R) (hv : v < 1000000000000000000) (ht : rtk T tm 94 (a + nmN v) = none) (f d : Nat) (P : Option pz_P) (s : Int) : rpr0 T tm (f + 1) 0 d a0 = some (true, rskp T tm (a + nmN v)) ∧ zv0 T tm (f + 1) 0 d a0 P s = some (pz_k (v : Int)) := by
  obtain ⟨s1, s2, s3⟩ := nm_sk h
  obtain ⟨n1, n2⟩ := nm_ok (most := 9223372036854775807) h hn hv (by omega)
  obtain ⟨d1, _, _⟩ := nm_val h hn hv
  constructor
  · unfold rpr0
    rw [hs, if_neg (fun y => by omega), if_neg (fun y => by omega), n1]
    show some (rex T tm (a + nmN v)) = _
    unfold rex
    rw [ht]
  · unfold zv0
    rw [hs, if_neg (fun y => by omega), if_neg (fun y => by omega), rnv_sk hs s1, n2, d1]
    unfold zvx
    rw [ht]
theorem pw_x0 {a0 a : Nat} {R : List Int} (hs : rskp T tm a0 = a) (h : atL T tm a (120 :: R)) (ht : rtk T tm 94 (a + 1) = none) (f d : Nat) (P : Option pz_P) (s : Int) : rpr0 T tm (f + 1) 0 d a0 = some (true, rskp T tm (a + 1)) ∧ zv0 T tm (f + 1) 0 d a0 P s = some pz_x := by
  obtain ⟨h1, h2, _⟩ := h.head
  constructor
  · unfold rpr0
    rw [hs, if_pos ⟨h2, h1⟩]
    unfold rex
    rw [ht]
  · unfold zv0
    rw [hs, if_pos ⟨h2, h1⟩]
    unfold zvx
    rw [ht]
theorem pw_xe {a0 a e : Nat} {R : List Int} (hs : rskp T tm a0 = a) (h : atL T tm a (120 :: 94 :: (nmL e ++ R))) (hn : nd R) (he : e ≤ 12) (f d : Nat) (P : Option pz_P) (s : Int) : rpr0 T tm (f + 1) 0 d a0 = some (true, a + 1 + 1 + nmN e) ∧ zv0 T tm (f + 1) 0 d a0 P s = zvp (some pz_x) e := by
  obtain ⟨h1, h2, h3⟩ := h.head
  have ht := tk_y h3 (by decide)
  obtain ⟨_, _, h4⟩ := h3.head
  obtain ⟨n1, n2⟩ := nm_ok (most := 12) h4 hn (by omega) (by omega)
  constructor
  · unfold rpr0
    rw [hs, if_pos ⟨h2, h1⟩]
    unfold rex
    rw [ht]
    show some (rnm T tm 12 (a + 1 + 1)) = _
    rw [n1]
  · unfold zv0
    rw [hs, if_pos ⟨h2, h1⟩]
    unfold zvx
    rw [ht]
    show zvp (some pz_x) (rnv T tm (a + 1 + 1)).toNat = _
    rw [n2, Int.toNat_natCast]
noncomputable def xv (e : Nat) : Option pz_P := if 1 < e then zvp (some pz_x) e else some pz_x
/-- x to the e, as it stands written -/
theorem pw_x {a0 a e : Nat} {R : List Int} (hs : rskp T tm a0 = a) (h : atL T tm a (120 :: ((if 1 < e then 94 :: nmL e else []) ++ R))) (hr : tlR R) (he : e ≤ 12) (f d : Nat) (P : Option pz_P) (s : Int) : ∃ c, rpr0 T tm (f + 1) 0 d a0 = some (true, c) ∧ rskp T tm c = rskp T tm (a + 1 + (if 1 < e then nmN e + 1 else 0)) ∧ c ≤ tm ∧ zv0 T tm (f + 1) 0 d a0 P s = xv e := by
  unfold xv
  by_cases q : 1 < e
  · rw [if_pos q] at h ⊢
    rw [if_pos q]
    obtain ⟨k1, k2⟩ := pw_xe hs h hr.nd he f d P s
    obtain ⟨_, _, h3⟩ := h.head
    obtain ⟨_, _, h4⟩ := h3.head
    have h5 := (nm_val h4 hr.nd (by omega)).2.2
    refine ⟨_, k1, by rw [show a + 1 + (nmN e + 1) = a + 1 + 1 + nmN e by omega], ?_, k2⟩
    have := h5.1
    omega
  · rw [if_neg q] at h ⊢
    rw [if_neg q]
    obtain ⟨_, h2, h3⟩ := h.head
    have h3 : atL T tm (a + 1) R := h3
    obtain ⟨k1, k2⟩ := pw_x0 hs h (hr.tk h3 (by decide)) f d P s
    exact ⟨_, k1, by rw [Nat.add_zero]; exact rskp_idem (by omega), rskp_le (by omega), k2⟩
theorem tk_sk {a b : Nat} {c : Int} (h : rskp T tm a = rskp T tm b) : rtk T tm c a = rtk T tm c b := by
  unfold rtk
  rw [h]
theorem pr_x {a0 a e : Nat} {R : List Int} (hs : rskp T tm a0 = a) (h : atL T tm a (120 :: ((if 1 < e then 94 :: nmL e else []) ++ R))) (hr : tlR R) (he : e ≤ 12) (f d : Nat) (P : Option pz_P) (s : Int) : rpr0 T tm (f + 1 + 1) 1 d a0 = some (true, rskp T tm (a + 1 + (if 1 < e then nmN e + 1 else 0))) ∧ zv0 T tm (f + 1 + 1) 1 d a0 P s = zvm P (xv e) := by
  obtain ⟨c, k1, k2, k3, k4⟩ := pw_x hs h hr he f d none 1
  have hR : atL T tm (a + 1 + (if 1 < e then nmN e + 1 else 0)) R := by
    obtain ⟨_, _, h3⟩ := h.head
    have h4 := h3.app.1
    by_cases q : 1 < e
    · rw [if_pos q] at h4 ⊢
      rw [List.length_cons, nmL_len] at h4
      exact h4
    · rw [if_neg q] at h4 ⊢
      exact h4
  have kt : rtk T tm 42 c = none := (tk_sk k2).trans (hr.tk hR (by decide))
  constructor
  · unfold rpr0
    rw [k1]
    show (match rtk T tm 42 c with
      | none => some (true, rskp T tm c)
      | some e => rpr0 T tm (f + 1) 1 d e) = _
    rw [kt]
    show some (true, rskp T tm c) = _
    rw [k2]
  · unfold zv0
    rw [k1]
    show (match rtk T tm 42 c with
      | none => zvm P (zv0 T tm (f + 1) 0 d a0 none 1)
      | some e => zv0 T tm (f + 1) 1 d e (zvm P (zv0 T tm (f + 1) 0 d a0 none 1)) 1) = _
    rw [kt, k4]
theorem pr_n {v a0 a : Nat} {R : List Int} (hs : rskp T tm a0 = a) (h : atL T tm a (nmL v ++ R)) (hr : tlR R) (hv : v < 1000000000000000000) (f d : Nat) (P : Option pz_P) (s : Int) : rpr0 T tm (f + 1 + 1) 1 d a0 = some (true, rskp T tm (a + nmN v)) ∧ zv0 T tm (f + 1 + 1) 1 d a0 P s = zvm P (some (pz_k (v : Int))) := by
  have hR := (nm_val h hr.nd hv).2.2
  obtain ⟨k1, k4⟩ := pw_num hs h hr.nd hv (hr.tk hR (by decide)) f d none 1
  have hle : a + nmN v ≤ tm := by
    have := hR.1
    omega
  have k2 := rskp_idem (T := T) hle
  have kt : rtk T tm 42 (rskp T tm (a + nmN v)) = none := (tk_sk k2).trans (hr.tk hR (by decide))
  constructor
  · unfold rpr0
    rw [k1]
    show (match rtk T tm 42 (rskp T tm (a + nmN v)) with
      | none => some (true, rskp T tm (rskp T tm (a + nmN v)))
      | some e => rpr0 T tm (f + 1) 1 d e) = _
    rw [kt]
    show some (true, rskp T tm (rskp T tm (a + nmN v))) = _
    rw [k2]
  · unfold zv0
    rw [k1]
    show (match rtk T tm 42 (rskp T tm (a + nmN v)) with
      | none => zvm P (zv0 T tm (f + 1) 0 d a0 none 1)
      | some e => zv0 T tm (f + 1) 1 d e (zvm P (zv0 T tm (f + 1) 0 d a0 none 1)) 1) = _
    rw [kt, k4]
theorem pr_nx {v a0 a e : Nat} {R : List Int} (hs : rskp T tm a0 = a) (h : atL T tm a (nmL v ++ (42 :: 120 :: ((if 1 < e then 94 :: nmL e else []) ++ R)))) (hr : tlR R) (hv : v < 1000000000000000000) (he : e ≤ 12) (f d : Nat) (P : Option pz_P) (s : Int) : rpr0 T tm (f + 2 + 1) 1 d a0 = some (true, rskp T tm (a + nmN v + 1 + 1 + (if 1 < e then nmN e + 1 else 0))) ∧ zv0 T tm (f + 2 + 1) 1 d a0 P s = zvm (zvm P (some (pz_k (v : Int)))) (xv e) := by
  have hn : nd (42 :: 120 :: ((if 1 < e then 94 :: nmL e else []) ++ R)) := fun c R' q => by
    cases q
    decide
  have hR := (nm_val h hn hv).2.2
  have hsk := sk_n hR (by decide)
  have ht : rtk T tm 94 (a + nmN v) = none := tk_n hsk (Or.inr (by rw [hR.head.1]; decide))
  obtain ⟨k1, k4⟩ := pw_num hs h hn hv ht (f + 1) d none 1
  rw [hsk] at k1
  have k1 : rpr0 T tm (f + 2) 0 d a0 = some (true, a + nmN v) := k1
  have k4 : zv0 T tm (f + 2) 0 d a0 none 1 = some (pz_k (v : Int)) := k4
  have kt := tk_y hR (by decide)
  obtain ⟨_, _, h3⟩ := hR.head
  obtain ⟨y1, y2⟩ := pr_x (sk_n h3 (by decide)) h3 hr he f d (zvm P (some (pz_k (v : Int)))) 1
  constructor
  · unfold rpr0
    rw [k1]
    show (match rtk T tm 42 (a + nmN v) with
      | none => some (true, rskp T tm (a + nmN v))
      | some e => rpr0 T tm (f + 2) 1 d e) = _
    rw [kt]
    exact y1
  · unfold zv0
    rw [k1]
    show (match rtk T tm 42 (a + nmN v) with
      | none => zvm P (zv0 T tm (f + 2) 0 d a0 none 1)
      | some e => zv0 T tm (f + 2) 1 d e (zvm P (zv0 T tm (f + 2) 0 d a0 none 1)) 1) = _
    rw [kt, k4]
    exact y2
end TRQ
/-! What stands written is read again: terms, sums, the whole. -/
theorem mono_x : ∀ e, pw pz_x e = pz_mono e 1
  | 0 => rfl
  | e + 1 => by
    show pz_mul (pw pz_x e) pz_x = _
    rw [mono_x e]
    funext i
    show pz_c i (pz_mono e 1) pz_x = if i = e + 1 then 1 else 0
    rw [pz_mono_mul]
    unfold pz_x
    by_cases q : e ≤ i
    · rw [if_pos q, Int.one_mul]
      by_cases y : i = e + 1
      · rw [if_pos (by omega), if_pos y]
      · rw [if_neg (by omega), if_neg y]
    · rw [if_neg q, if_neg (by omega)]
theorem fit_mono {e : Nat} {c : Int} (he : e ≤ 12) (h : c.natAbs ≤ 999999999999999999) : fit13 (pz_mono e c) := ⟨fun j _ => by
  show (if j = e then c else 0).natAbs ≤ _
  split
  · exact h
  · exact Nat.zero_le _, fun i hi => if_neg (by omega)⟩
theorem xv_e {e : Nat} (h1 : 1 ≤ e) (he : e ≤ 12) : xv e = some (pz_mono e 1) := by
  unfold xv
  by_cases q : 1 < e
  · rw [if_pos q]
    show zvf (pw pz_x e) = _
    rw [mono_x e]
    exact zvf_y (fit_mono he (by decide))
  · rw [if_neg q, show e = 1 by omega]
    rfl
theorem k_mono (v : Int) (e : Nat) : pz_mul (pz_k v) (pz_mono e 1) = pz_mono e v := by
  funext i
  show pz_c i (pz_mono 0 v) (pz_mono e 1) = if i = e then v else 0
  rw [pz_mono_mul, if_pos (Nat.zero_le _), Nat.sub_zero]
  show v * (if i = e then 1 else 0) = _
  split
  · exact Int.mul_one _
  · exact Int.mul_zero _
section TRS
variable {T : Nat → Int} {tm : Nat}
/-- a term -/
theorem tm_rd {c : Int} {e a0 a : Nat} {R : List Int} (hc : c ≠ 0) (hb : c.natAbs ≤ 999999999999999999) (he : e ≤ 12) (hs : rskp T tm a0 = a) (h : atL T tm a (tmL c e ++ R)) (hr : tlR R) (f d : Nat) (s : Int) : rpr0 T tm (f + 3) 1 d a0 = some (true, rskp T tm (a + tmN c e)) ∧ zv0 T tm (f + 3) 1 d a0 (some pz_one) s = some (pz_mono e ((c.natAbs : Nat) : Int)) ∧ atL T tm (a + tmN c e) R := by
  have hR := h.app.1
  rw [tmL_len] at hR
  by_cases q : c.natAbs = 1 ∧ e ≠ 0
  · have hN : a + tmN c e = a + 1 + (if 1 < e then nmN e + 1 else 0) := by
      unfold tmN
      rw [if_pos q, if_pos (show 0 < e by omega)]
      omega
    unfold tmL at h
    rw [if_pos q, if_pos (show 0 < e by omega), List.nil_append] at h
    have h : atL T tm a (120 :: ((if 1 < e then 94 :: nmL e else []) ++ R)) := h
    obtain ⟨y1, y2⟩ := pr_x hs h hr he (f + 1) d (some pz_one) s
    rw [← hN] at y1
    refine ⟨y1, y2.trans ?_, hR⟩
    rw [xv_e (by omega) he]
    show zvf (pz_mul pz_one (pz_mono e 1)) = _
    rw [pz_one_mul, zvf_y (fit_mono he (by decide)), q.1]
    rfl
  · by_cases q0 : 0 < e
    · have hN : a + tmN c e = a + nmN c.natAbs + 1 + 1 + (if 1 < e then nmN e + 1 else 0) := by
        unfold tmN
        rw [if_neg q, if_pos q0]
        omega
      unfold tmL at h
      rw [if_neg q, if_pos q0, if_pos q0, List.append_assoc, List.append_assoc] at h
      have h : atL T tm a (nmL c.natAbs ++ (42 :: 120 :: ((if 1 < e then 94 :: nmL e else []) ++ R))) := h
      obtain ⟨y1, y2⟩ := pr_nx hs h hr (by omega) he f d (some pz_one) s
      rw [← hN] at y1
      refine ⟨y1, y2.trans ?_, hR⟩
      rw [xv_e (by omega) he]
      show zvm (zvf (pz_mul pz_one (pz_k ((c.natAbs : Nat) : Int)))) (some (pz_mono e 1)) = _
      rw [pz_one_mul, zvf_y (fit_k (by rw [Int.natAbs_natCast]; exact hb))]
      show zvf (pz_mul (pz_k ((c.natAbs : Nat) : Int)) (pz_mono e 1)) = _
      rw [k_mono]
      exact zvf_y (fit_mono he (by rw [Int.natAbs_natCast]; exact hb))
    · have e0 : e = 0 := by omega
      have hN : a + tmN c e = a + nmN c.natAbs := by
        unfold tmN
        rw [if_neg q, if_neg q0, if_neg (show ¬ 1 < e by omega)]
        omega
      unfold tmL at h
      rw [if_neg q, if_neg q0, if_neg q0, if_neg (show ¬ 1 < e by omega), List.append_nil, List.append_nil, List.append_nil] at h
      obtain ⟨y1, y2⟩ := pr_n hs h hr (by omega) (f + 1) d (some pz_one) s
      rw [← hN] at y1
      refine ⟨y1, y2.trans ?_, hR⟩
      show zvf (pz_mul pz_one (pz_k ((c.natAbs : Nat) : Int))) = _
      rw [pz_one_mul, zvf_y (fit_k (by rw [Int.natAbs_natCast]; exact hb)), e0]
      rfl
/-- the terms of the exponents below m, behind others -/
def rsL (f : Nat → Int) : Nat → List Int
  | 0 => []
  | m + 1 => if f m = 0 then rsL f m else 32 :: (if f m < 0 then 45 else 43) :: 32 :: (tmL (f m) m ++ rsL f m)
theorem rwL_rsL (f : Nat → Int) : ∀ m L, L ≠ [] → rwL f m L = L ++ rsL f m
  | 0, L, _ => (List.append_nil L).symm
  | m + 1, L, h => by
    show rwL f m (if f m = 0 then L else L ++ (sgL (f m) L.length ++ tmL (f m) m)) = L ++ (if f m = 0 then rsL f m else 32 :: (if f m < 0 then 45 else 43) :: 32 :: (tmL (f m) m ++ rsL f m))
    by_cases q : f m = 0
    · rw [if_pos q, if_pos q]
      exact rwL_rsL f m L h
    · rw [if_neg q, if_neg q, rwL_rsL f m _ (fun y => h (List.append_eq_nil_iff.mp y).1)]
      unfold sgL
      rw [if_neg (fun y => h (List.length_eq_zero_iff.mp y)), List.append_assoc, List.append_assoc]
      rfl
theorem rsL_tl (f : Nat → Int) : ∀ m, tlR (rsL f m)
  | 0 => Or.inl rfl
  | m + 1 => by
    show tlR (if f m = 0 then rsL f m else 32 :: (if f m < 0 then 45 else 43) :: 32 :: (tmL (f m) m ++ rsL f m))
    by_cases q : f m = 0
    · rw [if_pos q]
      exact rsL_tl f m
    · rw [if_neg q]
      refine Or.inr ⟨_, _, rfl, ?_⟩
      split
      · exact Or.inr rfl
      · exact Or.inl rfl
theorem rsL_nx (f : Nat → Int) : ∀ m, (rsL f m = [] ∧ ∀ j, j < m → f j = 0) ∨ ∃ k, k < m ∧ f k ≠ 0 ∧ (∀ j, k < j → j < m → f j = 0) ∧ rsL f m = 32 :: (if f k < 0 then 45 else 43) :: 32 :: (tmL (f k) k ++ rsL f k)
  | 0 => Or.inl ⟨rfl, fun j hj => absurd hj (Nat.not_lt_zero _)⟩
  | m + 1 => by
    have e : rsL f (m + 1) = if f m = 0 then rsL f m else 32 :: (if f m < 0 then 45 else 43) :: 32 :: (tmL (f m) m ++ rsL f m) := rfl
    by_cases q : f m = 0
    · rw [if_pos q] at e
      rcases rsL_nx f m with ⟨h1, h2⟩ | ⟨k, h1, h2, h3, h4⟩
      · refine Or.inl ⟨e.trans h1, fun j hj => ?_⟩
        by_cases y : j = m
        · rw [y]
          exact q
        · exact h2 j (by omega)
      · refine Or.inr ⟨k, by omega, h2, fun j a b => ?_, e.trans h4⟩
        by_cases y : j = m
        · rw [y]
          exact q
        · exact h3 j a (by omega)
    · rw [if_neg q] at e
      exact Or.inr ⟨m, by omega, q, fun j a b => absurd a (by omega), e⟩
theorem tmL_hd {c : Int} {e : Nat} (hc : c ≠ 0) : ∃ (x : Int) (R : List Int), tmL c e = x :: R ∧ ((48 ≤ x ∧ x ≤ 57) ∨ x = 120) := by
  unfold tmL
  by_cases q : c.natAbs = 1 ∧ e ≠ 0
  · rw [if_pos q, if_pos (show 0 < e by omega)]
    exact ⟨120, _, rfl, Or.inr rfl⟩
  · obtain ⟨x, R, h, h1, h2⟩ := nmL_hd c.natAbs
    rw [if_neg q, h]
    exact ⟨x, _, rfl, Or.inl ⟨h1, h2⟩⟩
def upF (f : Nat → Int) (k : Nat) : pz_P := fun j => if k ≤ j ∧ j < 13 then f j else 0
theorem fit_up {f : Nat → Int} (hf : ∀ j, j < 13 → (f j).natAbs ≤ 999999999999999999) (k : Nat) : fit13 (upF f k) := ⟨fun j hj => by
  show (if k ≤ j ∧ j < 13 then f j else 0).natAbs ≤ _
  split
  · exact hf j hj
  · exact Nat.zero_le _, fun i hi => if_neg (by omega)⟩
theorem up_z {f : Nat → Int} {k l : Nat} (h : k ≤ l) (hz : ∀ j, k ≤ j → j < l → f j = 0) : upF f k = upF f l := funext fun j => by
  unfold upF
  by_cases q : l ≤ j ∧ j < 13
  · rw [if_pos q, if_pos ⟨by omega, q.2⟩]
  · rw [if_neg q]
    by_cases y : k ≤ j ∧ j < 13
    · rw [if_pos y]
      exact hz j y.1 (by omega)
    · rw [if_neg y]
theorem up_s {f : Nat → Int} {e : Nat} (he : e ≤ 12) : (fun j => upF f (e + 1) j + (if f e < 0 then -1 else 1) * pz_mono e (((f e).natAbs : Nat) : Int) j) = upF f e := funext fun j => by
  show (if e + 1 ≤ j ∧ j < 13 then f j else 0) + (if f e < 0 then -1 else 1) * (if j = e then (((f e).natAbs : Nat) : Int) else 0) = if e ≤ j ∧ j < 13 then f j else 0
  by_cases q : j = e
  · subst q
    rw [if_neg (show ¬ (j + 1 ≤ j ∧ j < 13) by omega), if_pos rfl, if_pos (show j ≤ j ∧ j < 13 from ⟨Nat.le_refl _, by omega⟩)]
    by_cases y : f j < 0
    · rw [if_pos y]
      omega
    · rw [if_neg y]
      omega
  · rw [if_neg q, Int.mul_zero, Int.add_zero]
    by_cases y : e + 1 ≤ j ∧ j < 13
    · rw [if_pos y, if_pos ⟨by omega, y.2⟩]
    · rw [if_neg y, if_neg (by omega)]
/-- a sum from a term on -/
theorem sm_rd {f : Nat → Int} (hf : ∀ j, j < 13 → (f j).natAbs ≤ 999999999999999999) (d : Nat) : ∀ n e, e ≤ n → e ≤ 12 → f e ≠ 0 → ∀ a0 a F, rskp T tm a0 = a → atL T tm a (tmL (f e) e ++ rsL f e) → e + 4 ≤ F → rpr0 T tm F 2 d a0 = some (true, tm) ∧ zv0 T tm F 2 d a0 (some (upF f (e + 1))) (if f e < 0 then -1 else 1) = some (upF f 0) := by
  intro n
  induction n with
  | zero =>
    intro e h0
    intro he hne a0 a F hs h hF
    obtain rfl : e = 0 := by omega
    obtain ⟨F, rfl⟩ : ∃ y, F = y + 3 + 1 := ⟨F - 4, by omega⟩
    obtain ⟨y1, y2, y3⟩ := tm_rd hne (hf 0 (by decide)) he hs h (Or.inl rfl) F d 1
    have y3 : atL T tm (a + tmN (f 0) 0) [] := y3
    have hend : a + tmN (f 0) 0 = tm := y3.1
    rw [hend] at y1 y3
    have st : rskp T tm tm = tm := sk_e y3
    rw [st] at y1
    have k1 : rtk T tm 43 tm = none := tk_n st (Or.inl rfl)
    have k2 : rtk T tm 45 (rskp T tm tm) = none := by rw [st]; exact tk_n st (Or.inl rfl)
    constructor
    · unfold rpr0
      rw [y1]
      show (match rtk T tm 43 tm with
        | some e => rpr0 T tm (F + 3) 2 d e
        | none => match rtk T tm 45 (rskp T tm tm) with
          | some e => rpr0 T tm (F + 3) 2 d e
          | none => some (true, rskp T tm tm)) = _
      rw [k1, k2]
      show some (true, rskp T tm tm) = _
      rw [st]
    · unfold zv0
      rw [y1]
      show (match rtk T tm 43 tm with
        | some e => zv0 T tm (F + 3) 2 d e (zva (some (upF f (0 + 1))) (if f 0 < 0 then -1 else 1) (zv0 T tm (F + 3) 1 d a0 (some pz_one) 1)) 1
        | none => match rtk T tm 45 (rskp T tm tm) with
          | some e => zv0 T tm (F + 3) 2 d e (zva (some (upF f (0 + 1))) (if f 0 < 0 then -1 else 1) (zv0 T tm (F + 3) 1 d a0 (some pz_one) 1)) (-1)
          | none => zva (some (upF f (0 + 1))) (if f 0 < 0 then -1 else 1) (zv0 T tm (F + 3) 1 d a0 (some pz_one) 1)) = _
      rw [k1, k2, y2]
      show zvf (fun j => upF f (0 + 1) j + (if f 0 < 0 then -1 else 1) * pz_mono 0 (((f 0).natAbs : Nat) : Int) j) = _
      rw [up_s (by decide)]
      exact zvf_y (fit_up hf 0)
  | succ n ih =>
    intro e h0
    intro he hne a0 a F hs h hF
    obtain ⟨F, rfl⟩ : ∃ y, F = y + 3 + 1 := ⟨F - 4, by omega⟩
    obtain ⟨y1, y2, y3⟩ := tm_rd hne (hf e (by omega)) he hs h (rsL_tl f e) F d 1
    have hva : zva (some (upF f (e + 1))) (if f e < 0 then -1 else 1) (zv0 T tm (F + 3) 1 d a0 (some pz_one) 1) = some (upF f e) := by
      rw [y2]
      show zvf (fun j => upF f (e + 1) j + (if f e < 0 then -1 else 1) * pz_mono e (((f e).natAbs : Nat) : Int) j) = _
      rw [up_s he]
      exact zvf_y (fit_up hf e)
    rcases rsL_nx f e with ⟨h1, h2⟩ | ⟨k, hk, hnk, hz, hL⟩
    · rw [h1] at y3
      have hend : a + tmN (f e) e = tm := y3.1
      rw [hend] at y1 y3
      have st : rskp T tm tm = tm := sk_e y3
      rw [st] at y1
      have k1 : rtk T tm 43 tm = none := tk_n st (Or.inl rfl)
      have k2 : rtk T tm 45 (rskp T tm tm) = none := by rw [st]; exact tk_n st (Or.inl rfl)
      constructor
      · unfold rpr0
        rw [y1]
        show (match rtk T tm 43 tm with
          | some e => rpr0 T tm (F + 3) 2 d e
          | none => match rtk T tm 45 (rskp T tm tm) with
            | some e => rpr0 T tm (F + 3) 2 d e
            | none => some (true, rskp T tm tm)) = _
        rw [k1, k2]
        show some (true, rskp T tm tm) = _
        rw [st]
      · unfold zv0
        rw [y1]
        show (match rtk T tm 43 tm with
          | some e => zv0 T tm (F + 3) 2 d e _ 1
          | none => match rtk T tm 45 (rskp T tm tm) with
            | some e => zv0 T tm (F + 3) 2 d e _ (-1)
            | none => zva (some (upF f (e + 1))) (if f e < 0 then -1 else 1) (zv0 T tm (F + 3) 1 d a0 (some pz_one) 1)) = _
        rw [k1, k2, hva, up_z (k := 0) (Nat.zero_le e) (fun j _ b => h2 j b)]
    · rw [hL] at y3
      obtain ⟨_, _, z1⟩ := y3.head
      obtain ⟨z2, _, z3⟩ := z1.head
      have hsg : (if f k < 0 then (45 : Int) else 43) = 45 ∨ (if f k < 0 then (45 : Int) else 43) = 43 := by split <;> simp
      have hs1 : rskp T tm (a + tmN (f e) e) = a + tmN (f e) e + 1 := (sk_s y3).trans (sk_n z1 (by omega))
      rw [hs1] at y1
      obtain ⟨x9, R9, e9, e8⟩ := tmL_hd (e := k) hnk
      have z4 := z3.head.2.2
      have z5 : atL T tm (a + tmN (f e) e + 1 + 1 + 1) (x9 :: (R9 ++ rsL f k)) := by
        rw [e9] at z4
        exact z4
      have hs2 : rskp T tm (a + tmN (f e) e + 1 + 1) = a + tmN (f e) e + 1 + 1 + 1 := (sk_s z3).trans (sk_n z5 (by omega))
      obtain ⟨i1, i2⟩ := ih k (by omega) (by omega) hnk _ _ (F + 3) hs2 z4 (by omega)
      have hup : upF f e = upF f (k + 1) := (up_z (k := k + 1) (l := e) (by omega) (fun j a b => hz j (by omega) b)).symm
      rw [← hup] at i2
      have hs0 : rskp T tm (a + tmN (f e) e + 1) = a + tmN (f e) e + 1 := sk_n z1 (by omega)
      by_cases q : f k < 0
      · rw [if_pos q] at z1 z2 i2
        have k1 : rtk T tm 43 (a + tmN (f e) e + 1) = none := tk_n hs0 (Or.inr (by rw [z2]; decide))
        have k2 : rtk T tm 45 (rskp T tm (a + tmN (f e) e + 1)) = some (a + tmN (f e) e + 1 + 1) := by
          rw [hs0]
          exact tk_y z1 (by decide)
        constructor
        · unfold rpr0
          rw [y1]
          show (match rtk T tm 43 (a + tmN (f e) e + 1) with
            | some e => rpr0 T tm (F + 3) 2 d e
            | none => match rtk T tm 45 (rskp T tm (a + tmN (f e) e + 1)) with
              | some e => rpr0 T tm (F + 3) 2 d e
              | none => some (true, rskp T tm (a + tmN (f e) e + 1))) = _
          rw [k1, k2]
          exact i1
        · unfold zv0
          rw [y1]
          show (match rtk T tm 43 (a + tmN (f e) e + 1) with
            | some e' => zv0 T tm (F + 3) 2 d e' (zva (some (upF f (e + 1))) (if f e < 0 then -1 else 1) (zv0 T tm (F + 3) 1 d a0 (some pz_one) 1)) 1
            | none => match rtk T tm 45 (rskp T tm (a + tmN (f e) e + 1)) with
              | some e' => zv0 T tm (F + 3) 2 d e' (zva (some (upF f (e + 1))) (if f e < 0 then -1 else 1) (zv0 T tm (F + 3) 1 d a0 (some pz_one) 1)) (-1)
              | none => zva (some (upF f (e + 1))) (if f e < 0 then -1 else 1) (zv0 T tm (F + 3) 1 d a0 (some pz_one) 1)) = _
          rw [k1, k2, hva]
          exact i2
      · rw [if_neg q] at z1 z2 i2
        have k1 : rtk T tm 43 (a + tmN (f e) e + 1) = some (a + tmN (f e) e + 1 + 1) := tk_y z1 (by decide)
        constructor
        · unfold rpr0
          rw [y1]
          show (match rtk T tm 43 (a + tmN (f e) e + 1) with
            | some e => rpr0 T tm (F + 3) 2 d e
            | none => match rtk T tm 45 (rskp T tm (a + tmN (f e) e + 1)) with
              | some e => rpr0 T tm (F + 3) 2 d e
              | none => some (true, rskp T tm (a + tmN (f e) e + 1))) = _
          rw [k1]
          exact i1
        · unfold zv0
          rw [y1]
          show (match rtk T tm 43 (a + tmN (f e) e + 1) with
            | some e' => zv0 T tm (F + 3) 2 d e' (zva (some (upF f (e + 1))) (if f e < 0 then -1 else 1) (zv0 T tm (F + 3) 1 d a0 (some pz_one) 1)) 1
            | none => match rtk T tm 45 (rskp T tm (a + tmN (f e) e + 1)) with
              | some e' => zv0 T tm (F + 3) 2 d e' (zva (some (upF f (e + 1))) (if f e < 0 then -1 else 1) (zv0 T tm (F + 3) 1 d a0 (some pz_one) 1)) (-1)
              | none => zva (some (upF f (e + 1))) (if f e < 0 then -1 else 1) (zv0 T tm (F + 3) 1 d a0 (some pz_one) 1)) = _
          rw [k1, hva]
          exact i2
end TRS
/-! What stands written is read again: the whole text. -/
theorem rwL_z {f : Nat → Int} {L : List Int} {k : Nat} : ∀ m, (∀ j, k ≤ j → j < k + m → f j = 0) → rwL f (k + m) L = rwL f k L
  | 0, _ => rfl
  | m + 1, h => by
    show rwL f (k + m) (if f (k + m) = 0 then L else _) = _
    rw [if_pos (h (k + m) (by omega) (by omega))]
    exact rwL_z m (fun j a b => h j a (by omega))
theorem rPd_b (tm : Nat) : 16 ≤ rPd tm 8 + 2 * tm + 2 := by
  show 16 ≤ 1 + 8 * (2 * tm + 8) + 2 * tm + 2
  omega
section TRW
variable {T : Nat → Int} {tm : Nat}
theorem rd_of (h : rpr0 T tm (rdF tm) 3 8 0 = some (true, tm)) : rdErr T tm = -1 := by
  have e : rdR T tm = (true, tm) := by
    unfold rdR
    rw [h]
    rfl
  have s : rskp T tm tm = tm := by
    show rsk T (tm - tm) tm = tm
    rw [Nat.sub_self]
    rfl
  unfold rdErr
  rw [e, if_pos rfl, s, if_pos rfl]
theorem wr_rd {f : Nat → Int} (hf : ∀ j, j < 13 → (f j).natAbs ≤ 999999999999999999) (h : atL T tm 0 (wrL f)) : rdErr T tm = -1 ∧ rdV T tm = some (upF f 0) := by
  have htm : 1 ≤ tm := by
    have h1 := h.1
    unfold wrL at h1
    split at h1
    · have h2 : ([48] : List Int).length = 1 := rfl
      omega
    · rename_i q
      have h2 : (rwL f 13 []).length ≠ 0 := fun y => q (List.length_eq_zero_iff.mp y)
      omega
  obtain ⟨G, hG, hG2⟩ : ∃ G, rdF tm = G + 1 ∧ 16 ≤ G := ⟨rPd tm 8 + 2 * tm + 2, rfl, rPd_b tm⟩
  have key : rpr0 T tm (G + 1) 3 8 0 = some (true, tm) ∧ zv0 T tm (G + 1) 3 8 0 none 1 = some (upF f 0) := by
    have hl := fdg_le f 13
    rcases Nat.eq_zero_or_pos (fdg f 13) with q | q
    · have hz : ∀ j, j < 13 → f j = 0 := fun j hj => fdg_zero f 13 j (by omega) hj
      have e : rwL f 13 [] = [] := rwL_z (k := 0) 13 (fun j _ b => hz j (by omega))
      unfold wrL at h
      rw [if_pos e] at h
      have h : atL T tm 0 (nmL 0 ++ []) := h
      have hs : rskp T tm 0 = 0 := (nm_sk h).1
      obtain ⟨G2, rfl⟩ : ∃ y, G = y + 2 + 1 := ⟨G - 3, by omega⟩
      obtain ⟨y1, y2⟩ := pr_n hs h (Or.inl rfl) (by decide) G2 8 (some pz_one) 1
      have hR := (nm_val h (fun c R' y => by cases y) (by decide)).2.2
      have hend : 0 + nmN 0 = tm := hR.1
      have y1 : rpr0 T tm (G2 + 2) 1 8 0 = some (true, rskp T tm (0 + nmN 0)) := y1
      have y2 : zv0 T tm (G2 + 2) 1 8 0 (some pz_one) 1 = zvm (some pz_one) (some (pz_k ((0 : Nat) : Int))) := y2
      rw [hend] at hR
      have st : rskp T tm tm = tm := sk_e hR
      rw [hend, st] at y1
      have k1 : rtk T tm 43 tm = none := tk_n st (Or.inl rfl)
      have k2 : rtk T tm 45 (rskp T tm tm) = none := by rw [st]; exact tk_n st (Or.inl rfl)
      have k0 : rtk T tm 45 0 = none := tk_n hs (Or.inr (by have := (nm_sk h).2.1; omega))
      have hu : upF f 0 = pz_0 := funext fun j => by
        unfold upF
        split
        · rename_i c
          exact hz j c.2
        · rfl
      constructor
      · unfold rpr0
        rw [k0]
        show rpr0 T tm (G2 + 2 + 1) 2 8 (rskp T tm 0) = _
        rw [hs]
        unfold rpr0
        rw [y1]
        show (match rtk T tm 43 tm with
          | some e => rpr0 T tm (G2 + 2) 2 8 e
          | none => match rtk T tm 45 (rskp T tm tm) with
            | some e => rpr0 T tm (G2 + 2) 2 8 e
            | none => some (true, rskp T tm tm)) = _
        rw [k1, k2]
        show some (true, rskp T tm tm) = _
        rw [st]
      · unfold zv0
        rw [k0]
        show zv0 T tm (G2 + 2 + 1) 2 8 (rskp T tm 0) (some pz_0) 1 = _
        rw [hs]
        unfold zv0
        rw [y1]
        show (match rtk T tm 43 tm with
          | some e => zv0 T tm (G2 + 2) 2 8 e (zva (some pz_0) 1 (zv0 T tm (G2 + 2) 1 8 0 (some pz_one) 1)) 1
          | none => match rtk T tm 45 (rskp T tm tm) with
            | some e => zv0 T tm (G2 + 2) 2 8 e (zva (some pz_0) 1 (zv0 T tm (G2 + 2) 1 8 0 (some pz_one) 1)) (-1)
            | none => zva (some pz_0) 1 (zv0 T tm (G2 + 2) 1 8 0 (some pz_one) 1)) = _
        rw [k1, k2, y2]
        show zva (some pz_0) 1 (zvf (pz_mul pz_one (pz_k ((0 : Nat) : Int)))) = _
        rw [pz_one_mul, zvf_y (fit_k (by decide)), hu]
        show zvf (fun j => pz_0 j + 1 * pz_k ((0 : Nat) : Int) j) = _
        rw [show (fun j => pz_0 j + 1 * pz_k ((0 : Nat) : Int) j) = pz_0 from funext fun j => by
          show (0 : Int) + 1 * (if j = 0 then ((0 : Nat) : Int) else 0) = 0
          split <;> rfl]
        exact zvf_y fit_0
    · obtain ⟨e, he⟩ : ∃ e, fdg f 13 = e + 1 := ⟨fdg f 13 - 1, by omega⟩
      have hne : f e ≠ 0 := by
        have hn := fdg_ne f 13 (by omega)
        rw [he, Nat.add_sub_cancel] at hn
        exact hn
      have hz : ∀ j, e + 1 ≤ j → j < 13 → f j = 0 := fun j a b => fdg_zero f 13 j (by omega) b
      have eL : rwL f 13 [] = sgL (f e) 0 ++ (tmL (f e) e ++ rsL f e) := by
        have e1 := rwL_z (f := f) (L := []) (k := e + 1) (13 - (e + 1)) (fun j a b => hz j a (by omega))
        rw [show e + 1 + (13 - (e + 1)) = 13 by omega] at e1
        rw [e1]
        show rwL f e (if f e = 0 then [] else [] ++ (sgL (f e) 0 ++ tmL (f e) e)) = _
        obtain ⟨x9, R9, e9, _⟩ := tmL_hd (e := e) hne
        rw [if_neg hne, List.nil_append, rwL_rsL f e _ (fun y => by
          rw [e9] at y
          exact absurd (List.append_eq_nil_iff.mp y).2 (by simp)), List.append_assoc]
      obtain ⟨x9, R9, e9, e8⟩ := tmL_hd (e := e) hne
      have hw : wrL f = sgL (f e) 0 ++ (tmL (f e) e ++ rsL f e) := by
        unfold wrL
        rw [if_neg (fun y => by
          rw [eL, e9] at y
          exact absurd (List.append_eq_nil_iff.mp y).2 (by simp)), eL]
      rw [hw] at h
      have hup : upF f (e + 1) = pz_0 := funext fun j => by
        unfold upF
        split
        · rename_i c
          exact hz j c.1 c.2
        · rfl
      by_cases q : f e < 0
      · have hs0 : sgL (f e) 0 = [45] := by
          unfold sgL
          rw [if_pos rfl, if_pos q]
        rw [hs0] at h
        have h : atL T tm 0 (45 :: (tmL (f e) e ++ rsL f e)) := h
        have k0 : rtk T tm 45 0 = some (0 + 1) := tk_y h (by decide)
        obtain ⟨_, _, h1⟩ := h.head
        have h2 : atL T tm (0 + 1) (x9 :: (R9 ++ rsL f e)) := by
          have h3 := h1
          rw [e9] at h3
          exact h3
        obtain ⟨i1, i2⟩ := sm_rd hf 8 e e (Nat.le_refl _) (by omega) hne (0 + 1) (0 + 1) G (sk_n h2 (by omega)) h1 (by omega)
        rw [if_pos q, hup] at i2
        constructor
        · unfold rpr0
          rw [k0]
          exact i1
        · unfold zv0
          rw [k0]
          exact i2
      · have hs0 : sgL (f e) 0 = [] := by
          unfold sgL
          rw [if_pos rfl, if_neg q]
        rw [hs0, List.nil_append] at h
        have h2 : atL T tm 0 (x9 :: (R9 ++ rsL f e)) := by
          have h3 := h
          rw [e9] at h3
          exact h3
        have hs : rskp T tm 0 = 0 := sk_n h2 (by omega)
        have k0 : rtk T tm 45 0 = none := tk_n hs (Or.inr (by rw [h2.head.1]; omega))
        obtain ⟨i1, i2⟩ := sm_rd hf 8 e e (Nat.le_refl _) (by omega) hne 0 0 G hs h (by omega)
        rw [if_neg q, hup] at i2
        constructor
        · unfold rpr0
          rw [k0]
          show rpr0 T tm G 2 8 (rskp T tm 0) = _
          rw [hs]
          exact i1
        · unfold zv0
          rw [k0]
          show zv0 T tm G 2 8 (rskp T tm 0) (some pz_0) 1 = _
          rw [hs]
          exact i2
  constructor
  · refine rd_of ?_
    rw [hG]
    exact key.1
  · unfold rdV
    rw [hG]
    exact key.2
end TRW
/-! errors: the class finds none. -/
theorem fdg_mul0 {f k : Nat → Int} (h : fdg f 13 = 0 ∨ fdg k 13 = 0) : fdg (pz_mul (rw13 f) (rw13 k)) 25 = 0 := by
  have z : ∀ y : Nat → Int, fdg y 13 = 0 → rw13 y = pz_0 := fun y hy => funext fun j => by
    unfold rw13
    split
    · rename_i c
      exact fdg_zero y 13 j (by omega) c
    · rfl
  have e : pz_mul (rw13 f) (rw13 k) = pz_0 := by
    rcases h with h | h
    · rw [z f h]
      exact pz_mul_0L _
    · rw [z k h]
      exact funext fun j => pz_c_zeroR j _
  rw [e]
  exact fdg_of (Nat.zero_le _) (fun _ _ _ => rfl) (Or.inl rfl)
theorem fdg_mul1 {f k : Nat → Int} (h1 : 1 ≤ fdg f 13) (h2 : 1 ≤ fdg k 13) : fdg (pz_mul (rw13 f) (rw13 k)) 25 = fdg f 13 + fdg k 13 - 1 := by
  have l1 := fdg_le f 13
  have l2 := fdg_le k 13
  obtain ⟨p, hp⟩ : ∃ p, fdg f 13 = p + 1 := ⟨fdg f 13 - 1, by omega⟩
  obtain ⟨r, hr⟩ : ∃ r, fdg k 13 = r + 1 := ⟨fdg k 13 - 1, by omega⟩
  have b1 : pz_lt (rw13 f) (p + 1) := fun i hi => rw13_top i (by omega)
  have b2 : pz_lt (rw13 k) (r + 1) := fun i hi => rw13_top i (by omega)
  have n1 : rw13 f p ≠ 0 := by
    have hn := fdg_ne f 13 h1
    rw [hp, Nat.add_sub_cancel] at hn
    rw [rw13_in (by omega)]
    exact hn
  have n2 : rw13 k r ≠ 0 := by
    have hn := fdg_ne k 13 h2
    rw [hr, Nat.add_sub_cancel] at hn
    rw [rw13_in (by omega)]
    exact hn
  rw [hp, hr, show p + 1 + (r + 1) - 1 = p + r + 1 by omega]
  refine fdg_of (by omega) (fun i a _ => (b1.mul b2 (c := p + r + 1) (by omega)) i a) (Or.inr ?_)
  rw [Nat.add_sub_cancel]
  have e : pz_mul (rw13 f) (rw13 k) (p + r) = rw13 f p * rw13 k r := pz_c_lead p _ _ r b1 b2
  rw [e]
  exact fun y => (Int.mul_eq_zero.mp y).elim n1 n2
theorem b255 : ∀ y, y < 128 → (jn ((y : Nat) : Int) &&& Int32.ofInt 255).toInt = ((y : Nat) : Int) := by decide
/-- all signs are small -/
def smS (L : List Int) : Prop := ∀ c ∈ L, 0 ≤ c ∧ c < 128
theorem smS.app {A B : List Int} (a : smS A) (b : smS B) : smS (A ++ B) := fun c hc => (List.mem_append.mp hc).elim (a c) (b c)
theorem smS.cons {x : Int} {B : List Int} (a : 0 ≤ x ∧ x < 128) (b : smS B) : smS (x :: B) := fun c hc => by
  rcases List.mem_cons.mp hc with e | e
  · rw [e]
    exact a
  · exact b c e
theorem smS.nil : smS [] := fun c hc => by cases hc
theorem dgl_s (v : Nat) : ∀ m, smS (dgl v m)
  | 0 => smS.nil
  | m + 1 => smS.cons (by have := Nat.mod_lt (v / 10 ^ m) (show 0 < 10 by decide); omega) (dgl_s v m)
theorem tmL_s (c : Int) (e : Nat) : smS (tmL c e) := by
  unfold tmL
  refine smS.app ?_ (smS.app ?_ ?_)
  · split
    · exact smS.nil
    · refine smS.app (dgl_s _ _) ?_
      split
      · exact smS.cons (by decide) smS.nil
      · exact smS.nil
  · split
    · exact smS.cons (by decide) smS.nil
    · exact smS.nil
  · split
    · exact smS.cons (by decide) (dgl_s _ _)
    · exact smS.nil
theorem sgL_s (c : Int) (w : Nat) : smS (sgL c w) := by
  unfold sgL
  split
  · split
    · exact smS.cons (by decide) smS.nil
    · exact smS.nil
  · refine smS.cons (by decide) (smS.cons ?_ (smS.cons (by decide) smS.nil))
    split <;> decide
theorem rwL_s (f : Nat → Int) : ∀ m L, smS L → smS (rwL f m L)
  | 0, _, h => h
  | m + 1, L, h => rwL_s f m _ (by
    split
    · exact h
    · exact h.app ((sgL_s _ _).app (tmL_s _ _)))
theorem wrL_s (f : Nat → Int) : smS (wrL f) := by
  unfold wrL
  split
  · exact smS.cons (by decide) smS.nil
  · exact rwL_s f 13 [] smS.nil
section MAE
variable {g h : mj_H} {n D a b : Nat} {V : Nat → Int} {X : Nat → Nat → Int}
theorem mX_addsDegrees (m : jM g n V X h) (ka : cK a = 2) (kb : cK b = 2) (hb_a : sml (X a)) (hb_b : sml (X b)) : mj_Ok (D + 4) 15 [.ref 19, .ref a, .ref b] h (fun z => ∃ (V2 : Nat → Int) (X2 : Nat → Nat → Int) (h2 : mj_H) (y : Int), jM g n V2 X2 h2 ∧ dF V V2 ∧ xF (fun _ => False) X X2 ∧ y = 1 ∧ z = (.inl (some (.int (jn y))), h2)) := by
  refine mj_Ok.of (M := mj_m15) rfl rfl rfl ?_
  refine mj_T.pl rfl rfl rfl rfl ?_
  refine mT_get m 11 cq_d19 (by decide) rfl rfl ?_
  refine mj_T.pl rfl rfl rfl rfl ?_
  refine jT.lc 1 rfl rfl ?_
  refine mj_T.call rfl rfl (Nat.le_of_ble_eq_true rfl) (Nat.le_of_ble_eq_true rfl) (mV_of m 13 cq_d20 (by decide) rfl (by decide) rfl _) rfl (mj_Ok.up (by omega) (mP_load1 (D := 0) m cq_d20 ka (by decide +kernel) (by exact hb_a) (fun i hi => by have := mK_z.2.2.2.2.1 i hi; omega))) (fun v g1 hq => ?_) (fun i g1 hq => ?_)
  rotate_left
  · obtain ⟨_, _, hq⟩ := hq; cases hq
  obtain ⟨_, m2, hq⟩ := hq
  cases hq
  refine mj_T.eq (pc2 := 9) (st2 := []) ?_ rfl rfl rfl rfl
  refine mj_T.pl rfl rfl rfl rfl ?_
  refine mT_get m2 11 cq_d19 (by decide) rfl rfl ?_
  refine mj_T.pl rfl rfl rfl rfl ?_
  refine jT.lc 1 rfl rfl ?_
  refine mj_T.call rfl rfl (Nat.le_of_ble_eq_true rfl) (Nat.le_of_ble_eq_true rfl) (mV_of m2 13 cq_d50 (by decide) rfl (by decide) rfl _) rfl (mj_Ok.up (by omega) (mP_load1 (D := 0) m2 cq_d50 kb (by decide +kernel) (by rw [show (xup X 20 2 ((fdg (X a) 13 : Int) - 1)) b = X b from (funext fun j => xup_ne _ _ (Or.inl (kR_ne kb).1))]; exact hb_b) (fun i hi => by have := mK_z.2.2.2.2.1 i hi; omega))) (fun v g3 hq => ?_) (fun i g3 hq => ?_)
  rotate_left
  · obtain ⟨_, _, hq⟩ := hq; cases hq
  obtain ⟨_, m4, hq⟩ := hq
  cases hq
  rw [show (xup X 20 2 ((fdg (X a) 13 : Int) - 1)) b = X b from (funext fun j => xup_ne _ _ (Or.inl (kR_ne kb).1))] at m4
  refine mj_T.eq (pc2 := 18) (st2 := []) ?_ rfl rfl rfl rfl
  iterate 2 refine mj_T.pl rfl rfl rfl rfl ?_
  refine mT_get m4 11 cq_d19 (by decide) rfl rfl ?_
  refine mj_T.pl rfl rfl rfl rfl ?_
  refine mT_get m4 11 cq_d19 (by decide) rfl rfl ?_
  refine mj_T.pl rfl rfl rfl rfl ?_
  refine mT_get m4 11 cq_d19 (by decide) rfl rfl ?_
  refine mj_T.call rfl rfl (Nat.le_of_ble_eq_true rfl) (Nat.le_of_ble_eq_true rfl) (mV_of m4 11 cq_d19 (by decide) rfl (by decide) rfl _) rfl (mD_times2 (D := D) m4 ka kb hb_a hb_b) (fun v g1 hq => ?_) (fun i g1 hq => ?_)
  rotate_left
  · obtain ⟨_, _, _, _, hq⟩ := hq; cases hq
  obtain ⟨z1, z2, _, m9, hq⟩ := hq
  cases hq
  have hd : dF V (pfl (scr (pfl (pfl V 20 (X a) 13) 50 (X b) 13) z1 z2) 110 (pz_mul (rw13 (X a)) (rw13 (X b))) 25) := (dF.pfl (by omega)).tr ((dF.pfl (by omega)).tr ((dF.scr _ z1 z2).tr (dF.pfl (by omega))))
  have hx : xF (fun _ => False) X (xup (xup (xup X 20 2 ((fdg (X a) 13 : Int) - 1)) 50 2 ((fdg (X b) 13 : Int) - 1)) 110 2 ((fdg (pz_mul (rw13 (X a)) (rw13 (X b))) 25 : Int) - 1)) := (xF.deg (by omega)).tr ((xF.deg (by omega)).tr (xF.deg (by omega)))
  have la := fdg_le (X a) 13
  have lb := fdg_le (X b) 13
  have lp := fdg_le (pz_mul (rw13 (X a)) (rw13 (X b))) 25
  generalize hXX : (xup (xup (xup X 20 2 ((fdg (X a) 13 : Int) - 1)) 50 2 ((fdg (X b) 13 : Int) - 1)) 110 2 ((fdg (pz_mul (rw13 (X a)) (rw13 (X b))) 25 : Int) - 1)) = X9 at m9 hx
  have v20 : X9 20 2 = (fdg (X a) 13 : Int) - 1 := by rw [← hXX, xup_ne _ _ (Or.inl (by decide)), xup_ne _ _ (Or.inl (by decide)), xup_at]
  have v50 : X9 50 2 = (fdg (X b) 13 : Int) - 1 := by rw [← hXX, xup_ne _ _ (Or.inl (by decide)), xup_at]
  have v110 : X9 110 2 = (fdg (pz_mul (rw13 (X a)) (rw13 (X b))) 25 : Int) - 1 := by rw [← hXX, xup_at]
  clear hXX
  refine mj_T.eq (pc2 := 34) (st2 := [.int (jn 1)]) ?_ rfl rfl rfl rfl
  have t74 : ∀ z : Int, -2 ≤ z ∧ z ≤ 24 → ((fdg (pz_mul (rw13 (X a)) (rw13 (X b))) 25 : Nat) : Int) - 1 = z → mj_T (D + 3) mj_m15 74 [some (.ref 19), some (.ref a), some (.ref b), none] [.int (jn z)] g1 (fun z => ∃ (V2 : Nat → Int) (X2 : Nat → Nat → Int) (h2 : mj_H) (y : Int), jM g n V2 X2 h2 ∧ dF V V2 ∧ xF (fun _ => False) X X2 ∧ y = 1 ∧ z = (.inl (some (.int (jn y))), h2)) := fun z hz he => by
    refine mj_T.pl (loc' := [some (.ref 19), some (.ref a), some (.ref b), some (.int (jn z))]) rfl rfl rfl rfl ?_
    refine mj_T.pl rfl rfl rfl rfl ?_
    refine mT_get m9 11 cq_d19 (by decide) rfl rfl ?_
    refine mT_get (v := .int (jn ((fdg (pz_mul (rw13 (X a)) (rw13 (X b))) 25 : Int) - 1))) m9 13 cq_d110 (by decide) rfl (congrArg (fun z : Int => some (Value.int (jn z))) v110) ?_
    refine mj_T.pl rfl rfl rfl rfl ?_
    refine mj_T.icmp (a := ((fdg (pz_mul (rw13 (X a)) (rw13 (X b))) 25 : Int) - 1)) (b := z) rfl ⟨by omega, by omega⟩ ⟨by omega, by omega⟩ (fun hne => ?_) (fun _ => ?_)
    · exfalso
      simp only [jc, Bool.not_eq_true', Bool.not_eq_false', decide_eq_true_eq, decide_eq_false_iff_not] at hne
      omega
    · iterate 2 refine mj_T.pl rfl rfl rfl rfl ?_
      exact mj_T.ret rfl rfl rfl ⟨_, _, _, 1, m9, hd, hx, rfl, rfl⟩
  have t55 : (fdg (X a) 13 = 0 ∨ fdg (X b) 13 = 0) → mj_T (D + 3) mj_m15 55 [some (.ref 19), some (.ref a), some (.ref b), none] [] g1 (fun z => ∃ (V2 : Nat → Int) (X2 : Nat → Nat → Int) (h2 : mj_H) (y : Int), jM g n V2 X2 h2 ∧ dF V V2 ∧ xF (fun _ => False) X X2 ∧ y = 1 ∧ z = (.inl (some (.int (jn y))), h2)) := by
    intro hzz
    iterate 2 refine mj_T.pl rfl rfl rfl rfl ?_
    exact t74 (-1) ⟨by decide, by decide⟩ (by rw [fdg_mul0 hzz]; rfl)
  iterate 2 refine mj_T.pl rfl rfl rfl rfl ?_
  refine mT_get m9 11 cq_d19 (by decide) rfl rfl ?_
  refine mT_get (v := .int (jn ((fdg (X a) 13 : Int) - 1))) m9 13 cq_d20 (by decide) rfl (congrArg (fun z : Int => some (Value.int (jn z))) v20) ?_
  refine mj_T.if0 (a := (fdg (X a) 13 : Int) - 1) rfl ⟨by omega, by omega⟩ (fun qa => t55 (Or.inl (by simp only [jc, Bool.not_eq_true', Bool.not_eq_false', decide_eq_true_eq, decide_eq_false_iff_not] at qa; omega))) (fun qa => ?_)
  refine mj_T.pl rfl rfl rfl rfl ?_
  refine mT_get m9 11 cq_d19 (by decide) rfl rfl ?_
  refine mT_get (v := .int (jn ((fdg (X b) 13 : Int) - 1))) m9 13 cq_d50 (by decide) rfl (congrArg (fun z : Int => some (Value.int (jn z))) v50) ?_
  refine mj_T.if0 (a := (fdg (X b) 13 : Int) - 1) rfl ⟨by omega, by omega⟩ (fun qb => ?_) (fun qb => t55 (Or.inr (by simp only [jc, Bool.not_eq_true', Bool.not_eq_false', decide_eq_true_eq, decide_eq_false_iff_not] at qb; omega)))
  refine mj_T.pl rfl rfl rfl rfl ?_
  refine mT_get m9 11 cq_d19 (by decide) rfl rfl ?_
  refine mT_get (v := .int (jn ((fdg (X a) 13 : Int) - 1))) m9 13 cq_d20 (by decide) rfl (congrArg (fun z : Int => some (Value.int (jn z))) v20) ?_
  refine mj_T.pl rfl rfl rfl rfl ?_
  refine mT_get m9 11 cq_d19 (by decide) rfl rfl ?_
  refine mT_get (v := .int (jn ((fdg (X b) 13 : Int) - 1))) m9 13 cq_d50 (by decide) rfl (congrArg (fun z : Int => some (Value.int (jn z))) v50) ?_
  refine mj_T.iadd rfl ?_
  simp only [jc, Bool.not_eq_true', Bool.not_eq_false', decide_eq_true_eq, decide_eq_false_iff_not] at qa qb
  exact t74 _ ⟨by omega, by omega⟩ (by rw [fdg_mul1 (by omega) (by omega)]; omega)
end MAE
section MEE
variable {g h : mj_H} {n u : Nat} {V : Nat → Int} {X : Nat → Nat → Int} {N : Nat → Int} {H : Nat → Nat → Int}
theorem ex_inner (A : AS N u H) {a : Nat} (ha : a < 6) {Q : mj_R → Prop} {w : Int} (hend : ∀ (l3 : Option Value) (h : mj_H), cS g n N u H h → mj_T 59 mj_m148 69 [some (.ref 1), some (.int (jn w)), some (.int (jn (a : Int))), l3] [] h Q) : ∀ (k b : Nat), b + k = 6 → ∀ (h : mj_H), cS g n N u H h → mj_T 59 mj_m148 20 [some (.ref 1), some (.int (jn w)), some (.int (jn (a : Int))), some (.int (jn (b : Int)))] [] h Q := by
  intro k
  induction k with
  | zero =>
    intro b hb h s
    obtain ⟨V, X, m, b0, d, c⟩ := id s
    iterate 2 refine mj_T.pl rfl rfl rfl rfl ?_
    refine mT_get m 19 cq_d1 (by decide) rfl rfl ?_
    refine mT_get m 10 cq_d2 (by decide) rfl rfl ?_
    refine mE_len m rfl ?_
    refine mj_T.icmp (a := (b : Int)) (b := 6) rfl ⟨by omega, by omega⟩ ⟨by decide, by decide⟩ (fun _ => hend _ h s) (fun q => ?_)
    simp only [jc, Bool.not_eq_true', Bool.not_eq_false', decide_eq_true_eq, decide_eq_false_iff_not] at q
    omega
  | succ k ih =>
    intro b hb h s
    obtain ⟨V, X, m, b0, d, c⟩ := id s
    iterate 2 refine mj_T.pl rfl rfl rfl rfl ?_
    refine mT_get m 19 cq_d1 (by decide) rfl rfl ?_
    refine mT_get m 10 cq_d2 (by decide) rfl rfl ?_
    refine mE_len m rfl ?_
    refine mj_T.icmp (a := (b : Int)) (b := 6) rfl ⟨by omega, by omega⟩ ⟨by decide, by decide⟩ (fun q => ?_) (fun _ => ?_)
    · simp only [jc, Bool.not_eq_true', Bool.not_eq_false', decide_eq_true_eq, decide_eq_false_iff_not] at q
      omega
    refine mj_T.pl rfl rfl rfl rfl ?_
    refine mT_get m 19 cq_d1 (by decide) rfl rfl ?_
    refine mj_T.pl rfl rfl rfl rfl ?_
    refine mT_get m 19 cq_d1 (by decide) rfl rfl ?_
    refine mT_get m 10 cq_d2 (by decide) rfl rfl ?_
    refine mj_T.pl rfl rfl rfl rfl ?_
    refine mE_rows m ha rfl ?_
    refine mj_T.pl rfl rfl rfl rfl ?_
    refine mT_get m 19 cq_d1 (by decide) rfl rfl ?_
    refine mT_get m 10 cq_d2 (by decide) rfl rfl ?_
    refine mj_T.pl rfl rfl rfl rfl ?_
    refine mE_rows m (i := b) (by omega) rfl ?_
    have sa := c.sm A.1 (a := (a : Int)) ⟨by omega, by omega⟩
    have sb := c.sm A.1 (a := (b : Int)) ⟨by omega, by omega⟩
    rw [Int.toNat_natCast] at sa sb
    refine mj_T.call rfl rfl (Nat.le_of_ble_eq_true rfl) (Nat.le_of_ble_eq_true rfl) (mV_of m 11 cq_d19 (by decide) rfl (by decide) rfl _) rfl (mj_Ok.up (by decide) (mX_addsDegrees (D := 0) m (mK_rt a ha) (mK_rt b (by omega)) sa sb)) (fun v h1 hq => ?_) (fun i h1 hq => by obtain ⟨_, _, _, _, _, _, _, _, hq⟩ := hq; cases hq)
    obtain ⟨V2, X2, _, y, m2, df, xf, rfl, hq⟩ := hq
    cases hq
    have xf2 := xf.mono (S' := fun x => x = 481) (fun a h => h.elim)
    have s1 : cS g n N u H h1 := ⟨V2, X2, m2, b0.dF df, d.xF xf2, c.sb (sBn.xF xf2)⟩
    refine mj_T.eq (pc2 := 57) (st2 := [.int (jn 1)]) ?_ rfl rfl rfl rfl
    have t63 : mj_T 59 mj_m148 63 [some (.ref 1), some (.int (jn w)), some (.int (jn (a : Int))), some (.int (jn (b : Int)))] [] h1 Q := by
      refine mj_T.iinc (a := (b : Int)) rfl rfl ?_
      refine mj_T.eq (loc2 := [some (.ref 1), some (.int (jn w)), some (.int (jn (a : Int))), some (.int (jn ((b + 1 : Nat) : Int)))]) ?_ rfl (by rw [show ((b + 1 : Nat) : Int) = (b : Int) + 1 by omega]; rfl) rfl rfl
      refine mj_T.pl rfl rfl rfl rfl ?_
      exact ih (b + 1) (by omega) h1 s1
    exact mj_T.if0 (a := 1) rfl ⟨by decide, by decide⟩ (fun _ => t63) (fun q => by simp [jc] at q)
theorem ex_outer (A : AS N u H) {Q : mj_R → Prop} {w : Int} (hend : ∀ (l2 l3 : Option Value) (h : mj_H), cS g n N u H h → mj_T 59 mj_m148 75 [some (.ref 1), some (.int (jn w)), l2, l3] [] h Q) : ∀ (k a : Nat), a + k = 6 → ∀ (l3 : Option Value) (h : mj_H), cS g n N u H h → mj_T 59 mj_m148 4 [some (.ref 1), some (.int (jn w)), some (.int (jn (a : Int))), l3] [] h Q := by
  intro k
  induction k with
  | zero =>
    intro a ha l3 h s
    obtain ⟨V, X, m, b0, d, c⟩ := id s
    iterate 2 refine mj_T.pl rfl rfl rfl rfl ?_
    refine mT_get m 19 cq_d1 (by decide) rfl rfl ?_
    refine mT_get m 10 cq_d2 (by decide) rfl rfl ?_
    refine mE_len m rfl ?_
    refine mj_T.icmp (a := (a : Int)) (b := 6) rfl ⟨by omega, by omega⟩ ⟨by decide, by decide⟩ (fun _ => hend _ _ h s) (fun q => ?_)
    simp only [jc, Bool.not_eq_true', Bool.not_eq_false', decide_eq_true_eq, decide_eq_false_iff_not] at q
    omega
  | succ k ih =>
    intro a ha l3 h s
    obtain ⟨V, X, m, b0, d, c⟩ := id s
    iterate 2 refine mj_T.pl rfl rfl rfl rfl ?_
    refine mT_get m 19 cq_d1 (by decide) rfl rfl ?_
    refine mT_get m 10 cq_d2 (by decide) rfl rfl ?_
    refine mE_len m rfl ?_
    refine mj_T.icmp (a := (a : Int)) (b := 6) rfl ⟨by omega, by omega⟩ ⟨by decide, by decide⟩ (fun q => ?_) (fun _ => ?_)
    · simp only [jc, Bool.not_eq_true', Bool.not_eq_false', decide_eq_true_eq, decide_eq_false_iff_not] at q
      omega
    iterate 2 refine mj_T.pl rfl rfl rfl rfl ?_
    refine mj_T.iadd (a := (a : Int)) (b := 1) rfl ?_
    rw [show (a : Int) + 1 = ((a + 1 : Nat) : Int) by omega]
    refine mj_T.pl (loc' := [some (.ref 1), some (.int (jn w)), some (.int (jn (a : Int))), some (.int (jn ((a + 1 : Nat) : Int)))]) rfl rfl rfl rfl ?_
    refine ex_inner A (by omega) (fun l3 h1 s1 => ?_) (5 - a) (a + 1) (by omega) h s
    refine mj_T.iinc (a := (a : Int)) rfl rfl ?_
    refine mj_T.eq (loc2 := [some (.ref 1), some (.int (jn w)), some (.int (jn ((a + 1 : Nat) : Int))), l3]) ?_ rfl (by rw [show ((a + 1 : Nat) : Int) = (a : Int) + 1 by omega]; rfl) rfl rfl
    refine mj_T.pl rfl rfl rfl rfl ?_
    exact ih (a + 1) (by omega) l3 h1 s1
theorem ex_texts (A : AS N u H) {w : Int} : ∀ (k a : Nat), a + k = 6 → ∀ (l3 : Option Value) (h : mj_H), cS g n N u H h → mj_T 59 mj_m148 77 [some (.ref 1), some (.int (jn w)), some (.int (jn (a : Int))), l3] [] h (fun z => ∃ (h2 : mj_H), cS g n N u H h2 ∧ z = (.inl (some (.int (jn w))), h2)) := by
  intro k
  induction k with
  | zero =>
    intro a ha l3 h s
    obtain ⟨V, X, m, b0, d, c⟩ := id s
    iterate 2 refine mj_T.pl rfl rfl rfl rfl ?_
    refine mT_get m 19 cq_d1 (by decide) rfl rfl ?_
    refine mT_get m 10 cq_d2 (by decide) rfl rfl ?_
    refine mE_len m rfl ?_
    refine mj_T.icmp (a := (a : Int)) (b := 6) rfl ⟨by omega, by omega⟩ ⟨by decide, by decide⟩ (fun _ => ?_) (fun q => ?_)
    · refine mj_T.pl rfl rfl rfl rfl ?_
      exact mj_T.ret rfl rfl rfl ⟨h, s, rfl⟩
    simp only [jc, Bool.not_eq_true', Bool.not_eq_false', decide_eq_true_eq, decide_eq_false_iff_not] at q
    omega
  | succ k ih =>
    intro a ha l3 h s
    obtain ⟨V, X, m, b0, d, c, jx⟩ := s.nr A
    have jx : rjR X := jx
    iterate 2 refine mj_T.pl rfl rfl rfl rfl ?_
    refine mT_get m 19 cq_d1 (by decide) rfl rfl ?_
    refine mT_get m 10 cq_d2 (by decide) rfl rfl ?_
    refine mE_len m rfl ?_
    refine mj_T.icmp (a := (a : Int)) (b := 6) rfl ⟨by omega, by omega⟩ ⟨by decide, by decide⟩ (fun q => ?_) (fun _ => ?_)
    · simp only [jc, Bool.not_eq_true', Bool.not_eq_false', decide_eq_true_eq, decide_eq_false_iff_not] at q
      omega
    refine mj_T.pl rfl rfl rfl rfl ?_
    refine mT_get m 19 cq_d1 (by decide) rfl rfl ?_
    refine mj_T.pl rfl rfl rfl rfl ?_
    refine mT_get m 19 cq_d1 (by decide) rfl rfl ?_
    refine mT_get m 10 cq_d2 (by decide) rfl rfl ?_
    refine mj_T.pl rfl rfl rfl rfl ?_
    refine mE_rows m (i := a) (by omega) rfl ?_
    have sa0 := c.sm A.1 (a := (a : Int)) ⟨by omega, by omega⟩
    rw [Int.toNat_natCast] at sa0
    refine mj_T.call rfl rfl (Nat.le_of_ble_eq_true rfl) (Nat.le_of_ble_eq_true rfl) (mV_of m 17 cq_d17 (by decide) rfl (by decide) rfl _) rfl (mj_Ok.up (by decide) (mX_82 (D := 0) m isT_17 (mK_rt a (by omega)) sa0)) (fun v h2 hq => ?_) (fun i h2 hq => by obtain ⟨_, _, _, _, _, hq⟩ := hq; cases hq)
    obtain ⟨X2, _, m2, w2, e2, hq⟩ := hq
    cases hq
    have w3 := w2.1
    rw [wrL_len] at w3
    have w4 := wrN_b (X (4 + a))
    have x2 : 0 ≤ X2 17 1 ∧ X2 17 1 ≤ 340 := ⟨by omega, by omega⟩
    have hAt : atL (fun j => (jn (X2 (17 + 1) j) &&& Int32.ofInt 255).toInt) (X2 17 1).toNat 0 (wrL (X (4 + a))) := by
      refine ⟨by rw [wrL_len]; omega, fun j c hj => ?_⟩
      rw [Nat.zero_add]
      show (jn (X2 (17 + 1) j) &&& Int32.ofInt 255).toInt = c
      have hc := wrL_s (X (4 + a)) c (List.mem_of_getElem? hj)
      rw [w2.2 j c hj]
      obtain ⟨y, rfl⟩ := Int.eq_ofNat_of_zero_le hc.1
      exact b255 y (by omega)
    obtain ⟨r1, r2⟩ := wr_rd (fun j hj => sa0 j hj) hAt
    have c2 : CR X2 N u H := c.txt (fun c c1 c2 c3 c4 => e2 c c3 c4) ⟨by
      rw [e2 15 (by decide) (by decide)]
      exact c.tl.1, x2⟩
    have d2 : DG X2 := d.of (fun p kp => e2 p (by have := cK_13 kp; omega) (by have := cK_13 kp; omega))
    have hBt := m2.text (Or.inr rfl) x2
    refine mj_T.pl rfl rfl rfl rfl ?_
    refine mT_get m2 19 cq_d1 (by decide) rfl rfl ?_
    refine mj_T.pl rfl rfl rfl rfl ?_
    refine mT_get m2 19 cq_d1 (by decide) rfl rfl ?_
    refine mj_T.call rfl rfl (Nat.le_of_ble_eq_true rfl) (Nat.le_of_ble_eq_true rfl) (mV_of m2 14 cq_d455 (by decide) rfl (by decide) rfl _) rfl (mj_Ok.up (by decide) (rt_accepts m2 b0 d2 (Or.inr (Or.inr rfl)) hBt (by omega) (fun j _ => i255 _))) (fun v h3 hq => ?_) (fun i h3 hq => by obtain ⟨_, _, _, _, _, _, _, _, hq⟩ := hq; cases hq)
    obtain ⟨p, h3', Y3, t3, Z3, hjE, ⟨V3, X3, m3, ⟨b3, d3, sb3⟩, ⟨x1, x2', x3, x4⟩, yr⟩, hU, hq⟩ := hq
    have hh : h3 = h3' := congrArg Prod.snd hq
    subst hh
    have c1 : CR (rX1t X2 17 (X2 17 1).toNat) N u H := by
      have o : ∀ a, a ≠ 455 → a ≠ 17 → rX1t X2 17 (X2 17 1).toNat a = X2 a := fun a h1 h2 => rX1t_o X2 17 _ h1 h2
      refine CR.of17 (by rw [o 1 (by decide) (by decide)]) (by rw [o 1 (by decide) (by decide)]) (fun a ha => o a (by omega) (by omega)) ⟨by rw [o 15 (by decide) (by decide)]; exact c2.tl.1, ?_⟩ c2
      show 0 ≤ ((X2 17 1).toNat : Int) ∧ ((X2 17 1).toNat : Int) ≤ 340
      omega
    have c3 := c1.sb sb3
    have s3 : cS g n N u H h3 := ⟨V3, X3, m3, b3, d3, c3⟩
    obtain ⟨E, hE⟩ : ∃ E, rdErr (fun j => (jn (X2 (17 + 1) j) &&& Int32.ofInt 255).toInt) (X2 17 1).toNat = E := ⟨_, rfl⟩
    rw [hE] at hjE hU x3 hq
    have t154 : mj_T 59 mj_m148 154 [some (.ref 1), some (.int (jn w)), some (.int (jn (a : Int))), l3] [] h3 (fun z => ∃ (h2 : mj_H), cS g n N u H h2 ∧ z = (.inl (some (.int (jn w))), h2)) := by
      refine mj_T.iinc (a := (a : Int)) rfl rfl ?_
      refine mj_T.eq (loc2 := [some (.ref 1), some (.int (jn w)), some (.int (jn ((a + 1 : Nat) : Int))), l3]) ?_ rfl (by rw [show ((a + 1 : Nat) : Int) = (a : Int) + 1 by omega]; rfl) rfl rfl
      refine mj_T.pl rfl rfl rfl rfl ?_
      exact ih (a + 1) (by omega) l3 h3 s3
    have hE1 : E = -1 := hE.symm.trans r1
    rw [if_pos hE1] at hq
    cases hq
    refine mj_T.if0 (a := 1) rfl ⟨by decide, by decide⟩ (fun q => by simp [jc] at q) (fun _ => ?_)
    obtain ⟨z457, hu⟩ := hU hE1
    have k457 := (yr 457 z457).2
    have hua : t3 = 0 ∧ ∀ j, j < 13 → Y3 457 j = upF (X (4 + a)) 0 j := by
      obtain ⟨_, ⟨P9, p1, _, p3, p4⟩ | ⟨p1, _⟩⟩ := hu
      · rw [r2] at p1
        cases p1
        exact ⟨p3, p4⟩
      · rw [r2] at p1
        cases p1
    have ht0 := hua.1
    refine mj_T.pl rfl rfl rfl rfl ?_
    refine mT_get m3 19 cq_d1 (by decide) rfl rfl ?_
    refine mT_get (v := .int (jn t3)) m3 14 cq_d455 (by decide) rfl (by rw [← x4]; rfl) ?_
    refine mj_T.if0 (a := t3) rfl ⟨by omega, by omega⟩ (fun q => by simp only [jc, Bool.not_eq_true', Bool.not_eq_false', decide_eq_true_eq, decide_eq_false_iff_not] at q; omega) (fun _ => ?_)
    refine mj_T.pl rfl rfl rfl rfl ?_
    refine mT_get m3 19 cq_d1 (by decide) rfl rfl ?_
    have kans : mj_Ok 1 47 [.ref 455] h3 (fun z => z = (.inl (some (.ref 457)), h3)) := by
      refine mj_Ok.of (M := mj_m47) (loc := [some (.ref 455)]) rfl rfl rfl ?_
      refine mj_T.pl rfl rfl rfl rfl ?_
      refine mT_get m3 14 cq_d455 (by decide) rfl rfl ?_
      refine mj_T.pl rfl rfl rfl rfl ?_
      refine mT_aald (i := 0) m3 6 cq_456.1 (by decide) rfl rfl (by decide) ⟨by decide, by rw [cq_456.2.1]; decide⟩ ?_
      exact mj_T.ret rfl rfl rfl rfl
    refine mj_T.call rfl rfl (Nat.le_of_ble_eq_true rfl) (Nat.le_of_ble_eq_true rfl) (mV_of m3 14 cq_d455 (by decide) rfl (by decide) rfl _) rfl (mj_Ok.up (by decide) kans) (fun v h4 hq => ?_) (fun i h4 hq => by cases hq)
    cases hq
    refine mj_T.eq (pc2 := 136) (st2 := [.ref 457]) ?_ rfl rfl rfl rfl
    refine mj_T.pl rfl rfl rfl rfl ?_
    refine mT_get m3 19 cq_d1 (by decide) rfl rfl ?_
    refine mT_get m3 10 cq_d2 (by decide) rfl rfl ?_
    refine mj_T.pl rfl rfl rfl rfl ?_
    refine mE_rows m3 (i := a) (by omega) rfl ?_
    have sa := c3.sm A.1 (a := (a : Int)) ⟨by omega, by omega⟩
    rw [Int.toNat_natCast] at sa
    have s457 : sml (X3 457) := sml_cg (fun j hj => (k457.2 j hj).symm) k457.1
    refine mj_T.call rfl rfl (Nat.le_of_ble_eq_true rfl) (Nat.le_of_ble_eq_true rfl) rfl rfl (mj_Ok.up (by decide) (mS_same (D := 0) m3 (isRw.k (Or.inl ⟨by decide, by decide⟩)) (mK_rt a (by omega)) s457 sa)) (fun v h5 hq => ?_) (fun i h5 hq => by rcases hq with ⟨_, hq⟩ | ⟨_, hq⟩ <;> cases hq)
    rcases hq with ⟨_, hq⟩ | ⟨hns, hq⟩
    · cases hq
      refine mj_T.eq (pc2 := 148) (st2 := [.int (jn 1)]) ?_ rfl rfl rfl rfl
      exact mj_T.if0 (a := 1) rfl ⟨by decide, by decide⟩ (fun _ => t154) (fun q => by simp [jc] at q)
    · refine absurd (fun j hj => ?_) hns
      have q1 := k457.2 j hj
      have q2 := hua.2 j hj
      have q3 : upF (X (4 + a)) 0 j = X (4 + a) j := if_pos ⟨Nat.zero_le _, hj⟩
      have q4 := c3.rw (a := (a : Int)) ⟨by omega, by omega⟩ j hj
      have q5 := c.rw (a := (a : Int)) ⟨by omega, by omega⟩ j hj
      rw [Int.toNat_natCast] at q4 q5
      omega
theorem pX_errors0 (A : AS N u H) (s : cS g n N u H h) : mj_Ok 60 148 [.ref 1] h (fun z => ∃ (h2 : mj_H), cS g n N u H h2 ∧ z = (.inl (some (.int (jn 0))), h2)) := by
  refine mj_Ok.of (M := mj_m148) (loc := [some (.ref 1), none, none, none]) rfl rfl rfl ?_
  iterate 4 refine mj_T.pl rfl rfl rfl rfl ?_
  refine ex_outer A (w := 0) (fun l2 l3 h1 s1 => ?_) 6 0 (by decide) none h s
  iterate 2 refine mj_T.pl rfl rfl rfl rfl ?_
  exact ex_texts A (w := 0) 6 0 (by decide) l3 h1 s1
theorem cv_148 (A : AS N u H) (s : cC N u H h) : mj_Ok 60 148 [.ref 1] h (fun r => r.1 = .inl (some (.int (jn 0)))) := (pX_errors0 A s).to (fun r q => by
  obtain ⟨h2, _, rfl⟩ := q
  rfl)
theorem cz_148v (A : AS N u H) (s : cC N u H h) : mj_Ok 60 148 [.ref 1] h (fun r => r.1 = .inl (some (.int (jn (0 : Int)))) ∧ yZ (sameQ N u H) r.2) := (cv_148 A s).and (yr_148 A s)
theorem rx_errorsX {hr : mj_H} {tm er : Int} {T : Nat → Int} (hI : jIx N u H tm er T hr) : mj_Ok 40 309 [.ref 0] hr (fun r => r.1 = .inl (some (.int (jn (0 : Int)))) ∧ rZ (sameQ N u H) tm er T r) := (rx_errors hI).to (fun r q => by
  obtain ⟨h2, rfl, k⟩ := q
  exact ⟨rfl, N, u, H, ⟨rfl, rfl, rfl⟩, k⟩)
end MEE
