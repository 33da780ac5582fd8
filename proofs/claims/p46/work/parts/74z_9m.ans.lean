/-! What a call answers: a code (0: none), and a number where the code is 0. -/
/-- conditions with the codes that they have where they don't hold; then what the answer is -/
def an : List (Prop × Int) → (Int → Prop) → Int → Int → Prop
  | [], F, c, z => c = 0 ∧ F z
  | p :: l, F, c, z => (¬ p.1 ∧ c = p.2) ∨ (p.1 ∧ an l F c z)
theorem an.ag {F : Int → Prop} (hF : ∀ z1 z2, F z1 → F z2 → z1 = z2) : ∀ {l : List (Prop × Int)} {c1 z1 c2 z2 : Int}, (∀ p ∈ l, p.2 ≠ 0) → an l F c1 z1 → an l F c2 z2 → c1 = c2 ∧ (c1 = 0 → z1 = z2)
  | [], c1, z1, c2, z2, _, a, b => ⟨a.1.trans b.1.symm, fun _ => hF _ _ a.2 b.2⟩
  | p :: l, c1, z1, c2, z2, hk, a, b => by
    have h0 := hk p List.mem_cons_self
    rcases a with ⟨a1, a2⟩ | ⟨a1, a2⟩
    · rcases b with ⟨b1, b2⟩ | ⟨b1, b2⟩
      · exact ⟨a2.trans b2.symm, fun e => absurd (a2.symm.trans e) h0⟩
      · exact absurd b1 a1
    · rcases b with ⟨b1, b2⟩ | ⟨b1, b2⟩
      · exact absurd a1 b1
      · exact an.ag hF (fun q hq => hk q (List.mem_cons_of_mem _ hq)) a2 b2
/-- the class's call: its answer, or what is thrown and the code that the law makes of it -/
def cA (cd : Nat → Int) (A : Int → Int → Prop) (r : mj_R) : Prop := match r.1 with
  | .inl v => ∃ z : Int, jr z ∧ v = some (.int (jn z)) ∧ A 0 z
  | .inr k => ∀ z, A (cd k) z
/-- the reference's call: its answer, and what it has thrown -/
def rZa (P : SP) (A : Int → Int → Prop) (tm er : Int) (T : Nat → Int) (r : mj_R) : Prop := ∃ (c z : Int) (N' : Nat → Int) (u' : Nat) (H' : Nat → Nat → Int), A c z ∧ jr z ∧ r.1 = .inl (some (.int (jn z))) ∧ P N' u' H' ∧ jItx N' u' H' c tm er T r.2
/-- both sides hold the same, and the reference has thrown c -/
def YXt (c tm er : Int) (T : Nat → Int) (h : mj_H) : Prop := ∃ (N : Nat → Int) (u : Nat) (H : Nat → Nat → Int) (hr : mj_H), cC N u H h ∧ jEm 563 hr h ∧ jItx N u H c tm er T hr
theorem YXt.to {c tm er : Int} {T : Nat → Int} {h : mj_H} (y : YXt c tm er T h) : YX tm er T h := by
  obtain ⟨N, u, H, hr, a, b, k⟩ := y
  exact ⟨N, u, H, hr, a, b, k.to⟩
section YXA
variable {hr h : mj_H} {tm er c : Int} {T : Nat → Int}
theorem YXt.thrown {D : Nat} (y : YXt c tm er T h) : mj_Ok (D + 1) 175 [.ref 563] h (fun r => r = (.inl (some (.int (jn c))), h)) := by
  obtain ⟨N, u, H, hr, _, ⟨_, _, _, E⟩, ⟨S, N1, B, X, V, ⟨bg, ov, db, sv, rfl⟩, K, e⟩⟩ := y
  have h1 := E 0 _ rfl
  refine mj_Ok.of (M := mj_m175) rfl rfl rfl ?_
  refine mj_T.pl rfl rfl rfl rfl ?_
  refine mj_T.gfl (v := .int (jn c)) rfl h1 (by rw [← e]; rfl) ?_
  exact mj_T.ret rfl rfl rfl rfl
end YXA


/-! Answers of the calls that change registers, in one form. -/
theorem itR.oneD {N : Nat → Int} (g : gN N) {w1 w2 : Nat → Int} {D1 D2 : Int} (a : itR N w1 D1) (b : itR N w2 D2) : D1 = D2 := by
  obtain ⟨M1, a0, a1, a2, a3, a4⟩ := a
  obtain ⟨M2, b0, b1, b2, b3, b4⟩ := b
  have hlin := itp_lin (Y := fun i => N (85 + i)) a1 b1 (wgt_N g) (N 78).toNat (Nat.le_refl _)
  have hx : ∀ j, j < 13 → D2 * w1 j = D1 * w2 j := fun j hj => by
    have e1 := a2 j hj
    have e2 := b2 j hj
    have e3 := hlin j
    generalize itp (fun i => N (79 + i)) (fun i => N (85 + i)) M1 (N 78).toNat (N 78).toNat j = I1 at e1 e3
    generalize itp (fun i => N (79 + i)) (fun i => N (85 + i)) M2 (N 78).toNat (N 78).toNat j = I2 at e2 e3
    have hne : M1 * M2 ≠ 0 := Int.mul_ne_zero (by omega) (by omega)
    refine Int.eq_of_mul_eq_mul_left hne ?_
    have l1 : M1 * M2 * (D2 * w1 j) = D1 * D2 * (M2 * I1) := by
      rw [show M1 * M2 * (D2 * w1 j) = M2 * D2 * (M1 * w1 j) by ac_rfl, e1]
      ac_rfl
    have l2 : M1 * M2 * (D1 * w2 j) = D1 * D2 * (M1 * I2) := by
      rw [show M1 * M2 * (D1 * w2 j) = M1 * D1 * (M2 * w2 j) by ac_rfl, e2]
      ac_rfl
    rw [l1, l2, e3]
  have n1 : D1 = ((D1.natAbs : Nat) : Int) := by omega
  have n2 : D2 = ((D2.natAbs : Nat) : Int) := by omega
  have d1 : D1.natAbs ∣ D2.natAbs := cp_dvd a4 (fun j hj => by rw [← n1, ← n2]; exact hx j hj)
  have d2 : D2.natAbs ∣ D1.natAbs := cp_dvd b4 (fun j hj => by rw [← n1, ← n2]; exact (hx j hj).symm)
  have de : D1.natAbs = D2.natAbs := Nat.dvd_antisymm d1 d2
  omega
theorem an.e {z : Int} {F : Int → Prop} (h : F z) : an [] F 0 z := ⟨rfl, h⟩
abbrev rg2 (a b : Int) : Prop := (0 ≤ a ∧ a ≤ 5) ∧ (0 ≤ b ∧ b ≤ 5)
abbrev rg3 (a b c : Int) : Prop := (0 ≤ a ∧ a ≤ 5) ∧ (0 ≤ b ∧ b ≤ 5) ∧ (0 ≤ c ∧ c ≤ 5)
/-- the degree of what is laid -/
def dgF (R : Nat → Int) (z : Int) : Prop := z = (fdg R 13 : Int) - 1
theorem dgF.of {R w : Nat → Int} (h : ∀ j, j < 13 → w j = R j) : dgF R ((fdg w 13 : Int) - 1) := by
  unfold dgF
  rw [fdg_congr 13 h]
theorem dgF.one {R : Nat → Int} (z1 z2 : Int) (a : dgF R z1) (b : dgF R z2) : z1 = z2 := a.trans b.symm
abbrev A_sum (N : Nat → Int) (f to a b : Int) : Int → Int → Prop := an [(rg3 to a b, 1), (sml (sumN N f a b), 2)] (dgF (sumN N f a b))
abbrev A_multiply (N : Nat → Int) (to a b : Int) : Int → Int → Prop := an [(rg3 to a b, 1), (fit13 (pz_mul (rwN N a) (rwN N b)), 2)] (dgF (pz_mul (rwN N a) (rwN N b)))
abbrev A_power (N : Nat → Int) (to a e : Int) : Int → Int → Prop := an [(rg2 to a, 1), (0 ≤ e ∧ e ≤ 12, 2), (fit13 (pw (rwN N a) e.toNat), 3)] (dgF (pw (rwN N a) e.toNat))
abbrev A_derive (N : Nat → Int) (to a : Int) : Int → Int → Prop := an [(rg2 to a, 1), (sml (drN N a), 2)] (dgF (drN N a))
abbrev A_substitute (N : Nat → Int) (to a b : Int) : Int → Int → Prop := an [(rg3 to a b, 1), (fit13 (hw (rwN N a) (rwN N b) 13), 2)] (dgF (hw (rwN N a) (rwN N b) 13))
abbrev A_divide (N : Nat → Int) (x y z u : Int) : Int → Int → Prop := an [((0 ≤ x ∧ x ≤ 5) ∧ (0 ≤ y ∧ y ≤ 5) ∧ (0 ≤ z ∧ z ≤ 5) ∧ (0 ≤ u ∧ u ≤ 5), 1), (x ≠ y, 2), (0 < fdg (rwN N u) 13, 3), (fit13 (dvQ (rwN N z) (rwN N u)) ∧ fit13 (dvT (rwN N z) (rwN N u)), 4)] (fun v => v = ((fdg (rwN N z) 13 - (fdg (rwN N u) 13 - 1) : Nat) : Int))
abbrev A_gcd (N : Nat → Int) (to a b : Int) : Int → Int → Prop := an [(rg3 to a b, 1), (∃ R, gcR (rwN N a) (rwN N b) R ∧ fit13 R, 2)] (fun v => ∃ R, gcR (rwN N a) (rwN N b) R ∧ dgF R v)
abbrev A_primitive (N : Nat → Int) (to a : Int) : Int → Int → Prop := an [(rg2 to a, 1), (fit13 (ppr (rwN N a)), 2)] (dgF (ppr (rwN N a)))
abbrev A_simple (N : Nat → Int) (to a : Int) : Int → Int → Prop := an [(rg2 to a, 1), (0 < fdg (rwN N a) 13, 2), (∃ S, smR (rwN N a) S ∧ fit13 S, 3)] (fun v => ∃ S, smR (rwN N a) S ∧ dgF S v)
abbrev A_residue (N : Nat → Int) (to a p : Int) : Int → Int → Prop := an [(rg2 to a, 1), (prm p, 2)] (dgF (fun j => rwN N a j % p))
abbrev A_setTerm (N : Nat → Int) (to e x : Int) : Int → Int → Prop := an [(0 ≤ to ∧ to ≤ 5, 1), (0 ≤ e ∧ e ≤ 12, 2), (-999999999999999999 ≤ x ∧ x ≤ 999999999999999999, 3)] (dgF (fun j => if j = e.toNat then x else rwN N to j))
abbrev A_addPoint (N : Nat → Int) (x y : Int) : Int → Int → Prop := an [((-9 ≤ x ∧ x ≤ 9) ∧ (-999 ≤ y ∧ y ≤ 999), 1), (N 78 ≠ 6 ∧ ∀ j : Nat, (j : Int) < N 78 → N (79 + j) ≠ x, 2)] (fun v => v = (((N 78).toNat + 1 : Nat) : Int))
abbrev A_read (T : Nat → Int) (tm : Nat) (to : Int) : Int → Int → Prop := an [(0 ≤ to ∧ to ≤ 5, 1), (rdErr T tm = -1, 2), (∃ P, rdV T tm = some P, 3)] (fun v => ∃ P, rdV T tm = some P ∧ dgF P v)
section AAG
variable {N : Nat → Int} {c1 z1 c2 z2 : Int}
theorem A_sum.ag {f to a b : Int} (p : A_sum N f to a b c1 z1) (q : A_sum N f to a b c2 z2) : c1 = c2 ∧ (c1 = 0 → z1 = z2) := an.ag dgF.one (by simp) p q
theorem A_multiply.ag {to a b : Int} (p : A_multiply N to a b c1 z1) (q : A_multiply N to a b c2 z2) : c1 = c2 ∧ (c1 = 0 → z1 = z2) := an.ag dgF.one (by simp) p q
theorem A_power.ag {to a b : Int} (p : A_power N to a b c1 z1) (q : A_power N to a b c2 z2) : c1 = c2 ∧ (c1 = 0 → z1 = z2) := an.ag dgF.one (by simp) p q
theorem A_derive.ag {to a : Int} (p : A_derive N to a c1 z1) (q : A_derive N to a c2 z2) : c1 = c2 ∧ (c1 = 0 → z1 = z2) := an.ag dgF.one (by simp) p q
theorem A_substitute.ag {to a b : Int} (p : A_substitute N to a b c1 z1) (q : A_substitute N to a b c2 z2) : c1 = c2 ∧ (c1 = 0 → z1 = z2) := an.ag dgF.one (by simp) p q
theorem A_divide.ag {x y z u : Int} (p : A_divide N x y z u c1 z1) (q : A_divide N x y z u c2 z2) : c1 = c2 ∧ (c1 = 0 → z1 = z2) := an.ag (fun _ _ a b => a.trans b.symm) (by simp) p q
theorem A_gcd.ag {to a b : Int} (p : A_gcd N to a b c1 z1) (q : A_gcd N to a b c2 z2) : c1 = c2 ∧ (c1 = 0 → z1 = z2) := an.ag (fun z1 z2 a b => by
  obtain ⟨R1, a1, a2⟩ := a
  obtain ⟨R2, b1, b2⟩ := b
  have e := gcR.one a1 b1
  subst e
  exact dgF.one _ _ a2 b2) (by simp) p q
theorem A_primitive.ag {to a : Int} (p : A_primitive N to a c1 z1) (q : A_primitive N to a c2 z2) : c1 = c2 ∧ (c1 = 0 → z1 = z2) := an.ag dgF.one (by simp) p q
theorem A_simple.ag {to a : Int} (p : A_simple N to a c1 z1) (q : A_simple N to a c2 z2) : c1 = c2 ∧ (c1 = 0 → z1 = z2) := an.ag (fun z1 z2 a b => by
  obtain ⟨R1, a1, a2⟩ := a
  obtain ⟨R2, b1, b2⟩ := b
  have e := smR.one a1 b1
  subst e
  exact dgF.one _ _ a2 b2) (by simp) p q
theorem A_residue.ag {to a b : Int} (p : A_residue N to a b c1 z1) (q : A_residue N to a b c2 z2) : c1 = c2 ∧ (c1 = 0 → z1 = z2) := an.ag dgF.one (by simp) p q
theorem A_setTerm.ag {to a b : Int} (p : A_setTerm N to a b c1 z1) (q : A_setTerm N to a b c2 z2) : c1 = c2 ∧ (c1 = 0 → z1 = z2) := an.ag dgF.one (by simp) p q
theorem A_addPoint.ag {a b : Int} (p : A_addPoint N a b c1 z1) (q : A_addPoint N a b c2 z2) : c1 = c2 ∧ (c1 = 0 → z1 = z2) := an.ag (fun _ _ a b => a.trans b.symm) (by simp) p q
theorem A_read.ag {T : Nat → Int} {tm : Nat} {to : Int} (p : A_read T tm to c1 z1) (q : A_read T tm to c2 z2) : c1 = c2 ∧ (c1 = 0 → z1 = z2) := an.ag (fun z1 z2 a b => by
  obtain ⟨R1, a1, a2⟩ := a
  obtain ⟨R2, b1, b2⟩ := b
  rw [a1] at b1
  cases b1
  exact dgF.one _ _ a2 b2) (by simp) p q
end AAG
section ARF
variable {h : mj_H} {u : Nat} {N : Nat → Int} {H : Nat → Nat → Int} {tm er : Int} {T : Nat → Int}
theorem rZa.mono {P P' : SP} {A : Int → Int → Prop} {r : mj_R} (k : rZa P A tm er T r) (hp : ∀ N u H, P N u H → P' N u H) : rZa P' A tm er T r := by
  obtain ⟨c, z, N', u', H', a, b, d, e, f⟩ := k
  exact ⟨c, z, N', u', H', a, b, d, hp _ _ _ e, f⟩
end ARF
abbrev A_interpolate (N : Nat → Int) (to : Int) : Int → Int → Prop := an [(0 ≤ to ∧ to ≤ 5, 1), (∃ (w : Nat → Int) (D : Int), itR N w D ∧ sml w, 2)] (fun v => ∃ w : Nat → Int, itR N w v)
theorem A_interpolate.ag {N : Nat → Int} (g : gN N) {to c1 z1 c2 z2 : Int} (p : A_interpolate N to c1 z1) (q : A_interpolate N to c2 z2) : c1 = c2 ∧ (c1 = 0 → z1 = z2) := an.ag (fun z1 z2 a b => by
  obtain ⟨w1, a1⟩ := a
  obtain ⟨w2, b1⟩ := b
  exact itR.oneD g a1 b1) (by simp) p q
/-! Answers of the calls that only read: the class. -/
/-- how many of the first are not 0 -/
def tmc (f : Nat → Int) : Nat → Nat
  | 0 => 0
  | k + 1 => if f k = 0 then tmc f k else tmc f k + 1
theorem tmc_z {f : Nat → Int} {k : Nat} (h : f k = 0) : tmc f (k + 1) = tmc f k := if_pos h
theorem tmc_s {f : Nat → Int} {k : Nat} (h : f k ≠ 0) : tmc f (k + 1) = tmc f k + 1 := if_neg h
theorem tmc_le (f : Nat → Int) : ∀ k, tmc f k ≤ k
  | 0 => Nat.le_refl 0
  | k + 1 => by
    have := tmc_le f k
    by_cases q : f k = 0
    · rw [tmc_z q]
      omega
    · rw [tmc_s q]
      omega
theorem tmc_cg {f f' : Nat → Int} : ∀ k, (∀ j, j < k → f' j = f j) → tmc f' k = tmc f k
  | 0, _ => rfl
  | k + 1, h => by
    have e := tmc_cg k (fun j hj => h j (by omega))
    have q := h k (by omega)
    unfold tmc
    rw [q, e]
theorem tmc_mono {f : Nat → Int} {a : Nat} : ∀ b, a ≤ b → tmc f a ≤ tmc f b
  | 0, h => by rw [show a = 0 by omega]; exact Nat.le_refl _
  | b + 1, h => by
    by_cases q : a = b + 1
    · rw [q]
      exact Nat.le_refl _
    · have h1 := tmc_mono (f := f) (a := a) b (by omega)
      by_cases z : f b = 0
      · rw [tmc_z z]
        exact h1
      · rw [tmc_s z]
        omega
/-- the exponent of the t-th term from above -/
def exF (R : Nat → Int) (t z : Int) : Prop := ∃ e : Nat, z = (e : Int) ∧ e < 13 ∧ R e ≠ 0 ∧ (tmc R 13 : Int) - tmc R (e + 1) = t
theorem exF.one {R : Nat → Int} {t : Int} (z1 z2 : Int) (a : exF R t z1) (b : exF R t z2) : z1 = z2 := by
  obtain ⟨e1, a1, a2, a3, a4⟩ := a
  obtain ⟨e2, b1, b2, b3, b4⟩ := b
  rcases Nat.lt_trichotomy e1 e2 with c | c | c
  · have h1 := tmc_mono (f := R) (a := e1 + 1) e2 (by omega)
    have h2 := tmc_s b3
    omega
  · omega
  · have h1 := tmc_mono (f := R) (a := e2 + 1) e1 (by omega)
    have h2 := tmc_s a3
    omega
abbrev A_degree (N : Nat → Int) (a : Int) : Int → Int → Prop := an [(0 ≤ a ∧ a ≤ 5, 1)] (dgF (rwN N a))
abbrev A_terms (N : Nat → Int) (a : Int) : Int → Int → Prop := an [(0 ≤ a ∧ a ≤ 5, 1)] (fun z => z = ((tmc (rwN N a) 13 : Nat) : Int))
abbrev A_exponent (N : Nat → Int) (a t : Int) : Int → Int → Prop := an [((0 ≤ a ∧ a ≤ 5) ∧ 0 ≤ t ∧ t < (tmc (rwN N a) 13 : Int), 1)] (exF (rwN N a) t)
abbrev A_coefficient (N : Nat → Int) (a e : Int) : Int → Int → Prop := an [(0 ≤ a ∧ a ≤ 5, 1), (0 ≤ e ∧ e ≤ 12, 2)] (fun z => z = jsg (rwN N a e.toNat))
abbrev A_content (N : Nat → Int) (a : Int) : Int → Int → Prop := an [(0 ≤ a ∧ a ≤ 5, 1)] (fun z => z = jsg ((cgd (rwN N a) 13 : Nat) : Int))
def smF (f f' : Nat → Int) (z : Int) : Prop := (z = 1 ∧ ∀ j, j < 13 → f j = f' j) ∨ (z = 0 ∧ ¬ ∀ j, j < 13 → f j = f' j)
theorem smF.one {f f' : Nat → Int} (z1 z2 : Int) (a : smF f f' z1) (b : smF f f' z2) : z1 = z2 := by
  rcases a with ⟨a1, a2⟩ | ⟨a1, a2⟩
  · rcases b with ⟨b1, b2⟩ | ⟨b1, b2⟩
    · omega
    · exact absurd a2 b2
  · rcases b with ⟨b1, b2⟩ | ⟨b1, b2⟩
    · exact absurd b2 a2
    · omega
abbrev A_areSame (N : Nat → Int) (a b : Int) : Int → Int → Prop := an [(rg2 a b, 1)] (smF (rwN N a) (rwN N b))
section ARG
variable {N : Nat → Int} {c1 z1 c2 z2 : Int}
theorem A_degree.ag {a : Int} (p : A_degree N a c1 z1) (q : A_degree N a c2 z2) : c1 = c2 ∧ (c1 = 0 → z1 = z2) := an.ag dgF.one (by simp) p q
theorem A_terms.ag {a : Int} (p : A_terms N a c1 z1) (q : A_terms N a c2 z2) : c1 = c2 ∧ (c1 = 0 → z1 = z2) := an.ag (fun _ _ a b => a.trans b.symm) (by simp) p q
theorem A_exponent.ag {a t : Int} (p : A_exponent N a t c1 z1) (q : A_exponent N a t c2 z2) : c1 = c2 ∧ (c1 = 0 → z1 = z2) := an.ag exF.one (by simp) p q
theorem A_coefficient.ag {a e : Int} (p : A_coefficient N a e c1 z1) (q : A_coefficient N a e c2 z2) : c1 = c2 ∧ (c1 = 0 → z1 = z2) := an.ag (fun _ _ a b => a.trans b.symm) (by simp) p q
theorem A_content.ag {a : Int} (p : A_content N a c1 z1) (q : A_content N a c2 z2) : c1 = c2 ∧ (c1 = 0 → z1 = z2) := an.ag (fun _ _ a b => a.trans b.symm) (by simp) p q
theorem A_areSame.ag {a b : Int} (p : A_areSame N a b c1 z1) (q : A_areSame N a b c2 z2) : c1 = c2 ∧ (c1 = 0 → z1 = z2) := an.ag smF.one (by simp) p q
end ARG
section MVR
variable {g h : mj_H} {n D u r : Nat} {V : Nat → Int} {X : Nat → Nat → Int} {N : Nat → Int} {H : Nat → Nat → Int}
theorem mS_tm_loop (m : jM g n V X h) (kr : cK r = 2) (hr : sml (X r)) {Q : mj_R → Prop} (hend : Q (.inl (some (.int (jn ((tmc (X r) 13 : Nat) : Int)))), h)) : ∀ k i, i + k = 13 → mj_T D mj_m163 4 [some (.ref r), some (.int (jn ((tmc (X r) i : Nat) : Int))), some (.int (jn (i : Int)))] [] h Q
  | 0, i, hi => by
    iterate 2 refine mj_T.pl rfl rfl rfl rfl ?_
    refine mT_llen m kr rfl ?_
    refine mj_T.icmp (a := ((i : Nat) : Int)) (b := ((13 : Nat) : Int)) rfl ⟨by omega, by omega⟩ ⟨by omega, by omega⟩ (fun c1 => ?_) (fun c1 => ?_)
    · simp only [jc, Bool.not_eq_true', Bool.not_eq_false', decide_eq_true_eq, decide_eq_false_iff_not] at c1
      refine mj_T.pl rfl rfl rfl rfl ?_
      obtain rfl : i = 13 := by omega
      exact mj_T.ret rfl rfl rfl hend
    · exfalso
      simp only [jc, Bool.not_eq_true', Bool.not_eq_false', decide_eq_true_eq, decide_eq_false_iff_not] at c1
      omega
  | k + 1, i, hi => by
    have h1 := hr i (by omega)
    iterate 2 refine mj_T.pl rfl rfl rfl rfl ?_
    refine mT_llen m kr rfl ?_
    refine mj_T.icmp (a := ((i : Nat) : Int)) (b := ((13 : Nat) : Int)) rfl ⟨by omega, by omega⟩ ⟨by omega, by omega⟩ (fun c1 => ?_) (fun c1 => ?_)
    · exfalso
      simp only [jc, Bool.not_eq_true', Bool.not_eq_false', decide_eq_true_eq, decide_eq_false_iff_not] at c1
      omega
    · simp only [jc, Bool.not_eq_true', Bool.not_eq_false', decide_eq_true_eq, decide_eq_false_iff_not] at c1
      iterate 2 refine mj_T.pl rfl rfl rfl rfl ?_
      refine mT_lald m kr rfl ⟨by omega, by omega⟩ ?_
      refine mj_T.eq (st2 := [.long (jl (X r i))]) ?_ rfl rfl rfl rfl
      refine jT.lc 0 rfl rfl ?_
      refine mj_T.lif (a := (X r i)) (b := ((0 : Nat) : Int)) rfl rfl ⟨by omega, by omega⟩ ⟨by omega, by omega⟩ (fun c2 => ?_) (fun c2 => ?_)
      · simp only [jc, Bool.not_eq_true', Bool.not_eq_false', decide_eq_true_eq, decide_eq_false_iff_not] at c2
        refine mj_T.iinc rfl rfl ?_
        rw [show ((i : Nat) : Int) + 1 = ((i + 1 : Nat) : Int) by omega]
        refine mj_T.eq (loc2 := [some (.ref r), some (.int (jn ((tmc (X r) i : Nat) : Int))), some (.int (jn (((i + 1) : Nat) : Int)))]) ?_ rfl rfl rfl rfl
        refine mj_T.pl rfl rfl rfl rfl ?_
        have e := tmc_z (f := X r) (k := i) (by omega)
        rw [← e]
        exact mS_tm_loop m kr hr hend k (i + 1) (by omega)
      · simp only [jc, Bool.not_eq_true', Bool.not_eq_false', decide_eq_true_eq, decide_eq_false_iff_not] at c2
        refine mj_T.iinc rfl rfl ?_
        rw [show ((tmc (X r) i : Nat) : Int) + 1 = ((tmc (X r) i + 1 : Nat) : Int) by omega]
        refine mj_T.eq (loc2 := [some (.ref r), some (.int (jn (((tmc (X r) i + 1) : Nat) : Int))), some (.int (jn ((i : Nat) : Int)))]) ?_ rfl rfl rfl rfl
        refine mj_T.iinc rfl rfl ?_
        rw [show ((i : Nat) : Int) + 1 = ((i + 1 : Nat) : Int) by omega]
        refine mj_T.eq (loc2 := [some (.ref r), some (.int (jn (((tmc (X r) i + 1) : Nat) : Int))), some (.int (jn (((i + 1) : Nat) : Int)))]) ?_ rfl rfl rfl rfl
        refine mj_T.pl rfl rfl rfl rfl ?_
        have e := tmc_s (f := X r) (k := i) (by omega)
        rw [← e]
        exact mS_tm_loop m kr hr hend k (i + 1) (by omega)
theorem mS_terms (m : jM g n V X h) (kr : cK r = 2) (hr : sml (X r)) : mj_Ok (D + 1) 163 [.ref r] h (fun z => z = (.inl (some (.int (jn ((tmc (X r) 13 : Nat) : Int)))), h)) := by
  refine mj_Ok.of (M := mj_m163) rfl rfl rfl ?_
  refine mj_T.pl rfl rfl rfl rfl ?_
  refine mj_T.pl (loc' := [some (.ref r), some (.int (jn 0)), none]) rfl rfl rfl rfl ?_
  refine mj_T.pl rfl rfl rfl rfl ?_
  refine mj_T.pl (loc' := [some (.ref r), some (.int (jn 0)), some (.int (jn 0))]) rfl rfl rfl rfl ?_
  exact mS_tm_loop (Q := fun z => z = (.inl (some (.int (jn ((tmc (X r) 13 : Nat) : Int)))), h)) m kr hr rfl 13 0 (by omega)
end MVR
theorem rtm_tmc {N N0 : Nat → Int} (hn : ∀ j, j < 91 → N j = N0 j) {x : Nat} (hx : x ≤ 5) : ∀ k, k ≤ 13 → rtm N x k = tmc (rwN N0 (x : Int)) k
  | 0, _ => rfl
  | k + 1, hk => by
    unfold rtm tmc
    rw [rwN_at hn hx (show k < 13 by omega), rtm_tmc hn hx k (by omega)]
/-! rootsBy, rootBy: answers on both sides. -/
theorem A_areSame.b {N : Nat → Int} {a b z : Int} (p : A_areSame N a b 0 z) : z = 0 ∨ z = 1 := by
  rcases p with ⟨_, e⟩ | ⟨_, _, ⟨e, _⟩ | ⟨e, _⟩⟩
  · exact absurd (show (0 : Int) = 1 from e) (by decide)
  · exact Or.inr e
  · exact Or.inl e
/-- Horner's rule by p, m coefficients to come -/
def hrv (f : Nat → Int) (x p : Int) : Nat → Int → Int
  | 0, v => v
  | m + 1, v => hrv f x p m ((v * x + f m % p) % p)
/-- how many of the first are roots by p -/
def rbc (f : Nat → Int) (p : Int) : Nat → Nat
  | 0 => 0
  | k + 1 => if hrv f (k : Int) p 13 0 = 0 then rbc f p k + 1 else rbc f p k
def rtF (f : Nat → Int) (p z : Int) : Prop := ∃ x : Nat, z = (x : Int) ∧ (x : Int) < p ∧ hrv f (x : Int) p 13 0 = 0 ∧ ∀ y : Nat, y < x → hrv f (y : Int) p 13 0 ≠ 0
theorem rtF.one {f : Nat → Int} {p : Int} (z1 z2 : Int) (a : rtF f p z1) (b : rtF f p z2) : z1 = z2 := by
  obtain ⟨x1, a1, a2, a3, a4⟩ := a
  obtain ⟨x2, b1, b2, b3, b4⟩ := b
  rcases Nat.lt_trichotomy x1 x2 with c | c | c
  · exact absurd a3 (b4 x1 c)
  · omega
  · exact absurd b3 (a4 x2 c)
abbrev A_rootsBy (N : Nat → Int) (a p : Int) : Int → Int → Prop := an [(0 ≤ a ∧ a ≤ 5, 1), (prm p, 2)] (fun z => z = ((rbc (rwN N a) p p.toNat : Nat) : Int))
abbrev A_rootBy (N : Nat → Int) (a p : Int) : Int → Int → Prop := an [(0 ≤ a ∧ a ≤ 5, 1), (prm p, 2), (∃ x : Nat, (x : Int) < p ∧ hrv (rwN N a) (x : Int) p 13 0 = 0, 3)] (rtF (rwN N a) p)
section ARB
variable {N : Nat → Int} {c1 z1 c2 z2 : Int}
theorem A_rootsBy.ag {a p : Int} (x : A_rootsBy N a p c1 z1) (y : A_rootsBy N a p c2 z2) : c1 = c2 ∧ (c1 = 0 → z1 = z2) := an.ag (fun _ _ a b => a.trans b.symm) (by simp) x y
theorem A_rootBy.ag {a p : Int} (x : A_rootBy N a p c1 z1) (y : A_rootBy N a p c2 z2) : c1 = c2 ∧ (c1 = 0 → z1 = z2) := an.ag rtF.one (by simp) x y
end ARB
/-! meanTerms, usedShare. -/
def mtc (N : Nat → Int) : Nat → Nat
  | 0 => 0
  | k + 1 => mtc N k + tmc (rwN N (k : Int)) 13
theorem mtc_le (N : Nat → Int) : ∀ k, mtc N k ≤ 13 * k
  | 0 => Nat.le_refl 0
  | k + 1 => by
    have h1 := mtc_le N k
    have h2 := tmc_le (rwN N (k : Int)) 13
    show mtc N k + tmc (rwN N (k : Int)) 13 ≤ _
    omega
def mtD (N : Nat → Int) : UInt64 := FP.ddiv (FP.i2d (jn ((mtc N 6 : Nat) : Int))) 4618441417868443648
theorem rp_dc : ∀ n, n < 79 → Op.cmpValue (FP.dcmp (FP.ddiv (FP.i2d (jn (n : Nat))) 4618441417868443648) (FP.ddiv (FP.i2d (jn (n : Nat))) 4618441417868443648)) .l = jn 0 := by decide +kernel
theorem mtD_c (N : Nat → Int) : Op.cmpValue (FP.dcmp (mtD N) (mtD N)) .l = jn 0 := rp_dc _ (by have := mtc_le N 6; omega)
section MVU
variable {g h : mj_H} {n D u r : Nat} {V : Nat → Int} {X : Nat → Nat → Int} {N : Nat → Int} {H : Nat → Nat → Int}
theorem CR.rwn {X : Nat → Nat → Int} {N : Nat → Int} {u : Nat} {H : Nat → Nat → Int} (c : CR X N u H) {k : Nat} (hk : k < 6) : ∀ j, j < 13 → X (4 + k) j = rwN N (k : Int) j := fun j hj => by
  have h := c.rw (a := (k : Int)) ⟨by omega, by omega⟩ j hj
  rwa [Int.toNat_natCast] at h
theorem CR.smn {X : Nat → Nat → Int} {N : Nat → Int} {u : Nat} {H : Nat → Nat → Int} (gn : gN N) (c : CR X N u H) {k : Nat} (hk : k < 6) : sml (X (4 + k)) := by
  have h := c.sm gn (a := (k : Int)) ⟨by omega, by omega⟩
  rwa [Int.toNat_natCast] at h
theorem cL_3 : cL (2 + 1) = 6 := by decide +kernel
theorem mX_mean_loop (m : jM g n V X h) (gn : gN N) (c : CR X N u H) {Q : mj_R → Prop} (hend : Q (.inl (some (.double (mtD N))), h)) : ∀ d k : Nat, k + d = 6 → mj_T (D + 1) mj_m146 4 [some (.ref 1), some (.int (jn ((mtc N k : Nat) : Int))), some (.int (jn (k : Int)))] [] h Q
  | 0, k, hk => by
    have l3 := cL_3
    iterate 2 refine mj_T.pl rfl rfl rfl rfl ?_
    refine mT_get m 19 cq_d1 (by decide) rfl rfl ?_
    refine mT_get m 10 cq_d2 (by decide) rfl rfl ?_
    refine mT_alen m 6 (mK_b cq_d2).1 (by decide) rfl ?_
    refine mj_T.icmp (a := ((k : Nat) : Int)) (b := ((cL (2 + 1) : Nat) : Int)) rfl ⟨by omega, by omega⟩ ⟨by omega, by omega⟩ (fun c1 => ?_) (fun c1 => ?_)
    · simp only [jc, Bool.not_eq_true', Bool.not_eq_false', decide_eq_true_eq, decide_eq_false_iff_not] at c1
      obtain rfl : k = 6 := by omega
      iterate 3 refine mj_T.pl rfl rfl rfl rfl ?_
      refine mj_T.ddv rfl (rp_dd _ (by have := mtc_le N 6; omega)) ?_
      exact mj_T.ret rfl rfl rfl hend
    · exfalso
      simp only [jc, Bool.not_eq_true', Bool.not_eq_false', decide_eq_true_eq, decide_eq_false_iff_not] at c1
      omega
  | d + 1, k, hk => by
    have l3 := cL_3
    have hb := mtc_le N k
    iterate 2 refine mj_T.pl rfl rfl rfl rfl ?_
    refine mT_get m 19 cq_d1 (by decide) rfl rfl ?_
    refine mT_get m 10 cq_d2 (by decide) rfl rfl ?_
    refine mT_alen m 6 (mK_b cq_d2).1 (by decide) rfl ?_
    refine mj_T.icmp (a := ((k : Nat) : Int)) (b := ((cL (2 + 1) : Nat) : Int)) rfl ⟨by omega, by omega⟩ ⟨by omega, by omega⟩ (fun c1 => ?_) (fun c1 => ?_)
    · exfalso
      simp only [jc, Bool.not_eq_true', Bool.not_eq_false', decide_eq_true_eq, decide_eq_false_iff_not] at c1
      omega
    · simp only [jc, Bool.not_eq_true', Bool.not_eq_false', decide_eq_true_eq, decide_eq_false_iff_not] at c1
      iterate 2 refine mj_T.pl rfl rfl rfl rfl ?_
      refine mT_get m 19 cq_d1 (by decide) rfl rfl ?_
      refine mT_get m 10 cq_d2 (by decide) rfl rfl ?_
      refine mj_T.pl rfl rfl rfl rfl ?_
      refine mT_aald m 6 (mK_b cq_d2).1 (by decide) rfl rfl (by omega) ⟨by omega, by omega⟩ ?_
      refine mj_T.eq (st2 := [.ref (4 + k), .int (jn ((mtc N k : Nat) : Int))]) ?_ rfl rfl rfl rfl
      refine mj_T.call rfl rfl (Nat.le_of_ble_eq_true rfl) (Nat.le_of_ble_eq_true rfl) rfl rfl (mj_Ok.up (by omega) (mS_terms (D := 0) m (mK_rt k (by omega)) (c.smn gn (k := k) (by omega)))) (fun v g2 hq => ?_) (fun i g2 hq => ?_)
      rotate_left
      · cases hq
      cases hq
      have e := tmc_cg 13 (c.rwn (k := k) (by omega))
      rw [e]
      refine mj_T.eq (pc2 := 29) (st2 := [.int (jn ((tmc (rwN N (k : Int)) 13 : Nat) : Int)), .int (jn ((mtc N k : Nat) : Int))]) ?_ rfl rfl rfl rfl
      refine mj_T.iadd (a := ((mtc N k : Nat) : Int)) (b := ((tmc (rwN N (k : Int)) 13 : Nat) : Int)) rfl ?_
      refine mj_T.pl (loc' := [some (.ref 1), some (.int (jn (((mtc N k : Nat) : Int) + ((tmc (rwN N (k : Int)) 13 : Nat) : Int)))), some (.int (jn ((k : Nat) : Int)))]) rfl rfl rfl rfl ?_
      refine mj_T.iinc rfl rfl ?_
      rw [show ((k : Nat) : Int) + 1 = ((k + 1 : Nat) : Int) by omega]
      refine mj_T.eq (loc2 := [some (.ref 1), some (.int (jn (((mtc N k : Nat) : Int) + ((tmc (rwN N (k : Int)) 13 : Nat) : Int)))), some (.int (jn (((k + 1) : Nat) : Int)))]) ?_ rfl rfl rfl rfl
      refine mj_T.pl rfl rfl rfl rfl ?_
      refine mj_T.eq (mX_mean_loop m gn c hend d (k + 1) (by omega)) rfl ?_ rfl rfl
      rw [show (((mtc N k : Nat) : Int) + ((tmc (rwN N (k : Int)) 13 : Nat) : Int)) = ((mtc N (k + 1) : Nat) : Int) by show _ = ((mtc N k + tmc (rwN N (k : Int)) 13 : Nat) : Int); omega]
theorem cv_146 (A : AS N u H) (s : cC N u H h) : mj_Ok 59 146 [.ref 1] h (fun r => r.1 = .inl (some (.double (mtD N)))) := by
  obtain ⟨V, X, m, b, d, c⟩ := s
  refine mj_Ok.of (M := mj_m146) rfl rfl rfl ?_
  iterate 4 refine mj_T.pl rfl rfl rfl rfl ?_
  exact mX_mean_loop (D := 57) (Q := fun r => r.1 = .inl (some (.double (mtD N)))) m A.1 c rfl 6 0 (by omega)
end MVU
section RVU
variable {h : mj_H} {tm er : Int} {T : Nat → Int} {N0 : Nat → Int} {u0 : Nat} {H : Nat → Nat → Int}
theorem ra_meanTerms_loop {S N B X V : Nat → Int} (hs : rS S N B T X V h) (K : jKx N0 u0 H tm er S N B T) :
    ∀ (m k c : Nat), k + m = 6 → c = mtc N0 k → mj_T 39 mj_m307 9 [some (.ref 0), some (.int (jn (c : Int))), some (.int (jn (k : Int)))] [] h (fun r => r.1 = .inl (some (.double (mtD N0))) ∧ rZ (sameQ N0 u0 H) tm er T r) := by
  intro m
  induction m with
  | zero =>
    intro k c hk hcb
    have hb9 := mtc_le N0 k
    have hk : k = 6 := by omega
    subst hk
    iterate 2 refine mj_T.pl rfl rfl rfl rfl ?_
    refine mj_T.icmp (a := ((6 : Nat) : Int)) (b := 6) rfl ⟨by decide, by decide⟩ ⟨by decide, by decide⟩ (fun hc => ?_) (fun hc => ?_)
    · iterate 3 refine mj_T.pl rfl rfl rfl rfl ?_
      refine mj_T.ddv rfl (rp_dd c (by omega)) ?_
      subst hcb
      exact mj_T.ret rfl rfl rfl ⟨rfl, N0, u0, H, ⟨rfl, rfl, rfl⟩, ⟨_, _, _, _, _, hs, K⟩⟩
    · simp [jc] at hc
  | succ m ih =>
    intro k c hk hcb
    have hb9 := mtc_le N0 k
    iterate 2 refine mj_T.pl rfl rfl rfl rfl ?_
    refine mj_T.icmp (a := (k : Int)) (b := 6) rfl ⟨by omega, by omega⟩ ⟨by decide, by decide⟩ (fun hc => ?_) (fun hc => ?_)
    · simp only [jc, decide_eq_true_eq] at hc
      omega
    iterate 3 refine mj_T.pl rfl rfl rfl rfl ?_
    have hrt := rtm_le N k 13
    refine mj_T.call (ins := .invokevirtual 292) rfl rfl (Nat.le_of_ble_eq_true rfl) (Nat.le_of_ble_eq_true rfl) (by simp [mj_recv, rS_f hs]) rfl (mj_Ok.up (by decide) (rp_termsOf (D := 0) (r := k) (by omega) K.nR hs)) (fun v' h' hq' => ?_) (fun i h' hq' => by cases hq')
    cases hq'
    refine mj_T.iadd (a := (c : Int)) (b := ((rtm N k 13 : Nat) : Int)) rfl ?_
    rw [show (c : Int) + ((rtm N k 13 : Nat) : Int) = ((c + rtm N k 13 : Nat) : Int) by omega]
    refine mj_T.pl rfl rfl rfl rfl ?_
    refine mj_T.iinc (a := (k : Int)) rfl rfl ?_
    refine mj_T.pl rfl rfl rfl rfl ?_
    exact ih (k + 1) _ (by omega) (by rw [hcb, rtm_tmc K.2.1 (by omega) 13 (Nat.le_refl 13)]; rfl)
theorem ra_meanTerms  (hI : jIx N0 u0 H tm er T h) : mj_Ok 40 307 [.ref 0] h (fun r => r.1 = .inl (some (.double (mtD N0))) ∧ rZ (sameQ N0 u0 H) tm er T r) := by
  refine mj_Ok.of (M := mj_m307) rfl rfl rfl ?_
  obtain ⟨S, N, B, X, V, hs, K⟩ := hI
  iterate 2 refine mj_T.pl rfl rfl rfl rfl ?_
  refine rT_put (v := 0) hs rfl rfl (by decide) rfl (fun g5 hs5 => ?_)
  have K5 := K.put (k := 3) (v := 0) ⟨by decide, by decide⟩ (by decide) (by decide) (by decide) (by decide) (by decide)
  generalize jvu S 3 0 = S5 at hs5 K5
  iterate 4 refine mj_T.pl rfl rfl rfl rfl ?_
  exact ra_meanTerms_loop hs5 K5 6 0 0 (by omega) rfl
end RVU
section YXW
variable {N : Nat → Int} {u : Nat} {H : Nat → Nat → Int} {hr h : mj_H} {tm er : Int} {T : Nat → Int}
theorem YX.callvd {D j : Nat} {as as2 : List Value} {tm' er' : Int} {x : UInt64} {T' : Nat → Int} {Φ Ψ : SP} (E : jEm 563 hr h) (y : yZ Φ h) (ag : AgP Φ Ψ) (c : mj_Ok D j as hr (fun r => r.1 = .inl (some (.double x)) ∧ rZ Ψ tm' er' T' r)) (has : ∀ N, as.map (mj_rn (jro 563 N)) = as2) : mj_Ok D j as2 h (fun r => r.1 = .inl (some (.double x)) ∧ YX tm' er' T' r.2) := by
  have hL := E.2.2.1
  have := E.run c (fun r q h3 => by
    obtain ⟨_, N', u', H', _, k⟩ := q
    exact jI_s8 k.tI h3)
  rw [has] at this
  refine this.to (fun r hq => ?_)
  obtain ⟨r0, hr', ⟨v0, N2, u2, H2, p2, k⟩, v1, d, _, f⟩ := hq
  obtain ⟨N1, u1, H1, p1, s1⟩ := y
  have s2 : cC N1 u1 H1 r.2 := s1.fr (fun a ha => by
    have l : a < 563 := by
      rcases Nat.lt_or_ge a 563 with c | c
      · exact c
      · exact absurd (cK_out c) ha
    exact f a (by omega) (Or.inl l))
  have v0 : r0 = .inl (some (.double x)) := v0
  refine ⟨?_, N2, u2, H2, hr', s2.cg (ag _ _ _ _ _ _ p1 p2), d, k⟩
  rw [v1, v0]
  first
  | rfl
  | done
end YXW
/-! The value of a polynomial at a fraction, exactly. -/
def hpv (f : Nat → Int) (x : Int) : Nat → Int → Int
  | 0, v => v
  | m + 1, v => hpv f x m (v * x + f m)
/-- the value at x / y, times the bottom to the degree -/
def vlz (f : Nat → Int) (x y : Int) : Int := hpv (fun e => f e * y ^ ((fdg f 13 - 1) - e)) x (fdg f 13) 0
/-! The value at a fraction: answers on both sides. -/
abbrev okfr (x y : Int) : Prop := (-1000 ≤ x ∧ x ≤ 1000) ∧ (1 ≤ y ∧ y ≤ 1000)
abbrev A_value (N : Nat → Int) (a x y : Int) : Int → Int → Prop := an [(0 ≤ a ∧ a ≤ 5, 1), (okfr x y, 2)] (fun z => z = jsg (vlz (rwN N a) x y))
theorem A_value.ag {N : Nat → Int} {a x y c1 z1 c2 z2 : Int} (p : A_value N a x y c1 z1) (q : A_value N a x y c2 z2) : c1 = c2 ∧ (c1 = 0 → z1 = z2) := an.ag (fun _ _ a b => a.trans b.symm) (by simp) p q
def agc (f f' : Nat → Int) : Nat → Nat
  | 0 => 0
  | k + 1 => if hpv f (k : Int) 13 0 = hpv f' (k : Int) 13 0 then agc f f' k + 1 else agc f f' k
def agd (f f' : Nat → Int) : Nat := max 1 (max (fdg f 13) (fdg f' 13))
abbrev A_agreements (N : Nat → Int) (a b : Int) : Int → Int → Prop := an [(rg2 a b, 1)] (fun z => z = ((agc (rwN N a) (rwN N b) (agd (rwN N a) (rwN N b)) : Nat) : Int))
theorem A_agreements.ag {N : Nat → Int} {a b c1 z1 c2 z2 : Int} (p : A_agreements N a b c1 z1) (q : A_agreements N a b c2 z2) : c1 = c2 ∧ (c1 = 0 → z1 = z2) := an.ag (fun _ _ a b => a.trans b.symm) (by simp) p q
/-! divides: answers on both sides. -/
abbrev dvZ (f f' : Nat → Int) : Prop := ∃ (Q : pz_P) (d : Nat), pz_lt Q d ∧ rw13 f' = pz_mul Q (rw13 f)
abbrev dvF (f f' : Nat → Int) (z : Int) : Prop := (z = 1 ∧ dvZ f f') ∨ (z = 0 ∧ ¬ dvZ f f')
theorem dvF.one {f f' : Nat → Int} (z1 z2 : Int) (a : dvF f f' z1) (b : dvF f f' z2) : z1 = z2 := by
  rcases a with ⟨a1, a2⟩ | ⟨a1, a2⟩
  · rcases b with ⟨b1, b2⟩ | ⟨b1, b2⟩
    · omega
    · exact absurd a2 b2
  · rcases b with ⟨b1, b2⟩ | ⟨b1, b2⟩
    · exact absurd b2 a2
    · omega
theorem dvF.cg {f f' f1 f2 : Nat → Int} (h : ∀ j, j < 13 → f j = f1 j) (h2 : ∀ j, j < 13 → f' j = f2 j) {z : Int} (p : dvF f f' z) : dvF f1 f2 z := by
  have e1 := rw13_cg h
  have e2 := rw13_cg h2
  unfold dvF dvZ at p ⊢
  rw [← e1, ← e2]
  exact p
abbrev A_divides (N : Nat → Int) (a b : Int) : Int → Int → Prop := an [(rg2 a b, 1)] (dvF (rwN N a) (rwN N b))
theorem A_divides.ag {N : Nat → Int} {a b c1 z1 c2 z2 : Int} (p : A_divides N a b c1 z1) (q : A_divides N a b c2 z2) : c1 = c2 ∧ (c1 = 0 → z1 = z2) := an.ag dvF.one (by simp) p q
theorem A_divides.b {N : Nat → Int} {a b z : Int} (p : A_divides N a b 0 z) : z = 0 ∨ z = 1 := by
  rcases p with ⟨_, e⟩ | ⟨_, _, ⟨e, _⟩ | ⟨e, _⟩⟩
  · exact absurd (show (0 : Int) = 1 from e) (by decide)
  · exact Or.inr e
  · exact Or.inl e
/-! A polynomial as a text. -/
def kfd (v : Nat) : Nat → Nat → Nat
  | 0, k => k
  | d + 1, k => if v / 10 ^ k < 10 then k else kfd v d (k + 1)
def nmN (v : Nat) : Nat := kfd v 17 0 + 1
def tmN (c : Int) (e : Nat) : Nat := (if c.natAbs = 1 ∧ e ≠ 0 then 0 else nmN c.natAbs + (if 0 < e then 1 else 0)) + ((if 0 < e then 1 else 0) + (if 1 < e then nmN e + 1 else 0))
def sgN (c : Int) (w : Nat) : Nat := if w = 0 then (if c < 0 then 1 else 0) else 3
def rlN (f : Nat → Int) : Nat → Nat → Nat
  | 0, w => w
  | m + 1, w => rlN f m (if f m = 0 then w else w + (sgN (f m) w + tmN (f m) m))
def wrN (f : Nat → Int) : Nat := if rlN f 13 0 = 0 then 1 else rlN f 13 0
abbrev A_write (N : Nat → Int) (a : Int) : Int → Int → Prop := an [(0 ≤ a ∧ a ≤ 5, 1)] (fun z => z = ((wrN (rwN N a) : Nat) : Int))
theorem A_write.ag {N : Nat → Int} {a c1 z1 c2 z2 : Int} (p : A_write N a c1 z1) (q : A_write N a c2 z2) : c1 = c2 ∧ (c1 = 0 → z1 = z2) := an.ag (fun _ _ a b => a.trans b.symm) (by simp) p q
section MTY
variable {g h : mj_H} {n D t r : Nat} {V : Nat → Int} {X : Nat → Nat → Int} {N : Nat → Int} {H : Nat → Nat → Int} {u : Nat}
def fin (L : List Int) : List Int := if L = [] then [48] else L
end MTY
