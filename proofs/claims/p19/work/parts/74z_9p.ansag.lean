/-! Answers of the calls that change registers, in one form. -/
theorem itR.oneD {N : Nat → Int} (g : gN N) {w1 w2 : Nat → Int} {D1 D2 : Int} (a : itR N w1 D1) (b : itR N w2 D2) : D1 = D2 := by
  obtain ⟨M1, a0, a1, a2, a3, a4⟩ := a
  obtain ⟨M2, b0, b1, b2, b3, b4⟩ := b
  have hlin := itp_lin (Y := fun i => N (85 + i)) a1 b1 (wgt_N g) (N 78).toNat (Nat.le_refl _)
  have hx : ∀ j, j < 13 → D2 * w1 j = D1 * w2 j := fun j hj => by
    have e1 := a2 j hj
    have e2 := b2 j hj
    have e3 := hlin j
    generalize itp (fun i => N (79 + i)) (fun i => N (85 + i)) M1 (N 78).toNat (N 78).toNat j = I1 at e1 e3
    generalize itp (fun i => N (79 + i)) (fun i => N (85 + i)) M2 (N 78).toNat (N 78).toNat j = I2 at e2 e3
    have hne : M1 * M2 ≠ 0 := Int.mul_ne_zero (by omega) (by omega)
    refine Int.eq_of_mul_eq_mul_left hne ?_
    have l1 : M1 * M2 * (D2 * w1 j) = D1 * D2 * (M2 * I1) := by
      rw [show M1 * M2 * (D2 * w1 j) = M2 * D2 * (M1 * w1 j) by ac_rfl, e1]
      ac_rfl
    have l2 : M1 * M2 * (D1 * w2 j) = D1 * D2 * (M1 * I2) := by
      rw [show M1 * M2 * (D1 * w2 j) = M1 * D1 * (M2 * w2 j) by ac_rfl, e2]
      ac_rfl
    rw [l1, l2, e3]
  have n1 : D1 = ((D1.natAbs : Nat) : Int) := by omega
  have n2 : D2 = ((D2.natAbs : Nat) : Int) := by omega
  have d1 : D1.natAbs ∣ D2.natAbs := cp_dvd a4 (fun j hj => by rw [← n1, ← n2]; exact hx j hj)
  have d2 : D2.natAbs ∣ D1.natAbs := cp_dvd b4 (fun j hj => by rw [← n1, ← n2]; exact (hx j hj).symm)
  have de : D1.natAbs = D2.natAbs := Nat.dvd_antisymm d1 d2
  omega
theorem an.n {p : Prop} {k z : Int} {l : List (Prop × Int)} {F : Int → Prop} (h : ¬ p) : an ((p, k) :: l) F k z := Or.inl ⟨h, rfl⟩
theorem an.y {p : Prop} {k c z : Int} {l : List (Prop × Int)} {F : Int → Prop} (h : p) (q : an l F c z) : an ((p, k) :: l) F c z := Or.inr ⟨h, q⟩
theorem an.e {z : Int} {F : Int → Prop} (h : F z) : an [] F 0 z := ⟨rfl, h⟩
abbrev rg2 (a b : Int) : Prop := (0 ≤ a ∧ a ≤ 5) ∧ (0 ≤ b ∧ b ≤ 5)
abbrev rg3 (a b c : Int) : Prop := (0 ≤ a ∧ a ≤ 5) ∧ (0 ≤ b ∧ b ≤ 5) ∧ (0 ≤ c ∧ c ≤ 5)
/-- the degree of what is laid -/
def dgF (R : Nat → Int) (z : Int) : Prop := z = (fdg R 13 : Int) - 1
theorem dgF.of {R w : Nat → Int} (h : ∀ j, j < 13 → w j = R j) : dgF R ((fdg w 13 : Int) - 1) := by
  unfold dgF
  rw [fdg_congr 13 h]
theorem dgF.one {R : Nat → Int} (z1 z2 : Int) (a : dgF R z1) (b : dgF R z2) : z1 = z2 := a.trans b.symm
abbrev A_sum (N : Nat → Int) (f to a b : Int) : Int → Int → Prop := an [(rg3 to a b, 1), (sml (sumN N f a b), 2)] (dgF (sumN N f a b))
abbrev A_multiply (N : Nat → Int) (to a b : Int) : Int → Int → Prop := an [(rg3 to a b, 1), (fit13 (pz_mul (rwN N a) (rwN N b)), 2)] (dgF (pz_mul (rwN N a) (rwN N b)))
abbrev A_power (N : Nat → Int) (to a e : Int) : Int → Int → Prop := an [(rg2 to a, 1), (0 ≤ e ∧ e ≤ 12, 2), (fit13 (pw (rwN N a) e.toNat), 3)] (dgF (pw (rwN N a) e.toNat))
abbrev A_derive (N : Nat → Int) (to a : Int) : Int → Int → Prop := an [(rg2 to a, 1), (sml (drN N a), 2)] (dgF (drN N a))
abbrev A_substitute (N : Nat → Int) (to a b : Int) : Int → Int → Prop := an [(rg3 to a b, 1), (fit13 (hw (rwN N a) (rwN N b) 13), 2)] (dgF (hw (rwN N a) (rwN N b) 13))
abbrev A_divide (N : Nat → Int) (x y z u : Int) : Int → Int → Prop := an [((0 ≤ x ∧ x ≤ 5) ∧ (0 ≤ y ∧ y ≤ 5) ∧ (0 ≤ z ∧ z ≤ 5) ∧ (0 ≤ u ∧ u ≤ 5), 1), (x ≠ y, 2), (0 < fdg (rwN N u) 13, 3), (fit13 (dvQ (rwN N z) (rwN N u)) ∧ fit13 (dvT (rwN N z) (rwN N u)), 4)] (fun v => v = ((fdg (rwN N z) 13 - (fdg (rwN N u) 13 - 1) : Nat) : Int))
abbrev A_gcd (N : Nat → Int) (to a b : Int) : Int → Int → Prop := an [(rg3 to a b, 1), (∃ R, gcR (rwN N a) (rwN N b) R ∧ fit13 R, 2)] (fun v => ∃ R, gcR (rwN N a) (rwN N b) R ∧ dgF R v)
abbrev A_primitive (N : Nat → Int) (to a : Int) : Int → Int → Prop := an [(rg2 to a, 1), (fit13 (ppr (rwN N a)), 2)] (dgF (ppr (rwN N a)))
abbrev A_simple (N : Nat → Int) (to a : Int) : Int → Int → Prop := an [(rg2 to a, 1), (0 < fdg (rwN N a) 13, 2), (∃ S, smR (rwN N a) S ∧ fit13 S, 3)] (fun v => ∃ S, smR (rwN N a) S ∧ dgF S v)
abbrev A_residue (N : Nat → Int) (to a p : Int) : Int → Int → Prop := an [(rg2 to a, 1), (prm p, 2)] (dgF (fun j => rwN N a j % p))
abbrev A_setTerm (N : Nat → Int) (to e x : Int) : Int → Int → Prop := an [(0 ≤ to ∧ to ≤ 5, 1), (0 ≤ e ∧ e ≤ 12, 2), (-999999999999999999 ≤ x ∧ x ≤ 999999999999999999, 3)] (dgF (fun j => if j = e.toNat then x else rwN N to j))
abbrev A_addPoint (N : Nat → Int) (x y : Int) : Int → Int → Prop := an [((-9 ≤ x ∧ x ≤ 9) ∧ (-999 ≤ y ∧ y ≤ 999), 1), (N 78 ≠ 6 ∧ ∀ j : Nat, (j : Int) < N 78 → N (79 + j) ≠ x, 2)] (fun v => v = (((N 78).toNat + 1 : Nat) : Int))
abbrev A_read (T : Nat → Int) (tm : Nat) (to : Int) : Int → Int → Prop := an [(0 ≤ to ∧ to ≤ 5, 1), (rdErr T tm = -1, 2), (∃ P, rdV T tm = some P, 3)] (fun v => ∃ P, rdV T tm = some P ∧ dgF P v)
section AAG
variable {N : Nat → Int} {c1 z1 c2 z2 : Int}
theorem A_sum.ag {f to a b : Int} (p : A_sum N f to a b c1 z1) (q : A_sum N f to a b c2 z2) : c1 = c2 ∧ (c1 = 0 → z1 = z2) := an.ag dgF.one (by simp) p q
theorem A_multiply.ag {to a b : Int} (p : A_multiply N to a b c1 z1) (q : A_multiply N to a b c2 z2) : c1 = c2 ∧ (c1 = 0 → z1 = z2) := an.ag dgF.one (by simp) p q
theorem A_power.ag {to a b : Int} (p : A_power N to a b c1 z1) (q : A_power N to a b c2 z2) : c1 = c2 ∧ (c1 = 0 → z1 = z2) := an.ag dgF.one (by simp) p q
theorem A_derive.ag {to a : Int} (p : A_derive N to a c1 z1) (q : A_derive N to a c2 z2) : c1 = c2 ∧ (c1 = 0 → z1 = z2) := an.ag dgF.one (by simp) p q
theorem A_substitute.ag {to a b : Int} (p : A_substitute N to a b c1 z1) (q : A_substitute N to a b c2 z2) : c1 = c2 ∧ (c1 = 0 → z1 = z2) := an.ag dgF.one (by simp) p q
theorem A_divide.ag {x y z u : Int} (p : A_divide N x y z u c1 z1) (q : A_divide N x y z u c2 z2) : c1 = c2 ∧ (c1 = 0 → z1 = z2) := an.ag (fun _ _ a b => a.trans b.symm) (by simp) p q
theorem A_gcd.ag {to a b : Int} (p : A_gcd N to a b c1 z1) (q : A_gcd N to a b c2 z2) : c1 = c2 ∧ (c1 = 0 → z1 = z2) := an.ag (fun z1 z2 a b => by
  obtain ⟨R1, a1, a2⟩ := a
  obtain ⟨R2, b1, b2⟩ := b
  have e := gcR.one a1 b1
  subst e
  exact dgF.one _ _ a2 b2) (by simp) p q
theorem A_primitive.ag {to a : Int} (p : A_primitive N to a c1 z1) (q : A_primitive N to a c2 z2) : c1 = c2 ∧ (c1 = 0 → z1 = z2) := an.ag dgF.one (by simp) p q
theorem A_simple.ag {to a : Int} (p : A_simple N to a c1 z1) (q : A_simple N to a c2 z2) : c1 = c2 ∧ (c1 = 0 → z1 = z2) := an.ag (fun z1 z2 a b => by
  obtain ⟨R1, a1, a2⟩ := a
  obtain ⟨R2, b1, b2⟩ := b
  have e := smR.one a1 b1
  subst e
  exact dgF.one _ _ a2 b2) (by simp) p q
theorem A_residue.ag {to a b : Int} (p : A_residue N to a b c1 z1) (q : A_residue N to a b c2 z2) : c1 = c2 ∧ (c1 = 0 → z1 = z2) := an.ag dgF.one (by simp) p q
theorem A_setTerm.ag {to a b : Int} (p : A_setTerm N to a b c1 z1) (q : A_setTerm N to a b c2 z2) : c1 = c2 ∧ (c1 = 0 → z1 = z2) := an.ag dgF.one (by simp) p q
theorem A_addPoint.ag {a b : Int} (p : A_addPoint N a b c1 z1) (q : A_addPoint N a b c2 z2) : c1 = c2 ∧ (c1 = 0 → z1 = z2) := an.ag (fun _ _ a b => a.trans b.symm) (by simp) p q
theorem A_read.ag {T : Nat → Int} {tm : Nat} {to : Int} (p : A_read T tm to c1 z1) (q : A_read T tm to c2 z2) : c1 = c2 ∧ (c1 = 0 → z1 = z2) := an.ag (fun z1 z2 a b => by
  obtain ⟨R1, a1, a2⟩ := a
  obtain ⟨R2, b1, b2⟩ := b
  rw [a1] at b1
  cases b1
  exact dgF.one _ _ a2 b2) (by simp) p q
end AAG
section ACL
variable {g h : mj_H} {n u : Nat} {N : Nat → Int} {H : Nat → Nat → Int}
theorem RO.ca {reg : Prop} {fail : Nat → Prop} {res : (Nat → Int) → Prop} {to : Int} {z : mj_R} (cd : Nat → Int) {A : Int → Int → Prop} (r : RO g n N u H reg fail res to z) (h1 : ¬ reg → ∀ z, A (cd 0) z) (h2 : ∀ k, reg → fail k → ∀ z, A (cd k) z) (h3 : ∀ w, reg → res w → sml w → A 0 ((fdg w 13 : Int) - 1)) : cA cd A z := by
  rcases r with ⟨a, w, h9, s, b, _, rfl⟩ | ⟨k, h9, hk, _, rfl⟩
  · have := fdg_le w 13
    exact ⟨_, ⟨by omega, by omega⟩, rfl, h3 w a b s⟩
  · intro z
    rcases hk with ⟨a, rfl⟩ | ⟨a, b⟩
    · exact h1 a z
    · exact h2 k a b z
theorem ca_102 (B : AS N u H) (s : cC N u H h) {to : Int} (r0 : -2147483648 ≤ to ∧ to ≤ 2147483647) {a : Int} (r1 : -2147483648 ≤ a ∧ a ≤ 2147483647) {b : Int} (r2 : -2147483648 ≤ b ∧ b ≤ 2147483647) : mj_Ok 59 102 [.ref 1, .int (jn to), .int (jn a), .int (jn b)] h (fun r => yZ (Q_sum N u H 1 to a b) r.2 ∧ cA (fun k => if k = 0 then 1 else 2) (A_sum N 1 to a b) r) := ((cz_102 B s r0 r1 r2).and (mj_Ok.up (by decide) (pX_add (D := 0) (Nat.le_refl _) B s r0 r1 r2))).to (fun z hz => ⟨hz.1.yz, RO.ca _ hz.2 (fun q z => an.n q) (fun k q hk z => by
  obtain ⟨a, rfl⟩ := hk
  exact an.y q (an.n a)) (fun w q hw _ => an.y q (an.y hw.1 (an.e (dgF.of hw.2))))⟩)
theorem ca_103 (B : AS N u H) (s : cC N u H h) {to : Int} (r0 : -2147483648 ≤ to ∧ to ≤ 2147483647) {a : Int} (r1 : -2147483648 ≤ a ∧ a ≤ 2147483647) {b : Int} (r2 : -2147483648 ≤ b ∧ b ≤ 2147483647) : mj_Ok 59 103 [.ref 1, .int (jn to), .int (jn a), .int (jn b)] h (fun r => yZ (Q_sum N u H (-1) to a b) r.2 ∧ cA (fun k => if k = 0 then 1 else 2) (A_sum N (-1) to a b) r) := ((cz_103 B s r0 r1 r2).and (mj_Ok.up (by decide) (pX_subtract (D := 0) (Nat.le_refl _) B s r0 r1 r2))).to (fun z hz => ⟨hz.1.yz, RO.ca _ hz.2 (fun q z => an.n q) (fun k q hk z => by
  obtain ⟨a, rfl⟩ := hk
  exact an.y q (an.n a)) (fun w q hw _ => an.y q (an.y hw.1 (an.e (dgF.of hw.2))))⟩)
theorem ca_104 (B : AS N u H) (s : cC N u H h) {to : Int} (r0 : -2147483648 ≤ to ∧ to ≤ 2147483647) {a : Int} (r1 : -2147483648 ≤ a ∧ a ≤ 2147483647) {b : Int} (r2 : -2147483648 ≤ b ∧ b ≤ 2147483647) : mj_Ok 59 104 [.ref 1, .int (jn to), .int (jn a), .int (jn b)] h (fun r => yZ (Q_multiply N u H to a b) r.2 ∧ cA (fun k => if k = 0 then 1 else 2) (A_multiply N to a b) r) := ((cz_104 B s r0 r1 r2).and (mj_Ok.up (by decide) (pX_multiply (D := 0) (Nat.le_refl _) B s r0 r1 r2))).to (fun z hz => ⟨hz.1.yz, RO.ca _ hz.2 (fun q z => an.n q) (fun k q hk z => by
  obtain ⟨a, rfl⟩ := hk
  exact an.y q (an.n a)) (fun w q hw _ => an.y q (an.y hw.1 (an.e (dgF.of hw.2))))⟩)
theorem ca_106 (B : AS N u H) (s : cC N u H h) {to : Int} (r0 : -2147483648 ≤ to ∧ to ≤ 2147483647) {a : Int} (r1 : -2147483648 ≤ a ∧ a ≤ 2147483647) : mj_Ok 59 106 [.ref 1, .int (jn to), .int (jn a)] h (fun r => yZ (Q_derive N u H to a) r.2 ∧ cA (fun k => if k = 0 then 1 else 2) (A_derive N to a) r) := ((cz_106 B s r0 r1).and (mj_Ok.up (by decide) (pX_derive (D := 0) (Nat.le_refl _) B s r0 r1))).to (fun z hz => ⟨hz.1.yz, RO.ca _ hz.2 (fun q z => an.n q) (fun k q hk z => by
  obtain ⟨a, rfl⟩ := hk
  exact an.y q (an.n a)) (fun w q hw _ => an.y q (an.y hw.1 (an.e (dgF.of hw.2))))⟩)
theorem ca_107 (B : AS N u H) (s : cC N u H h) {to : Int} (r0 : -2147483648 ≤ to ∧ to ≤ 2147483647) {a : Int} (r1 : -2147483648 ≤ a ∧ a ≤ 2147483647) {b : Int} (r2 : -2147483648 ≤ b ∧ b ≤ 2147483647) : mj_Ok 59 107 [.ref 1, .int (jn to), .int (jn a), .int (jn b)] h (fun r => yZ (Q_substitute N u H to a b) r.2 ∧ cA (fun k => if k = 0 then 1 else 2) (A_substitute N to a b) r) := ((cz_107 B s r0 r1 r2).and (mj_Ok.up (by decide) (pX_substitute (D := 0) (Nat.le_refl _) B s r0 r1 r2))).to (fun z hz => ⟨hz.1.yz, RO.ca _ hz.2 (fun q z => an.n q) (fun k q hk z => by
  obtain ⟨a, rfl⟩ := hk
  exact an.y q (an.n a)) (fun w q hw _ => an.y q (an.y hw.1 (an.e (dgF.of hw.2))))⟩)
theorem ca_112 (B : AS N u H) (s : cC N u H h) {to : Int} (r0 : -2147483648 ≤ to ∧ to ≤ 2147483647) {a : Int} (r1 : -2147483648 ≤ a ∧ a ≤ 2147483647) {p : Int} (r2 : -2147483648 ≤ p ∧ p ≤ 2147483647) : mj_Ok 59 112 [.ref 1, .int (jn to), .int (jn a), .int (jn p)] h (fun r => yZ (Q_residue N u H to a p) r.2 ∧ cA (fun k => if k = 0 then 1 else 2) (A_residue N to a p) r) := ((cz_112 B s r0 r1 r2).and (mj_Ok.up (by decide) (pX_residue (D := 0) (Nat.le_refl _) B s r0 r1 r2))).to (fun z hz => ⟨hz.1.yz, RO.ca _ hz.2 (fun q z => an.n q) (fun k q hk z => by
  obtain ⟨a, rfl⟩ := hk
  exact an.y q (an.n a)) (fun w q hw _ => an.y q (an.y hw.1 (an.e (dgF.of hw.2))))⟩)
theorem ca_105 (B : AS N u H) (s : cC N u H h) {to : Int} (r0 : -2147483648 ≤ to ∧ to ≤ 2147483647) {a : Int} (r1 : -2147483648 ≤ a ∧ a ≤ 2147483647) {e : Int} (r2 : -2147483648 ≤ e ∧ e ≤ 2147483647) : mj_Ok 59 105 [.ref 1, .int (jn to), .int (jn a), .int (jn e)] h (fun r => yZ (Q_power N u H to a e) r.2 ∧ cA (fun k => if k = 0 then 1 else if k = 2 then 2 else 3) (A_power N to a e) r) := ((cz_105 B s r0 r1 r2).and (mj_Ok.up (by decide) (pY_power (D := 0) (Nat.le_refl _) B s r0 r1 r2))).to (fun z hz => ⟨hz.1.yz, RO.ca _ hz.2 (fun q z => an.n q) (fun k q hk z => by
  rcases hk with ⟨a, rfl⟩ | ⟨a, b, rfl⟩
  · exact an.y q (an.n a)
  · exact an.y q (an.y a (an.n b))) (fun w q hw _ => an.y q (an.y hw.1 (an.y hw.2.1 (an.e (dgF.of hw.2.2)))))⟩)
theorem ca_109 (B : AS N u H) (s : cC N u H h) {to : Int} (r0 : -2147483648 ≤ to ∧ to ≤ 2147483647) {a : Int} (r1 : -2147483648 ≤ a ∧ a ≤ 2147483647) {b : Int} (r2 : -2147483648 ≤ b ∧ b ≤ 2147483647) : mj_Ok 59 109 [.ref 1, .int (jn to), .int (jn a), .int (jn b)] h (fun r => yZ (Q_gcd N u H to a b) r.2 ∧ cA (fun k => if k = 0 then 1 else 2) (A_gcd N to a b) r) := ((cz_109 B s r0 r1 r2).and (mj_Ok.up (by decide) (pX_gcd (D := 0) (Nat.le_refl _) B s r0 r1 r2))).to (fun z hz => ⟨hz.1.yz, RO.ca _ hz.2 (fun q z => an.n q) (fun k q hk z => by
  obtain ⟨⟨R, a1, a2⟩, rfl⟩ := hk
  refine an.y q (an.n (fun y => ?_))
  obtain ⟨R2, b1, b2⟩ := y
  have e := gcR.one a1 b1
  subst e
  exact a2 b2) (fun w q hw _ => by
  obtain ⟨R, a1, a2⟩ := hw
  exact an.y q (an.y ⟨R, a1, a2.1⟩ (an.e ⟨R, a1, dgF.of a2.2⟩)))⟩)
theorem ca_110 (B : AS N u H) (s : cC N u H h) {to : Int} (r0 : -2147483648 ≤ to ∧ to ≤ 2147483647) {a : Int} (r1 : -2147483648 ≤ a ∧ a ≤ 2147483647) : mj_Ok 59 110 [.ref 1, .int (jn to), .int (jn a)] h (fun r => yZ (Q_primitive N u H to a) r.2 ∧ cA (fun k => 1) (A_primitive N to a) r) := ((cz_110 B s r0 r1).and (mj_Ok.up (by decide) (pX_primitive (D := 0) (Nat.le_refl _) B s r0 r1))).to (fun z hz => ⟨hz.1.yz, RO.ca _ hz.2 (fun q z => an.n q) (fun k q hk z => absurd hk.1 id) (fun w q hw sw => an.y q (an.y ⟨sml_cg hw sw, fun i hi => if_neg (by omega)⟩ (an.e (dgF.of hw))))⟩)
theorem ca_111 (B : AS N u H) (s : cC N u H h) {to : Int} (r0 : -2147483648 ≤ to ∧ to ≤ 2147483647) {a : Int} (r1 : -2147483648 ≤ a ∧ a ≤ 2147483647) : mj_Ok 59 111 [.ref 1, .int (jn to), .int (jn a)] h (fun r => yZ (Q_simple N u H to a) r.2 ∧ cA (fun k => if k = 0 then 1 else if k = 3 then 2 else 3) (A_simple N to a) r) := ((cz_111 B s r0 r1).and (mj_Ok.up (by decide) (pX_simple (D := 0) (Nat.le_refl _) B s r0 r1))).to (fun z hz => ⟨hz.1.yz, RO.ca _ hz.2 (fun q z => an.n q) (fun k q hk z => by
  rcases hk with ⟨a, rfl⟩ | ⟨a, ⟨R, a1, a2⟩, rfl⟩
  · exact an.y q (an.n (by omega))
  · refine an.y q (an.y a (an.n (fun y => ?_)))
    obtain ⟨R2, b1, b2⟩ := y
    have e := smR.one a1 b1
    subst e
    exact a2 b2) (fun w q hw _ => by
  obtain ⟨a, R, a1, a2⟩ := hw
  exact an.y q (an.y a (an.y ⟨R, a1, a2.1⟩ (an.e ⟨R, a1, dgF.of a2.2⟩))))⟩)
theorem ca_113 (B : AS N u H) (s : cC N u H h) {to : Int} (r0 : -2147483648 ≤ to ∧ to ≤ 2147483647) {e : Int} (r1 : -2147483648 ≤ e ∧ e ≤ 2147483647) {x : Int} (r2 : jR x) : mj_Ok 59 113 [.ref 1, .int (jn to), .int (jn e), .long (jl x)] h (fun r => yZ (Q_setTerm N u H to e x) r.2 ∧ cA (fun k => if k = 0 then 1 else if k = 2 then 2 else 3) (A_setTerm N to e x) r) := ((cz_113 B s r0 r1 r2).and (mj_Ok.up (by decide) (pX_setTerm (D := 0) (Nat.le_refl _) B s r0 r1 r2))).to (fun z hz => ⟨hz.1.yz, RO.ca _ hz.2 (fun q z => an.n q) (fun k q hk z => by
  rcases hk with ⟨a, rfl⟩ | ⟨a, b, rfl⟩
  · exact an.y q (an.n a)
  · exact an.y q (an.y a (an.n (by omega)))) (fun w q hw _ => an.y q (an.y hw.1.1 (an.y (by have := hw.1.2; omega) (an.e (dgF.of hw.2)))))⟩)
theorem ca_115 (B : AS N u H) (s : cC N u H h) {x : Int} (r0 : -2147483648 ≤ x ∧ x ≤ 2147483647) {y : Int} (r1 : -2147483648 ≤ y ∧ y ≤ 2147483647) : mj_Ok 59 115 [.ref 1, .int (jn x), .int (jn y)] h (fun r => yZ (Q_addPoint N u H x y) r.2 ∧ cA (fun k => if k = 2 then 1 else 2) (A_addPoint N x y) r) := ((cz_115 B s r0 r1).and (mj_Ok.up (by decide) (pX_addPoint (D := 0) (Nat.le_refl _) B s r0 r1))).to (fun z hz => ⟨hz.1.yz, by
  obtain ⟨_, hz⟩ := hz
  have h6 := B.1.2.1
  rcases hz with ⟨a, b, h9, _, rfl⟩ | ⟨k, h9, hk, _, rfl⟩
  · exact ⟨_, ⟨by omega, by omega⟩, rfl, an.y a (an.y ⟨by omega, fun j hj e => b (Or.inr ⟨j, hj, e⟩)⟩ (an.e rfl))⟩
  · intro z
    rcases hk with ⟨a, rfl⟩ | ⟨a, b, rfl⟩
    · exact an.n a
    · refine an.y a (an.n (fun q => ?_))
      rcases b with b | ⟨j, hj, e⟩
      · exact q.1 (by omega)
      · exact q.2 j hj e⟩)
theorem ca_108 (B : AS N u H) (s : cC N u H h) {x : Int} (r0 : -2147483648 ≤ x ∧ x ≤ 2147483647) {y : Int} (r1 : -2147483648 ≤ y ∧ y ≤ 2147483647) {v : Int} (r2 : -2147483648 ≤ v ∧ v ≤ 2147483647) {w : Int} (r3 : -2147483648 ≤ w ∧ w ≤ 2147483647) : mj_Ok 59 108 [.ref 1, .int (jn x), .int (jn y), .int (jn v), .int (jn w)] h (fun r => yZ (Q_divide N u H x y v w) r.2 ∧ cA (fun k => if k = 0 then 1 else if k = 2 then 2 else if k = 3 then 3 else 4) (A_divide N x y v w) r) := ((cz_108 B s r0 r1 r2 r3).and (mj_Ok.up (by decide) (pX_divide (D := 0) (Nat.le_refl _) B s r0 r1 r2 r3))).to (fun z hz => ⟨hz.1.yz, by
  obtain ⟨_, hz⟩ := hz
  rcases hz with ⟨a, b, c, d, e, q, r, h9, _, _, _, rfl⟩ | ⟨k, h9, hk, _, rfl⟩
  · have := fdg_le (rwN N v) 13
    exact ⟨_, ⟨by omega, by omega⟩, rfl, an.y a (an.y b (an.y c (an.y ⟨d, e⟩ (an.e rfl))))⟩
  · intro z
    rcases hk with ⟨a, rfl⟩ | ⟨a, ⟨b, rfl⟩ | ⟨b, c, rfl⟩ | ⟨b, c, d, rfl⟩⟩
    · exact an.n a
    · exact an.y a (an.n (fun q => q b))
    · exact an.y a (an.y b (an.n (by omega)))
    · exact an.y a (an.y b (an.y c (an.n d)))⟩)
theorem ca_114 {tm : Nat} {T : Nat → Int} (B : AS N u H) (s : cC N u H h) (hB0 : jBuf tm T h) (ht : tm ≤ 200) (hT : ∀ j : Nat, j < tm → 1 ≤ T j ∧ T j ≤ 255) {to : Int} (r0 : -2147483648 ≤ to ∧ to ≤ 2147483647) : mj_Ok 59 114 [.ref 1, .int (jn to)] h (fun r => yZ (Q_read N u H T tm to) r.2 ∧ cA (fun k => if k = 0 then 1 else if k = 2 then 2 else 3) (A_read T tm to) r) := ((cz_114 B s hB0 ht hT r0).and (mj_Ok.up (by decide) (pX_read (Nat.le_refl _) B s hB0 ht hT r0))).to (fun z hz => ⟨hz.1.yz, RO.ca _ hz.2 (fun q z => an.n q) (fun k q hk z => by
  rcases hk with ⟨a, rfl⟩ | ⟨a, b, rfl⟩
  · exact an.y q (an.n a)
  · refine an.y q (an.y a (an.n (fun y => ?_)))
    obtain ⟨P, y⟩ := y
    rw [b] at y
    cases y) (fun w q hw _ => by
  obtain ⟨a, P, a1, a2⟩ := hw
  exact an.y q (an.y a (an.y ⟨P, a1⟩ (an.e ⟨P, a1, dgF.of a2.2⟩))))⟩)
end ACL
section ARF
variable {h : mj_H} {u : Nat} {N : Nat → Int} {H : Nat → Nat → Int} {tm er : Int} {T : Nat → Int}
theorem rIc.za {c : Int} {F : Int → Prop} {N' : Nat → Int} {u' : Nat} {H' : Nat → Nat → Int} {r : mj_R} {P : SP} {A : Int → Int → Prop} (k : rIc c F N' u' H' tm er T r) (p : P N' u' H') (hA : ∀ z, F z → A c z) : rZa P A tm er T r := by
  obtain ⟨z, h', ⟨jz, hz⟩, rfl, I⟩ := k
  exact ⟨c, z, _, _, _, hA z hz, jz, rfl, p, I⟩
theorem rZa.mono {P P' : SP} {A : Int → Int → Prop} {r : mj_R} (k : rZa P A tm er T r) (hp : ∀ N u H, P N u H → P' N u H) : rZa P' A tm er T r := by
  obtain ⟨c, z, N', u', H', a, b, d, e, f⟩ := k
  exact ⟨c, z, N', u', H', a, b, d, hp _ _ _ e, f⟩
theorem RRc.za {reg : Prop} {R : Nat → Int} {to : Int} {r : mj_R} (k : RRc tm er T N u H reg (fun w => ∀ j, j < 13 → w j = R j) to r) : rZa (clQ (reg ∧ sml R) R to.toNat N u H) (an [(reg, 1), (sml R, 2)] (dgF R)) tm er T r := by
  rcases k with ⟨a, w, hw, ⟨s, k⟩ | ⟨s, k⟩⟩ | ⟨a, k⟩
  · exact k.za (Or.inl ⟨⟨a, sml_cg hw s⟩, w, hw, rfl, rfl, rfl⟩) (fun z hz => an.y a (an.y (sml_cg hw s) (an.e (Eq.trans hz (dgF.of hw)))))
  · exact k.za (Or.inr ⟨fun q => s (sml_cg (fun j hj => (hw j hj).symm) q.2), rfl, rfl, rfl⟩) (fun z _ => an.y a (an.n (fun q => s (sml_cg (fun j hj => (hw j hj).symm) q))))
  · exact k.za (Or.inr ⟨fun q => a q.1, rfl, rfl, rfl⟩) (fun z _ => an.n a)
theorem RPc.za {kk : Int} {cf : Int → Prop} {reg : Prop} {R : Nat → Int} {to : Int} {r : mj_R} {A : Int → Int → Prop} (k : RPc kk cf tm er T N u H reg R to r) (h1 : ∀ c, ¬ reg → cf c → ∀ z, A c z) (h2 : reg → ¬ fit13 R → ∀ z, A kk z) (h3 : ∀ z, reg → fit13 R → dgF R z → A 0 z) : rZa (clQ (reg ∧ fit13 R) R to.toNat N u H) A tm er T r := by
  rcases k with ⟨a, ⟨s, w, hw, k⟩ | ⟨s, k⟩⟩ | ⟨a, c, hc, k⟩
  · exact k.za (Or.inl ⟨⟨a, s⟩, w, hw, rfl, rfl, rfl⟩) (fun z hz => h3 z a s (Eq.trans hz (dgF.of hw)))
  · exact k.za (Or.inr ⟨fun q => s q.2, rfl, rfl, rfl⟩) (fun z _ => h2 a s z)
  · exact k.za (Or.inr ⟨fun q => a q.1, rfl, rfl, rfl⟩) (fun z _ => h1 c a hc z)
theorem ga_add {x : Int} (jx : jr x) {y : Int} (jy : jr y) {z : Int} (jz : jr z) (I : jIx N u H tm er T h) : mj_Ok 60 230 [.ref 0, .int (jn x), .int (jn y), .int (jn z)] h (rZa (Q_sum N u H 1 x y z) (A_sum N 1 x y z) tm er T) := (mj_Ok.up (by decide) (ra_add jx jy jz I)).to (fun r k => RRc.za k)
theorem ga_subtract {x : Int} (jx : jr x) {y : Int} (jy : jr y) {z : Int} (jz : jr z) (I : jIx N u H tm er T h) : mj_Ok 60 231 [.ref 0, .int (jn x), .int (jn y), .int (jn z)] h (rZa (Q_sum N u H (-1) x y z) (A_sum N (-1) x y z) tm er T) := (mj_Ok.up (by decide) (ra_subtract jx jy jz I)).to (fun r k => RRc.za k)
theorem ga_derive {x : Int} (jx : jr x) {y : Int} (jy : jr y) (I : jIx N u H tm er T h) : mj_Ok 60 235 [.ref 0, .int (jn x), .int (jn y)] h (rZa (Q_derive N u H x y) (A_derive N x y) tm er T) := (mj_Ok.up (by decide) (ra_derive jx jy I)).to (fun r k => RRc.za k)
theorem ga_multiply {x : Int} (jx : jr x) {y : Int} (jy : jr y) {z : Int} (jz : jr z) (I : jIx N u H tm er T h) : mj_Ok 60 233 [.ref 0, .int (jn x), .int (jn y), .int (jn z)] h (rZa (Q_multiply N u H x y z) (A_multiply N x y z) tm er T) := (mj_Ok.up (by decide) (ra_multiply jx jy jz I)).to (fun r k => RPc.za k (fun c a hc z => by
  subst hc
  exact an.n a) (fun a b z => an.y a (an.n b)) (fun z a b q => an.y a (an.y b (an.e q))))
theorem ga_substitute {x : Int} (jx : jr x) {y : Int} (jy : jr y) {z : Int} (jz : jr z) (I : jIx N u H tm er T h) : mj_Ok 60 236 [.ref 0, .int (jn x), .int (jn y), .int (jn z)] h (rZa (Q_substitute N u H x y z) (A_substitute N x y z) tm er T) := (mj_Ok.up (by decide) (ra_substitute jx jy jz I)).to (fun r k => RPc.za k (fun c a hc z => by
  subst hc
  exact an.n a) (fun a b z => an.y a (an.n b)) (fun z a b q => an.y a (an.y b (an.e q))))
theorem ga_primitive {x : Int} (jx : jr x) {y : Int} (jy : jr y) (I : jIx N u H tm er T h) : mj_Ok 60 239 [.ref 0, .int (jn x), .int (jn y)] h (rZa (Q_primitive N u H x y) (A_primitive N x y) tm er T) := (mj_Ok.up (by decide) (ra_primitive jx jy I)).to (fun r k => RPc.za k (fun c a hc z => by
  subst hc
  exact an.n a) (fun a b z => an.y a (an.n b)) (fun z a b q => an.y a (an.y b (an.e q))))
theorem ga_power {x : Int} (jx : jr x) {y : Int} (jy : jr y) {z : Int} (jz : jr z) (I : jIx N u H tm er T h) : mj_Ok 60 234 [.ref 0, .int (jn x), .int (jn y), .int (jn z)] h (rZa (Q_power N u H x y z) (A_power N x y z) tm er T) := (mj_Ok.up (by decide) (ra_power jx jy jz I)).to (fun r k => RPc.za k (fun c a hc v => by
  rcases hc with ⟨b, rfl⟩ | ⟨b, d, rfl⟩
  · exact an.n b
  · exact an.y b (an.n d)) (fun a b v => an.y a.1 (an.y a.2 (an.n b))) (fun v a b q => an.y a.1 (an.y a.2 (an.y b (an.e q)))))
theorem ga_gcd {x : Int} (jx : jr x) {y : Int} (jy : jr y) {z : Int} (jz : jr z) (I : jIx N u H tm er T h) : mj_Ok 60 238 [.ref 0, .int (jn x), .int (jn y), .int (jn z)] h (rZa (Q_gcd N u H x y z) (A_gcd N x y z) tm er T) := (mj_Ok.up (by decide) (ra_gcd jx jy jz I)).to (fun r k => by
  obtain ⟨R, a, k⟩ := k
  exact (RPc.za k (fun c b hc v => by
    subst hc
    exact an.n b) (fun b d v => an.y b (an.n (fun q => by
    obtain ⟨R2, q1, q2⟩ := q
    have e := gcR.one (a b) q1
    subst e
    exact d q2))) (fun v b d q => an.y b (an.y ⟨R, a b, d⟩ (an.e ⟨R, a b, q⟩)))).mono (fun _ _ _ p => ⟨R, a, p⟩))
theorem ga_simple {x : Int} (jx : jr x) {y : Int} (jy : jr y) (I : jIx N u H tm er T h) : mj_Ok 60 240 [.ref 0, .int (jn x), .int (jn y)] h (rZa (Q_simple N u H x y) (A_simple N x y) tm er T) := (mj_Ok.up (by decide) (ra_simple jx jy I)).to (fun r k => by
  obtain ⟨R, a, k⟩ := k
  exact (RPc.za k (fun c b hc v => by
    rcases hc with ⟨b, rfl⟩ | ⟨b, d, rfl⟩
    · exact an.n b
    · exact an.y b (an.n (by omega))) (fun b d v => an.y b.1 (an.y b.2 (an.n (fun q => by
    obtain ⟨R2, q1, q2⟩ := q
    have e := smR.one (a b.1 b.2) q1
    subst e
    exact d q2)))) (fun v b d q => an.y b.1 (an.y b.2 (an.y ⟨R, a b.1 b.2, d⟩ (an.e ⟨R, a b.1 b.2, q⟩))))).mono (fun _ _ _ p => ⟨R, fun q => a q.1 q.2, p⟩))
theorem ga_residue {x : Int} (jx : jr x) {y : Int} (jy : jr y) {z : Int} (jz : jr z) (I : jIx N u H tm er T h) : mj_Ok 60 243 [.ref 0, .int (jn x), .int (jn y), .int (jn z)] h (rZa (Q_residue N u H x y z) (A_residue N x y z) tm er T) := (mj_Ok.up (by decide) (ra_residue jx jy jz I)).to (fun r k => by
  rcases k with ⟨a, d⟩ | ⟨a, c, hc, d⟩
  · exact d.za (Or.inl ⟨a, _, fun _ _ => rfl, rfl, rfl, rfl⟩) (fun v hv => an.y a.1 (an.y a.2 (an.e hv)))
  · refine d.za (Or.inr ⟨a, rfl, rfl, rfl⟩) (fun v _ => ?_)
    rcases hc with ⟨b, rfl⟩ | ⟨b, e, rfl⟩
    · exact an.n b
    · exact an.y b (an.n e))
theorem ga_setTerm {x : Int} (jx : jr x) {y : Int} (jy : jr y) {z : Int} (jz : jR z) (I : jIx N u H tm er T h) : mj_Ok 60 244 [.ref 0, .int (jn x), .int (jn y), .long (jl z)] h (rZa (Q_setTerm N u H x y z) (A_setTerm N x y z) tm er T) := (mj_Ok.up (by decide) (ra_setTerm jx jy jz I)).to (fun r k => by
  rcases k with ⟨a, d⟩ | ⟨a, c, hc, d⟩
  · exact d.za (Or.inl ⟨a, eqB.rf _, rfl, rfl⟩) (fun v hv => an.y a.1 (an.y a.2.1 (an.y a.2.2 (an.e hv))))
  · refine d.za (Or.inr ⟨a, rfl, rfl, rfl⟩) (fun v _ => ?_)
    rcases hc with ⟨b, rfl⟩ | ⟨b, e, rfl⟩ | ⟨b, e, f, rfl⟩
    · exact an.n b
    · exact an.y b (an.n e)
    · exact an.y b (an.y e (an.n f)))
theorem ga_addPoint {x : Int} (jx : jr x) {y : Int} (jy : jr y) (I : jIx N u H tm er T h) : mj_Ok 60 246 [.ref 0, .int (jn x), .int (jn y)] h (rZa (Q_addPoint N u H x y) (A_addPoint N x y) tm er T) := (mj_Ok.up (by decide) (ra_addPoint jx jy I)).to (fun r k => by
  rcases k with ⟨a, d⟩ | ⟨a, c, hc, d⟩
  · exact d.za (Or.inl ⟨a, eqB.rf _, rfl, rfl⟩) (fun v hv => an.y a.1 (an.y a.2 (an.e hv)))
  · refine d.za (Or.inr ⟨a, rfl, rfl, rfl⟩) (fun v _ => ?_)
    rcases hc with ⟨b, rfl⟩ | ⟨b, rfl⟩
    · exact an.n b
    · exact an.y b (an.n (fun q => a ⟨b, q⟩)))
theorem ga_divide {x : Int} (jx : jr x) {y : Int} (jy : jr y) {z : Int} (jz : jr z) {w : Int} (jw : jr w) (I : jIx N u H tm er T h) : mj_Ok 60 237 [.ref 0, .int (jn x), .int (jn y), .int (jn z), .int (jn w)] h (rZa (Q_divide N u H x y z w) (A_divide N x y z w) tm er T) := (mj_Ok.up (by decide) (ra_divide jx jy jz jw I)).to (fun r k => by
  rcases k with ⟨a, q, v, b, c, d⟩ | ⟨a, c, hc, d⟩
  · exact d.za (Or.inl ⟨a, q, v, b, c, rfl, rfl, rfl⟩) (fun v hv => an.y a.1 (an.y a.2.1 (an.y a.2.2.1 (an.y a.2.2.2 (an.e hv)))))
  · refine d.za (Or.inr ⟨a, rfl, rfl, rfl⟩) (fun v _ => ?_)
    rcases hc with ⟨b, rfl⟩ | ⟨b, e, rfl⟩ | ⟨b, e, f, rfl⟩ | ⟨b, e, f, i, rfl⟩
    · exact an.n b
    · exact an.y b (an.n (fun q => q e))
    · exact an.y b (an.y e (an.n (by omega)))
    · exact an.y b (an.y e (an.y f (an.n i))))
theorem ga_read {tm0 : Nat} {x : Int} (jx : jr x) (I : jIx N u H (tm0 : Int) er T h) : mj_Ok 60 245 [.ref 0, .int (jn x)] h (fun r => ((0 ≤ x ∧ x ≤ 5) ∧ rZa (Q_read N u H T tm0 x) (A_read T tm0 x) 0 (rdErr T tm0) T r) ∨ (¬ (0 ≤ x ∧ x ≤ 5) ∧ rZa (Q_read N u H T tm0 x) (A_read T tm0 x) tm0 er T r)) := (ra_read jx I).to (fun r k => by
  rcases k with ⟨a, ⟨b, P, c, d, w, e, k⟩ | ⟨b, cc, hc, k⟩⟩ | ⟨a, k⟩
  · rw [← b] at k
    refine Or.inl ⟨a, k.za (Or.inl ⟨⟨a, b, P, c, d⟩, w, ?_, rfl, rfl, rfl⟩) (fun z hz => an.y a (an.y b (an.y ⟨P, c⟩ (an.e ⟨P, c, Eq.trans hz (dgF.of e)⟩))))⟩
    rw [c]
    exact e
  · refine Or.inl ⟨a, k.za (Or.inr ⟨fun q => ?_, rfl, rfl, rfl⟩) (fun z _ => ?_)⟩
    · obtain ⟨_, q1, P, q2, _⟩ := q
      rcases b with b | b
      · exact b q1
      · rw [b] at q2
        cases q2
    · rcases hc with ⟨p, rfl⟩ | ⟨p, q, rfl⟩
      · exact an.y a (an.n p)
      · refine an.y a (an.y p (an.n (fun y => ?_)))
        obtain ⟨P, y⟩ := y
        rw [q] at y
        cases y
  · exact Or.inr ⟨a, k.za (Or.inr ⟨fun q => a q.1, rfl, rfl, rfl⟩) (fun z _ => an.n a)⟩)
end ARF
