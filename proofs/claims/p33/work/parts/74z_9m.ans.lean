/-! What a call answers: a code (0: none), and a number where the code is 0. -/
/-- conditions with the codes that they have where they don't hold; then what the answer is -/
def an : List (Prop × Int) → (Int → Prop) → Int → Int → Prop
  | [], F, c, z => c = 0 ∧ F z
  | p :: l, F, c, z => (¬ p.1 ∧ c = p.2) ∨ (p.1 ∧ an l F c z)
theorem an.ag {F : Int → Prop} (hF : ∀ z1 z2, F z1 → F z2 → z1 = z2) : ∀ {l : List (Prop × Int)} {c1 z1 c2 z2 : Int}, (∀ p ∈ l, p.2 ≠ 0) → an l F c1 z1 → an l F c2 z2 → c1 = c2 ∧ (c1 = 0 → z1 = z2)
  | [], c1, z1, c2, z2, _, a, b => ⟨a.1.trans b.1.symm, fun _ => hF _ _ a.2 b.2⟩
  | p :: l, c1, z1, c2, z2, hk, a, b => by
    have h0 := hk p List.mem_cons_self
    rcases a with ⟨a1, a2⟩ | ⟨a1, a2⟩
    · rcases b with ⟨b1, b2⟩ | ⟨b1, b2⟩
      · exact ⟨a2.trans b2.symm, fun e => absurd (a2.symm.trans e) h0⟩
      · exact absurd b1 a1
    · rcases b with ⟨b1, b2⟩ | ⟨b1, b2⟩
      · exact absurd a1 b1
      · exact an.ag hF (fun q hq => hk q (List.mem_cons_of_mem _ hq)) a2 b2
/-- the class's call: its answer, or what is thrown and the code that the law makes of it -/
def cA (cd : Nat → Int) (A : Int → Int → Prop) (r : mj_R) : Prop := match r.1 with
  | .inl v => ∃ z : Int, jr z ∧ v = some (.int (jn z)) ∧ A 0 z
  | .inr k => ∀ z, A (cd k) z
/-- the law's small method: its code, the answer in its cell -/
def oA (A : Int → Int → Prop) (Φ : SP) (r : mj_R) : Prop := ∃ c z : Int, A c z ∧ jr c ∧ r.1 = .inl (some (.int (jn c))) ∧ (c = 0 → jR z ∧ ∃ f : Nat → Value, r.2[571]? = some (.inl (1, 1, f)) ∧ f 0 = .long (jl z)) ∧ yZ Φ r.2
/-- the reference's call: its answer, and what it has thrown -/
def rZa (P : SP) (A : Int → Int → Prop) (tm er : Int) (T : Nat → Int) (r : mj_R) : Prop := ∃ (c z : Int) (N' : Nat → Int) (u' : Nat) (H' : Nat → Nat → Int), A c z ∧ jr z ∧ r.1 = .inl (some (.int (jn z))) ∧ P N' u' H' ∧ jItx N' u' H' c tm er T r.2
/-- both sides hold the same, and the reference has thrown c -/
def YXt (c tm er : Int) (T : Nat → Int) (h : mj_H) : Prop := ∃ (N : Nat → Int) (u : Nat) (H : Nat → Nat → Int) (hr : mj_H), cC N u H h ∧ jEm 563 hr h ∧ jItx N u H c tm er T hr
theorem YXt.to {c tm er : Int} {T : Nat → Int} {h : mj_H} (y : YXt c tm er T h) : YX tm er T h := by
  obtain ⟨N, u, H, hr, a, b, k⟩ := y
  exact ⟨N, u, H, hr, a, b, k.to⟩
section YXA
variable {hr h : mj_H} {tm er c : Int} {T : Nat → Int}
theorem YXt.thrown {D : Nat} (y : YXt c tm er T h) : mj_Ok (D + 1) 175 [.ref 563] h (fun r => r = (.inl (some (.int (jn c))), h)) := by
  obtain ⟨N, u, H, hr, _, ⟨_, _, _, E⟩, ⟨S, N1, B, X, V, ⟨bg, ov, db, sv, rfl⟩, K, e⟩⟩ := y
  have h1 := E 0 _ rfl
  refine mj_Ok.of (M := mj_m175) rfl rfl rfl ?_
  refine mj_T.pl rfl rfl rfl rfl ?_
  refine mj_T.gfl (v := .int (jn c)) rfl h1 (by rw [← e]; rfl) ?_
  exact mj_T.ret rfl rfl rfl rfl
theorem YX.calla {D j : Nat} {as as2 : List Value} {tm' er' : Int} {T' : Nat → Int} {Φ Ψ : SP} {A : Int → Int → Prop} (E : jEm 563 hr h) (hl : 571 < h.length) (y : yZ Φ h) (ag : AgP Φ Ψ) (c : mj_Ok D j as hr (rZa Ψ A tm' er' T')) (has : ∀ N, as.map (mj_rn (jro 563 N)) = as2) : mj_Ok D j as2 h (fun r => ∃ c z : Int, A c z ∧ jr z ∧ r.1 = .inl (some (.int (jn z))) ∧ YXt c tm' er' T' r.2 ∧ r.2[571]? = h[571]?) := by
  have hL := E.2.2.1
  have := E.run c (fun r q h3 => by
    obtain ⟨_, _, N', u', H', _, _, _, _, k⟩ := q
    exact jI_s8 k.to.tI h3)
  rw [has] at this
  refine this.to (fun r hq => ?_)
  obtain ⟨r0, hr', ⟨c, z, N2, u2, H2, a, jz, v0, p2, k⟩, v1, d, _, f⟩ := hq
  obtain ⟨N1, u1, H1, p1, s1⟩ := y
  have s2 : cC N1 u1 H1 r.2 := s1.fr (fun a ha => by
    have l : a < 563 := by
      rcases Nat.lt_or_ge a 563 with c | c
      · exact c
      · exact absurd (cK_out c) ha
    exact f a (by omega) (Or.inl l))
  have v0 : r0 = .inl (some (.int (jn z))) := v0
  refine ⟨c, z, a, jz, ?_, ⟨N2, u2, H2, hr', s2.cg (ag _ _ _ _ _ _ p1 p2), d, k⟩, f 571 hl (Or.inr (by decide))⟩
  rw [v1, v0]
  first
  | rfl
  | done
end YXA
theorem jcx.lastv {h : mj_H} {D pc q r1 r2 r3 r4 r5 : Nat} {M : mj_M} {loc : mj_L} {st : List Value} {Q : mj_R → Prop} {x : Int64} {f : Nat → Value} (hf : h[q]? = some (.inl (1, 1, f))) (hc : M.2.2.2.2.1 pc = some (.lastore, r1, r2, r3, r4, r5)) (k : ∀ e : mj_E, (∃ f : Nat → Value, (h.set q e)[q]? = some (.inl (1, 1, f)) ∧ f 0 = .long x) → mj_T D M (pc + 1) loc st (h.set q e) Q) : mj_T D M pc loc (.long x :: .int (jn 0) :: .ref q :: st) h Q := by
  refine mj_T.step hc rfl (pc' := pc + 1) (loc' := loc) (st' := st) (h' := h.set q (.inl (1, 1, updV f 0 (.long x)))) ?_ (k _ ⟨_, List.getElem?_set_self (List.getElem?_eq_some_iff.mp hf).1, rfl⟩)
  simp only [mj_step, hf]
  rfl
section JZL
variable {n : Nat} {tm : Int} {h : mj_H} {Φ : SP} {A : Int → Int → Prop}
theorem jz_337 {p1 : Int} (w : jLw cK cL cR 571 n tm h) (rp1 : -2147483648 ≤ p1 ∧ p1 ≤ 2147483647) (c : mj_Ok 59 133 [.ref 1, .int (jn p1)] h (fun r => yZ Φ r.2 ∧ cA (fun k => if k = 0 then 1 else 2) A r)) : mj_Ok 60 337 [.ref 1, .int (jn p1), .ref 571] h (oA A Φ) := by
  have hg : h.length ≤ n := Nat.le_of_eq w.1.1
  refine mj_Ok.of (M := mj_m337) (loc := [some (.ref 1), some (.int (jn p1)), some (.ref 571), none]) rfl rfl rfl ?_
  iterate 4 refine mj_T.pl rfl rfl rfl rfl ?_
  refine mj_T.call rfl rfl (Nat.le_of_ble_eq_true rfl) (Nat.le_of_ble_eq_true rfl) (jrv_of w.1 cK4.1 (by decide) rfl (by decide) rfl _) rfl ((mj_Ok.up (by decide) (jc_133 (D := 0) cTY hg w.1 cK4.1 rp1)).and c) (fun v h1 hq => ?_) (fun i h1 hq => ?_)
  · obtain ⟨⟨_, o1⟩, y1, z, jz, rfl, az⟩ := hq
    obtain ⟨_, _, f, hf⟩ := w.thr o1
    refine mj_T.i2l rfl jz ?_
    refine jcx.lastv hf rfl (fun e ce => ?_)
    iterate 2 refine mj_T.pl rfl rfl rfl rfl ?_
    exact mj_T.ret rfl rfl rfl ⟨0, z, az, ⟨by decide, by decide⟩, rfl, fun _ => ⟨⟨by have := jz.1; omega, by have := jz.2; omega⟩, ce⟩, yZ.set y1⟩
  · obtain ⟨⟨hi, o1⟩, y1, y2⟩ := hq
    simp only [List.mem_cons, List.not_mem_nil, or_false] at hi
    rcases hi with hi | hi
    · subst hi
      refine Or.inr ⟨3, 13, rfl, (Nat.le_of_ble_eq_true rfl), ?_⟩
      refine mj_T.pl rfl rfl rfl rfl ?_
      exact mj_T.ret rfl rfl rfl ⟨1, 0, y2 0, ⟨by decide, by decide⟩, rfl, fun q => absurd q (by decide), y1⟩
    · subst hi
      refine Or.inr ⟨3, 16, rfl, (Nat.le_of_ble_eq_true rfl), ?_⟩
      refine mj_T.pl rfl rfl rfl rfl ?_
      exact mj_T.ret rfl rfl rfl ⟨2, 0, y2 0, ⟨by decide, by decide⟩, rfl, fun q => absurd q (by decide), y1⟩
end JZL
/-! The reference's calls that change registers: what is answered and thrown. -/
def rIc (c : Int) (F : Int → Prop) (N0 : Nat → Int) (u : Nat) (H : Nat → Nat → Int) (tm er : Int) (T : Nat → Int) (r : mj_R) : Prop := ∃ (z : Int) (h' : mj_H), (jr z ∧ F z) ∧ r = (.inl (some (.int (jn z))), h') ∧ jItx N0 u H c tm er T h'
def rOc (tm er : Int) (T : Nat → Int) (N0 : Nat → Int) (u0 : Nat) (H : Nat → Nat → Int) (r : Nat) (c : Int) (w : Nat → Int) (z : mj_R) : Prop := (sml w ∧ rIc 0 (fun v => v = (fdg w 13 : Int) - 1) (jfl N0 r w 13) (upu u0) (pushH N0 H) tm er T z) ∨ (¬ sml w ∧ rIc c (fun _ => True) N0 u0 H tm er T z)
def RRc (tm er : Int) (T : Nat → Int) (N0 : Nat → Int) (u0 : Nat) (H : Nat → Nat → Int) (reg : Prop) (res : (Nat → Int) → Prop) (to : Int) (z : mj_R) : Prop := (reg ∧ ∃ w, res w ∧ rOc tm er T N0 u0 H to.toNat 2 w z) ∨ (¬ reg ∧ rIc 1 (fun _ => True) N0 u0 H tm er T z)
def RPc (k : Int) (cf : Int → Prop) (tm er : Int) (T : Nat → Int) (N0 : Nat → Int) (u0 : Nat) (H : Nat → Nat → Int) (reg : Prop) (P : pz_P) (to : Int) (z : mj_R) : Prop := (reg ∧ ((fit13 P ∧ ∃ w : Nat → Int, (∀ j, j < 13 → w j = P j) ∧ rIc 0 (fun v => v = (fdg w 13 : Int) - 1) (jfl N0 to.toNat w 13) (upu u0) (pushH N0 H) tm er T z) ∨ (¬ fit13 P ∧ rIc k (fun _ => True) N0 u0 H tm er T z))) ∨ (¬ reg ∧ ∃ c, cf c ∧ rIc c (fun _ => True) N0 u0 H tm er T z)
theorem fdg_jdg (V : Nat → Int) (p : Nat) : ∀ k, fdg (fun e => V (p * 13 + e)) k = jdg V p k
  | 0 => rfl
  | k + 1 => by
    unfold fdg jdg
    rw [fdg_jdg V p k]

/-! Answers of the calls that change registers, in one form. -/
theorem itR.oneD {N : Nat → Int} (g : gN N) {w1 w2 : Nat → Int} {D1 D2 : Int} (a : itR N w1 D1) (b : itR N w2 D2) : D1 = D2 := by
  obtain ⟨M1, a0, a1, a2, a3, a4⟩ := a
  obtain ⟨M2, b0, b1, b2, b3, b4⟩ := b
  have hlin := itp_lin (Y := fun i => N (85 + i)) a1 b1 (wgt_N g) (N 78).toNat (Nat.le_refl _)
  have hx : ∀ j, j < 13 → D2 * w1 j = D1 * w2 j := fun j hj => by
    have e1 := a2 j hj
    have e2 := b2 j hj
    have e3 := hlin j
    generalize itp (fun i => N (79 + i)) (fun i => N (85 + i)) M1 (N 78).toNat (N 78).toNat j = I1 at e1 e3
    generalize itp (fun i => N (79 + i)) (fun i => N (85 + i)) M2 (N 78).toNat (N 78).toNat j = I2 at e2 e3
    have hne : M1 * M2 ≠ 0 := Int.mul_ne_zero (by omega) (by omega)
    refine Int.eq_of_mul_eq_mul_left hne ?_
    have l1 : M1 * M2 * (D2 * w1 j) = D1 * D2 * (M2 * I1) := by
      rw [show M1 * M2 * (D2 * w1 j) = M2 * D2 * (M1 * w1 j) by ac_rfl, e1]
      ac_rfl
    have l2 : M1 * M2 * (D1 * w2 j) = D1 * D2 * (M1 * I2) := by
      rw [show M1 * M2 * (D1 * w2 j) = M1 * D1 * (M2 * w2 j) by ac_rfl, e2]
      ac_rfl
    rw [l1, l2, e3]
  have n1 : D1 = ((D1.natAbs : Nat) : Int) := by omega
  have n2 : D2 = ((D2.natAbs : Nat) : Int) := by omega
  have d1 : D1.natAbs ∣ D2.natAbs := cp_dvd a4 (fun j hj => by rw [← n1, ← n2]; exact hx j hj)
  have d2 : D2.natAbs ∣ D1.natAbs := cp_dvd b4 (fun j hj => by rw [← n1, ← n2]; exact (hx j hj).symm)
  have de : D1.natAbs = D2.natAbs := Nat.dvd_antisymm d1 d2
  omega
theorem an.n {p : Prop} {k z : Int} {l : List (Prop × Int)} {F : Int → Prop} (h : ¬ p) : an ((p, k) :: l) F k z := Or.inl ⟨h, rfl⟩
theorem an.y {p : Prop} {k c z : Int} {l : List (Prop × Int)} {F : Int → Prop} (h : p) (q : an l F c z) : an ((p, k) :: l) F c z := Or.inr ⟨h, q⟩
theorem an.e {z : Int} {F : Int → Prop} (h : F z) : an [] F 0 z := ⟨rfl, h⟩
abbrev rg2 (a b : Int) : Prop := (0 ≤ a ∧ a ≤ 5) ∧ (0 ≤ b ∧ b ≤ 5)
abbrev rg3 (a b c : Int) : Prop := (0 ≤ a ∧ a ≤ 5) ∧ (0 ≤ b ∧ b ≤ 5) ∧ (0 ≤ c ∧ c ≤ 5)
/-- the degree of what is laid -/
def dgF (R : Nat → Int) (z : Int) : Prop := z = (fdg R 13 : Int) - 1
theorem dgF.of {R w : Nat → Int} (h : ∀ j, j < 13 → w j = R j) : dgF R ((fdg w 13 : Int) - 1) := by
  unfold dgF
  rw [fdg_congr 13 h]
theorem dgF.one {R : Nat → Int} (z1 z2 : Int) (a : dgF R z1) (b : dgF R z2) : z1 = z2 := a.trans b.symm
abbrev A_sum (N : Nat → Int) (f to a b : Int) : Int → Int → Prop := an [(rg3 to a b, 1), (sml (sumN N f a b), 2)] (dgF (sumN N f a b))
abbrev A_multiply (N : Nat → Int) (to a b : Int) : Int → Int → Prop := an [(rg3 to a b, 1), (fit13 (pz_mul (rwN N a) (rwN N b)), 2)] (dgF (pz_mul (rwN N a) (rwN N b)))
abbrev A_power (N : Nat → Int) (to a e : Int) : Int → Int → Prop := an [(rg2 to a, 1), (0 ≤ e ∧ e ≤ 12, 2), (fit13 (pw (rwN N a) e.toNat), 3)] (dgF (pw (rwN N a) e.toNat))
abbrev A_derive (N : Nat → Int) (to a : Int) : Int → Int → Prop := an [(rg2 to a, 1), (sml (drN N a), 2)] (dgF (drN N a))
abbrev A_substitute (N : Nat → Int) (to a b : Int) : Int → Int → Prop := an [(rg3 to a b, 1), (fit13 (hw (rwN N a) (rwN N b) 13), 2)] (dgF (hw (rwN N a) (rwN N b) 13))
abbrev A_divide (N : Nat → Int) (x y z u : Int) : Int → Int → Prop := an [((0 ≤ x ∧ x ≤ 5) ∧ (0 ≤ y ∧ y ≤ 5) ∧ (0 ≤ z ∧ z ≤ 5) ∧ (0 ≤ u ∧ u ≤ 5), 1), (x ≠ y, 2), (0 < fdg (rwN N u) 13, 3), (fit13 (dvQ (rwN N z) (rwN N u)) ∧ fit13 (dvT (rwN N z) (rwN N u)), 4)] (fun v => v = ((fdg (rwN N z) 13 - (fdg (rwN N u) 13 - 1) : Nat) : Int))
abbrev A_gcd (N : Nat → Int) (to a b : Int) : Int → Int → Prop := an [(rg3 to a b, 1), (∃ R, gcR (rwN N a) (rwN N b) R ∧ fit13 R, 2)] (fun v => ∃ R, gcR (rwN N a) (rwN N b) R ∧ dgF R v)
abbrev A_primitive (N : Nat → Int) (to a : Int) : Int → Int → Prop := an [(rg2 to a, 1), (fit13 (ppr (rwN N a)), 2)] (dgF (ppr (rwN N a)))
abbrev A_simple (N : Nat → Int) (to a : Int) : Int → Int → Prop := an [(rg2 to a, 1), (0 < fdg (rwN N a) 13, 2), (∃ S, smR (rwN N a) S ∧ fit13 S, 3)] (fun v => ∃ S, smR (rwN N a) S ∧ dgF S v)
abbrev A_residue (N : Nat → Int) (to a p : Int) : Int → Int → Prop := an [(rg2 to a, 1), (prm p, 2)] (dgF (fun j => rwN N a j % p))
abbrev A_setTerm (N : Nat → Int) (to e x : Int) : Int → Int → Prop := an [(0 ≤ to ∧ to ≤ 5, 1), (0 ≤ e ∧ e ≤ 12, 2), (-999999999999999999 ≤ x ∧ x ≤ 999999999999999999, 3)] (dgF (fun j => if j = e.toNat then x else rwN N to j))
abbrev A_addPoint (N : Nat → Int) (x y : Int) : Int → Int → Prop := an [((-9 ≤ x ∧ x ≤ 9) ∧ (-999 ≤ y ∧ y ≤ 999), 1), (N 78 ≠ 6 ∧ ∀ j : Nat, (j : Int) < N 78 → N (79 + j) ≠ x, 2)] (fun v => v = (((N 78).toNat + 1 : Nat) : Int))
abbrev A_read (T : Nat → Int) (tm : Nat) (to : Int) : Int → Int → Prop := an [(0 ≤ to ∧ to ≤ 5, 1), (rdErr T tm = -1, 2), (∃ P, rdV T tm = some P, 3)] (fun v => ∃ P, rdV T tm = some P ∧ dgF P v)
section AAG
variable {N : Nat → Int} {c1 z1 c2 z2 : Int}
theorem A_sum.ag {f to a b : Int} (p : A_sum N f to a b c1 z1) (q : A_sum N f to a b c2 z2) : c1 = c2 ∧ (c1 = 0 → z1 = z2) := an.ag dgF.one (by simp) p q
theorem A_multiply.ag {to a b : Int} (p : A_multiply N to a b c1 z1) (q : A_multiply N to a b c2 z2) : c1 = c2 ∧ (c1 = 0 → z1 = z2) := an.ag dgF.one (by simp) p q
theorem A_power.ag {to a b : Int} (p : A_power N to a b c1 z1) (q : A_power N to a b c2 z2) : c1 = c2 ∧ (c1 = 0 → z1 = z2) := an.ag dgF.one (by simp) p q
theorem A_derive.ag {to a : Int} (p : A_derive N to a c1 z1) (q : A_derive N to a c2 z2) : c1 = c2 ∧ (c1 = 0 → z1 = z2) := an.ag dgF.one (by simp) p q
theorem A_substitute.ag {to a b : Int} (p : A_substitute N to a b c1 z1) (q : A_substitute N to a b c2 z2) : c1 = c2 ∧ (c1 = 0 → z1 = z2) := an.ag dgF.one (by simp) p q
theorem A_divide.ag {x y z u : Int} (p : A_divide N x y z u c1 z1) (q : A_divide N x y z u c2 z2) : c1 = c2 ∧ (c1 = 0 → z1 = z2) := an.ag (fun _ _ a b => a.trans b.symm) (by simp) p q
theorem A_gcd.ag {to a b : Int} (p : A_gcd N to a b c1 z1) (q : A_gcd N to a b c2 z2) : c1 = c2 ∧ (c1 = 0 → z1 = z2) := an.ag (fun z1 z2 a b => by
  obtain ⟨R1, a1, a2⟩ := a
  obtain ⟨R2, b1, b2⟩ := b
  have e := gcR.one a1 b1
  subst e
  exact dgF.one _ _ a2 b2) (by simp) p q
theorem A_primitive.ag {to a : Int} (p : A_primitive N to a c1 z1) (q : A_primitive N to a c2 z2) : c1 = c2 ∧ (c1 = 0 → z1 = z2) := an.ag dgF.one (by simp) p q
theorem A_simple.ag {to a : Int} (p : A_simple N to a c1 z1) (q : A_simple N to a c2 z2) : c1 = c2 ∧ (c1 = 0 → z1 = z2) := an.ag (fun z1 z2 a b => by
  obtain ⟨R1, a1, a2⟩ := a
  obtain ⟨R2, b1, b2⟩ := b
  have e := smR.one a1 b1
  subst e
  exact dgF.one _ _ a2 b2) (by simp) p q
theorem A_residue.ag {to a b : Int} (p : A_residue N to a b c1 z1) (q : A_residue N to a b c2 z2) : c1 = c2 ∧ (c1 = 0 → z1 = z2) := an.ag dgF.one (by simp) p q
theorem A_setTerm.ag {to a b : Int} (p : A_setTerm N to a b c1 z1) (q : A_setTerm N to a b c2 z2) : c1 = c2 ∧ (c1 = 0 → z1 = z2) := an.ag dgF.one (by simp) p q
theorem A_addPoint.ag {a b : Int} (p : A_addPoint N a b c1 z1) (q : A_addPoint N a b c2 z2) : c1 = c2 ∧ (c1 = 0 → z1 = z2) := an.ag (fun _ _ a b => a.trans b.symm) (by simp) p q
theorem A_read.ag {T : Nat → Int} {tm : Nat} {to : Int} (p : A_read T tm to c1 z1) (q : A_read T tm to c2 z2) : c1 = c2 ∧ (c1 = 0 → z1 = z2) := an.ag (fun z1 z2 a b => by
  obtain ⟨R1, a1, a2⟩ := a
  obtain ⟨R2, b1, b2⟩ := b
  rw [a1] at b1
  cases b1
  exact dgF.one _ _ a2 b2) (by simp) p q
end AAG
section ARF
variable {h : mj_H} {u : Nat} {N : Nat → Int} {H : Nat → Nat → Int} {tm er : Int} {T : Nat → Int}
theorem rIc.za {c : Int} {F : Int → Prop} {N' : Nat → Int} {u' : Nat} {H' : Nat → Nat → Int} {r : mj_R} {P : SP} {A : Int → Int → Prop} (k : rIc c F N' u' H' tm er T r) (p : P N' u' H') (hA : ∀ z, F z → A c z) : rZa P A tm er T r := by
  obtain ⟨z, h', ⟨jz, hz⟩, rfl, I⟩ := k
  exact ⟨c, z, _, _, _, hA z hz, jz, rfl, p, I⟩
theorem rZa.mono {P P' : SP} {A : Int → Int → Prop} {r : mj_R} (k : rZa P A tm er T r) (hp : ∀ N u H, P N u H → P' N u H) : rZa P' A tm er T r := by
  obtain ⟨c, z, N', u', H', a, b, d, e, f⟩ := k
  exact ⟨c, z, N', u', H', a, b, d, hp _ _ _ e, f⟩
theorem RRc.za {reg : Prop} {R : Nat → Int} {to : Int} {r : mj_R} (k : RRc tm er T N u H reg (fun w => ∀ j, j < 13 → w j = R j) to r) : rZa (clQ (reg ∧ sml R) R to.toNat N u H) (an [(reg, 1), (sml R, 2)] (dgF R)) tm er T r := by
  rcases k with ⟨a, w, hw, ⟨s, k⟩ | ⟨s, k⟩⟩ | ⟨a, k⟩
  · exact k.za (Or.inl ⟨⟨a, sml_cg hw s⟩, w, hw, rfl, rfl, rfl⟩) (fun z hz => an.y a (an.y (sml_cg hw s) (an.e (Eq.trans hz (dgF.of hw)))))
  · exact k.za (Or.inr ⟨fun q => s (sml_cg (fun j hj => (hw j hj).symm) q.2), rfl, rfl, rfl⟩) (fun z _ => an.y a (an.n (fun q => s (sml_cg (fun j hj => (hw j hj).symm) q))))
  · exact k.za (Or.inr ⟨fun q => a q.1, rfl, rfl, rfl⟩) (fun z _ => an.n a)
theorem RPc.za {kk : Int} {cf : Int → Prop} {reg : Prop} {R : Nat → Int} {to : Int} {r : mj_R} {A : Int → Int → Prop} (k : RPc kk cf tm er T N u H reg R to r) (h1 : ∀ c, ¬ reg → cf c → ∀ z, A c z) (h2 : reg → ¬ fit13 R → ∀ z, A kk z) (h3 : ∀ z, reg → fit13 R → dgF R z → A 0 z) : rZa (clQ (reg ∧ fit13 R) R to.toNat N u H) A tm er T r := by
  rcases k with ⟨a, ⟨s, w, hw, k⟩ | ⟨s, k⟩⟩ | ⟨a, c, hc, k⟩
  · exact k.za (Or.inl ⟨⟨a, s⟩, w, hw, rfl, rfl, rfl⟩) (fun z hz => h3 z a s (Eq.trans hz (dgF.of hw)))
  · exact k.za (Or.inr ⟨fun q => s q.2, rfl, rfl, rfl⟩) (fun z _ => h2 a s z)
  · exact k.za (Or.inr ⟨fun q => a q.1, rfl, rfl, rfl⟩) (fun z _ => h1 c a hc z)
end ARF
def rZal (P : SP) (A : Int → Int → Prop) (tm er : Int) (T : Nat → Int) (r : mj_R) : Prop := ∃ (c z : Int) (N' : Nat → Int) (u' : Nat) (H' : Nat → Nat → Int), A c z ∧ jR z ∧ r.1 = .inl (some (.long (jl z))) ∧ P N' u' H' ∧ jItx N' u' H' c tm er T r.2
def rJc (c : Int) (F : Int → Prop) (N0 : Nat → Int) (u : Nat) (H : Nat → Nat → Int) (tm er : Int) (T : Nat → Int) (r : mj_R) : Prop := ∃ (z : Int) (h' : mj_H), (jR z ∧ F z) ∧ r = (.inl (some (.long (jl z))), h') ∧ jItx N0 u H c tm er T h'
abbrev A_interpolate (N : Nat → Int) (to : Int) : Int → Int → Prop := an [(0 ≤ to ∧ to ≤ 5, 1), (∃ (w : Nat → Int) (D : Int), itR N w D ∧ sml w, 2)] (fun v => ∃ w : Nat → Int, itR N w v)
theorem A_interpolate.ag {N : Nat → Int} (g : gN N) {to c1 z1 c2 z2 : Int} (p : A_interpolate N to c1 z1) (q : A_interpolate N to c2 z2) : c1 = c2 ∧ (c1 = 0 → z1 = z2) := an.ag (fun z1 z2 a b => by
  obtain ⟨w1, a1⟩ := a
  obtain ⟨w2, b1⟩ := b
  exact itR.oneD g a1 b1) (by simp) p q
section ACI
variable {h : mj_H} {u : Nat} {N : Nat → Int} {H : Nat → Nat → Int} {tm er : Int} {T : Nat → Int}
theorem rJc.za {c : Int} {F : Int → Prop} {N' : Nat → Int} {u' : Nat} {H' : Nat → Nat → Int} {r : mj_R} {P : SP} {A : Int → Int → Prop} (k : rJc c F N' u' H' tm er T r) (p : P N' u' H') (hA : ∀ z, F z → A c z) : rZal P A tm er T r := by
  obtain ⟨z, h', ⟨jz, hz⟩, rfl, I⟩ := k
  exact ⟨c, z, _, _, _, hA z hz, jz, rfl, p, I⟩
end ACI
/-! Answers of the calls that only read: the class. -/
/-- how many of the first are not 0 -/
def tmc (f : Nat → Int) : Nat → Nat
  | 0 => 0
  | k + 1 => if f k = 0 then tmc f k else tmc f k + 1
theorem tmc_z {f : Nat → Int} {k : Nat} (h : f k = 0) : tmc f (k + 1) = tmc f k := if_pos h
theorem tmc_s {f : Nat → Int} {k : Nat} (h : f k ≠ 0) : tmc f (k + 1) = tmc f k + 1 := if_neg h
theorem tmc_mono {f : Nat → Int} {a : Nat} : ∀ b, a ≤ b → tmc f a ≤ tmc f b
  | 0, h => by rw [show a = 0 by omega]; exact Nat.le_refl _
  | b + 1, h => by
    by_cases q : a = b + 1
    · rw [q]
      exact Nat.le_refl _
    · have h1 := tmc_mono (f := f) (a := a) b (by omega)
      by_cases z : f b = 0
      · rw [tmc_z z]
        exact h1
      · rw [tmc_s z]
        omega
/-- the exponent of the t-th term from above -/
def exF (R : Nat → Int) (t z : Int) : Prop := ∃ e : Nat, z = (e : Int) ∧ e < 13 ∧ R e ≠ 0 ∧ (tmc R 13 : Int) - tmc R (e + 1) = t
theorem exF.one {R : Nat → Int} {t : Int} (z1 z2 : Int) (a : exF R t z1) (b : exF R t z2) : z1 = z2 := by
  obtain ⟨e1, a1, a2, a3, a4⟩ := a
  obtain ⟨e2, b1, b2, b3, b4⟩ := b
  rcases Nat.lt_trichotomy e1 e2 with c | c | c
  · have h1 := tmc_mono (f := R) (a := e1 + 1) e2 (by omega)
    have h2 := tmc_s b3
    omega
  · omega
  · have h1 := tmc_mono (f := R) (a := e2 + 1) e1 (by omega)
    have h2 := tmc_s a3
    omega
abbrev A_degree (N : Nat → Int) (a : Int) : Int → Int → Prop := an [(0 ≤ a ∧ a ≤ 5, 1)] (dgF (rwN N a))
abbrev A_terms (N : Nat → Int) (a : Int) : Int → Int → Prop := an [(0 ≤ a ∧ a ≤ 5, 1)] (fun z => z = ((tmc (rwN N a) 13 : Nat) : Int))
abbrev A_exponent (N : Nat → Int) (a t : Int) : Int → Int → Prop := an [((0 ≤ a ∧ a ≤ 5) ∧ 0 ≤ t ∧ t < (tmc (rwN N a) 13 : Int), 1)] (exF (rwN N a) t)
abbrev A_coefficient (N : Nat → Int) (a e : Int) : Int → Int → Prop := an [(0 ≤ a ∧ a ≤ 5, 1), (0 ≤ e ∧ e ≤ 12, 2)] (fun z => z = jsg (rwN N a e.toNat))
abbrev A_content (N : Nat → Int) (a : Int) : Int → Int → Prop := an [(0 ≤ a ∧ a ≤ 5, 1)] (fun z => z = jsg ((cgd (rwN N a) 13 : Nat) : Int))
def smF (f f' : Nat → Int) (z : Int) : Prop := (z = 1 ∧ ∀ j, j < 13 → f j = f' j) ∨ (z = 0 ∧ ¬ ∀ j, j < 13 → f j = f' j)
theorem smF.one {f f' : Nat → Int} (z1 z2 : Int) (a : smF f f' z1) (b : smF f f' z2) : z1 = z2 := by
  rcases a with ⟨a1, a2⟩ | ⟨a1, a2⟩
  · rcases b with ⟨b1, b2⟩ | ⟨b1, b2⟩
    · omega
    · exact absurd a2 b2
  · rcases b with ⟨b1, b2⟩ | ⟨b1, b2⟩
    · exact absurd b2 a2
    · omega
abbrev A_areSame (N : Nat → Int) (a b : Int) : Int → Int → Prop := an [(rg2 a b, 1)] (smF (rwN N a) (rwN N b))
section ARG
variable {N : Nat → Int} {c1 z1 c2 z2 : Int}
theorem A_degree.ag {a : Int} (p : A_degree N a c1 z1) (q : A_degree N a c2 z2) : c1 = c2 ∧ (c1 = 0 → z1 = z2) := an.ag dgF.one (by simp) p q
theorem A_terms.ag {a : Int} (p : A_terms N a c1 z1) (q : A_terms N a c2 z2) : c1 = c2 ∧ (c1 = 0 → z1 = z2) := an.ag (fun _ _ a b => a.trans b.symm) (by simp) p q
theorem A_exponent.ag {a t : Int} (p : A_exponent N a t c1 z1) (q : A_exponent N a t c2 z2) : c1 = c2 ∧ (c1 = 0 → z1 = z2) := an.ag exF.one (by simp) p q
theorem A_coefficient.ag {a e : Int} (p : A_coefficient N a e c1 z1) (q : A_coefficient N a e c2 z2) : c1 = c2 ∧ (c1 = 0 → z1 = z2) := an.ag (fun _ _ a b => a.trans b.symm) (by simp) p q
theorem A_content.ag {a : Int} (p : A_content N a c1 z1) (q : A_content N a c2 z2) : c1 = c2 ∧ (c1 = 0 → z1 = z2) := an.ag (fun _ _ a b => a.trans b.symm) (by simp) p q
theorem A_areSame.ag {a b : Int} (p : A_areSame N a b c1 z1) (q : A_areSame N a b c2 z2) : c1 = c2 ∧ (c1 = 0 → z1 = z2) := an.ag smF.one (by simp) p q
end ARG
/-! Answers of the calls that only read: the reference. -/
def rIa (A : Int → Int → Prop) (N0 : Nat → Int) (u : Nat) (H : Nat → Nat → Int) (tm er : Int) (T : Nat → Int) (r : mj_R) : Prop := ∃ (c z : Int) (h' : mj_H), A c z ∧ jr z ∧ r = (.inl (some (.int (jn z))), h') ∧ jItx N0 u H c tm er T h'
theorem rIa.za {A : Int → Int → Prop} {N : Nat → Int} {u : Nat} {H : Nat → Nat → Int} {tm er : Int} {T : Nat → Int} {r : mj_R} (k : rIa A N u H tm er T r) : rZa (sameQ N u H) A tm er T r := by
  obtain ⟨c, z, h', a, jz, rfl, I⟩ := k
  exact ⟨c, z, N, u, H, a, jz, rfl, ⟨rfl, rfl, rfl⟩, I⟩
/-! rootsBy, rootBy: answers on both sides. -/
theorem A_areSame.b {N : Nat → Int} {a b z : Int} (p : A_areSame N a b 0 z) : z = 0 ∨ z = 1 := by
  rcases p with ⟨_, e⟩ | ⟨_, _, ⟨e, _⟩ | ⟨e, _⟩⟩
  · exact absurd (show (0 : Int) = 1 from e) (by decide)
  · exact Or.inr e
  · exact Or.inl e
/-- Horner's rule by p, m coefficients to come -/
def hrv (f : Nat → Int) (x p : Int) : Nat → Int → Int
  | 0, v => v
  | m + 1, v => hrv f x p m ((v * x + f m % p) % p)
/-- how many of the first are roots by p -/
def rbc (f : Nat → Int) (p : Int) : Nat → Nat
  | 0 => 0
  | k + 1 => if hrv f (k : Int) p 13 0 = 0 then rbc f p k + 1 else rbc f p k
def rtF (f : Nat → Int) (p z : Int) : Prop := ∃ x : Nat, z = (x : Int) ∧ (x : Int) < p ∧ hrv f (x : Int) p 13 0 = 0 ∧ ∀ y : Nat, y < x → hrv f (y : Int) p 13 0 ≠ 0
theorem rtF.one {f : Nat → Int} {p : Int} (z1 z2 : Int) (a : rtF f p z1) (b : rtF f p z2) : z1 = z2 := by
  obtain ⟨x1, a1, a2, a3, a4⟩ := a
  obtain ⟨x2, b1, b2, b3, b4⟩ := b
  rcases Nat.lt_trichotomy x1 x2 with c | c | c
  · exact absurd a3 (b4 x1 c)
  · omega
  · exact absurd b3 (a4 x2 c)
abbrev A_rootsBy (N : Nat → Int) (a p : Int) : Int → Int → Prop := an [(0 ≤ a ∧ a ≤ 5, 1), (prm p, 2)] (fun z => z = ((rbc (rwN N a) p p.toNat : Nat) : Int))
abbrev A_rootBy (N : Nat → Int) (a p : Int) : Int → Int → Prop := an [(0 ≤ a ∧ a ≤ 5, 1), (prm p, 2), (∃ x : Nat, (x : Int) < p ∧ hrv (rwN N a) (x : Int) p 13 0 = 0, 3)] (rtF (rwN N a) p)
section ARB
variable {N : Nat → Int} {c1 z1 c2 z2 : Int}
theorem A_rootsBy.ag {a p : Int} (x : A_rootsBy N a p c1 z1) (y : A_rootsBy N a p c2 z2) : c1 = c2 ∧ (c1 = 0 → z1 = z2) := an.ag (fun _ _ a b => a.trans b.symm) (by simp) x y
theorem A_rootBy.ag {a p : Int} (x : A_rootBy N a p c1 z1) (y : A_rootBy N a p c2 z2) : c1 = c2 ∧ (c1 = 0 → z1 = z2) := an.ag rtF.one (by simp) x y
end ARB

/-! The value of a polynomial at a fraction, exactly. -/
def hpv (f : Nat → Int) (x : Int) : Nat → Int → Int
  | 0, v => v
  | m + 1, v => hpv f x m (v * x + f m)
/-- the value at x / y, times the bottom to the degree -/
def vlz (f : Nat → Int) (x y : Int) : Int := hpv (fun e => f e * y ^ ((fdg f 13 - 1) - e)) x (fdg f 13) 0
/-! The value at a fraction: answers on both sides. -/
abbrev okfr (x y : Int) : Prop := (-1000 ≤ x ∧ x ≤ 1000) ∧ (1 ≤ y ∧ y ≤ 1000)
abbrev A_value (N : Nat → Int) (a x y : Int) : Int → Int → Prop := an [(0 ≤ a ∧ a ≤ 5, 1), (okfr x y, 2)] (fun z => z = jsg (vlz (rwN N a) x y))
theorem A_value.ag {N : Nat → Int} {a x y c1 z1 c2 z2 : Int} (p : A_value N a x y c1 z1) (q : A_value N a x y c2 z2) : c1 = c2 ∧ (c1 = 0 → z1 = z2) := an.ag (fun _ _ a b => a.trans b.symm) (by simp) p q
def agc (f f' : Nat → Int) : Nat → Nat
  | 0 => 0
  | k + 1 => if hpv f (k : Int) 13 0 = hpv f' (k : Int) 13 0 then agc f f' k + 1 else agc f f' k
def agd (f f' : Nat → Int) : Nat := max 1 (max (fdg f 13) (fdg f' 13))
abbrev A_agreements (N : Nat → Int) (a b : Int) : Int → Int → Prop := an [(rg2 a b, 1)] (fun z => z = ((agc (rwN N a) (rwN N b) (agd (rwN N a) (rwN N b)) : Nat) : Int))
theorem A_agreements.ag {N : Nat → Int} {a b c1 z1 c2 z2 : Int} (p : A_agreements N a b c1 z1) (q : A_agreements N a b c2 z2) : c1 = c2 ∧ (c1 = 0 → z1 = z2) := an.ag (fun _ _ a b => a.trans b.symm) (by simp) p q
/-! divides: answers on both sides. -/
abbrev dvZ (f f' : Nat → Int) : Prop := ∃ (Q : pz_P) (d : Nat), pz_lt Q d ∧ rw13 f' = pz_mul Q (rw13 f)
abbrev dvF (f f' : Nat → Int) (z : Int) : Prop := (z = 1 ∧ dvZ f f') ∨ (z = 0 ∧ ¬ dvZ f f')
theorem dvF.one {f f' : Nat → Int} (z1 z2 : Int) (a : dvF f f' z1) (b : dvF f f' z2) : z1 = z2 := by
  rcases a with ⟨a1, a2⟩ | ⟨a1, a2⟩
  · rcases b with ⟨b1, b2⟩ | ⟨b1, b2⟩
    · omega
    · exact absurd a2 b2
  · rcases b with ⟨b1, b2⟩ | ⟨b1, b2⟩
    · exact absurd b2 a2
    · omega
theorem dvF.cg {f f' f1 f2 : Nat → Int} (h : ∀ j, j < 13 → f j = f1 j) (h2 : ∀ j, j < 13 → f' j = f2 j) {z : Int} (p : dvF f f' z) : dvF f1 f2 z := by
  have e1 := rw13_cg h
  have e2 := rw13_cg h2
  unfold dvF dvZ at p ⊢
  rw [← e1, ← e2]
  exact p
abbrev A_divides (N : Nat → Int) (a b : Int) : Int → Int → Prop := an [(rg2 a b, 1)] (dvF (rwN N a) (rwN N b))
theorem A_divides.ag {N : Nat → Int} {a b c1 z1 c2 z2 : Int} (p : A_divides N a b c1 z1) (q : A_divides N a b c2 z2) : c1 = c2 ∧ (c1 = 0 → z1 = z2) := an.ag dvF.one (by simp) p q
theorem A_divides.b {N : Nat → Int} {a b z : Int} (p : A_divides N a b 0 z) : z = 0 ∨ z = 1 := by
  rcases p with ⟨_, e⟩ | ⟨_, _, ⟨e, _⟩ | ⟨e, _⟩⟩
  · exact absurd (show (0 : Int) = 1 from e) (by decide)
  · exact Or.inr e
  · exact Or.inl e
/-! A polynomial as a text. -/
def kfd (v : Nat) : Nat → Nat → Nat
  | 0, k => k
  | d + 1, k => if v / 10 ^ k < 10 then k else kfd v d (k + 1)
def nmN (v : Nat) : Nat := kfd v 17 0 + 1
def tmN (c : Int) (e : Nat) : Nat := (if c.natAbs = 1 ∧ e ≠ 0 then 0 else nmN c.natAbs + (if 0 < e then 1 else 0)) + ((if 0 < e then 1 else 0) + (if 1 < e then nmN e + 1 else 0))
def sgN (c : Int) (w : Nat) : Nat := if w = 0 then (if c < 0 then 1 else 0) else 3
def rlN (f : Nat → Int) : Nat → Nat → Nat
  | 0, w => w
  | m + 1, w => rlN f m (if f m = 0 then w else w + (sgN (f m) w + tmN (f m) m))
def wrN (f : Nat → Int) : Nat := if rlN f 13 0 = 0 then 1 else rlN f 13 0
abbrev A_write (N : Nat → Int) (a : Int) : Int → Int → Prop := an [(0 ≤ a ∧ a ≤ 5, 1)] (fun z => z = ((wrN (rwN N a) : Nat) : Int))
theorem A_write.ag {N : Nat → Int} {a c1 z1 c2 z2 : Int} (p : A_write N a c1 z1) (q : A_write N a c2 z2) : c1 = c2 ∧ (c1 = 0 → z1 = z2) := an.ag (fun _ _ a b => a.trans b.symm) (by simp) p q
section MTY
variable {g h : mj_H} {n D t r : Nat} {V : Nat → Int} {X : Nat → Nat → Int} {N : Nat → Int} {H : Nat → Nat → Int} {u : Nat}
def fin (L : List Int) : List Int := if L = [] then [48] else L
end MTY
/-! What stands written is read again: the text from a place on, its blanks, its numbers. -/
/-- from a on the text is R -/
def atL (T : Nat → Int) (tm a : Nat) (R : List Int) : Prop := a + R.length = tm ∧ ∀ j c, R[j]? = some c → T (a + j) = c
section TRP
variable {T : Nat → Int} {tm : Nat}
theorem atL.head {a : Nat} {c : Int} {R : List Int} (h : atL T tm a (c :: R)) : T a = c ∧ a < tm ∧ atL T tm (a + 1) R := by
  have h1 := h.1
  rw [List.length_cons] at h1
  refine ⟨h.2 0 c rfl, by omega, by omega, fun j x hj => ?_⟩
  have h2 := h.2 (j + 1) x hj
  rwa [show a + (j + 1) = a + 1 + j by omega] at h2
theorem atL.app {a : Nat} {A R : List Int} (h : atL T tm a (A ++ R)) : atL T tm (a + A.length) R ∧ ∀ j c, A[j]? = some c → T (a + j) = c := by
  have h1 := h.1
  rw [List.length_append] at h1
  refine ⟨⟨by omega, fun j c hj => ?_⟩, fun j c hj => h.2 j c ?_⟩
  · have h2 := h.2 (A.length + j) c (by rw [List.getElem?_append_right (by omega), Nat.add_sub_cancel_left]; exact hj)
    rwa [← Nat.add_assoc] at h2
  · rw [List.getElem?_append_left (List.getElem?_eq_some_iff.mp hj).1]
    exact hj
/-- no digit comes next -/
def nd (R : List Int) : Prop := ∀ c R', R = c :: R' → ¬ (48 ≤ c ∧ c ≤ 57)
end TRP
/-! What stands written is read again: powers and products. -/


/-- all signs are small -/
def smS (L : List Int) : Prop := ∀ c ∈ L, 0 ≤ c ∧ c < 128
theorem smS.app {A B : List Int} (a : smS A) (b : smS B) : smS (A ++ B) := fun c hc => (List.mem_append.mp hc).elim (a c) (b c)
theorem smS.cons {x : Int} {B : List Int} (a : 0 ≤ x ∧ x < 128) (b : smS B) : smS (x :: B) := fun c hc => by
  rcases List.mem_cons.mp hc with e | e
  · rw [e]
    exact a
  · exact b c e
/-! The row of Sturm: what it is, up to factors above 0; there is only one. -/
/-- the same up to factors above 0 -/
def pM (x y : pz_P) : Prop := ∃ a b : Int, 0 < a ∧ 0 < b ∧ pz_sc a x = pz_sc b y
theorem pM.rf (x : pz_P) : pM x x := ⟨1, 1, by decide, by decide, rfl⟩
theorem pM.sy {x y : pz_P} (h : pM x y) : pM y x := by
  obtain ⟨a, b, ha, hb, h⟩ := h
  exact ⟨b, a, hb, ha, h.symm⟩
theorem pM.tr {x y z : pz_P} (h : pM x y) (k : pM y z) : pM x z := by
  obtain ⟨a, b, ha, hb, h⟩ := h
  obtain ⟨c, d, hc, hd, k⟩ := k
  refine ⟨c * a, b * d, Int.mul_pos hc ha, Int.mul_pos hb hd, ?_⟩
  rw [← pz_sc_sc, h, pz_sc_sc, Int.mul_comm c b, ← pz_sc_sc, k, pz_sc_sc]
theorem pM.at {x y : pz_P} (h : pM x y) : ∃ a b : Int, 0 < a ∧ 0 < b ∧ ∀ i, a * x i = b * y i := by
  obtain ⟨a, b, ha, hb, h⟩ := h
  exact ⟨a, b, ha, hb, fun i => congrFun h i⟩
theorem pM.z {x y : pz_P} (h : pM x y) {i : Nat} (hx : x i = 0) : y i = 0 := by
  obtain ⟨a, b, ha, hb, h⟩ := h.at
  have := h i
  rw [hx, Int.mul_zero] at this
  rcases Int.mul_eq_zero.mp this.symm with q | q
  · omega
  · exact q
theorem pM.lt {x y : pz_P} (h : pM x y) {d : Nat} (hx : pz_lt x d) : pz_lt y d := fun i hi => h.z (hx i hi)
theorem pM.sg {x y : pz_P} (h : pM x y) (i : Nat) : jsg (x i) = jsg (y i) := by
  obtain ⟨a, b, ha, hb, h⟩ := h.at
  have e := congrArg jsg (h i)
  rw [← jsg_mul2, ← jsg_mul2, jsg_pos ha, jsg_pos hb, Int.one_mul, Int.one_mul] at e
  exact e
theorem pM.deg {x y : pz_P} (h : pM x y) {a b : Nat} (x0 : x a ≠ 0) (x1 : pz_lt x (a + 1)) (y0 : y b ≠ 0) (y1 : pz_lt y (b + 1)) : a = b := by
  rcases Nat.lt_trichotomy a b with c | c | c
  · exact absurd (h.lt x1 b (by omega)) y0
  · exact c
  · exact absurd (h.sy.lt y1 a (by omega)) x0
theorem pM.dv {x y : pz_P} (h : pM x y) : pM (drv x) (drv y) := by
  obtain ⟨a, b, ha, hb, h⟩ := h.at
  refine ⟨a, b, ha, hb, funext fun i => ?_⟩
  show a * (x (i + 1) * ((i + 1 : Nat) : Int)) = b * (y (i + 1) * ((i + 1 : Nat) : Int))
  rw [← Int.mul_assoc, ← Int.mul_assoc, h]
/-- Z is what follows X and Y in a row of Sturm -/
def sN (X Y Z : pz_P) : Prop := ∃ (a c : Int) (Q : pz_P) (K : Nat), 0 < a ∧ 0 < c ∧ pz_lt Q K ∧ ∀ i, a * X i + c * Z i = pz_mul Q Y i
theorem sN.z {X Y Z Z' : pz_P} (h : sN X Y Z) (k : pM Z Z') : sN X Y Z' := by
  obtain ⟨a, c, Q, K, ha, hc, hQ, h⟩ := h
  obtain ⟨p, q, hp, hq, k⟩ := k.at
  refine ⟨p * a, c * q, pz_sc p Q, K, Int.mul_pos hp ha, Int.mul_pos hc hq, hQ.sc p, fun i => ?_⟩
  rw [pz_mul_scL]
  show _ = p * pz_mul Q Y i
  rw [← h i, Int.mul_add, Int.mul_assoc p, Int.mul_assoc c, ← k i]
  have e : c * (p * Z i) = p * (c * Z i) := by ac_rfl
  rw [e]
theorem sN.xy {X Y Z X' Y' : pz_P} (h : sN X Y Z) (hX : pM X X') (hY : pM Y Y') : sN X' Y' Z := by
  obtain ⟨a, c, Q, K, ha, hc, hQ, h⟩ := h
  obtain ⟨p, q, hp, hq, hX⟩ := hX.at
  obtain ⟨s, t, hs, ht, hY⟩ := hY.at
  -- a q X' + c p Z = p (a X + c Z); s Y = t Y'
  refine ⟨s * (a * q), s * (c * p), pz_sc (p * t) Q, K, Int.mul_pos hs (Int.mul_pos ha hq), Int.mul_pos hs (Int.mul_pos hc hp), hQ.sc _, fun i => ?_⟩
  have e1 : pz_mul (pz_sc (p * t) Q) Y' i = p * (s * pz_mul Q Y i) := by
    have e : pz_sc t Y' = pz_sc s Y := funext fun i => (hY i).symm
    have e2 := congrFun (congrArg (pz_mul Q) e) i
    rw [pz_mul_scR, pz_mul_scR] at e2
    rw [pz_mul_scL]
    show p * t * pz_mul Q Y' i = _
    rw [Int.mul_assoc]
    exact congrArg (p * ·) e2
  rw [e1, ← h i]
  have e3 : s * (a * q) * X' i = p * (s * (a * X i)) := by
    rw [show s * (a * q) * X' i = s * a * (q * X' i) by ac_rfl, ← hX i]
    ac_rfl
  have e4 : s * (c * p) * Z i = p * (s * (c * Z i)) := by ac_rfl
  rw [e3, e4, Int.mul_add, Int.mul_add]
theorem sN.one {X Y Z X' Y' Z' : pz_P} {d : Nat} (h : sN X Y Z) (k : sN X' Y' Z') (hX : pM X X') (hY : pM Y Y') (y0 : Y d ≠ 0) (y1 : pz_lt Y (d + 1)) (z1 : pz_lt Z d) (z2 : pz_lt Z' d) : pM Z Z' := by
  have k := k.xy hX.sy hY.sy
  obtain ⟨a, c, Q, K, ha, hc, hQ, h⟩ := h
  obtain ⟨a', c', Q', K', ha', hc', hQ', k⟩ := k
  have e : ∀ i, pz_mul (pz_add (pz_sc a' Q) (pz_sc (-a) Q')) Y i = a' * c * Z i - a * c' * Z' i := fun i => by
    rw [pz_mul_addL, pz_mul_scL, pz_mul_scL]
    show a' * pz_mul Q Y i + -a * pz_mul Q' Y i = _
    rw [← h i, ← k i, Int.neg_mul, Int.mul_add, Int.mul_add, show a * (a' * X i) = a' * (a * X i) by ac_rfl, Int.mul_assoc, Int.mul_assoc]
    omega
  have hlt : pz_lt (pz_mul (pz_add (pz_sc a' Q) (pz_sc (-a) Q')) Y) (0 + d) := fun i hi => by
    rw [e i, z1 i (by omega), z2 i (by omega), Int.mul_zero, Int.mul_zero]
    rfl
  have h0 := pz_deg_of y1 y0 0 (K + K') _ (pz_lt.add ((hQ.sc a').mono (by omega)) ((hQ'.sc (-a)).mono (by omega))) hlt
  refine ⟨a' * c, a * c', Int.mul_pos ha' hc, Int.mul_pos ha hc', funext fun i => ?_⟩
  have e1 := e i
  rw [pz_lt.zero _ h0, pz_mul_0L] at e1
  have e1 : (0 : Int) = a' * c * Z i - a * c' * Z' i := e1
  show a' * c * Z i = a * c' * Z' i
  omega
/-- out of a division -/
theorem sN.erp {X Y F Q : pz_P} {K : Nat} {c w : Int} (hQ : pz_lt Q K) (hw : 0 < w) (hc : 0 < c) (h : ∀ i, c * X i = pz_mul Q Y i + w * F i) : sN X Y (fun i => -F i) := ⟨c, w, Q, K, hc, hw, hQ, fun i => by
  rw [h i, Int.mul_neg]
  omega⟩
theorem sN.ern {X Y F Q : pz_P} {K : Nat} {c w : Int} (hQ : pz_lt Q K) (hw : 0 < w) (hc : c < 0) (h : ∀ i, c * X i = pz_mul Q Y i + w * F i) : sN X Y F := ⟨-c, w, pz_sc (-1) Q, K, by omega, hw, hQ.sc _, fun i => by
  rw [pz_mul_scL]
  show -c * X i + w * F i = -1 * pz_mul Q Y i
  rw [Int.neg_mul, h i]
  omega⟩
theorem sN.const {X Y : pz_P} {N : Nat} (hX : pz_lt X N) (h0 : Y 0 ≠ 0) (hz : ∀ i, 0 < i → Y i = 0) : sN X Y pz_0 := by
  have hm : ∀ i, pz_mul X Y i = Y 0 * X i := fun i => by
    show pz_c i X Y = Y 0 * X i
    rw [pz_c_zs, zs_one (p := i) (by omega) (fun j hj hn => by rw [hz (i - j) (by omega), Int.mul_zero]), Nat.sub_self, Int.mul_comm]
  rcases Int.lt_or_gt_of_ne h0 with c | c
  · refine ⟨-(Y 0), 1, pz_sc (-1) X, N, by omega, by decide, hX.sc _, fun i => ?_⟩
    rw [pz_mul_scL]
    show -(Y 0) * X i + 1 * 0 = -1 * pz_mul X Y i
    rw [hm i, Int.neg_mul]
    omega
  · refine ⟨Y 0, 1, X, N, c, by decide, hX, fun i => ?_⟩
    show Y 0 * X i + 1 * 0 = pz_mul X Y i
    rw [hm i]
    omega
/-- the rows 0 to k of a row of Sturm of A, with their degrees -/
def SPr (A : pz_P) (k : Nat) (R : Nat → pz_P) (d : Nat → Nat) : Prop := (∀ i, i ≤ k → R i (d i) ≠ 0 ∧ pz_lt (R i) (d i + 1)) ∧ (∀ i, i < k → d (i + 1) < d i) ∧ pM (R 0) A ∧ (1 ≤ k → pM (R 1) (drv A)) ∧ ∀ i, i + 2 ≤ k → sN (R i) (R (i + 1)) (R (i + 2))
/-- and nothing comes behind them -/
def SRw (A : pz_P) (k : Nat) (R : Nat → pz_P) (d : Nat → Nat) : Prop := SPr A k R d ∧ (k = 0 → ∀ i, drv A i = 0) ∧ (1 ≤ k → sN (R (k - 1)) (R k) pz_0)
theorem SPr.di {A : pz_P} {k : Nat} {R : Nat → pz_P} {d : Nat → Nat} (h : SPr A k R d) : ∀ i, i ≤ k → d i + i ≤ d 0
  | 0, _ => Nat.le_refl _
  | i + 1, hi => by
    have a := h.di i (by omega)
    have b := h.2.1 i (by omega)
    omega
theorem SPr.pm {A : pz_P} {k k' : Nat} {R R' : Nat → pz_P} {d d' : Nat → Nat} (h : SPr A k R d) (h' : SPr A k' R' d') : ∀ i, i ≤ k → i ≤ k' → pM (R i) (R' i)
  | 0, _, _ => h.2.2.1.tr h'.2.2.1.sy
  | 1, a, b => (h.2.2.2.1 a).tr (h'.2.2.2.1 b).sy
  | i + 2, a, b => by
    have p0 := SPr.pm h h' i (by omega) (by omega)
    have p1 := SPr.pm h h' (i + 1) (by omega) (by omega)
    obtain ⟨y0, y1⟩ := h.1 (i + 1) (by omega)
    obtain ⟨w0, w1⟩ := h'.1 (i + 1) (by omega)
    have e := p1.deg y0 y1 w0 w1
    have dd : d (i + 2) < d (i + 1) := h.2.1 (i + 1) (by omega)
    have dd' : d' (i + 2) < d' (i + 1) := h'.2.1 (i + 1) (by omega)
    exact sN.one (h.2.2.2.2 i a) (h'.2.2.2.2 i b) p0 p1 y0 y1 ((h.1 (i + 2) a).2.mono (by omega)) ((h'.1 (i + 2) b).2.mono (by omega))
theorem SRw.len {A : pz_P} {k k' : Nat} {R R' : Nat → pz_P} {d d' : Nat → Nat} (h : SRw A k R d) (h' : SRw A k' R' d') : ¬ k < k' := fun c => by
  have hz : ∀ i, R' (k + 1) i = 0 := by
    cases k with
    | zero =>
      have p := h'.1.2.2.2.1 (by omega)
      exact fun i => p.sy.z (h.2.1 rfl i)
    | succ j =>
      have p0 := SPr.pm h.1 h'.1 j (by omega) (by omega)
      have p1 := SPr.pm h.1 h'.1 (j + 1) (by omega) (by omega)
      obtain ⟨y0, y1⟩ := h.1.1 (j + 1) (by omega)
      obtain ⟨w0, w1⟩ := h'.1.1 (j + 1) (by omega)
      have e := p1.deg y0 y1 w0 w1
      have dd' : d' (j + 2) < d' (j + 1) := h'.1.2.1 (j + 1) (by omega)
      have q0 := h.2.2 (by omega)
      rw [Nat.add_sub_cancel] at q0
      have q := sN.one q0 (h'.1.2.2.2.2 j (by omega)) p0 p1 y0 y1 (fun _ _ => rfl) ((h'.1.1 (j + 2) (by omega)).2.mono (by omega))
      exact fun i => q.z rfl
  exact (h'.1.1 (k + 1) (by omega)).1 (hz _)
theorem SRw.one {A : pz_P} {k k' : Nat} {R R' : Nat → pz_P} {d d' : Nat → Nat} (h : SRw A k R d) (h' : SRw A k' R' d') : k = k' ∧ ∀ i, i ≤ k → pM (R i) (R' i) ∧ d i = d' i := by
  have e : k = k' := by
    have a := h.len h'
    have b := h'.len h
    omega
  refine ⟨e, fun i hi => ?_⟩
  have p := SPr.pm h.1 h'.1 i hi (by omega)
  obtain ⟨y0, y1⟩ := h.1.1 i hi
  obtain ⟨w0, w1⟩ := h'.1.1 i (by omega)
  exact ⟨p, p.deg y0 y1 w0 w1⟩
theorem SPr.cg {A : pz_P} {k : Nat} {R R' : Nat → pz_P} {d d' : Nat → Nat} (h : SPr A k R d) (hR : ∀ i, i ≤ k → R' i = R i) (hd : ∀ i, i ≤ k → d' i = d i) : SPr A k R' d' := by
  obtain ⟨h1, h2, h3, h4, h5⟩ := h
  refine ⟨fun i hi => ?_, fun i hi => ?_, ?_, fun hk => ?_, fun i hi => ?_⟩
  · rw [hR i hi, hd i hi]
    exact h1 i hi
  · rw [hd i (by omega), hd (i + 1) (by omega)]
    exact h2 i hi
  · rw [hR 0 (by omega)]
    exact h3
  · rw [hR 1 hk]
    exact h4 hk
  · rw [hR i (by omega), hR (i + 1) (by omega), hR (i + 2) hi]
    exact h5 i hi
theorem SPr.next {A : pz_P} {k : Nat} {R : Nat → pz_P} {d : Nat → Nat} (h : SPr A (k + 1) R d) (hs : sN (R k) (R (k + 1)) (R (k + 2))) (h0 : R (k + 2) (d (k + 2)) ≠ 0) (h1 : pz_lt (R (k + 2)) (d (k + 2) + 1)) (h2 : d (k + 2) < d (k + 1)) : SPr A (k + 2) R d := by
  obtain ⟨g1, g2, g3, g4, g5⟩ := h
  refine ⟨fun i hi => ?_, fun i hi => ?_, g3, fun _ => g4 (by omega), fun i hi => ?_⟩
  · by_cases c : i = k + 2
    · rw [c]
      exact ⟨h0, h1⟩
    · exact g1 i (by omega)
  · by_cases c : i = k + 1
    · rw [c]
      exact h2
    · exact g2 i (by omega)
  · by_cases c : i = k
    · rw [c]
      exact hs
    · exact g5 i (by omega)
/-- of another polynomial that is the same up to factors above 0 -/
theorem SRw.to {A A' : pz_P} {k : Nat} {R : Nat → pz_P} {d : Nat → Nat} (h : SRw A k R d) (hA : pM A A') : SRw A' k R d := ⟨⟨h.1.1, h.1.2.1, h.1.2.2.1.tr hA, fun q => (h.1.2.2.2.1 q).tr hA.dv, h.1.2.2.2.2⟩, fun q i => hA.dv.z (h.2.1 q i), h.2.2⟩
/-- the changes of sign among the first, and the last sign that is not 0 -/
def chg (s : Nat → Int) : Nat → Nat × Int
  | 0 => (0, 0)
  | k + 1 => if s k = 0 then chg s k else ((if (chg s k).2 * s k < 0 then (chg s k).1 + 1 else (chg s k).1), s k)
theorem chg_s (s : Nat → Int) (k : Nat) : chg s (k + 1) = if s k = 0 then chg s k else ((if (chg s k).2 * s k < 0 then (chg s k).1 + 1 else (chg s k).1), s k) := rfl
theorem chg_cg {s s' : Nat → Int} : ∀ k, (∀ i, i < k → s' i = s i) → chg s' k = chg s k
  | 0, _ => rfl
  | k + 1, h => by
    rw [chg_s, chg_s, chg_cg k (fun i hi => h i (by omega)), h k (by omega)]
/-- signs beyond all roots, and at a fraction -/
def sfar (R : Nat → pz_P) (d : Nat → Nat) (w : Int) (i : Nat) : Int := jsg (R i (d i)) * (if w < 0 ∧ d i % 2 = 1 then -1 else 1)
def sat (R : Nat → pz_P) (x y : Int) (i : Nat) : Int := jsg (vlz (R i) x y)
theorem hpv_sc {f : Nat → Int} {x a : Int} : ∀ m v, hpv (fun e => a * f e) x m (a * v) = a * hpv f x m v
  | 0, _ => rfl
  | m + 1, v => by
    show hpv (fun e => a * f e) x m (a * v * x + a * f m) = _
    rw [show a * v * x + a * f m = a * (v * x + f m) by rw [Int.mul_add, Int.mul_assoc]]
    exact hpv_sc m _
theorem fdg_sc {f : Nat → Int} {a : Int} (ha : a ≠ 0) : ∀ k, fdg (fun e => a * f e) k = fdg f k
  | 0 => rfl
  | k + 1 => by
    rw [fdg_succ, fdg_succ, fdg_sc ha k]
    by_cases c : f k = 0
    · rw [if_pos c, if_pos (by rw [c, Int.mul_zero])]
    · rw [if_neg c, if_neg (Int.mul_ne_zero ha c)]
theorem vlz_sc {f : pz_P} {x y a : Int} (ha : a ≠ 0) : vlz (pz_sc a f) x y = a * vlz f x y := by
  unfold vlz
  have e : fdg (pz_sc a f) 13 = fdg f 13 := fdg_sc ha 13
  have e2 : (fun e => pz_sc a f e * y ^ ((fdg f 13 - 1) - e)) = fun e => a * (f e * y ^ ((fdg f 13 - 1) - e)) := funext fun e => Int.mul_assoc _ _ _
  rw [e, e2]
  have e3 := hpv_sc (f := fun e => f e * y ^ ((fdg f 13 - 1) - e)) (x := x) (a := a) (fdg f 13) 0
  rw [Int.mul_zero] at e3
  exact e3
theorem pM.vl {f f' : pz_P} (h : pM f f') (x y : Int) : jsg (vlz f x y) = jsg (vlz f' x y) := by
  obtain ⟨a, b, ha, hb, h⟩ := h
  have e : jsg (vlz (pz_sc a f) x y) = jsg (vlz (pz_sc b f') x y) := by rw [h]
  rw [vlz_sc (by omega), vlz_sc (by omega), ← jsg_mul2, ← jsg_mul2, jsg_pos ha, jsg_pos hb, Int.one_mul, Int.one_mul] at e
  exact e
theorem SRw.far {A : pz_P} {k k' : Nat} {R R' : Nat → pz_P} {d d' : Nat → Nat} (h : SRw A k R d) (h' : SRw A k' R' d') (w : Int) : chg (sfar R d w) (k + 1) = chg (sfar R' d' w) (k' + 1) := by
  obtain ⟨e, o⟩ := h.one h'
  rw [← e]
  refine chg_cg (k + 1) (fun i hi => ?_)
  obtain ⟨p, q⟩ := o i (by omega)
  unfold sfar
  rw [p.sg, q]
theorem SRw.sat {A : pz_P} {k k' : Nat} {R R' : Nat → pz_P} {d d' : Nat → Nat} (h : SRw A k R d) (h' : SRw A k' R' d') (x y : Int) : chg (sat R x y) (k + 1) = chg (sat R' x y) (k' + 1) := by
  obtain ⟨e, o⟩ := h.one h'
  rw [← e]
  refine chg_cg (k + 1) (fun i hi => ?_)
  exact ((o i (by omega)).1.vl x y)
abbrev A_sturmLength (N : Nat → Int) (a : Int) : Int → Int → Prop := an [(0 ≤ a ∧ a ≤ 5, 1), (1 ≤ fdg (rwN N a) 13, 2)] (fun z => ∃ (k : Nat) (R : Nat → pz_P) (d : Nat → Nat), SRw (rwN N a) k R d ∧ z = ((k + 1 : Nat) : Int))
abbrev A_realRoots (N : Nat → Int) (a : Int) : Int → Int → Prop := an [(0 ≤ a ∧ a ≤ 5, 1), (1 ≤ fdg (rwN N a) 13, 2)] (fun z => ∃ (k : Nat) (R : Nat → pz_P) (d : Nat → Nat), SRw (rwN N a) k R d ∧ z = ((chg (sfar R d (-1)) (k + 1)).1 : Int) - ((chg (sfar R d 1) (k + 1)).1 : Int))
abbrev A_changes (N : Nat → Int) (a x y : Int) : Int → Int → Prop := an [(0 ≤ a ∧ a ≤ 5, 1), (okfr x y, 2), (1 ≤ fdg (rwN N a) 13, 3)] (fun z => ∃ (k : Nat) (R : Nat → pz_P) (d : Nat → Nat), SRw (rwN N a) k R d ∧ z = ((chg (sat R x y) (k + 1)).1 : Int))
abbrev A_rootsBetween (N : Nat → Int) (a x y x2 y2 : Int) : Int → Int → Prop := an [(0 ≤ a ∧ a ≤ 5, 1), ((okfr x y ∧ okfr x2 y2) ∧ x * y2 < x2 * y, 2), (1 ≤ fdg (rwN N a) 13, 3), (vlz (rwN N a) x y ≠ 0 ∧ vlz (rwN N a) x2 y2 ≠ 0, 4)] (fun z => ∃ (k : Nat) (R : Nat → pz_P) (d : Nat → Nat), SRw (rwN N a) k R d ∧ z = ((chg (sat R x y) (k + 1)).1 : Int) - ((chg (sat R x2 y2) (k + 1)).1 : Int))
section AST
variable {N : Nat → Int} {c1 z1 c2 z2 : Int}
theorem A_sturmLength.ag {a : Int} (x : A_sturmLength N a c1 z1) (y : A_sturmLength N a c2 z2) : c1 = c2 ∧ (c1 = 0 → z1 = z2) := an.ag (fun _ _ a b => by
  obtain ⟨k, R, d, h, e⟩ := a
  obtain ⟨k', R', d', h', e'⟩ := b
  rw [e, e', (h.one h').1]) (by simp) x y
theorem A_realRoots.ag {a : Int} (x : A_realRoots N a c1 z1) (y : A_realRoots N a c2 z2) : c1 = c2 ∧ (c1 = 0 → z1 = z2) := an.ag (fun _ _ a b => by
  obtain ⟨k, R, d, h, e⟩ := a
  obtain ⟨k', R', d', h', e'⟩ := b
  rw [e, e', h.far h' (-1), h.far h' 1]) (by simp) x y
theorem A_changes.ag {a p q : Int} (x : A_changes N a p q c1 z1) (y : A_changes N a p q c2 z2) : c1 = c2 ∧ (c1 = 0 → z1 = z2) := an.ag (fun _ _ a b => by
  obtain ⟨k, R, d, h, e⟩ := a
  obtain ⟨k', R', d', h', e'⟩ := b
  rw [e, e', h.sat h' p q]) (by simp) x y
theorem A_rootsBetween.ag {a p q r s : Int} (x : A_rootsBetween N a p q r s c1 z1) (y : A_rootsBetween N a p q r s c2 z2) : c1 = c2 ∧ (c1 = 0 → z1 = z2) := an.ag (fun _ _ a b => by
  obtain ⟨k, R, d, h, e⟩ := a
  obtain ⟨k', R', d', h', e'⟩ := b
  rw [e, e', h.sat h' p q, h.sat h' r s]) (by simp) x y
end AST
/-! goOn once more: it leaves the row of Sturm. -/
theorem ipw_p {c : Int} (h : 0 < c) : ∀ n : Nat, 0 < c ^ n
  | 0 => by
    rw [Int.pow_zero]
    decide
  | n + 1 => by
    rw [Int.pow_succ]
    exact Int.mul_pos (ipw_p h n) h
theorem ipw_n {c : Int} (h : c < 0) : ∀ n : Nat, (n % 2 = 0 → 0 < c ^ n) ∧ (n % 2 = 1 → c ^ n < 0)
  | 0 => ⟨fun _ => by
    rw [Int.pow_zero]
    decide, fun q => absurd q (by decide)⟩
  | n + 1 => by
    obtain ⟨a, b⟩ := ipw_n h n
    rw [Int.pow_succ]
    exact ⟨fun q => Int.mul_pos_of_neg_of_neg (b (by omega)) h, fun q => Int.mul_neg_of_pos_of_neg (a (by omega)) h⟩
theorem RI.erv {A B X Y : pz_P} {m n dx dy : Nat} {la ps : Int} (r : RI A B m n X Y dx dy la ps) (h1 : 1 ≤ dy) (i : Nat) : er X Y dy (dx - dy) (dx - dy + 1) i = la * ps ^ (dx - dy) * rdv X Y dx dy la ps i := by
  have e := (r.div h1).2
  obtain ⟨r1, r2, r3, r4, r5, r6, r7, r8⟩ := r
  have val : ∀ s : Int, itd (itd (la * ps ^ (dx - dy) * s) la 1) ps (dx - dy) = s := fun s => by
    have q1 : itd (la * ps ^ (dx - dy) * s) la 1 = ps ^ (dx - dy) * s := by
      have := itd_mul (d := la) (by omega) (ps ^ (dx - dy) * s) 1
      rw [Int.pow_one, ← Int.mul_assoc] at this
      exact this
    rw [q1]
    exact itd_mul (by omega) s _
  rcases e with e | e
  · have e1 : er X Y dy (dx - dy) (dx - dy + 1) i = la * ps ^ (dx - dy) * SB (n - (dy - 1)) (m - (dy - 1)) n A B i := e i
    unfold rdv
    rw [e1, val]
  · have e1 : er X Y dy (dx - dy) (dx - dy + 1) i = -(la * ps ^ (dx - dy) * SB (n - (dy - 1)) (m - (dy - 1)) n A B i) := e i
    unfold rdv
    rw [e1, itd_neg, itd_neg, val, Int.mul_neg]
theorem RI.sN {A B X Y F : pz_P} {m n dy gap : Nat} {la ps : Int} (r : RI A B m n X Y (dy + gap) dy la ps) (h1 : 1 ≤ dy) (p1 : (0 < Y dy ∨ gap % 2 ≠ 0) → ∀ i, F i = -(rdv X Y (dy + gap) dy la ps i)) (p2 : ¬ (0 < Y dy ∨ gap % 2 ≠ 0) → ∀ i, F i = rdv X Y (dy + gap) dy la ps i) : sN X Y F := by
  have g1 : dy + gap - dy = gap := by omega
  have ev : ∀ i, er X Y dy gap (gap + 1) i = la * ps ^ gap * rdv X Y (dy + gap) dy la ps i := fun i => by
    have := r.erv h1 i
    rw [g1] at this
    exact this
  obtain ⟨r1, r2, r3, r4, r5, r6, r7, r8⟩ := r
  obtain ⟨Q, hQl, hQ⟩ := er_rel (F := X) (B := Y) (db := dy) (gap := gap) r2 (fun i hi => r1 i (by omega)) (gap + 1) (Nat.le_refl _)
  have hw : 0 < la * ps ^ gap := Int.mul_pos r6 (ipw_p r7 gap)
  have hh : ∀ i, Y dy ^ (gap + 1) * X i = pz_mul Q Y i + (la * ps ^ gap) * rdv X Y (dy + gap) dy la ps i := fun i => by
    have e : Y dy ^ (gap + 1) * X i = pz_mul Q Y i + er X Y dy gap (gap + 1) i := congrFun hQ i
    rw [ev i] at e
    exact e
  by_cases c : 0 < Y dy ∨ gap % 2 ≠ 0
  · have hc : 0 < Y dy ^ (gap + 1) := by
      rcases Int.lt_or_gt_of_ne r3 with q | q
      · exact (ipw_n q (gap + 1)).1 (by omega)
      · exact ipw_p q _
    have k := sN.erp hQl hw hc hh
    have e : (fun i => -(rdv X Y (dy + gap) dy la ps i)) = F := funext fun i => (p1 c i).symm
    rw [e] at k
    exact k
  · have hc : Y dy ^ (gap + 1) < 0 := (ipw_n (by omega) (gap + 1)).2 (by omega)
    have k := sN.ern hQl hw hc hh
    have e : rdv X Y (dy + gap) dy la ps = F := funext fun i => (p2 c i).symm
    rw [e] at k
    exact k
/-- the degree that a polynomial of the row tells; the polynomial -/
def sdg (X : Nat → Nat → Int) (i : Nat) : Nat := (X (sro i) 2).toNat
noncomputable def srw (V : Nat → Int) (i : Nat) : pz_P := pcs V (sro i)
/-- the rows 0 to k stand there -/
def SJ (A : pz_P) (k : Nat) (V : Nat → Int) (X : Nat → Nat → Int) : Prop := SPr A k (srw V) (sdg X) ∧ (∀ i, i ≤ k → 0 ≤ X (sro i) 2 ∧ sdg X i < cL (sro i + 3)) ∧ ∀ i, i ≤ k → ∀ e, (srw V i e).natAbs ≤ if i < 2 then bM else bdf (25 - 2 * sdg X i)
/-- the whole row stands there -/
def GSt (A : pz_P) (V : Nat → Int) (X : Nat → Nat → Int) : Prop := ∃ k : Nat, k ≤ 12 ∧ X 172 2 = ((k + 1 : Nat) : Int) ∧ SRw A k (srw V) (sdg X) ∧ SJ A k V X
theorem SJ.cg {A : pz_P} {k : Nat} {V V1 : Nat → Int} {X X1 : Nat → Nat → Int} (h : SJ A k V X) (hV : ∀ i, i ≤ k → srw V1 i = srw V i) (hX : ∀ i, i ≤ k → X1 (sro i) 2 = X (sro i) 2) : SJ A k V1 X1 := by
  have hd : ∀ i, i ≤ k → sdg X1 i = sdg X i := fun i hi => by
    unfold sdg
    rw [hX i hi]
  refine ⟨h.1.cg hV hd, fun i hi => ?_, fun i hi e => ?_⟩
  · rw [hd i hi, hX i hi]
    exact h.2.1 i hi
  · rw [hd i hi, hV i hi]
    exact h.2.2 i hi e
theorem SJ.x172 {A : pz_P} {k : Nat} {V : Nat → Int} {X : Nat → Nat → Int} {v : Int} (hk : k < 14) (h : SJ A k V X) : SJ A k V (xup X 172 2 v) := h.cg (fun _ _ => rfl) (fun i hi => congrFun (xup_oth (by have := (sro_2 (i := i) (by omega)).1; omega)) 2)
theorem SJ.k12 {A : pz_P} {k : Nat} {V : Nat → Int} {X : Nat → Nat → Int} (h : SJ A k V X) : k ≤ 12 := by
  have a := h.1.di k (Nat.le_refl _)
  have b := (h.2.1 0 (Nat.zero_le _)).2
  rw [(sro_k (t := 0) (by decide)).2, if_pos (by decide)] at b
  omega
theorem SJ.zero {A : pz_P} {t : Nat} {V : Nat → Int} {X : Nat → Nat → Int} (h : SJ A (t + 1) V X) (hk : X 172 2 = ((t + 2 : Nat) : Int)) (hs : sN (srw V t) (srw V (t + 1)) pz_0) : GSt A V X := ⟨t + 1, h.k12, hk, ⟨h.1, fun q => absurd q (by omega), fun _ => hs⟩, h⟩
theorem SJ.const {A : pz_P} {t : Nat} {V : Nat → Int} {X : Nat → Nat → Int} (h : SJ A (t + 1) V X) (hk : X 172 2 = ((t + 2 : Nat) : Int)) (h0 : X (sro (t + 1)) 2 = ((0 : Nat) : Int)) : GSt A V X := by
  obtain ⟨y0, y1⟩ := h.1.1 (t + 1) (Nat.le_refl _)
  have e : sdg X (t + 1) = 0 := by
    unfold sdg
    rw [h0]
    rfl
  rw [e] at y0 y1
  exact h.zero hk (sN.const (h.1.1 t (by omega)).2 y0 (fun i hi => y1 i (by omega)))
theorem SJ.next {A : pz_P} {t rr dy : Nat} {V V3 : Nat → Int} {X X3 : Nat → Nat → Int} (h : SJ A (t + 1) V X) (fV : ∀ i, i ≤ t + 1 → srw V3 i = srw V i) (fX : ∀ i, i ≤ t + 1 → X3 (sro i) 2 = X (sro i) 2) (h3 : X3 (sro (t + 2)) 2 = (rr : Int)) (hlt : rr < dy) (hdy : X (sro (t + 1)) 2 = (dy : Int)) (hcl : rr < cL (sro (t + 2) + 3)) (h0 : srw V3 (t + 2) rr ≠ 0) (hz : ∀ i, rr < i → srw V3 (t + 2) i = 0) (hs : sN (srw V t) (srw V (t + 1)) (srw V3 (t + 2))) (hb : ∀ e, (srw V3 (t + 2) e).natAbs ≤ bdf (26 - 2 * dy)) : SJ A (t + 2) V3 X3 := by
  have k := h.cg fV fX
  have e3 : sdg X3 (t + 2) = rr := by
    unfold sdg
    rw [h3]
    rfl
  have e2 : sdg X3 (t + 1) = dy := by
    unfold sdg
    rw [fX (t + 1) (Nat.le_refl _), hdy]
    rfl
  refine ⟨k.1.next ?_ ?_ ?_ ?_, fun i hi => ?_, fun i hi e => ?_⟩
  · rw [fV t (by omega), fV (t + 1) (by omega)]
    exact hs
  · rw [e3]
    exact h0
  · rw [e3]
    exact fun i hi => hz i (by omega)
  · rw [e3, e2]
    exact hlt
  · by_cases c : i = t + 2
    · rw [c, e3, h3]
      exact ⟨by omega, hcl⟩
    · exact k.2.1 i (by omega)
  · by_cases c : i = t + 2
    · rw [c, e3, if_neg (by omega)]
      exact Nat.le_trans (hb e) (bdf_mono (by omega))
    · exact k.2.2 i (by omega) e
section MGS
variable {g h : mj_H} {n D : Nat} {V : Nat → Int} {X : Nat → Nat → Int}
theorem mR_st_loop {A0 A B : pz_P} {ma na : Nat} (hm : ma ≤ 12) (hn : na ≤ 12) (bA : ∀ e, (A e).natAbs ≤ bM) (bB : ∀ e, (B e).natAbs ≤ bM) : ∀ u t, t + u = 12 → ∀ (V1 : Nat → Int) (X1 : Nat → Nat → Int) (h1 : mj_H) (dx dy : Nat), jM g n V1 X1 h1 → RB A B ma na (pcs V1 (sro t)) (pcs V1 (sro (t + 1))) dx dy (V1 174) (V1 176) → SJ A0 (t + 1) V1 X1 → X1 (sro t) 2 = (dx : Int) → X1 (sro (t + 1)) 2 = (dy : Int) → dy + t ≤ 12 → X1 172 2 = ((t + 2 : Nat) : Int) → (∀ j, j < 14 → V1 (sro j + 1) = 0) → V1 81 = 0 → GFr V X V1 X1 → DG X1 → mj_T (D + 5) mj_m70 39 [some (.ref 172), some (.int (jn ((t + 2 : Nat) : Int)))] [] h1 (fun z => ∃ V2 X2 h2, jM g n V2 X2 h2 ∧ GSt A0 V2 X2 ∧ (∀ j, j < 14 → V2 (sro j + 1) = 0) ∧ V2 81 = 0 ∧ GFr V X V2 X2 ∧ DG X2 ∧ z = (.inl none, h2))
  | 0, t, htu, V1, X1, hh1, dx, dy, m, r, sj, ip, iq, hdt, hk, hb, h81, fr, dg => by
    have hL : cL 173 = 14 := mK_r.2.2.2.1
    have hdq : dy < cL (sro (t + 1) + 3) := by rw [(sro_k (t := t + 1) (by omega)).2]; split <;> omega
    iterate 2 refine mj_T.pl rfl rfl rfl rfl ?_
    refine mT_get m 16 cq_d172 (by decide) rfl rfl ?_
    refine mT_alen m 5 cq_d173 (by decide) rfl ?_
    refine mj_T.icmp (a := (((t + 2) : Nat) : Int)) (b := ((cL 173 : Nat) : Int)) rfl ⟨by omega, by omega⟩ ⟨by omega, by omega⟩ (fun c1 => ?_) (fun c1 => ?_)
    · simp only [jc, decide_eq_true_eq, decide_eq_false_iff_not, hL] at c1
      refine mj_T.ret rfl rfl rfl ?_
      have d0 : dy = 0 := by omega
      subst d0
      exact ⟨V1, X1, _, m, sj.const hk iq, hb, h81, fr, dg, rfl⟩
    · exfalso
      simp only [jc, decide_eq_true_eq, decide_eq_false_iff_not, hL] at c1
      omega
  | u + 1, t, htu, V1, X1, hh1, dx, dy, m, r, sj, ip, iq, hdt, hk, hb, h81, fr, dg => by
    have hL : cL 173 = 14 := mK_r.2.2.2.1
    have hdq : dy < cL (sro (t + 1) + 3) := by rw [(sro_k (t := t + 1) (by omega)).2]; split <;> omega
    iterate 2 refine mj_T.pl rfl rfl rfl rfl ?_
    refine mT_get m 16 cq_d172 (by decide) rfl rfl ?_
    refine mT_alen m 5 cq_d173 (by decide) rfl ?_
    refine mj_T.icmp (a := (((t + 2) : Nat) : Int)) (b := ((cL 173 : Nat) : Int)) rfl ⟨by omega, by omega⟩ ⟨by omega, by omega⟩ (fun c1 => ?_) (fun c1 => ?_)
    · exfalso
      simp only [jc, decide_eq_true_eq, decide_eq_false_iff_not, hL] at c1
      omega
    · simp only [jc, decide_eq_true_eq, decide_eq_false_iff_not, hL] at c1
      have ht : t + 2 < 14 := by omega
      have hL2 : cL (sro (t + 2) + 3) = 12 - t := by rw [(sro_k (t := t + 2) (by omega)).2, if_neg (by omega)]; omega
      refine mj_T.pl rfl rfl rfl rfl ?_
      refine mT_get m 16 cq_d172 (by decide) rfl rfl ?_
      iterate 2 refine mj_T.pl rfl rfl rfl rfl ?_
      refine mj_T.isub (a := (((t + 2) : Nat) : Int)) (b := 1) rfl ?_
      rw [show ((t + 2 : Nat) : Int) - 1 = ((t + 1 : Nat) : Int) by omega]
      refine mT_aald m 5 cq_d173 (by decide) rfl rfl (by omega) ⟨by omega, by omega⟩ ?_
      refine mj_T.eq (st2 := [.ref (sro (t + 1))]) ?_ rfl rfl rfl rfl
      refine mT_get (v := .int (jn ((dy : Nat) : Int))) m 13 (sro_k (t := t + 1) (by omega)).1 (by decide) rfl (congrArg (fun z : Int => some (Value.int (jn z))) (iq)) ?_
      refine mj_T.if0 (a := ((dy : Nat) : Int)) rfl ⟨by omega, by omega⟩ (fun c2 => ?_) (fun c2 => ?_)
      · simp only [jc, Bool.not_eq_true', Bool.not_eq_false', decide_eq_true_eq, decide_eq_false_iff_not] at c2
        refine mj_T.ret rfl rfl rfl ?_
        have d0 : dy = 0 := by omega
        subst d0
        exact ⟨V1, X1, _, m, sj.const hk iq, hb, h81, fr, dg, rfl⟩
      · simp only [jc, Bool.not_eq_true', Bool.not_eq_false', decide_eq_true_eq, decide_eq_false_iff_not] at c2
        iterate 2 refine mj_T.pl rfl rfl rfl rfl ?_
        refine mT_get m 16 cq_d172 (by decide) rfl rfl ?_
        iterate 2 refine mj_T.pl rfl rfl rfl rfl ?_
        refine mj_T.isub (a := (((t + 2) : Nat) : Int)) (b := 2) rfl ?_
        rw [show ((t + 2 : Nat) : Int) - 2 = ((t : Nat) : Int) by omega]
        refine mT_aald m 5 cq_d173 (by decide) rfl rfl (by omega) ⟨by omega, by omega⟩ ?_
        refine mj_T.eq (st2 := [.ref (sro t), .ref 172]) ?_ rfl rfl rfl rfl
        refine mj_T.pl rfl rfl rfl rfl ?_
        refine mT_get m 16 cq_d172 (by decide) rfl rfl ?_
        iterate 2 refine mj_T.pl rfl rfl rfl rfl ?_
        refine mj_T.isub (a := (((t + 2) : Nat) : Int)) (b := 1) rfl ?_
        rw [show ((t + 2 : Nat) : Int) - 1 = ((t + 1 : Nat) : Int) by omega]
        refine mT_aald m 5 cq_d173 (by decide) rfl rfl (by omega) ⟨by omega, by omega⟩ ?_
        refine mj_T.eq (st2 := [.ref (sro (t + 1)), .ref (sro t), .ref 172]) ?_ rfl rfl rfl rfl
        refine mj_T.pl rfl rfl rfl rfl ?_
        refine mT_get m 16 cq_d172 (by decide) rfl rfl ?_
        refine mj_T.pl rfl rfl rfl rfl ?_
        refine mT_aald m 5 cq_d173 (by decide) rfl rfl (by omega) ⟨by omega, by omega⟩ ?_
        refine mj_T.eq (st2 := [.ref (sro (t + 2)), .ref (sro (t + 1)), .ref (sro t), .ref 172]) ?_ rfl rfl rfl rfl
        have h1 : 1 ≤ dy := by omega
        have hgap : ∃ gap, dx = dy + gap := ⟨dx - dy, by have := r.1.2.2.2.1; omega⟩
        obtain ⟨gap, hgap⟩ := hgap
        subst hgap
        have g1 : dy + gap - dy = gap := by omega
        have hcap : ∀ i, i < cL (sro (t + 2) + 3) → jnl ((rdv (pcs V1 (sro t)) (pcs V1 (sro (t + 1))) (dy + gap) dy (V1 174) (V1 176)) i).natAbs ≤ cL (sro (t + 2) + 4 + 2 * i + 1) := fun i hi => by
          rw [mK_z.2.2.2.2.2.2.1 (t + 2) (by omega) i (by rw [if_neg (by omega)]; omega), if_neg (by omega)]
          exact r.rcap hm hn bA bB h1 i (by omega)
        have hlq := r.rlq h1
        have hk60 := r.rk60 bA bB hm hn h1
        have hfit := r.fit h1
        rw [g1] at hlq hk60 hfit
        refine mj_T.call rfl rfl (Nat.le_of_ble_eq_true rfl) (Nat.le_of_ble_eq_true rfl) (mV_of m 16 cq_d172 (by decide) rfl (by decide) rfl _) rfl (mj_Ok.up (by omega) (mR_next (D := D) (gap := gap) (dy := dy) (al := bdf (25 - 2 * (dy + gap))) (be := bdf (26 - 2 * (dy + gap))) m ((sro_k (t := t) (by omega)).1) ((sro_k (t := t + 1) (by omega)).1) ((sro_k (t := t + 2) (by omega)).1) (sro_2 (by omega)).1 (sro_2 (by omega)).1 (sro_2 (by omega)).1 (((sro_2 (i := t + 1) (by omega)).2.2 (t + 2) (by omega)).1 (by omega)) ip iq hdq (by have := r.2.1; omega) (hb t (by omega)) h81 r.2.2.1 r.2.2.2.1 (bdf_pos _) hfit (jB_15 (m := 70) (Nat.lt_of_le_of_lt (bdf_mono (show 26 - 2 * (dy + gap) ≤ 26 by omega)) (by decide +kernel)) (by decide)) r.r174.1 r.r174.2 hcap hlq (r.rl60 h1) hk60)) (fun v g3 hq => ?_) (fun i g3 hq => ?_)
        rotate_left
        · obtain ⟨_, _, _, _, _, _, _, _, _, _, _, _, _, hq⟩ := hq; cases hq
        obtain ⟨V3, X3, _, m4, hpm, hs1, hs2, hX3, e174, e176, f_V, fX, f80, hq⟩ := hq
        cases hq
        have s20 := (sro_2 (i := t + 2) (by omega))
        have s12 : sro (t + 1) ≠ sro (t + 2) := ((sro_2 (i := t + 1) (by omega)).2.2 (t + 2) (by omega)).1 (by omega)
        have hr240 := s20.2.1 (by omega)
        have hfq := mP_far ((sro_k (t := t + 1) (by omega)).1) ((sro_k (t := t + 2) (by omega)).1) s12
        have hps := mP_pos ((sro_k (t := t + 2) (by omega)).1)
        have hps2 := mP_pos ((sro_k (t := t + 1) (by omega)).1)
        have s11 := (sro_2 (i := t + 1) (by omega)).1
        have eq_3 : pcs V3 (sro (t + 1)) = pcs V1 (sro (t + 1)) := funext fun e => by
          unfold pcs
          by_cases c : e < cL (sro (t + 1) + 3)
          · rw [if_pos c, if_pos c, f_V _ (by omega) (by omega) (by omega) (by omega) (by omega) (by omega) (by omega)]
          · rw [if_neg c, if_neg c]
        have fS : ∀ i, i ≤ t + 1 → sro i ≠ sro (t + 2) := fun i hi => ((sro_2 (i := i) (by omega)).2.2 (t + 2) (by omega)).1 (by omega)
        have fP : ∀ i, i ≤ t + 1 → srw V3 i = srw V1 i := fun i hi => funext fun e => by
          have s1i := (sro_2 (i := i) (by omega)).1
          have hfi := mP_far ((sro_k (t := i) (by omega)).1) ((sro_k (t := t + 2) (by omega)).1) (fS i hi)
          have hpi := mP_pos ((sro_k (t := i) (by omega)).1)
          show pcs V3 (sro i) e = pcs V1 (sro i) e
          unfold pcs
          by_cases c : e < cL (sro i + 3)
          · rw [if_pos c, if_pos c, f_V _ (by omega) (by omega) (by omega) (by omega) (by omega) (by omega) (by omega)]
          · rw [if_neg c, if_neg c]
        have fX2 : ∀ i, i ≤ t + 1 → X3 (sro i) 2 = X1 (sro i) 2 := fun i hi => congrFun (fX (sro i) (by have := (sro_2 (i := i) (by omega)).1; omega) (fS i hi)) 2
        have hb3 : ∀ j, j < 14 → V3 (sro j + 1) = 0 := fun j hj => by
          have q1 := (sro_2 hj).1
          have q2 := ((sro_2 hj).2.2 (t + 2) (by omega)).2 (by omega)
          have q3 := mP_pos (sro_k hj).1
          have q4 := (mK_p (sro_k hj).1).2.2.1
          rw [f_V _ (by omega) (by omega) (by omega) (by omega) (by omega) (by omega) (by omega)]
          exact hb j hj
        have h813 : V3 81 = 0 := (f_V 81 (by decide) (by decide) (by decide) (by decide) (by decide) (by decide) (by omega)).trans h81
        have fr3 : (∀ a, a ≠ 80 → a ≠ sro (t + 2) → X3 a = X1 a) → GFr V X V3 X3 := fun fX => by
          refine ⟨fun x x1 x2 x3 x4 x5 x6 x7 => ?_, fun a a1 a2 a3 => ?_⟩
          · rw [f_V x (by omega) x2 x3 x4 x5 x6 (by omega)]
            exact fr.1 x x1 x2 x3 x4 x5 x6 x7
          · rw [fX a a1 (by omega)]
            exact fr.2 a a1 a2 a3
        have dg3 : DG X3 := fun a ka => by
          by_cases c : a = sro (t + 2)
          · subst c
            have := fdg_le (rdv (pcs V1 (sro t)) (pcs V1 (sro (t + 1))) (dy + gap) dy (V1 174) (V1 176)) (cL (sro (t + 2) + 3))
            rw [hX3]
            omega
          · by_cases d : a = 80
            · subst d
              have p83 : cL (80 + 3) = 13 := mK_z.2.2.1
              omega
            · rw [fX a d c]
              exact dg a ka
        have hz0 : fdg (rdv (pcs V1 (sro t)) (pcs V1 (sro (t + 1))) (dy + gap) dy (V1 174) (V1 176)) (cL (sro (t + 2) + 3)) = 0 → ∀ e, (rdv (pcs V1 (sro t)) (pcs V1 (sro (t + 1))) (dy + gap) dy (V1 174) (V1 176)) e = 0 := fun q e => by
          by_cases c : e < cL (sro (t + 2) + 3)
          · exact fdg_zero (rdv (pcs V1 (sro t)) (pcs V1 (sro (t + 1))) (dy + gap) dy (V1 174) (V1 176)) _ e (by omega) c
          · exact r.rlow e (by omega)
        refine mj_T.eq (pc2 := 88) (st2 := []) ?_ rfl rfl rfl rfl
        refine mj_T.pl rfl rfl rfl rfl ?_
        refine mT_get m4 16 cq_d172 (by decide) rfl rfl ?_
        refine mj_T.pl rfl rfl rfl rfl ?_
        refine mT_aald m4 5 cq_d173 (by decide) rfl rfl (by omega) ⟨by omega, by omega⟩ ?_
        refine mj_T.eq (st2 := [.ref (sro (t + 2))]) ?_ rfl rfl rfl rfl
        refine mT_get (v := .int (jn ((fdg (rdv (pcs V1 (sro t)) (pcs V1 (sro (t + 1))) (dy + gap) dy (V1 174) (V1 176)) (cL (sro (t + 2) + 3)) : Int) - 1))) m4 13 (sro_k (t := t + 2) (by omega)).1 (by decide) rfl (congrArg (fun z : Int => some (Value.int (jn z))) (hX3)) ?_
        refine mj_T.if0 (a := ((fdg (rdv (pcs V1 (sro t)) (pcs V1 (sro (t + 1))) (dy + gap) dy (V1 174) (V1 176)) (cL (sro (t + 2) + 3)) : Int) - 1)) rfl ⟨by have := fdg_le (rdv (pcs V1 (sro t)) (pcs V1 (sro (t + 1))) (dy + gap) dy (V1 174) (V1 176)) (cL (sro (t + 2) + 3)); omega, by have := fdg_le (rdv (pcs V1 (sro t)) (pcs V1 (sro (t + 1))) (dy + gap) dy (V1 174) (V1 176)) (cL (sro (t + 2) + 3)); omega⟩ (fun c5 => ?_) (fun c5 => ?_)
        · simp only [jc, Bool.not_eq_true', Bool.not_eq_false', decide_eq_true_eq, decide_eq_false_iff_not] at c5
          iterate 3 refine mj_T.pl rfl rfl rfl rfl ?_
          refine mj_T.iadd (a := (((t + 2) : Nat) : Int)) (b := 1) rfl ?_
          refine mT_put (v := ((((t + 2) : Nat) : Int) + 1)) m4 16 cq_d172 (by decide) rfl (by simp [jMf, xup]) (by simp [jMf]) rfl (fun h6 m7 => ?_)
          refine mj_T.iinc rfl rfl ?_
          rw [show (((t + 2) : Nat) : Int) + 1 = (((t + 2) + 1 : Nat) : Int) by omega]
          refine mj_T.eq (loc2 := [some (.ref 172), some (.int (jn ((((t + 2) + 1) : Nat) : Int)))]) ?_ rfl rfl rfl rfl
          refine mj_T.pl rfl rfl rfl rfl ?_
          have hfl := fdg_le (rdv (pcs V1 (sro t)) (pcs V1 (sro (t + 1))) (dy + gap) dy (V1 174) (V1 176)) (cL (sro (t + 2) + 3))
          have hfn := fdg_ne (rdv (pcs V1 (sro t)) (pcs V1 (sro (t + 1))) (dy + gap) dy (V1 174) (V1 176)) (cL (sro (t + 2) + 3)) (by omega)
          have hlt : fdg (rdv (pcs V1 (sro t)) (pcs V1 (sro (t + 1))) (dy + gap) dy (V1 174) (V1 176)) (cL (sro (t + 2) + 3)) - 1 < dy := by
            rcases Nat.lt_or_ge (fdg (rdv (pcs V1 (sro t)) (pcs V1 (sro (t + 1))) (dy + gap) dy (V1 174) (V1 176)) (cL (sro (t + 2) + 3)) - 1) dy with q | q
            · exact q
            · exact absurd (r.rlow _ q) hfn
          have hpF : pm (pcs V3 (sro (t + 2))) (rdv (pcs V1 (sro t)) (pcs V1 (sro (t + 1))) (dy + gap) dy (V1 174) (V1 176)) := by
            have hl : ∀ i, ¬ i < cL (sro (t + 2) + 3) → (rdv (pcs V1 (sro t)) (pcs V1 (sro (t + 1))) (dy + gap) dy (V1 174) (V1 176)) i = 0 := fun i hi => r.rlow i (by omega)
            rcases hpm with q | q
            · refine Or.inl fun i => ?_
              by_cases c : i < cL (sro (t + 2) + 3)
              · rw [pcs_in c, q i c]
              · rw [pcs_out c, hl i c]
            · refine Or.inr fun i => ?_
              by_cases c : i < cL (sro (t + 2) + 3)
              · rw [pcs_in c, q i c]
              · rw [pcs_out c, hl i c]
                rfl
          have hFz : ∀ i, fdg (rdv (pcs V1 (sro t)) (pcs V1 (sro (t + 1))) (dy + gap) dy (V1 174) (V1 176)) (cL (sro (t + 2) + 3)) - 1 < i → pcs V3 (sro (t + 2)) i = 0 := fun i hi => by
            have q0 : (rdv (pcs V1 (sro t)) (pcs V1 (sro (t + 1))) (dy + gap) dy (V1 174) (V1 176)) i = 0 := by
              by_cases c : i < cL (sro (t + 2) + 3)
              · exact fdg_zero (rdv (pcs V1 (sro t)) (pcs V1 (sro (t + 1))) (dy + gap) dy (V1 174) (V1 176)) _ i (by omega) c
              · exact r.rlow i (by omega)
            rcases hpF with q | q
            · rw [q i, q0]
            · rw [q i, q0]
              rfl
          have hFn : pcs V3 (sro (t + 2)) (fdg (rdv (pcs V1 (sro t)) (pcs V1 (sro (t + 1))) (dy + gap) dy (V1 174) (V1 176)) (cL (sro (t + 2) + 3)) - 1) ≠ 0 := by
            rcases hpF with q | q
            · rw [q]
              exact hfn
            · rw [q]
              omega
          have r3 : RB A B ma na (pcs V3 (sro (t + 1))) (pcs V3 (sro (t + 2))) dy (fdg (rdv (pcs V1 (sro t)) (pcs V1 (sro (t + 1))) (dy + gap) dy (V1 174) (V1 176)) (cL (sro (t + 2) + 3)) - 1) (V3 174) (V3 176) := by
            rw [eq_3, e174, e176]
            exact r.next hm hn bA bB h1 hpF hlt hFz hFn
          have hsn : sN (srw V1 t) (srw V1 (t + 1)) (srw V3 (t + 2)) := r.1.sN h1 (fun c i => by
            by_cases ci : i < cL (sro (t + 2) + 3)
            · show pcs V3 (sro (t + 2)) i = _
              rw [pcs_in ci, hs1 c i ci]
            · show pcs V3 (sro (t + 2)) i = _
              rw [pcs_out ci, r.rlow i (by omega)]
              rfl) (fun c i => by
            by_cases ci : i < cL (sro (t + 2) + 3)
            · show pcs V3 (sro (t + 2)) i = _
              rw [pcs_in ci, hs2 c i ci]
            · show pcs V3 (sro (t + 2)) i = _
              rw [pcs_out ci, r.rlow i (by omega)])
          have hbF : ∀ e, (srw V3 (t + 2) e).natAbs ≤ bdf (26 - 2 * dy) := fun e => by
            have q0 := r.div hm hn bA bB h1 e
            rcases hpF with q | q
            · show (pcs V3 (sro (t + 2)) e).natAbs ≤ _
              rw [q e]
              exact q0
            · show (pcs V3 (sro (t + 2)) e).natAbs ≤ _
              rw [q e, Int.natAbs_neg]
              exact q0
          have sj3 : SJ A0 (t + 2) V3 X3 := sj.next fP fX2 (rr := fdg (rdv (pcs V1 (sro t)) (pcs V1 (sro (t + 1))) (dy + gap) dy (V1 174) (V1 176)) (cL (sro (t + 2) + 3)) - 1) (dy := dy) (hX3.trans (by omega)) hlt iq (by omega) hFn hFz hsn hbF
          refine mR_st_loop hm hn bA bB u (t + 1) (by omega) V3 _ _ _ _ m7 r3 (sj3.x172 (by omega)) ?_ ?_ (by omega) ?_ hb3 h813 ?_ (dg3.oth (by decide +kernel))
          · exact (congrFun ((xup_oth (by omega)).trans (fX (sro (t + 1)) (by omega) s12)) 2).trans iq
          · exact (congrFun (xup_oth (b := sro (t + 2)) (by omega)) 2).trans (hX3.trans (by omega))
          · rw [xup_at]
            omega
          · have f4 := fr3 fX
            exact ⟨f4.1, fun a a1 a2 a3 => (xup_oth a2).trans (f4.2 a a1 a2 a3)⟩
        · simp only [jc, Bool.not_eq_true', Bool.not_eq_false', decide_eq_true_eq, decide_eq_false_iff_not] at c5
          have hz9 : ∀ i, (rdv (pcs V1 (sro t)) (pcs V1 (sro (t + 1))) (dy + gap) dy (V1 174) (V1 176)) i = 0 := fun i => hz0 (by omega) i
          have hsn : sN (srw V1 t) (srw V1 (t + 1)) pz_0 := r.1.sN h1 (fun _ i => by
            rw [hz9 i]
            rfl) (fun _ i => by
            rw [hz9 i]
            rfl)
          refine mj_T.ret rfl rfl rfl ⟨V3, X3, _, m4, (sj.cg fP fX2).zero ((congrFun (fX 172 (by decide) (by omega)) 2).trans hk) ?_, hb3, h813, fr3 fX, dg3, rfl⟩
          rw [fP t (by omega), fP (t + 1) (by omega)]
          exact hsn
theorem mR_goSt (m : jM g n V X h) (dg : DG X) {A0 : pz_P} (sj0 : SJ A0 1 V X) {ma na : Nat} (hX0 : X 180 2 = (ma : Int)) (hA : ∀ i, ma < i → pcs V 180 i = 0) (hm : ma ≤ 12) (bA : ∀ e, (pcs V 180 e).natAbs ≤ bM) (hb : ∀ j, j < 14 → V (sro j + 1) = 0) (h81 : V 81 = 0) (hX1 : X 210 2 = (na : Int)) (hB : ∀ i, na < i → pcs V 210 i = 0) (hB0 : pcs V 210 na ≠ 0) (hn : na ≤ 12) (hmn : na ≤ ma) (bB : ∀ e, (pcs V 210 e).natAbs ≤ bM) : mj_Ok (D + 6) 70 [.ref 172] h (fun z => ∃ V2 X2 h2, jM g n V2 X2 h2 ∧ GSt A0 V2 X2 ∧ (∀ j, j < 14 → V2 (sro j + 1) = 0) ∧ V2 81 = 0 ∧ GFr V X V2 X2 ∧ DG X2 ∧ z = (.inl none, h2)) := by
  have hL : cL 173 = 14 := mK_r.2.2.2.1
  have h175 : 3 ≤ cL (174 + 1) := by decide +kernel
  have h177 : 3 ≤ cL (176 + 1) := by decide +kernel
  refine mj_Ok.of (M := mj_m70) rfl rfl rfl ?_
  iterate 2 refine mj_T.pl rfl rfl rfl rfl ?_
  refine mT_get m 16 cq_d172 (by decide) rfl rfl ?_
  refine mj_T.pl rfl rfl rfl rfl ?_
  refine mT_aald m 5 cq_d173 (by decide) rfl rfl (by omega) ⟨by omega, by omega⟩ ?_
  refine mj_T.eq (st2 := [.ref 210, .ref 172]) ?_ rfl rfl rfl rfl
  refine mT_get (v := .int (jn ((na : Nat) : Int))) m 13 cq_d210 (by decide) rfl (congrArg (fun z : Int => some (Value.int (jn z))) ((by first | exact hX1 | exact (congrFun (xup_oth (by decide)) 2).trans hX1))) ?_
  refine mj_T.if0 (a := ((na : Nat) : Int)) rfl ⟨by omega, by omega⟩ (fun c1 => ?_) (fun c1 => ?_)
  · simp only [jc, Bool.not_eq_true', Bool.not_eq_false', decide_eq_true_eq, decide_eq_false_iff_not] at c1
    refine mj_T.pl rfl rfl rfl rfl ?_
    refine mT_put (v := 2) m 16 cq_d172 (by decide) rfl (by simp [jMf, xup]) (by simp [jMf]) rfl (fun h2 m3 => ?_)
    refine mj_T.pl rfl rfl rfl rfl ?_
    refine mT_get m3 16 cq_d172 (by decide) rfl rfl ?_
    refine jT.lc 1 rfl rfl ?_
    refine mj_T.call rfl rfl (Nat.le_of_ble_eq_true rfl) (Nat.le_of_ble_eq_true rfl) (mV_of m3 18 cq_d174 (by decide) rfl (by decide) rfl _) rfl (mj_Ok.up (by omega) (mW_setLong (D := 0) (v := ((1 : Nat) : Int)) m3 cq_d174 ⟨by decide, by decide⟩ (Nat.le_trans (jnl_R (v := 1) (by decide)) h175))) (fun v g4 hq => ?_) (fun i g4 hq => ?_)
    rotate_left
    · obtain ⟨_, _, hq⟩ := hq; cases hq
    obtain ⟨_, m5, hq⟩ := hq
    cases hq
    have m5 := m5.to (V' := (jvu V 174 ((1 : Nat) : Int))) (by rfl) rfl
    refine mj_T.eq (pc2 := 29) (st2 := []) ?_ rfl rfl rfl rfl
    refine mj_T.pl rfl rfl rfl rfl ?_
    refine mT_get m5 16 cq_d172 (by decide) rfl rfl ?_
    refine jT.lc 1 rfl rfl ?_
    refine mj_T.call rfl rfl (Nat.le_of_ble_eq_true rfl) (Nat.le_of_ble_eq_true rfl) (mV_of m5 18 cq_d176 (by decide) rfl (by decide) rfl _) rfl (mj_Ok.up (by omega) (mW_setLong (D := 0) (v := ((1 : Nat) : Int)) m5 cq_d176 ⟨by decide, by decide⟩ (Nat.le_trans (jnl_R (v := 1) (by decide)) h177))) (fun v g6 hq => ?_) (fun i g6 hq => ?_)
    rotate_left
    · obtain ⟨_, _, hq⟩ := hq; cases hq
    obtain ⟨_, m7, hq⟩ := hq
    cases hq
    have m7 := m7.to (V' := (jvu (jvu V 174 ((1 : Nat) : Int)) 176 ((1 : Nat) : Int))) (by rfl) rfl
    refine mj_T.eq (pc2 := 37) (st2 := []) ?_ rfl rfl rfl rfl
    refine mj_T.pl rfl rfl rfl rfl ?_
    refine mj_T.pl (loc' := [some (.ref 172), some (.int (jn 2))]) rfl rfl rfl rfl ?_
    obtain ⟨V1, hV1⟩ : ∃ V1, V1 = (jvu (jvu V 174 ((1 : Nat) : Int)) 176 ((1 : Nat) : Int)) := ⟨_, rfl⟩
    rw [← hV1] at m7
    have p0 : pcs V1 180 = pcs V 180 := by rw [hV1, pcs_jvu (by decide), pcs_jvu (by decide)]
    have p1 : pcs V1 210 = pcs V 210 := by rw [hV1, pcs_jvu (by decide), pcs_jvu (by decide)]
    have o1 : V1 174 = 1 := by rw [hV1, jvu_ne _ _ _ (by decide), jvu_at]; rfl
    have o2 : V1 176 = 1 := by rw [hV1, jvu_at]; rfl
    have oo : ∀ x, x ≠ 174 → x ≠ 176 → V1 x = V x := fun x x1 x2 => by rw [hV1, jvu_ne _ _ _ x2, jvu_ne _ _ _ x1]
    have hb1 : ∀ j, j < 14 → V1 (sro j + 1) = 0 := fun j hj => by
      have := (sro_2 hj).1
      rw [oo _ (by omega) (by omega)]
      exact hb j hj
    have h811 : V1 81 = 0 := (oo 81 (by decide) (by decide)).trans h81
    have fr1 : GFr V X V1 (xup X 172 2 2) := ⟨fun x _ _ _ _ x5 x6 _ => oo x x5 x6, fun a _ a2 _ => xup_oth a2⟩
    refine mj_T.eq (loc2 := [some (.ref 172), some (.int (jn ((0 + 2 : Nat) : Int)))]) ?_ rfl rfl rfl rfl
    refine mR_st_loop (D := D) hm hn bA bB 12 0 (by omega) V1 _ _ ma na m7 ?_ ?_ ((congrFun (xup_oth (by decide)) 2).trans hX0) ((congrFun (xup_oth (by decide)) 2).trans hX1) (by omega) (xup_at _ _ _ _) hb1 h811 fr1 (dg.oth (by decide +kernel))
    · show RB (pcs V 180) (pcs V 210) ma na (pcs V1 180) (pcs V1 210) ma na (V1 174) (V1 176)
      rw [p0, p1, o1, o2]
      exact RB.start hA hB hB0 hmn hm bA bB
    · refine SJ.x172 (by decide) (sj0.cg (fun i hi => ?_) (fun _ _ => rfl))
      rcases Nat.lt_or_ge i 1 with c | c
      · obtain rfl : i = 0 := by omega
        exact p0
      · obtain rfl : i = 1 := by omega
        exact p1
  · exfalso
    simp only [jc, Bool.not_eq_true', Bool.not_eq_false', decide_eq_true_eq, decide_eq_false_iff_not] at c1
    omega
theorem mR_goSt0 (m : jM g n V X h) (dg : DG X) {A0 : pz_P} (sj0 : SJ A0 0 V X) (hd0 : ∀ i, drv A0 i = 0) {ma : Nat} (hX0 : X 180 2 = (ma : Int)) (hA : ∀ i, ma < i → pcs V 180 i = 0) (hm : ma ≤ 12) (bA : ∀ e, (pcs V 180 e).natAbs ≤ bM) (hb : ∀ j, j < 14 → V (sro j + 1) = 0) (h81 : V 81 = 0) (hX1 : X 210 2 = -1) (hB : ∀ i, pcs V 210 i = 0) (hA0 : pcs V 180 ma ≠ 0) : mj_Ok (D + 6) 70 [.ref 172] h (fun z => ∃ V2 X2 h2, jM g n V2 X2 h2 ∧ GSt A0 V2 X2 ∧ (∀ j, j < 14 → V2 (sro j + 1) = 0) ∧ V2 81 = 0 ∧ GFr V X V2 X2 ∧ DG X2 ∧ z = (.inl none, h2)) := by
  have hmc : ma < cL (sro 0 + 3) := by rw [(sro_k (t := 0) (by decide)).2]; split <;> omega
  have hL : cL 173 = 14 := mK_r.2.2.2.1
  have h175 : 3 ≤ cL (174 + 1) := by decide +kernel
  have h177 : 3 ≤ cL (176 + 1) := by decide +kernel
  refine mj_Ok.of (M := mj_m70) rfl rfl rfl ?_
  iterate 2 refine mj_T.pl rfl rfl rfl rfl ?_
  refine mT_get m 16 cq_d172 (by decide) rfl rfl ?_
  refine mj_T.pl rfl rfl rfl rfl ?_
  refine mT_aald m 5 cq_d173 (by decide) rfl rfl (by omega) ⟨by omega, by omega⟩ ?_
  refine mj_T.eq (st2 := [.ref 210, .ref 172]) ?_ rfl rfl rfl rfl
  refine mT_get (v := .int (jn (-1))) m 13 cq_d210 (by decide) rfl (congrArg (fun z : Int => some (Value.int (jn z))) ((by first | exact hX1 | exact (congrFun (xup_oth (by decide)) 2).trans hX1))) ?_
  refine mj_T.if0 (a := (-1)) rfl ⟨by omega, by omega⟩ (fun c1 => ?_) (fun c1 => ?_)
  · exfalso
    simp only [jc, Bool.not_eq_true', Bool.not_eq_false', decide_eq_true_eq, decide_eq_false_iff_not] at c1
    omega
  · simp only [jc, Bool.not_eq_true', Bool.not_eq_false', decide_eq_true_eq, decide_eq_false_iff_not] at c1
    iterate 2 refine mj_T.pl rfl rfl rfl rfl ?_
    refine mT_put (v := 1) m 16 cq_d172 (by decide) rfl (by simp [jMf, xup]) (by simp [jMf]) rfl (fun h2 m3 => ?_)
    refine mj_T.pl rfl rfl rfl rfl ?_
    refine mT_get m3 16 cq_d172 (by decide) rfl rfl ?_
    refine jT.lc 1 rfl rfl ?_
    refine mj_T.call rfl rfl (Nat.le_of_ble_eq_true rfl) (Nat.le_of_ble_eq_true rfl) (mV_of m3 18 cq_d174 (by decide) rfl (by decide) rfl _) rfl (mj_Ok.up (by omega) (mW_setLong (D := 0) (v := ((1 : Nat) : Int)) m3 cq_d174 ⟨by decide, by decide⟩ (Nat.le_trans (jnl_R (v := 1) (by decide)) h175))) (fun v g4 hq => ?_) (fun i g4 hq => ?_)
    rotate_left
    · obtain ⟨_, _, hq⟩ := hq; cases hq
    obtain ⟨_, m5, hq⟩ := hq
    cases hq
    have m5 := m5.to (V' := (jvu V 174 ((1 : Nat) : Int))) (by rfl) rfl
    refine mj_T.eq (pc2 := 29) (st2 := []) ?_ rfl rfl rfl rfl
    refine mj_T.pl rfl rfl rfl rfl ?_
    refine mT_get m5 16 cq_d172 (by decide) rfl rfl ?_
    refine jT.lc 1 rfl rfl ?_
    refine mj_T.call rfl rfl (Nat.le_of_ble_eq_true rfl) (Nat.le_of_ble_eq_true rfl) (mV_of m5 18 cq_d176 (by decide) rfl (by decide) rfl _) rfl (mj_Ok.up (by omega) (mW_setLong (D := 0) (v := ((1 : Nat) : Int)) m5 cq_d176 ⟨by decide, by decide⟩ (Nat.le_trans (jnl_R (v := 1) (by decide)) h177))) (fun v g6 hq => ?_) (fun i g6 hq => ?_)
    rotate_left
    · obtain ⟨_, _, hq⟩ := hq; cases hq
    obtain ⟨_, m7, hq⟩ := hq
    cases hq
    have m7 := m7.to (V' := (jvu (jvu V 174 ((1 : Nat) : Int)) 176 ((1 : Nat) : Int))) (by rfl) rfl
    refine mj_T.eq (pc2 := 37) (st2 := []) ?_ rfl rfl rfl rfl
    refine mj_T.pl rfl rfl rfl rfl ?_
    refine mj_T.pl (loc' := [some (.ref 172), some (.int (jn 2))]) rfl rfl rfl rfl ?_
    obtain ⟨V1, hV1⟩ : ∃ V1, V1 = (jvu (jvu V 174 ((1 : Nat) : Int)) 176 ((1 : Nat) : Int)) := ⟨_, rfl⟩
    rw [← hV1] at m7
    have p0 : pcs V1 180 = pcs V 180 := by rw [hV1, pcs_jvu (by decide), pcs_jvu (by decide)]
    have p1 : pcs V1 210 = pcs V 210 := by rw [hV1, pcs_jvu (by decide), pcs_jvu (by decide)]
    have o1 : V1 174 = 1 := by rw [hV1, jvu_ne _ _ _ (by decide), jvu_at]; rfl
    have o2 : V1 176 = 1 := by rw [hV1, jvu_at]; rfl
    have oo : ∀ x, x ≠ 174 → x ≠ 176 → V1 x = V x := fun x x1 x2 => by rw [hV1, jvu_ne _ _ _ x2, jvu_ne _ _ _ x1]
    have hb1 : ∀ j, j < 14 → V1 (sro j + 1) = 0 := fun j hj => by
      have := (sro_2 hj).1
      rw [oo _ (by omega) (by omega)]
      exact hb j hj
    have h811 : V1 81 = 0 := (oo 81 (by decide) (by decide)).trans h81
    have fr1 : GFr V X V1 (xup X 172 2 1) := ⟨fun x _ _ _ _ x5 x6 _ => oo x x5 x6, fun a _ a2 _ => xup_oth a2⟩
    iterate 2 refine mj_T.pl rfl rfl rfl rfl ?_
    refine mT_get m7 16 cq_d172 (by decide) rfl rfl ?_
    refine mT_alen m7 5 cq_d173 (by decide) rfl ?_
    refine mj_T.icmp (a := 2) (b := ((cL 173 : Nat) : Int)) rfl ⟨by omega, by omega⟩ ⟨by omega, by omega⟩ (fun c8 => ?_) (fun c8 => ?_)
    · exfalso
      simp only [jc, decide_eq_true_eq, decide_eq_false_iff_not, hL] at c8
      omega
    · simp only [jc, decide_eq_true_eq, decide_eq_false_iff_not, hL] at c8
      refine mj_T.pl rfl rfl rfl rfl ?_
      refine mT_get m7 16 cq_d172 (by decide) rfl rfl ?_
      iterate 2 refine mj_T.pl rfl rfl rfl rfl ?_
      refine mj_T.isub (a := 2) (b := 1) rfl ?_
      rw [show (2 : Int) - 1 = ((1 : Nat) : Int) by decide]
      refine mT_aald m7 5 cq_d173 (by decide) rfl rfl (by omega) ⟨by omega, by omega⟩ ?_
      refine mj_T.eq (st2 := [.ref 210]) ?_ rfl rfl rfl rfl
      refine mT_get (v := .int (jn (-1))) m7 13 cq_d210 (by decide) rfl (congrArg (fun z : Int => some (Value.int (jn z))) ((by first | exact hX1 | exact (congrFun (xup_oth (by decide)) 2).trans hX1))) ?_
      refine mj_T.if0 (a := (-1)) rfl ⟨by omega, by omega⟩ (fun c9 => ?_) (fun c9 => ?_)
      · simp only [jc, Bool.not_eq_true', Bool.not_eq_false', decide_eq_true_eq, decide_eq_false_iff_not] at c9
        have sj1 : SJ A0 0 V1 (xup X 172 2 1) := SJ.x172 (by decide) (sj0.cg (fun i hi => by
          obtain rfl : i = 0 := by omega
          exact p0) (fun _ _ => rfl))
        exact mj_T.ret rfl rfl rfl ⟨V1, _, _, m7, ⟨0, by decide, xup_at _ _ _ _, ⟨sj1.1, fun _ => hd0, fun q => absurd q (by decide)⟩, sj1⟩, hb1, h811, fr1, dg.oth (by decide +kernel), rfl⟩
      · exfalso
        simp only [jc, Bool.not_eq_true', Bool.not_eq_false', decide_eq_true_eq, decide_eq_false_iff_not] at c9
        omega
end MGS
/-! Sturm.begin and changesFar of the class, exactly; sturmLength, realRoots. -/
/-- a row divided by its content -/
def ppc (f : Nat → Int) : pz_P := fun i => if i < 13 then (f i).tdiv (cgd f 13 : Int) else 0
theorem ppc_ok {f : Nat → Int} {m : Nat} (hf : sml f) (hm : fdg f 13 = m + 1) : 0 < (cgd f 13 : Int) ∧ (cgd f 13 : Int) ≤ 999999999999999999 ∧ (∀ i, i < 13 → f i = (cgd f 13 : Int) * ppc f i) ∧ pz_lt (ppc f) (m + 1) ∧ ppc f m ≠ 0 ∧ (∀ i, (ppc f i).natAbs ≤ 999999999999999999) ∧ pM (ppc f) (rw13 f) := by
  have hle := fdg_le f 13
  have hne := fdg_ne f 13 (by omega)
  rw [hm, Nat.add_sub_cancel] at hne
  have hc0 : cgd f 13 ≠ 0 := fun q => hne (cgd_0 q m (by omega))
  have hcb : cgd f 13 ≤ 999999999999999999 := cgd_bd 13 (fun i hi => hf i hi)
  have hdv : ∀ i, i < 13 → (cgd f 13 : Int) ∣ f i := fun i hi => by
    refine Int.natAbs_dvd_natAbs.mp ?_
    rw [Int.natAbs_natCast]
    exact cgd_dvd f 13 i hi
  have he : ∀ i, i < 13 → f i = (cgd f 13 : Int) * ppc f i := fun i hi => by
    unfold ppc
    rw [if_pos hi]
    exact (Int.mul_tdiv_cancel' (hdv i hi)).symm
  refine ⟨by omega, by omega, he, fun i hi => ?_, fun q => ?_, fun i => ?_, ?_⟩
  · unfold ppc
    by_cases c : i < 13
    · rw [if_pos c, fdg_zero f 13 i (by omega) c, Int.zero_tdiv]
    · rw [if_neg c]
  · have e1 := he m (by omega)
    rw [q, Int.mul_zero] at e1
    exact hne e1
  · unfold ppc
    split
    · rename_i c
      exact Nat.le_trans (Int.natAbs_tdiv_le_natAbs _ _) (hf i c)
    · exact Nat.zero_le _
  · refine ⟨(cgd f 13 : Int), 1, by omega, by decide, ?_⟩
    rw [pz_sc_one]
    funext i
    show (cgd f 13 : Int) * ppc f i = rw13 f i
    unfold rw13
    by_cases c : i < 13
    · rw [if_pos c, he i c]
    · rw [if_neg c]
      unfold ppc
      rw [if_neg c, Int.mul_zero]
theorem SJ.mk0 {A : pz_P} {V : Nat → Int} {X : Nat → Nat → Int} {mm : Nat} (e0 : X (sro 0) 2 = (mm : Int)) (hm : mm ≤ 12) (h0 : srw V 0 mm ≠ 0) (hz : ∀ i, mm < i → srw V 0 i = 0) (hp : pM (srw V 0) A) (hb : ∀ e, (srw V 0 e).natAbs ≤ bM) : SJ A 0 V X := by
  have e : sdg X 0 = mm := by
    unfold sdg
    rw [e0]
    rfl
  refine ⟨⟨fun i hi => ?_, fun i hi => absurd hi (by omega), hp, fun q => absurd q (by omega), fun i hi => absurd hi (by omega)⟩, fun i hi => ?_, fun i hi w => ?_⟩
  · obtain rfl : i = 0 := by omega
    rw [e]
    exact ⟨h0, fun j hj => hz j (by omega)⟩
  · obtain rfl : i = 0 := by omega
    rw [e, e0, (sro_k (t := 0) (by decide)).2, if_pos (by decide)]
    exact ⟨by omega, by omega⟩
  · obtain rfl : i = 0 := by omega
    rw [if_pos (by decide)]
    exact hb w
theorem SJ.mk1 {A : pz_P} {V : Nat → Int} {X : Nat → Nat → Int} {na : Nat} (j : SJ A 0 V X) (e1 : X (sro 1) 2 = (na : Int)) (hn : na < sdg X 0) (h0 : srw V 1 na ≠ 0) (hz : ∀ i, na < i → srw V 1 i = 0) (hp : pM (srw V 1) (drv A)) (hb : ∀ e, (srw V 1 e).natAbs ≤ bM) : SJ A 1 V X := by
  have e : sdg X 1 = na := by
    unfold sdg
    rw [e1]
    rfl
  have c := (j.2.1 0 (Nat.le_refl _)).2
  rw [(sro_k (t := 0) (by decide)).2, if_pos (by decide)] at c
  refine ⟨⟨fun i hi => ?_, fun i hi => ?_, j.1.2.2.1, fun _ => hp, fun i hi => absurd hi (by omega)⟩, fun i hi => ?_, fun i hi w => ?_⟩
  · rcases Nat.lt_or_ge i 1 with c1 | c1
    · exact j.1.1 i (by omega)
    · obtain rfl : i = 1 := by omega
      rw [e]
      exact ⟨h0, fun j hj => hz j (by omega)⟩
  · obtain rfl : i = 0 := by omega
    show sdg X 1 < sdg X 0
    rw [e]
    exact hn
  · rcases Nat.lt_or_ge i 1 with c1 | c1
    · exact j.2.1 i (by omega)
    · obtain rfl : i = 1 := by omega
      rw [e, e1, (sro_k (t := 1) (by decide)).2, if_pos (by decide)]
      exact ⟨by omega, by omega⟩
  · rcases Nat.lt_or_ge i 1 with c1 | c1
    · exact j.2.2 i (by omega) w
    · obtain rfl : i = 1 := by omega
      rw [if_pos (by decide)]
      exact hb w
theorem SJ.lead {A : pz_P} {k : Nat} {V : Nat → Int} {X : Nat → Nat → Int} (j : SJ A k V X) {i : Nat} (hi : i ≤ k) : V (sro i + 4 + 2 * sdg X i) = srw V i (sdg X i) := by
  unfold srw
  rw [pcs_in (j.2.1 i hi).2]
theorem SJ.dg {A : pz_P} {k : Nat} {V : Nat → Int} {X : Nat → Nat → Int} (j : SJ A k V X) {i : Nat} (hi : i ≤ k) : X (sro i) 2 = ((sdg X i : Nat) : Int) := by
  have := (j.2.1 i hi).1
  unfold sdg
  omega
theorem SJ.d12 {A : pz_P} {k : Nat} {V : Nat → Int} {X : Nat → Nat → Int} (j : SJ A k V X) {i : Nat} (hi : i ≤ k) : sdg X i + i ≤ 12 := by
  have a := j.1.di i hi
  have b := (j.2.1 0 (Nat.zero_le _)).2
  rw [(sro_k (t := 0) (by decide)).2, if_pos (by decide)] at b
  omega
section MSB
variable {g h : mj_H} {n D r u : Nat} {V : Nat → Int} {X : Nat → Nat → Int} {N : Nat → Int} {H : Nat → Nat → Int}
theorem mR_goStC (m : jM g n V X h) (dg : DG X) {A0 : pz_P} {ma : Nat} (hX0 : X 180 2 = (ma : Int)) (hA : ∀ i, ma < i → pcs V 180 i = 0) (hm : ma ≤ 12) (bA : ∀ e, (pcs V 180 e).natAbs ≤ bM) (b : by0 V) (hA0 : pcs V 180 ma ≠ 0) (hc : (X 210 2 = -1 ∧ (∀ i, pcs V 210 i = 0) ∧ SJ A0 0 V X ∧ ∀ i, drv A0 i = 0) ∨ ∃ na : Nat, X 210 2 = (na : Int) ∧ (∀ i, na < i → pcs V 210 i = 0) ∧ pcs V 210 na ≠ 0 ∧ na ≤ 12 ∧ na ≤ ma ∧ (∀ e, (pcs V 210 e).natAbs ≤ bM) ∧ SJ A0 1 V X) : mj_Ok (D + 6) 70 [.ref 172] h (fun z => ∃ (V2 : Nat → Int) (X2 : Nat → Nat → Int) (h2 : mj_H), jM g n V2 X2 h2 ∧ GSt A0 V2 X2 ∧ by0 V2 ∧ GFr V X V2 X2 ∧ DG X2 ∧ z = (.inl none, h2)) := by
  have h81 : V 81 = 0 := b.p cq_d80
  rcases hc with ⟨c1, c2, c3, c4⟩ | ⟨na, c1, c2, c3, c4, c5, c6, c7⟩
  · refine (mR_goSt0 (D := D) m dg c3 c4 hX0 hA hm bA b.row h81 c1 c2 hA0).to fun z hz => ?_
    obtain ⟨V2, X2, h2, m2, ge, hb, h8, fr, d2, e⟩ := hz
    exact ⟨V2, X2, h2, m2, ge, b.goOn hb h8 fr, fr, d2, e⟩
  · refine (mR_goSt (D := D) m dg c7 hX0 hA hm bA b.row h81 c1 c2 c3 c4 c5 c6).to fun z hz => ?_
    obtain ⟨V2, X2, h2, m2, ge, hb, h8, fr, d2, e⟩ := hz
    exact ⟨V2, X2, h2, m2, ge, b.goOn hb h8 fr, fr, d2, e⟩
theorem mR_sbegin (m : jM g n V X h) (b : by0 V) (dg : DG X) (kr : cK r = 2) (hs : sml (X r)) (hr0 : 1 ≤ fdg (X r) 13) : mj_Ok (D + 7) 68 [.ref 172, .ref r, .long (jl (cgd (X r) 13 : Int))] h (fun z => ∃ (V2 : Nat → Int) (X2 : Nat → Nat → Int) (h2 : mj_H), jM g n V2 X2 h2 ∧ GSt (rw13 (X r)) V2 X2 ∧ by0 V2 ∧ FX X X2 ∧ DG X2 ∧ z = (.inl none, h2)) := by
  have hL : cL 173 = 14 := mK_r.2.2.2.1
  have p180 : cL (180 + 3) = 13 := (mK_r.2.2.2.2.2.1 0 (by decide)).2
  have p210 : cL (210 + 3) = 13 := (mK_r.2.2.2.2.2.1 1 (by decide)).2
  have hfl := fdg_le (X r) 13
  obtain ⟨mm, hmm⟩ : ∃ mm, fdg (X r) 13 = mm + 1 := ⟨fdg (X r) 13 - 1, by omega⟩
  obtain ⟨a0, a1, a2, a3, a4, a5, a6⟩ := ppc_ok hs hmm
  have hfa : fdg (ppc (X r)) 13 = mm + 1 := fdg_top (by omega) (fun i hi => a3 i (by omega)) a4
  refine mj_Ok.of (M := mj_m68) rfl rfl rfl ?_
  refine mj_T.pl rfl rfl rfl rfl ?_
  refine mT_get m 16 cq_d172 (by decide) rfl rfl ?_
  refine mj_T.pl rfl rfl rfl rfl ?_
  refine mT_aald m 5 cq_d173 (by decide) rfl rfl (by omega) ⟨by omega, by omega⟩ ?_
  refine mj_T.eq (st2 := [.ref 180]) ?_ rfl rfl rfl rfl
  iterate 2 refine mj_T.pl rfl rfl rfl rfl ?_
  refine mj_T.call rfl rfl (Nat.le_of_ble_eq_true rfl) (Nat.le_of_ble_eq_true rfl) (mV_of m 13 cq_d180 (by decide) rfl (by decide) rfl _) rfl (mj_Ok.up (by omega) (mP_load (D := 0) m cq_d180 kr p180 ⟨by omega, by omega⟩ hs (fun i hi => by rw [cap180 i hi]; omega))) (fun v g1 hq => ?_) (fun i g1 hq => ?_)
  rotate_left
  · obtain ⟨_, _, hq⟩ := hq; cases hq
  obtain ⟨_, m1, hq⟩ := hq
  cases hq
  have hfA : fdg (fun e => (X r e).tdiv (cgd (X r) 13 : Int)) 13 = mm + 1 := by
    rw [← hfa]
    exact fdg_congr 13 (fun i hi => by show _ = ppc (X r) i; unfold ppc; rw [if_pos hi])
  rw [hfA, show ((mm + 1 : Nat) : Int) - 1 = (mm : Int) by omega] at m1
  obtain ⟨V1, hV1⟩ : ∃ V1, V1 = pfl V 180 (fun e => (X r e).tdiv (cgd (X r) 13 : Int)) 13 := ⟨_, rfl⟩
  rw [← hV1] at m1
  have eA : pcs V1 180 = ppc (X r) := funext fun i => by
    unfold pcs ppc
    rw [p180, hV1]
    by_cases c : i < 13
    · rw [if_pos c, if_pos c, pfl_at _ _ _ c]
    · rw [if_neg c, if_neg c]
  have b1 : by0 V1 := by
    rw [hV1]
    exact b.wr cq_d180 (by omega)
  refine mj_T.eq (pc2 := 11) (st2 := []) ?_ rfl rfl rfl rfl
  refine mj_T.pl rfl rfl rfl rfl ?_
  refine mj_T.call rfl rfl (Nat.le_of_ble_eq_true rfl) (Nat.le_of_ble_eq_true rfl) (mV_of m1 16 cq_d172 (by decide) rfl (by decide) rfl _) rfl (mj_Ok.up (by omega) (mR_der (D := 0) (d := mm + 1) m1 (by rw [xup_at]; omega) (by omega) (by rw [eA]; exact fun i _ => a5 i) (by rw [eA]; exact a3))) (fun v g2 hq => ?_) (fun i g2 hq => ?_)
  rotate_left
  · obtain ⟨_, _, hq⟩ := hq; cases hq
  obtain ⟨_, m2, hq⟩ := hq
  cases hq
  rw [eA] at m2
  obtain ⟨V2, hV2⟩ : ∃ V2, V2 = pfl V1 210 (drv (ppc (X r))) 13 := ⟨_, rfl⟩
  rw [← hV2] at m2
  have eA2 : pcs V2 180 = ppc (X r) := by
    rw [← eA]
    funext i
    unfold pcs
    rw [p180, hV2]
    by_cases c : i < 13
    · rw [if_pos c, if_pos c, pfl_off _ _ _ (by omega)]
    · rw [if_neg c, if_neg c]
  have eB2 : pcs V2 210 = drv (ppc (X r)) := funext fun i => by
    unfold pcs
    rw [p210, hV2]
    by_cases c : i < 13
    · rw [if_pos c, pfl_at _ _ _ c]
    · rw [if_neg c]
      unfold drv
      rw [a3 (i + 1) (by omega), Int.zero_mul]
  have b2 : by0 V2 := by
    rw [hV2]
    exact b1.wr cq_d210 (by omega)
  have hle := fdg_le (drv (ppc (X r))) 13
  have dgx : DG (xup (xup X 180 2 (mm : Int)) 210 2 ((fdg (drv (ppc (X r))) 13 : Int) - 1)) := (dg.deg (by omega)).deg (by omega)
  have x180 : (xup (xup X 180 2 (mm : Int)) 210 2 ((fdg (drv (ppc (X r))) 13 : Int) - 1)) 180 2 = (mm : Int) := (congrFun (xup_oth (by decide)) 2).trans (xup_at _ _ _ _)
  have hDz : ∀ i, mm ≤ i → drv (ppc (X r)) i = 0 := fun i hi => by
    unfold drv
    rw [a3 (i + 1) (by omega), Int.zero_mul]
  have bA : ∀ e, (ppc (X r) e).natAbs ≤ bM := fun e => Nat.le_trans (a5 e) (by decide)
  have sj0 : SJ (rw13 (X r)) 0 V2 (xup (xup X 180 2 (mm : Int)) 210 2 ((fdg (drv (ppc (X r))) 13 : Int) - 1)) := SJ.mk0 x180 (by omega) (by show pcs V2 180 mm ≠ 0; rw [eA2]; exact a4) (fun i hi => by show pcs V2 180 i = 0; rw [eA2]; exact a3 i (by omega)) (by show pM (pcs V2 180) _; rw [eA2]; exact a6) (fun e => by show (pcs V2 180 e).natAbs ≤ _; rw [eA2]; exact bA e)
  have hcase : ((xup (xup X 180 2 (mm : Int)) 210 2 ((fdg (drv (ppc (X r))) 13 : Int) - 1)) 210 2 = -1 ∧ (∀ i, pcs V2 210 i = 0) ∧ SJ (rw13 (X r)) 0 V2 (xup (xup X 180 2 (mm : Int)) 210 2 ((fdg (drv (ppc (X r))) 13 : Int) - 1)) ∧ ∀ i, drv (rw13 (X r)) i = 0) ∨ ∃ na : Nat, (xup (xup X 180 2 (mm : Int)) 210 2 ((fdg (drv (ppc (X r))) 13 : Int) - 1)) 210 2 = (na : Int) ∧ (∀ i, na < i → pcs V2 210 i = 0) ∧ pcs V2 210 na ≠ 0 ∧ na ≤ 12 ∧ na ≤ mm ∧ (∀ e, (pcs V2 210 e).natAbs ≤ bM) ∧ SJ (rw13 (X r)) 1 V2 (xup (xup X 180 2 (mm : Int)) 210 2 ((fdg (drv (ppc (X r))) 13 : Int) - 1)) := by
    by_cases c : mm = 0
    · have e0 : fdg (drv (ppc (X r))) 13 = 0 := fdg_of (by omega) (fun i _ _ => hDz i (by omega)) (Or.inl rfl)
      refine Or.inl ⟨by rw [xup_at, e0]; rfl, fun i => by rw [eB2]; exact hDz i (by omega), sj0, fun i => a6.dv.z (hDz i (by omega))⟩
    · have e1 : drv (ppc (X r)) (mm - 1) ≠ 0 := by
        unfold drv
        rw [show mm - 1 + 1 = mm by omega]
        exact Int.mul_ne_zero a4 (by omega)
      have e2 : fdg (drv (ppc (X r))) 13 = mm - 1 + 1 := fdg_top (by omega) (fun i hi => hDz i (by omega)) e1
      have x210 : (xup (xup X 180 2 (mm : Int)) 210 2 ((fdg (drv (ppc (X r))) 13 : Int) - 1)) 210 2 = ((mm - 1 : Nat) : Int) := by
        rw [xup_at, e2]
        omega
      have hB : ∀ e, (pcs V2 210 e).natAbs ≤ bM := fun e => by
        rw [eB2]
        by_cases ce : e < mm
        · unfold drv
          rw [Int.natAbs_mul]
          have q1 := a5 (e + 1)
          have q2 : (ppc (X r) (e + 1)).natAbs * ((e + 1 : Nat) : Int).natAbs ≤ 999999999999999999 * 12 := Nat.mul_le_mul q1 (by omega)
          exact Nat.le_trans q2 (by decide)
        · rw [hDz e (by omega)]
          exact Nat.zero_le _
      have sd0 : sdg (xup (xup X 180 2 (mm : Int)) 210 2 ((fdg (drv (ppc (X r))) 13 : Int) - 1)) 0 = mm := by
        unfold sdg
        rw [show (xup (xup X 180 2 (mm : Int)) 210 2 ((fdg (drv (ppc (X r))) 13 : Int) - 1)) (sro 0) 2 = (mm : Int) from x180]
        rfl
      refine Or.inr ⟨mm - 1, x210, fun i hi => by rw [eB2]; exact hDz i (by omega), by rw [eB2]; exact e1, by omega, by omega, hB, ?_⟩
      exact sj0.mk1 (na := mm - 1) x210 (by rw [sd0]; omega) (by show pcs V2 210 (mm - 1) ≠ 0; rw [eB2]; exact e1) (fun i hi => by show pcs V2 210 i = 0; rw [eB2]; exact hDz i (by omega)) (by show pM (pcs V2 210) _; rw [eB2]; exact a6.dv) hB
  refine mj_T.eq (pc2 := 15) (st2 := []) ?_ rfl rfl rfl rfl
  refine mj_T.pl rfl rfl rfl rfl ?_
  refine mj_T.call rfl rfl (Nat.le_of_ble_eq_true rfl) (Nat.le_of_ble_eq_true rfl) (mV_of m2 16 cq_d172 (by decide) rfl (by decide) rfl _) rfl (mj_Ok.up (by omega) (mR_goStC (D := 0) m2 dgx x180 (fun i hi => by rw [eA2]; exact a3 i (by omega)) (by omega) (by rw [eA2]; exact bA) b2 (by rw [eA2]; exact a4) hcase)) (fun v g3 hq => ?_) (fun i g3 hq => ?_)
  rotate_left
  · obtain ⟨_, _, _, _, _, _, _, _, hq⟩ := hq; cases hq
  obtain ⟨V3, X3, _, m3, gs, b3, fr, d3, hq⟩ := hq
  cases hq
  refine mj_T.eq (pc2 := 19) (st2 := []) ?_ rfl rfl rfl rfl
  exact mj_T.ret rfl rfl rfl ⟨V3, X3, _, m3, gs, b3, ((FX.up (Or.inl cq_d180)).tr (FX.up (Or.inl cq_d210))).tr fr.fx, d3, rfl⟩
theorem cv_133 (A : AS N u H) (s : cC N u H h) {a : Int} (ra : -2147483648 ≤ a ∧ a ≤ 2147483647) : mj_Ok 59 133 [.ref 1, .int (jn a)] h (cA (fun k => if k = 0 then 1 else 2) (A_sturmLength N a)) := by
  obtain ⟨V, X, m, b, d, c, jx⟩ := cS.nr A s
  have jx : rjR X := jx
  refine mj_Ok.of (M := mj_m133) rfl rfl rfl ?_
  iterate 2 refine mj_T.pl rfl rfl rfl rfl ?_
  refine mj_T.call rfl rfl (Nat.le_of_ble_eq_true rfl) (Nat.le_of_ble_eq_true rfl) (mV_of m 19 cq_d1 (by decide) rfl (by decide) rfl _) rfl (mj_Ok.up (by omega) (mC_rowOf (D := 0) m (i := a) (by omega))) (fun v g1 hq => ?_) (fun i g1 hq => ?_)
  rotate_left
  · rcases hq with ⟨_, hq⟩ | ⟨hn, hq⟩
    · cases hq
    · cases hq
      exact Or.inl ⟨rfl, fun z => an.n hn⟩
  rcases hq with ⟨ka, hq⟩ | ⟨_, hq⟩
  rotate_left
  · cases hq
  cases hq
  refine mj_T.eq (pc2 := 5) (st2 := [.ref (4 + a.toNat)]) ?_ rfl rfl rfl rfl
  refine mj_T.pl (loc' := [some (.ref 1), some (.int (jn a)), some (.ref (4 + a.toNat))]) rfl rfl rfl rfl ?_
  refine mj_T.pl rfl rfl rfl rfl ?_
  refine mj_T.call rfl rfl (Nat.le_of_ble_eq_true rfl) (Nat.le_of_ble_eq_true rfl) rfl rfl (mj_Ok.up (by omega) (mC_zero (D := 0) m (mK_rt a.toNat (by omega)) (c.sm A.1 ka))) (fun v g2 hq => ?_) (fun i g2 hq => ?_)
  rotate_left
  · rcases hq with ⟨_, hq⟩ | ⟨hn, hq⟩
    · cases hq
    · cases hq
      exact Or.inl ⟨rfl, fun z => an.y ka (an.n (fun q => hn (by rw [fdg_congr 13 (c.rw ka)]; exact q)))⟩
  rcases hq with ⟨kz, hq⟩ | ⟨_, hq⟩
  rotate_left
  · cases hq
  cases hq
  refine mj_T.eq (pc2 := 10) (st2 := []) ?_ rfl rfl rfl rfl
  refine mj_T.pl rfl rfl rfl rfl ?_
  refine mT_get m 19 cq_d1 (by decide) rfl rfl ?_
  iterate 2 refine mj_T.pl rfl rfl rfl rfl ?_
  refine mj_T.call rfl rfl (Nat.le_of_ble_eq_true rfl) (Nat.le_of_ble_eq_true rfl) rfl rfl (mj_Ok.up (by omega) (mS_cont (D := 0) m (mK_rt a.toNat (by omega)) (c.sm A.1 ka))) (fun v g3 hq => ?_) (fun i g3 hq => ?_)
  rotate_left
  · cases hq
  cases hq
  refine mj_T.eq (pc2 := 19) (st2 := [.long (jl ((cgd (X (4 + a.toNat)) 13 : Nat) : Int)), .ref (4 + a.toNat), .ref 172]) ?_ rfl rfl rfl rfl
  refine mj_T.call rfl rfl (Nat.le_of_ble_eq_true rfl) (Nat.le_of_ble_eq_true rfl) (mV_of m 16 cq_d172 (by decide) rfl (by decide) rfl _) rfl (mj_Ok.up (by omega) (mR_sbegin (D := 0) m b d (mK_rt a.toNat (by omega)) (c.sm A.1 ka) kz)) (fun v g4 hq => ?_) (fun i g4 hq => ?_)
  rotate_left
  · obtain ⟨_, _, _, _, _, _, _, _, hq⟩ := hq; cases hq
  obtain ⟨V7, X7, _, m7, gs, b7, fx, d7, hq⟩ := hq
  cases hq
  rw [c.rw13 ka] at gs
  obtain ⟨k9, hk9, l9, rw9, j9⟩ := gs
  refine mj_T.eq (pc2 := 22) (st2 := []) ?_ rfl rfl rfl rfl
  refine mj_T.pl rfl rfl rfl rfl ?_
  refine mT_get m7 19 cq_d1 (by decide) rfl rfl ?_
  refine mT_get (v := .int (jn ((k9 + 1 : Nat) : Int))) m7 16 cq_d172 (by decide) rfl (congrArg (fun z : Int => some (Value.int (jn z))) (l9)) ?_
  exact mj_T.ret rfl rfl rfl ⟨_, ⟨by omega, by omega⟩, rfl, an.y ka (an.y (by rw [← fdg_congr 13 (c.rw ka)]; exact kz) (an.e ⟨k9, _, _, rw9, rfl⟩))⟩
end MSB
/-! The reference's row of Sturm, exactly, and its changes of sign. -/
theorem jcm_pM {V W : Nat → Int} {p : Nat} (hW : ∀ e, e < 13 → W (p * 13 + e) = (V (p * 13 + e)).tdiv ((jgk V p 13 : Nat) : Int)) (hne : jpo V p ≠ pz_0) : pM (jpo W p) (jpo V p) := by
  have hg : jgk V p 13 ≠ 0 := fun hg => hne (funext fun e => by
    show (if e < 13 then V (p * 13 + e) else 0) = 0
    split
    · rename_i c
      have h1 := jgk_dvd V p 13 e (Nat.le_refl _) (by omega) c
      rw [hg] at h1
      have h2 := Nat.eq_zero_of_zero_dvd h1
      omega
    · rfl)
  refine ⟨((jgk V p 13 : Nat) : Int), 1, by omega, by decide, ?_⟩
  rw [pz_sc_one]
  funext e
  show ((jgk V p 13 : Nat) : Int) * jpo W p e = jpo V p e
  by_cases he : e < 13
  · rw [jpo_at he, jpo_at he, hW e he]
    have h1 := jgk_dvd V p 13 e (Nat.le_refl _) (by omega) he
    have h2 : ((jgk V p 13 : Nat) : Int) ∣ V (p * 13 + e) := Int.natAbs_dvd_natAbs.mp h1
    exact Int.mul_tdiv_cancel' h2
  · unfold jpo
    rw [if_neg he, if_neg he, Int.mul_zero]
/-- the reference's row: its polynomials, their degrees -/
def rrw (W : Nat → Int) (i : Nat) : pz_P := jpo W (9 + i)
def rsd (W : Nat → Int) (i : Nat) : Nat := jdg W (9 + i) 13 - 1
/-- the rows 0 to k stand there, the next one but for a factor above 0 -/
def RC (A : pz_P) (k : Nat) (W : Nat → Int) : Prop := SPr A k (rrw W) (rsd W) ∧ (k = 0 → pM (jpo W (10 + k)) (drv A)) ∧ (1 ≤ k → sN (rrw W (k - 1)) (rrw W k) (jpo W (10 + k))) ∧ pz_lt (jpo W (10 + k)) (rsd W k)
theorem rsd_top {W : Nat → Int} {i : Nat} (h : 1 ≤ jdg W (9 + i) 13) : rrw W i (rsd W i) ≠ 0 ∧ pz_lt (rrw W i) (rsd W i + 1) := by
  have hl := jdg_le W (9 + i) 13
  unfold rrw rsd
  refine ⟨?_, fun e he => jpo_zb (by omega)⟩
  rw [jpo_at (by omega)]
  exact jdg_ne W (9 + i) 13 h
theorem RC.fin {A : pz_P} {k : Nat} {W : Nat → Int} (h : RC A k W) (hz : jdg W (10 + k) 13 = 0) : SRw A k (rrw W) (rsd W) := by
  have z : jpo W (10 + k) = pz_0 := funext fun i => jpo_zb (by omega)
  obtain ⟨h1, h2, h3, h4⟩ := h
  rw [z] at h2 h3
  exact ⟨h1, fun q i => (h2 q).z rfl, h3⟩
/-- one step: row k + 1 is the candidate of before but for its content; sg R comes next -/
theorem RC.step {A : pz_P} {k : Nat} {W W1 W4 : Nat → Int} {R Q : pz_P} {K : Nat} {c sg : Int} (h : RC A k W) (h1 : 1 ≤ jdg W (10 + k) 13) (hp : pM (jpo W1 (10 + k)) (jpo W (10 + k))) (hj : 1 ≤ jdg W1 (10 + k) 13) (e1 : ∀ i, i ≤ k → jpo W1 (9 + i) = jpo W (9 + i)) (e4 : ∀ i, i ≤ k + 1 → ∀ e, e < 13 → W4 ((9 + i) * 13 + e) = W1 ((9 + i) * 13 + e)) (hQ : pz_lt Q K) (hr : pz_sc c (jpo W1 (9 + k)) = pz_add (pz_mul Q (jpo W1 (10 + k))) R) (hl : pz_lt R (jdg W1 (10 + k) 13 - 1)) (hsg : (sg = -1 ∧ 0 < c) ∨ (sg = 1 ∧ c < 0)) (h4 : jpo W4 (10 + (k + 1)) = pz_sc sg R) : RC A (k + 1) W4 := by
  obtain ⟨g1, g2, g3, g4⟩ := h
  have f4 : ∀ i, i ≤ k + 1 → rrw W4 i = jpo W1 (9 + i) := fun i hi => jpo_eq (e4 i hi)
  have d4 : ∀ i, i ≤ k + 1 → rsd W4 i = jdg W1 (9 + i) 13 - 1 := fun i hi => by
    unfold rsd
    rw [jdg_congr 13 (e4 i hi)]
  have f5 : ∀ i, i ≤ k → rrw W4 i = rrw W i := fun i hi => (f4 i (by omega)).trans (e1 i hi)
  have jeq : ∀ i, i ≤ k → jdg W1 (9 + i) 13 = jdg W (9 + i) 13 := fun i hi => jdg_congr 13 (fun e he => by
    have := congrFun (e1 i hi) e
    rw [jpo_at he, jpo_at he] at this
    exact this)
  have d5 : ∀ i, i ≤ k → rsd W4 i = rsd W i := fun i hi => by
    rw [d4 i (by omega), jeq i hi]
    rfl
  have p5 : SPr A k (rrw W4) (rsd W4) := g1.cg f5 d5
  have fk : rrw W4 (k + 1) = jpo W1 (10 + k) := by
    rw [f4 (k + 1) (Nat.le_refl _), show 9 + (k + 1) = 10 + k by omega]
  have dk : rsd W4 (k + 1) = jdg W1 (10 + k) 13 - 1 := by
    rw [d4 (k + 1) (Nat.le_refl _), show 9 + (k + 1) = 10 + k by omega]
  have tk : rrw W4 (k + 1) (rsd W4 (k + 1)) ≠ 0 ∧ pz_lt (rrw W4 (k + 1)) (rsd W4 (k + 1) + 1) := by
    refine rsd_top ?_
    rw [jdg_congr 13 (e4 (k + 1) (Nat.le_refl _)), show 9 + (k + 1) = 10 + k by omega]
    exact hj
  have lk : rsd W4 (k + 1) < rsd W4 k := by
    have q : pz_lt (rrw W4 (k + 1)) (rsd W k) := by
      rw [fk]
      exact hp.sy.lt g4
    rcases Nat.lt_or_ge (rsd W4 (k + 1)) (rsd W4 k) with c1 | c1
    · exact c1
    · rw [d5 k (Nat.le_refl _)] at c1
      exact absurd (q _ c1) tk.1
  have q5 : SPr A (k + 1) (rrw W4) (rsd W4) := by
    cases k with
    | zero =>
      obtain ⟨a1, a2, a3, a4, a5⟩ := p5
      refine ⟨fun i hi => ?_, fun i hi => ?_, a3, fun _ => ?_, fun i hi => absurd hi (by omega)⟩
      · rcases Nat.lt_or_ge i 1 with c1 | c1
        · exact a1 i (by omega)
        · obtain rfl : i = 0 + 1 := by omega
          exact tk
      · obtain rfl : i = 0 := by omega
        exact lk
      · show pM (rrw W4 (0 + 1)) (drv A)
        rw [fk]
        exact hp.tr (g2 rfl)
    | succ j =>
      refine p5.next ?_ tk.1 tk.2 lk
      rw [f5 j (by omega), f5 (j + 1) (Nat.le_refl _), show j + 2 = j + 1 + 1 from rfl, fk]
      have q := g3 (by omega)
      rw [Nat.add_sub_cancel] at q
      exact q.z hp.sy
  refine ⟨q5, fun q => absurd q (by omega), fun _ => ?_, ?_⟩
  · rw [Nat.add_sub_cancel, f4 k (by omega), fk, h4]
    have hh : ∀ i, c * jpo W1 (9 + k) i = pz_mul Q (jpo W1 (10 + k)) i + 1 * R i := fun i => by
      have e : c * jpo W1 (9 + k) i = pz_mul Q (jpo W1 (10 + k)) i + R i := congrFun hr i
      rw [Int.one_mul]
      exact e
    rcases hsg with ⟨s1, s2⟩ | ⟨s1, s2⟩
    · have w := sN.erp hQ (by decide) s2 hh
      have e : (fun i => -R i) = pz_sc sg R := funext fun i => by
        show -R i = sg * R i
        rw [s1]
        omega
      rw [e] at w
      exact w
    · have w := sN.ern hQ (by decide) s2 hh
      rw [s1, pz_sc_one]
      exact w
  · rw [h4, dk]
    exact hl.sc sg
section JXL
variable {D : Nat} {hp h : mj_H} {q0 q1 q2 q3 : Nat} {fs : List Value} {V : Nat → Int} {a : Nat}
theorem jx_lr (G : jG hp q0 q1 q2 q3 fs) (h7 : 7 < fs.length) {A : Nat} (hA : kq_fit A) {A0 f g : pz_P} (hf : pz_lt f 13) (hg : pz_lt g 13) (hfA : ∀ i, (f i).natAbs ≤ A) (hgA : ∀ i, (g i).natAbs ≤ A) {Q : mj_R → Prop}
    (hend : ∀ (k : Nat) (W : Nat → Int) (h : mj_H), k ≤ 12 → jS (jrl hp q0 fs (k + 1)) q1 q2 q3 W h → (∀ p, 9 ≤ p → p ≤ 9 + k → 1 ≤ jdg W p 13 ∧ ∀ e, e < 13 → (W (p * 13 + e)).natAbs ≤ kq_F A 24) → (∀ s, (s < 26 ∨ 52 ≤ s) → (s < 130 ∨ 299 ≤ s) → s ≠ 652 → s ≠ 653 → s ≠ 654 → s ≠ 655 → s ≠ 663 → s ≠ 664 → W s = V s) → SRw A0 k (rrw W) (rsd W) → Q (.inl none, h)) :
    ∀ (d k : Nat) (W : Nat → Int) (h : mj_H) (e2 e3 e4 : Option Value), jdg W (10 + k) 13 ≤ d → k + 1 + jdg W (10 + k) 13 ≤ 13 → jS (jrl hp q0 fs (k + 1)) q1 q2 q3 W h → (∀ p, 9 ≤ p → p ≤ 9 + k → 1 ≤ jdg W p 13 ∧ ∀ e, e < 13 → (W (p * 13 + e)).natAbs ≤ kq_F A 24) → (∀ y1, kq_rel (jpo W (10 + k)) y1 → klr A f g (jpo W (9 + k)) y1) → (∀ s, (s < 26 ∨ 52 ≤ s) → (s < 130 ∨ 299 ≤ s) → s ≠ 652 → s ≠ 653 → s ≠ 654 → s ≠ 655 → s ≠ 663 → s ≠ 664 → W s = V s) → RC A0 k W → mj_T (D + 7) mj_m216 19 [some (.ref q0), some (.int (jn (a : Nat))), e2, e3, e4] [] h Q := by
  intro d
  induction d with
  | zero =>
    intro k W h e2 e3 e4 hd hk hs hrow hJ hfr rc
    have hd0 : jdg W (10 + k) 13 = 0 := by omega
    iterate 3 refine mj_T.pl rfl rfl rfl rfl ?_
    refine mj_T.gfl rfl (jS_a (jrl_G G (k + 1)) hs) (List.getElem?_set_self h7) ?_
    refine mj_T.iadd (a := 9) (b := ((k + 1 : Nat) : Int)) rfl ?_
    rw [show (9 : Int) + ((k + 1 : Nat) : Int) = ((10 + k : Nat) : Int) by omega]
    refine mj_T.call (ins := .invokevirtual 114) rfl rfl (Nat.le_of_ble_eq_true rfl) (Nat.le_of_ble_eq_true rfl) (by simp [mj_recv, jS_a (jrl_G G (k + 1)) hs]) rfl (jp_degreeOf (D := D + 5) (jrl_G G (k + 1)) (p := 10 + k) (by omega) hs) (fun v' h' hq' => ?_) (fun i h' hq' => by cases hq')
    cases hq'
    rw [hd0]
    refine mj_T.if0 (a := ((0 : Nat) : Int) - 1) rfl ⟨by decide, by decide⟩ (fun hc => ?_) (fun hc => ?_)
    · exact mj_T.ret rfl rfl rfl (hend k W h (by omega) hs hrow hfr (rc.fin (by omega)))
    · simp [jc] at hc
  | succ d ih =>
    intro k W h e2 e3 e4 hd hk hs hrow hJ hfr rc
    have hdl := jdg_le W (10 + k) 13
    iterate 3 refine mj_T.pl rfl rfl rfl rfl ?_
    refine mj_T.gfl rfl (jS_a (jrl_G G (k + 1)) hs) (List.getElem?_set_self h7) ?_
    refine mj_T.iadd (a := 9) (b := ((k + 1 : Nat) : Int)) rfl ?_
    rw [show (9 : Int) + ((k + 1 : Nat) : Int) = ((10 + k : Nat) : Int) by omega]
    refine mj_T.call (ins := .invokevirtual 114) rfl rfl (Nat.le_of_ble_eq_true rfl) (Nat.le_of_ble_eq_true rfl) (by simp [mj_recv, jS_a (jrl_G G (k + 1)) hs]) rfl (jp_degreeOf (D := D + 5) (jrl_G G (k + 1)) (p := 10 + k) (by omega) hs) (fun v' h' hq' => ?_) (fun i h' hq' => by cases hq')
    cases hq'
    refine mj_T.if0 (a := (jdg W (10 + k) 13 : Int) - 1) rfl ⟨by omega, by omega⟩ (fun hc => ?_) (fun hc => ?_)
    · simp only [jc, decide_eq_true_eq] at hc
      exact mj_T.ret rfl rfl rfl (hend k W h (by omega) hs hrow hfr (rc.fin (by omega)))
    simp only [jc, decide_eq_false_iff_not] at hc
    iterate 3 refine mj_T.pl rfl rfl rfl rfl ?_
    refine mj_T.gfl rfl (jS_a (jrl_G G (k + 1)) hs) (List.getElem?_set_self h7) ?_
    refine mj_T.iadd (a := 9) (b := ((k + 1 : Nat) : Int)) rfl ?_
    rw [show (9 : Int) + ((k + 1 : Nat) : Int) = ((10 + k : Nat) : Int) by omega]
    refine mj_T.call (ins := .invokevirtual 136) rfl rfl (Nat.le_of_ble_eq_true rfl) (Nat.le_of_ble_eq_true rfl) (by simp [mj_recv, jS_a (jrl_G G (k + 1)) hs]) rfl (jp_shrinks (D := D) (jrl_G G (k + 1)) (p := 10 + k) (by omega) hs) (fun v' h1 hq' => ?_) (fun i h' hq' => by obtain ⟨_, _, _, _, _, h⟩ := hq'; cases h)
    obtain ⟨W1, _, hs1, a1, a2, hq'⟩ := hq'
    cases hq'
    have b1 := jcm_prim (V := W) (W := W1) (p := 10 + k) (f := 1) (Or.inl rfl) (fun e he => by rw [a1 e he, Int.one_mul])
    have b2 := hJ _ b1
    have b3 : jpo W1 (9 + k) = jpo W (9 + k) := jpo_eq fun e he => a2 _ (by omega) (by omega) (by omega) (by omega) (by omega) (by omega)
    rw [← b3] at b2
    have hne : jpo W (10 + k) ≠ pz_0 := fun e => by
      have k1 := congrFun e (jdg W (10 + k) 13 - 1)
      rw [jpo_at (show jdg W (10 + k) 13 - 1 < 13 by omega)] at k1
      exact jdg_ne W (10 + k) 13 (by omega) k1
    have hne1 : jpo W1 (10 + k) ≠ pz_0 := by
      rcases b1 with ⟨e, _⟩ | ⟨_, _, _, e⟩
      · exact absurd e hne
      · exact kq_prim_ne e
    have hj1 := jpo_ne hne1
    have hj2 : jdg W1 (10 + k) 13 ≤ jdg W (10 + k) 13 := jdg_zle 13 fun e he h0 => by rw [a1 e he, h0, Int.zero_tdiv]
    obtain ⟨db, hdb⟩ : ∃ db, jdg W1 (10 + k) 13 = db + 1 := ⟨jdg W1 (10 + k) 13 - 1, by omega⟩
    have hlead := jdg_ne W1 (10 + k) 13 hj1
    rw [hdb, Nat.add_sub_cancel] at hlead
    have hyl : pz_lt (jpo W1 (10 + k)) (db + 1) := fun i hi => by
      unfold jpo
      split
      · rename_i c
        exact jdg_zero W1 (10 + k) 13 i (by omega) c
      · rfl
    have ydb : jpo W1 (10 + k) db = W1 ((10 + k) * 13 + db) := jpo_at (by omega)
    have hal1 := jdg_le W1 (9 + k) 13
    have hxl : pz_lt (jpo W1 (9 + k)) (db + (jdg W1 (9 + k) 13 - db)) := fun i hi => by
      unfold jpo
      split
      · rename_i c
        exact jdg_zero W1 (9 + k) 13 i (by omega) c
      · rfl
    have hxn : 1 ≤ jdg W1 (9 + k) 13 - db → jpo W1 (9 + k) (db + (jdg W1 (9 + k) 13 - db) - 1) ≠ 0 := fun hn => by
      rw [show db + (jdg W1 (9 + k) 13 - db) - 1 = jdg W1 (9 + k) 13 - 1 by omega, jpo_at (show jdg W1 (9 + k) 13 - 1 < 13 by omega)]
      exact jdg_ne W1 (9 + k) 13 (by omega)
    obtain ⟨al, be, hbe1, hal0, hbe0, hfit⟩ := klr_fits hA hf hg hfA hgA _ _ db (jdg W1 (9 + k) 13 - db) b2 hxl hxn hyl (by rw [ydb]; exact hlead) (by omega)
    have hal : ∀ e, e < 13 → (W1 ((9 + k) * 13 + e)).natAbs ≤ al := fun e he => by
      rw [← jpo_at (V := W1) (p := 9 + k) he]
      exact hal0 e
    have hbe : ∀ e, e < 13 → (W1 ((10 + k) * 13 + e)).natAbs ≤ be := fun e he => by
      rw [← jpo_at (V := W1) (p := 10 + k) he]
      exact hbe0 e
    have hyb : ∀ e, e < 13 → (W1 ((10 + k) * 13 + e)).natAbs ≤ kq_F A 24 := fun e he => by
      rw [← jpo_at (V := W1) (p := 10 + k) he]
      exact klr_ybound hA.1 hgA b2 e
    iterate 2 refine mj_T.pl rfl rfl rfl rfl ?_
    refine mj_T.gfl rfl (jS_a (jrl_G G (k + 1)) hs1) (List.getElem?_set_self h7) ?_
    refine mj_T.pl rfl rfl rfl rfl ?_
    refine mj_T.iadd (a := ((k + 1 : Nat) : Int)) (b := 1) rfl ?_
    rw [show ((k + 1 : Nat) : Int) + 1 = ((k + 1 + 1 : Nat) : Int) by omega]
    refine mj_T.pfl rfl (jS_a (jrl_G G (k + 1)) hs1) (by rw [List.length_set]; exact h7) rfl ?_
    have hs2 := jrl_put G (k + 1 + 1) hs1
    generalize h1.set q0 (.inr (10, (fs.set 7 (.int (jn ((k + 1 : Nat) : Int)))).set 7 (.int (jn ((k + 1 + 1 : Nat) : Int))))) = h2 at hs2
    iterate 2 refine mj_T.pl rfl rfl rfl rfl ?_
    refine mj_T.gfl rfl (jS_a (jrl_G G (k + 1 + 1)) hs2) (List.getElem?_set_self h7) ?_
    refine mj_T.iadd (a := 9) (b := ((k + 1 + 1 : Nat) : Int)) rfl ?_
    refine mj_T.pl rfl rfl rfl rfl ?_
    refine mj_T.isub (b := 1) rfl ?_
    rw [show (9 : Int) + ((k + 1 + 1 : Nat) : Int) - 1 = ((10 + k : Nat) : Int) by omega]
    iterate 5 refine mj_T.pl rfl rfl rfl rfl ?_
    refine mj_T.call (ins := .invokevirtual 114) rfl rfl (Nat.le_of_ble_eq_true rfl) (Nat.le_of_ble_eq_true rfl) (by simp [mj_recv, jS_a (jrl_G G (k + 1 + 1)) hs2]) rfl (jp_degreeOf (D := D + 5) (jrl_G G (k + 1 + 1)) (p := 10 + k) (by omega) hs2) (fun v' h' hq' => ?_) (fun i h' hq' => by cases hq')
    cases hq'
    rw [hdb, show ((db + 1 : Nat) : Int) - 1 = (db : Int) by omega]
    refine mj_T.call (ins := .invokestatic 104) rfl rfl (Nat.le_of_ble_eq_true rfl) (Nat.le_of_ble_eq_true rfl) rfl rfl (jq_slot (D := D + 6) (p := 10 + k) (i := db)) (fun v' h' hq' => ?_) (fun i h' hq' => by cases hq')
    cases hq'
    refine mj_T.call (ins := .invokevirtual 68) rfl rfl (Nat.le_of_ble_eq_true rfl) (Nat.le_of_ble_eq_true rfl) (by simp [mj_recv, jS_a (jrl_G G (k + 1 + 1)) hs2]) rfl (jS_sign (D := D + 6) (jrl_G G (k + 1 + 1)) (s := (10 + k) * 13 + db) (by omega) hs2) (fun v' h' hq' => ?_) (fun i h' hq' => by cases hq')
    cases hq'
    iterate 6 refine mj_T.pl rfl rfl rfl rfl ?_
    refine mj_T.isub (b := 1) rfl ?_
    rw [show ((10 + k : Nat) : Int) - 1 = ((9 + k : Nat) : Int) by omega]
    refine mj_T.pl rfl rfl rfl rfl ?_
    refine mj_T.call (ins := .invokevirtual 145) rfl rfl (Nat.le_of_ble_eq_true rfl) (Nat.le_of_ble_eq_true rfl) (by simp [mj_recv, jS_a (jrl_G G (k + 1 + 1)) hs2]) rfl (jp_dividesPoly (D := D + 2) (jrl_G G (k + 1 + 1)) (a := 9 + k) (b := 10 + k) (lc := W1 ((10 + k) * 13 + db)) (al := al) (be := be) (by omega) (by omega) (by omega) (by omega) (by omega) (by omega) hdb rfl hal hbe hbe1 hfit hs2) (fun v' h3 hq' => ?_) (fun i h' hq' => by obtain ⟨_, _, _, _, _, _, _, h⟩ := hq'; cases h)
    obtain ⟨W2, _, hs3, c1, c3, c2, c4, hq'⟩ := hq'
    cases hq'
    iterate 4 refine mj_T.pl rfl rfl rfl rfl ?_
    refine mj_T.iadd (a := ((10 + k : Nat) : Int)) (b := 1) rfl ?_
    rw [show ((10 + k : Nat) : Int) + 1 = ((10 + (k + 1) : Nat) : Int) by omega]
    refine mj_T.pl rfl rfl rfl rfl ?_
    refine mj_T.call (ins := .invokevirtual 124) rfl rfl (Nat.le_of_ble_eq_true rfl) (Nat.le_of_ble_eq_true rfl) (by simp [mj_recv, jS_a (jrl_G G (k + 1 + 1)) hs3]) rfl (jp_copiesPoly (D := D + 4) (jrl_G G (k + 1 + 1)) (p := 10 + (k + 1)) (q := 3) (by omega) (by omega) (by omega) hs3) (fun v' h4 hq' => ?_) (fun i h' hq' => by obtain ⟨_, _, h⟩ := hq'; cases h)
    obtain ⟨_, hs4, hq'⟩ := hq'
    cases hq'
    have f1 : ∀ e, e < 13 → jfl W2 (10 + (k + 1)) (fun e => W2 (3 * 13 + e)) 13 ((10 + (k + 1)) * 13 + e) = W2 (3 * 13 + e) := fun e he => jfl_at _ _ _ he
    have f2 : ∀ s, (s < (10 + (k + 1)) * 13 ∨ (10 + (k + 1)) * 13 + 13 ≤ s) → jfl W2 (10 + (k + 1)) (fun e => W2 (3 * 13 + e)) 13 s = W2 s := fun s hc => jfl_off _ _ _ hc
    generalize jfl W2 (10 + (k + 1)) (fun e => W2 (3 * 13 + e)) 13 = W3 at hs4 f1 f2
    have fin : ∀ (W4 : Nat → Int) (h5 : mj_H) (sg : Int) (e2 e3 e4 : Option Value), ((sg = -1 ∧ 0 < W1 ((10 + k) * 13 + db) ^ (jdg W1 (9 + k) 13 - db)) ∨ (sg = 1 ∧ W1 ((10 + k) * 13 + db) ^ (jdg W1 (9 + k) 13 - db) < 0)) → jS (jrl hp q0 fs (k + 1 + 1)) q1 q2 q3 W4 h5 → (∀ e, e < 13 → W4 ((10 + (k + 1)) * 13 + e) = sg * W2 (3 * 13 + e)) → (∀ s, (s < (10 + (k + 1)) * 13 ∨ (10 + (k + 1)) * 13 + 13 ≤ s) → W4 s = W2 s) → mj_T (D + 7) mj_m216 19 [some (.ref q0), some (.int (jn (a : Nat))), e2, e3, e4] [] h5 Q := by
      intro W4 h5 sg e2 e3 e4 hsg2 hs5 g1 g2
      have hsg : sg = 1 ∨ sg = -1 := by
        rcases hsg2 with q | q
        · exact Or.inr q.1
        · exact Or.inl q.1
      have w1 : ∀ s, (s < 26 ∨ 52 ≤ s) → (s < (10 + (k + 1)) * 13 ∨ (10 + (k + 1)) * 13 + 13 ≤ s) → s ≠ 652 → s ≠ 654 → W4 s = W1 s := fun s x1 x2 x3 x4 => by rw [g2 s x2, c1 s x1 x3 x4]
      have w2 : jdg W4 (10 + (k + 1)) 13 ≤ db := jdg_of_zero fun e x1 x2 => by rw [g1 e x2, c2 e x1 x2, Int.mul_zero]
      have w3 : jpo W4 (10 + k) = jpo W1 (10 + k) := jpo_eq fun e he => w1 _ (by omega) (by omega) (by omega) (by omega)
      have t2 : jpo W4 (10 + (k + 1)) = pz_sc sg (jpo W2 3) := funext fun e => by
        by_cases he : e < 13
        · rw [jpo_at he, g1 e he]
          show _ = sg * jpo W2 3 e
          rw [jpo_at he]
        · show _ = sg * jpo W2 3 e
          unfold jpo
          rw [if_neg he, if_neg he, Int.mul_zero]
      have rc4 : RC A0 (k + 1) W4 := rc.step (W1 := W1) (by omega) (jcm_pM a1 hne) hj1 (fun i hi => jpo_eq fun e he => a2 _ (by omega) (by omega) (by omega) (by omega) (by omega) (by omega)) (fun i hi e he => w1 _ (by omega) (by omega) (by omega) (by omega)) (jpo_lt W2 2) c3 (fun i hi => by
        by_cases he : i < 13
        · rw [jpo_at he, c2 i (by omega) he]
        · exact jpo_lt W2 3 i (by omega)) hsg2 t2
      refine ih (k + 1) W4 h5 e2 e3 e4 (by omega) (by omega) hs5 (fun p p1 p2 => ?_) (fun y1 hy1 => ?_) (fun s x1 x2 x3 x4 x5 x6 x7 x8 => ?_) rc4
      · by_cases hpk : p = 10 + k
        · subst hpk
          refine ⟨?_, fun e he => ?_⟩
          · exact jpo_ne (by rw [w3]; exact hne1)
          · rw [w1 _ (by omega) (by omega) (by omega) (by omega)]
            exact hyb e he
        · have r1 := hrow p p1 (by omega)
          have r2 : ∀ e, e < 13 → W4 (p * 13 + e) = W (p * 13 + e) := fun e he => by rw [w1 _ (by omega) (by omega) (by omega) (by omega), a2 _ (by omega) (by omega) (by omega) (by omega) (by omega) (by omega)]
          refine ⟨?_, fun e he => ?_⟩
          · rw [jdg_congr 13 r2]
            exact r1.1
          · rw [r2 e he]
            exact r1.2 e he
      · have t1 : jpo W4 (9 + (k + 1)) = jpo W1 (10 + k) := by rw [show 9 + (k + 1) = 10 + k by omega, w3]
        have t2 : jpo W4 (10 + (k + 1)) = pz_sc sg (jpo W2 3) := funext fun e => by
          by_cases he : e < 13
          · rw [jpo_at he, g1 e he]
            show _ = sg * jpo W2 3 e
            rw [jpo_at he]
          · show _ = sg * jpo W2 3 e
            unfold jpo
            rw [if_neg he, if_neg he, Int.mul_zero]
        rw [t1]
        rw [t2] at hy1
        have t3 : jpo W2 (10 + k) = jpo W1 (10 + k) := jpo_eq fun e he => c1 _ (by omega) (by omega) (by omega)
        refine klr_step hA.1 hf hg hfA hgA kq_rel_ex (jpo W1 (9 + k)) (jpo W1 (10 + k)) (jpo W2 2) (jpo W2 3) y1 db b2 hyl (by rw [ydb]; exact hlead) (Int.pow_ne_zero hlead) c3 (jpo_lt W2 2) (fun i hi => ?_) (kq_rel_sg hsg hy1)
        by_cases he : i < 13
        · rw [jpo_at he, c2 i hi he]
        · exact jpo_lt W2 3 i (by omega)
      · rw [w1 s x1 (by omega) x3 x5, a2 s (by omega) x3 x4 x6 x7 x8, hfr s x1 x2 x3 x4 x5 x6 x7 x8]
    have neg : 0 < W1 ((10 + k) * 13 + db) ^ (jdg W1 (9 + k) 13 - db) → mj_T (D + 7) mj_m216 109 [some (.ref q0), some (.int (jn (a : Nat))), some (.int (jn ((10 + k : Nat) : Int))), some (.int (jn (jsg (W1 ((10 + k) * 13 + db))))), some (.int (jn ((jdg W1 (9 + k) 13 - db : Nat) : Int)))] [] h4 Q := fun hps => by
      iterate 3 refine mj_T.pl rfl rfl rfl rfl ?_
      refine mj_T.iadd (a := ((10 + k : Nat) : Int)) (b := 1) rfl ?_
      rw [show ((10 + k : Nat) : Int) + 1 = ((10 + (k + 1) : Nat) : Int) by omega]
      refine mj_T.call (ins := .invokevirtual 139) rfl rfl (Nat.le_of_ble_eq_true rfl) (Nat.le_of_ble_eq_true rfl) (by simp [mj_recv, jS_a (jrl_G G (k + 1 + 1)) hs4]) rfl (jp_negates (D := D + 4) (jrl_G G (k + 1 + 1)) (p := 10 + (k + 1)) (by omega) hs4) (fun v' h5 hq' => ?_) (fun i h' hq' => by obtain ⟨_, _, h⟩ := hq'; cases h)
      obtain ⟨_, hs5, hq'⟩ := hq'
      cases hq'
      refine mj_T.pl rfl rfl rfl rfl ?_
      exact fin _ _ (-1) _ _ _ (Or.inl ⟨rfl, hps⟩) hs5 (fun e he => by rw [jfl_at _ _ _ he, f1 e he]; omega) (fun s hc => by rw [jfl_off _ _ _ hc, f2 s hc])
    refine mj_T.pl rfl rfl rfl rfl ?_
    have hsg := jsg_range (W1 ((10 + k) * 13 + db))
    refine mj_T.if0 (a := jsg (W1 ((10 + k) * 13 + db))) rfl ⟨by omega, by omega⟩ (fun hc2 => ?_) (fun hc2 => ?_)
    · simp only [jc, decide_eq_true_eq] at hc2
      exact neg (ipw_p (jsg_pp hc2) _)
    simp only [jc, decide_eq_false_iff_not] at hc2
    have hng : W1 ((10 + k) * 13 + db) < 0 := by
      rcases Int.lt_or_gt_of_ne hlead with q | q
      · exact q
      · rw [jsg_pos q] at hc2
        exact absurd hc2 (by decide)
    have hpw := ipw_n hng (jdg W1 (9 + k) 13 - db)
    iterate 2 refine mj_T.pl rfl rfl rfl rfl ?_
    refine mj_T.irem (a := ((jdg W1 (9 + k) 13 - db : Nat) : Int)) (b := 2) rfl ⟨by omega, by omega⟩ ⟨by omega, by omega⟩ (by omega) ?_
    have ht : ((jdg W1 (9 + k) 13 - db : Nat) : Int).tmod 2 = (((jdg W1 (9 + k) 13 - db) % 2 : Nat) : Int) := rfl
    refine mj_T.if0 (a := ((jdg W1 (9 + k) 13 - db : Nat) : Int).tmod 2) rfl ⟨by omega, by omega⟩ (fun hc3 => ?_) (fun hc3 => ?_)
    · simp only [jc, Bool.not_eq_true', decide_eq_false_iff_not] at hc3
      refine mj_T.pl rfl rfl rfl rfl ?_
      exact fin _ _ 1 _ _ _ (Or.inr ⟨rfl, hpw.2 (by omega)⟩) hs4 (fun e he => by rw [f1 e he, Int.one_mul]) f2
    · simp only [jc, Bool.not_eq_false', decide_eq_true_eq] at hc3
      exact neg (hpw.1 (by omega))
theorem jx_laysRow (G : jG hp q0 q1 q2 q3 fs) (h7 : 7 < fs.length) {A : Nat} (hA : kq_fit A) (hA2 : 13 * A < jB ^ 698) (ha : a < 9) (ha2 : a ≠ 2) (ha3 : a ≠ 3) (hne : jpo V a ≠ pz_0) (hVA : ∀ e, e < 13 → (V (a * 13 + e)).natAbs * 12 ≤ A) (hs : jS hp q1 q2 q3 V h) :
    mj_Ok (D + 8) 216 [.ref q0, .int (jn (a : Nat))] h (fun r => ∃ (k : Nat) (W : Nat → Int) (h' : mj_H), k ≤ 12 ∧ jS (jrl hp q0 fs (k + 1)) q1 q2 q3 W h' ∧ (∀ p, 9 ≤ p → p ≤ 9 + k → 1 ≤ jdg W p 13 ∧ ∀ e, e < 13 → (W (p * 13 + e)).natAbs ≤ kq_F A 24) ∧ (∀ s, (s < 26 ∨ 52 ≤ s) → (s < 117 ∨ 299 ≤ s) → s ≠ 652 → s ≠ 653 → s ≠ 654 → s ≠ 655 → s ≠ 663 → s ≠ 664 → W s = V s) ∧ (∀ e, e < 13 → W (9 * 13 + e) = V (a * 13 + e)) ∧ SRw (jpo V a) k (rrw W) (rsd W) ∧ r = (.inl none, h')) := by
  refine mj_Ok.of (M := mj_m216) rfl rfl rfl ?_
  iterate 3 refine mj_T.pl rfl rfl rfl rfl ?_
  refine mj_T.call (ins := .invokevirtual 124) rfl rfl (Nat.le_of_ble_eq_true rfl) (Nat.le_of_ble_eq_true rfl) (by simp [mj_recv, jS_a G hs]) rfl (jp_copiesPoly (D := D + 4) G (p := 9) (q := a) (by decide) (by omega) (by omega) hs) (fun v' h1 hq' => ?_) (fun i h' hq' => by obtain ⟨_, _, h⟩ := hq'; cases h)
  obtain ⟨_, hs1, hq'⟩ := hq'
  cases hq'
  have a1 : ∀ e, e < 13 → jfl V 9 (fun e => V (a * 13 + e)) 13 (9 * 13 + e) = V (a * 13 + e) := fun e he => jfl_at _ 9 _ he
  have a2 : ∀ s, (s < 117 ∨ 130 ≤ s) → jfl V 9 (fun e => V (a * 13 + e)) 13 s = V s := fun s hc => jfl_off _ 9 _ (by omega)
  generalize jfl V 9 (fun e => V (a * 13 + e)) 13 = W1 at hs1 a1 a2
  iterate 2 refine mj_T.pl rfl rfl rfl rfl ?_
  refine mj_T.pfl rfl (jS_a G hs1) h7 rfl ?_
  have hs2 := jrl_first G 1 hs1
  refine mj_T.eq (h2 := h1.set q0 (.inr (10, fs.set 7 (.int (jn ((1 : Nat) : Int)))))) ?_ rfl rfl rfl rfl
  generalize h1.set q0 (.inr (10, fs.set 7 (.int (jn ((1 : Nat) : Int))))) = h2 at hs2
  iterate 3 refine mj_T.pl rfl rfl rfl rfl ?_
  refine mj_T.call (ins := .invokevirtual 149) rfl rfl (Nat.le_of_ble_eq_true rfl) (Nat.le_of_ble_eq_true rfl) (by simp [mj_recv, jS_a (jrl_G G 1) hs2]) rfl (jp_derives (D := D + 4) (V := W1) (jrl_G G 1) (p := 10) (a := a) (by decide) (by omega) (by omega) (fun e he => jnl_of_lt (M := 13 * A) (by rw [show a * 13 + e + 1 = a * 13 + (e + 1) by omega, a2 _ (by omega), Int.natAbs_mul]; have k1 := hVA (e + 1) (by omega); have k2 : (V (a * 13 + (e + 1))).natAbs * ((e + 1 : Nat) : Int).natAbs ≤ (V (a * 13 + (e + 1))).natAbs * 12 := Nat.mul_le_mul_left _ (by omega); omega) hA2) hs2) (fun v' h3 hq' => ?_) (fun i h' hq' => by obtain ⟨_, _, _, _, h⟩ := hq'; cases h)
  obtain ⟨W2, _, hs3, b1, hq'⟩ := hq'
  cases hq'
  have c1 : ∀ s, (s < 130 ∨ 143 ≤ s) → s ≠ 652 → W2 s = W1 s := fun s x1 x2 => by rw [b1 s x2, jfl_off _ 10 _ (by omega)]
  have c2 : ∀ e, e < 13 → W2 (10 * 13 + e) = if e < 12 then jdv W1 a e else 0 := fun e he => by rw [b1 _ (by omega), jfl_at _ 10 _ he]
  have c3 : ∀ e, e < 13 → (W2 (10 * 13 + e)).natAbs ≤ A := fun e he => by
    rw [c2 e he]
    split
    · show (W1 (a * 13 + e + 1) * ((e + 1 : Nat) : Int)).natAbs ≤ A
      rw [show a * 13 + e + 1 = a * 13 + (e + 1) by omega, a2 _ (by omega), Int.natAbs_mul]
      have k1 := hVA (e + 1) (by omega)
      have k2 : (V (a * 13 + (e + 1))).natAbs * ((e + 1 : Nat) : Int).natAbs ≤ (V (a * 13 + (e + 1))).natAbs * 12 := Nat.mul_le_mul_left _ (by omega)
      omega
    · exact Nat.zero_le _
  have c4 : ∀ e, e < 13 → W2 (9 * 13 + e) = V (a * 13 + e) := fun e he => by rw [c1 _ (by omega) (by omega), a1 e he]
  have c5 : jpo W2 9 = jpo V a := jpo_eq c4
  have c6 : ∀ e, e < 13 → (V (a * 13 + e)).natAbs ≤ A := fun e he => by have := hVA e he; omega
  have c7 : jdg W2 10 13 ≤ 12 := jdg_of_zero fun e x1 x2 => by rw [c2 e x2, if_neg (by omega)]
  refine jx_lr (D := D) (V := W2) (a := a) G h7 hA (A0 := jpo V a) (f := jpo V a) (g := jpo W2 10) (jpo_lt _ _) (jpo_lt _ _) (jpo_le c6) (jpo_le c3) (fun k W h4 k1 k2 k3 k4 k5 => ⟨k, W, h4, k1, k2, k3, fun s x1 x2 x3 x4 x5 x6 x7 x8 => by rw [k4 s x1 (by omega) x3 x4 x5 x6 x7 x8, c1 s (by omega) x3, a2 s (by omega)], fun e he => by rw [k4 _ (by omega) (by omega) (by omega) (by omega) (by omega) (by omega) (by omega) (by omega), c4 e he], k5, rfl⟩) 13 0 W2 h3 _ _ _ (jdg_le _ _ _) (by show 0 + 1 + jdg W2 10 13 ≤ 13; omega) hs3 (fun p p1 p2 => ?_) (fun y1 hy => Or.inr ⟨c5, hy⟩) (fun s _ _ _ _ _ _ _ _ => rfl) ?_
  · have hp9 : p = 9 := by omega
    subst hp9
    refine ⟨jpo_ne (by rw [c5]; exact hne), fun e he => ?_⟩
    rw [c4 e he]
    exact Nat.le_trans (c6 e he) (kq_F_ge hA.1 (by decide))
  · have e9 : jpo W2 (9 + 0) = jpo V a := c5
    have hj : 1 ≤ jdg W2 (9 + 0) 13 := jpo_ne (by rw [e9]; exact hne)
    have hl9 := jdg_le W2 (9 + 0) 13
    have ed : jpo W2 10 = drv (jpo V a) := funext fun e => by
      unfold drv
      by_cases he : e < 13
      · rw [jpo_at he, c2 e he]
        by_cases h12 : e < 12
        · rw [if_pos h12, jpo_at (show e + 1 < 13 by omega)]
          show W1 (a * 13 + e + 1) * ((e + 1 : Nat) : Int) = _
          rw [show a * 13 + e + 1 = a * 13 + (e + 1) by omega, a2 _ (by omega)]
        · rw [if_neg h12, jpo_lt V a (e + 1) (by omega), Int.zero_mul]
      · rw [jpo_lt W2 10 e (by omega), jpo_lt V a (e + 1) (by omega), Int.zero_mul]
    have tp := rsd_top hj
    have t0 : ∀ i, i = 0 → rrw W2 i = jpo V a := fun i hi => by
      subst hi
      exact e9
    refine ⟨⟨fun i hi => ?_, fun i hi => absurd hi (by omega), ?_, fun q => absurd q (by omega), fun i hi => absurd hi (by omega)⟩, fun _ => ?_, fun q => absurd q (by omega), fun i hi => ?_⟩
    · obtain rfl : i = 0 := by omega
      exact tp
    · rw [t0 0 rfl]
      exact pM.rf _
    · show pM (jpo W2 10) _
      rw [ed]
      exact pM.rf _
    · show jpo W2 10 i = 0
      rw [ed]
      unfold drv
      have q := tp.2 (i + 1) (by omega)
      rw [t0 0 rfl] at q
      rw [q, Int.zero_mul]
end JXL
theorem jpo_rwn {N0 N W : Nat → Int} {x : Nat} (hx : x ≤ 5) (hn : ∀ j, j < 91 → N j = N0 j) (h : ∀ e, e < 13 → W (0 * 13 + e) = N (x * 13 + e)) : jpo W 0 = rwN N0 (x : Int) := funext fun e => by
  by_cases he : e < 13
  · rw [jpo_at he]
    exact (h e he).trans (rwN_at hn hx he)
  · rw [jpo_lt W 0 e (by omega)]
    unfold rwN
    rw [if_neg he]
section RVS
variable {h : mj_H} {tm er : Int} {T : Nat → Int} {N0 : Nat → Int} {u0 : Nat} {H : Nat → Nat → Int}
theorem ra_sturmLength {x : Int} (hx : jr x) (hI : jIx N0 u0 H tm er T h) : mj_Ok 40 273 [.ref 0, .int (jn x)] h (rIa (A_sturmLength N0 x) N0 u0 H tm er T) := by
  refine mj_Ok.of (M := mj_m273) rfl rfl rfl ?_
  obtain ⟨S, N, B, X, V, hs, K⟩ := hI
  iterate 2 refine mj_T.pl rfl rfl rfl rfl ?_
  refine rT_put (v := 0) hs rfl rfl (by decide) rfl (fun g8 hs8 => ?_)
  have K8 := K.put (k := 3) (v := 0) ⟨by decide, by decide⟩ (by decide) (by decide) (by decide) (by decide) (by decide)
  have e8 : jvu S 3 0 3 = 0 := jvu_at S 3 0
  generalize jvu S 3 0 = S8 at hs8 K8 e8
  refine mj_T.pl rfl rfl rfl rfl ?_
  refine mj_T.call (ins := .invokestatic 181) rfl rfl (Nat.le_of_ble_eq_true rfl) (Nat.le_of_ble_eq_true rfl) rfl rfl (mj_Ok.up (by decide) (rp_isRegister (D := 0) hx)) (fun v' h' hq' => ?_) (fun i h' hq' => by rcases hq' with ⟨_, _, h⟩ | ⟨_, h⟩ <;> cases h)
  rcases hq' with ⟨x1, x2, hq'⟩ | ⟨cn, hq'⟩
  case' inr =>
    cases hq'
    refine mj_T.if0 (a := 0) rfl ⟨by decide, by decide⟩ (fun hc => ?_) (fun hc => ?_)
    · simp [jc] at hc
    iterate 2 refine mj_T.pl rfl rfl rfl rfl ?_
    refine mj_T.call (ins := .invokevirtual 198) rfl rfl (Nat.le_of_ble_eq_true rfl) (Nat.le_of_ble_eq_true rfl) (by simp [mj_recv, rS_f hs8]) rfl (mj_Ok.up (by decide) (rp_fails (D := 0) (c := 1) hs8)) (fun v' g9 hq' => ?_) (fun i h' hq' => by obtain ⟨_, _, h⟩ := hq'; cases h)
    obtain ⟨_, hs9, hq'⟩ := hq'
    cases hq'
    exact mj_T.ret rfl rfl rfl ⟨1, 0, g9, an.n (by omega), ⟨by decide, by decide⟩, rfl, ⟨_, N, B, X, V, hs9, K8.put ⟨by decide, by decide⟩ (by decide) (by decide) (by decide) (by decide) (by decide), jvu_at _ _ _⟩⟩
  cases hq'
  refine mj_T.if0 (a := 1) rfl ⟨by decide, by decide⟩ (fun hc => ?_) (fun hc => ?_)
  rotate_left
  · simp [jc] at hc
  obtain ⟨x, rfl⟩ := Int.eq_ofNat_of_zero_le x1
  have hfd : fdg (rwN N0 (x : Int)) 13 = jdg N x 13 := (fdg_congr 13 (fun i hi => rwN_at K8.2.1 (by omega) hi)).symm.trans (fdg_jdg N x 13)
  iterate 2 refine mj_T.pl rfl rfl rfl rfl ?_
  refine mj_T.call (ins := .invokevirtual 232) rfl rfl (Nat.le_of_ble_eq_true rfl) (Nat.le_of_ble_eq_true rfl) (by simp [mj_recv, rS_f hs8]) rfl (mj_Ok.up (by decide) (rp_isZero (D := 0) (r := x) (by omega) K8.nR hs8)) (fun v' h' hq' => ?_) (fun i h' hq' => by rcases hq' with ⟨_, h⟩ | ⟨_, h⟩ <;> cases h)
  rcases hq' with ⟨zz, hq'⟩ | ⟨nz10, hq'⟩
  case' inl =>
    cases hq'
    refine mj_T.if0 (a := 1) rfl ⟨by decide, by decide⟩ (fun hc => ?_) (fun hc => ?_)
    · simp [jc] at hc
    iterate 2 refine mj_T.pl rfl rfl rfl rfl ?_
    refine mj_T.call (ins := .invokevirtual 198) rfl rfl (Nat.le_of_ble_eq_true rfl) (Nat.le_of_ble_eq_true rfl) (by simp [mj_recv, rS_f hs8]) rfl (mj_Ok.up (by decide) (rp_fails (D := 0) (c := 2) hs8)) (fun v' g11 hq' => ?_) (fun i h' hq' => by obtain ⟨_, _, h⟩ := hq'; cases h)
    obtain ⟨_, hs11, hq'⟩ := hq'
    cases hq'
    exact mj_T.ret rfl rfl rfl ⟨2, 0, g11, an.y ⟨by omega, by omega⟩ (an.n (by rw [hfd]; omega)), ⟨by decide, by decide⟩, rfl, ⟨_, N, B, X, V, hs11, K8.put ⟨by decide, by decide⟩ (by decide) (by decide) (by decide) (by decide) (by decide), jvu_at _ _ _⟩⟩
  cases hq'
  refine mj_T.if0 (a := 0) rfl ⟨by decide, by decide⟩ (fun hc => ?_) (fun hc => ?_)
  rotate_left
  · simp [jc] at hc
  iterate 3 refine mj_T.pl rfl rfl rfl rfl ?_
  refine mj_T.call (ins := .invokevirtual 213) rfl rfl (Nat.le_of_ble_eq_true rfl) (Nat.le_of_ble_eq_true rfl) (by simp [mj_recv, rS_f hs8]) rfl (mj_Ok.up (by decide) (rp_loads (D := 0) (p := 0) (r := x) (by decide) (by omega) K8.nR hs8)) (fun v' g12 hq' => ?_) (fun i h' hq' => by obtain ⟨_, _, h⟩ := hq'; cases h)
  obtain ⟨_, hs12, hq'⟩ := hq'
  cases hq'
  have a12 : ∀ e, e < 13 → jfl V 0 (fun e => N (x * 13 + e)) 13 (0 * 13 + e) = N (x * 13 + e) := fun e he => jfl_at _ _ _ he
  have b12 : ∀ s, (s < 0 * 13 ∨ 0 * 13 + 13 ≤ s) → jfl V 0 (fun e => N (x * 13 + e)) 13 s = V s := fun s hc => jfl_off _ _ _ hc
  generalize jfl V 0 (fun e => N (x * 13 + e)) 13 = W12 at hs12 a12 b12
  have c1 : ∀ e, e < 13 → (W12 (0 * 13 + e)).natAbs ≤ 10 ^ 18 := fun e he => by
    rw [a12 e he]
    exact K8.sh (r := x) (by omega) he
  have c2 : jpo W12 0 ≠ pz_0 := jpo_ne_of (by rw [jdg_congr 13 a12]; exact nz10)
  iterate 2 refine mj_T.pl rfl rfl rfl rfl ?_
  refine mj_T.call (ins := .invokevirtual 324) rfl rfl (Nat.le_of_ble_eq_true rfl) (Nat.le_of_ble_eq_true rfl) (by simp [mj_recv, rS_f hs12]) rfl (mj_Ok.up (by decide) (jx_laysRow (D := 0) (rG S8 N B T X) (by show 7 < 16; decide) kq_fit51 rp_a51 (a := 0) (by decide) (by decide) (by decide) c2 (fun e he => by have := c1 e he; omega) hs12)) (fun v' g13 hq' => ?_) (fun i h' hq' => by obtain ⟨_, _, _, _, _, _, _, _, _, h⟩ := hq'; cases h)
  obtain ⟨k13, W13, _, hk13, hs13, hrow13, hf13, hn13, sr, hq'⟩ := hq'
  cases hq'
  rw [jpo_rwn (by omega) K8.2.1 a12] at sr
  have hs13a : rS (jvu S8 7 ((k13 + 1 : Nat) : Int)) N B T X W13 g13 := hs13
  have K13 := K8.put (k := 7) (v := ((k13 + 1 : Nat) : Int)) ⟨by omega, by omega⟩ (by decide) (by decide) (by decide) (by decide) (by decide)
  have h713 : (rF (jvu S8 7 ((k13 + 1 : Nat) : Int)))[7]? = some (.int (jn ((k13 + 1 : Nat) : Int))) := rF7
  clear hs13
  have e13 : jvu S8 7 ((k13 + 1 : Nat) : Int) 3 = 0 := (jvu_ne _ _ _ (by decide)).trans e8
  generalize jvu S8 7 ((k13 + 1 : Nat) : Int) = S13 at hs13a K13 h713 e13
  refine mj_T.pl rfl rfl rfl rfl ?_
  refine rT_get hs13a rfl h713 ?_
  exact mj_T.ret rfl rfl rfl ⟨0, _, g13, an.y ⟨by omega, by omega⟩ (an.y (by rw [hfd]; exact nz10) (an.e ⟨k13, _, _, sr, rfl⟩)), ⟨by omega, by omega⟩, rfl, ⟨S13, N, B, X, W13, hs13a, K13, e13⟩⟩
end RVS
section RVT
variable {h : mj_H} {u : Nat} {N : Nat → Int} {H : Nat → Nat → Int} {tm er : Int} {T : Nat → Int}
theorem ga_sturmLength {x : Int} (jx : jr x) (I : jIx N u H tm er T h) : mj_Ok 60 273 [.ref 0, .int (jn x)] h (rZa (sameQ N u H) (A_sturmLength N x) tm er T) := (mj_Ok.up (by decide) (ra_sturmLength jx I)).to (fun r k => k.za)
end RVT

/-! Sturm's stretch and changesAt; changes, rootsBetween of the class. -/
theorem szr_1 : ∀ d, d < 11 → ∀ e, e < d + 1 → bdf (25 - 2 * d) * 1048576 ^ (d - e) < jB ^ (56 - 4 * e) := by decide +kernel
theorem szr_2 : ∀ d, d < 13 → ∀ e, e < d + 1 → bM * 1048576 ^ (d - e) < jB ^ (30 - 2 * e) := by decide +kernel
theorem SJ.room {A : pz_P} {k : Nat} {V : Nat → Int} {X : Nat → Nat → Int} (j : SJ A k V X) {i : Nat} (hi : i ≤ k) {s : Int} (hs : 1 ≤ s ∧ s ≤ 1048576) {e : Nat} (he : e ≤ sdg X i) : jnl (srw V i e * s ^ (sdg X i - e)).natAbs ≤ 56 ∧ jnl (srw V i e * s ^ (sdg X i - e)).natAbs ≤ cL (sro i + 4 + 2 * e + 1) := by
  have hk := j.k12
  have hd := j.d12 hi
  have hc := (j.2.1 i hi).2
  have hb := j.2.2 i hi e
  have hp : (s ^ (sdg X i - e)).natAbs ≤ 1048576 ^ (sdg X i - e) := by
    rw [Int.natAbs_pow]
    exact Nat.pow_le_pow_left (by omega) _
  rw [(sro_k (t := i) (by omega)).2] at hc
  have hcap := mK_z.2.2.2.2.2.2.1 i (by omega) e (by omega)
  rw [hcap]
  by_cases c : i < 2
  · rw [if_pos c] at hb ⊢
    have h1 : (srw V i e * s ^ (sdg X i - e)).natAbs < jB ^ (30 - 2 * e) := by
      rw [Int.natAbs_mul]
      exact Nat.lt_of_le_of_lt (Nat.mul_le_mul hb hp) (szr_2 _ (by omega) e (by omega))
    have h2 := jnl_le_lt.mpr h1
    exact ⟨by omega, h2⟩
  · rw [if_neg c] at hb ⊢
    have h1 : (srw V i e * s ^ (sdg X i - e)).natAbs < jB ^ (56 - 4 * e) := by
      rw [Int.natAbs_mul]
      exact Nat.lt_of_le_of_lt (Nat.mul_le_mul hb hp) (szr_1 _ (by omega) e (by omega))
    have h2 := jnl_le_lt.mpr h1
    exact ⟨by omega, h2⟩
/-! Cells that nothing points to but fields which no method here reads stay as they are. -/
def nV (W : Nat → Prop) (v : Value) : Prop := ∀ a, v = .ref a → ¬ W a
def nS (W : Nat → Prop) (st : List Value) : Prop := ∀ v, v ∈ st → nV W v
def nL (W : Nat → Prop) (loc : mj_L) : Prop := ∀ v, some v ∈ loc → nV W v
/-- what a cell holds -/
def nC (W : Nat → Prop) (E : Nat → Nat → Bool) (e : mj_E) : Prop := (∀ t n f, e = .inl (t, n, f) → ∀ i, i < n → nV W (f i)) ∧ ∀ c fs, e = .inr (c, fs) → ∀ (i : Nat) v, fs[i]? = some v → E c i = false → nV W v
def nH (W : Nat → Prop) (E : Nat → Nat → Bool) (h : mj_H) : Prop := (∀ a, W a → a < h.length) ∧ ∀ a e, ¬ W a → h[a]? = some e → nC W E e
def nF (h h' : mj_H) : Prop := ∀ (a : Nat) (fs : List Value), h[a]? = some (.inr (10, fs)) → ∃ fs' : List Value, h'[a]? = some (.inr (10, fs')) ∧ fs'[15]? = fs[15]?
def nR (W : Nat → Prop) (E : Nat → Nat → Bool) (h h' : mj_H) : Prop := nH W E h' ∧ (∀ a, W a → h'[a]? = h[a]?) ∧ nF h h'
section NIA
variable {W : Nat → Prop} {E : Nat → Nat → Bool} {h h' h1 h2 : mj_H}
theorem nF.rf : nF h h := fun _ fs e => ⟨fs, e, rfl⟩
theorem nF.tr (p : nF h h1) (q : nF h1 h2) : nF h h2 := fun a fs e => by
  obtain ⟨f1, e1, k1⟩ := p a fs e
  obtain ⟨f2, e2, k2⟩ := q a f1 e1
  exact ⟨f2, e2, k2.trans k1⟩
theorem nR.rf (x : nH W E h) : nR W E h h := ⟨x, fun _ _ => rfl, nF.rf⟩
theorem nR.tr (p : nR W E h h1) (q : nR W E h1 h2) : nR W E h h2 := ⟨q.1, fun a ha => (q.2.1 a ha).trans (p.2.1 a ha), p.2.2.tr q.2.2⟩
theorem nR.app (x : nH W E h) {es : mj_H} (k : ∀ e, e ∈ es → nC W E e) : nR W E h (h ++ es) := by
  have hw : ∀ a, W a → (h ++ es)[a]? = h[a]? := fun a ha => List.getElem?_append_left (x.1 a ha)
  refine ⟨⟨fun a ha => by rw [List.length_append]; have := x.1 a ha; omega, fun a e ha he => ?_⟩, hw, fun a fs e => ⟨fs, ?_, rfl⟩⟩
  · rcases Nat.lt_or_ge a h.length with c | c
    · rw [List.getElem?_append_left c] at he
      exact x.2 a e ha he
    · rw [List.getElem?_append_right c] at he
      exact k e (List.mem_of_getElem? he)
  · rw [List.getElem?_append_left (List.getElem?_eq_some_iff.mp e).1]
    exact e
theorem nR.set (x : nH W E h) {p : Nat} {e0 e : mj_E} (hp : ¬ W p) (h0 : h[p]? = some e0) (k : nC W E e) (kf : ∀ fs, e0 = .inr (10, fs) → ∃ fs' : List Value, e = .inr (10, fs') ∧ fs'[15]? = fs[15]?) : nR W E h (h.set p e) := by
  have hl := (List.getElem?_eq_some_iff.mp h0).1
  refine ⟨⟨fun a ha => by rw [List.length_set]; exact x.1 a ha, fun a e1 ha he => ?_⟩, fun a ha => ?_, fun a fs e1 => ?_⟩
  · by_cases c : p = a
    · subst c
      rw [List.getElem?_set_self hl] at he
      cases he
      exact k
    · rw [List.getElem?_set_ne c] at he
      exact x.2 a e1 ha he
  · rw [List.getElem?_set_ne (fun c => hp (by rw [c]; exact ha))]
  · by_cases c : p = a
    · subst c
      rw [h0] at e1
      cases e1
      obtain ⟨fs', k1, k2⟩ := kf fs rfl
      exact ⟨fs', by rw [List.getElem?_set_self hl, k1], k2⟩
    · exact ⟨fs, by rw [List.getElem?_set_ne c]; exact e1, rfl⟩
theorem nV_i (x : Int32) : nV W (.int x) := fun _ e => by cases e
theorem nV_l (x : Int64) : nV W (.long x) := fun _ e => by cases e
theorem nV_f (x : UInt32) : nV W (.float x) := fun _ e => by cases e
theorem nV_d (x : UInt64) : nV W (.double x) := fun _ e => by cases e
theorem nV_n : nV W .null := fun _ e => by cases e
theorem nV_new (x : nH W E h) {k : Nat} (hk : h.length ≤ k) : nV W (.ref k) := fun a e ha => by
  cases e
  have := x.1 k ha
  omega
theorem nS_c {v : Value} {st : List Value} : nS W (v :: st) ↔ nV W v ∧ nS W st := by
  constructor
  · intro k
    exact ⟨k v List.mem_cons_self, fun w hw => k w (List.mem_cons_of_mem _ hw)⟩
  · rintro ⟨a, b⟩ w hw
    rcases List.mem_cons.mp hw with q | q
    · rw [q]
      exact a
    · exact b w q
theorem nS_0 : nS W [] := fun v hv => by cases hv
theorem nL.set {loc : mj_L} (l : nL W loc) {n : Nat} {o : Option Value} (k : ∀ v, o = some v → nV W v) : nL W (loc.set n o) := fun v hv => by
  rcases List.mem_or_eq_of_mem_set hv with q | q
  · exact l v q
  · exact k v q.symm
theorem nL.st1 {loc : mj_L} (l : nL W loc) {n : Nat} {v : Value} (k : nV W v) : nL W (mj_st1 loc n v) := by
  have k1 : ∀ w, some v = some w → nV W w := fun w e => by
    cases e
    exact k
  have k0 : ∀ w, (none : Option Value) = some w → nV W w := fun w e => by cases e
  unfold mj_st1
  refine nL.set ?_ k1
  split
  · exact l
  · split
    · exact l.set k0
    · exact l.set k0
    · exact l
theorem nL.st2 {loc : mj_L} (l : nL W loc) {n : Nat} {v : Value} (k : nV W v) : nL W (mj_st2 loc n v) := (l.st1 k).set (fun w e => by cases e)
theorem nL.ld {loc : mj_L} (l : nL W loc) {n : Nat} {v : Value} (e : loc[n]? = some (some v)) : nV W v := l v (List.mem_of_getElem? e)
theorem nL.ldA {loc : mj_L} (l : nL W loc) {n : Nat} {v : Value} (e : mj_loadA loc n = some v) : nV W v := by
  unfold mj_loadA at e
  split at e
  · rename_i q
    cases e
    exact l.ld q
  · cases e
theorem nV_ld1 {loc : mj_L} {n : Nat} {v : Value} (e : mj_load1 loc n = some v) : nV W v := by
  unfold mj_load1 at e
  split at e
  · cases e
    exact nV_i _
  · cases e
theorem nV_ldL {loc : mj_L} {n : Nat} {v : Value} (e : mj_loadL loc n = some v) : nV W v := by
  unfold mj_loadL at e
  split at e
  · cases e
    exact nV_l _
  · cases e
theorem nV_ldD {loc : mj_L} {n : Nat} {v : Value} (e : mj_loadD loc n = some v) : nV W v := by
  unfold mj_loadD at e
  split at e
  · cases e
    exact nV_d _
  · cases e
theorem nC_arr {t n : Nat} {f : Nat → Value} (k : ∀ i, i < n → nV W (f i)) : nC W E (.inl (t, n, f)) := ⟨fun t' n' f' e => (by cases e; exact k), fun c fs e => (by cases e)⟩
theorem nC_obj {c : Nat} {fs : List Value} (k : ∀ (i : Nat) v, fs[i]? = some v → E c i = false → nV W v) : nC W E (.inr (c, fs)) := ⟨fun t n f e => (by cases e), fun c' fs' e => (by cases e; exact k)⟩
theorem nV_df (t : Nat) : nV W (mj_df t) := by
  unfold mj_df
  split
  · exact nV_l _
  · exact nV_i _
  · exact nV_i _
  · exact nV_n
theorem nC_upd {t n i : Nat} {f : Nat → Value} {v : Value} (k : nC W E (.inl (t, n, f))) (hv : nV W v) : nC W E (.inl (t, n, updV f i v)) := nC_arr fun j hj => by
  unfold updV
  split
  · exact hv
  · exact k.1 t n f rfl j hj
theorem nV_def (t : FieldType) : nV W (defaultValue t) := by
  cases t <;> (intro a e; cases e)
theorem nC_new (ci : Nat) : nC W E (.inr (ci, mj_new ci)) := nC_obj fun i v hi _ => by
  have hm := List.mem_of_getElem? hi
  unfold mj_new at hm
  obtain ⟨k, _, rfl⟩ := List.mem_map.mp hm
  exact nV_def _
end NIA
def nQi (cl : Nat → Bool) (E : Nat → Nat → Bool) (I : mj_I) : Bool := match I.1 with
  | .getfield _ => !(E I.2.1 I.2.2.1)
  | .putfield _ => !(decide (I.2.1 = 10) && decide (I.2.2.1 = 15))
  | .invokestatic _ => !decide (I.2.2.2.1 ≤ 1) || cl I.2.1
  | .invokevirtual _ => !decide (I.2.2.2.1 ≤ 1) || cl I.2.1
  | .invokespecial _ => !decide (I.2.2.2.1 ≤ 1) || cl I.2.1
  | _ => true
theorem nQi.call {cl : Nat → Bool} {E : Nat → Nat → Bool} {ins : Instr} {r1 r2 r3 r4 r5 : Nat} (hq : nQi cl E (ins, r1, r2, r3, r4, r5) = true) (hk : mj_kind ins r3 = 3) : cl r1 = true := by
  have key : ∀ ins : Instr, (mj_kind ins r3 = if r3 ≤ 1 then 3 else 4) → mj_kind ins r3 = 3 → r3 ≤ 1 := fun ins e k => by
    by_cases c : r3 ≤ 1
    · exact c
    · rw [if_neg c] at e
      rw [e] at k
      exact absurd k (by decide)
  cases ins
  case invokestatic n =>
    have c := key _ rfl hk
    simp only [nQi, c, decide_true, Bool.not_true, Bool.false_or] at hq
    exact hq
  case invokevirtual n =>
    have c := key _ rfl hk
    simp only [nQi, c, decide_true, Bool.not_true, Bool.false_or] at hq
    exact hq
  case invokespecial n =>
    have c := key _ rfl hk
    simp only [nQi, c, decide_true, Bool.not_true, Bool.false_or] at hq
    exact hq
  case new n =>
    exfalso
    simp only [mj_kind] at hk
    split at hk <;> exact absurd hk (by decide)
  all_goals exact absurd hk (by simp [mj_kind])
section NIB
variable {W : Nat → Prop} {E : Nat → Nat → Bool}
theorem nR.step {cl : Nat → Bool} {ins : Instr} {r1 r2 r3 r4 r5 pc pc' : Nat} {loc loc' : mj_L} {st st' : List Value} {h h' : mj_H} (hq : nQi cl E (ins, r1, r2, r3, r4, r5) = true) (x : nH W E h) (s : nS W st) (l : nL W loc) (hs : mj_step ins r1 r2 r3 mj_new pc loc st h = some (pc', loc', st', h')) : nR W E h h' ∧ nS W st' ∧ nL W loc' := by
  cases ins
  case putfield n =>
    simp only [nQi, Bool.not_eq_true', Bool.and_eq_false_iff, decide_eq_false_iff_not] at hq
    simp only [mj_step] at hs
    repeat' split at hs
    all_goals (try (cases hs; done))
    rename_i hh
    cases hs
    rename_i e0
    simp only [nS_c] at s
    have hp : ¬ W _ := s.2.1 _ rfl
    have k0 := x.2 _ _ hp e0
    refine ⟨nR.set x hp e0 (nC_obj fun i v hi hE => ?_) (fun fs e => ?_), s.2.2, l⟩
    · rw [List.getElem?_set] at hi
      split at hi
      · split at hi
        · cases hi
          exact s.1
        · cases hi
      · exact k0.2 _ _ rfl i v hi hE
    · cases e
      refine ⟨_, rfl, ?_⟩
      rw [List.getElem?_set_ne (fun q => ?_)]
      rcases hq with hq | hq
      · exact hq hh.1.symm
      · exact hq q
  case getfield n =>
    simp only [nQi, Bool.not_eq_true'] at hq
    simp only [mj_step] at hs
    repeat' split at hs
    all_goals (try (cases hs; done))
    rename_i st1 a1 o1 ci fs e0 hc o2 v e1
    cases hs
    simp only [nS_c] at s ⊢
    have k0 := x.2 _ _ (s.1 _ rfl) e0
    subst hc
    exact ⟨nR.rf x, ⟨k0.2 _ _ rfl _ _ e1 hq, s.2⟩, l⟩
  case iaload =>
    simp only [mj_step] at hs
    repeat' split at hs
    all_goals (try (cases hs; done))
    rename_i e0 hh
    cases hs
    simp only [nS_c] at s ⊢
    exact ⟨nR.rf x, ⟨(x.2 _ _ (s.2.1 _ rfl) e0).1 _ _ _ rfl _ (mj_in_lt hh.2), s.2.2⟩, l⟩
  case laload =>
    simp only [mj_step] at hs
    repeat' split at hs
    all_goals (try (cases hs; done))
    rename_i e0 hh
    cases hs
    simp only [nS_c] at s ⊢
    exact ⟨nR.rf x, ⟨(x.2 _ _ (s.2.1 _ rfl) e0).1 _ _ _ rfl _ (mj_in_lt hh.2), s.2.2⟩, l⟩
  case baload =>
    simp only [mj_step] at hs
    repeat' split at hs
    all_goals (try (cases hs; done))
    rename_i e0 hh
    cases hs
    simp only [nS_c] at s ⊢
    exact ⟨nR.rf x, ⟨(x.2 _ _ (s.2.1 _ rfl) e0).1 _ _ _ rfl _ (mj_in_lt hh.2), s.2.2⟩, l⟩
  case aaload =>
    simp only [mj_step] at hs
    repeat' split at hs
    all_goals (try (cases hs; done))
    rename_i e0 hh
    cases hs
    simp only [nS_c] at s ⊢
    exact ⟨nR.rf x, ⟨(x.2 _ _ (s.2.1 _ rfl) e0).1 _ _ _ rfl _ (mj_in_lt hh.2), s.2.2⟩, l⟩
  case iastore =>
    simp only [mj_step] at hs
    repeat' split at hs
    all_goals (try (cases hs; done))
    rename_i e0 hh
    cases hs
    simp only [nS_c] at s
    have hp : ¬ W _ := s.2.2.1 _ rfl
    exact ⟨nR.set x hp e0 (nC_upd (x.2 _ _ hp e0) (nV_i _)) (fun fs e => by cases e), s.2.2.2, l⟩
  case lastore =>
    simp only [mj_step] at hs
    repeat' split at hs
    all_goals (try (cases hs; done))
    rename_i e0 hh
    cases hs
    simp only [nS_c] at s
    have hp : ¬ W _ := s.2.2.1 _ rfl
    exact ⟨nR.set x hp e0 (nC_upd (x.2 _ _ hp e0) (nV_l _)) (fun fs e => by cases e), s.2.2.2, l⟩
  case bastore =>
    simp only [mj_step] at hs
    repeat' split at hs
    all_goals (try (cases hs; done))
    rename_i e0 hh
    cases hs
    simp only [nS_c] at s
    have hp : ¬ W _ := s.2.2.1 _ rfl
    exact ⟨nR.set x hp e0 (nC_upd (x.2 _ _ hp e0) (nV_i _)) (fun fs e => by cases e), s.2.2.2, l⟩
  case aastore =>
    simp only [mj_step] at hs
    repeat' split at hs
    all_goals (try (cases hs; done))
    rename_i e0 _ _ _ _ hh
    cases hs
    simp only [nS_c] at s
    have hp : ¬ W _ := s.2.2.1 _ rfl
    exact ⟨nR.set x hp e0 (nC_upd (x.2 _ _ hp e0) s.1) (fun fs e => by cases e), s.2.2.2, l⟩
  case new n =>
    simp only [mj_step] at hs
    cases hs
    exact ⟨nR.app x (fun e he => by cases List.mem_singleton.mp he; exact nC_new _), nS_c.mpr ⟨nV_new x (Nat.le_refl _), s⟩, l⟩
  case newarray n =>
    simp only [mj_step] at hs
    repeat' split at hs
    all_goals (try (cases hs; done))
    cases hs
    simp only [nS_c] at s
    exact ⟨nR.app x (fun e he => by cases List.mem_singleton.mp he; exact nC_arr (fun i _ => nV_df _)), nS_c.mpr ⟨nV_new x (Nat.le_refl _), s.2⟩, l⟩
  case anewarray n =>
    simp only [mj_step] at hs
    repeat' split at hs
    all_goals (try (cases hs; done))
    cases hs
    simp only [nS_c] at s
    exact ⟨nR.app x (fun e he => by cases List.mem_singleton.mp he; exact nC_arr (fun i _ => nV_n)), nS_c.mpr ⟨nV_new x (Nat.le_refl _), s.2⟩, l⟩
  case multianewarray n m =>
    simp only [mj_step] at hs
    repeat' split at hs
    all_goals (try (cases hs; done))
    cases hs
    simp only [nS_c] at s
    refine ⟨nR.app x (fun e he => ?_), nS_c.mpr ⟨nV_new x (Nat.le_refl _), s.2.2⟩, l⟩
    rcases List.mem_cons.mp he with q | q
    · rw [q]
      refine nC_arr (fun i _ => ?_)
      show nV W (if _ then _ else _)
      split <;> first | exact nV_n | exact nV_new x (by omega)
    · unfold mj_rows at q
      obtain ⟨k, _, rfl⟩ := List.mem_map.mp q
      exact nC_arr (fun i _ => nV_l _)
  all_goals simp only [mj_step, Option.map_eq_some_iff] at hs
  all_goals (try (cases hs; done))
  all_goals (try (obtain ⟨v, hv, hs⟩ := hs; cases hs; exact ⟨nR.rf x, nS_c.mpr ⟨by first | exact nV_ld1 hv | exact nV_ldL hv | exact nV_ldD hv | exact l.ldA hv, s⟩, l⟩))
  all_goals (repeat' split at hs)
  all_goals (try (cases hs; done))
  all_goals cases hs
  all_goals (try simp only [nS_c] at s)
  all_goals (try simp only [nS_c])
  all_goals (try (exact ⟨nR.rf x, s, l⟩))
  all_goals (try (exact ⟨nR.rf x, by simp only [s, nV_i, nV_l, nV_f, nV_d, and_self], l⟩))
  all_goals (try (exact ⟨nR.rf x, by simp only [s], l.st1 (by first | exact nV_i _ | exact s.1)⟩))
  all_goals (try (exact ⟨nR.rf x, by simp only [s], l.st2 (by first | exact nV_l _ | exact nV_d _)⟩))
  all_goals (try (exact ⟨nR.rf x, s, l.st1 (nV_i _)⟩))
theorem nR.prim {r3 : Nat} {st st' : List Value} {h h' : mj_H} (x : nH W E h) (s : nS W st) (hs : mj_prim r3 st h = some (st', h')) : nR W E h h' ∧ nS W st' := by
  unfold mj_prim at hs
  split at hs
  · split at hs
    · split at hs
      · cases hs
        simp only [nS_c] at s ⊢
        exact ⟨nR.rf x, nV_i _, s.2.2⟩
      · cases hs
    · cases hs
  · split at hs
    · split at hs
      · cases hs
        simp only [nS_c] at s ⊢
        exact ⟨nR.rf x, nV_i _, s.2.2⟩
      · cases hs
    · cases hs
  · split at hs
    · split at hs
      · rename_i h0
        split at hs
        · rename_i h1
          split at hs
          · rename_i hc
            cases hs
            simp only [nS_c] at s
            have hp : ¬ W _ := s.2.2.1 _ rfl
            have hp0 : ¬ W _ := s.2.2.2.2.1 _ rfl
            refine ⟨nR.set x hp h1 (nC_arr (fun i hi => ?_)) (fun fs e => by cases e), s.2.2.2.2.2⟩
            unfold va_cpy
            split
            · exact (x.2 _ _ hp0 h0).1 _ _ _ rfl _ (by omega)
            · exact (x.2 _ _ hp h1).1 _ _ _ rfl _ hi
          · cases hs
        · cases hs
      · cases hs
    · cases hs
  · split at hs
    · split at hs
      · cases hs
        simp only [nS_c] at s
        exact ⟨nR.rf x, s.2⟩
      · cases hs
    · cases hs
  · cases hs
theorem nV_retv {ins : Instr} {ret : Option FieldType} {st : List Value} {v : Value} (s : nS W st) (e : mj_retv ins ret st = some (some v)) : nV W v := by
  unfold mj_retv at e
  repeat' split at e
  all_goals (try (cases e; done))
  all_goals cases e
  all_goals exact s _ List.mem_cons_self
theorem nL_rep (n : Nat) : nL W (List.replicate n none) := fun v hv => by
  have := (List.mem_replicate.mp hv).2
  cases this
theorem nL_loc0 : ∀ (as : List Value) (n : Nat), nS W as → nL W (mj_loc0 n as)
  | [], n, _ => by
    unfold mj_loc0
    exact nL_rep n
  | v :: t, n, s => by
    unfold mj_loc0
    have s2 := nS_c.mp s
    split
    · intro w hw
      rcases List.mem_cons.mp hw with q | q
      · cases q
        exact s2.1
      · rcases List.mem_cons.mp q with q | q
        · cases q
        · exact nL_loc0 t _ s2.2 w q
    · intro w hw
      rcases List.mem_cons.mp hw with q | q
      · cases q
        exact s2.1
      · exact nL_loc0 t _ s2.2 w q
theorem nL.kill {loc : mj_L} (l : nL W loc) (k : Nat) : nL W (mj_kill loc k) := (l.st1 (nV_i _)).set (fun w e => by cases e)
theorem nS_take {st : List Value} (s : nS W st) (n : Nat) : nS W (st.take n).reverse := fun v hv => s v (List.mem_of_mem_take (List.mem_reverse.mp hv))
theorem nS_drop {st : List Value} (s : nS W st) (n : Nat) : nS W (st.drop n) := fun v hv => s v (List.mem_of_mem_drop hv)
theorem nC_exc {c : Nat} : nC W E (.inr (c, [.null, .null, .null, .null, .null, .null])) := nC_obj fun i v hi _ => by
  have hm := List.mem_of_getElem? hi
  have : v = .null := by
    simp only [List.mem_cons, List.not_mem_nil, or_false] at hm
    rcases hm with q | q | q | q | q | q <;> exact q
  rw [this]
  exact nV_n
/-- what a call leaves -/
def nA (W : Nat → Prop) (E : Nat → Nat → Bool) (h : mj_H) (r : mj_R) : Prop := nR W E h r.2 ∧ ∀ v, r.1 = .inl (some v) → nV W v
theorem nR.loop {cl : Nat → Bool} {call : Nat → List Value → mj_H → Option mj_R} (hcall : ∀ j as h r, cl j = true → nS W as → nH W E h → call j as h = some r → nA W E h r) {M : mj_M} (hM : ∀ pc I, M.2.2.2.2.1 pc = some I → nQi cl E I = true) : ∀ {F pc : Nat} {loc : mj_L} {st : List Value} {h : mj_H} {r : mj_R}, mj_loop call M F pc loc st h = some r → nH W E h → nS W st → nL W loc → nA W E h r
  | 0, _, _, _, _, _, hs, _, _, _ => by cases hs
  | F + 1, pc, loc, st, h, r, hs, x, s, l => by
    unfold mj_loop at hs
    cases hcode : M.2.2.2.2.1 pc with
    | none => rw [hcode] at hs; cases hs
    | some I =>
      have hI := hM pc I hcode
      obtain ⟨ins, r1, r2, r3, r4, r5⟩ := I
      rw [hcode] at hs
      simp only at hs
      split at hs
      · split at hs
        · rename_i h1
          obtain ⟨a, b, c⟩ := nR.step hI x s l h1
          obtain ⟨a2, b2⟩ := nR.loop hcall hM hs a.1 b c
          exact ⟨a.tr a2, b2⟩
        · cases hs
      · split at hs
        · rename_i h1
          cases hs
          refine ⟨nR.rf x, fun v e => ?_⟩
          have e : Sum.inl _ = Sum.inl (some v) := e
          cases e
          exact nV_retv s h1
        · cases hs
      · split at hs
        · cases hs
          refine ⟨nR.app x (fun e he => ?_), fun v e => ?_⟩
          · rw [List.mem_singleton.mp he]
            exact nC_exc
          · cases e
        · cases hs
      · rename_i hk
        have hcl := nQi.call hI hk
        split at hs
        · split at hs
          · rename_i v h2 h1
            obtain ⟨a, b⟩ := hcall _ _ _ _ hcl (nS_take s _) x h1
            have s2 : nS W (v.toList ++ st.drop r2) := fun w hw => by
              rcases List.mem_append.mp hw with q | q
              · cases v with
                | none => cases q
                | some u =>
                  have : w = u := by simpa using q
                  rw [this]
                  exact b u rfl
              · exact nS_drop s _ w q
            obtain ⟨a2, b2⟩ := nR.loop hcall hM hs a.1 s2 l
            exact ⟨a.tr a2, b2⟩
          · rename_i h1
            obtain ⟨a, b⟩ := hcall _ _ _ _ hcl (nS_take s _) x h1
            split at hs
            · cases hs
              exact ⟨a, fun v e => by cases e⟩
            · split at hs
              · split at hs
                · obtain ⟨a2, b2⟩ := nR.loop hcall hM hs a.1 nS_0 (l.kill _)
                  exact ⟨a.tr a2, b2⟩
                · cases hs
              · cases hs
          · cases hs
        · cases hs
      · split at hs
        · rename_i h1
          obtain ⟨a, b⟩ := nR.prim x s h1
          obtain ⟨a2, b2⟩ := nR.loop hcall hM hs a.1 b l
          exact ⟨a.tr a2, b2⟩
        · cases hs
theorem nR.run {cl : Nat → Bool} {P : List mj_M} (hP : ∀ j M, P[j]? = some M → cl j = true → ∀ pc I, M.2.2.2.2.1 pc = some I → nQi cl E I = true) (F : Nat) : ∀ (D j : Nat) (as : List Value) (h : mj_H) (r : mj_R), cl j = true → nS W as → nH W E h → mj_run P F D j as h = some r → nA W E h r
  | 0, _, _, _, _, _, _, _, hs => by cases hs
  | D + 1, j, as, h, r, hc, s, x, hs => by
    simp only [mj_run] at hs
    split at hs
    · cases hs
    · rename_i M hM
      split at hs
      · exact nR.loop (fun j as h r q => nR.run hP F D j as h r q) (hP j M hM hc) hs x nS_0 (nL_loc0 as _ s)
      · cases hs
end NIB
/-! Runs that store no references: what the cells outside W hold stays without references into W. -/
def nWi (cl : Nat → Bool) (I : mj_I) : Bool := match I.1 with
  | .aastore => false
  | .multianewarray _ _ => false
  | .putfield _ => !(decide (I.2.2.2.1 = 3))
  | .invokestatic _ => decide (I.2.2.2.1 ≤ 1) && cl I.2.1
  | .invokevirtual _ => decide (I.2.2.2.1 ≤ 1) && cl I.2.1
  | .invokespecial _ => decide (I.2.2.2.1 ≤ 1) && cl I.2.1
  | _ => true
theorem nWi.call {cl : Nat → Bool} {ins : Instr} {r1 r2 r3 r4 r5 : Nat} (hq : nWi cl (ins, r1, r2, r3, r4, r5) = true) (hk : mj_kind ins r3 = 3) : cl r1 = true := by
  cases ins
  case invokestatic n => exact (Bool.and_eq_true_iff.mp hq).2
  case invokevirtual n => exact (Bool.and_eq_true_iff.mp hq).2
  case invokespecial n => exact (Bool.and_eq_true_iff.mp hq).2
  case new n =>
    exfalso
    simp only [mj_kind] at hk
    split at hk <;> exact absurd hk (by decide)
  all_goals exact absurd hk (by simp [mj_kind])
theorem nWi.prim {cl : Nat → Bool} {ins : Instr} {r1 r2 r3 r4 r5 : Nat} (hq : nWi cl (ins, r1, r2, r3, r4, r5) = true) (h0 : mj_kind ins r3 ≠ 0) (h1 : mj_kind ins r3 ≠ 1) (h2 : mj_kind ins r3 ≠ 2) (h3 : mj_kind ins r3 ≠ 3) : False := by
  have key : ∀ ins : Instr, (mj_kind ins r3 = if r3 ≤ 1 then 3 else 4) → mj_kind ins r3 ≠ 3 → decide (r3 ≤ 1) = true → False := fun ins e k c => by
    rw [if_pos (of_decide_eq_true c)] at e
    exact k e
  cases ins
  case invokestatic n => exact key _ rfl h3 (Bool.and_eq_true_iff.mp hq).1
  case invokevirtual n => exact key _ rfl h3 (Bool.and_eq_true_iff.mp hq).1
  case invokespecial n => exact key _ rfl h3 (Bool.and_eq_true_iff.mp hq).1
  case new n =>
    simp only [mj_kind] at h0 h2
    split at h0
    · rename_i c
      rw [if_pos c] at h2
      exact h2 rfl
    · exact h0 rfl
  all_goals first | exact h0 rfl | exact h1 rfl
section NIW
variable {W : Nat → Prop} {E : Nat → Nat → Bool}
theorem mj_fit_n {k : Nat} {v : Value} (hk : k ≠ 3) (e : mj_fit k v = true) : nV W v := by
  unfold mj_fit at e
  split at e
  · exact nV_i _
  · exact nV_l _
  · exact nV_i _
  · exact absurd rfl hk
  · cases e
theorem nH.set {h : mj_H} (x : nH W E h) {p : Nat} {e : mj_E} (k : ¬ W p → nC W E e) : nH W E (h.set p e) := by
  refine ⟨fun a ha => by rw [List.length_set]; exact x.1 a ha, fun a e1 ha he => ?_⟩
  by_cases c : p = a
  · subst c
    have hl : p < h.length := by
      have := (List.getElem?_eq_some_iff.mp he).1
      rwa [List.length_set] at this
    rw [List.getElem?_set_self hl] at he
    cases he
    exact k ha
  · rw [List.getElem?_set_ne c] at he
    exact x.2 a e1 ha he
theorem nW.step {cl : Nat → Bool} {ins : Instr} {r1 r2 r3 r4 r5 pc pc' : Nat} {loc loc' : mj_L} {st st' : List Value} {h h' : mj_H} (hq : nWi cl (ins, r1, r2, r3, r4, r5) = true) (x : nH W E h) (hs : mj_step ins r1 r2 r3 mj_new pc loc st h = some (pc', loc', st', h')) : nH W E h' := by
  cases ins
  case aastore => cases hq
  case multianewarray n m => cases hq
  case putfield n =>
    simp only [nWi, Bool.not_eq_true', decide_eq_false_iff_not] at hq
    simp only [mj_step] at hs
    repeat' split at hs
    all_goals (try (cases hs; done))
    rename_i e0 hh
    cases hs
    refine x.set (fun hp => nC_obj fun i v hi hE => ?_)
    rw [List.getElem?_set] at hi
    split at hi
    · split at hi
      · cases hi
        exact mj_fit_n hq hh.2.2
      · cases hi
    · exact (x.2 _ _ hp e0).2 _ _ rfl i v hi hE
  case iastore =>
    simp only [mj_step] at hs
    repeat' split at hs
    all_goals (try (cases hs; done))
    rename_i e0 hh
    cases hs
    exact x.set (fun hp => nC_upd (x.2 _ _ hp e0) (nV_i _))
  case lastore =>
    simp only [mj_step] at hs
    repeat' split at hs
    all_goals (try (cases hs; done))
    rename_i e0 hh
    cases hs
    exact x.set (fun hp => nC_upd (x.2 _ _ hp e0) (nV_l _))
  case bastore =>
    simp only [mj_step] at hs
    repeat' split at hs
    all_goals (try (cases hs; done))
    rename_i e0 hh
    cases hs
    exact x.set (fun hp => nC_upd (x.2 _ _ hp e0) (nV_i _))
  case new n =>
    simp only [mj_step] at hs
    cases hs
    exact (nR.app x (fun e he => by cases List.mem_singleton.mp he; exact nC_new _)).1
  case newarray n =>
    simp only [mj_step] at hs
    repeat' split at hs
    all_goals (try (cases hs; done))
    cases hs
    exact (nR.app x (fun e he => by cases List.mem_singleton.mp he; exact nC_arr (fun i _ => nV_df _))).1
  case anewarray n =>
    simp only [mj_step] at hs
    repeat' split at hs
    all_goals (try (cases hs; done))
    cases hs
    exact (nR.app x (fun e he => by cases List.mem_singleton.mp he; exact nC_arr (fun i _ => nV_n))).1
  all_goals simp only [mj_step, Option.map_eq_some_iff] at hs
  all_goals (try (cases hs; done))
  all_goals (try (cases hs; exact x))
  all_goals (try (obtain ⟨_, _, hs⟩ := hs; cases hs; exact x))
  all_goals (repeat' split at hs)
  all_goals (try (cases hs; done))
  all_goals (try (cases hs; exact x))
theorem nW.loop {cl : Nat → Bool} {call : Nat → List Value → mj_H → Option mj_R} (hcall : ∀ j as h r, cl j = true → nH W E h → call j as h = some r → nH W E r.2) {M : mj_M} (hM : ∀ pc I, M.2.2.2.2.1 pc = some I → nWi cl I = true) : ∀ {F pc : Nat} {loc : mj_L} {st : List Value} {h : mj_H} {r : mj_R}, mj_loop call M F pc loc st h = some r → nH W E h → nH W E r.2
  | 0, _, _, _, _, _, hs, _ => by cases hs
  | F + 1, pc, loc, st, h, r, hs, x => by
    unfold mj_loop at hs
    cases hcode : M.2.2.2.2.1 pc with
    | none => rw [hcode] at hs; cases hs
    | some I =>
      have hI := hM pc I hcode
      obtain ⟨ins, r1, r2, r3, r4, r5⟩ := I
      rw [hcode] at hs
      simp only at hs
      split at hs
      · split at hs
        · rename_i h1
          exact nW.loop hcall hM hs (nW.step hI x h1)
        · cases hs
      · split at hs
        · cases hs
          exact x
        · cases hs
      · split at hs
        · cases hs
          exact (nR.app x (fun e he => by rw [List.mem_singleton.mp he]; exact nC_exc)).1
        · cases hs
      · rename_i hk
        have hcl := nWi.call hI hk
        split at hs
        · split at hs
          · rename_i h1
            exact nW.loop hcall hM hs (hcall _ _ _ _ hcl x h1)
          · rename_i h1
            split at hs
            · cases hs
              exact hcall _ _ _ _ hcl x h1
            · split at hs
              · split at hs
                · exact nW.loop hcall hM hs (hcall _ _ _ _ hcl x h1)
                · cases hs
              · cases hs
          · cases hs
        · cases hs
      · rename_i k0 k1 k2 k3
        exact (nWi.prim hI k0 k1 k2 k3).elim
theorem nW.run {cl : Nat → Bool} {P : List mj_M} (hP : ∀ j M, P[j]? = some M → cl j = true → ∀ pc I, M.2.2.2.2.1 pc = some I → nWi cl I = true) (F : Nat) : ∀ (D j : Nat) (as : List Value) (h : mj_H) (r : mj_R), cl j = true → nH W E h → mj_run P F D j as h = some r → nH W E r.2
  | 0, _, _, _, _, _, _, hs => by cases hs
  | D + 1, j, as, h, r, hc, x, hs => by
    simp only [mj_run] at hs
    split at hs
    · cases hs
    · rename_i M hM
      split at hs
      · exact nW.loop (fun j as h r q => nW.run hP F D j as h r q) (hP j M hM hc) hs x
      · cases hs
end NIW
def nE (c i : Nat) : Bool := (decide (c = 9) && decide (i = 5)) || (decide (c = 10) && decide (i = 14))
def nWr (a : Nat) : Prop := a = 15 ∨ a = 16 ∨ a = 570
/-! The reference's text, exactly. -/
def wtx (X : Nat → Int) (L : List Int) : Prop := ∀ (j : Nat) (c : Int), L[j]? = some c → X j = c
theorem wtx.put {X : Nat → Int} {L : List Int} (x : wtx X L) (c : Int) : wtx (jvu X L.length c) (L ++ [c]) := fun j d e => by
  rcases Nat.lt_or_ge j L.length with q | q
  · rw [List.getElem?_append_left q] at e
    rw [jvu_ne _ _ _ (by omega)]
    exact x j d e
  · rw [List.getElem?_append_right q] at e
    have h1 : j - L.length < [c].length := (List.getElem?_eq_some_iff.mp e).1
    have h1 : j - L.length < 1 := h1
    have hj : j = L.length := by omega
    subst hj
    rw [Nat.sub_self] at e
    have e : some c = some d := e
    cases e
    exact jvu_at _ _ _
section RTX
variable {h : mj_H} {tm er : Int} {T : Nat → Int} {N0 : Nat → Int} {u0 : Nat} {H : Nat → Nat → Int}
/-- the reference's text stands in its small heap -/
def rt0 (L : List Int) (h : mj_H) : Prop := ∃ (fs : List Value) (f : Nat → Value), h[0]? = some (.inr (10, fs)) ∧ fs[15]? = some (.int (jn ((L.length : Nat) : Int))) ∧ h[7]? = some (.inl (0, 600, f)) ∧ L.length ≤ 600 ∧ ∀ (j : Nat) (c : Int), L[j]? = some c → f j = .int (jn c)
theorem rt0.of {S N B X V : Nat → Int} {L : List Int} (hs : rS S N B T X V h) (h15 : S 15 = ((L.length : Nat) : Int)) (hl : L.length ≤ 600) (x : wtx X L) : rt0 L h := ⟨rF S, fun j => .int (jn (X j)), rS_f hs, by show some (Value.int (jn (S 15))) = _; rw [h15], rS_X hs, hl, fun j c e => congrArg (fun z : Int => Value.int (jn z)) (x j c e)⟩
/-- what stays: all but the field 3 -/
theorem rt0.mv {S N B X V : Nat → Int} {S2 N2 B2 X2 V2 T2 : Nat → Int} {h2 : mj_H} {L : List Int} (r : rt0 L h) (hs : rS S N B T X V h) (hs2 : rS S2 N2 B2 T2 X2 V2 h2) (e : S2 15 = S 15) (ex : X2 = X) : rt0 L h2 := by
  obtain ⟨fs, f, a, b, c, d, k⟩ := r
  have a1 := (rS_f hs).symm.trans a
  have c1 := (rS_X hs).symm.trans c
  cases a1
  cases c1
  refine ⟨rF S2, fun j => .int (jn (X2 j)), rS_f hs2, ?_, rS_X hs2, d, fun j z e => ?_⟩
  · show some (Value.int (jn (S2 15))) = _
    rw [e]
    exact b
  · rw [ex]
    exact k j z e
end RTX
def cTx (L : List Int) (h : mj_H) : Prop := jBt 15 L.length (fun j => L.getD j 0) h ∧ L.length ≤ 340 ∧ smS L
def rtx (L : List Int) (h : mj_H) : Prop := ∃ (fs : List Value) (f : Nat → Value), h[563]? = some (.inr (10, fs)) ∧ fs[15]? = some (.int (jn ((L.length : Nat) : Int))) ∧ h[570]? = some (.inl (0, 600, f)) ∧ L.length ≤ 600 ∧ ∀ (j : Nat) (c : Int), L[j]? = some c → f j = .int (jn c)
/-- both hold the text L; nothing else points to it -/
def YW (L : List Int) (h : mj_H) : Prop := nH nWr nE h ∧ cTx L h ∧ rtx L h
theorem lgD {L : List Int} {j : Nat} (hj : j < L.length) : L[j]? = some (L.getD j 0) := by
  rw [List.getD_eq_getElem?_getD, List.getElem?_eq_getElem hj]
  rfl
theorem smS.at {L : List Int} (s : smS L) {j : Nat} (hj : j < L.length) : 0 ≤ L.getD j 0 ∧ L.getD j 0 < 128 := s _ (List.mem_of_getElem? (lgD hj))
section YWS
variable {h h' h1 hr : mj_H} {L : List Int}
theorem YW.nr (y : YW L h) (r : nR nWr nE h h') : YW L h' := by
  obtain ⟨a, ⟨⟨b1, Lb, f, b2, b3, b4, b5⟩, c1, c2⟩, fs, g, d1, d2, d3, d4⟩ := y
  obtain ⟨r1, r2, r3⟩ := r
  obtain ⟨fs', e1, e2⟩ := r3 563 fs d1
  exact ⟨r1, ⟨⟨(r2 15 (Or.inl rfl)).trans b1, Lb, f, b2, b3, (r2 16 (Or.inr (Or.inl rfl))).trans b4, b5⟩, c1, c2⟩, fs', g, e1, e2.trans d2, (r2 570 (Or.inr (Or.inr rfl))).trans d3, d4⟩
theorem cTx.mv (y : cTx L h) (e1 : h'[15]? = h[15]?) (e2 : h'[16]? = h[16]?) : cTx L h' := by
  obtain ⟨⟨b1, Lb, f, b2, b3, b4, b5⟩, c⟩ := y
  exact ⟨⟨e1.trans b1, Lb, f, b2, b3, e2.trans b4, b5⟩, c⟩
theorem cTx.app (y : cTx L h) (es : mj_H) : cTx L (h ++ es) := by
  have y0 := y
  obtain ⟨⟨b1, Lb, f, b2, b3, b4, b5⟩, c⟩ := y0
  exact y.mv (List.getElem?_append_left (List.getElem?_eq_some_iff.mp b1).1) (List.getElem?_append_left (List.getElem?_eq_some_iff.mp b4).1)
theorem cTx.set (y : cTx L h) (e : mj_E) : cTx L (h.set 571 e) := y.mv (List.getElem?_set_ne (by decide)) (List.getElem?_set_ne (by decide))
theorem rt0.at (E : jEm 563 hr h) (y : rt0 L hr) : rtx L h := by
  obtain ⟨fs, f, a, b, c, d, k⟩ := y
  refine ⟨fs.map (mj_rn (fun k => 563 + k)), fun j => mj_rn (fun k => 563 + k) (f j), E.2.2.2 0 _ a, ?_, E.2.2.2 7 _ c, d, fun j z e => ?_⟩
  · rw [List.getElem?_map, b]
    rfl
  · show mj_rn _ (f j) = _
    rw [k j z e]
    rfl
theorem cTx.low (y : cTx L h) (f : ∀ a : Nat, a < 563 → h'[a]? = h[a]?) : cTx L h' := y.mv (f 15 (by decide)) (f 16 (by decide))
/-- a call of the reference that tells its text -/
theorem YX.wr {D j : Nat} {as as2 : List Value} {Lc L' : List Int} {N : Nat → Int} {u : Nat} {H : Nat → Nat → Int} {tm er : Int} {T : Nat → Int} (E : jEm 563 hr h) (x : cTx Lc h) (c : mj_Ok D j as hr (fun r => rIx N u H tm er T r ∧ rt0 L' r.2)) (has : ∀ N, as.map (mj_rn (jro 563 N)) = as2) : mj_Ok D j as2 h (fun r => cTx Lc r.2 ∧ rtx L' r.2) := by
  have hL := E.2.2.1
  have := E.run c (fun r q h3 => by
    obtain ⟨⟨_, _, _, rfl, k⟩, _⟩ := q
    exact jI_s8 k.tI h3)
  rw [has] at this
  refine this.to (fun r hq => ?_)
  obtain ⟨r0, hr', ⟨_, q⟩, _, d, _, f⟩ := hq
  exact ⟨x.low (fun a ha => f a (by omega) (Or.inl ha)), q.at d⟩
end YWS
section YWC
variable {g h : mj_H} {n D : Nat} {V : Nat → Int} {X : Nat → Nat → Int} {N : Nat → Int} {H : Nat → Nat → Int} {u : Nat} {L : List Int}
def A_wAt (L : List Int) (a : Int) : Int → Int → Prop := an [(0 ≤ a ∧ a < ((L.length : Nat) : Int), 1)] (fun z => z = L.getD a.toNat 0)
theorem A_wAt.ag {a c1 z1 c2 z2 : Int} (p : A_wAt L a c1 z1) (q : A_wAt L a c2 z2) : c1 = c2 ∧ (c1 = 0 → z1 = z2) := an.ag (fun _ _ a b => a.trans b.symm) (by simp) p q
end YWC
/-! Values at fractions, homogeneous; a row of Sturm loses changes of sign as the place goes up, one at each root of its first row. -/
def hz : Nat → pz_P → Int → Int → Int
  | 0, _, _, _ => 0
  | n + 1, p, a, D => p 0 * D ^ n + a * hz n (pz_tl p) a D
theorem hz_s (n : Nat) (p : pz_P) (a D : Int) : hz (n + 1) p a D = p 0 * D ^ n + a * hz n (pz_tl p) a D := rfl
theorem hz_zero : ∀ (n : Nat) (p : pz_P) (a D : Int), (∀ i, p i = 0) → hz n p a D = 0
  | 0, _, _, _, _ => rfl
  | n + 1, p, a, D, h => by
    rw [hz_s, h 0, hz_zero n (pz_tl p) a D (fun i => h (i + 1)), Int.mul_zero, Int.zero_mul]
    rfl
theorem hz_more : ∀ (n k : Nat) (p : pz_P) (a D : Int), pz_lt p n → hz (n + k) p a D = D ^ k * hz n p a D
  | 0, k, p, a, D, h => by
    rw [hz_zero _ p a D (fun i => h i (Nat.zero_le _))]
    exact (Int.mul_zero _).symm
  | n + 1, k, p, a, D, h => by
    rw [show n + 1 + k = (n + k) + 1 by omega, hz_s, hz_s, hz_more n k (pz_tl p) a D (fun i hi => h (i + 1) (by omega)), Int.pow_add, Int.mul_add]
    have e1 : p 0 * (D ^ n * D ^ k) = D ^ k * (p 0 * D ^ n) := by ac_rfl
    have e2 : a * (D ^ k * hz n (pz_tl p) a D) = D ^ k * (a * hz n (pz_tl p) a D) := by ac_rfl
    rw [e1, e2]
theorem hz_add : ∀ (n : Nat) (p q : pz_P) (a D : Int), hz n (pz_add p q) a D = hz n p a D + hz n q a D
  | 0, _, _, _, _ => rfl
  | n + 1, p, q, a, D => by
    show (p 0 + q 0) * D ^ n + a * hz n (pz_add (pz_tl p) (pz_tl q)) a D = _
    rw [hz_add n, hz_s, hz_s, Int.mul_add, Int.add_mul]
    omega
theorem hz_sc : ∀ (n : Nat) (c : Int) (p : pz_P) (a D : Int), hz n (pz_sc c p) a D = c * hz n p a D
  | 0, c, _, _, _ => (Int.mul_zero c).symm
  | n + 1, c, p, a, D => by
    show c * p 0 * D ^ n + a * hz n (pz_sc c (pz_tl p)) a D = _
    rw [hz_sc n, hz_s, Int.mul_add, Int.mul_left_comm, Int.mul_assoc]
theorem hz_mul : ∀ (a b : Nat) (u f : pz_P) (x D : Int), pz_lt u a → pz_lt f b → hz (a + b) (pz_mul u f) x D = D * (hz a u x D * hz b f x D)
  | 0, b, u, f, x, D, hu, hf => by
    rw [hz_zero _ (pz_mul u f) x D (fun i => pz_c_zeroL i u f (fun j => hu j (Nat.zero_le _)))]
    show 0 = D * (0 * _)
    rw [Int.zero_mul, Int.mul_zero]
  | a + 1, b, u, f, x, D, hu, hf => by
    rw [show a + 1 + b = (a + b) + 1 by omega, hz_s, hz_s, pz_tl_mul, hz_add, hz_sc, hz_mul a b (pz_tl u) f x D (fun i hi => hu (i + 1) (by omega)) hf]
    have h1 : D ^ (a + 1) * hz b f x D = f 0 * D ^ (a + b) + x * hz (a + b) (pz_tl f) x D := by
      rw [← hz_more b (a + 1) f x D hf, show b + (a + 1) = (a + b) + 1 by omega]
      rfl
    have h2 : pz_mul u f 0 = u 0 * f 0 := rfl
    rw [h2]
    have e1 : D * ((u 0 * D ^ a + x * hz a (pz_tl u) x D) * hz b f x D) = u 0 * (D ^ (a + 1) * hz b f x D) + x * (D * (hz a (pz_tl u) x D * hz b f x D)) := by
      rw [Int.add_mul, Int.mul_add, Int.pow_succ]
      congr 1
      · ac_rfl
      · ac_rfl
    rw [e1, h1, Int.mul_add, Int.mul_add]
    have e2 : u 0 * f 0 * D ^ (a + b) = u 0 * (f 0 * D ^ (a + b)) := Int.mul_assoc _ _ _
    have e3 : x * (u 0 * hz (a + b) (pz_tl f) x D) = u 0 * (x * hz (a + b) (pz_tl f) x D) := by ac_rfl
    rw [e2, e3]
    omega
theorem hz_hom : ∀ (n : Nat) (p : pz_P) (a D c : Int), hz (n + 1) p (a * c) (D * c) = c ^ n * hz (n + 1) p a D
  | 0, p, a, D, c => by
    rw [hz_s, hz_s, Int.pow_zero, Int.pow_zero, Int.pow_zero, Int.one_mul]
    show p 0 * 1 + a * c * 0 = p 0 * 1 + a * 0
    rw [Int.mul_zero, Int.mul_zero]
  | n + 1, p, a, D, c => by
    rw [hz_s, hz_hom n (pz_tl p) a D c, hz_s (n + 1) p a D, Int.mul_pow, Int.mul_add]
    have e1 : p 0 * (D ^ (n + 1) * c ^ (n + 1)) = c ^ (n + 1) * (p 0 * D ^ (n + 1)) := by ac_rfl
    have e2 : a * c * (c ^ n * hz (n + 1) (pz_tl p) a D) = c ^ (n + 1) * (a * hz (n + 1) (pz_tl p) a D) := by
      rw [Int.pow_succ]
      ac_rfl
    rw [e1, e2]
theorem hz_one : ∀ (n : Nat) (p : pz_P) (a : Int), hz n p a 1 = pz_ev n p a
  | 0, _, _ => rfl
  | n + 1, p, a => by
    rw [hz_s, hz_one n, Int.one_pow, Int.mul_one]
    rfl
/-- bounds: the value, one step of it, and what the derivative leaves of the step -/
theorem hz_B (M : Nat) : ∀ (n : Nat) (p : pz_P), ∃ K : Nat, ∀ (D : Nat) (a : Int), 1 ≤ D → a.natAbs ≤ M * D → (hz (n + 1) p a (D : Int)).natAbs ≤ K * D ^ n
  | 0, p => ⟨(p 0).natAbs, fun D a hD ha => by
    show (p 0 * 1 + a * 0).natAbs ≤ (p 0).natAbs * 1
    rw [Int.mul_one, Int.mul_zero, Int.add_zero, Nat.mul_one]
    exact Nat.le_refl _⟩
  | n + 1, p => by
    obtain ⟨K, hK⟩ := hz_B M n (pz_tl p)
    refine ⟨(p 0).natAbs + M * K, fun D a hD ha => ?_⟩
    rw [hz_s]
    refine Nat.le_trans (Int.natAbs_add_le _ _) ?_
    rw [Int.natAbs_mul, Int.natAbs_pow, Int.natAbs_mul, Int.natAbs_natCast, Nat.add_mul]
    refine Nat.add_le_add_left ?_ _
    refine Nat.le_trans (Nat.mul_le_mul ha (hK D a hD ha)) (Nat.le_of_eq ?_)
    rw [Nat.pow_succ]
    ac_rfl
theorem hz_L (M : Nat) : ∀ (n : Nat) (p : pz_P), ∃ K : Nat, ∀ (D : Nat) (a : Int), 1 ≤ D → a.natAbs ≤ M * D → (a + 1).natAbs ≤ M * D → (hz (n + 1) p (a + 1) (D : Int) - hz (n + 1) p a (D : Int)).natAbs * D ≤ K * D ^ n
  | 0, p => ⟨0, fun D a hD ha ha1 => by
    have e : hz 1 p (a + 1) (D : Int) - hz 1 p a (D : Int) = 0 := by
      show (p 0 * 1 + (a + 1) * 0) - (p 0 * 1 + a * 0) = 0
      omega
    rw [e]
    exact Nat.le_of_eq (by simp)⟩
  | n + 1, p => by
    obtain ⟨K, hK⟩ := hz_L M n (pz_tl p)
    obtain ⟨K2, hK2⟩ := hz_B M n (pz_tl p)
    refine ⟨M * K + K2, fun D a hD ha ha1 => ?_⟩
    have e : hz (n + 2) p (a + 1) (D : Int) - hz (n + 2) p a (D : Int) = a * (hz (n + 1) (pz_tl p) (a + 1) (D : Int) - hz (n + 1) (pz_tl p) a (D : Int)) + hz (n + 1) (pz_tl p) (a + 1) (D : Int) := by
      rw [hz_s (n + 1) p (a + 1), hz_s (n + 1) p a, Int.add_mul, Int.mul_sub, Int.one_mul]
      omega
    have h1 := hK D a hD ha ha1
    have h2 := hK2 D (a + 1) hD ha1
    rw [show n + 1 + 1 = n + 2 from rfl, e]
    generalize hz (n + 1) (pz_tl p) (a + 1) (D : Int) - hz (n + 1) (pz_tl p) a (D : Int) = d1 at h1
    generalize hz (n + 1) (pz_tl p) (a + 1) (D : Int) = d2 at h2
    refine Nat.le_trans (Nat.mul_le_mul_right D (Int.natAbs_add_le _ _)) ?_
    rw [Nat.add_mul, Int.natAbs_mul, Nat.mul_assoc, Nat.add_mul]
    refine Nat.add_le_add ?_ ?_
    · refine Nat.le_trans (Nat.mul_le_mul ha h1) (Nat.le_of_eq ?_)
      rw [Nat.pow_succ]
      ac_rfl
    · refine Nat.le_trans (Nat.mul_le_mul_right D h2) (Nat.le_of_eq ?_)
      rw [Nat.pow_succ, Nat.mul_assoc]
def psh (g : pz_P) : pz_P := fun i => match i with
  | 0 => 0
  | j + 1 => g j
theorem drv_tl (p : pz_P) : drv p = pz_add (pz_tl p) (psh (drv (pz_tl p))) := funext fun i => by
  match i with
  | 0 =>
    show p 1 * ((0 + 1 : Nat) : Int) = p 1 + 0
    omega
  | j + 1 =>
    show p (j + 1 + 1) * ((j + 1 + 1 : Nat) : Int) = p (j + 1 + 1) + p (j + 1 + 1) * ((j + 1 : Nat) : Int)
    rw [show ((j + 1 + 1 : Nat) : Int) = 1 + ((j + 1 : Nat) : Int) by omega, Int.mul_add, Int.mul_one]
theorem hz_dv (n : Nat) (p : pz_P) (a D : Int) : hz (n + 1) (drv p) a D = hz (n + 1) (pz_tl p) a D + a * hz n (drv (pz_tl p)) a D := by
  rw [drv_tl p, hz_add, hz_s n (psh (drv (pz_tl p)))]
  show hz (n + 1) (pz_tl p) a D + (0 * D ^ n + a * hz n (drv (pz_tl p)) a D) = _
  rw [Int.zero_mul, Int.zero_add]
theorem hz_D (M : Nat) : ∀ (n : Nat) (p : pz_P), ∃ K : Nat, ∀ (D : Nat) (a : Int), 1 ≤ D → a.natAbs ≤ M * D → (a + 1).natAbs ≤ M * D → (hz (n + 1) p (a + 1) (D : Int) - hz (n + 1) p a (D : Int) - hz n (drv p) a (D : Int)).natAbs * D * D ≤ K * D ^ n
  | 0, p => ⟨0, fun D a hD ha ha1 => by
    have e : hz 1 p (a + 1) (D : Int) - hz 1 p a (D : Int) - hz 0 (drv p) a (D : Int) = 0 := by
      show (p 0 * 1 + (a + 1) * 0) - (p 0 * 1 + a * 0) - 0 = 0
      omega
    rw [e]
    exact Nat.le_of_eq (by simp)⟩
  | n + 1, p => by
    obtain ⟨K, hK⟩ := hz_D M n (pz_tl p)
    obtain ⟨K2, hK2⟩ := hz_L M n (pz_tl p)
    refine ⟨M * K + K2, fun D a hD ha ha1 => ?_⟩
    have e : hz (n + 2) p (a + 1) (D : Int) - hz (n + 2) p a (D : Int) - hz (n + 1) (drv p) a (D : Int) = a * (hz (n + 1) (pz_tl p) (a + 1) (D : Int) - hz (n + 1) (pz_tl p) a (D : Int) - hz n (drv (pz_tl p)) a (D : Int)) + (hz (n + 1) (pz_tl p) (a + 1) (D : Int) - hz (n + 1) (pz_tl p) a (D : Int)) := by
      rw [hz_s (n + 1) p (a + 1), hz_s (n + 1) p a, hz_dv, Int.add_mul, Int.mul_sub, Int.mul_sub, Int.one_mul]
      omega
    have h1 := hK D a hD ha ha1
    have h2 := hK2 D a hD ha ha1
    rw [show n + 1 + 1 = n + 2 from rfl, e]
    generalize hz (n + 1) (pz_tl p) (a + 1) (D : Int) - hz (n + 1) (pz_tl p) a (D : Int) - hz n (drv (pz_tl p)) a (D : Int) = d1 at h1
    generalize hz (n + 1) (pz_tl p) (a + 1) (D : Int) - hz (n + 1) (pz_tl p) a (D : Int) = d2 at h2
    refine Nat.le_trans (Nat.mul_le_mul_right D (Nat.mul_le_mul_right D (Int.natAbs_add_le _ _))) ?_
    rw [Nat.add_mul, Nat.add_mul, Int.natAbs_mul, Nat.add_mul]
    refine Nat.add_le_add ?_ ?_
    · refine Nat.le_trans (Nat.le_of_eq (show a.natAbs * d1.natAbs * D * D = a.natAbs * (d1.natAbs * D * D) by ac_rfl)) (Nat.le_trans (Nat.mul_le_mul ha h1) (Nat.le_of_eq ?_))
      rw [Nat.pow_succ]
      ac_rfl
    · refine Nat.le_trans (Nat.mul_le_mul_right D h2) (Nat.le_of_eq ?_)
      rw [Nat.pow_succ, Nat.mul_assoc]
/-! Changes of sign of two lists that differ little. -/
theorem chg_two {s : Nat → Int} {n c : Nat} {p : Int} (hp : p = 1 ∨ p = -1) (h : chg s n = (c, p)) (hs : -1 ≤ s n ∧ s n ≤ 1) (h2 : s (n + 1) = -p) : chg s (n + 2) = (c + 1, -p) := by
  have e1 : chg s (n + 1) = if s n = 0 then (c, p) else ((if p * s n < 0 then c + 1 else c), s n) := by rw [chg_s, h]
  rw [chg_s, h2]
  have hn : ¬ (-p = 0) := by omega
  rw [if_neg hn]
  have hc : s n = 0 ∨ s n = 1 ∨ s n = -1 := by omega
  rcases hp with rfl | rfl
  · rcases hc with q | q | q
    · rw [if_pos q] at e1
      rw [e1]
      rfl
    · rw [if_neg (by omega), q, if_neg (by decide)] at e1
      rw [e1]
      rfl
    · rw [if_neg (by omega), q, if_pos (by decide)] at e1
      rw [e1]
      rfl
  · rcases hc with q | q | q
    · rw [if_pos q] at e1
      rw [e1]
      rfl
    · rw [if_neg (by omega), q, if_pos (by decide)] at e1
      rw [e1]
      rfl
    · rw [if_neg (by omega), q, if_neg (by decide)] at e1
      rw [e1]
      rfl
theorem chg_ne {s : Nat → Int} {n : Nat} (h : s n ≠ 0) : (chg s (n + 1)).2 = s n := by
  rw [chg_s, if_neg h]
/-- both lists agree where they are not small; a small one lies between two of opposite signs -/
def sG (s t : Nat → Int) (i : Nat) : Prop := s i = t i ∧ s i ≠ 0
def sN1 (s t : Nat → Int) (i : Nat) : Prop := sG s t (i - 1) ∧ sG s t (i + 1) ∧ s (i + 1) = - s (i - 1)
theorem chg_near {s t : Nat → Int} {k : Nat} (hs : ∀ i, -1 ≤ s i ∧ s i ≤ 1) (ht : ∀ i, -1 ≤ t i ∧ t i ≤ 1) (hi : ∀ i, 1 ≤ i → i ≤ k → sG s t i ∨ (i < k ∧ sN1 s t i)) {e : Nat} (h0 : sG s t 0 ∧ e = 0 ∨ (1 ≤ k ∧ sG s t 1 ∧ (chg s 2).1 = (chg t 2).1 + e)) : ∀ m, m ≤ k → (1 ≤ m ∨ sG s t 0) → sG s t m → (chg s (m + 1)).1 = (chg t (m + 1)).1 + e ∧ (chg s (m + 1)).2 = s m ∧ (chg t (m + 1)).2 = s m := by
  intro m
  induction m using Nat.strongRecOn with
  | ind m ih =>
    intro hm hm0 g
    have g2 : t m ≠ 0 := by rw [← g.1]; exact g.2
    refine ⟨?_, chg_ne g.2, (chg_ne g2).trans g.1.symm⟩
    match m, ih, hm, hm0, g, g2 with
    | 0, ih, hm, hm0, g, g2 =>
      rcases h0 with ⟨_, he⟩ | ⟨h1, g1, hc⟩
      · rw [he, chg_s, chg_s, if_neg g.2, if_neg g2]
        have z : ∀ x : Int, ¬ (((0 : Nat), (0 : Int)).2 * x < 0) := fun x q => by
          rw [Int.zero_mul] at q
          omega
        show (if (chg s 0).2 * s 0 < 0 then _ else _) = (if (chg t 0).2 * t 0 < 0 then _ else _) + 0
        have zs : (chg s 0) = (0, 0) := rfl
        have zt : (chg t 0) = (0, 0) := rfl
        rw [zs, zt, if_neg (z _), if_neg (z _)]
      · have g0 := g
        -- both begin alike: the first two rows tell e = 0
        have zs : (chg s 0) = (0, 0) := rfl
        have zt : (chg t 0) = (0, 0) := rfl
        have a1 : chg s 1 = (0, s 0) := by
          rw [chg_s, if_neg g.2, zs]
          simp
        have b1 : chg t 1 = (0, t 0) := by
          rw [chg_s, if_neg g2, zt]
          simp
        have a2 : chg s 2 = ((if s 0 * s 1 < 0 then 0 + 1 else 0), s 1) := by rw [chg_s, if_neg g1.2, a1]
        have b2 : chg t 2 = ((if t 0 * t 1 < 0 then 0 + 1 else 0), t 1) := by rw [chg_s, if_neg (by rw [← g1.1]; exact g1.2), b1]
        rw [a2, b2, g.1, g1.1] at hc
        rw [a1, b1]
        show 0 = 0 + e
        have hc : (if t 0 * t 1 < 0 then 0 + 1 else 0) = (if t 0 * t 1 < 0 then 0 + 1 else 0) + e := hc
        omega
    | 1, ih, hm, hm0, g, g2 =>
      rcases h0 with ⟨g0, he⟩ | ⟨h1, g1, hc⟩
      · have i0 := ih 0 (by omega) (by omega) (Or.inr g0) g0
        have i1 : (chg s 1).1 = (chg t 1).1 + e := by rw [he]; exact i0.1.trans (by rw [he])
        have i2 : (chg s 1).2 = s 0 := i0.2.1
        have i3 : (chg t 1).2 = s 0 := i0.2.2
        rw [chg_s s 1, chg_s t 1, if_neg g.2, if_neg g2]
        show (if (chg s 1).2 * s 1 < 0 then (chg s 1).1 + 1 else (chg s 1).1) = (if (chg t 1).2 * t 1 < 0 then (chg t 1).1 + 1 else (chg t 1).1) + e
        rw [i1, i2, i3, ← g.1]
        split <;> omega
      · exact hc
    | m + 2, ih, hm, hm0, g, g2 =>
      rcases hi (m + 1) (by omega) (by omega) with q | ⟨_, q0, q1, q2⟩
      · have i0 := ih (m + 1) (by omega) (by omega) (Or.inl (by omega)) q
        have i1 : (chg s (m + 2)).1 = (chg t (m + 2)).1 + e := i0.1
        have i2 : (chg s (m + 2)).2 = s (m + 1) := i0.2.1
        have i3 : (chg t (m + 2)).2 = s (m + 1) := i0.2.2
        rw [chg_s s (m + 2), chg_s t (m + 2), if_neg g.2, if_neg g2]
        show (if (chg s (m + 2)).2 * s (m + 2) < 0 then (chg s (m + 2)).1 + 1 else (chg s (m + 2)).1) = (if (chg t (m + 2)).2 * t (m + 2) < 0 then (chg t (m + 2)).1 + 1 else (chg t (m + 2)).1) + e
        rw [i1, i2, i3, ← g.1]
        split <;> omega
      · have q0 : sG s t m := q0
        have q2 : s (m + 2) = - s m := q2
        have hm1 : 1 ≤ m ∨ sG s t 0 := by
          rcases Nat.eq_zero_or_pos m with c | c
          · subst c
            exact Or.inr q0
          · exact Or.inl c
        have i0 := ih m (by omega) (by omega) hm1 q0
        have hp : s m = 1 ∨ s m = -1 := by
          have := hs m
          have := q0.2
          omega
        have e1 : chg s (m + 1) = ((chg s (m + 1)).1, s m) := by rw [← i0.2.1]
        have e2 : chg t (m + 1) = ((chg t (m + 1)).1, s m) := by rw [← i0.2.2]
        have c1 := chg_two hp e1 (hs (m + 1)) q2
        have c2 := chg_two hp e2 (ht (m + 1)) (g.1.symm.trans q2)
        rw [c1, c2, i0.1]
        show _ + e + 1 = _ + 1 + e
        omega
/-! Sturm: from one place to a greater one changes of sign are lost, none is won. -/
theorem unif {P : Nat → Nat → Prop} (hm : ∀ i C C', C ≤ C' → P i C → P i C') : ∀ n, (∀ i, i < n → ∃ C, P i C) → ∃ C, ∀ i, i < n → P i C
  | 0, _ => ⟨0, fun i hi => absurd hi (Nat.not_lt_zero i)⟩
  | n + 1, h => by
    obtain ⟨C, hC⟩ := unif hm n (fun i hi => h i (by omega))
    obtain ⟨C2, hC2⟩ := h n (by omega)
    refine ⟨C + C2, fun i hi => ?_⟩
    rcases Nat.lt_or_ge i n with c | c
    · exact hm i C _ (by omega) (hC i c)
    · have : i = n := by omega
      subst this
      exact hm i C2 _ (by omega) hC2
def hv (R : Nat → pz_P) (D : Nat) (a : Int) (i : Nat) : Int := hz 13 (R i) a (D : Int)
def sv (R : Nat → pz_P) (D : Nat) (a : Int) (i : Nat) : Int := jsg (hv R D a i)
theorem sv_r (R : Nat → pz_P) (D : Nat) (a : Int) (i : Nat) : -1 ≤ sv R D a i ∧ sv R D a i ≤ 1 := jsg_range _
theorem sN_rel (M : Nat) {X Y Z : pz_P} (h : sN X Y Z) (hX : pz_lt X 13) (hY : pz_lt Y 13) (hZ : pz_lt Z 13) : ∃ (p q : Int) (K : Nat), 0 < p ∧ 0 < q ∧ ∀ (D : Nat) (a : Int), 1 ≤ D → a.natAbs ≤ M * D → (p * hz 13 X a (D : Int) + q * hz 13 Z a (D : Int)).natAbs ≤ K * (hz 13 Y a (D : Int)).natAbs := by
  obtain ⟨p, q, Q, n, hp, hq, hQ, e⟩ := h
  obtain ⟨K, hK⟩ := hz_B M n Q
  refine ⟨p, q, K, hp, hq, fun D a hD ha => ?_⟩
  have hQ1 : pz_lt Q (n + 1) := hQ.mono (by omega)
  have e1 : pz_mul Q Y = pz_add (pz_sc p X) (pz_sc q Z) := funext fun i => (e i).symm
  have h1 := hz_mul (n + 1) 13 Q Y a (D : Int) hQ1 hY
  rw [e1, Nat.add_comm (n + 1) 13, hz_more 13 (n + 1) _ a (D : Int) ((hX.sc p).add (hZ.sc q)), hz_add, hz_sc, hz_sc] at h1
  have h2 := congrArg Int.natAbs h1
  rw [Int.natAbs_mul, Int.natAbs_mul, Int.natAbs_mul, Int.natAbs_pow, Int.natAbs_natCast] at h2
  have h3 := hK D a hD ha
  have hp1 : 0 < D ^ (n + 1) := Nat.pow_pos (by omega)
  refine Nat.le_of_mul_le_mul_left (Nat.le_trans (Nat.le_of_eq h2) ?_) hp1
  refine Nat.le_trans (Nat.mul_le_mul_left D (Nat.mul_le_mul_right _ h3)) (Nat.le_of_eq ?_)
  rw [Nat.pow_succ]
  ac_rfl
theorem abs_same {x y p q : Int} (hp : 0 < p) (hq : 0 < q) (h : 0 < x * y) : x.natAbs ≤ (p * x + q * y).natAbs := by
  have h1 : x ≠ 0 := fun c => by rw [c, Int.zero_mul] at h; omega
  rcases Int.lt_or_gt_of_ne h1 with c | c
  · have hy : y < 0 := by
      rcases Int.lt_trichotomy y 0 with d | d | d
      · exact d
      · rw [d, Int.mul_zero] at h
        omega
      · have := Int.mul_neg_of_neg_of_pos c d
        omega
    have a1 := Int.mul_neg_of_pos_of_neg hq hy
    have a2 : p * x ≤ 1 * x := Int.mul_le_mul_of_nonpos_right (by omega) (by omega)
    omega
  · have hy : 0 < y := by
      rcases Int.lt_trichotomy y 0 with d | d | d
      · have := Int.mul_neg_of_pos_of_neg c d
        omega
      · rw [d, Int.mul_zero] at h
        omega
      · exact d
    have a1 := Int.mul_pos hq hy
    have a2 : 1 * x ≤ p * x := Int.mul_le_mul_of_nonneg_right (by omega) (by omega)
    omega
section STM
variable {A : pz_P} {k : Nat} {R : Nat → pz_P} {d : Nat → Nat}
theorem SPr.l13 (h : SPr A k R d) (h12 : d 0 ≤ 12) {i : Nat} (hi : i ≤ k) : pz_lt (R i) 13 := (h.1 i hi).2.mono (by have := h.di i hi; omega)
theorem hv_k (h : SPr A k R d) (hk : d k = 0) (D : Nat) (a : Int) : D ^ 12 ≤ (hv R D a k).natAbs := by
  have h1 := h.1 k (Nat.le_refl _)
  rw [hk] at h1
  unfold hv
  rw [show 13 = 1 + 12 from rfl, hz_more 1 12 _ a (D : Int) h1.2]
  show _ ≤ ((D : Int) ^ 12 * (R k 0 * 1 + a * 0)).natAbs
  rw [Int.mul_one, Int.mul_zero, Int.add_zero, Int.natAbs_mul, Int.natAbs_pow, Int.natAbs_natCast]
  have : 1 ≤ (R k 0).natAbs := by
    have := h1.1
    omega
  exact Nat.le_trans (Nat.le_of_eq (Nat.mul_one _).symm) (Nat.mul_le_mul_left _ this)
theorem st_adj (M : Nat) (h : SPr A k R d) (h12 : d 0 ≤ 12) (hk : d k = 0) : ∀ j i, i + j + 1 = k → ∃ E : Nat, ∀ (D : Nat) (a : Int), 1 ≤ D → a.natAbs ≤ M * D → D ^ 12 ≤ E * ((hv R D a i).natAbs + (hv R D a (i + 1)).natAbs)
  | 0, i, e => ⟨1, fun D a hD ha => by
    have h1 := hv_k h hk D a
    rw [show i + 1 = k by omega, Nat.one_mul]
    omega⟩
  | j + 1, i, e => by
    obtain ⟨E, hE⟩ := st_adj M h h12 hk j (i + 1) (by omega)
    obtain ⟨p, q, K, hp, hq, hr⟩ := sN_rel M (h.2.2.2.2 i (by omega)) (h.l13 h12 (by omega)) (h.l13 h12 (by omega)) (h.l13 h12 (by omega))
    refine ⟨E * (1 + p.natAbs + K), fun D a hD ha => ?_⟩
    have h1 := hE D a hD ha
    have h2 := hr D a hD ha
    have h2 : (p * hv R D a i + q * hv R D a (i + 2)).natAbs ≤ K * (hv R D a (i + 1)).natAbs := h2
    have h1 : D ^ 12 ≤ E * ((hv R D a (i + 1)).natAbs + (hv R D a (i + 2)).natAbs) := h1
    generalize hv R D a i = u0 at h2 ⊢
    generalize hv R D a (i + 1) = u1 at h1 h2 ⊢
    generalize hv R D a (i + 2) = u2 at h1 h2
    refine Nat.le_trans h1 ?_
    rw [Nat.mul_assoc]
    refine Nat.mul_le_mul_left E ?_
    have h3 : u2.natAbs ≤ (q * u2).natAbs := by
      rw [Int.natAbs_mul]
      exact Nat.le_trans (Nat.le_of_eq (Nat.one_mul _).symm) (Nat.mul_le_mul_right _ (by omega))
    have h4 : (p * u0).natAbs = p.natAbs * u0.natAbs := Int.natAbs_mul _ _
    have h5 : (q * u2).natAbs ≤ (p * u0).natAbs + (p * u0 + q * u2).natAbs := by omega
    have e1 : (1 + p.natAbs + K) * (u0.natAbs + u1.natAbs) = u0.natAbs + u1.natAbs + (p.natAbs * u0.natAbs + p.natAbs * u1.natAbs) + (K * u0.natAbs + K * u1.natAbs) := by
      rw [Nat.add_mul, Nat.add_mul, Nat.one_mul, Nat.mul_add, Nat.mul_add]
    rw [e1]
    omega
theorem st_big {u v : Int} {B D K T : Nat} (hb : B ≤ T * u.natAbs) (hB : 1 ≤ B) (hl : (v - u).natAbs * D ≤ K * B) (hD : K * T < D) : jsg u = jsg v ∧ jsg u ≠ 0 := by
  have hu : u ≠ 0 := fun c => by
    rw [c, Int.natAbs_zero, Nat.mul_zero] at hb
    omega
  have h1 : (v - u).natAbs * D ≤ K * T * u.natAbs := Nat.le_trans hl (by rw [Nat.mul_assoc]; exact Nat.mul_le_mul_left K hb)
  have h2 : K * T * u.natAbs < D * u.natAbs := Nat.mul_lt_mul_of_pos_right hD (by omega)
  have h3 : (v - u).natAbs < u.natAbs := by
    refine Nat.lt_of_mul_lt_mul_right (a := D) ?_
    rw [Nat.mul_comm u.natAbs D]
    omega
  rcases Int.lt_or_gt_of_ne hu with c | c
  · rw [jsg_neg c, jsg_neg (show v < 0 by omega)]
    exact ⟨rfl, by decide⟩
  · rw [jsg_pos c, jsg_pos (show 0 < v by omega)]
    exact ⟨rfl, by decide⟩
theorem st_local (M : Nat) (h : SPr A k R d) (h12 : d 0 ≤ 12) (hk : d k = 0) : ∃ D1 : Nat, ∀ (D : Nat) (a : Int), D1 ≤ D → 1 ≤ D → a.natAbs ≤ M * D → (a + 1).natAbs ≤ M * D → (chg (sv R D (a + 1)) (k + 1)).1 ≤ (chg (sv R D a) (k + 1)).1 ∧ (hv R D (a + 1) 0 = 0 → (chg (sv R D (a + 1)) (k + 1)).1 + 1 ≤ (chg (sv R D a) (k + 1)).1) := by
  obtain ⟨CL, hCL⟩ := unif (P := fun i C => ∀ (D : Nat) (a : Int), 1 ≤ D → a.natAbs ≤ M * D → (a + 1).natAbs ≤ M * D → (hv R D (a + 1) i - hv R D a i).natAbs * D ≤ C * D ^ 12) (fun i C C' hc p D a hD ha ha1 => Nat.le_trans (p D a hD ha ha1) (Nat.mul_le_mul_right _ hc)) (k + 1) (fun i hi => hz_L M 12 (R i))
  obtain ⟨CE, hCE⟩ := unif (P := fun i C => ∀ (D : Nat) (a : Int), 1 ≤ D → a.natAbs ≤ M * D → D ^ 12 ≤ C * ((hv R D a i).natAbs + (hv R D a (i + 1)).natAbs)) (fun i C C' hc p D a hD ha => Nat.le_trans (p D a hD ha) (Nat.mul_le_mul_right _ hc)) k (fun i hi => st_adj M h h12 hk (k - 1 - i) i (by omega))
  obtain ⟨CR, hCR⟩ := unif (P := fun i C => ∀ (D : Nat) (a : Int), 1 ≤ D → a.natAbs ≤ M * D → 0 < hv R D a i * hv R D a (i + 2) → (hv R D a i).natAbs ≤ C * (hv R D a (i + 1)).natAbs) (fun i C C' hc p D a hD ha q => Nat.le_trans (p D a hD ha q) (Nat.mul_le_mul_right _ hc)) (k - 1) (fun i hi => by
    obtain ⟨p, q, K, hp, hq, hr⟩ := sN_rel M (h.2.2.2.2 i (by omega)) (h.l13 h12 (by omega)) (h.l13 h12 (by omega)) (h.l13 h12 (by omega))
    exact ⟨K, fun D a hD ha s => Nat.le_trans (abs_same hp hq s) (hr D a hD ha)⟩)
  -- the derivative
  obtain ⟨KD, bD, hKD⟩ : ∃ (KD bD : Nat), 1 ≤ k → ∀ (D : Nat) (a : Int), 1 ≤ D → a.natAbs ≤ M * D → (a + 1).natAbs ≤ M * D → ∃ w : Int, (hv R D (a + 1) 0 - hv R D a 0 - w).natAbs * D * D ≤ KD * D ^ 12 ∧ (hv R D a 1).natAbs ≤ bD * (D * w.natAbs) ∧ jsg w = jsg (hv R D a 1) := by
    rcases Nat.eq_zero_or_pos k with k0 | k0
    · exact ⟨0, 0, fun q => by omega⟩
    obtain ⟨K, hK⟩ := hz_D M 12 (R 0)
    obtain ⟨a1, b1, ha1, hb1, e⟩ := ((h.2.2.2.1 k0).tr h.2.2.1.dv.sy).at
    refine ⟨K, b1.natAbs, fun _ D a hD ha hb => ⟨hz 12 (drv (R 0)) a (D : Int), hK D a hD ha hb, ?_⟩⟩
    have l12 : pz_lt (drv (R 0)) 12 := fun i hi => by
      show R 0 (i + 1) * _ = 0
      rw [h.l13 h12 (Nat.zero_le k) (i + 1) (by omega), Int.zero_mul]
    have e1 : a1 * hv R D a 1 = b1 * ((D : Int) * hz 12 (drv (R 0)) a (D : Int)) := by
      have e2 : pz_sc a1 (R 1) = pz_sc b1 (drv (R 0)) := funext e
      have e3 := hz_more 12 1 (drv (R 0)) a (D : Int) l12
      rw [Int.pow_one] at e3
      unfold hv
      rw [← hz_sc, e2, hz_sc, ← e3]
    generalize hz 12 (drv (R 0)) a (D : Int) = w at e1 ⊢
    generalize hv R D a 1 = u at e1 ⊢
    have hD2 : (0 : Int) < (D : Int) := by omega
    refine ⟨?_, ?_⟩
    · have := congrArg Int.natAbs e1
      rw [Int.natAbs_mul, Int.natAbs_mul, Int.natAbs_mul, Int.natAbs_natCast] at this
      rw [← this]
      exact Nat.le_trans (Nat.le_of_eq (Nat.one_mul _).symm) (Nat.mul_le_mul_right _ (by omega))
    · have := congrArg jsg e1
      rw [← jsg_mul2, ← jsg_mul2, ← jsg_mul2, jsg_pos ha1, jsg_pos hb1, jsg_pos hD2, Int.one_mul, Int.one_mul, Int.one_mul] at this
      exact this.symm
  obtain ⟨C, hC⟩ : ∃ C, C = CL + CE + CR + 1 := ⟨_, rfl⟩
  obtain ⟨T, hT⟩ : ∃ T, T = 4 * C * (C + 1) := ⟨_, rfl⟩
  refine ⟨C * T + 2 * C * KD * bD + 1, fun D a hD1 hD ha hb => ?_⟩
  have hB : 1 ≤ D ^ 12 := Nat.pow_pos (by omega)
  have hlip : ∀ i, i ≤ k → (hv R D (a + 1) i - hv R D a i).natAbs * D ≤ C * D ^ 12 := fun i hi => Nat.le_trans (hCL i (by omega) D a hD ha hb) (Nat.mul_le_mul_right _ (by omega))
  have hadj : ∀ i, i < k → D ^ 12 ≤ C * ((hv R D a i).natAbs + (hv R D a (i + 1)).natAbs) := fun i hi => Nat.le_trans (hCE i hi D a hD ha) (Nat.mul_le_mul_right _ (by omega))
  have hrel : ∀ i, i + 2 ≤ k → 0 < hv R D a i * hv R D a (i + 2) → (hv R D a i).natAbs ≤ C * (hv R D a (i + 1)).natAbs := fun i hi q => Nat.le_trans (hCR i (by omega) D a hD ha q) (Nat.mul_le_mul_right _ (by omega))
  have hder := fun q => hKD q D a hD ha hb
  have hCT : C * T < D := by omega
  have T2 : 2 * C ≤ T := by
    rw [hT]
    refine Nat.le_trans (Nat.mul_le_mul_right C (show 2 ≤ 4 by omega)) ?_
    exact Nat.le_trans (Nat.le_of_eq (Nat.mul_one _).symm) (Nat.mul_le_mul_left _ (by omega))
  have T3 : 2 * C * C ≤ T := by
    rw [hT]
    exact Nat.mul_le_mul (Nat.mul_le_mul_right C (by omega)) (by omega)
  have big : ∀ i, i ≤ k → D ^ 12 ≤ T * (hv R D a i).natAbs → sG (sv R D a) (sv R D (a + 1)) i := fun i hi q => st_big q hB (hlip i hi) hCT
  have bigk : sG (sv R D a) (sv R D (a + 1)) k := big k (Nat.le_refl _) (Nat.le_trans (hv_k h hk D a) (Nat.le_trans (Nat.le_of_eq (Nat.one_mul _).symm) (Nat.mul_le_mul_right _ (by omega))))
  -- beside a small one: great ones
  have two : ∀ i j, (j = i + 1 ∧ i < k ∨ i = j + 1 ∧ j < k) → T * (hv R D a i).natAbs < D ^ 12 → D ^ 12 < 2 * C * (hv R D a j).natAbs := fun i j hij q => by
    have h1 : D ^ 12 ≤ C * ((hv R D a i).natAbs + (hv R D a j).natAbs) := by
      rcases hij with ⟨e, hi⟩ | ⟨e, hi⟩
      · rw [e]
        exact hadj i hi
      · rw [e, Nat.add_comm]
        exact hadj j hi
    have h2 : 2 * C * (hv R D a i).natAbs ≤ T * (hv R D a i).natAbs := Nat.mul_le_mul_right _ T2
    rw [Nat.mul_add] at h1
    have e1 : 2 * C * (hv R D a i).natAbs = 2 * (C * (hv R D a i).natAbs) := Nat.mul_assoc _ _ _
    have e2 : 2 * C * (hv R D a j).natAbs = 2 * (C * (hv R D a j).natAbs) := Nat.mul_assoc _ _ _
    omega
  have gb : ∀ i j, (j = i + 1 ∧ i < k ∨ i = j + 1 ∧ j < k) → T * (hv R D a i).natAbs < D ^ 12 → sG (sv R D a) (sv R D (a + 1)) j := fun i j hij q => big j (by omega) (Nat.le_trans (Nat.le_of_lt (two i j hij q)) (Nat.mul_le_mul_right _ T2))
  have hi : ∀ i, 1 ≤ i → i ≤ k → sG (sv R D a) (sv R D (a + 1)) i ∨ (i < k ∧ sN1 (sv R D a) (sv R D (a + 1)) i) := fun i h1 h2 => by
    rcases Nat.lt_or_ge (T * (hv R D a i).natAbs) (D ^ 12) with q | q
    · have hik : i < k := by
        rcases Nat.lt_or_ge i k with c | c
        · exact c
        · exfalso
          have e : i = k := by omega
          subst e
          have h3 := hv_k h hk D a
          have h4 : (hv R D a i).natAbs ≤ T * (hv R D a i).natAbs := Nat.le_trans (Nat.le_of_eq (Nat.one_mul _).symm) (Nat.mul_le_mul_right _ (by omega))
          omega
      have g1 := gb i (i - 1) (Or.inr ⟨by omega, by omega⟩) q
      have g2 := gb i (i + 1) (Or.inl ⟨rfl, hik⟩) q
      refine Or.inr ⟨hik, g1, g2, ?_⟩
      have hn : ¬ 0 < hv R D a (i - 1) * hv R D a (i + 1) := fun s => by
        obtain ⟨j, rfl⟩ : ∃ j, i = j + 1 := ⟨i - 1, by omega⟩
        have h3 := hrel j (by omega) s
        have h4 := two (j + 1) j (Or.inr ⟨rfl, by omega⟩) q
        have h5 : 2 * C * (hv R D a j).natAbs ≤ 2 * C * (C * (hv R D a (j + 1)).natAbs) := Nat.mul_le_mul_left _ h3
        have h6 : 2 * C * (C * (hv R D a (j + 1)).natAbs) ≤ T * (hv R D a (j + 1)).natAbs := by
          rw [← Nat.mul_assoc]
          exact Nat.mul_le_mul_right _ T3
        omega
      have r1 := g1.2
      have r2 := g2.2
      show jsg (hv R D a (i + 1)) = - jsg (hv R D a (i - 1))
      have n1 : hv R D a (i - 1) ≠ 0 := fun c => r1 (by show jsg _ = 0; rw [c]; rfl)
      have n2 : hv R D a (i + 1) ≠ 0 := fun c => r2 (by show jsg _ = 0; rw [c]; rfl)
      rcases Int.lt_or_gt_of_ne n1 with c1 | c1 <;> rcases Int.lt_or_gt_of_ne n2 with c2 | c2
      · exact absurd (Int.mul_pos_of_neg_of_neg c1 c2) hn
      · rw [jsg_neg c1, jsg_pos c2]
        rfl
      · rw [jsg_pos c1, jsg_neg c2]
      · exact absurd (Int.mul_pos c1 c2) hn
    · exact Or.inl (big i h2 q)
  rcases Nat.lt_or_ge (T * (hv R D a 0).natAbs) (D ^ 12) with q | q
  · -- the first is small: its step has the sign of the second
    have k1 : 1 ≤ k := by
      rcases Nat.eq_zero_or_pos k with c | c
      · exfalso
        subst c
        have h3 := hv_k h hk D a
        have h4 : (hv R D a 0).natAbs ≤ T * (hv R D a 0).natAbs := Nat.le_trans (Nat.le_of_eq (Nat.one_mul _).symm) (Nat.mul_le_mul_right _ (by omega))
        omega
      · exact c
    have g1 := gb 0 1 (Or.inl ⟨rfl, k1⟩) q
    have b1 := two 0 1 (Or.inl ⟨rfl, k1⟩) q
    obtain ⟨w, w1, w2, w3⟩ := hder k1
    have wn : w ≠ 0 := fun c => by
      rw [c] at w3
      exact g1.2 w3.symm
    have st : (hv R D (a + 1) 0 - hv R D a 0 - w).natAbs < w.natAbs := by
      have e1 : (hv R D (a + 1) 0 - hv R D a 0 - w).natAbs * D * D ≤ 2 * C * KD * bD * w.natAbs * D := by
        refine Nat.le_trans w1 (Nat.le_trans (Nat.mul_le_mul_left KD (Nat.le_of_lt b1)) ?_)
        refine Nat.le_trans (Nat.mul_le_mul_left KD (Nat.mul_le_mul_left (2 * C) w2)) (Nat.le_of_eq ?_)
        ac_rfl
      have e2 : (hv R D (a + 1) 0 - hv R D a 0 - w).natAbs * D ≤ 2 * C * KD * bD * w.natAbs := Nat.le_of_mul_le_mul_right e1 (by omega)
      have e3 : 2 * C * KD * bD * w.natAbs < D * w.natAbs := Nat.mul_lt_mul_of_pos_right (by omega) (by omega)
      refine Nat.lt_of_mul_lt_mul_right (a := D) ?_
      rw [Nat.mul_comm w.natAbs D]
      omega
    have g1e := g1.1
    have g1n := g1.2
    have hs1 : sv R D a 1 = jsg w := w3.symm
    have ht1 : sv R D (a + 1) 1 = jsg w := g1e.symm.trans hs1
    have a2 : ∀ s : Nat → Int, s 1 ≠ 0 → (chg s 2).1 = if s 0 * s 1 < 0 then 1 else 0 := fun s n1 => by
      have z : chg s 0 = (0, 0) := rfl
      have s1 : chg s 1 = (0, s 0) := by
        rw [chg_s, z]
        by_cases c : s 0 = 0
        · rw [if_pos c, c]
        · rw [if_neg c]
          simp
      rw [chg_s, if_neg n1, s1]
    have x1 := a2 (sv R D a) g1n
    have x2 := a2 (sv R D (a + 1)) (by rw [← g1e]; exact g1n)
    rw [hs1] at x1
    rw [ht1] at x2
    have key : ∃ e : Nat, (chg (sv R D a) 2).1 = (chg (sv R D (a + 1)) 2).1 + e ∧ (hv R D (a + 1) 0 = 0 → e = 1) := by
      rw [x1, x2]
      show ∃ e : Nat, (if jsg (hv R D a 0) * jsg w < 0 then 1 else 0) = (if jsg (hv R D (a + 1) 0) * jsg w < 0 then 1 else 0) + e ∧ _
      generalize hv R D a 0 = u at st ⊢
      generalize hv R D (a + 1) 0 = v at st ⊢
      rcases Int.lt_or_gt_of_ne wn with c | c
      · rw [jsg_neg c]
        by_cases hv0 : 0 < v
        · have hu0 : 0 < u := by omega
          rw [jsg_pos hv0, jsg_pos hu0]
          exact ⟨0, rfl, fun q => by omega⟩
        · by_cases hu0 : 0 < u
          · rw [jsg_pos hu0]
            refine ⟨1, ?_, fun _ => rfl⟩
            rw [if_pos (by decide), if_neg]
            have := jsg_s v
            have := jsg_range v
            intro hc
            have h9 : 0 < jsg v := by omega
            have := jsg_pp h9
            omega
          · refine ⟨0, ?_, fun q => by omega⟩
            have e1 : ¬ jsg u * -1 < 0 := fun hc => by
              have h9 : 0 < jsg u := by omega
              have := jsg_pp h9
              omega
            have e2 : ¬ jsg v * -1 < 0 := fun hc => by
              have h9 : 0 < jsg v := by omega
              have := jsg_pp h9
              omega
            rw [if_neg e1, if_neg e2]
      · rw [jsg_pos c, Int.mul_one, Int.mul_one]
        by_cases hv0 : v < 0
        · have hu0 : u < 0 := by omega
          rw [jsg_neg hv0, jsg_neg hu0]
          exact ⟨0, rfl, fun q => by omega⟩
        · have e2 : ¬ jsg v < 0 := fun hc => hv0 ((jsg_s v).1 hc)
          rw [if_neg e2]
          by_cases hu0 : u < 0
          · rw [jsg_neg hu0]
            exact ⟨1, rfl, fun _ => rfl⟩
          · have e1 : ¬ jsg u < 0 := fun hc => hu0 ((jsg_s u).1 hc)
            rw [if_neg e1]
            exact ⟨0, rfl, fun q => by omega⟩
    obtain ⟨e, he, he1⟩ := key
    have := chg_near (sv_r R D a) (sv_r R D (a + 1)) hi (e := e) (Or.inr ⟨k1, g1, he⟩) k (Nat.le_refl _) (Or.inl k1) bigk
    exact ⟨by omega, fun z => by have := he1 z; omega⟩
  · have g0 := big 0 (Nat.zero_le _) q
    have := chg_near (sv_r R D a) (sv_r R D (a + 1)) hi (e := 0) (Or.inl ⟨g0, rfl⟩) k (Nat.le_refl _) (Or.inr g0) bigk
    refine ⟨by omega, fun z => ?_⟩
    exfalso
    have h1 := g0.1
    have h2 := g0.2
    have h3 : sv R D (a + 1) 0 = 0 := by
      show jsg _ = 0
      rw [z]
      rfl
    exact h2 (h1.trans h3)
theorem sv_hom (D c : Nat) (hc : 1 ≤ c) (a : Int) : sv R (D * c) (a * (c : Int)) = sv R D a := funext fun i => by
  show jsg (hz 13 (R i) (a * (c : Int)) ((D * c : Nat) : Int)) = jsg (hz 13 (R i) a (D : Int))
  rw [Int.natCast_mul, hz_hom 12, ← jsg_mul2, jsg_pos (Int.pow_pos (by omega)), Int.one_mul]
/-- the changes at a / D -/
def vch (R : Nat → pz_P) (k D : Nat) (a : Int) : Nat := (chg (sv R D a) (k + 1)).1
theorem vch_hom (D c : Nat) (hc : 1 ≤ c) (a : Int) : vch R k (D * c) (a * (c : Int)) = vch R k D a := by
  unfold vch
  rw [sv_hom D c hc a]
theorem st_mono (h : SPr A k R d) (h12 : d 0 ≤ 12) (hk : d k = 0) {D0 : Nat} (hD0 : 1 ≤ D0) {a b : Int} (hab : a < b) : vch R k D0 b ≤ vch R k D0 a ∧ (sv R D0 b 0 = 0 → vch R k D0 b + 1 ≤ vch R k D0 a) := by
  obtain ⟨D1, hl⟩ := st_local (a.natAbs + b.natAbs) h h12 hk
  obtain ⟨m, hm⟩ : ∃ m, m = D1 + 1 := ⟨_, rfl⟩
  have hm1 : 1 ≤ m := by omega
  have hDm : m ≤ D0 * m := Nat.le_trans (Nat.le_of_eq (Nat.one_mul _).symm) (Nat.mul_le_mul_right m hD0)
  have ea := (vch_hom (R := R) (k := k) D0 m hm1 a).symm
  have eb := (vch_hom (R := R) (k := k) D0 m hm1 b).symm
  have es := congrFun (sv_hom (R := R) D0 m hm1 b).symm 0
  rw [ea, eb, es]
  have hab2 : a * (m : Int) < b * (m : Int) := Int.mul_lt_mul_of_pos_right hab (by omega)
  have na : (a * (m : Int)).natAbs = a.natAbs * m := by rw [Int.natAbs_mul, Int.natAbs_natCast]
  have nb : (b * (m : Int)).natAbs = b.natAbs * m := by rw [Int.natAbs_mul, Int.natAbs_natCast]
  have hMD : a.natAbs * m + b.natAbs * m ≤ (a.natAbs + b.natAbs) * (D0 * m) := by
    rw [← Nat.add_mul]
    exact Nat.mul_le_mul_left _ hDm
  generalize a * (m : Int) = x at hab2 na ⊢
  generalize b * (m : Int) = y at hab2 nb ⊢
  have bd : ∀ z : Int, x ≤ z → z ≤ y → z.natAbs ≤ (a.natAbs + b.natAbs) * (D0 * m) := fun z z1 z2 => by omega
  have walk : ∀ n : Nat, x + (n : Int) ≤ y → vch R k (D0 * m) (x + (n : Int)) ≤ vch R k (D0 * m) x := by
    intro n
    induction n with
    | zero =>
      intro _
      rw [show x + ((0 : Nat) : Int) = x by omega]
      exact Nat.le_refl _
    | succ n ih =>
      intro hn
      have h1 := ih (by omega)
      have h2 := (hl (D0 * m) (x + (n : Int)) (by omega) (by omega) (bd _ (by omega) (by omega)) (bd _ (by omega) (by omega))).1
      rw [show x + ((n + 1 : Nat) : Int) = x + (n : Int) + 1 by omega]
      exact Nat.le_trans h2 h1
  obtain ⟨n, hn⟩ : ∃ n : Nat, y = x + (n : Int) + 1 := ⟨(y - x - 1).toNat, by omega⟩
  have h1 := walk n (by omega)
  have h2 := hl (D0 * m) (x + (n : Int)) (by omega) (by omega) (bd _ (by omega) (by omega)) (bd _ (by omega) (by omega))
  rw [← hn] at h2
  refine ⟨Nat.le_trans h2.1 h1, fun z => ?_⟩
  have h3 := h2.2 (jsg_eq0 z)
  have h3 : vch R k (D0 * m) y + 1 ≤ vch R k (D0 * m) (x + (n : Int)) := h3
  omega
/-! Far out. -/
theorem ev_far : ∀ (n : Nat) (p : pz_P), pz_lt p (n + 1) → p n ≠ 0 → ∃ L : Nat, ∀ x : Nat, L ≤ x → 1 ≤ x → (jsg (pz_ev (n + 1) p (x : Int)) = jsg (p n)) ∧ jsg (pz_ev (n + 1) p (-(x : Int))) = jsg (p n) * (if n % 2 = 1 then -1 else 1)
  | 0, p, hp, h0 => ⟨0, fun x _ _ => by
    have e : ∀ y : Int, pz_ev 1 p y = p 0 := fun y => by
      show p 0 + y * 0 = p 0
      rw [Int.mul_zero, Int.add_zero]
    rw [e, e, if_neg (by decide), Int.mul_one]
    exact ⟨rfl, rfl⟩⟩
  | n + 1, p, hp, h0 => by
    obtain ⟨L, hL⟩ := ev_far n (pz_tl p) (fun i hi => hp (i + 1) (by omega)) h0
    refine ⟨L + (p 0).natAbs + 1, fun x hx hx1 => ?_⟩
    obtain ⟨a, b⟩ := hL x (by omega) hx1
    have h0' : pz_tl p n ≠ 0 := h0
    have big : ∀ t : Int, t ≠ 0 → ∀ y : Int, y.natAbs = x → jsg (p 0 + y * t) = jsg (y * t) := fun t ht y hy => by
      have h1 : (y * t).natAbs = x * t.natAbs := by rw [Int.natAbs_mul, hy]
      have h2 : x ≤ x * t.natAbs := Nat.le_trans (Nat.le_of_eq (Nat.mul_one _).symm) (Nat.mul_le_mul_left _ (by omega))
      generalize y * t = z at h1 ⊢
      rcases Int.lt_trichotomy z 0 with c | c | c
      · rw [jsg_neg c, jsg_neg (by omega)]
      · omega
      · rw [jsg_pos c, jsg_pos (by omega)]
    have e1 : pz_ev (n + 2) p (x : Int) = p 0 + (x : Int) * pz_ev (n + 1) (pz_tl p) (x : Int) := rfl
    have e2 : pz_ev (n + 2) p (-(x : Int)) = p 0 + (-(x : Int)) * pz_ev (n + 1) (pz_tl p) (-(x : Int)) := rfl
    have sn : jsg (pz_tl p n) ≠ 0 := fun c => h0' (jsg_eq0 c)
    have n1 : pz_ev (n + 1) (pz_tl p) (x : Int) ≠ 0 := fun c => by
      rw [c] at a
      exact sn a.symm
    have n2 : pz_ev (n + 1) (pz_tl p) (-(x : Int)) ≠ 0 := fun c => by
      rw [c] at b
      have b : (0 : Int) = jsg (pz_tl p n) * (if n % 2 = 1 then -1 else 1) := b
      split at b <;> omega
    rw [show n + 1 + 1 = n + 2 from rfl, e1, e2, big _ n1 _ (by omega), big _ n2 _ (by omega), ← jsg_mul2, ← jsg_mul2, a, b, jsg_pos (show (0 : Int) < (x : Int) by omega), jsg_neg (show -(x : Int) < 0 by omega), Int.one_mul]
    refine ⟨rfl, ?_⟩
    show -1 * (jsg (p (n + 1)) * _) = jsg (p (n + 1)) * _
    rcases Nat.mod_two_eq_zero_or_one n with c | c
    · rw [if_neg (by omega), if_pos (by omega)]
      omega
    · rw [if_pos c, if_neg (by omega)]
      omega
theorem st_far (h : SPr A k R d) (h12 : d 0 ≤ 12) : ∃ L : Nat, 1 ≤ L ∧ ∀ i, i ≤ k → ∀ (D x : Nat), 1 ≤ D → L ≤ x → sv R D ((x * D : Nat) : Int) i = sfar R d 1 i ∧ sv R D (-((x * D : Nat) : Int)) i = sfar R d (-1) i := by
  obtain ⟨L, hL⟩ := unif (P := fun i C => ∀ x : Nat, C ≤ x → 1 ≤ x → (jsg (pz_ev (d i + 1) (R i) (x : Int)) = jsg (R i (d i))) ∧ jsg (pz_ev (d i + 1) (R i) (-(x : Int))) = jsg (R i (d i)) * (if d i % 2 = 1 then -1 else 1)) (fun i C C' hc p x hx h1 => p x (by omega) h1) (k + 1) (fun i hi => ev_far (d i) (R i) (h.1 i (by omega)).2 (h.1 i (by omega)).1)
  refine ⟨L + 1, by omega, fun i hi D x hD hx => ?_⟩
  have hd := h.di i hi
  obtain ⟨a, b⟩ := hL i (by omega) x (by omega) (by omega)
  have e : ∀ y : Int, hz 13 (R i) (y * (D : Int)) ((1 : Int) * (D : Int)) = (D : Int) ^ 12 * pz_ev (d i + 1) (R i) y := fun y => by
    rw [hz_hom 12, hz_one, pz_ev_le y (h.1 i hi).2 (by omega)]
  have hp : (0 : Int) < (D : Int) ^ 12 := Int.pow_pos (by omega)
  refine ⟨?_, ?_⟩
  · show jsg (hz 13 (R i) ((x * D : Nat) : Int) (D : Int)) = _
    have e1 := e (x : Int)
    rw [Int.one_mul] at e1
    rw [Int.natCast_mul, e1, ← jsg_mul2, jsg_pos hp, Int.one_mul, a]
    unfold sfar
    rw [if_neg (by omega), Int.mul_one]
  · show jsg (hz 13 (R i) (-((x * D : Nat) : Int)) (D : Int)) = _
    have e1 := e (-(x : Int))
    rw [Int.one_mul] at e1
    rw [Int.natCast_mul, ← Int.neg_mul, e1, ← jsg_mul2, jsg_pos hp, Int.one_mul, b]
    unfold sfar
    rcases Nat.mod_two_eq_zero_or_one (d i) with c | c
    · rw [if_neg (by omega), if_neg (by omega)]
    · rw [if_pos c, if_pos ⟨by omega, c⟩]
/-- between the far ends -/
theorem st_ends (h : SPr A k R d) (h12 : d 0 ≤ 12) (hk : d k = 0) {D : Nat} (hD : 1 ≤ D) (a : Int) : vch R k D a ≤ (chg (sfar R d (-1)) (k + 1)).1 ∧ (chg (sfar R d 1) (k + 1)).1 ≤ vch R k D a := by
  obtain ⟨L, hL1, hL⟩ := st_far h h12
  have e : ∀ w : Int, ∀ y : Int, (∀ i, i ≤ k → sv R D y i = sfar R d w i) → vch R k D y = (chg (sfar R d w) (k + 1)).1 := fun w y q => by
    unfold vch
    rw [chg_cg (k + 1) (fun i hi => q i (by omega))]
  obtain ⟨x, hx⟩ : ∃ x, x = L + a.natAbs + 1 := ⟨_, rfl⟩
  have hxD : x ≤ x * D := Nat.le_trans (Nat.le_of_eq (Nat.mul_one _).symm) (Nat.mul_le_mul_left _ hD)
  have h1 := fun i hi => (hL i hi D x hD (by omega)).1
  have h2 := fun i hi => (hL i hi D x hD (by omega)).2
  have m1 := (st_mono h h12 hk hD (show a < ((x * D : Nat) : Int) by omega)).1
  have m2 := (st_mono h h12 hk hD (show -((x * D : Nat) : Int) < a by omega)).1
  rw [e 1 _ h1] at m1
  rw [e (-1) _ h2] at m2
  exact ⟨m2, m1⟩
end STM
/-! The simple part of a polynomial has no factor twice, and every root of what it leaves out. -/
theorem least {P : Nat → Prop} (h : ∃ n, P n) : ∃ n, P n ∧ ∀ m, m < n → ¬ P m := by
  obtain ⟨n, hn⟩ := h
  induction n using Nat.strongRecOn with
  | ind n ih =>
    by_cases c : ∃ m, m < n ∧ P m
    · obtain ⟨m, hm, q⟩ := c
      exact ih m hm q
    · exact ⟨n, hn, fun m hm q => c ⟨m, hm, q⟩⟩
theorem qdv.deg {D G : pz_P} {dd dg : Nat} (hD : pz_lt D (dd + 1)) (hD0 : D dd ≠ 0) (hG : pz_lt G (dg + 1)) (hG0 : G dg ≠ 0) (h : qdv D G) : dd ≤ dg := by
  obtain ⟨c, T, N, hc, hT, e⟩ := h
  obtain ⟨ds, h1, _⟩ := pz_mul_deg (A := pz_sc c G) (m := dg) (hG.sc c) (Int.mul_ne_zero hc hG0) hD hD0 hT e
  omega
theorem pz_0_add (R : pz_P) : pz_add pz_0 R = R := funext fun i => Int.zero_add _
theorem pdiv {D : pz_P} {dD : Nat} (hD : pz_lt D (dD + 1)) (hl : D dD ≠ 0) : ∀ (n : Nat) (X : pz_P), pz_lt X n → ∃ (c : Int) (Q R : pz_P) (N : Nat), c ≠ 0 ∧ pz_lt Q N ∧ pz_lt R dD ∧ pz_sc c X = pz_add (pz_mul Q D) R
  | 0, X, h => ⟨1, pz_0, X, 0, by decide, fun _ _ => rfl, h.mono (Nat.zero_le _), by rw [pz_mul_0L, pz_sc_one, pz_0_add]⟩
  | n + 1, X, h => by
    rcases Nat.lt_or_ge n dD with c | c
    · exact ⟨1, pz_0, X, 0, by decide, fun _ _ => rfl, h.mono (by omega), by rw [pz_mul_0L, pz_sc_one, pz_0_add]⟩
    · obtain ⟨M, hM⟩ : ∃ M, M = pz_mono (n - dD) (X n) := ⟨_, rfl⟩
      have hm : ∀ i, pz_mul M D i = if n - dD ≤ i then X n * D (i - (n - dD)) else 0 := fun i => by
        rw [hM]
        exact pz_mono_mul (X n) D (n - dD) i
      have hMl : pz_lt M (n - dD + 1) := fun i hi => by
        rw [hM]
        exact if_neg (by omega)
      obtain ⟨c2, Q, R, N, hc, hQ, hR, e⟩ := pdiv hD hl n (pz_add (pz_sc (D dD) X) (pz_sc (-1) (pz_mul M D))) (fun i hi => by
        show D dD * X i + -1 * pz_mul M D i = 0
        rw [hm i, if_pos (by omega)]
        by_cases q : i = n
        · rw [q, show n - (n - dD) = dD by omega, Int.mul_comm (X n)]
          omega
        · rw [h i (by omega), hD (i - (n - dD)) (by omega), Int.mul_zero, Int.mul_zero]
          rfl)
      refine ⟨c2 * D dD, pz_add Q (pz_sc c2 M), R, N + (n - dD + 1), Int.mul_ne_zero hc hl, pz_lt.add (hQ.mono (by omega)) ((hMl.sc c2).mono (by omega)), hR, funext fun i => ?_⟩
      have ei := congrFun e i
      rw [pz_mul_addL, pz_mul_scL]
      show c2 * D dD * X i = (pz_mul Q D i + c2 * pz_mul M D i) + R i
      have ei : c2 * (D dD * X i + -1 * pz_mul M D i) = pz_mul Q D i + R i := ei
      rw [Int.mul_add, ← Int.mul_assoc] at ei
      have e2 : c2 * (-1 * pz_mul M D i) = -(c2 * pz_mul M D i) := by
        rw [Int.neg_mul, Int.one_mul, Int.mul_neg]
      omega
theorem bez {X Y : pz_P} {N : Nat} (hX : pz_lt X N) (hY : pz_lt Y N) (h0 : X ≠ pz_0) : ∃ (Z u v : pz_P) (n dz : Nat), pz_lt u n ∧ pz_lt v n ∧ Z = pz_add (pz_mul u X) (pz_mul v Y) ∧ pz_lt Z (dz + 1) ∧ Z dz ≠ 0 ∧ qdv Z X ∧ qdv Z Y := by
  obtain ⟨dx, _, hx1, hx2⟩ := kq_deg N X hX h0
  have ex : ∃ dz : Nat, ∃ (Z u v : pz_P) (n : Nat), pz_lt u n ∧ pz_lt v n ∧ Z = pz_add (pz_mul u X) (pz_mul v Y) ∧ pz_lt Z (dz + 1) ∧ Z dz ≠ 0 := ⟨dx, X, pz_one, pz_0, 1, fun i hi => if_neg (by omega), fun _ _ => rfl, by rw [pz_one_mul, pz_mul_0L]; funext i; show X i = X i + 0; omega, hx1, hx2⟩
  obtain ⟨dz, ⟨Z, u, v, n, hu, hv, hZ, z1, z2⟩, hmin⟩ := least ex
  have go : ∀ (W a b : pz_P) (k : Nat), pz_lt a k → pz_lt b k → W = pz_add (pz_mul a X) (pz_mul b Y) → pz_lt W (k + N) → qdv Z W := fun W a b k ha hb hW hl => by
    obtain ⟨c, Q, R, K, hc, hQ, hR, e⟩ := pdiv z1 z2 (k + N) W hl
    by_cases r0 : R = pz_0
    · refine ⟨c, Q, K, hc, hQ, ?_⟩
      rw [e, r0]
      funext i
      show _ + 0 = _
      rw [Int.add_zero]
    · exfalso
      obtain ⟨dr, r1, r2, r3⟩ := kq_deg dz R hR r0
      refine hmin dr r1 ⟨R, pz_add (pz_sc c a) (pz_sc (-1) (pz_mul Q u)), pz_add (pz_sc c b) (pz_sc (-1) (pz_mul Q v)), k + (K + n), pz_lt.add ((ha.sc c).mono (by omega)) (((pz_lt.mul hQ hu (c := K + n) (by omega)).sc (-1)).mono (by omega)), pz_lt.add ((hb.sc c).mono (by omega)) (((pz_lt.mul hQ hv (c := K + n) (by omega)).sc (-1)).mono (by omega)), funext fun i => ?_, r2, r3⟩
      have ei := congrFun e i
      rw [hW, hZ, pz_mul_addR, ← pz_mul_assoc, ← pz_mul_assoc] at ei
      have ei : c * (pz_mul a X i + pz_mul b Y i) = (pz_mul (pz_mul Q u) X i + pz_mul (pz_mul Q v) Y i) + R i := ei
      rw [pz_mul_addL, pz_mul_addL, pz_mul_scL, pz_mul_scL, pz_mul_scL, pz_mul_scL]
      show R i = (c * pz_mul a X i + -1 * pz_mul (pz_mul Q u) X i) + (c * pz_mul b Y i + -1 * pz_mul (pz_mul Q v) Y i)
      rw [Int.mul_add] at ei
      omega
  refine ⟨Z, u, v, n, dz, hu, hv, hZ, z1, z2, go X pz_one pz_0 1 (fun i hi => if_neg (by omega)) (fun _ _ => rfl) (by rw [pz_one_mul, pz_mul_0L]; funext i; show X i = X i + 0; omega) (hX.mono (by omega)), go Y pz_0 pz_one 1 (fun _ _ => rfl) (fun i hi => if_neg (by omega)) (by rw [pz_one_mul, pz_mul_0L, pz_0_add]) (hY.mono (by omega))⟩
theorem drv_c : ∀ (n : Nat) (u f : pz_P), pz_c (n + 1) u f * ((n + 1 : Nat) : Int) = pz_c n (drv u) f + pz_c n u (drv f)
  | 0, u, f => by
    show (u 0 * f 1 + u 1 * f 0) * ((0 + 1 : Nat) : Int) = u 1 * ((0 + 1 : Nat) : Int) * f 0 + u 0 * (f 1 * ((0 + 1 : Nat) : Int))
    rw [show ((0 + 1 : Nat) : Int) = 1 from rfl, Int.mul_one, Int.mul_one, Int.mul_one]
    omega
  | n + 1, u, f => by
    have ih := drv_c n (pz_tl u) f
    rw [drv_tl u, pz_c_addL]
    have e1 : pz_c (n + 1) (psh (drv (pz_tl u))) f = pz_c n (drv (pz_tl u)) f := by
      show 0 * f (n + 1) + pz_c n (pz_tl (psh (drv (pz_tl u)))) f = _
      rw [Int.zero_mul, Int.zero_add]
      rfl
    have e2 : pz_c (n + 1) u (drv f) = u 0 * (f (n + 2) * ((n + 2 : Nat) : Int)) + pz_c n (pz_tl u) (drv f) := rfl
    have e3 : pz_c (n + 1 + 1) u f = u 0 * f (n + 2) + pz_c (n + 1) (pz_tl u) f := rfl
    rw [e1, e2, e3, show ((n + 1 + 1 : Nat) : Int) = ((n + 1 : Nat) : Int) + 1 by omega, Int.add_mul, Int.mul_add (pz_c (n + 1) (pz_tl u) f), ih, Int.mul_one, Int.mul_assoc]
    omega
theorem drv_mul (u f : pz_P) : drv (pz_mul u f) = pz_add (pz_mul (drv u) f) (pz_mul u (drv f)) := funext fun n => drv_c n u f
theorem drv_lt {u : pz_P} {n : Nat} (h : pz_lt u (n + 1)) : pz_lt (drv u) n := fun i hi => by
  show u (i + 1) * _ = 0
  rw [h (i + 1) (by omega), Int.zero_mul]
def hpw (D : pz_P) : Nat → pz_P
  | 0 => pz_one
  | j + 1 => pz_mul D (hpw D j)
theorem hpw_deg {D : pz_P} {dd : Nat} (hD : pz_lt D (dd + 1)) (h0 : D dd ≠ 0) : ∀ j, pz_lt (hpw D j) (j * dd + 1) ∧ hpw D j (j * dd) ≠ 0
  | 0 => ⟨fun i hi => if_neg (by omega), by rw [Nat.zero_mul]; show (if 0 = 0 then (1 : Int) else 0) ≠ 0; decide⟩
  | j + 1 => by
    obtain ⟨a, b⟩ := hpw_deg hD h0 j
    rw [Nat.add_mul, Nat.one_mul, Nat.add_comm (j * dd) dd]
    refine ⟨pz_lt.mul hD a (by omega), ?_⟩
    have := pz_c_lead dd D (hpw D j) (j * dd) hD a
    show pz_c (dd + j * dd) D (hpw D j) ≠ 0
    rw [this]
    exact Int.mul_ne_zero h0 b
theorem drv_one : drv pz_one = pz_0 := funext fun i => by
  show (if i + 1 = 0 then (1 : Int) else 0) * _ = 0
  rw [if_neg (by omega), Int.zero_mul]
theorem pz_mul_0R (f : pz_P) : pz_mul f pz_0 = pz_0 := by rw [pz_mul_comm, pz_mul_0L]
theorem hpw_dv (D : pz_P) : ∀ j : Nat, pz_mul D (drv (hpw D j)) = pz_sc (j : Int) (pz_mul (drv D) (hpw D j))
  | 0 => by
    show pz_mul D (drv pz_one) = _
    rw [drv_one, pz_mul_0R]
    funext i
    exact (Int.zero_mul _).symm
  | j + 1 => by
    have ih := hpw_dv D j
    have e1 : hpw D (j + 1) = pz_mul D (hpw D j) := rfl
    rw [e1, drv_mul, pz_mul_addR, ih, pz_mul_scR]
    have e2 : pz_mul D (pz_mul (drv D) (hpw D j)) = pz_mul (drv D) (pz_mul D (hpw D j)) := by
      rw [← pz_mul_assoc, pz_mul_comm D (drv D), pz_mul_assoc]
    rw [e2]
    funext i
    show pz_mul (drv D) (pz_mul D (hpw D j)) i + (j : Int) * pz_mul (drv D) (pz_mul D (hpw D j)) i = ((j + 1 : Nat) : Int) * pz_mul (drv D) (pz_mul D (hpw D j)) i
    rw [show ((j + 1 : Nat) : Int) = (j : Int) + 1 by omega, Int.add_mul, Int.one_mul]
    omega
theorem qdv_mulself {D T : pz_P} {N : Nat} (hT : pz_lt T N) : qdv D (pz_mul T D) := (qdv.rf D).mul hT
theorem qdv.comm {D X Y : pz_P} (h : qdv D (pz_mul X Y)) : qdv D (pz_mul Y X) := by rwa [pz_mul_comm]
theorem qdv.sub {D X Y : pz_P} (h : qdv D (pz_add X Y)) (k : qdv D Y) : qdv D X := by
  have := h.add (k.sc (-1))
  have e : pz_add (pz_add X Y) (pz_sc (-1) Y) = X := funext fun i => by
    show X i + Y i + -1 * Y i = X i
    omega
  rwa [e] at this
section SQF
variable {P S G : pz_P} {dg ds : Nat}
theorem sqf (g : GP P (drv P) G dg) (e : P = pz_mul S G) (hS : pz_lt S (ds + 1)) (hS0 : S ds ≠ 0) {dd : Nat} {D : pz_P} (hD : pz_lt D (dd + 1)) (hD0 : D dd ≠ 0) (h1 : qdv D S) (h2 : qdv D (drv S)) : dd = 0 := by
  rcases Nat.eq_zero_or_pos dd with c | c
  · exact c
  exfalso
  have ex : ∃ dd : Nat, 1 ≤ dd ∧ ∃ D : pz_P, pz_lt D (dd + 1) ∧ D dd ≠ 0 ∧ qdv D S ∧ qdv D (drv S) := ⟨dd, c, D, hD, hD0, h1, h2⟩
  obtain ⟨dd, ⟨hd1, D, hD, hD0, h1, h2⟩, hmin⟩ := least ex
  have hDne : D ≠ pz_0 := fun q => hD0 (by rw [q]; rfl)
  obtain ⟨Z, u, v, n, dz, hu, hv, hZ, z1, z2, q1, q2⟩ := bez hD ((drv_lt hD).mono (by omega)) hDne
  have hdd : pz_lt (drv D) (dd - 1 + 1) := (drv_lt hD).mono (by omega)
  have hdd0 : drv D (dd - 1) ≠ 0 := by
    show D (dd - 1 + 1) * ((dd - 1 + 1 : Nat) : Int) ≠ 0
    rw [show dd - 1 + 1 = dd by omega]
    exact Int.mul_ne_zero hD0 (by omega)
  have hz := qdv.deg z1 z2 hdd hdd0 q2
  have dz0 : dz = 0 := by
    rcases Nat.eq_zero_or_pos dz with c | c
    · exact c
    · exact absurd ⟨c, Z, z1, z2, q1.tr h1, q1.tr h2⟩ (hmin dz (by omega))
  subst dz0
  -- D twice in S
  obtain ⟨s, T, nT, hs, hT, eT⟩ := h1
  have d1 : pz_sc s (drv S) = pz_add (pz_mul (drv T) D) (pz_mul T (drv D)) := by rw [← drv_sc, eT, drv_mul]
  have hdT : pz_lt (drv T) nT := drv_lt (hT.mono (by omega))
  have h3 : qdv D (pz_mul T (drv D)) := by
    have a := h2.sc s
    rw [d1] at a
    have b : pz_add (pz_mul (drv T) D) (pz_mul T (drv D)) = pz_add (pz_mul T (drv D)) (pz_mul (drv T) D) := funext fun i => Int.add_comm _ _
    rw [b] at a
    exact a.sub (qdv_mulself hdT)
  have hTD : qdv D T := by
    -- Z T = u D T + v D' T, Z a constant
    have a1 : qdv D (pz_mul Z T) := by
      rw [hZ, pz_mul_addL]
      refine qdv.add ?_ ?_
      · rw [pz_mul_assoc]
        refine qdv.mul ?_ hu
        rw [pz_mul_comm]
        exact qdv_mulself hT
      · rw [pz_mul_assoc]
        exact (qdv.comm h3).mul hv
    have a2 : pz_mul Z T = pz_sc (Z 0) T := funext fun i => by
      show pz_c i Z T = Z 0 * T i
      rw [pz_c_zs, zs_one (p := 0) (by omega) (fun j hj hn => by rw [z1 j (by omega), Int.zero_mul]), Nat.sub_zero]
    rw [a2] at a1
    exact a1.un z2
  obtain ⟨t, T2, n2, ht, hT2, eT2⟩ := hTD
  have e2 : pz_sc (t * s) S = pz_mul T2 (pz_mul D D) := by rw [← pz_sc_sc, eT, ← pz_mul_scL, eT2, pz_mul_assoc]
  -- so every power of D divides G
  have all : ∀ j, qdv (hpw D j) G := by
    intro j
    induction j with
    | zero => exact ⟨1, G, dg + 1, by decide, fun i hi => g.2.2.1 i (by omega), by rw [pz_sc_one, pz_mul_comm]; exact (pz_one_mul G).symm⟩
    | succ j ih =>
      obtain ⟨c, K, nK, hc, hK, eK⟩ := ih
      obtain ⟨W, hW⟩ : ∃ W, W = hpw D j := ⟨_, rfl⟩
      have hWd := hpw_dv D j
      rw [← hW] at eK hWd
      obtain ⟨Y, hY⟩ : ∃ Y, Y = pz_mul T2 K := ⟨_, rfl⟩
      have hYl : pz_lt Y (n2 + nK) := by
        rw [hY]
        exact pz_lt.mul hT2 hK (by omega)
      have eP : pz_sc (t * s * c) P = pz_mul Y (pz_mul D (pz_mul D W)) := by
        rw [e, ← pz_sc_sc, ← pz_mul_scR, ← pz_mul_scL, e2, eK, hY]
        simp only [pz_mul_assoc]
        rw [pz_mul_comm D (pz_mul D (pz_mul K W)), pz_mul_assoc D (pz_mul K W) D, pz_mul_assoc K W D, ← pz_mul_assoc D K, pz_mul_comm D K, pz_mul_assoc K D, pz_mul_comm W D]
      have hcc : t * s * c ≠ 0 := Int.mul_ne_zero (Int.mul_ne_zero ht hs) hc
      have hDl : pz_lt D (dd + 1) := hD
      have hdD : pz_lt (drv D) (dd + 1) := (drv_lt hD).mono (by omega)
      have hdY : pz_lt (drv Y) (n2 + nK) := drv_lt (hYl.mono (by omega))
      have b0 : qdv (pz_mul D W) (pz_mul D W) := qdv.rf _
      have k1 : qdv (pz_mul D W) P := by
        refine qdv.un hcc ?_
        rw [eP]
        exact ((b0.mul hDl).mul hYl)
      have k2 : qdv (pz_mul D W) (drv P) := by
        refine qdv.un hcc ?_
        rw [← drv_sc, eP, drv_mul, drv_mul, drv_mul, pz_mul_addR]
        refine qdv.add ((b0.mul hDl).mul hdY) ?_
        rw [pz_mul_addR]
        refine qdv.add ((b0.mul hdD).mul hYl) (qdv.mul ?_ hYl)
        refine qdv.add ?_ ?_
        · have e5 : pz_mul D (pz_mul (drv D) W) = pz_mul (drv D) (pz_mul D W) := by
            rw [← pz_mul_assoc, pz_mul_comm D (drv D), pz_mul_assoc]
          rw [e5]
          exact b0.mul hdD
        · rw [hWd, pz_mul_scR]
          have e5 : pz_mul D (pz_mul (drv D) W) = pz_mul (drv D) (pz_mul D W) := by
            rw [← pz_mul_assoc, pz_mul_comm D (drv D), pz_mul_assoc]
          rw [e5]
          exact (b0.mul hdD).sc _
      have k3 := g.2.2.2.2.2 _ k1 k2
      show qdv (pz_mul D (hpw D j)) G
      rw [← hW]
      exact k3
  have hG0 : G dg ≠ 0 := by have := g.2.1; omega
  obtain ⟨w1, w2⟩ := hpw_deg hD hD0 (dg + 1)
  have := qdv.deg w1 w2 (fun i hi => g.2.2.1 i (by omega)) hG0 (all (dg + 1))
  have h9 : dg + 1 ≤ (dg + 1) * dd := Nat.le_mul_of_pos_right _ hd1
  omega
end SQF
/-! Roots. -/
def vn (p q : Int) (X : pz_P) : Prop := ∀ n, pz_lt X n → hz n X p q = 0
section VN
variable {p q : Int} {X Y : pz_P} {n m : Nat}
theorem vn_of (hq : q ≠ 0) (hX : pz_lt X n) (h : hz n X p q = 0) : vn p q X := fun m hm => by
  rcases Nat.le_total n m with c | c
  · rw [show m = n + (m - n) by omega, hz_more n (m - n) X p q hX, h, Int.mul_zero]
  · have e := hz_more m (n - m) X p q hm
    rw [show m + (n - m) = n by omega, h] at e
    rcases Int.mul_eq_zero.mp e.symm with z | z
    · exact absurd z (Int.pow_ne_zero hq)
    · exact z
theorem vn.add (hq : q ≠ 0) (h : vn p q X) (k : vn p q Y) (hX : pz_lt X n) (hY : pz_lt Y n) : vn p q (pz_add X Y) := vn_of hq (hX.add hY) (by rw [hz_add, h n hX, k n hY]; rfl)
theorem vn.sc (h : vn p q X) (c : Int) (hq : q ≠ 0) (hX : pz_lt X n) : vn p q (pz_sc c X) := vn_of hq (hX.sc c) (by rw [hz_sc, h n hX, Int.mul_zero])
theorem vn.un {c : Int} (hc : c ≠ 0) (hq : q ≠ 0) (hX : pz_lt X n) (h : vn p q (pz_sc c X)) : vn p q X := vn_of hq hX (by
  have e := h n (hX.sc c)
  rw [hz_sc] at e
  rcases Int.mul_eq_zero.mp e with z | z
  · exact absurd z hc
  · exact z)
end VN
/-! A factor's coefficients, by its values at a few places. -/
def hbn : Nat → Nat → Nat → Nat
  | 0, _, _ => 0
  | n + 1, a, D => D ^ n + a * hbn n a D
/-! What closeIn answers; what halving steps find. -/
theorem pz_ev_sn : ∀ (n : Nat) (p : pz_P) (x : Int), pz_ev (n + 1) p x = pz_ev n p x + p n * x ^ n
  | 0, p, x => by
    rw [Int.pow_zero, Int.mul_one]
    show p 0 + x * 0 = 0 + p 0
    rw [Int.mul_zero]
    omega
  | n + 1, p, x => by
    show p 0 + x * pz_ev (n + 1) (pz_tl p) x = (p 0 + x * pz_ev n (pz_tl p) x) + p (n + 1) * x ^ (n + 1)
    rw [pz_ev_sn n, Int.mul_add, Int.pow_succ]
    have e : x * (pz_tl p n * x ^ n) = p (n + 1) * (x ^ n * x) := by
      show x * (p (n + 1) * x ^ n) = _
      ac_rfl
    rw [e]
    omega
theorem hpv_ev (f : pz_P) (x : Int) : ∀ (m : Nat) (v : Int), hpv f x m v = v * x ^ m + pz_ev m f x
  | 0, v => by
    rw [Int.pow_zero, Int.mul_one]
    show v = v + 0
    omega
  | m + 1, v => by
    show hpv f x m (v * x + f m) = _
    rw [hpv_ev f x m, pz_ev_sn, Int.add_mul, Int.pow_succ]
    have e : v * x * x ^ m = v * (x ^ m * x) := by ac_rfl
    rw [e]
    omega
theorem hz_ev (x y : Int) : ∀ (n : Nat) (p : pz_P), hz (n + 1) p x y = pz_ev (n + 1) (fun e => p e * y ^ (n - e)) x
  | 0, p => rfl
  | n + 1, p => by
    rw [hz_s, hz_ev x y n (pz_tl p)]
    show _ = p 0 * y ^ (n + 1 - 0) + x * pz_ev (n + 1) (fun e => p (e + 1) * y ^ (n + 1 - (e + 1))) x
    have e : (fun e => p (e + 1) * y ^ (n + 1 - (e + 1))) = fun e => pz_tl p e * y ^ (n - e) := funext fun e => by
      rw [Nat.add_sub_add_right]
      rfl
    rw [e, Nat.sub_zero]
theorem vlz_hz {f : pz_P} {x y : Int} {d : Nat} (h : fdg f 13 = d + 1) : vlz f x y = hz (d + 1) f x y := by
  unfold vlz
  rw [h, hpv_ev, Int.zero_mul, Int.zero_add, hz_ev, Nat.add_sub_cancel]
theorem fdg_at {f : pz_P} {d : Nat} (hd : d ≤ 12) (h1 : pz_lt f (d + 1)) (h0 : f d ≠ 0) : fdg f 13 = d + 1 := by
  have a := fdg_le f 13
  rcases Nat.lt_trichotomy (fdg f 13) (d + 1) with c | c | c
  · exact absurd (fdg_zero f 13 d (by omega) (by omega)) h0
  · exact c
  · exact absurd (h1 (fdg f 13 - 1) (by omega)) (fdg_ne f 13 (by omega))
section SPC
variable {A : pz_P} {k : Nat} {R : Nat → pz_P} {d : Nat → Nat}
theorem sat_sv (h : SPr A k R d) (h12 : d 0 ≤ 12) {D : Nat} (hD : 1 ≤ D) (x : Int) {i : Nat} (hi : i ≤ k) : sat R x (D : Int) i = sv R D x i := by
  have hd := h.di i hi
  obtain ⟨h0, h1⟩ := h.1 i hi
  show jsg (vlz (R i) x (D : Int)) = jsg (hz 13 (R i) x (D : Int))
  rw [vlz_hz (fdg_at (by omega) h1 h0), show 13 = d i + 1 + (12 - d i) by omega, hz_more _ _ _ _ _ h1, ← jsg_mul2, jsg_pos (Int.pow_pos (by omega)), Int.one_mul]
theorem sat_vch (h : SPr A k R d) (h12 : d 0 ≤ 12) {D : Nat} (hD : 1 ≤ D) (x : Int) : (chg (sat R x (D : Int)) (k + 1)).1 = vch R k D x := by
  unfold vch
  rw [chg_cg (k + 1) (fun i hi => sat_sv h h12 hD x (by omega))]
/-- how many roots lie up to x / D; the same without x / D itself -/
def wup (R : Nat → pz_P) (d : Nat → Nat) (k D : Nat) (x : Int) : Int := ((chg (sfar R d (-1)) (k + 1)).1 : Int) - (vch R k D x : Int)
def wlow (R : Nat → pz_P) (d : Nat → Nat) (k D : Nat) (x : Int) : Int := wup R d k D x - (if sv R D x 0 = 0 then 1 else 0)
def wall (R : Nat → pz_P) (d : Nat → Nat) (k : Nat) : Int := ((chg (sfar R d (-1)) (k + 1)).1 : Int) - ((chg (sfar R d 1) (k + 1)).1 : Int)
theorem wup_mono (h : SPr A k R d) (h12 : d 0 ≤ 12) (hk : d k = 0) {D : Nat} (hD : 1 ≤ D) {x y : Int} (hxy : x < y) : wup R d k D x ≤ wup R d k D y ∧ (sv R D y 0 = 0 → wup R d k D x + 1 ≤ wup R d k D y) := by
  obtain ⟨a, b⟩ := st_mono h h12 hk hD hxy
  unfold wup
  exact ⟨by omega, fun z => by have := b z; omega⟩
theorem wup_le (h : SPr A k R d) (h12 : d 0 ≤ 12) (hk : d k = 0) {D : Nat} (hD : 1 ≤ D) {x y : Int} (hxy : x ≤ y) : wup R d k D x ≤ wup R d k D y := by
  rcases Int.lt_or_eq_of_le hxy with c | c
  · exact (wup_mono h h12 hk hD c).1
  · rw [c]
    exact Int.le_refl _
theorem wup_rg (h : SPr A k R d) (h12 : d 0 ≤ 12) (hk : d k = 0) {D : Nat} (hD : 1 ≤ D) (x : Int) : 0 ≤ wup R d k D x ∧ wup R d k D x ≤ wall R d k := by
  obtain ⟨a, b⟩ := st_ends h h12 hk hD x
  unfold wup wall
  omega
/-- the sign of the floor of the root -/
def wsg (R : Nat → pz_P) (d : Nat → Nat) (k D : Nat) (root : Int) : Int := if root < wlow R d k D 0 then -1 else if root < wlow R d k D 1 then 0 else 1
/-- what a place that was found must hold: for every place y strictly above the bound below, it is at least y just if wlow y is at most root -/
theorem wsg_of {D : Nat} {root f : Int} (h0 : 0 ≤ f ↔ wlow R d k D 0 ≤ root) (h1 : 1 ≤ f ↔ wlow R d k D 1 ≤ root) : jsg f = wsg R d k D root := by
  unfold wsg
  by_cases c0 : root < wlow R d k D 0
  · rw [if_pos c0, jsg_neg (by omega)]
  · rw [if_neg c0]
    by_cases c1 : root < wlow R d k D 1
    · rw [if_pos c1, show f = 0 by omega]
      rfl
    · rw [if_neg c1, jsg_pos (by omega)]
end SPC
/-- the row of Sturm of a register's simple part, and what is asked of the number of the root -/
def cCnt (N : Nat → Int) (a root : Int) : Prop := ∃ (S : pz_P) (k : Nat) (R : Nat → pz_P) (d : Nat → Nat), smR (rwN N a) S ∧ SRw S k R d ∧ 0 ≤ root ∧ root < wall R d k
abbrev A_closeIn (N : Nat → Int) (a root bits : Int) : Int → Int → Prop := an [(0 ≤ a ∧ a ≤ 5, 1), (cCnt N a root, 1), (0 ≤ bits ∧ bits ≤ 20, 2)] (fun z => ∃ (S : pz_P) (k : Nat) (R : Nat → pz_P) (d : Nat → Nat), smR (rwN N a) S ∧ SRw S k R d ∧ z = wsg R d k (2 ^ bits.toNat) root)
theorem smR.d12 {F S : pz_P} (h : smR F S) {k : Nat} {R : Nat → pz_P} {d : Nat → Nat} (r : SRw S k R d) : d 0 ≤ 12 ∧ ∃ ds, ds ≤ 12 ∧ d 0 = ds ∧ pz_lt S (ds + 1) ∧ S ds ≠ 0 := by
  obtain ⟨G, dg, _, _, ds, h1, h2, h3⟩ := h
  have e := r.1.2.2.1.deg (r.1.1 0 (Nat.zero_le _)).1 (r.1.1 0 (Nat.zero_le _)).2 h3 h2
  exact ⟨by omega, ds, h1, e, h2, h3⟩
theorem wsg_one {S : pz_P} {k k' : Nat} {R R' : Nat → pz_P} {d d' : Nat → Nat} (h : SRw S k R d) (h' : SRw S k' R' d') (h12 : d 0 ≤ 12) (h12' : d' 0 ≤ 12) {D : Nat} (hD : 1 ≤ D) (root : Int) : wsg R d k D root = wsg R' d' k' D root := by
  have e1 : ∀ x : Int, vch R k D x = vch R' k' D x := fun x => by
    rw [← sat_vch h.1 h12 hD x, ← sat_vch h'.1 h12' hD x, h.sat h']
  have e2 : ∀ x : Int, sv R D x 0 = sv R' D x 0 := fun x => by
    rw [← sat_sv h.1 h12 hD x (Nat.zero_le _), ← sat_sv h'.1 h12' hD x (Nat.zero_le _)]
    exact (h.1.2.2.1.tr h'.1.2.2.1.sy).vl x (D : Int)
  have e3 : ∀ x : Int, wlow R d k D x = wlow R' d' k' D x := fun x => by
    unfold wlow wup
    rw [e1, e2, h.far h']
  unfold wsg
  rw [e3, e3]
theorem A_closeIn.ag {N : Nat → Int} {a root bits c1 z1 c2 z2 : Int} (x : A_closeIn N a root bits c1 z1) (y : A_closeIn N a root bits c2 z2) : c1 = c2 ∧ (c1 = 0 → z1 = z2) := an.ag (fun _ _ a b => by
  obtain ⟨S, k, R, d, s, h, e⟩ := a
  obtain ⟨S', k', R', d', s', h', e'⟩ := b
  have es := s.one s'
  subst es
  rw [e, e', wsg_one h h' (s.d12 h).1 (s'.d12 h').1 (Nat.pow_pos (by decide))]) (by simp) x y
/-- the last row of a simple part is a constant -/
theorem smR.last {F S : pz_P} (h : smR F S) {k : Nat} {R : Nat → pz_P} {d : Nat → Nat} (r : SRw S k R d) : d k = 0 := by
  obtain ⟨G, dg, g, e, ds, h1, h2, h3⟩ := h
  -- the last row divides all the others
  have all : ∀ j, j ≤ k → qdv (R k) (R (k - j)) ∧ (1 ≤ j → qdv (R k) (R (k - j + 1))) := by
    intro j
    induction j with
    | zero => exact fun _ => ⟨by rw [Nat.sub_zero]; exact qdv.rf _, fun q => by omega⟩
    | succ j ih =>
      intro hj
      obtain ⟨i1, i2⟩ := ih (by omega)
      have e1 : k - (j + 1) + 1 = k - j := by omega
      refine ⟨?_, fun _ => by rw [e1]; exact i1⟩
      have key : ∀ Z : pz_P, sN (R (k - (j + 1))) (R (k - j)) Z → qdv (R k) Z → qdv (R k) (R (k - (j + 1))) := fun Z hs hz => by
        obtain ⟨p, q, Q, n, hp, hq, hQ, en⟩ := hs
        refine qdv.un (a := p) (by omega) ?_
        have e2 : pz_add (pz_sc p (R (k - (j + 1)))) (pz_sc q Z) = pz_mul Q (R (k - j)) := funext en
        have a1 : qdv (R k) (pz_add (pz_sc p (R (k - (j + 1)))) (pz_sc q Z)) := by
          rw [e2]
          exact i1.mul hQ
        exact a1.sub (hz.sc q)
      rcases Nat.eq_zero_or_pos j with c | c
      · subst c
        exact key pz_0 (r.2.2 (by omega)) (qdv.z _)
      · have a2 := i2 c
        have a3 := r.1.2.2.2.2 (k - (j + 1)) (by omega)
        rw [e1, show k - (j + 1) + 2 = k - j + 1 by omega] at a3
        exact key _ a3 a2
  obtain ⟨a0, a1⟩ := all k (Nat.le_refl _)
  rw [Nat.sub_self] at a0 a1
  have pmq : ∀ {X Y D : pz_P}, pM X Y → qdv D X → qdv D Y := fun hXY hd => by
    obtain ⟨a, b, ha, hb, e⟩ := hXY
    refine qdv.un (a := b) (by omega) ?_
    rw [← e]
    exact hd.sc a
  have hS : qdv (R k) S := pmq r.1.2.2.1 a0
  have hS' : qdv (R k) (drv S) := by
    rcases Nat.eq_zero_or_pos k with c | c
    · exact qdv_0 _ (r.2.1 c)
    · exact pmq (r.1.2.2.2.1 c) (a1 c)
  exact sqf g e h2 h3 (r.1.1 k (Nat.le_refl _)).2 (r.1.1 k (Nat.le_refl _)).1 hS hS'
/-! The row of Sturm of a simple part: how great its numbers are; goOn over it. -/
def bs (q : Nat) : Nat := if q = 11 then 9400000000000000000000 else 45000000000000000000000
def bdS (q k : Nat) : Nat := fct k * bs q ^ k
theorem bs_pos (q : Nat) : 1 ≤ bs q := by
  unfold bs
  split <;> decide
theorem bdS_succ (q k : Nat) : bdS q k ≤ bdS q (k + 1) := by
  unfold bdS
  refine Nat.mul_le_mul ?_ (Nat.pow_le_pow_right (bs_pos q) (Nat.le_succ k))
  exact Nat.le_mul_of_pos_left _ (Nat.succ_pos k)
theorem bdS_mono {q k k' : Nat} (h : k ≤ k') : bdS q k ≤ bdS q k' := by
  induction k' with
  | zero => rw [show k = 0 by omega]; exact Nat.le_refl _
  | succ k' ih =>
    by_cases c : k = k' + 1
    · rw [c]; exact Nat.le_refl _
    · exact Nat.le_trans (ih (by omega)) (bdS_succ q k')
theorem bdS_one (q : Nat) : bdS q 1 = bs q := by
  unfold bdS fct
  rw [Nat.pow_one]
  show 1 * 1 * bs q = bs q
  omega
theorem bdS_pos (q k : Nat) : 1 ≤ bdS q k := Nat.le_trans (fct_pos k) (Nat.le_mul_of_pos_right _ (Nat.pow_pos (bs_pos q)))
/-- two neighbours of the row, with their sizes -/
def RBs (q : Nat) (A B : pz_P) (m n : Nat) (X Y : pz_P) (dx dy : Nat) (la ps : Int) : Prop := RI A B m n X Y dx dy la ps ∧ dx ≤ q ∧ (∀ e, (X e).natAbs ≤ bdS q (2 * q + 1 - 2 * dx)) ∧ (∀ e, (Y e).natAbs ≤ bdS q (2 * q + 1 - 2 * dx)) ∧ dy < dx ∧ la.natAbs ≤ bdS q (2 * q - 1) ∧ ps.natAbs ≤ bdS q (2 * q - 1)
section RBT
variable {q : Nat} {A B X Y F : pz_P} {m n dx dy rr : Nat} {la ps : Int}
theorem RBs.start (hA : ∀ i, m < i → A i = 0) (hB : ∀ i, n < i → B i = 0) (hn : B n ≠ 0) (hmn : n + 1 ≤ m) (hm : m ≤ q) (bA : ∀ e, (A e).natAbs ≤ bs q) (bB : ∀ e, (B e).natAbs ≤ bs q) : RBs q A B m n A B m n 1 1 := by
  have h1 : ∀ k, 1 ≤ k → bs q ≤ bdS q k := fun k hk => by
    rw [← bdS_one]
    exact bdS_mono hk
  exact ⟨RI.start hA hB hn (by omega), hm, fun e => Nat.le_trans (bA e) (h1 _ (by omega)), fun e => Nat.le_trans (bB e) (h1 _ (by omega)), by omega, bdS_pos _ _, bdS_pos _ _⟩
theorem RBs.sb (hm : m ≤ q) (hn : n + 1 ≤ q) (bA : ∀ e, (A e).natAbs ≤ bs q) (bB : ∀ e, (B e).natAbs ≤ bs q) {u k : Nat} (hk : n - u + (m - u) ≤ k) (h1 : 1 ≤ k) (e : Nat) : (SB (n - u) (m - u) n A B e).natAbs ≤ bdS q k := by
  by_cases c : 1 ≤ n - u + (m - u)
  · exact Nat.le_trans (SB_abs (n := n) c bA bB e) (bdS_mono hk)
  · rw [show n - u = 0 by omega, show m - u = 0 by omega]
    have h5 : (SB 0 0 n A B e).natAbs ≤ bs q := by
      unfold SB
      exact srow_abs bA bB 0 e
    refine Nat.le_trans h5 ?_
    rw [← bdS_one]
    exact bdS_mono h1
theorem RBs.div (r : RBs q A B m n X Y dx dy la ps) (hm : m ≤ q) (hn : n + 1 ≤ q) (bA : ∀ e, (A e).natAbs ≤ bs q) (bB : ∀ e, (B e).natAbs ≤ bs q) (h1 : 1 ≤ dy) (e : Nat) : (rdv X Y dx dy la ps e).natAbs ≤ bdS q (2 * q + 1 - 2 * dy) := by
  have hdy := r.2.2.2.2.1
  have hdx := r.2.1
  have h4 : (rdv X Y dx dy la ps e).natAbs = (SB (n - (dy - 1)) (m - (dy - 1)) n A B e).natAbs := by
    rcases (r.1.div h1).1 with q | q
    · rw [q e]
    · rw [q e, Int.natAbs_neg]
  rw [h4]
  exact RBs.sb hm hn bA bB (by omega) (by omega) e
theorem RBs.next (r : RBs q A B m n X Y dx dy la ps) (hm : m ≤ q) (hn : n + 1 ≤ q) (bA : ∀ e, (A e).natAbs ≤ bs q) (bB : ∀ e, (B e).natAbs ≤ bs q) (h1 : 1 ≤ dy) (hF : pm F (rdv X Y dx dy la ps)) (hr : rr < dy) (hz : ∀ i, rr < i → F i = 0) (hne : F rr ≠ 0) : RBs q A B m n Y F dy rr ((Y dy).natAbs : Int) (nxk Y dx dy ps) := by
  have hd := r.div hm hn bA bB h1
  obtain ⟨r1, r2, r3, r4, r5, r6, r7⟩ := r
  refine ⟨r1.next h1 hF hr hz hne, by omega, fun e => Nat.le_trans (r4 e) (bdS_mono (by omega)), fun e => ?_, hr, ?_, ?_⟩
  · have : (F e).natAbs = (rdv X Y dx dy la ps e).natAbs := by
      rcases hF with q | q
      · rw [q e]
      · rw [q e, Int.natAbs_neg]
    rw [this]
    exact hd e
  · rw [Int.natAbs_natCast]
    exact Nat.le_trans (r4 dy) (bdS_mono (by omega))
  · rw [(r1.known (by omega)).1, Int.natAbs_natCast]
    exact RBs.sb hm hn bA bB (by omega) (by omega) dy
/-- the rooms suffice -/
theorem size_1s : ∀ q, q < 12 → ∀ d, d < q + 1 → 1 ≤ d → bdS q (2 * q + 1 - 2 * d) * (2 * bdS q (2 * q + 1 - 2 * d)) ^ d < jB ^ 235 := by decide +kernel
theorem size_2s : ∀ q, q < 12 → ∀ d, d < q + 1 → 1 ≤ d → bdS q (2 * q + 1 - 2 * d) < jB ^ (60 - 4 * d) := by decide +kernel
theorem size_3s : ∀ q, q < 12 → bdS q (2 * q - 1) < jB ^ 60 := by decide +kernel
theorem RBs.fit (hq : q < 12) (r : RBs q A B m n X Y dx dy la ps) (h1 : 1 ≤ dy) : bdS q (2 * q + 1 - 2 * dx) * (2 * bdS q (2 * q + 1 - 2 * dx)) ^ (dx - dy + 1) < jB ^ 235 := by
  have hdy := r.2.2.2.2.1
  have hd := r.2.1
  refine Nat.lt_of_le_of_lt ?_ (size_1s q hq dx (by omega) (by omega))
  exact Nat.mul_le_mul_left _ (Nat.pow_le_pow_right (by have := bdS_pos q (2 * q + 1 - 2 * dx); omega) (by omega))
theorem RBs.r174 (hq : q < 12) (r : RBs q A B m n X Y dx dy la ps) : jnl la.natAbs ≤ 60 ∧ jnl ps.natAbs ≤ 60 := by
  obtain ⟨_, _, _, _, _, a, b⟩ := r
  exact ⟨jnl_le_lt.mpr (Nat.lt_of_le_of_lt a (size_3s q hq)), jnl_le_lt.mpr (Nat.lt_of_le_of_lt b (size_3s q hq))⟩
theorem RBs.rlow (r : RBs q A B m n X Y dx dy la ps) : ∀ e, dy ≤ e → rdv X Y dx dy la ps e = 0 := fun e he => by
  unfold rdv
  rw [er_low r.1.2.2.2.1 r.1.2.1 r.1.1 e he, itd_zero, itd_zero]
theorem RBs.rcap (hq : q < 12) (r : RBs q A B m n X Y dx dy la ps) (hm : m ≤ q) (hn : n + 1 ≤ q) (bA : ∀ e, (A e).natAbs ≤ bs q) (bB : ∀ e, (B e).natAbs ≤ bs q) (h1 : 1 ≤ dy) (e : Nat) (he : e < 13) : jnl (rdv X Y dx dy la ps e).natAbs ≤ 56 - 4 * e := by
  have hdy := r.2.2.2.2.1
  have hdx := r.2.1
  by_cases c : dy ≤ e
  · rw [r.rlow e c]
    exact Nat.le_trans (Nat.le_of_eq jnl_zero) (Nat.zero_le _)
  · refine Nat.le_trans (jnl_le_lt.mpr (Nat.lt_of_le_of_lt (r.div hm hn bA bB h1 e) (size_2s q hq dy (by omega) h1))) (by omega)
theorem RBs.y60 (hq : q < 12) (r : RBs q A B m n X Y dx dy la ps) (e : Nat) : jnl (Y e).natAbs ≤ 60 := by
  have hdy := r.2.2.2.2.1
  exact jnl_le_lt.mpr (Nat.lt_of_le_of_lt (Nat.le_trans (r.2.2.2.1 e) (bdS_mono (by omega))) (size_3s q hq))
theorem RBs.rl60 (hq : q < 12) (r : RBs q A B m n X Y dx dy la ps) : jnl (Y dy).natAbs ≤ 60 := r.y60 hq dy
theorem RBs.rlq (hq : q < 12) (r : RBs q A B m n X Y dx dy la ps) (h1 : 1 ≤ dy) : ∀ i, i ≤ dx - dy → jnl ((((Y dy).natAbs : Nat) : Int) ^ i).natAbs ≤ 239 := fun i hi => by
  have hf := r.fit hq h1
  rw [jnl_le_lt, Int.natAbs_pow, Int.natAbs_natCast]
  have h2 : (Y dy).natAbs ^ i ≤ (2 * bdS q (2 * q + 1 - 2 * dx)) ^ i := Nat.pow_le_pow_left (by have := r.2.2.2.1 dy; omega) i
  have h3 : (2 * bdS q (2 * q + 1 - 2 * dx)) ^ i ≤ (2 * bdS q (2 * q + 1 - 2 * dx)) ^ (dx - dy + 1) := Nat.pow_le_pow_right (by have := bdS_pos q (2 * q + 1 - 2 * dx); omega) (by omega)
  have h4 : (2 * bdS q (2 * q + 1 - 2 * dx)) ^ (dx - dy + 1) ≤ bdS q (2 * q + 1 - 2 * dx) * (2 * bdS q (2 * q + 1 - 2 * dx)) ^ (dx - dy + 1) := Nat.le_mul_of_pos_left _ (bdS_pos _ _)
  have h5 : jB ^ 235 ≤ jB ^ 239 := Nat.pow_le_pow_right (by decide) (by decide)
  omega
theorem RBs.rk60 (hq : q < 12) (r : RBs q A B m n X Y dx dy la ps) (bA : ∀ e, (A e).natAbs ≤ bs q) (bB : ∀ e, (B e).natAbs ≤ bs q) (hm : m ≤ q) (hn : n + 1 ≤ q) : jnl (itd ((((Y dy).natAbs : Nat) : Int) ^ (dx - dy)) ps (dx - dy - 1)).natAbs ≤ 60 := by
  have hdy := r.2.2.2.2.1
  have hdx := r.2.1
  have h2 : itd ((((Y dy).natAbs : Nat) : Int) ^ (dx - dy)) ps (dx - dy - 1) = nxk Y dx dy ps := by
    unfold nxk
    rw [if_neg (by omega)]
  rw [h2, (r.1.known (by omega)).1, Int.natAbs_natCast]
  exact jnl_le_lt.mpr (Nat.lt_of_le_of_lt (RBs.sb hm hn bA bB (k := 2 * q - 1) (by omega) (by omega) dy) (size_3s q hq))
end RBT
/-- the rows 0 to k stand there -/
def SJs (q : Nat) (A : pz_P) (k : Nat) (V : Nat → Int) (X : Nat → Nat → Int) : Prop := SPr A k (srw V) (sdg X) ∧ (∀ i, i ≤ k → 0 ≤ X (sro i) 2 ∧ sdg X i < cL (sro i + 3)) ∧ ∀ i, i ≤ k → ∀ e, (srw V i e).natAbs ≤ if i < 2 then bs q else bdS q (2 * q - 1 - 2 * sdg X i)
/-- the whole row stands there -/
def GSs (q : Nat) (A : pz_P) (V : Nat → Int) (X : Nat → Nat → Int) : Prop := ∃ k : Nat, k ≤ 12 ∧ X 172 2 = ((k + 1 : Nat) : Int) ∧ SRw A k (srw V) (sdg X) ∧ SJs q A k V X
theorem SJs.cg {q : Nat} {A : pz_P} {k : Nat} {V V1 : Nat → Int} {X X1 : Nat → Nat → Int} (h : SJs q A k V X) (hV : ∀ i, i ≤ k → srw V1 i = srw V i) (hX : ∀ i, i ≤ k → X1 (sro i) 2 = X (sro i) 2) : SJs q A k V1 X1 := by
  have hd : ∀ i, i ≤ k → sdg X1 i = sdg X i := fun i hi => by
    unfold sdg
    rw [hX i hi]
  refine ⟨h.1.cg hV hd, fun i hi => ?_, fun i hi e => ?_⟩
  · rw [hd i hi, hX i hi]
    exact h.2.1 i hi
  · rw [hd i hi, hV i hi]
    exact h.2.2 i hi e
theorem SJs.x172 {q : Nat} {A : pz_P} {k : Nat} {V : Nat → Int} {X : Nat → Nat → Int} {v : Int} (hk : k < 14) (h : SJs q A k V X) : SJs q A k V (xup X 172 2 v) := h.cg (fun _ _ => rfl) (fun i hi => congrFun (xup_oth (by have := (sro_2 (i := i) (by omega)).1; omega)) 2)
theorem SJs.k12 {q : Nat} {A : pz_P} {k : Nat} {V : Nat → Int} {X : Nat → Nat → Int} (h : SJs q A k V X) : k ≤ 12 := by
  have a := h.1.di k (Nat.le_refl _)
  have b := (h.2.1 0 (Nat.zero_le _)).2
  rw [(sro_k (t := 0) (by decide)).2, if_pos (by decide)] at b
  omega
theorem SJs.zero {q : Nat} {A : pz_P} {t : Nat} {V : Nat → Int} {X : Nat → Nat → Int} (h : SJs q A (t + 1) V X) (hk : X 172 2 = ((t + 2 : Nat) : Int)) (hs : sN (srw V t) (srw V (t + 1)) pz_0) : GSs q A V X := ⟨t + 1, h.k12, hk, ⟨h.1, fun q => absurd q (by omega), fun _ => hs⟩, h⟩
theorem SJs.const {q : Nat} {A : pz_P} {t : Nat} {V : Nat → Int} {X : Nat → Nat → Int} (h : SJs q A (t + 1) V X) (hk : X 172 2 = ((t + 2 : Nat) : Int)) (h0 : X (sro (t + 1)) 2 = ((0 : Nat) : Int)) : GSs q A V X := by
  obtain ⟨y0, y1⟩ := h.1.1 (t + 1) (Nat.le_refl _)
  have e : sdg X (t + 1) = 0 := by
    unfold sdg
    rw [h0]
    rfl
  rw [e] at y0 y1
  exact h.zero hk (sN.const (h.1.1 t (by omega)).2 y0 (fun i hi => y1 i (by omega)))
theorem SJs.next {q : Nat} {A : pz_P} {t rr dy : Nat} {V V3 : Nat → Int} {X X3 : Nat → Nat → Int} (h : SJs q A (t + 1) V X) (fV : ∀ i, i ≤ t + 1 → srw V3 i = srw V i) (fX : ∀ i, i ≤ t + 1 → X3 (sro i) 2 = X (sro i) 2) (h3 : X3 (sro (t + 2)) 2 = (rr : Int)) (hlt : rr < dy) (hdy : X (sro (t + 1)) 2 = (dy : Int)) (hcl : rr < cL (sro (t + 2) + 3)) (h0 : srw V3 (t + 2) rr ≠ 0) (hz : ∀ i, rr < i → srw V3 (t + 2) i = 0) (hs : sN (srw V t) (srw V (t + 1)) (srw V3 (t + 2))) (hb : ∀ e, (srw V3 (t + 2) e).natAbs ≤ bdS q (2 * q + 1 - 2 * dy)) : SJs q A (t + 2) V3 X3 := by
  have k := h.cg fV fX
  have e3 : sdg X3 (t + 2) = rr := by
    unfold sdg
    rw [h3]
    rfl
  have e2 : sdg X3 (t + 1) = dy := by
    unfold sdg
    rw [fX (t + 1) (Nat.le_refl _), hdy]
    rfl
  refine ⟨k.1.next ?_ ?_ ?_ ?_, fun i hi => ?_, fun i hi e => ?_⟩
  · rw [fV t (by omega), fV (t + 1) (by omega)]
    exact hs
  · rw [e3]
    exact h0
  · rw [e3]
    exact fun i hi => hz i (by omega)
  · rw [e3, e2]
    exact hlt
  · by_cases c : i = t + 2
    · rw [c, e3, h3]
      exact ⟨by omega, hcl⟩
    · exact k.2.1 i (by omega)
  · by_cases c : i = t + 2
    · rw [c, e3, if_neg (by omega)]
      exact Nat.le_trans (hb e) (bdS_mono (by omega))
    · exact k.2.2 i (by omega) e
/-- what halving steps keep: before the first place; all places negative; the first place taken -/
def cInv (f : Int → Int) (root : Int) (bits j : Nat) (K : Int) : Prop := (j = 0 ∧ K = -((2 ^ bits : Nat) : Int)) ∨ (1 ≤ j ∧ root < f 0 ∧ K ≤ -((2 ^ (bits + 1 - j) : Nat) : Int)) ∨ (1 ≤ j ∧ f 0 ≤ root ∧ 0 ≤ K ∧ f K ≤ root ∧ (j = bits + 1 → K = 0 → root < f 1))
theorem cInv.step {f : Int → Int} {root K : Int} {bits j : Nat} (hb : 1 ≤ bits) (hj : j ≤ bits) (h : cInv f root bits j K) : (f (K + ((2 ^ (bits - j) : Nat) : Int)) ≤ root → cInv f root bits (j + 1) (K + ((2 ^ (bits - j) : Nat) : Int))) ∧ (root < f (K + ((2 ^ (bits - j) : Nat) : Int)) → cInv f root bits (j + 1) K) := by
  have hp : 1 ≤ 2 ^ (bits - j) := Nat.pow_pos (by decide)
  have e1 : bits + 1 - (j + 1) = bits - j := by omega
  rcases h with ⟨j0, hK⟩ | ⟨j1, h0, hK⟩ | ⟨j1, h0, hK, hf, _⟩
  · subst j0
    rw [hK, Nat.sub_zero, show -((2 ^ bits : Nat) : Int) + ((2 ^ bits : Nat) : Int) = 0 by omega]
    refine ⟨fun q => Or.inr (Or.inr ⟨by omega, q, by omega, q, fun w => by omega⟩), fun q => Or.inr (Or.inl ⟨by omega, q, ?_⟩)⟩
    rw [show bits + 1 - (0 + 1) = bits by omega]
    omega
  · have e2 : 2 ^ (bits + 1 - j) = 2 * 2 ^ (bits - j) := by
      rw [show bits + 1 - j = (bits - j) + 1 by omega, Nat.pow_succ, Nat.mul_comm]
    rw [e2] at hK
    refine ⟨fun _ => Or.inr (Or.inl ⟨by omega, h0, ?_⟩), fun _ => Or.inr (Or.inl ⟨by omega, h0, ?_⟩)⟩ <;> rw [e1] <;> omega
  · refine ⟨fun q => Or.inr (Or.inr ⟨by omega, h0, by omega, q, fun _ w => by omega⟩), fun q => Or.inr (Or.inr ⟨by omega, h0, hK, hf, fun w z => ?_⟩)⟩
    have ej : j = bits := by omega
    subst ej
    rw [z, Nat.sub_self] at q
    exact q
theorem cInv.fin {f : Int → Int} {root K : Int} {bits : Nat} (hm : ∀ x y, x ≤ y → f x ≤ f y) (h : cInv f root bits (bits + 1) K) : (0 ≤ K ↔ f 0 ≤ root) ∧ (1 ≤ K ↔ f 1 ≤ root) := by
  have m01 := hm 0 1 (by decide)
  rcases h with ⟨j0, _⟩ | ⟨_, h0, hK⟩ | ⟨_, h0, hK, hf, hl⟩
  · omega
  · rw [show bits + 1 - (bits + 1) = 0 by omega] at hK
    have hK : K ≤ -((1 : Nat) : Int) := hK
    constructor <;> constructor <;> intro q <;> omega
  · refine ⟨⟨fun _ => h0, fun _ => hK⟩, fun q => ?_, fun q => ?_⟩
    · exact Int.le_trans (hm 1 K q) hf
    · rcases Int.lt_or_eq_of_le hK with c | c
      · omega
      · have := hl rfl c.symm
        omega
/-! The reference's closeIn, exactly. -/
theorem SRw.cgf {A : pz_P} {k : Nat} {R R' : Nat → pz_P} {d d' : Nat → Nat} (h : SRw A k R d) (hR : ∀ i, i ≤ k → R' i = R i) (hd : ∀ i, i ≤ k → d' i = d i) : SRw A k R' d' := by
  refine ⟨h.1.cg hR hd, h.2.1, fun q => ?_⟩
  rw [hR (k - 1) (by omega), hR k (Nat.le_refl _)]
  exact h.2.2 q
theorem ppr_nz {f : Nat → Int} {i : Nat} (h : ppr f i ≠ 0) : i < 13 ∧ f i ≠ 0 := by
  unfold ppr at h
  by_cases c : i < 13
  · rw [if_pos c] at h
    exact ⟨c, fun q => h (by rw [q]; exact Int.zero_tdiv _)⟩
  · rw [if_neg c] at h
    exact absurd rfl h
theorem smR.ne {F S : pz_P} (h : smR F S) : 1 ≤ fdg F 13 := by
  obtain ⟨G, dg, g, e, ds, h1, h2, h3⟩ := h
  have hGl : pz_lt G (dg + 1) := fun j hj => g.2.2.1 j (by omega)
  have hG0 : G dg ≠ 0 := by have := g.2.1; omega
  have e1 : ppr F (ds + dg) = S ds * G dg := by
    rw [e]
    exact pz_c_lead ds S G dg h2 hGl
  obtain ⟨q1, q2⟩ := ppr_nz (show ppr F (ds + dg) ≠ 0 by rw [e1]; exact Int.mul_ne_zero h3 hG0)
  rcases Nat.eq_zero_or_pos (fdg F 13) with c | c
  · exact absurd (fdg_zero F 13 (ds + dg) (by omega) q1) q2
  · exact c
/-! What the class's halving steps keep, and what they find. -/
section CIH
variable {A : pz_P} {k : Nat} {R : Nat → pz_P} {d : Nat → Nat}
def cI (R : Nat → pz_P) (d : Nat → Nat) (k D : Nat) (root : Int) (bits j : Nat) (low ul uh : Int) : Prop :=
  (0 ≤ ul ∧ ul ≤ root ∧ root < uh ∧ uh ≤ wall R d k) ∧ (-((2 ^ bits : Nat) : Int) ≤ low ∧ low + ((2 ^ (bits + 1 - j) : Nat) : Int) ≤ ((2 ^ bits : Nat) : Int)) ∧ (∀ x, low < x → ul ≤ wup R d k D x ∧ (sv R D x 0 = 0 → ul + 1 ≤ wup R d k D x)) ∧ (∀ x, x < low + ((2 ^ (bits + 1 - j) : Nat) : Int) → wup R d k D x ≤ uh) ∧ (low + ((2 ^ (bits + 1 - j) : Nat) : Int) = ((2 ^ bits : Nat) : Int) ∨ (root < wup R d k D (low + ((2 ^ (bits + 1 - j) : Nat) : Int)) ∧ wup R d k D (low + ((2 ^ (bits + 1 - j) : Nat) : Int)) ≤ uh ∧ (uh = wup R d k D (low + ((2 ^ (bits + 1 - j) : Nat) : Int)) ∨ uh = root + 1))) ∧ (low = -((2 ^ bits : Nat) : Int) ∨ wup R d k D low ≤ root)
theorem cI.start (h : SPr A k R d) (h12 : d 0 ≤ 12) (hk : d k = 0) {D : Nat} (hD : 1 ≤ D) {root : Int} (h0 : 0 ≤ root) (h1 : root < wall R d k) (bits : Nat) : cI R d k D root bits 0 (-((2 ^ bits : Nat) : Int)) 0 (wall R d k) := by
  have e : ((2 ^ (bits + 1 - 0) : Nat) : Int) = 2 * ((2 ^ bits : Nat) : Int) := by
    rw [Nat.sub_zero, Nat.pow_succ]
    omega
  have e2 : -((2 ^ bits : Nat) : Int) + ((2 ^ (bits + 1 - 0) : Nat) : Int) = ((2 ^ bits : Nat) : Int) := by omega
  refine ⟨⟨by omega, h0, h1, by omega⟩, ⟨by omega, by omega⟩, fun x hx => ⟨(wup_rg h h12 hk hD x).1, fun z => ?_⟩, fun x _ => (wup_rg h h12 hk hD x).2, Or.inl e2, Or.inl rfl⟩
  have a := (wup_mono h h12 hk hD (show x - 1 < x by omega)).2 z
  have b := (wup_rg h h12 hk hD (x - 1)).1
  omega
theorem cI.step (h : SPr A k R d) (h12 : d 0 ≤ 12) (hk : d k = 0) {D : Nat} (hD : 1 ≤ D) {root low ul uh : Int} {bits j : Nat} (hj : j ≤ bits) (c : cI R d k D root bits j low ul uh) :
    (wup R d k D (low + ((2 ^ (bits - j) : Nat) : Int)) ≤ root → (uh - ul ≤ 1 → cI R d k D root bits (j + 1) (low + ((2 ^ (bits - j) : Nat) : Int)) ul uh) ∧ cI R d k D root bits (j + 1) (low + ((2 ^ (bits - j) : Nat) : Int)) (wup R d k D (low + ((2 ^ (bits - j) : Nat) : Int))) uh) ∧
    (root < wup R d k D (low + ((2 ^ (bits - j) : Nat) : Int)) → (uh - ul ≤ 1 → cI R d k D root bits (j + 1) low ul uh) ∧ cI R d k D root bits (j + 1) low ul (wup R d k D (low + ((2 ^ (bits - j) : Nat) : Int)))) := by
  obtain ⟨⟨c1, c2, c3, c4⟩, ⟨p1, p2⟩, f2, f3, f4, f5⟩ := c
  have hp : 1 ≤ 2 ^ (bits - j) := Nat.pow_pos (by decide)
  have e : 2 ^ (bits + 1 - j) = 2 * 2 ^ (bits - j) := by rw [show bits + 1 - j = (bits - j) + 1 by omega, Nat.pow_succ, Nat.mul_comm]
  have e1 : bits + 1 - (j + 1) = bits - j := by omega
  obtain ⟨x, hx⟩ : ∃ x, x = low + ((2 ^ (bits - j) : Nat) : Int) := ⟨_, rfl⟩
  have ex : low + ((2 ^ (bits + 1 - j) : Nat) : Int) = x + ((2 ^ (bits - j) : Nat) : Int) := by rw [e]; omega
  rw [ex] at p2 f3 f4
  rw [← hx]
  have a1 := f2 x (by omega)
  have a2 := f3 x (by omega)
  have f2' : ∀ y, x < y → ul ≤ wup R d k D y ∧ (sv R D y 0 = 0 → ul + 1 ≤ wup R d k D y) := fun y hy => f2 y (by omega)
  have f2x : ∀ y, x < y → wup R d k D x ≤ wup R d k D y ∧ (sv R D y 0 = 0 → wup R d k D x + 1 ≤ wup R d k D y) := fun y hy => wup_mono h h12 hk hD hy
  have f3x : ∀ y, y < x → wup R d k D y ≤ wup R d k D x := fun y hy => (wup_mono h h12 hk hD hy).1
  unfold cI
  rw [e1, ← hx]
  refine ⟨fun q => ⟨fun _ => ?_, ?_⟩, fun q => ⟨fun w => ?_, ?_⟩⟩
  · exact ⟨⟨c1, c2, c3, c4⟩, ⟨by omega, p2⟩, f2', f3, f4, Or.inr q⟩
  · exact ⟨⟨by omega, q, c3, c4⟩, ⟨by omega, p2⟩, f2x, f3, f4, Or.inr q⟩
  · exact ⟨⟨c1, c2, c3, c4⟩, ⟨p1, by omega⟩, f2, fun y hy => f3 y (by omega), Or.inr ⟨q, a2, Or.inr (by omega)⟩, f5⟩
  · exact ⟨⟨c1, c2, q, by omega⟩, ⟨p1, by omega⟩, f2, f3x, Or.inr ⟨q, Int.le_refl _, Or.inl rfl⟩, f5⟩
/-- what was found: the last place taken, or the next one if it is the root itself -/
def cFd (R : Nat → pz_P) (D : Nat) (root low uh : Int) : Int := if uh = root + 1 ∧ sv R D (low + 1) 0 = 0 then low + 1 else low
theorem cI.fin (h : SPr A k R d) (h12 : d 0 ≤ 12) (hk : d k = 0) {D : Nat} (hD : 1 ≤ D) {root low ul uh : Int} {bits : Nat} (c : cI R d k D root bits (bits + 1) low ul uh) {y : Int} (y1 : -((2 ^ bits : Nat) : Int) < y) (y2 : y < ((2 ^ bits : Nat) : Int)) : y ≤ cFd R D root low uh ↔ wlow R d k D y ≤ root := by
  obtain ⟨⟨c1, c2, c3, c4⟩, ⟨p1, p2⟩, f2, f3, f4, f5⟩ := c
  rw [show bits + 1 - (bits + 1) = 0 by omega] at p2 f3 f4
  have p2 : low + 1 ≤ ((2 ^ bits : Nat) : Int) := p2
  have f3 : ∀ x, x < low + 1 → wup R d k D x ≤ uh := f3
  have f4 : low + 1 = ((2 ^ bits : Nat) : Int) ∨ (root < wup R d k D (low + 1) ∧ wup R d k D (low + 1) ≤ uh ∧ (uh = wup R d k D (low + 1) ∨ uh = root + 1)) := f4
  unfold cFd wlow
  by_cases lo : y ≤ low
  · have w1 := wup_le h h12 hk hD lo
    have w2 : wup R d k D low ≤ root := by
      rcases f5 with z | z
      · omega
      · exact z
    constructor
    · intro _
      split <;> omega
    · intro _
      split <;> omega
  · have z : root < wup R d k D (low + 1) ∧ wup R d k D (low + 1) ≤ uh ∧ (uh = wup R d k D (low + 1) ∨ uh = root + 1) := by
      rcases f4 with z | z
      · omega
      · exact z
    by_cases eq : y = low + 1
    · rw [eq]
      by_cases s0 : sv R D (low + 1) 0 = 0
      · rw [if_pos s0]
        by_cases u : uh = root + 1
        · rw [if_pos ⟨u, s0⟩]
          omega
        · rw [if_neg (fun w => u w.1)]
          rcases z.2.2 with w | w
          · omega
          · exact absurd w u
      · rw [if_neg s0, if_neg (fun w => s0 w.2)]
        omega
    · have w2 := wup_mono h h12 hk hD (show low + 1 < y by omega)
      constructor
      · intro q
        split at q <;> omega
      · intro q
        split at q
        · rename_i s0
          have := w2.2 s0
          omega
        · omega
/-- the sign of what was found -/
theorem cI.sg (h : SPr A k R d) (h12 : d 0 ≤ 12) (hk : d k = 0) {D : Nat} (hD : 1 ≤ D) {root low ul uh : Int} {bits : Nat} (c : cI R d k D root bits (bits + 1) low ul uh) (hb : bits = 0 → sv R D 1 0 ≠ 0 ∧ wup R d k D 1 = wall R d k) : jsg (cFd R D root low uh) = wsg R d k D root := by
  have hp : 1 ≤ 2 ^ bits := Nat.pow_pos (by decide)
  refine wsg_of (c.fin h h12 hk hD (by omega) (by omega)) ?_
  rcases Nat.eq_zero_or_pos bits with b0 | b0
  · obtain ⟨s1, w1⟩ := hb b0
    obtain ⟨⟨c1, c2, c3, c4⟩, ⟨p1, p2⟩, _⟩ := c
    rw [show bits + 1 - (bits + 1) = 0 by omega, b0] at p2
    have p2 : low + 1 ≤ 1 := p2
    unfold wlow cFd
    rw [w1, if_neg s1]
    constructor
    · intro q
      split at q
      · rename_i u
        rw [show low + 1 = 1 by omega] at u
        exact absurd u.2 s1
      · omega
    · intro q
      omega
  · have hp2 : 2 ^ 1 ≤ 2 ^ bits := Nat.pow_le_pow_right (by decide) b0
    have hp2 : 2 ≤ 2 ^ bits := hp2
    exact c.fin h h12 hk hD (by omega) (by omega)
end CIH
/-! The row of a simple part: its far signs, stretched, its changes at a place. -/
def SJt (qq : Nat) (A : pz_P) (k : Nat) (V : Nat → Int) (X : Nat → Nat → Int) : Prop := SJs qq A k V X ∧ qq < 12 ∧ sdg X 0 ≤ qq
theorem SJt.k12 {qq : Nat} {A : pz_P} {k : Nat} {V : Nat → Int} {X : Nat → Nat → Int} (j : SJt qq A k V X) : k ≤ 12 := j.1.k12
theorem szr_1t : ∀ qq, qq < 12 → ∀ d, d < qq - 1 → ∀ e, e < d + 1 → bdS qq (2 * qq - 1 - 2 * d) * 1048576 ^ (d - e) < jB ^ (56 - 4 * e) := by decide +kernel
theorem szr_2t : ∀ qq, qq < 12 → ∀ d, d < qq + 1 → ∀ e, e < d + 1 → bs qq * 1048576 ^ (d - e) < jB ^ (30 - 2 * e) := by decide +kernel
theorem SJt.lead {qq : Nat} {A : pz_P} {k : Nat} {V : Nat → Int} {X : Nat → Nat → Int} (j : SJt qq A k V X) {i : Nat} (hi : i ≤ k) : V (sro i + 4 + 2 * sdg X i) = srw V i (sdg X i) := by
  unfold srw
  rw [pcs_in (j.1.2.1 i hi).2]
theorem SJt.dg {qq : Nat} {A : pz_P} {k : Nat} {V : Nat → Int} {X : Nat → Nat → Int} (j : SJt qq A k V X) {i : Nat} (hi : i ≤ k) : X (sro i) 2 = ((sdg X i : Nat) : Int) := by
  have := (j.1.2.1 i hi).1
  unfold sdg
  omega
theorem SJt.d12 {qq : Nat} {A : pz_P} {k : Nat} {V : Nat → Int} {X : Nat → Nat → Int} (j : SJt qq A k V X) {i : Nat} (hi : i ≤ k) : sdg X i + i ≤ qq := by
  have a := j.1.1.di i hi
  have b := j.2.2
  omega
theorem SJt.room {qq : Nat} {A : pz_P} {k : Nat} {V : Nat → Int} {X : Nat → Nat → Int} (j : SJt qq A k V X) {i : Nat} (hi : i ≤ k) {s : Int} (hs : 1 ≤ s ∧ s ≤ 1048576) {e : Nat} (he : e ≤ sdg X i) : jnl (srw V i e * s ^ (sdg X i - e)).natAbs ≤ 56 ∧ jnl (srw V i e * s ^ (sdg X i - e)).natAbs ≤ cL (sro i + 4 + 2 * e + 1) := by
  have hk := j.k12
  have hd := j.d12 hi
  have hqq := j.2.1
  have hc := (j.1.2.1 i hi).2
  have hb := j.1.2.2 i hi e
  have hp : (s ^ (sdg X i - e)).natAbs ≤ 1048576 ^ (sdg X i - e) := by
    rw [Int.natAbs_pow]
    exact Nat.pow_le_pow_left (by omega) _
  rw [(sro_k (t := i) (by omega)).2] at hc
  have hcap := mK_z.2.2.2.2.2.2.1 i (by omega) e (by omega)
  rw [hcap]
  by_cases c : i < 2
  · rw [if_pos c] at hb ⊢
    have h1 : (srw V i e * s ^ (sdg X i - e)).natAbs < jB ^ (30 - 2 * e) := by
      rw [Int.natAbs_mul]
      exact Nat.lt_of_le_of_lt (Nat.mul_le_mul hb hp) (szr_2t qq j.2.1 _ (by omega) e (by omega))
    have h2 := jnl_le_lt.mpr h1
    exact ⟨by omega, h2⟩
  · rw [if_neg c] at hb ⊢
    have h1 : (srw V i e * s ^ (sdg X i - e)).natAbs < jB ^ (56 - 4 * e) := by
      rw [Int.natAbs_mul]
      exact Nat.lt_of_le_of_lt (Nat.mul_le_mul hb hp) (szr_1t qq j.2.1 _ (by omega) e (by omega))
    have h2 := jnl_le_lt.mpr h1
    exact ⟨by omega, h2⟩

section MCN
variable {g h : mj_H} {n D : Nat} {V : Nat → Int} {X : Nat → Nat → Int}
/-- the row of Sturm of S stands, with its length and its sizes -/
def RWu (S : pz_P) (k : Nat) (V : Nat → Int) (X : Nat → Nat → Int) : Prop := SRw S k (srw V) (sdg X) ∧ X 172 2 = ((k + 1 : Nat) : Int) ∧ (SJ S k V X ∨ ∃ qq, SJt qq S k V X)
theorem RWu.k12 {S : pz_P} {k : Nat} (r : RWu S k V X) : k ≤ 12 := by
  rcases r.2.2 with j | ⟨qq, j⟩
  · exact j.k12
  · exact j.k12
theorem RWu.cg {S : pz_P} {k : Nat} {V1 : Nat → Int} {X1 : Nat → Nat → Int} (r : RWu S k V X) (hV : ∀ i, i ≤ k → srw V1 i = srw V i) (hX : ∀ i, i ≤ k → X1 (sro i) 2 = X (sro i) 2) (h172 : X1 172 2 = X 172 2) : RWu S k V1 X1 := by
  have hd : ∀ i, i ≤ k → sdg X1 i = sdg X i := fun i hi => by
    unfold sdg
    rw [hX i hi]
  refine ⟨r.1.cgf hV hd, h172.trans r.2.1, ?_⟩
  rcases r.2.2 with j | ⟨qq, j, q12, q0⟩
  · exact Or.inl (j.cg hV hX)
  · exact Or.inr ⟨qq, j.cg hV hX, q12, by rw [hd 0 (Nat.zero_le _)]; exact q0⟩
end MCN
