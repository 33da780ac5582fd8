/-! What the words fix: greatest divisors, simple parts, interpolations are one only; the descriptions agree. -/
theorem gcR.one {f1 f2 : Nat → Int} {R1 R2 : pz_P} (a : gcR f1 f2 R1) (b : gcR f1 f2 R2) : R1 = R2 := by
  rcases a with ⟨a1, a2, a3⟩ | ⟨a1, G1, d1, a2, a3, a4⟩
  · rcases b with ⟨_, _, b3⟩ | ⟨b1, _⟩
    · rw [a3, b3]
    · omega
  · rcases b with ⟨b1, b2, _⟩ | ⟨_, G2, d2, b2, b3, b4⟩
    · omega
    · rw [a4, b4, (GP.one a3 b3).2]
theorem smR.one {F S1 S2 : pz_P} (a : smR F S1) (b : smR F S2) : S1 = S2 := by
  obtain ⟨G1, e1, a1, a2, n1, _, a3, _⟩ := a
  obtain ⟨G2, e2, b1, b2, n2, _, b3, _⟩ := b
  have hG := (GP.one a1 b1).2
  rw [← hG] at b2
  have e : pz_mul (pz_add S1 (pz_sc (-1) S2)) G1 = pz_0 := by
    rw [pz_mul_addL, pz_mul_scL, ← a2, ← b2]
    funext i
    show ppr F i + -1 * ppr F i = 0
    omega
  have z := pz_short (N := n1 + n2 + 2) (db := e1) (fun i hi => by
    show S1 i + -1 * S2 i = 0
    rw [a3 i (by omega), b3 i (by omega)]
    rfl) (fun i hi => a1.2.2.1 i (by omega)) (by have := a1.2.1; omega) (fun i _ => rfl) e
  funext i
  have y : S1 i + -1 * S2 i = 0 := congrFun z i
  omega
theorem itp_lin {P Y : Nat → Int} {M1 M2 : Int} {p : Nat} (h1 : ∀ i, i < p → wgt P p i ∣ M1) (h2 : ∀ i, i < p → wgt P p i ∣ M2) (h0 : ∀ i, i < p → wgt P p i ≠ 0) : ∀ k, k ≤ p → ∀ e, M2 * itp P Y M1 p k e = M1 * itp P Y M2 p k e
  | 0, _, e => by
    show M2 * 0 = M1 * 0
    rw [Int.mul_zero, Int.mul_zero]
  | k + 1, hk, e => by
    have ih := itp_lin (Y := Y) h1 h2 h0 k (by omega) e
    obtain ⟨x1, hx1⟩ := h1 k (by omega)
    obtain ⟨x2, hx2⟩ := h2 k (by omega)
    have hw := h0 k (by omega)
    have t1 : M1.tdiv (wgt P p k) = x1 := by rw [hx1, Int.mul_comm, Int.mul_tdiv_cancel _ hw]
    have t2 : M2.tdiv (wgt P p k) = x2 := by rw [hx2, Int.mul_comm, Int.mul_tdiv_cancel _ hw]
    show M2 * (itp P Y M1 p k e + (Y k * M1.tdiv (wgt P p k)) * bsf P k p e) = M1 * (itp P Y M2 p k e + (Y k * M2.tdiv (wgt P p k)) * bsf P k p e)
    rw [t1, t2, Int.mul_add, Int.mul_add, ih]
    congr 1
    rw [hx1, hx2]
    generalize wgt P p k = c
    ac_rfl
theorem wgt_N {N : Nat → Int} (g : gN N) : ∀ i, i < (N 78).toNat → wgt (fun j => N (79 + j)) (N 78).toNat i ≠ 0 := fun i hi => (r18_bd (rdf_18 g (i := i) (n := (N 78).toNat) (by have := g.2.1.1; omega) hi)).1
theorem cp_dvd {a b : Nat} {w v : Nat → Int} (ha : Nat.gcd a (cgd w 13) = 1) (h : ∀ j, j < 13 → (b : Int) * w j = (a : Int) * v j) : a ∣ b := by
  have h1 : a ∣ b * cgd w 13 := by
    have h2 : ∀ i, i < 13 → a ∣ (((b : Int)) * w i).natAbs := fun i hi => by
      rw [h i hi, Int.natAbs_mul, Int.natAbs_natCast]
      exact Nat.dvd_mul_right _ _
    have h3 : ∀ k, k ≤ 13 → a ∣ b * cgd w k := fun k => by
      induction k with
      | zero => exact fun _ => ⟨0, rfl⟩
      | succ k ih =>
        intro hk
        show a ∣ b * Nat.gcd (cgd w k) (w k).natAbs
        rw [← Nat.gcd_mul_left]
        refine Nat.dvd_gcd (ih (by omega)) ?_
        have := h2 k (by omega)
        rw [Int.natAbs_mul, Int.natAbs_natCast] at this
        exact this
    exact h3 13 (Nat.le_refl _)
  exact Nat.Coprime.dvd_of_dvd_mul_right ha h1
theorem itR.one {N : Nat → Int} (g : gN N) {w1 w2 : Nat → Int} {D1 D2 : Int} (a : itR N w1 D1) (b : itR N w2 D2) : ∀ j, j < 13 → w1 j = w2 j := by
  obtain ⟨M1, a0, a1, a2, a3, a4⟩ := a
  obtain ⟨M2, b0, b1, b2, b3, b4⟩ := b
  have hlin := itp_lin (Y := fun i => N (85 + i)) a1 b1 (wgt_N g) (N 78).toNat (Nat.le_refl _)
  have hx : ∀ j, j < 13 → D2 * w1 j = D1 * w2 j := fun j hj => by
    have e1 := a2 j hj
    have e2 := b2 j hj
    have e3 := hlin j
    generalize itp (fun i => N (79 + i)) (fun i => N (85 + i)) M1 (N 78).toNat (N 78).toNat j = I1 at e1 e3
    generalize itp (fun i => N (79 + i)) (fun i => N (85 + i)) M2 (N 78).toNat (N 78).toNat j = I2 at e2 e3
    have hne : M1 * M2 ≠ 0 := Int.mul_ne_zero (by omega) (by omega)
    refine Int.eq_of_mul_eq_mul_left hne ?_
    have l1 : M1 * M2 * (D2 * w1 j) = D1 * D2 * (M2 * I1) := by
      rw [show M1 * M2 * (D2 * w1 j) = M2 * D2 * (M1 * w1 j) by ac_rfl, e1]
      ac_rfl
    have l2 : M1 * M2 * (D1 * w2 j) = D1 * D2 * (M1 * I2) := by
      rw [show M1 * M2 * (D1 * w2 j) = M1 * D1 * (M2 * w2 j) by ac_rfl, e2]
      ac_rfl
    rw [l1, l2, e3]
  have n1 : D1 = ((D1.natAbs : Nat) : Int) := by omega
  have n2 : D2 = ((D2.natAbs : Nat) : Int) := by omega
  have d1 : D1.natAbs ∣ D2.natAbs := cp_dvd a4 (fun j hj => by rw [← n1, ← n2]; exact hx j hj)
  have d2 : D2.natAbs ∣ D1.natAbs := cp_dvd b4 (fun j hj => by rw [← n1, ← n2]; exact (hx j hj).symm)
  have de : D1.natAbs = D2.natAbs := Nat.dvd_antisymm d1 d2
  intro j hj
  have y := hx j hj
  rw [show D1 = D2 by omega] at y
  exact Int.eq_of_mul_eq_mul_left (by omega) y
section QAG
variable {N : Nat → Int} {u : Nat} {H : Nat → Nat → Int}
theorem Q_sum.ag (f to a b : Int) : AgP (Q_sum N u H f to a b) (Q_sum N u H f to a b) := clQ.ag (fun q => by have := q.1.1; omega)
theorem Q_multiply.ag (to a b : Int) : AgP (Q_multiply N u H to a b) (Q_multiply N u H to a b) := clQ.ag (fun q => by have := q.1.1; omega)
theorem Q_power.ag (to a b : Int) : AgP (Q_power N u H to a b) (Q_power N u H to a b) := clQ.ag (fun q => by have := q.1.1.1; omega)
theorem Q_derive.ag (to a : Int) : AgP (Q_derive N u H to a) (Q_derive N u H to a) := clQ.ag (fun q => by have := q.1.1; omega)
theorem Q_substitute.ag (to a b : Int) : AgP (Q_substitute N u H to a b) (Q_substitute N u H to a b) := clQ.ag (fun q => by have := q.1.1; omega)
theorem Q_divide.ag (to tr a b : Int) : AgP (Q_divide N u H to tr a b) (Q_divide N u H to tr a b) := dvP.ag (fun q => by have := q.1.1; have := q.1.2.1; omega)
theorem Q_gcd.ag (to a b : Int) : AgP (Q_gcd N u H to a b) (Q_gcd N u H to a b) := exQ.ag (fun q => by have := q.1; omega) (fun R1 R2 h1 h2 => by
  rw [gcR.one h1 h2]
  exact ⟨fun _ _ => rfl, Iff.rfl⟩)
theorem Q_primitive.ag (to a : Int) : AgP (Q_primitive N u H to a) (Q_primitive N u H to a) := clQ.ag (fun q => by have := q.1.1; omega)
theorem Q_simple.ag (to a : Int) : AgP (Q_simple N u H to a) (Q_simple N u H to a) := exQ.ag (fun q => by have := q.1.1; omega) (fun R1 R2 h1 h2 => by
  rw [smR.one h1 h2]
  exact ⟨fun _ _ => rfl, Iff.rfl⟩)
theorem Q_residue.ag (to a p : Int) : AgP (Q_residue N u H to a p) (Q_residue N u H to a p) := clQ.ag (fun q => by have := q.1.1; omega)
theorem Q_setTerm.ag (to e x : Int) : AgP (Q_setTerm N u H to e x) (Q_setTerm N u H to e x) := eqQ.ag _ _ _ _ _
theorem Q_addPoint.ag (x y : Int) : AgP (Q_addPoint N u H x y) (Q_addPoint N u H x y) := eqQ.ag _ _ _ _ _
theorem Q_clearPoints.ag : AgP (Q_clearPoints N u H) (Q_clearPoints N u H) := eqQ.ag _ _ _ _ _
theorem Q_interpolate.ag (g : gN N) (to : Int) : AgP (Q_interpolate N u H to) (Q_interpolate N u H to) := exQ.ag (fun q => by omega) (fun R1 R2 h1 h2 => by
  obtain ⟨D1, h1⟩ := h1
  obtain ⟨D2, h2⟩ := h2
  have e := itR.one g h1 h2
  exact ⟨e, sml_cg e, sml_cg (fun j hj => (e j hj).symm)⟩)
theorem Q_read.ag (T : Nat → Int) (tm : Nat) (to : Int) : AgP (Q_read N u H T tm to) (Q_read N u H T tm to) := clQ.ag (fun q => by have := q.1; omega)
end QAG
section QRZ
variable {N : Nat → Int} {u : Nat} {H : Nat → Nat → Int} {tm er : Int} {T : Nat → Int} {h : mj_H}
theorem rz_add {x y z : Int} (hx : jr x) (hy : jr y) (hz : jr z) (I : jIx N u H tm er T h) : mj_Ok 60 230 [.ref 0, .int (jn x), .int (jn y), .int (jn z)] h (rZ (Q_sum N u H 1 x y z) tm er T) := (mj_Ok.up (by decide) (rx_add hx hy hz I)).to (fun r k => RR.rz k _ (fun w hw => hw))
theorem rz_subtract {x y z : Int} (hx : jr x) (hy : jr y) (hz : jr z) (I : jIx N u H tm er T h) : mj_Ok 60 231 [.ref 0, .int (jn x), .int (jn y), .int (jn z)] h (rZ (Q_sum N u H (-1) x y z) tm er T) := (mj_Ok.up (by decide) (rx_subtract hx hy hz I)).to (fun r k => RR.rz k _ (fun w hw => hw))
theorem rz_multiply {x y z : Int} (hx : jr x) (hy : jr y) (hz : jr z) (I : jIx N u H tm er T h) : mj_Ok 60 233 [.ref 0, .int (jn x), .int (jn y), .int (jn z)] h (rZ (Q_multiply N u H x y z) tm er T) := (mj_Ok.up (by decide) (rx_multiply hx hy hz I)).to (fun r k => RP.rz k)
theorem rz_power {x y z : Int} (hx : jr x) (hy : jr y) (hz : jr z) (I : jIx N u H tm er T h) : mj_Ok 60 234 [.ref 0, .int (jn x), .int (jn y), .int (jn z)] h (rZ (Q_power N u H x y z) tm er T) := (mj_Ok.up (by decide) (rx_power hx hy hz I)).to (fun r k => RP.rz k)
theorem rz_derive {x y : Int} (hx : jr x) (hy : jr y) (I : jIx N u H tm er T h) : mj_Ok 60 235 [.ref 0, .int (jn x), .int (jn y)] h (rZ (Q_derive N u H x y) tm er T) := (mj_Ok.up (by decide) (rx_derive hx hy I)).to (fun r k => RR.rz k _ (fun w hw => hw))
theorem rz_substitute {x y z : Int} (hx : jr x) (hy : jr y) (hz : jr z) (I : jIx N u H tm er T h) : mj_Ok 60 236 [.ref 0, .int (jn x), .int (jn y), .int (jn z)] h (rZ (Q_substitute N u H x y z) tm er T) := (mj_Ok.up (by decide) (rx_substitute hx hy hz I)).to (fun r k => RP.rz k)
theorem rz_divide {x y z w : Int} (hx : jr x) (hy : jr y) (hz : jr z) (hw : jr w) (I : jIx N u H tm er T h) : mj_Ok 60 237 [.ref 0, .int (jn x), .int (jn y), .int (jn z), .int (jn w)] h (rZ (Q_divide N u H x y z w) tm er T) := (mj_Ok.up (by decide) (rx_divide hx hy hz hw I)).to (fun r k => by
  rcases k with ⟨a, w, v, b, c, d⟩ | ⟨a, d⟩
  · exact d.z (Or.inl ⟨a, w, v, b, c, rfl, rfl, rfl⟩)
  · exact d.z (Or.inr ⟨a, rfl, rfl, rfl⟩))
theorem rz_gcd {x y z : Int} (hx : jr x) (hy : jr y) (hz : jr z) (I : jIx N u H tm er T h) : mj_Ok 60 238 [.ref 0, .int (jn x), .int (jn y), .int (jn z)] h (rZ (Q_gcd N u H x y z) tm er T) := (mj_Ok.up (by decide) (rx_gcd hx hy hz I)).to (fun r k => by
  obtain ⟨R, a, k⟩ := k
  obtain ⟨N', u', H', p, k⟩ := RP.rz k
  exact ⟨N', u', H', ⟨R, a, p⟩, k⟩)
theorem rz_primitive {x y : Int} (hx : jr x) (hy : jr y) (I : jIx N u H tm er T h) : mj_Ok 60 239 [.ref 0, .int (jn x), .int (jn y)] h (rZ (Q_primitive N u H x y) tm er T) := (mj_Ok.up (by decide) (rx_primitive hx hy I)).to (fun r k => RP.rz k)
theorem rz_simple {x y : Int} (hx : jr x) (hy : jr y) (I : jIx N u H tm er T h) : mj_Ok 60 240 [.ref 0, .int (jn x), .int (jn y)] h (rZ (Q_simple N u H x y) tm er T) := (mj_Ok.up (by decide) (rx_simple hx hy I)).to (fun r k => by
  obtain ⟨R, a, k⟩ := k
  obtain ⟨N', u', H', p, k⟩ := RP.rz k
  exact ⟨N', u', H', ⟨R, fun q => a q.1 q.2, p⟩, k⟩)
theorem rz_residue {x y z : Int} (hx : jr x) (hy : jr y) (hz : jr z) (I : jIx N u H tm er T h) : mj_Ok 60 243 [.ref 0, .int (jn x), .int (jn y), .int (jn z)] h (rZ (Q_residue N u H x y z) tm er T) := (mj_Ok.up (by decide) (rx_residue hx hy hz I)).to (fun r k => by
  rcases k with ⟨a, d⟩ | ⟨a, d⟩
  · exact d.z (Or.inl ⟨a, _, fun _ _ => rfl, rfl, rfl, rfl⟩)
  · exact d.z (Or.inr ⟨a, rfl, rfl, rfl⟩))
theorem rz_setTerm {x y z : Int} (hx : jr x) (hy : jr y) (hz : jR z) (I : jIx N u H tm er T h) : mj_Ok 60 244 [.ref 0, .int (jn x), .int (jn y), .long (jl z)] h (rZ (Q_setTerm N u H x y z) tm er T) := (mj_Ok.up (by decide) (rx_setTerm hx hy hz I)).to (fun r k => by
  rcases k with ⟨a, d⟩ | ⟨a, d⟩
  · exact d.z (Or.inl ⟨a, eqB.rf _, rfl, rfl⟩)
  · exact d.z (Or.inr ⟨a, rfl, rfl, rfl⟩))
theorem rz_addPoint {x y : Int} (hx : jr x) (hy : jr y) (I : jIx N u H tm er T h) : mj_Ok 60 246 [.ref 0, .int (jn x), .int (jn y)] h (rZ (Q_addPoint N u H x y) tm er T) := (mj_Ok.up (by decide) (rx_addPoint hx hy I)).to (fun r k => by
  rcases k with ⟨a, d⟩ | ⟨a, d⟩
  · exact d.z (Or.inl ⟨a, eqB.rf _, rfl, rfl⟩)
  · exact d.z (Or.inr ⟨a, rfl, rfl, rfl⟩))
theorem rz_clearPoints (I : jIx N u H tm er T h) : mj_Ok 60 247 [.ref 0] h (rZ (Q_clearPoints N u H) tm er T) := (mj_Ok.up (by decide) (rx_clearPoints I)).to (fun r k => rIx.z k (Or.inl ⟨trivial, eqB.rf _, rfl, rfl⟩))
theorem rz_undo (I : jIx N u H tm er T h) : mj_Ok 60 252 [.ref 0] h (rZ (undQ N u H) tm er T) := (mj_Ok.up (by decide) (rx_undo I)).to (fun r k => by
  rcases k with ⟨a, d⟩ | ⟨v, a, d⟩
  · exact d.z (Or.inl ⟨a, rfl, rfl, rfl⟩)
  · exact d.z (Or.inr ⟨v, a, rfl, rfl, rfl⟩))
theorem rz_interpolate {x : Int} (hx : jr x) (I : jIx N u H tm er T h) : mj_Ok 60 251 [.ref 0, .int (jn x)] h (rZ (Q_interpolate N u H x) tm er T) := (mj_Ok.up (by decide) (rx_interpolate hx I)).to (fun r k => by
  rcases k with ⟨a, w, D, b, ⟨c, d⟩ | ⟨c, d⟩⟩ | ⟨a, d⟩
  · exact d.z ⟨w, fun _ => ⟨D, b⟩, Or.inl ⟨⟨a, c⟩, w, fun _ _ => rfl, rfl, rfl, rfl⟩⟩
  · exact d.z ⟨w, fun _ => ⟨D, b⟩, Or.inr ⟨fun q => c q.2, rfl, rfl, rfl⟩⟩
  · exact d.z ⟨pz_0, fun q => absurd q a, Or.inr ⟨fun q => a q.1, rfl, rfl, rfl⟩⟩)
/-- read: the text is empty then -/
theorem rz_read {tm0 : Nat} {x : Int} (hx : jr x) (I : jIx N u H (tm0 : Int) er T h) : mj_Ok 60 245 [.ref 0, .int (jn x)] h (fun r => ((0 ≤ x ∧ x ≤ 5) ∧ rZ (Q_read N u H T tm0 x) 0 (rdErr T tm0) T r) ∨ (¬ (0 ≤ x ∧ x ≤ 5) ∧ rZ (Q_read N u H T tm0 x) tm0 er T r)) := (rx_read hx I).to (fun r k => by
  rcases k with ⟨a, ⟨b, P, c, d, w, e, k⟩ | ⟨b, k⟩⟩ | ⟨a, k⟩
  · rw [← b] at k
    refine Or.inl ⟨a, k.z (Or.inl ⟨⟨a, b, P, c, d⟩, w, ?_, rfl, rfl, rfl⟩)⟩
    rw [c]
    exact e
  · refine Or.inl ⟨a, k.z (Or.inr ⟨fun q => ?_, rfl, rfl, rfl⟩)⟩
    obtain ⟨_, q1, P, q2, _⟩ := q
    rcases b with b | b
    · exact b q1
    · rw [b] at q2
      cases q2
  · exact Or.inr ⟨a, k.z (Or.inr ⟨fun q => a q.1, rfl, rfl, rfl⟩)⟩)
end QRZ
