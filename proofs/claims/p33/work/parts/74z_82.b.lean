/-! The reference, exactly: divide. -/
theorem fdg_jpo (V : Nat → Int) (p : Nat) : fdg (jpo V p) 13 = jdg V p 13 := by
  have hl := jdg_le V p 13
  refine fdg_of hl (fun i h1 _ => jpo_zb h1) ?_
  rcases Nat.eq_zero_or_pos (jdg V p 13) with h | h
  · exact Or.inl h
  · exact Or.inr (by rw [jpo_at (by omega)]; exact jdg_ne V p 13 h)
/-- a product that is short is none -/
theorem pz_short {D B R : pz_P} {N db : Nat} (hD : pz_lt D N) (hB : pz_lt B (db + 1)) (hBn : B db ≠ 0) (hR : pz_lt R db) (e : pz_mul D B = R) : D = pz_0 := by
  by_cases h : D = pz_0
  · exact h
  · obtain ⟨d, _, h2, h3⟩ := kq_deg N D hD h
    have y : pz_mul D B (d + db) = D d * B db := pz_c_lead d D B db h2 hB
    rw [e, hR _ (by omega)] at y
    exact absurd y.symm (Int.mul_ne_zero h3 hBn)
theorem dv_uniq {A B Q R : pz_P} {N : Nat} (hA : ∀ i, 13 ≤ i → A i = 0) (hB : ∀ i, 13 ≤ i → B i = 0) (hf : 0 < fdg B 13) (hQ : pz_lt Q N) (hR : pz_lt R (fdg B 13 - 1)) (e : pz_sc ((B (fdg B 13 - 1)) ^ (fdg A 13 - (fdg B 13 - 1))) A = pz_add (pz_mul Q B) R) : Q = dvQ A B ∧ R = dvT A B := by
  have la := fdg_le A 13
  have lb := fdg_le B 13
  have hA' : ∀ i, fdg A 13 ≤ i → A i = 0 := fun i hi => by
    by_cases q : i < 13
    · exact fdg_zero _ _ _ hi q
    · exact hA i (by omega)
  have hB' : ∀ i, fdg B 13 - 1 < i → B i = 0 := fun i hi => by
    by_cases q : i < 13
    · exact fdg_zero _ _ _ (by omega) q
    · exact hB i (by omega)
  have hbn := fdg_ne B 13 hf
  have rel := qe_rel (F := A) (B := B) (db := fdg B 13 - 1) (gap := fdg A 13 - (fdg B 13 - 1) - 1) hB' (fun i hi => hA' i (by omega)) (fdg A 13 - (fdg B 13 - 1)) (by omega)
  have top : pz_lt (dvT A B) (fdg B 13 - 1) := fun i hi => by
    by_cases q : fdg A 13 - (fdg B 13 - 1) = 0
    · unfold dvT
      rw [q]
      exact hA' i (by omega)
    · exact er_top hB' (fun i hi => hA' i (by omega)) _ (by omega) i (by omega)
  have e2 : pz_add (pz_mul Q B) R = pz_add (pz_mul (dvQ A B) B) (dvT A B) := e.symm.trans rel
  have e3 : ∀ i, pz_mul Q B i + R i = pz_mul (dvQ A B) B i + dvT A B i := fun i => congrFun e2 i
  have e4 : pz_mul (pz_add Q (pz_sc (-1) (dvQ A B))) B = pz_add (dvT A B) (pz_sc (-1) R) := by
    rw [pz_mul_addL, pz_mul_scL]
    funext i
    show pz_mul Q B i + -1 * pz_mul (dvQ A B) B i = dvT A B i + -1 * R i
    have := e3 i
    omega
  have hq : pz_lt (dvQ A B) 13 := fun i hi => qe_hi _ _ _ _ _ i (by omega)
  have z := pz_short (N := N + 13) (db := fdg B 13 - 1) (fun i hi => by
    show Q i + -1 * dvQ A B i = 0
    rw [hQ i (by omega), hq i (by omega)]
    rfl) (fun i hi => hB' i (by omega)) hbn (fun i hi => by
    show dvT A B i + -1 * R i = 0
    rw [top i hi, hR i hi]
    rfl) e4
  have q : Q = dvQ A B := funext fun i => by
    have := congrFun z i
    have y : Q i + -1 * dvQ A B i = 0 := this
    omega
  refine ⟨q, funext fun i => ?_⟩
  have := e3 i
  rw [q] at this
  omega
section RDV
variable {h : mj_H} {tm er : Int} {T : Nat → Int} {N0 : Nat → Int} {u0 : Nat} {H : Nat → Nat → Int}
/-- what is asked for a division -/
def okDv (N : Nat → Int) (x y z u : Int) : Prop := ((0 ≤ x ∧ x ≤ 5) ∧ (0 ≤ y ∧ y ≤ 5) ∧ (0 ≤ z ∧ z ≤ 5) ∧ (0 ≤ u ∧ u ≤ 5)) ∧ x ≠ y ∧ 0 < fdg (rwN N u) 13 ∧ fit13 (dvQ (rwN N z) (rwN N u)) ∧ fit13 (dvT (rwN N z) (rwN N u))
def RDv (tm er : Int) (T : Nat → Int) (N0 : Nat → Int) (u0 : Nat) (H : Nat → Nat → Int) (x y z u : Int) (r : mj_R) : Prop := (okDv N0 x y z u ∧ ∃ w v : Nat → Int, (∀ j, j < 13 → w j = dvQ (rwN N0 z) (rwN N0 u) j) ∧ (∀ j, j < 13 → v j = dvT (rwN N0 z) (rwN N0 u) j) ∧ rIx (jfl (jfl N0 x.toNat w 13) y.toNat v 13) (upu u0) (pushH N0 H) tm er T r) ∨ (¬ okDv N0 x y z u ∧ rIx N0 u0 H tm er T r)
theorem rx_divide {x y z u : Int} (hx : jr x) (hy : jr y) (hz : jr z) (hu : jr u) (hI : jIx N0 u0 H tm er T h) : mj_Ok 40 237 [.ref 0, .int (jn x), .int (jn y), .int (jn z), .int (jn u)] h (RDv tm er T N0 u0 H x y z u) := by
  refine mj_Ok.of (M := mj_m237) rfl rfl rfl ?_
  obtain ⟨S, N, B, X, V, hs, K⟩ := hI
  iterate 2 refine mj_T.pl rfl rfl rfl rfl ?_
  refine rT_put (v := 0) hs rfl rfl (by decide) rfl (fun g28 hs28 => ?_)
  have K28 := K.put (k := 3) (v := 0) ⟨by decide, by decide⟩ (by decide) (by decide) (by decide) (by decide) (by decide)
  generalize jvu S 3 0 = S28 at hs28 K28
  have t22 : ¬ okDv N0 x y z u → mj_T 39 mj_m237 22 [some (.ref 0), some (.int (jn x)), some (.int (jn y)), some (.int (jn z)), some (.int (jn u)), none] [] g28 (RDv tm er T N0 u0 H x y z u) := by
    intro hno
    iterate 2 refine mj_T.pl rfl rfl rfl rfl ?_
    refine mj_T.call (ins := .invokevirtual 198) rfl rfl (Nat.le_of_ble_eq_true rfl) (Nat.le_of_ble_eq_true rfl) (by simp [mj_recv, rS_f hs28]) rfl (mj_Ok.up (by decide) (rp_fails (D := 0) (c := 1) hs28)) (fun v' g29 hq' => ?_) (fun i h' hq' => by obtain ⟨_, _, h⟩ := hq'; cases h)
    obtain ⟨_, hs29, hq'⟩ := hq'
    cases hq'
    exact mj_T.ret rfl rfl rfl (Or.inr ⟨hno, 0, g29, ⟨by decide, by decide⟩, rfl, ⟨_, N, B, X, V, hs29, K28.put ⟨by decide, by decide⟩ (by decide) (by decide) (by decide) (by decide) (by decide)⟩⟩)
  iterate 3 refine mj_T.pl rfl rfl rfl rfl ?_
  refine mj_T.call (ins := .invokestatic 210) rfl rfl (Nat.le_of_ble_eq_true rfl) (Nat.le_of_ble_eq_true rfl) rfl rfl (mj_Ok.up (by decide) (rx_areRegisters (D := 0) hx hy hz)) (fun v' h' hq' => ?_) (fun i h' hq' => by rcases hq' with ⟨_, _, h⟩ | ⟨_, h⟩ <;> cases h)
  rcases hq' with ⟨⟨x1, x2⟩, ⟨y1, y2, z1, z2⟩, hq'⟩ | ⟨hno, hq'⟩
  case' inr =>
    cases hq'
    refine mj_T.if0 (a := 0) rfl ⟨by decide, by decide⟩ (fun hc => ?_) (fun hc => ?_)
    · exact t22 (fun q => by have q := q.1; omega)
    · simp [jc] at hc
  cases hq'
  refine mj_T.if0 (a := 1) rfl ⟨by decide, by decide⟩ (fun hc => ?_) (fun hc => ?_)
  · simp [jc] at hc
  refine mj_T.pl rfl rfl rfl rfl ?_
  refine mj_T.call (ins := .invokestatic 181) rfl rfl (Nat.le_of_ble_eq_true rfl) (Nat.le_of_ble_eq_true rfl) rfl rfl (mj_Ok.up (by decide) (rp_isRegister (D := 0) hu)) (fun v' h' hq' => ?_) (fun i h' hq' => by rcases hq' with ⟨_, _, h⟩ | ⟨_, h⟩ <;> cases h)
  rcases hq' with ⟨u1, u2, hq'⟩ | ⟨hno, hq'⟩
  case' inr =>
    cases hq'
    refine mj_T.if0 (a := 0) rfl ⟨by decide, by decide⟩ (fun hc => ?_) (fun hc => ?_)
    · simp [jc] at hc
    · exact t22 (fun q => by have q := q.1; omega)
  cases hq'
  refine mj_T.if0 (a := 1) rfl ⟨by decide, by decide⟩ (fun hc => ?_) (fun hc => ?_)
  rotate_left
  · simp [jc] at hc
  clear t22
  obtain ⟨x, rfl⟩ := Int.eq_ofNat_of_zero_le x1
  obtain ⟨y, rfl⟩ := Int.eq_ofNat_of_zero_le y1
  obtain ⟨z, rfl⟩ := Int.eq_ofNat_of_zero_le z1
  obtain ⟨u, rfl⟩ := Int.eq_ofNat_of_zero_le u1
  iterate 2 refine mj_T.pl rfl rfl rfl rfl ?_
  refine mj_T.icmp (a := (x : Int)) (b := (y : Int)) rfl hx hy (fun hc => ?_) (fun hc => ?_)
  rotate_left
  · have hcc := hc
    iterate 2 refine mj_T.pl rfl rfl rfl rfl ?_
    refine mj_T.call (ins := .invokevirtual 198) rfl rfl (Nat.le_of_ble_eq_true rfl) (Nat.le_of_ble_eq_true rfl) (by simp [mj_recv, rS_f hs28]) rfl (mj_Ok.up (by decide) (rp_fails (D := 0) (c := 2) hs28)) (fun v' g30 hq' => ?_) (fun i h' hq' => by obtain ⟨_, _, h⟩ := hq'; cases h)
    obtain ⟨_, hs30, hq'⟩ := hq'
    cases hq'
    exact mj_T.ret rfl rfl rfl (Or.inr ⟨fun q => q.2.1 (by simp only [jc, Bool.not_eq_true', Bool.not_eq_false', decide_eq_true_eq, decide_eq_false_iff_not] at hcc; omega), 0, g30, ⟨by decide, by decide⟩, rfl, ⟨_, N, B, X, V, hs30, K28.put ⟨by decide, by decide⟩ (by decide) (by decide) (by decide) (by decide) (by decide)⟩⟩)
  have hne : (x : Int) ≠ (y : Int) := by
    simp only [jc, Bool.not_eq_true', Bool.not_eq_false', decide_eq_true_eq, decide_eq_false_iff_not] at hc
    omega
  have hfu : fdg (rwN N0 (u : Int)) 13 = jdg N u 13 := by
    rw [← fdg_jpo]
    exact (fdg_congr 13 fun i hi => by
      rw [jpo_at hi]
      exact rwN_at K28.2.1 (by omega) hi).symm
  iterate 2 refine mj_T.pl rfl rfl rfl rfl ?_
  refine mj_T.call (ins := .invokevirtual 232) rfl rfl (Nat.le_of_ble_eq_true rfl) (Nat.le_of_ble_eq_true rfl) (by simp [mj_recv, rS_f hs28]) rfl (mj_Ok.up (by decide) (rp_isZero (D := 0) (r := u) (by omega) K28.nR hs28)) (fun v' h' hq' => ?_) (fun i h' hq' => by rcases hq' with ⟨_, h⟩ | ⟨_, h⟩ <;> cases h)
  rcases hq' with ⟨z31, hq'⟩ | ⟨nz31, hq'⟩
  case' inl =>
    cases hq'
    refine mj_T.if0 (a := 1) rfl ⟨by decide, by decide⟩ (fun hc => ?_) (fun hc => ?_)
    · simp [jc] at hc
    iterate 2 refine mj_T.pl rfl rfl rfl rfl ?_
    refine mj_T.call (ins := .invokevirtual 198) rfl rfl (Nat.le_of_ble_eq_true rfl) (Nat.le_of_ble_eq_true rfl) (by simp [mj_recv, rS_f hs28]) rfl (mj_Ok.up (by decide) (rp_fails (D := 0) (c := 3) hs28)) (fun v' g32 hq' => ?_) (fun i h' hq' => by obtain ⟨_, _, h⟩ := hq'; cases h)
    obtain ⟨_, hs32, hq'⟩ := hq'
    cases hq'
    exact mj_T.ret rfl rfl rfl (Or.inr ⟨fun q => by have q2 := q.2.2.1; rw [hfu] at q2; omega, 0, g32, ⟨by decide, by decide⟩, rfl, ⟨_, N, B, X, V, hs32, K28.put ⟨by decide, by decide⟩ (by decide) (by decide) (by decide) (by decide) (by decide)⟩⟩)
  cases hq'
  refine mj_T.if0 (a := 0) rfl ⟨by decide, by decide⟩ (fun hc => ?_) (fun hc => ?_)
  rotate_left
  · simp [jc] at hc
  iterate 3 refine mj_T.pl rfl rfl rfl rfl ?_
  refine mj_T.call (ins := .invokevirtual 213) rfl rfl (Nat.le_of_ble_eq_true rfl) (Nat.le_of_ble_eq_true rfl) (by simp [mj_recv, rS_f hs28]) rfl (mj_Ok.up (by decide) (rp_loads (D := 0) (p := 0) (r := z) (by decide) (by omega) K28.nR hs28)) (fun v' g33 hq' => ?_) (fun i h' hq' => by obtain ⟨_, _, h⟩ := hq'; cases h)
  obtain ⟨_, hs33, hq'⟩ := hq'
  cases hq'
  have a33 : ∀ e, e < 13 → jfl V 0 (fun e => N (z * 13 + e)) 13 (0 * 13 + e) = N (z * 13 + e) := fun e he => jfl_at _ _ _ he
  have b33 : ∀ s, (s < 0 * 13 ∨ 0 * 13 + 13 ≤ s) → jfl V 0 (fun e => N (z * 13 + e)) 13 s = V s := fun s hc => jfl_off _ _ _ hc
  generalize jfl V 0 (fun e => N (z * 13 + e)) 13 = W33 at hs33 a33 b33
  iterate 3 refine mj_T.pl rfl rfl rfl rfl ?_
  refine mj_T.call (ins := .invokevirtual 213) rfl rfl (Nat.le_of_ble_eq_true rfl) (Nat.le_of_ble_eq_true rfl) (by simp [mj_recv, rS_f hs33]) rfl (mj_Ok.up (by decide) (rp_loads (D := 0) (p := 1) (r := u) (by decide) (by omega) K28.nR hs33)) (fun v' g34 hq' => ?_) (fun i h' hq' => by obtain ⟨_, _, h⟩ := hq'; cases h)
  obtain ⟨_, hs34, hq'⟩ := hq'
  cases hq'
  have a34 : ∀ e, e < 13 → jfl W33 1 (fun e => N (u * 13 + e)) 13 (1 * 13 + e) = N (u * 13 + e) := fun e he => jfl_at _ _ _ he
  have b34 : ∀ s, (s < 1 * 13 ∨ 1 * 13 + 13 ≤ s) → jfl W33 1 (fun e => N (u * 13 + e)) 13 s = W33 s := fun s hc => jfl_off _ _ _ hc
  generalize jfl W33 1 (fun e => N (u * 13 + e)) 13 = W34 at hs34 a34 b34
  have eA : jpo W34 0 = rwN N0 (z : Int) := funext fun e => by
    unfold jpo
    by_cases q : e < 13
    · rw [if_pos q, b34 _ (by omega), a33 e q]
      exact rwN_at K28.2.1 (by omega) q
    · rw [if_neg q]
      show 0 = if e < 13 then _ else 0
      rw [if_neg q]
  have eB : jpo W34 1 = rwN N0 (u : Int) := funext fun e => by
    unfold jpo
    by_cases q : e < 13
    · rw [if_pos q, a34 e q]
      exact rwN_at K28.2.1 (by omega) q
    · rw [if_neg q]
      show 0 = if e < 13 then _ else 0
      rw [if_neg q]
  have fA : fdg (rwN N0 (z : Int)) 13 = jdg W34 0 13 := by rw [← eA, fdg_jpo]
  have fB : fdg (rwN N0 (u : Int)) 13 = jdg W34 1 13 := by rw [← eB, fdg_jpo]
  have c1 : ∀ e, e < 13 → (W34 (0 * 13 + e)).natAbs ≤ 10 ^ 18 := fun e he => by
    rw [b34 _ (by omega), a33 e he]
    exact K28.sh (r := z) (by omega) he
  have c2 : ∀ e, e < 13 → (W34 (1 * 13 + e)).natAbs ≤ 10 ^ 18 := fun e he => by
    rw [a34 e he]
    exact K28.sh (r := u) (by omega) he
  have hj : 1 ≤ jdg W34 1 13 := by rw [jdg_congr 13 a34]; exact nz31
  have hjl := jdg_le W34 0 13
  have hjl2 := jdg_le W34 1 13
  iterate 5 refine mj_T.pl rfl rfl rfl rfl ?_
  refine mj_T.call (ins := .invokevirtual 145) rfl rfl (Nat.le_of_ble_eq_true rfl) (Nat.le_of_ble_eq_true rfl) (by simp [mj_recv, rS_f hs34]) rfl (mj_Ok.up (by decide) (jp_dividesPoly (D := 0) (rG S28 N B T X) (a := 0) (b := 1) (db := jdg W34 1 13 - 1) (lc := W34 (1 * 13 + (jdg W34 1 13 - 1))) (al := 10 ^ 18) (be := 10 ^ 18) (by decide) (by decide) (by decide) (by decide) (by decide) (by decide) (by omega) rfl c1 c2 (by decide) (Nat.lt_of_le_of_lt (Nat.mul_le_mul_left _ (Nat.pow_le_pow_right (by decide) (by omega : _ ≤ 13))) rp_small4) hs34)) (fun v' g35 hq' => ?_) (fun i h' hq' => by obtain ⟨_, _, _, _, _, _, _, h⟩ := hq'; cases h)
  obtain ⟨W35, _, hs35, _, rel35, low35, _, hq'⟩ := hq'
  cases hq'
  have dvu := dv_uniq (A := rwN N0 (z : Int)) (B := rwN N0 (u : Int)) (Q := jpo W35 2) (R := jpo W35 3) (N := 13) (fun i hi => by rw [← eA]; exact jpo_zb (by omega)) (fun i hi => by rw [← eB]; exact jpo_zb (by omega)) (by rw [fB]; omega) (jpo_lt W35 2) (fun i hi => by
    rw [fB] at hi
    by_cases q : i < 13
    · rw [jpo_at q]
      exact low35 i hi q
    · exact jpo_lt W35 3 i (by omega)) (by
    rw [fA, fB, ← eA, ← eB, jpo_at (V := W34) (p := 1) (by omega)]
    exact rel35)
  have dq : ∀ j, j < 13 → W35 (2 * 13 + j) = dvQ (rwN N0 (z : Int)) (rwN N0 (u : Int)) j := fun j hj => by
    rw [← dvu.1]
    exact (jpo_at hj).symm
  have dt : ∀ j, j < 13 → W35 (3 * 13 + j) = dvT (rwN N0 (z : Int)) (rwN N0 (u : Int)) j := fun j hj => by
    rw [← dvu.2]
    exact (jpo_at hj).symm
  have t93 : ¬ okDv N0 (x : Int) (y : Int) (z : Int) (u : Int) → ∀ e5, mj_T 39 mj_m237 93 [some (.ref 0), some (.int (jn (x : Int))), some (.int (jn (y : Int))), some (.int (jn (z : Int))), some (.int (jn (u : Int))), e5] [] g35 (RDv tm er T N0 u0 H (x : Int) (y : Int) (z : Int) (u : Int)) := fun hno e5 => by
    iterate 2 refine mj_T.pl rfl rfl rfl rfl ?_
    refine mj_T.call (ins := .invokevirtual 198) rfl rfl (Nat.le_of_ble_eq_true rfl) (Nat.le_of_ble_eq_true rfl) (by simp [mj_recv, rS_f hs35]) rfl (mj_Ok.up (by decide) (rp_fails (D := 0) (c := 4) hs35)) (fun v' g36 hq' => ?_) (fun i h' hq' => by obtain ⟨_, _, h⟩ := hq'; cases h)
    obtain ⟨_, hs36, hq'⟩ := hq'
    cases hq'
    exact mj_T.ret rfl rfl rfl (Or.inr ⟨hno, 0, g36, ⟨by decide, by decide⟩, rfl, ⟨_, N, B, X, W35, hs36, K28.put ⟨by decide, by decide⟩ (by decide) (by decide) (by decide) (by decide) (by decide)⟩⟩)
  iterate 3 refine mj_T.pl rfl rfl rfl rfl ?_
  refine mj_T.call (ins := .invokevirtual 195) rfl rfl (Nat.le_of_ble_eq_true rfl) (Nat.le_of_ble_eq_true rfl) (by simp [mj_recv, rS_f hs35]) rfl (mj_Ok.up (by decide) (jp_isInBounds (D := 0) (rG S28 N B T X) (p := 2) (by decide) (fun e he => jS_700 hs35 (by omega)) hs35)) (fun v' h' hq' => ?_) (fun i h' hq' => by cases hq')
  cases hq'
  have hb2 := jib_le W35 2 13
  refine mj_T.if0 (a := ((jib W35 2 13 : Nat) : Int)) rfl ⟨by omega, by omega⟩ (fun hc1 => ?_) (fun hc1 => ?_)
  · exact t93 (fun q => jib_no (V := W35) (p := 2) 13 (by simp only [jc, Bool.not_eq_true', Bool.not_eq_false', decide_eq_true_eq, decide_eq_false_iff_not] at hc1; omega) (fun e he => jnl_two.mpr (by rw [dq e he]; exact q.2.2.2.1.1 e he))) _
  iterate 2 refine mj_T.pl rfl rfl rfl rfl ?_
  refine mj_T.call (ins := .invokevirtual 195) rfl rfl (Nat.le_of_ble_eq_true rfl) (Nat.le_of_ble_eq_true rfl) (by simp [mj_recv, rS_f hs35]) rfl (mj_Ok.up (by decide) (jp_isInBounds (D := 0) (rG S28 N B T X) (p := 3) (by decide) (fun e he => jS_700 hs35 (by omega)) hs35)) (fun v' h' hq' => ?_) (fun i h' hq' => by cases hq')
  cases hq'
  have hb3 := jib_le W35 3 13
  refine mj_T.if0 (a := ((jib W35 3 13 : Nat) : Int)) rfl ⟨by omega, by omega⟩ (fun hc2 => ?_) (fun hc2 => ?_)
  rotate_left
  · exact t93 (fun q => jib_no (V := W35) (p := 3) 13 (by simp only [jc, Bool.not_eq_true', Bool.not_eq_false', decide_eq_true_eq, decide_eq_false_iff_not] at hc2; omega) (fun e he => jnl_two.mpr (by rw [dt e he]; exact q.2.2.2.2.1 e he))) _
  simp only [jc, Bool.not_eq_true', Bool.not_eq_false', decide_eq_false_iff_not] at hc1 hc2
  have q2 := jib_short (V := W35) (p := 2) (by omega)
  have q3 := jib_short (V := W35) (p := 3) (by omega)
  refine mj_T.pl rfl rfl rfl rfl ?_
  refine mj_T.call (ins := .invokevirtual 201) rfl rfl (Nat.le_of_ble_eq_true rfl) (Nat.le_of_ble_eq_true rfl) (by simp [mj_recv, rS_f hs35]) rfl (mj_Ok.up (by decide) (rx_keeps (D := 0) K28 hs35)) (fun v' g37 hq' => ?_) (fun i h' hq' => by obtain ⟨_, _, _, _, _, _, h⟩ := hq'; cases h)
  obtain ⟨S37, B37, _, hs37, K37, _, hq'⟩ := hq'
  cases hq'
  iterate 3 refine mj_T.pl rfl rfl rfl rfl ?_
  refine mj_T.call (ins := .invokevirtual 204) rfl rfl (Nat.le_of_ble_eq_true rfl) (Nat.le_of_ble_eq_true rfl) (by simp [mj_recv, rS_f hs37]) rfl (mj_Ok.up (by decide) (rp_stores (D := 0) (p := 2) (r := x) (by decide) (by omega) hs37)) (fun v' g38 hq' => ?_) (fun i h' hq' => by obtain ⟨_, _, h⟩ := hq'; cases h)
  obtain ⟨_, hs38, hq'⟩ := hq'
  cases hq'
  have K38 := K37.row (gN_row K37.1.1 (r := x) (p := 2) (V := W35) (by omega) q2) (jfl_cg K37.2.1 x _)
  generalize jfl N x (fun e => W35 (2 * 13 + e)) 13 = N38 at hs38 K38
  iterate 3 refine mj_T.pl rfl rfl rfl rfl ?_
  refine mj_T.call (ins := .invokevirtual 204) rfl rfl (Nat.le_of_ble_eq_true rfl) (Nat.le_of_ble_eq_true rfl) (by simp [mj_recv, rS_f hs38]) rfl (mj_Ok.up (by decide) (rp_stores (D := 0) (p := 3) (r := y) (by decide) (by omega) hs38)) (fun v' g39 hq' => ?_) (fun i h' hq' => by obtain ⟨_, _, h⟩ := hq'; cases h)
  obtain ⟨_, hs39, hq'⟩ := hq'
  cases hq'
  have K39 := K38.row (gN_row K38.1.1 (r := y) (p := 3) (V := W35) (by omega) q3) (jfl_cg K38.2.1 y _)
  generalize jfl N38 y (fun e => W35 (3 * 13 + e)) 13 = N39 at hs39 K39
  refine mj_T.pl rfl rfl rfl rfl ?_
  have hs2 : fit13 (dvQ (rwN N0 (z : Int)) (rwN N0 (u : Int))) := ⟨fun j hj => by
    rw [← dq j hj]
    have := q2 j hj
    omega, fun i hi => by
    rw [← dvu.1]
    exact jpo_lt W35 2 i hi⟩
  have hs3 : fit13 (dvT (rwN N0 (z : Int)) (rwN N0 (u : Int))) := ⟨fun j hj => by
    rw [← dt j hj]
    have := q3 j hj
    omega, fun i hi => by
    rw [← dvu.2]
    exact jpo_lt W35 3 i hi⟩
  exact mj_T.ret rfl rfl rfl (Or.inl ⟨⟨⟨⟨by omega, by omega⟩, ⟨by omega, by omega⟩, ⟨by omega, by omega⟩, ⟨by omega, by omega⟩⟩, hne, by rw [fB]; omega, hs2, hs3⟩, _, _, dq, dt, _, g39, ⟨by omega, by omega⟩, rfl, ⟨S37, N39, B37, X, W35, hs39, K39⟩⟩)
end RDV
/-! The reference's greatest common divisor of polynomials, exactly. -/
/-- the lead is above 0 -/
def posP (u : pz_P) : Prop := ∀ d, u d ≠ 0 → (∀ e, d < e → u e = 0) → 0 < u d
theorem posP_of {W : Nat → Int} {p : Nat} (h : posL W p) : posP (jpo W p) := fun d h1 h2 => by
  by_cases q : d < 13
  · rw [jpo_at q] at h1 ⊢
    exact h d q h1 (fun e e1 e2 => by rw [← jpo_at (V := W) (p := p) e2]; exact h2 e e1)
  · exact absurd (jpo_lt W p d (by omega)) h1
theorem posP_z : posP pz_0 := fun d h _ => absurd rfl h
section JXC
variable {D : Nat} {hp h : mj_H} {q0 q1 q2 q3 : Nat} {fs : List Value} {V : Nat → Int} {a b to : Nat}
theorem jx_cm (G : jG hp q0 q1 q2 q3 fs) {J : pz_P → pz_P → Prop} (ha : a ≤ 49) (ha2 : a ≠ 2) (ha3 : a ≠ 3) (hb : b ≤ 49) (hb2 : b ≠ 2) (hb3 : b ≠ 3) (hab : a ≠ b) 
    (hJf : ∀ (x y : pz_P) (db n : Nat), J x y → pz_lt x (db + n) → (1 ≤ n → x (db + n - 1) ≠ 0) → pz_lt y (db + 1) → y db ≠ 0 → db < 13 → ∃ al be : Nat, 1 ≤ be ∧ (∀ i, (x i).natAbs ≤ al) ∧ (∀ i, (y i).natAbs ≤ be) ∧ al * (2 * be) ^ n < jB ^ 698)
    (hJs : ∀ (x y q r r1 : pz_P) (db n : Nat), J x y → pz_lt y (db + 1) → y db ≠ 0 → pz_sc (y db ^ n) x = pz_add (pz_mul q y) r → pz_lt q 13 → pz_lt r db → ((r = pz_0 ∧ r1 = pz_0) ∨ ∃ c : Int, c ≠ 0 ∧ r = pz_sc c r1 ∧ pz_prim r1) → posP r1 → J y r1)
    {Q : mj_R → Prop}
    (hend : ∀ (W : Nat → Int) (h : mj_H) (e4 : Option Value), jS hp q1 q2 q3 W h → (∀ s, (s < a * 13 ∨ a * 13 + 13 ≤ s) → (s < b * 13 ∨ b * 13 + 13 ≤ s) → (s < 26 ∨ 52 ≤ s) → s ≠ 652 → s ≠ 653 → s ≠ 654 → s ≠ 655 → s ≠ 663 → s ≠ 664 → W s = V s) → J (jpo W a) (jpo W b) → (∀ e, e < 13 → W (b * 13 + e) = 0) → mj_T (D + 8) mj_m212 48 [some (.ref q0), some (.int (jn (to : Nat))), some (.int (jn (a : Nat))), some (.int (jn (b : Nat))), e4] [] h Q) :
    ∀ (d : Nat) (W : Nat → Int) (h : mj_H) (e4 : Option Value), jdg W b 13 ≤ d → jS hp q1 q2 q3 W h → (∀ s, (s < a * 13 ∨ a * 13 + 13 ≤ s) → (s < b * 13 ∨ b * 13 + 13 ≤ s) → (s < 26 ∨ 52 ≤ s) → s ≠ 652 → s ≠ 653 → s ≠ 654 → s ≠ 655 → s ≠ 663 → s ≠ 664 → W s = V s) → J (jpo W a) (jpo W b) → mj_T (D + 8) mj_m212 10 [some (.ref q0), some (.int (jn (to : Nat))), some (.int (jn (a : Nat))), some (.int (jn (b : Nat))), e4] [] h Q := by
  intro d
  induction d with
  | zero =>
    intro W h e4 hd hs hf hJ
    have hd0 : jdg W b 13 = 0 := by omega
    iterate 2 refine mj_T.pl rfl rfl rfl rfl ?_
    refine mj_T.call (ins := .invokevirtual 114) rfl rfl (Nat.le_of_ble_eq_true rfl) (Nat.le_of_ble_eq_true rfl) (by simp [mj_recv, jS_a G hs]) rfl (jp_degreeOf (D := D + 6) G (p := b) (by omega) hs) (fun v' h' hq' => ?_) (fun i h' hq' => by cases hq')
    cases hq'
    rw [hd0]
    refine mj_T.if0 (a := ((0 : Nat) : Int) - 1) rfl ⟨by decide, by decide⟩ (fun hc => ?_) (fun hc => ?_)
    · exact hend W h e4 hs hf hJ (fun e he => jdg_zero W b 13 e (by omega) he)
    · simp [jc] at hc
  | succ d ih =>
    intro W h e4 hd hs hf hJ
    have hdl := jdg_le W b 13
    iterate 2 refine mj_T.pl rfl rfl rfl rfl ?_
    refine mj_T.call (ins := .invokevirtual 114) rfl rfl (Nat.le_of_ble_eq_true rfl) (Nat.le_of_ble_eq_true rfl) (by simp [mj_recv, jS_a G hs]) rfl (jp_degreeOf (D := D + 6) G (p := b) (by omega) hs) (fun v' h' hq' => ?_) (fun i h' hq' => by cases hq')
    cases hq'
    refine mj_T.if0 (a := (jdg W b 13 : Int) - 1) rfl ⟨by omega, by omega⟩ (fun hc => ?_) (fun hc => ?_)
    · simp only [jc, decide_eq_true_eq] at hc
      exact hend W h e4 hs hf hJ (fun e he => jdg_zero W b 13 e (by omega) he)
    simp only [jc, decide_eq_false_iff_not] at hc
    obtain ⟨db, hdb⟩ : ∃ db, jdg W b 13 = db + 1 := ⟨jdg W b 13 - 1, by omega⟩
    have hlead := jdg_ne W b 13 (by omega)
    rw [hdb, Nat.add_sub_cancel] at hlead
    have hyl : pz_lt (jpo W b) (db + 1) := fun i hi => by
      unfold jpo
      split
      · rename_i c
        exact jdg_zero W b 13 i (by omega) c
      · rfl
    have ydb : jpo W b db = W (b * 13 + db) := jpo_at (by omega)
    have hal1 := jdg_le W a 13
    have hxl : pz_lt (jpo W a) (db + (jdg W a 13 - db)) := fun i hi => by
      unfold jpo
      split
      · rename_i c
        exact jdg_zero W a 13 i (by omega) c
      · rfl
    have hxn : 1 ≤ jdg W a 13 - db → jpo W a (db + (jdg W a 13 - db) - 1) ≠ 0 := fun hn => by
      rw [show db + (jdg W a 13 - db) - 1 = jdg W a 13 - 1 by omega, jpo_at (show jdg W a 13 - 1 < 13 by omega)]
      exact jdg_ne W a 13 (by omega)
    obtain ⟨al, be, hbe1, hal0, hbe0, hfit⟩ := hJf _ _ db (jdg W a 13 - db) hJ hxl hxn hyl (by rw [ydb]; exact hlead) (by omega)
    have hal : ∀ e, e < 13 → (W (a * 13 + e)).natAbs ≤ al := fun e he => by
      rw [← jpo_at (V := W) (p := a) he]
      exact hal0 e
    have hbe : ∀ e, e < 13 → (W (b * 13 + e)).natAbs ≤ be := fun e he => by
      rw [← jpo_at (V := W) (p := b) he]
      exact hbe0 e
    iterate 5 refine mj_T.pl rfl rfl rfl rfl ?_
    refine mj_T.call (ins := .invokevirtual 145) rfl rfl (Nat.le_of_ble_eq_true rfl) (Nat.le_of_ble_eq_true rfl) (by simp [mj_recv, jS_a G hs]) rfl (jp_dividesPoly (D := D + 3) G (lc := W (b * 13 + db)) (al := al) (be := be) ha ha2 ha3 hb hb2 hb3 hdb rfl hal hbe hbe1 hfit hs) (fun v' h1 hq' => ?_) (fun i h' hq' => by obtain ⟨_, _, _, _, _, _, _, h⟩ := hq'; cases h)
    obtain ⟨W1, _, hs1, k1, k2, k3, k4, hq'⟩ := hq'
    cases hq'
    iterate 4 refine mj_T.pl rfl rfl rfl rfl ?_
    refine mj_T.call (ins := .invokevirtual 124) rfl rfl (Nat.le_of_ble_eq_true rfl) (Nat.le_of_ble_eq_true rfl) (by simp [mj_recv, jS_a G hs1]) rfl (jp_copiesPoly (D := D + 5) G (p := a) (q := b) (by omega) (by omega) hab hs1) (fun v' h2 hq' => ?_) (fun i h' hq' => by obtain ⟨_, _, h⟩ := hq'; cases h)
    obtain ⟨_, hs2, hq'⟩ := hq'
    cases hq'
    have e1 : ∀ e, e < 13 → jfl W1 a (fun e => W1 (b * 13 + e)) 13 (a * 13 + e) = W1 (b * 13 + e) := fun e he => jfl_at _ a _ he
    have e2 : ∀ s, (s < a * 13 ∨ a * 13 + 13 ≤ s) → jfl W1 a (fun e => W1 (b * 13 + e)) 13 s = W1 s := fun s hc => jfl_off _ a _ hc
    generalize jfl W1 a (fun e => W1 (b * 13 + e)) 13 = W2 at hs2 e1 e2
    iterate 2 refine mj_T.pl rfl rfl rfl rfl ?_
    refine mj_T.call (ins := .invokevirtual 142) rfl rfl (Nat.le_of_ble_eq_true rfl) (Nat.le_of_ble_eq_true rfl) (by simp [mj_recv, jS_a G hs2]) rfl (jx_makesPrimitive (D := D) G (p := 3) (by omega) hs2) (fun v' h3 hq' => ?_) (fun i h' hq' => by obtain ⟨_, _, _, _, _, _, h⟩ := hq'; cases h)
    obtain ⟨W3, _, hs3, ⟨f, hf1, k5⟩, k6, hP3, hq'⟩ := hq'
    cases hq'
    iterate 3 refine mj_T.pl rfl rfl rfl rfl ?_
    refine mj_T.call (ins := .invokevirtual 124) rfl rfl (Nat.le_of_ble_eq_true rfl) (Nat.le_of_ble_eq_true rfl) (by simp [mj_recv, jS_a G hs3]) rfl (jp_copiesPoly (D := D + 5) G (p := b) (q := 3) (by omega) (by omega) hb3 hs3) (fun v' h4 hq' => ?_) (fun i h' hq' => by obtain ⟨_, _, h⟩ := hq'; cases h)
    obtain ⟨_, hs4, hq'⟩ := hq'
    cases hq'
    have e3 : ∀ e, e < 13 → jfl W3 b (fun e => W3 (3 * 13 + e)) 13 (b * 13 + e) = W3 (3 * 13 + e) := fun e he => jfl_at _ b _ he
    have e5 : ∀ s, (s < b * 13 ∨ b * 13 + 13 ≤ s) → jfl W3 b (fun e => W3 (3 * 13 + e)) 13 s = W3 s := fun s hc => jfl_off _ b _ hc
    generalize jfl W3 b (fun e => W3 (3 * 13 + e)) 13 = W4 at hs4 e3 e5
    have pa : jpo W4 a = jpo W b := funext fun e => by
      by_cases he : e < 13
      · rw [jpo_at he, jpo_at he, e5 _ (by omega), k6 _ (by omega) (by omega) (by omega) (by omega) (by omega) (by omega), e1 e he, k1 _ (by omega) (by omega) (by omega)]
      · unfold jpo
        rw [if_neg he, if_neg he]
    have pb : jpo W4 b = jpo W3 3 := funext fun e => by
      by_cases he : e < 13
      · rw [jpo_at he, jpo_at he, e3 e he]
      · unfold jpo
        rw [if_neg he, if_neg he]
    have pr : jpo W2 3 = jpo W1 3 := funext fun e => by
      by_cases he : e < 13
      · rw [jpo_at he, jpo_at he, e2 _ (by omega)]
      · unfold jpo
        rw [if_neg he, if_neg he]
    have hpr := jcm_prim (V := W2) (W := W3) (p := 3) hf1 k5
    rw [pr] at hpr
    have hrl : pz_lt (jpo W1 3) db := fun i hi => by
      unfold jpo
      split
      · rename_i c
        exact k3 i hi c
      · rfl
    refine mj_T.pl rfl rfl rfl rfl ?_
    refine ih W4 h4 _ ?_ hs4 (fun s c1 c2 c3 c4 c5 c6 c7 c8 c9 => ?_) ?_
    · have z : ∀ e, db ≤ e → e < 13 → W4 (b * 13 + e) = 0 := fun e c1 c2 => by
        rw [e3 e c2, k5 e c2, e2 _ (by omega), k3 e c1 c2, Int.zero_tdiv, Int.mul_zero]
      refine Nat.le_of_not_lt (fun hlt => ?_)
      exact jdg_ne W4 b 13 (by omega) (z (jdg W4 b 13 - 1) (by omega) (by have := jdg_le W4 b 13; omega))
    · rw [e5 s c2, k6 s (by omega) c4 c5 c7 c8 c9, e2 s c1, k1 s c3 c4 c6]
      exact hf s c1 c2 c3 c4 c5 c6 c7 c8 c9
    · rw [pa, pb]
      refine hJs (jpo W a) (jpo W b) (jpo W1 2) (jpo W1 3) (jpo W3 3) db (jdg W a 13 - db) hJ hyl (by rw [ydb]; exact hlead) (by rw [ydb]; exact k2) (jpo_lt W1 2) hrl hpr (posP_of hP3)
theorem jx_commonsPoly (G : jG hp q0 q1 q2 q3 fs) {J : pz_P → pz_P → Prop} (hto : to ≤ 49) (hta : to ≠ a) (ha : a ≤ 49) (ha2 : a ≠ 2) (ha3 : a ≠ 3) (hb : b ≤ 49) (hb2 : b ≠ 2) (hb3 : b ≠ 3) (hab : a ≠ b) 
    (hJf : ∀ (x y : pz_P) (db n : Nat), J x y → pz_lt x (db + n) → (1 ≤ n → x (db + n - 1) ≠ 0) → pz_lt y (db + 1) → y db ≠ 0 → db < 13 → ∃ al be : Nat, 1 ≤ be ∧ (∀ i, (x i).natAbs ≤ al) ∧ (∀ i, (y i).natAbs ≤ be) ∧ al * (2 * be) ^ n < jB ^ 698)
    (hJs : ∀ (x y q r r1 : pz_P) (db n : Nat), J x y → pz_lt y (db + 1) → y db ≠ 0 → pz_sc (y db ^ n) x = pz_add (pz_mul q y) r → pz_lt q 13 → pz_lt r db → ((r = pz_0 ∧ r1 = pz_0) ∨ ∃ c : Int, c ≠ 0 ∧ r = pz_sc c r1 ∧ pz_prim r1) → posP r1 → J y r1)
    (hJ0 : ∀ x y : pz_P, ((jpo V a = pz_0 ∧ x = pz_0) ∨ ∃ c : Int, c ≠ 0 ∧ jpo V a = pz_sc c x ∧ pz_prim x) → ((jpo V b = pz_0 ∧ y = pz_0) ∨ ∃ c : Int, c ≠ 0 ∧ jpo V b = pz_sc c y ∧ pz_prim y) → posP x → posP y → J x y) (hs : jS hp q1 q2 q3 V h) :
    mj_Ok (D + 9) 212 [.ref q0, .int (jn (to : Nat)), .int (jn (a : Nat)), .int (jn (b : Nat))] h (fun r => ∃ (W : Nat → Int) (h' : mj_H), jS hp q1 q2 q3 W h' ∧ (∀ s, (s < to * 13 ∨ to * 13 + 13 ≤ s) → (s < a * 13 ∨ a * 13 + 13 ≤ s) → (s < b * 13 ∨ b * 13 + 13 ≤ s) → (s < 26 ∨ 52 ≤ s) → s ≠ 652 → s ≠ 653 → s ≠ 654 → s ≠ 655 → s ≠ 663 → s ≠ 664 → W s = V s) ∧ J (jpo W to) pz_0 ∧ r = (.inl none, h')) := by
  refine mj_Ok.of (M := mj_m212) rfl rfl rfl ?_
  iterate 2 refine mj_T.pl rfl rfl rfl rfl ?_
  refine mj_T.call (ins := .invokevirtual 142) rfl rfl (Nat.le_of_ble_eq_true rfl) (Nat.le_of_ble_eq_true rfl) (by simp [mj_recv, jS_a G hs]) rfl (jx_makesPrimitive (D := D) G (p := a) ha hs) (fun v' h1 hq' => ?_) (fun i h' hq' => by obtain ⟨_, _, _, _, _, _, h⟩ := hq'; cases h)
  obtain ⟨W1, _, hs1, ⟨f1, hf1, k1⟩, k2, hP1, hq'⟩ := hq'
  cases hq'
  iterate 2 refine mj_T.pl rfl rfl rfl rfl ?_
  refine mj_T.call (ins := .invokevirtual 142) rfl rfl (Nat.le_of_ble_eq_true rfl) (Nat.le_of_ble_eq_true rfl) (by simp [mj_recv, jS_a G hs1]) rfl (jx_makesPrimitive (D := D) G (p := b) hb hs1) (fun v' h2 hq' => ?_) (fun i h' hq' => by obtain ⟨_, _, _, _, _, _, h⟩ := hq'; cases h)
  obtain ⟨W2, _, hs2, ⟨f2, hf2, k3⟩, k4, hP2, hq'⟩ := hq'
  cases hq'
  have p1 := jcm_prim (V := V) (W := W1) (p := a) hf1 k1
  have p2 := jcm_prim (V := W1) (W := W2) (p := b) hf2 k3
  have e1 : jpo W1 b = jpo V b := funext fun e => by
    by_cases he : e < 13
    · rw [jpo_at he, jpo_at he, k2 _ (by omega) (by omega) (by omega) (by omega) (by omega) (by omega)]
    · unfold jpo
      rw [if_neg he, if_neg he]
  have e2 : jpo W2 a = jpo W1 a := funext fun e => by
    by_cases he : e < 13
    · rw [jpo_at he, jpo_at he, k4 _ (by omega) (by omega) (by omega) (by omega) (by omega) (by omega)]
    · unfold jpo
      rw [if_neg he, if_neg he]
  rw [e1] at p2
  have hJ : J (jpo W2 a) (jpo W2 b) := by
    rw [e2]
    exact hJ0 _ _ p1 p2 (posP_of hP1) (posP_of hP2)
  refine jx_cm (D := D) (V := V) (a := a) (b := b) (to := to) G (J := J) ha ha2 ha3 hb hb2 hb3 hab hJf hJs (fun W3 h3 e4 hs3 hf3 hJ3 hz3 => ?_) (jdg W2 b 13) W2 h2 _ (Nat.le_refl _) hs2 (fun s c1 c2 c3 c4 c5 c6 c7 c8 c9 => by rw [k4 s c2 c4 c5 c7 c8 c9, k2 s c1 c4 c5 c7 c8 c9]) hJ
  iterate 3 refine mj_T.pl rfl rfl rfl rfl ?_
  refine mj_T.call (ins := .invokevirtual 124) rfl rfl (Nat.le_of_ble_eq_true rfl) (Nat.le_of_ble_eq_true rfl) (by simp [mj_recv, jS_a G hs3]) rfl (jp_copiesPoly (D := D + 5) G (p := to) (q := a) (by omega) (by omega) hta hs3) (fun v' h4 hq' => ?_) (fun i h' hq' => by obtain ⟨_, _, h⟩ := hq'; cases h)
  obtain ⟨_, hs4, hq'⟩ := hq'
  cases hq'
  refine mj_T.ret rfl rfl rfl ⟨_, h4, hs4, fun s c0 c1 c2 c3 c4 c5 c6 c7 c8 c9 => ?_, ?_, rfl⟩
  · rw [jfl_off _ to _ c0]
    exact hf3 s c1 c2 c3 c4 c5 c6 c7 c8 c9
  · have e3 : jpo (jfl W3 to (fun e => W3 (a * 13 + e)) 13) to = jpo W3 a := funext fun e => by
      by_cases he : e < 13
      · rw [jpo_at he, jpo_at he, jfl_at _ to _ he]
      · unfold jpo
        rw [if_neg he, if_neg he]
    have e4 : jpo W3 b = pz_0 := funext fun e => by
      by_cases he : e < 13
      · rw [jpo_at he, hz3 e he]
        rfl
      · unfold jpo
        rw [if_neg he]
        rfl
    rw [e3, ← e4]
    exact hJ3
/-- what divides both divides the two that are under way -/
def kq_E (f g x y : pz_P) : Prop := ∀ G : pz_P, qdv G f → qdv G g → qdv G x ∧ qdv G y
def kq_X (A : Nat) (f g x y : pz_P) : Prop := kq_J A f g x y ∧ posP x ∧ posP y ∧ kq_E f g x y
theorem kq_rel_qdv {f f0 G : pz_P} (h : kq_rel f f0) (k : qdv G f) : qdv G f0 := by
  rcases h with ⟨_, e⟩ | ⟨c, hc, e, _⟩
  · rw [e]
    exact qdv.z G
  · rw [e] at k
    exact k.un hc
theorem kq_rel_qdv2 {f f0 G : pz_P} (h : kq_rel f f0) (k : qdv G f0) : qdv G f := by
  rcases h with ⟨e, _⟩ | ⟨c, hc, e, _⟩
  · rw [e]
    exact qdv.z G
  · rw [e]
    exact k.sc c
theorem kq_E.step {f g x y q r r1 : pz_P} {c0 : Int} {N : Nat} (h : kq_E f g x y) (hc0 : c0 ≠ 0) (hq : pz_lt q N) (hrel : pz_sc c0 x = pz_add (pz_mul q y) r) (hr : kq_rel r r1) : kq_E f g y r1 := fun G h1 h2 => by
  obtain ⟨a, b⟩ := h G h1 h2
  exact ⟨b, kq_rel_qdv hr ((qdv_rem hc0 hq hrel b).mp a)⟩
/-- the end: it is greatest -/
theorem kq_X.fin {A : Nat} {f g G : pz_P} (hJ : kq_X A f g G pz_0) : posP G ∧ qdv G f ∧ qdv G g ∧ (∀ K : pz_P, qdv K f → qdv K g → qdv K G) ∧ (f ≠ pz_0 ∨ g ≠ pz_0 → pz_prim G) := by
  obtain ⟨⟨f0, g0, k1, k2, k3, k4, k5, k6, k7⟩, hp, _, hE⟩ := hJ
  have h1 : qdv G f := kq_rel_qdv2 k1 (k3 G (qdv.rf G) (qdv.z G))
  have h2 : qdv G g := kq_rel_qdv2 k2 (k4 G (qdv.rf G) (qdv.z G))
  refine ⟨hp, h1, h2, fun K a b => (hE K a b).1, fun hne => ?_⟩
  have nz : ∀ u : pz_P, qdv G u → u ≠ pz_0 → pz_prim G := fun u hu hu0 => by
    rcases k5 with e | e
    · obtain ⟨c, T, N, hc, _, hT⟩ := hu
      rw [e] at hT
      exact absurd (pz_sc_0 hc (hT.trans (funext fun n => pz_c_zeroR n T))) hu0
    · exact e
  rcases hne with e | e
  · exact nz f h1 e
  · exact nz g h2 e
theorem jx_commonsA (G : jG hp q0 q1 q2 q3 fs) {A : Nat} (hA : kq_fit A) (hto : to ≤ 49) (hta : to ≠ a) (ha : a ≤ 49) (ha2 : a ≠ 2) (ha3 : a ≠ 3) (hb : b ≤ 49) (hb2 : b ≠ 2) (hb3 : b ≠ 3) (hab : a ≠ b) (hVa : ∀ e, e < 13 → (V (a * 13 + e)).natAbs ≤ A) (hVb : ∀ e, e < 13 → (V (b * 13 + e)).natAbs ≤ A) (hs : jS hp q1 q2 q3 V h) :
    mj_Ok (D + 9) 212 [.ref q0, .int (jn (to : Nat)), .int (jn (a : Nat)), .int (jn (b : Nat))] h (fun r => ∃ (W : Nat → Int) (h' : mj_H), jS hp q1 q2 q3 W h' ∧ (∀ s, (s < to * 13 ∨ to * 13 + 13 ≤ s) → (s < a * 13 ∨ a * 13 + 13 ≤ s) → (s < b * 13 ∨ b * 13 + 13 ≤ s) → (s < 26 ∨ 52 ≤ s) → s ≠ 652 → s ≠ 653 → s ≠ 654 → s ≠ 655 → s ≠ 663 → s ≠ 664 → W s = V s) ∧ ((∀ i, (jpo W to i).natAbs ≤ kq_F A 24) ∧ kq_X A (jpo V a) (jpo V b) (jpo W to) pz_0) ∧ r = (.inl none, h')) :=
  mj_Ok.to (jx_commonsPoly (D := D) (V := V) G (J := kq_X A (jpo V a) (jpo V b)) hto hta ha ha2 ha3 hb hb2 hb3 hab (fun x y db n hJ h1 h2 h3 h4 h5 => kq_fits hA (jpo_lt V a) (jpo_lt V b) (jpo_le hVa) (jpo_le hVb) x y db n hJ.1 h1 h2 h3 h4 h5) (fun x y q r r1 db n hJ h1 h2 h3 h4 h5 h6 h7 => ⟨kq_step hA.1 (jpo_lt V a) (jpo_lt V b) (jpo_le hVa) (jpo_le hVb) x y q r r1 db hJ.1 h1 h2 (Int.pow_ne_zero h2) h3 h4 h5 h6, hJ.2.2.1, h7, hJ.2.2.2.step (Int.pow_ne_zero h2) h4 h3 h6⟩) (fun x y h1 h2 h3 h4 => ⟨kq_start h1 h2, h3, h4, fun K a b => ⟨kq_rel_qdv h1 a, kq_rel_qdv h2 b⟩⟩) hs) (fun r hr => by
    obtain ⟨W, h', k1, k2, k3, k4⟩ := hr
    obtain ⟨e1, e2, e3, e4⟩ := kq_end hA.1 (jpo_lt V a) (jpo_le hVa) k3.1
    exact ⟨W, h', k1, k2, ⟨e2, k3⟩, k4⟩)
end JXC
/-! The reference, exactly: gcd. -/
theorem rwN_z (N : Nat → Int) (a : Int) : ∀ i, 13 ≤ i → rwN N a i = 0 := fun i hi => by
  show (if i < 13 then _ else 0) = 0
  rw [if_neg (by omega)]
theorem ppr_sc {f : Nat → Int} (hf : sml f) (hz : ∀ i, 13 ≤ i → f i = 0) : (f = pz_0 ∧ fdg f 13 = 0 ∧ ppr f = pz_0) ∨ (1 ≤ fdg f 13 ∧ ∃ c : Int, c ≠ 0 ∧ f = pz_sc c (ppr f)) := by
  rcases Nat.eq_zero_or_pos (fdg f 13) with h | h
  · refine Or.inl ⟨funext fun i => ?_, h, ppr_z hf h⟩
    by_cases q : i < 13
    · exact fdg_zero f 13 i (by omega) q
    · exact hz i (by omega)
  · obtain ⟨h1, _, h2, h3, _⟩ := ppr_ok hf (m := fdg f 13 - 1) (by omega)
    refine Or.inr ⟨h, sgc f, h1, funext fun i => ?_⟩
    by_cases q : i < 13
    · exact h2 i q
    · show f i = sgc f * ppr f i
      rw [hz i (by omega), show ppr f i = 0 from if_neg q, Int.mul_zero]
theorem ppr_qdv {f : Nat → Int} (hf : sml f) (hz : ∀ i, 13 ≤ i → f i = 0) (G : pz_P) : qdv G f ↔ qdv G (ppr f) := by
  rcases ppr_sc hf hz with ⟨h1, _, h2⟩ | ⟨_, c, h1, h2⟩
  · rw [h1, ← h1, h2, h1]
  · constructor
    · intro k
      rw [h2] at k
      exact k.un h1
    · intro k
      rw [h2]
      exact k.sc c
theorem cgd_z {f : Nat → Int} (h : fdg f 13 = 0) : cgd f 13 = 0 := Nat.eq_zero_of_zero_dvd (cgd_max f 0 13 (fun i hi => by rw [fdg_zero f 13 i (by omega) hi]; exact ⟨0, rfl⟩))
theorem gcR_of {f1 f2 G : pz_P} (s1 : sml f1) (s2 : sml f2) (z1 : ∀ i, 13 ≤ i → f1 i = 0) (z2 : ∀ i, 13 ≤ i → f2 i = 0) (hl : pz_lt G 13) (hp : posP G) (d1 : qdv G f1) (d2 : qdv G f2) (hg : ∀ K : pz_P, qdv K f1 → qdv K f2 → qdv K G) (hpr : f1 ≠ pz_0 ∨ f2 ≠ pz_0 → pz_prim G) : gcR f1 f2 (pz_sc ((Nat.gcd (cgd f1 13) (cgd f2 13) : Nat) : Int) G) := by
  have nz : ∀ f : pz_P, 1 ≤ fdg f 13 → f ≠ pz_0 := fun f h1 h2 => by
    have := fdg_ne f 13 h1
    rw [h2] at this
    exact this rfl
  by_cases h : fdg f1 13 = 0 ∧ fdg f2 13 = 0
  · refine Or.inl ⟨h.1, h.2, ?_⟩
    rw [cgd_z h.1, cgd_z h.2]
    exact funext fun i => Int.zero_mul _
  · have hne : 1 ≤ fdg f1 13 ∨ 1 ≤ fdg f2 13 := by omega
    have hP := hpr (hne.imp (nz f1) (nz f2))
    obtain ⟨d, e1, e2, e3⟩ := kq_deg 13 G hl (kq_prim_ne hP)
    refine Or.inr ⟨hne, G, d, e1, ⟨hP, hp d e3 (fun e he => e2 e (by omega)), fun i hi => e2 i (by omega), qdv_exact hP ((ppr_qdv s1 z1 G).mp d1), qdv_exact hP ((ppr_qdv s2 z2 G).mp d2), fun K k1 k2 => hg K ((ppr_qdv s1 z1 K).mpr k1) ((ppr_qdv s2 z2 K).mpr k2)⟩, rfl⟩
section RGC
variable {h : mj_H} {tm er : Int} {T : Nat → Int} {N0 : Nat → Int} {u0 : Nat} {H : Nat → Nat → Int}
theorem rx_gcd_loop {S N B X : Nat → Int} {x : Nat} {y z : Int} {reg : Prop} (hreg : reg) {c : Int} {G0 P : pz_P} (hP : P = pz_sc c G0) (hG0 : pz_lt G0 13) (hx : x ≤ 5) (K : jKx N0 u0 H tm er S N B T) :
    ∀ (m k : Nat) (V : Nat → Int) (h : mj_H), k + m = 13 → rS S N B T X V h → (V 656).natAbs ≤ 10 ^ 18 → (∀ e, k ≤ e → e < 13 → (V (4 * 13 + e)).natAbs ≤ kq_F (10 ^ 18) 24) → V 656 = c → (∀ e, e < k → V (4 * 13 + e) = c * G0 e) → (∀ e, k ≤ e → e < 13 → V (4 * 13 + e) = G0 e) → mj_T 39 mj_m238 74 [some (.ref 0), some (.int (jn (x : Int))), some (.int (jn y)), some (.int (jn z)), some (.int (jn (k : Int)))] [] h (RP tm er T N0 u0 H reg P (x : Int)) := by
  intro m
  induction m with
  | zero =>
    intro k V h hk hs c1 c2 v6 l1 l2
    have hk : k = 13 := by omega
    subst hk
    iterate 2 refine mj_T.pl rfl rfl rfl rfl ?_
    refine mj_T.icmp (a := ((13 : Nat) : Int)) (b := 13) rfl ⟨by decide, by decide⟩ ⟨by decide, by decide⟩ (fun hc => ?_) (fun hc => ?_)
    rotate_left
    · simp [jc] at hc
    iterate 4 refine mj_T.pl rfl rfl rfl rfl ?_
    refine mj_T.call (ins := .invokevirtual 219) rfl rfl (Nat.le_of_ble_eq_true rfl) (Nat.le_of_ble_eq_true rfl) (by simp [mj_recv, rS_f hs]) rfl (mj_Ok.up (by decide) (rx_puts (D := 0) (r := x) (p := 4) (c := 2) (by omega) (by decide) ⟨by decide, by decide⟩ K hs)) (fun v' h' hq' => ?_) (fun i h' hq' => by rcases hq' with ⟨_, _, _, _, h, _⟩ | ⟨_, _, _, _, h, _⟩ <;> cases h)
    have hres : ∀ j, j < 13 → (fun e => V (4 * 13 + e)) j = P j := fun j hj => by
      rw [hP]
      exact l1 j hj
    have hz : ∀ i, 13 ≤ i → P i = 0 := fun i hi => by
      rw [hP]
      show c * G0 i = 0
      rw [hG0 i hi, Int.mul_zero]
    rcases hq' with ⟨hs9, z9, h9, hz9, e9, hI9⟩ | ⟨hs9, z9, h9, hz9, e9, hI9⟩
    · cases e9
      exact mj_T.ret rfl rfl rfl (Or.inl ⟨hreg, Or.inl ⟨⟨sml_cg hres hs9, hz⟩, _, hres, z9, _, hz9, rfl, hI9⟩⟩)
    · cases e9
      exact mj_T.ret rfl rfl rfl (Or.inl ⟨hreg, Or.inr ⟨fun q => hs9 (sml_cg (fun j hj => (hres j hj).symm) q.1), z9, _, hz9, rfl, hI9⟩⟩)
  | succ m ih =>
    intro k V h hk hs c1 c2 v6 l1 l2
    iterate 2 refine mj_T.pl rfl rfl rfl rfl ?_
    refine mj_T.icmp (a := (k : Int)) (b := 13) rfl ⟨by omega, by omega⟩ ⟨by decide, by decide⟩ (fun hc => ?_) (fun hc => ?_)
    · simp only [jc, decide_eq_true_eq] at hc
      omega
    iterate 3 refine mj_T.pl rfl rfl rfl rfl ?_
    refine mj_T.call (ins := .invokestatic 104) rfl rfl (Nat.le_of_ble_eq_true rfl) (Nat.le_of_ble_eq_true rfl) rfl rfl (mj_Ok.up (by decide) (jq_slot (D := 0) (p := 4) (i := k))) (fun v' h' hq' => ?_) (fun i h' hq' => by cases hq')
    cases hq'
    iterate 2 refine mj_T.pl rfl rfl rfl rfl ?_
    refine mj_T.call (ins := .invokestatic 104) rfl rfl (Nat.le_of_ble_eq_true rfl) (Nat.le_of_ble_eq_true rfl) rfl rfl (mj_Ok.up (by decide) (jq_slot (D := 0) (p := 4) (i := k))) (fun v' h' hq' => ?_) (fun i h' hq' => by cases hq')
    cases hq'
    refine mj_T.pl rfl rfl rfl rfl ?_
    refine mj_T.call (ins := .invokevirtual 117) rfl rfl (Nat.le_of_ble_eq_true rfl) (Nat.le_of_ble_eq_true rfl) (by simp [mj_recv, rS_f hs]) rfl (mj_Ok.up (by decide) (jS_mul (D := 0) (V := V) (rG S N B T X) (to := 4 * 13 + k) (a := 4 * 13 + k) (b := 656) (by omega) (by omega) (by decide) (jnl_of_lt (M := kq_F (10 ^ 18) 24 * 10 ^ 18) (by rw [Int.natAbs_mul]; exact Nat.mul_le_mul (c2 k (by omega) (by omega)) c1) rp_small5) hs)) (fun v' g1 hq' => ?_) (fun i h' hq' => by obtain ⟨_, _, h⟩ := hq'; cases h)
    obtain ⟨_, hs1, hq'⟩ := hq'
    cases hq'
    refine mj_T.iinc (a := (k : Int)) rfl rfl ?_
    refine mj_T.pl rfl rfl rfl rfl ?_
    refine ih (k + 1) _ g1 (by omega) hs1 (by rw [jvu_ne _ _ _ (by omega)]; exact c1) (fun e e1 e2 => by rw [jvu_ne _ _ _ (by omega)]; exact c2 e (by omega) e2) (by rw [jvu_ne _ _ _ (by omega)]; exact v6) (fun e he => ?_) (fun e e1 e2 => by rw [jvu_ne _ _ _ (by omega)]; exact l2 e (by omega) e2)
    by_cases q : e = k
    · subst q
      rw [jvu_at, l2 e (Nat.le_refl _) (by omega), v6, Int.mul_comm]
    · rw [jvu_ne _ _ _ (by omega)]
      exact l1 e (by omega)
theorem rx_gcd {x y z : Int} (hx : jr x) (hy : jr y) (hz : jr z) (hI : jIx N0 u0 H tm er T h) : mj_Ok 40 238 [.ref 0, .int (jn x), .int (jn y), .int (jn z)] h (fun r => ∃ R : pz_P, (((0 ≤ x ∧ x ≤ 5) ∧ (0 ≤ y ∧ y ≤ 5) ∧ (0 ≤ z ∧ z ≤ 5)) → gcR (rwN N0 y) (rwN N0 z) R) ∧ RP tm er T N0 u0 H ((0 ≤ x ∧ x ≤ 5) ∧ (0 ≤ y ∧ y ≤ 5) ∧ (0 ≤ z ∧ z ≤ 5)) R x r) := by
  refine mj_Ok.of (M := mj_m238) rfl rfl rfl ?_
  obtain ⟨S, N, B, X, V, hs, K⟩ := hI
  iterate 2 refine mj_T.pl rfl rfl rfl rfl ?_
  refine rT_put (v := 0) hs rfl rfl (by decide) rfl (fun g15 hs15 => ?_)
  have K15 := K.put (k := 3) (v := 0) ⟨by decide, by decide⟩ (by decide) (by decide) (by decide) (by decide) (by decide)
  generalize jvu S 3 0 = S15 at hs15 K15
  iterate 3 refine mj_T.pl rfl rfl rfl rfl ?_
  refine mj_T.call (ins := .invokestatic 210) rfl rfl (Nat.le_of_ble_eq_true rfl) (Nat.le_of_ble_eq_true rfl) rfl rfl (mj_Ok.up (by decide) (rx_areRegisters (D := 0) hx hy hz)) (fun v' h' hq' => ?_) (fun i h' hq' => by rcases hq' with ⟨_, _, h⟩ | ⟨_, h⟩ <;> cases h)
  rcases hq' with ⟨⟨x1, x2⟩, ⟨y3, y4, z5, z6⟩, hq'⟩ | ⟨hno, hq'⟩
  case' inr =>
    cases hq'
    refine mj_T.if0 (a := 0) rfl ⟨by decide, by decide⟩ (fun hc => ?_) (fun hc => ?_)
    · simp [jc] at hc
    iterate 2 refine mj_T.pl rfl rfl rfl rfl ?_
    refine mj_T.call (ins := .invokevirtual 198) rfl rfl (Nat.le_of_ble_eq_true rfl) (Nat.le_of_ble_eq_true rfl) (by simp [mj_recv, rS_f hs15]) rfl (mj_Ok.up (by decide) (rp_fails (D := 0) (c := 1) hs15)) (fun v' g16 hq' => ?_) (fun i h' hq' => by obtain ⟨_, _, h⟩ := hq'; cases h)
    obtain ⟨_, hs16, hq'⟩ := hq'
    cases hq'
    exact mj_T.ret rfl rfl rfl ⟨pz_0, fun q => absurd q hno, Or.inr ⟨hno, 0, g16, ⟨by decide, by decide⟩, rfl, ⟨_, N, B, X, V, hs16, K15.put ⟨by decide, by decide⟩ (by decide) (by decide) (by decide) (by decide) (by decide)⟩⟩⟩
  cases hq'
  refine mj_T.if0 (a := 1) rfl ⟨by decide, by decide⟩ (fun hc => ?_) (fun hc => ?_)
  rotate_left
  · simp [jc] at hc
  obtain ⟨x, rfl⟩ := Int.eq_ofNat_of_zero_le x1
  obtain ⟨y, rfl⟩ := Int.eq_ofNat_of_zero_le y3
  obtain ⟨z, rfl⟩ := Int.eq_ofNat_of_zero_le z5
  iterate 3 refine mj_T.pl rfl rfl rfl rfl ?_
  refine mj_T.call (ins := .invokevirtual 213) rfl rfl (Nat.le_of_ble_eq_true rfl) (Nat.le_of_ble_eq_true rfl) (by simp [mj_recv, rS_f hs15]) rfl (mj_Ok.up (by decide) (rp_loads (D := 0) (p := 5) (r := y) (by decide) (by omega) K15.nR hs15)) (fun v' g17 hq' => ?_) (fun i h' hq' => by obtain ⟨_, _, h⟩ := hq'; cases h)
  obtain ⟨_, hs17, hq'⟩ := hq'
  cases hq'
  have a17 : ∀ e, e < 13 → jfl V 5 (fun e => N (y * 13 + e)) 13 (5 * 13 + e) = N (y * 13 + e) := fun e he => jfl_at _ _ _ he
  have b17 : ∀ s, (s < 5 * 13 ∨ 5 * 13 + 13 ≤ s) → jfl V 5 (fun e => N (y * 13 + e)) 13 s = V s := fun s hc => jfl_off _ _ _ hc
  generalize jfl V 5 (fun e => N (y * 13 + e)) 13 = W17 at hs17 a17 b17
  iterate 3 refine mj_T.pl rfl rfl rfl rfl ?_
  refine mj_T.call (ins := .invokevirtual 213) rfl rfl (Nat.le_of_ble_eq_true rfl) (Nat.le_of_ble_eq_true rfl) (by simp [mj_recv, rS_f hs17]) rfl (mj_Ok.up (by decide) (rp_loads (D := 0) (p := 6) (r := z) (by decide) (by omega) K15.nR hs17)) (fun v' g18 hq' => ?_) (fun i h' hq' => by obtain ⟨_, _, h⟩ := hq'; cases h)
  obtain ⟨_, hs18, hq'⟩ := hq'
  cases hq'
  have a18 : ∀ e, e < 13 → jfl W17 6 (fun e => N (z * 13 + e)) 13 (6 * 13 + e) = N (z * 13 + e) := fun e he => jfl_at _ _ _ he
  have b18 : ∀ s, (s < 6 * 13 ∨ 6 * 13 + 13 ≤ s) → jfl W17 6 (fun e => N (z * 13 + e)) 13 s = W17 s := fun s hc => jfl_off _ _ _ hc
  generalize jfl W17 6 (fun e => N (z * 13 + e)) 13 = W18 at hs18 a18 b18
  have c1 : ∀ e, e < 13 → (W18 (5 * 13 + e)).natAbs ≤ 10 ^ 18 := fun e he => by
    rw [b18 _ (by omega), a17 e he]
    exact K15.sh (r := y) (by omega) he
  have c2 : ∀ e, e < 13 → (W18 (6 * 13 + e)).natAbs ≤ 10 ^ 18 := fun e he => by
    rw [a18 e he]
    exact K15.sh (r := z) (by omega) he
  iterate 3 refine mj_T.pl rfl rfl rfl rfl ?_
  refine mj_T.call (ins := .invokevirtual 130) rfl rfl (Nat.le_of_ble_eq_true rfl) (Nat.le_of_ble_eq_true rfl) (by simp [mj_recv, rS_f hs18]) rfl (mj_Ok.up (by decide) (jp_contents (D := 0) (rG S15 N B T X) (to := 661) (p := 5) (by decide) (by decide) (by decide) (by decide) (by decide) (by decide) (by decide) hs18)) (fun v' g19 hq' => ?_) (fun i h' hq' => by obtain ⟨_, _, _, _, _, h⟩ := hq'; cases h)
  obtain ⟨W19, _, hs19, d1, d2, hq'⟩ := hq'
  cases hq'
  iterate 3 refine mj_T.pl rfl rfl rfl rfl ?_
  refine mj_T.call (ins := .invokevirtual 130) rfl rfl (Nat.le_of_ble_eq_true rfl) (Nat.le_of_ble_eq_true rfl) (by simp [mj_recv, rS_f hs19]) rfl (mj_Ok.up (by decide) (jp_contents (D := 0) (rG S15 N B T X) (to := 662) (p := 6) (by decide) (by decide) (by decide) (by decide) (by decide) (by decide) (by decide) hs19)) (fun v' g20 hq' => ?_) (fun i h' hq' => by obtain ⟨_, _, _, _, _, h⟩ := hq'; cases h)
  obtain ⟨W20, _, hs20, d3, d4, hq'⟩ := hq'
  cases hq'
  iterate 4 refine mj_T.pl rfl rfl rfl rfl ?_
  refine mj_T.call (ins := .invokevirtual 127) rfl rfl (Nat.le_of_ble_eq_true rfl) (Nat.le_of_ble_eq_true rfl) (by simp [mj_recv, rS_f hs20]) rfl (mj_Ok.up (by decide) (jp_commons (D := 0) (V := W20) (rG S15 N B T X) (to := 656) (i := 661) (j := 662) (by decide) (by decide) (by decide) (by decide) (by decide) (by decide) (by decide) hs20)) (fun v' g21 hq' => ?_) (fun i h' hq' => by obtain ⟨_, _, _, _, _, h⟩ := hq'; cases h)
  obtain ⟨W21, _, hs21, d5, d6, hq'⟩ := hq'
  cases hq'
  have k5 : jgk W18 5 13 ≤ 10 ^ 18 := jgk_le c1
  have c3 : ∀ e, e < 13 → (W19 (6 * 13 + e)).natAbs ≤ 10 ^ 18 := fun e he => by rw [d2 _ (by omega) (by omega) (by omega) (by omega) (by omega)]; exact c2 e he
  have k6 : jgk W19 6 13 ≤ 10 ^ 18 := jgk_le c3
  have k7 : (W21 656).natAbs ≤ 10 ^ 18 := by rw [d5, d4 661 (by decide) (by decide) (by decide) (by decide) (by decide), d1, d3, Int.natAbs_natCast, Int.natAbs_natCast, Int.natAbs_natCast]; exact gcd_le2 k5 k6
  have c5 : ∀ e, e < 13 → (W21 (5 * 13 + e)).natAbs ≤ 10 ^ 18 := fun e he => by rw [d6 _ (by omega) (by omega) (by omega) (by omega), d4 _ (by omega) (by omega) (by omega) (by omega) (by omega), d2 _ (by omega) (by omega) (by omega) (by omega) (by omega)]; exact c1 e he
  have c6 : ∀ e, e < 13 → (W21 (6 * 13 + e)).natAbs ≤ 10 ^ 18 := fun e he => by rw [d6 _ (by omega) (by omega) (by omega) (by omega), d4 _ (by omega) (by omega) (by omega) (by omega) (by omega)]; exact c3 e he
  iterate 4 refine mj_T.pl rfl rfl rfl rfl ?_
  refine mj_T.call (ins := .invokevirtual 152) rfl rfl (Nat.le_of_ble_eq_true rfl) (Nat.le_of_ble_eq_true rfl) (by simp [mj_recv, rS_f hs21]) rfl (mj_Ok.up (by decide) (jx_commonsA (D := 0) (V := W21) (rG S15 N B T X) (A := 10 ^ 18) kq_fit18 (to := 4) (a := 5) (b := 6) (by decide) (by decide) (by decide) (by decide) (by decide) (by decide) (by decide) (by decide) (by decide) c5 c6 hs21)) (fun v' g22 hq' => ?_) (fun i h' hq' => by obtain ⟨_, _, _, _, _, h⟩ := hq'; cases h)
  obtain ⟨W22, _, hs22, d7, ⟨d8, dX⟩, hq'⟩ := hq'
  cases hq'
  iterate 2 refine mj_T.pl rfl rfl rfl rfl ?_
  have v65 : ∀ e, e < 13 → W21 (5 * 13 + e) = rwN N0 (y : Int) e := fun e he => by
    rw [d6 _ (by omega) (by omega) (by omega) (by omega), d4 _ (by omega) (by omega) (by omega) (by omega) (by omega), d2 _ (by omega) (by omega) (by omega) (by omega) (by omega), b18 _ (by omega), a17 e he]
    exact rwN_at K15.2.1 (by omega) he
  have v66 : ∀ e, e < 13 → W21 (6 * 13 + e) = rwN N0 (z : Int) e := fun e he => by
    rw [d6 _ (by omega) (by omega) (by omega) (by omega), d4 _ (by omega) (by omega) (by omega) (by omega) (by omega), d2 _ (by omega) (by omega) (by omega) (by omega) (by omega), a18 e he]
    exact rwN_at K15.2.1 (by omega) he
  have eA : jpo W21 5 = rwN N0 (y : Int) := funext fun e => by
    by_cases q : e < 13
    · rw [jpo_at q, v65 e q]
    · rw [jpo_lt W21 5 e (by omega), rwN_z N0 _ e (by omega)]
  have eB : jpo W21 6 = rwN N0 (z : Int) := funext fun e => by
    by_cases q : e < 13
    · rw [jpo_at q, v66 e q]
    · rw [jpo_lt W21 6 e (by omega), rwN_z N0 _ e (by omega)]
  have hg1 : W21 656 = ((Nat.gcd (cgd (rwN N0 (y : Int)) 13) (cgd (rwN N0 (z : Int)) 13) : Nat) : Int) := by
    have j5 : jgk W18 5 13 = cgd (rwN N0 (y : Int)) 13 := jgk_cgd (fun e he => by
      rw [b18 _ (by omega), a17 e he]
      exact rwN_at K15.2.1 (by omega) he)
    have j6 : jgk W19 6 13 = cgd (rwN N0 (z : Int)) 13 := jgk_cgd (fun e he => by
      rw [d2 _ (by omega) (by omega) (by omega) (by omega) (by omega), a18 e he]
      exact rwN_at K15.2.1 (by omega) he)
    rw [d5, d4 661 (by decide) (by decide) (by decide) (by decide) (by decide), d1, d3, Int.natAbs_natCast, Int.natAbs_natCast, j5, j6]
  have sm : ∀ r : Nat, r ≤ 5 → sml (rwN N0 (r : Int)) := fun r hr j hj => by
    rw [← rwN_at K15.2.1 hr hj]
    have := K15.1.1.1 (r * 13 + j) (by omega)
    omega
  rw [eA, eB] at dX
  obtain ⟨x1', x2', x3', x4', x5'⟩ := dX.fin
  have hgc := gcR_of (G := jpo W22 4) (sm y (by omega)) (sm z (by omega)) (rwN_z N0 _) (rwN_z N0 _) (jpo_lt W22 4) x1' x2' x3' x4' x5'
  refine mj_T.to (rx_gcd_loop (reg := ((0 ≤ (x : Int) ∧ (x : Int) ≤ 5) ∧ (0 ≤ (y : Int) ∧ (y : Int) ≤ 5) ∧ (0 ≤ (z : Int) ∧ (z : Int) ≤ 5))) (c := W21 656) (G0 := jpo W22 4) ⟨⟨by omega, by omega⟩, ⟨by omega, by omega⟩, ⟨by omega, by omega⟩⟩ (by rw [hg1]) (jpo_lt W22 4) (by omega) K15 13 0 _ _ (by omega) hs22 (by rw [d7 656 (by decide) (by decide) (by decide) (by decide) (by decide) (by decide) (by decide) (by decide) (by decide) (by decide)]; exact k7) (fun e _ he => by have := d8 e; rw [jpo_at he] at this; exact this) (d7 656 (by decide) (by decide) (by decide) (by decide) (by decide) (by decide) (by decide) (by decide) (by decide) (by decide)) (fun e he => absurd he (by omega)) (fun e _ he => (jpo_at he).symm)) (fun r hr => ⟨_, fun _ => hgc, hr⟩)
end RGC
/-! The reference, exactly: simple. -/
theorem pz_prim_fac {A S G : pz_P} (h : pz_prim A) (e : A = pz_mul S G) : pz_prim S := fun k hk => h k (fun i => by
  have e1 : S = pz_sc (k : Int) (fun i => S i / (k : Int)) := funext fun i => (Int.mul_ediv_cancel' (hk i)).symm
  rw [e1, pz_mul_scL] at e
  rw [e]
  exact ⟨_, rfl⟩)
theorem posP_fac {A S G : pz_P} {dg ds : Nat} (hA : posP A) (hS : pz_lt S (ds + 1)) (hS0 : S ds ≠ 0) (hG : pz_lt G (dg + 1)) (hG0 : 0 < G dg) (e : A = pz_mul S G) : posP S := fun d h1 h2 => by
  have hd : d = ds := by
    rcases Nat.lt_trichotomy d ds with c | c | c
    · exact absurd (h2 ds c) hS0
    · exact c
    · exact absurd (hS d (by omega)) h1
  subst hd
  have l : A (d + dg) = S d * G dg := by
    rw [e]
    exact pz_c_lead d S G dg hS hG
  have p := hA (d + dg) (by rw [l]; exact Int.mul_ne_zero hS0 (by omega)) (fun i hi => by
    rw [e]
    exact pz_lt.mul (a := d + 1) (b := dg + 1) (c := d + dg + 1) hS hG (by omega) i (by omega))
  rw [l] at p
  rcases Int.lt_trichotomy (S d) 0 with c | c | c
  · exact absurd (Int.mul_neg_of_neg_of_pos c hG0) (by omega)
  · exact absurd c h1
  · exact c
/-- the primitive part of a primitive polynomial whose lead is above 0 is the same -/
theorem pm_same {V W : Nat → Int} {p : Nat} {f : Int} (hpr : pz_prim (jpo V p)) (hV : posP (jpo V p)) (hf : f = 1 ∨ f = -1) (hW : ∀ e, e < 13 → W (p * 13 + e) = f * (V (p * 13 + e)).tdiv ((jgk V p 13 : Nat) : Int)) (hP : posL W p) : jpo W p = jpo V p := by
  have h1 : jgk V p 13 = 1 := hpr _ (fun i => by
    by_cases q : i < 13
    · rw [jpo_at q]
      exact Int.natAbs_dvd_natAbs.mp (jgk_dvd V p 13 i (Nat.le_refl _) (by omega) q)
    · rw [jpo_lt V p i (by omega)]
      exact ⟨0, (Int.mul_zero _).symm⟩)
  have h2 : ∀ e, e < 13 → W (p * 13 + e) = f * V (p * 13 + e) := fun e he => by
    rw [hW e he, h1]
    show f * (V (p * 13 + e)).tdiv 1 = _
    rw [Int.tdiv_one]
  rcases hf with rfl | rfl
  · exact jpo_eq fun e he => by rw [h2 e he, Int.one_mul]
  · obtain ⟨d, d1, d2, d3⟩ := kq_deg 13 _ (jpo_lt V p) (kq_prim_ne hpr)
    have a := hV d d3 (fun e he => d2 e (by omega))
    rw [jpo_at d1] at a
    have b := hP d d1 (by rw [h2 d d1]; omega) (fun e he h3 => by
      have := d2 e (by omega)
      rw [jpo_at h3] at this
      rw [h2 e h3, this]
      rfl)
    rw [h2 d d1] at b
    omega
theorem drv_sc (c : Int) (A : pz_P) : drv (pz_sc c A) = pz_sc c (drv A) := funext fun e => Int.mul_assoc _ _ _
/-- the greatest divisor with the derivative -/
theorem GP_of {F G : pz_P} (s : sml F) (z : ∀ i, 13 ≤ i → F i = 0) (hne : F ≠ pz_0) (hl : pz_lt G 13) (hp : posP G) (d1 : qdv G F) (d2 : qdv G (drv F)) (hg : ∀ K : pz_P, qdv K F → qdv K (drv F) → qdv K G) (hP : pz_prim G) : ∃ dg, dg < 13 ∧ GP (ppr F) (drv (ppr F)) G dg := by
  obtain ⟨d, e1, e2, e3⟩ := kq_deg 13 G hl (kq_prim_ne hP)
  have hd : ∀ K : pz_P, qdv K (drv F) ↔ qdv K (drv (ppr F)) := fun K => by
    rcases ppr_sc s z with ⟨h1, _, _⟩ | ⟨_, c, h1, h2⟩
    · exact absurd h1 hne
    · constructor
      · intro k
        rw [h2, drv_sc] at k
        exact k.un h1
      · intro k
        rw [h2, drv_sc]
        exact k.sc c
  exact ⟨d, e1, hP, hp d e3 (fun e he => e2 e (by omega)), fun i hi => e2 i (by omega), qdv_exact hP ((ppr_qdv s z G).mp d1), qdv_exact hP ((hd G).mp d2), fun K k1 k2 => hg K ((ppr_qdv s z K).mpr k1) ((hd K).mpr k2)⟩
theorem smR_of {F G S : pz_P} {dg : Nat} (hpp : pz_prim (ppr F)) (hS : pz_lt S 13) (hG : GP (ppr F) (drv (ppr F)) G dg) (e : ppr F = pz_mul S G) : smR F S := by
  have hne : S ≠ pz_0 := fun q => kq_prim_ne hpp (by rw [e, q, pz_mul_0L])
  obtain ⟨ds, k1, k2, k3⟩ := kq_deg 13 S hS hne
  exact ⟨G, dg, hG, e, ds, by omega, k2, k3⟩
section JXS
variable {D : Nat} {hp h : mj_H} {q0 q1 q2 q3 : Nat} {fs : List Value} {V : Nat → Int} {a b to : Nat}
theorem jx_simplifies (G : jG hp q0 q1 q2 q3 fs) (hsm : sml (jpo V 0)) (hne : jpo V 0 ≠ pz_0) (hA : ∀ e, e < 13 → (V (0 * 13 + e)).natAbs ≤ 10 ^ 18) (hs : jS hp q1 q2 q3 V h) :
    mj_Ok (D + 10) 214 [.ref q0, .int (jn ((8 : Nat) : Int)), .int (jn ((0 : Nat) : Int))] h (fun r => ∃ (W : Nat → Int) (h' : mj_H), jS hp q1 q2 q3 W h' ∧ (∀ s, (s < 26 ∨ 91 ≤ s) → (s < 104 ∨ 117 ≤ s) → s ≠ 652 → s ≠ 653 → s ≠ 654 → s ≠ 655 → s ≠ 663 → s ≠ 664 → W s = V s) ∧ smR (jpo V 0) (jpo W 8) ∧ r = (.inl none, h')) := by
  refine mj_Ok.of (M := mj_m214) rfl rfl rfl ?_
  iterate 3 refine mj_T.pl rfl rfl rfl rfl ?_
  refine mj_T.call (ins := .invokevirtual 124) rfl rfl (Nat.le_of_ble_eq_true rfl) (Nat.le_of_ble_eq_true rfl) (by simp [mj_recv, jS_a G hs]) rfl (jp_copiesPoly (D := D + 6) G (p := 5) (q := 0) (by decide) (by decide) (by decide) hs) (fun v' h1 hq' => ?_) (fun i h' hq' => by obtain ⟨_, _, h⟩ := hq'; cases h)
  obtain ⟨_, hs1, hq'⟩ := hq'
  cases hq'
  have a1 : ∀ e, e < 13 → jfl V 5 (fun e => V (0 * 13 + e)) 13 (5 * 13 + e) = V (0 * 13 + e) := fun e he => jfl_at _ 5 _ he
  have a2 : ∀ s, (s < 65 ∨ 78 ≤ s) → jfl V 5 (fun e => V (0 * 13 + e)) 13 s = V s := fun s hc => jfl_off _ 5 _ (by omega)
  generalize jfl V 5 (fun e => V (0 * 13 + e)) 13 = W1 at hs1 a1 a2
  iterate 3 refine mj_T.pl rfl rfl rfl rfl ?_
  refine mj_T.call (ins := .invokevirtual 149) rfl rfl (Nat.le_of_ble_eq_true rfl) (Nat.le_of_ble_eq_true rfl) (by simp [mj_recv, jS_a G hs1]) rfl (jp_derives (D := D + 6) (V := W1) G (p := 6) (a := 0) (by decide) (by decide) (by decide) (fun e he => jnl_of_lt (M := 10 ^ 18 * 13) (by
    rw [a2 _ (by omega), Int.natAbs_mul]
    exact Nat.mul_le_mul (hA (e + 1) (by omega)) (by omega)) kq_small) hs1) (fun v' h2 hq' => ?_) (fun i h' hq' => by obtain ⟨_, _, _, _, h⟩ := hq'; cases h)
  obtain ⟨W2, _, hs2, b1, hq'⟩ := hq'
  cases hq'
  have b2 : ∀ e, e < 13 → (W2 (6 * 13 + e)).natAbs ≤ 10 ^ 18 * 13 := fun e he => by
    rw [b1 _ (by omega), jfl_at _ 6 _ he]
    split
    · show (W1 (0 * 13 + e + 1) * ((e + 1 : Nat) : Int)).natAbs ≤ _
      rw [a2 _ (by omega), Int.natAbs_mul]
      exact Nat.mul_le_mul (hA (e + 1) (by omega)) (by omega)
    · exact Nat.zero_le _
  have b3 : ∀ s, (s < 78 ∨ 91 ≤ s) → s ≠ 652 → W2 s = W1 s := fun s hc h0 => by
    rw [b1 _ h0, jfl_off _ 6 _ (by omega)]
  have b4 : jpo W2 5 = jpo V 0 := jpo_eq fun e he => by rw [b3 _ (by omega) (by omega), a1 e he]
  iterate 4 refine mj_T.pl rfl rfl rfl rfl ?_
  refine mj_T.call (ins := .invokevirtual 152) rfl rfl (Nat.le_of_ble_eq_true rfl) (Nat.le_of_ble_eq_true rfl) (by simp [mj_recv, jS_a G hs2]) rfl (jx_commonsA (D := D) (V := W2) G (A := 10 ^ 18 * 13) kq_fit19 (to := 4) (a := 5) (b := 6) (by decide) (by decide) (by decide) (by decide) (by decide) (by decide) (by decide) (by decide) (by decide) (fun e he => by rw [b3 _ (by omega) (by omega), a1 e he]; have := hA e he; omega) b2 hs2) (fun v' h3 hq' => ?_) (fun i h' hq' => by obtain ⟨_, _, _, _, _, h⟩ := hq'; cases h)
  obtain ⟨W3, _, hs3, c1, ⟨c2, cX⟩, hq'⟩ := hq'
  cases hq'
  have b5 : jpo W2 6 = drv (jpo V 0) := funext fun e => by
    by_cases he : e < 13
    · rw [jpo_at he, b1 _ (by omega), jfl_at _ 6 _ he]
      show (if e < 12 then W1 (0 * 13 + e + 1) * ((e + 1 : Nat) : Int) else 0) = jpo V 0 (e + 1) * ((e + 1 : Nat) : Int)
      by_cases h12 : e < 12
      · rw [if_pos h12, a2 _ (by omega), jpo_at (by omega)]
        rfl
      · rw [if_neg h12, jpo_lt V 0 (e + 1) (by omega), Int.zero_mul]
    · show _ = jpo V 0 (e + 1) * ((e + 1 : Nat) : Int)
      rw [jpo_lt W2 6 e (by omega), jpo_lt V 0 (e + 1) (by omega), Int.zero_mul]
  rw [b4, b5] at cX
  obtain ⟨x1, x2, x3, x4, x5⟩ := cX.fin
  have c3 : jpo V 0 ≠ pz_0 → pz_prim (jpo W3 4) ∧ qdv (jpo W3 4) (jpo V 0) := fun q => ⟨x5 (Or.inl q), x2⟩
  obtain ⟨c4, c, T, N, c5, cN, c6⟩ := c3 hne
  iterate 3 refine mj_T.pl rfl rfl rfl rfl ?_
  refine mj_T.call (ins := .invokevirtual 124) rfl rfl (Nat.le_of_ble_eq_true rfl) (Nat.le_of_ble_eq_true rfl) (by simp [mj_recv, jS_a G hs3]) rfl (jp_copiesPoly (D := D + 6) G (p := 5) (q := 0) (by decide) (by decide) (by decide) hs3) (fun v' h4 hq' => ?_) (fun i h' hq' => by obtain ⟨_, _, h⟩ := hq'; cases h)
  obtain ⟨_, hs4, hq'⟩ := hq'
  cases hq'
  have d1 : ∀ e, e < 13 → jfl W3 5 (fun e => W3 (0 * 13 + e)) 13 (5 * 13 + e) = V (0 * 13 + e) := fun e he => by
    rw [jfl_at _ 5 _ he, c1 _ (by omega) (by omega) (by omega) (by omega) (by omega) (by omega) (by omega) (by omega) (by omega) (by omega), b3 _ (by omega) (by omega), a2 _ (by omega)]
  have d2 : ∀ s, (s < 65 ∨ 78 ≤ s) → jfl W3 5 (fun e => W3 (0 * 13 + e)) 13 s = W3 s := fun s hc => jfl_off _ 5 _ (by omega)
  generalize jfl W3 5 (fun e => W3 (0 * 13 + e)) 13 = W4 at hs4 d1 d2
  iterate 2 refine mj_T.pl rfl rfl rfl rfl ?_
  refine mj_T.call (ins := .invokevirtual 142) rfl rfl (Nat.le_of_ble_eq_true rfl) (Nat.le_of_ble_eq_true rfl) (by simp [mj_recv, jS_a G hs4]) rfl (jx_makesPrimitive (D := D + 1) G (p := 5) (by decide) hs4) (fun v' h5 hq' => ?_) (fun i h' hq' => by obtain ⟨_, _, _, _, _, _, h⟩ := hq'; cases h)
  obtain ⟨W5, _, hs5, ⟨f, hf, e1⟩, e2, hL5, hq'⟩ := hq'
  cases hq'
  have e3 := jcm_prim (V := W4) (W := W5) (p := 5) hf e1
  rw [jpo_eq (V := V) (W := W4) (p := 0) (q := 5) d1] at e3
  have e4 : jpo W5 4 = jpo W3 4 := jpo_eq fun e he => by rw [e2 _ (by omega) (by omega) (by omega) (by omega) (by omega) (by omega), d2 _ (by omega)]
  have e5 : ∀ i, (jpo W5 5 i).natAbs ≤ 10 ^ 18 := kq_rel_le e3 (jpo_le hA)
  obtain ⟨z, z1, z2, z3⟩ : ∃ z : Int, z ≠ 0 ∧ jpo V 0 = pz_sc z (jpo W5 5) ∧ pz_prim (jpo W5 5) := by
    rcases e3 with ⟨k, _⟩ | k
    · exact absurd k hne
    · exact k
  have e6 : pz_sc (c * z) (jpo W5 5) = pz_mul T (jpo W5 4) := by
    rw [e4, ← c6, z2, pz_sc_sc]
  obtain ⟨S, s1, s2⟩ := pz_exact (fun k => by
    rcases Int.mul_eq_zero.mp k with k | k
    · exact c5 k
    · exact z1 k) (by rw [e4]; exact c4) e6
  have g1 : 1 ≤ jdg W5 4 13 := jpo_ne (by rw [e4]; exact kq_prim_ne c4)
  have g2 := jdg_le W5 4 13
  have g3 := jdg_le W5 5 13
  have g4 := jdg_ne W5 4 13 g1
  have g5 : ∀ e, e < 13 → (W5 (4 * 13 + e)).natAbs ≤ kq_F (10 ^ 18 * 13) 24 := fun e he => by
    have := c2 e
    rw [← e4, jpo_at he] at this
    exact this
  have g6 : ∀ e, e < 13 → (W5 (5 * 13 + e)).natAbs ≤ 10 ^ 18 := fun e he => by
    have := e5 e
    rw [jpo_at he] at this
    exact this
  have g7 : jpo W5 5 ≠ pz_0 := kq_prim_ne z3
  obtain ⟨be, i1, i2, i3⟩ : ∃ be : Nat, 1 ≤ be ∧ (∀ e, e < 13 → (W5 (4 * 13 + e)).natAbs ≤ be) ∧ 10 ^ 18 * (2 * be) ^ (jdg W5 5 13 - (jdg W5 4 13 - 1)) < jB ^ 698 := by
    by_cases k : jdg W5 4 13 = 1
    · refine ⟨1, Nat.le_refl _, fun e he => ?_, Nat.lt_of_le_of_lt (Nat.mul_le_mul_left _ (Nat.pow_le_pow_right (by decide) (by omega : _ ≤ 13))) kq_room1⟩
      have := kq_prim_const (u := jpo W5 4) (by rw [e4]; exact c4) (fun i hi => by
        by_cases hi2 : i < 13
        · rw [jpo_at hi2]
          exact jdg_zero W5 4 13 i (by omega) hi2
        · exact jpo_lt W5 4 i (by omega)) e
      rw [jpo_at he] at this
      exact this
    · refine ⟨kq_F (10 ^ 18 * 13) 24, kq_one24, g5, Nat.lt_of_le_of_lt (Nat.mul_le_mul_left _ (Nat.pow_le_pow_right ?_ (by omega : _ ≤ 12))) kq_room24⟩
      have := kq_one24
      omega
  iterate 4 refine mj_T.pl rfl rfl rfl rfl ?_
  refine mj_T.call (ins := .invokevirtual 155) rfl rfl (Nat.le_of_ble_eq_true rfl) (Nat.le_of_ble_eq_true rfl) (by simp [mj_recv, jS_a G hs5]) rfl (jp_dividesExactly (D := D + 3) (V := W5) G (tq := 8) (a := 5) (b := 4) (db := jdg W5 4 13 - 1) (lc := W5 (4 * 13 + (jdg W5 4 13 - 1))) (al := 10 ^ 18) (be := be) (by decide) (by decide) (by decide) (by decide) (by decide) (by decide) (by decide) (by decide) (by omega) rfl g6 i2 i1 i3 hs5) (fun v' h6 hq' => ?_) (fun i h' hq' => by obtain ⟨_, _, _, _, ⟨_, h⟩ | ⟨_, h⟩⟩ := hq' <;> cases h)
  obtain ⟨W6, _, hs6, f1, ⟨f2, hq'⟩ | ⟨f2, hq'⟩⟩ := hq'
  · cases hq'
    have t1 : ∀ i, (jpo W6 8 i).natAbs ≤ kq_S := pz_factor (jpo_lt W5 5) (jpo_lt W6 8) (jpo_lt W5 4) f2 (by
      by_cases k : ∃ i, jpo W5 5 i ≠ 0
      · exact k
      · exact absurd (funext fun i => Classical.byContradiction fun q => k ⟨i, q⟩) g7) e5
    have t2 : jpo W6 8 ≠ pz_0 := fun k => g7 (by rw [f2, k, pz_mul_0L])
    iterate 3 refine mj_T.pl rfl rfl rfl rfl ?_
    refine mj_T.call (ins := .invokevirtual 142) rfl rfl (Nat.le_of_ble_eq_true rfl) (Nat.le_of_ble_eq_true rfl) (by simp [mj_recv, jS_a G hs6]) rfl (jx_makesPrimitive (D := D + 1) G (p := 8) (by decide) hs6) (fun v' h7 hq' => ?_) (fun i h' hq' => by obtain ⟨_, _, _, _, _, _, h⟩ := hq'; cases h)
    obtain ⟨W7, _, hs7, ⟨f', hf', u1⟩, u2, hL7, hq'⟩ := hq'
    cases hq'
    obtain ⟨dg, dg1, hGP⟩ := GP_of hsm (fun i hi => jpo_lt V 0 i hi) hne (jpo_lt W3 4) x1 x2 x3 x4 c4
    have e9 : jpo W5 5 = ppr (jpo V 0) := funext fun e => by
      have hv : ∀ e, e < 13 → W4 (5 * 13 + e) = jpo V 0 e := fun e he => (d1 e he).trans (jpo_at he).symm
      by_cases q : e < 13
      · rw [jpo_at q]
        exact ppr_of (W := fun e => W5 (5 * 13 + e)) hf (fun e he => by
          show W5 (5 * 13 + e) = _
          rw [e1 e he, hv e he, jgk_cgd hv]) (fun d hd h1 h2 => hL5 d hd h1 h2) e q
      · rw [jpo_lt W5 5 e (by omega)]
        exact (if_neg q).symm
    have hpp : pz_prim (ppr (jpo V 0)) := by
      rw [← e9]
      exact z3
    rw [e9, e4] at f2
    have hS0 : jpo W6 8 ≠ pz_0 := t2
    obtain ⟨ds, k1, k2, k3⟩ := kq_deg 13 _ (jpo_lt W6 8) hS0
    have pS := pz_prim_fac hpp f2
    have oS := posP_fac (by rw [← e9]; exact posP_of hL5) k2 k3 (fun i hi => hGP.2.2.1 i (by omega)) hGP.2.1 f2
    have u5 := pm_same pS oS hf' u1 hL7
    refine mj_T.ret rfl rfl rfl ⟨W7, h7, hs7, fun s x1 x2 x3 x4 x5 x6 x7 x8 => ?_, ?_, rfl⟩
    · rw [u2 s (by omega) x3 x4 x6 x7 x8, f1 s (by omega) (by omega) x3 x4 x5, e2 s (by omega) x3 x4 x6 x7 x8, d2 s (by omega), c1 s (by omega) (by omega) (by omega) (by omega) x3 x4 x5 x6 x7 x8, b3 s (by omega) x3, a2 s (by omega)]
    · rw [u5]
      exact smR_of hpp (jpo_lt W6 8) hGP f2
  · refine absurd s2 (f2 S N (fun i hi => ?_))
    have k1 : c * z * S i = 0 := by rw [← cN i hi, s1]; rfl
    rcases Int.mul_eq_zero.mp k1 with k | k
    · rcases Int.mul_eq_zero.mp k with k | k
      · exact absurd k c5
      · exact absurd k z1
    · exact k
end JXS
section RSI
variable {h : mj_H} {tm er : Int} {T : Nat → Int} {N0 : Nat → Int} {u0 : Nat} {H : Nat → Nat → Int}
theorem rx_simple {x y : Int} (hx : jr x) (hy : jr y) (hI : jIx N0 u0 H tm er T h) : mj_Ok 40 240 [.ref 0, .int (jn x), .int (jn y)] h (fun r => ∃ S : pz_P, (((0 ≤ x ∧ x ≤ 5) ∧ (0 ≤ y ∧ y ≤ 5)) → 0 < fdg (rwN N0 y) 13 → smR (rwN N0 y) S) ∧ RP tm er T N0 u0 H (((0 ≤ x ∧ x ≤ 5) ∧ (0 ≤ y ∧ y ≤ 5)) ∧ 0 < fdg (rwN N0 y) 13) S x r) := by
  refine mj_Ok.of (M := mj_m240) rfl rfl rfl ?_
  obtain ⟨S, N, B, X, V, hs, K⟩ := hI
  iterate 2 refine mj_T.pl rfl rfl rfl rfl ?_
  refine rT_put (v := 0) hs rfl rfl (by decide) rfl (fun g22 hs22 => ?_)
  have K22 := K.put (k := 3) (v := 0) ⟨by decide, by decide⟩ (by decide) (by decide) (by decide) (by decide) (by decide)
  generalize jvu S 3 0 = S22 at hs22 K22
  iterate 3 refine mj_T.pl rfl rfl rfl rfl ?_
  refine mj_T.call (ins := .invokestatic 210) rfl rfl (Nat.le_of_ble_eq_true rfl) (Nat.le_of_ble_eq_true rfl) rfl rfl (mj_Ok.up (by decide) (rx_areRegisters (D := 0) hx hy hy)) (fun v' h' hq' => ?_) (fun i h' hq' => by rcases hq' with ⟨_, _, h⟩ | ⟨_, h⟩ <;> cases h)
  rcases hq' with ⟨⟨x1, x2⟩, ⟨y3, y4, y5, y6⟩, hq'⟩ | ⟨hno, hq'⟩
  case' inr =>
    cases hq'
    refine mj_T.if0 (a := 0) rfl ⟨by decide, by decide⟩ (fun hc => ?_) (fun hc => ?_)
    · simp [jc] at hc
    iterate 2 refine mj_T.pl rfl rfl rfl rfl ?_
    refine mj_T.call (ins := .invokevirtual 198) rfl rfl (Nat.le_of_ble_eq_true rfl) (Nat.le_of_ble_eq_true rfl) (by simp [mj_recv, rS_f hs22]) rfl (mj_Ok.up (by decide) (rp_fails (D := 0) (c := 1) hs22)) (fun v' g23 hq' => ?_) (fun i h' hq' => by obtain ⟨_, _, h⟩ := hq'; cases h)
    obtain ⟨_, hs23, hq'⟩ := hq'
    cases hq'
    exact mj_T.ret rfl rfl rfl ⟨pz_0, fun q => absurd q (fun q => hno ⟨q.1, q.2, q.2⟩), Or.inr ⟨fun q => hno ⟨q.1.1, q.1.2, q.1.2⟩, 0, g23, ⟨by decide, by decide⟩, rfl, ⟨_, N, B, X, V, hs23, K22.put ⟨by decide, by decide⟩ (by decide) (by decide) (by decide) (by decide) (by decide)⟩⟩⟩
  cases hq'
  refine mj_T.if0 (a := 1) rfl ⟨by decide, by decide⟩ (fun hc => ?_) (fun hc => ?_)
  rotate_left
  · simp [jc] at hc
  obtain ⟨x, rfl⟩ := Int.eq_ofNat_of_zero_le x1
  obtain ⟨y, rfl⟩ := Int.eq_ofNat_of_zero_le y3
  iterate 2 refine mj_T.pl rfl rfl rfl rfl ?_
  refine mj_T.call (ins := .invokevirtual 232) rfl rfl (Nat.le_of_ble_eq_true rfl) (Nat.le_of_ble_eq_true rfl) (by simp [mj_recv, rS_f hs22]) rfl (mj_Ok.up (by decide) (rp_isZero (D := 0) (r := y) (by omega) K22.nR hs22)) (fun v' h' hq' => ?_) (fun i h' hq' => by rcases hq' with ⟨_, h⟩ | ⟨_, h⟩ <;> cases h)
  have hfu : fdg (rwN N0 (y : Int)) 13 = jdg N y 13 := by
    rw [← fdg_jpo]
    exact (fdg_congr 13 fun i hi => by
      rw [jpo_at hi]
      exact rwN_at K22.2.1 (by omega) hi).symm
  rcases hq' with ⟨z24, hq'⟩ | ⟨nz24, hq'⟩
  case' inl =>
    cases hq'
    refine mj_T.if0 (a := 1) rfl ⟨by decide, by decide⟩ (fun hc => ?_) (fun hc => ?_)
    · simp [jc] at hc
    iterate 2 refine mj_T.pl rfl rfl rfl rfl ?_
    refine mj_T.call (ins := .invokevirtual 198) rfl rfl (Nat.le_of_ble_eq_true rfl) (Nat.le_of_ble_eq_true rfl) (by simp [mj_recv, rS_f hs22]) rfl (mj_Ok.up (by decide) (rp_fails (D := 0) (c := 2) hs22)) (fun v' g25 hq' => ?_) (fun i h' hq' => by obtain ⟨_, _, h⟩ := hq'; cases h)
    obtain ⟨_, hs25, hq'⟩ := hq'
    cases hq'
    exact mj_T.ret rfl rfl rfl ⟨pz_0, fun _ q => absurd q (by omega), Or.inr ⟨fun q => by have := q.2; omega, 0, g25, ⟨by decide, by decide⟩, rfl, ⟨_, N, B, X, V, hs25, K22.put ⟨by decide, by decide⟩ (by decide) (by decide) (by decide) (by decide) (by decide)⟩⟩⟩
  cases hq'
  refine mj_T.if0 (a := 0) rfl ⟨by decide, by decide⟩ (fun hc => ?_) (fun hc => ?_)
  rotate_left
  · simp [jc] at hc
  iterate 3 refine mj_T.pl rfl rfl rfl rfl ?_
  refine mj_T.call (ins := .invokevirtual 213) rfl rfl (Nat.le_of_ble_eq_true rfl) (Nat.le_of_ble_eq_true rfl) (by simp [mj_recv, rS_f hs22]) rfl (mj_Ok.up (by decide) (rp_loads (D := 0) (p := 0) (r := y) (by decide) (by omega) K22.nR hs22)) (fun v' g26 hq' => ?_) (fun i h' hq' => by obtain ⟨_, _, h⟩ := hq'; cases h)
  obtain ⟨_, hs26, hq'⟩ := hq'
  cases hq'
  have a26 : ∀ e, e < 13 → jfl V 0 (fun e => N (y * 13 + e)) 13 (0 * 13 + e) = N (y * 13 + e) := fun e he => jfl_at _ _ _ he
  have b26 : ∀ s, (s < 0 * 13 ∨ 0 * 13 + 13 ≤ s) → jfl V 0 (fun e => N (y * 13 + e)) 13 s = V s := fun s hc => jfl_off _ _ _ hc
  generalize jfl V 0 (fun e => N (y * 13 + e)) 13 = W26 at hs26 a26 b26
  have eA : jpo W26 0 = rwN N0 (y : Int) := funext fun e => by
    by_cases q : e < 13
    · rw [jpo_at q, a26 e q]
      exact rwN_at K22.2.1 (by omega) q
    · rw [jpo_lt W26 0 e (by omega), rwN_z N0 _ e (by omega)]
  have hsm : sml (jpo W26 0) := fun j hj => by
    rw [jpo_at hj, a26 j hj]
    have := K22.1.1.1 (y * 13 + j) (by omega)
    omega
  have c1 : ∀ e, e < 13 → (W26 (0 * 13 + e)).natAbs ≤ 10 ^ 18 := fun e he => by
    rw [a26 e he]
    exact K22.sh (r := y) (by omega) he
  have c2 : jpo W26 0 ≠ pz_0 := jpo_ne_of (by rw [jdg_congr 13 a26]; exact nz24)
  iterate 3 refine mj_T.pl rfl rfl rfl rfl ?_
  refine mj_T.call (ins := .invokevirtual 235) rfl rfl (Nat.le_of_ble_eq_true rfl) (Nat.le_of_ble_eq_true rfl) (by simp [mj_recv, rS_f hs26]) rfl (mj_Ok.up (by decide) (jx_simplifies (D := 0) (rG S22 N B T X) hsm c2 c1 hs26)) (fun v' g27 hq' => ?_) (fun i h' hq' => by obtain ⟨_, _, _, _, _, h⟩ := hq'; cases h)
  obtain ⟨W27, _, hs27, _, hSm, hq'⟩ := hq'
  cases hq'
  iterate 4 refine mj_T.pl rfl rfl rfl rfl ?_
  refine mj_T.call (ins := .invokevirtual 219) rfl rfl (Nat.le_of_ble_eq_true rfl) (Nat.le_of_ble_eq_true rfl) (by simp [mj_recv, rS_f hs27]) rfl (mj_Ok.up (by decide) (rx_puts (D := 0) (r := x) (p := 8) (c := 3) (by omega) (by decide) ⟨by decide, by decide⟩ K22 hs27)) (fun v' h' hq' => ?_) (fun i h' hq' => by rcases hq' with ⟨_, _, _, _, h, _⟩ | ⟨_, _, _, _, h, _⟩ <;> cases h)
  rw [eA] at hSm
  have hres : ∀ j, j < 13 → (fun e => W27 (8 * 13 + e)) j = jpo W27 8 j := fun j hj => (jpo_at hj).symm
  have hR : ((0 ≤ (x : Int) ∧ (x : Int) ≤ 5) ∧ (0 ≤ (y : Int) ∧ (y : Int) ≤ 5)) := ⟨⟨by omega, by omega⟩, ⟨by omega, by omega⟩⟩
  rcases hq' with ⟨hs9, z9, h9, hz9, e9, hI9⟩ | ⟨hs9, z9, h9, hz9, e9, hI9⟩
  · cases e9
    exact mj_T.ret rfl rfl rfl ⟨jpo W27 8, fun _ _ => hSm, Or.inl ⟨⟨hR, by omega⟩, Or.inl ⟨⟨sml_cg hres hs9, jpo_lt W27 8⟩, _, hres, z9, _, hz9, rfl, hI9⟩⟩⟩
  · cases e9
    exact mj_T.ret rfl rfl rfl ⟨jpo W27 8, fun _ _ => hSm, Or.inl ⟨⟨hR, by omega⟩, Or.inr ⟨fun q => hs9 (sml_cg (fun j hj => (hres j hj).symm) q.1), z9, _, hz9, rfl, hI9⟩⟩⟩
end RSI
/-! The reference, exactly: residue. -/
theorem prm_of {x : Nat} (h1 : 2 ≤ x) (h2 : x ≤ 97) (h : ∀ e : Nat, 2 ≤ e → e < x → x % e ≠ 0) : prm (x : Int) := ⟨⟨by omega, by omega⟩, fun e e1 e2 => by
  show (x : Int) = (e : Int) ∨ ((x % e : Nat) : Int) ≠ 0
  rcases Nat.lt_trichotomy e x with c | c | c
  · have := h e e1 c
    exact Or.inr (by omega)
  · exact Or.inl (by omega)
  · rw [Nat.mod_eq_of_lt c]
    exact Or.inr (by omega)⟩
theorem prm_not {x k : Nat} (h2 : x ≤ 97) (k2 : 2 ≤ k) (k3 : k < x) (h : x % k = 0) : ¬ prm (x : Int) := fun q => by
  have e := Nat.div_add_mod x k
  rw [h, Nat.add_zero] at e
  have hlt : x / k < x := Nat.div_lt_self (by omega) (by omega)
  have key : ∀ e : Nat, 2 ≤ e → e < 10 → e < x → x % e = 0 → False := fun e e1 e2 e3 e4 => by
    rcases q.2 e e1 e2 with r | r
    · omega
    · exact r (by show ((x % e : Nat) : Int) = 0; omega)
  obtain ⟨m, hm0⟩ : ∃ m, x / k = m := ⟨_, rfl⟩
  rw [hm0] at e hlt
  have hm : 2 ≤ m := by
    rcases Nat.lt_or_ge m 2 with c | c
    · have : m = 0 ∨ m = 1 := by omega
      rcases this with r | r
      · rw [r, Nat.mul_zero] at e
        omega
      · rw [r, Nat.mul_one] at e
        omega
    · exact c
  rcases Nat.lt_or_ge k 10 with c | c
  · exact key k k2 c k3 h
  · refine key m hm ?_ hlt ?_
    · rcases Nat.lt_or_ge m 10 with d | d
      · exact d
      · have := Nat.mul_le_mul c d
        omega
    · rw [← e]
      exact Nat.mul_mod_left k m
section RRE
variable {h : mj_H} {tm er : Int} {T : Nat → Int} {N0 : Nat → Int} {u0 : Nat} {H : Nat → Nat → Int}
theorem rx_prime_loop {D x : Nat} (hx : 2 ≤ x) (hx2 : x ≤ 97) {Q : mj_R → Prop} (q1 : prm (x : Int) → Q (.inl (some (.int (jn 1))), h)) (q0 : ¬ prm (x : Int) → Q (.inl (some (.int (jn 0))), h)) :
    ∀ (m k : Nat), k + m = x → 2 ≤ k → (∀ e : Nat, 2 ≤ e → e < k → x % e ≠ 0) → mj_T D mj_m241 14 [some (.int (jn (x : Int))), some (.int (jn 1)), some (.int (jn (k : Int)))] [] h Q := by
  intro m
  induction m with
  | zero =>
    intro k hk h2 hpre
    iterate 2 refine mj_T.pl rfl rfl rfl rfl ?_
    refine mj_T.icmp (a := (k : Int)) (b := (x : Int)) rfl ⟨by omega, by omega⟩ ⟨by omega, by omega⟩ (fun hc => ?_) (fun hc => ?_)
    · refine mj_T.pl rfl rfl rfl rfl ?_
      exact mj_T.ret rfl rfl rfl (q1 (prm_of hx hx2 (fun e e1 e2 => hpre e e1 (by omega))))
    · simp only [jc, decide_eq_false_iff_not] at hc
      omega
  | succ m ih =>
    intro k hk h2 hpre
    iterate 2 refine mj_T.pl rfl rfl rfl rfl ?_
    refine mj_T.icmp (a := (k : Int)) (b := (x : Int)) rfl ⟨by omega, by omega⟩ ⟨by omega, by omega⟩ (fun hc => ?_) (fun hc => ?_)
    · simp only [jc, decide_eq_true_eq] at hc
      omega
    refine mj_T.pl rfl rfl rfl rfl ?_
    refine mj_T.if0 (a := 1) rfl ⟨by decide, by decide⟩ (fun hc => ?_) (fun hc => ?_)
    · simp [jc] at hc
    iterate 2 refine mj_T.pl rfl rfl rfl rfl ?_
    refine mj_T.irem (a := (x : Int)) (b := (k : Int)) rfl ⟨by omega, by omega⟩ ⟨by omega, by omega⟩ (by omega) ?_
    have ht : (x : Int).tmod (k : Int) = ((x % k : Nat) : Int) := rfl
    have hl : x % k < k := Nat.mod_lt _ (by omega)
    refine mj_T.if0 (a := (x : Int).tmod (k : Int)) rfl ⟨by omega, by omega⟩ (fun hc0 => ?_) (fun hc0 => ?_)
    · have hno : ¬ prm (x : Int) := prm_not hx2 h2 (by omega) (by simp only [jc, Bool.not_eq_true', Bool.not_eq_false', decide_eq_true_eq, decide_eq_false_iff_not] at hc0; omega)
      refine mj_T.pl rfl rfl rfl rfl ?_
      refine mj_T.pl rfl rfl rfl rfl ?_
      refine mj_T.iinc (a := (k : Int)) rfl rfl ?_
      iterate 3 refine mj_T.pl rfl rfl rfl rfl ?_
      have t41 : mj_T D mj_m241 41 [some (.int (jn (x : Int))), some (.int (jn 0)), some (.int (jn ((k : Int) + 1)))] [] h Q := by
        refine mj_T.pl rfl rfl rfl rfl ?_
        exact mj_T.ret rfl rfl rfl (q0 hno)
      refine mj_T.icmp (a := (k : Int) + 1) (b := (x : Int)) rfl ⟨by omega, by omega⟩ ⟨by omega, by omega⟩ (fun hc => ?_) (fun hc => ?_)
      · exact t41
      refine mj_T.pl rfl rfl rfl rfl ?_
      refine mj_T.if0 (a := 0) rfl ⟨by decide, by decide⟩ (fun hc => ?_) (fun hc => ?_)
      · exact t41
      · simp [jc] at hc
    · iterate 3 refine mj_T.pl rfl rfl rfl rfl ?_
      refine mj_T.iinc (a := (k : Int)) rfl rfl ?_
      refine mj_T.pl rfl rfl rfl rfl ?_
      exact ih (k + 1) (by omega) (by omega) (fun e e1 e2 => by
        by_cases q : e = k
        · subst q
          simp only [jc, Bool.not_eq_true', Bool.not_eq_false', decide_eq_true_eq, decide_eq_false_iff_not] at hc0
          omega
        · exact hpre e e1 (by omega))
theorem rx_isPrime {x : Int} (hx : jr x) : mj_Ok 39 241 [.int (jn x)] h (fun r => (prm x ∧ r = (.inl (some (.int (jn 1))), h)) ∨ (¬ prm x ∧ r = (.inl (some (.int (jn 0))), h))) := by
  refine mj_Ok.of (M := mj_m241) rfl rfl rfl ?_
  refine mj_T.pl rfl rfl rfl rfl ?_
  refine mj_T.i2l rfl hx ?_
  iterate 2 refine mj_T.pl rfl rfl rfl rfl ?_
  refine mj_T.call (ins := .invokestatic 177) rfl rfl (Nat.le_of_ble_eq_true rfl) (Nat.le_of_ble_eq_true rfl) rfl rfl (mj_Ok.up (by decide) (rp_in (D := 0) (v := x) (lo := 2) (hi := 97) ⟨by have := hx.1; omega, by have := hx.2; omega⟩ ⟨by decide, by decide⟩ ⟨by decide, by decide⟩)) (fun v' h' hq' => ?_) (fun i h' hq' => by rcases hq' with ⟨_, _, h⟩ | ⟨_, h⟩ <;> cases h)
  rcases hq' with ⟨c1, c2, hq'⟩ | ⟨cn, hq'⟩
  · cases hq'
    obtain ⟨x, rfl⟩ := Int.eq_ofNat_of_zero_le (show 0 ≤ x by omega)
    iterate 3 refine mj_T.pl rfl rfl rfl rfl ?_
    exact rx_prime_loop (D := 38) (x := x) (by omega) (by omega) (fun q => Or.inl ⟨q, rfl⟩) (fun q => Or.inr ⟨q, rfl⟩) (x - 2) 2 (by omega) (by decide) (fun e e1 e2 => absurd e1 (by omega))
  · cases hq'
    iterate 5 refine mj_T.pl rfl rfl rfl rfl ?_
    have t41 : mj_T 38 mj_m241 41 [some (.int (jn x)), some (.int (jn 0)), some (.int (jn 2))] [] h (fun r => (prm x ∧ r = (.inl (some (.int (jn 1))), h)) ∨ (¬ prm x ∧ r = (.inl (some (.int (jn 0))), h))) := by
      refine mj_T.pl rfl rfl rfl rfl ?_
      exact mj_T.ret rfl rfl rfl (Or.inr ⟨fun q => by have := q.1; omega, rfl⟩)
    refine mj_T.icmp (a := 2) (b := x) rfl ⟨by decide, by decide⟩ hx (fun hc => ?_) (fun hc => ?_)
    · exact t41
    refine mj_T.pl rfl rfl rfl rfl ?_
    refine mj_T.if0 (a := 0) rfl ⟨by decide, by decide⟩ (fun hc => ?_) (fun hc => ?_)
    · exact t41
    · simp [jc] at hc
theorem rx_rest {S N B X V : Nat → Int} {D r e x : Nat} (hr : r ≤ 5) (he : e < 13) (hx : 2 ≤ x) (hx2 : x ≤ 97) (hN : jR (N (r * 13 + e))) (hs : rS S N B T X V h) : mj_Ok (D + 1) 242 [.ref 0, .int (jn (r : Nat)), .int (jn (e : Nat)), .int (jn (x : Nat))] h (fun z => z = (.inl (some (.long (jl (N (r * 13 + e) % (x : Int))))), h)) := by
  refine mj_Ok.of (M := mj_m242) rfl rfl rfl ?_
  refine mj_T.pl rfl rfl rfl rfl ?_
  refine rT_get hs rfl rfl ?_
  iterate 2 refine mj_T.pl rfl rfl rfl rfl ?_
  refine mj_T.imul (a := (r : Int)) (b := 13) rfl ?_
  refine mj_T.pl rfl rfl rfl rfl ?_
  refine mj_T.iadd rfl ?_
  rw [show (r : Int) * 13 + (e : Int) = ((r * 13 + e : Nat) : Int) by omega]
  refine rT_ldN hs rfl ⟨by omega, by omega⟩ ?_
  rw [Int.toNat_natCast]
  refine mj_T.pl rfl rfl rfl rfl ?_
  refine mj_T.i2l rfl ⟨by omega, by omega⟩ ?_
  have t1 := Int.tmod_lt_of_pos (N (r * 13 + e)) (show (0 : Int) < (x : Int) by omega)
  have t2 := Int.lt_tmod_of_pos (N (r * 13 + e)) (show (0 : Int) < (x : Int) by omega)
  refine mj_T.lrem (a := N (r * 13 + e)) (b := (x : Int)) rfl hN ⟨by omega, by omega⟩ (by omega) ?_
  iterate 3 refine mj_T.pl rfl rfl rfl rfl ?_
  refine mj_T.lif (a := (N (r * 13 + e)).tmod (x : Int)) (b := 0) rfl rfl ⟨by omega, by omega⟩ ⟨by decide, by decide⟩ (fun hc => ?_) (fun hc => ?_)
  · simp only [jc, decide_eq_true_eq] at hc
    refine mj_T.pl rfl rfl rfl rfl ?_
    exact mj_T.ret rfl rfl rfl (by rw [emod_tmod _ _ (show (0 : Int) < (x : Int) by omega), if_neg (by omega)])
  · simp only [jc, decide_eq_false_iff_not] at hc
    iterate 2 refine mj_T.pl rfl rfl rfl rfl ?_
    refine mj_T.i2l rfl ⟨by omega, by omega⟩ ?_
    refine mj_T.ladd rfl ?_
    refine mj_T.pl rfl rfl rfl rfl ?_
    exact mj_T.ret rfl rfl rfl (by rw [emod_tmod _ _ (show (0 : Int) < (x : Int) by omega), if_pos (by omega)])
theorem rx_res_loop {S B X V : Nat → Int} {x y z : Nat} (hx : x ≤ 5) (hy : y ≤ 5) (hz : 2 ≤ z) (hz2 : z ≤ 97) :
    ∀ (d k : Nat) (N : Nat → Int) (h : mj_H), k + d = 13 → rS S N B T X V h → jKx (jfl N0 x (fun e => rwN N0 (y : Int) e % (z : Int)) k) u0 H tm er S N B T → mj_T 39 mj_m243 40 [some (.ref 0), some (.int (jn (x : Int))), some (.int (jn (y : Int))), some (.int (jn (z : Int))), some (.int (jn (k : Int)))] [] h (rIx (jfl N0 x (fun e => rwN N0 (y : Int) e % (z : Int)) 13) u0 H tm er T) := by
  intro d
  induction d with
  | zero =>
    intro k N h hk hs K
    have hk : k = 13 := by omega
    subst hk
    iterate 2 refine mj_T.pl rfl rfl rfl rfl ?_
    refine mj_T.icmp (a := ((13 : Nat) : Int)) (b := 13) rfl ⟨by decide, by decide⟩ ⟨by decide, by decide⟩ (fun hc => ?_) (fun hc => ?_)
    · have hd := jdg_le N x 13
      iterate 2 refine mj_T.pl rfl rfl rfl rfl ?_
      refine mj_T.call (ins := .invokevirtual 185) rfl rfl (Nat.le_of_ble_eq_true rfl) (Nat.le_of_ble_eq_true rfl) (by simp [mj_recv, rS_f hs]) rfl (mj_Ok.up (by decide) (rp_degreeIn (D := 0) (r := x) hx K.nR hs)) (fun v' h' hq' => ?_) (fun i h' hq' => by cases hq')
      cases hq'
      exact mj_T.ret rfl rfl rfl ⟨_, h, ⟨by omega, by omega⟩, rfl, ⟨S, N, B, X, V, hs, K⟩⟩
    · simp [jc] at hc
  | succ d ih =>
    intro k N h hk hs K
    iterate 2 refine mj_T.pl rfl rfl rfl rfl ?_
    refine mj_T.icmp (a := (k : Int)) (b := 13) rfl ⟨by omega, by omega⟩ ⟨by decide, by decide⟩ (fun hc => ?_) (fun hc => ?_)
    · simp only [jc, decide_eq_true_eq] at hc
      omega
    refine mj_T.pl rfl rfl rfl rfl ?_
    refine rT_get hs rfl rfl ?_
    iterate 2 refine mj_T.pl rfl rfl rfl rfl ?_
    refine mj_T.imul (a := (x : Int)) (b := 13) rfl ?_
    refine mj_T.pl rfl rfl rfl rfl ?_
    refine mj_T.iadd rfl ?_
    rw [show (x : Int) * 13 + (k : Int) = ((x * 13 + k : Nat) : Int) by omega]
    iterate 4 refine mj_T.pl rfl rfl rfl rfl ?_
    refine mj_T.call (ins := .invokevirtual 243) rfl rfl (Nat.le_of_ble_eq_true rfl) (Nat.le_of_ble_eq_true rfl) (by simp [mj_recv, rS_f hs]) rfl (mj_Ok.up (by decide) (rx_rest (D := 0) (r := y) (e := k) (x := z) hy (by omega) hz hz2 (K.nR _ (by omega)) hs)) (fun v' h' hq' => ?_) (fun i h' hq' => by cases hq')
    have hv0 : N (y * 13 + k) = rwN N0 (y : Int) k := by
      rw [K.2.1 _ (by omega), jfl_off _ _ _ (by omega)]
      exact rwN_at (fun j _ => rfl) hy (by omega)
    rw [hv0] at hq'
    have hv : 0 ≤ rwN N0 (y : Int) k % (z : Int) ∧ rwN N0 (y : Int) k % (z : Int) < (z : Int) := ⟨Int.emod_nonneg _ (by omega), Int.emod_lt_of_pos _ (by omega)⟩
    cases hq'
    refine rT_stN hs rfl ⟨by omega, by omega⟩ (fun h1 hs1 => ?_)
    rw [Int.toNat_natCast] at hs1
    refine mj_T.iinc (a := (k : Int)) rfl rfl ?_
    refine mj_T.pl rfl rfl rfl rfl ?_
    exact ih (k + 1) _ h1 (by omega) hs1 (K.row (gN_put K.1.1 (by omega) ⟨by omega, by omega⟩) (fun j hj => by
      rw [jfl_succ]
      unfold jvu
      split
      · rfl
      · exact K.2.1 j hj))
theorem rx_residue {x y z : Int} (hx : jr x) (hy : jr y) (hz : jr z) (hI : jIx N0 u0 H tm er T h) : mj_Ok 40 243 [.ref 0, .int (jn x), .int (jn y), .int (jn z)] h (fun r => ((((0 ≤ x ∧ x ≤ 5) ∧ (0 ≤ y ∧ y ≤ 5)) ∧ prm z) ∧ rIx (jfl N0 x.toNat (fun e => rwN N0 y e % z) 13) (upu u0) (pushH N0 H) tm er T r) ∨ (¬ (((0 ≤ x ∧ x ≤ 5) ∧ (0 ≤ y ∧ y ≤ 5)) ∧ prm z) ∧ rIx N0 u0 H tm er T r)) := by
  refine mj_Ok.of (M := mj_m243) rfl rfl rfl ?_
  obtain ⟨S, N, B, X, V, hs, K⟩ := hI
  iterate 2 refine mj_T.pl rfl rfl rfl rfl ?_
  refine rT_put (v := 0) hs rfl rfl (by decide) rfl (fun g1 hs1 => ?_)
  have K1 := K.put (k := 3) (v := 0) ⟨by decide, by decide⟩ (by decide) (by decide) (by decide) (by decide) (by decide)
  generalize jvu S 3 0 = S1 at hs1 K1
  iterate 3 refine mj_T.pl rfl rfl rfl rfl ?_
  refine mj_T.call (ins := .invokestatic 210) rfl rfl (Nat.le_of_ble_eq_true rfl) (Nat.le_of_ble_eq_true rfl) rfl rfl (mj_Ok.up (by decide) (rx_areRegisters (D := 0) hx hy hy)) (fun v' h' hq' => ?_) (fun i h' hq' => by rcases hq' with ⟨_, _, h⟩ | ⟨_, h⟩ <;> cases h)
  rcases hq' with ⟨⟨x1, x2⟩, ⟨y3, y4, y5, y6⟩, hq'⟩ | ⟨hno, hq'⟩
  case' inr =>
    cases hq'
    refine mj_T.if0 (a := 0) rfl ⟨by decide, by decide⟩ (fun hc => ?_) (fun hc => ?_)
    · simp [jc] at hc
    iterate 2 refine mj_T.pl rfl rfl rfl rfl ?_
    refine mj_T.call (ins := .invokevirtual 198) rfl rfl (Nat.le_of_ble_eq_true rfl) (Nat.le_of_ble_eq_true rfl) (by simp [mj_recv, rS_f hs1]) rfl (mj_Ok.up (by decide) (rp_fails (D := 0) (c := 1) hs1)) (fun v' g2 hq' => ?_) (fun i h' hq' => by obtain ⟨_, _, h⟩ := hq'; cases h)
    obtain ⟨_, hs2, hq'⟩ := hq'
    cases hq'
    exact mj_T.ret rfl rfl rfl (Or.inr ⟨fun q => hno ⟨q.1.1, q.1.2, q.1.2⟩, 0, g2, ⟨by decide, by decide⟩, rfl, ⟨_, N, B, X, V, hs2, K1.put ⟨by decide, by decide⟩ (by decide) (by decide) (by decide) (by decide) (by decide)⟩⟩)
  cases hq'
  refine mj_T.if0 (a := 1) rfl ⟨by decide, by decide⟩ (fun hc => ?_) (fun hc => ?_)
  rotate_left
  · simp [jc] at hc
  obtain ⟨x, rfl⟩ := Int.eq_ofNat_of_zero_le x1
  obtain ⟨y, rfl⟩ := Int.eq_ofNat_of_zero_le y3
  refine mj_T.pl rfl rfl rfl rfl ?_
  refine mj_T.call (ins := .invokestatic 240) rfl rfl (Nat.le_of_ble_eq_true rfl) (Nat.le_of_ble_eq_true rfl) rfl rfl (mj_Ok.up (by decide) (rx_isPrime hz)) (fun v' h' hq' => ?_) (fun i h' hq' => by rcases hq' with ⟨_, h⟩ | ⟨_, h⟩ <;> cases h)
  rcases hq' with ⟨zp, hq'⟩ | ⟨hno, hq'⟩
  case' inr =>
    cases hq'
    refine mj_T.if0 (a := 0) rfl ⟨by decide, by decide⟩ (fun hc => ?_) (fun hc => ?_)
    · simp [jc] at hc
    iterate 2 refine mj_T.pl rfl rfl rfl rfl ?_
    refine mj_T.call (ins := .invokevirtual 198) rfl rfl (Nat.le_of_ble_eq_true rfl) (Nat.le_of_ble_eq_true rfl) (by simp [mj_recv, rS_f hs1]) rfl (mj_Ok.up (by decide) (rp_fails (D := 0) (c := 2) hs1)) (fun v' g3 hq' => ?_) (fun i h' hq' => by obtain ⟨_, _, h⟩ := hq'; cases h)
    obtain ⟨_, hs3, hq'⟩ := hq'
    cases hq'
    exact mj_T.ret rfl rfl rfl (Or.inr ⟨fun q => hno q.2, 0, g3, ⟨by decide, by decide⟩, rfl, ⟨_, N, B, X, V, hs3, K1.put ⟨by decide, by decide⟩ (by decide) (by decide) (by decide) (by decide) (by decide)⟩⟩)
  cases hq'
  refine mj_T.if0 (a := 1) rfl ⟨by decide, by decide⟩ (fun hc => ?_) (fun hc => ?_)
  rotate_left
  · simp [jc] at hc
  have z1 := zp.1.1
  have z2 := zp.1.2
  obtain ⟨z, rfl⟩ := Int.eq_ofNat_of_zero_le (show 0 ≤ z by omega)
  refine mj_T.pl rfl rfl rfl rfl ?_
  refine mj_T.call (ins := .invokevirtual 201) rfl rfl (Nat.le_of_ble_eq_true rfl) (Nat.le_of_ble_eq_true rfl) (by simp [mj_recv, rS_f hs1]) rfl (mj_Ok.up (by decide) (rx_keeps (D := 0) K1 hs1)) (fun v' g4 hq' => ?_) (fun i h' hq' => by obtain ⟨_, _, _, _, _, _, h⟩ := hq'; cases h)
  obtain ⟨S4, B4, _, hs4, K4, _, hq'⟩ := hq'
  cases hq'
  iterate 2 refine mj_T.pl rfl rfl rfl rfl ?_
  refine mj_T.to (rx_res_loop (N0 := N0) (by omega) (by omega) (by omega) (by omega) 13 0 _ _ (by omega) hs4 (by rw [jfl_zero]; exact K4)) (fun r hr => Or.inl ⟨⟨⟨⟨by omega, by omega⟩, ⟨by omega, by omega⟩⟩, zp⟩, hr⟩)
end RRE
/-! The reference, exactly: the parts of an interpolation. -/
/-- a line -/
def pz_line (p : Int) : pz_P := fun e => if e = 0 then -p else if e = 1 then 1 else 0
theorem pz_mul_line (A : pz_P) (p : Int) (e : Nat) : pz_mul A (pz_line p) e = (if e = 0 then 0 else A (e - 1)) - p * A e := by
  rw [pz_mul_comm]
  cases e with
  | zero =>
    show -p * A 0 = 0 - p * A 0
    rw [Int.neg_mul]
    omega
  | succ e =>
    show -p * A (e + 1) + pz_c e (pz_tl (pz_line p)) A = A e - p * A (e + 1)
    have h1 : pz_tl (pz_line p) = pz_one := funext fun i => by
      show (if i + 1 = 0 then -p else if i + 1 = 1 then 1 else 0) = if i = 0 then 1 else 0
      rw [if_neg (by omega)]
      by_cases q : i = 0
      · rw [if_pos (by omega), if_pos q]
      · rw [if_neg (by omega), if_neg q]
    have h2 : pz_c e pz_one A = A e := congrFun (pz_one_mul A) e
    rw [h1, h2, Int.neg_mul]
    omega
theorem it_fin {I w : Nat → Int} {A c : Nat} (hA : 0 < A) (hc : c = Nat.gcd A (cgd I 13)) (hw : ∀ e, e < 13 → w e = (I e).tdiv (c : Int)) : (∀ j, j < 13 → (A : Int) * w j = (A : Int).tdiv (c : Int) * I j) ∧ 0 < (A : Int).tdiv (c : Int) ∧ Nat.gcd ((A : Int).tdiv (c : Int)).natAbs (cgd w 13) = 1 := by
  have hc0 : 0 < c := by
    rw [hc]
    exact Nat.gcd_pos_of_pos_left _ hA
  obtain ⟨D, hD⟩ : c ∣ A := by
    rw [hc]
    exact Nat.gcd_dvd_left _ _
  have hI : ∀ e, e < 13 → ∃ z : Int, I e = (c : Int) * z := fun e he => by
    have h1 : c ∣ (I e).natAbs := Nat.dvd_trans (by rw [hc]; exact Nat.gcd_dvd_right _ _) (cgd_dvd I 13 e he)
    exact Int.natAbs_dvd_natAbs.mp (by rw [Int.natAbs_natCast]; exact h1)
  have hDt : (A : Int).tdiv (c : Int) = (D : Int) := by
    rw [hD, Int.natCast_mul, Int.mul_comm]
    exact Int.mul_tdiv_cancel _ (by omega)
  have hwz : ∀ e, e < 13 → I e = (c : Int) * w e := fun e he => by
    obtain ⟨z, hz⟩ := hI e he
    rw [hw e he, hz, Int.mul_comm (c : Int) z, Int.mul_tdiv_cancel _ (by omega), Int.mul_comm]
  rw [hDt]
  refine ⟨fun j hj => ?_, ?_, ?_⟩
  · rw [hwz j hj, hD, Int.natCast_mul, Int.mul_left_comm, Int.mul_assoc]
  · rcases Nat.eq_zero_or_pos D with q | q
    · rw [q, Nat.mul_zero] at hD
      omega
    · omega
  · rw [Int.natAbs_natCast]
    have hk1 : Nat.gcd D (cgd w 13) * c ∣ c := by
      have a1 : Nat.gcd D (cgd w 13) * c ∣ A := by
        rw [hD, Nat.mul_comm c D]
        exact Nat.mul_dvd_mul_right (Nat.gcd_dvd_left _ _) c
      have a2 : Nat.gcd D (cgd w 13) * c ∣ cgd I 13 := cgd_max I _ 13 (fun i hi => by
        rw [hwz i hi, Int.natAbs_mul, Int.natAbs_natCast, Nat.mul_comm c]
        exact Nat.mul_dvd_mul_right (Nat.dvd_trans (Nat.gcd_dvd_right _ _) (cgd_dvd w 13 i hi)) c)
      have a3 := Nat.dvd_gcd a1 a2
      rw [← hc] at a3
      exact a3
    obtain ⟨y, hy⟩ := hk1
    have h5 : Nat.gcd D (cgd w 13) * y = 1 := by
      refine Nat.eq_of_mul_eq_mul_left hc0 ?_
      rw [Nat.mul_one, Nat.mul_left_comm, ← Nat.mul_assoc]
      exact hy.symm
    exact Nat.dvd_one.mp ⟨y, h5.symm⟩
theorem bsf_step {P : Nat → Int} {i k : Nat} (h : k ≠ i) (e : Nat) : bsf P i (k + 1) e = (if e = 0 then 0 else bsf P i k (e - 1)) - P k * bsf P i k e := by
  show (if k = i then bsf P i k else fun j => (if j = 0 then 0 else bsf P i k (j - 1)) - P k * bsf P i k j) e = _
  rw [if_neg h]
section RXP
variable {h : mj_H} {tm er : Int} {T : Nat → Int}
theorem rx_differences {S N B X V : Nat → Int} {D i n : Nat} (g : gN N) (hi : i < n) (hn : N 78 = (n : Int)) (hs : rS S N B T X V h) : mj_Ok (D + 1) 249 [.ref 0, .int (jn (i : Int))] h (fun r => r = (.inl (some (.long (jl (wgt (fun j => N (79 + j)) n i)))), h)) := by
  refine mj_Ok.of (M := mj_m249) rfl rfl rfl ?_
  iterate 4 refine mj_T.pl rfl rfl rfl rfl ?_
  exact rp_df_loop (D := D) hi (by have := g.2.1.2; omega) hn hs (Q := fun r => r = (.inl (some (.long (jl (wgt (fun j => N (79 + j)) n i)))), h)) rfl n 0 (by omega)
theorem rx_lp_loop {S N B X V0 : Nat → Int} {i n : Nat} (g : gN N) (hi : i < n) (hn6 : n ≤ 6) (hn : N 78 = (n : Int)) {Q : mj_R → Prop} (hend : ∀ (V : Nat → Int) (h : mj_H), rS S N B T X V h → (∀ s, (s < 26 ∨ 39 ≤ s) → (s < 65 ∨ 78 ≤ s) → (s < 91 ∨ 104 ≤ s) → s ≠ 652 → V s = V0 s) → (∀ e, e < 13 → (V (2 * 13 + e)).natAbs ≤ (169 * 9) ^ 6) → (∀ e, e < 13 → V (2 * 13 + e) = bsf (fun j => N (79 + j)) i n e) → Q (.inl none, h)) :
    ∀ (m k : Nat) (V : Nat → Int) (h : mj_H), k + m = n → rS S N B T X V h → (∀ s, (s < 26 ∨ 39 ≤ s) → (s < 65 ∨ 78 ≤ s) → (s < 91 ∨ 104 ≤ s) → s ≠ 652 → V s = V0 s) → (∀ e, e < 13 → (V (2 * 13 + e)).natAbs ≤ (169 * 9) ^ k) → jdg V 2 13 ≤ k + 1 → (∀ e, e < 13 → V (2 * 13 + e) = bsf (fun j => N (79 + j)) i k e) → mj_T 38 mj_m250 17 [some (.ref 0), some (.int (jn (i : Int))), some (.int (jn (k : Int)))] [] h Q := by
  intro m
  induction m with
  | zero =>
    intro k V h hk hs f c1 c2 c9
    have hkn : k = n := by omega
    subst hkn
    refine mj_T.pl rfl rfl rfl rfl ?_
    refine mj_T.i2l rfl ⟨by omega, by omega⟩ ?_
    refine mj_T.pl rfl rfl rfl rfl ?_
    refine rT_get hs rfl rfl ?_
    refine mj_T.pl rfl rfl rfl rfl ?_
    refine rT_ldN (i := ((78 : Nat) : Int)) hs rfl ⟨by decide, by decide⟩ ?_
    rw [Int.toNat_natCast, hn]
    refine mj_T.lif (a := (k : Int)) (b := (k : Int)) rfl rfl ⟨by omega, by omega⟩ ⟨by omega, by omega⟩ (fun hc => ?_) (fun hc => ?_)
    · exact mj_T.ret rfl rfl rfl (hend V h hs f (fun e he => Nat.le_trans (c1 e he) (Nat.pow_le_pow_right (by decide) hn6)) c9)
    · simp only [jc, decide_eq_false_iff_not] at hc
      omega
  | succ m ih =>
    intro k V h hk hs f c1 c2 c9
    refine mj_T.pl rfl rfl rfl rfl ?_
    refine mj_T.i2l rfl ⟨by omega, by omega⟩ ?_
    refine mj_T.pl rfl rfl rfl rfl ?_
    refine rT_get hs rfl rfl ?_
    refine mj_T.pl rfl rfl rfl rfl ?_
    refine rT_ldN (i := ((78 : Nat) : Int)) hs rfl ⟨by decide, by decide⟩ ?_
    rw [Int.toNat_natCast, hn]
    refine mj_T.lif (a := (k : Int)) (b := (n : Int)) rfl rfl ⟨by omega, by omega⟩ ⟨by omega, by omega⟩ (fun hc => ?_) (fun hc => ?_)
    · simp only [jc, decide_eq_true_eq] at hc
      omega
    iterate 2 refine mj_T.pl rfl rfl rfl rfl ?_
    refine mj_T.icmp (a := (k : Int)) (b := (i : Int)) rfl ⟨by omega, by omega⟩ ⟨by omega, by omega⟩ (fun hc2 => ?_) (fun hc2 => ?_)
    rotate_left
    · refine mj_T.pl rfl rfl rfl rfl ?_
      refine mj_T.iinc (a := (k : Int)) rfl rfl ?_
      refine mj_T.pl rfl rfl rfl rfl ?_
      exact ih (k + 1) V h (by omega) hs f (fun e he => Nat.le_trans (c1 e he) (Nat.pow_le_pow_right (by decide) (by omega))) (by omega) (fun e he => by
        simp only [jc, Bool.not_eq_true', Bool.not_eq_false', decide_eq_true_eq, decide_eq_false_iff_not] at hc2
        unfold bsf
        rw [if_pos (by omega)]
        exact c9 e he)
    iterate 2 refine mj_T.pl rfl rfl rfl rfl ?_
    refine mj_T.call (ins := .invokevirtual 110) rfl rfl (Nat.le_of_ble_eq_true rfl) (Nat.le_of_ble_eq_true rfl) (by simp [mj_recv, rS_f hs]) rfl (mj_Ok.up (by decide) (jp_empties (D := 0) (rG S N B T X) (p := 5) (by decide) hs)) (fun v' g1 hq' => ?_) (fun i h' hq' => by obtain ⟨_, _, h⟩ := hq'; cases h)
    obtain ⟨_, hs1, hq'⟩ := hq'
    cases hq'
    have q1 : ∀ e, e < 13 → jfl V 5 (fun _ => 0) 13 (5 * 13 + e) = 0 := fun e he => jfl_at _ _ _ he
    have q2 : ∀ s, (s < 65 ∨ 78 ≤ s) → jfl V 5 (fun _ => 0) 13 s = V s := fun s hc => jfl_off _ _ _ (by omega)
    generalize jfl V 5 (fun _ => 0) 13 = W1 at hs1 q1 q2
    iterate 3 refine mj_T.pl rfl rfl rfl rfl ?_
    refine mj_T.call (ins := .invokestatic 104) rfl rfl (Nat.le_of_ble_eq_true rfl) (Nat.le_of_ble_eq_true rfl) rfl rfl (mj_Ok.up (by decide) (jq_slot (D := 0) (p := 5) (i := 0))) (fun v' h' hq' => ?_) (fun i h' hq' => by cases hq')
    cases hq'
    refine mj_T.pl rfl rfl rfl rfl ?_
    refine rT_get hs1 rfl rfl ?_
    iterate 2 refine mj_T.pl rfl rfl rfl rfl ?_
    refine mj_T.iadd (a := 79) (b := (k : Int)) rfl ?_
    rw [show (79 : Int) + (k : Int) = ((79 + k : Nat) : Int) by omega]
    refine rT_ldN hs1 rfl ⟨by omega, by omega⟩ ?_
    rw [Int.toNat_natCast]
    refine mj_T.lneg rfl ?_
    have hp := (g.2.2.1 k (by omega)).1
    refine mj_T.call (ins := .invokevirtual 45) rfl rfl (Nat.le_of_ble_eq_true rfl) (Nat.le_of_ble_eq_true rfl) (by simp [mj_recv, rS_f hs1]) rfl (mj_Ok.up (by decide) (jS_sets (D := 0) (rG S N B T X) (s := 5 * 13 + 0) (v := -N (79 + k)) (by decide) ⟨by omega, by omega⟩ hs1)) (fun v' g2 hq' => ?_) (fun i h' hq' => by obtain ⟨_, _, h⟩ := hq'; cases h)
    obtain ⟨_, hs2, hq'⟩ := hq'
    cases hq'
    have a1 : jvu W1 (5 * 13 + 0) (-N (79 + k)) (5 * 13 + 0) = -N (79 + k) := jvu_at _ _ _
    have a2 : ∀ s, s ≠ 5 * 13 + 0 → jvu W1 (5 * 13 + 0) (-N (79 + k)) s = W1 s := fun s hne => jvu_ne _ _ _ hne
    generalize jvu W1 (5 * 13 + 0) (-N (79 + k)) = W2 at hs2 a1 a2
    iterate 3 refine mj_T.pl rfl rfl rfl rfl ?_
    refine mj_T.call (ins := .invokestatic 104) rfl rfl (Nat.le_of_ble_eq_true rfl) (Nat.le_of_ble_eq_true rfl) rfl rfl (mj_Ok.up (by decide) (jq_slot (D := 0) (p := 5) (i := 1))) (fun v' h' hq' => ?_) (fun i h' hq' => by cases hq')
    cases hq'
    refine mj_T.pl rfl rfl rfl rfl ?_
    refine mj_T.call (ins := .invokevirtual 45) rfl rfl (Nat.le_of_ble_eq_true rfl) (Nat.le_of_ble_eq_true rfl) (by simp [mj_recv, rS_f hs2]) rfl (mj_Ok.up (by decide) (jS_sets (D := 0) (rG S N B T X) (s := 5 * 13 + 1) (v := 1) (by decide) ⟨by decide, by decide⟩ hs2)) (fun v' g3 hq' => ?_) (fun i h' hq' => by obtain ⟨_, _, h⟩ := hq'; cases h)
    obtain ⟨_, hs3, hq'⟩ := hq'
    cases hq'
    have b1 : jvu W2 (5 * 13 + 1) (1) (5 * 13 + 1) = 1 := jvu_at _ _ _
    have b2 : ∀ s, s ≠ 5 * 13 + 1 → jvu W2 (5 * 13 + 1) (1) s = W2 s := fun s hne => jvu_ne _ _ _ hne
    generalize jvu W2 (5 * 13 + 1) (1) = W3 at hs3 b1 b2
    have c5 : ∀ e, e < 13 → (W3 (5 * 13 + e)).natAbs ≤ 9 := fun e he => by
      by_cases e1 : e = 1
      · subst e1
        rw [b1]
        decide
      · rw [b2 _ (by omega)]
        by_cases e0 : e = 0
        · subst e0
          rw [a1]
          omega
        · rw [a2 _ (by omega), q1 e he]
          exact Nat.zero_le _
    have d5 : jdg W3 5 13 ≤ 2 := jdg_of_zero fun e x1 x2 => by rw [b2 _ (by omega), a2 _ (by omega), q1 e x2]
    have c3 : ∀ e, e < 13 → W3 (2 * 13 + e) = V (2 * 13 + e) := fun e he => by rw [b2 _ (by omega), a2 _ (by omega), q2 _ (by omega)]
    have d2 : jdg W3 2 13 = jdg V 2 13 := jdg_congr 13 c3
    have hsz : 169 * ((169 * 9) ^ k * 9) = (169 * 9) ^ (k + 1) := by rw [Nat.pow_succ, ← Nat.mul_assoc, Nat.mul_comm 169, Nat.mul_assoc]
    have hmx : (169 * 9) ^ (k + 1) ≤ (169 * 9) ^ 6 := Nat.pow_le_pow_right (by decide) (by omega)
    have h2x := rp_ip2
    iterate 4 refine mj_T.pl rfl rfl rfl rfl ?_
    refine mj_T.call (ins := .invokevirtual 121) rfl rfl (Nat.le_of_ble_eq_true rfl) (Nat.le_of_ble_eq_true rfl) (by simp [mj_recv, rS_f hs3]) rfl (mj_Ok.up (by decide) (jx_multipliesPoly (D := 0) (V := W3) (rG S N B T X) (to := 7) (a := 2) (b := 5) (by decide) (by decide) (by decide) (by decide) (by decide) (al := (169 * 9) ^ k) (be := 9) (fun e he => by rw [c3 e he]; exact c1 e he) c5 (by omega) (by omega) hs3)) (fun v' g2 hq' => ?_) (fun i h' hq' => by obtain ⟨_, _, _, _, _, _, _, h⟩ := hq'; cases h)
    obtain ⟨W2, _, hs2, e1, e2, e3, hW, hq'⟩ := hq'
    cases hq'
    iterate 3 refine mj_T.pl rfl rfl rfl rfl ?_
    refine mj_T.call (ins := .invokevirtual 124) rfl rfl (Nat.le_of_ble_eq_true rfl) (Nat.le_of_ble_eq_true rfl) (by simp [mj_recv, rS_f hs2]) rfl (mj_Ok.up (by decide) (jp_copiesPoly (D := 0) (V := W2) (rG S N B T X) (p := 2) (q := 7) (by decide) (by decide) (by decide) hs2)) (fun v' g9 hq' => ?_) (fun i h' hq' => by obtain ⟨_, _, h⟩ := hq'; cases h)
    obtain ⟨_, hs9, hq'⟩ := hq'
    cases hq'
    have i1 : ∀ e, e < 13 → jfl W2 2 (fun e => W2 (7 * 13 + e)) 13 (2 * 13 + e) = W2 (7 * 13 + e) := fun e he => jfl_at _ _ _ he
    have i2 : ∀ s, (s < 26 ∨ 39 ≤ s) → jfl W2 2 (fun e => W2 (7 * 13 + e)) 13 s = W2 s := fun s hc => jfl_off _ _ _ (by omega)
    generalize jfl W2 2 (fun e => W2 (7 * 13 + e)) 13 = W9 at hs9 i1 i2
    refine mj_T.iinc (a := (k : Int)) rfl rfl ?_
    refine mj_T.pl rfl rfl rfl rfl ?_
    refine ih (k + 1) W9 g9 (by omega) hs9 (fun s x1 x2 x3 x4 => by rw [i2 s x1, e1 s (by omega) x4, b2 s (by omega), a2 s (by omega), q2 s x2, f s x1 x2 x3 x4]) (fun e he => ?_) ?_ (fun e he => ?_)
    · rw [i1 e he]
      have := e2 e he
      omega
    · have := jdg_congr (V := W2) (W := W9) (p := 7) (q := 2) 13 i1
      omega
    · have hm9 := (hW e he).trans (prs_mul W3 2 5 e)
      have eL : jpo W3 5 = pz_line (N (79 + k)) := funext fun i => by
        unfold pz_line
        by_cases q : i < 13
        · rw [jpo_at q]
          by_cases i1 : i = 1
          · subst i1
            rw [b1]
            rfl
          · rw [b2 _ (by omega)]
            by_cases i0 : i = 0
            · subst i0
              rw [a1, if_pos rfl]
            · rw [a2 _ (by omega), q1 i q, if_neg i0, if_neg i1]
        · rw [jpo_lt W3 5 i (by omega), if_neg (by omega), if_neg (by omega)]
      rw [eL, pz_mul_line] at hm9
      rw [i1 e he, hm9, jpo_at he, c3 e he, c9 e he, bsf_step (by simp only [jc, Bool.not_eq_true', Bool.not_eq_false', decide_eq_true_eq, decide_eq_false_iff_not] at hc2; omega)]
      by_cases q : e = 0
      · rw [if_pos q, if_pos q]
      · rw [if_neg q, if_neg q, jpo_at (by omega), c3 _ (by omega), c9 _ (by omega)]
theorem rx_laysProduct {S N B X V : Nat → Int} {i n : Nat} (g : gN N) (hi : i < n) (hn : N 78 = (n : Int)) (hs : rS S N B T X V h) : mj_Ok 39 250 [.ref 0, .int (jn (i : Int))] h (fun r => ∃ (W : Nat → Int) (h' : mj_H), rS S N B T X W h' ∧ (∀ s, (s < 26 ∨ 39 ≤ s) → (s < 65 ∨ 78 ≤ s) → (s < 91 ∨ 104 ≤ s) → s ≠ 652 → W s = V s) ∧ (∀ e, e < 13 → (W (2 * 13 + e)).natAbs ≤ (169 * 9) ^ 6) ∧ (∀ e, e < 13 → W (2 * 13 + e) = bsf (fun j => N (79 + j)) i n e) ∧ r = (.inl none, h')) := by
  refine mj_Ok.of (M := mj_m250) rfl rfl rfl ?_
  have hn6 := g.2.1.2
  iterate 2 refine mj_T.pl rfl rfl rfl rfl ?_
  refine mj_T.call (ins := .invokevirtual 110) rfl rfl (Nat.le_of_ble_eq_true rfl) (Nat.le_of_ble_eq_true rfl) (by simp [mj_recv, rS_f hs]) rfl (mj_Ok.up (by decide) (jp_empties (D := 0) (rG S N B T X) (p := 2) (by decide) hs)) (fun v' g1 hq' => ?_) (fun i h' hq' => by obtain ⟨_, _, h⟩ := hq'; cases h)
  obtain ⟨_, hs1, hq'⟩ := hq'
  cases hq'
  have q1 : ∀ e, e < 13 → jfl V 2 (fun _ => 0) 13 (2 * 13 + e) = 0 := fun e he => jfl_at _ _ _ he
  have q2 : ∀ s, (s < 26 ∨ 39 ≤ s) → jfl V 2 (fun _ => 0) 13 s = V s := fun s hc => jfl_off _ _ _ (by omega)
  generalize jfl V 2 (fun _ => 0) 13 = W1 at hs1 q1 q2
  iterate 3 refine mj_T.pl rfl rfl rfl rfl ?_
  refine mj_T.call (ins := .invokestatic 104) rfl rfl (Nat.le_of_ble_eq_true rfl) (Nat.le_of_ble_eq_true rfl) rfl rfl (mj_Ok.up (by decide) (jq_slot (D := 0) (p := 2) (i := 0))) (fun v' h' hq' => ?_) (fun i h' hq' => by cases hq')
  cases hq'
  refine mj_T.pl rfl rfl rfl rfl ?_
  refine mj_T.call (ins := .invokevirtual 45) rfl rfl (Nat.le_of_ble_eq_true rfl) (Nat.le_of_ble_eq_true rfl) (by simp [mj_recv, rS_f hs1]) rfl (mj_Ok.up (by decide) (jS_sets (D := 0) (rG S N B T X) (s := 2 * 13 + 0) (v := 1) (by decide) ⟨by decide, by decide⟩ hs1)) (fun v' g2 hq' => ?_) (fun i h' hq' => by obtain ⟨_, _, h⟩ := hq'; cases h)
  obtain ⟨_, hs2, hq'⟩ := hq'
  cases hq'
  have a1 : jvu W1 (2 * 13 + 0) (1) (2 * 13 + 0) = 1 := jvu_at _ _ _
  have a2 : ∀ s, s ≠ 2 * 13 + 0 → jvu W1 (2 * 13 + 0) (1) s = W1 s := fun s hne => jvu_ne _ _ _ hne
  generalize jvu W1 (2 * 13 + 0) (1) = W2 at hs2 a1 a2
  iterate 2 refine mj_T.pl rfl rfl rfl rfl ?_
  exact rx_lp_loop (V0 := V) g hi (by omega) hn (fun W h k1 k2 k3 k4 => ⟨W, h, k1, k2, k3, k4, rfl⟩) n 0 W2 g2 (by omega) hs2 (fun s x1 x2 x3 x4 => by rw [a2 s (by omega), q2 s x1]) (fun e he => by
    by_cases e0 : e = 0
    · subst e0
      rw [a1]
      exact Nat.le_refl _
    · rw [a2 _ (by omega), q1 e he]
      exact Nat.zero_le _) (jdg_of_zero fun e x1 x2 => by rw [a2 _ (by omega), q1 e x2]) (fun e he => by
    show _ = if e = 0 then (1 : Int) else 0
    by_cases e0 : e = 0
    · subst e0
      rw [a1]
      rfl
    · rw [a2 _ (by omega), q1 e he, if_neg e0])
theorem rx_i1_loop {S N B X V : Nat → Int} {x n : Nat} (g : gN N) (hn : N 78 = (n : Int)) (hs : rS S N B T X V h) {Q : mj_R → Prop} (hend : ∀ (A : Nat) (l5 : Option Value), 1 ≤ A → A ≤ 6402373705728000 → (∀ i, i < n → (wgt (fun j => N (79 + j)) n i).natAbs ∣ A) → mj_T 39 mj_m251 77 [some (.ref 0), some (.int (jn (x : Int))), some (.long (jl (A : Int))), none, some (.int (jn ((n : Int)))), l5, none] [] h Q) :
    ∀ (m k A : Nat) (l5 : Option Value), k + m = n → A ∣ 6402373705728000 → 1 ≤ A → (∀ i, i < k → (wgt (fun j => N (79 + j)) n i).natAbs ∣ A) → mj_T 39 mj_m251 24 [some (.ref 0), some (.int (jn (x : Int))), some (.long (jl (A : Int))), none, some (.int (jn ((k : Int)))), l5, none] [] h Q := by
  have hn6 := g.2.1.2
  intro m
  induction m with
  | zero =>
    intro k A l5 hk hA hA1 hd
    have hkn : k = n := by omega
    subst hkn
    refine mj_T.pl rfl rfl rfl rfl ?_
    refine mj_T.i2l rfl ⟨by omega, by omega⟩ ?_
    refine mj_T.pl rfl rfl rfl rfl ?_
    refine rT_get hs rfl rfl ?_
    refine mj_T.pl rfl rfl rfl rfl ?_
    refine rT_ldN (i := ((78 : Nat) : Int)) hs rfl ⟨by decide, by decide⟩ ?_
    rw [Int.toNat_natCast, hn]
    refine mj_T.lif (a := (k : Int)) (b := (k : Int)) rfl rfl ⟨by omega, by omega⟩ ⟨by omega, by omega⟩ (fun hc => ?_) (fun hc => ?_)
    · exact hend A l5 hA1 (Nat.le_of_dvd (by decide) hA) hd
    · simp only [jc, decide_eq_false_iff_not] at hc
      omega
  | succ m ih =>
    intro k A l5 hk hA hA1 hd
    have hAm := Nat.le_of_dvd (by decide) hA
    refine mj_T.pl rfl rfl rfl rfl ?_
    refine mj_T.i2l rfl ⟨by omega, by omega⟩ ?_
    refine mj_T.pl rfl rfl rfl rfl ?_
    refine rT_get hs rfl rfl ?_
    refine mj_T.pl rfl rfl rfl rfl ?_
    refine rT_ldN (i := ((78 : Nat) : Int)) hs rfl ⟨by decide, by decide⟩ ?_
    rw [Int.toNat_natCast, hn]
    refine mj_T.lif (a := (k : Int)) (b := (n : Int)) rfl rfl ⟨by omega, by omega⟩ ⟨by omega, by omega⟩ (fun hc => ?_) (fun hc => ?_)
    · simp only [jc, decide_eq_true_eq] at hc
      omega
    iterate 2 refine mj_T.pl rfl rfl rfl rfl ?_
    refine mj_T.call (ins := .invokevirtual 282) rfl rfl (Nat.le_of_ble_eq_true rfl) (Nat.le_of_ble_eq_true rfl) (by simp [mj_recv, rS_f hs]) rfl (mj_Ok.up (by decide) (rx_differences (D := 0) (i := k) g (by omega) hn hs)) (fun v' h' hq' => ?_) (fun i h' hq' => by cases hq')
    obtain ⟨d1, d2, d3⟩ := r18_bd (rdf_18 g hn (i := k) (by omega))
    cases hq'
    have hdk : rdf (N (79 + k)) (fun j => N (79 + j)) k n = wgt (fun j => N (79 + j)) n k := rfl
    rw [hdk] at d1 d2 d3
    generalize hd9 : wgt (fun j => N (79 + j)) n k = d at d1 d2 d3 ⊢
    iterate 4 refine mj_T.pl rfl rfl rfl rfl ?_
    refine mj_T.call (ins := .invokestatic 285) rfl rfl (Nat.le_of_ble_eq_true rfl) (Nat.le_of_ble_eq_true rfl) rfl rfl (mj_Ok.up (by decide) (rp_common (D := 0) (a := (A : Int)) (b := d) (by omega) (by omega))) (fun v' h' hq' => ?_) (fun i h' hq' => by cases hq')
    cases hq'
    rw [Int.natAbs_natCast]
    have hg0 : 0 < Nat.gcd A d.natAbs := Nat.gcd_pos_of_pos_left _ (by omega)
    have hg1 : Nat.gcd A d.natAbs ≤ A := Nat.gcd_le_left _ (by omega)
    obtain ⟨s1, s2, s3⟩ := lcm_step hA d2 (by decide) hA1
    refine mj_T.ldiv (a := (A : Int)) (b := ((Nat.gcd A d.natAbs : Nat) : Int)) rfl ⟨by omega, by omega⟩ ⟨by omega, by omega⟩ (by omega) ?_
    rw [show (A : Int).tdiv ((Nat.gcd A d.natAbs : Nat) : Int) = ((A / Nat.gcd A d.natAbs : Nat) : Int) from rfl]
    have t69 : mj_T 39 mj_m251 69 [some (.ref 0), some (.int (jn (x : Int))), some (.long (jl (A : Int))), none, some (.int (jn ((k : Int)))), some (.long (jl d)), none] [.long (jl ((d.natAbs : Nat) : Int)), .long (jl ((A / Nat.gcd A d.natAbs : Nat) : Int))] h Q := by
      refine mj_T.lmul rfl ?_
      rw [← Int.natCast_mul]
      refine mj_T.pl rfl rfl rfl rfl ?_
      refine mj_T.iinc (a := (k : Int)) rfl rfl ?_
      refine mj_T.pl rfl rfl rfl rfl ?_
      exact ih (k + 1) _ _ (by omega) s1 s2 (fun i hi => by
        rw [show A / Nat.gcd A d.natAbs * d.natAbs = Nat.lcm A d.natAbs from Nat.div_mul_right_comm (Nat.gcd_dvd_left A d.natAbs) d.natAbs]
        by_cases q : i = k
        · subst q
          rw [hd9]
          exact Nat.dvd_lcm_right _ _
        · exact Nat.dvd_trans (hd i (by omega)) (Nat.dvd_lcm_left _ _))
    iterate 2 refine mj_T.pl rfl rfl rfl rfl ?_
    refine mj_T.lif (a := d) (b := 0) rfl rfl ⟨by omega, by omega⟩ ⟨by decide, by decide⟩ (fun hc2 => ?_) (fun hc2 => ?_)
    · simp only [jc, decide_eq_true_eq] at hc2
      have e : d = ((d.natAbs : Nat) : Int) := by omega
      refine mj_T.pl rfl rfl rfl rfl ?_
      refine mj_T.eq (st2 := [.long (jl ((d.natAbs : Nat) : Int)), .long (jl ((A / Nat.gcd A d.natAbs : Nat) : Int))]) t69 rfl rfl (by rw [← e]; rfl) rfl
    · simp only [jc, decide_eq_false_iff_not] at hc2
      have e : -d = ((d.natAbs : Nat) : Int) := by omega
      refine mj_T.pl rfl rfl rfl rfl ?_
      refine mj_T.lneg rfl ?_
      refine mj_T.pl rfl rfl rfl rfl ?_
      refine mj_T.eq (st2 := [.long (jl ((d.natAbs : Nat) : Int)), .long (jl ((A / Nat.gcd A d.natAbs : Nat) : Int))]) t69 rfl rfl (by rw [← e]; rfl) rfl
theorem rx_i2_loop {S N B X V0 : Nat → Int} {x A k b : Nat} (hb1 : b + rI1 * rI2 < jB ^ 698) (hQ : ∀ e, e < 13 → (V0 (2 * 13 + e)).natAbs ≤ rI1) (hC : (V0 661).natAbs ≤ rI2) (hA : ∀ e, e < 13 → (V0 (0 * 13 + e)).natAbs ≤ b) {Q : mj_R → Prop} (hend : ∀ (V : Nat → Int) (h : mj_H), rS S N B T X V h → (∀ e, e < 13 → (V (0 * 13 + e)).natAbs ≤ b + rI1 * rI2) → (∀ e, e < 13 → V (0 * 13 + e) = V0 (0 * 13 + e) + V0 (2 * 13 + e) * V0 661) → mj_T 39 mj_m251 208 [some (.ref 0), some (.int (jn (x : Int))), some (.long (jl (A : Int))), none, some (.int (jn ((k : Int)))), some (.int (jn 13)), none] [] h Q) :
    ∀ (m j : Nat) (V : Nat → Int) (h : mj_H), j + m = 13 → rS S N B T X V h → V 661 = V0 661 → (∀ e, j ≤ e → e < 13 → V (2 * 13 + e) = V0 (2 * 13 + e) ∧ V (0 * 13 + e) = V0 (0 * 13 + e)) → (∀ e, e < j → (V (0 * 13 + e)).natAbs ≤ b + rI1 * rI2) → (∀ e, e < j → V (0 * 13 + e) = V0 (0 * 13 + e) + V0 (2 * 13 + e) * V0 661) → mj_T 39 mj_m251 153 [some (.ref 0), some (.int (jn (x : Int))), some (.long (jl (A : Int))), none, some (.int (jn ((k : Int)))), some (.int (jn (j : Int))), none] [] h Q := by
  intro m
  induction m with
  | zero =>
    intro j V h hj hs c1 c2 c3 c4
    have hj : j = 13 := by omega
    subst hj
    iterate 2 refine mj_T.pl rfl rfl rfl rfl ?_
    refine mj_T.icmp (a := ((13 : Nat) : Int)) (b := 13) rfl ⟨by decide, by decide⟩ ⟨by decide, by decide⟩ (fun hc => ?_) (fun hc => ?_)
    · exact hend V h hs c3 c4
    · simp [jc] at hc
  | succ m ih =>
    intro j V h hj hs c1 c2 c3 c4
    iterate 2 refine mj_T.pl rfl rfl rfl rfl ?_
    refine mj_T.icmp (a := (j : Int)) (b := 13) rfl ⟨by omega, by omega⟩ ⟨by decide, by decide⟩ (fun hc => ?_) (fun hc => ?_)
    · simp only [jc, decide_eq_true_eq] at hc
      omega
    obtain ⟨y1, y2⟩ := c2 j (Nat.le_refl _) (by omega)
    have hm1 : (V (2 * 13 + j) * V 661).natAbs ≤ rI1 * rI2 := by
      rw [y1, c1, Int.natAbs_mul]
      exact Nat.mul_le_mul (hQ j (by omega)) hC
    iterate 3 refine mj_T.pl rfl rfl rfl rfl ?_
    refine mj_T.call (ins := .invokestatic 104) rfl rfl (Nat.le_of_ble_eq_true rfl) (Nat.le_of_ble_eq_true rfl) rfl rfl (mj_Ok.up (by decide) (jq_slot (D := 0) (p := 2) (i := j))) (fun v' h' hq' => ?_) (fun i h' hq' => by cases hq')
    cases hq'
    iterate 2 refine mj_T.pl rfl rfl rfl rfl ?_
    refine mj_T.call (ins := .invokestatic 104) rfl rfl (Nat.le_of_ble_eq_true rfl) (Nat.le_of_ble_eq_true rfl) rfl rfl (mj_Ok.up (by decide) (jq_slot (D := 0) (p := 2) (i := j))) (fun v' h' hq' => ?_) (fun i h' hq' => by cases hq')
    cases hq'
    refine mj_T.pl rfl rfl rfl rfl ?_
    refine mj_T.call (ins := .invokevirtual 117) rfl rfl (Nat.le_of_ble_eq_true rfl) (Nat.le_of_ble_eq_true rfl) (by simp [mj_recv, rS_f hs]) rfl (mj_Ok.up (by decide) (jS_mul (D := 0) (V := V) (rG S N B T X) (to := 2 * 13 + j) (a := 2 * 13 + j) (b := 661) (by omega) (by omega) (by decide) (jnl_of_lt hm1 rp_ip5) hs)) (fun v' g1 hq' => ?_) (fun i h' hq' => by obtain ⟨_, _, h⟩ := hq'; cases h)
    obtain ⟨_, hs1, hq'⟩ := hq'
    cases hq'
    have a1 : jvu V (2 * 13 + j) (V (2 * 13 + j) * V 661) (2 * 13 + j) = V (2 * 13 + j) * V 661 := jvu_at _ _ _
    have a2 : ∀ s, s ≠ 2 * 13 + j → jvu V (2 * 13 + j) (V (2 * 13 + j) * V 661) s = V s := fun s hne => jvu_ne _ _ _ hne
    generalize jvu V (2 * 13 + j) (V (2 * 13 + j) * V 661) = W1 at hs1 a1 a2
    iterate 3 refine mj_T.pl rfl rfl rfl rfl ?_
    refine mj_T.call (ins := .invokestatic 104) rfl rfl (Nat.le_of_ble_eq_true rfl) (Nat.le_of_ble_eq_true rfl) rfl rfl (mj_Ok.up (by decide) (jq_slot (D := 0) (p := 0) (i := j))) (fun v' h' hq' => ?_) (fun i h' hq' => by cases hq')
    cases hq'
    iterate 2 refine mj_T.pl rfl rfl rfl rfl ?_
    refine mj_T.call (ins := .invokestatic 104) rfl rfl (Nat.le_of_ble_eq_true rfl) (Nat.le_of_ble_eq_true rfl) rfl rfl (mj_Ok.up (by decide) (jq_slot (D := 0) (p := 0) (i := j))) (fun v' h' hq' => ?_) (fun i h' hq' => by cases hq')
    cases hq'
    iterate 2 refine mj_T.pl rfl rfl rfl rfl ?_
    refine mj_T.call (ins := .invokestatic 104) rfl rfl (Nat.le_of_ble_eq_true rfl) (Nat.le_of_ble_eq_true rfl) rfl rfl (mj_Ok.up (by decide) (jq_slot (D := 0) (p := 2) (i := j))) (fun v' h' hq' => ?_) (fun i h' hq' => by cases hq')
    cases hq'
    refine mj_T.pl rfl rfl rfl rfl ?_
    have hm2 : (W1 (0 * 13 + j) + 1 * W1 (2 * 13 + j)).natAbs ≤ b + rI1 * rI2 := by
      rw [a1, a2 _ (by omega), y2, Int.one_mul]
      have k1 := hA j (by omega)
      have k2 := Int.natAbs_add_le (V0 (0 * 13 + j)) (V (2 * 13 + j) * V 661)
      omega
    refine mj_T.call (ins := .invokevirtual 107) rfl rfl (Nat.le_of_ble_eq_true rfl) (Nat.le_of_ble_eq_true rfl) (by simp [mj_recv, rS_f hs1]) rfl (mj_Ok.up (by decide) (jS_adds (D := 0) (V := W1) (rG S N B T X) (to := 0 * 13 + j) (a := 0 * 13 + j) (b := 2 * 13 + j) (f := 1) (by omega) (by omega) (by omega) (Or.inl rfl) (jnl_of_lt hm2 hb1) hs1)) (fun v' g2 hq' => ?_) (fun i h' hq' => by obtain ⟨_, _, h⟩ := hq'; cases h)
    obtain ⟨_, hs2, hq'⟩ := hq'
    cases hq'
    have b1 : jvu W1 (0 * 13 + j) (W1 (0 * 13 + j) + 1 * W1 (2 * 13 + j)) (0 * 13 + j) = W1 (0 * 13 + j) + 1 * W1 (2 * 13 + j) := jvu_at _ _ _
    have b2 : ∀ s, s ≠ 0 * 13 + j → jvu W1 (0 * 13 + j) (W1 (0 * 13 + j) + 1 * W1 (2 * 13 + j)) s = W1 s := fun s hne => jvu_ne _ _ _ hne
    generalize jvu W1 (0 * 13 + j) (W1 (0 * 13 + j) + 1 * W1 (2 * 13 + j)) = W2 at hs2 b1 b2
    refine mj_T.iinc (a := (j : Int)) rfl rfl ?_
    refine mj_T.pl rfl rfl rfl rfl ?_
    refine ih (j + 1) W2 g2 (by omega) hs2 (by rw [b2 _ (by omega), a2 _ (by omega), c1]) (fun e e1 e2 => ?_) (fun e he => ?_) (fun e he => ?_)
    · obtain ⟨z1, z2⟩ := c2 e (by omega) e2
      exact ⟨by rw [b2 _ (by omega), a2 _ (by omega), z1], by rw [b2 _ (by omega), a2 _ (by omega), z2]⟩
    · by_cases q : e = j
      · subst q
        rw [b1]
        exact hm2
      · rw [b2 _ (by omega), a2 _ (by omega)]
        exact c3 e (by omega)
    · by_cases q : e = j
      · subst q
        rw [b1, a1, a2 _ (by omega), y2, y1, c1, Int.one_mul]
      · rw [b2 _ (by omega), a2 _ (by omega)]
        exact c4 e (by omega)
theorem rx_i3_loop {S N B X : Nat → Int} {x n A : Nat} (g : gN N) (hn : N 78 = (n : Int)) {Q : mj_R → Prop} (hend : ∀ (V : Nat → Int) (h : mj_H) (l5 : Option Value), rS S N B T X V h → (∀ e, e < 13 → V (0 * 13 + e) = itp (fun j => N (79 + j)) (fun j => N (85 + j)) (A : Int) n n e) → mj_T 39 mj_m251 214 [some (.ref 0), some (.int (jn (x : Int))), some (.long (jl (A : Int))), none, some (.int (jn ((n : Int)))), l5, none] [] h Q) (hAA : A ≤ 6402373705728000) (hA1 : 1 ≤ A) :
    ∀ (m k : Nat) (V : Nat → Int) (h : mj_H) (l5 : Option Value), k + m = n → rS S N B T X V h → (∀ e, e < 13 → (V (0 * 13 + e)).natAbs ≤ k * (rI1 * rI2)) → (∀ e, e < 13 → V (0 * 13 + e) = itp (fun j => N (79 + j)) (fun j => N (85 + j)) (A : Int) n k e) → mj_T 39 mj_m251 85 [some (.ref 0), some (.int (jn (x : Int))), some (.long (jl (A : Int))), none, some (.int (jn ((k : Int)))), l5, none] [] h Q := by
  have hn6 := g.2.1.2
  intro m
  induction m with
  | zero =>
    intro k V h l5 hk hs c1 c8
    have hkn : k = n := by omega
    subst hkn
    refine mj_T.pl rfl rfl rfl rfl ?_
    refine mj_T.i2l rfl ⟨by omega, by omega⟩ ?_
    refine mj_T.pl rfl rfl rfl rfl ?_
    refine rT_get hs rfl rfl ?_
    refine mj_T.pl rfl rfl rfl rfl ?_
    refine rT_ldN (i := ((78 : Nat) : Int)) hs rfl ⟨by decide, by decide⟩ ?_
    rw [Int.toNat_natCast, hn]
    refine mj_T.lif (a := (k : Int)) (b := (k : Int)) rfl rfl ⟨by omega, by omega⟩ ⟨by omega, by omega⟩ (fun hc => ?_) (fun hc => ?_)
    · exact hend V h l5 hs c8
    · simp only [jc, decide_eq_false_iff_not] at hc
      omega
  | succ m ih =>
    intro k V h l5 hk hs c1 c8
    refine mj_T.pl rfl rfl rfl rfl ?_
    refine mj_T.i2l rfl ⟨by omega, by omega⟩ ?_
    refine mj_T.pl rfl rfl rfl rfl ?_
    refine rT_get hs rfl rfl ?_
    refine mj_T.pl rfl rfl rfl rfl ?_
    refine rT_ldN (i := ((78 : Nat) : Int)) hs rfl ⟨by decide, by decide⟩ ?_
    rw [Int.toNat_natCast, hn]
    refine mj_T.lif (a := (k : Int)) (b := (n : Int)) rfl rfl ⟨by omega, by omega⟩ ⟨by omega, by omega⟩ (fun hc => ?_) (fun hc => ?_)
    · simp only [jc, decide_eq_true_eq] at hc
      omega
    iterate 2 refine mj_T.pl rfl rfl rfl rfl ?_
    refine mj_T.call (ins := .invokevirtual 289) rfl rfl (Nat.le_of_ble_eq_true rfl) (Nat.le_of_ble_eq_true rfl) (by simp [mj_recv, rS_f hs]) rfl (mj_Ok.up (by decide) (rx_laysProduct (i := k) g (by omega) hn hs)) (fun v' g1 hq' => ?_) (fun i h' hq' => by obtain ⟨_, _, _, _, _, _, h⟩ := hq'; cases h)
    obtain ⟨W1, _, hs1, f1, q1, qb, hq'⟩ := hq'
    cases hq'
    have gv := (g.2.2.1 k (by omega)).2
    iterate 3 refine mj_T.pl rfl rfl rfl rfl ?_
    refine rT_get hs1 rfl rfl ?_
    iterate 2 refine mj_T.pl rfl rfl rfl rfl ?_
    refine mj_T.iadd (a := 85) (b := (k : Int)) rfl ?_
    rw [show (85 : Int) + (k : Int) = ((85 + k : Nat) : Int) by omega]
    refine rT_ldN hs1 rfl ⟨by omega, by omega⟩ ?_
    rw [Int.toNat_natCast]
    refine mj_T.call (ins := .invokevirtual 45) rfl rfl (Nat.le_of_ble_eq_true rfl) (Nat.le_of_ble_eq_true rfl) (by simp [mj_recv, rS_f hs1]) rfl (mj_Ok.up (by decide) (jS_sets (D := 0) (rG S N B T X) (s := 661) (v := N (85 + k)) (by decide) ⟨by omega, by omega⟩ hs1)) (fun v' g2 hq' => ?_) (fun i h' hq' => by obtain ⟨_, _, h⟩ := hq'; cases h)
    obtain ⟨_, hs2, hq'⟩ := hq'
    cases hq'
    have a1 : jvu W1 (661) (N (85 + k)) (661) = N (85 + k) := jvu_at _ _ _
    have a2 : ∀ s, s ≠ 661 → jvu W1 (661) (N (85 + k)) s = W1 s := fun s hne => jvu_ne _ _ _ hne
    generalize jvu W1 (661) (N (85 + k)) = W2 at hs2 a1 a2
    iterate 5 refine mj_T.pl rfl rfl rfl rfl ?_
    refine mj_T.call (ins := .invokevirtual 282) rfl rfl (Nat.le_of_ble_eq_true rfl) (Nat.le_of_ble_eq_true rfl) (by simp [mj_recv, rS_f hs2]) rfl (mj_Ok.up (by decide) (rx_differences (D := 0) (i := k) g (by omega) hn hs2)) (fun v' h' hq' => ?_) (fun i h' hq' => by cases hq')
    obtain ⟨d1, d2, d3⟩ := r18_bd (rdf_18 g hn (i := k) (by omega))
    cases hq'
    have hdk : rdf (N (79 + k)) (fun j => N (79 + j)) k n = wgt (fun j => N (79 + j)) n k := rfl
    rw [hdk] at d1 d2 d3
    refine mT_ldiv rfl ⟨by omega, by omega⟩ (by omega) ⟨by omega, by omega⟩ d1 ?_
    have hw : jR ((A : Int).tdiv (wgt (fun j => N (79 + j)) n k)) := by
      have h1 : ((A : Int).tdiv (wgt (fun j => N (79 + j)) n k)).natAbs ≤ A := by
        rw [Int.natAbs_tdiv, Int.natAbs_natCast]
        exact Nat.div_le_self _ _
      exact ⟨by omega, by omega⟩
    generalize hwe : (A : Int).tdiv (wgt (fun j => N (79 + j)) n k) = w at hw ⊢
    refine mj_T.call (ins := .invokevirtual 45) rfl rfl (Nat.le_of_ble_eq_true rfl) (Nat.le_of_ble_eq_true rfl) (by simp [mj_recv, rS_f hs2]) rfl (mj_Ok.up (by decide) (jS_sets (D := 0) (rG S N B T X) (s := 662) (v := w) (by decide) hw hs2)) (fun v' g3 hq' => ?_) (fun i h' hq' => by obtain ⟨_, _, h⟩ := hq'; cases h)
    obtain ⟨_, hs3, hq'⟩ := hq'
    cases hq'
    have b1 : jvu W2 (662) (w) (662) = w := jvu_at _ _ _
    have b2 : ∀ s, s ≠ 662 → jvu W2 (662) (w) s = W2 s := fun s hne => jvu_ne _ _ _ hne
    generalize jvu W2 (662) (w) = W3 at hs3 b1 b2
    have hm : (W3 661 * W3 662).natAbs ≤ rI2 := by
      rw [b1, b2 _ (by decide), a1, Int.natAbs_mul]
      exact Nat.mul_le_mul (by omega) (by have := hw.1; have := hw.2; omega)
    iterate 4 refine mj_T.pl rfl rfl rfl rfl ?_
    refine mj_T.call (ins := .invokevirtual 117) rfl rfl (Nat.le_of_ble_eq_true rfl) (Nat.le_of_ble_eq_true rfl) (by simp [mj_recv, rS_f hs3]) rfl (mj_Ok.up (by decide) (jS_mul (D := 0) (V := W3) (rG S N B T X) (to := 661) (a := 661) (b := 662) (by decide) (by decide) (by decide) (jnl_of_lt hm rp_ip3) hs3)) (fun v' g4 hq' => ?_) (fun i h' hq' => by obtain ⟨_, _, h⟩ := hq'; cases h)
    obtain ⟨_, hs4, hq'⟩ := hq'
    cases hq'
    have e1 : jvu W3 661 (W3 661 * W3 662) 661 = W3 661 * W3 662 := jvu_at _ _ _
    have e2 : ∀ s, s ≠ 661 → jvu W3 661 (W3 661 * W3 662) s = W3 s := fun s hne => jvu_ne _ _ _ hne
    generalize jvu W3 661 (W3 661 * W3 662) = W4 at hs4 e1 e2
    iterate 2 refine mj_T.pl rfl rfl rfl rfl ?_
    have c0 : ∀ e, e < 13 → (W4 (0 * 13 + e)).natAbs ≤ k * (rI1 * rI2) := fun e he => by rw [e2 _ (by omega), b2 _ (by omega), a2 _ (by omega), f1 _ (by omega) (by omega) (by omega) (by omega)]; exact c1 e he
    have hsum : k * (rI1 * rI2) + rI1 * rI2 = (k + 1) * (rI1 * rI2) := (Nat.succ_mul _ _).symm
    refine rx_i2_loop (V0 := W4) (b := k * (rI1 * rI2)) (by rw [hsum]; exact rp_ip6 k (by omega)) (fun e he => by rw [e2 _ (by omega), b2 _ (by omega), a2 _ (by omega)]; exact q1 e he) (by rw [e1]; exact hm) c0 (fun W5 g5 hs5 c5 c6 => ?_) 13 0 W4 g4 (by omega) hs4 rfl (fun e _ _ => ⟨rfl, rfl⟩) (fun e he => absurd he (by omega)) (fun e he => absurd he (by omega))
    refine mj_T.iinc (a := (k : Int)) rfl rfl ?_
    refine mj_T.pl rfl rfl rfl rfl ?_
    exact ih (k + 1) W5 g5 _ (by omega) hs5 (fun e he => by rw [← hsum]; exact c5 e he) (fun e he => by
      show _ = itp (fun j => N (79 + j)) (fun j => N (85 + j)) (A : Int) n k e + (N (85 + k) * (A : Int).tdiv (wgt (fun j => N (79 + j)) n k)) * bsf (fun j => N (79 + j)) k n e
      rw [c6 e he, e1, b1, b2 661 (by decide), a1, e2 _ (by omega), e2 _ (by omega), b2 _ (by omega), b2 _ (by omega), a2 _ (by omega), a2 _ (by omega), f1 _ (by omega) (by omega) (by omega) (by omega), c8 e he, qb e he, hwe, Int.mul_comm (bsf _ _ _ _)])
theorem rx_i4_loop {S N B X : Nat → Int} {x A : Nat} {l5 : Option Value} {c : Int} {I : Nat → Int} (hc0 : c ≠ 0) {Q : mj_R → Prop} (hend : ∀ (V : Nat → Int) (h : mj_H), rS S N B T X V h → V 662 = c → (∀ e, e < 13 → V (0 * 13 + e) = (I e).tdiv c) → mj_T 39 mj_m251 274 [some (.ref 0), some (.int (jn (x : Int))), some (.long (jl (A : Int))), none, some (.int (jn (-1))), l5, none] [] h Q) :
    ∀ (m : Nat) (V : Nat → Int) (h : mj_H), m ≤ 13 → rS S N B T X V h → V 662 = c → (∀ e, e < m → V (0 * 13 + e) = I e) → (∀ e, m ≤ e → e < 13 → V (0 * 13 + e) = (I e).tdiv c) → mj_T 39 mj_m251 250 [some (.ref 0), some (.int (jn (x : Int))), some (.long (jl (A : Int))), none, some (.int (jn ((m : Int) - 1))), l5, none] [] h Q := by
  intro m
  induction m with
  | zero =>
    intro V h hm hs hc l1 l2
    refine mj_T.pl rfl rfl rfl rfl ?_
    refine mj_T.if0 (a := ((0 : Nat) : Int) - 1) rfl ⟨by decide, by decide⟩ (fun hc => ?_) (fun hc => ?_)
    · exact hend V h hs (by assumption) (fun e he => l2 e (Nat.zero_le _) he)
    · simp [jc] at hc
  | succ m ih =>
    intro V h hm hs hc l1 l2
    refine mj_T.pl rfl rfl rfl rfl ?_
    refine mj_T.if0 (a := ((m + 1 : Nat) : Int) - 1) rfl ⟨by omega, by omega⟩ (fun hc2 => ?_) (fun hc2 => ?_)
    · simp only [jc, decide_eq_true_eq] at hc2
      omega
    rw [show ((m + 1 : Nat) : Int) - 1 = (m : Int) by omega]
    iterate 3 refine mj_T.pl rfl rfl rfl rfl ?_
    refine mj_T.call (ins := .invokestatic 104) rfl rfl (Nat.le_of_ble_eq_true rfl) (Nat.le_of_ble_eq_true rfl) rfl rfl (mj_Ok.up (by decide) (jq_slot (D := 0) (p := 0) (i := m))) (fun v' h' hq' => ?_) (fun i h' hq' => by cases hq')
    cases hq'
    refine mj_T.pl rfl rfl rfl rfl ?_
    refine mj_T.call (ins := .invokevirtual 133) rfl rfl (Nat.le_of_ble_eq_true rfl) (Nat.le_of_ble_eq_true rfl) (by simp [mj_recv, rS_f hs]) rfl (mj_Ok.up (by decide) (jp_exact (D := 0) (V := V) (rG S N B T X) (i := 0 * 13 + m) (j := 662) (by omega) (by decide) (by omega) (by omega) (by omega) (by decide) (by rw [hc]; exact hc0) hs)) (fun v' g1 hq' => ?_) (fun i h' hq' => by obtain ⟨_, _, _, _, _, h⟩ := hq'; cases h)
    obtain ⟨W1, _, hs1, z1, z2, hq'⟩ := hq'
    cases hq'
    refine mj_T.iinc (a := (m : Int)) rfl rfl ?_
    refine mj_T.pl rfl rfl rfl rfl ?_
    exact ih W1 g1 (by omega) hs1 (by rw [z2 662 (by omega) (by decide) (by decide), hc]) (fun e he => by
      rw [z2 _ (by omega) (by omega) (by omega)]
      exact l1 e (by omega)) (fun e e1 e2 => by
      by_cases q : e = m
      · subst q
        rw [z1, l1 e (by omega), hc]
      · rw [z2 _ (by omega) (by omega) (by omega)]
        exact l2 e (by omega) e2)
end RXP
/-! The reference, exactly: interpolate. -/
section RXI
variable {h : mj_H} {tm er : Int} {T : Nat → Int} {N0 : Nat → Int} {u0 : Nat} {H : Nat → Nat → Int}
/-- what interpolate does -/
def RIt (tm er : Int) (T : Nat → Int) (N0 : Nat → Int) (u0 : Nat) (H : Nat → Nat → Int) (x : Int) (r : mj_R) : Prop := ((0 ≤ x ∧ x ≤ 5) ∧ ∃ (w : Nat → Int) (D : Int), itR N0 w D ∧ ((sml w ∧ rJx (jfl N0 x.toNat w 13) (upu u0) (pushH N0 H) tm er T r) ∨ (¬ sml w ∧ rJx N0 u0 H tm er T r))) ∨ (¬ (0 ≤ x ∧ x ≤ 5) ∧ rJx N0 u0 H tm er T r)
theorem rx_interpolate {x : Int} (hx : jr x) (hI : jIx N0 u0 H tm er T h) : mj_Ok 40 251 [.ref 0, .int (jn x)] h (RIt tm er T N0 u0 H x) := by
  refine mj_Ok.of (M := mj_m251) rfl rfl rfl ?_
  obtain ⟨S, N, B, X, V, hs, K⟩ := hI
  iterate 2 refine mj_T.pl rfl rfl rfl rfl ?_
  refine rT_put (v := 0) hs rfl rfl (by decide) rfl (fun g1 hs1 => ?_)
  have K1 := K.put (k := 3) (v := 0) ⟨by decide, by decide⟩ (by decide) (by decide) (by decide) (by decide) (by decide)
  generalize jvu S 3 0 = S1 at hs1 K1
  refine mj_T.pl rfl rfl rfl rfl ?_
  refine mj_T.call (ins := .invokestatic 181) rfl rfl (Nat.le_of_ble_eq_true rfl) (Nat.le_of_ble_eq_true rfl) rfl rfl (mj_Ok.up (by decide) (rp_isRegister (D := 0) hx)) (fun v' h' hq' => ?_) (fun i h' hq' => by rcases hq' with ⟨_, _, h⟩ | ⟨_, h⟩ <;> cases h)
  rcases hq' with ⟨x1, x2, hq'⟩ | ⟨hno, hq'⟩
  case' inr =>
    cases hq'
    refine mj_T.if0 (a := 0) rfl ⟨by decide, by decide⟩ (fun hc => ?_) (fun hc => ?_)
    · simp [jc] at hc
    iterate 2 refine mj_T.pl rfl rfl rfl rfl ?_
    refine mj_T.call (ins := .invokevirtual 198) rfl rfl (Nat.le_of_ble_eq_true rfl) (Nat.le_of_ble_eq_true rfl) (by simp [mj_recv, rS_f hs1]) rfl (mj_Ok.up (by decide) (rp_fails (D := 0) (c := 1) hs1)) (fun v' g2 hq' => ?_) (fun i h' hq' => by obtain ⟨_, _, h⟩ := hq'; cases h)
    obtain ⟨_, hs2, hq'⟩ := hq'
    cases hq'
    refine mj_T.i2l rfl ⟨by decide, by decide⟩ ?_
    exact mj_T.ret rfl rfl rfl (Or.inr ⟨by omega, 0, g2, rfl, ⟨_, N, B, X, V, hs2, K1.put ⟨by decide, by decide⟩ (by decide) (by decide) (by decide) (by decide) (by decide)⟩⟩)
  cases hq'
  refine mj_T.if0 (a := 1) rfl ⟨by decide, by decide⟩ (fun hc => ?_) (fun hc => ?_)
  rotate_left
  · simp [jc] at hc
  obtain ⟨x, rfl⟩ := Int.eq_ofNat_of_zero_le x1
  obtain ⟨n, hn⟩ := Int.eq_ofNat_of_zero_le K1.1.1.2.1.1
  iterate 4 refine mj_T.pl rfl rfl rfl rfl ?_
  refine rx_i1_loop K1.1.1 hn hs1 (fun A l5 hA1 hA2 hA3 => ?_) n 0 1 none (by omega) ⟨_, (Nat.one_mul _).symm⟩ (Nat.le_refl _) (fun i hi => absurd hi (by omega))
  iterate 2 refine mj_T.pl rfl rfl rfl rfl ?_
  refine mj_T.call (ins := .invokevirtual 110) rfl rfl (Nat.le_of_ble_eq_true rfl) (Nat.le_of_ble_eq_true rfl) (by simp [mj_recv, rS_f hs1]) rfl (mj_Ok.up (by decide) (jp_empties (D := 0) (rG S1 N B T X) (p := 0) (by decide) hs1)) (fun v' g3 hq' => ?_) (fun i h' hq' => by obtain ⟨_, _, h⟩ := hq'; cases h)
  obtain ⟨_, hs3, hq'⟩ := hq'
  cases hq'
  have q1 : ∀ e, e < 13 → jfl V 0 (fun _ => 0) 13 (0 * 13 + e) = 0 := fun e he => jfl_at _ _ _ he
  generalize jfl V 0 (fun _ => 0) 13 = W3 at hs3 q1
  iterate 2 refine mj_T.pl rfl rfl rfl rfl ?_
  refine rx_i3_loop K1.1.1 hn (fun V2 h2 m5 hs2 hIt => ?_) hA2 hA1 n 0 _ _ _ (by omega) hs3 (fun e he => by rw [q1 e he]; exact Nat.zero_le _) (fun e he => q1 e he)
  iterate 3 refine mj_T.pl rfl rfl rfl rfl ?_
  refine mj_T.call (ins := .invokevirtual 130) rfl rfl (Nat.le_of_ble_eq_true rfl) (Nat.le_of_ble_eq_true rfl) (by simp [mj_recv, rS_f hs2]) rfl (mj_Ok.up (by decide) (jp_contents (D := 0) (rG S1 N B T X) (to := 656) (p := 0) (by decide) (by decide) (by decide) (by decide) (by decide) (by decide) (by decide) hs2)) (fun v' g4 hq' => ?_) (fun i h' hq' => by obtain ⟨_, _, _, _, _, h⟩ := hq'; cases h)
  obtain ⟨W4, _, hs4, p1, p2, hq'⟩ := hq'
  cases hq'
  iterate 3 refine mj_T.pl rfl rfl rfl rfl ?_
  refine mj_T.call (ins := .invokevirtual 45) rfl rfl (Nat.le_of_ble_eq_true rfl) (Nat.le_of_ble_eq_true rfl) (by simp [mj_recv, rS_f hs4]) rfl (mj_Ok.up (by decide) (jS_sets (D := 0) (rG S1 N B T X) (s := 661) (v := (A : Int)) (by decide) ⟨by omega, by omega⟩ hs4)) (fun v' g5 hq' => ?_) (fun i h' hq' => by obtain ⟨_, _, h⟩ := hq'; cases h)
  obtain ⟨_, hs5, hq'⟩ := hq'
  cases hq'
  have u1 : jvu W4 661 (A : Int) 661 = (A : Int) := jvu_at _ _ _
  have u2 : ∀ s, s ≠ 661 → jvu W4 661 (A : Int) s = W4 s := fun s hne => jvu_ne _ _ _ hne
  generalize jvu W4 661 (A : Int) = W5 at hs5 u1 u2
  iterate 4 refine mj_T.pl rfl rfl rfl rfl ?_
  refine mj_T.call (ins := .invokevirtual 127) rfl rfl (Nat.le_of_ble_eq_true rfl) (Nat.le_of_ble_eq_true rfl) (by simp [mj_recv, rS_f hs5]) rfl (mj_Ok.up (by decide) (jp_commons (D := 0) (V := W5) (rG S1 N B T X) (to := 662) (i := 661) (j := 656) (by decide) (by decide) (by decide) (by decide) (by decide) (by decide) (by decide) hs5)) (fun v' g6 hq' => ?_) (fun i h' hq' => by obtain ⟨_, _, _, _, _, h⟩ := hq'; cases h)
  obtain ⟨W6, _, hs6, y1, y2, hq'⟩ := hq'
  cases hq'
  have y0 : W6 662 ≠ 0 := by
    rw [y1, u1, Int.natAbs_natCast]
    have := Nat.gcd_pos_of_pos_left (m := A) (W5 656).natAbs (by omega)
    omega
  have hI6 : ∀ e, e < 13 → W6 (0 * 13 + e) = itp (fun j => N (79 + j)) (fun j => N (85 + j)) (A : Int) n n e := fun e he => by
    rw [y2 _ (by omega) (by omega) (by omega) (by omega), u2 _ (by omega), p2 _ (by omega) (by omega) (by omega) (by omega) (by omega)]
    exact hIt e he
  have hc6 : W6 662 = ((Nat.gcd A (cgd (itp (fun j => N (79 + j)) (fun j => N (85 + j)) (A : Int) n n) 13) : Nat) : Int) := by
    rw [y1, u1, u2 656 (by decide), p1, Int.natAbs_natCast, Int.natAbs_natCast, jgk_cgd hIt]
  have hdl := jdg_le W6 0 13
  iterate 2 refine mj_T.pl rfl rfl rfl rfl ?_
  refine mj_T.call (ins := .invokevirtual 114) rfl rfl (Nat.le_of_ble_eq_true rfl) (Nat.le_of_ble_eq_true rfl) (by simp [mj_recv, rS_f hs6]) rfl (mj_Ok.up (by decide) (jp_degreeOf (D := 0) (rG S1 N B T X) (p := 0) (by decide) hs6)) (fun v' h' hq' => ?_) (fun i h' hq' => by cases hq')
  cases hq'
  refine mj_T.pl rfl rfl rfl rfl ?_
  refine rx_i4_loop (c := W6 662) (I := itp (fun j => N (79 + j)) (fun j => N (85 + j)) (A : Int) n n) y0 (fun V3 h3 hs3 hc3 hI3 => ?_) (jdg W6 0 13) _ _ hdl hs6 rfl (fun e he => hI6 e (by omega)) (fun e e1 e2 => by
    have z := jdg_zero W6 0 13 e e1 e2
    rw [z, ← hI6 e e2, z, Int.zero_tdiv])
  iterate 3 refine mj_T.pl rfl rfl rfl rfl ?_
  refine mj_T.call (ins := .invokevirtual 133) rfl rfl (Nat.le_of_ble_eq_true rfl) (Nat.le_of_ble_eq_true rfl) (by simp [mj_recv, rS_f hs3]) rfl (mj_Ok.up (by decide) (jp_exact (D := 0) (V := V3) (rG S1 N B T X) (i := 661) (j := 662) (by decide) (by decide) (by decide) (by decide) (by decide) (by decide) (by rw [hc3]; exact y0) hs3)) (fun v' g7 hq' => ?_) (fun i h' hq' => by obtain ⟨_, _, _, _, _, h⟩ := hq'; cases h)
  obtain ⟨W7, _, hs7, _, o2, hq'⟩ := hq'
  cases hq'
  iterate 2 refine mj_T.pl rfl rfl rfl rfl ?_
  refine mj_T.call (ins := .invokevirtual 191) rfl rfl (Nat.le_of_ble_eq_true rfl) (Nat.le_of_ble_eq_true rfl) (by simp [mj_recv, rS_f hs7]) rfl (mj_Ok.up (by decide) (rp_asLong (D := 0) (s := 661) (by decide) hs7)) (fun v' h' hq' => ?_) (fun i h' hq' => by cases hq')
  cases hq'
  refine mj_T.pl rfl rfl rfl rfl ?_
  iterate 4 refine mj_T.pl rfl rfl rfl rfl ?_
  refine mj_T.call (ins := .invokevirtual 219) rfl rfl (Nat.le_of_ble_eq_true rfl) (Nat.le_of_ble_eq_true rfl) (by simp [mj_recv, rS_f hs7]) rfl (mj_Ok.up (by decide) (rx_puts (D := 0) (r := x) (p := 0) (c := 2) (by omega) (by decide) ⟨by decide, by decide⟩ K1 hs7)) (fun v' h' hq' => ?_) (fun i h' hq' => by rcases hq' with ⟨_, _, _, _, h, _⟩ | ⟨_, _, _, _, h, _⟩ <;> cases h)
  have hw7 : ∀ e, e < 13 → (fun e => W7 (0 * 13 + e)) e = (itp (fun j => N (79 + j)) (fun j => N (85 + j)) (A : Int) n n e).tdiv (W6 662) := fun e he => by
    show W7 (0 * 13 + e) = _
    rw [o2 _ (by omega) (by omega) (by omega)]
    exact hI3 e he
  rw [hc6] at hw7
  obtain ⟨fi1, fi2, fi3⟩ := it_fin (show 0 < A by omega) rfl hw7
  have hN78 : N0 78 = (n : Int) := by
    rw [← K1.2.1 78 (by decide)]
    exact hn
  have hn6 : n ≤ 6 := by
    have := K1.1.1.2.1.2
    omega
  have eP : ∀ j, j < n → (fun i => N (79 + i)) j = (fun i => N0 (79 + i)) j := fun j hj => K1.2.1 (79 + j) (by omega)
  have eY : ∀ j, j < n → (fun i => N (85 + i)) j = (fun i => N0 (85 + i)) j := fun j hj => K1.2.1 (85 + j) (by omega)
  have hitR : itR N0 (fun e => W7 (0 * 13 + e)) ((A : Int).tdiv ((Nat.gcd A (cgd (itp (fun j => N (79 + j)) (fun j => N (85 + j)) (A : Int) n n) 13) : Nat) : Int)) := by
    refine ⟨(A : Int), by omega, ?_, ?_, fi2, fi3⟩
    · rw [hN78, Int.toNat_natCast]
      intro i hi
      rw [← wgt_cg eP hi]
      exact Int.natAbs_dvd_natAbs.mp (by rw [Int.natAbs_natCast]; exact hA3 i hi)
    · rw [hN78, Int.toNat_natCast, ← itp_cg eP eY n (Nat.le_refl n)]
      exact fi1
  have hX : (0 : Int) ≤ (x : Int) ∧ (x : Int) ≤ 5 := ⟨by omega, by omega⟩
  rcases hq' with ⟨hs9, z9, h9, hz9, e9, ⟨S9, N9, B9, X9, V9, r9, K9⟩⟩ | ⟨hs9, z9, h9, hz9, e9, ⟨S9, N9, B9, X9, V9, r9, K9⟩⟩
  · cases e9
    iterate 2 refine mj_T.pl rfl rfl rfl rfl ?_
    refine rT_get r9 rfl rfl ?_
    refine mj_T.if0 (a := S9 3) rfl (K9.1.2.2.2.2.2.2.1 3) (fun hc => ?_) (fun hc => ?_)
    · refine mj_T.pl rfl rfl rfl rfl ?_
      exact mj_T.ret rfl rfl rfl (Or.inl ⟨hX, _, _, hitR, Or.inl ⟨hs9, 0, _, rfl, ⟨_, _, _, _, _, r9, K9⟩⟩⟩)
    · iterate 2 refine mj_T.pl rfl rfl rfl rfl ?_
      exact mj_T.ret rfl rfl rfl (Or.inl ⟨hX, _, _, hitR, Or.inl ⟨hs9, _, _, rfl, ⟨_, _, _, _, _, r9, K9⟩⟩⟩)
  · cases e9
    iterate 2 refine mj_T.pl rfl rfl rfl rfl ?_
    refine rT_get r9 rfl rfl ?_
    refine mj_T.if0 (a := S9 3) rfl (K9.1.2.2.2.2.2.2.1 3) (fun hc => ?_) (fun hc => ?_)
    · refine mj_T.pl rfl rfl rfl rfl ?_
      exact mj_T.ret rfl rfl rfl (Or.inl ⟨hX, _, _, hitR, Or.inr ⟨hs9, 0, _, rfl, ⟨_, _, _, _, _, r9, K9⟩⟩⟩)
    · iterate 2 refine mj_T.pl rfl rfl rfl rfl ?_
      exact mj_T.ret rfl rfl rfl (Or.inl ⟨hX, _, _, hitR, Or.inr ⟨hs9, _, _, rfl, ⟨_, _, _, _, _, r9, K9⟩⟩⟩)
end RXI
/-! The class's reader over the memory: rows of values. -/
/-- the reader's rows -/
def isRw (c : Nat) : Prop := (457 ≤ c ∧ c ≤ 465) ∨ (467 ≤ c ∧ c ≤ 475) ∨ c = 476
theorem cq_rw : ((List.range 563).all (fun c => !(decide ((457 ≤ c ∧ c ≤ 465) ∨ (467 ≤ c ∧ c ≤ 475) ∨ c = 476)) || decide (cK c = 2))) = true := by decide +kernel
theorem isRw.k {c : Nat} (h : isRw c) : cK c = 2 := by
  have h1 := jall cq_rw (show c < 563 by unfold isRw at h; omega)
  simp only [Bool.or_eq_true, Bool.not_eq_true', decide_eq_false_iff_not, decide_eq_true_eq] at h1
  rcases h1 with h1 | h1
  · exact absurd h h1
  · exact h1
theorem isRw.s {k : Nat} (h : k ≤ 8) : isRw (457 + k) := Or.inl ⟨by omega, by omega⟩
theorem isRw.p {k : Nat} (h : k ≤ 8) : isRw (467 + k) := Or.inr (Or.inl ⟨by omega, by omega⟩)
theorem isRw.f : isRw 476 := Or.inr (Or.inr rfl)
theorem isRw.ne {c : Nat} (h : isRw c) : 457 ≤ c ∧ c ≤ 476 := by
  unfold isRw at h
  omega
/-- a row gets other numbers -/
def rwu (Y : Nat → Nat → Int) (r : Nat) (w : Nat → Int) : Nat → Nat → Int := fun c => if c = r then w else Y c
theorem rwu_at (Y : Nat → Nat → Int) (r : Nat) (w : Nat → Int) : rwu Y r w r = w := if_pos rfl
theorem rwu_ne (Y : Nat → Nat → Int) {r c : Nat} (w : Nat → Int) (h : c ≠ r) : rwu Y r w c = Y c := if_neg h
theorem cq_456 : cK 456 = 6 ∧ cL 456 = 9 ∧ cK 466 = 6 ∧ cL 466 = 9 ∧ cK 455 = 14 ∧ cK 19 = 11 ∧ cL 14 = 200 ∧ cK 13 = 27 ∧ cK 14 = 3 := by decide +kernel
/-- the buffer's text -/
def bX (X : Nat → Nat → Int) (tm : Nat) (T : Nat → Int) : Prop := X 13 1 = (tm : Int) ∧ ∀ j : Nat, j < tm → Value.int (jn (X 14 j)) = jbv (T j)
/-- the class while it reads: the benches and texts as in X0, the rows Y where Z says so, too great (t = 1), at the place a, with the error e -/
def rM (g : mj_H) (n : Nat) (X0 : Nat → Nat → Int) (Z : Nat → Prop) (Y : Nat → Nat → Int) (t a e : Int) (h : mj_H) : Prop := ∃ (V : Nat → Int) (X : Nat → Nat → Int), jM g n V X h ∧ (by0 V ∧ DG X ∧ sBn X0 X) ∧ (X 455 1 = 13 ∧ X 455 2 = a ∧ X 455 3 = e ∧ X 455 4 = t) ∧ ∀ c, Z c → isRw c ∧ sml (Y c) ∧ ∀ j, j < 13 → X c j = Y c j
/-- the rows that hold something, by the depth -/
def zkS (D c : Nat) : Prop := (457 ≤ c ∧ c < 457 + D) ∨ (467 ≤ c ∧ c < 467 + D)
def zkP (D c : Nat) : Prop := (457 ≤ c ∧ c ≤ 457 + D) ∨ (467 ≤ c ∧ c < 467 + D)
def zkF (D c : Nat) : Prop := (457 ≤ c ∧ c ≤ 457 + D) ∨ (467 ≤ c ∧ c ≤ 467 + D)
def zkG (D c : Nat) : Prop := zkF D c ∨ c = 476
section RMB
variable {D tm n : Nat} {T : Nat → Int} {g h h' : mj_H} {a e t : Int} {X0 Y : Nat → Nat → Int} {Z Z' : Nat → Prop}
variable {pc : Nat} {M : mj_M} {loc : mj_L} {st : List Value} {Q : mj_R → Prop} {r1 r2 r3 r4 r5 : Nat}
theorem rM.rd (s : rM g n X0 Z Y t a e h) : h[455]? = some (.inr (4, RF a e t)) := by
  obtain ⟨V, X, m, _, ⟨x1, x2, x3, x4⟩, _⟩ := s
  have h1 := m.O 14 cq_456.2.2.2.2.1 (by decide)
  rw [h1]
  show some (Sum.inr (4, [Value.ref 19, .ref (X 455 1).toNat, .int (jn (X 455 2)), .int (jn (X 455 3)), .int (jn (X 455 4)), .ref 456, .ref 466, .ref 476])) = _
  rw [x1, x2, x3, x4]
  rfl
theorem rM.jBuf (s : rM g n X0 Z Y t a e h) (b : bX X0 tm T) : jBuf tm T h := by
  obtain ⟨V, X, m, ⟨_, _, sb⟩, _, _⟩ := s
  have e13 := sb.2.2 13 (Or.inl ⟨by decide, by decide⟩)
  have e14 := sb.2.2 14 (Or.inl ⟨by decide, by decide⟩)
  refine ⟨?_, ?_⟩
  · have h1 := m.O 27 cq_456.2.2.2.2.2.2.2.1 (by decide)
    rw [h1]
    show some (Sum.inr (7, [Value.ref (13 + 1), .int (jn (X 13 1))])) = _
    rw [e13, b.1]
  · have h1 := m.2.2 14
    rw [cq_456.2.2.2.2.2.2.2.2] at h1
    have h2 : h[14]? = some (.inl (2, cL 14, fun j => .int (jn (X 14 j)))) := h1
    rw [cq_456.2.2.2.2.2.2.1] at h2
    exact ⟨_, h2, fun j hj => by rw [e14]; exact b.2 j hj⟩
theorem rM.rv (s : rM g n X0 Z Y t a e h) (hr : 1 ≤ r2) (hd : st.drop (r2 - 1) = .ref 455 :: st.drop r2) : ∀ m, mj_recv (.invokevirtual m) r2 4 st h = true := by
  intro m
  have h1 := s.rd
  match r2, hr, hd with
  | r2 + 1, _, hd =>
    simp only [mj_recv, hd, h1, decide_true]
theorem rm_g {f i : Nat} {v : Value} (s : rM g n X0 Z Y t a e h) (hc : M.2.2.2.2.1 pc = some (.getfield f, 4, i, r3, r4, r5)) (hf : (RF a e t)[i]? = some v) (k : mj_T D M (pc + 3) loc (v :: st) h Q) : mj_T D M pc loc (.ref 455 :: st) h Q := mj_T.gfl hc s.rd hf k
theorem rM.upf (s : rM g n X0 Z Y t a e h) {i : Nat} {b a' e' t' : Int} (hi : 2 ≤ i ∧ i ≤ 4) (h2 : a' = if i = 2 then b else a) (h3 : e' = if i = 3 then b else e) (h4 : t' = if i = 4 then b else t) : rM g n X0 Z Y t' a' e' (h.set 455 (.inr (4, (RF a e t).set i (.int (jn b))))) := by
  have hrd := s.rd
  obtain ⟨V, X, m, ⟨y1, y2, y3⟩, ⟨x1, x2, x3, x4⟩, yr⟩ := s
  have h1 := m.O 14 cq_456.2.2.2.2.1 (by decide)
  have hE : jMf X 14 455 = RF a e t := by
    rw [h1] at hrd
    injection hrd with q
    injection q with q
    exact (Prod.mk.inj q).2
  have hm := m.setO (a := 455) (i := i) (k := 14) (v := b) cq_456.2.2.2.2.1 (by decide) (by
    have c : i = 2 ∨ i = 3 ∨ i = 4 := by omega
    rcases c with rfl | rfl | rfl
    · show [Value.ref 19, .ref (xup X 455 2 b 455 1).toNat, .int (jn (xup X 455 2 b 455 2)), .int (jn (xup X 455 2 b 455 3)), .int (jn (xup X 455 2 b 455 4)), .ref 456, .ref 466, .ref 476] = _
      rw [xup_at, xup_ne _ _ (Or.inr (by decide)), xup_ne _ _ (Or.inr (by decide)), xup_ne _ _ (Or.inr (by decide))]
      rfl
    · show [Value.ref 19, .ref (xup X 455 3 b 455 1).toNat, .int (jn (xup X 455 3 b 455 2)), .int (jn (xup X 455 3 b 455 3)), .int (jn (xup X 455 3 b 455 4)), .ref 456, .ref 466, .ref 476] = _
      rw [xup_at, xup_ne _ _ (Or.inr (by decide)), xup_ne _ _ (Or.inr (by decide)), xup_ne _ _ (Or.inr (by decide))]
      rfl
    · show [Value.ref 19, .ref (xup X 455 4 b 455 1).toNat, .int (jn (xup X 455 4 b 455 2)), .int (jn (xup X 455 4 b 455 3)), .int (jn (xup X 455 4 b 455 4)), .ref 456, .ref 466, .ref 476] = _
      rw [xup_at, xup_ne _ _ (Or.inr (by decide)), xup_ne _ _ (Or.inr (by decide)), xup_ne _ _ (Or.inr (by decide))]
      rfl)
  rw [hE] at hm
  have eo : ∀ c, c ≠ 455 → xup X 455 i b c = X c := fun c hc => funext fun j => xup_ne _ _ (Or.inl hc)
  refine ⟨V, _, hm, ⟨y1, y2.of (fun p kp => eo p (fun q => by rw [q, cq_456.2.2.2.2.1] at kp; omega)), ?_⟩, ?_, fun c hc => ⟨(yr c hc).1, (yr c hc).2.1, fun j hj => ?_⟩⟩
  · exact ⟨(congrFun (eo 1 (by decide)) 2).trans y3.1, (congrFun (eo 1 (by decide)) 3).trans y3.2.1, fun c hc => (eo c (by omega)).trans (y3.2.2 c hc)⟩
  · subst h2 h3 h4
    refine ⟨(xup_ne _ _ (Or.inr (by omega))).trans x1, ?_, ?_, ?_⟩
    · by_cases q : i = 2
      · subst q
        exact xup_at _ _ _ _
      · rw [if_neg q]
        exact (xup_ne _ _ (Or.inr (Ne.symm q))).trans x2
    · by_cases q : i = 3
      · subst q
        exact xup_at _ _ _ _
      · rw [if_neg q]
        exact (xup_ne _ _ (Or.inr (Ne.symm q))).trans x3
    · by_cases q : i = 4
      · subst q
        exact xup_at _ _ _ _
      · rw [if_neg q]
        exact (xup_ne _ _ (Or.inr (Ne.symm q))).trans x4
  · have := (yr c hc).1.ne
    by_cases q : c = 455
    · omega
    · rw [eo c q]
      exact (yr c hc).2.2 j hj
theorem rm_p2 {f : Nat} {b : Int} (s : rM g n X0 Z Y t a e h) (hc : M.2.2.2.2.1 pc = some (.putfield f, 4, 2, 0, r4, r5)) (k : ∀ h', rM g n X0 Z Y t b e h' → mj_T D M (pc + 3) loc st h' Q) : mj_T D M pc loc (.int (jn b) :: .ref 455 :: st) h Q := mj_T.pfl hc s.rd (Nat.le_of_ble_eq_true rfl) rfl (k _ (s.upf (i := 2) ⟨by decide, by decide⟩ rfl rfl rfl))
theorem rm_p3 {f : Nat} {b : Int} (s : rM g n X0 Z Y t a e h) (hc : M.2.2.2.2.1 pc = some (.putfield f, 4, 3, 0, r4, r5)) (k : ∀ h', rM g n X0 Z Y t a b h' → mj_T D M (pc + 3) loc st h' Q) : mj_T D M pc loc (.int (jn b) :: .ref 455 :: st) h Q := mj_T.pfl hc s.rd (Nat.le_of_ble_eq_true rfl) rfl (k _ (s.upf (i := 3) ⟨by decide, by decide⟩ rfl rfl rfl))
theorem rm_p4 {f : Nat} {b : Int} (hb : b = 0 ∨ b = 1) (s : rM g n X0 Z Y t a e h) (hc : M.2.2.2.2.1 pc = some (.putfield f, 4, 4, 2, r4, r5)) (k : ∀ h', rM g n X0 Z Y b a e h' → mj_T D M (pc + 3) loc st h' Q) : mj_T D M pc loc (.int (jn b) :: .ref 455 :: st) h Q := by
  refine mj_T.pfl hc s.rd (Nat.le_of_ble_eq_true rfl) ?_ (k _ (s.upf (i := 4) ⟨by decide, by decide⟩ rfl rfl rfl))
  rcases hb with q | q <;> subst q <;> rfl
theorem rM.mono (s : rM g n X0 Z Y t a e h) (hZ : ∀ c, Z' c → Z c) : rM g n X0 Z' Y t a e h := by
  obtain ⟨V, X, m, y, x, yr⟩ := s
  exact ⟨V, X, m, y, x, fun c hc => yr c (hZ c hc)⟩
/-- a row is written -/
theorem rM.row {V2 : Nat → Int} {X X2 : Nat → Nat → Int} {r : Nat} {w : Nat → Int} (m2 : jM g n V2 X2 h') (b2 : by0 V2) (d2 : DG X2) (y3 : sBn X0 X) (x : X 455 1 = 13 ∧ X 455 2 = a ∧ X 455 3 = e ∧ X 455 4 = t) (yr : ∀ c, Z c → isRw c ∧ sml (Y c) ∧ ∀ j, j < 13 → X c j = Y c j) (kr : isRw r) (hZ : ∀ c, Z' c → c = r ∨ Z c) (ho : ∀ c, c ≠ r → c = 1 ∨ (2 ≤ c ∧ c < 19) ∨ 455 ≤ c → X2 c = X c) (hw : sml w) (hr : ∀ j, j < 13 → X2 r j = w j) : rM g n X0 Z' (rwu Y r w) t a e h' := by
  have hk := kr.ne
  have e455 := ho 455 (by omega) (Or.inr (Or.inr (by decide)))
  refine ⟨V2, X2, m2, ⟨b2, d2, ?_⟩, by rw [e455]; exact x, fun c hc => ?_⟩
  · have e1 := ho 1 (by omega) (Or.inl rfl)
    exact ⟨by rw [e1]; exact y3.1, by rw [e1]; exact y3.2.1, fun c hc => (ho c (by omega) (by omega)).trans (y3.2.2 c hc)⟩
  · by_cases q : c = r
    · subst q
      rw [rwu_at]
      exact ⟨kr, hw, hr⟩
    · rcases hZ c hc with z | z
      · exact absurd z q
      · have hn := (yr c z).1.ne
        rw [rwu_ne _ _ q, ho c q (by omega)]
        exact yr c z
/-- a row is lost -/
theorem rM.lose {V2 : Nat → Int} {X X2 : Nat → Nat → Int} {r : Nat} (m2 : jM g n V2 X2 h') (b2 : by0 V2) (d2 : DG X2) (y3 : sBn X0 X) (x : X 455 1 = 13 ∧ X 455 2 = a ∧ X 455 3 = e ∧ X 455 4 = t) (yr : ∀ c, Z c → isRw c ∧ sml (Y c) ∧ ∀ j, j < 13 → X c j = Y c j) (kr : isRw r) (ho : ∀ c, c ≠ r → c = 1 ∨ (2 ≤ c ∧ c < 19) ∨ 455 ≤ c → X2 c = X c) : rM g n X0 (fun c => c ≠ r ∧ Z c) Y t a e h' := by
  have hk := kr.ne
  have e455 := ho 455 (by omega) (Or.inr (Or.inr (by decide)))
  refine ⟨V2, X2, m2, ⟨b2, d2, ?_⟩, by rw [e455]; exact x, fun c hc => ?_⟩
  · have e1 := ho 1 (by omega) (Or.inl rfl)
    exact ⟨by rw [e1]; exact y3.1, by rw [e1]; exact y3.2.1, fun c hc => (ho c (by omega) (by omega)).trans (y3.2.2 c hc)⟩
  · have hn := (yr c hc.2).1.ne
    rw [ho c hc.1 (by omega)]
    exact yr c hc.2
theorem rm_last {i v : Int} {r : Nat} (s : rM g n X0 Z Y t a e h) (zr : Z r) (hc : M.2.2.2.2.1 pc = some (.lastore, r1, r2, r3, r4, r5)) (h0 : 0 ≤ i ∧ i < 13) (hv : v.natAbs ≤ 999999999999999999) (k : ∀ h', rM g n X0 Z (rwu Y r (fun j => if j = i.toNat then v else Y r j)) t a e h' → mj_T D M (pc + 1) loc st h' Q) : mj_T D M pc loc (.long (jl v) :: .int (jn i) :: .ref r :: st) h Q := by
  obtain ⟨V, X, m, ⟨y1, y2, y3⟩, x, yr⟩ := s
  have kr := (yr r zr).1
  have hk := kr.ne
  refine mT_last m kr.k hc h0 (fun h2 m2 => k h2 ?_)
  have eo : ∀ c, c ≠ r → xup X r i.toNat v c = X c := fun c hc => funext fun j => xup_ne _ _ (Or.inl hc)
  refine rM.row m2 y1 (y2.of (fun p kp => eo p (fun q => by have := kr.k; rw [q] at kp; omega))) y3 x yr kr (fun c hc => Or.inr hc) (fun c hc _ => eo c hc) (fun j hj => ?_) (fun j hj => ?_)
  · show (if j = i.toNat then v else Y r j).natAbs ≤ _
    split
    · exact hv
    · exact (yr r zr).2.1 j hj
  · show xup X r i.toNat v r j = if j = i.toNat then v else Y r j
    by_cases q : j = i.toNat
    · rw [if_pos q, q]
      exact xup_at _ _ _ _
    · rw [if_neg q, xup_ne _ _ (Or.inr q)]
      exact (yr r zr).2.2 j hj
theorem sml_0 : sml (fun _ => 0) := fun _ _ => by
  show (0 : Int).natAbs ≤ _
  decide
theorem rm_165 {r : Nat} (s : rM g n X0 Z Y t a e h) (kr : isRw r) (hZ : ∀ c, Z' c → c = r ∨ Z c) : mj_Ok (D + 1) 165 [.ref r] h (fun z => ∃ h2, rM g n X0 Z' (rwu Y r (fun _ => 0)) t a e h2 ∧ z = (.inl none, h2)) := by
  obtain ⟨V, X, m, ⟨y1, y2, y3⟩, x, yr⟩ := s
  have hk := kr.ne
  refine (mS_clear (D := D) m kr.k).to (fun z hz => ?_)
  obtain ⟨h2, m2, rfl⟩ := hz
  have eo : ∀ c, c ≠ r → xfl X r (fun _ => 0) 13 c = X c := fun c hc => xfl_off _ _ _ hc
  exact ⟨h2, rM.row m2 y1 (y2.of (fun p kp => eo p (fun q => by have := kr.k; rw [q] at kp; omega))) y3 x yr kr hZ (fun c hc _ => eo c hc) sml_0 (fun j hj => xfl_at _ _ _ hj), rfl⟩
theorem rm_164 {r q : Nat} (s : rM g n X0 Z Y t a e h) (zq : Z q) (kr : isRw r) (hZ : ∀ c, Z' c → c = r ∨ Z c) : mj_Ok (D + 1) 164 [.ref q, .ref r] h (fun z => ∃ h2, rM g n X0 Z' (rwu Y r (Y q)) t a e h2 ∧ z = (.inl none, h2)) := by
  obtain ⟨V, X, m, ⟨y1, y2, y3⟩, x, yr⟩ := s
  have kq := (yr q zq).1
  have hk := kr.ne
  refine (mS_copy (D := D) m kq.k kr.k).to (fun z hz => ?_)
  obtain ⟨h2, m2, rfl⟩ := hz
  have eo : ∀ c, c ≠ r → xfl X r (X q) 13 c = X c := fun c hc => xfl_off _ _ _ hc
  exact ⟨h2, rM.row m2 y1 (y2.of (fun p kp => eo p (fun q => by have := kr.k; rw [q] at kp; omega))) y3 x yr kr hZ (fun c hc _ => eo c hc) (yr q zq).2.1 (fun j hj => (xfl_at _ _ _ hj).trans ((yr q zq).2.2 j hj)), rfl⟩
theorem rm_164l {r q : Nat} (s : rM g n X0 Z Y t a e h) (kq : isRw q) (kr : isRw r) : mj_Ok (D + 1) 164 [.ref q, .ref r] h (fun z => ∃ h2, rM g n X0 (fun _ => False) Y t a e h2 ∧ z = (.inl none, h2)) := by
  obtain ⟨V, X, m, ⟨y1, y2, y3⟩, x, yr⟩ := s
  have hk := kr.ne
  refine (mS_copy (D := D) m kq.k kr.k).to (fun z hz => ?_)
  obtain ⟨h2, m2, rfl⟩ := hz
  have eo : ∀ c, c ≠ r → xfl X r (X q) 13 c = X c := fun c hc => xfl_off _ _ _ hc
  have z := rM.lose m2 y1 (y2.of (fun p kp => eo p (fun q => by have := kr.k; rw [q] at kp; omega))) y3 x yr kr (fun c hc _ => eo c hc)
  exact ⟨h2, z.mono (fun c hc => hc.elim), rfl⟩
theorem rw13_cg {f f' : Nat → Int} (h : ∀ j, j < 13 → f j = f' j) : rw13 f = rw13 f' := funext fun j => by
  show (if j < 13 then f j else 0) = if j < 13 then f' j else 0
  by_cases q : j < 13
  · rw [if_pos q, if_pos q, h j q]
  · rw [if_neg q, if_neg q]
/-- what an operation leaves in a row: its result, or nothing is told -/
def rOp (g : mj_H) (n : Nat) (X0 : Nat → Nat → Int) (Z : Nat → Prop) (Y : Nat → Nat → Int) (r : Nat) (ok : Prop) (w : Nat → Int) (t a e : Int) (z : mj_R) : Prop := ∃ h2, (ok ∧ rM g n X0 Z (rwu Y r w) t a e h2 ∧ z = (.inl (some (.int (jn 1))), h2)) ∨ (¬ ok ∧ rM g n X0 (fun c => c ≠ r ∧ Z c) Y t a e h2 ∧ z = (.inl (some (.int (jn 0))), h2))
theorem DG_xFr {X X1 : Nat → Nat → Int} {r : Nat} (kr : isRw r) (d : DG X) (h : xF (fun x => x = r) X X1) : DG X1 := fun p kp => by
  have q := h.2 ⟨⟨(d 20 cq_d20).1, by have := (d 20 cq_d20).2; rw [mK_z.1] at this; omega⟩, ⟨(d 50 cq_d50).1, by have := (d 50 cq_d50).2; rw [mK_z.2.1] at this; omega⟩, ⟨(d 80 cq_d80).1, by have := (d 80 cq_d80).2; rw [mK_z.2.2.1] at this; omega⟩, ⟨(d 110 cq_d110).1, by have := (d 110 cq_d110).2; rw [mK_z.2.2.2.1] at this; omega⟩⟩
  obtain ⟨q1, q2, q3, q4⟩ := q
  by_cases c1 : p = 20
  · subst c1
    rw [mK_z.1]
    omega
  by_cases c2 : p = 50
  · subst c2
    rw [mK_z.2.1]
    omega
  by_cases c3 : p = 80
  · subst c3
    rw [mK_z.2.2.1]
    omega
  by_cases c4 : p = 110
  · subst c4
    rw [mK_z.2.2.2.1]
    omega
  have c5 : ¬ p = r := fun e => by
    have := kr.k
    rw [e] at kp
    omega
  rw [h.1 p c1 c2 c3 c4 c5]
  exact d p kp
theorem rm_167 {p q : Nat} {f : Int} (s : rM g n X0 Z Y t a e h) (zp : Z p) (zq : Z q) (hf : f = 1 ∨ f = -1) : mj_Ok (D + 2) 167 [.ref p, .ref q, .int (jn f), .ref p] h (rOp g n X0 Z Y p (sml (fun j => Y p j + f * Y q j)) (fun j => Y p j + f * Y q j) t a e) := by
  obtain ⟨V, X, m, ⟨y1, y2, y3⟩, x, yr⟩ := s
  have kp := (yr p zp).1
  have hk := kp.ne
  have sm : ∀ c, Z c → sml (X c) := fun c hc => sml_cg (fun j hj => ((yr c hc).2.2 j hj).symm) (yr c hc).2.1
  have ee : ∀ j, j < 13 → X p j + f * X q j = Y p j + f * Y q j := fun j hj => by rw [(yr p zp).2.2 j hj, (yr q zq).2.2 j hj]
  refine (mS_sum (D := D) m kp.k (yr q zq).1.k kp.k (sm p zp) (sm q zq) hf).to (fun z hz => ?_)
  obtain ⟨h2, m2, hz⟩ := hz
  have eo : ∀ c, c ≠ p → xfl X p (fun e => X p e + f * X q e) 13 c = X c := fun c hc => xfl_off _ _ _ hc
  have dd := y2.of (fun c kc => eo c (fun w => by have := kp.k; rw [w] at kc; omega))
  rcases hz with ⟨z1, rfl⟩ | ⟨z1, rfl⟩
  · have z2 := sml_cg ee z1
    exact ⟨h2, Or.inl ⟨z2, rM.row m2 y1 dd y3 x yr kp (fun c hc => Or.inr hc) (fun c hc _ => eo c hc) z2 (fun j hj => (xfl_at _ _ _ hj).trans (ee j hj)), rfl⟩⟩
  · exact ⟨h2, Or.inr ⟨fun w => z1 (sml_cg (fun j hj => (ee j hj).symm) w), rM.lose m2 y1 dd y3 x yr kp (fun c hc _ => eo c hc), rfl⟩⟩
theorem rm_11 {p q : Nat} (s : rM g n X0 Z Y t a e h) (zp : Z p) (zq : Z q) : mj_Ok (D + 4) 11 [.ref 19, .ref p, .ref q, .ref p] h (rOp g n X0 Z Y p (fit13 (pz_mul (rw13 (Y p)) (rw13 (Y q)))) (pz_mul (rw13 (Y p)) (rw13 (Y q))) t a e) := by
  obtain ⟨V, X, m, ⟨y1, y2, y3⟩, x, yr⟩ := s
  have kp := (yr p zp).1
  have hk := kp.ne
  have sm : ∀ c, Z c → sml (X c) := fun c hc => sml_cg (fun j hj => ((yr c hc).2.2 j hj).symm) (yr c hc).2.1
  refine (mD_mulRows (D := D) m kp.k (yr q zq).1.k (sm p zp) (sm q zq) kp.k).to (fun z hz => ?_)
  rw [rw13_cg (yr p zp).2.2, rw13_cg (yr q zq).2.2] at hz
  obtain ⟨V2, X2, h2, m2, df, xf, hz⟩ := hz
  have eo : ∀ c, c ≠ p → c = 1 ∨ (2 ≤ c ∧ c < 19) ∨ 455 ≤ c → X2 c = X c := fun c hc hh => xf.1 c (by omega) (by omega) (by omega) (by omega) hc
  rcases hz with ⟨z1, rfl, hx⟩ | ⟨z1, rfl⟩
  · exact ⟨h2, Or.inl ⟨z1, rM.row m2 (y1.dF df) (DG_xFr kp y2 xf) y3 x yr kp (fun c hc => Or.inr hc) eo z1.1 hx, rfl⟩⟩
  · exact ⟨h2, Or.inr ⟨z1, rM.lose m2 (y1.dF df) (DG_xFr kp y2 xf) y3 x yr kp eo, rfl⟩⟩
theorem rm_12 {p z : Nat} (s : rM g n X0 Z Y t a e h) (zp : Z p) (hz : z ≤ 12) : mj_Ok (D + 4) 12 [.ref 19, .ref p, .int (jn (z : Int)), .ref p] h (rOp g n X0 Z Y p (fit13 (pw (rw13 (Y p)) z)) (pw (rw13 (Y p)) z) t a e) := by
  obtain ⟨V, X, m, ⟨y1, y2, y3⟩, x, yr⟩ := s
  have kp := (yr p zp).1
  have hk := kp.ne
  have sm : ∀ c, Z c → sml (X c) := fun c hc => sml_cg (fun j hj => ((yr c hc).2.2 j hj).symm) (yr c hc).2.1
  refine (mD_raise (D := D) m kp.k kp.k (sm p zp) (e := z) hz (y1.p cq_d80)).to (fun z hz => ?_)
  rw [rw13_cg (yr p zp).2.2] at hz
  obtain ⟨V2, X2, h2, m2, df, xf, hz⟩ := hz
  have eo : ∀ c, c ≠ p → c = 1 ∨ (2 ≤ c ∧ c < 19) ∨ 455 ≤ c → X2 c = X c := fun c hc hh => xf.1 c (by omega) (by omega) (by omega) (by omega) hc
  rcases hz with ⟨z1, rfl, hx⟩ | ⟨z1, rfl⟩
  · exact ⟨h2, Or.inl ⟨z1, rM.row m2 (y1.dF df) (DG_xFr kp y2 xf) y3 x yr kp (fun c hc => Or.inr hc) eo z1.1 hx, rfl⟩⟩
  · exact ⟨h2, Or.inr ⟨z1, rM.lose m2 (y1.dF df) (DG_xFr kp y2 xf) y3 x yr kp eo, rfl⟩⟩
theorem rm_48 {b k : Nat} (s : rM g n X0 Z Y t a e h) (hb : b = 456 ∨ b = 466) (hk : k ≤ 8) : mj_Ok (D + 1) 48 [.ref b, .int (jn (k : Int))] h (fun z => z = (.inl (some (.ref (b + 1 + k))), h)) := by
  obtain ⟨V, X, m, _, _, _⟩ := s
  have kb : cK b = 6 ∧ cL b = 9 := by
    rcases hb with rfl | rfl
    · exact ⟨cq_456.1, cq_456.2.1⟩
    · exact ⟨cq_456.2.2.1, cq_456.2.2.2.1⟩
  refine mj_Ok.of (M := mj_m48) (loc := [some (.ref b), some (.int (jn (k : Int)))]) rfl rfl rfl ?_
  iterate 2 refine mj_T.pl rfl rfl rfl rfl ?_
  refine mj_T.if0 (a := (k : Int)) rfl ⟨by omega, by omega⟩ (fun c => ?_) (fun _ => ?_)
  · simp only [jc, decide_eq_true_eq] at c
    omega
  iterate 2 refine mj_T.pl rfl rfl rfl rfl ?_
  refine mT_alen m 6 kb.1 (by decide) rfl ?_
  refine mj_T.icmp (a := (k : Int)) (b := ((cL b : Nat) : Int)) rfl ⟨by omega, by omega⟩ ⟨by omega, by omega⟩ (fun c => ?_) (fun _ => ?_)
  · simp only [jc, Bool.not_eq_true', Bool.not_eq_false', decide_eq_true_eq, decide_eq_false_iff_not] at c
    have := kb.2
    omega
  iterate 2 refine mj_T.pl rfl rfl rfl rfl ?_
  refine mT_aald m 6 kb.1 (by decide) rfl rfl (by omega) ⟨by omega, by omega⟩ ?_
  exact mj_T.ret rfl rfl rfl (by
    rw [Int.toNat_natCast]
    rfl)
end RMB
/-! The class's reader over the memory: blanks, signs, numbers. -/
section JRD2
variable {D tm n : Nat} {T : Nat → Int} {g h h' : mj_H} {a e t : Int} {X0 Y : Nat → Nat → Int} {Z : Nat → Prop}
variable {pc : Nat} {M : mj_M} {loc : mj_L} {st : List Value} {Q : mj_R → Prop} {r1 r2 r3 r4 r5 : Nat}
theorem rm_at {p : Nat} {m : Nat} (s : rM g n X0 Z Y t (p : Int) e h) (hB : bX X0 tm T) (ht : tm ≤ 200) (hT : ∀ j : Nat, j < tm → 1 ≤ T j ∧ T j ≤ 255) (hp : p ≤ 200) (hc : M.2.2.2.2.1 pc = some (.invokevirtual m, 79, 2, r3, r4, 7)) (hk : mj_kind (.invokevirtual m) r3 = 3) (hcat : mj_cat st ≤ 8) (k : mj_T (D + 1) M (pc + 3) loc (.int (jn (rvt T tm p)) :: st) h Q) : mj_T (D + 1) M pc loc (.int (jn (p : Int)) :: .ref 13 :: st) h Q := by
  have b := s.jBuf hB
  refine mj_T.call hc hk (Nat.le_add_left _ _) hcat (by simp [mj_recv, b.1]) rfl (rq_at (D := D) b ht hT ⟨by omega, by omega⟩) (fun v h' hq => ?_) (fun i h' hq => by cases hq)
  cases hq
  have e : (if 0 ≤ (p : Int) ∧ (p : Int) < (tm : Int) then T (p : Int).toNat else -1) = rvt T tm p := by
    unfold rvt
    rw [Int.toNat_natCast]
    by_cases c : p < tm
    · rw [if_pos c, if_pos ⟨by omega, by omega⟩]
    · rw [if_neg c, if_neg (by omega)]
  rw [e]
  exact k
theorem rm_skips_loop (hB : bX X0 tm T) (ht : tm ≤ 200) (hT : ∀ j : Nat, j < tm → 1 ≤ T j ∧ T j ≤ 255) {Q : mj_R → Prop} : ∀ (m p i : Nat) (h : mj_H), p + m = tm → i ≤ p → rM g n X0 Z Y t (p : Int) e h → (∀ h2, rM g n X0 Z Y t (rsk T m p : Nat) e h2 → Q (.inl none, h2)) → mj_T (D + 1) mj_m56 2 [some (.ref 455), some (.int (jn (i : Int)))] [] h Q := by
  intro m
  induction m with
  | zero =>
    intro p i h hp hi s hend
    have b := s.jBuf hB
    iterate 2 refine mj_T.pl rfl rfl rfl rfl ?_
    refine rm_g s rfl rfl ?_
    refine mj_T.gfl rfl b.1 rfl ?_
    refine mj_T.icmp (a := (i : Int)) (b := (tm : Int)) rfl ⟨by omega, by omega⟩ ⟨by omega, by omega⟩ (fun _ => mj_T.ret rfl rfl rfl (hend h s)) (fun _ => ?_)
    refine mj_T.pl rfl rfl rfl rfl ?_
    refine rm_g s rfl rfl ?_
    refine mj_T.pl rfl rfl rfl rfl ?_
    refine rm_g s rfl rfl ?_
    refine rm_at s hB ht hT (by omega) rfl rfl (Nat.le_of_ble_eq_true rfl) ?_
    rw [show rvt T tm p = -1 from if_neg (by omega)]
    refine mj_T.pl rfl rfl rfl rfl ?_
    refine mj_T.icmp (a := -1) (b := 32) rfl ⟨by decide, by decide⟩ ⟨by decide, by decide⟩ (fun _ => mj_T.ret rfl rfl rfl (hend h s)) (fun c => absurd c (by decide))
  | succ m ih =>
    intro p i h hp hi s hend
    have b := s.jBuf hB
    have hTp := hT p (by omega)
    iterate 2 refine mj_T.pl rfl rfl rfl rfl ?_
    refine rm_g s rfl rfl ?_
    refine mj_T.gfl rfl b.1 rfl ?_
    refine mj_T.icmp (a := (i : Int)) (b := (tm : Int)) rfl ⟨by omega, by omega⟩ ⟨by omega, by omega⟩ (fun c => ?_) (fun _ => ?_)
    · have c := of_decide_eq_true c
      omega
    refine mj_T.pl rfl rfl rfl rfl ?_
    refine rm_g s rfl rfl ?_
    refine mj_T.pl rfl rfl rfl rfl ?_
    refine rm_g s rfl rfl ?_
    refine rm_at s hB ht hT (by omega) rfl rfl (Nat.le_of_ble_eq_true rfl) ?_
    rw [show rvt T tm p = T p from if_pos (by omega)]
    refine mj_T.pl rfl rfl rfl rfl ?_
    refine mj_T.icmp (a := T p) (b := 32) rfl ⟨by omega, by omega⟩ ⟨by decide, by decide⟩ (fun c => ?_) (fun c => ?_)
    · simp only [jc, Bool.not_eq_true', decide_eq_false_iff_not] at c
      rw [show rsk T (m + 1) p = p from if_neg c] at hend
      exact mj_T.ret rfl rfl rfl (hend h s)
    · simp only [jc, Bool.not_eq_false', decide_eq_true_eq] at c
      rw [show rsk T (m + 1) p = rsk T m (p + 1) from if_pos c] at hend
      iterate 2 refine mj_T.pl rfl rfl rfl rfl ?_
      refine rm_g s rfl rfl ?_
      refine mj_T.pl rfl rfl rfl rfl ?_
      refine mj_T.iadd (a := (p : Int)) (b := 1) rfl ?_
      rw [show (p : Int) + 1 = ((p + 1 : Nat) : Int) by omega]
      refine rm_p2 s rfl (fun h1 s1 => ?_)
      refine mj_T.iinc (a := (i : Int)) rfl rfl ?_
      refine mj_T.eq (loc2 := [some (.ref 455), some (.int (jn ((i + 1 : Nat) : Int)))]) ?_ rfl (by rw [show ((i + 1 : Nat) : Int) = (i : Int) + 1 by omega]; rfl) rfl rfl
      refine mj_T.pl rfl rfl rfl rfl ?_
      exact ih (p + 1) (i + 1) h1 (by omega) (by omega) s1 hend
theorem rm_skips {p : Nat} (hB : bX X0 tm T) (ht : tm ≤ 200) (hT : ∀ j : Nat, j < tm → 1 ≤ T j ∧ T j ≤ 255) (hp : p ≤ tm) (s : rM g n X0 Z Y t (p : Int) e h) : mj_Ok (D + 2) 56 [.ref 455] h (fun r => ∃ h2, rM g n X0 Z Y t (rskp T tm p : Nat) e h2 ∧ r = (.inl none, h2)) := by
  refine mj_Ok.of (M := mj_m56) (loc := [some (.ref 455), none]) rfl rfl rfl ?_
  iterate 2 refine mj_T.pl rfl rfl rfl rfl ?_
  refine rm_skips_loop (D := D) hB ht hT (tm - p) p 0 h (by omega) (Nat.zero_le _) s (fun h2 s2 => ⟨h2, s2, rfl⟩)
theorem rm_takes {p : Nat} {c : Int} (hc : 1 ≤ c ∧ c ≤ 255) (hB : bX X0 tm T) (ht : tm ≤ 200) (hT : ∀ j : Nat, j < tm → 1 ≤ T j ∧ T j ≤ 255) (hp : p ≤ tm) (s : rM g n X0 Z Y t (p : Int) e h) : mj_Ok (D + 3) 57 [.ref 455, .int (jn c)] h (fun r => (∃ (b : Nat) (h2 : mj_H), (rtk T tm c p = some b ∧ b ≤ tm ∧ p < b) ∧ rM g n X0 Z Y t (b : Int) e h2 ∧ r = (.inl (some (.int (jn 1))), h2)) ∨ (∃ h2, rtk T tm c p = none ∧ rM g n X0 Z Y t (rskp T tm p : Nat) e h2 ∧ r = (.inl (some (.int (jn 0))), h2))) := by
  refine mj_Ok.of (M := mj_m57) (loc := [some (.ref 455), some (.int (jn c))]) rfl rfl rfl ?_
  have hle := rskp_le (T := T) hp
  have hge := rskp_ge (T := T) (tm := tm) p
  refine mj_T.pl rfl rfl rfl rfl ?_
  refine mj_T.call rfl rfl (Nat.le_of_ble_eq_true rfl) (Nat.le_of_ble_eq_true rfl) (s.rv (by decide) rfl _) rfl (rm_skips (D := D) hB ht hT hp s) (fun v h1 hq => ?_) (fun i h1 hq => by obtain ⟨_, _, hq⟩ := hq; cases hq)
  obtain ⟨_, s1, hq⟩ := hq
  cases hq
  obtain ⟨q, hqd⟩ : ∃ q, rskp T tm p = q := ⟨_, rfl⟩
  rw [hqd] at s1 hle hge ⊢
  refine mj_T.pl rfl rfl rfl rfl ?_
  refine rm_g s1 rfl rfl ?_
  refine mj_T.pl rfl rfl rfl rfl ?_
  refine rm_g s1 rfl rfl ?_
  refine rm_at s1 hB ht hT (by omega) rfl rfl (Nat.le_of_ble_eq_true rfl) ?_
  have hb := rvt_bd (tm := tm) hT q
  refine mj_T.pl rfl rfl rfl rfl ?_
  refine mj_T.icmp (a := rvt T tm q) (b := c) rfl ⟨by omega, by omega⟩ ⟨by omega, by omega⟩ (fun hc2 => ?_) (fun hc2 => ?_)
  · simp only [jc, decide_eq_true_eq] at hc2
    have hlt : q < tm ∧ T q = c := by
      unfold rvt at hc2
      by_cases c1 : q < tm
      · rw [if_pos c1] at hc2
        exact ⟨c1, hc2⟩
      · rw [if_neg c1] at hc2
        omega
    iterate 2 refine mj_T.pl rfl rfl rfl rfl ?_
    refine rm_g s1 rfl rfl ?_
    refine mj_T.pl rfl rfl rfl rfl ?_
    refine mj_T.iadd (a := (q : Int)) (b := 1) rfl ?_
    rw [show (q : Int) + 1 = ((q + 1 : Nat) : Int) by omega]
    refine rm_p2 s1 rfl (fun h2 s2 => ?_)
    refine mj_T.pl rfl rfl rfl rfl ?_
    exact mj_T.ret rfl rfl rfl (Or.inl ⟨q + 1, h2, ⟨by unfold rtk; rw [hqd, if_pos hlt], by omega, by omega⟩, s2, rfl⟩)
  · simp only [jc, decide_eq_false_iff_not] at hc2
    refine mj_T.pl rfl rfl rfl rfl ?_
    refine mj_T.ret rfl rfl rfl (Or.inr ⟨h1, ?_, s1, rfl⟩)
    unfold rtk
    rw [hqd, if_neg]
    intro hn
    exact hc2 (by rw [show rvt T tm q = T q from if_pos hn.1]; exact hn.2)
theorem rm_num_loop (hB : bX X0 tm T) (ht : tm ≤ 200) (hT : ∀ j : Nat, j < tm → 1 ≤ T j ∧ T j ≤ 255) {s0 : Nat} {Q : mj_R → Prop} : ∀ (m k : Nat) (h : mj_H), s0 + k + m = tm → rM g n X0 Z Y t ((s0 + k : Nat) : Int) e h → (∀ (k2 : Nat) (h2 : mj_H) (l4 : Option Value), s0 + k2 = rdg T m (s0 + k) → rM g n X0 Z Y t ((s0 + k2 : Nat) : Int) e h2 → mj_T (D + 1) mj_m54 78 [some (.ref 455), some (.int (jn (s0 : Int))), some (.long (jl (rvl T s0 k2))), none, l4] [] h2 Q) → mj_T (D + 1) mj_m54 10 [some (.ref 455), some (.int (jn (s0 : Int))), some (.long (jl (rvl T s0 k))), none, some (.int (jn (k : Int)))] [] h Q := by
  intro m
  induction m with
  | zero =>
    intro k h hk s hend
    have b := s.jBuf hB
    iterate 2 refine mj_T.pl rfl rfl rfl rfl ?_
    refine rm_g s rfl rfl ?_
    refine mj_T.gfl rfl b.1 rfl ?_
    refine mj_T.icmp (a := (k : Int)) (b := (tm : Int)) rfl ⟨by omega, by omega⟩ ⟨by omega, by omega⟩ (fun _ => hend k h _ rfl s) (fun _ => ?_)
    refine mj_T.pl rfl rfl rfl rfl ?_
    refine rm_g s rfl rfl ?_
    refine mj_T.pl rfl rfl rfl rfl ?_
    refine rm_g s rfl rfl ?_
    refine rm_at s hB ht hT (by omega) rfl rfl (Nat.le_of_ble_eq_true rfl) ?_
    rw [show rvt T tm (s0 + k) = -1 from if_neg (by omega)]
    refine mj_T.call rfl rfl (Nat.le_of_ble_eq_true rfl) (Nat.le_of_ble_eq_true rfl) rfl rfl (rq_isDigit (D := D) (v := -1) ⟨by decide, by decide⟩) (fun v' h' hq' => ?_) (fun i h' hq' => by rcases hq' with ⟨_, h⟩ | ⟨_, h⟩ <;> cases h)
    rcases hq' with ⟨hd, _⟩ | ⟨_, hq'⟩
    · omega
    cases hq'
    refine mj_T.if0 (a := 0) rfl ⟨by decide, by decide⟩ (fun _ => hend k h _ rfl s) (fun hc2 => by simp [jc] at hc2)
  | succ m ih =>
    intro k h hk s hend
    have b := s.jBuf hB
    have hTa := hT (s0 + k) (by omega)
    iterate 2 refine mj_T.pl rfl rfl rfl rfl ?_
    refine rm_g s rfl rfl ?_
    refine mj_T.gfl rfl b.1 rfl ?_
    refine mj_T.icmp (a := (k : Int)) (b := (tm : Int)) rfl ⟨by omega, by omega⟩ ⟨by omega, by omega⟩ (fun c => ?_) (fun _ => ?_)
    · have c := of_decide_eq_true c
      omega
    refine mj_T.pl rfl rfl rfl rfl ?_
    refine rm_g s rfl rfl ?_
    refine mj_T.pl rfl rfl rfl rfl ?_
    refine rm_g s rfl rfl ?_
    refine rm_at s hB ht hT (by omega) rfl rfl (Nat.le_of_ble_eq_true rfl) ?_
    rw [show rvt T tm (s0 + k) = T (s0 + k) from if_pos (by omega)]
    refine mj_T.call rfl rfl (Nat.le_of_ble_eq_true rfl) (Nat.le_of_ble_eq_true rfl) rfl rfl (rq_isDigit (D := D) (v := T (s0 + k)) ⟨by omega, by omega⟩) (fun v' h' hq' => ?_) (fun i h' hq' => by rcases hq' with ⟨_, h⟩ | ⟨_, h⟩ <;> cases h)
    rcases hq' with ⟨hd, hq'⟩ | ⟨hd, hq'⟩
    · cases hq'
      rw [show rdg T (m + 1) (s0 + k) = rdg T m (s0 + k + 1) from if_pos hd] at hend
      refine mj_T.if0 (a := 1) rfl ⟨by decide, by decide⟩ (fun hc2 => by simp [jc] at hc2) (fun _ => ?_)
      iterate 2 refine mj_T.pl rfl rfl rfl rfl ?_
      refine mj_T.eq (pc2 := 43) (st2 := [.long (jl 10), .long (jl (rvl T s0 k))]) ?_ rfl rfl rfl rfl
      refine mj_T.lmul rfl ?_
      refine mj_T.pl rfl rfl rfl rfl ?_
      refine rm_g s rfl rfl ?_
      refine mj_T.pl rfl rfl rfl rfl ?_
      refine rm_g s rfl rfl ?_
      refine rm_at s hB ht hT (by omega) rfl rfl (Nat.le_of_ble_eq_true rfl) ?_
      rw [show rvt T tm (s0 + k) = T (s0 + k) from if_pos (by omega)]
      refine mj_T.i2l rfl ⟨by omega, by omega⟩ ?_
      refine mj_T.ladd rfl ?_
      refine mj_T.pl rfl rfl rfl rfl ?_
      refine mj_T.lsub (b := 48) rfl ?_
      rw [show rvl T s0 k * 10 + T (s0 + k) - 48 = rvl T s0 (k + 1) by show _ = 10 * rvl T s0 k + T (s0 + k) - 48; omega]
      refine mj_T.pl (loc' := [some (.ref 455), some (.int (jn (s0 : Int))), some (.long (jl (rvl T s0 (k + 1)))), none, some (.int (jn (k : Int)))]) rfl rfl rfl rfl ?_
      iterate 2 refine mj_T.pl rfl rfl rfl rfl ?_
      refine rm_g s rfl rfl ?_
      refine mj_T.pl rfl rfl rfl rfl ?_
      refine mj_T.iadd (a := ((s0 + k : Nat) : Int)) (b := 1) rfl ?_
      rw [show ((s0 + k : Nat) : Int) + 1 = ((s0 + (k + 1) : Nat) : Int) by omega]
      refine rm_p2 s rfl (fun h1 s1 => ?_)
      refine mj_T.iinc (a := (k : Int)) rfl rfl ?_
      refine mj_T.eq (loc2 := [some (.ref 455), some (.int (jn (s0 : Int))), some (.long (jl (rvl T s0 (k + 1)))), none, some (.int (jn ((k + 1 : Nat) : Int)))]) ?_ rfl (by rw [show ((k + 1 : Nat) : Int) = (k : Int) + 1 by omega]; rfl) rfl rfl
      refine mj_T.pl rfl rfl rfl rfl ?_
      exact ih (k + 1) h1 (by omega) s1 hend
    · cases hq'
      rw [show rdg T (m + 1) (s0 + k) = s0 + k from if_neg hd] at hend
      refine mj_T.if0 (a := 0) rfl ⟨by decide, by decide⟩ (fun _ => hend k h _ rfl s) (fun hc2 => by simp [jc] at hc2)
theorem rm_number {p : Nat} (hB : bX X0 tm T) (ht : tm ≤ 200) (hT : ∀ j : Nat, j < tm → 1 ≤ T j ∧ T j ≤ 255) (hp : p ≤ tm) (s : rM g n X0 Z Y t (p : Int) (-1) h) : mj_Ok (D + 2) 54 [.ref 455] h (fun r => ∃ (k : Nat) (h2 : mj_H), rdgp T tm p = p + k ∧ p + k ≤ tm ∧ ((k ≤ 18 ∧ rM g n X0 Z Y t ((p + k : Nat) : Int) (-1) h2 ∧ r = (.inl (some (.long (jl (rvl T p k)))), h2)) ∨ (18 < k ∧ rM g n X0 Z Y t ((p + k : Nat) : Int) (p : Int) h2 ∧ r = (.inl (some (.long (jl 0))), h2)))) := by
  refine mj_Ok.of (M := mj_m54) (loc := [some (.ref 455), none, none, none, none]) rfl rfl rfl ?_
  refine mj_T.pl rfl rfl rfl rfl ?_
  refine rm_g s rfl rfl ?_
  refine mj_T.pl (loc' := [some (.ref 455), some (.int (jn (p : Int))), none, none, none]) rfl rfl rfl rfl ?_
  iterate 4 refine mj_T.pl rfl rfl rfl rfl ?_
  refine rm_num_loop (D := D) hB ht hT (tm - p) 0 h (by omega) s (fun k h2 l4 hk s2 => ?_)
  have hdl := rdg_le (T := T) (tm - p) (p + 0)
  rw [← hk] at hdl
  refine mj_T.pl rfl rfl rfl rfl ?_
  refine rm_g s2 rfl rfl ?_
  refine mj_T.pl rfl rfl rfl rfl ?_
  refine mj_T.isub (a := ((p + k : Nat) : Int)) (b := (p : Int)) rfl ?_
  rw [show ((p + k : Nat) : Int) - (p : Int) = (k : Int) by omega]
  refine mj_T.pl rfl rfl rfl rfl ?_
  refine mj_T.icmp (a := (k : Int)) (b := 18) rfl ⟨by omega, by omega⟩ ⟨by decide, by decide⟩ (fun c => ?_) (fun c => ?_)
  · have c := of_decide_eq_true c
    refine mj_T.pl rfl rfl rfl rfl ?_
    exact mj_T.ret rfl rfl rfl ⟨k, h2, hk.symm, by omega, Or.inl ⟨by omega, s2, rfl⟩⟩
  · have c := of_decide_eq_false c
    iterate 2 refine mj_T.pl rfl rfl rfl rfl ?_
    refine rm_p3 s2 rfl (fun h3 s3 => ?_)
    refine mj_T.pl rfl rfl rfl rfl ?_
    exact mj_T.ret rfl rfl rfl ⟨k, h3, hk.symm, by omega, Or.inr ⟨by omega, s3, rfl⟩⟩
end JRD2
/-! What a text says, with its bounds: none where something is too great. -/
noncomputable def zvf (P : pz_P) : Option pz_P := @ite (Option pz_P) (fit13 P) (Classical.propDecidable _) (some P) none
theorem zvf_y {P : pz_P} (h : fit13 P) : zvf P = some P := by
  unfold zvf
  exact if_pos h
theorem zvf_n {P : pz_P} (h : ¬ fit13 P) : zvf P = none := by
  unfold zvf
  exact if_neg h
noncomputable def zvm : Option pz_P → Option pz_P → Option pz_P
  | some A, some B => zvf (pz_mul A B)
  | _, _ => none
noncomputable def zvp : Option pz_P → Nat → Option pz_P
  | some A, n => zvf (pw A n)
  | none, _ => none
noncomputable def zva : Option pz_P → Int → Option pz_P → Option pz_P
  | some A, s, some B => zvf (fun j => A j + s * B j)
  | _, _, _ => none
def pz_x : pz_P := fun i => if i = 1 then 1 else 0
def pz_k (c : Int) : pz_P := fun i => if i = 0 then c else 0
section RVL
variable (T : Nat → Int) (tm : Nat)
/-- the number that begins at a -/
def rnv (a : Nat) : Int := rvl T (rskp T tm a) (rdgp T tm (rskp T tm a) - rskp T tm a)
noncomputable def zvx (w : Option pz_P) (a : Nat) : Option pz_P := match rtk T tm 94 a with
  | some c => zvp w (rnv T tm c).toNat
  | none => w
/-- the value, as rpr0 reads: what lies ahead of it (a product's or a sum's beginning) and the sign of the next -/
noncomputable def zv0 : Nat → Nat → Nat → Nat → Option pz_P → Int → Option pz_P
  | 0, _, _, _, _, _ => none
  | f + 1, 0, d, a, _, _ =>
    if rskp T tm a < tm ∧ T (rskp T tm a) = 120 then zvx T tm (some pz_x) (rskp T tm a + 1)
    else if rskp T tm a < tm ∧ T (rskp T tm a) = 40 then
      (match rpr0 T tm f 3 (d - 1) (rskp T tm a + 1) with
        | some (true, c) => (match rtk T tm 41 c with
          | some e => zvx T tm (zv0 f 3 (d - 1) (rskp T tm a + 1) none 1) e
          | none => none)
        | _ => none)
    else zvx T tm (some (pz_k (rnv T tm a))) (rdgp T tm (rskp T tm a))
  | f + 1, 1, d, a, P, _ => match rpr0 T tm f 0 d a with
    | some (true, c) => (match rtk T tm 42 c with
      | none => zvm P (zv0 f 0 d a none 1)
      | some e => zv0 f 1 d e (zvm P (zv0 f 0 d a none 1)) 1)
    | _ => none
  | f + 1, 2, d, a, P, s => match rpr0 T tm f 1 d a with
    | some (true, c) => (match rtk T tm 43 c with
      | some e => zv0 f 2 d e (zva P s (zv0 f 1 d a (some pz_one) 1)) 1
      | none => match rtk T tm 45 (rskp T tm c) with
        | some e => zv0 f 2 d e (zva P s (zv0 f 1 d a (some pz_one) 1)) (-1)
        | none => zva P s (zv0 f 1 d a (some pz_one) 1))
    | _ => none
  | f + 1, _ + 3, d, a, _, _ => match rtk T tm 45 a with
    | some e => zv0 f 2 d e (some pz_0) (-1)
    | none => zv0 f 2 d (rskp T tm a) (some pz_0) 1
end RVL
/-- a row holds the value, or something is too great -/
def U0 (w : Option pz_P) (t t2 : Int) (f : Nat → Int) : Prop := (t = 0 ∨ t = 1) ∧ ((∃ A, w = some A ∧ fit13 A ∧ t2 = t ∧ ∀ j, j < 13 → f j = A j) ∨ (w = none ∧ t2 = 1))
theorem U0.t {w : Option pz_P} {t t2 : Int} {f : Nat → Int} (u : U0 w t t2 f) : t2 = 0 ∨ t2 = 1 := by
  rcases u with ⟨h, ⟨A, _, _, h2, _⟩ | ⟨_, h2⟩⟩
  · rw [h2]
    exact h
  · exact Or.inr h2
theorem fit_x : fit13 pz_x := ⟨fun j _ => by
  show (if j = 1 then (1 : Int) else 0).natAbs ≤ _
  split <;> decide, fun i hi => if_neg (by omega)⟩
theorem fit_one : fit13 pz_one := ⟨fun j _ => by
  show (if j = 0 then (1 : Int) else 0).natAbs ≤ _
  split <;> decide, fun i hi => if_neg (by omega)⟩
theorem fit_0 : fit13 pz_0 := ⟨fun j _ => by
  show (0 : Int).natAbs ≤ _
  decide, fun i hi => rfl⟩
theorem fit_k {c : Int} (h : c.natAbs ≤ 999999999999999999) : fit13 (pz_k c) := ⟨fun j _ => by
  show (if j = 0 then c else 0).natAbs ≤ _
  split
  · exact h
  · exact Nat.zero_le _, fun i hi => if_neg (by omega)⟩
theorem rw13_fit {A : pz_P} {f : Nat → Int} (hA : fit13 A) (h : ∀ j, j < 13 → f j = A j) : rw13 f = A := funext fun j => by
  show (if j < 13 then f j else 0) = A j
  by_cases q : j < 13
  · rw [if_pos q, h j q]
  · rw [if_neg q, hA.2 j (by omega)]
/-- a product of rows -/
theorem U0.mul {w v : Option pz_P} {t t1 t2 : Int} {f k : Nat → Int} (a : U0 w t t1 f) (b : U0 v t1 t2 k) : (∃ A B, w = some A ∧ v = some B ∧ t2 = t ∧ rw13 f = A ∧ rw13 k = B) ∨ (zvm w v = none ∧ t2 = 1) := by
  obtain ⟨ht, ⟨A, a1, a2, a3, a4⟩ | ⟨a1, a2⟩⟩ := a
  · obtain ⟨_, ⟨B, b1, b2, b3, b4⟩ | ⟨b1, b2⟩⟩ := b
    · exact Or.inl ⟨A, B, a1, b1, b3.trans a3, rw13_fit a2 a4, rw13_fit b2 b4⟩
    · exact Or.inr ⟨by rw [a1, b1]; rfl, b2⟩
  · obtain ⟨_, ⟨B, b1, b2, b3, b4⟩ | ⟨b1, b2⟩⟩ := b
    · exact Or.inr ⟨by rw [a1]; rfl, b3.trans a2⟩
    · exact Or.inr ⟨by rw [a1]; rfl, b2⟩
/-! The class's reader over the memory: exponents, powers. -/
section JRE2
variable {D tm n : Nat} {T : Nat → Int} {g h h' : mj_H} {a e t : Int} {X0 Y : Nat → Nat → Int} {Z : Nat → Prop}
/-- how a piece of the reading ends -/
def rQm (T : Nat → Int) (tm : Nat) (g : mj_H) (n : Nat) (X0 : Nat → Nat → Int) (Z : Nat → Prop) (a : Nat) (res : Bool × Nat) (V : Option Value → Prop) (U : (Nat → Nat → Int) → Int → Option Value → Prop) (r : mj_R) : Prop := ∃ (v : Option Value) (b : Nat) (h2 : mj_H) (Y2 : Nat → Nat → Int) (t2 : Int), r = (.inl v, h2) ∧ V v ∧ b ≤ tm ∧ ((res.1 = true ∧ b = res.2 ∧ a ≤ b ∧ rM g n X0 Z Y2 t2 (b : Int) (-1) h2 ∧ U Y2 t2 v) ∨ (res.1 = false ∧ res.2 ≤ tm ∧ rM g n X0 (fun _ => False) Y2 t2 (b : Int) (res.2 : Int) h2))
theorem rQm.le {a a' : Nat} {res : Bool × Nat} {V : Option Value → Prop} {U U' : (Nat → Nat → Int) → Int → Option Value → Prop} {r : mj_R} (q : rQm T tm g n X0 Z a' res V U r) (hl : a ≤ a') (hU : ∀ Y2 t2 v, U Y2 t2 v → U' Y2 t2 v) : rQm T tm g n X0 Z a res V U' r := by
  obtain ⟨v, b, h2, Y2, t2, q1, q2, q3, q4⟩ := q
  refine ⟨v, b, h2, Y2, t2, q1, q2, q3, ?_⟩
  rcases q4 with ⟨x1, x2, x3, x4, x5⟩ | x
  · exact Or.inl ⟨x1, x2, by omega, x4, hU _ _ _ x5⟩
  · exact Or.inr x
/-- the exponent that is found at a place -/
def zE (T : Nat → Int) (tm a : Nat) (z : Int) : Prop := (rtk T tm 94 a = none ∧ z = -1) ∨ ∃ c, rtk T tm 94 a = some c ∧ z = rnv T tm c ∧ 0 ≤ z
def UE (T : Nat → Int) (tm : Nat) (Y : Nat → Nat → Int) (t : Int) (a : Nat) (Y2 : Nat → Nat → Int) (t2 : Int) (v : Option Value) : Prop := Y2 = Y ∧ t2 = t ∧ ∃ z : Int, v = some (.int (jn z)) ∧ (-1 ≤ z ∧ z ≤ 12) ∧ zE T tm a z
/-- a factor: its base in the row 476, its exponent; rows of lesser depths stay -/
def zF (w : Option pz_P) (z : Int) (v : Option pz_P) : Prop := (z = -1 ∧ v = w) ∨ (0 ≤ z ∧ v = zvp w z.toNat)
theorem zF_of {w : Option pz_P} {z : Int} {a : Nat} (h : zE T tm a z) : zF w z (zvx T tm w a) := by
  unfold zvx
  rcases h with ⟨h1, h2⟩ | ⟨c, h1, h2, h3⟩
  · rw [h1]
    exact Or.inl ⟨h2, rfl⟩
  · rw [h1]
    exact Or.inr ⟨h3, by rw [h2]⟩
def UF (d : Nat) (Y : Nat → Nat → Int) (t : Int) (val : Option pz_P) (Y2 : Nat → Nat → Int) (t2 : Int) (v : Option Value) : Prop := ∃ (z : Int) (w : Option pz_P), v = some (.int (jn z)) ∧ (-1 ≤ z ∧ z ≤ 12) ∧ zF w z val ∧ U0 w t t2 (Y2 476) ∧ ∀ c, c ≤ 457 + (8 - d) ∨ (467 ≤ c ∧ c ≤ 467 + (8 - d)) → Y2 c = Y c
def UP (d : Nat) (Y : Nat → Nat → Int) (t : Int) (val : Option pz_P) (Y2 : Nat → Nat → Int) (t2 : Int) (v : Option Value) : Prop := U0 val t t2 (Y2 (467 + (8 - d))) ∧ ∀ c, c ≤ 457 + (8 - d) ∨ (467 ≤ c ∧ c < 467 + (8 - d)) → Y2 c = Y c
def US (d : Nat) (Y : Nat → Nat → Int) (t : Int) (val : Option pz_P) (Y2 : Nat → Nat → Int) (t2 : Int) (v : Option Value) : Prop := U0 val t t2 (Y2 (457 + (8 - d))) ∧ ∀ c, c < 457 + (8 - d) ∨ (467 ≤ c ∧ c < 467 + (8 - d)) → Y2 c = Y c
theorem rm_exponent {p : Nat} (hB : bX X0 tm T) (ht : tm ≤ 200) (hT : ∀ j : Nat, j < tm → 1 ≤ T j ∧ T j ≤ 255) (hp : p ≤ tm) (s : rM g n X0 Z Y t (p : Int) (-1) h) : mj_Ok (D + 3) 53 [.ref 455] h (rQm T tm g n X0 Z p (rnm T tm 12 p) rV (fun Y2 t2 v => Y2 = Y ∧ t2 = t ∧ ∃ z : Int, v = some (.int (jn z)) ∧ (0 ≤ z ∧ z ≤ 12) ∧ z = rnv T tm p)) := by
  refine mj_Ok.of (M := mj_m53) (loc := [some (.ref 455), none, none, none]) rfl rfl rfl ?_
  have hle := rskp_le (T := T) hp
  have hge := rskp_ge (T := T) (tm := tm) p
  refine mj_T.pl rfl rfl rfl rfl ?_
  refine mj_T.call rfl rfl (Nat.le_of_ble_eq_true rfl) (Nat.le_of_ble_eq_true rfl) (s.rv (by decide) rfl _) rfl (rm_skips (D := D) hB ht hT hp s) (fun v h1 hq => ?_) (fun i h1 hq => by obtain ⟨_, _, hq⟩ := hq; cases hq)
  obtain ⟨_, s1, hq⟩ := hq
  cases hq
  obtain ⟨q, hqd⟩ : ∃ q, rskp T tm p = q := ⟨_, rfl⟩
  have eV : rnv T tm p = rvl T q (rdgp T tm q - q) := by
    unfold rnv
    rw [hqd]
  have eN : rnm T tm 12 p = if (1 ≤ rdgp T tm q - q ∧ rdgp T tm q - q ≤ 18) ∧ rvl T q (rdgp T tm q - q) ≤ 12 then (true, rdgp T tm q) else (false, q) := by
    unfold rnm
    rw [hqd]
  rw [eN]
  rw [hqd] at s1 hle hge
  refine mj_T.pl rfl rfl rfl rfl ?_
  refine rm_g s1 rfl rfl ?_
  refine mj_T.pl (loc' := [some (.ref 455), some (.int (jn (q : Int))), none, none]) rfl rfl rfl rfl ?_
  refine mj_T.pl rfl rfl rfl rfl ?_
  refine rm_g s1 rfl rfl ?_
  refine mj_T.pl rfl rfl rfl rfl ?_
  refine rm_g s1 rfl rfl ?_
  refine rm_at (D := D + 1) s1 hB ht hT (by omega) rfl rfl (Nat.le_of_ble_eq_true rfl) ?_
  have hb := rvt_bd (tm := tm) hT q
  refine mj_T.call rfl rfl (Nat.le_of_ble_eq_true rfl) (Nat.le_of_ble_eq_true rfl) rfl rfl (rq_isDigit (D := D + 1) (v := rvt T tm q) ⟨by omega, by omega⟩) (fun v' h' hq' => ?_) (fun i h' hq' => by rcases hq' with ⟨_, h⟩ | ⟨_, h⟩ <;> cases h)
  rcases hq' with ⟨hd, hq'⟩ | ⟨hd, hq'⟩
  · cases hq'
    have hdig : q < tm ∧ 48 ≤ T q ∧ T q ≤ 57 := by
      unfold rvt at hd
      by_cases c : q < tm
      · rw [if_pos c] at hd
        exact ⟨c, hd⟩
      · rw [if_neg c] at hd
        omega
    refine mj_T.if0 (a := 1) rfl ⟨by decide, by decide⟩ (fun _ => ?_) (fun hc2 => by simp [jc] at hc2)
    refine mj_T.pl rfl rfl rfl rfl ?_
    refine mj_T.call rfl rfl (Nat.le_of_ble_eq_true rfl) (Nat.le_of_ble_eq_true rfl) (s1.rv (by decide) rfl _) rfl (rm_number (D := D) hB ht hT hle s1) (fun v h2 hq => ?_) (fun i h2 hq => by obtain ⟨_, _, _, _, ⟨_, _, hq⟩ | ⟨_, _, hq⟩⟩ := hq <;> cases hq)
    obtain ⟨k, h3, k1, k2, hq⟩ := hq
    have kp := (rdgp_pos k1).mpr hdig
    rw [k1, Nat.add_sub_cancel_left]
    have hin : ∀ j, q ≤ j → j < q + k → 48 ≤ T j ∧ T j ≤ 57 := fun j j1 j2 => rdg_in (T := T) (tm - q) q j j1 (by show j < rdgp T tm q; omega)
    have hbd := rvl_bd (T := T) (s := q) k hin
    rcases hq with ⟨k3, s3, hq⟩ | ⟨k3, s3, hq⟩
    · cases hq
      have hpw : 10 ^ k ≤ 10 ^ 18 := Nat.pow_le_pow_right (by decide) (by omega)
      have hj : jR (rvl T q k) := ⟨by omega, by omega⟩
      refine mj_T.pl (loc' := [some (.ref 455), some (.int (jn (q : Int))), some (.long (jl (rvl T q k))), none]) rfl rfl rfl rfl ?_
      refine mj_T.pl rfl rfl rfl rfl ?_
      refine mj_T.pl rfl rfl rfl rfl ?_
      refine mj_T.eq (st2 := [.long (jl 12), .long (jl (rvl T q k))]) ?_ rfl rfl rfl rfl
      refine mj_T.lif (a := rvl T q k) (b := 12) rfl rfl hj ⟨by decide, by decide⟩ (fun c => ?_) (fun c => ?_)
      · simp only [jc, decide_eq_true_eq] at c
        refine mj_T.pl rfl rfl rfl rfl ?_
        refine mj_T.l2i rfl ?_
        refine mj_T.ret rfl rfl rfl ⟨_, q + k, _, Y, t, rfl, ⟨rvl T q k, ⟨by omega, by omega⟩, rfl⟩, k2, Or.inl ?_⟩
        rw [if_pos ⟨⟨kp, k3⟩, c⟩]
        exact ⟨rfl, rfl, by omega, s3, rfl, rfl, _, rfl, ⟨hbd.1, c⟩, by rw [eV, k1, Nat.add_sub_cancel_left]⟩
      · simp only [jc, decide_eq_false_iff_not] at c
        iterate 2 refine mj_T.pl rfl rfl rfl rfl ?_
        refine rm_p3 s3 rfl (fun h4 s4 => ?_)
        refine mj_T.pl rfl rfl rfl rfl ?_
        refine mj_T.ret rfl rfl rfl ⟨_, q + k, h4, Y, t, rfl, ⟨-1, ⟨by decide, by decide⟩, rfl⟩, k2, Or.inr ?_⟩
        rw [if_neg (fun w => c w.2)]
        exact ⟨rfl, hle, s4.mono (fun c hc => hc.elim)⟩
    · cases hq
      refine mj_T.pl (loc' := [some (.ref 455), some (.int (jn (q : Int))), some (.long (jl 0)), none]) rfl rfl rfl rfl ?_
      refine mj_T.pl rfl rfl rfl rfl ?_
      refine mj_T.pl rfl rfl rfl rfl ?_
      refine mj_T.eq (st2 := [.long (jl 12), .long (jl 0)]) ?_ rfl rfl rfl rfl
      refine mj_T.lif (a := 0) (b := 12) rfl rfl ⟨by decide, by decide⟩ ⟨by decide, by decide⟩ (fun c => ?_) (fun c => by simp [jc] at c)
      refine mj_T.pl rfl rfl rfl rfl ?_
      refine mj_T.l2i rfl ?_
      refine mj_T.ret rfl rfl rfl ⟨_, q + k, _, Y, t, rfl, ⟨0, ⟨by decide, by decide⟩, rfl⟩, k2, Or.inr ?_⟩
      rw [if_neg (fun w => by omega)]
      exact ⟨rfl, hle, s3.mono (fun c hc => hc.elim)⟩
  · cases hq'
    obtain ⟨k, k1⟩ : ∃ k, rdgp T tm q = q + k := ⟨rdgp T tm q - q, by have w : q ≤ rdgp T tm q := rdg_ge (T := T) (tm - q) q; omega⟩
    have k0 : ¬ (1 ≤ k) := fun w => by
      have d := (rdgp_pos k1).mp w
      exact hd (by rw [show rvt T tm q = T q from if_pos d.1]; exact d.2)
    refine mj_T.if0 (a := 0) rfl ⟨by decide, by decide⟩ (fun hc2 => by simp [jc] at hc2) (fun _ => ?_)
    iterate 2 refine mj_T.pl rfl rfl rfl rfl ?_
    refine rm_g s1 rfl rfl ?_
    refine rm_p3 s1 rfl (fun h2 s2 => ?_)
    refine mj_T.pl rfl rfl rfl rfl ?_
    refine mj_T.ret rfl rfl rfl ⟨_, q, h2, Y, t, rfl, ⟨-1, ⟨by decide, by decide⟩, rfl⟩, hle, Or.inr ?_⟩
    rw [k1, Nat.add_sub_cancel_left, if_neg (fun w => k0 w.1.1)]
    exact ⟨rfl, hle, s2.mono (fun c hc => hc.elim)⟩
theorem rm_fin {a p : Nat} {l1 : Option Value} (hB : bX X0 tm T) (ht : tm ≤ 200) (hT : ∀ j : Nat, j < tm → 1 ≤ T j ∧ T j ≤ 255) (hp : p ≤ tm) (hap : a ≤ p) (s : rM g n X0 Z Y t (p : Int) (-1) h) : mj_T (D + 4) mj_m52 135 [some (.ref 455), l1] [] h (rQm T tm g n X0 Z a (rex T tm p) rV (UE T tm Y t p)) := by
  have hge := rskp_ge (T := T) (tm := tm) p
  have hle := rskp_le (T := T) hp
  refine mj_T.pl rfl rfl rfl rfl ?_
  refine rm_g s rfl rfl ?_
  refine mj_T.pl rfl rfl rfl rfl ?_
  refine mj_T.icmp (a := -1) (b := -1) rfl ⟨by decide, by decide⟩ ⟨by decide, by decide⟩ (fun c => absurd c (by decide)) (fun _ => ?_)
  iterate 2 refine mj_T.pl rfl rfl rfl rfl ?_
  refine mj_T.call rfl rfl (Nat.le_of_ble_eq_true rfl) (Nat.le_of_ble_eq_true rfl) (s.rv (by decide) rfl _) rfl (rm_takes (D := D + 1) (c := 94) ⟨by decide, by decide⟩ hB ht hT hp s) (fun v h1 hq => ?_) (fun i h1 hq => by rcases hq with ⟨_, _, _, _, hq⟩ | ⟨_, _, _, hq⟩ <;> cases hq)
  rcases hq with ⟨b, _, ⟨b1, b2, b3⟩, s1, hq⟩ | ⟨_, b1, s1, hq⟩
  · cases hq
    refine mj_T.if0 (a := 1) rfl ⟨by decide, by decide⟩ (fun hc2 => by simp [jc] at hc2) (fun _ => ?_)
    refine mj_T.pl rfl rfl rfl rfl ?_
    have er : rex T tm p = rnm T tm 12 b := by unfold rex; rw [b1]
    rw [er]
    refine mj_T.call rfl rfl (Nat.le_of_ble_eq_true rfl) (Nat.le_of_ble_eq_true rfl) (s1.rv (by decide) rfl _) rfl (rm_exponent (D := D + 1) hB ht hT b2 s1) (fun v h2 hq => ?_) (fun i h2 hq => by obtain ⟨_, _, _, _, _, hq, _⟩ := hq; cases hq)
    obtain ⟨v2, c, h3, Y3, t3, hq, hv, c1, c2⟩ := hq
    obtain ⟨z, hz, rfl⟩ := hv
    cases hq
    refine mj_T.pl rfl rfl rfl rfl ?_
    refine mj_T.ret rfl rfl rfl (rQm.le (a' := b) (U := fun Y2 t2 v => Y2 = Y ∧ t2 = t ∧ ∃ z : Int, v = some (.int (jn z)) ∧ (0 ≤ z ∧ z ≤ 12) ∧ z = rnv T tm b) ⟨_, c, _, Y3, t3, rfl, ⟨z, hz, rfl⟩, c1, c2⟩ (by omega) (fun Y2 t2 v hu => ?_))
    obtain ⟨u1, u2, z2, u3, u4, u5⟩ := hu
    exact ⟨u1, u2, z2, u3, ⟨by omega, u4.2⟩, Or.inr ⟨b, b1, u5, u4.1⟩⟩
  · cases hq
    refine mj_T.if0 (a := 0) rfl ⟨by decide, by decide⟩ (fun _ => ?_) (fun hc2 => by simp [jc] at hc2)
    have er : rex T tm p = (true, rskp T tm p) := by unfold rex; rw [b1]
    rw [er]
    refine mj_T.pl rfl rfl rfl rfl ?_
    exact mj_T.ret rfl rfl rfl ⟨_, rskp T tm p, h1, Y, t, rfl, ⟨-1, ⟨by decide, by decide⟩, rfl⟩, hle, Or.inl ⟨rfl, rfl, by omega, s1, rfl, rfl, -1, rfl, ⟨by decide, by decide⟩, Or.inl ⟨b1, rfl⟩⟩⟩
theorem rm_finE {a p x : Nat} {Z2 : Nat → Prop} {U : (Nat → Nat → Int) → Int → Option Value → Prop} {l1 : Option Value} (ht : tm ≤ 200) (hp : p ≤ tm) (hx : x ≤ tm) (s : rM g n X0 Z Y t (p : Int) (x : Int) h) : mj_T (D + 4) mj_m52 135 [some (.ref 455), l1] [] h (rQm T tm g n X0 Z2 a (false, x) rV U) := by
  refine mj_T.pl rfl rfl rfl rfl ?_
  refine rm_g s rfl rfl ?_
  refine mj_T.pl rfl rfl rfl rfl ?_
  refine mj_T.icmp (a := (x : Int)) (b := -1) rfl ⟨by omega, by omega⟩ ⟨by decide, by decide⟩ (fun _ => ?_) (fun c => ?_)
  · refine mj_T.pl rfl rfl rfl rfl ?_
    exact mj_T.ret rfl rfl rfl ⟨_, p, h, Y, t, rfl, ⟨-1, ⟨by decide, by decide⟩, rfl⟩, hp, Or.inr ⟨rfl, hx, s.mono (fun c hc => hc.elim)⟩⟩
  · simp only [jc, Bool.not_eq_false', decide_eq_true_eq] at c
    omega
theorem rm_factor {d a f : Nat} {res : Bool × Nat} (hB : bX X0 tm T) (ht : tm ≤ 200) (hT : ∀ j : Nat, j < tm → 1 ≤ T j ∧ T j ≤ 255) (hd : d ≤ 8) {E : Nat} (hE : 5 ≤ E) (htt : t = 0 ∨ t = 1)
    (ih : ∀ d', d = d' + 1 → ∀ (f p : Nat) (h : mj_H) (res : Bool × Nat) (Y : Nat → Nat → Int) (t : Int), (t = 0 ∨ t = 1) → p ≤ tm → rpr0 T tm f 3 d' p = some res → rM g n X0 (zkS (8 - d')) Y t (p : Int) (-1) h → mj_Ok E 49 [.ref 455, .int (jn (8 - (d' : Int)))] h (rQm T tm g n X0 (zkP (8 - d')) p res rV0 (US d' Y t (zv0 T tm f 3 d' p none 1))))
    (ha : a ≤ tm) (hf : rpr0 T tm f 0 d a = some res) (s : rM g n X0 (zkF (8 - d)) Y t (a : Int) (-1) h) : mj_Ok (E + 1) 52 [.ref 455, .int (jn (8 - (d : Int)))] h (rQm T tm g n X0 (zkG (8 - d)) a res rV (UF d Y t (zv0 T tm f 0 d a none 1))) := by
  obtain ⟨E0, rfl⟩ : ∃ E0, E = E0 + 5 := ⟨E - 5, by omega⟩
  have hge := rskp_ge (T := T) (tm := tm) a
  have hle := rskp_le (T := T) ha
  have hid := rskp_idem (T := T) ha
  obtain ⟨f, rfl⟩ : ∃ f0, f = f0 + 1 := by
    cases f with
    | zero => cases hf
    | succ f0 => exact ⟨f0, rfl⟩
  refine mj_Ok.of (M := mj_m52) (loc := [some (.ref 455), some (.int (jn (8 - (d : Int))))]) rfl rfl rfl ?_
  refine mj_T.pl rfl rfl rfl rfl ?_
  refine rm_g s rfl rfl ?_
  refine mj_T.call rfl rfl (Nat.le_of_ble_eq_true rfl) (Nat.le_of_ble_eq_true rfl) rfl rfl (mj_Ok.up (by omega) (rm_165 (D := 0) (Z' := zkG (8 - d)) s isRw.f (fun c hc => hc.symm))) (fun v h0 hq => ?_) (fun i h0 hq => by obtain ⟨_, _, hq⟩ := hq; cases hq)
  obtain ⟨_, s, hq⟩ := hq
  cases hq
  have y476 : ∀ w : Nat → Int, ∀ c, c ≤ 457 + (8 - d) ∨ (467 ≤ c ∧ c ≤ 467 + (8 - d)) → rwu (rwu Y 476 (fun _ => 0)) 476 w c = Y c := fun w c hc => by
    rw [rwu_ne _ _ (by omega), rwu_ne _ _ (by omega)]
  refine mj_T.pl rfl rfl rfl rfl ?_
  refine mj_T.call rfl rfl (Nat.le_of_ble_eq_true rfl) (Nat.le_of_ble_eq_true rfl) (s.rv (by decide) rfl _) rfl (mj_Ok.up (by omega) (rm_skips (D := 0) hB ht hT ha s)) (fun v h1 hq => ?_) (fun i h1 hq => by obtain ⟨_, _, hq⟩ := hq; cases hq)
  obtain ⟨_, s1, hq⟩ := hq
  cases hq
  obtain ⟨q, hqd⟩ : ∃ q, rskp T tm a = q := ⟨_, rfl⟩
  have eVal : zv0 T tm (f + 1) 0 d a none 1 = if q < tm ∧ T q = 120 then zvx T tm (some pz_x) (q + 1) else if q < tm ∧ T q = 40 then (match rpr0 T tm f 3 (d - 1) (q + 1) with | some (true, c) => (match rtk T tm 41 c with | some e => zvx T tm (zv0 T tm f 3 (d - 1) (q + 1) none 1) e | none => none) | _ => none) else zvx T tm (some (pz_k (rnv T tm a))) (rdgp T tm q) := by
    rw [← hqd]
    rfl
  have eNv : rnv T tm a = rvl T q (rdgp T tm q - q) := by
    unfold rnv
    rw [hqd]
  unfold rpr0 at hf
  rw [hqd] at s1 hle hge hid hf
  refine mj_T.pl rfl rfl rfl rfl ?_
  refine rm_g s1 rfl rfl ?_
  refine mj_T.pl rfl rfl rfl rfl ?_
  refine rm_g s1 rfl rfl ?_
  refine rm_at (D := E0 + 4) s1 hB ht hT (by omega) rfl rfl (Nat.le_of_ble_eq_true rfl) ?_
  have hb := rvt_bd (tm := tm) hT q
  refine mj_T.call rfl rfl (Nat.le_of_ble_eq_true rfl) (Nat.le_of_ble_eq_true rfl) rfl rfl (rq_isDigit (D := E0 + 4) (v := rvt T tm q) ⟨by omega, by omega⟩) (fun v' h' hq' => ?_) (fun i h' hq' => by rcases hq' with ⟨_, h⟩ | ⟨_, h⟩ <;> cases h)
  rcases hq' with ⟨hdg, hq'⟩ | ⟨hdg, hq'⟩
  · -- a number
    cases hq'
    have hdig : q < tm ∧ 48 ≤ T q ∧ T q ≤ 57 := by
      unfold rvt at hdg
      by_cases c : q < tm
      · rw [if_pos c] at hdg
        exact ⟨c, hdg⟩
      · rw [if_neg c] at hdg
        omega
    rw [if_neg (by omega), if_neg (by omega)] at hf
    have eN : rnm T tm 9223372036854775807 q = if (1 ≤ rdgp T tm q - q ∧ rdgp T tm q - q ≤ 18) ∧ rvl T q (rdgp T tm q - q) ≤ 9223372036854775807 then (true, rdgp T tm q) else (false, q) := by
      unfold rnm
      rw [hid]
    rw [eN] at hf
    refine mj_T.if0 (a := 1) rfl ⟨by decide, by decide⟩ (fun hc2 => by simp [jc] at hc2) (fun _ => ?_)
    refine mj_T.pl rfl rfl rfl rfl ?_
    refine rm_g s1 rfl rfl ?_
    iterate 2 refine mj_T.pl rfl rfl rfl rfl ?_
    refine mj_T.call rfl rfl (Nat.le_of_ble_eq_true rfl) (Nat.le_of_ble_eq_true rfl) (s1.rv (by decide) rfl _) rfl (mj_Ok.up (by omega) (rm_number (D := 0) hB ht hT hle s1)) (fun v h2 hq => ?_) (fun i h2 hq => by obtain ⟨_, _, _, _, ⟨_, _, hq⟩ | ⟨_, _, hq⟩⟩ := hq <;> cases hq)
    obtain ⟨k, h3, k1, k2, hq⟩ := hq
    have kp := (rdgp_pos k1).mpr hdig
    rw [k1, Nat.add_sub_cancel_left] at hf
    have hin : ∀ j, q ≤ j → j < q + k → 48 ≤ T j ∧ T j ≤ 57 := fun j j1 j2 => rdg_in (T := T) (tm - q) q j j1 (by show j < rdgp T tm q; omega)
    have hbd := rvl_bd (T := T) (s := q) k hin
    rcases hq with ⟨k3, s3, hq⟩ | ⟨k3, s3, hq⟩
    · cases hq
      have hpw : 10 ^ k ≤ 10 ^ 18 := Nat.pow_le_pow_right (by decide) (by omega)
      rw [if_pos ⟨⟨kp, k3⟩, by omega⟩] at hf
      cases hf
      refine rm_last (i := 0) s3 (Or.inr rfl) rfl ⟨by decide, by decide⟩ (by omega) (fun h4 s4 => ?_)
      refine mj_T.pl rfl rfl rfl rfl ?_
      refine mj_T.to (rm_fin hB ht hT k2 (by omega) s4) (fun r hr => hr.le (Nat.le_refl _) (fun Y2 t2 v hu => ?_))
      obtain ⟨rfl, rfl, z, u3, u4, u5⟩ := hu
      rw [eVal, if_neg (by omega), if_neg (by omega), eNv, k1, Nat.add_sub_cancel_left]
      refine ⟨z, _, u3, u4, zF_of u5, ⟨htt, Or.inl ⟨_, rfl, fit_k (by omega), rfl, fun j hj => ?_⟩⟩, y476 _⟩
      rw [rwu_at, rwu_at]
      rfl
    · cases hq
      rw [if_neg (fun w => by omega)] at hf
      cases hf
      refine rm_last (i := 0) s3 (Or.inr rfl) rfl ⟨by decide, by decide⟩ (by decide) (fun h4 s4 => ?_)
      refine mj_T.pl rfl rfl rfl rfl ?_
      exact rm_finE ht k2 hle s4
  · cases hq'
    refine mj_T.if0 (a := 0) rfl ⟨by decide, by decide⟩ (fun _ => ?_) (fun hc2 => by simp [jc] at hc2)
    have ndig : ¬ (q < tm ∧ 48 ≤ T q ∧ T q ≤ 57) := fun w => hdg (by rw [show rvt T tm q = T q from if_pos w.1]; exact w.2)
    iterate 2 refine mj_T.pl rfl rfl rfl rfl ?_
    refine mj_T.call rfl rfl (Nat.le_of_ble_eq_true rfl) (Nat.le_of_ble_eq_true rfl) (s1.rv (by decide) rfl _) rfl (mj_Ok.up (by omega) (rm_takes (D := 0) (c := 120) ⟨by decide, by decide⟩ hB ht hT hle s1)) (fun v h2 hq => ?_) (fun i h2 hq => by rcases hq with ⟨_, _, _, _, hq⟩ | ⟨_, _, _, hq⟩ <;> cases hq)
    rcases hq with ⟨b, _, ⟨b1, b2, b3⟩, s2, hq⟩ | ⟨_, b1, s2, hq⟩
    · -- the letter x
      cases hq
      unfold rtk at b1
      rw [hid] at b1
      by_cases c : q < tm ∧ T q = 120
      · rw [if_pos c] at b1
        cases b1
        rw [if_pos c] at hf
        cases hf
        refine mj_T.if0 (a := 1) rfl ⟨by decide, by decide⟩ (fun hc2 => by simp [jc] at hc2) (fun _ => ?_)
        refine mj_T.pl rfl rfl rfl rfl ?_
        refine rm_g s2 rfl rfl ?_
        refine mj_T.pl rfl rfl rfl rfl ?_
        refine jT.lc 1 rfl rfl ?_
        refine rm_last (i := 1) s2 (Or.inr rfl) rfl ⟨by decide, by decide⟩ (by decide) (fun h4 s4 => ?_)
        refine mj_T.pl rfl rfl rfl rfl ?_
        refine mj_T.to (rm_fin hB ht hT b2 (by omega) s4) (fun r hr => hr.le (Nat.le_refl _) (fun Y2 t2 v hu => ?_))
        obtain ⟨rfl, rfl, z, u3, u4, u5⟩ := hu
        rw [eVal, if_pos c]
        refine ⟨z, _, u3, u4, zF_of u5, ⟨htt, Or.inl ⟨_, rfl, fit_x, rfl, fun j hj => ?_⟩⟩, y476 _⟩
        rw [rwu_at, rwu_at]
        rfl
      · rw [if_neg c] at b1
        cases b1
    · cases hq
      rw [hid] at s2
      have nx : ¬ (q < tm ∧ T q = 120) := fun w => by
        unfold rtk at b1
        rw [hid, if_pos w] at b1
        cases b1
      rw [if_neg nx] at hf
      refine mj_T.if0 (a := 0) rfl ⟨by decide, by decide⟩ (fun _ => ?_) (fun hc2 => by simp [jc] at hc2)
      -- nothing fits: the error is here
      have bad : ∀ h2, rM g n X0 (zkG (8 - d)) (rwu Y 476 (fun _ => 0)) t (q : Int) (-1) h2 → res = (false, q) → mj_T (E0 + 5) mj_m52 127 [some (.ref 455), some (.int (jn (8 - (d : Int))))] [] h2 (rQm T tm g n X0 (zkG (8 - d)) a res rV (UF d Y t (zv0 T tm (f + 1) 0 d a none 1))) := fun h2 s2 er => by
        subst er
        iterate 2 refine mj_T.pl rfl rfl rfl rfl ?_
        refine rm_g s2 rfl rfl ?_
        refine rm_p3 s2 rfl (fun h3 s3 => ?_)
        exact rm_finE ht hle hle s3
      have num : ¬ (q < tm ∧ T q = 40) → res = (false, q) := fun w => by
        rw [if_neg w] at hf
        obtain ⟨k, k1⟩ : ∃ k, rdgp T tm q = q + k := ⟨rdgp T tm q - q, by have w : q ≤ rdgp T tm q := rdg_ge (T := T) (tm - q) q; omega⟩
        have k0 : ¬ (1 ≤ k) := fun w => ndig ((rdgp_pos k1).mp w)
        have eN : rnm T tm 9223372036854775807 q = (false, q) := by
          unfold rnm
          rw [hid, k1, Nat.add_sub_cancel_left, if_neg (fun w => k0 w.1.1)]
        rw [eN] at hf
        cases hf
        rfl
      iterate 2 refine mj_T.pl rfl rfl rfl rfl ?_
      refine mj_T.icmp (a := 8 - (d : Int)) (b := 8) rfl ⟨by omega, by omega⟩ ⟨by decide, by decide⟩ (fun c => ?_) (fun c => ?_)
      · simp only [jc, decide_eq_true_eq] at c
        have d0 : d = 0 := by omega
        subst d0
        refine bad _ s2 ?_
        by_cases w : q < tm ∧ T q = 40
        · rw [if_pos w, if_pos rfl] at hf
          cases hf
          rfl
        · exact num w
      simp only [jc, decide_eq_false_iff_not] at c
      obtain ⟨d', rfl⟩ : ∃ d', d = d' + 1 := ⟨d - 1, by omega⟩
      iterate 2 refine mj_T.pl rfl rfl rfl rfl ?_
      refine mj_T.call rfl rfl (Nat.le_of_ble_eq_true rfl) (Nat.le_of_ble_eq_true rfl) (s2.rv (by decide) rfl _) rfl (mj_Ok.up (by omega) (rm_takes (D := 0) (c := 40) ⟨by decide, by decide⟩ hB ht hT hle s2)) (fun v h3 hq => ?_) (fun i h3 hq => by rcases hq with ⟨_, _, _, _, hq⟩ | ⟨_, _, _, hq⟩ <;> cases hq)
      rcases hq with ⟨b, _, ⟨b1, b2, b3⟩, s3, hq⟩ | ⟨_, b1, s3, hq⟩
      rotate_left
      · cases hq
        rw [hid] at s3
        have n40 : ¬ (q < tm ∧ T q = 40) := fun w => by
          unfold rtk at b1
          rw [hid, if_pos w] at b1
          cases b1
        refine mj_T.if0 (a := 0) rfl ⟨by decide, by decide⟩ (fun _ => ?_) (fun hc2 => by simp [jc] at hc2)
        exact bad _ s3 (num n40)
      -- a sum in parentheses
      cases hq
      unfold rtk at b1
      rw [hid] at b1
      by_cases w : q < tm ∧ T q = 40
      rotate_left
      · rw [if_neg w] at b1
        cases b1
      rw [if_pos w] at b1
      cases b1
      rw [if_pos w, if_neg (Nat.succ_ne_zero d')] at hf
      refine mj_T.if0 (a := 1) rfl ⟨by decide, by decide⟩ (fun hc2 => by simp [jc] at hc2) (fun _ => ?_)
      iterate 3 refine mj_T.pl rfl rfl rfl rfl ?_
      refine mj_T.iadd (a := 8 - ((d' + 1 : Nat) : Int)) (b := 1) rfl ?_
      rw [show 8 - ((d' + 1 : Nat) : Int) + 1 = 8 - (d' : Int) by omega]
      -- behind the sum: copy it, go on
      have t107 : ∀ (Y3 : Nat → Nat → Int) (t3 : Int) (b : Nat) (x : Int) (h4 : mj_H) (Z4 Z5 : Nat → Prop) (Y5 : Nat → Nat → Int), rM g n X0 Z4 Y3 t3 (b : Int) x h4 → mj_Ok 1 164 [.ref (457 + (8 - d')), .ref 476] h4 (fun z => ∃ h5, rM g n X0 Z5 Y5 t3 (b : Int) x h5 ∧ z = (.inl none, h5)) → (∀ h5, rM g n X0 Z5 Y5 t3 (b : Int) x h5 → mj_T (E0 + 5) mj_m52 135 [some (.ref 455), some (.int (jn (8 - ((d' + 1 : Nat) : Int))))] [] h5 (rQm T tm g n X0 (zkG (8 - (d' + 1))) a res rV (UF (d' + 1) Y t (zv0 T tm (f + 1) 0 (d' + 1) a none 1)))) → mj_T (E0 + 5) mj_m52 107 [some (.ref 455), some (.int (jn (8 - ((d' + 1 : Nat) : Int))))] [] h4 (rQm T tm g n X0 (zkG (8 - (d' + 1))) a res rV (UF (d' + 1) Y t (zv0 T tm (f + 1) 0 (d' + 1) a none 1))) := fun Y3 t3 b x h4 Z4 Z5 Y5 s4 k164 k => by
        refine mj_T.pl rfl rfl rfl rfl ?_
        refine rm_g s4 rfl rfl ?_
        iterate 2 refine mj_T.pl rfl rfl rfl rfl ?_
        refine mj_T.iadd (a := 8 - ((d' + 1 : Nat) : Int)) (b := 1) rfl ?_
        rw [show 8 - ((d' + 1 : Nat) : Int) + 1 = ((8 - d' : Nat) : Int) by omega]
        refine mj_T.call rfl rfl (Nat.le_of_ble_eq_true rfl) (Nat.le_of_ble_eq_true rfl) rfl rfl (mj_Ok.up (by omega) (rm_48 (D := 0) (b := 456) (k := 8 - d') s4 (Or.inl rfl) (by omega))) (fun v h5 hq => ?_) (fun i h5 hq => by cases hq)
        cases hq
        refine mj_T.eq (st2 := [.ref (457 + (8 - d'))]) ?_ rfl rfl rfl rfl
        refine mj_T.pl rfl rfl rfl rfl ?_
        refine rm_g s4 rfl rfl ?_
        refine mj_T.call rfl rfl (Nat.le_of_ble_eq_true rfl) (Nat.le_of_ble_eq_true rfl) rfl rfl (mj_Ok.up (by omega) k164) (fun v h5 hq => ?_) (fun i h5 hq => by obtain ⟨_, _, hq⟩ := hq; cases hq)
        obtain ⟨_, s5, hq⟩ := hq
        cases hq
        refine mj_T.pl rfl rfl rfl rfl ?_
        exact k _ s5
      cases hsum : rpr0 T tm f 3 d' (q + 1) with
      | none =>
        rw [show d' + 1 - 1 = d' from rfl, hsum] at hf
        cases hf
      | some rs =>
        rw [show d' + 1 - 1 = d' from rfl, hsum] at hf
        refine mj_T.call rfl rfl (Nat.le_of_ble_eq_true rfl) (Nat.le_of_ble_eq_true rfl) (s3.rv (by decide) rfl _) rfl (ih d' rfl f (q + 1) h3 rs _ t htt b2 hsum (s3.mono (fun c hc => by unfold zkS at hc; unfold zkG zkF; omega))) (fun v h4 hq => ?_) (fun i h4 hq => by obtain ⟨_, _, _, _, _, hq, _⟩ := hq; cases hq)
        obtain ⟨v2, c2, h5, Y3, t3, hq, hv, c3, c4⟩ := hq
        cases hv
        cases hq
        obtain ⟨ok, x⟩ := rs
        rcases c4 with ⟨e1, e2, e3, s4, hU⟩ | ⟨e1, e2, s4⟩
        · have e1 : ok = true := e1
          have e2 : c2 = x := e2
          subst e1 e2
          simp only at hf
          refine mj_T.pl rfl rfl rfl rfl ?_
          refine rm_g s4 rfl rfl ?_
          refine mj_T.pl rfl rfl rfl rfl ?_
          refine mj_T.icmp (a := -1) (b := -1) rfl ⟨by decide, by decide⟩ ⟨by decide, by decide⟩ (fun c => absurd c (by decide)) (fun _ => ?_)
          iterate 2 refine mj_T.pl rfl rfl rfl rfl ?_
          refine mj_T.call rfl rfl (Nat.le_of_ble_eq_true rfl) (Nat.le_of_ble_eq_true rfl) (s4.rv (by decide) rfl _) rfl (mj_Ok.up (by omega) (rm_takes (D := 0) (c := 41) ⟨by decide, by decide⟩ hB ht hT c3 s4)) (fun v h6 hq => ?_) (fun i h6 hq => by rcases hq with ⟨_, _, _, _, hq⟩ | ⟨_, _, _, hq⟩ <;> cases hq)
          rcases hq with ⟨b6, _, ⟨g1, g2, g3⟩, s6, hq⟩ | ⟨_, g1, s6, hq⟩
          · cases hq
            rw [g1] at hf
            cases hf
            refine mj_T.if0 (a := 1) rfl ⟨by decide, by decide⟩ (fun _ => ?_) (fun hc2 => by simp [jc] at hc2)
            refine t107 Y3 t3 b6 (-1) h6 _ _ _ s6 (rm_164 (D := 0) (Z' := zkG (8 - (d' + 1))) s6 (show zkP (8 - d') (457 + (8 - d')) from Or.inl ⟨by omega, by omega⟩) isRw.f (fun c hc => by unfold zkG zkF at hc; unfold zkP; omega)) (fun h7 s7 => mj_T.to (rm_fin hB ht hT g2 (by omega) s7) (fun r hr => hr.le (Nat.le_refl _) (fun Y2 t2 v hu => ?_)))
            obtain ⟨rfl, rfl, z, u3, u4, u5⟩ := hu
            have hc9 : ¬ (q < tm ∧ T q = 120) := by omega
            rw [eVal, if_neg hc9, if_pos w, show d' + 1 - 1 = d' from rfl, hsum]
            show UF (d' + 1) Y t (match rtk T tm 41 c2 with | some e => zvx T tm (zv0 T tm f 3 d' (q + 1) none 1) e | none => none) _ _ _
            rw [g1]
            refine ⟨z, _, u3, u4, zF_of u5, ?_, fun c hc => ?_⟩
            · rw [rwu_at]
              exact hU.1
            · rw [rwu_ne _ _ (by omega), hU.2 c (by omega), rwu_ne _ _ (by omega)]
          · cases hq
            rw [g1] at hf
            cases hf
            have hl6 := rskp_le (T := T) c3
            refine mj_T.if0 (a := 0) rfl ⟨by decide, by decide⟩ (fun hc2 => by simp [jc] at hc2) (fun _ => ?_)
            iterate 2 refine mj_T.pl rfl rfl rfl rfl ?_
            refine rm_g s6 rfl rfl ?_
            refine rm_p3 s6 rfl (fun h7 s7 => ?_)
            exact t107 _ _ _ _ h7 _ _ _ s7 (rm_164l (D := 0) s7 (isRw.s (by omega)) isRw.f) (fun h8 s8 => rm_finE ht hl6 hl6 s8)
        · have e1 : ok = false := e1
          subst e1
          simp only at hf e2 s4
          cases hf
          refine mj_T.pl rfl rfl rfl rfl ?_
          refine rm_g s4 rfl rfl ?_
          refine mj_T.pl rfl rfl rfl rfl ?_
          refine mj_T.icmp (a := (x : Int)) (b := -1) rfl ⟨by omega, by omega⟩ ⟨by decide, by decide⟩ (fun _ => ?_) (fun c => ?_)
          · exact t107 _ _ c2 (x : Int) h4 _ _ _ s4 (rm_164l (D := 0) s4 (isRw.s (by omega)) isRw.f) (fun h7 s7 => rm_finE ht c3 e2 s7)
          · simp only [jc, Bool.not_eq_false', decide_eq_true_eq] at c
            omega
end JRE2
/-! The class's reader over the memory: products and sums. -/
section JRF2
variable {D tm n : Nat} {T : Nat → Int} {g h h' : mj_H} {a e t : Int} {X0 Y : Nat → Nat → Int} {Z : Nat → Prop}
/-- check (51): what is too great becomes 0 -/
theorem rm_check {r : Nat} {ok : Prop} {w : Nat → Int} {zz : Int} (kr : isRw r) (ht : t = 0 ∨ t = 1) (s : (ok ∧ zz = 1 ∧ rM g n X0 Z (rwu Y r w) t a e h) ∨ (¬ ok ∧ zz = 0 ∧ rM g n X0 (fun c => c ≠ r ∧ Z c) Y t a e h)) : mj_Ok (D + 2) 51 [.ref 455, .int (jn zz), .ref r] h (fun z => ∃ h2, z = (.inl none, h2) ∧ ((ok ∧ rM g n X0 Z (rwu Y r w) t a e h2) ∨ (¬ ok ∧ rM g n X0 Z (rwu Y r (fun _ => 0)) 1 a e h2))) := by
  refine mj_Ok.of (M := mj_m51) (loc := [some (.ref 455), some (.int (jn zz)), some (.ref r)]) rfl rfl rfl ?_
  refine mj_T.pl rfl rfl rfl rfl ?_
  rcases s with ⟨o, rfl, s⟩ | ⟨o, rfl, s⟩
  · refine mj_T.if0 (a := 1) rfl ⟨by decide, by decide⟩ (fun _ => ?_) (fun c => by simp [jc] at c)
    exact mj_T.ret rfl rfl rfl ⟨h, rfl, Or.inl ⟨o, s⟩⟩
  · refine mj_T.if0 (a := 0) rfl ⟨by decide, by decide⟩ (fun c => by simp [jc] at c) (fun _ => ?_)
    iterate 2 refine mj_T.pl rfl rfl rfl rfl ?_
    refine rm_p4 (b := 1) (Or.inr rfl) s rfl (fun h1 s1 => ?_)
    refine mj_T.pl rfl rfl rfl rfl ?_
    refine mj_T.call rfl rfl (Nat.le_of_ble_eq_true rfl) (Nat.le_of_ble_eq_true rfl) rfl rfl (rm_165 (D := D) (Z' := Z) s1 kr (fun c hc => by
      by_cases q : c = r
      · exact Or.inl q
      · exact Or.inr ⟨q, hc⟩)) (fun v h2 hq => ?_) (fun i h2 hq => by obtain ⟨_, _, hq⟩ := hq; cases hq)
    obtain ⟨_, s2, hq⟩ := hq
    cases hq
    exact mj_T.ret rfl rfl rfl ⟨h2, rfl, Or.inr ⟨o, s2⟩⟩
theorem jn_inj {x y : Int} (hx : -2147483648 ≤ x ∧ x ≤ 2147483647) (hy : -2147483648 ≤ y ∧ y ≤ 2147483647) (h : jn x = jn y) : x = y := (jn_eq (show jr x from ⟨by omega, by omega⟩) (show jr y from ⟨by omega, by omega⟩)).mp h
theorem rM.rv19 {Z : Nat → Prop} {r2 : Nat} {st : List Value} (s : rM g n X0 Z Y t a e h) (hr : 1 ≤ r2) (hd : st.drop (r2 - 1) = .ref 19 :: st.drop r2) : ∀ m, mj_recv (.invokevirtual m) r2 1 st h = true := by
  intro m
  obtain ⟨V, X, mm, _⟩ := s
  exact mV_of mm 11 cq_456.2.2.2.2.2.1 (by decide) rfl hr hd m
theorem rm_product_loop {d E a0 : Nat} (hB : bX X0 tm T) (ht : tm ≤ 200) (hT : ∀ j : Nat, j < tm → 1 ≤ T j ∧ T j ≤ 255) (hd : d ≤ 8)
    (ih : ∀ (f p : Nat) (h : mj_H) (res : Bool × Nat) (Y : Nat → Nat → Int) (t : Int), (t = 0 ∨ t = 1) → p ≤ tm → rpr0 T tm f 0 d p = some res → rM g n X0 (zkF (8 - d)) Y t (p : Int) (-1) h → mj_Ok (E + 6) 52 [.ref 455, .int (jn (8 - (d : Int)))] h (rQm T tm g n X0 (zkG (8 - d)) p res rV (UF d Y t (zv0 T tm f 0 d p none 1)))) (Y0 : Nat → Nat → Int) (t0 : Int) : ∀ (f p i : Nat) (h : mj_H) (res : Bool × Nat) (l4 : Option Value) (Y : Nat → Nat → Int) (t : Int) (P : Option pz_P), U0 P t0 t (Y (467 + (8 - d))) → (∀ c, c ≤ 457 + (8 - d) ∨ (467 ≤ c ∧ c < 467 + (8 - d)) → Y c = Y0 c) → p ≤ tm → i ≤ p → a0 ≤ p → rpr0 T tm f 1 d p = some res → rM g n X0 (zkF (8 - d)) Y t (p : Int) (-1) h → mj_T (E + 6) mj_m50 19 [some (.ref 455), some (.int (jn (8 - (d : Int)))), some (.ref (467 + (8 - d))), some (.int (jn (i : Int))), l4] [] h (rQm T tm g n X0 (zkF (8 - d)) a0 res rV0 (UP d Y0 t0 (zv0 T tm f 1 d p P 1))) := by
  intro f
  induction f with
  | zero => intro p i h res l4 Y t P _ _ _ _ _ hf; cases hf
  | succ f ihf =>
    intro p i h res l4 Y t P hu hfr hp hi ha hf s
    have b := s.jBuf hB
    have kr : isRw (467 + (8 - d)) := isRw.p (by omega)
    have eVal : zv0 T tm (f + 1) 1 d p P 1 = match rpr0 T tm f 0 d p with | some (true, c) => (match rtk T tm 42 c with | none => zvm P (zv0 T tm f 0 d p none 1) | some e => zv0 T tm f 1 d e (zvm P (zv0 T tm f 0 d p none 1)) 1) | _ => none := rfl
    unfold rpr0 at hf
    iterate 2 refine mj_T.pl rfl rfl rfl rfl ?_
    refine rm_g s rfl rfl ?_
    refine mj_T.gfl rfl b.1 rfl ?_
    refine mj_T.icmp (a := (i : Int)) (b := (tm : Int)) rfl ⟨by omega, by omega⟩ ⟨by omega, by omega⟩ (fun c => ?_) (fun _ => ?_)
    · have c := of_decide_eq_true c
      omega
    iterate 2 refine mj_T.pl rfl rfl rfl rfl ?_
    cases hfa : rpr0 T tm f 0 d p with
    | none => rw [hfa] at hf; cases hf
    | some rs =>
      rw [hfa] at hf eVal
      refine mj_T.call rfl rfl (Nat.le_of_ble_eq_true rfl) (Nat.le_of_ble_eq_true rfl) (s.rv (by decide) rfl _) rfl (ih f p h rs Y t hu.t hp hfa s) (fun v h4 hq => ?_) (fun i h4 hq => by obtain ⟨_, _, _, _, _, hq, _⟩ := hq; cases hq)
      obtain ⟨v2, c2, h5, Y4, t4, hq, ⟨z, hz, hv⟩, c3, c4⟩ := hq
      subst hv
      cases hq
      refine mj_T.pl (loc' := [some (.ref 455), some (.int (jn (8 - (d : Int)))), some (.ref (467 + (8 - d))), some (.int (jn (i : Int))), some (.int (jn z))]) rfl rfl rfl rfl ?_
      refine mj_T.pl rfl rfl rfl rfl ?_
      obtain ⟨ok, x⟩ := rs
      rcases c4 with ⟨e1, e2, e3, s4, hU⟩ | ⟨e1, e2, s4⟩
      rotate_left
      · have e1 : ok = false := e1
        subst e1
        simp only at hf e2 s4
        cases hf
        refine rm_g s4 rfl rfl ?_
        refine mj_T.pl rfl rfl rfl rfl ?_
        refine mj_T.icmp (a := (x : Int)) (b := -1) rfl ⟨by omega, by omega⟩ ⟨by decide, by decide⟩ (fun c => ?_) (fun _ => ?_)
        · simp only [jc, decide_eq_true_eq] at c
          omega
        · exact mj_T.ret rfl rfl rfl ⟨_, c2, _, _, _, rfl, rfl, c3, Or.inr ⟨rfl, e2, s4⟩⟩
      have e1 : ok = true := e1
      have e2 : c2 = x := e2
      subst e1 e2
      obtain ⟨z', w, hz', hzb, hzF, hUw, hUf⟩ := hU
      cases (show z' = z by
        injection hz' with q
        injection q with q
        exact jn_inj ⟨by omega, by omega⟩ ⟨by omega, by omega⟩ q.symm)
      simp only at hf eVal
      refine rm_g s4 rfl rfl ?_
      refine mj_T.pl rfl rfl rfl rfl ?_
      refine mj_T.icmp (a := -1) (b := -1) rfl ⟨by decide, by decide⟩ ⟨by decide, by decide⟩ (fun _ => ?_) (fun c => absurd c (by decide))
      -- the product so far, times the factor
      have t77 : ∀ (Y6 : Nat → Nat → Int) (t6 : Int) (h6 : mj_H), U0 (zv0 T tm f 0 d p none 1) t t6 (Y6 476) → Y6 (467 + (8 - d)) = Y (467 + (8 - d)) → (∀ c, c ≤ 457 + (8 - d) ∨ (467 ≤ c ∧ c < 467 + (8 - d)) → Y6 c = Y0 c) → rM g n X0 (zkG (8 - d)) Y6 t6 (c2 : Int) (-1) h6 → mj_T (E + 6) mj_m50 77 [some (.ref 455), some (.int (jn (8 - (d : Int)))), some (.ref (467 + (8 - d))), some (.int (jn (i : Int))), some (.int (jn z))] [] h6 (rQm T tm g n X0 (zkF (8 - d)) a0 res rV0 (UP d Y0 t0 (zv0 T tm (f + 1) 1 d p P 1))) := fun Y6 t6 h6 u6 f6 r6 s6 => by
        iterate 2 refine mj_T.pl rfl rfl rfl rfl ?_
        refine rm_g s6 rfl rfl ?_
        iterate 2 refine mj_T.pl rfl rfl rfl rfl ?_
        refine rm_g s6 rfl rfl ?_
        refine mj_T.pl rfl rfl rfl rfl ?_
        refine mj_T.call rfl rfl (Nat.le_of_ble_eq_true rfl) (Nat.le_of_ble_eq_true rfl) (s6.rv19 (by decide) rfl _) rfl (mj_Ok.up (by omega) (rm_11 (D := 0) s6 (show zkG (8 - d) (467 + (8 - d)) from Or.inl (Or.inr ⟨by omega, by omega⟩)) (show zkG (8 - d) 476 from Or.inr rfl))) (fun v h7 hq => ?_) (fun i h7 hq => by obtain ⟨_, ⟨_, _, hq⟩ | ⟨_, _, hq⟩⟩ := hq <;> cases hq)
        obtain ⟨zz, hzz, s7⟩ : ∃ zz : Int, v = some (.int (jn zz)) ∧ ((fit13 (pz_mul (rw13 (Y6 (467 + (8 - d)))) (rw13 (Y6 476))) ∧ zz = 1 ∧ rM g n X0 (zkG (8 - d)) (rwu Y6 (467 + (8 - d)) (pz_mul (rw13 (Y6 (467 + (8 - d)))) (rw13 (Y6 476)))) t6 (c2 : Int) (-1) h7) ∨ (¬ fit13 (pz_mul (rw13 (Y6 (467 + (8 - d)))) (rw13 (Y6 476))) ∧ zz = 0 ∧ rM g n X0 (fun c => c ≠ 467 + (8 - d) ∧ zkG (8 - d) c) Y6 t6 (c2 : Int) (-1) h7)) := by
          obtain ⟨h2, ⟨o, s7, hq⟩ | ⟨o, s7, hq⟩⟩ := hq <;> cases hq
          · exact ⟨1, rfl, Or.inl ⟨o, rfl, s7⟩⟩
          · exact ⟨0, rfl, Or.inr ⟨o, rfl, s7⟩⟩
        subst hzz
        refine mj_T.eq (st2 := [.int (jn zz), .ref 455]) ?_ rfl rfl rfl rfl
        refine mj_T.pl rfl rfl rfl rfl ?_
        refine mj_T.call rfl rfl (Nat.le_of_ble_eq_true rfl) (Nat.le_of_ble_eq_true rfl) (by rcases s7 with ⟨_, _, q⟩ | ⟨_, _, q⟩ <;> exact q.rv (by decide) rfl _) rfl (mj_Ok.up (by omega) (rm_check (D := 0) kr u6.t s7)) (fun v h8 hq => ?_) (fun i h8 hq => by obtain ⟨_, hq, _⟩ := hq; cases hq)
        obtain ⟨_, hq, s8⟩ := hq
        cases hq
        obtain ⟨Y8, t8, s8, u8, f8⟩ : ∃ (Y8 : Nat → Nat → Int) (t8 : Int), rM g n X0 (zkG (8 - d)) Y8 t8 (c2 : Int) (-1) h8 ∧ U0 (zvm P (zv0 T tm f 0 d p none 1)) t0 t8 (Y8 (467 + (8 - d))) ∧ ∀ c, c ≤ 457 + (8 - d) ∨ (467 ≤ c ∧ c < 467 + (8 - d)) → Y8 c = Y0 c := by
          have hu2 : U0 P t0 t (Y6 (467 + (8 - d))) := by rw [f6]; exact hu
          have hm := hu2.mul u6
          have ff : ∀ w : Nat → Int, ∀ c, c ≤ 457 + (8 - d) ∨ (467 ≤ c ∧ c < 467 + (8 - d)) → rwu Y6 (467 + (8 - d)) w c = Y0 c := fun w c hc => by rw [rwu_ne _ _ (by omega), r6 c hc]
          rcases s8 with ⟨o, s8⟩ | ⟨o, s8⟩
          · rcases hm with ⟨A, B, m1, m2, m3, m4, m5⟩ | ⟨m1, m2⟩
            · rw [m4, m5] at o s8
              exact ⟨_, _, s8, ⟨hu.1, Or.inl ⟨pz_mul A B, by rw [m1, m2]; exact zvf_y o, o, m3, fun j _ => by rw [rwu_at]⟩⟩, ff _⟩
            · exact ⟨_, _, s8, ⟨hu.1, Or.inr ⟨m1, m2⟩⟩, ff _⟩
          · refine ⟨_, _, s8, ⟨hu.1, Or.inr ⟨?_, rfl⟩⟩, ff _⟩
            rcases hm with ⟨A, B, m1, m2, m3, m4, m5⟩ | ⟨m1, m2⟩
            · rw [m4, m5] at o
              rw [m1, m2]
              exact zvf_n o
            · exact m1
        iterate 2 refine mj_T.pl rfl rfl rfl rfl ?_
        refine mj_T.call rfl rfl (Nat.le_of_ble_eq_true rfl) (Nat.le_of_ble_eq_true rfl) (s8.rv (by decide) rfl _) rfl (mj_Ok.up (by omega) (rm_takes (D := 0) (c := 42) ⟨by decide, by decide⟩ hB ht hT c3 s8)) (fun v h9 hq => ?_) (fun i h9 hq => by rcases hq with ⟨_, _, _, _, hq⟩ | ⟨_, _, _, hq⟩ <;> cases hq)
        rcases hq with ⟨b9, _, ⟨g1, g2, g3⟩, s9, hq⟩ | ⟨_, g1, s9, hq⟩
        · cases hq
          rw [g1] at hf eVal
          rw [eVal]
          refine mj_T.if0 (a := 1) rfl ⟨by decide, by decide⟩ (fun _ => ?_) (fun hc2 => by simp [jc] at hc2)
          refine mj_T.iinc (a := (i : Int)) rfl rfl ?_
          refine mj_T.eq (loc2 := [some (.ref 455), some (.int (jn (8 - (d : Int)))), some (.ref (467 + (8 - d))), some (.int (jn ((i + 1 : Nat) : Int))), some (.int (jn z))]) ?_ rfl (by rw [show ((i + 1 : Nat) : Int) = (i : Int) + 1 by omega]; rfl) rfl rfl
          refine mj_T.pl rfl rfl rfl rfl ?_
          exact ihf b9 (i + 1) h9 res _ Y8 t8 _ u8 f8 g2 (by omega) (by omega) hf (s9.mono (fun c hc => Or.inl hc))
        · cases hq
          rw [g1] at hf eVal
          cases hf
          have hl9 := rskp_le (T := T) c3
          have hg9 := rskp_ge (T := T) (tm := tm) c2
          refine mj_T.if0 (a := 0) rfl ⟨by decide, by decide⟩ (fun hc2 => by simp [jc] at hc2) (fun _ => ?_)
          exact mj_T.ret rfl rfl rfl ⟨_, rskp T tm c2, h9, Y8, t8, rfl, rfl, hl9, Or.inl ⟨rfl, rfl, by omega, s9.mono (fun c hc => Or.inl hc), by rw [eVal]; exact ⟨u8, f8⟩⟩⟩
      iterate 2 refine mj_T.pl rfl rfl rfl rfl ?_
      refine mj_T.icmp (a := z) (b := -1) rfl ⟨by omega, by omega⟩ ⟨by decide, by decide⟩ (fun c => ?_) (fun c => ?_)
      · simp only [jc, Bool.not_eq_true', Bool.not_eq_false', decide_eq_true_eq, decide_eq_false_iff_not] at c
        refine t77 _ _ _ ?_ (hUf _ (by omega)) (fun x hx => (hUf x (by omega)).trans (hfr x hx)) s4
        rcases hzF with ⟨_, hv⟩ | ⟨hz0, _⟩
        · rw [hv]
          exact hUw
        · omega
      simp only [jc, Bool.not_eq_true', Bool.not_eq_false', decide_eq_true_eq, decide_eq_false_iff_not] at c
      rcases hzF with ⟨hz1, _⟩ | ⟨hz0, hv⟩
      · omega
      obtain ⟨zn, rfl⟩ := Int.eq_ofNat_of_zero_le hz0
      rw [Int.toNat_natCast] at hv
      iterate 2 refine mj_T.pl rfl rfl rfl rfl ?_
      refine rm_g s4 rfl rfl ?_
      refine mj_T.pl rfl rfl rfl rfl ?_
      refine rm_g s4 rfl rfl ?_
      iterate 2 refine mj_T.pl rfl rfl rfl rfl ?_
      refine rm_g s4 rfl rfl ?_
      refine mj_T.call rfl rfl (Nat.le_of_ble_eq_true rfl) (Nat.le_of_ble_eq_true rfl) (s4.rv19 (by decide) rfl _) rfl (mj_Ok.up (by omega) (rm_12 (D := 0) s4 (show zkG (8 - d) 476 from Or.inr rfl) (z := zn) (by omega))) (fun v h7 hq => ?_) (fun i h7 hq => by obtain ⟨_, ⟨_, _, hq⟩ | ⟨_, _, hq⟩⟩ := hq <;> cases hq)
      obtain ⟨zz, hzz, s7⟩ : ∃ zz : Int, v = some (.int (jn zz)) ∧ ((fit13 (pw (rw13 (Y4 476)) zn) ∧ zz = 1 ∧ rM g n X0 (zkG (8 - d)) (rwu Y4 476 (pw (rw13 (Y4 476)) zn)) t4 (c2 : Int) (-1) h7) ∨ (¬ fit13 (pw (rw13 (Y4 476)) zn) ∧ zz = 0 ∧ rM g n X0 (fun c => c ≠ 476 ∧ zkG (8 - d) c) Y4 t4 (c2 : Int) (-1) h7)) := by
        obtain ⟨h2, ⟨o, s7, hq⟩ | ⟨o, s7, hq⟩⟩ := hq <;> cases hq
        · exact ⟨1, rfl, Or.inl ⟨o, rfl, s7⟩⟩
        · exact ⟨0, rfl, Or.inr ⟨o, rfl, s7⟩⟩
      subst hzz
      refine mj_T.eq (st2 := [.int (jn zz), .ref 455]) ?_ rfl rfl rfl rfl
      refine mj_T.pl rfl rfl rfl rfl ?_
      have t455 : h7[455]? = some (.inr (4, RF (c2 : Int) (-1) t4)) := by rcases s7 with ⟨_, _, q⟩ | ⟨_, _, q⟩ <;> exact q.rd
      refine mj_T.gfl rfl t455 rfl ?_
      refine mj_T.call rfl rfl (Nat.le_of_ble_eq_true rfl) (Nat.le_of_ble_eq_true rfl) (by rcases s7 with ⟨_, _, q⟩ | ⟨_, _, q⟩ <;> exact q.rv (by decide) rfl _) rfl (mj_Ok.up (by omega) (rm_check (D := 0) isRw.f hUw.t s7)) (fun v h8 hq => ?_) (fun i h8 hq => by obtain ⟨_, hq, _⟩ := hq; cases hq)
      obtain ⟨_, hq, s8⟩ := hq
      cases hq
      have fr : ∀ w : Nat → Int, ∀ c, c ≤ 457 + (8 - d) ∨ (467 ≤ c ∧ c < 467 + (8 - d)) → rwu Y4 476 w c = Y0 c := fun w x hx => by rw [rwu_ne _ _ (by omega), hUf x (by omega), hfr x hx]
      have fr2 : ∀ w : Nat → Int, rwu Y4 476 w (467 + (8 - d)) = Y (467 + (8 - d)) := fun w => by rw [rwu_ne _ _ (by omega), hUf _ (by omega)]
      obtain ⟨hUt, ⟨A, a1, a2, a3, a4⟩ | ⟨a1, a2⟩⟩ := hUw
      · rw [rw13_fit a2 a4] at s8
        rcases s8 with ⟨o, s8⟩ | ⟨o, s8⟩
        · exact t77 _ _ _ ⟨hUt, Or.inl ⟨_, by rw [hv, a1]; exact zvf_y o, o, a3, fun j _ => by rw [rwu_at]⟩⟩ (fr2 _) (fr _) s8
        · exact t77 _ _ _ ⟨hUt, Or.inr ⟨by rw [hv, a1]; exact zvf_n o, rfl⟩⟩ (fr2 _) (fr _) s8
      · rcases s8 with ⟨o, s8⟩ | ⟨o, s8⟩
        · exact t77 _ _ _ ⟨hUt, Or.inr ⟨by rw [hv, a1]; rfl, a2⟩⟩ (fr2 _) (fr _) s8
        · exact t77 _ _ _ ⟨hUt, Or.inr ⟨by rw [hv, a1]; rfl, rfl⟩⟩ (fr2 _) (fr _) s8
theorem rm_product {d E : Nat} (hB : bX X0 tm T) (ht : tm ≤ 200) (hT : ∀ j : Nat, j < tm → 1 ≤ T j ∧ T j ≤ 255) (hd : d ≤ 8)
    (ih : ∀ (f p : Nat) (h : mj_H) (res : Bool × Nat) (Y : Nat → Nat → Int) (t : Int), (t = 0 ∨ t = 1) → p ≤ tm → rpr0 T tm f 0 d p = some res → rM g n X0 (zkF (8 - d)) Y t (p : Int) (-1) h → mj_Ok (E + 6) 52 [.ref 455, .int (jn (8 - (d : Int)))] h (rQm T tm g n X0 (zkG (8 - d)) p res rV (UF d Y t (zv0 T tm f 0 d p none 1)))) (f p : Nat) (h : mj_H) (res : Bool × Nat) (Y : Nat → Nat → Int) (t : Int) (htt : t = 0 ∨ t = 1) (hp : p ≤ tm) (hf : rpr0 T tm f 1 d p = some res) (s : rM g n X0 (zkP (8 - d)) Y t (p : Int) (-1) h) : mj_Ok (E + 7) 50 [.ref 455, .int (jn (8 - (d : Int)))] h (rQm T tm g n X0 (zkF (8 - d)) p res rV0 (UP d Y t (zv0 T tm f 1 d p (some pz_one) 1))) := by
  refine mj_Ok.of (M := mj_m50) (loc := [some (.ref 455), some (.int (jn (8 - (d : Int)))), none, none, none]) rfl rfl rfl ?_
  refine mj_T.pl rfl rfl rfl rfl ?_
  refine rm_g s rfl rfl ?_
  refine mj_T.pl rfl rfl rfl rfl ?_
  rw [show 8 - (d : Int) = ((8 - d : Nat) : Int) by omega]
  refine mj_T.call rfl rfl (Nat.le_of_ble_eq_true rfl) (Nat.le_of_ble_eq_true rfl) rfl rfl (mj_Ok.up (by omega) (rm_48 (D := 0) (b := 466) (k := 8 - d) s (Or.inr rfl) (by omega))) (fun v h1 hq => ?_) (fun i h1 hq => by cases hq)
  cases hq
  rw [← show 8 - (d : Int) = ((8 - d : Nat) : Int) by omega]
  have kr : isRw (467 + (8 - d)) := isRw.p (by omega)
  refine mj_T.eq (st2 := [.ref (467 + (8 - d))]) ?_ rfl rfl rfl rfl
  refine mj_T.pl (loc' := [some (.ref 455), some (.int (jn (8 - (d : Int)))), some (.ref (467 + (8 - d))), none, none]) rfl rfl rfl rfl ?_
  refine mj_T.pl rfl rfl rfl rfl ?_
  refine mj_T.call rfl rfl (Nat.le_of_ble_eq_true rfl) (Nat.le_of_ble_eq_true rfl) rfl rfl (mj_Ok.up (by omega) (rm_165 (D := 0) (Z' := zkF (8 - d)) s kr (fun c hc => by unfold zkF at hc; unfold zkP; omega))) (fun v h1 hq => ?_) (fun i h1 hq => by obtain ⟨_, _, hq⟩ := hq; cases hq)
  obtain ⟨_, s1, hq⟩ := hq
  cases hq
  iterate 2 refine mj_T.pl rfl rfl rfl rfl ?_
  refine jT.lc 1 rfl rfl ?_
  refine rm_last (i := 0) s1 (show zkF (8 - d) (467 + (8 - d)) from Or.inr ⟨by omega, by omega⟩) rfl ⟨by decide, by decide⟩ (by decide) (fun h2 s2 => ?_)
  iterate 2 refine mj_T.pl rfl rfl rfl rfl ?_
  refine rm_product_loop hB ht hT hd ih Y t f p 0 h2 res _ _ t (some pz_one) ⟨htt, Or.inl ⟨_, rfl, fit_one, rfl, fun j hj => ?_⟩⟩ (fun c hc => ?_) hp (Nat.zero_le _) (Nat.le_refl _) hf s2
  · rw [rwu_at, rwu_at]
    rfl
  · rw [rwu_ne _ _ (by omega), rwu_ne _ _ (by omega)]
end JRF2
/-! The class's reader over the memory: sums, all depths. -/
section JRG2
variable {D tm n : Nat} {T : Nat → Int} {g h h' : mj_H} {a e t : Int} {X0 Y : Nat → Nat → Int}
/-- a sum: and blanks are passed behind it -/
def rQ2m (T : Nat → Int) (tm : Nat) (g : mj_H) (n : Nat) (X0 : Nat → Nat → Int) (Z : Nat → Prop) (a : Nat) (res : Bool × Nat) (U : (Nat → Nat → Int) → Int → Option Value → Prop) (r : mj_R) : Prop := rQm T tm g n X0 Z a res rV0 U r ∧ (res.1 = true → rskp T tm res.2 = res.2)
theorem fit_sum {A B : pz_P} {s : Int} (hA : fit13 A) (hB : fit13 B) : fit13 (fun j => A j + s * B j) ↔ sml (fun j => A j + s * B j) := ⟨fun h => h.1, fun h => ⟨h, fun i hi => by
  show A i + s * B i = 0
  rw [hA.2 i hi, hB.2 i hi, Int.mul_zero]
  rfl⟩⟩
theorem rm_sum_loop {d E a0 : Nat} (hB : bX X0 tm T) (ht : tm ≤ 200) (hT : ∀ j : Nat, j < tm → 1 ≤ T j ∧ T j ≤ 255) (hd : d ≤ 8)
    (ih : ∀ (f p : Nat) (h : mj_H) (res : Bool × Nat) (Y : Nat → Nat → Int) (t : Int), (t = 0 ∨ t = 1) → p ≤ tm → rpr0 T tm f 1 d p = some res → rM g n X0 (zkP (8 - d)) Y t (p : Int) (-1) h → mj_Ok (E + 7) 50 [.ref 455, .int (jn (8 - (d : Int)))] h (rQm T tm g n X0 (zkF (8 - d)) p res rV0 (UP d Y t (zv0 T tm f 1 d p (some pz_one) 1)))) (Y0 : Nat → Nat → Int) (t0 : Int) : ∀ (f p i : Nat) (z : Int) (h : mj_H) (res : Bool × Nat) (l5 : Option Value) (Y : Nat → Nat → Int) (t : Int) (P : Option pz_P), U0 P t0 t (Y (457 + (8 - d))) → (∀ c, c < 457 + (8 - d) ∨ (467 ≤ c ∧ c < 467 + (8 - d)) → Y c = Y0 c) → p ≤ tm → i ≤ p → a0 ≤ p → (z = 1 ∨ z = -1) → rpr0 T tm f 2 d p = some res → rM g n X0 (zkP (8 - d)) Y t (p : Int) (-1) h → mj_T (E + 7) mj_m49 31 [some (.ref 455), some (.int (jn (8 - (d : Int)))), some (.ref (457 + (8 - d))), some (.int (jn z)), some (.int (jn (i : Int))), l5] [] h (rQ2m T tm g n X0 (zkP (8 - d)) a0 res (US d Y0 t0 (zv0 T tm f 2 d p P z))) := by
  intro f
  induction f with
  | zero => intro p i z h res l5 Y t P _ _ _ _ _ _ hf; cases hf
  | succ f ihf =>
    intro p i z h res l5 Y t P hu hfr hp hi ha hz hf s
    have b := s.jBuf hB
    have kr : isRw (457 + (8 - d)) := isRw.s (by omega)
    have eVal : zv0 T tm (f + 1) 2 d p P z = match rpr0 T tm f 1 d p with | some (true, c) => (match rtk T tm 43 c with | some e => zv0 T tm f 2 d e (zva P z (zv0 T tm f 1 d p (some pz_one) 1)) 1 | none => match rtk T tm 45 (rskp T tm c) with | some e => zv0 T tm f 2 d e (zva P z (zv0 T tm f 1 d p (some pz_one) 1)) (-1) | none => zva P z (zv0 T tm f 1 d p (some pz_one) 1)) | _ => none := rfl
    unfold rpr0 at hf
    iterate 2 refine mj_T.pl rfl rfl rfl rfl ?_
    refine rm_g s rfl rfl ?_
    refine mj_T.gfl rfl b.1 rfl ?_
    refine mj_T.icmp (a := (i : Int)) (b := (tm : Int)) rfl ⟨by omega, by omega⟩ ⟨by omega, by omega⟩ (fun c => ?_) (fun _ => ?_)
    · have c := of_decide_eq_true c
      omega
    iterate 2 refine mj_T.pl rfl rfl rfl rfl ?_
    cases hfa : rpr0 T tm f 1 d p with
    | none => rw [hfa] at hf; cases hf
    | some rs =>
      rw [hfa] at hf eVal
      refine mj_T.call rfl rfl (Nat.le_of_ble_eq_true rfl) (Nat.le_of_ble_eq_true rfl) (s.rv (by decide) rfl _) rfl (ih f p h rs Y t hu.t hp hfa s) (fun v h4 hq => ?_) (fun i h4 hq => by obtain ⟨_, _, _, _, _, hq, _⟩ := hq; cases hq)
      obtain ⟨v2, c2, h5, Y4, t4, hq, hv, c3, c4⟩ := hq
      cases hv
      cases hq
      refine mj_T.pl rfl rfl rfl rfl ?_
      obtain ⟨ok, x⟩ := rs
      rcases c4 with ⟨e1, e2, e3, s4, hUw, hUf⟩ | ⟨e1, e2, s4⟩
      rotate_left
      · have e1 : ok = false := e1
        subst e1
        simp only at hf e2 s4
        cases hf
        refine rm_g s4 rfl rfl ?_
        refine mj_T.pl rfl rfl rfl rfl ?_
        refine mj_T.icmp (a := (x : Int)) (b := -1) rfl ⟨by omega, by omega⟩ ⟨by decide, by decide⟩ (fun c => ?_) (fun _ => ?_)
        · simp only [jc, decide_eq_true_eq] at c
          omega
        · exact mj_T.ret rfl rfl rfl ⟨⟨_, c2, _, _, _, rfl, rfl, c3, Or.inr ⟨rfl, e2, s4⟩⟩, fun q => by cases q⟩
      have e1 : ok = true := e1
      have e2 : c2 = x := e2
      subst e1 e2
      simp only at hf eVal
      refine rm_g s4 rfl rfl ?_
      refine mj_T.pl rfl rfl rfl rfl ?_
      refine mj_T.icmp (a := -1) (b := -1) rfl ⟨by decide, by decide⟩ ⟨by decide, by decide⟩ (fun _ => ?_) (fun c => absurd c (by decide))
      iterate 3 refine mj_T.pl rfl rfl rfl rfl ?_
      refine rm_g s4 rfl rfl ?_
      refine mj_T.pl rfl rfl rfl rfl ?_
      have e8 : (8 - (d : Int)) = ((8 - d : Nat) : Int) := by omega
      refine mj_T.call rfl rfl (Nat.le_of_ble_eq_true rfl) (Nat.le_of_ble_eq_true rfl) rfl rfl (by rw [e8]; exact mj_Ok.up (by omega) (rm_48 (D := 0) (b := 466) (k := 8 - d) s4 (Or.inr rfl) (by omega))) (fun v h6 hq => ?_) (fun i h6 hq => by cases hq)
      cases hq
      have k2 : isRw (467 + (8 - d)) := isRw.p (by omega)
      refine mj_T.eq (st2 := [.ref (467 + (8 - d)), .ref (457 + (8 - d)), .ref 455]) ?_ rfl rfl rfl rfl
      iterate 2 refine mj_T.pl rfl rfl rfl rfl ?_
      refine mj_T.call rfl rfl (Nat.le_of_ble_eq_true rfl) (Nat.le_of_ble_eq_true rfl) rfl rfl (mj_Ok.up (by omega) (rm_167 (D := 0) s4 (show zkF (8 - d) (457 + (8 - d)) from Or.inl ⟨by omega, by omega⟩) (show zkF (8 - d) (467 + (8 - d)) from Or.inr ⟨by omega, by omega⟩) hz)) (fun v h6 hq => ?_) (fun i h6 hq => by obtain ⟨_, ⟨_, _, hq⟩ | ⟨_, _, hq⟩⟩ := hq <;> cases hq)
      obtain ⟨zz, hzz, s6⟩ : ∃ zz : Int, v = some (.int (jn zz)) ∧ ((sml (fun j => Y4 (457 + (8 - d)) j + z * Y4 (467 + (8 - d)) j) ∧ zz = 1 ∧ rM g n X0 (zkF (8 - d)) (rwu Y4 (457 + (8 - d)) (fun j => Y4 (457 + (8 - d)) j + z * Y4 (467 + (8 - d)) j)) t4 (c2 : Int) (-1) h6) ∨ (¬ sml (fun j => Y4 (457 + (8 - d)) j + z * Y4 (467 + (8 - d)) j) ∧ zz = 0 ∧ rM g n X0 (fun c => c ≠ 457 + (8 - d) ∧ zkF (8 - d) c) Y4 t4 (c2 : Int) (-1) h6)) := by
        obtain ⟨h2, ⟨o, s7, hq⟩ | ⟨o, s7, hq⟩⟩ := hq <;> cases hq
        · exact ⟨1, rfl, Or.inl ⟨o, rfl, s7⟩⟩
        · exact ⟨0, rfl, Or.inr ⟨o, rfl, s7⟩⟩
      subst hzz
      refine mj_T.eq (st2 := [.int (jn zz), .ref 455]) ?_ rfl rfl rfl rfl
      refine mj_T.pl rfl rfl rfl rfl ?_
      refine mj_T.call rfl rfl (Nat.le_of_ble_eq_true rfl) (Nat.le_of_ble_eq_true rfl) (by rcases s6 with ⟨_, _, q⟩ | ⟨_, _, q⟩ <;> exact q.rv (by decide) rfl _) rfl (mj_Ok.up (by omega) (rm_check (D := 0) kr hUw.t s6)) (fun v h8 hq => ?_) (fun i h8 hq => by obtain ⟨_, hq, _⟩ := hq; cases hq)
      obtain ⟨_, hq, s8⟩ := hq
      cases hq
      have sFP : ∀ (Y9 : Nat → Nat → Int) (t9 : Int), rM g n X0 (zkF (8 - d)) Y9 t9 (c2 : Int) (-1) h8 → rM g n X0 (zkP (8 - d)) Y9 t9 (c2 : Int) (-1) h8 := fun Y9 t9 q => q.mono (fun c hc => by unfold zkP at hc; unfold zkF; omega)
      obtain ⟨Y8, t8, s8, u8, f8⟩ : ∃ (Y8 : Nat → Nat → Int) (t8 : Int), rM g n X0 (zkP (8 - d)) Y8 t8 (c2 : Int) (-1) h8 ∧ U0 (zva P z (zv0 T tm f 1 d p (some pz_one) 1)) t0 t8 (Y8 (457 + (8 - d))) ∧ ∀ c, c < 457 + (8 - d) ∨ (467 ≤ c ∧ c < 467 + (8 - d)) → Y8 c = Y0 c := by
        have e57 : Y4 (457 + (8 - d)) = Y (457 + (8 - d)) := hUf _ (by omega)
        have ff : ∀ w : Nat → Int, ∀ c, c < 457 + (8 - d) ∨ (467 ≤ c ∧ c < 467 + (8 - d)) → rwu Y4 (457 + (8 - d)) w c = Y0 c := fun w c hc => by rw [rwu_ne _ _ (by omega), hUf c (by omega), hfr c hc]
        obtain ⟨hut, ⟨A, a1, a2, a3, a4⟩ | ⟨a1, a2⟩⟩ := hu
        · obtain ⟨_, ⟨B, b1, b2, b3, b4⟩ | ⟨b1, b2⟩⟩ := hUw
          · have ee : ∀ j, j < 13 → Y4 (457 + (8 - d)) j + z * Y4 (467 + (8 - d)) j = A j + z * B j := fun j hj => by rw [e57, a4 j hj, b4 j hj]
            rcases s8 with ⟨o, s8⟩ | ⟨o, s8⟩
            · have o2 := (fit_sum (s := z) a2 b2).mpr (sml_cg ee o)
              exact ⟨_, _, sFP _ _ s8, ⟨hut, Or.inl ⟨_, by rw [a1, b1]; exact zvf_y o2, o2, b3.trans a3, fun j hj => by rw [rwu_at]; exact ee j hj⟩⟩, ff _⟩
            · have o2 : ¬ fit13 (fun j => A j + z * B j) := fun q => o (sml_cg (fun j hj => (ee j hj).symm) q.1)
              exact ⟨_, _, sFP _ _ s8, ⟨hut, Or.inr ⟨by rw [a1, b1]; exact zvf_n o2, rfl⟩⟩, ff _⟩
          · rcases s8 with ⟨o, s8⟩ | ⟨o, s8⟩
            · exact ⟨_, _, sFP _ _ s8, ⟨hut, Or.inr ⟨by rw [a1, b1]; rfl, b2⟩⟩, ff _⟩
            · exact ⟨_, _, sFP _ _ s8, ⟨hut, Or.inr ⟨by rw [a1, b1]; rfl, rfl⟩⟩, ff _⟩
        · have n1 : zva P z (zv0 T tm f 1 d p (some pz_one) 1) = none := by rw [a1]; rfl
          have t41 : t4 = 1 := by
            obtain ⟨_, ⟨B, b1, b2, b3, b4⟩ | ⟨b1, b2⟩⟩ := hUw
            · exact b3.trans a2
            · exact b2
          rcases s8 with ⟨o, s8⟩ | ⟨o, s8⟩
          · exact ⟨_, _, sFP _ _ s8, ⟨hut, Or.inr ⟨n1, t41⟩⟩, ff _⟩
          · exact ⟨_, _, sFP _ _ s8, ⟨hut, Or.inr ⟨n1, rfl⟩⟩, ff _⟩
      have hl9 := rskp_le (T := T) c3
      have hg9 := rskp_ge (T := T) (tm := tm) c2
      -- the next product, with its sign
      have t99 : ∀ (y : Int) (b9 : Nat) (h9 : mj_H), (y = 0 ∨ y = 1) → b9 ≤ tm → i + 1 ≤ b9 → a0 ≤ b9 → rpr0 T tm f 2 d b9 = some res → zv0 T tm (f + 1) 2 d p P z = zv0 T tm f 2 d b9 (zva P z (zv0 T tm f 1 d p (some pz_one) 1)) (if y = 0 then -1 else 1) → rM g n X0 (zkP (8 - d)) Y8 t8 (b9 : Int) (-1) h9 → mj_T (E + 7) mj_m49 99 [some (.ref 455), some (.int (jn (8 - (d : Int)))), some (.ref (457 + (8 - d))), some (.int (jn z)), some (.int (jn (i : Int))), some (.int (jn y))] [] h9 (rQ2m T tm g n X0 (zkP (8 - d)) a0 res (US d Y0 t0 (zv0 T tm (f + 1) 2 d p P z))) := fun y b9 h9 hy g2 g3 g4 hf9 ev9 s9 => by
        have t109 : ∀ z2 : Int, (z2 = 1 ∨ z2 = -1) → z2 = (if y = 0 then -1 else 1) → mj_T (E + 7) mj_m49 109 [some (.ref 455), some (.int (jn (8 - (d : Int)))), some (.ref (457 + (8 - d))), some (.int (jn z)), some (.int (jn (i : Int))), some (.int (jn y))] [.int (jn z2)] h9 (rQ2m T tm g n X0 (zkP (8 - d)) a0 res (US d Y0 t0 (zv0 T tm (f + 1) 2 d p P z))) := fun z2 hz2 hzy => by
          refine mj_T.pl (loc' := [some (.ref 455), some (.int (jn (8 - (d : Int)))), some (.ref (457 + (8 - d))), some (.int (jn z2)), some (.int (jn (i : Int))), some (.int (jn y))]) rfl rfl rfl rfl ?_
          refine mj_T.iinc (a := (i : Int)) rfl rfl ?_
          refine mj_T.eq (loc2 := [some (.ref 455), some (.int (jn (8 - (d : Int)))), some (.ref (457 + (8 - d))), some (.int (jn z2)), some (.int (jn ((i + 1 : Nat) : Int))), some (.int (jn y))]) ?_ rfl (by rw [show ((i + 1 : Nat) : Int) = (i : Int) + 1 by omega]; rfl) rfl rfl
          refine mj_T.pl rfl rfl rfl rfl ?_
          rw [ev9, ← hzy]
          exact ihf b9 (i + 1) z2 h9 res _ Y8 t8 _ u8 f8 g2 g3 g4 hz2 hf9 s9
        refine mj_T.pl rfl rfl rfl rfl ?_
        refine mj_T.if0 (a := y) rfl ⟨by omega, by omega⟩ (fun c => ?_) (fun c => ?_)
        · refine mj_T.pl rfl rfl rfl rfl ?_
          simp only [jc, Bool.not_eq_true', Bool.not_eq_false', decide_eq_true_eq, decide_eq_false_iff_not] at c
          exact t109 (-1) (Or.inr rfl) (if_pos c).symm
        · iterate 2 refine mj_T.pl rfl rfl rfl rfl ?_
          simp only [jc, Bool.not_eq_true', Bool.not_eq_false', decide_eq_true_eq, decide_eq_false_iff_not] at c
          exact t109 1 (Or.inl rfl) (if_neg c).symm
      iterate 2 refine mj_T.pl rfl rfl rfl rfl ?_
      refine mj_T.call rfl rfl (Nat.le_of_ble_eq_true rfl) (Nat.le_of_ble_eq_true rfl) (s8.rv (by decide) rfl _) rfl (mj_Ok.up (by omega) (rm_takes (D := 0) (c := 43) ⟨by decide, by decide⟩ hB ht hT c3 s8)) (fun v h9 hq => ?_) (fun i h9 hq => by rcases hq with ⟨_, _, _, _, hq⟩ | ⟨_, _, _, hq⟩ <;> cases hq)
      rcases hq with ⟨b9, _, ⟨g1, g2, g3⟩, s9, hq⟩ | ⟨_, g1, s9, hq⟩
      · cases hq
        rw [g1] at hf eVal
        refine mj_T.pl (loc' := [some (.ref 455), some (.int (jn (8 - (d : Int)))), some (.ref (457 + (8 - d))), some (.int (jn z)), some (.int (jn (i : Int))), some (.int (jn 1))]) rfl rfl rfl rfl ?_
        refine mj_T.pl rfl rfl rfl rfl ?_
        refine mj_T.if0 (a := 1) rfl ⟨by decide, by decide⟩ (fun _ => ?_) (fun hc2 => by simp [jc] at hc2)
        exact t99 1 b9 h9 (Or.inr rfl) g2 (by omega) (by omega) hf eVal s9
      · cases hq
        rw [g1] at hf eVal
        simp only at hf eVal
        refine mj_T.pl (loc' := [some (.ref 455), some (.int (jn (8 - (d : Int)))), some (.ref (457 + (8 - d))), some (.int (jn z)), some (.int (jn (i : Int))), some (.int (jn 0))]) rfl rfl rfl rfl ?_
        refine mj_T.pl rfl rfl rfl rfl ?_
        refine mj_T.if0 (a := 0) rfl ⟨by decide, by decide⟩ (fun hc2 => by simp [jc] at hc2) (fun _ => ?_)
        iterate 2 refine mj_T.pl rfl rfl rfl rfl ?_
        refine mj_T.call rfl rfl (Nat.le_of_ble_eq_true rfl) (Nat.le_of_ble_eq_true rfl) (s9.rv (by decide) rfl _) rfl (mj_Ok.up (by omega) (rm_takes (D := 0) (c := 45) ⟨by decide, by decide⟩ hB ht hT hl9 s9)) (fun v h10 hq => ?_) (fun i h10 hq => by rcases hq with ⟨_, _, _, _, hq⟩ | ⟨_, _, _, hq⟩ <;> cases hq)
        rcases hq with ⟨b9, _, ⟨g1, g2, g3⟩, s10, hq⟩ | ⟨_, g1, s10, hq⟩
        · cases hq
          rw [g1] at hf eVal
          refine mj_T.if0 (a := 1) rfl ⟨by decide, by decide⟩ (fun _ => ?_) (fun hc2 => by simp [jc] at hc2)
          exact t99 0 b9 h10 (Or.inl rfl) g2 (by omega) (by omega) hf eVal s10
        · cases hq
          rw [g1] at hf eVal
          cases hf
          rw [rskp_idem c3] at s10
          refine mj_T.if0 (a := 0) rfl ⟨by decide, by decide⟩ (fun hc2 => by simp [jc] at hc2) (fun _ => ?_)
          exact mj_T.ret rfl rfl rfl ⟨⟨_, rskp T tm c2, h10, Y8, t8, rfl, rfl, hl9, Or.inl ⟨rfl, rfl, by omega, s10, by rw [eVal]; exact ⟨u8, f8⟩⟩⟩, fun _ => rskp_idem c3⟩
theorem rm_sum {d E : Nat} (hB : bX X0 tm T) (ht : tm ≤ 200) (hT : ∀ j : Nat, j < tm → 1 ≤ T j ∧ T j ≤ 255) (hd : d ≤ 8)
    (ih : ∀ (f p : Nat) (h : mj_H) (res : Bool × Nat) (Y : Nat → Nat → Int) (t : Int), (t = 0 ∨ t = 1) → p ≤ tm → rpr0 T tm f 1 d p = some res → rM g n X0 (zkP (8 - d)) Y t (p : Int) (-1) h → mj_Ok (E + 7) 50 [.ref 455, .int (jn (8 - (d : Int)))] h (rQm T tm g n X0 (zkF (8 - d)) p res rV0 (UP d Y t (zv0 T tm f 1 d p (some pz_one) 1)))) (f p : Nat) (h : mj_H) (res : Bool × Nat) (Y : Nat → Nat → Int) (t : Int) (htt : t = 0 ∨ t = 1) (hp : p ≤ tm) (hf : rpr0 T tm f 3 d p = some res) (s : rM g n X0 (zkS (8 - d)) Y t (p : Int) (-1) h) : mj_Ok (E + 8) 49 [.ref 455, .int (jn (8 - (d : Int)))] h (rQ2m T tm g n X0 (zkP (8 - d)) p res (US d Y t (zv0 T tm f 3 d p none 1))) := by
  obtain ⟨f, rfl⟩ : ∃ f0, f = f0 + 1 := by
    cases f with
    | zero => cases hf
    | succ f0 => exact ⟨f0, rfl⟩
  have eVal : zv0 T tm (f + 1) 3 d p none 1 = match rtk T tm 45 p with | some e => zv0 T tm f 2 d e (some pz_0) (-1) | none => zv0 T tm f 2 d (rskp T tm p) (some pz_0) 1 := rfl
  have kr : isRw (457 + (8 - d)) := isRw.s (by omega)
  have e8 : (8 - (d : Int)) = ((8 - d : Nat) : Int) := by omega
  unfold rpr0 at hf
  refine mj_Ok.of (M := mj_m49) (loc := [some (.ref 455), some (.int (jn (8 - (d : Int)))), none, none, none, none]) rfl rfl rfl ?_
  refine mj_T.pl rfl rfl rfl rfl ?_
  refine rm_g s rfl rfl ?_
  refine mj_T.pl rfl rfl rfl rfl ?_
  refine mj_T.call rfl rfl (Nat.le_of_ble_eq_true rfl) (Nat.le_of_ble_eq_true rfl) rfl rfl (by rw [e8]; exact mj_Ok.up (by omega) (rm_48 (D := 0) (b := 456) (k := 8 - d) s (Or.inl rfl) (by omega))) (fun v h1 hq => ?_) (fun i h1 hq => by cases hq)
  cases hq
  refine mj_T.eq (st2 := [.ref (457 + (8 - d))]) ?_ rfl rfl rfl rfl
  refine mj_T.pl (loc' := [some (.ref 455), some (.int (jn (8 - (d : Int)))), some (.ref (457 + (8 - d))), none, none, none]) rfl rfl rfl rfl ?_
  refine mj_T.pl rfl rfl rfl rfl ?_
  refine mj_T.call rfl rfl (Nat.le_of_ble_eq_true rfl) (Nat.le_of_ble_eq_true rfl) rfl rfl (mj_Ok.up (by omega) (rm_165 (D := 0) (Z' := zkP (8 - d)) s kr (fun c hc => by unfold zkP at hc; unfold zkS; omega))) (fun v h1 hq => ?_) (fun i h1 hq => by obtain ⟨_, _, hq⟩ := hq; cases hq)
  obtain ⟨_, s1, hq⟩ := hq
  cases hq
  iterate 2 refine mj_T.pl rfl rfl rfl rfl ?_
  refine mj_T.call rfl rfl (Nat.le_of_ble_eq_true rfl) (Nat.le_of_ble_eq_true rfl) (s1.rv (by decide) rfl _) rfl (mj_Ok.up (by omega) (rm_takes (D := 0) (c := 45) ⟨by decide, by decide⟩ hB ht hT hp s1)) (fun v h2 hq => ?_) (fun i h2 hq => by rcases hq with ⟨_, _, _, _, hq⟩ | ⟨_, _, _, hq⟩ <;> cases hq)
  have t27 : ∀ (z : Int) (b : Nat) (h2 : mj_H), (z = 1 ∨ z = -1) → b ≤ tm → p ≤ b → rpr0 T tm f 2 d b = some res → zv0 T tm (f + 1) 3 d p none 1 = zv0 T tm f 2 d b (some pz_0) z → rM g n X0 (zkP (8 - d)) (rwu Y (457 + (8 - d)) (fun _ => 0)) t (b : Int) (-1) h2 → mj_T (E + 7) mj_m49 27 [some (.ref 455), some (.int (jn (8 - (d : Int)))), some (.ref (457 + (8 - d))), none, none, none] [.int (jn z)] h2 (rQ2m T tm g n X0 (zkP (8 - d)) p res (US d Y t (zv0 T tm (f + 1) 3 d p none 1))) := fun z b h2 hz hb hpb hf2 ev s2 => by
    refine mj_T.pl (loc' := [some (.ref 455), some (.int (jn (8 - (d : Int)))), some (.ref (457 + (8 - d))), some (.int (jn z)), none, none]) rfl rfl rfl rfl ?_
    iterate 2 refine mj_T.pl rfl rfl rfl rfl ?_
    rw [ev]
    exact rm_sum_loop hB ht hT hd ih Y t f b 0 z h2 res none _ t (some pz_0) ⟨htt, Or.inl ⟨_, rfl, fit_0, rfl, fun j hj => by rw [rwu_at]; rfl⟩⟩ (fun c hc => rwu_ne _ _ (by omega)) hb (Nat.zero_le _) hpb hz hf2 s2
  have hg := rskp_ge (T := T) (tm := tm) p
  have hl := rskp_le (T := T) hp
  rcases hq with ⟨b, _, ⟨b1, b2, b3⟩, s2, hq⟩ | ⟨_, b1, s2, hq⟩
  · cases hq
    rw [b1] at hf eVal
    refine mj_T.if0 (a := 1) rfl ⟨by decide, by decide⟩ (fun hc2 => by simp [jc] at hc2) (fun _ => ?_)
    iterate 2 refine mj_T.pl rfl rfl rfl rfl ?_
    exact t27 (-1) b h2 (Or.inr rfl) b2 (by omega) hf eVal s2
  · cases hq
    rw [b1] at hf eVal
    refine mj_T.if0 (a := 0) rfl ⟨by decide, by decide⟩ (fun _ => ?_) (fun hc2 => by simp [jc] at hc2)
    refine mj_T.pl rfl rfl rfl rfl ?_
    exact t27 1 _ h2 (Or.inl rfl) hl hg hf eVal s2
theorem rm_all (hB : bX X0 tm T) (ht : tm ≤ 200) (hT : ∀ j : Nat, j < tm → 1 ≤ T j ∧ T j ≤ 255) : ∀ d, d ≤ 8 → ∀ (f p : Nat) (h : mj_H) (res : Bool × Nat) (Y : Nat → Nat → Int) (t : Int), (t = 0 ∨ t = 1) → p ≤ tm → rpr0 T tm f 3 d p = some res → rM g n X0 (zkS (8 - d)) Y t (p : Int) (-1) h → mj_Ok (3 * d + 8) 49 [.ref 455, .int (jn (8 - (d : Int)))] h (rQ2m T tm g n X0 (zkP (8 - d)) p res (US d Y t (zv0 T tm f 3 d p none 1))) := by
  intro d
  induction d with
  | zero =>
    intro _ f p h res Y t htt hp hf s
    refine rm_sum (E := 0) hB ht hT (by decide) (fun f p h res Y t htt hp hf s => ?_) f p h res Y t htt hp hf s
    exact rm_product (E := 0) hB ht hT (by decide) (fun f p h res Y t htt hp hf s => rm_factor (E := 5) hB ht hT (by decide) (Nat.le_refl 5) htt (fun d' e => by omega) hp hf s) f p h res Y t htt hp hf s
  | succ d ihd =>
    intro hd f p h res Y t htt hp hf s
    have e : 3 * (d + 1) + 8 = (3 * d + 3) + 8 := by omega
    rw [e]
    refine rm_sum (E := 3 * d + 3) hB ht hT hd (fun f p h res Y t htt hp hf s => ?_) f p h res Y t htt hp hf s
    refine rm_product (E := 3 * d + 3) hB ht hT hd (fun f p h res Y t htt hp hf s => ?_) f p h res Y t htt hp hf s
    exact rm_factor (E := 3 * d + 8) hB ht hT hd (by omega) htt (fun d' e f p h res Y t htt hp hf s => by
      have e2 : d = d' := by omega
      subst e2
      exact (ihd (by omega) f p h res Y t htt hp hf s).to (fun r q => q.1)) hp hf s
end JRG2
/-! The class, exactly: a whole text is read. -/
/-- what the text says -/
noncomputable def rdV (T : Nat → Int) (tm : Nat) : Option pz_P := zv0 T tm (rdF tm) 3 8 0 none 1
theorem CR.of {X X1 : Nat → Nat → Int} {N : Nat → Int} {u : Nat} {H : Nat → Nat → Int} (h2 : X1 1 2 = X 1 2) (h3 : X1 1 3 = X 1 3) (h : ∀ c, (2 ≤ c ∧ c < 12) ∨ 483 ≤ c ∨ c = 15 ∨ c = 17 → X1 c = X c) (c : CR X N u H) : CR X1 N u H := by
  obtain ⟨e, he, q3, q2, b, bh, tl⟩ := c
  exact ⟨e, he, h3.trans q3, h2.trans q2, b.cg (fun c c1 c2 => h c (by omega)), fun k hk => (bh k hk).cg (fun c c1 c2 => h c (by omega)), tl.to (fun c hc => h c (by omega))⟩
/-- the reader begins -/
def rX1 (X : Nat → Nat → Int) (tm : Nat) : Nat → Nat → Int := fun a j => if a = 455 then (if j = 1 then 13 else if j = 2 then 0 else if j = 3 then -1 else if j = 4 then 0 else X 455 j) else if a = 13 then (if j = 1 then (tm : Int) else X 13 j) else X a j
theorem rX1_o (X : Nat → Nat → Int) (tm : Nat) {a : Nat} (h1 : a ≠ 455) (h2 : a ≠ 13) : rX1 X tm a = X a := funext fun j => by
  unfold rX1
  rw [if_neg h1, if_neg h2]
section RMA
variable {D tm n : Nat} {T : Nat → Int} {g h h' : mj_H} {X Y : Nat → Nat → Int} {V : Nat → Int}
theorem rM_start (m : jM g n V X h) (b0 : by0 V) (d : DG X) (hB : jBuf tm T h) : rM g n (rX1 X tm) (fun _ => False) Y 0 0 (-1) (h.set 455 (.inr (4, RF 0 (-1) 0))) ∧ bX (rX1 X tm) tm T := by
  have hl := (List.getElem?_eq_some_iff.mp (m.O 14 cq_d455 (by decide))).1
  have e13 : rX1 X tm 13 1 = (tm : Int) := rfl
  have hm : jM g n V (rX1 X tm) (h.set 455 (.inr (4, RF 0 (-1) 0))) := by
    refine m.up (fun x => x = 455 ∨ x = 13) (by rw [List.length_set]) (fun x hx => ?_) (fun p hp => List.getElem?_set_ne (fun e => hp (Or.inl e.symm))) (fun _ _ => rfl) (fun x hx => rX1_o X tm (fun e => hx (Or.inl e)) (fun e => hx (Or.inr e))) (fun x hx => ?_) (fun x hx => ?_)
    · rcases hx with rfl | rfl
      · rw [cq_d455]
        decide
      · rw [cq_d13]
        decide
    · have w := mK_w hx
      constructor
      · intro e
        rcases e with rfl | rfl
        · rw [cq_d455] at hx
          omega
        · rw [cq_d13] at hx
          omega
      · intro e
        rcases e with e | e
        · rw [e, cq_d455] at w
          omega
        · rw [e, cq_d13] at w
          omega
    · rcases hx with rfl | rfl
      · unfold jMk
        rw [cq_d455, if_neg (by decide), if_neg (by decide), if_neg (by decide), if_neg (by decide), if_neg (by decide), if_neg (by decide), if_neg (by decide), List.getElem?_set_self hl]
        rfl
      · unfold jMk
        rw [cq_d13, if_neg (by decide), if_neg (by decide), if_neg (by decide), if_neg (by decide), if_neg (by decide), if_neg (by decide), if_neg (by decide), List.getElem?_set_ne (by decide), hB.1]
        rfl
  refine ⟨⟨V, _, hm, ⟨b0, d.of (fun p kp => rX1_o X tm (fun e => ?_) (fun e => ?_)), sBn.rf _⟩, ⟨rfl, rfl, rfl, rfl⟩, fun c hc => hc.elim⟩, e13, fun j hj => ?_⟩
  · rw [e, cq_d455] at kp
    omega
  · rw [e, cq_d13] at kp
    omega
  · have h1 := m.2.2 14
    rw [cq_456.2.2.2.2.2.2.2.2] at h1
    have h2 : h[14]? = some (.inl (2, cL 14, fun j => .int (jn (X 14 j)))) := h1
    obtain ⟨f, f1, f2⟩ := hB.2
    rw [h2] at f1
    injection f1 with f1
    injection f1 with f1
    have f3 := (Prod.mk.inj (Prod.mk.inj f1).2).2
    rw [← f2 j hj, ← f3]
    rfl
theorem rm_accepts (m : jM g n V X h) (b0 : by0 V) (d : DG X) (hB0 : jBuf tm T h) (ht : tm ≤ 200) (hT : ∀ j : Nat, j < tm → 1 ≤ T j ∧ T j ≤ 255) : mj_Ok 40 46 [.ref 455, .ref 13] h (fun r => ∃ (p : Nat) (h2 : mj_H) (Y2 : Nat → Nat → Int) (t2 : Int) (Z2 : Nat → Prop), jr (rdErr T tm) ∧ rM g n (rX1 X tm) Z2 Y2 t2 (p : Int) (rdErr T tm) h2 ∧ (rdErr T tm = -1 → Z2 457 ∧ U0 (rdV T tm) 0 t2 (Y2 457)) ∧ r = (.inl (some (.int (jn (if rdErr T tm = -1 then 1 else 0)))), h2)) := by
  have hc := m.O 14 cq_d455 (by decide)
  have hl := (List.getElem?_eq_some_iff.mp hc).1
  refine mj_Ok.of (M := mj_m46) (loc := [some (.ref 455), some (.ref 13)]) rfl rfl rfl ?_
  iterate 2 refine mj_T.pl rfl rfl rfl rfl ?_
  refine mj_T.pfl rfl hc (Nat.le_of_ble_eq_true rfl) rfl ?_
  iterate 2 refine mj_T.pl rfl rfl rfl rfl ?_
  refine mj_T.pfl rfl (List.getElem?_set_self hl) (Nat.le_of_ble_eq_true rfl) rfl ?_
  rw [List.set_set]
  iterate 2 refine mj_T.pl rfl rfl rfl rfl ?_
  refine mj_T.pfl rfl (List.getElem?_set_self hl) (Nat.le_of_ble_eq_true rfl) rfl ?_
  rw [List.set_set]
  iterate 2 refine mj_T.pl rfl rfl rfl rfl ?_
  refine mj_T.pfl rfl (List.getElem?_set_self hl) (Nat.le_of_ble_eq_true rfl) rfl ?_
  rw [List.set_set]
  obtain ⟨s1, hB⟩ := rM_start (Y := fun _ _ => 0) m b0 d hB0
  obtain ⟨h1, hh1⟩ : ∃ z, z = h.set 455 (.inr (4, RF 0 (-1) 0)) := ⟨_, rfl⟩
  rw [← hh1] at s1
  refine mj_T.eq (h2 := h1) ?_ rfl rfl rfl (by rw [hh1]; rfl)
  obtain ⟨hre, hrb⟩ := rdR_eq T tm
  obtain ⟨res, hres⟩ : ∃ z, rdR T tm = z := ⟨_, rfl⟩
  rw [hres] at hre hrb
  have t55 : ∀ (x : Int) (p : Nat) (h2 : mj_H) (Y2 : Nat → Nat → Int) (t2 : Int) (Z2 : Nat → Prop), jr x → p ≤ tm → rdErr T tm = x → rM g n (rX1 X tm) Z2 Y2 t2 (p : Int) x h2 → (x = -1 → Z2 457 ∧ U0 (rdV T tm) 0 t2 (Y2 457)) → mj_T 39 mj_m46 55 [some (.ref 455), some (.ref 13)] [] h2 (fun r => ∃ (p : Nat) (h2 : mj_H) (Y2 : Nat → Nat → Int) (t2 : Int) (Z2 : Nat → Prop), jr (rdErr T tm) ∧ rM g n (rX1 X tm) Z2 Y2 t2 (p : Int) (rdErr T tm) h2 ∧ (rdErr T tm = -1 → Z2 457 ∧ U0 (rdV T tm) 0 t2 (Y2 457)) ∧ r = (.inl (some (.int (jn (if rdErr T tm = -1 then 1 else 0)))), h2)) := fun x p h2 Y2 t2 Z2 jx hp ex s2 hu => by
    rw [ex]
    refine mj_T.pl rfl rfl rfl rfl ?_
    refine rm_g s2 rfl rfl ?_
    refine mj_T.pl rfl rfl rfl rfl ?_
    refine mj_T.icmp (a := x) (b := -1) rfl jx ⟨by decide, by decide⟩ (fun c => ?_) (fun c => ?_)
    · simp only [jc, Bool.not_eq_true', decide_eq_false_iff_not] at c
      refine mj_T.pl rfl rfl rfl rfl ?_
      exact mj_T.ret rfl rfl rfl ⟨p, h2, Y2, t2, Z2, jx, s2, hu, by rw [if_neg c]⟩
    · simp only [jc, Bool.not_eq_false', decide_eq_true_eq] at c
      iterate 2 refine mj_T.pl rfl rfl rfl rfl ?_
      exact mj_T.ret rfl rfl rfl ⟨p, h2, Y2, t2, Z2, jx, s2, hu, by rw [if_pos c]⟩
  iterate 2 refine mj_T.pl rfl rfl rfl rfl ?_
  refine mj_T.eq (st2 := [.int (jn (8 - ((8 : Nat) : Int))), .ref 455]) ?_ rfl rfl rfl rfl
  refine mj_T.call rfl rfl (Nat.le_of_ble_eq_true rfl) (Nat.le_of_ble_eq_true rfl) (s1.rv (by decide) rfl _) rfl (mj_Ok.up (by decide) (rm_all hB ht hT 8 (by decide) (rdF tm) 0 h1 res (fun _ _ => 0) 0 (Or.inl rfl) (Nat.zero_le _) hre (s1.mono (fun c hc => by unfold zkS at hc; omega)))) (fun v h4 hq => ?_) (fun i h4 hq => by obtain ⟨⟨_, _, _, _, _, hq, _⟩, _⟩ := hq; cases hq)
  obtain ⟨⟨v2, c2, h5, Y4, t4, hq, hv, c3, c4⟩, hsk⟩ := hq
  cases hv
  cases hq
  refine mj_T.pl rfl rfl rfl rfl ?_
  rcases c4 with ⟨e1, e2, e3, s4, hU⟩ | ⟨e1, e2, s4⟩
  rotate_left
  · refine rm_g s4 rfl rfl ?_
    refine mj_T.pl rfl rfl rfl rfl ?_
    refine mj_T.icmp (a := (res.2 : Int)) (b := -1) rfl ⟨by omega, by omega⟩ ⟨by decide, by decide⟩ (fun _ => ?_) (fun c => ?_)
    · exact t55 _ c2 h4 _ _ _ ⟨by omega, by omega⟩ c3 (by unfold rdErr; rw [hres, e1]; rfl) s4 (fun q => by omega)
    · simp only [jc, Bool.not_eq_false', decide_eq_true_eq] at c
      omega
  have hb := s4.jBuf hB
  have hsk2 := hsk e1
  refine rm_g s4 rfl rfl ?_
  refine mj_T.pl rfl rfl rfl rfl ?_
  refine mj_T.icmp (a := -1) (b := -1) rfl ⟨by decide, by decide⟩ ⟨by decide, by decide⟩ (fun c => absurd c (by decide)) (fun _ => ?_)
  refine mj_T.pl rfl rfl rfl rfl ?_
  refine rm_g s4 rfl rfl ?_
  refine mj_T.pl rfl rfl rfl rfl ?_
  refine rm_g s4 rfl rfl ?_
  refine mj_T.gfl rfl hb.1 rfl ?_
  refine mj_T.icmp (a := (c2 : Int)) (b := (tm : Int)) rfl ⟨by omega, by omega⟩ ⟨by omega, by omega⟩ (fun c => ?_) (fun c => ?_)
  · have c := of_decide_eq_true c
    refine t55 (-1) c2 h4 _ _ _ ⟨by decide, by decide⟩ c3 ?_ s4 (fun _ => ⟨Or.inl ⟨by decide, by decide⟩, hU.1⟩)
    unfold rdErr
    rw [hres, if_pos e1, if_pos (by rw [hsk2]; omega)]
  · have c := of_decide_eq_false c
    iterate 2 refine mj_T.pl rfl rfl rfl rfl ?_
    refine rm_g s4 rfl rfl ?_
    refine rm_p3 s4 rfl (fun h6 s6 => ?_)
    refine t55 (c2 : Int) c2 h6 _ _ _ ⟨by omega, by omega⟩ c3 ?_ s6 (fun q => by omega)
    unfold rdErr
    rw [hres, if_pos e1, if_neg (by rw [hsk2]; omega), hsk2, e2]
end RMA
section RMC
variable {D tm n u : Nat} {T : Nat → Int} {g h : mj_H} {N : Nat → Int} {H : Nat → Nat → Int}
theorem pX_read (hg : g.length ≤ n) (A : AS N u H) (s : cS g n N u H h) (hB0 : jBuf tm T h) (ht : tm ≤ 200) (hT : ∀ j : Nat, j < tm → 1 ≤ T j ∧ T j ≤ 255) {to : Int} (rto : -2147483648 ≤ to ∧ to ≤ 2147483647) : mj_Ok 41 114 [.ref 1, .int (jn to)] h (RO g n N u H (0 ≤ to ∧ to ≤ 5) (fun k => (rdErr T tm ≠ -1 ∧ k = 2) ∨ (rdErr T tm = -1 ∧ rdV T tm = none ∧ k = 1)) (fun w => rdErr T tm = -1 ∧ ∃ P, rdV T tm = some P ∧ isP P w) to) := by
  obtain ⟨V, X, m, b0, d, c⟩ := s
  refine mj_Ok.of (M := mj_m114) (loc := [some (.ref 1), some (.int (jn to)), none]) rfl rfl rfl ?_
  iterate 2 refine mj_T.pl rfl rfl rfl rfl ?_
  refine mj_T.call rfl rfl (Nat.le_of_ble_eq_true rfl) (Nat.le_of_ble_eq_true rfl) (mV_of m 19 cq_d1 (by decide) rfl (by decide) rfl _) rfl (mj_Ok.up (by omega) (mC_rowOf (D := 0) m (i := to) (by omega))) (fun v g1 hq => ?_) (fun i g1 hq => ?_)
  rotate_left
  · rcases hq with ⟨_, hq⟩ | ⟨hn, hq⟩
    · cases hq
    · cases hq
      exact Or.inl ⟨rfl, Or.inr ⟨_, _, Or.inl ⟨by omega, rfl⟩, cS.thr hg m b0 d c, rfl⟩⟩
  rcases hq with ⟨kto, hq⟩ | ⟨_, hq⟩
  rotate_left
  · cases hq
  cases hq
  refine mj_T.eq (pc2 := 5) (st2 := [.ref (4 + to.toNat)]) ?_ rfl rfl rfl rfl
  iterate 2 refine mj_T.pl rfl rfl rfl rfl ?_
  refine mT_get m 19 cq_d1 (by decide) rfl rfl ?_
  refine mj_T.pl rfl rfl rfl rfl ?_
  refine mT_get m 19 cq_d1 (by decide) rfl rfl ?_
  refine mj_T.call rfl rfl (Nat.le_of_ble_eq_true rfl) (Nat.le_of_ble_eq_true rfl) (mV_of m 14 cq_d455 (by decide) rfl (by decide) rfl _) rfl (mj_Ok.up (by omega) (rm_accepts m b0 d hB0 ht hT)) (fun v g2 hq => ?_) (fun i g2 hq => by obtain ⟨_, _, _, _, _, _, _, _, hq⟩ := hq; cases hq)
  obtain ⟨p, _, Y2, t2, Z2, hjE, ⟨V2, X2, m2, ⟨b2, d2, sb⟩, ⟨x1, x2, x3, x4⟩, yr⟩, hU, hq⟩ := hq
  have c1 : CR (rX1 X tm) N u H := CR.of (congrFun (rX1_o X tm (by decide) (by decide)) 2) (congrFun (rX1_o X tm (by decide) (by decide)) 3) (fun a ha => rX1_o X tm (by omega) (by omega)) c
  have c2 := c1.sb sb
  obtain ⟨E, hE⟩ : ∃ E, rdErr T tm = E := ⟨_, rfl⟩
  rw [hE] at hjE hU x3 hq ⊢
  generalize hz : (if E = -1 then (1 : Int) else 0) = z at hq
  have hz01 : (E = -1 ∧ z = 1) ∨ (E ≠ -1 ∧ z = 0) := by
    rw [← hz]
    split
    · rename_i q
      exact Or.inl ⟨q, rfl⟩
    · rename_i q
      exact Or.inr ⟨q, rfl⟩
  cases hq
  refine mj_T.pl (loc' := [some (.ref 1), some (.int (jn to)), some (.int (jn z))]) rfl rfl rfl rfl ?_
  refine mj_T.pl rfl rfl rfl rfl ?_
  refine mT_get m2 19 cq_d1 (by decide) rfl rfl ?_
  refine mj_T.pl rfl rfl rfl rfl ?_
  refine mT_put (v := 0) m2 27 cq_d13 (by decide) rfl (by simp [jMf, xup]) (by simp [jMf]) rfl (fun g3 m3 => ?_)
  iterate 2 refine mj_T.pl rfl rfl rfl rfl ?_
  refine mT_get m3 19 cq_d1 (by decide) rfl rfl ?_
  refine mT_get (v := .int (jn E)) m3 14 cq_d455 (by decide) rfl (by rw [← x3]; rfl) ?_
  refine mT_put (v := E) m3 19 cq_d1 (by decide) rfl (by simp [jMf, xup]) (by simp [jMf]) rfl (fun g4 m4 => ?_)
  have eo : ∀ a, a ≠ 1 → a ≠ 13 → xup (xup X2 13 1 0) 1 15 E a = X2 a := fun a h1 h2 => funext fun j => by
    rw [xup_ne _ _ (Or.inl h1), xup_ne _ _ (Or.inl h2)]
  have c4 : CR (xup (xup X2 13 1 0) 1 15 E) N u H := CR.of (by rw [xup_ne _ _ (Or.inr (by decide)), xup_ne _ _ (Or.inl (by decide))]) (by rw [xup_ne _ _ (Or.inr (by decide)), xup_ne _ _ (Or.inl (by decide))]) (fun a ha => eo a (by omega) (by omega)) c2
  have d4 : DG (xup (xup X2 13 1 0) 1 15 E) := d2.of (fun a ka => eo a (fun q => by rw [q, cq_d1] at ka; omega) (fun q => by rw [q, cq_d13] at ka; omega))
  have y4 : (xup (xup X2 13 1 0) 1 15 E) 455 4 = t2 := by rw [eo 455 (by decide) (by decide), x4]
  have y457 : (xup (xup X2 13 1 0) 1 15 E) 457 = X2 457 := eo 457 (by decide) (by decide)
  generalize (xup (xup X2 13 1 0) 1 15 E) = X4 at m4 c4 d4 y4 y457
  refine mj_T.pl rfl rfl rfl rfl ?_
  rcases hz01 with ⟨hE1, rfl⟩ | ⟨hE1, rfl⟩
  rotate_left
  · refine mj_T.if0 (a := 0) rfl ⟨by decide, by decide⟩ (fun q => by simp [jc] at q) (fun _ => ?_)
    exact mj_T.throws rfl rfl rfl (Nat.le_of_ble_eq_true rfl) (Or.inr ⟨_, _, Or.inr ⟨kto, Or.inl ⟨hE1, rfl⟩⟩, cS.thr hg m4 b2 d4 c4, rfl⟩)
  refine mj_T.if0 (a := 1) rfl ⟨by decide, by decide⟩ (fun _ => ?_) (fun q => by simp [jc] at q)
  obtain ⟨z457, hu⟩ := hU hE1
  have k457 := (yr 457 z457).2
  refine mj_T.pl rfl rfl rfl rfl ?_
  refine mT_get m4 19 cq_d1 (by decide) rfl rfl ?_
  refine mT_get (v := .int (jn t2)) m4 14 cq_d455 (by decide) rfl (by rw [← y4]; rfl) ?_
  have ht2 := hu.t
  refine mj_T.if0 (a := t2) rfl ⟨by omega, by omega⟩ (fun q => ?_) (fun q => ?_)
  rotate_left
  · simp only [jc, Bool.not_eq_true', Bool.not_eq_false', decide_eq_true_eq, decide_eq_false_iff_not] at q
    have hn : rdV T tm = none := by
      rcases hu.2 with ⟨P, p1, p2, p3, p4⟩ | ⟨p1, p2⟩
      · omega
      · exact p1
    exact mj_T.throws rfl rfl rfl (Nat.le_of_ble_eq_true rfl) (Or.inr ⟨_, _, Or.inr ⟨kto, Or.inr ⟨hE1, hn, rfl⟩⟩, cS.thr hg m4 b2 d4 c4, rfl⟩)
  simp only [jc, Bool.not_eq_true', Bool.not_eq_false', decide_eq_true_eq, decide_eq_false_iff_not] at q
  obtain ⟨P, p1, p2, p4⟩ : ∃ P, rdV T tm = some P ∧ fit13 P ∧ ∀ j, j < 13 → Y2 457 j = P j := by
    rcases hu.2 with ⟨P, p1, p2, p3, p4⟩ | ⟨p1, p2⟩
    · exact ⟨P, p1, p2, p4⟩
    · omega
  refine mj_T.pl rfl rfl rfl rfl ?_
  refine mT_get m4 19 cq_d1 (by decide) rfl rfl ?_
  have kans : mj_Ok 1 47 [.ref 455] g4 (fun z => z = (.inl (some (.ref 457)), g4)) := by
    refine mj_Ok.of (M := mj_m47) (loc := [some (.ref 455)]) rfl rfl rfl ?_
    refine mj_T.pl rfl rfl rfl rfl ?_
    refine mT_get m4 14 cq_d455 (by decide) rfl rfl ?_
    refine mj_T.pl rfl rfl rfl rfl ?_
    refine mT_aald (i := 0) m4 6 cq_456.1 (by decide) rfl rfl (by decide) ⟨by decide, by rw [cq_456.2.1]; decide⟩ ?_
    exact mj_T.ret rfl rfl rfl rfl
  refine mj_T.call rfl rfl (Nat.le_of_ble_eq_true rfl) (Nat.le_of_ble_eq_true rfl) (mV_of m4 14 cq_d455 (by decide) rfl (by decide) rfl _) rfl (mj_Ok.up (by omega) kans) (fun v g5 hq => ?_) (fun i g5 hq => by cases hq)
  cases hq
  refine mj_T.eq (pc2 := 74) (st2 := [.ref 457]) ?_ rfl rfl rfl rfl
  refine mj_T.pl rfl rfl rfl rfl ?_
  refine mT_get m4 19 cq_d1 (by decide) rfl rfl ?_
  refine mj_T.call rfl rfl (Nat.le_of_ble_eq_true rfl) (Nat.le_of_ble_eq_true rfl) rfl rfl (mj_Ok.up (by omega) (mS_copy (D := 0) m4 (isRw.k (Or.inl ⟨by decide, by decide⟩)) cq_d481)) (fun v g6 hq => ?_) (fun i g6 hq => by obtain ⟨_, _, hq⟩ := hq; cases hq)
  obtain ⟨_, m6, hq⟩ := hq
  cases hq
  have hrow : ∀ j, j < 13 → xfl X4 481 (X4 457) 13 481 j = P j := fun j hj => by
    rw [xfl_at _ _ _ hj, y457, k457.2 j hj, p4 j hj]
  have sP : sml (xfl X4 481 (X4 457) 13 481) := sml_cg (fun j hj => (hrow j hj).symm) p2.1
  have e481 : ∀ a, a ≠ 481 → xfl X4 481 (X4 457) 13 a = X4 a := fun a ha => xfl_off _ _ _ ha
  iterate 2 refine mj_T.pl rfl rfl rfl rfl ?_
  refine mj_T.call rfl rfl (Nat.le_of_ble_eq_true rfl) (Nat.le_of_ble_eq_true rfl) (mV_of m6 19 cq_d1 (by decide) rfl (by decide) rfl _) rfl (mj_Ok.up (by omega) (mX_keep (D := 0) A m6 b2 (d4.of (fun a ka => e481 a (fun q => by have := cK_13 ka; omega))) (c4.sb (sBn.of e481)) kto sP)) (fun v g7 hq => ?_) (fun i g7 hq => by obtain ⟨_, _, hq⟩ := hq; cases hq)
  obtain ⟨_, cs, hq⟩ := hq
  cases hq
  exact mj_T.ret rfl rfl rfl (Or.inl ⟨kto, _, _, sP, ⟨hE1, P, p1, p2, hrow⟩, cs, rfl⟩)
end RMC
