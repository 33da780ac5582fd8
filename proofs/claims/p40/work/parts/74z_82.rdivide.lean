/-! The reference, exactly: divide. -/
theorem fdg_jpo (V : Nat → Int) (p : Nat) : fdg (jpo V p) 13 = jdg V p 13 := by
  have hl := jdg_le V p 13
  refine fdg_of hl (fun i h1 _ => jpo_zb h1) ?_
  rcases Nat.eq_zero_or_pos (jdg V p 13) with h | h
  · exact Or.inl h
  · exact Or.inr (by rw [jpo_at (by omega)]; exact jdg_ne V p 13 h)
/-- a product that is short is none -/
theorem pz_short {D B R : pz_P} {N db : Nat} (hD : pz_lt D N) (hB : pz_lt B (db + 1)) (hBn : B db ≠ 0) (hR : pz_lt R db) (e : pz_mul D B = R) : D = pz_0 := by
  by_cases h : D = pz_0
  · exact h
  · obtain ⟨d, _, h2, h3⟩ := kq_deg N D hD h
    have y : pz_mul D B (d + db) = D d * B db := pz_c_lead d D B db h2 hB
    rw [e, hR _ (by omega)] at y
    exact absurd y.symm (Int.mul_ne_zero h3 hBn)
theorem dv_uniq {A B Q R : pz_P} {N : Nat} (hA : ∀ i, 13 ≤ i → A i = 0) (hB : ∀ i, 13 ≤ i → B i = 0) (hf : 0 < fdg B 13) (hQ : pz_lt Q N) (hR : pz_lt R (fdg B 13 - 1)) (e : pz_sc ((B (fdg B 13 - 1)) ^ (fdg A 13 - (fdg B 13 - 1))) A = pz_add (pz_mul Q B) R) : Q = dvQ A B ∧ R = dvT A B := by
  have la := fdg_le A 13
  have lb := fdg_le B 13
  have hA' : ∀ i, fdg A 13 ≤ i → A i = 0 := fun i hi => by
    by_cases q : i < 13
    · exact fdg_zero _ _ _ hi q
    · exact hA i (by omega)
  have hB' : ∀ i, fdg B 13 - 1 < i → B i = 0 := fun i hi => by
    by_cases q : i < 13
    · exact fdg_zero _ _ _ (by omega) q
    · exact hB i (by omega)
  have hbn := fdg_ne B 13 hf
  have rel := qe_rel (F := A) (B := B) (db := fdg B 13 - 1) (gap := fdg A 13 - (fdg B 13 - 1) - 1) hB' (fun i hi => hA' i (by omega)) (fdg A 13 - (fdg B 13 - 1)) (by omega)
  have top : pz_lt (dvT A B) (fdg B 13 - 1) := fun i hi => by
    by_cases q : fdg A 13 - (fdg B 13 - 1) = 0
    · unfold dvT
      rw [q]
      exact hA' i (by omega)
    · exact er_top hB' (fun i hi => hA' i (by omega)) _ (by omega) i (by omega)
  have e2 : pz_add (pz_mul Q B) R = pz_add (pz_mul (dvQ A B) B) (dvT A B) := e.symm.trans rel
  have e3 : ∀ i, pz_mul Q B i + R i = pz_mul (dvQ A B) B i + dvT A B i := fun i => congrFun e2 i
  have e4 : pz_mul (pz_add Q (pz_sc (-1) (dvQ A B))) B = pz_add (dvT A B) (pz_sc (-1) R) := by
    rw [pz_mul_addL, pz_mul_scL]
    funext i
    show pz_mul Q B i + -1 * pz_mul (dvQ A B) B i = dvT A B i + -1 * R i
    have := e3 i
    omega
  have hq : pz_lt (dvQ A B) 13 := fun i hi => qe_hi _ _ _ _ _ i (by omega)
  have z := pz_short (N := N + 13) (db := fdg B 13 - 1) (fun i hi => by
    show Q i + -1 * dvQ A B i = 0
    rw [hQ i (by omega), hq i (by omega)]
    rfl) (fun i hi => hB' i (by omega)) hbn (fun i hi => by
    show dvT A B i + -1 * R i = 0
    rw [top i hi, hR i hi]
    rfl) e4
  have q : Q = dvQ A B := funext fun i => by
    have := congrFun z i
    have y : Q i + -1 * dvQ A B i = 0 := this
    omega
  refine ⟨q, funext fun i => ?_⟩
  have := e3 i
  rw [q] at this
  omega
section RDV
variable {h : mj_H} {tm er : Int} {T : Nat → Int} {N0 : Nat → Int} {u0 : Nat} {H : Nat → Nat → Int}
/-- what is asked for a division -/
def okDv (N : Nat → Int) (x y z u : Int) : Prop := ((0 ≤ x ∧ x ≤ 5) ∧ (0 ≤ y ∧ y ≤ 5) ∧ (0 ≤ z ∧ z ≤ 5) ∧ (0 ≤ u ∧ u ≤ 5)) ∧ x ≠ y ∧ 0 < fdg (rwN N u) 13 ∧ fit13 (dvQ (rwN N z) (rwN N u)) ∧ fit13 (dvT (rwN N z) (rwN N u))
def RDv (tm er : Int) (T : Nat → Int) (N0 : Nat → Int) (u0 : Nat) (H : Nat → Nat → Int) (x y z u : Int) (r : mj_R) : Prop := (okDv N0 x y z u ∧ ∃ w v : Nat → Int, (∀ j, j < 13 → w j = dvQ (rwN N0 z) (rwN N0 u) j) ∧ (∀ j, j < 13 → v j = dvT (rwN N0 z) (rwN N0 u) j) ∧ rIx (jfl (jfl N0 x.toNat w 13) y.toNat v 13) (upu u0) (pushH N0 H) tm er T r) ∨ (¬ okDv N0 x y z u ∧ rIx N0 u0 H tm er T r)
theorem rx_divide {x y z u : Int} (hx : jr x) (hy : jr y) (hz : jr z) (hu : jr u) (hI : jIx N0 u0 H tm er T h) : mj_Ok 40 237 [.ref 0, .int (jn x), .int (jn y), .int (jn z), .int (jn u)] h (RDv tm er T N0 u0 H x y z u) := by
  refine mj_Ok.of (M := mj_m237) rfl rfl rfl ?_
  obtain ⟨S, N, B, X, V, hs, K⟩ := hI
  iterate 2 refine mj_T.pl rfl rfl rfl rfl ?_
  refine rT_put (v := 0) hs rfl rfl (by decide) rfl (fun g28 hs28 => ?_)
  have K28 := K.put (k := 3) (v := 0) ⟨by decide, by decide⟩ (by decide) (by decide) (by decide) (by decide) (by decide)
  generalize jvu S 3 0 = S28 at hs28 K28
  have t22 : ¬ okDv N0 x y z u → mj_T 39 mj_m237 22 [some (.ref 0), some (.int (jn x)), some (.int (jn y)), some (.int (jn z)), some (.int (jn u)), none] [] g28 (RDv tm er T N0 u0 H x y z u) := by
    intro hno
    iterate 2 refine mj_T.pl rfl rfl rfl rfl ?_
    refine mj_T.call (ins := .invokevirtual 198) rfl rfl (Nat.le_of_ble_eq_true rfl) (Nat.le_of_ble_eq_true rfl) (by simp [mj_recv, rS_f hs28]) rfl (mj_Ok.up (by decide) (rp_fails (D := 0) (c := 1) hs28)) (fun v' g29 hq' => ?_) (fun i h' hq' => by obtain ⟨_, _, h⟩ := hq'; cases h)
    obtain ⟨_, hs29, hq'⟩ := hq'
    cases hq'
    exact mj_T.ret rfl rfl rfl (Or.inr ⟨hno, 0, g29, ⟨by decide, by decide⟩, rfl, ⟨_, N, B, X, V, hs29, K28.put ⟨by decide, by decide⟩ (by decide) (by decide) (by decide) (by decide) (by decide)⟩⟩)
  iterate 3 refine mj_T.pl rfl rfl rfl rfl ?_
  refine mj_T.call (ins := .invokestatic 210) rfl rfl (Nat.le_of_ble_eq_true rfl) (Nat.le_of_ble_eq_true rfl) rfl rfl (mj_Ok.up (by decide) (rx_areRegisters (D := 0) hx hy hz)) (fun v' h' hq' => ?_) (fun i h' hq' => by rcases hq' with ⟨_, _, h⟩ | ⟨_, h⟩ <;> cases h)
  rcases hq' with ⟨⟨x1, x2⟩, ⟨y1, y2, z1, z2⟩, hq'⟩ | ⟨hno, hq'⟩
  case' inr =>
    cases hq'
    refine mj_T.if0 (a := 0) rfl ⟨by decide, by decide⟩ (fun hc => ?_) (fun hc => ?_)
    · exact t22 (fun q => by have q := q.1; omega)
    · simp [jc] at hc
  cases hq'
  refine mj_T.if0 (a := 1) rfl ⟨by decide, by decide⟩ (fun hc => ?_) (fun hc => ?_)
  · simp [jc] at hc
  refine mj_T.pl rfl rfl rfl rfl ?_
  refine mj_T.call (ins := .invokestatic 181) rfl rfl (Nat.le_of_ble_eq_true rfl) (Nat.le_of_ble_eq_true rfl) rfl rfl (mj_Ok.up (by decide) (rp_isRegister (D := 0) hu)) (fun v' h' hq' => ?_) (fun i h' hq' => by rcases hq' with ⟨_, _, h⟩ | ⟨_, h⟩ <;> cases h)
  rcases hq' with ⟨u1, u2, hq'⟩ | ⟨hno, hq'⟩
  case' inr =>
    cases hq'
    refine mj_T.if0 (a := 0) rfl ⟨by decide, by decide⟩ (fun hc => ?_) (fun hc => ?_)
    · simp [jc] at hc
    · exact t22 (fun q => by have q := q.1; omega)
  cases hq'
  refine mj_T.if0 (a := 1) rfl ⟨by decide, by decide⟩ (fun hc => ?_) (fun hc => ?_)
  rotate_left
  · simp [jc] at hc
  clear t22
  obtain ⟨x, rfl⟩ := Int.eq_ofNat_of_zero_le x1
  obtain ⟨y, rfl⟩ := Int.eq_ofNat_of_zero_le y1
  obtain ⟨z, rfl⟩ := Int.eq_ofNat_of_zero_le z1
  obtain ⟨u, rfl⟩ := Int.eq_ofNat_of_zero_le u1
  iterate 2 refine mj_T.pl rfl rfl rfl rfl ?_
  refine mj_T.icmp (a := (x : Int)) (b := (y : Int)) rfl hx hy (fun hc => ?_) (fun hc => ?_)
  rotate_left
  · have hcc := hc
    iterate 2 refine mj_T.pl rfl rfl rfl rfl ?_
    refine mj_T.call (ins := .invokevirtual 198) rfl rfl (Nat.le_of_ble_eq_true rfl) (Nat.le_of_ble_eq_true rfl) (by simp [mj_recv, rS_f hs28]) rfl (mj_Ok.up (by decide) (rp_fails (D := 0) (c := 2) hs28)) (fun v' g30 hq' => ?_) (fun i h' hq' => by obtain ⟨_, _, h⟩ := hq'; cases h)
    obtain ⟨_, hs30, hq'⟩ := hq'
    cases hq'
    exact mj_T.ret rfl rfl rfl (Or.inr ⟨fun q => q.2.1 (by simp only [jc, Bool.not_eq_true', Bool.not_eq_false', decide_eq_true_eq, decide_eq_false_iff_not] at hcc; omega), 0, g30, ⟨by decide, by decide⟩, rfl, ⟨_, N, B, X, V, hs30, K28.put ⟨by decide, by decide⟩ (by decide) (by decide) (by decide) (by decide) (by decide)⟩⟩)
  have hne : (x : Int) ≠ (y : Int) := by
    simp only [jc, Bool.not_eq_true', Bool.not_eq_false', decide_eq_true_eq, decide_eq_false_iff_not] at hc
    omega
  have hfu : fdg (rwN N0 (u : Int)) 13 = jdg N u 13 := by
    rw [← fdg_jpo]
    exact (fdg_congr 13 fun i hi => by
      rw [jpo_at hi]
      exact rwN_at K28.2.1 (by omega) hi).symm
  iterate 2 refine mj_T.pl rfl rfl rfl rfl ?_
  refine mj_T.call (ins := .invokevirtual 232) rfl rfl (Nat.le_of_ble_eq_true rfl) (Nat.le_of_ble_eq_true rfl) (by simp [mj_recv, rS_f hs28]) rfl (mj_Ok.up (by decide) (rp_isZero (D := 0) (r := u) (by omega) K28.nR hs28)) (fun v' h' hq' => ?_) (fun i h' hq' => by rcases hq' with ⟨_, h⟩ | ⟨_, h⟩ <;> cases h)
  rcases hq' with ⟨z31, hq'⟩ | ⟨nz31, hq'⟩
  case' inl =>
    cases hq'
    refine mj_T.if0 (a := 1) rfl ⟨by decide, by decide⟩ (fun hc => ?_) (fun hc => ?_)
    · simp [jc] at hc
    iterate 2 refine mj_T.pl rfl rfl rfl rfl ?_
    refine mj_T.call (ins := .invokevirtual 198) rfl rfl (Nat.le_of_ble_eq_true rfl) (Nat.le_of_ble_eq_true rfl) (by simp [mj_recv, rS_f hs28]) rfl (mj_Ok.up (by decide) (rp_fails (D := 0) (c := 3) hs28)) (fun v' g32 hq' => ?_) (fun i h' hq' => by obtain ⟨_, _, h⟩ := hq'; cases h)
    obtain ⟨_, hs32, hq'⟩ := hq'
    cases hq'
    exact mj_T.ret rfl rfl rfl (Or.inr ⟨fun q => by have q2 := q.2.2.1; rw [hfu] at q2; omega, 0, g32, ⟨by decide, by decide⟩, rfl, ⟨_, N, B, X, V, hs32, K28.put ⟨by decide, by decide⟩ (by decide) (by decide) (by decide) (by decide) (by decide)⟩⟩)
  cases hq'
  refine mj_T.if0 (a := 0) rfl ⟨by decide, by decide⟩ (fun hc => ?_) (fun hc => ?_)
  rotate_left
  · simp [jc] at hc
  iterate 3 refine mj_T.pl rfl rfl rfl rfl ?_
  refine mj_T.call (ins := .invokevirtual 213) rfl rfl (Nat.le_of_ble_eq_true rfl) (Nat.le_of_ble_eq_true rfl) (by simp [mj_recv, rS_f hs28]) rfl (mj_Ok.up (by decide) (rp_loads (D := 0) (p := 0) (r := z) (by decide) (by omega) K28.nR hs28)) (fun v' g33 hq' => ?_) (fun i h' hq' => by obtain ⟨_, _, h⟩ := hq'; cases h)
  obtain ⟨_, hs33, hq'⟩ := hq'
  cases hq'
  have a33 : ∀ e, e < 13 → jfl V 0 (fun e => N (z * 13 + e)) 13 (0 * 13 + e) = N (z * 13 + e) := fun e he => jfl_at _ _ _ he
  have b33 : ∀ s, (s < 0 * 13 ∨ 0 * 13 + 13 ≤ s) → jfl V 0 (fun e => N (z * 13 + e)) 13 s = V s := fun s hc => jfl_off _ _ _ hc
  generalize jfl V 0 (fun e => N (z * 13 + e)) 13 = W33 at hs33 a33 b33
  iterate 3 refine mj_T.pl rfl rfl rfl rfl ?_
  refine mj_T.call (ins := .invokevirtual 213) rfl rfl (Nat.le_of_ble_eq_true rfl) (Nat.le_of_ble_eq_true rfl) (by simp [mj_recv, rS_f hs33]) rfl (mj_Ok.up (by decide) (rp_loads (D := 0) (p := 1) (r := u) (by decide) (by omega) K28.nR hs33)) (fun v' g34 hq' => ?_) (fun i h' hq' => by obtain ⟨_, _, h⟩ := hq'; cases h)
  obtain ⟨_, hs34, hq'⟩ := hq'
  cases hq'
  have a34 : ∀ e, e < 13 → jfl W33 1 (fun e => N (u * 13 + e)) 13 (1 * 13 + e) = N (u * 13 + e) := fun e he => jfl_at _ _ _ he
  have b34 : ∀ s, (s < 1 * 13 ∨ 1 * 13 + 13 ≤ s) → jfl W33 1 (fun e => N (u * 13 + e)) 13 s = W33 s := fun s hc => jfl_off _ _ _ hc
  generalize jfl W33 1 (fun e => N (u * 13 + e)) 13 = W34 at hs34 a34 b34
  have eA : jpo W34 0 = rwN N0 (z : Int) := funext fun e => by
    unfold jpo
    by_cases q : e < 13
    · rw [if_pos q, b34 _ (by omega), a33 e q]
      exact rwN_at K28.2.1 (by omega) q
    · rw [if_neg q]
      show 0 = if e < 13 then _ else 0
      rw [if_neg q]
  have eB : jpo W34 1 = rwN N0 (u : Int) := funext fun e => by
    unfold jpo
    by_cases q : e < 13
    · rw [if_pos q, a34 e q]
      exact rwN_at K28.2.1 (by omega) q
    · rw [if_neg q]
      show 0 = if e < 13 then _ else 0
      rw [if_neg q]
  have fA : fdg (rwN N0 (z : Int)) 13 = jdg W34 0 13 := by rw [← eA, fdg_jpo]
  have fB : fdg (rwN N0 (u : Int)) 13 = jdg W34 1 13 := by rw [← eB, fdg_jpo]
  have c1 : ∀ e, e < 13 → (W34 (0 * 13 + e)).natAbs ≤ 10 ^ 18 := fun e he => by
    rw [b34 _ (by omega), a33 e he]
    exact K28.sh (r := z) (by omega) he
  have c2 : ∀ e, e < 13 → (W34 (1 * 13 + e)).natAbs ≤ 10 ^ 18 := fun e he => by
    rw [a34 e he]
    exact K28.sh (r := u) (by omega) he
  have hj : 1 ≤ jdg W34 1 13 := by rw [jdg_congr 13 a34]; exact nz31
  have hjl := jdg_le W34 0 13
  have hjl2 := jdg_le W34 1 13
  iterate 5 refine mj_T.pl rfl rfl rfl rfl ?_
  refine mj_T.call (ins := .invokevirtual 145) rfl rfl (Nat.le_of_ble_eq_true rfl) (Nat.le_of_ble_eq_true rfl) (by simp [mj_recv, rS_f hs34]) rfl (mj_Ok.up (by decide) (jp_dividesPoly (D := 0) (rG S28 N B T X) (a := 0) (b := 1) (db := jdg W34 1 13 - 1) (lc := W34 (1 * 13 + (jdg W34 1 13 - 1))) (al := 10 ^ 18) (be := 10 ^ 18) (by decide) (by decide) (by decide) (by decide) (by decide) (by decide) (by omega) rfl c1 c2 (by decide) (Nat.lt_of_le_of_lt (Nat.mul_le_mul_left _ (Nat.pow_le_pow_right (by decide) (by omega : _ ≤ 13))) rp_small4) hs34)) (fun v' g35 hq' => ?_) (fun i h' hq' => by obtain ⟨_, _, _, _, _, _, _, h⟩ := hq'; cases h)
  obtain ⟨W35, _, hs35, _, rel35, low35, _, hq'⟩ := hq'
  cases hq'
  have dvu := dv_uniq (A := rwN N0 (z : Int)) (B := rwN N0 (u : Int)) (Q := jpo W35 2) (R := jpo W35 3) (N := 13) (fun i hi => by rw [← eA]; exact jpo_zb (by omega)) (fun i hi => by rw [← eB]; exact jpo_zb (by omega)) (by rw [fB]; omega) (jpo_lt W35 2) (fun i hi => by
    rw [fB] at hi
    by_cases q : i < 13
    · rw [jpo_at q]
      exact low35 i hi q
    · exact jpo_lt W35 3 i (by omega)) (by
    rw [fA, fB, ← eA, ← eB, jpo_at (V := W34) (p := 1) (by omega)]
    exact rel35)
  have dq : ∀ j, j < 13 → W35 (2 * 13 + j) = dvQ (rwN N0 (z : Int)) (rwN N0 (u : Int)) j := fun j hj => by
    rw [← dvu.1]
    exact (jpo_at hj).symm
  have dt : ∀ j, j < 13 → W35 (3 * 13 + j) = dvT (rwN N0 (z : Int)) (rwN N0 (u : Int)) j := fun j hj => by
    rw [← dvu.2]
    exact (jpo_at hj).symm
  have t93 : ¬ okDv N0 (x : Int) (y : Int) (z : Int) (u : Int) → ∀ e5, mj_T 39 mj_m237 93 [some (.ref 0), some (.int (jn (x : Int))), some (.int (jn (y : Int))), some (.int (jn (z : Int))), some (.int (jn (u : Int))), e5] [] g35 (RDv tm er T N0 u0 H (x : Int) (y : Int) (z : Int) (u : Int)) := fun hno e5 => by
    iterate 2 refine mj_T.pl rfl rfl rfl rfl ?_
    refine mj_T.call (ins := .invokevirtual 198) rfl rfl (Nat.le_of_ble_eq_true rfl) (Nat.le_of_ble_eq_true rfl) (by simp [mj_recv, rS_f hs35]) rfl (mj_Ok.up (by decide) (rp_fails (D := 0) (c := 4) hs35)) (fun v' g36 hq' => ?_) (fun i h' hq' => by obtain ⟨_, _, h⟩ := hq'; cases h)
    obtain ⟨_, hs36, hq'⟩ := hq'
    cases hq'
    exact mj_T.ret rfl rfl rfl (Or.inr ⟨hno, 0, g36, ⟨by decide, by decide⟩, rfl, ⟨_, N, B, X, W35, hs36, K28.put ⟨by decide, by decide⟩ (by decide) (by decide) (by decide) (by decide) (by decide)⟩⟩)
  iterate 3 refine mj_T.pl rfl rfl rfl rfl ?_
  refine mj_T.call (ins := .invokevirtual 195) rfl rfl (Nat.le_of_ble_eq_true rfl) (Nat.le_of_ble_eq_true rfl) (by simp [mj_recv, rS_f hs35]) rfl (mj_Ok.up (by decide) (jp_isInBounds (D := 0) (rG S28 N B T X) (p := 2) (by decide) (fun e he => jS_700 hs35 (by omega)) hs35)) (fun v' h' hq' => ?_) (fun i h' hq' => by cases hq')
  cases hq'
  have hb2 := jib_le W35 2 13
  refine mj_T.if0 (a := ((jib W35 2 13 : Nat) : Int)) rfl ⟨by omega, by omega⟩ (fun hc1 => ?_) (fun hc1 => ?_)
  · exact t93 (fun q => jib_no (V := W35) (p := 2) 13 (by simp only [jc, Bool.not_eq_true', Bool.not_eq_false', decide_eq_true_eq, decide_eq_false_iff_not] at hc1; omega) (fun e he => jnl_two.mpr (by rw [dq e he]; exact q.2.2.2.1.1 e he))) _
  iterate 2 refine mj_T.pl rfl rfl rfl rfl ?_
  refine mj_T.call (ins := .invokevirtual 195) rfl rfl (Nat.le_of_ble_eq_true rfl) (Nat.le_of_ble_eq_true rfl) (by simp [mj_recv, rS_f hs35]) rfl (mj_Ok.up (by decide) (jp_isInBounds (D := 0) (rG S28 N B T X) (p := 3) (by decide) (fun e he => jS_700 hs35 (by omega)) hs35)) (fun v' h' hq' => ?_) (fun i h' hq' => by cases hq')
  cases hq'
  have hb3 := jib_le W35 3 13
  refine mj_T.if0 (a := ((jib W35 3 13 : Nat) : Int)) rfl ⟨by omega, by omega⟩ (fun hc2 => ?_) (fun hc2 => ?_)
  rotate_left
  · exact t93 (fun q => jib_no (V := W35) (p := 3) 13 (by simp only [jc, Bool.not_eq_true', Bool.not_eq_false', decide_eq_true_eq, decide_eq_false_iff_not] at hc2; omega) (fun e he => jnl_two.mpr (by rw [dt e he]; exact q.2.2.2.2.1 e he))) _
  simp only [jc, Bool.not_eq_true', Bool.not_eq_false', decide_eq_false_iff_not] at hc1 hc2
  have q2 := jib_short (V := W35) (p := 2) (by omega)
  have q3 := jib_short (V := W35) (p := 3) (by omega)
  refine mj_T.pl rfl rfl rfl rfl ?_
  refine mj_T.call (ins := .invokevirtual 201) rfl rfl (Nat.le_of_ble_eq_true rfl) (Nat.le_of_ble_eq_true rfl) (by simp [mj_recv, rS_f hs35]) rfl (mj_Ok.up (by decide) (rx_keeps (D := 0) K28 hs35)) (fun v' g37 hq' => ?_) (fun i h' hq' => by obtain ⟨_, _, _, _, _, _, h⟩ := hq'; cases h)
  obtain ⟨S37, B37, _, hs37, K37, _, hq'⟩ := hq'
  cases hq'
  iterate 3 refine mj_T.pl rfl rfl rfl rfl ?_
  refine mj_T.call (ins := .invokevirtual 204) rfl rfl (Nat.le_of_ble_eq_true rfl) (Nat.le_of_ble_eq_true rfl) (by simp [mj_recv, rS_f hs37]) rfl (mj_Ok.up (by decide) (rp_stores (D := 0) (p := 2) (r := x) (by decide) (by omega) hs37)) (fun v' g38 hq' => ?_) (fun i h' hq' => by obtain ⟨_, _, h⟩ := hq'; cases h)
  obtain ⟨_, hs38, hq'⟩ := hq'
  cases hq'
  have K38 := K37.row (gN_row K37.1.1 (r := x) (p := 2) (V := W35) (by omega) q2) (jfl_cg K37.2.1 x _)
  generalize jfl N x (fun e => W35 (2 * 13 + e)) 13 = N38 at hs38 K38
  iterate 3 refine mj_T.pl rfl rfl rfl rfl ?_
  refine mj_T.call (ins := .invokevirtual 204) rfl rfl (Nat.le_of_ble_eq_true rfl) (Nat.le_of_ble_eq_true rfl) (by simp [mj_recv, rS_f hs38]) rfl (mj_Ok.up (by decide) (rp_stores (D := 0) (p := 3) (r := y) (by decide) (by omega) hs38)) (fun v' g39 hq' => ?_) (fun i h' hq' => by obtain ⟨_, _, h⟩ := hq'; cases h)
  obtain ⟨_, hs39, hq'⟩ := hq'
  cases hq'
  have K39 := K38.row (gN_row K38.1.1 (r := y) (p := 3) (V := W35) (by omega) q3) (jfl_cg K38.2.1 y _)
  generalize jfl N38 y (fun e => W35 (3 * 13 + e)) 13 = N39 at hs39 K39
  refine mj_T.pl rfl rfl rfl rfl ?_
  have hs2 : fit13 (dvQ (rwN N0 (z : Int)) (rwN N0 (u : Int))) := ⟨fun j hj => by
    rw [← dq j hj]
    have := q2 j hj
    omega, fun i hi => by
    rw [← dvu.1]
    exact jpo_lt W35 2 i hi⟩
  have hs3 : fit13 (dvT (rwN N0 (z : Int)) (rwN N0 (u : Int))) := ⟨fun j hj => by
    rw [← dt j hj]
    have := q3 j hj
    omega, fun i hi => by
    rw [← dvu.2]
    exact jpo_lt W35 3 i hi⟩
  exact mj_T.ret rfl rfl rfl (Or.inl ⟨⟨⟨⟨by omega, by omega⟩, ⟨by omega, by omega⟩, ⟨by omega, by omega⟩, ⟨by omega, by omega⟩⟩, hne, by rw [fB]; omega, hs2, hs3⟩, _, _, dq, dt, _, g39, ⟨by omega, by omega⟩, rfl, ⟨S37, N39, B37, X, W35, hs39, K39⟩⟩)
end RDV
