/-! Calls of the reference: texts written, shares, errors. -/
section RPU
variable {h : mj_H} {tm er : Int} {T : Nat → Int}
theorem jK.clear {S N B : Nat → Int} (K : jK tm er S N B T) : jK 0 er (jvu S 9 0) N B T := by
  obtain ⟨k1, k2, k3, k4, k5, k6, k7, k8, k9⟩ := K
  have e : ∀ x, x ≠ 9 → jvu S 9 0 x = S x := fun x hx => jvu_ne _ _ _ hx
  refine ⟨k1, by rw [e 2 (by decide)]; exact k2, fun j hj => k3 j (by rw [e 2 (by decide)] at hj; exact hj), ⟨jvu_at _ _ _, by decide, by decide⟩, by rw [e 12 (by decide)]; exact k5, by rw [e 15 (by decide)]; exact k6, fun x => ?_, by rw [e 13 (by decide)]; exact k8, fun j hj => absurd hj (by omega)⟩
  by_cases hx : x = 9
  · subst hx
    rw [jvu_at]
    exact ⟨by decide, by decide⟩
  · rw [e x hx]
    exact k7 x
theorem rp_clearText (hI : jI tm er T h) : mj_Ok 40 286 [.ref 0] h (fun r => ∃ h', r = (.inl (some (.int (jn tm))), h') ∧ jI 0 er T h') := by
  refine mj_Ok.of (M := mj_m286) rfl rfl rfl ?_
  obtain ⟨S, N, B, X, V, hs, K⟩ := hI
  iterate 2 refine mj_T.pl rfl rfl rfl rfl ?_
  refine rT_put (v := 0) hs rfl rfl (by decide) rfl (fun g1 hs1 => ?_)
  have K1 := K.put (k := 3) (v := 0) ⟨by decide, by decide⟩ (by decide) (by decide) (by decide) (by decide) (by decide)
  generalize jvu S 3 0 = S1 at hs1 K1
  have k4 := K1.2.2.2.1
  refine mj_T.pl rfl rfl rfl rfl ?_
  refine rT_get hs1 rfl rfl ?_
  rw [k4.1]
  iterate 3 refine mj_T.pl rfl rfl rfl rfl ?_
  refine rT_put (v := 0) hs1 rfl rfl (by decide) rfl (fun h2 hs2 => ?_)
  refine mj_T.pl rfl rfl rfl rfl ?_
  exact mj_T.ret rfl rfl rfl ⟨h2, rfl, ⟨_, _, _, _, _, hs2, K1.clear⟩⟩
theorem rp_errorPosition  (hI : jI tm er T h) : mj_Ok 40 287 [.ref 0] h (fun r => ∃ h2, r = (.inl (some (.int (jn er))), h2) ∧ jI tm er T h2) := by
  refine mj_Ok.of (M := mj_m287) rfl rfl rfl ?_
  obtain ⟨S, N, B, X, V, hs, K⟩ := hI
  iterate 2 refine mj_T.pl rfl rfl rfl rfl ?_
  refine rT_put (v := 0) hs rfl rfl (by decide) rfl (fun g2 hs2 => ?_)
  have K2 := K.put (k := 3) (v := 0) ⟨by decide, by decide⟩ (by decide) (by decide) (by decide) (by decide) (by decide)
  generalize jvu S 3 0 = S2 at hs2 K2
  have k5 := K2.2.2.2.2.1
  refine mj_T.pl rfl rfl rfl rfl ?_
  refine rT_get hs2 rfl rfl ?_
  rw [k5]
  exact mj_T.ret rfl rfl rfl ⟨_, rfl, ⟨_, _, _, _, _, hs2, K2⟩⟩
theorem rp_writes {S N B X V : Nat → Int} {D w : Nat} {c : Int} (hw : w < 600) (hs : rS (jvu S 15 (w : Int)) N B T X V h) : mj_Ok (D + 1) 302 [.ref 0, .int (jn c)] h (fun r => ∃ (X2 : Nat → Int) (h2 : mj_H), rS (jvu S 15 ((w + 1 : Nat) : Int)) N B T X2 V h2 ∧ r = (.inl none, h2)) := by
  refine mj_Ok.of (M := mj_m302) rfl rfl rfl ?_
  have e : (rF (jvu S 15 (w : Int)))[15]? = some (.int (jn (w : Int))) := by
    show some (Value.int (jn (jvu S 15 (w : Int) 15))) = _
    rw [jvu_at]
  refine mj_T.pl rfl rfl rfl rfl ?_
  refine rT_get hs rfl rfl ?_
  refine mj_T.pl rfl rfl rfl rfl ?_
  refine rT_get hs rfl e ?_
  refine mj_T.pl rfl rfl rfl rfl ?_
  refine rT_stX hs rfl ⟨by omega, by omega⟩ (fun h1 hs1 => ?_)
  iterate 2 refine mj_T.pl rfl rfl rfl rfl ?_
  refine rT_get hs1 rfl e ?_
  refine mj_T.pl rfl rfl rfl rfl ?_
  refine mj_T.iadd (a := (w : Int)) (b := 1) rfl ?_
  rw [show (w : Int) + 1 = ((w + 1 : Nat) : Int) by omega]
  refine rT_put (v := ((w + 1 : Nat) : Int)) hs1 rfl rfl (by decide) rfl (fun h2 hs2 => ?_)
  rw [jvu_jvu] at hs2
  exact mj_T.ret rfl rfl rfl ⟨_, h2, hs2, rfl⟩
theorem rp_wn2 {S N B V : Nat → Int} {D v : Nat} (hv : v < 1000000000000000000) {Q : mj_R → Prop} :
    ∀ (m w : Nat) (X : Nat → Int) (h : mj_H), m ≤ 18 → w + m ≤ 600 → rS (jvu S 15 (w : Int)) N B T X V h → (∀ (w2 : Nat) (X2 : Nat → Int) (h2 : mj_H), w2 = w + m → rS (jvu S 15 (w2 : Int)) N B T X2 V h2 → Q (.inl none, h2)) → mj_T (D + 1) mj_m303 21 [some (.ref 0), some (.long (jl (v : Int))), none, some (.long (jl ((if m = 0 then 0 else 10 ^ (m - 1) : Nat) : Int))), none] [] h Q := by
  intro m
  induction m with
  | zero =>
    intro w X h hm hw hs hend
    rw [if_pos rfl]
    iterate 2 refine mj_T.pl rfl rfl rfl rfl ?_
    refine mj_T.lif (a := ((0 : Nat) : Int)) (b := 0) rfl rfl ⟨by decide, by decide⟩ ⟨by decide, by decide⟩ (fun hc => ?_) (fun hc => ?_)
    · exact mj_T.ret rfl rfl rfl (hend w X h rfl hs)
    · simp [jc] at hc
  | succ m ih =>
    intro w X h hm hw hs hend
    rw [if_neg (by omega), Nat.add_sub_cancel]
    have hp0 : 0 < 10 ^ m := Nat.pow_pos (by decide)
    have hp1 : 10 ^ m ≤ 10 ^ 17 := Nat.pow_le_pow_right (by decide) (by omega)
    iterate 2 refine mj_T.pl rfl rfl rfl rfl ?_
    refine mj_T.lif (a := ((10 ^ m : Nat) : Int)) (b := 0) rfl rfl ⟨by omega, by omega⟩ ⟨by decide, by decide⟩ (fun hc => ?_) (fun hc => ?_)
    · simp only [jc, decide_eq_true_eq] at hc
      omega
    iterate 4 refine mj_T.pl rfl rfl rfl rfl ?_
    refine mj_T.ldiv (a := (v : Int)) (b := ((10 ^ m : Nat) : Int)) rfl ⟨by omega, by omega⟩ ⟨by omega, by omega⟩ (by omega) ?_
    rw [show (v : Int).tdiv ((10 ^ m : Nat) : Int) = ((v / 10 ^ m : Nat) : Int) from rfl]
    have hd := Nat.div_le_self v (10 ^ m)
    generalize v / 10 ^ m = q at hd ⊢
    refine mj_T.pl rfl rfl rfl rfl ?_
    refine mj_T.lrem (a := (q : Int)) (b := 10) rfl ⟨by omega, by omega⟩ ⟨by decide, by decide⟩ (by decide) ?_
    refine mj_T.l2i rfl ?_
    refine mj_T.iadd (a := 48) rfl ?_
    refine mj_T.call (ins := .invokevirtual 396) rfl rfl (Nat.le_of_ble_eq_true rfl) (Nat.le_of_ble_eq_true rfl) (by simp [mj_recv, rS_f hs]) rfl (rp_writes (D := D) (w := w) (by omega) hs) (fun v' h1 hq' => ?_) (fun i h' hq' => by obtain ⟨_, _, _, h⟩ := hq'; cases h)
    obtain ⟨X2, _, hs1, hq'⟩ := hq'
    cases hq'
    iterate 2 refine mj_T.pl rfl rfl rfl rfl ?_
    refine mj_T.ldiv (a := ((10 ^ m : Nat) : Int)) (b := 10) rfl ⟨by omega, by omega⟩ ⟨by decide, by decide⟩ (by decide) ?_
    have e : ((10 ^ m : Nat) : Int).tdiv 10 = ((if m = 0 then 0 else 10 ^ (m - 1) : Nat) : Int) := by
      rw [show ((10 ^ m : Nat) : Int).tdiv 10 = ((10 ^ m / 10 : Nat) : Int) from rfl]
      split
      · rename_i q
        subst q
        rfl
      · rename_i q
        obtain ⟨j, rfl⟩ : ∃ j, m = j + 1 := ⟨m - 1, by omega⟩
        rw [Nat.pow_succ, Nat.add_sub_cancel, Nat.mul_div_cancel _ (by decide)]
    rw [e]
    iterate 2 refine mj_T.pl rfl rfl rfl rfl ?_
    exact ih (w + 1) X2 h1 (by omega) (by omega) hs1 (fun w2 X3 h3 hw2 hs3 => hend w2 X3 h3 (by omega) hs3)
theorem rp_wn1 {S N B X V : Nat → Int} {D v w : Nat} (hv : v < 1000000000000000000) (hw : w + 18 ≤ 600) (hs : rS (jvu S 15 (w : Int)) N B T X V h) {Q : mj_R → Prop} (hend : ∀ (w2 : Nat) (X2 : Nat → Int) (h2 : mj_H), (w ≤ w2 ∧ w2 ≤ w + 18) → rS (jvu S 15 (w2 : Int)) N B T X2 V h2 → Q (.inl none, h2)) :
    ∀ (d k : Nat), k + d = 17 → mj_T (D + 1) mj_m303 2 [some (.ref 0), some (.long (jl (v : Int))), none, some (.long (jl ((10 ^ k : Nat) : Int))), none] [] h Q := by
  intro d
  induction d with
  | zero =>
    intro k hk
    have hk : k = 17 := by omega
    subst hk
    iterate 2 refine mj_T.pl rfl rfl rfl rfl ?_
    refine mj_T.ldiv (a := (v : Int)) (b := ((10 ^ 17 : Nat) : Int)) rfl ⟨by omega, by omega⟩ ⟨by omega, by omega⟩ (by omega) ?_
    rw [show (v : Int).tdiv ((10 ^ 17 : Nat) : Int) = ((v / 10 ^ 17 : Nat) : Int) from rfl]
    refine mj_T.pl rfl rfl rfl rfl ?_
    refine mj_T.lif (a := ((v / 10 ^ 17 : Nat) : Int)) (b := 10) rfl rfl ⟨by omega, by omega⟩ ⟨by decide, by decide⟩ (fun hc => ?_) (fun hc => ?_)
    · exact rp_wn2 (D := D) hv 18 w X h (by omega) hw hs (fun w2 X2 h2 e hs2 => hend w2 X2 h2 ⟨by omega, by omega⟩ hs2)
    · simp only [jc, decide_eq_false_iff_not] at hc
      omega
  | succ d ih =>
    intro k hk
    have hp0 : 0 < 10 ^ k := Nat.pow_pos (by decide)
    have hp1 : 10 ^ k ≤ 10 ^ 16 := Nat.pow_le_pow_right (by decide) (by omega)
    have hd := Nat.div_le_self v (10 ^ k)
    iterate 2 refine mj_T.pl rfl rfl rfl rfl ?_
    refine mj_T.ldiv (a := (v : Int)) (b := ((10 ^ k : Nat) : Int)) rfl ⟨by omega, by omega⟩ ⟨by omega, by omega⟩ (by omega) ?_
    rw [show (v : Int).tdiv ((10 ^ k : Nat) : Int) = ((v / 10 ^ k : Nat) : Int) from rfl]
    generalize v / 10 ^ k = q at hd ⊢
    refine mj_T.pl rfl rfl rfl rfl ?_
    refine mj_T.lif (a := (q : Int)) (b := 10) rfl rfl ⟨by omega, by omega⟩ ⟨by decide, by decide⟩ (fun hc => ?_) (fun hc => ?_)
    · have k2 := rp_wn2 (D := D) (S := S) (N := N) (B := B) (V := V) (T := T) hv (Q := Q) (k + 1) w X h (by omega) (by omega) hs (fun w2 X2 h2 e hs2 => hend w2 X2 h2 ⟨by omega, by omega⟩ hs2)
      rw [if_neg (by omega), Nat.add_sub_cancel] at k2
      exact k2
    · iterate 2 refine mj_T.pl rfl rfl rfl rfl ?_
      refine mj_T.lmul (b := 10) rfl ?_
      rw [show ((10 ^ k : Nat) : Int) * 10 = ((10 ^ (k + 1) : Nat) : Int) by rw [Nat.pow_succ]; omega]
      iterate 2 refine mj_T.pl rfl rfl rfl rfl ?_
      exact ih (k + 1) (by omega)
theorem rp_writesNumber {S N B X V : Nat → Int} {D v w : Nat} (hv : v < 1000000000000000000) (hw : w + 18 ≤ 600) (hs : rS (jvu S 15 (w : Int)) N B T X V h) : mj_Ok (D + 2) 303 [.ref 0, .long (jl (v : Int))] h (fun r => ∃ (w2 : Nat) (X2 : Nat → Int) (h2 : mj_H), (w ≤ w2 ∧ w2 ≤ w + 18) ∧ rS (jvu S 15 (w2 : Int)) N B T X2 V h2 ∧ r = (.inl none, h2)) := by
  refine mj_Ok.of (M := mj_m303) rfl rfl rfl ?_
  iterate 2 refine mj_T.pl rfl rfl rfl rfl ?_
  exact rp_wn1 (D := D) hv hw hs (fun w2 X2 h2 e hs2 => ⟨w2, X2, h2, e, hs2, rfl⟩) 17 0 (by omega)
theorem rp_writesTerm {S N B X V : Nat → Int} {D w e : Nat} {c : Int} (hc : -999999999999999999 ≤ c ∧ c ≤ 999999999999999999) (he : e ≤ 12) (hw : w + 40 ≤ 600) (hs : rS (jvu S 15 (w : Int)) N B T X V h) : mj_Ok (D + 3) 304 [.ref 0, .long (jl c), .int (jn (e : Int))] h (fun r => ∃ (w2 : Nat) (X2 : Nat → Int) (h2 : mj_H), (w ≤ w2 ∧ w2 ≤ w + 40) ∧ rS (jvu S 15 (w2 : Int)) N B T X2 V h2 ∧ r = (.inl none, h2)) := by
  refine mj_Ok.of (M := mj_m304) rfl rfl rfl ?_
  have t51 : ∀ (w3 : Nat) (X3 : Nat → Int) (h3 : mj_H), (w ≤ w3 ∧ w3 ≤ w + 20) → rS (jvu S 15 (w3 : Int)) N B T X3 V h3 → mj_T (D + 2) mj_m304 51 [some (.ref 0), some (.long (jl c)), none, some (.int (jn (e : Int))), some (.long (jl ((c.natAbs : Nat) : Int))), none] [] h3 (fun r => ∃ (w2 : Nat) (X2 : Nat → Int) (h2 : mj_H), (w ≤ w2 ∧ w2 ≤ w + 40) ∧ rS (jvu S 15 (w2 : Int)) N B T X2 V h2 ∧ r = (.inl none, h2)) := fun w3 X3 h3 hb3 hs3 => by
    iterate 2 refine mj_T.pl rfl rfl rfl rfl ?_
    refine mj_T.icmp (a := (e : Int)) (b := 1) rfl ⟨by omega, by omega⟩ ⟨by decide, by decide⟩ (fun hc1 => ?_) (fun hc1 => ?_)
    · exact mj_T.ret rfl rfl rfl ⟨w3, X3, h3, ⟨by omega, by omega⟩, hs3, rfl⟩
    iterate 2 refine mj_T.pl rfl rfl rfl rfl ?_
    refine mj_T.call (ins := .invokevirtual 396) rfl rfl (Nat.le_of_ble_eq_true rfl) (Nat.le_of_ble_eq_true rfl) (by simp [mj_recv, rS_f hs3]) rfl (mj_Ok.up (by omega) (rp_writes (D := 0) (w := w3) (by omega) hs3)) (fun v' h4 hq' => ?_) (fun i h' hq' => by obtain ⟨_, _, _, h⟩ := hq'; cases h)
    obtain ⟨X4, _, hs4, hq'⟩ := hq'
    cases hq'
    iterate 2 refine mj_T.pl rfl rfl rfl rfl ?_
    refine mj_T.i2l rfl ⟨by omega, by omega⟩ ?_
    refine mj_T.call (ins := .invokevirtual 399) rfl rfl (Nat.le_of_ble_eq_true rfl) (Nat.le_of_ble_eq_true rfl) (by simp [mj_recv, rS_f hs4]) rfl (mj_Ok.up (by omega) (rp_writesNumber (D := 0) (v := e) (w := w3 + 1) (by omega) (by omega) hs4)) (fun v' h5 hq' => ?_) (fun i h' hq' => by obtain ⟨_, _, _, _, _, h⟩ := hq'; cases h)
    obtain ⟨w5, X5, _, wb5, hs5, hq'⟩ := hq'
    cases hq'
    exact mj_T.ret rfl rfl rfl ⟨w5, X5, _, ⟨by omega, by omega⟩, hs5, rfl⟩
  have t41 : ∀ (w3 : Nat) (X3 : Nat → Int) (h3 : mj_H), (w ≤ w3 ∧ w3 ≤ w + 19) → rS (jvu S 15 (w3 : Int)) N B T X3 V h3 → mj_T (D + 2) mj_m304 41 [some (.ref 0), some (.long (jl c)), none, some (.int (jn (e : Int))), some (.long (jl ((c.natAbs : Nat) : Int))), none] [] h3 (fun r => ∃ (w2 : Nat) (X2 : Nat → Int) (h2 : mj_H), (w ≤ w2 ∧ w2 ≤ w + 40) ∧ rS (jvu S 15 (w2 : Int)) N B T X2 V h2 ∧ r = (.inl none, h2)) := fun w3 X3 h3 hb3 hs3 => by
    refine mj_T.pl rfl rfl rfl rfl ?_
    refine mj_T.if0 (a := (e : Int)) rfl ⟨by omega, by omega⟩ (fun hc1 => ?_) (fun hc1 => ?_)
    · exact t51 w3 X3 h3 ⟨by omega, by omega⟩ hs3
    iterate 2 refine mj_T.pl rfl rfl rfl rfl ?_
    refine mj_T.call (ins := .invokevirtual 396) rfl rfl (Nat.le_of_ble_eq_true rfl) (Nat.le_of_ble_eq_true rfl) (by simp [mj_recv, rS_f hs3]) rfl (mj_Ok.up (by omega) (rp_writes (D := 0) (w := w3) (by omega) hs3)) (fun v' h4 hq' => ?_) (fun i h' hq' => by obtain ⟨_, _, _, h⟩ := hq'; cases h)
    obtain ⟨X4, _, hs4, hq'⟩ := hq'
    cases hq'
    exact t51 (w3 + 1) X4 h4 ⟨by omega, by omega⟩ hs4
  have t25 : mj_T (D + 2) mj_m304 25 [some (.ref 0), some (.long (jl c)), none, some (.int (jn (e : Int))), some (.long (jl ((c.natAbs : Nat) : Int))), none] [] h (fun r => ∃ (w2 : Nat) (X2 : Nat → Int) (h2 : mj_H), (w ≤ w2 ∧ w2 ≤ w + 40) ∧ rS (jvu S 15 (w2 : Int)) N B T X2 V h2 ∧ r = (.inl none, h2)) := by
    iterate 2 refine mj_T.pl rfl rfl rfl rfl ?_
    refine mj_T.call (ins := .invokevirtual 399) rfl rfl (Nat.le_of_ble_eq_true rfl) (Nat.le_of_ble_eq_true rfl) (by simp [mj_recv, rS_f hs]) rfl (mj_Ok.up (by omega) (rp_writesNumber (D := 0) (v := c.natAbs) (w := w) (by omega) (by omega) hs)) (fun v' h4 hq' => ?_) (fun i h' hq' => by obtain ⟨_, _, _, _, _, h⟩ := hq'; cases h)
    obtain ⟨w4, X4, _, wb4, hs4, hq'⟩ := hq'
    cases hq'
    refine mj_T.pl rfl rfl rfl rfl ?_
    refine mj_T.if0 (a := (e : Int)) rfl ⟨by omega, by omega⟩ (fun hc1 => ?_) (fun hc1 => ?_)
    · exact t41 w4 X4 h4 ⟨by omega, by omega⟩ hs4
    iterate 2 refine mj_T.pl rfl rfl rfl rfl ?_
    refine mj_T.call (ins := .invokevirtual 396) rfl rfl (Nat.le_of_ble_eq_true rfl) (Nat.le_of_ble_eq_true rfl) (by simp [mj_recv, rS_f hs4]) rfl (mj_Ok.up (by omega) (rp_writes (D := 0) (w := w4) (by omega) hs4)) (fun v' h5 hq' => ?_) (fun i h' hq' => by obtain ⟨_, _, _, h⟩ := hq'; cases h)
    obtain ⟨X5, _, hs5, hq'⟩ := hq'
    cases hq'
    exact t41 (w4 + 1) X5 h5 ⟨by omega, by omega⟩ hs5
  have t12 : ∀ z : Int, z = ((c.natAbs : Nat) : Int) → mj_T (D + 2) mj_m304 12 [some (.ref 0), some (.long (jl c)), none, some (.int (jn (e : Int))), none, none] [.long (jl z)] h (fun r => ∃ (w2 : Nat) (X2 : Nat → Int) (h2 : mj_H), (w ≤ w2 ∧ w2 ≤ w + 40) ∧ rS (jvu S 15 (w2 : Int)) N B T X2 V h2 ∧ r = (.inl none, h2)) := fun z hz => by
    subst hz
    iterate 3 refine mj_T.pl rfl rfl rfl rfl ?_
    refine mj_T.lif (a := ((c.natAbs : Nat) : Int)) (b := 1) rfl rfl ⟨by omega, by omega⟩ ⟨by decide, by decide⟩ (fun hc1 => ?_) (fun hc1 => ?_)
    · exact t25
    refine mj_T.pl rfl rfl rfl rfl ?_
    refine mj_T.if0 (a := (e : Int)) rfl ⟨by omega, by omega⟩ (fun hc2 => ?_) (fun hc2 => ?_)
    · exact t41 w X h ⟨by omega, by omega⟩ hs
    · exact t25
  iterate 2 refine mj_T.pl rfl rfl rfl rfl ?_
  refine mj_T.lif (a := c) (b := 0) rfl rfl ⟨by omega, by omega⟩ ⟨by decide, by decide⟩ (fun hc1 => ?_) (fun hc1 => ?_)
  · simp only [jc, decide_eq_true_eq] at hc1
    refine mj_T.pl rfl rfl rfl rfl ?_
    exact t12 c (by omega)
  · simp only [jc, decide_eq_false_iff_not] at hc1
    refine mj_T.pl rfl rfl rfl rfl ?_
    refine mj_T.lneg rfl ?_
    refine mj_T.pl rfl rfl rfl rfl ?_
    exact t12 (-c) (by omega)
end RPU
