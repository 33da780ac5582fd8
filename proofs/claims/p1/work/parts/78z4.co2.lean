/-! The class's valueAt, at once. -/
section MOB
variable {ρ : Nat → Nat} {n a : Nat} {t : mq_Ht} {h : mj_H}
theorem mq_Hr.obj {ci : Nat} {fs : List mq_W} (hr : mq_Hr ρ n t h) (ha : a < 1024) (h1 : mq_hg t a = some (.inr (.inl (ci, fs)))) : ∃ fs' : List Value, h[a]? = some (.inr (ci, fs')) ∧ ∀ i, i < fs.length → mq_kn (mq_nth mq_U fs i) = true → fs'[i]? = some (mq_val ρ (mq_nth mq_U fs i)) := by
  rcases hr.cell a ha with h2 | ⟨_, e, h3, h4⟩
  · rw [h1] at h2; cases h2
  · rw [h1] at h4
    obtain ⟨fs', h4, h5, h6⟩ := h4
    subst h4
    exact ⟨fs', h3, h6⟩
theorem mq_Hr.arr {ty len dep : Nat} {d : mq_T mq_W} (hr : mq_Hr ρ n t h) (ha : a < 1024) (h1 : mq_hg t a = some (.inl (ty, len, dep, d))) : ∃ f : Nat → Value, h[a]? = some (.inl (ty, len, f)) ∧ len ≤ 1000000 ∧ ∀ i, i < len → mq_kn (mq_get d i) = true → f i = mq_val ρ (mq_get d i) := by
  rcases hr.cell a ha with h2 | ⟨_, e, h3, h4⟩
  · rw [h1] at h2; cases h2
  · rw [h1] at h4
    obtain ⟨f, h4, h5, h6⟩ := h4
    subst h4
    exact ⟨f, h3, h5.2, h6⟩
/-- a known reference among the fields, anywhere -/
theorem mq_fA_kn {fs : List mq_W} {e : mq_V} {i : Nat} {k : Nat → mq_V → Bool} (h : mq_vA (mq_nth mq_U fs i) e k = true) (hs : mq_Sat ρ e) : ∃ b e', (i < fs.length ∧ mq_kn (mq_nth mq_U fs i) = true ∧ mq_val ρ (mq_nth mq_U fs i) = .ref b) ∧ mq_Sat ρ e' ∧ k b e' = true := by
  obtain ⟨b, e', h1, h2, h3⟩ := mq_vA_of h hs
  have hk := mq_vA_kn h
  exact ⟨b, e', ⟨mq_kn_lt hk, hk, h1⟩, h2, h3⟩
/-- a part of a polynomial -/
theorem jw_part {D q pa len ty i w : Nat} {fq : List Value} {f : Nat → Value} (h1 : h[q]? = some (.inr (3, fq))) (h2 : fq[0]? = some (.ref pa)) (h3 : h[pa]? = some (.inl (ty, len, f))) (ht : ty = 5) (hi : i < len) (hl : len ≤ 1000000) (hf : f i = .ref w) : mj_Ok (D + 1) 36 [.ref q, .int (jn (i : Nat))] h (fun r => r = (.inl (some (.ref w)), h)) := by
  subst ht
  refine mj_Ok.of (M := mj_m36) rfl rfl rfl ?_
  refine mj_T.pl rfl rfl rfl rfl ?_
  refine mj_T.if0 rfl ⟨by omega, by omega⟩ (fun hc => ?_) (fun hc => ?_)
  · simp only [jc, decide_eq_true_eq] at hc; omega
  iterate 2 refine mj_T.pl rfl rfl rfl rfl ?_
  refine mj_T.gfl rfl h1 h2 ?_
  refine mj_T.alen rfl h3 ?_
  refine mj_T.icmp rfl ⟨by omega, by omega⟩ ⟨by omega, by omega⟩ (fun hc => ?_) (fun hc => ?_)
  · simp only [jc, decide_eq_true_eq] at hc; omega
  refine mj_T.pl rfl rfl rfl rfl ?_
  refine mj_T.gfl rfl h1 h2 ?_
  refine mj_T.pl rfl rfl rfl rfl ?_
  refine mj_T.aald rfl h3 rfl ⟨by omega, by omega⟩ ⟨by omega, by omega⟩ ?_
  rw [show f ((i : Int).toNat) = .ref w from hf]
  refine mj_T.pl rfl rfl rfl rfl ?_
  exact mj_T.ret rfl rfl rfl rfl
end MOB
theorem mq_cW_jk {ρ : Nat → Nat} {n a : Nat} {t : mq_Ht} {h : mj_H} {k : Nat → Nat → mq_N → Bool} (hh : mq_cW t a k = true) (hr : mq_Hr ρ n t h) : ∃ b len v, mq_hg t a = mq_wide b len v ∧ mq_jk v = false ∧ mq_nf v ∧ a < 1024 ∧ jnl (mq_nv ρ v).natAbs ≤ len ∧ k b len v = true := by
  unfold mq_cW at hh
  obtain ⟨b, len, v, z, g, h1, h0, h2, h3, h4, h5, h6, h7, h8, h9, h10, h11, h12⟩ := mq_cV_of hh hr
  obtain ⟨q, h13⟩ := mq_cond_no h12
  have hz := h0 q
  subst hz
  exact ⟨b, len, v, h1, q, h7, h10, h5, h13⟩
/-- but for two numbers all is as it was -/
def mq_I2 (ρ : Nat → Nat) (n : Nat) (t0 : mq_Ht) (one two b1 b2 : Nat) (t : mq_Ht) (h : mj_H) (v v2 : mq_N) : Prop := mq_Hr ρ n t h ∧ (∀ y, y < 1024 → y ≠ one → y ≠ two → mq_hg t y = mq_hg t0 y) ∧ mq_hg t one = mq_wide b1 240 v ∧ mq_hg t two = mq_wide b2 240 v2
theorem mq_I2.one {ρ : Nat → Nat} {n one two b1 b2 : Nat} {t0 t : mq_Ht} {h h' : mj_H} {v v2 v' : mq_N} (I : mq_I2 ρ n t0 one two b1 b2 t h v v2) (h1 : one < 1024) (h2 : two < 1024) (hne : one ≠ two) (R : mq_Hr ρ n (mq_hset t one (mq_wide b1 240 v')) h') : mq_I2 ρ n t0 one two b1 b2 (mq_hset t one (mq_wide b1 240 v')) h' v' v2 := by
  refine ⟨R, fun y hy n1 n2 => ?_, ?_, ?_⟩
  · rw [mq_hg_set I.1.wl _ h1 hy, if_neg n1]
    exact I.2.1 y hy n1 n2
  · rw [mq_hg_set I.1.wl _ h1 h1, if_pos rfl]
  · rw [mq_hg_set I.1.wl _ h1 h2, if_neg (Ne.symm hne)]
    exact I.2.2.2
theorem mq_I2.two {ρ : Nat → Nat} {n one two b1 b2 : Nat} {t0 t : mq_Ht} {h h' : mj_H} {v v2 v' : mq_N} (I : mq_I2 ρ n t0 one two b1 b2 t h v v2) (h1 : one < 1024) (h2 : two < 1024) (hne : one ≠ two) (R : mq_Hr ρ n (mq_hset t two (mq_wide b2 240 v')) h') : mq_I2 ρ n t0 one two b1 b2 (mq_hset t two (mq_wide b2 240 v')) h' v v' := by
  refine ⟨R, fun y hy n1 n2 => ?_, ?_, ?_⟩
  · rw [mq_hg_set I.1.wl _ h2 hy, if_neg n2]
    exact I.2.1 y hy n1 n2
  · rw [mq_hg_set I.1.wl _ h2 h1, if_neg hne]
    exact I.2.2.1
  · rw [mq_hg_set I.1.wl _ h2 h2, if_pos rfl]
theorem mq_wide_ne {t : mq_Ht} {x y b len : Nat} {v : mq_N} {c : mq_C} (h1 : mq_hg t x = c) (h2 : mq_hg t y = mq_wide b len v) (hc : c ≠ mq_wide b len v) : x ≠ y := fun e => hc (by rw [← h1, e, h2])
theorem jw_val_loop {ρ : Nat → Nat} {n a q w one two b1 b2 bw lw pa len dep : Nat} {t0 : mq_Ht} {h0 : mj_H} {fs fq : List mq_W} {d : mq_T mq_W} {x : mq_N} (hr0 : mq_Hr ρ n t0 h0) (hs : mq_Sat ρ []) (ha : a < 1024) (hq : q < 1024) (hw : w < 1024) (hpa : pa < 1024) (ho : one < 1024) (ht : two < 1024)
    (A : mq_hg t0 a = some (.inr (.inl (1, fs)))) (f4 : 4 < fs.length ∧ mq_kn (mq_nth mq_U fs 4) = true ∧ mq_val ρ (mq_nth mq_U fs 4) = .ref one) (f5 : 5 < fs.length ∧ mq_kn (mq_nth mq_U fs 5) = true ∧ mq_val ρ (mq_nth mq_U fs 5) = .ref two)
    (B : mq_hg t0 q = some (.inr (.inl (3, fq)))) (g0 : 0 < fq.length ∧ mq_kn (mq_nth mq_U fq 0) = true ∧ mq_val ρ (mq_nth mq_U fq 0) = .ref pa) (C : mq_hg t0 pa = some (.inl (5, len, dep, d))) (W : mq_hg t0 w = mq_wide bw lw x) (hjx : mq_jk x = false)
    (n1 : one ≠ two) (n2 : w ≠ one) (n3 : w ≠ two) (n4 : a ≠ one) (n5 : a ≠ two) (n6 : q ≠ one) (n7 : q ≠ two) (n8 : pa ≠ one) (n9 : pa ≠ two) {k : mq_N → Bool} {Q : mj_R → Prop} {M : Nat} {vi : mq_N}
    (K : ∀ (v v2 : mq_N) (t : mq_Ht) (h : mj_H), k v = true → mq_I2 ρ n t0 one two b1 b2 t h v v2 → mq_nf v → mq_jk v = false → ((0 = M ∧ v2 = vi) ∨ (0 < M ∧ v2 = v)) → mj_T 3 mj_m28 59 [some (.ref a), some (.ref q), some (.ref w), some (.int (jn (-1)))] [] h Q) :
    ∀ (m : Nat) (v v2 : mq_N) (t : mq_Ht) (h : mj_H), m ≤ len → mq_vat t0 d x one two m v k = true → mq_I2 ρ n t0 one two b1 b2 t h v v2 → mq_nf v → mq_jk v = false → ((m = M ∧ v2 = vi) ∨ (m < M ∧ v2 = v)) →
      mj_T 3 mj_m28 13 [some (.ref a), some (.ref q), some (.ref w), some (.int (jn ((m : Int) - 1)))] [] h Q
  | 0, v, v2, t, h, hm, hg, I, hf, hj, hM => by
    refine mj_T.pl rfl rfl rfl rfl ?_
    refine mj_T.if0 rfl ⟨by omega, by omega⟩ (fun hc => ?_) (fun hc => ?_)
    · exact K v v2 t h hg I hf hj hM
    · simp only [jc, decide_eq_false_iff_not] at hc; omega
  | m + 1, v, v2, t, h, hm, hg, I, hf, hj, hM => by
    have hg : (mq_vA (mq_get d m) [] fun w' _ => mq_cW t0 w' fun _ len' c => mq_mul v x fun v => mq_add v c fun u => (Bool.rec (motive := fun _ => Bool) false (mq_vat t0 d x one two m u k) (mq_and (mq_and (mq_ne w' one) (mq_ne w' two)) (mq_and (mq_fit v 240) (mq_and (mq_fit u 240) (Nat.ble len' 240)))))) = true := hg
    have hkn := mq_vA_kn hg
    have ne : ∀ {x y : Nat}, mq_ne x y = true → x ≠ y := fun {x y} hx e => by
      unfold mq_ne at hx
      rw [Nat.beq_eq.mpr e] at hx
      cases hx
    obtain ⟨w', e', hw', -, hg⟩ := mq_vA_of hg hs
    obtain ⟨b', len', c, c1, c2, c3, c4, c5, hg⟩ := mq_cW_jk hg hr0
    obtain ⟨v1, z1, z2, z3, hg⟩ := mq_mul_jk (ρ := ρ) hg
    obtain ⟨u1, y1, y2, y3, hg⟩ := mq_add_jk (ρ := ρ) hg
    obtain ⟨cc, hg⟩ := mq_cond_of hg
    rw [mq_and_eq, mq_and_eq, mq_and_eq, mq_and_eq] at cc
    obtain ⟨⟨m1, m2⟩, m3, m4, m5⟩ := cc
    have m1 := ne m1
    have m2 := ne m2
    have m5 : len' ≤ 240 := Nat.ble_eq.mp m5
    have fv := mq_fit_of (ρ := ρ) m3 z2
    have fu := mq_fit_of (ρ := ρ) m4 y2
    have T3 : two ≠ one := Ne.symm n1
    -- the product
    obtain ⟨R, Iy, I1, I2⟩ := I
    have I : mq_I2 ρ n t0 one two b1 b2 t h v v2 := ⟨R, Iy, I1, I2⟩
    obtain ⟨fs', hA, fA⟩ := R.obj ha ((Iy a ha n4 n5).trans A)
    obtain ⟨zz, gg, -, hT, -⟩ := R.wd ht I2
    rw [show ((m + 1 : Nat) : Int) - 1 = (m : Int) by omega]
    obtain ⟨f0, -, hl0, -⟩ := hr0.arr hpa C
    refine mj_T.pl rfl rfl rfl rfl ?_
    refine mj_T.if0 rfl ⟨by omega, by omega⟩ (fun hc => ?_) (fun hc => ?_)
    · simp only [jc, decide_eq_true_eq] at hc; omega
    clear hc
    refine mj_T.pl rfl rfl rfl rfl ?_
    refine mj_T.gfl rfl hA ((fA 5 f5.1 f5.2.1).trans (congrArg some f5.2.2)) ?_
    refine mj_T.pl rfl rfl rfl rfl ?_
    refine mj_T.gfl rfl hA ((fA 4 f4.1 f4.2.1).trans (congrArg some f4.2.2)) ?_
    refine mj_T.pl rfl rfl rfl rfl ?_
    refine mj_T.call (ins := .invokevirtual 96) rfl rfl (Nat.le_of_ble_eq_true rfl) (Nat.le_of_ble_eq_true rfl) (by simp [mj_recv, hT]) rfl (mq_k95 (D := 2) R ht ho hw (Ne.symm n2) T3 (Ne.symm n3) I2 I1 hj ((Iy w hw n2 n3).trans W) hjx z1 z2 fv) (fun v' h' hq' => ?_) (fun i h' hq' => by obtain ⟨_, h, _⟩ := hq'; cases h)
    obtain ⟨h1, hq', R1⟩ := hq'
    cases hq'
    have J := I.two (v' := v1) ho ht n1 R1
    obtain ⟨R, Iy, I1, I2⟩ := J
    have I : mq_I2 ρ n t0 one two b1 b2 _ _ v v1 := ⟨R, Iy, I1, I2⟩
    obtain ⟨fs1, hA, fA⟩ := R.obj ha ((Iy a ha n4 n5).trans A)
    obtain ⟨fq1, hQ, fQ⟩ := R.obj hq ((Iy q hq n6 n7).trans B)
    obtain ⟨fa, hP, -, fP⟩ := R.arr hpa ((Iy pa hpa n8 n9).trans C)
    obtain ⟨zz1, gg1, -, hT1, -⟩ := R.wd ht I2
    refine mj_T.pl rfl rfl rfl rfl ?_
    refine mj_T.gfl rfl hA ((fA 5 f5.1 f5.2.1).trans (congrArg some f5.2.2)) ?_
    iterate 2 refine mj_T.pl rfl rfl rfl rfl ?_
    refine mj_T.call (ins := .invokevirtual 66) rfl rfl (Nat.le_of_ble_eq_true rfl) (Nat.le_of_ble_eq_true rfl) (by simp [mj_recv, hQ]) rfl (jw_part (D := 2) hQ ((fQ 0 g0.1 g0.2.1).trans (congrArg some g0.2.2)) hP rfl (show m < len by omega) hl0 ((fP m (by omega) hkn).trans hw')) (fun v' h' hq' => ?_) (fun i h' hq' => by cases hq')
    cases hq'
    refine mj_T.pl rfl rfl rfl rfl ?_
    refine mj_T.call (ins := .invokevirtual 81) rfl rfl (Nat.le_of_ble_eq_true rfl) (Nat.le_of_ble_eq_true rfl) (by simp [mj_recv, hT1]) rfl (mq_k91 (D := 1) R ht c4 (Ne.symm m2) I2 z3 ((Iy w' c4 m1 m2).trans c1) c2 y1 y2 (by omega) fu) (fun v' h' hq' => ?_) (fun i h' hq' => by obtain ⟨_, h, _⟩ := hq'; cases h)
    obtain ⟨h2, hq', R1⟩ := hq'
    cases hq'
    have J := I.two (v' := u1) ho ht n1 R1
    obtain ⟨R, Iy, I1, I2⟩ := J
    have I : mq_I2 ρ n t0 one two b1 b2 _ _ v u1 := ⟨R, Iy, I1, I2⟩
    obtain ⟨fs2, hA, fA⟩ := R.obj ha ((Iy a ha n4 n5).trans A)
    obtain ⟨zz2, gg2, -, hO2, -⟩ := R.wd ho I1
    refine mj_T.pl rfl rfl rfl rfl ?_
    refine mj_T.gfl rfl hA ((fA 4 f4.1 f4.2.1).trans (congrArg some f4.2.2)) ?_
    refine mj_T.pl rfl rfl rfl rfl ?_
    refine mj_T.gfl rfl hA ((fA 5 f5.1 f5.2.1).trans (congrArg some f5.2.2)) ?_
    refine mj_T.call (ins := .invokevirtual 104) rfl rfl (Nat.le_of_ble_eq_true rfl) (Nat.le_of_ble_eq_true rfl) (by simp [mj_recv, hO2]) rfl (mq_k87 (D := 2) R ho ht n1 I1 I2 y3 fu) (fun v' h' hq' => ?_) (fun i h' hq' => by obtain ⟨_, h, _⟩ := hq'; cases h)
    obtain ⟨h3, hq', R1⟩ := hq'
    cases hq'
    have J := I.one (v' := u1) ho ht n1 R1
    refine mj_T.iinc (a := m) rfl rfl ?_
    refine mj_T.pl rfl rfl rfl rfl ?_
    rw [show (m : Int) + -1 = (m : Int) - 1 by omega]
    exact jw_val_loop hr0 hs ha hq hw hpa ho ht A f4 f5 B g0 C W hjx n1 n2 n3 n4 n5 n6 n7 n8 n9 K m u1 u1 _ _ (by omega) hg J y2 y3 (Or.inr ⟨by rcases hM with q | q <;> omega, rfl⟩)
theorem mq_w28 : mq_okO 28 3 mq_o_val := by
  intro ρ as n t env kr kx h hl g hs hr
  obtain ⟨w1, s1, a, e, rfl, e1, S, g1⟩ := mq_pA_of g hs
  obtain ⟨w2, s2, q, e2, rfl, e3, S2, g2⟩ := mq_pA_of g1 S
  obtain ⟨w3, s3, w, e4, rfl, e5, S3, g3⟩ := mq_pA_of g2 S2
  have hs2 : s3 = [] := mq_len1 (by simpa using hl)
  subst hs2
  obtain ⟨ci, fs, fs', A, hA, -, fA, ha, g4⟩ := mq_cO_of g3 hr
  obtain ⟨cq, fq, fq', B, hB, -, fB, hq, g5⟩ := mq_cO_of g4 hr
  obtain ⟨bw, lw, x, W, hjx, hxf, hw, -, g6⟩ := mq_cW_jk g5 hr
  obtain ⟨one, ea, f4, Sa, g7⟩ := mq_fA_kn g6 hs.nil
  obtain ⟨two, eb, f5, Sb, g8⟩ := mq_fA_kn g7 hs.nil
  obtain ⟨b1, l1, v1, z1, gg1, O1, -, hO, -, -, -, -, -, hb1, -, ho, -, g9⟩ := mq_cV_of g8 hr
  obtain ⟨b2, l2, v2, z2, gg2, T1, -, hT, -, -, -, -, nfT, hb2, -, ht, -, g10⟩ := mq_cV_of g9 hr
  obtain ⟨pa, ec, q0, Sc, g11⟩ := mq_fA_kn g10 hs.nil
  obtain ⟨dg, e6, hdg, S6, g12⟩ := mq_vI_of g11 S3
  obtain ⟨ty, len, dep, d, f, C, hC, hCl, -, hpa, g13⟩ := mq_cA_of g12 hr
  obtain ⟨cc, g14⟩ := mq_cond_of g13
  rw [mq_and_eq, mq_and_eq, mq_and_eq, mq_and_eq, mq_and_eq, mq_and_eq, mq_and_eq, mq_and_eq] at cc
  obtain ⟨⟨⟨c1, c2, c3⟩, c4, c5⟩, c6, c7, c8, c9⟩ := cc
  have ne : ∀ {x y : Nat}, mq_ne x y = true → x ≠ y := fun {x y} hx e => by
    unfold mq_ne at hx
    rw [Nat.beq_eq.mpr e] at hx
    cases hx
  have c1 : ci = 1 := Nat.beq_eq.mp c1
  have c2 : ty = 5 := Nat.beq_eq.mp c2
  have c3 : cq = 3 := Nat.beq_eq.mp c3
  have c4 : l1 = 240 := Nat.beq_eq.mp c4
  have c5 : l2 = 240 := Nat.beq_eq.mp c5
  have c6 : mq_add32 dg 1 ≤ len := Nat.ble_eq.mp c6
  have c7 := ne c7
  have c8 := ne c8
  have c9 := ne c9
  subst c1
  subst c2
  subst c3
  subst c4
  subst c5
  have n4 := mq_wide_ne A O1 (by intro e; cases e)
  have n5 := mq_wide_ne A T1 (by intro e; cases e)
  have n6 := mq_wide_ne B O1 (by intro e; cases e)
  have n7 := mq_wide_ne B T1 (by intro e; cases e)
  have n8 := mq_wide_ne C O1 (by intro e; cases e)
  have n9 := mq_wide_ne C T1 (by intro e; cases e)
  have hkd : mq_kn (mq_nth mq_U fq 2) = true := by
    rcases mq_Wd (mq_nth mq_U fq 2) with ⟨n, e⟩ | ⟨a, e⟩ | ⟨n, e⟩ | ⟨i, m, c, e⟩ | ⟨i, e⟩ | ⟨i, lo, l, e⟩ | ⟨x, e⟩ | ⟨x, e⟩ | e | e | e | e | e <;> rw [e] at g11 ⊢ <;> first | rfl | cases g11
  rw [List.map_cons, List.map_cons, List.map_cons, List.map_nil, e1, e3, e5]
  -- the first number becomes 0
  refine (mj_Ok.of (D := 3) (M := mj_m28) rfl rfl rfl ?_).up (by omega)
  refine mj_T.pl rfl rfl rfl rfl ?_
  refine mj_T.gfl rfl hA ((fA 4 f4.1 f4.2.1).trans (congrArg some f4.2.2)) ?_
  refine mj_T.pl rfl rfl rfl rfl ?_
  refine mj_T.call (ins := .invokevirtual 70) rfl rfl (Nat.le_of_ble_eq_true rfl) (Nat.le_of_ble_eq_true rfl) (by simp [mj_recv, hO]) rfl (mq_k86 (D := 2) (x := 0) (v := Sum.inl (0, 0)) hr ho O1 ⟨by omega, by omega⟩ rfl (Or.inl rfl) (by rw [show (mq_nv ρ (Sum.inl (0, 0))).natAbs = 0 from rfl, jnl_zero]; omega)) (fun v' h' hq' => ?_) (fun i h' hq' => by obtain ⟨_, h, _⟩ := hq'; cases h)
  obtain ⟨h1, hq', R1⟩ := hq'
  cases hq'
  have I0 : mq_I2 ρ n t one two b1 b2 t h v1 v2 := ⟨hr, fun y _ _ _ => rfl, O1, T1⟩
  have I1 := I0.one (v' := Sum.inl (0, 0)) ho ht c7 R1
  obtain ⟨fq1, hQ, fQ⟩ := I1.1.obj hq ((I1.2.1 q hq n6 n7).trans B)
  have hdg3 := (fQ 2 (mq_kn_lt hkd) hkd).trans (congrArg some hdg)
  refine mj_T.pl rfl rfl rfl rfl ?_
  refine mj_T.gfl rfl hQ hdg3 ?_
  refine mj_T.pl rfl rfl rfl rfl ?_
  have hm : jn (dg : Nat) = jn (((mq_add32 dg 1 : Nat) : Int) - 1) := by
    rw [← jn_sub, mq_jn_add]
    show jn (dg : Nat) = jn (dg : Nat) + jn 1 - jn 1
    rw [jn_add, jn_sub]
    congr 1
    omega
  rw [hm]
  refine jw_val_loop (M := mq_add32 dg 1) (vi := v2) (k := fun v => mq_putW t one b1 240 v fun t => Bool.rec (motive := fun _ => Bool) (mq_putW t two b2 240 v fun t => mq_sgn v e6 fun z e => kr (Sum.inl z) n t e) (mq_sgn v e6 fun z e => kr (Sum.inl z) n t e) (Nat.beq (mq_add32 dg 1) 0)) hr hs.nil ha hq hw hpa ho ht A f4 f5 B q0 C W hjx c7 c8 c9 n4 n5 n6 n7 n8 n9 (fun v v2' t' h' gk I hf hj hM => ?_) (mq_add32 dg 1) (Sum.inl (0, 0)) v2 _ _ c6 g14 I1 (Or.inl rfl) rfl (Or.inl ⟨rfl, rfl⟩)
  obtain ⟨R, Iy, J1, J2⟩ := I
  obtain ⟨fs2, hA2, fA2⟩ := R.obj ha ((Iy a ha n4 n5).trans A)
  obtain ⟨zz, gg, hz, hO2, -⟩ := R.wd ho J1
  have hz := hz hj
  subst hz
  have gk : (mq_putW t one b1 240 v fun t => Bool.rec (motive := fun _ => Bool) (mq_putW t two b2 240 v fun t => mq_sgn v e6 fun z e => kr (Sum.inl z) n t e) (mq_sgn v e6 fun z e => kr (Sum.inl z) n t e) (Nat.beq (mq_add32 dg 1) 0)) = true := gk
  unfold mq_putW at gk
  obtain ⟨-, gk⟩ := mq_cond_of gk
  rw [mq_hk_eq] at gk
  have w1 := hr.wl.set ho (mq_wide b1 240 v)
  have fin : ∀ t2, mq_Hr ρ n t2 h' → (mq_sgn v e6 fun z e => kr (Sum.inl z) n t2 e) = true → mj_T 3 mj_m28 59 [some (.ref a), some (.ref q), some (.ref w), some (.int (jn (-1)))] [] h' (mq_Po ρ kr kx) := fun t2 R2 g2 => by
    obtain ⟨z, e7, hz, S7, g2⟩ := mq_sgn_of (ρ := ρ) g2 hf S6
    refine mj_T.pl rfl rfl rfl rfl ?_
    refine mj_T.gfl rfl hA2 ((fA2 4 f4.1 f4.2.1).trans (congrArg some f4.2.2)) ?_
    refine mj_T.gfl rfl hO2 rfl ?_
    rw [← hz]
    exact mj_T.ret rfl rfl rfl ⟨_, n, t2, e7, rfl, R2, S7, g2⟩
  rcases mq_if_or gk with ⟨qm, gk⟩ | ⟨qm, gk⟩
  · have qm : mq_add32 dg 1 = 0 := Nat.beq_eq.mp qm
    refine fin _ (R.eqv w1 (fun y hy => ?_)) gk
    rw [mq_hg_set hr.wl _ ho hy]
    by_cases y1 : y = one
    · rw [if_pos y1, y1, J1]
    · rw [if_neg y1]
      by_cases y2 : y = two
      · rw [y2, J2, T1]
        rcases hM with q | q
        · rw [q.2]
        · omega
      · exact (Iy y hy y1 y2).symm
  · have qm : mq_add32 dg 1 ≠ 0 := fun e0 => by rw [Nat.beq_eq.mpr e0] at qm; cases qm
    obtain ⟨-, gk⟩ := mq_cond_of gk
    rw [mq_hk_eq] at gk
    refine fin _ (R.eqv (w1.set ht _) (fun y hy => ?_)) gk
    rw [mq_hg_set w1 _ ht hy]
    by_cases y2 : y = two
    · rw [if_pos y2, y2, J2]
      rcases hM with q | q
      · omega
      · rw [q.2]
    · rw [if_neg y2, mq_hg_set hr.wl _ ho hy]
      by_cases y1 : y = one
      · rw [if_pos y1, y1, J1]
      · rw [if_neg y1]
        exact (Iy y hy y1 y2).symm
