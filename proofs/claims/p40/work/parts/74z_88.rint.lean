/-! The reference, exactly: interpolate. -/
section RXI
variable {h : mj_H} {tm er : Int} {T : Nat → Int} {N0 : Nat → Int} {u0 : Nat} {H : Nat → Nat → Int}
/-- what interpolate does -/
def RIt (tm er : Int) (T : Nat → Int) (N0 : Nat → Int) (u0 : Nat) (H : Nat → Nat → Int) (x : Int) (r : mj_R) : Prop := ((0 ≤ x ∧ x ≤ 5) ∧ ∃ (w : Nat → Int) (D : Int), itR N0 w D ∧ ((sml w ∧ rJx (jfl N0 x.toNat w 13) (upu u0) (pushH N0 H) tm er T r) ∨ (¬ sml w ∧ rJx N0 u0 H tm er T r))) ∨ (¬ (0 ≤ x ∧ x ≤ 5) ∧ rJx N0 u0 H tm er T r)
theorem rx_interpolate {x : Int} (hx : jr x) (hI : jIx N0 u0 H tm er T h) : mj_Ok 40 251 [.ref 0, .int (jn x)] h (RIt tm er T N0 u0 H x) := by
  refine mj_Ok.of (M := mj_m251) rfl rfl rfl ?_
  obtain ⟨S, N, B, X, V, hs, K⟩ := hI
  iterate 2 refine mj_T.pl rfl rfl rfl rfl ?_
  refine rT_put (v := 0) hs rfl rfl (by decide) rfl (fun g1 hs1 => ?_)
  have K1 := K.put (k := 3) (v := 0) ⟨by decide, by decide⟩ (by decide) (by decide) (by decide) (by decide) (by decide)
  generalize jvu S 3 0 = S1 at hs1 K1
  refine mj_T.pl rfl rfl rfl rfl ?_
  refine mj_T.call (ins := .invokestatic 181) rfl rfl (Nat.le_of_ble_eq_true rfl) (Nat.le_of_ble_eq_true rfl) rfl rfl (mj_Ok.up (by decide) (rp_isRegister (D := 0) hx)) (fun v' h' hq' => ?_) (fun i h' hq' => by rcases hq' with ⟨_, _, h⟩ | ⟨_, h⟩ <;> cases h)
  rcases hq' with ⟨x1, x2, hq'⟩ | ⟨hno, hq'⟩
  case' inr =>
    cases hq'
    refine mj_T.if0 (a := 0) rfl ⟨by decide, by decide⟩ (fun hc => ?_) (fun hc => ?_)
    · simp [jc] at hc
    iterate 2 refine mj_T.pl rfl rfl rfl rfl ?_
    refine mj_T.call (ins := .invokevirtual 198) rfl rfl (Nat.le_of_ble_eq_true rfl) (Nat.le_of_ble_eq_true rfl) (by simp [mj_recv, rS_f hs1]) rfl (mj_Ok.up (by decide) (rp_fails (D := 0) (c := 1) hs1)) (fun v' g2 hq' => ?_) (fun i h' hq' => by obtain ⟨_, _, h⟩ := hq'; cases h)
    obtain ⟨_, hs2, hq'⟩ := hq'
    cases hq'
    refine mj_T.i2l rfl ⟨by decide, by decide⟩ ?_
    exact mj_T.ret rfl rfl rfl (Or.inr ⟨by omega, 0, g2, rfl, ⟨_, N, B, X, V, hs2, K1.put ⟨by decide, by decide⟩ (by decide) (by decide) (by decide) (by decide) (by decide)⟩⟩)
  cases hq'
  refine mj_T.if0 (a := 1) rfl ⟨by decide, by decide⟩ (fun hc => ?_) (fun hc => ?_)
  rotate_left
  · simp [jc] at hc
  obtain ⟨x, rfl⟩ := Int.eq_ofNat_of_zero_le x1
  obtain ⟨n, hn⟩ := Int.eq_ofNat_of_zero_le K1.1.1.2.1.1
  iterate 4 refine mj_T.pl rfl rfl rfl rfl ?_
  refine rx_i1_loop K1.1.1 hn hs1 (fun A l5 hA1 hA2 hA3 => ?_) n 0 1 none (by omega) ⟨_, (Nat.one_mul _).symm⟩ (Nat.le_refl _) (fun i hi => absurd hi (by omega))
  iterate 2 refine mj_T.pl rfl rfl rfl rfl ?_
  refine mj_T.call (ins := .invokevirtual 110) rfl rfl (Nat.le_of_ble_eq_true rfl) (Nat.le_of_ble_eq_true rfl) (by simp [mj_recv, rS_f hs1]) rfl (mj_Ok.up (by decide) (jp_empties (D := 0) (rG S1 N B T X) (p := 0) (by decide) hs1)) (fun v' g3 hq' => ?_) (fun i h' hq' => by obtain ⟨_, _, h⟩ := hq'; cases h)
  obtain ⟨_, hs3, hq'⟩ := hq'
  cases hq'
  have q1 : ∀ e, e < 13 → jfl V 0 (fun _ => 0) 13 (0 * 13 + e) = 0 := fun e he => jfl_at _ _ _ he
  generalize jfl V 0 (fun _ => 0) 13 = W3 at hs3 q1
  iterate 2 refine mj_T.pl rfl rfl rfl rfl ?_
  refine rx_i3_loop K1.1.1 hn (fun V2 h2 m5 hs2 hIt => ?_) hA2 hA1 n 0 _ _ _ (by omega) hs3 (fun e he => by rw [q1 e he]; exact Nat.zero_le _) (fun e he => q1 e he)
  iterate 3 refine mj_T.pl rfl rfl rfl rfl ?_
  refine mj_T.call (ins := .invokevirtual 130) rfl rfl (Nat.le_of_ble_eq_true rfl) (Nat.le_of_ble_eq_true rfl) (by simp [mj_recv, rS_f hs2]) rfl (mj_Ok.up (by decide) (jp_contents (D := 0) (rG S1 N B T X) (to := 656) (p := 0) (by decide) (by decide) (by decide) (by decide) (by decide) (by decide) (by decide) hs2)) (fun v' g4 hq' => ?_) (fun i h' hq' => by obtain ⟨_, _, _, _, _, h⟩ := hq'; cases h)
  obtain ⟨W4, _, hs4, p1, p2, hq'⟩ := hq'
  cases hq'
  iterate 3 refine mj_T.pl rfl rfl rfl rfl ?_
  refine mj_T.call (ins := .invokevirtual 45) rfl rfl (Nat.le_of_ble_eq_true rfl) (Nat.le_of_ble_eq_true rfl) (by simp [mj_recv, rS_f hs4]) rfl (mj_Ok.up (by decide) (jS_sets (D := 0) (rG S1 N B T X) (s := 661) (v := (A : Int)) (by decide) ⟨by omega, by omega⟩ hs4)) (fun v' g5 hq' => ?_) (fun i h' hq' => by obtain ⟨_, _, h⟩ := hq'; cases h)
  obtain ⟨_, hs5, hq'⟩ := hq'
  cases hq'
  have u1 : jvu W4 661 (A : Int) 661 = (A : Int) := jvu_at _ _ _
  have u2 : ∀ s, s ≠ 661 → jvu W4 661 (A : Int) s = W4 s := fun s hne => jvu_ne _ _ _ hne
  generalize jvu W4 661 (A : Int) = W5 at hs5 u1 u2
  iterate 4 refine mj_T.pl rfl rfl rfl rfl ?_
  refine mj_T.call (ins := .invokevirtual 127) rfl rfl (Nat.le_of_ble_eq_true rfl) (Nat.le_of_ble_eq_true rfl) (by simp [mj_recv, rS_f hs5]) rfl (mj_Ok.up (by decide) (jp_commons (D := 0) (V := W5) (rG S1 N B T X) (to := 662) (i := 661) (j := 656) (by decide) (by decide) (by decide) (by decide) (by decide) (by decide) (by decide) hs5)) (fun v' g6 hq' => ?_) (fun i h' hq' => by obtain ⟨_, _, _, _, _, h⟩ := hq'; cases h)
  obtain ⟨W6, _, hs6, y1, y2, hq'⟩ := hq'
  cases hq'
  have y0 : W6 662 ≠ 0 := by
    rw [y1, u1, Int.natAbs_natCast]
    have := Nat.gcd_pos_of_pos_left (m := A) (W5 656).natAbs (by omega)
    omega
  have hI6 : ∀ e, e < 13 → W6 (0 * 13 + e) = itp (fun j => N (79 + j)) (fun j => N (85 + j)) (A : Int) n n e := fun e he => by
    rw [y2 _ (by omega) (by omega) (by omega) (by omega), u2 _ (by omega), p2 _ (by omega) (by omega) (by omega) (by omega) (by omega)]
    exact hIt e he
  have hc6 : W6 662 = ((Nat.gcd A (cgd (itp (fun j => N (79 + j)) (fun j => N (85 + j)) (A : Int) n n) 13) : Nat) : Int) := by
    rw [y1, u1, u2 656 (by decide), p1, Int.natAbs_natCast, Int.natAbs_natCast, jgk_cgd hIt]
  have hdl := jdg_le W6 0 13
  iterate 2 refine mj_T.pl rfl rfl rfl rfl ?_
  refine mj_T.call (ins := .invokevirtual 114) rfl rfl (Nat.le_of_ble_eq_true rfl) (Nat.le_of_ble_eq_true rfl) (by simp [mj_recv, rS_f hs6]) rfl (mj_Ok.up (by decide) (jp_degreeOf (D := 0) (rG S1 N B T X) (p := 0) (by decide) hs6)) (fun v' h' hq' => ?_) (fun i h' hq' => by cases hq')
  cases hq'
  refine mj_T.pl rfl rfl rfl rfl ?_
  refine rx_i4_loop (c := W6 662) (I := itp (fun j => N (79 + j)) (fun j => N (85 + j)) (A : Int) n n) y0 (fun V3 h3 hs3 hc3 hI3 => ?_) (jdg W6 0 13) _ _ hdl hs6 rfl (fun e he => hI6 e (by omega)) (fun e e1 e2 => by
    have z := jdg_zero W6 0 13 e e1 e2
    rw [z, ← hI6 e e2, z, Int.zero_tdiv])
  iterate 3 refine mj_T.pl rfl rfl rfl rfl ?_
  refine mj_T.call (ins := .invokevirtual 133) rfl rfl (Nat.le_of_ble_eq_true rfl) (Nat.le_of_ble_eq_true rfl) (by simp [mj_recv, rS_f hs3]) rfl (mj_Ok.up (by decide) (jp_exact (D := 0) (V := V3) (rG S1 N B T X) (i := 661) (j := 662) (by decide) (by decide) (by decide) (by decide) (by decide) (by decide) (by rw [hc3]; exact y0) hs3)) (fun v' g7 hq' => ?_) (fun i h' hq' => by obtain ⟨_, _, _, _, _, h⟩ := hq'; cases h)
  obtain ⟨W7, _, hs7, _, o2, hq'⟩ := hq'
  cases hq'
  iterate 2 refine mj_T.pl rfl rfl rfl rfl ?_
  refine mj_T.call (ins := .invokevirtual 191) rfl rfl (Nat.le_of_ble_eq_true rfl) (Nat.le_of_ble_eq_true rfl) (by simp [mj_recv, rS_f hs7]) rfl (mj_Ok.up (by decide) (rp_asLong (D := 0) (s := 661) (by decide) hs7)) (fun v' h' hq' => ?_) (fun i h' hq' => by cases hq')
  cases hq'
  refine mj_T.pl rfl rfl rfl rfl ?_
  iterate 4 refine mj_T.pl rfl rfl rfl rfl ?_
  refine mj_T.call (ins := .invokevirtual 219) rfl rfl (Nat.le_of_ble_eq_true rfl) (Nat.le_of_ble_eq_true rfl) (by simp [mj_recv, rS_f hs7]) rfl (mj_Ok.up (by decide) (rx_puts (D := 0) (r := x) (p := 0) (c := 2) (by omega) (by decide) ⟨by decide, by decide⟩ K1 hs7)) (fun v' h' hq' => ?_) (fun i h' hq' => by rcases hq' with ⟨_, _, _, _, h, _⟩ | ⟨_, _, _, _, h, _⟩ <;> cases h)
  have hw7 : ∀ e, e < 13 → (fun e => W7 (0 * 13 + e)) e = (itp (fun j => N (79 + j)) (fun j => N (85 + j)) (A : Int) n n e).tdiv (W6 662) := fun e he => by
    show W7 (0 * 13 + e) = _
    rw [o2 _ (by omega) (by omega) (by omega)]
    exact hI3 e he
  rw [hc6] at hw7
  obtain ⟨fi1, fi2, fi3⟩ := it_fin (show 0 < A by omega) rfl hw7
  have hN78 : N0 78 = (n : Int) := by
    rw [← K1.2.1 78 (by decide)]
    exact hn
  have hn6 : n ≤ 6 := by
    have := K1.1.1.2.1.2
    omega
  have eP : ∀ j, j < n → (fun i => N (79 + i)) j = (fun i => N0 (79 + i)) j := fun j hj => K1.2.1 (79 + j) (by omega)
  have eY : ∀ j, j < n → (fun i => N (85 + i)) j = (fun i => N0 (85 + i)) j := fun j hj => K1.2.1 (85 + j) (by omega)
  have hitR : itR N0 (fun e => W7 (0 * 13 + e)) ((A : Int).tdiv ((Nat.gcd A (cgd (itp (fun j => N (79 + j)) (fun j => N (85 + j)) (A : Int) n n) 13) : Nat) : Int)) := by
    refine ⟨(A : Int), by omega, ?_, ?_, fi2, fi3⟩
    · rw [hN78, Int.toNat_natCast]
      intro i hi
      rw [← wgt_cg eP hi]
      exact Int.natAbs_dvd_natAbs.mp (by rw [Int.natAbs_natCast]; exact hA3 i hi)
    · rw [hN78, Int.toNat_natCast, ← itp_cg eP eY n (Nat.le_refl n)]
      exact fi1
  have hX : (0 : Int) ≤ (x : Int) ∧ (x : Int) ≤ 5 := ⟨by omega, by omega⟩
  rcases hq' with ⟨hs9, z9, h9, hz9, e9, ⟨S9, N9, B9, X9, V9, r9, K9⟩⟩ | ⟨hs9, z9, h9, hz9, e9, ⟨S9, N9, B9, X9, V9, r9, K9⟩⟩
  · cases e9
    iterate 2 refine mj_T.pl rfl rfl rfl rfl ?_
    refine rT_get r9 rfl rfl ?_
    refine mj_T.if0 (a := S9 3) rfl (K9.1.2.2.2.2.2.2.1 3) (fun hc => ?_) (fun hc => ?_)
    · refine mj_T.pl rfl rfl rfl rfl ?_
      exact mj_T.ret rfl rfl rfl (Or.inl ⟨hX, _, _, hitR, Or.inl ⟨hs9, 0, _, rfl, ⟨_, _, _, _, _, r9, K9⟩⟩⟩)
    · iterate 2 refine mj_T.pl rfl rfl rfl rfl ?_
      exact mj_T.ret rfl rfl rfl (Or.inl ⟨hX, _, _, hitR, Or.inl ⟨hs9, _, _, rfl, ⟨_, _, _, _, _, r9, K9⟩⟩⟩)
  · cases e9
    iterate 2 refine mj_T.pl rfl rfl rfl rfl ?_
    refine rT_get r9 rfl rfl ?_
    refine mj_T.if0 (a := S9 3) rfl (K9.1.2.2.2.2.2.2.1 3) (fun hc => ?_) (fun hc => ?_)
    · refine mj_T.pl rfl rfl rfl rfl ?_
      exact mj_T.ret rfl rfl rfl (Or.inl ⟨hX, _, _, hitR, Or.inr ⟨hs9, 0, _, rfl, ⟨_, _, _, _, _, r9, K9⟩⟩⟩)
    · iterate 2 refine mj_T.pl rfl rfl rfl rfl ?_
      exact mj_T.ret rfl rfl rfl (Or.inl ⟨hX, _, _, hitR, Or.inr ⟨hs9, _, _, rfl, ⟨_, _, _, _, _, r9, K9⟩⟩⟩)
end RXI
