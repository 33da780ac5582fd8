/-! Calls of the reference: errors: it is 0. -/
theorem rp_er1 : 10 ^ 18 * 10 ^ 18 < jB ^ 698 := by decide +kernel
section RPU
variable {h : mj_H} {tm er : Int} {T : Nat → Int}
theorem rp_er_in {S N B X : Nat → Int} {a : Nat} (ha : a ≤ 5) (K : jK tm er S N B T) {Q : mj_R → Prop} (hend : ∀ (V : Nat → Int) (h : mj_H), rS S N B T X V h → mj_T 39 mj_m309 125 [some (.ref 0), some (.int (jn 0)), some (.int (jn (a : Int))), some (.int (jn 6))] [] h Q) :
    ∀ (m b : Nat) (V : Nat → Int) (h : mj_H), b + m = 6 → rS S N B T X V h → mj_T 39 mj_m309 19 [some (.ref 0), some (.int (jn 0)), some (.int (jn (a : Int))), some (.int (jn (b : Int)))] [] h Q := by
  intro m
  induction m with
  | zero =>
    intro b V h hb hs
    have hb : b = 6 := by omega
    subst hb
    iterate 2 refine mj_T.pl rfl rfl rfl rfl ?_
    refine mj_T.icmp (a := ((6 : Nat) : Int)) (b := 6) rfl ⟨by decide, by decide⟩ ⟨by decide, by decide⟩ (fun hc => ?_) (fun hc => ?_)
    · exact hend V h hs
    · simp [jc] at hc
  | succ m ih =>
    intro b V h hb hs
    iterate 2 refine mj_T.pl rfl rfl rfl rfl ?_
    refine mj_T.icmp (a := (b : Int)) (b := 6) rfl ⟨by omega, by omega⟩ ⟨by decide, by decide⟩ (fun hc => ?_) (fun hc => ?_)
    · simp only [jc, decide_eq_true_eq] at hc
      omega
    have t119 : ∀ (V2 : Nat → Int) (h2 : mj_H), rS S N B T X V2 h2 → mj_T 39 mj_m309 119 [some (.ref 0), some (.int (jn 0)), some (.int (jn (a : Int))), some (.int (jn (b : Int)))] [] h2 Q := fun V2 h2 hs2 => by
      refine mj_T.iinc (a := (b : Int)) rfl rfl ?_
      refine mj_T.pl rfl rfl rfl rfl ?_
      exact ih (b + 1) V2 h2 (by omega) hs2
    iterate 2 refine mj_T.pl rfl rfl rfl rfl ?_
    refine mj_T.call (ins := .invokevirtual 232) rfl rfl (Nat.le_of_ble_eq_true rfl) (Nat.le_of_ble_eq_true rfl) (by simp [mj_recv, rS_f hs]) rfl (mj_Ok.up (by decide) (rp_isZero (D := 0) (r := a) (by omega) K.nR hs)) (fun v' h' hq' => ?_) (fun i h' hq' => by rcases hq' with ⟨_, h⟩ | ⟨_, h⟩ <;> cases h)
    rcases hq' with ⟨_, hq'⟩ | ⟨nza, hq'⟩
    case' inl =>
      cases hq'
      refine mj_T.if0 (a := 1) rfl ⟨by decide, by decide⟩ (fun hc => ?_) (fun hc => ?_)
      · exact t119 V h hs
      · simp [jc] at hc
    cases hq'
    refine mj_T.if0 (a := 0) rfl ⟨by decide, by decide⟩ (fun hc => ?_) (fun hc => ?_)
    · simp [jc] at hc
    iterate 2 refine mj_T.pl rfl rfl rfl rfl ?_
    refine mj_T.call (ins := .invokevirtual 232) rfl rfl (Nat.le_of_ble_eq_true rfl) (Nat.le_of_ble_eq_true rfl) (by simp [mj_recv, rS_f hs]) rfl (mj_Ok.up (by decide) (rp_isZero (D := 0) (r := b) (by omega) K.nR hs)) (fun v' h' hq' => ?_) (fun i h' hq' => by rcases hq' with ⟨_, h⟩ | ⟨_, h⟩ <;> cases h)
    rcases hq' with ⟨_, hq'⟩ | ⟨nzb, hq'⟩
    case' inl =>
      cases hq'
      refine mj_T.if0 (a := 1) rfl ⟨by decide, by decide⟩ (fun hc => ?_) (fun hc => ?_)
      · simp [jc] at hc
      refine mj_T.pl rfl rfl rfl rfl ?_
      exact t119 V h hs
    cases hq'
    refine mj_T.if0 (a := 0) rfl ⟨by decide, by decide⟩ (fun hc => ?_) (fun hc => ?_)
    rotate_left
    · simp [jc] at hc
    have hda := jdg_le N a 13
    have hna := jdg_ne N a 13 nza
    obtain ⟨da, ea⟩ : ∃ d, jdg N a 13 = d + 1 := ⟨jdg N a 13 - 1, by omega⟩
    rw [ea, Nat.add_sub_cancel] at hna
    have hga := K.1.1 (a * 13 + da) (by omega)
    have hdb := jdg_le N b 13
    have hnb := jdg_ne N b 13 nzb
    obtain ⟨db, eb⟩ : ∃ d, jdg N b 13 = d + 1 := ⟨jdg N b 13 - 1, by omega⟩
    rw [eb, Nat.add_sub_cancel] at hnb
    have hgb := K.1.1 (b * 13 + db) (by omega)
    iterate 3 refine mj_T.pl rfl rfl rfl rfl ?_
    refine rT_get hs rfl rfl ?_
    iterate 2 refine mj_T.pl rfl rfl rfl rfl ?_
    refine mj_T.imul (a := (a : Int)) (b := 13) rfl ?_
    iterate 2 refine mj_T.pl rfl rfl rfl rfl ?_
    refine mj_T.call (ins := .invokevirtual 185) rfl rfl (Nat.le_of_ble_eq_true rfl) (Nat.le_of_ble_eq_true rfl) (by simp [mj_recv, rS_f hs]) rfl (mj_Ok.up (by decide) (rp_degreeIn (D := 0) (r := a) (by omega) K.nR hs)) (fun v' h' hq' => ?_) (fun i h' hq' => by cases hq')
    cases hq'
    rw [ea, show ((da + 1 : Nat) : Int) - 1 = (da : Int) by omega]
    refine mj_T.iadd rfl ?_
    rw [show (a : Int) * 13 + (da : Int) = ((a * 13 + da : Nat) : Int) by omega]
    refine rT_ldN hs rfl ⟨by omega, by omega⟩ ?_
    rw [Int.toNat_natCast]
    refine mj_T.call (ins := .invokevirtual 45) rfl rfl (Nat.le_of_ble_eq_true rfl) (Nat.le_of_ble_eq_true rfl) (by simp [mj_recv, rS_f hs]) rfl (mj_Ok.up (by decide) (jS_sets (D := 0) (rG S N B T X) (s := 652) (v := N (a * 13 + da)) (by decide) (K.nR _ (by omega)) hs)) (fun v' g1 hq' => ?_) (fun i h' hq' => by obtain ⟨_, _, h⟩ := hq'; cases h)
    obtain ⟨_, hs1, hq'⟩ := hq'
    cases hq'
    have u11 : jvu V 652 (N (a * 13 + da)) 652 = N (a * 13 + da) := jvu_at _ _ _
    have u12 : ∀ s, s ≠ 652 → jvu V 652 (N (a * 13 + da)) s = V s := fun s hne => jvu_ne _ _ _ hne
    generalize jvu V 652 (N (a * 13 + da)) = W1 at hs1 u11 u12
    iterate 3 refine mj_T.pl rfl rfl rfl rfl ?_
    refine rT_get hs1 rfl rfl ?_
    iterate 2 refine mj_T.pl rfl rfl rfl rfl ?_
    refine mj_T.imul (a := (b : Int)) (b := 13) rfl ?_
    iterate 2 refine mj_T.pl rfl rfl rfl rfl ?_
    refine mj_T.call (ins := .invokevirtual 185) rfl rfl (Nat.le_of_ble_eq_true rfl) (Nat.le_of_ble_eq_true rfl) (by simp [mj_recv, rS_f hs1]) rfl (mj_Ok.up (by decide) (rp_degreeIn (D := 0) (r := b) (by omega) K.nR hs1)) (fun v' h' hq' => ?_) (fun i h' hq' => by cases hq')
    cases hq'
    rw [eb, show ((db + 1 : Nat) : Int) - 1 = (db : Int) by omega]
    refine mj_T.iadd rfl ?_
    rw [show (b : Int) * 13 + (db : Int) = ((b * 13 + db : Nat) : Int) by omega]
    refine rT_ldN hs1 rfl ⟨by omega, by omega⟩ ?_
    rw [Int.toNat_natCast]
    refine mj_T.call (ins := .invokevirtual 45) rfl rfl (Nat.le_of_ble_eq_true rfl) (Nat.le_of_ble_eq_true rfl) (by simp [mj_recv, rS_f hs1]) rfl (mj_Ok.up (by decide) (jS_sets (D := 0) (rG S N B T X) (s := 653) (v := N (b * 13 + db)) (by decide) (K.nR _ (by omega)) hs1)) (fun v' g2 hq' => ?_) (fun i h' hq' => by obtain ⟨_, _, h⟩ := hq'; cases h)
    obtain ⟨_, hs2, hq'⟩ := hq'
    cases hq'
    have u21 : jvu W1 653 (N (b * 13 + db)) 653 = N (b * 13 + db) := jvu_at _ _ _
    have u22 : ∀ s, s ≠ 653 → jvu W1 653 (N (b * 13 + db)) s = W1 s := fun s hne => jvu_ne _ _ _ hne
    generalize jvu W1 653 (N (b * 13 + db)) = W2 at hs2 u21 u22
    iterate 4 refine mj_T.pl rfl rfl rfl rfl ?_
    have hm : (W2 652 * W2 653).natAbs ≤ 10 ^ 18 * 10 ^ 18 := by
      rw [u21, u22 652 (by decide), u11, Int.natAbs_mul]
      exact Nat.mul_le_mul (by omega) (by omega)
    have hne : W2 652 * W2 653 ≠ 0 := fun e => by
      rw [u21, u22 652 (by decide), u11] at e
      rcases Int.mul_eq_zero.mp e with q | q
      · exact hna q
      · exact hnb q
    refine mj_T.call (ins := .invokevirtual 117) rfl rfl (Nat.le_of_ble_eq_true rfl) (Nat.le_of_ble_eq_true rfl) (by simp [mj_recv, rS_f hs2]) rfl (mj_Ok.up (by decide) (jS_mul (D := 0) (V := W2) (rG S N B T X) (to := 654) (a := 652) (b := 653) (by decide) (by decide) (by decide) (jnl_of_lt hm rp_er1) hs2)) (fun v' g3 hq' => ?_) (fun i h' hq' => by obtain ⟨_, _, h⟩ := hq'; cases h)
    obtain ⟨_, hs3, hq'⟩ := hq'
    cases hq'
    have u3 : jvu W2 654 (W2 652 * W2 653) 654 = W2 652 * W2 653 := jvu_at _ _ _
    generalize jvu W2 654 (W2 652 * W2 653) = W3 at hs3 u3
    iterate 3 refine mj_T.pl rfl rfl rfl rfl ?_
    refine mj_T.call (ins := .invokevirtual 68) rfl rfl (Nat.le_of_ble_eq_true rfl) (Nat.le_of_ble_eq_true rfl) (by simp [mj_recv, rS_f hs3]) rfl (mj_Ok.up (by decide) (jS_sign (D := 0) (rG S N B T X) (s := 654) (by decide) hs3)) (fun v' h' hq' => ?_) (fun i h' hq' => by cases hq')
    cases hq'
    have hsr := jsg_range (W3 654)
    refine mj_T.if0 (a := jsg (W3 654)) rfl ⟨by omega, by omega⟩ (fun hc2 => ?_) (fun hc2 => ?_)
    · refine mj_T.pl rfl rfl rfl rfl ?_
      refine mj_T.iadd (a := 0) (b := 0) rfl ?_
      refine mj_T.pl rfl rfl rfl rfl ?_
      exact t119 W3 _ hs3
    · simp only [jc, Bool.not_eq_false', decide_eq_true_eq] at hc2
      rcases (show W3 654 < 0 ∨ W3 654 = 0 ∨ 0 < W3 654 by omega) with q | q | q
      · rw [jsg_neg q] at hc2
        exact absurd hc2 (by decide)
      · rw [u3] at q
        exact absurd q hne
      · rw [jsg_pos q] at hc2
        exact absurd hc2 (by decide)
theorem rp_er_out {S N B X : Nat → Int} (K : jK tm er S N B T) {Q : mj_R → Prop} (hend : ∀ (V : Nat → Int) (h : mj_H), rS S N B T X V h → Q (.inl (some (.int (jn 0))), h)) :
    ∀ (m a : Nat) (V : Nat → Int) (h : mj_H) (l3 : Option Value), a + m = 6 → rS S N B T X V h → mj_T 39 mj_m309 9 [some (.ref 0), some (.int (jn 0)), some (.int (jn (a : Int))), l3] [] h Q := by
  intro m
  induction m with
  | zero =>
    intro a V h l3 ha hs
    have ha : a = 6 := by omega
    subst ha
    iterate 2 refine mj_T.pl rfl rfl rfl rfl ?_
    refine mj_T.icmp (a := ((6 : Nat) : Int)) (b := 6) rfl ⟨by decide, by decide⟩ ⟨by decide, by decide⟩ (fun hc => ?_) (fun hc => ?_)
    · refine mj_T.pl rfl rfl rfl rfl ?_
      exact mj_T.ret rfl rfl rfl (hend V h hs)
    · simp [jc] at hc
  | succ m ih =>
    intro a V h l3 ha hs
    iterate 2 refine mj_T.pl rfl rfl rfl rfl ?_
    refine mj_T.icmp (a := (a : Int)) (b := 6) rfl ⟨by omega, by omega⟩ ⟨by decide, by decide⟩ (fun hc => ?_) (fun hc => ?_)
    · simp only [jc, decide_eq_true_eq] at hc
      omega
    iterate 2 refine mj_T.pl rfl rfl rfl rfl ?_
    refine mj_T.iadd (a := (a : Int)) (b := 1) rfl ?_
    rw [show (a : Int) + 1 = ((a + 1 : Nat) : Int) by omega]
    refine mj_T.pl rfl rfl rfl rfl ?_
    refine rp_er_in (by omega) K (fun V2 h2 hs2 => ?_) (5 - a) (a + 1) V h (by omega) hs
    refine mj_T.iinc (a := (a : Int)) rfl rfl ?_
    refine mj_T.pl rfl rfl rfl rfl ?_
    exact ih (a + 1) V2 h2 _ (by omega) hs2
theorem rp_errors  (hI : jI tm er T h) : mj_Ok 40 309 [.ref 0] h (fun r => ∃ h2, r = (.inl (some (.int (jn 0))), h2) ∧ jI tm er T h2) := by
  refine mj_Ok.of (M := mj_m309) rfl rfl rfl ?_
  obtain ⟨S, N, B, X, V, hs, K⟩ := hI
  iterate 2 refine mj_T.pl rfl rfl rfl rfl ?_
  refine rT_put (v := 0) hs rfl rfl (by decide) rfl (fun g1 hs1 => ?_)
  have K1 := K.put (k := 3) (v := 0) ⟨by decide, by decide⟩ (by decide) (by decide) (by decide) (by decide) (by decide)
  generalize jvu S 3 0 = S1 at hs1 K1
  iterate 4 refine mj_T.pl rfl rfl rfl rfl ?_
  exact rp_er_out (S := S1) (N := N) (B := B) (X := X) K1 (fun V2 h2 hs2 => ⟨h2, rfl, ⟨_, _, _, _, _, hs2, K1⟩⟩) 6 0 _ _ none (by omega) hs1
end RPU
