/-! Of the reference and of numbers (as in p1, part 78w). -/
theorem jrf_up {bg bg' : Nat → Int32} {s : Nat} {x : Int32} (h : jrf bg bg' s) : jrf bg (upd bg' (s * 702) x) s := fun j hj => by
  unfold upd
  rw [if_neg (by omega)]
  exact h j hj
theorem jrf_tr {bg bg' bg2 : Nat → Int32} {s : Nat} (h : jrf bg bg' s) (h2 : jrf bg' bg2 s) : jrf bg bg2 s := fun j hj => (h2 j hj).trans (h j hj)
section JXQ
variable {D : Nat} {hp : mj_H} {q0 q1 q2 q3 : Nat} {fs : List Value} {bg : Nat → Int32} {ov db : Nat → Value}
theorem jq_cuts (G : jG hp q0 q1 q2 q3 fs) {q r a b : Nat} {u v : Int} (hq : q < 665) (hr : r < 665) (ha : a < 665) (hb : b < 665) (n1 : q ≠ r) (n2 : q ≠ a) (n3 : q ≠ b) (n4 : r ≠ a) (hu : jrs bg a u) (hv : jrs bg b v) (hv0 : v ≠ 0) :
    mj_Ok (D + 4) 191 [.ref q0, .int (jn q), .int (jn r), .int (jn a), .int (jn b)] (jZ hp q1 q2 q3 bg ov db) (fun z => ∃ (bg' : Nat → Int32) (ov' db' : Nat → Value), jrs bg' q (u.tdiv v) ∧ jrs bg' r (u.tmod v) ∧ (∀ s w, s ≠ q → s ≠ r → jrs bg s w → jrs bg' s w) ∧ z = (.inl none, jZ hp q1 q2 q3 bg' ov' db')) := by
  have ku := hu.2.2.2
  have kv := hv.2.2.2
  have hsu := jsg_range u
  have hsv := jsg_range v
  have hcr := jcm_range u.natAbs v.natAbs
  refine mj_Ok.of (M := mj_m191) rfl rfl rfl ?_
  iterate 3 refine mj_T.pl rfl rfl rfl rfl ?_
  refine mj_T.call (ins := .invokevirtual 71) rfl rfl (Nat.le_of_ble_eq_true rfl) (Nat.le_of_ble_eq_true rfl) (by simp [mj_recv, jX_a (jE_c (jG_e G _) _)]) rfl (jq_cmp (D := D) (jE_c (jG_e G _) _) ha hb hu hv) (fun v' h' hq' => ?_) (fun i h' hq' => by cases hq')
  cases hq'
  refine mj_T.if0 rfl ⟨by omega, by omega⟩ (fun hc => ?_) (fun hc => ?_)
  · simp only [jc, decide_eq_true_eq] at hc
    have hyx : v.natAbs ≤ u.natAbs := Decidable.byContradiction fun q => by
      rw [jcm_lt (show u.natAbs < v.natAbs by omega)] at hc
      omega
    have hnm : jnl v.natAbs ≤ jnl u.natAbs := jnl_mono hyx
    have hy0 : v.natAbs ≠ 0 := by omega
    have hn1 : 1 ≤ jnl v.natAbs := Nat.pos_of_ne_zero (fun e => hy0 (jnl_eq0.mp e))
    obtain ⟨f1, f2⟩ := jfa_pos v.natAbs
    have hV := jfa_nl (x := v.natAbs)
    have hnorm := jfa_norm (x := v.natAbs) (by omega)
    have hfd : (1000000000 : Int).tdiv (((jlb v.natAbs (jnl v.natAbs - 1) : Nat) : Int) + 1) = ((jfa v.natAbs : Nat) : Int) := by
      unfold jfa
      rw [if_neg hy0]
      rfl
    have hXV : u.natAbs * jfa v.natAbs / (v.natAbs * jfa v.natAbs) = u.natAbs / v.natAbs := Nat.mul_div_mul_right _ _ f1
    have hXR : u.natAbs * jfa v.natAbs % (v.natAbs * jfa v.natAbs) / jfa v.natAbs = u.natAbs % v.natAbs := by
      rw [Nat.mul_mod_mul_right, Nat.mul_div_cancel _ f1]
    have hlb := jlb_lt v.natAbs (jnl v.natAbs - 1)
    have hyB : jB ^ (jnl v.natAbs - 1) ≤ v.natAbs := Nat.le_of_not_lt fun h => by have := jnl_le_lt.mpr h; omega
    have hxB := jnl_le_lt.mp (Nat.le_refl (jnl u.natAbs))
    have hx2 : u.natAbs < v.natAbs * jB ^ (jnl u.natAbs - jnl v.natAbs + 1) := by
      refine Nat.lt_of_lt_of_le hxB (Nat.le_trans (Nat.le_of_eq ?_) (Nat.mul_le_mul_right _ hyB))
      rw [← Nat.pow_add]
      congr 1
      omega
    have hX1 : u.natAbs * jfa v.natAbs / jB ^ (jnl u.natAbs - jnl v.natAbs + 1) < v.natAbs * jfa v.natAbs := by
      rw [Nat.div_lt_iff_lt_mul (jB_pow _), Nat.mul_assoc, Nat.mul_comm (jfa v.natAbs), ← Nat.mul_assoc]
      exact Nat.mul_lt_mul_of_pos_right hx2 f1
    have hjy : jyk (u.natAbs * jfa v.natAbs) (v.natAbs * jfa v.natAbs) (jnl u.natAbs - jnl v.natAbs + 1) = u.natAbs * jfa v.natAbs := by
      unfold jyk
      rw [Nat.mod_eq_of_lt hX1, Nat.mul_comm (u.natAbs * jfa v.natAbs / _)]
      exact Nat.div_add_mod _ _
    have hqn : jnl (u.natAbs * jfa v.natAbs / (v.natAbs * jfa v.natAbs)) ≤ jnl u.natAbs - jnl v.natAbs + 1 := by
      rw [hXV]
      refine jnl_of ?_
      rw [Nat.div_lt_iff_lt_mul (by omega), Nat.mul_comm]
      exact hx2
    have hV0 : 0 < v.natAbs * jfa v.natAbs := Nat.mul_pos (by omega) f1
    have hRlt := Nat.mod_lt (u.natAbs * jfa v.natAbs) hV0
    have hRn : jnl (u.natAbs * jfa v.natAbs % (v.natAbs * jfa v.natAbs)) ≤ jnl v.natAbs := by
      rw [← hV]
      exact jnl_mono (Nat.le_of_lt hRlt)
    have hyf : jnl (v.natAbs) ≤ jnl v.natAbs := Nat.le_refl _
    generalize hM : jnl u.natAbs - jnl v.natAbs = m at *
    have hxm : jnl u.natAbs = jnl v.natAbs + m := by omega
    generalize hNN : jnl v.natAbs = n at *
    generalize hFF : jfa v.natAbs = f at *
    iterate 2 refine mj_T.pl rfl rfl rfl rfl ?_
    refine mj_T.call (ins := .invokevirtual 52) rfl rfl (Nat.le_of_ble_eq_true rfl) (Nat.le_of_ble_eq_true rfl) (by simp [mj_recv, jX_a (jE_c (jG_e G _) _)]) rfl (jq_length (D := D + 2) (jX_a (jE_c (jG_e G _) _)) G.1.1.2.1 (jX_b (jE_c (jG_e G _) _)) hb hv) (fun v' h' hq' => ?_) (fun i h' hq' => by cases hq')
    cases hq'
    rw [hNN]
    iterate 3 refine mj_T.pl rfl rfl rfl rfl ?_
    refine mj_T.call (ins := .invokevirtual 52) rfl rfl (Nat.le_of_ble_eq_true rfl) (Nat.le_of_ble_eq_true rfl) (by simp [mj_recv, jX_a (jE_c (jG_e G _) _)]) rfl (jq_length (D := D + 2) (jX_a (jE_c (jG_e G _) _)) G.1.1.2.1 (jX_b (jE_c (jG_e G _) _)) ha hu) (fun v' h' hq' => ?_) (fun i h' hq' => by cases hq')
    cases hq'
    refine mj_T.pl rfl rfl rfl rfl ?_
    refine mj_T.isub rfl ?_
    rw [show ((jnl u.natAbs : Nat) : Int) - (n : Int) = (m : Int) by omega]
    iterate 6 refine mj_T.pl rfl rfl rfl rfl ?_
    refine mj_T.isub (b := 1) rfl ?_
    rw [show (n : Int) - 1 = ((n - 1 : Nat) : Int) by omega]
    refine mj_T.call (ins := .invokevirtual 64) rfl rfl (Nat.le_of_ble_eq_true rfl) (Nat.le_of_ble_eq_true rfl) (by simp [mj_recv, jX_a (jE_c (jG_e G _) _)]) rfl (jq_limb (D := D + 1) (jX_a (jE_c (jG_e G _) _)) G.1.1.2.1 (jX_b (jE_c (jG_e G _) _)) hb (show n - 1 ≤ 700 by omega) hv) (fun v' h' hq' => ?_) (fun i h' hq' => by cases hq')
    cases hq'
    refine mj_T.pl rfl rfl rfl rfl ?_
    refine mj_T.iadd (b := 1) rfl ?_
    refine mj_T.idiv (a := 1000000000) rfl ⟨by omega, by omega⟩ ⟨by omega, by omega⟩ (by omega) ?_
    rw [hfd]
    iterate 2 refine mj_T.pl rfl rfl rfl rfl ?_
    refine mj_T.gb (jE_c (jG_e G _) _) rfl ?_
    iterate 2 refine mj_T.pl rfl rfl rfl rfl ?_
    refine mj_T.imul (b := 702) rfl ?_
    refine mj_T.pl rfl rfl rfl rfl ?_
    refine mj_T.iadd (b := 2) rfl ?_
    rw [show (a : Int) * 702 + 2 = ((a * 702 + 2 : Nat) : Int) by omega]
    refine mj_T.pl rfl rfl rfl rfl ?_
    refine mj_T.gov (jG_e G _) rfl ?_
    iterate 3 refine mj_T.pl rfl rfl rfl rfl ?_
    refine mj_T.iadd rfl ?_
    rw [show (n : Int) + (m : Int) = ((n + m : Nat) : Int) by omega]
    refine mj_T.prim rfl rfl (jX_cpo (jX_b (jE_c (jG_e G _) _)) (jY_o (jG_e G _)) (by omega) (by omega)) ?_
    rw [jY_set (jG_e G _)]
    refine mj_T.pl rfl rfl rfl rfl ?_
    refine mj_T.gb (jE_c (jG_e G _) _) rfl ?_
    iterate 2 refine mj_T.pl rfl rfl rfl rfl ?_
    refine mj_T.imul (b := 702) rfl ?_
    refine mj_T.pl rfl rfl rfl rfl ?_
    refine mj_T.iadd (b := 2) rfl ?_
    rw [show (b : Int) * 702 + 2 = ((b * 702 + 2 : Nat) : Int) by omega]
    refine mj_T.pl rfl rfl rfl rfl ?_
    refine mj_T.gby G rfl ?_
    iterate 2 refine mj_T.pl rfl rfl rfl rfl ?_
    refine mj_T.prim rfl rfl (jX_cpo (jX_b (jE_c (jG_e G _) _)) (jZ_y G) (by omega) (by omega)) ?_
    rw [jZ_set G]
    refine mj_T.pl rfl rfl rfl rfl ?_
    refine mj_T.gov (jG_e G _) rfl ?_
    iterate 2 refine mj_T.pl rfl rfl rfl rfl ?_
    refine mj_T.iadd rfl ?_
    rw [show (n : Int) + (m : Int) = ((n + m : Nat) : Int) by omega]
    refine mj_T.pl rfl rfl rfl rfl ?_
    refine mj_T.call (ins := .invokestatic 94) rfl rfl (Nat.le_of_ble_eq_true rfl) (Nat.le_of_ble_eq_true rfl) rfl rfl (jq_scales_o (D := D + 2) G (n := n + m) (x := u.natAbs) (fa := f) (by omega) (by omega) f1 f2 (fun j hj => ?_)) (fun v' h' hq' => ?_) (fun i h' hq' => by obtain ⟨_, _, h⟩ := hq'; cases h)
    · unfold va_cpy
      rw [if_pos (by omega), Nat.sub_zero]
      exact congrArg Value.int (hu.2.2.1 j (by omega))
    obtain ⟨ov1, o1, h⟩ := hq'
    cases h
    refine mj_T.pl rfl rfl rfl rfl ?_
    refine mj_T.gby G rfl ?_
    iterate 2 refine mj_T.pl rfl rfl rfl rfl ?_
    refine mj_T.call (ins := .invokestatic 94) rfl rfl (Nat.le_of_ble_eq_true rfl) (Nat.le_of_ble_eq_true rfl) rfl rfl (jq_scales_y (D := D + 2) G (n := n) (x := v.natAbs) (fa := f) (by omega) (by omega) f1 f2 (fun j hj => ?_)) (fun v' h' hq' => ?_) (fun i h' hq' => by obtain ⟨_, _, h⟩ := hq'; cases h)
    · unfold va_cpy
      rw [if_pos (by omega), Nat.sub_zero]
      exact congrArg Value.int (hv.2.2.1 j (by omega))
    obtain ⟨db1, y1, h⟩ := hq'
    cases h
    iterate 2 refine mj_T.pl rfl rfl rfl rfl ?_
    refine mj_T.eq (jq_cut_loop (D := D + 2) G (q := q) (r := r) (a := a) (b := b) (n := n) (m := m) (f := f) (X := u.natAbs * f) (V := v.natAbs * f) (bg0 := bg) hq hn1 (by omega) hV hnorm (fun j hj => y1 j (by omega)) (fun bg1 ov2 c1 c2 c3 => ?_) (m + 1) bg ov1 (Nat.le_refl _) (fun j hj => by rw [hjy]; exact o1 j hj) (fun j h1 h2 => by omega) (fun p _ => rfl)) rfl ?_ rfl rfl
    rotate_left
    · rw [show ((m + 1 : Nat) : Int) - 1 = (m : Int) by omega]; rfl
    have F1 : jrf bg bg1 q := fun j hj => c3 j (fun i hi => by omega)
    have ua1 := jrs_keep hu F1 (Ne.symm n2)
    have vb1 := jrs_keep hv F1 (Ne.symm n3)
    refine mj_T.pl rfl rfl rfl rfl ?_
    refine mj_T.gb (jE_c (jG_e G _) _) rfl ?_
    iterate 2 refine mj_T.pl rfl rfl rfl rfl ?_
    refine mj_T.imul (b := 702) rfl ?_
    rw [show (q : Int) * 702 = ((q * 702 : Nat) : Int) by omega]
    iterate 2 refine mj_T.pl rfl rfl rfl rfl ?_
    refine mj_T.call (ins := .invokevirtual 68) rfl rfl (Nat.le_of_ble_eq_true rfl) (Nat.le_of_ble_eq_true rfl) (by simp [mj_recv, jX_a (jE_c (jG_e G _) _)]) rfl (jq_sign (D := D + 2) (jX_a (jE_c (jG_e G _) _)) G.1.1.2.1 (jX_b (jE_c (jG_e G _) _)) ha ua1) (fun v' h' hq' => ?_) (fun i h' hq' => by cases hq')
    cases hq'
    iterate 2 refine mj_T.pl rfl rfl rfl rfl ?_
    refine mj_T.call (ins := .invokevirtual 68) rfl rfl (Nat.le_of_ble_eq_true rfl) (Nat.le_of_ble_eq_true rfl) (by simp [mj_recv, jX_a (jE_c (jG_e G _) _)]) rfl (jq_sign (D := D + 2) (jX_a (jE_c (jG_e G _) _)) G.1.1.2.1 (jX_b (jE_c (jG_e G _) _)) hb vb1) (fun v' h' hq' => ?_) (fun i h' hq' => by cases hq')
    cases hq'
    refine mj_T.imul rfl ?_
    refine mj_T.xst (jE_c (jG_e G _) _) rfl ⟨by omega, by omega⟩ ⟨by omega, by omega⟩ ?_
    iterate 4 refine mj_T.pl rfl rfl rfl rfl ?_
    refine mj_T.iadd (b := 1) rfl ?_
    rw [show (m : Int) + 1 = ((m + 1 : Nat) : Int) by omega]
    refine mj_T.call (ins := .invokevirtual 80) rfl rfl (Nat.le_of_ble_eq_true rfl) (Nat.le_of_ble_eq_true rfl) (by simp [mj_recv, jX_a (jE_c (jG_e G _) _)]) rfl (jq_trims (D := D + 2) (jE_c (jG_e G _) _) (bg := upd bg1 (q * 702) (jn (jsg u * jsg v))) (x := u.natAbs * f / (v.natAbs * f)) (g0 := jsg u * jsg v) (n := m + 1) hq (by omega) hqn (if_pos rfl) (fun j hj => ?_)) (fun v' h' hq' => ?_) (fun i h' hq' => by obtain ⟨_, _, _, _, _, h⟩ := hq'; cases h)
    · unfold upd
      rw [if_neg (by omega)]
      exact c2 j (by omega)
    obtain ⟨bg2, e1, e2, e3, e4, h⟩ := hq'
    cases h
    have F2 : jrf bg bg2 q := jrf_tr (jrf_up F1) e4
    have hqv : jrs bg2 q (u.tdiv v) := by
      rw [hXV] at e1 e2 e3 hqn
      refine jrs_of ?_ e1 e2 (fun j hj => e3 j (by omega)) (fun h0 => ?_) (by omega)
      · exact Int.natAbs_tdiv u v
      · rw [jsg_tdiv, if_neg]
        intro q0
        exact h0 (Int.natAbs_eq_zero.mp (by rw [Int.natAbs_tdiv]; exact q0))
    have ua2 := jrs_keep hu F2 (Ne.symm n2)
    iterate 4 refine mj_T.pl rfl rfl rfl rfl ?_
    refine mj_T.isub (b := 1) rfl ?_
    refine mj_T.pl rfl rfl rfl rfl ?_
    have hR0 : u.natAbs * f % (v.natAbs * f) / jB ^ n % f = 0 := by rw [jnl_le.mp hRn, Nat.zero_mod]
    generalize u.natAbs * f % (v.natAbs * f) = R at *
    refine mj_T.eq (jq_cut_rest (D := D + 3) G (q := q) (r := r) (a := a) (b := b) (n := n) (m := m) (f := f) (R := R) (bg0 := bg2) (ov := ov2) (db := db1) hr hn1 (by omega) f1 f2 hRn (fun j hj => c1 j (by omega)) (fun bg3 l8 l11 d1 d2 => ?_) n bg2 none (Nat.le_refl _) (fun j h1 h2 => absurd h1 (Nat.not_le.mpr h2)) (fun p _ => rfl)) rfl ?_ rfl rfl
    rotate_left
    · rw [hR0]; rfl
    rw [hXR] at d1
    have F3 : jrf bg2 bg3 r := fun j hj => d2 j (fun i hi => by omega)
    have ua3 := jrs_keep ua2 F3 (Ne.symm n4)
    refine mj_T.pl rfl rfl rfl rfl ?_
    refine mj_T.gb (jE_c (jG_e G _) _) rfl ?_
    iterate 2 refine mj_T.pl rfl rfl rfl rfl ?_
    refine mj_T.imul (b := 702) rfl ?_
    rw [show (r : Int) * 702 = ((r * 702 : Nat) : Int) by omega]
    iterate 2 refine mj_T.pl rfl rfl rfl rfl ?_
    refine mj_T.call (ins := .invokevirtual 68) rfl rfl (Nat.le_of_ble_eq_true rfl) (Nat.le_of_ble_eq_true rfl) (by simp [mj_recv, jX_a (jE_c (jG_e G _) _)]) rfl (jq_sign (D := D + 2) (jX_a (jE_c (jG_e G _) _)) G.1.1.2.1 (jX_b (jE_c (jG_e G _) _)) ha ua3) (fun v' h' hq' => ?_) (fun i h' hq' => by cases hq')
    cases hq'
    refine mj_T.xst (jE_c (jG_e G _) _) rfl ⟨by omega, by omega⟩ ⟨by omega, by omega⟩ ?_
    iterate 3 refine mj_T.pl rfl rfl rfl rfl ?_
    have hmn : jnl (u.natAbs % v.natAbs) ≤ n := by
      rw [← hNN]
      exact jnl_mono (Nat.le_of_lt (Nat.mod_lt _ (by omega)))
    refine mj_T.call (ins := .invokevirtual 80) rfl rfl (Nat.le_of_ble_eq_true rfl) (Nat.le_of_ble_eq_true rfl) (by simp [mj_recv, jX_a (jE_c (jG_e G _) _)]) rfl (jq_trims (D := D + 2) (jE_c (jG_e G _) _) (bg := upd bg3 (r * 702) (jn (jsg u))) (x := u.natAbs % v.natAbs) (g0 := jsg u) (n := n) hr (by omega) hmn (if_pos rfl) (fun j hj => ?_)) (fun v' h' hq' => ?_) (fun i h' hq' => by obtain ⟨_, _, _, _, _, h⟩ := hq'; cases h)
    · unfold upd
      rw [if_neg (by omega)]
      exact d1 j hj
    obtain ⟨bg4, g1, g2, g3, g4, h⟩ := hq'
    cases h
    have F4 : jrf bg2 bg4 r := jrf_tr (jrf_up F3) g4
    refine mj_T.ret rfl rfl rfl ⟨bg4, ov2, db1, jrs_keep hqv F4 n1, ?_, fun s w s1 s2 hw => jrs_keep (jrs_keep hw F2 s1) F4 s2, rfl⟩
    refine jrs_of ?_ g1 g2 (fun j hj => g3 j (by omega)) (fun h0 => ?_) (by omega)
    · exact Int.natAbs_tmod u v
    · rw [jsg_tmod, if_neg]
      intro q0
      exact h0 (Int.natAbs_eq_zero.mp (by rw [Int.natAbs_tmod]; exact q0))
  · simp only [jc, decide_eq_false_iff_not] at hc
    have hlt : u.natAbs < v.natAbs := Decidable.byContradiction fun q => by
      rcases Nat.lt_or_ge v.natAbs u.natAbs with q2 | q2
      · rw [jcm_gt q2] at hc; omega
      · rw [jcm_eq (by omega)] at hc; omega
    have e1 : u.tdiv v = 0 := Int.natAbs_eq_zero.mp (by rw [Int.natAbs_tdiv]; exact Nat.div_eq_of_lt hlt)
    have e2 : u.tmod v = u := by
      have := Int.tmod_add_mul_tdiv u v
      rw [e1, Int.mul_zero, Int.add_zero] at this
      exact this
    iterate 3 refine mj_T.pl rfl rfl rfl rfl ?_
    refine mj_T.call (ins := .invokevirtual 45) rfl rfl (Nat.le_of_ble_eq_true rfl) (Nat.le_of_ble_eq_true rfl) (by simp [mj_recv, jX_a (jE_c (jG_e G _) _)]) rfl (jq_sets (D := D + 2) (jE_c (jG_e G _) _) (s := q) (v := 0) hq ⟨by omega, by omega⟩) (fun v' h' hq' => ?_) (fun i h' hq' => by obtain ⟨_, _, _, h⟩ := hq'; cases h)
    obtain ⟨bg1, c1, c2, h⟩ := hq'
    cases h
    iterate 3 refine mj_T.pl rfl rfl rfl rfl ?_
    refine mj_T.call (ins := .invokevirtual 84) rfl rfl (Nat.le_of_ble_eq_true rfl) (Nat.le_of_ble_eq_true rfl) (by simp [mj_recv, jX_a (jE_c (jG_e G _) _)]) rfl (jq_copies (D := D + 1) (jE_c (jG_e G _) _) hr ha (jrs_keep hu c2 (Ne.symm n2))) (fun v' h' hq' => ?_) (fun i h' hq' => by obtain ⟨_, _, _, h⟩ := hq'; cases h)
    obtain ⟨bg2, d1, d2, h⟩ := hq'
    cases h
    refine mj_T.ret rfl rfl rfl ⟨bg2, ov, db, ?_, ?_, fun s w s1 s2 hw => jrs_keep (jrs_keep hw c2 s1) d2 s2, rfl⟩
    · rw [e1]
      exact jrs_keep c1 d2 n1
    · rw [e2]
      exact d1
end JXQ

