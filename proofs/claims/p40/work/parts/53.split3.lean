/-! Divisor: split, the whole of it. -/
theorem jsg_tdiv (u v : Int) : jsg (u.tdiv v) = if u.natAbs / v.natAbs = 0 then 0 else jsg u * jsg v := by
  have ha : (u.tdiv v).natAbs = u.natAbs / v.natAbs := Int.natAbs_tdiv u v
  by_cases h : u.natAbs / v.natAbs = 0
  · rw [if_pos h, show u.tdiv v = 0 by rw [← Int.natAbs_eq_zero, ha]; exact h]
    rfl
  · rw [if_neg h]
    have hv : v ≠ 0 := fun q => h (by rw [q]; simp)
    have hu : u ≠ 0 := fun q => h (by rw [q]; simp)
    have hz : u.tdiv v ≠ 0 := fun q => h (by rw [← ha, q]; rfl)
    rcases Int.lt_or_gt_of_ne hu with hu1 | hu1 <;> rcases Int.lt_or_gt_of_ne hv with hv1 | hv1
    · have := Int.tdiv_nonneg (a := -u) (b := -v) (by omega) (by omega)
      rw [Int.neg_tdiv, Int.tdiv_neg, Int.neg_neg] at this
      rw [jsg_pos (by omega), jsg_neg hu1, jsg_neg hv1]
      rfl
    · have := Int.tdiv_nonneg (a := -u) (b := v) (by omega) (by omega)
      rw [Int.neg_tdiv] at this
      rw [jsg_neg (by omega), jsg_neg hu1, jsg_pos hv1]
      rfl
    · have := Int.tdiv_nonneg (a := u) (b := -v) (by omega) (by omega)
      rw [Int.tdiv_neg] at this
      rw [jsg_neg (by omega), jsg_pos hu1, jsg_neg hv1]
      rfl
    · have := Int.tdiv_nonneg (a := u) (b := v) (by omega) (by omega)
      rw [jsg_pos (by omega), jsg_pos hu1, jsg_pos hv1]
      rfl
theorem jsg_tmod (u v : Int) : jsg (u.tmod v) = if u.natAbs % v.natAbs = 0 then 0 else jsg u := by
  have ha : (u.tmod v).natAbs = u.natAbs % v.natAbs := Int.natAbs_tmod u v
  by_cases h : u.natAbs % v.natAbs = 0
  · rw [if_pos h, show u.tmod v = 0 by rw [← Int.natAbs_eq_zero, ha]; exact h]
    rfl
  · rw [if_neg h]
    have hz : u.tmod v ≠ 0 := fun q => h (by rw [← ha, q]; rfl)
    have hu : u ≠ 0 := fun q => h (by rw [q]; simp)
    rcases Int.lt_or_gt_of_ne hu with hu1 | hu1
    · have := Int.tmod_nonneg (a := -u) v (by omega)
      rw [Int.neg_tmod] at this
      rw [jsg_neg (by omega), jsg_neg hu1]
    · have := Int.tmod_nonneg (a := u) v (by omega)
      rw [jsg_pos (by omega), jsg_pos hu1]
theorem jw_split {D nd m nq : Nat} {u v sz0 : Int} {g0 : Int32} {gv gy gq : Nat → Int32} (hnd : nd ≤ 1000) (hm : m ≤ 1000) (hnq : nq ≤ 1000) (hVn : jnl v.natAbs ≤ nd) (hX : jnl (u.natAbs * jfa v.natAbs) ≤ m) (hcap : jnl (u.tdiv v).natAbs ≤ nq) (hgv : ∀ j, j < jnl v.natAbs → gv j = jn (jlb (v.natAbs * jfa v.natAbs) j)) (hgy : ∀ j, j < jnl u.natAbs → gy j = jn (jlb u.natAbs j)) :
    mj_Ok (D + 2) 31 [.ref 0, .ref 2, .ref 4] (jH6 nd m nq (jnl v.natAbs) (jsg v) (jfa v.natAbs) (jnl u.natAbs) (jsg u) sz0 g0 gv gy gq)
      (fun r => ∃ gy' gq' : Nat → Int32, (∀ j, j < jnl (u.tmod v).natAbs → gy' j = jn (jlb (u.tmod v).natAbs j)) ∧ (∀ j, j < jnl (u.tdiv v).natAbs → gq' j = jn (jlb (u.tdiv v).natAbs j)) ∧ r = (.inl none, jH6 nd m nq (jnl v.natAbs) (jsg v) (jfa v.natAbs) (jnl (u.tmod v).natAbs) (jsg (u.tmod v)) (jnl (u.tdiv v).natAbs) (jn (jsg (u.tdiv v))) gv gy' gq')) := by
  have hsu := jsg_range u
  have hsv := jsg_range v
  have hsp : -1 ≤ jsg u * jsg v ∧ jsg u * jsg v ≤ 1 := by
    rcases (show jsg u = -1 ∨ jsg u = 0 ∨ jsg u = 1 by omega) with h | h | h <;> rw [h] <;> omega
  have hfa := jfa_pos v.natAbs
  refine mj_Ok.of (M := mj_m31) rfl rfl rfl ?_
  iterate 4 refine mj_T.pl rfl rfl rfl rfl ?_
  refine mj_T.imul rfl ?_
  iterate 3 refine mj_T.pl rfl rfl rfl rfl ?_
  refine mj_T.call (ins := .invokevirtual 37) rfl rfl (Nat.le_of_ble_eq_true rfl) (Nat.le_of_ble_eq_true rfl) rfl rfl (jat_Q (jw_setLong (D := D) (v := 0) (n := nq) (s0 := jn sz0) (g0 := g0) (g := gq) ⟨by decide, by decide⟩ (by omega)) (fun r h => by obtain ⟨_, _, _, h⟩ := h; rw [h]; rfl)) (fun v' h' hq' => ?_) (fun i h' hq' => by obtain ⟨_, _, ⟨_, _, _, h1⟩, h2⟩ := hq'; cases h1; cases h2)
  obtain ⟨r0, K', ⟨g1, z1, z2, h1⟩, h2⟩ := hq'
  cases h1
  cases h2
  have emin : min nq (jnl (0 : Int).natAbs) = 0 := by rw [show (0 : Int).natAbs = 0 from rfl, jnl_zero]; omega
  refine mj_T.eq (st2 := []) (h2 := jH6 nd m nq (jnl v.natAbs) (jsg v) (jfa v.natAbs) (jnl u.natAbs) (jsg u) 0 (jn 0) gv gy g1) ?_ rfl rfl rfl (by rw [emin]; rfl)
  iterate 1 refine mj_T.pl rfl rfl rfl rfl ?_
  refine mj_T.if0 rfl ⟨by omega, by omega⟩ (fun hc16 => ?_) (fun hc16 => ?_)
  rotate_left
  · simp only [jc, Bool.not_eq_false', decide_eq_true_eq] at hc16
    have h0 : u = 0 ∨ v = 0 := by
      rcases Int.lt_trichotomy u 0 with h1 | h1 | h1
      · rcases Int.lt_trichotomy v 0 with h2 | h2 | h2
        · rw [jsg_neg h1, jsg_neg h2] at hc16; omega
        · exact Or.inr h2
        · rw [jsg_neg h1, jsg_pos h2] at hc16; omega
      · exact Or.inl h1
      · rcases Int.lt_trichotomy v 0 with h2 | h2 | h2
        · rw [jsg_pos h1, jsg_neg h2] at hc16; omega
        · exact Or.inr h2
        · rw [jsg_pos h1, jsg_pos h2] at hc16; omega
    have e1 : u.tdiv v = 0 := by rcases h0 with h | h <;> rw [h] <;> simp
    have e2 : u.tmod v = u := by rcases h0 with h | h <;> rw [h] <;> simp
    rw [e1, e2]
    refine mj_T.ret rfl rfl rfl ⟨gy, g1, hgy, fun j hj => ?_, ?_⟩
    · rw [show (0 : Int).natAbs = 0 from rfl, jnl_zero] at hj; omega
    · rw [show (0 : Int).natAbs = 0 from rfl, jnl_zero]
      rfl
  · simp only [jc, Bool.not_eq_true', decide_eq_false_iff_not] at hc16
    have hu : u ≠ 0 := fun h => hc16 (by rw [h]; simp [jsg])
    have hv : v ≠ 0 := fun h => hc16 (by rw [h]; simp [jsg])
    have hv0 : 0 < v.natAbs := by omega
    have hVnl := jfa_nl (x := v.natAbs)
    have hnorm := jfa_norm hv0
    have eq1 : u.natAbs * jfa v.natAbs / (v.natAbs * jfa v.natAbs) = (u.tdiv v).natAbs := by rw [Nat.mul_div_mul_right _ _ hfa.1]; exact (Int.natAbs_tdiv u v).symm
    have eq2 : u.natAbs * jfa v.natAbs % (v.natAbs * jfa v.natAbs) = (u.tmod v).natAbs * jfa v.natAbs := by rw [Nat.mul_mod_mul_right, Int.natAbs_tmod]
    iterate 3 refine mj_T.pl rfl rfl rfl rfl ?_
    refine mj_T.call (ins := .invokevirtual 41) rfl rfl (Nat.le_of_ble_eq_true rfl) (Nat.le_of_ble_eq_true rfl) rfl rfl (jat_W (jw_scale (D := D) (x := u.natAbs) (f := jfa v.natAbs) (g0 := jn (jsg u)) (g := gy) (by omega) hfa.1 hfa.2 hX hgy) (fun r h => by obtain ⟨_, _, h⟩ := h; rw [h]; rfl)) (fun v' h' hq' => ?_) (fun i h' hq' => by obtain ⟨_, _, ⟨_, _, h1⟩, h2⟩ := hq'; cases h1; cases h2)
    obtain ⟨r0, K', ⟨g2, hg2, h1⟩, h2⟩ := hq'
    cases h1
    cases h2
    refine mj_T.eq (st2 := []) (h2 := jH6 nd m nq (jnl v.natAbs) (jsg v) (jfa v.natAbs) (jnl (u.natAbs * jfa v.natAbs)) (jsg u) 0 (jn 0) gv g2 g1) ?_ rfl rfl rfl rfl
    have fin : ∀ (gy' gq' : Nat → Int32) (w : Int) (l5 : Option Value), (∀ j, j < jnl (u.natAbs * jfa v.natAbs) → gy' j = jn (jlb (u.natAbs * jfa v.natAbs % (v.natAbs * jfa v.natAbs)) j)) → (∀ j, j < jnl (u.natAbs * jfa v.natAbs / (v.natAbs * jfa v.natAbs)) → gq' j = jn (jlb (u.natAbs * jfa v.natAbs / (v.natAbs * jfa v.natAbs)) j)) →
        mj_T (D + 1) mj_m31 98 [some (.ref 0), some (.ref 2), some (.ref 4), some (.int (jn (jsg u * jsg v))), some (.int (jn w)), l5, none] [] (jH6 nd m nq (jnl v.natAbs) (jsg v) (jfa v.natAbs) (jnl (u.natAbs * jfa v.natAbs)) (jsg u) (jnl (u.natAbs * jfa v.natAbs / (v.natAbs * jfa v.natAbs))) (jn 0) gv gy' gq')
          (fun r => ∃ gy' gq' : Nat → Int32, (∀ j, j < jnl (u.tmod v).natAbs → gy' j = jn (jlb (u.tmod v).natAbs j)) ∧ (∀ j, j < jnl (u.tdiv v).natAbs → gq' j = jn (jlb (u.tdiv v).natAbs j)) ∧ r = (.inl none, jH6 nd m nq (jnl v.natAbs) (jsg v) (jfa v.natAbs) (jnl (u.tmod v).natAbs) (jsg (u.tmod v)) (jnl (u.tdiv v).natAbs) (jn (jsg (u.tdiv v))) gv gy' gq')) := by
      intro gy' gq' w l5 hy hq
      rw [eq1] at hq ⊢
      have k : ∀ z : Int, z = jsg (u.tdiv v) → mj_T (D + 1) mj_m31 111 [some (.ref 0), some (.ref 2), some (.ref 4), some (.int (jn (jsg u * jsg v))), some (.int (jn w)), l5, none] [.int (jn z), .ref 4] (jH6 nd m nq (jnl v.natAbs) (jsg v) (jfa v.natAbs) (jnl (u.natAbs * jfa v.natAbs)) (jsg u) (jnl (u.tdiv v).natAbs) (jn 0) gv gy' gq')
          (fun r => ∃ gy' gq' : Nat → Int32, (∀ j, j < jnl (u.tmod v).natAbs → gy' j = jn (jlb (u.tmod v).natAbs j)) ∧ (∀ j, j < jnl (u.tdiv v).natAbs → gq' j = jn (jlb (u.tdiv v).natAbs j)) ∧ r = (.inl none, jH6 nd m nq (jnl v.natAbs) (jsg v) (jfa v.natAbs) (jnl (u.tmod v).natAbs) (jsg (u.tmod v)) (jnl (u.tdiv v).natAbs) (jn (jsg (u.tdiv v))) gv gy' gq')) := by
        intro z hz
        subst hz
        iterate 4 refine mj_T.pl rfl rfl rfl rfl ?_
        have hXm : jnl (u.natAbs * jfa v.natAbs % (v.natAbs * jfa v.natAbs)) ≤ jnl (u.natAbs * jfa v.natAbs) := jnl_mono (Nat.mod_le _ _)
        refine mj_T.call (ins := .invokevirtual 60) rfl rfl (Nat.le_of_ble_eq_true rfl) (Nat.le_of_ble_eq_true rfl) rfl rfl (jat_W (sz := (jnl (u.tdiv v).natAbs : Nat)) (g0 := jn (jsg (u.tdiv v))) (jw_cutS (D := D) (z := jnl (u.natAbs * jfa v.natAbs)) (x := u.natAbs * jfa v.natAbs % (v.natAbs * jfa v.natAbs)) (f := jfa v.natAbs) (s := jsg u) (g := gy') (by omega) hXm hfa.1 hfa.2 hX hy) (fun r h => by obtain ⟨_, _, h⟩ := h; rw [h]; rfl)) (fun v' h' hq' => ?_) (fun i h' hq' => by obtain ⟨_, _, ⟨_, _, h1⟩, h2⟩ := hq'; cases h1; cases h2)
        obtain ⟨r0, K', ⟨g3, hg3, h1⟩, h2⟩ := hq'
        cases h1
        cases h2
        have ex : u.natAbs * jfa v.natAbs % (v.natAbs * jfa v.natAbs) / jfa v.natAbs = (u.tmod v).natAbs := by rw [eq2, Nat.mul_div_cancel _ hfa.1]
        have es : (if u.natAbs * jfa v.natAbs % (v.natAbs * jfa v.natAbs) / jfa v.natAbs = 0 then 0 else jsg u) = jsg (u.tmod v) := by rw [ex, jsg_tmod, Int.natAbs_tmod]
        refine mj_T.ret rfl rfl rfl ⟨g3, gq', fun j hj => ?_, hq, ?_⟩
        · rw [← ex]
          refine hg3 j ?_
          rw [← ex] at hj
          exact Nat.lt_of_lt_of_le hj (Nat.le_trans (jnl_mono (Nat.div_le_self _ _)) hXm)
        · rw [← es, ← ex]
          rfl
      iterate 3 refine mj_T.pl rfl rfl rfl rfl ?_
      have hq0 : (u.tdiv v).natAbs = u.natAbs / v.natAbs := Int.natAbs_tdiv u v
      refine mj_T.if0 rfl ⟨by omega, by omega⟩ (fun hc103 => ?_) (fun hc103 => ?_)
      · simp only [jc, Bool.not_eq_true', decide_eq_false_iff_not] at hc103
        iterate 1 refine mj_T.pl rfl rfl rfl rfl ?_
        exact k _ (by rw [jsg_tdiv, if_neg (fun h => hc103 (by rw [hq0, h]; exact congrArg Int.ofNat jnl_zero))])
      · simp only [jc, Bool.not_eq_false', decide_eq_true_eq] at hc103
        iterate 2 refine mj_T.pl rfl rfl rfl rfl ?_
        exact k 0 (by rw [jsg_tdiv, if_pos (by rw [← hq0]; exact jnl_eq0.mp (by omega))])
    iterate 4 refine mj_T.pl rfl rfl rfl rfl ?_
    refine mj_T.isub rfl ?_
    refine mj_T.pl rfl rfl rfl rfl ?_
    generalize hXX : u.natAbs * jfa v.natAbs = X at *
    generalize hVV : v.natAbs * jfa v.natAbs = V at *
    rcases Nat.lt_or_ge (jnl X) (jnl v.natAbs) with hs | hs
    · have hlt : X < V := jlt_nl (by omega)
      refine mj_T.pl rfl rfl rfl rfl ?_
      refine mj_T.if0 rfl ⟨by omega, by omega⟩ (fun hc41 => ?_) (fun hc41 => ?_)
      · have t := fin g2 g1 ((jnl X : Int) - (jnl v.natAbs : Nat)) none (fun j hj => by rw [Nat.mod_eq_of_lt hlt]; exact hg2 j hj) (fun j hj => by rw [Nat.div_eq_of_lt hlt, jnl_zero] at hj; omega)
        refine mj_T.eq t rfl rfl rfl ?_
        rw [Nat.div_eq_of_lt hlt, jnl_zero]
        rfl
      · simp only [jc, decide_eq_false_iff_not] at hc41; omega
    · have hVlow : jB ^ (jnl v.natAbs - 1) ≤ V := by
        apply Decidable.byContradiction
        intro h
        have := jnl_of (Nat.not_le.mp h)
        have hn0 : jnl v.natAbs ≠ 0 := fun q => by have := jnl_eq0.mp q; omega
        omega
      have hV0 : 0 < V := Nat.lt_of_lt_of_le (jB_pow _) hVlow
      have hXk : X / jB ^ (jnl X - jnl v.natAbs + 1) < V := by
        refine Nat.lt_of_lt_of_le ?_ hVlow
        rw [Nat.div_lt_iff_lt_mul (jB_pow _), ← Nat.pow_add]
        have hn0 : jnl v.natAbs ≠ 0 := fun q => by have := jnl_eq0.mp q; omega
        rw [show jnl v.natAbs - 1 + (jnl X - jnl v.natAbs + 1) = jnl X by omega]
        exact jnl_le_lt.mp (Nat.le_refl _)
      have hyk : jyk X V (jnl X - jnl v.natAbs + 1) = X := by
        unfold jyk
        rw [Nat.mod_eq_of_lt hXk, Nat.mul_comm]
        exact Nat.div_add_mod _ _
      have hzk : jnl (X / V) ≤ jnl X - jnl v.natAbs + 1 := by
        refine jnl_of ?_
        rw [Nat.div_lt_iff_lt_mul hV0, Nat.mul_comm]
        exact (Nat.div_lt_iff_lt_mul (jB_pow _)).mp hXk
      rw [← hVnl] at hgv hVn fin hnorm hs ⊢
      refine mj_T.eq (jw_split_loop (X := X) (V := V) (S := jnl X) (sv := jsg v) (fac := jfa v.natAbs) (s2 := jsg u) (g0 := jn 0) (sg := jsg u * jsg v) hnd hm hnq hV0 hnorm hVn hX (Nat.le_refl _) (by rw [eq1]; exact hcap) hgv (fun gy' gq' w l5 h1 h2 => fin gy' gq' w l5 h1 h2) (jnl X - jnl V + 1) ((jnl X : Int) - (jnl V : Nat)) g2 g1 none (by omega) (by omega) (fun j hj => by rw [hVnl, hyk]; exact hg2 j hj) (fun j hj1 hj2 => by rw [hVnl] at hj1; omega)) rfl rfl rfl ?_
      rw [show jup (X / V) (jnl X - jnl V + 1) = 0 by unfold jup; rw [hVnl, if_neg (by omega)]]
      rfl
