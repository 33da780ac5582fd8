/-! Of the reference and of numbers (as in p1, part 78z). -/
theorem jsg_tdivd {u g : Int} (hg : 0 < g) (h : g ∣ u) : jsg (u.tdiv g) = jsg u := by
  obtain ⟨k, rfl⟩ := h
  rw [Int.mul_tdiv_cancel_left _ (by omega)]
  rcases Int.lt_trichotomy k 0 with q | q | q
  · rw [jsg_neg q, jsg_neg (Int.mul_neg_of_pos_of_neg hg q)]
  · subst q; rw [Int.mul_zero]
  · rw [jsg_pos q, jsg_pos (Int.mul_pos hg q)]
/-- but for these slots all is as it was -/
def jfr (bg bg' : Nat → Int32) (l : List Nat) : Prop := ∀ s w, s ∉ l → jrs bg s w → jrs bg' s w
theorem jfr_rf {bg bg' : Nat → Int32} {s : Nat} {l : List Nat} (h : jrf bg bg' s) (hl : s ∈ l) : jfr bg bg' l := fun x w hx hw => jrs_keep hw h (fun e => hx (by rw [e]; exact hl))
theorem jfr_tr {bg b1 b2 : Nat → Int32} {l : List Nat} (h1 : jfr bg b1 l) (h2 : jfr b1 b2 l) : jfr bg b2 l := fun x w hx hw => h2 x w hx (h1 x w hx hw)
theorem jfr_up {bg b1 : Nat → Int32} {l l2 : List Nat} (h1 : jfr bg b1 l) (h2 : ∀ x, x ∈ l → x ∈ l2) : jfr bg b1 l2 := fun x w hx hw => h1 x w (fun q => hx (h2 x q)) hw
section JXT
variable {D : Nat} {hp : mj_H} {q0 q1 q2 q3 : Nat} {fs : List Value} {bg : Nat → Int32} {ov db : Nat → Value}
theorem jq_signZ (G : jG hp q0 q1 q2 q3 fs) {i : Nat} {v : Int} (hi : i < 665) (hv : jrs bg i v) : mj_Ok (D + 1) 178 [.ref q0, .int (jn (i : Nat))] (jZ hp q1 q2 q3 bg ov db) (fun r => r = (.inl (some (.int (jn (jsg v)))), jZ hp q1 q2 q3 bg ov db)) :=
  jq_sign (jX_a (jE_c (jG_e G _) _)) G.1.1.2.1 (jX_b (jE_c (jG_e G _) _)) hi hv
theorem jq_commons_loop (G : jG hp q0 q1 q2 q3 fs) {i j : Nat} {u0 v0 : Int} {bg0 : Nat → Int32} {Q : mj_R → Prop}
    (hend : ∀ (bg : Nat → Int32) (ov db : Nat → Value) (g : Int), jrs bg 663 g → g ∣ u0 → g ∣ v0 → jfr bg0 bg [653, 655, 663, 664] → mj_T (D + 4) mj_m193 61 [some (.ref q0), some (.int (jn (653 : Nat))), some (.int (jn (i : Nat))), some (.int (jn (j : Nat)))] [] (jZ hp q1 q2 q3 bg ov db) Q) :
    ∀ (N : Nat) (u v : Int) (bg : Nat → Int32) (ov db : Nat → Value), v.natAbs ≤ N → jrs bg 663 u → jrs bg 664 v → (∀ k : Int, k ∣ u → k ∣ v → k ∣ u0 ∧ k ∣ v0) → jfr bg0 bg [653, 655, 663, 664] → mj_T (D + 4) mj_m193 16 [some (.ref q0), some (.int (jn (653 : Nat))), some (.int (jn (i : Nat))), some (.int (jn (j : Nat)))] [] (jZ hp q1 q2 q3 bg ov db) Q := by
  intro N
  induction N with
  | zero =>
    intro u v bg ov db hN hu hv hk hf
    have hv0 : v = 0 := by omega
    subst hv0
    iterate 2 refine mj_T.pl rfl rfl rfl rfl ?_
    refine mj_T.call (ins := .invokevirtual 68) rfl rfl (Nat.le_of_ble_eq_true rfl) (Nat.le_of_ble_eq_true rfl) (by simp [mj_recv, jX_a (jE_c (jG_e G _) _)]) rfl (jq_signZ (D := D + 3) G (i := 664) (by decide) hv) (fun v' h' hq' => ?_) (fun i h' hq' => by cases hq')
    cases hq'
    refine mj_T.if0 rfl ⟨by decide, by decide⟩ (fun hc => ?_) (fun hc => by cases hc)
    exact hend bg ov db u hu (hk u (Int.dvd_refl u) (Int.dvd_zero u)).1 (hk u (Int.dvd_refl u) (Int.dvd_zero u)).2 hf
  | succ N ih =>
    intro u v bg ov db hN hu hv hk hf
    iterate 2 refine mj_T.pl rfl rfl rfl rfl ?_
    refine mj_T.call (ins := .invokevirtual 68) rfl rfl (Nat.le_of_ble_eq_true rfl) (Nat.le_of_ble_eq_true rfl) (by simp [mj_recv, jX_a (jE_c (jG_e G _) _)]) rfl (jq_signZ (D := D + 3) G (i := 664) (by decide) hv) (fun v' h' hq' => ?_) (fun i h' hq' => by cases hq')
    cases hq'
    have hsg := jsg_range v
    refine mj_T.if0 rfl ⟨by omega, by omega⟩ (fun hc => ?_) (fun hc => ?_)
    · simp only [jc, decide_eq_true_eq] at hc
      have hv0 : v = 0 := by
        rcases Int.lt_trichotomy v 0 with q | q | q
        · rw [jsg_neg q] at hc; omega
        · exact q
        · rw [jsg_pos q] at hc; omega
      subst hv0
      exact hend bg ov db u hu (hk u (Int.dvd_refl u) (Int.dvd_zero u)).1 (hk u (Int.dvd_refl u) (Int.dvd_zero u)).2 hf
    · simp only [jc, decide_eq_false_iff_not] at hc
      have hv0 : v ≠ 0 := fun q => hc (by rw [q]; rfl)
      iterate 5 refine mj_T.pl rfl rfl rfl rfl ?_
      refine mj_T.call (ins := .invokevirtual 101) rfl rfl (Nat.le_of_ble_eq_true rfl) (Nat.le_of_ble_eq_true rfl) (by simp [mj_recv, jX_a (jE_c (jG_e G _) _)]) rfl (jq_cuts (D := D) G (q := 655) (r := 653) (a := 663) (b := 664) (by decide) (by decide) (by decide) (by decide) (by decide) (by decide) (by decide) (by decide) hu hv hv0) (fun v' h' hq' => ?_) (fun i h' hq' => by obtain ⟨_, _, _, _, _, _, h⟩ := hq'; cases h)
      obtain ⟨b1, o1, d1, k1, k2, k3, hq'⟩ := hq'
      cases hq'
      iterate 3 refine mj_T.pl rfl rfl rfl rfl ?_
      refine mj_T.call (ins := .invokevirtual 84) rfl rfl (Nat.le_of_ble_eq_true rfl) (Nat.le_of_ble_eq_true rfl) (by simp [mj_recv, jX_a (jE_c (jG_e G _) _)]) rfl (jq_copies (D := D + 2) (jE_c (jG_e G _) _) (to := 663) (s := 664) (by decide) (by decide) (k3 664 v (by decide) (by decide) hv)) (fun v' h' hq' => ?_) (fun i h' hq' => by obtain ⟨_, _, _, h⟩ := hq'; cases h)
      obtain ⟨b2, c1, c2, hq'⟩ := hq'
      cases hq'
      iterate 3 refine mj_T.pl rfl rfl rfl rfl ?_
      refine mj_T.call (ins := .invokevirtual 84) rfl rfl (Nat.le_of_ble_eq_true rfl) (Nat.le_of_ble_eq_true rfl) (by simp [mj_recv, jX_a (jE_c (jG_e G _) _)]) rfl (jq_copies (D := D + 2) (jE_c (jG_e G _) _) (to := 664) (s := 653) (by decide) (by decide) (jrs_keep k2 c2 (by decide))) (fun v' h' hq' => ?_) (fun i h' hq' => by obtain ⟨_, _, _, h⟩ := hq'; cases h)
      obtain ⟨b3, e1, e2, hq'⟩ := hq'
      cases hq'
      refine mj_T.pl rfl rfl rfl rfl ?_
      have hlt : (u.tmod v).natAbs < v.natAbs := by
        rw [Int.natAbs_tmod]
        exact Nat.mod_lt _ (by omega)
      refine ih v (u.tmod v) b3 o1 d1 (by omega) (jrs_keep c1 e2 (by decide)) e1 (fun k h1 h2 => hk k ?_ h1) (jfr_tr hf (jfr_tr (fun s w hs hw => k3 s w (fun e => hs (by rw [e]; decide)) (fun e => hs (by rw [e]; decide)) hw) (jfr_tr (jfr_rf c2 (by decide)) (jfr_rf e2 (by decide)))))
      have h3 := Int.tmod_add_mul_tdiv u v
      rw [← h3]
      exact Int.dvd_add h2 (Int.dvd_trans h1 (Int.dvd_mul_right _ _))
theorem jrs_abs {bg : Nat → Int32} {s : Nat} {g : Int} (h : jrs bg s g) : jrs (upd bg (s * 702) (jn (if g = 0 then 0 else 1))) s (g.natAbs : Int) := by
  obtain ⟨h1, h2, h3, h4⟩ := h
  refine ⟨?_, ?_, fun j hj => ?_, ?_⟩
  · unfold upd
    rw [if_pos rfl]
    congr 1
    split
    · rename_i q; rw [q]; rfl
    · exact (jsg_pos (by omega)).symm
  · unfold upd
    rw [if_neg (by omega), Int.natAbs_natCast]
    exact h2
  · unfold upd
    rw [Int.natAbs_natCast] at hj ⊢
    rw [if_neg (by omega)]
    exact h3 j hj
  · rw [Int.natAbs_natCast]; exact h4
theorem jq_commons (G : jG hp q0 q1 q2 q3 fs) {i j : Nat} {u v : Int} (hi : i < 665) (hj : j < 665) (hj2 : j ≠ 663) (hu : jrs bg i u) (hv : jrs bg j v) :
    mj_Ok (D + 5) 193 [.ref q0, .int (jn (653 : Nat)), .int (jn (i : Nat)), .int (jn (j : Nat))] (jZ hp q1 q2 q3 bg ov db) (fun z => ∃ (bg' : Nat → Int32) (ov' db' : Nat → Value) (g : Int), 0 ≤ g ∧ g ∣ u ∧ g ∣ v ∧ jrs bg' 653 g ∧ jfr bg bg' [653, 655, 663, 664] ∧ z = (.inl none, jZ hp q1 q2 q3 bg' ov' db')) := by
  refine mj_Ok.of (M := mj_m193) rfl rfl rfl ?_
  iterate 3 refine mj_T.pl rfl rfl rfl rfl ?_
  refine mj_T.call (ins := .invokevirtual 84) rfl rfl (Nat.le_of_ble_eq_true rfl) (Nat.le_of_ble_eq_true rfl) (by simp [mj_recv, jX_a (jE_c (jG_e G _) _)]) rfl (jq_copies (D := D + 2) (jE_c (jG_e G _) _) (to := 663) (s := i) (by decide) hi hu) (fun v' h' hq' => ?_) (fun i h' hq' => by obtain ⟨_, _, _, h⟩ := hq'; cases h)
  obtain ⟨b1, c1, c2, hq'⟩ := hq'
  cases hq'
  iterate 3 refine mj_T.pl rfl rfl rfl rfl ?_
  refine mj_T.call (ins := .invokevirtual 84) rfl rfl (Nat.le_of_ble_eq_true rfl) (Nat.le_of_ble_eq_true rfl) (by simp [mj_recv, jX_a (jE_c (jG_e G _) _)]) rfl (jq_copies (D := D + 2) (jE_c (jG_e G _) _) (to := 664) (s := j) (by decide) hj (jrs_keep hv c2 hj2)) (fun v' h' hq' => ?_) (fun i h' hq' => by obtain ⟨_, _, _, h⟩ := hq'; cases h)
  obtain ⟨b2, e1, e2, hq'⟩ := hq'
  cases hq'
  refine jq_commons_loop (D := D) G (u0 := u) (v0 := v) (bg0 := bg) (fun b3 o3 d3 g k1 k2 k3 k4 => ?_) v.natAbs u v b2 ov db (Nat.le_refl _) (jrs_keep c1 e2 (by decide)) e1 (fun k h1 h2 => ⟨h1, h2⟩) (jfr_tr (jfr_rf c2 (by decide)) (jfr_rf e2 (by decide)))
  iterate 3 refine mj_T.pl rfl rfl rfl rfl ?_
  refine mj_T.call (ins := .invokevirtual 84) rfl rfl (Nat.le_of_ble_eq_true rfl) (Nat.le_of_ble_eq_true rfl) (by simp [mj_recv, jX_a (jE_c (jG_e G _) _)]) rfl (jq_copies (D := D + 2) (jE_c (jG_e G _) _) (to := 653) (s := 663) (by decide) (by decide) k1) (fun v' h' hq' => ?_) (fun i h' hq' => by obtain ⟨_, _, _, h⟩ := hq'; cases h)
  obtain ⟨b4, m1, m2, hq'⟩ := hq'
  cases hq'
  have hsg := jsg_range g
  refine mj_T.pl rfl rfl rfl rfl ?_
  refine mj_T.gb (jE_c (jG_e G _) _) rfl ?_
  iterate 2 refine mj_T.pl rfl rfl rfl rfl ?_
  refine mj_T.imul (a := ((653 : Nat) : Int)) (b := 702) rfl ?_
  iterate 2 refine mj_T.pl rfl rfl rfl rfl ?_
  refine mj_T.call (ins := .invokevirtual 68) rfl rfl (Nat.le_of_ble_eq_true rfl) (Nat.le_of_ble_eq_true rfl) (by simp [mj_recv, jX_a (jE_c (jG_e G _) _)]) rfl (jq_signZ (D := D + 3) G (i := 653) (by decide) m1) (fun v' h' hq' => ?_) (fun i h' hq' => by cases hq')
  cases hq'
  have fin : ∀ y : Int, y = (if g = 0 then 0 else 1) → mj_T (D + 4) mj_m193 91 [some (.ref q0), some (.int (jn (653 : Nat))), some (.int (jn (i : Nat))), some (.int (jn (j : Nat)))] [.int (jn y), .int (jn (((653 : Nat) : Int) * 702)), .ref q1] (jZ hp q1 q2 q3 b4 o3 d3) (fun z => ∃ (bg' : Nat → Int32) (ov' db' : Nat → Value) (g : Int), 0 ≤ g ∧ g ∣ u ∧ g ∣ v ∧ jrs bg' 653 g ∧ jfr bg bg' [653, 655, 663, 664] ∧ z = (.inl none, jZ hp q1 q2 q3 bg' ov' db')) := fun y hy => by
    subst hy
    refine mj_T.xst (jE_c (jG_e G _) _) rfl ⟨by decide, by decide⟩ ⟨by decide, by decide⟩ ?_
    refine mj_T.ret rfl rfl rfl ⟨_, o3, d3, (g.natAbs : Int), by omega, Int.natAbs_dvd.mpr k2, Int.natAbs_dvd.mpr k3, jrs_abs m1, jfr_tr k4 (jfr_tr (jfr_rf m2 (by decide)) (jfr_rf (s := 653) (fun x hx => ?_) (by decide))), rfl⟩
    unfold upd
    rw [if_neg]
    show ¬ x = 653 * 702
    omega
  refine mj_T.if0 rfl ⟨by omega, by omega⟩ (fun hc => ?_) (fun hc => ?_)
  · simp only [jc, Bool.not_eq_true', decide_eq_false_iff_not] at hc
    refine mj_T.pl rfl rfl rfl rfl ?_
    exact fin 1 (by rw [if_neg (fun q => hc (by rw [q]; rfl))])
  · simp only [jc, Bool.not_eq_false', decide_eq_true_eq] at hc
    iterate 2 refine mj_T.pl rfl rfl rfl rfl ?_
    refine fin 0 ?_
    rw [if_pos]
    rcases Int.lt_trichotomy g 0 with q | q | q
    · rw [jsg_neg q] at hc; omega
    · exact q
    · rw [jsg_pos q] at hc; omega
theorem jq_exact (G : jG hp q0 q1 q2 q3 fs) {i j : Nat} {u v : Int} (hi : i < 665) (hj : j < 665) (n1 : i ≠ 663) (n2 : i ≠ 664) (n3 : i ≠ j) (n4 : j ≠ 663) (hu : jrs bg i u) (hv : jrs bg j v) (hv0 : v ≠ 0) :
    mj_Ok (D + 5) 194 [.ref q0, .int (jn (i : Nat)), .int (jn (j : Nat))] (jZ hp q1 q2 q3 bg ov db) (fun z => ∃ (bg' : Nat → Int32) (ov' db' : Nat → Value), jrs bg' i (u.tdiv v) ∧ jfr bg bg' [i, 663, 664] ∧ z = (.inl none, jZ hp q1 q2 q3 bg' ov' db')) := by
  refine mj_Ok.of (M := mj_m194) rfl rfl rfl ?_
  iterate 3 refine mj_T.pl rfl rfl rfl rfl ?_
  refine mj_T.call (ins := .invokevirtual 84) rfl rfl (Nat.le_of_ble_eq_true rfl) (Nat.le_of_ble_eq_true rfl) (by simp [mj_recv, jX_a (jE_c (jG_e G _) _)]) rfl (jq_copies (D := D + 2) (jE_c (jG_e G _) _) (to := 663) (s := i) (by decide) hi hu) (fun v' h' hq' => ?_) (fun i h' hq' => by obtain ⟨_, _, _, h⟩ := hq'; cases h)
  obtain ⟨b1, c1, c2, hq'⟩ := hq'
  cases hq'
  iterate 5 refine mj_T.pl rfl rfl rfl rfl ?_
  refine mj_T.call (ins := .invokevirtual 101) rfl rfl (Nat.le_of_ble_eq_true rfl) (Nat.le_of_ble_eq_true rfl) (by simp [mj_recv, jX_a (jE_c (jG_e G _) _)]) rfl (jq_cuts (D := D) G (q := i) (r := 664) (a := 663) (b := j) hi (by decide) (by decide) hj n2 n1 n3 (by decide) c1 (jrs_keep hv c2 n4) hv0) (fun v' h' hq' => ?_) (fun i h' hq' => by obtain ⟨_, _, _, _, _, _, h⟩ := hq'; cases h)
  obtain ⟨b2, o2, d2, k1, k2, k3, hq'⟩ := hq'
  cases hq'
  exact mj_T.ret rfl rfl rfl ⟨b2, o2, d2, k1, jfr_tr (jfr_rf c2 (by simp)) (fun s w hs hw => k3 s w (fun e => hs (by simp [e])) (fun e => hs (by simp [e])) hw), rfl⟩
theorem jq_tells (G : jG hp q0 q1 q2 q3 fs) {i j : Nat} {u v : Int} (hi : 656 ≤ i ∧ i ≤ 660) (hj : 656 ≤ j ∧ j ≤ 660) (hu : jrs bg i u) (hv : jrs bg j v) (hv0 : v ≠ 0) :
    mj_Ok (D + 6) 221 [.ref q0, .int (jn (i : Nat)), .int (jn (j : Nat))] (jZ hp q1 q2 q3 bg ov db) (fun z => ∃ (bg' : Nat → Int32) (ov' db' : Nat → Value), z = (.inl (some (.int (jn (jsg u)))), jZ hp q1 q2 q3 bg' ov' db')) := by
  refine mj_Ok.of (M := mj_m221) rfl rfl rfl ?_
  iterate 4 refine mj_T.pl rfl rfl rfl rfl ?_
  refine mj_T.call (ins := .invokevirtual 127) rfl rfl (Nat.le_of_ble_eq_true rfl) (Nat.le_of_ble_eq_true rfl) (by simp [mj_recv, jX_a (jE_c (jG_e G _) _)]) rfl (jq_commons (D := D) G (i := i) (j := j) (by omega) (by omega) (by omega) hu hv) (fun v' h' hq' => ?_) (fun i h' hq' => by obtain ⟨_, _, _, _, _, _, _, _, _, h⟩ := hq'; cases h)
  obtain ⟨b1, o1, d1, g, g0, g1, g2, g3, g4, hq'⟩ := hq'
  cases hq'
  have nm : ∀ x, 656 ≤ x ∧ x ≤ 660 → x ∉ [653, 655, 663, 664] := fun x hx q => by
    simp only [List.mem_cons, List.not_mem_nil, or_false] at q
    omega
  have gp : 0 < g := by
    rcases Int.lt_or_eq_of_le g0 with q | q
    · exact q
    · subst q
      exact absurd (Int.zero_dvd.mp g2) hv0
  iterate 3 refine mj_T.pl rfl rfl rfl rfl ?_
  refine mj_T.call (ins := .invokevirtual 84) rfl rfl (Nat.le_of_ble_eq_true rfl) (Nat.le_of_ble_eq_true rfl) (by simp [mj_recv, jX_a (jE_c (jG_e G _) _)]) rfl (jq_copies (D := D + 3) (jE_c (jG_e G _) _) (to := 650) (s := i) (by decide) (by omega) (g4 i u (nm i hi) hu)) (fun v' h' hq' => ?_) (fun i h' hq' => by obtain ⟨_, _, _, h⟩ := hq'; cases h)
  obtain ⟨b2, c1, c2, hq'⟩ := hq'
  cases hq'
  iterate 3 refine mj_T.pl rfl rfl rfl rfl ?_
  refine mj_T.call (ins := .invokevirtual 84) rfl rfl (Nat.le_of_ble_eq_true rfl) (Nat.le_of_ble_eq_true rfl) (by simp [mj_recv, jX_a (jE_c (jG_e G _) _)]) rfl (jq_copies (D := D + 3) (jE_c (jG_e G _) _) (to := 651) (s := j) (by decide) (by omega) (jrs_keep (g4 j v (nm j hj) hv) c2 (by omega))) (fun v' h' hq' => ?_) (fun i h' hq' => by obtain ⟨_, _, _, h⟩ := hq'; cases h)
  obtain ⟨b3, e1, e2, hq'⟩ := hq'
  cases hq'
  have s650 := jrs_keep c1 e2 (by decide)
  have s653 := jrs_keep (jrs_keep g3 c2 (by decide)) e2 (by decide)
  -- from the second division on
  have fin : ∀ (b4 : Nat → Int32) (o4 d4 : Nat → Value) (w : Int), jsg w = jsg u → jrs b4 650 w → jrs b4 651 v → jrs b4 653 g → mj_T (D + 5) mj_m221 45 [some (.ref q0), some (.int (jn (i : Nat))), some (.int (jn (j : Nat)))] [] (jZ hp q1 q2 q3 b4 o4 d4) (fun z => ∃ (bg' : Nat → Int32) (ov' db' : Nat → Value), z = (.inl (some (.int (jn (jsg u)))), jZ hp q1 q2 q3 bg' ov' db')) := fun b4 o4 d4 w hw t1 t2 t3 => by
    iterate 3 refine mj_T.pl rfl rfl rfl rfl ?_
    refine mj_T.call (ins := .invokevirtual 133) rfl rfl (Nat.le_of_ble_eq_true rfl) (Nat.le_of_ble_eq_true rfl) (by simp [mj_recv, jX_a (jE_c (jG_e G _) _)]) rfl (jq_exact (D := D) G (i := 651) (j := 653) (by decide) (by decide) (by decide) (by decide) (by decide) (by decide) t2 t3 (by omega)) (fun v' h' hq' => ?_) (fun i h' hq' => by obtain ⟨_, _, _, _, _, h⟩ := hq'; cases h)
    obtain ⟨b5, o5, d5, k1, k2, hq'⟩ := hq'
    cases hq'
    iterate 2 refine mj_T.pl rfl rfl rfl rfl ?_
    refine mj_T.call (ins := .invokevirtual 68) rfl rfl (Nat.le_of_ble_eq_true rfl) (Nat.le_of_ble_eq_true rfl) (by simp [mj_recv, jX_a (jE_c (jG_e G _) _)]) rfl (jq_signZ (D := D + 4) G (i := 650) (by decide) (k2 650 w (by decide) t1)) (fun v' h' hq' => ?_) (fun i h' hq' => by cases hq')
    cases hq'
    rw [hw]
    exact mj_T.ret rfl rfl rfl ⟨b5, o5, d5, rfl⟩
  have hsg := jsg_range u
  iterate 2 refine mj_T.pl rfl rfl rfl rfl ?_
  refine mj_T.call (ins := .invokevirtual 68) rfl rfl (Nat.le_of_ble_eq_true rfl) (Nat.le_of_ble_eq_true rfl) (by simp [mj_recv, jX_a (jE_c (jG_e G _) _)]) rfl (jq_signZ (D := D + 4) G (i := 650) (by decide) s650) (fun v' h' hq' => ?_) (fun i h' hq' => by cases hq')
  cases hq'
  refine mj_T.if0 rfl ⟨by omega, by omega⟩ (fun hc => ?_) (fun hc => ?_)
  · exact fin b3 o1 d1 u rfl s650 e1 s653
  · iterate 3 refine mj_T.pl rfl rfl rfl rfl ?_
    refine mj_T.call (ins := .invokevirtual 133) rfl rfl (Nat.le_of_ble_eq_true rfl) (Nat.le_of_ble_eq_true rfl) (by simp [mj_recv, jX_a (jE_c (jG_e G _) _)]) rfl (jq_exact (D := D) G (i := 650) (j := 653) (by decide) (by decide) (by decide) (by decide) (by decide) (by decide) s650 s653 (by omega)) (fun v' h' hq' => ?_) (fun i h' hq' => by obtain ⟨_, _, _, _, _, h⟩ := hq'; cases h)
    obtain ⟨b5, o5, d5, k1, k2, hq'⟩ := hq'
    cases hq'
    exact fin b5 o5 d5 (u.tdiv g) (jsg_tdivd gp g1) k1 (k2 651 v (by decide) e1) (k2 653 g (by decide) s653)
end JXT
