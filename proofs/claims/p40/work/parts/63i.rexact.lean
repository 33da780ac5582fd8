/-! The reference's exact division. -/
theorem jdx_next {P B q r q' r' : pz_P} {t : Int} {m : Nat} (h : P = pz_add (pz_mul q B) r) (hq : q' = pz_add q (pz_mono m t)) (hr : r' = pz_add r (pz_sc (-1) (pz_mul (pz_mono m t) B))) : P = pz_add (pz_mul q' B) r' := by
  rw [h, hq, hr, pz_mul_addL]
  funext i
  show pz_mul q B i + r i = (pz_mul q B i + pz_mul (pz_mono m t) B i) + (r i + -1 * pz_mul (pz_mono m t) B i)
  omega
theorem jdx_not {A B Qp R q' : pz_P} {db m d : Nat} (hB : pz_lt B (db + 1)) (hb : B db ≠ 0) (hrel : A = pz_add (pz_mul Qp B) R) (hq : pz_lt q' d) (hQ : pz_lt Qp 13) (hA : A = pz_mul q' B) (hR : pz_lt R (m + db)) : ∃ u, pz_lt u m ∧ R = pz_mul u B := by
  have e : pz_mul (pz_add q' (pz_sc (-1) Qp)) B = R := by
    rw [pz_mul_addL, pz_mul_scL, ← hA, hrel]
    funext i
    show (pz_mul Qp B i + R i) + -1 * pz_mul Qp B i = R i
    omega
  refine ⟨pz_add q' (pz_sc (-1) Qp), ?_, e.symm⟩
  refine pz_deg_of hB hb m (d + 13) _ ((hq.mono (by omega)).add ((hQ.mono (by omega)).sc (-1))) ?_
  rw [e]
  exact hR
section JDXE
variable {D : Nat} {hp h : mj_H} {q0 q1 q2 q3 : Nat} {fs : List Value} {V : Nat → Int} {a b db n dd tq : Nat}
theorem jp_dx2 (G : jG hp q0 q1 q2 q3 fs) {rf : Nat → Int} {t : Int} (hb : b ≤ 49) (hb3 : b ≠ 3) (hdb : db ≤ dd) (hdd : dd < 13) (ht : V 654 = t) (hfp : ∀ e, e ≤ db → jnl (t * V (b * 13 + e)).natAbs ≤ 698) (hfr : ∀ e, e ≤ db → jnl (rf (dd - db + e) + -1 * (t * V (b * 13 + e))).natAbs ≤ 698) {Q : mj_R → Prop}
    (hend : ∀ (W : Nat → Int) (h : mj_H), jS hp q1 q2 q3 W h → (∀ e, e ≤ db → W (3 * 13 + (dd - db + e)) = rf (dd - db + e) + -1 * (t * V (b * 13 + e))) → (∀ s, (s < 3 * 13 + (dd - db) ∨ 3 * 13 + dd < s) → s ≠ 652 → W s = V s) → mj_T (D + 4) mj_m213 146 [some (.ref q0), some (.int (jn (tq : Nat))), some (.int (jn (a : Nat))), some (.int (jn (b : Nat))), some (.int (jn (db : Nat))), some (.int (jn (dd : Nat))), some (.int (jn ((db + 1 : Nat) : Int)))] [] h Q) :
    ∀ (d k : Nat) (W : Nat → Int) (h : mj_H), k + d = db + 1 → jS hp q1 q2 q3 W h → (∀ e, e < k → W (3 * 13 + (dd - db + e)) = rf (dd - db + e) + -1 * (t * V (b * 13 + e))) → (∀ e, k ≤ e → e ≤ db → W (3 * 13 + (dd - db + e)) = rf (dd - db + e)) → (∀ s, (s < 3 * 13 + (dd - db) ∨ 3 * 13 + dd < s) → s ≠ 652 → W s = V s) → mj_T (D + 4) mj_m213 85 [some (.ref q0), some (.int (jn (tq : Nat))), some (.int (jn (a : Nat))), some (.int (jn (b : Nat))), some (.int (jn (db : Nat))), some (.int (jn (dd : Nat))), some (.int (jn (k : Nat)))] [] h Q := by
  intro d
  induction d with
  | zero =>
    intro k W h hk hs h1 h2 hf
    have hk : k = db + 1 := by omega
    subst hk
    iterate 2 refine mj_T.pl rfl rfl rfl rfl ?_
    refine mj_T.icmp (a := ((db + 1 : Nat) : Int)) (b := (db : Int)) rfl ⟨by omega, by omega⟩ ⟨by omega, by omega⟩ (fun hc => ?_) (fun hc => ?_)
    · exact hend W h hs (fun e he => h1 e (by omega)) hf
    · simp only [jc, decide_eq_false_iff_not] at hc
      omega
  | succ d ih =>
    intro k W h hk hs h1 h2 hf
    have er := h2 k (Nat.le_refl _) (by omega)
    have eb : W (b * 13 + k) = V (b * 13 + k) := hf _ (by omega) (by omega)
    have et : W 654 = t := by rw [hf 654 (by omega) (by decide)]; exact ht
    iterate 2 refine mj_T.pl rfl rfl rfl rfl ?_
    refine mj_T.icmp (a := (k : Int)) (b := (db : Int)) rfl ⟨by omega, by omega⟩ ⟨by omega, by omega⟩ (fun hc => ?_) (fun hc => ?_)
    · simp only [jc, decide_eq_true_eq] at hc
      omega
    · iterate 5 refine mj_T.pl rfl rfl rfl rfl ?_
      refine mj_T.call (ins := .invokestatic 104) rfl rfl (Nat.le_of_ble_eq_true rfl) (Nat.le_of_ble_eq_true rfl) rfl rfl (jq_slot (D := D + 3) (p := b) (i := k)) (fun v' h' hq' => ?_) (fun i h' hq' => by cases hq')
      cases hq'
      refine mj_T.call (ins := .invokevirtual 117) rfl rfl (Nat.le_of_ble_eq_true rfl) (Nat.le_of_ble_eq_true rfl) (by simp [mj_recv, jS_a G hs]) rfl (jS_mul (D := D + 2) G (to := 652) (a := 654) (b := b * 13 + k) (by decide) (by decide) (by omega) (by rw [et, eb]; exact hfp k (by omega)) hs) (fun v' g1 hq' => ?_) (fun i h' hq' => by obtain ⟨_, _, h⟩ := hq'; cases h)
      obtain ⟨_, hs1, hq'⟩ := hq'
      cases hq'
      have f1 : ∀ s, s ≠ 652 → jvu W 652 (W 654 * W (b * 13 + k)) s = W s := fun s c => by unfold jvu; rw [if_neg c]
      have f2 : jvu W 652 (W 654 * W (b * 13 + k)) 652 = t * V (b * 13 + k) := by unfold jvu; rw [if_pos rfl, et, eb]
      generalize jvu W 652 (W 654 * W (b * 13 + k)) = W1 at hs1 f1 f2
      refine mj_T.pl rfl rfl rfl rfl ?_
      iterate 3 refine mj_T.pl rfl rfl rfl rfl ?_
      refine mj_T.isub (a := (dd : Int)) (b := (db : Int)) rfl ?_
      refine mj_T.pl rfl rfl rfl rfl ?_
      refine mj_T.iadd (a := (dd : Int) - (db : Int)) (b := (k : Int)) rfl ?_
      rw [show (dd : Int) - (db : Int) + (k : Int) = ((dd - db + k : Nat) : Int) by omega]
      refine mj_T.call (ins := .invokestatic 104) rfl rfl (Nat.le_of_ble_eq_true rfl) (Nat.le_of_ble_eq_true rfl) rfl rfl (jq_slot (D := D + 3) (p := 3) (i := dd - db + k)) (fun v' h' hq' => ?_) (fun i h' hq' => by cases hq')
      cases hq'
      iterate 3 refine mj_T.pl rfl rfl rfl rfl ?_
      refine mj_T.isub (a := (dd : Int)) (b := (db : Int)) rfl ?_
      refine mj_T.pl rfl rfl rfl rfl ?_
      refine mj_T.iadd (a := (dd : Int) - (db : Int)) (b := (k : Int)) rfl ?_
      rw [show (dd : Int) - (db : Int) + (k : Int) = ((dd - db + k : Nat) : Int) by omega]
      refine mj_T.call (ins := .invokestatic 104) rfl rfl (Nat.le_of_ble_eq_true rfl) (Nat.le_of_ble_eq_true rfl) rfl rfl (jq_slot (D := D + 3) (p := 3) (i := dd - db + k)) (fun v' h' hq' => ?_) (fun i h' hq' => by cases hq')
      cases hq'
      iterate 2 refine mj_T.pl rfl rfl rfl rfl ?_
      refine mj_T.call (ins := .invokevirtual 107) rfl rfl (Nat.le_of_ble_eq_true rfl) (Nat.le_of_ble_eq_true rfl) (by simp [mj_recv, jS_a G hs1]) rfl (jS_adds (D := D) G (to := 3 * 13 + (dd - db + k)) (a := 3 * 13 + (dd - db + k)) (b := 652) (f := -1) (by omega) (by omega) (by decide) (Or.inr rfl) (by rw [f1 _ (by omega), er, f2]; exact hfr k (by omega)) hs1) (fun v' g2 hq' => ?_) (fun i h' hq' => by obtain ⟨_, _, h⟩ := hq'; cases h)
      obtain ⟨_, hs2, hq'⟩ := hq'
      cases hq'
      have f3 : ∀ s, s ≠ 3 * 13 + (dd - db + k) → jvu W1 (3 * 13 + (dd - db + k)) (W1 (3 * 13 + (dd - db + k)) + -1 * W1 652) s = W1 s := fun s c => by unfold jvu; rw [if_neg c]
      have f4 : jvu W1 (3 * 13 + (dd - db + k)) (W1 (3 * 13 + (dd - db + k)) + -1 * W1 652) (3 * 13 + (dd - db + k)) = rf (dd - db + k) + -1 * (t * V (b * 13 + k)) := by unfold jvu; rw [if_pos rfl, f1 _ (by omega), er, f2]
      generalize jvu W1 (3 * 13 + (dd - db + k)) (W1 (3 * 13 + (dd - db + k)) + -1 * W1 652) = W2 at hs2 f3 f4
      refine mj_T.iinc (a := k) rfl rfl ?_
      refine mj_T.pl rfl rfl rfl rfl ?_
      refine ih (k + 1) W2 g2 (by omega) hs2 (fun e he => ?_) (fun e a1 a2 => ?_) (fun s c c6 => ?_)
      · by_cases c : e = k
        · rw [c]; exact f4
        · rw [f3 _ (by omega), f1 _ (by omega)]
          exact h1 e (by omega)
      · rw [f3 _ (by omega), f1 _ (by omega)]
        exact h2 e (by omega) a2
      · rw [f3 _ (by omega), f1 _ c6]
        exact hf s c c6
theorem jp_dx (G : jG hp q0 q1 q2 q3 fs) {lc : Int} {al be : Nat} (hb : b ≤ 49) (hb3 : b ≠ 3) (htq : tq ≤ 49) (ht3 : tq ≠ 3) (htb : tq ≠ b) (hdb : jdg V b 13 = db + 1) (hlc : V (b * 13 + db) = lc) (hn : db + n ≤ 13) (hbe : ∀ e, e < 13 → (V (b * 13 + e)).natAbs ≤ be) (hbe1 : 1 ≤ be) (hfit : al * (2 * be) ^ n < jB ^ 698) {Q : mj_R → Prop}
    (hyes : ∀ (W : Nat → Int) (h : mj_H), jS hp q1 q2 q3 W h → (∀ s, (s < tq * 13 ∨ tq * 13 + 13 ≤ s) → (s < 39 ∨ 52 ≤ s) → s ≠ 652 → s ≠ 653 → s ≠ 654 → W s = V s) → jpo V a = pz_mul (jpo W tq) (jpo V b) → Q (.inl (some (.int (jn 1))), h))
    (hno : ∀ (W : Nat → Int) (h : mj_H), jS hp q1 q2 q3 W h → (∀ s, (s < tq * 13 ∨ tq * 13 + 13 ≤ s) → (s < 39 ∨ 52 ≤ s) → s ≠ 652 → s ≠ 653 → s ≠ 654 → W s = V s) → (∀ (q' : pz_P) (d : Nat), pz_lt q' d → jpo V a ≠ pz_mul q' (jpo V b)) → Q (.inl (some (.int (jn 0))), h)) :
    ∀ (m : Nat) (W : Nat → Int) (h : mj_H) (e6 : Option Value), m ≤ n → jS hp q1 q2 q3 W h → (∀ s, (s < tq * 13 ∨ tq * 13 + 13 ≤ s) → (s < 39 ∨ 52 ≤ s) → s ≠ 652 → s ≠ 653 → s ≠ 654 → W s = V s) → jpo V a = pz_add (pz_mul (jpo W tq) (jpo V b)) (jpo W 3) → (∀ e, m + db ≤ e → e < 13 → W (3 * 13 + e) = 0) → (∀ e, e < m → W (tq * 13 + e) = 0) → (∀ e, e < 13 → (W (tq * 13 + e)).natAbs ≤ al * (2 * be) ^ (n - m) ∧ (W (3 * 13 + e)).natAbs ≤ al * (2 * be) ^ (n - m)) →
      mj_T (D + 5) mj_m213 25 [some (.ref q0), some (.int (jn (tq : Nat))), some (.int (jn (a : Nat))), some (.int (jn (b : Nat))), some (.int (jn (db : Nat))), some (.int (jn (((db + m : Nat) : Int) - 1))), e6] [] h Q := by
  have hdb13 : db < 13 := by have := jdg_le V b 13; omega
  have hlc0 : lc ≠ 0 := by
    have h0 := jdg_ne V b 13 (by omega)
    rw [hdb, Nat.add_sub_cancel, hlc] at h0
    exact h0
  have hB0 : ∀ e, db < e → jpo V b e = 0 := fun e he => by
    unfold jpo
    split
    · exact jdg_zero V b 13 e (by omega) (by omega)
    · rfl
  have hBl : pz_lt (jpo V b) (db + 1) := fun i hi => hB0 i (by omega)
  have hBn : jpo V b db ≠ 0 := by rw [jpo_at hdb13, hlc]; exact hlc0
  have hlcb : lc.natAbs ≤ be := by rw [← hlc]; exact hbe db hdb13
  intro m
  induction m with
  | zero =>
    intro W h e6 hm hs hf hrel hz htz hbd
    have hRl : pz_lt (jpo W 3) (0 + db) := fun i hi => by
      unfold jpo
      split
      · rename_i c
        exact hz i hi c
      · rfl
    iterate 2 refine mj_T.pl rfl rfl rfl rfl ?_
    refine mj_T.icmp (a := ((db + 0 : Nat) : Int) - 1) (b := (db : Int)) rfl ⟨by omega, by omega⟩ ⟨by omega, by omega⟩ (fun hc => ?_) (fun hc => ?_)
    · iterate 2 refine mj_T.pl rfl rfl rfl rfl ?_
      refine mj_T.call (ins := .invokevirtual 114) rfl rfl (Nat.le_of_ble_eq_true rfl) (Nat.le_of_ble_eq_true rfl) (by simp [mj_recv, jS_a G hs]) rfl (jp_degreeOf (D := D + 3) G (p := 3) (by omega) hs) (fun v' h' hq' => ?_) (fun i h' hq' => by cases hq')
      cases hq'
      have hw := jdg_le W 3 13
      refine mj_T.if0 (a := (jdg W 3 13 : Int) - 1) rfl ⟨by omega, by omega⟩ (fun hc2 => ?_) (fun hc2 => ?_)
      · simp only [jc, decide_eq_true_eq] at hc2
        refine mj_T.pl rfl rfl rfl rfl ?_
        refine mj_T.ret rfl rfl rfl (hno W h hs hf (fun q' d hq hA => ?_))
        obtain ⟨u, hu, e⟩ := jdx_not hBl hBn hrel hq (jpo_lt W tq) hA hRl
        have e0 : jpo W 3 = pz_0 := by rw [e, pz_lt.zero u hu, pz_mul_0L]
        have hx := jdg_ne W 3 13 (by omega)
        apply hx
        rw [← jpo_at (V := W) (p := 3) (show jdg W 3 13 - 1 < 13 by omega), e0]
        rfl
      · simp only [jc, decide_eq_false_iff_not] at hc2
        iterate 2 refine mj_T.pl rfl rfl rfl rfl ?_
        refine mj_T.ret rfl rfl rfl (hyes W h hs hf ?_)
        rw [hrel]
        funext i
        show pz_mul (jpo W tq) (jpo V b) i + jpo W 3 i = pz_mul (jpo W tq) (jpo V b) i
        have : jpo W 3 i = 0 := by
          unfold jpo
          split
          · rename_i c
            exact jdg_zero W 3 13 i (by omega) c
          · rfl
        omega
    · simp only [jc, decide_eq_false_iff_not] at hc
      omega
  | succ m ih =>
    intro W h e6 hm hs hf hrel hz htz hbd
    generalize hMM : al * (2 * be) ^ (n - (m + 1)) = M at hbd
    have hstep : al * (2 * be) ^ (n - m) = 2 * (M * be) := by
      rw [show n - m = (n - (m + 1)) + 1 by omega, Nat.pow_succ, ← Nat.mul_assoc, hMM, Nat.mul_left_comm]
    have hM2 : 2 * (M * be) < jB ^ 698 := by
      rw [← hstep]
      refine Nat.lt_of_le_of_lt (Nat.mul_le_mul_left al (Nat.pow_le_pow_right (by omega) (by omega))) hfit
    have hmul : ∀ x y : Int, x.natAbs ≤ M → y.natAbs ≤ be → (x * y).natAbs ≤ M * be := fun x y hx hy => by
      rw [Int.natAbs_mul]
      exact Nat.mul_le_mul hx hy
    have hMb : M ≤ M * be := by
      have := Nat.mul_le_mul_left M hbe1
      omega
    rw [show ((db + (m + 1) : Nat) : Int) - 1 = ((db + m : Nat) : Int) by omega]
    iterate 2 refine mj_T.pl rfl rfl rfl rfl ?_
    refine mj_T.icmp (a := ((db + m : Nat) : Int)) (b := (db : Int)) rfl ⟨by omega, by omega⟩ ⟨by omega, by omega⟩ (fun hc => ?_) (fun hc => ?_)
    · simp only [jc, decide_eq_true_eq] at hc
      omega
    have elc : W (b * 13 + db) = lc := by rw [hf _ (by omega) (by omega) (by omega) (by omega) (by omega)]; exact hlc
    iterate 5 refine mj_T.pl rfl rfl rfl rfl ?_
    refine mj_T.call (ins := .invokestatic 104) rfl rfl (Nat.le_of_ble_eq_true rfl) (Nat.le_of_ble_eq_true rfl) rfl rfl (jq_slot (D := D + 4) (p := 3) (i := db + m)) (fun v' h' hq' => ?_) (fun i h' hq' => by cases hq')
    cases hq'
    iterate 2 refine mj_T.pl rfl rfl rfl rfl ?_
    refine mj_T.call (ins := .invokestatic 104) rfl rfl (Nat.le_of_ble_eq_true rfl) (Nat.le_of_ble_eq_true rfl) rfl rfl (jq_slot (D := D + 4) (p := b) (i := db)) (fun v' h' hq' => ?_) (fun i h' hq' => by cases hq')
    cases hq'
    refine mj_T.call (ins := .invokevirtual 101) rfl rfl (Nat.le_of_ble_eq_true rfl) (Nat.le_of_ble_eq_true rfl) (by simp [mj_recv, jS_a G hs]) rfl (jS_cuts (D := D + 1) G (q := 654) (r := 653) (a := 3 * 13 + (db + m)) (b := b * 13 + db) (by decide) (by decide) (by omega) (by omega) (by decide) (by omega) (by omega) (by omega) (by rw [elc]; exact hlc0) hs) (fun v' g1 hq' => ?_) (fun i h' hq' => by obtain ⟨_, _, h⟩ := hq'; cases h)
    obtain ⟨_, hs1, hq'⟩ := hq'
    cases hq'
    generalize hR : W (3 * 13 + (db + m)) = R at hs1
    rw [elc] at hs1
    have f1 : ∀ s, s ≠ 654 → s ≠ 653 → jvu (jvu W 654 (R.tdiv lc)) 653 (R.tmod lc) s = W s := fun s c c2 => by unfold jvu; rw [if_neg c2, if_neg c]
    have f2 : jvu (jvu W 654 (R.tdiv lc)) 653 (R.tmod lc) 654 = R.tdiv lc := by unfold jvu; rw [if_neg (by decide), if_pos rfl]
    have f2b : jvu (jvu W 654 (R.tdiv lc)) 653 (R.tmod lc) 653 = R.tmod lc := by unfold jvu; rw [if_pos rfl]
    generalize jvu (jvu W 654 (R.tdiv lc)) 653 (R.tmod lc) = W1 at hs1 f1 f2 f2b
    iterate 2 refine mj_T.pl rfl rfl rfl rfl ?_
    refine mj_T.call (ins := .invokevirtual 68) rfl rfl (Nat.le_of_ble_eq_true rfl) (Nat.le_of_ble_eq_true rfl) (by simp [mj_recv, jS_a G hs1]) rfl (jS_sign (D := D + 4) G (s := 653) (by decide) hs1) (fun v' h' hq' => ?_) (fun i h' hq' => by cases hq')
    cases hq'
    have hsr := jsg_range (W1 653)
    refine mj_T.if0 rfl ⟨by omega, by omega⟩ (fun hc2 => ?_) (fun hc2 => ?_)
    case _ =>
      skip
      simp only [jc, decide_eq_true_eq] at hc2
      have hr0 : R.tmod lc = 0 := by rw [← f2b]; exact jsg_eq0 hc2
      have hRt : R = lc * R.tdiv lc := by have := Int.mul_tdiv_add_tmod R lc; omega
      generalize R.tdiv lc = t at f2 hRt
      have htb2 : t.natAbs ≤ M := by
        have h1 := (hbd (db + m) (by omega)).2
        rw [hR, hRt, Int.natAbs_mul] at h1
        have h2 : 1 ≤ lc.natAbs := by omega
        have h3 := Nat.mul_le_mul_right t.natAbs h2
        omega
      iterate 4 refine mj_T.pl rfl rfl rfl rfl ?_
      refine mj_T.isub (a := ((db + m : Nat) : Int)) (b := (db : Int)) rfl ?_
      rw [show ((db + m : Nat) : Int) - (db : Int) = (m : Int) by omega]
      refine mj_T.call (ins := .invokestatic 104) rfl rfl (Nat.le_of_ble_eq_true rfl) (Nat.le_of_ble_eq_true rfl) rfl rfl (jq_slot (D := D + 4) (p := tq) (i := m)) (fun v' h' hq' => ?_) (fun i h' hq' => by cases hq')
      cases hq'
      refine mj_T.pl rfl rfl rfl rfl ?_
      refine mj_T.call (ins := .invokevirtual 84) rfl rfl (Nat.le_of_ble_eq_true rfl) (Nat.le_of_ble_eq_true rfl) (by simp [mj_recv, jS_a G hs1]) rfl (jS_copies (D := D + 3) G (to := tq * 13 + m) (s := 654) (by omega) (by decide) hs1) (fun v' g3 hq' => ?_) (fun i h' hq' => by obtain ⟨_, _, h⟩ := hq'; cases h)
      obtain ⟨_, hs3, hq'⟩ := hq'
      cases hq'
      rw [f2] at hs3
      have f3 : ∀ s, s ≠ tq * 13 + m → jvu W1 (tq * 13 + m) t s = W1 s := fun s c => by unfold jvu; rw [if_neg c]
      have f4 : jvu W1 (tq * 13 + m) t (tq * 13 + m) = t := by unfold jvu; rw [if_pos rfl]
      generalize jvu W1 (tq * 13 + m) t = W3 at hs3 f3 f4
      have w3b : ∀ e, e < 13 → W3 (b * 13 + e) = V (b * 13 + e) := fun e he => by rw [f3 _ (by omega), f1 _ (by omega) (by omega)]; exact hf _ (by omega) (by omega) (by omega) (by omega) (by omega)
      have w3r : ∀ e, e < 13 → W3 (3 * 13 + e) = W (3 * 13 + e) := fun e he => by rw [f3 _ (by omega), f1 _ (by omega) (by omega)]
      have hr4 : ∀ e x, e < 13 → x < 13 → (W (3 * 13 + e) + -1 * (t * V (b * 13 + x))).natAbs ≤ 2 * (M * be) := fun e x he hx => by
        have h1 := (hbd e he).2
        have h2 := hmul _ _ htb2 (hbe x hx)
        omega
      iterate 2 refine mj_T.pl rfl rfl rfl rfl ?_
      refine jp_dx2 (D := D + 1) (V := W3) (a := a) (b := b) (db := db) (dd := db + m) (tq := tq) G (rf := fun e => W (3 * 13 + e)) (t := t) hb hb3 (by omega) (by omega) (by rw [f3 _ (by omega)]; exact f2) (fun e he => by rw [w3b e (by omega)]; exact jnl_of_lt (hmul _ _ htb2 (hbe e (by omega))) (by omega)) (fun e he => by rw [w3b e (by omega)]; exact jnl_of_lt (hr4 _ e (by omega) (by omega)) hM2) (fun W4 h4 hs4 k3 k4 => ?_) (db + 1) 0 W3 g3 (by omega) hs3 (fun e he => by omega) (fun e _ he => w3r _ (by omega)) (fun s _ _ => rfl)
      refine mj_T.iinc (a := ((db + m : Nat) : Int)) rfl rfl ?_
      rw [show ((db + m : Nat) : Int) + -1 = ((db + m : Nat) : Int) - 1 by omega]
      refine mj_T.pl rfl rfl rfl rfl ?_
      have w4q : ∀ e, e < 13 → W4 (tq * 13 + e) = if e = m then t else W (tq * 13 + e) := fun e he => by
        rw [k4 _ (by omega) (by omega)]
        by_cases c : e = m
        · rw [c, f4, if_pos rfl]
        · rw [f3 _ (by omega), f1 _ (by omega) (by omega), if_neg c]
      have hq : jpo W4 tq = pz_add (jpo W tq) (pz_mono m t) := funext fun e => by
        show jpo W4 tq e = jpo W tq e + (if e = m then t else 0)
        by_cases he : e < 13
        · rw [jpo_at he, jpo_at he, w4q e he]
          by_cases c : e = m
          · rw [if_pos c, if_pos c, c, htz m (by omega)]
            omega
          · rw [if_neg c, if_neg c]
            omega
        · have e0 : ∀ X : Nat → Int, jpo X tq e = 0 := fun X => by unfold jpo; rw [if_neg he]
          rw [e0, e0, if_neg (by omega)]
          rfl
      have hr : jpo W4 3 = pz_add (jpo W 3) (pz_sc (-1) (pz_mul (pz_mono m t) (jpo V b))) := funext fun e => by
        show jpo W4 3 e = jpo W 3 e + -1 * pz_c e (pz_mono m t) (jpo V b)
        rw [pz_mono_mul]
        by_cases he : e < 13
        · rw [jpo_at he, jpo_at he]
          by_cases c : m ≤ e
          · rw [if_pos c]
            by_cases c2 : e ≤ db + m
            · have h5 := k3 (e - m) (by omega)
              rw [show db + m - db + (e - m) = e by omega, w3b _ (by omega)] at h5
              rw [h5, jpo_at (show e - m < 13 by omega)]
            · rw [k4 _ (by omega) (by omega), w3r e he, hB0 (e - m) (by omega), Int.mul_zero]
              omega
          · rw [if_neg c, k4 _ (by omega) (by omega), w3r e he]
            omega
        · have e0 : ∀ X : Nat → Int, jpo X 3 e = 0 := fun X => by unfold jpo; rw [if_neg he]
          rw [e0, e0, if_pos (by omega), hB0 (e - m) (by omega), Int.mul_zero]
          rfl
      refine ih W4 h4 _ (by omega) hs4 (fun s c c2 c3 c4 c5 => ?_) (jdx_next hrel hq hr) (fun e a1 a2 => ?_) (fun e he => ?_) (fun e he => ?_)
      · rw [k4 s (by omega) c3, f3 s (by omega), f1 s c5 c4]
        exact hf s c c2 c3 c4 c5
      · by_cases c : e = db + m
        · have h5 := k3 db (Nat.le_refl _)
          rw [show db + m - db + db = db + m by omega, w3b _ hdb13, hlc, hR, Int.mul_comm t] at h5
          rw [c, h5]
          omega
        · rw [k4 _ (by omega) (by omega), w3r e a2, hz e (by omega) a2]
      · rw [w4q e (by omega), if_neg (by omega)]
        exact htz e (by omega)
      · rw [hstep]
        refine ⟨?_, ?_⟩
        · rw [w4q e he]
          have := (hbd e he).1
          split <;> omega
        · by_cases c : m ≤ e ∧ e ≤ db + m
          · have h5 := k3 (e - m) (by omega)
            rw [show db + m - db + (e - m) = e by omega, w3b _ (by omega)] at h5
            rw [h5]
            exact hr4 e (e - m) he (by omega)
          · rw [k4 _ (by omega) (by omega), w3r e he]
            have := (hbd e he).2
            omega
    case _ =>
      skip
      simp only [jc, decide_eq_false_iff_not] at hc2
      refine mj_T.pl rfl rfl rfl rfl ?_
      refine mj_T.ret rfl rfl rfl (hno W1 g1 hs1 (fun s c c2 c3 c4 c5 => by rw [f1 s c5 c4]; exact hf s c c2 c3 c4 c5) (fun q' d hq hA => ?_))
      have hRl : pz_lt (jpo W 3) (m + 1 + db) := fun i hi => by
        unfold jpo
        split
        · rename_i c
          exact hz i hi c
        · rfl
      obtain ⟨u, hu, e⟩ := jdx_not hBl hBn hrel hq (jpo_lt W tq) hA hRl
      have h1 := pz_c_lead m u (jpo V b) db hu hBl
      have h2 : jpo W 3 (m + db) = pz_c (m + db) u (jpo V b) := by rw [e]; rfl
      rw [jpo_at (show m + db < 13 by omega), h1, jpo_at hdb13, hlc, Nat.add_comm m db, hR] at h2
      apply hc2
      rw [f2b, h2, Int.mul_tmod_left]
      rfl
end JDXE
