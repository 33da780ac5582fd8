/-! The reference's division with remainder, whole. -/
theorem jdg_congr {V W : Nat → Int} {p q : Nat} : ∀ k, (∀ e, e < k → W (q * 13 + e) = V (p * 13 + e)) → jdg W q k = jdg V p k
  | 0, _ => rfl
  | k + 1, h => by
    unfold jdg
    rw [h k (by omega), jdg_congr k (fun e he => h e (by omega))]
section JDX
variable {D : Nat} {hp h : mj_H} {q0 q1 q2 q3 : Nat} {fs : List Value} {V : Nat → Int} {a b db : Nat}
theorem jp_dividesPoly (G : jG hp q0 q1 q2 q3 fs) {lc : Int} {al be : Nat} (ha : a ≤ 49) (ha2 : a ≠ 2) (ha3 : a ≠ 3) (hb : b ≤ 49) (hb2 : b ≠ 2) (hb3 : b ≠ 3) (hdb : jdg V b 13 = db + 1) (hlc : V (b * 13 + db) = lc) (hal : ∀ e, e < 13 → (V (a * 13 + e)).natAbs ≤ al) (hbe : ∀ e, e < 13 → (V (b * 13 + e)).natAbs ≤ be) (hbe1 : 1 ≤ be) (hfit : al * (2 * be) ^ (jdg V a 13 - db) < jB ^ 698) (hs : jS hp q1 q2 q3 V h) :
    mj_Ok (D + 5) 211 [.ref q0, .int (jn ((2 : Nat) : Int)), .int (jn ((3 : Nat) : Int)), .int (jn (a : Nat)), .int (jn (b : Nat))] h (fun r => ∃ (W : Nat → Int) (h' : mj_H), jS hp q1 q2 q3 W h' ∧ (∀ s, (s < 26 ∨ 52 ≤ s) → s ≠ 652 → s ≠ 654 → W s = V s) ∧ pz_sc (lc ^ (jdg V a 13 - db)) (jpo V a) = pz_add (pz_mul (jpo W 2) (jpo V b)) (jpo W 3) ∧ (∀ e, db ≤ e → e < 13 → W (3 * 13 + e) = 0) ∧ (∀ e, e < 13 → (W (2 * 13 + e)).natAbs ≤ al * (2 * be) ^ (jdg V a 13 - db) ∧ (W (3 * 13 + e)).natAbs ≤ al * (2 * be) ^ (jdg V a 13 - db)) ∧ r = (.inl (some (.int (jn ((jdg V a 13 - db : Nat) : Int)))), h')) := by
  have hda := jdg_le V a 13
  have hdbl := jdg_le V b 13
  refine mj_Ok.of (M := mj_m211) rfl rfl rfl ?_
  iterate 2 refine mj_T.pl rfl rfl rfl rfl ?_
  refine mj_T.call (ins := .invokevirtual 114) rfl rfl (Nat.le_of_ble_eq_true rfl) (Nat.le_of_ble_eq_true rfl) (by simp [mj_recv, jS_a G hs]) rfl (jp_degreeOf (D := D + 2) G (p := b) (by omega) hs) (fun v' h' hq' => ?_) (fun i h' hq' => by cases hq')
  cases hq'
  rw [hdb, show ((db + 1 : Nat) : Int) - 1 = (db : Int) by omega]
  iterate 3 refine mj_T.pl rfl rfl rfl rfl ?_
  refine mj_T.call (ins := .invokevirtual 114) rfl rfl (Nat.le_of_ble_eq_true rfl) (Nat.le_of_ble_eq_true rfl) (by simp [mj_recv, jS_a G hs]) rfl (jp_degreeOf (D := D + 2) G (p := a) (by omega) hs) (fun v' h' hq' => ?_) (fun i h' hq' => by cases hq')
  cases hq'
  refine mj_T.pl rfl rfl rfl rfl ?_
  refine mj_T.isub (a := (jdg V a 13 : Int) - 1) (b := (db : Int)) rfl ?_
  refine mj_T.pl rfl rfl rfl rfl ?_
  refine mj_T.iadd (a := (jdg V a 13 : Int) - 1 - (db : Int)) (b := 1) rfl ?_
  refine mj_T.pl rfl rfl rfl rfl ?_
  refine mj_T.imax (a := (jdg V a 13 : Int) - 1 - (db : Int) + 1) (b := 0) rfl rfl (Nat.le_of_ble_eq_true rfl) ⟨by omega, by omega⟩ ⟨by decide, by decide⟩ ?_
  rw [show max ((jdg V a 13 : Int) - 1 - (db : Int) + 1) 0 = ((jdg V a 13 - db : Nat) : Int) by omega]
  iterate 3 refine mj_T.pl rfl rfl rfl rfl ?_
  refine mj_T.call (ins := .invokevirtual 110) rfl rfl (Nat.le_of_ble_eq_true rfl) (Nat.le_of_ble_eq_true rfl) (by simp [mj_recv, jS_a G hs]) rfl (jp_empties (D := D + 2) G (p := 2) (by decide) hs) (fun v' g1 hq' => ?_) (fun i h' hq' => by obtain ⟨_, _, h⟩ := hq'; cases h)
  obtain ⟨_, hs1, hq'⟩ := hq'
  cases hq'
  iterate 2 refine mj_T.pl rfl rfl rfl rfl ?_
  refine mj_T.icmp (a := ((3 : Nat) : Int)) (b := (a : Int)) rfl ⟨by decide, by decide⟩ ⟨by omega, by omega⟩ (fun hc => ?_) (fun hc => ?_)
  · simp only [jc, decide_eq_true_eq] at hc
    omega
  iterate 3 refine mj_T.pl rfl rfl rfl rfl ?_
  refine mj_T.call (ins := .invokevirtual 124) rfl rfl (Nat.le_of_ble_eq_true rfl) (Nat.le_of_ble_eq_true rfl) (by simp [mj_recv, jS_a G hs1]) rfl (jp_copiesPoly (D := D + 1) G (p := 3) (q := a) (by decide) (by omega) (by omega) hs1) (fun v' g2 hq' => ?_) (fun i h' hq' => by obtain ⟨_, _, h⟩ := hq'; cases h)
  obtain ⟨_, hs2, hq'⟩ := hq'
  cases hq'
  have e2 : ∀ e, e < 13 → jfl (jfl V 2 (fun _ => 0) 13) 3 (fun e => jfl V 2 (fun _ => 0) 13 (a * 13 + e)) 13 (2 * 13 + e) = 0 := fun e he => by
    rw [jfl_off _ 3 _ (by omega), jfl_at _ 2 _ he]
  have e3 : ∀ e, e < 13 → jfl (jfl V 2 (fun _ => 0) 13) 3 (fun e => jfl V 2 (fun _ => 0) 13 (a * 13 + e)) 13 (3 * 13 + e) = V (a * 13 + e) := fun e he => by
    rw [jfl_at _ 3 _ he, jfl_off _ 2 _ (by omega)]
  have e4 : ∀ s, (s < 26 ∨ 52 ≤ s) → jfl (jfl V 2 (fun _ => 0) 13) 3 (fun e => jfl V 2 (fun _ => 0) 13 (a * 13 + e)) 13 s = V s := fun s hc => by
    rw [jfl_off _ 3 _ (by omega), jfl_off _ 2 _ (by omega)]
  generalize jfl (jfl V 2 (fun _ => 0) 13) 3 (fun e => jfl V 2 (fun _ => 0) 13 (a * 13 + e)) 13 = W at hs2 e2 e3 e4
  have hd3 : jdg W 3 13 = jdg V a 13 := jdg_congr 13 e3
  iterate 4 refine mj_T.pl rfl rfl rfl rfl ?_
  refine mj_T.call (ins := .invokevirtual 114) rfl rfl (Nat.le_of_ble_eq_true rfl) (Nat.le_of_ble_eq_true rfl) (by simp [mj_recv, jS_a G hs2]) rfl (jp_degreeOf (D := D + 2) G (p := 3) (by omega) hs2) (fun v' h' hq' => ?_) (fun i h' hq' => by cases hq')
  cases hq'
  rw [hd3]
  refine mj_T.pl rfl rfl rfl rfl ?_
  have hpo : jpo W 3 = jpo V a := funext fun e => by
    unfold jpo
    split
    · rename_i c
      exact e3 e c
    · rfl
  have hpo2 : jpo W 2 = pz_0 := funext fun e => by
    unfold jpo
    split
    · rename_i c
      exact e2 e c
    · rfl
  have hrel : pz_sc (lc ^ 0) (jpo V a) = pz_add (pz_mul (jpo W 2) (jpo V b)) (jpo W 3) := by
    rw [hpo, hpo2, pz_mul_0L]
    funext e
    show lc ^ 0 * jpo V a e = 0 + jpo V a e
    rw [Int.pow_zero, Int.one_mul]
    omega
  have hbd : ∀ e, e < 13 → (W (2 * 13 + e)).natAbs ≤ al * (2 * be) ^ 0 ∧ (W (3 * 13 + e)).natAbs ≤ al * (2 * be) ^ 0 := fun e he => by
    rw [e2 e he, e3 e he, Nat.pow_zero, Nat.mul_one]
    exact ⟨Nat.zero_le _, hal e he⟩
  by_cases hcase : db ≤ jdg V a 13
  · have hx : ((jdg V a 13 : Nat) : Int) - 1 = ((db + (jdg V a 13 - db) : Nat) : Int) - 1 := by omega
    rw [hx]
    refine jp_dv (D := D) (V := V) (a := a) (b := b) (db := db) (n := jdg V a 13 - db) G (lc := lc) (al := al) (be := be) hb hb2 hb3 hdb hlc (by omega) hbe hbe1 hfit (fun W2 h2 k1 k2 k3 k4 k5 => ⟨W2, h2, k1, k2, k3, k4, k5, rfl⟩) (jdg V a 13 - db) W g2 _ (Nat.le_refl _) hs2 (fun s c _ _ => e4 s c) (by rw [Nat.sub_self]; exact hrel) (fun e c1 c2 => ?_) (fun e he => by rw [Nat.sub_self]; exact hbd e he)
    rw [e3 e c2]
    exact jdg_zero V a 13 e (by omega) c2
  · have hn0 : jdg V a 13 - db = 0 := by omega
    rw [hn0]
    iterate 2 refine mj_T.pl rfl rfl rfl rfl ?_
    refine mj_T.icmp (a := ((jdg V a 13 : Nat) : Int) - 1) (b := (db : Int)) rfl ⟨by omega, by omega⟩ ⟨by omega, by omega⟩ (fun hc2 => ?_) (fun hc2 => ?_)
    · refine mj_T.pl rfl rfl rfl rfl ?_
      refine mj_T.ret rfl rfl rfl ⟨W, g2, hs2, fun s c _ _ => e4 s c, hrel, fun e c1 c2 => ?_, hbd, rfl⟩
      rw [e3 e c2]
      exact jdg_zero V a 13 e (by omega) c2
    · simp only [jc, decide_eq_false_iff_not] at hc2
      omega
end JDX
/-! The reference's exact division. -/
theorem jdx_next {P B q r q' r' : pz_P} {t : Int} {m : Nat} (h : P = pz_add (pz_mul q B) r) (hq : q' = pz_add q (pz_mono m t)) (hr : r' = pz_add r (pz_sc (-1) (pz_mul (pz_mono m t) B))) : P = pz_add (pz_mul q' B) r' := by
  rw [h, hq, hr, pz_mul_addL]
  funext i
  show pz_mul q B i + r i = (pz_mul q B i + pz_mul (pz_mono m t) B i) + (r i + -1 * pz_mul (pz_mono m t) B i)
  omega
theorem jdx_not {A B Qp R q' : pz_P} {db m d : Nat} (hB : pz_lt B (db + 1)) (hb : B db ≠ 0) (hrel : A = pz_add (pz_mul Qp B) R) (hq : pz_lt q' d) (hQ : pz_lt Qp 13) (hA : A = pz_mul q' B) (hR : pz_lt R (m + db)) : ∃ u, pz_lt u m ∧ R = pz_mul u B := by
  have e : pz_mul (pz_add q' (pz_sc (-1) Qp)) B = R := by
    rw [pz_mul_addL, pz_mul_scL, ← hA, hrel]
    funext i
    show (pz_mul Qp B i + R i) + -1 * pz_mul Qp B i = R i
    omega
  refine ⟨pz_add q' (pz_sc (-1) Qp), ?_, e.symm⟩
  refine pz_deg_of hB hb m (d + 13) _ ((hq.mono (by omega)).add ((hQ.mono (by omega)).sc (-1))) ?_
  rw [e]
  exact hR
section JDXE
variable {D : Nat} {hp h : mj_H} {q0 q1 q2 q3 : Nat} {fs : List Value} {V : Nat → Int} {a b db n dd tq : Nat}
theorem jp_dx2 (G : jG hp q0 q1 q2 q3 fs) {rf : Nat → Int} {t : Int} (hb : b ≤ 49) (hb3 : b ≠ 3) (hdb : db ≤ dd) (hdd : dd < 13) (ht : V 654 = t) (hfp : ∀ e, e ≤ db → jnl (t * V (b * 13 + e)).natAbs ≤ 698) (hfr : ∀ e, e ≤ db → jnl (rf (dd - db + e) + -1 * (t * V (b * 13 + e))).natAbs ≤ 698) {Q : mj_R → Prop}
    (hend : ∀ (W : Nat → Int) (h : mj_H), jS hp q1 q2 q3 W h → (∀ e, e ≤ db → W (3 * 13 + (dd - db + e)) = rf (dd - db + e) + -1 * (t * V (b * 13 + e))) → (∀ s, (s < 3 * 13 + (dd - db) ∨ 3 * 13 + dd < s) → s ≠ 652 → W s = V s) → mj_T (D + 4) mj_m213 146 [some (.ref q0), some (.int (jn (tq : Nat))), some (.int (jn (a : Nat))), some (.int (jn (b : Nat))), some (.int (jn (db : Nat))), some (.int (jn (dd : Nat))), some (.int (jn ((db + 1 : Nat) : Int)))] [] h Q) :
    ∀ (d k : Nat) (W : Nat → Int) (h : mj_H), k + d = db + 1 → jS hp q1 q2 q3 W h → (∀ e, e < k → W (3 * 13 + (dd - db + e)) = rf (dd - db + e) + -1 * (t * V (b * 13 + e))) → (∀ e, k ≤ e → e ≤ db → W (3 * 13 + (dd - db + e)) = rf (dd - db + e)) → (∀ s, (s < 3 * 13 + (dd - db) ∨ 3 * 13 + dd < s) → s ≠ 652 → W s = V s) → mj_T (D + 4) mj_m213 85 [some (.ref q0), some (.int (jn (tq : Nat))), some (.int (jn (a : Nat))), some (.int (jn (b : Nat))), some (.int (jn (db : Nat))), some (.int (jn (dd : Nat))), some (.int (jn (k : Nat)))] [] h Q := by
  intro d
  induction d with
  | zero =>
    intro k W h hk hs h1 h2 hf
    have hk : k = db + 1 := by omega
    subst hk
    iterate 2 refine mj_T.pl rfl rfl rfl rfl ?_
    refine mj_T.icmp (a := ((db + 1 : Nat) : Int)) (b := (db : Int)) rfl ⟨by omega, by omega⟩ ⟨by omega, by omega⟩ (fun hc => ?_) (fun hc => ?_)
    · exact hend W h hs (fun e he => h1 e (by omega)) hf
    · simp only [jc, decide_eq_false_iff_not] at hc
      omega
  | succ d ih =>
    intro k W h hk hs h1 h2 hf
    have er := h2 k (Nat.le_refl _) (by omega)
    have eb : W (b * 13 + k) = V (b * 13 + k) := hf _ (by omega) (by omega)
    have et : W 654 = t := by rw [hf 654 (by omega) (by decide)]; exact ht
    iterate 2 refine mj_T.pl rfl rfl rfl rfl ?_
    refine mj_T.icmp (a := (k : Int)) (b := (db : Int)) rfl ⟨by omega, by omega⟩ ⟨by omega, by omega⟩ (fun hc => ?_) (fun hc => ?_)
    · simp only [jc, decide_eq_true_eq] at hc
      omega
    · iterate 5 refine mj_T.pl rfl rfl rfl rfl ?_
      refine mj_T.call (ins := .invokestatic 104) rfl rfl (Nat.le_of_ble_eq_true rfl) (Nat.le_of_ble_eq_true rfl) rfl rfl (jq_slot (D := D + 3) (p := b) (i := k)) (fun v' h' hq' => ?_) (fun i h' hq' => by cases hq')
      cases hq'
      refine mj_T.call (ins := .invokevirtual 117) rfl rfl (Nat.le_of_ble_eq_true rfl) (Nat.le_of_ble_eq_true rfl) (by simp [mj_recv, jS_a G hs]) rfl (jS_mul (D := D + 2) G (to := 652) (a := 654) (b := b * 13 + k) (by decide) (by decide) (by omega) (by rw [et, eb]; exact hfp k (by omega)) hs) (fun v' g1 hq' => ?_) (fun i h' hq' => by obtain ⟨_, _, h⟩ := hq'; cases h)
      obtain ⟨_, hs1, hq'⟩ := hq'
      cases hq'
      have f1 : ∀ s, s ≠ 652 → jvu W 652 (W 654 * W (b * 13 + k)) s = W s := fun s c => by unfold jvu; rw [if_neg c]
      have f2 : jvu W 652 (W 654 * W (b * 13 + k)) 652 = t * V (b * 13 + k) := by unfold jvu; rw [if_pos rfl, et, eb]
      generalize jvu W 652 (W 654 * W (b * 13 + k)) = W1 at hs1 f1 f2
      refine mj_T.pl rfl rfl rfl rfl ?_
      iterate 3 refine mj_T.pl rfl rfl rfl rfl ?_
      refine mj_T.isub (a := (dd : Int)) (b := (db : Int)) rfl ?_
      refine mj_T.pl rfl rfl rfl rfl ?_
      refine mj_T.iadd (a := (dd : Int) - (db : Int)) (b := (k : Int)) rfl ?_
      rw [show (dd : Int) - (db : Int) + (k : Int) = ((dd - db + k : Nat) : Int) by omega]
      refine mj_T.call (ins := .invokestatic 104) rfl rfl (Nat.le_of_ble_eq_true rfl) (Nat.le_of_ble_eq_true rfl) rfl rfl (jq_slot (D := D + 3) (p := 3) (i := dd - db + k)) (fun v' h' hq' => ?_) (fun i h' hq' => by cases hq')
      cases hq'
      iterate 3 refine mj_T.pl rfl rfl rfl rfl ?_
      refine mj_T.isub (a := (dd : Int)) (b := (db : Int)) rfl ?_
      refine mj_T.pl rfl rfl rfl rfl ?_
      refine mj_T.iadd (a := (dd : Int) - (db : Int)) (b := (k : Int)) rfl ?_
      rw [show (dd : Int) - (db : Int) + (k : Int) = ((dd - db + k : Nat) : Int) by omega]
      refine mj_T.call (ins := .invokestatic 104) rfl rfl (Nat.le_of_ble_eq_true rfl) (Nat.le_of_ble_eq_true rfl) rfl rfl (jq_slot (D := D + 3) (p := 3) (i := dd - db + k)) (fun v' h' hq' => ?_) (fun i h' hq' => by cases hq')
      cases hq'
      iterate 2 refine mj_T.pl rfl rfl rfl rfl ?_
      refine mj_T.call (ins := .invokevirtual 107) rfl rfl (Nat.le_of_ble_eq_true rfl) (Nat.le_of_ble_eq_true rfl) (by simp [mj_recv, jS_a G hs1]) rfl (jS_adds (D := D) G (to := 3 * 13 + (dd - db + k)) (a := 3 * 13 + (dd - db + k)) (b := 652) (f := -1) (by omega) (by omega) (by decide) (Or.inr rfl) (by rw [f1 _ (by omega), er, f2]; exact hfr k (by omega)) hs1) (fun v' g2 hq' => ?_) (fun i h' hq' => by obtain ⟨_, _, h⟩ := hq'; cases h)
      obtain ⟨_, hs2, hq'⟩ := hq'
      cases hq'
      have f3 : ∀ s, s ≠ 3 * 13 + (dd - db + k) → jvu W1 (3 * 13 + (dd - db + k)) (W1 (3 * 13 + (dd - db + k)) + -1 * W1 652) s = W1 s := fun s c => by unfold jvu; rw [if_neg c]
      have f4 : jvu W1 (3 * 13 + (dd - db + k)) (W1 (3 * 13 + (dd - db + k)) + -1 * W1 652) (3 * 13 + (dd - db + k)) = rf (dd - db + k) + -1 * (t * V (b * 13 + k)) := by unfold jvu; rw [if_pos rfl, f1 _ (by omega), er, f2]
      generalize jvu W1 (3 * 13 + (dd - db + k)) (W1 (3 * 13 + (dd - db + k)) + -1 * W1 652) = W2 at hs2 f3 f4
      refine mj_T.iinc (a := k) rfl rfl ?_
      refine mj_T.pl rfl rfl rfl rfl ?_
      refine ih (k + 1) W2 g2 (by omega) hs2 (fun e he => ?_) (fun e a1 a2 => ?_) (fun s c c6 => ?_)
      · by_cases c : e = k
        · rw [c]; exact f4
        · rw [f3 _ (by omega), f1 _ (by omega)]
          exact h1 e (by omega)
      · rw [f3 _ (by omega), f1 _ (by omega)]
        exact h2 e (by omega) a2
      · rw [f3 _ (by omega), f1 _ c6]
        exact hf s c c6
theorem jp_dx (G : jG hp q0 q1 q2 q3 fs) {lc : Int} {al be : Nat} (hb : b ≤ 49) (hb3 : b ≠ 3) (htq : tq ≤ 49) (ht3 : tq ≠ 3) (htb : tq ≠ b) (hdb : jdg V b 13 = db + 1) (hlc : V (b * 13 + db) = lc) (hn : db + n ≤ 13) (hbe : ∀ e, e < 13 → (V (b * 13 + e)).natAbs ≤ be) (hbe1 : 1 ≤ be) (hfit : al * (2 * be) ^ n < jB ^ 698) {Q : mj_R → Prop}
    (hyes : ∀ (W : Nat → Int) (h : mj_H), jS hp q1 q2 q3 W h → (∀ s, (s < tq * 13 ∨ tq * 13 + 13 ≤ s) → (s < 39 ∨ 52 ≤ s) → s ≠ 652 → s ≠ 653 → s ≠ 654 → W s = V s) → jpo V a = pz_mul (jpo W tq) (jpo V b) → Q (.inl (some (.int (jn 1))), h))
    (hno : ∀ (W : Nat → Int) (h : mj_H), jS hp q1 q2 q3 W h → (∀ s, (s < tq * 13 ∨ tq * 13 + 13 ≤ s) → (s < 39 ∨ 52 ≤ s) → s ≠ 652 → s ≠ 653 → s ≠ 654 → W s = V s) → (∀ (q' : pz_P) (d : Nat), pz_lt q' d → jpo V a ≠ pz_mul q' (jpo V b)) → Q (.inl (some (.int (jn 0))), h)) :
    ∀ (m : Nat) (W : Nat → Int) (h : mj_H) (e6 : Option Value), m ≤ n → jS hp q1 q2 q3 W h → (∀ s, (s < tq * 13 ∨ tq * 13 + 13 ≤ s) → (s < 39 ∨ 52 ≤ s) → s ≠ 652 → s ≠ 653 → s ≠ 654 → W s = V s) → jpo V a = pz_add (pz_mul (jpo W tq) (jpo V b)) (jpo W 3) → (∀ e, m + db ≤ e → e < 13 → W (3 * 13 + e) = 0) → (∀ e, e < m → W (tq * 13 + e) = 0) → (∀ e, e < 13 → (W (tq * 13 + e)).natAbs ≤ al * (2 * be) ^ (n - m) ∧ (W (3 * 13 + e)).natAbs ≤ al * (2 * be) ^ (n - m)) →
      mj_T (D + 5) mj_m213 25 [some (.ref q0), some (.int (jn (tq : Nat))), some (.int (jn (a : Nat))), some (.int (jn (b : Nat))), some (.int (jn (db : Nat))), some (.int (jn (((db + m : Nat) : Int) - 1))), e6] [] h Q := by
  have hdb13 : db < 13 := by have := jdg_le V b 13; omega
  have hlc0 : lc ≠ 0 := by
    have h0 := jdg_ne V b 13 (by omega)
    rw [hdb, Nat.add_sub_cancel, hlc] at h0
    exact h0
  have hB0 : ∀ e, db < e → jpo V b e = 0 := fun e he => by
    unfold jpo
    split
    · exact jdg_zero V b 13 e (by omega) (by omega)
    · rfl
  have hBl : pz_lt (jpo V b) (db + 1) := fun i hi => hB0 i (by omega)
  have hBn : jpo V b db ≠ 0 := by rw [jpo_at hdb13, hlc]; exact hlc0
  have hlcb : lc.natAbs ≤ be := by rw [← hlc]; exact hbe db hdb13
  intro m
  induction m with
  | zero =>
    intro W h e6 hm hs hf hrel hz htz hbd
    have hRl : pz_lt (jpo W 3) (0 + db) := fun i hi => by
      unfold jpo
      split
      · rename_i c
        exact hz i hi c
      · rfl
    iterate 2 refine mj_T.pl rfl rfl rfl rfl ?_
    refine mj_T.icmp (a := ((db + 0 : Nat) : Int) - 1) (b := (db : Int)) rfl ⟨by omega, by omega⟩ ⟨by omega, by omega⟩ (fun hc => ?_) (fun hc => ?_)
    · iterate 2 refine mj_T.pl rfl rfl rfl rfl ?_
      refine mj_T.call (ins := .invokevirtual 114) rfl rfl (Nat.le_of_ble_eq_true rfl) (Nat.le_of_ble_eq_true rfl) (by simp [mj_recv, jS_a G hs]) rfl (jp_degreeOf (D := D + 3) G (p := 3) (by omega) hs) (fun v' h' hq' => ?_) (fun i h' hq' => by cases hq')
      cases hq'
      have hw := jdg_le W 3 13
      refine mj_T.if0 (a := (jdg W 3 13 : Int) - 1) rfl ⟨by omega, by omega⟩ (fun hc2 => ?_) (fun hc2 => ?_)
      · simp only [jc, decide_eq_true_eq] at hc2
        refine mj_T.pl rfl rfl rfl rfl ?_
        refine mj_T.ret rfl rfl rfl (hno W h hs hf (fun q' d hq hA => ?_))
        obtain ⟨u, hu, e⟩ := jdx_not hBl hBn hrel hq (jpo_lt W tq) hA hRl
        have e0 : jpo W 3 = pz_0 := by rw [e, pz_lt.zero u hu, pz_mul_0L]
        have hx := jdg_ne W 3 13 (by omega)
        apply hx
        rw [← jpo_at (V := W) (p := 3) (show jdg W 3 13 - 1 < 13 by omega), e0]
        rfl
      · simp only [jc, decide_eq_false_iff_not] at hc2
        iterate 2 refine mj_T.pl rfl rfl rfl rfl ?_
        refine mj_T.ret rfl rfl rfl (hyes W h hs hf ?_)
        rw [hrel]
        funext i
        show pz_mul (jpo W tq) (jpo V b) i + jpo W 3 i = pz_mul (jpo W tq) (jpo V b) i
        have : jpo W 3 i = 0 := by
          unfold jpo
          split
          · rename_i c
            exact jdg_zero W 3 13 i (by omega) c
          · rfl
        omega
    · simp only [jc, decide_eq_false_iff_not] at hc
      omega
  | succ m ih =>
    intro W h e6 hm hs hf hrel hz htz hbd
    generalize hMM : al * (2 * be) ^ (n - (m + 1)) = M at hbd
    have hstep : al * (2 * be) ^ (n - m) = 2 * (M * be) := by
      rw [show n - m = (n - (m + 1)) + 1 by omega, Nat.pow_succ, ← Nat.mul_assoc, hMM, Nat.mul_left_comm]
    have hM2 : 2 * (M * be) < jB ^ 698 := by
      rw [← hstep]
      refine Nat.lt_of_le_of_lt (Nat.mul_le_mul_left al (Nat.pow_le_pow_right (by omega) (by omega))) hfit
    have hmul : ∀ x y : Int, x.natAbs ≤ M → y.natAbs ≤ be → (x * y).natAbs ≤ M * be := fun x y hx hy => by
      rw [Int.natAbs_mul]
      exact Nat.mul_le_mul hx hy
    have hMb : M ≤ M * be := by
      have := Nat.mul_le_mul_left M hbe1
      omega
    rw [show ((db + (m + 1) : Nat) : Int) - 1 = ((db + m : Nat) : Int) by omega]
    iterate 2 refine mj_T.pl rfl rfl rfl rfl ?_
    refine mj_T.icmp (a := ((db + m : Nat) : Int)) (b := (db : Int)) rfl ⟨by omega, by omega⟩ ⟨by omega, by omega⟩ (fun hc => ?_) (fun hc => ?_)
    · simp only [jc, decide_eq_true_eq] at hc
      omega
    have elc : W (b * 13 + db) = lc := by rw [hf _ (by omega) (by omega) (by omega) (by omega) (by omega)]; exact hlc
    iterate 5 refine mj_T.pl rfl rfl rfl rfl ?_
    refine mj_T.call (ins := .invokestatic 104) rfl rfl (Nat.le_of_ble_eq_true rfl) (Nat.le_of_ble_eq_true rfl) rfl rfl (jq_slot (D := D + 4) (p := 3) (i := db + m)) (fun v' h' hq' => ?_) (fun i h' hq' => by cases hq')
    cases hq'
    iterate 2 refine mj_T.pl rfl rfl rfl rfl ?_
    refine mj_T.call (ins := .invokestatic 104) rfl rfl (Nat.le_of_ble_eq_true rfl) (Nat.le_of_ble_eq_true rfl) rfl rfl (jq_slot (D := D + 4) (p := b) (i := db)) (fun v' h' hq' => ?_) (fun i h' hq' => by cases hq')
    cases hq'
    refine mj_T.call (ins := .invokevirtual 101) rfl rfl (Nat.le_of_ble_eq_true rfl) (Nat.le_of_ble_eq_true rfl) (by simp [mj_recv, jS_a G hs]) rfl (jS_cuts (D := D + 1) G (q := 654) (r := 653) (a := 3 * 13 + (db + m)) (b := b * 13 + db) (by decide) (by decide) (by omega) (by omega) (by decide) (by omega) (by omega) (by omega) (by rw [elc]; exact hlc0) hs) (fun v' g1 hq' => ?_) (fun i h' hq' => by obtain ⟨_, _, h⟩ := hq'; cases h)
    obtain ⟨_, hs1, hq'⟩ := hq'
    cases hq'
    generalize hR : W (3 * 13 + (db + m)) = R at hs1
    rw [elc] at hs1
    have f1 : ∀ s, s ≠ 654 → s ≠ 653 → jvu (jvu W 654 (R.tdiv lc)) 653 (R.tmod lc) s = W s := fun s c c2 => by unfold jvu; rw [if_neg c2, if_neg c]
    have f2 : jvu (jvu W 654 (R.tdiv lc)) 653 (R.tmod lc) 654 = R.tdiv lc := by unfold jvu; rw [if_neg (by decide), if_pos rfl]
    have f2b : jvu (jvu W 654 (R.tdiv lc)) 653 (R.tmod lc) 653 = R.tmod lc := by unfold jvu; rw [if_pos rfl]
    generalize jvu (jvu W 654 (R.tdiv lc)) 653 (R.tmod lc) = W1 at hs1 f1 f2 f2b
    iterate 2 refine mj_T.pl rfl rfl rfl rfl ?_
    refine mj_T.call (ins := .invokevirtual 68) rfl rfl (Nat.le_of_ble_eq_true rfl) (Nat.le_of_ble_eq_true rfl) (by simp [mj_recv, jS_a G hs1]) rfl (jS_sign (D := D + 4) G (s := 653) (by decide) hs1) (fun v' h' hq' => ?_) (fun i h' hq' => by cases hq')
    cases hq'
    have hsr := jsg_range (W1 653)
    refine mj_T.if0 rfl ⟨by omega, by omega⟩ (fun hc2 => ?_) (fun hc2 => ?_)
    case _ =>
      skip
      simp only [jc, decide_eq_true_eq] at hc2
      have hr0 : R.tmod lc = 0 := by rw [← f2b]; exact jsg_eq0 hc2
      have hRt : R = lc * R.tdiv lc := by have := Int.mul_tdiv_add_tmod R lc; omega
      generalize R.tdiv lc = t at f2 hRt
      have htb2 : t.natAbs ≤ M := by
        have h1 := (hbd (db + m) (by omega)).2
        rw [hR, hRt, Int.natAbs_mul] at h1
        have h2 : 1 ≤ lc.natAbs := by omega
        have h3 := Nat.mul_le_mul_right t.natAbs h2
        omega
      iterate 4 refine mj_T.pl rfl rfl rfl rfl ?_
      refine mj_T.isub (a := ((db + m : Nat) : Int)) (b := (db : Int)) rfl ?_
      rw [show ((db + m : Nat) : Int) - (db : Int) = (m : Int) by omega]
      refine mj_T.call (ins := .invokestatic 104) rfl rfl (Nat.le_of_ble_eq_true rfl) (Nat.le_of_ble_eq_true rfl) rfl rfl (jq_slot (D := D + 4) (p := tq) (i := m)) (fun v' h' hq' => ?_) (fun i h' hq' => by cases hq')
      cases hq'
      refine mj_T.pl rfl rfl rfl rfl ?_
      refine mj_T.call (ins := .invokevirtual 84) rfl rfl (Nat.le_of_ble_eq_true rfl) (Nat.le_of_ble_eq_true rfl) (by simp [mj_recv, jS_a G hs1]) rfl (jS_copies (D := D + 3) G (to := tq * 13 + m) (s := 654) (by omega) (by decide) hs1) (fun v' g3 hq' => ?_) (fun i h' hq' => by obtain ⟨_, _, h⟩ := hq'; cases h)
      obtain ⟨_, hs3, hq'⟩ := hq'
      cases hq'
      rw [f2] at hs3
      have f3 : ∀ s, s ≠ tq * 13 + m → jvu W1 (tq * 13 + m) t s = W1 s := fun s c => by unfold jvu; rw [if_neg c]
      have f4 : jvu W1 (tq * 13 + m) t (tq * 13 + m) = t := by unfold jvu; rw [if_pos rfl]
      generalize jvu W1 (tq * 13 + m) t = W3 at hs3 f3 f4
      have w3b : ∀ e, e < 13 → W3 (b * 13 + e) = V (b * 13 + e) := fun e he => by rw [f3 _ (by omega), f1 _ (by omega) (by omega)]; exact hf _ (by omega) (by omega) (by omega) (by omega) (by omega)
      have w3r : ∀ e, e < 13 → W3 (3 * 13 + e) = W (3 * 13 + e) := fun e he => by rw [f3 _ (by omega), f1 _ (by omega) (by omega)]
      have hr4 : ∀ e x, e < 13 → x < 13 → (W (3 * 13 + e) + -1 * (t * V (b * 13 + x))).natAbs ≤ 2 * (M * be) := fun e x he hx => by
        have h1 := (hbd e he).2
        have h2 := hmul _ _ htb2 (hbe x hx)
        omega
      iterate 2 refine mj_T.pl rfl rfl rfl rfl ?_
      refine jp_dx2 (D := D + 1) (V := W3) (a := a) (b := b) (db := db) (dd := db + m) (tq := tq) G (rf := fun e => W (3 * 13 + e)) (t := t) hb hb3 (by omega) (by omega) (by rw [f3 _ (by omega)]; exact f2) (fun e he => by rw [w3b e (by omega)]; exact jnl_of_lt (hmul _ _ htb2 (hbe e (by omega))) (by omega)) (fun e he => by rw [w3b e (by omega)]; exact jnl_of_lt (hr4 _ e (by omega) (by omega)) hM2) (fun W4 h4 hs4 k3 k4 => ?_) (db + 1) 0 W3 g3 (by omega) hs3 (fun e he => by omega) (fun e _ he => w3r _ (by omega)) (fun s _ _ => rfl)
      refine mj_T.iinc (a := ((db + m : Nat) : Int)) rfl rfl ?_
      rw [show ((db + m : Nat) : Int) + -1 = ((db + m : Nat) : Int) - 1 by omega]
      refine mj_T.pl rfl rfl rfl rfl ?_
      have w4q : ∀ e, e < 13 → W4 (tq * 13 + e) = if e = m then t else W (tq * 13 + e) := fun e he => by
        rw [k4 _ (by omega) (by omega)]
        by_cases c : e = m
        · rw [c, f4, if_pos rfl]
        · rw [f3 _ (by omega), f1 _ (by omega) (by omega), if_neg c]
      have hq : jpo W4 tq = pz_add (jpo W tq) (pz_mono m t) := funext fun e => by
        show jpo W4 tq e = jpo W tq e + (if e = m then t else 0)
        by_cases he : e < 13
        · rw [jpo_at he, jpo_at he, w4q e he]
          by_cases c : e = m
          · rw [if_pos c, if_pos c, c, htz m (by omega)]
            omega
          · rw [if_neg c, if_neg c]
            omega
        · have e0 : ∀ X : Nat → Int, jpo X tq e = 0 := fun X => by unfold jpo; rw [if_neg he]
          rw [e0, e0, if_neg (by omega)]
          rfl
      have hr : jpo W4 3 = pz_add (jpo W 3) (pz_sc (-1) (pz_mul (pz_mono m t) (jpo V b))) := funext fun e => by
        show jpo W4 3 e = jpo W 3 e + -1 * pz_c e (pz_mono m t) (jpo V b)
        rw [pz_mono_mul]
        by_cases he : e < 13
        · rw [jpo_at he, jpo_at he]
          by_cases c : m ≤ e
          · rw [if_pos c]
            by_cases c2 : e ≤ db + m
            · have h5 := k3 (e - m) (by omega)
              rw [show db + m - db + (e - m) = e by omega, w3b _ (by omega)] at h5
              rw [h5, jpo_at (show e - m < 13 by omega)]
            · rw [k4 _ (by omega) (by omega), w3r e he, hB0 (e - m) (by omega), Int.mul_zero]
              omega
          · rw [if_neg c, k4 _ (by omega) (by omega), w3r e he]
            omega
        · have e0 : ∀ X : Nat → Int, jpo X 3 e = 0 := fun X => by unfold jpo; rw [if_neg he]
          rw [e0, e0, if_pos (by omega), hB0 (e - m) (by omega), Int.mul_zero]
          rfl
      refine ih W4 h4 _ (by omega) hs4 (fun s c c2 c3 c4 c5 => ?_) (jdx_next hrel hq hr) (fun e a1 a2 => ?_) (fun e he => ?_) (fun e he => ?_)
      · rw [k4 s (by omega) c3, f3 s (by omega), f1 s c5 c4]
        exact hf s c c2 c3 c4 c5
      · by_cases c : e = db + m
        · have h5 := k3 db (Nat.le_refl _)
          rw [show db + m - db + db = db + m by omega, w3b _ hdb13, hlc, hR, Int.mul_comm t] at h5
          rw [c, h5]
          omega
        · rw [k4 _ (by omega) (by omega), w3r e a2, hz e (by omega) a2]
      · rw [w4q e (by omega), if_neg (by omega)]
        exact htz e (by omega)
      · rw [hstep]
        refine ⟨?_, ?_⟩
        · rw [w4q e he]
          have := (hbd e he).1
          split <;> omega
        · by_cases c : m ≤ e ∧ e ≤ db + m
          · have h5 := k3 (e - m) (by omega)
            rw [show db + m - db + (e - m) = e by omega, w3b _ (by omega)] at h5
            rw [h5]
            exact hr4 e (e - m) he (by omega)
          · rw [k4 _ (by omega) (by omega), w3r e he]
            have := (hbd e he).2
            omega
    case _ =>
      skip
      simp only [jc, decide_eq_false_iff_not] at hc2
      refine mj_T.pl rfl rfl rfl rfl ?_
      refine mj_T.ret rfl rfl rfl (hno W1 g1 hs1 (fun s c c2 c3 c4 c5 => by rw [f1 s c5 c4]; exact hf s c c2 c3 c4 c5) (fun q' d hq hA => ?_))
      have hRl : pz_lt (jpo W 3) (m + 1 + db) := fun i hi => by
        unfold jpo
        split
        · rename_i c
          exact hz i hi c
        · rfl
      obtain ⟨u, hu, e⟩ := jdx_not hBl hBn hrel hq (jpo_lt W tq) hA hRl
      have h1 := pz_c_lead m u (jpo V b) db hu hBl
      have h2 : jpo W 3 (m + db) = pz_c (m + db) u (jpo V b) := by rw [e]; rfl
      rw [jpo_at (show m + db < 13 by omega), h1, jpo_at hdb13, hlc, Nat.add_comm m db, hR] at h2
      apply hc2
      rw [f2b, h2, Int.mul_tmod_left]
      rfl
end JDXE
/-! The reference's exact division, whole. -/
section JDXF
variable {D : Nat} {hp h : mj_H} {q0 q1 q2 q3 : Nat} {fs : List Value} {V : Nat → Int} {a b db tq : Nat}
theorem jp_dividesExactly (G : jG hp q0 q1 q2 q3 fs) {lc : Int} {al be : Nat} (ha : a ≤ 49) (ha3 : a ≠ 3) (hta : tq ≠ a) (hb : b ≤ 49) (hb3 : b ≠ 3) (htq : tq ≤ 49) (ht3 : tq ≠ 3) (htb : tq ≠ b) (hdb : jdg V b 13 = db + 1) (hlc : V (b * 13 + db) = lc) (hal : ∀ e, e < 13 → (V (a * 13 + e)).natAbs ≤ al) (hbe : ∀ e, e < 13 → (V (b * 13 + e)).natAbs ≤ be) (hbe1 : 1 ≤ be) (hfit : al * (2 * be) ^ (jdg V a 13 - db) < jB ^ 698) (hs : jS hp q1 q2 q3 V h) :
    mj_Ok (D + 6) 213 [.ref q0, .int (jn (tq : Nat)), .int (jn (a : Nat)), .int (jn (b : Nat))] h (fun r => ∃ (W : Nat → Int) (h' : mj_H), jS hp q1 q2 q3 W h' ∧ (∀ s, (s < tq * 13 ∨ tq * 13 + 13 ≤ s) → (s < 39 ∨ 52 ≤ s) → s ≠ 652 → s ≠ 653 → s ≠ 654 → W s = V s) ∧ ((jpo V a = pz_mul (jpo W tq) (jpo V b) ∧ r = (.inl (some (.int (jn 1))), h')) ∨ ((∀ (q' : pz_P) (d : Nat), pz_lt q' d → jpo V a ≠ pz_mul q' (jpo V b)) ∧ r = (.inl (some (.int (jn 0))), h')))) := by
  have hda := jdg_le V a 13
  have hdbl := jdg_le V b 13
  refine mj_Ok.of (M := mj_m213) rfl rfl rfl ?_
  iterate 2 refine mj_T.pl rfl rfl rfl rfl ?_
  refine mj_T.call (ins := .invokevirtual 114) rfl rfl (Nat.le_of_ble_eq_true rfl) (Nat.le_of_ble_eq_true rfl) (by simp [mj_recv, jS_a G hs]) rfl (jp_degreeOf (D := D + 3) G (p := b) (by omega) hs) (fun v' h' hq' => ?_) (fun i h' hq' => by cases hq')
  cases hq'
  rw [hdb, show ((db + 1 : Nat) : Int) - 1 = (db : Int) by omega]
  iterate 3 refine mj_T.pl rfl rfl rfl rfl ?_
  refine mj_T.call (ins := .invokevirtual 110) rfl rfl (Nat.le_of_ble_eq_true rfl) (Nat.le_of_ble_eq_true rfl) (by simp [mj_recv, jS_a G hs]) rfl (jp_empties (D := D + 3) G (p := tq) (by omega) hs) (fun v' g1 hq' => ?_) (fun i h' hq' => by obtain ⟨_, _, h⟩ := hq'; cases h)
  obtain ⟨_, hs1, hq'⟩ := hq'
  cases hq'
  iterate 3 refine mj_T.pl rfl rfl rfl rfl ?_
  refine mj_T.call (ins := .invokevirtual 124) rfl rfl (Nat.le_of_ble_eq_true rfl) (Nat.le_of_ble_eq_true rfl) (by simp [mj_recv, jS_a G hs1]) rfl (jp_copiesPoly (D := D + 2) G (p := 3) (q := a) (by decide) (by omega) (by omega) hs1) (fun v' g2 hq' => ?_) (fun i h' hq' => by obtain ⟨_, _, h⟩ := hq'; cases h)
  obtain ⟨_, hs2, hq'⟩ := hq'
  cases hq'
  have e2 : ∀ e, e < 13 → jfl (jfl V tq (fun _ => 0) 13) 3 (fun e => jfl V tq (fun _ => 0) 13 (a * 13 + e)) 13 (tq * 13 + e) = 0 := fun e he => by
    rw [jfl_off _ 3 _ (by omega), jfl_at _ tq _ he]
  have e3 : ∀ e, e < 13 → jfl (jfl V tq (fun _ => 0) 13) 3 (fun e => jfl V tq (fun _ => 0) 13 (a * 13 + e)) 13 (3 * 13 + e) = V (a * 13 + e) := fun e he => by
    rw [jfl_at _ 3 _ he, jfl_off _ tq _ (by omega)]
  have e4 : ∀ s, (s < tq * 13 ∨ tq * 13 + 13 ≤ s) → (s < 39 ∨ 52 ≤ s) → jfl (jfl V tq (fun _ => 0) 13) 3 (fun e => jfl V tq (fun _ => 0) 13 (a * 13 + e)) 13 s = V s := fun s hc hc2 => by
    rw [jfl_off _ 3 _ (by omega), jfl_off _ tq _ (by omega)]
  generalize jfl (jfl V tq (fun _ => 0) 13) 3 (fun e => jfl V tq (fun _ => 0) 13 (a * 13 + e)) 13 = W at hs2 e2 e3 e4
  have hd3 : jdg W 3 13 = jdg V a 13 := jdg_congr 13 e3
  iterate 2 refine mj_T.pl rfl rfl rfl rfl ?_
  refine mj_T.call (ins := .invokevirtual 114) rfl rfl (Nat.le_of_ble_eq_true rfl) (Nat.le_of_ble_eq_true rfl) (by simp [mj_recv, jS_a G hs2]) rfl (jp_degreeOf (D := D + 3) G (p := 3) (by omega) hs2) (fun v' h' hq' => ?_) (fun i h' hq' => by cases hq')
  cases hq'
  rw [hd3]
  refine mj_T.pl rfl rfl rfl rfl ?_
  have hpo : jpo W 3 = jpo V a := funext fun e => by
    unfold jpo
    split
    · rename_i c
      exact e3 e c
    · rfl
  have hpo2 : jpo W tq = pz_0 := funext fun e => by
    unfold jpo
    split
    · rename_i c
      exact e2 e c
    · rfl
  have hrel : jpo V a = pz_add (pz_mul (jpo W tq) (jpo V b)) (jpo W 3) := by
    rw [hpo, hpo2, pz_mul_0L]
    funext e
    show jpo V a e = 0 + jpo V a e
    omega
  by_cases hcase : db ≤ jdg V a 13
  · have hx : ((jdg V a 13 : Nat) : Int) - 1 = ((db + (jdg V a 13 - db) : Nat) : Int) - 1 := by omega
    rw [hx]
    refine jp_dx (D := D) (V := V) (a := a) (b := b) (db := db) (n := jdg V a 13 - db) (tq := tq) G (lc := lc) (al := al) (be := be) hb hb3 htq ht3 htb hdb hlc (by omega) hbe hbe1 hfit (fun W2 h2 k1 k2 k3 => ⟨W2, h2, k1, k2, Or.inl ⟨k3, rfl⟩⟩) (fun W2 h2 k1 k2 k3 => ⟨W2, h2, k1, k2, Or.inr ⟨k3, rfl⟩⟩) (jdg V a 13 - db) W g2 _ (Nat.le_refl _) hs2 (fun s c c2 _ _ _ => e4 s c c2) hrel (fun e c1 c2 => ?_) (fun e he => e2 e (by omega)) (fun e he => ?_)
    · rw [e3 e c2]
      exact jdg_zero V a 13 e (by omega) c2
    · rw [e2 e he, e3 e he, Nat.sub_self, Nat.pow_zero, Nat.mul_one]
      exact ⟨Nat.zero_le _, hal e he⟩
  · have hBl : pz_lt (jpo V b) (db + 1) := fun i hi => by
      unfold jpo
      split
      · rename_i c
        exact jdg_zero V b 13 i (by omega) c
      · rfl
    have hBn : jpo V b db ≠ 0 := by
      have h0 := jdg_ne V b 13 (by omega)
      rw [hdb, Nat.add_sub_cancel] at h0
      rw [jpo_at (by omega)]
      exact h0
    have hRl : pz_lt (jpo W 3) (0 + db) := fun i hi => by
      unfold jpo
      split
      · rename_i c
        rw [e3 i c]
        exact jdg_zero V a 13 i (by omega) c
      · rfl
    iterate 2 refine mj_T.pl rfl rfl rfl rfl ?_
    refine mj_T.icmp (a := ((jdg V a 13 : Nat) : Int) - 1) (b := (db : Int)) rfl ⟨by omega, by omega⟩ ⟨by omega, by omega⟩ (fun hc => ?_) (fun hc => ?_)
    · iterate 2 refine mj_T.pl rfl rfl rfl rfl ?_
      refine mj_T.call (ins := .invokevirtual 114) rfl rfl (Nat.le_of_ble_eq_true rfl) (Nat.le_of_ble_eq_true rfl) (by simp [mj_recv, jS_a G hs2]) rfl (jp_degreeOf (D := D + 3) G (p := 3) (by omega) hs2) (fun v' h' hq' => ?_) (fun i h' hq' => by cases hq')
      cases hq'
      rw [hd3]
      refine mj_T.if0 (a := (jdg V a 13 : Int) - 1) rfl ⟨by omega, by omega⟩ (fun hc2 => ?_) (fun hc2 => ?_)
      · simp only [jc, decide_eq_true_eq] at hc2
        refine mj_T.pl rfl rfl rfl rfl ?_
        refine mj_T.ret rfl rfl rfl ⟨W, g2, hs2, fun s c c2 _ _ _ => e4 s c c2, Or.inr ⟨fun q' d hq hA => ?_, rfl⟩⟩
        obtain ⟨u, hu, e⟩ := jdx_not hBl hBn hrel hq (jpo_lt W tq) hA hRl
        have e0 : jpo W 3 = pz_0 := by rw [e, pz_lt.zero u hu, pz_mul_0L]
        have hx := jdg_ne W 3 13 (by omega)
        apply hx
        rw [← jpo_at (V := W) (p := 3) (show jdg W 3 13 - 1 < 13 by omega), e0]
        rfl
      · simp only [jc, decide_eq_false_iff_not] at hc2
        iterate 2 refine mj_T.pl rfl rfl rfl rfl ?_
        refine mj_T.ret rfl rfl rfl ⟨W, g2, hs2, fun s c c2 _ _ _ => e4 s c c2, Or.inl ⟨?_, rfl⟩⟩
        rw [hrel]
        funext i
        show pz_mul (jpo W tq) (jpo V b) i + jpo W 3 i = pz_mul (jpo W tq) (jpo V b) i
        have : jpo W 3 i = 0 := by
          unfold jpo
          split
          · rename_i c
            exact jdg_zero W 3 13 i (by omega) c
          · rfl
        omega
    · simp only [jc, decide_eq_false_iff_not] at hc
      omega
end JDXF
/-! The reference's greatest common divisor of polynomials: its loop, over any invariant. -/
theorem jcm_prim {V W : Nat → Int} {p : Nat} {f : Int} (hf : f = 1 ∨ f = -1) (hW : ∀ e, e < 13 → W (p * 13 + e) = f * (V (p * 13 + e)).tdiv ((jgk V p 13 : Nat) : Int)) : (jpo V p = pz_0 ∧ jpo W p = pz_0) ∨ ∃ c : Int, c ≠ 0 ∧ jpo V p = pz_sc c (jpo W p) ∧ pz_prim (jpo W p) := by
  by_cases hg : jgk V p 13 = 0
  · have hz : ∀ e, e < 13 → V (p * 13 + e) = 0 := fun e he => by
      have h1 := jgk_dvd V p 13 e (Nat.le_refl _) (by omega) he
      rw [hg] at h1
      have h2 := Nat.eq_zero_of_zero_dvd h1
      omega
    refine Or.inl ⟨funext fun e => ?_, funext fun e => ?_⟩
    · show (if e < 13 then V (p * 13 + e) else 0) = 0
      split
      · rename_i c
        exact hz e c
      · rfl
    · show (if e < 13 then W (p * 13 + e) else 0) = 0
      split
      · rename_i c
        rw [hW e c, hz e c, Int.zero_tdiv, Int.mul_zero]
      · rfl
  · have hd : ∀ e, e < 13 → ((jgk V p 13 : Nat) : Int) * (V (p * 13 + e)).tdiv ((jgk V p 13 : Nat) : Int) = V (p * 13 + e) := fun e he => by
      have h1 := jgk_dvd V p 13 e (Nat.le_refl _) (by omega) he
      have h2 : ((jgk V p 13 : Nat) : Int) ∣ V (p * 13 + e) := Int.natAbs_dvd_natAbs.mp h1
      exact Int.mul_tdiv_cancel' h2
    refine Or.inr ⟨f * ((jgk V p 13 : Nat) : Int), Int.mul_ne_zero (by omega) (by omega), funext fun e => ?_, fun k hk => ?_⟩
    · show jpo V p e = f * ((jgk V p 13 : Nat) : Int) * jpo W p e
      by_cases he : e < 13
      · rw [jpo_at he, jpo_at he, hW e he]
        have h1 := hd e he
        generalize (V (p * 13 + e)).tdiv ((jgk V p 13 : Nat) : Int) = x at h1
        generalize ((jgk V p 13 : Nat) : Int) = g at h1
        rcases hf with rfl | rfl
        · rw [Int.one_mul, Int.one_mul]
          exact h1.symm
        · rw [show (-1 : Int) * g = -g by omega, show (-1 : Int) * x = -x by omega, Int.neg_mul_neg]
          exact h1.symm
      · unfold jpo
        rw [if_neg he, if_neg he, Int.mul_zero]
    · have h1 : jgk V p 13 * k ∣ jgk V p 13 := jgk_max V p _ (fun e he => by
        have h2 := Int.natAbs_dvd_natAbs.mpr (hk e)
        rw [jpo_at he, hW e he, Int.natAbs_mul] at h2
        have h3 := congrArg Int.natAbs (hd e he)
        rw [Int.natAbs_mul] at h3
        have h4 : f.natAbs = 1 := by omega
        rw [h4, Nat.one_mul] at h2
        rw [← h3]
        exact Nat.mul_dvd_mul_left _ h2) 13 (Nat.le_refl _)
      obtain ⟨z, hz⟩ := h1
      have h5 : k * z = 1 := by
        refine Nat.eq_of_mul_eq_mul_left (show 0 < jgk V p 13 by omega) ?_
        rw [← Nat.mul_assoc, ← hz, Nat.mul_one]
      exact Nat.dvd_one.mp ⟨z, h5.symm⟩
section JCM
variable {D : Nat} {hp h : mj_H} {q0 q1 q2 q3 : Nat} {fs : List Value} {V : Nat → Int} {a b to : Nat}
theorem jp_cm (G : jG hp q0 q1 q2 q3 fs) {J : pz_P → pz_P → Prop} (ha : a ≤ 49) (ha2 : a ≠ 2) (ha3 : a ≠ 3) (hb : b ≤ 49) (hb2 : b ≠ 2) (hb3 : b ≠ 3) (hab : a ≠ b) 
    (hJf : ∀ (x y : pz_P) (db n : Nat), J x y → pz_lt x (db + n) → (1 ≤ n → x (db + n - 1) ≠ 0) → pz_lt y (db + 1) → y db ≠ 0 → db < 13 → ∃ al be : Nat, 1 ≤ be ∧ (∀ i, (x i).natAbs ≤ al) ∧ (∀ i, (y i).natAbs ≤ be) ∧ al * (2 * be) ^ n < jB ^ 698)
    (hJs : ∀ (x y q r r1 : pz_P) (db n : Nat), J x y → pz_lt y (db + 1) → y db ≠ 0 → pz_sc (y db ^ n) x = pz_add (pz_mul q y) r → pz_lt q 13 → pz_lt r db → ((r = pz_0 ∧ r1 = pz_0) ∨ ∃ c : Int, c ≠ 0 ∧ r = pz_sc c r1 ∧ pz_prim r1) → J y r1)
    {Q : mj_R → Prop}
    (hend : ∀ (W : Nat → Int) (h : mj_H) (e4 : Option Value), jS hp q1 q2 q3 W h → (∀ s, (s < a * 13 ∨ a * 13 + 13 ≤ s) → (s < b * 13 ∨ b * 13 + 13 ≤ s) → (s < 26 ∨ 52 ≤ s) → s ≠ 652 → s ≠ 653 → s ≠ 654 → s ≠ 655 → s ≠ 663 → s ≠ 664 → W s = V s) → J (jpo W a) (jpo W b) → (∀ e, e < 13 → W (b * 13 + e) = 0) → mj_T (D + 8) mj_m212 48 [some (.ref q0), some (.int (jn (to : Nat))), some (.int (jn (a : Nat))), some (.int (jn (b : Nat))), e4] [] h Q) :
    ∀ (d : Nat) (W : Nat → Int) (h : mj_H) (e4 : Option Value), jdg W b 13 ≤ d → jS hp q1 q2 q3 W h → (∀ s, (s < a * 13 ∨ a * 13 + 13 ≤ s) → (s < b * 13 ∨ b * 13 + 13 ≤ s) → (s < 26 ∨ 52 ≤ s) → s ≠ 652 → s ≠ 653 → s ≠ 654 → s ≠ 655 → s ≠ 663 → s ≠ 664 → W s = V s) → J (jpo W a) (jpo W b) → mj_T (D + 8) mj_m212 10 [some (.ref q0), some (.int (jn (to : Nat))), some (.int (jn (a : Nat))), some (.int (jn (b : Nat))), e4] [] h Q := by
  intro d
  induction d with
  | zero =>
    intro W h e4 hd hs hf hJ
    have hd0 : jdg W b 13 = 0 := by omega
    iterate 2 refine mj_T.pl rfl rfl rfl rfl ?_
    refine mj_T.call (ins := .invokevirtual 114) rfl rfl (Nat.le_of_ble_eq_true rfl) (Nat.le_of_ble_eq_true rfl) (by simp [mj_recv, jS_a G hs]) rfl (jp_degreeOf (D := D + 6) G (p := b) (by omega) hs) (fun v' h' hq' => ?_) (fun i h' hq' => by cases hq')
    cases hq'
    rw [hd0]
    refine mj_T.if0 (a := ((0 : Nat) : Int) - 1) rfl ⟨by decide, by decide⟩ (fun hc => ?_) (fun hc => ?_)
    · exact hend W h e4 hs hf hJ (fun e he => jdg_zero W b 13 e (by omega) he)
    · simp [jc] at hc
  | succ d ih =>
    intro W h e4 hd hs hf hJ
    have hdl := jdg_le W b 13
    iterate 2 refine mj_T.pl rfl rfl rfl rfl ?_
    refine mj_T.call (ins := .invokevirtual 114) rfl rfl (Nat.le_of_ble_eq_true rfl) (Nat.le_of_ble_eq_true rfl) (by simp [mj_recv, jS_a G hs]) rfl (jp_degreeOf (D := D + 6) G (p := b) (by omega) hs) (fun v' h' hq' => ?_) (fun i h' hq' => by cases hq')
    cases hq'
    refine mj_T.if0 (a := (jdg W b 13 : Int) - 1) rfl ⟨by omega, by omega⟩ (fun hc => ?_) (fun hc => ?_)
    · simp only [jc, decide_eq_true_eq] at hc
      exact hend W h e4 hs hf hJ (fun e he => jdg_zero W b 13 e (by omega) he)
    simp only [jc, decide_eq_false_iff_not] at hc
    obtain ⟨db, hdb⟩ : ∃ db, jdg W b 13 = db + 1 := ⟨jdg W b 13 - 1, by omega⟩
    have hlead := jdg_ne W b 13 (by omega)
    rw [hdb, Nat.add_sub_cancel] at hlead
    have hyl : pz_lt (jpo W b) (db + 1) := fun i hi => by
      unfold jpo
      split
      · rename_i c
        exact jdg_zero W b 13 i (by omega) c
      · rfl
    have ydb : jpo W b db = W (b * 13 + db) := jpo_at (by omega)
    have hal1 := jdg_le W a 13
    have hxl : pz_lt (jpo W a) (db + (jdg W a 13 - db)) := fun i hi => by
      unfold jpo
      split
      · rename_i c
        exact jdg_zero W a 13 i (by omega) c
      · rfl
    have hxn : 1 ≤ jdg W a 13 - db → jpo W a (db + (jdg W a 13 - db) - 1) ≠ 0 := fun hn => by
      rw [show db + (jdg W a 13 - db) - 1 = jdg W a 13 - 1 by omega, jpo_at (show jdg W a 13 - 1 < 13 by omega)]
      exact jdg_ne W a 13 (by omega)
    obtain ⟨al, be, hbe1, hal0, hbe0, hfit⟩ := hJf _ _ db (jdg W a 13 - db) hJ hxl hxn hyl (by rw [ydb]; exact hlead) (by omega)
    have hal : ∀ e, e < 13 → (W (a * 13 + e)).natAbs ≤ al := fun e he => by
      rw [← jpo_at (V := W) (p := a) he]
      exact hal0 e
    have hbe : ∀ e, e < 13 → (W (b * 13 + e)).natAbs ≤ be := fun e he => by
      rw [← jpo_at (V := W) (p := b) he]
      exact hbe0 e
    iterate 5 refine mj_T.pl rfl rfl rfl rfl ?_
    refine mj_T.call (ins := .invokevirtual 145) rfl rfl (Nat.le_of_ble_eq_true rfl) (Nat.le_of_ble_eq_true rfl) (by simp [mj_recv, jS_a G hs]) rfl (jp_dividesPoly (D := D + 3) G (lc := W (b * 13 + db)) (al := al) (be := be) ha ha2 ha3 hb hb2 hb3 hdb rfl hal hbe hbe1 hfit hs) (fun v' h1 hq' => ?_) (fun i h' hq' => by obtain ⟨_, _, _, _, _, _, _, h⟩ := hq'; cases h)
    obtain ⟨W1, _, hs1, k1, k2, k3, k4, hq'⟩ := hq'
    cases hq'
    iterate 4 refine mj_T.pl rfl rfl rfl rfl ?_
    refine mj_T.call (ins := .invokevirtual 124) rfl rfl (Nat.le_of_ble_eq_true rfl) (Nat.le_of_ble_eq_true rfl) (by simp [mj_recv, jS_a G hs1]) rfl (jp_copiesPoly (D := D + 5) G (p := a) (q := b) (by omega) (by omega) hab hs1) (fun v' h2 hq' => ?_) (fun i h' hq' => by obtain ⟨_, _, h⟩ := hq'; cases h)
    obtain ⟨_, hs2, hq'⟩ := hq'
    cases hq'
    have e1 : ∀ e, e < 13 → jfl W1 a (fun e => W1 (b * 13 + e)) 13 (a * 13 + e) = W1 (b * 13 + e) := fun e he => jfl_at _ a _ he
    have e2 : ∀ s, (s < a * 13 ∨ a * 13 + 13 ≤ s) → jfl W1 a (fun e => W1 (b * 13 + e)) 13 s = W1 s := fun s hc => jfl_off _ a _ hc
    generalize jfl W1 a (fun e => W1 (b * 13 + e)) 13 = W2 at hs2 e1 e2
    iterate 2 refine mj_T.pl rfl rfl rfl rfl ?_
    refine mj_T.call (ins := .invokevirtual 142) rfl rfl (Nat.le_of_ble_eq_true rfl) (Nat.le_of_ble_eq_true rfl) (by simp [mj_recv, jS_a G hs2]) rfl (jp_makesPrimitive (D := D) G (p := 3) (by omega) hs2) (fun v' h3 hq' => ?_) (fun i h' hq' => by obtain ⟨_, _, _, _, _, h⟩ := hq'; cases h)
    obtain ⟨W3, _, hs3, ⟨f, hf1, k5⟩, k6, hq'⟩ := hq'
    cases hq'
    iterate 3 refine mj_T.pl rfl rfl rfl rfl ?_
    refine mj_T.call (ins := .invokevirtual 124) rfl rfl (Nat.le_of_ble_eq_true rfl) (Nat.le_of_ble_eq_true rfl) (by simp [mj_recv, jS_a G hs3]) rfl (jp_copiesPoly (D := D + 5) G (p := b) (q := 3) (by omega) (by omega) hb3 hs3) (fun v' h4 hq' => ?_) (fun i h' hq' => by obtain ⟨_, _, h⟩ := hq'; cases h)
    obtain ⟨_, hs4, hq'⟩ := hq'
    cases hq'
    have e3 : ∀ e, e < 13 → jfl W3 b (fun e => W3 (3 * 13 + e)) 13 (b * 13 + e) = W3 (3 * 13 + e) := fun e he => jfl_at _ b _ he
    have e5 : ∀ s, (s < b * 13 ∨ b * 13 + 13 ≤ s) → jfl W3 b (fun e => W3 (3 * 13 + e)) 13 s = W3 s := fun s hc => jfl_off _ b _ hc
    generalize jfl W3 b (fun e => W3 (3 * 13 + e)) 13 = W4 at hs4 e3 e5
    have pa : jpo W4 a = jpo W b := funext fun e => by
      by_cases he : e < 13
      · rw [jpo_at he, jpo_at he, e5 _ (by omega), k6 _ (by omega) (by omega) (by omega) (by omega) (by omega) (by omega), e1 e he, k1 _ (by omega) (by omega) (by omega)]
      · unfold jpo
        rw [if_neg he, if_neg he]
    have pb : jpo W4 b = jpo W3 3 := funext fun e => by
      by_cases he : e < 13
      · rw [jpo_at he, jpo_at he, e3 e he]
      · unfold jpo
        rw [if_neg he, if_neg he]
    have pr : jpo W2 3 = jpo W1 3 := funext fun e => by
      by_cases he : e < 13
      · rw [jpo_at he, jpo_at he, e2 _ (by omega)]
      · unfold jpo
        rw [if_neg he, if_neg he]
    have hpr := jcm_prim (V := W2) (W := W3) (p := 3) hf1 k5
    rw [pr] at hpr
    have hrl : pz_lt (jpo W1 3) db := fun i hi => by
      unfold jpo
      split
      · rename_i c
        exact k3 i hi c
      · rfl
    refine mj_T.pl rfl rfl rfl rfl ?_
    refine ih W4 h4 _ ?_ hs4 (fun s c1 c2 c3 c4 c5 c6 c7 c8 c9 => ?_) ?_
    · have z : ∀ e, db ≤ e → e < 13 → W4 (b * 13 + e) = 0 := fun e c1 c2 => by
        rw [e3 e c2, k5 e c2, e2 _ (by omega), k3 e c1 c2, Int.zero_tdiv, Int.mul_zero]
      refine Nat.le_of_not_lt (fun hlt => ?_)
      exact jdg_ne W4 b 13 (by omega) (z (jdg W4 b 13 - 1) (by omega) (by have := jdg_le W4 b 13; omega))
    · rw [e5 s c2, k6 s (by omega) c4 c5 c7 c8 c9, e2 s c1, k1 s c3 c4 c6]
      exact hf s c1 c2 c3 c4 c5 c6 c7 c8 c9
    · rw [pa, pb]
      refine hJs (jpo W a) (jpo W b) (jpo W1 2) (jpo W1 3) (jpo W3 3) db (jdg W a 13 - db) hJ hyl (by rw [ydb]; exact hlead) (by rw [ydb]; exact k2) (jpo_lt W1 2) hrl hpr
end JCM
/-! The reference's greatest common divisor of polynomials, whole, over any invariant. -/
section JCW
variable {D : Nat} {hp h : mj_H} {q0 q1 q2 q3 : Nat} {fs : List Value} {V : Nat → Int} {a b to : Nat}
theorem jp_commonsPoly (G : jG hp q0 q1 q2 q3 fs) {J : pz_P → pz_P → Prop} (hto : to ≤ 49) (hta : to ≠ a) (ha : a ≤ 49) (ha2 : a ≠ 2) (ha3 : a ≠ 3) (hb : b ≤ 49) (hb2 : b ≠ 2) (hb3 : b ≠ 3) (hab : a ≠ b) 
    (hJf : ∀ (x y : pz_P) (db n : Nat), J x y → pz_lt x (db + n) → (1 ≤ n → x (db + n - 1) ≠ 0) → pz_lt y (db + 1) → y db ≠ 0 → db < 13 → ∃ al be : Nat, 1 ≤ be ∧ (∀ i, (x i).natAbs ≤ al) ∧ (∀ i, (y i).natAbs ≤ be) ∧ al * (2 * be) ^ n < jB ^ 698)
    (hJs : ∀ (x y q r r1 : pz_P) (db n : Nat), J x y → pz_lt y (db + 1) → y db ≠ 0 → pz_sc (y db ^ n) x = pz_add (pz_mul q y) r → pz_lt q 13 → pz_lt r db → ((r = pz_0 ∧ r1 = pz_0) ∨ ∃ c : Int, c ≠ 0 ∧ r = pz_sc c r1 ∧ pz_prim r1) → J y r1)
    (hJ0 : ∀ x y : pz_P, ((jpo V a = pz_0 ∧ x = pz_0) ∨ ∃ c : Int, c ≠ 0 ∧ jpo V a = pz_sc c x ∧ pz_prim x) → ((jpo V b = pz_0 ∧ y = pz_0) ∨ ∃ c : Int, c ≠ 0 ∧ jpo V b = pz_sc c y ∧ pz_prim y) → J x y) (hs : jS hp q1 q2 q3 V h) :
    mj_Ok (D + 9) 212 [.ref q0, .int (jn (to : Nat)), .int (jn (a : Nat)), .int (jn (b : Nat))] h (fun r => ∃ (W : Nat → Int) (h' : mj_H), jS hp q1 q2 q3 W h' ∧ (∀ s, (s < to * 13 ∨ to * 13 + 13 ≤ s) → (s < a * 13 ∨ a * 13 + 13 ≤ s) → (s < b * 13 ∨ b * 13 + 13 ≤ s) → (s < 26 ∨ 52 ≤ s) → s ≠ 652 → s ≠ 653 → s ≠ 654 → s ≠ 655 → s ≠ 663 → s ≠ 664 → W s = V s) ∧ J (jpo W to) pz_0 ∧ r = (.inl none, h')) := by
  refine mj_Ok.of (M := mj_m212) rfl rfl rfl ?_
  iterate 2 refine mj_T.pl rfl rfl rfl rfl ?_
  refine mj_T.call (ins := .invokevirtual 142) rfl rfl (Nat.le_of_ble_eq_true rfl) (Nat.le_of_ble_eq_true rfl) (by simp [mj_recv, jS_a G hs]) rfl (jp_makesPrimitive (D := D) G (p := a) ha hs) (fun v' h1 hq' => ?_) (fun i h' hq' => by obtain ⟨_, _, _, _, _, h⟩ := hq'; cases h)
  obtain ⟨W1, _, hs1, ⟨f1, hf1, k1⟩, k2, hq'⟩ := hq'
  cases hq'
  iterate 2 refine mj_T.pl rfl rfl rfl rfl ?_
  refine mj_T.call (ins := .invokevirtual 142) rfl rfl (Nat.le_of_ble_eq_true rfl) (Nat.le_of_ble_eq_true rfl) (by simp [mj_recv, jS_a G hs1]) rfl (jp_makesPrimitive (D := D) G (p := b) hb hs1) (fun v' h2 hq' => ?_) (fun i h' hq' => by obtain ⟨_, _, _, _, _, h⟩ := hq'; cases h)
  obtain ⟨W2, _, hs2, ⟨f2, hf2, k3⟩, k4, hq'⟩ := hq'
  cases hq'
  have p1 := jcm_prim (V := V) (W := W1) (p := a) hf1 k1
  have p2 := jcm_prim (V := W1) (W := W2) (p := b) hf2 k3
  have e1 : jpo W1 b = jpo V b := funext fun e => by
    by_cases he : e < 13
    · rw [jpo_at he, jpo_at he, k2 _ (by omega) (by omega) (by omega) (by omega) (by omega) (by omega)]
    · unfold jpo
      rw [if_neg he, if_neg he]
  have e2 : jpo W2 a = jpo W1 a := funext fun e => by
    by_cases he : e < 13
    · rw [jpo_at he, jpo_at he, k4 _ (by omega) (by omega) (by omega) (by omega) (by omega) (by omega)]
    · unfold jpo
      rw [if_neg he, if_neg he]
  rw [e1] at p2
  have hJ : J (jpo W2 a) (jpo W2 b) := by
    rw [e2]
    exact hJ0 _ _ p1 p2
  refine jp_cm (D := D) (V := V) (a := a) (b := b) (to := to) G (J := J) ha ha2 ha3 hb hb2 hb3 hab hJf hJs (fun W3 h3 e4 hs3 hf3 hJ3 hz3 => ?_) (jdg W2 b 13) W2 h2 _ (Nat.le_refl _) hs2 (fun s c1 c2 c3 c4 c5 c6 c7 c8 c9 => by rw [k4 s c2 c4 c5 c7 c8 c9, k2 s c1 c4 c5 c7 c8 c9]) hJ
  iterate 3 refine mj_T.pl rfl rfl rfl rfl ?_
  refine mj_T.call (ins := .invokevirtual 124) rfl rfl (Nat.le_of_ble_eq_true rfl) (Nat.le_of_ble_eq_true rfl) (by simp [mj_recv, jS_a G hs3]) rfl (jp_copiesPoly (D := D + 5) G (p := to) (q := a) (by omega) (by omega) hta hs3) (fun v' h4 hq' => ?_) (fun i h' hq' => by obtain ⟨_, _, h⟩ := hq'; cases h)
  obtain ⟨_, hs4, hq'⟩ := hq'
  cases hq'
  refine mj_T.ret rfl rfl rfl ⟨_, h4, hs4, fun s c0 c1 c2 c3 c4 c5 c6 c7 c8 c9 => ?_, ?_, rfl⟩
  · rw [jfl_off _ to _ c0]
    exact hf3 s c1 c2 c3 c4 c5 c6 c7 c8 c9
  · have e3 : jpo (jfl W3 to (fun e => W3 (a * 13 + e)) 13) to = jpo W3 a := funext fun e => by
      by_cases he : e < 13
      · rw [jpo_at he, jpo_at he, jfl_at _ to _ he]
      · unfold jpo
        rw [if_neg he, if_neg he]
    have e4 : jpo W3 b = pz_0 := funext fun e => by
      by_cases he : e < 13
      · rw [jpo_at he, hz3 e he]
        rfl
      · unfold jpo
        rw [if_neg he]
        rfl
    rw [e3, ← e4]
    exact hJ3
end JCW
/-! The reference's polynomials: whether they fit, whether a product is too high. -/
def jib (V : Nat → Int) (p : Nat) : Nat → Nat
  | 0 => 1
  | k + 1 => if jib V p k = 0 then 0 else if jnl (V (p * 13 + k)).natAbs ≤ 2 then 1 else 0
theorem jib_le (V : Nat → Int) (p : Nat) : ∀ k, jib V p k ≤ 1
  | 0 => Nat.le_refl _
  | k + 1 => by unfold jib; (repeat' split) <;> omega
theorem jib_one {V : Nat → Int} {p : Nat} : ∀ k, jib V p k = 1 → ∀ e, e < k → jnl (V (p * 13 + e)).natAbs ≤ 2
  | 0, _, e, he => by omega
  | k + 1, h, e, he => by
    unfold jib at h
    split at h
    · omega
    · rename_i c
      split at h
      · rename_i c2
        by_cases q : e = k
        · rw [q]; exact c2
        · exact jib_one k (by have := jib_le V p k; omega) e (by omega)
      · omega
section JIB
variable {D : Nat} {hp h : mj_H} {q0 q1 q2 q3 : Nat} {fs : List Value} {V : Nat → Int} {p : Nat}
theorem jp_ib_loop (G : jG hp q0 q1 q2 q3 fs) (hp9 : p ≤ 50) (hlen : ∀ e, e < 13 → jnl (V (p * 13 + e)).natAbs ≤ 700) (hs : jS hp q1 q2 q3 V h) {Q : mj_R → Prop} (hend : Q (.inl (some (.int (jn (jib V p 13 : Nat)))), h)) :
    ∀ (d k : Nat), k + d = 13 → mj_T (D + 1) mj_m205 4 [some (.ref q0), some (.int (jn (p : Nat))), some (.int (jn (jib V p k : Nat))), some (.int (jn (k : Nat)))] [] h Q := by
  intro d
  induction d with
  | zero =>
    intro k hk
    have hk : k = 13 := by omega
    subst hk
    iterate 2 refine mj_T.pl rfl rfl rfl rfl ?_
    refine mj_T.icmp (a := ((13 : Nat) : Int)) (b := 13) rfl ⟨by decide, by decide⟩ ⟨by decide, by decide⟩ (fun hc => ?_) (fun hc => ?_)
    · have hl := jib_le V p 13
      generalize jib V p 13 = z at hl hend ⊢
      refine mj_T.pl rfl rfl rfl rfl ?_
      rcases (show z = 0 ∨ z = 1 by omega) with rfl | rfl
      · exact mj_T.ret rfl rfl rfl hend
      · exact mj_T.ret rfl rfl rfl hend
    · simp [jc] at hc
  | succ d ih =>
    intro k hk
    have hl := jib_le V p k
    have fin : ∀ y : Int, y = ((jib V p (k + 1) : Nat) : Int) → mj_T (D + 1) mj_m205 32 [some (.ref q0), some (.int (jn (p : Nat))), some (.int (jn (jib V p k : Nat))), some (.int (jn (k : Nat)))] [.int (jn y)] h Q := fun y hy => by
      subst hy
      refine mj_T.pl rfl rfl rfl rfl ?_
      refine mj_T.iinc (a := k) rfl rfl ?_
      refine mj_T.pl rfl rfl rfl rfl ?_
      exact ih (k + 1) (by omega)
    iterate 2 refine mj_T.pl rfl rfl rfl rfl ?_
    refine mj_T.icmp (a := (k : Int)) (b := 13) rfl ⟨by omega, by omega⟩ ⟨by decide, by decide⟩ (fun hc => ?_) (fun hc => ?_)
    · simp only [jc, decide_eq_true_eq] at hc
      omega
    refine mj_T.pl rfl rfl rfl rfl ?_
    refine mj_T.if0 (a := ((jib V p k : Nat) : Int)) rfl ⟨by omega, by omega⟩ (fun hc2 => ?_) (fun hc2 => ?_)
    · simp only [jc, decide_eq_true_eq] at hc2
      refine mj_T.pl rfl rfl rfl rfl ?_
      refine fin 0 ?_
      unfold jib
      rw [if_pos (by omega)]
      rfl
    · simp only [jc, decide_eq_false_iff_not] at hc2
      iterate 3 refine mj_T.pl rfl rfl rfl rfl ?_
      refine mj_T.call (ins := .invokestatic 104) rfl rfl (Nat.le_of_ble_eq_true rfl) (Nat.le_of_ble_eq_true rfl) rfl rfl (jq_slot (D := D) (p := p) (i := k)) (fun v' h' hq' => ?_) (fun i h' hq' => by cases hq')
      cases hq'
      refine mj_T.call (ins := .invokevirtual 52) rfl rfl (Nat.le_of_ble_eq_true rfl) (Nat.le_of_ble_eq_true rfl) (by simp [mj_recv, jS_a G hs]) rfl (jS_length (D := D) G (s := p * 13 + k) (by omega) hs) (fun v' h' hq' => ?_) (fun i h' hq' => by cases hq')
      cases hq'
      refine mj_T.pl rfl rfl rfl rfl ?_
      have hlk := hlen k (by omega)
      refine mj_T.icmp (a := ((jnl (V (p * 13 + k)).natAbs : Nat) : Int)) (b := 2) rfl ⟨by omega, by omega⟩ ⟨by decide, by decide⟩ (fun hc3 => ?_) (fun hc3 => ?_)
      · simp only [jc, decide_eq_true_eq] at hc3
        refine mj_T.pl rfl rfl rfl rfl ?_
        refine fin 0 ?_
        unfold jib
        rw [if_neg (by omega), if_neg (by omega)]
        rfl
      · simp only [jc, decide_eq_false_iff_not] at hc3
        iterate 2 refine mj_T.pl rfl rfl rfl rfl ?_
        refine fin 1 ?_
        unfold jib
        rw [if_neg (by omega), if_pos (by omega)]
        rfl
theorem jp_isInBounds (G : jG hp q0 q1 q2 q3 fs) (hp9 : p ≤ 50) (hlen : ∀ e, e < 13 → jnl (V (p * 13 + e)).natAbs ≤ 700) (hs : jS hp q1 q2 q3 V h) : mj_Ok (D + 2) 205 [.ref q0, .int (jn (p : Nat))] h (fun r => r = (.inl (some (.int (jn (jib V p 13 : Nat)))), h)) := by
  refine mj_Ok.of (M := mj_m205) rfl rfl rfl ?_
  iterate 4 refine mj_T.pl rfl rfl rfl rfl ?_
  exact jp_ib_loop (D := D) G hp9 hlen hs (Q := fun r => r = (.inl (some (.int (jn (jib V p 13 : Nat)))), h)) rfl 13 0 (by omega)
end JIB
/-! The reference's polynomials: whether a product is too high. -/
section JTH
variable {D : Nat} {hp h : mj_H} {q0 q1 q2 q3 : Nat} {fs : List Value} {V : Nat → Int} {a b : Nat}
theorem jp_isTooHigh (G : jG hp q0 q1 q2 q3 fs) (ha : a ≤ 50) (hb : b ≤ 50) (hs : jS hp q1 q2 q3 V h) : mj_Ok (D + 3) 203 [.ref q0, .int (jn (a : Nat)), .int (jn (b : Nat))] h (fun r => (1 ≤ jdg V a 13 ∧ 1 ≤ jdg V b 13 ∧ 14 < jdg V a 13 + jdg V b 13 ∧ r = (.inl (some (.int (jn 1))), h)) ∨ ((jdg V a 13 = 0 ∨ jdg V b 13 = 0 ∨ jdg V a 13 + jdg V b 13 ≤ 14) ∧ r = (.inl (some (.int (jn 0))), h))) := by
  have hda := jdg_le V a 13
  have hdb := jdg_le V b 13
  refine mj_Ok.of (M := mj_m203) rfl rfl rfl ?_
  iterate 2 refine mj_T.pl rfl rfl rfl rfl ?_
  refine mj_T.call (ins := .invokevirtual 114) rfl rfl (Nat.le_of_ble_eq_true rfl) (Nat.le_of_ble_eq_true rfl) (by simp [mj_recv, jS_a G hs]) rfl (jp_degreeOf (D := D) G (p := a) (by omega) hs) (fun v' h' hq' => ?_) (fun i h' hq' => by cases hq')
  cases hq'
  refine mj_T.if0 (a := (jdg V a 13 : Int) - 1) rfl ⟨by omega, by omega⟩ (fun hc => ?_) (fun hc => ?_)
  · simp only [jc, decide_eq_true_eq] at hc
    refine mj_T.pl rfl rfl rfl rfl ?_
    exact mj_T.ret rfl rfl rfl (Or.inr ⟨Or.inl (by omega), rfl⟩)
  simp only [jc, decide_eq_false_iff_not] at hc
  iterate 2 refine mj_T.pl rfl rfl rfl rfl ?_
  refine mj_T.call (ins := .invokevirtual 114) rfl rfl (Nat.le_of_ble_eq_true rfl) (Nat.le_of_ble_eq_true rfl) (by simp [mj_recv, jS_a G hs]) rfl (jp_degreeOf (D := D) G (p := b) (by omega) hs) (fun v' h' hq' => ?_) (fun i h' hq' => by cases hq')
  cases hq'
  refine mj_T.if0 (a := (jdg V b 13 : Int) - 1) rfl ⟨by omega, by omega⟩ (fun hc2 => ?_) (fun hc2 => ?_)
  · simp only [jc, decide_eq_true_eq] at hc2
    refine mj_T.pl rfl rfl rfl rfl ?_
    exact mj_T.ret rfl rfl rfl (Or.inr ⟨Or.inr (Or.inl (by omega)), rfl⟩)
  simp only [jc, decide_eq_false_iff_not] at hc2
  iterate 2 refine mj_T.pl rfl rfl rfl rfl ?_
  refine mj_T.call (ins := .invokevirtual 114) rfl rfl (Nat.le_of_ble_eq_true rfl) (Nat.le_of_ble_eq_true rfl) (by simp [mj_recv, jS_a G hs]) rfl (jp_degreeOf (D := D) G (p := a) (by omega) hs) (fun v' h' hq' => ?_) (fun i h' hq' => by cases hq')
  cases hq'
  iterate 2 refine mj_T.pl rfl rfl rfl rfl ?_
  refine mj_T.call (ins := .invokevirtual 114) rfl rfl (Nat.le_of_ble_eq_true rfl) (Nat.le_of_ble_eq_true rfl) (by simp [mj_recv, jS_a G hs]) rfl (jp_degreeOf (D := D) G (p := b) (by omega) hs) (fun v' h' hq' => ?_) (fun i h' hq' => by cases hq')
  cases hq'
  refine mj_T.iadd (a := (jdg V a 13 : Int) - 1) (b := (jdg V b 13 : Int) - 1) rfl ?_
  refine mj_T.pl rfl rfl rfl rfl ?_
  refine mj_T.icmp (a := (jdg V a 13 : Int) - 1 + ((jdg V b 13 : Int) - 1)) (b := 12) rfl ⟨by omega, by omega⟩ ⟨by decide, by decide⟩ (fun hc3 => ?_) (fun hc3 => ?_)
  · simp only [jc, decide_eq_true_eq] at hc3
    refine mj_T.pl rfl rfl rfl rfl ?_
    exact mj_T.ret rfl rfl rfl (Or.inr ⟨Or.inr (Or.inr (by omega)), rfl⟩)
  · simp only [jc, decide_eq_false_iff_not] at hc3
    iterate 2 refine mj_T.pl rfl rfl rfl rfl ?_
    exact mj_T.ret rfl rfl rfl (Or.inl ⟨by omega, by omega, by omega, rfl⟩)
end JTH
/-! The row of remainders of two registers: an invariant with sizes by degrees. -/
def kq_F (A m : Nat) : Nat := m * (A * (2 * m * A) ^ (m - 1))
theorem kq_F_mono {A m n : Nat} (hA : 1 ≤ A) (h : m ≤ n) : kq_F A m ≤ kq_F A n := by
  unfold kq_F
  rcases Nat.eq_zero_or_pos n with hn | hn
  · have hm : m = 0 := by omega
    subst hm
    rw [Nat.zero_mul]
    exact Nat.zero_le _
  · have h1 : 2 * m * A ≤ 2 * n * A := Nat.mul_le_mul_right _ (Nat.mul_le_mul_left _ h)
    have h2 : 0 < 2 * n * A := Nat.mul_pos (by omega) (by omega)
    exact Nat.mul_le_mul h (Nat.mul_le_mul_left _ (Nat.le_trans (Nat.pow_le_pow_left h1 _) (Nat.pow_le_pow_right h2 (by omega))))
theorem kq_F_one (A : Nat) : kq_F A 1 = A := by
  show 1 * (A * 1) = A
  omega
theorem kq_F_ge {A n : Nat} (hA : 1 ≤ A) (h : 1 ≤ n) : A ≤ kq_F A n := by
  have := kq_F_mono hA h
  rw [kq_F_one] at this
  exact this
def kq_rel (f f0 : pz_P) : Prop := (f = pz_0 ∧ f0 = pz_0) ∨ ∃ c : Int, c ≠ 0 ∧ f = pz_sc c f0 ∧ pz_prim f0
theorem kq_deg : ∀ (N : Nat) (u : pz_P), pz_lt u N → u ≠ pz_0 → ∃ d, d < N ∧ pz_lt u (d + 1) ∧ u d ≠ 0
  | 0, u, h, h0 => absurd (pz_lt.zero u h) h0
  | N + 1, u, h, h0 => by
    by_cases c : u N = 0
    · obtain ⟨d, h1, h2, h3⟩ := kq_deg N u (fun i hi => by
        by_cases e : i = N
        · rw [e, c]
        · exact h i (by omega)) h0
      exact ⟨d, by omega, h2, h3⟩
    · exact ⟨N, by omega, h, c⟩
theorem kq_lead_eq {u : pz_P} {a b : Nat} (h1 : pz_lt u (a + 1)) (h2 : u a ≠ 0) (h3 : pz_lt u (b + 1)) (h4 : u b ≠ 0) : a = b := by
  rcases Nat.lt_trichotomy a b with c | c | c
  · exact absurd (h1 b (by omega)) h4
  · exact c
  · exact absurd (h3 a (by omega)) h2
theorem kq_prim_ne {u : pz_P} (h : pz_prim u) : u ≠ pz_0 := fun h0 => by
  have := h 2 (fun i => by rw [h0]; exact ⟨0, rfl⟩)
  omega
theorem kq_swap {x r : pz_P} {c z : Int} (hx : pz_prim x) (hr : pz_prim r) (hc : c ≠ 0) (h : pz_sc z x = pz_sc c r) : ∀ i, (r i).natAbs = (x i).natAbs := by
  have h1 : ∀ i, z * x i = c * r i := fun i => congrFun h i
  obtain ⟨t, ht⟩ := pz_prim_dvd hx hc (fun i => ⟨r i, h1 i⟩)
  have h2 : ∀ i, r i = t * x i := fun i => by
    have k := h1 i
    rw [ht, Int.mul_assoc] at k
    exact (Int.eq_of_mul_eq_mul_left hc k).symm
  have h3 : t.natAbs = 1 := hr _ (fun i => by
    rw [h2 i]
    exact Int.dvd_trans (Int.natAbs_dvd.mpr (Int.dvd_refl t)) ⟨x i, rfl⟩)
  intro i
  rw [h2 i, Int.natAbs_mul, h3, Nat.one_mul]
theorem kq_rel_lt {f f0 : pz_P} {d : Nat} (h : kq_rel f f0) (hf : pz_lt f d) : pz_lt f0 d := by
  rcases h with ⟨_, k⟩ | ⟨c, hc, k, _⟩
  · rw [k]
    exact fun i _ => rfl
  · intro i hi
    have h1 : c * f0 i = 0 := by rw [← hf i hi, k]; rfl
    rcases Int.mul_eq_zero.mp h1 with e | e
    · exact absurd e hc
    · exact e
theorem kq_rel_le {f f0 : pz_P} {A : Nat} (h : kq_rel f f0) (hf : ∀ i, (f i).natAbs ≤ A) : ∀ i, (f0 i).natAbs ≤ A := by
  rcases h with ⟨_, k⟩ | ⟨c, hc, k, _⟩
  · rw [k]
    exact fun i => Nat.zero_le _
  · intro i
    have h1 := hf i
    rw [k] at h1
    have h2 : (pz_sc c f0 i).natAbs = c.natAbs * (f0 i).natAbs := Int.natAbs_mul _ _
    rw [h2] at h1
    have h3 : 1 ≤ c.natAbs := by omega
    have := Nat.mul_le_mul_right (f0 i).natAbs h3
    omega
theorem kq_rel_or {f f0 : pz_P} (h : kq_rel f f0) : f0 = pz_0 ∨ pz_prim f0 := by
  rcases h with ⟨_, k⟩ | ⟨c, hc, _, k⟩
  · exact Or.inl k
  · exact Or.inr k
/-- what divides the later two divides the first, but for a number; by polynomials -/
def kq_D (f x y : pz_P) : Prop := ∀ G : pz_P, (∃ (c : Int) (T : pz_P) (N : Nat), c ≠ 0 ∧ pz_lt T N ∧ pz_sc c x = pz_mul T G) → (∃ (c : Int) (T : pz_P) (N : Nat), c ≠ 0 ∧ pz_lt T N ∧ pz_sc c y = pz_mul T G) → ∃ (c : Int) (T : pz_P) (N : Nat), c ≠ 0 ∧ pz_lt T N ∧ pz_sc c f = pz_mul T G
theorem kq_D.start (f g : pz_P) : kq_D f f g := fun _ h _ => h
theorem kq_D.start2 (f g : pz_P) : kq_D g f g := fun _ _ h => h
theorem kq_D.step {f x y r q : pz_P} {c0 c2 : Int} {nq : Nat} (h : kq_D f x y) (hc0 : c0 ≠ 0) (hq : pz_lt q nq) (hrel : pz_sc c0 x = pz_add (pz_mul q y) (pz_sc c2 r)) : kq_D f y r := by
  intro G hy hr
  refine h G ?_ hy
  obtain ⟨a, T, N, a0, aN, a1⟩ := hy
  obtain ⟨b, U, M, b0, bM, b1⟩ := hr
  refine ⟨b * (a * c0), pz_add (pz_sc b (pz_mul q T)) (pz_sc (a * c2) U), nq + N + M, fun e => ?_, ((((hq.mul (c := nq + N) aN (by omega)).sc b).mono (by omega)).add ((bM.sc _).mono (by omega))), ?_⟩
  · rcases Int.mul_eq_zero.mp e with k | k
    · exact b0 k
    · rcases Int.mul_eq_zero.mp k with k | k
      · exact a0 k
      · exact hc0 k
  · have e1 : pz_sc (b * (a * c0)) x = pz_sc (b * a) (pz_sc c0 x) := by rw [pz_sc_sc, Int.mul_assoc]
    rw [e1, hrel, pz_mul_addL, pz_mul_scL, pz_mul_scL, ← b1, pz_mul_assoc, ← a1, pz_mul_scR]
    funext i
    show b * a * (pz_mul q y i + c2 * r i) = b * (a * pz_mul q y i) + a * c2 * (b * r i)
    rw [Int.mul_add, Int.mul_assoc]
    congr 1
    rw [← Int.mul_assoc, ← Int.mul_assoc]
    congr 1
    rw [Int.mul_comm b a, Int.mul_assoc, Int.mul_assoc, Int.mul_comm b c2]
theorem kq_prim_const {u : pz_P} (h : pz_prim u) (h1 : pz_lt u 1) : ∀ i, (u i).natAbs ≤ 1 := fun i => by
  cases i with
  | zero =>
    have := h (u 0).natAbs (fun i => by
      cases i with
      | zero => exact Int.natAbs_dvd.mpr (Int.dvd_refl _)
      | succ i => rw [h1 (i + 1) (by omega)]; exact ⟨0, (Int.mul_zero _).symm⟩)
    omega
  | succ i => rw [h1 (i + 1) (by omega)]; exact Nat.zero_le _
def kq_C (A : Nat) (f0 g0 x y : pz_P) : Prop := ∃ df dg dx dy : Nat, df < 13 ∧ dg < 13 ∧ pz_lt f0 (df + 1) ∧ pz_lt g0 (dg + 1) ∧ dy < dx ∧ dx < 13 ∧ dy ≤ df ∧ dy ≤ dg ∧ pz_lt x (dx + 1) ∧ x dx ≠ 0 ∧ pz_lt y (dy + 1) ∧ y dy ≠ 0 ∧ pz_J f0 g0 df dg x y dx dy ∧ (∀ i, (x i).natAbs ≤ kq_F A (26 - 2 * dx)) ∧ (∀ i, (y i).natAbs ≤ kq_F A (26 - 2 * dx))
def kq_J (A : Nat) (f g x y : pz_P) : Prop := ∃ f0 g0 : pz_P, kq_rel f f0 ∧ kq_rel g g0 ∧ kq_D f0 x y ∧ kq_D g0 x y ∧ (x = pz_0 ∨ pz_prim x) ∧ (y = pz_0 ∨ pz_prim y) ∧ ((x = f0 ∧ y = g0) ∨ (y = pz_0 ∧ pz_lt x 13 ∧ ∀ i, (x i).natAbs ≤ kq_F A 24) ∨ kq_C A f0 g0 x y)
theorem kq_step {A : Nat} (hA : 1 ≤ A) {f g : pz_P} (hf : pz_lt f 13) (hg : pz_lt g 13) (hfA : ∀ i, (f i).natAbs ≤ A) (hgA : ∀ i, (g i).natAbs ≤ A) (x y q r r1 : pz_P) (db : Nat) (hJ : kq_J A f g x y) (hy : pz_lt y (db + 1)) (hyl : y db ≠ 0) {c0 : Int} (hc0 : c0 ≠ 0) (hrel : pz_sc c0 x = pz_add (pz_mul q y) r) (hq : pz_lt q 13) (hr : pz_lt r db) (hr1 : (r = pz_0 ∧ r1 = pz_0) ∨ ∃ c : Int, c ≠ 0 ∧ r = pz_sc c r1 ∧ pz_prim r1) : kq_J A f g y r1 := by
  obtain ⟨f0, g0, k1, k2, k3, k4, k5, k6, k7⟩ := hJ
  obtain ⟨c2, hc2, hrc, hp1⟩ : ∃ c : Int, c ≠ 0 ∧ r = pz_sc c r1 ∧ (r1 = pz_0 ∨ pz_prim r1) := by
    rcases hr1 with ⟨a, b⟩ | ⟨c, a, b, d⟩
    · exact ⟨1, by decide, by rw [a, b]; exact (pz_sc_one _).symm, Or.inl b⟩
    · exact ⟨c, a, b, Or.inr d⟩
  rw [hrc] at hrel
  have hr1l : pz_lt r1 db := fun i hi => by
    have h1 : c2 * r1 i = 0 := by rw [← hr i hi, hrc]; rfl
    rcases Int.mul_eq_zero.mp h1 with e | e
    · exact absurd e hc2
    · exact e
  have hf0 := kq_rel_lt k1 hf
  have hg0 := kq_rel_lt k2 hg
  have hf0A := kq_rel_le k1 hfA
  have hg0A := kq_rel_le k2 hgA
  refine ⟨f0, g0, k1, k2, k3.step hc0 hq hrel, k4.step hc0 hq hrel, k6, hp1, ?_⟩
  by_cases c9 : r1 = pz_0
  · refine Or.inr (Or.inl ⟨c9, ?_⟩)
    rcases k7 with ⟨e1, e2⟩ | ⟨e1, _⟩ | ⟨df, dg, dx, dy, a1, a2, a3, a4, a5, a6, a7, a8, a9, a10, a11, a12, a13, a14, a15⟩
    · rw [e2]
      exact ⟨hg0, fun i => Nat.le_trans (hg0A i) (kq_F_ge hA (by decide))⟩
    · rw [e1] at hyl
      exact absurd rfl hyl
    · exact ⟨a11.mono (by omega), fun i => Nat.le_trans (a15 i) (kq_F_mono hA (by omega))⟩
  · obtain ⟨dr, b1, b2, b3⟩ := kq_deg db r1 hr1l c9
    have hpr : pz_prim r1 := by
      rcases hp1 with e | e
      · exact absurd e c9
      · exact e
    refine Or.inr (Or.inr ?_)
    rcases k7 with ⟨e1, e2⟩ | ⟨e1, _⟩ | ⟨df, dg, dx, dy, a1, a2, a3, a4, a5, a6, a7, a8, a9, a10, a11, a12, a13, a14, a15⟩
    · subst e1
      subst e2
      have hdb : db < 13 := by
        by_cases e : db < 13
        · exact e
        · exact absurd (hg0 db (by omega)) hyl
      by_cases cx : pz_lt x db
      · have hq0 : q = pz_0 := pz_lt.zero _ (pz_deg_of hy hyl 0 13 q hq (fun i hi => by
          have h1 := congrFun hrel i
          have h2 : c0 * x i = pz_mul q y i + c2 * r1 i := h1
          rw [cx i (by omega), hr1l i (by omega), Int.mul_zero, Int.mul_zero] at h2
          omega))
        have hrel2 : pz_sc c0 x = pz_sc c2 r1 := by
          rw [hrel, hq0, pz_mul_0L]
          exact funext fun i => Int.zero_add _
        have hx0 : x ≠ pz_0 := fun e => c9 (pz_sc_0 hc2 (by rw [← hrel2, e]; exact funext fun i => Int.mul_zero _))
        have hpx : pz_prim x := by
          rcases k5 with e | e
          · exact absurd e hx0
          · exact e
        have hsz := kq_swap hpx hpr hc2 hrel2
        obtain ⟨df, d1, d2, d3⟩ := kq_deg db x cx hx0
        have hdr : dr ≤ df := by
          by_cases e : dr ≤ df
          · exact e
          · have h1 := hsz dr
            rw [d2 dr (by omega)] at h1
            exact absurd (Int.natAbs_eq_zero.mp h1) b3
        exact ⟨df, db, db, dr, by omega, hdb, d2, hy, b1, hdb, hdr, by omega, hy, hyl, b2, b3, (pz_J.start x y df db).step hy hyl b2 b1 hc0 hc2 hq hrel, fun i => Nat.le_trans (hg0A i) (kq_F_ge hA (by omega)), fun i => by rw [hsz i]; exact Nat.le_trans (hf0A i) (kq_F_ge hA (by omega))⟩
      · have hx0 : x ≠ pz_0 := fun e => cx (by rw [e]; exact fun i _ => rfl)
        obtain ⟨df, d1, d2, d3⟩ := kq_deg 13 x hf0 hx0
        have hdf : db ≤ df := by
          by_cases e : db ≤ df
          · exact e
          · exact absurd (d2.mono (by omega)) cx
        have hb := pz_bound hf0A hg0A hA d2 hy (pz_J.start x y df db) hdf hdf (Nat.le_refl _) hy hyl hr1l hc0 hc2 hq hrel hpr
        refine ⟨df, db, db, dr, d1, hdb, d2, hy, b1, hdb, by omega, by omega, hy, hyl, b2, b3, (pz_J.start x y df db).step hy hyl b2 b1 hc0 hc2 hq hrel, fun i => Nat.le_trans (hg0A i) (kq_F_ge hA (by omega)), fun i => Nat.le_trans (hb i) ?_⟩
        exact kq_F_mono hA (m := df + db - 2 * db + 2) (by omega)
    · rw [e1] at hyl
      exact absurd rfl hyl
    · have hdd : dy = db := kq_lead_eq a11 a12 hy hyl
      subst hdd
      have hb := pz_bound hf0A hg0A hA a3 a4 a13 (by omega) a7 a8 hy hyl hr1l hc0 hc2 hq hrel hpr
      refine ⟨df, dg, dy, dr, a1, a2, a3, a4, b1, by omega, by omega, by omega, hy, hyl, b2, b3, a13.step hy hyl b2 b1 hc0 hc2 hq hrel, fun i => Nat.le_trans (a15 i) (kq_F_mono hA (by omega)), fun i => Nat.le_trans (hb i) ?_⟩
      exact kq_F_mono hA (m := df + dg - 2 * dy + 2) (by omega)
def kq_fit (A : Nat) : Prop := 1 ≤ A ∧ (∀ d, d < 13 → 1 ≤ d → kq_F A (26 - 2 * d) * (2 * kq_F A (26 - 2 * d)) ^ (d + 1) < jB ^ 698) ∧ A * (2 * A) ^ 13 < jB ^ 698
theorem kq_fit18 : kq_fit (10 ^ 18) := by unfold kq_fit; decide +kernel
theorem kq_fit19 : kq_fit (10 ^ 18 * 13) := by unfold kq_fit; decide +kernel
theorem kq_fit51 : kq_fit (10 ^ 51) := by unfold kq_fit; decide +kernel
theorem kq_fits {A : Nat} (hA0 : kq_fit A) {f g : pz_P} (hf : pz_lt f 13) (hg : pz_lt g 13) (hfA : ∀ i, (f i).natAbs ≤ A) (hgA : ∀ i, (g i).natAbs ≤ A) (x y : pz_P) (db n : Nat) (hJ : kq_J A f g x y) (hx : pz_lt x (db + n)) (hxl : 1 ≤ n → x (db + n - 1) ≠ 0) (hy : pz_lt y (db + 1)) (hyl : y db ≠ 0) (hdb : db < 13) : ∃ al be : Nat, 1 ≤ be ∧ (∀ i, (x i).natAbs ≤ al) ∧ (∀ i, (y i).natAbs ≤ be) ∧ al * (2 * be) ^ n < jB ^ 698 := by
  have hA := hA0.1
  obtain ⟨f0, g0, k1, k2, k3, k4, k5, k6, k7⟩ := hJ
  rcases k7 with ⟨e1, e2⟩ | ⟨e1, _⟩ | ⟨df, dg, dx, dy, a1, a2, a3, a4, a5, a6, a7, a8, a9, a10, a11, a12, a13, a14, a15⟩
  · subst e1
    subst e2
    refine ⟨A, A, hA, kq_rel_le k1 hfA, kq_rel_le k2 hgA, ?_⟩
    have hn : n ≤ 13 := by
      rcases Nat.eq_zero_or_pos n with e | e
      · omega
      · by_cases e2 : n ≤ 13
        · exact e2
        · exact absurd (kq_rel_lt k1 hf (db + n - 1) (by omega)) (hxl e)
    exact Nat.lt_of_le_of_lt (Nat.mul_le_mul_left _ (Nat.pow_le_pow_right (by omega) hn)) hA0.2.2
  · rw [e1] at hyl
    exact absurd rfl hyl
  · refine ⟨kq_F A (26 - 2 * dx), kq_F A (26 - 2 * dx), Nat.le_trans hA (kq_F_ge hA (n := 26 - 2 * dx) (by omega)), a14, a15, ?_⟩
    have hn : n ≤ dx + 1 := by
      rcases Nat.eq_zero_or_pos n with e | e
      · omega
      · have := kq_lead_eq a9 a10 (hx.mono (by omega)) (hxl e)
        omega
    have h1 : 0 < 2 * kq_F A (26 - 2 * dx) := by
      have := Nat.le_trans hA (kq_F_ge hA (n := 26 - 2 * dx) (by omega))
      omega
    exact Nat.lt_of_le_of_lt (Nat.mul_le_mul_left _ (Nat.pow_le_pow_right h1 hn)) (hA0.2.1 dx a6 (by omega))
theorem kq_start {A : Nat} {f g x y : pz_P} (hx : kq_rel f x) (hy : kq_rel g y) : kq_J A f g x y :=
  ⟨x, y, hx, hy, kq_D.start x y, kq_D.start2 x y, kq_rel_or hx, kq_rel_or hy, Or.inl ⟨rfl, rfl⟩⟩
theorem pz_c_zeroR : ∀ (n : Nat) (u : pz_P), pz_c n u pz_0 = 0
  | 0, u => Int.mul_zero _
  | n + 1, u => by
    show u 0 * 0 + pz_c n (pz_tl u) pz_0 = 0
    rw [pz_c_zeroR n, Int.mul_zero]
    rfl
/-- the greatest common divisor: small, and it divides -/
theorem kq_end {A : Nat} (hA : 1 ≤ A) {f g G : pz_P} (hf : pz_lt f 13) (hfA : ∀ i, (f i).natAbs ≤ A) (hJ : kq_J A f g G pz_0) : pz_lt G 13 ∧ (∀ i, (G i).natAbs ≤ kq_F A 24) ∧ (G = pz_0 ∨ pz_prim G) ∧ (f ≠ pz_0 → pz_prim G ∧ ∃ (c : Int) (T : pz_P) (N : Nat), c ≠ 0 ∧ pz_lt T N ∧ pz_sc c f = pz_mul T G) := by
  obtain ⟨f0, g0, k1, k2, k3, k4, k5, k6, k7⟩ := hJ
  have hb : pz_lt G 13 ∧ ∀ i, (G i).natAbs ≤ kq_F A 24 := by
    rcases k7 with ⟨e1, e2⟩ | ⟨_, h⟩ | ⟨df, dg, dx, dy, a1, a2, a3, a4, a5, a6, a7, a8, a9, a10, a11, a12, a13, a14, a15⟩
    · rw [e1]
      exact ⟨kq_rel_lt k1 hf, fun i => Nat.le_trans (kq_rel_le k1 hfA i) (kq_F_ge hA (by decide))⟩
    · exact h
    · exact absurd rfl a12
  refine ⟨hb.1, hb.2, k5, fun hne => ?_⟩
  have hG1 : pz_sc 1 G = pz_mul (fun i => if i = 0 then 1 else 0) G := by
    rw [pz_sc_one]
    funext n
    cases n with
    | zero => exact (Int.one_mul _).symm
    | succ n =>
      show G (n + 1) = 1 * G (n + 1) + pz_c n (pz_tl (fun i => if i = 0 then 1 else 0)) G
      rw [pz_c_zeroL n (pz_tl fun i => if i = 0 then 1 else 0) G (fun i => rfl)]
      omega
  obtain ⟨c, T, N, hc, hN, hT⟩ := k3 G ⟨1, fun i => if i = 0 then 1 else 0, 1, by decide, fun i hi => if_neg (by omega), hG1⟩ ⟨1, pz_0, 0, by decide, fun i _ => rfl, by rw [pz_mul_0L]; exact funext fun i => rfl⟩
  rcases k1 with ⟨e, _⟩ | ⟨z, hz, e, hp⟩
  · exact absurd e hne
  · refine ⟨?_, c, pz_sc z T, N, hc, hN.sc z, ?_⟩
    · rcases k5 with h | h
      · have h1 : pz_sc c f0 = pz_0 := by
          rw [hT, h]
          exact funext fun n => pz_c_zeroR n T
        exact absurd (pz_sc_0 hc h1) (kq_prim_ne hp)
      · exact h
    · rw [pz_mul_scL, ← hT, e, pz_sc_sc, pz_sc_sc, Int.mul_comm]
theorem kq_ybound {A : Nat} (hA : 1 ≤ A) {f g x y : pz_P} (hgA : ∀ i, (g i).natAbs ≤ A) (hJ : kq_J A f g x y) : ∀ i, (y i).natAbs ≤ kq_F A 24 := by
  obtain ⟨f0, g0, k1, k2, k3, k4, k5, k6, k7⟩ := hJ
  rcases k7 with ⟨e1, e2⟩ | ⟨e1, _⟩ | ⟨df, dg, dx, dy, a1, a2, a3, a4, a5, a6, a7, a8, a9, a10, a11, a12, a13, a14, a15⟩
  · rw [e2]
    exact fun i => Nat.le_trans (kq_rel_le k2 hgA i) (kq_F_ge hA (by decide))
  · rw [e1]
    exact fun i => Nat.zero_le _
  · exact fun i => Nat.le_trans (a15 i) (kq_F_mono hA (by omega))
