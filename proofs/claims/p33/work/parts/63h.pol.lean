/-! The reference's division with remainder, whole. -/
theorem jdg_congr {V W : Nat → Int} {p q : Nat} : ∀ k, (∀ e, e < k → W (q * 13 + e) = V (p * 13 + e)) → jdg W q k = jdg V p k
  | 0, _ => rfl
  | k + 1, h => by
    unfold jdg
    rw [h k (by omega), jdg_congr k (fun e he => h e (by omega))]
section JDX
variable {D : Nat} {hp h : mj_H} {q0 q1 q2 q3 : Nat} {fs : List Value} {V : Nat → Int} {a b db : Nat}
theorem jp_dividesPoly (G : jG hp q0 q1 q2 q3 fs) {lc : Int} {al be : Nat} (ha : a ≤ 49) (ha2 : a ≠ 2) (ha3 : a ≠ 3) (hb : b ≤ 49) (hb2 : b ≠ 2) (hb3 : b ≠ 3) (hdb : jdg V b 13 = db + 1) (hlc : V (b * 13 + db) = lc) (hal : ∀ e, e < 13 → (V (a * 13 + e)).natAbs ≤ al) (hbe : ∀ e, e < 13 → (V (b * 13 + e)).natAbs ≤ be) (hbe1 : 1 ≤ be) (hfit : al * (2 * be) ^ (jdg V a 13 - db) < jB ^ 698) (hs : jS hp q1 q2 q3 V h) :
    mj_Ok (D + 5) 211 [.ref q0, .int (jn ((2 : Nat) : Int)), .int (jn ((3 : Nat) : Int)), .int (jn (a : Nat)), .int (jn (b : Nat))] h (fun r => ∃ (W : Nat → Int) (h' : mj_H), jS hp q1 q2 q3 W h' ∧ (∀ s, (s < 26 ∨ 52 ≤ s) → s ≠ 652 → s ≠ 654 → W s = V s) ∧ pz_sc (lc ^ (jdg V a 13 - db)) (jpo V a) = pz_add (pz_mul (jpo W 2) (jpo V b)) (jpo W 3) ∧ (∀ e, db ≤ e → e < 13 → W (3 * 13 + e) = 0) ∧ (∀ e, e < 13 → (W (2 * 13 + e)).natAbs ≤ al * (2 * be) ^ (jdg V a 13 - db) ∧ (W (3 * 13 + e)).natAbs ≤ al * (2 * be) ^ (jdg V a 13 - db)) ∧ r = (.inl (some (.int (jn ((jdg V a 13 - db : Nat) : Int)))), h')) := by
  have hda := jdg_le V a 13
  have hdbl := jdg_le V b 13
  refine mj_Ok.of (M := mj_m211) rfl rfl rfl ?_
  iterate 2 refine mj_T.pl rfl rfl rfl rfl ?_
  refine mj_T.call (ins := .invokevirtual 114) rfl rfl (Nat.le_of_ble_eq_true rfl) (Nat.le_of_ble_eq_true rfl) (by simp [mj_recv, jS_a G hs]) rfl (jp_degreeOf (D := D + 2) G (p := b) (by omega) hs) (fun v' h' hq' => ?_) (fun i h' hq' => by cases hq')
  cases hq'
  rw [hdb, show ((db + 1 : Nat) : Int) - 1 = (db : Int) by omega]
  iterate 3 refine mj_T.pl rfl rfl rfl rfl ?_
  refine mj_T.call (ins := .invokevirtual 114) rfl rfl (Nat.le_of_ble_eq_true rfl) (Nat.le_of_ble_eq_true rfl) (by simp [mj_recv, jS_a G hs]) rfl (jp_degreeOf (D := D + 2) G (p := a) (by omega) hs) (fun v' h' hq' => ?_) (fun i h' hq' => by cases hq')
  cases hq'
  refine mj_T.pl rfl rfl rfl rfl ?_
  refine mj_T.isub (a := (jdg V a 13 : Int) - 1) (b := (db : Int)) rfl ?_
  refine mj_T.pl rfl rfl rfl rfl ?_
  refine mj_T.iadd (a := (jdg V a 13 : Int) - 1 - (db : Int)) (b := 1) rfl ?_
  refine mj_T.pl rfl rfl rfl rfl ?_
  refine mj_T.imax (a := (jdg V a 13 : Int) - 1 - (db : Int) + 1) (b := 0) rfl rfl (Nat.le_of_ble_eq_true rfl) ⟨by omega, by omega⟩ ⟨by decide, by decide⟩ ?_
  rw [show max ((jdg V a 13 : Int) - 1 - (db : Int) + 1) 0 = ((jdg V a 13 - db : Nat) : Int) by omega]
  iterate 3 refine mj_T.pl rfl rfl rfl rfl ?_
  refine mj_T.call (ins := .invokevirtual 110) rfl rfl (Nat.le_of_ble_eq_true rfl) (Nat.le_of_ble_eq_true rfl) (by simp [mj_recv, jS_a G hs]) rfl (jp_empties (D := D + 2) G (p := 2) (by decide) hs) (fun v' g1 hq' => ?_) (fun i h' hq' => by obtain ⟨_, _, h⟩ := hq'; cases h)
  obtain ⟨_, hs1, hq'⟩ := hq'
  cases hq'
  iterate 2 refine mj_T.pl rfl rfl rfl rfl ?_
  refine mj_T.icmp (a := ((3 : Nat) : Int)) (b := (a : Int)) rfl ⟨by decide, by decide⟩ ⟨by omega, by omega⟩ (fun hc => ?_) (fun hc => ?_)
  · simp only [jc, decide_eq_true_eq] at hc
    omega
  iterate 3 refine mj_T.pl rfl rfl rfl rfl ?_
  refine mj_T.call (ins := .invokevirtual 124) rfl rfl (Nat.le_of_ble_eq_true rfl) (Nat.le_of_ble_eq_true rfl) (by simp [mj_recv, jS_a G hs1]) rfl (jp_copiesPoly (D := D + 1) G (p := 3) (q := a) (by decide) (by omega) (by omega) hs1) (fun v' g2 hq' => ?_) (fun i h' hq' => by obtain ⟨_, _, h⟩ := hq'; cases h)
  obtain ⟨_, hs2, hq'⟩ := hq'
  cases hq'
  have e2 : ∀ e, e < 13 → jfl (jfl V 2 (fun _ => 0) 13) 3 (fun e => jfl V 2 (fun _ => 0) 13 (a * 13 + e)) 13 (2 * 13 + e) = 0 := fun e he => by
    rw [jfl_off _ 3 _ (by omega), jfl_at _ 2 _ he]
  have e3 : ∀ e, e < 13 → jfl (jfl V 2 (fun _ => 0) 13) 3 (fun e => jfl V 2 (fun _ => 0) 13 (a * 13 + e)) 13 (3 * 13 + e) = V (a * 13 + e) := fun e he => by
    rw [jfl_at _ 3 _ he, jfl_off _ 2 _ (by omega)]
  have e4 : ∀ s, (s < 26 ∨ 52 ≤ s) → jfl (jfl V 2 (fun _ => 0) 13) 3 (fun e => jfl V 2 (fun _ => 0) 13 (a * 13 + e)) 13 s = V s := fun s hc => by
    rw [jfl_off _ 3 _ (by omega), jfl_off _ 2 _ (by omega)]
  generalize jfl (jfl V 2 (fun _ => 0) 13) 3 (fun e => jfl V 2 (fun _ => 0) 13 (a * 13 + e)) 13 = W at hs2 e2 e3 e4
  have hd3 : jdg W 3 13 = jdg V a 13 := jdg_congr 13 e3
  iterate 4 refine mj_T.pl rfl rfl rfl rfl ?_
  refine mj_T.call (ins := .invokevirtual 114) rfl rfl (Nat.le_of_ble_eq_true rfl) (Nat.le_of_ble_eq_true rfl) (by simp [mj_recv, jS_a G hs2]) rfl (jp_degreeOf (D := D + 2) G (p := 3) (by omega) hs2) (fun v' h' hq' => ?_) (fun i h' hq' => by cases hq')
  cases hq'
  rw [hd3]
  refine mj_T.pl rfl rfl rfl rfl ?_
  have hpo : jpo W 3 = jpo V a := funext fun e => by
    unfold jpo
    split
    · rename_i c
      exact e3 e c
    · rfl
  have hpo2 : jpo W 2 = pz_0 := funext fun e => by
    unfold jpo
    split
    · rename_i c
      exact e2 e c
    · rfl
  have hrel : pz_sc (lc ^ 0) (jpo V a) = pz_add (pz_mul (jpo W 2) (jpo V b)) (jpo W 3) := by
    rw [hpo, hpo2, pz_mul_0L]
    funext e
    show lc ^ 0 * jpo V a e = 0 + jpo V a e
    rw [Int.pow_zero, Int.one_mul]
    omega
  have hbd : ∀ e, e < 13 → (W (2 * 13 + e)).natAbs ≤ al * (2 * be) ^ 0 ∧ (W (3 * 13 + e)).natAbs ≤ al * (2 * be) ^ 0 := fun e he => by
    rw [e2 e he, e3 e he, Nat.pow_zero, Nat.mul_one]
    exact ⟨Nat.zero_le _, hal e he⟩
  by_cases hcase : db ≤ jdg V a 13
  · have hx : ((jdg V a 13 : Nat) : Int) - 1 = ((db + (jdg V a 13 - db) : Nat) : Int) - 1 := by omega
    rw [hx]
    refine jp_dv (D := D) (V := V) (a := a) (b := b) (db := db) (n := jdg V a 13 - db) G (lc := lc) (al := al) (be := be) hb hb2 hb3 hdb hlc (by omega) hbe hbe1 hfit (fun W2 h2 k1 k2 k3 k4 k5 => ⟨W2, h2, k1, k2, k3, k4, k5, rfl⟩) (jdg V a 13 - db) W g2 _ (Nat.le_refl _) hs2 (fun s c _ _ => e4 s c) (by rw [Nat.sub_self]; exact hrel) (fun e c1 c2 => ?_) (fun e he => by rw [Nat.sub_self]; exact hbd e he)
    rw [e3 e c2]
    exact jdg_zero V a 13 e (by omega) c2
  · have hn0 : jdg V a 13 - db = 0 := by omega
    rw [hn0]
    iterate 2 refine mj_T.pl rfl rfl rfl rfl ?_
    refine mj_T.icmp (a := ((jdg V a 13 : Nat) : Int) - 1) (b := (db : Int)) rfl ⟨by omega, by omega⟩ ⟨by omega, by omega⟩ (fun hc2 => ?_) (fun hc2 => ?_)
    · refine mj_T.pl rfl rfl rfl rfl ?_
      refine mj_T.ret rfl rfl rfl ⟨W, g2, hs2, fun s c _ _ => e4 s c, hrel, fun e c1 c2 => ?_, hbd, rfl⟩
      rw [e3 e c2]
      exact jdg_zero V a 13 e (by omega) c2
    · simp only [jc, decide_eq_false_iff_not] at hc2
      omega
end JDX
/-! The reference's exact division. -/
theorem jdx_next {P B q r q' r' : pz_P} {t : Int} {m : Nat} (h : P = pz_add (pz_mul q B) r) (hq : q' = pz_add q (pz_mono m t)) (hr : r' = pz_add r (pz_sc (-1) (pz_mul (pz_mono m t) B))) : P = pz_add (pz_mul q' B) r' := by
  rw [h, hq, hr, pz_mul_addL]
  funext i
  show pz_mul q B i + r i = (pz_mul q B i + pz_mul (pz_mono m t) B i) + (r i + -1 * pz_mul (pz_mono m t) B i)
  omega
theorem jdx_not {A B Qp R q' : pz_P} {db m d : Nat} (hB : pz_lt B (db + 1)) (hb : B db ≠ 0) (hrel : A = pz_add (pz_mul Qp B) R) (hq : pz_lt q' d) (hQ : pz_lt Qp 13) (hA : A = pz_mul q' B) (hR : pz_lt R (m + db)) : ∃ u, pz_lt u m ∧ R = pz_mul u B := by
  have e : pz_mul (pz_add q' (pz_sc (-1) Qp)) B = R := by
    rw [pz_mul_addL, pz_mul_scL, ← hA, hrel]
    funext i
    show (pz_mul Qp B i + R i) + -1 * pz_mul Qp B i = R i
    omega
  refine ⟨pz_add q' (pz_sc (-1) Qp), ?_, e.symm⟩
  refine pz_deg_of hB hb m (d + 13) _ ((hq.mono (by omega)).add ((hQ.mono (by omega)).sc (-1))) ?_
  rw [e]
  exact hR
section JDXE
variable {D : Nat} {hp h : mj_H} {q0 q1 q2 q3 : Nat} {fs : List Value} {V : Nat → Int} {a b db n dd tq : Nat}
theorem jp_dx2 (G : jG hp q0 q1 q2 q3 fs) {rf : Nat → Int} {t : Int} (hb : b ≤ 49) (hb3 : b ≠ 3) (hdb : db ≤ dd) (hdd : dd < 13) (ht : V 654 = t) (hfp : ∀ e, e ≤ db → jnl (t * V (b * 13 + e)).natAbs ≤ 698) (hfr : ∀ e, e ≤ db → jnl (rf (dd - db + e) + -1 * (t * V (b * 13 + e))).natAbs ≤ 698) {Q : mj_R → Prop}
    (hend : ∀ (W : Nat → Int) (h : mj_H), jS hp q1 q2 q3 W h → (∀ e, e ≤ db → W (3 * 13 + (dd - db + e)) = rf (dd - db + e) + -1 * (t * V (b * 13 + e))) → (∀ s, (s < 3 * 13 + (dd - db) ∨ 3 * 13 + dd < s) → s ≠ 652 → W s = V s) → mj_T (D + 4) mj_m213 146 [some (.ref q0), some (.int (jn (tq : Nat))), some (.int (jn (a : Nat))), some (.int (jn (b : Nat))), some (.int (jn (db : Nat))), some (.int (jn (dd : Nat))), some (.int (jn ((db + 1 : Nat) : Int)))] [] h Q) :
    ∀ (d k : Nat) (W : Nat → Int) (h : mj_H), k + d = db + 1 → jS hp q1 q2 q3 W h → (∀ e, e < k → W (3 * 13 + (dd - db + e)) = rf (dd - db + e) + -1 * (t * V (b * 13 + e))) → (∀ e, k ≤ e → e ≤ db → W (3 * 13 + (dd - db + e)) = rf (dd - db + e)) → (∀ s, (s < 3 * 13 + (dd - db) ∨ 3 * 13 + dd < s) → s ≠ 652 → W s = V s) → mj_T (D + 4) mj_m213 85 [some (.ref q0), some (.int (jn (tq : Nat))), some (.int (jn (a : Nat))), some (.int (jn (b : Nat))), some (.int (jn (db : Nat))), some (.int (jn (dd : Nat))), some (.int (jn (k : Nat)))] [] h Q := by
  intro d
  induction d with
  | zero =>
    intro k W h hk hs h1 h2 hf
    have hk : k = db + 1 := by omega
    subst hk
    iterate 2 refine mj_T.pl rfl rfl rfl rfl ?_
    refine mj_T.icmp (a := ((db + 1 : Nat) : Int)) (b := (db : Int)) rfl ⟨by omega, by omega⟩ ⟨by omega, by omega⟩ (fun hc => ?_) (fun hc => ?_)
    · exact hend W h hs (fun e he => h1 e (by omega)) hf
    · simp only [jc, decide_eq_false_iff_not] at hc
      omega
  | succ d ih =>
    intro k W h hk hs h1 h2 hf
    have er := h2 k (Nat.le_refl _) (by omega)
    have eb : W (b * 13 + k) = V (b * 13 + k) := hf _ (by omega) (by omega)
    have et : W 654 = t := by rw [hf 654 (by omega) (by decide)]; exact ht
    iterate 2 refine mj_T.pl rfl rfl rfl rfl ?_
    refine mj_T.icmp (a := (k : Int)) (b := (db : Int)) rfl ⟨by omega, by omega⟩ ⟨by omega, by omega⟩ (fun hc => ?_) (fun hc => ?_)
    · simp only [jc, decide_eq_true_eq] at hc
      omega
    · iterate 5 refine mj_T.pl rfl rfl rfl rfl ?_
      refine mj_T.call (ins := .invokestatic 104) rfl rfl (Nat.le_of_ble_eq_true rfl) (Nat.le_of_ble_eq_true rfl) rfl rfl (jq_slot (D := D + 3) (p := b) (i := k)) (fun v' h' hq' => ?_) (fun i h' hq' => by cases hq')
      cases hq'
      refine mj_T.call (ins := .invokevirtual 117) rfl rfl (Nat.le_of_ble_eq_true rfl) (Nat.le_of_ble_eq_true rfl) (by simp [mj_recv, jS_a G hs]) rfl (jS_mul (D := D + 2) G (to := 652) (a := 654) (b := b * 13 + k) (by decide) (by decide) (by omega) (by rw [et, eb]; exact hfp k (by omega)) hs) (fun v' g1 hq' => ?_) (fun i h' hq' => by obtain ⟨_, _, h⟩ := hq'; cases h)
      obtain ⟨_, hs1, hq'⟩ := hq'
      cases hq'
      have f1 : ∀ s, s ≠ 652 → jvu W 652 (W 654 * W (b * 13 + k)) s = W s := fun s c => by unfold jvu; rw [if_neg c]
      have f2 : jvu W 652 (W 654 * W (b * 13 + k)) 652 = t * V (b * 13 + k) := by unfold jvu; rw [if_pos rfl, et, eb]
      generalize jvu W 652 (W 654 * W (b * 13 + k)) = W1 at hs1 f1 f2
      refine mj_T.pl rfl rfl rfl rfl ?_
      iterate 3 refine mj_T.pl rfl rfl rfl rfl ?_
      refine mj_T.isub (a := (dd : Int)) (b := (db : Int)) rfl ?_
      refine mj_T.pl rfl rfl rfl rfl ?_
      refine mj_T.iadd (a := (dd : Int) - (db : Int)) (b := (k : Int)) rfl ?_
      rw [show (dd : Int) - (db : Int) + (k : Int) = ((dd - db + k : Nat) : Int) by omega]
      refine mj_T.call (ins := .invokestatic 104) rfl rfl (Nat.le_of_ble_eq_true rfl) (Nat.le_of_ble_eq_true rfl) rfl rfl (jq_slot (D := D + 3) (p := 3) (i := dd - db + k)) (fun v' h' hq' => ?_) (fun i h' hq' => by cases hq')
      cases hq'
      iterate 3 refine mj_T.pl rfl rfl rfl rfl ?_
      refine mj_T.isub (a := (dd : Int)) (b := (db : Int)) rfl ?_
      refine mj_T.pl rfl rfl rfl rfl ?_
      refine mj_T.iadd (a := (dd : Int) - (db : Int)) (b := (k : Int)) rfl ?_
      rw [show (dd : Int) - (db : Int) + (k : Int) = ((dd - db + k : Nat) : Int) by omega]
      refine mj_T.call (ins := .invokestatic 104) rfl rfl (Nat.le_of_ble_eq_true rfl) (Nat.le_of_ble_eq_true rfl) rfl rfl (jq_slot (D := D + 3) (p := 3) (i := dd - db + k)) (fun v' h' hq' => ?_) (fun i h' hq' => by cases hq')
      cases hq'
      iterate 2 refine mj_T.pl rfl rfl rfl rfl ?_
      refine mj_T.call (ins := .invokevirtual 107) rfl rfl (Nat.le_of_ble_eq_true rfl) (Nat.le_of_ble_eq_true rfl) (by simp [mj_recv, jS_a G hs1]) rfl (jS_adds (D := D) G (to := 3 * 13 + (dd - db + k)) (a := 3 * 13 + (dd - db + k)) (b := 652) (f := -1) (by omega) (by omega) (by decide) (Or.inr rfl) (by rw [f1 _ (by omega), er, f2]; exact hfr k (by omega)) hs1) (fun v' g2 hq' => ?_) (fun i h' hq' => by obtain ⟨_, _, h⟩ := hq'; cases h)
      obtain ⟨_, hs2, hq'⟩ := hq'
      cases hq'
      have f3 : ∀ s, s ≠ 3 * 13 + (dd - db + k) → jvu W1 (3 * 13 + (dd - db + k)) (W1 (3 * 13 + (dd - db + k)) + -1 * W1 652) s = W1 s := fun s c => by unfold jvu; rw [if_neg c]
      have f4 : jvu W1 (3 * 13 + (dd - db + k)) (W1 (3 * 13 + (dd - db + k)) + -1 * W1 652) (3 * 13 + (dd - db + k)) = rf (dd - db + k) + -1 * (t * V (b * 13 + k)) := by unfold jvu; rw [if_pos rfl, f1 _ (by omega), er, f2]
      generalize jvu W1 (3 * 13 + (dd - db + k)) (W1 (3 * 13 + (dd - db + k)) + -1 * W1 652) = W2 at hs2 f3 f4
      refine mj_T.iinc (a := k) rfl rfl ?_
      refine mj_T.pl rfl rfl rfl rfl ?_
      refine ih (k + 1) W2 g2 (by omega) hs2 (fun e he => ?_) (fun e a1 a2 => ?_) (fun s c c6 => ?_)
      · by_cases c : e = k
        · rw [c]; exact f4
        · rw [f3 _ (by omega), f1 _ (by omega)]
          exact h1 e (by omega)
      · rw [f3 _ (by omega), f1 _ (by omega)]
        exact h2 e (by omega) a2
      · rw [f3 _ (by omega), f1 _ c6]
        exact hf s c c6
theorem jp_dx (G : jG hp q0 q1 q2 q3 fs) {lc : Int} {al be : Nat} (hb : b ≤ 49) (hb3 : b ≠ 3) (htq : tq ≤ 49) (ht3 : tq ≠ 3) (htb : tq ≠ b) (hdb : jdg V b 13 = db + 1) (hlc : V (b * 13 + db) = lc) (hn : db + n ≤ 13) (hbe : ∀ e, e < 13 → (V (b * 13 + e)).natAbs ≤ be) (hbe1 : 1 ≤ be) (hfit : al * (2 * be) ^ n < jB ^ 698) {Q : mj_R → Prop}
    (hyes : ∀ (W : Nat → Int) (h : mj_H), jS hp q1 q2 q3 W h → (∀ s, (s < tq * 13 ∨ tq * 13 + 13 ≤ s) → (s < 39 ∨ 52 ≤ s) → s ≠ 652 → s ≠ 653 → s ≠ 654 → W s = V s) → jpo V a = pz_mul (jpo W tq) (jpo V b) → Q (.inl (some (.int (jn 1))), h))
    (hno : ∀ (W : Nat → Int) (h : mj_H), jS hp q1 q2 q3 W h → (∀ s, (s < tq * 13 ∨ tq * 13 + 13 ≤ s) → (s < 39 ∨ 52 ≤ s) → s ≠ 652 → s ≠ 653 → s ≠ 654 → W s = V s) → (∀ (q' : pz_P) (d : Nat), pz_lt q' d → jpo V a ≠ pz_mul q' (jpo V b)) → Q (.inl (some (.int (jn 0))), h)) :
    ∀ (m : Nat) (W : Nat → Int) (h : mj_H) (e6 : Option Value), m ≤ n → jS hp q1 q2 q3 W h → (∀ s, (s < tq * 13 ∨ tq * 13 + 13 ≤ s) → (s < 39 ∨ 52 ≤ s) → s ≠ 652 → s ≠ 653 → s ≠ 654 → W s = V s) → jpo V a = pz_add (pz_mul (jpo W tq) (jpo V b)) (jpo W 3) → (∀ e, m + db ≤ e → e < 13 → W (3 * 13 + e) = 0) → (∀ e, e < m → W (tq * 13 + e) = 0) → (∀ e, e < 13 → (W (tq * 13 + e)).natAbs ≤ al * (2 * be) ^ (n - m) ∧ (W (3 * 13 + e)).natAbs ≤ al * (2 * be) ^ (n - m)) →
      mj_T (D + 5) mj_m213 25 [some (.ref q0), some (.int (jn (tq : Nat))), some (.int (jn (a : Nat))), some (.int (jn (b : Nat))), some (.int (jn (db : Nat))), some (.int (jn (((db + m : Nat) : Int) - 1))), e6] [] h Q := by
  have hdb13 : db < 13 := by have := jdg_le V b 13; omega
  have hlc0 : lc ≠ 0 := by
    have h0 := jdg_ne V b 13 (by omega)
    rw [hdb, Nat.add_sub_cancel, hlc] at h0
    exact h0
  have hB0 : ∀ e, db < e → jpo V b e = 0 := fun e he => by
    unfold jpo
    split
    · exact jdg_zero V b 13 e (by omega) (by omega)
    · rfl
  have hBl : pz_lt (jpo V b) (db + 1) := fun i hi => hB0 i (by omega)
  have hBn : jpo V b db ≠ 0 := by rw [jpo_at hdb13, hlc]; exact hlc0
  have hlcb : lc.natAbs ≤ be := by rw [← hlc]; exact hbe db hdb13
  intro m
  induction m with
  | zero =>
    intro W h e6 hm hs hf hrel hz htz hbd
    have hRl : pz_lt (jpo W 3) (0 + db) := fun i hi => by
      unfold jpo
      split
      · rename_i c
        exact hz i hi c
      · rfl
    iterate 2 refine mj_T.pl rfl rfl rfl rfl ?_
    refine mj_T.icmp (a := ((db + 0 : Nat) : Int) - 1) (b := (db : Int)) rfl ⟨by omega, by omega⟩ ⟨by omega, by omega⟩ (fun hc => ?_) (fun hc => ?_)
    · iterate 2 refine mj_T.pl rfl rfl rfl rfl ?_
      refine mj_T.call (ins := .invokevirtual 114) rfl rfl (Nat.le_of_ble_eq_true rfl) (Nat.le_of_ble_eq_true rfl) (by simp [mj_recv, jS_a G hs]) rfl (jp_degreeOf (D := D + 3) G (p := 3) (by omega) hs) (fun v' h' hq' => ?_) (fun i h' hq' => by cases hq')
      cases hq'
      have hw := jdg_le W 3 13
      refine mj_T.if0 (a := (jdg W 3 13 : Int) - 1) rfl ⟨by omega, by omega⟩ (fun hc2 => ?_) (fun hc2 => ?_)
      · simp only [jc, decide_eq_true_eq] at hc2
        refine mj_T.pl rfl rfl rfl rfl ?_
        refine mj_T.ret rfl rfl rfl (hno W h hs hf (fun q' d hq hA => ?_))
        obtain ⟨u, hu, e⟩ := jdx_not hBl hBn hrel hq (jpo_lt W tq) hA hRl
        have e0 : jpo W 3 = pz_0 := by rw [e, pz_lt.zero u hu, pz_mul_0L]
        have hx := jdg_ne W 3 13 (by omega)
        apply hx
        rw [← jpo_at (V := W) (p := 3) (show jdg W 3 13 - 1 < 13 by omega), e0]
        rfl
      · simp only [jc, decide_eq_false_iff_not] at hc2
        iterate 2 refine mj_T.pl rfl rfl rfl rfl ?_
        refine mj_T.ret rfl rfl rfl (hyes W h hs hf ?_)
        rw [hrel]
        funext i
        show pz_mul (jpo W tq) (jpo V b) i + jpo W 3 i = pz_mul (jpo W tq) (jpo V b) i
        have : jpo W 3 i = 0 := by
          unfold jpo
          split
          · rename_i c
            exact jdg_zero W 3 13 i (by omega) c
          · rfl
        omega
    · simp only [jc, decide_eq_false_iff_not] at hc
      omega
  | succ m ih =>
    intro W h e6 hm hs hf hrel hz htz hbd
    generalize hMM : al * (2 * be) ^ (n - (m + 1)) = M at hbd
    have hstep : al * (2 * be) ^ (n - m) = 2 * (M * be) := by
      rw [show n - m = (n - (m + 1)) + 1 by omega, Nat.pow_succ, ← Nat.mul_assoc, hMM, Nat.mul_left_comm]
    have hM2 : 2 * (M * be) < jB ^ 698 := by
      rw [← hstep]
      refine Nat.lt_of_le_of_lt (Nat.mul_le_mul_left al (Nat.pow_le_pow_right (by omega) (by omega))) hfit
    have hmul : ∀ x y : Int, x.natAbs ≤ M → y.natAbs ≤ be → (x * y).natAbs ≤ M * be := fun x y hx hy => by
      rw [Int.natAbs_mul]
      exact Nat.mul_le_mul hx hy
    have hMb : M ≤ M * be := by
      have := Nat.mul_le_mul_left M hbe1
      omega
    rw [show ((db + (m + 1) : Nat) : Int) - 1 = ((db + m : Nat) : Int) by omega]
    iterate 2 refine mj_T.pl rfl rfl rfl rfl ?_
    refine mj_T.icmp (a := ((db + m : Nat) : Int)) (b := (db : Int)) rfl ⟨by omega, by omega⟩ ⟨by omega, by omega⟩ (fun hc => ?_) (fun hc => ?_)
    · simp only [jc, decide_eq_true_eq] at hc
      omega
    have elc : W (b * 13 + db) = lc := by rw [hf _ (by omega) (by omega) (by omega) (by omega) (by omega)]; exact hlc
    iterate 5 refine mj_T.pl rfl rfl rfl rfl ?_
    refine mj_T.call (ins := .invokestatic 104) rfl rfl (Nat.le_of_ble_eq_true rfl) (Nat.le_of_ble_eq_true rfl) rfl rfl (jq_slot (D := D + 4) (p := 3) (i := db + m)) (fun v' h' hq' => ?_) (fun i h' hq' => by cases hq')
    cases hq'
    iterate 2 refine mj_T.pl rfl rfl rfl rfl ?_
    refine mj_T.call (ins := .invokestatic 104) rfl rfl (Nat.le_of_ble_eq_true rfl) (Nat.le_of_ble_eq_true rfl) rfl rfl (jq_slot (D := D + 4) (p := b) (i := db)) (fun v' h' hq' => ?_) (fun i h' hq' => by cases hq')
    cases hq'
    refine mj_T.call (ins := .invokevirtual 101) rfl rfl (Nat.le_of_ble_eq_true rfl) (Nat.le_of_ble_eq_true rfl) (by simp [mj_recv, jS_a G hs]) rfl (jS_cuts (D := D + 1) G (q := 654) (r := 653) (a := 3 * 13 + (db + m)) (b := b * 13 + db) (by decide) (by decide) (by omega) (by omega) (by decide) (by omega) (by omega) (by omega) (by rw [elc]; exact hlc0) hs) (fun v' g1 hq' => ?_) (fun i h' hq' => by obtain ⟨_, _, h⟩ := hq'; cases h)
    obtain ⟨_, hs1, hq'⟩ := hq'
    cases hq'
    generalize hR : W (3 * 13 + (db + m)) = R at hs1
    rw [elc] at hs1
    have f1 : ∀ s, s ≠ 654 → s ≠ 653 → jvu (jvu W 654 (R.tdiv lc)) 653 (R.tmod lc) s = W s := fun s c c2 => by unfold jvu; rw [if_neg c2, if_neg c]
    have f2 : jvu (jvu W 654 (R.tdiv lc)) 653 (R.tmod lc) 654 = R.tdiv lc := by unfold jvu; rw [if_neg (by decide), if_pos rfl]
    have f2b : jvu (jvu W 654 (R.tdiv lc)) 653 (R.tmod lc) 653 = R.tmod lc := by unfold jvu; rw [if_pos rfl]
    generalize jvu (jvu W 654 (R.tdiv lc)) 653 (R.tmod lc) = W1 at hs1 f1 f2 f2b
    iterate 2 refine mj_T.pl rfl rfl rfl rfl ?_
    refine mj_T.call (ins := .invokevirtual 68) rfl rfl (Nat.le_of_ble_eq_true rfl) (Nat.le_of_ble_eq_true rfl) (by simp [mj_recv, jS_a G hs1]) rfl (jS_sign (D := D + 4) G (s := 653) (by decide) hs1) (fun v' h' hq' => ?_) (fun i h' hq' => by cases hq')
    cases hq'
    have hsr := jsg_range (W1 653)
    refine mj_T.if0 rfl ⟨by omega, by omega⟩ (fun hc2 => ?_) (fun hc2 => ?_)
    case _ =>
      skip
      simp only [jc, decide_eq_true_eq] at hc2
      have hr0 : R.tmod lc = 0 := by rw [← f2b]; exact jsg_eq0 hc2
      have hRt : R = lc * R.tdiv lc := by have := Int.mul_tdiv_add_tmod R lc; omega
      generalize R.tdiv lc = t at f2 hRt
      have htb2 : t.natAbs ≤ M := by
        have h1 := (hbd (db + m) (by omega)).2
        rw [hR, hRt, Int.natAbs_mul] at h1
        have h2 : 1 ≤ lc.natAbs := by omega
        have h3 := Nat.mul_le_mul_right t.natAbs h2
        omega
      iterate 4 refine mj_T.pl rfl rfl rfl rfl ?_
      refine mj_T.isub (a := ((db + m : Nat) : Int)) (b := (db : Int)) rfl ?_
      rw [show ((db + m : Nat) : Int) - (db : Int) = (m : Int) by omega]
      refine mj_T.call (ins := .invokestatic 104) rfl rfl (Nat.le_of_ble_eq_true rfl) (Nat.le_of_ble_eq_true rfl) rfl rfl (jq_slot (D := D + 4) (p := tq) (i := m)) (fun v' h' hq' => ?_) (fun i h' hq' => by cases hq')
      cases hq'
      refine mj_T.pl rfl rfl rfl rfl ?_
      refine mj_T.call (ins := .invokevirtual 84) rfl rfl (Nat.le_of_ble_eq_true rfl) (Nat.le_of_ble_eq_true rfl) (by simp [mj_recv, jS_a G hs1]) rfl (jS_copies (D := D + 3) G (to := tq * 13 + m) (s := 654) (by omega) (by decide) hs1) (fun v' g3 hq' => ?_) (fun i h' hq' => by obtain ⟨_, _, h⟩ := hq'; cases h)
      obtain ⟨_, hs3, hq'⟩ := hq'
      cases hq'
      rw [f2] at hs3
      have f3 : ∀ s, s ≠ tq * 13 + m → jvu W1 (tq * 13 + m) t s = W1 s := fun s c => by unfold jvu; rw [if_neg c]
      have f4 : jvu W1 (tq * 13 + m) t (tq * 13 + m) = t := by unfold jvu; rw [if_pos rfl]
      generalize jvu W1 (tq * 13 + m) t = W3 at hs3 f3 f4
      have w3b : ∀ e, e < 13 → W3 (b * 13 + e) = V (b * 13 + e) := fun e he => by rw [f3 _ (by omega), f1 _ (by omega) (by omega)]; exact hf _ (by omega) (by omega) (by omega) (by omega) (by omega)
      have w3r : ∀ e, e < 13 → W3 (3 * 13 + e) = W (3 * 13 + e) := fun e he => by rw [f3 _ (by omega), f1 _ (by omega) (by omega)]
      have hr4 : ∀ e x, e < 13 → x < 13 → (W (3 * 13 + e) + -1 * (t * V (b * 13 + x))).natAbs ≤ 2 * (M * be) := fun e x he hx => by
        have h1 := (hbd e he).2
        have h2 := hmul _ _ htb2 (hbe x hx)
        omega
      iterate 2 refine mj_T.pl rfl rfl rfl rfl ?_
      refine jp_dx2 (D := D + 1) (V := W3) (a := a) (b := b) (db := db) (dd := db + m) (tq := tq) G (rf := fun e => W (3 * 13 + e)) (t := t) hb hb3 (by omega) (by omega) (by rw [f3 _ (by omega)]; exact f2) (fun e he => by rw [w3b e (by omega)]; exact jnl_of_lt (hmul _ _ htb2 (hbe e (by omega))) (by omega)) (fun e he => by rw [w3b e (by omega)]; exact jnl_of_lt (hr4 _ e (by omega) (by omega)) hM2) (fun W4 h4 hs4 k3 k4 => ?_) (db + 1) 0 W3 g3 (by omega) hs3 (fun e he => by omega) (fun e _ he => w3r _ (by omega)) (fun s _ _ => rfl)
      refine mj_T.iinc (a := ((db + m : Nat) : Int)) rfl rfl ?_
      rw [show ((db + m : Nat) : Int) + -1 = ((db + m : Nat) : Int) - 1 by omega]
      refine mj_T.pl rfl rfl rfl rfl ?_
      have w4q : ∀ e, e < 13 → W4 (tq * 13 + e) = if e = m then t else W (tq * 13 + e) := fun e he => by
        rw [k4 _ (by omega) (by omega)]
        by_cases c : e = m
        · rw [c, f4, if_pos rfl]
        · rw [f3 _ (by omega), f1 _ (by omega) (by omega), if_neg c]
      have hq : jpo W4 tq = pz_add (jpo W tq) (pz_mono m t) := funext fun e => by
        show jpo W4 tq e = jpo W tq e + (if e = m then t else 0)
        by_cases he : e < 13
        · rw [jpo_at he, jpo_at he, w4q e he]
          by_cases c : e = m
          · rw [if_pos c, if_pos c, c, htz m (by omega)]
            omega
          · rw [if_neg c, if_neg c]
            omega
        · have e0 : ∀ X : Nat → Int, jpo X tq e = 0 := fun X => by unfold jpo; rw [if_neg he]
          rw [e0, e0, if_neg (by omega)]
          rfl
      have hr : jpo W4 3 = pz_add (jpo W 3) (pz_sc (-1) (pz_mul (pz_mono m t) (jpo V b))) := funext fun e => by
        show jpo W4 3 e = jpo W 3 e + -1 * pz_c e (pz_mono m t) (jpo V b)
        rw [pz_mono_mul]
        by_cases he : e < 13
        · rw [jpo_at he, jpo_at he]
          by_cases c : m ≤ e
          · rw [if_pos c]
            by_cases c2 : e ≤ db + m
            · have h5 := k3 (e - m) (by omega)
              rw [show db + m - db + (e - m) = e by omega, w3b _ (by omega)] at h5
              rw [h5, jpo_at (show e - m < 13 by omega)]
            · rw [k4 _ (by omega) (by omega), w3r e he, hB0 (e - m) (by omega), Int.mul_zero]
              omega
          · rw [if_neg c, k4 _ (by omega) (by omega), w3r e he]
            omega
        · have e0 : ∀ X : Nat → Int, jpo X 3 e = 0 := fun X => by unfold jpo; rw [if_neg he]
          rw [e0, e0, if_pos (by omega), hB0 (e - m) (by omega), Int.mul_zero]
          rfl
      refine ih W4 h4 _ (by omega) hs4 (fun s c c2 c3 c4 c5 => ?_) (jdx_next hrel hq hr) (fun e a1 a2 => ?_) (fun e he => ?_) (fun e he => ?_)
      · rw [k4 s (by omega) c3, f3 s (by omega), f1 s c5 c4]
        exact hf s c c2 c3 c4 c5
      · by_cases c : e = db + m
        · have h5 := k3 db (Nat.le_refl _)
          rw [show db + m - db + db = db + m by omega, w3b _ hdb13, hlc, hR, Int.mul_comm t] at h5
          rw [c, h5]
          omega
        · rw [k4 _ (by omega) (by omega), w3r e a2, hz e (by omega) a2]
      · rw [w4q e (by omega), if_neg (by omega)]
        exact htz e (by omega)
      · rw [hstep]
        refine ⟨?_, ?_⟩
        · rw [w4q e he]
          have := (hbd e he).1
          split <;> omega
        · by_cases c : m ≤ e ∧ e ≤ db + m
          · have h5 := k3 (e - m) (by omega)
            rw [show db + m - db + (e - m) = e by omega, w3b _ (by omega)] at h5
            rw [h5]
            exact hr4 e (e - m) he (by omega)
          · rw [k4 _ (by omega) (by omega), w3r e he]
            have := (hbd e he).2
            omega
    case _ =>
      skip
      simp only [jc, decide_eq_false_iff_not] at hc2
      refine mj_T.pl rfl rfl rfl rfl ?_
      refine mj_T.ret rfl rfl rfl (hno W1 g1 hs1 (fun s c c2 c3 c4 c5 => by rw [f1 s c5 c4]; exact hf s c c2 c3 c4 c5) (fun q' d hq hA => ?_))
      have hRl : pz_lt (jpo W 3) (m + 1 + db) := fun i hi => by
        unfold jpo
        split
        · rename_i c
          exact hz i hi c
        · rfl
      obtain ⟨u, hu, e⟩ := jdx_not hBl hBn hrel hq (jpo_lt W tq) hA hRl
      have h1 := pz_c_lead m u (jpo V b) db hu hBl
      have h2 : jpo W 3 (m + db) = pz_c (m + db) u (jpo V b) := by rw [e]; rfl
      rw [jpo_at (show m + db < 13 by omega), h1, jpo_at hdb13, hlc, Nat.add_comm m db, hR] at h2
      apply hc2
      rw [f2b, h2, Int.mul_tmod_left]
      rfl
end JDXE
/-! The reference's exact division, whole. -/
section JDXF
variable {D : Nat} {hp h : mj_H} {q0 q1 q2 q3 : Nat} {fs : List Value} {V : Nat → Int} {a b db tq : Nat}
theorem jp_dividesExactly (G : jG hp q0 q1 q2 q3 fs) {lc : Int} {al be : Nat} (ha : a ≤ 49) (ha3 : a ≠ 3) (hta : tq ≠ a) (hb : b ≤ 49) (hb3 : b ≠ 3) (htq : tq ≤ 49) (ht3 : tq ≠ 3) (htb : tq ≠ b) (hdb : jdg V b 13 = db + 1) (hlc : V (b * 13 + db) = lc) (hal : ∀ e, e < 13 → (V (a * 13 + e)).natAbs ≤ al) (hbe : ∀ e, e < 13 → (V (b * 13 + e)).natAbs ≤ be) (hbe1 : 1 ≤ be) (hfit : al * (2 * be) ^ (jdg V a 13 - db) < jB ^ 698) (hs : jS hp q1 q2 q3 V h) :
    mj_Ok (D + 6) 213 [.ref q0, .int (jn (tq : Nat)), .int (jn (a : Nat)), .int (jn (b : Nat))] h (fun r => ∃ (W : Nat → Int) (h' : mj_H), jS hp q1 q2 q3 W h' ∧ (∀ s, (s < tq * 13 ∨ tq * 13 + 13 ≤ s) → (s < 39 ∨ 52 ≤ s) → s ≠ 652 → s ≠ 653 → s ≠ 654 → W s = V s) ∧ ((jpo V a = pz_mul (jpo W tq) (jpo V b) ∧ r = (.inl (some (.int (jn 1))), h')) ∨ ((∀ (q' : pz_P) (d : Nat), pz_lt q' d → jpo V a ≠ pz_mul q' (jpo V b)) ∧ r = (.inl (some (.int (jn 0))), h')))) := by
  have hda := jdg_le V a 13
  have hdbl := jdg_le V b 13
  refine mj_Ok.of (M := mj_m213) rfl rfl rfl ?_
  iterate 2 refine mj_T.pl rfl rfl rfl rfl ?_
  refine mj_T.call (ins := .invokevirtual 114) rfl rfl (Nat.le_of_ble_eq_true rfl) (Nat.le_of_ble_eq_true rfl) (by simp [mj_recv, jS_a G hs]) rfl (jp_degreeOf (D := D + 3) G (p := b) (by omega) hs) (fun v' h' hq' => ?_) (fun i h' hq' => by cases hq')
  cases hq'
  rw [hdb, show ((db + 1 : Nat) : Int) - 1 = (db : Int) by omega]
  iterate 3 refine mj_T.pl rfl rfl rfl rfl ?_
  refine mj_T.call (ins := .invokevirtual 110) rfl rfl (Nat.le_of_ble_eq_true rfl) (Nat.le_of_ble_eq_true rfl) (by simp [mj_recv, jS_a G hs]) rfl (jp_empties (D := D + 3) G (p := tq) (by omega) hs) (fun v' g1 hq' => ?_) (fun i h' hq' => by obtain ⟨_, _, h⟩ := hq'; cases h)
  obtain ⟨_, hs1, hq'⟩ := hq'
  cases hq'
  iterate 3 refine mj_T.pl rfl rfl rfl rfl ?_
  refine mj_T.call (ins := .invokevirtual 124) rfl rfl (Nat.le_of_ble_eq_true rfl) (Nat.le_of_ble_eq_true rfl) (by simp [mj_recv, jS_a G hs1]) rfl (jp_copiesPoly (D := D + 2) G (p := 3) (q := a) (by decide) (by omega) (by omega) hs1) (fun v' g2 hq' => ?_) (fun i h' hq' => by obtain ⟨_, _, h⟩ := hq'; cases h)
  obtain ⟨_, hs2, hq'⟩ := hq'
  cases hq'
  have e2 : ∀ e, e < 13 → jfl (jfl V tq (fun _ => 0) 13) 3 (fun e => jfl V tq (fun _ => 0) 13 (a * 13 + e)) 13 (tq * 13 + e) = 0 := fun e he => by
    rw [jfl_off _ 3 _ (by omega), jfl_at _ tq _ he]
  have e3 : ∀ e, e < 13 → jfl (jfl V tq (fun _ => 0) 13) 3 (fun e => jfl V tq (fun _ => 0) 13 (a * 13 + e)) 13 (3 * 13 + e) = V (a * 13 + e) := fun e he => by
    rw [jfl_at _ 3 _ he, jfl_off _ tq _ (by omega)]
  have e4 : ∀ s, (s < tq * 13 ∨ tq * 13 + 13 ≤ s) → (s < 39 ∨ 52 ≤ s) → jfl (jfl V tq (fun _ => 0) 13) 3 (fun e => jfl V tq (fun _ => 0) 13 (a * 13 + e)) 13 s = V s := fun s hc hc2 => by
    rw [jfl_off _ 3 _ (by omega), jfl_off _ tq _ (by omega)]
  generalize jfl (jfl V tq (fun _ => 0) 13) 3 (fun e => jfl V tq (fun _ => 0) 13 (a * 13 + e)) 13 = W at hs2 e2 e3 e4
  have hd3 : jdg W 3 13 = jdg V a 13 := jdg_congr 13 e3
  iterate 2 refine mj_T.pl rfl rfl rfl rfl ?_
  refine mj_T.call (ins := .invokevirtual 114) rfl rfl (Nat.le_of_ble_eq_true rfl) (Nat.le_of_ble_eq_true rfl) (by simp [mj_recv, jS_a G hs2]) rfl (jp_degreeOf (D := D + 3) G (p := 3) (by omega) hs2) (fun v' h' hq' => ?_) (fun i h' hq' => by cases hq')
  cases hq'
  rw [hd3]
  refine mj_T.pl rfl rfl rfl rfl ?_
  have hpo : jpo W 3 = jpo V a := funext fun e => by
    unfold jpo
    split
    · rename_i c
      exact e3 e c
    · rfl
  have hpo2 : jpo W tq = pz_0 := funext fun e => by
    unfold jpo
    split
    · rename_i c
      exact e2 e c
    · rfl
  have hrel : jpo V a = pz_add (pz_mul (jpo W tq) (jpo V b)) (jpo W 3) := by
    rw [hpo, hpo2, pz_mul_0L]
    funext e
    show jpo V a e = 0 + jpo V a e
    omega
  by_cases hcase : db ≤ jdg V a 13
  · have hx : ((jdg V a 13 : Nat) : Int) - 1 = ((db + (jdg V a 13 - db) : Nat) : Int) - 1 := by omega
    rw [hx]
    refine jp_dx (D := D) (V := V) (a := a) (b := b) (db := db) (n := jdg V a 13 - db) (tq := tq) G (lc := lc) (al := al) (be := be) hb hb3 htq ht3 htb hdb hlc (by omega) hbe hbe1 hfit (fun W2 h2 k1 k2 k3 => ⟨W2, h2, k1, k2, Or.inl ⟨k3, rfl⟩⟩) (fun W2 h2 k1 k2 k3 => ⟨W2, h2, k1, k2, Or.inr ⟨k3, rfl⟩⟩) (jdg V a 13 - db) W g2 _ (Nat.le_refl _) hs2 (fun s c c2 _ _ _ => e4 s c c2) hrel (fun e c1 c2 => ?_) (fun e he => e2 e (by omega)) (fun e he => ?_)
    · rw [e3 e c2]
      exact jdg_zero V a 13 e (by omega) c2
    · rw [e2 e he, e3 e he, Nat.sub_self, Nat.pow_zero, Nat.mul_one]
      exact ⟨Nat.zero_le _, hal e he⟩
  · have hBl : pz_lt (jpo V b) (db + 1) := fun i hi => by
      unfold jpo
      split
      · rename_i c
        exact jdg_zero V b 13 i (by omega) c
      · rfl
    have hBn : jpo V b db ≠ 0 := by
      have h0 := jdg_ne V b 13 (by omega)
      rw [hdb, Nat.add_sub_cancel] at h0
      rw [jpo_at (by omega)]
      exact h0
    have hRl : pz_lt (jpo W 3) (0 + db) := fun i hi => by
      unfold jpo
      split
      · rename_i c
        rw [e3 i c]
        exact jdg_zero V a 13 i (by omega) c
      · rfl
    iterate 2 refine mj_T.pl rfl rfl rfl rfl ?_
    refine mj_T.icmp (a := ((jdg V a 13 : Nat) : Int) - 1) (b := (db : Int)) rfl ⟨by omega, by omega⟩ ⟨by omega, by omega⟩ (fun hc => ?_) (fun hc => ?_)
    · iterate 2 refine mj_T.pl rfl rfl rfl rfl ?_
      refine mj_T.call (ins := .invokevirtual 114) rfl rfl (Nat.le_of_ble_eq_true rfl) (Nat.le_of_ble_eq_true rfl) (by simp [mj_recv, jS_a G hs2]) rfl (jp_degreeOf (D := D + 3) G (p := 3) (by omega) hs2) (fun v' h' hq' => ?_) (fun i h' hq' => by cases hq')
      cases hq'
      rw [hd3]
      refine mj_T.if0 (a := (jdg V a 13 : Int) - 1) rfl ⟨by omega, by omega⟩ (fun hc2 => ?_) (fun hc2 => ?_)
      · simp only [jc, decide_eq_true_eq] at hc2
        refine mj_T.pl rfl rfl rfl rfl ?_
        refine mj_T.ret rfl rfl rfl ⟨W, g2, hs2, fun s c c2 _ _ _ => e4 s c c2, Or.inr ⟨fun q' d hq hA => ?_, rfl⟩⟩
        obtain ⟨u, hu, e⟩ := jdx_not hBl hBn hrel hq (jpo_lt W tq) hA hRl
        have e0 : jpo W 3 = pz_0 := by rw [e, pz_lt.zero u hu, pz_mul_0L]
        have hx := jdg_ne W 3 13 (by omega)
        apply hx
        rw [← jpo_at (V := W) (p := 3) (show jdg W 3 13 - 1 < 13 by omega), e0]
        rfl
      · simp only [jc, decide_eq_false_iff_not] at hc2
        iterate 2 refine mj_T.pl rfl rfl rfl rfl ?_
        refine mj_T.ret rfl rfl rfl ⟨W, g2, hs2, fun s c c2 _ _ _ => e4 s c c2, Or.inl ⟨?_, rfl⟩⟩
        rw [hrel]
        funext i
        show pz_mul (jpo W tq) (jpo V b) i + jpo W 3 i = pz_mul (jpo W tq) (jpo V b) i
        have : jpo W 3 i = 0 := by
          unfold jpo
          split
          · rename_i c
            exact jdg_zero W 3 13 i (by omega) c
          · rfl
        omega
    · simp only [jc, decide_eq_false_iff_not] at hc
      omega
end JDXF
/-! The reference's greatest common divisor of polynomials: its loop, over any invariant. -/
theorem jcm_prim {V W : Nat → Int} {p : Nat} {f : Int} (hf : f = 1 ∨ f = -1) (hW : ∀ e, e < 13 → W (p * 13 + e) = f * (V (p * 13 + e)).tdiv ((jgk V p 13 : Nat) : Int)) : (jpo V p = pz_0 ∧ jpo W p = pz_0) ∨ ∃ c : Int, c ≠ 0 ∧ jpo V p = pz_sc c (jpo W p) ∧ pz_prim (jpo W p) := by
  by_cases hg : jgk V p 13 = 0
  · have hz : ∀ e, e < 13 → V (p * 13 + e) = 0 := fun e he => by
      have h1 := jgk_dvd V p 13 e (Nat.le_refl _) (by omega) he
      rw [hg] at h1
      have h2 := Nat.eq_zero_of_zero_dvd h1
      omega
    refine Or.inl ⟨funext fun e => ?_, funext fun e => ?_⟩
    · show (if e < 13 then V (p * 13 + e) else 0) = 0
      split
      · rename_i c
        exact hz e c
      · rfl
    · show (if e < 13 then W (p * 13 + e) else 0) = 0
      split
      · rename_i c
        rw [hW e c, hz e c, Int.zero_tdiv, Int.mul_zero]
      · rfl
  · have hd : ∀ e, e < 13 → ((jgk V p 13 : Nat) : Int) * (V (p * 13 + e)).tdiv ((jgk V p 13 : Nat) : Int) = V (p * 13 + e) := fun e he => by
      have h1 := jgk_dvd V p 13 e (Nat.le_refl _) (by omega) he
      have h2 : ((jgk V p 13 : Nat) : Int) ∣ V (p * 13 + e) := Int.natAbs_dvd_natAbs.mp h1
      exact Int.mul_tdiv_cancel' h2
    refine Or.inr ⟨f * ((jgk V p 13 : Nat) : Int), Int.mul_ne_zero (by omega) (by omega), funext fun e => ?_, fun k hk => ?_⟩
    · show jpo V p e = f * ((jgk V p 13 : Nat) : Int) * jpo W p e
      by_cases he : e < 13
      · rw [jpo_at he, jpo_at he, hW e he]
        have h1 := hd e he
        generalize (V (p * 13 + e)).tdiv ((jgk V p 13 : Nat) : Int) = x at h1
        generalize ((jgk V p 13 : Nat) : Int) = g at h1
        rcases hf with rfl | rfl
        · rw [Int.one_mul, Int.one_mul]
          exact h1.symm
        · rw [show (-1 : Int) * g = -g by omega, show (-1 : Int) * x = -x by omega, Int.neg_mul_neg]
          exact h1.symm
      · unfold jpo
        rw [if_neg he, if_neg he, Int.mul_zero]
    · have h1 : jgk V p 13 * k ∣ jgk V p 13 := jgk_max V p _ (fun e he => by
        have h2 := Int.natAbs_dvd_natAbs.mpr (hk e)
        rw [jpo_at he, hW e he, Int.natAbs_mul] at h2
        have h3 := congrArg Int.natAbs (hd e he)
        rw [Int.natAbs_mul] at h3
        have h4 : f.natAbs = 1 := by omega
        rw [h4, Nat.one_mul] at h2
        rw [← h3]
        exact Nat.mul_dvd_mul_left _ h2) 13 (Nat.le_refl _)
      obtain ⟨z, hz⟩ := h1
      have h5 : k * z = 1 := by
        refine Nat.eq_of_mul_eq_mul_left (show 0 < jgk V p 13 by omega) ?_
        rw [← Nat.mul_assoc, ← hz, Nat.mul_one]
      exact Nat.dvd_one.mp ⟨z, h5.symm⟩
section JCM
variable {D : Nat} {hp h : mj_H} {q0 q1 q2 q3 : Nat} {fs : List Value} {V : Nat → Int} {a b to : Nat}
theorem jp_cm (G : jG hp q0 q1 q2 q3 fs) {J : pz_P → pz_P → Prop} (ha : a ≤ 49) (ha2 : a ≠ 2) (ha3 : a ≠ 3) (hb : b ≤ 49) (hb2 : b ≠ 2) (hb3 : b ≠ 3) (hab : a ≠ b) 
    (hJf : ∀ (x y : pz_P) (db n : Nat), J x y → pz_lt x (db + n) → (1 ≤ n → x (db + n - 1) ≠ 0) → pz_lt y (db + 1) → y db ≠ 0 → db < 13 → ∃ al be : Nat, 1 ≤ be ∧ (∀ i, (x i).natAbs ≤ al) ∧ (∀ i, (y i).natAbs ≤ be) ∧ al * (2 * be) ^ n < jB ^ 698)
    (hJs : ∀ (x y q r r1 : pz_P) (db n : Nat), J x y → pz_lt y (db + 1) → y db ≠ 0 → pz_sc (y db ^ n) x = pz_add (pz_mul q y) r → pz_lt q 13 → pz_lt r db → ((r = pz_0 ∧ r1 = pz_0) ∨ ∃ c : Int, c ≠ 0 ∧ r = pz_sc c r1 ∧ pz_prim r1) → J y r1)
    {Q : mj_R → Prop}
    (hend : ∀ (W : Nat → Int) (h : mj_H) (e4 : Option Value), jS hp q1 q2 q3 W h → (∀ s, (s < a * 13 ∨ a * 13 + 13 ≤ s) → (s < b * 13 ∨ b * 13 + 13 ≤ s) → (s < 26 ∨ 52 ≤ s) → s ≠ 652 → s ≠ 653 → s ≠ 654 → s ≠ 655 → s ≠ 663 → s ≠ 664 → W s = V s) → J (jpo W a) (jpo W b) → (∀ e, e < 13 → W (b * 13 + e) = 0) → mj_T (D + 8) mj_m212 48 [some (.ref q0), some (.int (jn (to : Nat))), some (.int (jn (a : Nat))), some (.int (jn (b : Nat))), e4] [] h Q) :
    ∀ (d : Nat) (W : Nat → Int) (h : mj_H) (e4 : Option Value), jdg W b 13 ≤ d → jS hp q1 q2 q3 W h → (∀ s, (s < a * 13 ∨ a * 13 + 13 ≤ s) → (s < b * 13 ∨ b * 13 + 13 ≤ s) → (s < 26 ∨ 52 ≤ s) → s ≠ 652 → s ≠ 653 → s ≠ 654 → s ≠ 655 → s ≠ 663 → s ≠ 664 → W s = V s) → J (jpo W a) (jpo W b) → mj_T (D + 8) mj_m212 10 [some (.ref q0), some (.int (jn (to : Nat))), some (.int (jn (a : Nat))), some (.int (jn (b : Nat))), e4] [] h Q := by
  intro d
  induction d with
  | zero =>
    intro W h e4 hd hs hf hJ
    have hd0 : jdg W b 13 = 0 := by omega
    iterate 2 refine mj_T.pl rfl rfl rfl rfl ?_
    refine mj_T.call (ins := .invokevirtual 114) rfl rfl (Nat.le_of_ble_eq_true rfl) (Nat.le_of_ble_eq_true rfl) (by simp [mj_recv, jS_a G hs]) rfl (jp_degreeOf (D := D + 6) G (p := b) (by omega) hs) (fun v' h' hq' => ?_) (fun i h' hq' => by cases hq')
    cases hq'
    rw [hd0]
    refine mj_T.if0 (a := ((0 : Nat) : Int) - 1) rfl ⟨by decide, by decide⟩ (fun hc => ?_) (fun hc => ?_)
    · exact hend W h e4 hs hf hJ (fun e he => jdg_zero W b 13 e (by omega) he)
    · simp [jc] at hc
  | succ d ih =>
    intro W h e4 hd hs hf hJ
    have hdl := jdg_le W b 13
    iterate 2 refine mj_T.pl rfl rfl rfl rfl ?_
    refine mj_T.call (ins := .invokevirtual 114) rfl rfl (Nat.le_of_ble_eq_true rfl) (Nat.le_of_ble_eq_true rfl) (by simp [mj_recv, jS_a G hs]) rfl (jp_degreeOf (D := D + 6) G (p := b) (by omega) hs) (fun v' h' hq' => ?_) (fun i h' hq' => by cases hq')
    cases hq'
    refine mj_T.if0 (a := (jdg W b 13 : Int) - 1) rfl ⟨by omega, by omega⟩ (fun hc => ?_) (fun hc => ?_)
    · simp only [jc, decide_eq_true_eq] at hc
      exact hend W h e4 hs hf hJ (fun e he => jdg_zero W b 13 e (by omega) he)
    simp only [jc, decide_eq_false_iff_not] at hc
    obtain ⟨db, hdb⟩ : ∃ db, jdg W b 13 = db + 1 := ⟨jdg W b 13 - 1, by omega⟩
    have hlead := jdg_ne W b 13 (by omega)
    rw [hdb, Nat.add_sub_cancel] at hlead
    have hyl : pz_lt (jpo W b) (db + 1) := fun i hi => by
      unfold jpo
      split
      · rename_i c
        exact jdg_zero W b 13 i (by omega) c
      · rfl
    have ydb : jpo W b db = W (b * 13 + db) := jpo_at (by omega)
    have hal1 := jdg_le W a 13
    have hxl : pz_lt (jpo W a) (db + (jdg W a 13 - db)) := fun i hi => by
      unfold jpo
      split
      · rename_i c
        exact jdg_zero W a 13 i (by omega) c
      · rfl
    have hxn : 1 ≤ jdg W a 13 - db → jpo W a (db + (jdg W a 13 - db) - 1) ≠ 0 := fun hn => by
      rw [show db + (jdg W a 13 - db) - 1 = jdg W a 13 - 1 by omega, jpo_at (show jdg W a 13 - 1 < 13 by omega)]
      exact jdg_ne W a 13 (by omega)
    obtain ⟨al, be, hbe1, hal0, hbe0, hfit⟩ := hJf _ _ db (jdg W a 13 - db) hJ hxl hxn hyl (by rw [ydb]; exact hlead) (by omega)
    have hal : ∀ e, e < 13 → (W (a * 13 + e)).natAbs ≤ al := fun e he => by
      rw [← jpo_at (V := W) (p := a) he]
      exact hal0 e
    have hbe : ∀ e, e < 13 → (W (b * 13 + e)).natAbs ≤ be := fun e he => by
      rw [← jpo_at (V := W) (p := b) he]
      exact hbe0 e
    iterate 5 refine mj_T.pl rfl rfl rfl rfl ?_
    refine mj_T.call (ins := .invokevirtual 145) rfl rfl (Nat.le_of_ble_eq_true rfl) (Nat.le_of_ble_eq_true rfl) (by simp [mj_recv, jS_a G hs]) rfl (jp_dividesPoly (D := D + 3) G (lc := W (b * 13 + db)) (al := al) (be := be) ha ha2 ha3 hb hb2 hb3 hdb rfl hal hbe hbe1 hfit hs) (fun v' h1 hq' => ?_) (fun i h' hq' => by obtain ⟨_, _, _, _, _, _, _, h⟩ := hq'; cases h)
    obtain ⟨W1, _, hs1, k1, k2, k3, k4, hq'⟩ := hq'
    cases hq'
    iterate 4 refine mj_T.pl rfl rfl rfl rfl ?_
    refine mj_T.call (ins := .invokevirtual 124) rfl rfl (Nat.le_of_ble_eq_true rfl) (Nat.le_of_ble_eq_true rfl) (by simp [mj_recv, jS_a G hs1]) rfl (jp_copiesPoly (D := D + 5) G (p := a) (q := b) (by omega) (by omega) hab hs1) (fun v' h2 hq' => ?_) (fun i h' hq' => by obtain ⟨_, _, h⟩ := hq'; cases h)
    obtain ⟨_, hs2, hq'⟩ := hq'
    cases hq'
    have e1 : ∀ e, e < 13 → jfl W1 a (fun e => W1 (b * 13 + e)) 13 (a * 13 + e) = W1 (b * 13 + e) := fun e he => jfl_at _ a _ he
    have e2 : ∀ s, (s < a * 13 ∨ a * 13 + 13 ≤ s) → jfl W1 a (fun e => W1 (b * 13 + e)) 13 s = W1 s := fun s hc => jfl_off _ a _ hc
    generalize jfl W1 a (fun e => W1 (b * 13 + e)) 13 = W2 at hs2 e1 e2
    iterate 2 refine mj_T.pl rfl rfl rfl rfl ?_
    refine mj_T.call (ins := .invokevirtual 142) rfl rfl (Nat.le_of_ble_eq_true rfl) (Nat.le_of_ble_eq_true rfl) (by simp [mj_recv, jS_a G hs2]) rfl (jp_makesPrimitive (D := D) G (p := 3) (by omega) hs2) (fun v' h3 hq' => ?_) (fun i h' hq' => by obtain ⟨_, _, _, _, _, h⟩ := hq'; cases h)
    obtain ⟨W3, _, hs3, ⟨f, hf1, k5⟩, k6, hq'⟩ := hq'
    cases hq'
    iterate 3 refine mj_T.pl rfl rfl rfl rfl ?_
    refine mj_T.call (ins := .invokevirtual 124) rfl rfl (Nat.le_of_ble_eq_true rfl) (Nat.le_of_ble_eq_true rfl) (by simp [mj_recv, jS_a G hs3]) rfl (jp_copiesPoly (D := D + 5) G (p := b) (q := 3) (by omega) (by omega) hb3 hs3) (fun v' h4 hq' => ?_) (fun i h' hq' => by obtain ⟨_, _, h⟩ := hq'; cases h)
    obtain ⟨_, hs4, hq'⟩ := hq'
    cases hq'
    have e3 : ∀ e, e < 13 → jfl W3 b (fun e => W3 (3 * 13 + e)) 13 (b * 13 + e) = W3 (3 * 13 + e) := fun e he => jfl_at _ b _ he
    have e5 : ∀ s, (s < b * 13 ∨ b * 13 + 13 ≤ s) → jfl W3 b (fun e => W3 (3 * 13 + e)) 13 s = W3 s := fun s hc => jfl_off _ b _ hc
    generalize jfl W3 b (fun e => W3 (3 * 13 + e)) 13 = W4 at hs4 e3 e5
    have pa : jpo W4 a = jpo W b := funext fun e => by
      by_cases he : e < 13
      · rw [jpo_at he, jpo_at he, e5 _ (by omega), k6 _ (by omega) (by omega) (by omega) (by omega) (by omega) (by omega), e1 e he, k1 _ (by omega) (by omega) (by omega)]
      · unfold jpo
        rw [if_neg he, if_neg he]
    have pb : jpo W4 b = jpo W3 3 := funext fun e => by
      by_cases he : e < 13
      · rw [jpo_at he, jpo_at he, e3 e he]
      · unfold jpo
        rw [if_neg he, if_neg he]
    have pr : jpo W2 3 = jpo W1 3 := funext fun e => by
      by_cases he : e < 13
      · rw [jpo_at he, jpo_at he, e2 _ (by omega)]
      · unfold jpo
        rw [if_neg he, if_neg he]
    have hpr := jcm_prim (V := W2) (W := W3) (p := 3) hf1 k5
    rw [pr] at hpr
    have hrl : pz_lt (jpo W1 3) db := fun i hi => by
      unfold jpo
      split
      · rename_i c
        exact k3 i hi c
      · rfl
    refine mj_T.pl rfl rfl rfl rfl ?_
    refine ih W4 h4 _ ?_ hs4 (fun s c1 c2 c3 c4 c5 c6 c7 c8 c9 => ?_) ?_
    · have z : ∀ e, db ≤ e → e < 13 → W4 (b * 13 + e) = 0 := fun e c1 c2 => by
        rw [e3 e c2, k5 e c2, e2 _ (by omega), k3 e c1 c2, Int.zero_tdiv, Int.mul_zero]
      refine Nat.le_of_not_lt (fun hlt => ?_)
      exact jdg_ne W4 b 13 (by omega) (z (jdg W4 b 13 - 1) (by omega) (by have := jdg_le W4 b 13; omega))
    · rw [e5 s c2, k6 s (by omega) c4 c5 c7 c8 c9, e2 s c1, k1 s c3 c4 c6]
      exact hf s c1 c2 c3 c4 c5 c6 c7 c8 c9
    · rw [pa, pb]
      refine hJs (jpo W a) (jpo W b) (jpo W1 2) (jpo W1 3) (jpo W3 3) db (jdg W a 13 - db) hJ hyl (by rw [ydb]; exact hlead) (by rw [ydb]; exact k2) (jpo_lt W1 2) hrl hpr
end JCM
/-! The reference's greatest common divisor of polynomials, whole, over any invariant. -/
section JCW
variable {D : Nat} {hp h : mj_H} {q0 q1 q2 q3 : Nat} {fs : List Value} {V : Nat → Int} {a b to : Nat}
theorem jp_commonsPoly (G : jG hp q0 q1 q2 q3 fs) {J : pz_P → pz_P → Prop} (hto : to ≤ 49) (hta : to ≠ a) (ha : a ≤ 49) (ha2 : a ≠ 2) (ha3 : a ≠ 3) (hb : b ≤ 49) (hb2 : b ≠ 2) (hb3 : b ≠ 3) (hab : a ≠ b) 
    (hJf : ∀ (x y : pz_P) (db n : Nat), J x y → pz_lt x (db + n) → (1 ≤ n → x (db + n - 1) ≠ 0) → pz_lt y (db + 1) → y db ≠ 0 → db < 13 → ∃ al be : Nat, 1 ≤ be ∧ (∀ i, (x i).natAbs ≤ al) ∧ (∀ i, (y i).natAbs ≤ be) ∧ al * (2 * be) ^ n < jB ^ 698)
    (hJs : ∀ (x y q r r1 : pz_P) (db n : Nat), J x y → pz_lt y (db + 1) → y db ≠ 0 → pz_sc (y db ^ n) x = pz_add (pz_mul q y) r → pz_lt q 13 → pz_lt r db → ((r = pz_0 ∧ r1 = pz_0) ∨ ∃ c : Int, c ≠ 0 ∧ r = pz_sc c r1 ∧ pz_prim r1) → J y r1)
    (hJ0 : ∀ x y : pz_P, ((jpo V a = pz_0 ∧ x = pz_0) ∨ ∃ c : Int, c ≠ 0 ∧ jpo V a = pz_sc c x ∧ pz_prim x) → ((jpo V b = pz_0 ∧ y = pz_0) ∨ ∃ c : Int, c ≠ 0 ∧ jpo V b = pz_sc c y ∧ pz_prim y) → J x y) (hs : jS hp q1 q2 q3 V h) :
    mj_Ok (D + 9) 212 [.ref q0, .int (jn (to : Nat)), .int (jn (a : Nat)), .int (jn (b : Nat))] h (fun r => ∃ (W : Nat → Int) (h' : mj_H), jS hp q1 q2 q3 W h' ∧ (∀ s, (s < to * 13 ∨ to * 13 + 13 ≤ s) → (s < a * 13 ∨ a * 13 + 13 ≤ s) → (s < b * 13 ∨ b * 13 + 13 ≤ s) → (s < 26 ∨ 52 ≤ s) → s ≠ 652 → s ≠ 653 → s ≠ 654 → s ≠ 655 → s ≠ 663 → s ≠ 664 → W s = V s) ∧ J (jpo W to) pz_0 ∧ r = (.inl none, h')) := by
  refine mj_Ok.of (M := mj_m212) rfl rfl rfl ?_
  iterate 2 refine mj_T.pl rfl rfl rfl rfl ?_
  refine mj_T.call (ins := .invokevirtual 142) rfl rfl (Nat.le_of_ble_eq_true rfl) (Nat.le_of_ble_eq_true rfl) (by simp [mj_recv, jS_a G hs]) rfl (jp_makesPrimitive (D := D) G (p := a) ha hs) (fun v' h1 hq' => ?_) (fun i h' hq' => by obtain ⟨_, _, _, _, _, h⟩ := hq'; cases h)
  obtain ⟨W1, _, hs1, ⟨f1, hf1, k1⟩, k2, hq'⟩ := hq'
  cases hq'
  iterate 2 refine mj_T.pl rfl rfl rfl rfl ?_
  refine mj_T.call (ins := .invokevirtual 142) rfl rfl (Nat.le_of_ble_eq_true rfl) (Nat.le_of_ble_eq_true rfl) (by simp [mj_recv, jS_a G hs1]) rfl (jp_makesPrimitive (D := D) G (p := b) hb hs1) (fun v' h2 hq' => ?_) (fun i h' hq' => by obtain ⟨_, _, _, _, _, h⟩ := hq'; cases h)
  obtain ⟨W2, _, hs2, ⟨f2, hf2, k3⟩, k4, hq'⟩ := hq'
  cases hq'
  have p1 := jcm_prim (V := V) (W := W1) (p := a) hf1 k1
  have p2 := jcm_prim (V := W1) (W := W2) (p := b) hf2 k3
  have e1 : jpo W1 b = jpo V b := funext fun e => by
    by_cases he : e < 13
    · rw [jpo_at he, jpo_at he, k2 _ (by omega) (by omega) (by omega) (by omega) (by omega) (by omega)]
    · unfold jpo
      rw [if_neg he, if_neg he]
  have e2 : jpo W2 a = jpo W1 a := funext fun e => by
    by_cases he : e < 13
    · rw [jpo_at he, jpo_at he, k4 _ (by omega) (by omega) (by omega) (by omega) (by omega) (by omega)]
    · unfold jpo
      rw [if_neg he, if_neg he]
  rw [e1] at p2
  have hJ : J (jpo W2 a) (jpo W2 b) := by
    rw [e2]
    exact hJ0 _ _ p1 p2
  refine jp_cm (D := D) (V := V) (a := a) (b := b) (to := to) G (J := J) ha ha2 ha3 hb hb2 hb3 hab hJf hJs (fun W3 h3 e4 hs3 hf3 hJ3 hz3 => ?_) (jdg W2 b 13) W2 h2 _ (Nat.le_refl _) hs2 (fun s c1 c2 c3 c4 c5 c6 c7 c8 c9 => by rw [k4 s c2 c4 c5 c7 c8 c9, k2 s c1 c4 c5 c7 c8 c9]) hJ
  iterate 3 refine mj_T.pl rfl rfl rfl rfl ?_
  refine mj_T.call (ins := .invokevirtual 124) rfl rfl (Nat.le_of_ble_eq_true rfl) (Nat.le_of_ble_eq_true rfl) (by simp [mj_recv, jS_a G hs3]) rfl (jp_copiesPoly (D := D + 5) G (p := to) (q := a) (by omega) (by omega) hta hs3) (fun v' h4 hq' => ?_) (fun i h' hq' => by obtain ⟨_, _, h⟩ := hq'; cases h)
  obtain ⟨_, hs4, hq'⟩ := hq'
  cases hq'
  refine mj_T.ret rfl rfl rfl ⟨_, h4, hs4, fun s c0 c1 c2 c3 c4 c5 c6 c7 c8 c9 => ?_, ?_, rfl⟩
  · rw [jfl_off _ to _ c0]
    exact hf3 s c1 c2 c3 c4 c5 c6 c7 c8 c9
  · have e3 : jpo (jfl W3 to (fun e => W3 (a * 13 + e)) 13) to = jpo W3 a := funext fun e => by
      by_cases he : e < 13
      · rw [jpo_at he, jpo_at he, jfl_at _ to _ he]
      · unfold jpo
        rw [if_neg he, if_neg he]
    have e4 : jpo W3 b = pz_0 := funext fun e => by
      by_cases he : e < 13
      · rw [jpo_at he, hz3 e he]
        rfl
      · unfold jpo
        rw [if_neg he]
        rfl
    rw [e3, ← e4]
    exact hJ3
end JCW
/-! The reference's polynomials: whether they fit, whether a product is too high. -/
def jib (V : Nat → Int) (p : Nat) : Nat → Nat
  | 0 => 1
  | k + 1 => if jib V p k = 0 then 0 else if jnl (V (p * 13 + k)).natAbs ≤ 2 then 1 else 0
theorem jib_le (V : Nat → Int) (p : Nat) : ∀ k, jib V p k ≤ 1
  | 0 => Nat.le_refl _
  | k + 1 => by unfold jib; (repeat' split) <;> omega
theorem jib_one {V : Nat → Int} {p : Nat} : ∀ k, jib V p k = 1 → ∀ e, e < k → jnl (V (p * 13 + e)).natAbs ≤ 2
  | 0, _, e, he => by omega
  | k + 1, h, e, he => by
    unfold jib at h
    split at h
    · omega
    · rename_i c
      split at h
      · rename_i c2
        by_cases q : e = k
        · rw [q]; exact c2
        · exact jib_one k (by have := jib_le V p k; omega) e (by omega)
      · omega
section JIB
variable {D : Nat} {hp h : mj_H} {q0 q1 q2 q3 : Nat} {fs : List Value} {V : Nat → Int} {p : Nat}
theorem jp_ib_loop (G : jG hp q0 q1 q2 q3 fs) (hp9 : p ≤ 50) (hlen : ∀ e, e < 13 → jnl (V (p * 13 + e)).natAbs ≤ 700) (hs : jS hp q1 q2 q3 V h) {Q : mj_R → Prop} (hend : Q (.inl (some (.int (jn (jib V p 13 : Nat)))), h)) :
    ∀ (d k : Nat), k + d = 13 → mj_T (D + 1) mj_m205 4 [some (.ref q0), some (.int (jn (p : Nat))), some (.int (jn (jib V p k : Nat))), some (.int (jn (k : Nat)))] [] h Q := by
  intro d
  induction d with
  | zero =>
    intro k hk
    have hk : k = 13 := by omega
    subst hk
    iterate 2 refine mj_T.pl rfl rfl rfl rfl ?_
    refine mj_T.icmp (a := ((13 : Nat) : Int)) (b := 13) rfl ⟨by decide, by decide⟩ ⟨by decide, by decide⟩ (fun hc => ?_) (fun hc => ?_)
    · have hl := jib_le V p 13
      generalize jib V p 13 = z at hl hend ⊢
      refine mj_T.pl rfl rfl rfl rfl ?_
      rcases (show z = 0 ∨ z = 1 by omega) with rfl | rfl
      · exact mj_T.ret rfl rfl rfl hend
      · exact mj_T.ret rfl rfl rfl hend
    · simp [jc] at hc
  | succ d ih =>
    intro k hk
    have hl := jib_le V p k
    have fin : ∀ y : Int, y = ((jib V p (k + 1) : Nat) : Int) → mj_T (D + 1) mj_m205 32 [some (.ref q0), some (.int (jn (p : Nat))), some (.int (jn (jib V p k : Nat))), some (.int (jn (k : Nat)))] [.int (jn y)] h Q := fun y hy => by
      subst hy
      refine mj_T.pl rfl rfl rfl rfl ?_
      refine mj_T.iinc (a := k) rfl rfl ?_
      refine mj_T.pl rfl rfl rfl rfl ?_
      exact ih (k + 1) (by omega)
    iterate 2 refine mj_T.pl rfl rfl rfl rfl ?_
    refine mj_T.icmp (a := (k : Int)) (b := 13) rfl ⟨by omega, by omega⟩ ⟨by decide, by decide⟩ (fun hc => ?_) (fun hc => ?_)
    · simp only [jc, decide_eq_true_eq] at hc
      omega
    refine mj_T.pl rfl rfl rfl rfl ?_
    refine mj_T.if0 (a := ((jib V p k : Nat) : Int)) rfl ⟨by omega, by omega⟩ (fun hc2 => ?_) (fun hc2 => ?_)
    · simp only [jc, decide_eq_true_eq] at hc2
      refine mj_T.pl rfl rfl rfl rfl ?_
      refine fin 0 ?_
      unfold jib
      rw [if_pos (by omega)]
      rfl
    · simp only [jc, decide_eq_false_iff_not] at hc2
      iterate 3 refine mj_T.pl rfl rfl rfl rfl ?_
      refine mj_T.call (ins := .invokestatic 104) rfl rfl (Nat.le_of_ble_eq_true rfl) (Nat.le_of_ble_eq_true rfl) rfl rfl (jq_slot (D := D) (p := p) (i := k)) (fun v' h' hq' => ?_) (fun i h' hq' => by cases hq')
      cases hq'
      refine mj_T.call (ins := .invokevirtual 52) rfl rfl (Nat.le_of_ble_eq_true rfl) (Nat.le_of_ble_eq_true rfl) (by simp [mj_recv, jS_a G hs]) rfl (jS_length (D := D) G (s := p * 13 + k) (by omega) hs) (fun v' h' hq' => ?_) (fun i h' hq' => by cases hq')
      cases hq'
      refine mj_T.pl rfl rfl rfl rfl ?_
      have hlk := hlen k (by omega)
      refine mj_T.icmp (a := ((jnl (V (p * 13 + k)).natAbs : Nat) : Int)) (b := 2) rfl ⟨by omega, by omega⟩ ⟨by decide, by decide⟩ (fun hc3 => ?_) (fun hc3 => ?_)
      · simp only [jc, decide_eq_true_eq] at hc3
        refine mj_T.pl rfl rfl rfl rfl ?_
        refine fin 0 ?_
        unfold jib
        rw [if_neg (by omega), if_neg (by omega)]
        rfl
      · simp only [jc, decide_eq_false_iff_not] at hc3
        iterate 2 refine mj_T.pl rfl rfl rfl rfl ?_
        refine fin 1 ?_
        unfold jib
        rw [if_neg (by omega), if_pos (by omega)]
        rfl
theorem jp_isInBounds (G : jG hp q0 q1 q2 q3 fs) (hp9 : p ≤ 50) (hlen : ∀ e, e < 13 → jnl (V (p * 13 + e)).natAbs ≤ 700) (hs : jS hp q1 q2 q3 V h) : mj_Ok (D + 2) 205 [.ref q0, .int (jn (p : Nat))] h (fun r => r = (.inl (some (.int (jn (jib V p 13 : Nat)))), h)) := by
  refine mj_Ok.of (M := mj_m205) rfl rfl rfl ?_
  iterate 4 refine mj_T.pl rfl rfl rfl rfl ?_
  exact jp_ib_loop (D := D) G hp9 hlen hs (Q := fun r => r = (.inl (some (.int (jn (jib V p 13 : Nat)))), h)) rfl 13 0 (by omega)
end JIB
/-! The reference's polynomials: whether a product is too high. -/
section JTH
variable {D : Nat} {hp h : mj_H} {q0 q1 q2 q3 : Nat} {fs : List Value} {V : Nat → Int} {a b : Nat}
theorem jp_isTooHigh (G : jG hp q0 q1 q2 q3 fs) (ha : a ≤ 50) (hb : b ≤ 50) (hs : jS hp q1 q2 q3 V h) : mj_Ok (D + 3) 203 [.ref q0, .int (jn (a : Nat)), .int (jn (b : Nat))] h (fun r => (1 ≤ jdg V a 13 ∧ 1 ≤ jdg V b 13 ∧ 14 < jdg V a 13 + jdg V b 13 ∧ r = (.inl (some (.int (jn 1))), h)) ∨ ((jdg V a 13 = 0 ∨ jdg V b 13 = 0 ∨ jdg V a 13 + jdg V b 13 ≤ 14) ∧ r = (.inl (some (.int (jn 0))), h))) := by
  have hda := jdg_le V a 13
  have hdb := jdg_le V b 13
  refine mj_Ok.of (M := mj_m203) rfl rfl rfl ?_
  iterate 2 refine mj_T.pl rfl rfl rfl rfl ?_
  refine mj_T.call (ins := .invokevirtual 114) rfl rfl (Nat.le_of_ble_eq_true rfl) (Nat.le_of_ble_eq_true rfl) (by simp [mj_recv, jS_a G hs]) rfl (jp_degreeOf (D := D) G (p := a) (by omega) hs) (fun v' h' hq' => ?_) (fun i h' hq' => by cases hq')
  cases hq'
  refine mj_T.if0 (a := (jdg V a 13 : Int) - 1) rfl ⟨by omega, by omega⟩ (fun hc => ?_) (fun hc => ?_)
  · simp only [jc, decide_eq_true_eq] at hc
    refine mj_T.pl rfl rfl rfl rfl ?_
    exact mj_T.ret rfl rfl rfl (Or.inr ⟨Or.inl (by omega), rfl⟩)
  simp only [jc, decide_eq_false_iff_not] at hc
  iterate 2 refine mj_T.pl rfl rfl rfl rfl ?_
  refine mj_T.call (ins := .invokevirtual 114) rfl rfl (Nat.le_of_ble_eq_true rfl) (Nat.le_of_ble_eq_true rfl) (by simp [mj_recv, jS_a G hs]) rfl (jp_degreeOf (D := D) G (p := b) (by omega) hs) (fun v' h' hq' => ?_) (fun i h' hq' => by cases hq')
  cases hq'
  refine mj_T.if0 (a := (jdg V b 13 : Int) - 1) rfl ⟨by omega, by omega⟩ (fun hc2 => ?_) (fun hc2 => ?_)
  · simp only [jc, decide_eq_true_eq] at hc2
    refine mj_T.pl rfl rfl rfl rfl ?_
    exact mj_T.ret rfl rfl rfl (Or.inr ⟨Or.inr (Or.inl (by omega)), rfl⟩)
  simp only [jc, decide_eq_false_iff_not] at hc2
  iterate 2 refine mj_T.pl rfl rfl rfl rfl ?_
  refine mj_T.call (ins := .invokevirtual 114) rfl rfl (Nat.le_of_ble_eq_true rfl) (Nat.le_of_ble_eq_true rfl) (by simp [mj_recv, jS_a G hs]) rfl (jp_degreeOf (D := D) G (p := a) (by omega) hs) (fun v' h' hq' => ?_) (fun i h' hq' => by cases hq')
  cases hq'
  iterate 2 refine mj_T.pl rfl rfl rfl rfl ?_
  refine mj_T.call (ins := .invokevirtual 114) rfl rfl (Nat.le_of_ble_eq_true rfl) (Nat.le_of_ble_eq_true rfl) (by simp [mj_recv, jS_a G hs]) rfl (jp_degreeOf (D := D) G (p := b) (by omega) hs) (fun v' h' hq' => ?_) (fun i h' hq' => by cases hq')
  cases hq'
  refine mj_T.iadd (a := (jdg V a 13 : Int) - 1) (b := (jdg V b 13 : Int) - 1) rfl ?_
  refine mj_T.pl rfl rfl rfl rfl ?_
  refine mj_T.icmp (a := (jdg V a 13 : Int) - 1 + ((jdg V b 13 : Int) - 1)) (b := 12) rfl ⟨by omega, by omega⟩ ⟨by decide, by decide⟩ (fun hc3 => ?_) (fun hc3 => ?_)
  · simp only [jc, decide_eq_true_eq] at hc3
    refine mj_T.pl rfl rfl rfl rfl ?_
    exact mj_T.ret rfl rfl rfl (Or.inr ⟨Or.inr (Or.inr (by omega)), rfl⟩)
  · simp only [jc, decide_eq_false_iff_not] at hc3
    iterate 2 refine mj_T.pl rfl rfl rfl rfl ?_
    exact mj_T.ret rfl rfl rfl (Or.inl ⟨by omega, by omega, by omega, rfl⟩)
end JTH
/-! The row of remainders of two registers: an invariant with sizes by degrees. -/
def kq_F (A m : Nat) : Nat := m * (A * (2 * m * A) ^ (m - 1))
theorem kq_F_mono {A m n : Nat} (hA : 1 ≤ A) (h : m ≤ n) : kq_F A m ≤ kq_F A n := by
  unfold kq_F
  rcases Nat.eq_zero_or_pos n with hn | hn
  · have hm : m = 0 := by omega
    subst hm
    rw [Nat.zero_mul]
    exact Nat.zero_le _
  · have h1 : 2 * m * A ≤ 2 * n * A := Nat.mul_le_mul_right _ (Nat.mul_le_mul_left _ h)
    have h2 : 0 < 2 * n * A := Nat.mul_pos (by omega) (by omega)
    exact Nat.mul_le_mul h (Nat.mul_le_mul_left _ (Nat.le_trans (Nat.pow_le_pow_left h1 _) (Nat.pow_le_pow_right h2 (by omega))))
theorem kq_F_one (A : Nat) : kq_F A 1 = A := by
  show 1 * (A * 1) = A
  omega
theorem kq_F_ge {A n : Nat} (hA : 1 ≤ A) (h : 1 ≤ n) : A ≤ kq_F A n := by
  have := kq_F_mono hA h
  rw [kq_F_one] at this
  exact this
def kq_rel (f f0 : pz_P) : Prop := (f = pz_0 ∧ f0 = pz_0) ∨ ∃ c : Int, c ≠ 0 ∧ f = pz_sc c f0 ∧ pz_prim f0
theorem kq_deg : ∀ (N : Nat) (u : pz_P), pz_lt u N → u ≠ pz_0 → ∃ d, d < N ∧ pz_lt u (d + 1) ∧ u d ≠ 0
  | 0, u, h, h0 => absurd (pz_lt.zero u h) h0
  | N + 1, u, h, h0 => by
    by_cases c : u N = 0
    · obtain ⟨d, h1, h2, h3⟩ := kq_deg N u (fun i hi => by
        by_cases e : i = N
        · rw [e, c]
        · exact h i (by omega)) h0
      exact ⟨d, by omega, h2, h3⟩
    · exact ⟨N, by omega, h, c⟩
theorem kq_lead_eq {u : pz_P} {a b : Nat} (h1 : pz_lt u (a + 1)) (h2 : u a ≠ 0) (h3 : pz_lt u (b + 1)) (h4 : u b ≠ 0) : a = b := by
  rcases Nat.lt_trichotomy a b with c | c | c
  · exact absurd (h1 b (by omega)) h4
  · exact c
  · exact absurd (h3 a (by omega)) h2
theorem kq_prim_ne {u : pz_P} (h : pz_prim u) : u ≠ pz_0 := fun h0 => by
  have := h 2 (fun i => by rw [h0]; exact ⟨0, rfl⟩)
  omega
theorem kq_swap {x r : pz_P} {c z : Int} (hx : pz_prim x) (hr : pz_prim r) (hc : c ≠ 0) (h : pz_sc z x = pz_sc c r) : ∀ i, (r i).natAbs = (x i).natAbs := by
  have h1 : ∀ i, z * x i = c * r i := fun i => congrFun h i
  obtain ⟨t, ht⟩ := pz_prim_dvd hx hc (fun i => ⟨r i, h1 i⟩)
  have h2 : ∀ i, r i = t * x i := fun i => by
    have k := h1 i
    rw [ht, Int.mul_assoc] at k
    exact (Int.eq_of_mul_eq_mul_left hc k).symm
  have h3 : t.natAbs = 1 := hr _ (fun i => by
    rw [h2 i]
    exact Int.dvd_trans (Int.natAbs_dvd.mpr (Int.dvd_refl t)) ⟨x i, rfl⟩)
  intro i
  rw [h2 i, Int.natAbs_mul, h3, Nat.one_mul]
theorem kq_rel_lt {f f0 : pz_P} {d : Nat} (h : kq_rel f f0) (hf : pz_lt f d) : pz_lt f0 d := by
  rcases h with ⟨_, k⟩ | ⟨c, hc, k, _⟩
  · rw [k]
    exact fun i _ => rfl
  · intro i hi
    have h1 : c * f0 i = 0 := by rw [← hf i hi, k]; rfl
    rcases Int.mul_eq_zero.mp h1 with e | e
    · exact absurd e hc
    · exact e
theorem kq_rel_le {f f0 : pz_P} {A : Nat} (h : kq_rel f f0) (hf : ∀ i, (f i).natAbs ≤ A) : ∀ i, (f0 i).natAbs ≤ A := by
  rcases h with ⟨_, k⟩ | ⟨c, hc, k, _⟩
  · rw [k]
    exact fun i => Nat.zero_le _
  · intro i
    have h1 := hf i
    rw [k] at h1
    have h2 : (pz_sc c f0 i).natAbs = c.natAbs * (f0 i).natAbs := Int.natAbs_mul _ _
    rw [h2] at h1
    have h3 : 1 ≤ c.natAbs := by omega
    have := Nat.mul_le_mul_right (f0 i).natAbs h3
    omega
theorem kq_rel_or {f f0 : pz_P} (h : kq_rel f f0) : f0 = pz_0 ∨ pz_prim f0 := by
  rcases h with ⟨_, k⟩ | ⟨c, hc, _, k⟩
  · exact Or.inl k
  · exact Or.inr k
/-- what divides the later two divides the first, but for a number; by polynomials -/
def kq_D (f x y : pz_P) : Prop := ∀ G : pz_P, (∃ (c : Int) (T : pz_P) (N : Nat), c ≠ 0 ∧ pz_lt T N ∧ pz_sc c x = pz_mul T G) → (∃ (c : Int) (T : pz_P) (N : Nat), c ≠ 0 ∧ pz_lt T N ∧ pz_sc c y = pz_mul T G) → ∃ (c : Int) (T : pz_P) (N : Nat), c ≠ 0 ∧ pz_lt T N ∧ pz_sc c f = pz_mul T G
theorem kq_D.start (f g : pz_P) : kq_D f f g := fun _ h _ => h
theorem kq_D.start2 (f g : pz_P) : kq_D g f g := fun _ _ h => h
theorem kq_D.step {f x y r q : pz_P} {c0 c2 : Int} {nq : Nat} (h : kq_D f x y) (hc0 : c0 ≠ 0) (hq : pz_lt q nq) (hrel : pz_sc c0 x = pz_add (pz_mul q y) (pz_sc c2 r)) : kq_D f y r := by
  intro G hy hr
  refine h G ?_ hy
  obtain ⟨a, T, N, a0, aN, a1⟩ := hy
  obtain ⟨b, U, M, b0, bM, b1⟩ := hr
  refine ⟨b * (a * c0), pz_add (pz_sc b (pz_mul q T)) (pz_sc (a * c2) U), nq + N + M, fun e => ?_, ((((hq.mul (c := nq + N) aN (by omega)).sc b).mono (by omega)).add ((bM.sc _).mono (by omega))), ?_⟩
  · rcases Int.mul_eq_zero.mp e with k | k
    · exact b0 k
    · rcases Int.mul_eq_zero.mp k with k | k
      · exact a0 k
      · exact hc0 k
  · have e1 : pz_sc (b * (a * c0)) x = pz_sc (b * a) (pz_sc c0 x) := by rw [pz_sc_sc, Int.mul_assoc]
    rw [e1, hrel, pz_mul_addL, pz_mul_scL, pz_mul_scL, ← b1, pz_mul_assoc, ← a1, pz_mul_scR]
    funext i
    show b * a * (pz_mul q y i + c2 * r i) = b * (a * pz_mul q y i) + a * c2 * (b * r i)
    rw [Int.mul_add, Int.mul_assoc]
    congr 1
    rw [← Int.mul_assoc, ← Int.mul_assoc]
    congr 1
    rw [Int.mul_comm b a, Int.mul_assoc, Int.mul_assoc, Int.mul_comm b c2]
theorem kq_prim_const {u : pz_P} (h : pz_prim u) (h1 : pz_lt u 1) : ∀ i, (u i).natAbs ≤ 1 := fun i => by
  cases i with
  | zero =>
    have := h (u 0).natAbs (fun i => by
      cases i with
      | zero => exact Int.natAbs_dvd.mpr (Int.dvd_refl _)
      | succ i => rw [h1 (i + 1) (by omega)]; exact ⟨0, (Int.mul_zero _).symm⟩)
    omega
  | succ i => rw [h1 (i + 1) (by omega)]; exact Nat.zero_le _
def kq_C (A : Nat) (f0 g0 x y : pz_P) : Prop := ∃ df dg dx dy : Nat, df < 13 ∧ dg < 13 ∧ pz_lt f0 (df + 1) ∧ pz_lt g0 (dg + 1) ∧ dy < dx ∧ dx < 13 ∧ dy ≤ df ∧ dy ≤ dg ∧ pz_lt x (dx + 1) ∧ x dx ≠ 0 ∧ pz_lt y (dy + 1) ∧ y dy ≠ 0 ∧ pz_J f0 g0 df dg x y dx dy ∧ (∀ i, (x i).natAbs ≤ kq_F A (26 - 2 * dx)) ∧ (∀ i, (y i).natAbs ≤ kq_F A (26 - 2 * dx))
def kq_J (A : Nat) (f g x y : pz_P) : Prop := ∃ f0 g0 : pz_P, kq_rel f f0 ∧ kq_rel g g0 ∧ kq_D f0 x y ∧ kq_D g0 x y ∧ (x = pz_0 ∨ pz_prim x) ∧ (y = pz_0 ∨ pz_prim y) ∧ ((x = f0 ∧ y = g0) ∨ (y = pz_0 ∧ pz_lt x 13 ∧ ∀ i, (x i).natAbs ≤ kq_F A 24) ∨ kq_C A f0 g0 x y)
theorem kq_step {A : Nat} (hA : 1 ≤ A) {f g : pz_P} (hf : pz_lt f 13) (hg : pz_lt g 13) (hfA : ∀ i, (f i).natAbs ≤ A) (hgA : ∀ i, (g i).natAbs ≤ A) (x y q r r1 : pz_P) (db : Nat) (hJ : kq_J A f g x y) (hy : pz_lt y (db + 1)) (hyl : y db ≠ 0) {c0 : Int} (hc0 : c0 ≠ 0) (hrel : pz_sc c0 x = pz_add (pz_mul q y) r) (hq : pz_lt q 13) (hr : pz_lt r db) (hr1 : (r = pz_0 ∧ r1 = pz_0) ∨ ∃ c : Int, c ≠ 0 ∧ r = pz_sc c r1 ∧ pz_prim r1) : kq_J A f g y r1 := by
  obtain ⟨f0, g0, k1, k2, k3, k4, k5, k6, k7⟩ := hJ
  obtain ⟨c2, hc2, hrc, hp1⟩ : ∃ c : Int, c ≠ 0 ∧ r = pz_sc c r1 ∧ (r1 = pz_0 ∨ pz_prim r1) := by
    rcases hr1 with ⟨a, b⟩ | ⟨c, a, b, d⟩
    · exact ⟨1, by decide, by rw [a, b]; exact (pz_sc_one _).symm, Or.inl b⟩
    · exact ⟨c, a, b, Or.inr d⟩
  rw [hrc] at hrel
  have hr1l : pz_lt r1 db := fun i hi => by
    have h1 : c2 * r1 i = 0 := by rw [← hr i hi, hrc]; rfl
    rcases Int.mul_eq_zero.mp h1 with e | e
    · exact absurd e hc2
    · exact e
  have hf0 := kq_rel_lt k1 hf
  have hg0 := kq_rel_lt k2 hg
  have hf0A := kq_rel_le k1 hfA
  have hg0A := kq_rel_le k2 hgA
  refine ⟨f0, g0, k1, k2, k3.step hc0 hq hrel, k4.step hc0 hq hrel, k6, hp1, ?_⟩
  by_cases c9 : r1 = pz_0
  · refine Or.inr (Or.inl ⟨c9, ?_⟩)
    rcases k7 with ⟨e1, e2⟩ | ⟨e1, _⟩ | ⟨df, dg, dx, dy, a1, a2, a3, a4, a5, a6, a7, a8, a9, a10, a11, a12, a13, a14, a15⟩
    · rw [e2]
      exact ⟨hg0, fun i => Nat.le_trans (hg0A i) (kq_F_ge hA (by decide))⟩
    · rw [e1] at hyl
      exact absurd rfl hyl
    · exact ⟨a11.mono (by omega), fun i => Nat.le_trans (a15 i) (kq_F_mono hA (by omega))⟩
  · obtain ⟨dr, b1, b2, b3⟩ := kq_deg db r1 hr1l c9
    have hpr : pz_prim r1 := by
      rcases hp1 with e | e
      · exact absurd e c9
      · exact e
    refine Or.inr (Or.inr ?_)
    rcases k7 with ⟨e1, e2⟩ | ⟨e1, _⟩ | ⟨df, dg, dx, dy, a1, a2, a3, a4, a5, a6, a7, a8, a9, a10, a11, a12, a13, a14, a15⟩
    · subst e1
      subst e2
      have hdb : db < 13 := by
        by_cases e : db < 13
        · exact e
        · exact absurd (hg0 db (by omega)) hyl
      by_cases cx : pz_lt x db
      · have hq0 : q = pz_0 := pz_lt.zero _ (pz_deg_of hy hyl 0 13 q hq (fun i hi => by
          have h1 := congrFun hrel i
          have h2 : c0 * x i = pz_mul q y i + c2 * r1 i := h1
          rw [cx i (by omega), hr1l i (by omega), Int.mul_zero, Int.mul_zero] at h2
          omega))
        have hrel2 : pz_sc c0 x = pz_sc c2 r1 := by
          rw [hrel, hq0, pz_mul_0L]
          exact funext fun i => Int.zero_add _
        have hx0 : x ≠ pz_0 := fun e => c9 (pz_sc_0 hc2 (by rw [← hrel2, e]; exact funext fun i => Int.mul_zero _))
        have hpx : pz_prim x := by
          rcases k5 with e | e
          · exact absurd e hx0
          · exact e
        have hsz := kq_swap hpx hpr hc2 hrel2
        obtain ⟨df, d1, d2, d3⟩ := kq_deg db x cx hx0
        have hdr : dr ≤ df := by
          by_cases e : dr ≤ df
          · exact e
          · have h1 := hsz dr
            rw [d2 dr (by omega)] at h1
            exact absurd (Int.natAbs_eq_zero.mp h1) b3
        exact ⟨df, db, db, dr, by omega, hdb, d2, hy, b1, hdb, hdr, by omega, hy, hyl, b2, b3, (pz_J.start x y df db).step hy hyl b2 b1 hc0 hc2 hq hrel, fun i => Nat.le_trans (hg0A i) (kq_F_ge hA (by omega)), fun i => by rw [hsz i]; exact Nat.le_trans (hf0A i) (kq_F_ge hA (by omega))⟩
      · have hx0 : x ≠ pz_0 := fun e => cx (by rw [e]; exact fun i _ => rfl)
        obtain ⟨df, d1, d2, d3⟩ := kq_deg 13 x hf0 hx0
        have hdf : db ≤ df := by
          by_cases e : db ≤ df
          · exact e
          · exact absurd (d2.mono (by omega)) cx
        have hb := pz_bound hf0A hg0A hA d2 hy (pz_J.start x y df db) hdf hdf (Nat.le_refl _) hy hyl hr1l hc0 hc2 hq hrel hpr
        refine ⟨df, db, db, dr, d1, hdb, d2, hy, b1, hdb, by omega, by omega, hy, hyl, b2, b3, (pz_J.start x y df db).step hy hyl b2 b1 hc0 hc2 hq hrel, fun i => Nat.le_trans (hg0A i) (kq_F_ge hA (by omega)), fun i => Nat.le_trans (hb i) ?_⟩
        exact kq_F_mono hA (m := df + db - 2 * db + 2) (by omega)
    · rw [e1] at hyl
      exact absurd rfl hyl
    · have hdd : dy = db := kq_lead_eq a11 a12 hy hyl
      subst hdd
      have hb := pz_bound hf0A hg0A hA a3 a4 a13 (by omega) a7 a8 hy hyl hr1l hc0 hc2 hq hrel hpr
      refine ⟨df, dg, dy, dr, a1, a2, a3, a4, b1, by omega, by omega, by omega, hy, hyl, b2, b3, a13.step hy hyl b2 b1 hc0 hc2 hq hrel, fun i => Nat.le_trans (a15 i) (kq_F_mono hA (by omega)), fun i => Nat.le_trans (hb i) ?_⟩
      exact kq_F_mono hA (m := df + dg - 2 * dy + 2) (by omega)
def kq_fit (A : Nat) : Prop := 1 ≤ A ∧ (∀ d, d < 13 → 1 ≤ d → kq_F A (26 - 2 * d) * (2 * kq_F A (26 - 2 * d)) ^ (d + 1) < jB ^ 698) ∧ A * (2 * A) ^ 13 < jB ^ 698
theorem kq_fit18 : kq_fit (10 ^ 18) := by unfold kq_fit; decide +kernel
theorem kq_fit19 : kq_fit (10 ^ 18 * 13) := by unfold kq_fit; decide +kernel
theorem kq_fit51 : kq_fit (10 ^ 51) := by unfold kq_fit; decide +kernel
theorem kq_fits {A : Nat} (hA0 : kq_fit A) {f g : pz_P} (hf : pz_lt f 13) (hg : pz_lt g 13) (hfA : ∀ i, (f i).natAbs ≤ A) (hgA : ∀ i, (g i).natAbs ≤ A) (x y : pz_P) (db n : Nat) (hJ : kq_J A f g x y) (hx : pz_lt x (db + n)) (hxl : 1 ≤ n → x (db + n - 1) ≠ 0) (hy : pz_lt y (db + 1)) (hyl : y db ≠ 0) (hdb : db < 13) : ∃ al be : Nat, 1 ≤ be ∧ (∀ i, (x i).natAbs ≤ al) ∧ (∀ i, (y i).natAbs ≤ be) ∧ al * (2 * be) ^ n < jB ^ 698 := by
  have hA := hA0.1
  obtain ⟨f0, g0, k1, k2, k3, k4, k5, k6, k7⟩ := hJ
  rcases k7 with ⟨e1, e2⟩ | ⟨e1, _⟩ | ⟨df, dg, dx, dy, a1, a2, a3, a4, a5, a6, a7, a8, a9, a10, a11, a12, a13, a14, a15⟩
  · subst e1
    subst e2
    refine ⟨A, A, hA, kq_rel_le k1 hfA, kq_rel_le k2 hgA, ?_⟩
    have hn : n ≤ 13 := by
      rcases Nat.eq_zero_or_pos n with e | e
      · omega
      · by_cases e2 : n ≤ 13
        · exact e2
        · exact absurd (kq_rel_lt k1 hf (db + n - 1) (by omega)) (hxl e)
    exact Nat.lt_of_le_of_lt (Nat.mul_le_mul_left _ (Nat.pow_le_pow_right (by omega) hn)) hA0.2.2
  · rw [e1] at hyl
    exact absurd rfl hyl
  · refine ⟨kq_F A (26 - 2 * dx), kq_F A (26 - 2 * dx), Nat.le_trans hA (kq_F_ge hA (n := 26 - 2 * dx) (by omega)), a14, a15, ?_⟩
    have hn : n ≤ dx + 1 := by
      rcases Nat.eq_zero_or_pos n with e | e
      · omega
      · have := kq_lead_eq a9 a10 (hx.mono (by omega)) (hxl e)
        omega
    have h1 : 0 < 2 * kq_F A (26 - 2 * dx) := by
      have := Nat.le_trans hA (kq_F_ge hA (n := 26 - 2 * dx) (by omega))
      omega
    exact Nat.lt_of_le_of_lt (Nat.mul_le_mul_left _ (Nat.pow_le_pow_right h1 hn)) (hA0.2.1 dx a6 (by omega))
theorem kq_start {A : Nat} {f g x y : pz_P} (hx : kq_rel f x) (hy : kq_rel g y) : kq_J A f g x y :=
  ⟨x, y, hx, hy, kq_D.start x y, kq_D.start2 x y, kq_rel_or hx, kq_rel_or hy, Or.inl ⟨rfl, rfl⟩⟩
theorem pz_c_zeroR : ∀ (n : Nat) (u : pz_P), pz_c n u pz_0 = 0
  | 0, u => Int.mul_zero _
  | n + 1, u => by
    show u 0 * 0 + pz_c n (pz_tl u) pz_0 = 0
    rw [pz_c_zeroR n, Int.mul_zero]
    rfl
/-- the greatest common divisor: small, and it divides -/
theorem kq_end {A : Nat} (hA : 1 ≤ A) {f g G : pz_P} (hf : pz_lt f 13) (hfA : ∀ i, (f i).natAbs ≤ A) (hJ : kq_J A f g G pz_0) : pz_lt G 13 ∧ (∀ i, (G i).natAbs ≤ kq_F A 24) ∧ (G = pz_0 ∨ pz_prim G) ∧ (f ≠ pz_0 → pz_prim G ∧ ∃ (c : Int) (T : pz_P) (N : Nat), c ≠ 0 ∧ pz_lt T N ∧ pz_sc c f = pz_mul T G) := by
  obtain ⟨f0, g0, k1, k2, k3, k4, k5, k6, k7⟩ := hJ
  have hb : pz_lt G 13 ∧ ∀ i, (G i).natAbs ≤ kq_F A 24 := by
    rcases k7 with ⟨e1, e2⟩ | ⟨_, h⟩ | ⟨df, dg, dx, dy, a1, a2, a3, a4, a5, a6, a7, a8, a9, a10, a11, a12, a13, a14, a15⟩
    · rw [e1]
      exact ⟨kq_rel_lt k1 hf, fun i => Nat.le_trans (kq_rel_le k1 hfA i) (kq_F_ge hA (by decide))⟩
    · exact h
    · exact absurd rfl a12
  refine ⟨hb.1, hb.2, k5, fun hne => ?_⟩
  have hG1 : pz_sc 1 G = pz_mul (fun i => if i = 0 then 1 else 0) G := by
    rw [pz_sc_one]
    funext n
    cases n with
    | zero => exact (Int.one_mul _).symm
    | succ n =>
      show G (n + 1) = 1 * G (n + 1) + pz_c n (pz_tl (fun i => if i = 0 then 1 else 0)) G
      rw [pz_c_zeroL n (pz_tl fun i => if i = 0 then 1 else 0) G (fun i => rfl)]
      omega
  obtain ⟨c, T, N, hc, hN, hT⟩ := k3 G ⟨1, fun i => if i = 0 then 1 else 0, 1, by decide, fun i hi => if_neg (by omega), hG1⟩ ⟨1, pz_0, 0, by decide, fun i _ => rfl, by rw [pz_mul_0L]; exact funext fun i => rfl⟩
  rcases k1 with ⟨e, _⟩ | ⟨z, hz, e, hp⟩
  · exact absurd e hne
  · refine ⟨?_, c, pz_sc z T, N, hc, hN.sc z, ?_⟩
    · rcases k5 with h | h
      · have h1 : pz_sc c f0 = pz_0 := by
          rw [hT, h]
          exact funext fun n => pz_c_zeroR n T
        exact absurd (pz_sc_0 hc h1) (kq_prim_ne hp)
      · exact h
    · rw [pz_mul_scL, ← hT, e, pz_sc_sc, pz_sc_sc, Int.mul_comm]
theorem kq_ybound {A : Nat} (hA : 1 ≤ A) {f g x y : pz_P} (hgA : ∀ i, (g i).natAbs ≤ A) (hJ : kq_J A f g x y) : ∀ i, (y i).natAbs ≤ kq_F A 24 := by
  obtain ⟨f0, g0, k1, k2, k3, k4, k5, k6, k7⟩ := hJ
  rcases k7 with ⟨e1, e2⟩ | ⟨e1, _⟩ | ⟨df, dg, dx, dy, a1, a2, a3, a4, a5, a6, a7, a8, a9, a10, a11, a12, a13, a14, a15⟩
  · rw [e2]
    exact fun i => Nat.le_trans (kq_rel_le k2 hgA i) (kq_F_ge hA (by decide))
  · rw [e1]
    exact fun i => Nat.zero_le _
  · exact fun i => Nat.le_trans (a15 i) (kq_F_mono hA (by omega))
/-! The reference's greatest common divisor of two registers, and its simple part. -/
theorem jpo_eq {V W : Nat → Int} {p q : Nat} (h : ∀ e, e < 13 → W (q * 13 + e) = V (p * 13 + e)) : jpo W q = jpo V p := funext fun e => by
  by_cases he : e < 13
  · rw [jpo_at he, jpo_at he, h e he]
  · unfold jpo
    rw [if_neg he, if_neg he]
theorem jpo_le {V : Nat → Int} {p A : Nat} (h : ∀ e, e < 13 → (V (p * 13 + e)).natAbs ≤ A) : ∀ i, (jpo V p i).natAbs ≤ A := fun i => by
  by_cases he : i < 13
  · rw [jpo_at he]
    exact h i he
  · unfold jpo
    rw [if_neg he]
    exact Nat.zero_le _
theorem jpo_ne {V : Nat → Int} {p : Nat} (h : jpo V p ≠ pz_0) : 1 ≤ jdg V p 13 := by
  rcases Nat.eq_zero_or_pos (jdg V p 13) with e | e
  · refine absurd (funext fun i => ?_) h
    by_cases he : i < 13
    · rw [jpo_at he]
      exact jdg_zero V p 13 i (by omega) he
    · unfold jpo
      rw [if_neg he]
      rfl
  · exact e
section JSI
variable {D : Nat} {hp h : mj_H} {q0 q1 q2 q3 : Nat} {fs : List Value} {V : Nat → Int} {a b to : Nat}
theorem jp_commonsA (G : jG hp q0 q1 q2 q3 fs) {A : Nat} (hA : kq_fit A) (hto : to ≤ 49) (hta : to ≠ a) (ha : a ≤ 49) (ha2 : a ≠ 2) (ha3 : a ≠ 3) (hb : b ≤ 49) (hb2 : b ≠ 2) (hb3 : b ≠ 3) (hab : a ≠ b) (hVa : ∀ e, e < 13 → (V (a * 13 + e)).natAbs ≤ A) (hVb : ∀ e, e < 13 → (V (b * 13 + e)).natAbs ≤ A) (hs : jS hp q1 q2 q3 V h) :
    mj_Ok (D + 9) 212 [.ref q0, .int (jn (to : Nat)), .int (jn (a : Nat)), .int (jn (b : Nat))] h (fun r => ∃ (W : Nat → Int) (h' : mj_H), jS hp q1 q2 q3 W h' ∧ (∀ s, (s < to * 13 ∨ to * 13 + 13 ≤ s) → (s < a * 13 ∨ a * 13 + 13 ≤ s) → (s < b * 13 ∨ b * 13 + 13 ≤ s) → (s < 26 ∨ 52 ≤ s) → s ≠ 652 → s ≠ 653 → s ≠ 654 → s ≠ 655 → s ≠ 663 → s ≠ 664 → W s = V s) ∧ ((∀ i, (jpo W to i).natAbs ≤ kq_F A 24) ∧ (jpo V a ≠ pz_0 → pz_prim (jpo W to) ∧ ∃ (c : Int) (T : pz_P) (N : Nat), c ≠ 0 ∧ pz_lt T N ∧ pz_sc c (jpo V a) = pz_mul T (jpo W to))) ∧ r = (.inl none, h')) :=
  mj_Ok.to (jp_commonsPoly (D := D) (V := V) G (J := kq_J A (jpo V a) (jpo V b)) hto hta ha ha2 ha3 hb hb2 hb3 hab (fun x y db n hJ h1 h2 h3 h4 h5 => kq_fits hA (jpo_lt V a) (jpo_lt V b) (jpo_le hVa) (jpo_le hVb) x y db n hJ h1 h2 h3 h4 h5) (fun x y q r r1 db n hJ h1 h2 h3 h4 h5 h6 => kq_step hA.1 (jpo_lt V a) (jpo_lt V b) (jpo_le hVa) (jpo_le hVb) x y q r r1 db hJ h1 h2 (Int.pow_ne_zero h2) h3 h4 h5 h6) (fun x y h1 h2 => kq_start h1 h2) hs) (fun r hr => by
    obtain ⟨W, h', k1, k2, k3, k4⟩ := hr
    obtain ⟨e1, e2, e3, e4⟩ := kq_end hA.1 (jpo_lt V a) (jpo_le hVa) k3
    exact ⟨W, h', k1, k2, ⟨e2, e4⟩, k4⟩)
theorem kq_small : 10 ^ 18 * 13 < jB ^ 698 := by decide +kernel
theorem kq_room24 : 10 ^ 18 * (2 * kq_F (10 ^ 18 * 13) 24) ^ 12 < jB ^ 698 := by decide +kernel
theorem kq_room1 : 10 ^ 18 * (2 * 1) ^ 13 < jB ^ 698 := by decide +kernel
theorem kq_one24 : 1 ≤ kq_F (10 ^ 18 * 13) 24 := by decide +kernel
/-- the coefficients of a simple part -/
def kq_S : Nat := 10 ^ 18 * 13 ^ 13 * 27 ^ 12
theorem jp_simplifies (G : jG hp q0 q1 q2 q3 fs) (hne : jpo V 0 ≠ pz_0) (hA : ∀ e, e < 13 → (V (0 * 13 + e)).natAbs ≤ 10 ^ 18) (hs : jS hp q1 q2 q3 V h) :
    mj_Ok (D + 10) 214 [.ref q0, .int (jn ((8 : Nat) : Int)), .int (jn ((0 : Nat) : Int))] h (fun r => ∃ (W : Nat → Int) (h' : mj_H), jS hp q1 q2 q3 W h' ∧ (∀ s, (s < 26 ∨ 91 ≤ s) → (s < 104 ∨ 117 ≤ s) → s ≠ 652 → s ≠ 653 → s ≠ 654 → s ≠ 655 → s ≠ 663 → s ≠ 664 → W s = V s) ∧ (jpo W 8 ≠ pz_0 ∧ ∀ e, e < 13 → (W (8 * 13 + e)).natAbs ≤ kq_S) ∧ r = (.inl none, h')) := by
  refine mj_Ok.of (M := mj_m214) rfl rfl rfl ?_
  iterate 3 refine mj_T.pl rfl rfl rfl rfl ?_
  refine mj_T.call (ins := .invokevirtual 124) rfl rfl (Nat.le_of_ble_eq_true rfl) (Nat.le_of_ble_eq_true rfl) (by simp [mj_recv, jS_a G hs]) rfl (jp_copiesPoly (D := D + 6) G (p := 5) (q := 0) (by decide) (by decide) (by decide) hs) (fun v' h1 hq' => ?_) (fun i h' hq' => by obtain ⟨_, _, h⟩ := hq'; cases h)
  obtain ⟨_, hs1, hq'⟩ := hq'
  cases hq'
  have a1 : ∀ e, e < 13 → jfl V 5 (fun e => V (0 * 13 + e)) 13 (5 * 13 + e) = V (0 * 13 + e) := fun e he => jfl_at _ 5 _ he
  have a2 : ∀ s, (s < 65 ∨ 78 ≤ s) → jfl V 5 (fun e => V (0 * 13 + e)) 13 s = V s := fun s hc => jfl_off _ 5 _ (by omega)
  generalize jfl V 5 (fun e => V (0 * 13 + e)) 13 = W1 at hs1 a1 a2
  iterate 3 refine mj_T.pl rfl rfl rfl rfl ?_
  refine mj_T.call (ins := .invokevirtual 149) rfl rfl (Nat.le_of_ble_eq_true rfl) (Nat.le_of_ble_eq_true rfl) (by simp [mj_recv, jS_a G hs1]) rfl (jp_derives (D := D + 6) (V := W1) G (p := 6) (a := 0) (by decide) (by decide) (by decide) (fun e he => jnl_of_lt (M := 10 ^ 18 * 13) (by
    rw [a2 _ (by omega), Int.natAbs_mul]
    exact Nat.mul_le_mul (hA (e + 1) (by omega)) (by omega)) kq_small) hs1) (fun v' h2 hq' => ?_) (fun i h' hq' => by obtain ⟨_, _, _, _, h⟩ := hq'; cases h)
  obtain ⟨W2, _, hs2, b1, hq'⟩ := hq'
  cases hq'
  have b2 : ∀ e, e < 13 → (W2 (6 * 13 + e)).natAbs ≤ 10 ^ 18 * 13 := fun e he => by
    rw [b1 _ (by omega), jfl_at _ 6 _ he]
    split
    · show (W1 (0 * 13 + e + 1) * ((e + 1 : Nat) : Int)).natAbs ≤ _
      rw [a2 _ (by omega), Int.natAbs_mul]
      exact Nat.mul_le_mul (hA (e + 1) (by omega)) (by omega)
    · exact Nat.zero_le _
  have b3 : ∀ s, (s < 78 ∨ 91 ≤ s) → s ≠ 652 → W2 s = W1 s := fun s hc h0 => by
    rw [b1 _ h0, jfl_off _ 6 _ (by omega)]
  have b4 : jpo W2 5 = jpo V 0 := jpo_eq fun e he => by rw [b3 _ (by omega) (by omega), a1 e he]
  iterate 4 refine mj_T.pl rfl rfl rfl rfl ?_
  refine mj_T.call (ins := .invokevirtual 152) rfl rfl (Nat.le_of_ble_eq_true rfl) (Nat.le_of_ble_eq_true rfl) (by simp [mj_recv, jS_a G hs2]) rfl (jp_commonsA (D := D) (V := W2) G (A := 10 ^ 18 * 13) kq_fit19 (to := 4) (a := 5) (b := 6) (by decide) (by decide) (by decide) (by decide) (by decide) (by decide) (by decide) (by decide) (by decide) (fun e he => by rw [b3 _ (by omega) (by omega), a1 e he]; have := hA e he; omega) b2 hs2) (fun v' h3 hq' => ?_) (fun i h' hq' => by obtain ⟨_, _, _, _, _, h⟩ := hq'; cases h)
  obtain ⟨W3, _, hs3, c1, ⟨c2, c3⟩, hq'⟩ := hq'
  cases hq'
  rw [b4] at c3
  obtain ⟨c4, c, T, N, c5, cN, c6⟩ := c3 hne
  iterate 3 refine mj_T.pl rfl rfl rfl rfl ?_
  refine mj_T.call (ins := .invokevirtual 124) rfl rfl (Nat.le_of_ble_eq_true rfl) (Nat.le_of_ble_eq_true rfl) (by simp [mj_recv, jS_a G hs3]) rfl (jp_copiesPoly (D := D + 6) G (p := 5) (q := 0) (by decide) (by decide) (by decide) hs3) (fun v' h4 hq' => ?_) (fun i h' hq' => by obtain ⟨_, _, h⟩ := hq'; cases h)
  obtain ⟨_, hs4, hq'⟩ := hq'
  cases hq'
  have d1 : ∀ e, e < 13 → jfl W3 5 (fun e => W3 (0 * 13 + e)) 13 (5 * 13 + e) = V (0 * 13 + e) := fun e he => by
    rw [jfl_at _ 5 _ he, c1 _ (by omega) (by omega) (by omega) (by omega) (by omega) (by omega) (by omega) (by omega) (by omega) (by omega), b3 _ (by omega) (by omega), a2 _ (by omega)]
  have d2 : ∀ s, (s < 65 ∨ 78 ≤ s) → jfl W3 5 (fun e => W3 (0 * 13 + e)) 13 s = W3 s := fun s hc => jfl_off _ 5 _ (by omega)
  generalize jfl W3 5 (fun e => W3 (0 * 13 + e)) 13 = W4 at hs4 d1 d2
  iterate 2 refine mj_T.pl rfl rfl rfl rfl ?_
  refine mj_T.call (ins := .invokevirtual 142) rfl rfl (Nat.le_of_ble_eq_true rfl) (Nat.le_of_ble_eq_true rfl) (by simp [mj_recv, jS_a G hs4]) rfl (jp_makesPrimitive (D := D + 1) G (p := 5) (by decide) hs4) (fun v' h5 hq' => ?_) (fun i h' hq' => by obtain ⟨_, _, _, _, _, h⟩ := hq'; cases h)
  obtain ⟨W5, _, hs5, ⟨f, hf, e1⟩, e2, hq'⟩ := hq'
  cases hq'
  have e3 := jcm_prim (V := W4) (W := W5) (p := 5) hf e1
  rw [jpo_eq (V := V) (W := W4) (p := 0) (q := 5) d1] at e3
  have e4 : jpo W5 4 = jpo W3 4 := jpo_eq fun e he => by rw [e2 _ (by omega) (by omega) (by omega) (by omega) (by omega) (by omega), d2 _ (by omega)]
  have e5 : ∀ i, (jpo W5 5 i).natAbs ≤ 10 ^ 18 := kq_rel_le e3 (jpo_le hA)
  obtain ⟨z, z1, z2, z3⟩ : ∃ z : Int, z ≠ 0 ∧ jpo V 0 = pz_sc z (jpo W5 5) ∧ pz_prim (jpo W5 5) := by
    rcases e3 with ⟨k, _⟩ | k
    · exact absurd k hne
    · exact k
  have e6 : pz_sc (c * z) (jpo W5 5) = pz_mul T (jpo W5 4) := by
    rw [e4, ← c6, z2, pz_sc_sc]
  obtain ⟨S, s1, s2⟩ := pz_exact (fun k => by
    rcases Int.mul_eq_zero.mp k with k | k
    · exact c5 k
    · exact z1 k) (by rw [e4]; exact c4) e6
  have g1 : 1 ≤ jdg W5 4 13 := jpo_ne (by rw [e4]; exact kq_prim_ne c4)
  have g2 := jdg_le W5 4 13
  have g3 := jdg_le W5 5 13
  have g4 := jdg_ne W5 4 13 g1
  have g5 : ∀ e, e < 13 → (W5 (4 * 13 + e)).natAbs ≤ kq_F (10 ^ 18 * 13) 24 := fun e he => by
    have := c2 e
    rw [← e4, jpo_at he] at this
    exact this
  have g6 : ∀ e, e < 13 → (W5 (5 * 13 + e)).natAbs ≤ 10 ^ 18 := fun e he => by
    have := e5 e
    rw [jpo_at he] at this
    exact this
  have g7 : jpo W5 5 ≠ pz_0 := kq_prim_ne z3
  obtain ⟨be, i1, i2, i3⟩ : ∃ be : Nat, 1 ≤ be ∧ (∀ e, e < 13 → (W5 (4 * 13 + e)).natAbs ≤ be) ∧ 10 ^ 18 * (2 * be) ^ (jdg W5 5 13 - (jdg W5 4 13 - 1)) < jB ^ 698 := by
    by_cases k : jdg W5 4 13 = 1
    · refine ⟨1, Nat.le_refl _, fun e he => ?_, Nat.lt_of_le_of_lt (Nat.mul_le_mul_left _ (Nat.pow_le_pow_right (by decide) (by omega : _ ≤ 13))) kq_room1⟩
      have := kq_prim_const (u := jpo W5 4) (by rw [e4]; exact c4) (fun i hi => by
        by_cases hi2 : i < 13
        · rw [jpo_at hi2]
          exact jdg_zero W5 4 13 i (by omega) hi2
        · exact jpo_lt W5 4 i (by omega)) e
      rw [jpo_at he] at this
      exact this
    · refine ⟨kq_F (10 ^ 18 * 13) 24, kq_one24, g5, Nat.lt_of_le_of_lt (Nat.mul_le_mul_left _ (Nat.pow_le_pow_right ?_ (by omega : _ ≤ 12))) kq_room24⟩
      have := kq_one24
      omega
  iterate 4 refine mj_T.pl rfl rfl rfl rfl ?_
  refine mj_T.call (ins := .invokevirtual 155) rfl rfl (Nat.le_of_ble_eq_true rfl) (Nat.le_of_ble_eq_true rfl) (by simp [mj_recv, jS_a G hs5]) rfl (jp_dividesExactly (D := D + 3) (V := W5) G (tq := 8) (a := 5) (b := 4) (db := jdg W5 4 13 - 1) (lc := W5 (4 * 13 + (jdg W5 4 13 - 1))) (al := 10 ^ 18) (be := be) (by decide) (by decide) (by decide) (by decide) (by decide) (by decide) (by decide) (by decide) (by omega) rfl g6 i2 i1 i3 hs5) (fun v' h6 hq' => ?_) (fun i h' hq' => by obtain ⟨_, _, _, _, ⟨_, h⟩ | ⟨_, h⟩⟩ := hq' <;> cases h)
  obtain ⟨W6, _, hs6, f1, ⟨f2, hq'⟩ | ⟨f2, hq'⟩⟩ := hq'
  · cases hq'
    have t1 : ∀ i, (jpo W6 8 i).natAbs ≤ kq_S := pz_factor (jpo_lt W5 5) (jpo_lt W6 8) (jpo_lt W5 4) f2 (by
      by_cases k : ∃ i, jpo W5 5 i ≠ 0
      · exact k
      · exact absurd (funext fun i => Classical.byContradiction fun q => k ⟨i, q⟩) g7) e5
    have t2 : jpo W6 8 ≠ pz_0 := fun k => g7 (by rw [f2, k, pz_mul_0L])
    iterate 3 refine mj_T.pl rfl rfl rfl rfl ?_
    refine mj_T.call (ins := .invokevirtual 142) rfl rfl (Nat.le_of_ble_eq_true rfl) (Nat.le_of_ble_eq_true rfl) (by simp [mj_recv, jS_a G hs6]) rfl (jp_makesPrimitive (D := D + 1) G (p := 8) (by decide) hs6) (fun v' h7 hq' => ?_) (fun i h' hq' => by obtain ⟨_, _, _, _, _, h⟩ := hq'; cases h)
    obtain ⟨W7, _, hs7, ⟨f', hf', u1⟩, u2, hq'⟩ := hq'
    cases hq'
    have u3 := jcm_prim (V := W6) (W := W7) (p := 8) hf' u1
    have u4 := kq_rel_le u3 t1
    refine mj_T.ret rfl rfl rfl ⟨W7, h7, hs7, fun s x1 x2 x3 x4 x5 x6 x7 x8 => ?_, ⟨?_, fun e he => ?_⟩, rfl⟩
    · rw [u2 s (by omega) x3 x4 x6 x7 x8, f1 s (by omega) (by omega) x3 x4 x5, e2 s (by omega) x3 x4 x6 x7 x8, d2 s (by omega), c1 s (by omega) (by omega) (by omega) (by omega) x3 x4 x5 x6 x7 x8, b3 s (by omega) x3, a2 s (by omega)]
    · rcases u3 with ⟨k, _⟩ | ⟨k1, k2, k3, k4⟩
      · exact absurd k t2
      · exact kq_prim_ne k4
    · have := u4 e
      rw [jpo_at he] at this
      exact this
  · refine absurd s2 (f2 S N (fun i hi => ?_))
    have k1 : c * z * S i = 0 := by rw [← cN i hi, s1]; rfl
    rcases Int.mul_eq_zero.mp k1 with k | k
    · rcases Int.mul_eq_zero.mp k with k | k
      · exact absurd k c5
      · exact absurd k z1
    · exact k
end JSI
/-! The reference's row of Sturm. -/
section JPF
variable {D pc : Nat} {M : mj_M} {loc : mj_L} {st : List Value} {h : mj_H} {Q : mj_R → Prop} {n ci f a r3 r4 r5 : Nat}
/-- a field is written -/
theorem mj_T.pfl {fs : List Value} {v : Value} (hc : M.2.2.2.2.1 pc = some (.putfield n, ci, f, r3, r4, r5)) (ha : h[a]? = some (.inr (ci, fs))) (hf : f < fs.length) (hv : mj_fit r3 v = true) (k : mj_T D M (pc + 3) loc st (h.set a (.inr (ci, fs.set f v))) Q) : mj_T D M pc loc (v :: .ref a :: st) h Q :=
  mj_T.step hc rfl (by simp only [mj_step, ha, hf, hv, and_self, if_true]) k
end JPF
/-- the heap after a write of a field of the reference -/
def jrl (hp : mj_H) (q0 : Nat) (fs : List Value) (n : Nat) : mj_H := hp.set q0 (.inr (10, fs.set 7 (.int (jn (n : Nat)))))
section JRL
variable {D : Nat} {hp h : mj_H} {q0 q1 q2 q3 : Nat} {fs : List Value} {V : Nat → Int} {a : Nat}
theorem jG_put (G : jG hp q0 q1 q2 q3 fs) {k : Nat} {v : Value} (h4 : k ≠ 4) (h5 : k ≠ 5) (h6 : k ≠ 6) : jG (hp.set q0 (.inr (10, fs.set k v))) q0 q1 q2 q3 (fs.set k v) := by
  obtain ⟨⟨⟨c1, c2, c3, c4⟩, e1, e2, e3, e4⟩, g1, g2, g3, g4, g5⟩ := G
  have hl : q0 < hp.length := by
    by_cases c : q0 < hp.length
    · exact c
    · rw [List.getElem?_eq_none (by omega)] at c1
      cases c1
  exact ⟨⟨⟨List.getElem?_set_self hl, by rw [List.getElem?_set_ne h4]; exact c2, c3, by rw [List.length_set]; exact c4⟩, by rw [List.getElem?_set_ne h5]; exact e1, e2, e3, by rw [List.length_set]; exact e4⟩, by rw [List.getElem?_set_ne h6]; exact g1, g2, g3, g4, by rw [List.length_set]; exact g5⟩
theorem jS_put (G : jG hp q0 q1 q2 q3 fs) {E : mj_E} (hs : jS hp q1 q2 q3 V h) : jS (hp.set q0 E) q1 q2 q3 V (h.set q0 E) := by
  obtain ⟨⟨⟨c1, c2, c3, c4⟩, e1, e2, e3, e4⟩, g1, g2, g3, g4, g5⟩ := G
  obtain ⟨bg, ov, db, hV, rfl⟩ := hs
  refine ⟨bg, ov, db, hV, ?_⟩
  show ((((hp.set q3 _).set q2 _).set q1 _).set q0 E) = (((hp.set q0 E).set q3 _).set q2 _).set q1 _
  rw [List.set_comm _ _ (Ne.symm c3), List.set_comm _ _ e2, List.set_comm _ _ g2]
theorem jrl_G (G : jG hp q0 q1 q2 q3 fs) (n : Nat) : jG (jrl hp q0 fs n) q0 q1 q2 q3 (fs.set 7 (.int (jn (n : Nat)))) := jG_put G (by decide) (by decide) (by decide)
theorem jrl_first (G : jG hp q0 q1 q2 q3 fs) (m : Nat) (hs : jS hp q1 q2 q3 V h) : jS (jrl hp q0 fs m) q1 q2 q3 V (h.set q0 (.inr (10, fs.set 7 (.int (jn (m : Nat)))))) := jS_put G hs
theorem jrl_put (G : jG hp q0 q1 q2 q3 fs) {n : Nat} (m : Nat) (hs : jS (jrl hp q0 fs n) q1 q2 q3 V h) : jS (jrl hp q0 fs m) q1 q2 q3 V (h.set q0 (.inr (10, (fs.set 7 (.int (jn (n : Nat)))).set 7 (.int (jn (m : Nat)))))) := by
  have k := jS_put (jrl_G G n) (E := .inr (10, (fs.set 7 (.int (jn (n : Nat)))).set 7 (.int (jn (m : Nat))))) hs
  have e : (jrl hp q0 fs n).set q0 (.inr (10, (fs.set 7 (.int (jn (n : Nat)))).set 7 (.int (jn (m : Nat))))) = jrl hp q0 fs m := by
    unfold jrl
    rw [List.set_set, List.set_set]
  rw [e] at k
  exact k
end JRL
def klr (A : Nat) (f g x y : pz_P) : Prop := kq_J A f g x y ∨ (x = f ∧ kq_rel g y)
theorem klr_fits {A : Nat} (hA : kq_fit A) {f g : pz_P} (hf : pz_lt f 13) (hg : pz_lt g 13) (hfA : ∀ i, (f i).natAbs ≤ A) (hgA : ∀ i, (g i).natAbs ≤ A) (x y : pz_P) (db n : Nat) (hJ : klr A f g x y) (hx : pz_lt x (db + n)) (hxl : 1 ≤ n → x (db + n - 1) ≠ 0) (hy : pz_lt y (db + 1)) (hyl : y db ≠ 0) (hdb : db < 13) : ∃ al be : Nat, 1 ≤ be ∧ (∀ i, (x i).natAbs ≤ al) ∧ (∀ i, (y i).natAbs ≤ be) ∧ al * (2 * be) ^ n < jB ^ 698 := by
  rcases hJ with h | ⟨h1, h2⟩
  · exact kq_fits hA hf hg hfA hgA x y db n h hx hxl hy hyl hdb
  · refine ⟨A, A, hA.1, by rw [h1]; exact hfA, kq_rel_le h2 hgA, ?_⟩
    have hA1 := hA.1
    have hn : n ≤ 13 := by
      rcases Nat.eq_zero_or_pos n with e | e
      · omega
      · by_cases e2 : n ≤ 13
        · exact e2
        · exact absurd (hf (db + n - 1) (by omega)) (by rw [← h1]; exact hxl e)
    exact Nat.lt_of_le_of_lt (Nat.mul_le_mul_left _ (Nat.pow_le_pow_right (by omega) hn)) hA.2.2
theorem klr_step {A : Nat} (hA : 1 ≤ A) {f g : pz_P} (hf : pz_lt f 13) (hg : pz_lt g 13) (hfA : ∀ i, (f i).natAbs ≤ A) (hgA : ∀ i, (g i).natAbs ≤ A) (hfe : ∃ f0, kq_rel f f0) (x y q r r1 : pz_P) (db : Nat) (hJ : klr A f g x y) (hy : pz_lt y (db + 1)) (hyl : y db ≠ 0) {c0 : Int} (hc0 : c0 ≠ 0) (hrel : pz_sc c0 x = pz_add (pz_mul q y) r) (hq : pz_lt q 13) (hr : pz_lt r db) (hr1 : kq_rel r r1) : klr A f g y r1 := by
  refine Or.inl ?_
  rcases hJ with h | ⟨h1, h2⟩
  · exact kq_step hA hf hg hfA hgA x y q r r1 db h hy hyl hc0 hrel hq hr hr1
  · obtain ⟨f0, k⟩ := hfe
    rcases k with ⟨k1, k2⟩ | ⟨c, k1, k2, k3⟩
    · exact kq_step hA hf hg hfA hgA x y q r r1 db (by rw [h1.trans (k1.trans k2.symm)]; exact kq_start (Or.inl ⟨k1, k2⟩) h2) hy hyl hc0 hrel hq hr hr1
    · refine kq_step hA hf hg hfA hgA f0 y q r r1 db (kq_start (Or.inr ⟨c, k1, k2, k3⟩) h2) hy hyl (c0 := c0 * c) (fun e => ?_) ?_ hq hr hr1
      · rcases Int.mul_eq_zero.mp e with e | e
        · exact hc0 e
        · exact k1 e
      · rw [← pz_sc_sc, ← k2, ← h1]
        exact hrel
theorem klr_ybound {A : Nat} (hA : 1 ≤ A) {f g x y : pz_P} (hgA : ∀ i, (g i).natAbs ≤ A) (hJ : klr A f g x y) : ∀ i, (y i).natAbs ≤ kq_F A 24 := by
  rcases hJ with h | ⟨h1, h2⟩
  · exact kq_ybound hA hgA h
  · exact fun i => Nat.le_trans (kq_rel_le h2 hgA i) (kq_F_ge hA (by decide))
theorem kq_rel_ex {f : pz_P} : ∃ f0, kq_rel f f0 := by
  by_cases h : f = pz_0
  · exact ⟨pz_0, Or.inl ⟨h, rfl⟩⟩
  · by_cases k : ∃ i, f i ≠ 0
    · obtain ⟨i, hi⟩ := k
      obtain ⟨t, u, t0, t1, t2⟩ := pz_content _ f i hi (Nat.le_refl _)
      exact ⟨u, Or.inr ⟨t, by omega, t1, t2⟩⟩
    · exact absurd (funext fun i => Classical.byContradiction fun q => k ⟨i, q⟩) h
theorem kq_rel_sg {r y : pz_P} {s : Int} (hs : s = 1 ∨ s = -1) (h : kq_rel (pz_sc s r) y) : kq_rel r y := by
  have e : r = pz_sc s (pz_sc s r) := by
    rw [pz_sc_sc]
    rcases hs with k | k <;> subst k <;> exact (pz_sc_one r).symm
  rcases h with ⟨h1, h2⟩ | ⟨c, h1, h2, h3⟩
  · refine Or.inl ⟨?_, h2⟩
    rw [e, h1]
    exact funext fun i => Int.mul_zero _
  · refine Or.inr ⟨s * c, ?_, ?_, h3⟩
    · rcases hs with k | k <;> subst k <;> omega
    · rw [e, h2, pz_sc_sc]
theorem jdg_zle {V W : Nat → Int} {p : Nat} : ∀ k, (∀ e, e < k → V (p * 13 + e) = 0 → W (p * 13 + e) = 0) → jdg W p k ≤ jdg V p k
  | 0, _ => Nat.le_refl _
  | k + 1, h => by
    have ih := jdg_zle k (fun e he => h e (by omega))
    show (if W (p * 13 + k) = 0 then jdg W p k else k + 1) ≤ (if V (p * 13 + k) = 0 then jdg V p k else k + 1)
    split
    · have := jdg_le V p k
      split <;> omega
    · rename_i c
      rw [if_neg (fun e => c (h k (by omega) e))]
      exact Nat.le_refl _
theorem jdg_of_zero {W : Nat → Int} {p d k : Nat} (h : ∀ e, d ≤ e → e < k → W (p * 13 + e) = 0) : jdg W p k ≤ d := by
  rcases Nat.lt_or_ge d (jdg W p k) with c | c
  · have := jdg_le W p k
    exact absurd (h (jdg W p k - 1) (by omega) (by omega)) (jdg_ne W p k (by omega))
  · exact c
section JLR
variable {D : Nat} {hp h : mj_H} {q0 q1 q2 q3 : Nat} {fs : List Value} {V : Nat → Int} {a : Nat}
theorem jp_lr (G : jG hp q0 q1 q2 q3 fs) (h7 : 7 < fs.length) {A : Nat} (hA : kq_fit A) {f g : pz_P} (hf : pz_lt f 13) (hg : pz_lt g 13) (hfA : ∀ i, (f i).natAbs ≤ A) (hgA : ∀ i, (g i).natAbs ≤ A) {Q : mj_R → Prop}
    (hend : ∀ (k : Nat) (W : Nat → Int) (h : mj_H), k ≤ 12 → jS (jrl hp q0 fs (k + 1)) q1 q2 q3 W h → (∀ p, 9 ≤ p → p ≤ 9 + k → 1 ≤ jdg W p 13 ∧ ∀ e, e < 13 → (W (p * 13 + e)).natAbs ≤ kq_F A 24) → (∀ s, (s < 26 ∨ 52 ≤ s) → (s < 130 ∨ 299 ≤ s) → s ≠ 652 → s ≠ 653 → s ≠ 654 → s ≠ 655 → s ≠ 663 → s ≠ 664 → W s = V s) → Q (.inl none, h)) :
    ∀ (d k : Nat) (W : Nat → Int) (h : mj_H) (e2 e3 e4 : Option Value), jdg W (10 + k) 13 ≤ d → k + 1 + jdg W (10 + k) 13 ≤ 13 → jS (jrl hp q0 fs (k + 1)) q1 q2 q3 W h → (∀ p, 9 ≤ p → p ≤ 9 + k → 1 ≤ jdg W p 13 ∧ ∀ e, e < 13 → (W (p * 13 + e)).natAbs ≤ kq_F A 24) → (∀ y1, kq_rel (jpo W (10 + k)) y1 → klr A f g (jpo W (9 + k)) y1) → (∀ s, (s < 26 ∨ 52 ≤ s) → (s < 130 ∨ 299 ≤ s) → s ≠ 652 → s ≠ 653 → s ≠ 654 → s ≠ 655 → s ≠ 663 → s ≠ 664 → W s = V s) → mj_T (D + 7) mj_m216 19 [some (.ref q0), some (.int (jn (a : Nat))), e2, e3, e4] [] h Q := by
  intro d
  induction d with
  | zero =>
    intro k W h e2 e3 e4 hd hk hs hrow hJ hfr
    have hd0 : jdg W (10 + k) 13 = 0 := by omega
    iterate 3 refine mj_T.pl rfl rfl rfl rfl ?_
    refine mj_T.gfl rfl (jS_a (jrl_G G (k + 1)) hs) (List.getElem?_set_self h7) ?_
    refine mj_T.iadd (a := 9) (b := ((k + 1 : Nat) : Int)) rfl ?_
    rw [show (9 : Int) + ((k + 1 : Nat) : Int) = ((10 + k : Nat) : Int) by omega]
    refine mj_T.call (ins := .invokevirtual 114) rfl rfl (Nat.le_of_ble_eq_true rfl) (Nat.le_of_ble_eq_true rfl) (by simp [mj_recv, jS_a (jrl_G G (k + 1)) hs]) rfl (jp_degreeOf (D := D + 5) (jrl_G G (k + 1)) (p := 10 + k) (by omega) hs) (fun v' h' hq' => ?_) (fun i h' hq' => by cases hq')
    cases hq'
    rw [hd0]
    refine mj_T.if0 (a := ((0 : Nat) : Int) - 1) rfl ⟨by decide, by decide⟩ (fun hc => ?_) (fun hc => ?_)
    · exact mj_T.ret rfl rfl rfl (hend k W h (by omega) hs hrow hfr)
    · simp [jc] at hc
  | succ d ih =>
    intro k W h e2 e3 e4 hd hk hs hrow hJ hfr
    have hdl := jdg_le W (10 + k) 13
    iterate 3 refine mj_T.pl rfl rfl rfl rfl ?_
    refine mj_T.gfl rfl (jS_a (jrl_G G (k + 1)) hs) (List.getElem?_set_self h7) ?_
    refine mj_T.iadd (a := 9) (b := ((k + 1 : Nat) : Int)) rfl ?_
    rw [show (9 : Int) + ((k + 1 : Nat) : Int) = ((10 + k : Nat) : Int) by omega]
    refine mj_T.call (ins := .invokevirtual 114) rfl rfl (Nat.le_of_ble_eq_true rfl) (Nat.le_of_ble_eq_true rfl) (by simp [mj_recv, jS_a (jrl_G G (k + 1)) hs]) rfl (jp_degreeOf (D := D + 5) (jrl_G G (k + 1)) (p := 10 + k) (by omega) hs) (fun v' h' hq' => ?_) (fun i h' hq' => by cases hq')
    cases hq'
    refine mj_T.if0 (a := (jdg W (10 + k) 13 : Int) - 1) rfl ⟨by omega, by omega⟩ (fun hc => ?_) (fun hc => ?_)
    · simp only [jc, decide_eq_true_eq] at hc
      exact mj_T.ret rfl rfl rfl (hend k W h (by omega) hs hrow hfr)
    simp only [jc, decide_eq_false_iff_not] at hc
    iterate 3 refine mj_T.pl rfl rfl rfl rfl ?_
    refine mj_T.gfl rfl (jS_a (jrl_G G (k + 1)) hs) (List.getElem?_set_self h7) ?_
    refine mj_T.iadd (a := 9) (b := ((k + 1 : Nat) : Int)) rfl ?_
    rw [show (9 : Int) + ((k + 1 : Nat) : Int) = ((10 + k : Nat) : Int) by omega]
    refine mj_T.call (ins := .invokevirtual 136) rfl rfl (Nat.le_of_ble_eq_true rfl) (Nat.le_of_ble_eq_true rfl) (by simp [mj_recv, jS_a (jrl_G G (k + 1)) hs]) rfl (jp_shrinks (D := D) (jrl_G G (k + 1)) (p := 10 + k) (by omega) hs) (fun v' h1 hq' => ?_) (fun i h' hq' => by obtain ⟨_, _, _, _, _, h⟩ := hq'; cases h)
    obtain ⟨W1, _, hs1, a1, a2, hq'⟩ := hq'
    cases hq'
    have b1 := jcm_prim (V := W) (W := W1) (p := 10 + k) (f := 1) (Or.inl rfl) (fun e he => by rw [a1 e he, Int.one_mul])
    have b2 := hJ _ b1
    have b3 : jpo W1 (9 + k) = jpo W (9 + k) := jpo_eq fun e he => a2 _ (by omega) (by omega) (by omega) (by omega) (by omega) (by omega)
    rw [← b3] at b2
    have hne : jpo W (10 + k) ≠ pz_0 := fun e => by
      have k1 := congrFun e (jdg W (10 + k) 13 - 1)
      rw [jpo_at (show jdg W (10 + k) 13 - 1 < 13 by omega)] at k1
      exact jdg_ne W (10 + k) 13 (by omega) k1
    have hne1 : jpo W1 (10 + k) ≠ pz_0 := by
      rcases b1 with ⟨e, _⟩ | ⟨_, _, _, e⟩
      · exact absurd e hne
      · exact kq_prim_ne e
    have hj1 := jpo_ne hne1
    have hj2 : jdg W1 (10 + k) 13 ≤ jdg W (10 + k) 13 := jdg_zle 13 fun e he h0 => by rw [a1 e he, h0, Int.zero_tdiv]
    obtain ⟨db, hdb⟩ : ∃ db, jdg W1 (10 + k) 13 = db + 1 := ⟨jdg W1 (10 + k) 13 - 1, by omega⟩
    have hlead := jdg_ne W1 (10 + k) 13 hj1
    rw [hdb, Nat.add_sub_cancel] at hlead
    have hyl : pz_lt (jpo W1 (10 + k)) (db + 1) := fun i hi => by
      unfold jpo
      split
      · rename_i c
        exact jdg_zero W1 (10 + k) 13 i (by omega) c
      · rfl
    have ydb : jpo W1 (10 + k) db = W1 ((10 + k) * 13 + db) := jpo_at (by omega)
    have hal1 := jdg_le W1 (9 + k) 13
    have hxl : pz_lt (jpo W1 (9 + k)) (db + (jdg W1 (9 + k) 13 - db)) := fun i hi => by
      unfold jpo
      split
      · rename_i c
        exact jdg_zero W1 (9 + k) 13 i (by omega) c
      · rfl
    have hxn : 1 ≤ jdg W1 (9 + k) 13 - db → jpo W1 (9 + k) (db + (jdg W1 (9 + k) 13 - db) - 1) ≠ 0 := fun hn => by
      rw [show db + (jdg W1 (9 + k) 13 - db) - 1 = jdg W1 (9 + k) 13 - 1 by omega, jpo_at (show jdg W1 (9 + k) 13 - 1 < 13 by omega)]
      exact jdg_ne W1 (9 + k) 13 (by omega)
    obtain ⟨al, be, hbe1, hal0, hbe0, hfit⟩ := klr_fits hA hf hg hfA hgA _ _ db (jdg W1 (9 + k) 13 - db) b2 hxl hxn hyl (by rw [ydb]; exact hlead) (by omega)
    have hal : ∀ e, e < 13 → (W1 ((9 + k) * 13 + e)).natAbs ≤ al := fun e he => by
      rw [← jpo_at (V := W1) (p := 9 + k) he]
      exact hal0 e
    have hbe : ∀ e, e < 13 → (W1 ((10 + k) * 13 + e)).natAbs ≤ be := fun e he => by
      rw [← jpo_at (V := W1) (p := 10 + k) he]
      exact hbe0 e
    have hyb : ∀ e, e < 13 → (W1 ((10 + k) * 13 + e)).natAbs ≤ kq_F A 24 := fun e he => by
      rw [← jpo_at (V := W1) (p := 10 + k) he]
      exact klr_ybound hA.1 hgA b2 e
    iterate 2 refine mj_T.pl rfl rfl rfl rfl ?_
    refine mj_T.gfl rfl (jS_a (jrl_G G (k + 1)) hs1) (List.getElem?_set_self h7) ?_
    refine mj_T.pl rfl rfl rfl rfl ?_
    refine mj_T.iadd (a := ((k + 1 : Nat) : Int)) (b := 1) rfl ?_
    rw [show ((k + 1 : Nat) : Int) + 1 = ((k + 1 + 1 : Nat) : Int) by omega]
    refine mj_T.pfl rfl (jS_a (jrl_G G (k + 1)) hs1) (by rw [List.length_set]; exact h7) rfl ?_
    have hs2 := jrl_put G (k + 1 + 1) hs1
    generalize h1.set q0 (.inr (10, (fs.set 7 (.int (jn ((k + 1 : Nat) : Int)))).set 7 (.int (jn ((k + 1 + 1 : Nat) : Int))))) = h2 at hs2
    iterate 2 refine mj_T.pl rfl rfl rfl rfl ?_
    refine mj_T.gfl rfl (jS_a (jrl_G G (k + 1 + 1)) hs2) (List.getElem?_set_self h7) ?_
    refine mj_T.iadd (a := 9) (b := ((k + 1 + 1 : Nat) : Int)) rfl ?_
    refine mj_T.pl rfl rfl rfl rfl ?_
    refine mj_T.isub (b := 1) rfl ?_
    rw [show (9 : Int) + ((k + 1 + 1 : Nat) : Int) - 1 = ((10 + k : Nat) : Int) by omega]
    iterate 5 refine mj_T.pl rfl rfl rfl rfl ?_
    refine mj_T.call (ins := .invokevirtual 114) rfl rfl (Nat.le_of_ble_eq_true rfl) (Nat.le_of_ble_eq_true rfl) (by simp [mj_recv, jS_a (jrl_G G (k + 1 + 1)) hs2]) rfl (jp_degreeOf (D := D + 5) (jrl_G G (k + 1 + 1)) (p := 10 + k) (by omega) hs2) (fun v' h' hq' => ?_) (fun i h' hq' => by cases hq')
    cases hq'
    rw [hdb, show ((db + 1 : Nat) : Int) - 1 = (db : Int) by omega]
    refine mj_T.call (ins := .invokestatic 104) rfl rfl (Nat.le_of_ble_eq_true rfl) (Nat.le_of_ble_eq_true rfl) rfl rfl (jq_slot (D := D + 6) (p := 10 + k) (i := db)) (fun v' h' hq' => ?_) (fun i h' hq' => by cases hq')
    cases hq'
    refine mj_T.call (ins := .invokevirtual 68) rfl rfl (Nat.le_of_ble_eq_true rfl) (Nat.le_of_ble_eq_true rfl) (by simp [mj_recv, jS_a (jrl_G G (k + 1 + 1)) hs2]) rfl (jS_sign (D := D + 6) (jrl_G G (k + 1 + 1)) (s := (10 + k) * 13 + db) (by omega) hs2) (fun v' h' hq' => ?_) (fun i h' hq' => by cases hq')
    cases hq'
    iterate 6 refine mj_T.pl rfl rfl rfl rfl ?_
    refine mj_T.isub (b := 1) rfl ?_
    rw [show ((10 + k : Nat) : Int) - 1 = ((9 + k : Nat) : Int) by omega]
    refine mj_T.pl rfl rfl rfl rfl ?_
    refine mj_T.call (ins := .invokevirtual 145) rfl rfl (Nat.le_of_ble_eq_true rfl) (Nat.le_of_ble_eq_true rfl) (by simp [mj_recv, jS_a (jrl_G G (k + 1 + 1)) hs2]) rfl (jp_dividesPoly (D := D + 2) (jrl_G G (k + 1 + 1)) (a := 9 + k) (b := 10 + k) (lc := W1 ((10 + k) * 13 + db)) (al := al) (be := be) (by omega) (by omega) (by omega) (by omega) (by omega) (by omega) hdb rfl hal hbe hbe1 hfit hs2) (fun v' h3 hq' => ?_) (fun i h' hq' => by obtain ⟨_, _, _, _, _, _, _, h⟩ := hq'; cases h)
    obtain ⟨W2, _, hs3, c1, c3, c2, c4, hq'⟩ := hq'
    cases hq'
    iterate 4 refine mj_T.pl rfl rfl rfl rfl ?_
    refine mj_T.iadd (a := ((10 + k : Nat) : Int)) (b := 1) rfl ?_
    rw [show ((10 + k : Nat) : Int) + 1 = ((10 + (k + 1) : Nat) : Int) by omega]
    refine mj_T.pl rfl rfl rfl rfl ?_
    refine mj_T.call (ins := .invokevirtual 124) rfl rfl (Nat.le_of_ble_eq_true rfl) (Nat.le_of_ble_eq_true rfl) (by simp [mj_recv, jS_a (jrl_G G (k + 1 + 1)) hs3]) rfl (jp_copiesPoly (D := D + 4) (jrl_G G (k + 1 + 1)) (p := 10 + (k + 1)) (q := 3) (by omega) (by omega) (by omega) hs3) (fun v' h4 hq' => ?_) (fun i h' hq' => by obtain ⟨_, _, h⟩ := hq'; cases h)
    obtain ⟨_, hs4, hq'⟩ := hq'
    cases hq'
    have f1 : ∀ e, e < 13 → jfl W2 (10 + (k + 1)) (fun e => W2 (3 * 13 + e)) 13 ((10 + (k + 1)) * 13 + e) = W2 (3 * 13 + e) := fun e he => jfl_at _ _ _ he
    have f2 : ∀ s, (s < (10 + (k + 1)) * 13 ∨ (10 + (k + 1)) * 13 + 13 ≤ s) → jfl W2 (10 + (k + 1)) (fun e => W2 (3 * 13 + e)) 13 s = W2 s := fun s hc => jfl_off _ _ _ hc
    generalize jfl W2 (10 + (k + 1)) (fun e => W2 (3 * 13 + e)) 13 = W3 at hs4 f1 f2
    have fin : ∀ (W4 : Nat → Int) (h5 : mj_H) (sg : Int) (e2 e3 e4 : Option Value), (sg = 1 ∨ sg = -1) → jS (jrl hp q0 fs (k + 1 + 1)) q1 q2 q3 W4 h5 → (∀ e, e < 13 → W4 ((10 + (k + 1)) * 13 + e) = sg * W2 (3 * 13 + e)) → (∀ s, (s < (10 + (k + 1)) * 13 ∨ (10 + (k + 1)) * 13 + 13 ≤ s) → W4 s = W2 s) → mj_T (D + 7) mj_m216 19 [some (.ref q0), some (.int (jn (a : Nat))), e2, e3, e4] [] h5 Q := by
      intro W4 h5 sg e2 e3 e4 hsg hs5 g1 g2
      have w1 : ∀ s, (s < 26 ∨ 52 ≤ s) → (s < (10 + (k + 1)) * 13 ∨ (10 + (k + 1)) * 13 + 13 ≤ s) → s ≠ 652 → s ≠ 654 → W4 s = W1 s := fun s x1 x2 x3 x4 => by rw [g2 s x2, c1 s x1 x3 x4]
      have w2 : jdg W4 (10 + (k + 1)) 13 ≤ db := jdg_of_zero fun e x1 x2 => by rw [g1 e x2, c2 e x1 x2, Int.mul_zero]
      have w3 : jpo W4 (10 + k) = jpo W1 (10 + k) := jpo_eq fun e he => w1 _ (by omega) (by omega) (by omega) (by omega)
      refine ih (k + 1) W4 h5 e2 e3 e4 (by omega) (by omega) hs5 (fun p p1 p2 => ?_) (fun y1 hy1 => ?_) (fun s x1 x2 x3 x4 x5 x6 x7 x8 => ?_)
      · by_cases hpk : p = 10 + k
        · subst hpk
          refine ⟨?_, fun e he => ?_⟩
          · exact jpo_ne (by rw [w3]; exact hne1)
          · rw [w1 _ (by omega) (by omega) (by omega) (by omega)]
            exact hyb e he
        · have r1 := hrow p p1 (by omega)
          have r2 : ∀ e, e < 13 → W4 (p * 13 + e) = W (p * 13 + e) := fun e he => by rw [w1 _ (by omega) (by omega) (by omega) (by omega), a2 _ (by omega) (by omega) (by omega) (by omega) (by omega) (by omega)]
          refine ⟨?_, fun e he => ?_⟩
          · rw [jdg_congr 13 r2]
            exact r1.1
          · rw [r2 e he]
            exact r1.2 e he
      · have t1 : jpo W4 (9 + (k + 1)) = jpo W1 (10 + k) := by rw [show 9 + (k + 1) = 10 + k by omega, w3]
        have t2 : jpo W4 (10 + (k + 1)) = pz_sc sg (jpo W2 3) := funext fun e => by
          by_cases he : e < 13
          · rw [jpo_at he, g1 e he]
            show _ = sg * jpo W2 3 e
            rw [jpo_at he]
          · show _ = sg * jpo W2 3 e
            unfold jpo
            rw [if_neg he, if_neg he, Int.mul_zero]
        rw [t1]
        rw [t2] at hy1
        have t3 : jpo W2 (10 + k) = jpo W1 (10 + k) := jpo_eq fun e he => c1 _ (by omega) (by omega) (by omega)
        refine klr_step hA.1 hf hg hfA hgA kq_rel_ex (jpo W1 (9 + k)) (jpo W1 (10 + k)) (jpo W2 2) (jpo W2 3) y1 db b2 hyl (by rw [ydb]; exact hlead) (Int.pow_ne_zero hlead) c3 (jpo_lt W2 2) (fun i hi => ?_) (kq_rel_sg hsg hy1)
        by_cases he : i < 13
        · rw [jpo_at he, c2 i hi he]
        · exact jpo_lt W2 3 i (by omega)
      · rw [w1 s x1 (by omega) x3 x5, a2 s (by omega) x3 x4 x6 x7 x8, hfr s x1 x2 x3 x4 x5 x6 x7 x8]
    have neg : mj_T (D + 7) mj_m216 109 [some (.ref q0), some (.int (jn (a : Nat))), some (.int (jn ((10 + k : Nat) : Int))), some (.int (jn (jsg (W1 ((10 + k) * 13 + db))))), some (.int (jn ((jdg W1 (9 + k) 13 - db : Nat) : Int)))] [] h4 Q := by
      iterate 3 refine mj_T.pl rfl rfl rfl rfl ?_
      refine mj_T.iadd (a := ((10 + k : Nat) : Int)) (b := 1) rfl ?_
      rw [show ((10 + k : Nat) : Int) + 1 = ((10 + (k + 1) : Nat) : Int) by omega]
      refine mj_T.call (ins := .invokevirtual 139) rfl rfl (Nat.le_of_ble_eq_true rfl) (Nat.le_of_ble_eq_true rfl) (by simp [mj_recv, jS_a (jrl_G G (k + 1 + 1)) hs4]) rfl (jp_negates (D := D + 4) (jrl_G G (k + 1 + 1)) (p := 10 + (k + 1)) (by omega) hs4) (fun v' h5 hq' => ?_) (fun i h' hq' => by obtain ⟨_, _, h⟩ := hq'; cases h)
      obtain ⟨_, hs5, hq'⟩ := hq'
      cases hq'
      refine mj_T.pl rfl rfl rfl rfl ?_
      exact fin _ _ (-1) _ _ _ (Or.inr rfl) hs5 (fun e he => by rw [jfl_at _ _ _ he, f1 e he]; omega) (fun s hc => by rw [jfl_off _ _ _ hc, f2 s hc])
    refine mj_T.pl rfl rfl rfl rfl ?_
    have hsg := jsg_range (W1 ((10 + k) * 13 + db))
    refine mj_T.if0 (a := jsg (W1 ((10 + k) * 13 + db))) rfl ⟨by omega, by omega⟩ (fun hc2 => ?_) (fun hc2 => ?_)
    · exact neg
    iterate 2 refine mj_T.pl rfl rfl rfl rfl ?_
    refine mj_T.irem (a := ((jdg W1 (9 + k) 13 - db : Nat) : Int)) (b := 2) rfl ⟨by omega, by omega⟩ ⟨by omega, by omega⟩ (by omega) ?_
    have ht : ((jdg W1 (9 + k) 13 - db : Nat) : Int).tmod 2 = (((jdg W1 (9 + k) 13 - db) % 2 : Nat) : Int) := rfl
    refine mj_T.if0 (a := ((jdg W1 (9 + k) 13 - db : Nat) : Int).tmod 2) rfl ⟨by omega, by omega⟩ (fun hc3 => ?_) (fun hc3 => ?_)
    · refine mj_T.pl rfl rfl rfl rfl ?_
      exact fin _ _ 1 _ _ _ (Or.inl rfl) hs4 (fun e he => by rw [f1 e he, Int.one_mul]) f2
    · exact neg
theorem jp_laysRow (G : jG hp q0 q1 q2 q3 fs) (h7 : 7 < fs.length) {A : Nat} (hA : kq_fit A) (hA2 : 13 * A < jB ^ 698) (ha : a < 9) (ha2 : a ≠ 2) (ha3 : a ≠ 3) (hne : jpo V a ≠ pz_0) (hVA : ∀ e, e < 13 → (V (a * 13 + e)).natAbs * 12 ≤ A) (hs : jS hp q1 q2 q3 V h) :
    mj_Ok (D + 8) 216 [.ref q0, .int (jn (a : Nat))] h (fun r => ∃ (k : Nat) (W : Nat → Int) (h' : mj_H), k ≤ 12 ∧ jS (jrl hp q0 fs (k + 1)) q1 q2 q3 W h' ∧ (∀ p, 9 ≤ p → p ≤ 9 + k → 1 ≤ jdg W p 13 ∧ ∀ e, e < 13 → (W (p * 13 + e)).natAbs ≤ kq_F A 24) ∧ (∀ s, (s < 26 ∨ 52 ≤ s) → (s < 117 ∨ 299 ≤ s) → s ≠ 652 → s ≠ 653 → s ≠ 654 → s ≠ 655 → s ≠ 663 → s ≠ 664 → W s = V s) ∧ (∀ e, e < 13 → W (9 * 13 + e) = V (a * 13 + e)) ∧ r = (.inl none, h')) := by
  refine mj_Ok.of (M := mj_m216) rfl rfl rfl ?_
  iterate 3 refine mj_T.pl rfl rfl rfl rfl ?_
  refine mj_T.call (ins := .invokevirtual 124) rfl rfl (Nat.le_of_ble_eq_true rfl) (Nat.le_of_ble_eq_true rfl) (by simp [mj_recv, jS_a G hs]) rfl (jp_copiesPoly (D := D + 4) G (p := 9) (q := a) (by decide) (by omega) (by omega) hs) (fun v' h1 hq' => ?_) (fun i h' hq' => by obtain ⟨_, _, h⟩ := hq'; cases h)
  obtain ⟨_, hs1, hq'⟩ := hq'
  cases hq'
  have a1 : ∀ e, e < 13 → jfl V 9 (fun e => V (a * 13 + e)) 13 (9 * 13 + e) = V (a * 13 + e) := fun e he => jfl_at _ 9 _ he
  have a2 : ∀ s, (s < 117 ∨ 130 ≤ s) → jfl V 9 (fun e => V (a * 13 + e)) 13 s = V s := fun s hc => jfl_off _ 9 _ (by omega)
  generalize jfl V 9 (fun e => V (a * 13 + e)) 13 = W1 at hs1 a1 a2
  iterate 2 refine mj_T.pl rfl rfl rfl rfl ?_
  refine mj_T.pfl rfl (jS_a G hs1) h7 rfl ?_
  have hs2 := jrl_first G 1 hs1
  refine mj_T.eq (h2 := h1.set q0 (.inr (10, fs.set 7 (.int (jn ((1 : Nat) : Int)))))) ?_ rfl rfl rfl rfl
  generalize h1.set q0 (.inr (10, fs.set 7 (.int (jn ((1 : Nat) : Int))))) = h2 at hs2
  iterate 3 refine mj_T.pl rfl rfl rfl rfl ?_
  refine mj_T.call (ins := .invokevirtual 149) rfl rfl (Nat.le_of_ble_eq_true rfl) (Nat.le_of_ble_eq_true rfl) (by simp [mj_recv, jS_a (jrl_G G 1) hs2]) rfl (jp_derives (D := D + 4) (V := W1) (jrl_G G 1) (p := 10) (a := a) (by decide) (by omega) (by omega) (fun e he => jnl_of_lt (M := 13 * A) (by rw [show a * 13 + e + 1 = a * 13 + (e + 1) by omega, a2 _ (by omega), Int.natAbs_mul]; have k1 := hVA (e + 1) (by omega); have k2 : (V (a * 13 + (e + 1))).natAbs * ((e + 1 : Nat) : Int).natAbs ≤ (V (a * 13 + (e + 1))).natAbs * 12 := Nat.mul_le_mul_left _ (by omega); omega) hA2) hs2) (fun v' h3 hq' => ?_) (fun i h' hq' => by obtain ⟨_, _, _, _, h⟩ := hq'; cases h)
  obtain ⟨W2, _, hs3, b1, hq'⟩ := hq'
  cases hq'
  have c1 : ∀ s, (s < 130 ∨ 143 ≤ s) → s ≠ 652 → W2 s = W1 s := fun s x1 x2 => by rw [b1 s x2, jfl_off _ 10 _ (by omega)]
  have c2 : ∀ e, e < 13 → W2 (10 * 13 + e) = if e < 12 then jdv W1 a e else 0 := fun e he => by rw [b1 _ (by omega), jfl_at _ 10 _ he]
  have c3 : ∀ e, e < 13 → (W2 (10 * 13 + e)).natAbs ≤ A := fun e he => by
    rw [c2 e he]
    split
    · show (W1 (a * 13 + e + 1) * ((e + 1 : Nat) : Int)).natAbs ≤ A
      rw [show a * 13 + e + 1 = a * 13 + (e + 1) by omega, a2 _ (by omega), Int.natAbs_mul]
      have k1 := hVA (e + 1) (by omega)
      have k2 : (V (a * 13 + (e + 1))).natAbs * ((e + 1 : Nat) : Int).natAbs ≤ (V (a * 13 + (e + 1))).natAbs * 12 := Nat.mul_le_mul_left _ (by omega)
      omega
    · exact Nat.zero_le _
  have c4 : ∀ e, e < 13 → W2 (9 * 13 + e) = V (a * 13 + e) := fun e he => by rw [c1 _ (by omega) (by omega), a1 e he]
  have c5 : jpo W2 9 = jpo V a := jpo_eq c4
  have c6 : ∀ e, e < 13 → (V (a * 13 + e)).natAbs ≤ A := fun e he => by have := hVA e he; omega
  have c7 : jdg W2 10 13 ≤ 12 := jdg_of_zero fun e x1 x2 => by rw [c2 e x2, if_neg (by omega)]
  refine jp_lr (D := D) (V := W2) (a := a) G h7 hA (f := jpo V a) (g := jpo W2 10) (jpo_lt _ _) (jpo_lt _ _) (jpo_le c6) (jpo_le c3) (fun k W h4 k1 k2 k3 k4 => ⟨k, W, h4, k1, k2, k3, fun s x1 x2 x3 x4 x5 x6 x7 x8 => by rw [k4 s x1 (by omega) x3 x4 x5 x6 x7 x8, c1 s (by omega) x3, a2 s (by omega)], fun e he => by rw [k4 _ (by omega) (by omega) (by omega) (by omega) (by omega) (by omega) (by omega) (by omega), c4 e he], rfl⟩) 13 0 W2 h3 _ _ _ (jdg_le _ _ _) (by show 0 + 1 + jdg W2 10 13 ≤ 13; omega) hs3 (fun p p1 p2 => ?_) (fun y1 hy => Or.inr ⟨c5, hy⟩) (fun s _ _ _ _ _ _ _ _ => rfl)
  have hp9 : p = 9 := by omega
  subst hp9
  refine ⟨jpo_ne (by rw [c5]; exact hne), fun e he => ?_⟩
  rw [c4 e he]
  exact Nat.le_trans (c6 e he) (kq_F_ge hA.1 (by decide))
end JLR
/-! The reference's value at a place. -/
theorem jvu_at (V : Nat → Int) (s : Nat) (z : Int) : jvu V s z s = z := by simp [jvu]
theorem jvu_ne (V : Nat → Int) (s : Nat) (z : Int) {t : Nat} (h : t ≠ s) : jvu V s z t = V t := by simp [jvu, h]
section JVA
variable {D : Nat} {hp h : mj_H} {q0 q1 q2 q3 : Nat} {fs : List Value} {V : Nat → Int} {p : Nat}
theorem jva_step {a k c : Int} {m n x C : Nat} (ha : a.natAbs ≤ m * (C * x ^ n)) (hk : k.natAbs ≤ x) (hc : c.natAbs ≤ C) (q : Int) (hq : q.natAbs ≤ x ^ (n + 1)) : (a * k).natAbs ≤ m * (C * x ^ (n + 1)) ∧ (c * q).natAbs ≤ C * x ^ (n + 1) ∧ (a * k + c * q).natAbs ≤ (m + 1) * (C * x ^ (n + 1)) := by
  have h1 : (a * k).natAbs ≤ m * (C * x ^ (n + 1)) := by
    rw [Int.natAbs_mul, Nat.pow_succ, ← Nat.mul_assoc C, ← Nat.mul_assoc m]
    exact Nat.mul_le_mul ha hk
  have h2 : (c * q).natAbs ≤ C * x ^ (n + 1) := by
    rw [Int.natAbs_mul]
    exact Nat.mul_le_mul hc hq
  refine ⟨h1, h2, ?_⟩
  have h3 := Int.natAbs_add_le (a * k) (c * q)
  have h4 : (m + 1) * (C * x ^ (n + 1)) = m * (C * x ^ (n + 1)) + C * x ^ (n + 1) := Nat.succ_mul _ _
  omega
theorem jp_va (G : jG hp q0 q1 q2 q3 fs) (hpp : p ≤ 49) {C x d : Nat} (hd : d ≤ 12) (hC : ∀ e, e < 13 → (V (p * 13 + e)).natAbs ≤ C) (hK : (V 656).natAbs ≤ x) (hN : (V 657).natAbs ≤ x) (hx : 1 ≤ x) (hfit : 13 * (C * x ^ 12) < jB ^ 698) (hfit2 : x ^ 12 < jB ^ 698) {Q : mj_R → Prop}
    (hend : ∀ (W : Nat → Int) (h : mj_H), jS hp q1 q2 q3 W h → (∀ s, s ≠ 652 → s ≠ 659 → s ≠ 660 → W s = V s) → (W 659).natAbs ≤ 13 * (C * x ^ 12) → (W 660).natAbs ≤ x ^ 12 → (V 657 ≠ 0 → W 660 ≠ 0) → Q (.inl (some (.int (jn (jsg (W 659))))), h)) :
    ∀ (m n : Nat) (W : Nat → Int) (h : mj_H), n + m = d → jS hp q1 q2 q3 W h → (∀ s, s ≠ 652 → s ≠ 659 → s ≠ 660 → W s = V s) → (W 659).natAbs ≤ (n + 1) * (C * x ^ n) → (W 660).natAbs ≤ x ^ n → (V 657 ≠ 0 → W 660 ≠ 0) → mj_T (D + 4) mj_m215 44 [some (.ref q0), some (.int (jn (p : Nat))), some (.int (jn (d : Nat))), some (.int (jn ((m : Nat) - 1 : Int)))] [] h Q := by
  have mono : ∀ n, n ≤ 12 → x ^ n ≤ x ^ 12 := fun n hn => Nat.pow_le_pow_right hx hn
  have monoC : ∀ k n, k ≤ 13 → n ≤ 12 → k * (C * x ^ n) ≤ 13 * (C * x ^ 12) := fun k n hk hn => Nat.mul_le_mul hk (Nat.mul_le_mul_left _ (mono n hn))
  intro m
  induction m with
  | zero =>
    intro n W h hn hs hf h1 h2 h3
    refine mj_T.pl rfl rfl rfl rfl ?_
    refine mj_T.if0 (a := ((0 : Nat) : Int) - 1) rfl ⟨by decide, by decide⟩ (fun hc => ?_) (fun hc => ?_)
    · iterate 2 refine mj_T.pl rfl rfl rfl rfl ?_
      refine mj_T.call (ins := .invokevirtual 68) rfl rfl (Nat.le_of_ble_eq_true rfl) (Nat.le_of_ble_eq_true rfl) (by simp [mj_recv, jS_a G hs]) rfl (jS_sign (D := D + 3) G (s := 659) (by decide) hs) (fun v' h' hq' => ?_) (fun i h' hq' => by cases hq')
      cases hq'
      exact mj_T.ret rfl rfl rfl (hend W h hs hf (Nat.le_trans h1 (monoC _ _ (by omega) (by omega))) (Nat.le_trans h2 (mono _ (by omega))) h3)
    · simp [jc] at hc
  | succ m ih =>
    intro n W h hn hs hf h1 h2 h3
    have q2 : (W 660 * W 657).natAbs ≤ x ^ (n + 1) := by
      rw [Int.natAbs_mul, Nat.pow_succ, hf 657 (by decide) (by decide) (by decide)]
      exact Nat.mul_le_mul h2 hN
    have q3 : V 657 ≠ 0 → W 660 * W 657 ≠ 0 := fun hz e => by
      rcases Int.mul_eq_zero.mp e with e | e
      · exact h3 hz e
      · rw [hf 657 (by decide) (by decide) (by decide)] at e
        exact hz e
    obtain ⟨s1, s2, s3⟩ := jva_step h1 hK (hC m (by omega)) _ q2
    refine mj_T.pl rfl rfl rfl rfl ?_
    refine mj_T.if0 (a := ((m + 1 : Nat) : Int) - 1) rfl ⟨by omega, by omega⟩ (fun hc => ?_) (fun hc => ?_)
    · simp only [jc, decide_eq_true_eq] at hc
      omega
    rw [show ((m + 1 : Nat) : Int) - 1 = (m : Int) by omega]
    iterate 4 refine mj_T.pl rfl rfl rfl rfl ?_
    refine mj_T.call (ins := .invokevirtual 117) rfl rfl (Nat.le_of_ble_eq_true rfl) (Nat.le_of_ble_eq_true rfl) (by simp [mj_recv, jS_a G hs]) rfl (jS_mul (D := D + 2) (V := W) G (to := 660) (a := 660) (b := 657) (by decide) (by decide) (by decide) (jnl_of_lt (Nat.le_trans q2 (mono _ (by omega))) hfit2) hs) (fun v' h1 hq' => ?_) (fun i h' hq' => by obtain ⟨_, _, h⟩ := hq'; cases h)
    obtain ⟨_, hs1, hq'⟩ := hq'
    cases hq'
    have a1 : jvu W 660 (W 660 * W 657) 660 = W 660 * W 657 := jvu_at _ _ _
    have a2 : ∀ s, s ≠ 660 → jvu W 660 (W 660 * W 657) s = W s := fun s hne => jvu_ne _ _ _ hne
    generalize jvu W 660 (W 660 * W 657) = W1 at hs1 a1 a2
    iterate 4 refine mj_T.pl rfl rfl rfl rfl ?_
    refine mj_T.call (ins := .invokevirtual 117) rfl rfl (Nat.le_of_ble_eq_true rfl) (Nat.le_of_ble_eq_true rfl) (by simp [mj_recv, jS_a G hs1]) rfl (jS_mul (D := D + 2) (V := W1) G (to := 659) (a := 659) (b := 656) (by decide) (by decide) (by decide) (jnl_of_lt (M := 13 * (C * x ^ 12)) (by rw [a2 659 (by decide), a2 656 (by decide), hf 656 (by decide) (by decide) (by decide)]; exact Nat.le_trans s1 (monoC _ _ (by omega) (by omega))) hfit) hs1) (fun v' h2 hq' => ?_) (fun i h' hq' => by obtain ⟨_, _, h⟩ := hq'; cases h)
    obtain ⟨_, hs2, hq'⟩ := hq'
    cases hq'
    have b1 : jvu W1 659 (W1 659 * W1 656) 659 = W1 659 * W1 656 := jvu_at _ _ _
    have b2 : ∀ s, s ≠ 659 → jvu W1 659 (W1 659 * W1 656) s = W1 s := fun s hne => jvu_ne _ _ _ hne
    generalize jvu W1 659 (W1 659 * W1 656) = W2 at hs2 b1 b2
    iterate 4 refine mj_T.pl rfl rfl rfl rfl ?_
    refine mj_T.call (ins := .invokestatic 104) rfl rfl (Nat.le_of_ble_eq_true rfl) (Nat.le_of_ble_eq_true rfl) rfl rfl (jq_slot (D := D + 3) (p := p) (i := m)) (fun v' h' hq' => ?_) (fun i h' hq' => by cases hq')
    cases hq'
    refine mj_T.pl rfl rfl rfl rfl ?_
    have vm : W2 (p * 13 + m) = V (p * 13 + m) := by rw [b2 _ (by omega), a2 _ (by omega), hf _ (by omega) (by omega) (by omega)]
    have v6 : W2 660 = W 660 * W 657 := by rw [b2 _ (by decide), a1]
    refine mj_T.call (ins := .invokevirtual 117) rfl rfl (Nat.le_of_ble_eq_true rfl) (Nat.le_of_ble_eq_true rfl) (by simp [mj_recv, jS_a G hs2]) rfl (jS_mul (D := D + 2) (V := W2) G (to := 652) (a := p * 13 + m) (b := 660) (by decide) (by omega) (by decide) (jnl_of_lt (M := 13 * (C * x ^ 12)) (by rw [vm, v6]; exact Nat.le_trans (by rw [Nat.one_mul]; exact s2) (monoC 1 (n + 1) (by omega) (by omega))) hfit) hs2) (fun v' h3 hq' => ?_) (fun i h' hq' => by obtain ⟨_, _, h⟩ := hq'; cases h)
    obtain ⟨_, hs3, hq'⟩ := hq'
    cases hq'
    have c1 : jvu W2 652 (W2 (p * 13 + m) * W2 660) 652 = W2 (p * 13 + m) * W2 660 := jvu_at _ _ _
    have c2 : ∀ s, s ≠ 652 → jvu W2 652 (W2 (p * 13 + m) * W2 660) s = W2 s := fun s hne => jvu_ne _ _ _ hne
    generalize jvu W2 652 (W2 (p * 13 + m) * W2 660) = W3 at hs3 c1 c2
    have v7 : W3 659 + 1 * W3 652 = W 659 * V 656 + V (p * 13 + m) * (W 660 * W 657) := by
      rw [c1, c2 _ (by decide), b1, vm, v6, a2 _ (by decide), a2 _ (by decide), hf 656 (by decide) (by decide) (by decide), Int.one_mul]
    iterate 5 refine mj_T.pl rfl rfl rfl rfl ?_
    refine mj_T.call (ins := .invokevirtual 107) rfl rfl (Nat.le_of_ble_eq_true rfl) (Nat.le_of_ble_eq_true rfl) (by simp [mj_recv, jS_a G hs3]) rfl (jS_adds (D := D) (V := W3) G (to := 659) (a := 659) (b := 652) (f := 1) (by decide) (by decide) (by decide) (Or.inl rfl) (jnl_of_lt (M := 13 * (C * x ^ 12)) (by rw [v7]; exact Nat.le_trans s3 (monoC _ _ (by omega) (by omega))) hfit) hs3) (fun v' h4 hq' => ?_) (fun i h' hq' => by obtain ⟨_, _, h⟩ := hq'; cases h)
    obtain ⟨_, hs4, hq'⟩ := hq'
    cases hq'
    have d1 : jvu W3 659 (W3 659 + 1 * W3 652) 659 = W3 659 + 1 * W3 652 := jvu_at _ _ _
    have d2 : ∀ s, s ≠ 659 → jvu W3 659 (W3 659 + 1 * W3 652) s = W3 s := fun s hne => jvu_ne _ _ _ hne
    generalize jvu W3 659 (W3 659 + 1 * W3 652) = W4 at hs4 d1 d2
    refine mj_T.iinc (a := (m : Int)) rfl rfl ?_
    refine mj_T.pl rfl rfl rfl rfl ?_
    have v8 : W4 660 = W 660 * W 657 := by rw [d2 _ (by decide), c2 _ (by decide), v6]
    exact ih (n + 1) W4 h4 (by omega) hs4 (fun s x1 x2 x3 => by rw [d2 s x2, c2 s x1, b2 s x2, a2 s x3, hf s x1 x2 x3]) (by rw [d1, v7]; exact s3) (by rw [v8]; exact q2) (fun hz => by rw [v8]; exact q3 hz)
theorem jp_valueAt (G : jG hp q0 q1 q2 q3 fs) (hpp : p ≤ 49) {C x : Nat} (hC : ∀ e, e < 13 → (V (p * 13 + e)).natAbs ≤ C) (hK : (V 656).natAbs ≤ x) (hN : (V 657).natAbs ≤ x) (hx : 1 ≤ x) (hfit : 13 * (C * x ^ 12) < jB ^ 698) (hfit2 : x ^ 12 < jB ^ 698) (hs : jS hp q1 q2 q3 V h) :
    mj_Ok (D + 5) 215 [.ref q0, .int (jn (p : Nat))] h (fun r => ∃ (W : Nat → Int) (h' : mj_H), jS hp q1 q2 q3 W h' ∧ (∀ s, s ≠ 652 → s ≠ 659 → s ≠ 660 → W s = V s) ∧ (W 659).natAbs ≤ 13 * (C * x ^ 12) ∧ (W 660).natAbs ≤ x ^ 12 ∧ (V 657 ≠ 0 → W 660 ≠ 0) ∧ r = (.inl (some (.int (jn (jsg (W 659))))), h')) := by
  have hdl := jdg_le V p 13
  refine mj_Ok.of (M := mj_m215) rfl rfl rfl ?_
  iterate 2 refine mj_T.pl rfl rfl rfl rfl ?_
  refine mj_T.call (ins := .invokevirtual 114) rfl rfl (Nat.le_of_ble_eq_true rfl) (Nat.le_of_ble_eq_true rfl) (by simp [mj_recv, jS_a G hs]) rfl (jp_degreeOf (D := D + 2) G (p := p) (by omega) hs) (fun v' h' hq' => ?_) (fun i h' hq' => by cases hq')
  cases hq'
  iterate 4 refine mj_T.pl rfl rfl rfl rfl ?_
  refine mj_T.call (ins := .invokevirtual 45) rfl rfl (Nat.le_of_ble_eq_true rfl) (Nat.le_of_ble_eq_true rfl) (by simp [mj_recv, jS_a G hs]) rfl (jS_sets (D := D + 3) G (s := 659) (v := 0) (by decide) ⟨by decide, by decide⟩ hs) (fun v' h1 hq' => ?_) (fun i h' hq' => by obtain ⟨_, _, h⟩ := hq'; cases h)
  obtain ⟨_, hs1, hq'⟩ := hq'
  cases hq'
  have a1 : jvu V 659 (0) 659 = 0 := jvu_at _ _ _
  have a2 : ∀ s, s ≠ 659 → jvu V 659 (0) s = V s := fun s hne => jvu_ne _ _ _ hne
  generalize jvu V 659 (0) = W1 at hs1 a1 a2
  iterate 3 refine mj_T.pl rfl rfl rfl rfl ?_
  refine mj_T.call (ins := .invokevirtual 45) rfl rfl (Nat.le_of_ble_eq_true rfl) (Nat.le_of_ble_eq_true rfl) (by simp [mj_recv, jS_a G hs1]) rfl (jS_sets (D := D + 3) G (s := 660) (v := 1) (by decide) ⟨by decide, by decide⟩ hs1) (fun v' h2 hq' => ?_) (fun i h' hq' => by obtain ⟨_, _, h⟩ := hq'; cases h)
  obtain ⟨_, hs2, hq'⟩ := hq'
  cases hq'
  have b1 : jvu W1 660 (1) 660 = 1 := jvu_at _ _ _
  have b2 : ∀ s, s ≠ 660 → jvu W1 660 (1) s = W1 s := fun s hne => jvu_ne _ _ _ hne
  generalize jvu W1 660 (1) = W2 at hs2 b1 b2
  have hx12 : 1 ≤ x ^ 12 := Nat.pow_le_pow_left hx 12
  refine mj_T.pl rfl rfl rfl rfl ?_
  refine mj_T.if0 (a := (jdg V p 13 : Int) - 1) rfl ⟨by omega, by omega⟩ (fun hc => ?_) (fun hc => ?_)
  · simp only [jc, decide_eq_true_eq] at hc
    obtain ⟨d, hd⟩ : ∃ d, jdg V p 13 = d + 1 := ⟨jdg V p 13 - 1, by omega⟩
    rw [hd, show ((d + 1 : Nat) : Int) - 1 = (d : Int) by omega]
    iterate 4 refine mj_T.pl rfl rfl rfl rfl ?_
    refine mj_T.call (ins := .invokestatic 104) rfl rfl (Nat.le_of_ble_eq_true rfl) (Nat.le_of_ble_eq_true rfl) rfl rfl (jq_slot (D := D + 3) (p := p) (i := d)) (fun v' h' hq' => ?_) (fun i h' hq' => by cases hq')
    cases hq'
    refine mj_T.call (ins := .invokevirtual 84) rfl rfl (Nat.le_of_ble_eq_true rfl) (Nat.le_of_ble_eq_true rfl) (by simp [mj_recv, jS_a G hs2]) rfl (jS_copies (D := D + 2) G (to := 659) (s := p * 13 + d) (by decide) (by omega) hs2) (fun v' h3 hq' => ?_) (fun i h' hq' => by obtain ⟨_, _, h⟩ := hq'; cases h)
    obtain ⟨_, hs3, hq'⟩ := hq'
    cases hq'
    have c1 : jvu W2 659 (W2 (p * 13 + d)) 659 = W2 (p * 13 + d) := jvu_at _ _ _
    have c2 : ∀ s, s ≠ 659 → jvu W2 659 (W2 (p * 13 + d)) s = W2 s := fun s hne => jvu_ne _ _ _ hne
    generalize jvu W2 659 (W2 (p * 13 + d)) = W3 at hs3 c1 c2
    iterate 2 refine mj_T.pl rfl rfl rfl rfl ?_
    refine mj_T.isub (b := 1) rfl ?_
    refine mj_T.pl rfl rfl rfl rfl ?_
    have v0 : W2 (p * 13 + d) = V (p * 13 + d) := by rw [b2 _ (by omega), a2 _ (by omega)]
    refine jp_va (D := D) (V := V) (p := p) G hpp (C := C) (x := x) (d := d) (by omega) hC hK hN hx hfit hfit2 (fun W h k1 k2 k3 k4 k5 => ⟨W, h, k1, k2, k3, k4, k5, rfl⟩) d 0 W3 h3 (by omega) hs3 (fun s x1 x2 x3 => by rw [c2 s x2, b2 s x3, a2 s x2]) ?_ ?_ ?_
    · rw [c1, v0, Nat.pow_zero, Nat.mul_one, Nat.zero_add, Nat.one_mul]
      exact hC d (by omega)
    · rw [c2 _ (by decide), b1]
      exact Nat.le_refl _
    · rw [c2 _ (by decide), b1]
      exact fun _ => by decide
  · simp only [jc, decide_eq_false_iff_not] at hc
    refine mj_T.pl rfl rfl rfl rfl ?_
    have v0 : W2 659 = 0 := by rw [b2 _ (by decide), a1]
    refine mj_T.ret rfl rfl rfl ⟨W2, h2, hs2, fun s x1 x2 x3 => by rw [b2 s x3, a2 s x2], by rw [v0]; exact Nat.zero_le _, by rw [b1]; exact hx12, fun _ => by rw [b1]; decide, ?_⟩
    rw [v0]
    rfl
end JVA
/-! The reference's changes of sign. -/
section JCH
variable {D : Nat} {hp h : mj_H} {q0 q1 q2 q3 : Nat} {fs : List Value} {V : Nat → Int} {k : Nat}
theorem jp_ch (G : jG hp q0 q1 q2 q3 fs) (h7 : fs[7]? = some (.int (jn ((k + 1 : Nat) : Int)))) (hk : k ≤ 12) {way : Int} (hw : -1 ≤ way ∧ way ≤ 1) {C x : Nat} (hrow : (∀ p, 9 ≤ p → p ≤ 9 + k → 1 ≤ jdg V p 13 ∧ ∀ e, e < 13 → (V (p * 13 + e)).natAbs ≤ C)) (hw0 : way = 0 → (V 656).natAbs ≤ x ∧ (V 657).natAbs ≤ x ∧ 1 ≤ x ∧ 13 * (C * x ^ 12) < jB ^ 698 ∧ x ^ 12 < jB ^ 698) {Q : mj_R → Prop}
    (hend : ∀ (W : Nat → Int) (h : mj_H) (z : Int), jS hp q1 q2 q3 W h → (∀ s, s ≠ 652 → s ≠ 659 → s ≠ 660 → W s = V s) → 0 ≤ z → z ≤ 13 → Q (.inl (some (.int (jn z))), h)) :
    ∀ (m j : Nat) (W : Nat → Int) (h : mj_H) (many ahead : Int) (e5 e6 : Option Value), j + m = k + 1 → jS hp q1 q2 q3 W h → (∀ s, s ≠ 652 → s ≠ 659 → s ≠ 660 → W s = V s) → 0 ≤ many → many ≤ j → -1 ≤ ahead → ahead ≤ 1 → mj_T (D + 5) mj_m217 8 [some (.ref q0), some (.int (jn way)), some (.int (jn many)), some (.int (jn ahead)), some (.int (jn ((9 + j : Nat) : Int))), e5, e6] [] h Q := by
  intro m
  induction m with
  | zero =>
    intro j W h many ahead e5 e6 hj hs hf m1 m2 n1 n2
    iterate 3 refine mj_T.pl rfl rfl rfl rfl ?_
    refine mj_T.gfl rfl (jS_a G hs) h7 ?_
    refine mj_T.iadd (a := 9) (b := ((k + 1 : Nat) : Int)) rfl ?_
    refine mj_T.icmp (a := ((9 + j : Nat) : Int)) (b := 9 + ((k + 1 : Nat) : Int)) rfl ⟨by omega, by omega⟩ ⟨by omega, by omega⟩ (fun hc => ?_) (fun hc => ?_)
    · refine mj_T.pl rfl rfl rfl rfl ?_
      exact mj_T.ret rfl rfl rfl (hend W h many hs hf m1 (by omega))
    · simp only [jc, decide_eq_false_iff_not] at hc
      omega
  | succ m ih =>
    intro j W h many ahead e5 e6 hj hs hf m1 m2 n1 n2
    iterate 3 refine mj_T.pl rfl rfl rfl rfl ?_
    refine mj_T.gfl rfl (jS_a G hs) h7 ?_
    refine mj_T.iadd (a := 9) (b := ((k + 1 : Nat) : Int)) rfl ?_
    refine mj_T.icmp (a := ((9 + j : Nat) : Int)) (b := 9 + ((k + 1 : Nat) : Int)) rfl ⟨by omega, by omega⟩ ⟨by omega, by omega⟩ (fun hc => ?_) (fun hc => ?_)
    · simp only [jc, decide_eq_true_eq] at hc
      omega
    obtain ⟨r1, r2⟩ := hrow (9 + j) (by omega) (by omega)
    have hdl := jdg_le W (9 + j) 13
    have hdeq : jdg W (9 + j) 13 = jdg V (9 + j) 13 := jdg_congr 13 fun e he => hf _ (by omega) (by omega) (by omega)
    have hWC : ∀ e, e < 13 → (W ((9 + j) * 13 + e)).natAbs ≤ C := fun e he => by
      rw [hf _ (by omega) (by omega) (by omega)]
      exact r2 e he
    obtain ⟨d, hd⟩ : ∃ d, jdg W (9 + j) 13 = d + 1 := ⟨jdg W (9 + j) 13 - 1, by omega⟩
    have t93 : ∀ (W1 : Nat → Int) (h1 : mj_H) (many ahead : Int) (e5 e6 : Option Value), jS hp q1 q2 q3 W1 h1 → (∀ s, s ≠ 652 → s ≠ 659 → s ≠ 660 → W1 s = V s) → 0 ≤ many → many ≤ j + 1 → -1 ≤ ahead → ahead ≤ 1 → mj_T (D + 5) mj_m217 93 [some (.ref q0), some (.int (jn way)), some (.int (jn many)), some (.int (jn ahead)), some (.int (jn ((9 + j : Nat) : Int))), e5, e6] [] h1 Q := by
      intro W1 h1 many ahead e5 e6 hs1 hf1 x1 x2 x3 x4
      refine mj_T.iinc (a := ((9 + j : Nat) : Int)) rfl rfl ?_
      refine mj_T.pl rfl rfl rfl rfl ?_
      rw [show ((9 + j : Nat) : Int) + 1 = ((9 + (j + 1) : Nat) : Int) by omega]
      exact ih (j + 1) W1 h1 many ahead e5 e6 (by omega) hs1 hf1 x1 (by omega) x3 x4
    have t70 : ∀ (W1 : Nat → Int) (h1 : mj_H) (z : Int), jS hp q1 q2 q3 W1 h1 → (∀ s, s ≠ 652 → s ≠ 659 → s ≠ 660 → W1 s = V s) → -1 ≤ z → z ≤ 1 → mj_T (D + 5) mj_m217 70 [some (.ref q0), some (.int (jn way)), some (.int (jn many)), some (.int (jn ahead)), some (.int (jn ((9 + j : Nat) : Int))), some (.int (jn (d : Int))), e6] [.int (jn z)] h1 Q := by
      intro W1 h1 z hs1 hf1 z1 z2
      iterate 2 refine mj_T.pl rfl rfl rfl rfl ?_
      refine mj_T.if0 (a := z) rfl ⟨by omega, by omega⟩ (fun hc1 => ?_) (fun hc1 => ?_)
      · iterate 2 refine mj_T.pl rfl rfl rfl rfl ?_
        refine mj_T.imul rfl ?_
        have hb : -1 ≤ ahead * z ∧ ahead * z ≤ 1 := by
          have c1 : z = -1 ∨ z = 0 ∨ z = 1 := by omega
          rcases c1 with c | c | c <;> subst c <;> omega
        refine mj_T.if0 (a := ahead * z) rfl ⟨by omega, by omega⟩ (fun hc2 => ?_) (fun hc2 => ?_)
        · iterate 2 refine mj_T.pl rfl rfl rfl rfl ?_
          exact t93 W1 h1 many z _ _ hs1 hf1 m1 (by omega) z1 z2
        · refine mj_T.iinc (a := many) rfl rfl ?_
          iterate 2 refine mj_T.pl rfl rfl rfl rfl ?_
          exact t93 W1 h1 (many + 1) z _ _ hs1 hf1 (by omega) (by omega) z1 z2
      · refine mj_T.pl rfl rfl rfl rfl ?_
        exact t93 W1 h1 many ahead _ _ hs1 hf1 m1 (by omega) n1 n2
    iterate 2 refine mj_T.pl rfl rfl rfl rfl ?_
    refine mj_T.call (ins := .invokevirtual 114) rfl rfl (Nat.le_of_ble_eq_true rfl) (Nat.le_of_ble_eq_true rfl) (by simp [mj_recv, jS_a G hs]) rfl (jp_degreeOf (D := D + 3) G (p := 9 + j) (by omega) hs) (fun v' h' hq' => ?_) (fun i h' hq' => by cases hq')
    cases hq'
    rw [hd, show ((d + 1 : Nat) : Int) - 1 = (d : Int) by omega]
    iterate 2 refine mj_T.pl rfl rfl rfl rfl ?_
    refine mj_T.if0 (a := way) rfl ⟨by omega, by omega⟩ (fun hc1 => ?_) (fun hc1 => ?_)
    · have t69 : ∀ (g : Int), (g = 1 ∨ g = -1) → mj_T (D + 5) mj_m217 69 [some (.ref q0), some (.int (jn way)), some (.int (jn many)), some (.int (jn ahead)), some (.int (jn ((9 + j : Nat) : Int))), some (.int (jn (d : Int))), e6] [.int (jn g), .int (jn (jsg (W ((9 + j) * 13 + d))))] h Q := by
        intro g hg
        refine mj_T.imul rfl ?_
        have hr := jsg_range (W ((9 + j) * 13 + d))
        exact t70 W h _ hs hf (by rcases hg with c | c <;> subst c <;> omega) (by rcases hg with c | c <;> subst c <;> omega)
      iterate 3 refine mj_T.pl rfl rfl rfl rfl ?_
      refine mj_T.call (ins := .invokestatic 104) rfl rfl (Nat.le_of_ble_eq_true rfl) (Nat.le_of_ble_eq_true rfl) rfl rfl (jq_slot (D := D + 4) (p := 9 + j) (i := d)) (fun v' h' hq' => ?_) (fun i h' hq' => by cases hq')
      cases hq'
      refine mj_T.call (ins := .invokevirtual 68) rfl rfl (Nat.le_of_ble_eq_true rfl) (Nat.le_of_ble_eq_true rfl) (by simp [mj_recv, jS_a G hs]) rfl (jS_sign (D := D + 4) G (s := (9 + j) * 13 + d) (by omega) hs) (fun v' h' hq' => ?_) (fun i h' hq' => by cases hq')
      cases hq'
      refine mj_T.pl rfl rfl rfl rfl ?_
      refine mj_T.if0 (a := way) rfl ⟨by omega, by omega⟩ (fun hc2 => ?_) (fun hc2 => ?_)
      · refine mj_T.pl rfl rfl rfl rfl ?_
        exact t69 1 (Or.inl rfl)
      · iterate 2 refine mj_T.pl rfl rfl rfl rfl ?_
        refine mj_T.irem (a := (d : Int)) (b := 2) rfl ⟨by omega, by omega⟩ ⟨by omega, by omega⟩ (by omega) ?_
        refine mj_T.pl rfl rfl rfl rfl ?_
        have ht : (d : Int).tmod 2 = ((d % 2 : Nat) : Int) := rfl
        refine mj_T.icmp (a := (d : Int).tmod 2) (b := 1) rfl ⟨by omega, by omega⟩ ⟨by omega, by omega⟩ (fun hc3 => ?_) (fun hc3 => ?_)
        · refine mj_T.pl rfl rfl rfl rfl ?_
          exact t69 1 (Or.inl rfl)
        · iterate 2 refine mj_T.pl rfl rfl rfl rfl ?_
          exact t69 (-1) (Or.inr rfl)
    · simp only [jc, Bool.not_eq_false', decide_eq_true_eq] at hc1
      obtain ⟨hK, hN, hx, hfit, hfit2⟩ := hw0 hc1
      iterate 2 refine mj_T.pl rfl rfl rfl rfl ?_
      refine mj_T.call (ins := .invokevirtual 162) rfl rfl (Nat.le_of_ble_eq_true rfl) (Nat.le_of_ble_eq_true rfl) (by simp [mj_recv, jS_a G hs]) rfl (jp_valueAt (D := D) (V := W) (p := 9 + j) G (by omega) (C := C) (x := x) hWC (by rw [hf _ (by decide) (by decide) (by decide)]; exact hK) (by rw [hf _ (by decide) (by decide) (by decide)]; exact hN) hx hfit hfit2 hs) (fun v' h1 hq' => ?_) (fun i h' hq' => by obtain ⟨_, _, _, _, _, _, _, h⟩ := hq'; cases h)
      obtain ⟨W1, _, hs1, k1, k2, k3, k4, hq'⟩ := hq'
      cases hq'
      refine mj_T.pl rfl rfl rfl rfl ?_
      have hr := jsg_range (W1 659)
      exact t70 W1 h1 _ hs1 (fun s x1 x2 x3 => by rw [k1 s x1 x2 x3, hf s x1 x2 x3]) hr.1 hr.2
theorem jp_changesAt (G : jG hp q0 q1 q2 q3 fs) (h7 : fs[7]? = some (.int (jn ((k + 1 : Nat) : Int)))) (hk : k ≤ 12) {way : Int} (hw : -1 ≤ way ∧ way ≤ 1) {C x : Nat} (hrow : (∀ p, 9 ≤ p → p ≤ 9 + k → 1 ≤ jdg V p 13 ∧ ∀ e, e < 13 → (V (p * 13 + e)).natAbs ≤ C)) (hw0 : way = 0 → (V 656).natAbs ≤ x ∧ (V 657).natAbs ≤ x ∧ 1 ≤ x ∧ 13 * (C * x ^ 12) < jB ^ 698 ∧ x ^ 12 < jB ^ 698) (hs : jS hp q1 q2 q3 V h) :
    mj_Ok (D + 6) 217 [.ref q0, .int (jn way)] h (fun r => ∃ (W : Nat → Int) (h' : mj_H) (z : Int), jS hp q1 q2 q3 W h' ∧ (∀ s, s ≠ 652 → s ≠ 659 → s ≠ 660 → W s = V s) ∧ 0 ≤ z ∧ z ≤ 13 ∧ r = (.inl (some (.int (jn z))), h')) := by
  refine mj_Ok.of (M := mj_m217) rfl rfl rfl ?_
  iterate 6 refine mj_T.pl rfl rfl rfl rfl ?_
  exact jp_ch (D := D) (V := V) G h7 hk hw hrow hw0 (fun W h z k1 k2 k3 k4 => ⟨W, h, z, k1, k2, k3, k4, rfl⟩) (k + 1) 0 V h 0 0 none none (by omega) hs (fun s _ _ _ => rfl) (by decide) (by decide) (by decide) (by decide)
theorem jp_rootsOf (G : jG hp q0 q1 q2 q3 fs) (h7 : fs[7]? = some (.int (jn ((k + 1 : Nat) : Int)))) (hk : k ≤ 12) {C : Nat} (hrow : (∀ p, 9 ≤ p → p ≤ 9 + k → 1 ≤ jdg V p 13 ∧ ∀ e, e < 13 → (V (p * 13 + e)).natAbs ≤ C)) (hs : jS hp q1 q2 q3 V h) :
    mj_Ok (D + 7) 218 [.ref q0] h (fun r => ∃ (W : Nat → Int) (h' : mj_H) (z : Int), jS hp q1 q2 q3 W h' ∧ (∀ s, s ≠ 652 → s ≠ 659 → s ≠ 660 → W s = V s) ∧ -13 ≤ z ∧ z ≤ 13 ∧ r = (.inl (some (.int (jn z))), h')) := by
  refine mj_Ok.of (M := mj_m218) rfl rfl rfl ?_
  iterate 2 refine mj_T.pl rfl rfl rfl rfl ?_
  refine mj_T.call (ins := .invokevirtual 165) rfl rfl (Nat.le_of_ble_eq_true rfl) (Nat.le_of_ble_eq_true rfl) (by simp [mj_recv, jS_a G hs]) rfl (jp_changesAt (D := D) (V := V) G h7 hk (way := -1) (x := 1) (by decide) hrow (fun e => absurd e (by decide)) hs) (fun v' h1 hq' => ?_) (fun i h' hq' => by obtain ⟨_, _, _, _, _, _, _, h⟩ := hq'; cases h)
  obtain ⟨W1, _, z1, hs1, k1, k2, k3, hq'⟩ := hq'
  cases hq'
  iterate 2 refine mj_T.pl rfl rfl rfl rfl ?_
  refine mj_T.call (ins := .invokevirtual 165) rfl rfl (Nat.le_of_ble_eq_true rfl) (Nat.le_of_ble_eq_true rfl) (by simp [mj_recv, jS_a G hs1]) rfl (jp_changesAt (D := D) (V := W1) G h7 hk (way := 1) (x := 1) (by decide) (fun p p1 p2 => by obtain ⟨r1, r2⟩ := hrow p p1 p2; exact ⟨by rw [jdg_congr 13 fun e he => k1 (p * 13 + e) (by omega) (by omega) (by omega)]; exact r1, fun e he => by rw [k1 _ (by omega) (by omega) (by omega)]; exact r2 e he⟩) (fun e => absurd e (by decide)) hs1) (fun v' h2 hq' => ?_) (fun i h' hq' => by obtain ⟨_, _, _, _, _, _, _, h⟩ := hq'; cases h)
  obtain ⟨W2, _, z2, hs2, k4, k5, k6, hq'⟩ := hq'
  cases hq'
  refine mj_T.isub rfl ?_
  exact mj_T.ret rfl rfl rfl ⟨W2, h2, z1 - z2, hs2, fun s x1 x2 x3 => by rw [k4 s x1 x2 x3, k1 s x1 x2 x3], by omega, by omega, rfl⟩
end JCH
/-! The reference's step and closing in. -/
theorem jrows_keep {V W : Nat → Int} {k C : Nat} (hrow : (∀ p, 9 ≤ p → p ≤ 9 + k → 1 ≤ jdg V p 13 ∧ ∀ e, e < 13 → (V (p * 13 + e)).natAbs ≤ C)) (hk : k ≤ 12) (hf : ∀ s, s < 650 → W s = V s) : (∀ p, 9 ≤ p → p ≤ 9 + k → 1 ≤ jdg W p 13 ∧ ∀ e, e < 13 → (W (p * 13 + e)).natAbs ≤ C) := fun p p1 p2 => by
  obtain ⟨r1, r2⟩ := hrow p p1 p2
  refine ⟨by rw [jdg_congr 13 fun e he => hf (p * 13 + e) (by omega)]; exact r1, fun e he => ?_⟩
  rw [hf _ (by omega)]
  exact r2 e he
theorem jls_room : jB ^ 698 ≤ 2 ^ 20940 := by decide +kernel
theorem jls_bits {b M : Nat} (h : 2 ^ b ≤ M) (hM : M < jB ^ 698) : b ≤ 20940 := by
  rcases Nat.lt_or_ge 20940 b with c | c
  · have h1 : 2 ^ 20940 ≤ 2 ^ b := Nat.pow_le_pow_right (by decide) (by omega)
    have := jls_room
    omega
  · exact c
section JLS
variable {D : Nat} {hp h : mj_H} {q0 q1 q2 q3 : Nat} {fs : List Value} {V : Nat → Int} {k : Nat}
theorem jp_ls1 (G : jG hp q0 q1 q2 q3 fs) {C d : Nat} (hd : d < 13) (hC : ∀ e, e < 13 → (V (9 * 13 + e)).natAbs ≤ C) {Q : mj_R → Prop}
    (hend : ∀ (W : Nat → Int) (h : mj_H), jS hp q1 q2 q3 W h → (∀ s, s ≠ 661 → W s = V s) → (W 661).natAbs ≤ C → mj_T (D + 4) mj_m219 57 [some (.ref q0), some (.int (jn (d : Int))), some (.int (jn (d : Int)))] [] h Q) :
    ∀ (m e : Nat) (W : Nat → Int) (h : mj_H), e + m = d → jS hp q1 q2 q3 W h → (∀ s, s ≠ 661 → W s = V s) → (W 661).natAbs ≤ C → mj_T (D + 4) mj_m219 17 [some (.ref q0), some (.int (jn (d : Int))), some (.int (jn (e : Int)))] [] h Q := by
  intro m
  induction m with
  | zero =>
    intro e W h he hs hf hc1
    have he2 : e = d := by omega
    subst he2
    iterate 2 refine mj_T.pl rfl rfl rfl rfl ?_
    refine mj_T.icmp (a := (e : Int)) (b := (e : Int)) rfl ⟨by omega, by omega⟩ ⟨by omega, by omega⟩ (fun hc => ?_) (fun hc => ?_)
    · exact hend W h hs hf hc1
    · simp only [jc, decide_eq_false_iff_not] at hc
      omega
  | succ m ih =>
    intro e W h he hs hf hc1
    iterate 2 refine mj_T.pl rfl rfl rfl rfl ?_
    refine mj_T.icmp (a := (e : Int)) (b := (d : Int)) rfl ⟨by omega, by omega⟩ ⟨by omega, by omega⟩ (fun hc => ?_) (fun hc => ?_)
    · simp only [jc, decide_eq_true_eq] at hc
      omega
    have t51 : ∀ (W1 : Nat → Int) (h1 : mj_H), jS hp q1 q2 q3 W1 h1 → (∀ s, s ≠ 661 → W1 s = V s) → (W1 661).natAbs ≤ C → mj_T (D + 4) mj_m219 51 [some (.ref q0), some (.int (jn (d : Int))), some (.int (jn (e : Int)))] [] h1 Q := fun W1 h1 hs1 hf1 hc2 => by
      refine mj_T.iinc (a := (e : Int)) rfl rfl ?_
      refine mj_T.pl rfl rfl rfl rfl ?_
      exact ih (e + 1) W1 h1 (by omega) hs1 hf1 hc2
    iterate 3 refine mj_T.pl rfl rfl rfl rfl ?_
    refine mj_T.call (ins := .invokestatic 104) rfl rfl (Nat.le_of_ble_eq_true rfl) (Nat.le_of_ble_eq_true rfl) rfl rfl (jq_slot (D := D + 3) (p := 9) (i := e)) (fun v' h' hq' => ?_) (fun i h' hq' => by cases hq')
    cases hq'
    refine mj_T.pl rfl rfl rfl rfl ?_
    refine mj_T.call (ins := .invokevirtual 71) rfl rfl (Nat.le_of_ble_eq_true rfl) (Nat.le_of_ble_eq_true rfl) (by simp [mj_recv, jS_a G hs]) rfl (jS_cmp (D := D + 1) G (s := 9 * 13 + e) (t := 661) (by omega) (by decide) hs) (fun v' h' hq' => ?_) (fun i h' hq' => by cases hq')
    cases hq'
    have hr := jcm_range (W (9 * 13 + e)).natAbs (W 661).natAbs
    refine mj_T.if0 (a := jcm (W (9 * 13 + e)).natAbs (W 661).natAbs) rfl ⟨by omega, by omega⟩ (fun hc2 => ?_) (fun hc2 => ?_)
    · exact t51 W h hs hf hc1
    iterate 4 refine mj_T.pl rfl rfl rfl rfl ?_
    refine mj_T.call (ins := .invokestatic 104) rfl rfl (Nat.le_of_ble_eq_true rfl) (Nat.le_of_ble_eq_true rfl) rfl rfl (jq_slot (D := D + 3) (p := 9) (i := e)) (fun v' h' hq' => ?_) (fun i h' hq' => by cases hq')
    cases hq'
    refine mj_T.call (ins := .invokevirtual 84) rfl rfl (Nat.le_of_ble_eq_true rfl) (Nat.le_of_ble_eq_true rfl) (by simp [mj_recv, jS_a G hs]) rfl (jS_copies (D := D + 2) G (to := 661) (s := 9 * 13 + e) (by decide) (by omega) hs) (fun v' h1 hq' => ?_) (fun i h' hq' => by obtain ⟨_, _, h⟩ := hq'; cases h)
    obtain ⟨_, hs1, hq'⟩ := hq'
    cases hq'
    have a1 : jvu W 661 (W (9 * 13 + e)) 661 = W (9 * 13 + e) := jvu_at _ _ _
    have a2 : ∀ s, s ≠ 661 → jvu W 661 (W (9 * 13 + e)) s = W s := fun s hne => jvu_ne _ _ _ hne
    generalize jvu W 661 (W (9 * 13 + e)) = W1 at hs1 a1 a2
    exact t51 W1 h1 hs1 (fun s hne => by rw [a2 s hne, hf s hne]) (by rw [a1, hf _ (by omega)]; exact hC e (by omega))
theorem jp_ls2 (G : jG hp q0 q1 q2 q3 fs) {M : Nat} (hM : 2 * M < jB ^ 698) (hM1 : 1 ≤ M) {z1 : Int} {Q : mj_R → Prop}
    (hend : ∀ (W : Nat → Int) (h : mj_H) (b : Nat), jS hp q1 q2 q3 W h → (∀ s, s ≠ 658 → W s = V s) → (W 658).natAbs ≤ 2 * M → b ≤ 20940 → Q (.inl (some (.int (jn (b : Int)))), h)) (hP : (V 653).natAbs ≤ M) :
    ∀ (d b : Nat) (W : Nat → Int) (h : mj_H), (V 653).natAbs - 2 ^ b ≤ d → jS hp q1 q2 q3 W h → (∀ s, s ≠ 658 → W s = V s) → W 658 = ((2 ^ b : Nat) : Int) → 2 ^ b ≤ 2 * M → mj_T (D + 4) mj_m219 141 [some (.ref q0), some (.int (jn z1)), some (.int (jn (b : Int)))] [] h Q := by
  intro d
  induction d with
  | zero =>
    intro b W h hd hs hf hb hbM
    iterate 3 refine mj_T.pl rfl rfl rfl rfl ?_
    refine mj_T.call (ins := .invokevirtual 71) rfl rfl (Nat.le_of_ble_eq_true rfl) (Nat.le_of_ble_eq_true rfl) (by simp [mj_recv, jS_a G hs]) rfl (jS_cmp (D := D + 1) G (s := 658) (t := 653) (by decide) (by decide) hs) (fun v' h' hq' => ?_) (fun i h' hq' => by cases hq')
    cases hq'
    have hr := jcm_range (W 658).natAbs (W 653).natAbs
    refine mj_T.if0 (a := jcm (W 658).natAbs (W 653).natAbs) rfl ⟨by omega, by omega⟩ (fun hc2 => ?_) (fun hc2 => ?_)
    · refine mj_T.pl rfl rfl rfl rfl ?_
      exact mj_T.ret rfl rfl rfl (hend W h b hs hf (by rw [hb, Int.natAbs_natCast]; exact hbM) (jls_bits hbM hM))
    · simp only [jc, decide_eq_false_iff_not] at hc2
      refine absurd ?_ hc2
      rw [hb, Int.natAbs_natCast, hf 653 (by decide)]
      unfold jcm
      rw [if_neg (by omega)]
      split <;> omega
  | succ d ih =>
    intro b W h hd hs hf hb hbM
    iterate 3 refine mj_T.pl rfl rfl rfl rfl ?_
    refine mj_T.call (ins := .invokevirtual 71) rfl rfl (Nat.le_of_ble_eq_true rfl) (Nat.le_of_ble_eq_true rfl) (by simp [mj_recv, jS_a G hs]) rfl (jS_cmp (D := D + 1) G (s := 658) (t := 653) (by decide) (by decide) hs) (fun v' h' hq' => ?_) (fun i h' hq' => by cases hq')
    cases hq'
    have hr := jcm_range (W 658).natAbs (W 653).natAbs
    refine mj_T.if0 (a := jcm (W 658).natAbs (W 653).natAbs) rfl ⟨by omega, by omega⟩ (fun hc2 => ?_) (fun hc2 => ?_)
    · refine mj_T.pl rfl rfl rfl rfl ?_
      exact mj_T.ret rfl rfl rfl (hend W h b hs hf (by rw [hb, Int.natAbs_natCast]; exact hbM) (jls_bits hbM hM))
    simp only [jc, decide_eq_false_iff_not] at hc2
    have hlt : 2 ^ b < (V 653).natAbs := by
      refine Classical.byContradiction fun hn => hc2 ?_
      rw [hb, Int.natAbs_natCast, hf 653 (by decide)]
      unfold jcm
      rw [if_neg (by omega)]
      split <;> omega
    have hpos : 0 < 2 ^ b := Nat.pow_pos (by decide)
    have e2 : W 658 + 1 * W 658 = ((2 ^ (b + 1) : Nat) : Int) := by
      rw [hb, Nat.pow_succ]
      omega
    have e3 : 2 ^ (b + 1) = 2 ^ b * 2 := Nat.pow_succ 2 b
    iterate 5 refine mj_T.pl rfl rfl rfl rfl ?_
    refine mj_T.call (ins := .invokevirtual 107) rfl rfl (Nat.le_of_ble_eq_true rfl) (Nat.le_of_ble_eq_true rfl) (by simp [mj_recv, jS_a G hs]) rfl (jS_adds (D := D) (V := W) G (to := 658) (a := 658) (b := 658) (f := 1) (by decide) (by decide) (by decide) (Or.inl rfl) (jnl_of_lt (M := 2 * M) (by rw [e2, Int.natAbs_natCast]; omega) hM) hs) (fun v' h1 hq' => ?_) (fun i h' hq' => by obtain ⟨_, _, h⟩ := hq'; cases h)
    obtain ⟨_, hs1, hq'⟩ := hq'
    cases hq'
    have a1 : jvu W 658 (W 658 + 1 * W 658) 658 = W 658 + 1 * W 658 := jvu_at _ _ _
    have a2 : ∀ s, s ≠ 658 → jvu W 658 (W 658 + 1 * W 658) s = W s := fun s hne => jvu_ne _ _ _ hne
    generalize jvu W 658 (W 658 + 1 * W 658) = W1 at hs1 a1 a2
    refine mj_T.iinc (a := (b : Int)) rfl rfl ?_
    refine mj_T.pl rfl rfl rfl rfl ?_
    exact ih (b + 1) W1 h1 (by omega) hs1 (fun s hne => by rw [a2 s hne, hf s hne]) (by rw [a1, e2]) (by omega)
theorem jp_laysStep (G : jG hp q0 q1 q2 q3 fs) {C x : Nat} (hd1 : 1 ≤ jdg V 9 13) (hC : ∀ e, e < 13 → (V (9 * 13 + e)).natAbs ≤ C) (hN : (V 657).natAbs ≤ x) (hx : 1 ≤ x) (hfit : 2 * ((C + 2) * x) < jB ^ 698) (hs : jS hp q1 q2 q3 V h) :
    mj_Ok (D + 5) 219 [.ref q0] h (fun r => ∃ (W : Nat → Int) (h' : mj_H) (b : Nat), jS hp q1 q2 q3 W h' ∧ (∀ s, s ≠ 652 → s ≠ 653 → s ≠ 654 → s ≠ 658 → s ≠ 661 → W s = V s) ∧ (W 658).natAbs ≤ 2 * ((C + 2) * x) ∧ b ≤ 20940 ∧ r = (.inl (some (.int (jn (b : Int)))), h')) := by
  have hdl := jdg_le V 9 13
  have hlead := jdg_ne V 9 13 hd1
  obtain ⟨d, hd⟩ : ∃ d, jdg V 9 13 = d + 1 := ⟨jdg V 9 13 - 1, by omega⟩
  rw [hd, Nat.add_sub_cancel] at hlead
  have hCx : C + 2 ≤ (C + 2) * x := Nat.le_mul_of_pos_right _ hx
  refine mj_Ok.of (M := mj_m219) rfl rfl rfl ?_
  iterate 2 refine mj_T.pl rfl rfl rfl rfl ?_
  refine mj_T.call (ins := .invokevirtual 114) rfl rfl (Nat.le_of_ble_eq_true rfl) (Nat.le_of_ble_eq_true rfl) (by simp [mj_recv, jS_a G hs]) rfl (jp_degreeOf (D := D + 2) G (p := 9) (by decide) hs) (fun v' h' hq' => ?_) (fun i h' hq' => by cases hq')
  cases hq'
  rw [hd, show ((d + 1 : Nat) : Int) - 1 = (d : Int) by omega]
  iterate 4 refine mj_T.pl rfl rfl rfl rfl ?_
  refine mj_T.call (ins := .invokevirtual 45) rfl rfl (Nat.le_of_ble_eq_true rfl) (Nat.le_of_ble_eq_true rfl) (by simp [mj_recv, jS_a G hs]) rfl (jS_sets (D := D + 3) G (s := 661) (v := 0) (by decide) ⟨by decide, by decide⟩ hs) (fun v' h1 hq' => ?_) (fun i h' hq' => by obtain ⟨_, _, h⟩ := hq'; cases h)
  obtain ⟨_, hs1, hq'⟩ := hq'
  cases hq'
  have a1 : jvu V 661 (0) 661 = 0 := jvu_at _ _ _
  have a2 : ∀ s, s ≠ 661 → jvu V 661 (0) s = V s := fun s hne => jvu_ne _ _ _ hne
  generalize jvu V 661 (0) = W1 at hs1 a1 a2
  iterate 2 refine mj_T.pl rfl rfl rfl rfl ?_
  refine jp_ls1 (D := D) (V := V) G (C := C) (d := d) (by omega) hC (fun W2 h2 hs2 b1 b2 => ?_) d 0 W1 h1 (by omega) hs1 a2 (by rw [a1]; exact Nat.zero_le _)
  have t94 : ∀ (W3 : Nat → Int) (h3 : mj_H), jS hp q1 q2 q3 W3 h3 → (∀ s, s ≠ 653 → s ≠ 654 → s ≠ 661 → W3 s = V s) → (W3 653).natAbs ≤ C → mj_T (D + 4) mj_m219 94 [some (.ref q0), some (.int (jn (d : Int))), some (.int (jn (d : Int)))] [] h3 (fun r => ∃ (W : Nat → Int) (h' : mj_H) (b : Nat), jS hp q1 q2 q3 W h' ∧ (∀ s, s ≠ 652 → s ≠ 653 → s ≠ 654 → s ≠ 658 → s ≠ 661 → W s = V s) ∧ (W 658).natAbs ≤ 2 * ((C + 2) * x) ∧ b ≤ 20940 ∧ r = (.inl (some (.int (jn (b : Int)))), h')) := by
    intro W3 h3 hs3 c1 c2
    iterate 3 refine mj_T.pl rfl rfl rfl rfl ?_
    refine mj_T.call (ins := .invokevirtual 45) rfl rfl (Nat.le_of_ble_eq_true rfl) (Nat.le_of_ble_eq_true rfl) (by simp [mj_recv, jS_a G hs3]) rfl (jS_sets (D := D + 3) G (s := 652) (v := 2) (by decide) ⟨by decide, by decide⟩ hs3) (fun v' h4 hq' => ?_) (fun i h' hq' => by obtain ⟨_, _, h⟩ := hq'; cases h)
    obtain ⟨_, hs4, hq'⟩ := hq'
    cases hq'
    have d1 : jvu W3 652 (2) 652 = 2 := jvu_at _ _ _
    have d2 : ∀ s, s ≠ 652 → jvu W3 652 (2) s = W3 s := fun s hne => jvu_ne _ _ _ hne
    generalize jvu W3 652 (2) = W4 at hs4 d1 d2
    have v1 : (W4 653 + 1 * W4 652).natAbs ≤ C + 2 := by
      rw [d1, d2 653 (by decide)]
      omega
    iterate 5 refine mj_T.pl rfl rfl rfl rfl ?_
    refine mj_T.call (ins := .invokevirtual 107) rfl rfl (Nat.le_of_ble_eq_true rfl) (Nat.le_of_ble_eq_true rfl) (by simp [mj_recv, jS_a G hs4]) rfl (jS_adds (D := D) (V := W4) G (to := 653) (a := 653) (b := 652) (f := 1) (by decide) (by decide) (by decide) (Or.inl rfl) (jnl_of_lt (M := 2 * ((C + 2) * x)) (by omega) hfit) hs4) (fun v' h5 hq' => ?_) (fun i h' hq' => by obtain ⟨_, _, h⟩ := hq'; cases h)
    obtain ⟨_, hs5, hq'⟩ := hq'
    cases hq'
    have e1 : jvu W4 653 (W4 653 + 1 * W4 652) 653 = W4 653 + 1 * W4 652 := jvu_at _ _ _
    have e2 : ∀ s, s ≠ 653 → jvu W4 653 (W4 653 + 1 * W4 652) s = W4 s := fun s hne => jvu_ne _ _ _ hne
    generalize jvu W4 653 (W4 653 + 1 * W4 652) = W5 at hs5 e1 e2
    have v2 : (W5 653 * W5 657).natAbs ≤ (C + 2) * x := by
      rw [Int.natAbs_mul, e1, e2 657 (by decide), d2 657 (by decide), c1 657 (by decide) (by decide) (by decide)]
      exact Nat.mul_le_mul v1 hN
    iterate 4 refine mj_T.pl rfl rfl rfl rfl ?_
    refine mj_T.call (ins := .invokevirtual 117) rfl rfl (Nat.le_of_ble_eq_true rfl) (Nat.le_of_ble_eq_true rfl) (by simp [mj_recv, jS_a G hs5]) rfl (jS_mul (D := D + 2) (V := W5) G (to := 653) (a := 653) (b := 657) (by decide) (by decide) (by decide) (jnl_of_lt (M := 2 * ((C + 2) * x)) (by omega) hfit) hs5) (fun v' h6 hq' => ?_) (fun i h' hq' => by obtain ⟨_, _, h⟩ := hq'; cases h)
    obtain ⟨_, hs6, hq'⟩ := hq'
    cases hq'
    have f1 : jvu W5 653 (W5 653 * W5 657) 653 = W5 653 * W5 657 := jvu_at _ _ _
    have f2 : ∀ s, s ≠ 653 → jvu W5 653 (W5 653 * W5 657) s = W5 s := fun s hne => jvu_ne _ _ _ hne
    generalize jvu W5 653 (W5 653 * W5 657) = W6 at hs6 f1 f2
    iterate 3 refine mj_T.pl rfl rfl rfl rfl ?_
    refine mj_T.call (ins := .invokevirtual 45) rfl rfl (Nat.le_of_ble_eq_true rfl) (Nat.le_of_ble_eq_true rfl) (by simp [mj_recv, jS_a G hs6]) rfl (jS_sets (D := D + 3) G (s := 658) (v := 1) (by decide) ⟨by decide, by decide⟩ hs6) (fun v' h7 hq' => ?_) (fun i h' hq' => by obtain ⟨_, _, h⟩ := hq'; cases h)
    obtain ⟨_, hs7, hq'⟩ := hq'
    cases hq'
    have g1 : jvu W6 658 (1) 658 = 1 := jvu_at _ _ _
    have g2 : ∀ s, s ≠ 658 → jvu W6 658 (1) s = W6 s := fun s hne => jvu_ne _ _ _ hne
    generalize jvu W6 658 (1) = W7 at hs7 g1 g2
    iterate 2 refine mj_T.pl rfl rfl rfl rfl ?_
    exact jp_ls2 (D := D) (V := W7) G (M := (C + 2) * x) hfit (by omega) (fun W h b k1 k2 k3 k4 => ⟨W, h, b, k1, fun s x1 x2 x3 x4 x5 => by rw [k2 s x4, g2 s x4, f2 s x2, e2 s x2, d2 s x1, c1 s x2 x3 x5], k3, k4, rfl⟩) (by rw [g2 653 (by decide), f1]; exact v2) _ 0 W7 h7 (Nat.le_refl _) hs7 (fun s _ => rfl) (by rw [g1]; rfl) (by omega)
  iterate 6 refine mj_T.pl rfl rfl rfl rfl ?_
  refine mj_T.call (ins := .invokestatic 104) rfl rfl (Nat.le_of_ble_eq_true rfl) (Nat.le_of_ble_eq_true rfl) rfl rfl (jq_slot (D := D + 3) (p := 9) (i := d)) (fun v' h' hq' => ?_) (fun i h' hq' => by cases hq')
  cases hq'
  have v9 : W2 (9 * 13 + d) = V (9 * 13 + d) := b1 _ (by omega)
  refine mj_T.call (ins := .invokevirtual 101) rfl rfl (Nat.le_of_ble_eq_true rfl) (Nat.le_of_ble_eq_true rfl) (by simp [mj_recv, jS_a G hs2]) rfl (jS_cuts (D := D) (V := W2) G (q := 653) (r := 654) (a := 661) (b := 9 * 13 + d) (by decide) (by decide) (by decide) (by omega) (by decide) (by decide) (by omega) (by decide) (by rw [v9]; exact hlead) hs2) (fun v' h3 hq' => ?_) (fun i h' hq' => by obtain ⟨_, _, h⟩ := hq'; cases h)
  obtain ⟨_, hs3, hq'⟩ := hq'
  cases hq'
  have c1 : jvu (jvu W2 653 ((W2 661).tdiv (W2 (9 * 13 + d)))) 654 ((W2 661).tmod (W2 (9 * 13 + d))) 653 = (W2 661).tdiv (W2 (9 * 13 + d)) := by rw [jvu_ne _ _ _ (by decide), jvu_at]
  have c2 : ∀ s, s ≠ 653 → s ≠ 654 → jvu (jvu W2 653 ((W2 661).tdiv (W2 (9 * 13 + d)))) 654 ((W2 661).tmod (W2 (9 * 13 + d))) s = W2 s := fun s x1 x2 => by rw [jvu_ne _ _ _ x2, jvu_ne _ _ _ x1]
  generalize jvu (jvu W2 653 ((W2 661).tdiv (W2 (9 * 13 + d)))) 654 ((W2 661).tmod (W2 (9 * 13 + d))) = W3 at hs3 c1 c2
  have c3 : (W3 653).natAbs ≤ C := by
    rw [c1, Int.natAbs_tdiv]
    exact Nat.le_trans (Nat.div_le_self _ _) b2
  iterate 2 refine mj_T.pl rfl rfl rfl rfl ?_
  refine mj_T.call (ins := .invokevirtual 68) rfl rfl (Nat.le_of_ble_eq_true rfl) (Nat.le_of_ble_eq_true rfl) (by simp [mj_recv, jS_a G hs3]) rfl (jS_sign (D := D + 3) G (s := 653) (by decide) hs3) (fun v' h' hq' => ?_) (fun i h' hq' => by cases hq')
  cases hq'
  have hr := jsg_range (W3 653)
  refine mj_T.if0 (a := jsg (W3 653)) rfl ⟨by omega, by omega⟩ (fun hc => ?_) (fun hc => ?_)
  · exact t94 W3 h3 hs3 (fun s x1 x2 x3 => by rw [c2 s x1 x2, b1 s x3]) c3
  simp only [jc, Bool.not_eq_false', decide_eq_true_eq, decide_eq_false_iff_not] at hc
  have hneg : W3 653 < 0 := by
    rcases (show W3 653 < 0 ∨ W3 653 = 0 ∨ 0 < W3 653 by omega) with c | c | c
    · exact c
    · rw [c] at hc
      exact absurd (by decide) hc
    · rw [jsg_pos c] at hc
      exact absurd (by decide) hc
  refine mj_T.pl rfl rfl rfl rfl ?_
  refine jS_gb G hs3 rfl ?_
  iterate 2 refine mj_T.pl rfl rfl rfl rfl ?_
  refine mj_T.eq (st2 := [.int (jn (jsg ((W3 653).natAbs : Int))), .int (jn ((653 * 702 : Nat) : Int)), .ref q1]) ?_ rfl rfl (by rw [jsg_pos (by omega)]; rfl) rfl
  refine jS_st G hs3 (s := 653) (w := ((W3 653).natAbs : Int)) (by decide) (Int.natAbs_natCast _) rfl (fun h4 hs4 => ?_)
  exact t94 _ h4 hs4 (fun s x1 x2 x3 => by rw [jvu_ne _ _ _ x1, c2 s x1 x2, b1 s x3]) (by rw [jvu_at, Int.natAbs_natCast]; exact c3)
end JLS
/-! The reference's closing in, and the told number. -/
section JCL
variable {D : Nat} {hp h : mj_H} {q0 q1 q2 q3 : Nat} {fs : List Value} {V : Nat → Int} {k : Nat}
theorem jp_cl (G : jG hp q0 q1 q2 q3 fs) (h7 : fs[7]? = some (.int (jn ((k + 1 : Nat) : Int)))) (hk : k ≤ 12) {root first : Int} (hr : jr root) (hf1 : 0 ≤ first ∧ first ≤ 13) {bits : Nat} (hb : bits ≤ 20940) {Cr y : Nat} (hrow : (∀ p, 9 ≤ p → p ≤ 9 + k → 1 ≤ jdg V p 13 ∧ ∀ e, e < 13 → (V (p * 13 + e)).natAbs ≤ Cr)) (hN : (V 657).natAbs ≤ y) (hy : 1 ≤ y) (hfit : 13 * (Cr * y ^ 12) < jB ^ 698) (hfit2 : y ^ 12 < jB ^ 698) {Q : mj_R → Prop}
    (hend : ∀ (W : Nat → Int) (h : mj_H), jS hp q1 q2 q3 W h → (∀ s, s ≠ 652 → s ≠ 653 → s ≠ 654 → s ≠ 656 → s ≠ 658 → s ≠ 659 → s ≠ 660 → s ≠ 661 → s ≠ 662 → W s = V s) → (W 656).natAbs ≤ y → Q (.inl none, h)) :
    ∀ (m j : Nat) (W : Nat → Int) (h : mj_H) (e5 : Option Value), j + m = bits + 1 → jS hp q1 q2 q3 W h → (∀ s, s ≠ 652 → s ≠ 653 → s ≠ 654 → s ≠ 656 → s ≠ 658 → s ≠ 659 → s ≠ 660 → s ≠ 661 → s ≠ 662 → W s = V s) → W 662 = 2 → (W 656).natAbs + 2 * (W 658).natAbs ≤ y → mj_T (D + 6) mj_m220 46 [some (.ref q0), some (.int (jn root)), some (.int (jn first)), some (.int (jn (bits : Int))), some (.int (jn (j : Int))), e5] [] h Q := by
  have hyfit : y < jB ^ 698 := Nat.lt_of_le_of_lt (by have := Nat.pow_le_pow_right hy (show 1 ≤ 12 by decide); rwa [Nat.pow_one] at this) hfit2
  intro m
  induction m with
  | zero =>
    intro j W h e5 hj hs hf h62 hsz
    iterate 2 refine mj_T.pl rfl rfl rfl rfl ?_
    refine mj_T.icmp (a := (j : Int)) (b := (bits : Int)) rfl ⟨by omega, by omega⟩ ⟨by omega, by omega⟩ (fun hc => ?_) (fun hc => ?_)
    · exact mj_T.ret rfl rfl rfl (hend W h hs hf (by omega))
    · simp only [jc, Bool.not_eq_false', decide_eq_true_eq, decide_eq_false_iff_not] at hc
      omega
  | succ m ih =>
    intro j W h e5 hj hs hf h62 hsz
    iterate 2 refine mj_T.pl rfl rfl rfl rfl ?_
    refine mj_T.icmp (a := (j : Int)) (b := (bits : Int)) rfl ⟨by omega, by omega⟩ ⟨by omega, by omega⟩ (fun hc => ?_) (fun hc => ?_)
    · exact mj_T.ret rfl rfl rfl (hend W h hs hf (by omega))
    iterate 3 refine mj_T.pl rfl rfl rfl rfl ?_
    refine mj_T.call (ins := .invokevirtual 84) rfl rfl (Nat.le_of_ble_eq_true rfl) (Nat.le_of_ble_eq_true rfl) (by simp [mj_recv, jS_a G hs]) rfl (jS_copies (D := D + 4) G (to := 661) (s := 656) (by decide) (by decide) hs) (fun v' h1 hq' => ?_) (fun i h' hq' => by obtain ⟨_, _, h⟩ := hq'; cases h)
    obtain ⟨_, hs1, hq'⟩ := hq'
    cases hq'
    have a1 : jvu W 661 (W 656) 661 = W 656 := jvu_at _ _ _
    have a2 : ∀ s, s ≠ 661 → jvu W 661 (W 656) s = W s := fun s hne => jvu_ne _ _ _ hne
    generalize jvu W 661 (W 656) = W1 at hs1 a1 a2
    have v1 : (W1 656 + 1 * W1 658).natAbs ≤ y := by
      rw [a2 656 (by decide), a2 658 (by decide)]
      omega
    iterate 5 refine mj_T.pl rfl rfl rfl rfl ?_
    refine mj_T.call (ins := .invokevirtual 107) rfl rfl (Nat.le_of_ble_eq_true rfl) (Nat.le_of_ble_eq_true rfl) (by simp [mj_recv, jS_a G hs1]) rfl (jS_adds (D := D + 2) (V := W1) G (to := 656) (a := 656) (b := 658) (f := 1) (by decide) (by decide) (by decide) (Or.inl rfl) (jnl_of_lt v1 hyfit) hs1) (fun v' h2 hq' => ?_) (fun i h' hq' => by obtain ⟨_, _, h⟩ := hq'; cases h)
    obtain ⟨_, hs2, hq'⟩ := hq'
    cases hq'
    have b1 : jvu W1 656 (W1 656 + 1 * W1 658) 656 = W1 656 + 1 * W1 658 := jvu_at _ _ _
    have b2 : ∀ s, s ≠ 656 → jvu W1 656 (W1 656 + 1 * W1 658) s = W1 s := fun s hne => jvu_ne _ _ _ hne
    generalize jvu W1 656 (W1 656 + 1 * W1 658) = W2 at hs2 b1 b2
    have f2 : (∀ s, s ≠ 652 → s ≠ 653 → s ≠ 654 → s ≠ 656 → s ≠ 658 → s ≠ 659 → s ≠ 660 → s ≠ 661 → s ≠ 662 → W2 s = V s) := fun s x1 x2 x3 x4 x5 x6 x7 x8 x9 => by rw [b2 s x4, a2 s x8, hf s x1 x2 x3 x4 x5 x6 x7 x8 x9]
    have r2 := jrows_keep hrow hk (W := W2) (fun s hlt => f2 s (by omega) (by omega) (by omega) (by omega) (by omega) (by omega) (by omega) (by omega) (by omega))
    have k2 : (W2 656).natAbs ≤ y := by rw [b1]; exact v1
    have n2 : (W2 657).natAbs ≤ y := by rw [f2 657 (by decide) (by decide) (by decide) (by decide) (by decide) (by decide) (by decide) (by decide) (by decide)]; exact hN
    iterate 2 refine mj_T.pl rfl rfl rfl rfl ?_
    refine mj_T.call (ins := .invokevirtual 162) rfl rfl (Nat.le_of_ble_eq_true rfl) (Nat.le_of_ble_eq_true rfl) (by simp [mj_recv, jS_a G hs2]) rfl (jp_valueAt (D := D + 1) (V := W2) (p := 9) G (by decide) (C := Cr) (x := y) (r2 9 (by omega) (by omega)).2 k2 n2 hy hfit hfit2 hs2) (fun v' h3 hq' => ?_) (fun i h' hq' => by obtain ⟨_, _, _, _, _, _, _, h⟩ := hq'; cases h)
    obtain ⟨W3, _, hs3, c1, c2, c3, c4, hq'⟩ := hq'
    cases hq'
    have r3 := jrows_keep r2 hk (W := W3) (fun s hlt => c1 s (by omega) (by omega) (by omega))
    have t90 : ∀ (z : Int), 0 ≤ z → z ≤ 1 → mj_T (D + 6) mj_m220 90 [some (.ref q0), some (.int (jn root)), some (.int (jn first)), some (.int (jn (bits : Int))), some (.int (jn (j : Int))), e5] [.int (jn z)] h3 Q := by
      intro z z1 z2
      iterate 4 refine mj_T.pl rfl rfl rfl rfl ?_
      refine mj_T.call (ins := .invokevirtual 165) rfl rfl (Nat.le_of_ble_eq_true rfl) (Nat.le_of_ble_eq_true rfl) (by simp [mj_recv, jS_a G hs3]) rfl (jp_changesAt (D := D) (V := W3) G h7 hk (way := 0) (x := y) (by decide) r3 (fun _ => ⟨by rw [c1 656 (by decide) (by decide) (by decide)]; exact k2, by rw [c1 657 (by decide) (by decide) (by decide)]; exact n2, hy, hfit, hfit2⟩) hs3) (fun v' h4 hq' => ?_) (fun i h' hq' => by obtain ⟨_, _, _, _, _, _, _, h⟩ := hq'; cases h)
      obtain ⟨W4, _, zc, hs4, d1, d2, d3, hq'⟩ := hq'
      cases hq'
      refine mj_T.isub rfl ?_
      refine mj_T.pl rfl rfl rfl rfl ?_
      refine mj_T.isub rfl ?_
      refine mj_T.pl rfl rfl rfl rfl ?_
      have g4 : (∀ s, s ≠ 652 → s ≠ 653 → s ≠ 654 → s ≠ 656 → s ≠ 658 → s ≠ 659 → s ≠ 660 → s ≠ 661 → s ≠ 662 → W4 s = V s) := fun s x1 x2 x3 x4 x5 x6 x7 x8 x9 => by rw [d1 s x1 x6 x7, c1 s x1 x6 x7, f2 s x1 x2 x3 x4 x5 x6 x7 x8 x9]
      have m4 : ∀ s, s ≠ 652 → s ≠ 659 → s ≠ 660 → s ≠ 656 → W4 s = W1 s := fun s x1 x6 x7 x8 => by rw [d1 s x1 x6 x7, c1 s x1 x6 x7, b2 s x8]
      have k4 : W4 656 = W1 656 + 1 * W1 658 := by rw [d1 656 (by decide) (by decide) (by decide), c1 656 (by decide) (by decide) (by decide), b1]
      have t116 : ∀ (W5 : Nat → Int) (h5 : mj_H), jS hp q1 q2 q3 W5 h5 → (∀ s, s ≠ 652 → s ≠ 653 → s ≠ 654 → s ≠ 656 → s ≠ 658 → s ≠ 659 → s ≠ 660 → s ≠ 661 → s ≠ 662 → W5 s = V s) → W5 662 = 2 → W5 658 = W 658 → (W5 656).natAbs ≤ (W 656).natAbs + (W 658).natAbs → mj_T (D + 6) mj_m220 116 [some (.ref q0), some (.int (jn root)), some (.int (jn first)), some (.int (jn (bits : Int))), some (.int (jn (j : Int))), some (.int (jn z))] [] h5 Q := by
        intro W5 h5 hs5 g5 y2 y3 y4
        iterate 5 refine mj_T.pl rfl rfl rfl rfl ?_
        refine mj_T.call (ins := .invokevirtual 101) rfl rfl (Nat.le_of_ble_eq_true rfl) (Nat.le_of_ble_eq_true rfl) (by simp [mj_recv, jS_a G hs5]) rfl (jS_cuts (D := D + 2) (V := W5) G (q := 653) (r := 654) (a := 658) (b := 662) (by decide) (by decide) (by decide) (by decide) (by decide) (by decide) (by decide) (by decide) (by rw [y2]; decide) hs5) (fun v' h6 hq' => ?_) (fun i h' hq' => by obtain ⟨_, _, h⟩ := hq'; cases h)
        obtain ⟨_, hs6, hq'⟩ := hq'
        cases hq'
        have e1 : jvu (jvu W5 653 ((W5 658).tdiv (W5 662))) 654 ((W5 658).tmod (W5 662)) 653 = (W5 658).tdiv (W5 662) := by rw [jvu_ne _ _ _ (by decide), jvu_at]
        have e2 : ∀ s, s ≠ 653 → s ≠ 654 → jvu (jvu W5 653 ((W5 658).tdiv (W5 662))) 654 ((W5 658).tmod (W5 662)) s = W5 s := fun s x1 x2 => by rw [jvu_ne _ _ _ x2, jvu_ne _ _ _ x1]
        generalize jvu (jvu W5 653 ((W5 658).tdiv (W5 662))) 654 ((W5 658).tmod (W5 662)) = W6 at hs6 e1 e2
        iterate 3 refine mj_T.pl rfl rfl rfl rfl ?_
        refine mj_T.call (ins := .invokevirtual 84) rfl rfl (Nat.le_of_ble_eq_true rfl) (Nat.le_of_ble_eq_true rfl) (by simp [mj_recv, jS_a G hs6]) rfl (jS_copies (D := D + 4) G (to := 658) (s := 653) (by decide) (by decide) hs6) (fun v' h7 hq' => ?_) (fun i h' hq' => by obtain ⟨_, _, h⟩ := hq'; cases h)
        obtain ⟨_, hs7, hq'⟩ := hq'
        cases hq'
        have i1 : jvu W6 658 (W6 653) 658 = W6 653 := jvu_at _ _ _
        have i2 : ∀ s, s ≠ 658 → jvu W6 658 (W6 653) s = W6 s := fun s hne => jvu_ne _ _ _ hne
        generalize jvu W6 658 (W6 653) = W7 at hs7 i1 i2
        refine mj_T.iinc (a := (j : Int)) rfl rfl ?_
        refine mj_T.pl rfl rfl rfl rfl ?_
        refine ih (j + 1) W7 h7 _ (by omega) hs7 (fun s x1 x2 x3 x4 x5 x6 x7 x8 x9 => by rw [i2 s x5, e2 s x2 x3, g5 s x1 x2 x3 x4 x5 x6 x7 x8 x9]) (by rw [i2 662 (by decide), e2 662 (by decide) (by decide), y2]) ?_
        rw [i2 656 (by decide), e2 656 (by decide) (by decide), i1, e1, y2, y3, Int.natAbs_tdiv]
        show (W5 656).natAbs + 2 * ((W 658).natAbs / 2) ≤ y
        omega
      refine mj_T.icmp (a := first - zc - z) (b := root) rfl ⟨by omega, by omega⟩ hr (fun hc2 => ?_) (fun hc2 => ?_)
      · exact t116 W4 h4 hs4 g4 (by rw [m4 662 (by decide) (by decide) (by decide) (by decide), a2 662 (by decide), h62]) (by rw [m4 658 (by decide) (by decide) (by decide) (by decide), a2 658 (by decide)]) (by rw [k4, a2 656 (by decide), a2 658 (by decide)]; omega)
      iterate 3 refine mj_T.pl rfl rfl rfl rfl ?_
      refine mj_T.call (ins := .invokevirtual 84) rfl rfl (Nat.le_of_ble_eq_true rfl) (Nat.le_of_ble_eq_true rfl) (by simp [mj_recv, jS_a G hs4]) rfl (jS_copies (D := D + 4) G (to := 656) (s := 661) (by decide) (by decide) hs4) (fun v' h5 hq' => ?_) (fun i h' hq' => by obtain ⟨_, _, h⟩ := hq'; cases h)
      obtain ⟨_, hs5, hq'⟩ := hq'
      cases hq'
      have j1 : jvu W4 656 (W4 661) 656 = W4 661 := jvu_at _ _ _
      have j2 : ∀ s, s ≠ 656 → jvu W4 656 (W4 661) s = W4 s := fun s hne => jvu_ne _ _ _ hne
      generalize jvu W4 656 (W4 661) = W5 at hs5 j1 j2
      exact t116 W5 h5 hs5 (fun s x1 x2 x3 x4 x5 x6 x7 x8 x9 => by rw [j2 s x4, g4 s x1 x2 x3 x4 x5 x6 x7 x8 x9]) (by rw [j2 662 (by decide), m4 662 (by decide) (by decide) (by decide) (by decide), a2 662 (by decide), h62]) (by rw [j2 658 (by decide), m4 658 (by decide) (by decide) (by decide) (by decide), a2 658 (by decide)]) (by rw [j1, m4 661 (by decide) (by decide) (by decide) (by decide), a1]; omega)
    have hsr := jsg_range (W3 659)
    refine mj_T.if0 (a := jsg (W3 659)) rfl ⟨by omega, by omega⟩ (fun hc2 => ?_) (fun hc2 => ?_)
    · refine mj_T.pl rfl rfl rfl rfl ?_
      exact t90 0 (by decide) (by decide)
    · iterate 2 refine mj_T.pl rfl rfl rfl rfl ?_
      exact t90 1 (by decide) (by decide)
theorem jp_closes (G : jG hp q0 q1 q2 q3 fs) (h7 : fs[7]? = some (.int (jn ((k + 1 : Nat) : Int)))) (hk : k ≤ 12) {root : Int} (hr : jr root) {Cr C x : Nat} (hrow : (∀ p, 9 ≤ p → p ≤ 9 + k → 1 ≤ jdg V p 13 ∧ ∀ e, e < 13 → (V (p * 13 + e)).natAbs ≤ Cr)) (hC : ∀ e, e < 13 → (V (9 * 13 + e)).natAbs ≤ C) (hN : (V 657).natAbs ≤ x) (hx : 1 ≤ x) (hfit : 13 * (Cr * (6 * ((C + 2) * x)) ^ 12) < jB ^ 698) (hfit2 : (6 * ((C + 2) * x)) ^ 12 < jB ^ 698) (hs : jS hp q1 q2 q3 V h) :
    mj_Ok (D + 7) 220 [.ref q0, .int (jn root)] h (fun r => ∃ (W : Nat → Int) (h' : mj_H), jS hp q1 q2 q3 W h' ∧ (∀ s, s ≠ 652 → s ≠ 653 → s ≠ 654 → s ≠ 656 → s ≠ 658 → s ≠ 659 → s ≠ 660 → s ≠ 661 → s ≠ 662 → W s = V s) ∧ (W 656).natAbs ≤ 6 * ((C + 2) * x) ∧ r = (.inl none, h')) := by
  have hCx : x ≤ (C + 2) * x := Nat.le_mul_of_pos_left _ (by omega)
  obtain ⟨y, hy⟩ : ∃ y, y = 6 * ((C + 2) * x) := ⟨_, rfl⟩
  rw [← hy] at hfit hfit2
  rw [← hy]
  have hy1 : 1 ≤ y := by omega
  have hyfit : y < jB ^ 698 := Nat.lt_of_le_of_lt (by have := Nat.pow_le_pow_right hy1 (show 1 ≤ 12 by decide); rwa [Nat.pow_one] at this) hfit2
  refine mj_Ok.of (M := mj_m220) rfl rfl rfl ?_
  iterate 2 refine mj_T.pl rfl rfl rfl rfl ?_
  refine mj_T.call (ins := .invokevirtual 165) rfl rfl (Nat.le_of_ble_eq_true rfl) (Nat.le_of_ble_eq_true rfl) (by simp [mj_recv, jS_a G hs]) rfl (jp_changesAt (D := D) (V := V) G h7 hk (way := -1) (x := 1) (by decide) hrow (fun e => absurd e (by decide)) hs) (fun v' h1 hq' => ?_) (fun i h' hq' => by obtain ⟨_, _, _, _, _, _, _, h⟩ := hq'; cases h)
  obtain ⟨W1, _, zc, hs1, d1, d2, d3, hq'⟩ := hq'
  cases hq'
  have r1 := jrows_keep hrow hk (W := W1) (fun s hlt => d1 s (by omega) (by omega) (by omega))
  iterate 2 refine mj_T.pl rfl rfl rfl rfl ?_
  refine mj_T.call (ins := .invokevirtual 171) rfl rfl (Nat.le_of_ble_eq_true rfl) (Nat.le_of_ble_eq_true rfl) (by simp [mj_recv, jS_a G hs1]) rfl (jp_laysStep (D := D + 1) (V := W1) G (C := C) (x := x) (r1 9 (by omega) (by omega)).1 (fun e he => by rw [d1 _ (by omega) (by omega) (by omega)]; exact hC e he) (by rw [d1 657 (by decide) (by decide) (by decide)]; exact hN) hx (by omega) hs1) (fun v' h2 hq' => ?_) (fun i h' hq' => by obtain ⟨_, _, _, _, _, _, _, h⟩ := hq'; cases h)
  obtain ⟨W2, _, bits, hs2, e1, e2, e3, hq'⟩ := hq'
  cases hq'
  iterate 4 refine mj_T.pl rfl rfl rfl rfl ?_
  refine mj_T.call (ins := .invokevirtual 45) rfl rfl (Nat.le_of_ble_eq_true rfl) (Nat.le_of_ble_eq_true rfl) (by simp [mj_recv, jS_a G hs2]) rfl (jS_sets (D := D + 5) G (s := 656) (v := 0) (by decide) ⟨by decide, by decide⟩ hs2) (fun v' h3 hq' => ?_) (fun i h' hq' => by obtain ⟨_, _, h⟩ := hq'; cases h)
  obtain ⟨_, hs3, hq'⟩ := hq'
  cases hq'
  have a1 : jvu W2 656 (0) 656 = 0 := jvu_at _ _ _
  have a2 : ∀ s, s ≠ 656 → jvu W2 656 (0) s = W2 s := fun s hne => jvu_ne _ _ _ hne
  generalize jvu W2 656 (0) = W3 at hs3 a1 a2
  have v1 : (W3 656 + -1 * W3 658).natAbs ≤ 2 * ((C + 2) * x) := by
    rw [a1, a2 658 (by decide)]
    omega
  iterate 5 refine mj_T.pl rfl rfl rfl rfl ?_
  refine mj_T.call (ins := .invokevirtual 107) rfl rfl (Nat.le_of_ble_eq_true rfl) (Nat.le_of_ble_eq_true rfl) (by simp [mj_recv, jS_a G hs3]) rfl (jS_adds (D := D + 2) (V := W3) G (to := 656) (a := 656) (b := 658) (f := -1) (by decide) (by decide) (by decide) (Or.inr rfl) (jnl_of_lt v1 (by omega)) hs3) (fun v' h4 hq' => ?_) (fun i h' hq' => by obtain ⟨_, _, h⟩ := hq'; cases h)
  obtain ⟨_, hs4, hq'⟩ := hq'
  cases hq'
  have b1 : jvu W3 656 (W3 656 + -1 * W3 658) 656 = W3 656 + -1 * W3 658 := jvu_at _ _ _
  have b2 : ∀ s, s ≠ 656 → jvu W3 656 (W3 656 + -1 * W3 658) s = W3 s := fun s hne => jvu_ne _ _ _ hne
  generalize jvu W3 656 (W3 656 + -1 * W3 658) = W4 at hs4 b1 b2
  iterate 3 refine mj_T.pl rfl rfl rfl rfl ?_
  refine mj_T.call (ins := .invokevirtual 45) rfl rfl (Nat.le_of_ble_eq_true rfl) (Nat.le_of_ble_eq_true rfl) (by simp [mj_recv, jS_a G hs4]) rfl (jS_sets (D := D + 5) G (s := 662) (v := 2) (by decide) ⟨by decide, by decide⟩ hs4) (fun v' h5 hq' => ?_) (fun i h' hq' => by obtain ⟨_, _, h⟩ := hq'; cases h)
  obtain ⟨_, hs5, hq'⟩ := hq'
  cases hq'
  have c1 : jvu W4 662 (2) 662 = 2 := jvu_at _ _ _
  have c2 : ∀ s, s ≠ 662 → jvu W4 662 (2) s = W4 s := fun s hne => jvu_ne _ _ _ hne
  generalize jvu W4 662 (2) = W5 at hs5 c1 c2
  iterate 2 refine mj_T.pl rfl rfl rfl rfl ?_
  have f5 : (∀ s, s ≠ 652 → s ≠ 653 → s ≠ 654 → s ≠ 656 → s ≠ 658 → s ≠ 659 → s ≠ 660 → s ≠ 661 → s ≠ 662 → W5 s = V s) := fun s x1 x2 x3 x4 x5 x6 x7 x8 x9 => by rw [c2 s x9, b2 s x4, a2 s x4, e1 s x1 x2 x3 x5 x8, d1 s x1 x6 x7]
  refine jp_cl (D := D) (V := V) G h7 hk hr ⟨d2, d3⟩ e3 hrow (y := y) (Nat.le_trans hN (by omega)) hy1 hfit hfit2 (fun W h k1 k2 k3 => ⟨W, h, k1, k2, k3, rfl⟩) (bits + 1) 0 W5 h5 none (by omega) hs5 f5 c1 ?_
  rw [c2 656 (by decide), c2 658 (by decide), b1, b2 658 (by decide), a2 658 (by decide)]
  rw [a2 658 (by decide)] at v1
  omega
theorem jp_tells (G : jG hp q0 q1 q2 q3 fs) {i j : Nat} (hi : 652 ≤ i ∧ i ≤ 662) (hj : 652 ≤ j ∧ j ≤ 662) (hi2 : i ≠ 653 ∧ i ≠ 655) (hj2 : j ≠ 653 ∧ j ≠ 655) (hV : V j ≠ 0) (hs : jS hp q1 q2 q3 V h) :
    mj_Ok (D + 6) 221 [.ref q0, .int (jn (i : Nat)), .int (jn (j : Nat))] h (fun r => ∃ (W : Nat → Int) (h' : mj_H), jS hp q1 q2 q3 W h' ∧ (∀ s, s ≠ 650 → s ≠ 651 → s ≠ 653 → s ≠ 655 → s ≠ 663 → s ≠ 664 → W s = V s) ∧ (W 650).natAbs ≤ (V i).natAbs ∧ (W 651).natAbs ≤ (V j).natAbs ∧ r = (.inl (some (.int (jn (jsg (W 650))))), h')) := by
  refine mj_Ok.of (M := mj_m221) rfl rfl rfl ?_
  iterate 4 refine mj_T.pl rfl rfl rfl rfl ?_
  refine mj_T.call (ins := .invokevirtual 127) rfl rfl (Nat.le_of_ble_eq_true rfl) (Nat.le_of_ble_eq_true rfl) (by simp [mj_recv, jS_a G hs]) rfl (jp_commons (D := D) (V := V) G (to := 653) (i := i) (j := j) (by decide) (by omega) (by omega) (by decide) (by decide) (by decide) (by omega) hs) (fun v' h1 hq' => ?_) (fun i h' hq' => by obtain ⟨_, _, _, _, _, h⟩ := hq'; cases h)
  obtain ⟨W1, _, hs1, k1, k2, hq'⟩ := hq'
  cases hq'
  have g0 : W1 653 ≠ 0 := by
    rw [k1]
    have : 0 < Nat.gcd (V i).natAbs (V j).natAbs := Nat.gcd_pos_of_pos_right _ (by omega)
    omega
  iterate 3 refine mj_T.pl rfl rfl rfl rfl ?_
  refine mj_T.call (ins := .invokevirtual 84) rfl rfl (Nat.le_of_ble_eq_true rfl) (Nat.le_of_ble_eq_true rfl) (by simp [mj_recv, jS_a G hs1]) rfl (jS_copies (D := D + 3) G (to := 650) (s := i) (by decide) (by omega) hs1) (fun v' h2 hq' => ?_) (fun i h' hq' => by obtain ⟨_, _, h⟩ := hq'; cases h)
  obtain ⟨_, hs2, hq'⟩ := hq'
  cases hq'
  have a1 : jvu W1 650 (W1 i) 650 = W1 i := jvu_at _ _ _
  have a2 : ∀ s, s ≠ 650 → jvu W1 650 (W1 i) s = W1 s := fun s hne => jvu_ne _ _ _ hne
  generalize jvu W1 650 (W1 i) = W2 at hs2 a1 a2
  iterate 3 refine mj_T.pl rfl rfl rfl rfl ?_
  refine mj_T.call (ins := .invokevirtual 84) rfl rfl (Nat.le_of_ble_eq_true rfl) (Nat.le_of_ble_eq_true rfl) (by simp [mj_recv, jS_a G hs2]) rfl (jS_copies (D := D + 3) G (to := 651) (s := j) (by decide) (by omega) hs2) (fun v' h3 hq' => ?_) (fun i h' hq' => by obtain ⟨_, _, h⟩ := hq'; cases h)
  obtain ⟨_, hs3, hq'⟩ := hq'
  cases hq'
  have b1 : jvu W2 651 (W2 j) 651 = W2 j := jvu_at _ _ _
  have b2 : ∀ s, s ≠ 651 → jvu W2 651 (W2 j) s = W2 s := fun s hne => jvu_ne _ _ _ hne
  generalize jvu W2 651 (W2 j) = W3 at hs3 b1 b2
  iterate 2 refine mj_T.pl rfl rfl rfl rfl ?_
  refine mj_T.call (ins := .invokevirtual 68) rfl rfl (Nat.le_of_ble_eq_true rfl) (Nat.le_of_ble_eq_true rfl) (by simp [mj_recv, jS_a G hs3]) rfl (jS_sign (D := D + 4) G (s := 650) (by decide) hs3) (fun v' h' hq' => ?_) (fun i h' hq' => by cases hq')
  cases hq'
  have u1 : (W3 650).natAbs ≤ (V i).natAbs := by rw [b2 650 (by decide), a1, k2 i (by omega) (by omega) (by omega) (by omega)]; exact Nat.le_refl _
  have u2 : (W3 651).natAbs ≤ (V j).natAbs := by rw [b1, a2 j (by omega), k2 j (by omega) (by omega) (by omega) (by omega)]; exact Nat.le_refl _
  have u3 : W3 653 = W1 653 := by rw [b2 653 (by decide), a2 653 (by decide)]
  have u4 : ∀ s, s ≠ 650 → s ≠ 651 → s ≠ 653 → s ≠ 655 → s ≠ 663 → s ≠ 664 → W3 s = V s := fun s x1 x2 x3 x4 x5 x6 => by rw [b2 s x2, a2 s x1, k2 s x3 x4 x5 x6]
  have t45 : ∀ (W4 : Nat → Int) (h4 : mj_H), jS hp q1 q2 q3 W4 h4 → (∀ s, s ≠ 650 → s ≠ 663 → s ≠ 664 → W4 s = W3 s) → (W4 650).natAbs ≤ (V i).natAbs → mj_T (D + 5) mj_m221 45 [some (.ref q0), some (.int (jn (i : Nat))), some (.int (jn (j : Nat)))] [] h4 (fun r => ∃ (W : Nat → Int) (h' : mj_H), jS hp q1 q2 q3 W h' ∧ (∀ s, s ≠ 650 → s ≠ 651 → s ≠ 653 → s ≠ 655 → s ≠ 663 → s ≠ 664 → W s = V s) ∧ (W 650).natAbs ≤ (V i).natAbs ∧ (W 651).natAbs ≤ (V j).natAbs ∧ r = (.inl (some (.int (jn (jsg (W 650))))), h')) := by
    intro W4 h4 hs4 y1 y2
    iterate 3 refine mj_T.pl rfl rfl rfl rfl ?_
    refine mj_T.call (ins := .invokevirtual 133) rfl rfl (Nat.le_of_ble_eq_true rfl) (Nat.le_of_ble_eq_true rfl) (by simp [mj_recv, jS_a G hs4]) rfl (jp_exact (D := D) (V := W4) G (i := 651) (j := 653) (by decide) (by decide) (by decide) (by decide) (by decide) (by decide) (by rw [y1 653 (by decide) (by decide) (by decide), u3]; exact g0) hs4) (fun v' h5 hq' => ?_) (fun i h' hq' => by obtain ⟨_, _, _, _, _, h⟩ := hq'; cases h)
    obtain ⟨W5, _, hs5, z1, z2, hq'⟩ := hq'
    cases hq'
    iterate 2 refine mj_T.pl rfl rfl rfl rfl ?_
    refine mj_T.call (ins := .invokevirtual 68) rfl rfl (Nat.le_of_ble_eq_true rfl) (Nat.le_of_ble_eq_true rfl) (by simp [mj_recv, jS_a G hs5]) rfl (jS_sign (D := D + 4) G (s := 650) (by decide) hs5) (fun v' h' hq' => ?_) (fun i h' hq' => by cases hq')
    cases hq'
    refine mj_T.ret rfl rfl rfl ⟨W5, h5, hs5, fun s x1 x2 x3 x4 x5 x6 => by rw [z2 s x2 x5 x6, y1 s x1 x5 x6, u4 s x1 x2 x3 x4 x5 x6], by rw [z2 650 (by decide) (by decide) (by decide)]; exact y2, ?_, rfl⟩
    rw [z1, Int.natAbs_tdiv, y1 651 (by decide) (by decide) (by decide)]
    exact Nat.le_trans (Nat.div_le_self _ _) u2
  have hsr := jsg_range (W3 650)
  refine mj_T.if0 (a := jsg (W3 650)) rfl ⟨by omega, by omega⟩ (fun hc => ?_) (fun hc => ?_)
  · exact t45 W3 h3 hs3 (fun s _ _ _ => rfl) u1
  iterate 3 refine mj_T.pl rfl rfl rfl rfl ?_
  refine mj_T.call (ins := .invokevirtual 133) rfl rfl (Nat.le_of_ble_eq_true rfl) (Nat.le_of_ble_eq_true rfl) (by simp [mj_recv, jS_a G hs3]) rfl (jp_exact (D := D) (V := W3) G (i := 650) (j := 653) (by decide) (by decide) (by decide) (by decide) (by decide) (by decide) (by rw [u3]; exact g0) hs3) (fun v' h4 hq' => ?_) (fun i h' hq' => by obtain ⟨_, _, _, _, _, h⟩ := hq'; cases h)
  obtain ⟨W4, _, hs4, z1, z2, hq'⟩ := hq'
  cases hq'
  exact t45 W4 h4 hs4 z2 (by rw [z1, Int.natAbs_tdiv]; exact Nat.le_trans (Nat.div_le_self _ _) u1)
end JCL
/-! The reference's product of polynomials, and power. -/
section JMP
variable {D : Nat} {hp h : mj_H} {q0 q1 q2 q3 : Nat} {fs : List Value} {V : Nat → Int} {a b to : Nat}
theorem jp_mp2 (G : jG hp q0 q1 q2 q3 fs) (hto : to ≤ 49) (ha : a ≤ 49) (hb : b ≤ 49) (hta : to ≠ a) (htb : to ≠ b) {al be : Nat} (hal : ∀ e, e < 13 → (V (a * 13 + e)).natAbs ≤ al) (hbe : ∀ e, e < 13 → (V (b * 13 + e)).natAbs ≤ be) (hdeg : jdg V a 13 = 0 ∨ jdg V b 13 = 0 ∨ jdg V a 13 + jdg V b 13 ≤ 14) (hfit : 169 * (al * be) < jB ^ 698) {i N : Nat} (hi : i < jdg V a 13) {Q : mj_R → Prop}
    (hend : ∀ (W : Nat → Int) (h : mj_H), jS hp q1 q2 q3 W h → (∀ s, (s < to * 13 ∨ to * 13 + 13 ≤ s) → s ≠ 652 → W s = V s) → (∀ e, e < 13 → (W (to * 13 + e)).natAbs ≤ N * (al * be)) → (∀ e, e < 13 → jdg V a 13 + jdg V b 13 ≤ e + 1 → W (to * 13 + e) = 0) → mj_T (D + 4) mj_m202 80 [some (.ref q0), some (.int (jn (to : Nat))), some (.int (jn (a : Nat))), some (.int (jn (b : Nat))), some (.int (jn (i : Nat))), some (.int (jn (-1)))] [] h Q) (hN : N ≤ 169) :
    ∀ (m n : Nat) (W : Nat → Int) (h : mj_H), m ≤ jdg V b 13 → n + m = N → jS hp q1 q2 q3 W h → (∀ s, (s < to * 13 ∨ to * 13 + 13 ≤ s) → s ≠ 652 → W s = V s) → (∀ e, e < 13 → (W (to * 13 + e)).natAbs ≤ n * (al * be)) → (∀ e, e < 13 → jdg V a 13 + jdg V b 13 ≤ e + 1 → W (to * 13 + e) = 0) → mj_T (D + 4) mj_m202 24 [some (.ref q0), some (.int (jn (to : Nat))), some (.int (jn (a : Nat))), some (.int (jn (b : Nat))), some (.int (jn (i : Nat))), some (.int (jn ((m : Int) - 1)))] [] h Q := by
  have hal1 := jdg_le V a 13
  have hbl1 := jdg_le V b 13
  intro m
  induction m with
  | zero =>
    intro n W h hm hn hs hf h1 h2
    have hn2 : n = N := by omega
    subst hn2
    refine mj_T.pl rfl rfl rfl rfl ?_
    refine mj_T.if0 (a := ((0 : Nat) : Int) - 1) rfl ⟨by decide, by decide⟩ (fun hc => ?_) (fun hc => ?_)
    · exact hend W h hs hf h1 h2
    · simp [jc] at hc
  | succ m ih =>
    intro n W h hm hn hs hf h1 h2
    refine mj_T.pl rfl rfl rfl rfl ?_
    refine mj_T.if0 (a := ((m + 1 : Nat) : Int) - 1) rfl ⟨by omega, by omega⟩ (fun hc => ?_) (fun hc => ?_)
    · simp only [jc, Bool.not_eq_false', decide_eq_true_eq, decide_eq_false_iff_not] at hc
      omega
    rw [show ((m + 1 : Nat) : Int) - 1 = (m : Int) by omega]
    have va : W (a * 13 + i) = V (a * 13 + i) := hf _ (by omega) (by omega)
    have vb : W (b * 13 + m) = V (b * 13 + m) := hf _ (by omega) (by omega)
    have p1 : (V (a * 13 + i) * V (b * 13 + m)).natAbs ≤ al * be := by
      rw [Int.natAbs_mul]
      exact Nat.mul_le_mul (hal i (by omega)) (hbe m (by omega))
    have hcap : ∀ x, x ≤ 169 → x * (al * be) ≤ 169 * (al * be) := fun x hx => Nat.mul_le_mul_right _ hx
    have hcap1 := hcap 1 (by decide)
    rw [Nat.one_mul] at hcap1
    iterate 4 refine mj_T.pl rfl rfl rfl rfl ?_
    refine mj_T.call (ins := .invokestatic 104) rfl rfl (Nat.le_of_ble_eq_true rfl) (Nat.le_of_ble_eq_true rfl) rfl rfl (jq_slot (D := D + 3) (p := a) (i := i)) (fun v' h' hq' => ?_) (fun i h' hq' => by cases hq')
    cases hq'
    iterate 2 refine mj_T.pl rfl rfl rfl rfl ?_
    refine mj_T.call (ins := .invokestatic 104) rfl rfl (Nat.le_of_ble_eq_true rfl) (Nat.le_of_ble_eq_true rfl) rfl rfl (jq_slot (D := D + 3) (p := b) (i := m)) (fun v' h' hq' => ?_) (fun i h' hq' => by cases hq')
    cases hq'
    refine mj_T.call (ins := .invokevirtual 117) rfl rfl (Nat.le_of_ble_eq_true rfl) (Nat.le_of_ble_eq_true rfl) (by simp [mj_recv, jS_a G hs]) rfl (jS_mul (D := D + 2) (V := W) G (to := 652) (a := a * 13 + i) (b := b * 13 + m) (by decide) (by omega) (by omega) (jnl_of_lt (M := 169 * (al * be)) (by rw [va, vb]; omega) hfit) hs) (fun v' w1 hq' => ?_) (fun i h' hq' => by obtain ⟨_, _, h⟩ := hq'; cases h)
    obtain ⟨_, hs1, hq'⟩ := hq'
    cases hq'
    have c1 : jvu W 652 (W (a * 13 + i) * W (b * 13 + m)) 652 = W (a * 13 + i) * W (b * 13 + m) := jvu_at _ _ _
    have c2 : ∀ s, s ≠ 652 → jvu W 652 (W (a * 13 + i) * W (b * 13 + m)) s = W s := fun s hne => jvu_ne _ _ _ hne
    generalize jvu W 652 (W (a * 13 + i) * W (b * 13 + m)) = W1 at hs1 c1 c2
    have v1 : (W1 (to * 13 + (i + m)) + 1 * W1 652).natAbs ≤ (n + 1) * (al * be) := by
      rw [c1, c2 _ (by omega), va, vb]
      have k1 := h1 (i + m) (by omega)
      have k2 := Int.natAbs_add_le (W (to * 13 + (i + m))) (1 * (V (a * 13 + i) * V (b * 13 + m)))
      rw [Int.one_mul] at k2 ⊢
      rw [Nat.succ_mul]
      omega
    iterate 4 refine mj_T.pl rfl rfl rfl rfl ?_
    refine mj_T.iadd (a := (i : Int)) (b := (m : Int)) rfl ?_
    rw [show (i : Int) + (m : Int) = ((i + m : Nat) : Int) by omega]
    refine mj_T.call (ins := .invokestatic 104) rfl rfl (Nat.le_of_ble_eq_true rfl) (Nat.le_of_ble_eq_true rfl) rfl rfl (jq_slot (D := D + 3) (p := to) (i := i + m)) (fun v' h' hq' => ?_) (fun i h' hq' => by cases hq')
    cases hq'
    iterate 3 refine mj_T.pl rfl rfl rfl rfl ?_
    refine mj_T.iadd (a := (i : Int)) (b := (m : Int)) rfl ?_
    rw [show (i : Int) + (m : Int) = ((i + m : Nat) : Int) by omega]
    refine mj_T.call (ins := .invokestatic 104) rfl rfl (Nat.le_of_ble_eq_true rfl) (Nat.le_of_ble_eq_true rfl) rfl rfl (jq_slot (D := D + 3) (p := to) (i := i + m)) (fun v' h' hq' => ?_) (fun i h' hq' => by cases hq')
    cases hq'
    iterate 2 refine mj_T.pl rfl rfl rfl rfl ?_
    refine mj_T.call (ins := .invokevirtual 107) rfl rfl (Nat.le_of_ble_eq_true rfl) (Nat.le_of_ble_eq_true rfl) (by simp [mj_recv, jS_a G hs1]) rfl (jS_adds (D := D) (V := W1) G (to := to * 13 + (i + m)) (a := to * 13 + (i + m)) (b := 652) (f := 1) (by omega) (by omega) (by decide) (Or.inl rfl) (jnl_of_lt (M := 169 * (al * be)) (Nat.le_trans v1 (hcap _ (by omega))) hfit) hs1) (fun v' w2 hq' => ?_) (fun i h' hq' => by obtain ⟨_, _, h⟩ := hq'; cases h)
    obtain ⟨_, hs2, hq'⟩ := hq'
    cases hq'
    have d1 : jvu W1 (to * 13 + (i + m)) (W1 (to * 13 + (i + m)) + 1 * W1 652) (to * 13 + (i + m)) = W1 (to * 13 + (i + m)) + 1 * W1 652 := jvu_at _ _ _
    have d2 : ∀ s, s ≠ (to * 13 + (i + m)) → jvu W1 (to * 13 + (i + m)) (W1 (to * 13 + (i + m)) + 1 * W1 652) s = W1 s := fun s hne => jvu_ne _ _ _ hne
    generalize jvu W1 (to * 13 + (i + m)) (W1 (to * 13 + (i + m)) + 1 * W1 652) = W2 at hs2 d1 d2
    refine mj_T.iinc (a := (m : Int)) rfl rfl ?_
    refine mj_T.pl rfl rfl rfl rfl ?_
    refine ih (n + 1) W2 w2 (by omega) (by omega) hs2 (fun s x1 x2 => by rw [d2 s (by omega), c2 s x2, hf s x1 x2]) (fun e he => ?_) (fun e he hz => ?_)
    · by_cases hee : e = i + m
      · subst hee
        rw [d1]
        exact v1
      · rw [d2 _ (by omega), c2 _ (by omega)]
        refine Nat.le_trans (h1 e he) (Nat.mul_le_mul_right _ (by omega))
    · rw [d2 _ (by omega), c2 _ (by omega)]
      exact h2 e he hz
theorem jp_mp1 (G : jG hp q0 q1 q2 q3 fs) (hto : to ≤ 49) (ha : a ≤ 49) (hb : b ≤ 49) (hta : to ≠ a) (htb : to ≠ b) {al be : Nat} (hal : ∀ e, e < 13 → (V (a * 13 + e)).natAbs ≤ al) (hbe : ∀ e, e < 13 → (V (b * 13 + e)).natAbs ≤ be) (hdeg : jdg V a 13 = 0 ∨ jdg V b 13 = 0 ∨ jdg V a 13 + jdg V b 13 ≤ 14) (hfit : 169 * (al * be) < jB ^ 698) {Q : mj_R → Prop}
    (hend : ∀ (W : Nat → Int) (h : mj_H), jS hp q1 q2 q3 W h → (∀ s, (s < to * 13 ∨ to * 13 + 13 ≤ s) → s ≠ 652 → W s = V s) → (∀ e, e < 13 → (W (to * 13 + e)).natAbs ≤ 169 * (al * be)) → (∀ e, e < 13 → jdg V a 13 + jdg V b 13 ≤ e + 1 → W (to * 13 + e) = 0) → Q (.inl none, h)) :
    ∀ (m n : Nat) (W : Nat → Int) (h : mj_H) (e5 : Option Value), m ≤ jdg V a 13 → n + 13 * m ≤ 169 → jS hp q1 q2 q3 W h → (∀ s, (s < to * 13 ∨ to * 13 + 13 ≤ s) → s ≠ 652 → W s = V s) → (∀ e, e < 13 → (W (to * 13 + e)).natAbs ≤ n * (al * be)) → (∀ e, e < 13 → jdg V a 13 + jdg V b 13 ≤ e + 1 → W (to * 13 + e) = 0) → mj_T (D + 4) mj_m202 12 [some (.ref q0), some (.int (jn (to : Nat))), some (.int (jn (a : Nat))), some (.int (jn (b : Nat))), some (.int (jn ((m : Int) - 1))), e5] [] h Q := by
  have hal1 := jdg_le V a 13
  have hbl1 := jdg_le V b 13
  intro m
  induction m with
  | zero =>
    intro n W h e5 hm hn hs hf h1 h2
    refine mj_T.pl rfl rfl rfl rfl ?_
    refine mj_T.if0 (a := ((0 : Nat) : Int) - 1) rfl ⟨by decide, by decide⟩ (fun hc => ?_) (fun hc => ?_)
    · exact mj_T.ret rfl rfl rfl (hend W h hs hf (fun e he => Nat.le_trans (h1 e he) (Nat.mul_le_mul_right _ (by omega))) h2)
    · simp [jc] at hc
  | succ m ih =>
    intro n W h e5 hm hn hs hf h1 h2
    refine mj_T.pl rfl rfl rfl rfl ?_
    refine mj_T.if0 (a := ((m + 1 : Nat) : Int) - 1) rfl ⟨by omega, by omega⟩ (fun hc => ?_) (fun hc => ?_)
    · simp only [jc, Bool.not_eq_false', decide_eq_true_eq, decide_eq_false_iff_not] at hc
      omega
    rw [show ((m + 1 : Nat) : Int) - 1 = (m : Int) by omega]
    have hjb : jdg W b 13 = jdg V b 13 := jdg_congr 13 fun e he => hf _ (by omega) (by omega)
    iterate 2 refine mj_T.pl rfl rfl rfl rfl ?_
    refine mj_T.call (ins := .invokevirtual 114) rfl rfl (Nat.le_of_ble_eq_true rfl) (Nat.le_of_ble_eq_true rfl) (by simp [mj_recv, jS_a G hs]) rfl (jp_degreeOf (D := D + 2) G (p := b) (by omega) hs) (fun v' h' hq' => ?_) (fun i h' hq' => by cases hq')
    cases hq'
    rw [hjb]
    refine mj_T.pl rfl rfl rfl rfl ?_
    refine jp_mp2 (D := D) (V := V) (i := m) (N := n + jdg V b 13) G hto ha hb hta htb hal hbe hdeg hfit (by omega) (fun W1 h1 hs1 g1 g2 g3 => ?_) (by omega) (jdg V b 13) n W h (Nat.le_refl _) rfl hs hf h1 h2
    refine mj_T.iinc (a := (m : Int)) rfl rfl ?_
    refine mj_T.pl rfl rfl rfl rfl ?_
    exact ih (n + jdg V b 13) W1 h1 _ (by omega) (by omega) hs1 g1 g2 g3
theorem jp_multipliesPoly (G : jG hp q0 q1 q2 q3 fs) (hto : to ≤ 49) (ha : a ≤ 49) (hb : b ≤ 49) (hta : to ≠ a) (htb : to ≠ b) {al be : Nat} (hal : ∀ e, e < 13 → (V (a * 13 + e)).natAbs ≤ al) (hbe : ∀ e, e < 13 → (V (b * 13 + e)).natAbs ≤ be) (hdeg : jdg V a 13 = 0 ∨ jdg V b 13 = 0 ∨ jdg V a 13 + jdg V b 13 ≤ 14) (hfit : 169 * (al * be) < jB ^ 698) (hs : jS hp q1 q2 q3 V h) :
    mj_Ok (D + 5) 202 [.ref q0, .int (jn (to : Nat)), .int (jn (a : Nat)), .int (jn (b : Nat))] h (fun r => ∃ (W : Nat → Int) (h' : mj_H), jS hp q1 q2 q3 W h' ∧ (∀ s, (s < to * 13 ∨ to * 13 + 13 ≤ s) → s ≠ 652 → W s = V s) ∧ (∀ e, e < 13 → (W (to * 13 + e)).natAbs ≤ 169 * (al * be)) ∧ jdg W to 13 ≤ jdg V a 13 + jdg V b 13 - 1 ∧ r = (.inl none, h')) := by
  have hal1 := jdg_le V a 13
  refine mj_Ok.of (M := mj_m202) rfl rfl rfl ?_
  iterate 2 refine mj_T.pl rfl rfl rfl rfl ?_
  refine mj_T.call (ins := .invokevirtual 110) rfl rfl (Nat.le_of_ble_eq_true rfl) (Nat.le_of_ble_eq_true rfl) (by simp [mj_recv, jS_a G hs]) rfl (jp_empties (D := D + 2) G (p := to) (by omega) hs) (fun v' h1 hq' => ?_) (fun i h' hq' => by obtain ⟨_, _, h⟩ := hq'; cases h)
  obtain ⟨_, hs1, hq'⟩ := hq'
  cases hq'
  have a1 : ∀ e, e < 13 → jfl V to (fun _ => 0) 13 (to * 13 + e) = 0 := fun e he => jfl_at _ to _ he
  have a2 : ∀ s, (s < to * 13 ∨ to * 13 + 13 ≤ s) → jfl V to (fun _ => 0) 13 s = V s := fun s hc => jfl_off _ to _ hc
  generalize jfl V to (fun _ => 0) 13 = W1 at hs1 a1 a2
  have hja : jdg W1 a 13 = jdg V a 13 := jdg_congr 13 fun e he => a2 _ (by omega)
  iterate 2 refine mj_T.pl rfl rfl rfl rfl ?_
  refine mj_T.call (ins := .invokevirtual 114) rfl rfl (Nat.le_of_ble_eq_true rfl) (Nat.le_of_ble_eq_true rfl) (by simp [mj_recv, jS_a G hs1]) rfl (jp_degreeOf (D := D + 2) G (p := a) (by omega) hs1) (fun v' h' hq' => ?_) (fun i h' hq' => by cases hq')
  cases hq'
  rw [hja]
  refine mj_T.pl rfl rfl rfl rfl ?_
  refine jp_mp1 (D := D) (V := V) G hto ha hb hta htb hal hbe hdeg hfit (fun W h k1 k2 k3 k4 => ⟨W, h, k1, k2, k3, jdg_of_zero fun e e1 e2 => k4 e e2 (by omega), rfl⟩) (jdg V a 13) 0 W1 h1 _ (Nat.le_refl _) (by omega) hs1 (fun s x1 x2 => a2 s x1) (fun e he => by rw [a1 e he]; exact Nat.zero_le _) (fun e he _ => a1 e he)
end JMP
section JRA
variable {D : Nat} {hp h : mj_H} {q0 q1 q2 q3 : Nat} {fs : List Value} {V : Nat → Int} {a p : Nat}
theorem jp_ra (G : jG hp q0 q1 q2 q3 fs) (hpp : p ≤ 49) (hp7 : p ≠ 7) (ha : a ≤ 49) (ha7 : a ≠ 7) (hpa : p ≠ a) {al : Nat} (hal1 : 1 ≤ al) (hal : ∀ e, e < 13 → (V (a * 13 + e)).natAbs ≤ al) {n : Nat} (hn : n ≤ 12) (hfit : (169 * al) ^ 12 < jB ^ 698) (hdeg : (jdg V a 13 - 1) * n ≤ 12) {Q : mj_R → Prop}
    (hend : ∀ (W : Nat → Int) (h : mj_H), jS hp q1 q2 q3 W h → (∀ s, (s < p * 13 ∨ p * 13 + 13 ≤ s) → (s < 91 ∨ 104 ≤ s) → s ≠ 652 → W s = V s) → (∀ e, e < 13 → (W (p * 13 + e)).natAbs ≤ (169 * al) ^ 12) → Q (.inl (some (.int (jn 1))), h)) :
    ∀ (m j : Nat) (W : Nat → Int) (h : mj_H), j + m = n → jS hp q1 q2 q3 W h → (∀ s, (s < p * 13 ∨ p * 13 + 13 ≤ s) → (s < 91 ∨ 104 ≤ s) → s ≠ 652 → W s = V s) → (∀ e, e < 13 → (W (p * 13 + e)).natAbs ≤ (169 * al) ^ j) → jdg W p 13 ≤ (jdg V a 13 - 1) * j + 1 → mj_T (D + 5) mj_m204 40 [some (.ref q0), some (.int (jn (p : Nat))), some (.int (jn (a : Nat))), some (.int (jn (n : Nat))), some (.int (jn (j : Nat)))] [] h Q := by
  have hal2 := jdg_le V a 13
  have mono : ∀ j, j ≤ 12 → (169 * al) ^ j ≤ (169 * al) ^ 12 := fun j hj => Nat.pow_le_pow_right (by omega) hj
  intro m
  induction m with
  | zero =>
    intro j W h hj hs hf h1 h2
    iterate 2 refine mj_T.pl rfl rfl rfl rfl ?_
    refine mj_T.icmp (a := (j : Int)) (b := (n : Int)) rfl ⟨by omega, by omega⟩ ⟨by omega, by omega⟩ (fun hc => ?_) (fun hc => ?_)
    · refine mj_T.pl rfl rfl rfl rfl ?_
      exact mj_T.ret rfl rfl rfl (hend W h hs hf (fun e he => Nat.le_trans (h1 e he) (mono j (by omega))))
    · simp only [jc, Bool.not_eq_false', decide_eq_true_eq, decide_eq_false_iff_not] at hc
      omega
  | succ m ih =>
    intro j W h hj hs hf h1 h2
    iterate 2 refine mj_T.pl rfl rfl rfl rfl ?_
    refine mj_T.icmp (a := (j : Int)) (b := (n : Int)) rfl ⟨by omega, by omega⟩ ⟨by omega, by omega⟩ (fun hc => ?_) (fun hc => ?_)
    · simp only [jc, Bool.not_eq_false', decide_eq_true_eq, decide_eq_false_iff_not] at hc
      omega
    have hja : jdg W a 13 = jdg V a 13 := jdg_congr 13 fun e he => hf _ (by omega) (by omega) (by omega)
    have hd1 : (jdg V a 13 - 1) * (j + 1) ≤ 12 := Nat.le_trans (Nat.mul_le_mul_left _ (by omega)) hdeg
    have hd2 : (jdg V a 13 - 1) * (j + 1) = (jdg V a 13 - 1) * j + (jdg V a 13 - 1) := Nat.mul_succ _ _
    have hsz : 169 * ((169 * al) ^ j * al) = (169 * al) ^ (j + 1) := by
      rw [Nat.pow_succ, ← Nat.mul_assoc, Nat.mul_comm 169, Nat.mul_assoc]
    iterate 4 refine mj_T.pl rfl rfl rfl rfl ?_
    refine mj_T.call (ins := .invokevirtual 121) rfl rfl (Nat.le_of_ble_eq_true rfl) (Nat.le_of_ble_eq_true rfl) (by simp [mj_recv, jS_a G hs]) rfl (jp_multipliesPoly (D := D) (V := W) G (to := 7) (a := p) (b := a) (by decide) (by omega) (by omega) (by omega) (by omega) (al := (169 * al) ^ j) (be := al) h1 (fun e he => by rw [hf _ (by omega) (by omega) (by omega)]; exact hal e he) (by rw [hja]; omega) (by rw [hsz]; exact Nat.lt_of_le_of_lt (mono _ (by omega)) hfit) hs) (fun v' w2 hq' => ?_) (fun i h' hq' => by obtain ⟨_, _, _, _, _, _, h⟩ := hq'; cases h)
    obtain ⟨W1, _, hs1, b1, b2, b3, hq'⟩ := hq'
    cases hq'
    iterate 3 refine mj_T.pl rfl rfl rfl rfl ?_
    refine mj_T.call (ins := .invokevirtual 124) rfl rfl (Nat.le_of_ble_eq_true rfl) (Nat.le_of_ble_eq_true rfl) (by simp [mj_recv, jS_a G hs1]) rfl (jp_copiesPoly (D := D + 2) G (p := p) (q := 7) (by omega) (by decide) (by omega) hs1) (fun v' w3 hq' => ?_) (fun i h' hq' => by obtain ⟨_, _, h⟩ := hq'; cases h)
    obtain ⟨_, hs2, hq'⟩ := hq'
    cases hq'
    have c1 : ∀ e, e < 13 → jfl W1 p (fun e => W1 (7 * 13 + e)) 13 (p * 13 + e) = W1 (7 * 13 + e) := fun e he => jfl_at _ p _ he
    have c2 : ∀ s, (s < p * 13 ∨ p * 13 + 13 ≤ s) → jfl W1 p (fun e => W1 (7 * 13 + e)) 13 s = W1 s := fun s hc => jfl_off _ p _ hc
    generalize jfl W1 p (fun e => W1 (7 * 13 + e)) 13 = W2 at hs2 c1 c2
    refine mj_T.iinc (a := (j : Int)) rfl rfl ?_
    refine mj_T.pl rfl rfl rfl rfl ?_
    refine ih (j + 1) W2 w3 (by omega) hs2 (fun s x1 x2 x3 => by rw [c2 s x1, b1 s (by omega) x3, hf s x1 x2 x3]) (fun e he => ?_) ?_
    · rw [c1 e he, ← hsz]
      exact b2 e he
    · have : jdg W2 p 13 = jdg W1 7 13 := jdg_congr 13 c1
      omega
theorem jp_raises (G : jG hp q0 q1 q2 q3 fs) (hpp : p ≤ 49) (hp7 : p ≠ 7) (ha : a ≤ 49) (ha7 : a ≠ 7) (hpa : p ≠ a) {al : Nat} (hal1 : 1 ≤ al) (hal : ∀ e, e < 13 → (V (a * 13 + e)).natAbs ≤ al) {n : Nat} (hn : n ≤ 12) (hfit : (169 * al) ^ 12 < jB ^ 698) (hs : jS hp q1 q2 q3 V h) :
    mj_Ok (D + 6) 204 [.ref q0, .int (jn (p : Nat)), .int (jn (a : Nat)), .int (jn (n : Nat))] h (fun r => ∃ (W : Nat → Int) (h' : mj_H), jS hp q1 q2 q3 W h' ∧ (∀ s, (s < p * 13 ∨ p * 13 + 13 ≤ s) → (s < 91 ∨ 104 ≤ s) → s ≠ 652 → W s = V s) ∧ (r = (.inl (some (.int (jn 0))), h') ∧ W = V ∨ r = (.inl (some (.int (jn 1))), h') ∧ ∀ e, e < 13 → (W (p * 13 + e)).natAbs ≤ (169 * al) ^ 12)) := by
  have hal2 := jdg_le V a 13
  refine mj_Ok.of (M := mj_m204) rfl rfl rfl ?_
  iterate 2 refine mj_T.pl rfl rfl rfl rfl ?_
  refine mj_T.call (ins := .invokevirtual 114) rfl rfl (Nat.le_of_ble_eq_true rfl) (Nat.le_of_ble_eq_true rfl) (by simp [mj_recv, jS_a G hs]) rfl (jp_degreeOf (D := D + 3) G (p := a) (by omega) hs) (fun v' h' hq' => ?_) (fun i h' hq' => by cases hq')
  cases hq'
  have t22 : (jdg V a 13 - 1) * n ≤ 12 → mj_T (D + 5) mj_m204 22 [some (.ref q0), some (.int (jn (p : Nat))), some (.int (jn (a : Nat))), some (.int (jn (n : Nat))), none] [] h (fun r => ∃ (W : Nat → Int) (h' : mj_H), jS hp q1 q2 q3 W h' ∧ (∀ s, (s < p * 13 ∨ p * 13 + 13 ≤ s) → (s < 91 ∨ 104 ≤ s) → s ≠ 652 → W s = V s) ∧ (r = (.inl (some (.int (jn 0))), h') ∧ W = V ∨ r = (.inl (some (.int (jn 1))), h') ∧ ∀ e, e < 13 → (W (p * 13 + e)).natAbs ≤ (169 * al) ^ 12)) := fun hdeg => by
    iterate 2 refine mj_T.pl rfl rfl rfl rfl ?_
    refine mj_T.call (ins := .invokevirtual 110) rfl rfl (Nat.le_of_ble_eq_true rfl) (Nat.le_of_ble_eq_true rfl) (by simp [mj_recv, jS_a G hs]) rfl (jp_empties (D := D + 3) G (p := p) (by omega) hs) (fun v' h1 hq' => ?_) (fun i h' hq' => by obtain ⟨_, _, h⟩ := hq'; cases h)
    obtain ⟨_, hs1, hq'⟩ := hq'
    cases hq'
    have a1 : ∀ e, e < 13 → jfl V p (fun _ => 0) 13 (p * 13 + e) = 0 := fun e he => jfl_at _ p _ he
    have a2 : ∀ s, (s < p * 13 ∨ p * 13 + 13 ≤ s) → jfl V p (fun _ => 0) 13 s = V s := fun s hc => jfl_off _ p _ hc
    generalize jfl V p (fun _ => 0) 13 = W1 at hs1 a1 a2
    iterate 3 refine mj_T.pl rfl rfl rfl rfl ?_
    refine mj_T.call (ins := .invokestatic 104) rfl rfl (Nat.le_of_ble_eq_true rfl) (Nat.le_of_ble_eq_true rfl) rfl rfl (jq_slot (D := D + 4) (p := p) (i := 0)) (fun v' h' hq' => ?_) (fun i h' hq' => by cases hq')
    cases hq'
    refine mj_T.pl rfl rfl rfl rfl ?_
    refine mj_T.call (ins := .invokevirtual 45) rfl rfl (Nat.le_of_ble_eq_true rfl) (Nat.le_of_ble_eq_true rfl) (by simp [mj_recv, jS_a G hs1]) rfl (jS_sets (D := D + 4) G (s := p * 13 + 0) (v := 1) (by omega) ⟨by decide, by decide⟩ hs1) (fun v' h2 hq' => ?_) (fun i h' hq' => by obtain ⟨_, _, h⟩ := hq'; cases h)
    obtain ⟨_, hs2, hq'⟩ := hq'
    cases hq'
    have b1 : jvu W1 (p * 13 + 0) (1) (p * 13 + 0) = 1 := jvu_at _ _ _
    have b2 : ∀ s, s ≠ (p * 13 + 0) → jvu W1 (p * 13 + 0) (1) s = W1 s := fun s hne => jvu_ne _ _ _ hne
    generalize jvu W1 (p * 13 + 0) (1) = W2 at hs2 b1 b2
    iterate 2 refine mj_T.pl rfl rfl rfl rfl ?_
    refine jp_ra (D := D) (V := V) G hpp hp7 ha ha7 hpa hal1 hal hn hfit hdeg (fun W h k1 k2 k3 => ⟨W, h, k1, k2, Or.inr ⟨rfl, k3⟩⟩) n 0 W2 h2 (by omega) hs2 (fun s x1 x2 x3 => by rw [b2 s (by omega), a2 s x1]) (fun e he => ?_) ?_
    · by_cases h0 : e = 0
      · subst h0
        rw [b1]
        exact Nat.le_refl _
      · rw [b2 _ (by omega), a1 e he]
        exact Nat.zero_le _
    · refine Nat.le_trans (jdg_of_zero (d := 1) fun e e1 e2 => ?_) (by omega)
      rw [b2 _ (by omega), a1 e e2]
  refine mj_T.if0 (a := (jdg V a 13 : Int) - 1) rfl ⟨by omega, by omega⟩ (fun hc => ?_) (fun hc => ?_)
  · simp only [jc, Bool.not_eq_true', decide_eq_true_eq, decide_eq_false_iff_not] at hc
    exact t22 (by rw [show jdg V a 13 - 1 = 0 by omega, Nat.zero_mul]; exact Nat.zero_le _)
  simp only [jc, Bool.not_eq_false', decide_eq_true_eq, decide_eq_false_iff_not] at hc
  iterate 2 refine mj_T.pl rfl rfl rfl rfl ?_
  refine mj_T.call (ins := .invokevirtual 114) rfl rfl (Nat.le_of_ble_eq_true rfl) (Nat.le_of_ble_eq_true rfl) (by simp [mj_recv, jS_a G hs]) rfl (jp_degreeOf (D := D + 3) G (p := a) (by omega) hs) (fun v' h' hq' => ?_) (fun i h' hq' => by cases hq')
  cases hq'
  refine mj_T.pl rfl rfl rfl rfl ?_
  have e1 : ((jdg V a 13 : Nat) : Int) - 1 = ((jdg V a 13 - 1 : Nat) : Int) := by omega
  have e2 : (jdg V a 13 - 1) * n ≤ 12 * 12 := Nat.mul_le_mul (by omega) hn
  rw [e1]
  refine mj_T.imul rfl ?_
  rw [← Int.natCast_mul]
  refine mj_T.pl rfl rfl rfl rfl ?_
  refine mj_T.icmp (a := (((jdg V a 13 - 1) * n : Nat) : Int)) (b := 12) rfl ⟨by omega, by omega⟩ ⟨by decide, by decide⟩ (fun hc2 => ?_) (fun hc2 => ?_)
  · simp only [jc, Bool.not_eq_true', decide_eq_true_eq, decide_eq_false_iff_not] at hc2
    exact t22 (by omega)
  · refine mj_T.pl rfl rfl rfl rfl ?_
    exact mj_T.ret rfl rfl rfl ⟨V, h, hs, fun s _ _ _ => rfl, Or.inl ⟨rfl, rfl⟩⟩
end JRA
