/-! The reference's division with remainder: its two inner loops. -/
section JDV
variable {D : Nat} {hp h : mj_H} {q0 q1 q2 q3 : Nat} {fs : List Value} {V : Nat → Int} {a b db n lf dd : Nat}
theorem jp_dv1 (G : jG hp q0 q1 q2 q3 fs) {qf rf : Nat → Int} {lc : Int} (hb : b ≤ 49) (hb2 : b ≠ 2) (hb3 : b ≠ 3) (hdb : db < 13) (hlc : V (b * 13 + db) = lc) (hfq : ∀ e, e < 13 → jnl (qf e * lc).natAbs ≤ 698) (hfr : ∀ e, e < 13 → jnl (rf e * lc).natAbs ≤ 698) {Q : mj_R → Prop}
    (hend : ∀ (W : Nat → Int) (h : mj_H), jS hp q1 q2 q3 W h → (∀ e, e < 13 → W (2 * 13 + e) = qf e * lc ∧ W (3 * 13 + e) = rf e * lc) → (∀ s, (s < 26 ∨ 52 ≤ s) → W s = V s) → mj_T (D + 2) mj_m211 141 [some (.ref q0), some (.int (jn ((2 : Nat) : Int))), some (.int (jn ((3 : Nat) : Int))), some (.int (jn (a : Nat))), some (.int (jn (b : Nat))), some (.int (jn (db : Nat))), some (.int (jn (n : Nat))), some (.int (jn (lf : Nat))), some (.int (jn (dd : Nat))), some (.int (jn ((13 : Nat) : Int)))] [] h Q) :
    ∀ (d k : Nat) (W : Nat → Int) (h : mj_H), k + d = 13 → jS hp q1 q2 q3 W h → (∀ e, e < k → W (2 * 13 + e) = qf e * lc ∧ W (3 * 13 + e) = rf e * lc) → (∀ e, k ≤ e → e < 13 → W (2 * 13 + e) = qf e ∧ W (3 * 13 + e) = rf e) → (∀ s, (s < 26 ∨ 52 ≤ s) → W s = V s) → mj_T (D + 2) mj_m211 82 [some (.ref q0), some (.int (jn ((2 : Nat) : Int))), some (.int (jn ((3 : Nat) : Int))), some (.int (jn (a : Nat))), some (.int (jn (b : Nat))), some (.int (jn (db : Nat))), some (.int (jn (n : Nat))), some (.int (jn (lf : Nat))), some (.int (jn (dd : Nat))), some (.int (jn (k : Nat)))] [] h Q := by
  intro d
  induction d with
  | zero =>
    intro k W h hk hs h1 h2 hf
    have hk : k = 13 := by omega
    subst hk
    iterate 2 refine mj_T.pl rfl rfl rfl rfl ?_
    refine mj_T.icmp (a := ((13 : Nat) : Int)) (b := 13) rfl ⟨by decide, by decide⟩ ⟨by decide, by decide⟩ (fun hc => ?_) (fun hc => ?_)
    · exact hend W h hs h1 hf
    · simp [jc] at hc
  | succ d ih =>
    intro k W h hk hs h1 h2 hf
    obtain ⟨eq, er⟩ := h2 k (Nat.le_refl _) (by omega)
    have el : W (b * 13 + db) = lc := by rw [hf _ (by omega)]; exact hlc
    iterate 2 refine mj_T.pl rfl rfl rfl rfl ?_
    refine mj_T.icmp (a := (k : Int)) (b := 13) rfl ⟨by omega, by omega⟩ ⟨by decide, by decide⟩ (fun hc => ?_) (fun hc => ?_)
    · simp only [jc, decide_eq_true_eq] at hc
      omega
    · iterate 3 refine mj_T.pl rfl rfl rfl rfl ?_
      refine mj_T.call (ins := .invokestatic 104) rfl rfl (Nat.le_of_ble_eq_true rfl) (Nat.le_of_ble_eq_true rfl) rfl rfl (jq_slot (D := D + 1) (p := 2) (i := k)) (fun v' h' hq' => ?_) (fun i h' hq' => by cases hq')
      cases hq'
      iterate 2 refine mj_T.pl rfl rfl rfl rfl ?_
      refine mj_T.call (ins := .invokestatic 104) rfl rfl (Nat.le_of_ble_eq_true rfl) (Nat.le_of_ble_eq_true rfl) rfl rfl (jq_slot (D := D + 1) (p := 2) (i := k)) (fun v' h' hq' => ?_) (fun i h' hq' => by cases hq')
      cases hq'
      iterate 2 refine mj_T.pl rfl rfl rfl rfl ?_
      refine mj_T.call (ins := .invokestatic 104) rfl rfl (Nat.le_of_ble_eq_true rfl) (Nat.le_of_ble_eq_true rfl) rfl rfl (jq_slot (D := D + 1) (p := b) (i := db)) (fun v' h' hq' => ?_) (fun i h' hq' => by cases hq')
      cases hq'
      refine mj_T.call (ins := .invokevirtual 117) rfl rfl (Nat.le_of_ble_eq_true rfl) (Nat.le_of_ble_eq_true rfl) (by simp [mj_recv, jS_a G hs]) rfl (jS_mul (D := D) G (to := 2 * 13 + k) (a := 2 * 13 + k) (b := b * 13 + db) (by omega) (by omega) (by omega) (by rw [eq, el]; exact hfq k (by omega)) hs) (fun v' g1 hq' => ?_) (fun i h' hq' => by obtain ⟨_, _, h⟩ := hq'; cases h)
      obtain ⟨_, hs1, hq'⟩ := hq'
      cases hq'
      have f1 : ∀ s, s ≠ 2 * 13 + k → jvu W (2 * 13 + k) (W (2 * 13 + k) * W (b * 13 + db)) s = W s := fun s c => by unfold jvu; rw [if_neg c]
      have f2 : jvu W (2 * 13 + k) (W (2 * 13 + k) * W (b * 13 + db)) (2 * 13 + k) = qf k * lc := by unfold jvu; rw [if_pos rfl, eq, el]
      generalize jvu W (2 * 13 + k) (W (2 * 13 + k) * W (b * 13 + db)) = W1 at hs1 f1 f2
      iterate 3 refine mj_T.pl rfl rfl rfl rfl ?_
      refine mj_T.call (ins := .invokestatic 104) rfl rfl (Nat.le_of_ble_eq_true rfl) (Nat.le_of_ble_eq_true rfl) rfl rfl (jq_slot (D := D + 1) (p := 3) (i := k)) (fun v' h' hq' => ?_) (fun i h' hq' => by cases hq')
      cases hq'
      iterate 2 refine mj_T.pl rfl rfl rfl rfl ?_
      refine mj_T.call (ins := .invokestatic 104) rfl rfl (Nat.le_of_ble_eq_true rfl) (Nat.le_of_ble_eq_true rfl) rfl rfl (jq_slot (D := D + 1) (p := 3) (i := k)) (fun v' h' hq' => ?_) (fun i h' hq' => by cases hq')
      cases hq'
      iterate 2 refine mj_T.pl rfl rfl rfl rfl ?_
      refine mj_T.call (ins := .invokestatic 104) rfl rfl (Nat.le_of_ble_eq_true rfl) (Nat.le_of_ble_eq_true rfl) rfl rfl (jq_slot (D := D + 1) (p := b) (i := db)) (fun v' h' hq' => ?_) (fun i h' hq' => by cases hq')
      cases hq'
      refine mj_T.call (ins := .invokevirtual 117) rfl rfl (Nat.le_of_ble_eq_true rfl) (Nat.le_of_ble_eq_true rfl) (by simp [mj_recv, jS_a G hs1]) rfl (jS_mul (D := D) G (to := 3 * 13 + k) (a := 3 * 13 + k) (b := b * 13 + db) (by omega) (by omega) (by omega) (by rw [f1 _ (by omega), f1 _ (by omega), er, el]; exact hfr k (by omega)) hs1) (fun v' g2 hq' => ?_) (fun i h' hq' => by obtain ⟨_, _, h⟩ := hq'; cases h)
      obtain ⟨_, hs2, hq'⟩ := hq'
      cases hq'
      have f3 : ∀ s, s ≠ 3 * 13 + k → jvu W1 (3 * 13 + k) (W1 (3 * 13 + k) * W1 (b * 13 + db)) s = W1 s := fun s c => by unfold jvu; rw [if_neg c]
      have f4 : jvu W1 (3 * 13 + k) (W1 (3 * 13 + k) * W1 (b * 13 + db)) (3 * 13 + k) = rf k * lc := by unfold jvu; rw [if_pos rfl, f1 _ (by omega), f1 _ (by omega), er, el]
      generalize jvu W1 (3 * 13 + k) (W1 (3 * 13 + k) * W1 (b * 13 + db)) = W2 at hs2 f3 f4
      refine mj_T.iinc (a := k) rfl rfl ?_
      refine mj_T.pl rfl rfl rfl rfl ?_
      refine ih (k + 1) W2 g2 (by omega) hs2 (fun e he => ?_) (fun e a1 a2 => ?_) (fun s c => ?_)
      · by_cases c : e = k
        · rw [c, f4, f3 _ (by omega), f2]
          exact ⟨rfl, rfl⟩
        · rw [f3 _ (by omega), f1 _ (by omega), f3 _ (by omega), f1 _ (by omega)]
          exact h1 e (by omega)
      · rw [f3 _ (by omega), f1 _ (by omega), f3 _ (by omega), f1 _ (by omega)]
        exact h2 e (by omega) a2
      · rw [f3 _ (by omega), f1 _ (by omega)]
        exact hf s c
theorem jp_dv2 (G : jG hp q0 q1 q2 q3 fs) {rf : Nat → Int} {t : Int} (hb : b ≤ 49) (hb2 : b ≠ 2) (hb3 : b ≠ 3) (hdb : db ≤ dd) (hdd : dd < 13) (ht : V 654 = t) (hfp : ∀ e, e ≤ db → jnl (t * V (b * 13 + e)).natAbs ≤ 698) (hfr : ∀ e, e ≤ db → jnl (rf (dd - db + e) + -1 * (t * V (b * 13 + e))).natAbs ≤ 698) {Q : mj_R → Prop}
    (hend : ∀ (W : Nat → Int) (h : mj_H), jS hp q1 q2 q3 W h → (∀ e, e ≤ db → W (3 * 13 + (dd - db + e)) = rf (dd - db + e) + -1 * (t * V (b * 13 + e))) → (∀ s, (s < 3 * 13 + (dd - db) ∨ 3 * 13 + dd < s) → s ≠ 652 → W s = V s) → mj_T (D + 4) mj_m211 232 [some (.ref q0), some (.int (jn ((2 : Nat) : Int))), some (.int (jn ((3 : Nat) : Int))), some (.int (jn (a : Nat))), some (.int (jn (b : Nat))), some (.int (jn (db : Nat))), some (.int (jn (n : Nat))), some (.int (jn (lf : Nat))), some (.int (jn (dd : Nat))), some (.int (jn ((db + 1 : Nat) : Int)))] [] h Q) :
    ∀ (d k : Nat) (W : Nat → Int) (h : mj_H), k + d = db + 1 → jS hp q1 q2 q3 W h → (∀ e, e < k → W (3 * 13 + (dd - db + e)) = rf (dd - db + e) + -1 * (t * V (b * 13 + e))) → (∀ e, k ≤ e → e ≤ db → W (3 * 13 + (dd - db + e)) = rf (dd - db + e)) → (∀ s, (s < 3 * 13 + (dd - db) ∨ 3 * 13 + dd < s) → s ≠ 652 → W s = V s) → mj_T (D + 4) mj_m211 170 [some (.ref q0), some (.int (jn ((2 : Nat) : Int))), some (.int (jn ((3 : Nat) : Int))), some (.int (jn (a : Nat))), some (.int (jn (b : Nat))), some (.int (jn (db : Nat))), some (.int (jn (n : Nat))), some (.int (jn (lf : Nat))), some (.int (jn (dd : Nat))), some (.int (jn (k : Nat)))] [] h Q := by
  intro d
  induction d with
  | zero =>
    intro k W h hk hs h1 h2 hf
    have hk : k = db + 1 := by omega
    subst hk
    iterate 2 refine mj_T.pl rfl rfl rfl rfl ?_
    refine mj_T.icmp (a := ((db + 1 : Nat) : Int)) (b := (db : Int)) rfl ⟨by omega, by omega⟩ ⟨by omega, by omega⟩ (fun hc => ?_) (fun hc => ?_)
    · exact hend W h hs (fun e he => h1 e (by omega)) hf
    · simp only [jc, decide_eq_false_iff_not] at hc
      omega
  | succ d ih =>
    intro k W h hk hs h1 h2 hf
    have er := h2 k (Nat.le_refl _) (by omega)
    have eb : W (b * 13 + k) = V (b * 13 + k) := hf _ (by omega) (by omega)
    have et : W 654 = t := by rw [hf 654 (by omega) (by decide)]; exact ht
    iterate 2 refine mj_T.pl rfl rfl rfl rfl ?_
    refine mj_T.icmp (a := (k : Int)) (b := (db : Int)) rfl ⟨by omega, by omega⟩ ⟨by omega, by omega⟩ (fun hc => ?_) (fun hc => ?_)
    · simp only [jc, decide_eq_true_eq] at hc
      omega
    · iterate 5 refine mj_T.pl rfl rfl rfl rfl ?_
      refine mj_T.call (ins := .invokestatic 104) rfl rfl (Nat.le_of_ble_eq_true rfl) (Nat.le_of_ble_eq_true rfl) rfl rfl (jq_slot (D := D + 3) (p := b) (i := k)) (fun v' h' hq' => ?_) (fun i h' hq' => by cases hq')
      cases hq'
      refine mj_T.call (ins := .invokevirtual 117) rfl rfl (Nat.le_of_ble_eq_true rfl) (Nat.le_of_ble_eq_true rfl) (by simp [mj_recv, jS_a G hs]) rfl (jS_mul (D := D + 2) G (to := 652) (a := 654) (b := b * 13 + k) (by decide) (by decide) (by omega) (by rw [et, eb]; exact hfp k (by omega)) hs) (fun v' g1 hq' => ?_) (fun i h' hq' => by obtain ⟨_, _, h⟩ := hq'; cases h)
      obtain ⟨_, hs1, hq'⟩ := hq'
      cases hq'
      have f1 : ∀ s, s ≠ 652 → jvu W 652 (W 654 * W (b * 13 + k)) s = W s := fun s c => by unfold jvu; rw [if_neg c]
      have f2 : jvu W 652 (W 654 * W (b * 13 + k)) 652 = t * V (b * 13 + k) := by unfold jvu; rw [if_pos rfl, et, eb]
      generalize jvu W 652 (W 654 * W (b * 13 + k)) = W1 at hs1 f1 f2
      refine mj_T.pl rfl rfl rfl rfl ?_
      iterate 3 refine mj_T.pl rfl rfl rfl rfl ?_
      refine mj_T.isub (a := (dd : Int)) (b := (db : Int)) rfl ?_
      refine mj_T.pl rfl rfl rfl rfl ?_
      refine mj_T.iadd (a := (dd : Int) - (db : Int)) (b := (k : Int)) rfl ?_
      rw [show (dd : Int) - (db : Int) + (k : Int) = ((dd - db + k : Nat) : Int) by omega]
      refine mj_T.call (ins := .invokestatic 104) rfl rfl (Nat.le_of_ble_eq_true rfl) (Nat.le_of_ble_eq_true rfl) rfl rfl (jq_slot (D := D + 3) (p := 3) (i := dd - db + k)) (fun v' h' hq' => ?_) (fun i h' hq' => by cases hq')
      cases hq'
      iterate 3 refine mj_T.pl rfl rfl rfl rfl ?_
      refine mj_T.isub (a := (dd : Int)) (b := (db : Int)) rfl ?_
      refine mj_T.pl rfl rfl rfl rfl ?_
      refine mj_T.iadd (a := (dd : Int) - (db : Int)) (b := (k : Int)) rfl ?_
      rw [show (dd : Int) - (db : Int) + (k : Int) = ((dd - db + k : Nat) : Int) by omega]
      refine mj_T.call (ins := .invokestatic 104) rfl rfl (Nat.le_of_ble_eq_true rfl) (Nat.le_of_ble_eq_true rfl) rfl rfl (jq_slot (D := D + 3) (p := 3) (i := dd - db + k)) (fun v' h' hq' => ?_) (fun i h' hq' => by cases hq')
      cases hq'
      iterate 2 refine mj_T.pl rfl rfl rfl rfl ?_
      refine mj_T.call (ins := .invokevirtual 107) rfl rfl (Nat.le_of_ble_eq_true rfl) (Nat.le_of_ble_eq_true rfl) (by simp [mj_recv, jS_a G hs1]) rfl (jS_adds (D := D) G (to := 3 * 13 + (dd - db + k)) (a := 3 * 13 + (dd - db + k)) (b := 652) (f := -1) (by omega) (by omega) (by decide) (Or.inr rfl) (by rw [f1 _ (by omega), er, f2]; exact hfr k (by omega)) hs1) (fun v' g2 hq' => ?_) (fun i h' hq' => by obtain ⟨_, _, h⟩ := hq'; cases h)
      obtain ⟨_, hs2, hq'⟩ := hq'
      cases hq'
      have f3 : ∀ s, s ≠ 3 * 13 + (dd - db + k) → jvu W1 (3 * 13 + (dd - db + k)) (W1 (3 * 13 + (dd - db + k)) + -1 * W1 652) s = W1 s := fun s c => by unfold jvu; rw [if_neg c]
      have f4 : jvu W1 (3 * 13 + (dd - db + k)) (W1 (3 * 13 + (dd - db + k)) + -1 * W1 652) (3 * 13 + (dd - db + k)) = rf (dd - db + k) + -1 * (t * V (b * 13 + k)) := by unfold jvu; rw [if_pos rfl, f1 _ (by omega), er, f2]
      generalize jvu W1 (3 * 13 + (dd - db + k)) (W1 (3 * 13 + (dd - db + k)) + -1 * W1 652) = W2 at hs2 f3 f4
      refine mj_T.iinc (a := k) rfl rfl ?_
      refine mj_T.pl rfl rfl rfl rfl ?_
      refine ih (k + 1) W2 g2 (by omega) hs2 (fun e he => ?_) (fun e a1 a2 => ?_) (fun s c c6 => ?_)
      · by_cases c : e = k
        · rw [c]; exact f4
        · rw [f3 _ (by omega), f1 _ (by omega)]
          exact h1 e (by omega)
      · rw [f3 _ (by omega), f1 _ (by omega)]
        exact h2 e (by omega) a2
      · rw [f3 _ (by omega), f1 _ c6]
        exact hf s c c6
end JDV
