/-! The reference's division with remainder, whole. -/
theorem jdg_congr {V W : Nat → Int} {p q : Nat} : ∀ k, (∀ e, e < k → W (q * 13 + e) = V (p * 13 + e)) → jdg W q k = jdg V p k
  | 0, _ => rfl
  | k + 1, h => by
    unfold jdg
    rw [h k (by omega), jdg_congr k (fun e he => h e (by omega))]
section JDX
variable {D : Nat} {hp h : mj_H} {q0 q1 q2 q3 : Nat} {fs : List Value} {V : Nat → Int} {a b db : Nat}
theorem jp_dividesPoly (G : jG hp q0 q1 q2 q3 fs) {lc : Int} {al be : Nat} (ha : a ≤ 49) (ha2 : a ≠ 2) (ha3 : a ≠ 3) (hb : b ≤ 49) (hb2 : b ≠ 2) (hb3 : b ≠ 3) (hdb : jdg V b 13 = db + 1) (hlc : V (b * 13 + db) = lc) (hal : ∀ e, e < 13 → (V (a * 13 + e)).natAbs ≤ al) (hbe : ∀ e, e < 13 → (V (b * 13 + e)).natAbs ≤ be) (hbe1 : 1 ≤ be) (hfit : al * (2 * be) ^ (jdg V a 13 - db) < jB ^ 698) (hs : jS hp q1 q2 q3 V h) :
    mj_Ok (D + 5) 211 [.ref q0, .int (jn ((2 : Nat) : Int)), .int (jn ((3 : Nat) : Int)), .int (jn (a : Nat)), .int (jn (b : Nat))] h (fun r => ∃ (W : Nat → Int) (h' : mj_H), jS hp q1 q2 q3 W h' ∧ (∀ s, (s < 26 ∨ 52 ≤ s) → s ≠ 652 → s ≠ 654 → W s = V s) ∧ pz_sc (lc ^ (jdg V a 13 - db)) (jpo V a) = pz_add (pz_mul (jpo W 2) (jpo V b)) (jpo W 3) ∧ (∀ e, db ≤ e → e < 13 → W (3 * 13 + e) = 0) ∧ (∀ e, e < 13 → (W (2 * 13 + e)).natAbs ≤ al * (2 * be) ^ (jdg V a 13 - db) ∧ (W (3 * 13 + e)).natAbs ≤ al * (2 * be) ^ (jdg V a 13 - db)) ∧ r = (.inl (some (.int (jn ((jdg V a 13 - db : Nat) : Int)))), h')) := by
  have hda := jdg_le V a 13
  have hdbl := jdg_le V b 13
  refine mj_Ok.of (M := mj_m211) rfl rfl rfl ?_
  iterate 2 refine mj_T.pl rfl rfl rfl rfl ?_
  refine mj_T.call (ins := .invokevirtual 114) rfl rfl (Nat.le_of_ble_eq_true rfl) (Nat.le_of_ble_eq_true rfl) (by simp [mj_recv, jS_a G hs]) rfl (jp_degreeOf (D := D + 2) G (p := b) (by omega) hs) (fun v' h' hq' => ?_) (fun i h' hq' => by cases hq')
  cases hq'
  rw [hdb, show ((db + 1 : Nat) : Int) - 1 = (db : Int) by omega]
  iterate 3 refine mj_T.pl rfl rfl rfl rfl ?_
  refine mj_T.call (ins := .invokevirtual 114) rfl rfl (Nat.le_of_ble_eq_true rfl) (Nat.le_of_ble_eq_true rfl) (by simp [mj_recv, jS_a G hs]) rfl (jp_degreeOf (D := D + 2) G (p := a) (by omega) hs) (fun v' h' hq' => ?_) (fun i h' hq' => by cases hq')
  cases hq'
  refine mj_T.pl rfl rfl rfl rfl ?_
  refine mj_T.isub (a := (jdg V a 13 : Int) - 1) (b := (db : Int)) rfl ?_
  refine mj_T.pl rfl rfl rfl rfl ?_
  refine mj_T.iadd (a := (jdg V a 13 : Int) - 1 - (db : Int)) (b := 1) rfl ?_
  refine mj_T.pl rfl rfl rfl rfl ?_
  refine mj_T.imax (a := (jdg V a 13 : Int) - 1 - (db : Int) + 1) (b := 0) rfl rfl (Nat.le_of_ble_eq_true rfl) ⟨by omega, by omega⟩ ⟨by decide, by decide⟩ ?_
  rw [show max ((jdg V a 13 : Int) - 1 - (db : Int) + 1) 0 = ((jdg V a 13 - db : Nat) : Int) by omega]
  iterate 3 refine mj_T.pl rfl rfl rfl rfl ?_
  refine mj_T.call (ins := .invokevirtual 110) rfl rfl (Nat.le_of_ble_eq_true rfl) (Nat.le_of_ble_eq_true rfl) (by simp [mj_recv, jS_a G hs]) rfl (jp_empties (D := D + 2) G (p := 2) (by decide) hs) (fun v' g1 hq' => ?_) (fun i h' hq' => by obtain ⟨_, _, h⟩ := hq'; cases h)
  obtain ⟨_, hs1, hq'⟩ := hq'
  cases hq'
  iterate 2 refine mj_T.pl rfl rfl rfl rfl ?_
  refine mj_T.icmp (a := ((3 : Nat) : Int)) (b := (a : Int)) rfl ⟨by decide, by decide⟩ ⟨by omega, by omega⟩ (fun hc => ?_) (fun hc => ?_)
  · simp only [jc, decide_eq_true_eq] at hc
    omega
  iterate 3 refine mj_T.pl rfl rfl rfl rfl ?_
  refine mj_T.call (ins := .invokevirtual 124) rfl rfl (Nat.le_of_ble_eq_true rfl) (Nat.le_of_ble_eq_true rfl) (by simp [mj_recv, jS_a G hs1]) rfl (jp_copiesPoly (D := D + 1) G (p := 3) (q := a) (by decide) (by omega) (by omega) hs1) (fun v' g2 hq' => ?_) (fun i h' hq' => by obtain ⟨_, _, h⟩ := hq'; cases h)
  obtain ⟨_, hs2, hq'⟩ := hq'
  cases hq'
  have e2 : ∀ e, e < 13 → jfl (jfl V 2 (fun _ => 0) 13) 3 (fun e => jfl V 2 (fun _ => 0) 13 (a * 13 + e)) 13 (2 * 13 + e) = 0 := fun e he => by
    rw [jfl_off _ 3 _ (by omega), jfl_at _ 2 _ he]
  have e3 : ∀ e, e < 13 → jfl (jfl V 2 (fun _ => 0) 13) 3 (fun e => jfl V 2 (fun _ => 0) 13 (a * 13 + e)) 13 (3 * 13 + e) = V (a * 13 + e) := fun e he => by
    rw [jfl_at _ 3 _ he, jfl_off _ 2 _ (by omega)]
  have e4 : ∀ s, (s < 26 ∨ 52 ≤ s) → jfl (jfl V 2 (fun _ => 0) 13) 3 (fun e => jfl V 2 (fun _ => 0) 13 (a * 13 + e)) 13 s = V s := fun s hc => by
    rw [jfl_off _ 3 _ (by omega), jfl_off _ 2 _ (by omega)]
  generalize jfl (jfl V 2 (fun _ => 0) 13) 3 (fun e => jfl V 2 (fun _ => 0) 13 (a * 13 + e)) 13 = W at hs2 e2 e3 e4
  have hd3 : jdg W 3 13 = jdg V a 13 := jdg_congr 13 e3
  iterate 4 refine mj_T.pl rfl rfl rfl rfl ?_
  refine mj_T.call (ins := .invokevirtual 114) rfl rfl (Nat.le_of_ble_eq_true rfl) (Nat.le_of_ble_eq_true rfl) (by simp [mj_recv, jS_a G hs2]) rfl (jp_degreeOf (D := D + 2) G (p := 3) (by omega) hs2) (fun v' h' hq' => ?_) (fun i h' hq' => by cases hq')
  cases hq'
  rw [hd3]
  refine mj_T.pl rfl rfl rfl rfl ?_
  have hpo : jpo W 3 = jpo V a := funext fun e => by
    unfold jpo
    split
    · rename_i c
      exact e3 e c
    · rfl
  have hpo2 : jpo W 2 = pz_0 := funext fun e => by
    unfold jpo
    split
    · rename_i c
      exact e2 e c
    · rfl
  have hrel : pz_sc (lc ^ 0) (jpo V a) = pz_add (pz_mul (jpo W 2) (jpo V b)) (jpo W 3) := by
    rw [hpo, hpo2, pz_mul_0L]
    funext e
    show lc ^ 0 * jpo V a e = 0 + jpo V a e
    rw [Int.pow_zero, Int.one_mul]
    omega
  have hbd : ∀ e, e < 13 → (W (2 * 13 + e)).natAbs ≤ al * (2 * be) ^ 0 ∧ (W (3 * 13 + e)).natAbs ≤ al * (2 * be) ^ 0 := fun e he => by
    rw [e2 e he, e3 e he, Nat.pow_zero, Nat.mul_one]
    exact ⟨Nat.zero_le _, hal e he⟩
  by_cases hcase : db ≤ jdg V a 13
  · have hx : ((jdg V a 13 : Nat) : Int) - 1 = ((db + (jdg V a 13 - db) : Nat) : Int) - 1 := by omega
    rw [hx]
    refine jp_dv (D := D) (V := V) (a := a) (b := b) (db := db) (n := jdg V a 13 - db) G (lc := lc) (al := al) (be := be) hb hb2 hb3 hdb hlc (by omega) hbe hbe1 hfit (fun W2 h2 k1 k2 k3 k4 k5 => ⟨W2, h2, k1, k2, k3, k4, k5, rfl⟩) (jdg V a 13 - db) W g2 _ (Nat.le_refl _) hs2 (fun s c _ _ => e4 s c) (by rw [Nat.sub_self]; exact hrel) (fun e c1 c2 => ?_) (fun e he => by rw [Nat.sub_self]; exact hbd e he)
    rw [e3 e c2]
    exact jdg_zero V a 13 e (by omega) c2
  · have hn0 : jdg V a 13 - db = 0 := by omega
    rw [hn0]
    iterate 2 refine mj_T.pl rfl rfl rfl rfl ?_
    refine mj_T.icmp (a := ((jdg V a 13 : Nat) : Int) - 1) (b := (db : Int)) rfl ⟨by omega, by omega⟩ ⟨by omega, by omega⟩ (fun hc2 => ?_) (fun hc2 => ?_)
    · refine mj_T.pl rfl rfl rfl rfl ?_
      refine mj_T.ret rfl rfl rfl ⟨W, g2, hs2, fun s c _ _ => e4 s c, hrel, fun e c1 c2 => ?_, hbd, rfl⟩
      rw [e3 e c2]
      exact jdg_zero V a 13 e (by omega) c2
    · simp only [jc, decide_eq_false_iff_not] at hc2
      omega
end JDX
