/-! The reference's exact division, whole. -/
section JDXF
variable {D : Nat} {hp h : mj_H} {q0 q1 q2 q3 : Nat} {fs : List Value} {V : Nat → Int} {a b db tq : Nat}
theorem jp_dividesExactly (G : jG hp q0 q1 q2 q3 fs) {lc : Int} {al be : Nat} (ha : a ≤ 49) (ha3 : a ≠ 3) (hta : tq ≠ a) (hb : b ≤ 49) (hb3 : b ≠ 3) (htq : tq ≤ 49) (ht3 : tq ≠ 3) (htb : tq ≠ b) (hdb : jdg V b 13 = db + 1) (hlc : V (b * 13 + db) = lc) (hal : ∀ e, e < 13 → (V (a * 13 + e)).natAbs ≤ al) (hbe : ∀ e, e < 13 → (V (b * 13 + e)).natAbs ≤ be) (hbe1 : 1 ≤ be) (hfit : al * (2 * be) ^ (jdg V a 13 - db) < jB ^ 698) (hs : jS hp q1 q2 q3 V h) :
    mj_Ok (D + 6) 213 [.ref q0, .int (jn (tq : Nat)), .int (jn (a : Nat)), .int (jn (b : Nat))] h (fun r => ∃ (W : Nat → Int) (h' : mj_H), jS hp q1 q2 q3 W h' ∧ (∀ s, (s < tq * 13 ∨ tq * 13 + 13 ≤ s) → (s < 39 ∨ 52 ≤ s) → s ≠ 652 → s ≠ 653 → s ≠ 654 → W s = V s) ∧ ((jpo V a = pz_mul (jpo W tq) (jpo V b) ∧ r = (.inl (some (.int (jn 1))), h')) ∨ ((∀ (q' : pz_P) (d : Nat), pz_lt q' d → jpo V a ≠ pz_mul q' (jpo V b)) ∧ r = (.inl (some (.int (jn 0))), h')))) := by
  have hda := jdg_le V a 13
  have hdbl := jdg_le V b 13
  refine mj_Ok.of (M := mj_m213) rfl rfl rfl ?_
  iterate 2 refine mj_T.pl rfl rfl rfl rfl ?_
  refine mj_T.call (ins := .invokevirtual 114) rfl rfl (Nat.le_of_ble_eq_true rfl) (Nat.le_of_ble_eq_true rfl) (by simp [mj_recv, jS_a G hs]) rfl (jp_degreeOf (D := D + 3) G (p := b) (by omega) hs) (fun v' h' hq' => ?_) (fun i h' hq' => by cases hq')
  cases hq'
  rw [hdb, show ((db + 1 : Nat) : Int) - 1 = (db : Int) by omega]
  iterate 3 refine mj_T.pl rfl rfl rfl rfl ?_
  refine mj_T.call (ins := .invokevirtual 110) rfl rfl (Nat.le_of_ble_eq_true rfl) (Nat.le_of_ble_eq_true rfl) (by simp [mj_recv, jS_a G hs]) rfl (jp_empties (D := D + 3) G (p := tq) (by omega) hs) (fun v' g1 hq' => ?_) (fun i h' hq' => by obtain ⟨_, _, h⟩ := hq'; cases h)
  obtain ⟨_, hs1, hq'⟩ := hq'
  cases hq'
  iterate 3 refine mj_T.pl rfl rfl rfl rfl ?_
  refine mj_T.call (ins := .invokevirtual 124) rfl rfl (Nat.le_of_ble_eq_true rfl) (Nat.le_of_ble_eq_true rfl) (by simp [mj_recv, jS_a G hs1]) rfl (jp_copiesPoly (D := D + 2) G (p := 3) (q := a) (by decide) (by omega) (by omega) hs1) (fun v' g2 hq' => ?_) (fun i h' hq' => by obtain ⟨_, _, h⟩ := hq'; cases h)
  obtain ⟨_, hs2, hq'⟩ := hq'
  cases hq'
  have e2 : ∀ e, e < 13 → jfl (jfl V tq (fun _ => 0) 13) 3 (fun e => jfl V tq (fun _ => 0) 13 (a * 13 + e)) 13 (tq * 13 + e) = 0 := fun e he => by
    rw [jfl_off _ 3 _ (by omega), jfl_at _ tq _ he]
  have e3 : ∀ e, e < 13 → jfl (jfl V tq (fun _ => 0) 13) 3 (fun e => jfl V tq (fun _ => 0) 13 (a * 13 + e)) 13 (3 * 13 + e) = V (a * 13 + e) := fun e he => by
    rw [jfl_at _ 3 _ he, jfl_off _ tq _ (by omega)]
  have e4 : ∀ s, (s < tq * 13 ∨ tq * 13 + 13 ≤ s) → (s < 39 ∨ 52 ≤ s) → jfl (jfl V tq (fun _ => 0) 13) 3 (fun e => jfl V tq (fun _ => 0) 13 (a * 13 + e)) 13 s = V s := fun s hc hc2 => by
    rw [jfl_off _ 3 _ (by omega), jfl_off _ tq _ (by omega)]
  generalize jfl (jfl V tq (fun _ => 0) 13) 3 (fun e => jfl V tq (fun _ => 0) 13 (a * 13 + e)) 13 = W at hs2 e2 e3 e4
  have hd3 : jdg W 3 13 = jdg V a 13 := jdg_congr 13 e3
  iterate 2 refine mj_T.pl rfl rfl rfl rfl ?_
  refine mj_T.call (ins := .invokevirtual 114) rfl rfl (Nat.le_of_ble_eq_true rfl) (Nat.le_of_ble_eq_true rfl) (by simp [mj_recv, jS_a G hs2]) rfl (jp_degreeOf (D := D + 3) G (p := 3) (by omega) hs2) (fun v' h' hq' => ?_) (fun i h' hq' => by cases hq')
  cases hq'
  rw [hd3]
  refine mj_T.pl rfl rfl rfl rfl ?_
  have hpo : jpo W 3 = jpo V a := funext fun e => by
    unfold jpo
    split
    · rename_i c
      exact e3 e c
    · rfl
  have hpo2 : jpo W tq = pz_0 := funext fun e => by
    unfold jpo
    split
    · rename_i c
      exact e2 e c
    · rfl
  have hrel : jpo V a = pz_add (pz_mul (jpo W tq) (jpo V b)) (jpo W 3) := by
    rw [hpo, hpo2, pz_mul_0L]
    funext e
    show jpo V a e = 0 + jpo V a e
    omega
  by_cases hcase : db ≤ jdg V a 13
  · have hx : ((jdg V a 13 : Nat) : Int) - 1 = ((db + (jdg V a 13 - db) : Nat) : Int) - 1 := by omega
    rw [hx]
    refine jp_dx (D := D) (V := V) (a := a) (b := b) (db := db) (n := jdg V a 13 - db) (tq := tq) G (lc := lc) (al := al) (be := be) hb hb3 htq ht3 htb hdb hlc (by omega) hbe hbe1 hfit (fun W2 h2 k1 k2 k3 => ⟨W2, h2, k1, k2, Or.inl ⟨k3, rfl⟩⟩) (fun W2 h2 k1 k2 k3 => ⟨W2, h2, k1, k2, Or.inr ⟨k3, rfl⟩⟩) (jdg V a 13 - db) W g2 _ (Nat.le_refl _) hs2 (fun s c c2 _ _ _ => e4 s c c2) hrel (fun e c1 c2 => ?_) (fun e he => e2 e (by omega)) (fun e he => ?_)
    · rw [e3 e c2]
      exact jdg_zero V a 13 e (by omega) c2
    · rw [e2 e he, e3 e he, Nat.sub_self, Nat.pow_zero, Nat.mul_one]
      exact ⟨Nat.zero_le _, hal e he⟩
  · have hBl : pz_lt (jpo V b) (db + 1) := fun i hi => by
      unfold jpo
      split
      · rename_i c
        exact jdg_zero V b 13 i (by omega) c
      · rfl
    have hBn : jpo V b db ≠ 0 := by
      have h0 := jdg_ne V b 13 (by omega)
      rw [hdb, Nat.add_sub_cancel] at h0
      rw [jpo_at (by omega)]
      exact h0
    have hRl : pz_lt (jpo W 3) (0 + db) := fun i hi => by
      unfold jpo
      split
      · rename_i c
        rw [e3 i c]
        exact jdg_zero V a 13 i (by omega) c
      · rfl
    iterate 2 refine mj_T.pl rfl rfl rfl rfl ?_
    refine mj_T.icmp (a := ((jdg V a 13 : Nat) : Int) - 1) (b := (db : Int)) rfl ⟨by omega, by omega⟩ ⟨by omega, by omega⟩ (fun hc => ?_) (fun hc => ?_)
    · iterate 2 refine mj_T.pl rfl rfl rfl rfl ?_
      refine mj_T.call (ins := .invokevirtual 114) rfl rfl (Nat.le_of_ble_eq_true rfl) (Nat.le_of_ble_eq_true rfl) (by simp [mj_recv, jS_a G hs2]) rfl (jp_degreeOf (D := D + 3) G (p := 3) (by omega) hs2) (fun v' h' hq' => ?_) (fun i h' hq' => by cases hq')
      cases hq'
      rw [hd3]
      refine mj_T.if0 (a := (jdg V a 13 : Int) - 1) rfl ⟨by omega, by omega⟩ (fun hc2 => ?_) (fun hc2 => ?_)
      · simp only [jc, decide_eq_true_eq] at hc2
        refine mj_T.pl rfl rfl rfl rfl ?_
        refine mj_T.ret rfl rfl rfl ⟨W, g2, hs2, fun s c c2 _ _ _ => e4 s c c2, Or.inr ⟨fun q' d hq hA => ?_, rfl⟩⟩
        obtain ⟨u, hu, e⟩ := jdx_not hBl hBn hrel hq (jpo_lt W tq) hA hRl
        have e0 : jpo W 3 = pz_0 := by rw [e, pz_lt.zero u hu, pz_mul_0L]
        have hx := jdg_ne W 3 13 (by omega)
        apply hx
        rw [← jpo_at (V := W) (p := 3) (show jdg W 3 13 - 1 < 13 by omega), e0]
        rfl
      · simp only [jc, decide_eq_false_iff_not] at hc2
        iterate 2 refine mj_T.pl rfl rfl rfl rfl ?_
        refine mj_T.ret rfl rfl rfl ⟨W, g2, hs2, fun s c c2 _ _ _ => e4 s c c2, Or.inl ⟨?_, rfl⟩⟩
        rw [hrel]
        funext i
        show pz_mul (jpo W tq) (jpo V b) i + jpo W 3 i = pz_mul (jpo W tq) (jpo V b) i
        have : jpo W 3 i = 0 := by
          unfold jpo
          split
          · rename_i c
            exact jdg_zero W 3 13 i (by omega) c
          · rfl
        omega
    · simp only [jc, decide_eq_false_iff_not] at hc
      omega
end JDXF
