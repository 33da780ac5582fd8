/-! The reference's greatest common divisor of polynomials, whole, over any invariant. -/
section JCW
variable {D : Nat} {hp h : mj_H} {q0 q1 q2 q3 : Nat} {fs : List Value} {V : Nat → Int} {a b to : Nat}
theorem jp_commonsPoly (G : jG hp q0 q1 q2 q3 fs) {J : pz_P → pz_P → Prop} (hto : to ≤ 49) (hta : to ≠ a) (ha : a ≤ 49) (ha2 : a ≠ 2) (ha3 : a ≠ 3) (hb : b ≤ 49) (hb2 : b ≠ 2) (hb3 : b ≠ 3) (hab : a ≠ b) 
    (hJf : ∀ (x y : pz_P) (db n : Nat), J x y → pz_lt x (db + n) → (1 ≤ n → x (db + n - 1) ≠ 0) → pz_lt y (db + 1) → y db ≠ 0 → db < 13 → ∃ al be : Nat, 1 ≤ be ∧ (∀ i, (x i).natAbs ≤ al) ∧ (∀ i, (y i).natAbs ≤ be) ∧ al * (2 * be) ^ n < jB ^ 698)
    (hJs : ∀ (x y q r r1 : pz_P) (db n : Nat), J x y → pz_lt y (db + 1) → y db ≠ 0 → pz_sc (y db ^ n) x = pz_add (pz_mul q y) r → pz_lt q 13 → pz_lt r db → ((r = pz_0 ∧ r1 = pz_0) ∨ ∃ c : Int, c ≠ 0 ∧ r = pz_sc c r1 ∧ pz_prim r1) → J y r1)
    (hJ0 : ∀ x y : pz_P, ((jpo V a = pz_0 ∧ x = pz_0) ∨ ∃ c : Int, c ≠ 0 ∧ jpo V a = pz_sc c x ∧ pz_prim x) → ((jpo V b = pz_0 ∧ y = pz_0) ∨ ∃ c : Int, c ≠ 0 ∧ jpo V b = pz_sc c y ∧ pz_prim y) → J x y) (hs : jS hp q1 q2 q3 V h) :
    mj_Ok (D + 9) 212 [.ref q0, .int (jn (to : Nat)), .int (jn (a : Nat)), .int (jn (b : Nat))] h (fun r => ∃ (W : Nat → Int) (h' : mj_H), jS hp q1 q2 q3 W h' ∧ (∀ s, (s < to * 13 ∨ to * 13 + 13 ≤ s) → (s < a * 13 ∨ a * 13 + 13 ≤ s) → (s < b * 13 ∨ b * 13 + 13 ≤ s) → (s < 26 ∨ 52 ≤ s) → s ≠ 652 → s ≠ 653 → s ≠ 654 → s ≠ 655 → s ≠ 663 → s ≠ 664 → W s = V s) ∧ J (jpo W to) pz_0 ∧ r = (.inl none, h')) := by
  refine mj_Ok.of (M := mj_m212) rfl rfl rfl ?_
  iterate 2 refine mj_T.pl rfl rfl rfl rfl ?_
  refine mj_T.call (ins := .invokevirtual 142) rfl rfl (Nat.le_of_ble_eq_true rfl) (Nat.le_of_ble_eq_true rfl) (by simp [mj_recv, jS_a G hs]) rfl (jp_makesPrimitive (D := D) G (p := a) ha hs) (fun v' h1 hq' => ?_) (fun i h' hq' => by obtain ⟨_, _, _, _, _, h⟩ := hq'; cases h)
  obtain ⟨W1, _, hs1, ⟨f1, hf1, k1⟩, k2, hq'⟩ := hq'
  cases hq'
  iterate 2 refine mj_T.pl rfl rfl rfl rfl ?_
  refine mj_T.call (ins := .invokevirtual 142) rfl rfl (Nat.le_of_ble_eq_true rfl) (Nat.le_of_ble_eq_true rfl) (by simp [mj_recv, jS_a G hs1]) rfl (jp_makesPrimitive (D := D) G (p := b) hb hs1) (fun v' h2 hq' => ?_) (fun i h' hq' => by obtain ⟨_, _, _, _, _, h⟩ := hq'; cases h)
  obtain ⟨W2, _, hs2, ⟨f2, hf2, k3⟩, k4, hq'⟩ := hq'
  cases hq'
  have p1 := jcm_prim (V := V) (W := W1) (p := a) hf1 k1
  have p2 := jcm_prim (V := W1) (W := W2) (p := b) hf2 k3
  have e1 : jpo W1 b = jpo V b := funext fun e => by
    by_cases he : e < 13
    · rw [jpo_at he, jpo_at he, k2 _ (by omega) (by omega) (by omega) (by omega) (by omega) (by omega)]
    · unfold jpo
      rw [if_neg he, if_neg he]
  have e2 : jpo W2 a = jpo W1 a := funext fun e => by
    by_cases he : e < 13
    · rw [jpo_at he, jpo_at he, k4 _ (by omega) (by omega) (by omega) (by omega) (by omega) (by omega)]
    · unfold jpo
      rw [if_neg he, if_neg he]
  rw [e1] at p2
  have hJ : J (jpo W2 a) (jpo W2 b) := by
    rw [e2]
    exact hJ0 _ _ p1 p2
  refine jp_cm (D := D) (V := V) (a := a) (b := b) (to := to) G (J := J) ha ha2 ha3 hb hb2 hb3 hab hJf hJs (fun W3 h3 e4 hs3 hf3 hJ3 hz3 => ?_) (jdg W2 b 13) W2 h2 _ (Nat.le_refl _) hs2 (fun s c1 c2 c3 c4 c5 c6 c7 c8 c9 => by rw [k4 s c2 c4 c5 c7 c8 c9, k2 s c1 c4 c5 c7 c8 c9]) hJ
  iterate 3 refine mj_T.pl rfl rfl rfl rfl ?_
  refine mj_T.call (ins := .invokevirtual 124) rfl rfl (Nat.le_of_ble_eq_true rfl) (Nat.le_of_ble_eq_true rfl) (by simp [mj_recv, jS_a G hs3]) rfl (jp_copiesPoly (D := D + 5) G (p := to) (q := a) (by omega) (by omega) hta hs3) (fun v' h4 hq' => ?_) (fun i h' hq' => by obtain ⟨_, _, h⟩ := hq'; cases h)
  obtain ⟨_, hs4, hq'⟩ := hq'
  cases hq'
  refine mj_T.ret rfl rfl rfl ⟨_, h4, hs4, fun s c0 c1 c2 c3 c4 c5 c6 c7 c8 c9 => ?_, ?_, rfl⟩
  · rw [jfl_off _ to _ c0]
    exact hf3 s c1 c2 c3 c4 c5 c6 c7 c8 c9
  · have e3 : jpo (jfl W3 to (fun e => W3 (a * 13 + e)) 13) to = jpo W3 a := funext fun e => by
      by_cases he : e < 13
      · rw [jpo_at he, jpo_at he, jfl_at _ to _ he]
      · unfold jpo
        rw [if_neg he, if_neg he]
    have e4 : jpo W3 b = pz_0 := funext fun e => by
      by_cases he : e < 13
      · rw [jpo_at he, hz3 e he]
        rfl
      · unfold jpo
        rw [if_neg he]
        rfl
    rw [e3, ← e4]
    exact hJ3
end JCW
