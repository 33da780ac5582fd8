/-! The reference's greatest common divisor of two registers, and its simple part. -/
theorem jpo_eq {V W : Nat → Int} {p q : Nat} (h : ∀ e, e < 13 → W (q * 13 + e) = V (p * 13 + e)) : jpo W q = jpo V p := funext fun e => by
  by_cases he : e < 13
  · rw [jpo_at he, jpo_at he, h e he]
  · unfold jpo
    rw [if_neg he, if_neg he]
theorem jpo_le {V : Nat → Int} {p A : Nat} (h : ∀ e, e < 13 → (V (p * 13 + e)).natAbs ≤ A) : ∀ i, (jpo V p i).natAbs ≤ A := fun i => by
  by_cases he : i < 13
  · rw [jpo_at he]
    exact h i he
  · unfold jpo
    rw [if_neg he]
    exact Nat.zero_le _
theorem jpo_ne {V : Nat → Int} {p : Nat} (h : jpo V p ≠ pz_0) : 1 ≤ jdg V p 13 := by
  rcases Nat.eq_zero_or_pos (jdg V p 13) with e | e
  · refine absurd (funext fun i => ?_) h
    by_cases he : i < 13
    · rw [jpo_at he]
      exact jdg_zero V p 13 i (by omega) he
    · unfold jpo
      rw [if_neg he]
      rfl
  · exact e
section JSI
variable {D : Nat} {hp h : mj_H} {q0 q1 q2 q3 : Nat} {fs : List Value} {V : Nat → Int} {a b to : Nat}
theorem jp_commonsA (G : jG hp q0 q1 q2 q3 fs) {A : Nat} (hA : kq_fit A) (hto : to ≤ 49) (hta : to ≠ a) (ha : a ≤ 49) (ha2 : a ≠ 2) (ha3 : a ≠ 3) (hb : b ≤ 49) (hb2 : b ≠ 2) (hb3 : b ≠ 3) (hab : a ≠ b) (hVa : ∀ e, e < 13 → (V (a * 13 + e)).natAbs ≤ A) (hVb : ∀ e, e < 13 → (V (b * 13 + e)).natAbs ≤ A) (hs : jS hp q1 q2 q3 V h) :
    mj_Ok (D + 9) 212 [.ref q0, .int (jn (to : Nat)), .int (jn (a : Nat)), .int (jn (b : Nat))] h (fun r => ∃ (W : Nat → Int) (h' : mj_H), jS hp q1 q2 q3 W h' ∧ (∀ s, (s < to * 13 ∨ to * 13 + 13 ≤ s) → (s < a * 13 ∨ a * 13 + 13 ≤ s) → (s < b * 13 ∨ b * 13 + 13 ≤ s) → (s < 26 ∨ 52 ≤ s) → s ≠ 652 → s ≠ 653 → s ≠ 654 → s ≠ 655 → s ≠ 663 → s ≠ 664 → W s = V s) ∧ ((∀ i, (jpo W to i).natAbs ≤ kq_F A 24) ∧ (jpo V a ≠ pz_0 → pz_prim (jpo W to) ∧ ∃ (c : Int) (T : pz_P) (N : Nat), c ≠ 0 ∧ pz_lt T N ∧ pz_sc c (jpo V a) = pz_mul T (jpo W to))) ∧ r = (.inl none, h')) :=
  mj_Ok.to (jp_commonsPoly (D := D) (V := V) G (J := kq_J A (jpo V a) (jpo V b)) hto hta ha ha2 ha3 hb hb2 hb3 hab (fun x y db n hJ h1 h2 h3 h4 h5 => kq_fits hA (jpo_lt V a) (jpo_lt V b) (jpo_le hVa) (jpo_le hVb) x y db n hJ h1 h2 h3 h4 h5) (fun x y q r r1 db n hJ h1 h2 h3 h4 h5 h6 => kq_step hA.1 (jpo_lt V a) (jpo_lt V b) (jpo_le hVa) (jpo_le hVb) x y q r r1 db hJ h1 h2 (Int.pow_ne_zero h2) h3 h4 h5 h6) (fun x y h1 h2 => kq_start h1 h2) hs) (fun r hr => by
    obtain ⟨W, h', k1, k2, k3, k4⟩ := hr
    obtain ⟨e1, e2, e3, e4⟩ := kq_end hA.1 (jpo_lt V a) (jpo_le hVa) k3
    exact ⟨W, h', k1, k2, ⟨e2, e4⟩, k4⟩)
theorem kq_small : 10 ^ 18 * 13 < jB ^ 698 := by decide +kernel
theorem kq_room24 : 10 ^ 18 * (2 * kq_F (10 ^ 18 * 13) 24) ^ 12 < jB ^ 698 := by decide +kernel
theorem kq_room1 : 10 ^ 18 * (2 * 1) ^ 13 < jB ^ 698 := by decide +kernel
theorem kq_one24 : 1 ≤ kq_F (10 ^ 18 * 13) 24 := by decide +kernel
/-- the coefficients of a simple part -/
def kq_S : Nat := 10 ^ 18 * 13 ^ 13 * 27 ^ 12
theorem jp_simplifies (G : jG hp q0 q1 q2 q3 fs) (hne : jpo V 0 ≠ pz_0) (hA : ∀ e, e < 13 → (V (0 * 13 + e)).natAbs ≤ 10 ^ 18) (hs : jS hp q1 q2 q3 V h) :
    mj_Ok (D + 10) 214 [.ref q0, .int (jn ((8 : Nat) : Int)), .int (jn ((0 : Nat) : Int))] h (fun r => ∃ (W : Nat → Int) (h' : mj_H), jS hp q1 q2 q3 W h' ∧ (∀ s, (s < 26 ∨ 91 ≤ s) → (s < 104 ∨ 117 ≤ s) → s ≠ 652 → s ≠ 653 → s ≠ 654 → s ≠ 655 → s ≠ 663 → s ≠ 664 → W s = V s) ∧ (jpo W 8 ≠ pz_0 ∧ ∀ e, e < 13 → (W (8 * 13 + e)).natAbs ≤ kq_S) ∧ r = (.inl none, h')) := by
  refine mj_Ok.of (M := mj_m214) rfl rfl rfl ?_
  iterate 3 refine mj_T.pl rfl rfl rfl rfl ?_
  refine mj_T.call (ins := .invokevirtual 124) rfl rfl (Nat.le_of_ble_eq_true rfl) (Nat.le_of_ble_eq_true rfl) (by simp [mj_recv, jS_a G hs]) rfl (jp_copiesPoly (D := D + 6) G (p := 5) (q := 0) (by decide) (by decide) (by decide) hs) (fun v' h1 hq' => ?_) (fun i h' hq' => by obtain ⟨_, _, h⟩ := hq'; cases h)
  obtain ⟨_, hs1, hq'⟩ := hq'
  cases hq'
  have a1 : ∀ e, e < 13 → jfl V 5 (fun e => V (0 * 13 + e)) 13 (5 * 13 + e) = V (0 * 13 + e) := fun e he => jfl_at _ 5 _ he
  have a2 : ∀ s, (s < 65 ∨ 78 ≤ s) → jfl V 5 (fun e => V (0 * 13 + e)) 13 s = V s := fun s hc => jfl_off _ 5 _ (by omega)
  generalize jfl V 5 (fun e => V (0 * 13 + e)) 13 = W1 at hs1 a1 a2
  iterate 3 refine mj_T.pl rfl rfl rfl rfl ?_
  refine mj_T.call (ins := .invokevirtual 149) rfl rfl (Nat.le_of_ble_eq_true rfl) (Nat.le_of_ble_eq_true rfl) (by simp [mj_recv, jS_a G hs1]) rfl (jp_derives (D := D + 6) (V := W1) G (p := 6) (a := 0) (by decide) (by decide) (by decide) (fun e he => jnl_of_lt (M := 10 ^ 18 * 13) (by
    rw [a2 _ (by omega), Int.natAbs_mul]
    exact Nat.mul_le_mul (hA (e + 1) (by omega)) (by omega)) kq_small) hs1) (fun v' h2 hq' => ?_) (fun i h' hq' => by obtain ⟨_, _, _, _, h⟩ := hq'; cases h)
  obtain ⟨W2, _, hs2, b1, hq'⟩ := hq'
  cases hq'
  have b2 : ∀ e, e < 13 → (W2 (6 * 13 + e)).natAbs ≤ 10 ^ 18 * 13 := fun e he => by
    rw [b1 _ (by omega), jfl_at _ 6 _ he]
    split
    · show (W1 (0 * 13 + e + 1) * ((e + 1 : Nat) : Int)).natAbs ≤ _
      rw [a2 _ (by omega), Int.natAbs_mul]
      exact Nat.mul_le_mul (hA (e + 1) (by omega)) (by omega)
    · exact Nat.zero_le _
  have b3 : ∀ s, (s < 78 ∨ 91 ≤ s) → s ≠ 652 → W2 s = W1 s := fun s hc h0 => by
    rw [b1 _ h0, jfl_off _ 6 _ (by omega)]
  have b4 : jpo W2 5 = jpo V 0 := jpo_eq fun e he => by rw [b3 _ (by omega) (by omega), a1 e he]
  iterate 4 refine mj_T.pl rfl rfl rfl rfl ?_
  refine mj_T.call (ins := .invokevirtual 152) rfl rfl (Nat.le_of_ble_eq_true rfl) (Nat.le_of_ble_eq_true rfl) (by simp [mj_recv, jS_a G hs2]) rfl (jp_commonsA (D := D) (V := W2) G (A := 10 ^ 18 * 13) kq_fit19 (to := 4) (a := 5) (b := 6) (by decide) (by decide) (by decide) (by decide) (by decide) (by decide) (by decide) (by decide) (by decide) (fun e he => by rw [b3 _ (by omega) (by omega), a1 e he]; have := hA e he; omega) b2 hs2) (fun v' h3 hq' => ?_) (fun i h' hq' => by obtain ⟨_, _, _, _, _, h⟩ := hq'; cases h)
  obtain ⟨W3, _, hs3, c1, ⟨c2, c3⟩, hq'⟩ := hq'
  cases hq'
  rw [b4] at c3
  obtain ⟨c4, c, T, N, c5, cN, c6⟩ := c3 hne
  iterate 3 refine mj_T.pl rfl rfl rfl rfl ?_
  refine mj_T.call (ins := .invokevirtual 124) rfl rfl (Nat.le_of_ble_eq_true rfl) (Nat.le_of_ble_eq_true rfl) (by simp [mj_recv, jS_a G hs3]) rfl (jp_copiesPoly (D := D + 6) G (p := 5) (q := 0) (by decide) (by decide) (by decide) hs3) (fun v' h4 hq' => ?_) (fun i h' hq' => by obtain ⟨_, _, h⟩ := hq'; cases h)
  obtain ⟨_, hs4, hq'⟩ := hq'
  cases hq'
  have d1 : ∀ e, e < 13 → jfl W3 5 (fun e => W3 (0 * 13 + e)) 13 (5 * 13 + e) = V (0 * 13 + e) := fun e he => by
    rw [jfl_at _ 5 _ he, c1 _ (by omega) (by omega) (by omega) (by omega) (by omega) (by omega) (by omega) (by omega) (by omega) (by omega), b3 _ (by omega) (by omega), a2 _ (by omega)]
  have d2 : ∀ s, (s < 65 ∨ 78 ≤ s) → jfl W3 5 (fun e => W3 (0 * 13 + e)) 13 s = W3 s := fun s hc => jfl_off _ 5 _ (by omega)
  generalize jfl W3 5 (fun e => W3 (0 * 13 + e)) 13 = W4 at hs4 d1 d2
  iterate 2 refine mj_T.pl rfl rfl rfl rfl ?_
  refine mj_T.call (ins := .invokevirtual 142) rfl rfl (Nat.le_of_ble_eq_true rfl) (Nat.le_of_ble_eq_true rfl) (by simp [mj_recv, jS_a G hs4]) rfl (jp_makesPrimitive (D := D + 1) G (p := 5) (by decide) hs4) (fun v' h5 hq' => ?_) (fun i h' hq' => by obtain ⟨_, _, _, _, _, h⟩ := hq'; cases h)
  obtain ⟨W5, _, hs5, ⟨f, hf, e1⟩, e2, hq'⟩ := hq'
  cases hq'
  have e3 := jcm_prim (V := W4) (W := W5) (p := 5) hf e1
  rw [jpo_eq (V := V) (W := W4) (p := 0) (q := 5) d1] at e3
  have e4 : jpo W5 4 = jpo W3 4 := jpo_eq fun e he => by rw [e2 _ (by omega) (by omega) (by omega) (by omega) (by omega) (by omega), d2 _ (by omega)]
  have e5 : ∀ i, (jpo W5 5 i).natAbs ≤ 10 ^ 18 := kq_rel_le e3 (jpo_le hA)
  obtain ⟨z, z1, z2, z3⟩ : ∃ z : Int, z ≠ 0 ∧ jpo V 0 = pz_sc z (jpo W5 5) ∧ pz_prim (jpo W5 5) := by
    rcases e3 with ⟨k, _⟩ | k
    · exact absurd k hne
    · exact k
  have e6 : pz_sc (c * z) (jpo W5 5) = pz_mul T (jpo W5 4) := by
    rw [e4, ← c6, z2, pz_sc_sc]
  obtain ⟨S, s1, s2⟩ := pz_exact (fun k => by
    rcases Int.mul_eq_zero.mp k with k | k
    · exact c5 k
    · exact z1 k) (by rw [e4]; exact c4) e6
  have g1 : 1 ≤ jdg W5 4 13 := jpo_ne (by rw [e4]; exact kq_prim_ne c4)
  have g2 := jdg_le W5 4 13
  have g3 := jdg_le W5 5 13
  have g4 := jdg_ne W5 4 13 g1
  have g5 : ∀ e, e < 13 → (W5 (4 * 13 + e)).natAbs ≤ kq_F (10 ^ 18 * 13) 24 := fun e he => by
    have := c2 e
    rw [← e4, jpo_at he] at this
    exact this
  have g6 : ∀ e, e < 13 → (W5 (5 * 13 + e)).natAbs ≤ 10 ^ 18 := fun e he => by
    have := e5 e
    rw [jpo_at he] at this
    exact this
  have g7 : jpo W5 5 ≠ pz_0 := kq_prim_ne z3
  obtain ⟨be, i1, i2, i3⟩ : ∃ be : Nat, 1 ≤ be ∧ (∀ e, e < 13 → (W5 (4 * 13 + e)).natAbs ≤ be) ∧ 10 ^ 18 * (2 * be) ^ (jdg W5 5 13 - (jdg W5 4 13 - 1)) < jB ^ 698 := by
    by_cases k : jdg W5 4 13 = 1
    · refine ⟨1, Nat.le_refl _, fun e he => ?_, Nat.lt_of_le_of_lt (Nat.mul_le_mul_left _ (Nat.pow_le_pow_right (by decide) (by omega : _ ≤ 13))) kq_room1⟩
      have := kq_prim_const (u := jpo W5 4) (by rw [e4]; exact c4) (fun i hi => by
        by_cases hi2 : i < 13
        · rw [jpo_at hi2]
          exact jdg_zero W5 4 13 i (by omega) hi2
        · exact jpo_lt W5 4 i (by omega)) e
      rw [jpo_at he] at this
      exact this
    · refine ⟨kq_F (10 ^ 18 * 13) 24, kq_one24, g5, Nat.lt_of_le_of_lt (Nat.mul_le_mul_left _ (Nat.pow_le_pow_right ?_ (by omega : _ ≤ 12))) kq_room24⟩
      have := kq_one24
      omega
  iterate 4 refine mj_T.pl rfl rfl rfl rfl ?_
  refine mj_T.call (ins := .invokevirtual 155) rfl rfl (Nat.le_of_ble_eq_true rfl) (Nat.le_of_ble_eq_true rfl) (by simp [mj_recv, jS_a G hs5]) rfl (jp_dividesExactly (D := D + 3) (V := W5) G (tq := 8) (a := 5) (b := 4) (db := jdg W5 4 13 - 1) (lc := W5 (4 * 13 + (jdg W5 4 13 - 1))) (al := 10 ^ 18) (be := be) (by decide) (by decide) (by decide) (by decide) (by decide) (by decide) (by decide) (by decide) (by omega) rfl g6 i2 i1 i3 hs5) (fun v' h6 hq' => ?_) (fun i h' hq' => by obtain ⟨_, _, _, _, ⟨_, h⟩ | ⟨_, h⟩⟩ := hq' <;> cases h)
  obtain ⟨W6, _, hs6, f1, ⟨f2, hq'⟩ | ⟨f2, hq'⟩⟩ := hq'
  · cases hq'
    have t1 : ∀ i, (jpo W6 8 i).natAbs ≤ kq_S := pz_factor (jpo_lt W5 5) (jpo_lt W6 8) (jpo_lt W5 4) f2 (by
      by_cases k : ∃ i, jpo W5 5 i ≠ 0
      · exact k
      · exact absurd (funext fun i => Classical.byContradiction fun q => k ⟨i, q⟩) g7) e5
    have t2 : jpo W6 8 ≠ pz_0 := fun k => g7 (by rw [f2, k, pz_mul_0L])
    iterate 3 refine mj_T.pl rfl rfl rfl rfl ?_
    refine mj_T.call (ins := .invokevirtual 142) rfl rfl (Nat.le_of_ble_eq_true rfl) (Nat.le_of_ble_eq_true rfl) (by simp [mj_recv, jS_a G hs6]) rfl (jp_makesPrimitive (D := D + 1) G (p := 8) (by decide) hs6) (fun v' h7 hq' => ?_) (fun i h' hq' => by obtain ⟨_, _, _, _, _, h⟩ := hq'; cases h)
    obtain ⟨W7, _, hs7, ⟨f', hf', u1⟩, u2, hq'⟩ := hq'
    cases hq'
    have u3 := jcm_prim (V := W6) (W := W7) (p := 8) hf' u1
    have u4 := kq_rel_le u3 t1
    refine mj_T.ret rfl rfl rfl ⟨W7, h7, hs7, fun s x1 x2 x3 x4 x5 x6 x7 x8 => ?_, ⟨?_, fun e he => ?_⟩, rfl⟩
    · rw [u2 s (by omega) x3 x4 x6 x7 x8, f1 s (by omega) (by omega) x3 x4 x5, e2 s (by omega) x3 x4 x6 x7 x8, d2 s (by omega), c1 s (by omega) (by omega) (by omega) (by omega) x3 x4 x5 x6 x7 x8, b3 s (by omega) x3, a2 s (by omega)]
    · rcases u3 with ⟨k, _⟩ | ⟨k1, k2, k3, k4⟩
      · exact absurd k t2
      · exact kq_prim_ne k4
    · have := u4 e
      rw [jpo_at he] at this
      exact this
  · refine absurd s2 (f2 S N (fun i hi => ?_))
    have k1 : c * z * S i = 0 := by rw [← cN i hi, s1]; rfl
    rcases Int.mul_eq_zero.mp k1 with k | k
    · rcases Int.mul_eq_zero.mp k with k | k
      · exact absurd k c5
      · exact absurd k z1
    · exact k
end JSI
