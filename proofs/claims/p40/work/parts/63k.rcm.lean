/-! The reference's greatest common divisor of polynomials: its loop, over any invariant. -/
theorem jcm_prim {V W : Nat → Int} {p : Nat} {f : Int} (hf : f = 1 ∨ f = -1) (hW : ∀ e, e < 13 → W (p * 13 + e) = f * (V (p * 13 + e)).tdiv ((jgk V p 13 : Nat) : Int)) : (jpo V p = pz_0 ∧ jpo W p = pz_0) ∨ ∃ c : Int, c ≠ 0 ∧ jpo V p = pz_sc c (jpo W p) ∧ pz_prim (jpo W p) := by
  by_cases hg : jgk V p 13 = 0
  · have hz : ∀ e, e < 13 → V (p * 13 + e) = 0 := fun e he => by
      have h1 := jgk_dvd V p 13 e (Nat.le_refl _) (by omega) he
      rw [hg] at h1
      have h2 := Nat.eq_zero_of_zero_dvd h1
      omega
    refine Or.inl ⟨funext fun e => ?_, funext fun e => ?_⟩
    · show (if e < 13 then V (p * 13 + e) else 0) = 0
      split
      · rename_i c
        exact hz e c
      · rfl
    · show (if e < 13 then W (p * 13 + e) else 0) = 0
      split
      · rename_i c
        rw [hW e c, hz e c, Int.zero_tdiv, Int.mul_zero]
      · rfl
  · have hd : ∀ e, e < 13 → ((jgk V p 13 : Nat) : Int) * (V (p * 13 + e)).tdiv ((jgk V p 13 : Nat) : Int) = V (p * 13 + e) := fun e he => by
      have h1 := jgk_dvd V p 13 e (Nat.le_refl _) (by omega) he
      have h2 : ((jgk V p 13 : Nat) : Int) ∣ V (p * 13 + e) := Int.natAbs_dvd_natAbs.mp h1
      exact Int.mul_tdiv_cancel' h2
    refine Or.inr ⟨f * ((jgk V p 13 : Nat) : Int), Int.mul_ne_zero (by omega) (by omega), funext fun e => ?_, fun k hk => ?_⟩
    · show jpo V p e = f * ((jgk V p 13 : Nat) : Int) * jpo W p e
      by_cases he : e < 13
      · rw [jpo_at he, jpo_at he, hW e he]
        have h1 := hd e he
        generalize (V (p * 13 + e)).tdiv ((jgk V p 13 : Nat) : Int) = x at h1
        generalize ((jgk V p 13 : Nat) : Int) = g at h1
        rcases hf with rfl | rfl
        · rw [Int.one_mul, Int.one_mul]
          exact h1.symm
        · rw [show (-1 : Int) * g = -g by omega, show (-1 : Int) * x = -x by omega, Int.neg_mul_neg]
          exact h1.symm
      · unfold jpo
        rw [if_neg he, if_neg he, Int.mul_zero]
    · have h1 : jgk V p 13 * k ∣ jgk V p 13 := jgk_max V p _ (fun e he => by
        have h2 := Int.natAbs_dvd_natAbs.mpr (hk e)
        rw [jpo_at he, hW e he, Int.natAbs_mul] at h2
        have h3 := congrArg Int.natAbs (hd e he)
        rw [Int.natAbs_mul] at h3
        have h4 : f.natAbs = 1 := by omega
        rw [h4, Nat.one_mul] at h2
        rw [← h3]
        exact Nat.mul_dvd_mul_left _ h2) 13 (Nat.le_refl _)
      obtain ⟨z, hz⟩ := h1
      have h5 : k * z = 1 := by
        refine Nat.eq_of_mul_eq_mul_left (show 0 < jgk V p 13 by omega) ?_
        rw [← Nat.mul_assoc, ← hz, Nat.mul_one]
      exact Nat.dvd_one.mp ⟨z, h5.symm⟩
section JCM
variable {D : Nat} {hp h : mj_H} {q0 q1 q2 q3 : Nat} {fs : List Value} {V : Nat → Int} {a b to : Nat}
theorem jp_cm (G : jG hp q0 q1 q2 q3 fs) {J : pz_P → pz_P → Prop} (ha : a ≤ 49) (ha2 : a ≠ 2) (ha3 : a ≠ 3) (hb : b ≤ 49) (hb2 : b ≠ 2) (hb3 : b ≠ 3) (hab : a ≠ b) 
    (hJf : ∀ (x y : pz_P) (db n : Nat), J x y → pz_lt x (db + n) → (1 ≤ n → x (db + n - 1) ≠ 0) → pz_lt y (db + 1) → y db ≠ 0 → db < 13 → ∃ al be : Nat, 1 ≤ be ∧ (∀ i, (x i).natAbs ≤ al) ∧ (∀ i, (y i).natAbs ≤ be) ∧ al * (2 * be) ^ n < jB ^ 698)
    (hJs : ∀ (x y q r r1 : pz_P) (db n : Nat), J x y → pz_lt y (db + 1) → y db ≠ 0 → pz_sc (y db ^ n) x = pz_add (pz_mul q y) r → pz_lt q 13 → pz_lt r db → ((r = pz_0 ∧ r1 = pz_0) ∨ ∃ c : Int, c ≠ 0 ∧ r = pz_sc c r1 ∧ pz_prim r1) → J y r1)
    {Q : mj_R → Prop}
    (hend : ∀ (W : Nat → Int) (h : mj_H) (e4 : Option Value), jS hp q1 q2 q3 W h → (∀ s, (s < a * 13 ∨ a * 13 + 13 ≤ s) → (s < b * 13 ∨ b * 13 + 13 ≤ s) → (s < 26 ∨ 52 ≤ s) → s ≠ 652 → s ≠ 653 → s ≠ 654 → s ≠ 655 → s ≠ 663 → s ≠ 664 → W s = V s) → J (jpo W a) (jpo W b) → (∀ e, e < 13 → W (b * 13 + e) = 0) → mj_T (D + 8) mj_m212 48 [some (.ref q0), some (.int (jn (to : Nat))), some (.int (jn (a : Nat))), some (.int (jn (b : Nat))), e4] [] h Q) :
    ∀ (d : Nat) (W : Nat → Int) (h : mj_H) (e4 : Option Value), jdg W b 13 ≤ d → jS hp q1 q2 q3 W h → (∀ s, (s < a * 13 ∨ a * 13 + 13 ≤ s) → (s < b * 13 ∨ b * 13 + 13 ≤ s) → (s < 26 ∨ 52 ≤ s) → s ≠ 652 → s ≠ 653 → s ≠ 654 → s ≠ 655 → s ≠ 663 → s ≠ 664 → W s = V s) → J (jpo W a) (jpo W b) → mj_T (D + 8) mj_m212 10 [some (.ref q0), some (.int (jn (to : Nat))), some (.int (jn (a : Nat))), some (.int (jn (b : Nat))), e4] [] h Q := by
  intro d
  induction d with
  | zero =>
    intro W h e4 hd hs hf hJ
    have hd0 : jdg W b 13 = 0 := by omega
    iterate 2 refine mj_T.pl rfl rfl rfl rfl ?_
    refine mj_T.call (ins := .invokevirtual 114) rfl rfl (Nat.le_of_ble_eq_true rfl) (Nat.le_of_ble_eq_true rfl) (by simp [mj_recv, jS_a G hs]) rfl (jp_degreeOf (D := D + 6) G (p := b) (by omega) hs) (fun v' h' hq' => ?_) (fun i h' hq' => by cases hq')
    cases hq'
    rw [hd0]
    refine mj_T.if0 (a := ((0 : Nat) : Int) - 1) rfl ⟨by decide, by decide⟩ (fun hc => ?_) (fun hc => ?_)
    · exact hend W h e4 hs hf hJ (fun e he => jdg_zero W b 13 e (by omega) he)
    · simp [jc] at hc
  | succ d ih =>
    intro W h e4 hd hs hf hJ
    have hdl := jdg_le W b 13
    iterate 2 refine mj_T.pl rfl rfl rfl rfl ?_
    refine mj_T.call (ins := .invokevirtual 114) rfl rfl (Nat.le_of_ble_eq_true rfl) (Nat.le_of_ble_eq_true rfl) (by simp [mj_recv, jS_a G hs]) rfl (jp_degreeOf (D := D + 6) G (p := b) (by omega) hs) (fun v' h' hq' => ?_) (fun i h' hq' => by cases hq')
    cases hq'
    refine mj_T.if0 (a := (jdg W b 13 : Int) - 1) rfl ⟨by omega, by omega⟩ (fun hc => ?_) (fun hc => ?_)
    · simp only [jc, decide_eq_true_eq] at hc
      exact hend W h e4 hs hf hJ (fun e he => jdg_zero W b 13 e (by omega) he)
    simp only [jc, decide_eq_false_iff_not] at hc
    obtain ⟨db, hdb⟩ : ∃ db, jdg W b 13 = db + 1 := ⟨jdg W b 13 - 1, by omega⟩
    have hlead := jdg_ne W b 13 (by omega)
    rw [hdb, Nat.add_sub_cancel] at hlead
    have hyl : pz_lt (jpo W b) (db + 1) := fun i hi => by
      unfold jpo
      split
      · rename_i c
        exact jdg_zero W b 13 i (by omega) c
      · rfl
    have ydb : jpo W b db = W (b * 13 + db) := jpo_at (by omega)
    have hal1 := jdg_le W a 13
    have hxl : pz_lt (jpo W a) (db + (jdg W a 13 - db)) := fun i hi => by
      unfold jpo
      split
      · rename_i c
        exact jdg_zero W a 13 i (by omega) c
      · rfl
    have hxn : 1 ≤ jdg W a 13 - db → jpo W a (db + (jdg W a 13 - db) - 1) ≠ 0 := fun hn => by
      rw [show db + (jdg W a 13 - db) - 1 = jdg W a 13 - 1 by omega, jpo_at (show jdg W a 13 - 1 < 13 by omega)]
      exact jdg_ne W a 13 (by omega)
    obtain ⟨al, be, hbe1, hal0, hbe0, hfit⟩ := hJf _ _ db (jdg W a 13 - db) hJ hxl hxn hyl (by rw [ydb]; exact hlead) (by omega)
    have hal : ∀ e, e < 13 → (W (a * 13 + e)).natAbs ≤ al := fun e he => by
      rw [← jpo_at (V := W) (p := a) he]
      exact hal0 e
    have hbe : ∀ e, e < 13 → (W (b * 13 + e)).natAbs ≤ be := fun e he => by
      rw [← jpo_at (V := W) (p := b) he]
      exact hbe0 e
    iterate 5 refine mj_T.pl rfl rfl rfl rfl ?_
    refine mj_T.call (ins := .invokevirtual 145) rfl rfl (Nat.le_of_ble_eq_true rfl) (Nat.le_of_ble_eq_true rfl) (by simp [mj_recv, jS_a G hs]) rfl (jp_dividesPoly (D := D + 3) G (lc := W (b * 13 + db)) (al := al) (be := be) ha ha2 ha3 hb hb2 hb3 hdb rfl hal hbe hbe1 hfit hs) (fun v' h1 hq' => ?_) (fun i h' hq' => by obtain ⟨_, _, _, _, _, _, _, h⟩ := hq'; cases h)
    obtain ⟨W1, _, hs1, k1, k2, k3, k4, hq'⟩ := hq'
    cases hq'
    iterate 4 refine mj_T.pl rfl rfl rfl rfl ?_
    refine mj_T.call (ins := .invokevirtual 124) rfl rfl (Nat.le_of_ble_eq_true rfl) (Nat.le_of_ble_eq_true rfl) (by simp [mj_recv, jS_a G hs1]) rfl (jp_copiesPoly (D := D + 5) G (p := a) (q := b) (by omega) (by omega) hab hs1) (fun v' h2 hq' => ?_) (fun i h' hq' => by obtain ⟨_, _, h⟩ := hq'; cases h)
    obtain ⟨_, hs2, hq'⟩ := hq'
    cases hq'
    have e1 : ∀ e, e < 13 → jfl W1 a (fun e => W1 (b * 13 + e)) 13 (a * 13 + e) = W1 (b * 13 + e) := fun e he => jfl_at _ a _ he
    have e2 : ∀ s, (s < a * 13 ∨ a * 13 + 13 ≤ s) → jfl W1 a (fun e => W1 (b * 13 + e)) 13 s = W1 s := fun s hc => jfl_off _ a _ hc
    generalize jfl W1 a (fun e => W1 (b * 13 + e)) 13 = W2 at hs2 e1 e2
    iterate 2 refine mj_T.pl rfl rfl rfl rfl ?_
    refine mj_T.call (ins := .invokevirtual 142) rfl rfl (Nat.le_of_ble_eq_true rfl) (Nat.le_of_ble_eq_true rfl) (by simp [mj_recv, jS_a G hs2]) rfl (jp_makesPrimitive (D := D) G (p := 3) (by omega) hs2) (fun v' h3 hq' => ?_) (fun i h' hq' => by obtain ⟨_, _, _, _, _, h⟩ := hq'; cases h)
    obtain ⟨W3, _, hs3, ⟨f, hf1, k5⟩, k6, hq'⟩ := hq'
    cases hq'
    iterate 3 refine mj_T.pl rfl rfl rfl rfl ?_
    refine mj_T.call (ins := .invokevirtual 124) rfl rfl (Nat.le_of_ble_eq_true rfl) (Nat.le_of_ble_eq_true rfl) (by simp [mj_recv, jS_a G hs3]) rfl (jp_copiesPoly (D := D + 5) G (p := b) (q := 3) (by omega) (by omega) hb3 hs3) (fun v' h4 hq' => ?_) (fun i h' hq' => by obtain ⟨_, _, h⟩ := hq'; cases h)
    obtain ⟨_, hs4, hq'⟩ := hq'
    cases hq'
    have e3 : ∀ e, e < 13 → jfl W3 b (fun e => W3 (3 * 13 + e)) 13 (b * 13 + e) = W3 (3 * 13 + e) := fun e he => jfl_at _ b _ he
    have e5 : ∀ s, (s < b * 13 ∨ b * 13 + 13 ≤ s) → jfl W3 b (fun e => W3 (3 * 13 + e)) 13 s = W3 s := fun s hc => jfl_off _ b _ hc
    generalize jfl W3 b (fun e => W3 (3 * 13 + e)) 13 = W4 at hs4 e3 e5
    have pa : jpo W4 a = jpo W b := funext fun e => by
      by_cases he : e < 13
      · rw [jpo_at he, jpo_at he, e5 _ (by omega), k6 _ (by omega) (by omega) (by omega) (by omega) (by omega) (by omega), e1 e he, k1 _ (by omega) (by omega) (by omega)]
      · unfold jpo
        rw [if_neg he, if_neg he]
    have pb : jpo W4 b = jpo W3 3 := funext fun e => by
      by_cases he : e < 13
      · rw [jpo_at he, jpo_at he, e3 e he]
      · unfold jpo
        rw [if_neg he, if_neg he]
    have pr : jpo W2 3 = jpo W1 3 := funext fun e => by
      by_cases he : e < 13
      · rw [jpo_at he, jpo_at he, e2 _ (by omega)]
      · unfold jpo
        rw [if_neg he, if_neg he]
    have hpr := jcm_prim (V := W2) (W := W3) (p := 3) hf1 k5
    rw [pr] at hpr
    have hrl : pz_lt (jpo W1 3) db := fun i hi => by
      unfold jpo
      split
      · rename_i c
        exact k3 i hi c
      · rfl
    refine mj_T.pl rfl rfl rfl rfl ?_
    refine ih W4 h4 _ ?_ hs4 (fun s c1 c2 c3 c4 c5 c6 c7 c8 c9 => ?_) ?_
    · have z : ∀ e, db ≤ e → e < 13 → W4 (b * 13 + e) = 0 := fun e c1 c2 => by
        rw [e3 e c2, k5 e c2, e2 _ (by omega), k3 e c1 c2, Int.zero_tdiv, Int.mul_zero]
      refine Nat.le_of_not_lt (fun hlt => ?_)
      exact jdg_ne W4 b 13 (by omega) (z (jdg W4 b 13 - 1) (by omega) (by have := jdg_le W4 b 13; omega))
    · rw [e5 s c2, k6 s (by omega) c4 c5 c7 c8 c9, e2 s c1, k1 s c3 c4 c6]
      exact hf s c1 c2 c3 c4 c5 c6 c7 c8 c9
    · rw [pa, pb]
      refine hJs (jpo W a) (jpo W b) (jpo W1 2) (jpo W1 3) (jpo W3 3) db (jdg W a 13 - db) hJ hyl (by rw [ydb]; exact hlead) (by rw [ydb]; exact k2) (jpo_lt W1 2) hrl hpr
end JCM
