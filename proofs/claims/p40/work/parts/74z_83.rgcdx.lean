/-! The reference's greatest common divisor of polynomials, exactly. -/
/-- the lead is above 0 -/
def posP (u : pz_P) : Prop := ∀ d, u d ≠ 0 → (∀ e, d < e → u e = 0) → 0 < u d
theorem posP_of {W : Nat → Int} {p : Nat} (h : posL W p) : posP (jpo W p) := fun d h1 h2 => by
  by_cases q : d < 13
  · rw [jpo_at q] at h1 ⊢
    exact h d q h1 (fun e e1 e2 => by rw [← jpo_at (V := W) (p := p) e2]; exact h2 e e1)
  · exact absurd (jpo_lt W p d (by omega)) h1
theorem posP_z : posP pz_0 := fun d h _ => absurd rfl h
section JXC
variable {D : Nat} {hp h : mj_H} {q0 q1 q2 q3 : Nat} {fs : List Value} {V : Nat → Int} {a b to : Nat}
theorem jx_cm (G : jG hp q0 q1 q2 q3 fs) {J : pz_P → pz_P → Prop} (ha : a ≤ 49) (ha2 : a ≠ 2) (ha3 : a ≠ 3) (hb : b ≤ 49) (hb2 : b ≠ 2) (hb3 : b ≠ 3) (hab : a ≠ b) 
    (hJf : ∀ (x y : pz_P) (db n : Nat), J x y → pz_lt x (db + n) → (1 ≤ n → x (db + n - 1) ≠ 0) → pz_lt y (db + 1) → y db ≠ 0 → db < 13 → ∃ al be : Nat, 1 ≤ be ∧ (∀ i, (x i).natAbs ≤ al) ∧ (∀ i, (y i).natAbs ≤ be) ∧ al * (2 * be) ^ n < jB ^ 698)
    (hJs : ∀ (x y q r r1 : pz_P) (db n : Nat), J x y → pz_lt y (db + 1) → y db ≠ 0 → pz_sc (y db ^ n) x = pz_add (pz_mul q y) r → pz_lt q 13 → pz_lt r db → ((r = pz_0 ∧ r1 = pz_0) ∨ ∃ c : Int, c ≠ 0 ∧ r = pz_sc c r1 ∧ pz_prim r1) → posP r1 → J y r1)
    {Q : mj_R → Prop}
    (hend : ∀ (W : Nat → Int) (h : mj_H) (e4 : Option Value), jS hp q1 q2 q3 W h → (∀ s, (s < a * 13 ∨ a * 13 + 13 ≤ s) → (s < b * 13 ∨ b * 13 + 13 ≤ s) → (s < 26 ∨ 52 ≤ s) → s ≠ 652 → s ≠ 653 → s ≠ 654 → s ≠ 655 → s ≠ 663 → s ≠ 664 → W s = V s) → J (jpo W a) (jpo W b) → (∀ e, e < 13 → W (b * 13 + e) = 0) → mj_T (D + 8) mj_m212 48 [some (.ref q0), some (.int (jn (to : Nat))), some (.int (jn (a : Nat))), some (.int (jn (b : Nat))), e4] [] h Q) :
    ∀ (d : Nat) (W : Nat → Int) (h : mj_H) (e4 : Option Value), jdg W b 13 ≤ d → jS hp q1 q2 q3 W h → (∀ s, (s < a * 13 ∨ a * 13 + 13 ≤ s) → (s < b * 13 ∨ b * 13 + 13 ≤ s) → (s < 26 ∨ 52 ≤ s) → s ≠ 652 → s ≠ 653 → s ≠ 654 → s ≠ 655 → s ≠ 663 → s ≠ 664 → W s = V s) → J (jpo W a) (jpo W b) → mj_T (D + 8) mj_m212 10 [some (.ref q0), some (.int (jn (to : Nat))), some (.int (jn (a : Nat))), some (.int (jn (b : Nat))), e4] [] h Q := by
  intro d
  induction d with
  | zero =>
    intro W h e4 hd hs hf hJ
    have hd0 : jdg W b 13 = 0 := by omega
    iterate 2 refine mj_T.pl rfl rfl rfl rfl ?_
    refine mj_T.call (ins := .invokevirtual 114) rfl rfl (Nat.le_of_ble_eq_true rfl) (Nat.le_of_ble_eq_true rfl) (by simp [mj_recv, jS_a G hs]) rfl (jp_degreeOf (D := D + 6) G (p := b) (by omega) hs) (fun v' h' hq' => ?_) (fun i h' hq' => by cases hq')
    cases hq'
    rw [hd0]
    refine mj_T.if0 (a := ((0 : Nat) : Int) - 1) rfl ⟨by decide, by decide⟩ (fun hc => ?_) (fun hc => ?_)
    · exact hend W h e4 hs hf hJ (fun e he => jdg_zero W b 13 e (by omega) he)
    · simp [jc] at hc
  | succ d ih =>
    intro W h e4 hd hs hf hJ
    have hdl := jdg_le W b 13
    iterate 2 refine mj_T.pl rfl rfl rfl rfl ?_
    refine mj_T.call (ins := .invokevirtual 114) rfl rfl (Nat.le_of_ble_eq_true rfl) (Nat.le_of_ble_eq_true rfl) (by simp [mj_recv, jS_a G hs]) rfl (jp_degreeOf (D := D + 6) G (p := b) (by omega) hs) (fun v' h' hq' => ?_) (fun i h' hq' => by cases hq')
    cases hq'
    refine mj_T.if0 (a := (jdg W b 13 : Int) - 1) rfl ⟨by omega, by omega⟩ (fun hc => ?_) (fun hc => ?_)
    · simp only [jc, decide_eq_true_eq] at hc
      exact hend W h e4 hs hf hJ (fun e he => jdg_zero W b 13 e (by omega) he)
    simp only [jc, decide_eq_false_iff_not] at hc
    obtain ⟨db, hdb⟩ : ∃ db, jdg W b 13 = db + 1 := ⟨jdg W b 13 - 1, by omega⟩
    have hlead := jdg_ne W b 13 (by omega)
    rw [hdb, Nat.add_sub_cancel] at hlead
    have hyl : pz_lt (jpo W b) (db + 1) := fun i hi => by
      unfold jpo
      split
      · rename_i c
        exact jdg_zero W b 13 i (by omega) c
      · rfl
    have ydb : jpo W b db = W (b * 13 + db) := jpo_at (by omega)
    have hal1 := jdg_le W a 13
    have hxl : pz_lt (jpo W a) (db + (jdg W a 13 - db)) := fun i hi => by
      unfold jpo
      split
      · rename_i c
        exact jdg_zero W a 13 i (by omega) c
      · rfl
    have hxn : 1 ≤ jdg W a 13 - db → jpo W a (db + (jdg W a 13 - db) - 1) ≠ 0 := fun hn => by
      rw [show db + (jdg W a 13 - db) - 1 = jdg W a 13 - 1 by omega, jpo_at (show jdg W a 13 - 1 < 13 by omega)]
      exact jdg_ne W a 13 (by omega)
    obtain ⟨al, be, hbe1, hal0, hbe0, hfit⟩ := hJf _ _ db (jdg W a 13 - db) hJ hxl hxn hyl (by rw [ydb]; exact hlead) (by omega)
    have hal : ∀ e, e < 13 → (W (a * 13 + e)).natAbs ≤ al := fun e he => by
      rw [← jpo_at (V := W) (p := a) he]
      exact hal0 e
    have hbe : ∀ e, e < 13 → (W (b * 13 + e)).natAbs ≤ be := fun e he => by
      rw [← jpo_at (V := W) (p := b) he]
      exact hbe0 e
    iterate 5 refine mj_T.pl rfl rfl rfl rfl ?_
    refine mj_T.call (ins := .invokevirtual 145) rfl rfl (Nat.le_of_ble_eq_true rfl) (Nat.le_of_ble_eq_true rfl) (by simp [mj_recv, jS_a G hs]) rfl (jp_dividesPoly (D := D + 3) G (lc := W (b * 13 + db)) (al := al) (be := be) ha ha2 ha3 hb hb2 hb3 hdb rfl hal hbe hbe1 hfit hs) (fun v' h1 hq' => ?_) (fun i h' hq' => by obtain ⟨_, _, _, _, _, _, _, h⟩ := hq'; cases h)
    obtain ⟨W1, _, hs1, k1, k2, k3, k4, hq'⟩ := hq'
    cases hq'
    iterate 4 refine mj_T.pl rfl rfl rfl rfl ?_
    refine mj_T.call (ins := .invokevirtual 124) rfl rfl (Nat.le_of_ble_eq_true rfl) (Nat.le_of_ble_eq_true rfl) (by simp [mj_recv, jS_a G hs1]) rfl (jp_copiesPoly (D := D + 5) G (p := a) (q := b) (by omega) (by omega) hab hs1) (fun v' h2 hq' => ?_) (fun i h' hq' => by obtain ⟨_, _, h⟩ := hq'; cases h)
    obtain ⟨_, hs2, hq'⟩ := hq'
    cases hq'
    have e1 : ∀ e, e < 13 → jfl W1 a (fun e => W1 (b * 13 + e)) 13 (a * 13 + e) = W1 (b * 13 + e) := fun e he => jfl_at _ a _ he
    have e2 : ∀ s, (s < a * 13 ∨ a * 13 + 13 ≤ s) → jfl W1 a (fun e => W1 (b * 13 + e)) 13 s = W1 s := fun s hc => jfl_off _ a _ hc
    generalize jfl W1 a (fun e => W1 (b * 13 + e)) 13 = W2 at hs2 e1 e2
    iterate 2 refine mj_T.pl rfl rfl rfl rfl ?_
    refine mj_T.call (ins := .invokevirtual 142) rfl rfl (Nat.le_of_ble_eq_true rfl) (Nat.le_of_ble_eq_true rfl) (by simp [mj_recv, jS_a G hs2]) rfl (jx_makesPrimitive (D := D) G (p := 3) (by omega) hs2) (fun v' h3 hq' => ?_) (fun i h' hq' => by obtain ⟨_, _, _, _, _, _, h⟩ := hq'; cases h)
    obtain ⟨W3, _, hs3, ⟨f, hf1, k5⟩, k6, hP3, hq'⟩ := hq'
    cases hq'
    iterate 3 refine mj_T.pl rfl rfl rfl rfl ?_
    refine mj_T.call (ins := .invokevirtual 124) rfl rfl (Nat.le_of_ble_eq_true rfl) (Nat.le_of_ble_eq_true rfl) (by simp [mj_recv, jS_a G hs3]) rfl (jp_copiesPoly (D := D + 5) G (p := b) (q := 3) (by omega) (by omega) hb3 hs3) (fun v' h4 hq' => ?_) (fun i h' hq' => by obtain ⟨_, _, h⟩ := hq'; cases h)
    obtain ⟨_, hs4, hq'⟩ := hq'
    cases hq'
    have e3 : ∀ e, e < 13 → jfl W3 b (fun e => W3 (3 * 13 + e)) 13 (b * 13 + e) = W3 (3 * 13 + e) := fun e he => jfl_at _ b _ he
    have e5 : ∀ s, (s < b * 13 ∨ b * 13 + 13 ≤ s) → jfl W3 b (fun e => W3 (3 * 13 + e)) 13 s = W3 s := fun s hc => jfl_off _ b _ hc
    generalize jfl W3 b (fun e => W3 (3 * 13 + e)) 13 = W4 at hs4 e3 e5
    have pa : jpo W4 a = jpo W b := funext fun e => by
      by_cases he : e < 13
      · rw [jpo_at he, jpo_at he, e5 _ (by omega), k6 _ (by omega) (by omega) (by omega) (by omega) (by omega) (by omega), e1 e he, k1 _ (by omega) (by omega) (by omega)]
      · unfold jpo
        rw [if_neg he, if_neg he]
    have pb : jpo W4 b = jpo W3 3 := funext fun e => by
      by_cases he : e < 13
      · rw [jpo_at he, jpo_at he, e3 e he]
      · unfold jpo
        rw [if_neg he, if_neg he]
    have pr : jpo W2 3 = jpo W1 3 := funext fun e => by
      by_cases he : e < 13
      · rw [jpo_at he, jpo_at he, e2 _ (by omega)]
      · unfold jpo
        rw [if_neg he, if_neg he]
    have hpr := jcm_prim (V := W2) (W := W3) (p := 3) hf1 k5
    rw [pr] at hpr
    have hrl : pz_lt (jpo W1 3) db := fun i hi => by
      unfold jpo
      split
      · rename_i c
        exact k3 i hi c
      · rfl
    refine mj_T.pl rfl rfl rfl rfl ?_
    refine ih W4 h4 _ ?_ hs4 (fun s c1 c2 c3 c4 c5 c6 c7 c8 c9 => ?_) ?_
    · have z : ∀ e, db ≤ e → e < 13 → W4 (b * 13 + e) = 0 := fun e c1 c2 => by
        rw [e3 e c2, k5 e c2, e2 _ (by omega), k3 e c1 c2, Int.zero_tdiv, Int.mul_zero]
      refine Nat.le_of_not_lt (fun hlt => ?_)
      exact jdg_ne W4 b 13 (by omega) (z (jdg W4 b 13 - 1) (by omega) (by have := jdg_le W4 b 13; omega))
    · rw [e5 s c2, k6 s (by omega) c4 c5 c7 c8 c9, e2 s c1, k1 s c3 c4 c6]
      exact hf s c1 c2 c3 c4 c5 c6 c7 c8 c9
    · rw [pa, pb]
      refine hJs (jpo W a) (jpo W b) (jpo W1 2) (jpo W1 3) (jpo W3 3) db (jdg W a 13 - db) hJ hyl (by rw [ydb]; exact hlead) (by rw [ydb]; exact k2) (jpo_lt W1 2) hrl hpr (posP_of hP3)
theorem jx_commonsPoly (G : jG hp q0 q1 q2 q3 fs) {J : pz_P → pz_P → Prop} (hto : to ≤ 49) (hta : to ≠ a) (ha : a ≤ 49) (ha2 : a ≠ 2) (ha3 : a ≠ 3) (hb : b ≤ 49) (hb2 : b ≠ 2) (hb3 : b ≠ 3) (hab : a ≠ b) 
    (hJf : ∀ (x y : pz_P) (db n : Nat), J x y → pz_lt x (db + n) → (1 ≤ n → x (db + n - 1) ≠ 0) → pz_lt y (db + 1) → y db ≠ 0 → db < 13 → ∃ al be : Nat, 1 ≤ be ∧ (∀ i, (x i).natAbs ≤ al) ∧ (∀ i, (y i).natAbs ≤ be) ∧ al * (2 * be) ^ n < jB ^ 698)
    (hJs : ∀ (x y q r r1 : pz_P) (db n : Nat), J x y → pz_lt y (db + 1) → y db ≠ 0 → pz_sc (y db ^ n) x = pz_add (pz_mul q y) r → pz_lt q 13 → pz_lt r db → ((r = pz_0 ∧ r1 = pz_0) ∨ ∃ c : Int, c ≠ 0 ∧ r = pz_sc c r1 ∧ pz_prim r1) → posP r1 → J y r1)
    (hJ0 : ∀ x y : pz_P, ((jpo V a = pz_0 ∧ x = pz_0) ∨ ∃ c : Int, c ≠ 0 ∧ jpo V a = pz_sc c x ∧ pz_prim x) → ((jpo V b = pz_0 ∧ y = pz_0) ∨ ∃ c : Int, c ≠ 0 ∧ jpo V b = pz_sc c y ∧ pz_prim y) → posP x → posP y → J x y) (hs : jS hp q1 q2 q3 V h) :
    mj_Ok (D + 9) 212 [.ref q0, .int (jn (to : Nat)), .int (jn (a : Nat)), .int (jn (b : Nat))] h (fun r => ∃ (W : Nat → Int) (h' : mj_H), jS hp q1 q2 q3 W h' ∧ (∀ s, (s < to * 13 ∨ to * 13 + 13 ≤ s) → (s < a * 13 ∨ a * 13 + 13 ≤ s) → (s < b * 13 ∨ b * 13 + 13 ≤ s) → (s < 26 ∨ 52 ≤ s) → s ≠ 652 → s ≠ 653 → s ≠ 654 → s ≠ 655 → s ≠ 663 → s ≠ 664 → W s = V s) ∧ J (jpo W to) pz_0 ∧ r = (.inl none, h')) := by
  refine mj_Ok.of (M := mj_m212) rfl rfl rfl ?_
  iterate 2 refine mj_T.pl rfl rfl rfl rfl ?_
  refine mj_T.call (ins := .invokevirtual 142) rfl rfl (Nat.le_of_ble_eq_true rfl) (Nat.le_of_ble_eq_true rfl) (by simp [mj_recv, jS_a G hs]) rfl (jx_makesPrimitive (D := D) G (p := a) ha hs) (fun v' h1 hq' => ?_) (fun i h' hq' => by obtain ⟨_, _, _, _, _, _, h⟩ := hq'; cases h)
  obtain ⟨W1, _, hs1, ⟨f1, hf1, k1⟩, k2, hP1, hq'⟩ := hq'
  cases hq'
  iterate 2 refine mj_T.pl rfl rfl rfl rfl ?_
  refine mj_T.call (ins := .invokevirtual 142) rfl rfl (Nat.le_of_ble_eq_true rfl) (Nat.le_of_ble_eq_true rfl) (by simp [mj_recv, jS_a G hs1]) rfl (jx_makesPrimitive (D := D) G (p := b) hb hs1) (fun v' h2 hq' => ?_) (fun i h' hq' => by obtain ⟨_, _, _, _, _, _, h⟩ := hq'; cases h)
  obtain ⟨W2, _, hs2, ⟨f2, hf2, k3⟩, k4, hP2, hq'⟩ := hq'
  cases hq'
  have p1 := jcm_prim (V := V) (W := W1) (p := a) hf1 k1
  have p2 := jcm_prim (V := W1) (W := W2) (p := b) hf2 k3
  have e1 : jpo W1 b = jpo V b := funext fun e => by
    by_cases he : e < 13
    · rw [jpo_at he, jpo_at he, k2 _ (by omega) (by omega) (by omega) (by omega) (by omega) (by omega)]
    · unfold jpo
      rw [if_neg he, if_neg he]
  have e2 : jpo W2 a = jpo W1 a := funext fun e => by
    by_cases he : e < 13
    · rw [jpo_at he, jpo_at he, k4 _ (by omega) (by omega) (by omega) (by omega) (by omega) (by omega)]
    · unfold jpo
      rw [if_neg he, if_neg he]
  rw [e1] at p2
  have hJ : J (jpo W2 a) (jpo W2 b) := by
    rw [e2]
    exact hJ0 _ _ p1 p2 (posP_of hP1) (posP_of hP2)
  refine jx_cm (D := D) (V := V) (a := a) (b := b) (to := to) G (J := J) ha ha2 ha3 hb hb2 hb3 hab hJf hJs (fun W3 h3 e4 hs3 hf3 hJ3 hz3 => ?_) (jdg W2 b 13) W2 h2 _ (Nat.le_refl _) hs2 (fun s c1 c2 c3 c4 c5 c6 c7 c8 c9 => by rw [k4 s c2 c4 c5 c7 c8 c9, k2 s c1 c4 c5 c7 c8 c9]) hJ
  iterate 3 refine mj_T.pl rfl rfl rfl rfl ?_
  refine mj_T.call (ins := .invokevirtual 124) rfl rfl (Nat.le_of_ble_eq_true rfl) (Nat.le_of_ble_eq_true rfl) (by simp [mj_recv, jS_a G hs3]) rfl (jp_copiesPoly (D := D + 5) G (p := to) (q := a) (by omega) (by omega) hta hs3) (fun v' h4 hq' => ?_) (fun i h' hq' => by obtain ⟨_, _, h⟩ := hq'; cases h)
  obtain ⟨_, hs4, hq'⟩ := hq'
  cases hq'
  refine mj_T.ret rfl rfl rfl ⟨_, h4, hs4, fun s c0 c1 c2 c3 c4 c5 c6 c7 c8 c9 => ?_, ?_, rfl⟩
  · rw [jfl_off _ to _ c0]
    exact hf3 s c1 c2 c3 c4 c5 c6 c7 c8 c9
  · have e3 : jpo (jfl W3 to (fun e => W3 (a * 13 + e)) 13) to = jpo W3 a := funext fun e => by
      by_cases he : e < 13
      · rw [jpo_at he, jpo_at he, jfl_at _ to _ he]
      · unfold jpo
        rw [if_neg he, if_neg he]
    have e4 : jpo W3 b = pz_0 := funext fun e => by
      by_cases he : e < 13
      · rw [jpo_at he, hz3 e he]
        rfl
      · unfold jpo
        rw [if_neg he]
        rfl
    rw [e3, ← e4]
    exact hJ3
/-- what divides both divides the two that are under way -/
def kq_E (f g x y : pz_P) : Prop := ∀ G : pz_P, qdv G f → qdv G g → qdv G x ∧ qdv G y
def kq_X (A : Nat) (f g x y : pz_P) : Prop := kq_J A f g x y ∧ posP x ∧ posP y ∧ kq_E f g x y
theorem kq_rel_qdv {f f0 G : pz_P} (h : kq_rel f f0) (k : qdv G f) : qdv G f0 := by
  rcases h with ⟨_, e⟩ | ⟨c, hc, e, _⟩
  · rw [e]
    exact qdv.z G
  · rw [e] at k
    exact k.un hc
theorem kq_rel_qdv2 {f f0 G : pz_P} (h : kq_rel f f0) (k : qdv G f0) : qdv G f := by
  rcases h with ⟨e, _⟩ | ⟨c, hc, e, _⟩
  · rw [e]
    exact qdv.z G
  · rw [e]
    exact k.sc c
theorem kq_E.step {f g x y q r r1 : pz_P} {c0 : Int} {N : Nat} (h : kq_E f g x y) (hc0 : c0 ≠ 0) (hq : pz_lt q N) (hrel : pz_sc c0 x = pz_add (pz_mul q y) r) (hr : kq_rel r r1) : kq_E f g y r1 := fun G h1 h2 => by
  obtain ⟨a, b⟩ := h G h1 h2
  exact ⟨b, kq_rel_qdv hr ((qdv_rem hc0 hq hrel b).mp a)⟩
/-- the end: it is greatest -/
theorem kq_X.fin {A : Nat} {f g G : pz_P} (hJ : kq_X A f g G pz_0) : posP G ∧ qdv G f ∧ qdv G g ∧ (∀ K : pz_P, qdv K f → qdv K g → qdv K G) ∧ (f ≠ pz_0 ∨ g ≠ pz_0 → pz_prim G) := by
  obtain ⟨⟨f0, g0, k1, k2, k3, k4, k5, k6, k7⟩, hp, _, hE⟩ := hJ
  have h1 : qdv G f := kq_rel_qdv2 k1 (k3 G (qdv.rf G) (qdv.z G))
  have h2 : qdv G g := kq_rel_qdv2 k2 (k4 G (qdv.rf G) (qdv.z G))
  refine ⟨hp, h1, h2, fun K a b => (hE K a b).1, fun hne => ?_⟩
  have nz : ∀ u : pz_P, qdv G u → u ≠ pz_0 → pz_prim G := fun u hu hu0 => by
    rcases k5 with e | e
    · obtain ⟨c, T, N, hc, _, hT⟩ := hu
      rw [e] at hT
      exact absurd (pz_sc_0 hc (hT.trans (funext fun n => pz_c_zeroR n T))) hu0
    · exact e
  rcases hne with e | e
  · exact nz f h1 e
  · exact nz g h2 e
theorem jx_commonsA (G : jG hp q0 q1 q2 q3 fs) {A : Nat} (hA : kq_fit A) (hto : to ≤ 49) (hta : to ≠ a) (ha : a ≤ 49) (ha2 : a ≠ 2) (ha3 : a ≠ 3) (hb : b ≤ 49) (hb2 : b ≠ 2) (hb3 : b ≠ 3) (hab : a ≠ b) (hVa : ∀ e, e < 13 → (V (a * 13 + e)).natAbs ≤ A) (hVb : ∀ e, e < 13 → (V (b * 13 + e)).natAbs ≤ A) (hs : jS hp q1 q2 q3 V h) :
    mj_Ok (D + 9) 212 [.ref q0, .int (jn (to : Nat)), .int (jn (a : Nat)), .int (jn (b : Nat))] h (fun r => ∃ (W : Nat → Int) (h' : mj_H), jS hp q1 q2 q3 W h' ∧ (∀ s, (s < to * 13 ∨ to * 13 + 13 ≤ s) → (s < a * 13 ∨ a * 13 + 13 ≤ s) → (s < b * 13 ∨ b * 13 + 13 ≤ s) → (s < 26 ∨ 52 ≤ s) → s ≠ 652 → s ≠ 653 → s ≠ 654 → s ≠ 655 → s ≠ 663 → s ≠ 664 → W s = V s) ∧ ((∀ i, (jpo W to i).natAbs ≤ kq_F A 24) ∧ kq_X A (jpo V a) (jpo V b) (jpo W to) pz_0) ∧ r = (.inl none, h')) :=
  mj_Ok.to (jx_commonsPoly (D := D) (V := V) G (J := kq_X A (jpo V a) (jpo V b)) hto hta ha ha2 ha3 hb hb2 hb3 hab (fun x y db n hJ h1 h2 h3 h4 h5 => kq_fits hA (jpo_lt V a) (jpo_lt V b) (jpo_le hVa) (jpo_le hVb) x y db n hJ.1 h1 h2 h3 h4 h5) (fun x y q r r1 db n hJ h1 h2 h3 h4 h5 h6 h7 => ⟨kq_step hA.1 (jpo_lt V a) (jpo_lt V b) (jpo_le hVa) (jpo_le hVb) x y q r r1 db hJ.1 h1 h2 (Int.pow_ne_zero h2) h3 h4 h5 h6, hJ.2.2.1, h7, hJ.2.2.2.step (Int.pow_ne_zero h2) h4 h3 h6⟩) (fun x y h1 h2 h3 h4 => ⟨kq_start h1 h2, h3, h4, fun K a b => ⟨kq_rel_qdv h1 a, kq_rel_qdv h2 b⟩⟩) hs) (fun r hr => by
    obtain ⟨W, h', k1, k2, k3, k4⟩ := hr
    obtain ⟨e1, e2, e3, e4⟩ := kq_end hA.1 (jpo_lt V a) (jpo_le hVa) k3.1
    exact ⟨W, h', k1, k2, ⟨e2, k3⟩, k4⟩)
end JXC
