/-! The fast machine's steps in the heap. -/
section MQH
variable {D pc : Nat} {M : mj_M} {Q : mj_R → Prop} {r1 r2 r3 r4 r5 : Nat} {ρ : Nat → Nat} {loc st : List mq_W} {n : Nat} {t : mq_Ht} {env : mq_V} {mloc : mj_L} {h : mj_H} {κ : mq_Kt} {ins : Instr}
theorem mq_s_gf {ci f i : Nat} (hc : M.2.2.2.2.1 pc = some (.getfield i, ci, f, r3, r4, r5)) (R : mq_R ρ M.2.2.1 loc n t env mloc h) (g0 : mq_x_gf ci f loc st n t env κ = true) (G : mq_G D M Q ρ κ (pc + 3)) : mj_T D M pc mloc (st.map (mq_val ρ)) h Q := by
  obtain ⟨w, s, a, e, rfl, e1, S, g1⟩ := mq_pA_of g0 R.sat
  obtain ⟨ci', fs, fs', h1, h2, h3, h4, h5, g2⟩ := mq_cO_of g1 R.hr
  obtain ⟨hb, g3⟩ := mq_cond_of g2
  obtain ⟨v, hv⟩ : ∃ v, mq_nth (Sum.inr (Sum.inr (Sum.inr (Sum.inr (Sum.inr (Sum.inr (Sum.inr (Sum.inr (some none))))))))) fs f = v := ⟨_, rfl⟩
  rw [hv] at g3
  obtain ⟨hk, g4⟩ := mq_cond_of g3
  have hb := Nat.beq_eq.mp hb
  subst hb
  have hf : f < fs.length := by
    rcases Nat.lt_or_ge f fs.length with q | q
    · exact q
    · rw [mq_nth_ge q] at hv
      rw [← hv] at hk
      cases hk
  have h6 := h4 f hf (by rw [hv]; exact hk)
  rw [hv] at h6
  rw [List.map_cons, e1]
  exact mj_T.step hc rfl (by simp only [mj_step, h2, h6, if_true]; rfl) (G _ (v :: s) _ _ _ _ _ (R.env S) g4)
theorem mq_s_pf {ci f kd i : Nat} (hc : M.2.2.2.2.1 pc = some (.putfield i, ci, f, kd, r4, r5)) (hk3 : kd ≤ 3) (R : mq_R ρ M.2.2.1 loc n t env mloc h) (g0 : mq_x_pf ci f kd loc st n t env κ = true) (G : mq_G D M Q ρ κ (pc + 3)) : mj_T D M pc mloc (st.map (mq_val ρ)) h Q := by
  obtain ⟨w, s, rfl, g1⟩ := mq_p1_of g0
  obtain ⟨wa, s, a, e, rfl, e1, S, g2⟩ := mq_pA_of g1 R.sat
  obtain ⟨ci', fs, fs', h1, h2, h3, h4, h5, g3⟩ := mq_cO_of g2 R.hr
  obtain ⟨hb, g4⟩ := mq_cond_of g3
  rw [mq_and_eq] at hb
  obtain ⟨hb, hf⟩ := hb
  have hb := Nat.beq_eq.mp hb
  have hf : f + 1 ≤ mq_len fs := Nat.ble_eq.mp hf
  rw [mq_len_eq] at hf
  subst hb
  rw [List.map_cons, List.map_cons, e1]
  have step : ∀ (v : Value) (w' : mq_W) (e' : mq_V), v = mq_val ρ w' → mq_Sat ρ e' → mj_fit kd v = true → κ loc s n (mq_hset t a (some (.inr (.inl (ci', (mq_nup mq_U fs f w')))))) e' = true → mj_T D M pc mloc (v :: .ref a :: s.map (mq_val ρ)) h Q := fun v w' e' hv hS hfit hκ => by
    have hR := (R.env hS).heap (R.hr.set h5 h2 (by rw [h1]; trivial) (show mq_pl (some (.inr (.inl (ci', (mq_nup mq_U fs f w'))))) from trivial) (mq_cr_obj (ci := ci') (w := w') (v := v) h3 h4 (show f < fs.length by omega) hv) (by simp [mj_slot]))
    exact mj_T.step hc rfl (by simp only [mj_step, h2, hfit]; rw [if_pos ⟨(by first | trivial | rfl | omega), (by first | trivial | rfl | omega), (by first | trivial | rfl | omega)⟩]) (G _ s _ _ _ _ _ hR hκ)
  have pfc : ∀ kk, mq_pfc kk ci' f fs a w loc s n t e κ = true → mq_kd kk w = true ∧ κ loc s n (mq_hset t a (some (.inr (.inl (ci', (mq_nup mq_U fs f w)))))) e = true := fun kk g => by
    unfold mq_pfc at g
    obtain ⟨q, g⟩ := mq_cond_of g
    rw [mq_hk_eq] at g
    exact ⟨q, g⟩
  match kd, hk3 with
  | 0, _ =>
    obtain ⟨q, g5⟩ := pfc 0 g4
    obtain ⟨x, hx⟩ := mq_kd0 (ρ := ρ) q
    exact step _ w e rfl S (by rw [hx]; rfl) g5
  | 1, _ =>
    obtain ⟨q, g5⟩ := pfc 1 g4
    obtain ⟨x, hx⟩ := mq_kd1 (ρ := ρ) q
    exact step _ w e rfl S (by rw [hx]; rfl) g5
  | 2, _ =>
    have g4 : mq_pfz ci' f fs a w loc s n t e κ = true := g4
    unfold mq_pfz at g4
    obtain ⟨x, e', hx, S', g7⟩ := mq_vI_of g4 S
    obtain ⟨q, g8⟩ := mq_cond_of g7
    rw [mq_hk_eq] at g8
    have q : x ≤ 1 := Nat.ble_eq.mp q
    refine step _ (Sum.inl x) e' (by rw [hx]; rfl) S' ?_ g8
    rw [hx]
    have : x = 0 ∨ x = 1 := by omega
    rcases this with q | q <;> subst q <;> decide
  | 3, _ =>
    obtain ⟨q, g5⟩ := pfc 2 g4
    obtain ⟨x, hx⟩ := mq_kd2 (ρ := ρ) q
    exact step _ w e rfl S (by rw [hx]; rfl) g5
theorem mq_hd_or (l : List Nat) (k : Nat) : mq_nth (mq_hd l) l k = mq_hd l ∨ mq_nth (mq_hd l) l k ∈ l := by
  rcases Nat.lt_or_ge k l.length with q | q
  · right
    rw [mq_nth_lt q]
    exact List.getElem_mem q
  · left
    rw [mq_nth_ge q]
theorem mq_leq_of {len : Nat} : ∀ {l : List Nat}, mq_leq t len l = true → ∀ a ∈ l, (mq_cA t a fun _ len' _ _ => Nat.beq len' len) = true
  | [], _, a, ha => by cases ha
  | b :: l, hl, a, ha => by
    have hl' : mq_and (mq_cA t b fun _ len' _ _ => Nat.beq len' len) (mq_leq t len l) = true := hl
    rw [mq_and_eq] at hl'
    rcases List.mem_cons.mp ha with q | q
    · rw [q]; exact hl'.1
    · exact mq_leq_of hl'.2 a q
theorem mq_s_al (hc : M.2.2.2.2.1 pc = some (.arraylength, r1, r2, r3, r4, r5)) (R : mq_R ρ M.2.2.1 loc n t env mloc h) (g0 : mq_x_al loc st n t env κ = true) (G : mq_G D M Q ρ κ (pc + 1)) : mj_T D M pc mloc (st.map (mq_val ρ)) h Q := by
  obtain ⟨w, s, rfl, g1⟩ := mq_p1_of g0
  split at g1
  · obtain ⟨ty, len, dep, d, f, h1, h2, h3, h4, h5, g2⟩ := mq_cA_of g1 R.hr
    exact mj_T.alen hc h2 (G _ ((Sum.inl len) :: s) _ _ _ _ _ R g2)
  · rename_i i lo l
    obtain ⟨ty, len, dep, d, f, h1, h2, h3, h4, h5, g3⟩ := mq_cA_of g1 R.hr
    obtain ⟨hl, g4⟩ := mq_cond_of g3
    have key : ∃ ty' f', h[mq_nth (mq_hd l) l (ρ i - lo)]? = some (.inl (ty', len, f')) := by
      rcases mq_hd_or l (ρ i - lo) with q | q
      · rw [q]; exact ⟨_, _, h2⟩
      · obtain ⟨ty', len', dep', d', f', k1, k2, k3, k4, k5, k6⟩ := mq_cA_of (mq_leq_of hl _ q) R.hr
        have := Nat.beq_eq.mp k6
        subst this
        exact ⟨_, _, k2⟩
    obtain ⟨ty', f', h6⟩ := key
    exact mj_T.alen hc h6 (G _ ((Sum.inl len) :: s) _ _ _ _ _ R g4)
  · cases g1
theorem mq_s_ax {ty : Nat} (hc : M.2.2.2.2.1 pc = some (ins, r1, r2, r3, r4, r5)) (hi : (ins = .iaload ∧ ty = 0) ∨ (ins = .laload ∧ ty = 1) ∨ (ins = .baload ∧ ty = 2)) (R : mq_R ρ M.2.2.1 loc n t env mloc h) (g0 : mq_x_ax ty loc st n t env κ = true) (G : mq_G D M Q ρ κ (pc + 1)) : mj_T D M pc mloc (st.map (mq_val ρ)) h Q := by
  obtain ⟨wi, s, i, e, rfl, e1, S, g1⟩ := mq_pI_of g0 R.sat
  obtain ⟨wa, s, a, e', rfl, e2, S', g2⟩ := mq_pA_of g1 S
  obtain ⟨ty', len, dep, d, f, h1, h2, h3, h4, h5, g3⟩ := mq_cA_of g2 R.hr
  obtain ⟨q, g4⟩ := mq_cond_of g3
  obtain ⟨v, hv⟩ : ∃ v, mq_get d i = v := ⟨_, rfl⟩
  rw [hv] at g4
  obtain ⟨hk, g5⟩ := mq_cond_of g4
  rw [mq_and_eq] at q
  obtain ⟨q1, q2⟩ := q
  have q2 : i + 1 ≤ len := Nat.ble_eq.mp q2
  have q1 : ty' = ty ∨ (ty = 0 ∧ ty' = 100) := by
    rcases mq_or_of q1 with q1 | q1
    · exact Or.inl (Nat.beq_eq.mp q1)
    · rw [mq_and_eq] at q1
      exact Or.inr ⟨Nat.beq_eq.mp q1.1, Nat.beq_eq.mp q1.2⟩
  have h6 := h4 i (by omega) (by rw [hv]; exact hk)
  rw [hv] at h6
  obtain ⟨i1, i2⟩ := mq_idx (show i < len by omega) h3.2
  rw [List.map_cons, List.map_cons, e1, e2]
  have G1 := G _ (v :: s) _ _ _ _ _ (R.env S') g5
  rcases hi with ⟨rfl, rfl⟩ | ⟨rfl, rfl⟩ | ⟨rfl, rfl⟩
  · refine mj_T.step hc rfl ?_ G1
    simp only [mj_step, h2, i1, i2]
    rw [if_pos ⟨(by first | trivial | rfl | omega), (by first | trivial | rfl | omega)⟩, h6]
    rfl
  · refine mj_T.step hc rfl ?_ G1
    simp only [mj_step, h2, i1, i2]
    rw [if_pos ⟨(by first | trivial | rfl | omega), (by first | trivial | rfl | omega)⟩, h6]
    rfl
  · refine mj_T.step hc rfl ?_ G1
    simp only [mj_step, h2, i1, i2]
    rw [if_pos ⟨(by first | trivial | rfl | omega), (by first | trivial | rfl | omega)⟩, h6]
    rfl
theorem mq_isref_of {ty : Nat} (h1 : Nat.ble ty 6 = true) (h2 : Nat.ble 3 ty = true) : mj_isref ty = true := by
  have h1 := Nat.ble_eq.mp h1
  have h2 := Nat.ble_eq.mp h2
  have : ty = 3 ∨ ty = 4 ∨ ty = 5 ∨ ty = 6 := by omega
  rcases this with q | q | q | q <;> subst q <;> rfl
theorem mq_refs_of {d : mq_T mq_W} : ∀ {cnt i : Nat} {k : List Nat → Bool}, mq_refs d cnt i k = true → ∃ l : List Nat, l.length = cnt ∧ (∀ j, j < cnt → mq_get d (i + j) = (Sum.inr (Sum.inl (mq_nth 0 l j)))) ∧ k l = true
  | 0, i, k, hk => ⟨[], rfl, fun j hj => absurd hj (by omega), hk⟩
  | cnt + 1, i, k, hk => by
    have hk' : (match mq_get d i with
      | (Sum.inr (Sum.inl a)) => mq_refs d cnt (i + 1) fun l => k (a :: l)
      | _ => false) = true := hk
    split at hk'
    · rename_i a ha
      obtain ⟨l, h1, h2, h3⟩ := mq_refs_of hk'
      refine ⟨a :: l, by simp [h1], fun j hj => ?_, h3⟩
      cases j with
      | zero => exact ha
      | succ j =>
        have := h2 j (by omega)
        rw [show i + 1 + j = i + (j + 1) from by omega] at this
        rw [this]
        rfl
    · cases hk'
theorem mq_s_aa (hc : M.2.2.2.2.1 pc = some (.aaload, r1, r2, r3, r4, r5)) (R : mq_R ρ M.2.2.1 loc n t env mloc h) (g0 : mq_x_aa loc st n t env κ = true) (G : mq_G D M Q ρ κ (pc + 1)) : mj_T D M pc mloc (st.map (mq_val ρ)) h Q := by
  obtain ⟨wi, s, rfl, g1⟩ := mq_p1_of g0
  split at g1
  · rename_i i
    obtain ⟨wa, s, a, e', rfl, e2, S', g2⟩ := mq_pA_of g1 R.sat
    obtain ⟨ty, len, dep, d, f, h1, h2, h3, h4, h5, g3⟩ := mq_cA_of g2 R.hr
    obtain ⟨q, g4⟩ := mq_cond_of g3
    obtain ⟨v, hv⟩ : ∃ v, mq_get d i = v := ⟨_, rfl⟩
    rw [hv] at g4
    obtain ⟨hk, g5⟩ := mq_cond_of g4
    rw [mq_and_eq, mq_and_eq] at q
    obtain ⟨q1, q2, q3⟩ := q
    have q3 : i + 1 ≤ len := Nat.ble_eq.mp q3
    have h6 := h4 i (by omega) (by rw [hv]; exact hk)
    rw [hv] at h6
    obtain ⟨i1, i2⟩ := mq_idx (show i < len by omega) h3.2
    rw [List.map_cons, List.map_cons, e2]
    refine mj_T.step hc rfl ?_ (G _ (v :: s) _ _ _ _ _ (R.env S') g5)
    simp only [mj_step, mq_val, h2, i1, i2]
    rw [if_pos ⟨mq_isref_of q1 q2, (by first | trivial | rfl | omega)⟩, h6]
    rfl
  · rename_i i m c
    split at g1
    rename_i lo hi hbd
    obtain ⟨q, g6⟩ := mq_cond_of g1
    obtain ⟨wa, s, a, e', rfl, e2, S', g7⟩ := mq_pA_of g6 R.sat
    obtain ⟨ty, len, dep, d, f, h1, h2, h3, h4, h5, g8⟩ := mq_cA_of g7 R.hr
    obtain ⟨q', g9⟩ := mq_cond_of g8
    obtain ⟨l, l1, l2, g10⟩ := mq_refs_of g9
    simp only [mq_and_eq, Nat.beq_eq] at q q'
    obtain ⟨⟨rfl, rfl⟩, q3, q4⟩ := q
    obtain ⟨q5, q6, q7⟩ := q'
    have q3 : 2147483648 ≤ lo := Nat.ble_eq.mp q3
    have q4 : lo ≤ hi := Nat.ble_eq.mp q4
    have q7 : hi - 2147483648 + 1 ≤ len := Nat.ble_eq.mp q7
    obtain ⟨b1, b2⟩ := R.sat.of i lo hi hbd
    have l1 : l.length = hi - lo + 1 := l1
    have l2 := l2 (ρ i - lo) (by show ρ i - lo < hi - lo + 1; omega)
    have ei : Nat.sub lo (nat_lit 2147483648) + (ρ i - lo) = ρ i - 2147483648 := by show lo - 2147483648 + (ρ i - lo) = _; omega
    rw [ei] at l2
    have h6 := h4 (ρ i - 2147483648) (by omega) (by rw [l2]; rfl)
    rw [l2] at h6
    obtain ⟨i1, i2⟩ := mq_idx (show ρ i - 2147483648 < len by omega) h3.2
    rw [List.map_cons, List.map_cons, e2]
    refine mj_T.step hc rfl ?_ (G _ ((Sum.inr (Sum.inr (Sum.inr (Sum.inr (Sum.inr (Sum.inl (i, lo, l))))))) :: s) _ _ _ _ _ (R.env S') g10)
    have e5 : ((ρ i : Int) - 2147483648) * ((1 : Nat) : Int) + ((0 : Nat) : Int) = ((ρ i - 2147483648 : Nat) : Int) := by omega
    simp only [mj_step, mq_val, e5, h2, i1, i2]
    rw [if_pos ⟨mq_isref_of q5 q6, (by first | trivial | rfl | omega)⟩, h6]
    have e6 : mq_nth (mq_hd l) l (ρ i - lo) = mq_nth 0 l (ρ i - lo) := by
      rw [mq_nth_lt (by omega), mq_nth_lt (by omega)]
    simp only [List.map_cons, mq_val, e6]
  · cases g1
theorem mq_s_ia (hc : M.2.2.2.2.1 pc = some (.iastore, r1, r2, r3, r4, r5)) (R : mq_R ρ M.2.2.1 loc n t env mloc h) (g0 : mq_x_ast 0 loc st n t env κ = true) (G : mq_G D M Q ρ κ (pc + 1)) : mj_T D M pc mloc (st.map (mq_val ρ)) h Q := by
  obtain ⟨w, s, rfl, g1⟩ := mq_p1_of g0
  obtain ⟨hw, g2⟩ := mq_cond_of g1
  obtain ⟨wi, s, i, e, rfl, e1, S, g3⟩ := mq_pI_of g2 R.sat
  obtain ⟨wa, s, a, e', rfl, e2, S', g4⟩ := mq_pA_of g3 S
  obtain ⟨ty', len, dep, d, f, h1, h2, h3, h4, h5, g5⟩ := mq_cA_of g4 R.hr
  obtain ⟨q, g6⟩ := mq_cond_of g5
  rw [mq_setK_eq, mq_hk_eq] at g6
  rw [mq_and_eq] at q
  have q1 := Nat.beq_eq.mp q.1
  have q2 : i + 1 ≤ len := Nat.ble_eq.mp q.2
  subst q1
  obtain ⟨i1, i2⟩ := mq_idx (show i < len by omega) h3.2
  obtain ⟨x, hx⟩ := mq_kd0 (ρ := ρ) hw
  rw [List.map_cons, List.map_cons, List.map_cons, e1, e2, hx]
  refine mj_T.step hc rfl ?_ (G _ s _ _ _ _ _ ((R.env S').heap (R.hr.set h5 h2 (by rw [h1]; trivial) mq_pl_arr (mq_cr_set h3 h4 (show i < len by omega) hx.symm) rfl)) g6)
  simp only [mj_step, h2, i1, i2]
  rw [if_pos ⟨(by first | trivial | rfl | omega), (by first | trivial | rfl | omega)⟩]
theorem mq_s_la (hc : M.2.2.2.2.1 pc = some (.lastore, r1, r2, r3, r4, r5)) (R : mq_R ρ M.2.2.1 loc n t env mloc h) (g0 : mq_x_ast 1 loc st n t env κ = true) (G : mq_G D M Q ρ κ (pc + 1)) : mj_T D M pc mloc (st.map (mq_val ρ)) h Q := by
  obtain ⟨w, s, rfl, g1⟩ := mq_p1_of g0
  obtain ⟨hw, g2⟩ := mq_cond_of g1
  obtain ⟨wi, s, i, e, rfl, e1, S, g3⟩ := mq_pI_of g2 R.sat
  obtain ⟨wa, s, a, e', rfl, e2, S', g4⟩ := mq_pA_of g3 S
  obtain ⟨ty', len, dep, d, f, h1, h2, h3, h4, h5, g5⟩ := mq_cA_of g4 R.hr
  obtain ⟨q, g6⟩ := mq_cond_of g5
  rw [mq_setK_eq, mq_hk_eq] at g6
  rw [mq_and_eq] at q
  have q1 := Nat.beq_eq.mp q.1
  have q2 : i + 1 ≤ len := Nat.ble_eq.mp q.2
  subst q1
  obtain ⟨i1, i2⟩ := mq_idx (show i < len by omega) h3.2
  obtain ⟨x, hx⟩ := mq_kd1 (ρ := ρ) hw
  rw [List.map_cons, List.map_cons, List.map_cons, e1, e2, hx]
  refine mj_T.step hc rfl ?_ (G _ s _ _ _ _ _ ((R.env S').heap (R.hr.set h5 h2 (by rw [h1]; trivial) mq_pl_arr (mq_cr_set h3 h4 (show i < len by omega) hx.symm) rfl)) g6)
  simp only [mj_step, h2, i1, i2]
  rw [if_pos ⟨(by first | trivial | rfl | omega), (by first | trivial | rfl | omega)⟩]
/-- a forgotten array of longs -/
def mq_fg (h : mj_H) (i : Nat) (t : mq_Ht) (a : Nat) : Prop := a < 1024 ∧ ∃ len dep f, mq_hg t a = some (.inl (1, len, dep, Lean.RArray.leaf mq_U)) ∧ h[a]? = some (.inl (1, len, f)) ∧ i < len ∧ (mq_wl dep len (Lean.RArray.leaf mq_U : mq_T mq_W) ∧ len ≤ 1000000)
theorem mq_weak_of {i : Nat} {k : mq_Ht → Bool} : ∀ {l : List Nat} {t : mq_Ht}, mq_weak l t i k = true → mq_Hr ρ n t h → ∃ t', mq_Hr ρ n t' h ∧ k t' = true ∧ (∀ a ∈ l, mq_fg h i t' a) ∧ ∀ a, mq_fg h i t a → mq_fg h i t' a
  | [], t, hk, hr => ⟨t, hr, hk, (fun a ha => by cases ha), fun a ha => ha⟩
  | b :: l, t, hk, hr => by
    have hk' : (mq_cA t b fun ty len dep _ => (Bool.rec (motive := fun _ => Bool) false (mq_weak l (mq_hset t b (some (.inl (1, len, dep, Lean.RArray.leaf mq_U)))) i k) (mq_and (Nat.beq ty 1) (Nat.ble (Nat.add i (nat_lit 1)) len)))) = true := hk
    obtain ⟨ty, len, dep, d, f, h1, h2, h3, h4, h5, g1⟩ := mq_cA_of hk' hr
    obtain ⟨q, g2⟩ := mq_cond_of g1
    rw [mq_and_eq] at q
    have q1 := Nat.beq_eq.mp q.1
    have q2 : i + 1 ≤ len := Nat.ble_eq.mp q.2
    subst q1
    obtain ⟨t', k1, k2, k3, k4⟩ := mq_weak_of g2 (hr.weak h5 h2 (by rw [h1]; trivial) mq_pl_arr (mq_cr_U h3))
    have own : mq_fg h i (mq_hset t b (some (.inl (1, len, dep, Lean.RArray.leaf mq_U)))) b := ⟨h5, len, dep, f, by rw [mq_hg_set hr.wl _ h5 h5, if_pos rfl], h2, by omega, ⟨mq_wl.leaf h3.1.1 _, h3.2⟩⟩
    refine ⟨t', k1, k2, fun a ha => ?_, fun a ha => ?_⟩
    · rcases List.mem_cons.mp ha with e | e
      · rw [e]; exact k4 b own
      · exact k3 a e
    · refine k4 a ?_
      by_cases e : a = b
      · rw [e]; exact own
      · obtain ⟨a1, len', dep', f', a2, a3, a4, a5⟩ := ha
        exact ⟨a1, len', dep', f', by rw [mq_hg_set hr.wl _ h5 a1, if_neg e]; exact a2, a3, a4, a5⟩
theorem mq_s_lw (hc : M.2.2.2.2.1 pc = some (.lastore, r1, r2, r3, r4, r5)) (R : mq_R ρ M.2.2.1 loc n t env mloc h) (g0 : mq_x_lw loc st n t env κ = true) (G : mq_G D M Q ρ κ (pc + 1)) : mj_T D M pc mloc (st.map (mq_val ρ)) h Q := by
  obtain ⟨w, s, rfl, g1⟩ := mq_p1_of g0
  obtain ⟨hw, g2⟩ := mq_cond_of g1
  obtain ⟨wi, s, rfl, g3⟩ := mq_p1_of g2
  obtain ⟨wa, s, rfl, g4⟩ := mq_p1_of g3
  obtain ⟨x, hx⟩ := mq_kd1 (ρ := ρ) hw
  rw [List.map_cons, List.map_cons, List.map_cons, hx]
  split at g4
  · rename_i a
    split at g4
    · rename_i _ i
      obtain ⟨ty', len, dep, d, f, h1, h2, h3, h4, h5, g5⟩ := mq_cA_of g4 R.hr
      obtain ⟨q, g6⟩ := mq_cond_of g5
      rw [mq_setK_eq, mq_hk_eq] at g6
      rw [mq_and_eq] at q
      have q1 := Nat.beq_eq.mp q.1
      have q2 : i + 1 ≤ len := Nat.ble_eq.mp q.2
      subst q1
      obtain ⟨i1, i2⟩ := mq_idx (show i < len by omega) h3.2
      refine mj_T.step hc rfl ?_ (G _ s _ _ _ _ _ (R.heap (R.hr.set h5 h2 (by rw [h1]; trivial) mq_pl_arr (mq_cr_set h3 h4 (show i < len by omega) hx.symm) rfl)) g6)
      simp only [mj_step, mq_val, h2, i1, i2]
      rw [if_pos ⟨(by first | trivial | rfl | omega), (by first | trivial | rfl | omega)⟩]
    · rename_i _ i m c
      split at g4
      rename_i lo hi hbd
      obtain ⟨ty', len, dep, d, f, h1, h2, h3, h4, h5, g7⟩ := mq_cA_of g4 R.hr
      obtain ⟨q, g8⟩ := mq_cond_of g7
      simp only [mq_and_eq, Nat.beq_eq] at q
      obtain ⟨⟨rfl, q2⟩, q3, q4⟩ := q
      have q3 : 2147483648 ≤ lo := Nat.ble_eq.mp q3
      have q4 : (hi - 2147483648) * m + c + 1 ≤ len := Nat.ble_eq.mp q4
      obtain ⟨b1, b2⟩ := R.sat.of i lo hi hbd
      have b3 : (ρ i - 2147483648) * m ≤ (hi - 2147483648) * m := Nat.mul_le_mul_right _ (by omega)
      obtain ⟨i1, i2⟩ := mq_idx (show (ρ i - 2147483648) * m + c < len by omega) h3.2
      have e5 : ((ρ i : Int) - 2147483648) * (m : Int) + (c : Int) = (((ρ i - 2147483648) * m + c : Nat) : Int) := by
        rw [Int.natCast_add, Int.natCast_mul]
        congr 2
        omega
      refine mj_T.step hc rfl ?_ (G _ s _ _ _ _ _ (R.heap (R.hr.set h5 h2 (by rw [h1]; trivial) mq_pl_arr (mq_cr_U (f := updV f ((ρ i - 2147483648) * m + c) (.long x)) h3) rfl)) g8)
      simp only [mj_step, mq_val, e5, h2, i1, i2]
      rw [if_pos ⟨(by first | trivial | rfl | omega), (by first | trivial | rfl | omega)⟩]
    · cases g4
  · rename_i j lo l
    split at g4
    · rename_i _ i
      split at g4
      · cases g4
      · rename_i b l'
        obtain ⟨t', k1, g4, k3, -⟩ := mq_weak_of g4 R.hr
        have hmem : mq_nth (mq_hd (b :: l')) (b :: l') (ρ j - lo) ∈ b :: l' := by
          rcases mq_hd_or (b :: l') (ρ j - lo) with q | q
          · rw [q]; exact List.mem_cons_self
          · exact q
        obtain ⟨a1, len, dep, f, a2, a3, a4, a5⟩ := k3 _ hmem
        obtain ⟨i1, i2⟩ := mq_idx a4 a5.2
        refine mj_T.step hc rfl ?_ (G _ s _ _ _ _ _ (R.heap (k1.mut a1 a3 (e := .inl (1, len, updV f i (.long x))) rfl (by rw [a2]; trivial) (by rw [a2]; exact mq_cr_U a5))) g4)
        simp only [mj_step, mq_val, a3, i1, i2]
        rw [if_pos ⟨(by first | trivial | rfl | omega), (by first | trivial | rfl | omega)⟩]
    · cases g4
  · cases g4
theorem mq_s_ba (hc : M.2.2.2.2.1 pc = some (.bastore, r1, r2, r3, r4, r5)) (R : mq_R ρ M.2.2.1 loc n t env mloc h) (g0 : mq_x_ba loc st n t env κ = true) (G : mq_G D M Q ρ κ (pc + 1)) : mj_T D M pc mloc (st.map (mq_val ρ)) h Q := by
  obtain ⟨w, s, x, e0, rfl, ex, S0, g1⟩ := mq_pI_of g0 R.sat
  obtain ⟨wi, s, i, e, rfl, e1, S, g2⟩ := mq_pI_of g1 S0
  obtain ⟨wa, s, a, e', rfl, e2, S', g3⟩ := mq_pA_of g2 S
  obtain ⟨ty', len, dep, d, f, h1, h2, h3, h4, h5, g4⟩ := mq_cA_of g3 R.hr
  obtain ⟨q, g5⟩ := mq_cond_of g4
  rw [mq_setK_eq, mq_hk_eq] at g5
  rw [mq_and_eq] at q
  have q1 := Nat.beq_eq.mp q.1
  have q2 : i + 1 ≤ len := Nat.ble_eq.mp q.2
  subst q1
  obtain ⟨i1, i2⟩ := mq_idx (show i < len by omega) h3.2
  rw [List.map_cons, List.map_cons, List.map_cons, ex, e1, e2]
  refine mj_T.step hc rfl ?_ (G _ s _ _ _ _ _ ((R.env S').heap (R.hr.set h5 h2 (by rw [h1]; trivial) mq_pl_arr (mq_cr_set (w := (Sum.inl (mq_i2b x))) (v := .int (jn (mq_i2b x : Nat))) h3 h4 (show i < len by omega) rfl) rfl)) g5)
  simp only [mj_step, h2, i1, i2]
  rw [if_pos ⟨(by first | trivial | rfl | omega), (by first | trivial | rfl | omega)⟩, mq_jn_byte]
theorem mq_el_of {ty ci : Nat} (h : mq_el ty ci = true) : mj_el ty = some ci := by
  unfold mq_el at h
  rcases mq_or_of h with h | h
  · rw [mq_and_eq, Nat.beq_eq, Nat.beq_eq] at h
    obtain ⟨rfl, rfl⟩ := h
    rfl
  · rcases mq_or_of h with h | h <;>
    · rw [mq_and_eq, Nat.beq_eq, Nat.beq_eq] at h
      obtain ⟨rfl, rfl⟩ := h
      rfl
theorem mq_s_aas (hc : M.2.2.2.2.1 pc = some (.aastore, r1, r2, r3, r4, r5)) (R : mq_R ρ M.2.2.1 loc n t env mloc h) (g0 : mq_x_aas loc st n t env κ = true) (G : mq_G D M Q ρ κ (pc + 1)) : mj_T D M pc mloc (st.map (mq_val ρ)) h Q := by
  obtain ⟨w, s, v, e0, rfl, ex, S0, g1⟩ := mq_pA_of g0 R.sat
  obtain ⟨wi, s, i, e, rfl, e1, S, g2⟩ := mq_pI_of g1 S0
  obtain ⟨wa, s, a, e', rfl, e2, S', g3⟩ := mq_pA_of g2 S
  obtain ⟨ty', len, dep, d, f, h1, h2, h3, h4, h5, g4⟩ := mq_cA_of g3 R.hr
  obtain ⟨cv, fs', k2, k5, g5⟩ := mq_cC_of g4 R.hr
  obtain ⟨q, g6⟩ := mq_cond_of g5
  rw [mq_setK_eq, mq_hk_eq] at g6
  rw [mq_and_eq] at q
  have q2 : i + 1 ≤ len := Nat.ble_eq.mp q.2
  obtain ⟨i1, i2⟩ := mq_idx (show i < len by omega) h3.2
  rw [List.map_cons, List.map_cons, List.map_cons, ex, e1, e2]
  refine mj_T.step hc rfl ?_ (G _ s _ _ _ _ _ ((R.env S').heap (R.hr.set h5 h2 (by rw [h1]; trivial) mq_pl_arr (mq_cr_set (w := (Sum.inr (Sum.inl v))) (v := .ref v) h3 h4 (show i < len by omega) rfl) rfl)) g6)
  simp only [mj_step, h2, k2, i1, i2]
  rw [if_pos ⟨mq_el_of q.1, (by first | trivial | rfl | omega)⟩]
end MQH
