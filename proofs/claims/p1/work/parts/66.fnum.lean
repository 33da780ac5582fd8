/-! The fast machine: numbers as cells. -/
theorem mq_nl_eq : ∀ (n x : Nat), jnl x ≤ n → Nat.rec (motive := fun _ => Nat → Nat) (fun _ => 0) (fun _ ih x => Bool.rec (motive := fun _ => Nat) 0 (Nat.add (ih (Nat.div x (nat_lit 1000000000))) (nat_lit 1)) (Nat.ble (nat_lit 1) x)) n x = jnl x
  | 0, x, h => by
    have : jnl x = 0 := by omega
    rw [this]
    rfl
  | n + 1, x, h => by
    by_cases hx : x = 0
    · subst hx
      rw [jnl_zero]
      rfl
    · have e : Nat.ble (nat_lit 1) x = true := Nat.ble_eq.mpr (by show 1 ≤ x; omega)
      have h1 := jnl_pos hx
      have ih := mq_nl_eq n (x / jB) (by omega)
      show Bool.rec (motive := fun _ => Nat) 0 (Nat.rec (motive := fun _ => Nat → Nat) (fun _ => 0) (fun _ ih x => Bool.rec (motive := fun _ => Nat) 0 (Nat.add (ih (Nat.div x (nat_lit 1000000000))) (nat_lit 1)) (Nat.ble (nat_lit 1) x)) n (x / jB) + 1) (Nat.ble (nat_lit 1) x) = _
      rw [e, h1, ← ih]
theorem mq_nl_jnl {x : Nat} (h : jnl x ≤ 700) : mq_nl x = jnl x := mq_nl_eq 700 x h
theorem mq_nZ_of {v : mq_N} {k : Nat → Nat → Bool} (h : mq_nZ v k = true) : ∃ p n, v = Sum.inl (p, n) ∧ k p n = true := by
  match v, h with
  | .inl (p, n), h => exact ⟨p, n, rfl, h⟩
  | .inr _, h => cases h
theorem mq_nv_abs {ρ : Nat → Nat} {p n : Nat} (h : mq_nf (Sum.inl (p, n))) : (mq_nv ρ (Sum.inl (p, n))).natAbs = p + n := by
  have h : p = 0 ∨ n = 0 := h
  show ((p : Int) - n).natAbs = p + n
  omega
theorem mq_cV_of {ρ : Nat → Nat} {n a : Nat} {t : mq_Ht} {h : mj_H} {k : Nat → Nat → mq_N → Bool} (hh : mq_cV t a k = true) (hr : mq_Hr ρ n t h) : ∃ b len v z, ∃ g : Nat → Int32, mq_hg t a = mq_wide b len v ∧ (mq_jk v = false → z = mq_nv ρ v) ∧ h[a]? = some (.inr (8, [.ref b, .int (jn (jnl z.natAbs)), .int (jn (jsg z))])) ∧ h[b]? = some (.inl (0, len, fun j => .int (g j))) ∧ mq_lbs z.natAbs g ∧ jnl z.natAbs ≤ len ∧ len ≤ 700 ∧ mq_nf v ∧ b < 1024 ∧ mq_hg t b = mq_lim a ∧ a < 1024 ∧ a ≠ b ∧ k b len v = true := by
  unfold mq_cV at hh
  obtain ⟨h1, h2⟩ := mq_cond_of hh
  have ha : a < 1024 := by
    have : a ≤ 1023 := Nat.ble_eq.mp h1
    omega
  have hcell := hr.cell a ha
  match hg : mq_hg t a, hcell, h2 with
  | .none, _, h2 => cases h2
  | some (.inl _), _, h2 => cases h2
  | some (.inr (.inl _)), _, h2 => cases h2
  | some (.inr (.inr (.inl (b, len, v)))), hcell, h2 =>
    rcases hcell with h3 | ⟨ho, e, h3, z, h0, h4, ⟨g, h5, h6⟩, h7, h8, h9⟩
    · cases h3
    · subst h4
      refine ⟨b, len, v, z, g, rfl, h0, h3, h5, h6, h7, h8, h9, ho.1, ho.2, ha, fun q => ?_, h2⟩
      have := ho.2
      rw [← q, hg] at this
      cases this
  | some (.inr (.inr (.inr _))), _, h2 => cases h2
theorem mq_cW_of {ρ : Nat → Nat} {n a : Nat} {t : mq_Ht} {h : mj_H} {k : Nat → Nat → mq_N → Bool} (hh : mq_cW t a k = true) (hr : mq_Hr ρ n t h) : ∃ b len v, ∃ g : Nat → Int32, mq_hg t a = mq_wide b len v ∧ h[a]? = some (.inr (8, [.ref b, .int (jn (jnl (mq_nv ρ v).natAbs)), .int (jn (jsg (mq_nv ρ v)))])) ∧ h[b]? = some (.inl (0, len, fun j => .int (g j))) ∧ mq_lbs (mq_nv ρ v).natAbs g ∧ jnl (mq_nv ρ v).natAbs ≤ len ∧ len ≤ 700 ∧ mq_nf v ∧ b < 1024 ∧ mq_hg t b = mq_lim a ∧ a < 1024 ∧ a ≠ b ∧ k b len v = true := by
  unfold mq_cW at hh
  obtain ⟨b, len, v, z, g, h1, h0, h2, h3, h4, h5, h6, h7, h8, h9, h10, h11, h12⟩ := mq_cV_of hh hr
  obtain ⟨q, h13⟩ := mq_cond_no h12
  have hz := h0 q
  subst hz
  exact ⟨b, len, v, g, h1, h2, h3, h4, h5, h6, h7, h8, h9, h10, h11, h13⟩
/-- a number's cells are set -/
theorem mq_Hr.wide {ρ : Nat → Nat} {n a b len : Nat} {t : mq_Ht} {h : mj_H} {v0 v : mq_N} {g0 g : Nat → Int32} {e0 : mj_E} (hr : mq_Hr ρ n t h) (ha : a < 1024) (h0 : mq_hg t a = mq_wide b len v0) (hl0 : h[a]? = some e0) (hz : mj_slot e0 = 3) (hb : b < 1024) (hlb : mq_hg t b = mq_lim a) (hl1 : h[b]? = some (.inl (0, len, fun j => .int (g0 j)))) (hab : a ≠ b) (hv : mq_lbs (mq_nv ρ v).natAbs g) (hc : jnl (mq_nv ρ v).natAbs ≤ len) (hlen : len ≤ 700) (hf : mq_nf v) :
    mq_Hr ρ n (mq_hset t a (mq_wide b len v)) ((h.set a (.inr (8, [.ref b, .int (jn (jnl (mq_nv ρ v).natAbs)), .int (jn (jsg (mq_nv ρ v)))]))).set b (.inl (0, len, fun j => .int (g j)))) := by
  have hla : a < h.length := (List.getElem?_eq_some_iff.mp hl0).1
  have hlb2 : b < h.length := (List.getElem?_eq_some_iff.mp hl1).1
  have out : ∀ x, x ≠ a → x ≠ b → ((h.set a (.inr (8, [.ref b, .int (jn (jnl (mq_nv ρ v).natAbs)), .int (jn (jsg (mq_nv ρ v)))]))).set b (.inl (0, len, fun j => .int (g j))))[x]? = h[x]? := fun x h1 h2 => by
    rw [List.getElem?_set_ne (by omega), List.getElem?_set_ne (by omega)]
  have e1 : ((h.set a (.inr (8, [.ref b, .int (jn (jnl (mq_nv ρ v).natAbs)), .int (jn (jsg (mq_nv ρ v)))]))).set b (.inl (0, len, fun j => .int (g j))))[a]? = some (.inr (8, [.ref b, .int (jn (jnl (mq_nv ρ v).natAbs)), .int (jn (jsg (mq_nv ρ v)))])) := by
    rw [List.getElem?_set_ne (by omega), List.getElem?_set_self hla]
  have e2 : ((h.set a (.inr (8, [.ref b, .int (jn (jnl (mq_nv ρ v).natAbs)), .int (jn (jsg (mq_nv ρ v)))]))).set b (.inl (0, len, fun j => .int (g j))))[b]? = some (.inl (0, len, fun j => .int (g j))) := by
    rw [List.getElem?_set_self (by rw [List.length_set]; exact hlb2)]
  have hnl : ∀ x, mq_hg t a ≠ mq_lim x := fun x q => by rw [h0] at q; cases q
  refine ⟨by rw [List.length_set, List.length_set]; exact hr.len, hr.le, hr.wl.set ha _, fun x hx => ?_, ?_⟩
  · rw [mq_hg_set hr.wl _ ha hx]
    split
    · rename_i q
      subst q
      refine Or.inr ⟨⟨hb, ?_⟩, _, e1, mq_nv ρ v, fun _ => rfl, rfl, ⟨g, e2, hv⟩, hc, hlen, hf⟩
      rw [mq_hg_set hr.wl _ ha hb, if_neg (by omega)]
      exact hlb
    · rename_i q
      rcases hr.cell x hx with h1 | ⟨ho, e', h1, h2⟩
      · exact Or.inl h1
      · by_cases hxb : x = b
        · subst hxb
          rw [hlb]
          exact Or.inr ⟨trivial, _, e2, trivial⟩
        · refine Or.inr ⟨mq_ow_set hr.wl ha hx ho hnl, e', by rw [out x q hxb]; exact h1, mq_cr_keep h2 (fun y len' v' hy => ?_)⟩
          have := mq_ow_w ho hy
          refine out y (fun q2 => ?_) (fun q2 => ?_)
          · rw [q2, h0] at this; cases this.2
          · rw [q2, hlb] at this
            have h3 := this.2
            unfold mq_lim at h3
            injection h3 with h3
            injection h3 with h3
            injection h3 with h3
            injection h3 with h3
            injection h3 with h3
            injection h3 with h3
            exact q h3.symm
  · have s2 := mj_sl_set (h := h.set a (.inr (8, [.ref b, .int (jn (jnl (mq_nv ρ v).natAbs)), .int (jn (jsg (mq_nv ρ v)))]))) (k := b) (e := .inl (0, len, fun j => .int (g0 j))) (e' := .inl (0, len, fun j => .int (g j))) (by rw [List.getElem?_set_ne (by omega)]; exact hl1) rfl
    have s1 := mj_sl_set (h := h) (k := a) (e' := .inr (8, [.ref b, .int (jn (jnl (mq_nv ρ v).natAbs)), .int (jn (jsg (mq_nv ρ v)))])) hl0 (by rw [hz]; rfl)
    rw [s2, s1]
    exact hr.sl
theorem mq_set_same {l : mj_H} {b : Nat} {x : mj_E} (h : l[b]? = some x) : l.set b x = l := by
  apply List.ext_getElem?
  intro i
  by_cases hi : i = b
  · subst hi
    rw [List.getElem?_set_self (List.getElem?_eq_some_iff.mp h).1, h]
  · rw [List.getElem?_set_ne (by omega)]
theorem mq_sgs_of {ρ : Nat → Nat} {x : Nat} {v : mq_N} {k : mq_N → Bool} (h : mq_sgs x v k = true) (hf : mq_nf v) : ∃ v', k v' = true ∧ mq_nf v' ∧ (mq_nv ρ v').natAbs = (mq_nv ρ v).natAbs ∧ jn (x : Nat) = jn (jsg (mq_nv ρ v')) := by
  obtain ⟨p, n, rfl, g⟩ := mq_nZ_of h
  rw [mq_nv_abs hf]
  rcases mq_if_or g with ⟨hx, g⟩ | ⟨-, g⟩
  · have hx : x = 1 := Nat.beq_eq.mp hx
    obtain ⟨hp, g⟩ := mq_cond_of g
    have hp : 1 ≤ p + n := Nat.ble_eq.mp hp
    have hf' : mq_nf (Sum.inl (p + n, 0)) := Or.inr rfl
    refine ⟨_, g, hf', mq_nv_abs hf', ?_⟩
    subst hx
    show jn ((1 : Nat) : Int) = jn (jsg (((p + n : Nat) : Int) - ((0 : Nat) : Int)))
    unfold jsg
    rw [if_neg (by omega), if_pos (by omega)]
    rfl
  · rcases mq_if_or g with ⟨hx, g⟩ | ⟨-, g⟩
    · have hx : x = 4294967295 := Nat.beq_eq.mp hx
      obtain ⟨hp, g⟩ := mq_cond_of g
      have hp : 1 ≤ p + n := Nat.ble_eq.mp hp
      have hf' : mq_nf (Sum.inl (0, p + n)) := Or.inl rfl
      refine ⟨_, g, hf', (mq_nv_abs (ρ := ρ) hf').trans (Nat.zero_add _), ?_⟩
      subst hx
      show jn ((4294967295 : Nat) : Int) = jn (jsg (((0 : Nat) : Int) - ((p + n : Nat) : Int)))
      unfold jsg
      rw [if_pos (by omega)]
      rfl
    · obtain ⟨hx, g⟩ := mq_cond_of g
      obtain ⟨hp, g⟩ := mq_cond_of g
      have hx : x = 0 := Nat.beq_eq.mp hx
      have hp : p + n = 0 := Nat.beq_eq.mp hp
      refine ⟨_, g, hf, mq_nv_abs hf, ?_⟩
      subst hx
      show jn ((0 : Nat) : Int) = jn (jsg ((p : Int) - (n : Int)))
      unfold jsg
      rw [if_neg (by omega), if_neg (by omega)]
      rfl
theorem mq_cS_of {ρ : Nat → Nat} {n a : Nat} {t : mq_Ht} {h : mj_H} {k : mq_T mq_N → Bool} (hh : mq_cS t a k = true) (hr : mq_Hr ρ n t h) : ∃ d, ∃ bg : Nat → Int32, mq_hg t a = mq_slots d ∧ h[a]? = some (.inl (0, 466830, fun j => .int (bg j))) ∧ mq_wl 10 665 d ∧ (∀ s, s < 665 → jrs bg s (mq_nv ρ (mq_get d s)) ∧ mq_nf (mq_get d s)) ∧ a < 1024 ∧ k d = true := by
  unfold mq_cS at hh
  obtain ⟨h1, h2⟩ := mq_cond_of hh
  have ha : a < 1024 := by
    have : a ≤ 1023 := Nat.ble_eq.mp h1
    omega
  have hcell := hr.cell a ha
  match hg : mq_hg t a, hcell, h2 with
  | .none, _, h2 => cases h2
  | some (.inl _), _, h2 => cases h2
  | some (.inr (.inl _)), _, h2 => cases h2
  | some (.inr (.inr (.inl _))), _, h2 => cases h2
  | some (.inr (.inr (.inr (.inl _)))), _, h2 => cases h2
  | some (.inr (.inr (.inr (.inr (.inl _))))), _, h2 => cases h2
  | some (.inr (.inr (.inr (.inr (.inr d))))), hcell, h2 =>
    rcases hcell with h3 | ⟨ho, e, h3, h4, bg, h5, h6⟩
    · cases h3
    · subst h5
      exact ⟨d, bg, rfl, h3, h4, h6, ha, h2⟩
section MQW
variable {D pc : Nat} {M : mj_M} {Q : mj_R → Prop} {r1 r2 r3 r4 r5 : Nat} {ρ : Nat → Nat} {loc st : List mq_W} {n : Nat} {t : mq_Ht} {env : mq_V} {mloc : mj_L} {h : mj_H} {κ : mq_Kt} {ins : Instr}
theorem mq_s_gw1 {i : Nat} (hc : M.2.2.2.2.1 pc = some (.getfield i, 8, 1, r3, r4, r5)) (R : mq_R ρ M.2.2.1 loc n t env mloc h) (g0 : mq_x_gw 1 loc st n t env κ = true) (G : mq_G D M Q ρ κ (pc + 3)) : mj_T D M pc mloc (st.map (mq_val ρ)) h Q := by
  obtain ⟨w, s, a, e, rfl, e1, S, g1⟩ := mq_pA_of g0 R.sat
  obtain ⟨b, len, v, g, h1, h2, h3, h4, h5, h6, h7, h8, h9, h10, h11, g2⟩ := mq_cW_of g1 R.hr
  have g2 : (mq_nZ v fun p m => κ loc (Sum.inl (mq_nl (Nat.add p m)) :: s) n t e) = true := g2
  obtain ⟨p, m, rfl, g3⟩ := mq_nZ_of g2
  have e2 := mq_nv_abs (ρ := ρ) h7
  rw [e2] at h2 h5
  have e3 : mq_nl (Nat.add p m) = jnl (p + m) := mq_nl_jnl (x := p + m) (by omega)
  rw [e3] at g3
  rw [List.map_cons, e1]
  refine mj_T.step hc rfl ?_ (G _ (Sum.inl (jnl (p + m)) :: s) _ _ _ _ _ (R.env S) g3)
  simp only [mj_step, h2, if_true]
  rfl
theorem mq_s_gw2 {i : Nat} (hc : M.2.2.2.2.1 pc = some (.getfield i, 8, 2, r3, r4, r5)) (R : mq_R ρ M.2.2.1 loc n t env mloc h) (g0 : mq_x_gw 2 loc st n t env κ = true) (G : mq_G D M Q ρ κ (pc + 3)) : mj_T D M pc mloc (st.map (mq_val ρ)) h Q := by
  obtain ⟨w, s, a, e, rfl, e1, S, g1⟩ := mq_pA_of g0 R.sat
  obtain ⟨b, len, v, g, h1, h2, h3, h4, h5, h6, h7, h8, h9, h10, h11, g2⟩ := mq_cW_of g1 R.hr
  have g2 : (mq_sgn v e fun x e => κ loc (Sum.inl x :: s) n t e) = true := g2
  obtain ⟨x, e', hx, S', g3⟩ := mq_sgn_of g2 h7 S
  rw [List.map_cons, e1]
  refine mj_T.step hc rfl ?_ (G _ (Sum.inl x :: s) _ _ _ _ _ (R.env S') g3)
  simp only [mj_step, h2, if_true, List.map_cons, mq_val, hx]
  rfl
theorem mq_s_pw {i : Nat} (hc : M.2.2.2.2.1 pc = some (.putfield i, 8, 2, 0, r4, r5)) (R : mq_R ρ M.2.2.1 loc n t env mloc h) (g0 : mq_x_pw loc st n t env κ = true) (G : mq_G D M Q ρ κ (pc + 3)) : mj_T D M pc mloc (st.map (mq_val ρ)) h Q := by
  obtain ⟨w0, s, x, e, rfl, ex, S, g1⟩ := mq_pI_of g0 R.sat
  obtain ⟨w, s, a, e', rfl, e1, S', g2⟩ := mq_pA_of g1 S
  obtain ⟨b, len, v, g, h1, h2, h3, h4, h5, h6, h7, h8, h9, h10, h11, g3⟩ := mq_cW_of g2 R.hr
  obtain ⟨v', g4, k1, k2, k3⟩ := mq_sgs_of (ρ := ρ) g3 h7
  rw [mq_hk_eq] at g4
  rw [List.map_cons, List.map_cons, ex, e1]
  have hR := R.hr.wide h10 h1 h2 rfl h8 h9 h3 h11 (v := v') (g := g) (by rw [k2]; exact h4) (by rw [k2]; exact h5) h6 k1
  rw [mq_set_same (by rw [List.getElem?_set_ne h11]; exact h3)] at hR
  refine mj_T.step hc rfl ?_ (G _ s _ _ _ _ _ ((R.env S').heap hR) g4)
  simp only [mj_step, h2, mj_fit, k3, k2]
  rfl
theorem mq_s_ss (hc : M.2.2.2.2.1 pc = some (.iastore, r1, r2, r3, r4, r5)) (R : mq_R ρ M.2.2.1 loc n t env mloc h) (g0 : mq_x_ss loc st n t env κ = true) (G : mq_G D M Q ρ κ (pc + 1)) : mj_T D M pc mloc (st.map (mq_val ρ)) h Q := by
  obtain ⟨w0, s, x, e, rfl, ex, S, g1⟩ := mq_pI_of g0 R.sat
  obtain ⟨w1, s, i, e', rfl, ei, S', g2⟩ := mq_pI_of g1 S
  obtain ⟨w, s, a, e'', rfl, e1, S'', g3⟩ := mq_pA_of g2 S'
  obtain ⟨d, bg, h1, h2, h3, h4, h5, g4⟩ := mq_cS_of g3 R.hr
  obtain ⟨q, g5⟩ := mq_cond_of g4
  rw [mq_and_eq] at q
  have q1 : i % 702 = 0 := Nat.beq_eq.mp q.1
  have q2 : i + 1 ≤ 466830 := Nat.ble_eq.mp q.2
  have hs : i / 702 < 665 := by omega
  obtain ⟨k0, k1⟩ := h4 _ hs
  obtain ⟨v', g6, k2, k3, k4⟩ := mq_sgs_of (ρ := ρ) g5 k1
  rw [mq_setK_eq, mq_hk_eq] at g6
  have ei2 : i = i / 702 * 702 := by omega
  obtain ⟨i1, i2⟩ := mq_idx (show i < 466830 by omega) (by omega)
  obtain ⟨bg', hb⟩ : ∃ bg' : Nat → Int32, bg' = fun j => if j = i then jn (x : Nat) else bg j := ⟨_, rfl⟩
  have at1 : ∀ y, y = i → bg' y = jn (x : Nat) := fun y hy => by rw [hb]; exact if_pos hy
  have at2 : ∀ y, y ≠ i → bg' y = bg y := fun y hy => by rw [hb]; exact if_neg hy
  have hcr : mq_cr ρ h (mq_slots (mq_set 10 d (i / 702) v')) (.inl (0, 466830, updV (fun j => .int (bg j)) i (.int (jn (x : Nat))))) := by
    refine ⟨h3.set hs _, bg', ?_, fun u hu => ?_⟩
    · congr 3
      funext j
      by_cases hj : j = i
      · rw [at1 j hj]; simp [updV, hj]
      · rw [at2 j hj]; simp [updV, hj]
    · rw [mq_get_set h3 _ hs hu]
      split
      · rename_i q
        subst q
        refine ⟨⟨(at1 _ (by omega)).trans k4, ?_, fun j hj => ?_, ?_⟩, k2⟩
        · rw [k3]; exact (at2 _ (by omega)).trans k0.2.1
        · rw [k3] at hj ⊢
          exact (at2 _ (by omega)).trans (k0.2.2.1 j hj)
        · rw [k3]; exact k0.2.2.2
      · rename_i q
        obtain ⟨m0, m1⟩ := h4 u hu
        refine ⟨⟨(at2 _ (by omega)).trans m0.1, (at2 _ (by omega)).trans m0.2.1, fun j hj => ?_, m0.2.2.2⟩, m1⟩
        have := m0.2.2.2
        exact (at2 _ (by omega)).trans (m0.2.2.1 j hj)
  rw [List.map_cons, List.map_cons, List.map_cons, ex, ei, e1]
  refine mj_T.step hc rfl ?_ (G _ s _ _ _ _ _ ((R.env S'').heap (R.hr.set h5 h2 (by rw [h1]; trivial) (show mq_pl (mq_slots _) from trivial) hcr rfl)) g6)
  simp only [mj_step, h2, i1, i2]
  rw [if_pos ⟨(by first | trivial | rfl | omega), (by first | trivial | rfl | omega)⟩]
end MQW
