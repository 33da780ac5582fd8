/-! Divisor: split, the loop. -/
theorem jyk_le (X V k : Nat) : jyk X V k ≤ X := by
  unfold jyk
  have h := Nat.div_add_mod X (jB ^ k)
  have h2 := Nat.mul_le_mul_right (jB ^ k) (Nat.mod_le (X / jB ^ k) V)
  rw [Nat.mul_comm] at h
  exact Nat.le_trans (Nat.add_le_add_right h2 _) (Nat.le_of_eq h)
/-- what takeAway leaves -/
theorem jta_q {U V n c R G h : Nat} (hV : V < jB ^ n) (hV0 : 0 < V) (hU : U / jB ^ n = h) (ht : jta U V G n c R) : (G = U / V → c = h ∧ R = U % V) ∧ (G = U / V + 1 → c = h + 1 ∧ R + V = 1 * jB ^ n + U % V) := by
  obtain ⟨h1, h2⟩ := ht
  rw [Nat.mod_eq_of_lt hV] at h1
  have dU := Nat.div_add_mod U (jB ^ n)
  rw [hU] at dU
  have dV := Nat.div_add_mod U V
  have hm := Nat.mod_lt U hV0
  have hP := jB_pow n
  generalize jB ^ n = P at *
  generalize U % P = a at *
  generalize hq : U / V = q at *
  generalize U % V = b at *
  rw [Nat.mul_comm P h] at dU
  rw [Nat.mul_comm V q] at dV
  constructor
  · intro hG
    subst hG
    have e : c * P + b = h * P + R := by omega
    have hc : c = h := by
      rcases Nat.lt_trichotomy c h with h3 | h3 | h3
      · have := Nat.mul_le_mul_right P (show c + 1 ≤ h by omega)
        rw [Nat.succ_mul] at this
        omega
      · exact h3
      · have := Nat.mul_le_mul_right P (show h + 1 ≤ c by omega)
        rw [Nat.succ_mul] at this
        omega
    subst hc
    exact ⟨rfl, by omega⟩
  · intro hG
    subst hG
    rw [Nat.succ_mul] at h1
    have e : c * P + b = h * P + V + R := by omega
    have hc : c = h + 1 := by
      rcases Nat.lt_trichotomy c (h + 1) with h3 | h3 | h3
      · have := Nat.mul_le_mul_right P (show c ≤ h by omega)
        omega
      · exact h3
      · have := Nat.mul_le_mul_right P (show h + 2 ≤ c by omega)
        rw [Nat.add_mul] at this
        omega
    subst hc
    rw [Nat.succ_mul] at e
    exact ⟨rfl, by omega⟩
theorem jw_split_loop {D nd m nq S X V : Nat} {sg sv fac s2 : Int} {g0 : Int32} {gv : Nat → Int32} (hnd : nd ≤ 1000) (hm : m ≤ 1000) (hnq : nq ≤ 1000) (hV : 0 < V) (hnorm : 1000000000 ≤ 2 * jlb V (jnl V - 1)) (hVn : jnl V ≤ nd) (hS : S ≤ m) (hX : jnl X ≤ S) (hcap : jnl (X / V) ≤ nq) (hgv : ∀ j, j < jnl V → gv j = jn (jlb V j)) {Q : mj_R → Prop}
    (hend : ∀ (gy gq : Nat → Int32) (v : Int) (l5 : Option Value), (∀ j, j < S → gy j = jn (jlb (X % V) j)) → (∀ j, j < jnl (X / V) → gq j = jn (jlb (X / V) j)) → mj_T (D + 1) mj_m31 98 [some (.ref 0), some (.ref 2), some (.ref 4), some (.int (jn sg)), some (.int (jn v)), l5, none] [] (jH6 nd m nq (jnl V) sv fac S s2 (jnl (X / V)) g0 gv gy gq) Q) :
    ∀ (k : Nat) (v : Int) (gy gq : Nat → Int32) (l5 : Option Value), v = (k : Int) - 1 → k + jnl V ≤ S + 1 → (∀ j, j < S → gy j = jn (jlb (jyk X V k) j)) → (∀ j, k ≤ j → j < jnl (X / V) → gq j = jn (jlb (X / V) j)) →
      mj_T (D + 1) mj_m31 39 [some (.ref 0), some (.ref 2), some (.ref 4), some (.int (jn sg)), some (.int (jn v)), l5, none] [] (jH6 nd m nq (jnl V) sv fac S s2 (jup (X / V) k) g0 gv gy gq) Q := by
  intro k
  have hn1 : 1 ≤ jnl V := Nat.pos_of_ne_zero (fun h => by have := jnl_eq0.mp h; omega)
  have hVB : V < jB ^ jnl V := jnl_le_lt.mp (Nat.le_refl _)
  induction k with
  | zero =>
    intro v gy gq l5 hv hk hgy hgq
    refine mj_T.pl rfl rfl rfl rfl ?_
    refine mj_T.if0 rfl ⟨by omega, by omega⟩ (fun hc41 => ?_) (fun hc41 => ?_)
    · rw [jup_zero]
      refine hend gy gq v l5 (fun j hj => ?_) (fun j hj => hgq j (Nat.zero_le _) hj)
      rw [hgy j hj]
      simp [jyk, Nat.mod_one]
    · simp only [jc, decide_eq_false_iff_not] at hc41; omega
  | succ k ih =>
    intro v gy gq l5 hv hk hgy hgq
    have ev : v = k := by omega
    subst ev
    have hYX := jnl_mono (jyk_le X V (k + 1))
    have hUd := jyk_div X V k
    have hR := Nat.mod_lt (X / jB ^ (k + 1)) hV
    have hUlt : jyk X V (k + 1) / jB ^ k < V * jB := by
      rw [hUd]
      have h1 : jlb X k < jB := jlb_lt X k
      refine Nat.lt_of_lt_of_le (Nat.add_lt_add_left h1 _) ?_
      rw [← Nat.succ_mul]
      exact Nat.mul_le_mul_right _ hR
    have hql : jlb (X / V) k = jyk X V (k + 1) / jB ^ k / V := by rw [hUd]; exact jcut_limb hV
    have hrl : X / jB ^ k % V = jyk X V (k + 1) / jB ^ k % V := by rw [hUd]; exact jcut_rest hV
    have hsh : ∀ j, jlb (jyk X V (k + 1)) (k + j) = jlb (jyk X V (k + 1) / jB ^ k) j := fun j => (jlb_shift _ _ _).symm
    obtain ⟨p, hp⟩ : ∃ p, jnl V = p + 1 := ⟨jnl V - 1, by omega⟩
    have hgood := jgood (U := jyk X V (k + 1) / jB ^ k) hp (by rw [hp, Nat.add_sub_cancel] at hnorm; exact hnorm) hUlt
    have hq1 := jlb_lt (X / V) k
    -- the call of guess
    refine mj_T.pl rfl rfl rfl rfl ?_
    refine mj_T.if0 rfl ⟨by omega, by omega⟩ (fun hc41 => ?_) (fun hc41 => ?_)
    · simp only [jc, decide_eq_true_eq] at hc41; omega
    clear hc41
    iterate 5 refine mj_T.pl rfl rfl rfl rfl ?_
    refine mj_T.iadd rfl ?_
    rw [show (k : Int) + (jnl V : Nat) = ((k + jnl V : Nat) : Int) by omega]
    refine mj_T.call (ins := .invokevirtual 44) rfl rfl (Nat.le_of_ble_eq_true rfl) (Nat.le_of_ble_eq_true rfl) rfl rfl (jat_HD (jw_guess (D := D) (Y := jyk X V (k + 1)) (top := k + jnl V) (S := S) hnd hm hV hnorm hVn (by omega) (by omega) hS (by omega) hgv hgy) (fun r h => by rw [h]; rfl)) (fun v' h' hq' => ?_) (fun i h' hq' => by obtain ⟨_, _, h1, h2⟩ := hq'; cases h1; cases h2)
    obtain ⟨r0, K', h1, h2⟩ := hq'
    cases h1
    cases h2
    have e1 : jlb (jyk X V (k + 1)) (k + jnl V) = jlb (jyk X V (k + 1) / jB ^ k) (p + 1) := by rw [hp, hsh]
    have e2 : jlb (jyk X V (k + 1)) (k + jnl V - 1) = jlb (jyk X V (k + 1) / jB ^ k) p := by rw [hp, show k + (p + 1) - 1 = k + p by omega, hsh]
    have e3 : (if 1 < jnl V then jlb (jyk X V (k + 1)) (k + jnl V - 2) else 0) = (if 1 < p + 1 then jlb (jyk X V (k + 1) / jB ^ k) (p + 1 - 2) else 0) := by
      rw [hp]
      by_cases h : 1 < p + 1
      · rw [if_pos h, if_pos h, show k + (p + 1) - 2 = k + (p + 1 - 2) by omega, hsh]
      · rw [if_neg h, if_neg h]
    have e4 : (if 1 < jnl V then jlb V (jnl V - 2) else 0) = (if 1 < p + 1 then jlb V (p + 1 - 2) else 0) := by rw [hp]
    have e5 : jlb V (jnl V - 1) = jlb V p := by rw [hp, Nat.add_sub_cancel]
    rw [e1, e2, e3, e4, e5]
    have hgood2 : _ ∧ _ := hgood
    generalize hG : (jgn (jlb V p) (if 1 < p + 1 then jlb V (p + 1 - 2) else 0) (if 1 < p + 1 then jlb (jyk X V (k + 1) / jB ^ k) (p + 1 - 2) else 0) 2 ((jlb (jyk X V (k + 1) / jB ^ k) (p + 1) * jB + jlb (jyk X V (k + 1) / jB ^ k) p) / jlb V p, (jlb (jyk X V (k + 1) / jB ^ k) (p + 1) * jB + jlb (jyk X V (k + 1) / jB ^ k) p) % jlb V p)).1 = G at hgood2
    refine mj_T.eq (st2 := [.long (jl G)]) (h2 := jH6 nd m nq (jnl V) sv fac S s2 (jup (X / V) (k + 1)) g0 gv gy gq) ?_ rfl rfl (by rw [← hG]; rfl) rfl
    clear hG e1 e2 e3 e4 e5 hgood
    generalize hU : jyk X V (k + 1) / jB ^ k = U at *
    have hUt : U / jB ^ jnl V = jlb U (jnl V) := jtop_eq (by rw [Nat.pow_succ]; exact Nat.lt_trans hUlt (Nat.mul_lt_mul_of_pos_right hVB (by decide)))
    have hh1 := jlb_lt U (jnl V)
    have hYS : jlb (jyk X V (k + 1)) S = 0 := jlb_high (by omega)
    -- the end of a round: the limb of the quotient is known
    have fin : ∀ (gi : Nat → Int32) (l5 : Option Value), (∀ j, j < S → gi j = jn (jlb (jyk X V k) j)) → mj_T (D + 1) mj_m31 83 [some (.ref 0), some (.ref 2), some (.ref 4), some (.int (jn sg)), some (.int (jn k)), some (.long (jl (jlb (X / V) k))), none] [] (jH6 nd m nq (jnl V) sv fac S s2 (jup (X / V) (k + 1)) g0 gv gi gq) Q := by
      intro gi l5 hgi
      iterate 3 refine mj_T.pl rfl rfl rfl rfl ?_
      refine mj_T.l2i rfl ?_
      have hul := jup_le (X / V) (k + 1)
      refine mj_T.call (ins := .invokevirtual 56) rfl rfl (Nat.le_of_ble_eq_true rfl) (Nat.le_of_ble_eq_true rfl) rfl rfl (jat_Q (jw_putLimb (D := D) (n := nq) (sz := jup (X / V) (k + 1)) (i := k) (x := jlb (X / V) k) hnq (by omega) (by omega) hq1) (fun r h => by obtain ⟨_, _, _, h⟩ := h; rw [h]; rfl)) (fun v' h' hq' => ?_) (fun i h' hq' => by obtain ⟨_, _, ⟨_, _, _, h1⟩, h2⟩ := hq'; cases h1; cases h2)
      obtain ⟨r0, K', ⟨gz, hz1, hz2, h1⟩, h2⟩ := hq'
      cases h1
      cases h2
      have esz : (if k < nq ∧ jlb (X / V) k ≠ 0 ∧ jup (X / V) (k + 1) ≤ k then k + 1 else jup (X / V) (k + 1)) = jup (X / V) k := by
        by_cases h0 : jlb (X / V) k = 0
        · rw [if_neg (fun h => h.2.1 h0), jup_same (Or.inr h0)]
        · have hkz : k < jnl (X / V) := Decidable.byContradiction fun q => h0 (jlb_high (by omega))
          by_cases h3 : jup (X / V) (k + 1) = 0
          · rw [if_pos ⟨by omega, h0, by omega⟩, jup_new h3 h0]
          · rw [jup_same (Or.inl h3), if_neg]
            intro h
            have : jup (X / V) (k + 1) = jnl (X / V) ∧ k + 1 < jnl (X / V) := by
              unfold jup at h3 ⊢
              by_cases h4 : k + 1 < jnl (X / V)
              · rw [if_pos h4]; exact ⟨rfl, h4⟩
              · rw [if_neg h4] at h3; exact absurd rfl h3
            omega
      refine mj_T.eq (h2 := jH6 nd m nq (jnl V) sv fac S s2 (jup (X / V) k) g0 gv gi gz) ?_ rfl rfl rfl (by rw [← esz]; rfl)
      refine mj_T.iinc (a := k) rfl rfl ?_
      refine mj_T.pl rfl rfl rfl rfl ?_
      refine ih ((k : Int) + -1) gi gz _ (by omega) (by omega) hgi (fun j hj1 hj2 => ?_)
      by_cases h : j = k
      · subst h
        exact hz1 (by omega)
      · rw [hz2 j h]
        exact hgq j (by omega) hj2
    -- the call of takeAway
    iterate 5 refine mj_T.pl rfl rfl rfl rfl ?_
    refine mj_T.call (ins := .invokevirtual 48) rfl rfl (Nat.le_of_ble_eq_true rfl) (Nat.le_of_ble_eq_true rfl) rfl rfl (jat_HD (jw_takeAway (D := D) (U := U) (V := V) (x := G) (place := k) (h := jlb U (jnl V)) (S := S) hnd hm hVn (by omega) hS (by omega) hh1 hgv (fun j hj => by rw [hgy (k + j) (by omega), hsh]) (fun hlt => by rw [hgy (k + jnl V) hlt, hsh]) (fun hlt => by rw [← hsh, show k + jnl V = S by omega]; exact hYS)) (fun r h => by obtain ⟨_, _, _, _, _, _, _, _, h⟩ := h; rw [h]; rfl)) (fun v' h' hq' => ?_) (fun i h' hq' => by obtain ⟨_, _, ⟨_, _, _, _, _, _, _, _, h1⟩, h2⟩ := hq'; cases h1; cases h2)
    obtain ⟨r0, K', ⟨c, R', gi, hta, t1, t2, t3, t4, h1⟩, h2⟩ := hq'
    cases h1
    cases h2
    have htq := jta_q hVB hV hUt hta
    refine mj_T.eq (st2 := [.int (jn (if c ≤ jlb U (jnl V) then 1 else 0))]) (h2 := jH6 nd m nq (jnl V) sv fac S s2 (jup (X / V) (k + 1)) g0 gv gi gq) ?_ rfl rfl rfl rfl
    -- what the limbs are, once the window's are those of U % V
    have lim : ∀ gz : Nat → Int32, (∀ j, j < k → gz j = gy j) → (∀ j, j < jnl V → gz (k + j) = jn (jlb (U % V) j)) → (k + jnl V < S → gz (k + jnl V) = jn 0) → (∀ j, k + jnl V < j → gz j = gy j) → ∀ j, j < S → gz j = jn (jlb (jyk X V k) j) := by
      intro gz z1 z2 z3 z4 j hj
      have hUV : U % V < jB ^ jnl V := Nat.lt_trans (Nat.mod_lt _ hV) hVB
      rcases Nat.lt_or_ge j k with h | h
      · rw [z1 j h, hgy j hj, jyk_low (by omega), jyk_low h]
      · obtain ⟨i, rfl⟩ : ∃ i, j = k + i := ⟨j - k, by omega⟩
        rw [jyk_high, hrl]
        rcases Nat.lt_trichotomy i (jnl V) with h3 | h3 | h3
        · exact z2 i h3
        · subst h3
          rw [z3 hj, jlb_high (jnl_of hUV)]
          rfl
        · rw [z4 (k + i) (by omega), hgy (k + i) hj, jlb_high (show jnl (U % V) ≤ i by have := jnl_of hUV; omega)]
          rw [show k + i = k + 1 + (i - 1) by omega, jyk_high]
          rw [jlb_high (show jnl (X / jB ^ (k + 1) % V) ≤ i - 1 by have := jnl_of (Nat.lt_trans hR hVB); omega)]
    refine mj_T.if0 rfl ⟨by split <;> omega, by split <;> omega⟩ (fun hc67 => ?_) (fun hc67 => ?_)
    · simp only [jc, Bool.not_eq_true', decide_eq_false_iff_not] at hc67
      have hch : c ≤ jlb U (jnl V) := Decidable.byContradiction fun h => hc67 (by rw [if_neg h])
      have hGq : G = U / V := by
        rcases (show G = U / V ∨ G = U / V + 1 by omega) with h | h
        · exact h
        · have := (htq.2 h).1; omega
      have hRq := (htq.1 hGq).2
      rw [hGq, ← hql]
      exact fin gi none (lim gi t1 (fun j hj => by rw [← hRq]; exact t2 j hj) t3 t4)
    · simp only [jc, Bool.not_eq_false', decide_eq_true_eq] at hc67
      have hch : ¬ c ≤ jlb U (jnl V) := fun h => by rw [if_pos h] at hc67; omega
      have hGq : G = U / V + 1 := by
        rcases (show G = U / V ∨ G = U / V + 1 by omega) with h | h
        · have := (htq.1 h).1; omega
        · exact h
      have hRq := (htq.2 hGq).2
      iterate 3 refine mj_T.pl rfl rfl rfl rfl ?_
      refine mj_T.call (ins := .invokevirtual 52) rfl rfl (Nat.le_of_ble_eq_true rfl) (Nat.le_of_ble_eq_true rfl) rfl rfl (jat_HD (jw_putBack (D := D) (R := R') (V := V) (place := k) (S := S) hnd hm hVn (by omega) hgv t2) (fun r h => by obtain ⟨_, _, _, _, h⟩ := h; rw [h]; rfl)) (fun v' h' hq' => ?_) (fun i h' hq' => by obtain ⟨_, _, ⟨_, _, _, _, h1⟩, h2⟩ := hq'; cases h1; cases h2)
      obtain ⟨r0, K', ⟨gz, b1, b2, b3, h1⟩, h2⟩ := hq'
      cases h1
      cases h2
      refine mj_T.eq (st2 := []) (h2 := jH6 nd m nq (jnl V) sv fac S s2 (jup (X / V) (k + 1)) g0 gv gz gq) ?_ rfl rfl rfl rfl
      iterate 2 refine mj_T.pl rfl rfl rfl rfl ?_
      refine mj_T.lsub (b := 1) rfl ?_
      refine mj_T.pl rfl rfl rfl rfl ?_
      rw [show (G : Int) - 1 = ((jlb (X / V) k : Nat) : Int) by rw [hql, hGq]; omega]
      refine fin gz none (lim gz (fun j hj => (b1 j hj).trans (t1 j hj)) (fun j hj => ?_) (fun hlt => (b3 _ (Nat.le_refl _)).trans (t3 hlt)) (fun j hj => (b3 j (by omega)).trans (t4 j hj)))
      rw [b2 j hj, hRq, jlb_low hj]
