/-! Wide: putLimb. -/
theorem jw_putLimb {D n sz i x : Nat} {g0 : Int32} {g : Nat → Int32} (hn : n ≤ 1000) (hsz : sz ≤ n) (hi : i ≤ 1000) (hx : x < 1000000000) :
    mj_Ok (D + 1) 90 [.ref 0, .int (jn i), .int (jn x)] (jH1 n sz g0 g)
      (fun r => ∃ gi : Nat → Int32, (i < n → gi i = jn x) ∧ (∀ j, j ≠ i → gi j = g j) ∧ r = (.inl none, jH1 n ((if i < n ∧ x ≠ 0 ∧ sz ≤ i then i + 1 else sz : Nat) : Int) g0 gi)) := by
  refine mj_Ok.of (M := mj_m90) rfl rfl rfl ?_
  refine mj_T.pl rfl rfl rfl rfl ?_
  refine mj_T.if0 rfl ⟨by omega, by omega⟩ (fun hc1 => ?_) (fun hc1 => ?_)
  · simp only [jc, decide_eq_true_eq] at hc1; omega
  iterate 3 refine mj_T.pl rfl rfl rfl rfl ?_
  refine mj_T.alen rfl rfl ?_
  refine mj_T.icmp rfl ⟨by omega, by omega⟩ ⟨by omega, by omega⟩ (fun hc10 => ?_) (fun hc10 => ?_)
  · simp only [jc, decide_eq_true_eq] at hc10
    refine mj_T.ret rfl rfl rfl ⟨g, fun h => by omega, fun j _ => rfl, ?_⟩
    rw [if_neg (by omega)]
  · simp only [jc, decide_eq_false_iff_not] at hc10
    iterate 4 refine mj_T.pl rfl rfl rfl rfl ?_
    refine mj_T.iast rfl rfl ⟨by omega, by omega⟩ ⟨by omega, by omega⟩ ?_
    refine mj_T.pl rfl rfl rfl rfl ?_
    refine mj_T.if0 rfl ⟨by omega, by omega⟩ (fun hc21 => ?_) (fun hc21 => ?_)
    · simp only [jc, decide_eq_true_eq] at hc21
      refine mj_T.ret rfl rfl rfl ⟨upd g i (jn x), fun _ => if_pos rfl, fun j hj => if_neg hj, ?_⟩
      rw [if_neg (by omega)]
      rfl
    · simp only [jc, decide_eq_false_iff_not] at hc21
      iterate 3 refine mj_T.pl rfl rfl rfl rfl ?_
      refine mj_T.icmp rfl ⟨by omega, by omega⟩ ⟨by omega, by omega⟩ (fun hc29 => ?_) (fun hc29 => ?_)
      · simp only [jc, decide_eq_true_eq] at hc29
        refine mj_T.ret rfl rfl rfl ⟨upd g i (jn x), fun _ => if_pos rfl, fun j hj => if_neg hj, ?_⟩
        rw [if_neg (by omega)]
        rfl
      · simp only [jc, decide_eq_false_iff_not] at hc29
        iterate 3 refine mj_T.pl rfl rfl rfl rfl ?_
        refine mj_T.iadd (b := 1) rfl ?_
        refine mj_T.pl rfl rfl rfl rfl ?_
        refine mj_T.ret rfl rfl rfl ⟨upd g i (jn x), fun _ => if_pos rfl, fun j hj => if_neg hj, ?_⟩
        rw [if_pos (by omega)]
        rfl
/-! The guess is the limb of the quotient or one more. -/
theorem jlb_shift (Y k j : Nat) : jlb (Y / jB ^ k) j = jlb Y (k + j) := by
  unfold jlb
  rw [Nat.div_div_eq_div_mul, ← Nat.pow_add]
theorem jtop_eq {x n : Nat} (h : x < jB ^ (n + 1)) : x / jB ^ n = jlb x n := by
  have h1 := jdiv x n
  rw [Nat.div_eq_of_lt h, Nat.zero_mul, Nat.zero_add] at h1
  exact h1
theorem jgood {U V n : Nat} (hn : jnl V = n + 1) (hnorm : jB ≤ 2 * jlb V n) (hU : U < V * jB) :
    U / V ≤ (jgn (jlb V n) (if 1 < n + 1 then jlb V (n + 1 - 2) else 0) (if 1 < n + 1 then jlb U (n + 1 - 2) else 0) 2 ((jlb U (n + 1) * jB + jlb U n) / jlb V n, (jlb U (n + 1) * jB + jlb U n) % jlb V n)).1 ∧
    (jgn (jlb V n) (if 1 < n + 1 then jlb V (n + 1 - 2) else 0) (if 1 < n + 1 then jlb U (n + 1 - 2) else 0) 2 ((jlb U (n + 1) * jB + jlb U n) / jlb V n, (jlb U (n + 1) * jB + jlb U n) % jlb V n)).1 ≤ U / V + 1 := by
  have hVlt : V < jB ^ (n + 1) := jnl_le_lt.mp (Nat.le_of_eq hn)
  have hVt := jtop_eq hVlt
  have hV0 : 0 < V := Nat.pos_of_ne_zero (fun q => by rw [q, jnl_zero] at hn; omega)
  have hUlt : U < jB ^ (n + 1 + 1) := by
    rw [Nat.pow_succ]
    exact Nat.lt_trans hU (Nat.mul_lt_mul_of_pos_right hVlt (by decide))
  have hUt := jtop_eq hUlt
  have ht : U / jB ^ n = jlb U (n + 1) * jB + jlb U n := by rw [jdiv U n, hUt]
  have hVl : V < (jlb V n + 1) * jB ^ n := by
    rw [← hVt, Nat.mul_comm]
    exact Nat.lt_mul_div_succ V (jB_pow n)
  have htl : jlb U (n + 1) * jB + jlb U n < (jlb V n + 1) * jB := by
    rw [← ht, Nat.div_lt_iff_lt_mul (jB_pow n)]
    refine Nat.lt_of_lt_of_le hU ?_
    rw [Nat.mul_assoc, Nat.mul_comm jB, ← Nat.mul_assoc]
    exact Nat.mul_le_mul_right _ (Nat.le_of_lt hVl)
  have hqB : U / V < jB := by rw [Nat.div_lt_iff_lt_mul hV0, Nat.mul_comm]; exact hU
  generalize hT : jlb U (n + 1) * jB + jlb U n = T at *
  cases n with
  | zero =>
    have e1 : V = jlb V 0 := by rw [← hVt, Nat.pow_zero, Nat.div_one]
    have e2 : U = T := by rw [← ht, Nat.pow_zero, Nat.div_one]
    have e3 : (T * jB + 0) / (jlb V 0 * jB + 0) = U / V := by
      rw [Nat.add_zero, Nat.add_zero, Nat.mul_div_mul_right _ _ (by decide), ← e1, ← e2]
    rw [if_neg (by omega), if_neg (by omega)]
    exact jguess hnorm (by decide) (by decide) htl hqB (by rw [e3]; exact Nat.le_refl _) (by rw [e3]; exact Nat.le_succ _)
  | succ p =>
    rw [if_pos (by omega), if_pos (by omega), show p + 1 + 1 - 2 = p by omega]
    have eV : V / jB ^ p = jlb V (p + 1) * jB + jlb V p := by rw [jdiv V p, hVt]
    have eU : U / jB ^ p = T * jB + jlb U p := by rw [jdiv U p, ht]
    have dV := Nat.div_add_mod V (jB ^ p)
    have dU := Nat.div_add_mod U (jB ^ p)
    rw [eV, Nat.mul_comm] at dV
    rw [eU, Nat.mul_comm] at dU
    have hk := jkn (jB_pow p) dU.symm (Nat.mod_lt _ (jB_pow p)) dV.symm (Nat.mod_lt _ (jB_pow p)) (by
      have h1 := Nat.mul_le_mul_right jB hnorm
      rw [Nat.mul_assoc] at h1
      rw [Nat.mul_add]
      exact Nat.le_trans h1 (Nat.le_add_right _ _)) hU
    exact jguess hnorm (jlb_lt V p) (jlb_lt U p) htl hqB hk.1 hk.2
/-! Divisor: split. -/
/-- the heap of a Divisor, the divided Wide and the quotient -/
abbrev jH6 (nd m nq : Nat) (n sv fac s s2 sz : Int) (g0 : Int32) (gv gy gq : Nat → Int32) : mj_H := [.inr (2, [.ref 1, .int (jn n), .int (jn sv), .long (jl fac)]), .inl (0, nd, fun j => .int (gv j)), .inr (8, [.ref 3, .int (jn s), .int (jn s2)]), .inl (0, m, fun j => .int (gy j)), .inr (8, [.ref 5, .int (jn sz), .int g0]), .inl (0, nq, fun j => .int (gq j))]
section MJ6
variable {D nd m nq : Nat} {n sv fac s s2 sz : Int} {g0 : Int32} {gv gy gq : Nat → Int32}
theorem jat_HD {j : Nat} {as : List Value} {Q : mj_R → Prop} (c : mj_Ok D j as (jHD nd m n sv fac s s2 gv gy) Q) (hK : ∀ r, Q r → r.2.length = 4) :
    mj_Ok D j (as.map (mj_rn (jrho [0, 1, 2, 3] 6))) (jH6 nd m nq n sv fac s s2 sz g0 gv gy gq) (fun r => ∃ r0 K', Q (r0, K') ∧ r = (mj_rR (jrho [0, 1, 2, 3] 6) r0, jlay (mj_rE (jrho [0, 1, 2, 3] 6)) [0, 1, 2, 3] K' (jH6 nd m nq n sv fac s s2 sz g0 gv gy gq))) :=
  mj_Ok.at c [0, 1, 2, 3] (h := jH6 nd m nq n sv fac s s2 sz g0 gv gy gq) rfl (by decide) (fun p hp => by show p < 6; simp at hp; omega) (fun i p e hi he => by
    match i, hi, he with
    | 0, hi, he => cases hi; cases he; rfl
    | 1, hi, he => cases hi; cases he; rfl
    | 2, hi, he => cases hi; cases he; rfl
    | 3, hi, he => cases hi; cases he; rfl
    | i + 4, hi, he => simp at hi) hK
theorem jat_Q {j : Nat} {as : List Value} {Q : mj_R → Prop} (c : mj_Ok D j as (jH1 nq sz g0 gq) Q) (hK : ∀ r, Q r → r.2.length = 2) :
    mj_Ok D j (as.map (mj_rn (jrho [4, 5] 6))) (jH6 nd m nq n sv fac s s2 sz g0 gv gy gq) (fun r => ∃ r0 K', Q (r0, K') ∧ r = (mj_rR (jrho [4, 5] 6) r0, jlay (mj_rE (jrho [4, 5] 6)) [4, 5] K' (jH6 nd m nq n sv fac s s2 sz g0 gv gy gq))) :=
  mj_Ok.at c [4, 5] (h := jH6 nd m nq n sv fac s s2 sz g0 gv gy gq) rfl (by decide) (fun p hp => by show p < 6; simp at hp; omega) (fun i p e hi he => by
    match i, hi, he with
    | 0, hi, he => cases hi; cases he; rfl
    | 1, hi, he => cases hi; cases he; rfl
    | i + 2, hi, he => simp at hi) hK
theorem jat_W {j : Nat} {as : List Value} {Q : mj_R → Prop} (c : mj_Ok D j as (jH1 m s (jn s2) gy) Q) (hK : ∀ r, Q r → r.2.length = 2) :
    mj_Ok D j (as.map (mj_rn (jrho [2, 3] 6))) (jH6 nd m nq n sv fac s s2 sz g0 gv gy gq) (fun r => ∃ r0 K', Q (r0, K') ∧ r = (mj_rR (jrho [2, 3] 6) r0, jlay (mj_rE (jrho [2, 3] 6)) [2, 3] K' (jH6 nd m nq n sv fac s s2 sz g0 gv gy gq))) :=
  mj_Ok.at c [2, 3] (h := jH6 nd m nq n sv fac s s2 sz g0 gv gy gq) rfl (by decide) (fun p hp => by show p < 6; simp at hp; omega) (fun i p e hi he => by
    match i, hi, he with
    | 0, hi, he => cases hi; cases he; rfl
    | 1, hi, he => cases hi; cases he; rfl
    | i + 2, hi, he => simp at hi) hK
end MJ6
/-- what stands in the divided number's limbs once the limbs of the quotient from k on are known -/
def jyk (X V k : Nat) : Nat := X / jB ^ k % V * jB ^ k + X % jB ^ k
theorem jyk_shift (X V k : Nat) : jyk X V (k + 1) = (X / jB ^ (k + 1) % V * jB + jlb X k) * jB ^ k + X % jB ^ k := by
  unfold jyk
  rw [jmod, Nat.add_mul, Nat.pow_succ, Nat.mul_assoc (X / (jB ^ k * jB) % V), Nat.mul_comm jB (jB ^ k), Nat.add_assoc]
theorem jyk_div (X V k : Nat) : jyk X V (k + 1) / jB ^ k = X / jB ^ (k + 1) % V * jB + jlb X k := by
  rw [jyk_shift, Nat.mul_comm, Nat.mul_add_div (jB_pow k), Nat.div_eq_of_lt (Nat.mod_lt _ (jB_pow k)), Nat.add_zero]
theorem jyk_low {X V k j : Nat} (h : j < k) : jlb (jyk X V k) j = jlb X j := by
  have h1 : jlb (jyk X V k) j = jlb (X % jB ^ k) j := jlb_low h
  have h2 : jlb (X / jB ^ k * jB ^ k + X % jB ^ k) j = jlb (X % jB ^ k) j := jlb_low h
  rw [h1, ← h2, Nat.mul_comm, Nat.div_add_mod]
theorem jyk_high (X V k j : Nat) : jlb (jyk X V k) (k + j) = jlb (X / jB ^ k % V) j := by
  rw [← jlb_shift]
  congr 1
  unfold jyk
  rw [Nat.mul_comm, Nat.mul_add_div (jB_pow k), Nat.div_eq_of_lt (Nat.mod_lt _ (jB_pow k)), Nat.add_zero]
/-! Divisor: split, the loop. -/
theorem jyk_le (X V k : Nat) : jyk X V k ≤ X := by
  unfold jyk
  have h := Nat.div_add_mod X (jB ^ k)
  have h2 := Nat.mul_le_mul_right (jB ^ k) (Nat.mod_le (X / jB ^ k) V)
  rw [Nat.mul_comm] at h
  exact Nat.le_trans (Nat.add_le_add_right h2 _) (Nat.le_of_eq h)
/-- what takeAway leaves -/
theorem jta_q {U V n c R G h : Nat} (hV : V < jB ^ n) (hV0 : 0 < V) (hU : U / jB ^ n = h) (ht : jta U V G n c R) : (G = U / V → c = h ∧ R = U % V) ∧ (G = U / V + 1 → c = h + 1 ∧ R + V = 1 * jB ^ n + U % V) := by
  obtain ⟨h1, h2⟩ := ht
  rw [Nat.mod_eq_of_lt hV] at h1
  have dU := Nat.div_add_mod U (jB ^ n)
  rw [hU] at dU
  have dV := Nat.div_add_mod U V
  have hm := Nat.mod_lt U hV0
  have hP := jB_pow n
  generalize jB ^ n = P at *
  generalize U % P = a at *
  generalize hq : U / V = q at *
  generalize U % V = b at *
  rw [Nat.mul_comm P h] at dU
  rw [Nat.mul_comm V q] at dV
  constructor
  · intro hG
    subst hG
    have e : c * P + b = h * P + R := by omega
    have hc : c = h := by
      rcases Nat.lt_trichotomy c h with h3 | h3 | h3
      · have := Nat.mul_le_mul_right P (show c + 1 ≤ h by omega)
        rw [Nat.succ_mul] at this
        omega
      · exact h3
      · have := Nat.mul_le_mul_right P (show h + 1 ≤ c by omega)
        rw [Nat.succ_mul] at this
        omega
    subst hc
    exact ⟨rfl, by omega⟩
  · intro hG
    subst hG
    rw [Nat.succ_mul] at h1
    have e : c * P + b = h * P + V + R := by omega
    have hc : c = h + 1 := by
      rcases Nat.lt_trichotomy c (h + 1) with h3 | h3 | h3
      · have := Nat.mul_le_mul_right P (show c ≤ h by omega)
        omega
      · exact h3
      · have := Nat.mul_le_mul_right P (show h + 2 ≤ c by omega)
        rw [Nat.add_mul] at this
        omega
    subst hc
    rw [Nat.succ_mul] at e
    exact ⟨rfl, by omega⟩
theorem jw_split_loop {D nd m nq S X V : Nat} {sg sv fac s2 : Int} {g0 : Int32} {gv : Nat → Int32} (hnd : nd ≤ 1000) (hm : m ≤ 1000) (hnq : nq ≤ 1000) (hV : 0 < V) (hnorm : 1000000000 ≤ 2 * jlb V (jnl V - 1)) (hVn : jnl V ≤ nd) (hS : S ≤ m) (hX : jnl X ≤ S) (hcap : jnl (X / V) ≤ nq) (hgv : ∀ j, j < jnl V → gv j = jn (jlb V j)) {Q : mj_R → Prop}
    (hend : ∀ (gy gq : Nat → Int32) (v : Int) (l5 : Option Value), (∀ j, j < S → gy j = jn (jlb (X % V) j)) → (∀ j, j < jnl (X / V) → gq j = jn (jlb (X / V) j)) → mj_T (D + 1) mj_m31 98 [some (.ref 0), some (.ref 2), some (.ref 4), some (.int (jn sg)), some (.int (jn v)), l5, none] [] (jH6 nd m nq (jnl V) sv fac S s2 (jnl (X / V)) g0 gv gy gq) Q) :
    ∀ (k : Nat) (v : Int) (gy gq : Nat → Int32) (l5 : Option Value), v = (k : Int) - 1 → k + jnl V ≤ S + 1 → (∀ j, j < S → gy j = jn (jlb (jyk X V k) j)) → (∀ j, k ≤ j → j < jnl (X / V) → gq j = jn (jlb (X / V) j)) →
      mj_T (D + 1) mj_m31 39 [some (.ref 0), some (.ref 2), some (.ref 4), some (.int (jn sg)), some (.int (jn v)), l5, none] [] (jH6 nd m nq (jnl V) sv fac S s2 (jup (X / V) k) g0 gv gy gq) Q := by
  intro k
  have hn1 : 1 ≤ jnl V := Nat.pos_of_ne_zero (fun h => by have := jnl_eq0.mp h; omega)
  have hVB : V < jB ^ jnl V := jnl_le_lt.mp (Nat.le_refl _)
  induction k with
  | zero =>
    intro v gy gq l5 hv hk hgy hgq
    refine mj_T.pl rfl rfl rfl rfl ?_
    refine mj_T.if0 rfl ⟨by omega, by omega⟩ (fun hc41 => ?_) (fun hc41 => ?_)
    · rw [jup_zero]
      refine hend gy gq v l5 (fun j hj => ?_) (fun j hj => hgq j (Nat.zero_le _) hj)
      rw [hgy j hj]
      simp [jyk, Nat.mod_one]
    · simp only [jc, decide_eq_false_iff_not] at hc41; omega
  | succ k ih =>
    intro v gy gq l5 hv hk hgy hgq
    have ev : v = k := by omega
    subst ev
    have hYX := jnl_mono (jyk_le X V (k + 1))
    have hUd := jyk_div X V k
    have hR := Nat.mod_lt (X / jB ^ (k + 1)) hV
    have hUlt : jyk X V (k + 1) / jB ^ k < V * jB := by
      rw [hUd]
      have h1 : jlb X k < jB := jlb_lt X k
      refine Nat.lt_of_lt_of_le (Nat.add_lt_add_left h1 _) ?_
      rw [← Nat.succ_mul]
      exact Nat.mul_le_mul_right _ hR
    have hql : jlb (X / V) k = jyk X V (k + 1) / jB ^ k / V := by rw [hUd]; exact jcut_limb hV
    have hrl : X / jB ^ k % V = jyk X V (k + 1) / jB ^ k % V := by rw [hUd]; exact jcut_rest hV
    have hsh : ∀ j, jlb (jyk X V (k + 1)) (k + j) = jlb (jyk X V (k + 1) / jB ^ k) j := fun j => (jlb_shift _ _ _).symm
    obtain ⟨p, hp⟩ : ∃ p, jnl V = p + 1 := ⟨jnl V - 1, by omega⟩
    have hgood := jgood (U := jyk X V (k + 1) / jB ^ k) hp (by rw [hp, Nat.add_sub_cancel] at hnorm; exact hnorm) hUlt
    have hq1 := jlb_lt (X / V) k
    -- the call of guess
    refine mj_T.pl rfl rfl rfl rfl ?_
    refine mj_T.if0 rfl ⟨by omega, by omega⟩ (fun hc41 => ?_) (fun hc41 => ?_)
    · simp only [jc, decide_eq_true_eq] at hc41; omega
    clear hc41
    iterate 5 refine mj_T.pl rfl rfl rfl rfl ?_
    refine mj_T.iadd rfl ?_
    rw [show (k : Int) + (jnl V : Nat) = ((k + jnl V : Nat) : Int) by omega]
    refine mj_T.call (ins := .invokevirtual 44) rfl rfl (Nat.le_of_ble_eq_true rfl) (Nat.le_of_ble_eq_true rfl) rfl rfl (jat_HD (jw_guess (D := D) (Y := jyk X V (k + 1)) (top := k + jnl V) (S := S) hnd hm hV hnorm hVn (by omega) (by omega) hS (by omega) hgv hgy) (fun r h => by rw [h]; rfl)) (fun v' h' hq' => ?_) (fun i h' hq' => by obtain ⟨_, _, h1, h2⟩ := hq'; cases h1; cases h2)
    obtain ⟨r0, K', h1, h2⟩ := hq'
    cases h1
    cases h2
    have e1 : jlb (jyk X V (k + 1)) (k + jnl V) = jlb (jyk X V (k + 1) / jB ^ k) (p + 1) := by rw [hp, hsh]
    have e2 : jlb (jyk X V (k + 1)) (k + jnl V - 1) = jlb (jyk X V (k + 1) / jB ^ k) p := by rw [hp, show k + (p + 1) - 1 = k + p by omega, hsh]
    have e3 : (if 1 < jnl V then jlb (jyk X V (k + 1)) (k + jnl V - 2) else 0) = (if 1 < p + 1 then jlb (jyk X V (k + 1) / jB ^ k) (p + 1 - 2) else 0) := by
      rw [hp]
      by_cases h : 1 < p + 1
      · rw [if_pos h, if_pos h, show k + (p + 1) - 2 = k + (p + 1 - 2) by omega, hsh]
      · rw [if_neg h, if_neg h]
    have e4 : (if 1 < jnl V then jlb V (jnl V - 2) else 0) = (if 1 < p + 1 then jlb V (p + 1 - 2) else 0) := by rw [hp]
    have e5 : jlb V (jnl V - 1) = jlb V p := by rw [hp, Nat.add_sub_cancel]
    rw [e1, e2, e3, e4, e5]
    have hgood2 : _ ∧ _ := hgood
    generalize hG : (jgn (jlb V p) (if 1 < p + 1 then jlb V (p + 1 - 2) else 0) (if 1 < p + 1 then jlb (jyk X V (k + 1) / jB ^ k) (p + 1 - 2) else 0) 2 ((jlb (jyk X V (k + 1) / jB ^ k) (p + 1) * jB + jlb (jyk X V (k + 1) / jB ^ k) p) / jlb V p, (jlb (jyk X V (k + 1) / jB ^ k) (p + 1) * jB + jlb (jyk X V (k + 1) / jB ^ k) p) % jlb V p)).1 = G at hgood2
    refine mj_T.eq (st2 := [.long (jl G)]) (h2 := jH6 nd m nq (jnl V) sv fac S s2 (jup (X / V) (k + 1)) g0 gv gy gq) ?_ rfl rfl (by rw [← hG]; rfl) rfl
    clear hG e1 e2 e3 e4 e5 hgood
    generalize hU : jyk X V (k + 1) / jB ^ k = U at *
    have hUt : U / jB ^ jnl V = jlb U (jnl V) := jtop_eq (by rw [Nat.pow_succ]; exact Nat.lt_trans hUlt (Nat.mul_lt_mul_of_pos_right hVB (by decide)))
    have hh1 := jlb_lt U (jnl V)
    have hYS : jlb (jyk X V (k + 1)) S = 0 := jlb_high (by omega)
    -- the end of a round: the limb of the quotient is known
    have fin : ∀ (gi : Nat → Int32) (l5 : Option Value), (∀ j, j < S → gi j = jn (jlb (jyk X V k) j)) → mj_T (D + 1) mj_m31 83 [some (.ref 0), some (.ref 2), some (.ref 4), some (.int (jn sg)), some (.int (jn k)), some (.long (jl (jlb (X / V) k))), none] [] (jH6 nd m nq (jnl V) sv fac S s2 (jup (X / V) (k + 1)) g0 gv gi gq) Q := by
      intro gi l5 hgi
      iterate 3 refine mj_T.pl rfl rfl rfl rfl ?_
      refine mj_T.l2i rfl ?_
      have hul := jup_le (X / V) (k + 1)
      refine mj_T.call (ins := .invokevirtual 56) rfl rfl (Nat.le_of_ble_eq_true rfl) (Nat.le_of_ble_eq_true rfl) rfl rfl (jat_Q (jw_putLimb (D := D) (n := nq) (sz := jup (X / V) (k + 1)) (i := k) (x := jlb (X / V) k) hnq (by omega) (by omega) hq1) (fun r h => by obtain ⟨_, _, _, h⟩ := h; rw [h]; rfl)) (fun v' h' hq' => ?_) (fun i h' hq' => by obtain ⟨_, _, ⟨_, _, _, h1⟩, h2⟩ := hq'; cases h1; cases h2)
      obtain ⟨r0, K', ⟨gz, hz1, hz2, h1⟩, h2⟩ := hq'
      cases h1
      cases h2
      have esz : (if k < nq ∧ jlb (X / V) k ≠ 0 ∧ jup (X / V) (k + 1) ≤ k then k + 1 else jup (X / V) (k + 1)) = jup (X / V) k := by
        by_cases h0 : jlb (X / V) k = 0
        · rw [if_neg (fun h => h.2.1 h0), jup_same (Or.inr h0)]
        · have hkz : k < jnl (X / V) := Decidable.byContradiction fun q => h0 (jlb_high (by omega))
          by_cases h3 : jup (X / V) (k + 1) = 0
          · rw [if_pos ⟨by omega, h0, by omega⟩, jup_new h3 h0]
          · rw [jup_same (Or.inl h3), if_neg]
            intro h
            have : jup (X / V) (k + 1) = jnl (X / V) ∧ k + 1 < jnl (X / V) := by
              unfold jup at h3 ⊢
              by_cases h4 : k + 1 < jnl (X / V)
              · rw [if_pos h4]; exact ⟨rfl, h4⟩
              · rw [if_neg h4] at h3; exact absurd rfl h3
            omega
      refine mj_T.eq (h2 := jH6 nd m nq (jnl V) sv fac S s2 (jup (X / V) k) g0 gv gi gz) ?_ rfl rfl rfl (by rw [← esz]; rfl)
      refine mj_T.iinc (a := k) rfl rfl ?_
      refine mj_T.pl rfl rfl rfl rfl ?_
      refine ih ((k : Int) + -1) gi gz _ (by omega) (by omega) hgi (fun j hj1 hj2 => ?_)
      by_cases h : j = k
      · subst h
        exact hz1 (by omega)
      · rw [hz2 j h]
        exact hgq j (by omega) hj2
    -- the call of takeAway
    iterate 5 refine mj_T.pl rfl rfl rfl rfl ?_
    refine mj_T.call (ins := .invokevirtual 48) rfl rfl (Nat.le_of_ble_eq_true rfl) (Nat.le_of_ble_eq_true rfl) rfl rfl (jat_HD (jw_takeAway (D := D) (U := U) (V := V) (x := G) (place := k) (h := jlb U (jnl V)) (S := S) hnd hm hVn (by omega) hS (by omega) hh1 hgv (fun j hj => by rw [hgy (k + j) (by omega), hsh]) (fun hlt => by rw [hgy (k + jnl V) hlt, hsh]) (fun hlt => by rw [← hsh, show k + jnl V = S by omega]; exact hYS)) (fun r h => by obtain ⟨_, _, _, _, _, _, _, _, h⟩ := h; rw [h]; rfl)) (fun v' h' hq' => ?_) (fun i h' hq' => by obtain ⟨_, _, ⟨_, _, _, _, _, _, _, _, h1⟩, h2⟩ := hq'; cases h1; cases h2)
    obtain ⟨r0, K', ⟨c, R', gi, hta, t1, t2, t3, t4, h1⟩, h2⟩ := hq'
    cases h1
    cases h2
    have htq := jta_q hVB hV hUt hta
    refine mj_T.eq (st2 := [.int (jn (if c ≤ jlb U (jnl V) then 1 else 0))]) (h2 := jH6 nd m nq (jnl V) sv fac S s2 (jup (X / V) (k + 1)) g0 gv gi gq) ?_ rfl rfl rfl rfl
    -- what the limbs are, once the window's are those of U % V
    have lim : ∀ gz : Nat → Int32, (∀ j, j < k → gz j = gy j) → (∀ j, j < jnl V → gz (k + j) = jn (jlb (U % V) j)) → (k + jnl V < S → gz (k + jnl V) = jn 0) → (∀ j, k + jnl V < j → gz j = gy j) → ∀ j, j < S → gz j = jn (jlb (jyk X V k) j) := by
      intro gz z1 z2 z3 z4 j hj
      have hUV : U % V < jB ^ jnl V := Nat.lt_trans (Nat.mod_lt _ hV) hVB
      rcases Nat.lt_or_ge j k with h | h
      · rw [z1 j h, hgy j hj, jyk_low (by omega), jyk_low h]
      · obtain ⟨i, rfl⟩ : ∃ i, j = k + i := ⟨j - k, by omega⟩
        rw [jyk_high, hrl]
        rcases Nat.lt_trichotomy i (jnl V) with h3 | h3 | h3
        · exact z2 i h3
        · subst h3
          rw [z3 hj, jlb_high (jnl_of hUV)]
          rfl
        · rw [z4 (k + i) (by omega), hgy (k + i) hj, jlb_high (show jnl (U % V) ≤ i by have := jnl_of hUV; omega)]
          rw [show k + i = k + 1 + (i - 1) by omega, jyk_high]
          rw [jlb_high (show jnl (X / jB ^ (k + 1) % V) ≤ i - 1 by have := jnl_of (Nat.lt_trans hR hVB); omega)]
    refine mj_T.if0 rfl ⟨by split <;> omega, by split <;> omega⟩ (fun hc67 => ?_) (fun hc67 => ?_)
    · simp only [jc, Bool.not_eq_true', decide_eq_false_iff_not] at hc67
      have hch : c ≤ jlb U (jnl V) := Decidable.byContradiction fun h => hc67 (by rw [if_neg h])
      have hGq : G = U / V := by
        rcases (show G = U / V ∨ G = U / V + 1 by omega) with h | h
        · exact h
        · have := (htq.2 h).1; omega
      have hRq := (htq.1 hGq).2
      rw [hGq, ← hql]
      exact fin gi none (lim gi t1 (fun j hj => by rw [← hRq]; exact t2 j hj) t3 t4)
    · simp only [jc, Bool.not_eq_false', decide_eq_true_eq] at hc67
      have hch : ¬ c ≤ jlb U (jnl V) := fun h => by rw [if_pos h] at hc67; omega
      have hGq : G = U / V + 1 := by
        rcases (show G = U / V ∨ G = U / V + 1 by omega) with h | h
        · have := (htq.1 h).1; omega
        · exact h
      have hRq := (htq.2 hGq).2
      iterate 3 refine mj_T.pl rfl rfl rfl rfl ?_
      refine mj_T.call (ins := .invokevirtual 52) rfl rfl (Nat.le_of_ble_eq_true rfl) (Nat.le_of_ble_eq_true rfl) rfl rfl (jat_HD (jw_putBack (D := D) (R := R') (V := V) (place := k) (S := S) hnd hm hVn (by omega) hgv t2) (fun r h => by obtain ⟨_, _, _, _, h⟩ := h; rw [h]; rfl)) (fun v' h' hq' => ?_) (fun i h' hq' => by obtain ⟨_, _, ⟨_, _, _, _, h1⟩, h2⟩ := hq'; cases h1; cases h2)
      obtain ⟨r0, K', ⟨gz, b1, b2, b3, h1⟩, h2⟩ := hq'
      cases h1
      cases h2
      refine mj_T.eq (st2 := []) (h2 := jH6 nd m nq (jnl V) sv fac S s2 (jup (X / V) (k + 1)) g0 gv gz gq) ?_ rfl rfl rfl rfl
      iterate 2 refine mj_T.pl rfl rfl rfl rfl ?_
      refine mj_T.lsub (b := 1) rfl ?_
      refine mj_T.pl rfl rfl rfl rfl ?_
      rw [show (G : Int) - 1 = ((jlb (X / V) k : Nat) : Int) by rw [hql, hGq]; omega]
      refine fin gz none (lim gz (fun j hj => (b1 j hj).trans (t1 j hj)) (fun j hj => ?_) (fun hlt => (b3 _ (Nat.le_refl _)).trans (t3 hlt)) (fun j hj => (b3 j (by omega)).trans (t4 j hj)))
      rw [b2 j hj, hRq, jlb_low hj]
/-! cut, where limbs that are 0 may lie on top. -/
theorem jw_cutS_loop {D n x f z : Nat} {g0 : Int32} {g : Nat → Int32} (hn : n < 2147483648) (hxz : jnl x ≤ z) (hf : 0 < f) (hf2 : f ≤ 1000000000) (hcap : z ≤ n) (hg : ∀ j, j < z → g j = jn (jlb x j)) {Q : mj_R → Prop}
    (hend : ∀ (gi : Nat → Int32) (l7 l8 : Option Value) (l6 : Int), (∀ j, j < z → gi j = jn (jlb (x / f) j)) → mj_T D mj_m97 97 [some (.ref 0), some (.long (jl f)), none, some (.long (jl (x % f : Nat))), none, some (.int (jn (jnl (x / f)))), some (.int (jn l6)), l7, l8] [] (jH1 n (z) g0 gi) Q) :
    ∀ (k : Nat) (v : Int) (gi : Nat → Int32) (l7 l8 : Option Value), v = (k : Int) - 1 → k ≤ z → (∀ j, k ≤ j → j < z → gi j = jn (jlb (x / f) j)) → (∀ j, j < k → gi j = g j) →
      mj_T D mj_m97 21 [some (.ref 0), some (.long (jl f)), none, some (.long (jl (x / jB ^ k % f : Nat))), none, some (.int (jn (jup (x / f) k))), some (.int (jn v)), l7, l8] [] (jH1 n (z) g0 gi) Q := by
  intro k
  have hzx : jnl (x / f) ≤ z := Nat.le_trans (jnl_mono (Nat.div_le_self _ _)) hxz
  induction k with
  | zero =>
    intro v gi l7 l8 hv hk hg1 hg2
    refine mj_T.pl rfl rfl rfl rfl ?_
    refine mj_T.if0 rfl ⟨by omega, by omega⟩ (fun hc23 => ?_) (fun hc23 => ?_)
    · rw [jup_zero, Nat.pow_zero, Nat.div_one]
      exact hend gi l7 l8 v (fun j hj => hg1 j (Nat.zero_le _) hj)
    · simp only [jc, decide_eq_false_iff_not] at hc23; omega
  | succ k ih =>
    intro v gi l7 l8 hv hk hg1 hg2
    have ev : v = k := by omega
    subst ev
    have hx1 := jlb_lt x k
    have hz1 := jlb_lt (x / f) k
    have hr := Nat.mod_lt (x / jB ^ (k + 1)) hf
    have hlim := jcut_limb (x := x) (f := f) (i := k) hf
    have hrest := jcut_rest (x := x) (f := f) (i := k) hf
    have hul := jup_le (x / f) (k + 1)
    refine mj_T.pl rfl rfl rfl rfl ?_
    refine mj_T.if0 rfl ⟨by omega, by omega⟩ (fun hc23 => ?_) (fun hc23 => ?_)
    · simp only [jc, decide_eq_true_eq] at hc23; omega
    · iterate 2 refine mj_T.pl rfl rfl rfl rfl ?_
      refine mj_T.lif (b := 0) rfl rfl ⟨by omega, by omega⟩ ⟨by omega, by omega⟩ (fun hc28 => ?_) (fun hc28 => ?_)
      · simp only [jc, decide_eq_true_eq] at hc28; omega
      · have t3 : ∀ (gi' : Nat → Int32) (l7 l8 : Option Value), gi' = upd gi k (jn (jlb (x / f) k)) → mj_T D mj_m97 89 [some (.ref 0), some (.long (jl f)), none, some (.long (jl (x / jB ^ k % f : Nat))), none, some (.int (jn (jup (x / f) (k + 1)))), some (.int (jn k)), l7, l8] [.int (jn (jup (x / f) k))] (jH1 n (z) g0 gi') Q := by
          intro gi' l7 l8 hgi
          subst hgi
          refine mj_T.pl rfl rfl rfl rfl ?_
          refine mj_T.iinc (a := k) rfl rfl ?_
          refine mj_T.pl rfl rfl rfl rfl ?_
          refine ih ((k : Int) + -1) (upd gi k (jn (jlb (x / f) k))) l7 l8 (by omega) (by omega) (fun j hj1 hj2 => ?_) (fun j hj => ?_)
          · unfold upd
            split
            · rename_i h; rw [h]
            · exact hg1 j (by omega) hj2
          · unfold upd
            rw [if_neg (by omega)]
            exact hg2 j (by omega)
        generalize hR : x / jB ^ (k + 1) % f = R at *
        have hlim : jlb (x / f) k = (R * 1000000000 + jlb x k) / f := hlim
        have hrest : x / jB ^ k % f = (R * 1000000000 + jlb x k) % f := hrest
        iterate 2 refine mj_T.pl rfl rfl rfl rfl ?_
        refine mj_T.lmul (b := 1000000000) rfl ?_
        iterate 3 refine mj_T.pl rfl rfl rfl rfl ?_
        refine mj_T.ialv rfl rfl ⟨by omega, by omega⟩ ⟨by omega, by omega⟩ ((hg2 k (by omega)).trans (hg k (by omega))) ?_
        refine mj_T.i2l rfl ⟨by omega, by omega⟩ ?_
        refine mj_T.ladd rfl ?_
        rw [show (R : Int) * 1000000000 + ((jlb x k : Nat) : Int) = ((R * 1000000000 + jlb x k : Nat) : Int) by rw [Int.natCast_add, Int.natCast_mul]; rfl]
        have hb2 : R * 1000000000 + jlb x k ≤ 1000000000000000000 := by omega
        iterate 6 refine mj_T.pl rfl rfl rfl rfl ?_
        refine mj_T.ldiv rfl ⟨by omega, by omega⟩ ⟨by omega, by omega⟩ (by omega) ?_
        rw [show ((R * 1000000000 + jlb x k : Nat) : Int).tdiv (f : Int) = ((jlb (x / f) k : Nat) : Int) by rw [hlim]; rfl]
        refine mj_T.l2i rfl ?_
        refine mj_T.iast rfl rfl ⟨by omega, by omega⟩ ⟨by omega, by omega⟩ ?_
        iterate 2 refine mj_T.pl rfl rfl rfl rfl ?_
        refine mj_T.lrem rfl ⟨by omega, by omega⟩ ⟨by omega, by omega⟩ (by omega) ?_
        rw [show ((R * 1000000000 + jlb x k : Nat) : Int).tmod (f : Int) = ((x / jB ^ k % f : Nat) : Int) by rw [hrest]; rfl]
        iterate 2 refine mj_T.pl rfl rfl rfl rfl ?_
        refine mj_T.if0 rfl ⟨by omega, by omega⟩ (fun hc67 => ?_) (fun hc67 => ?_)
        · simp only [jc, Bool.not_eq_true', decide_eq_false_iff_not] at hc67
          iterate 1 refine mj_T.pl rfl rfl rfl rfl ?_
          have e := jup_same (z := x / f) (k := k) (Or.inl (by omega))
          have t := t3 _ (some (.long (jl (R * 1000000000 + jlb x k : Nat)))) none rfl
          rw [e] at t
          exact t
        · simp only [jc, Bool.not_eq_false', decide_eq_true_eq] at hc67
          iterate 3 refine mj_T.pl rfl rfl rfl rfl ?_
          refine mj_T.ialv (z := (jlb (x / f) k : Nat)) rfl rfl ⟨by omega, by omega⟩ ⟨by omega, by omega⟩ (if_pos rfl) ?_
          refine mj_T.if0 rfl ⟨by omega, by omega⟩ (fun hc77 => ?_) (fun hc77 => ?_)
          · simp only [jc, decide_eq_true_eq] at hc77
            iterate 1 refine mj_T.pl rfl rfl rfl rfl ?_
            have e := jup_same (z := x / f) (k := k) (Or.inr (by omega))
            have t := t3 _ (some (.long (jl (R * 1000000000 + jlb x k : Nat)))) none rfl
            rw [e] at t
            exact t
          · simp only [jc, decide_eq_false_iff_not] at hc77
            iterate 2 refine mj_T.pl rfl rfl rfl rfl ?_
            refine mj_T.iadd (b := 1) rfl ?_
            refine mj_T.pl rfl rfl rfl rfl ?_
            have e := jup_new (z := x / f) (k := k) (by omega) (by omega)
            have t := t3 _ (some (.long (jl (R * 1000000000 + jlb x k : Nat)))) none rfl
            rw [e] at t
            exact t
theorem jw_cutS {D n x f z : Nat} {s : Int} {g : Nat → Int32} (hn : n < 2147483648) (hxz : jnl x ≤ z) (hf : 0 < f) (hf2 : f ≤ 1000000000) (hcap : z ≤ n) (hg : ∀ j, j < z → g j = jn (jlb x j)) :
    mj_Ok (D + 1) 97 [.ref 0, .long (jl f)] (jH1 n (z) (jn s) g) (fun r => ∃ g' : Nat → Int32, (∀ j, j < z → g' j = jn (jlb (x / f) j)) ∧ r = (.inl none, jH1 n (jnl (x / f)) (jn (if x / f = 0 then 0 else s)) g')) := by
  have hzx : jnl (x / f) ≤ z := Nat.le_trans (jnl_mono (Nat.div_le_self _ _)) hxz
  refine mj_Ok.of (M := mj_m97) rfl rfl rfl ?_
  iterate 8 refine mj_T.pl rfl rfl rfl rfl ?_
  refine mj_T.alen rfl rfl ?_
  refine mj_T.imin rfl rfl (Nat.le_of_ble_eq_true rfl) ⟨by omega, by omega⟩ ⟨by omega, by omega⟩ ?_
  rw [show min (z : Int) (n : Int) = (z : Nat) by omega]
  iterate 1 refine mj_T.pl rfl rfl rfl rfl ?_
  refine mj_T.isub (b := 1) rfl ?_
  iterate 1 refine mj_T.pl rfl rfl rfl rfl ?_
  refine mj_T.eq (jw_cutS_loop (x := x) (f := f) (g := g) hn hxz hf hf2 hcap hg (fun gi l7 l8 l6 hgi => ?_) (z) _ g none none rfl (Nat.le_refl _) (fun j hj1 hj2 => by omega) (fun j _ => rfl)) rfl ?_ rfl rfl
  · iterate 6 refine mj_T.pl rfl rfl rfl rfl ?_
    refine mj_T.if0 rfl ⟨by omega, by omega⟩ (fun hc108 => ?_) (fun hc108 => ?_)
    · simp only [jc, Bool.not_eq_true', decide_eq_false_iff_not] at hc108
      iterate 3 refine mj_T.pl rfl rfl rfl rfl ?_
      refine mj_T.ret rfl rfl rfl ⟨gi, hgi, ?_⟩
      rw [if_neg (fun h => hc108 (by rw [h]; exact congrArg Int.ofNat jnl_zero))]
      rfl
    · simp only [jc, Bool.not_eq_false', decide_eq_true_eq] at hc108
      have h0 : x / f = 0 := jnl_eq0.mp (by omega)
      iterate 3 refine mj_T.pl rfl rfl rfl rfl ?_
      refine mj_T.ret rfl rfl rfl ⟨gi, hgi, ?_⟩
      rw [if_pos h0]
      rfl
  · rw [jnl_le.mp hxz, Nat.zero_mod]
    rw [show jup (x / f) (z) = 0 by unfold jup; rw [if_neg (by omega)]]
    rfl
/-! Divisor: split, the whole of it. -/
theorem jsg_tdiv (u v : Int) : jsg (u.tdiv v) = if u.natAbs / v.natAbs = 0 then 0 else jsg u * jsg v := by
  have ha : (u.tdiv v).natAbs = u.natAbs / v.natAbs := Int.natAbs_tdiv u v
  by_cases h : u.natAbs / v.natAbs = 0
  · rw [if_pos h, show u.tdiv v = 0 by rw [← Int.natAbs_eq_zero, ha]; exact h]
    rfl
  · rw [if_neg h]
    have hv : v ≠ 0 := fun q => h (by rw [q]; simp)
    have hu : u ≠ 0 := fun q => h (by rw [q]; simp)
    have hz : u.tdiv v ≠ 0 := fun q => h (by rw [← ha, q]; rfl)
    rcases Int.lt_or_gt_of_ne hu with hu1 | hu1 <;> rcases Int.lt_or_gt_of_ne hv with hv1 | hv1
    · have := Int.tdiv_nonneg (a := -u) (b := -v) (by omega) (by omega)
      rw [Int.neg_tdiv, Int.tdiv_neg, Int.neg_neg] at this
      rw [jsg_pos (by omega), jsg_neg hu1, jsg_neg hv1]
      rfl
    · have := Int.tdiv_nonneg (a := -u) (b := v) (by omega) (by omega)
      rw [Int.neg_tdiv] at this
      rw [jsg_neg (by omega), jsg_neg hu1, jsg_pos hv1]
      rfl
    · have := Int.tdiv_nonneg (a := u) (b := -v) (by omega) (by omega)
      rw [Int.tdiv_neg] at this
      rw [jsg_neg (by omega), jsg_pos hu1, jsg_neg hv1]
      rfl
    · have := Int.tdiv_nonneg (a := u) (b := v) (by omega) (by omega)
      rw [jsg_pos (by omega), jsg_pos hu1, jsg_pos hv1]
      rfl
theorem jsg_tmod (u v : Int) : jsg (u.tmod v) = if u.natAbs % v.natAbs = 0 then 0 else jsg u := by
  have ha : (u.tmod v).natAbs = u.natAbs % v.natAbs := Int.natAbs_tmod u v
  by_cases h : u.natAbs % v.natAbs = 0
  · rw [if_pos h, show u.tmod v = 0 by rw [← Int.natAbs_eq_zero, ha]; exact h]
    rfl
  · rw [if_neg h]
    have hz : u.tmod v ≠ 0 := fun q => h (by rw [← ha, q]; rfl)
    have hu : u ≠ 0 := fun q => h (by rw [q]; simp)
    rcases Int.lt_or_gt_of_ne hu with hu1 | hu1
    · have := Int.tmod_nonneg (a := -u) v (by omega)
      rw [Int.neg_tmod] at this
      rw [jsg_neg (by omega), jsg_neg hu1]
    · have := Int.tmod_nonneg (a := u) v (by omega)
      rw [jsg_pos (by omega), jsg_pos hu1]
theorem jw_split {D nd m nq : Nat} {u v sz0 : Int} {g0 : Int32} {gv gy gq : Nat → Int32} (hnd : nd ≤ 1000) (hm : m ≤ 1000) (hnq : nq ≤ 1000) (hVn : jnl v.natAbs ≤ nd) (hX : jnl (u.natAbs * jfa v.natAbs) ≤ m) (hcap : jnl (u.tdiv v).natAbs ≤ nq) (hgv : ∀ j, j < jnl v.natAbs → gv j = jn (jlb (v.natAbs * jfa v.natAbs) j)) (hgy : ∀ j, j < jnl u.natAbs → gy j = jn (jlb u.natAbs j)) :
    mj_Ok (D + 2) 31 [.ref 0, .ref 2, .ref 4] (jH6 nd m nq (jnl v.natAbs) (jsg v) (jfa v.natAbs) (jnl u.natAbs) (jsg u) sz0 g0 gv gy gq)
      (fun r => ∃ gy' gq' : Nat → Int32, (∀ j, j < jnl (u.tmod v).natAbs → gy' j = jn (jlb (u.tmod v).natAbs j)) ∧ (∀ j, j < jnl (u.tdiv v).natAbs → gq' j = jn (jlb (u.tdiv v).natAbs j)) ∧ r = (.inl none, jH6 nd m nq (jnl v.natAbs) (jsg v) (jfa v.natAbs) (jnl (u.tmod v).natAbs) (jsg (u.tmod v)) (jnl (u.tdiv v).natAbs) (jn (jsg (u.tdiv v))) gv gy' gq')) := by
  have hsu := jsg_range u
  have hsv := jsg_range v
  have hsp : -1 ≤ jsg u * jsg v ∧ jsg u * jsg v ≤ 1 := by
    rcases (show jsg u = -1 ∨ jsg u = 0 ∨ jsg u = 1 by omega) with h | h | h <;> rw [h] <;> omega
  have hfa := jfa_pos v.natAbs
  refine mj_Ok.of (M := mj_m31) rfl rfl rfl ?_
  iterate 4 refine mj_T.pl rfl rfl rfl rfl ?_
  refine mj_T.imul rfl ?_
  iterate 3 refine mj_T.pl rfl rfl rfl rfl ?_
  refine mj_T.call (ins := .invokevirtual 37) rfl rfl (Nat.le_of_ble_eq_true rfl) (Nat.le_of_ble_eq_true rfl) rfl rfl (jat_Q (jw_setLong (D := D) (v := 0) (n := nq) (s0 := jn sz0) (g0 := g0) (g := gq) ⟨by decide, by decide⟩ (by omega)) (fun r h => by obtain ⟨_, _, _, h⟩ := h; rw [h]; rfl)) (fun v' h' hq' => ?_) (fun i h' hq' => by obtain ⟨_, _, ⟨_, _, _, h1⟩, h2⟩ := hq'; cases h1; cases h2)
  obtain ⟨r0, K', ⟨g1, z1, z2, h1⟩, h2⟩ := hq'
  cases h1
  cases h2
  have emin : min nq (jnl (0 : Int).natAbs) = 0 := by rw [show (0 : Int).natAbs = 0 from rfl, jnl_zero]; omega
  refine mj_T.eq (st2 := []) (h2 := jH6 nd m nq (jnl v.natAbs) (jsg v) (jfa v.natAbs) (jnl u.natAbs) (jsg u) 0 (jn 0) gv gy g1) ?_ rfl rfl rfl (by rw [emin]; rfl)
  iterate 1 refine mj_T.pl rfl rfl rfl rfl ?_
  refine mj_T.if0 rfl ⟨by omega, by omega⟩ (fun hc16 => ?_) (fun hc16 => ?_)
  rotate_left
  · simp only [jc, Bool.not_eq_false', decide_eq_true_eq] at hc16
    have h0 : u = 0 ∨ v = 0 := by
      rcases Int.lt_trichotomy u 0 with h1 | h1 | h1
      · rcases Int.lt_trichotomy v 0 with h2 | h2 | h2
        · rw [jsg_neg h1, jsg_neg h2] at hc16; omega
        · exact Or.inr h2
        · rw [jsg_neg h1, jsg_pos h2] at hc16; omega
      · exact Or.inl h1
      · rcases Int.lt_trichotomy v 0 with h2 | h2 | h2
        · rw [jsg_pos h1, jsg_neg h2] at hc16; omega
        · exact Or.inr h2
        · rw [jsg_pos h1, jsg_pos h2] at hc16; omega
    have e1 : u.tdiv v = 0 := by rcases h0 with h | h <;> rw [h] <;> simp
    have e2 : u.tmod v = u := by rcases h0 with h | h <;> rw [h] <;> simp
    rw [e1, e2]
    refine mj_T.ret rfl rfl rfl ⟨gy, g1, hgy, fun j hj => ?_, ?_⟩
    · rw [show (0 : Int).natAbs = 0 from rfl, jnl_zero] at hj; omega
    · rw [show (0 : Int).natAbs = 0 from rfl, jnl_zero]
      rfl
  · simp only [jc, Bool.not_eq_true', decide_eq_false_iff_not] at hc16
    have hu : u ≠ 0 := fun h => hc16 (by rw [h]; simp [jsg])
    have hv : v ≠ 0 := fun h => hc16 (by rw [h]; simp [jsg])
    have hv0 : 0 < v.natAbs := by omega
    have hVnl := jfa_nl (x := v.natAbs)
    have hnorm := jfa_norm hv0
    have eq1 : u.natAbs * jfa v.natAbs / (v.natAbs * jfa v.natAbs) = (u.tdiv v).natAbs := by rw [Nat.mul_div_mul_right _ _ hfa.1]; exact (Int.natAbs_tdiv u v).symm
    have eq2 : u.natAbs * jfa v.natAbs % (v.natAbs * jfa v.natAbs) = (u.tmod v).natAbs * jfa v.natAbs := by rw [Nat.mul_mod_mul_right, Int.natAbs_tmod]
    iterate 3 refine mj_T.pl rfl rfl rfl rfl ?_
    refine mj_T.call (ins := .invokevirtual 41) rfl rfl (Nat.le_of_ble_eq_true rfl) (Nat.le_of_ble_eq_true rfl) rfl rfl (jat_W (jw_scale (D := D) (x := u.natAbs) (f := jfa v.natAbs) (g0 := jn (jsg u)) (g := gy) (by omega) hfa.1 hfa.2 hX hgy) (fun r h => by obtain ⟨_, _, h⟩ := h; rw [h]; rfl)) (fun v' h' hq' => ?_) (fun i h' hq' => by obtain ⟨_, _, ⟨_, _, h1⟩, h2⟩ := hq'; cases h1; cases h2)
    obtain ⟨r0, K', ⟨g2, hg2, h1⟩, h2⟩ := hq'
    cases h1
    cases h2
    refine mj_T.eq (st2 := []) (h2 := jH6 nd m nq (jnl v.natAbs) (jsg v) (jfa v.natAbs) (jnl (u.natAbs * jfa v.natAbs)) (jsg u) 0 (jn 0) gv g2 g1) ?_ rfl rfl rfl rfl
    have fin : ∀ (gy' gq' : Nat → Int32) (w : Int) (l5 : Option Value), (∀ j, j < jnl (u.natAbs * jfa v.natAbs) → gy' j = jn (jlb (u.natAbs * jfa v.natAbs % (v.natAbs * jfa v.natAbs)) j)) → (∀ j, j < jnl (u.natAbs * jfa v.natAbs / (v.natAbs * jfa v.natAbs)) → gq' j = jn (jlb (u.natAbs * jfa v.natAbs / (v.natAbs * jfa v.natAbs)) j)) →
        mj_T (D + 1) mj_m31 98 [some (.ref 0), some (.ref 2), some (.ref 4), some (.int (jn (jsg u * jsg v))), some (.int (jn w)), l5, none] [] (jH6 nd m nq (jnl v.natAbs) (jsg v) (jfa v.natAbs) (jnl (u.natAbs * jfa v.natAbs)) (jsg u) (jnl (u.natAbs * jfa v.natAbs / (v.natAbs * jfa v.natAbs))) (jn 0) gv gy' gq')
          (fun r => ∃ gy' gq' : Nat → Int32, (∀ j, j < jnl (u.tmod v).natAbs → gy' j = jn (jlb (u.tmod v).natAbs j)) ∧ (∀ j, j < jnl (u.tdiv v).natAbs → gq' j = jn (jlb (u.tdiv v).natAbs j)) ∧ r = (.inl none, jH6 nd m nq (jnl v.natAbs) (jsg v) (jfa v.natAbs) (jnl (u.tmod v).natAbs) (jsg (u.tmod v)) (jnl (u.tdiv v).natAbs) (jn (jsg (u.tdiv v))) gv gy' gq')) := by
      intro gy' gq' w l5 hy hq
      rw [eq1] at hq ⊢
      have k : ∀ z : Int, z = jsg (u.tdiv v) → mj_T (D + 1) mj_m31 111 [some (.ref 0), some (.ref 2), some (.ref 4), some (.int (jn (jsg u * jsg v))), some (.int (jn w)), l5, none] [.int (jn z), .ref 4] (jH6 nd m nq (jnl v.natAbs) (jsg v) (jfa v.natAbs) (jnl (u.natAbs * jfa v.natAbs)) (jsg u) (jnl (u.tdiv v).natAbs) (jn 0) gv gy' gq')
          (fun r => ∃ gy' gq' : Nat → Int32, (∀ j, j < jnl (u.tmod v).natAbs → gy' j = jn (jlb (u.tmod v).natAbs j)) ∧ (∀ j, j < jnl (u.tdiv v).natAbs → gq' j = jn (jlb (u.tdiv v).natAbs j)) ∧ r = (.inl none, jH6 nd m nq (jnl v.natAbs) (jsg v) (jfa v.natAbs) (jnl (u.tmod v).natAbs) (jsg (u.tmod v)) (jnl (u.tdiv v).natAbs) (jn (jsg (u.tdiv v))) gv gy' gq')) := by
        intro z hz
        subst hz
        iterate 4 refine mj_T.pl rfl rfl rfl rfl ?_
        have hXm : jnl (u.natAbs * jfa v.natAbs % (v.natAbs * jfa v.natAbs)) ≤ jnl (u.natAbs * jfa v.natAbs) := jnl_mono (Nat.mod_le _ _)
        refine mj_T.call (ins := .invokevirtual 60) rfl rfl (Nat.le_of_ble_eq_true rfl) (Nat.le_of_ble_eq_true rfl) rfl rfl (jat_W (sz := (jnl (u.tdiv v).natAbs : Nat)) (g0 := jn (jsg (u.tdiv v))) (jw_cutS (D := D) (z := jnl (u.natAbs * jfa v.natAbs)) (x := u.natAbs * jfa v.natAbs % (v.natAbs * jfa v.natAbs)) (f := jfa v.natAbs) (s := jsg u) (g := gy') (by omega) hXm hfa.1 hfa.2 hX hy) (fun r h => by obtain ⟨_, _, h⟩ := h; rw [h]; rfl)) (fun v' h' hq' => ?_) (fun i h' hq' => by obtain ⟨_, _, ⟨_, _, h1⟩, h2⟩ := hq'; cases h1; cases h2)
        obtain ⟨r0, K', ⟨g3, hg3, h1⟩, h2⟩ := hq'
        cases h1
        cases h2
        have ex : u.natAbs * jfa v.natAbs % (v.natAbs * jfa v.natAbs) / jfa v.natAbs = (u.tmod v).natAbs := by rw [eq2, Nat.mul_div_cancel _ hfa.1]
        have es : (if u.natAbs * jfa v.natAbs % (v.natAbs * jfa v.natAbs) / jfa v.natAbs = 0 then 0 else jsg u) = jsg (u.tmod v) := by rw [ex, jsg_tmod, Int.natAbs_tmod]
        refine mj_T.ret rfl rfl rfl ⟨g3, gq', fun j hj => ?_, hq, ?_⟩
        · rw [← ex]
          refine hg3 j ?_
          rw [← ex] at hj
          exact Nat.lt_of_lt_of_le hj (Nat.le_trans (jnl_mono (Nat.div_le_self _ _)) hXm)
        · rw [← es, ← ex]
          rfl
      iterate 3 refine mj_T.pl rfl rfl rfl rfl ?_
      have hq0 : (u.tdiv v).natAbs = u.natAbs / v.natAbs := Int.natAbs_tdiv u v
      refine mj_T.if0 rfl ⟨by omega, by omega⟩ (fun hc103 => ?_) (fun hc103 => ?_)
      · simp only [jc, Bool.not_eq_true', decide_eq_false_iff_not] at hc103
        iterate 1 refine mj_T.pl rfl rfl rfl rfl ?_
        exact k _ (by rw [jsg_tdiv, if_neg (fun h => hc103 (by rw [hq0, h]; exact congrArg Int.ofNat jnl_zero))])
      · simp only [jc, Bool.not_eq_false', decide_eq_true_eq] at hc103
        iterate 2 refine mj_T.pl rfl rfl rfl rfl ?_
        exact k 0 (by rw [jsg_tdiv, if_pos (by rw [← hq0]; exact jnl_eq0.mp (by omega))])
    iterate 4 refine mj_T.pl rfl rfl rfl rfl ?_
    refine mj_T.isub rfl ?_
    refine mj_T.pl rfl rfl rfl rfl ?_
    generalize hXX : u.natAbs * jfa v.natAbs = X at *
    generalize hVV : v.natAbs * jfa v.natAbs = V at *
    rcases Nat.lt_or_ge (jnl X) (jnl v.natAbs) with hs | hs
    · have hlt : X < V := jlt_nl (by omega)
      refine mj_T.pl rfl rfl rfl rfl ?_
      refine mj_T.if0 rfl ⟨by omega, by omega⟩ (fun hc41 => ?_) (fun hc41 => ?_)
      · have t := fin g2 g1 ((jnl X : Int) - (jnl v.natAbs : Nat)) none (fun j hj => by rw [Nat.mod_eq_of_lt hlt]; exact hg2 j hj) (fun j hj => by rw [Nat.div_eq_of_lt hlt, jnl_zero] at hj; omega)
        refine mj_T.eq t rfl rfl rfl ?_
        rw [Nat.div_eq_of_lt hlt, jnl_zero]
        rfl
      · simp only [jc, decide_eq_false_iff_not] at hc41; omega
    · have hVlow : jB ^ (jnl v.natAbs - 1) ≤ V := by
        apply Decidable.byContradiction
        intro h
        have := jnl_of (Nat.not_le.mp h)
        have hn0 : jnl v.natAbs ≠ 0 := fun q => by have := jnl_eq0.mp q; omega
        omega
      have hV0 : 0 < V := Nat.lt_of_lt_of_le (jB_pow _) hVlow
      have hXk : X / jB ^ (jnl X - jnl v.natAbs + 1) < V := by
        refine Nat.lt_of_lt_of_le ?_ hVlow
        rw [Nat.div_lt_iff_lt_mul (jB_pow _), ← Nat.pow_add]
        have hn0 : jnl v.natAbs ≠ 0 := fun q => by have := jnl_eq0.mp q; omega
        rw [show jnl v.natAbs - 1 + (jnl X - jnl v.natAbs + 1) = jnl X by omega]
        exact jnl_le_lt.mp (Nat.le_refl _)
      have hyk : jyk X V (jnl X - jnl v.natAbs + 1) = X := by
        unfold jyk
        rw [Nat.mod_eq_of_lt hXk, Nat.mul_comm]
        exact Nat.div_add_mod _ _
      have hzk : jnl (X / V) ≤ jnl X - jnl v.natAbs + 1 := by
        refine jnl_of ?_
        rw [Nat.div_lt_iff_lt_mul hV0, Nat.mul_comm]
        exact (Nat.div_lt_iff_lt_mul (jB_pow _)).mp hXk
      rw [← hVnl] at hgv hVn fin hnorm hs ⊢
      refine mj_T.eq (jw_split_loop (X := X) (V := V) (S := jnl X) (sv := jsg v) (fac := jfa v.natAbs) (s2 := jsg u) (g0 := jn 0) (sg := jsg u * jsg v) hnd hm hnq hV0 hnorm hVn hX (Nat.le_refl _) (by rw [eq1]; exact hcap) hgv (fun gy' gq' w l5 h1 h2 => fin gy' gq' w l5 h1 h2) (jnl X - jnl V + 1) ((jnl X : Int) - (jnl V : Nat)) g2 g1 none (by omega) (by omega) (fun j hj => by rw [hVnl, hyk]; exact hg2 j hj) (fun j hj1 hj2 => by rw [hVnl] at hj1; omega)) rfl rfl rfl ?_
      rw [show jup (X / V) (jnl X - jnl V + 1) = 0 by unfold jup; rw [hVnl, if_neg (by omega)]]
      rfl
/-! The reference: one object, seven arrays; its numbers lie in slots of 702 places of the array 'big'. -/
abbrev jMo (t : Nat → Value) : List Value := [.ref 1, .ref 2, t 2, t 3, .ref 3, .ref 4, .ref 5, t 7, .ref 6, t 9, t 10, t 11, t 12, t 13, .ref 7, t 15]
abbrev jHM (t : Nat → Value) (nw bf : Nat → Int64) (bg ov db tx wr : Nat → Int32) : mj_H := [.inr (10, jMo t), .inl (1, 91, fun j => .long (nw j)), .inl (1, 728, fun j => .long (bf j)), .inl (0, 466830, fun j => .int (bg j)), .inl (0, 1404, fun j => .int (ov j)), .inl (0, 702, fun j => .int (db j)), .inl (0, 200, fun j => .int (tx j)), .inl (0, 600, fun j => .int (wr j))]
/-- slot s holds v -/
def jrs (bg : Nat → Int32) (s : Nat) (v : Int) : Prop := bg (s * 702) = jn (jsg v) ∧ bg (s * 702 + 1) = jn (jnl v.natAbs) ∧ (∀ j, j < jnl v.natAbs → bg (s * 702 + 2 + j) = jn (jlb v.natAbs j)) ∧ jnl v.natAbs ≤ 700
/-- but for slot s all is as it was -/
def jrf (bg bg' : Nat → Int32) (s : Nat) : Prop := ∀ j, (j < s * 702 ∨ s * 702 + 702 ≤ j) → bg' j = bg j
theorem jrs_keep {bg bg' : Nat → Int32} {s s' : Nat} {v : Int} (h : jrs bg s' v) (hf : jrf bg bg' s) (hs : s' ≠ s) : jrs bg' s' v := by
  obtain ⟨h1, h2, h3, h4⟩ := h
  have hlt : s' < s ∨ s < s' := by omega
  refine ⟨(hf _ (by omega)).trans h1, (hf _ (by omega)).trans h2, fun j hj => (hf _ (by omega)).trans (h3 j hj), h4⟩
section MJR
variable {D : Nat} {t : Nat → Value} {nw bf : Nat → Int64} {bg ov db tx wr : Nat → Int32}
theorem jr_sign {s : Nat} {v : Int} (hs : s < 665) (h : jrs bg s v) : mj_Ok (D + 1) 178 [.ref 0, .int (jn s)] (jHM t nw bf bg ov db tx wr) (fun r => r = (.inl (some (.int (jn (jsg v)))), jHM t nw bf bg ov db tx wr)) := by
  refine mj_Ok.of (M := mj_m178) rfl rfl rfl ?_
  iterate 4 refine mj_T.pl rfl rfl rfl rfl ?_
  refine mj_T.imul (b := 702) rfl ?_
  rw [show (s : Int) * 702 = ((s * 702 : Nat) : Int) by omega]
  refine mj_T.ialv rfl rfl ⟨by omega, by omega⟩ ⟨by omega, by omega⟩ h.1 ?_
  exact mj_T.ret rfl rfl rfl rfl
theorem jr_length {s : Nat} {v : Int} (hs : s < 665) (h : jrs bg s v) : mj_Ok (D + 1) 179 [.ref 0, .int (jn s)] (jHM t nw bf bg ov db tx wr) (fun r => r = (.inl (some (.int (jn (jnl v.natAbs)))), jHM t nw bf bg ov db tx wr)) := by
  refine mj_Ok.of (M := mj_m179) rfl rfl rfl ?_
  iterate 4 refine mj_T.pl rfl rfl rfl rfl ?_
  refine mj_T.imul (b := 702) rfl ?_
  refine mj_T.pl rfl rfl rfl rfl ?_
  refine mj_T.iadd (b := 1) rfl ?_
  rw [show (s : Int) * 702 + 1 = ((s * 702 + 1 : Nat) : Int) by omega]
  refine mj_T.ialv rfl rfl ⟨by omega, by omega⟩ ⟨by omega, by omega⟩ h.2.1 ?_
  exact mj_T.ret rfl rfl rfl rfl
end MJR
