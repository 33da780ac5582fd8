/-! The desk of the class, exactly: a product. -/
theorem zs_head (f : Nat → Int) : ∀ n, zs (n + 1) f = f 0 + zs n (fun i => f (i + 1))
  | 0 => by
    show 0 + f 0 = f 0 + 0
    omega
  | n + 1 => by
    show zs (n + 1) f + f (n + 1) = f 0 + (zs n (fun i => f (i + 1)) + f (n + 1))
    rw [zs_head f n]
    omega
theorem zs_more {f : Nat → Int} {n : Nat} : ∀ d, (∀ i, n ≤ i → i < n + d → f i = 0) → zs (n + d) f = zs n f
  | 0, _ => rfl
  | d + 1, h => by
    show zs (n + d) f + f (n + d) = zs n f
    rw [zs_more d (fun i h1 h2 => h i h1 (by omega)), h (n + d) (by omega) (by omega), Int.add_zero]
theorem zs_abs {f : Nat → Int} {M : Nat} : ∀ n, (∀ i, i < n → (f i).natAbs ≤ M) → (zs n f).natAbs ≤ n * M
  | 0, _ => by
    show (0 : Int).natAbs ≤ _
    omega
  | n + 1, h => by
    have h1 := zs_abs n (fun i hi => h i (by omega))
    have h2 := h n (by omega)
    show (zs n f + f n).natAbs ≤ _
    rw [Nat.succ_mul]
    omega
theorem pz_c_zs : ∀ (e : Nat) (A B : pz_P), pz_c e A B = zs (e + 1) (fun u => A u * B (e - u))
  | 0, A, B => by
    show A 0 * B 0 = 0 + A 0 * B 0
    omega
  | e + 1, A, B => by
    rw [zs_head]
    show A 0 * B (e + 1) + pz_c e (pz_tl A) B = A 0 * B (e + 1 - 0) + zs (e + 1) (fun i => A (i + 1) * B (e + 1 - (i + 1)))
    rw [pz_c_zs e (pz_tl A) B]
    congr 1
    exact zs_congr (fun i hi => by
      show A (i + 1) * B (e - i) = _
      rw [show e + 1 - (i + 1) = e - i by omega])
/-- what a product has become so far -/
def tw (A B : Nat → Int) (i j : Nat) : Nat → Int := fun e => zs i (fun u => if u ≤ e then A u * B (e - u) else 0) + if i ≤ e ∧ e - i < j then A i * B (e - i) else 0
theorem tw_0 (A B : Nat → Int) : tw A B 0 0 = fun _ => 0 := funext fun e => by
  unfold tw
  rw [if_neg (by omega)]
  rfl
theorem tw_put (A B : Nat → Int) (i j : Nat) : jvu (tw A B i j) (i + j) (tw A B i j (i + j) + 1 * (A i * B j)) = tw A B i (j + 1) := funext fun e => by
  simp only [jvu, tw]
  by_cases c : e = i + j
  · rw [if_pos c, c, if_neg (by omega), if_pos (by omega), Nat.add_sub_cancel_left]
    omega
  · rw [if_neg c]
    by_cases d : i ≤ e ∧ e - i < j
    · rw [if_pos d, if_pos (by omega)]
    · rw [if_neg d, if_neg (by omega)]
theorem tw_next {A B : Nat → Int} {i j : Nat} (h : ∀ x, j ≤ x → A i * B x = 0) : tw A B i j = tw A B (i + 1) 0 := funext fun e => by
  unfold tw
  show _ = (zs i _ + if i ≤ e then A i * B (e - i) else 0) + _
  rw [if_neg (show ¬ (i + 1 ≤ e ∧ e - (i + 1) < 0) by omega), Int.add_zero]
  by_cases c : i ≤ e
  · rw [if_pos c]
    by_cases d : e - i < j
    · rw [if_pos ⟨c, d⟩]
    · rw [if_neg (fun q => d q.2), h (e - i) (by omega)]
  · rw [if_neg c, if_neg (fun q => c q.1)]
theorem tw_abs {A B : Nat → Int} {al be : Nat} (hA : ∀ i, (A i).natAbs ≤ al) (hB : ∀ i, (B i).natAbs ≤ be) (i j e : Nat) : (tw A B i j e).natAbs ≤ (i + 1) * (al * be) := by
  unfold tw
  have p : ∀ u v, (A u * B v).natAbs ≤ al * be := fun u v => by
    rw [Int.natAbs_mul]
    exact Nat.mul_le_mul (hA u) (hB v)
  have h1 := zs_abs (f := fun u => if u ≤ e then A u * B (e - u) else 0) (M := al * be) i (fun u _ => by
    show (if u ≤ e then A u * B (e - u) else 0).natAbs ≤ _
    split
    · exact p _ _
    · exact Nat.zero_le _)
  rw [Nat.succ_mul]
  have h2 : (if i ≤ e ∧ e - i < j then A i * B (e - i) else 0).natAbs ≤ al * be := by
    split
    · exact p _ _
    · exact Nat.zero_le _
  omega
theorem tw_end {A B : Nat → Int} {da : Nat} (hA : ∀ i, da ≤ i → A i = 0) : tw A B da 0 = pz_mul A B := funext fun e => by
  unfold tw
  rw [if_neg (by omega), Int.add_zero]
  show _ = pz_c e A B
  rw [pz_c_zs]
  have e1 : zs (e + 1) (fun u => A u * B (e - u)) = zs (e + 1) (fun u => if u ≤ e then A u * B (e - u) else 0) := zs_congr (fun u hu => by rw [if_pos (by omega)])
  rw [e1]
  rcases Nat.le_total da (e + 1) with c | c
  · have h1 := zs_more (f := fun u => if u ≤ e then A u * B (e - u) else 0) (n := da) (e + 1 - da) (fun i h1 h2 => by
      show (if i ≤ e then A i * B (e - i) else 0) = 0
      rw [hA i h1, Int.zero_mul]
      split <;> rfl)
    rw [show da + (e + 1 - da) = e + 1 by omega] at h1
    exact h1.symm
  · have h1 := zs_more (f := fun u => if u ≤ e then A u * B (e - u) else 0) (n := e + 1) (da - (e + 1)) (fun i h1 h2 => if_neg (by omega))
    rw [show e + 1 + (da - (e + 1)) = da by omega] at h1
    exact h1
theorem pcs_in {V : Nat → Int} {o i : Nat} (h : i < cL (o + 3)) : pcs V o i = V (o + 4 + 2 * i) := if_pos h
theorem pcs_out {V : Nat → Int} {o i : Nat} (h : ¬ i < cL (o + 3)) : pcs V o i = 0 := if_neg h
section MTI
variable {g h : mj_H} {n D t : Nat} {V : Nat → Int} {X : Nat → Nat → Int}
theorem mD_times_in {da db al be c i : Nat} (kt : cK t = 13) (ht : t = 80 ∨ t = 110) (h1 : X 20 2 = (da : Int) - 1) (h2 : X 50 2 = (db : Int) - 1) (hda : da ≤ 13) (hdb : db ≤ 13) (hzb : ∀ i, db ≤ i → i < 13 → V (50 + 4 + 2 * i) = 0) (hfi : da = 0 ∨ db = 0 ∨ da + db ≤ cL (t + 3) + 1) (hA : ∀ i, (pcs V 20 i).natAbs ≤ al) (hB : ∀ i, (pcs V 50 i).natAbs ≤ be) (hc : c ≤ 240) (hcap : ∀ e, e < cL (t + 3) → c ≤ cL (t + 4 + 2 * e + 1)) (hfit : 13 * (al * be) < jB ^ c) (hc1 : al < jB ^ 1500) (hc2 : be < jB ^ 1500) (hi : i < da) (hn : V (20 + 4 + 2 * i) ≠ 0) {Q : mj_R → Prop} (hend : ∀ (z1 z2 : Int) (h : mj_H), jM g n (pfl (scr V z1 z2) t (tw (pcs V 20) (pcs V 50) i db) (cL (t + 3))) (xup X t 2 (-1)) h → mj_T (D + 2) mj_m14 114 [some (.ref 19), some (.ref t), some (.ref 20), some (.ref 50), some (.int (jn (i : Int))), some (.int (jn (db : Int)))] [] h Q) : ∀ k j, j + k = db → ∀ (z1 z2 : Int) (h : mj_H), jM g n (pfl (scr V z1 z2) t (tw (pcs V 20) (pcs V 50) i j) (cL (t + 3))) (xup X t 2 (-1)) h → mj_T (D + 2) mj_m14 51 [some (.ref 19), some (.ref t), some (.ref 20), some (.ref 50), some (.int (jn (i : Int))), some (.int (jn (j : Int)))] [] h Q
  | 0, j, hj, z1, z2, h, m => by
    have hbt := (mK_p kt).2.2.1
    have p20 : cL (20 + 3) = 13 := mK_z.1
    have p50 : cL (50 + 3) = 13 := mK_z.2.1
    have c1 : cL (164 + 1) = 240 := mK_z.2.2.2.2.2.2.2.1
    have hpt := mP_pos kt
    have hft := mP_far kt cq_d20 (by omega)
    have hfu := mP_far kt cq_d50 (by omega)
    rw [p20] at hft
    rw [p50] at hfu
    iterate 2 refine mj_T.pl rfl rfl rfl rfl ?_
    refine mT_get (v := .int (jn ((db : Nat) - 1 : Int))) m 13 cq_d50 (by decide) rfl (congrArg (fun z : Int => some (Value.int (jn z))) ((xup_ne X (-1) (Or.inl (by omega))).trans h2)) ?_
    refine mj_T.icmp (a := ((j : Nat) : Int)) (b := ((db : Nat) - 1 : Int)) rfl ⟨by omega, by omega⟩ ⟨by omega, by omega⟩ (fun c1 => ?_) (fun c1 => ?_)
    · simp only [jc, Bool.not_eq_true', Bool.not_eq_false', decide_eq_true_eq, decide_eq_false_iff_not] at c1
      rw [show j = db by omega] at m ⊢
      exact hend z1 z2 _ m
    · exfalso
      simp only [jc, Bool.not_eq_true', Bool.not_eq_false', decide_eq_true_eq, decide_eq_false_iff_not] at c1
      omega
  | k + 1, j, hj, z1, z2, h, m => by
    have hbt := (mK_p kt).2.2.1
    have p20 : cL (20 + 3) = 13 := mK_z.1
    have p50 : cL (50 + 3) = 13 := mK_z.2.1
    have c1 : cL (164 + 1) = 240 := mK_z.2.2.2.2.2.2.2.1
    have hpt := mP_pos kt
    have hft := mP_far kt cq_d20 (by omega)
    have hfu := mP_far kt cq_d50 (by omega)
    rw [p20] at hft
    rw [p50] at hfu
    have a1 := Nat.mul_le_mul (hA i) (hB j)
    rw [← Int.natAbs_mul, pcs_in (by omega), pcs_in (by omega)] at a1
    have hcp := hcap (i + j) (by omega)
    have hpr : jnl (V (20 + 4 + 2 * i) * V (50 + 4 + 2 * j)).natAbs ≤ cL (164 + 1) := Nat.le_trans (jnl_B a1 (m := c) (by omega)) (by omega)
    have hpt1 : jnl (V (20 + 4 + 2 * i) * V (50 + 4 + 2 * j)).natAbs ≤ cL (t + 4 + 2 * (i + j) + 1) := Nat.le_trans (jnl_B a1 (m := c) (by omega)) hcp
    have hsm : jnl (tw (pcs V 20) (pcs V 50) i j (i + j) + 1 * (V (20 + 4 + 2 * i) * V (50 + 4 + 2 * j))).natAbs ≤ cL (t + 4 + 2 * (i + j) + 1) := by
      have a2 := tw_abs hA hB i (j + 1) (i + j)
      rw [← tw_put, jvu_at, pcs_in (by omega), pcs_in (by omega)] at a2
      have a3 : (i + 1) * (al * be) ≤ 13 * (al * be) := Nat.mul_le_mul_right _ (by omega)
      exact Nat.le_trans (jnl_B (al := 13 * (al * be)) (by omega) hfit) hcp
    iterate 2 refine mj_T.pl rfl rfl rfl rfl ?_
    refine mT_get (v := .int (jn ((db : Nat) - 1 : Int))) m 13 cq_d50 (by decide) rfl (congrArg (fun z : Int => some (Value.int (jn z))) ((xup_ne X (-1) (Or.inl (by omega))).trans h2)) ?_
    refine mj_T.icmp (a := ((j : Nat) : Int)) (b := ((db : Nat) - 1 : Int)) rfl ⟨by omega, by omega⟩ ⟨by omega, by omega⟩ (fun c1 => ?_) (fun c1 => ?_)
    · exfalso
      simp only [jc, Bool.not_eq_true', Bool.not_eq_false', decide_eq_true_eq, decide_eq_false_iff_not] at c1
      omega
    · simp only [jc, Bool.not_eq_true', Bool.not_eq_false', decide_eq_true_eq, decide_eq_false_iff_not] at c1
      iterate 2 refine mj_T.pl rfl rfl rfl rfl ?_
      refine mj_T.call rfl rfl (Nat.le_of_ble_eq_true rfl) (Nat.le_of_ble_eq_true rfl) (mV_of m 13 cq_d20 (by decide) rfl (by decide) rfl _) rfl (mj_Ok.up (by omega) (mP_at (D := 0) m cq_d20 (e := i) (by omega))) (fun v g2 hq => ?_) (fun i g2 hq => ?_)
      rotate_left
      · cases hq
      cases hq
      refine mj_T.eq (pc2 := 66) (st2 := [.ref (20 + 4 + 2 * i)]) ?_ rfl rfl rfl rfl
      refine mT_sg m ((mK_p cq_d20).2.2.2 _ (by omega)) rfl ?_ (hcl := by rw [lk_off (a := 20 + 4 + 2 * i) (by omega) (by omega) (by omega), ← pcs_in (V := V) (o := 20) (i := i) (by omega)]; exact jnl_B (hA i) hc1)
      refine mj_T.if0 (a := (jsg ((pfl (scr V z1 z2) t (tw (pcs V 20) (pcs V 50) i j) (cL (t + 3))) (20 + 4 + 2 * i)))) rfl (jsg_r _) (fun c3 => ?_) (fun c3 => ?_)
      · exfalso
        simp only [jc, Bool.not_eq_true', Bool.not_eq_false', decide_eq_true_eq, decide_eq_false_iff_not] at c3
        rw [lk_off (a := 20 + 4 + 2 * i) (by omega) (by omega) (by omega)] at c3
        exact hn (jsg_z0.mp c3)
      · simp only [jc, Bool.not_eq_true', Bool.not_eq_false', decide_eq_true_eq, decide_eq_false_iff_not] at c3
        refine mj_T.pl rfl rfl rfl rfl ?_
        refine mT_get m 11 cq_d19 (by decide) rfl rfl ?_
        iterate 2 refine mj_T.pl rfl rfl rfl rfl ?_
        refine mj_T.call rfl rfl (Nat.le_of_ble_eq_true rfl) (Nat.le_of_ble_eq_true rfl) (mV_of m 13 cq_d20 (by decide) rfl (by decide) rfl _) rfl (mj_Ok.up (by omega) (mP_at (D := 0) m cq_d20 (e := i) (by omega))) (fun v g4 hq => ?_) (fun i g4 hq => ?_)
        rotate_left
        · cases hq
        cases hq
        refine mj_T.eq (pc2 := 82) (st2 := [.ref (20 + 4 + 2 * i), .ref 164]) ?_ rfl rfl rfl rfl
        iterate 2 refine mj_T.pl rfl rfl rfl rfl ?_
        refine mj_T.call rfl rfl (Nat.le_of_ble_eq_true rfl) (Nat.le_of_ble_eq_true rfl) (mV_of m 13 cq_d50 (by decide) rfl (by decide) rfl _) rfl (mj_Ok.up (by omega) (mP_at (D := 0) m cq_d50 (e := j) (by omega))) (fun v g5 hq => ?_) (fun i g5 hq => ?_)
        rotate_left
        · cases hq
        cases hq
        refine mj_T.eq (pc2 := 88) (st2 := [.ref (50 + 4 + 2 * j), .ref (20 + 4 + 2 * i), .ref 164]) ?_ rfl rfl rfl rfl
        refine mj_T.call rfl rfl (Nat.le_of_ble_eq_true rfl) (Nat.le_of_ble_eq_true rfl) (mV_of m 18 cq_d164 (by decide) rfl (by decide) rfl _) rfl (mj_Ok.up (by omega) (mW_setProduct (D := 0) m cq_d164 ((mK_p cq_d20).2.2.2 _ (by omega)) ((mK_p cq_d50).2.2.2 _ (by omega)) (by omega) (by omega) (by omega) (by rw [lk_off (a := 20 + 4 + 2 * i) (by omega) (by omega) (by omega), lk_off (a := 50 + 4 + 2 * j) (by omega) (by omega) (by omega)]; exact hpr) (hca := by rw [lk_off (a := 20 + 4 + 2 * i) (by omega) (by omega) (by omega), ← pcs_in (V := V) (o := 20) (i := i) (by omega)]; exact jnl_B (hA i) hc1) (hcb := by rw [lk_off (a := 50 + 4 + 2 * j) (by omega) (by omega) (by omega), ← pcs_in (V := V) (o := 50) (i := j) (by omega)]; exact jnl_B (hB j) hc2))) (fun v g6 hq => ?_) (fun i g6 hq => ?_)
        rotate_left
        · obtain ⟨_, _, hq⟩ := hq; cases hq
        obtain ⟨_, m7, hq⟩ := hq
        cases hq
        rw [lk_off (a := 20 + 4 + 2 * i) (by omega) (by omega) (by omega), lk_off (a := 50 + 4 + 2 * j) (by omega) (by omega) (by omega), lk_p1 (by omega)] at m7
        refine mj_T.eq (pc2 := 91) (st2 := []) ?_ rfl rfl rfl rfl
        iterate 3 refine mj_T.pl rfl rfl rfl rfl ?_
        refine mj_T.iadd (a := ((i : Nat) : Int)) (b := ((j : Nat) : Int)) rfl ?_
        rw [show (((i : Nat) : Int) + ((j : Nat) : Int)) = (((i + j) : Nat) : Int) by omega]
        refine mj_T.call rfl rfl (Nat.le_of_ble_eq_true rfl) (Nat.le_of_ble_eq_true rfl) (mV_of m7 13 kt (by decide) rfl (by decide) rfl _) rfl (mj_Ok.up (by omega) (mP_at (D := 0) m7 kt (e := (i + j)) (by omega))) (fun v g8 hq => ?_) (fun i g8 hq => ?_)
        rotate_left
        · cases hq
        cases hq
        refine mj_T.eq (pc2 := 100) (st2 := [.ref (t + 4 + 2 * (i + j))]) ?_ rfl rfl rfl rfl
        refine mj_T.pl rfl rfl rfl rfl ?_
        refine mT_get m7 11 cq_d19 (by decide) rfl rfl ?_
        refine mj_T.pl rfl rfl rfl rfl ?_
        refine mj_T.call rfl rfl (Nat.le_of_ble_eq_true rfl) (Nat.le_of_ble_eq_true rfl) (mV_of m7 18 ((mK_p kt).2.2.2 _ (by omega)) (by decide) rfl (by decide) rfl _) rfl (mj_Ok.up (by omega) (mW_plus (D := 0) (f := 1) m7 ((mK_p kt).2.2.2 _ (by omega)) cq_d164 (by omega) (Or.inl rfl) (by rw [lk_1 (by omega)]; exact hpt1) (by rw [lk_1 (by omega), pfl_at _ _ _ (by omega)]; exact hsm))) (fun v g9 hq => ?_) (fun i g9 hq => ?_)
        rotate_left
        · obtain ⟨_, _, hq⟩ := hq; cases hq
        obtain ⟨_, m10, hq⟩ := hq
        cases hq
        rw [lk_1 (by omega), pfl_at _ _ _ (by omega)] at m10
        refine mj_T.eq (pc2 := 108) (st2 := []) ?_ rfl rfl rfl rfl
        refine mj_T.iinc rfl rfl ?_
        rw [show ((j : Nat) : Int) + 1 = ((j + 1 : Nat) : Int) by omega]
        refine mj_T.eq (loc2 := [some (.ref 19), some (.ref t), some (.ref 20), some (.ref 50), some (.int (jn ((i : Nat) : Int))), some (.int (jn (((j + 1) : Nat) : Int)))]) ?_ rfl rfl rfl rfl
        refine mj_T.pl rfl rfl rfl rfl ?_
        refine mD_times_in kt ht h1 h2 hda hdb hzb hfi hA hB hc hcap hfit hc1 hc2 hi hn hend k (j + 1) (by omega) (V (20 + 4 + 2 * i) * V (50 + 4 + 2 * j)) z2 _ (m10.to ?_ rfl)
        rw [pfl_upd (by omega), ← tw_put, pcs_in (by omega), pcs_in (by omega)]
theorem mD_times_out {da db al be c : Nat} (kt : cK t = 13) (ht : t = 80 ∨ t = 110) (h1 : X 20 2 = (da : Int) - 1) (h2 : X 50 2 = (db : Int) - 1) (hda : da ≤ 13) (hdb : db ≤ 13) (hzb : ∀ i, db ≤ i → i < 13 → V (50 + 4 + 2 * i) = 0) (hfi : da = 0 ∨ db = 0 ∨ da + db ≤ cL (t + 3) + 1) (hA : ∀ i, (pcs V 20 i).natAbs ≤ al) (hB : ∀ i, (pcs V 50 i).natAbs ≤ be) (hc : c ≤ 240) (hcap : ∀ e, e < cL (t + 3) → c ≤ cL (t + 4 + 2 * e + 1)) (hfit : 13 * (al * be) < jB ^ c) (hc1 : al < jB ^ 1500) (hc2 : be < jB ^ 1500) {Q : mj_R → Prop} (hend : ∀ (z1 z2 : Int) (l5 : Option Value) (h : mj_H), jM g n (pfl (scr V z1 z2) t (tw (pcs V 20) (pcs V 50) da 0) (cL (t + 3))) (xup X t 2 (-1)) h → mj_T (D + 2) mj_m14 120 [some (.ref 19), some (.ref t), some (.ref 20), some (.ref 50), some (.int (jn (da : Int))), l5] [] h Q) : ∀ k i, i + k = da → ∀ (z1 z2 : Int) (l5 : Option Value) (h : mj_H), jM g n (pfl (scr V z1 z2) t (tw (pcs V 20) (pcs V 50) i 0) (cL (t + 3))) (xup X t 2 (-1)) h → mj_T (D + 2) mj_m14 39 [some (.ref 19), some (.ref t), some (.ref 20), some (.ref 50), some (.int (jn (i : Int))), l5] [] h Q
  | 0, i, hi, z1, z2, l5, h, m => by
    have hbt := (mK_p kt).2.2.1
    have p20 : cL (20 + 3) = 13 := mK_z.1
    have p50 : cL (50 + 3) = 13 := mK_z.2.1
    have c1 : cL (164 + 1) = 240 := mK_z.2.2.2.2.2.2.2.1
    have hpt := mP_pos kt
    have hft := mP_far kt cq_d20 (by omega)
    have hfu := mP_far kt cq_d50 (by omega)
    rw [p20] at hft
    rw [p50] at hfu
    iterate 2 refine mj_T.pl rfl rfl rfl rfl ?_
    refine mT_get (v := .int (jn ((da : Nat) - 1 : Int))) m 13 cq_d20 (by decide) rfl (congrArg (fun z : Int => some (Value.int (jn z))) ((xup_ne X (-1) (Or.inl (by omega))).trans h1)) ?_
    refine mj_T.icmp (a := ((i : Nat) : Int)) (b := ((da : Nat) - 1 : Int)) rfl ⟨by omega, by omega⟩ ⟨by omega, by omega⟩ (fun c1 => ?_) (fun c1 => ?_)
    · simp only [jc, Bool.not_eq_true', Bool.not_eq_false', decide_eq_true_eq, decide_eq_false_iff_not] at c1
      rw [show i = da by omega] at m ⊢
      exact hend z1 z2 l5 _ m
    · exfalso
      simp only [jc, Bool.not_eq_true', Bool.not_eq_false', decide_eq_true_eq, decide_eq_false_iff_not] at c1
      omega
  | k + 1, i, hi, z1, z2, l5, h, m => by
    have hbt := (mK_p kt).2.2.1
    have p20 : cL (20 + 3) = 13 := mK_z.1
    have p50 : cL (50 + 3) = 13 := mK_z.2.1
    have c1 : cL (164 + 1) = 240 := mK_z.2.2.2.2.2.2.2.1
    have hpt := mP_pos kt
    have hft := mP_far kt cq_d20 (by omega)
    have hfu := mP_far kt cq_d50 (by omega)
    rw [p20] at hft
    rw [p50] at hfu
    iterate 2 refine mj_T.pl rfl rfl rfl rfl ?_
    refine mT_get (v := .int (jn ((da : Nat) - 1 : Int))) m 13 cq_d20 (by decide) rfl (congrArg (fun z : Int => some (Value.int (jn z))) ((xup_ne X (-1) (Or.inl (by omega))).trans h1)) ?_
    refine mj_T.icmp (a := ((i : Nat) : Int)) (b := ((da : Nat) - 1 : Int)) rfl ⟨by omega, by omega⟩ ⟨by omega, by omega⟩ (fun c1 => ?_) (fun c1 => ?_)
    · exfalso
      simp only [jc, Bool.not_eq_true', Bool.not_eq_false', decide_eq_true_eq, decide_eq_false_iff_not] at c1
      omega
    · simp only [jc, Bool.not_eq_true', Bool.not_eq_false', decide_eq_true_eq, decide_eq_false_iff_not] at c1
      refine mj_T.pl rfl rfl rfl rfl ?_
      refine mj_T.pl (loc' := [some (.ref 19), some (.ref t), some (.ref 20), some (.ref 50), some (.int (jn ((i : Nat) : Int))), some (.int (jn 0))]) rfl rfl rfl rfl ?_
      by_cases hn : V (20 + 4 + 2 * i) = 0
      · skip
        iterate 2 refine mj_T.pl rfl rfl rfl rfl ?_
        refine mT_get (v := .int (jn ((db : Nat) - 1 : Int))) m 13 cq_d50 (by decide) rfl (congrArg (fun z : Int => some (Value.int (jn z))) ((xup_ne X (-1) (Or.inl (by omega))).trans h2)) ?_
        refine mj_T.icmp (a := 0) (b := ((db : Nat) - 1 : Int)) rfl ⟨by omega, by omega⟩ ⟨by omega, by omega⟩ (fun c41 => ?_) (fun c41 => ?_)
        · simp only [jc, Bool.not_eq_true', Bool.not_eq_false', decide_eq_true_eq, decide_eq_false_iff_not] at c41
          refine mj_T.iinc rfl rfl ?_
          rw [show ((i : Nat) : Int) + 1 = ((i + 1 : Nat) : Int) by omega]
          refine mj_T.eq (loc2 := [some (.ref 19), some (.ref t), some (.ref 20), some (.ref 50), some (.int (jn (((i + 1) : Nat) : Int))), some (.int (jn 0))]) ?_ rfl rfl rfl rfl
          refine mj_T.pl rfl rfl rfl rfl ?_
          refine mD_times_out kt ht h1 h2 hda hdb hzb hfi hA hB hc hcap hfit hc1 hc2 hend k (i + 1) (by omega) z1 z2 _ _ (m.to ?_ rfl)
          rw [← tw_next (j := 0) (fun x hx => ?_)]
          rw [pcs_in (by omega), hn, Int.zero_mul]
        · simp only [jc, Bool.not_eq_true', Bool.not_eq_false', decide_eq_true_eq, decide_eq_false_iff_not] at c41
          iterate 2 refine mj_T.pl rfl rfl rfl rfl ?_
          refine mj_T.call rfl rfl (Nat.le_of_ble_eq_true rfl) (Nat.le_of_ble_eq_true rfl) (mV_of m 13 cq_d20 (by decide) rfl (by decide) rfl _) rfl (mj_Ok.up (by omega) (mP_at (D := 0) m cq_d20 (e := i) (by omega))) (fun v g42 hq => ?_) (fun i g42 hq => ?_)
          rotate_left
          · cases hq
          cases hq
          refine mj_T.eq (pc2 := 66) (st2 := [.ref (20 + 4 + 2 * i)]) ?_ rfl rfl rfl rfl
          refine mT_sg m ((mK_p cq_d20).2.2.2 _ (by omega)) rfl ?_ (hcl := by rw [lk_off (a := 20 + 4 + 2 * i) (by omega) (by omega) (by omega), ← pcs_in (V := V) (o := 20) (i := i) (by omega)]; exact jnl_B (hA i) hc1)
          refine mj_T.if0 (a := (jsg ((pfl (scr V z1 z2) t (tw (pcs V 20) (pcs V 50) i 0) (cL (t + 3))) (20 + 4 + 2 * i)))) rfl (jsg_r _) (fun c43 => ?_) (fun c43 => ?_)
          · simp only [jc, Bool.not_eq_true', Bool.not_eq_false', decide_eq_true_eq, decide_eq_false_iff_not] at c43
            refine mj_T.iinc rfl rfl ?_
            rw [show ((i : Nat) : Int) + 1 = ((i + 1 : Nat) : Int) by omega]
            refine mj_T.eq (loc2 := [some (.ref 19), some (.ref t), some (.ref 20), some (.ref 50), some (.int (jn (((i + 1) : Nat) : Int))), some (.int (jn 0))]) ?_ rfl rfl rfl rfl
            refine mj_T.pl rfl rfl rfl rfl ?_
            refine mD_times_out kt ht h1 h2 hda hdb hzb hfi hA hB hc hcap hfit hc1 hc2 hend k (i + 1) (by omega) z1 z2 _ _ (m.to ?_ rfl)
            rw [← tw_next (j := 0) (fun x hx => ?_)]
            rw [pcs_in (by omega), hn, Int.zero_mul]
          · exfalso
            simp only [jc, Bool.not_eq_true', Bool.not_eq_false', decide_eq_true_eq, decide_eq_false_iff_not] at c43
            rw [lk_off (a := 20 + 4 + 2 * i) (by omega) (by omega) (by omega)] at c43
            exact c43 (jsg_z0.mpr hn)
      · refine mD_times_in kt ht h1 h2 hda hdb hzb hfi hA hB hc hcap hfit hc1 hc2 (by omega) hn (fun y1 y2 h3 m3 => ?_) db 0 (by omega) z1 z2 _ m
        refine mj_T.iinc rfl rfl ?_
        rw [show ((i : Nat) : Int) + 1 = ((i + 1 : Nat) : Int) by omega]
        refine mj_T.eq (loc2 := [some (.ref 19), some (.ref t), some (.ref 20), some (.ref 50), some (.int (jn (((i + 1) : Nat) : Int))), some (.int (jn ((db : Nat) : Int)))]) ?_ rfl rfl rfl rfl
        refine mj_T.pl rfl rfl rfl rfl ?_
        refine mD_times_out kt ht h1 h2 hda hdb hzb hfi hA hB hc hcap hfit hc1 hc2 hend k (i + 1) (by omega) y1 y2 _ _ (m3.to ?_ rfl)
        rw [← tw_next (j := db) (fun x hx => ?_)]
        by_cases q : x < 13
        · rw [pcs_in (o := 50) (by omega), hzb x hx q, Int.mul_zero]
        · rw [pcs_out (o := 50) (by omega), Int.mul_zero]
end MTI
