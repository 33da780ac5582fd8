/-! The desk of the class, exactly: a number is enlarged, is lessened; a common divisor. -/
/-- all but the desk's four numbers and a stay -/
def qF (a : Nat) (V V' : Nat → Int) : Prop := ∀ x, x ≠ 164 → x ≠ 166 → x ≠ 168 → x ≠ 170 → x ≠ a → V' x = V x
theorem jfa_one {x v m : Nat} (h : jnl x + 1 ≤ m) : jnl (x * jfa v) ≤ m := by
  rw [jnl_le_lt]
  have h1 := jnl_le_lt.mp (Nat.le_refl (jnl x))
  have h2 := (jfa_pos v).2
  have h3 : x * jfa v ≤ x * 1000000000 := Nat.mul_le_mul_left _ h2
  have h4 : jB ^ (jnl x + 1) ≤ jB ^ m := Nat.pow_le_pow_right (by decide) h
  rw [Nat.pow_succ] at h4
  have h5 : jB = 1000000000 := rfl
  rw [h5] at h4 h1
  rw [h5]
  omega
theorem jnl_R {v : Int} (h : v.natAbs ≤ 9223372036854775807) : jnl v.natAbs ≤ 3 := jnl_le_lt.mpr (Nat.lt_of_le_of_lt h (by decide +kernel))
theorem jnl_tdiv {a b : Int} {m : Nat} (h : jnl a.natAbs ≤ m) : jnl (a.tdiv b).natAbs ≤ m := Nat.le_trans (jnl_mono (Int.natAbs_tdiv_le_natAbs a b)) h
section MEN
variable {g h : mj_H} {n D a : Nat} {V : Nat → Int} {X : Nat → Nat → Int}
theorem mD_enlarge (m : jM g n V X h) (ka : cK a = 18) (hn : a ≠ 164 ∧ a ≠ 168) {f : Int} (hf : f.natAbs ≤ 9223372036854775807) (hm : jnl (V a * f).natAbs ≤ cL (a + 1)) (hm2 : jnl (V a * f).natAbs ≤ 240) (hcl : jnl (V a).natAbs ≤ 1500 := by omega) : mj_Ok (D + 2) 24 [.ref 19, .ref a, .long (jl f)] h (fun r => ∃ V2 h2, jM g n V2 X h2 ∧ V2 a = V a * f ∧ (∀ x, x ≠ 164 → x ≠ 168 → x ≠ a → V2 x = V x) ∧ r = (.inl none, h2)) := by
  have c1 : cL (164 + 1) = 240 := mK_z.2.2.2.2.2.2.2.1
  have c2 : cL (166 + 1) = 240 := mK_z.2.2.2.2.2.2.2.2.1
  have c3 : cL (168 + 1) = 40 := mK_z.2.2.2.2.2.2.2.2.2.1
  have c4 : cL (170 + 1) = 60 := mK_z.2.2.2.2.2.2.2.2.2.2.1
  have hj3 := jnl_R hf
  have h170 : a ≠ 170 := fun e => by
    rw [e] at ka
    exact absurd (ka.symm.trans cq_d170) (by decide)
  have hfr : jR f := ⟨by omega, by omega⟩
  refine mj_Ok.of (M := mj_m24) rfl rfl rfl ?_
  refine mj_T.pl rfl rfl rfl rfl ?_
  refine mT_get m 11 cq_d19 (by decide) rfl rfl ?_
  refine mj_T.pl rfl rfl rfl rfl ?_
  refine mj_T.call rfl rfl (Nat.le_of_ble_eq_true rfl) (Nat.le_of_ble_eq_true rfl) (mV_of m 18 cq_d168 (by decide) rfl (by decide) rfl _) rfl (mj_Ok.up (by omega) (mW_setLong (D := 0) (v := f) m cq_d168 hfr (by omega))) (fun v g1 hq => ?_) (fun i g1 hq => ?_)
  rotate_left
  · obtain ⟨_, _, hq⟩ := hq; cases hq
  obtain ⟨_, m2, hq⟩ := hq
  cases hq
  have m2 := m2.to (V' := (jvu V 168 f)) (by rfl) rfl
  refine mj_T.eq (pc2 := 8) (st2 := []) ?_ rfl rfl rfl rfl
  refine mj_T.pl rfl rfl rfl rfl ?_
  refine mT_get m2 11 cq_d19 (by decide) rfl rfl ?_
  iterate 2 refine mj_T.pl rfl rfl rfl rfl ?_
  refine mT_get m2 11 cq_d19 (by decide) rfl rfl ?_
  refine mj_T.call rfl rfl (Nat.le_of_ble_eq_true rfl) (Nat.le_of_ble_eq_true rfl) (mV_of m2 18 cq_d164 (by decide) rfl (by decide) rfl _) rfl (mj_Ok.up (by omega) (mW_setProduct (D := 0) m2 cq_d164 ka cq_d168 (by omega) (by omega) (by omega) (by rw [((jvu_ne _ _ _ (by omega)).trans (rfl : V a = _)), (jvu_at _ _ _)]; exact (by omega)) (hca := by rw [((jvu_ne _ _ _ (by omega)).trans (rfl : V a = _))]; omega) (hcb := by rw [(jvu_at _ _ _)]; omega))) (fun v g3 hq => ?_) (fun i g3 hq => ?_)
  rotate_left
  · obtain ⟨_, _, hq⟩ := hq; cases hq
  obtain ⟨_, m4, hq⟩ := hq
  cases hq
  have m4 := m4.to (V' := (jvu (jvu V 168 f) 164 ((V a) * f))) (by rw [((jvu_ne _ _ _ (by omega)).trans (rfl : V a = _)), (jvu_at _ _ _)]) rfl
  refine mj_T.eq (pc2 := 20) (st2 := []) ?_ rfl rfl rfl rfl
  iterate 2 refine mj_T.pl rfl rfl rfl rfl ?_
  refine mT_get m4 11 cq_d19 (by decide) rfl rfl ?_
  refine mj_T.call rfl rfl (Nat.le_of_ble_eq_true rfl) (Nat.le_of_ble_eq_true rfl) (mV_of m4 18 ka (by decide) rfl (by decide) rfl _) rfl (mj_Ok.up (by omega) (mW_set (D := 0) m4 ka cq_d164 (by omega) (by rw [(jvu_at _ _ _)]; exact hm))) (fun v g5 hq => ?_) (fun i g5 hq => ?_)
  rotate_left
  · obtain ⟨_, _, hq⟩ := hq; cases hq
  obtain ⟨_, m6, hq⟩ := hq
  cases hq
  have m6 := m6.to (V' := (jvu (jvu (jvu V 168 f) 164 ((V a) * f)) a ((V a) * f))) (by rw [(jvu_at _ _ _)]) rfl
  refine mj_T.eq (pc2 := 28) (st2 := []) ?_ rfl rfl rfl rfl
  exact mj_T.ret rfl rfl rfl ⟨_, _, m6, (jvu_at _ _ _), fun x h1 h2 h3 => ((jvu_ne _ _ _ (by omega)).trans ((jvu_ne _ _ _ (by omega)).trans ((jvu_ne _ _ _ (by omega)).trans (rfl : V x = _)))), rfl⟩
theorem mD_lessen (m : jM g n V X h) (ka : cK a = 18) (hn : a ≠ 164 ∧ a ≠ 166 ∧ a ≠ 168) {f : Int} (hf : f.natAbs ≤ 9223372036854775807) (hm : jnl (V a).natAbs + 1 ≤ cL (a + 1)) (hm2 : jnl (V a).natAbs ≤ 240) : mj_Ok (D + 3) 25 [.ref 19, .ref a, .long (jl f)] h (fun r => ∃ V2 h2, jM g n V2 X h2 ∧ V2 a = (V a).tdiv f ∧ qF a V V2 ∧ r = (.inl none, h2)) := by
  have c1 : cL (164 + 1) = 240 := mK_z.2.2.2.2.2.2.2.1
  have c2 : cL (166 + 1) = 240 := mK_z.2.2.2.2.2.2.2.2.1
  have c3 : cL (168 + 1) = 40 := mK_z.2.2.2.2.2.2.2.2.2.1
  have c4 : cL (170 + 1) = 60 := mK_z.2.2.2.2.2.2.2.2.2.2.1
  have hj3 := jnl_R hf
  have h170 : a ≠ 170 := fun e => by
    rw [e] at ka
    exact absurd (ka.symm.trans cq_d170) (by decide)
  have hfr : jR f := ⟨by omega, by omega⟩
  refine mj_Ok.of (M := mj_m25) rfl rfl rfl ?_
  refine mj_T.pl rfl rfl rfl rfl ?_
  refine mT_get m 11 cq_d19 (by decide) rfl rfl ?_
  refine mj_T.pl rfl rfl rfl rfl ?_
  refine mj_T.call rfl rfl (Nat.le_of_ble_eq_true rfl) (Nat.le_of_ble_eq_true rfl) (mV_of m 18 cq_d168 (by decide) rfl (by decide) rfl _) rfl (mj_Ok.up (by omega) (mW_setLong (D := 0) (v := f) m cq_d168 hfr (by omega))) (fun v g1 hq => ?_) (fun i g1 hq => ?_)
  rotate_left
  · obtain ⟨_, _, hq⟩ := hq; cases hq
  obtain ⟨_, m2, hq⟩ := hq
  cases hq
  have m2 := m2.to (V' := (jvu V 168 f)) (by rfl) rfl
  refine mj_T.eq (pc2 := 8) (st2 := []) ?_ rfl rfl rfl rfl
  refine mj_T.pl rfl rfl rfl rfl ?_
  refine mT_get m2 11 cq_d19 (by decide) rfl rfl ?_
  refine mj_T.pl rfl rfl rfl rfl ?_
  refine mT_get m2 11 cq_d19 (by decide) rfl rfl ?_
  refine mj_T.call rfl rfl (Nat.le_of_ble_eq_true rfl) (Nat.le_of_ble_eq_true rfl) (mV_of m2 12 cq_d170 (by decide) rfl (by decide) rfl _) rfl (mj_Ok.up (by omega) (mW_prepare (D := 0) m2 cq_d170 cq_d168 (by rw [(jvu_at _ _ _)]; exact (by omega)))) (fun v g3 hq => ?_) (fun i g3 hq => ?_)
  rotate_left
  · obtain ⟨_, _, hq⟩ := hq; cases hq
  obtain ⟨_, m4, hq⟩ := hq
  cases hq
  have m4 := m4.to (V' := (jvu (jvu V 168 f) 170 f)) (by rw [(jvu_at _ _ _)]) rfl
  refine mj_T.eq (pc2 := 19) (st2 := []) ?_ rfl rfl rfl rfl
  refine mj_T.pl rfl rfl rfl rfl ?_
  refine mT_get m4 11 cq_d19 (by decide) rfl rfl ?_
  iterate 2 refine mj_T.pl rfl rfl rfl rfl ?_
  refine mT_get m4 11 cq_d19 (by decide) rfl rfl ?_
  refine mj_T.call rfl rfl (Nat.le_of_ble_eq_true rfl) (Nat.le_of_ble_eq_true rfl) (mV_of m4 12 cq_d170 (by decide) rfl (by decide) rfl _) rfl (mj_Ok.up (by omega) (mW_split (D := 0) m4 cq_d170 ka cq_d164 (by omega) (by rw [((jvu_ne _ _ _ (by omega)).trans ((jvu_ne _ _ _ (by omega)).trans (rfl : V a = _))), (jvu_at _ _ _)]; exact (jfa_one hm)) (by rw [((jvu_ne _ _ _ (by omega)).trans ((jvu_ne _ _ _ (by omega)).trans (rfl : V a = _))), (jvu_at _ _ _)]; exact (by have := jnl_tdiv (b := f) hm2; omega)) (hcc := by rw [(jvu_at _ _ _)]; omega))) (fun v g5 hq => ?_) (fun i g5 hq => ?_)
  rotate_left
  · obtain ⟨_, _, hq⟩ := hq; cases hq
  obtain ⟨_, m6, hq⟩ := hq
  cases hq
  have m6 := m6.to (V' := (jvu (jvu (jvu (jvu V 168 f) 170 f) a ((V a).tmod f)) 164 ((V a).tdiv f))) (by rw [((jvu_ne _ _ _ (by omega)).trans ((jvu_ne _ _ _ (by omega)).trans (rfl : V a = _))), (jvu_at _ _ _)]) rfl
  refine mj_T.eq (pc2 := 31) (st2 := []) ?_ rfl rfl rfl rfl
  iterate 2 refine mj_T.pl rfl rfl rfl rfl ?_
  refine mT_get m6 11 cq_d19 (by decide) rfl rfl ?_
  refine mj_T.call rfl rfl (Nat.le_of_ble_eq_true rfl) (Nat.le_of_ble_eq_true rfl) (mV_of m6 18 ka (by decide) rfl (by decide) rfl _) rfl (mj_Ok.up (by omega) (mW_set (D := 0) m6 ka cq_d164 (by omega) (by rw [(jvu_at _ _ _)]; exact (jnl_tdiv (by omega))))) (fun v g7 hq => ?_) (fun i g7 hq => ?_)
  rotate_left
  · obtain ⟨_, _, hq⟩ := hq; cases hq
  obtain ⟨_, m8, hq⟩ := hq
  cases hq
  have m8 := m8.to (V' := (jvu (jvu (jvu (jvu (jvu V 168 f) 170 f) a ((V a).tmod f)) 164 ((V a).tdiv f)) a ((V a).tdiv f))) (by rw [(jvu_at _ _ _)]) rfl
  refine mj_T.eq (pc2 := 39) (st2 := []) ?_ rfl rfl rfl rfl
  exact mj_T.ret rfl rfl rfl ⟨_, _, m8, (jvu_at _ _ _), fun x h1 h2 h3 h4 h5 => ((jvu_ne _ _ _ (by omega)).trans ((jvu_ne _ _ _ (by omega)).trans ((jvu_ne _ _ _ (by omega)).trans ((jvu_ne _ _ _ (by omega)).trans ((jvu_ne _ _ _ (by omega)).trans (rfl : V x = _)))))), rfl⟩
theorem mD_common (m : jM g n V X h) (ka : cK a = 18) (hn : a ≠ 164 ∧ a ≠ 166 ∧ a ≠ 168) {f : Int} (hf : f.natAbs ≤ 9223372036854775807) (hf0 : f ≠ 0) (hm : jnl (V a).natAbs ≤ 239) : mj_Ok (D + 3) 23 [.ref 19, .ref a, .long (jl f)] h (fun r => ∃ V2 h2, jM g n V2 X h2 ∧ qF 164 V V2 ∧ r = (.inl (some (.long (jl (Nat.gcd (V a).natAbs f.natAbs : Nat)))), h2)) := by
  have c1 : cL (164 + 1) = 240 := mK_z.2.2.2.2.2.2.2.1
  have c2 : cL (166 + 1) = 240 := mK_z.2.2.2.2.2.2.2.2.1
  have c3 : cL (168 + 1) = 40 := mK_z.2.2.2.2.2.2.2.2.2.1
  have c4 : cL (170 + 1) = 60 := mK_z.2.2.2.2.2.2.2.2.2.2.1
  have hj3 := jnl_R hf
  have h170 : a ≠ 170 := fun e => by
    rw [e] at ka
    exact absurd (ka.symm.trans cq_d170) (by decide)
  have hfr : jR f := ⟨by omega, by omega⟩
  have hpb : ((V a).tmod f).natAbs < 9223372036854775808 := by
    rw [Int.natAbs_tmod]
    have := Nat.mod_lt (V a).natAbs (show 0 < f.natAbs by omega)
    omega
  have hj4 : jnl ((V a).tmod f).natAbs ≤ 3 := jnl_R (by omega)
  have hg : Nat.gcd ((V a).tmod f).natAbs f.natAbs = Nat.gcd (V a).natAbs f.natAbs := by
    rw [Int.natAbs_tmod, Nat.gcd_comm (V a).natAbs, Nat.gcd_rec f.natAbs]
  refine mj_Ok.of (M := mj_m23) rfl rfl rfl ?_
  refine mj_T.pl rfl rfl rfl rfl ?_
  refine mT_get m 11 cq_d19 (by decide) rfl rfl ?_
  refine mj_T.pl rfl rfl rfl rfl ?_
  refine mj_T.call rfl rfl (Nat.le_of_ble_eq_true rfl) (Nat.le_of_ble_eq_true rfl) (mV_of m 18 cq_d168 (by decide) rfl (by decide) rfl _) rfl (mj_Ok.up (by omega) (mW_setLong (D := 0) (v := f) m cq_d168 hfr (by omega))) (fun v g1 hq => ?_) (fun i g1 hq => ?_)
  rotate_left
  · obtain ⟨_, _, hq⟩ := hq; cases hq
  obtain ⟨_, m2, hq⟩ := hq
  cases hq
  have m2 := m2.to (V' := (jvu V 168 f)) (by rfl) rfl
  refine mj_T.eq (pc2 := 8) (st2 := []) ?_ rfl rfl rfl rfl
  refine mj_T.pl rfl rfl rfl rfl ?_
  refine mT_get m2 11 cq_d19 (by decide) rfl rfl ?_
  refine mj_T.pl rfl rfl rfl rfl ?_
  refine mT_get m2 11 cq_d19 (by decide) rfl rfl ?_
  refine mj_T.call rfl rfl (Nat.le_of_ble_eq_true rfl) (Nat.le_of_ble_eq_true rfl) (mV_of m2 12 cq_d170 (by decide) rfl (by decide) rfl _) rfl (mj_Ok.up (by omega) (mW_prepare (D := 0) m2 cq_d170 cq_d168 (by rw [(jvu_at _ _ _)]; exact (by omega)))) (fun v g3 hq => ?_) (fun i g3 hq => ?_)
  rotate_left
  · obtain ⟨_, _, hq⟩ := hq; cases hq
  obtain ⟨_, m4, hq⟩ := hq
  cases hq
  have m4 := m4.to (V' := (jvu (jvu V 168 f) 170 f)) (by rw [(jvu_at _ _ _)]) rfl
  refine mj_T.eq (pc2 := 19) (st2 := []) ?_ rfl rfl rfl rfl
  refine mj_T.pl rfl rfl rfl rfl ?_
  refine mT_get m4 11 cq_d19 (by decide) rfl rfl ?_
  refine mj_T.pl rfl rfl rfl rfl ?_
  refine mj_T.call rfl rfl (Nat.le_of_ble_eq_true rfl) (Nat.le_of_ble_eq_true rfl) (mV_of m4 18 cq_d166 (by decide) rfl (by decide) rfl _) rfl (mj_Ok.up (by omega) (mW_set (D := 0) m4 cq_d166 ka (by omega) (by rw [((jvu_ne _ _ _ (by omega)).trans ((jvu_ne _ _ _ (by omega)).trans (rfl : V a = _)))]; exact (by omega)))) (fun v g5 hq => ?_) (fun i g5 hq => ?_)
  rotate_left
  · obtain ⟨_, _, hq⟩ := hq; cases hq
  obtain ⟨_, m6, hq⟩ := hq
  cases hq
  have m6 := m6.to (V' := (jvu (jvu (jvu V 168 f) 170 f) 166 (V a))) (by rw [((jvu_ne _ _ _ (by omega)).trans ((jvu_ne _ _ _ (by omega)).trans (rfl : V a = _)))]) rfl
  refine mj_T.eq (pc2 := 27) (st2 := []) ?_ rfl rfl rfl rfl
  refine mj_T.pl rfl rfl rfl rfl ?_
  refine mT_get m6 11 cq_d19 (by decide) rfl rfl ?_
  refine mj_T.pl rfl rfl rfl rfl ?_
  refine mT_get m6 11 cq_d19 (by decide) rfl rfl ?_
  refine mj_T.pl rfl rfl rfl rfl ?_
  refine mT_get m6 11 cq_d19 (by decide) rfl rfl ?_
  refine mj_T.call rfl rfl (Nat.le_of_ble_eq_true rfl) (Nat.le_of_ble_eq_true rfl) (mV_of m6 12 cq_d170 (by decide) rfl (by decide) rfl _) rfl (mj_Ok.up (by omega) (mW_split (D := 0) m6 cq_d170 cq_d166 cq_d164 (by omega) (by rw [(jvu_at _ _ _), ((jvu_ne _ _ _ (by omega)).trans (jvu_at _ _ _))]; exact (jfa_one (by omega))) (by rw [(jvu_at _ _ _), ((jvu_ne _ _ _ (by omega)).trans (jvu_at _ _ _))]; exact (jnl_tdiv (by omega))) (hcc := by rw [((jvu_ne _ _ _ (by omega)).trans (jvu_at _ _ _))]; omega))) (fun v g7 hq => ?_) (fun i g7 hq => ?_)
  rotate_left
  · obtain ⟨_, _, hq⟩ := hq; cases hq
  obtain ⟨_, m8, hq⟩ := hq
  cases hq
  have m8 := m8.to (V' := (jvu (jvu (jvu (jvu (jvu V 168 f) 170 f) 166 (V a)) 166 ((V a).tmod f)) 164 ((V a).tdiv f))) (by rw [(jvu_at _ _ _), ((jvu_ne _ _ _ (by omega)).trans (jvu_at _ _ _))]) rfl
  refine mj_T.eq (pc2 := 42) (st2 := []) ?_ rfl rfl rfl rfl
  refine mj_T.pl rfl rfl rfl rfl ?_
  refine mT_get m8 11 cq_d19 (by decide) rfl rfl ?_
  refine mj_T.call rfl rfl (Nat.le_of_ble_eq_true rfl) (Nat.le_of_ble_eq_true rfl) (mV_of m8 18 cq_d166 (by decide) rfl (by decide) rfl _) rfl (mj_Ok.up (by omega) (mW_low (D := 0) m8 cq_d166 (hcl := by rw [((jvu_ne _ _ _ (by omega)).trans (jvu_at _ _ _))]; omega))) (fun v g9 hq => ?_) (fun i g9 hq => ?_)
  rotate_left
  · cases hq
  cases hq
  rw [((jvu_ne _ _ _ (by omega)).trans (jvu_at _ _ _))]
  refine mj_T.eq (pc2 := 49) (st2 := [.long (jl ((V a).tmod f))]) ?_ rfl rfl rfl rfl
  refine mj_T.pl rfl rfl rfl rfl ?_
  refine mj_T.call rfl rfl (Nat.le_of_ble_eq_true rfl) (Nat.le_of_ble_eq_true rfl) rfl rfl (mj_Ok.up (by omega) (mS_common (D := 0) (p := (V a).tmod f) (q := f) hpb (by omega))) (fun v g10 hq => ?_) (fun i g10 hq => ?_)
  rotate_left
  · cases hq
  cases hq
  refine mj_T.eq (pc2 := 53) (st2 := [.long (jl ((Nat.gcd ((V a).tmod f).natAbs f.natAbs : Nat) : Int))]) ?_ rfl rfl rfl rfl
  exact mj_T.ret rfl rfl rfl ⟨_, _, m8, fun x h1 h2 h3 h4 h5 => ((jvu_ne _ _ _ (by omega)).trans ((jvu_ne _ _ _ (by omega)).trans ((jvu_ne _ _ _ (by omega)).trans ((jvu_ne _ _ _ (by omega)).trans ((jvu_ne _ _ _ (by omega)).trans (rfl : V x = _)))))), congrArg (fun t : Nat => ((.inl (some (.long (jl (t : Int)))), _) : mj_R)) hg⟩
end MEN
