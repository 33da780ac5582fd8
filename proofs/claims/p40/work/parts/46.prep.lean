/-! Divisor: prepare. -/
/-- what a divisor is taken times -/
def jfa (x : Nat) : Nat := if x = 0 then 1 else 1000000000 / (jlb x (jnl x - 1) + 1)
theorem jfa_pos (x : Nat) : 0 < jfa x ∧ jfa x ≤ 1000000000 := by
  unfold jfa
  split
  · omega
  · have := jlb_lt x (jnl x - 1)
    exact ⟨Nat.div_pos (by omega) (by omega), Nat.div_le_self _ _⟩
theorem jfa_lt {x : Nat} : x * jfa x < jB ^ jnl x := by
  by_cases h : x = 0
  · subst h; rw [Nat.zero_mul]; exact jB_pow _
  · have hn : jnl x ≠ 0 := fun q => h (jnl_eq0.mp q)
    obtain ⟨n, hn⟩ : ∃ n, jnl x = n + 1 := ⟨jnl x - 1, by omega⟩
    have e : x / jB ^ n = jlb x n := by
      have h1 := jdiv x n
      rw [← hn, jnl_le.mp (Nat.le_refl (jnl x)), Nat.zero_mul, Nat.zero_add] at h1
      exact h1
    have h2 : x < (jlb x n + 1) * jB ^ n := by rw [← e, Nat.mul_comm]; exact Nat.lt_mul_div_succ x (jB_pow n)
    have h3 : jfa x * (jlb x n + 1) ≤ jB := by
      unfold jfa
      rw [if_neg h, hn, Nat.add_sub_cancel]
      exact Nat.div_mul_le_self _ _
    rw [hn, Nat.pow_succ]
    refine Nat.lt_of_lt_of_le (Nat.mul_lt_mul_of_pos_right h2 (jfa_pos x).1) ?_
    rw [Nat.mul_comm _ (jfa x), ← Nat.mul_assoc, Nat.mul_comm _ jB]
    exact Nat.mul_le_mul_right _ h3
theorem jfa_nl {x : Nat} : jnl (x * jfa x) = jnl x := by
  have h1 := jnl_of (jfa_lt (x := x))
  have h2 := jnl_mono (Nat.le_mul_of_pos_right x (jfa_pos x).1)
  omega
theorem jhalf {t : Nat} (h0 : 0 < t) (h1 : t < 1000000000) : 1000000000 ≤ 2 * (t * (1000000000 / (t + 1))) := by
  have hd := Nat.div_add_mod 1000000000 (t + 1)
  have hm := Nat.mod_lt 1000000000 (show 0 < t + 1 by omega)
  generalize hf : 1000000000 / (t + 1) = f at *
  generalize 1000000000 % (t + 1) = r at *
  have e : (t + 1) * f = t * f + f := Nat.succ_mul t f
  rw [e] at hd
  rcases Nat.lt_or_ge t 2 with h2 | h2
  · have : t = 1 := by omega
    subst this
    omega
  · rcases Nat.lt_or_ge f 3 with h3 | h3
    · have hf0 : f ≠ 0 := fun q => by subst q; simp at hd; omega
      rcases Nat.lt_or_ge f 2 with h4 | h4
      · have : f = 1 := by omega
        subst this
        omega
      · have : f = 2 := by omega
        subst this
        omega
    · -- (f - 2) * (t - 1) is at least 2
      obtain ⟨a, rfl⟩ : ∃ a, f = a + 2 := ⟨f - 2, by omega⟩
      obtain ⟨b, rfl⟩ : ∃ b, t = b + 1 := ⟨t - 1, by omega⟩
      have e1 : (b + 1) * (a + 2) = b * a + a + 2 * b + 2 := by
        rw [Nat.add_mul, Nat.mul_add]
        omega
      have h5 : b * a ≥ 2 := by
        rcases Nat.lt_or_ge a 2 with h6 | h6
        · have : a = 1 := by omega
          subst this
          omega
        · exact Nat.le_trans h6 (Nat.le_mul_of_pos_left a (by omega))
      rw [e1] at hd ⊢
      omega
theorem jfa_norm {x : Nat} (h : 0 < x) : 1000000000 ≤ 2 * jlb (x * jfa x) (jnl x - 1) := by
  have hn : jnl x ≠ 0 := fun q => by have := jnl_eq0.mp q; omega
  obtain ⟨n, hn⟩ : ∃ n, jnl x = n + 1 := ⟨jnl x - 1, by omega⟩
  have ht := jlb_top hn.symm
  have hl := jhalf (Nat.pos_of_ne_zero ht) (jlb_lt x n)
  have e : x / jB ^ n = jlb x n := by
    have h1 := jdiv x n
    rw [← hn, jnl_le.mp (Nat.le_refl (jnl x)), Nat.zero_mul, Nat.zero_add] at h1
    exact h1
  have e2 : x * jfa x / jB ^ n = jlb (x * jfa x) n := by
    have h1 := jdiv (x * jfa x) n
    rw [← hn, ← jfa_nl, jnl_le.mp (Nat.le_refl (jnl (x * jfa x))), Nat.zero_mul, Nat.zero_add] at h1
    exact h1
  have h3 : jlb x n * jfa x ≤ x * jfa x / jB ^ n := by rw [jsc_div, e]; exact Nat.le_add_right _ _
  have h4 : jfa x = 1000000000 / (jlb x n + 1) := by
    unfold jfa
    rw [if_neg (by omega), hn, Nat.add_sub_cancel]
  rw [hn, Nat.add_sub_cancel, ← e2]
  rw [← h4] at hl
  omega
theorem jw_prep_loop {D nd m x f : Nat} {sv s2 : Int} {gy : Nat → Int32} (hnd : nd ≤ 1000) (hm : m ≤ 1000) (hxd : jnl x ≤ nd) (hxm : jnl x ≤ m) (hf : 0 < f) (hf2 : f ≤ 1000000000) (hgy : ∀ j, j < jnl x → gy j = jn (jlb x j)) {Q : mj_R → Prop}
    (hend : ∀ gi : Nat → Int32, (∀ j, j < jnl x → gi j = jn (jlb (x * f) j)) → Q (.inl none, jHD nd m (jnl x) sv f (jnl x) s2 gi gy)) :
    ∀ (d i : Nat) (gi : Nat → Int32) (l6 : Option Value), i + d = jnl x → (∀ j, j < i → gi j = jn (jlb (x * f) j)) →
      mj_T D mj_m30 80 [some (.ref 0), some (.ref 2), some (.ref 3), some (.long (jl (jsc x f i))), none, some (.int (jn i)), l6, none] [] (jHD nd m (jnl x) sv f (jnl x) s2 gi gy) Q := by
  intro d
  induction d with
  | zero =>
    intro i gi l6 hid hg1
    have ei : i = jnl x := by omega
    subst ei
    iterate 3 refine mj_T.pl rfl rfl rfl rfl ?_
    refine mj_T.icmp rfl ⟨by omega, by omega⟩ ⟨by omega, by omega⟩ (fun hc86 => ?_) (fun hc86 => ?_)
    · exact mj_T.ret rfl rfl rfl (hend gi hg1)
    · simp only [jc, decide_eq_false_iff_not] at hc86; omega
  | succ d ih =>
    intro i gi l6 hid hg1
    have hcf := jsc_lt (x := x) (i := i) hf
    have hlim : jlb (x * f) i = (jlb x i * f + jsc x f i) % 1000000000 := jsc_limb x f i
    have hnx : jsc x f (i + 1) = (jlb x i * f + jsc x f i) / 1000000000 := jsc_next x f i
    have hx1 := jlb_lt x i
    have hpb : jlb x i * f ≤ 999999999 * 1000000000 := Nat.mul_le_mul (by omega) hf2
    iterate 3 refine mj_T.pl rfl rfl rfl rfl ?_
    refine mj_T.icmp rfl ⟨by omega, by omega⟩ ⟨by omega, by omega⟩ (fun hc86 => ?_) (fun hc86 => ?_)
    · simp only [jc, decide_eq_true_eq] at hc86; omega
    clear hc86
    iterate 2 refine mj_T.pl rfl rfl rfl rfl ?_
    refine mj_T.ialv rfl rfl ⟨by omega, by omega⟩ ⟨by omega, by omega⟩ (hgy i (by omega)) ?_
    refine mj_T.i2l rfl ⟨by omega, by omega⟩ ?_
    iterate 2 refine mj_T.pl rfl rfl rfl rfl ?_
    refine mj_T.lmul rfl ?_
    refine mj_T.pl rfl rfl rfl rfl ?_
    refine mj_T.ladd rfl ?_
    rw [show ((jlb x i : Nat) : Int) * (f : Int) + ((jsc x f i : Nat) : Int) = ((jlb x i * f + jsc x f i : Nat) : Int) by rw [Int.natCast_add, Int.natCast_mul]]
    iterate 6 refine mj_T.pl rfl rfl rfl rfl ?_
    refine mj_T.lrem (b := 1000000000) rfl ⟨by omega, by omega⟩ ⟨by omega, by omega⟩ (by omega) ?_
    rw [show ((jlb x i * f + jsc x f i : Nat) : Int).tmod 1000000000 = ((jlb (x * f) i : Nat) : Int) by rw [hlim]; rfl]
    refine mj_T.l2i rfl ?_
    refine mj_T.iast rfl rfl ⟨by omega, by omega⟩ ⟨by omega, by omega⟩ ?_
    iterate 2 refine mj_T.pl rfl rfl rfl rfl ?_
    refine mj_T.ldiv (b := 1000000000) rfl ⟨by omega, by omega⟩ ⟨by omega, by omega⟩ (by omega) ?_
    rw [show ((jlb x i * f + jsc x f i : Nat) : Int).tdiv 1000000000 = ((jsc x f (i + 1) : Nat) : Int) by rw [hnx]; rfl]
    refine mj_T.pl rfl rfl rfl rfl ?_
    refine mj_T.iinc (a := i) rfl rfl ?_
    refine mj_T.pl rfl rfl rfl rfl ?_
    refine ih (i + 1) (upd gi i (jn (jlb (x * f) i))) _ (by omega) (fun j hj => ?_)
    unfold upd
    split
    · rename_i h; rw [h]
    · exact hg1 j (by omega)
theorem jw_prepare {D nd m x : Nat} {s0 : Int32} {sv0 : Int32} {fac0 : Int64} {s2 : Int} {gv gy : Nat → Int32} (hnd : nd ≤ 1000) (hm : m ≤ 1000) (hxd : jnl x ≤ nd) (hxm : jnl x ≤ m) (hgy : ∀ j, j < jnl x → gy j = jn (jlb x j)) :
    mj_Ok (D + 1) 30 [.ref 0, .ref 2] [.inr (2, [.ref 1, .int s0, .int sv0, .long fac0]), .inl (0, nd, fun j => .int (gv j)), .inr (8, [.ref 3, .int (jn (jnl x)), .int (jn s2)]), .inl (0, m, fun j => .int (gy j))]
      (fun r => ∃ gi : Nat → Int32, (∀ j, j < jnl x → gi j = jn (jlb (x * jfa x) j)) ∧ r = (.inl none, jHD nd m (jnl x) s2 (jfa x) (jnl x) s2 gi gy)) := by
  have hfa := jfa_pos x
  refine mj_Ok.of (M := mj_m30) rfl rfl rfl ?_
  iterate 8 refine mj_T.pl rfl rfl rfl rfl ?_
  refine mj_T.alen rfl rfl ?_
  refine mj_T.pl rfl rfl rfl rfl ?_
  refine mj_T.alen rfl rfl ?_
  refine mj_T.imin rfl rfl (Nat.le_of_ble_eq_true rfl) ⟨by omega, by omega⟩ ⟨by omega, by omega⟩ ?_
  refine mj_T.imin rfl rfl (Nat.le_of_ble_eq_true rfl) ⟨by omega, by omega⟩ ⟨by omega, by omega⟩ ?_
  rw [show min (jnl x : Int) (min (nd : Int) (m : Int)) = (jnl x : Nat) by omega]
  have fin : mj_T D mj_m30 72 [some (.ref 0), some (.ref 2), some (.ref 3), none, none, none, none, none] [.long (jl (jfa x)), .ref 0] [.inr (2, [.ref 1, .int (jn (jnl x)), .int (jn s2), .long fac0]), .inl (0, nd, fun j => .int (gv j)), .inr (8, [.ref 3, .int (jn (jnl x)), .int (jn s2)]), .inl (0, m, fun j => .int (gy j))]
      (fun r => ∃ gi : Nat → Int32, (∀ j, j < jnl x → gi j = jn (jlb (x * jfa x) j)) ∧ r = (.inl none, jHD nd m (jnl x) s2 (jfa x) (jnl x) s2 gi gy)) := by
    iterate 5 refine mj_T.pl rfl rfl rfl rfl ?_
    refine mj_T.eq (jw_prep_loop (x := x) (f := jfa x) (sv := s2) (s2 := s2) (gy := gy) hnd hm hxd hxm hfa.1 hfa.2 hgy (fun gi h => ⟨gi, h, rfl⟩) (jnl x) 0 gv none (by omega) (fun j hj => by omega)) rfl ?_ rfl rfl
    rw [jsc_zero]
    rfl
  iterate 8 refine mj_T.pl rfl rfl rfl rfl ?_
  refine mj_T.if0 rfl ⟨by omega, by omega⟩ (fun hc39 => ?_) (fun hc39 => ?_)
  · simp only [jc, decide_eq_true_eq] at hc39
    have h0 : x = 0 := jnl_eq0.mp (by omega)
    refine mj_T.pl rfl rfl rfl rfl ?_
    refine mj_T.eq fin rfl rfl ?_ rfl
    rw [show jfa x = 1 by unfold jfa; rw [if_pos h0]]
    rfl
  · simp only [jc, decide_eq_false_iff_not] at hc39
    have h0 : x ≠ 0 := fun q => by rw [q, jnl_zero] at hc39; omega
    have ht := jlb_lt x (jnl x - 1)
    have hgt := hgy (jnl x - 1) (by omega)
    have ht0 : jlb x (jnl x - 1) ≠ 0 := jlb_top (by omega)
    iterate 4 refine mj_T.pl rfl rfl rfl rfl ?_
    refine mj_T.isub (b := 1) rfl ?_
    rw [show (jnl x : Int) - 1 = ((jnl x - 1 : Nat) : Int) by omega]
    refine mj_T.ialv rfl rfl ⟨by omega, by omega⟩ ⟨by omega, by omega⟩ hgt ?_
    refine mj_T.if0 rfl ⟨by omega, by omega⟩ (fun hc50 => ?_) (fun hc50 => ?_)
    · simp only [jc, decide_eq_true_eq] at hc50; omega
    iterate 5 refine mj_T.pl rfl rfl rfl rfl ?_
    refine mj_T.isub (b := 1) rfl ?_
    rw [show (jnl x : Int) - 1 = ((jnl x - 1 : Nat) : Int) by omega]
    refine mj_T.ialv rfl rfl ⟨by omega, by omega⟩ ⟨by omega, by omega⟩ hgt ?_
    refine mj_T.i2l rfl ⟨by omega, by omega⟩ ?_
    refine mj_T.pl rfl rfl rfl rfl ?_
    refine mj_T.ladd (b := 1) rfl ?_
    refine mj_T.ldiv (a := 1000000000) rfl ⟨by omega, by omega⟩ ⟨by omega, by omega⟩ (by omega) ?_
    refine mj_T.pl rfl rfl rfl rfl ?_
    refine mj_T.eq fin rfl rfl ?_ rfl
    rw [show ((jfa x : Nat) : Int) = (1000000000 : Int).tdiv (((jlb x (jnl x - 1) : Nat) : Int) + 1) by unfold jfa; rw [if_neg h0]; rfl]
