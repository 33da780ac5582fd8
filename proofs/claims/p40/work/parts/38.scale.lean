/-! Times and by a small number. -/
def jsc (x f i : Nat) : Nat := x % jB ^ i * f / jB ^ i
theorem jsc_zero (x f : Nat) : jsc x f 0 = 0 := by simp [jsc, Nat.mod_one]
theorem jsc_lt {x f i : Nat} (hf : 0 < f) : jsc x f i < f := by
  unfold jsc
  rw [Nat.div_lt_iff_lt_mul (jB_pow i), Nat.mul_comm f]
  exact Nat.mul_lt_mul_of_pos_right (Nat.mod_lt _ (jB_pow i)) hf
theorem jsc_div (x f i : Nat) : x * f / jB ^ i = x / jB ^ i * f + jsc x f i := by
  unfold jsc
  have h := jB_pow i
  have e : x * f = x % jB ^ i * f + jB ^ i * (x / jB ^ i * f) := by
    conv => lhs; rw [← Nat.div_add_mod x (jB ^ i)]
    rw [Nat.add_mul, Nat.mul_assoc, Nat.add_comm]
  conv => lhs; rw [e]
  rw [Nat.add_mul_div_left _ _ h, Nat.add_comm]
theorem jsc_limb (x f i : Nat) : jlb (x * f) i = (jlb x i * f + jsc x f i) % jB := by
  unfold jlb
  rw [jsc_div]
  generalize x / jB ^ i = a
  conv => lhs; rw [← Nat.div_add_mod a jB]
  rw [Nat.add_mul, Nat.mul_assoc, Nat.add_assoc, Nat.add_comm (jB * _), Nat.add_mul_mod_self_left]
theorem jsc_next (x f i : Nat) : jsc x f (i + 1) = (jlb x i * f + jsc x f i) / jB := by
  unfold jsc
  have h := jB_pow i
  rw [jmod, Nat.pow_succ, ← Nat.div_div_eq_div_mul]
  congr 1
  rw [Nat.add_mul, show jlb x i * jB ^ i * f = jB ^ i * (jlb x i * f) by rw [Nat.mul_comm (jlb x i), Nat.mul_assoc], Nat.add_comm, Nat.add_mul_div_left _ _ h, Nat.add_comm]
theorem jsc_grow {x f i : Nat} (hf : 0 < f) (h : i < jnl x ∨ 0 < jsc x f i) : i < jnl (x * f) := by
  rw [jnl_lt, jsc_div]
  rcases h with h | h
  · exact Nat.ne_of_gt (Nat.lt_of_lt_of_le (Nat.mul_pos (Nat.pos_of_ne_zero (jnl_lt.mp h)) hf) (Nat.le_add_right _ _))
  · exact Nat.ne_of_gt (Nat.lt_of_lt_of_le h (Nat.le_add_left _ _))
theorem jsc_end {x f i : Nat} (h1 : jnl x ≤ i) (h3 : jsc x f i = 0) : jnl (x * f) ≤ i := by
  rw [jnl_le, jsc_div, jnl_le.mp h1, h3, Nat.zero_mul]
/-- the heap of one Wide -/
abbrev jH1 (n : Nat) (s : Int) (g0 : Int32) (g : Nat → Int32) : mj_H := [.inr (8, [.ref 1, .int (jn s), .int g0]), .inl (0, n, fun j => .int (g j))]
theorem jw_scale_loop {D n x f : Nat} {g0 : Int32} {g : Nat → Int32} (hn : n < 2147483648) (hf : 0 < f) (hf2 : f ≤ 1000000000) (hcap : jnl (x * f) ≤ n) (hg : ∀ j, j < jnl x → g j = jn (jlb x j)) {Q : mj_R → Prop}
    (hend : ∀ (gi : Nat → Int32), (∀ j, j < jnl (x * f) → gi j = jn (jlb (x * f) j)) → Q (.inl none, jH1 n (jnl (x * f)) g0 gi)) :
    ∀ (d i : Nat) (gi : Nat → Int32) (l6 l7 : Option Value), i + d = n → i ≤ jnl (x * f) → (∀ j, j < i → gi j = jn (jlb (x * f) j)) → (∀ j, i ≤ j → gi j = g j) →
      mj_T D mj_m96 5 [some (.ref 0), some (.long (jl f)), none, some (.long (jl (jsc x f i))), none, some (.int (jn i)), l6, l7] [] (jH1 n ((max (jnl x) i : Nat) : Int) g0 gi) Q := by
  have hxn : jnl x ≤ jnl (x * f) := jnl_mono (Nat.le_mul_of_pos_right x hf)
  intro d
  induction d with
  | zero =>
    intro i gi l6 l7 hid hil hg1 hg2
    iterate 3 refine mj_T.pl rfl rfl rfl rfl ?_
    refine mj_T.alen rfl rfl ?_
    refine mj_T.icmp rfl ⟨by omega, by omega⟩ ⟨by omega, by omega⟩ (fun hc12 => ?_) (fun hc12 => ?_)
    · have e : i = jnl (x * f) := by omega
      subst e
      rw [show max (jnl x) (jnl (x * f)) = jnl (x * f) by omega]
      exact mj_T.ret rfl rfl rfl (hend gi hg1)
    · simp only [jc, decide_eq_false_iff_not] at hc12; omega
  | succ d ih =>
    intro i gi l6 l7 hid hil hg1 hg2
    have hcf := jsc_lt (x := x) (i := i) hf
    have hlim := jsc_limb x f i
    have hnx := jsc_next x f i
    have hx1 := jlb_lt x i
    iterate 3 refine mj_T.pl rfl rfl rfl rfl ?_
    refine mj_T.alen rfl rfl ?_
    refine mj_T.icmp rfl ⟨by omega, by omega⟩ ⟨by omega, by omega⟩ (fun hc12 => ?_) (fun hc12 => ?_)
    · simp only [jc, decide_eq_true_eq] at hc12; omega
    clear hc12
    have key : (i < jnl x ∨ 0 < jsc x f i) → mj_T D mj_m96 30 [some (.ref 0), some (.long (jl f)), none, some (.long (jl (jsc x f i))), none, some (.int (jn i)), l6, l7] [] (jH1 n ((max (jnl x) i : Nat) : Int) g0 gi) Q := by
      intro hgo
      have hnl := jsc_grow hf hgo
      have hpb : jlb x i * f ≤ 999999999 * 1000000000 := Nat.mul_le_mul (by omega) hf2
      have t4 : ∀ (gi' : Nat → Int32) (v l6' l7' : Option Value), v = some (.int (jn ((max (jnl x) (i + 1) : Nat) : Int))) → gi' = upd gi i (jn (jlb (x * f) i)) → mj_T D mj_m96 99 [some (.ref 0), some (.long (jl f)), none, some (.long (jl (jsc x f (i + 1)))), none, some (.int (jn i)), l6', l7'] (v.toList ++ [.ref 0]) (jH1 n ((max (jnl x) i : Nat) : Int) g0 gi') Q := by
        intro gi' v l6' l7' hv hgi
        subst hv
        subst hgi
        refine mj_T.pl rfl rfl rfl rfl ?_
        refine mj_T.iinc (a := i) rfl rfl ?_
        refine mj_T.pl rfl rfl rfl rfl ?_
        refine ih (i + 1) (upd gi i (jn (jlb (x * f) i))) l6' l7' (by omega) (by omega) (fun j hj => ?_) (fun j hj => ?_)
        · unfold upd
          split
          · rename_i h; rw [h]
          · exact hg1 j (by omega)
        · unfold upd
          rw [if_neg (by omega)]
          exact hg2 j (by omega)
      have t3 : ∀ p : Int, p = (jlb x i * f : Nat) → mj_T D mj_m96 53 [some (.ref 0), some (.long (jl f)), none, some (.long (jl (jsc x f i))), none, some (.int (jn i)), l6, l7] [.long (jl p)] (jH1 n ((max (jnl x) i : Nat) : Int) g0 gi) Q := by
        intro p hp
        subst hp
        refine mj_T.pl rfl rfl rfl rfl ?_
        refine mj_T.ladd rfl ?_
        rw [show ((jlb x i * f : Nat) : Int) + ((jsc x f i : Nat) : Int) = ((jlb x i * f + jsc x f i : Nat) : Int) by omega]
        iterate 6 refine mj_T.pl rfl rfl rfl rfl ?_
        refine mj_T.lrem (b := 1000000000) rfl ⟨by omega, by omega⟩ ⟨by omega, by omega⟩ (by omega) ?_
        rw [show ((jlb x i * f + jsc x f i : Nat) : Int).tmod 1000000000 = ((jlb (x * f) i : Nat) : Int) by rw [hlim]; rfl]
        refine mj_T.l2i rfl ?_
        refine mj_T.iast rfl rfl ⟨by omega, by omega⟩ ⟨by omega, by omega⟩ ?_
        iterate 2 refine mj_T.pl rfl rfl rfl rfl ?_
        refine mj_T.ldiv (b := 1000000000) rfl ⟨by omega, by omega⟩ ⟨by omega, by omega⟩ (by omega) ?_
        rw [show ((jlb x i * f + jsc x f i : Nat) : Int).tdiv 1000000000 = ((jsc x f (i + 1) : Nat) : Int) by rw [hnx]; rfl]
        iterate 5 refine mj_T.pl rfl rfl rfl rfl ?_
        refine mj_T.icmp rfl ⟨by omega, by omega⟩ ⟨by omega, by omega⟩ (fun hc85 => ?_) (fun hc85 => ?_)
        · simp only [jc, decide_eq_true_eq] at hc85
          iterate 2 refine mj_T.pl rfl rfl rfl rfl ?_
          exact t4 _ (some _) _ _ (by rw [show max (jnl x) (i + 1) = max (jnl x) i by omega]) rfl
        · simp only [jc, decide_eq_false_iff_not] at hc85
          iterate 2 refine mj_T.pl rfl rfl rfl rfl ?_
          refine mj_T.iadd (b := 1) rfl ?_
          refine mj_T.pl rfl rfl rfl rfl ?_
          exact t4 _ (some _) _ _ (by rw [show ((max (jnl x) (i + 1) : Nat) : Int) = (i : Int) + 1 by omega]) rfl
      iterate 3 refine mj_T.pl rfl rfl rfl rfl ?_
      refine mj_T.icmp rfl ⟨by omega, by omega⟩ ⟨by omega, by omega⟩ (fun hc36 => ?_) (fun hc36 => ?_)
      · simp only [jc, decide_eq_true_eq] at hc36
        refine mj_T.pl rfl rfl rfl rfl ?_
        exact t3 0 (by rw [jlb_high (show jnl x ≤ i by omega), Nat.zero_mul]; rfl)
      · simp only [jc, decide_eq_false_iff_not] at hc36
        iterate 3 refine mj_T.pl rfl rfl rfl rfl ?_
        by_cases hix : i < jnl x
        · refine mj_T.ialv rfl rfl ⟨by omega, by omega⟩ ⟨by omega, by omega⟩ ((hg2 i (Nat.le_refl i)).trans (hg i hix)) ?_
          refine mj_T.i2l rfl ⟨by omega, by omega⟩ ?_
          refine mj_T.pl rfl rfl rfl rfl ?_
          refine mj_T.lmul rfl ?_
          refine mj_T.pl rfl rfl rfl rfl ?_
          exact t3 _ (by rw [Int.natCast_mul])
        · omega
    iterate 3 refine mj_T.pl rfl rfl rfl rfl ?_
    refine mj_T.icmp rfl ⟨by omega, by omega⟩ ⟨by omega, by omega⟩ (fun hc21 => ?_) (fun hc21 => ?_)
    · simp only [jc, decide_eq_true_eq] at hc21
      exact key (by omega)
    · simp only [jc, decide_eq_false_iff_not] at hc21
      iterate 2 refine mj_T.pl rfl rfl rfl rfl ?_
      refine mj_T.lif (b := 0) rfl rfl ⟨by omega, by omega⟩ ⟨by omega, by omega⟩ (fun hc26 => ?_) (fun hc26 => ?_)
      · simp only [jc, decide_eq_true_eq] at hc26
        have e : i = jnl (x * f) := by have := jsc_end (x := x) (f := f) (i := i) (by omega) (by omega); omega
        subst e
        rw [show max (jnl x) (jnl (x * f)) = jnl (x * f) by omega]
        exact mj_T.ret rfl rfl rfl (hend gi hg1)
      · simp only [jc, decide_eq_false_iff_not] at hc26
        exact key (by omega)
theorem jw_scale {D n x f : Nat} {g0 : Int32} {g : Nat → Int32} (hn : n < 2147483648) (hf : 0 < f) (hf2 : f ≤ 1000000000) (hcap : jnl (x * f) ≤ n) (hg : ∀ j, j < jnl x → g j = jn (jlb x j)) :
    mj_Ok (D + 1) 96 [.ref 0, .long (jl f)] (jH1 n (jnl x) g0 g) (fun r => ∃ g' : Nat → Int32, (∀ j, j < jnl (x * f) → g' j = jn (jlb (x * f) j)) ∧ r = (.inl none, jH1 n (jnl (x * f)) g0 g')) := by
  refine mj_Ok.of (M := mj_m96) rfl rfl rfl ?_
  iterate 4 refine mj_T.pl rfl rfl rfl rfl ?_
  refine mj_T.eq (jw_scale_loop (x := x) (f := f) (g := g) hn hf hf2 hcap hg (fun gi hgi => ⟨gi, hgi, rfl⟩) n 0 g none none (by omega) (Nat.zero_le _) (fun j hj => by omega) (fun j _ => rfl)) rfl ?_ rfl ?_
  · rw [jsc_zero]; rfl
  · rw [Nat.max_eq_left (Nat.zero_le _)]
