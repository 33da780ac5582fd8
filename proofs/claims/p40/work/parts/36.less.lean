/-! Comparing by limbs. -/
theorem jlt_div {x y k : Nat} (h : x / k < y / k) : x < y := Nat.lt_of_not_le fun hle => absurd (Nat.div_le_div_right (c := k) hle) (Nat.not_le.mpr h)
theorem jlt_of {x y i : Nat} (h : x / jB ^ (i + 1) = y / jB ^ (i + 1)) (hl : jlb x i < jlb y i) : x < y := by
  have h1 := jdiv x i
  have h2 := jdiv y i
  rw [h] at h1
  refine jlt_div (k := jB ^ i) ?_
  rw [h1, h2]
  exact Nat.add_lt_add_left hl _
theorem jeq_of {x y i : Nat} (h : x / jB ^ (i + 1) = y / jB ^ (i + 1)) (hl : jlb x i = jlb y i) : x / jB ^ i = y / jB ^ i := by rw [jdiv x i, jdiv y i, h, hl]
theorem jlt_nl {x y : Nat} (h : jnl x < jnl y) : x < y := by
  have h1 := jnl_lt.mp h
  have h2 := jnl_le.mp (Nat.le_refl (jnl x))
  refine jlt_div (k := jB ^ jnl x) ?_
  rw [h2]
  exact Nat.pos_of_ne_zero h1
theorem jw_isLess_loop {D n m x y : Nat} {g0 : Int32} {sg : Int} {g q : Nat → Int32} (hn : n < 2147483648) (hm : m < 2147483648) (hx : jnl x ≤ n) (hy : jnl x ≤ m) (hxy : jnl x = jnl y) (hg : ∀ j, j < jnl x → g j = jn (jlb x j)) (hq : ∀ j, j < jnl y → q j = jn (jlb y j)) {Q : mj_R → Prop}
    (hend : Q (.inl (some (.int (jn (if x < y then 1 else 0)))), jH2 n m (jnl x) (jnl y) g0 sg g q)) :
    ∀ (k : Nat) (v : Int), v = (k : Int) - 1 → k ≤ jnl x → x / jB ^ k = y / jB ^ k →
      mj_T D mj_m92 35 [some (.ref 0), some (.ref 2), some (.int (jn v))] [] (jH2 n m (jnl x) (jnl y) g0 sg g q) Q := by
  intro k
  induction k with
  | zero =>
    intro v hv hk he
    iterate 1 refine mj_T.pl rfl rfl rfl rfl ?_
    refine mj_T.if0 rfl ⟨by omega, by omega⟩ (fun hc36 => ?_) (fun hc36 => ?_)
    · iterate 1 refine mj_T.pl rfl rfl rfl rfl ?_
      rw [Nat.pow_zero, Nat.div_one, Nat.div_one] at he
      rw [if_neg (by omega)] at hend
      exact mj_T.ret rfl rfl rfl hend
    · simp only [jc, decide_eq_false_iff_not] at hc36; omega
  | succ k ih =>
    intro v hv hk he
    have ev : v = k := by omega
    subst ev
    have hx1 := jlb_lt x k
    have hy1 := jlb_lt y k
    refine mj_T.pl rfl rfl rfl rfl ?_
    refine mj_T.if0 rfl ⟨by omega, by omega⟩ (fun hc36 => ?_) (fun hc36 => ?_)
    · simp only [jc, decide_eq_true_eq] at hc36; omega
    · iterate 3 refine mj_T.pl rfl rfl rfl rfl ?_
      refine mj_T.alen rfl rfl ?_
      refine mj_T.icmp rfl ⟨by omega, by omega⟩ ⟨by omega, by omega⟩ (fun hc45 => ?_) (fun hc45 => ?_)
      · simp only [jc, decide_eq_true_eq] at hc45; omega
      · iterate 3 refine mj_T.pl rfl rfl rfl rfl ?_
        refine mj_T.alen rfl rfl ?_
        refine mj_T.icmp rfl ⟨by omega, by omega⟩ ⟨by omega, by omega⟩ (fun hc54 => ?_) (fun hc54 => ?_)
        · simp only [jc, decide_eq_true_eq] at hc54; omega
        · iterate 3 refine mj_T.pl rfl rfl rfl rfl ?_
          refine mj_T.ialv rfl rfl ⟨by omega, by omega⟩ ⟨by omega, by omega⟩ (hg k (by omega)) ?_
          iterate 3 refine mj_T.pl rfl rfl rfl rfl ?_
          refine mj_T.ialv rfl rfl ⟨by omega, by omega⟩ ⟨by omega, by omega⟩ (hq k (by omega)) ?_
          refine mj_T.icmp rfl ⟨by omega, by omega⟩ ⟨by omega, by omega⟩ (fun hc69 => ?_) (fun hc69 => ?_)
          · simp only [jc, decide_eq_true_eq] at hc69
            refine mj_T.iinc (a := k) rfl rfl ?_
            refine mj_T.pl rfl rfl rfl rfl ?_
            exact ih ((k : Int) + -1) (by omega) (by omega) (jeq_of he (by omega))
          · simp only [jc, decide_eq_false_iff_not] at hc69
            iterate 3 refine mj_T.pl rfl rfl rfl rfl ?_
            refine mj_T.ialv rfl rfl ⟨by omega, by omega⟩ ⟨by omega, by omega⟩ (hg k (by omega)) ?_
            iterate 3 refine mj_T.pl rfl rfl rfl rfl ?_
            refine mj_T.ialv rfl rfl ⟨by omega, by omega⟩ ⟨by omega, by omega⟩ (hq k (by omega)) ?_
            refine mj_T.icmp rfl ⟨by omega, by omega⟩ ⟨by omega, by omega⟩ (fun hc84 => ?_) (fun hc84 => ?_)
            · simp only [jc, decide_eq_true_eq] at hc84
              have := jlt_of he.symm (show jlb y k < jlb x k by omega)
              rw [if_neg (by omega)] at hend
              iterate 1 refine mj_T.pl rfl rfl rfl rfl ?_
              exact mj_T.ret rfl rfl rfl hend
            · simp only [jc, decide_eq_false_iff_not] at hc84
              have := jlt_of he (show jlb x k < jlb y k by omega)
              rw [if_pos this] at hend
              iterate 2 refine mj_T.pl rfl rfl rfl rfl ?_
              exact mj_T.ret rfl rfl rfl hend
theorem jw_isLess {D n m x y : Nat} {g0 : Int32} {sg : Int} {g q : Nat → Int32} (hn : n < 2147483648) (hm : m < 2147483648) (hx : jnl x ≤ n) (hy : jnl y ≤ m) (hg : ∀ j, j < jnl x → g j = jn (jlb x j)) (hq : ∀ j, j < jnl y → q j = jn (jlb y j)) :
    mj_Ok (D + 1) 92 [.ref 0, .ref 2] (jH2 n m (jnl x) (jnl y) g0 sg g q) (fun r => r = (.inl (some (.int (jn (if x < y then 1 else 0)))), jH2 n m (jnl x) (jnl y) g0 sg g q)) := by
  refine mj_Ok.of (M := mj_m92) rfl rfl rfl ?_
  iterate 4 refine mj_T.pl rfl rfl rfl rfl ?_
  refine mj_T.icmp rfl ⟨by omega, by omega⟩ ⟨by omega, by omega⟩ (fun hc8 => ?_) (fun hc8 => ?_)
  · simp only [jc, decide_eq_true_eq] at hc8
    iterate 3 refine mj_T.pl rfl rfl rfl rfl ?_
    refine mj_T.isub (b := 1) rfl ?_
    refine mj_T.pl rfl rfl rfl rfl ?_
    have e1 := jnl_le.mp (Nat.le_refl (jnl x))
    have e2 := jnl_le.mp (show jnl y ≤ jnl x by omega)
    exact jw_isLess_loop (x := x) (y := y) (Q := fun r => r = (.inl (some (.int (jn (if x < y then 1 else 0)))), jH2 n m (jnl x) (jnl y) g0 sg g q)) hn hm hx (by omega) (by omega) hg hq rfl (jnl x) _ rfl (Nat.le_refl _) (by rw [e1, e2])
  · simp only [jc, decide_eq_false_iff_not] at hc8
    iterate 4 refine mj_T.pl rfl rfl rfl rfl ?_
    refine mj_T.icmp rfl ⟨by omega, by omega⟩ ⟨by omega, by omega⟩ (fun hc19 => ?_) (fun hc19 => ?_)
    · simp only [jc, decide_eq_true_eq] at hc19
      have := jlt_nl (show jnl y < jnl x by omega)
      rw [if_neg (show ¬ x < y by omega)]
      iterate 1 refine mj_T.pl rfl rfl rfl rfl ?_
      exact mj_T.ret rfl rfl rfl rfl
    · simp only [jc, decide_eq_false_iff_not] at hc19
      have := jlt_nl (show jnl x < jnl y by omega)
      rw [if_pos this]
      iterate 2 refine mj_T.pl rfl rfl rfl rfl ?_
      exact mj_T.ret rfl rfl rfl rfl
