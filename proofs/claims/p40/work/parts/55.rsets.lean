/-! The reference: sets. -/
theorem jr_sets_loop {D s x : Nat} {v : Int} {t : Nat → Value} {nw bf : Nat → Int64} {bg0 ov db tx wr : Nat → Int32} (hs : s < 665) (hx : x < 1000000000000000000000000000) (hx2 : x ≤ 9223372036854775808) {Q : mj_R → Prop}
    (hend : ∀ bg : Nat → Int32, bg (s * 702) = bg0 (s * 702) → bg (s * 702 + 1) = jn (jnl x) → (∀ j, j < jnl x → bg (s * 702 + 2 + j) = jn (jlb x j)) → (∀ j, (j < s * 702 ∨ s * 702 + 702 ≤ j) → bg j = bg0 j) → Q (.inl none, jHM t nw bf bg ov db tx wr)) :
    ∀ (d i : Nat) (bg : Nat → Int32), i + d = jnl x → bg (s * 702) = bg0 (s * 702) → (∀ j, j < i → bg (s * 702 + 2 + j) = jn (jlb x j)) → (∀ j, (j < s * 702 ∨ s * 702 + 702 ≤ j) → bg j = bg0 j) →
      mj_T D mj_m181 52 [some (.ref 0), some (.int (jn s)), some (.long (jl v)), none, some (.int (jn (s * 702 : Nat))), some (.int (jn i)), some (.long (jl (-(x / jB ^ i : Nat)))), none] [] (jHM t nw bf bg ov db tx wr) Q := by
  have hnl : jnl x ≤ 3 := jnl_le_lt.mpr (by rw [show jB ^ 3 = 1000000000000000000000000000 from rfl]; exact hx)
  intro d
  induction d with
  | zero =>
    intro i bg hid h1 h2 h3
    have ei : i = jnl x := by omega
    subst ei
    have e0 := jnl_le.mp (Nat.le_refl (jnl x))
    iterate 2 refine mj_T.pl rfl rfl rfl rfl ?_
    refine mj_T.lif (b := 0) rfl rfl ⟨by omega, by omega⟩ ⟨by omega, by omega⟩ (fun hc => ?_) (fun hc => ?_)
    · iterate 3 refine mj_T.pl rfl rfl rfl rfl ?_
      refine mj_T.pl rfl rfl rfl rfl ?_
      refine mj_T.iadd (b := 1) rfl ?_
      rw [show ((s * 702 : Nat) : Int) + 1 = ((s * 702 + 1 : Nat) : Int) by omega]
      refine mj_T.pl rfl rfl rfl rfl ?_
      refine mj_T.iast rfl rfl ⟨by omega, by omega⟩ ⟨by omega, by omega⟩ ?_
      refine mj_T.ret rfl rfl rfl (hend (upd bg (s * 702 + 1) (jn (jnl x))) ?_ ?_ (fun j hj => ?_) (fun j hj => ?_))
      · unfold upd; rw [if_neg (by omega)]; exact h1
      · unfold upd; rw [if_pos rfl]
      · unfold upd; rw [if_neg (by omega)]; exact h2 j hj
      · unfold upd; rw [if_neg (by omega)]; exact h3 j hj
    · simp only [jc, decide_eq_false_iff_not] at hc; omega
  | succ d ih =>
    intro i bg hid h1 h2 h3
    have hne := jnl_lt.mp (show i < jnl x by omega)
    have hle := Nat.div_le_self x (jB ^ i)
    have hlt := jlb_lt x i
    have hlim : x / jB ^ i % 1000000000 = jlb x i := rfl
    have hdiv : x / jB ^ i / 1000000000 = x / jB ^ (i + 1) := by rw [Nat.div_div_eq_div_mul, Nat.pow_succ]
    generalize hy : x / jB ^ i = y at *
    iterate 2 refine mj_T.pl rfl rfl rfl rfl ?_
    refine mj_T.lif (b := 0) rfl rfl ⟨by omega, by omega⟩ ⟨by omega, by omega⟩ (fun hc => ?_) (fun hc => ?_)
    · simp only [jc, decide_eq_true_eq] at hc; omega
    · iterate 4 refine mj_T.pl rfl rfl rfl rfl ?_
      refine mj_T.iadd (b := 2) rfl ?_
      refine mj_T.pl rfl rfl rfl rfl ?_
      refine mj_T.iadd rfl ?_
      rw [show ((s * 702 : Nat) : Int) + 2 + (i : Int) = ((s * 702 + 2 + i : Nat) : Int) by omega]
      iterate 2 refine mj_T.pl rfl rfl rfl rfl ?_
      refine mj_T.lrem (b := 1000000000) rfl ⟨by omega, by omega⟩ ⟨by omega, by omega⟩ (by omega) ?_
      refine mj_T.lneg rfl ?_
      rw [show -(-((y : Nat) : Int)).tmod 1000000000 = ((jlb x i : Nat) : Int) by rw [Int.neg_tmod, Int.neg_neg, ← hlim]; rfl]
      refine mj_T.l2i rfl ?_
      refine mj_T.iast rfl rfl ⟨by omega, by omega⟩ ⟨by omega, by omega⟩ ?_
      refine mj_T.iinc (a := i) rfl rfl ?_
      iterate 2 refine mj_T.pl rfl rfl rfl rfl ?_
      refine mj_T.ldiv (b := 1000000000) rfl ⟨by omega, by omega⟩ ⟨by omega, by omega⟩ (by omega) ?_
      rw [show (-((y : Nat) : Int)).tdiv 1000000000 = -((x / jB ^ (i + 1) : Nat) : Int) by rw [Int.neg_tdiv, ← hdiv]; rfl]
      iterate 2 refine mj_T.pl rfl rfl rfl rfl ?_
      refine ih (i + 1) (upd bg (s * 702 + 2 + i) (jn (jlb x i))) (by omega) ?_ (fun j hj => ?_) (fun j hj => ?_)
      · unfold upd; rw [if_neg (by omega)]; exact h1
      · unfold upd
        by_cases h : j = i
        · subst h; rw [if_pos rfl]
        · rw [if_neg (by omega)]; exact h2 j (by omega)
      · unfold upd; rw [if_neg (by omega)]; exact h3 j hj
theorem jr_sets {D s : Nat} {v : Int} {t : Nat → Value} {nw bf : Nat → Int64} {bg ov db tx wr : Nat → Int32} (hs : s < 665) (hv : jR v) :
    mj_Ok (D + 1) 181 [.ref 0, .int (jn s), .long (jl v)] (jHM t nw bf bg ov db tx wr) (fun r => ∃ bg' : Nat → Int32, jrs bg' s v ∧ jrf bg bg' s ∧ r = (.inl none, jHM t nw bf bg' ov db tx wr)) := by
  have hx2 : v.natAbs ≤ 9223372036854775808 := by have := hv.1; have := hv.2; omega
  have hnl : jnl v.natAbs ≤ 3 := jnl_le_lt.mpr (by rw [show jB ^ 3 = 1000000000000000000000000000 from rfl]; omega)
  refine mj_Ok.of (M := mj_m181) rfl rfl rfl ?_
  iterate 2 refine mj_T.pl rfl rfl rfl rfl ?_
  refine mj_T.imul (b := 702) rfl ?_
  rw [show (s : Int) * 702 = ((s * 702 : Nat) : Int) by omega]
  have k50 : ∀ (w : Int) (bg1 : Nat → Int32), w = -((v.natAbs : Nat) : Int) → bg1 = upd bg (s * 702) (jn (jsg v)) → mj_T D mj_m181 50 [some (.ref 0), some (.int (jn s)), some (.long (jl v)), none, some (.int (jn (s * 702 : Nat))), some (.int (jn 0)), none, none] [.long (jl w)] (jHM t nw bf bg1 ov db tx wr)
      (fun r => ∃ bg' : Nat → Int32, jrs bg' s v ∧ jrf bg bg' s ∧ r = (.inl none, jHM t nw bf bg' ov db tx wr)) := by
    intro w bg1 hw hb
    subst hw
    subst hb
    refine mj_T.pl rfl rfl rfl rfl ?_
    refine mj_T.eq (jr_sets_loop (x := v.natAbs) (v := v) (bg0 := upd bg (s * 702) (jn (jsg v))) hs (by omega) hx2 (fun bg' h1 h2 h3 h4 => ⟨bg', ⟨?_, h2, h3, by omega⟩, fun j hj => ?_, rfl⟩) (jnl v.natAbs) 0 _ (by omega) rfl (fun j hj => by omega) (fun j _ => rfl)) rfl ?_ rfl rfl
    · rw [Nat.pow_zero, Nat.div_one]; rfl
    · rw [h1]; exact if_pos rfl
    · rw [h4 j hj]; exact if_neg (by omega)
  have k34 : ∀ z : Int, z = jsg v → mj_T D mj_m181 34 [some (.ref 0), some (.int (jn s)), some (.long (jl v)), none, some (.int (jn (s * 702 : Nat))), none, none, none] [.int (jn z), .int (jn (s * 702 : Nat)), .ref 3] (jHM t nw bf bg ov db tx wr)
      (fun r => ∃ bg' : Nat → Int32, jrs bg' s v ∧ jrf bg bg' s ∧ r = (.inl none, jHM t nw bf bg' ov db tx wr)) := by
    intro z hz
    subst hz
    refine mj_T.iast rfl rfl ⟨by omega, by omega⟩ ⟨by omega, by omega⟩ ?_
    iterate 4 refine mj_T.pl rfl rfl rfl rfl ?_
    refine mj_T.lif (b := 0) rfl rfl hv ⟨by omega, by omega⟩ (fun hc => ?_) (fun hc => ?_)
    · simp only [jc, decide_eq_true_eq] at hc
      refine mj_T.pl rfl rfl rfl rfl ?_
      exact k50 v _ (by omega) rfl
    · simp only [jc, decide_eq_false_iff_not] at hc
      refine mj_T.pl rfl rfl rfl rfl ?_
      refine mj_T.lneg rfl ?_
      refine mj_T.pl rfl rfl rfl rfl ?_
      exact k50 (-v) _ (by omega) rfl
  iterate 6 refine mj_T.pl rfl rfl rfl rfl ?_
  refine mj_T.lif (b := 0) rfl rfl hv ⟨by omega, by omega⟩ (fun hc => ?_) (fun hc => ?_)
  · simp only [jc, decide_eq_true_eq] at hc
    iterate 2 refine mj_T.pl rfl rfl rfl rfl ?_
    refine mj_T.lif (b := 0) rfl rfl hv ⟨by omega, by omega⟩ (fun hc2 => ?_) (fun hc2 => ?_)
    · simp only [jc, decide_eq_true_eq] at hc2
      refine mj_T.pl rfl rfl rfl rfl ?_
      exact k34 0 (by unfold jsg; rw [if_neg (by omega), if_neg (by omega)])
    · simp only [jc, decide_eq_false_iff_not] at hc2
      iterate 2 refine mj_T.pl rfl rfl rfl rfl ?_
      exact k34 (-1) (jsg_neg (by omega)).symm
  · simp only [jc, decide_eq_false_iff_not] at hc
    iterate 2 refine mj_T.pl rfl rfl rfl rfl ?_
    exact k34 1 (jsg_pos (by omega)).symm
