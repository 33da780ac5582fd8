/-! The reference: sets. -/
theorem jr_sets_loop {D s x : Nat} {v : Int} {t : Nat → Value} {nw bf : Nat → Int64} {bg0 ov db tx wr : Nat → Int32} (hs : s < 665) (hx : x < 1000000000000000000000000000) (hx2 : x ≤ 9223372036854775808) {Q : mj_R → Prop}
    (hend : ∀ bg : Nat → Int32, bg (s * 702) = bg0 (s * 702) → bg (s * 702 + 1) = jn (jnl x) → (∀ j, j < jnl x → bg (s * 702 + 2 + j) = jn (jlb x j)) → (∀ j, (j < s * 702 ∨ s * 702 + 702 ≤ j) → bg j = bg0 j) → Q (.inl none, jHM t nw bf bg ov db tx wr)) :
    ∀ (d i : Nat) (bg : Nat → Int32), i + d = jnl x → bg (s * 702) = bg0 (s * 702) → (∀ j, j < i → bg (s * 702 + 2 + j) = jn (jlb x j)) → (∀ j, (j < s * 702 ∨ s * 702 + 702 ≤ j) → bg j = bg0 j) →
      mj_T D mj_m181 52 [some (.ref 0), some (.int (jn s)), some (.long (jl v)), none, some (.int (jn (s * 702 : Nat))), some (.int (jn i)), some (.long (jl (-(x / jB ^ i : Nat)))), none] [] (jHM t nw bf bg ov db tx wr) Q := by
  have hnl : jnl x ≤ 3 := jnl_le_lt.mpr (by rw [show jB ^ 3 = 1000000000000000000000000000 from rfl]; exact hx)
  intro d
  induction d with
  | zero =>
    intro i bg hid h1 h2 h3
    have ei : i = jnl x := by omega
    subst ei
    have e0 := jnl_le.mp (Nat.le_refl (jnl x))
    iterate 2 refine mj_T.pl rfl rfl rfl rfl ?_
    refine mj_T.lif (b := 0) rfl rfl ⟨by omega, by omega⟩ ⟨by omega, by omega⟩ (fun hc => ?_) (fun hc => ?_)
    · iterate 3 refine mj_T.pl rfl rfl rfl rfl ?_
      refine mj_T.pl rfl rfl rfl rfl ?_
      refine mj_T.iadd (b := 1) rfl ?_
      rw [show ((s * 702 : Nat) : Int) + 1 = ((s * 702 + 1 : Nat) : Int) by omega]
      refine mj_T.pl rfl rfl rfl rfl ?_
      refine mj_T.iast rfl rfl ⟨by omega, by omega⟩ ⟨by omega, by omega⟩ ?_
      refine mj_T.ret rfl rfl rfl (hend (upd bg (s * 702 + 1) (jn (jnl x))) ?_ ?_ (fun j hj => ?_) (fun j hj => ?_))
      · unfold upd; rw [if_neg (by omega)]; exact h1
      · unfold upd; rw [if_pos rfl]
      · unfold upd; rw [if_neg (by omega)]; exact h2 j hj
      · unfold upd; rw [if_neg (by omega)]; exact h3 j hj
    · simp only [jc, decide_eq_false_iff_not] at hc; omega
  | succ d ih =>
    intro i bg hid h1 h2 h3
    have hne := jnl_lt.mp (show i < jnl x by omega)
    have hle := Nat.div_le_self x (jB ^ i)
    have hlt := jlb_lt x i
    have hlim : x / jB ^ i % 1000000000 = jlb x i := rfl
    have hdiv : x / jB ^ i / 1000000000 = x / jB ^ (i + 1) := by rw [Nat.div_div_eq_div_mul, Nat.pow_succ]
    generalize hy : x / jB ^ i = y at *
    iterate 2 refine mj_T.pl rfl rfl rfl rfl ?_
    refine mj_T.lif (b := 0) rfl rfl ⟨by omega, by omega⟩ ⟨by omega, by omega⟩ (fun hc => ?_) (fun hc => ?_)
    · simp only [jc, decide_eq_true_eq] at hc; omega
    · iterate 4 refine mj_T.pl rfl rfl rfl rfl ?_
      refine mj_T.iadd (b := 2) rfl ?_
      refine mj_T.pl rfl rfl rfl rfl ?_
      refine mj_T.iadd rfl ?_
      rw [show ((s * 702 : Nat) : Int) + 2 + (i : Int) = ((s * 702 + 2 + i : Nat) : Int) by omega]
      iterate 2 refine mj_T.pl rfl rfl rfl rfl ?_
      refine mj_T.lrem (b := 1000000000) rfl ⟨by omega, by omega⟩ ⟨by omega, by omega⟩ (by omega) ?_
      refine mj_T.lneg rfl ?_
      rw [show -(-((y : Nat) : Int)).tmod 1000000000 = ((jlb x i : Nat) : Int) by rw [Int.neg_tmod, Int.neg_neg, ← hlim]; rfl]
      refine mj_T.l2i rfl ?_
      refine mj_T.iast rfl rfl ⟨by omega, by omega⟩ ⟨by omega, by omega⟩ ?_
      refine mj_T.iinc (a := i) rfl rfl ?_
      iterate 2 refine mj_T.pl rfl rfl rfl rfl ?_
      refine mj_T.ldiv (b := 1000000000) rfl ⟨by omega, by omega⟩ ⟨by omega, by omega⟩ (by omega) ?_
      rw [show (-((y : Nat) : Int)).tdiv 1000000000 = -((x / jB ^ (i + 1) : Nat) : Int) by rw [Int.neg_tdiv, ← hdiv]; rfl]
      iterate 2 refine mj_T.pl rfl rfl rfl rfl ?_
      refine ih (i + 1) (upd bg (s * 702 + 2 + i) (jn (jlb x i))) (by omega) ?_ (fun j hj => ?_) (fun j hj => ?_)
      · unfold upd; rw [if_neg (by omega)]; exact h1
      · unfold upd
        by_cases h : j = i
        · subst h; rw [if_pos rfl]
        · rw [if_neg (by omega)]; exact h2 j (by omega)
      · unfold upd; rw [if_neg (by omega)]; exact h3 j hj
theorem jr_sets {D s : Nat} {v : Int} {t : Nat → Value} {nw bf : Nat → Int64} {bg ov db tx wr : Nat → Int32} (hs : s < 665) (hv : jR v) :
    mj_Ok (D + 1) 181 [.ref 0, .int (jn s), .long (jl v)] (jHM t nw bf bg ov db tx wr) (fun r => ∃ bg' : Nat → Int32, jrs bg' s v ∧ jrf bg bg' s ∧ r = (.inl none, jHM t nw bf bg' ov db tx wr)) := by
  have hx2 : v.natAbs ≤ 9223372036854775808 := by have := hv.1; have := hv.2; omega
  have hnl : jnl v.natAbs ≤ 3 := jnl_le_lt.mpr (by rw [show jB ^ 3 = 1000000000000000000000000000 from rfl]; omega)
  refine mj_Ok.of (M := mj_m181) rfl rfl rfl ?_
  iterate 2 refine mj_T.pl rfl rfl rfl rfl ?_
  refine mj_T.imul (b := 702) rfl ?_
  rw [show (s : Int) * 702 = ((s * 702 : Nat) : Int) by omega]
  have k50 : ∀ (w : Int) (bg1 : Nat → Int32), w = -((v.natAbs : Nat) : Int) → bg1 = upd bg (s * 702) (jn (jsg v)) → mj_T D mj_m181 50 [some (.ref 0), some (.int (jn s)), some (.long (jl v)), none, some (.int (jn (s * 702 : Nat))), some (.int (jn 0)), none, none] [.long (jl w)] (jHM t nw bf bg1 ov db tx wr)
      (fun r => ∃ bg' : Nat → Int32, jrs bg' s v ∧ jrf bg bg' s ∧ r = (.inl none, jHM t nw bf bg' ov db tx wr)) := by
    intro w bg1 hw hb
    subst hw
    subst hb
    refine mj_T.pl rfl rfl rfl rfl ?_
    refine mj_T.eq (jr_sets_loop (x := v.natAbs) (v := v) (bg0 := upd bg (s * 702) (jn (jsg v))) hs (by omega) hx2 (fun bg' h1 h2 h3 h4 => ⟨bg', ⟨?_, h2, h3, by omega⟩, fun j hj => ?_, rfl⟩) (jnl v.natAbs) 0 _ (by omega) rfl (fun j hj => by omega) (fun j _ => rfl)) rfl ?_ rfl rfl
    · rw [Nat.pow_zero, Nat.div_one]; rfl
    · rw [h1]; exact if_pos rfl
    · rw [h4 j hj]; exact if_neg (by omega)
  have k34 : ∀ z : Int, z = jsg v → mj_T D mj_m181 34 [some (.ref 0), some (.int (jn s)), some (.long (jl v)), none, some (.int (jn (s * 702 : Nat))), none, none, none] [.int (jn z), .int (jn (s * 702 : Nat)), .ref 3] (jHM t nw bf bg ov db tx wr)
      (fun r => ∃ bg' : Nat → Int32, jrs bg' s v ∧ jrf bg bg' s ∧ r = (.inl none, jHM t nw bf bg' ov db tx wr)) := by
    intro z hz
    subst hz
    refine mj_T.iast rfl rfl ⟨by omega, by omega⟩ ⟨by omega, by omega⟩ ?_
    iterate 4 refine mj_T.pl rfl rfl rfl rfl ?_
    refine mj_T.lif (b := 0) rfl rfl hv ⟨by omega, by omega⟩ (fun hc => ?_) (fun hc => ?_)
    · simp only [jc, decide_eq_true_eq] at hc
      refine mj_T.pl rfl rfl rfl rfl ?_
      exact k50 v _ (by omega) rfl
    · simp only [jc, decide_eq_false_iff_not] at hc
      refine mj_T.pl rfl rfl rfl rfl ?_
      refine mj_T.lneg rfl ?_
      refine mj_T.pl rfl rfl rfl rfl ?_
      exact k50 (-v) _ (by omega) rfl
  iterate 6 refine mj_T.pl rfl rfl rfl rfl ?_
  refine mj_T.lif (b := 0) rfl rfl hv ⟨by omega, by omega⟩ (fun hc => ?_) (fun hc => ?_)
  · simp only [jc, decide_eq_true_eq] at hc
    iterate 2 refine mj_T.pl rfl rfl rfl rfl ?_
    refine mj_T.lif (b := 0) rfl rfl hv ⟨by omega, by omega⟩ (fun hc2 => ?_) (fun hc2 => ?_)
    · simp only [jc, decide_eq_true_eq] at hc2
      refine mj_T.pl rfl rfl rfl rfl ?_
      exact k34 0 (by unfold jsg; rw [if_neg (by omega), if_neg (by omega)])
    · simp only [jc, decide_eq_false_iff_not] at hc2
      iterate 2 refine mj_T.pl rfl rfl rfl rfl ?_
      exact k34 (-1) (jsg_neg (by omega)).symm
  · simp only [jc, decide_eq_false_iff_not] at hc
    iterate 2 refine mj_T.pl rfl rfl rfl rfl ?_
    exact k34 1 (jsg_pos (by omega)).symm
/-! The reference: limb, trims. -/
section MJR2
variable {D : Nat} {t : Nat → Value} {nw bf : Nat → Int64} {bg ov db tx wr : Nat → Int32}
theorem jr_limb {s k : Nat} {v : Int} (hs : s < 665) (hk : k ≤ 700) (h : jrs bg s v) : mj_Ok (D + 2) 180 [.ref 0, .int (jn s), .int (jn k)] (jHM t nw bf bg ov db tx wr) (fun r => r = (.inl (some (.int (jn (jlb v.natAbs k)))), jHM t nw bf bg ov db tx wr)) := by
  have h4 := h.2.2.2
  refine mj_Ok.of (M := mj_m180) rfl rfl rfl ?_
  iterate 3 refine mj_T.pl rfl rfl rfl rfl ?_
  refine mj_T.call (ins := .invokevirtual 52) rfl rfl (Nat.le_of_ble_eq_true rfl) (Nat.le_of_ble_eq_true rfl) rfl rfl (jr_length (D := D) hs h) (fun v' h' hq' => ?_) (fun i h' hq' => by cases hq')
  cases hq'
  refine mj_T.icmp rfl ⟨by omega, by omega⟩ ⟨by omega, by omega⟩ (fun hc => ?_) (fun hc => ?_)
  · simp only [jc, decide_eq_true_eq] at hc
    refine mj_T.pl rfl rfl rfl rfl ?_
    refine mj_T.ret rfl rfl rfl ?_
    rw [jlb_high (show jnl v.natAbs ≤ k by omega)]
    rfl
  · simp only [jc, decide_eq_false_iff_not] at hc
    iterate 4 refine mj_T.pl rfl rfl rfl rfl ?_
    refine mj_T.imul (b := 702) rfl ?_
    refine mj_T.pl rfl rfl rfl rfl ?_
    refine mj_T.iadd (b := 2) rfl ?_
    refine mj_T.pl rfl rfl rfl rfl ?_
    refine mj_T.iadd rfl ?_
    rw [show (s : Int) * 702 + 2 + (k : Int) = ((s * 702 + 2 + k : Nat) : Int) by omega]
    refine mj_T.ialv rfl rfl ⟨by omega, by omega⟩ ⟨by omega, by omega⟩ (h.2.2.1 k (by omega)) ?_
    refine mj_T.pl rfl rfl rfl rfl ?_
    exact mj_T.ret rfl rfl rfl rfl
theorem jr_trims_loop {s n x : Nat} {g0 : Int} (hs : s < 665) (hn : n ≤ 700) (hx : jnl x ≤ n) (hsg : bg (s * 702) = jn g0) (hl : ∀ j, j < n → bg (s * 702 + 2 + j) = jn (jlb x j)) {Q : mj_R → Prop}
    (hend : ∀ bg' : Nat → Int32, bg' (s * 702) = jn (if x = 0 then 0 else g0) → bg' (s * 702 + 1) = jn (jnl x) → (∀ j, j < n → bg' (s * 702 + 2 + j) = jn (jlb x j)) → jrf bg bg' s → Q (.inl none, jHM t nw bf bg' ov db tx wr)) :
    ∀ (d k : Nat), k = jnl x + d → k ≤ n →
      mj_T D mj_m183 2 [some (.ref 0), some (.int (jn s)), some (.int (jn n)), some (.int (jn k))] [] (jHM t nw bf bg ov db tx wr) Q := by
  have fin : mj_T D mj_m183 29 [some (.ref 0), some (.int (jn s)), some (.int (jn n)), some (.int (jn (jnl x)))] [] (jHM t nw bf bg ov db tx wr) Q := by
    iterate 4 refine mj_T.pl rfl rfl rfl rfl ?_
    refine mj_T.imul (b := 702) rfl ?_
    refine mj_T.pl rfl rfl rfl rfl ?_
    refine mj_T.iadd (b := 1) rfl ?_
    rw [show (s : Int) * 702 + 1 = ((s * 702 + 1 : Nat) : Int) by omega]
    refine mj_T.pl rfl rfl rfl rfl ?_
    refine mj_T.iast rfl rfl ⟨by omega, by omega⟩ ⟨by omega, by omega⟩ ?_
    refine mj_T.pl rfl rfl rfl rfl ?_
    refine mj_T.if0 rfl ⟨by omega, by omega⟩ (fun hc => ?_) (fun hc => ?_)
    · simp only [jc, Bool.not_eq_true', decide_eq_false_iff_not] at hc
      have h0 : x ≠ 0 := fun q => hc (by rw [q]; exact congrArg Int.ofNat jnl_zero)
      rw [if_neg h0] at hend
      refine mj_T.ret rfl rfl rfl (hend (upd bg (s * 702 + 1) (jn (jnl x))) ?_ ?_ (fun j hj => ?_) (fun j hj => ?_))
      · unfold upd; rw [if_neg (by omega)]; exact hsg
      · unfold upd; exact if_pos rfl
      · unfold upd; rw [if_neg (by omega)]; exact hl j hj
      · unfold upd; exact if_neg (by omega)
    · simp only [jc, Bool.not_eq_false', decide_eq_true_eq] at hc
      have h0 : x = 0 := jnl_eq0.mp (by omega)
      rw [if_pos h0] at hend
      iterate 4 refine mj_T.pl rfl rfl rfl rfl ?_
      refine mj_T.imul (b := 702) rfl ?_
      rw [show (s : Int) * 702 = ((s * 702 : Nat) : Int) by omega]
      refine mj_T.pl rfl rfl rfl rfl ?_
      refine mj_T.iast rfl rfl ⟨by omega, by omega⟩ ⟨by omega, by omega⟩ ?_
      refine mj_T.ret rfl rfl rfl (hend (upd (upd bg (s * 702 + 1) (jn (jnl x))) (s * 702) (jn 0)) ?_ ?_ (fun j hj => ?_) (fun j hj => ?_))
      · unfold upd; exact if_pos rfl
      · unfold upd; rw [if_neg (by omega)]; exact if_pos rfl
      · unfold upd; rw [if_neg (by omega), if_neg (by omega)]; exact hl j hj
      · unfold upd; rw [if_neg (by omega)]; exact if_neg (by omega)
  intro d
  induction d with
  | zero =>
    intro k hk hkn
    have ek : k = jnl x := by omega
    subst ek
    refine mj_T.pl rfl rfl rfl rfl ?_
    refine mj_T.if0 rfl ⟨by omega, by omega⟩ (fun hc => fin) (fun hc => ?_)
    simp only [jc, decide_eq_false_iff_not] at hc
    obtain ⟨p, hp⟩ : ∃ p, jnl x = p + 1 := ⟨jnl x - 1, by omega⟩
    have htop := jlb_top hp.symm
    have hlt := jlb_lt x p
    iterate 4 refine mj_T.pl rfl rfl rfl rfl ?_
    refine mj_T.imul (b := 702) rfl ?_
    refine mj_T.pl rfl rfl rfl rfl ?_
    refine mj_T.iadd (b := 1) rfl ?_
    refine mj_T.pl rfl rfl rfl rfl ?_
    refine mj_T.iadd rfl ?_
    rw [show (s : Int) * 702 + 1 + ((jnl x : Nat) : Int) = ((s * 702 + 2 + p : Nat) : Int) by omega]
    refine mj_T.ialv rfl rfl ⟨by omega, by omega⟩ ⟨by omega, by omega⟩ (hl p (by omega)) ?_
    refine mj_T.if0 rfl ⟨by omega, by omega⟩ (fun hc2 => fin) (fun hc2 => ?_)
    simp only [jc, Bool.not_eq_false', decide_eq_true_eq] at hc2
    omega
  | succ d ih =>
    intro k hk hkn
    have hz : jlb x (k - 1) = 0 := jlb_high (by omega)
    refine mj_T.pl rfl rfl rfl rfl ?_
    refine mj_T.if0 rfl ⟨by omega, by omega⟩ (fun hc => ?_) (fun hc => ?_)
    · simp only [jc, decide_eq_true_eq] at hc; omega
    iterate 4 refine mj_T.pl rfl rfl rfl rfl ?_
    refine mj_T.imul (b := 702) rfl ?_
    refine mj_T.pl rfl rfl rfl rfl ?_
    refine mj_T.iadd (b := 1) rfl ?_
    refine mj_T.pl rfl rfl rfl rfl ?_
    refine mj_T.iadd rfl ?_
    rw [show (s : Int) * 702 + 1 + (k : Int) = ((s * 702 + 2 + (k - 1) : Nat) : Int) by omega]
    refine mj_T.ialv rfl rfl ⟨by omega, by omega⟩ ⟨by omega, by omega⟩ (hl (k - 1) (by omega)) ?_
    refine mj_T.if0 rfl ⟨by omega, by omega⟩ (fun hc2 => ?_) (fun hc2 => ?_)
    · simp only [jc, Bool.not_eq_true', decide_eq_false_iff_not] at hc2
      omega
    · refine mj_T.iinc (a := k) rfl rfl ?_
      refine mj_T.pl rfl rfl rfl rfl ?_
      rw [show (k : Int) + -1 = ((k - 1 : Nat) : Int) by omega]
      exact ih (k - 1) (by omega) (by omega)
theorem jr_trims {s n x : Nat} {g0 : Int} (hs : s < 665) (hn : n ≤ 700) (hx : jnl x ≤ n) (hsg : bg (s * 702) = jn g0) (hl : ∀ j, j < n → bg (s * 702 + 2 + j) = jn (jlb x j)) :
    mj_Ok (D + 1) 183 [.ref 0, .int (jn s), .int (jn n)] (jHM t nw bf bg ov db tx wr) (fun r => ∃ bg' : Nat → Int32, bg' (s * 702) = jn (if x = 0 then 0 else g0) ∧ bg' (s * 702 + 1) = jn (jnl x) ∧ (∀ j, j < n → bg' (s * 702 + 2 + j) = jn (jlb x j)) ∧ jrf bg bg' s ∧ r = (.inl none, jHM t nw bf bg' ov db tx wr)) := by
  refine mj_Ok.of (M := mj_m183) rfl rfl rfl ?_
  iterate 2 refine mj_T.pl rfl rfl rfl rfl ?_
  exact jr_trims_loop (x := x) (g0 := g0) hs hn hx hsg hl (fun bg' h1 h2 h3 h4 => ⟨bg', h1, h2, h3, h4, rfl⟩) (n - jnl x) n (by omega) (Nat.le_refl n)
end MJR2
/-! The reference: addsSizes. -/
section MJR3
variable {D : Nat} {t : Nat → Value} {nw bf : Nat → Int64} {ov db tx wr : Nat → Int32}
theorem jr_adds_loop {to a b x y : Nat} {bg0 : Nat → Int32} {sg : Int} (hto : to < 665) (ha : a < 665) (hb : b < 665) (hx : jnl x ≤ 699) (hy : jnl y ≤ 699) (h1 : ∀ j, j < jnl x → bg0 (a * 702 + 2 + j) = jn (jlb x j)) (h2 : ∀ j, j < jnl y → bg0 (b * 702 + 2 + j) = jn (jlb y j)) {Q : mj_R → Prop}
    (hend : ∀ (bg : Nat → Int32) (l10 : Option Value), (∀ j, j < max (jnl x) (jnl y) → bg (to * 702 + 2 + j) = jn (jlb (x + y) j)) → (∀ q, (∀ j, j < max (jnl x) (jnl y) → q ≠ to * 702 + 2 + j) → bg q = bg0 q) → mj_T D mj_m186 143 [some (.ref 0), some (.int (jn to)), some (.int (jn a)), some (.int (jn b)), some (.int (jn sg)), some (.int (jn (max (jnl x) (jnl y) : Nat))), some (.int (jn (jcy x y (max (jnl x) (jnl y))))), some (.int (jn (jnl x))), some (.int (jn (jnl y))), some (.int (jn (max (jnl x) (jnl y) : Nat))), l10] [] (jHM t nw bf bg ov db tx wr) Q) :
    ∀ (d k : Nat) (bg : Nat → Int32) (l10 : Option Value), k + d = max (jnl x) (jnl y) → (∀ j, j < k → bg (to * 702 + 2 + j) = jn (jlb (x + y) j)) → (∀ q, (∀ j, j < k → q ≠ to * 702 + 2 + j) → bg q = bg0 q) →
      mj_T D mj_m186 35 [some (.ref 0), some (.int (jn to)), some (.int (jn a)), some (.int (jn b)), some (.int (jn sg)), some (.int (jn (max (jnl x) (jnl y) : Nat))), some (.int (jn (jcy x y k))), some (.int (jn (jnl x))), some (.int (jn (jnl y))), some (.int (jn k)), l10] [] (jHM t nw bf bg ov db tx wr) Q := by
  intro d
  induction d with
  | zero =>
    intro k bg l10 hk g1 g2
    have ek : k = max (jnl x) (jnl y) := by omega
    subst ek
    iterate 2 refine mj_T.pl rfl rfl rfl rfl ?_
    refine mj_T.icmp rfl ⟨by omega, by omega⟩ ⟨by omega, by omega⟩ (fun hc => ?_) (fun hc => ?_)
    · exact hend bg l10 g1 g2
    · simp only [jc, decide_eq_false_iff_not] at hc; omega
  | succ d ih =>
    intro k bg l10 hk g1 g2
    have hcx := jcy_le x y k
    have hcx2 := jcy_le x y (k + 1)
    have hu1 := jlb_lt x k
    have hv1 := jlb_lt y k
    have hz1 := jlb_lt (x + y) k
    have hlim : jlb (x + y) k = (jlb x k + jlb y k + jcy x y k) % 1000000000 := jcy_limb x y k
    have hnx : jcy x y (k + 1) = (jlb x k + jlb y k + jcy x y k) / 1000000000 := jcy_next x y k
    iterate 2 refine mj_T.pl rfl rfl rfl rfl ?_
    refine mj_T.icmp rfl ⟨by omega, by omega⟩ ⟨by omega, by omega⟩ (fun hc => ?_) (fun hc => ?_)
    · simp only [jc, decide_eq_true_eq] at hc; omega
    clear hc
    have k112 : ∀ z s : Int, z = (jcy x y (k + 1) : Nat) → s = (jlb x k + jlb y k + jcy x y k : Nat) → mj_T D mj_m186 112 [some (.ref 0), some (.int (jn to)), some (.int (jn a)), some (.int (jn b)), some (.int (jn sg)), some (.int (jn (max (jnl x) (jnl y) : Nat))), some (.int (jn (jcy x y k))), some (.int (jn (jnl x))), some (.int (jn (jnl y))), some (.int (jn k)), some (.int (jn s))] [.int (jn z)] (jHM t nw bf bg ov db tx wr) Q := by
      intro z s hz hs
      subst hz
      iterate 5 refine mj_T.pl rfl rfl rfl rfl ?_
      refine mj_T.imul (b := 702) rfl ?_
      refine mj_T.pl rfl rfl rfl rfl ?_
      refine mj_T.iadd (b := 2) rfl ?_
      refine mj_T.pl rfl rfl rfl rfl ?_
      refine mj_T.iadd rfl ?_
      rw [show (to : Int) * 702 + 2 + (k : Int) = ((to * 702 + 2 + k : Nat) : Int) by omega]
      iterate 3 refine mj_T.pl rfl rfl rfl rfl ?_
      refine mj_T.imul (b := 1000000000) rfl ?_
      refine mj_T.isub rfl ?_
      rw [show s - ((jcy x y (k + 1) : Nat) : Int) * 1000000000 = ((jlb (x + y) k : Nat) : Int) by omega]
      refine mj_T.iast rfl rfl ⟨by omega, by omega⟩ ⟨by omega, by omega⟩ ?_
      refine mj_T.iinc (a := k) rfl rfl ?_
      refine mj_T.pl rfl rfl rfl rfl ?_
      refine ih (k + 1) (upd bg (to * 702 + 2 + k) (jn (jlb (x + y) k))) _ (by omega) (fun j hj => ?_) (fun q hq => ?_)
      · unfold upd
        by_cases h : j = k
        · subst h; rw [if_pos rfl]
        · rw [if_neg (by omega)]; exact g1 j (by omega)
      · unfold upd
        rw [if_neg (hq k (by omega))]
        exact g2 q (fun j hj => hq j (by omega))
    have k94 : ∀ u w : Int, u = (jlb x k : Nat) → w = (jlb y k : Nat) → mj_T D mj_m186 94 [some (.ref 0), some (.int (jn to)), some (.int (jn a)), some (.int (jn b)), some (.int (jn sg)), some (.int (jn (max (jnl x) (jnl y) : Nat))), some (.int (jn (jcy x y k))), some (.int (jn (jnl x))), some (.int (jn (jnl y))), some (.int (jn k)), l10] [.int (jn w), .int (jn u)] (jHM t nw bf bg ov db tx wr) Q := by
      intro u w hu hw
      refine mj_T.iadd rfl ?_
      refine mj_T.pl rfl rfl rfl rfl ?_
      refine mj_T.iadd rfl ?_
      iterate 3 refine mj_T.pl rfl rfl rfl rfl ?_
      refine mj_T.icmp (b := 1000000000) rfl ⟨by omega, by omega⟩ ⟨by omega, by omega⟩ (fun hc => ?_) (fun hc => ?_)
      · simp only [jc, decide_eq_true_eq] at hc
        refine mj_T.pl rfl rfl rfl rfl ?_
        exact k112 0 _ (by omega) (by omega)
      · simp only [jc, decide_eq_false_iff_not] at hc
        iterate 2 refine mj_T.pl rfl rfl rfl rfl ?_
        exact k112 1 _ (by omega) (by omega)
    have k68 : ∀ u : Int, u = (jlb x k : Nat) → mj_T D mj_m186 68 [some (.ref 0), some (.int (jn to)), some (.int (jn a)), some (.int (jn b)), some (.int (jn sg)), some (.int (jn (max (jnl x) (jnl y) : Nat))), some (.int (jn (jcy x y k))), some (.int (jn (jnl x))), some (.int (jn (jnl y))), some (.int (jn k)), l10] [.int (jn u)] (jHM t nw bf bg ov db tx wr) Q := by
      intro u hu
      iterate 2 refine mj_T.pl rfl rfl rfl rfl ?_
      refine mj_T.icmp rfl ⟨by omega, by omega⟩ ⟨by omega, by omega⟩ (fun hc => ?_) (fun hc => ?_)
      · simp only [jc, decide_eq_true_eq] at hc
        refine mj_T.pl rfl rfl rfl rfl ?_
        exact k94 u 0 hu (by rw [jlb_high (show jnl y ≤ k by omega)]; rfl)
      · simp only [jc, decide_eq_false_iff_not] at hc
        iterate 4 refine mj_T.pl rfl rfl rfl rfl ?_
        refine mj_T.imul (b := 702) rfl ?_
        refine mj_T.pl rfl rfl rfl rfl ?_
        refine mj_T.iadd (b := 2) rfl ?_
        refine mj_T.pl rfl rfl rfl rfl ?_
        refine mj_T.iadd rfl ?_
        rw [show (b : Int) * 702 + 2 + (k : Int) = ((b * 702 + 2 + k : Nat) : Int) by omega]
        refine mj_T.ialv rfl rfl ⟨by omega, by omega⟩ ⟨by omega, by omega⟩ ((g2 (b * 702 + 2 + k) (fun j hj => by omega)).trans (h2 k (by omega))) ?_
        refine mj_T.pl rfl rfl rfl rfl ?_
        exact k94 u _ hu rfl
    iterate 2 refine mj_T.pl rfl rfl rfl rfl ?_
    refine mj_T.icmp rfl ⟨by omega, by omega⟩ ⟨by omega, by omega⟩ (fun hc => ?_) (fun hc => ?_)
    · simp only [jc, decide_eq_true_eq] at hc
      refine mj_T.pl rfl rfl rfl rfl ?_
      exact k68 0 (by rw [jlb_high (show jnl x ≤ k by omega)]; rfl)
    · simp only [jc, decide_eq_false_iff_not] at hc
      iterate 4 refine mj_T.pl rfl rfl rfl rfl ?_
      refine mj_T.imul (b := 702) rfl ?_
      refine mj_T.pl rfl rfl rfl rfl ?_
      refine mj_T.iadd (b := 2) rfl ?_
      refine mj_T.pl rfl rfl rfl rfl ?_
      refine mj_T.iadd rfl ?_
      rw [show (a : Int) * 702 + 2 + (k : Int) = ((a * 702 + 2 + k : Nat) : Int) by omega]
      refine mj_T.ialv rfl rfl ⟨by omega, by omega⟩ ⟨by omega, by omega⟩ ((g2 (a * 702 + 2 + k) (fun j hj => by omega)).trans (h1 k (by omega))) ?_
      refine mj_T.pl rfl rfl rfl rfl ?_
      exact k68 _ rfl
end MJR3
/-! The reference: addsSizes, the whole of it. -/
theorem jcy_top {x y n : Nat} (hx : jnl x ≤ n) (hy : jnl y ≤ n) : jlb (x + y) n = jcy x y n ∧ jnl (x + y) ≤ n + jcy x y n := by
  have hc := jcy_le x y n
  have h1 := jcy_div x y n
  rw [jnl_le.mp hx, jnl_le.mp hy, Nat.zero_add] at h1
  constructor
  · unfold jlb
    rw [h1]
    exact Nat.mod_eq_of_lt (by show _ < 1000000000; omega)
  · rcases (show jcy x y n = 0 ∨ jcy x y n = 1 by omega) with h | h
    · rw [h] at h1 ⊢
      exact jnl_le.mpr h1
    · rw [h] at h1 ⊢
      rw [jnl_le, Nat.pow_succ, ← Nat.div_div_eq_div_mul, h1]
      rfl
theorem jr_addsSizes {D to a b : Nat} {u v : Int} {sg : Int} {t : Nat → Value} {nw bf : Nat → Int64} {bg ov db tx wr : Nat → Int32} (hto : to < 665) (ha : a < 665) (hb : b < 665) (hu : jrs bg a u) (hv : jrs bg b v) (hx : jnl u.natAbs ≤ 698) (hy : jnl v.natAbs ≤ 698) :
    mj_Ok (D + 2) 186 [.ref 0, .int (jn to), .int (jn a), .int (jn b), .int (jn sg)] (jHM t nw bf bg ov db tx wr) (fun r => ∃ bg' : Nat → Int32, bg' (to * 702) = jn (if u.natAbs + v.natAbs = 0 then 0 else sg) ∧ bg' (to * 702 + 1) = jn (jnl (u.natAbs + v.natAbs)) ∧ (∀ j, j < jnl (u.natAbs + v.natAbs) → bg' (to * 702 + 2 + j) = jn (jlb (u.natAbs + v.natAbs) j)) ∧ jrf bg bg' to ∧ r = (.inl none, jHM t nw bf bg' ov db tx wr)) := by
  refine mj_Ok.of (M := mj_m186) rfl rfl rfl ?_
  iterate 2 refine mj_T.pl rfl rfl rfl rfl ?_
  refine mj_T.call (ins := .invokevirtual 52) rfl rfl (Nat.le_of_ble_eq_true rfl) (Nat.le_of_ble_eq_true rfl) rfl rfl (jr_length (D := D) ha hu) (fun v' h' hq' => ?_) (fun i h' hq' => by cases hq')
  cases hq'
  iterate 2 refine mj_T.pl rfl rfl rfl rfl ?_
  refine mj_T.call (ins := .invokevirtual 52) rfl rfl (Nat.le_of_ble_eq_true rfl) (Nat.le_of_ble_eq_true rfl) rfl rfl (jr_length (D := D) hb hv) (fun v' h' hq' => ?_) (fun i h' hq' => by cases hq')
  cases hq'
  refine mj_T.imax (a := (jnl u.natAbs : Nat)) (b := (jnl v.natAbs : Nat)) rfl rfl (Nat.le_of_ble_eq_true rfl) ⟨by omega, by omega⟩ ⟨by omega, by omega⟩ ?_
  rw [show max ((jnl u.natAbs : Nat) : Int) ((jnl v.natAbs : Nat) : Int) = ((max (jnl u.natAbs) (jnl v.natAbs) : Nat) : Int) by omega]
  iterate 5 refine mj_T.pl rfl rfl rfl rfl ?_
  refine mj_T.call (ins := .invokevirtual 52) rfl rfl (Nat.le_of_ble_eq_true rfl) (Nat.le_of_ble_eq_true rfl) rfl rfl (jr_length (D := D) ha hu) (fun v' h' hq' => ?_) (fun i h' hq' => by cases hq')
  cases hq'
  iterate 3 refine mj_T.pl rfl rfl rfl rfl ?_
  refine mj_T.call (ins := .invokevirtual 52) rfl rfl (Nat.le_of_ble_eq_true rfl) (Nat.le_of_ble_eq_true rfl) rfl rfl (jr_length (D := D) hb hv) (fun v' h' hq' => ?_) (fun i h' hq' => by cases hq')
  cases hq'
  iterate 3 refine mj_T.pl rfl rfl rfl rfl ?_
  refine mj_T.eq (jr_adds_loop (x := u.natAbs) (y := v.natAbs) (sg := sg) hto ha hb (by omega) (by omega) hu.2.2.1 hv.2.2.1 (fun bg1 l10 g1 g2 => ?_) (max (jnl u.natAbs) (jnl v.natAbs)) 0 bg none (by omega) (fun j hj => by omega) (fun q _ => rfl)) rfl ?_ rfl rfl
  rotate_left
  · rw [jcy_zero]; rfl
  have htop := jcy_top (x := u.natAbs) (y := v.natAbs) (n := max (jnl u.natAbs) (jnl v.natAbs)) (by omega) (by omega)
  have hc := jcy_le u.natAbs v.natAbs (max (jnl u.natAbs) (jnl v.natAbs))
  have hN : max (jnl u.natAbs) (jnl v.natAbs) ≤ 698 := by omega
  generalize max (jnl u.natAbs) (jnl v.natAbs) = N at *
  iterate 4 refine mj_T.pl rfl rfl rfl rfl ?_
  refine mj_T.imul (b := 702) rfl ?_
  refine mj_T.pl rfl rfl rfl rfl ?_
  refine mj_T.iadd (b := 2) rfl ?_
  refine mj_T.pl rfl rfl rfl rfl ?_
  refine mj_T.iadd rfl ?_
  rw [show (to : Int) * 702 + 2 + (N : Int) = ((to * 702 + 2 + N : Nat) : Int) by omega]
  refine mj_T.pl rfl rfl rfl rfl ?_
  refine mj_T.iast rfl rfl ⟨by omega, by omega⟩ ⟨by omega, by omega⟩ ?_
  iterate 4 refine mj_T.pl rfl rfl rfl rfl ?_
  refine mj_T.imul (b := 702) rfl ?_
  rw [show (to : Int) * 702 = ((to * 702 : Nat) : Int) by omega]
  refine mj_T.pl rfl rfl rfl rfl ?_
  refine mj_T.iast rfl rfl ⟨by omega, by omega⟩ ⟨by omega, by omega⟩ ?_
  iterate 4 refine mj_T.pl rfl rfl rfl rfl ?_
  refine mj_T.iadd rfl ?_
  rw [show (N : Int) + ((jcy u.natAbs v.natAbs N : Nat) : Int) = ((N + jcy u.natAbs v.natAbs N : Nat) : Int) by omega]
  refine mj_T.call (ins := .invokevirtual 80) rfl rfl (Nat.le_of_ble_eq_true rfl) (Nat.le_of_ble_eq_true rfl) rfl rfl (jr_trims (D := D) (bg := upd (upd bg1 (to * 702 + 2 + N) (jn (jcy u.natAbs v.natAbs N))) (to * 702) (jn sg)) (x := u.natAbs + v.natAbs) (g0 := sg) (n := N + jcy u.natAbs v.natAbs N) hto (by omega) htop.2 (if_pos rfl) (fun j hj => ?_)) (fun v' h' hq' => ?_) (fun i h' hq' => by obtain ⟨_, _, _, _, _, h⟩ := hq'; cases h)
  · unfold upd
    rw [if_neg (by omega)]
    by_cases h : j = N
    · subst h; rw [if_pos rfl, htop.1]
    · rw [if_neg (by omega)]; exact g1 j (by omega)
  · obtain ⟨bg', e1, e2, e3, e4, h⟩ := hq'
    cases h
    refine mj_T.ret rfl rfl rfl ⟨bg', e1, e2, fun j hj => e3 j (Nat.lt_of_lt_of_le hj htop.2), fun q hq => ?_, rfl⟩
    rw [e4 q hq]
    unfold upd
    rw [if_neg (by omega), if_neg (by omega)]
    exact g2 q (fun j hj => by omega)
