/-! The reference: limb, trims. -/
section MJR2
variable {D : Nat} {t : Nat → Value} {nw bf : Nat → Int64} {bg ov db tx wr : Nat → Int32}
theorem jr_limb {s k : Nat} {v : Int} (hs : s < 665) (hk : k ≤ 700) (h : jrs bg s v) : mj_Ok (D + 2) 180 [.ref 0, .int (jn s), .int (jn k)] (jHM t nw bf bg ov db tx wr) (fun r => r = (.inl (some (.int (jn (jlb v.natAbs k)))), jHM t nw bf bg ov db tx wr)) := by
  have h4 := h.2.2.2
  refine mj_Ok.of (M := mj_m180) rfl rfl rfl ?_
  iterate 3 refine mj_T.pl rfl rfl rfl rfl ?_
  refine mj_T.call (ins := .invokevirtual 52) rfl rfl (Nat.le_of_ble_eq_true rfl) (Nat.le_of_ble_eq_true rfl) rfl rfl (jr_length (D := D) hs h) (fun v' h' hq' => ?_) (fun i h' hq' => by cases hq')
  cases hq'
  refine mj_T.icmp rfl ⟨by omega, by omega⟩ ⟨by omega, by omega⟩ (fun hc => ?_) (fun hc => ?_)
  · simp only [jc, decide_eq_true_eq] at hc
    refine mj_T.pl rfl rfl rfl rfl ?_
    refine mj_T.ret rfl rfl rfl ?_
    rw [jlb_high (show jnl v.natAbs ≤ k by omega)]
    rfl
  · simp only [jc, decide_eq_false_iff_not] at hc
    iterate 4 refine mj_T.pl rfl rfl rfl rfl ?_
    refine mj_T.imul (b := 702) rfl ?_
    refine mj_T.pl rfl rfl rfl rfl ?_
    refine mj_T.iadd (b := 2) rfl ?_
    refine mj_T.pl rfl rfl rfl rfl ?_
    refine mj_T.iadd rfl ?_
    rw [show (s : Int) * 702 + 2 + (k : Int) = ((s * 702 + 2 + k : Nat) : Int) by omega]
    refine mj_T.ialv rfl rfl ⟨by omega, by omega⟩ ⟨by omega, by omega⟩ (h.2.2.1 k (by omega)) ?_
    refine mj_T.pl rfl rfl rfl rfl ?_
    exact mj_T.ret rfl rfl rfl rfl
theorem jr_trims_loop {s n x : Nat} {g0 : Int} (hs : s < 665) (hn : n ≤ 700) (hx : jnl x ≤ n) (hsg : bg (s * 702) = jn g0) (hl : ∀ j, j < n → bg (s * 702 + 2 + j) = jn (jlb x j)) {Q : mj_R → Prop}
    (hend : ∀ bg' : Nat → Int32, bg' (s * 702) = jn (if x = 0 then 0 else g0) → bg' (s * 702 + 1) = jn (jnl x) → (∀ j, j < n → bg' (s * 702 + 2 + j) = jn (jlb x j)) → jrf bg bg' s → Q (.inl none, jHM t nw bf bg' ov db tx wr)) :
    ∀ (d k : Nat), k = jnl x + d → k ≤ n →
      mj_T D mj_m183 2 [some (.ref 0), some (.int (jn s)), some (.int (jn n)), some (.int (jn k))] [] (jHM t nw bf bg ov db tx wr) Q := by
  have fin : mj_T D mj_m183 29 [some (.ref 0), some (.int (jn s)), some (.int (jn n)), some (.int (jn (jnl x)))] [] (jHM t nw bf bg ov db tx wr) Q := by
    iterate 4 refine mj_T.pl rfl rfl rfl rfl ?_
    refine mj_T.imul (b := 702) rfl ?_
    refine mj_T.pl rfl rfl rfl rfl ?_
    refine mj_T.iadd (b := 1) rfl ?_
    rw [show (s : Int) * 702 + 1 = ((s * 702 + 1 : Nat) : Int) by omega]
    refine mj_T.pl rfl rfl rfl rfl ?_
    refine mj_T.iast rfl rfl ⟨by omega, by omega⟩ ⟨by omega, by omega⟩ ?_
    refine mj_T.pl rfl rfl rfl rfl ?_
    refine mj_T.if0 rfl ⟨by omega, by omega⟩ (fun hc => ?_) (fun hc => ?_)
    · simp only [jc, Bool.not_eq_true', decide_eq_false_iff_not] at hc
      have h0 : x ≠ 0 := fun q => hc (by rw [q]; exact congrArg Int.ofNat jnl_zero)
      rw [if_neg h0] at hend
      refine mj_T.ret rfl rfl rfl (hend (upd bg (s * 702 + 1) (jn (jnl x))) ?_ ?_ (fun j hj => ?_) (fun j hj => ?_))
      · unfold upd; rw [if_neg (by omega)]; exact hsg
      · unfold upd; exact if_pos rfl
      · unfold upd; rw [if_neg (by omega)]; exact hl j hj
      · unfold upd; exact if_neg (by omega)
    · simp only [jc, Bool.not_eq_false', decide_eq_true_eq] at hc
      have h0 : x = 0 := jnl_eq0.mp (by omega)
      rw [if_pos h0] at hend
      iterate 4 refine mj_T.pl rfl rfl rfl rfl ?_
      refine mj_T.imul (b := 702) rfl ?_
      rw [show (s : Int) * 702 = ((s * 702 : Nat) : Int) by omega]
      refine mj_T.pl rfl rfl rfl rfl ?_
      refine mj_T.iast rfl rfl ⟨by omega, by omega⟩ ⟨by omega, by omega⟩ ?_
      refine mj_T.ret rfl rfl rfl (hend (upd (upd bg (s * 702 + 1) (jn (jnl x))) (s * 702) (jn 0)) ?_ ?_ (fun j hj => ?_) (fun j hj => ?_))
      · unfold upd; exact if_pos rfl
      · unfold upd; rw [if_neg (by omega)]; exact if_pos rfl
      · unfold upd; rw [if_neg (by omega), if_neg (by omega)]; exact hl j hj
      · unfold upd; rw [if_neg (by omega)]; exact if_neg (by omega)
  intro d
  induction d with
  | zero =>
    intro k hk hkn
    have ek : k = jnl x := by omega
    subst ek
    refine mj_T.pl rfl rfl rfl rfl ?_
    refine mj_T.if0 rfl ⟨by omega, by omega⟩ (fun hc => fin) (fun hc => ?_)
    simp only [jc, decide_eq_false_iff_not] at hc
    obtain ⟨p, hp⟩ : ∃ p, jnl x = p + 1 := ⟨jnl x - 1, by omega⟩
    have htop := jlb_top hp.symm
    have hlt := jlb_lt x p
    iterate 4 refine mj_T.pl rfl rfl rfl rfl ?_
    refine mj_T.imul (b := 702) rfl ?_
    refine mj_T.pl rfl rfl rfl rfl ?_
    refine mj_T.iadd (b := 1) rfl ?_
    refine mj_T.pl rfl rfl rfl rfl ?_
    refine mj_T.iadd rfl ?_
    rw [show (s : Int) * 702 + 1 + ((jnl x : Nat) : Int) = ((s * 702 + 2 + p : Nat) : Int) by omega]
    refine mj_T.ialv rfl rfl ⟨by omega, by omega⟩ ⟨by omega, by omega⟩ (hl p (by omega)) ?_
    refine mj_T.if0 rfl ⟨by omega, by omega⟩ (fun hc2 => fin) (fun hc2 => ?_)
    simp only [jc, Bool.not_eq_false', decide_eq_true_eq] at hc2
    omega
  | succ d ih =>
    intro k hk hkn
    have hz : jlb x (k - 1) = 0 := jlb_high (by omega)
    refine mj_T.pl rfl rfl rfl rfl ?_
    refine mj_T.if0 rfl ⟨by omega, by omega⟩ (fun hc => ?_) (fun hc => ?_)
    · simp only [jc, decide_eq_true_eq] at hc; omega
    iterate 4 refine mj_T.pl rfl rfl rfl rfl ?_
    refine mj_T.imul (b := 702) rfl ?_
    refine mj_T.pl rfl rfl rfl rfl ?_
    refine mj_T.iadd (b := 1) rfl ?_
    refine mj_T.pl rfl rfl rfl rfl ?_
    refine mj_T.iadd rfl ?_
    rw [show (s : Int) * 702 + 1 + (k : Int) = ((s * 702 + 2 + (k - 1) : Nat) : Int) by omega]
    refine mj_T.ialv rfl rfl ⟨by omega, by omega⟩ ⟨by omega, by omega⟩ (hl (k - 1) (by omega)) ?_
    refine mj_T.if0 rfl ⟨by omega, by omega⟩ (fun hc2 => ?_) (fun hc2 => ?_)
    · simp only [jc, Bool.not_eq_true', decide_eq_false_iff_not] at hc2
      omega
    · refine mj_T.iinc (a := k) rfl rfl ?_
      refine mj_T.pl rfl rfl rfl rfl ?_
      rw [show (k : Int) + -1 = ((k - 1 : Nat) : Int) by omega]
      exact ih (k - 1) (by omega) (by omega)
theorem jr_trims {s n x : Nat} {g0 : Int} (hs : s < 665) (hn : n ≤ 700) (hx : jnl x ≤ n) (hsg : bg (s * 702) = jn g0) (hl : ∀ j, j < n → bg (s * 702 + 2 + j) = jn (jlb x j)) :
    mj_Ok (D + 1) 183 [.ref 0, .int (jn s), .int (jn n)] (jHM t nw bf bg ov db tx wr) (fun r => ∃ bg' : Nat → Int32, bg' (s * 702) = jn (if x = 0 then 0 else g0) ∧ bg' (s * 702 + 1) = jn (jnl x) ∧ (∀ j, j < n → bg' (s * 702 + 2 + j) = jn (jlb x j)) ∧ jrf bg bg' s ∧ r = (.inl none, jHM t nw bf bg' ov db tx wr)) := by
  refine mj_Ok.of (M := mj_m183) rfl rfl rfl ?_
  iterate 2 refine mj_T.pl rfl rfl rfl rfl ?_
  exact jr_trims_loop (x := x) (g0 := g0) hs hn hx hsg hl (fun bg' h1 h2 h3 h4 => ⟨bg', h1, h2, h3, h4, rfl⟩) (n - jnl x) n (by omega) (Nat.le_refl n)
end MJR2
