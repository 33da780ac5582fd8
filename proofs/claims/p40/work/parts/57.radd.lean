/-! The reference: addsSizes. -/
section MJR3
variable {D : Nat} {t : Nat → Value} {nw bf : Nat → Int64} {ov db tx wr : Nat → Int32}
theorem jr_adds_loop {to a b x y : Nat} {bg0 : Nat → Int32} {sg : Int} (hto : to < 665) (ha : a < 665) (hb : b < 665) (hx : jnl x ≤ 699) (hy : jnl y ≤ 699) (h1 : ∀ j, j < jnl x → bg0 (a * 702 + 2 + j) = jn (jlb x j)) (h2 : ∀ j, j < jnl y → bg0 (b * 702 + 2 + j) = jn (jlb y j)) {Q : mj_R → Prop}
    (hend : ∀ (bg : Nat → Int32) (l10 : Option Value), (∀ j, j < max (jnl x) (jnl y) → bg (to * 702 + 2 + j) = jn (jlb (x + y) j)) → (∀ q, (∀ j, j < max (jnl x) (jnl y) → q ≠ to * 702 + 2 + j) → bg q = bg0 q) → mj_T D mj_m186 143 [some (.ref 0), some (.int (jn to)), some (.int (jn a)), some (.int (jn b)), some (.int (jn sg)), some (.int (jn (max (jnl x) (jnl y) : Nat))), some (.int (jn (jcy x y (max (jnl x) (jnl y))))), some (.int (jn (jnl x))), some (.int (jn (jnl y))), some (.int (jn (max (jnl x) (jnl y) : Nat))), l10] [] (jHM t nw bf bg ov db tx wr) Q) :
    ∀ (d k : Nat) (bg : Nat → Int32) (l10 : Option Value), k + d = max (jnl x) (jnl y) → (∀ j, j < k → bg (to * 702 + 2 + j) = jn (jlb (x + y) j)) → (∀ q, (∀ j, j < k → q ≠ to * 702 + 2 + j) → bg q = bg0 q) →
      mj_T D mj_m186 35 [some (.ref 0), some (.int (jn to)), some (.int (jn a)), some (.int (jn b)), some (.int (jn sg)), some (.int (jn (max (jnl x) (jnl y) : Nat))), some (.int (jn (jcy x y k))), some (.int (jn (jnl x))), some (.int (jn (jnl y))), some (.int (jn k)), l10] [] (jHM t nw bf bg ov db tx wr) Q := by
  intro d
  induction d with
  | zero =>
    intro k bg l10 hk g1 g2
    have ek : k = max (jnl x) (jnl y) := by omega
    subst ek
    iterate 2 refine mj_T.pl rfl rfl rfl rfl ?_
    refine mj_T.icmp rfl ⟨by omega, by omega⟩ ⟨by omega, by omega⟩ (fun hc => ?_) (fun hc => ?_)
    · exact hend bg l10 g1 g2
    · simp only [jc, decide_eq_false_iff_not] at hc; omega
  | succ d ih =>
    intro k bg l10 hk g1 g2
    have hcx := jcy_le x y k
    have hcx2 := jcy_le x y (k + 1)
    have hu1 := jlb_lt x k
    have hv1 := jlb_lt y k
    have hz1 := jlb_lt (x + y) k
    have hlim : jlb (x + y) k = (jlb x k + jlb y k + jcy x y k) % 1000000000 := jcy_limb x y k
    have hnx : jcy x y (k + 1) = (jlb x k + jlb y k + jcy x y k) / 1000000000 := jcy_next x y k
    iterate 2 refine mj_T.pl rfl rfl rfl rfl ?_
    refine mj_T.icmp rfl ⟨by omega, by omega⟩ ⟨by omega, by omega⟩ (fun hc => ?_) (fun hc => ?_)
    · simp only [jc, decide_eq_true_eq] at hc; omega
    clear hc
    have k112 : ∀ z s : Int, z = (jcy x y (k + 1) : Nat) → s = (jlb x k + jlb y k + jcy x y k : Nat) → mj_T D mj_m186 112 [some (.ref 0), some (.int (jn to)), some (.int (jn a)), some (.int (jn b)), some (.int (jn sg)), some (.int (jn (max (jnl x) (jnl y) : Nat))), some (.int (jn (jcy x y k))), some (.int (jn (jnl x))), some (.int (jn (jnl y))), some (.int (jn k)), some (.int (jn s))] [.int (jn z)] (jHM t nw bf bg ov db tx wr) Q := by
      intro z s hz hs
      subst hz
      iterate 5 refine mj_T.pl rfl rfl rfl rfl ?_
      refine mj_T.imul (b := 702) rfl ?_
      refine mj_T.pl rfl rfl rfl rfl ?_
      refine mj_T.iadd (b := 2) rfl ?_
      refine mj_T.pl rfl rfl rfl rfl ?_
      refine mj_T.iadd rfl ?_
      rw [show (to : Int) * 702 + 2 + (k : Int) = ((to * 702 + 2 + k : Nat) : Int) by omega]
      iterate 3 refine mj_T.pl rfl rfl rfl rfl ?_
      refine mj_T.imul (b := 1000000000) rfl ?_
      refine mj_T.isub rfl ?_
      rw [show s - ((jcy x y (k + 1) : Nat) : Int) * 1000000000 = ((jlb (x + y) k : Nat) : Int) by omega]
      refine mj_T.iast rfl rfl ⟨by omega, by omega⟩ ⟨by omega, by omega⟩ ?_
      refine mj_T.iinc (a := k) rfl rfl ?_
      refine mj_T.pl rfl rfl rfl rfl ?_
      refine ih (k + 1) (upd bg (to * 702 + 2 + k) (jn (jlb (x + y) k))) _ (by omega) (fun j hj => ?_) (fun q hq => ?_)
      · unfold upd
        by_cases h : j = k
        · subst h; rw [if_pos rfl]
        · rw [if_neg (by omega)]; exact g1 j (by omega)
      · unfold upd
        rw [if_neg (hq k (by omega))]
        exact g2 q (fun j hj => hq j (by omega))
    have k94 : ∀ u w : Int, u = (jlb x k : Nat) → w = (jlb y k : Nat) → mj_T D mj_m186 94 [some (.ref 0), some (.int (jn to)), some (.int (jn a)), some (.int (jn b)), some (.int (jn sg)), some (.int (jn (max (jnl x) (jnl y) : Nat))), some (.int (jn (jcy x y k))), some (.int (jn (jnl x))), some (.int (jn (jnl y))), some (.int (jn k)), l10] [.int (jn w), .int (jn u)] (jHM t nw bf bg ov db tx wr) Q := by
      intro u w hu hw
      refine mj_T.iadd rfl ?_
      refine mj_T.pl rfl rfl rfl rfl ?_
      refine mj_T.iadd rfl ?_
      iterate 3 refine mj_T.pl rfl rfl rfl rfl ?_
      refine mj_T.icmp (b := 1000000000) rfl ⟨by omega, by omega⟩ ⟨by omega, by omega⟩ (fun hc => ?_) (fun hc => ?_)
      · simp only [jc, decide_eq_true_eq] at hc
        refine mj_T.pl rfl rfl rfl rfl ?_
        exact k112 0 _ (by omega) (by omega)
      · simp only [jc, decide_eq_false_iff_not] at hc
        iterate 2 refine mj_T.pl rfl rfl rfl rfl ?_
        exact k112 1 _ (by omega) (by omega)
    have k68 : ∀ u : Int, u = (jlb x k : Nat) → mj_T D mj_m186 68 [some (.ref 0), some (.int (jn to)), some (.int (jn a)), some (.int (jn b)), some (.int (jn sg)), some (.int (jn (max (jnl x) (jnl y) : Nat))), some (.int (jn (jcy x y k))), some (.int (jn (jnl x))), some (.int (jn (jnl y))), some (.int (jn k)), l10] [.int (jn u)] (jHM t nw bf bg ov db tx wr) Q := by
      intro u hu
      iterate 2 refine mj_T.pl rfl rfl rfl rfl ?_
      refine mj_T.icmp rfl ⟨by omega, by omega⟩ ⟨by omega, by omega⟩ (fun hc => ?_) (fun hc => ?_)
      · simp only [jc, decide_eq_true_eq] at hc
        refine mj_T.pl rfl rfl rfl rfl ?_
        exact k94 u 0 hu (by rw [jlb_high (show jnl y ≤ k by omega)]; rfl)
      · simp only [jc, decide_eq_false_iff_not] at hc
        iterate 4 refine mj_T.pl rfl rfl rfl rfl ?_
        refine mj_T.imul (b := 702) rfl ?_
        refine mj_T.pl rfl rfl rfl rfl ?_
        refine mj_T.iadd (b := 2) rfl ?_
        refine mj_T.pl rfl rfl rfl rfl ?_
        refine mj_T.iadd rfl ?_
        rw [show (b : Int) * 702 + 2 + (k : Int) = ((b * 702 + 2 + k : Nat) : Int) by omega]
        refine mj_T.ialv rfl rfl ⟨by omega, by omega⟩ ⟨by omega, by omega⟩ ((g2 (b * 702 + 2 + k) (fun j hj => by omega)).trans (h2 k (by omega))) ?_
        refine mj_T.pl rfl rfl rfl rfl ?_
        exact k94 u _ hu rfl
    iterate 2 refine mj_T.pl rfl rfl rfl rfl ?_
    refine mj_T.icmp rfl ⟨by omega, by omega⟩ ⟨by omega, by omega⟩ (fun hc => ?_) (fun hc => ?_)
    · simp only [jc, decide_eq_true_eq] at hc
      refine mj_T.pl rfl rfl rfl rfl ?_
      exact k68 0 (by rw [jlb_high (show jnl x ≤ k by omega)]; rfl)
    · simp only [jc, decide_eq_false_iff_not] at hc
      iterate 4 refine mj_T.pl rfl rfl rfl rfl ?_
      refine mj_T.imul (b := 702) rfl ?_
      refine mj_T.pl rfl rfl rfl rfl ?_
      refine mj_T.iadd (b := 2) rfl ?_
      refine mj_T.pl rfl rfl rfl rfl ?_
      refine mj_T.iadd rfl ?_
      rw [show (a : Int) * 702 + 2 + (k : Int) = ((a * 702 + 2 + k : Nat) : Int) by omega]
      refine mj_T.ialv rfl rfl ⟨by omega, by omega⟩ ⟨by omega, by omega⟩ ((g2 (a * 702 + 2 + k) (fun j hj => by omega)).trans (h1 k (by omega))) ?_
      refine mj_T.pl rfl rfl rfl rfl ?_
      exact k68 _ rfl
end MJR3
