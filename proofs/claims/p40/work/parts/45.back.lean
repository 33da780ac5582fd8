/-! Divisor: putBack. -/
theorem jw_back_loop {D nd m S V R place : Nat} {sv fac s2 : Int} {gv gy : Nat → Int32} (hnd : nd ≤ 1000) (hm : m ≤ 1000) (hVn : jnl V ≤ nd) (htop : place + jnl V ≤ m) (hgv : ∀ j, j < jnl V → gv j = jn (jlb V j)) (hgy : ∀ j, j < jnl V → gy (place + j) = jn (jlb R j)) {Q : mj_R → Prop}
    (hend : ∀ (gi : Nat → Int32), (∀ j, j < place → gi j = gy j) → (∀ j, j < jnl V → gi (place + j) = jn (jlb (R + V) j)) → (∀ j, place + jnl V ≤ j → gi j = gy j) → Q (.inl none, jHD nd m (jnl V) sv fac S s2 gv gi)) :
    ∀ (d i : Nat) (gi : Nat → Int32) (l6 : Option Value), i + d = jnl V → (∀ j, j < place → gi j = gy j) → (∀ j, j < i → gi (place + j) = jn (jlb (R + V) j)) → (∀ j, place + i ≤ j → gi j = gy j) →
      mj_T D mj_m34 15 [some (.ref 0), some (.ref 2), some (.int (jn place)), some (.ref 3), some (.int (jn (jcy R V i))), some (.int (jn (place + i : Nat))), l6] [] (jHD nd m (jnl V) sv fac S s2 gv gi) Q := by
  intro d
  induction d with
  | zero =>
    intro i gi l6 hid hg1 hg2 hg3
    have ei : i = jnl V := by omega
    subst ei
    iterate 4 refine mj_T.pl rfl rfl rfl rfl ?_
    refine mj_T.iadd rfl ?_
    refine mj_T.icmp rfl ⟨by omega, by omega⟩ ⟨by omega, by omega⟩ (fun hc23 => ?_) (fun hc23 => ?_)
    · exact mj_T.ret rfl rfl rfl (hend gi hg1 hg2 hg3)
    · simp only [jc, decide_eq_false_iff_not] at hc23; omega
  | succ d ih =>
    intro i gi l6 hid hg1 hg2 hg3
    have hcx := jcy_le R V i
    have hcx2 := jcy_le R V (i + 1)
    have hu1 := jlb_lt R i
    have hv1 := jlb_lt V i
    have hz1 := jlb_lt (R + V) i
    have hlim : jlb (R + V) i = (jlb R i + jlb V i + jcy R V i) % 1000000000 := jcy_limb R V i
    have hnx : jcy R V (i + 1) = (jlb R i + jlb V i + jcy R V i) / 1000000000 := jcy_next R V i
    iterate 4 refine mj_T.pl rfl rfl rfl rfl ?_
    refine mj_T.iadd rfl ?_
    refine mj_T.icmp rfl ⟨by omega, by omega⟩ ⟨by omega, by omega⟩ (fun hc23 => ?_) (fun hc23 => ?_)
    · simp only [jc, decide_eq_true_eq] at hc23; omega
    clear hc23
    iterate 2 refine mj_T.pl rfl rfl rfl rfl ?_
    refine mj_T.alen rfl rfl ?_
    refine mj_T.icmp rfl ⟨by omega, by omega⟩ ⟨by omega, by omega⟩ (fun hc30 => ?_) (fun hc30 => ?_)
    · simp only [jc, decide_eq_true_eq] at hc30; omega
    clear hc30
    iterate 2 refine mj_T.pl rfl rfl rfl rfl ?_
    refine mj_T.ialv rfl rfl ⟨by omega, by omega⟩ ⟨by omega, by omega⟩ ((hg3 (place + i) (Nat.le_refl _)).trans (hgy i (by omega))) ?_
    iterate 4 refine mj_T.pl rfl rfl rfl rfl ?_
    refine mj_T.isub rfl ?_
    rw [show ((place + i : Nat) : Int) - (place : Int) = (i : Int) by omega]
    refine mj_T.ialv rfl rfl ⟨by omega, by omega⟩ ⟨by omega, by omega⟩ (hgv i (by omega)) ?_
    refine mj_T.iadd rfl ?_
    refine mj_T.pl rfl rfl rfl rfl ?_
    refine mj_T.iadd rfl ?_
    iterate 3 refine mj_T.pl rfl rfl rfl rfl ?_
    have k : ∀ b : Int, b = (jcy R V (i + 1) : Nat) → mj_T D mj_m34 64 [some (.ref 0), some (.ref 2), some (.int (jn place)), some (.ref 3), some (.int (jn (jcy R V i))), some (.int (jn (place + i : Nat))), some (.int (jn (((jlb R i : Nat) : Int) + ((jlb V i : Nat) : Int) + ((jcy R V i : Nat) : Int))))] [.int (jn b)] (jHD nd m (jnl V) sv fac S s2 gv gi) Q := by
      intro b hb
      subst hb
      iterate 6 refine mj_T.pl rfl rfl rfl rfl ?_
      refine mj_T.imul (b := 1000000000) rfl ?_
      refine mj_T.isub rfl ?_
      rw [show ((jlb R i : Nat) : Int) + ((jlb V i : Nat) : Int) + ((jcy R V i : Nat) : Int) - ((jcy R V (i + 1) : Nat) : Int) * 1000000000 = ((jlb (R + V) i : Nat) : Int) by omega]
      refine mj_T.iast rfl rfl ⟨by omega, by omega⟩ ⟨by omega, by omega⟩ ?_
      refine mj_T.iinc (a := (place + i : Nat)) rfl rfl ?_
      refine mj_T.pl rfl rfl rfl rfl ?_
      rw [show ((place + i : Nat) : Int) + 1 = ((place + (i + 1) : Nat) : Int) by omega]
      refine ih (i + 1) (upd gi (place + i) (jn (jlb (R + V) i))) _ (by omega) (fun j hj => ?_) (fun j hj => ?_) (fun j hj => ?_)
      · unfold upd
        rw [if_neg (by omega)]
        exact hg1 j hj
      · unfold upd
        by_cases h : j = i
        · subst h
          rw [if_pos rfl]
        · rw [if_neg (by omega)]
          exact hg2 j (by omega)
      · unfold upd
        rw [if_neg (by omega)]
        exact hg3 j (by omega)
    refine mj_T.icmp (b := 1000000000) rfl ⟨by omega, by omega⟩ ⟨by omega, by omega⟩ (fun hc56 => ?_) (fun hc56 => ?_)
    · simp only [jc, decide_eq_true_eq] at hc56
      refine mj_T.pl rfl rfl rfl rfl ?_
      exact k 0 (by omega)
    · simp only [jc, decide_eq_false_iff_not] at hc56
      iterate 2 refine mj_T.pl rfl rfl rfl rfl ?_
      exact k 1 (by omega)
theorem jw_putBack {D nd m S V R place : Nat} {sv fac s2 : Int} {gv gy : Nat → Int32} (hnd : nd ≤ 1000) (hm : m ≤ 1000) (hVn : jnl V ≤ nd) (htop : place + jnl V ≤ m) (hgv : ∀ j, j < jnl V → gv j = jn (jlb V j)) (hgy : ∀ j, j < jnl V → gy (place + j) = jn (jlb R j)) :
    mj_Ok (D + 1) 34 [.ref 0, .ref 2, .int (jn place)] (jHD nd m (jnl V) sv fac S s2 gv gy)
      (fun r => ∃ gi : Nat → Int32, (∀ j, j < place → gi j = gy j) ∧ (∀ j, j < jnl V → gi (place + j) = jn (jlb (R + V) j)) ∧ (∀ j, place + jnl V ≤ j → gi j = gy j) ∧ r = (.inl none, jHD nd m (jnl V) sv fac S s2 gv gi)) := by
  refine mj_Ok.of (M := mj_m34) rfl rfl rfl ?_
  iterate 7 refine mj_T.pl rfl rfl rfl rfl ?_
  refine mj_T.imax (b := 0) rfl rfl (Nat.le_of_ble_eq_true rfl) ⟨by omega, by omega⟩ ⟨by omega, by omega⟩ ?_
  rw [show max (place : Int) 0 = ((place + 0 : Nat) : Int) by omega]
  refine mj_T.pl rfl rfl rfl rfl ?_
  refine mj_T.eq (jw_back_loop (R := R) (V := V) (S := S) (s2 := s2) (sv := sv) (fac := fac) (gy := gy) hnd hm hVn htop hgv hgy (fun gi h1 h2 h3 => ⟨gi, h1, h2, h3, rfl⟩) (jnl V) 0 gy none (by omega) (fun j _ => rfl) (fun j hj => by omega) (fun j _ => rfl)) rfl ?_ rfl rfl
  rw [jcy_zero]
  rfl
