/-! Of the reference and of numbers (as in p1, part 77.). -/
theorem jw_self_loop {D n x : Nat} {g0 : Int32} {g : Nat → Int32} (hn : n < 2147483648) (hcap : jnl (x + x) ≤ n) (hg : ∀ j, j < jnl x → g j = jn (jlb x j)) {Q : mj_R → Prop}
    (hend : ∀ (gi : Nat → Int32) (sz : Int), (jnl (x + x) = 0 ∨ sz = jnl (x + x)) → (∀ j, j < jnl (x + x) → gi j = jn (jlb (x + x) j)) → Q (.inl none, (jH1 n sz g0 gi))) :
    ∀ (d i : Nat) (gi : Nat → Int32) (sz : Int) (l6 : Option Value), i + d = n → i ≤ jnl (x + x) → (i = 0 ∨ sz = i) → (∀ j, j < i → gi j = jn (jlb (x + x) j)) → (∀ j, i ≤ j → gi j = g j) →
      mj_T D mj_m93 24 [some (.ref 0), some (.ref 0), some (.int (jn (jnl x))), some (.int (jn (jnl x))), some (.int (jn (jcy x x i))), some (.int (jn i)), l6] [] (jH1 n sz g0 gi) Q := by
  intro d
  induction d with
  | zero =>
    intro i gi sz l6 hid hil hsz hg1 hg2
    iterate 3 refine mj_T.pl rfl rfl rfl rfl ?_
    refine mj_T.alen rfl rfl ?_
    refine mj_T.icmp rfl ⟨by omega, by omega⟩ ⟨by omega, by omega⟩ (fun hc31 => ?_) (fun hc31 => ?_)
    · have e : i = jnl (x + x) := by omega
      subst e
      exact mj_T.ret rfl rfl rfl (hend gi sz (by omega) hg1)
    · simp only [jc, decide_eq_false_iff_not] at hc31; omega
  | succ d ih =>
    intro i gi sz l6 hid hil hsz hg1 hg2
    have hcx := jcy_le x x i
    have hxn : jnl x ≤ n := Nat.le_trans (jnl_mono (Nat.le_add_right x x)) hcap
    iterate 3 refine mj_T.pl rfl rfl rfl rfl ?_
    refine mj_T.alen rfl rfl ?_
    refine mj_T.icmp rfl ⟨by omega, by omega⟩ ⟨by omega, by omega⟩ (fun hc31 => ?_) (fun hc31 => ?_)
    · simp only [jc, decide_eq_true_eq] at hc31; omega
    clear hc31
    have key : (i < jnl x ∨ i < jnl x ∨ 0 < jcy x x i) → mj_T D mj_m93 51 [some (.ref 0), some (.ref 0), some (.int (jn (jnl x))), some (.int (jn (jnl x))), some (.int (jn (jcy x x i))), some (.int (jn i)), l6] [] (jH1 n sz g0 gi) Q := by
      intro hgo
      have hl := jcy_limb x x i
      have hnx := jcy_next x x i
      have hx1 := jlb_lt x i
      have hy1 := jlb_lt x i
      have hnl := jcy_grow hgo
      have t5 : ∀ (z s : Int), s = (jlb x i + jlb x i + jcy x x i : Nat) → z = (jcy x x (i + 1) : Nat) → mj_T D mj_m93 103 [some (.ref 0), some (.ref 0), some (.int (jn (jnl x))), some (.int (jn (jnl x))), some (.int (jn (jcy x x i))), some (.int (jn i)), some (.int (jn s))] [.int (jn z)] (jH1 n sz g0 gi) Q := by
        intro z s hs hz
        iterate 7 refine mj_T.pl rfl rfl rfl rfl ?_
        refine mj_T.imul (b := 1000000000) rfl ?_
        refine mj_T.isub rfl ?_
        refine mj_T.iast rfl rfl ⟨by omega, by omega⟩ ⟨by omega, by omega⟩ ?_
        iterate 3 refine mj_T.pl rfl rfl rfl rfl ?_
        refine mj_T.iadd (b := 1) rfl ?_
        refine mj_T.pl rfl rfl rfl rfl ?_
        refine mj_T.iinc (a := i) rfl rfl ?_
        refine mj_T.pl rfl rfl rfl rfl ?_
        subst hz
        refine ih (i + 1) (upd gi i (jn (s - (jcy x x (i + 1) : Nat) * 1000000000))) (i + 1) (some (.int (jn s))) (by omega) (by omega) (Or.inr (by omega)) (fun j hj => ?_) (fun j hj => ?_)
        · unfold upd
          split
          · rename_i h
            subst h
            congr 1
            rw [hl, hs, hnx]
            have := Nat.div_add_mod (jlb x j + jlb x j + jcy x x j) 1000000000
            show _ = (((jlb x j + jlb x j + jcy x x j) % 1000000000 : Nat) : Int)
            have e2 : ((jlb x j + jlb x j + jcy x x j) / jB : Nat) = (jlb x j + jlb x j + jcy x x j) / 1000000000 := rfl
            rw [e2]
            omega
          · exact hg1 j (by omega)
        · unfold upd
          rw [if_neg (by omega)]
          exact hg2 j (by omega)
      have t4 : ∀ (z : Int) (s : Int), s = (jlb x i + jcy x x i : Nat) → z = (jlb x i : Nat) → mj_T D mj_m93 88 [some (.ref 0), some (.ref 0), some (.int (jn (jnl x))), some (.int (jn (jnl x))), some (.int (jn (jcy x x i))), some (.int (jn i)), l6] [.int (jn z), .int (jn s)] (jH1 n sz g0 gi) Q := by
        intro z s hs hz
        refine mj_T.iadd rfl ?_
        iterate 3 refine mj_T.pl rfl rfl rfl rfl ?_
        have e2 : ((jlb x i + jlb x i + jcy x x i) / jB : Nat) = (jlb x i + jlb x i + jcy x x i) / 1000000000 := rfl
        refine mj_T.icmp (b := 1000000000) rfl ⟨by omega, by omega⟩ ⟨by omega, by omega⟩ (fun hc95 => ?_) (fun hc95 => ?_)
        · simp only [jc, decide_eq_true_eq] at hc95
          refine mj_T.pl rfl rfl rfl rfl ?_
          exact t5 0 (s + z) (by omega) (by omega)
        · simp only [jc, decide_eq_false_iff_not] at hc95
          iterate 2 refine mj_T.pl rfl rfl rfl rfl ?_
          exact t5 1 (s + z) (by omega) (by omega)
      have t3 : ∀ (z : Int), z = (jlb x i : Nat) → mj_T D mj_m93 70 [some (.ref 0), some (.ref 0), some (.int (jn (jnl x))), some (.int (jn (jnl x))), some (.int (jn (jcy x x i))), some (.int (jn i)), l6] [.int (jn z), .int (jn (jcy x x i))] (jH1 n sz g0 gi) Q := by
        intro z hz
        refine mj_T.iadd rfl ?_
        iterate 2 refine mj_T.pl rfl rfl rfl rfl ?_
        refine mj_T.icmp rfl ⟨by omega, by omega⟩ ⟨by omega, by omega⟩ (fun hc74 => ?_) (fun hc74 => ?_)
        · simp only [jc, decide_eq_true_eq] at hc74
          refine mj_T.pl rfl rfl rfl rfl ?_
          exact t4 0 _ (by omega) (by have := jlb_high (x := x) (j := i) (by omega); omega)
        · simp only [jc, decide_eq_false_iff_not] at hc74
          iterate 3 refine mj_T.pl rfl rfl rfl rfl ?_
          refine mj_T.ialv rfl rfl ⟨by omega, by omega⟩ ⟨by omega, by omega⟩ ((hg2 i (Nat.le_refl i)).trans (hg i (by omega))) ?_
          refine mj_T.pl rfl rfl rfl rfl ?_
          exact t4 _ _ (by omega) rfl
      iterate 3 refine mj_T.pl rfl rfl rfl rfl ?_
      refine mj_T.icmp rfl ⟨by omega, by omega⟩ ⟨by omega, by omega⟩ (fun hc56 => ?_) (fun hc56 => ?_)
      · simp only [jc, decide_eq_true_eq] at hc56
        refine mj_T.pl rfl rfl rfl rfl ?_
        exact t3 0 (by have := jlb_high (x := x) (j := i) (by omega); omega)
      · simp only [jc, decide_eq_false_iff_not] at hc56
        iterate 3 refine mj_T.pl rfl rfl rfl rfl ?_
        refine mj_T.ialv rfl rfl ⟨by omega, by omega⟩ ⟨by omega, by omega⟩ ((hg2 i (Nat.le_refl i)).trans (hg i (by omega))) ?_
        refine mj_T.pl rfl rfl rfl rfl ?_
        exact t3 _ rfl
    iterate 2 refine mj_T.pl rfl rfl rfl rfl ?_
    refine mj_T.icmp rfl ⟨by omega, by omega⟩ ⟨by omega, by omega⟩ (fun hc37 => ?_) (fun hc37 => ?_)
    · simp only [jc, decide_eq_true_eq] at hc37
      exact key (by omega)
    · simp only [jc, decide_eq_false_iff_not] at hc37
      iterate 2 refine mj_T.pl rfl rfl rfl rfl ?_
      refine mj_T.icmp rfl ⟨by omega, by omega⟩ ⟨by omega, by omega⟩ (fun hc43 => ?_) (fun hc43 => ?_)
      · simp only [jc, decide_eq_true_eq] at hc43
        exact key (by omega)
      · simp only [jc, decide_eq_false_iff_not] at hc43
        refine mj_T.pl rfl rfl rfl rfl ?_
        refine mj_T.if0 rfl ⟨by omega, by omega⟩ (fun hc48 => ?_) (fun hc48 => ?_)
        · simp only [jc, decide_eq_true_eq] at hc48
          have e : i = jnl (x + x) := by have := jcy_end (x := x) (y := x) (i := i) (by omega) (by omega) (by omega); omega
          subst e
          exact mj_T.ret rfl rfl rfl (hend gi sz (by omega) hg1)
        · simp only [jc, decide_eq_false_iff_not] at hc48
          exact key (by omega)
theorem jw_self {D n x : Nat} {g0 : Int32} {g : Nat → Int32} (hn : n < 2147483648) (hcap : jnl (x + x) ≤ n) (hg : ∀ j, j < jnl x → g j = jn (jlb x j)) (h0 : 0 < x) :
    mj_Ok (D + 1) 93 [.ref 0, .ref 0] (jH1 n (jnl x) g0 g)
      (fun r => ∃ g' : Nat → Int32, (∀ j, j < jnl (x + x) → g' j = jn (jlb (x + x) j)) ∧ r = (.inl none, (jH1 n (jnl (x + x)) g0 g'))) := by
  have hxn : jnl x ≤ n := Nat.le_trans (jnl_mono (Nat.le_add_right x x)) hcap
  refine mj_Ok.of (M := mj_m93) rfl rfl rfl ?_
  iterate 7 refine mj_T.pl rfl rfl rfl rfl ?_
  refine mj_T.alen rfl rfl ?_
  refine mj_T.imin rfl rfl (Nat.le_of_ble_eq_true rfl) ⟨by omega, by omega⟩ ⟨by omega, by omega⟩ ?_
  rw [show min (jnl x : Int) (n : Int) = (jnl x : Nat) by omega]
  iterate 5 refine mj_T.pl rfl rfl rfl rfl ?_
  refine mj_T.eq (jw_self_loop (x := x) (g := g) hn hcap hg (fun gi sz hsz hgi => ?_) n 0 g (jnl x) none (by omega) (Nat.zero_le _) (Or.inl rfl) (fun j hj => by omega) (fun j _ => rfl)) rfl ?_ rfl rfl
  · rcases hsz with h | h
    · have := jnl_eq0.mp h; omega
    · subst h; exact ⟨gi, hgi, rfl⟩
  · rw [jcy_zero]; rfl
theorem jw_plus_self {D n : Nat} {u : Int} {g : Nat → Int32} (hn : n < 2147483648) (hu : jnl u.natAbs ≤ n) (hcap : jnl (u + u).natAbs ≤ n) (hg : ∀ j, j < jnl u.natAbs → g j = jn (jlb u.natAbs j)) :
    mj_Ok (D + 2) 91 [.ref 0, .ref 0, .int (jn 1)] (jH1 n (jnl u.natAbs) (jn (jsg u)) g)
      (fun r => ∃ g' : Nat → Int32, (∀ j, j < jnl (u + u).natAbs → g' j = jn (jlb (u + u).natAbs j)) ∧ r = (.inl none, jH1 n (jnl (u + u).natAbs) (jn (jsg (u + u))) g')) := by
  have hsu := jsg_range u
  refine mj_Ok.of (M := mj_m91) rfl rfl rfl ?_
  iterate 3 refine mj_T.pl rfl rfl rfl rfl ?_
  refine mj_T.imul rfl ?_
  rw [Int.mul_one]
  iterate 2 refine mj_T.pl rfl rfl rfl rfl ?_
  refine mj_T.if0 rfl ⟨by omega, by omega⟩ (fun hc8 => ?_) (fun hc8 => ?_)
  · simp only [jc, Bool.not_eq_true', decide_eq_false_iff_not] at hc8
    have hz : u ≠ 0 := fun h => hc8 (by rw [h]; rfl)
    iterate 2 refine mj_T.pl rfl rfl rfl rfl ?_
    refine mj_T.if0 rfl ⟨by omega, by omega⟩ (fun hc16 => ?_) (fun hc16 => ?_)
    · iterate 3 refine mj_T.pl rfl rfl rfl rfl ?_
      refine mj_T.icmp rfl ⟨by omega, by omega⟩ ⟨by omega, by omega⟩ (fun hc37 => ?_) (fun hc37 => ?_)
      · exact absurd hc37 (by simp [jc])
      have e : (u + u).natAbs = u.natAbs + u.natAbs := by omega
      iterate 2 refine mj_T.pl rfl rfl rfl rfl ?_
      refine mj_T.call (ins := .invokevirtual 32) rfl rfl (Nat.le_of_ble_eq_true rfl) (Nat.le_of_ble_eq_true rfl) rfl rfl (jw_self (D := D) (x := u.natAbs) hn (by rw [← e]; exact hcap) hg (by omega)) (fun v h' hq' => ?_) (fun i h' hq' => by obtain ⟨_, _, hq'⟩ := hq'; cases hq')
      obtain ⟨g', hg', hq'⟩ := hq'
      cases hq'
      rw [← e] at hg' ⊢
      refine mj_T.pl rfl rfl rfl rfl ?_
      iterate 3 refine mj_T.pl rfl rfl rfl rfl ?_
      refine mj_T.if0 rfl ⟨by omega, by omega⟩ (fun hc81 => ?_) (fun hc81 => ?_)
      · iterate 3 refine mj_T.pl rfl rfl rfl rfl ?_
        have es : jsg u = jsg (u + u) := by
          rcases Int.lt_trichotomy u 0 with q | q | q
          · rw [jsg_neg q, jsg_neg (by omega)]
          · exact absurd q hz
          · rw [jsg_pos q, jsg_pos (by omega)]
        rw [es]
        exact mj_T.ret rfl rfl rfl ⟨g', hg', rfl⟩
      · simp only [jc, Bool.not_eq_false', decide_eq_true_eq] at hc81
        have h0 : (u + u).natAbs = 0 := jnl_eq0.mp (by omega)
        omega
    · simp only [jc, Bool.not_eq_false', decide_eq_true_eq] at hc16
      rcases Int.lt_trichotomy u 0 with q | q | q
      · rw [jsg_neg q] at hc16; omega
      · exact absurd q hz
      · rw [jsg_pos q] at hc16; omega
  · simp only [jc, Bool.not_eq_false', decide_eq_true_eq] at hc8
    have hz : u = 0 := by
      rcases Int.lt_trichotomy u 0 with q | q | q
      · rw [jsg_neg q] at hc8; omega
      · exact q
      · rw [jsg_pos q] at hc8; omega
    subst hz
    exact mj_T.ret rfl rfl rfl ⟨g, hg, rfl⟩

