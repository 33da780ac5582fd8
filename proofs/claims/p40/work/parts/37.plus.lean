/-! Wide: plus. -/
theorem jsg_range (v : Int) : -1 ≤ jsg v ∧ jsg v ≤ 1 := by unfold jsg; (repeat' split) <;> omega
theorem jsg_pos {v : Int} (h : 0 < v) : jsg v = 1 := by unfold jsg; rw [if_neg (by omega), if_pos h]
theorem jsg_neg {v : Int} (h : v < 0) : jsg v = -1 := by unfold jsg; rw [if_pos h]
theorem jsg_zero : jsg 0 = 0 := rfl
theorem jw_plus {D n m : Nat} {u w f : Int} {g q : Nat → Int32} (hn : n < 2147483648) (hm : m < 2147483648) (hf : f = 1 ∨ f = -1) (hu : jnl u.natAbs ≤ n) (hw : jnl w.natAbs ≤ m) (hwn : jnl w.natAbs ≤ n) (hcap : jnl (u + f * w).natAbs ≤ n) (hg : ∀ j, j < jnl u.natAbs → g j = jn (jlb u.natAbs j)) (hq : ∀ j, j < jnl w.natAbs → q j = jn (jlb w.natAbs j)) :
    mj_Ok (D + 2) 91 [.ref 0, .ref 2, .int (jn f)] (jH2 n m (jnl u.natAbs) (jnl w.natAbs) (jn (jsg u)) (jsg w) g q)
      (fun r => ∃ g' : Nat → Int32, (∀ j, j < jnl (u + f * w).natAbs → g' j = jn (jlb (u + f * w).natAbs j)) ∧ r = (.inl none, jH2 n m (jnl (u + f * w).natAbs) (jnl w.natAbs) (jn (jsg (u + f * w))) (jsg w) g' q)) := by
  have hsu := jsg_range u
  have hsw := jsg_range w
  have hfr : -1 ≤ jsg w * f ∧ jsg w * f ≤ 1 ∧ jsg w * f = jsg (f * w) := by
    rcases hf with rfl | rfl
    · rw [Int.mul_one, Int.one_mul]; exact ⟨hsw.1, hsw.2, rfl⟩
    · refine ⟨by omega, by omega, ?_⟩
      unfold jsg
      (repeat' split) <;> omega
  have hfw : (f * w).natAbs = w.natAbs := by rcases hf with rfl | rfl <;> omega
  generalize f * w = z at hcap hfr hfw ⊢
  refine mj_Ok.of (M := mj_m91) rfl rfl rfl ?_
  iterate 3 refine mj_T.pl rfl rfl rfl rfl ?_
  refine mj_T.imul rfl ?_
  obtain ⟨hf1, hf2, hf3⟩ := hfr
  rw [hf3] at hf1 hf2
  rw [hf3]
  iterate 2 refine mj_T.pl rfl rfl rfl rfl ?_
  refine mj_T.if0 rfl ⟨by omega, by omega⟩ (fun hc8 => ?_) (fun hc8 => ?_)
  · simp only [jc, Bool.not_eq_true', decide_eq_false_iff_not] at hc8
    have hz : z ≠ 0 := fun h => hc8 (by rw [h]; rfl)
    -- the end: the size tells the sign
    have fin : ∀ (g' : Nat → Int32) (v : Int), (∀ j, j < jnl (u + z).natAbs → g' j = jn (jlb (u + z).natAbs j)) → -1 ≤ v ∧ v ≤ 1 → (u + z ≠ 0 → v = jsg (u + z)) →
        mj_T (D + 1) mj_m91 76 [some (.ref 0), some (.ref 2), some (.int (jn f)), some (.int (jn (jsg z)))] [] (jH2 n m (jnl (u + z).natAbs) (jnl w.natAbs) (jn v) (jsg w) g' q)
          (fun r => ∃ g' : Nat → Int32, (∀ j, j < jnl (u + z).natAbs → g' j = jn (jlb (u + z).natAbs j)) ∧ r = (.inl none, jH2 n m (jnl (u + z).natAbs) (jnl w.natAbs) (jn (jsg (u + z))) (jsg w) g' q)) := by
      intro g' v hg' hv1 hv2
      iterate 3 refine mj_T.pl rfl rfl rfl rfl ?_
      refine mj_T.if0 rfl ⟨by omega, by omega⟩ (fun hc81 => ?_) (fun hc81 => ?_)
      · simp only [jc, Bool.not_eq_true', decide_eq_false_iff_not] at hc81
        have h0 : u + z ≠ 0 := fun h => hc81 (by rw [h]; exact congrArg Int.ofNat jnl_zero)
        rw [hv2 h0]
        iterate 3 refine mj_T.pl rfl rfl rfl rfl ?_
        exact mj_T.ret rfl rfl rfl ⟨g', hg', rfl⟩
      · simp only [jc, Bool.not_eq_false', decide_eq_true_eq] at hc81
        have h0 : u + z = 0 := by have := jnl_eq0 (x := (u + z).natAbs); omega
        iterate 3 refine mj_T.pl rfl rfl rfl rfl ?_
        rw [h0] at hg' ⊢
        exact mj_T.ret rfl rfl rfl ⟨g', hg', rfl⟩
    iterate 2 refine mj_T.pl rfl rfl rfl rfl ?_
    refine mj_T.if0 rfl ⟨by omega, by omega⟩ (fun hc16 => ?_) (fun hc16 => ?_)
    · simp only [jc, Bool.not_eq_true', decide_eq_false_iff_not] at hc16
      have hu0 : u ≠ 0 := fun h => hc16 (by rw [h]; rfl)
      iterate 3 refine mj_T.pl rfl rfl rfl rfl ?_
      refine mj_T.icmp rfl ⟨by omega, by omega⟩ ⟨by omega, by omega⟩ (fun hc37 => ?_) (fun hc37 => ?_)
      · simp only [jc, Bool.not_eq_true', decide_eq_false_iff_not] at hc37
        -- unlike signs
        have hopp : (0 < u ∧ z < 0) ∨ (u < 0 ∧ 0 < z) := by
          rcases Int.lt_trichotomy u 0 with h1 | h1 | h1
          · rcases Int.lt_trichotomy z 0 with h2 | h2 | h2
            · exact absurd ((jsg_neg h1).trans (jsg_neg h2).symm) hc37
            · exact absurd h2 hz
            · exact Or.inr ⟨h1, h2⟩
          · exact absurd h1 hu0
          · rcases Int.lt_trichotomy z 0 with h2 | h2 | h2
            · exact Or.inl ⟨h1, h2⟩
            · exact absurd h2 hz
            · exact absurd ((jsg_pos h1).trans (jsg_pos h2).symm) hc37
        iterate 2 refine mj_T.pl rfl rfl rfl rfl ?_
        refine mj_T.call (ins := .invokevirtual 35) rfl rfl (Nat.le_of_ble_eq_true rfl) (Nat.le_of_ble_eq_true rfl) rfl rfl (jw_isLess (D := D) (x := u.natAbs) (y := w.natAbs) hn hm hu hw hg hq) (fun v h' hq' => ?_) (fun i h' hq' => by cases hq')
        cases hq'
        refine mj_T.if0 rfl ⟨by split <;> omega, by split <;> omega⟩ (fun hc53 => ?_) (fun hc53 => ?_)
        · simp only [jc, decide_eq_true_eq] at hc53
          have hle : ¬ u.natAbs < w.natAbs := fun h => by rw [if_pos h] at hc53; omega
          iterate 3 refine mj_T.pl rfl rfl rfl rfl ?_
          refine mj_T.call (ins := .invokevirtual 39) rfl rfl (Nat.le_of_ble_eq_true rfl) (Nat.le_of_ble_eq_true rfl) rfl rfl (jw_differB (D := D) (x := u.natAbs) (y := w.natAbs) (z := (u + z).natAbs) hn hm (by omega) hu hu hw hg hq) (fun v h' hq' => ?_) (fun i h' hq' => by obtain ⟨_, _, hq'⟩ := hq'; cases hq')
          obtain ⟨g', hg', hq'⟩ := hq'
          cases hq'
          exact fin g' _ hg' hsu (fun h0 => by
            rcases hopp with ⟨a, b⟩ | ⟨a, b⟩
            · rw [jsg_pos a, jsg_pos (by omega)]
            · rw [jsg_neg a, jsg_neg (by omega)])
        · simp only [jc, decide_eq_false_iff_not] at hc53
          have hlt : u.natAbs < w.natAbs := Decidable.byContradiction fun h => by rw [if_neg h] at hc53; exact hc53 rfl
          iterate 3 refine mj_T.pl rfl rfl rfl rfl ?_
          refine mj_T.call (ins := .invokevirtual 39) rfl rfl (Nat.le_of_ble_eq_true rfl) (Nat.le_of_ble_eq_true rfl) rfl rfl (jw_differA (D := D) (x := w.natAbs) (y := u.natAbs) (z := (u + z).natAbs) hn hm (by omega) hwn hw hu hg hq) (fun v h' hq' => ?_) (fun i h' hq' => by obtain ⟨_, _, hq'⟩ := hq'; cases hq')
          obtain ⟨g', hg', hq'⟩ := hq'
          cases hq'
          iterate 4 refine mj_T.pl rfl rfl rfl rfl ?_
          exact fin g' _ hg' ⟨by omega, by omega⟩ (fun h0 => by
            rcases hopp with ⟨a, b⟩ | ⟨a, b⟩
            · rw [jsg_neg b, jsg_neg (by omega)]
            · rw [jsg_pos b, jsg_pos (by omega)])
      · simp only [jc, Bool.not_eq_false', decide_eq_true_eq] at hc37
        have hsame : (0 < u ∧ 0 < z) ∨ (u < 0 ∧ z < 0) := by
          rcases Int.lt_trichotomy u 0 with h1 | h1 | h1
          · rcases Int.lt_trichotomy z 0 with h2 | h2 | h2
            · exact Or.inr ⟨h1, h2⟩
            · exact absurd h2 hz
            · rw [jsg_neg h1, jsg_pos h2] at hc37; omega
          · exact absurd h1 hu0
          · rcases Int.lt_trichotomy z 0 with h2 | h2 | h2
            · rw [jsg_pos h1, jsg_neg h2] at hc37; omega
            · exact absurd h2 hz
            · exact Or.inl ⟨h1, h2⟩
        have e : (u + z).natAbs = u.natAbs + w.natAbs := by omega
        iterate 2 refine mj_T.pl rfl rfl rfl rfl ?_
        refine mj_T.call (ins := .invokevirtual 32) rfl rfl (Nat.le_of_ble_eq_true rfl) (Nat.le_of_ble_eq_true rfl) rfl rfl (jw_gather (D := D) (x := u.natAbs) (y := w.natAbs) hn hm (by rw [← e]; exact hcap) hw hg hq (by omega)) (fun v h' hq' => ?_) (fun i h' hq' => by obtain ⟨_, _, hq'⟩ := hq'; cases hq')
        obtain ⟨g', hg', hq'⟩ := hq'
        cases hq'
        rw [← e] at hg' ⊢
        refine mj_T.pl rfl rfl rfl rfl ?_
        exact fin g' _ hg' hsu (fun h0 => by
          rcases hsame with ⟨a, b⟩ | ⟨a, b⟩
          · rw [jsg_pos a, jsg_pos (by omega)]
          · rw [jsg_neg a, jsg_neg (by omega)])
    · simp only [jc, Bool.not_eq_false', decide_eq_true_eq] at hc16
      have hu0 : u = 0 := by
        rcases Int.lt_trichotomy u 0 with h1 | h1 | h1
        · rw [jsg_neg h1] at hc16; omega
        · exact h1
        · rw [jsg_pos h1] at hc16; omega
      subst hu0
      rw [Int.zero_add] at hcap fin ⊢
      iterate 2 refine mj_T.pl rfl rfl rfl rfl ?_
      refine mj_T.call (ins := .invokevirtual 28) rfl rfl (Nat.le_of_ble_eq_true rfl) (Nat.le_of_ble_eq_true rfl) rfl rfl (jw_set (D := D) (s := jnl w.natAbs) (sg := jsg w) hn hm hw) (fun v h' hq' => ?_) (fun i h' hq' => by obtain ⟨_, _, hq'⟩ := hq'; cases hq')
      obtain ⟨g', hg', hq'⟩ := hq'
      cases hq'
      have e : min (jnl w.natAbs) n = jnl z.natAbs := by rw [hfw] at hcap ⊢; omega
      rw [e] at hg' ⊢
      iterate 4 refine mj_T.pl rfl rfl rfl rfl ?_
      exact fin g' _ (fun j hj => by rw [hg' j hj, hq j (by rw [hfw] at hj; exact hj), hfw]) ⟨by omega, by omega⟩ (fun _ => rfl)
  · simp only [jc, Bool.not_eq_false', decide_eq_true_eq] at hc8
    have hz : z = 0 := by
      rcases Int.lt_trichotomy z 0 with h1 | h1 | h1
      · rw [jsg_neg h1] at hc8; omega
      · exact h1
      · rw [jsg_pos h1] at hc8; omega
    subst hz
    rw [Int.add_zero]
    exact mj_T.ret rfl rfl rfl ⟨g, hg, rfl⟩
