/-! Wide: putLimb. -/
theorem jw_putLimb {D n sz i x : Nat} {g0 : Int32} {g : Nat → Int32} (hn : n ≤ 1000) (hsz : sz ≤ n) (hi : i ≤ 1000) (hx : x < 1000000000) :
    mj_Ok (D + 1) 90 [.ref 0, .int (jn i), .int (jn x)] (jH1 n sz g0 g)
      (fun r => ∃ gi : Nat → Int32, (i < n → gi i = jn x) ∧ (∀ j, j ≠ i → gi j = g j) ∧ r = (.inl none, jH1 n ((if i < n ∧ x ≠ 0 ∧ sz ≤ i then i + 1 else sz : Nat) : Int) g0 gi)) := by
  refine mj_Ok.of (M := mj_m90) rfl rfl rfl ?_
  refine mj_T.pl rfl rfl rfl rfl ?_
  refine mj_T.if0 rfl ⟨by omega, by omega⟩ (fun hc1 => ?_) (fun hc1 => ?_)
  · simp only [jc, decide_eq_true_eq] at hc1; omega
  iterate 3 refine mj_T.pl rfl rfl rfl rfl ?_
  refine mj_T.alen rfl rfl ?_
  refine mj_T.icmp rfl ⟨by omega, by omega⟩ ⟨by omega, by omega⟩ (fun hc10 => ?_) (fun hc10 => ?_)
  · simp only [jc, decide_eq_true_eq] at hc10
    refine mj_T.ret rfl rfl rfl ⟨g, fun h => by omega, fun j _ => rfl, ?_⟩
    rw [if_neg (by omega)]
  · simp only [jc, decide_eq_false_iff_not] at hc10
    iterate 4 refine mj_T.pl rfl rfl rfl rfl ?_
    refine mj_T.iast rfl rfl ⟨by omega, by omega⟩ ⟨by omega, by omega⟩ ?_
    refine mj_T.pl rfl rfl rfl rfl ?_
    refine mj_T.if0 rfl ⟨by omega, by omega⟩ (fun hc21 => ?_) (fun hc21 => ?_)
    · simp only [jc, decide_eq_true_eq] at hc21
      refine mj_T.ret rfl rfl rfl ⟨upd g i (jn x), fun _ => if_pos rfl, fun j hj => if_neg hj, ?_⟩
      rw [if_neg (by omega)]
      rfl
    · simp only [jc, decide_eq_false_iff_not] at hc21
      iterate 3 refine mj_T.pl rfl rfl rfl rfl ?_
      refine mj_T.icmp rfl ⟨by omega, by omega⟩ ⟨by omega, by omega⟩ (fun hc29 => ?_) (fun hc29 => ?_)
      · simp only [jc, decide_eq_true_eq] at hc29
        refine mj_T.ret rfl rfl rfl ⟨upd g i (jn x), fun _ => if_pos rfl, fun j hj => if_neg hj, ?_⟩
        rw [if_neg (by omega)]
        rfl
      · simp only [jc, decide_eq_false_iff_not] at hc29
        iterate 3 refine mj_T.pl rfl rfl rfl rfl ?_
        refine mj_T.iadd (b := 1) rfl ?_
        refine mj_T.pl rfl rfl rfl rfl ?_
        refine mj_T.ret rfl rfl rfl ⟨upd g i (jn x), fun _ => if_pos rfl, fun j hj => if_neg hj, ?_⟩
        rw [if_pos (by omega)]
        rfl
