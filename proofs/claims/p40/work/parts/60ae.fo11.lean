/-! Of the reference and of numbers (as in p1, part 78k). -/
theorem jq_slot {D p i : Nat} {h : mj_H} : mj_Ok (D + 1) 196 [.int (jn (p : Nat)), .int (jn (i : Nat))] h (fun r => r = (.inl (some (.int (jn (p * 13 + i : Nat)))), h)) := by
  refine mj_Ok.of (M := mj_m196) rfl rfl rfl ?_
  iterate 2 refine mj_T.pl rfl rfl rfl rfl ?_
  refine mj_T.imul (b := 13) rfl ?_
  refine mj_T.pl rfl rfl rfl rfl ?_
  refine mj_T.iadd rfl ?_
  refine mj_T.ret rfl rfl rfl ?_
  rw [show ((p * 13 + i : Nat) : Int) = (p : Int) * 13 + (i : Int) by omega]
