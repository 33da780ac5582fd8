/-! Of the reference and of numbers (as in p1, part 78f). -/
theorem jq_length {D a b i : Nat} {v : Int} {h : mj_H} {fs' : List Value} {bg : Nat → Int32} (h1 : h[a]? = some (.inr (10, fs'))) (h2 : fs'[4]? = some (.ref b)) (h4 : h[b]? = some (.inl (0, 466830, fun j => .int (bg j)))) (hi : i < 665) (k1 : jrs bg i v) : mj_Ok (D + 1) 179 [.ref a, .int (jn (i : Nat))] h (fun r => r = (.inl (some (.int (jn (jnl v.natAbs : Nat)))), h)) := by
  refine mj_Ok.of (M := mj_m179) rfl rfl rfl ?_
  refine mj_T.pl rfl rfl rfl rfl ?_
  refine mj_T.step (loc' := mj_loc0 2 [.ref a, .int (jn i)]) (st' := [.ref b]) (h' := h) (pc' := 4) rfl rfl (by simp only [mj_step, h1, h2, if_true]; rfl) ?_
  iterate 2 refine mj_T.pl rfl rfl rfl rfl ?_
  refine mj_T.imul (b := 702) rfl ?_
  refine mj_T.pl rfl rfl rfl rfl ?_
  refine mj_T.iadd (b := 1) rfl ?_
  rw [show (i : Int) * 702 + 1 = ((i * 702 + 1 : Nat) : Int) by omega]
  refine mj_T.ialv rfl h4 ⟨by omega, by omega⟩ ⟨by omega, by omega⟩ k1.2.1 ?_
  exact mj_T.ret rfl rfl rfl rfl
