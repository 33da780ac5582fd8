/-! The same for whole runs. -/
theorem jNr.prim {r3 : Nat} {st st' : List Value} {h h' : mj_H} (q : jNr h) (hs : mj_prim r3 st h = some (st', h')) : jNr h' := by
  unfold mj_prim at hs
  repeat' split at hs
  all_goals (try (cases hs; done))
  all_goals (try (cases hs; exact q))
  rename_i t0 n0 f h0 _ t1 n1 g h1 hc
  cases hs
  refine q.set (fun n2 f2 e j k => ?_)
  cases e
  have e0 := hc.2.1
  subst e0
  unfold va_cpy
  split
  · exact q _ _ _ h0 _ k
  · exact q _ _ _ h1 _ k
theorem jNr.loop {call : Nat → List Value → mj_H → Option mj_R} (hcall : ∀ j as h r, call j as h = some r → jNr h → jNr r.2) {M : mj_M} : ∀ {F pc : Nat} {loc : mj_L} {st : List Value} {h : mj_H} {r : mj_R}, mj_loop call M F pc loc st h = some r → jNr h → jNr r.2
  | 0, _, _, _, _, _, hs, _ => by cases hs
  | F + 1, pc, loc, st, h, r, hs, q => by
    unfold mj_loop at hs
    cases hcode : M.2.2.2.2.1 pc with
    | none => rw [hcode] at hs; cases hs
    | some I =>
      obtain ⟨ins, r1, r2, r3, r4, r5⟩ := I
      rw [hcode] at hs
      simp only at hs
      split at hs
      · split at hs
        · rename_i h1
          exact jNr.loop hcall hs (q.step h1)
        · cases hs
      · split at hs
        · cases hs
          exact q
        · cases hs
      · split at hs
        · cases hs
          exact q.newo
        · cases hs
      · split at hs
        · split at hs
          · rename_i h1
            exact jNr.loop hcall hs (hcall _ _ _ _ h1 q)
          · rename_i h1
            split at hs
            · cases hs
              exact hcall _ _ _ _ h1 q
            · split at hs
              · split at hs
                · exact jNr.loop hcall hs (hcall _ _ _ _ h1 q)
                · cases hs
              · cases hs
          · cases hs
        · cases hs
      · split at hs
        · rename_i h1
          exact jNr.loop hcall hs (q.prim h1)
        · cases hs
theorem jNr.run (P : List mj_M) (F : Nat) : ∀ (D j : Nat) (as : List Value) (h : mj_H) (r : mj_R), mj_run P F D j as h = some r → jNr h → jNr r.2
  | 0, _, _, _, _, hs, _ => by cases hs
  | D + 1, j, as, h, r, hs, q => by
    simp only [mj_run] at hs
    split at hs
    · cases hs
    · split at hs
      · exact jNr.loop (fun j as h r => jNr.run P F D j as h r) hs q
      · cases hs
theorem mj_Ok.nr {D j : Nat} {as : List Value} {h : mj_H} {Q : mj_R → Prop} (c : mj_Ok D j as h Q) (q : jNr h) : mj_Ok D j as h (fun r => Q r ∧ jNr r.2) := by
  obtain ⟨F, r, h1, h2⟩ := c
  exact ⟨F, r, h1, h2, jNr.run _ F D j as h r h1 q⟩
