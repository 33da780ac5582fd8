/-! Runs of the small machine by rules: more fuel and more depth change nothing; one rule a kind of step. -/
theorem mj_loop_up {call call' : Nat → List Value → mj_H → Option mj_R} (hc : ∀ j as h r, call j as h = some r → call' j as h = some r) {M : mj_M} : ∀ {F F' pc : Nat} {loc : mj_L} {st : List Value} {h : mj_H} {r : mj_R}, F ≤ F' → mj_loop call M F pc loc st h = some r → mj_loop call' M F' pc loc st h = some r
  | 0, _, _, _, _, _, _, _, hs => by cases hs
  | F + 1, 0, _, _, _, _, _, hF, _ => by omega
  | F + 1, F' + 1, pc, loc, st, h, r, hF, hs => by
    have hF : F ≤ F' := by omega
    unfold mj_loop at hs ⊢
    cases hcode : M.2.2.2.2.1 pc with
    | none => rw [hcode] at hs; cases hs
    | some I =>
      obtain ⟨ins, r1, r2, r3, r4, r5⟩ := I
      rw [hcode] at hs
      simp only at hs ⊢
      split at hs
      · rename_i hk
        split at hs
        · rename_i h1
          exact mj_loop_up hc hF hs
        · cases hs
      · rename_i hk
        exact hs
      · rename_i hk
        exact hs
      · rename_i hk
        split at hs
        · rename_i hcond
          rw [if_pos hcond]
          split at hs
          · rename_i h1
            simp only [hc _ _ _ _ h1]
            exact mj_loop_up hc hF hs
          · rename_i h1
            simp only [hc _ _ _ _ h1]
            split at hs
            · rename_i h2
              exact hs
            · split at hs
              · rename_i h2 _ _ _ h3
                split at hs
                · rename_i h4
                  rw [if_pos h4]
                  exact mj_loop_up hc hF hs
                · cases hs
              · cases hs
          · cases hs
        · cases hs
      · rename_i hk0 hk1 hk2 hk3
        split at hs
        · rename_i h1
          exact mj_loop_up hc hF hs
        · cases hs
theorem mj_run_up (P : List mj_M) : ∀ {D D' F F' j : Nat} {as : List Value} {h : mj_H} {r : mj_R}, D ≤ D' → F ≤ F' → mj_run P F D j as h = some r → mj_run P F' D' j as h = some r
  | 0, _, _, _, _, _, _, _, _, _, hs => by cases hs
  | D + 1, 0, _, _, _, _, _, _, hD, _, _ => by omega
  | D + 1, D' + 1, F, F', j, as, h, r, hD, hF, hs => by
    simp only [mj_run] at hs ⊢
    split at hs
    · cases hs
    · split at hs
      · rename_i hl
        rw [if_pos hl]
        exact mj_loop_up (fun j as h r h1 => mj_run_up P (by omega) hF h1) hF hs
      · cases hs
/-- a call at most D deep ends, and Q holds of what it ends with -/
def mj_Ok (D j : Nat) (as : List Value) (h : mj_H) (Q : mj_R → Prop) : Prop := ∃ F r, mj_run mj_P F D j as h = some r ∧ Q r
/-- from here on the method ends, and Q holds of what it ends with -/
def mj_T (D : Nat) (M : mj_M) (pc : Nat) (loc : mj_L) (st : List Value) (h : mj_H) (Q : mj_R → Prop) : Prop := ∃ F r, mj_loop (mj_run mj_P F D) M F pc loc st h = some r ∧ Q r
theorem mj_Ok.up {D D' j : Nat} {as : List Value} {h : mj_H} {Q : mj_R → Prop} (hD : D ≤ D') (k : mj_Ok D j as h Q) : mj_Ok D' j as h Q := by
  obtain ⟨F, r, h1, h2⟩ := k
  exact ⟨F, r, mj_run_up _ hD (Nat.le_refl _) h1, h2⟩
theorem mj_Ok.to {D j : Nat} {as : List Value} {h : mj_H} {Q Q' : mj_R → Prop} (k : mj_Ok D j as h Q) (hQ : ∀ r, Q r → Q' r) : mj_Ok D j as h Q' := by
  obtain ⟨F, r, h1, h2⟩ := k
  exact ⟨F, r, h1, hQ r h2⟩
theorem mj_T.to {D pc : Nat} {M : mj_M} {loc : mj_L} {st : List Value} {h : mj_H} {Q Q' : mj_R → Prop} (k : mj_T D M pc loc st h Q) (hQ : ∀ r, Q r → Q' r) : mj_T D M pc loc st h Q' := by
  obtain ⟨F, r, h1, h2⟩ := k
  exact ⟨F, r, h1, hQ r h2⟩
theorem mj_Ok.of {D j : Nat} {as : List Value} {h : mj_H} {Q : mj_R → Prop} {M : mj_M} {loc : mj_L} (hM : mj_P[j]? = some M) (hloc : mj_loc0 M.2.2.1 as = loc) (hl : loc.length = M.2.2.1) (k : mj_T D M 0 loc [] h Q) : mj_Ok (D + 1) j as h Q := by
  subst hloc
  obtain ⟨F, r, h1, h2⟩ := k
  refine ⟨F, r, ?_, h2⟩
  simp only [mj_run, hM, hl, if_true]
  exact h1
theorem mj_T.eq {D pc pc2 : Nat} {M : mj_M} {loc loc2 : mj_L} {st st2 : List Value} {h h2 : mj_H} {Q : mj_R → Prop} (k : mj_T D M pc2 loc2 st2 h2 Q) (e1 : pc = pc2) (e2 : loc = loc2) (e3 : st = st2) (e4 : h = h2) : mj_T D M pc loc st h Q := by subst e1; subst e2; subst e3; subst e4; exact k
/-- a step in the method -/
theorem mj_T.step {D pc : Nat} {M : mj_M} {loc : mj_L} {st : List Value} {h : mj_H} {Q : mj_R → Prop} {ins : Instr} {r1 r2 r3 r4 r5 pc' : Nat} {loc' : mj_L} {st' : List Value} {h' : mj_H} (hc : M.2.2.2.2.1 pc = some (ins, r1, r2, r3, r4, r5)) (hk : mj_kind ins r3 = 0) (hs : mj_step ins r1 r2 r3 mj_new pc loc st h = some (pc', loc', st', h')) (k : mj_T D M pc' loc' st' h' Q) : mj_T D M pc loc st h Q := by
  obtain ⟨F, r, h1, h2⟩ := k
  refine ⟨F + 1, r, ?_, h2⟩
  unfold mj_loop
  simp only [hc, hk, hs]
  exact mj_loop_up (fun j as h r h1 => mj_run_up _ (Nat.le_refl _) (Nat.le_succ _) h1) (Nat.le_refl _) h1
/-- n steps in the method, none of them a call -/
def mj_go (M : mj_M) : Nat → Nat → mj_L → List Value → mj_H → Option mj_S
  | 0, pc, loc, st, h => some (pc, loc, st, h)
  | n + 1, pc, loc, st, h => match M.2.2.2.2.1 pc with
    | none => none
    | some (ins, r1, r2, r3, _, _) => match mj_kind ins r3 with
      | 0 => match mj_step ins r1 r2 r3 mj_new pc loc st h with
        | some (pc', loc', st', h') => mj_go M n pc' loc' st' h'
        | none => none
      | _ => none
theorem mj_T.go {D : Nat} {M : mj_M} {Q : mj_R → Prop} : ∀ (n : Nat) {pc : Nat} {loc : mj_L} {st : List Value} {h : mj_H} {pc' : Nat} {loc' : mj_L} {st' : List Value} {h' : mj_H}, mj_go M n pc loc st h = some (pc', loc', st', h') → mj_T D M pc' loc' st' h' Q → mj_T D M pc loc st h Q
  | 0, _, _, _, _, _, _, _, _, hs, k => by cases hs; exact k
  | n + 1, pc, loc, st, h, pc', loc', st', h', hs, k => by
    unfold mj_go at hs
    split at hs
    · cases hs
    · rename_i hc
      split at hs
      · rename_i hk
        split at hs
        · rename_i h1
          exact mj_T.step hc hk h1 (mj_T.go n hs k)
        · cases hs
      · cases hs
theorem mj_T.ret {D pc : Nat} {M : mj_M} {loc : mj_L} {st : List Value} {h : mj_H} {Q : mj_R → Prop} {ins : Instr} {r1 r2 r3 r4 r5 : Nat} {v : Option Value} (hc : M.2.2.2.2.1 pc = some (ins, r1, r2, r3, r4, r5)) (hk : mj_kind ins r3 = 1) (hs : mj_retv ins M.2.2.2.1 st = some v) (k : Q (.inl v, h)) : mj_T D M pc loc st h Q := by
  refine ⟨1, (.inl v, h), ?_, k⟩
  unfold mj_loop
  simp only [hc, hk, hs]
theorem mj_T.throws {D pc : Nat} {M : mj_M} {loc : mj_L} {st : List Value} {h : mj_H} {Q : mj_R → Prop} {ins : Instr} {r1 r2 r3 r4 r5 : Nat} (hc : M.2.2.2.2.1 pc = some (ins, r1, r2, r3, r4, r5)) (hk : mj_kind ins r3 = 2) (hh : M.2.2.2.2.2.1 = []) (hs : mj_cat st ≤ 8) (k : Q (.inr r1, h ++ [.inr (99, [.null, .null, .null, .null, .null, .null])])) : mj_T D M pc loc st h Q := by
  refine ⟨1, (.inr r1, h ++ [.inr (99, [.null, .null, .null, .null, .null, .null])]), ?_, k⟩
  unfold mj_loop
  simp only [hc, hk]
  rw [if_pos ⟨hh, hs⟩]
theorem mj_T.prim {D pc : Nat} {M : mj_M} {loc : mj_L} {st : List Value} {h : mj_H} {Q : mj_R → Prop} {ins : Instr} {r1 r2 r3 r4 r5 : Nat} {st' : List Value} {h' : mj_H} (hc : M.2.2.2.2.1 pc = some (ins, r1, r2, r3, r4, r5)) (hk : mj_kind ins r3 = 4) (hs : mj_prim r3 st h = some (st', h')) (k : mj_T D M (pc + 3) loc st' h' Q) : mj_T D M pc loc st h Q := by
  obtain ⟨F, r, h1, h2⟩ := k
  refine ⟨F + 1, r, ?_, h2⟩
  unfold mj_loop
  simp only [hc, hk, hs]
  exact mj_loop_up (fun j as h r h1 => mj_run_up _ (Nat.le_refl _) (Nat.le_succ _) h1) (Nat.le_refl _) h1
/-- a call whose callee's contract is at hand; exceptions caught or not -/
theorem mj_T.call {D pc : Nat} {M : mj_M} {loc : mj_L} {st : List Value} {h : mj_H} {Q Qc : mj_R → Prop} {ins : Instr} {r1 r2 r3 r4 r5 : Nat} {as : List Value} (hc : M.2.2.2.2.1 pc = some (ins, r1, r2, r3, r4, r5)) (hk : mj_kind ins r3 = 3) (hl : r2 ≤ st.length) (hcat : mj_cat (st.drop r2) ≤ 8) (hr : mj_recv ins r2 r5 st h = true) (has : (st.take r2).reverse = as) (hcall : mj_Ok D r1 as h Qc)
    (k1 : ∀ v h', Qc (.inl v, h') → mj_T D M (pc + 3) loc (v.toList ++ st.drop r2) h' Q)
    (k2 : ∀ i h', Qc (.inr i, h') → (M.2.2.2.2.2.1 = [] ∧ Q (.inr i, h')) ∨ ∃ kk nx, mj_find M.2.2.2.2.2.1 pc i = some (kk, nx) ∧ kk < loc.length ∧ mj_T D M nx (mj_kill loc kk) [] h' Q) : mj_T D M pc loc st h Q := by
  subst has
  obtain ⟨F, r, h1, h2⟩ := hcall
  obtain ⟨r0, h'⟩ := r
  have up : ∀ {F1 F2 : Nat} {pc : Nat} {loc : mj_L} {st : List Value} {h : mj_H} {r : mj_R}, F1 ≤ F2 → mj_loop (mj_run mj_P F1 D) M F1 pc loc st h = some r → mj_loop (mj_run mj_P (F2 + 1) D) M F2 pc loc st h = some r := fun hF hs => mj_loop_up (fun j as h r h1 => mj_run_up _ (Nat.le_refl _) (by omega) h1) hF hs
  cases r0 with
  | inl v =>
    obtain ⟨F2, r2', g1, g2⟩ := k1 v h' h2
    refine ⟨max F F2 + 1, r2', ?_, g2⟩
    unfold mj_loop
    simp only [hc, hk]
    rw [if_pos ⟨hl, hcat, hr⟩]
    rw [mj_run_up mj_P (Nat.le_refl D) (show F ≤ max F F2 + 1 by omega) h1]
    exact up (by omega) g1
  | inr i =>
    rcases k2 i h' h2 with ⟨hh, hq⟩ | ⟨kk, nx, hf, hkl, F2, r2', g1, g2⟩
    · refine ⟨F + 1, (.inr i, h'), ?_, hq⟩
      unfold mj_loop
      simp only [hc, hk]
      rw [if_pos ⟨hl, hcat, hr⟩]
      rw [mj_run_up mj_P (Nat.le_refl D) (show F ≤ F + 1 by omega) h1]
      simp only [hh]
    · refine ⟨max F F2 + 1, r2', ?_, g2⟩
      unfold mj_loop
      simp only [hc, hk]
      rw [if_pos ⟨hl, hcat, hr⟩]
      rw [mj_run_up mj_P (Nat.le_refl D) (show F ≤ max F F2 + 1 by omega) h1]
      cases hM : M.2.2.2.2.2.1 with
      | nil => rw [hM] at hf; cases hf
      | cons a t =>
        simp only
        rw [← hM, hf]
        simp only
        rw [if_pos hkl]
        exact up (by omega) g1
