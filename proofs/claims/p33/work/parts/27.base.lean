/-! Runs of the small machine by rules: more fuel and more depth change nothing; one rule a kind of step. -/
theorem mj_loop_up {call call' : Nat → List Value → mj_H → Option mj_R} (hc : ∀ j as h r, call j as h = some r → call' j as h = some r) {M : mj_M} : ∀ {F F' pc : Nat} {loc : mj_L} {st : List Value} {h : mj_H} {r : mj_R}, F ≤ F' → mj_loop call M F pc loc st h = some r → mj_loop call' M F' pc loc st h = some r
  | 0, _, _, _, _, _, _, _, hs => by cases hs
  | F + 1, 0, _, _, _, _, _, hF, _ => by omega
  | F + 1, F' + 1, pc, loc, st, h, r, hF, hs => by
    have hF : F ≤ F' := by omega
    unfold mj_loop at hs ⊢
    cases hcode : M.2.2.2.2.1 pc with
    | none => rw [hcode] at hs; cases hs
    | some I =>
      obtain ⟨ins, r1, r2, r3, r4, r5⟩ := I
      rw [hcode] at hs
      simp only at hs ⊢
      split at hs
      · rename_i hk
        split at hs
        · rename_i h1
          exact mj_loop_up hc hF hs
        · cases hs
      · rename_i hk
        exact hs
      · rename_i hk
        exact hs
      · rename_i hk
        split at hs
        · rename_i hcond
          rw [if_pos hcond]
          split at hs
          · rename_i h1
            simp only [hc _ _ _ _ h1]
            exact mj_loop_up hc hF hs
          · rename_i h1
            simp only [hc _ _ _ _ h1]
            split at hs
            · rename_i h2
              exact hs
            · split at hs
              · rename_i h2 _ _ _ h3
                split at hs
                · rename_i h4
                  rw [if_pos h4]
                  exact mj_loop_up hc hF hs
                · cases hs
              · cases hs
          · cases hs
        · cases hs
      · rename_i hk0 hk1 hk2 hk3
        split at hs
        · rename_i h1
          exact mj_loop_up hc hF hs
        · cases hs
theorem mj_run_up (P : List mj_M) : ∀ {D D' F F' j : Nat} {as : List Value} {h : mj_H} {r : mj_R}, D ≤ D' → F ≤ F' → mj_run P F D j as h = some r → mj_run P F' D' j as h = some r
  | 0, _, _, _, _, _, _, _, _, _, hs => by cases hs
  | D + 1, 0, _, _, _, _, _, _, hD, _, _ => by omega
  | D + 1, D' + 1, F, F', j, as, h, r, hD, hF, hs => by
    simp only [mj_run] at hs ⊢
    split at hs
    · cases hs
    · split at hs
      · rename_i hl
        rw [if_pos hl]
        exact mj_loop_up (fun j as h r h1 => mj_run_up P (by omega) hF h1) hF hs
      · cases hs
/-- a call at most D deep ends, and Q holds of what it ends with -/
def mj_Ok (D j : Nat) (as : List Value) (h : mj_H) (Q : mj_R → Prop) : Prop := ∃ F r, mj_run mj_P F D j as h = some r ∧ Q r
/-- from here on the method ends, and Q holds of what it ends with -/
def mj_T (D : Nat) (M : mj_M) (pc : Nat) (loc : mj_L) (st : List Value) (h : mj_H) (Q : mj_R → Prop) : Prop := ∃ F r, mj_loop (mj_run mj_P F D) M F pc loc st h = some r ∧ Q r
theorem mj_Ok.up {D D' j : Nat} {as : List Value} {h : mj_H} {Q : mj_R → Prop} (hD : D ≤ D') (k : mj_Ok D j as h Q) : mj_Ok D' j as h Q := by
  obtain ⟨F, r, h1, h2⟩ := k
  exact ⟨F, r, mj_run_up _ hD (Nat.le_refl _) h1, h2⟩
theorem mj_Ok.to {D j : Nat} {as : List Value} {h : mj_H} {Q Q' : mj_R → Prop} (k : mj_Ok D j as h Q) (hQ : ∀ r, Q r → Q' r) : mj_Ok D j as h Q' := by
  obtain ⟨F, r, h1, h2⟩ := k
  exact ⟨F, r, h1, hQ r h2⟩
theorem mj_T.to {D pc : Nat} {M : mj_M} {loc : mj_L} {st : List Value} {h : mj_H} {Q Q' : mj_R → Prop} (k : mj_T D M pc loc st h Q) (hQ : ∀ r, Q r → Q' r) : mj_T D M pc loc st h Q' := by
  obtain ⟨F, r, h1, h2⟩ := k
  exact ⟨F, r, h1, hQ r h2⟩
theorem mj_Ok.of {D j : Nat} {as : List Value} {h : mj_H} {Q : mj_R → Prop} {M : mj_M} {loc : mj_L} (hM : mj_P[j]? = some M) (hloc : mj_loc0 M.2.2.1 as = loc) (hl : loc.length = M.2.2.1) (k : mj_T D M 0 loc [] h Q) : mj_Ok (D + 1) j as h Q := by
  subst hloc
  obtain ⟨F, r, h1, h2⟩ := k
  refine ⟨F, r, ?_, h2⟩
  simp only [mj_run, hM, hl, if_true]
  exact h1
theorem mj_T.eq {D pc pc2 : Nat} {M : mj_M} {loc loc2 : mj_L} {st st2 : List Value} {h h2 : mj_H} {Q : mj_R → Prop} (k : mj_T D M pc2 loc2 st2 h2 Q) (e1 : pc = pc2) (e2 : loc = loc2) (e3 : st = st2) (e4 : h = h2) : mj_T D M pc loc st h Q := by subst e1; subst e2; subst e3; subst e4; exact k
/-- a step in the method -/
theorem mj_T.step {D pc : Nat} {M : mj_M} {loc : mj_L} {st : List Value} {h : mj_H} {Q : mj_R → Prop} {ins : Instr} {r1 r2 r3 r4 r5 pc' : Nat} {loc' : mj_L} {st' : List Value} {h' : mj_H} (hc : M.2.2.2.2.1 pc = some (ins, r1, r2, r3, r4, r5)) (hk : mj_kind ins r3 = 0) (hs : mj_step ins r1 r2 r3 mj_new pc loc st h = some (pc', loc', st', h')) (k : mj_T D M pc' loc' st' h' Q) : mj_T D M pc loc st h Q := by
  obtain ⟨F, r, h1, h2⟩ := k
  refine ⟨F + 1, r, ?_, h2⟩
  unfold mj_loop
  simp only [hc, hk, hs]
  exact mj_loop_up (fun j as h r h1 => mj_run_up _ (Nat.le_refl _) (Nat.le_succ _) h1) (Nat.le_refl _) h1
/-- n steps in the method, none of them a call -/
def mj_go (M : mj_M) : Nat → Nat → mj_L → List Value → mj_H → Option mj_S
  | 0, pc, loc, st, h => some (pc, loc, st, h)
  | n + 1, pc, loc, st, h => match M.2.2.2.2.1 pc with
    | none => none
    | some (ins, r1, r2, r3, _, _) => match mj_kind ins r3 with
      | 0 => match mj_step ins r1 r2 r3 mj_new pc loc st h with
        | some (pc', loc', st', h') => mj_go M n pc' loc' st' h'
        | none => none
      | _ => none
theorem mj_T.go {D : Nat} {M : mj_M} {Q : mj_R → Prop} : ∀ (n : Nat) {pc : Nat} {loc : mj_L} {st : List Value} {h : mj_H} {pc' : Nat} {loc' : mj_L} {st' : List Value} {h' : mj_H}, mj_go M n pc loc st h = some (pc', loc', st', h') → mj_T D M pc' loc' st' h' Q → mj_T D M pc loc st h Q
  | 0, _, _, _, _, _, _, _, _, hs, k => by cases hs; exact k
  | n + 1, pc, loc, st, h, pc', loc', st', h', hs, k => by
    unfold mj_go at hs
    split at hs
    · cases hs
    · rename_i hc
      split at hs
      · rename_i hk
        split at hs
        · rename_i h1
          exact mj_T.step hc hk h1 (mj_T.go n hs k)
        · cases hs
      · cases hs
theorem mj_T.ret {D pc : Nat} {M : mj_M} {loc : mj_L} {st : List Value} {h : mj_H} {Q : mj_R → Prop} {ins : Instr} {r1 r2 r3 r4 r5 : Nat} {v : Option Value} (hc : M.2.2.2.2.1 pc = some (ins, r1, r2, r3, r4, r5)) (hk : mj_kind ins r3 = 1) (hs : mj_retv ins M.2.2.2.1 st = some v) (k : Q (.inl v, h)) : mj_T D M pc loc st h Q := by
  refine ⟨1, (.inl v, h), ?_, k⟩
  unfold mj_loop
  simp only [hc, hk, hs]
theorem mj_T.throws {D pc : Nat} {M : mj_M} {loc : mj_L} {st : List Value} {h : mj_H} {Q : mj_R → Prop} {ins : Instr} {r1 r2 r3 r4 r5 : Nat} (hc : M.2.2.2.2.1 pc = some (ins, r1, r2, r3, r4, r5)) (hk : mj_kind ins r3 = 2) (hh : M.2.2.2.2.2.1 = []) (hs : mj_cat st ≤ 8) (k : Q (.inr r1, h ++ [.inr (99, [.null, .null, .null, .null, .null, .null])])) : mj_T D M pc loc st h Q := by
  refine ⟨1, (.inr r1, h ++ [.inr (99, [.null, .null, .null, .null, .null, .null])]), ?_, k⟩
  unfold mj_loop
  simp only [hc, hk]
  rw [if_pos ⟨hh, hs⟩]
theorem mj_T.prim {D pc : Nat} {M : mj_M} {loc : mj_L} {st : List Value} {h : mj_H} {Q : mj_R → Prop} {ins : Instr} {r1 r2 r3 r4 r5 : Nat} {st' : List Value} {h' : mj_H} (hc : M.2.2.2.2.1 pc = some (ins, r1, r2, r3, r4, r5)) (hk : mj_kind ins r3 = 4) (hs : mj_prim r3 st h = some (st', h')) (k : mj_T D M (pc + 3) loc st' h' Q) : mj_T D M pc loc st h Q := by
  obtain ⟨F, r, h1, h2⟩ := k
  refine ⟨F + 1, r, ?_, h2⟩
  unfold mj_loop
  simp only [hc, hk, hs]
  exact mj_loop_up (fun j as h r h1 => mj_run_up _ (Nat.le_refl _) (Nat.le_succ _) h1) (Nat.le_refl _) h1
/-- a call whose callee's contract is at hand; exceptions caught or not -/
theorem mj_T.call {D pc : Nat} {M : mj_M} {loc : mj_L} {st : List Value} {h : mj_H} {Q Qc : mj_R → Prop} {ins : Instr} {r1 r2 r3 r4 r5 : Nat} {as : List Value} (hc : M.2.2.2.2.1 pc = some (ins, r1, r2, r3, r4, r5)) (hk : mj_kind ins r3 = 3) (hl : r2 ≤ st.length) (hcat : mj_cat (st.drop r2) ≤ 8) (hr : mj_recv ins r2 r5 st h = true) (has : (st.take r2).reverse = as) (hcall : mj_Ok D r1 as h Qc)
    (k1 : ∀ v h', Qc (.inl v, h') → mj_T D M (pc + 3) loc (v.toList ++ st.drop r2) h' Q)
    (k2 : ∀ i h', Qc (.inr i, h') → (M.2.2.2.2.2.1 = [] ∧ Q (.inr i, h')) ∨ ∃ kk nx, mj_find M.2.2.2.2.2.1 pc i = some (kk, nx) ∧ kk < loc.length ∧ mj_T D M nx (mj_kill loc kk) [] h' Q) : mj_T D M pc loc st h Q := by
  subst has
  obtain ⟨F, r, h1, h2⟩ := hcall
  obtain ⟨r0, h'⟩ := r
  have up : ∀ {F1 F2 : Nat} {pc : Nat} {loc : mj_L} {st : List Value} {h : mj_H} {r : mj_R}, F1 ≤ F2 → mj_loop (mj_run mj_P F1 D) M F1 pc loc st h = some r → mj_loop (mj_run mj_P (F2 + 1) D) M F2 pc loc st h = some r := fun hF hs => mj_loop_up (fun j as h r h1 => mj_run_up _ (Nat.le_refl _) (by omega) h1) hF hs
  cases r0 with
  | inl v =>
    obtain ⟨F2, r2', g1, g2⟩ := k1 v h' h2
    refine ⟨max F F2 + 1, r2', ?_, g2⟩
    unfold mj_loop
    simp only [hc, hk]
    rw [if_pos ⟨hl, hcat, hr⟩]
    rw [mj_run_up mj_P (Nat.le_refl D) (show F ≤ max F F2 + 1 by omega) h1]
    exact up (by omega) g1
  | inr i =>
    rcases k2 i h' h2 with ⟨hh, hq⟩ | ⟨kk, nx, hf, hkl, F2, r2', g1, g2⟩
    · refine ⟨F + 1, (.inr i, h'), ?_, hq⟩
      unfold mj_loop
      simp only [hc, hk]
      rw [if_pos ⟨hl, hcat, hr⟩]
      rw [mj_run_up mj_P (Nat.le_refl D) (show F ≤ F + 1 by omega) h1]
      simp only [hh]
    · refine ⟨max F F2 + 1, r2', ?_, g2⟩
      unfold mj_loop
      simp only [hc, hk]
      rw [if_pos ⟨hl, hcat, hr⟩]
      rw [mj_run_up mj_P (Nat.le_refl D) (show F ≤ max F F2 + 1 by omega) h1]
      cases hM : M.2.2.2.2.2.1 with
      | nil => rw [hM] at hf; cases hf
      | cons a t =>
        simp only
        rw [← hM, hf]
        simp only
        rw [if_pos hkl]
        exact up (by omega) g1
/-! The machine doesn't see where cells lie: a run on a small heap is a run on a greater one that holds the same cells elsewhere; all else stays. -/
def mj_rn (ρ : Nat → Nat) (v : Value) : Value := match v with
  | .ref k => .ref (ρ k)
  | v => v
def mj_rE (ρ : Nat → Nat) (e : mj_E) : mj_E := match e with
  | .inl (t, n, f) => .inl (t, n, fun j => mj_rn ρ (f j))
  | .inr (c, fs) => .inr (c, fs.map (mj_rn ρ))
def mj_rL (ρ : Nat → Nat) (loc : mj_L) : mj_L := loc.map (Option.map (mj_rn ρ))
def mj_em (ρ : Nat → Nat) (n m : Nat) (K h : mj_H) : Prop := n ≤ K.length ∧ h.length + n = K.length + m ∧ ∀ (k : Nat) (e : mj_E), K[k]? = some e → h[ρ k]? = some (mj_rE ρ e)
def mj_fr (ρ : Nat → Nat) (n m : Nat) (h h' : mj_H) : Prop := ∀ p : Nat, p < m → (∀ k, k < n → ρ k ≠ p) → h'[p]? = h[p]?
theorem mj_fr.rf {ρ : Nat → Nat} {n m : Nat} {h : mj_H} : mj_fr ρ n m h h := fun _ _ _ => rfl
theorem mj_fr.tr {ρ : Nat → Nat} {n m : Nat} {h h1 h2 : mj_H} (a : mj_fr ρ n m h h1) (b : mj_fr ρ n m h1 h2) : mj_fr ρ n m h h2 := fun p x y => (b p x y).trans (a p x y)
theorem mj_rn_cat (ρ : Nat → Nat) (v : Value) : (mj_rn ρ v).category = v.category := by cases v <;> rfl
theorem mj_rn_catL (ρ : Nat → Nat) (st : List Value) : mj_cat (st.map (mj_rn ρ)) = mj_cat st := by
  unfold mj_cat
  rw [List.map_map]
  congr 1
  apply List.map_congr_left
  intro v _
  exact mj_rn_cat ρ v
theorem mj_rL_len (ρ : Nat → Nat) (loc : mj_L) : (mj_rL ρ loc).length = loc.length := by simp [mj_rL]
theorem mj_rL_get (ρ : Nat → Nat) (loc : mj_L) (i : Nat) : (mj_rL ρ loc)[i]? = (loc[i]?).map (Option.map (mj_rn ρ)) := by simp [mj_rL]
theorem mj_rL_set (ρ : Nat → Nat) (loc : mj_L) (i : Nat) (v : Option Value) : mj_rL ρ (loc.set i v) = (mj_rL ρ loc).set i (v.map (mj_rn ρ)) := by simp [mj_rL, List.map_set]
theorem mj_rL_st1 (ρ : Nat → Nat) (loc : mj_L) (i : Nat) (v : Value) : mj_rL ρ (mj_st1 loc i v) = mj_st1 (mj_rL ρ loc) i (mj_rn ρ v) := by
  unfold mj_st1
  rw [mj_rL_set]
  congr 1
  cases i with
  | zero => rfl
  | succ j =>
    simp only
    rw [mj_rL_get]
    cases hj : loc[j]? with
    | none => simp
    | some o =>
      cases o with
      | none => simp
      | some w => cases w <;> simp [mj_rn, mj_rL_set]
theorem mj_rL_st2 (ρ : Nat → Nat) (loc : mj_L) (i : Nat) (v : Value) : mj_rL ρ (mj_st2 loc i v) = mj_st2 (mj_rL ρ loc) i (mj_rn ρ v) := by
  unfold mj_st2
  rw [mj_rL_set, mj_rL_st1]
  rfl
theorem mj_ren_load1 {ρ : Nat → Nat} {loc : mj_L} {i : Nat} {v : Value} (h : mj_load1 loc i = some v) : mj_load1 (mj_rL ρ loc) i = some (mj_rn ρ v) := by
  unfold mj_load1 at h ⊢
  split at h
  · rename_i x hx
    cases h
    rw [mj_rL_get, hx]
    rfl
  · cases h
theorem mj_ren_loadL {ρ : Nat → Nat} {loc : mj_L} {i : Nat} {v : Value} (h : mj_loadL loc i = some v) : mj_loadL (mj_rL ρ loc) i = some (mj_rn ρ v) := by
  unfold mj_loadL at h ⊢
  split at h
  · rename_i x hx
    cases h
    rw [mj_rL_get, hx]
    rfl
  · cases h
theorem mj_ren_loadD {ρ : Nat → Nat} {loc : mj_L} {i : Nat} {v : Value} (h : mj_loadD loc i = some v) : mj_loadD (mj_rL ρ loc) i = some (mj_rn ρ v) := by
  unfold mj_loadD at h ⊢
  split at h
  · rename_i x hx
    cases h
    rw [mj_rL_get, hx]
    rfl
  · cases h
theorem mj_ren_loadA {ρ : Nat → Nat} {loc : mj_L} {i : Nat} {v : Value} (h : mj_loadA loc i = some v) : mj_loadA (mj_rL ρ loc) i = some (mj_rn ρ v) := by
  unfold mj_loadA at h ⊢
  split at h
  · rename_i x hx
    cases h
    rw [mj_rL_get, hx]
    rfl
  · cases h
theorem mj_rn_i (ρ : Nat → Nat) (x : Int32) : mj_rn ρ (.int x) = .int x := rfl
theorem mj_rn_l (ρ : Nat → Nat) (x : Int64) : mj_rn ρ (.long x) = .long x := rfl
theorem mj_rn_f (ρ : Nat → Nat) (x : UInt32) : mj_rn ρ (.float x) = .float x := rfl
theorem mj_rn_d (ρ : Nat → Nat) (x : UInt64) : mj_rn ρ (.double x) = .double x := rfl
theorem mj_rn_n (ρ : Nat → Nat) : mj_rn ρ .null = .null := rfl
theorem mj_rn_r (ρ : Nat → Nat) (x : Nat) : mj_rn ρ (.ref x) = .ref (ρ x) := rfl
section MJN
variable {ρ : Nat → Nat} {n m : Nat} {K h : mj_H}
theorem mj_em.lt (he : mj_em ρ n m K h) {k : Nat} (hk : k < K.length) : ρ k < h.length := by
  have h1 := he.2.2 k K[k] (List.getElem?_eq_getElem hk)
  exact (List.getElem?_eq_some_iff.mp h1).1
theorem mj_em.top (hρ : ∀ k, n ≤ k → ρ k + n = m + k) (he : mj_em ρ n m K h) (j : Nat) : ρ (K.length + j) = h.length + j := by
  have h1 := hρ (K.length + j) (by have := he.1; omega)
  have h2 := he.2.1
  omega
theorem mj_em.put (hρ : ∀ k, n ≤ k → ρ k + n = m + k) (hi : ∀ i j, ρ i = ρ j → i = j) (he : mj_em ρ n m K h) {k : Nat} {e : mj_E} (hk : k < K.length) : mj_em ρ n m (K.set k e) (h.set (ρ k) (mj_rE ρ e)) ∧ mj_fr ρ n m h (h.set (ρ k) (mj_rE ρ e)) := by
  refine ⟨⟨by rw [List.length_set]; exact he.1, by rw [List.length_set, List.length_set]; exact he.2.1, fun j x hx => ?_⟩, fun p hp hq => ?_⟩
  · by_cases hj : k = j
    · subst hj
      rw [List.getElem?_set_self hk] at hx
      cases hx
      rw [List.getElem?_set_self (he.lt hk)]
    · rw [List.getElem?_set_ne hj] at hx
      rw [List.getElem?_set_ne (fun q => hj (hi _ _ q))]
      exact he.2.2 j x hx
  · rw [List.getElem?_set_ne]
    intro q
    by_cases hkn : k < n
    · exact hq k hkn q
    · have := hρ k (by omega)
      omega
theorem mj_em.push (hρ : ∀ k, n ≤ k → ρ k + n = m + k) (he : mj_em ρ n m K h) (hm : m ≤ h.length) (es : List mj_E) : mj_em ρ n m (K ++ es) (h ++ es.map (mj_rE ρ)) ∧ mj_fr ρ n m h (h ++ es.map (mj_rE ρ)) := by
  have h0 := he.1
  have h1 := he.2.1
  refine ⟨⟨by rw [List.length_append]; omega, by rw [List.length_append, List.length_append, List.length_map]; omega, fun j x hx => ?_⟩, fun p hp hq => ?_⟩
  · by_cases hj : j < K.length
    · rw [List.getElem?_append_left hj] at hx
      rw [List.getElem?_append_left (he.lt hj)]
      exact he.2.2 j x hx
    · have hr := hρ j (by omega)
      rw [List.getElem?_append_right (by omega)] at hx
      rw [List.getElem?_append_right (by omega), List.getElem?_map, show ρ j - h.length = j - K.length by omega, hx]
      rfl
  · exact List.getElem?_append_left (by omega)
theorem mj_em.get (hρ : ∀ k, n ≤ k → ρ k + n = m + k) (he : mj_em ρ n m K h) (k : Nat) : h[ρ k]? = (K[k]?).map (mj_rE ρ) := by
  cases hk : K[k]? with
  | some e => exact he.2.2 k e hk
  | none =>
    have h1 := List.getElem?_eq_none_iff.mp hk
    have h2 := hρ k (Nat.le_trans he.1 h1)
    have h3 := he.2.1
    exact List.getElem?_eq_none_iff.mpr (by omega)
theorem mj_em.top0 (hρ : ∀ k, n ≤ k → ρ k + n = m + k) (he : mj_em ρ n m K h) : ρ K.length = h.length := mj_em.top hρ he 0
theorem mj_rn_rows (a b c : Nat) : (mj_rows a b c).map (mj_rE ρ) = mj_rows a b c := by
  unfold mj_rows
  rw [List.map_map]
  apply List.map_congr_left
  intro k _
  rfl
theorem mj_rn_ifs (hρ : ∀ k, n ≤ k → ρ k + n = m + k) (he : mj_em ρ n m K h) (q : Nat) : (fun j => mj_rn ρ (if j < q then .ref (K.length + 1 + j) else .null)) = fun j => if j < q then Value.ref (h.length + 1 + j) else .null := by
  funext j
  split
  · rw [mj_rn_r, show K.length + 1 + j = K.length + (1 + j) by omega, mj_em.top hρ he, Nat.add_assoc]
  · rfl
theorem mj_em.le (he : mj_em ρ n m K h) : m ≤ h.length := by
  have h0 := he.1
  have h1 := he.2.1
  omega
theorem mj_rn_new (ci : Nat) : (mj_new ci).map (mj_rn ρ) = mj_new ci := by
  unfold mj_new
  rw [List.map_map]
  apply List.map_congr_left
  intro k _
  show mj_rn ρ (defaultValue (mj_ft ci k)) = defaultValue (mj_ft ci k)
  cases mj_ft ci k <;> rfl
theorem mj_rn_df (t : Nat) : mj_rn ρ (mj_df t) = mj_df t := by
  unfold mj_df
  split <;> rfl
theorem mj_rn_upd (f : Nat → Value) (i : Nat) (v : Value) : (fun j => mj_rn ρ (updV f i v j)) = updV (fun j => mj_rn ρ (f j)) i (mj_rn ρ v) := by
  funext j
  unfold updV
  split <;> rfl
theorem mj_fit_rn (k : Nat) (v : Value) : mj_fit k (mj_rn ρ v) = mj_fit k v := by
  cases v <;> first | rfl | (rcases k with _ | _ | _ | _ | k <;> rfl)
theorem mj_ren_step (hρ : ∀ k, n ≤ k → ρ k + n = m + k) (hi : ∀ i j, ρ i = ρ j → i = j) {ins : Instr} {r1 r2 r3 pc pc' : Nat} {loc loc' : mj_L} {st st' : List Value} {K' : mj_H} (hs : mj_step ins r1 r2 r3 mj_new pc loc st K = some (pc', loc', st', K')) (he : mj_em ρ n m K h) :
    ∃ h', mj_step ins r1 r2 r3 mj_new pc (mj_rL ρ loc) (st.map (mj_rn ρ)) h = some (pc', mj_rL ρ loc', st'.map (mj_rn ρ), h') ∧ mj_em ρ n m K' h' ∧ mj_fr ρ n m h h' := by
  cases ins
  all_goals simp only [mj_step] at hs ⊢
  all_goals (try (cases hs; done))
  all_goals (try (simp only [Option.map_eq_some_iff] at hs; obtain ⟨v, hv, hs⟩ := hs; cases hs; first
    | exact ⟨h, by rw [mj_ren_load1 hv]; rfl, he, mj_fr.rf⟩
    | exact ⟨h, by rw [mj_ren_loadL hv]; rfl, he, mj_fr.rf⟩
    | exact ⟨h, by rw [mj_ren_loadD hv]; rfl, he, mj_fr.rf⟩
    | exact ⟨h, by rw [mj_ren_loadA hv]; rfl, he, mj_fr.rf⟩))
  all_goals (repeat' split at hs)
  all_goals (try cases hs)
  all_goals (try (refine ⟨h, ?_, he, mj_fr.rf⟩; simp_all [mj_rn_i, mj_rn_l, mj_rn_f, mj_rn_d, mj_rn_n, mj_rn_r, mj_rL_len, mj_rL_st1, mj_rL_st2, mj_rL_get, mj_em.get hρ he, mj_rE]; done))
  all_goals (try (
    refine ⟨_, ?_, he.push hρ he.le [_]⟩
    simp_all [mj_rn_i, mj_rn_l, mj_rn_f, mj_rn_d, mj_rn_n, mj_rn_r, mj_rE, mj_rn_new, mj_rn_df, mj_em.top0 hρ he]; done))
  all_goals (try (
    rename_i hcond
    refine ⟨_, ?_, he.push hρ he.le (_ :: mj_rows _ _ _)⟩
    simp only [List.map_cons, mj_rn_i, mj_rn_r, mj_rE, mj_rn_rows, mj_em.top0 hρ he, mj_rn_ifs hρ he]
    rw [if_pos hcond]; done))
  all_goals (try (
    rename_i hq hcond
    refine ⟨_, ?_, he.put hρ hi (List.getElem?_eq_some_iff.mp hq).1⟩
    simp_all [mj_rn_i, mj_rn_l, mj_rn_f, mj_rn_d, mj_rn_n, mj_rn_r, mj_rE, mj_em.get hρ he, mj_rn_upd, mj_fit_rn, List.map_set]; done))
  all_goals (try (
    rename_i hq _ _ _ _ hcond
    refine ⟨_, ?_, he.put hρ hi (List.getElem?_eq_some_iff.mp hq).1⟩
    simp_all [mj_rn_i, mj_rn_l, mj_rn_f, mj_rn_d, mj_rn_n, mj_rn_r, mj_rE, mj_em.get hρ he, mj_rn_upd, mj_fit_rn, List.map_set]; done))
  all_goals (
    rename_i h1 _ _ h2 h3
    refine ⟨h, ?_, he, mj_fr.rf⟩
    simp only [List.map_cons, mj_rn_i]
    rw [if_neg h1]
    simp only [h2]
    rw [if_pos h3])
/-- a result, renamed -/
def mj_rR (ρ : Nat → Nat) (r : Option Value ⊕ Nat) : Option Value ⊕ Nat := match r with
  | .inl v => .inl (v.map (mj_rn ρ))
  | .inr i => .inr i
theorem mj_ren_retv {ins : Instr} {ret : Option FieldType} {st : List Value} {v : Option Value} (hs : mj_retv ins ret st = some v) : mj_retv ins ret (st.map (mj_rn ρ)) = some (v.map (mj_rn ρ)) := by
  cases ins
  all_goals simp only [mj_retv] at hs ⊢
  all_goals (try (cases hs; done))
  all_goals (repeat' split at hs)
  all_goals (try (cases hs; done))
  all_goals (cases hs; simp_all [mj_rn_i, mj_rn_l, mj_rn_f, mj_rn_d, mj_rn_n, mj_rn_r])
theorem mj_rn_isint (v : Value) : mj_isint (mj_rn ρ v) = mj_isint v := by cases v <;> rfl
theorem mj_rn_islong (v : Value) : mj_islong (mj_rn ρ v) = mj_islong v := by cases v <;> rfl
theorem mj_rn_cpok (t : Nat) (f : Nat → Value) (sp k : Nat) : mj_cpok t (fun j => mj_rn ρ (f j)) sp k = mj_cpok t f sp k := by
  unfold mj_cpok
  congr 1
  funext i
  split
  · exact mj_rn_isint _
  · exact mj_rn_islong _
theorem mj_rn_cpy (f g : Nat → Value) (a b c : Nat) : (fun j => mj_rn ρ (va_cpy f g a b c j)) = va_cpy (fun j => mj_rn ρ (f j)) (fun j => mj_rn ρ (g j)) a b c := by
  funext j
  unfold va_cpy
  split <;> rfl
theorem mj_ren_prim (hρ : ∀ k, n ≤ k → ρ k + n = m + k) (hi : ∀ i j, ρ i = ρ j → i = j) {r3 : Nat} {st st' : List Value} {K' : mj_H} (hs : mj_prim r3 st K = some (st', K')) (he : mj_em ρ n m K h) :
    ∃ h', mj_prim r3 (st.map (mj_rn ρ)) h = some (st'.map (mj_rn ρ), h') ∧ mj_em ρ n m K' h' ∧ mj_fr ρ n m h h' := by
  unfold mj_prim at hs ⊢
  split at hs
  · split at hs
    · split at hs
      · rename_i hc
        cases hs
        refine ⟨h, ?_, he, mj_fr.rf⟩
        simp only [List.map_cons, mj_rn_i, mj_rn_catL]
        rw [if_pos hc]
      · cases hs
    · cases hs
  · split at hs
    · split at hs
      · rename_i hc
        cases hs
        refine ⟨h, ?_, he, mj_fr.rf⟩
        simp only [List.map_cons, mj_rn_i, mj_rn_catL]
        rw [if_pos hc]
      · cases hs
    · cases hs
  · split at hs
    · split at hs
      · rename_i q0
        split at hs
        · rename_i q1
          split at hs
          · rename_i hc
            cases hs
            refine ⟨_, ?_, he.put hρ hi (List.getElem?_eq_some_iff.mp q1).1⟩
            simp only [List.map_cons, mj_rn_i, mj_rn_r, mj_rn_catL, mj_em.get hρ he, q0, q1, Option.map_some, mj_rE, mj_rn_cpok, mj_rn_cpy]
            rw [if_pos hc]
          · cases hs
        · cases hs
      · cases hs
    · cases hs
  · split at hs
    · split at hs
      · rename_i hc
        cases hs
        refine ⟨h, ?_, he, mj_fr.rf⟩
        simp only [List.map_cons, mj_rn_r, mj_rn_catL]
        rw [if_pos hc]
      · cases hs
    · cases hs
  · cases hs
theorem mj_ren_recv (hρ : ∀ k, n ≤ k → ρ k + n = m + k) (he : mj_em ρ n m K h) {ins : Instr} {r2 r5 : Nat} {st : List Value} (hs : mj_recv ins r2 r5 st K = true) : mj_recv ins r2 r5 (st.map (mj_rn ρ)) h = true := by
  unfold mj_recv at hs ⊢
  rw [← List.map_drop]
  split at hs
  · rfl
  · split at hs
    · cases hs
    · rename_i hst
      simp only [hst, List.map_cons, mj_rn_r, mj_em.get hρ he]
      split at hs
      · rename_i hk
        simp only [hk, Option.map_some, mj_rE]
        exact hs
      · cases hs
    · cases hs
  · split at hs
    · cases hs
    · rename_i hst
      simp only [hst, List.map_cons, mj_rn_r]
    · cases hs
theorem mj_ren_loc0 : ∀ (as : List Value) (k : Nat), mj_loc0 k (as.map (mj_rn ρ)) = mj_rL ρ (mj_loc0 k as)
  | [], k => by simp [mj_loc0, mj_rL]
  | v :: t, k => by
    simp only [List.map_cons, mj_loc0, mj_rn_cat]
    split
    · rw [mj_ren_loc0 t]; rfl
    · rw [mj_ren_loc0 t]; rfl
theorem mj_rL_kill (loc : mj_L) (k : Nat) : mj_rL ρ (mj_kill loc k) = mj_kill (mj_rL ρ loc) k := by
  unfold mj_kill
  rw [mj_rL_set, mj_rL_st1]
  rfl
theorem mj_ren_loop (hρ : ∀ k, n ≤ k → ρ k + n = m + k) (hi : ∀ i j, ρ i = ρ j → i = j) {call : Nat → List Value → mj_H → Option mj_R}
    (hcall : ∀ (j : Nat) (as : List Value) (K h : mj_H) (r : mj_R), call j as K = some r → mj_em ρ n m K h → ∃ h', call j (as.map (mj_rn ρ)) h = some (mj_rR ρ r.1, h') ∧ mj_em ρ n m r.2 h' ∧ mj_fr ρ n m h h') {M : mj_M} :
    ∀ {F pc : Nat} {loc : mj_L} {st : List Value} {K h : mj_H} {r : mj_R}, mj_loop call M F pc loc st K = some r → mj_em ρ n m K h → ∃ h', mj_loop call M F pc (mj_rL ρ loc) (st.map (mj_rn ρ)) h = some (mj_rR ρ r.1, h') ∧ mj_em ρ n m r.2 h' ∧ mj_fr ρ n m h h'
  | 0, _, _, _, _, _, _, hs, _ => by cases hs
  | F + 1, pc, loc, st, K, h, r, hs, he => by
    unfold mj_loop at hs ⊢
    cases hcode : M.2.2.2.2.1 pc with
    | none => rw [hcode] at hs; cases hs
    | some I =>
      obtain ⟨ins, r1, r2, r3, r4, r5⟩ := I
      rw [hcode] at hs
      simp only at hs ⊢
      split at hs
      · split at hs
        · rename_i h1
          obtain ⟨h1', g1, g2, g3⟩ := mj_ren_step hρ hi h1 he
          obtain ⟨h2', f1, f2, f3⟩ := mj_ren_loop hρ hi hcall hs g2
          exact ⟨h2', by rw [g1]; exact f1, f2, g3.tr f3⟩
        · cases hs
      · split at hs
        · rename_i h1
          cases hs
          exact ⟨h, by rw [mj_ren_retv h1]; rfl, he, mj_fr.rf⟩
        · cases hs
      · split at hs
        · rename_i hc
          cases hs
          obtain ⟨g1, g2⟩ := he.push hρ he.le [.inr (99, [.null, .null, .null, .null, .null, .null])]
          refine ⟨_, ?_, g1, g2⟩
          rw [mj_rn_catL, if_pos hc]
          rfl
        · cases hs
      · split at hs
        · rename_i hc
          have hc' : r2 ≤ (st.map (mj_rn ρ)).length ∧ mj_cat ((st.map (mj_rn ρ)).drop r2) ≤ 8 ∧ mj_recv ins r2 r5 (st.map (mj_rn ρ)) h = true := ⟨by rw [List.length_map]; exact hc.1, by rw [← List.map_drop, mj_rn_catL]; exact hc.2.1, mj_ren_recv hρ he hc.2.2⟩
          rw [if_pos hc']
          rw [← List.map_take, ← List.map_reverse, ← List.map_drop]
          split at hs
          · rename_i v K1 h1
            obtain ⟨h1', g1, g2, g3⟩ := hcall _ _ _ _ _ h1 he
            rw [g1]
            obtain ⟨h2', f1, f2, f3⟩ := mj_ren_loop hρ hi hcall hs g2
            refine ⟨h2', ?_, f2, g3.tr f3⟩
            refine Eq.trans ?_ f1
            simp only [mj_rR]
            congr 1
            cases v <;> simp
          · rename_i i K1 h1
            obtain ⟨h1', g1, g2, g3⟩ := hcall _ _ _ _ _ h1 he
            rw [g1]
            simp only [mj_rR]
            split at hs
            · cases hs
              exact ⟨h1', rfl, g2, g3⟩
            · split at hs
              · split at hs
                · rename_i hkl
                  obtain ⟨h2', f1, f2, f3⟩ := mj_ren_loop hρ hi hcall hs g2
                  rw [mj_rL_kill] at f1
                  refine ⟨h2', ?_, f2, g3.tr f3⟩
                  rw [mj_rL_len, if_pos hkl]
                  exact f1
                · cases hs
              · cases hs
          · cases hs
        · cases hs
      · split at hs
        · rename_i h1
          obtain ⟨h1', g1, g2, g3⟩ := mj_ren_prim hρ hi h1 he
          obtain ⟨h2', f1, f2, f3⟩ := mj_ren_loop hρ hi hcall hs g2
          exact ⟨h2', by rw [g1]; exact f1, f2, g3.tr f3⟩
        · cases hs
theorem mj_ren_run (hρ : ∀ k, n ≤ k → ρ k + n = m + k) (hi : ∀ i j, ρ i = ρ j → i = j) (P : List mj_M) (F : Nat) : ∀ (D j : Nat) (as : List Value) (K h : mj_H) (r : mj_R), mj_run P F D j as K = some r → mj_em ρ n m K h → ∃ h', mj_run P F D j (as.map (mj_rn ρ)) h = some (mj_rR ρ r.1, h') ∧ mj_em ρ n m r.2 h' ∧ mj_fr ρ n m h h'
  | 0, _, _, _, _, _, hs, _ => by cases hs
  | D + 1, j, as, K, h, r, hs, he => by
    simp only [mj_run] at hs ⊢
    split at hs
    · cases hs
    · split at hs
      · rename_i hl
        obtain ⟨h', g1, g2, g3⟩ := mj_ren_loop hρ hi (mj_ren_run hρ hi P F D) hs he
        refine ⟨h', ?_, g2, g3⟩
        rw [mj_ren_loc0, mj_rL_len, if_pos hl]
        exact g1
      · cases hs
end MJN
/-! Whole numbers as the machine's ints and longs. -/
abbrev jn (z : Int) : Int32 := Int32.ofInt z
abbrev jl (z : Int) : Int64 := Int64.ofInt z
/-- in an int's range; in a long's -/
def jr (z : Int) : Prop := -2147483648 ≤ z ∧ z < 2147483648
def jR (z : Int) : Prop := -9223372036854775808 ≤ z ∧ z < 9223372036854775808
theorem jn_toInt {z : Int} (h : jr z) : (jn z).toInt = z := Int32.toInt_ofInt_of_le h.1 h.2
theorem jl_toInt {z : Int} (h : jR z) : (jl z).toInt = z := Int64.toInt_ofInt_of_le h.1 h.2
theorem jn_of (x : Int32) : jn x.toInt = x := Int32.ofInt_toInt x
theorem jl_of (x : Int64) : jl x.toInt = x := Int64.ofInt_toInt x
theorem jr_of (x : Int32) : jr x.toInt := ⟨Int32.le_toInt x, Int32.toInt_lt x⟩
theorem jR_of (x : Int64) : jR x.toInt := ⟨Int64.le_toInt x, Int64.toInt_lt x⟩
theorem jn_add (a b : Int) : jn a + jn b = jn (a + b) := (Int32.ofInt_add a b).symm
theorem jn_sub (a b : Int) : jn a - jn b = jn (a - b) := (Int32.ofInt_sub a b).symm
theorem jn_mul (a b : Int) : jn a * jn b = jn (a * b) := (Int32.ofInt_mul a b).symm
theorem jn_neg (a : Int) : -jn a = jn (-a) := (Int32.ofInt_neg a).symm
theorem jl_add (a b : Int) : jl a + jl b = jl (a + b) := (Int64.ofInt_add a b).symm
theorem jl_sub (a b : Int) : jl a - jl b = jl (a - b) := (Int64.ofInt_sub a b).symm
theorem jl_mul (a b : Int) : jl a * jl b = jl (a * b) := (Int64.ofInt_mul a b).symm
theorem jl_neg (a : Int) : -jl a = jl (-a) := (Int64.ofInt_neg a).symm
theorem jn_lt {a b : Int} (ha : jr a) (hb : jr b) : jn a < jn b ↔ a < b := by rw [Int32.lt_iff_toInt_lt, jn_toInt ha, jn_toInt hb]
theorem jn_le {a b : Int} (ha : jr a) (hb : jr b) : jn a ≤ jn b ↔ a ≤ b := by rw [Int32.le_iff_toInt_le, jn_toInt ha, jn_toInt hb]
theorem jn_eq {a b : Int} (ha : jr a) (hb : jr b) : jn a = jn b ↔ a = b := by rw [← Int32.toInt_inj, jn_toInt ha, jn_toInt hb]
theorem jl_lt {a b : Int} (ha : jR a) (hb : jR b) : jl a < jl b ↔ a < b := by rw [Int64.lt_iff_toInt_lt, jl_toInt ha, jl_toInt hb]
theorem jl_le {a b : Int} (ha : jR a) (hb : jR b) : jl a ≤ jl b ↔ a ≤ b := by rw [Int64.le_iff_toInt_le, jl_toInt ha, jl_toInt hb]
theorem jl_eq {a b : Int} (ha : jR a) (hb : jR b) : jl a = jl b ↔ a = b := by rw [← Int64.toInt_inj, jl_toInt ha, jl_toInt hb]
theorem jn_long {a : Int} (ha : jr a) : (jn a).toInt64 = jl a := by
  apply Int64.toInt_inj.mp
  rw [Int32.toInt_toInt64, jn_toInt ha, jl_toInt ⟨by have := ha.1; omega, by have := ha.2; omega⟩]
theorem jl_int (a : Int) : (jl a).toInt32 = jn a := by
  first
    | exact Int64.toInt32_ofInt a
    | simp
theorem jn_nat {a : Int} (h0 : 0 ≤ a) (ha : jr a) : (jn a).toNatClampNeg = a.toNat := by
  show (jn a).toInt.toNat = a.toNat
  rw [jn_toInt ha]
theorem jn_div {a b : Int} (ha : jr a) (hb : jr b) (h : 0 < b) : jn a / jn b = jn (a.tdiv b) := by
  apply Int32.toInt_inj.mp
  have h1 : jr (a.tdiv b) := by
    have h2 := Int.natAbs_tdiv_le_natAbs a b
    have := ha.1; have := ha.2
    rcases Int.le_total 0 a with h3 | h3
    · have h4 := Int.tdiv_nonneg h3 (Int.le_of_lt h)
      exact ⟨by omega, by omega⟩
    · have h4 := Int.tdiv_nonneg (a := -a) (b := b) (by omega) (Int.le_of_lt h)
      rw [Int.neg_tdiv] at h4
      exact ⟨by omega, by omega⟩
  rw [jn_toInt h1]
  have h2 : jn b ≠ -1 := by
    rw [show (-1 : Int32) = jn (-1) from rfl, Ne, jn_eq hb ⟨by decide, by decide⟩]
    omega
  rw [Int32.toInt_div_of_ne_right _ _ h2, jn_toInt ha, jn_toInt hb]
theorem jl_div {a b : Int} (ha : jR a) (hb : jR b) (h : 0 < b) : jl a / jl b = jl (a.tdiv b) := by
  apply Int64.toInt_inj.mp
  have h1 : jR (a.tdiv b) := by
    have h2 := Int.natAbs_tdiv_le_natAbs a b
    have := ha.1; have := ha.2
    rcases Int.le_total 0 a with h3 | h3
    · have h4 := Int.tdiv_nonneg h3 (Int.le_of_lt h)
      exact ⟨by omega, by omega⟩
    · have h4 := Int.tdiv_nonneg (a := -a) (b := b) (by omega) (Int.le_of_lt h)
      rw [Int.neg_tdiv] at h4
      exact ⟨by omega, by omega⟩
  rw [jl_toInt h1]
  have h2 : jl b ≠ -1 := by
    rw [show (-1 : Int64) = jl (-1) from rfl, Ne, jl_eq hb ⟨by decide, by decide⟩]
    omega
  rw [Int64.toInt_div_of_ne_right _ _ h2, jl_toInt ha, jl_toInt hb]
theorem jn_rem {a b : Int} (ha : jr a) (hb : jr b) (h : 0 < b) : jn a - jn a / jn b * jn b = jn (a.tmod b) := by
  rw [jn_div ha hb h, jn_mul, jn_sub]
  congr 1
  have := Int.tmod_add_mul_tdiv a b
  rw [Int.mul_comm]
  omega
theorem jl_rem {a b : Int} (ha : jR a) (hb : jR b) (h : 0 < b) : jl a - jl a / jl b * jl b = jl (a.tmod b) := by
  rw [jl_div ha hb h, jl_mul, jl_sub]
  congr 1
  have := Int.tmod_add_mul_tdiv a b
  rw [Int.mul_comm]
  omega
theorem jl_cmp {a b : Int} (ha : jR a) (hb : jR b) : lg_cmp (jl a) (jl b) = jn (if a < b then -1 else if a = b then 0 else 1) := by
  unfold lg_cmp
  simp only [jl_lt ha hb, jl_eq ha hb, jl_lt hb ha, jl_le ha hb, jl_le hb ha]
  rcases Int.lt_trichotomy a b with h | h | h
  · simp [h, Int.not_le.mpr h, Int.not_lt.mpr (Int.le_of_lt h), Int.ne_of_lt h]
  · subst h
    simp
    rfl
  · simp [h, Int.not_le.mpr h, Int.not_lt.mpr (Int.le_of_lt h), (Int.ne_of_lt h).symm]
    rfl
def jc (c : ClassFile.Cond) (a b : Int) : Bool := match c with
  | .eq => decide (a = b)
  | .ne => !decide (a = b)
  | .lt => decide (a < b)
  | .ge => decide (b ≤ a)
  | .gt => decide (b < a)
  | .le => decide (a ≤ b)
theorem jn_cnd {a b : Int} (ha : jr a) (hb : jr b) (c : ClassFile.Cond) : mj_cnd c (jn a) (jn b) = jc c a b := by
  cases c <;> simp [mj_cnd, jc, jn_eq ha hb, jn_lt ha hb, jn_le ha hb, jn_lt hb ha, jn_le hb ha]
theorem jn_in {i : Int} {n : Nat} (hi : jr i) : mj_in (jn i) n = decide (0 ≤ i ∧ i < n) := by
  unfold mj_in
  have h0 : (0 : Int32) = jn 0 := rfl
  rw [h0]
  rcases Int.lt_or_le i 0 with h | h
  · have h1 : ¬ (jn 0 ≤ jn i) := by rw [jn_le ⟨by decide, by decide⟩ hi]; omega
    simp [h1]
    omega
  · have h1 : jn 0 ≤ jn i := by rw [jn_le ⟨by decide, by decide⟩ hi]; exact h
    rw [jn_nat h hi]
    simp only [h1, decide_true, Bool.true_and]
    rw [Bool.eq_iff_iff]
    simp [Nat.blt_eq]
    omega
/-! Rules for the instructions, their numbers as whole numbers. -/
theorem mj_updI (g : Nat → Int32) (i : Nat) (x : Int32) : updV (fun j => Value.int (g j)) i (.int x) = fun j => .int (upd g i x j) := by
  funext j
  unfold updV upd
  split <;> rfl
theorem mj_updL (g : Nat → Int64) (i : Nat) (x : Int64) : updV (fun j => Value.long (g j)) i (.long x) = fun j => .long (if j = i then x else g j) := by
  funext j
  unfold updV
  split <;> rfl
/-- an instruction that computes by itself -/
def mj_pl (ins : Instr) : Bool := match ins with
  | .ifCond _ _ => false
  | .if_icmp _ _ => false
  | .tableswitch _ _ _ _ => false
  | .iadd => false
  | .isub => false
  | .imul => false
  | .idiv => false
  | .irem => false
  | .ineg => false
  | .ladd => false
  | .lsub => false
  | .lmul => false
  | .ldiv => false
  | .lrem => false
  | .lneg => false
  | .lcmp => false
  | .i2l => false
  | .l2i => false
  | .iinc _ _ => false
  | .arraylength => false
  | .iaload => false
  | .laload => false
  | .baload => false
  | .aaload => false
  | .iastore => false
  | .lastore => false
  | .bastore => false
  | .aastore => false
  | _ => true
section MJU
variable {D pc : Nat} {M : mj_M} {loc : mj_L} {st : List Value} {h : mj_H} {Q : mj_R → Prop} {r1 r2 r3 r4 r5 : Nat}
/-- a plain step -/
theorem mj_T.pl {ins : Instr} {pc' : Nat} {loc' : mj_L} {st' : List Value} {h' : mj_H} (hc : M.2.2.2.2.1 pc = some (ins, r1, r2, r3, r4, r5)) (hp : mj_pl ins = true) (hk : mj_kind ins r3 = 0) (hs : mj_step ins r1 r2 r3 mj_new pc loc st h = some (pc', loc', st', h')) (k : mj_T D M pc' loc' st' h' Q) : mj_T D M pc loc st h Q := mj_T.step hc hk hs k
theorem mj_T.iadd {a b : Int} (hc : M.2.2.2.2.1 pc = some (.iadd, r1, r2, r3, r4, r5)) (k : mj_T D M (pc + 1) loc (.int (jn (a + b)) :: st) h Q) : mj_T D M pc loc (.int (jn b) :: .int (jn a) :: st) h Q := mj_T.step hc rfl (by simp only [mj_step, jn_add]) k
theorem mj_T.isub {a b : Int} (hc : M.2.2.2.2.1 pc = some (.isub, r1, r2, r3, r4, r5)) (k : mj_T D M (pc + 1) loc (.int (jn (a - b)) :: st) h Q) : mj_T D M pc loc (.int (jn b) :: .int (jn a) :: st) h Q := mj_T.step hc rfl (by simp only [mj_step, jn_sub]) k
theorem mj_T.imul {a b : Int} (hc : M.2.2.2.2.1 pc = some (.imul, r1, r2, r3, r4, r5)) (k : mj_T D M (pc + 1) loc (.int (jn (a * b)) :: st) h Q) : mj_T D M pc loc (.int (jn b) :: .int (jn a) :: st) h Q := mj_T.step hc rfl (by simp only [mj_step, jn_mul]) k
theorem mj_T.ineg {a : Int} (hc : M.2.2.2.2.1 pc = some (.ineg, r1, r2, r3, r4, r5)) (k : mj_T D M (pc + 1) loc (.int (jn (-a)) :: st) h Q) : mj_T D M pc loc (.int (jn a) :: st) h Q := mj_T.step hc rfl (by simp only [mj_step, jn_neg]) k
theorem jn_ne0 {b : Int} (hb : jr b) (h0 : 0 < b) : ¬ (jn b = 0) := by rw [show (0 : Int32) = jn 0 from rfl, jn_eq hb ⟨by decide, by decide⟩]; omega
theorem jl_ne0 {b : Int} (hb : jR b) (h0 : 0 < b) : ¬ (jl b = 0) := by rw [show (0 : Int64) = jl 0 from rfl, jl_eq hb ⟨by decide, by decide⟩]; omega
theorem mj_T.idiv {a b : Int} (hc : M.2.2.2.2.1 pc = some (.idiv, r1, r2, r3, r4, r5)) (ha : jr a) (hb : jr b) (h0 : 0 < b) (k : mj_T D M (pc + 1) loc (.int (jn (a.tdiv b)) :: st) h Q) : mj_T D M pc loc (.int (jn b) :: .int (jn a) :: st) h Q := mj_T.step hc rfl (by
  simp only [mj_step, jn_div ha hb h0]
  rw [if_neg (jn_ne0 hb h0)]) k
theorem mj_T.irem {a b : Int} (hc : M.2.2.2.2.1 pc = some (.irem, r1, r2, r3, r4, r5)) (ha : jr a) (hb : jr b) (h0 : 0 < b) (k : mj_T D M (pc + 1) loc (.int (jn (a.tmod b)) :: st) h Q) : mj_T D M pc loc (.int (jn b) :: .int (jn a) :: st) h Q := mj_T.step hc rfl (by
  simp only [mj_step, jn_rem ha hb h0]
  rw [if_neg (jn_ne0 hb h0)]) k
theorem mj_T.ladd {a b : Int} (hc : M.2.2.2.2.1 pc = some (.ladd, r1, r2, r3, r4, r5)) (k : mj_T D M (pc + 1) loc (.long (jl (a + b)) :: st) h Q) : mj_T D M pc loc (.long (jl b) :: .long (jl a) :: st) h Q := mj_T.step hc rfl (by simp only [mj_step, jl_add]) k
theorem mj_T.lsub {a b : Int} (hc : M.2.2.2.2.1 pc = some (.lsub, r1, r2, r3, r4, r5)) (k : mj_T D M (pc + 1) loc (.long (jl (a - b)) :: st) h Q) : mj_T D M pc loc (.long (jl b) :: .long (jl a) :: st) h Q := mj_T.step hc rfl (by simp only [mj_step, jl_sub]) k
theorem mj_T.lmul {a b : Int} (hc : M.2.2.2.2.1 pc = some (.lmul, r1, r2, r3, r4, r5)) (k : mj_T D M (pc + 1) loc (.long (jl (a * b)) :: st) h Q) : mj_T D M pc loc (.long (jl b) :: .long (jl a) :: st) h Q := mj_T.step hc rfl (by simp only [mj_step, jl_mul]) k
theorem mj_T.lneg {a : Int} (hc : M.2.2.2.2.1 pc = some (.lneg, r1, r2, r3, r4, r5)) (k : mj_T D M (pc + 1) loc (.long (jl (-a)) :: st) h Q) : mj_T D M pc loc (.long (jl a) :: st) h Q := mj_T.step hc rfl (by simp only [mj_step, jl_neg]) k
theorem mj_T.lrem {a b : Int} (hc : M.2.2.2.2.1 pc = some (.lrem, r1, r2, r3, r4, r5)) (ha : jR a) (hb : jR b) (h0 : 0 < b) (k : mj_T D M (pc + 1) loc (.long (jl (a.tmod b)) :: st) h Q) : mj_T D M pc loc (.long (jl b) :: .long (jl a) :: st) h Q := mj_T.step hc rfl (by
  simp only [mj_step, jl_rem ha hb h0]
  rw [if_neg (jl_ne0 hb h0)]) k
theorem mj_T.ldiv {a b : Int} (hc : M.2.2.2.2.1 pc = some (.ldiv, r1, r2, r3, r4, r5)) (ha : jR a) (hb : jR b) (h0 : 0 < b) (k : mj_T D M (pc + 1) loc (.long (jl (a.tdiv b)) :: st) h Q) : mj_T D M pc loc (.long (jl b) :: .long (jl a) :: st) h Q := mj_T.step hc rfl (by
  simp only [mj_step, jl_div ha hb h0]
  rw [if_neg (jl_ne0 hb h0)]) k
theorem mj_T.l2i {a : Int} (hc : M.2.2.2.2.1 pc = some (.l2i, r1, r2, r3, r4, r5)) (k : mj_T D M (pc + 1) loc (.int (jn a) :: st) h Q) : mj_T D M pc loc (.long (jl a) :: st) h Q := mj_T.step hc rfl (by simp only [mj_step, jl_int]) k
theorem mj_T.i2l {a : Int} (hc : M.2.2.2.2.1 pc = some (.i2l, r1, r2, r3, r4, r5)) (ha : jr a) (k : mj_T D M (pc + 1) loc (.long (jl a) :: st) h Q) : mj_T D M pc loc (.int (jn a) :: st) h Q := mj_T.step hc rfl (by simp only [mj_step, jn_long ha]) k
theorem mj_T.lcmp {a b : Int} (hc : M.2.2.2.2.1 pc = some (.lcmp, r1, r2, r3, r4, r5)) (ha : jR a) (hb : jR b) (k : mj_T D M (pc + 1) loc (.int (jn (if a < b then -1 else if a = b then 0 else 1)) :: st) h Q) : mj_T D M pc loc (.long (jl b) :: .long (jl a) :: st) h Q := mj_T.step hc rfl (by simp only [mj_step, jl_cmp ha hb]) k
theorem mj_T.icmp {c : ClassFile.Cond} {o : Int} {a b : Int} (hc : M.2.2.2.2.1 pc = some (.if_icmp c o, r1, r2, r3, r4, r5)) (ha : jr a) (hb : jr b) (k1 : jc c a b = true → mj_T D M r1 loc st h Q) (k2 : jc c a b = false → mj_T D M (pc + 3) loc st h Q) : mj_T D M pc loc (.int (jn b) :: .int (jn a) :: st) h Q := by
  cases hj : jc c a b with
  | true => exact mj_T.step hc rfl (by simp only [mj_step, jn_cnd ha hb, hj, if_true]) (k1 hj)
  | false => exact mj_T.step hc rfl (by simp only [mj_step, jn_cnd ha hb, hj]; rfl) (k2 hj)
theorem mj_T.if0 {c : ClassFile.Cond} {o : Int} {a : Int} (hc : M.2.2.2.2.1 pc = some (.ifCond c o, r1, r2, r3, r4, r5)) (ha : jr a) (k1 : jc c a 0 = true → mj_T D M r1 loc st h Q) (k2 : jc c a 0 = false → mj_T D M (pc + 3) loc st h Q) : mj_T D M pc loc (.int (jn a) :: st) h Q := by
  have h0 : (0 : Int32) = jn 0 := rfl
  cases hj : jc c a 0 with
  | true => exact mj_T.step hc rfl (by simp only [mj_step]; rw [h0, jn_cnd ha ⟨by decide, by decide⟩, hj]; rfl) (k1 hj)
  | false => exact mj_T.step hc rfl (by simp only [mj_step]; rw [h0, jn_cnd ha ⟨by decide, by decide⟩, hj]; rfl) (k2 hj)
/-- lcmp and a branch on it -/
def jcl (c : ClassFile.Cond) (a b : Int) : Bool := jc c (if a < b then -1 else if a = b then 0 else 1) 0
theorem jcl_eq (c : ClassFile.Cond) (a b : Int) : jcl c a b = jc c a b := by
  unfold jcl
  rcases Int.lt_trichotomy a b with h | h | h
  · rw [if_pos h]
    cases c <;> simp [jc] <;> omega
  · subst h
    simp only [Int.lt_irrefl, if_false, if_true]
    cases c <;> simp [jc]
  · rw [if_neg (by omega), if_neg (by omega)]
    cases c <;> simp [jc] <;> omega
theorem mj_T.lif {c : ClassFile.Cond} {o : Int} {a b : Int} {q1 q2 q3 q4 q5 : Nat} (hc : M.2.2.2.2.1 pc = some (.lcmp, q1, q2, q3, q4, q5)) (hc2 : M.2.2.2.2.1 (pc + 1) = some (.ifCond c o, r1, r2, r3, r4, r5)) (ha : jR a) (hb : jR b) (k1 : jc c a b = true → mj_T D M r1 loc st h Q) (k2 : jc c a b = false → mj_T D M (pc + 1 + 3) loc st h Q) : mj_T D M pc loc (.long (jl b) :: .long (jl a) :: st) h Q := by
  refine mj_T.lcmp hc ha hb (mj_T.if0 hc2 ?_ (fun q => k1 ?_) (fun q => k2 ?_))
  · constructor <;> (repeat' split) <;> decide
  · rw [← jcl_eq]; exact q
  · rw [← jcl_eq]; exact q
theorem mj_T.iinc {i : Nat} {x : Int} {a : Int} (hc : M.2.2.2.2.1 pc = some (.iinc i x, r1, r2, r3, r4, r5)) (hl : loc[i]? = some (some (.int (jn a)))) (k : mj_T D M (pc + 3) (mj_st1 loc i (.int (jn (a + x)))) st h Q) : mj_T D M pc loc st h Q := mj_T.step hc rfl (by simp only [mj_step, hl, jn_add]) k
theorem mj_T.alen {a t n : Nat} {f : Nat → Value} (hc : M.2.2.2.2.1 pc = some (.arraylength, r1, r2, r3, r4, r5)) (ha : h[a]? = some (.inl (t, n, f))) (k : mj_T D M (pc + 1) loc (.int (jn n) :: st) h Q) : mj_T D M pc loc (.ref a :: st) h Q := mj_T.step hc rfl (by simp only [mj_step, ha]; rfl) k
theorem mj_T.iast {a n : Nat} {g : Nat → Int32} {i : Int} {x : Int32} (hc : M.2.2.2.2.1 pc = some (.iastore, r1, r2, r3, r4, r5)) (ha : h[a]? = some (.inl (0, n, fun j => .int (g j)))) (hi : jr i) (h0 : 0 ≤ i ∧ i < n) (k : mj_T D M (pc + 1) loc st (h.set a (.inl (0, n, fun j => .int (upd g i.toNat x j)))) Q) : mj_T D M pc loc (.int x :: .int (jn i) :: .ref a :: st) h Q := mj_T.step hc rfl (by
  have h1 : mj_in (jn i) n = true := by rw [jn_in hi]; exact decide_eq_true h0
  simp only [mj_step, ha, h1, jn_nat h0.1 hi, true_and, if_true, mj_updI]) k
theorem mj_T.iald {a n : Nat} {g : Nat → Int32} {i : Int} (hc : M.2.2.2.2.1 pc = some (.iaload, r1, r2, r3, r4, r5)) (ha : h[a]? = some (.inl (0, n, fun j => .int (g j)))) (hi : jr i) (h0 : 0 ≤ i ∧ i < n) (k : mj_T D M (pc + 1) loc (.int (g i.toNat) :: st) h Q) : mj_T D M pc loc (.int (jn i) :: .ref a :: st) h Q := mj_T.step hc rfl (by
  have h1 : mj_in (jn i) n = true := by rw [jn_in hi]; exact decide_eq_true h0
  simp only [mj_step, ha, h1, jn_nat h0.1 hi, true_or, true_and, if_true]) k
theorem mj_T.last {a n : Nat} {g : Nat → Int64} {i : Int} {x : Int64} (hc : M.2.2.2.2.1 pc = some (.lastore, r1, r2, r3, r4, r5)) (ha : h[a]? = some (.inl (1, n, fun j => .long (g j)))) (hi : jr i) (h0 : 0 ≤ i ∧ i < n) (k : mj_T D M (pc + 1) loc st (h.set a (.inl (1, n, fun j => .long (if j = i.toNat then x else g j)))) Q) : mj_T D M pc loc (.long x :: .int (jn i) :: .ref a :: st) h Q := mj_T.step hc rfl (by
  have h1 : mj_in (jn i) n = true := by rw [jn_in hi]; exact decide_eq_true h0
  simp only [mj_step, ha, h1, jn_nat h0.1 hi, true_and, if_true, mj_updL]) k
theorem mj_T.lald {a n : Nat} {g : Nat → Int64} {i : Int} (hc : M.2.2.2.2.1 pc = some (.laload, r1, r2, r3, r4, r5)) (ha : h[a]? = some (.inl (1, n, fun j => .long (g j)))) (hi : jr i) (h0 : 0 ≤ i ∧ i < n) (k : mj_T D M (pc + 1) loc (.long (g i.toNat) :: st) h Q) : mj_T D M pc loc (.int (jn i) :: .ref a :: st) h Q := mj_T.step hc rfl (by
  have h1 : mj_in (jn i) n = true := by rw [jn_in hi]; exact decide_eq_true h0
  simp only [mj_step, ha, h1, jn_nat h0.1 hi, true_and, if_true]) k
theorem mj_T.aald {a t n : Nat} {f : Nat → Value} {i : Int} (hc : M.2.2.2.2.1 pc = some (.aaload, r1, r2, r3, r4, r5)) (ha : h[a]? = some (.inl (t, n, f))) (ht : mj_isref t = true) (hi : jr i) (h0 : 0 ≤ i ∧ i < n) (k : mj_T D M (pc + 1) loc (f i.toNat :: st) h Q) : mj_T D M pc loc (.int (jn i) :: .ref a :: st) h Q := mj_T.step hc rfl (by
  have h1 : mj_in (jn i) n = true := by rw [jn_in hi]; exact decide_eq_true h0
  simp only [mj_step, ha, ht, h1, jn_nat h0.1 hi, true_and, if_true]) k
/-- max and min -/
theorem mj_T.imax {a b : Int} {ins : Instr} (hc : M.2.2.2.2.1 pc = some (ins, r1, r2, 2, r4, r5)) (hk : mj_kind ins 2 = 4) (hcat : mj_cat st ≤ 20) (ha : jr a) (hb : jr b) (k : mj_T D M (pc + 3) loc (.int (jn (max a b)) :: st) h Q) : mj_T D M pc loc (.int (jn b) :: .int (jn a) :: st) h Q := mj_T.prim hc hk (by
  have e : (if a < b then jn b else jn a) = jn (max a b) := by split <;> (congr 1; omega)
  simp only [mj_prim, jn_lt ha hb]
  rw [if_pos hcat, e]) k
theorem mj_T.imin {a b : Int} {ins : Instr} (hc : M.2.2.2.2.1 pc = some (ins, r1, r2, 3, r4, r5)) (hk : mj_kind ins 3 = 4) (hcat : mj_cat st ≤ 20) (ha : jr a) (hb : jr b) (k : mj_T D M (pc + 3) loc (.int (jn (min a b)) :: st) h Q) : mj_T D M pc loc (.int (jn b) :: .int (jn a) :: st) h Q := mj_T.prim hc hk (by
  have e : (if b < a then jn b else jn a) = jn (min a b) := by split <;> (congr 1; omega)
  simp only [mj_prim, jn_lt hb ha]
  rw [if_pos hcat, e]) k
end MJU
/-! Limbs: nine digits each. -/
abbrev jB : Nat := 1000000000
def jlb (x j : Nat) : Nat := x / jB ^ j % jB
/-- how many limbs a number has -/
def jnl (x : Nat) : Nat := if x = 0 then 0 else jnl (x / jB) + 1
decreasing_by exact Nat.div_lt_self (by omega) (by decide)
theorem jlb_lt (x j : Nat) : jlb x j < 1000000000 := Nat.mod_lt _ (by decide)
theorem jnl_zero : jnl 0 = 0 := by unfold jnl; simp
theorem jnl_pos {x : Nat} (h : x ≠ 0) : jnl x = jnl (x / jB) + 1 := by rw [jnl]; simp [h]
theorem jnl_eq0 {x : Nat} : jnl x = 0 ↔ x = 0 := by
  constructor
  · intro h
    by_cases hx : x = 0
    · exact hx
    · rw [jnl_pos hx] at h; omega
  · intro h; rw [h, jnl_zero]
theorem jB_pow (j : Nat) : 0 < jB ^ j := Nat.pow_pos (by decide)
/-- fewer limbs than j: nothing is left behind j limbs -/
theorem jnl_le {x j : Nat} : jnl x ≤ j ↔ x / jB ^ j = 0 := by
  induction j generalizing x with
  | zero =>
    by_cases h : x = 0
    · subst h; simp [jnl_zero]
    · rw [jnl_pos h]; simp [h]
  | succ j ih =>
    by_cases h : x = 0
    · subst h; simp [jnl_zero]
    · rw [jnl_pos h, Nat.add_le_add_iff_right, ih, Nat.div_div_eq_div_mul, Nat.pow_succ, Nat.mul_comm]
theorem jnl_le_lt {x j : Nat} : jnl x ≤ j ↔ x < jB ^ j := by
  rw [jnl_le, Nat.div_eq_zero_iff]
  have := jB_pow j
  omega
theorem jnl_lt {x j : Nat} : j < jnl x ↔ x / jB ^ j ≠ 0 := by
  have := @jnl_le x j
  omega
theorem jnl_mono {x y : Nat} (h : x ≤ y) : jnl x ≤ jnl y := jnl_le_lt.mpr (Nat.lt_of_le_of_lt h (jnl_le_lt.mp (Nat.le_refl _)))
theorem jdiv (x i : Nat) : x / jB ^ i = x / jB ^ (i + 1) * jB + jlb x i := by
  unfold jlb
  rw [Nat.pow_succ, ← Nat.div_div_eq_div_mul, Nat.mul_comm]
  exact (Nat.div_add_mod _ _).symm
theorem jlb_high {x j : Nat} (h : jnl x ≤ j) : jlb x j = 0 := by
  unfold jlb
  rw [jnl_le.mp h, Nat.zero_mod]
theorem jlb_top {x j : Nat} (h : j + 1 = jnl x) : jlb x j ≠ 0 := by
  intro h0
  have h1 := jdiv x j
  rw [h0, jnl_le.mp (Nat.le_of_eq h.symm)] at h1
  have h2 : j < jnl x := by omega
  exact jnl_lt.mp h2 (by simpa using h1)
/-- the low limbs' number -/
theorem jmod (x i : Nat) : x % jB ^ (i + 1) = jlb x i * jB ^ i + x % jB ^ i := by
  unfold jlb
  rw [Nat.pow_succ, Nat.mod_mul, Nat.mul_comm, Nat.add_comm]
theorem jmod_full {x i : Nat} (h : jnl x ≤ i) : x % jB ^ i = x := Nat.mod_eq_of_lt (jnl_le_lt.mp h)
theorem jnl_of {x j : Nat} (h : x < jB ^ j) : jnl x ≤ j := jnl_le_lt.mpr h
/-- a number by its limbs -/
theorem jlb_of {a c i : Nat} (h : c < jB) (ha : a < jB ^ i) : jlb (c * jB ^ i + a) i = c := by
  unfold jlb
  rw [Nat.mul_comm, Nat.mul_add_div (jB_pow i), Nat.div_eq_of_lt ha, Nat.add_zero, Nat.mod_eq_of_lt h]
theorem jlb_low {a c i j : Nat} (hj : j < i) : jlb (c * jB ^ i + a) j = jlb a j := by
  unfold jlb
  obtain ⟨d, rfl⟩ : ∃ d, i = j + 1 + d := ⟨i - (j + 1), by omega⟩
  rw [show c * jB ^ (j + 1 + d) + a = a + jB ^ j * (jB * (c * jB ^ d)) by rw [Nat.pow_add, Nat.pow_succ, Nat.add_comm]; congr 1; simp only [Nat.mul_comm, Nat.mul_left_comm, Nat.mul_assoc]]
  rw [Nat.add_mul_div_left _ _ (jB_pow j), Nat.add_mul_mod_self_left]
/-! Wide: setLong. -/
def jsg (v : Int) : Int := if v < 0 then -1 else if 0 < v then 1 else 0
theorem jrest (v : Int) (i : Nat) : (v.tdiv ((jB : Int) ^ i)).natAbs = v.natAbs / jB ^ i := by
  rw [Int.natAbs_tdiv, Int.natAbs_pow]
  rfl
theorem jrest_R {v : Int} (hv : jR v) (i : Nat) : jR (v.tdiv ((jB : Int) ^ i)) := by
  have h1 := jrest v i
  have h2 := Nat.div_le_self v.natAbs (jB ^ i)
  have h3 := hv.1
  have h4 := hv.2
  have h5 : (0 : Int) ≤ (jB : Int) ^ i := Int.le_of_lt (Int.pow_pos (by decide))
  rcases Int.le_total 0 v with h | h
  · have := Int.tdiv_nonneg h h5
    exact ⟨by omega, by omega⟩
  · have := Int.tdiv_nonneg (a := -v) (by omega) h5
    rw [Int.neg_tdiv] at this
    exact ⟨by omega, by omega⟩
theorem jrest_next (v : Int) (i : Nat) : (v.tdiv ((jB : Int) ^ i)).tdiv 1000000000 = v.tdiv ((jB : Int) ^ (i + 1)) := by
  have key : ∀ x : Nat, ((x : Int).tdiv ((jB : Int) ^ i)).tdiv 1000000000 = (x : Int).tdiv ((jB : Int) ^ (i + 1)) := by
    intro x
    rw [← Int.natCast_pow, ← Int.natCast_pow, ← Int.ofNat_tdiv, ← Int.ofNat_tdiv, show (1000000000 : Int) = ((jB : Nat) : Int) from rfl, ← Int.ofNat_tdiv, Nat.div_div_eq_div_mul, Nat.pow_succ]
  rcases Int.le_total 0 v with h | h
  · obtain ⟨x, rfl⟩ := Int.eq_ofNat_of_zero_le h
    exact key x
  · obtain ⟨x, hx⟩ := Int.eq_ofNat_of_zero_le (a := -v) (by omega)
    rw [show v = -(x : Int) by omega, Int.neg_tdiv, Int.neg_tdiv, Int.neg_tdiv, key]
theorem jrest_limb (v : Int) (i : Nat) : ((v.tdiv ((jB : Int) ^ i)).tmod 1000000000).natAbs = jlb v.natAbs i := by
  rw [Int.natAbs_tmod, jrest]
  rfl
theorem jw_setLong_loop {D n : Nat} {v : Int} (hv : jR v) {g0 : Int32} {g : Nat → Int32} (hn : n < 2147483648) {Q : mj_R → Prop}
    (hend : ∀ (gi : Nat → Int32) (i : Nat) (l6 : Option Value), i = min n (jnl v.natAbs) → (∀ j, j < i → gi j = jn (jlb v.natAbs j)) → (∀ j, i ≤ j → gi j = g j) → mj_T D mj_m86 74 [some (.ref 0), some (.long (jl v)), none, some (.long (jl (v.tdiv ((jB : Int) ^ i)))), none, some (.int (jn i)), l6] [] [.inr (8, [.ref 1, .int (jn i), .int g0]), .inl (0, n, fun j => .int (gi j))] Q) :
    ∀ (d i : Nat) (gi : Nat → Int32) (l6 : Option Value), i + d = n → i ≤ jnl v.natAbs → (∀ j, j < i → gi j = jn (jlb v.natAbs j)) → (∀ j, i ≤ j → gi j = g j) →
      mj_T D mj_m86 10 [some (.ref 0), some (.long (jl v)), none, some (.long (jl (v.tdiv ((jB : Int) ^ i)))), none, some (.int (jn i)), l6] [] [.inr (8, [.ref 1, .int (jn i), .int g0]), .inl (0, n, fun j => .int (gi j))] Q := by
  intro d
  induction d with
  | zero =>
    intro i gi l6 hid hil hg1 hg2
    repeat refine mj_T.pl rfl rfl rfl rfl ?_
    refine mj_T.alen rfl rfl ?_
    refine mj_T.icmp rfl ⟨by omega, by omega⟩ ⟨by omega, by omega⟩ (fun _ => ?_) (fun hc => ?_)
    · exact hend gi i l6 (by omega) hg1 hg2
    · simp only [jc, decide_eq_false_iff_not] at hc; omega
  | succ d ih =>
    intro i gi l6 hid hil hg1 hg2
    repeat refine mj_T.pl rfl rfl rfl rfl ?_
    refine mj_T.alen rfl rfl ?_
    refine mj_T.icmp rfl ⟨by omega, by omega⟩ ⟨by omega, by omega⟩ (fun hc => ?_) (fun hc => ?_)
    · simp only [jc, decide_eq_true_eq] at hc; omega
    have hr := jrest_R hv i
    have hlim := jrest v i
    have hlb := jrest_limb v i
    have hlt := jlb_lt v.natAbs i
    repeat refine mj_T.pl rfl rfl rfl rfl ?_
    refine mj_T.lif (b := 0) rfl rfl hr ⟨by decide, by decide⟩ (fun hc2 => ?_) (fun hc2 => ?_)
    · refine hend gi i l6 ?_ hg1 hg2
      simp only [jc, decide_eq_true_eq] at hc2
      have h1 : jnl v.natAbs ≤ i := jnl_le.mpr (by omega)
      omega
    have hil2 : i + 1 ≤ jnl v.natAbs := by
      simp only [jc, decide_eq_false_iff_not] at hc2
      exact jnl_lt.mpr (by omega)
    repeat refine mj_T.pl rfl rfl rfl rfl ?_
    refine mj_T.lrem (b := 1000000000) rfl hr ⟨by decide, by decide⟩ (by decide) ?_
    refine mj_T.l2i rfl ?_
    repeat refine mj_T.pl rfl rfl rfl rfl ?_
    have fin : mj_T D mj_m86 53 [some (.ref 0), some (.long (jl v)), none, some (.long (jl (v.tdiv ((jB : Int) ^ i)))), none, some (.int (jn i)), some (.int (jn ((v.tdiv ((jB : Int) ^ i)).tmod 1000000000)))] [.int (jn (jlb v.natAbs i)), .int (jn i), .ref 1] [.inr (8, [.ref 1, .int (jn i), .int g0]), .inl (0, n, fun j => .int (gi j))] Q := by
      refine mj_T.iast rfl rfl ⟨by omega, by omega⟩ ⟨by omega, by omega⟩ ?_
      repeat refine mj_T.pl rfl rfl rfl rfl ?_
      refine mj_T.ldiv (b := 1000000000) rfl hr ⟨by decide, by decide⟩ (by decide) ?_
      rw [jrest_next]
      repeat refine mj_T.pl rfl rfl rfl rfl ?_
      refine mj_T.iadd (b := 1) rfl ?_
      refine mj_T.pl rfl rfl rfl rfl ?_
      refine mj_T.iinc (a := i) rfl rfl ?_
      refine mj_T.pl rfl rfl rfl rfl ?_
      refine ih (i + 1) (upd gi i (jn (jlb v.natAbs i))) (some (.int (jn ((v.tdiv ((jB : Int) ^ i)).tmod 1000000000)))) (by omega) hil2 (fun j hj => ?_) (fun j hj => ?_)
      · unfold upd
        split
        · rename_i h; rw [h]
        · exact hg1 j (by omega)
      · unfold upd
        rw [if_neg (by omega)]
        exact hg2 j (by omega)
    refine mj_T.if0 rfl ⟨by omega, by omega⟩ (fun hc3 => ?_) (fun hc3 => ?_)
    · repeat refine mj_T.pl rfl rfl rfl rfl ?_
      simp only [jc, decide_eq_true_eq] at hc3
      refine mj_T.eq fin rfl rfl ?_ rfl
      rw [show (v.tdiv ((jB : Int) ^ i)).tmod 1000000000 = ((jlb v.natAbs i : Nat) : Int) by omega]
    · simp only [jc, decide_eq_false_iff_not] at hc3
      refine mj_T.pl rfl rfl rfl rfl ?_
      refine mj_T.ineg rfl ?_
      repeat refine mj_T.pl rfl rfl rfl rfl ?_
      refine mj_T.eq fin rfl rfl ?_ rfl
      rw [show -(v.tdiv ((jB : Int) ^ i)).tmod 1000000000 = ((jlb v.natAbs i : Nat) : Int) by omega]
theorem jw_setLong {D n : Nat} {v : Int} (hv : jR v) {s0 g0 : Int32} {g : Nat → Int32} (hn : n < 2147483648) :
    mj_Ok (D + 1) 86 [.ref 0, .long (jl v)] [.inr (8, [.ref 1, .int s0, .int g0]), .inl (0, n, fun j => .int (g j))]
      (fun r => ∃ g' : Nat → Int32, (∀ j, j < min n (jnl v.natAbs) → g' j = jn (jlb v.natAbs j)) ∧ (∀ j, min n (jnl v.natAbs) ≤ j → g' j = g j) ∧ r = (.inl none, [.inr (8, [.ref 1, .int (jn ((min n (jnl v.natAbs) : Nat) : Int)), .int (jn (jsg v))]), .inl (0, n, fun j => .int (g' j))])) := by
  refine mj_Ok.of (M := mj_m86) rfl rfl rfl ?_
  iterate 7 refine mj_T.pl rfl rfl rfl rfl ?_
  refine mj_T.eq (jw_setLong_loop hv (g0 := g0) (g := g) hn (fun gi i l6 hi hg1 hg2 => ?_) n 0 g none (by omega) (Nat.zero_le _) (fun j hj => by omega) (fun j _ => rfl)) rfl ?_ rfl rfl
  · have fin : ∀ z : Int, z = jsg v → mj_T D mj_m86 96 [some (.ref 0), some (.long (jl v)), none, some (.long (jl (v.tdiv ((jB : Int) ^ i)))), none, some (.int (jn i)), l6] [.int (jn z), .ref 0] [.inr (8, [.ref 1, .int (jn i), .int g0]), .inl (0, n, fun j => .int (gi j))]
      (fun r => ∃ g' : Nat → Int32, (∀ j, j < min n (jnl v.natAbs) → g' j = jn (jlb v.natAbs j)) ∧ (∀ j, min n (jnl v.natAbs) ≤ j → g' j = g j) ∧ r = (.inl none, [.inr (8, [.ref 1, .int (jn ((min n (jnl v.natAbs) : Nat) : Int)), .int (jn (jsg v))]), .inl (0, n, fun j => .int (g' j))])) := by
      intro z hz
      subst hz
      refine mj_T.pl rfl rfl rfl rfl ?_
      subst hi
      exact mj_T.ret rfl rfl rfl ⟨gi, hg1, hg2, rfl⟩
    repeat refine mj_T.pl rfl rfl rfl rfl ?_
    refine mj_T.lif (b := 0) rfl rfl hv ⟨by decide, by decide⟩ (fun hc => ?_) (fun hc => ?_)
    · simp only [jc, decide_eq_true_eq] at hc
      repeat refine mj_T.pl rfl rfl rfl rfl ?_
      refine mj_T.lif (b := 0) rfl rfl hv ⟨by decide, by decide⟩ (fun hc2 => ?_) (fun hc2 => ?_)
      · simp only [jc, decide_eq_true_eq] at hc2
        refine mj_T.pl rfl rfl rfl rfl ?_
        exact fin 0 (by unfold jsg; rw [if_neg (by omega), if_neg (by omega)])
      · simp only [jc, decide_eq_false_iff_not] at hc2
        iterate 2 refine mj_T.pl rfl rfl rfl rfl ?_
        exact fin 1 (by unfold jsg; rw [if_neg (by omega), if_pos (by omega)])
    · simp only [jc, decide_eq_false_iff_not] at hc
      iterate 2 refine mj_T.pl rfl rfl rfl rfl ?_
      exact fin (-1) (by unfold jsg; rw [if_pos (by omega)])
  · rw [Int.pow_zero, Int.tdiv_one]
    rfl
/-! Wide: set. -/
theorem jw_set_loop {D n m k : Nat} {g0 : Int32} {s sg : Int} {q : Nat → Int32} (hn : n < 2147483648) (hm : m < 2147483648) (hk : k ≤ n ∧ k ≤ m) {Q : mj_R → Prop}
    (hend : ∀ (gi g : Nat → Int32) (l2 : Option Value), (∀ j, j < k → gi j = q j) → mj_T D mj_m87 52 [some (.ref 0), some (.ref 2), l2] [] [.inr (8, [.ref 1, .int (jn k), .int g0]), .inl (0, n, fun j => .int (gi j)), .inr (8, [.ref 3, .int (jn s), .int (jn sg)]), .inl (0, m, fun j => .int (q j))] Q) :
    ∀ (d i : Nat) (gi : Nat → Int32), i + d = k → (∀ j, j < i → gi j = q j) →
      mj_T D mj_m87 26 [some (.ref 0), some (.ref 2), some (.int (jn i))] [] [.inr (8, [.ref 1, .int (jn k), .int g0]), .inl (0, n, fun j => .int (gi j)), .inr (8, [.ref 3, .int (jn s), .int (jn sg)]), .inl (0, m, fun j => .int (q j))] Q := by
  intro d
  induction d with
  | zero =>
    intro i gi hid hg
    iterate 3 refine mj_T.pl rfl rfl rfl rfl ?_
    refine mj_T.icmp rfl ⟨by omega, by omega⟩ ⟨by omega, by omega⟩ (fun hc31 => ?_) (fun hc31 => ?_)
    · exact hend gi gi _ (fun j hj => hg j (by omega))
    · simp only [jc, decide_eq_false_iff_not] at hc31; omega
  | succ d ih =>
    intro i gi hid hg
    iterate 3 refine mj_T.pl rfl rfl rfl rfl ?_
    refine mj_T.icmp rfl ⟨by omega, by omega⟩ ⟨by omega, by omega⟩ (fun hc31 => ?_) (fun hc31 => ?_)
    · simp only [jc, decide_eq_true_eq] at hc31; omega
    · iterate 6 refine mj_T.pl rfl rfl rfl rfl ?_
      refine mj_T.iald rfl rfl ⟨by omega, by omega⟩ ⟨by omega, by omega⟩ ?_
      refine mj_T.iast rfl rfl ⟨by omega, by omega⟩ ⟨by omega, by omega⟩ ?_
      refine mj_T.iinc rfl rfl ?_
      refine mj_T.pl rfl rfl rfl rfl ?_
      refine ih (i + 1) (upd gi i (q i)) (by omega) (fun j hj => ?_)
      unfold upd
      split
      · rename_i h; rw [h]
      · exact hg j (by omega)
theorem jw_set {D n m s : Nat} {sg : Int} {s0 g0 : Int32} {g q : Nat → Int32} (hn : n < 2147483648) (hm : m < 2147483648) (hs : s ≤ m) :
    mj_Ok (D + 1) 87 [.ref 0, .ref 2] [.inr (8, [.ref 1, .int s0, .int g0]), .inl (0, n, fun j => .int (g j)), .inr (8, [.ref 3, .int (jn s), .int (jn sg)]), .inl (0, m, fun j => .int (q j))]
      (fun r => ∃ g' : Nat → Int32, (∀ j, j < min s n → g' j = q j) ∧ r = (.inl none, [.inr (8, [.ref 1, .int (jn ((min s n : Nat) : Int)), .int (jn (if min s n = 0 then 0 else sg))]), .inl (0, n, fun j => .int (g' j)), .inr (8, [.ref 3, .int (jn s), .int (jn sg)]), .inl (0, m, fun j => .int (q j))])) := by
  refine mj_Ok.of (M := mj_m87) rfl rfl rfl ?_
  iterate 5 refine mj_T.pl rfl rfl rfl rfl ?_
  refine mj_T.alen rfl rfl ?_
  iterate 2 refine mj_T.pl rfl rfl rfl rfl ?_
  refine mj_T.alen rfl rfl ?_
  refine mj_T.imin rfl rfl (Nat.le_of_ble_eq_true rfl) ⟨by omega, by omega⟩ ⟨by omega, by omega⟩ ?_
  refine mj_T.imin rfl rfl (Nat.le_of_ble_eq_true rfl) ⟨by omega, by omega⟩ ⟨by omega, by omega⟩ ?_
  rw [show min (s : Int) (min (n : Int) (m : Int)) = ((min s n : Nat) : Int) by omega]
  iterate 3 refine mj_T.pl rfl rfl rfl rfl ?_
  refine jw_set_loop (k := min s n) hn hm (by omega) (fun gi _ l2 hg => ?_) (min s n) 0 g (by omega) (fun j hj => by omega)
  have fin : ∀ z : Int, z = (if min s n = 0 then 0 else sg) → mj_T D mj_m87 68 [some (.ref 0), some (.ref 2), l2] [.int (jn z), .ref 0] [.inr (8, [.ref 1, .int (jn ((min s n : Nat) : Int)), .int g0]), .inl (0, n, fun j => .int (gi j)), .inr (8, [.ref 3, .int (jn s), .int (jn sg)]), .inl (0, m, fun j => .int (q j))]
      (fun r => ∃ g' : Nat → Int32, (∀ j, j < min s n → g' j = q j) ∧ r = (.inl none, [.inr (8, [.ref 1, .int (jn ((min s n : Nat) : Int)), .int (jn (if min s n = 0 then 0 else sg))]), .inl (0, n, fun j => .int (g' j)), .inr (8, [.ref 3, .int (jn s), .int (jn sg)]), .inl (0, m, fun j => .int (q j))])) := by
    intro z hz
    subst hz
    refine mj_T.pl rfl rfl rfl rfl ?_
    exact mj_T.ret rfl rfl rfl ⟨gi, hg, rfl⟩
  iterate 3 refine mj_T.pl rfl rfl rfl rfl ?_
  refine mj_T.if0 rfl ⟨by omega, by omega⟩ (fun hc57 => ?_) (fun hc57 => ?_)
  · simp only [jc, Bool.not_eq_true', decide_eq_false_iff_not] at hc57
    iterate 2 refine mj_T.pl rfl rfl rfl rfl ?_
    exact fin sg (by rw [if_neg (by omega)])
  · simp only [jc, Bool.not_eq_false', decide_eq_true_eq] at hc57
    iterate 2 refine mj_T.pl rfl rfl rfl rfl ?_
    exact fin 0 (by rw [if_pos (by omega)])
