/-! The machine doesn't see where cells lie: a run on a small heap is a run on a greater one that holds the same cells elsewhere; all else stays. -/
def mj_rn (ρ : Nat → Nat) (v : Value) : Value := match v with
  | .ref k => .ref (ρ k)
  | v => v
def mj_rE (ρ : Nat → Nat) (e : mj_E) : mj_E := match e with
  | .inl (t, n, f) => .inl (t, n, fun j => mj_rn ρ (f j))
  | .inr (c, fs) => .inr (c, fs.map (mj_rn ρ))
def mj_rL (ρ : Nat → Nat) (loc : mj_L) : mj_L := loc.map (Option.map (mj_rn ρ))
def mj_em (ρ : Nat → Nat) (n m : Nat) (K h : mj_H) : Prop := n ≤ K.length ∧ h.length + n = K.length + m ∧ ∀ (k : Nat) (e : mj_E), K[k]? = some e → h[ρ k]? = some (mj_rE ρ e)
def mj_fr (ρ : Nat → Nat) (n m : Nat) (h h' : mj_H) : Prop := ∀ p : Nat, p < m → (∀ k, k < n → ρ k ≠ p) → h'[p]? = h[p]?
theorem mj_fr.rf {ρ : Nat → Nat} {n m : Nat} {h : mj_H} : mj_fr ρ n m h h := fun _ _ _ => rfl
theorem mj_fr.tr {ρ : Nat → Nat} {n m : Nat} {h h1 h2 : mj_H} (a : mj_fr ρ n m h h1) (b : mj_fr ρ n m h1 h2) : mj_fr ρ n m h h2 := fun p x y => (b p x y).trans (a p x y)
theorem mj_rn_cat (ρ : Nat → Nat) (v : Value) : (mj_rn ρ v).category = v.category := by cases v <;> rfl
theorem mj_rn_catL (ρ : Nat → Nat) (st : List Value) : mj_cat (st.map (mj_rn ρ)) = mj_cat st := by
  unfold mj_cat
  rw [List.map_map]
  congr 1
  apply List.map_congr_left
  intro v _
  exact mj_rn_cat ρ v
theorem mj_rL_len (ρ : Nat → Nat) (loc : mj_L) : (mj_rL ρ loc).length = loc.length := by simp [mj_rL]
theorem mj_rL_get (ρ : Nat → Nat) (loc : mj_L) (i : Nat) : (mj_rL ρ loc)[i]? = (loc[i]?).map (Option.map (mj_rn ρ)) := by simp [mj_rL]
theorem mj_rL_set (ρ : Nat → Nat) (loc : mj_L) (i : Nat) (v : Option Value) : mj_rL ρ (loc.set i v) = (mj_rL ρ loc).set i (v.map (mj_rn ρ)) := by simp [mj_rL, List.map_set]
theorem mj_rL_st1 (ρ : Nat → Nat) (loc : mj_L) (i : Nat) (v : Value) : mj_rL ρ (mj_st1 loc i v) = mj_st1 (mj_rL ρ loc) i (mj_rn ρ v) := by
  unfold mj_st1
  rw [mj_rL_set]
  congr 1
  cases i with
  | zero => rfl
  | succ j =>
    simp only
    rw [mj_rL_get]
    cases hj : loc[j]? with
    | none => simp
    | some o =>
      cases o with
      | none => simp
      | some w => cases w <;> simp [mj_rn, mj_rL_set]
theorem mj_rL_st2 (ρ : Nat → Nat) (loc : mj_L) (i : Nat) (v : Value) : mj_rL ρ (mj_st2 loc i v) = mj_st2 (mj_rL ρ loc) i (mj_rn ρ v) := by
  unfold mj_st2
  rw [mj_rL_set, mj_rL_st1]
  rfl
theorem mj_ren_load1 {ρ : Nat → Nat} {loc : mj_L} {i : Nat} {v : Value} (h : mj_load1 loc i = some v) : mj_load1 (mj_rL ρ loc) i = some (mj_rn ρ v) := by
  unfold mj_load1 at h ⊢
  split at h
  · rename_i x hx
    cases h
    rw [mj_rL_get, hx]
    rfl
  · cases h
theorem mj_ren_loadL {ρ : Nat → Nat} {loc : mj_L} {i : Nat} {v : Value} (h : mj_loadL loc i = some v) : mj_loadL (mj_rL ρ loc) i = some (mj_rn ρ v) := by
  unfold mj_loadL at h ⊢
  split at h
  · rename_i x hx
    cases h
    rw [mj_rL_get, hx]
    rfl
  · cases h
theorem mj_ren_loadD {ρ : Nat → Nat} {loc : mj_L} {i : Nat} {v : Value} (h : mj_loadD loc i = some v) : mj_loadD (mj_rL ρ loc) i = some (mj_rn ρ v) := by
  unfold mj_loadD at h ⊢
  split at h
  · rename_i x hx
    cases h
    rw [mj_rL_get, hx]
    rfl
  · cases h
theorem mj_ren_loadA {ρ : Nat → Nat} {loc : mj_L} {i : Nat} {v : Value} (h : mj_loadA loc i = some v) : mj_loadA (mj_rL ρ loc) i = some (mj_rn ρ v) := by
  unfold mj_loadA at h ⊢
  split at h
  · rename_i x hx
    cases h
    rw [mj_rL_get, hx]
    rfl
  · cases h
theorem mj_rn_i (ρ : Nat → Nat) (x : Int32) : mj_rn ρ (.int x) = .int x := rfl
theorem mj_rn_l (ρ : Nat → Nat) (x : Int64) : mj_rn ρ (.long x) = .long x := rfl
theorem mj_rn_f (ρ : Nat → Nat) (x : UInt32) : mj_rn ρ (.float x) = .float x := rfl
theorem mj_rn_d (ρ : Nat → Nat) (x : UInt64) : mj_rn ρ (.double x) = .double x := rfl
theorem mj_rn_n (ρ : Nat → Nat) : mj_rn ρ .null = .null := rfl
theorem mj_rn_r (ρ : Nat → Nat) (x : Nat) : mj_rn ρ (.ref x) = .ref (ρ x) := rfl
section MJN
variable {ρ : Nat → Nat} {n m : Nat} {K h : mj_H}
theorem mj_em.lt (he : mj_em ρ n m K h) {k : Nat} (hk : k < K.length) : ρ k < h.length := by
  have h1 := he.2.2 k K[k] (List.getElem?_eq_getElem hk)
  exact (List.getElem?_eq_some_iff.mp h1).1
theorem mj_em.top (hρ : ∀ k, n ≤ k → ρ k + n = m + k) (he : mj_em ρ n m K h) (j : Nat) : ρ (K.length + j) = h.length + j := by
  have h1 := hρ (K.length + j) (by have := he.1; omega)
  have h2 := he.2.1
  omega
theorem mj_em.put (hρ : ∀ k, n ≤ k → ρ k + n = m + k) (hi : ∀ i j, ρ i = ρ j → i = j) (he : mj_em ρ n m K h) {k : Nat} {e : mj_E} (hk : k < K.length) : mj_em ρ n m (K.set k e) (h.set (ρ k) (mj_rE ρ e)) ∧ mj_fr ρ n m h (h.set (ρ k) (mj_rE ρ e)) := by
  refine ⟨⟨by rw [List.length_set]; exact he.1, by rw [List.length_set, List.length_set]; exact he.2.1, fun j x hx => ?_⟩, fun p hp hq => ?_⟩
  · by_cases hj : k = j
    · subst hj
      rw [List.getElem?_set_self hk] at hx
      cases hx
      rw [List.getElem?_set_self (he.lt hk)]
    · rw [List.getElem?_set_ne hj] at hx
      rw [List.getElem?_set_ne (fun q => hj (hi _ _ q))]
      exact he.2.2 j x hx
  · rw [List.getElem?_set_ne]
    intro q
    by_cases hkn : k < n
    · exact hq k hkn q
    · have := hρ k (by omega)
      omega
theorem mj_em.push (hρ : ∀ k, n ≤ k → ρ k + n = m + k) (he : mj_em ρ n m K h) (hm : m ≤ h.length) (es : List mj_E) : mj_em ρ n m (K ++ es) (h ++ es.map (mj_rE ρ)) ∧ mj_fr ρ n m h (h ++ es.map (mj_rE ρ)) := by
  have h0 := he.1
  have h1 := he.2.1
  refine ⟨⟨by rw [List.length_append]; omega, by rw [List.length_append, List.length_append, List.length_map]; omega, fun j x hx => ?_⟩, fun p hp hq => ?_⟩
  · by_cases hj : j < K.length
    · rw [List.getElem?_append_left hj] at hx
      rw [List.getElem?_append_left (he.lt hj)]
      exact he.2.2 j x hx
    · have hr := hρ j (by omega)
      rw [List.getElem?_append_right (by omega)] at hx
      rw [List.getElem?_append_right (by omega), List.getElem?_map, show ρ j - h.length = j - K.length by omega, hx]
      rfl
  · exact List.getElem?_append_left (by omega)
theorem mj_em.get (hρ : ∀ k, n ≤ k → ρ k + n = m + k) (he : mj_em ρ n m K h) (k : Nat) : h[ρ k]? = (K[k]?).map (mj_rE ρ) := by
  cases hk : K[k]? with
  | some e => exact he.2.2 k e hk
  | none =>
    have h1 := List.getElem?_eq_none_iff.mp hk
    have h2 := hρ k (Nat.le_trans he.1 h1)
    have h3 := he.2.1
    exact List.getElem?_eq_none_iff.mpr (by omega)
theorem mj_em.top0 (hρ : ∀ k, n ≤ k → ρ k + n = m + k) (he : mj_em ρ n m K h) : ρ K.length = h.length := mj_em.top hρ he 0
theorem mj_rn_rows (a b c : Nat) : (mj_rows a b c).map (mj_rE ρ) = mj_rows a b c := by
  unfold mj_rows
  rw [List.map_map]
  apply List.map_congr_left
  intro k _
  rfl
theorem mj_rn_ifs (hρ : ∀ k, n ≤ k → ρ k + n = m + k) (he : mj_em ρ n m K h) (q : Nat) : (fun j => mj_rn ρ (if j < q then .ref (K.length + 1 + j) else .null)) = fun j => if j < q then Value.ref (h.length + 1 + j) else .null := by
  funext j
  split
  · rw [mj_rn_r, show K.length + 1 + j = K.length + (1 + j) by omega, mj_em.top hρ he, Nat.add_assoc]
  · rfl
theorem mj_em.le (he : mj_em ρ n m K h) : m ≤ h.length := by
  have h0 := he.1
  have h1 := he.2.1
  omega
theorem mj_rn_new (ci : Nat) : (mj_new ci).map (mj_rn ρ) = mj_new ci := by
  unfold mj_new
  rw [List.map_map]
  apply List.map_congr_left
  intro k _
  show mj_rn ρ (defaultValue (mj_ft ci k)) = defaultValue (mj_ft ci k)
  cases mj_ft ci k <;> rfl
theorem mj_rn_df (t : Nat) : mj_rn ρ (mj_df t) = mj_df t := by
  unfold mj_df
  split <;> rfl
theorem mj_rn_upd (f : Nat → Value) (i : Nat) (v : Value) : (fun j => mj_rn ρ (updV f i v j)) = updV (fun j => mj_rn ρ (f j)) i (mj_rn ρ v) := by
  funext j
  unfold updV
  split <;> rfl
theorem mj_fit_rn (k : Nat) (v : Value) : mj_fit k (mj_rn ρ v) = mj_fit k v := by
  cases v <;> first | rfl | (rcases k with _ | _ | _ | _ | k <;> rfl)
theorem mj_ren_step (hρ : ∀ k, n ≤ k → ρ k + n = m + k) (hi : ∀ i j, ρ i = ρ j → i = j) {ins : Instr} {r1 r2 r3 pc pc' : Nat} {loc loc' : mj_L} {st st' : List Value} {K' : mj_H} (hs : mj_step ins r1 r2 r3 mj_new pc loc st K = some (pc', loc', st', K')) (he : mj_em ρ n m K h) :
    ∃ h', mj_step ins r1 r2 r3 mj_new pc (mj_rL ρ loc) (st.map (mj_rn ρ)) h = some (pc', mj_rL ρ loc', st'.map (mj_rn ρ), h') ∧ mj_em ρ n m K' h' ∧ mj_fr ρ n m h h' := by
  cases ins
  all_goals simp only [mj_step] at hs ⊢
  all_goals (try (cases hs; done))
  all_goals (try (simp only [Option.map_eq_some_iff] at hs; obtain ⟨v, hv, hs⟩ := hs; cases hs; first
    | exact ⟨h, by rw [mj_ren_load1 hv]; rfl, he, mj_fr.rf⟩
    | exact ⟨h, by rw [mj_ren_loadL hv]; rfl, he, mj_fr.rf⟩
    | exact ⟨h, by rw [mj_ren_loadD hv]; rfl, he, mj_fr.rf⟩
    | exact ⟨h, by rw [mj_ren_loadA hv]; rfl, he, mj_fr.rf⟩))
  all_goals (repeat' split at hs)
  all_goals (try cases hs)
  all_goals (try (refine ⟨h, ?_, he, mj_fr.rf⟩; simp_all [mj_rn_i, mj_rn_l, mj_rn_f, mj_rn_d, mj_rn_n, mj_rn_r, mj_rL_len, mj_rL_st1, mj_rL_st2, mj_rL_get, mj_em.get hρ he, mj_rE]; done))
  all_goals (try (
    refine ⟨_, ?_, he.push hρ he.le [_]⟩
    simp_all [mj_rn_i, mj_rn_l, mj_rn_f, mj_rn_d, mj_rn_n, mj_rn_r, mj_rE, mj_rn_new, mj_rn_df, mj_em.top0 hρ he]; done))
  all_goals (try (
    rename_i hcond
    refine ⟨_, ?_, he.push hρ he.le (_ :: mj_rows _ _ _)⟩
    simp only [List.map_cons, mj_rn_i, mj_rn_r, mj_rE, mj_rn_rows, mj_em.top0 hρ he, mj_rn_ifs hρ he]
    rw [if_pos hcond]; done))
  all_goals (try (
    rename_i hq hcond
    refine ⟨_, ?_, he.put hρ hi (List.getElem?_eq_some_iff.mp hq).1⟩
    simp_all [mj_rn_i, mj_rn_l, mj_rn_f, mj_rn_d, mj_rn_n, mj_rn_r, mj_rE, mj_em.get hρ he, mj_rn_upd, mj_fit_rn, List.map_set]; done))
  all_goals (try (
    rename_i hq _ _ _ _ hcond
    refine ⟨_, ?_, he.put hρ hi (List.getElem?_eq_some_iff.mp hq).1⟩
    simp_all [mj_rn_i, mj_rn_l, mj_rn_f, mj_rn_d, mj_rn_n, mj_rn_r, mj_rE, mj_em.get hρ he, mj_rn_upd, mj_fit_rn, List.map_set]; done))
  all_goals (
    rename_i h1 _ _ h2 h3
    refine ⟨h, ?_, he, mj_fr.rf⟩
    simp only [List.map_cons, mj_rn_i]
    rw [if_neg h1]
    simp only [h2]
    rw [if_pos h3])
/-- a result, renamed -/
def mj_rR (ρ : Nat → Nat) (r : Option Value ⊕ Nat) : Option Value ⊕ Nat := match r with
  | .inl v => .inl (v.map (mj_rn ρ))
  | .inr i => .inr i
theorem mj_ren_retv {ins : Instr} {ret : Option FieldType} {st : List Value} {v : Option Value} (hs : mj_retv ins ret st = some v) : mj_retv ins ret (st.map (mj_rn ρ)) = some (v.map (mj_rn ρ)) := by
  cases ins
  all_goals simp only [mj_retv] at hs ⊢
  all_goals (try (cases hs; done))
  all_goals (repeat' split at hs)
  all_goals (try (cases hs; done))
  all_goals (cases hs; simp_all [mj_rn_i, mj_rn_l, mj_rn_f, mj_rn_d, mj_rn_n, mj_rn_r])
theorem mj_rn_isint (v : Value) : mj_isint (mj_rn ρ v) = mj_isint v := by cases v <;> rfl
theorem mj_rn_islong (v : Value) : mj_islong (mj_rn ρ v) = mj_islong v := by cases v <;> rfl
theorem mj_rn_cpok (t : Nat) (f : Nat → Value) (sp k : Nat) : mj_cpok t (fun j => mj_rn ρ (f j)) sp k = mj_cpok t f sp k := by
  unfold mj_cpok
  congr 1
  funext i
  split
  · exact mj_rn_isint _
  · exact mj_rn_islong _
theorem mj_rn_cpy (f g : Nat → Value) (a b c : Nat) : (fun j => mj_rn ρ (va_cpy f g a b c j)) = va_cpy (fun j => mj_rn ρ (f j)) (fun j => mj_rn ρ (g j)) a b c := by
  funext j
  unfold va_cpy
  split <;> rfl
theorem mj_ren_prim (hρ : ∀ k, n ≤ k → ρ k + n = m + k) (hi : ∀ i j, ρ i = ρ j → i = j) {r3 : Nat} {st st' : List Value} {K' : mj_H} (hs : mj_prim r3 st K = some (st', K')) (he : mj_em ρ n m K h) :
    ∃ h', mj_prim r3 (st.map (mj_rn ρ)) h = some (st'.map (mj_rn ρ), h') ∧ mj_em ρ n m K' h' ∧ mj_fr ρ n m h h' := by
  unfold mj_prim at hs ⊢
  split at hs
  · split at hs
    · split at hs
      · rename_i hc
        cases hs
        refine ⟨h, ?_, he, mj_fr.rf⟩
        simp only [List.map_cons, mj_rn_i, mj_rn_catL]
        rw [if_pos hc]
      · cases hs
    · cases hs
  · split at hs
    · split at hs
      · rename_i hc
        cases hs
        refine ⟨h, ?_, he, mj_fr.rf⟩
        simp only [List.map_cons, mj_rn_i, mj_rn_catL]
        rw [if_pos hc]
      · cases hs
    · cases hs
  · split at hs
    · split at hs
      · rename_i q0
        split at hs
        · rename_i q1
          split at hs
          · rename_i hc
            cases hs
            refine ⟨_, ?_, he.put hρ hi (List.getElem?_eq_some_iff.mp q1).1⟩
            simp only [List.map_cons, mj_rn_i, mj_rn_r, mj_rn_catL, mj_em.get hρ he, q0, q1, Option.map_some, mj_rE, mj_rn_cpok, mj_rn_cpy]
            rw [if_pos hc]
          · cases hs
        · cases hs
      · cases hs
    · cases hs
  · split at hs
    · split at hs
      · rename_i hc
        cases hs
        refine ⟨h, ?_, he, mj_fr.rf⟩
        simp only [List.map_cons, mj_rn_r, mj_rn_catL]
        rw [if_pos hc]
      · cases hs
    · cases hs
  · cases hs
theorem mj_ren_recv (hρ : ∀ k, n ≤ k → ρ k + n = m + k) (he : mj_em ρ n m K h) {ins : Instr} {r2 r5 : Nat} {st : List Value} (hs : mj_recv ins r2 r5 st K = true) : mj_recv ins r2 r5 (st.map (mj_rn ρ)) h = true := by
  unfold mj_recv at hs ⊢
  rw [← List.map_drop]
  split at hs
  · rfl
  · split at hs
    · cases hs
    · rename_i hst
      simp only [hst, List.map_cons, mj_rn_r, mj_em.get hρ he]
      split at hs
      · rename_i hk
        simp only [hk, Option.map_some, mj_rE]
        exact hs
      · cases hs
    · cases hs
  · split at hs
    · cases hs
    · rename_i hst
      simp only [hst, List.map_cons, mj_rn_r]
    · cases hs
theorem mj_ren_loc0 : ∀ (as : List Value) (k : Nat), mj_loc0 k (as.map (mj_rn ρ)) = mj_rL ρ (mj_loc0 k as)
  | [], k => by simp [mj_loc0, mj_rL]
  | v :: t, k => by
    simp only [List.map_cons, mj_loc0, mj_rn_cat]
    split
    · rw [mj_ren_loc0 t]; rfl
    · rw [mj_ren_loc0 t]; rfl
theorem mj_rL_kill (loc : mj_L) (k : Nat) : mj_rL ρ (mj_kill loc k) = mj_kill (mj_rL ρ loc) k := by
  unfold mj_kill
  rw [mj_rL_set, mj_rL_st1]
  rfl
theorem mj_ren_loop (hρ : ∀ k, n ≤ k → ρ k + n = m + k) (hi : ∀ i j, ρ i = ρ j → i = j) {call : Nat → List Value → mj_H → Option mj_R}
    (hcall : ∀ (j : Nat) (as : List Value) (K h : mj_H) (r : mj_R), call j as K = some r → mj_em ρ n m K h → ∃ h', call j (as.map (mj_rn ρ)) h = some (mj_rR ρ r.1, h') ∧ mj_em ρ n m r.2 h' ∧ mj_fr ρ n m h h') {M : mj_M} :
    ∀ {F pc : Nat} {loc : mj_L} {st : List Value} {K h : mj_H} {r : mj_R}, mj_loop call M F pc loc st K = some r → mj_em ρ n m K h → ∃ h', mj_loop call M F pc (mj_rL ρ loc) (st.map (mj_rn ρ)) h = some (mj_rR ρ r.1, h') ∧ mj_em ρ n m r.2 h' ∧ mj_fr ρ n m h h'
  | 0, _, _, _, _, _, _, hs, _ => by cases hs
  | F + 1, pc, loc, st, K, h, r, hs, he => by
    unfold mj_loop at hs ⊢
    cases hcode : M.2.2.2.2.1 pc with
    | none => rw [hcode] at hs; cases hs
    | some I =>
      obtain ⟨ins, r1, r2, r3, r4, r5⟩ := I
      rw [hcode] at hs
      simp only at hs ⊢
      split at hs
      · split at hs
        · rename_i h1
          obtain ⟨h1', g1, g2, g3⟩ := mj_ren_step hρ hi h1 he
          obtain ⟨h2', f1, f2, f3⟩ := mj_ren_loop hρ hi hcall hs g2
          exact ⟨h2', by rw [g1]; exact f1, f2, g3.tr f3⟩
        · cases hs
      · split at hs
        · rename_i h1
          cases hs
          exact ⟨h, by rw [mj_ren_retv h1]; rfl, he, mj_fr.rf⟩
        · cases hs
      · split at hs
        · rename_i hc
          cases hs
          obtain ⟨g1, g2⟩ := he.push hρ he.le [.inr (99, [.null, .null, .null, .null, .null, .null])]
          refine ⟨_, ?_, g1, g2⟩
          rw [mj_rn_catL, if_pos hc]
          rfl
        · cases hs
      · split at hs
        · rename_i hc
          have hc' : r2 ≤ (st.map (mj_rn ρ)).length ∧ mj_cat ((st.map (mj_rn ρ)).drop r2) ≤ 8 ∧ mj_recv ins r2 r5 (st.map (mj_rn ρ)) h = true := ⟨by rw [List.length_map]; exact hc.1, by rw [← List.map_drop, mj_rn_catL]; exact hc.2.1, mj_ren_recv hρ he hc.2.2⟩
          rw [if_pos hc']
          rw [← List.map_take, ← List.map_reverse, ← List.map_drop]
          split at hs
          · rename_i v K1 h1
            obtain ⟨h1', g1, g2, g3⟩ := hcall _ _ _ _ _ h1 he
            rw [g1]
            obtain ⟨h2', f1, f2, f3⟩ := mj_ren_loop hρ hi hcall hs g2
            refine ⟨h2', ?_, f2, g3.tr f3⟩
            refine Eq.trans ?_ f1
            simp only [mj_rR]
            congr 1
            cases v <;> simp
          · rename_i i K1 h1
            obtain ⟨h1', g1, g2, g3⟩ := hcall _ _ _ _ _ h1 he
            rw [g1]
            simp only [mj_rR]
            split at hs
            · cases hs
              exact ⟨h1', rfl, g2, g3⟩
            · split at hs
              · split at hs
                · rename_i hkl
                  obtain ⟨h2', f1, f2, f3⟩ := mj_ren_loop hρ hi hcall hs g2
                  rw [mj_rL_kill] at f1
                  refine ⟨h2', ?_, f2, g3.tr f3⟩
                  rw [mj_rL_len, if_pos hkl]
                  exact f1
                · cases hs
              · cases hs
          · cases hs
        · cases hs
      · split at hs
        · rename_i h1
          obtain ⟨h1', g1, g2, g3⟩ := mj_ren_prim hρ hi h1 he
          obtain ⟨h2', f1, f2, f3⟩ := mj_ren_loop hρ hi hcall hs g2
          exact ⟨h2', by rw [g1]; exact f1, f2, g3.tr f3⟩
        · cases hs
theorem mj_ren_run (hρ : ∀ k, n ≤ k → ρ k + n = m + k) (hi : ∀ i j, ρ i = ρ j → i = j) (P : List mj_M) (F : Nat) : ∀ (D j : Nat) (as : List Value) (K h : mj_H) (r : mj_R), mj_run P F D j as K = some r → mj_em ρ n m K h → ∃ h', mj_run P F D j (as.map (mj_rn ρ)) h = some (mj_rR ρ r.1, h') ∧ mj_em ρ n m r.2 h' ∧ mj_fr ρ n m h h'
  | 0, _, _, _, _, _, hs, _ => by cases hs
  | D + 1, j, as, K, h, r, hs, he => by
    simp only [mj_run] at hs ⊢
    split at hs
    · cases hs
    · split at hs
      · rename_i hl
        obtain ⟨h', g1, g2, g3⟩ := mj_ren_loop hρ hi (mj_ren_run hρ hi P F D) hs he
        refine ⟨h', ?_, g2, g3⟩
        rw [mj_ren_loc0, mj_rL_len, if_pos hl]
        exact g1
      · cases hs
end MJN
