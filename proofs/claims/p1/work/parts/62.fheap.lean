/-! The fast machine: heaps and locals. -/
def mq_cr (ρ : Nat → Nat) (c : mq_C) (e : mj_E) : Prop := match c, e with
  | .arr t len dep d, .inl (t', len', f) => t' = t ∧ len' = len ∧ (len ≤ 4 ^ dep ∧ len ≤ 1000000) ∧ ∀ i, i < len → mq_kn (mq_get d i) = true → f i = mq_val ρ (mq_get d i)
  | .obj ci fs, .inr (ci', fs') => ci' = ci ∧ fs'.length = fs.length ∧ ∀ i, i < fs.length → mq_kn (mq_nth .U fs i) = true → fs'[i]? = some (mq_val ρ (mq_nth .U fs i))
  | _, _ => False
structure mq_Hr (ρ : Nat → Nat) (n : Nat) (t : mq_Ht) (h : mj_H) : Prop where
  len : h.length = n
  le : n ≤ 1024
  cell : ∀ a, a < 1024 → mq_get t a = .z ∨ ∃ e, h[a]? = some e ∧ mq_cr ρ (mq_get t a) e
  sl : mj_sl h ≤ 6000 * n + (if n ≤ 566 then 0 else 1000000)
structure mq_R (ρ : Nat → Nat) (nl : Nat) (loc : List mq_W) (n : Nat) (t : mq_Ht) (env : mq_V) (mloc : mj_L) (h : mj_H) : Prop where
  sat : mq_Sat ρ env
  len : mloc.length = nl
  lo : ∀ i, mq_kn (mq_nth .U loc i) = true → mloc[i]? = some (some (mq_val ρ (mq_nth .U loc i)))
  hr : mq_Hr ρ n t h
theorem mq_Hr.set {ρ : Nat → Nat} {n a : Nat} {t : mq_Ht} {h : mj_H} {c : mq_C} {e e0 : mj_E} (hr : mq_Hr ρ n t h) (ha : a < 1024) (hl0 : h[a]? = some e0) (hc : c = .z ∨ mq_cr ρ c e) (hz : mj_slot e = mj_slot e0) : mq_Hr ρ n (mq_set 5 t a c) (h.set a e) := by
  have hl : a < h.length := (List.getElem?_eq_some_iff.mp hl0).1
  refine ⟨by rw [List.length_set]; exact hr.len, hr.le, fun b hb => ?_, by rw [mj_sl_set hl0 hz]; exact hr.sl⟩
  rw [mq_get_set 5 t a b c ha hb]
  split
  · rename_i e1
    subst e1
    rcases hc with hc | hc
    · exact Or.inl hc
    · exact Or.inr ⟨e, by simp [hl], hc⟩
  · rename_i e1
    rcases hr.cell b hb with h1 | ⟨e', h1, h2⟩
    · exact Or.inl h1
    · exact Or.inr ⟨e', by rw [List.getElem?_set_ne (by omega)]; exact h1, h2⟩
/-- a cell that comes to say less -/
theorem mq_Hr.weak {ρ : Nat → Nat} {n a : Nat} {t : mq_Ht} {h : mj_H} {c : mq_C} {e : mj_E} (hr : mq_Hr ρ n t h) (ha : a < 1024) (hl : h[a]? = some e) (hc : c = .z ∨ mq_cr ρ c e) : mq_Hr ρ n (mq_set 5 t a c) h := by
  refine ⟨hr.len, hr.le, fun b hb => ?_, hr.sl⟩
  rw [mq_get_set 5 t a b c ha hb]
  split
  · rename_i e1
    subst e1
    rcases hc with hc | hc
    · exact Or.inl hc
    · exact Or.inr ⟨e, hl, hc⟩
  · exact hr.cell b hb
theorem mq_Hr.push {ρ : Nat → Nat} {n : Nat} {t : mq_Ht} {h : mj_H} {c : mq_C} {e : mj_E} (hr : mq_Hr ρ n t h) (hn : n < 1024) (hz : mj_slot e ≤ 6000 ∨ (n = 566 ∧ mj_slot e ≤ 1000000)) (hc : c = .z ∨ mq_cr ρ c e) : mq_Hr ρ (n + 1) (mq_set 5 t n c) (h ++ [e]) := by
  refine ⟨by simp [hr.len], hn, fun b hb => ?_, by
    have h1 := hr.sl
    rw [mj_sl_push]
    split at h1 <;> split <;> omega⟩
  rw [mq_get_set 5 t n b c hn hb]
  split
  · rename_i e1
    subst e1
    rcases hc with hc | hc
    · exact Or.inl hc
    · exact Or.inr ⟨e, by rw [List.getElem?_append_right (by rw [hr.len]; exact Nat.le_refl _), hr.len]; simp, hc⟩
  · rcases hr.cell b hb with h1 | ⟨e', h1, h2⟩
    · exact Or.inl h1
    · exact Or.inr ⟨e', by rw [List.getElem?_append_left (List.getElem?_eq_some_iff.mp h1).1]; exact h1, h2⟩
theorem mq_cA_of {ρ : Nat → Nat} {n a : Nat} {t : mq_Ht} {h : mj_H} {k : Nat → Nat → Nat → mq_T mq_W → Bool} (hh : mq_cA t a k = true) (hr : mq_Hr ρ n t h) : ∃ ty len dep d f, mq_get t a = .arr ty len dep d ∧ h[a]? = some (.inl (ty, len, f)) ∧ (len ≤ 4 ^ dep ∧ len ≤ 1000000) ∧ (∀ i, i < len → mq_kn (mq_get d i) = true → f i = mq_val ρ (mq_get d i)) ∧ a < 1024 ∧ k ty len dep d = true := by
  unfold mq_cA at hh
  obtain ⟨h1, h2⟩ := mq_cond_of hh
  have ha : a < 1024 := by
    have : a ≤ 1023 := Nat.ble_eq.mp h1
    omega
  cases hg : mq_get t a
  case arr ty len dep d =>
    rw [hg] at h2
    rcases hr.cell a ha with h3 | ⟨e, h3, h4⟩
    · rw [hg] at h3; cases h3
    · rw [hg] at h4
      cases e with
      | inl q =>
        obtain ⟨t', len', f⟩ := q
        obtain ⟨e1, e2, e3, e4⟩ := h4
        subst e1
        subst e2
        exact ⟨_, _, _, _, f, rfl, h3, e3, e4, ha, h2⟩
      | inr q => exact h4.elim
  all_goals (rw [hg] at h2; cases h2)
theorem mq_cO_of {ρ : Nat → Nat} {n a : Nat} {t : mq_Ht} {h : mj_H} {k : Nat → List mq_W → Bool} (hh : mq_cO t a k = true) (hr : mq_Hr ρ n t h) : ∃ ci fs fs', mq_get t a = .obj ci fs ∧ h[a]? = some (.inr (ci, fs')) ∧ fs'.length = fs.length ∧ (∀ i, i < fs.length → mq_kn (mq_nth .U fs i) = true → fs'[i]? = some (mq_val ρ (mq_nth .U fs i))) ∧ a < 1024 ∧ k ci fs = true := by
  unfold mq_cO at hh
  obtain ⟨h1, h2⟩ := mq_cond_of hh
  have ha : a < 1024 := by
    have : a ≤ 1023 := Nat.ble_eq.mp h1
    omega
  cases hg : mq_get t a
  case obj ci fs =>
    rw [hg] at h2
    rcases hr.cell a ha with h3 | ⟨e, h3, h4⟩
    · rw [hg] at h3; cases h3
    · rw [hg] at h4
      cases e with
      | inl q => obtain ⟨q1, q2, q3⟩ := q; exact h4.elim
      | inr q =>
        obtain ⟨ci', fs'⟩ := q
        obtain ⟨e1, e2, e3⟩ := h4
        subst e1
        exact ⟨_, _, fs', rfl, h3, e2, e3, ha, h2⟩
  all_goals (rw [hg] at h2; cases h2)
theorem mq_up1_nil0 (v : mq_W) : mq_up1 [] 0 v = [v] := rfl
theorem mq_up1_nilS (v : mq_W) (i : Nat) : mq_up1 [] (i + 1) v = .U :: mq_up1 [] i v := rfl
theorem mq_up1_zero (x v : mq_W) (l : List mq_W) : mq_up1 (x :: l) 0 v = v :: l := rfl
theorem mq_up1_one (x v : mq_W) (l : List mq_W) : mq_up1 (x :: l) 1 v = mq_kill x :: mq_up1 l 0 v := rfl
theorem mq_up1_succ (x v : mq_W) (l : List mq_W) (i : Nat) : mq_up1 (x :: l) (i + 2) v = x :: mq_up1 l (i + 1) v := rfl
theorem mq_nth_up1 (v : mq_W) : ∀ (l : List mq_W) (i j : Nat), mq_nth .U (mq_up1 l i v) j = if j = i then v else if j + 1 = i then mq_kill (mq_nth .U l j) else mq_nth .U l j
  | [], 0, 0 => rfl
  | [], 0, j + 1 => by simp [mq_up1_nil0, mq_nth_succ, mq_nth_nil]
  | [], i + 1, 0 => by
    rw [mq_up1_nilS, mq_nth_zero, mq_nth_nil]
    simp [mq_kill]
  | [], i + 1, j + 1 => by
    rw [mq_up1_nilS, mq_nth_succ, mq_nth_up1 v [] i j]
    simp [mq_nth_nil]
  | x :: l, 0, 0 => rfl
  | x :: l, 0, j + 1 => by simp [mq_up1_zero, mq_nth_succ]
  | x :: l, 1, 0 => by simp [mq_up1_one, mq_nth_zero]
  | x :: l, 1, j + 1 => by
    rw [mq_up1_one, mq_nth_succ, mq_nth_succ, mq_nth_up1 v l 0 j]
    simp
  | x :: l, i + 2, 0 => by simp [mq_up1_succ, mq_nth_zero]
  | x :: l, i + 2, j + 1 => by
    rw [mq_up1_succ, mq_nth_succ, mq_nth_succ, mq_nth_up1 v l (i + 1) j]
    simp
theorem mj_st1_length (loc : mj_L) (i : Nat) (v : Value) : (mj_st1 loc i v).length = loc.length := by
  unfold mj_st1
  rw [List.length_set]
  split
  · rfl
  · split <;> first | rfl | rw [List.length_set]
theorem mj_st1_at {loc : mj_L} {i : Nat} {v : Value} (hi : i < loc.length) : (mj_st1 loc i v)[i]? = some (some v) := by
  have h := mj_st1_length loc i v
  unfold mj_st1 at h ⊢
  rw [List.length_set] at h
  rw [List.getElem?_set_self (by omega)]
theorem mj_st1_ne {loc : mj_L} {i j : Nat} {v : Value} (hj : j ≠ i) (hl : j + 1 = i → ∀ x, loc[j]? ≠ some (some (.long x)) ∧ ∀ x, loc[j]? ≠ some (some (.double x))) : (mj_st1 loc i v)[j]? = loc[j]? := by
  unfold mj_st1
  rw [List.getElem?_set_ne (by omega)]
  split
  · rfl
  · rename_i q
    by_cases e : q = j
    · subst e
      split
      · rename_i x hx
        exact absurd hx (hl rfl x).1
      · rename_i x hx
        exact absurd hx ((hl rfl 0).2 x)
      · rfl
    · split <;> first | rfl | rw [List.getElem?_set_ne (by omega)]
theorem mq_kill_kn {ρ : Nat → Nat} {w : mq_W} (h : mq_kn (mq_kill w) = true) : mq_kill w = w ∧ ∀ x, mq_val ρ w ≠ .long x ∧ ∀ x, mq_val ρ w ≠ .double x := by
  have ne : ∀ v : Value, (∀ x, v ≠ .long x) → (∀ x, v ≠ .double x) → ∀ x, v ≠ .long x ∧ ∀ x, v ≠ .double x := fun v h1 h2 x => ⟨h1 x, h2⟩
  cases w with
  | I n => exact ⟨rfl, ne _ (fun x => by intro e; cases e) (fun x => by intro e; cases e)⟩
  | J n => cases h
  | A n => exact ⟨rfl, ne _ (fun x => by intro e; cases e) (fun x => by intro e; cases e)⟩
  | N => exact ⟨rfl, ne _ (fun x => by intro e; cases e) (fun x => by intro e; cases e)⟩
  | E i m c => exact ⟨rfl, ne _ (fun x => by intro e; cases e) (fun x => by intro e; cases e)⟩
  | L i => cases h
  | M i lo l => exact ⟨rfl, ne _ (fun x => by intro e; cases e) (fun x => by intro e; cases e)⟩
  | D x => cases h
  | F x => exact ⟨rfl, ne _ (fun x => by intro e; cases e) (fun x => by intro e; cases e)⟩
  | X => cases h
  | Y => cases h
  | Q => cases h
  | U => cases h
theorem mq_R.up1 {ρ : Nat → Nat} {nl n i : Nat} {loc : List mq_W} {t : mq_Ht} {env : mq_V} {mloc : mj_L} {h : mj_H} (R : mq_R ρ nl loc n t env mloc h) (hi : i < nl) {w : mq_W} {v : Value} (hv : v = mq_val ρ w) : mq_R ρ nl (mq_up1 loc i w) n t env (mj_st1 mloc i v) h := by
  subst hv
  refine ⟨R.sat, by rw [mj_st1_length]; exact R.len, fun j hj => ?_, R.hr⟩
  rw [mq_nth_up1] at hj ⊢
  split
  · rename_i e
    subst e
    exact mj_st1_at (by rw [R.len]; exact hi)
  · rename_i e
    rw [if_neg e] at hj
    split
    · rename_i e2
      rw [if_pos e2] at hj
      obtain ⟨h1, h2⟩ := mq_kill_kn (ρ := ρ) hj
      rw [h1] at hj ⊢
      have h3 := R.lo j hj
      rw [mj_st1_ne e (fun _ x => ?_), h3]
      rw [h3]
      refine ⟨fun q => ?_, fun y q => ?_⟩
      · injection q with q; injection q with q; exact (h2 x).1 q
      · injection q with q; injection q with q; exact (h2 0).2 y q
    · rename_i e2
      rw [if_neg e2] at hj
      rw [mj_st1_ne e (fun q => absurd q e2)]
      exact R.lo j hj
theorem mq_R.up0 {ρ : Nat → Nat} {nl n i : Nat} {loc : List mq_W} {t : mq_Ht} {env : mq_V} {mloc : mj_L} {h : mj_H} (R : mq_R ρ nl loc n t env mloc h) : mq_R ρ nl (mq_nup .U loc i .U) n t env (mloc.set i none) h := by
  refine ⟨R.sat, by rw [List.length_set]; exact R.len, fun j hj => ?_, R.hr⟩
  rw [mq_nth_nup] at hj ⊢
  split
  · rename_i e
    rw [if_pos e] at hj
    cases hj
  · rename_i e
    rw [if_neg e] at hj
    rw [List.getElem?_set_ne (by omega)]
    exact R.lo j hj
theorem mq_R.up2 {ρ : Nat → Nat} {nl n i : Nat} {loc : List mq_W} {t : mq_Ht} {env : mq_V} {mloc : mj_L} {h : mj_H} (R : mq_R ρ nl loc n t env mloc h) (hi : i < nl) {w : mq_W} {v : Value} (hv : v = mq_val ρ w) : mq_R ρ nl (mq_up2 loc i w) n t env (mj_st2 mloc i v) h := (R.up1 hi hv).up0
theorem mq_R.env {ρ : Nat → Nat} {nl n : Nat} {loc : List mq_W} {t : mq_Ht} {env e : mq_V} {mloc : mj_L} {h : mj_H} (R : mq_R ρ nl loc n t env mloc h) (hs : mq_Sat ρ e) : mq_R ρ nl loc n t e mloc h := ⟨hs, R.len, R.lo, R.hr⟩
theorem mq_R.heap {ρ : Nat → Nat} {nl n n' : Nat} {loc : List mq_W} {t t' : mq_Ht} {env : mq_V} {mloc : mj_L} {h h' : mj_H} (R : mq_R ρ nl loc n t env mloc h) (hr : mq_Hr ρ n' t' h') : mq_R ρ nl loc n' t' env mloc h' := ⟨R.sat, R.len, R.lo, hr⟩
/-- a cell of the small machine changes where nothing is said of it -/
theorem mq_Hr.mut {ρ : Nat → Nat} {n a : Nat} {t : mq_Ht} {h : mj_H} {e e0 : mj_E} (hr : mq_Hr ρ n t h) (hl0 : h[a]? = some e0) (hz : mj_slot e = mj_slot e0) (hc : mq_cr ρ (mq_get t a) e) : mq_Hr ρ n t (h.set a e) := by
  have hl : a < h.length := (List.getElem?_eq_some_iff.mp hl0).1
  refine ⟨by rw [List.length_set]; exact hr.len, hr.le, fun b hb => ?_, by rw [mj_sl_set hl0 hz]; exact hr.sl⟩
  by_cases e1 : b = a
  · subst e1
    exact Or.inr ⟨e, by simp [hl], hc⟩
  · rcases hr.cell b hb with h1 | ⟨e', h1, h2⟩
    · exact Or.inl h1
    · exact Or.inr ⟨e', by rw [List.getElem?_set_ne (by omega)]; exact h1, h2⟩
theorem mq_at_lt {h : mj_H} {a : Nat} {e : mj_E} (hl : h[a]? = some e) : a < h.length := (List.getElem?_eq_some_iff.mp hl).1
theorem mq_idx {i n : Nat} (hi : i < n) (hn : n ≤ 1000000) : mj_in (jn (i : Nat)) n = true ∧ (jn (i : Nat)).toNatClampNeg = i := by
  have hr : jr (i : Int) := ⟨by omega, by omega⟩
  refine ⟨by rw [jn_in hr]; exact decide_eq_true ⟨by omega, by omega⟩, ?_⟩
  rw [jn_nat (by omega) hr]
  rfl
/-- an array whose i-th place is set -/
theorem mq_cr_set {ρ : Nat → Nat} {ty len dep i : Nat} {d : mq_T mq_W} {f : Nat → Value} {w : mq_W} {v : Value} (hd : len ≤ 4 ^ dep ∧ len ≤ 1000000) (hf : ∀ i, i < len → mq_kn (mq_get d i) = true → f i = mq_val ρ (mq_get d i)) (hi : i < len) (hv : v = mq_val ρ w) : mq_cr ρ (.arr ty len dep (mq_set dep d i w)) (.inl (ty, len, updV f i v)) := by
  refine ⟨rfl, rfl, hd, fun j hj hk => ?_⟩
  rw [mq_get_set dep d i j w (by omega) (by omega)] at hk ⊢
  unfold updV
  split
  · exact hv
  · rename_i e
    rw [if_neg e] at hk
    exact hf j hj hk
theorem mq_cr_U {ρ : Nat → Nat} {ty len dep : Nat} {f : Nat → Value} (hd : len ≤ 4 ^ dep ∧ len ≤ 1000000) : mq_cr ρ (.arr ty len dep (.l .U)) (.inl (ty, len, f)) := ⟨rfl, rfl, hd, fun j hj hk => by rw [mq_get_l] at hk; cases hk⟩
theorem mq_cr_obj {ρ : Nat → Nat} {ci f : Nat} {fs : List mq_W} {fs' : List Value} {w : mq_W} {v : Value} (h1 : fs'.length = fs.length) (h2 : ∀ i, i < fs.length → mq_kn (mq_nth .U fs i) = true → fs'[i]? = some (mq_val ρ (mq_nth .U fs i))) (hf : f < fs.length) (hv : v = mq_val ρ w) : mq_cr ρ (.obj ci (mq_nup .U fs f w)) (.inr (ci, fs'.set f v)) := by
  have hl : (mq_nup .U fs f w).length = fs.length := mq_nup_len _ _ _ _ hf
  refine ⟨rfl, by rw [List.length_set, hl]; exact h1, fun j hj hk => ?_⟩
  rw [hl] at hj
  rw [mq_nth_nup] at hk ⊢
  split
  · rename_i e
    subst e
    rw [List.getElem?_set_self (by omega), hv]
  · rename_i e
    rw [if_neg e] at hk
    rw [List.getElem?_set_ne (by omega)]
    exact h2 j hj hk
theorem mq_len_eq {α : Type} : ∀ l : List α, mq_len l = l.length
  | [] => rfl
  | x :: l => by
    show mq_len l + 1 = _
    rw [mq_len_eq l]
    rfl
theorem mq_cat_of {ρ : Nat → Nat} {st : List mq_W} (h : mq_cat st = true) : mj_cat (st.map (mq_val ρ)) ≤ 8 := by
  have c2 : ∀ w, (mq_val ρ w).category ≤ 2 := fun w => by cases w <;> first | exact Nat.le_refl 2 | exact Nat.le_succ 1
  have key : ∀ l : List mq_W, mj_cat (l.map (mq_val ρ)) ≤ 2 * l.length := fun l => by
    induction l with
    | nil => exact Nat.zero_le _
    | cons w l ih =>
      have := c2 w
      have e : mj_cat ((w :: l).map (mq_val ρ)) = (mq_val ρ w).category + mj_cat (l.map (mq_val ρ)) := by simp [mj_cat]
      rw [e, List.length_cons]
      omega
  have h2 : st.length ≤ 4 := by
    unfold mq_cat at h
    split at h <;> first | (cases h; done) | simp
  have := key st
  omega
theorem mq_nth_ge {α : Type} {df : α} : ∀ {l : List α} {k : Nat}, l.length ≤ k → mq_nth df l k = df
  | [], k, _ => rfl
  | x :: l, 0, h => absurd h (by simp)
  | x :: l, k + 1, h => by
    rw [mq_nth_succ]
    exact mq_nth_ge (by simp only [List.length_cons] at h; omega)
theorem mq_nth_lt {α : Type} {df : α} : ∀ {l : List α} {k : Nat} (h : k < l.length), mq_nth df l k = l[k]
  | [], k, h => absurd h (by simp)
  | x :: l, 0, h => rfl
  | x :: l, k + 1, h => by
    rw [mq_nth_succ, mq_nth_lt (by simp only [List.length_cons] at h; omega)]
    rfl
