/-! The fast machine: heaps and locals. -/
def mq_nv (ρ : Nat → Nat) (v : mq_N) : Int := match v with
  | .inl (p, n) => (p : Int) - n
  | .inr l => mq_pv ρ l
/-- one of both is 0 -/
def mq_nf (v : mq_N) : Prop := match v with
  | .inl (p, n) => p = 0 ∨ n = 0
  | .inr _ => True
/-- the limbs of a size -/
def mq_lbs (x : Nat) (g : Nat → Int32) : Prop := ∀ j, j < jnl x → g j = jn (jlb x j)
def mq_cr (ρ : Nat → Nat) (h : mj_H) (c : mq_C) (e : mj_E) : Prop := match c with
  | none => False
  | some (.inl (t, len, dep, d)) => ∃ f, e = .inl (t, len, f) ∧ (mq_wl dep len d ∧ len ≤ 1000000) ∧ ∀ i, i < len → mq_kn (mq_get d i) = true → f i = mq_val ρ (mq_get d i)
  | some (.inr (.inl (ci, fs))) => ∃ fs', e = .inr (ci, fs') ∧ fs'.length = fs.length ∧ ∀ i, i < fs.length → mq_kn (mq_nth mq_U fs i) = true → fs'[i]? = some (mq_val ρ (mq_nth mq_U fs i))
  | some (.inr (.inr (.inl (b, len, v)))) => ∃ z : Int, (mq_jk v = false → z = mq_nv ρ v) ∧ e = .inr (8, [.ref b, .int (jn (jnl z.natAbs)), .int (jn (jsg z))]) ∧ (∃ g : Nat → Int32, h[b]? = some (.inl (0, len, fun j => .int (g j))) ∧ mq_lbs z.natAbs g) ∧ jnl z.natAbs ≤ len ∧ len ≤ 700 ∧ mq_nf v
  | some (.inr (.inr (.inr (.inl (b, len, v))))) => e = .inr (2, [.ref b, .int (jn (jnl (mq_nv ρ v).natAbs)), .int (jn (jsg (mq_nv ρ v))), .long (jl (jfa (mq_nv ρ v).natAbs))]) ∧ (∃ g : Nat → Int32, h[b]? = some (.inl (0, len, fun j => .int (g j))) ∧ ∀ j, j < jnl (mq_nv ρ v).natAbs → g j = jn (jlb ((mq_nv ρ v).natAbs * jfa (mq_nv ρ v).natAbs) j)) ∧ jnl (mq_nv ρ v).natAbs ≤ len ∧ len ≤ 700 ∧ mq_nf v
  | some (.inr (.inr (.inr (.inr (.inl _))))) => True
  | some (.inr (.inr (.inr (.inr (.inr d))))) => mq_wl 10 665 d ∧ ∃ bg : Nat → Int32, e = .inl (0, 466830, fun j => .int (bg j)) ∧ ∀ s, s < 665 → jrs bg s (mq_nv ρ (mq_get d s)) ∧ mq_nf (mq_get d s)
/-- whose limbs they are -/
def mq_ow (t : mq_Ht) (a : Nat) (c : mq_C) : Prop := match c with
  | some (.inr (.inr (.inl (b, _, _)))) => b < 1024 ∧ mq_hg t b = mq_lim a
  | some (.inr (.inr (.inr (.inl (b, _, _))))) => b < 1024 ∧ mq_hg t b = mq_lim a
  | _ => True
/-- an array, an object, the great row: what has no other cell of its own and is none -/
def mq_pl (c : mq_C) : Prop := match c with
  | some (.inl _) => True
  | some (.inr (.inl _)) => True
  | some (.inr (.inr (.inr (.inr (.inr _))))) => True
  | _ => False
/-- the heap: every cell that is known is as it is known -/
abbrev mq_Hr (ρ : Nat → Nat) (n : Nat) (t : mq_Ht) (h : mj_H) : Prop := h.length = n ∧ n ≤ 1024 ∧ mq_hw t ∧ (∀ a, a < 1024 → mq_hg t a = none ∨ (mq_ow t a (mq_hg t a) ∧ ∃ e, h[a]? = some e ∧ mq_cr ρ h (mq_hg t a) e)) ∧ mj_sl h ≤ 6000 * n + (if n ≤ 566 then 0 else 1000000)
theorem mq_Hr.len {ρ : Nat → Nat} {n : Nat} {t : mq_Ht} {h : mj_H} (r : mq_Hr ρ n t h) : h.length = n := r.1
theorem mq_Hr.le {ρ : Nat → Nat} {n : Nat} {t : mq_Ht} {h : mj_H} (r : mq_Hr ρ n t h) : n ≤ 1024 := r.2.1
theorem mq_Hr.wl {ρ : Nat → Nat} {n : Nat} {t : mq_Ht} {h : mj_H} (r : mq_Hr ρ n t h) : mq_hw t := r.2.2.1
theorem mq_Hr.cell {ρ : Nat → Nat} {n : Nat} {t : mq_Ht} {h : mj_H} (r : mq_Hr ρ n t h) : ∀ a, a < 1024 → mq_hg t a = none ∨ (mq_ow t a (mq_hg t a) ∧ ∃ e, h[a]? = some e ∧ mq_cr ρ h (mq_hg t a) e) := r.2.2.2.1
theorem mq_Hr.sl {ρ : Nat → Nat} {n : Nat} {t : mq_Ht} {h : mj_H} (r : mq_Hr ρ n t h) : mj_sl h ≤ 6000 * n + (if n ≤ 566 then 0 else 1000000) := r.2.2.2.2
abbrev mq_R (ρ : Nat → Nat) (nl : Nat) (loc : List mq_W) (n : Nat) (t : mq_Ht) (env : mq_V) (mloc : mj_L) (h : mj_H) : Prop := mq_Sat ρ env ∧ mloc.length = nl ∧ (∀ i, mq_kn (mq_nth (Sum.inr (Sum.inr (Sum.inr (Sum.inr (Sum.inr (Sum.inr (Sum.inr (Sum.inr (some none))))))))) loc i) = true → mloc[i]? = some (some (mq_val ρ (mq_nth (Sum.inr (Sum.inr (Sum.inr (Sum.inr (Sum.inr (Sum.inr (Sum.inr (Sum.inr (some none))))))))) loc i)))) ∧ mq_Hr ρ n t h
section MQRf
variable {ρ : Nat → Nat} {nl : Nat} {loc : List mq_W} {n : Nat} {t : mq_Ht} {env : mq_V} {mloc : mj_L} {h : mj_H}
theorem mq_R.sat (r : mq_R ρ nl loc n t env mloc h) : mq_Sat ρ env := r.1
theorem mq_R.len (r : mq_R ρ nl loc n t env mloc h) : mloc.length = nl := r.2.1
theorem mq_R.lo (r : mq_R ρ nl loc n t env mloc h) : ∀ i, mq_kn (mq_nth (Sum.inr (Sum.inr (Sum.inr (Sum.inr (Sum.inr (Sum.inr (Sum.inr (Sum.inr (some none))))))))) loc i) = true → mloc[i]? = some (some (mq_val ρ (mq_nth (Sum.inr (Sum.inr (Sum.inr (Sum.inr (Sum.inr (Sum.inr (Sum.inr (Sum.inr (some none))))))))) loc i))) := r.2.2.1
theorem mq_R.hr (r : mq_R ρ nl loc n t env mloc h) : mq_Hr ρ n t h := r.2.2.2
end MQRf
/-- a cell's meaning stays where its own cell and its limbs stay -/
theorem mq_cr_keep {ρ : Nat → Nat} {h h' : mj_H} {c : mq_C} {e : mj_E} (hc : mq_cr ρ h c e) (hb : ∀ b len v, (c = mq_wide b len v ∨ c = mq_dvd b len v) → h'[b]? = h[b]?) : mq_cr ρ h' c e := by
  match c, hc, hb with
  | none, hc, _ => exact hc.elim
  | some (.inl (t, len, dep, d)), hc, _ => exact hc
  | some (.inr (.inl (ci, fs))), hc, _ => exact hc
  | some (.inr (.inr (.inl (b, len, v)))), hc, hb =>
    obtain ⟨z, h0, h1, ⟨g, h2, h3⟩, h4⟩ := hc
    exact ⟨z, h0, h1, ⟨g, (hb b len v (Or.inl rfl)).trans h2, h3⟩, h4⟩
  | some (.inr (.inr (.inr (.inl (b, len, v))))), hc, hb =>
    obtain ⟨h1, ⟨g, h2, h3⟩, h4⟩ := hc
    exact ⟨h1, ⟨g, (hb b len v (Or.inr rfl)).trans h2, h3⟩, h4⟩
  | some (.inr (.inr (.inr (.inr (.inl _))))), hc, _ => exact hc
  | some (.inr (.inr (.inr (.inr (.inr d))))), hc, _ => exact hc
theorem mq_ow_w {t : mq_Ht} {a : Nat} {c : mq_C} (h : mq_ow t a c) {b len : Nat} {v : mq_N} (hc : c = mq_wide b len v ∨ c = mq_dvd b len v) : b < 1024 ∧ mq_hg t b = mq_lim a := by
  rcases hc with e | e <;> subst e <;> exact h
theorem mq_pl_arr {q : Nat × Nat × Nat × mq_T mq_W} : mq_pl (some (.inl q)) := trivial
theorem mq_pl_lim {c : mq_C} (h : mq_pl c) (a : Nat) : c ≠ mq_lim a := by
  intro e
  subst e
  exact h
theorem mq_ow_pl {t : mq_Ht} {a : Nat} {c : mq_C} (h : mq_pl c) : mq_ow t a c := by
  match c, h with
  | some (.inl _), _ => trivial
  | some (.inr (.inl _)), _ => trivial
  | some (.inr (.inr (.inr (.inr (.inr _))))), _ => trivial
theorem mq_ow_set {t : mq_Ht} {a b : Nat} {c c' : mq_C} (hw : mq_hw t) (ha : a < 1024) (hb : b < 1024) (h : mq_ow t b c) (hp : ∀ x, mq_hg t a ≠ mq_lim x) : mq_ow (mq_hset t a c') b c := by
  have key : ∀ x, x < 1024 → mq_hg t x = mq_lim b → mq_hg (mq_hset t a c') x = mq_lim b := fun x hx e => by
    rw [mq_hg_set hw c' ha hx, if_neg (fun q => hp b (by rw [← q]; exact e))]
    exact e
  match c, h with
  | none, _ => trivial
  | some (.inl _), _ => trivial
  | some (.inr (.inl _)), _ => trivial
  | some (.inr (.inr (.inl (x, _, _)))), h => exact ⟨h.1, key x h.1 h.2⟩
  | some (.inr (.inr (.inr (.inl (x, _, _))))), h => exact ⟨h.1, key x h.1 h.2⟩
  | some (.inr (.inr (.inr (.inr (.inl _))))), _ => trivial
  | some (.inr (.inr (.inr (.inr (.inr _))))), _ => trivial
/-- a plain cell is set -/
theorem mq_Hr.set {ρ : Nat → Nat} {n a : Nat} {t : mq_Ht} {h : mj_H} {c : mq_C} {e e0 : mj_E} (hr : mq_Hr ρ n t h) (ha : a < 1024) (hl0 : h[a]? = some e0) (h0 : mq_pl (mq_hg t a)) (hp : mq_pl c) (hc : mq_cr ρ h c e) (hz : mj_slot e = mj_slot e0) : mq_Hr ρ n (mq_hset t a c) (h.set a e) := by
  have hl : a < h.length := (List.getElem?_eq_some_iff.mp hl0).1
  have keep : ∀ b, b < 1024 → b ≠ a → ∀ e', mq_ow t b (mq_hg t b) → mq_cr ρ h (mq_hg t b) e' → mq_cr ρ (h.set a e) (mq_hg t b) e' := fun b hb hne e' ho hc => mq_cr_keep hc (fun x len v hx => by
    have := mq_ow_w ho hx
    have hxa : x ≠ a := fun q => mq_pl_lim h0 b (by rw [← q]; exact this.2)
    rw [List.getElem?_set_ne (by omega)])
  refine ⟨by rw [List.length_set]; exact hr.len, hr.le, hr.wl.set ha _, fun b hb => ?_, by rw [mj_sl_set hl0 hz]; exact hr.sl⟩
  rw [mq_hg_set hr.wl c ha hb]
  split
  · rename_i e1
    subst e1
    refine Or.inr ⟨mq_ow_pl hp, e, by simp [hl], mq_cr_keep hc (fun x len v hx => ?_)⟩
    rcases hx with hx | hx <;> rw [hx] at hp <;> exact hp.elim
  · rename_i e1
    rcases hr.cell b hb with h1 | ⟨ho, e', h1, h2⟩
    · exact Or.inl h1
    · exact Or.inr ⟨mq_ow_set hr.wl ha hb ho (fun x => mq_pl_lim h0 x), e', by rw [List.getElem?_set_ne (by omega)]; exact h1, keep b hb e1 e' ho h2⟩
/-- a plain cell that comes to say less -/
theorem mq_Hr.weak {ρ : Nat → Nat} {n a : Nat} {t : mq_Ht} {h : mj_H} {c : mq_C} {e : mj_E} (hr : mq_Hr ρ n t h) (ha : a < 1024) (hl : h[a]? = some e) (h0 : mq_pl (mq_hg t a)) (hp : mq_pl c) (hc : mq_cr ρ h c e) : mq_Hr ρ n (mq_hset t a c) h := by
  refine ⟨hr.len, hr.le, hr.wl.set ha _, fun b hb => ?_, hr.sl⟩
  rw [mq_hg_set hr.wl c ha hb]
  split
  · rename_i e1
    subst e1
    exact Or.inr ⟨mq_ow_pl hp, e, hl, hc⟩
  · rcases hr.cell b hb with h1 | ⟨ho, e', h1, h2⟩
    · exact Or.inl h1
    · exact Or.inr ⟨mq_ow_set hr.wl ha hb ho (fun x => mq_pl_lim h0 x), e', h1, h2⟩
theorem mq_Hr.nil {ρ : Nat → Nat} {n : Nat} {t : mq_Ht} {h : mj_H} (hr : mq_Hr ρ n t h) {a : Nat} (ha : a < 1024) (hn : n ≤ a) : mq_hg t a = Option.none := by
  rcases hr.cell a ha with h1 | ⟨_, e', h1, _⟩
  · exact h1
  · have := (List.getElem?_eq_some_iff.mp h1).1
    rw [hr.len] at this
    omega
/-- a new cell, plain or nothing -/
theorem mq_Hr.push {ρ : Nat → Nat} {n : Nat} {t : mq_Ht} {h : mj_H} {c : mq_C} {e : mj_E} (hr : mq_Hr ρ n t h) (hn : n < 1024) (hz : mj_slot e ≤ 6000 ∨ (n = 566 ∧ mj_slot e ≤ 1000000)) (hc : c = none ∨ (mq_pl c ∧ mq_cr ρ h c e)) : mq_Hr ρ (n + 1) (mq_hset t n c) (h ++ [e]) := by
  have hnn := hr.nil hn (Nat.le_refl n)
  have keep : ∀ c' e', mq_cr ρ h c' e' → mq_cr ρ (h ++ [e]) c' e' := fun c' e' hc => mq_cr_keep hc (fun x len v hx => by
    have hx2 : ∃ g, h[x]? = some g := by
      rcases hx with hx | hx
      · subst hx
        obtain ⟨_, _, _, ⟨g, h2, _⟩, _⟩ := hc
        exact ⟨_, h2⟩
      · subst hx
        obtain ⟨_, ⟨g, h2, _⟩, _⟩ := hc
        exact ⟨_, h2⟩
    obtain ⟨g, hg⟩ := hx2
    rw [List.getElem?_append_left (List.getElem?_eq_some_iff.mp hg).1])
  refine ⟨by simp [hr.len], hn, hr.wl.set hn _, fun b hb => ?_, by
    have h1 := hr.sl
    rw [mj_sl_push]
    split at h1 <;> split <;> omega⟩
  rw [mq_hg_set hr.wl c hn hb]
  split
  · rename_i e1
    subst e1
    rcases hc with hc | ⟨hp, hc⟩
    · exact Or.inl hc
    · exact Or.inr ⟨mq_ow_pl hp, e, by rw [List.getElem?_append_right (by rw [hr.len]; exact Nat.le_refl _), hr.len]; simp, keep _ _ hc⟩
  · rcases hr.cell b hb with h1 | ⟨ho, e', h1, h2⟩
    · exact Or.inl h1
    · exact Or.inr ⟨mq_ow_set hr.wl hn hb ho (fun x q => by rw [hnn] at q; cases q), e', by rw [List.getElem?_append_left (List.getElem?_eq_some_iff.mp h1).1]; exact h1, keep _ _ h2⟩
theorem mq_cA_of {ρ : Nat → Nat} {n a : Nat} {t : mq_Ht} {h : mj_H} {k : Nat → Nat → Nat → mq_T mq_W → Bool} (hh : mq_cA t a k = true) (hr : mq_Hr ρ n t h) : ∃ ty len dep d f, mq_hg t a = some (.inl (ty, len, dep, d)) ∧ h[a]? = some (.inl (ty, len, f)) ∧ (mq_wl dep len d ∧ len ≤ 1000000) ∧ (∀ i, i < len → mq_kn (mq_get d i) = true → f i = mq_val ρ (mq_get d i)) ∧ a < 1024 ∧ k ty len dep d = true := by
  unfold mq_cA at hh
  obtain ⟨h1, h2⟩ := mq_cond_of hh
  have ha : a < 1024 := by
    have : a ≤ 1023 := Nat.ble_eq.mp h1
    omega
  have hcell := hr.cell a ha
  match hg : mq_hg t a, hcell, h2 with
  | .none, _, h2 => cases h2
  | some (.inl (ty, len, dep, d)), hcell, h2 =>
    rcases hcell with h3 | ⟨_, e, h3, f, h4, h5, h6⟩
    · cases h3
    · subst h4
      exact ⟨_, _, _, _, f, rfl, h3, h5, h6, ha, h2⟩
  | some (.inr _), _, h2 => cases h2
theorem mq_cO_of {ρ : Nat → Nat} {n a : Nat} {t : mq_Ht} {h : mj_H} {k : Nat → List mq_W → Bool} (hh : mq_cO t a k = true) (hr : mq_Hr ρ n t h) : ∃ ci fs fs', mq_hg t a = some (.inr (.inl (ci, fs))) ∧ h[a]? = some (.inr (ci, fs')) ∧ fs'.length = fs.length ∧ (∀ i, i < fs.length → mq_kn (mq_nth mq_U fs i) = true → fs'[i]? = some (mq_val ρ (mq_nth mq_U fs i))) ∧ a < 1024 ∧ k ci fs = true := by
  unfold mq_cO at hh
  obtain ⟨h1, h2⟩ := mq_cond_of hh
  have ha : a < 1024 := by
    have : a ≤ 1023 := Nat.ble_eq.mp h1
    omega
  have hcell := hr.cell a ha
  match hg : mq_hg t a, hcell, h2 with
  | .none, _, h2 => cases h2
  | some (.inl _), _, h2 => cases h2
  | some (.inr (.inl (ci, fs))), hcell, h2 =>
    rcases hcell with h3 | ⟨_, e, h3, f, h4, h5, h6⟩
    · cases h3
    · subst h4
      exact ⟨_, _, f, rfl, h3, h5, h6, ha, h2⟩
  | some (.inr (.inr _)), _, h2 => cases h2
/-- what is of a class -/
theorem mq_cC_of {ρ : Nat → Nat} {n a : Nat} {t : mq_Ht} {h : mj_H} {k : Nat → Bool} (hh : mq_cC t a k = true) (hr : mq_Hr ρ n t h) : ∃ ci fs', h[a]? = some (.inr (ci, fs')) ∧ a < 1024 ∧ k ci = true := by
  unfold mq_cC at hh
  obtain ⟨h1, h2⟩ := mq_cond_of hh
  have ha : a < 1024 := by
    have : a ≤ 1023 := Nat.ble_eq.mp h1
    omega
  have hcell := hr.cell a ha
  match hg : mq_hg t a, hcell, h2 with
  | .none, _, h2 => cases h2
  | some (.inl _), _, h2 => cases h2
  | some (.inr (.inl (ci, fs))), hcell, h2 =>
    rcases hcell with h3 | ⟨_, e, h3, f, h4, h5, h6⟩
    · cases h3
    · subst h4
      exact ⟨_, f, h3, ha, h2⟩
  | some (.inr (.inr (.inl (b, len, v)))), hcell, h2 =>
    rcases hcell with h3 | ⟨_, e, h3, _, _, h4, _⟩
    · cases h3
    · subst h4
      exact ⟨_, _, h3, ha, h2⟩
  | some (.inr (.inr (.inr (.inl (b, len, v))))), hcell, h2 =>
    rcases hcell with h3 | ⟨_, e, h3, h4, _⟩
    · cases h3
    · subst h4
      exact ⟨_, _, h3, ha, h2⟩
  | some (.inr (.inr (.inr (.inr _)))), _, h2 => cases h2
theorem mq_up1_nil0 (v : mq_W) : mq_up1 [] 0 v = [v] := rfl
theorem mq_up1_nilS (v : mq_W) (i : Nat) : mq_up1 [] (i + 1) v = (Sum.inr (Sum.inr (Sum.inr (Sum.inr (Sum.inr (Sum.inr (Sum.inr (Sum.inr (some none))))))))) :: mq_up1 [] i v := rfl
theorem mq_up1_zero (x v : mq_W) (l : List mq_W) : mq_up1 (x :: l) 0 v = v :: l := rfl
theorem mq_kc_eq (x : mq_W) (l : List mq_W) : mq_kc x l = mq_kill x :: l := by
  match x with
  | .inl _ => rfl
  | .inr (.inl _) => rfl
  | .inr (.inr (.inl _)) => rfl
  | .inr (.inr (.inr _)) => rfl
theorem mq_up1_one (x v : mq_W) (l : List mq_W) : mq_up1 (x :: l) 1 v = mq_kill x :: mq_up1 l 0 v := by
  show mq_kc x (mq_up1 l 0 v) = _
  rw [mq_kc_eq]
theorem mq_up1_succ (x v : mq_W) (l : List mq_W) (i : Nat) : mq_up1 (x :: l) (i + 2) v = x :: mq_up1 l (i + 1) v := rfl
theorem mq_nth_up1 (v : mq_W) : ∀ (l : List mq_W) (i j : Nat), mq_nth (Sum.inr (Sum.inr (Sum.inr (Sum.inr (Sum.inr (Sum.inr (Sum.inr (Sum.inr (some none))))))))) (mq_up1 l i v) j = if j = i then v else if j + 1 = i then mq_kill (mq_nth (Sum.inr (Sum.inr (Sum.inr (Sum.inr (Sum.inr (Sum.inr (Sum.inr (Sum.inr (some none))))))))) l j) else mq_nth (Sum.inr (Sum.inr (Sum.inr (Sum.inr (Sum.inr (Sum.inr (Sum.inr (Sum.inr (some none))))))))) l j
  | [], 0, 0 => rfl
  | [], 0, j + 1 => by simp [mq_up1_nil0, mq_nth_succ, mq_nth_nil]
  | [], i + 1, 0 => by
    rw [mq_up1_nilS, mq_nth_zero, mq_nth_nil]
    by_cases h : i = 0 <;> simp [h, mq_kill, mq_kill3]
  | [], i + 1, j + 1 => by
    rw [mq_up1_nilS, mq_nth_succ, mq_nth_up1 v [] i j]
    simp [mq_nth_nil]
  | x :: l, 0, 0 => rfl
  | x :: l, 0, j + 1 => by simp [mq_up1_zero, mq_nth_succ]
  | x :: l, 1, 0 => by simp [mq_up1_one, mq_nth_zero]
  | x :: l, 1, j + 1 => by
    rw [mq_up1_one, mq_nth_succ, mq_nth_succ, mq_nth_up1 v l 0 j]
    simp
  | x :: l, i + 2, 0 => by simp [mq_up1_succ, mq_nth_zero]
  | x :: l, i + 2, j + 1 => by
    rw [mq_up1_succ, mq_nth_succ, mq_nth_succ, mq_nth_up1 v l (i + 1) j]
    simp
theorem mj_st1_length (loc : mj_L) (i : Nat) (v : Value) : (mj_st1 loc i v).length = loc.length := by
  unfold mj_st1
  rw [List.length_set]
  split
  · rfl
  · split <;> first | rfl | rw [List.length_set]
theorem mj_st1_at {loc : mj_L} {i : Nat} {v : Value} (hi : i < loc.length) : (mj_st1 loc i v)[i]? = some (some v) := by
  have h := mj_st1_length loc i v
  unfold mj_st1 at h ⊢
  rw [List.length_set] at h
  rw [List.getElem?_set_self (by omega)]
theorem mj_st1_ne {loc : mj_L} {i j : Nat} {v : Value} (hj : j ≠ i) (hl : j + 1 = i → ∀ x, loc[j]? ≠ some (some (.long x)) ∧ ∀ x, loc[j]? ≠ some (some (.double x))) : (mj_st1 loc i v)[j]? = loc[j]? := by
  unfold mj_st1
  rw [List.getElem?_set_ne (by omega)]
  split
  · rfl
  · rename_i q
    by_cases e : q = j
    · subst e
      split
      · rename_i x hx
        exact absurd hx (hl rfl x).1
      · rename_i x hx
        exact absurd hx ((hl rfl 0).2 x)
      · rfl
    · split <;> first | rfl | rw [List.getElem?_set_ne (by omega)]
theorem mq_kill_kn {ρ : Nat → Nat} {w : mq_W} (h : mq_kn (mq_kill w) = true) : mq_kill w = w ∧ ∀ x, mq_val ρ w ≠ .long x ∧ ∀ x, mq_val ρ w ≠ .double x := by
  have ne : ∀ v : Value, (∀ x, v ≠ .long x) → (∀ x, v ≠ .double x) → ∀ x, v ≠ .long x ∧ ∀ x, v ≠ .double x := fun v h1 h2 x => ⟨h1 x, h2⟩
  rcases mq_Wd w with ⟨n, rfl⟩ | ⟨a, rfl⟩ | ⟨n, rfl⟩ | ⟨i, m, c, rfl⟩ | ⟨i, rfl⟩ | ⟨i, lo, l, rfl⟩ | ⟨x, rfl⟩ | ⟨x, rfl⟩ | rfl | rfl | rfl | rfl | rfl
  · exact ⟨rfl, ne _ (fun x => by intro e; cases e) (fun x => by intro e; cases e)⟩
  · exact ⟨rfl, ne _ (fun x => by intro e; cases e) (fun x => by intro e; cases e)⟩
  · cases h
  · exact ⟨rfl, ne _ (fun x => by intro e; cases e) (fun x => by intro e; cases e)⟩
  · cases h
  · exact ⟨rfl, ne _ (fun x => by intro e; cases e) (fun x => by intro e; cases e)⟩
  · cases h
  · exact ⟨rfl, ne _ (fun x => by intro e; cases e) (fun x => by intro e; cases e)⟩
  · exact ⟨rfl, ne _ (fun x => by intro e; cases e) (fun x => by intro e; cases e)⟩
  · cases h
  · cases h
  · cases h
  · cases h
theorem mq_R.up1 {ρ : Nat → Nat} {nl n i : Nat} {loc : List mq_W} {t : mq_Ht} {env : mq_V} {mloc : mj_L} {h : mj_H} (R : mq_R ρ nl loc n t env mloc h) (hi : i < nl) {w : mq_W} {v : Value} (hv : v = mq_val ρ w) : mq_R ρ nl (mq_up1 loc i w) n t env (mj_st1 mloc i v) h := by
  subst hv
  refine ⟨R.sat, by rw [mj_st1_length]; exact R.len, fun j hj => ?_, R.hr⟩
  rw [mq_nth_up1] at hj ⊢
  split
  · rename_i e
    subst e
    exact mj_st1_at (by rw [R.len]; exact hi)
  · rename_i e
    rw [if_neg e] at hj
    split
    · rename_i e2
      rw [if_pos e2] at hj
      obtain ⟨h1, h2⟩ := mq_kill_kn (ρ := ρ) hj
      rw [h1] at hj ⊢
      have h3 := R.lo j hj
      rw [mj_st1_ne e (fun _ x => ?_), h3]
      rw [h3]
      refine ⟨fun q => ?_, fun y q => ?_⟩
      · injection q with q; injection q with q; exact (h2 x).1 q
      · injection q with q; injection q with q; exact (h2 0).2 y q
    · rename_i e2
      rw [if_neg e2] at hj
      rw [mj_st1_ne e (fun q => absurd q e2)]
      exact R.lo j hj
theorem mq_R.up0 {ρ : Nat → Nat} {nl n i : Nat} {loc : List mq_W} {t : mq_Ht} {env : mq_V} {mloc : mj_L} {h : mj_H} (R : mq_R ρ nl loc n t env mloc h) : mq_R ρ nl (mq_nup (Sum.inr (Sum.inr (Sum.inr (Sum.inr (Sum.inr (Sum.inr (Sum.inr (Sum.inr (some none))))))))) loc i (Sum.inr (Sum.inr (Sum.inr (Sum.inr (Sum.inr (Sum.inr (Sum.inr (Sum.inr (some none)))))))))) n t env (mloc.set i none) h := by
  refine ⟨R.sat, by rw [List.length_set]; exact R.len, fun j hj => ?_, R.hr⟩
  rw [mq_nth_nup] at hj ⊢
  split
  · rename_i e
    rw [if_pos e] at hj
    cases hj
  · rename_i e
    rw [if_neg e] at hj
    rw [List.getElem?_set_ne (by omega)]
    exact R.lo j hj
theorem mq_R.up2 {ρ : Nat → Nat} {nl n i : Nat} {loc : List mq_W} {t : mq_Ht} {env : mq_V} {mloc : mj_L} {h : mj_H} (R : mq_R ρ nl loc n t env mloc h) (hi : i < nl) {w : mq_W} {v : Value} (hv : v = mq_val ρ w) : mq_R ρ nl (mq_up2 loc i w) n t env (mj_st2 mloc i v) h := (R.up1 hi hv).up0
theorem mq_R.env {ρ : Nat → Nat} {nl n : Nat} {loc : List mq_W} {t : mq_Ht} {env e : mq_V} {mloc : mj_L} {h : mj_H} (R : mq_R ρ nl loc n t env mloc h) (hs : mq_Sat ρ e) : mq_R ρ nl loc n t e mloc h := ⟨hs, R.len, R.lo, R.hr⟩
theorem mq_R.heap {ρ : Nat → Nat} {nl n n' : Nat} {loc : List mq_W} {t t' : mq_Ht} {env : mq_V} {mloc : mj_L} {h h' : mj_H} (R : mq_R ρ nl loc n t env mloc h) (hr : mq_Hr ρ n' t' h') : mq_R ρ nl loc n' t' env mloc h' := ⟨R.sat, R.len, R.lo, hr⟩
/-- a plain cell of the small machine changes where nothing is said of it -/
theorem mq_Hr.mut {ρ : Nat → Nat} {n a : Nat} {t : mq_Ht} {h : mj_H} {e e0 : mj_E} (hr : mq_Hr ρ n t h) (ha : a < 1024) (hl0 : h[a]? = some e0) (hz : mj_slot e = mj_slot e0) (h0 : mq_pl (mq_hg t a)) (hc : mq_cr ρ h (mq_hg t a) e) : mq_Hr ρ n t (h.set a e) := by
  have hl : a < h.length := (List.getElem?_eq_some_iff.mp hl0).1
  refine ⟨by rw [List.length_set]; exact hr.len, hr.le, hr.wl, fun b hb => ?_, by rw [mj_sl_set hl0 hz]; exact hr.sl⟩
  by_cases e1 : b = a
  · subst e1
    refine Or.inr ⟨mq_ow_pl h0, e, by simp [hl], mq_cr_keep hc (fun x len v hx => ?_)⟩
    rcases hx with hx | hx <;> rw [hx] at h0 <;> exact h0.elim
  · rcases hr.cell b hb with h1 | ⟨ho, e', h1, h2⟩
    · exact Or.inl h1
    · refine Or.inr ⟨ho, e', by rw [List.getElem?_set_ne (by omega)]; exact h1, mq_cr_keep h2 (fun x len v hx => ?_)⟩
      have := mq_ow_w ho hx
      have hxa : x ≠ a := fun q => mq_pl_lim h0 b (by rw [← q]; exact this.2)
      rw [List.getElem?_set_ne (by omega)]
theorem mq_at_lt {h : mj_H} {a : Nat} {e : mj_E} (hl : h[a]? = some e) : a < h.length := (List.getElem?_eq_some_iff.mp hl).1
theorem mq_idx {i n : Nat} (hi : i < n) (hn : n ≤ 1000000) : mj_in (jn (i : Nat)) n = true ∧ (jn (i : Nat)).toNatClampNeg = i := by
  have hr : jr (i : Int) := ⟨by omega, by omega⟩
  refine ⟨by rw [jn_in hr]; exact decide_eq_true ⟨by omega, by omega⟩, ?_⟩
  rw [jn_nat (by omega) hr]
  rfl
/-- an array whose i-th place is set -/
theorem mq_cr_set {ρ : Nat → Nat} {ty len dep i : Nat} {d : mq_T mq_W} {h : mj_H} {f : Nat → Value} {w : mq_W} {v : Value} (hd : mq_wl dep len d ∧ len ≤ 1000000) (hf : ∀ i, i < len → mq_kn (mq_get d i) = true → f i = mq_val ρ (mq_get d i)) (hi : i < len) (hv : v = mq_val ρ w) : mq_cr ρ h (some (.inl (ty, len, dep, mq_set dep d i w))) (.inl (ty, len, updV f i v)) := by
  refine ⟨_, rfl, ⟨hd.1.set hi _, hd.2⟩, fun j hj hk => ?_⟩
  rw [mq_get_set hd.1 w hi hj] at hk ⊢
  unfold updV
  split
  · exact hv
  · rename_i e
    rw [if_neg e] at hk
    exact hf j hj hk
theorem mq_cr_U {ρ : Nat → Nat} {ty len dep : Nat} {h : mj_H} {f : Nat → Value} {d : mq_T mq_W} (hd : mq_wl dep len d ∧ len ≤ 1000000) : mq_cr ρ h (some (.inl (ty, len, dep, (Lean.RArray.leaf mq_U)))) (.inl (ty, len, f)) := ⟨f, rfl, ⟨mq_wl.leaf hd.1.1 _, hd.2⟩, fun j hj hk => by rw [mq_get_l] at hk; cases hk⟩
theorem mq_cr_obj {ρ : Nat → Nat} {ci f : Nat} {h : mj_H} {fs : List mq_W} {fs' : List Value} {w : mq_W} {v : Value} (h1 : fs'.length = fs.length) (h2 : ∀ i, i < fs.length → mq_kn (mq_nth mq_U fs i) = true → fs'[i]? = some (mq_val ρ (mq_nth mq_U fs i))) (hf : f < fs.length) (hv : v = mq_val ρ w) : mq_cr ρ h (some (.inr (.inl (ci, (mq_nup mq_U fs f w))))) (.inr (ci, fs'.set f v)) := by
  have hl : (mq_nup mq_U fs f w).length = fs.length := mq_nup_len _ _ _ _ hf
  refine ⟨_, rfl, by rw [List.length_set, hl]; exact h1, fun j hj hk => ?_⟩
  rw [hl] at hj
  rw [mq_nth_nup] at hk ⊢
  split
  · rename_i e
    subst e
    rw [List.getElem?_set_self (by omega), hv]
  · rename_i e
    rw [if_neg e] at hk
    rw [List.getElem?_set_ne (by omega)]
    exact h2 j hj hk
theorem mq_len_eq {α : Type} : ∀ l : List α, mq_len l = l.length
  | [] => rfl
  | x :: l => by
    show mq_len l + 1 = _
    rw [mq_len_eq l]
    rfl
theorem mq_cat_of {ρ : Nat → Nat} {st : List mq_W} (h : mq_cat st = true) : mj_cat (st.map (mq_val ρ)) ≤ 8 := by
  have c2 : ∀ w, (mq_val ρ w).category ≤ 2 := fun w => by rcases mq_Wd w with ⟨n, rfl⟩ | ⟨a, rfl⟩ | ⟨n, rfl⟩ | ⟨i, m, c, rfl⟩ | ⟨i, rfl⟩ | ⟨i, lo, l, rfl⟩ | ⟨x, rfl⟩ | ⟨x, rfl⟩ | rfl | rfl | rfl | rfl | rfl <;> first | exact Nat.le_refl 2 | exact Nat.le_succ 1
  have key : ∀ l : List mq_W, mj_cat (l.map (mq_val ρ)) ≤ 2 * l.length := fun l => by
    induction l with
    | nil => exact Nat.zero_le _
    | cons w l ih =>
      have := c2 w
      have e : mj_cat ((w :: l).map (mq_val ρ)) = (mq_val ρ w).category + mj_cat (l.map (mq_val ρ)) := by simp [mj_cat]
      rw [e, List.length_cons]
      omega
  have h2 : st.length ≤ 4 := by
    unfold mq_cat at h
    split at h <;> first | (cases h; done) | simp
  have := key st
  omega
theorem mq_nth_ge {α : Type} {df : α} : ∀ {l : List α} {k : Nat}, l.length ≤ k → mq_nth df l k = df
  | [], k, _ => rfl
  | x :: l, 0, h => absurd h (by simp)
  | x :: l, k + 1, h => by
    rw [mq_nth_succ]
    exact mq_nth_ge (by simp only [List.length_cons] at h; omega)
theorem mq_nth_lt {α : Type} {df : α} : ∀ {l : List α} {k : Nat} (h : k < l.length), mq_nth df l k = l[k]
  | [], k, h => absurd h (by simp)
  | x :: l, 0, h => rfl
  | x :: l, k + 1, h => by
    rw [mq_nth_succ, mq_nth_lt (by simp only [List.length_cons] at h; omega)]
    rfl
