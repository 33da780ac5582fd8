/-! What stays in any run that stores no bytes and does not touch the field 15 of an object of class 9: arrays of bytes, and that field. -/
def jqt (h h' : mj_H) : Prop := ∀ a : Nat, (∀ (n : Nat) (f : Nat → Value), h[a]? = some (.inl (2, n, f)) → h'[a]? = some (.inl (2, n, f))) ∧ (∀ fs : List Value, h[a]? = some (.inr (9, fs)) → ∃ fs' : List Value, h'[a]? = some (.inr (9, fs')) ∧ fs'[15]? = fs[15]?)
theorem jqt.rf {h : mj_H} : jqt h h := fun a => ⟨fun _ _ e => e, fun fs e => ⟨fs, e, rfl⟩⟩
theorem jqt.tr {h h1 h2 : mj_H} (p : jqt h h1) (q : jqt h1 h2) : jqt h h2 := fun a => ⟨fun n f e => (q a).1 n f ((p a).1 n f e), fun fs e => by
  obtain ⟨f1, e1, e2⟩ := (p a).2 fs e
  obtain ⟨f2, e3, e4⟩ := (q a).2 f1 e1
  exact ⟨f2, e3, e4.trans e2⟩⟩
theorem jqt.app {h : mj_H} (es : mj_H) : jqt h (h ++ es) := fun a => ⟨fun n f e => by rw [List.getElem?_append_left (List.getElem?_eq_some_iff.mp e).1]; exact e, fun fs e => ⟨fs, by rw [List.getElem?_append_left (List.getElem?_eq_some_iff.mp e).1]; exact e, rfl⟩⟩
theorem jqt.set {h : mj_H} {p : Nat} {e0 e : mj_E} (h0 : h[p]? = some e0) (h1 : ∀ n f, e0 = .inl (2, n, f) → e = e0) (h2 : ∀ fs, e0 = .inr (9, fs) → ∃ fs' : List Value, e = .inr (9, fs') ∧ fs'[15]? = fs[15]?) : jqt h (h.set p e) := fun a => by
  have hl := (List.getElem?_eq_some_iff.mp h0).1
  by_cases c : p = a
  · subst c
    rw [List.getElem?_set_self hl]
    refine ⟨fun n f q => ?_, fun fs q => ?_⟩
    · rw [h0] at q
      cases q
      rw [h1 n f rfl]
    · rw [h0] at q
      cases q
      obtain ⟨fs', e1, e2⟩ := h2 fs rfl
      exact ⟨fs', by rw [e1], e2⟩
  · rw [List.getElem?_set_ne c]
    exact ⟨fun _ _ q => q, fun fs q => ⟨fs, q, rfl⟩⟩
theorem jqt.arr {h : mj_H} {p t n : Nat} {f : Nat → Value} {e : mj_E} (h0 : h[p]? = some (.inl (t, n, f))) (ht : t ≠ 2) : jqt h (h.set p e) := jqt.set h0 (fun n f q => by cases q; exact absurd rfl ht) (fun fs q => by cases q)
theorem jqt.obj {h : mj_H} {p c i : Nat} {fs : List Value} {v : Value} (h0 : h[p]? = some (.inr (c, fs))) (hn : ¬ (c = 9 ∧ i = 15)) : jqt h (h.set p (.inr (c, fs.set i v))) := jqt.set h0 (fun n f q => by cases q) (fun fs q => by
  cases q
  exact ⟨_, rfl, List.getElem?_set_ne (fun q => hn ⟨rfl, q⟩)⟩)
def jQi (cl : Nat → Bool) (I : mj_I) : Bool := match I.1 with
  | .bastore => false
  | .putfield _ => !(decide (I.2.1 = 9) && decide (I.2.2.1 = 15))
  | .invokestatic _ => !decide (I.2.2.2.1 ≤ 1) || cl I.2.1
  | .invokevirtual _ => !decide (I.2.2.2.1 ≤ 1) || cl I.2.1
  | .invokespecial _ => !decide (I.2.2.2.1 ≤ 1) || cl I.2.1
  | _ => true
theorem jQi.call {cl : Nat → Bool} {ins : Instr} {r1 r2 r3 r4 r5 : Nat} (hq : jQi cl (ins, r1, r2, r3, r4, r5) = true) (hk : mj_kind ins r3 = 3) : cl r1 = true := by
  have key : ∀ ins : Instr, (mj_kind ins r3 = if r3 ≤ 1 then 3 else 4) → mj_kind ins r3 = 3 → r3 ≤ 1 := fun ins e k => by
    by_cases c : r3 ≤ 1
    · exact c
    · rw [if_neg c] at e
      rw [e] at k
      exact absurd k (by decide)
  cases ins
  case invokestatic n =>
    have c := key _ rfl hk
    simp only [jQi, c, decide_true, Bool.not_true, Bool.false_or] at hq
    exact hq
  case invokevirtual n =>
    have c := key _ rfl hk
    simp only [jQi, c, decide_true, Bool.not_true, Bool.false_or] at hq
    exact hq
  case invokespecial n =>
    have c := key _ rfl hk
    simp only [jQi, c, decide_true, Bool.not_true, Bool.false_or] at hq
    exact hq
  case new n =>
    exfalso
    simp only [mj_kind] at hk
    split at hk <;> exact absurd hk (by decide)
  all_goals exact absurd hk (by simp [mj_kind])
theorem mj_el_n2 {t c : Nat} (e : mj_el t = some c) : t ≠ 2 := by
  intro q
  subst q
  cases e
theorem jqt.step {cl : Nat → Bool} {ins : Instr} {r1 r2 r3 r4 r5 pc pc' : Nat} {loc loc' : mj_L} {st st' : List Value} {h h' : mj_H} (hq : jQi cl (ins, r1, r2, r3, r4, r5) = true) (hs : mj_step ins r1 r2 r3 mj_new pc loc st h = some (pc', loc', st', h')) : jqt h h' := by
  cases ins
  case bastore => cases hq
  case putfield n =>
    simp only [jQi, Bool.not_eq_true', Bool.and_eq_false_iff, decide_eq_false_iff_not] at hq
    simp only [mj_step] at hs
    repeat' split at hs
    all_goals (try (cases hs; done))
    rename_i hh
    cases hs
    refine jqt.obj (by assumption) (fun q => ?_)
    rcases hq with hq | hq
    · exact hq (hh.1 ▸ q.1)
    · exact hq q.2
  case iastore =>
    simp only [mj_step] at hs
    repeat' split at hs
    all_goals (try (cases hs; done))
    rename_i hh
    cases hs
    exact jqt.arr (by assumption) (by rw [hh.1]; decide)
  case lastore =>
    simp only [mj_step] at hs
    repeat' split at hs
    all_goals (try (cases hs; done))
    rename_i hh
    cases hs
    exact jqt.arr (by assumption) (by rw [hh.1]; decide)
  case aastore =>
    simp only [mj_step] at hs
    repeat' split at hs
    all_goals (try (cases hs; done))
    rename_i hh
    cases hs
    exact jqt.arr (by assumption) (mj_el_n2 hh.1)
  all_goals simp only [mj_step, Option.map_eq_some_iff] at hs
  all_goals (try (cases hs; done))
  all_goals (try (cases hs; exact jqt.rf))
  all_goals (try (obtain ⟨_, _, hs⟩ := hs; cases hs; exact jqt.rf))
  all_goals (repeat' split at hs)
  all_goals (try (cases hs; done))
  all_goals (try (cases hs; exact jqt.rf))
  all_goals (try (cases hs; exact jqt.app _))
theorem jqt.prim {r3 : Nat} {st st' : List Value} {h h' : mj_H} (hs : mj_prim r3 st h = some (st', h')) : jqt h h' := by
  unfold mj_prim at hs
  repeat' split at hs
  all_goals (try (cases hs; done))
  all_goals (try (cases hs; exact jqt.rf))
  rename_i t0 n0 f h0 _ t1 n1 g h1 hc
  cases hs
  have e0 := hc.2.1
  have e1 := hc.2.2.1
  subst e0
  exact jqt.arr h1 (by omega)
theorem jqt.loop {cl : Nat → Bool} {call : Nat → List Value → mj_H → Option mj_R} (hcall : ∀ j as h r, cl j = true → call j as h = some r → jqt h r.2) {M : mj_M} (hM : ∀ pc I, M.2.2.2.2.1 pc = some I → jQi cl I = true) : ∀ {F pc : Nat} {loc : mj_L} {st : List Value} {h : mj_H} {r : mj_R}, mj_loop call M F pc loc st h = some r → jqt h r.2
  | 0, _, _, _, _, _, hs => by cases hs
  | F + 1, pc, loc, st, h, r, hs => by
    unfold mj_loop at hs
    cases hcode : M.2.2.2.2.1 pc with
    | none => rw [hcode] at hs; cases hs
    | some I =>
      have hI := hM pc I hcode
      obtain ⟨ins, r1, r2, r3, r4, r5⟩ := I
      rw [hcode] at hs
      simp only at hs
      split at hs
      · split at hs
        · rename_i h1
          exact (jqt.step hI h1).tr (jqt.loop hcall hM hs)
        · cases hs
      · split at hs
        · cases hs
          exact jqt.rf
        · cases hs
      · split at hs
        · cases hs
          exact jqt.app _
        · cases hs
      · rename_i hk
        have hcl := jQi.call hI hk
        split at hs
        · split at hs
          · rename_i h1
            exact (hcall _ _ _ _ hcl h1).tr (jqt.loop hcall hM hs)
          · rename_i h1
            split at hs
            · cases hs
              exact hcall _ _ _ _ hcl h1
            · split at hs
              · split at hs
                · exact (hcall _ _ _ _ hcl h1).tr (jqt.loop hcall hM hs)
                · cases hs
              · cases hs
          · cases hs
        · cases hs
      · split at hs
        · rename_i h1
          exact (jqt.prim h1).tr (jqt.loop hcall hM hs)
        · cases hs
theorem jqt.run {cl : Nat → Bool} {P : List mj_M} (hP : ∀ j M, P[j]? = some M → cl j = true → ∀ pc I, M.2.2.2.2.1 pc = some I → jQi cl I = true) (F : Nat) : ∀ (D j : Nat) (as : List Value) (h : mj_H) (r : mj_R), cl j = true → mj_run P F D j as h = some r → jqt h r.2
  | 0, _, _, _, _, _, hs => by cases hs
  | D + 1, j, as, h, r, hc, hs => by
    simp only [mj_run] at hs
    split at hs
    · cases hs
    · rename_i M hM
      split at hs
      · exact jqt.loop (fun j as h r q => jqt.run hP F D j as h r q) (hP j M hM hc) hs
      · cases hs
