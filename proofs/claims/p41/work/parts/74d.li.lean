/-! What holds in the law's heap between two calls. -/
section JLI
variable {K L : Nat → Nat} {R : Nat → Nat → Nat} {q m n : Nat} {tm er : Int} {T : Nat → Int} {h h' hr : mj_H}
/-- where the reference lies: not among the class's cells, nor where answers are put -/
def jPl (K : Nat → Nat) (q m : Nat) : Prop := ∀ i, i < 8 → K (m + i) = 0 ∧ m + i ≠ q
theorem jEm.frame (E : jEm m hr h) (hm : jPl K q m) (f : jLf K q h h') (hl : h.length ≤ h'.length) : jEm m hr h' := by
  obtain ⟨e1, e2, e3, e4⟩ := E
  refine ⟨e1, e2, by omega, fun i e hi => ?_⟩
  have hi8 : i < 8 := by
    have := (List.getElem?_eq_some_iff.mp hi).1
    rw [e1.1] at this
    exact this
  rw [f (m + i) (hm i hi8).1 (hm i hi8).2 (by omega)]
  exact e4 i e hi
theorem jLw.frame (w : jLw K L R q n tm h) (hm : jPl K q m) (hlen : h'.length = h.length) (hf : ∀ a : Nat, a < h.length → (a < m ∨ m + 8 ≤ a) → h'[a]? = h[a]?) : jLw K L R q n tm h' := by
  have hout : ∀ a : Nat, K a ≠ 0 ∨ a = q → (a < m ∨ m + 8 ≤ a) := fun a ha => by
    rcases Nat.lt_or_ge a m with c | c
    · exact Or.inl c
    · rcases Nat.lt_or_ge a (m + 8) with d | d
      · have := hm (a - m) (by omega)
        rw [show m + (a - m) = a by omega] at this
        rcases ha with ha | ha
        · exact absurd this.1 ha
        · exact absurd ha this.2
      · exact Or.inr d
  obtain ⟨o, kq, f, hq⟩ := w
  have hql := (List.getElem?_eq_some_iff.mp hq).1
  refine ⟨?_, kq, f, by rw [hf q hql (hout q (Or.inr rfl))]; exact hq⟩
  have := o.keep (h' := h') (fun a ha => by
    obtain ⟨e, h1, _⟩ := o.2.2.2 a ha
    exact hf a (List.getElem?_eq_some_iff.mp h1).1 (hout a (Or.inl ha)))
  rw [hlen, o.1] at this
  exact this
/-- both sides, with the same length of the text -/
def jLi (K L : Nat → Nat) (R : Nat → Nat → Nat) (q m n : Nat) (tm er : Int) (T : Nat → Int) (h : mj_H) : Prop := jLw K L R q n tm h ∧ ∃ hr, jEm m hr h ∧ jI tm er T hr
/-- the class's text may have got another length -/
def jLc (K L : Nat → Nat) (R : Nat → Nat → Nat) (q m n : Nat) (tc tm er : Int) (T : Nat → Int) (h : mj_H) : Prop := jLw K L R q n tc h ∧ ∃ hr, jEm m hr h ∧ jI tm er T hr
theorem jLi.cls {n' : Nat} {tc : Int} (I : jLi K L R q m n tm er T h) (hm : jPl K q m) (w : jLw K L R q n' tc h') (hn : n ≤ n') (f : jLf K q h h') : jLc K L R q m n' tc tm er T h' := by
  obtain ⟨w0, hr, E, hI⟩ := I
  exact ⟨w, hr, E.frame hm f (by rw [w0.1.1, w.1.1]; exact hn), hI⟩
/-- a call of the reference, in the law's heap -/
theorem jLc.call {D j : Nat} {as as2 : List Value} {tc : Int} (I : jLc K L R q m n tc tm er T h) (hm : jPl K q m) {Q : mj_R → Prop} (c : ∀ hr, jI tm er T hr → mj_Ok D j as hr Q) (hQ : ∀ r, Q r → ∃ tm' er' T', jI tm' er' T' r.2) (has : ∀ N, as.map (mj_rn (jro m N)) = as2) : mj_Ok D j as2 h (fun r => ∃ r0 hr', Q (r0, hr') ∧ r.1 = mj_rR (jro m h.length) r0 ∧ jLw K L R q n tc r.2 ∧ jEm m hr' r.2) := by
  obtain ⟨w, hr, E, hI⟩ := I
  have := E.run (c hr hI) (fun r h2 h3 => by
    obtain ⟨_, _, _, hi⟩ := hQ r h2
    exact jI_s8 hi h3)
  rw [has] at this
  exact this.to (fun r ⟨r0, hr', a, b, d, e, f⟩ => ⟨r0, hr', a, b, w.frame hm e f, d⟩)
/-- a call of the reference that answers an int -/
theorem jLc.callI {D j : Nat} {as as2 : List Value} {tc tm' er' : Int} {T' : Nat → Int} (I : jLc K L R q m n tc tm er T h) (hm : jPl K q m) (c : ∀ hr, jI tm er T hr → mj_Ok D j as hr (rI tm' er' T')) (has : ∀ N, as.map (mj_rn (jro m N)) = as2) : mj_Ok D j as2 h (fun r => ∃ z : Int, r.1 = .inl (some (.int (jn z))) ∧ jLc K L R q m n tc tm' er' T' r.2) := by
  refine (I.call hm c (fun r hr => ?_) has).to (fun r ⟨r0, hr', a, b, d, e⟩ => ?_)
  · obtain ⟨z, h2, _, rfl, k⟩ := hr
    exact ⟨_, _, _, k⟩
  · obtain ⟨z, h2, _, e2, k⟩ := a
    cases e2
    exact ⟨z, b, d, hr', e, k⟩
theorem jLc.callJ {D j : Nat} {as as2 : List Value} {tc tm' er' : Int} {T' : Nat → Int} (I : jLc K L R q m n tc tm er T h) (hm : jPl K q m) (c : ∀ hr, jI tm er T hr → mj_Ok D j as hr (rJ tm' er' T')) (has : ∀ N, as.map (mj_rn (jro m N)) = as2) : mj_Ok D j as2 h (fun r => ∃ z : Int, r.1 = .inl (some (.long (jl z))) ∧ jLc K L R q m n tc tm' er' T' r.2) := by
  refine (I.call hm c (fun r hr => ?_) has).to (fun r ⟨r0, hr', a, b, d, e⟩ => ?_)
  · obtain ⟨z, h2, rfl, k⟩ := hr
    exact ⟨_, _, _, k⟩
  · obtain ⟨z, h2, e2, k⟩ := a
    cases e2
    exact ⟨z, b, d, hr', e, k⟩
end JLI
