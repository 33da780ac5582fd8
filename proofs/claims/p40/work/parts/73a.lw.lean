/-! The law's heap: the class's cells by kinds, the law's own cell for answers; what the law's small methods do. -/
/-- the cells behind q are what exceptions left -/
def jXc (q : Nat) (h : mj_H) : Prop := ∀ a, q < a → a < h.length → h[a]? = some (.inr (99, [.null, .null, .null, .null, .null, .null]))
/-- q is the law's cell for answers -/
def jLw (K L : Nat → Nat) (R : Nat → Nat → Nat) (q n : Nat) (tm : Int) (h : mj_H) : Prop := jO K L R h n tm h ∧ (K q = 0 ∧ jXc q h) ∧ ∃ f : Nat → Value, h[q]? = some (.inl (1, 1, f))
/-- the other cells are as before -/
def jLf (K : Nat → Nat) (q : Nat) (h h' : mj_H) : Prop := ∀ a, K a = 0 → a ≠ q → a < h.length → h'[a]? = h[a]?
def jWr (K L : Nat → Nat) (R : Nat → Nat → Nat) (q n : Nat) (tm : Int) (h : mj_H) (r : mj_R) : Prop := ∃ k : Int, r.1 = .inl (some (.int (jn k))) ∧ (∃ n', n ≤ n' ∧ n' ≤ n + 1 ∧ jLw K L R q n' tm r.2) ∧ jLf K q h r.2
section JLW
variable {D pc : Nat} {M : mj_M} {loc : mj_L} {st : List Value} {h h' g : mj_H} {Q : mj_R → Prop} {r1 r2 r3 r4 r5 : Nat}
variable {K L : Nat → Nat} {R : Nat → Nat → Nat} {q n : Nat} {tm tm' : Int}
theorem jO.self (o : jO K L R g n tm h) : jO K L R h n tm h := ⟨o.1, o.2.1, fun _ _ => ⟨fun _ => rfl, fun a b => absurd (o.1 ▸ a) (by have := o.1; omega)⟩, o.2.2.2⟩
theorem jO.keep (o : jO K L R g n tm h) (hk : ∀ a, K a ≠ 0 → h'[a]? = h[a]?) : jO K L R h' h'.length tm h' := ⟨rfl, o.2.1, fun _ _ => ⟨fun _ => rfl, fun a b => absurd a (by omega)⟩, fun a ha => by rw [hk a ha]; exact o.2.2.2 a ha⟩
theorem jXc.k {a : Nat} (x : jXc q h) (o : jO K L R g n tm h) (ha : q < a) : K a = 0 := by
  by_cases c : K a = 0
  · exact c
  · obtain ⟨e, h1, h2⟩ := o.2.2.2 a c
    rw [x a ha (List.getElem?_eq_some_iff.mp h1).1] at h1
    cases h1
    unfold jCf at h2
    split at h2
    · obtain ⟨f, h3, _⟩ := h2
      cases h3
    · obtain ⟨fs, h3, h4, _⟩ := h2
      injection h3 with h3
      injection h3 with h5 h6
      subst h6
      have h7 : K a = 109 := by
        unfold jkc at h5
        split at h5 <;> omega
      rw [h7] at h4
      exact absurd h4 (by decide)
theorem jLw.thr {m : Nat} (w : jLw K L R q n tm h) (o : jO K L R h m tm' h') : jLw K L R q m tm' h' := by
  refine ⟨o.self, ⟨w.2.1.1, fun a ha hl => ?_⟩, ?_⟩
  · have ka := w.2.1.2.k w.1 ha
    by_cases c : a < h.length
    · rw [(o.2.2.1 a ka).1 c]
      exact w.2.1.2 a ha c
    · exact (o.2.2.1 a ka).2 (by omega) (by rw [← o.1]; exact hl)
  obtain ⟨f, hf⟩ := w.2.2
  exact ⟨f, by rw [(o.2.2.1 q w.2.1.1).1 (List.getElem?_eq_some_iff.mp hf).1]; exact hf⟩
theorem jLf.of {m : Nat} (o : jO K L R h m tm' h') : jLf K q h h' := fun a ha _ hl => (o.2.2.1 a ha).1 hl
theorem jW.last {x : Int64} {m : Nat} (w : jLw K L R q n tm h) (o : jO K L R h m tm' h') (hc : M.2.2.2.2.1 pc = some (.lastore, r1, r2, r3, r4, r5)) (k : ∀ h'', jLw K L R q m tm' h'' → jLf K q h h'' → (h''[q]? = some (.inl (1, 1, fun _ => .long x)) ∨ ∃ f : Nat → Value, f 0 = .long x ∧ h''[q]? = some (.inl (1, 1, f))) → mj_T D M (pc + 1) loc st h'' Q) : mj_T D M pc loc (.long x :: .int (jn 0) :: .ref q :: st) h' Q := by
  obtain ⟨_, kq, f, hf⟩ := w.thr o
  have hl := (List.getElem?_eq_some_iff.mp hf).1
  refine mj_T.step hc rfl (pc' := pc + 1) (loc' := loc) (st' := st) (h' := h'.set q (.inl (1, 1, updV f 0 (.long x)))) ?_ (k _ ?_ ?_ ?_)
  · simp only [mj_step, hf]
    rfl
  · refine ⟨?_, ⟨kq.1, fun a ha hl2 => by rw [List.getElem?_set_ne (by omega)]; exact kq.2 a ha (by rw [List.length_set] at hl2; exact hl2)⟩, ⟨_, List.getElem?_set_self hl⟩⟩
    have := o.keep (h' := h'.set q (.inl (1, 1, updV f 0 (.long x)))) (fun a ha => by rw [List.getElem?_set_ne (by intro e; rw [← e] at ha; exact ha kq.1)])
    rw [List.length_set, o.1] at this
    exact this
  · intro a ha hne hl2
    rw [List.getElem?_set_ne (fun e => hne e.symm)]
    exact (o.2.2.1 a ha).1 hl2
  · exact Or.inr ⟨_, rfl, List.getElem?_set_self hl⟩
theorem jQp.toQ {A : List Nat} {V : Option Value → Prop} {r : mj_R} (o : jO K L R g n tm h) (k : jQp K L R g n tm h A V r) : jQ K L R g n tm A V r := by
  obtain ⟨r1, r2⟩ := r
  cases r1 with
  | inl v =>
    obtain ⟨k1, k2⟩ := k
    have k2 : r2 = h := k2
    subst k2
    exact ⟨k1, o⟩
  | inr i => exact k
end JLW
