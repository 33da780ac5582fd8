/-! Arrays of ints hold no addresses: whatever runs, that stays. -/
def jNr (h : mj_H) : Prop := ∀ (a n : Nat) (f : Nat → Value), h[a]? = some (Sum.inl (0, n, f)) → ∀ (i : Nat) (k : Addr), f i ≠ Value.ref k
theorem jNr.set {h : mj_H} (q : jNr h) {a : Nat} {e : mj_E} (he : ∀ n f, e = .inl (0, n, f) → ∀ i k, f i ≠ .ref k) : jNr (h.set a e) := by
  intro b n f hb i k
  by_cases c : a = b
  · subst c
    have hl : a < h.length := by
      have := (List.getElem?_eq_some_iff.mp hb).1
      rwa [List.length_set] at this
    rw [List.getElem?_set_self hl] at hb
    cases hb
    exact he n f rfl i k
  · rw [List.getElem?_set_ne c] at hb
    exact q b n f hb i k
theorem jNr.app {h h2 : mj_H} (q : jNr h) (he : ∀ e ∈ h2, ∀ n f, e = .inl (0, n, f) → ∀ i k, f i ≠ .ref k) : jNr (h ++ h2) := by
  intro b n f hb i k
  by_cases c : b < h.length
  · rw [List.getElem?_append_left c] at hb
    exact q b n f hb i k
  · rw [List.getElem?_append_right (by omega)] at hb
    exact he _ (List.mem_of_getElem? hb) n f rfl i k
theorem jNr.new {h : mj_H} (q : jNr h) {e : mj_E} (he : ∀ n f, e = .inl (0, n, f) → ∀ i k, f i ≠ .ref k) : jNr (h ++ [e]) := q.app (fun e2 h2 => by
  rw [List.mem_singleton.mp h2]
  exact he)
theorem jNr.upd {h : mj_H} (q : jNr h) {a t n : Nat} {f : Nat → Value} (ha : h[a]? = some (.inl (t, n, f))) (i : Nat) {v : Value} (hv : ∀ k, v ≠ .ref k) : jNr (h.set a (.inl (t, n, updV f i v))) := q.set (fun n2 f2 e j k => by
  cases e
  unfold updV
  split
  · exact hv k
  · exact q a _ f ha j k)
theorem jNr.oth {h : mj_H} (q : jNr h) {a t n : Nat} {f : Nat → Value} (ht : t ≠ 0) : jNr (h.set a (.inl (t, n, f))) := q.set (fun n2 f2 e j k => by
  cases e
  exact absurd rfl ht)
theorem jNr.obj {h : mj_H} (q : jNr h) {a c : Nat} {fs : List Value} : jNr (h.set a (.inr (c, fs))) := q.set (fun n2 f2 e j k => by cases e)
theorem mj_df_nr (t k : Nat) : mj_df t ≠ .ref k := by
  unfold mj_df
  split <;> (intro h; cases h)
theorem jNr.newc {h : mj_H} (q : jNr h) {t n : Nat} {v : Value} (hv : ∀ k, v ≠ .ref k) : jNr (h ++ [.inl (t, n, fun _ => v)]) := q.new (fun _ _ e i k => by
  cases e
  exact hv k)
theorem jNr.newo {h : mj_H} (q : jNr h) {c : Nat} {fs : List Value} : jNr (h ++ [.inr (c, fs)]) := q.new (fun _ _ e i k => by cases e)
theorem jNr.rows {h : mj_H} (q : jNr h) {n m k : Nat} {f : Nat → Value} : jNr (h ++ .inl (6, n, f) :: mj_rows m k 0) := q.app (fun e he n2 f2 e2 i j => by
  rcases List.mem_cons.mp he with c | c
  · rw [c] at e2
    cases e2
  · unfold mj_rows at c
    obtain ⟨_, _, c⟩ := List.mem_map.mp c
    rw [← c] at e2
    cases e2)
theorem mj_el_nr {t c : Nat} (e : mj_el t = some c) : t ≠ 0 := by
  intro q
  subst q
  cases e
theorem jNr.step {ins : Instr} {r1 r2 r3 pc pc' : Nat} {loc loc' : mj_L} {st st' : List Value} {h h' : mj_H} (q : jNr h) (hs : mj_step ins r1 r2 r3 mj_new pc loc st h = some (pc', loc', st', h')) : jNr h' := by
  cases ins
  all_goals simp only [mj_step, Option.map_eq_some_iff] at hs
  all_goals (try (cases hs; done))
  all_goals (try (cases hs; exact q))
  all_goals (try (obtain ⟨_, _, hs⟩ := hs; cases hs; exact q))
  all_goals (repeat' split at hs)
  all_goals (try (cases hs; done))
  all_goals (try (cases hs; exact q))
  all_goals (try (cases hs; exact q.obj))
  all_goals (try (cases hs; exact q.newo))
  all_goals (try (cases hs; exact q.rows))
  all_goals (try (cases hs; exact q.newc (fun k => mj_df_nr _ k)))
  all_goals (try (cases hs; exact q.newc (fun _ e => Value.noConfusion e)))
  all_goals (try (cases hs; exact q.upd (by assumption) _ (fun _ e => Value.noConfusion e)))
  all_goals (try (rename_i hh; cases hs; exact q.oth (mj_el_nr hh.1)))
