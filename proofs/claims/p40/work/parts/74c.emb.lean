/-! The reference in the law's heap: its eight cells from place m on. -/
theorem mj_rE_nr (ρ : Nat → Nat) {t n : Nat} {f : Nat → Value} (q : ∀ (i : Nat) (k : Addr), f i ≠ Value.ref k) : mj_rE ρ (.inl (t, n, f)) = .inl (t, n, f) := by
  have e : (fun j => mj_rn ρ (f j)) = f := funext fun j => by
    cases c : f j with
    | ref k => exact absurd c (q j k)
    | _ => rfl
  show Sum.inl (t, n, fun j => mj_rn ρ (f j)) = _
  rw [e]
/-- what the cells hold are addresses below 8 -/
def jS8 (hr : mj_H) : Prop := hr.length = 8 ∧ ∀ (i : Nat) (e : mj_E), hr[i]? = some e → ∀ ρ σ : Nat → Nat, (∀ k, k < 8 → ρ k = σ k) → mj_rE ρ e = mj_rE σ e
theorem jI_s8 {tm er : Int} {T : Nat → Int} {hr : mj_H} (hI : jI tm er T hr) (q : jNr hr) : jS8 hr := by
  obtain ⟨S, N, B, X, V, hs, K⟩ := hI
  have hl : hr.length = 8 := jS_len (rG S N B T X) hs
  have hz : ∀ p, (p = 3 ∨ p = 4 ∨ p = 5) → ∃ (n : Nat) (f : Nat → Value), hr[p]? = some (Sum.inl (0, n, f)) := by
    obtain ⟨bg, ov, db, _, rfl⟩ := hs
    intro p hp
    rcases hp with c | c | c
    · subst c; exact ⟨_, _, rfl⟩
    · subst c; exact ⟨_, _, rfl⟩
    · subst c; exact ⟨_, _, rfl⟩
  refine ⟨hl, fun i e hi ρ σ hρ => ?_⟩
  have hi8 : i < 8 := by
    have := (List.getElem?_eq_some_iff.mp hi).1
    omega
  have hL : ∀ (g : Nat → Int64) (n : Nat), mj_rE ρ (.inl (1, n, fun j => .long (g j))) = mj_rE σ (.inl (1, n, fun j => .long (g j))) := fun g n => by
    rw [mj_rE_nr ρ (fun _ _ c => Value.noConfusion c), mj_rE_nr σ (fun _ _ c => Value.noConfusion c)]
  have h0 : ∀ {n : Nat} {f : Nat → Value}, hr[i]? = some (Sum.inl (0, n, f)) → mj_rE ρ e = mj_rE σ e := fun {n f} h => by
    rw [hi] at h
    cases h
    rw [mj_rE_nr ρ (q i n f hi), mj_rE_nr σ (q i n f hi)]
  have hc : i = 0 ∨ i = 1 ∨ i = 2 ∨ (i = 3 ∨ i = 4 ∨ i = 5) ∨ i = 6 ∨ i = 7 := by omega
  rcases hc with c | c | c | c | c | c
  · subst c
    rw [rS_f hs] at hi
    cases hi
    simp only [mj_rE, rF, List.map, mj_rn, hρ 1 (by decide), hρ 2 (by decide), hρ 3 (by decide), hρ 4 (by decide), hρ 5 (by decide), hρ 6 (by decide), hρ 7 (by decide)]
  · subst c
    rw [rS_N hs] at hi
    cases hi
    exact hL _ _
  · subst c
    rw [rS_B hs] at hi
    cases hi
    exact hL _ _
  · obtain ⟨n, f, h⟩ := hz i c
    exact h0 h
  · subst c
    exact h0 (rS_T hs)
  · subst c
    exact h0 (rS_X hs)
def jEm (m : Nat) (hr h : mj_H) : Prop := jS8 hr ∧ jNr hr ∧ m + 8 ≤ h.length ∧ ∀ (i : Nat) (e : mj_E), hr[i]? = some e → h[m + i]? = some (mj_rE (fun k => m + k) e)
def jro (m N k : Nat) : Nat := if k < 8 then m + k else N + (k - 8)
theorem jEm.run {m D j : Nat} {as : List Value} {hr h : mj_H} {Q : mj_R → Prop} (E : jEm m hr h) (c : mj_Ok D j as hr Q) (hQ : ∀ r, Q r → jNr r.2 → jS8 r.2) : mj_Ok D j (as.map (mj_rn (jro m h.length))) h (fun r => ∃ r0 hr', Q (r0, hr') ∧ r.1 = mj_rR (jro m h.length) r0 ∧ jEm m hr' r.2 ∧ r.2.length = h.length ∧ ∀ a : Nat, a < h.length → (a < m ∨ m + 8 ≤ a) → r.2[a]? = h[a]?) := by
  obtain ⟨e1, e2, e3, e4⟩ := E
  obtain ⟨F, r, h1, h2, h3⟩ := c.nr e2
  have hr8 : ∀ k, k < 8 → jro m h.length k = m + k := fun k hk => if_pos hk
  have hE : ∀ {hr' : mj_H}, jS8 hr' → ∀ (i : Nat) (e : mj_E), hr'[i]? = some e → mj_rE (jro m h.length) e = mj_rE (fun k => m + k) e := fun s i e hi => s.2 i e hi _ _ hr8
  have he : mj_em (jro m h.length) 8 h.length hr h := by
    refine ⟨by rw [e1.1]; exact Nat.le_refl _, by rw [e1.1]; omega, fun k e hk => ?_⟩
    have hk8 : k < 8 := by
      have := (List.getElem?_eq_some_iff.mp hk).1
      rw [e1.1] at this
      exact this
    rw [hr8 k hk8, hE e1 k e hk]
    exact e4 k e hk
  obtain ⟨h', g1, g2, g3⟩ := mj_ren_run (ρ := jro m h.length) (n := 8) (m := h.length) (fun k hk => by unfold jro; rw [if_neg (by omega)]; omega) (fun i j hij => by
    unfold jro at hij
    split at hij <;> split at hij <;> omega) mj_P F D j as hr h r h1 he
  have s8 := hQ r h2 h3
  have hlen : h'.length = h.length := by have := g2.2.1; rw [s8.1] at this; omega
  refine ⟨F, _, g1, r.1, r.2, h2, rfl, ⟨s8, h3, by rw [hlen]; exact e3, fun i e hi => ?_⟩, hlen, fun a ha ha2 => g3 a ha (fun k hk hka => ?_)⟩
  · have hi8 : i < 8 := by
      have := (List.getElem?_eq_some_iff.mp hi).1
      rw [s8.1] at this
      exact this
    have := g2.2.2 i e hi
    rw [hr8 i hi8, hE s8 i e hi] at this
    exact this
  · rw [hr8 k hk] at hka
    omega
