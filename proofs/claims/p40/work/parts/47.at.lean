/-! A contract over a small heap, used where its cells lie in a greater one. -/
def jrho (is : List Nat) (m i : Nat) : Nat := match is[i]? with
  | some p => p
  | none => m + (i - is.length)
theorem jrho_out {is : List Nat} {m i : Nat} (h : is.length ≤ i) : jrho is m i + is.length = m + i := by
  unfold jrho
  rw [List.getElem?_eq_none_iff.mpr h]
  simp only
  omega
theorem jrho_in {is : List Nat} {m i p : Nat} (h : is[i]? = some p) : jrho is m i = p := by
  unfold jrho
  rw [h]
theorem jrho_inj {is : List Nat} {m : Nat} (hn : is.Nodup) (hl : ∀ p ∈ is, p < m) : ∀ i j, jrho is m i = jrho is m j → i = j := by
  intro i j h
  cases hi : is[i]? with
  | none =>
    have h1 := jrho_out (m := m) (List.getElem?_eq_none_iff.mp hi)
    have h1l := List.getElem?_eq_none_iff.mp hi
    cases hj : is[j]? with
    | none =>
      have h2 := jrho_out (m := m) (List.getElem?_eq_none_iff.mp hj)
      omega
    | some q =>
      have h2 := jrho_in (m := m) hj
      have h3 := hl q (List.mem_of_getElem? hj)
      omega
  | some p =>
    have h1 := jrho_in (m := m) hi
    have h1l := hl p (List.mem_of_getElem? hi)
    cases hj : is[j]? with
    | none =>
      have h2 := jrho_out (m := m) (List.getElem?_eq_none_iff.mp hj)
      have h3 := List.getElem?_eq_none_iff.mp hj
      omega
    | some q =>
      have h2 := jrho_in (m := m) hj
      have e : p = q := by omega
      subst e
      have hi2 := (List.getElem?_eq_some_iff.mp hi)
      have hj2 := (List.getElem?_eq_some_iff.mp hj)
      obtain ⟨a, ha⟩ := hi2
      obtain ⟨b, hb⟩ := hj2
      have hpw := List.pairwise_iff_getElem.mp hn
      rcases Nat.lt_trichotomy i j with h5 | h5 | h5
      · exact absurd (ha.trans hb.symm) (hpw i j a b h5)
      · exact h5
      · exact absurd (hb.trans ha.symm) (hpw j i b a h5)
/-- cells laid at their places -/
def jlay (f : mj_E → mj_E) : List Nat → mj_H → mj_H → mj_H
  | p :: is, e :: K, h => jlay f is K (h.set p (f e))
  | _, _, h => h
theorem jlay_len (f : mj_E → mj_E) : ∀ (is : List Nat) (K h : mj_H), (jlay f is K h).length = h.length
  | [], _, _ => by simp [jlay]
  | _ :: _, [], _ => by simp [jlay]
  | p :: is, e :: K, h => by
    simp only [jlay]
    rw [jlay_len f is K, List.length_set]
theorem jlay_out (f : mj_E → mj_E) : ∀ (is : List Nat) (K h : mj_H) (q : Nat), q ∉ is → (jlay f is K h)[q]? = h[q]?
  | [], _, _, _, _ => by simp [jlay]
  | _ :: _, [], _, _, _ => by simp [jlay]
  | p :: is, e :: K, h, q, hq => by
    simp only [jlay]
    rw [jlay_out f is K _ q (fun x => hq (List.mem_cons_of_mem _ x)), List.getElem?_set_ne (fun x => hq (by rw [← x]; exact List.mem_cons_self))]
theorem jlay_in (f : mj_E → mj_E) : ∀ (is : List Nat) (K h : mj_H) (i p : Nat) (e : mj_E), is.Nodup → (∀ p ∈ is, p < h.length) → is[i]? = some p → K[i]? = some e → (jlay f is K h)[p]? = some (f e)
  | [], _, _, _, _, _, _, _, h, _ => by simp at h
  | _ :: _, [], _, _, _, _, _, _, _, h => by simp at h
  | p :: is, e :: K, h, 0, q, x, hn, hl, hp, he => by
    simp only [List.getElem?_cons_zero, Option.some.injEq] at hp he
    subst hp
    subst he
    simp only [jlay]
    rw [jlay_out f is K _ p (List.nodup_cons.mp hn).1, List.getElem?_set_self (hl p List.mem_cons_self)]
  | p :: is, e :: K, h, i + 1, q, x, hn, hl, hp, he => by
    simp only [List.getElem?_cons_succ] at hp he
    simp only [jlay]
    exact jlay_in f is K _ i q x (List.nodup_cons.mp hn).2 (fun y hy => by rw [List.length_set]; exact hl y (List.mem_cons_of_mem _ hy)) hp he
/-- the contract, elsewhere: where no cell is made -/
theorem mj_Ok.at {D j : Nat} {as : List Value} {K : mj_H} {Q : mj_R → Prop} (c : mj_Ok D j as K Q) (is : List Nat) {h : mj_H} (hlen : is.length = K.length) (hnd : is.Nodup) (hlt : ∀ p ∈ is, p < h.length) (hc : ∀ (i p : Nat) (e : mj_E), is[i]? = some p → K[i]? = some e → h[p]? = some (mj_rE (jrho is h.length) e)) (hK : ∀ r, Q r → r.2.length = K.length) :
    mj_Ok D j (as.map (mj_rn (jrho is h.length))) h (fun r => ∃ r0 K', Q (r0, K') ∧ r = (mj_rR (jrho is h.length) r0, jlay (mj_rE (jrho is h.length)) is K' h)) := by
  obtain ⟨F, r, h1, h2⟩ := c
  have he : mj_em (jrho is h.length) is.length h.length K h := by
    refine ⟨by omega, by omega, fun k e hk => ?_⟩
    have hkl := (List.getElem?_eq_some_iff.mp hk).1
    have hp : is[k]? = some (is[k]'(by omega)) := List.getElem?_eq_getElem (by omega)
    rw [jrho_in hp]
    exact hc k _ e hp hk
  obtain ⟨h', g1, g2, g3⟩ := mj_ren_run (ρ := jrho is h.length) (fun k hk => jrho_out hk) (jrho_inj hnd hlt) mj_P F D j as K h r h1 he
  refine ⟨F, _, g1, r.1, r.2, h2, ?_⟩
  have hl := hK r h2
  congr 1
  have hlen' : h'.length = h.length := by have := g2.2.1; omega
  apply List.ext_getElem?
  intro q
  by_cases hq : q ∈ is
  · obtain ⟨i, hi⟩ := List.getElem?_of_mem hq
    have hil := (List.getElem?_eq_some_iff.mp hi).1
    have hk : r.2[i]? = some (r.2[i]'(by omega)) := List.getElem?_eq_getElem (by omega)
    rw [jlay_in _ is r.2 h i q _ hnd hlt hi hk, ← jrho_in (m := h.length) hi]
    exact g2.2.2 i _ hk
  · rw [jlay_out _ is r.2 h q hq]
    by_cases hql : q < h.length
    · refine g3 q hql (fun k hk e => hq ?_)
      have hp : is[k]? = some (is[k]'hk) := List.getElem?_eq_getElem hk
      rw [jrho_in hp] at e
      rw [← e]
      exact List.getElem_mem hk
    · rw [List.getElem?_eq_none_iff.mpr (by omega), List.getElem?_eq_none_iff.mpr (by omega)]
