/-! When two descriptions of what is kept say the same. -/
/-- the same rows, and the same points as far as there are some -/
def eqB (N N' : Nat → Int) : Prop := (∀ j, j < 78 → N j = N' j) ∧ N 78 = N' 78 ∧ ∀ k : Nat, (k : Int) < N 78 → N (79 + k) = N' (79 + k) ∧ N (85 + k) = N' (85 + k)
theorem eqB.rf (N : Nat → Int) : eqB N N := ⟨fun _ _ => rfl, rfl, fun _ _ => ⟨rfl, rfl⟩⟩
theorem eqB.sy {N N' : Nat → Int} (h : eqB N N') : eqB N' N := ⟨fun j hj => (h.1 j hj).symm, h.2.1.symm, fun k hk => ⟨(h.2.2 k (by rw [h.2.1]; exact hk)).1.symm, (h.2.2 k (by rw [h.2.1]; exact hk)).2.symm⟩⟩
theorem eqB.of {N N' : Nat → Int} (h : ∀ j, j < 91 → N j = N' j) (hn : N 78 ≤ 6) : eqB N N' := ⟨fun j hj => h j (by omega), h 78 (by decide), fun k hk => ⟨h _ (by omega), h _ (by omega)⟩⟩
theorem BN.cgN {X : Nat → Nat → Int} {o : Nat} {N N' : Nat → Int} (h : eqB N N') (q : BN X o N) : BN X o N' := by
  refine ⟨fun r hr j hj => (q.1 r hr j hj).trans (h.1 _ (by omega)), q.2.1.trans h.2.1, fun k hk => ?_⟩
  have y := h.2.2 k (by rw [h.2.1]; exact hk)
  have z := q.2.2 k (by rw [h.2.1]; exact hk)
  exact ⟨z.1.trans y.1, z.2.trans y.2⟩
theorem CR.cgN {X : Nat → Nat → Int} {N N' : Nat → Int} {u : Nat} {H H' : Nat → Nat → Int} (h : eqB N N') (hh : ∀ k, k < u → eqB (H k) (H' k)) (c : CR X N u H) : CR X N' u H' := by
  obtain ⟨e, he, h3, h2, b, bh, tl⟩ := c
  exact ⟨e, he, h3, h2, b.cgN h, fun k hk => (bh k hk).cgN (hh k hk), tl⟩
theorem cS.cgN {g h : mj_H} {n u : Nat} {N N' : Nat → Int} {H H' : Nat → Nat → Int} (e : eqB N N') (hh : ∀ k, k < u → eqB (H k) (H' k)) (s : cS g n N u H h) : cS g n N' u H' h := by
  obtain ⟨V, X, m, b, d, c⟩ := s
  exact ⟨V, X, m, b, d, c.cgN e hh⟩
/-- a row that is the same on its places -/
theorem eqB.row {N : Nat → Int} {r : Nat} (hr : r ≤ 5) {w w' : Nat → Int} (h : ∀ j, j < 13 → w j = w' j) : eqB (jfl N r w 13) (jfl N r w' 13) := by
  refine ⟨fun j hj => ?_, ?_, fun k hk => ⟨?_, ?_⟩⟩
  · unfold jfl
    split
    · exact h _ (by omega)
    · rfl
  · rw [jfl_off _ _ _ (by omega), jfl_off _ _ _ (by omega)]
  · rw [jfl_off _ _ _ (by omega), jfl_off _ _ _ (by omega)]
  · rw [jfl_off _ _ _ (by omega), jfl_off _ _ _ (by omega)]
theorem pushH_cg {N N' : Nat → Int} {H H' : Nat → Nat → Int} {u : Nat} (h : eqB N N') (hh : ∀ k, k < u → eqB (H k) (H' k)) : ∀ k, k < u + 1 → eqB (pushH N H k) (pushH N' H' k) := fun k hk => by
  cases k with
  | zero => exact h
  | succ k => exact hh k (by omega)
