/-! The reference: one object, seven arrays; its numbers lie in slots of 702 places of the array 'big'. -/
abbrev jMo (t : Nat → Value) : List Value := [.ref 1, .ref 2, t 2, t 3, .ref 3, .ref 4, .ref 5, t 7, .ref 6, t 9, t 10, t 11, t 12, t 13, .ref 7, t 15]
abbrev jHM (t : Nat → Value) (nw bf : Nat → Int64) (bg ov db tx wr : Nat → Int32) : mj_H := [.inr (10, jMo t), .inl (1, 91, fun j => .long (nw j)), .inl (1, 728, fun j => .long (bf j)), .inl (0, 466830, fun j => .int (bg j)), .inl (0, 1404, fun j => .int (ov j)), .inl (0, 702, fun j => .int (db j)), .inl (0, 200, fun j => .int (tx j)), .inl (0, 600, fun j => .int (wr j))]
/-- slot s holds v -/
def jrs (bg : Nat → Int32) (s : Nat) (v : Int) : Prop := bg (s * 702) = jn (jsg v) ∧ bg (s * 702 + 1) = jn (jnl v.natAbs) ∧ (∀ j, j < jnl v.natAbs → bg (s * 702 + 2 + j) = jn (jlb v.natAbs j)) ∧ jnl v.natAbs ≤ 700
/-- but for slot s all is as it was -/
def jrf (bg bg' : Nat → Int32) (s : Nat) : Prop := ∀ j, (j < s * 702 ∨ s * 702 + 702 ≤ j) → bg' j = bg j
theorem jrs_keep {bg bg' : Nat → Int32} {s s' : Nat} {v : Int} (h : jrs bg s' v) (hf : jrf bg bg' s) (hs : s' ≠ s) : jrs bg' s' v := by
  obtain ⟨h1, h2, h3, h4⟩ := h
  have hlt : s' < s ∨ s < s' := by omega
  refine ⟨(hf _ (by omega)).trans h1, (hf _ (by omega)).trans h2, fun j hj => (hf _ (by omega)).trans (h3 j hj), h4⟩
section MJR
variable {D : Nat} {t : Nat → Value} {nw bf : Nat → Int64} {bg ov db tx wr : Nat → Int32}
theorem jr_sign {s : Nat} {v : Int} (hs : s < 665) (h : jrs bg s v) : mj_Ok (D + 1) 178 [.ref 0, .int (jn s)] (jHM t nw bf bg ov db tx wr) (fun r => r = (.inl (some (.int (jn (jsg v)))), jHM t nw bf bg ov db tx wr)) := by
  refine mj_Ok.of (M := mj_m178) rfl rfl rfl ?_
  iterate 4 refine mj_T.pl rfl rfl rfl rfl ?_
  refine mj_T.imul (b := 702) rfl ?_
  rw [show (s : Int) * 702 = ((s * 702 : Nat) : Int) by omega]
  refine mj_T.ialv rfl rfl ⟨by omega, by omega⟩ ⟨by omega, by omega⟩ h.1 ?_
  exact mj_T.ret rfl rfl rfl rfl
theorem jr_length {s : Nat} {v : Int} (hs : s < 665) (h : jrs bg s v) : mj_Ok (D + 1) 179 [.ref 0, .int (jn s)] (jHM t nw bf bg ov db tx wr) (fun r => r = (.inl (some (.int (jn (jnl v.natAbs)))), jHM t nw bf bg ov db tx wr)) := by
  refine mj_Ok.of (M := mj_m179) rfl rfl rfl ?_
  iterate 4 refine mj_T.pl rfl rfl rfl rfl ?_
  refine mj_T.imul (b := 702) rfl ?_
  refine mj_T.pl rfl rfl rfl rfl ?_
  refine mj_T.iadd (b := 1) rfl ?_
  rw [show (s : Int) * 702 + 1 = ((s * 702 + 1 : Nat) : Int) by omega]
  refine mj_T.ialv rfl rfl ⟨by omega, by omega⟩ ⟨by omega, by omega⟩ h.2.1 ?_
  exact mj_T.ret rfl rfl rfl rfl
end MJR
