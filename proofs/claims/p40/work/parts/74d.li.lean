/-! What holds in the law's heap between two calls. -/
section JLI
variable {K L : Nat → Nat} {R : Nat → Nat → Nat} {e0 : mj_E} {q m n : Nat} {tm er : Int} {T : Nat → Int} {h h' hr : mj_H}
/-- where the reference lies: not among the class's cells, nor where answers are put -/
def jPl (K : Nat → Nat) (q m : Nat) : Prop := (∀ i, i < 8 → K (m + i) = 0 ∧ m + i < q) ∧ (K 0 = 0 ∧ 0 ≠ q ∧ 0 < m)
theorem jEm.frame (E : jEm m hr h) (hm : jPl K q m) (f : jLf K q h h') (hl : h.length ≤ h'.length) : jEm m hr h' := by
  obtain ⟨e1, e2, e3, e4⟩ := E
  refine ⟨e1, e2, by omega, fun i e hi => ?_⟩
  have hi8 : i < 8 := by
    have := (List.getElem?_eq_some_iff.mp hi).1
    rw [e1.1] at this
    exact this
  rw [f (m + i) (hm.1 i hi8).1 (Nat.ne_of_lt (hm.1 i hi8).2) (by omega)]
  exact e4 i e hi
theorem jLw.frame (w : jLw K L R q n tm h) (hm : jPl K q m) (hlen : h'.length = h.length) (hf : ∀ a : Nat, a < h.length → (a < m ∨ m + 8 ≤ a) → h'[a]? = h[a]?) : jLw K L R q n tm h' := by
  have hout : ∀ a : Nat, K a ≠ 0 ∨ a = q → (a < m ∨ m + 8 ≤ a) := fun a ha => by
    rcases Nat.lt_or_ge a m with c | c
    · exact Or.inl c
    · rcases Nat.lt_or_ge a (m + 8) with d | d
      · have := hm.1 (a - m) (by omega)
        rw [show m + (a - m) = a by omega] at this
        rcases ha with ha | ha
        · exact absurd this.1 ha
        · exact absurd ha (Nat.ne_of_lt this.2)
      · exact Or.inr d
  obtain ⟨o, kq, f, hq⟩ := w
  have hql := (List.getElem?_eq_some_iff.mp hq).1
  refine ⟨?_, ⟨kq.1, fun a ha hl => by rw [hf a (by omega) (Or.inr (by have := (hm.1 7 (by decide)).2; omega))]; exact kq.2 a ha (by omega)⟩, f, by rw [hf q hql (hout q (Or.inr rfl))]; exact hq⟩
  have := o.keep (h' := h') (fun a ha => by
    obtain ⟨e, h1, _⟩ := o.2.2.2 a ha
    exact hf a (List.getElem?_eq_some_iff.mp h1).1 (hout a (Or.inl ha)))
  rw [hlen, o.1] at this
  exact this
/-- both sides, with the same length of the text -/
def jLi (K L : Nat → Nat) (R : Nat → Nat → Nat) (e0 : mj_E) (q m n : Nat) (tm er : Int) (T : Nat → Int) (h : mj_H) : Prop := jLw K L R q n tm h ∧ h[0]? = some e0 ∧ ∃ hr, jEm m hr h ∧ jI tm er T hr
/-- the class's text may have got another length -/
def jLc (K L : Nat → Nat) (R : Nat → Nat → Nat) (e0 : mj_E) (q m n : Nat) (tc tm er : Int) (T : Nat → Int) (h : mj_H) : Prop := jLw K L R q n tc h ∧ h[0]? = some e0 ∧ ∃ hr, jEm m hr h ∧ jI tm er T hr
theorem jLi.cls {n' : Nat} {tc : Int} (I : jLi K L R e0 q m n tm er T h) (hm : jPl K q m) (w : jLw K L R q n' tc h') (hn : n ≤ n') (f : jLf K q h h') : jLc K L R e0 q m n' tc tm er T h' := by
  obtain ⟨w0, s0, hr, E, hI⟩ := I
  exact ⟨w, by rw [f 0 hm.2.1 hm.2.2.1 (List.getElem?_eq_some_iff.mp s0).1]; exact s0, hr, E.frame hm f (by rw [w0.1.1, w.1.1]; exact hn), hI⟩
/-- a call of the reference, in the law's heap -/
theorem jLc.call {D j : Nat} {as as2 : List Value} {tc : Int} (I : jLc K L R e0 q m n tc tm er T h) (hm : jPl K q m) {Q : mj_R → Prop} (c : ∀ hr, jI tm er T hr → mj_Ok D j as hr Q) (hQ : ∀ r, Q r → ∃ tm' er' T', jI tm' er' T' r.2) (has : ∀ N, as.map (mj_rn (jro m N)) = as2) : mj_Ok D j as2 h (fun r => ∃ r0 hr', Q (r0, hr') ∧ r.1 = mj_rR (jro m h.length) r0 ∧ jLw K L R q n tc r.2 ∧ r.2[0]? = some e0 ∧ jEm m hr' r.2) := by
  obtain ⟨w, s0, hr, E, hI⟩ := I
  have := E.run (c hr hI) (fun r h2 h3 => by
    obtain ⟨_, _, _, hi⟩ := hQ r h2
    exact jI_s8 hi h3)
  rw [has] at this
  exact this.to (fun r ⟨r0, hr', a, b, d, e, f⟩ => ⟨r0, hr', a, b, w.frame hm e f, by rw [f 0 (List.getElem?_eq_some_iff.mp s0).1 (Or.inl hm.2.2.2)]; exact s0, d⟩)
/-- a call of the reference that answers an int -/
theorem jLc.callI {D j : Nat} {as as2 : List Value} {tc tm' er' : Int} {T' : Nat → Int} (I : jLc K L R e0 q m n tc tm er T h) (hm : jPl K q m) (c : ∀ hr, jI tm er T hr → mj_Ok D j as hr (rI tm' er' T')) (has : ∀ N, as.map (mj_rn (jro m N)) = as2) : mj_Ok D j as2 h (fun r => ∃ z : Int, r.1 = .inl (some (.int (jn z))) ∧ jLc K L R e0 q m n tc tm' er' T' r.2) := by
  refine (I.call hm c (fun r hr => ?_) has).to (fun r ⟨r0, hr', a, b, d, s0, e⟩ => ?_)
  · obtain ⟨z, h2, _, rfl, k⟩ := hr
    exact ⟨_, _, _, k⟩
  · obtain ⟨z, h2, _, e2, k⟩ := a
    cases e2
    exact ⟨z, b, d, s0, hr', e, k⟩
theorem jLc.callJ {D j : Nat} {as as2 : List Value} {tc tm' er' : Int} {T' : Nat → Int} (I : jLc K L R e0 q m n tc tm er T h) (hm : jPl K q m) (c : ∀ hr, jI tm er T hr → mj_Ok D j as hr (rJ tm' er' T')) (has : ∀ N, as.map (mj_rn (jro m N)) = as2) : mj_Ok D j as2 h (fun r => ∃ z : Int, r.1 = .inl (some (.long (jl z))) ∧ jLc K L R e0 q m n tc tm' er' T' r.2) := by
  refine (I.call hm c (fun r hr => ?_) has).to (fun r ⟨r0, hr', a, b, d, s0, e⟩ => ?_)
  · obtain ⟨z, h2, rfl, k⟩ := hr
    exact ⟨_, _, _, k⟩
  · obtain ⟨z, h2, e2, k⟩ := a
    cases e2
    exact ⟨z, b, d, s0, hr', e, k⟩
theorem jLc.obj {tc : Int} (I : jLc K L R e0 q m n tc tm er T h) : ∃ fs, h[m]? = some (.inr (10, fs)) := by
  obtain ⟨_, _, hr, E, S, N, B, X, V, hs, _⟩ := I
  exact ⟨_, E.2.2.2 0 _ (rS_f hs)⟩
theorem jr_of' (w : Int32) : -2147483648 ≤ w.toInt ∧ w.toInt ≤ 2147483647 := ⟨(jr_of w).1, by have := (jr_of w).2; omega⟩
end JLI
section JLR
variable {D pc : Nat} {M : mj_M} {loc : mj_L} {st : List Value} {h : mj_H} {Q : mj_R → Prop}
theorem jT.asJ {w : Int32} (k : mj_T D M pc loc (.int (jn w.toInt) :: st) h Q) : mj_T D M pc loc (.int w :: st) h Q := by rwa [jn_of] at k
/-- an int of the script -/
theorem jL.arg {Lx : Nat} {xs : Nat → Int32} {i k : Int} {l1 l2 l3 : Option Value} {lr : mj_L} {a1 a2 a3 a4 a5 b1 b2 b3 b4 b5 c1 c2 c3 c4 c5 d1 d2 d3 d4 d5 e1 e2 e3 e4 e5 : Nat} (hs : h[0]? = some (.inl (100, Lx, fun j => .int (xs j)))) (hi : 0 ≤ i ∧ i + 6 ≤ Lx) (hL : Lx ≤ 3072) (hk : 0 ≤ k ∧ k ≤ 5) (g1 : M.2.2.2.2.1 pc = some (.aload_n 0, a1, a2, a3, a4, a5)) (g2 : M.2.2.2.2.1 (pc + 1) = some (.iload 4, b1, b2, b3, b4, b5)) (g3 : M.2.2.2.2.1 (pc + 1 + 2) = some (.iconst k, c1, c2, c3, c4, c5)) (g4 : M.2.2.2.2.1 (pc + 1 + 2 + 1) = some (.iadd, d1, d2, d3, d4, d5)) (g5 : M.2.2.2.2.1 (pc + 1 + 2 + 1 + 1) = some (.iaload, e1, e2, e3, e4, e5)) (q : mj_T D M (pc + 1 + 2 + 1 + 1 + 1) (some (.ref 0) :: l1 :: l2 :: l3 :: some (.int (jn i)) :: lr) (.int (xs (i + k).toNat) :: st) h Q) : mj_T D M pc (some (.ref 0) :: l1 :: l2 :: l3 :: some (.int (jn i)) :: lr) st h Q := by
  refine mj_T.pl g1 rfl rfl rfl (mj_T.pl g2 rfl rfl rfl (mj_T.pl g3 rfl rfl rfl (mj_T.iadd g4 (mj_T.step g5 rfl ?_ q))))
  have hr : jr (i + k) := ⟨by omega, by omega⟩
  have h1 : mj_in (jn (i + k)) Lx = true := by rw [jn_in hr]; exact decide_eq_true ⟨by omega, by omega⟩
  simp only [mj_step, hs, h1, jn_nat (show 0 ≤ i + k by omega) hr, or_true, true_and, if_true]
end JLR
