/-! The class's heap with four cells apart: the object itself, the buffer, its bytes, the reader. -/
noncomputable def cK0 (a : Nat) : Nat := if a = 1 ∨ a = 13 ∨ a = 14 ∨ a = 455 then 0 else cK a
theorem cK0_0 {a : Nat} (h : a = 1 ∨ a = 13 ∨ a = 14 ∨ a = 455) : cK0 a = 0 := if_pos h
theorem cK0_e {a : Nat} (h : ¬ (a = 1 ∨ a = 13 ∨ a = 14 ∨ a = 455)) : cK0 a = cK a := if_neg h
theorem cK0_n {a : Nat} (h : cK0 a ≠ 0) : ¬ (a = 1 ∨ a = 13 ∨ a = 14 ∨ a = 455) ∧ cK a = cK0 a ∧ cK a ≠ 0 := by
  by_cases c : a = 1 ∨ a = 13 ∨ a = 14 ∨ a = 455
  · exact absurd (cK0_0 c) h
  · have e := cK0_e c
    exact ⟨c, e.symm, by rw [← e]; exact h⟩
theorem cK4 : cK 1 = 19 ∧ cK 13 = 27 ∧ cK 14 = 3 ∧ cK 455 = 14 ∧ cL 14 = 200 ∧ cR 13 0 = 14 ∧ cR 455 0 = 19 ∧ cR 455 5 = 456 ∧ cR 455 6 = 466 ∧ cR 455 7 = 476 ∧ cR 1 4 = 13 ∧ cR 1 10 = 455 := by decide +kernel
theorem cT0_1 : ((List.range 563).all (fun a => decide (cK0 a = 0) || (List.range (jfs (cK0 a)).length).all fun i => match (jfs (cK0 a))[i]? with | some c => decide (c < 100) || decide (cK0 (cR a i) = c - 100) | none => true)) = true := by decide +kernel
theorem cT0_3 : ((List.range 563).all (fun a => !(decide (4 ≤ cK0 a) && decide (cK0 a ≤ 7)) || ((List.range (cL a)).all fun i => decide (cK0 (cR a i) = jae (cK0 a))))) = true := by decide +kernel
theorem cT0_k : ((List.range 563).all (fun a => decide (cK0 a = 0) || (!decide (cK0 a = 27) && !decide (cK0 a = 14)))) = true := by decide +kernel
theorem cK0_k {a : Nat} (h : cK0 a ≠ 0) : cK0 a ≠ 27 ∧ cK0 a ≠ 14 := by
  have h1 := cK0_n h
  have h2 := jall cT0_k (cK_in h1.2.2)
  simp only [h, decide_false, Bool.false_or, Bool.and_eq_true, Bool.not_eq_true', decide_eq_false_iff_not] at h2
  exact h2
theorem cTY0 : jTY cK0 cL cR := by
  have nz : ∀ a, cK0 a ≠ 0 → a < 563 ∧ cK a = cK0 a := fun a h => ⟨cK_in (cK0_n h).2.2, (cK0_n h).2.1⟩
  refine ⟨fun a i c hi hc => ?_, fun a h1 h2 => ?_, fun a i h1 h2 h3 => ?_, fun a h1 => ?_, fun a h1 => ?_, fun a h1 => ?_, fun a b h1 h2 => ?_, fun a h1 => ?_⟩
  · have h0 : cK0 a ≠ 0 := fun q => by rw [q] at hi; exact absurd hi (by simp [jfs])
    have h1 := jall cT0_1 (nz a h0).1
    simp only [h0, decide_false, Bool.false_or] at h1
    have h1 := jall h1 (List.getElem?_eq_some_iff.mp hi).1
    simp only [hi, Bool.or_eq_true, decide_eq_true_eq] at h1
    omega
  · have h0 : cK0 a ≠ 0 := by omega
    rw [← (nz a h0).2] at h1 h2 ⊢
    exact cTY.2.1 a h1 h2
  · have h0 : cK0 a ≠ 0 := by omega
    have h4 := jall cT0_3 (nz a h0).1
    simp only [h1, h2, decide_true, Bool.and_self, Bool.not_true, Bool.false_or] at h4
    exact of_decide_eq_true (jall h4 h3)
  · exact cTY.2.2.2.1 a (by rw [(nz a (by omega)).2]; exact h1)
  · exact cTY.2.2.2.2.1 a (by rw [(nz a (by omega)).2]; exact h1)
  · exact cTY.2.2.2.2.2.1 a (by rw [(nz a (by omega)).2]; exact h1)
  · exact absurd h1 (cK0_k (by omega)).1
  · exact cTY.2.2.2.2.2.2.2 a (by rw [(nz a (by omega)).2]; exact h1)
theorem jCf.mv2 {K K' L : Nat → Nat} {R : Nat → Nat → Nat} {tm tm' : Int} {k a : Nat} {e : mj_E} (h1 : k ≠ 14) (h2 : k ≠ 27) (q : jCf K' L R tm' k a e) : jCf K L R tm k a e := by
  unfold jCf at q ⊢
  by_cases c7 : k ≤ 7
  · rw [if_pos c7] at q ⊢
    exact q
  · rw [if_neg c7] at q ⊢
    obtain ⟨fs, q1, q2, q3⟩ := q
    refine ⟨fs, q1, q2, fun i c hi => ?_⟩
    obtain ⟨v, v1, v2⟩ := q3 i c hi
    refine ⟨v, v1, ?_⟩
    have hm := List.mem_of_getElem? hi
    have hc : c ≠ 4 ∧ c ≠ 7 := by
      revert hm
      unfold jfs
      split
      all_goals first | (exact absurd rfl h1) | (exact absurd rfl h2) | (intro hm; exact ⟨fun q => by subst q; exact absurd hm (by decide), fun q => by subst q; exact absurd hm (by decide)⟩)
    unfold jfv at v2 ⊢
    by_cases p1 : 100 ≤ c
    · rw [if_pos p1] at v2 ⊢
      exact v2
    · rw [if_neg p1] at v2 ⊢
      by_cases p2 : c = 1
      · rw [if_pos p2] at v2 ⊢
        exact v2
      · rw [if_neg p2, if_neg hc.1] at v2 ⊢
        obtain ⟨y, y1, y2, y3⟩ := v2
        refine ⟨y, ?_, ?_, y3⟩
        · unfold jlo at y1 ⊢
          split <;> first | (exact absurd rfl hc.2) | (simp only at y1; exact y1) | omega
        · unfold jhi at y2 ⊢
          split <;> first | (exact absurd rfl hc.2) | (simp only at y2; exact y2) | omega
/-- from the whole to the four apart -/
theorem jO.fr {g h : mj_H} {n : Nat} {tm : Int} (o : jO cK cL cR g n tm h) : jO cK0 cL cR h n 0 h := ⟨o.1, ⟨by decide, by decide⟩, fun _ _ => ⟨fun _ => rfl, fun p q => absurd p (by rw [o.1]; omega)⟩, fun a ha => by
  obtain ⟨c, e, hc⟩ := cK0_n ha
  obtain ⟨x, h1, h2⟩ := o.2.2.2 a hc
  rw [e] at h2
  exact ⟨x, h1, h2.mv2 (cK0_k ha).2 (cK0_k ha).1⟩⟩
/-- and back -/
theorem jO.un {g h : mj_H} {n : Nat} {tm' tm : Int} (o : jO cK0 cL cR g n tm' h) (ht : 0 ≤ tm ∧ tm ≤ 200) (h4 : ∀ a, (a = 1 ∨ a = 13 ∨ a = 14 ∨ a = 455) → ∃ e, h[a]? = some e ∧ jCf cK cL cR tm (cK a) a e) : jO cK cL cR h n tm h := ⟨o.1, ht, fun _ _ => ⟨fun _ => rfl, fun p q => absurd p (by rw [o.1]; omega)⟩, fun a ha => by
  by_cases c : a = 1 ∨ a = 13 ∨ a = 14 ∨ a = 455
  · exact h4 a c
  · have e := cK0_e c
    obtain ⟨x, h1, h2⟩ := o.2.2.2 a (by rw [e]; exact ha)
    rw [e] at h2
    exact ⟨x, h1, h2.mv2 (by rw [← e]; exact (cK0_k (by rw [e]; exact ha)).2) (by rw [← e]; exact (cK0_k (by rw [e]; exact ha)).1)⟩⟩
/-- a call that goes by the four apart -/
theorem jO.self0 {g h : mj_H} {n : Nat} {tm : Int} (o : jO cK0 cL cR g n tm h) : jO cK0 cL cR h n tm h := o.self
/-! What is known of the four. -/
/-- a byte as it is kept -/
def jbv (v : Int) : Value := .int (jn v).toInt8.toInt32
/-- the buffer: its length, its bytes -/
def jBuf (tm : Nat) (T : Nat → Int) (h : mj_H) : Prop := h[13]? = some (.inr (7, [.ref 14, .int (jn (tm : Int))])) ∧ ∃ f : Nat → Value, h[14]? = some (.inl (2, 200, f)) ∧ ∀ j : Nat, j < tm → f j = jbv (T j)
/-- where the error is, and the bytes -/
def jcx (er tm : Int) (T : Nat → Int) (h : mj_H) : Prop := (∃ fs : List Value, h[1]? = some (.inr (9, fs)) ∧ fs[15]? = some (.int (jn er))) ∧ ∃ f : Nat → Value, h[14]? = some (.inl (2, 200, f)) ∧ ∀ j : Nat, (j : Int) < tm → f j = jbv (T j)
theorem jcx.qt {er tm : Int} {T : Nat → Int} {h h' : mj_H} (x : jcx er tm T h) (q : jqt h h') : jcx er tm T h' := by
  obtain ⟨⟨fs, h1, h2⟩, f, h3, h4⟩ := x
  obtain ⟨fs', e1, e2⟩ := (q 1).2 fs h1
  exact ⟨⟨fs', e1, by rw [e2]; exact h2⟩, f, (q 14).1 200 f h3, h4⟩
theorem jcx.le {er tm tm' : Int} {T : Nat → Int} {h : mj_H} (x : jcx er tm T h) (hl : tm' ≤ tm) : jcx er tm' T h := ⟨x.1, by
  obtain ⟨f, h3, h4⟩ := x.2
  exact ⟨f, h3, fun j hj => h4 j (by omega)⟩⟩
theorem jfv_at {K : Nat → Nat} {R : Nat → Nat → Nat} {tm : Int} {c a i : Nat} {v : Value} (hc : 100 ≤ c) (q : jfv K R tm c a i v) : v = .ref (R a i) := by
  unfold jfv at q
  rw [if_pos hc] at q
  exact q
theorem jO.buf {g h : mj_H} {n tm : Nat} (o : jO cK cL cR g n (tm : Int) h) : h[13]? = some (.inr (7, [.ref 14, .int (jn (tm : Int))])) := by
  obtain ⟨fs, h1, h2, h3⟩ := o.obj (a := 13) cK4.2.1 (by decide)
  obtain ⟨v0, a0, b0⟩ := h3 0 103 rfl
  obtain ⟨v1, a1, b1⟩ := h3 1 7 rfl
  have e0 := jfv_at (by decide) b0
  rw [cK4.2.2.2.2.2.1] at e0
  obtain ⟨x, x1, x2, e1⟩ := jfv_int rfl b1
  have x1 : (tm : Int) ≤ x := x1
  have x2 : x ≤ (tm : Int) := x2
  have ex : x = (tm : Int) := by omega
  subst ex
  have h2 : fs.length = 2 := h2
  match fs, h2, a0, a1 with
  | [y0, y1], _, a0, a1 =>
    cases a0
    cases a1
    rw [h1, e0, e1]
    rfl
theorem jcx.jBuf {g h : mj_H} {n tm : Nat} {er : Int} {T : Nat → Int} (x : jcx er (tm : Int) T h) (o : jO cK cL cR g n (tm : Int) h) : jBuf tm T h := ⟨o.buf, by
  obtain ⟨f, h3, h4⟩ := x.2
  exact ⟨f, h3, fun j hj => h4 j (by omega)⟩⟩
/-- the reader's fields -/
def RF (a e t : Int) : List Value := [.ref 19, .ref 13, .int (jn a), .int (jn e), .int (jn t), .ref 456, .ref 466, .ref 476]
theorem jO.rdr {g h : mj_H} {n : Nat} {tm : Int} (o : jO cK cL cR g n tm h) : ∃ (b : Nat) (a e t : Int), h[455]? = some (.inr (4, [.ref 19, .ref b, .int (jn a), .int (jn e), .int (jn t), .ref 456, .ref 466, .ref 476])) := by
  obtain ⟨fs, h1, h2, h3⟩ := o.obj (a := 455) cK4.2.2.2.1 (by decide)
  obtain ⟨v0, a0, b0⟩ := h3 0 111 rfl
  obtain ⟨v1, a1, b1⟩ := h3 1 4 rfl
  obtain ⟨v2, a2, b2⟩ := h3 2 0 rfl
  obtain ⟨v3, a3, b3⟩ := h3 3 0 rfl
  obtain ⟨v4, a4, b4⟩ := h3 4 2 rfl
  obtain ⟨v5, a5, b5⟩ := h3 5 106 rfl
  obtain ⟨v6, a6, b6⟩ := h3 6 106 rfl
  obtain ⟨v7, a7, b7⟩ := h3 7 102 rfl
  have e0 := jfv_at (by decide) b0
  have e5 := jfv_at (by decide) b5
  have e6 := jfv_at (by decide) b6
  have e7 := jfv_at (by decide) b7
  rw [cK4.2.2.2.2.2.2.1] at e0
  rw [cK4.2.2.2.2.2.2.2.1] at e5
  rw [cK4.2.2.2.2.2.2.2.2.1] at e6
  rw [cK4.2.2.2.2.2.2.2.2.2.1] at e7
  obtain ⟨b, _, e1⟩ := b1
  obtain ⟨x2, _, _, e2⟩ := jfv_int rfl b2
  obtain ⟨x3, _, _, e3⟩ := jfv_int rfl b3
  obtain ⟨x4, _, _, e4⟩ := jfv_int rfl b4
  have h2 : fs.length = 8 := h2
  refine ⟨b, x2, x3, x4, ?_⟩
  match fs, h2, a0, a1, a2, a3, a4, a5, a6, a7 with
  | [y0, y1, y2, y3, y4, y5, y6, y7], _, a0, a1, a2, a3, a4, a5, a6, a7 =>
    cases a0; cases a1; cases a2; cases a3; cases a4; cases a5; cases a6; cases a7
    rw [h1, e0, e1, e2, e3, e4, e5, e6, e7]
    rfl
theorem jCf_rdr {a e t tm : Int} (ha : jr a) (he : jr e) (ht : t = 0 ∨ t = 1) : jCf cK cL cR tm (cK 455) 455 (.inr (4, RF a e t)) := jCf.obj 14 (by decide) cK4.2.2.2.1 rfl rfl (fun i cd hi => by
  match i, hi with
  | 0, hi => cases hi; exact ⟨_, rfl, jfv.ref (by decide) cK4.2.2.2.2.2.2.1⟩
  | 1, hi => cases hi; exact ⟨_, rfl, jfv.txt (Or.inr cK4.2.1)⟩
  | 2, hi => cases hi; exact ⟨_, rfl, jfv_mk rfl ha.1 (by have := ha.2; show a ≤ 2147483647; omega)⟩
  | 3, hi => cases hi; exact ⟨_, rfl, jfv_mk rfl he.1 (by have := he.2; show e ≤ 2147483647; omega)⟩
  | 4, hi => cases hi; exact ⟨_, rfl, jfv_mk rfl (by show (0 : Int) ≤ t; omega) (by show t ≤ 1; omega)⟩
  | 5, hi => cases hi; exact ⟨_, rfl, jfv.ref (by decide) cK4.2.2.2.2.2.2.2.1⟩
  | 6, hi => cases hi; exact ⟨_, rfl, jfv.ref (by decide) cK4.2.2.2.2.2.2.2.2.1⟩
  | 7, hi => cases hi; exact ⟨_, rfl, jfv.ref (by decide) cK4.2.2.2.2.2.2.2.2.2.1⟩
  | i + 8, hi => exact absurd hi (by simp [jfs]))
theorem jCf_buf {tm : Nat} : jCf cK cL cR (tm : Int) (cK 13) 13 (.inr (7, [.ref 14, .int (jn (tm : Int))])) := jCf.obj 27 (by decide) cK4.2.1 rfl rfl (fun i cd hi => by
  match i, hi with
  | 0, hi => cases hi; exact ⟨_, rfl, jfv.ref (by decide) cK4.2.2.2.2.2.1⟩
  | 1, hi => cases hi; exact ⟨_, rfl, jfv_mk rfl (Int.le_refl _) (Int.le_refl _)⟩
  | i + 2, hi => exact absurd hi (by simp [jfs]))
