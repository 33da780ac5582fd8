/-! The constructors once more: what a fresh cell holds. -/
/-- a fresh cell: a Wide is 0, a polynomial's degree is -1, a bench has no points, an array of longs holds 0 -/
def zZ (e : mj_E) : Prop := match e with
  | .inl (t, _, f) => t = 1 → ∀ i : Nat, f i = .long 0
  | .inr (c, fs) => (c = 8 → fs[1]? = some (.int 0) ∧ fs[2]? = some (.int 0)) ∧ (c = 3 → fs[2]? = some (.int (jn (-1)))) ∧ (c = 0 → fs[3]? = some (.int 0))
/-- the Wides that a constructor sets -/
def zW (a : Nat) : Prop := ¬ a ∈ bydl ∧ cK a = 18
def zCf (K L : Nat → Nat) (R : Nat → Nat → Nat) (tm : Int) (k a : Nat) (e : mj_E) : Prop := jCf K L R tm k a e ∧ (¬ zW a → zZ e)
/-- a is under way with those fields; what is new is of its kind, but for the open cells; all else is as before -/
def zCS (K L : Nat → Nat) (R : Nat → Nat → Nat) (tm : Int) (h0 : mj_H) (a c : Nat) (fs : List Value) (ob : List (Nat × mj_E)) (n : Nat) (h : mj_H) : Prop := h.length = n ∧ a < h0.length ∧ h0.length ≤ n ∧ (∀ x, x < h0.length → x ≠ a → h[x]? = h0[x]?) ∧ h[a]? = some (.inr (c, fs)) ∧ (∀ p ∈ ob, h0.length ≤ p.1 ∧ p.1 < n ∧ h[p.1]? = some p.2) ∧ ∀ x, h0.length ≤ x → x < n → (∀ p ∈ ob, p.1 ≠ x) → ∃ e, h[x]? = some e ∧ zCf K L R tm (K x) x e
/-- it is done -/
def zDn (K L : Nat → Nat) (R : Nat → Nat → Nat) (tm : Int) (h0 : mj_H) (a n : Nat) (h : mj_H) : Prop := h.length = n ∧ h0.length ≤ n ∧ (∀ x, x < h0.length → x ≠ a → h[x]? = h0[x]?) ∧ ∀ x, (x = a ∨ h0.length ≤ x) → x < n → ∃ e, h[x]? = some e ∧ zCf K L R tm (K x) x e
def zDr (K L : Nat → Nat) (R : Nat → Nat → Nat) (tm : Int) (h0 : mj_H) (a n : Nat) (r : mj_R) : Prop := r.1 = .inl none ∧ zDn K L R tm h0 a n r.2
section JCSS
variable {D pc : Nat} {M : mj_M} {loc : mj_L} {st : List Value} {h h' h0 : mj_H} {Q : mj_R → Prop} {r1 r2 r3 r4 r5 : Nat}
variable {K L : Nat → Nat} {R : Nat → Nat → Nat} {tm : Int} {a c n N : Nat} {fs : List Value} {ob : List (Nat × mj_E)}
theorem zCS.beg (ha : h0[a]? = some (.inr (c, fs))) (hn : h0.length = n) : zCS K L R tm h0 a c fs [] n h0 := ⟨hn, (List.getElem?_eq_some_iff.mp ha).1, by omega, fun _ _ _ => rfl, ha, fun p hp => (List.not_mem_nil hp).elim, fun x h1 h2 => absurd h1 (by omega)⟩
theorem zCS.put {f i : Nat} {v : Value} (s : zCS K L R tm h0 a c fs ob n h) (hc : M.2.2.2.2.1 pc = some (.putfield f, c, i, r3, r4, r5)) (hi : i < fs.length) (hv : mj_fit r3 v = true) (k : ∀ h', zCS K L R tm h0 a c (fs.set i v) ob n h' → mj_T D M (pc + 3) loc st h' Q) : mj_T D M pc loc (v :: .ref a :: st) h Q := by
  obtain ⟨s1, s2, s3, s4, s5, s6, s7⟩ := s
  refine mj_T.pfl hc s5 hi hv (k _ ⟨by rw [List.length_set]; exact s1, s2, s3, fun x hx hne => ?_, ?_, fun p hp => ?_, fun x h1 h2 h3 => ?_⟩)
  · rw [List.getElem?_set_ne (Ne.symm hne)]
    exact s4 x hx hne
  · rw [List.getElem?_set_self (List.getElem?_eq_some_iff.mp s5).1]
  · obtain ⟨p1, p2, p3⟩ := s6 p hp
    exact ⟨p1, p2, by rw [List.getElem?_set_ne (by omega)]; exact p3⟩
  · obtain ⟨e, e1, e2⟩ := s7 x h1 h2 h3
    exact ⟨e, by rw [List.getElem?_set_ne (by omega)]; exact e1, e2⟩
theorem zCS.get {f i : Nat} {v : Value} (s : zCS K L R tm h0 a c fs ob n h) (hc : M.2.2.2.2.1 pc = some (.getfield f, c, i, r3, r4, r5)) (hf : fs[i]? = some v) (k : mj_T D M (pc + 3) loc (v :: st) h Q) : mj_T D M pc loc (.ref a :: st) h Q := mj_T.gfl hc s.2.2.2.2.1 hf k
theorem zCS.getA {f i : Nat} {v : Value} {e : mj_E} (s : zCS K L R tm h0 a c fs ob n h) (hc : M.2.2.2.2.1 pc = some (.getfield f, c, i, r3, r4, r5)) (hf : fs[i]? = some v) (k : mj_T D M (pc + 3) loc (v :: st) (h ++ [e]) Q) : mj_T D M pc loc (.ref a :: st) (h ++ [e]) Q := mj_T.gfl hc (by rw [List.getElem?_append_left (List.getElem?_eq_some_iff.mp s.2.2.2.2.1).1]; exact s.2.2.2.2.1) hf k
theorem zCS.apps (s : zCS K L R tm h0 a c fs ob n h) (es : List mj_E) (t : ∀ (i : Nat) (e : mj_E), es[i]? = some e → zCf K L R tm (K (n + i)) (n + i) e) : zCS K L R tm h0 a c fs ob (n + es.length) (h ++ es) := by
  obtain ⟨s1, s2, s3, s4, s5, s6, s7⟩ := s
  refine ⟨by rw [List.length_append, s1], s2, by omega, fun x hx hne => ?_, ?_, fun p hp => ?_, fun x h1 h2 h3 => ?_⟩
  · rw [List.getElem?_append_left (by omega)]
    exact s4 x hx hne
  · rw [List.getElem?_append_left (by omega)]
    exact s5
  · obtain ⟨p1, p2, p3⟩ := s6 p hp
    exact ⟨p1, by omega, by rw [List.getElem?_append_left (by omega)]; exact p3⟩
  · by_cases q : x < n
    · obtain ⟨e, e1, e2⟩ := s7 x h1 q h3
      exact ⟨e, by rw [List.getElem?_append_left (by omega)]; exact e1, e2⟩
    · have hl : x - n < es.length := by omega
      have he : es[x - n]? = some es[x - n] := List.getElem?_eq_getElem hl
      refine ⟨es[x - n], by rw [List.getElem?_append_right (by omega), s1]; exact he, ?_⟩
      have := t _ _ he
      rw [show n + (x - n) = x by omega] at this
      exact this
theorem zCS.app (s : zCS K L R tm h0 a c fs ob n h) (e : mj_E) (t : zCf K L R tm (K n) n e) : zCS K L R tm h0 a c fs ob (n + 1) (h ++ [e]) := s.apps [e] (fun i e' hi => by
  match i, hi with
  | 0, hi => cases hi; exact t
  | i + 1, hi => simp at hi)
theorem zCS.opn (s : zCS K L R tm h0 a c fs [] n h) (e : mj_E) : zCS K L R tm h0 a c fs [(n, e)] (n + 1) (h ++ [e]) := by
  obtain ⟨s1, s2, s3, s4, s5, s6, s7⟩ := s
  refine ⟨by rw [List.length_append, s1]; rfl, s2, by omega, fun x hx hne => ?_, ?_, fun p hp => ?_, fun x h1 h2 h3 => ?_⟩
  · rw [List.getElem?_append_left (by omega)]
    exact s4 x hx hne
  · rw [List.getElem?_append_left (by omega)]
    exact s5
  · have hp := List.mem_singleton.mp hp
    subst hp
    refine ⟨s3, Nat.lt_succ_self _, ?_⟩
    show (h ++ [e])[n]? = some e
    rw [List.getElem?_append_right (by omega), s1, Nat.sub_self]
    rfl
  · have hne : n ≠ x := h3 (n, e) List.mem_cons_self
    obtain ⟨e, e1, e2⟩ := s7 x h1 (by omega) (fun p hp => (List.not_mem_nil hp).elim)
    exact ⟨e, by rw [List.getElem?_append_left (by omega)]; exact e1, e2⟩
theorem zCS.cls {b : Nat} {e : mj_E} (s : zCS K L R tm h0 a c fs [(b, e)] n h) (t : zCf K L R tm (K b) b e) : zCS K L R tm h0 a c fs [] n h := by
  obtain ⟨s1, s2, s3, s4, s5, s6, s7⟩ := s
  refine ⟨s1, s2, s3, s4, s5, fun p hp => (List.not_mem_nil hp).elim, fun x h1 h2 _ => ?_⟩
  by_cases q : b = x
  · subst q
    exact ⟨e, (s6 (b, e) List.mem_cons_self).2.2, t⟩
  · exact s7 x h1 h2 (fun p hp => by rw [List.mem_singleton.mp hp]; exact q)
theorem zCS.done (s : zCS K L R tm h0 a c fs [] n h) (t : zCf K L R tm (K a) a (.inr (c, fs))) : zDn K L R tm h0 a n h := by
  obtain ⟨s1, s2, s3, s4, s5, s6, s7⟩ := s
  refine ⟨s1, s3, s4, fun x h1 h2 => ?_⟩
  by_cases q : x = a
  · subst q
    exact ⟨_, s5, t⟩
  · exact s7 x (by omega) h2 (fun p hp => (List.not_mem_nil hp).elim)
/-- a call of a constructor over the newest cell -/
theorem zCS.after {e : mj_E} (s : zCS K L R tm h0 a c fs ob n h) (d : zDn K L R tm (h ++ [e]) n N h') : zCS K L R tm h0 a c fs ob N h' := by
  obtain ⟨s1, s2, s3, s4, s5, s6, s7⟩ := s
  obtain ⟨d1, d2, d3, d4⟩ := d
  have hl : (h ++ [e]).length = n + 1 := by rw [List.length_append, s1]; rfl
  have old : ∀ x, x < n → h'[x]? = h[x]? := fun x hx => by rw [d3 x (by omega) (by omega), List.getElem?_append_left (by omega)]
  refine ⟨d1, s2, by omega, fun x hx hne => ?_, ?_, fun p hp => ?_, fun x h1 h2 h3 => ?_⟩
  · rw [old x (by omega)]
    exact s4 x hx hne
  · rw [old a (by omega)]
    exact s5
  · obtain ⟨p1, p2, p3⟩ := s6 p hp
    exact ⟨p1, by omega, by rw [old _ p2]; exact p3⟩
  · by_cases q : x < n
    · rw [old x q]
      exact s7 x h1 q h3
    · exact d4 x (by omega) h2
theorem zCS.new {ix c2 r2 : Nat} (s : zCS K L R tm h0 a c fs ob n h) (hc : M.2.2.2.2.1 pc = some (.new ix, c2, r2, 0, r4, r5)) (k : mj_T D M (pc + 3) loc (.ref n :: st) (h ++ [.inr (c2, mj_new c2)]) Q) : mj_T D M pc loc st h Q :=
  mj_T.step hc rfl (by simp only [mj_step, s.1]) k
theorem zCS.call {ix j : Nat} {as : List Value} {e : mj_E} (s : zCS K L R tm h0 a c fs ob n h) (hc : M.2.2.2.2.1 pc = some (.invokespecial ix, j, r2, r3, r4, r5)) (hk : mj_kind (.invokespecial ix) r3 = 3) (hl : r2 ≤ st.length) (hcat : mj_cat (st.drop r2) ≤ 8) (hr : mj_recv (.invokespecial ix) r2 r5 st (h ++ [e]) = true) (has : (st.take r2).reverse = as) (hcall : (h ++ [e]).length = n + 1 → (h ++ [e])[n]? = some e → mj_Ok D j as (h ++ [e]) (zDr K L R tm (h ++ [e]) n N)) (hM : M.2.2.2.2.2.1 = []) (k : ∀ h', zCS K L R tm h0 a c fs ob N h' → mj_T D M (pc + 3) loc (st.drop r2) h' Q) : mj_T D M pc loc st (h ++ [e]) Q := by
  refine mj_T.call hc hk hl hcat hr has (hcall (by rw [List.length_append, s.1]; rfl) (by rw [List.getElem?_append_right (by rw [s.1]; exact Nat.le_refl _), s.1, Nat.sub_self]; rfl)) (fun v h' hq => ?_) (fun i h' hq => ?_)
  · obtain ⟨h1, h2⟩ := hq
    cases h1
    exact k h' (s.after h2)
  · obtain ⟨h1, _⟩ := hq
    cases h1
theorem zCf.num (k : Nat) (hk : k = 1 ∨ k = 2 ∨ k = 3) {b len : Nat} (ha : K b = k) (hl : L b = len) : zCf K L R tm (K b) b (.inl (jak k, len, fun _ => mj_df (jak k))) := ⟨jCf.num k hk ha hl, fun _ e i => by
  rcases hk with q | q | q
  · subst q
    exact absurd e (by decide)
  · subst q
    rfl
  · subst q
    exact absurd e (by decide)⟩
/-- a new array of numbers -/
theorem zCS.arr (kk : Nat) {x : Int} {t : ClassFile.ArrayType} (s : zCS K L R tm h0 a c fs ob n h) (hc : M.2.2.2.2.1 pc = some (.newarray t, r1, r2, r3, r4, r5)) (hkk : kk = 1 ∨ kk = 2 ∨ kk = 3) (hr : jak kk = r1) (hx : 0 ≤ x ∧ x ≤ 1000) (ka : K n = kk) (hl : (L n : Int) = x) (k : ∀ h', zCS K L R tm h0 a c fs ob (n + 1) h' → mj_T D M (pc + 2) loc (.ref n :: st) h' Q) : mj_T D M pc loc (.int (jn x) :: st) h Q := by
  subst hr
  have hj : jr x := ⟨by omega, by omega⟩
  have e1 : (jn x).toNatClampNeg = L n := by rw [jn_nat hx.1 hj]; omega
  have e2 : (0 : Int32) ≤ jn x := by rw [show (0 : Int32) = jn 0 from rfl, jn_le ⟨by decide, by decide⟩ hj]; exact hx.1
  have e3 : jak kk ≤ 2 := by rcases hkk with q | q | q <;> subst q <;> decide
  refine mj_T.step hc rfl (pc' := pc + 2) (loc' := loc) (st' := .ref n :: st) (h' := h ++ [.inl (jak kk, L n, fun _ => mj_df (jak kk))]) ?_ (k _ (s.app _ (zCf.num kk hkk ka rfl)))
  simp only [mj_step, e1, s.1]
  rw [if_pos ⟨e2, by omega, e3⟩]
/-- a new array of arrays of longs -/
theorem zCS.rows {x1 x2 : Nat} (N : Nat) (s : zCS K L R tm h0 a c fs ob n h) (hc : M.2.2.2.2.1 pc = some (.multianewarray x1 x2, r1, r2, r3, r4, r5)) (hN : N ≤ 1000) (ka : K n = 6) (hl : L n = N) (hrow : ∀ i, i < N → R n i = n + 1 + i ∧ K (n + 1 + i) = 2 ∧ L (n + 1 + i) = 13) (k : ∀ h', zCS K L R tm h0 a c fs ob (n + 1 + N) h' → mj_T D M (pc + 4) loc (.ref n :: st) h' Q) : mj_T D M pc loc (.int (jn 13) :: .int (jn (N : Int)) :: st) h Q := by
  subst hl
  have hj : jr (L n : Int) := ⟨by omega, by omega⟩
  have e1 : (jn (L n : Int)).toNatClampNeg = L n := by rw [jn_nat (by omega) hj]; rfl
  have e2 : (0 : Int32) ≤ jn (L n : Int) := by rw [show (0 : Int32) = jn 0 from rfl, jn_le ⟨by decide, by decide⟩ hj]; omega
  have e3 : (jn 13).toNatClampNeg = 13 := rfl
  have e4 : (0 : Int32) ≤ jn 13 := by decide
  refine mj_T.step hc rfl (pc' := pc + 4) (loc' := loc) (st' := .ref n :: st) (h' := h ++ (.inl (6, L n, fun i => if i < L n then .ref (n + 1 + i) else .null) :: mj_rows (L n) 13 0)) ?_ (k _ ?_)
  · simp only [mj_step, e1, e3, s.1]
    rw [if_pos ⟨e2, e4, by omega, by omega⟩]
  · have := s.apps (.inl (6, L n, fun i => if i < L n then .ref (n + 1 + i) else .null) :: mj_rows (L n) 13 0) (fun i e he => ?_)
    · rw [show n + (Sum.inl (6, L n, fun i => if i < L n then Value.ref (n + 1 + i) else .null) :: mj_rows (L n) 13 0 : List mj_E).length = n + 1 + L n by simp [mj_rows]; omega] at this
      exact this
    · match i, he with
      | 0, he =>
        cases he
        refine ⟨?_, fun _ e => absurd e (by decide)⟩
        show jCf K L R tm (K n) n _
        rw [ka]
        unfold jCf
        rw [if_pos (by decide)]
        refine ⟨_, rfl, fun j => ?_⟩
        rw [if_neg (by decide), if_neg (by decide)]
        intro hj
        rw [if_pos hj, (hrow j hj).1]
      | i + 1, he =>
        rw [List.getElem?_cons_succ] at he
        have hi : i < L n := by
          have := (List.getElem?_eq_some_iff.mp he).1
          simpa [mj_rows] using this
        have he2 : (mj_rows (L n) 13 0)[i]? = some (.inl (1, 13, fun _ => .long 0)) := by
          unfold mj_rows
          rw [List.getElem?_map, List.getElem?_range hi]
          rfl
        rw [he2] at he
        cases he
        have q := hrow i hi
        rw [show n + (i + 1) = n + 1 + i by omega]
        exact zCf.num 2 (Or.inr (Or.inl rfl)) q.2.1 q.2.2
/-- a new array for objects -/
theorem zCS.arrO {ix : Nat} (N : Nat) (s : zCS K L R tm h0 a c fs [] n h) (hc : M.2.2.2.2.1 pc = some (.anewarray ix, r1, r2, r3, r4, r5)) (hN : N ≤ 1000) (k : ∀ h', zCS K L R tm h0 a c fs [(n, .inl (r1, N, fun _ => .null))] (n + 1) h' → mj_T D M (pc + 3) loc (.ref n :: st) h' Q) : mj_T D M pc loc (.int (jn (N : Int)) :: st) h Q := by
  have hj : jr (N : Int) := ⟨by omega, by omega⟩
  have e1 : (jn (N : Int)).toNatClampNeg = N := by rw [jn_nat (by omega) hj]; rfl
  have e2 : (0 : Int32) ≤ jn (N : Int) := by rw [show (0 : Int32) = jn 0 from rfl, jn_le ⟨by decide, by decide⟩ hj]; omega
  refine mj_T.step hc rfl (pc' := pc + 3) (loc' := loc) (st' := .ref n :: st) (h' := h ++ [.inl (r1, N, fun _ => .null)]) ?_ (k _ (s.opn _))
  simp only [mj_step, e1, s.1]
  rw [if_pos ⟨e2, by omega⟩]
/-- its length -/
theorem zCS.alen {b t N : Nat} {f : Nat → Value} (s : zCS K L R tm h0 a c fs [(b, .inl (t, N, f))] n h) (hc : M.2.2.2.2.1 pc = some (.arraylength, r1, r2, r3, r4, r5)) (k : mj_T D M (pc + 1) loc (.int (jn (N : Int)) :: st) h Q) : mj_T D M pc loc (.ref b :: st) h Q := mj_T.alen hc (s.2.2.2.2.2.1 (b, .inl (t, N, f)) List.mem_cons_self).2.2 k
/-- one of its places is filled -/
theorem zCS.aast {b t N i v kv : Nat} {f : Nat → Value} (s : zCS K L R tm h0 a c fs [(b, .inl (t, N, f))] n h) (hc : M.2.2.2.2.1 pc = some (.aastore, r1, r2, r3, r4, r5)) (hv : h0.length ≤ v ∧ v < n ∧ b ≠ v) (kv1 : K v = kv) (hk : 7 < kv) (hel : mj_el t = some (jkc kv)) (hi : i < N) (hN : N ≤ 1000) (k : ∀ h', zCS K L R tm h0 a c fs [(b, .inl (t, N, updV f i (.ref v)))] n h' → mj_T D M (pc + 1) loc st h' Q) : mj_T D M pc loc (.ref v :: .int (jn (i : Int)) :: .ref b :: st) h Q := by
  obtain ⟨s1, s2, s3, s4, s5, s6, s7⟩ := s
  obtain ⟨b1, b2, b3⟩ := s6 (b, .inl (t, N, f)) List.mem_cons_self
  have b1 : h0.length ≤ b := b1
  have b3 : h[b]? = some (.inl (t, N, f)) := b3
  obtain ⟨e, e1, e2⟩ := s7 v hv.1 hv.2.1 (fun p hp => by rw [List.mem_singleton.mp hp]; exact hv.2.2)
  rw [kv1] at e2
  have e2 := e2.1
  unfold jCf at e2
  rw [if_neg (by omega)] at e2
  obtain ⟨gs, rfl, _⟩ := e2
  have hj : jr (i : Int) := ⟨by omega, by omega⟩
  have g1 : mj_in (jn (i : Int)) N = true := by rw [jn_in hj]; exact decide_eq_true ⟨by omega, by omega⟩
  have g2 : (jn (i : Int)).toNatClampNeg = i := by rw [jn_nat (by omega) hj]; rfl
  refine mj_T.step hc rfl (pc' := pc + 1) (loc' := loc) (st' := st) (h' := h.set b (.inl (t, N, updV f i (.ref v)))) ?_ (k _ ⟨by rw [List.length_set]; exact s1, s2, s3, fun x hx hne => ?_, ?_, fun p hp => ?_, fun x h1 h2 h3 => ?_⟩)
  · simp only [mj_step, b3, e1, g1, g2, hel, and_self, if_true]
  · rw [List.getElem?_set_ne (by omega)]
    exact s4 x hx hne
  · rw [List.getElem?_set_ne (by omega)]
    exact s5
  · have hp := List.mem_singleton.mp hp
    subst hp
    exact ⟨b1, b2, List.getElem?_set_self (List.getElem?_eq_some_iff.mp b3).1⟩
  · have hne : b ≠ x := h3 (b, _) List.mem_cons_self
    rw [List.getElem?_set_ne hne]
    exact s7 x h1 h2 (fun p hp => by rw [List.mem_singleton.mp hp]; exact hne)
/-- it is full -/
theorem zCS.full {b t k : Nat} {N : Nat} {f : Nat → Value} (s : zCS K L R tm h0 a c fs [(b, .inl (t, N, f))] n h) (kb : K b = k) (hk : 4 ≤ k ∧ k ≤ 7) (ht : jak k = t) (hl : L b = N) (hf : ∀ i, i < N → f i = .ref (R b i)) : zCS K L R tm h0 a c fs [] n h := by
  subst ht hl
  refine s.cls ⟨?_, fun _ e => ?_⟩
  rotate_left
  · exfalso
    have q : k = 4 ∨ k = 5 ∨ k = 6 ∨ k = 7 := by omega
    rcases q with q | q | q | q
    · subst q
      exact absurd e (by decide)
    · subst q
      exact absurd e (by decide)
    · subst q
      exact absurd e (by decide)
    · subst q
      exact absurd e (by decide)
  rw [kb]
  unfold jCf
  rw [if_pos (by omega)]
  refine ⟨_, rfl, fun i => ?_⟩
  rw [if_neg (by omega), if_neg (by omega)]
  exact hf i
theorem zCf.obj (k : Nat) (hk : 7 < k) (ka : K a = k) (hc : jkc k = c) (hl : fs.length = (jfs k).length) (hf : ∀ i cd, (jfs k)[i]? = some cd → ∃ v, fs[i]? = some v ∧ jfv K R tm cd a i v) (hz : zZ (.inr (c, fs)) := by first | exact ⟨fun e => absurd e (by decide), fun e => absurd e (by decide), fun e => absurd e (by decide)⟩ | exact ⟨fun _ => ⟨rfl, rfl⟩, fun e => absurd e (by decide), fun e => absurd e (by decide)⟩ | exact ⟨fun e => absurd e (by decide), fun _ => rfl, fun e => absurd e (by decide)⟩ | exact ⟨fun e => absurd e (by decide), fun e => absurd e (by decide), fun _ => rfl⟩) : zCf K L R tm (K a) a (.inr (c, fs)) := ⟨jCf.obj k hk ka hc hl hf, fun _ => hz⟩
end JCSS
/-! The constructors once more. -/
theorem zk_85 {D n a : Nat} {h0 : mj_H} {K L : Nat → Nat} {R : Nat → Nat → Nat} {x : Nat} (ha : h0[a]? = some (.inr (8, [.null, .int 0, .int 0]))) (hn : h0.length = n) (o : okW K L R a n x) : mj_Ok (D + 1) 85 [.ref a, .int (jn (x : Int))] h0 (zDr K L R 0 h0 a (n + 1)) := by
  obtain ⟨o0, o1, o2, o3, o4, o5⟩ := o
  have s0 := zCS.beg (K := K) (L := L) (R := R) (tm := 0) ha hn
  refine mj_Ok.of (M := mj_m85) (loc := [some (.ref a), some (.int (jn (x : Int)))]) rfl rfl rfl ?_
  refine mj_T.pl rfl rfl rfl rfl ?_
  refine mj_T.prim rfl rfl rfl ?_
  iterate 2 refine mj_T.pl rfl rfl rfl rfl ?_
  refine jT.if0 rfl ⟨by omega, by omega⟩ (fun c => ?_) (fun c => ?_)
  · have c := of_decide_eq_true c
    omega
  · have c := of_decide_eq_false c
    iterate 2 refine mj_T.pl rfl rfl rfl rfl ?_
    refine zCS.arr (n := n) (x := (x : Int)) 1 s0 rfl (Or.inl rfl) rfl ⟨by omega, by omega⟩ o1 (by omega) (fun h11 s11 => ?_)
    refine zCS.put s11 rfl (Nat.le_of_ble_eq_true rfl) rfl (fun h12 s12 => ?_)
    refine mj_T.ret rfl rfl rfl ⟨rfl, s12.done (zCf.obj 18 (by decide) o0 rfl rfl (fun i cd hi => by
        match i, hi with
        | 0, hi => cases hi; exact ⟨_, rfl, jfv.ref (by decide) o2⟩
        | 1, hi => cases hi; exact ⟨_, rfl, jfv_mk (x := 0) rfl (by decide) (by decide)⟩
        | 2, hi => cases hi; exact ⟨_, rfl, jfv_mk (x := 0) rfl (by decide) (by decide)⟩
        | i + 3, hi => exact absurd hi (by simp [jfs])))⟩
theorem zk_29 {D n a : Nat} {h0 : mj_H} {K L : Nat → Nat} {R : Nat → Nat → Nat} {x : Nat} (ha : h0[a]? = some (.inr (2, [.null, .int 0, .int 0, .long 0]))) (hn : h0.length = n) (o : okD K L R a n x) : mj_Ok (D + 1) 29 [.ref a, .int (jn (x : Int))] h0 (zDr K L R 0 h0 a (n + 1)) := by
  obtain ⟨o0, o1, o2, o3, o4, o5⟩ := o
  have s0 := zCS.beg (K := K) (L := L) (R := R) (tm := 0) ha hn
  refine mj_Ok.of (M := mj_m29) (loc := [some (.ref a), some (.int (jn (x : Int)))]) rfl rfl rfl ?_
  refine mj_T.pl rfl rfl rfl rfl ?_
  refine mj_T.prim rfl rfl rfl ?_
  iterate 2 refine mj_T.pl rfl rfl rfl rfl ?_
  refine zCS.put s0 rfl (Nat.le_of_ble_eq_true rfl) rfl (fun h11 s11 => ?_)
  iterate 2 refine mj_T.pl rfl rfl rfl rfl ?_
  refine jT.if0 rfl ⟨by omega, by omega⟩ (fun c => ?_) (fun c => ?_)
  · have c := of_decide_eq_true c
    omega
  · have c := of_decide_eq_false c
    iterate 2 refine mj_T.pl rfl rfl rfl rfl ?_
    refine zCS.arr (n := n) (x := (x : Int)) 1 s11 rfl (Or.inl rfl) rfl ⟨by omega, by omega⟩ o1 (by omega) (fun h12 s12 => ?_)
    refine zCS.put s12 rfl (Nat.le_of_ble_eq_true rfl) rfl (fun h13 s13 => ?_)
    refine mj_T.ret rfl rfl rfl ⟨rfl, s13.done (zCf.obj 12 (by decide) o0 rfl rfl (fun i cd hi => by
        match i, hi with
        | 0, hi => cases hi; exact ⟨_, rfl, jfv.ref (by decide) o2⟩
        | 1, hi => cases hi; exact ⟨_, rfl, jfv_mk (x := 0) rfl (by decide) (by decide)⟩
        | 2, hi => cases hi; exact ⟨_, rfl, jfv_mk (x := 0) rfl (by decide) (by decide)⟩
        | 3, hi => cases hi; exact ⟨_, rfl, jfv.long (x := 1) ⟨by decide, by decide⟩⟩
        | i + 4, hi => exact absurd hi (by simp [jfs])))⟩
theorem zk_78 {D n a : Nat} {h0 : mj_H} {K L : Nat → Nat} {R : Nat → Nat → Nat} {x : Nat} (ha : h0[a]? = some (.inr (7, [.null, .int 0]))) (hn : h0.length = n) (o : okT K L R a n x) : mj_Ok (D + 1) 78 [.ref a, .int (jn (x : Int))] h0 (zDr K L R 0 h0 a (n + 1)) := by
  obtain ⟨o0, o1, o2, o3, o4, o5⟩ := o
  have s0 := zCS.beg (K := K) (L := L) (R := R) (tm := 0) ha hn
  refine mj_Ok.of (M := mj_m78) (loc := [some (.ref a), some (.int (jn (x : Int)))]) rfl rfl rfl ?_
  refine mj_T.pl rfl rfl rfl rfl ?_
  refine mj_T.prim rfl rfl rfl ?_
  iterate 2 refine mj_T.pl rfl rfl rfl rfl ?_
  refine jT.if0 rfl ⟨by omega, by omega⟩ (fun c => ?_) (fun c => ?_)
  · have c := of_decide_eq_true c
    omega
  · have c := of_decide_eq_false c
    iterate 2 refine mj_T.pl rfl rfl rfl rfl ?_
    refine zCS.arr (n := n) (x := (x : Int)) 3 s0 rfl (Or.inr (Or.inr rfl)) rfl ⟨by omega, by omega⟩ o1 (by omega) (fun h11 s11 => ?_)
    refine zCS.put s11 rfl (Nat.le_of_ble_eq_true rfl) rfl (fun h12 s12 => ?_)
    refine mj_T.ret rfl rfl rfl ⟨rfl, s12.done ?_⟩
    rcases o0 with o0 | o0
    · exact zCf.obj 17 (by decide) o0 rfl rfl (fun i cd hi => by
        match i, hi with
        | 0, hi => cases hi; exact ⟨_, rfl, jfv.ref (by decide) o2⟩
        | 1, hi => cases hi; exact ⟨_, rfl, jfv_mk (x := 0) rfl (by decide) (by decide)⟩
        | i + 2, hi => exact absurd hi (by simp [jfs]))
    · exact zCf.obj 27 (by decide) o0 rfl rfl (fun i cd hi => by
        match i, hi with
        | 0, hi => cases hi; exact ⟨_, rfl, jfv.ref (by decide) o2⟩
        | 1, hi => cases hi; exact ⟨_, rfl, jfv_mk (x := 0) rfl (by decide) (by decide)⟩
        | i + 2, hi => exact absurd hi (by simp [jfs]))
theorem zk_0 {D n a : Nat} {h0 : mj_H} {K L : Nat → Nat} {R : Nat → Nat → Nat} (ha : h0[a]? = some (.inr (0, [.null, .null, .null, .int 0]))) (hn : h0.length = n) (o : okB K L R a n) : mj_Ok (D + 1) 0 [.ref a] h0 (zDr K L R 0 h0 a (n + 9)) := by
  obtain ⟨o0, o1, o2, o3, ⟨o4, o5, o6⟩, o7, o8, o9, o10⟩ := o
  have s0 := zCS.beg (K := K) (L := L) (R := R) (tm := 0) ha hn
  refine mj_Ok.of (M := mj_m0) (loc := [some (.ref a)]) rfl rfl rfl ?_
  refine mj_T.pl rfl rfl rfl rfl ?_
  refine mj_T.prim rfl rfl rfl ?_
  iterate 3 refine mj_T.pl rfl rfl rfl rfl ?_
  refine zCS.rows (n := n) 6 s0 rfl (by decide) o4 o5 o6 (fun h11 s11 => ?_)
  refine zCS.put s11 rfl (Nat.le_of_ble_eq_true rfl) rfl (fun h12 s12 => ?_)
  iterate 2 refine mj_T.pl rfl rfl rfl rfl ?_
  refine zCS.arr (n := n + 7) (x := 6) 1 s12 rfl (Or.inl rfl) rfl ⟨by decide, by decide⟩ o7 (by rw [o8]; rfl) (fun h13 s13 => ?_)
  refine zCS.put s13 rfl (Nat.le_of_ble_eq_true rfl) rfl (fun h14 s14 => ?_)
  iterate 2 refine mj_T.pl rfl rfl rfl rfl ?_
  refine zCS.arr (n := n + 8) (x := 6) 1 s14 rfl (Or.inl rfl) rfl ⟨by decide, by decide⟩ o9 (by rw [o10]; rfl) (fun h15 s15 => ?_)
  refine zCS.put s15 rfl (Nat.le_of_ble_eq_true rfl) rfl (fun h16 s16 => ?_)
  exact mj_T.ret rfl rfl rfl ⟨rfl, s16.done (zCf.obj 10 (by decide) o0 rfl rfl (fun i cd hi => by
        match i, hi with
        | 0, hi => cases hi; exact ⟨_, rfl, jfv.ref (by decide) o1⟩
        | 1, hi => cases hi; exact ⟨_, rfl, jfv.ref (by decide) o2⟩
        | 2, hi => cases hi; exact ⟨_, rfl, jfv.ref (by decide) o3⟩
        | 3, hi => cases hi; exact ⟨_, rfl, jfv_mk (x := 0) rfl (by decide) (by decide)⟩
        | i + 4, hi => exact absurd hi (by simp [jfs])))⟩
theorem zk_35l {D n a : Nat} {h0 : mj_H} {K L : Nat → Nat} {R : Nat → Nat → Nat} {k s t : Nat} (hn : h0.length = n) (o : okP K L R a n k s t) : ∀ (d i : Nat) {f : Nat → Value} {h : mj_H}, i + d = k → (∀ j, j < i → f j = .ref (R (n + 2) j)) → zCS K L R 0 h0 a 3 [.ref (n + 2), .ref n, .int (jn (-1))] [(n + 2, .inl (5, k, f))] (n + 3 + 2 * i) h → mj_T (D + 1) mj_m35 40 [some (.ref a), some (.int (jn (k : Int))), some (.int (jn (s : Int))), some (.int (jn (t : Int))), some (.int (jn (i : Int)))] [] h (zDr K L R 0 h0 a (n + 3 + 2 * k)) := by
  obtain ⟨o0, o1, o2, o3, o4, o5, o6, o7, o8, o9, o10⟩ := o
  intro d
  induction d with
  | zero =>
    intro i f h hd hf s0
    have e : i = k := by omega
    subst e
    iterate 2 refine mj_T.pl rfl rfl rfl rfl ?_
    refine zCS.get s0 rfl rfl ?_
    refine zCS.alen s0 rfl ?_
    refine jT.icmp rfl ⟨by omega, by omega⟩ ⟨by omega, by omega⟩ (fun _ => ?_) (fun c => ?_)
    · exact mj_T.ret rfl rfl rfl ⟨rfl, (s0.full o4 ⟨by decide, by decide⟩ rfl o5 hf).done (zCf.obj 13 (by decide) o0 rfl rfl (fun i cd hi => by
            match i, hi with
            | 0, hi => cases hi; exact ⟨_, rfl, jfv.ref (by decide) o1⟩
            | 1, hi => cases hi; exact ⟨_, rfl, jfv.ref (by decide) o2⟩
            | 2, hi => cases hi; exact ⟨_, rfl, jfv_mk (x := -1) rfl (by decide) (by decide)⟩
            | i + 3, hi => exact absurd hi (by simp [jfs])))⟩
    · have c := of_decide_eq_false c
      omega
  | succ d ih =>
    intro i f h hd hf s0
    obtain ⟨p1, p2, p3⟩ := o10 i (by omega)
    iterate 2 refine mj_T.pl rfl rfl rfl rfl ?_
    refine zCS.get s0 rfl rfl ?_
    refine zCS.alen s0 rfl ?_
    refine jT.icmp rfl ⟨by omega, by omega⟩ ⟨by omega, by omega⟩ (fun c => ?_) (fun _ => ?_)
    · have c := of_decide_eq_true c
      omega
    refine mj_T.pl rfl rfl rfl rfl ?_
    refine zCS.get s0 rfl rfl ?_
    refine mj_T.pl rfl rfl rfl rfl ?_
    refine zCS.new (n := n + 3 + 2 * i) s0 rfl ?_
    iterate 4 refine mj_T.pl rfl rfl rfl rfl ?_
    refine mj_T.imul rfl ?_
    refine mj_T.isub rfl ?_
    refine mj_T.eq (st2 := [.int (jn ((((s : Int) - (t : Int) * (i : Int)).toNat : Nat) : Int)), .ref (n + 3 + 2 * i), .ref (n + 3 + 2 * i), .int (jn (i : Int)), .ref (n + 2)]) ?_ rfl rfl (by rw [Int.toNat_of_nonneg (by omega)]) rfl
    refine zCS.call (n := n + 3 + 2 * i) (N := n + 3 + 2 * i + 1 + 1) s0 rfl rfl (Nat.le_of_ble_eq_true rfl) (Nat.le_of_ble_eq_true rfl) rfl rfl (fun e1 e2 => zk_85 (D := D) e2 e1 p3) rfl (fun h1 s1 => ?_)
    refine zCS.aast (kv := 18) s1 rfl ⟨by omega, by omega, by omega⟩ p3.1 (by decide) rfl (by omega) (by omega) (fun h2 s2 => ?_)
    refine mj_T.iinc (a := (i : Int)) rfl rfl ?_
    refine mj_T.pl rfl rfl rfl rfl ?_
    refine ih (i + 1) (by omega) (fun j hj => ?_) s2
    unfold updV
    split
    · rename_i q
      subst q
      rw [p1]
    · exact hf j (by omega)
theorem zk_35 {D n a : Nat} {h0 : mj_H} {K L : Nat → Nat} {R : Nat → Nat → Nat} {k s t : Nat} (ha : h0[a]? = some (.inr (3, [.null, .null, .int 0]))) (hn : h0.length = n) (o : okP K L R a n k s t) : mj_Ok (D + 2) 35 [.ref a, .int (jn (k : Int)), .int (jn (s : Int)), .int (jn (t : Int))] h0 (zDr K L R 0 h0 a (n + 3 + 2 * k)) := by
  have ok := o
  obtain ⟨o0, o1, o2, o3, o4, o5, o6, o7, o8, o9, o10⟩ := o
  have s0 := zCS.beg (K := K) (L := L) (R := R) (tm := 0) ha hn
  refine mj_Ok.of (M := mj_m35) (loc := [some (.ref a), some (.int (jn (k : Int))), some (.int (jn (s : Int))), some (.int (jn (t : Int))), none]) rfl rfl rfl ?_
  refine mj_T.pl rfl rfl rfl rfl ?_
  refine mj_T.prim rfl rfl rfl ?_
  refine mj_T.pl rfl rfl rfl rfl ?_
  refine zCS.new (n := n) s0 rfl ?_
  iterate 2 refine mj_T.pl rfl rfl rfl rfl ?_
  refine zCS.call (n := n) (N := n + 2) s0 rfl rfl (Nat.le_of_ble_eq_true rfl) (Nat.le_of_ble_eq_true rfl) rfl rfl (fun e1 e2 => zk_85 (D := D) (x := 1) e2 e1 o3) rfl (fun h11 s11 => ?_)
  refine zCS.put s11 rfl (Nat.le_of_ble_eq_true rfl) rfl (fun h12 s12 => ?_)
  iterate 2 refine mj_T.pl rfl rfl rfl rfl ?_
  refine zCS.put s12 rfl (Nat.le_of_ble_eq_true rfl) rfl (fun h13 s13 => ?_)
  iterate 2 refine mj_T.pl rfl rfl rfl rfl ?_
  refine jT.if0 rfl ⟨by omega, by omega⟩ (fun c => ?_) (fun c => ?_)
  · have c := of_decide_eq_true c
    omega
  · have c := of_decide_eq_false c
    iterate 2 refine mj_T.pl rfl rfl rfl rfl ?_
    refine zCS.arrO (n := n + 2) k s13 rfl (by omega) (fun h14 s14 => ?_)
    refine zCS.put s14 rfl (Nat.le_of_ble_eq_true rfl) rfl (fun h15 s15 => ?_)
    iterate 2 refine mj_T.pl rfl rfl rfl rfl ?_
    exact zk_35l hn ok k 0 (by omega) (fun j hj => absurd hj (by omega)) s15
theorem zk_10 {D n a : Nat} {h0 : mj_H} {K L : Nat → Nat} {R : Nat → Nat → Nat} (ha : h0[a]? = some (.inr (1, [.null, .null, .null, .null, .null, .null, .null, .null]))) (hn : h0.length = n) (o : okK K L R a n) : mj_Ok (D + 3) 10 [.ref a] h0 (zDr K L R 0 h0 a (n + 152)) := by
  obtain ⟨o0, ⟨q0, q1, q2, q3, q4, q5, q6, q7⟩, p0, p1, p2, p3, w4, w5, w6, w7⟩ := o
  have s0 := zCS.beg (K := K) (L := L) (R := R) (tm := 0) ha hn
  refine mj_Ok.of (M := mj_m10) (loc := [some (.ref a)]) rfl rfl rfl ?_
  refine mj_T.pl rfl rfl rfl rfl ?_
  refine mj_T.prim rfl rfl rfl ?_
  refine mj_T.pl rfl rfl rfl rfl ?_
  refine zCS.new (n := n) s0 rfl ?_
  iterate 4 refine mj_T.pl rfl rfl rfl rfl ?_
  refine zCS.call (n := n) (N := n + 30) s0 rfl rfl (Nat.le_of_ble_eq_true rfl) (Nat.le_of_ble_eq_true rfl) rfl rfl (fun e1 e2 => zk_35 (D := D) (k := 13) (s := 30) (t := 0) e2 e1 p0) rfl (fun h11 s11 => ?_)
  refine zCS.put s11 rfl (Nat.le_of_ble_eq_true rfl) rfl (fun h12 s12 => ?_)
  refine mj_T.pl rfl rfl rfl rfl ?_
  refine zCS.new (n := n + 30) s12 rfl ?_
  iterate 4 refine mj_T.pl rfl rfl rfl rfl ?_
  refine zCS.call (n := n + 30) (N := n + 60) s12 rfl rfl (Nat.le_of_ble_eq_true rfl) (Nat.le_of_ble_eq_true rfl) rfl rfl (fun e1 e2 => zk_35 (D := D) (k := 13) (s := 30) (t := 0) e2 e1 p1) rfl (fun h13 s13 => ?_)
  refine zCS.put s13 rfl (Nat.le_of_ble_eq_true rfl) rfl (fun h14 s14 => ?_)
  refine mj_T.pl rfl rfl rfl rfl ?_
  refine zCS.new (n := n + 60) s14 rfl ?_
  iterate 4 refine mj_T.pl rfl rfl rfl rfl ?_
  refine zCS.call (n := n + 60) (N := n + 90) s14 rfl rfl (Nat.le_of_ble_eq_true rfl) (Nat.le_of_ble_eq_true rfl) rfl rfl (fun e1 e2 => zk_35 (D := D) (k := 13) (s := 236) (t := 0) e2 e1 p2) rfl (fun h15 s15 => ?_)
  refine zCS.put s15 rfl (Nat.le_of_ble_eq_true rfl) rfl (fun h16 s16 => ?_)
  refine mj_T.pl rfl rfl rfl rfl ?_
  refine zCS.new (n := n + 90) s16 rfl ?_
  iterate 4 refine mj_T.pl rfl rfl rfl rfl ?_
  refine zCS.call (n := n + 90) (N := n + 144) s16 rfl rfl (Nat.le_of_ble_eq_true rfl) (Nat.le_of_ble_eq_true rfl) rfl rfl (fun e1 e2 => zk_35 (D := D) (k := 25) (s := 6) (t := 0) e2 e1 p3) rfl (fun h17 s17 => ?_)
  refine zCS.put s17 rfl (Nat.le_of_ble_eq_true rfl) rfl (fun h18 s18 => ?_)
  refine mj_T.pl rfl rfl rfl rfl ?_
  refine zCS.new (n := n + 144) s18 rfl ?_
  iterate 2 refine mj_T.pl rfl rfl rfl rfl ?_
  refine zCS.call (n := n + 144) (N := n + 146) s18 rfl rfl (Nat.le_of_ble_eq_true rfl) (Nat.le_of_ble_eq_true rfl) rfl rfl (fun e1 e2 => zk_85 (D := D + 1) (x := 240) e2 e1 w4) rfl (fun h19 s19 => ?_)
  refine zCS.put s19 rfl (Nat.le_of_ble_eq_true rfl) rfl (fun h20 s20 => ?_)
  refine mj_T.pl rfl rfl rfl rfl ?_
  refine zCS.new (n := n + 146) s20 rfl ?_
  iterate 2 refine mj_T.pl rfl rfl rfl rfl ?_
  refine zCS.call (n := n + 146) (N := n + 148) s20 rfl rfl (Nat.le_of_ble_eq_true rfl) (Nat.le_of_ble_eq_true rfl) rfl rfl (fun e1 e2 => zk_85 (D := D + 1) (x := 240) e2 e1 w5) rfl (fun h21 s21 => ?_)
  refine zCS.put s21 rfl (Nat.le_of_ble_eq_true rfl) rfl (fun h22 s22 => ?_)
  refine mj_T.pl rfl rfl rfl rfl ?_
  refine zCS.new (n := n + 148) s22 rfl ?_
  iterate 2 refine mj_T.pl rfl rfl rfl rfl ?_
  refine zCS.call (n := n + 148) (N := n + 150) s22 rfl rfl (Nat.le_of_ble_eq_true rfl) (Nat.le_of_ble_eq_true rfl) rfl rfl (fun e1 e2 => zk_85 (D := D + 1) (x := 40) e2 e1 w6) rfl (fun h23 s23 => ?_)
  refine zCS.put s23 rfl (Nat.le_of_ble_eq_true rfl) rfl (fun h24 s24 => ?_)
  refine mj_T.pl rfl rfl rfl rfl ?_
  refine zCS.new (n := n + 150) s24 rfl ?_
  iterate 2 refine mj_T.pl rfl rfl rfl rfl ?_
  refine zCS.call (n := n + 150) (N := n + 152) s24 rfl rfl (Nat.le_of_ble_eq_true rfl) (Nat.le_of_ble_eq_true rfl) rfl rfl (fun e1 e2 => zk_29 (D := D + 1) (x := 60) e2 e1 w7) rfl (fun h25 s25 => ?_)
  refine zCS.put s25 rfl (Nat.le_of_ble_eq_true rfl) rfl (fun h26 s26 => ?_)
  exact mj_T.ret rfl rfl rfl ⟨rfl, s26.done (zCf.obj 11 (by decide) o0 rfl rfl (fun i cd hi => by
        match i, hi with
        | 0, hi => cases hi; exact ⟨_, rfl, jfv.ref (by decide) q0⟩
        | 1, hi => cases hi; exact ⟨_, rfl, jfv.ref (by decide) q1⟩
        | 2, hi => cases hi; exact ⟨_, rfl, jfv.ref (by decide) q2⟩
        | 3, hi => cases hi; exact ⟨_, rfl, jfv.ref (by decide) q3⟩
        | 4, hi => cases hi; exact ⟨_, rfl, jfv.ref (by decide) q4⟩
        | 5, hi => cases hi; exact ⟨_, rfl, jfv.ref (by decide) q5⟩
        | 6, hi => cases hi; exact ⟨_, rfl, jfv.ref (by decide) q6⟩
        | 7, hi => cases hi; exact ⟨_, rfl, jfv.ref (by decide) q7⟩
        | i + 8, hi => exact absurd hi (by simp [jfs])))⟩
/-! The constructors once more: setLong, Sturm, Roots, Reader. -/
theorem zCS.setL {D pc : Nat} {M : mj_M} {loc : mj_L} {st : List Value} {h h0 : mj_H} {Q : mj_R → Prop} {r3 r4 : Nat} {K L : Nat → Nat} {R : Nat → Nat → Nat} {a c n : Nat} {fs : List Value} {ix w x : Nat} {z : Int} (s : zCS K L R 0 h0 a c fs [] n h) (hc : M.2.2.2.2.1 pc = some (.invokevirtual ix, 86, 2, r3, r4, 8)) (hk : mj_kind (.invokevirtual ix) r3 = 3) (hcat : mj_cat st ≤ 8) (hM : M.2.2.2.2.2.1 = []) (hz : jR z) (hw : h0.length ≤ w ∧ w + 1 < n) (o : okW K L R w (w + 1) x) (hzw : zW w) (k : ∀ h', zCS K L R 0 h0 a c fs [] n h' → mj_T (D + 1) M (pc + 3) loc st h' Q) : mj_T (D + 1) M pc loc (.long (jl z) :: .ref w :: st) h Q := by
  have ty := jK2_ty o
  obtain ⟨s1, s2, s3, s4, s5, s6, s7⟩ := s
  have kw : jK2 w w = 18 := by unfold jK2; rw [if_pos rfl]
  have kw1 : jK2 w (w + 1) = 1 := by unfold jK2; rw [if_neg (by omega), if_pos rfl]
  have kz : ∀ y, y ≠ w → y ≠ w + 1 → jK2 w y = 0 := fun y h1 h2 => by unfold jK2; rw [if_neg h1, if_neg h2]
  have ho : jO (jK2 w) L R h n 0 h := by
    refine ⟨s1, ⟨by decide, by decide⟩, fun _ _ => ⟨fun _ => rfl, fun p q => absurd p (by omega)⟩, fun y hy => ?_⟩
    by_cases q1 : y = w
    · subst q1
      obtain ⟨e, e1, e2⟩ := s7 y hw.1 (by omega) (fun p hp => (List.not_mem_nil hp).elim)
      rw [o.1] at e2
      exact ⟨e, e1, by rw [kw]; exact e2.1.mv (Or.inr rfl)⟩
    · by_cases q2 : y = w + 1
      · subst q2
        obtain ⟨e, e1, e2⟩ := s7 (w + 1) (by omega) hw.2 (fun p hp => (List.not_mem_nil hp).elim)
        rw [o.2.1] at e2
        exact ⟨e, e1, by rw [kw1]; exact e2.1.mv (Or.inl rfl)⟩
      · exact absurd (kz y q1 q2) hy
  refine mj_T.call hc hk (Nat.le_add_left _ _) hcat (jrv_of ho kw (by decide) rfl (by decide) rfl ix) rfl (jc_86 (D := D) ty (Nat.le_of_eq s1) ho kw hz) (fun v h' hq => ?_) (fun i h' hq => ?_)
  · obtain ⟨hv, ho'⟩ := hq
    cases hv
    obtain ⟨t1, _, t3, t4⟩ := ho'
    have old : ∀ y, y < n → y ≠ w → y ≠ w + 1 → h'[y]? = h[y]? := fun y h1 h2 h3 => (t3 y (kz y h2 h3)).1 (by omega)
    refine k h' ⟨t1, s2, s3, fun y hy hne => ?_, ?_, fun p hp => (List.not_mem_nil hp).elim, fun y h1 h2 _ => ?_⟩
    · rw [old y (by omega) (by omega) (by omega)]
      exact s4 y hy hne
    · rw [old a (by omega) (by omega) (by omega)]
      exact s5
    · by_cases q1 : y = w
      · subst q1
        obtain ⟨e, e1, e2⟩ := t4 y (by rw [kw]; decide)
        rw [kw] at e2
        exact ⟨e, e1, by rw [o.1]; exact e2.mv (Or.inr rfl), fun q => absurd hzw q⟩
      · by_cases q2 : y = w + 1
        · subst q2
          obtain ⟨e, e1, e2⟩ := t4 (w + 1) (by rw [kw1]; decide)
          rw [kw1] at e2
          have e3 := e2
          unfold jCf at e3
          rw [if_pos (by decide)] at e3
          obtain ⟨f3, e4, _⟩ := e3
          exact ⟨e, e1, by rw [o.2.1]; exact e2.mv (Or.inl rfl), fun _ => by rw [e4]; exact fun q => absurd q (by decide)⟩
        · rw [old y h2 q1 q2]
          exact s7 y h1 h2 (fun p hp => (List.not_mem_nil hp).elim)
  · exact absurd hq.1 List.not_mem_nil
theorem zk_67l {D n a : Nat} {h0 : mj_H} {K L : Nat → Nat} {R : Nat → Nat → Nat} {dd : Nat} (hn : h0.length = n) (o : okS K L R a n dd) : ∀ (d i : Nat) {f : Nat → Value} {h : mj_H}, i + d = 14 → (∀ j, j < i → f j = .ref (R n j)) → zCS K L R 0 h0 a 6 [.ref dd, .ref n, .int 0, .ref (n + 1), .ref (n + 3), .ref (n + 5)] [(n, .inl (4, 14, f))] (n + jst i) h → mj_T (D + 2) mj_m67 58 [some (.ref a), some (.ref dd), some (.int (jn (i : Int)))] [] h (zDr K L R 0 h0 a (n + jst 14)) := by
  obtain ⟨o0, ⟨q0, q1, q3, q4, q5⟩, o1, o2, o3, o4, o5, o6⟩ := o
  intro d
  induction d with
  | zero =>
    intro i f h hd hf s0
    have e : i = 14 := by omega
    subst e
    iterate 2 refine mj_T.pl rfl rfl rfl rfl ?_
    refine zCS.get s0 rfl rfl ?_
    refine zCS.alen s0 rfl ?_
    refine jT.icmp (a := 14) (b := 14) rfl ⟨by omega, by omega⟩ ⟨by omega, by omega⟩ (fun _ => ?_) (fun c => ?_)
    · exact mj_T.ret rfl rfl rfl ⟨rfl, (s0.full o1 ⟨by decide, by decide⟩ rfl o2 hf).done (zCf.obj 16 (by decide) o0 rfl rfl (fun i cd hi => by
        match i, hi with
        | 0, hi => cases hi; exact ⟨_, rfl, jfv.ref (by decide) q0⟩
        | 1, hi => cases hi; exact ⟨_, rfl, jfv.ref (by decide) q1⟩
        | 2, hi => cases hi; exact ⟨_, rfl, jfv_mk (x := 0) rfl (by decide) (by decide)⟩
        | 3, hi => cases hi; exact ⟨_, rfl, jfv.ref (by decide) q3⟩
        | 4, hi => cases hi; exact ⟨_, rfl, jfv.ref (by decide) q4⟩
        | 5, hi => cases hi; exact ⟨_, rfl, jfv.ref (by decide) q5⟩
        | i + 6, hi => exact absurd hi (by simp [jfs])))⟩
    · exact absurd c (by decide)
  | succ d ih =>
    intro i f h hd hf s0
    obtain ⟨p1, p2⟩ := o6 i (by omega)
    obtain ⟨g1, g2⟩ := jst_s i (by omega)
    have ee : n + jst i + 1 + 3 + 2 * jsk i = n + jst (i + 1) := by omega
    have hfn : ∀ j, j < i + 1 → updV f i (.ref (n + jst i)) j = .ref (R n j) := by
      intro j hj
      unfold updV
      split
      · rename_i q
        subst q
        rw [p1]
      · exact hf j (by omega)
    iterate 2 refine mj_T.pl rfl rfl rfl rfl ?_
    refine zCS.get s0 rfl rfl ?_
    refine zCS.alen s0 rfl ?_
    refine jT.icmp (a := (i : Int)) (b := 14) rfl ⟨by omega, by omega⟩ ⟨by omega, by omega⟩ (fun c => ?_) (fun _ => ?_)
    · have c := of_decide_eq_true c
      omega
    refine mj_T.pl rfl rfl rfl rfl ?_
    refine zCS.get s0 rfl rfl ?_
    iterate 3 refine mj_T.pl rfl rfl rfl rfl ?_
    refine jT.icmp (a := (i : Int)) (b := 2) rfl ⟨by omega, by omega⟩ ⟨by omega, by omega⟩ (fun c => ?_) (fun c => ?_)
    · have c := of_decide_eq_true c
      have e1 : jsk i = 14 - i := by unfold jsk; rw [if_neg (by omega)]
      have e2 : jss i = 56 := by unfold jss; rw [if_neg (by omega)]
      have e3 : jsu i = 4 := by unfold jsu; rw [if_neg (by omega)]
      refine zCS.new (n := n + jst i) s0 rfl ?_
      iterate 3 refine mj_T.pl rfl rfl rfl rfl ?_
      refine mj_T.isub rfl ?_
      refine mj_T.eq (st2 := [.int (jn ((jsk i : Nat) : Int)), .ref (n + jst i), .ref (n + jst i), .int (jn (i : Int)), .ref n]) ?_ rfl rfl (by rw [e1, show ((14 - i : Nat) : Int) = 14 - (i : Int) by omega]) rfl
      iterate 2 refine mj_T.pl rfl rfl rfl rfl ?_
      refine mj_T.eq (st2 := [.int (jn ((jsu i : Nat) : Int)), .int (jn ((jss i : Nat) : Int)), .int (jn ((jsk i : Nat) : Int)), .ref (n + jst i), .ref (n + jst i), .int (jn (i : Int)), .ref n]) ?_ rfl rfl (by rw [e2, e3]; rfl) rfl
      refine zCS.call (n := n + jst i) (N := n + jst i + 1 + 3 + 2 * jsk i) s0 rfl rfl (Nat.le_of_ble_eq_true rfl) (Nat.le_of_ble_eq_true rfl) rfl rfl (fun e1 e2 => zk_35 (D := D) e2 e1 p2) rfl (fun h1 s1 => ?_)
      rw [ee] at s1
      refine zCS.aast (kv := 13) s1 rfl ⟨by omega, by omega, by omega⟩ p2.1 (by decide) rfl (by omega) (by decide) (fun h2 s2 => ?_)
      refine mj_T.iinc (a := (i : Int)) rfl rfl ?_
      refine mj_T.pl rfl rfl rfl rfl ?_
      exact ih (i + 1) (by omega) hfn s2
    · have c := of_decide_eq_false c
      have e1 : jsk i = 13 := by unfold jsk; rw [if_pos (by omega)]
      have e2 : jss i = 30 := by unfold jss; rw [if_pos (by omega)]
      have e3 : jsu i = 2 := by unfold jsu; rw [if_pos (by omega)]
      refine zCS.new (n := n + jst i) s0 rfl ?_
      iterate 4 refine mj_T.pl rfl rfl rfl rfl ?_
      refine mj_T.eq (st2 := [.int (jn ((jsu i : Nat) : Int)), .int (jn ((jss i : Nat) : Int)), .int (jn ((jsk i : Nat) : Int)), .ref (n + jst i), .ref (n + jst i), .int (jn (i : Int)), .ref n]) ?_ rfl rfl (by rw [e1, e2, e3]; rfl) rfl
      refine zCS.call (n := n + jst i) (N := n + jst i + 1 + 3 + 2 * jsk i) s0 rfl rfl (Nat.le_of_ble_eq_true rfl) (Nat.le_of_ble_eq_true rfl) rfl rfl (fun e1 e2 => zk_35 (D := D) e2 e1 p2) rfl (fun h1 s1 => ?_)
      rw [ee] at s1
      refine mj_T.pl rfl rfl rfl rfl ?_
      refine zCS.aast (kv := 13) s1 rfl ⟨by omega, by omega, by omega⟩ p2.1 (by decide) rfl (by omega) (by decide) (fun h2 s2 => ?_)
      refine mj_T.iinc (a := (i : Int)) rfl rfl ?_
      refine mj_T.pl rfl rfl rfl rfl ?_
      exact ih (i + 1) (by omega) hfn s2
theorem zk_67 {D n a : Nat} {h0 : mj_H} {K L : Nat → Nat} {R : Nat → Nat → Nat} {dd : Nat} (ha : h0[a]? = some (.inr (6, [.null, .null, .int 0, .null, .null, .null]))) (hn : h0.length = n) (o : okS K L R a n dd) : mj_Ok (D + 3) 67 [.ref a, .ref dd] h0 (zDr K L R 0 h0 a (n + jst 14)) := by
  have ok := o
  obtain ⟨o0, q, o1, o2, o3, o4, o5, o6⟩ := o
  have s0 := zCS.beg (K := K) (L := L) (R := R) (tm := 0) ha hn
  refine mj_Ok.of (M := mj_m67) (loc := [some (.ref a), some (.ref dd), none]) rfl rfl rfl ?_
  refine mj_T.pl rfl rfl rfl rfl ?_
  refine mj_T.prim rfl rfl rfl ?_
  iterate 2 refine mj_T.pl rfl rfl rfl rfl ?_
  refine zCS.arrO (n := n) 14 s0 rfl (by decide) (fun h11 s11 => ?_)
  refine zCS.put s11 rfl (Nat.le_of_ble_eq_true rfl) rfl (fun h12 s12 => ?_)
  refine mj_T.pl rfl rfl rfl rfl ?_
  refine zCS.new (n := n + 1) s12 rfl ?_
  iterate 2 refine mj_T.pl rfl rfl rfl rfl ?_
  refine zCS.call (n := n + 1) (N := n + 3) s12 rfl rfl (Nat.le_of_ble_eq_true rfl) (Nat.le_of_ble_eq_true rfl) rfl rfl (fun e1 e2 => zk_85 (D := D + 1) (x := 60) e2 e1 o3) rfl (fun h13 s13 => ?_)
  refine zCS.put s13 rfl (Nat.le_of_ble_eq_true rfl) rfl (fun h14 s14 => ?_)
  refine mj_T.pl rfl rfl rfl rfl ?_
  refine zCS.new (n := n + 3) s14 rfl ?_
  iterate 2 refine mj_T.pl rfl rfl rfl rfl ?_
  refine zCS.call (n := n + 3) (N := n + 5) s14 rfl rfl (Nat.le_of_ble_eq_true rfl) (Nat.le_of_ble_eq_true rfl) rfl rfl (fun e1 e2 => zk_85 (D := D + 1) (x := 60) e2 e1 o4) rfl (fun h15 s15 => ?_)
  refine zCS.put s15 rfl (Nat.le_of_ble_eq_true rfl) rfl (fun h16 s16 => ?_)
  refine mj_T.pl rfl rfl rfl rfl ?_
  refine zCS.new (n := n + 5) s16 rfl ?_
  iterate 2 refine mj_T.pl rfl rfl rfl rfl ?_
  refine zCS.call (n := n + 5) (N := n + 7) s16 rfl rfl (Nat.le_of_ble_eq_true rfl) (Nat.le_of_ble_eq_true rfl) rfl rfl (fun e1 e2 => zk_85 (D := D + 1) (x := 3) e2 e1 o5) rfl (fun h17 s17 => ?_)
  refine zCS.put s17 rfl (Nat.le_of_ble_eq_true rfl) rfl (fun h18 s18 => ?_)
  iterate 2 refine mj_T.pl rfl rfl rfl rfl ?_
  refine zCS.put s18 rfl (Nat.le_of_ble_eq_true rfl) rfl (fun h19 s19 => ?_)
  iterate 2 refine mj_T.pl rfl rfl rfl rfl ?_
  exact zk_67l hn ok 14 0 rfl (fun j hj => absurd hj (by omega)) s19
theorem zk_58 {D n a : Nat} {h0 : mj_H} {K L : Nat → Nat} {R : Nat → Nat → Nat} {dd u : Nat} (ha : h0[a]? = some (.inr (5, [.null, .null, .int 0, .int 0, .int 0, .long 0, .null, .int 0, .null, .null, .null, .null]))) (hn : h0.length = n) (o : okR K L R a n dd u) (hzw : zW (n + 8)) : mj_Ok (D + 2) 58 [.ref a, .ref dd, .ref u] h0 (zDr K L R 0 h0 a (n + 10)) := by
  obtain ⟨o0, ⟨q0, q1, q6, q8, q9, q10, q11⟩, w0, w1, w2, w3, w4⟩ := o
  have s0 := zCS.beg (K := K) (L := L) (R := R) (tm := 0) ha hn
  refine mj_Ok.of (M := mj_m58) (loc := [some (.ref a), some (.ref dd), some (.ref u)]) rfl rfl rfl ?_
  refine mj_T.pl rfl rfl rfl rfl ?_
  refine mj_T.prim rfl rfl rfl ?_
  refine mj_T.pl rfl rfl rfl rfl ?_
  refine zCS.new (n := n) s0 rfl ?_
  iterate 2 refine mj_T.pl rfl rfl rfl rfl ?_
  refine zCS.call (n := n) (N := n + 2) s0 rfl rfl (Nat.le_of_ble_eq_true rfl) (Nat.le_of_ble_eq_true rfl) rfl rfl (fun e1 e2 => zk_85 (D := D) (x := 12) e2 e1 w0) rfl (fun h11 s11 => ?_)
  refine zCS.put s11 rfl (Nat.le_of_ble_eq_true rfl) rfl (fun h12 s12 => ?_)
  refine mj_T.pl rfl rfl rfl rfl ?_
  refine zCS.new (n := n + 2) s12 rfl ?_
  iterate 2 refine mj_T.pl rfl rfl rfl rfl ?_
  refine zCS.call (n := n + 2) (N := n + 4) s12 rfl rfl (Nat.le_of_ble_eq_true rfl) (Nat.le_of_ble_eq_true rfl) rfl rfl (fun e1 e2 => zk_85 (D := D) (x := 12) e2 e1 w1) rfl (fun h13 s13 => ?_)
  refine zCS.put s13 rfl (Nat.le_of_ble_eq_true rfl) rfl (fun h14 s14 => ?_)
  refine mj_T.pl rfl rfl rfl rfl ?_
  refine zCS.new (n := n + 4) s14 rfl ?_
  iterate 2 refine mj_T.pl rfl rfl rfl rfl ?_
  refine zCS.call (n := n + 4) (N := n + 6) s14 rfl rfl (Nat.le_of_ble_eq_true rfl) (Nat.le_of_ble_eq_true rfl) rfl rfl (fun e1 e2 => zk_85 (D := D) (x := 12) e2 e1 w2) rfl (fun h15 s15 => ?_)
  refine zCS.put s15 rfl (Nat.le_of_ble_eq_true rfl) rfl (fun h16 s16 => ?_)
  refine mj_T.pl rfl rfl rfl rfl ?_
  refine zCS.new (n := n + 6) s16 rfl ?_
  iterate 2 refine mj_T.pl rfl rfl rfl rfl ?_
  refine zCS.call (n := n + 6) (N := n + 8) s16 rfl rfl (Nat.le_of_ble_eq_true rfl) (Nat.le_of_ble_eq_true rfl) rfl rfl (fun e1 e2 => zk_85 (D := D) (x := 12) e2 e1 w3) rfl (fun h17 s17 => ?_)
  refine zCS.put s17 rfl (Nat.le_of_ble_eq_true rfl) rfl (fun h18 s18 => ?_)
  refine mj_T.pl rfl rfl rfl rfl ?_
  refine zCS.new (n := n + 8) s18 rfl ?_
  iterate 2 refine mj_T.pl rfl rfl rfl rfl ?_
  refine zCS.call (n := n + 8) (N := n + 10) s18 rfl rfl (Nat.le_of_ble_eq_true rfl) (Nat.le_of_ble_eq_true rfl) rfl rfl (fun e1 e2 => zk_85 (D := D) (x := 1) e2 e1 w4) rfl (fun h19 s19 => ?_)
  refine zCS.put s19 rfl (Nat.le_of_ble_eq_true rfl) rfl (fun h20 s20 => ?_)
  iterate 2 refine mj_T.pl rfl rfl rfl rfl ?_
  refine zCS.put s20 rfl (Nat.le_of_ble_eq_true rfl) rfl (fun h21 s21 => ?_)
  iterate 2 refine mj_T.pl rfl rfl rfl rfl ?_
  refine zCS.put s21 rfl (Nat.le_of_ble_eq_true rfl) rfl (fun h22 s22 => ?_)
  refine mj_T.pl rfl rfl rfl rfl ?_
  refine zCS.get s22 rfl rfl ?_
  refine mj_T.pl rfl rfl rfl rfl ?_
  refine zCS.setL (w := n + 8) (x := 1) (z := 1) s22 rfl rfl (Nat.le_of_ble_eq_true rfl) rfl ⟨by decide, by decide⟩ ⟨by omega, by omega⟩ w4 hzw (fun h9 s9 => ?_)
  exact mj_T.ret rfl rfl rfl ⟨rfl, s9.done (zCf.obj 15 (by decide) o0 rfl rfl (fun i cd hi => by
        match i, hi with
        | 0, hi => cases hi; exact ⟨_, rfl, jfv.ref (by decide) q0⟩
        | 1, hi => cases hi; exact ⟨_, rfl, jfv.ref (by decide) q1⟩
        | 2, hi => cases hi; exact ⟨_, rfl, jfv_mk (x := 0) rfl (by decide) (by decide)⟩
        | 3, hi => cases hi; exact ⟨_, rfl, jfv_mk (x := 0) rfl (by decide) (by decide)⟩
        | 4, hi => cases hi; exact ⟨_, rfl, jfv_mk (x := 0) rfl (by decide) (by decide)⟩
        | 5, hi => cases hi; exact ⟨_, rfl, jfv.long (x := 0) ⟨by decide, by decide⟩⟩
        | 6, hi => cases hi; exact ⟨_, rfl, jfv.ref (by decide) q6⟩
        | 7, hi => cases hi; exact ⟨_, rfl, jfv_mk (x := 0) rfl (by decide) (by decide)⟩
        | 8, hi => cases hi; exact ⟨_, rfl, jfv.ref (by decide) q8⟩
        | 9, hi => cases hi; exact ⟨_, rfl, jfv.ref (by decide) q9⟩
        | 10, hi => cases hi; exact ⟨_, rfl, jfv.ref (by decide) q10⟩
        | 11, hi => cases hi; exact ⟨_, rfl, jfv.ref (by decide) q11⟩
        | i + 12, hi => exact absurd hi (by simp [jfs])))⟩
theorem zk_45 {D n a : Nat} {h0 : mj_H} {K L : Nat → Nat} {R : Nat → Nat → Nat} {dd u : Nat} (ha : h0[a]? = some (.inr (4, [.null, .null, .int 0, .int 0, .int 0, .null, .null, .null]))) (hn : h0.length = n) (o : okE K L R a n dd u) : mj_Ok (D + 1) 45 [.ref a, .ref dd, .ref u] h0 (zDr K L R 0 h0 a (n + 21)) := by
  obtain ⟨o0, ⟨q0, q1, q5, q6, q7⟩, ⟨m0, m1, m2⟩, ⟨m3, m4, m5⟩, l0, l1⟩ := o
  have s0 := zCS.beg (K := K) (L := L) (R := R) (tm := 0) ha hn
  refine mj_Ok.of (M := mj_m45) (loc := [some (.ref a), some (.ref dd), some (.ref u)]) rfl rfl rfl ?_
  refine mj_T.pl rfl rfl rfl rfl ?_
  refine mj_T.prim rfl rfl rfl ?_
  iterate 2 refine mj_T.pl rfl rfl rfl rfl ?_
  refine zCS.put s0 rfl (Nat.le_of_ble_eq_true rfl) rfl (fun h11 s11 => ?_)
  iterate 3 refine mj_T.pl rfl rfl rfl rfl ?_
  refine zCS.rows (n := n) 9 s11 rfl (by decide) m0 m1 m2 (fun h12 s12 => ?_)
  refine zCS.put s12 rfl (Nat.le_of_ble_eq_true rfl) rfl (fun h13 s13 => ?_)
  iterate 3 refine mj_T.pl rfl rfl rfl rfl ?_
  refine zCS.rows (n := n + 10) 9 s13 rfl (by decide) m3 m4 m5 (fun h14 s14 => ?_)
  refine zCS.put s14 rfl (Nat.le_of_ble_eq_true rfl) rfl (fun h15 s15 => ?_)
  iterate 2 refine mj_T.pl rfl rfl rfl rfl ?_
  refine zCS.arr (n := n + 20) (x := 13) 2 s15 rfl (Or.inr (Or.inl rfl)) rfl ⟨by decide, by decide⟩ l0 (by rw [l1]; rfl) (fun h16 s16 => ?_)
  refine zCS.put s16 rfl (Nat.le_of_ble_eq_true rfl) rfl (fun h17 s17 => ?_)
  iterate 2 refine mj_T.pl rfl rfl rfl rfl ?_
  refine zCS.put s17 rfl (Nat.le_of_ble_eq_true rfl) rfl (fun h18 s18 => ?_)
  iterate 2 refine mj_T.pl rfl rfl rfl rfl ?_
  refine zCS.put s18 rfl (Nat.le_of_ble_eq_true rfl) rfl (fun h19 s19 => ?_)
  exact mj_T.ret rfl rfl rfl ⟨rfl, s19.done (zCf.obj 14 (by decide) o0 rfl rfl (fun i cd hi => by
        match i, hi with
        | 0, hi => cases hi; exact ⟨_, rfl, jfv.ref (by decide) q0⟩
        | 1, hi => cases hi; exact ⟨_, rfl, jfv.txt q1⟩
        | 2, hi => cases hi; exact ⟨_, rfl, jfv_mk (x := 0) rfl (by decide) (by decide)⟩
        | 3, hi => cases hi; exact ⟨_, rfl, jfv_mk (x := -1) rfl (by decide) (by decide)⟩
        | 4, hi => cases hi; exact ⟨_, rfl, jfv_mk (x := 0) rfl (by decide) (by decide)⟩
        | 5, hi => cases hi; exact ⟨_, rfl, jfv.ref (by decide) q5⟩
        | 6, hi => cases hi; exact ⟨_, rfl, jfv.ref (by decide) q6⟩
        | 7, hi => cases hi; exact ⟨_, rfl, jfv.ref (by decide) q7⟩
        | i + 8, hi => exact absurd hi (by simp [jfs])))⟩
/-! The class's constructor once more, up to its first rows. -/
theorem zW_453 : zW 453 := ⟨by decide +kernel, by decide +kernel⟩
section ZKM
variable {h0 : mj_H} {D : Nat}
theorem zk_101l (hn : h0.length = 2) {Q : mj_R → Prop} (hend : ∀ h : mj_H, zDn cK cL cR 0 h0 1 563 h → h[1]? = some (.inr (9, [.ref 2, .ref 12, .int 0, .int 0, .ref 13, .ref 15, .ref 17, .ref 19, .ref 172, .ref 444, .ref 455, .ref 477, .ref 479, .ref 481, .ref 482, .int (jn (-1))])) → mj_T (D + 3) mj_m101 207 [some (.ref 1), some (.int (jn 8))] [] h Q) : ∀ (d i : Nat) {f : Nat → Value} {h : mj_H}, i + d = 8 → (∀ j, j < i → f j = .ref (cR 12 j)) → zCS cK cL cR 0 h0 1 9 [.ref 2, .ref 12, .int 0, .int 0, .ref 13, .ref 15, .ref 17, .ref 19, .ref 172, .ref 444, .ref 455, .ref 477, .ref 479, .ref 481, .ref 482, .int (jn (-1))] [(12, .inl (3, 8, f))] (483 + 10 * i) h → mj_T (D + 3) mj_m101 179 [some (.ref 1), some (.int (jn (i : Int)))] [] h Q := by
  intro d
  induction d with
  | zero =>
    intro i f h hd hf s0
    have e : i = 8 := by omega
    subst e
    refine mj_T.pl rfl rfl rfl rfl ?_
    refine mj_T.pl rfl rfl rfl rfl ?_
    refine zCS.get s0 rfl rfl ?_
    refine zCS.alen s0 rfl ?_
    refine jT.icmp (a := 8) (b := 8) rfl ⟨by omega, by omega⟩ ⟨by omega, by omega⟩ (fun _ => ?_) (fun c => ?_)
    · exact hend _ ((s0.full ckA.1 ⟨by decide, by decide⟩ rfl ckA.2 hf).done (zCf.obj 19 (by decide) ck0.2 rfl rfl (fun i cd hi => by
        match i, hi with
        | 0, hi => cases hi; exact ⟨_, rfl, jfv.ref (by decide) (ck1 0 (by decide))⟩
        | 1, hi => cases hi; exact ⟨_, rfl, jfv.ref (by decide) (ck1 1 (by decide))⟩
        | 2, hi => cases hi; exact ⟨_, rfl, jfv_mk (x := 0) rfl (by decide) (by decide)⟩
        | 3, hi => cases hi; exact ⟨_, rfl, jfv_mk (x := 0) rfl (by decide) (by decide)⟩
        | 4, hi => cases hi; exact ⟨_, rfl, jfv.ref (by decide) (ck1 4 (by decide))⟩
        | 5, hi => cases hi; exact ⟨_, rfl, jfv.ref (by decide) (ck1 5 (by decide))⟩
        | 6, hi => cases hi; exact ⟨_, rfl, jfv.ref (by decide) (ck1 6 (by decide))⟩
        | 7, hi => cases hi; exact ⟨_, rfl, jfv.ref (by decide) (ck1 7 (by decide))⟩
        | 8, hi => cases hi; exact ⟨_, rfl, jfv.ref (by decide) (ck1 8 (by decide))⟩
        | 9, hi => cases hi; exact ⟨_, rfl, jfv.ref (by decide) (ck1 9 (by decide))⟩
        | 10, hi => cases hi; exact ⟨_, rfl, jfv.ref (by decide) (ck1 10 (by decide))⟩
        | 11, hi => cases hi; exact ⟨_, rfl, jfv.ref (by decide) (ck1 11 (by decide))⟩
        | 12, hi => cases hi; exact ⟨_, rfl, jfv.ref (by decide) (ck1 12 (by decide))⟩
        | 13, hi => cases hi; exact ⟨_, rfl, jfv.ref (by decide) (ck1 13 (by decide))⟩
        | 14, hi => cases hi; exact ⟨_, rfl, jfv.ref (by decide) (ck1 14 (by decide))⟩
        | 15, hi => cases hi; exact ⟨_, rfl, jfv_mk (x := -1) rfl (by decide) (by decide)⟩
        | i + 16, hi => exact absurd hi (by simp [jfs])))) s0.2.2.2.2.1
    · exact absurd c (by decide)
  | succ d ih =>
    intro i f h hd hf s0
    obtain ⟨p1, p2⟩ := ckBs i (by omega)
    refine mj_T.pl rfl rfl rfl rfl ?_
    refine mj_T.pl rfl rfl rfl rfl ?_
    refine zCS.get s0 rfl rfl ?_
    refine zCS.alen s0 rfl ?_
    refine jT.icmp (a := (i : Int)) (b := 8) rfl ⟨by omega, by omega⟩ ⟨by omega, by omega⟩ (fun c => ?_) (fun _ => ?_)
    · have c := of_decide_eq_true c
      omega
    refine mj_T.pl rfl rfl rfl rfl ?_
    refine zCS.get s0 rfl rfl ?_
    refine mj_T.pl rfl rfl rfl rfl ?_
    refine zCS.new (n := 483 + 10 * i) s0 rfl ?_
    refine mj_T.pl rfl rfl rfl rfl ?_
    refine zCS.call (n := 483 + 10 * i) (N := 483 + 10 * (i + 1)) s0 rfl rfl (Nat.le_of_ble_eq_true rfl) (Nat.le_of_ble_eq_true rfl) rfl rfl (fun e1 e2 => ?_) rfl (fun h1 s1 => ?_)
    · have := zk_0 (D := D + 2) e2 e1 p2
      rw [show 483 + 10 * i + 1 + 9 = 483 + 10 * (i + 1) by omega] at this
      exact this
    refine zCS.aast (kv := 10) s1 rfl ⟨by omega, by omega, by omega⟩ p2.1 (by decide) rfl (by omega) (by decide) (fun h2 s2 => ?_)
    refine mj_T.iinc (a := (i : Int)) rfl rfl ?_
    refine mj_T.pl rfl rfl rfl rfl ?_
    refine ih (i + 1) (by omega) (fun j hj => ?_) s2
    unfold updV
    split
    · rename_i q
      subst q
      rw [p1]
    · exact hf j (by omega)
theorem zk_101 (ha : h0[1]? = some (.inr (9, [.null, .null, .int 0, .int 0, .null, .null, .null, .null, .null, .null, .null, .null, .null, .null, .null, .int 0]))) (hn : h0.length = 2) {Q : mj_R → Prop} (hend : ∀ h : mj_H, zDn cK cL cR 0 h0 1 563 h → h[1]? = some (.inr (9, [.ref 2, .ref 12, .int 0, .int 0, .ref 13, .ref 15, .ref 17, .ref 19, .ref 172, .ref 444, .ref 455, .ref 477, .ref 479, .ref 481, .ref 482, .int (jn (-1))])) → mj_T (D + 3) mj_m101 207 [some (.ref 1), some (.int (jn 8))] [] h Q) : mj_Ok (D + 4) 101 [.ref 1] h0 Q := by
  have s0 := zCS.beg (K := cK) (L := cL) (R := cR) (tm := 0) ha hn
  refine mj_Ok.of (M := mj_m101) (loc := [some (.ref 1), none]) rfl rfl rfl ?_
  refine mj_T.pl rfl rfl rfl rfl ?_
  refine mj_T.prim rfl rfl rfl ?_
  refine mj_T.pl rfl rfl rfl rfl ?_
  refine zCS.new (n := 2) s0 rfl ?_
  refine mj_T.pl rfl rfl rfl rfl ?_
  refine zCS.call (n := 2) (N := 12) s0 rfl rfl (Nat.le_of_ble_eq_true rfl) (Nat.le_of_ble_eq_true rfl) rfl rfl (fun e1 e2 => zk_0 (D := D + 2) e2 e1 ckB) rfl (fun h11 s11 => ?_)
  refine zCS.put s11 rfl (Nat.le_of_ble_eq_true rfl) rfl (fun h12 s12 => ?_)
  iterate 2 refine mj_T.pl rfl rfl rfl rfl ?_
  refine zCS.arrO (n := 12) 8 s12 rfl (by decide) (fun h13 s13 => ?_)
  refine zCS.put s13 rfl (Nat.le_of_ble_eq_true rfl) rfl (fun h14 s14 => ?_)
  refine mj_T.pl rfl rfl rfl rfl ?_
  refine zCS.new (n := 13) s14 rfl ?_
  iterate 2 refine mj_T.pl rfl rfl rfl rfl ?_
  refine zCS.call (n := 13) (N := 15) s14 rfl rfl (Nat.le_of_ble_eq_true rfl) (Nat.le_of_ble_eq_true rfl) rfl rfl (fun e1 e2 => zk_78 (D := D + 2) (x := 200) e2 e1 ckT1) rfl (fun h15 s15 => ?_)
  refine zCS.put s15 rfl (Nat.le_of_ble_eq_true rfl) rfl (fun h16 s16 => ?_)
  refine mj_T.pl rfl rfl rfl rfl ?_
  refine zCS.new (n := 15) s16 rfl ?_
  iterate 2 refine mj_T.pl rfl rfl rfl rfl ?_
  refine zCS.call (n := 15) (N := 17) s16 rfl rfl (Nat.le_of_ble_eq_true rfl) (Nat.le_of_ble_eq_true rfl) rfl rfl (fun e1 e2 => zk_78 (D := D + 2) (x := 340) e2 e1 ckT2) rfl (fun h17 s17 => ?_)
  refine zCS.put s17 rfl (Nat.le_of_ble_eq_true rfl) rfl (fun h18 s18 => ?_)
  refine mj_T.pl rfl rfl rfl rfl ?_
  refine zCS.new (n := 17) s18 rfl ?_
  iterate 2 refine mj_T.pl rfl rfl rfl rfl ?_
  refine zCS.call (n := 17) (N := 19) s18 rfl rfl (Nat.le_of_ble_eq_true rfl) (Nat.le_of_ble_eq_true rfl) rfl rfl (fun e1 e2 => zk_78 (D := D + 2) (x := 340) e2 e1 ckT3) rfl (fun h19 s19 => ?_)
  refine zCS.put s19 rfl (Nat.le_of_ble_eq_true rfl) rfl (fun h20 s20 => ?_)
  refine mj_T.pl rfl rfl rfl rfl ?_
  refine zCS.new (n := 19) s20 rfl ?_
  refine mj_T.pl rfl rfl rfl rfl ?_
  refine zCS.call (n := 19) (N := 172) s20 rfl rfl (Nat.le_of_ble_eq_true rfl) (Nat.le_of_ble_eq_true rfl) rfl rfl (fun e1 e2 => zk_10 (D := D) e2 e1 ckK) rfl (fun h21 s21 => ?_)
  refine zCS.put s21 rfl (Nat.le_of_ble_eq_true rfl) rfl (fun h22 s22 => ?_)
  refine mj_T.pl rfl rfl rfl rfl ?_
  refine zCS.new (n := 172) s22 rfl ?_
  iterate 2 refine mj_T.pl rfl rfl rfl rfl ?_
  refine zCS.getA s22 rfl rfl ?_
  refine zCS.call (n := 172) (N := 444) s22 rfl rfl (Nat.le_of_ble_eq_true rfl) (Nat.le_of_ble_eq_true rfl) rfl rfl (fun e1 e2 => zk_67 (D := D) e2 e1 ckS) rfl (fun h23 s23 => ?_)
  refine zCS.put s23 rfl (Nat.le_of_ble_eq_true rfl) rfl (fun h24 s24 => ?_)
  refine mj_T.pl rfl rfl rfl rfl ?_
  refine zCS.new (n := 444) s24 rfl ?_
  iterate 2 refine mj_T.pl rfl rfl rfl rfl ?_
  refine zCS.getA s24 rfl rfl ?_
  refine mj_T.pl rfl rfl rfl rfl ?_
  refine zCS.getA s24 rfl rfl ?_
  refine zCS.call (n := 444) (N := 455) s24 rfl rfl (Nat.le_of_ble_eq_true rfl) (Nat.le_of_ble_eq_true rfl) rfl rfl (fun e1 e2 => zk_58 (D := D + 1) e2 e1 ckR zW_453) rfl (fun h25 s25 => ?_)
  refine zCS.put s25 rfl (Nat.le_of_ble_eq_true rfl) rfl (fun h26 s26 => ?_)
  refine mj_T.pl rfl rfl rfl rfl ?_
  refine zCS.new (n := 455) s26 rfl ?_
  iterate 2 refine mj_T.pl rfl rfl rfl rfl ?_
  refine zCS.getA s26 rfl rfl ?_
  refine mj_T.pl rfl rfl rfl rfl ?_
  refine zCS.getA s26 rfl rfl ?_
  refine zCS.call (n := 455) (N := 477) s26 rfl rfl (Nat.le_of_ble_eq_true rfl) (Nat.le_of_ble_eq_true rfl) rfl rfl (fun e1 e2 => zk_45 (D := D + 2) e2 e1 ckE) rfl (fun h27 s27 => ?_)
  refine zCS.put s27 rfl (Nat.le_of_ble_eq_true rfl) rfl (fun h28 s28 => ?_)
  refine mj_T.pl rfl rfl rfl rfl ?_
  refine zCS.new (n := 477) s28 rfl ?_
  iterate 2 refine mj_T.pl rfl rfl rfl rfl ?_
  refine zCS.call (n := 477) (N := 479) s28 rfl rfl (Nat.le_of_ble_eq_true rfl) (Nat.le_of_ble_eq_true rfl) rfl rfl (fun e1 e2 => zk_85 (D := D + 2) (x := 10) e2 e1 ckW1) rfl (fun h29 s29 => ?_)
  refine zCS.put s29 rfl (Nat.le_of_ble_eq_true rfl) rfl (fun h30 s30 => ?_)
  refine mj_T.pl rfl rfl rfl rfl ?_
  refine zCS.new (n := 479) s30 rfl ?_
  iterate 2 refine mj_T.pl rfl rfl rfl rfl ?_
  refine zCS.call (n := 479) (N := 481) s30 rfl rfl (Nat.le_of_ble_eq_true rfl) (Nat.le_of_ble_eq_true rfl) rfl rfl (fun e1 e2 => zk_85 (D := D + 2) (x := 10) e2 e1 ckW2) rfl (fun h31 s31 => ?_)
  refine zCS.put s31 rfl (Nat.le_of_ble_eq_true rfl) rfl (fun h32 s32 => ?_)
  iterate 2 refine mj_T.pl rfl rfl rfl rfl ?_
  refine zCS.arr (n := 481) (x := 13) 2 s32 rfl (Or.inr (Or.inl rfl)) rfl ⟨by decide, by decide⟩ ckL1.1 (by rw [ckL1.2]; rfl) (fun h33 s33 => ?_)
  refine zCS.put s33 rfl (Nat.le_of_ble_eq_true rfl) rfl (fun h34 s34 => ?_)
  iterate 2 refine mj_T.pl rfl rfl rfl rfl ?_
  refine zCS.arr (n := 482) (x := 13) 2 s34 rfl (Or.inr (Or.inl rfl)) rfl ⟨by decide, by decide⟩ ckL2.1 (by rw [ckL2.2]; rfl) (fun h35 s35 => ?_)
  refine zCS.put s35 rfl (Nat.le_of_ble_eq_true rfl) rfl (fun h36 s36 => ?_)
  iterate 2 refine mj_T.pl rfl rfl rfl rfl ?_
  refine zCS.put s36 rfl (Nat.le_of_ble_eq_true rfl) rfl (fun h37 s37 => ?_)
  iterate 2 refine mj_T.pl rfl rfl rfl rfl ?_
  exact zk_101l hn hend 8 0 rfl (fun j hj => absurd hj (by omega)) s37
end ZKM
/-! The class behind its constructor, exactly. -/
theorem jnl_big (k : Nat) : ∃ B : Int, k < jnl B.natAbs := ⟨((jB ^ k : Nat) : Int), by
  rw [Int.natAbs_natCast]
  exact jnl_lt.mpr (by rw [Nat.div_self (jB_pow _)]; decide)⟩
/-- the first rows are written -/
def xR (X : Nat → Nat → Int) : Nat → Nat → Int := xup (xup (xup (xup (xup (xup (xup X 4 2 1) 4 0 (-2)) 5 3 1) 5 1 (-1)) 6 2 6) 6 1 (-5)) 6 0 1
theorem xR_off {X : Nat → Nat → Int} {a j : Nat} (h4 : a ≠ 4) (h5 : a ≠ 5) (h6 : a ≠ 6) : xR X a j = X a j := by
  unfold xR
  rw [xup_ne _ _ (Or.inl h6), xup_ne _ _ (Or.inl h6), xup_ne _ _ (Or.inl h6), xup_ne _ _ (Or.inl h5), xup_ne _ _ (Or.inl h5), xup_ne _ _ (Or.inl h4), xup_ne _ _ (Or.inl h4)]
theorem xR_0 : ((List.range 6).all fun r => (List.range 13).all fun j => decide (xR (fun _ _ => 0) (4 + r) j = riN (r * 13 + j))) = true := by decide +kernel
theorem xR_row {X : Nat → Nat → Int} {r j : Nat} (hr : r < 6) (hj : j < 13) (h0 : X (4 + r) j = 0) : xR X (4 + r) j = riN (r * 13 + j) := by
  have h1 := of_decide_eq_true (List.all_eq_true.mp (List.all_eq_true.mp xR_0 r (List.mem_range.mpr hr)) j (List.mem_range.mpr hj))
  rw [← h1]
  simp only [xR, xup, h0]
theorem ck_b2 : cK 2 = 10 ∧ cK 3 = 6 ∧ cK 4 = 2 ∧ cK 5 = 2 ∧ cK 6 = 2 ∧ cL 3 = 6 ∧ cK 479 = 18 ∧ cK 15 = 17 ∧ cK 17 = 17 := by decide +kernel
theorem bydl_9 : (bydl.all fun x => decide (x ≠ 479)) = true := by decide +kernel
theorem cK_r2 : ((List.range 6).all fun r => decide (cK (4 + r) = 2)) = true := by decide +kernel
section ZKE
variable {g h h0 : mj_H} {n D : Nat} {V : Nat → Int} {X : Nat → Nat → Int}
theorem mB_first (m : jM g n V X h) : mj_Ok (D + 1) 1 [.ref 2] h (fun z => ∃ h2, jM g n V (xR X) h2 ∧ z = (.inl none, h2)) := by
  obtain ⟨k2, k3, k4, k5, k6, l3, _⟩ := ck_b2
  refine mj_Ok.of (M := mj_m1) rfl rfl rfl ?_
  refine mj_T.pl rfl rfl rfl rfl ?_
  refine mT_get m 10 k2 (by decide) rfl rfl ?_
  refine mj_T.pl rfl rfl rfl rfl ?_
  refine mj_T.eq (st2 := [.int (jn 0), .ref 3]) ?_ rfl rfl rfl rfl
  refine mT_aald m 6 k3 (by decide) rfl rfl (by decide) (by rw [l3]; decide) ?_
  iterate 2 refine mj_T.pl rfl rfl rfl rfl ?_
  refine mj_T.eq (st2 := [.long (jl 1), .int (jn 2), .ref 4]) ?_ rfl rfl rfl rfl
  refine mT_last m k4 rfl (by decide) (fun h1 m1 => ?_)
  refine mj_T.pl rfl rfl rfl rfl ?_
  refine mT_get m1 10 k2 (by decide) rfl rfl ?_
  refine mj_T.pl rfl rfl rfl rfl ?_
  refine mj_T.eq (st2 := [.int (jn 0), .ref 3]) ?_ rfl rfl rfl rfl
  refine mT_aald m1 6 k3 (by decide) rfl rfl (by decide) (by rw [l3]; decide) ?_
  iterate 2 refine mj_T.pl rfl rfl rfl rfl ?_
  refine mj_T.eq (st2 := [.long (jl (-2)), .int (jn 0), .ref 4]) ?_ rfl rfl rfl rfl
  refine mT_last m1 k4 rfl (by decide) (fun h2 m2 => ?_)
  refine mj_T.pl rfl rfl rfl rfl ?_
  refine mT_get m2 10 k2 (by decide) rfl rfl ?_
  refine mj_T.pl rfl rfl rfl rfl ?_
  refine mj_T.eq (st2 := [.int (jn 1), .ref 3]) ?_ rfl rfl rfl rfl
  refine mT_aald m2 6 k3 (by decide) rfl rfl (by decide) (by rw [l3]; decide) ?_
  iterate 2 refine mj_T.pl rfl rfl rfl rfl ?_
  refine mj_T.eq (st2 := [.long (jl 1), .int (jn 3), .ref 5]) ?_ rfl rfl rfl rfl
  refine mT_last m2 k5 rfl (by decide) (fun h3 m3 => ?_)
  refine mj_T.pl rfl rfl rfl rfl ?_
  refine mT_get m3 10 k2 (by decide) rfl rfl ?_
  refine mj_T.pl rfl rfl rfl rfl ?_
  refine mj_T.eq (st2 := [.int (jn 1), .ref 3]) ?_ rfl rfl rfl rfl
  refine mT_aald m3 6 k3 (by decide) rfl rfl (by decide) (by rw [l3]; decide) ?_
  iterate 2 refine mj_T.pl rfl rfl rfl rfl ?_
  refine mj_T.eq (st2 := [.long (jl (-1)), .int (jn 1), .ref 5]) ?_ rfl rfl rfl rfl
  refine mT_last m3 k5 rfl (by decide) (fun h4 m4 => ?_)
  refine mj_T.pl rfl rfl rfl rfl ?_
  refine mT_get m4 10 k2 (by decide) rfl rfl ?_
  refine mj_T.pl rfl rfl rfl rfl ?_
  refine mj_T.eq (st2 := [.int (jn 2), .ref 3]) ?_ rfl rfl rfl rfl
  refine mT_aald m4 6 k3 (by decide) rfl rfl (by decide) (by rw [l3]; decide) ?_
  iterate 2 refine mj_T.pl rfl rfl rfl rfl ?_
  refine mj_T.eq (st2 := [.long (jl 6), .int (jn 2), .ref 6]) ?_ rfl rfl rfl rfl
  refine mT_last m4 k6 rfl (by decide) (fun h5 m5 => ?_)
  refine mj_T.pl rfl rfl rfl rfl ?_
  refine mT_get m5 10 k2 (by decide) rfl rfl ?_
  refine mj_T.pl rfl rfl rfl rfl ?_
  refine mj_T.eq (st2 := [.int (jn 2), .ref 3]) ?_ rfl rfl rfl rfl
  refine mT_aald m5 6 k3 (by decide) rfl rfl (by decide) (by rw [l3]; decide) ?_
  iterate 2 refine mj_T.pl rfl rfl rfl rfl ?_
  refine mj_T.eq (st2 := [.long (jl (-5)), .int (jn 1), .ref 6]) ?_ rfl rfl rfl rfl
  refine mT_last m5 k6 rfl (by decide) (fun h6 m6 => ?_)
  refine mj_T.pl rfl rfl rfl rfl ?_
  refine mT_get m6 10 k2 (by decide) rfl rfl ?_
  refine mj_T.pl rfl rfl rfl rfl ?_
  refine mj_T.eq (st2 := [.int (jn 2), .ref 3]) ?_ rfl rfl rfl rfl
  refine mT_aald m6 6 k3 (by decide) rfl rfl (by decide) (by rw [l3]; decide) ?_
  iterate 2 refine mj_T.pl rfl rfl rfl rfl ?_
  refine mj_T.eq (st2 := [.long (jl 1), .int (jn 0), .ref 6]) ?_ rfl rfl rfl rfl
  refine mT_last m6 k6 rfl (by decide) (fun h7 m7 => ?_)
  exact mj_T.ret rfl rfl rfl ⟨h7, m7, rfl⟩
/-- what lies behind the constructors is of its kind, and fresh -/
theorem zk_jO (hn : h0.length = 2) (d : zDn cK cL cR 0 h0 1 563 h) : jO cK cL cR h 563 0 h ∧ ∀ (a : Nat) (e : mj_E), cK a ≠ 0 → ¬ zW a → h[a]? = some e → zZ e := by
  obtain ⟨d1, d2, d3, d4⟩ := d
  have d5 : ∀ a : Nat, cK a ≠ 0 → ∃ e, h[a]? = some e ∧ zCf cK cL cR 0 (cK a) a e := fun a ha => by
    refine d4 a ?_ (cK_in ha)
    by_cases c : a = 0
    · subst c
      exact absurd ck0.1 ha
    · omega
  refine ⟨⟨d1, ⟨by decide, by decide⟩, fun _ _ => ⟨fun _ => rfl, fun p q => absurd p (by omega)⟩, fun a ha => ?_⟩, fun a e ha hw he => ?_⟩
  · obtain ⟨e, e1, e2⟩ := d5 a ha
    exact ⟨e, e1, e2.1⟩
  · obtain ⟨e2, e3, e4⟩ := d5 a ha
    rw [he] at e3
    cases e3
    exact e4.2 hw
theorem zk_start (hn : h0.length = 2) {H : Nat → Nat → Int} (ha : h0[1]? = some (.inr (9, [.null, .null, .int 0, .int 0, .null, .null, .null, .null, .null, .null, .null, .null, .null, .null, .null, .int 0]))) : mj_Ok (D + 4) 101 [.ref 1] h0 (fun r => cC riN 0 H r.2) := by
  obtain ⟨k2, k3, k4, k5, k6, l3, k479, k15, k17⟩ := ck_b2
  refine zk_101 ha hn (fun h d hX => ?_)
  obtain ⟨o, z⟩ := zk_jO hn d
  have zw : ∀ {a : Nat}, cK a ≠ 18 → ¬ zW a := fun hk w => hk w.2
  have by1 : ∀ x, x ∈ bydl → xOf h x 1 = 0 ∧ xOf h x 2 = 0 := fun x hx => by
    have kx := bydl_k hx
    obtain ⟨fs, h1, _, _⟩ := sM_ob o (a := x) (by omega)
    rw [kx] at h1
    have q : fs[1]? = some (.int 0) ∧ fs[2]? = some (.int 0) := (z x _ (by omega) (fun w => w.1 hx) h1).1 rfl
    exact ⟨xOf_i h1 q.1, xOf_i h1 q.2⟩
  have dg : DG (xOf h) := fun p kp => by
    obtain ⟨fs, h1, _, _⟩ := sM_ob o (a := p) (by omega)
    rw [kp] at h1
    have q : fs[2]? = some (.int (jn (-1))) := (z p _ (by omega) (zw (by omega)) h1).2.1 rfl
    have e : xOf h p 2 = -1 := (xOf_i h1 q).trans (jn_toInt ⟨by decide, by decide⟩)
    rw [e]
    omega
  have rz : ∀ r j : Nat, r < 6 → xOf h (4 + r) j = 0 := fun r j hr => by
    have kr : cK (4 + r) = 2 := of_decide_eq_true (List.all_eq_true.mp cK_r2 r (List.mem_range.mpr hr))
    have h1 := sM_al o kr
    have q : ∀ i : Nat, (fun j => Value.long (jl (xOf h (4 + r) j))) i = .long 0 := z (4 + r) _ (by omega) (zw (by omega)) h1 rfl
    exact xOf_al h1 (q j)
  have x23 : xOf h 2 3 = 0 := by
    obtain ⟨fs, h1, _, _⟩ := sM_ob o (a := 2) (by omega)
    rw [k2] at h1
    have q : fs[3]? = some (.int 0) := (z 2 _ (by omega) (zw (by omega)) h1).2.2 rfl
    exact xOf_i h1 q
  have x12 : xOf h 1 2 = 0 := xOf_i (i := 2) (w := 0) hX rfl
  have x13 : xOf h 1 3 = 0 := xOf_i (i := 3) (w := 0) hX rfl
  have tx : ∀ a, cK a = 17 → 0 ≤ xOf h a 1 ∧ xOf h a 1 ≤ 340 := fun a ka => by
    obtain ⟨fs, h1, hl, hf⟩ := sM_ob o (a := a) (by omega)
    rw [ka] at h1 hl hf
    have hl : fs.length = 2 := hl
    have hv : fs[1]? = some fs[1] := List.getElem?_eq_getElem (by omega)
    obtain ⟨x, x0, x1, e⟩ := sM_n hf (i := 1) (c := 5) rfl (by decide) (by decide) (by decide) hv
    have x0 : 0 ≤ x := x0
    have x1 : x ≤ 340 := x1
    rw [e] at hv
    rw [xOf_i h1 hv, jn_toInt ⟨by omega, by omega⟩]
    exact ⟨x0, x1⟩
  obtain ⟨B, hB⟩ := jnl_big 1500
  have m := sM_jM o hB by1
  refine mj_T.pl rfl rfl rfl rfl ?_
  refine mT_get m 19 ck0.2 (by decide) rfl rfl ?_
  refine mj_T.call rfl rfl (Nat.le_of_ble_eq_true rfl) (Nat.le_of_ble_eq_true rfl) (mV_of m 10 k2 (by decide) rfl (by decide) rfl _) rfl (mj_Ok.up (by omega) (mB_first (D := 0) m)) (fun v h1 hq => ?_) (fun i h1 hq => by obtain ⟨_, _, hq⟩ := hq; cases hq)
  obtain ⟨_, m1, hq⟩ := hq
  cases hq
  refine mj_T.pl rfl rfl rfl rfl ?_
  refine mT_get m1 19 ck0.2 (by decide) rfl rfl ?_
  refine mj_T.pl rfl rfl rfl rfl ?_
  refine mj_T.eq (st2 := [.long (jl 1), .ref 479]) ?_ rfl rfl rfl rfl
  refine mj_T.call rfl rfl (Nat.le_of_ble_eq_true rfl) (Nat.le_of_ble_eq_true rfl) (mV_of m1 18 k479 (by decide) rfl (by decide) rfl _) rfl (mj_Ok.up (by omega) (mW_setLong (D := 0) m1 k479 (v := 1) ⟨by decide, by decide⟩ (Nat.le_trans (jnl_le_lt.mpr (by decide : 1 < jB ^ 1)) (mK_w (Or.inl k479)).2.2))) (fun v h2 hq => ?_) (fun i h2 hq => by obtain ⟨_, _, hq⟩ := hq; cases hq)
  obtain ⟨_, m2, hq⟩ := hq
  cases hq
  refine mj_T.ret rfl rfl rfl ?_
  have s : cS h 563 riN 0 H h2 := by
    refine ⟨_, _, m2, fun x hx => ?_, fun p kp => ?_, 0, by decide, ?_, ?_, ⟨fun r hr j hj => ?_, ?_, fun k hk => ?_⟩, fun k hk => absurd hk (Nat.not_lt_zero k), ⟨?_, ?_⟩⟩
    · have h1 : x ≠ 479 := of_decide_eq_true (List.all_eq_true.mp bydl_9 x hx)
      show (if x = 479 then (1 : Int) else if x ∈ bydl then 0 else B) = 0
      rw [if_neg h1, if_pos hx]
    · have h1 := cK_13 kp
      rw [xR_off (by omega) (by omega) (by omega)]
      exact dg p kp
    · rw [xR_off (by decide) (by decide) (by decide)]
      exact x13
    · rw [xR_off (by decide) (by decide) (by decide)]
      exact x12
    · exact xR_row hr hj (rz r j hr)
    · rw [xR_off (by decide) (by decide) (by decide)]
      exact x23
    · have h1 : riN 78 = 0 := rfl
      exfalso
      omega
    · rw [xR_off (by decide) (by decide) (by decide)]
      exact tx 15 k15
    · rw [xR_off (by decide) (by decide) (by decide)]
      exact tx 17 k17
  exact s.cC
end ZKE
/-! The reference behind its constructor, exactly. -/
theorem rx_init {D : Nat} {H : Nat → Nat → Int} : mj_Ok (D + 2) 174 [.ref 0] [.inr (10, mj_new 10)] (fun r => ∃ h', r = (.inl none, h') ∧ jIx riN 0 H 0 (-1) (fun _ => 0) h') := by
  refine mj_Ok.of (M := mj_m174) rfl rfl rfl ?_
  refine mj_T.pl rfl rfl rfl rfl ?_
  refine mj_T.prim rfl rfl rfl ?_
  iterate 31 refine mj_T.pl rfl rfl rfl rfl ?_
  iterate 4 refine mj_T.pl rfl rfl rfl rfl ?_
  refine mj_T.eq (st2 := [.long (jl (-2)), .int (jn 0), .ref 1]) ?_ rfl rfl rfl rfl
  refine mj_T.lstj (fun _ => 0) 0 (-2) rfl rfl ⟨by decide, by decide⟩ ⟨by decide, by decide⟩ ?_
  iterate 4 refine mj_T.pl rfl rfl rfl rfl ?_
  refine mj_T.eq (st2 := [.long (jl (1)), .int (jn 2), .ref 1]) ?_ rfl rfl rfl rfl
  refine mj_T.lstj (jvu (fun _ => 0) 0 (-2)) 2 (1) rfl rfl ⟨by decide, by decide⟩ ⟨by decide, by decide⟩ ?_
  iterate 4 refine mj_T.pl rfl rfl rfl rfl ?_
  refine mj_T.eq (st2 := [.long (jl (-1)), .int (jn 14), .ref 1]) ?_ rfl rfl rfl rfl
  refine mj_T.lstj (jvu (jvu (fun _ => 0) 0 (-2)) 2 (1)) 14 (-1) rfl rfl ⟨by decide, by decide⟩ ⟨by decide, by decide⟩ ?_
  iterate 4 refine mj_T.pl rfl rfl rfl rfl ?_
  refine mj_T.eq (st2 := [.long (jl (1)), .int (jn 16), .ref 1]) ?_ rfl rfl rfl rfl
  refine mj_T.lstj (jvu (jvu (jvu (fun _ => 0) 0 (-2)) 2 (1)) 14 (-1)) 16 (1) rfl rfl ⟨by decide, by decide⟩ ⟨by decide, by decide⟩ ?_
  iterate 4 refine mj_T.pl rfl rfl rfl rfl ?_
  refine mj_T.eq (st2 := [.long (jl (1)), .int (jn 26), .ref 1]) ?_ rfl rfl rfl rfl
  refine mj_T.lstj (jvu (jvu (jvu (jvu (fun _ => 0) 0 (-2)) 2 (1)) 14 (-1)) 16 (1)) 26 (1) rfl rfl ⟨by decide, by decide⟩ ⟨by decide, by decide⟩ ?_
  iterate 4 refine mj_T.pl rfl rfl rfl rfl ?_
  refine mj_T.eq (st2 := [.long (jl (-5)), .int (jn 27), .ref 1]) ?_ rfl rfl rfl rfl
  refine mj_T.lstj (jvu (jvu (jvu (jvu (jvu (fun _ => 0) 0 (-2)) 2 (1)) 14 (-1)) 16 (1)) 26 (1)) 27 (-5) rfl rfl ⟨by decide, by decide⟩ ⟨by decide, by decide⟩ ?_
  iterate 4 refine mj_T.pl rfl rfl rfl rfl ?_
  refine mj_T.eq (st2 := [.long (jl (6)), .int (jn 28), .ref 1]) ?_ rfl rfl rfl rfl
  refine mj_T.lstj (jvu (jvu (jvu (jvu (jvu (jvu (fun _ => 0) 0 (-2)) 2 (1)) 14 (-1)) 16 (1)) 26 (1)) 27 (-5)) 28 (6) rfl rfl ⟨by decide, by decide⟩ ⟨by decide, by decide⟩ ?_
  have hs : ∀ L : mj_H, L = rH riS riN (fun _ => 0) (fun _ => 0) (fun _ => 0) → rS riS riN (fun _ => 0) (fun _ => 0) (fun _ => 0) (fun _ => 0) L := fun L hL => ⟨fun _ => jn 0, fun _ => .int (jn 0), fun _ => .int (jn 0), riV, hL⟩
  refine mj_T.eq (h2 := rH riS riN (fun _ => 0) (fun _ => 0) (fun _ => 0)) ?_ rfl rfl rfl rfl
  have hs0 := hs _ rfl
  generalize rH riS riN (fun _ => 0) (fun _ => 0) (fun _ => 0) = h at hs0
  iterate 3 refine mj_T.pl rfl rfl rfl rfl ?_
  refine mj_T.call (ins := .invokevirtual 45) rfl rfl (Nat.le_of_ble_eq_true rfl) (Nat.le_of_ble_eq_true rfl) (by simp [mj_recv, rS_f hs0]) rfl (jS_sets (D := D) (rG riS riN (fun _ => 0) (fun _ => 0) (fun _ => 0)) (s := 650) (v := 0) (by decide) ⟨by decide, by decide⟩ hs0) (fun v' h1 hq' => ?_) (fun i h' hq' => by obtain ⟨_, _, h⟩ := hq'; cases h)
  obtain ⟨_, hs1, hq'⟩ := hq'
  cases hq'
  iterate 3 refine mj_T.pl rfl rfl rfl rfl ?_
  refine mj_T.call (ins := .invokevirtual 45) rfl rfl (Nat.le_of_ble_eq_true rfl) (Nat.le_of_ble_eq_true rfl) (by simp [mj_recv, jS_a (rG riS riN (fun _ => 0) (fun _ => 0) (fun _ => 0)) hs1]) rfl (jS_sets (D := D) (rG riS riN (fun _ => 0) (fun _ => 0) (fun _ => 0)) (s := 651) (v := 1) (by decide) ⟨by decide, by decide⟩ hs1) (fun v' h2 hq' => ?_) (fun i h' hq' => by obtain ⟨_, _, h⟩ := hq'; cases h)
  obtain ⟨_, hs2, hq'⟩ := hq'
  cases hq'
  exact mj_T.ret rfl rfl rfl ⟨h2, rfl, ⟨_, _, _, _, _, hs2, riK, fun _ _ => rfl, rfl, fun k hk => absurd hk (Nat.not_lt_zero k)⟩⟩
/-! The class's constructor, whole. -/
section JKM
variable {h0 : mj_H} {D : Nat}
theorem jk_101e {h : mj_H} (hn : h0.length = 2) (d : jDn cK cL cR 0 h0 1 563 h) (hx : ∃ fs : List Value, h[1]? = some (.inr (9, fs)) ∧ fs[15]? = some (.int (jn (-1)))) : mj_T (D + 3) mj_m101 207 [some (.ref 1), some (.int (jn 8))] [] h (fun r => r.1 = .inl none ∧ jO cK cL cR r.2 563 0 r.2 ∧ r.2[0]? = h0[0]? ∧ jcx (-1) 0 (fun _ => 0) r.2) := by
  obtain ⟨d1, d2, d3, d4⟩ := d
  have k1 := ck0.2
  have hg : h.length ≤ 563 := Nat.le_of_eq d1
  have o : jO cK cL cR h 563 0 h := by
    refine ⟨d1, ⟨by decide, by decide⟩, fun _ _ => ⟨fun _ => rfl, fun p q => absurd p (by omega)⟩, fun a ha => ?_⟩
    refine d4 a ?_ (cK_in ha)
    by_cases c : a = 0
    · subst c
      exact absurd ck0.1 ha
    · omega
  have X : jcx (-1) 0 (fun _ => 0) h := ⟨hx, by
    obtain ⟨f, a1, _⟩ := o.arr (a := 14) cK4.2.2.1 (by decide) (by decide)
    rw [cK4.2.2.2.2.1] at a1
    exact ⟨f, a1, fun j hj => by omega⟩⟩
  refine mj_T.to (Q := fun r => jQ cK cL cR h 563 0 [] jV0 r ∧ jcx (-1) 0 (fun _ => 0) r.2) ?_ (fun r hr => ?_)
  · refine mj_T.pl rfl rfl rfl rfl ?_
    refine jT.getR 19 110 10 cTY o rfl k1 (by decide) rfl rfl rfl (fun k2 => ?_)
    refine mj_T.call rfl rfl (Nat.le_of_ble_eq_true rfl) (Nat.le_of_ble_eq_true rfl) (jrv_of o k2 (by decide) rfl (by decide) rfl _) rfl ((jc_1 (D := D + 2) cTY hg o k2).qt rfl) (fun v h1 hq => ?_) (fun i h1 hq => absurd hq.1.1 List.not_mem_nil)
    obtain ⟨⟨hv, o1⟩, q1⟩ := hq
    cases hv
    have X1 := X.qt q1
    refine mj_T.pl rfl rfl rfl rfl ?_
    refine jT.getR 19 118 18 cTY o1 rfl k1 (by decide) rfl rfl rfl (fun k3 => ?_)
    refine jT.lc 1 rfl rfl ?_
    refine mj_T.call rfl rfl (Nat.le_of_ble_eq_true rfl) (Nat.le_of_ble_eq_true rfl) (jrv_of o1 k3 (by decide) rfl (by decide) rfl _) rfl ((jc_86 (D := D + 2) cTY hg o1 k3 (p1 := 1) ⟨by decide, by decide⟩).qt rfl) (fun v h2 hq => ?_) (fun i h2 hq => absurd hq.1.1 List.not_mem_nil)
    obtain ⟨⟨hv, o2⟩, q2⟩ := hq
    cases hv
    have X2 := X1.qt q2
    exact mj_T.ret rfl rfl rfl ⟨⟨rfl, o2⟩, X2⟩
  · obtain ⟨r1, r2⟩ := r
    obtain ⟨hr, X3⟩ := hr
    cases r1 with
    | inl v =>
      obtain ⟨hv, o3⟩ := hr
      cases hv
      refine ⟨rfl, ⟨o3.1, o3.2.1, fun _ _ => ⟨fun _ => rfl, fun p q => absurd p (by have := o3.1; show ¬ (r2.length ≤ _); omega)⟩, o3.2.2.2⟩, ?_, X3⟩
      show r2[0]? = h0[0]?
      rw [(o3.2.2.1 0 ck0.1).1 (by omega)]
      exact d3 0 (by omega) (by decide)
    | inr i => exact absurd hr.1 List.not_mem_nil
theorem jk_101l (hn : h0.length = 2) : ∀ (d i : Nat) {f : Nat → Value} {h : mj_H}, i + d = 8 → (∀ j, j < i → f j = .ref (cR 12 j)) → jCS cK cL cR 0 h0 1 9 [.ref 2, .ref 12, .int 0, .int 0, .ref 13, .ref 15, .ref 17, .ref 19, .ref 172, .ref 444, .ref 455, .ref 477, .ref 479, .ref 481, .ref 482, .int (jn (-1))] [(12, .inl (3, 8, f))] (483 + 10 * i) h → mj_T (D + 3) mj_m101 179 [some (.ref 1), some (.int (jn (i : Int)))] [] h (fun r => r.1 = .inl none ∧ jO cK cL cR r.2 563 0 r.2 ∧ r.2[0]? = h0[0]? ∧ jcx (-1) 0 (fun _ => 0) r.2) := by
  intro d
  induction d with
  | zero =>
    intro i f h hd hf s0
    have e : i = 8 := by omega
    subst e
    refine mj_T.pl rfl rfl rfl rfl ?_
    refine mj_T.pl rfl rfl rfl rfl ?_
    refine jCS.get s0 rfl rfl ?_
    refine jCS.alen s0 rfl ?_
    refine jT.icmp (a := 8) (b := 8) rfl ⟨by omega, by omega⟩ ⟨by omega, by omega⟩ (fun _ => ?_) (fun c => ?_)
    · exact jk_101e hn ((s0.full ckA.1 ⟨by decide, by decide⟩ rfl ckA.2 hf).done (jCf.obj 19 (by decide) ck0.2 rfl rfl (fun i cd hi => by
        match i, hi with
        | 0, hi => cases hi; exact ⟨_, rfl, jfv.ref (by decide) (ck1 0 (by decide))⟩
        | 1, hi => cases hi; exact ⟨_, rfl, jfv.ref (by decide) (ck1 1 (by decide))⟩
        | 2, hi => cases hi; exact ⟨_, rfl, jfv_mk (x := 0) rfl (by decide) (by decide)⟩
        | 3, hi => cases hi; exact ⟨_, rfl, jfv_mk (x := 0) rfl (by decide) (by decide)⟩
        | 4, hi => cases hi; exact ⟨_, rfl, jfv.ref (by decide) (ck1 4 (by decide))⟩
        | 5, hi => cases hi; exact ⟨_, rfl, jfv.ref (by decide) (ck1 5 (by decide))⟩
        | 6, hi => cases hi; exact ⟨_, rfl, jfv.ref (by decide) (ck1 6 (by decide))⟩
        | 7, hi => cases hi; exact ⟨_, rfl, jfv.ref (by decide) (ck1 7 (by decide))⟩
        | 8, hi => cases hi; exact ⟨_, rfl, jfv.ref (by decide) (ck1 8 (by decide))⟩
        | 9, hi => cases hi; exact ⟨_, rfl, jfv.ref (by decide) (ck1 9 (by decide))⟩
        | 10, hi => cases hi; exact ⟨_, rfl, jfv.ref (by decide) (ck1 10 (by decide))⟩
        | 11, hi => cases hi; exact ⟨_, rfl, jfv.ref (by decide) (ck1 11 (by decide))⟩
        | 12, hi => cases hi; exact ⟨_, rfl, jfv.ref (by decide) (ck1 12 (by decide))⟩
        | 13, hi => cases hi; exact ⟨_, rfl, jfv.ref (by decide) (ck1 13 (by decide))⟩
        | 14, hi => cases hi; exact ⟨_, rfl, jfv.ref (by decide) (ck1 14 (by decide))⟩
        | 15, hi => cases hi; exact ⟨_, rfl, jfv_mk (x := -1) rfl (by decide) (by decide)⟩
        | i + 16, hi => exact absurd hi (by simp [jfs])))) ⟨_, s0.2.2.2.2.1, rfl⟩
    · exact absurd c (by decide)
  | succ d ih =>
    intro i f h hd hf s0
    obtain ⟨p1, p2⟩ := ckBs i (by omega)
    refine mj_T.pl rfl rfl rfl rfl ?_
    refine mj_T.pl rfl rfl rfl rfl ?_
    refine jCS.get s0 rfl rfl ?_
    refine jCS.alen s0 rfl ?_
    refine jT.icmp (a := (i : Int)) (b := 8) rfl ⟨by omega, by omega⟩ ⟨by omega, by omega⟩ (fun c => ?_) (fun _ => ?_)
    · have c := of_decide_eq_true c
      omega
    refine mj_T.pl rfl rfl rfl rfl ?_
    refine jCS.get s0 rfl rfl ?_
    refine mj_T.pl rfl rfl rfl rfl ?_
    refine jCS.new (n := 483 + 10 * i) s0 rfl ?_
    refine mj_T.pl rfl rfl rfl rfl ?_
    refine jCS.call (n := 483 + 10 * i) (N := 483 + 10 * (i + 1)) s0 rfl rfl (Nat.le_of_ble_eq_true rfl) (Nat.le_of_ble_eq_true rfl) rfl rfl (fun e1 e2 => ?_) rfl (fun h1 s1 => ?_)
    · have := jk_0 (D := D + 2) e2 e1 p2
      rw [show 483 + 10 * i + 1 + 9 = 483 + 10 * (i + 1) by omega] at this
      exact this
    refine jCS.aast (kv := 10) s1 rfl ⟨by omega, by omega, by omega⟩ p2.1 (by decide) rfl (by omega) (by decide) (fun h2 s2 => ?_)
    refine mj_T.iinc (a := (i : Int)) rfl rfl ?_
    refine mj_T.pl rfl rfl rfl rfl ?_
    refine ih (i + 1) (by omega) (fun j hj => ?_) s2
    unfold updV
    split
    · rename_i q
      subst q
      rw [p1]
    · exact hf j (by omega)
theorem jk_101 (ha : h0[1]? = some (.inr (9, [.null, .null, .int 0, .int 0, .null, .null, .null, .null, .null, .null, .null, .null, .null, .null, .null, .int 0]))) (hn : h0.length = 2) : mj_Ok (D + 4) 101 [.ref 1] h0 (fun r => r.1 = .inl none ∧ jO cK cL cR r.2 563 0 r.2 ∧ r.2[0]? = h0[0]? ∧ jcx (-1) 0 (fun _ => 0) r.2) := by
  have s0 := jCS.beg (K := cK) (L := cL) (R := cR) (tm := 0) ha hn
  refine mj_Ok.of (M := mj_m101) (loc := [some (.ref 1), none]) rfl rfl rfl ?_
  refine mj_T.pl rfl rfl rfl rfl ?_
  refine mj_T.prim rfl rfl rfl ?_
  refine mj_T.pl rfl rfl rfl rfl ?_
  refine jCS.new (n := 2) s0 rfl ?_
  refine mj_T.pl rfl rfl rfl rfl ?_
  refine jCS.call (n := 2) (N := 12) s0 rfl rfl (Nat.le_of_ble_eq_true rfl) (Nat.le_of_ble_eq_true rfl) rfl rfl (fun e1 e2 => jk_0 (D := D + 2) e2 e1 ckB) rfl (fun h11 s11 => ?_)
  refine jCS.put s11 rfl (Nat.le_of_ble_eq_true rfl) rfl (fun h12 s12 => ?_)
  iterate 2 refine mj_T.pl rfl rfl rfl rfl ?_
  refine jCS.arrO (n := 12) 8 s12 rfl (by decide) (fun h13 s13 => ?_)
  refine jCS.put s13 rfl (Nat.le_of_ble_eq_true rfl) rfl (fun h14 s14 => ?_)
  refine mj_T.pl rfl rfl rfl rfl ?_
  refine jCS.new (n := 13) s14 rfl ?_
  iterate 2 refine mj_T.pl rfl rfl rfl rfl ?_
  refine jCS.call (n := 13) (N := 15) s14 rfl rfl (Nat.le_of_ble_eq_true rfl) (Nat.le_of_ble_eq_true rfl) rfl rfl (fun e1 e2 => jk_78 (D := D + 2) (x := 200) e2 e1 ckT1) rfl (fun h15 s15 => ?_)
  refine jCS.put s15 rfl (Nat.le_of_ble_eq_true rfl) rfl (fun h16 s16 => ?_)
  refine mj_T.pl rfl rfl rfl rfl ?_
  refine jCS.new (n := 15) s16 rfl ?_
  iterate 2 refine mj_T.pl rfl rfl rfl rfl ?_
  refine jCS.call (n := 15) (N := 17) s16 rfl rfl (Nat.le_of_ble_eq_true rfl) (Nat.le_of_ble_eq_true rfl) rfl rfl (fun e1 e2 => jk_78 (D := D + 2) (x := 340) e2 e1 ckT2) rfl (fun h17 s17 => ?_)
  refine jCS.put s17 rfl (Nat.le_of_ble_eq_true rfl) rfl (fun h18 s18 => ?_)
  refine mj_T.pl rfl rfl rfl rfl ?_
  refine jCS.new (n := 17) s18 rfl ?_
  iterate 2 refine mj_T.pl rfl rfl rfl rfl ?_
  refine jCS.call (n := 17) (N := 19) s18 rfl rfl (Nat.le_of_ble_eq_true rfl) (Nat.le_of_ble_eq_true rfl) rfl rfl (fun e1 e2 => jk_78 (D := D + 2) (x := 340) e2 e1 ckT3) rfl (fun h19 s19 => ?_)
  refine jCS.put s19 rfl (Nat.le_of_ble_eq_true rfl) rfl (fun h20 s20 => ?_)
  refine mj_T.pl rfl rfl rfl rfl ?_
  refine jCS.new (n := 19) s20 rfl ?_
  refine mj_T.pl rfl rfl rfl rfl ?_
  refine jCS.call (n := 19) (N := 172) s20 rfl rfl (Nat.le_of_ble_eq_true rfl) (Nat.le_of_ble_eq_true rfl) rfl rfl (fun e1 e2 => jk_10 (D := D) e2 e1 ckK) rfl (fun h21 s21 => ?_)
  refine jCS.put s21 rfl (Nat.le_of_ble_eq_true rfl) rfl (fun h22 s22 => ?_)
  refine mj_T.pl rfl rfl rfl rfl ?_
  refine jCS.new (n := 172) s22 rfl ?_
  iterate 2 refine mj_T.pl rfl rfl rfl rfl ?_
  refine jCS.getA s22 rfl rfl ?_
  refine jCS.call (n := 172) (N := 444) s22 rfl rfl (Nat.le_of_ble_eq_true rfl) (Nat.le_of_ble_eq_true rfl) rfl rfl (fun e1 e2 => jk_67 (D := D) e2 e1 ckS) rfl (fun h23 s23 => ?_)
  refine jCS.put s23 rfl (Nat.le_of_ble_eq_true rfl) rfl (fun h24 s24 => ?_)
  refine mj_T.pl rfl rfl rfl rfl ?_
  refine jCS.new (n := 444) s24 rfl ?_
  iterate 2 refine mj_T.pl rfl rfl rfl rfl ?_
  refine jCS.getA s24 rfl rfl ?_
  refine mj_T.pl rfl rfl rfl rfl ?_
  refine jCS.getA s24 rfl rfl ?_
  refine jCS.call (n := 444) (N := 455) s24 rfl rfl (Nat.le_of_ble_eq_true rfl) (Nat.le_of_ble_eq_true rfl) rfl rfl (fun e1 e2 => jk_58 (D := D + 1) e2 e1 ckR) rfl (fun h25 s25 => ?_)
  refine jCS.put s25 rfl (Nat.le_of_ble_eq_true rfl) rfl (fun h26 s26 => ?_)
  refine mj_T.pl rfl rfl rfl rfl ?_
  refine jCS.new (n := 455) s26 rfl ?_
  iterate 2 refine mj_T.pl rfl rfl rfl rfl ?_
  refine jCS.getA s26 rfl rfl ?_
  refine mj_T.pl rfl rfl rfl rfl ?_
  refine jCS.getA s26 rfl rfl ?_
  refine jCS.call (n := 455) (N := 477) s26 rfl rfl (Nat.le_of_ble_eq_true rfl) (Nat.le_of_ble_eq_true rfl) rfl rfl (fun e1 e2 => jk_45 (D := D + 2) e2 e1 ckE) rfl (fun h27 s27 => ?_)
  refine jCS.put s27 rfl (Nat.le_of_ble_eq_true rfl) rfl (fun h28 s28 => ?_)
  refine mj_T.pl rfl rfl rfl rfl ?_
  refine jCS.new (n := 477) s28 rfl ?_
  iterate 2 refine mj_T.pl rfl rfl rfl rfl ?_
  refine jCS.call (n := 477) (N := 479) s28 rfl rfl (Nat.le_of_ble_eq_true rfl) (Nat.le_of_ble_eq_true rfl) rfl rfl (fun e1 e2 => jk_85 (D := D + 2) (x := 10) e2 e1 ckW1) rfl (fun h29 s29 => ?_)
  refine jCS.put s29 rfl (Nat.le_of_ble_eq_true rfl) rfl (fun h30 s30 => ?_)
  refine mj_T.pl rfl rfl rfl rfl ?_
  refine jCS.new (n := 479) s30 rfl ?_
  iterate 2 refine mj_T.pl rfl rfl rfl rfl ?_
  refine jCS.call (n := 479) (N := 481) s30 rfl rfl (Nat.le_of_ble_eq_true rfl) (Nat.le_of_ble_eq_true rfl) rfl rfl (fun e1 e2 => jk_85 (D := D + 2) (x := 10) e2 e1 ckW2) rfl (fun h31 s31 => ?_)
  refine jCS.put s31 rfl (Nat.le_of_ble_eq_true rfl) rfl (fun h32 s32 => ?_)
  iterate 2 refine mj_T.pl rfl rfl rfl rfl ?_
  refine jCS.arr (n := 481) (x := 13) 2 s32 rfl (Or.inr (Or.inl rfl)) rfl ⟨by decide, by decide⟩ ckL1.1 (by rw [ckL1.2]; rfl) (fun h33 s33 => ?_)
  refine jCS.put s33 rfl (Nat.le_of_ble_eq_true rfl) rfl (fun h34 s34 => ?_)
  iterate 2 refine mj_T.pl rfl rfl rfl rfl ?_
  refine jCS.arr (n := 482) (x := 13) 2 s34 rfl (Or.inr (Or.inl rfl)) rfl ⟨by decide, by decide⟩ ckL2.1 (by rw [ckL2.2]; rfl) (fun h35 s35 => ?_)
  refine jCS.put s35 rfl (Nat.le_of_ble_eq_true rfl) rfl (fun h36 s36 => ?_)
  iterate 2 refine mj_T.pl rfl rfl rfl rfl ?_
  refine jCS.put s36 rfl (Nat.le_of_ble_eq_true rfl) rfl (fun h37 s37 => ?_)
  iterate 2 refine mj_T.pl rfl rfl rfl rfl ?_
  exact jk_101l hn 8 0 rfl (fun j hj => absurd hj (by omega)) s37
end JKM
/-! The law's run from its entry to its end, on every script. -/
theorem jZ_ref {h1 : mj_H} (l1 : h1.length = 563) : mj_Ok 100 174 [.ref 563] (h1 ++ [.inr (10, mj_new 10)]) (fun r => r.1 = .inl none ∧ r.2.length = 571 ∧ (∀ a, a < 563 → r.2[a]? = h1[a]?) ∧ ∃ hr, jEm 563 hr r.2 ∧ jIx riN 0 (fun _ => riN) 0 (-1) (fun _ => 0) hr) := by
  have q0 : jNr [.inr (10, mj_new 10)] := fun a n f ha => by
    match a, ha with
    | 0, ha => cases ha
    | a + 1, ha => simp at ha
  obtain ⟨F, r, h2, ⟨hr, h3, hI⟩, h4⟩ := (rx_init (D := 0) (H := fun _ => riN)).nr q0
  subst h3
  have s8 := jI_s8 hI.tI h4
  have em : mj_em (fun k => 563 + k) 1 564 [.inr (10, mj_new 10)] (h1 ++ [.inr (10, mj_new 10)]) := by
    refine ⟨Nat.le_refl 1, by rw [List.length_append, l1]; rfl, fun k e he => ?_⟩
    match k, he with
    | 0, he =>
      cases he
      show (h1 ++ [.inr (10, mj_new 10)])[563]? = _
      rw [List.getElem?_append_right (by omega), l1]
      rfl
    | k + 1, he => simp at he
  obtain ⟨h', g1, g2, g3⟩ := mj_ren_run (ρ := fun k => 563 + k) (n := 1) (m := 564) (fun k hk => by omega) (fun i j hij => by have hij : 563 + i = 563 + j := hij; omega) mj_P F 2 174 [.ref 0] _ (h1 ++ [.inr (10, mj_new 10)]) _ h2 em
  have hl : h'.length = 571 := by
    have := g2.2.1
    simp only [s8.1] at this
    omega
  refine mj_Ok.up (D := 2) (by decide) ⟨F, _, g1, rfl, hl, fun a ha => ?_, hr, ⟨s8, h4, by show 563 + 8 ≤ h'.length; omega, fun i e hi => g2.2.2 i e hi⟩, hI⟩
  show h'[a]? = h1[a]?
  rw [g3 a (by omega) (fun k hk => by show 563 + k ≠ a; omega), List.getElem?_append_left (by omega)]
theorem jZ_start {Lx : Nat} {xs : Nat → Int32} {Q : mj_R → Prop} (k : ∀ h, jLi cK cL cR (.inl (100, Lx, fun j => .int (xs j))) 571 563 572 0 (-1) (fun _ => 0) h → jcx (-1) 0 (fun _ => 0) h → YX 0 (-1) (fun _ => 0) h → mj_T 100 mj_mK 23 [some (.ref 0), some (.ref 1), some (.ref 563), some (.ref 571), some (.int (jn 0)), none, none, none, none] [] h Q) : mj_T 100 mj_mK 0 (mj_loc0 9 [.ref 0]) [] [.inl (100, Lx, fun j => .int (xs j))] Q := by
  refine mj_T.eq (loc2 := [some (.ref 0), none, none, none, none, none, none, none, none]) ?_ rfl rfl rfl rfl
  iterate 2 refine mj_T.pl rfl rfl rfl rfl ?_
  refine mj_T.call rfl rfl (Nat.le_of_ble_eq_true rfl) (Nat.le_of_ble_eq_true rfl) rfl rfl (mj_Ok.up (by decide) ((jk_101 (D := 0) rfl rfl).and (zk_start (D := 0) (H := fun _ => riN) rfl rfl))) (fun v h1 hq => ?_) (fun i h' hq => by obtain ⟨⟨hq, _⟩, _⟩ := hq; cases hq)
  obtain ⟨⟨hv, o1, c1, X1⟩, cc1⟩ := hq
  cases hv
  have l1 : h1.length = 563 := o1.1
  have c1 : h1[0]? = some (.inl (100, Lx, fun j => .int (xs j))) := c1
  refine mj_T.pl rfl rfl rfl rfl ?_
  refine mj_T.step (pc' := 11) (loc' := [some (.ref 0), some (.ref 1), none, none, none, none, none, none, none]) (st' := [.ref 563]) (h' := h1 ++ [.inr (10, mj_new 10)]) rfl rfl (by simp only [mj_step, l1]; rfl) ?_
  refine mj_T.pl rfl rfl rfl rfl ?_
  refine mj_T.call rfl rfl (Nat.le_of_ble_eq_true rfl) (Nat.le_of_ble_eq_true rfl) rfl rfl (jZ_ref l1) (fun v h2 hq => ?_) (fun i h' hq => by obtain ⟨hq, _⟩ := hq; cases hq)
  obtain ⟨hv, l2, f2, hr, E, I⟩ := hq
  cases hv
  have l2 : h2.length = 571 := l2
  iterate 2 refine mj_T.pl rfl rfl rfl rfl ?_
  refine mj_T.step (pc' := 19) (loc' := [some (.ref 0), some (.ref 1), some (.ref 563), none, none, none, none, none, none]) (st' := [.ref 571]) (h' := h2 ++ [.inl (1, 1, fun _ => .long 0)]) rfl rfl (by simp only [mj_step, l2]; exact if_pos ⟨by decide, by decide, by decide⟩) ?_
  iterate 3 refine mj_T.pl rfl rfl rfl rfl ?_
  refine k _ ⟨⟨⟨by rw [List.length_append, l2]; rfl, o1.2.1, fun _ _ => ⟨fun _ => rfl, fun p q => absurd p (by rw [List.length_append, l2]; simp; omega)⟩, fun a ha => ?_⟩, ⟨cK_out (by decide), fun a ha hl => absurd hl (by rw [List.length_append, l2]; simp; omega)⟩, fun _ => .long 0, ?_⟩, ?_, hr, ?_, I.tI⟩ (X1.same ?_ ?_) ⟨riN, 0, fun _ => riN, hr, ?_, ?_, I⟩
  · have ha2 := cK_in ha
    rw [List.getElem?_append_left (by omega), f2 a ha2]
    exact o1.2.2.2 a ha
  · rw [List.getElem?_append_right (by omega), l2]
    rfl
  · rw [List.getElem?_append_left (by omega), f2 0 (by decide)]
    exact c1
  · obtain ⟨e1, e2, e3, e4⟩ := E
    refine ⟨e1, e2, by rw [List.length_append]; exact Nat.le_trans e3 (Nat.le_add_right _ _), fun i e hi => ?_⟩
    have hi8 : i < 8 := by
      have := (List.getElem?_eq_some_iff.mp hi).1
      rw [e1.1] at this
      exact this
    rw [List.getElem?_append_left (by omega)]
    exact e4 i e hi
  · rw [List.getElem?_append_left (by omega), f2 1 (by decide)]
  · rw [List.getElem?_append_left (by omega), f2 14 (by decide)]
  · exact cC.fr (h := h1) cc1 (fun a ha => by
      have ha2 := cK_in ha
      rw [List.getElem?_append_left (by omega), f2 a ha2])
  · obtain ⟨e1, e2, e3, e4⟩ := E
    refine ⟨e1, e2, by rw [List.length_append]; exact Nat.le_trans e3 (Nat.le_add_right _ _), fun i e hi => ?_⟩
    have hi8 : i < 8 := by
      have := (List.getElem?_eq_some_iff.mp hi).1
      rw [e1.1] at this
      exact this
    rw [List.getElem?_append_left (by omega)]
    exact e4 i e hi
/-! What is written of the room. -/
theorem jZ_take {h : mj_H} {w b : Nat → Nat} (hw : ∀ (a : Nat) (e : mj_E), h[a]? = some e → mj_slot e ≤ w a) (hb : ∀ a, b a + w a ≤ b (a + 1)) : ∀ n, n ≤ h.length → mj_sl (h.take n) ≤ b n := by
  intro n
  induction n with
  | zero =>
    intro _
    rw [List.take_zero]
    exact Nat.zero_le _
  | succ n ih =>
    intro hn
    have he : h[n]? = some h[n] := List.getElem?_eq_getElem (by omega)
    have h1 := ih (by omega)
    have h2 := hw n _ he
    have h3 := hb n
    rw [List.take_succ, he]
    show mj_sl (h.take n ++ [h[n]]) ≤ _
    rw [mj_sl_push]
    omega
theorem jZ_ck : ((List.range 563).all fun a => decide (a = 0) || (decide (cK a ≠ 0) && decide (cL a ≤ 1000) && decide ((jfs (cK a)).length ≤ 1000))) = true := by decide +kernel
theorem jZ_rs {tm er : Int} {T : Nat → Int} {hr : mj_H} (hI : jI tm er T hr) : ∀ (i : Nat) (e : mj_E), hr[i]? = some e → mj_slot e ≤ 470000 := by
  obtain ⟨S, N, B, X, V, hs, _⟩ := hI
  obtain ⟨bg, ov, db, _, rfl⟩ := hs
  intro i e hi
  match i, hi with
  | 0, hi => cases hi; exact (by decide : 16 ≤ 470000)
  | 1, hi => cases hi; exact (by decide : 91 ≤ 470000)
  | 2, hi => cases hi; exact (by decide : 728 ≤ 470000)
  | 3, hi => cases hi; exact (by decide : 466830 ≤ 470000)
  | 4, hi => cases hi; exact (by decide : 1404 ≤ 470000)
  | 5, hi => cases hi; exact (by decide : 702 ≤ 470000)
  | 6, hi => cases hi; exact (by decide : 200 ≤ 470000)
  | 7, hi => cases hi; exact (by decide : 600 ≤ 470000)
  | i + 8, hi =>
    have := (List.getElem?_eq_some_iff.mp hi).1
    simp only [List.length_set] at this
    exact absurd this (by show ¬ (i + 8 < 8); omega)
theorem mj_slot_rE (ρ : Nat → Nat) (e : mj_E) : mj_slot (mj_rE ρ e) = mj_slot e := by
  match e with
  | .inl (t, n, f) => rfl
  | .inr (c, fs) =>
    show (fs.map (mj_rn ρ)).length = fs.length
    rw [List.length_map]
def jZw (L0 a : Nat) : Nat := if a = 0 then L0 else if a < 563 then 1000 else if a < 571 then 470000 else 6
def jZb (L0 a : Nat) : Nat := if a = 0 then 0 else if a ≤ 563 then L0 + 1000 * (a - 1) else if a ≤ 571 then L0 + 562000 + 470000 * (a - 563) else L0 + 4322000 + 6 * (a - 571)
theorem jZ_wb (L0 a : Nat) : jZb L0 a + jZw L0 a ≤ jZb L0 (a + 1) := by
  unfold jZb jZw
  rw [if_neg (show ¬ (a + 1 = 0) by omega)]
  by_cases c0 : a = 0
  · subst c0
    rw [if_pos rfl, if_pos rfl, if_pos (by decide)]
    omega
  rw [if_neg c0, if_neg c0]
  by_cases c1 : a < 563
  · rw [if_pos (by omega), if_pos c1, if_pos (by omega)]
    omega
  rw [if_neg c1, if_neg (show ¬ (a + 1 ≤ 563) by omega)]
  by_cases c2 : a < 571
  · rw [if_pos c2, if_pos (show a + 1 ≤ 571 by omega)]
    by_cases c3 : a ≤ 563
    · rw [if_pos c3]
      omega
    · rw [if_neg c3, if_pos (by omega)]
      omega
  rw [if_neg c2, if_neg (show ¬ (a + 1 ≤ 571) by omega), if_neg (show ¬ (a ≤ 563) by omega)]
  by_cases c3 : a ≤ 571
  · rw [if_pos c3]
    omega
  · rw [if_neg c3]
    omega
theorem jZ_sl {n L0 : Nat} {tm er : Int} {T : Nat → Int} {f : Nat → Value} {h : mj_H} (I : jLi cK cL cR (.inl (100, L0, f)) 571 563 n tm er T h) (hn : n ≤ 10000) : mj_sl h ≤ L0 + 7202922 := by
  obtain ⟨⟨o, ⟨_, x⟩, g, hg⟩, c0, hr, E, hI⟩ := I
  have key := jZ_take (h := h) (w := jZw L0) (b := jZb L0) (fun a e he => ?_) (jZ_wb L0) h.length (Nat.le_refl _)
  · rw [List.take_length] at key
    have hl := (List.getElem?_eq_some_iff.mp hg).1
    have hl2 := o.1
    unfold jZb at key
    rw [if_neg (by omega), if_neg (by omega), if_neg (by omega)] at key
    omega
  · unfold jZw
    by_cases d0 : a = 0
    · subst d0
      rw [c0] at he
      cases he
      rw [if_pos rfl]
      exact Nat.le_refl _
    rw [if_neg d0]
    by_cases d1 : a < 563
    · rw [if_pos d1]
      have k1 := jall jZ_ck d1
      simp only [d0, decide_false, Bool.false_or, Bool.and_eq_true, decide_eq_true_eq] at k1
      obtain ⟨⟨k1, k2⟩, k3⟩ := k1
      obtain ⟨e2, h1, h2⟩ := o.2.2.2 a k1
      rw [he] at h1
      cases h1
      unfold jCf at h2
      split at h2
      · obtain ⟨f, h3, _⟩ := h2
        subst h3
        exact k2
      · obtain ⟨fs, h3, h4, _⟩ := h2
        subst h3
        show fs.length ≤ 1000
        omega
    rw [if_neg d1]
    by_cases d2 : a < 571
    · rw [if_pos d2]
      have hr8 : hr.length = 8 := E.1.1
      have he2 : hr[a - 563]? = some (hr[a - 563]'(by omega)) := List.getElem?_eq_getElem (by omega)
      have h1 := E.2.2.2 _ _ he2
      rw [show 563 + (a - 563) = a by omega, he] at h1
      cases h1
      rw [mj_slot_rE]
      exact jZ_rs hI _ _ he2
    rw [if_neg d2]
    by_cases d3 : a = 571
    · subst d3
      rw [hg] at he
      cases he
      exact (by decide : 1 ≤ 6)
    · rw [x a (by omega) (List.getElem?_eq_some_iff.mp he).1] at he
      cases he
      exact Nat.le_refl 6
theorem jZ_runs {L : Nat} (hL : L ≤ 3072) (xs : Nat → Int32) : ∃ F r, mj_loop (mj_run mj_P F 100) mj_mL F 0 (mj_loc0 9 [.ref 0]) [] (mj_h0 L xs) = some r ∧ ∃ h', r = (.inl (some (.int 1)), h') ∧ h'.length ≤ 1 + 603072 ∧ mj_sl h' ≤ L + 7202922 := by
  rw [mj_mK_eq]
  exact jZ_start (Q := fun r => ∃ h', r = (.inl (some (.int 1)), h') ∧ h'.length ≤ 1 + 603072 ∧ mj_sl h' ≤ L + 7202922) (fun h I X Y => jL_loop (N := 1084) hL (fun n' tm' er' T' h' hn I' => ⟨h', rfl, by have := I'.1.1.1; omega, jZ_sl I' (by omega)⟩) 512 (by decide) (by omega) (by omega) (by decide) I X Y)
