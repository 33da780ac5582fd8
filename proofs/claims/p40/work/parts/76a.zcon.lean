/-! The constructors once more: what a fresh cell holds. -/
/-- a fresh cell: a Wide is 0, a polynomial's degree is -1, a bench has no points, an array of longs holds 0 -/
def zZ (e : mj_E) : Prop := match e with
  | .inl (t, _, f) => t = 1 → ∀ i : Nat, f i = .long 0
  | .inr (c, fs) => (c = 8 → fs[1]? = some (.int 0) ∧ fs[2]? = some (.int 0)) ∧ (c = 3 → fs[2]? = some (.int (jn (-1)))) ∧ (c = 0 → fs[3]? = some (.int 0))
/-- the Wides that a constructor sets -/
def zW (a : Nat) : Prop := ¬ a ∈ bydl ∧ cK a = 18
def zCf (K L : Nat → Nat) (R : Nat → Nat → Nat) (tm : Int) (k a : Nat) (e : mj_E) : Prop := jCf K L R tm k a e ∧ (¬ zW a → zZ e)
/-- a is under way with those fields; what is new is of its kind, but for the open cells; all else is as before -/
def zCS (K L : Nat → Nat) (R : Nat → Nat → Nat) (tm : Int) (h0 : mj_H) (a c : Nat) (fs : List Value) (ob : List (Nat × mj_E)) (n : Nat) (h : mj_H) : Prop := h.length = n ∧ a < h0.length ∧ h0.length ≤ n ∧ (∀ x, x < h0.length → x ≠ a → h[x]? = h0[x]?) ∧ h[a]? = some (.inr (c, fs)) ∧ (∀ p ∈ ob, h0.length ≤ p.1 ∧ p.1 < n ∧ h[p.1]? = some p.2) ∧ ∀ x, h0.length ≤ x → x < n → (∀ p ∈ ob, p.1 ≠ x) → ∃ e, h[x]? = some e ∧ zCf K L R tm (K x) x e
/-- it is done -/
def zDn (K L : Nat → Nat) (R : Nat → Nat → Nat) (tm : Int) (h0 : mj_H) (a n : Nat) (h : mj_H) : Prop := h.length = n ∧ h0.length ≤ n ∧ (∀ x, x < h0.length → x ≠ a → h[x]? = h0[x]?) ∧ ∀ x, (x = a ∨ h0.length ≤ x) → x < n → ∃ e, h[x]? = some e ∧ zCf K L R tm (K x) x e
def zDr (K L : Nat → Nat) (R : Nat → Nat → Nat) (tm : Int) (h0 : mj_H) (a n : Nat) (r : mj_R) : Prop := r.1 = .inl none ∧ zDn K L R tm h0 a n r.2
section JCSS
variable {D pc : Nat} {M : mj_M} {loc : mj_L} {st : List Value} {h h' h0 : mj_H} {Q : mj_R → Prop} {r1 r2 r3 r4 r5 : Nat}
variable {K L : Nat → Nat} {R : Nat → Nat → Nat} {tm : Int} {a c n N : Nat} {fs : List Value} {ob : List (Nat × mj_E)}
theorem zCS.beg (ha : h0[a]? = some (.inr (c, fs))) (hn : h0.length = n) : zCS K L R tm h0 a c fs [] n h0 := ⟨hn, (List.getElem?_eq_some_iff.mp ha).1, by omega, fun _ _ _ => rfl, ha, fun p hp => (List.not_mem_nil hp).elim, fun x h1 h2 => absurd h1 (by omega)⟩
theorem zCS.put {f i : Nat} {v : Value} (s : zCS K L R tm h0 a c fs ob n h) (hc : M.2.2.2.2.1 pc = some (.putfield f, c, i, r3, r4, r5)) (hi : i < fs.length) (hv : mj_fit r3 v = true) (k : ∀ h', zCS K L R tm h0 a c (fs.set i v) ob n h' → mj_T D M (pc + 3) loc st h' Q) : mj_T D M pc loc (v :: .ref a :: st) h Q := by
  obtain ⟨s1, s2, s3, s4, s5, s6, s7⟩ := s
  refine mj_T.pfl hc s5 hi hv (k _ ⟨by rw [List.length_set]; exact s1, s2, s3, fun x hx hne => ?_, ?_, fun p hp => ?_, fun x h1 h2 h3 => ?_⟩)
  · rw [List.getElem?_set_ne (Ne.symm hne)]
    exact s4 x hx hne
  · rw [List.getElem?_set_self (List.getElem?_eq_some_iff.mp s5).1]
  · obtain ⟨p1, p2, p3⟩ := s6 p hp
    exact ⟨p1, p2, by rw [List.getElem?_set_ne (by omega)]; exact p3⟩
  · obtain ⟨e, e1, e2⟩ := s7 x h1 h2 h3
    exact ⟨e, by rw [List.getElem?_set_ne (by omega)]; exact e1, e2⟩
theorem zCS.get {f i : Nat} {v : Value} (s : zCS K L R tm h0 a c fs ob n h) (hc : M.2.2.2.2.1 pc = some (.getfield f, c, i, r3, r4, r5)) (hf : fs[i]? = some v) (k : mj_T D M (pc + 3) loc (v :: st) h Q) : mj_T D M pc loc (.ref a :: st) h Q := mj_T.gfl hc s.2.2.2.2.1 hf k
theorem zCS.getA {f i : Nat} {v : Value} {e : mj_E} (s : zCS K L R tm h0 a c fs ob n h) (hc : M.2.2.2.2.1 pc = some (.getfield f, c, i, r3, r4, r5)) (hf : fs[i]? = some v) (k : mj_T D M (pc + 3) loc (v :: st) (h ++ [e]) Q) : mj_T D M pc loc (.ref a :: st) (h ++ [e]) Q := mj_T.gfl hc (by rw [List.getElem?_append_left (List.getElem?_eq_some_iff.mp s.2.2.2.2.1).1]; exact s.2.2.2.2.1) hf k
theorem zCS.apps (s : zCS K L R tm h0 a c fs ob n h) (es : List mj_E) (t : ∀ (i : Nat) (e : mj_E), es[i]? = some e → zCf K L R tm (K (n + i)) (n + i) e) : zCS K L R tm h0 a c fs ob (n + es.length) (h ++ es) := by
  obtain ⟨s1, s2, s3, s4, s5, s6, s7⟩ := s
  refine ⟨by rw [List.length_append, s1], s2, by omega, fun x hx hne => ?_, ?_, fun p hp => ?_, fun x h1 h2 h3 => ?_⟩
  · rw [List.getElem?_append_left (by omega)]
    exact s4 x hx hne
  · rw [List.getElem?_append_left (by omega)]
    exact s5
  · obtain ⟨p1, p2, p3⟩ := s6 p hp
    exact ⟨p1, by omega, by rw [List.getElem?_append_left (by omega)]; exact p3⟩
  · by_cases q : x < n
    · obtain ⟨e, e1, e2⟩ := s7 x h1 q h3
      exact ⟨e, by rw [List.getElem?_append_left (by omega)]; exact e1, e2⟩
    · have hl : x - n < es.length := by omega
      have he : es[x - n]? = some es[x - n] := List.getElem?_eq_getElem hl
      refine ⟨es[x - n], by rw [List.getElem?_append_right (by omega), s1]; exact he, ?_⟩
      have := t _ _ he
      rw [show n + (x - n) = x by omega] at this
      exact this
theorem zCS.app (s : zCS K L R tm h0 a c fs ob n h) (e : mj_E) (t : zCf K L R tm (K n) n e) : zCS K L R tm h0 a c fs ob (n + 1) (h ++ [e]) := s.apps [e] (fun i e' hi => by
  match i, hi with
  | 0, hi => cases hi; exact t
  | i + 1, hi => simp at hi)
theorem zCS.opn (s : zCS K L R tm h0 a c fs [] n h) (e : mj_E) : zCS K L R tm h0 a c fs [(n, e)] (n + 1) (h ++ [e]) := by
  obtain ⟨s1, s2, s3, s4, s5, s6, s7⟩ := s
  refine ⟨by rw [List.length_append, s1]; rfl, s2, by omega, fun x hx hne => ?_, ?_, fun p hp => ?_, fun x h1 h2 h3 => ?_⟩
  · rw [List.getElem?_append_left (by omega)]
    exact s4 x hx hne
  · rw [List.getElem?_append_left (by omega)]
    exact s5
  · have hp := List.mem_singleton.mp hp
    subst hp
    refine ⟨s3, Nat.lt_succ_self _, ?_⟩
    show (h ++ [e])[n]? = some e
    rw [List.getElem?_append_right (by omega), s1, Nat.sub_self]
    rfl
  · have hne : n ≠ x := h3 (n, e) List.mem_cons_self
    obtain ⟨e, e1, e2⟩ := s7 x h1 (by omega) (fun p hp => (List.not_mem_nil hp).elim)
    exact ⟨e, by rw [List.getElem?_append_left (by omega)]; exact e1, e2⟩
theorem zCS.cls {b : Nat} {e : mj_E} (s : zCS K L R tm h0 a c fs [(b, e)] n h) (t : zCf K L R tm (K b) b e) : zCS K L R tm h0 a c fs [] n h := by
  obtain ⟨s1, s2, s3, s4, s5, s6, s7⟩ := s
  refine ⟨s1, s2, s3, s4, s5, fun p hp => (List.not_mem_nil hp).elim, fun x h1 h2 _ => ?_⟩
  by_cases q : b = x
  · subst q
    exact ⟨e, (s6 (b, e) List.mem_cons_self).2.2, t⟩
  · exact s7 x h1 h2 (fun p hp => by rw [List.mem_singleton.mp hp]; exact q)
theorem zCS.done (s : zCS K L R tm h0 a c fs [] n h) (t : zCf K L R tm (K a) a (.inr (c, fs))) : zDn K L R tm h0 a n h := by
  obtain ⟨s1, s2, s3, s4, s5, s6, s7⟩ := s
  refine ⟨s1, s3, s4, fun x h1 h2 => ?_⟩
  by_cases q : x = a
  · subst q
    exact ⟨_, s5, t⟩
  · exact s7 x (by omega) h2 (fun p hp => (List.not_mem_nil hp).elim)
/-- a call of a constructor over the newest cell -/
theorem zCS.after {e : mj_E} (s : zCS K L R tm h0 a c fs ob n h) (d : zDn K L R tm (h ++ [e]) n N h') : zCS K L R tm h0 a c fs ob N h' := by
  obtain ⟨s1, s2, s3, s4, s5, s6, s7⟩ := s
  obtain ⟨d1, d2, d3, d4⟩ := d
  have hl : (h ++ [e]).length = n + 1 := by rw [List.length_append, s1]; rfl
  have old : ∀ x, x < n → h'[x]? = h[x]? := fun x hx => by rw [d3 x (by omega) (by omega), List.getElem?_append_left (by omega)]
  refine ⟨d1, s2, by omega, fun x hx hne => ?_, ?_, fun p hp => ?_, fun x h1 h2 h3 => ?_⟩
  · rw [old x (by omega)]
    exact s4 x hx hne
  · rw [old a (by omega)]
    exact s5
  · obtain ⟨p1, p2, p3⟩ := s6 p hp
    exact ⟨p1, by omega, by rw [old _ p2]; exact p3⟩
  · by_cases q : x < n
    · rw [old x q]
      exact s7 x h1 q h3
    · exact d4 x (by omega) h2
theorem zCS.new {ix c2 r2 : Nat} (s : zCS K L R tm h0 a c fs ob n h) (hc : M.2.2.2.2.1 pc = some (.new ix, c2, r2, 0, r4, r5)) (k : mj_T D M (pc + 3) loc (.ref n :: st) (h ++ [.inr (c2, mj_new c2)]) Q) : mj_T D M pc loc st h Q :=
  mj_T.step hc rfl (by simp only [mj_step, s.1]) k
theorem zCS.call {ix j : Nat} {as : List Value} {e : mj_E} (s : zCS K L R tm h0 a c fs ob n h) (hc : M.2.2.2.2.1 pc = some (.invokespecial ix, j, r2, r3, r4, r5)) (hk : mj_kind (.invokespecial ix) r3 = 3) (hl : r2 ≤ st.length) (hcat : mj_cat (st.drop r2) ≤ 8) (hr : mj_recv (.invokespecial ix) r2 r5 st (h ++ [e]) = true) (has : (st.take r2).reverse = as) (hcall : (h ++ [e]).length = n + 1 → (h ++ [e])[n]? = some e → mj_Ok D j as (h ++ [e]) (zDr K L R tm (h ++ [e]) n N)) (hM : M.2.2.2.2.2.1 = []) (k : ∀ h', zCS K L R tm h0 a c fs ob N h' → mj_T D M (pc + 3) loc (st.drop r2) h' Q) : mj_T D M pc loc st (h ++ [e]) Q := by
  refine mj_T.call hc hk hl hcat hr has (hcall (by rw [List.length_append, s.1]; rfl) (by rw [List.getElem?_append_right (by rw [s.1]; exact Nat.le_refl _), s.1, Nat.sub_self]; rfl)) (fun v h' hq => ?_) (fun i h' hq => ?_)
  · obtain ⟨h1, h2⟩ := hq
    cases h1
    exact k h' (s.after h2)
  · obtain ⟨h1, _⟩ := hq
    cases h1
theorem zCf.num (k : Nat) (hk : k = 1 ∨ k = 2 ∨ k = 3) {b len : Nat} (ha : K b = k) (hl : L b = len) : zCf K L R tm (K b) b (.inl (jak k, len, fun _ => mj_df (jak k))) := ⟨jCf.num k hk ha hl, fun _ e i => by
  rcases hk with q | q | q
  · subst q
    exact absurd e (by decide)
  · subst q
    rfl
  · subst q
    exact absurd e (by decide)⟩
/-- a new array of numbers -/
theorem zCS.arr (kk : Nat) {x : Int} {t : ClassFile.ArrayType} (s : zCS K L R tm h0 a c fs ob n h) (hc : M.2.2.2.2.1 pc = some (.newarray t, r1, r2, r3, r4, r5)) (hkk : kk = 1 ∨ kk = 2 ∨ kk = 3) (hr : jak kk = r1) (hx : 0 ≤ x ∧ x ≤ 1000) (ka : K n = kk) (hl : (L n : Int) = x) (k : ∀ h', zCS K L R tm h0 a c fs ob (n + 1) h' → mj_T D M (pc + 2) loc (.ref n :: st) h' Q) : mj_T D M pc loc (.int (jn x) :: st) h Q := by
  subst hr
  have hj : jr x := ⟨by omega, by omega⟩
  have e1 : (jn x).toNatClampNeg = L n := by rw [jn_nat hx.1 hj]; omega
  have e2 : (0 : Int32) ≤ jn x := by rw [show (0 : Int32) = jn 0 from rfl, jn_le ⟨by decide, by decide⟩ hj]; exact hx.1
  have e3 : jak kk ≤ 2 := by rcases hkk with q | q | q <;> subst q <;> decide
  refine mj_T.step hc rfl (pc' := pc + 2) (loc' := loc) (st' := .ref n :: st) (h' := h ++ [.inl (jak kk, L n, fun _ => mj_df (jak kk))]) ?_ (k _ (s.app _ (zCf.num kk hkk ka rfl)))
  simp only [mj_step, e1, s.1]
  rw [if_pos ⟨e2, by omega, e3⟩]
/-- a new array of arrays of longs -/
theorem zCS.rows {x1 x2 : Nat} (N : Nat) (s : zCS K L R tm h0 a c fs ob n h) (hc : M.2.2.2.2.1 pc = some (.multianewarray x1 x2, r1, r2, r3, r4, r5)) (hN : N ≤ 1000) (ka : K n = 6) (hl : L n = N) (hrow : ∀ i, i < N → R n i = n + 1 + i ∧ K (n + 1 + i) = 2 ∧ L (n + 1 + i) = 13) (k : ∀ h', zCS K L R tm h0 a c fs ob (n + 1 + N) h' → mj_T D M (pc + 4) loc (.ref n :: st) h' Q) : mj_T D M pc loc (.int (jn 13) :: .int (jn (N : Int)) :: st) h Q := by
  subst hl
  have hj : jr (L n : Int) := ⟨by omega, by omega⟩
  have e1 : (jn (L n : Int)).toNatClampNeg = L n := by rw [jn_nat (by omega) hj]; rfl
  have e2 : (0 : Int32) ≤ jn (L n : Int) := by rw [show (0 : Int32) = jn 0 from rfl, jn_le ⟨by decide, by decide⟩ hj]; omega
  have e3 : (jn 13).toNatClampNeg = 13 := rfl
  have e4 : (0 : Int32) ≤ jn 13 := by decide
  refine mj_T.step hc rfl (pc' := pc + 4) (loc' := loc) (st' := .ref n :: st) (h' := h ++ (.inl (6, L n, fun i => if i < L n then .ref (n + 1 + i) else .null) :: mj_rows (L n) 13 0)) ?_ (k _ ?_)
  · simp only [mj_step, e1, e3, s.1]
    rw [if_pos ⟨e2, e4, by omega, by omega⟩]
  · have := s.apps (.inl (6, L n, fun i => if i < L n then .ref (n + 1 + i) else .null) :: mj_rows (L n) 13 0) (fun i e he => ?_)
    · rw [show n + (Sum.inl (6, L n, fun i => if i < L n then Value.ref (n + 1 + i) else .null) :: mj_rows (L n) 13 0 : List mj_E).length = n + 1 + L n by simp [mj_rows]; omega] at this
      exact this
    · match i, he with
      | 0, he =>
        cases he
        refine ⟨?_, fun _ e => absurd e (by decide)⟩
        show jCf K L R tm (K n) n _
        rw [ka]
        unfold jCf
        rw [if_pos (by decide)]
        refine ⟨_, rfl, fun j => ?_⟩
        rw [if_neg (by decide), if_neg (by decide)]
        intro hj
        rw [if_pos hj, (hrow j hj).1]
      | i + 1, he =>
        rw [List.getElem?_cons_succ] at he
        have hi : i < L n := by
          have := (List.getElem?_eq_some_iff.mp he).1
          simpa [mj_rows] using this
        have he2 : (mj_rows (L n) 13 0)[i]? = some (.inl (1, 13, fun _ => .long 0)) := by
          unfold mj_rows
          rw [List.getElem?_map, List.getElem?_range hi]
          rfl
        rw [he2] at he
        cases he
        have q := hrow i hi
        rw [show n + (i + 1) = n + 1 + i by omega]
        exact zCf.num 2 (Or.inr (Or.inl rfl)) q.2.1 q.2.2
/-- a new array for objects -/
theorem zCS.arrO {ix : Nat} (N : Nat) (s : zCS K L R tm h0 a c fs [] n h) (hc : M.2.2.2.2.1 pc = some (.anewarray ix, r1, r2, r3, r4, r5)) (hN : N ≤ 1000) (k : ∀ h', zCS K L R tm h0 a c fs [(n, .inl (r1, N, fun _ => .null))] (n + 1) h' → mj_T D M (pc + 3) loc (.ref n :: st) h' Q) : mj_T D M pc loc (.int (jn (N : Int)) :: st) h Q := by
  have hj : jr (N : Int) := ⟨by omega, by omega⟩
  have e1 : (jn (N : Int)).toNatClampNeg = N := by rw [jn_nat (by omega) hj]; rfl
  have e2 : (0 : Int32) ≤ jn (N : Int) := by rw [show (0 : Int32) = jn 0 from rfl, jn_le ⟨by decide, by decide⟩ hj]; omega
  refine mj_T.step hc rfl (pc' := pc + 3) (loc' := loc) (st' := .ref n :: st) (h' := h ++ [.inl (r1, N, fun _ => .null)]) ?_ (k _ (s.opn _))
  simp only [mj_step, e1, s.1]
  rw [if_pos ⟨e2, by omega⟩]
/-- its length -/
theorem zCS.alen {b t N : Nat} {f : Nat → Value} (s : zCS K L R tm h0 a c fs [(b, .inl (t, N, f))] n h) (hc : M.2.2.2.2.1 pc = some (.arraylength, r1, r2, r3, r4, r5)) (k : mj_T D M (pc + 1) loc (.int (jn (N : Int)) :: st) h Q) : mj_T D M pc loc (.ref b :: st) h Q := mj_T.alen hc (s.2.2.2.2.2.1 (b, .inl (t, N, f)) List.mem_cons_self).2.2 k
/-- one of its places is filled -/
theorem zCS.aast {b t N i v kv : Nat} {f : Nat → Value} (s : zCS K L R tm h0 a c fs [(b, .inl (t, N, f))] n h) (hc : M.2.2.2.2.1 pc = some (.aastore, r1, r2, r3, r4, r5)) (hv : h0.length ≤ v ∧ v < n ∧ b ≠ v) (kv1 : K v = kv) (hk : 7 < kv) (hel : mj_el t = some (jkc kv)) (hi : i < N) (hN : N ≤ 1000) (k : ∀ h', zCS K L R tm h0 a c fs [(b, .inl (t, N, updV f i (.ref v)))] n h' → mj_T D M (pc + 1) loc st h' Q) : mj_T D M pc loc (.ref v :: .int (jn (i : Int)) :: .ref b :: st) h Q := by
  obtain ⟨s1, s2, s3, s4, s5, s6, s7⟩ := s
  obtain ⟨b1, b2, b3⟩ := s6 (b, .inl (t, N, f)) List.mem_cons_self
  have b1 : h0.length ≤ b := b1
  have b3 : h[b]? = some (.inl (t, N, f)) := b3
  obtain ⟨e, e1, e2⟩ := s7 v hv.1 hv.2.1 (fun p hp => by rw [List.mem_singleton.mp hp]; exact hv.2.2)
  rw [kv1] at e2
  have e2 := e2.1
  unfold jCf at e2
  rw [if_neg (by omega)] at e2
  obtain ⟨gs, rfl, _⟩ := e2
  have hj : jr (i : Int) := ⟨by omega, by omega⟩
  have g1 : mj_in (jn (i : Int)) N = true := by rw [jn_in hj]; exact decide_eq_true ⟨by omega, by omega⟩
  have g2 : (jn (i : Int)).toNatClampNeg = i := by rw [jn_nat (by omega) hj]; rfl
  refine mj_T.step hc rfl (pc' := pc + 1) (loc' := loc) (st' := st) (h' := h.set b (.inl (t, N, updV f i (.ref v)))) ?_ (k _ ⟨by rw [List.length_set]; exact s1, s2, s3, fun x hx hne => ?_, ?_, fun p hp => ?_, fun x h1 h2 h3 => ?_⟩)
  · simp only [mj_step, b3, e1, g1, g2, hel, and_self, if_true]
  · rw [List.getElem?_set_ne (by omega)]
    exact s4 x hx hne
  · rw [List.getElem?_set_ne (by omega)]
    exact s5
  · have hp := List.mem_singleton.mp hp
    subst hp
    exact ⟨b1, b2, List.getElem?_set_self (List.getElem?_eq_some_iff.mp b3).1⟩
  · have hne : b ≠ x := h3 (b, _) List.mem_cons_self
    rw [List.getElem?_set_ne hne]
    exact s7 x h1 h2 (fun p hp => by rw [List.mem_singleton.mp hp]; exact hne)
/-- it is full -/
theorem zCS.full {b t k : Nat} {N : Nat} {f : Nat → Value} (s : zCS K L R tm h0 a c fs [(b, .inl (t, N, f))] n h) (kb : K b = k) (hk : 4 ≤ k ∧ k ≤ 7) (ht : jak k = t) (hl : L b = N) (hf : ∀ i, i < N → f i = .ref (R b i)) : zCS K L R tm h0 a c fs [] n h := by
  subst ht hl
  refine s.cls ⟨?_, fun _ e => ?_⟩
  rotate_left
  · exfalso
    have q : k = 4 ∨ k = 5 ∨ k = 6 ∨ k = 7 := by omega
    rcases q with q | q | q | q
    · subst q
      exact absurd e (by decide)
    · subst q
      exact absurd e (by decide)
    · subst q
      exact absurd e (by decide)
    · subst q
      exact absurd e (by decide)
  rw [kb]
  unfold jCf
  rw [if_pos (by omega)]
  refine ⟨_, rfl, fun i => ?_⟩
  rw [if_neg (by omega), if_neg (by omega)]
  exact hf i
theorem zCf.obj (k : Nat) (hk : 7 < k) (ka : K a = k) (hc : jkc k = c) (hl : fs.length = (jfs k).length) (hf : ∀ i cd, (jfs k)[i]? = some cd → ∃ v, fs[i]? = some v ∧ jfv K R tm cd a i v) (hz : zZ (.inr (c, fs)) := by first | exact ⟨fun e => absurd e (by decide), fun e => absurd e (by decide), fun e => absurd e (by decide)⟩ | exact ⟨fun _ => ⟨rfl, rfl⟩, fun e => absurd e (by decide), fun e => absurd e (by decide)⟩ | exact ⟨fun e => absurd e (by decide), fun _ => rfl, fun e => absurd e (by decide)⟩ | exact ⟨fun e => absurd e (by decide), fun e => absurd e (by decide), fun _ => rfl⟩) : zCf K L R tm (K a) a (.inr (c, fs)) := ⟨jCf.obj k hk ka hc hl hf, fun _ => hz⟩
end JCSS
