/-! The whole numbers' methods over the class's memory. -/
theorem mj_Ok.lift {D j : Nat} {as : List Value} {K : mj_H} {Q : mj_R → Prop} (c : mj_Ok D j as K Q) (is : List Nat) {h : mj_H} (hlen : is.length = K.length) (hnd : is.Nodup) (hc : ∀ (i p : Nat) (e : mj_E), is[i]? = some p → K[i]? = some e → h[p]? = some (mj_rE (jrho is h.length) e)) (hK : ∀ r, Q r → r.2.length = K.length) :
    mj_Ok D j (as.map (mj_rn (jrho is h.length))) h (fun r => ∃ r0 K', Q (r0, K') ∧ r = (mj_rR (jrho is h.length) r0, jlay (mj_rE (jrho is h.length)) is K' h)) := mj_Ok.at c is hlen hnd (fun p hp => by
  obtain ⟨i, hi⟩ := List.getElem?_of_mem hp
  have hil := (List.getElem?_eq_some_iff.mp hi).1
  have hk : K[i]? = some (K[i]'(by omega)) := List.getElem?_eq_getElem (by omega)
  exact (List.getElem?_eq_some_iff.mp (hc i p _ hi hk)).1) hc hK
theorem mK_ne {a c : Nat} (ka : cK a = 18 ∨ cK a = 12) (kc : cK c = 18 ∨ cK c = 12) (h : a ≠ c) : a + 1 ≠ c ∧ a ≠ c + 1 ∧ a + 1 ≠ c + 1 := by
  have h1 := (mK_w ka).1
  have h2 := (mK_w kc).1
  refine ⟨fun e => ?_, fun e => ?_, by omega⟩
  · rw [e] at h1
    omega
  · rw [← e] at h2
    omega
theorem set_same {h : mj_H} {a : Nat} {e : mj_E} (he : h[a]? = some e) : h.set a e = h := by
  apply List.ext_getElem?
  intro i
  by_cases q : a = i
  · subst q
    rw [List.getElem?_set_self (List.getElem?_eq_some_iff.mp he).1, he]
  · rw [List.getElem?_set_ne q]
theorem set2_at {h : mj_H} {c a : Nat} {e1 e2 e : mj_E} (h1 : a ≠ c) (h2 : a ≠ c + 1) (he : h[a]? = some e) : ((h.set c e1).set (c + 1) e2)[a]? = some e := by
  rw [List.getElem?_set_ne (Ne.symm h2), List.getElem?_set_ne (Ne.symm h1)]
  exact he
theorem lay2 {h : mj_H} {c a : Nat} {e1 e2 A A' : mj_E} (n1 : a ≠ c) (n2 : a ≠ c + 1) (n3 : a + 1 ≠ c) (n4 : a + 1 ≠ c + 1) (a1 : h[a]? = some A) (a2 : h[a + 1]? = some A') : ((((h.set c e1).set (c + 1) e2).set a A).set (a + 1) A') = ((h.set c e1).set (c + 1) e2) := by
  rw [set_same (set2_at n1 n2 a1), set_same (set2_at n3 n4 a2)]
section MWW
variable {g h : mj_H} {n D : Nat} {V : Nat → Int} {X : Nat → Nat → Int}
theorem mW_setLong (M : jM g n V X h) {c : Nat} {v : Int} (kc : cK c = 18) (hv : jR v) (hm : jnl v.natAbs ≤ cL (c + 1)) : mj_Ok (D + 1) 86 [.ref c, .long (jl v)] h (fun r => ∃ h', jM g n (jvu V c v) X h' ∧ r = (.inl none, h')) := by
  obtain ⟨q, s0, g0, hs0, h1, h2⟩ := M.T kc
  have k1 := mK_w (Or.inl kc)
  refine ((jw_setLong (D := D) (n := cL (c + 1)) hv (s0 := jn (s0 : Nat)) (g0 := g0) (g := q) (by omega)).lift [c, c + 1] (h := h) rfl (by simp) (fun i p e hi he => ?_) (fun r hr => ?_)).to (fun r hr => ?_)
  · match i, hi, he with
    | 0, hi, he => cases hi; cases he; exact h1
    | 1, hi, he => cases hi; cases he; exact h2
    | i + 2, hi, he => simp at hi
  · obtain ⟨g', _, _, e⟩ := hr
    rw [e]
    rfl
  · obtain ⟨r0, K', ⟨g', q1, q2, q3⟩, hr⟩ := hr
    cases q3
    rw [Nat.min_eq_right hm] at q1 hr
    exact ⟨_, M.setW kc q1 hm, hr⟩
theorem mW_set (M : jM g n V X h) {c a : Nat} (kc : cK c = 18) (ka : cK a = 18) (hne : a ≠ c) (hm : jnl (V a).natAbs ≤ cL (c + 1)) : mj_Ok (D + 1) 87 [.ref c, .ref a] h (fun r => ∃ h', jM g n (jvu V c (V a)) X h' ∧ r = (.inl none, h')) := by
  obtain ⟨q, s0, g0, hs0, h1, h2⟩ := M.T kc
  have k1 := mK_w (Or.inl kc)
  obtain ⟨p, a1, a2, a3, a4⟩ := M.W ka
  have k2 := mK_w (Or.inl ka)
  have ne := mK_ne (Or.inl ka) (Or.inl kc) hne
  refine ((jw_set (D := D) (n := cL (c + 1)) (m := cL (a + 1)) (s := jnl (V a).natAbs) (sg := jsg (V a)) (s0 := jn (s0 : Nat)) (g0 := g0) (g := q) (q := p) (by omega) (by omega) a4).lift [c, c + 1, a, a + 1] (h := h) rfl (by simp; omega) (fun i p e hi he => ?_) (fun r hr => ?_)).to (fun r hr => ?_)
  · match i, hi, he with
    | 0, hi, he => cases hi; cases he; exact h1
    | 1, hi, he => cases hi; cases he; exact h2
    | 2, hi, he => cases hi; cases he; exact a1
    | 3, hi, he => cases hi; cases he; exact a2
    | i + 4, hi, he => simp at hi
  · obtain ⟨g', _, e⟩ := hr
    rw [e]
    rfl
  · obtain ⟨r0, K', ⟨g', q1, q3⟩, hr⟩ := hr
    cases q3
    rw [Nat.min_eq_left hm] at q1 hr
    have es : (if jnl (V a).natAbs = 0 then 0 else jsg (V a)) = jsg (V a) := by
      split
      · rename_i z
        have := jnl_eq0.mp z
        rw [show V a = 0 by omega]
        rfl
      · rfl
    rw [es] at hr
    refine ⟨_, M.setW kc (q := g') (fun j hj => by rw [q1 j hj, a3 j hj]) hm, hr.trans (congrArg (Prod.mk _) ?_)⟩
    show ((((h.set c _).set (c + 1) _).set a _).set (a + 1) _) = _
    exact lay2 hne ne.2.1 ne.1 ne.2.2 a1 a2
theorem mW_plus (M : jM g n V X h) {c a : Nat} {f : Int} (kc : cK c = 18) (ka : cK a = 18) (hne : a ≠ c) (hf : f = 1 ∨ f = -1) (hm : jnl (V a).natAbs ≤ cL (c + 1)) (hm2 : jnl (V c + f * V a).natAbs ≤ cL (c + 1)) : mj_Ok (D + 2) 91 [.ref c, .ref a, .int (jn f)] h (fun r => ∃ h', jM g n (jvu V c (V c + f * V a)) X h' ∧ r = (.inl none, h')) := by
  have k1 := mK_w (Or.inl kc)
  have hcc : jnl (V c).natAbs ≤ 1500 := by
    have b1 := jnl_le_lt.mp (Nat.le_trans hm k1.2.1)
    have b2 := jnl_le_lt.mp (Nat.le_trans hm2 k1.2.1)
    suffices b6 : jnl (V c).natAbs ≤ 1001 from Nat.le_trans b6 (by decide)
    refine jnl_le_lt.mpr ?_
    have b3 : (V c).natAbs ≤ (V c + f * V a).natAbs + (V a).natAbs := by
      rcases hf with e | e <;> subst e <;> omega
    have b4 : jB ^ 1001 = jB ^ 1000 * jB := Nat.pow_succ jB 1000
    have b5 : jB ^ 1000 * 2 ≤ jB ^ 1000 * jB := Nat.mul_le_mul_left _ (by decide)
    omega
  obtain ⟨q, h1, h2, h3, h4⟩ := M.W kc
  obtain ⟨p, a1, a2, a3, a4⟩ := M.W ka
  have k2 := mK_w (Or.inl ka)
  have ne := mK_ne (Or.inl ka) (Or.inl kc) hne
  refine ((jw_plus (D := D) (n := cL (c + 1)) (m := cL (a + 1)) (u := V c) (w := V a) (f := f) (g := q) (q := p) (by omega) (by omega) hf h4 a4 hm hm2 h3 a3).lift [c, c + 1, a, a + 1] (h := h) rfl (by simp; omega) (fun i p e hi he => ?_) (fun r hr => ?_)).to (fun r hr => ?_)
  · match i, hi, he with
    | 0, hi, he => cases hi; cases he; exact h1
    | 1, hi, he => cases hi; cases he; exact h2
    | 2, hi, he => cases hi; cases he; exact a1
    | 3, hi, he => cases hi; cases he; exact a2
    | i + 4, hi, he => simp at hi
  · obtain ⟨g', _, e⟩ := hr
    rw [e]
    rfl
  · obtain ⟨r0, K', ⟨g', q1, q3⟩, hr⟩ := hr
    cases q3
    refine ⟨_, M.setW kc (q := g') q1 hm2, hr.trans (congrArg (Prod.mk _) ?_)⟩
    show ((((h.set c _).set (c + 1) _).set a _).set (a + 1) _) = _
    exact lay2 hne ne.2.1 ne.1 ne.2.2 a1 a2
theorem mW_setProduct (M : jM g n V X h) {c a b : Nat} (kc : cK c = 18) (ka : cK a = 18) (kb : cK b = 18) (hne : a ≠ c) (hnb : b ≠ c) (hab : a ≠ b) (hm : jnl (V a * V b).natAbs ≤ cL (c + 1)) (hca : jnl (V a).natAbs ≤ 1500 := by omega) (hcb : jnl (V b).natAbs ≤ 1500 := by omega) : mj_Ok (D + 1) 95 [.ref c, .ref a, .ref b] h (fun r => ∃ h', jM g n (jvu V c (V a * V b)) X h' ∧ r = (.inl none, h')) := by
  obtain ⟨q, s0, g0, hs0, h1, h2⟩ := M.T kc
  obtain ⟨p, a1, a2, a3, a4⟩ := M.W ka
  obtain ⟨s, b1, b2, b3, b4⟩ := M.W kb
  have k1 := mK_w (Or.inl kc)
  have k2 := mK_w (Or.inl ka)
  have k3 := mK_w (Or.inl kb)
  have ne := mK_ne (Or.inl ka) (Or.inl kc) hne
  have nb := mK_ne (Or.inl kb) (Or.inl kc) hnb
  have nab := mK_ne (Or.inl ka) (Or.inl kb) hab
  refine ((jw_setProduct (D := D) (n := cL (c + 1)) (m1 := cL (a + 1)) (m2 := cL (b + 1)) (u := V a) (w := V b) (s0 := jn (s0 : Nat)) (g0 := g0) (g := q) (q1 := p) (q2 := s) (by omega) (by omega) (by omega) a4 b4 hm a3 b3).lift [c, c + 1, a, a + 1, b, b + 1] (h := h) rfl (by simp; omega) (fun i p e hi he => ?_) (fun r hr => ?_)).to (fun r hr => ?_)
  · match i, hi, he with
    | 0, hi, he => cases hi; cases he; exact h1
    | 1, hi, he => cases hi; cases he; exact h2
    | 2, hi, he => cases hi; cases he; exact a1
    | 3, hi, he => cases hi; cases he; exact a2
    | 4, hi, he => cases hi; cases he; exact b1
    | 5, hi, he => cases hi; cases he; exact b2
    | i + 6, hi, he => simp at hi
  · obtain ⟨g', _, e⟩ := hr
    rw [e]
    rfl
  · obtain ⟨r0, K', ⟨g', q1, q3⟩, hr⟩ := hr
    cases q3
    refine ⟨_, M.setW kc (q := g') q1 hm, hr.trans (congrArg (Prod.mk _) ?_)⟩
    show ((((((h.set c _).set (c + 1) _).set a _).set (a + 1) _).set b _).set (b + 1) _) = _
    refine Eq.trans (congrArg (fun z : mj_H => (z.set b _).set (b + 1) _) (lay2 hne ne.2.1 ne.1 ne.2.2 a1 a2)) (lay2 hnb nb.2.1 nb.1 nb.2.2 b1 b2)
theorem mW_scale (M : jM g n V X h) {c f : Nat} (kc : cK c = 18) (hf : 0 < f) (hf2 : f ≤ 1000000000) (hm : jnl (V c * (f : Int)).natAbs ≤ cL (c + 1)) : mj_Ok (D + 1) 96 [.ref c, .long (jl (f : Int))] h (fun r => ∃ h', jM g n (jvu V c (V c * (f : Int))) X h' ∧ r = (.inl none, h')) := by
  have k1 := mK_w (Or.inl kc)
  have ea : (V c * (f : Int)).natAbs = (V c).natAbs * f := by rw [Int.natAbs_mul, Int.natAbs_natCast]
  have hcc : jnl (V c).natAbs ≤ 1500 := by
    have q := jnl_mono (show (V c).natAbs ≤ (V c * (f : Int)).natAbs by rw [ea]; exact Nat.le_mul_of_pos_right _ hf)
    omega
  obtain ⟨q, h1, h2, h3, h4⟩ := M.W kc
  have es : jsg (V c * (f : Int)) = jsg (V c) := by
    unfold jsg
    have p1 : V c * (f : Int) < 0 ↔ V c < 0 := by
      constructor
      · intro q
        rcases Int.lt_or_le (V c) 0 with w | w
        · exact w
        · have := Int.mul_nonneg w (show (0 : Int) ≤ f by omega)
          omega
      · intro q
        exact Int.mul_neg_of_neg_of_pos q (by omega)
    have p2 : 0 < V c * (f : Int) ↔ 0 < V c := by
      constructor
      · intro q
        rcases Int.lt_or_le 0 (V c) with w | w
        · exact w
        · have := Int.mul_nonpos_of_nonpos_of_nonneg w (show (0 : Int) ≤ f by omega)
          omega
      · intro q
        exact Int.mul_pos q (by omega)
    simp only [p1, p2]
  rw [ea] at hm
  refine ((jw_scale (D := D) (n := cL (c + 1)) (x := (V c).natAbs) (f := f) (g0 := jn (jsg (V c))) (g := q) (by omega) hf hf2 hm h3).lift [c, c + 1] (h := h) rfl (by simp) (fun i p e hi he => ?_) (fun r hr => ?_)).to (fun r hr => ?_)
  · match i, hi, he with
    | 0, hi, he => cases hi; cases he; exact h1
    | 1, hi, he => cases hi; cases he; exact h2
    | i + 2, hi, he => simp at hi
  · obtain ⟨g', _, e⟩ := hr
    rw [e]
    rfl
  · obtain ⟨r0, K', ⟨g', q1, q3⟩, hr⟩ := hr
    cases q3
    have hs := M.setW kc (v := V c * (f : Int)) (q := g') (by rw [ea]; exact q1) (by rw [ea]; exact hm)
    rw [ea, es] at hs
    exact ⟨_, hs, hr⟩
theorem mW_cut (M : jM g n V X h) {c f : Nat} (kc : cK c = 18) (hf : 0 < f) (hf2 : f ≤ 1000000000) (hcc : jnl (V c).natAbs ≤ 1500 := by omega) : mj_Ok (D + 1) 97 [.ref c, .long (jl (f : Int))] h (fun r => ∃ h', jM g n (jvu V c ((V c).tdiv (f : Int))) X h' ∧ r = (.inl none, h')) := by
  obtain ⟨q, h1, h2, h3, h4⟩ := M.W kc
  have k1 := mK_w (Or.inl kc)
  have ea : ((V c).tdiv (f : Int)).natAbs = (V c).natAbs / f := by rw [Int.natAbs_tdiv, Int.natAbs_natCast]; rfl
  have es : jsg ((V c).tdiv (f : Int)) = if (V c).natAbs / f = 0 then 0 else jsg (V c) := by
    rw [jsg_tdiv, Int.natAbs_natCast, jsg_pos (v := (f : Int)) (by omega), Int.mul_one]
  refine ((jw_cut (D := D) (n := cL (c + 1)) (x := (V c).natAbs) (f := f) (s := jsg (V c)) (g := q) (by omega) hf hf2 h4 h3).lift [c, c + 1] (h := h) rfl (by simp) (fun i p e hi he => ?_) (fun r hr => ?_)).to (fun r hr => ?_)
  · match i, hi, he with
    | 0, hi, he => cases hi; cases he; exact h1
    | 1, hi, he => cases hi; cases he; exact h2
    | i + 2, hi, he => simp at hi
  · obtain ⟨g', _, e⟩ := hr
    rw [e]
    rfl
  · obtain ⟨r0, K', ⟨g', q1, q3⟩, hr⟩ := hr
    cases q3
    have hle : jnl ((V c).natAbs / f) ≤ jnl (V c).natAbs := jnl_mono (Nat.div_le_self _ _)
    have hs := M.setW kc (v := (V c).tdiv (f : Int)) (q := g') (by rw [ea]; exact fun j hj => q1 j (by omega)) (by rw [ea]; omega)
    rw [ea, es] at hs
    exact ⟨_, hs, hr⟩
end MWW
