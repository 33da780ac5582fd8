/-! Rules for the steps over the class's memory; the divisor. -/
section MTR
variable {g h : mj_H} {n D pc nm ci f r1 r2 r3 r4 r5 : Nat} {V : Nat → Int} {X : Nat → Nat → Int} {M : mj_M} {loc : mj_L} {st : List Value} {Q : mj_R → Prop}
theorem jM.setO (m : jM g n V X h) {a i k : Nat} {v : Int} (ka : cK a = k) (hk : 7 < k ∧ k ≠ 18 ∧ k ≠ 12) (he : jMf (xup X a i v) k a = (jMf X k a).set i (.int (jn v))) : jM g n V (xup X a i v) (h.set a (.inr (jkc k, (jMf X k a).set i (.int (jn v))))) := by
  have hl := (List.getElem?_eq_some_iff.mp (m.O k ka hk)).1
  refine m.up (fun x => x = a) (by rw [List.length_set]) (fun x hx => by subst hx; omega) (fun p hp => List.getElem?_set_ne (fun e => hp e.symm)) (fun _ _ => rfl) (fun x hx => funext fun j => xup_ne _ _ (Or.inl hx)) (fun x hx => ?_) (fun x hx => ?_)
  · have := mK_w hx
    constructor
    · intro e
      subst e
      omega
    · intro e
      rw [e] at this
      omega
  · subst hx
    unfold jMk
    rw [ka, if_neg (by omega), if_neg (by omega), if_neg (by omega), if_neg (by omega), if_neg (by omega), if_neg (by omega), if_neg (by omega), he, List.getElem?_set_self hl]
theorem mT_get (m : jM g n V X h) {a : Nat} (k : Nat) {v : Value} (ka : cK a = k) (hk : 7 < k ∧ k ≠ 18 ∧ k ≠ 12) (hc : M.2.2.2.2.1 pc = some (.getfield nm, jkc k, f, r3, r4, r5)) (hf : (jMf X k a)[f]? = some v) (q : mj_T D M (pc + 3) loc (v :: st) h Q) : mj_T D M pc loc (.ref a :: st) h Q := mj_T.gfl hc (m.O k ka hk) hf q
theorem mT_put (m : jM g n V X h) {a : Nat} (k : Nat) {v : Int} (ka : cK a = k) (hk : 7 < k ∧ k ≠ 18 ∧ k ≠ 12) (hc : M.2.2.2.2.1 pc = some (.putfield nm, jkc k, f, r3, r4, r5)) (he : jMf (xup X a f v) k a = (jMf X k a).set f (.int (jn v))) (hl : f < (jMf X k a).length) (hv : mj_fit r3 (.int (jn v)) = true) (q : ∀ h', jM g n V (xup X a f v) h' → mj_T D M (pc + 3) loc st h' Q) : mj_T D M pc loc (.int (jn v) :: .ref a :: st) h Q := mj_T.pfl hc (m.O k ka hk) hl hv (q _ (m.setO ka hk he))
theorem mT_sz (m : jM g n V X h) {a : Nat} (ka : cK a = 18) (hc : M.2.2.2.2.1 pc = some (.getfield nm, 8, 1, r3, r4, r5)) (q : mj_T D M (pc + 3) loc (.int (jn (jnl (V a).natAbs : Nat)) :: st) h Q) (hcl : jnl (V a).natAbs ≤ 1500 := by omega) : mj_T D M pc loc (.ref a :: st) h Q := by
  obtain ⟨p, h1, _⟩ := m.W ka
  exact mj_T.gfl hc h1 rfl q
theorem mT_sg (m : jM g n V X h) {a : Nat} (ka : cK a = 18) (hc : M.2.2.2.2.1 pc = some (.getfield nm, 8, 2, r3, r4, r5)) (q : mj_T D M (pc + 3) loc (.int (jn (jsg (V a))) :: st) h Q) (hcl : jnl (V a).natAbs ≤ 1500 := by omega) : mj_T D M pc loc (.ref a :: st) h Q := by
  obtain ⟨p, h1, _⟩ := m.W ka
  exact mj_T.gfl hc h1 rfl q
theorem jsg_ng (v w : Int) (hw : w.natAbs = v.natAbs) (h : jsg w = jsg v ∨ jsg w = - jsg v) : jnl w.natAbs = jnl v.natAbs := by rw [hw]
/-- the sign alone is exchanged -/
theorem mT_psg (m : jM g n V X h) {a : Nat} {s w : Int} (ka : cK a = 18) (hw : w.natAbs = (V a).natAbs) (hs : jsg w = s) (hc : M.2.2.2.2.1 pc = some (.putfield nm, 8, 2, 0, r4, r5)) (q : ∀ h', jM g n (jvu V a w) X h' → mj_T D M (pc + 3) loc st h' Q) (hcl : jnl (V a).natAbs ≤ 1500 := by omega) : mj_T D M pc loc (.int (jn s) :: .ref a :: st) h Q := by
  obtain ⟨p, h1, h2, h3, h4⟩ := m.W ka
  refine mj_T.pfl hc h1 (by decide : 2 < 3) rfl (q _ ?_)
  have hM := m.setW ka (v := w) (q := p) (by rw [hw]; exact h3) (by rw [hw]; exact h4)
  rw [hw, hs] at hM
  have e2 : ((h.set a (.inr (8, [.ref (a + 1), .int (jn (jnl (V a).natAbs : Nat)), .int (jn s)]))).set (a + 1) (.inl (0, cL (a + 1), fun j => .int (p j)))) = h.set a (.inr (8, [.ref (a + 1), .int (jn (jnl (V a).natAbs : Nat)), .int (jn s)])) := set_same (by rw [List.getElem?_set_ne (by omega)]; exact h2)
  rw [e2] at hM
  exact hM
theorem mT_lald (m : jM g n V X h) {a : Nat} {i : Int} (ka : cK a = 2) (hc : M.2.2.2.2.1 pc = some (.laload, r1, r2, r3, r4, r5)) (h0 : 0 ≤ i ∧ i < 13) (q : mj_T D M (pc + 1) loc (.long (jl (X a i.toNat)) :: st) h Q) : mj_T D M pc loc (.int (jn i) :: .ref a :: st) h Q := mj_T.lald (g := fun j => jl (X a j)) hc (m.L ka) ⟨by omega, by omega⟩ h0 q
theorem jM.setL (m : jM g n V X h) {a i : Nat} {v : Int} (ka : cK a = 2) : jM g n V (xup X a i v) (h.set a (.inl (1, 13, fun j => .long (if j = i then jl v else jl (X a j))))) := by
  have hl := (List.getElem?_eq_some_iff.mp (m.L ka)).1
  refine m.up (fun x => x = a) (by rw [List.length_set]) (fun x hx => by subst hx; omega) (fun p hp => List.getElem?_set_ne (fun e => hp e.symm)) (fun _ _ => rfl) (fun x hx => funext fun j => xup_ne _ _ (Or.inl hx)) (fun x hx => ?_) (fun x hx => ?_)
  · have := mK_w hx
    constructor
    · intro e
      subst e
      omega
    · intro e
      rw [e] at this
      omega
  · subst hx
    unfold jMk
    rw [ka, if_neg (by decide), if_neg (by decide), if_neg (by decide), if_neg (by decide), if_pos rfl, List.getElem?_set_self hl]
    congr 4
    funext j
    unfold xup
    by_cases q : j = i
    · rw [if_pos q, if_pos ⟨rfl, q⟩]
    · rw [if_neg q, if_neg (fun w => q w.2)]
theorem mT_last (m : jM g n V X h) {a : Nat} {i v : Int} (ka : cK a = 2) (hc : M.2.2.2.2.1 pc = some (.lastore, r1, r2, r3, r4, r5)) (h0 : 0 ≤ i ∧ i < 13) (q : ∀ h', jM g n V (xup X a i.toNat v) h' → mj_T D M (pc + 1) loc st h' Q) : mj_T D M pc loc (.long (jl v) :: .int (jn i) :: .ref a :: st) h Q := mj_T.last (g := fun j => jl (X a j)) hc (m.L ka) ⟨by omega, by omega⟩ h0 (q _ (m.setL ka))
theorem mT_aald (m : jM g n V X h) {a : Nat} {i : Int} (k : Nat) (ka : cK a = k) (hk : 4 ≤ k ∧ k ≤ 7) (hr : mj_isref (jak k) = true) (hc : M.2.2.2.2.1 pc = some (.aaload, r1, r2, r3, r4, r5)) (hi : i ≤ 1000) (h0 : 0 ≤ i ∧ i < (cL a : Int)) (q : mj_T D M (pc + 1) loc (.ref (jMg k a i.toNat) :: st) h Q) : mj_T D M pc loc (.int (jn i) :: .ref a :: st) h Q := by
  obtain ⟨p, h1, h2⟩ := m.A k ka hk
  refine mj_T.aald hc h1 hr ⟨by omega, by omega⟩ h0 ?_
  rw [h2 i.toNat (by omega)]
  exact q
theorem mT_alen (m : jM g n V X h) {a : Nat} (k : Nat) (ka : cK a = k) (hk : 4 ≤ k ∧ k ≤ 7) (hc : M.2.2.2.2.1 pc = some (.arraylength, r1, r2, r3, r4, r5)) (q : mj_T D M (pc + 1) loc (.int (jn (cL a : Nat)) :: st) h Q) : mj_T D M pc loc (.ref a :: st) h Q := by
  obtain ⟨p, h1, _⟩ := m.A k ka hk
  exact mj_T.alen hc h1 q
theorem mT_llen (m : jM g n V X h) {a : Nat} (ka : cK a = 2) (hc : M.2.2.2.2.1 pc = some (.arraylength, r1, r2, r3, r4, r5)) (q : mj_T D M (pc + 1) loc (.int (jn ((13 : Nat) : Int)) :: st) h Q) : mj_T D M pc loc (.ref a :: st) h Q := mj_T.alen hc (m.L ka) q
/-- the receiver of a call -/
theorem mV_of (m : jM g n V X h) {a : Nat} (k : Nat) {c q2 : Nat} (ka : cK a = k) (hk : 7 < k) (hcl : jkc k = c) (hr : 1 ≤ q2) (hd : st.drop (q2 - 1) = .ref a :: st.drop q2) : ∀ j, mj_recv (.invokevirtual j) q2 c st h = true := by
  intro j
  have ho : ∃ fs, h[a]? = some (.inr (c, fs)) := by
    by_cases k1 : k = 18
    · subst k1
      obtain ⟨p, _, _, _, h1, _⟩ := m.T ka
      exact ⟨_, by rw [h1, ← hcl]; rfl⟩
    · by_cases k2 : k = 12
      · subst k2
        obtain ⟨p, _, _, _, _, h1, _⟩ := m.DT ka
        exact ⟨_, by rw [h1, ← hcl]; rfl⟩
      · exact ⟨_, by rw [m.O k ka ⟨hk, k1, k2⟩, hcl]⟩
  obtain ⟨fs, ho⟩ := ho
  match q2, hr, hd with
  | q2 + 1, _, hd => simp only [mj_recv, hd, ho, decide_true]
end MTR
section MWD
variable {g h : mj_H} {n D : Nat} {V : Nat → Int} {X : Nat → Nat → Int}
theorem jM.setD (M : jM g n V X h) {a : Nat} (ka : cK a = 12) {v : Int} {q : Nat → Int32} (hq : ∀ j, j < jnl v.natAbs → q j = jn (jlb (v.natAbs * jfa v.natAbs) j : Nat)) (hm : jnl v.natAbs ≤ cL (a + 1)) : jM g n (jvu V a v) X ((h.set a (.inr (2, [.ref (a + 1), .int (jn (jnl v.natAbs : Nat)), .int (jn (jsg v)), .long (jl (jfa v.natAbs : Nat))]))).set (a + 1) (.inl (0, cL (a + 1), fun j => .int (q j)))) := by
  have k1 := mK_w (Or.inr ka)
  have hl := (M.DT ka).lt
  refine M.up (fun x => x = a ∨ x = a + 1) (by rw [List.length_set, List.length_set]) (fun x hx => ?_) (fun p hp => ?_) (fun x hx => jvu_ne _ _ _ (fun e => hx (Or.inl e))) (fun _ _ => rfl) (fun x hx => ?_) (fun x hx => ?_)
  · rcases hx with e | e <;> subst e <;> omega
  · rw [List.getElem?_set_ne (fun e => hp (Or.inr e.symm)), List.getElem?_set_ne (fun e => hp (Or.inl e.symm))]
  · constructor
    · intro q
      rcases q with e | e
      · exact Or.inr (by omega)
      · subst e
        omega
    · intro q
      rcases q with e | e
      · subst e
        have := mK_w hx
        omega
      · exact Or.inl (by omega)
  · rcases hx with e | e
    · subst e
      rw [ka]
      show dX _ x _ _
      rw [jvu_at]
      suffices w : wD _ x _ v from ⟨w.T (Nat.le_of_eq (mK_d ka)), fun _ => w⟩
      refine ⟨q, ?_, ?_, hq, hm⟩
      · rw [List.getElem?_set_ne (by omega), List.getElem?_set_self (by omega)]
      · rw [List.getElem?_set_self (by rw [List.length_set]; omega)]
    · subst e
      rw [k1.1]
      show _ ∨ _
      exact Or.inl (Or.inr ka)
theorem mW_prepare (M : jM g n V X h) {c a : Nat} (kc : cK c = 12) (ka : cK a = 18) (hm : jnl (V a).natAbs ≤ cL (c + 1)) : mj_Ok (D + 1) 30 [.ref c, .ref a] h (fun r => ∃ h', jM g n (jvu V c (V a)) X h' ∧ r = (.inl none, h')) := by
  obtain ⟨q, s0, g0, f0, hs0, h1, h2⟩ := M.DT kc
  have k1 := mK_w (Or.inr kc)
  obtain ⟨p, a1, a2, a3, a4⟩ := M.W ka
  have k2 := mK_w (Or.inl ka)
  have hne : a ≠ c := fun e => by subst e; omega
  have ne := mK_ne (Or.inl ka) (Or.inr kc) hne
  refine ((jw_prepare (D := D) (nd := cL (c + 1)) (m := cL (a + 1)) (x := (V a).natAbs) (s0 := jn (s0 : Nat)) (sv0 := g0) (fac0 := f0) (s2 := jsg (V a)) (gv := q) (gy := p) (by omega) (by omega) hm a4 a3).lift [c, c + 1, a, a + 1] (h := h) rfl (by simp; omega) (fun i p e hi he => ?_) (fun r hr => ?_)).to (fun r hr => ?_)
  · match i, hi, he with
    | 0, hi, he => cases hi; cases he; exact h1
    | 1, hi, he => cases hi; cases he; exact h2
    | 2, hi, he => cases hi; cases he; exact a1
    | 3, hi, he => cases hi; cases he; exact a2
    | i + 4, hi, he => simp at hi
  · obtain ⟨g', _, e⟩ := hr
    rw [e]
    rfl
  · obtain ⟨r0, K', ⟨g', q1, q3⟩, hr⟩ := hr
    cases q3
    refine ⟨_, M.setD kc (v := V a) (q := g') q1 hm, hr.trans (congrArg (Prod.mk _) ?_)⟩
    exact lay2 hne ne.2.1 ne.1 ne.2.2 a1 a2
theorem jfa_room {x m : Nat} (h : jnl x + 1 ≤ m) : jnl (x * jfa x) ≤ m := by
  rw [jfa_nl]
  omega
/-- a number is divided; the remainder stands in its place -/
theorem mW_split (M : jM g n V X h) {c a b : Nat} (kc : cK c = 12) (ka : cK a = 18) (kb : cK b = 18) (hab : a ≠ b) (hX : jnl ((V a).natAbs * jfa (V c).natAbs) ≤ cL (a + 1)) (hm : jnl ((V a).tdiv (V c)).natAbs ≤ cL (b + 1)) (hcc : jnl (V c).natAbs ≤ 1500 := by omega) : mj_Ok (D + 2) 31 [.ref c, .ref a, .ref b] h (fun r => ∃ h', jM g n (jvu (jvu V a ((V a).tmod (V c))) b ((V a).tdiv (V c))) X h' ∧ r = (.inl none, h')) := by
  obtain ⟨q, h1, h2, h3, h4⟩ := M.D kc
  have k1 := mK_w (Or.inr kc)
  have k2 := mK_w (Or.inl ka)
  have hca2 : jnl (V a).natAbs ≤ 1500 := by
    have q := jnl_mono (show (V a).natAbs ≤ (V a).natAbs * jfa (V c).natAbs from Nat.le_mul_of_pos_right _ (jfa_pos _).1)
    omega
  obtain ⟨p, a1, a2, a3, a4⟩ := M.W ka
  obtain ⟨s, s0, g0, hs0, b1, b2⟩ := M.T kb
  have k3 := mK_w (Or.inl kb)
  have hca : c ≠ a := fun e => by subst e; omega
  have hcb : c ≠ b := fun e => by subst e; omega
  have nca := mK_ne (Or.inr kc) (Or.inl ka) hca
  have ncb := mK_ne (Or.inr kc) (Or.inl kb) hcb
  have nab := mK_ne (Or.inl ka) (Or.inl kb) hab
  refine ((jw_split (D := D) (nd := cL (c + 1)) (m := cL (a + 1)) (nq := cL (b + 1)) (u := V a) (v := V c) (sz0 := s0) (g0 := g0) (gv := q) (gy := p) (gq := s) (by omega) (by omega) (by omega) h4 hX hm h3 a3).lift [c, c + 1, a, a + 1, b, b + 1] (h := h) rfl (by simp; omega) (fun i p e hi he => ?_) (fun r hr => ?_)).to (fun r hr => ?_)
  · match i, hi, he with
    | 0, hi, he => cases hi; cases he; exact h1
    | 1, hi, he => cases hi; cases he; exact h2
    | 2, hi, he => cases hi; cases he; exact a1
    | 3, hi, he => cases hi; cases he; exact a2
    | 4, hi, he => cases hi; cases he; exact b1
    | 5, hi, he => cases hi; cases he; exact b2
    | i + 6, hi, he => simp at hi
  · obtain ⟨g', g'', _, _, e⟩ := hr
    rw [e]
    rfl
  · obtain ⟨r0, K', ⟨g', g'', q1, q2, q3⟩, hr⟩ := hr
    cases q3
    have hle : jnl ((V a).tmod (V c)).natAbs ≤ cL (a + 1) := Nat.le_trans (jnl_mono (by rw [Int.natAbs_tmod]; exact Nat.mod_le _ _)) a4
    have M1 := M.setW ka (v := (V a).tmod (V c)) (q := g') q1 hle
    have M2 := M1.setW kb (v := (V a).tdiv (V c)) (q := g'') q2 hm
    refine ⟨_, M2, hr.trans (congrArg (Prod.mk _) ?_)⟩
    refine congrArg (fun z : mj_H => (z.set b _).set (b + 1) _) (congrArg (fun z : mj_H => (z.set a _).set (a + 1) _) ?_)
    exact (congrArg (fun z : mj_H => z.set (c + 1) _) (set_same h1)).trans (set_same h2)
end MWD
