/-! Rules for the steps over the class's cells. -/
section JTR
variable {D pc : Nat} {M : mj_M} {loc : mj_L} {st : List Value} {h : mj_H} {Q : mj_R → Prop} {r1 r2 r3 r4 r5 : Nat}
variable {K L : Nat → Nat} {R : Nat → Nat → Nat} {g : mj_H} {n : Nat} {tm : Int}
theorem jfv_int {c a i : Nat} {v : Value} (hc : jci c = true) (q : jfv K R tm c a i v) : ∃ x : Int, jlo tm c ≤ x ∧ x ≤ jhi tm c ∧ v = .int (jn x) := by
  have hc := of_decide_eq_true hc
  unfold jfv at q
  rw [if_neg (by omega), if_neg hc.2.1, if_neg hc.2.2] at q
  exact q
theorem jfv_mk {c a i : Nat} {x : Int} (hc : jci c = true) (h1 : jlo tm c ≤ x) (h2 : x ≤ jhi tm c) : jfv K R tm c a i (.int (jn x)) := by
  have hc := of_decide_eq_true hc
  unfold jfv
  rw [if_neg (by omega), if_neg hc.2.1, if_neg hc.2.2]
  exact ⟨x, h1, h2, rfl⟩
theorem jT.getI {a f c i : Nat} (k : Nat) (cd : Nat) (o : jO K L R g n tm h) (hc : M.2.2.2.2.1 pc = some (.getfield f, c, i, r3, r4, r5)) (ka : K a = k) (hk : 7 < k) (hcl : jkc k = c) (hcd : (jfs k)[i]? = some cd) (hci : jci cd = true) (q : ∀ z, jlo tm cd ≤ z → z ≤ jhi tm cd → z = jfI h a i → mj_T D M (pc + 3) loc (.int (jn z) :: st) h Q) : mj_T D M pc loc (.ref a :: st) h Q := by
  obtain ⟨fs, h1, h2, h3⟩ := o.obj ka hk
  obtain ⟨v, h4, h5⟩ := h3 i cd hcd
  obtain ⟨x, h6, h7, h8⟩ := jfv_int hci h5
  subst h8
  have hx : jr x := ⟨by have := jlo_r o.2.1 cd; omega, by have := jhi_r o.2.1 cd; omega⟩
  refine mj_T.step hc rfl (pc' := pc + 3) (loc' := loc) (st' := .int (jn x) :: st) (h' := h) ?_ (q x h6 h7 ?_)
  · simp only [mj_step, h1, hcl, if_true, h4]
  · simp only [jfI, h1, h4, jn_toInt hx]
theorem jT.getL {a f c i : Nat} (k : Nat) (o : jO K L R g n tm h) (hc : M.2.2.2.2.1 pc = some (.getfield f, c, i, r3, r4, r5)) (ka : K a = k) (hk : 7 < k) (hcl : jkc k = c) (hcd : (jfs k)[i]? = some 1) (q : ∀ z, jR z → mj_T D M (pc + 3) loc (.long (jl z) :: st) h Q) : mj_T D M pc loc (.ref a :: st) h Q := by
  obtain ⟨fs, h1, h2, h3⟩ := o.obj ka hk
  obtain ⟨v, h4, h5⟩ := h3 i 1 hcd
  obtain ⟨x, h6, h8⟩ := h5
  subst h8
  exact mj_T.step hc rfl (by simp only [mj_step, h1, hcl, if_true, h4]) (q x h6)
theorem jT.getR {a f c i : Nat} (k cd kk : Nat) (ty : jTY K L R) (o : jO K L R g n tm h) (hc : M.2.2.2.2.1 pc = some (.getfield f, c, i, r3, r4, r5)) (ka : K a = k) (hk : 7 < k) (hcl : jkc k = c) (hcd : (jfs k)[i]? = some cd) (hkk : 100 + kk = cd) (q : K (R a i) = kk → mj_T D M (pc + 3) loc (.ref (R a i) :: st) h Q) : mj_T D M pc loc (.ref a :: st) h Q := by
  obtain ⟨fs, h1, h2, h3⟩ := o.obj ka hk
  obtain ⟨v, h4, h5⟩ := h3 i cd hcd
  unfold jfv at h5
  rw [if_pos (by omega)] at h5
  subst h5
  exact mj_T.step hc rfl (by simp only [mj_step, h1, hcl, if_true, h4]) (q (by rw [ty.1 a i cd (by rw [ka]; exact hcd) (by omega)]; omega))
theorem jT.getT {a f : Nat} (o : jO K L R g n tm h) (hc : M.2.2.2.2.1 pc = some (.getfield f, 4, 1, r3, r4, r5)) (ka : K a = 14) (q : ∀ b, (K b = 17 ∨ K b = 27) → mj_T D M (pc + 3) loc (.ref b :: st) h Q) : mj_T D M pc loc (.ref a :: st) h Q := by
  obtain ⟨fs, h1, h2, h3⟩ := o.obj ka (by decide)
  obtain ⟨v, h4, h5⟩ := h3 1 4 rfl
  obtain ⟨b, h6, h8⟩ := h5
  subst h8
  exact mj_T.step hc rfl (by
    simp only [mj_step, h1, h4]
    rfl) (q b h6)
/-- the length of a Text, whichever it is -/
theorem jT.getE {a f : Nat} (o : jO K L R g n tm h) (hc : M.2.2.2.2.1 pc = some (.getfield f, 7, 1, r3, r4, r5)) (ka : K a = 17 ∨ K a = 27) (q : ∀ z, 0 ≤ z → z ≤ 340 → z = jfI h a 1 → mj_T D M (pc + 3) loc (.int (jn z) :: st) h Q) : mj_T D M pc loc (.ref a :: st) h Q := by
  rcases ka with ka | ka
  · exact jT.getI 17 5 o hc ka (by decide) rfl rfl rfl (fun z h1 h2 h3 => q z h1 h2 h3)
  · refine jT.getI 27 7 o hc ka (by decide) rfl rfl rfl (fun z h1 h2 h3 => q z ?_ ?_ h3)
    · have := o.2.1; simp only [jlo] at h1; omega
    · have := o.2.1; simp only [jhi] at h2; omega
theorem jfI_set {a i : Nat} {c : Nat} {fs : List Value} (h1 : h[a]? = some (.inr (c, fs))) (hi : i < fs.length) (x : Int) (hx : jr x) : jfI (h.set a (.inr (c, fs.set i (.int (jn x))))) a i = x ∧ ∀ a' i', (a' ≠ a ∨ i' ≠ i) → jfI (h.set a (.inr (c, fs.set i (.int (jn x))))) a' i' = jfI h a' i' := by
  have hl := (List.getElem?_eq_some_iff.mp h1).1
  constructor
  · simp only [jfI]
    rw [List.getElem?_set_self hl]
    simp only
    rw [List.getElem?_set_self hi]
    simp only [jn_toInt hx]
  · intro a' i' q
    simp only [jfI]
    by_cases e : a = a'
    · subst e
      rw [List.getElem?_set_self hl, h1]
      simp only
      rw [List.getElem?_set_ne (by rcases q with q | q <;> omega)]
    · rw [List.getElem?_set_ne e]
theorem jCf_set {a k i cd : Nat} {fs : List Value} {v : Value} (hk : 7 < k) (h2 : fs.length = (jfs k).length) (h3 : ∀ i c, (jfs k)[i]? = some c → ∃ v, fs[i]? = some v ∧ jfv K R tm c a i v) (hcd : (jfs k)[i]? = some cd) (hv : jfv K R tm cd a i v) : jCf K L R tm k a (.inr (jkc k, fs.set i v)) := by
  have hi : i < fs.length := by rw [h2]; exact (List.getElem?_eq_some_iff.mp hcd).1
  unfold jCf
  rw [if_neg (by omega)]
  refine ⟨_, rfl, by rw [List.length_set]; exact h2, fun j c hj => ?_⟩
  by_cases e : i = j
  · subst e
    rw [hcd] at hj
    cases hj
    exact ⟨v, by rw [List.getElem?_set_self hi], hv⟩
  · rw [List.getElem?_set_ne e]
    exact h3 j c hj
theorem jT.putI {a f c i : Nat} (k cd : Nat) {x : Int} (o : jO K L R g n tm h) (hc : M.2.2.2.2.1 pc = some (.putfield f, c, i, r3, r4, r5)) (ka : K a = k) (hk : 7 < k) (hcl : jkc k = c) (hcd : (jfs k)[i]? = some cd) (hci : jci cd = true) (hr : r3 = 0 ∨ (r3 = 2 ∧ cd = 2)) (hlo : jlo tm cd ≤ x) (hhi : x ≤ jhi tm cd) (q : ∀ h', jO K L R g n tm h' → jfI h' a i = x → (∀ a' i', (a' ≠ a ∨ i' ≠ i) → jfI h' a' i' = jfI h a' i') → mj_T D M (pc + 3) loc st h' Q) : mj_T D M pc loc (.int (jn x) :: .ref a :: st) h Q := by
  obtain ⟨fs, h1, h2, h3⟩ := o.obj ka hk
  have hx : jr x := ⟨by have := jlo_r o.2.1 cd; omega, by have := jhi_r o.2.1 cd; omega⟩
  have hi : i < fs.length := by rw [h2]; exact (List.getElem?_eq_some_iff.mp hcd).1
  have hf : mj_fit r3 (.int (jn x)) = true := by
    rcases hr with hr | ⟨hr, hr2⟩
    · subst hr; rfl
    · subst hr hr2
      simp only [jlo, jhi] at hlo hhi
      have : x = 0 ∨ x = 1 := by omega
      rcases this with q | q
      · subst q; rfl
      · subst q; rfl
  subst hcl
  obtain ⟨e1, e2⟩ := jfI_set h1 hi x hx
  refine mj_T.step hc rfl (pc' := pc + 3) (loc' := loc) (st' := st) (h' := h.set a (.inr (jkc k, fs.set i (.int (jn x))))) ?_ (q _ ?_ e1 e2)
  · simp only [mj_step, h1, hi, hf, true_and, if_true]
  · refine o.set (by omega) ?_
    rw [ka]
    exact jCf_set hk h2 h3 hcd (jfv_mk hci hlo hhi)
theorem jfI_setv {a i : Nat} {c : Nat} {fs : List Value} (h1 : h[a]? = some (.inr (c, fs))) (hi : i < fs.length) (v : Value) : ∀ a' i', (a' ≠ a ∨ i' ≠ i) → jfI (h.set a (.inr (c, fs.set i v))) a' i' = jfI h a' i' := by
  have hl := (List.getElem?_eq_some_iff.mp h1).1
  intro a' i' q
  simp only [jfI]
  by_cases e : a = a'
  · subst e
    rw [List.getElem?_set_self hl, h1]
    simp only
    rw [List.getElem?_set_ne (by rcases q with q | q <;> omega)]
  · rw [List.getElem?_set_ne e]
theorem jT.putL {a f c i : Nat} (k : Nat) {x : Int} (hx : jR x) (o : jO K L R g n tm h) (hc : M.2.2.2.2.1 pc = some (.putfield f, c, i, 1, r4, r5)) (ka : K a = k) (hk : 7 < k) (hcl : jkc k = c) (hcd : (jfs k)[i]? = some 1) (q : ∀ h', jO K L R g n tm h' → (∀ a' i', (a' ≠ a ∨ i' ≠ i) → jfI h' a' i' = jfI h a' i') → mj_T D M (pc + 3) loc st h' Q) : mj_T D M pc loc (.long (jl x) :: .ref a :: st) h Q := by
  obtain ⟨fs, h1, h2, h3⟩ := o.obj ka hk
  have hi : i < fs.length := by rw [h2]; exact (List.getElem?_eq_some_iff.mp hcd).1
  subst hcl
  refine mj_T.step hc rfl (pc' := pc + 3) (loc' := loc) (st' := st) (h' := h.set a (.inr (jkc k, fs.set i (.long (jl x))))) ?_ (q _ ?_ (jfI_setv h1 hi _))
  · simp only [mj_step, h1, hi, true_and, mj_fit, if_true]
  · refine o.set (by omega) ?_
    rw [ka]
    exact jCf_set hk h2 h3 hcd ⟨x, hx, rfl⟩
theorem jT.putT {a f b : Nat} (o : jO K L R g n tm h) (hc : M.2.2.2.2.1 pc = some (.putfield f, 4, 1, 3, r4, r5)) (ka : K a = 14) (kb : K b = 17 ∨ K b = 27) (q : ∀ h', jO K L R g n tm h' → (∀ a' i', (a' ≠ a ∨ i' ≠ 1) → jfI h' a' i' = jfI h a' i') → mj_T D M (pc + 3) loc st h' Q) : mj_T D M pc loc (.ref b :: .ref a :: st) h Q := by
  obtain ⟨fs, h1, h2, h3⟩ := o.obj ka (by decide)
  have hi : 1 < fs.length := by rw [h2]; decide
  refine mj_T.step hc rfl (pc' := pc + 3) (loc' := loc) (st' := st) (h' := h.set a (.inr (jkc 14, fs.set 1 (.ref b)))) ?_ (q _ ?_ (jfI_setv h1 hi _))
  · simp only [mj_step, h1, hi, true_and, mj_fit, if_true]
    rfl
  · refine o.set (by omega) ?_
    rw [ka]
    exact jCf_set (by decide) h2 h3 rfl ⟨b, kb, rfl⟩
/-- the buffer's length -/
theorem jT.putB {a f : Nat} {x : Int} (u : ∀ b, K b = 27 → b = a) (o : jO K L R g n tm h) (hc : M.2.2.2.2.1 pc = some (.putfield f, 7, 1, 0, r4, r5)) (ka : K a = 27) (hx : 0 ≤ x ∧ x ≤ 200) (q : ∀ h', jO K L R g n x h' → jfI h' a 1 = x → (∀ a' i', (a' ≠ a ∨ i' ≠ 1) → jfI h' a' i' = jfI h a' i') → mj_T D M (pc + 3) loc st h' Q) : mj_T D M pc loc (.int (jn x) :: .ref a :: st) h Q := by
  obtain ⟨fs, h1, h2, h3⟩ := o.obj ka (by decide)
  have hi : 1 < fs.length := by rw [h2]; decide
  have hl := (List.getElem?_eq_some_iff.mp h1).1
  obtain ⟨e1, e2⟩ := jfI_set h1 hi x ⟨by omega, by omega⟩
  have hcf : ∀ {b c i : Nat} {v : Value}, c ≠ 7 → jfv K R tm c b i v → jfv K R x c b i v := by
    intro b c i v hc7 hv
    unfold jfv at hv ⊢
    split
    · rename_i q
      rw [if_pos q] at hv
      exact hv
    · rename_i q
      rw [if_neg q] at hv
      split
      · rename_i q
        rw [if_pos q] at hv
        exact hv
      · rename_i q
        rw [if_neg q] at hv
        split
        · rename_i q
          rw [if_pos q] at hv
          exact hv
        · rename_i q
          rw [if_neg q] at hv
          obtain ⟨y, y1, y2, y3⟩ := hv
          refine ⟨y, ?_, ?_, y3⟩
          · unfold jlo at y1 ⊢
            split <;> first | (exact absurd rfl hc7) | (simp only at y1; exact y1) | omega
          · unfold jhi at y2 ⊢
            split <;> first | (exact absurd rfl hc7) | (simp only at y2; exact y2) | omega
  refine mj_T.step hc rfl (pc' := pc + 3) (loc' := loc) (st' := st) (h' := h.set a (.inr (jkc 27, fs.set 1 (.int (jn x))))) ?_ (q _ ?_ e1 e2)
  · simp only [mj_step, h1, hi, true_and, mj_fit, if_true]
    rfl
  · refine ⟨by rw [List.length_set]; exact o.1, hx, fun b hb => ?_, fun b hb => ?_⟩
    · rw [List.getElem?_set_ne (by intro e; rw [e] at ka; omega)]
      exact o.2.2.1 b hb
    · by_cases e : a = b
      · subst e
        refine ⟨_, by rw [List.getElem?_set_self hl], ?_⟩
        rw [ka]
        unfold jCf
        rw [if_neg (by decide)]
        refine ⟨_, rfl, by rw [List.length_set]; exact h2, fun j c hj => ?_⟩
        by_cases e : 1 = j
        · subst e
          cases hj
          exact ⟨_, by rw [List.getElem?_set_self hi], ⟨x, Int.le_refl _, Int.le_refl _, rfl⟩⟩
        · rw [List.getElem?_set_ne e]
          obtain ⟨v, v1, v2⟩ := h3 j c hj
          refine ⟨v, v1, hcf ?_ v2⟩
          intro q7
          subst q7
          match j, hj, e with
          | 0, hj, _ => exact absurd hj (by decide)
          | 1, _, e => exact e rfl
          | j + 2, hj, _ => exact absurd hj (by simp [jfs])
      · rw [List.getElem?_set_ne e]
        obtain ⟨e0, k1, k2⟩ := o.2.2.2 b hb
        refine ⟨e0, k1, ?_⟩
        have hb27 : K b ≠ 27 := fun q => e (u b q).symm
        unfold jCf at k2 ⊢
        split
        · rename_i q
          rw [if_pos q] at k2
          exact k2
        · rename_i q
          rw [if_neg q] at k2
          obtain ⟨gs, g1, g2, g3⟩ := k2
          refine ⟨gs, g1, g2, fun j c hj => ?_⟩
          obtain ⟨v, v1, v2⟩ := g3 j c hj
          refine ⟨v, v1, hcf ?_ v2⟩
          intro q7
          subst q7
          have hm := List.mem_of_getElem? hj
          revert hm
          generalize K b = kb at hb27
          unfold jfs
          split <;> first | (exact absurd rfl hb27) | (intro hm; exact absurd hm (by decide))
end JTR
