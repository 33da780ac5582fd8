/-! Rules for arrays, whole numbers of any size, calls. -/
section JTA
variable {D pc : Nat} {M : mj_M} {loc : mj_L} {st : List Value} {h : mj_H} {Q : mj_R → Prop} {r1 r2 r3 r4 r5 : Nat}
variable {K L : Nat → Nat} {R : Nat → Nat → Nat} {g : mj_H} {n : Nat} {tm : Int}
theorem jT.alen {a : Nat} (k : Nat) (ty : jTY K L R) (o : jO K L R g n tm h) (hc : M.2.2.2.2.1 pc = some (.arraylength, r1, r2, r3, r4, r5)) (ka : K a = k) (hk : 1 ≤ k) (hk2 : k ≤ 7) (q : ∀ z, z = (L a : Int) → jal k ≤ z → z ≤ jah k → mj_T D M (pc + 1) loc (.int (jn z) :: st) h Q) : mj_T D M pc loc (.ref a :: st) h Q := by
  obtain ⟨f, h1, _⟩ := o.arr ka hk hk2
  have h2 := ty.2.1 a (by omega) (by omega)
  rw [ka] at h2
  exact mj_T.alen hc h1 (q _ rfl h2.1 h2.2)
theorem jah_r (k : Nat) : jah k ≤ 1000 := by
  unfold jah
  split <;> omega
theorem jT.iald {a : Nat} {i : Int} (o : jO K L R g n tm h) (hc : M.2.2.2.2.1 pc = some (.iaload, r1, r2, r3, r4, r5)) (ka : K a = 1) (hi : -2147483648 ≤ i ∧ i ≤ 2147483647) (h0 : 0 ≤ i ∧ i < L a) (q : ∀ z, -2147483648 ≤ z ∧ z ≤ 2147483647 → z = jaI h a i.toNat → mj_T D M (pc + 1) loc (.int (jn z) :: st) h Q) : mj_T D M pc loc (.int (jn i) :: .ref a :: st) h Q := by
  obtain ⟨f, h1, h2⟩ := o.arr ka (by decide) (by decide)
  have h3 := h2 i.toNat
  rw [if_pos (Or.inl rfl)] at h3
  obtain ⟨x, hx, h4⟩ := h3
  have hir : jr i := ⟨hi.1, by omega⟩
  have h5 : mj_in (jn i) (L a) = true := by rw [jn_in hir]; exact decide_eq_true h0
  refine mj_T.step hc rfl (pc' := pc + 1) (loc' := loc) (st' := .int (jn x) :: st) (h' := h) ?_ (q x ⟨hx.1, by have := hx.2; omega⟩ ?_)
  · simp only [mj_step, h1, h5, jn_nat h0.1 hir, jak, true_or, true_and, if_true, h4]
  · simp only [jaI, h1, h4, jn_toInt hx]
theorem jT.bald {a : Nat} {i : Int} (o : jO K L R g n tm h) (hc : M.2.2.2.2.1 pc = some (.baload, r1, r2, r3, r4, r5)) (ka : K a = 3) (hi : -2147483648 ≤ i ∧ i ≤ 2147483647) (h0 : 0 ≤ i ∧ i < L a) (q : ∀ z, -2147483648 ≤ z ∧ z ≤ 2147483647 → z = jaI h a i.toNat → mj_T D M (pc + 1) loc (.int (jn z) :: st) h Q) : mj_T D M pc loc (.int (jn i) :: .ref a :: st) h Q := by
  obtain ⟨f, h1, h2⟩ := o.arr ka (by decide) (by decide)
  have h3 := h2 i.toNat
  rw [if_pos (Or.inr rfl)] at h3
  obtain ⟨x, hx, h4⟩ := h3
  have hir : jr i := ⟨hi.1, by omega⟩
  have h5 : mj_in (jn i) (L a) = true := by rw [jn_in hir]; exact decide_eq_true h0
  refine mj_T.step hc rfl (pc' := pc + 1) (loc' := loc) (st' := .int (jn x) :: st) (h' := h) ?_ (q x ⟨hx.1, by have := hx.2; omega⟩ ?_)
  · simp only [mj_step, h1, h5, jn_nat h0.1 hir, jak, true_and, if_true, h4]
  · simp only [jaI, h1, h4, jn_toInt hx]
theorem jT.lald {a : Nat} {i : Int} (o : jO K L R g n tm h) (hc : M.2.2.2.2.1 pc = some (.laload, r1, r2, r3, r4, r5)) (ka : K a = 2) (hi : -2147483648 ≤ i ∧ i ≤ 2147483647) (h0 : 0 ≤ i ∧ i < L a) (q : ∀ z, jR z → mj_T D M (pc + 1) loc (.long (jl z) :: st) h Q) : mj_T D M pc loc (.int (jn i) :: .ref a :: st) h Q := by
  obtain ⟨f, h1, h2⟩ := o.arr ka (by decide) (by decide)
  have h3 := h2 i.toNat
  rw [if_neg (by decide), if_pos rfl] at h3
  obtain ⟨x, hx, h4⟩ := h3
  have hir : jr i := ⟨hi.1, by omega⟩
  have h5 : mj_in (jn i) (L a) = true := by rw [jn_in hir]; exact decide_eq_true h0
  exact mj_T.step hc rfl (by simp only [mj_step, h1, h5, jn_nat h0.1 hir, jak, true_and, if_true, h4]) (q x hx)
theorem jT.aald {a : Nat} {i : Int} (k kk : Nat) (ty : jTY K L R) (o : jO K L R g n tm h) (hc : M.2.2.2.2.1 pc = some (.aaload, r1, r2, r3, r4, r5)) (ka : K a = k) (hk : 4 ≤ k) (hk2 : k ≤ 7) (hkk : jae k = kk) (hi : -2147483648 ≤ i ∧ i ≤ 2147483647) (h0 : 0 ≤ i ∧ i < L a) (q : K (R a i.toNat) = kk → mj_T D M (pc + 1) loc (.ref (R a i.toNat) :: st) h Q) : mj_T D M pc loc (.int (jn i) :: .ref a :: st) h Q := by
  obtain ⟨f, h1, h2⟩ := o.arr ka (by omega) hk2
  have h3 := h2 i.toNat
  rw [if_neg (by omega), if_neg (by omega)] at h3
  have h4 := h3 (by omega)
  have hir : jr i := ⟨hi.1, by omega⟩
  have h5 : mj_in (jn i) (L a) = true := by rw [jn_in hir]; exact decide_eq_true h0
  have h6 : mj_isref (jak k) = true := by
    have : k = 4 ∨ k = 5 ∨ k = 6 ∨ k = 7 := by omega
    rcases this with q | q | q | q <;> (subst q; rfl)
  refine mj_T.step hc rfl (pc' := pc + 1) (loc' := loc) (st' := .ref (R a i.toNat) :: st) (h' := h) ?_ (q ?_)
  · simp only [mj_step, h1, h5, h6, jn_nat h0.1 hir, true_and, if_true, h4]
  · rw [ty.2.2.1 a i.toNat (by omega) (by omega) (by omega), ka, hkk]
theorem jfI_arr {a t m : Nat} {f f' : Nat → Value} (h1 : h[a]? = some (.inl (t, m, f))) : ∀ a' i', jfI (h.set a (.inl (t, m, f'))) a' i' = jfI h a' i' := by
  have hl := (List.getElem?_eq_some_iff.mp h1).1
  intro a' i'
  simp only [jfI]
  by_cases e : a = a'
  · subst e
    rw [List.getElem?_set_self hl, h1]
  · rw [List.getElem?_set_ne e]
theorem jT.iast {a : Nat} {i x : Int} (o : jO K L R g n tm h) (hc : M.2.2.2.2.1 pc = some (.iastore, r1, r2, r3, r4, r5)) (ka : K a = 1) (hi : -2147483648 ≤ i ∧ i ≤ 2147483647) (h0 : 0 ≤ i ∧ i < L a) (hx : -2147483648 ≤ x ∧ x ≤ 2147483647) (q : ∀ h', jO K L R g n tm h' → (∀ a' i', jfI h' a' i' = jfI h a' i') → mj_T D M (pc + 1) loc st h' Q) : mj_T D M pc loc (.int (jn x) :: .int (jn i) :: .ref a :: st) h Q := by
  obtain ⟨f, h1, h2⟩ := o.arr ka (by decide) (by decide)
  have hir : jr i := ⟨hi.1, by omega⟩
  have h5 : mj_in (jn i) (L a) = true := by rw [jn_in hir]; exact decide_eq_true h0
  refine mj_T.step hc rfl (pc' := pc + 1) (loc' := loc) (st' := st) (h' := h.set a (.inl (jak 1, L a, updV f i.toNat (.int (jn x))))) ?_ (q _ ?_ (jfI_arr h1))
  · simp only [mj_step, h1, h5, jn_nat h0.1 hir, jak, true_and, if_true]
  · refine o.set (by omega) ?_
    rw [ka]
    unfold jCf
    rw [if_pos (by decide)]
    refine ⟨_, rfl, fun j => ?_⟩
    rw [if_pos (Or.inl rfl)]
    have h3 := h2 j
    rw [if_pos (Or.inl rfl)] at h3
    unfold updV
    split
    · exact ⟨x, ⟨hx.1, by omega⟩, rfl⟩
    · exact h3
theorem jT.bast {a : Nat} {i x : Int} (o : jO K L R g n tm h) (hc : M.2.2.2.2.1 pc = some (.bastore, r1, r2, r3, r4, r5)) (ka : K a = 3) (hi : -2147483648 ≤ i ∧ i ≤ 2147483647) (h0 : 0 ≤ i ∧ i < L a) (q : ∀ h', jO K L R g n tm h' → (∀ a' i', jfI h' a' i' = jfI h a' i') → mj_T D M (pc + 1) loc st h' Q) : mj_T D M pc loc (.int (jn x) :: .int (jn i) :: .ref a :: st) h Q := by
  obtain ⟨f, h1, h2⟩ := o.arr ka (by decide) (by decide)
  have hir : jr i := ⟨hi.1, by omega⟩
  have h5 : mj_in (jn i) (L a) = true := by rw [jn_in hir]; exact decide_eq_true h0
  refine mj_T.step hc rfl (pc' := pc + 1) (loc' := loc) (st' := st) (h' := h.set a (.inl (jak 3, L a, updV f i.toNat (.int (jn x).toInt8.toInt32)))) ?_ (q _ ?_ (jfI_arr h1))
  · simp only [mj_step, h1, h5, jn_nat h0.1 hir, jak, true_and, if_true]
  · refine o.set (by omega) ?_
    rw [ka]
    unfold jCf
    rw [if_pos (by decide)]
    refine ⟨_, rfl, fun j => ?_⟩
    rw [if_pos (Or.inr rfl)]
    have h3 := h2 j
    rw [if_pos (Or.inr rfl)] at h3
    unfold updV
    split
    · exact ⟨_, jr_of _, by rw [jn_of]⟩
    · exact h3
theorem jT.last {a : Nat} {i x : Int} (o : jO K L R g n tm h) (hc : M.2.2.2.2.1 pc = some (.lastore, r1, r2, r3, r4, r5)) (ka : K a = 2) (hi : -2147483648 ≤ i ∧ i ≤ 2147483647) (h0 : 0 ≤ i ∧ i < L a) (hx : jR x) (q : ∀ h', jO K L R g n tm h' → (∀ a' i', jfI h' a' i' = jfI h a' i') → mj_T D M (pc + 1) loc st h' Q) : mj_T D M pc loc (.long (jl x) :: .int (jn i) :: .ref a :: st) h Q := by
  obtain ⟨f, h1, h2⟩ := o.arr ka (by decide) (by decide)
  have hir : jr i := ⟨hi.1, by omega⟩
  have h5 : mj_in (jn i) (L a) = true := by rw [jn_in hir]; exact decide_eq_true h0
  refine mj_T.step hc rfl (pc' := pc + 1) (loc' := loc) (st' := st) (h' := h.set a (.inl (jak 2, L a, updV f i.toNat (.long (jl x))))) ?_ (q _ ?_ (jfI_arr h1))
  · simp only [mj_step, h1, h5, jn_nat h0.1 hir, jak, true_and, if_true]
  · refine o.set (by omega) ?_
    rw [ka]
    unfold jCf
    rw [if_pos (by decide)]
    refine ⟨_, rfl, fun j => ?_⟩
    rw [if_neg (by decide), if_pos rfl]
    have h3 := h2 j
    rw [if_neg (by decide), if_pos rfl] at h3
    unfold updV
    split
    · exact ⟨x, hx, rfl⟩
    · exact h3
/-- whatever int, whatever long -/
theorem jT.anyI {w : Int32} (q : ∀ z, -2147483648 ≤ z ∧ z ≤ 2147483647 → mj_T D M pc loc (.int (jn z) :: st) h Q) : mj_T D M pc loc (.int w :: st) h Q := by
  have := q w.toInt ⟨(jr_of w).1, by have := (jr_of w).2; omega⟩
  rwa [jn_of] at this
theorem jT.anyL {w : Int64} (q : ∀ z, jR z → mj_T D M pc loc (.long (jl z) :: st) h Q) : mj_T D M pc loc (.long w :: st) h Q := by
  have := q w.toInt (jR_of w)
  rwa [jl_of] at this
theorem jT.wrap (a : Int) (q : ∀ z, -2147483648 ≤ z ∧ z ≤ 2147483647 → (-2147483648 ≤ a ∧ a ≤ 2147483647 → z = a) → mj_T D M pc loc (.int (jn z) :: st) h Q) : mj_T D M pc loc (.int (jn a) :: st) h Q := by
  have := q (jn a).toInt ⟨(jr_of _).1, by have := (jr_of (jn a)).2; omega⟩ (fun r => jn_toInt ⟨r.1, by omega⟩)
  rwa [jn_of] at this
theorem jT.wrapL (a : Int) (q : ∀ z, jR z → (jR a → z = a) → mj_T D M pc loc (.long (jl z) :: st) h Q) : mj_T D M pc loc (.long (jl a) :: st) h Q := by
  have := q (jl a).toInt (jR_of _) (fun r => jl_toInt r)
  rwa [jl_of] at this
theorem jT.iadd {a b : Int} (hc : M.2.2.2.2.1 pc = some (.iadd, r1, r2, r3, r4, r5)) (q : ∀ z, -2147483648 ≤ z ∧ z ≤ 2147483647 → (-2147483648 ≤ a + b ∧ a + b ≤ 2147483647 → z = a + b) → mj_T D M (pc + 1) loc (.int (jn z) :: st) h Q) : mj_T D M pc loc (.int (jn b) :: .int (jn a) :: st) h Q := mj_T.iadd hc (jT.wrap _ q)
theorem jT.isub {a b : Int} (hc : M.2.2.2.2.1 pc = some (.isub, r1, r2, r3, r4, r5)) (q : ∀ z, -2147483648 ≤ z ∧ z ≤ 2147483647 → (-2147483648 ≤ a - b ∧ a - b ≤ 2147483647 → z = a - b) → mj_T D M (pc + 1) loc (.int (jn z) :: st) h Q) : mj_T D M pc loc (.int (jn b) :: .int (jn a) :: st) h Q := mj_T.isub hc (jT.wrap _ q)
theorem jT.imul {a b : Int} (hc : M.2.2.2.2.1 pc = some (.imul, r1, r2, r3, r4, r5)) (q : ∀ z, -2147483648 ≤ z ∧ z ≤ 2147483647 → (-2147483648 ≤ a * b ∧ a * b ≤ 2147483647 → z = a * b) → mj_T D M (pc + 1) loc (.int (jn z) :: st) h Q) : mj_T D M pc loc (.int (jn b) :: .int (jn a) :: st) h Q := mj_T.imul hc (jT.wrap _ q)
theorem jT.ineg {a : Int} (hc : M.2.2.2.2.1 pc = some (.ineg, r1, r2, r3, r4, r5)) (q : ∀ z, -2147483648 ≤ z ∧ z ≤ 2147483647 → (-2147483648 ≤ -a ∧ -a ≤ 2147483647 → z = -a) → mj_T D M (pc + 1) loc (.int (jn z) :: st) h Q) : mj_T D M pc loc (.int (jn a) :: st) h Q := mj_T.ineg hc (jT.wrap _ q)
theorem jn_ne0' {b : Int} (hb : -2147483648 ≤ b ∧ b ≤ 2147483647) (h0 : b ≠ 0) : ¬ (jn b = 0) := by rw [show (0 : Int32) = jn 0 from rfl, jn_eq ⟨hb.1, by omega⟩ ⟨by decide, by decide⟩]; exact h0
theorem jl_ne0' {b : Int} (hb : jR b) (h0 : b ≠ 0) : ¬ (jl b = 0) := by rw [show (0 : Int64) = jl 0 from rfl, jl_eq hb ⟨by decide, by decide⟩]; exact h0
theorem jT.idiv {a b : Int} (hc : M.2.2.2.2.1 pc = some (.idiv, r1, r2, r3, r4, r5)) (hb : -2147483648 ≤ b ∧ b ≤ 2147483647) (h0 : b ≠ 0) (q : ∀ z, -2147483648 ≤ z ∧ z ≤ 2147483647 → mj_T D M (pc + 1) loc (.int (jn z) :: st) h Q) : mj_T D M pc loc (.int (jn b) :: .int (jn a) :: st) h Q := mj_T.step (pc' := pc + 1) (loc' := loc) (st' := .int (jn a / jn b) :: st) (h' := h) hc rfl (by simp only [mj_step, if_neg (jn_ne0' hb h0)]) (jT.anyI q)
theorem jT.irem {a b : Int} (hc : M.2.2.2.2.1 pc = some (.irem, r1, r2, r3, r4, r5)) (hb : -2147483648 ≤ b ∧ b ≤ 2147483647) (h0 : b ≠ 0) (q : ∀ z, -2147483648 ≤ z ∧ z ≤ 2147483647 → mj_T D M (pc + 1) loc (.int (jn z) :: st) h Q) : mj_T D M pc loc (.int (jn b) :: .int (jn a) :: st) h Q := mj_T.step (pc' := pc + 1) (loc' := loc) (st' := .int (jn a - jn a / jn b * jn b) :: st) (h' := h) hc rfl (by simp only [mj_step, if_neg (jn_ne0' hb h0)]) (jT.anyI q)
theorem jT.ldiv {a b : Int} (hc : M.2.2.2.2.1 pc = some (.ldiv, r1, r2, r3, r4, r5)) (hb : jR b) (h0 : b ≠ 0) (q : ∀ z, jR z → mj_T D M (pc + 1) loc (.long (jl z) :: st) h Q) : mj_T D M pc loc (.long (jl b) :: .long (jl a) :: st) h Q := mj_T.step (pc' := pc + 1) (loc' := loc) (st' := .long (jl a / jl b) :: st) (h' := h) hc rfl (by simp only [mj_step, if_neg (jl_ne0' hb h0)]) (jT.anyL q)
theorem jT.lrem {a b : Int} (hc : M.2.2.2.2.1 pc = some (.lrem, r1, r2, r3, r4, r5)) (hb : jR b) (h0 : b ≠ 0) (q : ∀ z, jR z → mj_T D M (pc + 1) loc (.long (jl z) :: st) h Q) : mj_T D M pc loc (.long (jl b) :: .long (jl a) :: st) h Q := mj_T.step (pc' := pc + 1) (loc' := loc) (st' := .long (jl a - jl a / jl b * jl b) :: st) (h' := h) hc rfl (by simp only [mj_step, if_neg (jl_ne0' hb h0)]) (jT.anyL q)
theorem jT.ladd {a b : Int} (hc : M.2.2.2.2.1 pc = some (.ladd, r1, r2, r3, r4, r5)) (q : ∀ z, jR z → (jR (a + b) → z = a + b) → mj_T D M (pc + 1) loc (.long (jl z) :: st) h Q) : mj_T D M pc loc (.long (jl b) :: .long (jl a) :: st) h Q := mj_T.ladd hc (jT.wrapL _ q)
theorem jT.lsub {a b : Int} (hc : M.2.2.2.2.1 pc = some (.lsub, r1, r2, r3, r4, r5)) (q : ∀ z, jR z → (jR (a - b) → z = a - b) → mj_T D M (pc + 1) loc (.long (jl z) :: st) h Q) : mj_T D M pc loc (.long (jl b) :: .long (jl a) :: st) h Q := mj_T.lsub hc (jT.wrapL _ q)
theorem jT.lmul {a b : Int} (hc : M.2.2.2.2.1 pc = some (.lmul, r1, r2, r3, r4, r5)) (q : ∀ z, jR z → (jR (a * b) → z = a * b) → mj_T D M (pc + 1) loc (.long (jl z) :: st) h Q) : mj_T D M pc loc (.long (jl b) :: .long (jl a) :: st) h Q := mj_T.lmul hc (jT.wrapL _ q)
theorem jT.lneg {a : Int} (hc : M.2.2.2.2.1 pc = some (.lneg, r1, r2, r3, r4, r5)) (q : ∀ z, jR z → (jR (-a) → z = -a) → mj_T D M (pc + 1) loc (.long (jl z) :: st) h Q) : mj_T D M pc loc (.long (jl a) :: st) h Q := mj_T.lneg hc (jT.wrapL _ q)
theorem jT.l2i {a : Int} (hc : M.2.2.2.2.1 pc = some (.l2i, r1, r2, r3, r4, r5)) (q : ∀ z, -2147483648 ≤ z ∧ z ≤ 2147483647 → (-2147483648 ≤ a ∧ a ≤ 2147483647 → z = a) → mj_T D M (pc + 1) loc (.int (jn z) :: st) h Q) : mj_T D M pc loc (.long (jl a) :: st) h Q := mj_T.l2i hc (jT.wrap _ q)
theorem jT.i2l {a : Int} (hc : M.2.2.2.2.1 pc = some (.i2l, r1, r2, r3, r4, r5)) (ha : -2147483648 ≤ a ∧ a ≤ 2147483647) (q : mj_T D M (pc + 1) loc (.long (jl a) :: st) h Q) : mj_T D M pc loc (.int (jn a) :: st) h Q := mj_T.i2l hc ⟨ha.1, by omega⟩ q
theorem jT.iinc {i : Nat} {x a : Int} (hc : M.2.2.2.2.1 pc = some (.iinc i x, r1, r2, r3, r4, r5)) (hl : loc[i]? = some (some (.int (jn a)))) (q : ∀ z, -2147483648 ≤ z ∧ z ≤ 2147483647 → (-2147483648 ≤ a + x ∧ a + x ≤ 2147483647 → z = a + x) → mj_T D M (pc + 3) (mj_st1 loc i (.int (jn z))) st h Q) : mj_T D M pc loc st h Q := by
  have := q (jn (a + x)).toInt ⟨(jr_of _).1, by have := (jr_of (jn (a + x))).2; omega⟩ (fun r => jn_toInt ⟨r.1, by omega⟩)
  rw [jn_of] at this
  exact mj_T.iinc hc hl this
theorem jT.imax {a b : Int} {ins : Instr} (hc : M.2.2.2.2.1 pc = some (ins, r1, r2, 2, r4, r5)) (hk : mj_kind ins 2 = 4) (hcat : mj_cat st ≤ 20) (ha : -2147483648 ≤ a ∧ a ≤ 2147483647) (hb : -2147483648 ≤ b ∧ b ≤ 2147483647) (q : ∀ z, z = max a b → mj_T D M (pc + 3) loc (.int (jn z) :: st) h Q) : mj_T D M pc loc (.int (jn b) :: .int (jn a) :: st) h Q := mj_T.imax hc hk hcat ⟨ha.1, by omega⟩ ⟨hb.1, by omega⟩ (q _ rfl)
theorem jT.imin {a b : Int} {ins : Instr} (hc : M.2.2.2.2.1 pc = some (ins, r1, r2, 3, r4, r5)) (hk : mj_kind ins 3 = 4) (hcat : mj_cat st ≤ 20) (ha : -2147483648 ≤ a ∧ a ≤ 2147483647) (hb : -2147483648 ≤ b ∧ b ≤ 2147483647) (q : ∀ z, z = min a b → mj_T D M (pc + 3) loc (.int (jn z) :: st) h Q) : mj_T D M pc loc (.int (jn b) :: .int (jn a) :: st) h Q := mj_T.imin hc hk hcat ⟨ha.1, by omega⟩ ⟨hb.1, by omega⟩ (q _ rfl)
theorem jT.icmp {c : ClassFile.Cond} {o : Int} {a b : Int} (hc : M.2.2.2.2.1 pc = some (.if_icmp c o, r1, r2, r3, r4, r5)) (ha : -2147483648 ≤ a ∧ a ≤ 2147483647) (hb : -2147483648 ≤ b ∧ b ≤ 2147483647) (k1 : jc c a b = true → mj_T D M r1 loc st h Q) (k2 : jc c a b = false → mj_T D M (pc + 3) loc st h Q) : mj_T D M pc loc (.int (jn b) :: .int (jn a) :: st) h Q := mj_T.icmp hc ⟨ha.1, by omega⟩ ⟨hb.1, by omega⟩ k1 k2
theorem jT.if0 {c : ClassFile.Cond} {o : Int} {a : Int} (hc : M.2.2.2.2.1 pc = some (.ifCond c o, r1, r2, r3, r4, r5)) (ha : -2147483648 ≤ a ∧ a ≤ 2147483647) (k1 : jc c a 0 = true → mj_T D M r1 loc st h Q) (k2 : jc c a 0 = false → mj_T D M (pc + 3) loc st h Q) : mj_T D M pc loc (.int (jn a) :: st) h Q := mj_T.if0 hc ⟨ha.1, by omega⟩ k1 k2
theorem jT.anyF (q : ∀ z, -2147483648 ≤ z ∧ z ≤ 2147483647 → mj_T D M pc loc (.int (jn z) :: st) h Q) (w : Int32) : mj_T D M pc loc (.int w :: st) h Q := jT.anyI q
/-- how a method of the class ends: with a value as V says or by one of those exceptions -/
def jQ (K L : Nat → Nat) (R : Nat → Nat → Nat) (g : mj_H) (n : Nat) (tm : Int) (exc : List Nat) (V : Option Value → Prop) (r : mj_R) : Prop := match r.1 with
  | .inl v => V v ∧ jO K L R g n tm r.2
  | .inr i => i ∈ exc ∧ jO K L R g (n + 1) tm r.2
/-- the same, and a normal end leaves the heap -/
def jQp (K L : Nat → Nat) (R : Nat → Nat → Nat) (g : mj_H) (n : Nat) (tm : Int) (h : mj_H) (exc : List Nat) (V : Option Value → Prop) (r : mj_R) : Prop := match r.1 with
  | .inl v => V v ∧ r.2 = h
  | .inr i => i ∈ exc ∧ jO K L R g (n + 1) tm r.2
def jV0 (v : Option Value) : Prop := v = none
def jVi (lo hi : Int) (v : Option Value) : Prop := ∃ z : Int, lo ≤ z ∧ z ≤ hi ∧ v = some (.int (jn z))
def jVl (v : Option Value) : Prop := ∃ z : Int, jR z ∧ v = some (.long (jl z))
def jVr (K : Nat → Nat) (k : Nat) (v : Option Value) : Prop := ∃ a, K a = k ∧ v = some (.ref a)
theorem jsub {A B : List Nat} (hs : (A.all fun i => B.contains i) = true) {i : Nat} (hi : i ∈ A) : i ∈ B := by
  have := List.all_eq_true.mp hs i hi
  exact List.contains_iff_mem.mp this
theorem jT.call {V : Option Value → Prop} {A exc : List Nat} {ins : Instr} {as : List Value} {V' : Option Value → Prop} (hc : M.2.2.2.2.1 pc = some (ins, r1, r2, r3, r4, r5)) (hk : mj_kind ins r3 = 3) (hl : r2 ≤ st.length) (hcat : mj_cat (st.drop r2) ≤ 8) (hr : mj_recv ins r2 r5 st h = true) (has : (st.take r2).reverse = as) (hcall : mj_Ok D r1 as h (jQ K L R g n tm A V)) (hM : M.2.2.2.2.2.1 = []) (hs : (A.all fun i => exc.contains i) = true) (q : ∀ v h', V v → jO K L R g n tm h' → mj_T D M (pc + 3) loc (v.toList ++ st.drop r2) h' (jQ K L R g n tm exc V')) : mj_T D M pc loc st h (jQ K L R g n tm exc V') :=
  mj_T.call hc hk hl hcat hr has hcall (fun v h' hq => q v h' hq.1 hq.2) (fun i h' hq => Or.inl ⟨hM, jsub hs hq.1, hq.2⟩)
/-- a call that leaves the heap -/
theorem jT.callp {V : Option Value → Prop} {A exc : List Nat} {ins : Instr} {as : List Value} {V' : Option Value → Prop} (hc : M.2.2.2.2.1 pc = some (ins, r1, r2, r3, r4, r5)) (hk : mj_kind ins r3 = 3) (hl : r2 ≤ st.length) (hcat : mj_cat (st.drop r2) ≤ 8) (hr : mj_recv ins r2 r5 st h = true) (has : (st.take r2).reverse = as) (hcall : mj_Ok D r1 as h (jQp K L R g n tm h A V)) (hM : M.2.2.2.2.2.1 = []) (hs : (A.all fun i => exc.contains i) = true) (q : ∀ v, V v → mj_T D M (pc + 3) loc (v.toList ++ st.drop r2) h (jQ K L R g n tm exc V')) : mj_T D M pc loc st h (jQ K L R g n tm exc V') :=
  mj_T.call hc hk hl hcat hr has hcall (fun v h' hq => by
    obtain ⟨h1, h2⟩ := hq
    have h2 : h' = h := h2
    subst h2
    exact q v h1) (fun i h' hq => Or.inl ⟨hM, jsub hs hq.1, hq.2⟩)
theorem jT.callpp {V : Option Value → Prop} {A exc : List Nat} {ins : Instr} {as : List Value} {V' : Option Value → Prop} {h0 : mj_H} (hc : M.2.2.2.2.1 pc = some (ins, r1, r2, r3, r4, r5)) (hk : mj_kind ins r3 = 3) (hl : r2 ≤ st.length) (hcat : mj_cat (st.drop r2) ≤ 8) (hr : mj_recv ins r2 r5 st h = true) (has : (st.take r2).reverse = as) (hcall : mj_Ok D r1 as h (jQp K L R g n tm h A V)) (hM : M.2.2.2.2.2.1 = []) (hs : (A.all fun i => exc.contains i) = true) (q : ∀ v, V v → mj_T D M (pc + 3) loc (v.toList ++ st.drop r2) h (jQp K L R g n tm h0 exc V')) : mj_T D M pc loc st h (jQp K L R g n tm h0 exc V') :=
  mj_T.call hc hk hl hcat hr has hcall (fun v h' hq => by
    obtain ⟨h1, h2⟩ := hq
    have h2 : h' = h := h2
    subst h2
    exact q v h1) (fun i h' hq => Or.inl ⟨hM, jsub hs hq.1, hq.2⟩)
theorem jrv_of {a k c r2 : Nat} (o : jO K L R g n tm h) (ka : K a = k) (hk : 7 < k) (hcl : jkc k = c) (hr : 1 ≤ r2) (hd : st.drop (r2 - 1) = .ref a :: st.drop r2) : ∀ m, mj_recv (.invokevirtual m) r2 c st h = true := by
  intro m
  obtain ⟨fs, h1⟩ := o.recv ka hk
  match r2, hr, hd with
  | r2 + 1, _, hd =>
    simp only [mj_recv, hd, h1, hcl, decide_true]
/-- the exception that the method throws itself -/
theorem jT.thr {exc : List Nat} {V : Option Value → Prop} {ins : Instr} (o : jO K L R g n tm h) (hg : g.length ≤ n) (hc : M.2.2.2.2.1 pc = some (ins, r1, r2, r3, r4, r5)) (hk : mj_kind ins r3 = 2) (hh : M.2.2.2.2.2.1 = []) (hs : mj_cat st ≤ 8) (he : exc.contains r1 = true) : mj_T D M pc loc st h (jQ K L R g n tm exc V) := mj_T.throws hc hk hh hs ⟨List.contains_iff_mem.mp he, o.app hg⟩
theorem jT.thrp {exc : List Nat} {V : Option Value → Prop} {ins : Instr} {h0 : mj_H} (o : jO K L R g n tm h) (hg : g.length ≤ n) (hc : M.2.2.2.2.1 pc = some (ins, r1, r2, r3, r4, r5)) (hk : mj_kind ins r3 = 2) (hh : M.2.2.2.2.2.1 = []) (hs : mj_cat st ≤ 8) (he : exc.contains r1 = true) : mj_T D M pc loc st h (jQp K L R g n tm h0 exc V) := mj_T.throws hc hk hh hs ⟨List.contains_iff_mem.mp he, o.app hg⟩
theorem jT.ret {exc : List Nat} {V : Option Value → Prop} {ins : Instr} {v : Option Value} (o : jO K L R g n tm h) (hc : M.2.2.2.2.1 pc = some (ins, r1, r2, r3, r4, r5)) (hk : mj_kind ins r3 = 1) (hs : mj_retv ins M.2.2.2.1 st = some v) (hv : V v) : mj_T D M pc loc st h (jQ K L R g n tm exc V) := mj_T.ret hc hk hs ⟨hv, o⟩
theorem jT.retp {exc : List Nat} {V : Option Value → Prop} {ins : Instr} {v : Option Value} (hc : M.2.2.2.2.1 pc = some (ins, r1, r2, r3, r4, r5)) (hk : mj_kind ins r3 = 1) (hs : mj_retv ins M.2.2.2.1 st = some v) (hv : V v) : mj_T D M pc loc st h (jQp K L R g n tm h exc V) := mj_T.ret hc hk hs ⟨hv, rfl⟩
/-- a boolean that is returned -/
theorem jT.retb {exc : List Nat} {x : Int} (o : jO K L R g n tm h) (hc : M.2.2.2.2.1 pc = some (.ireturn, r1, r2, r3, r4, r5)) (hret : M.2.2.2.1 = some .boolean) (h0 : 0 ≤ x) (h1 : x ≤ 1) : mj_T D M pc loc [.int (jn x)] h (jQ K L R g n tm exc (jVi 0 1)) := by
  refine mj_T.ret hc rfl (v := some (.int (jn x))) ?_ ⟨⟨x, h0, h1, rfl⟩, o⟩
  have : x = 0 ∨ x = 1 := by omega
  simp only [mj_retv, hret]
  rcases this with q | q
  · subst q; rfl
  · subst q; rfl
theorem jT.retbp {exc : List Nat} {x : Int} (hc : M.2.2.2.2.1 pc = some (.ireturn, r1, r2, r3, r4, r5)) (hret : M.2.2.2.1 = some .boolean) (h0 : 0 ≤ x) (h1 : x ≤ 1) : mj_T D M pc loc [.int (jn x)] h (jQp K L R g n tm h exc (jVi 0 1)) := by
  refine mj_T.ret hc rfl (v := some (.int (jn x))) ?_ ⟨⟨x, h0, h1, rfl⟩, rfl⟩
  have : x = 0 ∨ x = 1 := by omega
  simp only [mj_retv, hret]
  rcases this with q | q
  · subst q; rfl
  · subst q; rfl
end JTA
