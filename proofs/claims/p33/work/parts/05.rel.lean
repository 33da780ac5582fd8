/-! What the small machine's state says of the machine's: addresses for places, cells, locals. -/
/-- the address of a place: place 0 is the script's -/
def mj_ad (B b : Nat) (k : Nat) : Nat := match k with
  | 0 => b
  | j + 1 => B + j
def mj_rv (B b : Nat) (v : Value) : Value := match v with
  | .ref k => .ref (mj_ad B b k)
  | v => v
theorem mj_ad_inj {B b : Nat} (hb : b < B) {i j : Nat} (h : mj_ad B b i = mj_ad B b j) : i = j := by
  cases i <;> cases j <;> simp only [mj_ad] at h <;> omega
theorem mj_ad_ge {B b k : Nat} (h : k ≠ 0) : B ≤ mj_ad B b k := by
  cases k with
  | zero => exact absurd rfl h
  | succ j => simp only [mj_ad]; omega
theorem mj_rv_cat (B b : Nat) (v : Value) : (mj_rv B b v).category = v.category := by cases v <;> rfl
theorem mj_rv_idem_int (B b : Nat) (x : Int32) : mj_rv B b (.int x) = .int x := rfl
/-- the listed locals -/
def mj_lv (B b : Nat) (loc : mj_L) : List (Nat × Value) := (List.range loc.length).filterMap fun i => match loc[i]? with
  | some (some v) => some (i, mj_rv B b v)
  | _ => none
def mj_LR (B b : Nat) (loc : mj_L) (ls : Array Slot) (nL : Nat) : Prop := ls.size = nL ∧ loc.length = nL ∧ lv_wf ls ∧ ∀ (i : Nat) (v : Value), loc[i]? = some (some v) → ls[i]? = some (.val (mj_rv B b v))
theorem mj_lv_mem {B b : Nat} {loc : mj_L} {i : Nat} {v : Value} (h : loc[i]? = some (some v)) : (i, mj_rv B b v) ∈ mj_lv B b loc := by
  refine List.mem_filterMap.mpr ⟨i, List.mem_range.mpr (List.getElem?_eq_some_iff.mp h).1, ?_⟩
  simp [h]
theorem mj_lv_of {B b : Nat} {loc : mj_L} {q : Nat × Value} (h : q ∈ mj_lv B b loc) : ∃ v, loc[q.1]? = some (some v) ∧ q.2 = mj_rv B b v := by
  obtain ⟨i, -, hi⟩ := List.mem_filterMap.mp h
  split at hi
  · rename_i v hv
    cases hi
    exact ⟨v, hv, rfl⟩
  · cases hi
theorem mj_LR.has {B b : Nat} {loc : mj_L} {ls : Array Slot} {nL : Nat} (h : mj_LR B b loc ls nL) : lv_has ls nL (mj_lv B b loc) := by
  refine ⟨h.1, h.2.2.1, fun q hq => ?_⟩
  obtain ⟨v, h1, h2⟩ := mj_lv_of hq
  rw [h2]
  exact h.2.2.2 _ _ h1
theorem mj_LR.get {B b : Nat} {loc : mj_L} {ls : Array Slot} {nL : Nat} (h : mj_LR B b loc ls nL) {i : Nat} {v : Value} (hi : loc[i]? = some (some v)) : ls[i]? = some (.val (mj_rv B b v)) := h.2.2.2 i v hi
theorem mj_st1_len (loc : mj_L) (i : Nat) (v : Value) : (mj_st1 loc i v).length = loc.length := by
  unfold mj_st1
  rw [List.length_set]
  split
  · rfl
  · split <;> simp
theorem mj_st1_get {loc : mj_L} {i j : Nat} {v w : Value} (h : (mj_st1 loc i v)[j]? = some (some w)) : (j = i ∧ w = v) ∨ (j ≠ i ∧ loc[j]? = some (some w) ∧ ¬ (j + 1 = i ∧ w.category = 2)) := by
  by_cases hj : j = i
  · subst hj
    refine Or.inl ⟨rfl, ?_⟩
    unfold mj_st1 at h
    have hl := (List.getElem?_eq_some_iff.mp h).1
    rw [List.length_set] at hl
    rw [List.getElem?_set_self hl] at h
    cases h
    rfl
  · refine Or.inr ⟨hj, ?_⟩
    unfold mj_st1 at h
    rw [List.getElem?_set_ne (fun e => hj e.symm)] at h
    cases i with
    | zero => exact ⟨h, fun q => by omega⟩
    | succ k =>
      simp only at h
      by_cases hk : j = k
      · subst hk
        cases hl : loc[j]? with
        | none => rw [hl] at h; simp [hl] at h
        | some o =>
          cases o with
          | none => rw [hl] at h; simp [hl] at h
          | some z =>
            cases z <;> simp only [hl] at h
            all_goals first
              | (rw [List.getElem?_set] at h; simp only [if_true] at h; split at h <;> simp at h; done)
              | (cases h; exact ⟨rfl, fun q => by simp [Value.category] at q⟩)
      · have h2 : loc[j]? = some (some w) := by
          split at h
          · rw [List.getElem?_set_ne (fun e => hk e.symm)] at h; exact h
          · rw [List.getElem?_set_ne (fun e => hk e.symm)] at h; exact h
          · exact h
        exact ⟨h2, fun q => hk (by omega)⟩
theorem mj_LR.st1 {B b : Nat} {loc : mj_L} {ls ls' : Array Slot} {nL i : Nat} {v w : Value} (h : mj_LR B b loc ls nL) (hw : w = mj_rv B b v)
    (h' : lv_has ls' nL ((i, w) :: (mj_lv B b loc).filter (fun q => !(q.1 == i) && !(q.1 + 1 == i && q.2.category == 2)))) : mj_LR B b (mj_st1 loc i v) ls' nL := by
  refine ⟨h'.1, (mj_st1_len loc i v).trans h.2.1, h'.2.1, fun j u hu => ?_⟩
  rcases mj_st1_get hu with ⟨e1, e2⟩ | ⟨e1, e2, e3⟩
  · subst e1; subst e2; subst hw
    exact h'.2.2 (_, _) List.mem_cons_self
  · refine h'.2.2 (j, mj_rv B b u) (List.mem_cons_of_mem _ (List.mem_filter.mpr ⟨mj_lv_mem e2, ?_⟩))
    rw [mj_rv_cat]
    simp only [Bool.and_eq_true, Bool.not_eq_true', beq_eq_false_iff_ne, ne_eq, Bool.and_eq_false_iff]
    refine ⟨e1, ?_⟩
    by_cases hq : j + 1 = i
    · exact Or.inr fun z => e3 ⟨hq, z⟩
    · exact Or.inl hq
theorem mj_st2_get {loc : mj_L} {i j : Nat} {v w : Value} (h : (mj_st2 loc i v)[j]? = some (some w)) : j ≠ i + 1 ∧ (mj_st1 loc i v)[j]? = some (some w) := by
  unfold mj_st2 at h
  by_cases hj : j = i + 1
  · subst hj
    rw [List.getElem?_set] at h
    simp only [if_true] at h
    split at h <;> simp at h
  · rw [List.getElem?_set_ne (fun e => hj e.symm)] at h
    exact ⟨hj, h⟩
theorem mj_LR.st2 {B b : Nat} {loc : mj_L} {ls ls' : Array Slot} {nL i : Nat} {v w : Value} (h : mj_LR B b loc ls nL) (hw : w = mj_rv B b v)
    (h' : lv_has ls' nL ((i, w) :: (mj_lv B b loc).filter (fun q => !(q.1 == i) && (!(q.1 == i + 1) && !(q.1 + 1 == i && q.2.category == 2))))) : mj_LR B b (mj_st2 loc i v) ls' nL := by
  refine ⟨h'.1, ?_, h'.2.1, fun j u hu => ?_⟩
  · unfold mj_st2
    rw [List.length_set]
    exact (mj_st1_len loc i v).trans h.2.1
  obtain ⟨e0, hu⟩ := mj_st2_get hu
  rcases mj_st1_get hu with ⟨e1, e2⟩ | ⟨e1, e2, e3⟩
  · subst e1; subst e2; subst hw
    exact h'.2.2 (_, _) List.mem_cons_self
  · refine h'.2.2 (j, mj_rv B b u) (List.mem_cons_of_mem _ (List.mem_filter.mpr ⟨mj_lv_mem e2, ?_⟩))
    rw [mj_rv_cat]
    simp only [Bool.and_eq_true, Bool.not_eq_true', beq_eq_false_iff_ne, ne_eq, Bool.and_eq_false_iff]
    refine ⟨e1, e0, ?_⟩
    by_cases hq : j + 1 = i
    · exact Or.inr fun z => e3 ⟨hq, z⟩
    · exact Or.inl hq
/-- what a cell of the small machine says of the heap -/
def mj_at (B b : Nat) (D : va_G) (dA : Nat → ClassId) (s : State) (a : Nat) (e : mj_E) (H : Heap) : Prop := match e with
  | .inl (t, n, f) => (t = 100 → ∃ scr : Cell, H[a]? = some scr ∧ s.isArrayOf scr .int ∧ scr.vm ≠ .unknown ∧ scr.slots.size = n ∧ ∀ j : Nat, j < n → scr.slots[j]? = some (mj_rv B b (f j))) ∧ (t ≠ 100 → t ≤ 6 ∧ H[a]? = some (arrV (dA t) n (fun j => mj_rv B b (f j))))
  | .inr (ci, fs) => ci ≠ 99 → ∃ r : vw_C, mj_cl[ci]? = some r ∧ r.2.2 = fs.length ∧ t_OB a (D.1 ci) r.2.2 (D.2 ci) H (vp_V (fs.map (mj_rv B b)))
theorem mj_at.kept {B b : Nat} {D : va_G} {dA : Nat → ClassId} {s : State} {a : Nat} {e : mj_E} {H H1 : Heap} (h : mj_at B b D dA s a e H) (hq : H1[a]? = H[a]?) : mj_at B b D dA s a e H1 := by
  cases e with
  | inl x =>
    obtain ⟨t, n, f⟩ := x
    exact ⟨fun ht => by rw [hq]; exact h.1 ht, fun ht => by rw [hq]; exact h.2 ht⟩
  | inr o =>
    obtain ⟨ci, fs⟩ := o
    intro hc
    obtain ⟨r, h1, h2, h3⟩ := h hc
    exact ⟨r, h1, h2, h3.kept hq⟩
theorem mj_at.moved {B b : Nat} {D : va_G} {dA : Nat → ClassId} {s U : State} {a : Nat} {e : mj_E} {H : Heap} (hvm : s.vm.Alike U.vm) (h : mj_at B b D dA s a e H) : mj_at B b D dA U a e H := by
  cases e with
  | inl x =>
    obtain ⟨t, n, f⟩ := x
    refine ⟨fun ht => ?_, h.2⟩
    obtain ⟨scr, h1, h2, h3⟩ := h.1 ht
    exact ⟨scr, h1, State.isArrayOf_alike hvm h2, h3⟩
  | inr o => exact h
def mj_HR (B b : Nat) (D : va_G) (dA : Nat → ClassId) (s : State) (h : mj_H) (H : Heap) : Prop :=
  H.size + 1 = B + h.length ∧ (∃ (L : Nat) (xs : Nat → Value), h[0]? = some (.inl (100, L, xs))) ∧ ∀ (k : Nat) (e : mj_E), h[k]? = some e → mj_at B b D dA s (mj_ad B b k) e H
theorem mj_HR.moved {B b : Nat} {D : va_G} {dA : Nat → ClassId} {s U : State} {h : mj_H} {H : Heap} (hvm : s.vm.Alike U.vm) (hR : mj_HR B b D dA s h H) : mj_HR B b D dA U h H := ⟨hR.1, hR.2.1, fun k e he => (hR.2.2 k e he).moved hvm⟩
theorem mj_HR.lt {B b : Nat} {D : va_G} {dA : Nat → ClassId} {s : State} {h : mj_H} {H : Heap} (hb : b < B) (hR : mj_HR B b D dA s h H) {k : Nat} {e : mj_E} (he : h[k]? = some e) : mj_ad B b k < H.size := by
  have h1 := hR.1
  have h2 := (List.getElem?_eq_some_iff.mp he).1
  cases k with
  | zero => simp only [mj_ad]; omega
  | succ j => simp only [mj_ad]; omega
/-- a cell is written -/
theorem mj_HR.set {B b : Nat} {D : va_G} {dA : Nat → ClassId} {s : State} {h : mj_H} {H H1 : Heap} (hb : b < B) (hR : mj_HR B b D dA s h H) {k : Nat} (hk : k ≠ 0) {e : mj_E} (he : mj_at B b D dA s (mj_ad B b k) e H1) (hz : H1.size = H.size) (ho : ∀ q, q ≠ mj_ad B b k → H1[q]? = H[q]?) : mj_HR B b D dA s (h.set k e) H1 := by
  refine ⟨by rw [hz, List.length_set]; exact hR.1, ?_, fun j x hx => ?_⟩
  · obtain ⟨L, xs, h0⟩ := hR.2.1
    exact ⟨L, xs, by rw [List.getElem?_set_ne hk]; exact h0⟩
  · by_cases hj : j = k
    · subst hj
      rw [List.getElem?_set] at hx
      simp only [if_true] at hx
      split at hx
      · cases hx; exact he
      · cases hx
    · rw [List.getElem?_set_ne (fun q => hj q.symm)] at hx
      exact (hR.2.2 j x hx).kept (ho _ (fun q => hj (mj_ad_inj hb q)))
/-- a cell is made -/
theorem mj_HR.push {B b : Nat} {D : va_G} {dA : Nat → ClassId} {s : State} {h : mj_H} {H H1 : Heap} (hb : b < B) (hR : mj_HR B b D dA s h H) {e : mj_E} (he : mj_at B b D dA s H.size e H1) (hz : H1.size = H.size + 1) (ho : ∀ q, q < H.size → H1[q]? = H[q]?) : mj_HR B b D dA s (h ++ [e]) H1 ∧ mj_ad B b h.length = H.size := by
  obtain ⟨L, xs, h0⟩ := hR.2.1
  have hl : 0 < h.length := (List.getElem?_eq_some_iff.mp h0).1
  have h1 := hR.1
  have ha : mj_ad B b h.length = H.size := by
    cases hh : h.length with
    | zero => omega
    | succ j => simp only [mj_ad]; omega
  refine ⟨⟨by rw [hz, List.length_append]; simp; omega, ⟨L, xs, by rw [List.getElem?_append_left hl]; exact h0⟩, fun j x hx => ?_⟩, ha⟩
  by_cases hj : j < h.length
  · rw [List.getElem?_append_left hj] at hx
    exact (hR.2.2 j x hx).kept (ho _ (hR.lt hb hx))
  · rw [List.getElem?_append_right (by omega)] at hx
    have hz : j - h.length < 1 := (List.getElem?_eq_some_iff.mp hx).1
    have hj0 : j = h.length := by omega
    subst hj0
    rw [Nat.sub_self] at hx
    cases hx
    rw [ha]
    exact he
def mj_slot (e : mj_E) : Nat := match e with
  | .inl (_, n, _) => n
  | .inr (_, fs) => fs.length
def mj_sl (h : mj_H) : Nat := (h.map mj_slot).sum
theorem mj_sl_set {h : mj_H} {k : Nat} {e e' : mj_E} (he : h[k]? = some e) (hs : mj_slot e' = mj_slot e) : mj_sl (h.set k e') = mj_sl h := by
  induction h generalizing k with
  | nil => simp at he
  | cons x t ih =>
    cases k with
    | zero =>
      simp only [List.getElem?_cons_zero, Option.some.injEq] at he
      subst he
      simp [mj_sl, hs]
    | succ j =>
      simp only [List.getElem?_cons_succ] at he
      have h1 := ih he
      show mj_slot x + mj_sl (t.set j e') = mj_slot x + mj_sl t
      rw [h1]
theorem mj_sl_push (h : mj_H) (e : mj_E) : mj_sl (h ++ [e]) = mj_sl h + mj_slot e := by simp [mj_sl]
/-- the whole of it, within a method that began with n0 cells of s0 slots -/
def mj_Rel (B b : Nat) (D : va_G) (dA : Nat → ClassId) (s : State) (nL n0 s0 : Nat) (loc : mj_L) (h : mj_H) (ls : Array Slot) (H : Heap) (locs : List Loc) (cells slots : Nat) : Prop :=
  mj_HR B b D dA s h H ∧ mj_LR B b loc ls nL ∧ va_S (fun q => B ≤ q) s.heap H locs ∧ n0 + cells = h.length ∧ s0 + slots = mj_sl h
/-- what stays, through a method -/
def mj_Ctx (p : Program) (s : State) (m : MethodId) (args : Array Value) (meth : Method) (c : Code) (y : MethodName) (cc : ByteArray) (nL B b : Nat) (D : va_G) (dA : Nat → ClassId) : Prop :=
  p.tables.exec = Jvm.exec ∧ c.code = cc ∧ c.maxLocals = nL ∧ s.vm.findClass y.cls = some m.cls ∧ (∀ w ∈ lw_tbl, mj_mv w = true → w.before args s = true) ∧ va_K D mj_cl (mj_tys dA) s ∧ B ≤ s.heap.size ∧ b < B ∧ meth.locks = false ∧ (y.name = "<init>" → meth.name = "<init>")
