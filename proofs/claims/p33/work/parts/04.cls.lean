def mj_T0 : u_T := fun k => match k with
  | 0 => ("PolyRegisters$Bench", "rows", "[[J", true)
  | 1 => ("PolyRegisters$Bench", "places", "[I", true)
  | 2 => ("PolyRegisters$Bench", "heights", "[I", true)
  | _ => ("PolyRegisters$Bench", "points", "I", false)
def mj_y0 : Nat → FieldType := fun k => match k with
  | 0 => .array (.array .long)
  | 1 => .array .int
  | 2 => .array .int
  | _ => .int
def mj_T1 : u_T := fun k => match k with
  | 0 => ("PolyRegisters$Desk", "left", "LPolyRegisters$Poly;", true)
  | 1 => ("PolyRegisters$Desk", "right", "LPolyRegisters$Poly;", true)
  | 2 => ("PolyRegisters$Desk", "rest", "LPolyRegisters$Poly;", true)
  | 3 => ("PolyRegisters$Desk", "product", "LPolyRegisters$Poly;", true)
  | 4 => ("PolyRegisters$Desk", "one", "LPolyRegisters$Wide;", true)
  | 5 => ("PolyRegisters$Desk", "two", "LPolyRegisters$Wide;", true)
  | 6 => ("PolyRegisters$Desk", "small", "LPolyRegisters$Wide;", true)
  | _ => ("PolyRegisters$Desk", "divisor", "LPolyRegisters$Divisor;", true)
def mj_y1 : Nat → FieldType := fun k => match k with
  | 0 => .object "PolyRegisters$Poly"
  | 1 => .object "PolyRegisters$Poly"
  | 2 => .object "PolyRegisters$Poly"
  | 3 => .object "PolyRegisters$Poly"
  | 4 => .object "PolyRegisters$Wide"
  | 5 => .object "PolyRegisters$Wide"
  | 6 => .object "PolyRegisters$Wide"
  | _ => .object "PolyRegisters$Divisor"
def mj_T2 : u_T := fun k => match k with
  | 0 => ("PolyRegisters$Divisor", "limbs", "[I", true)
  | 1 => ("PolyRegisters$Divisor", "size", "I", false)
  | 2 => ("PolyRegisters$Divisor", "sign", "I", false)
  | _ => ("PolyRegisters$Divisor", "factor", "J", false)
def mj_y2 : Nat → FieldType := fun k => match k with
  | 0 => .array .int
  | 1 => .int
  | 2 => .int
  | _ => .long
def mj_T3 : u_T := fun k => match k with
  | 0 => ("PolyRegisters$Poly", "parts", "[LPolyRegisters$Wide;", true)
  | 1 => ("PolyRegisters$Poly", "beyond", "LPolyRegisters$Wide;", true)
  | _ => ("PolyRegisters$Poly", "degree", "I", false)
def mj_y3 : Nat → FieldType := fun k => match k with
  | 0 => .array (.object "PolyRegisters$Wide")
  | 1 => .object "PolyRegisters$Wide"
  | _ => .int
def mj_T4 : u_T := fun k => match k with
  | 0 => ("PolyRegisters$Reader", "desk", "LPolyRegisters$Desk;", true)
  | 1 => ("PolyRegisters$Reader", "text", "LPolyRegisters$Text;", false)
  | 2 => ("PolyRegisters$Reader", "place", "I", false)
  | 3 => ("PolyRegisters$Reader", "error", "I", false)
  | 4 => ("PolyRegisters$Reader", "isTooGreat", "Z", false)
  | 5 => ("PolyRegisters$Reader", "sums", "[[J", true)
  | 6 => ("PolyRegisters$Reader", "products", "[[J", true)
  | _ => ("PolyRegisters$Reader", "factor", "[J", true)
def mj_y4 : Nat → FieldType := fun k => match k with
  | 0 => .object "PolyRegisters$Desk"
  | 1 => .object "PolyRegisters$Text"
  | 2 => .int
  | 3 => .int
  | 4 => .boolean
  | 5 => .array (.array .long)
  | 6 => .array (.array .long)
  | _ => .array .long
def mj_T5 : u_T := fun k => match k with
  | 0 => ("PolyRegisters$Roots", "desk", "LPolyRegisters$Desk;", true)
  | 1 => ("PolyRegisters$Roots", "sturm", "LPolyRegisters$Sturm;", true)
  | 2 => ("PolyRegisters$Roots", "isSimple", "Z", false)
  | 3 => ("PolyRegisters$Roots", "count", "I", false)
  | 4 => ("PolyRegisters$Roots", "changesBelow", "I", false)
  | 5 => ("PolyRegisters$Roots", "scale", "J", false)
  | 6 => ("PolyRegisters$Roots", "low", "LPolyRegisters$Wide;", true)
  | 7 => ("PolyRegisters$Roots", "isExact", "Z", false)
  | 8 => ("PolyRegisters$Roots", "bound", "LPolyRegisters$Wide;", true)
  | 9 => ("PolyRegisters$Roots", "step", "LPolyRegisters$Wide;", true)
  | 10 => ("PolyRegisters$Roots", "tried", "LPolyRegisters$Wide;", true)
  | _ => ("PolyRegisters$Roots", "unit", "LPolyRegisters$Wide;", true)
def mj_y5 : Nat → FieldType := fun k => match k with
  | 0 => .object "PolyRegisters$Desk"
  | 1 => .object "PolyRegisters$Sturm"
  | 2 => .boolean
  | 3 => .int
  | 4 => .int
  | 5 => .long
  | 6 => .object "PolyRegisters$Wide"
  | 7 => .boolean
  | 8 => .object "PolyRegisters$Wide"
  | 9 => .object "PolyRegisters$Wide"
  | 10 => .object "PolyRegisters$Wide"
  | _ => .object "PolyRegisters$Wide"
def mj_T6 : u_T := fun k => match k with
  | 0 => ("PolyRegisters$Sturm", "desk", "LPolyRegisters$Desk;", true)
  | 1 => ("PolyRegisters$Sturm", "row", "[LPolyRegisters$Poly;", true)
  | 2 => ("PolyRegisters$Sturm", "length", "I", false)
  | 3 => ("PolyRegisters$Sturm", "lead", "LPolyRegisters$Wide;", true)
  | 4 => ("PolyRegisters$Sturm", "known", "LPolyRegisters$Wide;", true)
  | _ => ("PolyRegisters$Sturm", "place", "LPolyRegisters$Wide;", true)
def mj_y6 : Nat → FieldType := fun k => match k with
  | 0 => .object "PolyRegisters$Desk"
  | 1 => .array (.object "PolyRegisters$Poly")
  | 2 => .int
  | 3 => .object "PolyRegisters$Wide"
  | 4 => .object "PolyRegisters$Wide"
  | _ => .object "PolyRegisters$Wide"
def mj_T7 : u_T := fun k => match k with
  | 0 => ("PolyRegisters$Text", "bytes", "[B", true)
  | _ => ("PolyRegisters$Text", "length", "I", false)
def mj_y7 : Nat → FieldType := fun k => match k with
  | 0 => .array .byte
  | _ => .int
def mj_T8 : u_T := fun k => match k with
  | 0 => ("PolyRegisters$Wide", "limbs", "[I", true)
  | 1 => ("PolyRegisters$Wide", "size", "I", false)
  | _ => ("PolyRegisters$Wide", "sign", "I", false)
def mj_y8 : Nat → FieldType := fun k => match k with
  | 0 => .array .int
  | 1 => .int
  | _ => .int
def mj_T9 : u_T := fun k => match k with
  | 0 => ("PolyRegisters", "bench", "LPolyRegisters$Bench;", true)
  | 1 => ("PolyRegisters", "earlier", "[LPolyRegisters$Bench;", true)
  | 2 => ("PolyRegisters", "undoable", "I", false)
  | 3 => ("PolyRegisters", "nextEarlier", "I", false)
  | 4 => ("PolyRegisters", "buffer", "LPolyRegisters$Text;", true)
  | 5 => ("PolyRegisters", "written", "LPolyRegisters$Text;", true)
  | 6 => ("PolyRegisters", "spare", "LPolyRegisters$Text;", true)
  | 7 => ("PolyRegisters", "desk", "LPolyRegisters$Desk;", true)
  | 8 => ("PolyRegisters", "sturm", "LPolyRegisters$Sturm;", true)
  | 9 => ("PolyRegisters", "roots", "LPolyRegisters$Roots;", true)
  | 10 => ("PolyRegisters", "reader", "LPolyRegisters$Reader;", true)
  | 11 => ("PolyRegisters", "toldTop", "LPolyRegisters$Wide;", true)
  | 12 => ("PolyRegisters", "toldBottom", "LPolyRegisters$Wide;", true)
  | 13 => ("PolyRegisters", "result", "[J", true)
  | 14 => ("PolyRegisters", "second", "[J", true)
  | _ => ("PolyRegisters", "errorAt", "I", false)
def mj_y9 : Nat → FieldType := fun k => match k with
  | 0 => .object "PolyRegisters$Bench"
  | 1 => .array (.object "PolyRegisters$Bench")
  | 2 => .int
  | 3 => .int
  | 4 => .object "PolyRegisters$Text"
  | 5 => .object "PolyRegisters$Text"
  | 6 => .object "PolyRegisters$Text"
  | 7 => .object "PolyRegisters$Desk"
  | 8 => .object "PolyRegisters$Sturm"
  | 9 => .object "PolyRegisters$Roots"
  | 10 => .object "PolyRegisters$Reader"
  | 11 => .object "PolyRegisters$Wide"
  | 12 => .object "PolyRegisters$Wide"
  | 13 => .array .long
  | 14 => .array .long
  | _ => .int
def mj_T10 : u_T := fun k => match k with
  | 0 => ("PolyRegistersModel", "now", "[J", true)
  | 1 => ("PolyRegistersModel", "before", "[J", true)
  | 2 => ("PolyRegistersModel", "changes", "I", false)
  | 3 => ("PolyRegistersModel", "thrown", "I", false)
  | 4 => ("PolyRegistersModel", "big", "[I", true)
  | 5 => ("PolyRegistersModel", "over", "[I", true)
  | 6 => ("PolyRegistersModel", "by", "[I", true)
  | 7 => ("PolyRegistersModel", "rowLength", "I", false)
  | 8 => ("PolyRegistersModel", "text", "[I", true)
  | 9 => ("PolyRegistersModel", "textMany", "I", false)
  | 10 => ("PolyRegistersModel", "at", "I", false)
  | 11 => ("PolyRegistersModel", "open", "I", false)
  | 12 => ("PolyRegistersModel", "error", "I", false)
  | 13 => ("PolyRegistersModel", "isBeyond", "Z", false)
  | 14 => ("PolyRegistersModel", "written", "[I", true)
  | _ => ("PolyRegistersModel", "writtenMany", "I", false)
def mj_y10 : Nat → FieldType := fun k => match k with
  | 0 => .array .long
  | 1 => .array .long
  | 2 => .int
  | 3 => .int
  | 4 => .array .int
  | 5 => .array .int
  | 6 => .array .int
  | 7 => .int
  | 8 => .array .int
  | 9 => .int
  | 10 => .int
  | 11 => .int
  | 12 => .int
  | 13 => .boolean
  | 14 => .array .int
  | _ => .int
abbrev mj_cl : List vw_C := [("PolyRegisters$Bench", mj_T0, 4), ("PolyRegisters$Desk", mj_T1, 8), ("PolyRegisters$Divisor", mj_T2, 4), ("PolyRegisters$Poly", mj_T3, 3), ("PolyRegisters$Reader", mj_T4, 8), ("PolyRegisters$Roots", mj_T5, 12), ("PolyRegisters$Sturm", mj_T6, 6), ("PolyRegisters$Text", mj_T7, 2), ("PolyRegisters$Wide", mj_T8, 3), ("PolyRegisters", mj_T9, 16), ("PolyRegistersModel", mj_T10, 16)]
def mj_ft (ci : Nat) : Nat → FieldType := match ci with
  | 0 => mj_y0
  | 1 => mj_y1
  | 2 => mj_y2
  | 3 => mj_y3
  | 4 => mj_y4
  | 5 => mj_y5
  | 6 => mj_y6
  | 7 => mj_y7
  | 8 => mj_y8
  | 9 => mj_y9
  | _ => mj_y10
def mj_nc (ci : Nat) : Nat := match ci with
  | 0 => 4
  | 1 => 8
  | 2 => 4
  | 3 => 3
  | 4 => 8
  | 5 => 12
  | 6 => 6
  | 7 => 2
  | 8 => 3
  | 9 => 16
  | _ => 16
def mj_kd (t : FieldType) : Nat := match t with
  | .int => 0
  | .long => 1
  | .boolean => 2
  | _ => 3
/-- a new object's fields -/
def mj_new (ci : Nat) : List Value := (List.range (mj_nc ci)).map (fun k => defaultValue (mj_ft ci k))
def mj_tt (t : Nat) : FieldType := match t with
  | 0 => .int
  | 1 => .long
  | 2 => .byte
  | 3 => .object "PolyRegisters$Bench"
  | 4 => .object "PolyRegisters$Poly"
  | 5 => .object "PolyRegisters$Wide"
  | _ => .array .long
abbrev mj_tys (dA : Nat → ClassId) : List (ClassId × FieldType) := [(dA 0, .int), (dA 1, .long), (dA 2, .byte), (dA 3, .object "PolyRegisters$Bench"), (dA 4, .object "PolyRegisters$Poly"), (dA 5, .object "PolyRegisters$Wide"), (dA 6, .array .long)]
/-- a word that stands as long as the tables only grow warm -/
def mj_mv (w : Jvm.Cond) : Bool := goodWord w || (match w with
  | .fieldLinkNest _ _ _ _ _ _ => true
  | .methodLinkNest _ _ _ _ => true
  | .castable _ _ => true
  | .declares _ => true
  | .arrayOver (.object _) => true
  | .arrayOver (.array _) => true
  | _ => false)
def mj_inw (w : Jvm.Cond) : Bool := decide (w ∈ lw_tbl) && mj_mv w
def mj_clsB (ci : Nat) (q : vw_C) : Bool :=
  ((List.range q.2.2).all fun k => mj_inw (u_lay q.1 q.2.1 k) && decide (parseFieldDescriptor (q.2.1 k).2.2.1 = some (mj_ft ci k)) && (List.range q.2.2).all fun j => decide (k = j) || decide ((q.2.1 k).2.1 ≠ (q.2.1 j).2.1)) &&
  mj_inw (.instantiable q.1 q.2.2) && mj_inw (.initialized q.1) && decide (q.2.2 = mj_nc ci)
theorem mj_c0 : mj_clsB 0 ("PolyRegisters$Bench", mj_T0, 4) = true := by decide +kernel
theorem mj_c1 : mj_clsB 1 ("PolyRegisters$Desk", mj_T1, 8) = true := by decide +kernel
theorem mj_c2 : mj_clsB 2 ("PolyRegisters$Divisor", mj_T2, 4) = true := by decide +kernel
theorem mj_c3 : mj_clsB 3 ("PolyRegisters$Poly", mj_T3, 3) = true := by decide +kernel
theorem mj_c4 : mj_clsB 4 ("PolyRegisters$Reader", mj_T4, 8) = true := by decide +kernel
theorem mj_c5 : mj_clsB 5 ("PolyRegisters$Roots", mj_T5, 12) = true := by decide +kernel
theorem mj_c6 : mj_clsB 6 ("PolyRegisters$Sturm", mj_T6, 6) = true := by decide +kernel
theorem mj_c7 : mj_clsB 7 ("PolyRegisters$Text", mj_T7, 2) = true := by decide +kernel
theorem mj_c8 : mj_clsB 8 ("PolyRegisters$Wide", mj_T8, 3) = true := by decide +kernel
theorem mj_c9 : mj_clsB 9 ("PolyRegisters", mj_T9, 16) = true := by decide +kernel
theorem mj_c10 : mj_clsB 10 ("PolyRegistersModel", mj_T10, 16) = true := by decide +kernel
theorem mj_clsA (ci : Nat) (q : vw_C) (h : mj_cl[ci]? = some q) : mj_clsB ci q = true := by
  match ci, h with
  | 0, h => cases h; exact mj_c0
  | 1, h => cases h; exact mj_c1
  | 2, h => cases h; exact mj_c2
  | 3, h => cases h; exact mj_c3
  | 4, h => cases h; exact mj_c4
  | 5, h => cases h; exact mj_c5
  | 6, h => cases h; exact mj_c6
  | 7, h => cases h; exact mj_c7
  | 8, h => cases h; exact mj_c8
  | 9, h => cases h; exact mj_c9
  | 10, h => cases h; exact mj_c10
  | ci + 11, h => simp [mj_cl] at h
theorem mj_inw_of {w : Jvm.Cond} (h : mj_inw w = true) : w ∈ lw_tbl ∧ mj_mv w = true := by
  unfold mj_inw at h
  rw [Bool.and_eq_true, decide_eq_true_eq] at h
  exact h
theorem mj_cls {ci : Nat} {q : vw_C} (h : mj_cl[ci]? = some q) : (∀ w ∈ u_ws q.1 q.2.1 q.2.2, w ∈ lw_tbl ∧ mj_mv w = true) ∧ (∀ k, k < q.2.2 → parseFieldDescriptor (q.2.1 k).2.2.1 = some (mj_ft ci k)) ∧ (∀ a, a < q.2.2 → ∀ b, b < q.2.2 → a ≠ b → (q.2.1 a).2.1 ≠ (q.2.1 b).2.1) ∧ (Jvm.Cond.instantiable q.1 q.2.2 ∈ lw_tbl ∧ mj_mv (.instantiable q.1 q.2.2) = true) ∧ (Jvm.Cond.initialized q.1 ∈ lw_tbl ∧ mj_mv (.initialized q.1) = true) ∧ q.2.2 = mj_nc ci := by
  have hA := mj_clsA ci q h
  unfold mj_clsB at hA
  simp only [Bool.and_eq_true, List.all_eq_true, List.mem_range, decide_eq_true_eq, Bool.or_eq_true] at hA
  obtain ⟨⟨⟨h1, h2⟩, h3⟩, h4⟩ := hA
  refine ⟨fun w hw => ?_, fun k hk => (h1 k hk).1.2, fun a ha b hb hab => ?_, mj_inw_of h2, mj_inw_of h3, h4⟩
  · obtain ⟨k, hk, rfl⟩ := List.mem_map.mp hw
    exact mj_inw_of (h1 k (List.mem_range.mp hk)).1.1
  · rcases (h1 a ha).2 b hb with e | e
    · exact absurd e hab
    · exact e
theorem mj_overA {args : Array Value} {first s : State} {o : Option Outcome} {idx : List Nat} {t : FieldType} (h : (Jvm.Cond.arrayOver (.array t)).holds args first o s idx = true) :
    ∃ comp c k, s.vm.findClass (FieldType.array t).toString = some comp ∧ (s.vm.classes.findIdx? fun (x : Class) => match x.kind with | .array component _ => component == comp | _ => false) = some c ∧ s.vm.classes[c]? = some k ∧ k.kind = .array comp (.array t) ∧ s.vm.findClass ("[" ++ (FieldType.array t).toString) = some c := by
  simp only [Cond.holds, Cond.value, beq_iff_eq] at h
  cases hc : s.vm.findClass (FieldType.array t).toString with
  | none => simp [hc] at h
  | some comp =>
    simp only [hc, Option.bind_some, Option.bind_eq_some_iff, Option.map_eq_some_iff] at h
    obtain ⟨c, hi, k, hk, hb⟩ := h
    have hi0 := hi
    obtain ⟨hlt, hp, -⟩ := Array.findIdx?_eq_some_iff_getElem.mp hi
    have hkk : s.vm.classes[c] = k := (Array.getElem?_eq_some_iff.mp hk).2
    rw [hkk] at hp
    cases hkind : k.kind with
    | array component ty =>
      rw [hkind] at hb hp
      simp at hb hp
      exact ⟨comp, c, k, rfl, hi0, hk, by rw [hkind, hp, hb.1], hb.2⟩
    | _ => rw [hkind] at hb; simp at hb
theorem mj_overA_moved {A A' : Array Value} {t : FieldType} {u U : State} (hvm : u.vm.Alike U.vm) (h : (Jvm.Cond.arrayOver (.array t)).before A u = true) : (Jvm.Cond.arrayOver (.array t)).before A' U = true := by
  obtain ⟨comp, c, k, h1, h2, h3, h4, h5⟩ := mj_overA h
  obtain ⟨k', hk', he⟩ := hvm.2.2 _ _ h3
  have hi : (U.vm.classes.findIdx? fun (x : Class) => match x.kind with | .array component _ => component == comp | _ => false) = some c := by
    have hb9 : U.vm.bare = u.vm.bare := by first | exact hvm.bare_eq | exact hvm.bare_eq.symm
    refine Eq.trans ((va_idx_bare U.vm comp).symm.trans ?_) h2
    rw [hb9]
    exact va_idx_bare u.vm comp
  have hkind : k'.kind = .array comp (.array t) := by rw [he]; exact h4
  have f1 : U.vm.findClass (FieldType.array t).toString = some comp := by rw [hvm.findClass]; exact h1
  have f2 : U.vm.findClass ("[" ++ (FieldType.array t).toString) = some c := by rw [hvm.findClass]; exact h5
  unfold Cond.before Cond.holds
  simp only [Cond.value]
  rw [f1, Option.bind_some]
  refine (congrArg (fun o : Option Nat => (o.bind (fun c => (U.vm.classes[c]?).map fun (k : Class) => match k.kind with | .array _ ty => decide (ty = FieldType.array t) && decide (U.vm.findClass ("[" ++ (FieldType.array t).toString) = some c) | _ => false) == some true)) hi).trans ?_
  simp [hk', hkind, f2]
theorem mj_move {w : Jvm.Cond} (hm : mj_mv w = true) {a a' : Array Value} {s U : State} (hW : s.WarmedH U.vm) (h : w.before a s = true) : w.before a' U = true := by
  unfold mj_mv at hm
  rw [Bool.or_eq_true] at hm
  rcases hm with hm | hm
  · exact word_at hW (good_of_word hm) h
  · cases w <;> (try exact absurd hm Bool.false_ne_true)
    · exact va_Nw.use rfl (va_Nw.warmM hW (va_Nw.of rfl h))
    · exact va_Nw.use rfl (va_Nw.warmF hW (va_Nw.of rfl h))
    · exact va_Nw.use rfl (va_Nw.warmD hW (va_Nw.of rfl h))
    · exact va_Nw.use rfl (va_Nw.warmC hW (va_Nw.of rfl h))
    · rename_i t
      cases t <;> (try exact absurd hm Bool.false_ne_true)
      · exact va_AO.use (va_AO.moved hW.alike (va_AO.of h))
      · exact mj_overA_moved hW.alike h

