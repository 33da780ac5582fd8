/-! The machine does what a run of the small machine says: one contract a run. -/
def mj_four (hs : List (Nat × Nat × Nat × Nat × Nat × Nat × Nat)) : List (Nat × Nat × Nat × Nat) := hs.map fun q => (q.1, q.2.1, q.2.2.1, q.2.2.2.1)
def mj_code (M : mj_M) : Jvm.Cond := match M.2.2.2.2.2.1 with
  | [] => .code M.1 M.2.1 M.2.2.1 M.2.2.2.1
  | hs => .codeWith M.1 M.2.1 M.2.2.1 M.2.2.2.1 (mj_four hs)
def mj_hok (y : MethodName) (cc : ByteArray) (q : Nat × Nat × Nat × Nat × Nat × Nat × Nat) : Bool := match q with
  | (_, _, hp, ct, x, k, nx) => !decide (ct = 0) && mj_inw (.classLink y.cls ct (mj_exc x)) && decide (x < 5) && ((decide (decode cc hp = .ok (.astore k, 2)) && decide (nx = hp + 2)) || (match k with
    | 0 => decide (decode cc hp = .ok (.astore_n 0, 1)) && decide (nx = hp + 1)
    | 1 => decide (decode cc hp = .ok (.astore_n 1, 1)) && decide (nx = hp + 1)
    | 2 => decide (decode cc hp = .ok (.astore_n 2, 1)) && decide (nx = hp + 1)
    | 3 => decide (decode cc hp = .ok (.astore_n 3, 1)) && decide (nx = hp + 1)
    | _ => false))
def mj_np (y : MethodName) : Option Nat := (parseMethodDescriptor y.desc).map fun d => d.parameters.length
/-- a method's own words -/
def mj_okM (M : mj_M) : Bool := match M with
  | (y, cc, n, ret, _, hs, kd, i1, i2, i3, i4) => plainName y.cls && mj_w i1 (mj_code M) && mj_w i2 (.initialized y.cls) && decide (n ≤ 40) && decide (y.cls ≠ "java/lang/invoke/MethodHandle") && decide (y.cls ≠ "java/lang/invoke/VarHandle") && hs.all (mj_hok y cc) && (match kd with
    | 0 => mj_w i3 (.static y) && decide (y.name ≠ "<init>")
    | 1 => mj_w i3 (.instanceMethod y) && mj_w i4 (.selects y.cls y y) && hs.isEmpty
    | _ => mj_w i3 (.instanceMethod y) && decide (y.name = "<init>") && decide (ret = none) && hs.isEmpty)
def mj_lk (own : String) (i : Nat) (y : MethodName) (r3 r4 : Nat) : Bool := match r3 with
  | 0 => mj_w r4 (.methodLink own i y)
  | _ => mj_w r4 (.methodLinkNest own i y "PolyRegisters")
/-- what a call was resolved to -/
def mj_okC (P : List mj_M) (y : MethodName) (cc : ByteArray) (pc : Nat) (ins : Instr) (r1 r2 r3 r4 r5 : Nat) : Bool := match P[r1]? with
  | none => false
  | some (y', _, _, _, _, hs, kd, _) => mj_lk y.cls (match ins with | .invokestatic i => i | .invokevirtual i => i | .invokespecial i => i | _ => 0) y' r3 r4 && (match ins with
    | .invokestatic i => decide (decode cc pc = .ok (.invokestatic i, 3)) && decide (kd = 0) && decide (mj_np y' = some r2) && (hs.isEmpty || decide (r3 = 0)) && decide (y'.cls = y'.cls)
    | .invokevirtual i => decide (decode cc pc = .ok (.invokevirtual i, 3)) && decide (kd = 1) && (match r2 with
      | 0 => false
      | n + 1 => decide (mj_np y' = some n)) && (match mj_cl[r5]? with
      | some q => decide (q.1 = y'.cls)
      | none => false)
    | .invokespecial i => decide (decode cc pc = .ok (.invokespecial i, 3)) && decide (kd = 2) && (match r2 with
      | 0 => false
      | n + 1 => decide (mj_np y' = some n))
    | _ => false)
def mj_okT (y : MethodName) (cc : ByteArray) (pc : Nat) (ins : Instr) (r1 r2 r4 : Nat) : Bool := match ins with
  | .new ik => decide (decode cc pc = .ok (.new ik, 3)) && decide (decode cc (pc + 3) = .ok (.dup, 1)) && decide (decode cc (pc + 4) = .ok (.invokespecial r2, 3)) && decide (decode cc (pc + 7) = .ok (.athrow, 1)) && mj_w r4 (.classLink y.cls ik (mj_exc r1)) && decide (r1 < 5)
  | _ => false
/-- the words of a throw in a class, by the constructor's number -/
def mj_thr (own : String) (ic i : Nat) : Bool := Bundle.fit (mj_exc i) && mj_inw (.initialized (mj_exc i)) && vx_ot (.initialized (mj_exc i)) && (vx_at0 own ic (mj_exc i) ["java/lang/RuntimeException", "java/lang/Exception"]).all fun w => mj_inw w && vx_ot w
def mj_okX (P : List mj_M) (thr : List (String × Nat × Nat)) (y : MethodName) (cc : ByteArray) (pc : Nat) (I : mj_I) : Bool := match I with
  | (ins, r1, r2, r3, r4, r5) => match mj_kind ins r3 with
    | 0 => mj_ok y cc pc I
    | 1 => decide (decode cc pc = .ok (ins, 1))
    | 2 => mj_okT y cc pc ins r1 r2 r4 && decide ((y.cls, r2, r1) ∈ thr)
    | 3 => mj_okC P y cc pc ins r1 r2 r3 r4 r5
    | _ => mj_okP y cc pc ins r3 r4
def mj_Inv (B b : Nat) (D : va_G) (dA : Nat → ClassId) (h : mj_H) (U : State) : Prop :=
  mj_HR B b D dA U h U.heap ∧ (∀ w ∈ lw_tbl, mj_mv w = true → w.before #[] U = true) ∧ va_K D mj_cl (mj_tys dA) U ∧ B ≤ U.heap.size ∧ b < B ∧ vx_Zq Bundle.tN "UNASSIGNED_STACK" Bundle.steD (fun q => B ≤ q) U U.heap ∧ vx_Zq Bundle.tN "SUPPRESSED_SENTINEL" Bundle.listD (fun q => B ≤ q) U U.heap ∧ ∀ i j, i < 5 → j < 5 → i ≠ j → va_Nc (mj_exc i) (mj_exc j) U
def mj_Pc (B b : Nat) (D : va_G) (dA : Nat → ClassId) (h : mj_H) (as : List Value) : Array Value → State → Prop := fun a U => a = (as.map (mj_rv B b)).toArray ∧ mj_Inv B b D dA h U
def mj_Qc (B b : Nat) (D : va_G) (dA : Nat → ClassId) (r : mj_R) : Array Value → State → Outcome → State → Prop := fun _ st oc t => ∃ v, r.1 = .inl v ∧ oc = .returned (v.map (mj_rv B b)) ∧ mj_HR B b D dA t r.2 t.heap ∧ va_F (fun q => B ≤ q) st t
def mj_Xc (B b : Nat) (D : va_G) (dA : Nat → ClassId) (r : mj_R) : String → State → State → Prop := fun E st t => ∃ i, r.1 = .inr i ∧ i < 5 ∧ E = mj_exc i ∧ mj_HR B b D dA t r.2 t.heap ∧ va_F (fun q => B ≤ q) st t
def mj_rm (d mc ms : Nat) : Room := { frames := d + 8, cells := mc, slots := ms, locals := 140 + d * 64 }
def mj_Spec (l : Launch) (B b : Nat) (D : va_G) (dA : Nat → ClassId) (d : Nat) (M : mj_M) (as : List Value) (h : mj_H) (r : mj_R) : Prop :=
  vx_Met l M.1 [mj_code M] (mj_rm d (r.2.length - h.length) (mj_sl r.2 - mj_sl h)) (mj_Pc B b D dA h as) (mj_Qc B b D dA r) (mj_Xc B b D dA r) (r.2.length - h.length) (mj_sl r.2 - mj_sl h) (fun q => B ≤ q)
theorem mj_Inv.warm {B b : Nat} {D : va_G} {dA : Nat → ClassId} {h : mj_H} {U U' : State} (hW : U.WarmedH U'.vm) (hh : U'.heap = U.heap) (hI : mj_Inv B b D dA h U) : mj_Inv B b D dA h U' := by
  obtain ⟨h1, h2, h3, h4, h5, h6, h7, h8⟩ := hI
  refine ⟨by rw [hh]; exact h1.moved hW.alike, fun w hw hm => mj_move hm hW (h2 w hw hm), va_K.moved hW.alike h3, by rw [hh]; exact h4, h5, by rw [hh]; exact vx_Zq.moved hW.alike h6, by rw [hh]; exact vx_Zq.moved hW.alike h7, fun i j hi hj hij => (h8 i j hi hj hij).moved hW.alike⟩
theorem mj_Inv.at {B b : Nat} {D : va_G} {dA : Nat → ClassId} {h0 h : mj_H} {s U : State} {H : Heap} {locs : List Loc} (hI : mj_Inv B b D dA h0 s) (hR : mj_HR B b D dA s h H) (hS : va_S (fun q => B ≤ q) s.heap H locs) (hU : U.heap = H) (hW : s.WarmedH U.vm) : mj_Inv B b D dA h U := by
  obtain ⟨h1, h2, h3, h4, h5, h6, h7, h8⟩ := hI
  subst hU
  exact ⟨hR.moved hW.alike, fun w hw hm => mj_move hm hW (h2 w hw hm), va_K.moved hW.alike h3, Nat.le_trans h4 hS.1, h5, vx_Zq.moved hW.alike (h6.kept hS.2.1), vx_Zq.moved hW.alike (h7.kept hS.2.1), fun i j hi hj hij => (h8 i j hi hj hij).moved hW.alike⟩
theorem mj_blind {B b : Nat} {D : va_G} {dA : Nat → ClassId} {h : mj_H} {as : List Value} : FrameBlind (mj_Pc B b D dA h as) := fun a U g mk hP => ⟨hP.1, hP.2.warm (U' := U.calling g mk a) (State.WarmedH.refl U) rfl⟩
theorem mj_loc0_len (f : Value → Value) (hf : ∀ v, (f v).category = v.category) : ∀ (as : List Value) (n : Nat), (lg_sl (as.map f)).length ≤ (mj_loc0 n as).length
  | [], n => by simp [lg_sl]
  | v :: t, n => by
    have h1 := mj_loc0_len f hf t (n - 2)
    have h2 := mj_loc0_len f hf t (n - 1)
    simp only [lg_sl] at h1 h2
    simp only [mj_loc0, lg_sl, List.map_cons, List.flatMap_cons, hf]
    split
    · simp only [List.length_append, List.length_cons, List.length_nil]; omega
    · simp only [List.length_append, List.length_cons, List.length_nil]; omega
theorem mj_loc0_get (f : Value → Value) (hf : ∀ v, (f v).category = v.category) : ∀ (as : List Value) (n o i : Nat) (v : Value), (mj_loc0 n as)[i]? = some (some v) → (o + i, f v) ∈ lv_args o (as.map f)
  | [], n, o, i, v, h => by
    simp only [mj_loc0, List.getElem?_replicate] at h
    split at h
    · cases h
    · cases h
  | w :: t, n, o, i, v, h => by
    simp only [mj_loc0] at h
    simp only [List.map_cons, lv_args, hf]
    split at h
    · rename_i hc
      rw [if_pos hc]
      match i, h with
      | 0, h => cases h; exact List.mem_cons_self
      | 1, h => cases h
      | i + 2, h =>
        have := mj_loc0_get f hf t (n - 2) (o + 2) i v h
        rw [show o + (i + 2) = o + 2 + i by omega]
        exact List.mem_cons_of_mem _ this
    · rename_i hc
      rw [if_neg hc]
      match i, h with
      | 0, h => cases h; exact List.mem_cons_self
      | i + 1, h =>
        have := mj_loc0_get f hf t (n - 1) (o + 1) i v h
        rw [show o + (i + 1) = o + 1 + i by omega]
        exact List.mem_cons_of_mem _ this
theorem mj_entry {B b nL : Nat} {as : List Value} (hl : (mj_loc0 nL as).length = nL) : mj_LR B b (mj_loc0 nL as) ((lg_sl (as.map (mj_rv B b)) ++ List.replicate (nL - (lg_sl (as.map (mj_rv B b))).length) Slot.unset).toArray) nL := by
  have h1 := lv_entry (as.map (mj_rv B b)) (n := nL) (by have := mj_loc0_len (mj_rv B b) (mj_rv_cat B b) as nL; omega)
  refine ⟨h1.1, hl, h1.2.1, fun i v hv => ?_⟩
  have h2 := mj_loc0_get (mj_rv B b) (mj_rv_cat B b) as nL 0 i v hv
  rw [Nat.zero_add] at h2
  exact h1.2.2 _ h2
theorem mj_LR.kill {B b : Nat} {loc : mj_L} {ls ls' : Array Slot} {nL i : Nat} {w : Value} (h : mj_LR B b loc ls nL)
    (h' : lv_has ls' nL ((i, w) :: (mj_lv B b loc).filter (fun q => !(q.1 == i) && !(q.1 + 1 == i && q.2.category == 2)))) : mj_LR B b (mj_kill loc i) ls' nL := by
  refine ⟨h'.1, ?_, h'.2.1, fun j u hu => ?_⟩
  · unfold mj_kill
    rw [List.length_set]
    exact (mj_st1_len loc i _).trans h.2.1
  unfold mj_kill at hu
  by_cases hj : j = i
  · subst hj
    rw [List.getElem?_set] at hu
    simp only [if_true] at hu
    split at hu <;> simp at hu
  · rw [List.getElem?_set_ne (fun e => hj e.symm)] at hu
    rcases mj_st1_get hu with ⟨e1, e2⟩ | ⟨e1, e2, e3⟩
    · exact absurd e1 hj
    · refine h'.2.2 (j, mj_rv B b u) (List.mem_cons_of_mem _ (List.mem_filter.mpr ⟨mj_lv_mem e2, ?_⟩))
      rw [mj_rv_cat]
      simp only [Bool.and_eq_true, Bool.not_eq_true', beq_eq_false_iff_ne, ne_eq, Bool.and_eq_false_iff]
      refine ⟨e1, ?_⟩
      by_cases hq : j + 1 = i
      · exact Or.inr fun z => e3 ⟨hq, z⟩
      · exact Or.inl hq
theorem mj_cast_ok : ((List.range 5).all fun i => mj_inw (.castable (mj_exc i) (mj_exc i))) = true := by decide +kernel
