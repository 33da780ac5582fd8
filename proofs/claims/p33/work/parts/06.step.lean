/-! The steps: what an instruction was resolved to is checked by the kernel ('mj_ok'); then one step of the small machine is one of the machine. -/
def mj_len (ins : Instr) : Nat := match ins with
  | .bipush _ => 2
  | .sipush _ => 3
  | .ldc _ => 2
  | .ldc_w _ => 3
  | .ldc2_w _ => 3
  | .iload _ => 2
  | .lload _ => 2
  | .dload _ => 2
  | .aload _ => 2
  | .istore _ => 2
  | .lstore _ => 2
  | .dstore _ => 2
  | .astore _ => 2
  | .iinc _ _ => 3
  | .goto _ => 3
  | .ifCond _ _ => 3
  | .if_icmp _ _ => 3
  | .getfield _ => 3
  | .putfield _ => 3
  | .new _ => 3
  | .anewarray _ => 3
  | .newarray _ => 2
  | .multianewarray _ _ => 4
  | .invokevirtual _ => 3
  | .invokespecial _ => 3
  | .invokestatic _ => 3
  | _ => 1
def mj_w (r : Nat) (w : Jvm.Cond) : Bool := decide (lw_tbl[r]? = some w) && mj_mv w
theorem mj_w_of {r : Nat} {w : Jvm.Cond} (h : mj_w r w = true) : w ∈ lw_tbl ∧ mj_mv w = true := by
  unfold mj_w at h
  rw [Bool.and_eq_true, decide_eq_true_eq] at h
  exact ⟨List.mem_of_getElem? h.1, h.2⟩
def mj_link (own : String) (i : Nat) (q : vw_C) (k r4 r5 : Nat) : Bool := match r5 with
  | 0 => mj_w r4 (.fieldLink own i (q.2.1 k).1 (q.2.1 k).2.1 (q.2.1 k).2.2.1)
  | _ => mj_w r4 (.fieldLinkNest own i (q.2.1 k).1 (q.2.1 k).2.1 (q.2.1 k).2.2.1 "PolyRegisters")
def mj_okS (y : MethodName) (pc : Nat) (ins : Instr) (r1 r2 r3 r4 r5 : Nat) : Bool := match ins with
  | .goto off => decide ((pc : Int) + off = (r1 : Int))
  | .ifCond _ off => decide ((pc : Int) + off = (r1 : Int))
  | .if_icmp _ off => decide ((pc : Int) + off = (r1 : Int))
  | .bipush n => decide ((Int8.ofInt n).toInt32 = Int32.ofInt n)
  | .sipush n => decide ((Int16.ofInt n).toInt32 = Int32.ofInt n)
  | .ldc i => (match r2 with
    | 0 => mj_w r4 (.constant y.cls i (Int32.ofNat r1))
    | _ => mj_w r4 (.constantFloat y.cls i (UInt32.ofNat r1)))
  | .ldc_w i => (match r2 with
    | 0 => mj_w r4 (.constant y.cls i (Int32.ofNat r1))
    | _ => mj_w r4 (.constantFloat y.cls i (UInt32.ofNat r1)))
  | .ldc2_w i => (match r2 with
    | 0 => mj_w r4 (.constantLong y.cls i (Int64.ofNat r1))
    | _ => mj_w r4 (.constantDouble y.cls i (UInt64.ofNat r1)))
  | .getfield i => (match mj_cl[r1]? with
    | some q => decide (r2 < q.2.2) && mj_link y.cls i q r2 r4 r5
    | none => false)
  | .putfield i => (match mj_cl[r1]? with
    | some q => decide (r2 < q.2.2) && mj_link y.cls i q r2 r4 r5 && decide (mj_kd (mj_ft r1 r2) = r3) && (!(q.2.1 r2).2.2.2 || (decide (y.name = "<init>") && decide ((q.2.1 r2).1 = y.cls) && decide (r5 = 0)))
    | none => false)
  | .new i => (match mj_cl[r1]? with
    | some q => mj_w r4 (.classLink y.cls i q.1)
    | none => false)
  | .newarray t => decide (newarray.typeOf t = mj_tt r1) && mj_w r4 (.arrayClass (mj_tt r1))
  | .anewarray i => (match mj_el r1 with
    | some ci => (match mj_cl[ci]? with
      | some q => mj_w r4 (.classLink y.cls i q.1) && mj_w r5 (.arrayOver (.object q.1)) && decide (mj_tt r1 = .object q.1) && decide (3 ≤ r1) && decide (r1 ≤ 5)
      | none => false)
    | none => false)
  | .multianewarray i d => decide (d = 2) && mj_w r4 (.classLink y.cls i ("[" ++ (FieldType.array .long).toString)) && mj_w r5 (.arrayOver (.array .long)) && mj_w r2 (.arrayClass .long)
  | _ => true
def mj_ok (y : MethodName) (cc : ByteArray) (pc : Nat) (I : mj_I) : Bool := match I with
  | (.tableswitch d lo hi os, r1, _) => decide (decode cc pc = .ok (.tableswitch d lo hi os, r1))
  | (ins, r1, r2, r3, r4, r5) => decide (decode cc pc = .ok (ins, mj_len ins)) && mj_okS y pc ins r1 r2 r3 r4 r5
theorem mj_load1_of {loc : mj_L} {i : Nat} {v : Value} (h : mj_load1 loc i = some v) : ∃ x, v = .int x ∧ loc[i]? = some (some (.int x)) := by
  unfold mj_load1 at h
  split at h
  · rename_i x hx
    cases h
    exact ⟨x, rfl, hx⟩
  · cases h
theorem mj_loadL_of {loc : mj_L} {i : Nat} {v : Value} (h : mj_loadL loc i = some v) : ∃ x, v = .long x ∧ loc[i]? = some (some (.long x)) := by
  unfold mj_loadL at h
  split at h
  · rename_i x hx
    cases h
    exact ⟨x, rfl, hx⟩
  · cases h
theorem mj_loadD_of {loc : mj_L} {i : Nat} {v : Value} (h : mj_loadD loc i = some v) : ∃ x, v = .double x ∧ loc[i]? = some (some (.double x)) := by
  unfold mj_loadD at h
  split at h
  · rename_i x hx
    cases h
    exact ⟨x, rfl, hx⟩
  · cases h
theorem mj_loadA_of {loc : mj_L} {i : Nat} {v : Value} (h : mj_loadA loc i = some v) : ∃ x, v = .ref x ∧ loc[i]? = some (some (.ref x)) := by
  unfold mj_loadA at h
  split at h
  · rename_i x hx
    cases h
    exact ⟨x, rfl, hx⟩
  · cases h
section MJS
variable {p : Program} {l : Launch} {e : Env} {R : Room} {s : State} {m : MethodId} {args : Array Value} {below : List Frame} {meth : Method} {c : Code} {H : Heap} {locs : List Loc} {cells slots : Nat} {Q : State → Prop}
variable {y : MethodName} {cc : ByteArray} {nL B b n0 s0 : Nat} {D : va_G} {dA : Nat → ClassId} {pc : Nat} {loc : mj_L} {st : List Value} {h : mj_H} {ls : Array Slot}
theorem mj_ldcwF {ls : Array Slot} {rest : List Value} (hexec : p.tables.exec = Jvm.exec) (hb : c.code = cc) {own : String} {index : Nat} {v : UInt32} (hown : s.vm.findClass own = some m.cls) (hconst : (Jvm.Cond.constantFloat own index v).before args s = true) (hdg : decode cc pc = .ok (.ldc_w index, 3)) (k : W p l e R s m args below meth c H locs cells slots Q (F0 m (pc + 3) ls (.float v :: rest))) : W p l e R s m args below meth c H locs cells slots Q (F0 m pc ls rest) := by
  intro T hT X
  obtain ⟨t, a, b⟩ := k T hT X
  refine ⟨t, ?_, b⟩
  obtain ⟨k, cf, hk, hcf, hcp⟩ := Cond.constantFloat_spec hown hconst
  obtain ⟨k', hk', he⟩ := X.warmed.alike.2.2 _ _ hk
  jvm_step X.here [hexec, hb, hdg, ldc_w.wp_float (s := T) (f := F0 m pc ls rest) X.here.top hk' (by rw [he]; exact hcf) hcp]
  exact a
theorem mj_Rel.ofL {loc' : mj_L} {ls' : Array Slot} (hr : mj_Rel B b D dA s nL n0 s0 loc h ls H locs cells slots) (hl : mj_LR B b loc' ls' nL) : mj_Rel B b D dA s nL n0 s0 loc' h ls' H locs cells slots := ⟨hr.1, hl, hr.2.2⟩

theorem mj_s_iadd {r1 r2 r3 r4 r5 : Nat} (C : mj_Ctx p s m args meth c y cc nL B b D dA) (hd : decode cc pc = .ok (.iadd, mj_len (.iadd))) (ho : mj_okS y pc (.iadd) r1 r2 r3 r4 r5 = true) {pc' : Nat} {loc' : mj_L} {st' : List Value} {h' : mj_H} (hs : mj_step (.iadd) r1 r2 r3 mj_new pc loc st h = some (pc', loc', st', h')) (hr : mj_Rel B b D dA s nL n0 s0 loc h ls H locs cells slots)
    (hcl : h'.length ≤ n0 + R.cells) (hsl : mj_sl h' ≤ s0 + R.slots)
    (k : ∀ (ls' : Array Slot) (H' : Heap) (locs' : List Loc) (cells' slots' : Nat), mj_Rel B b D dA s nL n0 s0 loc' h' ls' H' locs' cells' slots' → W p l e R s m args below meth c H' locs' cells' slots' Q (F0 m pc' ls' (st'.map (mj_rv B b)))) :
    W p l e R s m args below meth c H locs cells slots Q (F0 m pc ls (st.map (mj_rv B b))) := by
  obtain ⟨hx, hb, hml, hown, hts, hK, hB, hbB, hlk, hin⟩ := C
  simp only [mj_step] at hs
  split at hs
  · cases hs
    exact lv_iadd hx hb hd (k _ _ _ _ _ hr)
  · cases hs
theorem mj_s_isub {r1 r2 r3 r4 r5 : Nat} (C : mj_Ctx p s m args meth c y cc nL B b D dA) (hd : decode cc pc = .ok (.isub, mj_len (.isub))) (ho : mj_okS y pc (.isub) r1 r2 r3 r4 r5 = true) {pc' : Nat} {loc' : mj_L} {st' : List Value} {h' : mj_H} (hs : mj_step (.isub) r1 r2 r3 mj_new pc loc st h = some (pc', loc', st', h')) (hr : mj_Rel B b D dA s nL n0 s0 loc h ls H locs cells slots)
    (hcl : h'.length ≤ n0 + R.cells) (hsl : mj_sl h' ≤ s0 + R.slots)
    (k : ∀ (ls' : Array Slot) (H' : Heap) (locs' : List Loc) (cells' slots' : Nat), mj_Rel B b D dA s nL n0 s0 loc' h' ls' H' locs' cells' slots' → W p l e R s m args below meth c H' locs' cells' slots' Q (F0 m pc' ls' (st'.map (mj_rv B b)))) :
    W p l e R s m args below meth c H locs cells slots Q (F0 m pc ls (st.map (mj_rv B b))) := by
  obtain ⟨hx, hb, hml, hown, hts, hK, hB, hbB, hlk, hin⟩ := C
  simp only [mj_step] at hs
  split at hs
  · cases hs
    exact lv_isub hx hb hd (k _ _ _ _ _ hr)
  · cases hs
theorem mj_s_imul {r1 r2 r3 r4 r5 : Nat} (C : mj_Ctx p s m args meth c y cc nL B b D dA) (hd : decode cc pc = .ok (.imul, mj_len (.imul))) (ho : mj_okS y pc (.imul) r1 r2 r3 r4 r5 = true) {pc' : Nat} {loc' : mj_L} {st' : List Value} {h' : mj_H} (hs : mj_step (.imul) r1 r2 r3 mj_new pc loc st h = some (pc', loc', st', h')) (hr : mj_Rel B b D dA s nL n0 s0 loc h ls H locs cells slots)
    (hcl : h'.length ≤ n0 + R.cells) (hsl : mj_sl h' ≤ s0 + R.slots)
    (k : ∀ (ls' : Array Slot) (H' : Heap) (locs' : List Loc) (cells' slots' : Nat), mj_Rel B b D dA s nL n0 s0 loc' h' ls' H' locs' cells' slots' → W p l e R s m args below meth c H' locs' cells' slots' Q (F0 m pc' ls' (st'.map (mj_rv B b)))) :
    W p l e R s m args below meth c H locs cells slots Q (F0 m pc ls (st.map (mj_rv B b))) := by
  obtain ⟨hx, hb, hml, hown, hts, hK, hB, hbB, hlk, hin⟩ := C
  simp only [mj_step] at hs
  split at hs
  · cases hs
    exact lv_imul hx hb hd (k _ _ _ _ _ hr)
  · cases hs
theorem mj_s_ineg {r1 r2 r3 r4 r5 : Nat} (C : mj_Ctx p s m args meth c y cc nL B b D dA) (hd : decode cc pc = .ok (.ineg, mj_len (.ineg))) (ho : mj_okS y pc (.ineg) r1 r2 r3 r4 r5 = true) {pc' : Nat} {loc' : mj_L} {st' : List Value} {h' : mj_H} (hs : mj_step (.ineg) r1 r2 r3 mj_new pc loc st h = some (pc', loc', st', h')) (hr : mj_Rel B b D dA s nL n0 s0 loc h ls H locs cells slots)
    (hcl : h'.length ≤ n0 + R.cells) (hsl : mj_sl h' ≤ s0 + R.slots)
    (k : ∀ (ls' : Array Slot) (H' : Heap) (locs' : List Loc) (cells' slots' : Nat), mj_Rel B b D dA s nL n0 s0 loc' h' ls' H' locs' cells' slots' → W p l e R s m args below meth c H' locs' cells' slots' Q (F0 m pc' ls' (st'.map (mj_rv B b)))) :
    W p l e R s m args below meth c H locs cells slots Q (F0 m pc ls (st.map (mj_rv B b))) := by
  obtain ⟨hx, hb, hml, hown, hts, hK, hB, hbB, hlk, hin⟩ := C
  simp only [mj_step] at hs
  split at hs
  · cases hs
    exact lv_ineg hx hb hd (k _ _ _ _ _ hr)
  · cases hs
theorem mj_s_iand {r1 r2 r3 r4 r5 : Nat} (C : mj_Ctx p s m args meth c y cc nL B b D dA) (hd : decode cc pc = .ok (.iand, mj_len (.iand))) (ho : mj_okS y pc (.iand) r1 r2 r3 r4 r5 = true) {pc' : Nat} {loc' : mj_L} {st' : List Value} {h' : mj_H} (hs : mj_step (.iand) r1 r2 r3 mj_new pc loc st h = some (pc', loc', st', h')) (hr : mj_Rel B b D dA s nL n0 s0 loc h ls H locs cells slots)
    (hcl : h'.length ≤ n0 + R.cells) (hsl : mj_sl h' ≤ s0 + R.slots)
    (k : ∀ (ls' : Array Slot) (H' : Heap) (locs' : List Loc) (cells' slots' : Nat), mj_Rel B b D dA s nL n0 s0 loc' h' ls' H' locs' cells' slots' → W p l e R s m args below meth c H' locs' cells' slots' Q (F0 m pc' ls' (st'.map (mj_rv B b)))) :
    W p l e R s m args below meth c H locs cells slots Q (F0 m pc ls (st.map (mj_rv B b))) := by
  obtain ⟨hx, hb, hml, hown, hts, hK, hB, hbB, hlk, hin⟩ := C
  simp only [mj_step] at hs
  split at hs
  · cases hs
    exact lv_iand hx hb hd (k _ _ _ _ _ hr)
  · cases hs
theorem mj_s_ishr {r1 r2 r3 r4 r5 : Nat} (C : mj_Ctx p s m args meth c y cc nL B b D dA) (hd : decode cc pc = .ok (.ishr, mj_len (.ishr))) (ho : mj_okS y pc (.ishr) r1 r2 r3 r4 r5 = true) {pc' : Nat} {loc' : mj_L} {st' : List Value} {h' : mj_H} (hs : mj_step (.ishr) r1 r2 r3 mj_new pc loc st h = some (pc', loc', st', h')) (hr : mj_Rel B b D dA s nL n0 s0 loc h ls H locs cells slots)
    (hcl : h'.length ≤ n0 + R.cells) (hsl : mj_sl h' ≤ s0 + R.slots)
    (k : ∀ (ls' : Array Slot) (H' : Heap) (locs' : List Loc) (cells' slots' : Nat), mj_Rel B b D dA s nL n0 s0 loc' h' ls' H' locs' cells' slots' → W p l e R s m args below meth c H' locs' cells' slots' Q (F0 m pc' ls' (st'.map (mj_rv B b)))) :
    W p l e R s m args below meth c H locs cells slots Q (F0 m pc ls (st.map (mj_rv B b))) := by
  obtain ⟨hx, hb, hml, hown, hts, hK, hB, hbB, hlk, hin⟩ := C
  simp only [mj_step] at hs
  split at hs
  · cases hs
    exact lv_ishr hx hb hd (k _ _ _ _ _ hr)
  · cases hs
theorem mj_s_iushr {r1 r2 r3 r4 r5 : Nat} (C : mj_Ctx p s m args meth c y cc nL B b D dA) (hd : decode cc pc = .ok (.iushr, mj_len (.iushr))) (ho : mj_okS y pc (.iushr) r1 r2 r3 r4 r5 = true) {pc' : Nat} {loc' : mj_L} {st' : List Value} {h' : mj_H} (hs : mj_step (.iushr) r1 r2 r3 mj_new pc loc st h = some (pc', loc', st', h')) (hr : mj_Rel B b D dA s nL n0 s0 loc h ls H locs cells slots)
    (hcl : h'.length ≤ n0 + R.cells) (hsl : mj_sl h' ≤ s0 + R.slots)
    (k : ∀ (ls' : Array Slot) (H' : Heap) (locs' : List Loc) (cells' slots' : Nat), mj_Rel B b D dA s nL n0 s0 loc' h' ls' H' locs' cells' slots' → W p l e R s m args below meth c H' locs' cells' slots' Q (F0 m pc' ls' (st'.map (mj_rv B b)))) :
    W p l e R s m args below meth c H locs cells slots Q (F0 m pc ls (st.map (mj_rv B b))) := by
  obtain ⟨hx, hb, hml, hown, hts, hK, hB, hbB, hlk, hin⟩ := C
  simp only [mj_step] at hs
  split at hs
  · cases hs
    exact lv_iushr hx hb hd rfl (k _ _ _ _ _ hr)
  · cases hs
theorem mj_s_ladd {r1 r2 r3 r4 r5 : Nat} (C : mj_Ctx p s m args meth c y cc nL B b D dA) (hd : decode cc pc = .ok (.ladd, mj_len (.ladd))) (ho : mj_okS y pc (.ladd) r1 r2 r3 r4 r5 = true) {pc' : Nat} {loc' : mj_L} {st' : List Value} {h' : mj_H} (hs : mj_step (.ladd) r1 r2 r3 mj_new pc loc st h = some (pc', loc', st', h')) (hr : mj_Rel B b D dA s nL n0 s0 loc h ls H locs cells slots)
    (hcl : h'.length ≤ n0 + R.cells) (hsl : mj_sl h' ≤ s0 + R.slots)
    (k : ∀ (ls' : Array Slot) (H' : Heap) (locs' : List Loc) (cells' slots' : Nat), mj_Rel B b D dA s nL n0 s0 loc' h' ls' H' locs' cells' slots' → W p l e R s m args below meth c H' locs' cells' slots' Q (F0 m pc' ls' (st'.map (mj_rv B b)))) :
    W p l e R s m args below meth c H locs cells slots Q (F0 m pc ls (st.map (mj_rv B b))) := by
  obtain ⟨hx, hb, hml, hown, hts, hK, hB, hbB, hlk, hin⟩ := C
  simp only [mj_step] at hs
  split at hs
  · cases hs
    exact lv_ladd hx hb hd (k _ _ _ _ _ hr)
  · cases hs
theorem mj_s_lsub {r1 r2 r3 r4 r5 : Nat} (C : mj_Ctx p s m args meth c y cc nL B b D dA) (hd : decode cc pc = .ok (.lsub, mj_len (.lsub))) (ho : mj_okS y pc (.lsub) r1 r2 r3 r4 r5 = true) {pc' : Nat} {loc' : mj_L} {st' : List Value} {h' : mj_H} (hs : mj_step (.lsub) r1 r2 r3 mj_new pc loc st h = some (pc', loc', st', h')) (hr : mj_Rel B b D dA s nL n0 s0 loc h ls H locs cells slots)
    (hcl : h'.length ≤ n0 + R.cells) (hsl : mj_sl h' ≤ s0 + R.slots)
    (k : ∀ (ls' : Array Slot) (H' : Heap) (locs' : List Loc) (cells' slots' : Nat), mj_Rel B b D dA s nL n0 s0 loc' h' ls' H' locs' cells' slots' → W p l e R s m args below meth c H' locs' cells' slots' Q (F0 m pc' ls' (st'.map (mj_rv B b)))) :
    W p l e R s m args below meth c H locs cells slots Q (F0 m pc ls (st.map (mj_rv B b))) := by
  obtain ⟨hx, hb, hml, hown, hts, hK, hB, hbB, hlk, hin⟩ := C
  simp only [mj_step] at hs
  split at hs
  · cases hs
    exact lv_lsub hx hb hd (k _ _ _ _ _ hr)
  · cases hs
theorem mj_s_lmul {r1 r2 r3 r4 r5 : Nat} (C : mj_Ctx p s m args meth c y cc nL B b D dA) (hd : decode cc pc = .ok (.lmul, mj_len (.lmul))) (ho : mj_okS y pc (.lmul) r1 r2 r3 r4 r5 = true) {pc' : Nat} {loc' : mj_L} {st' : List Value} {h' : mj_H} (hs : mj_step (.lmul) r1 r2 r3 mj_new pc loc st h = some (pc', loc', st', h')) (hr : mj_Rel B b D dA s nL n0 s0 loc h ls H locs cells slots)
    (hcl : h'.length ≤ n0 + R.cells) (hsl : mj_sl h' ≤ s0 + R.slots)
    (k : ∀ (ls' : Array Slot) (H' : Heap) (locs' : List Loc) (cells' slots' : Nat), mj_Rel B b D dA s nL n0 s0 loc' h' ls' H' locs' cells' slots' → W p l e R s m args below meth c H' locs' cells' slots' Q (F0 m pc' ls' (st'.map (mj_rv B b)))) :
    W p l e R s m args below meth c H locs cells slots Q (F0 m pc ls (st.map (mj_rv B b))) := by
  obtain ⟨hx, hb, hml, hown, hts, hK, hB, hbB, hlk, hin⟩ := C
  simp only [mj_step] at hs
  split at hs
  · cases hs
    exact lv_lmul hx hb hd (k _ _ _ _ _ hr)
  · cases hs
theorem mj_s_lneg {r1 r2 r3 r4 r5 : Nat} (C : mj_Ctx p s m args meth c y cc nL B b D dA) (hd : decode cc pc = .ok (.lneg, mj_len (.lneg))) (ho : mj_okS y pc (.lneg) r1 r2 r3 r4 r5 = true) {pc' : Nat} {loc' : mj_L} {st' : List Value} {h' : mj_H} (hs : mj_step (.lneg) r1 r2 r3 mj_new pc loc st h = some (pc', loc', st', h')) (hr : mj_Rel B b D dA s nL n0 s0 loc h ls H locs cells slots)
    (hcl : h'.length ≤ n0 + R.cells) (hsl : mj_sl h' ≤ s0 + R.slots)
    (k : ∀ (ls' : Array Slot) (H' : Heap) (locs' : List Loc) (cells' slots' : Nat), mj_Rel B b D dA s nL n0 s0 loc' h' ls' H' locs' cells' slots' → W p l e R s m args below meth c H' locs' cells' slots' Q (F0 m pc' ls' (st'.map (mj_rv B b)))) :
    W p l e R s m args below meth c H locs cells slots Q (F0 m pc ls (st.map (mj_rv B b))) := by
  obtain ⟨hx, hb, hml, hown, hts, hK, hB, hbB, hlk, hin⟩ := C
  simp only [mj_step] at hs
  split at hs
  · cases hs
    exact lv_lneg hx hb hd (k _ _ _ _ _ hr)
  · cases hs
theorem mj_s_land {r1 r2 r3 r4 r5 : Nat} (C : mj_Ctx p s m args meth c y cc nL B b D dA) (hd : decode cc pc = .ok (.land, mj_len (.land))) (ho : mj_okS y pc (.land) r1 r2 r3 r4 r5 = true) {pc' : Nat} {loc' : mj_L} {st' : List Value} {h' : mj_H} (hs : mj_step (.land) r1 r2 r3 mj_new pc loc st h = some (pc', loc', st', h')) (hr : mj_Rel B b D dA s nL n0 s0 loc h ls H locs cells slots)
    (hcl : h'.length ≤ n0 + R.cells) (hsl : mj_sl h' ≤ s0 + R.slots)
    (k : ∀ (ls' : Array Slot) (H' : Heap) (locs' : List Loc) (cells' slots' : Nat), mj_Rel B b D dA s nL n0 s0 loc' h' ls' H' locs' cells' slots' → W p l e R s m args below meth c H' locs' cells' slots' Q (F0 m pc' ls' (st'.map (mj_rv B b)))) :
    W p l e R s m args below meth c H locs cells slots Q (F0 m pc ls (st.map (mj_rv B b))) := by
  obtain ⟨hx, hb, hml, hown, hts, hK, hB, hbB, hlk, hin⟩ := C
  simp only [mj_step] at hs
  split at hs
  · cases hs
    exact lv_land hx hb hd (k _ _ _ _ _ hr)
  · cases hs
theorem mj_s_lor {r1 r2 r3 r4 r5 : Nat} (C : mj_Ctx p s m args meth c y cc nL B b D dA) (hd : decode cc pc = .ok (.lor, mj_len (.lor))) (ho : mj_okS y pc (.lor) r1 r2 r3 r4 r5 = true) {pc' : Nat} {loc' : mj_L} {st' : List Value} {h' : mj_H} (hs : mj_step (.lor) r1 r2 r3 mj_new pc loc st h = some (pc', loc', st', h')) (hr : mj_Rel B b D dA s nL n0 s0 loc h ls H locs cells slots)
    (hcl : h'.length ≤ n0 + R.cells) (hsl : mj_sl h' ≤ s0 + R.slots)
    (k : ∀ (ls' : Array Slot) (H' : Heap) (locs' : List Loc) (cells' slots' : Nat), mj_Rel B b D dA s nL n0 s0 loc' h' ls' H' locs' cells' slots' → W p l e R s m args below meth c H' locs' cells' slots' Q (F0 m pc' ls' (st'.map (mj_rv B b)))) :
    W p l e R s m args below meth c H locs cells slots Q (F0 m pc ls (st.map (mj_rv B b))) := by
  obtain ⟨hx, hb, hml, hown, hts, hK, hB, hbB, hlk, hin⟩ := C
  simp only [mj_step] at hs
  split at hs
  · cases hs
    exact lv_lor hx hb hd (k _ _ _ _ _ hr)
  · cases hs
theorem mj_s_lshl {r1 r2 r3 r4 r5 : Nat} (C : mj_Ctx p s m args meth c y cc nL B b D dA) (hd : decode cc pc = .ok (.lshl, mj_len (.lshl))) (ho : mj_okS y pc (.lshl) r1 r2 r3 r4 r5 = true) {pc' : Nat} {loc' : mj_L} {st' : List Value} {h' : mj_H} (hs : mj_step (.lshl) r1 r2 r3 mj_new pc loc st h = some (pc', loc', st', h')) (hr : mj_Rel B b D dA s nL n0 s0 loc h ls H locs cells slots)
    (hcl : h'.length ≤ n0 + R.cells) (hsl : mj_sl h' ≤ s0 + R.slots)
    (k : ∀ (ls' : Array Slot) (H' : Heap) (locs' : List Loc) (cells' slots' : Nat), mj_Rel B b D dA s nL n0 s0 loc' h' ls' H' locs' cells' slots' → W p l e R s m args below meth c H' locs' cells' slots' Q (F0 m pc' ls' (st'.map (mj_rv B b)))) :
    W p l e R s m args below meth c H locs cells slots Q (F0 m pc ls (st.map (mj_rv B b))) := by
  obtain ⟨hx, hb, hml, hown, hts, hK, hB, hbB, hlk, hin⟩ := C
  simp only [mj_step] at hs
  split at hs
  · cases hs
    exact lv_lshl hx hb hd rfl (k _ _ _ _ _ hr)
  · cases hs
theorem mj_s_lcmp {r1 r2 r3 r4 r5 : Nat} (C : mj_Ctx p s m args meth c y cc nL B b D dA) (hd : decode cc pc = .ok (.lcmp, mj_len (.lcmp))) (ho : mj_okS y pc (.lcmp) r1 r2 r3 r4 r5 = true) {pc' : Nat} {loc' : mj_L} {st' : List Value} {h' : mj_H} (hs : mj_step (.lcmp) r1 r2 r3 mj_new pc loc st h = some (pc', loc', st', h')) (hr : mj_Rel B b D dA s nL n0 s0 loc h ls H locs cells slots)
    (hcl : h'.length ≤ n0 + R.cells) (hsl : mj_sl h' ≤ s0 + R.slots)
    (k : ∀ (ls' : Array Slot) (H' : Heap) (locs' : List Loc) (cells' slots' : Nat), mj_Rel B b D dA s nL n0 s0 loc' h' ls' H' locs' cells' slots' → W p l e R s m args below meth c H' locs' cells' slots' Q (F0 m pc' ls' (st'.map (mj_rv B b)))) :
    W p l e R s m args below meth c H locs cells slots Q (F0 m pc ls (st.map (mj_rv B b))) := by
  obtain ⟨hx, hb, hml, hown, hts, hK, hB, hbB, hlk, hin⟩ := C
  simp only [mj_step] at hs
  split at hs
  · cases hs
    exact W.lcmp hx hb hd (k _ _ _ _ _ hr)
  · cases hs
theorem mj_s_i2l {r1 r2 r3 r4 r5 : Nat} (C : mj_Ctx p s m args meth c y cc nL B b D dA) (hd : decode cc pc = .ok (.i2l, mj_len (.i2l))) (ho : mj_okS y pc (.i2l) r1 r2 r3 r4 r5 = true) {pc' : Nat} {loc' : mj_L} {st' : List Value} {h' : mj_H} (hs : mj_step (.i2l) r1 r2 r3 mj_new pc loc st h = some (pc', loc', st', h')) (hr : mj_Rel B b D dA s nL n0 s0 loc h ls H locs cells slots)
    (hcl : h'.length ≤ n0 + R.cells) (hsl : mj_sl h' ≤ s0 + R.slots)
    (k : ∀ (ls' : Array Slot) (H' : Heap) (locs' : List Loc) (cells' slots' : Nat), mj_Rel B b D dA s nL n0 s0 loc' h' ls' H' locs' cells' slots' → W p l e R s m args below meth c H' locs' cells' slots' Q (F0 m pc' ls' (st'.map (mj_rv B b)))) :
    W p l e R s m args below meth c H locs cells slots Q (F0 m pc ls (st.map (mj_rv B b))) := by
  obtain ⟨hx, hb, hml, hown, hts, hK, hB, hbB, hlk, hin⟩ := C
  simp only [mj_step] at hs
  split at hs
  · cases hs
    exact lv_i2l hx hb hd rfl (k _ _ _ _ _ hr)
  · cases hs
theorem mj_s_l2i {r1 r2 r3 r4 r5 : Nat} (C : mj_Ctx p s m args meth c y cc nL B b D dA) (hd : decode cc pc = .ok (.l2i, mj_len (.l2i))) (ho : mj_okS y pc (.l2i) r1 r2 r3 r4 r5 = true) {pc' : Nat} {loc' : mj_L} {st' : List Value} {h' : mj_H} (hs : mj_step (.l2i) r1 r2 r3 mj_new pc loc st h = some (pc', loc', st', h')) (hr : mj_Rel B b D dA s nL n0 s0 loc h ls H locs cells slots)
    (hcl : h'.length ≤ n0 + R.cells) (hsl : mj_sl h' ≤ s0 + R.slots)
    (k : ∀ (ls' : Array Slot) (H' : Heap) (locs' : List Loc) (cells' slots' : Nat), mj_Rel B b D dA s nL n0 s0 loc' h' ls' H' locs' cells' slots' → W p l e R s m args below meth c H' locs' cells' slots' Q (F0 m pc' ls' (st'.map (mj_rv B b)))) :
    W p l e R s m args below meth c H locs cells slots Q (F0 m pc ls (st.map (mj_rv B b))) := by
  obtain ⟨hx, hb, hml, hown, hts, hK, hB, hbB, hlk, hin⟩ := C
  simp only [mj_step] at hs
  split at hs
  · cases hs
    exact lv_l2i hx hb hd rfl (k _ _ _ _ _ hr)
  · cases hs
theorem mj_s_i2b {r1 r2 r3 r4 r5 : Nat} (C : mj_Ctx p s m args meth c y cc nL B b D dA) (hd : decode cc pc = .ok (.i2b, mj_len (.i2b))) (ho : mj_okS y pc (.i2b) r1 r2 r3 r4 r5 = true) {pc' : Nat} {loc' : mj_L} {st' : List Value} {h' : mj_H} (hs : mj_step (.i2b) r1 r2 r3 mj_new pc loc st h = some (pc', loc', st', h')) (hr : mj_Rel B b D dA s nL n0 s0 loc h ls H locs cells slots)
    (hcl : h'.length ≤ n0 + R.cells) (hsl : mj_sl h' ≤ s0 + R.slots)
    (k : ∀ (ls' : Array Slot) (H' : Heap) (locs' : List Loc) (cells' slots' : Nat), mj_Rel B b D dA s nL n0 s0 loc' h' ls' H' locs' cells' slots' → W p l e R s m args below meth c H' locs' cells' slots' Q (F0 m pc' ls' (st'.map (mj_rv B b)))) :
    W p l e R s m args below meth c H locs cells slots Q (F0 m pc ls (st.map (mj_rv B b))) := by
  obtain ⟨hx, hb, hml, hown, hts, hK, hB, hbB, hlk, hin⟩ := C
  simp only [mj_step] at hs
  split at hs
  · cases hs
    exact lv_i2b hx hb hd rfl (k _ _ _ _ _ hr)
  · cases hs
theorem mj_s_i2f {r1 r2 r3 r4 r5 : Nat} (C : mj_Ctx p s m args meth c y cc nL B b D dA) (hd : decode cc pc = .ok (.i2f, mj_len (.i2f))) (ho : mj_okS y pc (.i2f) r1 r2 r3 r4 r5 = true) {pc' : Nat} {loc' : mj_L} {st' : List Value} {h' : mj_H} (hs : mj_step (.i2f) r1 r2 r3 mj_new pc loc st h = some (pc', loc', st', h')) (hr : mj_Rel B b D dA s nL n0 s0 loc h ls H locs cells slots)
    (hcl : h'.length ≤ n0 + R.cells) (hsl : mj_sl h' ≤ s0 + R.slots)
    (k : ∀ (ls' : Array Slot) (H' : Heap) (locs' : List Loc) (cells' slots' : Nat), mj_Rel B b D dA s nL n0 s0 loc' h' ls' H' locs' cells' slots' → W p l e R s m args below meth c H' locs' cells' slots' Q (F0 m pc' ls' (st'.map (mj_rv B b)))) :
    W p l e R s m args below meth c H locs cells slots Q (F0 m pc ls (st.map (mj_rv B b))) := by
  obtain ⟨hx, hb, hml, hown, hts, hK, hB, hbB, hlk, hin⟩ := C
  simp only [mj_step] at hs
  split at hs
  · cases hs
    exact lv_i2f hx hb hd (k _ _ _ _ _ hr)
  · cases hs
theorem mj_s_i2d {r1 r2 r3 r4 r5 : Nat} (C : mj_Ctx p s m args meth c y cc nL B b D dA) (hd : decode cc pc = .ok (.i2d, mj_len (.i2d))) (ho : mj_okS y pc (.i2d) r1 r2 r3 r4 r5 = true) {pc' : Nat} {loc' : mj_L} {st' : List Value} {h' : mj_H} (hs : mj_step (.i2d) r1 r2 r3 mj_new pc loc st h = some (pc', loc', st', h')) (hr : mj_Rel B b D dA s nL n0 s0 loc h ls H locs cells slots)
    (hcl : h'.length ≤ n0 + R.cells) (hsl : mj_sl h' ≤ s0 + R.slots)
    (k : ∀ (ls' : Array Slot) (H' : Heap) (locs' : List Loc) (cells' slots' : Nat), mj_Rel B b D dA s nL n0 s0 loc' h' ls' H' locs' cells' slots' → W p l e R s m args below meth c H' locs' cells' slots' Q (F0 m pc' ls' (st'.map (mj_rv B b)))) :
    W p l e R s m args below meth c H locs cells slots Q (F0 m pc ls (st.map (mj_rv B b))) := by
  obtain ⟨hx, hb, hml, hown, hts, hK, hB, hbB, hlk, hin⟩ := C
  simp only [mj_step] at hs
  split at hs
  · cases hs
    exact lv_i2d hx hb hd (k _ _ _ _ _ hr)
  · cases hs
theorem mj_s_dcmp {r1 r2 r3 r4 r5 : Nat} {op : CmpOp} (C : mj_Ctx p s m args meth c y cc nL B b D dA) (hd : decode cc pc = .ok (.dcmp op, mj_len (.dcmp op))) (ho : mj_okS y pc (.dcmp op) r1 r2 r3 r4 r5 = true) {pc' : Nat} {loc' : mj_L} {st' : List Value} {h' : mj_H} (hs : mj_step (.dcmp op) r1 r2 r3 mj_new pc loc st h = some (pc', loc', st', h')) (hr : mj_Rel B b D dA s nL n0 s0 loc h ls H locs cells slots)
    (hcl : h'.length ≤ n0 + R.cells) (hsl : mj_sl h' ≤ s0 + R.slots)
    (k : ∀ (ls' : Array Slot) (H' : Heap) (locs' : List Loc) (cells' slots' : Nat), mj_Rel B b D dA s nL n0 s0 loc' h' ls' H' locs' cells' slots' → W p l e R s m args below meth c H' locs' cells' slots' Q (F0 m pc' ls' (st'.map (mj_rv B b)))) :
    W p l e R s m args below meth c H locs cells slots Q (F0 m pc ls (st.map (mj_rv B b))) := by
  obtain ⟨hx, hb, hml, hown, hts, hK, hB, hbB, hlk, hin⟩ := C
  simp only [mj_step] at hs
  split at hs
  · cases hs
    exact lv_dcmp hx hb hd (k _ _ _ _ _ hr)
  · cases hs
theorem mj_s_idiv {r1 r2 r3 r4 r5 : Nat} (C : mj_Ctx p s m args meth c y cc nL B b D dA) (hd : decode cc pc = .ok (.idiv, mj_len (.idiv))) (ho : mj_okS y pc (.idiv) r1 r2 r3 r4 r5 = true) {pc' : Nat} {loc' : mj_L} {st' : List Value} {h' : mj_H} (hs : mj_step (.idiv) r1 r2 r3 mj_new pc loc st h = some (pc', loc', st', h')) (hr : mj_Rel B b D dA s nL n0 s0 loc h ls H locs cells slots)
    (hcl : h'.length ≤ n0 + R.cells) (hsl : mj_sl h' ≤ s0 + R.slots)
    (k : ∀ (ls' : Array Slot) (H' : Heap) (locs' : List Loc) (cells' slots' : Nat), mj_Rel B b D dA s nL n0 s0 loc' h' ls' H' locs' cells' slots' → W p l e R s m args below meth c H' locs' cells' slots' Q (F0 m pc' ls' (st'.map (mj_rv B b)))) :
    W p l e R s m args below meth c H locs cells slots Q (F0 m pc ls (st.map (mj_rv B b))) := by
  obtain ⟨hx, hb, hml, hown, hts, hK, hB, hbB, hlk, hin⟩ := C
  simp only [mj_step] at hs
  split at hs
  · split at hs
    · cases hs
    · rename_i h0
      cases hs
      exact lv_idiv hx hb hd h0 (k _ _ _ _ _ hr)
  · cases hs
theorem mj_s_irem {r1 r2 r3 r4 r5 : Nat} (C : mj_Ctx p s m args meth c y cc nL B b D dA) (hd : decode cc pc = .ok (.irem, mj_len (.irem))) (ho : mj_okS y pc (.irem) r1 r2 r3 r4 r5 = true) {pc' : Nat} {loc' : mj_L} {st' : List Value} {h' : mj_H} (hs : mj_step (.irem) r1 r2 r3 mj_new pc loc st h = some (pc', loc', st', h')) (hr : mj_Rel B b D dA s nL n0 s0 loc h ls H locs cells slots)
    (hcl : h'.length ≤ n0 + R.cells) (hsl : mj_sl h' ≤ s0 + R.slots)
    (k : ∀ (ls' : Array Slot) (H' : Heap) (locs' : List Loc) (cells' slots' : Nat), mj_Rel B b D dA s nL n0 s0 loc' h' ls' H' locs' cells' slots' → W p l e R s m args below meth c H' locs' cells' slots' Q (F0 m pc' ls' (st'.map (mj_rv B b)))) :
    W p l e R s m args below meth c H locs cells slots Q (F0 m pc ls (st.map (mj_rv B b))) := by
  obtain ⟨hx, hb, hml, hown, hts, hK, hB, hbB, hlk, hin⟩ := C
  simp only [mj_step] at hs
  split at hs
  · split at hs
    · cases hs
    · rename_i h0
      cases hs
      exact lv_irem hx hb hd h0 (k _ _ _ _ _ hr)
  · cases hs
theorem mj_s_ldiv {r1 r2 r3 r4 r5 : Nat} (C : mj_Ctx p s m args meth c y cc nL B b D dA) (hd : decode cc pc = .ok (.ldiv, mj_len (.ldiv))) (ho : mj_okS y pc (.ldiv) r1 r2 r3 r4 r5 = true) {pc' : Nat} {loc' : mj_L} {st' : List Value} {h' : mj_H} (hs : mj_step (.ldiv) r1 r2 r3 mj_new pc loc st h = some (pc', loc', st', h')) (hr : mj_Rel B b D dA s nL n0 s0 loc h ls H locs cells slots)
    (hcl : h'.length ≤ n0 + R.cells) (hsl : mj_sl h' ≤ s0 + R.slots)
    (k : ∀ (ls' : Array Slot) (H' : Heap) (locs' : List Loc) (cells' slots' : Nat), mj_Rel B b D dA s nL n0 s0 loc' h' ls' H' locs' cells' slots' → W p l e R s m args below meth c H' locs' cells' slots' Q (F0 m pc' ls' (st'.map (mj_rv B b)))) :
    W p l e R s m args below meth c H locs cells slots Q (F0 m pc ls (st.map (mj_rv B b))) := by
  obtain ⟨hx, hb, hml, hown, hts, hK, hB, hbB, hlk, hin⟩ := C
  simp only [mj_step] at hs
  split at hs
  · split at hs
    · cases hs
    · rename_i h0
      cases hs
      exact lv_ldiv hx hb hd h0 (k _ _ _ _ _ hr)
  · cases hs
theorem mj_s_lrem {r1 r2 r3 r4 r5 : Nat} (C : mj_Ctx p s m args meth c y cc nL B b D dA) (hd : decode cc pc = .ok (.lrem, mj_len (.lrem))) (ho : mj_okS y pc (.lrem) r1 r2 r3 r4 r5 = true) {pc' : Nat} {loc' : mj_L} {st' : List Value} {h' : mj_H} (hs : mj_step (.lrem) r1 r2 r3 mj_new pc loc st h = some (pc', loc', st', h')) (hr : mj_Rel B b D dA s nL n0 s0 loc h ls H locs cells slots)
    (hcl : h'.length ≤ n0 + R.cells) (hsl : mj_sl h' ≤ s0 + R.slots)
    (k : ∀ (ls' : Array Slot) (H' : Heap) (locs' : List Loc) (cells' slots' : Nat), mj_Rel B b D dA s nL n0 s0 loc' h' ls' H' locs' cells' slots' → W p l e R s m args below meth c H' locs' cells' slots' Q (F0 m pc' ls' (st'.map (mj_rv B b)))) :
    W p l e R s m args below meth c H locs cells slots Q (F0 m pc ls (st.map (mj_rv B b))) := by
  obtain ⟨hx, hb, hml, hown, hts, hK, hB, hbB, hlk, hin⟩ := C
  simp only [mj_step] at hs
  split at hs
  · split at hs
    · cases hs
    · rename_i h0
      cases hs
      exact lv_lrem hx hb hd h0 (k _ _ _ _ _ hr)
  · cases hs
theorem mj_s_fdiv {r1 r2 r3 r4 r5 : Nat} (C : mj_Ctx p s m args meth c y cc nL B b D dA) (hd : decode cc pc = .ok (.fdiv, mj_len (.fdiv))) (ho : mj_okS y pc (.fdiv) r1 r2 r3 r4 r5 = true) {pc' : Nat} {loc' : mj_L} {st' : List Value} {h' : mj_H} (hs : mj_step (.fdiv) r1 r2 r3 mj_new pc loc st h = some (pc', loc', st', h')) (hr : mj_Rel B b D dA s nL n0 s0 loc h ls H locs cells slots)
    (hcl : h'.length ≤ n0 + R.cells) (hsl : mj_sl h' ≤ s0 + R.slots)
    (k : ∀ (ls' : Array Slot) (H' : Heap) (locs' : List Loc) (cells' slots' : Nat), mj_Rel B b D dA s nL n0 s0 loc' h' ls' H' locs' cells' slots' → W p l e R s m args below meth c H' locs' cells' slots' Q (F0 m pc' ls' (st'.map (mj_rv B b)))) :
    W p l e R s m args below meth c H locs cells slots Q (F0 m pc ls (st.map (mj_rv B b))) := by
  obtain ⟨hx, hb, hml, hown, hts, hK, hB, hbB, hlk, hin⟩ := C
  simp only [mj_step] at hs
  split at hs
  · split at hs
    · rename_i h0
      cases hs
      exact lv_fdiv hx hb hd h0 (k _ _ _ _ _ hr)
    · cases hs
  · cases hs
theorem mj_s_ddiv {r1 r2 r3 r4 r5 : Nat} (C : mj_Ctx p s m args meth c y cc nL B b D dA) (hd : decode cc pc = .ok (.ddiv, mj_len (.ddiv))) (ho : mj_okS y pc (.ddiv) r1 r2 r3 r4 r5 = true) {pc' : Nat} {loc' : mj_L} {st' : List Value} {h' : mj_H} (hs : mj_step (.ddiv) r1 r2 r3 mj_new pc loc st h = some (pc', loc', st', h')) (hr : mj_Rel B b D dA s nL n0 s0 loc h ls H locs cells slots)
    (hcl : h'.length ≤ n0 + R.cells) (hsl : mj_sl h' ≤ s0 + R.slots)
    (k : ∀ (ls' : Array Slot) (H' : Heap) (locs' : List Loc) (cells' slots' : Nat), mj_Rel B b D dA s nL n0 s0 loc' h' ls' H' locs' cells' slots' → W p l e R s m args below meth c H' locs' cells' slots' Q (F0 m pc' ls' (st'.map (mj_rv B b)))) :
    W p l e R s m args below meth c H locs cells slots Q (F0 m pc ls (st.map (mj_rv B b))) := by
  obtain ⟨hx, hb, hml, hown, hts, hK, hB, hbB, hlk, hin⟩ := C
  simp only [mj_step] at hs
  split at hs
  · split at hs
    · rename_i h0
      cases hs
      exact lv_ddiv hx hb hd h0 (k _ _ _ _ _ hr)
    · cases hs
  · cases hs
theorem mj_s_f2d {r1 r2 r3 r4 r5 : Nat} (C : mj_Ctx p s m args meth c y cc nL B b D dA) (hd : decode cc pc = .ok (.f2d, mj_len (.f2d))) (ho : mj_okS y pc (.f2d) r1 r2 r3 r4 r5 = true) {pc' : Nat} {loc' : mj_L} {st' : List Value} {h' : mj_H} (hs : mj_step (.f2d) r1 r2 r3 mj_new pc loc st h = some (pc', loc', st', h')) (hr : mj_Rel B b D dA s nL n0 s0 loc h ls H locs cells slots)
    (hcl : h'.length ≤ n0 + R.cells) (hsl : mj_sl h' ≤ s0 + R.slots)
    (k : ∀ (ls' : Array Slot) (H' : Heap) (locs' : List Loc) (cells' slots' : Nat), mj_Rel B b D dA s nL n0 s0 loc' h' ls' H' locs' cells' slots' → W p l e R s m args below meth c H' locs' cells' slots' Q (F0 m pc' ls' (st'.map (mj_rv B b)))) :
    W p l e R s m args below meth c H locs cells slots Q (F0 m pc ls (st.map (mj_rv B b))) := by
  obtain ⟨hx, hb, hml, hown, hts, hK, hB, hbB, hlk, hin⟩ := C
  simp only [mj_step] at hs
  split at hs
  · split at hs
    · rename_i h0
      cases hs
      exact lv_f2d hx hb hd h0 (k _ _ _ _ _ hr)
    · cases hs
  · cases hs
theorem mj_s_iconst {r1 r2 r3 r4 r5 : Nat} {n : Int} (C : mj_Ctx p s m args meth c y cc nL B b D dA) (hd : decode cc pc = .ok (.iconst n, mj_len (.iconst n))) (ho : mj_okS y pc (.iconst n) r1 r2 r3 r4 r5 = true) {pc' : Nat} {loc' : mj_L} {st' : List Value} {h' : mj_H} (hs : mj_step (.iconst n) r1 r2 r3 mj_new pc loc st h = some (pc', loc', st', h')) (hr : mj_Rel B b D dA s nL n0 s0 loc h ls H locs cells slots)
    (hcl : h'.length ≤ n0 + R.cells) (hsl : mj_sl h' ≤ s0 + R.slots)
    (k : ∀ (ls' : Array Slot) (H' : Heap) (locs' : List Loc) (cells' slots' : Nat), mj_Rel B b D dA s nL n0 s0 loc' h' ls' H' locs' cells' slots' → W p l e R s m args below meth c H' locs' cells' slots' Q (F0 m pc' ls' (st'.map (mj_rv B b)))) :
    W p l e R s m args below meth c H locs cells slots Q (F0 m pc ls (st.map (mj_rv B b))) := by
  obtain ⟨hx, hb, hml, hown, hts, hK, hB, hbB, hlk, hin⟩ := C
  simp only [mj_step] at hs
  cases hs
  exact lv_iconst hx hb hd rfl (k _ _ _ _ _ hr)
theorem mj_s_lconst {r1 r2 r3 r4 r5 : Nat} {n : Fin 2} (C : mj_Ctx p s m args meth c y cc nL B b D dA) (hd : decode cc pc = .ok (.lconst n, mj_len (.lconst n))) (ho : mj_okS y pc (.lconst n) r1 r2 r3 r4 r5 = true) {pc' : Nat} {loc' : mj_L} {st' : List Value} {h' : mj_H} (hs : mj_step (.lconst n) r1 r2 r3 mj_new pc loc st h = some (pc', loc', st', h')) (hr : mj_Rel B b D dA s nL n0 s0 loc h ls H locs cells slots)
    (hcl : h'.length ≤ n0 + R.cells) (hsl : mj_sl h' ≤ s0 + R.slots)
    (k : ∀ (ls' : Array Slot) (H' : Heap) (locs' : List Loc) (cells' slots' : Nat), mj_Rel B b D dA s nL n0 s0 loc' h' ls' H' locs' cells' slots' → W p l e R s m args below meth c H' locs' cells' slots' Q (F0 m pc' ls' (st'.map (mj_rv B b)))) :
    W p l e R s m args below meth c H locs cells slots Q (F0 m pc ls (st.map (mj_rv B b))) := by
  obtain ⟨hx, hb, hml, hown, hts, hK, hB, hbB, hlk, hin⟩ := C
  simp only [mj_step] at hs
  cases hs
  exact lv_lconst hx hb hd rfl (k _ _ _ _ _ hr)
theorem mj_s_bipush {r1 r2 r3 r4 r5 : Nat} {n : Int} (C : mj_Ctx p s m args meth c y cc nL B b D dA) (hd : decode cc pc = .ok (.bipush n, mj_len (.bipush n))) (ho : mj_okS y pc (.bipush n) r1 r2 r3 r4 r5 = true) {pc' : Nat} {loc' : mj_L} {st' : List Value} {h' : mj_H} (hs : mj_step (.bipush n) r1 r2 r3 mj_new pc loc st h = some (pc', loc', st', h')) (hr : mj_Rel B b D dA s nL n0 s0 loc h ls H locs cells slots)
    (hcl : h'.length ≤ n0 + R.cells) (hsl : mj_sl h' ≤ s0 + R.slots)
    (k : ∀ (ls' : Array Slot) (H' : Heap) (locs' : List Loc) (cells' slots' : Nat), mj_Rel B b D dA s nL n0 s0 loc' h' ls' H' locs' cells' slots' → W p l e R s m args below meth c H' locs' cells' slots' Q (F0 m pc' ls' (st'.map (mj_rv B b)))) :
    W p l e R s m args below meth c H locs cells slots Q (F0 m pc ls (st.map (mj_rv B b))) := by
  obtain ⟨hx, hb, hml, hown, hts, hK, hB, hbB, hlk, hin⟩ := C
  simp only [mj_step] at hs
  cases hs
  exact lv_bipush hx hb hd (of_decide_eq_true ho) (k _ _ _ _ _ hr)
theorem mj_s_sipush {r1 r2 r3 r4 r5 : Nat} {n : Int} (C : mj_Ctx p s m args meth c y cc nL B b D dA) (hd : decode cc pc = .ok (.sipush n, mj_len (.sipush n))) (ho : mj_okS y pc (.sipush n) r1 r2 r3 r4 r5 = true) {pc' : Nat} {loc' : mj_L} {st' : List Value} {h' : mj_H} (hs : mj_step (.sipush n) r1 r2 r3 mj_new pc loc st h = some (pc', loc', st', h')) (hr : mj_Rel B b D dA s nL n0 s0 loc h ls H locs cells slots)
    (hcl : h'.length ≤ n0 + R.cells) (hsl : mj_sl h' ≤ s0 + R.slots)
    (k : ∀ (ls' : Array Slot) (H' : Heap) (locs' : List Loc) (cells' slots' : Nat), mj_Rel B b D dA s nL n0 s0 loc' h' ls' H' locs' cells' slots' → W p l e R s m args below meth c H' locs' cells' slots' Q (F0 m pc' ls' (st'.map (mj_rv B b)))) :
    W p l e R s m args below meth c H locs cells slots Q (F0 m pc ls (st.map (mj_rv B b))) := by
  obtain ⟨hx, hb, hml, hown, hts, hK, hB, hbB, hlk, hin⟩ := C
  simp only [mj_step] at hs
  cases hs
  exact lv_sipush hx hb hd (of_decide_eq_true ho) (k _ _ _ _ _ hr)
theorem mj_s_iload {r1 r2 r3 r4 r5 : Nat} {n : Nat} (C : mj_Ctx p s m args meth c y cc nL B b D dA) (hd : decode cc pc = .ok (.iload n, mj_len (.iload n))) (ho : mj_okS y pc (.iload n) r1 r2 r3 r4 r5 = true) {pc' : Nat} {loc' : mj_L} {st' : List Value} {h' : mj_H} (hs : mj_step (.iload n) r1 r2 r3 mj_new pc loc st h = some (pc', loc', st', h')) (hr : mj_Rel B b D dA s nL n0 s0 loc h ls H locs cells slots)
    (hcl : h'.length ≤ n0 + R.cells) (hsl : mj_sl h' ≤ s0 + R.slots)
    (k : ∀ (ls' : Array Slot) (H' : Heap) (locs' : List Loc) (cells' slots' : Nat), mj_Rel B b D dA s nL n0 s0 loc' h' ls' H' locs' cells' slots' → W p l e R s m args below meth c H' locs' cells' slots' Q (F0 m pc' ls' (st'.map (mj_rv B b)))) :
    W p l e R s m args below meth c H locs cells slots Q (F0 m pc ls (st.map (mj_rv B b))) := by
  obtain ⟨hx, hb, hml, hown, hts, hK, hB, hbB, hlk, hin⟩ := C
  simp only [mj_step] at hs
  obtain ⟨v, hv, he⟩ := Option.map_eq_some_iff.mp hs
  cases he
  obtain ⟨x, rfl, hl⟩ := mj_load1_of hv
  exact lv_iload hx hb hd (hr.2.1.get hl) (k _ _ _ _ _ hr)
theorem mj_s_iload_n {r1 r2 r3 r4 r5 : Nat} {n : Fin 4} (C : mj_Ctx p s m args meth c y cc nL B b D dA) (hd : decode cc pc = .ok (.iload_n n, mj_len (.iload_n n))) (ho : mj_okS y pc (.iload_n n) r1 r2 r3 r4 r5 = true) {pc' : Nat} {loc' : mj_L} {st' : List Value} {h' : mj_H} (hs : mj_step (.iload_n n) r1 r2 r3 mj_new pc loc st h = some (pc', loc', st', h')) (hr : mj_Rel B b D dA s nL n0 s0 loc h ls H locs cells slots)
    (hcl : h'.length ≤ n0 + R.cells) (hsl : mj_sl h' ≤ s0 + R.slots)
    (k : ∀ (ls' : Array Slot) (H' : Heap) (locs' : List Loc) (cells' slots' : Nat), mj_Rel B b D dA s nL n0 s0 loc' h' ls' H' locs' cells' slots' → W p l e R s m args below meth c H' locs' cells' slots' Q (F0 m pc' ls' (st'.map (mj_rv B b)))) :
    W p l e R s m args below meth c H locs cells slots Q (F0 m pc ls (st.map (mj_rv B b))) := by
  obtain ⟨hx, hb, hml, hown, hts, hK, hB, hbB, hlk, hin⟩ := C
  simp only [mj_step] at hs
  obtain ⟨v, hv, he⟩ := Option.map_eq_some_iff.mp hs
  cases he
  obtain ⟨x, rfl, hl⟩ := mj_load1_of hv
  exact lv_iload_n hx hb hd rfl (hr.2.1.get hl) (k _ _ _ _ _ hr)
theorem mj_s_lload {r1 r2 r3 r4 r5 : Nat} {n : Nat} (C : mj_Ctx p s m args meth c y cc nL B b D dA) (hd : decode cc pc = .ok (.lload n, mj_len (.lload n))) (ho : mj_okS y pc (.lload n) r1 r2 r3 r4 r5 = true) {pc' : Nat} {loc' : mj_L} {st' : List Value} {h' : mj_H} (hs : mj_step (.lload n) r1 r2 r3 mj_new pc loc st h = some (pc', loc', st', h')) (hr : mj_Rel B b D dA s nL n0 s0 loc h ls H locs cells slots)
    (hcl : h'.length ≤ n0 + R.cells) (hsl : mj_sl h' ≤ s0 + R.slots)
    (k : ∀ (ls' : Array Slot) (H' : Heap) (locs' : List Loc) (cells' slots' : Nat), mj_Rel B b D dA s nL n0 s0 loc' h' ls' H' locs' cells' slots' → W p l e R s m args below meth c H' locs' cells' slots' Q (F0 m pc' ls' (st'.map (mj_rv B b)))) :
    W p l e R s m args below meth c H locs cells slots Q (F0 m pc ls (st.map (mj_rv B b))) := by
  obtain ⟨hx, hb, hml, hown, hts, hK, hB, hbB, hlk, hin⟩ := C
  simp only [mj_step] at hs
  obtain ⟨v, hv, he⟩ := Option.map_eq_some_iff.mp hs
  cases he
  obtain ⟨x, rfl, hl⟩ := mj_loadL_of hv
  exact lv_lload hx hb hd (hr.2.1.get hl) (k _ _ _ _ _ hr)
theorem mj_s_lload_n {r1 r2 r3 r4 r5 : Nat} {n : Fin 4} (C : mj_Ctx p s m args meth c y cc nL B b D dA) (hd : decode cc pc = .ok (.lload_n n, mj_len (.lload_n n))) (ho : mj_okS y pc (.lload_n n) r1 r2 r3 r4 r5 = true) {pc' : Nat} {loc' : mj_L} {st' : List Value} {h' : mj_H} (hs : mj_step (.lload_n n) r1 r2 r3 mj_new pc loc st h = some (pc', loc', st', h')) (hr : mj_Rel B b D dA s nL n0 s0 loc h ls H locs cells slots)
    (hcl : h'.length ≤ n0 + R.cells) (hsl : mj_sl h' ≤ s0 + R.slots)
    (k : ∀ (ls' : Array Slot) (H' : Heap) (locs' : List Loc) (cells' slots' : Nat), mj_Rel B b D dA s nL n0 s0 loc' h' ls' H' locs' cells' slots' → W p l e R s m args below meth c H' locs' cells' slots' Q (F0 m pc' ls' (st'.map (mj_rv B b)))) :
    W p l e R s m args below meth c H locs cells slots Q (F0 m pc ls (st.map (mj_rv B b))) := by
  obtain ⟨hx, hb, hml, hown, hts, hK, hB, hbB, hlk, hin⟩ := C
  simp only [mj_step] at hs
  obtain ⟨v, hv, he⟩ := Option.map_eq_some_iff.mp hs
  cases he
  obtain ⟨x, rfl, hl⟩ := mj_loadL_of hv
  exact lv_lload_n hx hb hd rfl (hr.2.1.get hl) (k _ _ _ _ _ hr)
theorem mj_s_dload {r1 r2 r3 r4 r5 : Nat} {n : Nat} (C : mj_Ctx p s m args meth c y cc nL B b D dA) (hd : decode cc pc = .ok (.dload n, mj_len (.dload n))) (ho : mj_okS y pc (.dload n) r1 r2 r3 r4 r5 = true) {pc' : Nat} {loc' : mj_L} {st' : List Value} {h' : mj_H} (hs : mj_step (.dload n) r1 r2 r3 mj_new pc loc st h = some (pc', loc', st', h')) (hr : mj_Rel B b D dA s nL n0 s0 loc h ls H locs cells slots)
    (hcl : h'.length ≤ n0 + R.cells) (hsl : mj_sl h' ≤ s0 + R.slots)
    (k : ∀ (ls' : Array Slot) (H' : Heap) (locs' : List Loc) (cells' slots' : Nat), mj_Rel B b D dA s nL n0 s0 loc' h' ls' H' locs' cells' slots' → W p l e R s m args below meth c H' locs' cells' slots' Q (F0 m pc' ls' (st'.map (mj_rv B b)))) :
    W p l e R s m args below meth c H locs cells slots Q (F0 m pc ls (st.map (mj_rv B b))) := by
  obtain ⟨hx, hb, hml, hown, hts, hK, hB, hbB, hlk, hin⟩ := C
  simp only [mj_step] at hs
  obtain ⟨v, hv, he⟩ := Option.map_eq_some_iff.mp hs
  cases he
  obtain ⟨x, rfl, hl⟩ := mj_loadD_of hv
  exact lv_dload hx hb hd (hr.2.1.get hl) (k _ _ _ _ _ hr)
theorem mj_s_dload_n {r1 r2 r3 r4 r5 : Nat} {n : Fin 4} (C : mj_Ctx p s m args meth c y cc nL B b D dA) (hd : decode cc pc = .ok (.dload_n n, mj_len (.dload_n n))) (ho : mj_okS y pc (.dload_n n) r1 r2 r3 r4 r5 = true) {pc' : Nat} {loc' : mj_L} {st' : List Value} {h' : mj_H} (hs : mj_step (.dload_n n) r1 r2 r3 mj_new pc loc st h = some (pc', loc', st', h')) (hr : mj_Rel B b D dA s nL n0 s0 loc h ls H locs cells slots)
    (hcl : h'.length ≤ n0 + R.cells) (hsl : mj_sl h' ≤ s0 + R.slots)
    (k : ∀ (ls' : Array Slot) (H' : Heap) (locs' : List Loc) (cells' slots' : Nat), mj_Rel B b D dA s nL n0 s0 loc' h' ls' H' locs' cells' slots' → W p l e R s m args below meth c H' locs' cells' slots' Q (F0 m pc' ls' (st'.map (mj_rv B b)))) :
    W p l e R s m args below meth c H locs cells slots Q (F0 m pc ls (st.map (mj_rv B b))) := by
  obtain ⟨hx, hb, hml, hown, hts, hK, hB, hbB, hlk, hin⟩ := C
  simp only [mj_step] at hs
  obtain ⟨v, hv, he⟩ := Option.map_eq_some_iff.mp hs
  cases he
  obtain ⟨x, rfl, hl⟩ := mj_loadD_of hv
  exact lv_dload_n hx hb hd rfl (hr.2.1.get hl) (k _ _ _ _ _ hr)
theorem mj_s_aload {r1 r2 r3 r4 r5 : Nat} {n : Nat} (C : mj_Ctx p s m args meth c y cc nL B b D dA) (hd : decode cc pc = .ok (.aload n, mj_len (.aload n))) (ho : mj_okS y pc (.aload n) r1 r2 r3 r4 r5 = true) {pc' : Nat} {loc' : mj_L} {st' : List Value} {h' : mj_H} (hs : mj_step (.aload n) r1 r2 r3 mj_new pc loc st h = some (pc', loc', st', h')) (hr : mj_Rel B b D dA s nL n0 s0 loc h ls H locs cells slots)
    (hcl : h'.length ≤ n0 + R.cells) (hsl : mj_sl h' ≤ s0 + R.slots)
    (k : ∀ (ls' : Array Slot) (H' : Heap) (locs' : List Loc) (cells' slots' : Nat), mj_Rel B b D dA s nL n0 s0 loc' h' ls' H' locs' cells' slots' → W p l e R s m args below meth c H' locs' cells' slots' Q (F0 m pc' ls' (st'.map (mj_rv B b)))) :
    W p l e R s m args below meth c H locs cells slots Q (F0 m pc ls (st.map (mj_rv B b))) := by
  obtain ⟨hx, hb, hml, hown, hts, hK, hB, hbB, hlk, hin⟩ := C
  simp only [mj_step] at hs
  obtain ⟨v, hv, he⟩ := Option.map_eq_some_iff.mp hs
  cases he
  obtain ⟨x, rfl, hl⟩ := mj_loadA_of hv
  exact lv_aload hx hb hd (hr.2.1.get hl) (k _ _ _ _ _ hr)
theorem mj_s_aload_n {r1 r2 r3 r4 r5 : Nat} {n : Fin 4} (C : mj_Ctx p s m args meth c y cc nL B b D dA) (hd : decode cc pc = .ok (.aload_n n, mj_len (.aload_n n))) (ho : mj_okS y pc (.aload_n n) r1 r2 r3 r4 r5 = true) {pc' : Nat} {loc' : mj_L} {st' : List Value} {h' : mj_H} (hs : mj_step (.aload_n n) r1 r2 r3 mj_new pc loc st h = some (pc', loc', st', h')) (hr : mj_Rel B b D dA s nL n0 s0 loc h ls H locs cells slots)
    (hcl : h'.length ≤ n0 + R.cells) (hsl : mj_sl h' ≤ s0 + R.slots)
    (k : ∀ (ls' : Array Slot) (H' : Heap) (locs' : List Loc) (cells' slots' : Nat), mj_Rel B b D dA s nL n0 s0 loc' h' ls' H' locs' cells' slots' → W p l e R s m args below meth c H' locs' cells' slots' Q (F0 m pc' ls' (st'.map (mj_rv B b)))) :
    W p l e R s m args below meth c H locs cells slots Q (F0 m pc ls (st.map (mj_rv B b))) := by
  obtain ⟨hx, hb, hml, hown, hts, hK, hB, hbB, hlk, hin⟩ := C
  simp only [mj_step] at hs
  obtain ⟨v, hv, he⟩ := Option.map_eq_some_iff.mp hs
  cases he
  obtain ⟨x, rfl, hl⟩ := mj_loadA_of hv
  exact lv_aload_n hx hb hd rfl (hr.2.1.get hl) (k _ _ _ _ _ hr)
theorem mj_s_istore {r1 r2 r3 r4 r5 : Nat} {n : Nat} (C : mj_Ctx p s m args meth c y cc nL B b D dA) (hd : decode cc pc = .ok (.istore n, mj_len (.istore n))) (ho : mj_okS y pc (.istore n) r1 r2 r3 r4 r5 = true) {pc' : Nat} {loc' : mj_L} {st' : List Value} {h' : mj_H} (hs : mj_step (.istore n) r1 r2 r3 mj_new pc loc st h = some (pc', loc', st', h')) (hr : mj_Rel B b D dA s nL n0 s0 loc h ls H locs cells slots)
    (hcl : h'.length ≤ n0 + R.cells) (hsl : mj_sl h' ≤ s0 + R.slots)
    (k : ∀ (ls' : Array Slot) (H' : Heap) (locs' : List Loc) (cells' slots' : Nat), mj_Rel B b D dA s nL n0 s0 loc' h' ls' H' locs' cells' slots' → W p l e R s m args below meth c H' locs' cells' slots' Q (F0 m pc' ls' (st'.map (mj_rv B b)))) :
    W p l e R s m args below meth c H locs cells slots Q (F0 m pc ls (st.map (mj_rv B b))) := by
  obtain ⟨hx, hb, hml, hown, hts, hK, hB, hbB, hlk, hin⟩ := C
  simp only [mj_step] at hs
  split at hs
  · split at hs
    · rename_i h0
      cases hs
      exact lv_istore hx hb hd hr.2.1.has (by rw [← hr.2.1.2.1]; exact h0) rfl (fun ls' hl' => k _ _ _ _ _ (hr.ofL (hr.2.1.st1 rfl hl')))
    · cases hs
  · cases hs
theorem mj_s_istore_n {r1 r2 r3 r4 r5 : Nat} {n : Fin 4} (C : mj_Ctx p s m args meth c y cc nL B b D dA) (hd : decode cc pc = .ok (.istore_n n, mj_len (.istore_n n))) (ho : mj_okS y pc (.istore_n n) r1 r2 r3 r4 r5 = true) {pc' : Nat} {loc' : mj_L} {st' : List Value} {h' : mj_H} (hs : mj_step (.istore_n n) r1 r2 r3 mj_new pc loc st h = some (pc', loc', st', h')) (hr : mj_Rel B b D dA s nL n0 s0 loc h ls H locs cells slots)
    (hcl : h'.length ≤ n0 + R.cells) (hsl : mj_sl h' ≤ s0 + R.slots)
    (k : ∀ (ls' : Array Slot) (H' : Heap) (locs' : List Loc) (cells' slots' : Nat), mj_Rel B b D dA s nL n0 s0 loc' h' ls' H' locs' cells' slots' → W p l e R s m args below meth c H' locs' cells' slots' Q (F0 m pc' ls' (st'.map (mj_rv B b)))) :
    W p l e R s m args below meth c H locs cells slots Q (F0 m pc ls (st.map (mj_rv B b))) := by
  obtain ⟨hx, hb, hml, hown, hts, hK, hB, hbB, hlk, hin⟩ := C
  simp only [mj_step] at hs
  split at hs
  · split at hs
    · rename_i h0
      cases hs
      exact lv_istore_n hx hb hd rfl hr.2.1.has (by rw [← hr.2.1.2.1]; exact h0) rfl (fun ls' hl' => k _ _ _ _ _ (hr.ofL (hr.2.1.st1 rfl hl')))
    · cases hs
  · cases hs
theorem mj_s_astore {r1 r2 r3 r4 r5 : Nat} {n : Nat} (C : mj_Ctx p s m args meth c y cc nL B b D dA) (hd : decode cc pc = .ok (.astore n, mj_len (.astore n))) (ho : mj_okS y pc (.astore n) r1 r2 r3 r4 r5 = true) {pc' : Nat} {loc' : mj_L} {st' : List Value} {h' : mj_H} (hs : mj_step (.astore n) r1 r2 r3 mj_new pc loc st h = some (pc', loc', st', h')) (hr : mj_Rel B b D dA s nL n0 s0 loc h ls H locs cells slots)
    (hcl : h'.length ≤ n0 + R.cells) (hsl : mj_sl h' ≤ s0 + R.slots)
    (k : ∀ (ls' : Array Slot) (H' : Heap) (locs' : List Loc) (cells' slots' : Nat), mj_Rel B b D dA s nL n0 s0 loc' h' ls' H' locs' cells' slots' → W p l e R s m args below meth c H' locs' cells' slots' Q (F0 m pc' ls' (st'.map (mj_rv B b)))) :
    W p l e R s m args below meth c H locs cells slots Q (F0 m pc ls (st.map (mj_rv B b))) := by
  obtain ⟨hx, hb, hml, hown, hts, hK, hB, hbB, hlk, hin⟩ := C
  simp only [mj_step] at hs
  split at hs
  · split at hs
    · rename_i h0
      cases hs
      exact lv_astore hx hb hd hr.2.1.has (by rw [← hr.2.1.2.1]; exact h0) rfl (fun ls' hl' => k _ _ _ _ _ (hr.ofL (hr.2.1.st1 rfl hl')))
    · cases hs
  · cases hs
theorem mj_s_astore_n {r1 r2 r3 r4 r5 : Nat} {n : Fin 4} (C : mj_Ctx p s m args meth c y cc nL B b D dA) (hd : decode cc pc = .ok (.astore_n n, mj_len (.astore_n n))) (ho : mj_okS y pc (.astore_n n) r1 r2 r3 r4 r5 = true) {pc' : Nat} {loc' : mj_L} {st' : List Value} {h' : mj_H} (hs : mj_step (.astore_n n) r1 r2 r3 mj_new pc loc st h = some (pc', loc', st', h')) (hr : mj_Rel B b D dA s nL n0 s0 loc h ls H locs cells slots)
    (hcl : h'.length ≤ n0 + R.cells) (hsl : mj_sl h' ≤ s0 + R.slots)
    (k : ∀ (ls' : Array Slot) (H' : Heap) (locs' : List Loc) (cells' slots' : Nat), mj_Rel B b D dA s nL n0 s0 loc' h' ls' H' locs' cells' slots' → W p l e R s m args below meth c H' locs' cells' slots' Q (F0 m pc' ls' (st'.map (mj_rv B b)))) :
    W p l e R s m args below meth c H locs cells slots Q (F0 m pc ls (st.map (mj_rv B b))) := by
  obtain ⟨hx, hb, hml, hown, hts, hK, hB, hbB, hlk, hin⟩ := C
  simp only [mj_step] at hs
  split at hs
  · split at hs
    · rename_i h0
      cases hs
      exact lv_astore_n hx hb hd rfl hr.2.1.has (by rw [← hr.2.1.2.1]; exact h0) rfl (fun ls' hl' => k _ _ _ _ _ (hr.ofL (hr.2.1.st1 rfl hl')))
    · cases hs
  · cases hs
theorem mj_s_lstore {r1 r2 r3 r4 r5 : Nat} {n : Nat} (C : mj_Ctx p s m args meth c y cc nL B b D dA) (hd : decode cc pc = .ok (.lstore n, mj_len (.lstore n))) (ho : mj_okS y pc (.lstore n) r1 r2 r3 r4 r5 = true) {pc' : Nat} {loc' : mj_L} {st' : List Value} {h' : mj_H} (hs : mj_step (.lstore n) r1 r2 r3 mj_new pc loc st h = some (pc', loc', st', h')) (hr : mj_Rel B b D dA s nL n0 s0 loc h ls H locs cells slots)
    (hcl : h'.length ≤ n0 + R.cells) (hsl : mj_sl h' ≤ s0 + R.slots)
    (k : ∀ (ls' : Array Slot) (H' : Heap) (locs' : List Loc) (cells' slots' : Nat), mj_Rel B b D dA s nL n0 s0 loc' h' ls' H' locs' cells' slots' → W p l e R s m args below meth c H' locs' cells' slots' Q (F0 m pc' ls' (st'.map (mj_rv B b)))) :
    W p l e R s m args below meth c H locs cells slots Q (F0 m pc ls (st.map (mj_rv B b))) := by
  obtain ⟨hx, hb, hml, hown, hts, hK, hB, hbB, hlk, hin⟩ := C
  simp only [mj_step] at hs
  split at hs
  · split at hs
    · rename_i h0
      cases hs
      exact lv_lstore hx hb hd hr.2.1.has (by rw [← hr.2.1.2.1]; exact h0) rfl (fun ls' hl' => k _ _ _ _ _ (hr.ofL (hr.2.1.st2 rfl hl')))
    · cases hs
  · cases hs
theorem mj_s_lstore_n {r1 r2 r3 r4 r5 : Nat} {n : Fin 4} (C : mj_Ctx p s m args meth c y cc nL B b D dA) (hd : decode cc pc = .ok (.lstore_n n, mj_len (.lstore_n n))) (ho : mj_okS y pc (.lstore_n n) r1 r2 r3 r4 r5 = true) {pc' : Nat} {loc' : mj_L} {st' : List Value} {h' : mj_H} (hs : mj_step (.lstore_n n) r1 r2 r3 mj_new pc loc st h = some (pc', loc', st', h')) (hr : mj_Rel B b D dA s nL n0 s0 loc h ls H locs cells slots)
    (hcl : h'.length ≤ n0 + R.cells) (hsl : mj_sl h' ≤ s0 + R.slots)
    (k : ∀ (ls' : Array Slot) (H' : Heap) (locs' : List Loc) (cells' slots' : Nat), mj_Rel B b D dA s nL n0 s0 loc' h' ls' H' locs' cells' slots' → W p l e R s m args below meth c H' locs' cells' slots' Q (F0 m pc' ls' (st'.map (mj_rv B b)))) :
    W p l e R s m args below meth c H locs cells slots Q (F0 m pc ls (st.map (mj_rv B b))) := by
  obtain ⟨hx, hb, hml, hown, hts, hK, hB, hbB, hlk, hin⟩ := C
  simp only [mj_step] at hs
  split at hs
  · split at hs
    · rename_i h0
      cases hs
      exact lv_lstore_n hx hb hd rfl hr.2.1.has (by rw [← hr.2.1.2.1]; exact h0) rfl (fun ls' hl' => k _ _ _ _ _ (hr.ofL (hr.2.1.st2 rfl hl')))
    · cases hs
  · cases hs
theorem mj_s_dstore {r1 r2 r3 r4 r5 : Nat} {n : Nat} (C : mj_Ctx p s m args meth c y cc nL B b D dA) (hd : decode cc pc = .ok (.dstore n, mj_len (.dstore n))) (ho : mj_okS y pc (.dstore n) r1 r2 r3 r4 r5 = true) {pc' : Nat} {loc' : mj_L} {st' : List Value} {h' : mj_H} (hs : mj_step (.dstore n) r1 r2 r3 mj_new pc loc st h = some (pc', loc', st', h')) (hr : mj_Rel B b D dA s nL n0 s0 loc h ls H locs cells slots)
    (hcl : h'.length ≤ n0 + R.cells) (hsl : mj_sl h' ≤ s0 + R.slots)
    (k : ∀ (ls' : Array Slot) (H' : Heap) (locs' : List Loc) (cells' slots' : Nat), mj_Rel B b D dA s nL n0 s0 loc' h' ls' H' locs' cells' slots' → W p l e R s m args below meth c H' locs' cells' slots' Q (F0 m pc' ls' (st'.map (mj_rv B b)))) :
    W p l e R s m args below meth c H locs cells slots Q (F0 m pc ls (st.map (mj_rv B b))) := by
  obtain ⟨hx, hb, hml, hown, hts, hK, hB, hbB, hlk, hin⟩ := C
  simp only [mj_step] at hs
  split at hs
  · split at hs
    · rename_i h0
      cases hs
      exact lv_dstore hx hb hd hr.2.1.has (by rw [← hr.2.1.2.1]; exact h0) rfl (fun ls' hl' => k _ _ _ _ _ (hr.ofL (hr.2.1.st2 rfl hl')))
    · cases hs
  · cases hs
theorem mj_s_dstore_n {r1 r2 r3 r4 r5 : Nat} {n : Fin 4} (C : mj_Ctx p s m args meth c y cc nL B b D dA) (hd : decode cc pc = .ok (.dstore_n n, mj_len (.dstore_n n))) (ho : mj_okS y pc (.dstore_n n) r1 r2 r3 r4 r5 = true) {pc' : Nat} {loc' : mj_L} {st' : List Value} {h' : mj_H} (hs : mj_step (.dstore_n n) r1 r2 r3 mj_new pc loc st h = some (pc', loc', st', h')) (hr : mj_Rel B b D dA s nL n0 s0 loc h ls H locs cells slots)
    (hcl : h'.length ≤ n0 + R.cells) (hsl : mj_sl h' ≤ s0 + R.slots)
    (k : ∀ (ls' : Array Slot) (H' : Heap) (locs' : List Loc) (cells' slots' : Nat), mj_Rel B b D dA s nL n0 s0 loc' h' ls' H' locs' cells' slots' → W p l e R s m args below meth c H' locs' cells' slots' Q (F0 m pc' ls' (st'.map (mj_rv B b)))) :
    W p l e R s m args below meth c H locs cells slots Q (F0 m pc ls (st.map (mj_rv B b))) := by
  obtain ⟨hx, hb, hml, hown, hts, hK, hB, hbB, hlk, hin⟩ := C
  simp only [mj_step] at hs
  split at hs
  · split at hs
    · rename_i h0
      cases hs
      exact lv_dstore_n hx hb hd rfl hr.2.1.has (by rw [← hr.2.1.2.1]; exact h0) rfl (fun ls' hl' => k _ _ _ _ _ (hr.ofL (hr.2.1.st2 rfl hl')))
    · cases hs
  · cases hs
theorem mj_s_iinc {r1 r2 r3 r4 r5 : Nat} {n : Nat} {z : Int} (C : mj_Ctx p s m args meth c y cc nL B b D dA) (hd : decode cc pc = .ok (.iinc n z, mj_len (.iinc n z))) (ho : mj_okS y pc (.iinc n z) r1 r2 r3 r4 r5 = true) {pc' : Nat} {loc' : mj_L} {st' : List Value} {h' : mj_H} (hs : mj_step (.iinc n z) r1 r2 r3 mj_new pc loc st h = some (pc', loc', st', h')) (hr : mj_Rel B b D dA s nL n0 s0 loc h ls H locs cells slots)
    (hcl : h'.length ≤ n0 + R.cells) (hsl : mj_sl h' ≤ s0 + R.slots)
    (k : ∀ (ls' : Array Slot) (H' : Heap) (locs' : List Loc) (cells' slots' : Nat), mj_Rel B b D dA s nL n0 s0 loc' h' ls' H' locs' cells' slots' → W p l e R s m args below meth c H' locs' cells' slots' Q (F0 m pc' ls' (st'.map (mj_rv B b)))) :
    W p l e R s m args below meth c H locs cells slots Q (F0 m pc ls (st.map (mj_rv B b))) := by
  obtain ⟨hx, hb, hml, hown, hts, hK, hB, hbB, hlk, hin⟩ := C
  simp only [mj_step] at hs
  split at hs
  · rename_i x hx2
    cases hs
    obtain ⟨k0, hk0⟩ := List.getElem?_of_mem (mj_lv_mem (B := B) (b := b) hx2)
    exact lv_iinc hx hb hd hr.2.1.has hk0 rfl (by rw [← hr.2.1.2.1]; exact (List.getElem?_eq_some_iff.mp hx2).1) rfl (fun ls' hl' => k _ _ _ _ _ (hr.ofL (hr.2.1.st1 rfl hl')))
  · cases hs
theorem mj_s_goto {r1 r2 r3 r4 r5 : Nat} {off : Int} (C : mj_Ctx p s m args meth c y cc nL B b D dA) (hd : decode cc pc = .ok (.goto off, mj_len (.goto off))) (ho : mj_okS y pc (.goto off) r1 r2 r3 r4 r5 = true) {pc' : Nat} {loc' : mj_L} {st' : List Value} {h' : mj_H} (hs : mj_step (.goto off) r1 r2 r3 mj_new pc loc st h = some (pc', loc', st', h')) (hr : mj_Rel B b D dA s nL n0 s0 loc h ls H locs cells slots)
    (hcl : h'.length ≤ n0 + R.cells) (hsl : mj_sl h' ≤ s0 + R.slots)
    (k : ∀ (ls' : Array Slot) (H' : Heap) (locs' : List Loc) (cells' slots' : Nat), mj_Rel B b D dA s nL n0 s0 loc' h' ls' H' locs' cells' slots' → W p l e R s m args below meth c H' locs' cells' slots' Q (F0 m pc' ls' (st'.map (mj_rv B b)))) :
    W p l e R s m args below meth c H locs cells slots Q (F0 m pc ls (st.map (mj_rv B b))) := by
  obtain ⟨hx, hb, hml, hown, hts, hK, hB, hbB, hlk, hin⟩ := C
  simp only [mj_step] at hs
  cases hs
  exact lv_goto hx hb hd (of_decide_eq_true ho) (k _ _ _ _ _ hr)
theorem mj_s_ifCond {r1 r2 r3 r4 r5 : Nat} {cd : ClassFile.Cond} {off : Int} (C : mj_Ctx p s m args meth c y cc nL B b D dA) (hd : decode cc pc = .ok (.ifCond cd off, mj_len (.ifCond cd off))) (ho : mj_okS y pc (.ifCond cd off) r1 r2 r3 r4 r5 = true) {pc' : Nat} {loc' : mj_L} {st' : List Value} {h' : mj_H} (hs : mj_step (.ifCond cd off) r1 r2 r3 mj_new pc loc st h = some (pc', loc', st', h')) (hr : mj_Rel B b D dA s nL n0 s0 loc h ls H locs cells slots)
    (hcl : h'.length ≤ n0 + R.cells) (hsl : mj_sl h' ≤ s0 + R.slots)
    (k : ∀ (ls' : Array Slot) (H' : Heap) (locs' : List Loc) (cells' slots' : Nat), mj_Rel B b D dA s nL n0 s0 loc' h' ls' H' locs' cells' slots' → W p l e R s m args below meth c H' locs' cells' slots' Q (F0 m pc' ls' (st'.map (mj_rv B b)))) :
    W p l e R s m args below meth c H locs cells slots Q (F0 m pc ls (st.map (mj_rv B b))) := by
  obtain ⟨hx, hb, hml, hown, hts, hK, hB, hbB, hlk, hin⟩ := C
  simp only [mj_step] at hs
  split at hs
  · cases hs
    have ho2 : (pc : Int) + off = (r1 : Int) := of_decide_eq_true ho
    cases cd
    · refine lv_if_eq hx hb hd ho2 (fun hc => ?_) (fun hc => ?_)
      · have k := k _ _ _ _ _ hr
        rw [if_pos (by simp [mj_cnd]; first | exact hc | simpa using hc)] at k
        exact k
      · have k := k _ _ _ _ _ hr
        rw [if_neg (by simp [mj_cnd]; first | exact hc | simpa using hc)] at k
        exact k
    · refine lv_if_ne hx hb hd ho2 (fun hc => ?_) (fun hc => ?_)
      · have k := k _ _ _ _ _ hr
        rw [if_pos (by simp [mj_cnd]; first | exact hc | simpa using hc)] at k
        exact k
      · have k := k _ _ _ _ _ hr
        rw [if_neg (by simp [mj_cnd]; first | exact hc | simpa using hc)] at k
        exact k
    · refine lv_if_lt hx hb hd ho2 (fun hc => ?_) (fun hc => ?_)
      · have k := k _ _ _ _ _ hr
        rw [if_pos (by simp [mj_cnd]; first | exact hc | simpa using hc)] at k
        exact k
      · have k := k _ _ _ _ _ hr
        rw [if_neg (by simp [mj_cnd]; first | exact hc | simpa using hc)] at k
        exact k
    · refine lv_if_ge hx hb hd ho2 (fun hc => ?_) (fun hc => ?_)
      · have k := k _ _ _ _ _ hr
        rw [if_pos (by simp [mj_cnd]; first | exact hc | simpa using hc)] at k
        exact k
      · have k := k _ _ _ _ _ hr
        rw [if_neg (by simp [mj_cnd]; first | exact hc | simpa using hc)] at k
        exact k
    · refine lv_if_gt hx hb hd ho2 (fun hc => ?_) (fun hc => ?_)
      · have k := k _ _ _ _ _ hr
        rw [if_pos (by simp [mj_cnd]; first | exact hc | simpa using hc)] at k
        exact k
      · have k := k _ _ _ _ _ hr
        rw [if_neg (by simp [mj_cnd]; first | exact hc | simpa using hc)] at k
        exact k
    · refine lv_if_le hx hb hd ho2 (fun hc => ?_) (fun hc => ?_)
      · have k := k _ _ _ _ _ hr
        rw [if_pos (by simp [mj_cnd]; first | exact hc | simpa using hc)] at k
        exact k
      · have k := k _ _ _ _ _ hr
        rw [if_neg (by simp [mj_cnd]; first | exact hc | simpa using hc)] at k
        exact k
  · cases hs
theorem mj_s_if_icmp {r1 r2 r3 r4 r5 : Nat} {cd : ClassFile.Cond} {off : Int} (C : mj_Ctx p s m args meth c y cc nL B b D dA) (hd : decode cc pc = .ok (.if_icmp cd off, mj_len (.if_icmp cd off))) (ho : mj_okS y pc (.if_icmp cd off) r1 r2 r3 r4 r5 = true) {pc' : Nat} {loc' : mj_L} {st' : List Value} {h' : mj_H} (hs : mj_step (.if_icmp cd off) r1 r2 r3 mj_new pc loc st h = some (pc', loc', st', h')) (hr : mj_Rel B b D dA s nL n0 s0 loc h ls H locs cells slots)
    (hcl : h'.length ≤ n0 + R.cells) (hsl : mj_sl h' ≤ s0 + R.slots)
    (k : ∀ (ls' : Array Slot) (H' : Heap) (locs' : List Loc) (cells' slots' : Nat), mj_Rel B b D dA s nL n0 s0 loc' h' ls' H' locs' cells' slots' → W p l e R s m args below meth c H' locs' cells' slots' Q (F0 m pc' ls' (st'.map (mj_rv B b)))) :
    W p l e R s m args below meth c H locs cells slots Q (F0 m pc ls (st.map (mj_rv B b))) := by
  obtain ⟨hx, hb, hml, hown, hts, hK, hB, hbB, hlk, hin⟩ := C
  simp only [mj_step] at hs
  split at hs
  · cases hs
    have ho2 : (pc : Int) + off = (r1 : Int) := of_decide_eq_true ho
    cases cd
    · refine lv_icmp_eq hx hb hd ho2 (fun hc => ?_) (fun hc => ?_)
      · have k := k _ _ _ _ _ hr
        rw [if_pos (by simp [mj_cnd]; first | exact hc | simpa using hc)] at k
        exact k
      · have k := k _ _ _ _ _ hr
        rw [if_neg (by simp [mj_cnd]; first | exact hc | simpa using hc)] at k
        exact k
    · refine lv_icmp_ne hx hb hd ho2 (fun hc => ?_) (fun hc => ?_)
      · have k := k _ _ _ _ _ hr
        rw [if_pos (by simp [mj_cnd]; first | exact hc | simpa using hc)] at k
        exact k
      · have k := k _ _ _ _ _ hr
        rw [if_neg (by simp [mj_cnd]; first | exact hc | simpa using hc)] at k
        exact k
    · refine lv_icmp_lt hx hb hd ho2 (fun hc => ?_) (fun hc => ?_)
      · have k := k _ _ _ _ _ hr
        rw [if_pos (by simp [mj_cnd]; first | exact hc | simpa using hc)] at k
        exact k
      · have k := k _ _ _ _ _ hr
        rw [if_neg (by simp [mj_cnd]; first | exact hc | simpa using hc)] at k
        exact k
    · refine lv_icmp_ge hx hb hd ho2 (fun hc => ?_) (fun hc => ?_)
      · have k := k _ _ _ _ _ hr
        rw [if_pos (by simp [mj_cnd]; first | exact hc | simpa using hc)] at k
        exact k
      · have k := k _ _ _ _ _ hr
        rw [if_neg (by simp [mj_cnd]; first | exact hc | simpa using hc)] at k
        exact k
    · refine lv_icmp_gt hx hb hd ho2 (fun hc => ?_) (fun hc => ?_)
      · have k := k _ _ _ _ _ hr
        rw [if_pos (by simp [mj_cnd]; first | exact hc | simpa using hc)] at k
        exact k
      · have k := k _ _ _ _ _ hr
        rw [if_neg (by simp [mj_cnd]; first | exact hc | simpa using hc)] at k
        exact k
    · refine lv_icmp_le hx hb hd ho2 (fun hc => ?_) (fun hc => ?_)
      · have k := k _ _ _ _ _ hr
        rw [if_pos (by simp [mj_cnd]; first | exact hc | simpa using hc)] at k
        exact k
      · have k := k _ _ _ _ _ hr
        rw [if_neg (by simp [mj_cnd]; first | exact hc | simpa using hc)] at k
        exact k
  · cases hs
theorem mj_s_dup {r1 r2 r3 r4 r5 : Nat} (C : mj_Ctx p s m args meth c y cc nL B b D dA) (hd : decode cc pc = .ok (.dup, mj_len (.dup))) (ho : mj_okS y pc (.dup) r1 r2 r3 r4 r5 = true) {pc' : Nat} {loc' : mj_L} {st' : List Value} {h' : mj_H} (hs : mj_step (.dup) r1 r2 r3 mj_new pc loc st h = some (pc', loc', st', h')) (hr : mj_Rel B b D dA s nL n0 s0 loc h ls H locs cells slots)
    (hcl : h'.length ≤ n0 + R.cells) (hsl : mj_sl h' ≤ s0 + R.slots)
    (k : ∀ (ls' : Array Slot) (H' : Heap) (locs' : List Loc) (cells' slots' : Nat), mj_Rel B b D dA s nL n0 s0 loc' h' ls' H' locs' cells' slots' → W p l e R s m args below meth c H' locs' cells' slots' Q (F0 m pc' ls' (st'.map (mj_rv B b)))) :
    W p l e R s m args below meth c H locs cells slots Q (F0 m pc ls (st.map (mj_rv B b))) := by
  obtain ⟨hx, hb, hml, hown, hts, hK, hB, hbB, hlk, hin⟩ := C
  simp only [mj_step] at hs
  split at hs
  · cases hs
    exact lv_dup hx hb hd rfl (k _ _ _ _ _ hr)
  · cases hs
    exact lv_dup hx hb hd rfl (k _ _ _ _ _ hr)
  · cases hs
theorem mj_s_dup2 {r1 r2 r3 r4 r5 : Nat} (C : mj_Ctx p s m args meth c y cc nL B b D dA) (hd : decode cc pc = .ok (.dup2, mj_len (.dup2))) (ho : mj_okS y pc (.dup2) r1 r2 r3 r4 r5 = true) {pc' : Nat} {loc' : mj_L} {st' : List Value} {h' : mj_H} (hs : mj_step (.dup2) r1 r2 r3 mj_new pc loc st h = some (pc', loc', st', h')) (hr : mj_Rel B b D dA s nL n0 s0 loc h ls H locs cells slots)
    (hcl : h'.length ≤ n0 + R.cells) (hsl : mj_sl h' ≤ s0 + R.slots)
    (k : ∀ (ls' : Array Slot) (H' : Heap) (locs' : List Loc) (cells' slots' : Nat), mj_Rel B b D dA s nL n0 s0 loc' h' ls' H' locs' cells' slots' → W p l e R s m args below meth c H' locs' cells' slots' Q (F0 m pc' ls' (st'.map (mj_rv B b)))) :
    W p l e R s m args below meth c H locs cells slots Q (F0 m pc ls (st.map (mj_rv B b))) := by
  obtain ⟨hx, hb, hml, hown, hts, hK, hB, hbB, hlk, hin⟩ := C
  simp only [mj_step] at hs
  split at hs
  · cases hs
    exact lv_dup2_11 hx hb hd rfl rfl (k _ _ _ _ _ hr)
  · cases hs
theorem mj_s_pop {r1 r2 r3 r4 r5 : Nat} (C : mj_Ctx p s m args meth c y cc nL B b D dA) (hd : decode cc pc = .ok (.pop, mj_len (.pop))) (ho : mj_okS y pc (.pop) r1 r2 r3 r4 r5 = true) {pc' : Nat} {loc' : mj_L} {st' : List Value} {h' : mj_H} (hs : mj_step (.pop) r1 r2 r3 mj_new pc loc st h = some (pc', loc', st', h')) (hr : mj_Rel B b D dA s nL n0 s0 loc h ls H locs cells slots)
    (hcl : h'.length ≤ n0 + R.cells) (hsl : mj_sl h' ≤ s0 + R.slots)
    (k : ∀ (ls' : Array Slot) (H' : Heap) (locs' : List Loc) (cells' slots' : Nat), mj_Rel B b D dA s nL n0 s0 loc' h' ls' H' locs' cells' slots' → W p l e R s m args below meth c H' locs' cells' slots' Q (F0 m pc' ls' (st'.map (mj_rv B b)))) :
    W p l e R s m args below meth c H locs cells slots Q (F0 m pc ls (st.map (mj_rv B b))) := by
  obtain ⟨hx, hb, hml, hown, hts, hK, hB, hbB, hlk, hin⟩ := C
  simp only [mj_step] at hs
  split at hs
  · cases hs
    exact lv_pop hx hb hd rfl (k _ _ _ _ _ hr)
  · cases hs
    exact lv_pop hx hb hd rfl (k _ _ _ _ _ hr)
  · cases hs
theorem mj_s_pop2 {r1 r2 r3 r4 r5 : Nat} (C : mj_Ctx p s m args meth c y cc nL B b D dA) (hd : decode cc pc = .ok (.pop2, mj_len (.pop2))) (ho : mj_okS y pc (.pop2) r1 r2 r3 r4 r5 = true) {pc' : Nat} {loc' : mj_L} {st' : List Value} {h' : mj_H} (hs : mj_step (.pop2) r1 r2 r3 mj_new pc loc st h = some (pc', loc', st', h')) (hr : mj_Rel B b D dA s nL n0 s0 loc h ls H locs cells slots)
    (hcl : h'.length ≤ n0 + R.cells) (hsl : mj_sl h' ≤ s0 + R.slots)
    (k : ∀ (ls' : Array Slot) (H' : Heap) (locs' : List Loc) (cells' slots' : Nat), mj_Rel B b D dA s nL n0 s0 loc' h' ls' H' locs' cells' slots' → W p l e R s m args below meth c H' locs' cells' slots' Q (F0 m pc' ls' (st'.map (mj_rv B b)))) :
    W p l e R s m args below meth c H locs cells slots Q (F0 m pc ls (st.map (mj_rv B b))) := by
  obtain ⟨hx, hb, hml, hown, hts, hK, hB, hbB, hlk, hin⟩ := C
  simp only [mj_step] at hs
  split at hs
  · cases hs
    exact lv_pop2_2 hx hb hd rfl (k _ _ _ _ _ hr)
  · cases hs
    exact lv_pop2_2 hx hb hd rfl (k _ _ _ _ _ hr)
  · cases hs
theorem mj_s_ldc {r1 r2 r3 r4 r5 : Nat} {i : Nat} (C : mj_Ctx p s m args meth c y cc nL B b D dA) (hd : decode cc pc = .ok (.ldc i, mj_len (.ldc i))) (ho : mj_okS y pc (.ldc i) r1 r2 r3 r4 r5 = true) {pc' : Nat} {loc' : mj_L} {st' : List Value} {h' : mj_H} (hs : mj_step (.ldc i) r1 r2 r3 mj_new pc loc st h = some (pc', loc', st', h')) (hr : mj_Rel B b D dA s nL n0 s0 loc h ls H locs cells slots)
    (hcl : h'.length ≤ n0 + R.cells) (hsl : mj_sl h' ≤ s0 + R.slots)
    (k : ∀ (ls' : Array Slot) (H' : Heap) (locs' : List Loc) (cells' slots' : Nat), mj_Rel B b D dA s nL n0 s0 loc' h' ls' H' locs' cells' slots' → W p l e R s m args below meth c H' locs' cells' slots' Q (F0 m pc' ls' (st'.map (mj_rv B b)))) :
    W p l e R s m args below meth c H locs cells slots Q (F0 m pc ls (st.map (mj_rv B b))) := by
  obtain ⟨hx, hb, hml, hown, hts, hK, hB, hbB, hlk, hin⟩ := C
  simp only [mj_step] at hs
  cases r2 with
  | zero =>
    cases hs
    exact lv_ldc hx hb hown (hts _ (mj_w_of ho).1 (mj_w_of ho).2) hd (k _ _ _ _ _ hr)
  | succ z =>
    cases hs
    exact lv_ldcf hx hb hown (hts _ (mj_w_of ho).1 (mj_w_of ho).2) hd (k _ _ _ _ _ hr)
theorem mj_s_ldc_w {r1 r2 r3 r4 r5 : Nat} {i : Nat} (C : mj_Ctx p s m args meth c y cc nL B b D dA) (hd : decode cc pc = .ok (.ldc_w i, mj_len (.ldc_w i))) (ho : mj_okS y pc (.ldc_w i) r1 r2 r3 r4 r5 = true) {pc' : Nat} {loc' : mj_L} {st' : List Value} {h' : mj_H} (hs : mj_step (.ldc_w i) r1 r2 r3 mj_new pc loc st h = some (pc', loc', st', h')) (hr : mj_Rel B b D dA s nL n0 s0 loc h ls H locs cells slots)
    (hcl : h'.length ≤ n0 + R.cells) (hsl : mj_sl h' ≤ s0 + R.slots)
    (k : ∀ (ls' : Array Slot) (H' : Heap) (locs' : List Loc) (cells' slots' : Nat), mj_Rel B b D dA s nL n0 s0 loc' h' ls' H' locs' cells' slots' → W p l e R s m args below meth c H' locs' cells' slots' Q (F0 m pc' ls' (st'.map (mj_rv B b)))) :
    W p l e R s m args below meth c H locs cells slots Q (F0 m pc ls (st.map (mj_rv B b))) := by
  obtain ⟨hx, hb, hml, hown, hts, hK, hB, hbB, hlk, hin⟩ := C
  simp only [mj_step] at hs
  cases r2 with
  | zero =>
    cases hs
    exact lv_ldcw hx hb hown (hts _ (mj_w_of ho).1 (mj_w_of ho).2) hd (k _ _ _ _ _ hr)
  | succ z =>
    cases hs
    exact mj_ldcwF hx hb hown (hts _ (mj_w_of ho).1 (mj_w_of ho).2) hd (k _ _ _ _ _ hr)
theorem mj_s_ldc2_w {r1 r2 r3 r4 r5 : Nat} {i : Nat} (C : mj_Ctx p s m args meth c y cc nL B b D dA) (hd : decode cc pc = .ok (.ldc2_w i, mj_len (.ldc2_w i))) (ho : mj_okS y pc (.ldc2_w i) r1 r2 r3 r4 r5 = true) {pc' : Nat} {loc' : mj_L} {st' : List Value} {h' : mj_H} (hs : mj_step (.ldc2_w i) r1 r2 r3 mj_new pc loc st h = some (pc', loc', st', h')) (hr : mj_Rel B b D dA s nL n0 s0 loc h ls H locs cells slots)
    (hcl : h'.length ≤ n0 + R.cells) (hsl : mj_sl h' ≤ s0 + R.slots)
    (k : ∀ (ls' : Array Slot) (H' : Heap) (locs' : List Loc) (cells' slots' : Nat), mj_Rel B b D dA s nL n0 s0 loc' h' ls' H' locs' cells' slots' → W p l e R s m args below meth c H' locs' cells' slots' Q (F0 m pc' ls' (st'.map (mj_rv B b)))) :
    W p l e R s m args below meth c H locs cells slots Q (F0 m pc ls (st.map (mj_rv B b))) := by
  obtain ⟨hx, hb, hml, hown, hts, hK, hB, hbB, hlk, hin⟩ := C
  simp only [mj_step] at hs
  cases r2 with
  | zero =>
    cases hs
    exact lv_ldc2 hx hb hown (hts _ (mj_w_of ho).1 (mj_w_of ho).2) hd (k _ _ _ _ _ hr)
  | succ z =>
    cases hs
    exact lv_ldc2d hx hb hown (hts _ (mj_w_of ho).1 (mj_w_of ho).2) hd (k _ _ _ _ _ hr)
end MJS
