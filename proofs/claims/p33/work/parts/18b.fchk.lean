/-! The same check of an instruction, by a reader of the bytes. -/
def mj_linkG (W : Nat → Jvm.Cond → Bool) (own : String) (i : Nat) (q : vw_C) (k r4 r5 : Nat) : Bool := match r5 with
  | 0 => W r4 (.fieldLink own i (q.2.1 k).1 (q.2.1 k).2.1 (q.2.1 k).2.2.1)
  | _ => W r4 (.fieldLinkNest own i (q.2.1 k).1 (q.2.1 k).2.1 (q.2.1 k).2.2.1 "PolyRegisters")
def mj_okSG (W : Nat → Jvm.Cond → Bool) (y : MethodName) (pc : Nat) (ins : Instr) (r1 r2 r3 r4 r5 : Nat) : Bool := match ins with
  | .goto off => decide ((pc : Int) + off = (r1 : Int))
  | .ifCond _ off => decide ((pc : Int) + off = (r1 : Int))
  | .if_icmp _ off => decide ((pc : Int) + off = (r1 : Int))
  | .bipush n => decide ((Int8.ofInt n).toInt32 = Int32.ofInt n)
  | .sipush n => decide ((Int16.ofInt n).toInt32 = Int32.ofInt n)
  | .ldc i => (match r2 with
    | 0 => W r4 (.constant y.cls i (Int32.ofNat r1))
    | _ => W r4 (.constantFloat y.cls i (UInt32.ofNat r1)))
  | .ldc_w i => (match r2 with
    | 0 => W r4 (.constant y.cls i (Int32.ofNat r1))
    | _ => W r4 (.constantFloat y.cls i (UInt32.ofNat r1)))
  | .ldc2_w i => (match r2 with
    | 0 => W r4 (.constantLong y.cls i (Int64.ofNat r1))
    | _ => W r4 (.constantDouble y.cls i (UInt64.ofNat r1)))
  | .getfield i => (match mj_cl[r1]? with
    | some q => decide (r2 < q.2.2) && mj_linkG W y.cls i q r2 r4 r5
    | none => false)
  | .putfield i => (match mj_cl[r1]? with
    | some q => decide (r2 < q.2.2) && mj_linkG W y.cls i q r2 r4 r5 && decide (mj_kd (mj_ft r1 r2) = r3) && (!(q.2.1 r2).2.2.2 || (decide (y.name = "<init>") && decide ((q.2.1 r2).1 = y.cls) && decide (r5 = 0)))
    | none => false)
  | .new i => (match mj_cl[r1]? with
    | some q => W r4 (.classLink y.cls i q.1)
    | none => false)
  | .newarray t => decide (newarray.typeOf t = mj_tt r1) && W r4 (.arrayClass (mj_tt r1))
  | .anewarray i => (match mj_el r1 with
    | some ci => (match mj_cl[ci]? with
      | some q => W r4 (.classLink y.cls i q.1) && W r5 (.arrayOver (.object q.1)) && decide (mj_tt r1 = .object q.1) && decide (3 ≤ r1) && decide (r1 ≤ 5)
      | none => false)
    | none => false)
  | .multianewarray i d => decide (d = 2) && W r4 (.classLink y.cls i ("[" ++ (FieldType.array .long).toString)) && W r5 (.arrayOver (.array .long)) && W r2 (.arrayClass .long)
  | _ => true
def mj_lkG (W : Nat → Jvm.Cond → Bool) (own : String) (i : Nat) (y : MethodName) (r3 r4 : Nat) : Bool := match r3 with
  | 0 => W r4 (.methodLink own i y)
  | _ => W r4 (.methodLinkNest own i y "PolyRegisters")
def mj_okMG (W : Nat → Jvm.Cond → Bool) (M : mj_M) : Bool := match M with
  | (y, cc, n, ret, _, hs, kd, i1, i2, i3, i4) => plainName y.cls && W i1 (mj_code M) && W i2 (.initialized y.cls) && decide (n ≤ 40) && decide (y.cls ≠ "java/lang/invoke/MethodHandle") && decide (y.cls ≠ "java/lang/invoke/VarHandle") && hs.all (mj_hok y cc) && (match kd with
    | 0 => W i3 (.static y) && decide (y.name ≠ "<init>")
    | 1 => W i3 (.instanceMethod y) && W i4 (.selects y.cls y y) && hs.isEmpty
    | _ => W i3 (.instanceMethod y) && decide (y.name = "<init>") && decide (ret = none) && hs.isEmpty)
theorem mj_linkG_eq : mj_linkG mj_w = mj_link := rfl
theorem mj_okSG_eq : mj_okSG mj_w = mj_okS := rfl
theorem mj_lkG_eq : mj_lkG mj_w = mj_lk := rfl
theorem mj_okMG_eq : mj_okMG mj_w = mj_okM := rfl
def mj_okF (W : Nat → Jvm.Cond → Bool) (y : MethodName) (cc : ByteArray) (dc : Nat → Instr → Nat → Bool) (pc : Nat) (I : mj_I) : Bool := match I with
  | (.tableswitch d lo hi os, r1, _) => decide (decode cc pc = .ok (.tableswitch d lo hi os, r1))
  | (ins, r1, r2, r3, r4, r5) => dc pc (ins) (mj_len ins) && mj_okSG W y pc ins r1 r2 r3 r4 r5
def mj_okPF (W : Nat → Jvm.Cond → Bool) (y : MethodName) (cc : ByteArray) (dc : Nat → Instr → Nat → Bool) (pc : Nat) (ins : Instr) (r3 r4 : Nat) : Bool := match ins with
  | .invokestatic i => dc pc (.invokestatic i) 3 && (match r3 with
    | 2 => W r4 (.methodLink y.cls i Lib.Math.max.name)
    | 3 => W r4 (.methodLink y.cls i Lib.Math.min.name)
    | 4 => W r4 (.methodLink y.cls i arraycopyName)
    | _ => false)
  | .invokespecial i => dc pc (.invokespecial i) 3 && (match r3 with
    | 5 => W r4 (.methodLink y.cls i Lib.objectInit)
    | _ => false)
  | _ => false
def mj_okCF (W : Nat → Jvm.Cond → Bool) (P : List mj_M) (y : MethodName) (cc : ByteArray) (dc : Nat → Instr → Nat → Bool) (pc : Nat) (ins : Instr) (r1 r2 r3 r4 r5 : Nat) : Bool := match P[r1]? with
  | none => false
  | some (y', _, _, _, _, hs, kd, _) => mj_lkG W y.cls (match ins with | .invokestatic i => i | .invokevirtual i => i | .invokespecial i => i | _ => 0) y' r3 r4 && (match ins with
    | .invokestatic i => dc pc (.invokestatic i) 3 && decide (kd = 0) && decide (mj_np y' = some r2) && (hs.isEmpty || decide (r3 = 0)) && decide (y'.cls = y'.cls)
    | .invokevirtual i => dc pc (.invokevirtual i) 3 && decide (kd = 1) && (match r2 with
      | 0 => false
      | n + 1 => decide (mj_np y' = some n)) && (match mj_cl[r5]? with
      | some q => decide (q.1 = y'.cls)
      | none => false)
    | .invokespecial i => dc pc (.invokespecial i) 3 && decide (kd = 2) && (match r2 with
      | 0 => false
      | n + 1 => decide (mj_np y' = some n))
    | _ => false)
def mj_okTF (W : Nat → Jvm.Cond → Bool) (y : MethodName) (cc : ByteArray) (dc : Nat → Instr → Nat → Bool) (pc : Nat) (ins : Instr) (r1 r2 r4 : Nat) : Bool := match ins with
  | .new ik => dc pc (.new ik) 3 && dc (pc + 3) (.dup) 1 && dc (pc + 4) (.invokespecial r2) 3 && dc (pc + 7) (.athrow) 1 && W r4 (.classLink y.cls ik (mj_exc r1)) && decide (r1 < 5)
  | _ => false
def mj_okXF (W : Nat → Jvm.Cond → Bool) (P : List mj_M) (thr : List (String × Nat × Nat)) (y : MethodName) (cc : ByteArray) (dc : Nat → Instr → Nat → Bool) (pc : Nat) (I : mj_I) : Bool := match I with
  | (ins, r1, r2, r3, r4, r5) => match mj_kind ins r3 with
    | 0 => mj_okF W y cc dc pc I
    | 1 => dc pc (ins) 1
    | 2 => mj_okTF W y cc dc pc ins r1 r2 r4 && decide ((y.cls, r2, r1) ∈ thr)
    | 3 => mj_okCF W P y cc dc pc ins r1 r2 r3 r4 r5
    | _ => mj_okPF W y cc dc pc ins r3 r4
theorem mj_dcT {cc : ByteArray} {dc : Nat → Instr → Nat → Bool} (hdc : ∀ p i l, dc p i l = true → decode cc p = .ok (i, l)) {p : Nat} {i : Instr} {l : Nat} (h : dc p i l = true) : decide (decode cc p = .ok (i, l)) = true := decide_eq_true (hdc p i l h)
theorem mj_okF_of {y : MethodName} {cc : ByteArray} {dc : Nat → Instr → Nat → Bool} (hdc : ∀ p i l, dc p i l = true → decode cc p = .ok (i, l)) {pc : Nat} {I : mj_I} (h : mj_okF mj_w y cc dc pc I = true) : mj_ok y cc pc I = true := by
  unfold mj_okF at h
  unfold mj_ok
  split at h
  · exact h
  · rename_i ins r1 r2 r3 r4 r5 hn
    rw [Bool.and_eq_true] at h
    have k := mj_dcT hdc h.1
    split
    · rename_i d lo hi os q1 q2 q3 q4 e
      cases e
      exact (hn _ _ _ _ rfl).elim
    · rename_i ins' q1 q2 q3 q4 q5 hn' e
      cases e
      rw [Bool.and_eq_true]
      exact ⟨k, h.2⟩
theorem mj_okPF_of {y : MethodName} {cc : ByteArray} {dc : Nat → Instr → Nat → Bool} (hdc : ∀ p i l, dc p i l = true → decode cc p = .ok (i, l)) {pc : Nat} {ins : Instr} {r3 r4 : Nat} (h : mj_okPF mj_w y cc dc pc ins r3 r4 = true) : mj_okP y cc pc ins r3 r4 = true := by
  unfold mj_okPF at h
  unfold mj_okP
  split at h
  · rw [Bool.and_eq_true] at h ⊢
    exact ⟨mj_dcT hdc h.1, h.2⟩
  · rw [Bool.and_eq_true] at h ⊢
    exact ⟨mj_dcT hdc h.1, h.2⟩
  · cases h
theorem mj_okTF_of {y : MethodName} {cc : ByteArray} {dc : Nat → Instr → Nat → Bool} (hdc : ∀ p i l, dc p i l = true → decode cc p = .ok (i, l)) {pc : Nat} {ins : Instr} {r1 r2 r4 : Nat} (h : mj_okTF mj_w y cc dc pc ins r1 r2 r4 = true) : mj_okT y cc pc ins r1 r2 r4 = true := by
  unfold mj_okTF at h
  unfold mj_okT
  split at h
  · simp only [Bool.and_eq_true] at h ⊢
    obtain ⟨⟨⟨⟨⟨a, b⟩, c⟩, d⟩, e⟩, f⟩ := h
    exact ⟨⟨⟨⟨⟨mj_dcT hdc a, mj_dcT hdc b⟩, mj_dcT hdc c⟩, mj_dcT hdc d⟩, e⟩, f⟩
  · cases h
theorem mj_okCF_of {P : List mj_M} {y : MethodName} {cc : ByteArray} {dc : Nat → Instr → Nat → Bool} (hdc : ∀ p i l, dc p i l = true → decode cc p = .ok (i, l)) {pc : Nat} {ins : Instr} {r1 r2 r3 r4 r5 : Nat} (h : mj_okCF mj_w P y cc dc pc ins r1 r2 r3 r4 r5 = true) : mj_okC P y cc pc ins r1 r2 r3 r4 r5 = true := by
  unfold mj_okCF at h
  unfold mj_okC
  split at h
  · cases h
  · rename_i y' c1 c2 c3 c4 hs kd c5 hP
    rw [hP]
    simp only [] at h ⊢
    rw [Bool.and_eq_true] at h ⊢
    refine ⟨h.1, ?_⟩
    have h2 := h.2
    split at h2
    · simp only [Bool.and_eq_true] at h2 ⊢
      obtain ⟨⟨⟨⟨a, b⟩, c⟩, d⟩, e⟩ := h2
      exact ⟨⟨⟨⟨mj_dcT hdc a, b⟩, c⟩, d⟩, e⟩
    · simp only [Bool.and_eq_true] at h2 ⊢
      obtain ⟨⟨⟨a, b⟩, c⟩, d⟩ := h2
      exact ⟨⟨⟨mj_dcT hdc a, b⟩, c⟩, d⟩
    · simp only [Bool.and_eq_true] at h2 ⊢
      obtain ⟨⟨a, b⟩, c⟩ := h2
      exact ⟨⟨mj_dcT hdc a, b⟩, c⟩
    · cases h2
theorem mj_okXF_of {P : List mj_M} {thr : List (String × Nat × Nat)} {y : MethodName} {cc : ByteArray} {dc : Nat → Instr → Nat → Bool} (hdc : ∀ p i l, dc p i l = true → decode cc p = .ok (i, l)) {pc : Nat} {I : mj_I} (h : mj_okXF mj_w P thr y cc dc pc I = true) : mj_okX P thr y cc pc I = true := by
  obtain ⟨ins, r1, r2, r3, r4, r5⟩ := I
  unfold mj_okXF at h
  unfold mj_okX
  simp only [] at h ⊢
  generalize mj_kind ins r3 = kk at h ⊢
  match kk, h with
  | 0, h => exact mj_okF_of hdc h
  | 1, h => exact mj_dcT hdc h
  | 2, h =>
    simp only [Bool.and_eq_true] at h ⊢
    exact ⟨mj_okTF_of hdc h.1, h.2⟩
  | 3, h => exact mj_okCF_of hdc h
  | n + 4, h => exact mj_okPF_of hdc h
def mj_chk (P : List mj_M) (thr : List (String × Nat × Nat)) (y : MethodName) (cc : ByteArray) : Nat → List (Option mj_I) → Bool
  | _, [] => true
  | pc, none :: t => mj_chk P thr y cc (pc + 1) t
  | pc, some I :: t => mj_okX P thr y cc pc I && mj_chk P thr y cc (pc + 1) t
theorem mj_chk_of {P : List mj_M} {thr : List (String × Nat × Nat)} {y : MethodName} {cc : ByteArray} : ∀ {l : List (Option mj_I)} {o : Nat}, mj_chk P thr y cc o l = true → ∀ (pc : Nat) (I : mj_I), l[pc]? = some (some I) → mj_okX P thr y cc (o + pc) I = true
  | [], _, _, pc, I, h => by simp at h
  | none :: t, o, hc, pc, I, h => by
    cases pc with
    | zero => simp at h
    | succ k =>
      simp only [List.getElem?_cons_succ] at h
      have := mj_chk_of (l := t) (o := o + 1) hc k I h
      rw [show o + (k + 1) = o + 1 + k by omega]
      exact this
  | some J :: t, o, hc, pc, I, h => by
    simp only [mj_chk, Bool.and_eq_true] at hc
    cases pc with
    | zero =>
      simp only [List.getElem?_cons_zero, Option.some.injEq] at h
      subst h
      exact hc.1
    | succ k =>
      simp only [List.getElem?_cons_succ] at h
      have := mj_chk_of (l := t) (o := o + 1) hc.2 k I h
      rw [show o + (k + 1) = o + 1 + k by omega]
      exact this
theorem mj_look_of {l : List (Option mj_I)} {pc : Nat} {I : mj_I} (h : mj_look l pc = some I) : l[pc]? = some (some I) := by
  unfold mj_look at h
  split at h
  · rename_i x hx
    rw [hx, h]
  · cases h
/-- a method's check, as it stands in the table -/
def mj_chkM (M : mj_M) (l : List (Option mj_I)) : Bool := mj_okM M && mj_chk mj_P mj_Thr M.1 M.2.1 0 l
theorem mj_chkM_of {M : mj_M} {l : List (Option mj_I)} (hl : M.2.2.2.2.1 = mj_look l) (h : mj_chkM M l = true) : mj_okA mj_P mj_Thr M := by
  simp only [mj_chkM, Bool.and_eq_true] at h
  refine ⟨h.1, fun pc I hI => ?_⟩
  rw [hl] at hI
  have := mj_chk_of h.2 pc I (mj_look_of hI)
  rwa [Nat.zero_add] at this
/-- the table against the bytes from its first place on; a switch or an array's making is read at its place -/
def mj_dc (cc : ByteArray) (bs : List UInt8) (pc p : Nat) (i : Instr) (l : Nat) : Bool := match i with
  | .newarray _ => decide (decode cc p = .ok (i, l))
  | .multianewarray _ _ => decide (decode cc p = .ok (i, l))
  | i => Nat.ble pc p && mj_fd (bs.drop (p - pc)) i l
theorem mj_dc_of {cc : ByteArray} {bs : List UInt8} {pc : Nat} (hb : cc.data.toList.drop pc = bs) : ∀ p i l, mj_dc cc bs pc p i l = true → decode cc p = .ok (i, l) := by
  intro p i l h
  unfold mj_dc at h
  split at h
  · exact of_decide_eq_true h
  · exact of_decide_eq_true h
  · rw [Bool.and_eq_true] at h
    have hp : pc ≤ p := Nat.ble_eq.mp h.1
    refine mj_fd_of (bs := bs.drop (p - pc)) ?_ h.2
    rw [← hb, List.drop_drop, show pc + (p - pc) = p by omega]
def mj_chkF (W : Nat → Jvm.Cond → Bool) (P : List mj_M) (thr : List (String × Nat × Nat)) (y : MethodName) (cc : ByteArray) : List (Option mj_I) → List UInt8 → Nat → Bool
  | [], _, _ => true
  | none :: t, bs, pc => (match bs with
    | [] => false
    | _ :: bs' => mj_chkF W P thr y cc t bs' (pc + 1))
  | some I :: t, bs, pc => (match bs with
    | [] => false
    | b :: bs' => mj_okXF W P thr y cc (mj_dc cc (b :: bs') pc) pc I && mj_chkF W P thr y cc t bs' (pc + 1))
theorem mj_drop1 {cc : ByteArray} {pc : Nat} {b : UInt8} {bs : List UInt8} (h : cc.data.toList.drop pc = b :: bs) : cc.data.toList.drop (pc + 1) = bs := by
  obtain ⟨-, -, k⟩ := mj_drop_get h
  exact k
theorem mj_chkF_of {P : List mj_M} {thr : List (String × Nat × Nat)} {y : MethodName} {cc : ByteArray} : ∀ {l : List (Option mj_I)} {bs : List UInt8} {pc : Nat}, cc.data.toList.drop pc = bs → mj_chkF mj_w P thr y cc l bs pc = true → mj_chk P thr y cc pc l = true
  | [], _, _, _, _ => rfl
  | none :: t, [], pc, hb, h => by cases h
  | none :: t, b :: bs, pc, hb, h => by
    show mj_chk P thr y cc (pc + 1) t = true
    exact mj_chkF_of (mj_drop1 hb) h
  | some I :: t, [], pc, hb, h => by cases h
  | some I :: t, b :: bs, pc, hb, h => by
    have h : (mj_okXF mj_w P thr y cc (mj_dc cc (b :: bs) pc) pc I && mj_chkF mj_w P thr y cc t bs (pc + 1)) = true := h
    rw [Bool.and_eq_true] at h
    show (mj_okX P thr y cc pc I && mj_chk P thr y cc (pc + 1) t) = true
    rw [Bool.and_eq_true]
    exact ⟨mj_okXF_of (mj_dc_of hb) h.1, mj_chkF_of (mj_drop1 hb) h.2⟩
/-- the words of the tables by their place, list by list -/
def mj_fast (r : Nat) : Option Jvm.Cond := if r < 107 then (k2_sels lw_privs)[r]? else if r - 107 < 240 then tables_1_1[r - 107]? else if r - 107 - 240 < 240 then tables_1_2[r - 107 - 240]? else if r - 107 - 240 - 240 < 240 then tables_1_3[r - 107 - 240 - 240]? else if r - 107 - 240 - 240 - 240 < 240 then tables_1_4[r - 107 - 240 - 240 - 240]? else if r - 107 - 240 - 240 - 240 - 240 < 240 then tables_1_5[r - 107 - 240 - 240 - 240 - 240]? else if r - 107 - 240 - 240 - 240 - 240 - 240 < 240 then tables_1_6[r - 107 - 240 - 240 - 240 - 240 - 240]? else if r - 107 - 240 - 240 - 240 - 240 - 240 - 240 < 240 then tables_1_7[r - 107 - 240 - 240 - 240 - 240 - 240 - 240]? else if r - 107 - 240 - 240 - 240 - 240 - 240 - 240 - 240 < 240 then tables_1_8[r - 107 - 240 - 240 - 240 - 240 - 240 - 240 - 240]? else tables_1_9[r - 107 - 240 - 240 - 240 - 240 - 240 - 240 - 240 - 240]?
theorem mj_fast_eq (r : Nat) : mj_fast r = lw_tbl[r]? := by
  have h0 : (k2_sels lw_privs).length = 107 := by decide +kernel
  have h1 : tables_1_1.length = 240 := by decide +kernel
  have h2 : tables_1_2.length = 240 := by decide +kernel
  have h3 : tables_1_3.length = 240 := by decide +kernel
  have h4 : tables_1_4.length = 240 := by decide +kernel
  have h5 : tables_1_5.length = 240 := by decide +kernel
  have h6 : tables_1_6.length = 240 := by decide +kernel
  have h7 : tables_1_7.length = 240 := by decide +kernel
  have h8 : tables_1_8.length = 240 := by decide +kernel
  unfold mj_fast lw_tbl tables_1
  simp only [List.getElem?_append, h0, h1, h2, h3, h4, h5, h6, h7, h8]
def mj_wF (r : Nat) (w : Jvm.Cond) : Bool := decide (mj_fast r = some w) && mj_mv w
theorem mj_w_eq : mj_wF = mj_w := by
  funext r w
  unfold mj_wF mj_w
  rw [mj_fast_eq]
/-- a method's check, as it stands in the table, by a reader of its bytes -/
def mj_chkN (M : mj_M) (l : List (Option mj_I)) : Bool := mj_okMG mj_wF M && mj_chkF mj_wF mj_P mj_Thr M.1 M.2.1 l M.2.1.data.toList 0
theorem mj_chkN_of {M : mj_M} {l : List (Option mj_I)} (h : mj_chkN M l = true) : mj_chkM M l = true := by
  unfold mj_chkN at h
  unfold mj_chkM
  rw [mj_w_eq, mj_okMG_eq, Bool.and_eq_true] at h
  rw [Bool.and_eq_true]
  exact ⟨h.1, mj_chkF_of rfl h.2⟩
theorem mj_chkL_of {P : List mj_M} {thr : List (String × Nat × Nat)} {y : MethodName} {cc : ByteArray} {l : List (Option mj_I)} {bs : List UInt8} {pc : Nat} (hb : cc.data.toList.drop pc = bs) (h : mj_chkF mj_wF P thr y cc l bs pc = true) : mj_chk P thr y cc pc l = true := by
  rw [mj_w_eq] at h
  exact mj_chkF_of hb h
/-- the check of a method but for the word of its code, which stands by itself -/
def mj_okMB (b : Bool) (M : mj_M) : Bool := match M with
  | (y, cc, n, ret, _, hs, kd, _, i2, i3, i4) => plainName y.cls && b && mj_wF i2 (.initialized y.cls) && decide (n ≤ 40) && decide (y.cls ≠ "java/lang/invoke/MethodHandle") && decide (y.cls ≠ "java/lang/invoke/VarHandle") && hs.all (mj_hok y cc) && (match kd with
    | 0 => mj_wF i3 (.static y) && decide (y.name ≠ "<init>")
    | 1 => mj_wF i3 (.instanceMethod y) && mj_wF i4 (.selects y.cls y y) && hs.isEmpty
    | _ => mj_wF i3 (.instanceMethod y) && decide (y.name = "<init>") && decide (ret = none) && hs.isEmpty)
def mj_chkR (M : mj_M) (l : List (Option mj_I)) : Bool := mj_okMB (mj_mv (mj_code M)) M && mj_chkF mj_wF mj_P mj_Thr M.1 M.2.1 l M.2.1.data.toList 0
/-- the code's word is shown by unfolding alone: deciding it would compare all bytes (a second for a long method) -/
theorem mj_chkR_of {M : mj_M} {l : List (Option mj_I)} {i : Nat} (hi : M.2.2.2.2.2.2.2.1 = i) (hc : mj_fast i = some (mj_code M)) (h : mj_chkR M l = true) : mj_chkM M l = true := by
  refine mj_chkN_of ?_
  rw [← hi] at hc
  have e : mj_wF M.2.2.2.2.2.2.2.1 (mj_code M) = mj_mv (mj_code M) := by
    unfold mj_wF
    rw [decide_eq_true hc, Bool.true_and]
  have e2 : mj_okMG mj_wF M = mj_okMB (mj_wF M.2.2.2.2.2.2.2.1 (mj_code M)) M := by
    obtain ⟨y, cc, n, ret, lk, hs, kd, i1, i2, i3, i4⟩ := M
    rfl
  unfold mj_chkN
  rw [e2, e]
  exact h
