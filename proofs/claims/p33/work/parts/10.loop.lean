/-! The small machine's loop: returns, throws, calls, catches; and that the machine does it. -/
section MJT
variable {p : Program} {l : Launch} {e : Env} {R : Room} {s : State} {m : MethodId} {args : Array Value} {below : List Frame} {meth : Method} {c : Code} {H : Heap} {locs : List Loc} {cells slots : Nat} {Q : State → Prop}
variable {mc ms : Nat} {free : Addr → Prop} {A0 A1 : Nat → Prop} {H0 : Heap} {a : Array Value} {ls : Array Slot} {st0 rest : List Value}
variable {Qc : Array Value → State → Outcome → State → Prop} {XC : String → State → State → Prop}
/-- 'throw new E()' (follows vx_throw0), with the size of the heap behind it -/
theorem mj_throw0 {cc : ByteArray} {pc : Nat} (hexec : p.tables.exec = Jvm.exec) (hb : c.code = cc) (hl : l.stackTraces = false) {own cls : String} {names : List String} {ik ic mc ms : Nat} {A : Nat → Prop}
    (hown : s.vm.findClass own = some m.cls) (hcls : Bundle.fit cls = true) (hnames : ∀ n ∈ names, Bundle.fit n = true)
    (hk : (Cond.classLink own ik cls).before args s = true) (hini : (Cond.initialized cls).before args s = true) (hat : ∀ w ∈ vx_at0 own ic cls names, w.before args s = true)
    (hgood : ∀ w ∈ Cond.classLink own ik cls :: Cond.initialized cls :: vx_at0 own ic cls names, vx_ot w = true)
    (hU : vx_Zq Bundle.tN "UNASSIGNED_STACK" Bundle.steD A s s.heap) (hN : vx_Zq Bundle.tN "SUPPRESSED_SENTINEL" Bundle.listD A s s.heap) (hS : va_S A s.heap H locs) (hsize : ls.size = c.maxLocals)
    (d0 : decode cc pc = .ok (.new ik, 3)) (d3 : decode cc (pc + 3) = .ok (.dup, 1)) (d4 : decode cc (pc + 4) = .ok (.invokespecial ic, 3)) (d7 : decode cc (pc + 7) = .ok (.athrow, 1))
    (hout : ∀ x ∈ c.exceptionTable.toList, covers x (pc + 7) = false)
    (hRframes : names.length + 3 < R.frames) (hRlocals : (rest.map fun v => v.category).sum + (13 * (names.length + 1) + 42) ≤ R.locals) (hRcells : cells + 1 ≤ R.cells) (hRslots : slots + 6 ≤ R.slots) (hlocks : meth.locks = false)
    (hx : ∀ t : State, s.vm.Alike t.vm → t.heap.size = H.size + 1 → (∀ q : Nat, q < H.size → t.heap[q]? = H[q]?) → XC cls s t)
    (hf : ∀ z ∈ locs, free z.base) (hc : cells + 1 ≤ mc) (hs : slots + 6 ≤ ms) :
    W p l e R s m args below meth c H locs cells slots (vx_MQ below Qc XC args s mc ms free) (F0 m pc ls rest) := by
  intro T hT X
  have htr : e.platform.stackTraces = false := (show e.platform.stackTraces = l.stackTraces by rw [X.admits.platform]).trans hl
  have Y := vx_rebase X (R' := { frames := R.frames, locals := R.locals, cells := 1, slots := 6 }) (Nat.le_refl _) (Nat.le_refl _) hRcells hRslots
  obtain ⟨s', hA⟩ : ∃ z, z = (T.setVm s.vm).setFrames (.invoking m args :: below) := ⟨_, rfl⟩
  rw [← hA] at Y
  have hvm : s'.vm = s.vm := by rw [hA]; rfl
  have hhp : s'.heap = H := by rw [hA]; exact hT
  have hW0 : s.WarmedH s'.vm := by rw [hvm]; exact State.WarmedH.refl s
  have hat' : ∀ w ∈ vx_at0 own ic cls names, w.before args s' = true := fun w hw => vx_ot_at hW0 hvm.symm (hgood w (List.mem_cons_of_mem _ (List.mem_cons_of_mem _ hw))) (hat w hw)
  have hk' : (Cond.classLink own ik cls).before args s' = true := vx_ot_at hW0 hvm.symm (hgood _ List.mem_cons_self) hk
  have hini' : (Cond.initialized cls).before args s' = true := vx_ot_at hW0 hvm.symm (hgood _ (List.mem_cons_of_mem _ List.mem_cons_self)) hini
  have hU' : vx_Zq Bundle.tN "UNASSIGNED_STACK" Bundle.steD A s' s'.heap := by rw [hhp]; exact vx_Zq.moved hW0.alike (hU.kept hS.2.1)
  have hN' : vx_Zq Bundle.tN "SUPPRESSED_SENTINEL" Bundle.listD A s' s'.heap := by rw [hhp]; exact vx_Zq.moved hW0.alike (hN.kept hS.2.1)
  have h : ∀ w ∈ Bundle.ownAtoms0 own ic cls names, w.before args s' = true := vx_own hat' (vx_isRefq hU'.1) (vx_isRefq hN'.1) hU'.2.word hN'.2.word
  have hown' : s'.vm.findClass own = some m.cls := by rw [hvm]; exact hown
  have hins : (Cond.instantiable cls 6).before args s' = true := h _ (by simp [Bundle.ownAtoms0])
  obtain ⟨vm₁, cX, kX, hfX, hkX, -, -, X₁, st1⟩ := Y.newCold hexec (own := own) (C := cls) (index := ik) (n := 6) hown' hk' hins hini'
    (g := F0 m pc ls rest) rfl (by rw [hb]; exact d0) (Nat.le_refl _) (Nat.le_refl _)
  generalize hT1 : (T.setVm vm₁).pushCell { cls := cX, slots := kX.instanceTypes.map defaultValue, vm := .none } = T1 at X₁ st1
  have hcat : (Value.ref T.heap.size).category = 1 := rfl
  have hcellA : T1.heap[T.heap.size]? = some (freshCell cX kX) := by rw [← hT1]; exact State.heap_pushCell_size _ _
  have d3' : decode c.code (pc + 3) = .ok (.dup, 1) := by rw [hb]; exact d3
  obtain ⟨U, hsteps, hrun, hend, hW, hsame, ce, hce, hO⟩ := X₁.ctorThrow0 hexec htr (own := own) (cls := cls) (names := names) (ic := ic) hown' hcls hnames h (fun x hx => nomatch hx) hfX hkX hcellA (by rw [hhp, hT]; exact Nat.le_refl _)
    (g := { method := m, pc := pc + 4, locals := ls, stack := .ref T.heap.size :: .ref T.heap.size :: rest, locked := none }) rfl hsize rfl rfl (rest := rest) rfl
    (by rw [hb]; exact d4) (by rw [hb]; exact d7) hout hRframes (by simp only [List.map_cons, List.sum_cons, hcat]; omega) hlocks
  obtain ⟨f1, f2⟩ := vx_frame hsame
  rw [hhp] at f1 f2
  have hz1 : U.heap.size = H.size + 1 := by
    have h3 : U.heap.size ≤ s'.heap.size + _ := hsame.2.2.1
    have h4 := (Array.getElem?_eq_some_iff.mp hce).1
    rw [hhp] at h3
    rw [hT] at h4
    have h5 : U.heap.size ≤ H.size + 1 := by simpa using h3
    omega
  have hWs : s.WarmedH U.vm := State.WarmedH.trans hW0 hW
  have hcl : s.vm.findClass cls = some ce.cls := by
    have h9 := hO.cls
    rw [hvm] at h9
    exact h9
  have hall : s.sameButNew ({ U with vm := s.vm } : State) locs mc ms := by
    subst hA
    obtain ⟨e1, e2⟩ := hsame
    rw [State.setFrames_setFrames] at e1
    have h2 : (T.setVm s.vm).sameButNew ({ U with vm := s.vm } : State) [] (0 + 1) (0 + 6) := ⟨e1, e2⟩
    have h3 := X.same.trans h2
    rw [List.append_nil] at h3
    exact h3.mono hc hs
  refine ⟨U, ?_, .threw T.heap.size, hrun, hend, Or.inr ⟨T.heap.size, rfl, cls, ce, locs, hx U hWs.alike hz1 (fun q hq => f2 q hq (fun z hz => nomatch hz)), hce, hO.vm, hcl, hWs, hall, hf⟩⟩
  refine st1 _ ?_
  show Steps p.tables e below (T1.setTop { method := m, pc := pc + 3, locals := ls, stack := .ref T.heap.size :: rest, locked := none }) _
  jvm_step X₁.here [X₁.here.top, hexec, d3', Value.category]
  exact hsteps
end MJT

/-- a method: its name, bytes, room for locals, what it returns, its instructions, its handlers (start, end, handler, class; the exception's number, the local, where it goes on), its kind (0 static, 1 virtual, 2 a constructor) and the places of its words -/
abbrev mj_M : Type := MethodName × ByteArray × Nat × Option FieldType × (Nat → Option mj_I) × List (Nat × Nat × Nat × Nat × Nat × Nat × Nat) × Nat × Nat × Nat × Nat × Nat
def mj_exc (i : Nat) : String := match i with
  | 0 => "java/lang/IndexOutOfBoundsException"
  | 1 => "java/lang/IllegalStateException"
  | 2 => "java/lang/IllegalArgumentException"
  | 3 => "java/lang/ArithmeticException"
  | _ => "java/util/NoSuchElementException"
def mj_cat (st : List Value) : Nat := (st.map fun v => v.category).sum
def mj_kill (loc : mj_L) (k : Nat) : mj_L := (mj_st1 loc k (.int 0)).set k none
def mj_find (hs : List (Nat × Nat × Nat × Nat × Nat × Nat × Nat)) (pc i : Nat) : Option (Nat × Nat) := match hs with
  | [] => none
  | (a, b, _, _, x, k, nx) :: t => if a ≤ pc ∧ pc < b ∧ x = i then some (k, nx) else mj_find t pc i
def mj_isint (v : Value) : Bool := match v with
  | .int _ => true
  | _ => false
def mj_islong (v : Value) : Bool := match v with
  | .long _ => true
  | _ => false
def mj_cpok (t : Nat) (f : Nat → Value) (sp n : Nat) : Bool := (List.range n).all (fun i => match t with
  | 0 => mj_isint (f (sp + i))
  | _ => mj_islong (f (sp + i)))
/-- the methods that are not walked: max, min, arraycopy, Object() -/
def mj_prim (r3 : Nat) (st : List Value) (h : mj_H) : Option (List Value × mj_H) := match r3 with
  | 2 => match st with
    | .int y :: .int x :: st => if mj_cat st ≤ 20 then some (.int (if x < y then y else x) :: st, h) else none
    | _ => none
  | 3 => match st with
    | .int y :: .int x :: st => if mj_cat st ≤ 20 then some (.int (if y < x then y else x) :: st, h) else none
    | _ => none
  | 4 => match st with
    | .int n :: .int dp :: .ref a1 :: .int sp :: .ref a0 :: st => match h[a0]? with
      | some (.inl (t0, n0, f)) => match h[a1]? with
        | some (.inl (t1, n1, g)) => if mj_cat st ≤ 20 ∧ t0 = t1 ∧ (t0 = 0 ∨ t0 = 1) ∧ 0 ≤ sp ∧ 0 ≤ dp ∧ 0 ≤ n ∧ sp.toNatClampNeg + n.toNatClampNeg ≤ n0 ∧ dp.toNatClampNeg + n.toNatClampNeg ≤ n1 ∧ mj_cpok t0 f sp.toNatClampNeg n.toNatClampNeg = true then some (st, h.set a1 (.inl (t1, n1, va_cpy f g sp.toNatClampNeg dp.toNatClampNeg n.toNatClampNeg))) else none
        | _ => none
      | _ => none
    | _ => none
  | 5 => match st with
    | .ref _ :: st => if mj_cat st ≤ 20 then some (st, h) else none
    | _ => none
  | _ => none
def mj_retv (ins : Instr) (ret : Option FieldType) (st : List Value) : Option (Option Value) := match ins with
  | .ireturn => match st with
    | [.int v] => match ret with
      | some .int => some (some (.int v))
      | some .boolean => if v = 0 ∨ v = 1 then some (some (.int v)) else none
      | _ => none
    | _ => none
  | .lreturn => match st with
    | [.long v] => match ret with
      | some .long => some (some (.long v))
      | _ => none
    | _ => none
  | .freturn => match st with
    | [.float v] => match ret with
      | some .float => some (some (.float v))
      | _ => none
    | _ => none
  | .dreturn => match st with
    | [.double v] => match ret with
      | some .double => some (some (.double v))
      | _ => none
    | _ => none
  | .areturn => match st with
    | [.ref v] => match ret with
      | some (.object _) => some (some (.ref v))
      | some (.array _) => some (some (.ref v))
      | _ => none
    | _ => none
  | .return_ => match st with
    | [] => match ret with
      | none => some none
      | _ => none
    | _ => none
  | _ => none
/-- which kind of an instruction it is: 1 a return, 2 a throw, 3 a call of a method of the table, 4 a call of another one, 0 all else -/
def mj_kind (ins : Instr) (r3 : Nat) : Nat := match ins with
  | .ireturn => 1
  | .lreturn => 1
  | .freturn => 1
  | .dreturn => 1
  | .areturn => 1
  | .return_ => 1
  | .new _ => if r3 = 1 then 2 else 0
  | .invokestatic _ => if r3 ≤ 1 then 3 else 4
  | .invokevirtual _ => if r3 ≤ 1 then 3 else 4
  | .invokespecial _ => if r3 ≤ 1 then 3 else 4
  | _ => 0
/-- the receiver of a call by invokevirtual is an object of that class, of invokespecial an object -/
def mj_recv (ins : Instr) (r2 r5 : Nat) (st : List Value) (h : mj_H) : Bool := match ins with
  | .invokestatic _ => true
  | .invokevirtual _ => match r2, st.drop (r2 - 1) with
    | 0, _ => false
    | _, .ref a :: _ => match h[a]? with
      | some (.inr (ci, _)) => decide (ci = r5)
      | _ => false
    | _, _ => false
  | _ => match r2, st.drop (r2 - 1) with
    | 0, _ => false
    | _, .ref _ :: _ => true
    | _, _ => false
def mj_loop (call : Nat → List Value → mj_H → Option mj_R) (M : mj_M) : Nat → Nat → mj_L → List Value → mj_H → Option mj_R
  | 0, _, _, _, _ => none
  | F + 1, pc, loc, st, h =>
    match M.2.2.2.2.1 pc with
    | none => none
    | some (ins, r1, r2, r3, _, r5) =>
      match mj_kind ins r3 with
      | 0 => match mj_step ins r1 r2 r3 mj_new pc loc st h with
        | some (pc', loc', st', h') => mj_loop call M F pc' loc' st' h'
        | none => none
      | 1 => match mj_retv ins M.2.2.2.1 st with
        | some v => some (.inl v, h)
        | none => none
      | 2 => if M.2.2.2.2.2.1 = [] ∧ mj_cat st ≤ 8 then some (.inr r1, h ++ [.inr (99, [.null, .null, .null, .null, .null, .null])]) else none
      | 3 => if r2 ≤ st.length ∧ mj_cat (st.drop r2) ≤ 8 ∧ mj_recv ins r2 r5 st h = true then
          match call r1 (st.take r2).reverse h with
          | some (.inl v, h') => mj_loop call M F (pc + 3) loc (v.toList ++ st.drop r2) h'
          | some (.inr i, h') => match M.2.2.2.2.2.1 with
            | [] => some (.inr i, h')
            | hs => match mj_find hs pc i with
              | some (k, nx) => if k < loc.length then mj_loop call M F nx (mj_kill loc k) [] h' else none
              | none => none
          | none => none
        else none
      | _ => match mj_prim r3 st h with
        | some (st', h') => mj_loop call M F (pc + 3) loc st' h'
        | none => none
def mj_loc0 (n : Nat) (as : List Value) : mj_L := match as with
  | [] => List.replicate n none
  | v :: t => if v.category = 2 then some v :: none :: mj_loc0 (n - 2) t else some v :: mj_loc0 (n - 1) t
/-- calls at most d deep, F steps a call -/
def mj_run (P : List mj_M) (F : Nat) : Nat → Nat → List Value → mj_H → Option mj_R
  | 0 => fun _ _ _ => none
  | d + 1 => fun j as h => match P[j]? with
    | none => none
    | some M => if (mj_loc0 M.2.2.1 as).length = M.2.2.1 then mj_loop (mj_run P F d) M F 0 (mj_loc0 M.2.2.1 as) [] h else none
