/-! THE CLAIM OUT OF ONE WALK OF THE LAW'S BODY. Your part is whole_start (and what it stands on); all else here is the same for every law, but numbers. -/
def R_law : String := "PolyRegistersLaw"
def lw_P (b : Addr) (xs : List Int32) (args : Array Value) (s : State) : Prop := args = #[.ref b] ∧ s.IntsAt b xs ∧ xs.length ≤ 3072 ∧ (Jvm.Cond.and given_1 narrow_1).before args s = true
/-- what a walk over the start with the record d0 says of its end, said of the start itself -/
theorem lw_closed {s t : State} {o : Outcome} {d0 : Drawn} {L : List Loc} {k n : Nat} (hd0 : s.drawn.sameBut d0 lw_cs) (hv : ∃ v, o = .returned v) (hW : (s.setDrawn d0).WarmedH t.vm) (hs : (s.setDrawn d0).sameButNew ({ t with vm := s.vm } : State) L k n) : State.butDraws s t lw_cs (fun t1 => Framed s o t1 L k n) := by
  have h2 : t.drawn = d0 := congrArg State.drawn hs.1
  refine ⟨⟨hv, hW, State.sameButNew.setDrawn hs s.drawn⟩, ?_, by decide⟩
  rw [h2]
  exact hd0
def lw_Q (_ : Array Value) (s : State) (o : Outcome) (t : State) : Prop := o = .returned (some (.int 1)) ∧ State.butDraws s t lw_cs (fun t1 => Framed s o t1 [] 603072 7202922)
def lw_Z (below : List Frame) (a : Array Value) (s : State) : State → Prop := fun t => ∃ o, t.status = .running ∧ Ended t below o ∧ lw_Q a s o t
/-- the law's own end, with 1 on the stack, nothing written that was there before, its room as the claim has it; d0: the record of draws at this point (at the entry s.drawn: begin with 'refine W.base ?_' and 'have hd0 := Drawn.sameBut.refl s.drawn lw_cs') -/
theorem lw_ret {p : Program} {l : Launch} {e : Env} {s : State} {m : MethodId} {below : List Frame} {meth : Method} {c : Code} {b : Nat} {d0 : Drawn} (hd0 : s.drawn.sameBut d0 lw_cs) (hx : p.tables.exec = Jvm.exec) (hb : c.code = code) (hr : meth.sig.returnType = ret) (hlocks : meth.locks = false) {pc : Nat} {H : Heap} {ls : Array Slot} (hdg : decode code pc = .ok (.ireturn, 1)) : W p l e room_1 (s.setDrawn d0) m #[Value.ref b] below meth c H [] 603072 7202922 (lw_Z below #[Value.ref b] s) (F0 m pc ls [.int 1]) := by
  intro T hT X
  obtain ⟨fs, hret, hrun, hended, hW, hframe⟩ := X.leave (v := some (.int 1)) (hlocks := hlocks) (fun h => by rw [hr] at h; cases h)
  have hmeth' : T.vm.method? m = some meth := X.method'
  refine ⟨T.setFrames fs, ?_, .returned (some (.int 1)), hrun, hended, rfl, lw_closed hd0 ⟨_, rfl⟩ hW hframe⟩
  jvm_step X.here [X.here.top, hx, hb, hdg, hmeth', hr, ret, narrow_b1]
  (try refine ⟨rfl, ?_⟩); (try refine ⟨rfl, ?_⟩)
  first | (intro acts; rw [hret _ acts rfl rfl rfl]) | rw [hret _ _ rfl rfl rfl]
  exact Steps.refl _
/-- what holds at the law's entry: the machine, the code, the tables' words (any of lw_tbl by 'hts w (by decide +kernel)'), the script of L ints xs at the cell b, what the Statement gives of the start (any of its parts by flat_of_before) -/
def lw_At (p : Program) (s : State) (m : MethodId) (meth : Method) (c : Code) (b L : Nat) (xs : Nat → Int32) : Prop :=
  p.tables.exec = Jvm.exec ∧ c.code = code ∧ meth.sig.returnType = ret ∧ c.maxLocals = 9 ∧ s.vm.findClass R_law = some m.cls ∧ (∀ w ∈ lw_tbl, w.before #[Value.ref b] s = true) ∧ va_X b L xs s s.heap ∧ b < s.heap.size ∧ meth.locks = false ∧ (Jvm.Cond.and given_1 narrow_1).before #[Value.ref b] s = true
/-! The law's own run on the machine, out of a run of the small machine. -/
def mj_h0 (L : Nat) (xs : Nat → Int32) : mj_H := [.inl (100, L, fun j => .int (xs j))]
theorem mj_small {p : Program} {l : Launch} {e : Env} {R R' : Room} {s : State} {m : MethodId} {args : Array Value} {below : List Frame} {meth : Method} {c : Code} {T : State} (X : Stand p l e R s m args below meth c T [] 0 0) (hf : R'.frames ≤ R.frames) (hl : R'.locals ≤ R.locals) (hc : R'.cells ≤ R.cells) (hs : R'.slots ≤ R.slots) : Stand p l e R' s m args below meth c T [] 0 0 := by
  refine ⟨X.admits, X.cas, X.clock, X.frames, ?_, X.hears, X.method, X.code, X.here, X.tail, X.warmed, X.limits, X.bytes, ?_⟩
  · have h := X.room
    simp only [State.hasRoom, Bool.and_eq_true, decide_eq_true_eq] at h ⊢
    obtain ⟨⟨⟨⟨h1, h2, h3, h4, h5, h6⟩, h7⟩, h8⟩, h9⟩ := h
    exact ⟨⟨⟨⟨by omega, by omega, by omega, by omega, by omega, h6⟩, by omega⟩, by omega⟩, h9⟩
  · exact X.same
theorem mj_arrC {args : Array Value} {s : State} {t : FieldType} (h : (Jvm.Cond.arrayClass t).before args s = true) : ∃ c : ClassId, ArrOfT s c t ∧ s.vm.findClass ("[" ++ t.toString) = some c := by
  obtain ⟨c, k, comp, h1, h2, h3⟩ := Cond.arrayClass_spec h
  exact ⟨c, fun n z => ⟨fun k h => (by cases h), k, h2, comp, h3⟩, h1⟩
theorem mj_arrO {args : Array Value} {s : State} {C : String} (h : (Jvm.Cond.arrayOver (.object C)).before args s = true) : ∃ c : ClassId, ArrOfT s c (.object C) ∧ va_RA s c (.object C) := by
  obtain ⟨comp, c, k, h1, h2, h3, h4, h5⟩ := Cond.arrayOver_spec h
  exact ⟨c, fun n z => ⟨fun k h => (by cases h), k, h3, comp, h4⟩, k, comp, h3, h4, h1, h5⟩
theorem mj_arrA {args : Array Value} {s : State} {t : FieldType} (h : (Jvm.Cond.arrayOver (.array t)).before args s = true) : ∃ c : ClassId, ArrOfT s c (.array t) ∧ va_RA s c (.array t) := by
  obtain ⟨comp, c, k, h1, h2, h3, h4, h5⟩ := mj_overA h
  exact ⟨c, fun n z => ⟨fun k h => (by cases h), k, h3, comp, h4⟩, h5⟩
theorem mj_known {args : Array Value} {s : State} (hts : ∀ w ∈ lw_tbl, w.before args s = true) : ∃ (D : va_G) (dA : Nat → ClassId), va_K D mj_cl (mj_tys dA) s := by
  have h1 : ∀ k : Nat, ∃ d : ClassId × (Nat → Nat), ∀ q : vw_C, mj_cl[k]? = some q → u_Kn s q.1 q.2.1 q.2.2 d.1 d.2 := by
    intro k
    cases hk : mj_cl[k]? with
    | none => exact ⟨(0, fun _ => 0), fun q h => by cases h⟩
    | some q =>
      have hc := mj_cls hk
      obtain ⟨cC, iS, hKn⟩ := u_known (C := q.1) (T := q.2.1) (N := q.2.2) (n := q.2.2) hts (fun w hw => (hc.1 w hw).1) (hts _ hc.2.2.2.1.1)
      exact ⟨(cC, iS), fun q' h => by cases h; exact hKn⟩
  obtain ⟨f, hf⟩ := Classical.axiomOfChoice h1
  obtain ⟨a0, b0, e0⟩ := mj_arrC (t := .int) (hts _ (by decide +kernel : Jvm.Cond.arrayClass .int ∈ lw_tbl))
  obtain ⟨a1, b1, e1⟩ := mj_arrC (t := .long) (hts _ (by decide +kernel : Jvm.Cond.arrayClass .long ∈ lw_tbl))
  obtain ⟨a2, b2, e2⟩ := mj_arrC (t := .byte) (hts _ (by decide +kernel : Jvm.Cond.arrayClass .byte ∈ lw_tbl))
  obtain ⟨a3, b3, e3⟩ := mj_arrO (C := "PolyRegisters$Bench") (hts _ (by decide +kernel : Jvm.Cond.arrayOver (.object "PolyRegisters$Bench") ∈ lw_tbl))
  obtain ⟨a4, b4, e4⟩ := mj_arrO (C := "PolyRegisters$Poly") (hts _ (by decide +kernel : Jvm.Cond.arrayOver (.object "PolyRegisters$Poly") ∈ lw_tbl))
  obtain ⟨a5, b5, e5⟩ := mj_arrO (C := "PolyRegisters$Wide") (hts _ (by decide +kernel : Jvm.Cond.arrayOver (.object "PolyRegisters$Wide") ∈ lw_tbl))
  obtain ⟨a6, b6, e6⟩ := mj_arrA (t := .long) (hts _ (by decide +kernel : Jvm.Cond.arrayOver (.array .long) ∈ lw_tbl))
  refine ⟨(fun k => (f k).1, fun k => (f k).2), fun t => match t with | 0 => a0 | 1 => a1 | 2 => a2 | 3 => a3 | 4 => a4 | 5 => a5 | _ => a6, fun k q h => hf k q h, fun k q h => ?_⟩
  match k, h with
  | 0, h => cases h; exact ⟨b0, e0⟩
  | 1, h => cases h; exact ⟨b1, e1⟩
  | 2, h => cases h; exact ⟨b2, e2⟩
  | 3, h => cases h; exact ⟨b3, e3⟩
  | 4, h => cases h; exact ⟨b4, e4⟩
  | 5, h => cases h; exact ⟨b5, e5⟩
  | 6, h => cases h; exact ⟨b6, e6⟩
  | k + 7, h => simp at h
theorem mj_ncs : ((List.range 5).all fun i => (List.range 5).all fun j => decide (i = j) || decide (Jvm.Cond.not (.castable (mj_exc i) (mj_exc j)) ∈ flatC (Jvm.Cond.and given_1 narrow_1))) = true := by decide +kernel
theorem mj_start {p : Program} {e : Env} {s : State} {m : MethodId} {below : List Frame} {meth : Method} {c : Code} (l : Launch) (hflags : l.flags = flags0) {b L : Nat} {xs : Nat → Int32} (C0 : lw_At p s m meth c b L xs) (hht : ∀ x ∈ c.exceptionTable.toList, False)
    {Fu d F : Nat} {h' : mj_H} (hrun : mj_loop (mj_run mj_P Fu d) mj_mL F 0 (mj_loc0 9 [.ref 0]) [] (mj_h0 L xs) = some (.inl (some (.int 1)), h')) (hd : d ≤ 100) (hc : h'.length ≤ 1 + 603072) (hs : mj_sl h' ≤ L + 7202922) :
    W p l e room_1 s m #[Value.ref b] below meth c s.heap [] 0 0 (lw_Z below #[Value.ref b] s) (entryFrame m ([Value.ref b] : List Value).toArray 9) := by
  obtain ⟨hx, hb, hr, hml, hown, hts, hX, hbl, hlocks, hgv⟩ := id C0
  have hlf : l.stackTraces = false := by unfold Launch.stackTraces; rw [hflags]; decide +kernel
  obtain ⟨D, dA, hK⟩ := mj_known hts
  have hg := flat_of_before _ hgv
  have hZ1 := vx_Zqof (s := s) (args := #[Value.ref b]) (C := Bundle.tN) (n := "UNASSIGNED_STACK") (d := Bundle.steD) (A := fun q => s.heap.size ≤ q) (hts _ (by decide +kernel)) (hts _ (by decide +kernel)) (hg _ (by decide +kernel)) (fun a h1 h2 => Nat.lt_irrefl _ (Nat.lt_of_lt_of_le h1 h2))
  have hZ2 := vx_Zqof (s := s) (args := #[Value.ref b]) (C := Bundle.tN) (n := "SUPPRESSED_SENTINEL") (d := Bundle.listD) (A := fun q => s.heap.size ≤ q) (hts _ (by decide +kernel)) (hts _ (by decide +kernel)) (hg _ (by decide +kernel)) (fun a h1 h2 => Nat.lt_irrefl _ (Nat.lt_of_lt_of_le h1 h2))
  have hNc : ∀ i j, i < 5 → j < 5 → i ≠ j → va_Nc (mj_exc i) (mj_exc j) s := by
    intro i j hi hj hij
    have h1 := List.all_eq_true.mp (List.all_eq_true.mp mj_ncs i (List.mem_range.mpr hi)) j (List.mem_range.mpr hj)
    simp only [Bool.or_eq_true, decide_eq_true_eq] at h1
    rcases h1 with h1 | h1
    · exact absurd h1 hij
    · exact va_Nc.of (args := #[Value.ref b]) (hg _ h1)
  have hR : mj_HR s.heap.size b D dA s (mj_h0 L xs) s.heap := by
    refine ⟨rfl, ⟨L, fun j => .int (xs j), rfl⟩, fun k e he => ?_⟩
    match k, he with
    | 0, he =>
      cases he
      exact ⟨fun _ => hX, fun h => absurd rfl h⟩
    | k + 1, he => cases he
  have hI : mj_Inv s.heap.size b D dA (mj_h0 L xs) s := ⟨hR, fun w hw hm => mj_move hm (State.WarmedH.refl s) (hts w hw), hK, Nat.le_refl _, hbl, hZ1, hZ2, hNc⟩
  have hC : mj_Ctx p s m #[Value.ref b] meth c mj_mL.1 mj_mL.2.1 mj_mL.2.2.1 s.heap.size b D dA := ⟨hx, hb, hml, hown, fun w hw hm => hts w hw, hK, Nat.le_refl _, hbl, hlocks, fun h => absurd h (by decide)⟩
  have htab : c.exceptionTable.toList = tableOf (mj_four mj_mL.2.2.2.2.2.1) := by
    cases hct : c.exceptionTable.toList with
    | nil => rfl
    | cons x t => exact absurd (by rw [hct]; exact List.mem_cons_self) (hht x)
  have hmono := mj_loop_mono (mj_run_mono mj_P Fu d) hrun
  have hl0 : (mj_h0 L xs).length = 1 := rfl
  have hs0 : mj_sl (mj_h0 L xs) = L := rfl
  rw [hl0, hs0] at hmono
  have hm1 : 1 ≤ h'.length := hmono.1
  have hm2 : L ≤ mj_sl h' := hmono.2
  have hloc : (mj_loc0 9 [.ref 0]).length = 9 := by decide
  have hw := mj_walk (e := e) (below := below) mj_all hlf (Fu := Fu) (d := d) (mj_sound mj_all hlf Fu d) (M := mj_mL) rfl (fun pc I hI => by
    have := mj_chk_of mj_kL pc I (mj_look_of hI)
    rw [Nat.zero_add] at this
    exact this) hC hI hr htab (mc := h'.length - 1) (ms := mj_sl h' - L) F 0 _ [] _ _ s.heap _ [] 0 0 hrun ⟨hR, mj_entry (B := s.heap.size) (b := b) hloc, va_S.rf, rfl, rfl⟩ (by rw [hl0]; show 1 + (h'.length - 1) = h'.length; omega) (by rw [hs0]; show L + (mj_sl h' - L) = mj_sl h'; omega)
  intro T hT X
  have hroom1 : room_1.frames = 2048 := rfl
  have hroom2 : room_1.cells = 603072 := rfl
  have hroom3 : room_1.slots = 7202922 := rfl
  have hroom4 : room_1.locals = 94400 := rfl
  have X' := mj_small (R' := mj_rm (d + 1) (h'.length - 1) (mj_sl h' - L)) X (by rw [hroom1]; show d + 1 + 8 ≤ _; omega) (by rw [hroom4]; show 140 + (d + 1) * 64 ≤ _; omega) (by rw [hroom2]; show h'.length - 1 ≤ _; omega) (by rw [hroom3]; show mj_sl h' - L ≤ _; omega)
  rw [lg_entry_eq]
  obtain ⟨t, h1, o, h2, h3, h4⟩ := hw T hT X'
  refine ⟨t, h1, o, h2, h3, ?_⟩
  rcases h4 with ⟨⟨v, hv, ho, -, -⟩, Lc, ⟨hret, hwm, hsm⟩, hfree⟩ | ⟨q, -, E, ce, Lc, ⟨i, hi, -⟩, -⟩
  · cases hv
    refine ⟨ho, lw_closed (d0 := s.drawn) (Drawn.sameBut.refl s.drawn lw_cs) hret hwm ?_⟩
    exact (State.sameButNew.drop_fresh (L := []) (J := Lc) hsm hfree).mono (by omega) (by omega)
  · cases hi
