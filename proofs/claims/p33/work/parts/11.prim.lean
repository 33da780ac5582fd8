/-! Nothing shrinks; returns; the methods that are not walked. -/
theorem mj_sl_app (a b : mj_H) : mj_sl (a ++ b) = mj_sl a + mj_sl b := by simp [mj_sl]
set_option maxHeartbeats 4000000 in
theorem mj_step_mono {ins : Instr} {r1 r2 r3 : Nat} {fl : Nat → List Value} {pc : Nat} {loc : mj_L} {st : List Value} {h : mj_H} {pc' : Nat} {loc' : mj_L} {st' : List Value} {h' : mj_H} (hs : mj_step ins r1 r2 r3 fl pc loc st h = some (pc', loc', st', h')) : h.length ≤ h'.length ∧ mj_sl h ≤ mj_sl h' := by
  cases ins <;> simp only [mj_step] at hs <;> (try cases hs) <;> (try exact ⟨Nat.le_refl _, Nat.le_refl _⟩) <;> (try (rw [List.length_append, mj_sl_app]; exact ⟨Nat.le_add_right _ _, Nat.le_add_right _ _⟩)) <;> (try (obtain ⟨v, hv, he⟩ := Option.map_eq_some_iff.mp hs; cases he; exact ⟨Nat.le_refl _, Nat.le_refl _⟩)) <;>
    (repeat' split at hs) <;> (try cases hs) <;> first
      | exact ⟨Nat.le_refl _, Nat.le_refl _⟩
      | (rw [List.length_append, mj_sl_app]; exact ⟨Nat.le_add_right _ _, Nat.le_add_right _ _⟩)
      | (refine ⟨by rw [List.length_set]; exact Nat.le_refl _, ?_⟩
         rw [mj_sl_set (by assumption) (by simp [mj_slot])]
         exact Nat.le_refl _)
theorem mj_prim_mono {r3 : Nat} {st : List Value} {h : mj_H} {st' : List Value} {h' : mj_H} (hs : mj_prim r3 st h = some (st', h')) : h.length ≤ h'.length ∧ mj_sl h ≤ mj_sl h' := by
  unfold mj_prim at hs
  (repeat' split at hs) <;> (try cases hs) <;> first
    | exact ⟨Nat.le_refl _, Nat.le_refl _⟩
    | (refine ⟨by rw [List.length_set]; exact Nat.le_refl _, ?_⟩
       rw [mj_sl_set (by assumption) (by simp [mj_slot])]
       exact Nat.le_refl _)
theorem mj_loop_mono {call : Nat → List Value → mj_H → Option mj_R} (hcall : ∀ j as h r, call j as h = some r → h.length ≤ r.2.length ∧ mj_sl h ≤ mj_sl r.2) {M : mj_M} : ∀ {F pc : Nat} {loc : mj_L} {st : List Value} {h : mj_H} {r : mj_R}, mj_loop call M F pc loc st h = some r → h.length ≤ r.2.length ∧ mj_sl h ≤ mj_sl r.2
  | 0, _, _, _, _, _, hs => by cases hs
  | F + 1, pc, loc, st, h, r, hs => by
    unfold mj_loop at hs
    split at hs
    · cases hs
    · split at hs
      · split at hs
        · rename_i h1
          have h2 := mj_step_mono h1
          have h3 := mj_loop_mono hcall hs
          exact ⟨Nat.le_trans h2.1 h3.1, Nat.le_trans h2.2 h3.2⟩
        · cases hs
      · split at hs
        · cases hs; exact ⟨Nat.le_refl _, Nat.le_refl _⟩
        · cases hs
      · split at hs
        · cases hs
          rw [List.length_append, mj_sl_app]; exact ⟨Nat.le_add_right _ _, Nat.le_add_right _ _⟩
        · cases hs
      · split at hs
        · split at hs
          · rename_i h1
            have h2 := hcall _ _ _ _ h1
            have h3 := mj_loop_mono hcall hs
            exact ⟨Nat.le_trans h2.1 h3.1, Nat.le_trans h2.2 h3.2⟩
          · rename_i h1
            have h2 := hcall _ _ _ _ h1
            split at hs
            · cases hs; exact h2
            · split at hs
              · split at hs
                · have h3 := mj_loop_mono hcall hs
                  exact ⟨Nat.le_trans h2.1 h3.1, Nat.le_trans h2.2 h3.2⟩
                · cases hs
              · cases hs
          · cases hs
        · cases hs
      · split at hs
        · rename_i h1
          have h2 := mj_prim_mono h1
          have h3 := mj_loop_mono hcall hs
          exact ⟨Nat.le_trans h2.1 h3.1, Nat.le_trans h2.2 h3.2⟩
        · cases hs
theorem mj_run_mono (P : List mj_M) (F : Nat) : ∀ (d j : Nat) (as : List Value) (h : mj_H) (r : mj_R), mj_run P F d j as h = some r → h.length ≤ r.2.length ∧ mj_sl h ≤ mj_sl r.2
  | 0, _, _, _, _, hs => by cases hs
  | d + 1, j, as, h, r, hs => by
    simp only [mj_run] at hs
    split at hs
    · cases hs
    · split at hs
      · exact mj_loop_mono (mj_run_mono P F d) hs
      · cases hs
theorem mj_w_math : (mj_inw (.static Lib.Math.max.name) && mj_inw (.static Lib.Math.min.name) && mj_inw (.initialized "java/lang/Math") && mj_inw (.code Lib.Math.max.name Lib.Math.max.code 2 (some .int)) && mj_inw (.code Lib.Math.min.name Lib.Math.min.code 2 (some .int))) = true := by decide +kernel
theorem mj_w_copy : (mj_inw (.native arraycopyName) && mj_inw (.static arraycopyName) && mj_inw (.initialized "java/lang/System")) = true := by decide +kernel
theorem mj_w_obj : (mj_inw (.instanceMethod Lib.objectInit) && mj_inw (.code Lib.objectInit ⟨#[0xb1]⟩ 1 none)) = true := by decide +kernel
section MJP
variable {p : Program} {l : Launch} {e : Env} {R : Room} {s : State} {m : MethodId} {args : Array Value} {below : List Frame} {meth : Method} {c : Code} {H : Heap} {locs : List Loc} {cells slots : Nat} {Q : State → Prop}
variable {y : MethodName} {cc : ByteArray} {nL B b n0 s0 : Nat} {D : va_G} {dA : Nat → ClassId} {pc : Nat} {loc : mj_L} {st : List Value} {h : mj_H} {ls : Array Slot}
theorem mj_sim_ret {ins : Instr} {v : Option Value} {ret : Option FieldType} {Qc : Array Value → State → Outcome → State → Prop} {XC : String → State → State → Prop} (hx : p.tables.exec = Jvm.exec) (hb : c.code = cc) (hlk : meth.locks = false) (hr : meth.sig.returnType = ret) (hd : decode cc pc = .ok (ins, 1)) (hs : mj_retv ins ret st = some v)
    (hq : ∀ t : State, t.heap = H → s.WarmedH t.vm → Qc args s (.returned (v.map (mj_rv B b))) t) (hf : ∀ q ∈ locs, B ≤ q.base) :
    W p l e R s m args below meth c H locs cells slots (vx_MQ below Qc XC args s cells slots (fun q => B ≤ q)) (F0 m pc ls (st.map (mj_rv B b))) := by
  cases ins <;> simp only [mj_retv] at hs <;> (repeat' split at hs) <;> (try cases hs)
  all_goals first
    | exact vx_ret (W.iret hx hb hr hq hf hd hlk)
    | exact vx_ret (W.lret hx hb hr hq hf hd hlk)
    | exact vx_ret (W.fret hx hb hr hq hf hd hlk)
    | exact vx_ret (W.dret hx hb hr hq hf hd hlk)
    | exact vx_ret (W.vret hx hb hr hq hf hd hlk)
    | exact vx_ret (W.aret hx hb hr (Or.inl ⟨_, rfl⟩) (Or.inr ⟨_, rfl⟩) hq hf hd hlk)
    | exact vx_ret (W.aret hx hb hr (Or.inr ⟨_, rfl⟩) (Or.inr ⟨_, rfl⟩) hq hf hd hlk)
    | (rename_i h0; exact vx_ret (W.zret hx hb hr (by rcases h0 with rfl | rfl <;> rfl) hq hf hd hlk))
theorem mj_cat_map (B b : Nat) (st : List Value) : ((st.map (mj_rv B b)).map fun v => v.category).sum = mj_cat st := by
  unfold mj_cat
  rw [List.map_map]
  congr 1
  apply List.map_congr_left
  intro v _
  exact mj_rv_cat B b v
/-- what a call of a method that is not walked was resolved to -/
def mj_okP (y : MethodName) (cc : ByteArray) (pc : Nat) (ins : Instr) (r3 r4 : Nat) : Bool := match ins with
  | .invokestatic i => decide (decode cc pc = .ok (.invokestatic i, 3)) && (match r3 with
    | 2 => mj_w r4 (.methodLink y.cls i Lib.Math.max.name)
    | 3 => mj_w r4 (.methodLink y.cls i Lib.Math.min.name)
    | 4 => mj_w r4 (.methodLink y.cls i arraycopyName)
    | _ => false)
  | .invokespecial i => decide (decode cc pc = .ok (.invokespecial i, 3)) && (match r3 with
    | 5 => mj_w r4 (.methodLink y.cls i Lib.objectInit)
    | _ => false)
  | _ => false
theorem mj_sim_prim {ins : Instr} {r3 r4 : Nat} (C : mj_Ctx p s m args meth c y cc nL B b D dA) (ho : mj_okP y cc pc ins r3 r4 = true) {st' : List Value} {h' : mj_H} (hs : mj_prim r3 st h = some (st', h')) (hr : mj_Rel B b D dA s nL n0 s0 loc h ls H locs cells slots) (hRf : 1 ≤ R.frames) (hRl : 100 ≤ R.locals) (hcl : h'.length ≤ n0 + R.cells) (hsl : mj_sl h' ≤ s0 + R.slots)
    (k : ∀ (ls' : Array Slot) (H' : Heap) (locs' : List Loc) (cells' slots' : Nat), mj_Rel B b D dA s nL n0 s0 loc h' ls' H' locs' cells' slots' → W p l e R s m args below meth c H' locs' cells' slots' Q (F0 m (pc + 3) ls' (st'.map (mj_rv B b)))) :
    W p l e R s m args below meth c H locs cells slots Q (F0 m pc ls (st.map (mj_rv B b))) := by
  obtain ⟨hx, hb, hml, hown, hts, hK, hB, hbB, hlk, hin⟩ := C
  have hw : ∀ {w : Jvm.Cond}, mj_inw w = true → w.before args s = true := fun h => hts _ (mj_inw_of h).1 (mj_inw_of h).2
  have hm := mj_w_math
  have hcp := mj_w_copy
  have hob := mj_w_obj
  simp only [Bool.and_eq_true] at hm hcp hob
  obtain ⟨⟨⟨⟨m1, m2⟩, m3⟩, m4⟩, m5⟩ := hm
  obtain ⟨⟨c1, c2⟩, c3⟩ := hcp
  obtain ⟨o1, o2⟩ := hob
  have hsz : c.maxLocals = ls.size := by rw [hml, hr.2.1.1]
  have hcc : cells ≤ R.cells := by
    have h1 := hr.2.2.2.1
    have h2 := (mj_prim_mono hs).1
    omega
  have hss : slots ≤ R.slots := by
    have h1 := hr.2.2.2.2
    have h2 := (mj_prim_mono hs).2
    omega
  unfold mj_prim at hs
  split at hs
  · split at hs
    · split at hs
      · rename_i hc0
        cases hs
        cases ins <;> simp only [mj_okP, Bool.and_eq_true, decide_eq_true_eq] at ho <;> (try exact absurd ho Bool.false_ne_true) <;> (try exact absurd ho.2 Bool.false_ne_true)
        exact va_mmax hx hb hsz hown (hts _ (mj_w_of ho.2).1 (mj_w_of ho.2).2) (hw m1) (hw m3) (hw m4) hRf (by rw [mj_cat_map]; omega) hcc hss ho.1 (k _ _ _ _ _ hr)
      · cases hs
    · cases hs
  · split at hs
    · split at hs
      · rename_i hc0
        cases hs
        cases ins <;> simp only [mj_okP, Bool.and_eq_true, decide_eq_true_eq] at ho <;> (try exact absurd ho Bool.false_ne_true) <;> (try exact absurd ho.2 Bool.false_ne_true)
        exact va_mmin hx hb hsz hown (hts _ (mj_w_of ho.2).1 (mj_w_of ho.2).2) (hw m2) (hw m3) (hw m5) hRf (by rw [mj_cat_map]; omega) hcc hss ho.1 (k _ _ _ _ _ hr)
      · cases hs
    · cases hs
  · split at hs
    · rename_i n dp a1 sp a0 st0
      split at hs
      · rename_i t0 n0' f he0
        split at hs
        · rename_i t1 n1 g he1
          split at hs
          · rename_i hcond
            obtain ⟨hc0, ht, ht01, hsp, hdp, hn, h4, h5, hall⟩ := hcond
            cases hs
            subst ht
            unfold mj_cpok at hall
            cases ins <;> simp only [mj_okP, Bool.and_eq_true, decide_eq_true_eq] at ho <;> (try exact absurd ho Bool.false_ne_true) <;> (try exact absurd ho.2 Bool.false_ne_true)
            have ht6 : t0 ≤ 6 := by rcases ht01 with rfl | rfl <;> decide
            have htn : t0 ≠ 100 := by rcases ht01 with rfl | rfl <;> decide
            have e0 := ((hr.1.2.2 _ _ he0).2 htn).2
            have e1 := ((hr.1.2.2 _ _ he1).2 htn).2
            have ha0 := hr.ne0 he1 (fun L xs h => by cases h; exact htn rfl)
            obtain ⟨-, k0, hk0, cm0, hkk0⟩ := (hK.2 t0 _ (mj_tys_at dA ht6)).1 n0' (fun j => mj_rv B b (f j))
            obtain ⟨-, k1, hk1, cm1, hkk1⟩ := (hK.2 t0 _ (mj_tys_at dA ht6)).1 n1 (fun j => mj_rv B b (g j))
            have nn : ∀ z : Int32, 0 ≤ z → z.toInt = (z.toNatClampNeg : Int) := by
              intro z hz
              have hz0 : (0 : Int) ≤ z.toInt := by simpa using Int32.le_iff_toInt_le.mp hz
              show z.toInt = ((z.toInt.toNat : Nat) : Int)
              omega
            intro T hT X
            obtain ⟨vm', X', step⟩ := X.arraycopy hx hown (hts _ (mj_w_of ho.2).1 (mj_w_of ho.2).2) (hw c1) (hw c2) (hw c3) (src := mj_ad B b a0) (dst := mj_ad B b a1) (srcPos := sp) (destPos := dp) (n := n) (by rw [hT]; exact e0) (by rw [hT]; exact e1)
              (fun _ h => by cases h) (fun _ h => by cases h) (fun h => by cases h) (fun h => by cases h) hk0 hk1 hkk0 hkk1 (by simp) (mj_not_lt hsp) (mj_not_lt hdp) (mj_not_lt hn)
              (by rw [nn sp hsp, nn n hn, arrV_size]; omega)
              (by rw [nn dp hdp, nn n hn, arrV_size]; omega)
              (fun vm₁ _ i hi => by
                have e : (arrV (dA t0) n0' (fun j => mj_rv B b (f j))).slots.getD (sp.toNatClampNeg + i) .null = mj_rv B b (f (sp.toNatClampNeg + i)) := by
                  rw [Array.getD_eq_getD_getElem?, arrV_read _ _ (by omega)]
                  rfl
                have h9 := List.all_eq_true.mp hall i (List.mem_range.mpr hi)
                rw [e]
                rcases ht01 with rfl | rfl
                · simp only [mj_isint] at h9
                  split at h9
                  · rename_i z hz
                    rw [hz]
                    exact ⟨rfl, trivial⟩
                  · cases h9
                · simp only [mj_islong] at h9
                  split at h9
                  · rename_i z hz
                    rw [hz]
                    exact ⟨rfl, trivial⟩
                  · cases h9)
              (g := F0 m pc ls (.int n :: .int dp :: .ref (mj_ad B b a1) :: .int sp :: .ref (mj_ad B b a0) :: st'.map (mj_rv B b))) rfl (by rw [hsz]) (rest := st'.map (mj_rv B b)) rfl (by rw [hb]; exact ho.1) hRf (by
                have h8 : nativeFrameWords "java/lang/System" "arraycopy" 5 ≤ 40 := by decide +kernel
                rw [mj_cat_map]
                show 2 * 0 + _ + _ ≤ _
                omega)
            have ec : copied (arrV (dA t0) n0' (fun j => mj_rv B b (f j))) (arrV (dA t0) n1 (fun j => mj_rv B b (g j))) sp dp n = arrV (dA t0) n1 (fun j => mj_rv B b (va_cpy f g sp.toNatClampNeg dp.toNatClampNeg n.toNatClampNeg j)) := va_copied (mj_rv B b) (dA t0) (dA t0) f g h4
            rw [ec] at X' step
            have hlt : mj_ad B b a1 < H.size := (Array.getElem?_eq_some_iff.mp e1).1
            generalize hcell : arrV (dA t0) n1 (fun j => mj_rv B b (va_cpy f g sp.toNatClampNeg dp.toNatClampNeg n.toNatClampNeg j)) = cel at X' step
            have hheap : ((T.setVm vm').setCell (mj_ad B b a1) cel).heap = H.setIfInBounds (mj_ad B b a1) cel := by rw [← hT]; rfl
            have oq : ∀ q : Nat, q ≠ mj_ad B b a1 → (H.setIfInBounds (mj_ad B b a1) cel)[q]? = H[q]? := fun q hq => by simp [Array.getElem?_setIfInBounds, Ne.symm hq]
            have hz : (H.setIfInBounds (mj_ad B b a1) cel).size = H.size := by simp
            have hat : mj_at B b D dA s (mj_ad B b a1) (.inl (t0, n1, va_cpy f g sp.toNatClampNeg dp.toNatClampNeg n.toNatClampNeg)) (H.setIfInBounds (mj_ad B b a1) cel) := ⟨fun h => absurd h htn, fun _ => ⟨ht6, by rw [hcell]; simp [Array.getElem?_setIfInBounds, hlt]⟩⟩
            have hrel := hr.putE (k := 0) hbB ha0 he1 (e1 := .inl (t0, n1, va_cpy f g sp.toNatClampNeg dp.toNatClampNeg n.toNatClampNeg)) rfl hat hz oq
            obtain ⟨t, a1', b1⟩ := k _ _ _ _ _ ⟨hrel.1, hrel.2.1, ⟨hrel.2.2.1.1, hrel.2.2.1.2.1, fun q hq => by
              rcases List.mem_append.mp hq with h | h
              · exact hr.2.2.1.2.2 q h
              · obtain ⟨z, -, hz⟩ := List.mem_map.mp h
                rw [← hz]
                exact mj_ad_ge ha0⟩, hrel.2.2.2⟩ _ hheap X'
            exact ⟨t, step t a1', b1⟩
          · cases hs
        · cases hs
      · cases hs
    · cases hs
  · split at hs
    · split at hs
      · rename_i hc0
        cases hs
        cases ins <;> simp only [mj_okP, Bool.and_eq_true, decide_eq_true_eq] at ho <;> (try exact absurd ho Bool.false_ne_true) <;> (try exact absurd ho.2 Bool.false_ne_true)
        exact W.objInit hx hb hown (hts _ (mj_w_of ho.2).1 (mj_w_of ho.2).2) (hw o1) (hw o2) rfl (by rw [hsz]) rfl ho.1 hRf (by rw [mj_cat_map]; show 2 * 0 + _ + _ ≤ _; omega) (k _ _ _ _ _ hr)
      · cases hs
    · cases hs
  · cases hs
end MJP
