/-! The last two steps, and all of them as one. -/
section MJC
variable {p : Program} {l : Launch} {e : Env} {R : Room} {s : State} {m : MethodId} {args : Array Value} {below : List Frame} {meth : Method} {c : Code} {H : Heap} {locs : List Loc} {cells slots : Nat} {Q : State → Prop}
variable {y : MethodName} {cc : ByteArray} {nL B b n0 s0 : Nat} {D : va_G} {dA : Nat → ClassId} {pc : Nat} {loc : mj_L} {st : List Value} {h : mj_H} {ls : Array Slot}
theorem mj_rows_len (n k z : Nat) : (mj_rows n k z).length = n := by simp [mj_rows]
theorem mj_rows_get {n k z j : Nat} {e : mj_E} (h : (mj_rows n k z)[j]? = some e) : j < n ∧ e = .inl (1, k, fun _ => .long 0) := by
  have hl := (List.getElem?_eq_some_iff.mp h).1
  rw [mj_rows_len] at hl
  refine ⟨hl, ?_⟩
  simp only [mj_rows, List.getElem?_map] at h
  obtain ⟨x, -, hx⟩ := Option.map_eq_some_iff.mp h
  exact hx.symm
theorem mj_rows_sl : ∀ (n k z : Nat), mj_sl (mj_rows n k z) = n * k := by
  intro n k z
  unfold mj_rows mj_sl
  induction n with
  | zero => simp
  | succ n ih =>
    rw [List.range_succ, List.map_append, List.map_append, List.sum_append, ih]
    simp [mj_slot, Nat.succ_mul]

theorem mj_s_multi {r1 r2 r3 r4 r5 : Nat} {i dm : Nat} (C : mj_Ctx p s m args meth c y cc nL B b D dA) (hd : decode cc pc = .ok (.multianewarray i dm, mj_len (.multianewarray i dm))) (ho : mj_okS y pc (.multianewarray i dm) r1 r2 r3 r4 r5 = true) {pc' : Nat} {loc' : mj_L} {st' : List Value} {h' : mj_H} (hs : mj_step (.multianewarray i dm) r1 r2 r3 mj_new pc loc st h = some (pc', loc', st', h')) (hr : mj_Rel B b D dA s nL n0 s0 loc h ls H locs cells slots)
    (hcl : h'.length ≤ n0 + R.cells) (hsl : mj_sl h' ≤ s0 + R.slots)
    (k : ∀ (ls' : Array Slot) (H' : Heap) (locs' : List Loc) (cells' slots' : Nat), mj_Rel B b D dA s nL n0 s0 loc' h' ls' H' locs' cells' slots' → W p l e R s m args below meth c H' locs' cells' slots' Q (F0 m pc' ls' (st'.map (mj_rv B b)))) :
    W p l e R s m args below meth c H locs cells slots Q (F0 m pc ls (st.map (mj_rv B b))) := by
  obtain ⟨hx, hb, hml, hown, hts, hK, hB, hbB, hlk, hin⟩ := C
  simp only [mj_step] at hs
  split at hs
  · rename_i k0 n st0
    split at hs
    · rename_i hcond
      obtain ⟨hn, hk, hb1, hb2⟩ := hcond
      cases hs
      simp only [mj_okS, Bool.and_eq_true, decide_eq_true_eq] at ho
      obtain ⟨⟨⟨hdm, hw1⟩, hw2⟩, hw3⟩ := ho
      subst hdm
      generalize hN : n.toNatClampNeg = N at *
      generalize hM : k0.toNatClampNeg = M at *
      have hl : (h ++ (Sum.inl (6, N, fun i => if i < N then Value.ref (h.length + 1 + i) else Value.null) :: mj_rows N M 0) : mj_H).length = h.length + 1 + N := by
        rw [List.length_append, List.length_cons, mj_rows_len]; omega
      have hsl2 : mj_sl (h ++ (Sum.inl (6, N, fun i => if i < N then Value.ref (h.length + 1 + i) else Value.null) :: mj_rows N M 0) : mj_H) = mj_sl h + N + N * M := by
        have h1 : ∀ a b : mj_H, mj_sl (a ++ b) = mj_sl a + mj_sl b := fun a b => by simp [mj_sl]
        have h2 : ∀ (x : mj_E) (b : mj_H), mj_sl (x :: b) = mj_slot x + mj_sl b := fun a b => by simp [mj_sl]
        rw [h1, h2, mj_rows_sl]
        simp only [mj_slot]
        omega
      rw [hl] at hcl
      rw [hsl2] at hsl
      have hc0 := hr.2.2.2.1
      have hs0 := hr.2.2.2.2
      intro T hT X
      obtain ⟨vm₁, cA, comp, hW, hfA, hfC, X1, step⟩ := mj_multi (ty := .long) X hx hown (hts _ (mj_w_of hw1).1 (mj_w_of hw1).2) (hts _ (mj_w_of hw2).1 (mj_w_of hw2).2) (hts _ (mj_w_of hw3).1 (mj_w_of hw3).2) (g := F0 m pc ls (.int k0 :: .int n :: st0.map (mj_rv B b))) rfl (by rw [hb]; exact hd) rfl (mj_not_lt hn) (mj_not_lt hk) (by rw [hN]; exact hb1) (by rw [hM]; exact hb2) (by rw [hM]; omega) rfl rfl (by rw [hN]; omega) (by rw [hN, hM]; omega)
      rw [hN, hM] at X1 step
      have hcA : cA = dA 6 := by
        have h6 : s.vm.findClass ("[" ++ (FieldType.array .long).toString) = some (dA 6) := (hK.2 6 _ (mj_tys_at dA (Nat.le_refl 6))).2
        exact Option.some.inj (hfA.symm.trans h6)
      have hcB : comp = dA 1 := by
        have h6 : s.vm.findClass ("[" ++ FieldType.long.toString) = some (dA 1) := (hK.2 1 _ (mj_tys_at dA (by decide))).2
        exact Option.some.inj (hfC.symm.trans h6)
      subst hcA
      subst hcB
      generalize hF : mj_mf (T.setVm vm₁) (dA 6) (dA 1) N M (defaultValue .long) N = F at X1 step
      have hTh : (T.setVm vm₁).heap = H := hT
      obtain ⟨f1, f2, -, -⟩ := mj_mf_f (T.setVm vm₁) (dA 6) (dA 1) N M (defaultValue .long) N
      rw [hF, hTh] at f1 f2
      have fold : ∀ x : Nat, x < H.size → F.heap[x]? = H[x]? := fun x hx => by
        have := mj_mf_old (T.setVm vm₁) (dA 6) (dA 1) N M (defaultValue .long) (a := x) (by rw [hTh]; exact hx) N
        rw [hF, hTh] at this
        exact this
      have frow : ∀ j : Nat, j < N → F.heap[H.size + 1 + j]? = some (mj_mi (dA 1) M (.long 0)) := fun j hj => by
        have := mj_mf_in (T.setVm vm₁) (dA 6) (dA 1) N M (defaultValue .long) N j hj
        rw [hF, hTh] at this
        exact this
      have hz := hr.1.1
      obtain ⟨L0, xs0, h00⟩ := hr.1.2.1
      have hlp : 0 < h.length := (List.getElem?_eq_some_iff.mp h00).1
      have had : ∀ j, mj_ad B b (h.length + j) = H.size + j := fun j => by
        cases hh : h.length + j with
        | zero => omega
        | succ z => simp only [mj_ad]; omega
      have hrel : mj_Rel B b D dA s nL n0 s0 loc (h ++ (Sum.inl (6, N, fun i => if i < N then Value.ref (h.length + 1 + i) else Value.null) :: mj_rows N M 0)) ls F.heap (locs ++ (List.range N).map fun j => ⟨T.heap.size, j⟩) (cells + 1 + N) (slots + N + N * M) := by
        refine ⟨⟨by rw [f1, hl]; omega, ⟨L0, xs0, by rw [List.getElem?_append_left hlp]; exact h00⟩, fun j x hxj => ?_⟩, hr.2.1, ⟨by rw [f1]; have := hr.2.2.1.1; omega, fun q hq hA => (fold q (Nat.lt_of_lt_of_le hq hr.2.2.1.1)).trans (hr.2.2.1.2.1 q hq hA), fun q hq => ?_⟩, by rw [hl]; omega, by rw [hsl2]; omega⟩
        · by_cases hj : j < h.length
          · rw [List.getElem?_append_left hj] at hxj
            exact (hr.1.2.2 j x hxj).kept (fold _ (hr.1.lt hbB hxj))
          · rw [List.getElem?_append_right (by omega)] at hxj
            obtain ⟨i0, rfl⟩ : ∃ i0, j = h.length + i0 := ⟨j - h.length, by omega⟩
            rw [show h.length + i0 - h.length = i0 by omega] at hxj
            rw [had]
            cases i0 with
            | zero =>
              simp only [List.getElem?_cons_zero, Option.some.injEq] at hxj
              subst hxj
              refine ⟨fun h => absurd h (by decide), fun _ => ⟨Nat.le_refl 6, ?_⟩⟩
              rw [Nat.add_zero, f2]
              unfold mj_mo
              refine congrArg (fun z => some (arrV (dA 6) N z)) (funext fun j => ?_)
              by_cases hjN : j < N
              · simp only [hjN, if_true, mj_rv]
                rw [show h.length + 1 + j = h.length + (1 + j) by omega, had]
                exact congrArg Value.ref (Nat.add_assoc H.size 1 j)
              · simp only [hjN, if_false, mj_rv]
            | succ z =>
              simp only [List.getElem?_cons_succ] at hxj
              obtain ⟨hzN, rfl⟩ := mj_rows_get hxj
              refine ⟨fun h => absurd h (by decide), fun _ => ⟨by decide, ?_⟩⟩
              rw [show H.size + (z + 1) = H.size + 1 + z by omega, frow z hzN]
              unfold mj_mi
              rw [arrV_new]
              rfl
        · rcases List.mem_append.mp hq with h1 | h1
          · exact hr.2.2.1.2.2 q h1
          · obtain ⟨j, -, rfl⟩ := List.mem_map.mp h1
            show B ≤ T.heap.size
            rw [hT]
            exact Nat.le_trans hB hr.2.2.1.1
      obtain ⟨t, a1, b1⟩ := k _ _ _ _ _ hrel F rfl X1
      refine ⟨t, step t ?_, b1⟩
      have h9 : mj_rv B b (Value.ref h.length) = Value.ref T.heap.size := by
        have := had 0
        rw [Nat.add_zero, Nat.add_zero] at this
        simp only [mj_rv, this, hT]
      rw [List.map_cons, h9] at a1
      exact a1
    · cases hs
  · cases hs
theorem mj_s_switch {r1 r2 r3 len : Nat} {dflt lo hi : Int} {offs : Array Int} (C : mj_Ctx p s m args meth c y cc nL B b D dA) (hd : decode cc pc = .ok (.tableswitch dflt lo hi offs, len)) {pc' : Nat} {loc' : mj_L} {st' : List Value} {h' : mj_H} (hs : mj_step (.tableswitch dflt lo hi offs) r1 r2 r3 mj_new pc loc st h = some (pc', loc', st', h')) (hr : mj_Rel B b D dA s nL n0 s0 loc h ls H locs cells slots)
    (k : ∀ (ls' : Array Slot) (H' : Heap) (locs' : List Loc) (cells' slots' : Nat), mj_Rel B b D dA s nL n0 s0 loc' h' ls' H' locs' cells' slots' → W p l e R s m args below meth c H' locs' cells' slots' Q (F0 m pc' ls' (st'.map (mj_rv B b)))) :
    W p l e R s m args below meth c H locs cells slots Q (F0 m pc ls (st.map (mj_rv B b))) := by
  obtain ⟨hx, hb, hml, hown, hts, hK, hB, hbB, hlk, hin⟩ := C
  simp only [mj_step] at hs
  split at hs
  · rename_i x st0
    split at hs
    · rename_i h0
      split at hs
      · rename_i h1
        cases hs
        exact lv_tableOut hx hb hd h0 (Int.toNat_of_nonneg h1).symm (k _ _ _ _ _ hr)
      · cases hs
    · rename_i h0
      split at hs
      · rename_i off hoff
        split at hs
        · rename_i h1
          cases hs
          exact lv_tableIn hx hb hd (fun q => h0 (Or.inl q)) (fun q => h0 (Or.inr q)) hoff (Int.toNat_of_nonneg h1).symm (k _ _ _ _ _ hr)
        · cases hs
      · cases hs
  · cases hs

set_option maxHeartbeats 4000000 in
theorem mj_sim {ins : Instr} {r1 r2 r3 r4 r5 : Nat} (C : mj_Ctx p s m args meth c y cc nL B b D dA) (hok : mj_ok y cc pc (ins, r1, r2, r3, r4, r5) = true) {pc' : Nat} {loc' : mj_L} {st' : List Value} {h' : mj_H} (hs : mj_step ins r1 r2 r3 mj_new pc loc st h = some (pc', loc', st', h')) (hr : mj_Rel B b D dA s nL n0 s0 loc h ls H locs cells slots)
    (hcl : h'.length ≤ n0 + R.cells) (hsl : mj_sl h' ≤ s0 + R.slots)
    (k : ∀ (ls' : Array Slot) (H' : Heap) (locs' : List Loc) (cells' slots' : Nat), mj_Rel B b D dA s nL n0 s0 loc' h' ls' H' locs' cells' slots' → W p l e R s m args below meth c H' locs' cells' slots' Q (F0 m pc' ls' (st'.map (mj_rv B b)))) :
    W p l e R s m args below meth c H locs cells slots Q (F0 m pc ls (st.map (mj_rv B b))) := by
  cases ins
  case iadd  =>
    simp only [mj_ok, Bool.and_eq_true, decide_eq_true_eq] at hok
    exact mj_s_iadd C hok.1 hok.2 hs hr hcl hsl k
  case isub  =>
    simp only [mj_ok, Bool.and_eq_true, decide_eq_true_eq] at hok
    exact mj_s_isub C hok.1 hok.2 hs hr hcl hsl k
  case imul  =>
    simp only [mj_ok, Bool.and_eq_true, decide_eq_true_eq] at hok
    exact mj_s_imul C hok.1 hok.2 hs hr hcl hsl k
  case ineg  =>
    simp only [mj_ok, Bool.and_eq_true, decide_eq_true_eq] at hok
    exact mj_s_ineg C hok.1 hok.2 hs hr hcl hsl k
  case iand  =>
    simp only [mj_ok, Bool.and_eq_true, decide_eq_true_eq] at hok
    exact mj_s_iand C hok.1 hok.2 hs hr hcl hsl k
  case ishr  =>
    simp only [mj_ok, Bool.and_eq_true, decide_eq_true_eq] at hok
    exact mj_s_ishr C hok.1 hok.2 hs hr hcl hsl k
  case iushr  =>
    simp only [mj_ok, Bool.and_eq_true, decide_eq_true_eq] at hok
    exact mj_s_iushr C hok.1 hok.2 hs hr hcl hsl k
  case ladd  =>
    simp only [mj_ok, Bool.and_eq_true, decide_eq_true_eq] at hok
    exact mj_s_ladd C hok.1 hok.2 hs hr hcl hsl k
  case lsub  =>
    simp only [mj_ok, Bool.and_eq_true, decide_eq_true_eq] at hok
    exact mj_s_lsub C hok.1 hok.2 hs hr hcl hsl k
  case lmul  =>
    simp only [mj_ok, Bool.and_eq_true, decide_eq_true_eq] at hok
    exact mj_s_lmul C hok.1 hok.2 hs hr hcl hsl k
  case lneg  =>
    simp only [mj_ok, Bool.and_eq_true, decide_eq_true_eq] at hok
    exact mj_s_lneg C hok.1 hok.2 hs hr hcl hsl k
  case land  =>
    simp only [mj_ok, Bool.and_eq_true, decide_eq_true_eq] at hok
    exact mj_s_land C hok.1 hok.2 hs hr hcl hsl k
  case lor  =>
    simp only [mj_ok, Bool.and_eq_true, decide_eq_true_eq] at hok
    exact mj_s_lor C hok.1 hok.2 hs hr hcl hsl k
  case lshl  =>
    simp only [mj_ok, Bool.and_eq_true, decide_eq_true_eq] at hok
    exact mj_s_lshl C hok.1 hok.2 hs hr hcl hsl k
  case lcmp  =>
    simp only [mj_ok, Bool.and_eq_true, decide_eq_true_eq] at hok
    exact mj_s_lcmp C hok.1 hok.2 hs hr hcl hsl k
  case i2l  =>
    simp only [mj_ok, Bool.and_eq_true, decide_eq_true_eq] at hok
    exact mj_s_i2l C hok.1 hok.2 hs hr hcl hsl k
  case l2i  =>
    simp only [mj_ok, Bool.and_eq_true, decide_eq_true_eq] at hok
    exact mj_s_l2i C hok.1 hok.2 hs hr hcl hsl k
  case i2b  =>
    simp only [mj_ok, Bool.and_eq_true, decide_eq_true_eq] at hok
    exact mj_s_i2b C hok.1 hok.2 hs hr hcl hsl k
  case i2f  =>
    simp only [mj_ok, Bool.and_eq_true, decide_eq_true_eq] at hok
    exact mj_s_i2f C hok.1 hok.2 hs hr hcl hsl k
  case i2d  =>
    simp only [mj_ok, Bool.and_eq_true, decide_eq_true_eq] at hok
    exact mj_s_i2d C hok.1 hok.2 hs hr hcl hsl k
  case dcmp op =>
    simp only [mj_ok, Bool.and_eq_true, decide_eq_true_eq] at hok
    exact mj_s_dcmp C hok.1 hok.2 hs hr hcl hsl k
  case idiv  =>
    simp only [mj_ok, Bool.and_eq_true, decide_eq_true_eq] at hok
    exact mj_s_idiv C hok.1 hok.2 hs hr hcl hsl k
  case irem  =>
    simp only [mj_ok, Bool.and_eq_true, decide_eq_true_eq] at hok
    exact mj_s_irem C hok.1 hok.2 hs hr hcl hsl k
  case ldiv  =>
    simp only [mj_ok, Bool.and_eq_true, decide_eq_true_eq] at hok
    exact mj_s_ldiv C hok.1 hok.2 hs hr hcl hsl k
  case lrem  =>
    simp only [mj_ok, Bool.and_eq_true, decide_eq_true_eq] at hok
    exact mj_s_lrem C hok.1 hok.2 hs hr hcl hsl k
  case fdiv  =>
    simp only [mj_ok, Bool.and_eq_true, decide_eq_true_eq] at hok
    exact mj_s_fdiv C hok.1 hok.2 hs hr hcl hsl k
  case ddiv  =>
    simp only [mj_ok, Bool.and_eq_true, decide_eq_true_eq] at hok
    exact mj_s_ddiv C hok.1 hok.2 hs hr hcl hsl k
  case f2d  =>
    simp only [mj_ok, Bool.and_eq_true, decide_eq_true_eq] at hok
    exact mj_s_f2d C hok.1 hok.2 hs hr hcl hsl k
  case iconst n =>
    simp only [mj_ok, Bool.and_eq_true, decide_eq_true_eq] at hok
    exact mj_s_iconst C hok.1 hok.2 hs hr hcl hsl k
  case lconst n =>
    simp only [mj_ok, Bool.and_eq_true, decide_eq_true_eq] at hok
    exact mj_s_lconst C hok.1 hok.2 hs hr hcl hsl k
  case bipush n =>
    simp only [mj_ok, Bool.and_eq_true, decide_eq_true_eq] at hok
    exact mj_s_bipush C hok.1 hok.2 hs hr hcl hsl k
  case sipush n =>
    simp only [mj_ok, Bool.and_eq_true, decide_eq_true_eq] at hok
    exact mj_s_sipush C hok.1 hok.2 hs hr hcl hsl k
  case iload n =>
    simp only [mj_ok, Bool.and_eq_true, decide_eq_true_eq] at hok
    exact mj_s_iload C hok.1 hok.2 hs hr hcl hsl k
  case iload_n n =>
    simp only [mj_ok, Bool.and_eq_true, decide_eq_true_eq] at hok
    exact mj_s_iload_n C hok.1 hok.2 hs hr hcl hsl k
  case lload n =>
    simp only [mj_ok, Bool.and_eq_true, decide_eq_true_eq] at hok
    exact mj_s_lload C hok.1 hok.2 hs hr hcl hsl k
  case lload_n n =>
    simp only [mj_ok, Bool.and_eq_true, decide_eq_true_eq] at hok
    exact mj_s_lload_n C hok.1 hok.2 hs hr hcl hsl k
  case dload n =>
    simp only [mj_ok, Bool.and_eq_true, decide_eq_true_eq] at hok
    exact mj_s_dload C hok.1 hok.2 hs hr hcl hsl k
  case dload_n n =>
    simp only [mj_ok, Bool.and_eq_true, decide_eq_true_eq] at hok
    exact mj_s_dload_n C hok.1 hok.2 hs hr hcl hsl k
  case aload n =>
    simp only [mj_ok, Bool.and_eq_true, decide_eq_true_eq] at hok
    exact mj_s_aload C hok.1 hok.2 hs hr hcl hsl k
  case aload_n n =>
    simp only [mj_ok, Bool.and_eq_true, decide_eq_true_eq] at hok
    exact mj_s_aload_n C hok.1 hok.2 hs hr hcl hsl k
  case istore n =>
    simp only [mj_ok, Bool.and_eq_true, decide_eq_true_eq] at hok
    exact mj_s_istore C hok.1 hok.2 hs hr hcl hsl k
  case istore_n n =>
    simp only [mj_ok, Bool.and_eq_true, decide_eq_true_eq] at hok
    exact mj_s_istore_n C hok.1 hok.2 hs hr hcl hsl k
  case astore n =>
    simp only [mj_ok, Bool.and_eq_true, decide_eq_true_eq] at hok
    exact mj_s_astore C hok.1 hok.2 hs hr hcl hsl k
  case astore_n n =>
    simp only [mj_ok, Bool.and_eq_true, decide_eq_true_eq] at hok
    exact mj_s_astore_n C hok.1 hok.2 hs hr hcl hsl k
  case lstore n =>
    simp only [mj_ok, Bool.and_eq_true, decide_eq_true_eq] at hok
    exact mj_s_lstore C hok.1 hok.2 hs hr hcl hsl k
  case lstore_n n =>
    simp only [mj_ok, Bool.and_eq_true, decide_eq_true_eq] at hok
    exact mj_s_lstore_n C hok.1 hok.2 hs hr hcl hsl k
  case dstore n =>
    simp only [mj_ok, Bool.and_eq_true, decide_eq_true_eq] at hok
    exact mj_s_dstore C hok.1 hok.2 hs hr hcl hsl k
  case dstore_n n =>
    simp only [mj_ok, Bool.and_eq_true, decide_eq_true_eq] at hok
    exact mj_s_dstore_n C hok.1 hok.2 hs hr hcl hsl k
  case iinc n z =>
    simp only [mj_ok, Bool.and_eq_true, decide_eq_true_eq] at hok
    exact mj_s_iinc C hok.1 hok.2 hs hr hcl hsl k
  case goto off =>
    simp only [mj_ok, Bool.and_eq_true, decide_eq_true_eq] at hok
    exact mj_s_goto C hok.1 hok.2 hs hr hcl hsl k
  case ifCond cd off =>
    simp only [mj_ok, Bool.and_eq_true, decide_eq_true_eq] at hok
    exact mj_s_ifCond C hok.1 hok.2 hs hr hcl hsl k
  case if_icmp cd off =>
    simp only [mj_ok, Bool.and_eq_true, decide_eq_true_eq] at hok
    exact mj_s_if_icmp C hok.1 hok.2 hs hr hcl hsl k
  case dup  =>
    simp only [mj_ok, Bool.and_eq_true, decide_eq_true_eq] at hok
    exact mj_s_dup C hok.1 hok.2 hs hr hcl hsl k
  case dup2  =>
    simp only [mj_ok, Bool.and_eq_true, decide_eq_true_eq] at hok
    exact mj_s_dup2 C hok.1 hok.2 hs hr hcl hsl k
  case pop  =>
    simp only [mj_ok, Bool.and_eq_true, decide_eq_true_eq] at hok
    exact mj_s_pop C hok.1 hok.2 hs hr hcl hsl k
  case pop2  =>
    simp only [mj_ok, Bool.and_eq_true, decide_eq_true_eq] at hok
    exact mj_s_pop2 C hok.1 hok.2 hs hr hcl hsl k
  case ldc i =>
    simp only [mj_ok, Bool.and_eq_true, decide_eq_true_eq] at hok
    exact mj_s_ldc C hok.1 hok.2 hs hr hcl hsl k
  case ldc_w i =>
    simp only [mj_ok, Bool.and_eq_true, decide_eq_true_eq] at hok
    exact mj_s_ldc_w C hok.1 hok.2 hs hr hcl hsl k
  case ldc2_w i =>
    simp only [mj_ok, Bool.and_eq_true, decide_eq_true_eq] at hok
    exact mj_s_ldc2_w C hok.1 hok.2 hs hr hcl hsl k
  case getfield i =>
    simp only [mj_ok, Bool.and_eq_true, decide_eq_true_eq] at hok
    exact mj_s_getfield C hok.1 hok.2 hs hr hcl hsl k
  case putfield i =>
    simp only [mj_ok, Bool.and_eq_true, decide_eq_true_eq] at hok
    exact mj_s_putfield C hok.1 hok.2 hs hr hcl hsl k
  case newarray i =>
    simp only [mj_ok, Bool.and_eq_true, decide_eq_true_eq] at hok
    exact mj_s_newarray C hok.1 hok.2 hs hr hcl hsl k
  case anewarray i =>
    simp only [mj_ok, Bool.and_eq_true, decide_eq_true_eq] at hok
    exact mj_s_anewarray C hok.1 hok.2 hs hr hcl hsl k
  case new i =>
    simp only [mj_ok, Bool.and_eq_true, decide_eq_true_eq] at hok
    exact mj_s_new C hok.1 hok.2 hs hr hcl hsl k
  case arraylength  =>
    simp only [mj_ok, Bool.and_eq_true, decide_eq_true_eq] at hok
    exact mj_s_arraylength C hok.1 hok.2 hs hr hcl hsl k
  case iaload  =>
    simp only [mj_ok, Bool.and_eq_true, decide_eq_true_eq] at hok
    exact mj_s_iaload C hok.1 hok.2 hs hr hcl hsl k
  case laload  =>
    simp only [mj_ok, Bool.and_eq_true, decide_eq_true_eq] at hok
    exact mj_s_laload C hok.1 hok.2 hs hr hcl hsl k
  case baload  =>
    simp only [mj_ok, Bool.and_eq_true, decide_eq_true_eq] at hok
    exact mj_s_baload C hok.1 hok.2 hs hr hcl hsl k
  case aaload  =>
    simp only [mj_ok, Bool.and_eq_true, decide_eq_true_eq] at hok
    exact mj_s_aaload C hok.1 hok.2 hs hr hcl hsl k
  case iastore  =>
    simp only [mj_ok, Bool.and_eq_true, decide_eq_true_eq] at hok
    exact mj_s_iastore C hok.1 hok.2 hs hr hcl hsl k
  case lastore  =>
    simp only [mj_ok, Bool.and_eq_true, decide_eq_true_eq] at hok
    exact mj_s_lastore C hok.1 hok.2 hs hr hcl hsl k
  case bastore  =>
    simp only [mj_ok, Bool.and_eq_true, decide_eq_true_eq] at hok
    exact mj_s_bastore C hok.1 hok.2 hs hr hcl hsl k
  case aastore  =>
    simp only [mj_ok, Bool.and_eq_true, decide_eq_true_eq] at hok
    exact mj_s_aastore C hok.1 hok.2 hs hr hcl hsl k
  case multianewarray i dm =>
    simp only [mj_ok, Bool.and_eq_true, decide_eq_true_eq] at hok
    exact mj_s_multi C hok.1 hok.2 hs hr hcl hsl k
  case tableswitch d lo hi os =>
    simp only [mj_ok, decide_eq_true_eq] at hok
    exact mj_s_switch C hok hs hr k
  all_goals (simp only [mj_step] at hs; cases hs)
end MJC
