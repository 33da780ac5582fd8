/-! A call by the contract of its callee; the loop; every run. -/
section MJK
variable {p : Program} {l : Launch} {e : Env} {R : Room} {s : State} {m : MethodId} {args : Array Value} {below : List Frame} {meth : Method} {c : Code} {H : Heap} {locs : List Loc} {cells slots : Nat} {Q : State → Prop}
variable {y : MethodName} {cc : ByteArray} {nL B b n0 s0 : Nat} {D : va_G} {dA : Nat → ClassId} {pc : Nat} {loc : mj_L} {st : List Value} {h : mj_H} {ls : Array Slot}
theorem mj_callrow {r1 : mj_R} {mc1 ms1 : Nat} {st0 rest : List Value} {a9 : Array Value} (hS : va_S (fun q => B ≤ q) s.heap H locs) (hr : vx_Run p l e R s m args below meth c H locs cells slots mc1 ms1 (F0 m pc ls st0) rest (mj_Qc B b D dA r1 a9) (mj_Xc B b D dA r1) (fun q => B ≤ q))
    (k1 : ∀ v, r1.1 = .inl v → ∀ (H1 : Heap) (locs1 : List Loc), mj_HR B b D dA s r1.2 H1 → va_S (fun q => B ≤ q) s.heap H1 locs1 → W p l e R s m args below meth c H1 locs1 (cells + mc1) (slots + ms1) Q (F0 m (pc + 3) ls (v.toList.map (mj_rv B b) ++ rest)))
    (k2 : ∀ i, r1.1 = .inr i → i < 5 → ∀ (H1 : Heap) (locs1 : List Loc) (q : Addr) (ce : Cell), mj_HR B b D dA s r1.2 H1 → va_S (fun q => B ≤ q) s.heap H1 locs1 → H1[q]? = some ce → ce.vm = .none → s.vm.findClass (mj_exc i) = some ce.cls → vx_W p l e R s m args below meth c H1 locs1 (cells + mc1) (slots + ms1) Q (F0 m pc ls rest) q) :
    W p l e R s m args below meth c H locs cells slots Q (F0 m pc ls st0) := by
  intro T hT X
  have hS2 : ∀ (st₀ t T' : State) (L : List Loc), st₀.heap = H → T'.heap = t.heap → (∀ q ∈ L, B ≤ q.base) → va_F (fun q => B ≤ q) st₀ t → va_S (fun q => B ≤ q) s.heap T'.heap (locs ++ L) := by
    intro st₀ t T' L h0 e1 hL hF
    obtain ⟨f1, f2⟩ := hF
    rw [h0] at f1 f2
    refine ⟨by rw [e1]; exact Nat.le_trans hS.1 f1, fun q g1 g2 => by rw [e1, f2 q (Nat.lt_of_lt_of_le g1 hS.1) g2]; exact hS.2.1 q g1 g2, fun q hq => ?_⟩
    rcases List.mem_append.mp hq with h | h
    · exact hS.2.2 q h
    · exact hL q h
  rcases hr T hT X with ⟨v, st₀, t, T', L, h0, X', hL, e1, e2, ⟨v', hv1, hv2, hHR, hF⟩, st⟩ | ⟨q, st₀, t, T', L, E, ce, h0, X', hL, e1, e2, ⟨i, hi1, hi2, hi3, hHR, hF⟩, hce, hcv, hcl, st⟩
  · have hal : t.vm.Alike s.vm := by rw [← e2]; exact X'.warmed.alike.symm
    have hv3 : v = v'.map (mj_rv B b) := Outcome.returned.inj hv2
    subst hv3
    obtain ⟨t2, a1, b1⟩ := k1 v' hv1 T'.heap (locs ++ L) (by rw [e1]; exact hHR.moved hal) (hS2 st₀ t T' L h0 e1 hL hF) T' rfl X'
    refine ⟨t2, st t2 ?_, b1⟩
    cases v' with
    | none => exact a1
    | some w => exact a1
  · have hal : t.vm.Alike s.vm := by rw [← e2]; exact X'.warmed.alike.symm
    subst hi3
    obtain ⟨t2, a1, b1⟩ := k2 i hi1 hi2 T'.heap (locs ++ L) q ce (by rw [e1]; exact hHR.moved hal) (hS2 st₀ t T' L h0 e1 hL hF) (by rw [e1]; exact hce) hcv hcl T' rfl X'
    exact ⟨t2, st.trans a1, b1⟩
theorem mj_mkrun {P : List mj_M} {ins : Instr} {r1 r2 r3 r4 r5 d : Nat} {M' : mj_M} {r' : mj_R} {h0 : mj_H} (C : mj_Ctx p s m args meth c y cc nL B b D dA) (hI : mj_Inv B b D dA h0 s) (hok : mj_okC P y cc pc ins r1 r2 r3 r4 r5 = true) (hP : P[r1]? = some M') (hM : mj_okM M' = true) (hr : mj_Rel B b D dA s nL n0 s0 loc h ls H locs cells slots)
    (h2 : r2 ≤ st.length) (h8 : mj_cat (st.drop r2) ≤ 8) (hrec : mj_recv ins r2 r5 st h = true) (hSp : mj_Spec l B b D dA d M' (st.take r2).reverse h r') (hRf : d + 9 ≤ R.frames) (hRl : 200 + d * 64 ≤ R.locals) (hc : cells + (r'.2.length - h.length) ≤ R.cells) (hs : slots + (mj_sl r'.2 - mj_sl h) ≤ R.slots) :
    ∃ a9, vx_Run p l e R s m args below meth c H locs cells slots (r'.2.length - h.length) (mj_sl r'.2 - mj_sl h) (F0 m pc ls (st.map (mj_rv B b))) ((st.drop r2).map (mj_rv B b)) (mj_Qc B b D dA r' a9) (mj_Xc B b D dA r') (fun q => B ≤ q) := by
  obtain ⟨hx, hb, hml, hown, hts, hK, hB, hbB, hlk, hin⟩ := C
  obtain ⟨y', cc', n', ret', code', hs', kd', i1, i2, i3, i4⟩ := M'
  have hsz : ls.size = nL := hr.2.1.1
  simp only [mj_okM, Bool.and_eq_true, decide_eq_true_eq] at hM
  obtain ⟨⟨⟨⟨⟨⟨⟨hpl, hw1⟩, hw2⟩, hn⟩, hy1⟩, hy2⟩, hhs⟩, hkd⟩ := hM
  simp only [mj_okC, hP, Bool.and_eq_true] at hok
  obtain ⟨hlk2, hok⟩ := hok
  have hcode : (mj_code (y', cc', n', ret', code', hs', kd', i1, i2, i3, i4)).before args s = true := hts _ (mj_w_of hw1).1 (mj_w_of hw1).2
  have hws : ∀ w ∈ [mj_code (y', cc', n', ret', code', hs', kd', i1, i2, i3, i4)], ∀ (a' : Array Value) (U : State), s.WarmedH U.vm → w.before a' U = true := by
    intro w hw a' U hW
    rw [List.mem_singleton.mp hw]
    exact mj_move (mj_w_of hw1).2 hW hcode
  have hini : (Jvm.Cond.initialized y'.cls).before args s = true := hts _ (mj_w_of hw2).1 (mj_w_of hw2).2
  have hPc : ∀ U : State, U.heap = H → s.WarmedH U.vm → mj_Pc B b D dA h (st.take r2).reverse (((st.take r2).reverse.map (mj_rv B b)).toArray) U := fun U hU hW => ⟨rfl, hI.at hr.1 hr.2.2.1 hU hW⟩
  have hroom : (mj_rm d (r'.2.length - h.length) (mj_sl r'.2 - mj_sl h)).frames + 1 ≤ R.frames ∧ 8 + (n' + 11) + (mj_rm d (r'.2.length - h.length) (mj_sl r'.2 - mj_sl h)).locals ≤ R.locals := by
    simp only [mj_rm]
    omega
  have hW8 : 2 * (F0 m pc ls (st.map (mj_rv B b))).monitorRoom + (((st.drop r2).map (mj_rv B b)).map fun v => v.category).sum ≤ 8 := by
    rw [mj_cat_map]
    show 2 * 0 + _ ≤ 8
    omega
  have hS : CallFix p m c cc nL s args [] y.cls := ⟨hx, hb, hml, hown, fun w h => nomatch h⟩
  cases ins <;> simp only [] at hok hlk2 <;> (try exact absurd hok Bool.false_ne_true)
  case invokespecial i =>
    simp only [Bool.and_eq_true, decide_eq_true_eq] at hok
    obtain ⟨⟨hd, hk0⟩, hnp⟩ := hok
    subst hk0
    simp only [Bool.and_eq_true, decide_eq_true_eq] at hkd
    obtain ⟨⟨⟨hw3, hyi⟩, hret⟩, hse⟩ := hkd
    have hs0 : hs' = [] := List.isEmpty_iff.mp hse
    subst hs0
    subst hret
    cases r2 with
    | zero => exact absurd hnp Bool.false_ne_true
    | succ n =>
      have hnp := of_decide_eq_true hnp
      have hlen : ∀ sig, parseMethodDescriptor y'.desc = some sig → n = sig.parameters.length := fun sig hsig => by
        unfold mj_np at hnp
        rw [hsig] at hnp
        exact (Option.some.inj hnp).symm
      simp only [mj_recv, Nat.add_sub_cancel] at hrec
      split at hrec
      · rename_i hz; cases hz
      · rename_i a tl hdr hne0
        have hta : st.take (n + 1) = st.take n ++ [.ref a] := by
          rw [List.take_add_one]
          have : st[n]? = some (.ref a) := by
            have h9 := congrArg (fun z : List Value => z[0]?) hdr
            simp only [List.getElem?_drop, List.getElem?_cons_zero, Nat.add_zero] at h9
            exact h9
          rw [this]; rfl
        have htd : st.drop (n + 1) = tl := by
          have h9 := congrArg (fun z : List Value => z.drop 1) hdr
          simpa [List.drop_drop] using h9
        have has : ((st.take (n + 1)).reverse.map (mj_rv B b)) = .ref (mj_ad B b a) :: ((st.take n).reverse.map (mj_rv B b)) := by
          rw [hta]; simp [mj_rv]
        have hstk : st.map (mj_rv B b) = ((st.take n).reverse.map (mj_rv B b)).reverse ++ .ref (mj_ad B b a) :: ((st.drop (n + 1)).map (mj_rv B b)) := by
          rw [htd]
          have h9 : st = st.take n ++ st.drop n := (List.take_append_drop n st).symm
          rw [hdr] at h9
          conv => lhs; rw [h9]
          simp [mj_rv]
        rw [has] at hPc
        have hnl : ((st.take n).reverse.map (mj_rv B b)).length = n := by simp; omega
        cases r3 with
        | zero =>
          exact ⟨_, vx_runI hS hSp ⟨⟨rfl, rfl, hroom.1, hroom.2, hws, List.mem_singleton.mpr rfl, hcode, hini, ⟨hy1, hy2⟩, hlen, hts _ (mj_w_of hlk2).1 (mj_w_of hlk2).2⟩, hyi, hts _ (mj_w_of hw3).1 (mj_w_of hw3).2⟩ ⟨mj_blind, hPc⟩ rfl hnl hsz hstk hW8 hd ⟨hc, hs⟩⟩
        | succ z =>
          exact ⟨_, vx_runIN hS hSp ⟨⟨⟨rfl, rfl, hroom.1, hroom.2, hws, List.mem_singleton.mpr rfl⟩, hcode, hini, ⟨hy1, hy2⟩, hlen, hts _ (mj_w_of hlk2).1 (mj_w_of hlk2).2⟩, hyi, hts _ (mj_w_of hw3).1 (mj_w_of hw3).2⟩ ⟨mj_blind, hPc⟩ rfl hnl hsz hstk hW8 hd ⟨hc, hs⟩⟩
      · cases hrec
  case invokestatic i =>
    simp only [Bool.and_eq_true, decide_eq_true_eq, Bool.or_eq_true] at hok
    obtain ⟨⟨⟨⟨hd, hk0⟩, hnp⟩, hse⟩, -⟩ := hok
    subst hk0
    simp only [Bool.and_eq_true, decide_eq_true_eq] at hkd
    obtain ⟨hw3, -⟩ := hkd
    have hlen : ∀ sig, parseMethodDescriptor y'.desc = some sig → r2 = sig.parameters.length := fun sig hsig => by
      unfold mj_np at hnp
      rw [hsig] at hnp
      exact (Option.some.inj hnp).symm
    have hstk : st.map (mj_rv B b) = ((st.take r2).reverse.map (mj_rv B b)).reverse ++ ((st.drop r2).map (mj_rv B b)) := by
      rw [← List.map_reverse, List.reverse_reverse, ← List.map_append, List.take_append_drop]
    have hnl : ((st.take r2).reverse.map (mj_rv B b)).length = r2 := by simp; omega
    have hst : (Jvm.Cond.static y').before args s = true := hts _ (mj_w_of hw3).1 (mj_w_of hw3).2
    cases hs' with
    | nil =>
      cases r3 with
      | zero =>
        exact ⟨_, vx_runS hS hSp ⟨⟨rfl, rfl, hroom.1, hroom.2, hws, List.mem_singleton.mpr rfl, hcode, hini, ⟨hy1, hy2⟩, hlen, hts _ (mj_w_of hlk2).1 (mj_w_of hlk2).2⟩, hst⟩ ⟨mj_blind, hPc⟩ rfl hnl hsz hstk hW8 hd ⟨hc, hs⟩⟩
      | succ z =>
        exact ⟨_, vx_runSN hS hSp ⟨⟨⟨rfl, rfl, hroom.1, hroom.2, hws, List.mem_singleton.mpr rfl⟩, hcode, hini, ⟨hy1, hy2⟩, hlen, hts _ (mj_w_of hlk2).1 (mj_w_of hlk2).2⟩, hst, trivial⟩ ⟨mj_blind, hPc⟩ rfl hnl hsz hstk hW8 hd ⟨hc, hs⟩⟩
    | cons q0 t0 =>
      rcases hse with hse | hse
      · cases hse
      · subst hse
        exact ⟨_, vx_runSX (hh := mj_four (q0 :: t0)) hS hSp ⟨⟨rfl, rfl, hroom.1, hroom.2, hws, List.mem_singleton.mpr rfl⟩, hcode, hini, ⟨hy1, hy2⟩, hlen, hts _ (mj_w_of hlk2).1 (mj_w_of hlk2).2, hst⟩ ⟨mj_blind, hPc⟩ rfl hnl hsz hstk hW8 hd ⟨hc, hs⟩⟩
  case invokevirtual i =>
    simp only [Bool.and_eq_true, decide_eq_true_eq] at hok
    obtain ⟨⟨⟨hd, hk0⟩, hnp⟩, hcl⟩ := hok
    subst hk0
    simp only [Bool.and_eq_true, decide_eq_true_eq] at hkd
    obtain ⟨⟨hw3, hw4⟩, hse⟩ := hkd
    have hs0 : hs' = [] := List.isEmpty_iff.mp hse
    subst hs0
    cases r2 with
    | zero => exact absurd hnp Bool.false_ne_true
    | succ n =>
      have hnp := of_decide_eq_true hnp
      have hlen : ∀ sig, parseMethodDescriptor y'.desc = some sig → n = sig.parameters.length := fun sig hsig => by
        unfold mj_np at hnp
        rw [hsig] at hnp
        exact (Option.some.inj hnp).symm
      simp only [mj_recv, Nat.add_sub_cancel] at hrec
      split at hrec
      · rename_i hz; cases hz
      · rename_i a tl hdr hne0
        split at hrec
        · rename_i ci fs hea
          have hci := of_decide_eq_true hrec
          subst hci
          split at hcl
          · rename_i q hq
            have hcl := of_decide_eq_true hcl
            have hta : st.take (n + 1) = st.take n ++ [.ref a] := by
              rw [List.take_add_one]
              have : st[n]? = some (.ref a) := by
                have h9 := congrArg (fun z : List Value => z[0]?) hdr
                simp only [List.getElem?_drop, List.getElem?_cons_zero, Nat.add_zero] at h9
                exact h9
              rw [this]; rfl
            have htd : st.drop (n + 1) = tl := by
              have h9 := congrArg (fun z : List Value => z.drop 1) hdr
              simpa [List.drop_drop] using h9
            have has : ((st.take (n + 1)).reverse.map (mj_rv B b)) = .ref (mj_ad B b a) :: ((st.take n).reverse.map (mj_rv B b)) := by
              rw [hta]; simp [mj_rv]
            have hstk : st.map (mj_rv B b) = ((st.take n).reverse.map (mj_rv B b)).reverse ++ .ref (mj_ad B b a) :: ((st.drop (n + 1)).map (mj_rv B b)) := by
              rw [htd]
              have h9 : st = st.take n ++ st.drop n := (List.take_append_drop n st).symm
              rw [hdr] at h9
              conv => lhs; rw [h9]
              simp [mj_rv]
            rw [has] at hPc
            have hnl : ((st.take n).reverse.map (mj_rv B b)).length = n := by simp; omega
            have hcell : ∃ cellB : Cell, H[mj_ad B b a]? = some cellB ∧ cellB.vm.isStatics = false ∧ s.vm.findClass y'.cls = some cellB.cls := by
              obtain ⟨r, g1, g2, cell, g3, g4, g5, -⟩ := hr.1.2.2 _ _ hea (mj_cl_ne hq)
              cases g1.symm.trans hq
              exact ⟨cell, g3, by rw [g5]; rfl, by rw [g4, ← hcl]; exact (hK.1 ci _ hq).2.1⟩
            cases r3 with
            | zero =>
              exact ⟨_, vx_runV (C := y'.cls) hS hSp ⟨⟨rfl, rfl, hroom.1, hroom.2, hws, List.mem_singleton.mpr rfl, hcode, hini, ⟨hy1, hy2⟩, hlen, hts _ (mj_w_of hlk2).1 (mj_w_of hlk2).2⟩, hts _ (mj_w_of hw3).1 (mj_w_of hw3).2, hts _ (mj_w_of hw4).1 (mj_w_of hw4).2⟩ ⟨mj_blind, hcell, hPc⟩ rfl hnl hsz hstk hW8 hd ⟨hc, hs⟩⟩
            | succ z =>
              exact ⟨_, vx_runVN (C := y'.cls) hS hSp ⟨⟨⟨rfl, rfl, hroom.1, hroom.2, hws, List.mem_singleton.mpr rfl⟩, hcode, hini, ⟨hy1, hy2⟩, hlen, hts _ (mj_w_of hlk2).1 (mj_w_of hlk2).2⟩, hts _ (mj_w_of hw3).1 (mj_w_of hw3).2, hts _ (mj_w_of hw4).1 (mj_w_of hw4).2⟩ ⟨mj_blind, hcell, hPc⟩ rfl hnl hsz hstk hW8 hd ⟨hc, hs⟩⟩
          · cases hcl
        · cases hrec
      · cases hrec
end MJK
