/-! The loop, and every run of a table that the kernel has checked. -/
def mj_okA (P : List mj_M) (thr : List (String × Nat × Nat)) (M : mj_M) : Prop := mj_okM M = true ∧ ∀ (pc : Nat) (I : mj_I), M.2.2.2.2.1 pc = some I → mj_okX P thr M.1 M.2.1 pc I = true
def mj_okP2 (P : List mj_M) (thr : List (String × Nat × Nat)) : Prop := (∀ q ∈ thr, mj_thr q.1 q.2.1 q.2.2 = true) ∧ ∀ (j : Nat) (M : mj_M), P[j]? = some M → mj_okA P thr M
section MJW
variable {p : Program} {l : Launch} {e : Env} {R : Room} {s : State} {m : MethodId} {args : Array Value} {below : List Frame} {meth : Method} {c : Code}
variable {B b : Nat} {D : va_G} {dA : Nat → ClassId}
theorem mj_find_of {cc : ByteArray} {y : MethodName} : ∀ {hs : List (Nat × Nat × Nat × Nat × Nat × Nat × Nat)} {pc i k nx : Nat}, mj_find hs pc i = some (k, nx) → hs.all (mj_hok y cc) = true → ∃ pre a b2 hp ct suf, hs = pre ++ (a, b2, hp, ct, i, k, nx) :: suf ∧ a ≤ pc ∧ pc < b2 ∧ mj_hok y cc (a, b2, hp, ct, i, k, nx) = true ∧ ∀ z ∈ pre, mj_hok y cc z = true ∧ (¬ (z.1 ≤ pc ∧ pc < z.2.1) ∨ z.2.2.2.2.1 ≠ i)
  | [], _, _, _, _, h, _ => by cases h
  | (a, b2, hp, ct, x, k0, n0) :: t, pc, i, k, nx, h, ho => by
    simp only [List.all_cons, Bool.and_eq_true] at ho
    simp only [mj_find] at h
    split at h
    · rename_i hc
      obtain ⟨h1, h2, rfl⟩ := hc
      cases h
      exact ⟨[], a, b2, hp, ct, t, rfl, h1, h2, ho.1, fun z hz => nomatch hz⟩
    · rename_i hc
      obtain ⟨pre, a', b', hp', ct', suf, h1, h2, h3, h4, h5⟩ := mj_find_of h ho.2
      refine ⟨(a, b2, hp, ct, x, k0, n0) :: pre, a', b', hp', ct', suf, by rw [h1]; rfl, h2, h3, h4, fun z hz => ?_⟩
      rcases List.mem_cons.mp hz with rfl | hz
      · refine ⟨ho.1, ?_⟩
        by_cases hq : a ≤ pc ∧ pc < b2
        · exact Or.inr fun e => hc ⟨hq.1, hq.2, e⟩
        · exact Or.inl hq
      · exact h5 z hz
theorem mj_walk {P : List mj_M} {thr : List (String × Nat × Nat)} (hP : mj_okP2 P thr) (hl : l.stackTraces = false) {Fu d : Nat}
    (ih : ∀ (j : Nat) (as : List Value) (h : mj_H) (r : mj_R), mj_run P Fu d j as h = some r → ∀ M, P[j]? = some M → ∀ (B b : Nat) (D : va_G) (dA : Nat → ClassId), mj_Spec l B b D dA d M as h r)
    {M : mj_M} (hH : M.2.2.2.2.2.1.all (mj_hok M.1 M.2.1) = true) (hM : ∀ (pc : Nat) (I : mj_I), M.2.2.2.2.1 pc = some I → mj_okX P thr M.1 M.2.1 pc I = true) {h0 : mj_H} (C : mj_Ctx p s m args meth c M.1 M.2.1 M.2.2.1 B b D dA) (hI : mj_Inv B b D dA h0 s) (hret : meth.sig.returnType = M.2.2.2.1) (htab : c.exceptionTable.toList = tableOf (mj_four M.2.2.2.2.2.1)) {mc ms : Nat} :
    ∀ (F pc : Nat) (loc : mj_L) (st : List Value) (h : mj_H) (r : mj_R) (H : Heap) (ls : Array Slot) (locs : List Loc) (cells slots : Nat), mj_loop (mj_run P Fu d) M F pc loc st h = some r → mj_Rel B b D dA s M.2.2.1 h0.length (mj_sl h0) loc h ls H locs cells slots → h0.length + mc = r.2.length → mj_sl h0 + ms = mj_sl r.2 →
      W p l e (mj_rm (d + 1) mc ms) s m args below meth c H locs cells slots (vx_MQ below (mj_Qc B b D dA r) (mj_Xc B b D dA r) args s mc ms (fun q => B ≤ q)) (F0 m pc ls (st.map (mj_rv B b))) := by
  intro F
  induction F with
  | zero => intro pc loc st h r H ls locs cells slots hs; cases hs
  | succ F ihF =>
    intro pc loc st h r H ls locs cells slots hs hr hmc hms
    have hmono := mj_loop_mono (mj_run_mono P Fu d) hs
    have hC := C
    obtain ⟨hx, hb, hml, hown, hts, hK, hB, hbB, hlk, hin⟩ := C
    have hc0 := hr.2.2.2.1
    have hs0 := hr.2.2.2.2
    unfold mj_loop at hs
    split at hs
    · cases hs
    · rename_i ins r1 r2 r3 r4 r5 hcode
      have hX := hM _ _ hcode
      simp only [mj_okX] at hX
      split at hs
      · rename_i hk
        rw [hk] at hX
        split at hs
        · rename_i pc' loc' st' h' h1
          have h3 := mj_loop_mono (mj_run_mono P Fu d) hs
          exact mj_sim hC hX h1 hr (by show _ ≤ _ + mc; omega) (by show _ ≤ _ + ms; omega) (fun ls' H' locs' cells' slots' hr' => ihF _ _ _ _ _ _ _ _ _ _ hs hr' hmc hms)
        · cases hs
      · rename_i hk
        rw [hk] at hX
        split at hs
        · rename_i v h1
          cases hs
          have e1 : cells = mc := by simp only at hmc; omega
          have e2 : slots = ms := by simp only at hms; omega
          subst e1
          subst e2
          refine mj_sim_ret hx hb hlk hret (of_decide_eq_true hX) h1 (fun t ht hW => ⟨v, rfl, rfl, ?_, hr.2.2.1.F ht⟩) hr.2.2.1.2.2
          rw [ht]
          exact hr.1.moved hW.alike
        · cases hs
      · rename_i hk
        rw [hk] at hX
        split at hs
        · rename_i hcond
          obtain ⟨hh0, hcat⟩ := hcond
          cases hs
          simp only [Bool.and_eq_true, decide_eq_true_eq] at hX
          obtain ⟨hT, hthr⟩ := hX
          have hthr2 := hP.1 _ hthr
          simp only [mj_thr, Bool.and_eq_true, List.all_eq_true] at hthr2
          obtain ⟨⟨⟨hfit, hw1⟩, ho1⟩, hall⟩ := hthr2
          cases ins <;> simp only [mj_okT] at hT <;> (try exact absurd hT Bool.false_ne_true)
          rename_i ik
          simp only [Bool.and_eq_true, decide_eq_true_eq] at hT
          obtain ⟨⟨⟨⟨⟨hd0, hd3⟩, hd4⟩, hd7⟩, hw4⟩, hr5⟩ := hT
          simp only [List.length_append, List.length_cons, List.length_nil] at hmc
          rw [mj_sl_push] at hms
          simp only [mj_slot, List.length_cons, List.length_nil] at hms
          have hkw := hts _ (mj_w_of hw4).1 (mj_w_of hw4).2
          rw [hh0] at htab
          refine mj_throw0 (A := fun q => B ≤ q) hx hb hl (ik := ik) (ic := r2) (cls := mj_exc r1) (names := ["java/lang/RuntimeException", "java/lang/Exception"]) hown hfit (by decide +kernel) hkw (hts _ (mj_inw_of hw1).1 (mj_inw_of hw1).2) (fun w hw => hts _ (mj_inw_of (hall w hw).1).1 (mj_inw_of (hall w hw).1).2) ?_ hI.2.2.2.2.2.1 hI.2.2.2.2.2.2.1 hr.2.2.1 (by rw [hml, hr.2.1.1]) hd0 hd3 hd4 hd7 (by rw [htab]; intro x hx; cases hx) (by show 2 + 3 < _; simp only [mj_rm]; omega) (by rw [mj_cat_map]; show _ + (13 * 3 + 42) ≤ _; simp only [mj_rm]; omega) (by show _ ≤ mc; omega) (by show _ ≤ ms; omega) hlk ?_ hr.2.2.1.2.2 (by omega) (by omega)
          · intro w hw
            rcases List.mem_cons.mp hw with rfl | hw
            · rfl
            · rcases List.mem_cons.mp hw with rfl | hw
              · exact ho1
              · exact (hall w hw).2
          · intro t hal hz ho
            refine ⟨r1, rfl, hr5, rfl, ?_, ⟨by rw [hz]; exact Nat.le_succ_of_le hr.2.2.1.1, fun q g1 g2 => (ho q (Nat.lt_of_lt_of_le g1 hr.2.2.1.1)).trans (hr.2.2.1.2.1 q g1 g2)⟩⟩
            exact ((hr.1.push hbB (e := .inr (99, [.null, .null, .null, .null, .null, .null])) (fun h => absurd rfl h) hz ho).1).moved hal
        · cases hs
      · rename_i hk
        rw [hk] at hX
        split at hs
        · rename_i hcond
          obtain ⟨hlen, hcat, hrec⟩ := hcond
          have hPM : ∃ M', P[r1]? = some M' := by
            simp only [mj_okC] at hX
            split at hX
            · cases hX
            · rename_i hq; exact ⟨_, hq⟩
          obtain ⟨M', hPM⟩ := hPM
          have key : ∀ r', mj_run P Fu d r1 (st.take r2).reverse h = some r' → r'.2.length ≤ r.2.length → mj_sl r'.2 ≤ mj_sl r.2 → _ := fun r' h1 g1 g2 =>
            mj_mkrun (p := p) (l := l) (e := e) (below := below) (R := mj_rm (d + 1) mc ms) hC hI hX hPM (hP.2 _ _ hPM).1 hr hlen hcat hrec (ih _ _ _ _ h1 M' hPM B b D dA) (by simp only [mj_rm]; omega) (by simp only [mj_rm]; omega) (by have := (mj_run_mono P Fu d _ _ _ _ h1).1; show _ ≤ mc; omega) (by have := (mj_run_mono P Fu d _ _ _ _ h1).2; show _ ≤ ms; omega)
          split at hs
          · rename_i v h' h1
            have h3 := mj_loop_mono (mj_run_mono P Fu d) hs
            have h4 := mj_run_mono P Fu d _ _ _ _ h1
            obtain ⟨a9, hrun⟩ := key _ h1 h3.1 h3.2
            refine mj_callrow hr.2.2.1 hrun (fun v' hv' H1 locs1 hR1 hS1 => ?_) (fun i hi => by cases hi)
            cases hv'
            rw [← List.map_append]
            exact ihF _ _ _ _ _ _ _ _ _ _ hs ⟨hR1, hr.2.1, hS1, by have := h4.1; simp only at this ⊢; omega, by have := h4.2; simp only at this ⊢; omega⟩ hmc hms
          · rename_i i h' h1
            have h4 := mj_run_mono P Fu d _ _ _ _ h1
            split at hs
            · rename_i hh0
              cases hs
              obtain ⟨a9, hrun⟩ := key _ h1 (Nat.le_refl _) (Nat.le_refl _)
              rw [hh0] at htab
              refine mj_callrow hr.2.2.1 hrun (fun v' hv' => by cases hv') (fun i' hi' hi5 H1 locs1 q ce hR1 hS1 hce hcv hcl => ?_)
              cases hi'
              exact vx_out (by rw [htab]; intro x hx; cases hx) hlk hce hcv hcl (fun t ht hal => ⟨i, rfl, hi5, rfl, by rw [ht]; exact hR1.moved hal, hS1.F ht⟩) hS1.2.2 (by have := h4.1; simp only at this hmc ⊢; omega) (by have := h4.2; simp only at this hms ⊢; omega)
            · split at hs
              · rename_i k nx hfind
                split at hs
                · rename_i hkl
                  have h3 := mj_loop_mono (mj_run_mono P Fu d) hs
                  obtain ⟨a9, hrun⟩ := key _ h1 h3.1 h3.2
                  refine mj_callrow hr.2.2.1 hrun (fun v' hv' => by cases hv') (fun i' hi' hi5 H1 locs1 q ce hR1 hS1 hce hcv hcl => ?_)
                  cases hi'
                  obtain ⟨pre, a, b2, hp, ct, suf, e1, e2, e3, e4, e5⟩ := mj_find_of hfind hH
                  simp only [mj_hok, Bool.and_eq_true, Bool.not_eq_true', decide_eq_false_iff_not, decide_eq_true_eq, Bool.or_eq_true] at e4
                  obtain ⟨⟨⟨hct, hwl⟩, hx5⟩, hdec⟩ := e4
                  have hcast := List.all_eq_true.mp mj_cast_ok i (List.mem_range.mpr hx5)
                  have hgo : W p l e (mj_rm (d + 1) mc ms) s m args below meth c H1 locs1 (cells + (h'.length - h.length)) (slots + (mj_sl h' - mj_sl h)) (vx_MQ below (mj_Qc B b D dA r) (mj_Xc B b D dA r) args s mc ms (fun q => B ≤ q)) (F0 m hp ls [.ref q]) := by
                    have hgo2 : ∀ ls' : Array Slot, lv_has ls' M.2.2.1 ((k, Value.ref q) :: (mj_lv B b loc).filter (fun q => !(q.1 == k) && !(q.1 + 1 == k && q.2.category == 2))) → W p l e (mj_rm (d + 1) mc ms) s m args below meth c H1 locs1 (cells + (h'.length - h.length)) (slots + (mj_sl h' - mj_sl h)) (vx_MQ below (mj_Qc B b D dA r) (mj_Xc B b D dA r) args s mc ms (fun q => B ≤ q)) (F0 m nx ls' []) := fun ls' hl' =>
                      ihF _ _ _ _ _ _ _ _ _ _ hs ⟨hR1, hr.2.1.kill hl', hS1, by have := h4.1; simp only at this ⊢; omega, by have := h4.2; simp only at this ⊢; omega⟩ hmc hms
                    have hkn : k < M.2.2.1 := by rw [← hr.2.1.2.1]; exact hkl
                    rcases hdec with ⟨hd1, hnx⟩ | hdec
                    · subst hnx
                      exact lv_astore hx hb hd1 hr.2.1.has hkn rfl hgo2
                    · match k, hdec with
                      | 0, hdec =>
                        simp only [Bool.and_eq_true, decide_eq_true_eq] at hdec
                        obtain ⟨hd1, hnx⟩ := hdec
                        subst hnx
                        exact lv_astore_n hx hb hd1 rfl hr.2.1.has hkn rfl hgo2
                      | 1, hdec =>
                        simp only [Bool.and_eq_true, decide_eq_true_eq] at hdec
                        obtain ⟨hd1, hnx⟩ := hdec
                        subst hnx
                        exact lv_astore_n hx hb hd1 rfl hr.2.1.has hkn rfl hgo2
                      | 2, hdec =>
                        simp only [Bool.and_eq_true, decide_eq_true_eq] at hdec
                        obtain ⟨hd1, hnx⟩ := hdec
                        subst hnx
                        exact lv_astore_n hx hb hd1 rfl hr.2.1.has hkn rfl hgo2
                      | 3, hdec =>
                        simp only [Bool.and_eq_true, decide_eq_true_eq] at hdec
                        obtain ⟨hd1, hnx⟩ := hdec
                        subst hnx
                        exact lv_astore_n hx hb hd1 rfl hr.2.1.has hkn rfl hgo2
                      | k + 4, hdec => exact absurd hdec Bool.false_ne_true
                  refine vx_catch (own := M.1.cls) (name := mj_exc i) (E := mj_exc i) hown (tableOf (mj_four pre)) ⟨a, b2, hp, ct⟩ (tableOf (mj_four suf)) (by rw [htab, e1]; simp [tableOf, mj_four]) ?_ (by simp [covers, e2, e3]) hct (hts _ (mj_inw_of hwl).1 (mj_inw_of hwl).2) (hts _ (mj_inw_of hcast).1 (mj_inw_of hcast).2) hce hcv hcl hgo
                  intro z hz
                  simp only [tableOf, mj_four, List.map_map, List.mem_map] at hz
                  obtain ⟨w, hw, rfl⟩ := hz
                  obtain ⟨g1, g2⟩ := e5 w hw
                  obtain ⟨wa, wb, whp, wct, wx, wk, wn⟩ := w
                  rcases g2 with g2 | g2
                  · refine Or.inl ?_
                    simp only [covers, Function.comp_apply]
                    simp only at g2
                    by_cases hz1 : wa ≤ pc
                    · have hz2 : ¬ pc < wb := fun q => g2 ⟨hz1, q⟩
                      simp [hz2]
                    · simp [hz1]
                  · simp only [mj_hok, Bool.and_eq_true, Bool.not_eq_true', decide_eq_false_iff_not, decide_eq_true_eq] at g1
                    obtain ⟨⟨⟨hct2, hwl2⟩, hx52⟩, -⟩ := g1
                    exact Or.inr ⟨hct2, mj_exc wx, hts _ (mj_inw_of hwl2).1 (mj_inw_of hwl2).2, hI.2.2.2.2.2.2.2 i wx hx5 hx52 (fun q => g2 q.symm)⟩
                · cases hs
              · cases hs
          · cases hs
        · cases hs
      · rename_i hk0 hk1 hk2 hk3
        split at hX
        · exact absurd (by assumption) hk0
        · exact absurd (by assumption) hk1
        · exact absurd (by assumption) hk2
        · exact absurd (by assumption) hk3
        · split at hs
          · rename_i st' h' h1
            have h3 := mj_loop_mono (mj_run_mono P Fu d) hs
            exact mj_sim_prim hC hX h1 hr (by simp only [mj_rm]; omega) (by simp only [mj_rm]; omega) (by show _ ≤ _ + mc; omega) (by show _ ≤ _ + ms; omega) (fun ls' H' locs' cells' slots' hr' => ihF _ _ _ _ _ _ _ _ _ _ hs hr' hmc hms)
          · cases hs
end MJW
theorem mj_okM_h {M : mj_M} (h : mj_okM M = true) : M.2.2.2.2.2.1.all (mj_hok M.1 M.2.1) = true := by
  obtain ⟨y', cc', n', ret', code', hs', kd', i1, i2, i3, i4⟩ := M
  simp only [mj_okM, Bool.and_eq_true] at h
  exact h.1.2
theorem mj_sound {P : List mj_M} {thr : List (String × Nat × Nat)} (hP : mj_okP2 P thr) {l : Launch} (hl : l.stackTraces = false) (Fu : Nat) : ∀ (d j : Nat) (as : List Value) (h : mj_H) (r : mj_R), mj_run P Fu d j as h = some r → ∀ M, P[j]? = some M → ∀ (B b : Nat) (D : va_G) (dA : Nat → ClassId), mj_Spec l B b D dA d M as h r := by
  intro d
  induction d with
  | zero => intro j as h r hs; cases hs
  | succ d ih =>
    intro j as h r hs M hj B b D dA
    have hmono := mj_run_mono P Fu (d + 1) j as h r hs
    have hMok := hP.2 j M hj
    have hbody : ∀ (p : Program) (e : Env) (s : State) (m : MethodId) (args : Array Value) (below : List Frame) (meth : Method) (c : Code) (s₁ : State), BodyLoose p l M.1 (headSpec [mj_code M] (mj_rm (d + 1) (r.2.length - h.length) (mj_sl r.2 - mj_sl h))) M.2.1 M.2.2.1 M.2.2.2.1 e s m args below meth c s₁ → c.maxLocals = M.2.2.1 → c.exceptionTable.toList = tableOf (mj_four M.2.2.2.2.2.1) → mj_Pc B b D dA h as args s →
        W p l e (mj_rm (d + 1) (r.2.length - h.length) (mj_sl r.2 - mj_sl h)) s m args below meth c s.heap [] 0 0 (vx_MQ below (mj_Qc B b D dA r) (mj_Xc B b D dA r) args s (r.2.length - h.length) (mj_sl r.2 - mj_sl h) (fun q => B ≤ q)) (entryFrame m args M.2.2.1) := by
      intro p e s m args below meth c s₁ Bd hml htab hPc
      obtain ⟨rfl, hI⟩ := hPc
      simp only [mj_run, hj] at hs
      split at hs
      · rename_i hlen
        have hC : mj_Ctx p s m (as.map (mj_rv B b)).toArray meth c M.1 M.2.1 M.2.2.1 B b D dA := ⟨Bd.exec, Bd.bytes, hml, findClass_of_methodNamed Bd.named, fun w hw hm => mj_move hm (State.WarmedH.refl s) (hI.2.1 w hw hm), hI.2.2.1, hI.2.2.2.1, hI.2.2.2.2.1, Bd.notSynchronized, fun hy => (name_of_methodNamed Bd.named Bd.method).1.trans hy⟩
        rw [lg_entry_eq]
        exact mj_walk hP hl ih (mj_okM_h hMok.1) hMok.2 hC hI Bd.returns htab Fu 0 _ [] h r _ _ _ _ _ hs ⟨hI.1, mj_entry hlen, va_S.rf, rfl, rfl⟩ (by omega) (by omega)
      · cases hs
    have hpl : plainName M.1.cls = true := by
      have h9 := hMok.1
      obtain ⟨y', cc', n', ret', code', hs', kd', i1, i2, i3, i4⟩ := M
      simp only [mj_okM, Bool.and_eq_true] at h9
      exact h9.1.1.1.1.1.1.1
    unfold mj_Spec
    cases hh : M.2.2.2.2.2.1 with
    | nil =>
      have hcd : mj_code M = .code M.1 M.2.1 M.2.2.1 M.2.2.2.1 := by unfold mj_code; rw [hh]
      rw [hcd] at hbody ⊢
      refine vx_ofW (cc := M.2.1) (maxL := M.2.2.1) (ret := M.2.2.2.1) hpl rfl (fun p e s m args below meth c s₁ Bd hml ht hPc => hbody p e s m args below meth c s₁ Bd hml ?_ hPc)
      rw [hh]
      cases hct : c.exceptionTable.toList with
      | nil => rfl
      | cons x t => exact absurd (by rw [hct]; exact List.mem_cons_self) (ht x)
    | cons q0 t0 =>
      have hcd : mj_code M = .codeWith M.1 M.2.1 M.2.2.1 M.2.2.2.1 (mj_four (q0 :: t0)) := by unfold mj_code; rw [hh]
      rw [hcd] at hbody ⊢
      refine vx_ofWH (cc := M.2.1) (maxL := M.2.2.1) (ret := M.2.2.2.1) (hh := mj_four (q0 :: t0)) hpl rfl (fun p e s m args below meth c s₁ Bd hml hPc => hbody p e s m args below meth c s₁ Bd hml ?_ hPc)
      rw [hh]
      exact vx_table (x := M.1) Bd (atoms_spec Bd.pre _ List.mem_cons_self)
