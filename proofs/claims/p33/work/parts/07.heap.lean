/-! The steps that touch cells. -/
theorem mj_cl_ne {ci : Nat} {q : vw_C} (h : mj_cl[ci]? = some q) : ci ≠ 99 := by
  have h1 := (List.getElem?_eq_some_iff.mp h).1
  intro h2
  subst h2
  exact absurd h1 (by decide)
theorem mj_in_of {i : Int32} {n : Nat} (h : mj_in i n = true) : ¬ (i < 0 ∨ n ≤ i.toNatClampNeg) := by
  unfold mj_in at h
  rw [Bool.and_eq_true, decide_eq_true_eq] at h
  intro q
  rcases q with q | q
  · have h1 := h.1
    rw [Int32.le_iff_toInt_le] at h1
    rw [Int32.lt_iff_toInt_lt] at q
    omega
  · have h2 := Nat.blt_eq.mp h.2
    omega
theorem mj_in_lt {i : Int32} {n : Nat} (h : mj_in i n = true) : i.toNatClampNeg < n := by
  have h1 := mj_in_of h
  exact Nat.not_le.mp fun q => h1 (Or.inr q)
theorem mj_not_lt {i : Int32} (h : 0 ≤ i) : ¬ i < 0 := by
  intro q
  rw [Int32.le_iff_toInt_le] at h
  rw [Int32.lt_iff_toInt_lt] at q
  omega
theorem mj_fit_ok {B b : Nat} {ty : FieldType} {v : Value} (hty : ty = .int ∨ ty = .long ∨ ty = .boolean ∨ (∃ n, ty = .object n) ∨ ∃ t, ty = .array t) (h : mj_fit (mj_kd ty) v = true) : narrow ty (mj_rv B b v) = mj_rv B b v ∧ fits ty (mj_rv B b v) = true := by
  rcases hty with rfl | rfl | rfl | ⟨n, rfl⟩ | ⟨t, rfl⟩ <;> cases v <;> simp only [mj_kd, mj_fit] at h <;> first
    | exact ⟨rfl, rfl⟩
    | (exact absurd h Bool.false_ne_true)
    | skip
  rename_i x
  rw [Bool.or_eq_true, decide_eq_true_eq, decide_eq_true_eq] at h
  rcases h with rfl | rfl <;> exact ⟨rfl, rfl⟩
def mj_tyok (ty : FieldType) : Bool := match ty with
  | .int => true
  | .long => true
  | .boolean => true
  | .object _ => true
  | .array _ => true
  | _ => false
theorem mj_tyok_of {ty : FieldType} (h : mj_tyok ty = true) : ty = .int ∨ ty = .long ∨ ty = .boolean ∨ (∃ n, ty = .object n) ∨ ∃ t, ty = .array t := by
  cases ty <;> simp_all [mj_tyok]
theorem mj_ft_ok : ((List.range 11).all fun ci => (List.range (mj_nc ci)).all fun k => mj_tyok (mj_ft ci k)) = true := by decide +kernel
theorem mj_ft_of {ci k : Nat} (h : ci < 11) (hk : k < mj_nc ci) : mj_tyok (mj_ft ci k) = true := List.all_eq_true.mp (List.all_eq_true.mp mj_ft_ok ci (List.mem_range.mpr h)) k (List.mem_range.mpr hk)
theorem mj_tys_at (dA : Nat → ClassId) {t : Nat} (h : t ≤ 6) : (mj_tys dA)[t]? = some (dA t, mj_tt t) := by
  match t, h with
  | 0, _ => rfl
  | 1, _ => rfl
  | 2, _ => rfl
  | 3, _ => rfl
  | 4, _ => rfl
  | 5, _ => rfl
  | 6, _ => rfl
section MJH
variable {p : Program} {l : Launch} {e : Env} {R : Room} {s : State} {m : MethodId} {args : Array Value} {below : List Frame} {meth : Method} {c : Code} {H : Heap} {locs : List Loc} {cells slots : Nat} {Q : State → Prop}
variable {y : MethodName} {cc : ByteArray} {nL B b n0 s0 : Nat} {D : va_G} {dA : Nat → ClassId} {pc : Nat} {loc : mj_L} {st : List Value} {h : mj_H} {ls : Array Slot}
theorem mj_Rel.putE {a : Nat} {e0 e1 : mj_E} {H1 : Heap} {k : Nat} (hbB : b < B) (hr : mj_Rel B b D dA s nL n0 s0 loc h ls H locs cells slots) (ha : a ≠ 0) (he : h[a]? = some e0) (hs : mj_slot e1 = mj_slot e0) (hat : mj_at B b D dA s (mj_ad B b a) e1 H1) (hz : H1.size = H.size) (ho : ∀ q, q ≠ mj_ad B b a → H1[q]? = H[q]?) :
    mj_Rel B b D dA s nL n0 s0 loc (h.set a e1) ls H1 (locs ++ [⟨mj_ad B b a, k⟩]) cells slots :=
  ⟨hr.1.set hbB ha hat hz ho, hr.2.1, hr.2.2.1.put hz ho (mj_ad_ge ha), by rw [List.length_set]; exact hr.2.2.2.1, by rw [mj_sl_set he hs]; exact hr.2.2.2.2⟩
theorem mj_Rel.pushE {e1 : mj_E} {H1 : Heap} (hB : B ≤ s.heap.size) (hbB : b < B) (hr : mj_Rel B b D dA s nL n0 s0 loc h ls H locs cells slots) (hat : mj_at B b D dA s H.size e1 H1) (hz : H1.size = H.size + 1) (ho : ∀ q, q < H.size → H1[q]? = H[q]?) :
    mj_Rel B b D dA s nL n0 s0 loc (h ++ [e1]) ls H1 locs (cells + 1) (slots + mj_slot e1) ∧ mj_ad B b h.length = H.size := by
  obtain ⟨h1, h2⟩ := hr.1.push hbB hat hz ho
  refine ⟨⟨h1, hr.2.1, ⟨Nat.le_trans hr.2.2.1.1 (by omega), fun q hq hA => (ho q (Nat.lt_of_lt_of_le hq hr.2.2.1.1)).trans (hr.2.2.1.2.1 q hq hA), hr.2.2.1.2.2⟩, ?_, ?_⟩, h2⟩
  · rw [List.length_append]
    have := hr.2.2.2.1
    simp
    omega
  · rw [mj_sl_push]
    have := hr.2.2.2.2
    omega
theorem mj_Rel.ne0 {a : Nat} {e0 : mj_E} (hr : mj_Rel B b D dA s nL n0 s0 loc h ls H locs cells slots) (he : h[a]? = some e0) (hn : ∀ L xs, e0 ≠ .inl (100, L, xs)) : a ≠ 0 := by
  intro h0
  subst h0
  obtain ⟨L, xs, hx⟩ := hr.1.2.1
  rw [hx] at he
  exact hn L xs (Option.some.inj he).symm

theorem mj_s_getfield {r1 r2 r3 r4 r5 : Nat} {i : Nat} (C : mj_Ctx p s m args meth c y cc nL B b D dA) (hd : decode cc pc = .ok (.getfield i, mj_len (.getfield i))) (ho : mj_okS y pc (.getfield i) r1 r2 r3 r4 r5 = true) {pc' : Nat} {loc' : mj_L} {st' : List Value} {h' : mj_H} (hs : mj_step (.getfield i) r1 r2 r3 mj_new pc loc st h = some (pc', loc', st', h')) (hr : mj_Rel B b D dA s nL n0 s0 loc h ls H locs cells slots)
    (hcl : h'.length ≤ n0 + R.cells) (hsl : mj_sl h' ≤ s0 + R.slots)
    (k : ∀ (ls' : Array Slot) (H' : Heap) (locs' : List Loc) (cells' slots' : Nat), mj_Rel B b D dA s nL n0 s0 loc' h' ls' H' locs' cells' slots' → W p l e R s m args below meth c H' locs' cells' slots' Q (F0 m pc' ls' (st'.map (mj_rv B b)))) :
    W p l e R s m args below meth c H locs cells slots Q (F0 m pc ls (st.map (mj_rv B b))) := by
  obtain ⟨hx, hb, hml, hown, hts, hK, hB, hbB, hlk, hin⟩ := C
  simp only [mj_step] at hs
  split at hs
  · rename_i a st0
    split at hs
    · rename_i ci fs he
      split at hs
      · rename_i hci
        subst hci
        split at hs
        · rename_i v hv
          cases hs
          simp only [mj_okS] at ho
          split at ho
          · rename_i q hq
            rw [Bool.and_eq_true, decide_eq_true_eq] at ho
            obtain ⟨hk, hlk2⟩ := ho
            obtain ⟨C, T, N⟩ := q
            obtain ⟨r, h1, h2, h3⟩ := hr.1.2.2 _ _ he (mj_cl_ne hq)
            cases h1.symm.trans hq
            have hc := mj_cls hq
            have htu : ∀ w ∈ u_ws C T N, w.before args s = true := fun w hw => hts w (hc.1 w hw).1 (hc.1 w hw).2
            have hP : va_P D mj_cl [(mj_ad B b a, .inr (ci, fs.map (mj_rv B b)))] H := fun k q hk => by
              have hz : k < 1 := (List.getElem?_eq_some_iff.mp hk).1
              rw [show k = 0 by omega] at hk
              cases hk
              exact ⟨_, hq, h3⟩
            have hv2 : (fs.map (mj_rv B b))[r2]? = some (mj_rv B b v) := by rw [List.getElem?_map, hv]; rfl
            cases r5 with
            | zero => exact va_get hx hb htu (fun w h => h) hown hK hP 0 rfl hq r2 hk (hts _ (mj_w_of hlk2).1 (mj_w_of hlk2).2) (fun x h => h) hv2 hd (k _ _ _ _ _ hr)
            | succ z => exact va_getN hx hb htu (fun w h => h) hown hK hP 0 rfl hq r2 hk (hts _ (mj_w_of hlk2).1 (mj_w_of hlk2).2) (fun x h => h) hv2 hd (k _ _ _ _ _ hr)
          · cases ho
        · cases hs
      · cases hs
    · cases hs
  · cases hs
theorem mj_s_putfield {r1 r2 r3 r4 r5 : Nat} {i : Nat} (C : mj_Ctx p s m args meth c y cc nL B b D dA) (hd : decode cc pc = .ok (.putfield i, mj_len (.putfield i))) (ho : mj_okS y pc (.putfield i) r1 r2 r3 r4 r5 = true) {pc' : Nat} {loc' : mj_L} {st' : List Value} {h' : mj_H} (hs : mj_step (.putfield i) r1 r2 r3 mj_new pc loc st h = some (pc', loc', st', h')) (hr : mj_Rel B b D dA s nL n0 s0 loc h ls H locs cells slots)
    (hcl : h'.length ≤ n0 + R.cells) (hsl : mj_sl h' ≤ s0 + R.slots)
    (k : ∀ (ls' : Array Slot) (H' : Heap) (locs' : List Loc) (cells' slots' : Nat), mj_Rel B b D dA s nL n0 s0 loc' h' ls' H' locs' cells' slots' → W p l e R s m args below meth c H' locs' cells' slots' Q (F0 m pc' ls' (st'.map (mj_rv B b)))) :
    W p l e R s m args below meth c H locs cells slots Q (F0 m pc ls (st.map (mj_rv B b))) := by
  obtain ⟨hx, hb, hml, hown, hts, hK, hB, hbB, hlk, hin⟩ := C
  simp only [mj_step] at hs
  split at hs
  · rename_i v a st0
    split at hs
    · rename_i ci fs he
      split at hs
      · rename_i hcond
        obtain ⟨hci, hlen, hfit⟩ := hcond
        subst hci
        cases hs
        simp only [mj_okS] at ho
        split at ho
        · rename_i q hq
          simp only [Bool.and_eq_true, decide_eq_true_eq] at ho
          obtain ⟨⟨⟨hk, hlk2⟩, hkd⟩, hfin2⟩ := ho
          obtain ⟨C, T, N⟩ := q
          obtain ⟨r, h1, h2, h3⟩ := hr.1.2.2 _ _ he (mj_cl_ne hq)
          cases h1.symm.trans hq
          have hc := mj_cls hq
          have htu : ∀ w ∈ u_ws C T N, w.before args s = true := fun w hw => hts w (hc.1 w hw).1 (hc.1 w hw).2
          have hap := va_apart (own := y.cls) htu (fun w h => h) (mj_ft ci) hc.2.1 hc.2.2.1 hK hq
          have hci11 : ci < 11 := (List.getElem?_eq_some_iff.mp hq).1
          have hkN : r2 < mj_nc ci := by rw [← hc.2.2.2.2.2]; exact hk
          subst hkd
          obtain ⟨hn, hfit2⟩ := mj_fit_ok (B := B) (b := b) (mj_tyok_of (mj_ft_of hci11 hkN)) hfit
          have ha0 := hr.ne0 he (fun L xs h => by cases h)
          obtain ⟨cell, q1, q2, q3, q4⟩ := h3
          obtain ⟨hS, hfc, kC, hkC, hkind⟩ := hK.1 ci _ hq
          obtain ⟨cf, kf, fi, f, hi, hsl2⟩ := hS r2 hk
          have hlay := htu _ (u_in_lay hk)
          have hlt : f.slot < cell.slots.size := by rw [hsl2]; exact k2_hasslot (q4 r2 hk)
          have hgo : ∀ H' : Heap, H'[mj_ad B b a]? = some (cell.setSlot f.slot (mj_rv B b v)) → H'.size = H.size → (∀ q, q ≠ mj_ad B b a → H'[q]? = H[q]?) → W p l e R s m args below meth c H' (locs ++ [⟨mj_ad B b a, f.slot⟩]) cells slots Q (F0 m (pc + 3) ls (st'.map (mj_rv B b))) := by
            intro H' e1 e2 e3
            refine k _ _ _ _ _ (hr.putE hbB ha0 he (by simp [mj_slot]) ?_ e2 e3)
            intro _
            refine ⟨_, hq, by rw [List.length_set]; exact h2, ?_⟩
            rw [hsl2] at e1
            refine t_OB.to (V := updV (vp_V (fs.map (mj_rv B b))) r2 (mj_rv B b v)) ⟨_, e1, q2, q3, t_set q4 hap hk _⟩ (fun j _ => ?_)
            rw [vp_updV_set (by rw [List.length_map]; exact hlen), List.map_set]
          cases hfin : (T r2).2.2.2 with
          | false =>
            unfold u_lay at hlay
            rw [if_neg (by rw [hfin]; decide)] at hlay
            have hst := (u_facts hfc hkC (Or.inl hlay) hi).1
            have h6 := u_store hfc hkC hkind hlay hi (hc.2.1 r2 hk) hn hfit2
            cases r5 with
            | zero => exact W.putK hx hb (f := f) ⟨hown, hts _ (mj_w_of hlk2).1 (mj_w_of hlk2).2, ⟨_, _, _, hi⟩, hst⟩ (by rw [q2]; exact h6) q1 q3 hlt rfl rfl hd hgo
            | succ z => exact va_WputK hx hb (f := f) hown (hts _ (mj_w_of hlk2).1 (mj_w_of hlk2).2) hi hst (by rw [q2]; exact h6) q1 q3 hlt rfl rfl hd hgo
          | true =>
            unfold u_lay at hlay
            rw [if_pos hfin] at hlay
            have hst := (u_facts hfc hkC (Or.inr hlay) hi).1
            rw [hfin] at hfin2
            simp only [Bool.not_true, Bool.false_or, Bool.and_eq_true, decide_eq_true_eq] at hfin2
            obtain ⟨⟨hy1, hy2⟩, hy3⟩ := hfin2
            subst hy3
            have hcf : m.cls = cf := by
              obtain ⟨_, _, c', _, _, _, -, -, hf', -, -, -, hown2, -⟩ := Cond.laysFinal_spec hlay
              have e1 : c' = cf := by have := hi.symm.trans hf'; simp at this; exact this.1.symm
              rw [hy2] at hown2
              rw [← e1]; exact Option.some.inj (hown.symm.trans hown2)
            have h6 := u_fits hfc hkC hkind (Or.inr hlay) hi (hc.2.1 r2 hk) hn hfit2
            exact W.putFinK hx hb hown (hts _ (mj_w_of hlk2).1 (mj_w_of hlk2).2) hi hst hcf (hin hy1) (by rw [q2]; exact h6) q1 q3 hlt rfl rfl hd hgo
        · cases ho
      · cases hs
    · cases hs
  · cases hs
theorem mj_s_arraylength {r1 r2 r3 r4 r5 : Nat} (C : mj_Ctx p s m args meth c y cc nL B b D dA) (hd : decode cc pc = .ok (.arraylength, mj_len (.arraylength))) (ho : mj_okS y pc (.arraylength) r1 r2 r3 r4 r5 = true) {pc' : Nat} {loc' : mj_L} {st' : List Value} {h' : mj_H} (hs : mj_step (.arraylength) r1 r2 r3 mj_new pc loc st h = some (pc', loc', st', h')) (hr : mj_Rel B b D dA s nL n0 s0 loc h ls H locs cells slots)
    (hcl : h'.length ≤ n0 + R.cells) (hsl : mj_sl h' ≤ s0 + R.slots)
    (k : ∀ (ls' : Array Slot) (H' : Heap) (locs' : List Loc) (cells' slots' : Nat), mj_Rel B b D dA s nL n0 s0 loc' h' ls' H' locs' cells' slots' → W p l e R s m args below meth c H' locs' cells' slots' Q (F0 m pc' ls' (st'.map (mj_rv B b)))) :
    W p l e R s m args below meth c H locs cells slots Q (F0 m pc ls (st.map (mj_rv B b))) := by
  obtain ⟨hx, hb, hml, hown, hts, hK, hB, hbB, hlk, hin⟩ := C
  simp only [mj_step] at hs
  split at hs
  · rename_i a st0
    split at hs
    · rename_i t n f he
      cases hs
      have hat := hr.1.2.2 _ _ he
      by_cases ht : t = 100
      · obtain ⟨scr, e1, e2, e3, e4, e5⟩ := hat.1 ht
        exact W.alen hx hb e1 e2 (by rw [e4]; rfl) rfl rfl hd (k _ _ _ _ _ hr)
      · obtain ⟨ht6, e1⟩ := hat.2 ht
        exact W.alen hx hb e1 ((hK.2 t _ (mj_tys_at dA ht6)).1 n _) (by rw [arrV_size]; rfl) rfl rfl hd (k _ _ _ _ _ hr)
    · cases hs
  · cases hs
theorem mj_s_laload {r1 r2 r3 r4 r5 : Nat} (C : mj_Ctx p s m args meth c y cc nL B b D dA) (hd : decode cc pc = .ok (.laload, mj_len (.laload))) (ho : mj_okS y pc (.laload) r1 r2 r3 r4 r5 = true) {pc' : Nat} {loc' : mj_L} {st' : List Value} {h' : mj_H} (hs : mj_step (.laload) r1 r2 r3 mj_new pc loc st h = some (pc', loc', st', h')) (hr : mj_Rel B b D dA s nL n0 s0 loc h ls H locs cells slots)
    (hcl : h'.length ≤ n0 + R.cells) (hsl : mj_sl h' ≤ s0 + R.slots)
    (k : ∀ (ls' : Array Slot) (H' : Heap) (locs' : List Loc) (cells' slots' : Nat), mj_Rel B b D dA s nL n0 s0 loc' h' ls' H' locs' cells' slots' → W p l e R s m args below meth c H' locs' cells' slots' Q (F0 m pc' ls' (st'.map (mj_rv B b)))) :
    W p l e R s m args below meth c H locs cells slots Q (F0 m pc ls (st.map (mj_rv B b))) := by
  obtain ⟨hx, hb, hml, hown, hts, hK, hB, hbB, hlk, hin⟩ := C
  simp only [mj_step] at hs
  split at hs
  · rename_i i a st0
    split at hs
    · rename_i t n f he
      split at hs
      · rename_i hcond
        obtain ⟨ht, hin2⟩ := hcond
        cases hs
        have hat := hr.1.2.2 _ _ he
        subst ht
        obtain ⟨ht6, e1⟩ := hat.2 (by decide)
        exact W.lald hx hb e1 ((hK.2 1 _ (mj_tys_at dA ht6)).1 n _) (fun q => by cases q) (by rw [arrV_size]; exact mj_in_of hin2) (arrV_read _ _ (mj_in_lt hin2)) rfl rfl hd (k _ _ _ _ _ hr)
      · cases hs
    · cases hs
  · cases hs
theorem mj_s_baload {r1 r2 r3 r4 r5 : Nat} (C : mj_Ctx p s m args meth c y cc nL B b D dA) (hd : decode cc pc = .ok (.baload, mj_len (.baload))) (ho : mj_okS y pc (.baload) r1 r2 r3 r4 r5 = true) {pc' : Nat} {loc' : mj_L} {st' : List Value} {h' : mj_H} (hs : mj_step (.baload) r1 r2 r3 mj_new pc loc st h = some (pc', loc', st', h')) (hr : mj_Rel B b D dA s nL n0 s0 loc h ls H locs cells slots)
    (hcl : h'.length ≤ n0 + R.cells) (hsl : mj_sl h' ≤ s0 + R.slots)
    (k : ∀ (ls' : Array Slot) (H' : Heap) (locs' : List Loc) (cells' slots' : Nat), mj_Rel B b D dA s nL n0 s0 loc' h' ls' H' locs' cells' slots' → W p l e R s m args below meth c H' locs' cells' slots' Q (F0 m pc' ls' (st'.map (mj_rv B b)))) :
    W p l e R s m args below meth c H locs cells slots Q (F0 m pc ls (st.map (mj_rv B b))) := by
  obtain ⟨hx, hb, hml, hown, hts, hK, hB, hbB, hlk, hin⟩ := C
  simp only [mj_step] at hs
  split at hs
  · rename_i i a st0
    split at hs
    · rename_i t n f he
      split at hs
      · rename_i hcond
        obtain ⟨ht, hin2⟩ := hcond
        cases hs
        have hat := hr.1.2.2 _ _ he
        subst ht
        obtain ⟨ht6, e1⟩ := hat.2 (by decide)
        exact W.bald hx hb e1 ((hK.2 2 _ (mj_tys_at dA ht6)).1 n _) (fun q => by cases q) (by rw [arrV_size]; exact mj_in_of hin2) (arrV_read _ _ (mj_in_lt hin2)) rfl rfl hd (k _ _ _ _ _ hr)
      · cases hs
    · cases hs
  · cases hs
theorem mj_s_iaload {r1 r2 r3 r4 r5 : Nat} (C : mj_Ctx p s m args meth c y cc nL B b D dA) (hd : decode cc pc = .ok (.iaload, mj_len (.iaload))) (ho : mj_okS y pc (.iaload) r1 r2 r3 r4 r5 = true) {pc' : Nat} {loc' : mj_L} {st' : List Value} {h' : mj_H} (hs : mj_step (.iaload) r1 r2 r3 mj_new pc loc st h = some (pc', loc', st', h')) (hr : mj_Rel B b D dA s nL n0 s0 loc h ls H locs cells slots)
    (hcl : h'.length ≤ n0 + R.cells) (hsl : mj_sl h' ≤ s0 + R.slots)
    (k : ∀ (ls' : Array Slot) (H' : Heap) (locs' : List Loc) (cells' slots' : Nat), mj_Rel B b D dA s nL n0 s0 loc' h' ls' H' locs' cells' slots' → W p l e R s m args below meth c H' locs' cells' slots' Q (F0 m pc' ls' (st'.map (mj_rv B b)))) :
    W p l e R s m args below meth c H locs cells slots Q (F0 m pc ls (st.map (mj_rv B b))) := by
  obtain ⟨hx, hb, hml, hown, hts, hK, hB, hbB, hlk, hin⟩ := C
  simp only [mj_step] at hs
  split at hs
  · rename_i i a st0
    split at hs
    · rename_i t n f he
      split at hs
      · rename_i hcond
        obtain ⟨ht, hin2⟩ := hcond
        cases hs
        have hat := hr.1.2.2 _ _ he
        rcases ht with ht | ht
        · subst ht
          obtain ⟨ht6, e1⟩ := hat.2 (by decide)
          exact W.iald hx hb e1 ((hK.2 0 _ (mj_tys_at dA ht6)).1 n _) (fun q => by cases q) (by rw [arrV_size]; exact mj_in_of hin2) (arrV_read _ _ (mj_in_lt hin2)) rfl rfl hd (k _ _ _ _ _ hr)
        · obtain ⟨scr, e1, e2, e3, e4, e5⟩ := hat.1 ht
          exact W.iald hx hb e1 e2 e3 (by rw [e4]; exact mj_in_of hin2) (e5 _ (mj_in_lt hin2)) rfl rfl hd (k _ _ _ _ _ hr)
      · cases hs
    · cases hs
  · cases hs
theorem mj_s_aaload {r1 r2 r3 r4 r5 : Nat} (C : mj_Ctx p s m args meth c y cc nL B b D dA) (hd : decode cc pc = .ok (.aaload, mj_len (.aaload))) (ho : mj_okS y pc (.aaload) r1 r2 r3 r4 r5 = true) {pc' : Nat} {loc' : mj_L} {st' : List Value} {h' : mj_H} (hs : mj_step (.aaload) r1 r2 r3 mj_new pc loc st h = some (pc', loc', st', h')) (hr : mj_Rel B b D dA s nL n0 s0 loc h ls H locs cells slots)
    (hcl : h'.length ≤ n0 + R.cells) (hsl : mj_sl h' ≤ s0 + R.slots)
    (k : ∀ (ls' : Array Slot) (H' : Heap) (locs' : List Loc) (cells' slots' : Nat), mj_Rel B b D dA s nL n0 s0 loc' h' ls' H' locs' cells' slots' → W p l e R s m args below meth c H' locs' cells' slots' Q (F0 m pc' ls' (st'.map (mj_rv B b)))) :
    W p l e R s m args below meth c H locs cells slots Q (F0 m pc ls (st.map (mj_rv B b))) := by
  obtain ⟨hx, hb, hml, hown, hts, hK, hB, hbB, hlk, hin⟩ := C
  simp only [mj_step] at hs
  split at hs
  · rename_i i a st0
    split at hs
    · rename_i t n f he
      split at hs
      · rename_i hcond
        obtain ⟨ht, hin2⟩ := hcond
        cases hs
        have hat := hr.1.2.2 _ _ he
        obtain ⟨ht6, e1⟩ := hat.2 (fun q => by rw [q] at ht; exact absurd ht (by decide))
        exact W.aald (ty := mj_tt t) hx hb e1 ((hK.2 t _ (mj_tys_at dA ht6)).1 n _) (by
          match t, ht with
          | 3, _ => rfl
          | 4, _ => rfl
          | 5, _ => rfl
          | 6, _ => rfl) (fun q => by cases q) (by rw [arrV_size]; exact mj_in_of hin2) (arrV_read _ _ (mj_in_lt hin2)) rfl rfl hd (k _ _ _ _ _ hr)
      · cases hs
    · cases hs
  · cases hs
theorem mj_s_iastore {r1 r2 r3 r4 r5 : Nat} (C : mj_Ctx p s m args meth c y cc nL B b D dA) (hd : decode cc pc = .ok (.iastore, mj_len (.iastore))) (ho : mj_okS y pc (.iastore) r1 r2 r3 r4 r5 = true) {pc' : Nat} {loc' : mj_L} {st' : List Value} {h' : mj_H} (hs : mj_step (.iastore) r1 r2 r3 mj_new pc loc st h = some (pc', loc', st', h')) (hr : mj_Rel B b D dA s nL n0 s0 loc h ls H locs cells slots)
    (hcl : h'.length ≤ n0 + R.cells) (hsl : mj_sl h' ≤ s0 + R.slots)
    (k : ∀ (ls' : Array Slot) (H' : Heap) (locs' : List Loc) (cells' slots' : Nat), mj_Rel B b D dA s nL n0 s0 loc' h' ls' H' locs' cells' slots' → W p l e R s m args below meth c H' locs' cells' slots' Q (F0 m pc' ls' (st'.map (mj_rv B b)))) :
    W p l e R s m args below meth c H locs cells slots Q (F0 m pc ls (st.map (mj_rv B b))) := by
  obtain ⟨hx, hb, hml, hown, hts, hK, hB, hbB, hlk, hin⟩ := C
  simp only [mj_step] at hs
  split at hs
  · rename_i x i a st0
    split at hs
    · rename_i t n f he
      split at hs
      · rename_i hcond
        obtain ⟨ht, hin2⟩ := hcond
        cases hs
        have hat := hr.1.2.2 _ _ he
        subst ht
        obtain ⟨ht6, e1⟩ := hat.2 (by decide)
        have ha0 := hr.ne0 he (fun L xs h => by cases h)
        refine W.iast hx hb e1 ((hK.2 0 _ (mj_tys_at dA ht6)).1 n _) (fun q => by cases q) (by rw [arrV_size]; exact mj_in_of hin2) rfl rfl hd (fun H' f1 f2 f3 => k _ _ _ _ _ (hr.putE hbB ha0 he rfl ?_ f2 f3))
        refine ⟨fun h => absurd h (by decide), fun _ => ⟨by decide, ?_⟩⟩
        rw [f1, arrV_store]
        congr 2
        funext j
        by_cases hj : j = i.toNatClampNeg
        · simp only [updV, hj, if_true]; rfl
        · simp only [updV, hj, if_false]
      · cases hs
    · cases hs
  · cases hs
theorem mj_s_lastore {r1 r2 r3 r4 r5 : Nat} (C : mj_Ctx p s m args meth c y cc nL B b D dA) (hd : decode cc pc = .ok (.lastore, mj_len (.lastore))) (ho : mj_okS y pc (.lastore) r1 r2 r3 r4 r5 = true) {pc' : Nat} {loc' : mj_L} {st' : List Value} {h' : mj_H} (hs : mj_step (.lastore) r1 r2 r3 mj_new pc loc st h = some (pc', loc', st', h')) (hr : mj_Rel B b D dA s nL n0 s0 loc h ls H locs cells slots)
    (hcl : h'.length ≤ n0 + R.cells) (hsl : mj_sl h' ≤ s0 + R.slots)
    (k : ∀ (ls' : Array Slot) (H' : Heap) (locs' : List Loc) (cells' slots' : Nat), mj_Rel B b D dA s nL n0 s0 loc' h' ls' H' locs' cells' slots' → W p l e R s m args below meth c H' locs' cells' slots' Q (F0 m pc' ls' (st'.map (mj_rv B b)))) :
    W p l e R s m args below meth c H locs cells slots Q (F0 m pc ls (st.map (mj_rv B b))) := by
  obtain ⟨hx, hb, hml, hown, hts, hK, hB, hbB, hlk, hin⟩ := C
  simp only [mj_step] at hs
  split at hs
  · rename_i x i a st0
    split at hs
    · rename_i t n f he
      split at hs
      · rename_i hcond
        obtain ⟨ht, hin2⟩ := hcond
        cases hs
        have hat := hr.1.2.2 _ _ he
        subst ht
        obtain ⟨ht6, e1⟩ := hat.2 (by decide)
        have ha0 := hr.ne0 he (fun L xs h => by cases h)
        refine W.last hx hb e1 ((hK.2 1 _ (mj_tys_at dA ht6)).1 n _) (fun q => by cases q) (by rw [arrV_size]; exact mj_in_of hin2) rfl rfl hd (fun H' f1 f2 f3 => k _ _ _ _ _ (hr.putE hbB ha0 he rfl ?_ f2 f3))
        refine ⟨fun h => absurd h (by decide), fun _ => ⟨by decide, ?_⟩⟩
        rw [f1, arrV_store]
        congr 2
        funext j
        by_cases hj : j = i.toNatClampNeg
        · simp only [updV, hj, if_true]; rfl
        · simp only [updV, hj, if_false]
      · cases hs
    · cases hs
  · cases hs
theorem mj_s_bastore {r1 r2 r3 r4 r5 : Nat} (C : mj_Ctx p s m args meth c y cc nL B b D dA) (hd : decode cc pc = .ok (.bastore, mj_len (.bastore))) (ho : mj_okS y pc (.bastore) r1 r2 r3 r4 r5 = true) {pc' : Nat} {loc' : mj_L} {st' : List Value} {h' : mj_H} (hs : mj_step (.bastore) r1 r2 r3 mj_new pc loc st h = some (pc', loc', st', h')) (hr : mj_Rel B b D dA s nL n0 s0 loc h ls H locs cells slots)
    (hcl : h'.length ≤ n0 + R.cells) (hsl : mj_sl h' ≤ s0 + R.slots)
    (k : ∀ (ls' : Array Slot) (H' : Heap) (locs' : List Loc) (cells' slots' : Nat), mj_Rel B b D dA s nL n0 s0 loc' h' ls' H' locs' cells' slots' → W p l e R s m args below meth c H' locs' cells' slots' Q (F0 m pc' ls' (st'.map (mj_rv B b)))) :
    W p l e R s m args below meth c H locs cells slots Q (F0 m pc ls (st.map (mj_rv B b))) := by
  obtain ⟨hx, hb, hml, hown, hts, hK, hB, hbB, hlk, hin⟩ := C
  simp only [mj_step] at hs
  split at hs
  · rename_i x i a st0
    split at hs
    · rename_i t n f he
      split at hs
      · rename_i hcond
        obtain ⟨ht, hin2⟩ := hcond
        cases hs
        have hat := hr.1.2.2 _ _ he
        subst ht
        obtain ⟨ht6, e1⟩ := hat.2 (by decide)
        have ha0 := hr.ne0 he (fun L xs h => by cases h)
        refine W.bast hx hb e1 ((hK.2 2 _ (mj_tys_at dA ht6)).1 n _) (fun q => by cases q) (by rw [arrV_size]; exact mj_in_of hin2) rfl rfl hd (fun H' f1 f2 f3 => k _ _ _ _ _ (hr.putE hbB ha0 he rfl ?_ f2 f3))
        refine ⟨fun h => absurd h (by decide), fun _ => ⟨by decide, ?_⟩⟩
        rw [f1, arrV_store]
        congr 2
        funext j
        by_cases hj : j = i.toNatClampNeg
        · simp only [updV, hj, if_true]; rfl
        · simp only [updV, hj, if_false]
      · cases hs
    · cases hs
  · cases hs
theorem mj_s_aastore {r1 r2 r3 r4 r5 : Nat} (C : mj_Ctx p s m args meth c y cc nL B b D dA) (hd : decode cc pc = .ok (.aastore, mj_len (.aastore))) (ho : mj_okS y pc (.aastore) r1 r2 r3 r4 r5 = true) {pc' : Nat} {loc' : mj_L} {st' : List Value} {h' : mj_H} (hs : mj_step (.aastore) r1 r2 r3 mj_new pc loc st h = some (pc', loc', st', h')) (hr : mj_Rel B b D dA s nL n0 s0 loc h ls H locs cells slots)
    (hcl : h'.length ≤ n0 + R.cells) (hsl : mj_sl h' ≤ s0 + R.slots)
    (k : ∀ (ls' : Array Slot) (H' : Heap) (locs' : List Loc) (cells' slots' : Nat), mj_Rel B b D dA s nL n0 s0 loc' h' ls' H' locs' cells' slots' → W p l e R s m args below meth c H' locs' cells' slots' Q (F0 m pc' ls' (st'.map (mj_rv B b)))) :
    W p l e R s m args below meth c H locs cells slots Q (F0 m pc ls (st.map (mj_rv B b))) := by
  obtain ⟨hx, hb, hml, hown, hts, hK, hB, hbB, hlk, hin⟩ := C
  simp only [mj_step] at hs
  split at hs
  · rename_i v i a st0
    split at hs
    · rename_i t n f he
      split at hs
      · rename_i cv fv hev
        split at hs
        · rename_i hcond
          obtain ⟨ht, hin2⟩ := hcond
          cases hs
          have hat := hr.1.2.2 _ _ he
          obtain ⟨ht6, e1⟩ := hat.2 (fun q => by rw [q] at ht; simp [mj_el] at ht)
          have ha0 := hr.ne0 he (fun L xs h => by cases h; simp [mj_el] at ht)
          have hq : mj_cl[cv]? = some (match cv with | 0 => (match mj_cl[0]? with | some q => q | none => ("", mj_T0, 0)) | 3 => (match mj_cl[3]? with | some q => q | none => ("", mj_T0, 0)) | _ => (match mj_cl[8]? with | some q => q | none => ("", mj_T0, 0))) ∧ (mj_tt t = .object (match cv with | 0 => "PolyRegisters$Bench" | 3 => "PolyRegisters$Poly" | _ => "PolyRegisters$Wide")) ∧ (cv = 0 ∨ cv = 3 ∨ cv = 8) := by
            match t, ht with
            | 3, ht => cases ht; exact ⟨rfl, rfl, Or.inl rfl⟩
            | 4, ht => cases ht; exact ⟨rfl, rfl, Or.inr (Or.inl rfl)⟩
            | 5, ht => cases ht; exact ⟨rfl, rfl, Or.inr (Or.inr rfl)⟩
          obtain ⟨hq1, hq2, hq3⟩ := hq
          obtain ⟨r, h1, h2, cellV, g1, g2, g3, -⟩ := hr.1.2.2 _ _ hev (mj_cl_ne hq1)
          have hcls := (hK.1 cv _ h1).2
          have hR := (hK.2 t _ (mj_tys_at dA ht6)).2
          have hname : mj_tt t = .object r.1 := by
            rw [hq2]
            rcases hq3 with rfl | rfl | rfl <;> (cases h1; rfl)
          rw [hname] at hR
          obtain ⟨kA, comp, k1, k2, k3, -⟩ := hR
          have hcomp : comp = D.1 cv := Option.some.inj (k3.symm.trans hcls.1)
          subst hcomp
          obtain ⟨kC, hkC, -⟩ := hcls.2
          refine W.aast hx hb e1 (fun q h => by cases h) (fun h => by cases h) k1 k2 rfl hkC ⟨fun q => mj_in_of hin2 (Or.inl q), by rw [arrV_size]; exact mj_in_lt hin2⟩ g1 (fun q h => by rw [g3] at h; cases h) (by rw [g2]; exact hkC) (by rw [g2]; exact va_assign hcls) rfl rfl hd (fun H' f1 f2 f3 => k _ _ _ _ _ (hr.putE hbB ha0 he rfl ?_ f2 f3))
          refine ⟨fun h => by subst h; simp [mj_el] at ht, fun _ => ⟨ht6, ?_⟩⟩
          rw [f1, arrV_store]
          congr 2
          funext j
          by_cases hj : j = i.toNatClampNeg
          · simp only [updV, hj, if_true]; rfl
          · simp only [updV, hj, if_false]
        · cases hs
      · cases hs
    · cases hs
  · cases hs
theorem mj_s_newarray {r1 r2 r3 r4 r5 : Nat} {i : ArrayType} (C : mj_Ctx p s m args meth c y cc nL B b D dA) (hd : decode cc pc = .ok (.newarray i, mj_len (.newarray i))) (ho : mj_okS y pc (.newarray i) r1 r2 r3 r4 r5 = true) {pc' : Nat} {loc' : mj_L} {st' : List Value} {h' : mj_H} (hs : mj_step (.newarray i) r1 r2 r3 mj_new pc loc st h = some (pc', loc', st', h')) (hr : mj_Rel B b D dA s nL n0 s0 loc h ls H locs cells slots)
    (hcl : h'.length ≤ n0 + R.cells) (hsl : mj_sl h' ≤ s0 + R.slots)
    (k : ∀ (ls' : Array Slot) (H' : Heap) (locs' : List Loc) (cells' slots' : Nat), mj_Rel B b D dA s nL n0 s0 loc' h' ls' H' locs' cells' slots' → W p l e R s m args below meth c H' locs' cells' slots' Q (F0 m pc' ls' (st'.map (mj_rv B b)))) :
    W p l e R s m args below meth c H locs cells slots Q (F0 m pc ls (st.map (mj_rv B b))) := by
  obtain ⟨hx, hb, hml, hown, hts, hK, hB, hbB, hlk, hin⟩ := C
  simp only [mj_step] at hs
  split at hs
  · rename_i n st0
    split at hs
    · rename_i hcond
      obtain ⟨hn, hby, ht⟩ := hcond
      cases hs
      simp only [mj_okS, Bool.and_eq_true, decide_eq_true_eq] at ho
      obtain ⟨hty, hw⟩ := ho
      have hcb : componentBytes (newarray.typeOf i) ≤ 8 := by
        rw [hty]
        match r1, ht with
        | 0, _ => decide
        | 1, _ => decide
        | 2, _ => decide
      have hdv : defaultValue (newarray.typeOf i) = mj_rv B b (mj_df r1) := by
        rw [hty]
        match r1, ht with
        | 0, _ => rfl
        | 1, _ => rfl
        | 2, _ => rfl
      have hl : (h ++ [Sum.inl (r1, n.toNatClampNeg, fun _ => mj_df r1)] : mj_H).length = h.length + 1 := by simp
      rw [hl] at hcl
      rw [mj_sl_push] at hsl
      have hc0 := hr.2.2.2.1
      have hs0 := hr.2.2.2.2
      simp only [mj_slot] at hsl
      refine va_newaK hx hb (by rw [hty]; exact hts _ (mj_w_of hw).1 (mj_w_of hw).2) (g := F0 m pc ls (.int n :: st0.map (mj_rv B b))) rfl hd rfl (mj_not_lt hn) rfl (Nat.le_trans (Nat.mul_le_mul_left _ hcb) hby) (by omega) (by omega) rfl (fun H1 cA e1 z1 o1 hAr hNm => ?_)
      have hcA : cA = dA r1 := by
        have h6 := (hK.2 r1 _ (mj_tys_at dA (by omega))).2
        have h7 : s.vm.findClass ("[" ++ (mj_tt r1).toString) = some (dA r1) := by
          match r1, ht with
          | 0, _ => exact h6
          | 1, _ => exact h6
          | 2, _ => exact h6
        rw [hty] at hNm
        exact Option.some.inj (hNm.symm.trans h7)
      subst hcA
      obtain ⟨hr2, hadr⟩ := hr.pushE (e1 := .inl (r1, n.toNatClampNeg, fun _ => mj_df r1)) hB hbB ⟨fun h => by omega, fun _ => ⟨by omega, by rw [e1, hdv]⟩⟩ z1 o1
      have k := k _ _ _ _ _ hr2
      rw [← hadr]
      exact k
    · cases hs
  · cases hs
theorem mj_s_anewarray {r1 r2 r3 r4 r5 : Nat} {i : Nat} (C : mj_Ctx p s m args meth c y cc nL B b D dA) (hd : decode cc pc = .ok (.anewarray i, mj_len (.anewarray i))) (ho : mj_okS y pc (.anewarray i) r1 r2 r3 r4 r5 = true) {pc' : Nat} {loc' : mj_L} {st' : List Value} {h' : mj_H} (hs : mj_step (.anewarray i) r1 r2 r3 mj_new pc loc st h = some (pc', loc', st', h')) (hr : mj_Rel B b D dA s nL n0 s0 loc h ls H locs cells slots)
    (hcl : h'.length ≤ n0 + R.cells) (hsl : mj_sl h' ≤ s0 + R.slots)
    (k : ∀ (ls' : Array Slot) (H' : Heap) (locs' : List Loc) (cells' slots' : Nat), mj_Rel B b D dA s nL n0 s0 loc' h' ls' H' locs' cells' slots' → W p l e R s m args below meth c H' locs' cells' slots' Q (F0 m pc' ls' (st'.map (mj_rv B b)))) :
    W p l e R s m args below meth c H locs cells slots Q (F0 m pc ls (st.map (mj_rv B b))) := by
  obtain ⟨hx, hb, hml, hown, hts, hK, hB, hbB, hlk, hin⟩ := C
  simp only [mj_step] at hs
  split at hs
  · rename_i n st0
    split at hs
    · rename_i hcond
      obtain ⟨hn, hby⟩ := hcond
      cases hs
      simp only [mj_okS] at ho
      split at ho
      · rename_i ci hel
        split at ho
        · rename_i q hq
          simp only [Bool.and_eq_true, decide_eq_true_eq] at ho
          obtain ⟨⟨⟨⟨hw1, hw2⟩, hty⟩, ht3⟩, ht5⟩ := ho
          have hl : (h ++ [Sum.inl (r1, n.toNatClampNeg, fun _ => Value.null)] : mj_H).length = h.length + 1 := by simp
          rw [hl] at hcl
          rw [mj_sl_push] at hsl
          have hc0 := hr.2.2.2.1
          have hs0 := hr.2.2.2.2
          simp only [mj_slot] at hsl
          refine W.anew hx hb hown (hts _ (mj_w_of hw1).1 (mj_w_of hw1).2) (hts _ (mj_w_of hw2).1 (mj_w_of hw2).2) (g := F0 m pc ls (.int n :: st0.map (mj_rv B b))) rfl hd rfl (mj_not_lt hn) hby (by omega) (by omega) (fun cA kA comp f1 f2 f3 f4 => ?_)
          generalize hH1 : H.push ({ cls := cA, slots := Array.replicate n.toNatClampNeg .null, vm := .none } : Cell) = H1
          have z1 : H1.size = H.size + 1 := by rw [← hH1, Array.size_push]
          have e1 : H1[H.size]? = some (arrV cA n.toNatClampNeg (fun _ => .null)) := by rw [← hH1, Array.getElem?_push_size, ← arrV_new]
          have o1 : ∀ q : Nat, q < H.size → H1[q]? = H[q]? := fun q hq => by rw [← hH1, Array.getElem?_push, if_neg (Nat.ne_of_lt hq)]
          have hcA : cA = dA r1 := by
            have h6 := (hK.2 r1 _ (mj_tys_at dA (by omega))).2
            simp only [hty] at h6
            obtain ⟨kB, comp2, -, -, -, h7⟩ := h6
            exact Option.some.inj (f1.symm.trans h7)
          subst hcA
          obtain ⟨hr2, hadr⟩ := hr.pushE (e1 := .inl (r1, n.toNatClampNeg, fun _ => .null)) hB hbB ⟨fun h => by omega, fun _ => ⟨by omega, by rw [e1]; rfl⟩⟩ z1 o1
          have k := k _ _ _ _ _ hr2
          rw [← hadr]
          exact k
        · cases ho
      · cases ho
    · cases hs
  · cases hs
theorem mj_s_new {r1 r2 r3 r4 r5 : Nat} {i : Nat} (C : mj_Ctx p s m args meth c y cc nL B b D dA) (hd : decode cc pc = .ok (.new i, mj_len (.new i))) (ho : mj_okS y pc (.new i) r1 r2 r3 r4 r5 = true) {pc' : Nat} {loc' : mj_L} {st' : List Value} {h' : mj_H} (hs : mj_step (.new i) r1 r2 r3 mj_new pc loc st h = some (pc', loc', st', h')) (hr : mj_Rel B b D dA s nL n0 s0 loc h ls H locs cells slots)
    (hcl : h'.length ≤ n0 + R.cells) (hsl : mj_sl h' ≤ s0 + R.slots)
    (k : ∀ (ls' : Array Slot) (H' : Heap) (locs' : List Loc) (cells' slots' : Nat), mj_Rel B b D dA s nL n0 s0 loc' h' ls' H' locs' cells' slots' → W p l e R s m args below meth c H' locs' cells' slots' Q (F0 m pc' ls' (st'.map (mj_rv B b)))) :
    W p l e R s m args below meth c H locs cells slots Q (F0 m pc ls (st.map (mj_rv B b))) := by
  obtain ⟨hx, hb, hml, hown, hts, hK, hB, hbB, hlk, hin⟩ := C
  simp only [mj_step] at hs
  cases hs
  simp only [mj_okS] at ho
  split at ho
  · rename_i q hq
    obtain ⟨C, T, N⟩ := q
    have hc := mj_cls hq
    have htu : ∀ w ∈ u_ws C T N, w.before args s = true := fun w hw => hts w (hc.1 w hw).1 (hc.1 w hw).2
    have hKn := hK.1 r1 _ hq
    have hN : (mj_new r1).length = N := by
      have h9 : N = mj_nc r1 := hc.2.2.2.2.2
      rw [h9]
      simp [mj_new]
    have hl : (h ++ [Sum.inr (r1, mj_new r1)] : mj_H).length = h.length + 1 := by simp
    rw [hl] at hcl
    rw [mj_sl_push] at hsl
    have hc0 := hr.2.2.2.1
    have hs0 := hr.2.2.2.2
    simp only [mj_slot] at hsl
    refine W.newcK hx hb hown (hts _ (mj_w_of ho).1 (mj_w_of ho).2) (hts _ hc.2.2.2.1.1 hc.2.2.2.1.2) (hts _ hc.2.2.2.2.1.1 hc.2.2.2.2.1.2) (g := F0 m pc ls (st.map (mj_rv B b))) rfl hd (by omega) (by simp only; omega) hKn.2.1 rfl (fun H1 kC hkC e1 z1 o1 => ?_)
    have hob := (u_born (mj_ft r1) htu (fun w h => h) hKn hkC e1 hc.2.1)
    obtain ⟨hr2, hadr⟩ := hr.pushE (e1 := .inr (r1, mj_new r1)) (H1 := H1) hB hbB (fun _ => ⟨_, hq, hN.symm, hob.to (fun j hj => by
      have h9 : N = mj_nc r1 := hc.2.2.2.2.2
      have hj2 : j < mj_nc r1 := by rw [← h9]; exact hj
      have hdr : ∀ ty : FieldType, mj_rv B b (defaultValue ty) = defaultValue ty := fun ty => by cases ty <;> rfl
      simp [vp_V, mj_new, hj2, hdr])⟩) z1 o1
    have k := k _ _ _ _ _ hr2
    simp only [mj_slot, hN] at k
    rw [← hadr]
    exact k
  · cases ho
end MJH
