/-! The buffer, exactly: at, put, putBytes, append. -/
theorem mj_Ok.and {D j : Nat} {as : List Value} {h : mj_H} {Q1 Q2 : mj_R → Prop} (c1 : mj_Ok D j as h Q1) (c2 : mj_Ok D j as h Q2) : mj_Ok D j as h (fun r => Q1 r ∧ Q2 r) := by
  obtain ⟨F1, r1, a1, b1⟩ := c1
  obtain ⟨F2, r2, a2, b2⟩ := c2
  have e1 := mj_run_up mj_P (Nat.le_refl D) (Nat.le_max_left F1 F2) a1
  have e2 := mj_run_up mj_P (Nat.le_refl D) (Nat.le_max_right F1 F2) a2
  rw [e1] at e2
  cases e2
  exact ⟨max F1 F2, r1, e1, b1, b2⟩
theorem jb_255 : ∀ v : Nat, v < 256 → (jn (v : Int)).toInt8.toInt32 &&& jn 255 = jn (v : Int) := by decide +kernel
section JBT
variable {D tm : Nat} {T : Nat → Int} {h : mj_H}
theorem rq_at {i : Int} (b : jBuf tm T h) (ht : tm ≤ 200) (hT : ∀ j : Nat, j < tm → 1 ≤ T j ∧ T j ≤ 255) (hi : jr i) : mj_Ok (D + 1) 79 [.ref 13, .int (jn i)] h (fun r => r = (.inl (some (.int (jn (if 0 ≤ i ∧ i < (tm : Int) then T i.toNat else -1)))), h)) := by
  obtain ⟨b1, f, b2, b3⟩ := b
  have no : ¬ (0 ≤ i ∧ i < (tm : Int)) → mj_T D mj_m79 34 [some (.ref 13), some (.int (jn i))] [] h (fun r => r = (.inl (some (.int (jn (if 0 ≤ i ∧ i < (tm : Int) then T i.toNat else -1)))), h)) := fun hn => by
    rw [if_neg hn]
    refine mj_T.pl rfl rfl rfl rfl ?_
    exact mj_T.ret rfl rfl rfl rfl
  refine mj_Ok.of (M := mj_m79) (loc := [some (.ref 13), some (.int (jn i))]) rfl rfl rfl ?_
  refine mj_T.pl rfl rfl rfl rfl ?_
  refine mj_T.if0 (a := i) rfl hi (fun c => ?_) (fun c => ?_)
  · have c := of_decide_eq_true c
    exact no (by omega)
  have c := of_decide_eq_false c
  iterate 2 refine mj_T.pl rfl rfl rfl rfl ?_
  refine mj_T.gfl rfl b1 rfl ?_
  refine mj_T.icmp (a := i) (b := (tm : Int)) rfl hi ⟨by omega, by omega⟩ (fun c2 => ?_) (fun c2 => ?_)
  · have c2 := of_decide_eq_true c2
    exact no (by omega)
  have c2 := of_decide_eq_false c2
  iterate 2 refine mj_T.pl rfl rfl rfl rfl ?_
  refine mj_T.gfl rfl b1 rfl ?_
  refine mj_T.alen rfl b2 ?_
  refine mj_T.icmp (a := i) (b := 200) rfl hi ⟨by decide, by decide⟩ (fun c3 => ?_) (fun c3 => ?_)
  · have c3 := of_decide_eq_true c3
    omega
  refine mj_T.pl rfl rfl rfl rfl ?_
  refine mj_T.gfl rfl b1 rfl ?_
  refine mj_T.pl rfl rfl rfl rfl ?_
  obtain ⟨k, rfl⟩ := Int.eq_ofNat_of_zero_le (show 0 ≤ i by omega)
  have hin : mj_in (jn (k : Int)) 200 = true := by rw [jn_in hi]; exact decide_eq_true ⟨by omega, by omega⟩
  have hn : (jn (k : Int)).toNatClampNeg = k := by rw [jn_nat (by omega) hi]; rfl
  refine mj_T.step (pc' := 27) (loc' := [some (.ref 13), some (.int (jn (k : Int)))]) (st' := [jbv (T k)]) (h' := h) rfl rfl (by simp only [mj_step, b2, hin, hn, b3 k (by omega), true_and, if_true]) ?_
  refine mj_T.pl rfl rfl rfl rfl ?_
  have hTk := hT k (by omega)
  have e : (jn (T k)).toInt8.toInt32 &&& Int32.ofInt 255 = jn (T k) := by
    have := jb_255 (T k).toNat (by omega)
    rw [Int.toNat_of_nonneg (by omega)] at this
    exact this
  refine mj_T.step (pc' := 31) (loc' := [some (.ref 13), some (.int (jn (k : Int)))]) (st' := [.int (jn (T k))]) (h' := h) rfl rfl (by simp only [mj_step, jbv, e]) ?_
  refine mj_T.pl rfl rfl rfl rfl ?_
  refine mj_T.ret rfl rfl rfl ?_
  rw [if_pos ⟨by omega, by omega⟩]
  rfl
/-- all else stays -/
def jBf (h h' : mj_H) : Prop := h'.length = h.length ∧ ∀ a : Nat, a ≠ 13 → a ≠ 14 → h'[a]? = h[a]?
theorem jBf.rf : jBf h h := ⟨rfl, fun _ _ _ => rfl⟩
theorem jBf.tr {h1 h2 : mj_H} (p : jBf h h1) (q : jBf h1 h2) : jBf h h2 := ⟨q.1.trans p.1, fun a x y => (q.2 a x y).trans (p.2 a x y)⟩
theorem rq_put {v : Int} (b : jBuf tm T h) (ht : tm < 200) : mj_Ok (D + 1) 80 [.ref 13, .int (jn v)] h (fun r => ∃ h', r = (.inl none, h') ∧ jBuf (tm + 1) (jvu T tm v) h' ∧ jBf h h') := by
  obtain ⟨b1, f, b2, b3⟩ := b
  have hl1 := (List.getElem?_eq_some_iff.mp b1).1
  have hl2 := (List.getElem?_eq_some_iff.mp b2).1
  refine mj_Ok.of (M := mj_m80) (loc := [some (.ref 13), some (.int (jn v))]) rfl rfl rfl ?_
  refine mj_T.pl rfl rfl rfl rfl ?_
  refine mj_T.gfl rfl b1 rfl ?_
  refine mj_T.if0 (a := (tm : Int)) rfl ⟨by omega, by omega⟩ (fun c => ?_) (fun c => ?_)
  · simp only [jc, decide_eq_true_eq] at c
    omega
  clear c
  refine mj_T.pl rfl rfl rfl rfl ?_
  refine mj_T.gfl rfl b1 rfl ?_
  refine mj_T.pl rfl rfl rfl rfl ?_
  refine mj_T.gfl rfl b1 rfl ?_
  refine mj_T.alen rfl b2 ?_
  refine mj_T.icmp (a := (tm : Int)) (b := 200) rfl ⟨by omega, by omega⟩ ⟨by decide, by decide⟩ (fun c => ?_) (fun c => ?_)
  · have c := of_decide_eq_true c
    omega
  clear c
  refine mj_T.pl rfl rfl rfl rfl ?_
  refine mj_T.gfl rfl b1 rfl ?_
  refine mj_T.pl rfl rfl rfl rfl ?_
  refine mj_T.gfl rfl b1 rfl ?_
  iterate 2 refine mj_T.pl rfl rfl rfl rfl ?_
  have hj : jr (tm : Int) := ⟨by omega, by omega⟩
  have hin : mj_in (jn (tm : Int)) 200 = true := by rw [jn_in hj]; exact decide_eq_true ⟨by omega, by omega⟩
  have hn : (jn (tm : Int)).toNatClampNeg = tm := by rw [jn_nat (by omega) hj]; rfl
  have e8 : (jn v).toInt8.toInt32.toInt8 = (jn v).toInt8 := Int8.toInt8_toInt32 _
  refine mj_T.step (pc' := 30) (loc' := [some (.ref 13), some (.int (jn v))]) (st' := []) (h' := h.set 14 (.inl (2, 200, updV f tm (jbv v)))) rfl rfl (by simp only [mj_step, b2, hin, hn, e8, true_and, if_true, jbv]) ?_
  have g1 : (h.set 14 (.inl (2, 200, updV f tm (jbv v))))[13]? = some (.inr (7, [.ref 14, .int (jn (tm : Int))])) := by rw [List.getElem?_set_ne (by decide)]; exact b1
  iterate 2 refine mj_T.pl rfl rfl rfl rfl ?_
  refine mj_T.gfl rfl g1 rfl ?_
  refine mj_T.pl rfl rfl rfl rfl ?_
  refine mj_T.iadd rfl ?_
  refine mj_T.pfl rfl g1 (Nat.le_of_ble_eq_true rfl) rfl ?_
  refine mj_T.ret rfl rfl rfl ⟨_, rfl, ⟨?_, updV f tm (jbv v), ?_, fun j hj => ?_⟩, ?_, fun a x y => ?_⟩
  · rw [List.getElem?_set_self (by rw [List.length_set]; exact hl1)]
    rfl
  · rw [List.getElem?_set_ne (by decide), List.getElem?_set_self hl2]
  · unfold updV
    by_cases c : j = tm
    · subst c
      rw [if_pos rfl, jvu_at]
    · rw [if_neg c, jvu_ne _ _ _ c]
      exact b3 j (by omega)
  · rw [List.length_set, List.length_set]
  · rw [List.getElem?_set_ne (Ne.symm x), List.getElem?_set_ne (Ne.symm y)]
/-- one byte more, if it is not 0 -/
def pb1 (b : Nat) (p : Nat × (Nat → Int)) : Nat × (Nat → Int) := if b = 0 then p else (p.1 + 1, jvu p.2 p.1 (b : Int))
theorem pb1_le (b : Nat) (p : Nat × (Nat → Int)) : p.1 ≤ (pb1 b p).1 := by
  unfold pb1
  split
  · exact Nat.le_refl _
  · exact Nat.le_succ _
def pb4 (x : Int32) (p : Nat × (Nat → Int)) : Nat × (Nat → Int) := pb1 (mq_byt x 0) (pb1 (mq_byt x 1) (pb1 (mq_byt x 2) (pb1 (mq_byt x 3) p)))
theorem pb4_le (x : Int32) (p : Nat × (Nat → Int)) : p.1 ≤ (pb4 x p).1 := Nat.le_trans (pb1_le _ p) (Nat.le_trans (pb1_le _ _) (Nat.le_trans (pb1_le _ _) (pb1_le _ _)))
theorem rb81_step {s : Nat} {x : Int32} {l3 : Option Value} {Q : mj_R → Prop} {p : Nat × (Nat → Int)} (b : jBuf p.1 p.2 h) (hs : s = 24 ∨ s = 16 ∨ s = 8 ∨ s = 0) (hroom : (pb1 (mq_byt x (s / 8)) p).1 ≤ 200) (k : ∀ h' l3', jBuf (pb1 (mq_byt x (s / 8)) p).1 (pb1 (mq_byt x (s / 8)) p).2 h' → jBf h h' → mj_T (D + 1) mj_m81 3 [some (.ref 13), some (.int x), some (.int (jn ((s : Nat) + -8))), l3'] [] h' Q) : mj_T (D + 1) mj_m81 3 [some (.ref 13), some (.int x), some (.int (jn (s : Nat))), l3] [] h Q := by
  have hb := jb_byt_lt x (s / 8)
  refine mj_T.pl rfl rfl rfl rfl ?_
  refine mj_T.if0 rfl ⟨by omega, by omega⟩ (fun hc => ?_) (fun hc => ?_)
  · simp only [jc, decide_eq_true_eq] at hc; omega
  iterate 5 refine mj_T.pl rfl rfl rfl rfl ?_
  refine mj_T.eq (st2 := [.int (jn (mq_byt x (s / 8) : Nat))]) ?_ rfl rfl (congrArg (fun v => [Value.int v]) (jb_shr x hs)) rfl
  refine mj_T.pl (loc' := [some (.ref 13), some (.int x), some (.int (jn (s : Nat))), some (.int (jn (mq_byt x (s / 8) : Nat)))]) rfl rfl rfl rfl ?_
  have fin : ∀ h', jBuf (pb1 (mq_byt x (s / 8)) p).1 (pb1 (mq_byt x (s / 8)) p).2 h' → jBf h h' → mj_T (D + 1) mj_m81 24 [some (.ref 13), some (.int x), some (.int (jn (s : Nat))), some (.int (jn (mq_byt x (s / 8) : Nat)))] [] h' Q := fun h' o' f' => by
    refine mj_T.iinc (a := (s : Int)) rfl rfl ?_
    exact mj_T.pl rfl rfl rfl rfl (k h' _ o' f')
  refine mj_T.pl rfl rfl rfl rfl ?_
  refine mj_T.if0 rfl ⟨by omega, by omega⟩ (fun hc => ?_) (fun hc => ?_)
  · simp only [jc, decide_eq_true_eq] at hc
    refine fin h ?_ jBf.rf
    rw [show pb1 (mq_byt x (s / 8)) p = p from if_pos (by omega)]
    exact b
  · simp only [jc, decide_eq_false_iff_not] at hc
    have hn : mq_byt x (s / 8) ≠ 0 := by omega
    have e : pb1 (mq_byt x (s / 8)) p = (p.1 + 1, jvu p.2 p.1 ((mq_byt x (s / 8) : Nat) : Int)) := if_neg hn
    rw [e] at fin hroom
    iterate 2 refine mj_T.pl rfl rfl rfl rfl ?_
    refine mj_T.call rfl rfl (Nat.le_of_ble_eq_true rfl) (Nat.le_of_ble_eq_true rfl) (by simp [mj_recv, b.1]) rfl (rq_put (D := D) b (by simp only at hroom; omega)) (fun v h' hq => ?_) (fun i h' hq => by obtain ⟨_, hq, _⟩ := hq; cases hq)
    obtain ⟨h2, hq, o2, f2⟩ := hq
    cases hq
    exact fin _ o2 f2
theorem rq_putBytes {x : Int32} {p : Nat × (Nat → Int)} (b : jBuf p.1 p.2 h) (hr : (pb4 x p).1 ≤ 200) : mj_Ok (D + 2) 81 [.ref 13, .int x] h (fun r => ∃ h', r = (.inl none, h') ∧ jBuf (pb4 x p).1 (pb4 x p).2 h' ∧ jBf h h') := by
  refine mj_Ok.of (M := mj_m81) (loc := [some (.ref 13), some (.int x), none, none]) rfl rfl rfl ?_
  have r0 : (pb1 (mq_byt x 0) (pb1 (mq_byt x 1) (pb1 (mq_byt x 2) (pb1 (mq_byt x 3) p)))).1 ≤ 200 := hr
  have r1 := Nat.le_trans (pb1_le _ _) r0
  have r2 := Nat.le_trans (pb1_le _ _) r1
  have r3 := Nat.le_trans (pb1_le _ _) r2
  iterate 2 refine mj_T.pl rfl rfl rfl rfl ?_
  refine rb81_step (s := 24) b (by decide) r3 (fun g3 l3 o3 f3 => ?_)
  refine rb81_step (s := 16) o3 (by decide) r2 (fun g2 l2 o2 f2 => ?_)
  refine rb81_step (s := 8) o2 (by decide) r1 (fun g1 l1 o1 f1 => ?_)
  refine rb81_step (s := 0) o1 (by decide) r0 (fun g0 l0 o0 f0 => ?_)
  refine mj_T.pl rfl rfl rfl rfl ?_
  refine mj_T.if0 (a := ((0 : Nat) : Int) + -8) rfl ⟨by omega, by omega⟩ (fun hc => ?_) (fun hc => ?_)
  rotate_left
  · simp only [jc, decide_eq_false_iff_not] at hc; omega
  exact mj_T.ret rfl rfl rfl ⟨g0, rfl, o0, ((f3.tr f2).tr f1).tr f0⟩
/-- what append makes, byte by byte -/
theorem pb_ap (x1 x2 x3 x4 x5 : Int32) (tm : Nat) (T : Nat → Int) (k : Nat) : pb1 (jbk x1 x2 x3 x4 x5 k) (tm + jcn x1 x2 x3 x4 x5 k, apT x1 x2 x3 x4 x5 tm T k) = (tm + jcn x1 x2 x3 x4 x5 (k + 1), apT x1 x2 x3 x4 x5 tm T (k + 1)) := by
  unfold pb1
  show _ = (tm + (jcn x1 x2 x3 x4 x5 k + (if jbk x1 x2 x3 x4 x5 k = 0 then 0 else 1)), (if jbk x1 x2 x3 x4 x5 k = 0 then apT x1 x2 x3 x4 x5 tm T k else jvu (apT x1 x2 x3 x4 x5 tm T k) (tm + jcn x1 x2 x3 x4 x5 k) (jbk x1 x2 x3 x4 x5 k : Nat)))
  by_cases c : jbk x1 x2 x3 x4 x5 k = 0
  · rw [if_pos c, if_pos c, if_pos c]
    rfl
  · rw [if_neg c, if_neg c, if_neg c]
    rfl
theorem pb_all (x1 x2 x3 x4 x5 : Int32) (tm : Nat) (T : Nat → Int) : pb4 x5 (pb4 x4 (pb4 x3 (pb4 x2 (pb4 x1 (tm, T))))) = (tm + jcn x1 x2 x3 x4 x5 20, apT x1 x2 x3 x4 x5 tm T 20) := by
  have s : ∀ k, pb1 (jbk x1 x2 x3 x4 x5 k) (tm + jcn x1 x2 x3 x4 x5 k, apT x1 x2 x3 x4 x5 tm T k) = (tm + jcn x1 x2 x3 x4 x5 (k + 1), apT x1 x2 x3 x4 x5 tm T (k + 1)) := pb_ap x1 x2 x3 x4 x5 tm T
  have e1 : pb4 x1 (tm, T) = (tm + jcn x1 x2 x3 x4 x5 4, apT x1 x2 x3 x4 x5 tm T 4) := by
    rw [← s 3, ← s 2, ← s 1, ← s 0]
    rfl
  have e2 : pb4 x2 (tm + jcn x1 x2 x3 x4 x5 4, apT x1 x2 x3 x4 x5 tm T 4) = (tm + jcn x1 x2 x3 x4 x5 8, apT x1 x2 x3 x4 x5 tm T 8) := by
    rw [← s 7, ← s 6, ← s 5, ← s 4]
    rfl
  have e3 : pb4 x3 (tm + jcn x1 x2 x3 x4 x5 8, apT x1 x2 x3 x4 x5 tm T 8) = (tm + jcn x1 x2 x3 x4 x5 12, apT x1 x2 x3 x4 x5 tm T 12) := by
    rw [← s 11, ← s 10, ← s 9, ← s 8]
    rfl
  have e4 : pb4 x4 (tm + jcn x1 x2 x3 x4 x5 12, apT x1 x2 x3 x4 x5 tm T 12) = (tm + jcn x1 x2 x3 x4 x5 16, apT x1 x2 x3 x4 x5 tm T 16) := by
    rw [← s 15, ← s 14, ← s 13, ← s 12]
    rfl
  have e5 : pb4 x5 (tm + jcn x1 x2 x3 x4 x5 16, apT x1 x2 x3 x4 x5 tm T 16) = (tm + jcn x1 x2 x3 x4 x5 20, apT x1 x2 x3 x4 x5 tm T 20) := by
    rw [← s 19, ← s 18, ← s 17, ← s 16]
    rfl
  rw [e1, e2, e3, e4, e5]
/-- append: the bytes -/
theorem rq_append {mf : List Value} {x1 x2 x3 x4 x5 : Int32} (hm : h[1]? = some (.inr (9, mf))) (hm4 : mf[4]? = some (.ref 13)) (b : jBuf tm T h) (ht : tm ≤ 200) : mj_Ok (D + 3) 141 [.ref 1, .int x1, .int x2, .int x3, .int x4, .int x5] h (fun r => (200 < tm + jcn x1 x2 x3 x4 x5 20 ∧ jqt h r.2) ∨ (tm + jcn x1 x2 x3 x4 x5 20 ≤ 200 ∧ jBuf (tm + jcn x1 x2 x3 x4 x5 20) (apT x1 x2 x3 x4 x5 tm T 20) r.2 ∧ jBf h r.2)) := by
  rw [jcn_20]
  have n1 := mq_nby_le x1
  have n2 := mq_nby_le x2
  have n3 := mq_nby_le x3
  have n4 := mq_nby_le x4
  have n5 := mq_nby_le x5
  refine mj_Ok.of (M := mj_m141) (loc := [some (.ref 1), some (.int x1), some (.int x2), some (.int x3), some (.int x4), some (.int x5), none]) rfl rfl rfl ?_
  refine mj_T.pl rfl rfl rfl rfl ?_
  refine mj_T.call rfl rfl (Nat.le_of_ble_eq_true rfl) (Nat.le_of_ble_eq_true rfl) rfl rfl (mj_Ok.up (by omega) (jb_in (D := D) (x := x1))) (fun v h' hq => ?_) (fun i h' hq => by cases hq)
  cases hq
  refine mj_T.pl rfl rfl rfl rfl ?_
  refine mj_T.call rfl rfl (Nat.le_of_ble_eq_true rfl) (Nat.le_of_ble_eq_true rfl) rfl rfl (mj_Ok.up (by omega) (jb_in (D := D) (x := x2))) (fun v h' hq => ?_) (fun i h' hq => by cases hq)
  cases hq
  refine mj_T.eq (st2 := [.int (jn (mq_nby x2 : Int)), .int (jn ((mq_nby x1 : Int) : Int))]) ?_ rfl rfl rfl rfl
  refine mj_T.iadd rfl ?_
  refine mj_T.pl rfl rfl rfl rfl ?_
  refine mj_T.call rfl rfl (Nat.le_of_ble_eq_true rfl) (Nat.le_of_ble_eq_true rfl) rfl rfl (mj_Ok.up (by omega) (jb_in (D := D) (x := x3))) (fun v h' hq => ?_) (fun i h' hq => by cases hq)
  cases hq
  refine mj_T.eq (st2 := [.int (jn (mq_nby x3 : Int)), .int (jn ((((mq_nby x1 : Int) : Int) + (mq_nby x2 : Int)) : Int))]) ?_ rfl rfl rfl rfl
  refine mj_T.iadd rfl ?_
  refine mj_T.pl rfl rfl rfl rfl ?_
  refine mj_T.call rfl rfl (Nat.le_of_ble_eq_true rfl) (Nat.le_of_ble_eq_true rfl) rfl rfl (mj_Ok.up (by omega) (jb_in (D := D) (x := x4))) (fun v h' hq => ?_) (fun i h' hq => by cases hq)
  cases hq
  refine mj_T.eq (st2 := [.int (jn (mq_nby x4 : Int)), .int (jn ((((((mq_nby x1 : Int) : Int) + (mq_nby x2 : Int)) : Int) + (mq_nby x3 : Int)) : Int))]) ?_ rfl rfl rfl rfl
  refine mj_T.iadd rfl ?_
  refine mj_T.pl rfl rfl rfl rfl ?_
  refine mj_T.call rfl rfl (Nat.le_of_ble_eq_true rfl) (Nat.le_of_ble_eq_true rfl) rfl rfl (mj_Ok.up (by omega) (jb_in (D := D) (x := x5))) (fun v h' hq => ?_) (fun i h' hq => by cases hq)
  cases hq
  refine mj_T.eq (st2 := [.int (jn (mq_nby x5 : Int)), .int (jn ((((((((mq_nby x1 : Int) : Int) + (mq_nby x2 : Int)) : Int) + (mq_nby x3 : Int)) : Int) + (mq_nby x4 : Int)) : Int))]) ?_ rfl rfl rfl rfl
  refine mj_T.iadd rfl ?_
  have ea : (((((((((mq_nby x1 : Int) : Int) + (mq_nby x2 : Int)) : Int) + (mq_nby x3 : Int)) : Int) + (mq_nby x4 : Int)) : Int) + (mq_nby x5 : Int)) = ((mq_nby x1 + mq_nby x2 + mq_nby x3 + mq_nby x4 + mq_nby x5 : Nat) : Int) := by omega
  rw [ea]
  have pall := pb_all x1 x2 x3 x4 x5 tm T
  rw [jcn_20] at pall
  generalize eN : mq_nby x1 + mq_nby x2 + mq_nby x3 + mq_nby x4 + mq_nby x5 = N at pall
  refine mj_T.pl (loc' := [some (.ref 1), some (.int x1), some (.int x2), some (.int x3), some (.int x4), some (.int x5), some (.int (jn (N : Int)))]) rfl rfl rfl rfl ?_
  refine mj_T.pl rfl rfl rfl rfl ?_
  refine mj_T.gfl rfl hm hm4 ?_
  refine mj_T.gfl rfl b.1 rfl ?_
  refine mj_T.pl rfl rfl rfl rfl ?_
  refine mj_T.iadd rfl ?_
  refine mj_T.pl rfl rfl rfl rfl ?_
  refine mj_T.icmp (a := (tm : Int) + (N : Int)) (b := 200) rfl ⟨by omega, by omega⟩ ⟨by decide, by decide⟩ (fun c => ?_) (fun c => ?_)
  rotate_left
  · have c := of_decide_eq_false c
    exact mj_T.throws rfl rfl rfl (Nat.le_of_ble_eq_true rfl) (Or.inl ⟨by omega, jqt.app _⟩)
  have c := of_decide_eq_true c
  have hp : ((pb4 x5 (pb4 x4 (pb4 x3 (pb4 x2 (pb4 x1 (tm, T)))))) ).1 ≤ 200 := by rw [pall]; show tm + N ≤ 200; omega
  have p4 := Nat.le_trans (pb4_le x5 _) hp
  have p3 := Nat.le_trans (pb4_le x4 _) p4
  have p2 := Nat.le_trans (pb4_le x3 _) p3
  have p1 := Nat.le_trans (pb4_le x2 _) p2
  have mm : ∀ {g : mj_H}, jBf h g → g[1]? = some (.inr (9, mf)) := fun f => by rw [f.2 1 (by decide) (by decide)]; exact hm
  refine mj_T.pl rfl rfl rfl rfl ?_
  refine mj_T.gfl rfl hm hm4 ?_
  refine mj_T.pl rfl rfl rfl rfl ?_
  refine mj_T.call rfl rfl (Nat.le_of_ble_eq_true rfl) (Nat.le_of_ble_eq_true rfl) (by simp [mj_recv, b.1]) rfl (rq_putBytes (D := D) (x := x1) (p := (tm, T)) b p1) (fun v h' hq => ?_) (fun i h' hq => by obtain ⟨_, hq, _⟩ := hq; cases hq)
  obtain ⟨h1, hq, o1, f1⟩ := hq
  cases hq
  refine mj_T.pl rfl rfl rfl rfl ?_
  refine mj_T.gfl rfl (mm f1) hm4 ?_
  refine mj_T.pl rfl rfl rfl rfl ?_
  refine mj_T.call rfl rfl (Nat.le_of_ble_eq_true rfl) (Nat.le_of_ble_eq_true rfl) (by simp [mj_recv, o1.1]) rfl (rq_putBytes (D := D) (x := x2) o1 p2) (fun v h' hq => ?_) (fun i h' hq => by obtain ⟨_, hq, _⟩ := hq; cases hq)
  obtain ⟨h2, hq, o2, f2⟩ := hq
  cases hq
  refine mj_T.pl rfl rfl rfl rfl ?_
  refine mj_T.gfl rfl (mm (f1.tr f2)) hm4 ?_
  refine mj_T.pl rfl rfl rfl rfl ?_
  refine mj_T.call rfl rfl (Nat.le_of_ble_eq_true rfl) (Nat.le_of_ble_eq_true rfl) (by simp [mj_recv, o2.1]) rfl (rq_putBytes (D := D) (x := x3) o2 p3) (fun v h' hq => ?_) (fun i h' hq => by obtain ⟨_, hq, _⟩ := hq; cases hq)
  obtain ⟨h3, hq, o3, f3⟩ := hq
  cases hq
  refine mj_T.pl rfl rfl rfl rfl ?_
  refine mj_T.gfl rfl (mm ((f1.tr f2).tr f3)) hm4 ?_
  refine mj_T.pl rfl rfl rfl rfl ?_
  refine mj_T.call rfl rfl (Nat.le_of_ble_eq_true rfl) (Nat.le_of_ble_eq_true rfl) (by simp [mj_recv, o3.1]) rfl (rq_putBytes (D := D) (x := x4) o3 p4) (fun v h' hq => ?_) (fun i h' hq => by obtain ⟨_, hq, _⟩ := hq; cases hq)
  obtain ⟨h4, hq, o4, f4⟩ := hq
  cases hq
  refine mj_T.pl rfl rfl rfl rfl ?_
  refine mj_T.gfl rfl (mm (((f1.tr f2).tr f3).tr f4)) hm4 ?_
  refine mj_T.pl rfl rfl rfl rfl ?_
  refine mj_T.call rfl rfl (Nat.le_of_ble_eq_true rfl) (Nat.le_of_ble_eq_true rfl) (by simp [mj_recv, o4.1]) rfl (rq_putBytes (D := D) (x := x5) o4 hp) (fun v h' hq => ?_) (fun i h' hq => by obtain ⟨_, hq, _⟩ := hq; cases hq)
  obtain ⟨h5, hq, o5, f5⟩ := hq
  cases hq
  have f6 := (((f1.tr f2).tr f3).tr f4).tr f5
  refine mj_T.pl rfl rfl rfl rfl ?_
  refine mj_T.gfl rfl (mm f6) hm4 ?_
  refine mj_T.gfl rfl o5.1 rfl ?_
  refine mj_T.ret rfl rfl rfl (Or.inr ⟨by omega, ?_, f6⟩)
  rw [pall] at o5
  exact o5
end JBT
