/-! The class's texts. -/
abbrev jtP (h : mj_H) (tx ar p : Nat) (f : Nat → Value) : mj_H := (h.set tx (.inr (7, [.ref ar, .int (jn (p : Nat))]))).set ar (.inl (2, 200, f))
abbrev jtC (h : mj_H) (tx ar : Nat) : Prop := tx ≠ ar ∧ tx < h.length ∧ ar < h.length
section MTX
variable {D : Nat} {h : mj_H} {tx ar p : Nat} {f : Nat → Value} {x : Int32} {Q : mj_R → Prop}
theorem jtP_t (C : jtC h tx ar) : (jtP h tx ar p f)[tx]? = some (.inr (7, [.ref ar, .int (jn (p : Nat))])) := by
  rw [List.getElem?_set_ne (Ne.symm C.1), List.getElem?_set_self C.2.1]
theorem jtP_a (C : jtC h tx ar) : (jtP h tx ar p f)[ar]? = some (.inl (2, 200, f)) := List.getElem?_set_self (by rw [List.length_set]; exact C.2.2)
theorem jtP_set (C : jtC h tx ar) {q : Nat} {f' : Nat → Value} : ((jtP h tx ar p f).set ar (.inl (2, 200, f'))).set tx (.inr (7, [.ref ar, .int (jn (q : Nat))])) = jtP h tx ar q f' := by
  rw [List.set_set, List.set_comm _ _ (Ne.symm C.1), List.set_set]
theorem jb_put (C : jtC h tx ar) {y : Int32} (hp : p < 200) : mj_Ok (D + 1) 80 [.ref tx, .int y] (jtP h tx ar p f) (fun r => ∃ f', r = (.inl none, jtP h tx ar (p + 1) f')) := by
  have ht : (jtP h tx ar p f)[tx]? = some (.inr (7, [.ref ar, .int (jn (p : Nat))])) := jtP_t C
  have ha : (jtP h tx ar p f)[ar]? = some (.inl (2, 200, f)) := jtP_a C
  refine mj_Ok.of (M := mj_m80) rfl rfl rfl ?_
  refine mj_T.pl rfl rfl rfl rfl ?_
  refine mj_T.gfl rfl ht rfl ?_
  refine mj_T.if0 rfl ⟨by omega, by omega⟩ (fun hc => ?_) (fun hc => ?_)
  · simp only [jc, decide_eq_true_eq] at hc; omega
  refine mj_T.pl rfl rfl rfl rfl ?_
  refine mj_T.gfl rfl ht rfl ?_
  refine mj_T.pl rfl rfl rfl rfl ?_
  refine mj_T.gfl rfl ht rfl ?_
  refine mj_T.alen rfl ha ?_
  refine mj_T.icmp rfl ⟨by omega, by omega⟩ ⟨by decide, by decide⟩ (fun hc => ?_) (fun hc => ?_)
  · simp only [jc, decide_eq_true_eq] at hc; omega
  refine mj_T.pl rfl rfl rfl rfl ?_
  refine mj_T.gfl rfl ht rfl ?_
  refine mj_T.pl rfl rfl rfl rfl ?_
  refine mj_T.gfl rfl ht rfl ?_
  iterate 2 refine mj_T.pl rfl rfl rfl rfl ?_
  have h1 : mj_in (jn (p : Nat)) 200 = true := by rw [jn_in ⟨by omega, by omega⟩]; exact decide_eq_true ⟨by omega, by omega⟩
  refine mj_T.step (loc' := mj_loc0 2 [.ref tx, .int y]) (st' := []) (h' := (jtP h tx ar p f).set ar (.inl (2, 200, updV f (jn (p : Nat)).toNatClampNeg (.int y.toInt8.toInt32.toInt8.toInt32)))) (pc' := 30) rfl rfl (by simp only [mj_step, ha, h1, and_self, if_true]; rfl) ?_
  have ht2 : ((jtP h tx ar p f).set ar (.inl (2, 200, updV f (jn (p : Nat)).toNatClampNeg (.int y.toInt8.toInt32.toInt8.toInt32))))[tx]? = some (.inr (7, [.ref ar, .int (jn (p : Nat))])) := by rw [List.getElem?_set_ne (Ne.symm C.1)]; exact ht
  iterate 2 refine mj_T.pl rfl rfl rfl rfl ?_
  refine mj_T.gfl rfl ht2 rfl ?_
  refine mj_T.pl rfl rfl rfl rfl ?_
  refine mj_T.iadd (a := (p : Int)) (b := 1) rfl ?_
  refine mj_T.step (loc' := mj_loc0 2 [.ref tx, .int y]) (st' := []) (h' := ((jtP h tx ar p f).set ar (.inl (2, 200, updV f (jn (p : Nat)).toNatClampNeg (.int y.toInt8.toInt32.toInt8.toInt32)))).set tx (.inr (7, [.ref ar, .int (jn ((p : Int) + 1))]))) (pc' := 40) rfl rfl (by simp only [mj_step, ht2]; rfl) ?_
  refine mj_T.ret rfl rfl rfl ⟨updV f (jn (p : Nat)).toNatClampNeg (.int y.toInt8.toInt32.toInt8.toInt32), ?_⟩
  rw [show (p : Int) + 1 = ((p + 1 : Nat) : Int) from rfl, jtP_set C]
theorem jb_puts_step (C : jtC h tx ar) {s : Nat} {l3 : Option Value} (hs : s = 24 ∨ s = 16 ∨ s = 8 ∨ s = 0) (hp : p < 200)
    (k : ∀ (f' : Nat → Value) (l3 : Option Value), mj_T (D + 1) mj_m81 3 [some (.ref tx), some (.int x), some (.int (jn ((s : Nat) + -8))), l3] [] (jtP h tx ar (p + (if mq_byt x (s / 8) = 0 then 0 else 1)) f') Q) :
    mj_T (D + 1) mj_m81 3 [some (.ref tx), some (.int x), some (.int (jn (s : Nat))), l3] [] (jtP h tx ar p f) Q := by
  have hb := jb_byt_lt x (s / 8)
  refine mj_T.pl rfl rfl rfl rfl ?_
  refine mj_T.if0 rfl ⟨by omega, by omega⟩ (fun hc => ?_) (fun hc => ?_)
  · simp only [jc, decide_eq_true_eq] at hc; omega
  iterate 5 refine mj_T.pl rfl rfl rfl rfl ?_
  refine mj_T.eq (st2 := [.int (jn (mq_byt x (s / 8) : Nat))]) ?_ rfl rfl (congrArg (fun v => [Value.int v]) (jb_shr x hs)) rfl
  iterate 2 refine mj_T.pl rfl rfl rfl rfl ?_
  have fin : ∀ (y : Nat) (f' : Nat → Value), y = p + (if mq_byt x (s / 8) = 0 then 0 else 1) → mj_T (D + 1) mj_m81 24 [some (.ref tx), some (.int x), some (.int (jn (s : Nat))), some (.int (jn (mq_byt x (s / 8) : Nat)))] [] (jtP h tx ar y f') Q := fun y f' hy => by
    subst hy
    refine mj_T.iinc (a := (s : Int)) rfl rfl ?_
    exact mj_T.pl rfl rfl rfl rfl (k f' _)
  refine mj_T.if0 rfl ⟨by omega, by omega⟩ (fun hc => ?_) (fun hc => ?_)
  · simp only [jc, decide_eq_true_eq] at hc
    exact fin p f (by rw [if_pos (by omega)]; rfl)
  · simp only [jc, decide_eq_false_iff_not] at hc
    iterate 2 refine mj_T.pl rfl rfl rfl rfl ?_
    refine mj_T.call (ins := .invokevirtual 19) rfl rfl (Nat.le_of_ble_eq_true rfl) (Nat.le_of_ble_eq_true rfl) (by simp [mj_recv, jtP_t C]) rfl (jb_put (D := D) C hp) (fun v' h' hq' => ?_) (fun i h' hq' => by obtain ⟨_, h⟩ := hq'; cases h)
    obtain ⟨f', hq'⟩ := hq'
    cases hq'
    exact fin (p + 1) f' (by rw [if_neg (by omega)])
theorem jb_puts (C : jtC h tx ar) (hp : p + 4 ≤ 200) : mj_Ok (D + 2) 81 [.ref tx, .int x] (jtP h tx ar p f) (fun r => ∃ f', r = (.inl none, jtP h tx ar (p + mq_nby x) f')) := by
  have hi : ∀ k, (if mq_byt x k = 0 then 0 else 1) ≤ 1 := fun k => by split <;> decide
  have i3 := hi 3
  have i2 := hi 2
  have i1 := hi 1
  refine mj_Ok.of (M := mj_m81) rfl rfl rfl ?_
  iterate 2 refine mj_T.pl rfl rfl rfl rfl ?_
  refine jb_puts_step (s := 24) C (by decide) (by omega) (fun f1 l1 => ?_)
  refine jb_puts_step (s := 16) C (by decide) (by show p + (if mq_byt x 3 = 0 then 0 else 1) < 200; omega) (fun f2 l2 => ?_)
  refine jb_puts_step (s := 8) C (by decide) (by show p + (if mq_byt x 3 = 0 then 0 else 1) + (if mq_byt x 2 = 0 then 0 else 1) < 200; omega) (fun f3 l3 => ?_)
  refine jb_puts_step (s := 0) C (by decide) (by show p + (if mq_byt x 3 = 0 then 0 else 1) + (if mq_byt x 2 = 0 then 0 else 1) + (if mq_byt x 1 = 0 then 0 else 1) < 200; omega) (fun f4 l4 => ?_)
  refine mj_T.pl rfl rfl rfl rfl ?_
  refine mj_T.if0 (a := ((0 : Nat) : Int) + -8) rfl ⟨by omega, by omega⟩ (fun hc => ?_) (fun hc => ?_)
  rotate_left
  · simp only [jc, decide_eq_false_iff_not] at hc; omega
  refine mj_T.ret rfl rfl rfl ⟨f4, ?_⟩
  show (Sum.inl none, jtP h tx ar (p + (if mq_byt x 3 = 0 then 0 else 1) + (if mq_byt x 2 = 0 then 0 else 1) + (if mq_byt x 1 = 0 then 0 else 1) + (if mq_byt x 0 = 0 then 0 else 1)) f4) = _
  rw [show p + (if mq_byt x 3 = 0 then 0 else 1) + (if mq_byt x 2 = 0 then 0 else 1) + (if mq_byt x 1 = 0 then 0 else 1) + (if mq_byt x 0 = 0 then 0 else 1) = p + mq_nby x by unfold mq_nby; omega]
theorem jb_append (C : jtC h tx ar) {a : Nat} {fa : List Value} {x1 x2 x3 x4 x5 : Int32} (hA : h[a]? = some (.inr (9, fa))) (h4 : fa[4]? = some (.ref tx)) (n1 : a ≠ tx) (n2 : a ≠ ar) : mj_Ok (D + 3) 141 [.ref a, .int x1, .int x2, .int x3, .int x4, .int x5] (jtP h tx ar 0 f) (fun r => ∃ f', r = (.inl (some (.int (jn ((mq_nby x1 + mq_nby x2 + mq_nby x3 + mq_nby x4 + mq_nby x5 : Nat) : Int)))), jtP h tx ar (mq_nby x1 + mq_nby x2 + mq_nby x3 + mq_nby x4 + mq_nby x5) f')) := by
  have hA2 : ∀ p f, (jtP h tx ar p f)[a]? = some (.inr (9, fa)) := fun p f => by rw [List.getElem?_set_ne (Ne.symm n2), List.getElem?_set_ne (Ne.symm n1)]; exact hA
  have le : ∀ x : Int32, mq_nby x ≤ 4 := fun x => by
    unfold mq_nby
    have hi : ∀ k, (if mq_byt x k = 0 then 0 else 1) ≤ 1 := fun k => by split <;> decide
    have := hi 3
    have := hi 2
    have := hi 1
    have := hi 0
    omega
  have := le x1
  have := le x2
  have := le x3
  have := le x4
  have := le x5
  refine mj_Ok.of (M := mj_m141) rfl rfl rfl ?_
  refine mj_T.pl rfl rfl rfl rfl ?_
  refine mj_T.call (ins := .invokestatic 344) rfl rfl (Nat.le_of_ble_eq_true rfl) (Nat.le_of_ble_eq_true rfl) rfl rfl (jb_in (D := D + 1) (x := x1)) (fun v' h' hq' => ?_) (fun i h' hq' => by cases hq')
  cases hq'
  refine mj_T.pl rfl rfl rfl rfl ?_
  refine mj_T.call (ins := .invokestatic 344) rfl rfl (Nat.le_of_ble_eq_true rfl) (Nat.le_of_ble_eq_true rfl) rfl rfl (jb_in (D := D + 1) (x := x2)) (fun v' h' hq' => ?_) (fun i h' hq' => by cases hq')
  cases hq'
  refine mj_T.iadd (a := (mq_nby x1 : Int)) (b := (mq_nby x2 : Int)) rfl ?_
  refine mj_T.pl rfl rfl rfl rfl ?_
  refine mj_T.call (ins := .invokestatic 344) rfl rfl (Nat.le_of_ble_eq_true rfl) (Nat.le_of_ble_eq_true rfl) rfl rfl (jb_in (D := D + 1) (x := x3)) (fun v' h' hq' => ?_) (fun i h' hq' => by cases hq')
  cases hq'
  refine mj_T.iadd (a := (mq_nby x1 : Int) + mq_nby x2) (b := (mq_nby x3 : Int)) rfl ?_
  refine mj_T.pl rfl rfl rfl rfl ?_
  refine mj_T.call (ins := .invokestatic 344) rfl rfl (Nat.le_of_ble_eq_true rfl) (Nat.le_of_ble_eq_true rfl) rfl rfl (jb_in (D := D + 1) (x := x4)) (fun v' h' hq' => ?_) (fun i h' hq' => by cases hq')
  cases hq'
  refine mj_T.iadd (a := (mq_nby x1 : Int) + mq_nby x2 + mq_nby x3) (b := (mq_nby x4 : Int)) rfl ?_
  refine mj_T.pl rfl rfl rfl rfl ?_
  refine mj_T.call (ins := .invokestatic 344) rfl rfl (Nat.le_of_ble_eq_true rfl) (Nat.le_of_ble_eq_true rfl) rfl rfl (jb_in (D := D + 1) (x := x5)) (fun v' h' hq' => ?_) (fun i h' hq' => by cases hq')
  cases hq'
  refine mj_T.iadd (a := (mq_nby x1 : Int) + mq_nby x2 + mq_nby x3 + mq_nby x4) (b := (mq_nby x5 : Int)) rfl ?_
  iterate 2 refine mj_T.pl rfl rfl rfl rfl ?_
  refine mj_T.gfl rfl (hA2 _ _) h4 ?_
  refine mj_T.gfl rfl (jtP_t C) rfl ?_
  refine mj_T.pl rfl rfl rfl rfl ?_
  refine mj_T.iadd (a := ((0 : Nat) : Int)) (b := (mq_nby x1 : Int) + mq_nby x2 + mq_nby x3 + mq_nby x4 + mq_nby x5) rfl ?_
  refine mj_T.pl rfl rfl rfl rfl ?_
  refine mj_T.icmp (b := 200) rfl ⟨by omega, by omega⟩ ⟨by decide, by decide⟩ (fun hc => ?_) (fun hc => ?_)
  · refine mj_T.pl rfl rfl rfl rfl ?_
    refine mj_T.gfl rfl (hA2 _ _) h4 ?_
    refine mj_T.pl rfl rfl rfl rfl ?_
    refine mj_T.call (ins := .invokevirtual 347) rfl rfl (Nat.le_of_ble_eq_true rfl) (Nat.le_of_ble_eq_true rfl) (by simp [mj_recv, jtP_t C]) rfl (jb_puts (D := D) C (x := x1) (by omega)) (fun v' h' hq' => ?_) (fun i h' hq' => by obtain ⟨_, h⟩ := hq'; cases h)
    obtain ⟨f1, hq'⟩ := hq'
    cases hq'
    refine mj_T.pl rfl rfl rfl rfl ?_
    refine mj_T.gfl rfl (hA2 _ _) h4 ?_
    refine mj_T.pl rfl rfl rfl rfl ?_
    refine mj_T.call (ins := .invokevirtual 347) rfl rfl (Nat.le_of_ble_eq_true rfl) (Nat.le_of_ble_eq_true rfl) (by simp [mj_recv, jtP_t C]) rfl (jb_puts (D := D) C (x := x2) (by omega)) (fun v' h' hq' => ?_) (fun i h' hq' => by obtain ⟨_, h⟩ := hq'; cases h)
    obtain ⟨f2, hq'⟩ := hq'
    cases hq'
    refine mj_T.pl rfl rfl rfl rfl ?_
    refine mj_T.gfl rfl (hA2 _ _) h4 ?_
    refine mj_T.pl rfl rfl rfl rfl ?_
    refine mj_T.call (ins := .invokevirtual 347) rfl rfl (Nat.le_of_ble_eq_true rfl) (Nat.le_of_ble_eq_true rfl) (by simp [mj_recv, jtP_t C]) rfl (jb_puts (D := D) C (x := x3) (by omega)) (fun v' h' hq' => ?_) (fun i h' hq' => by obtain ⟨_, h⟩ := hq'; cases h)
    obtain ⟨f3, hq'⟩ := hq'
    cases hq'
    refine mj_T.pl rfl rfl rfl rfl ?_
    refine mj_T.gfl rfl (hA2 _ _) h4 ?_
    refine mj_T.pl rfl rfl rfl rfl ?_
    refine mj_T.call (ins := .invokevirtual 347) rfl rfl (Nat.le_of_ble_eq_true rfl) (Nat.le_of_ble_eq_true rfl) (by simp [mj_recv, jtP_t C]) rfl (jb_puts (D := D) C (x := x4) (by omega)) (fun v' h' hq' => ?_) (fun i h' hq' => by obtain ⟨_, h⟩ := hq'; cases h)
    obtain ⟨f4, hq'⟩ := hq'
    cases hq'
    refine mj_T.pl rfl rfl rfl rfl ?_
    refine mj_T.gfl rfl (hA2 _ _) h4 ?_
    refine mj_T.pl rfl rfl rfl rfl ?_
    refine mj_T.call (ins := .invokevirtual 347) rfl rfl (Nat.le_of_ble_eq_true rfl) (Nat.le_of_ble_eq_true rfl) (by simp [mj_recv, jtP_t C]) rfl (jb_puts (D := D) C (x := x5) (by omega)) (fun v' h' hq' => ?_) (fun i h' hq' => by obtain ⟨_, h⟩ := hq'; cases h)
    obtain ⟨f5, hq'⟩ := hq'
    cases hq'
    refine mj_T.pl rfl rfl rfl rfl ?_
    refine mj_T.gfl rfl (hA2 _ _) h4 ?_
    refine mj_T.gfl rfl (jtP_t C) rfl ?_
    refine mj_T.ret rfl rfl rfl ⟨f5, ?_⟩
    simp only [Nat.zero_add]
  · simp only [jc, decide_eq_false_iff_not] at hc; omega
end MTX
