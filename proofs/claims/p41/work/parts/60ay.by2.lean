/-! Of the reference and of numbers (as in p1, part 78z). -/
abbrev jtP (h : mj_H) (tx ar p : Nat) (f : Nat → Value) : mj_H := (h.set tx (.inr (7, [.ref ar, .int (jn (p : Nat))]))).set ar (.inl (2, 200, f))
abbrev jtC (h : mj_H) (tx ar : Nat) : Prop := tx ≠ ar ∧ tx < h.length ∧ ar < h.length
section MTX
variable {D : Nat} {h : mj_H} {tx ar p : Nat} {f : Nat → Value} {x : Int32} {Q : mj_R → Prop}
theorem jtP_t (C : jtC h tx ar) : (jtP h tx ar p f)[tx]? = some (.inr (7, [.ref ar, .int (jn (p : Nat))])) := by
  rw [List.getElem?_set_ne (Ne.symm C.1), List.getElem?_set_self C.2.1]
theorem jtP_a (C : jtC h tx ar) : (jtP h tx ar p f)[ar]? = some (.inl (2, 200, f)) := List.getElem?_set_self (by rw [List.length_set]; exact C.2.2)
theorem jtP_set (C : jtC h tx ar) {q : Nat} {f' : Nat → Value} : ((jtP h tx ar p f).set ar (.inl (2, 200, f'))).set tx (.inr (7, [.ref ar, .int (jn (q : Nat))])) = jtP h tx ar q f' := by
  rw [List.set_set, List.set_comm _ _ (Ne.symm C.1), List.set_set]
theorem jb_put (C : jtC h tx ar) {y : Int32} (hp : p < 200) : mj_Ok (D + 1) 80 [.ref tx, .int y] (jtP h tx ar p f) (fun r => ∃ f', r = (.inl none, jtP h tx ar (p + 1) f')) := by
  have ht : (jtP h tx ar p f)[tx]? = some (.inr (7, [.ref ar, .int (jn (p : Nat))])) := jtP_t C
  have ha : (jtP h tx ar p f)[ar]? = some (.inl (2, 200, f)) := jtP_a C
  refine mj_Ok.of (M := mj_m80) rfl rfl rfl ?_
  refine mj_T.pl rfl rfl rfl rfl ?_
  refine mj_T.gfl rfl ht rfl ?_
  refine mj_T.if0 rfl ⟨by omega, by omega⟩ (fun hc => ?_) (fun hc => ?_)
  · simp only [jc, decide_eq_true_eq] at hc; omega
  refine mj_T.pl rfl rfl rfl rfl ?_
  refine mj_T.gfl rfl ht rfl ?_
  refine mj_T.pl rfl rfl rfl rfl ?_
  refine mj_T.gfl rfl ht rfl ?_
  refine mj_T.alen rfl ha ?_
  refine mj_T.icmp rfl ⟨by omega, by omega⟩ ⟨by decide, by decide⟩ (fun hc => ?_) (fun hc => ?_)
  · simp only [jc, decide_eq_true_eq] at hc; omega
  refine mj_T.pl rfl rfl rfl rfl ?_
  refine mj_T.gfl rfl ht rfl ?_
  refine mj_T.pl rfl rfl rfl rfl ?_
  refine mj_T.gfl rfl ht rfl ?_
  iterate 2 refine mj_T.pl rfl rfl rfl rfl ?_
  have h1 : mj_in (jn (p : Nat)) 200 = true := by rw [jn_in ⟨by omega, by omega⟩]; exact decide_eq_true ⟨by omega, by omega⟩
  refine mj_T.step (loc' := mj_loc0 2 [.ref tx, .int y]) (st' := []) (h' := (jtP h tx ar p f).set ar (.inl (2, 200, updV f (jn (p : Nat)).toNatClampNeg (.int y.toInt8.toInt32.toInt8.toInt32)))) (pc' := 30) rfl rfl (by simp only [mj_step, ha, h1, and_self, if_true]; rfl) ?_
  have ht2 : ((jtP h tx ar p f).set ar (.inl (2, 200, updV f (jn (p : Nat)).toNatClampNeg (.int y.toInt8.toInt32.toInt8.toInt32))))[tx]? = some (.inr (7, [.ref ar, .int (jn (p : Nat))])) := by rw [List.getElem?_set_ne (Ne.symm C.1)]; exact ht
  iterate 2 refine mj_T.pl rfl rfl rfl rfl ?_
  refine mj_T.gfl rfl ht2 rfl ?_
  refine mj_T.pl rfl rfl rfl rfl ?_
  refine mj_T.iadd (a := (p : Int)) (b := 1) rfl ?_
  refine mj_T.step (loc' := mj_loc0 2 [.ref tx, .int y]) (st' := []) (h' := ((jtP h tx ar p f).set ar (.inl (2, 200, updV f (jn (p : Nat)).toNatClampNeg (.int y.toInt8.toInt32.toInt8.toInt32)))).set tx (.inr (7, [.ref ar, .int (jn ((p : Int) + 1))]))) (pc' := 40) rfl rfl (by simp only [mj_step, ht2]; rfl) ?_
  refine mj_T.ret rfl rfl rfl ⟨updV f (jn (p : Nat)).toNatClampNeg (.int y.toInt8.toInt32.toInt8.toInt32), ?_⟩
  rw [show (p : Int) + 1 = ((p + 1 : Nat) : Int) from rfl, jtP_set C]
end MTX

