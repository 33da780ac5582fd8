/-! Of the reference and of numbers (as in p1, part 78l). -/
abbrev jX (h : mj_H) (b : Nat) (bg : Nat → Int32) : mj_H := h.set b (.inl (0, 466830, fun j => .int (bg j)))
abbrev jC (h : mj_H) (a b : Nat) (fs : List Value) : Prop := h[a]? = some (.inr (10, fs)) ∧ fs[4]? = some (.ref b) ∧ a ≠ b ∧ b < h.length
section JX
variable {h : mj_H} {a b : Nat} {fs : List Value} {bg bg' : Nat → Int32}
theorem jX_a (C : jC h a b fs) : (jX h b bg)[a]? = some (.inr (10, fs)) := by
  rw [List.getElem?_set_ne (Ne.symm C.2.2.1)]
  exact C.1
theorem jX_b (C : jC h a b fs) : (jX h b bg)[b]? = some (.inl (0, 466830, fun j => .int (bg j))) := List.getElem?_set_self C.2.2.2
theorem jX_set : (jX h b bg).set b (.inl (0, 466830, fun j => .int (bg' j))) = jX h b bg' := by rw [List.set_set]
theorem jX_len : (jX h b bg).length = h.length := List.length_set
theorem jX_same (hb : h[b]? = some (.inl (0, 466830, fun j => .int (bg j)))) : jX h b bg = h := by
  have hl := (List.getElem?_eq_some_iff.mp hb).1
  apply List.ext_getElem?
  intro q
  by_cases e : q = b
  · subst e
    rw [List.getElem?_set_self hl, hb]
  · rw [List.getElem?_set_ne (Ne.symm e)]
end JX
section JXR
variable {D pc : Nat} {M : mj_M} {loc : mj_L} {st : List Value} {h : mj_H} {a b : Nat} {fs : List Value} {bg : Nat → Int32} {Q : mj_R → Prop} {n r1 r2 r3 r4 r5 : Nat}
theorem mj_T.gb (C : jC h a b fs) (hc : M.2.2.2.2.1 pc = some (.getfield n, 10, 4, r3, r4, r5)) (k : mj_T D M (pc + 3) loc (.ref b :: st) (jX h b bg) Q) : mj_T D M pc loc (.ref a :: st) (jX h b bg) Q :=
  mj_T.step hc rfl (by simp only [mj_step, jX_a C, C.2.1, if_true]) k
theorem mj_T.xld {i z : Int} (C : jC h a b fs) (hc : M.2.2.2.2.1 pc = some (.iaload, r1, r2, r3, r4, r5)) (hi : jr i) (h0 : 0 ≤ i ∧ i < 466830) (hv : bg i.toNat = jn z) (k : mj_T D M (pc + 1) loc (.int (jn z) :: st) (jX h b bg) Q) : mj_T D M pc loc (.int (jn i) :: .ref b :: st) (jX h b bg) Q :=
  mj_T.ialv hc (jX_b C) hi h0 hv k
theorem mj_T.xst {i : Int} {x : Int32} (C : jC h a b fs) (hc : M.2.2.2.2.1 pc = some (.iastore, r1, r2, r3, r4, r5)) (hi : jr i) (h0 : 0 ≤ i ∧ i < 466830) (k : mj_T D M (pc + 1) loc st (jX h b (upd bg i.toNat x)) Q) : mj_T D M pc loc (.int x :: .int (jn i) :: .ref b :: st) (jX h b bg) Q :=
  mj_T.iast hc (jX_b C) hi h0 (by rw [jX_set]; exact k)
end JXR

