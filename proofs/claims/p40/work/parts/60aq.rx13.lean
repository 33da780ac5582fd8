/-! Of the reference and of numbers (as in p1, part 78x). -/
section MGF
variable {D pc : Nat} {M : mj_M} {loc : mj_L} {st : List Value} {h : mj_H} {Q : mj_R → Prop} {n ci f a r3 r4 r5 : Nat}
/-- a field is read -/
theorem mj_T.gfl {fs : List Value} {v : Value} (hc : M.2.2.2.2.1 pc = some (.getfield n, ci, f, r3, r4, r5)) (ha : h[a]? = some (.inr (ci, fs))) (hf : fs[f]? = some v) (k : mj_T D M (pc + 3) loc (v :: st) h Q) : mj_T D M pc loc (.ref a :: st) h Q :=
  mj_T.step hc rfl (by simp only [mj_step, ha, hf, if_true]) k
end MGF
