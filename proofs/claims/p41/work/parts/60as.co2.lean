/-! Of the reference and of numbers (as in p1, part 78z). -/
section MOB
variable {ρ : Nat → Nat} {n a : Nat}  {h : mj_H}
/-- a part of a polynomial -/
theorem jw_part {D q pa len ty i w : Nat} {fq : List Value} {f : Nat → Value} (h1 : h[q]? = some (.inr (3, fq))) (h2 : fq[0]? = some (.ref pa)) (h3 : h[pa]? = some (.inl (ty, len, f))) (ht : ty = 5) (hi : i < len) (hl : len ≤ 1000000) (hf : f i = .ref w) : mj_Ok (D + 1) 36 [.ref q, .int (jn (i : Nat))] h (fun r => r = (.inl (some (.ref w)), h)) := by
  subst ht
  refine mj_Ok.of (M := mj_m36) rfl rfl rfl ?_
  refine mj_T.pl rfl rfl rfl rfl ?_
  refine mj_T.if0 rfl ⟨by omega, by omega⟩ (fun hc => ?_) (fun hc => ?_)
  · simp only [jc, decide_eq_true_eq] at hc; omega
  iterate 2 refine mj_T.pl rfl rfl rfl rfl ?_
  refine mj_T.gfl rfl h1 h2 ?_
  refine mj_T.alen rfl h3 ?_
  refine mj_T.icmp rfl ⟨by omega, by omega⟩ ⟨by omega, by omega⟩ (fun hc => ?_) (fun hc => ?_)
  · simp only [jc, decide_eq_true_eq] at hc; omega
  refine mj_T.pl rfl rfl rfl rfl ?_
  refine mj_T.gfl rfl h1 h2 ?_
  refine mj_T.pl rfl rfl rfl rfl ?_
  refine mj_T.aald rfl h3 rfl ⟨by omega, by omega⟩ ⟨by omega, by omega⟩ ?_
  rw [show f ((i : Int).toNat) = .ref w from hf]
  refine mj_T.pl rfl rfl rfl rfl ?_
  exact mj_T.ret rfl rfl rfl rfl
end MOB
