/-! The row of Sturm of the class: its last. -/
section MLA
variable {g h : mj_H} {n D : Nat} {V : Nat → Int} {X : Nat → Nat → Int}
theorem mR_last (m : jM g n V X h) {k : Nat} (hL : X 172 2 = ((k + 1 : Nat) : Int)) (hk : k < 14) : mj_Ok (D + 1) 73 [.ref 172] h (fun r => r = (.inl (some (.ref (sro k))), h)) := by
  have l173 : cL 173 = 14 := mK_r.2.2.2.1
  refine mj_Ok.of (M := mj_m73) rfl rfl rfl ?_
  refine mj_T.pl rfl rfl rfl rfl ?_
  refine mT_get m 16 cq_d172 (by decide) rfl rfl ?_
  refine mj_T.pl rfl rfl rfl rfl ?_
  refine mT_get (v := .int (jn (((k + 1) : Nat) : Int))) m 16 cq_d172 (by decide) rfl (congrArg (fun z : Int => some (Value.int (jn z))) (hL)) ?_
  refine mj_T.if0 (a := (((k + 1) : Nat) : Int)) rfl ⟨by omega, by omega⟩ (fun c1 => ?_) (fun c1 => ?_)
  · exfalso
    simp only [jc, Bool.not_eq_true', Bool.not_eq_false', decide_eq_true_eq, decide_eq_false_iff_not] at c1
    omega
  · simp only [jc, Bool.not_eq_true', Bool.not_eq_false', decide_eq_true_eq, decide_eq_false_iff_not] at c1
    refine mj_T.pl rfl rfl rfl rfl ?_
    refine mT_get (v := .int (jn (((k + 1) : Nat) : Int))) m 16 cq_d172 (by decide) rfl (congrArg (fun z : Int => some (Value.int (jn z))) (hL)) ?_
    refine mj_T.pl rfl rfl rfl rfl ?_
    refine mT_get m 16 cq_d172 (by decide) rfl rfl ?_
    refine mT_alen m 5 cq_d173 (by decide) rfl ?_
    refine mj_T.icmp (a := (((k + 1) : Nat) : Int)) (b := ((cL 173 : Nat) : Int)) rfl ⟨by omega, by omega⟩ ⟨by omega, by omega⟩ (fun c2 => ?_) (fun c2 => ?_)
    · exfalso
      simp only [jc, Bool.not_eq_true', Bool.not_eq_false', decide_eq_true_eq, decide_eq_false_iff_not] at c2
      omega
    · simp only [jc, Bool.not_eq_true', Bool.not_eq_false', decide_eq_true_eq, decide_eq_false_iff_not] at c2
      refine mj_T.pl rfl rfl rfl rfl ?_
      refine mT_get (v := .int (jn (((k + 1) : Nat) : Int))) m 16 cq_d172 (by decide) rfl (congrArg (fun z : Int => some (Value.int (jn z))) (hL)) ?_
      refine mj_T.pl rfl rfl rfl rfl ?_
      refine mj_T.isub (a := (((k + 1) : Nat) : Int)) (b := 1) rfl ?_
      refine mj_T.pl rfl rfl rfl rfl ?_
      rw [show ((k + 1 : Nat) : Int) - 1 = (k : Int) by omega]
      refine mT_aald m 5 cq_d173 (by decide) rfl rfl (by omega) ⟨by omega, by omega⟩ ?_
      refine mj_T.eq (st2 := [.ref (sro k)]) ?_ rfl rfl rfl rfl
      exact mj_T.ret rfl rfl rfl rfl
end MLA
