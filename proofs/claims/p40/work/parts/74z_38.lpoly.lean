/-! The class loosely: polynomials. -/
def bydl : List Nat := pls.map (· + 1)
/-- what lies beyond a polynomial's parts is 0 -/
def by0 (V : Nat → Int) : Prop := ∀ x, x ∈ bydl → V x = 0
/-- a Wide that may be written -/
def frW (c : Nat) : Prop := cK c = 18 ∧ ¬ c ∈ bydl
theorem bydl_1 : (bydl.all fun x => decide (cK x = 18)) = true := by decide +kernel
theorem bydl_k {x : Nat} (h : x ∈ bydl) : cK x = 18 := of_decide_eq_true (List.all_eq_true.mp bydl_1 x h)
theorem by0.p {V : Nat → Int} (b : by0 V) {p : Nat} (kp : cK p = 13) : V (p + 1) = 0 := by
  have h1 := jall pls_1 (cK_in (a := p) (by omega))
  simp only [kp, decide_true, Bool.not_true, Bool.false_or, decide_eq_true_eq] at h1
  exact b _ (List.mem_map.mpr ⟨p, h1, rfl⟩)
theorem fr_1 : (pls.all fun p => (List.range (cL (p + 3))).all fun i => decide (¬ (p + 4 + 2 * i) ∈ bydl)) = true := by decide +kernel
theorem fr_part {p i : Nat} (kp : cK p = 13) (hi : i < cL (p + 3)) : frW (p + 4 + 2 * i) := by
  have h1 := jall pls_1 (cK_in (a := p) (by omega))
  simp only [kp, decide_true, Bool.not_true, Bool.false_or, decide_eq_true_eq] at h1
  exact ⟨(mK_p kp).2.2.2 i hi, of_decide_eq_true (jall (List.all_eq_true.mp fr_1 p h1) hi)⟩
theorem by0.drt {V : Nat → Int} (b : by0 V) {sl : List Nat} (h : ∀ x, x ∈ sl → ¬ x ∈ bydl) : by0 (drt sl V) := fun x hx => by
  rw [drt_ne (fun q => h x q hx)]
  exact b x hx
theorem by0.jvu {V : Nat → Int} (b : by0 V) {c : Nat} (h : ¬ c ∈ bydl) {v : Int} : by0 (jvu V c v) := fun x hx => by
  have q : x ≠ c := fun e => h (e ▸ hx)
  rw [jvu_ne _ _ _ q]
  exact b x hx
theorem fr_d164 : frW 164 := ⟨by decide +kernel, by decide +kernel⟩
theorem fr_d166 : frW 166 := ⟨by decide +kernel, by decide +kernel⟩
theorem fr_d168 : frW 168 := ⟨by decide +kernel, by decide +kernel⟩
theorem fr_d174 : frW 174 := ⟨by decide +kernel, by decide +kernel⟩
theorem fr_d176 : frW 176 := ⟨by decide +kernel, by decide +kernel⟩
theorem fr_d178 : frW 178 := ⟨by decide +kernel, by decide +kernel⟩
theorem fr_d445 : frW 445 := ⟨by decide +kernel, by decide +kernel⟩
theorem fr_d447 : frW 447 := ⟨by decide +kernel, by decide +kernel⟩
theorem fr_d449 : frW 449 := ⟨by decide +kernel, by decide +kernel⟩
theorem fr_d451 : frW 451 := ⟨by decide +kernel, by decide +kernel⟩
theorem fr_d453 : frW 453 := ⟨by decide +kernel, by decide +kernel⟩
theorem fr_d477 : frW 477 := ⟨by decide +kernel, by decide +kernel⟩
theorem fr_d479 : frW 479 := ⟨by decide +kernel, by decide +kernel⟩
section MLF
variable {g h : mj_H} {n D p r : Nat} {V : Nat → Int} {X : Nat → Nat → Int}
theorem mF_86 (M : jM g n V X h) (b : by0 V) {c : Nat} (fc : frW c) {v : Int} (hv : jR v) : mj_Ok (D + 1) 86 [.ref c, .long (jl v)] h (fun r => ∃ V2 h2, jM g n V2 X h2 ∧ by0 V2 ∧ r = (.inl none, h2)) := (mZ_86 M fc.1 hv).to fun r hr => by
  obtain ⟨h2, m, e⟩ := hr
  refine ⟨_, h2, m, b.drt (fun x hx => ?_), e⟩
  simp only [List.mem_cons, List.not_mem_nil, or_false] at hx
  subst hx
  exact fc.2
theorem mF_96 (M : jM g n V X h) (b : by0 V) {c : Nat} (fc : frW c) {v : Int} (hv : jR v) : mj_Ok (D + 1) 96 [.ref c, .long (jl v)] h (fun r => ∃ V2 h2, jM g n V2 X h2 ∧ by0 V2 ∧ r = (.inl none, h2)) := (mZ_96 M fc.1 hv).to fun r hr => by
  obtain ⟨h2, m, e⟩ := hr
  refine ⟨_, h2, m, b.drt (fun x hx => ?_), e⟩
  simp only [List.mem_cons, List.not_mem_nil, or_false] at hx
  subst hx
  exact fc.2
theorem mF_97 (M : jM g n V X h) (b : by0 V) {c : Nat} (fc : frW c) {v : Int} (hv : jR v) : mj_Ok (D + 1) 97 [.ref c, .long (jl v)] h (fun r => ∃ V2 h2, jM g n V2 X h2 ∧ by0 V2 ∧ r = (.inl none, h2)) := (mZ_97 M fc.1 hv).to fun r hr => by
  obtain ⟨h2, m, e⟩ := hr
  refine ⟨_, h2, m, b.drt (fun x hx => ?_), e⟩
  simp only [List.mem_cons, List.not_mem_nil, or_false] at hx
  subst hx
  exact fc.2
theorem mF_87 (M : jM g n V X h) (b : by0 V) {c a : Nat} (fc : frW c) (fa : frW a) : mj_Ok (D + 1) 87 [.ref c, .ref a] h (fun r => ∃ V2 h2, jM g n V2 X h2 ∧ by0 V2 ∧ r = (.inl none, h2)) := (mZ_87 M fc.1 fa.1).to fun r hr => by
  obtain ⟨h2, m, e⟩ := hr
  refine ⟨_, h2, m, b.drt (fun x hx => ?_), e⟩
  simp only [List.mem_cons, List.not_mem_nil, or_false] at hx
  rcases hx with e | e <;> subst e
  · exact fc.2
  · exact fa.2
theorem mF_88 (M : jM g n V X h) (b : by0 V) {c a : Nat} (fc : frW c) (fa : frW a) : mj_Ok (D + 2) 88 [.ref c, .ref a] h (fun r => ∃ V2 h2, jM g n V2 X h2 ∧ by0 V2 ∧ r = (.inl none, h2)) := (mZ_88 M fc.1 fa.1).to fun r hr => by
  obtain ⟨h2, m, e⟩ := hr
  refine ⟨_, h2, m, b.drt (fun x hx => ?_), e⟩
  simp only [List.mem_cons, List.not_mem_nil, or_false] at hx
  rcases hx with e | e <;> subst e
  · exact fc.2
  · exact fa.2
theorem mF_91 (M : jM g n V X h) (b : by0 V) {c a : Nat} (fc : frW c) (fa : frW a) {f : Int} (hf : -2147483648 ≤ f ∧ f ≤ 2147483647) : mj_Ok (D + 2) 91 [.ref c, .ref a, .int (jn f)] h (fun r => ∃ V2 h2, jM g n V2 X h2 ∧ by0 V2 ∧ r = (.inl none, h2)) := (mZ_91 M fc.1 fa.1 hf).to fun r hr => by
  obtain ⟨h2, m, e⟩ := hr
  refine ⟨_, h2, m, b.drt (fun x hx => ?_), e⟩
  simp only [List.mem_cons, List.not_mem_nil, or_false] at hx
  rcases hx with e | e <;> subst e
  · exact fc.2
  · exact fa.2
theorem mF_95 (M : jM g n V X h) (hb : by0 V) {c a b : Nat} (fc : frW c) (fa : frW a) (fb : frW b) : mj_Ok (D + 1) 95 [.ref c, .ref a, .ref b] h (fun r => ∃ V2 h2, jM g n V2 X h2 ∧ by0 V2 ∧ r = (.inl none, h2)) := (mZ_95 M fc.1 fa.1 fb.1).to fun r hr => by
  obtain ⟨h2, m, e⟩ := hr
  refine ⟨_, h2, m, hb.drt (fun x hx => ?_), e⟩
  simp only [List.mem_cons, List.not_mem_nil, or_false] at hx
  rcases hx with e | e | e <;> subst e
  · exact fc.2
  · exact fa.2
  · exact fb.2
theorem mF_30 (M : jM g n V X h) (b : by0 V) {c a : Nat} (kc : cK c = 12) (fa : frW a) : mj_Ok (D + 1) 30 [.ref c, .ref a] h (fun r => ∃ V2 h2, jM g n V2 X h2 ∧ by0 V2 ∧ r = (.inl none, h2)) := (mZ_30 M kc fa.1).to fun r hr => by
  obtain ⟨h2, m, e⟩ := hr
  refine ⟨_, h2, m, b.drt (fun x hx => ?_), e⟩
  simp only [List.mem_cons, List.not_mem_nil, or_false] at hx
  rcases hx with e | e <;> subst e
  · intro q
    exact absurd (bydl_k q) (by omega)
  · exact fa.2
theorem mF_31 (M : jM g n V X h) (hb : by0 V) {c a b : Nat} (kc : cK c = 12) (fa : frW a) (fb : frW b) : mj_Ok (D + 2) 31 [.ref c, .ref a, .ref b] h (fun r => ∃ V2 h2, jM g n V2 X h2 ∧ by0 V2 ∧ r = (.inl none, h2)) := (mZ_31 M kc fa.1 fb.1).to fun r hr => by
  obtain ⟨h2, m, e⟩ := hr
  refine ⟨_, h2, m, hb.drt (fun x hx => ?_), e⟩
  simp only [List.mem_cons, List.not_mem_nil, or_false] at hx
  rcases hx with e | e | e <;> subst e
  · intro q
    exact absurd (bydl_k q) (by omega)
  · exact fa.2
  · exact fb.2
theorem mZ_42_loop (kp : cK p = 13) : ∀ k i, i + k = cL (p + 3) → ∀ (d : Int) (h1 : mj_H), jM g n V (xup X p 2 d) h1 → (-1 ≤ d ∧ d < cL (p + 3)) → mj_T D mj_m42 7 [some (.ref p), some (.int (jn (i : Int)))] [] h1 (fun r => ∃ d h2, jM g n V (xup X p 2 d) h2 ∧ (-1 ≤ d ∧ d < cL (p + 3)) ∧ r = (.inl none, h2))
  | 0, i, hi, d, h1, m, hd => by
    have hb := (mK_p kp).2.2.1
    iterate 2 refine mj_T.pl rfl rfl rfl rfl ?_
    refine mT_get m 13 kp (by decide) rfl rfl ?_
    refine mT_alen m 4 (mK_p kp).2.1 (by decide) rfl ?_
    refine mj_T.icmp (a := ((i : Nat) : Int)) (b := ((cL (p + 3) : Nat) : Int)) rfl ⟨by omega, by omega⟩ ⟨by omega, by omega⟩ (fun c1 => ?_) (fun c1 => ?_)
    · simp only [jc, Bool.not_eq_true', Bool.not_eq_false', decide_eq_true_eq, decide_eq_false_iff_not] at c1
      exact mj_T.ret rfl rfl rfl ⟨d, _, m, hd, rfl⟩
    · exfalso
      simp only [jc, Bool.not_eq_true', Bool.not_eq_false', decide_eq_true_eq, decide_eq_false_iff_not] at c1
      omega
  | k + 1, i, hi, d, h1, m, hd => by
    have hb := (mK_p kp).2.2.1
    iterate 2 refine mj_T.pl rfl rfl rfl rfl ?_
    refine mT_get m 13 kp (by decide) rfl rfl ?_
    refine mT_alen m 4 (mK_p kp).2.1 (by decide) rfl ?_
    refine mj_T.icmp (a := ((i : Nat) : Int)) (b := ((cL (p + 3) : Nat) : Int)) rfl ⟨by omega, by omega⟩ ⟨by omega, by omega⟩ (fun c1 => ?_) (fun c1 => ?_)
    · exfalso
      simp only [jc, Bool.not_eq_true', Bool.not_eq_false', decide_eq_true_eq, decide_eq_false_iff_not] at c1
      omega
    · simp only [jc, Bool.not_eq_true', Bool.not_eq_false', decide_eq_true_eq, decide_eq_false_iff_not] at c1
      iterate 2 refine mj_T.pl rfl rfl rfl rfl ?_
      refine mT_get m 13 kp (by decide) rfl rfl ?_
      refine mj_T.pl rfl rfl rfl rfl ?_
      refine mT_aald m 4 (mK_p kp).2.1 (by decide) rfl rfl (by omega) ⟨by omega, by omega⟩ ?_
      refine mj_T.eq (st2 := [.ref (p + 4 + 2 * i), .ref p]) ?_ rfl rfl rfl rfl
      refine mZ_sg m ((mK_p kp).2.2.2 i (by omega)) rfl (fun z2 rz2 => ?_)
      refine mj_T.if0 (a := z2) rfl ⟨by omega, by omega⟩ (fun c3 => ?_) (fun c3 => ?_)
      · simp only [jc, Bool.not_eq_true', Bool.not_eq_false', decide_eq_true_eq, decide_eq_false_iff_not] at c3
        refine mj_T.pl rfl rfl rfl rfl ?_
        refine mT_get (v := .int (jn d)) m 13 kp (by decide) rfl (congrArg (fun z : Int => some (Value.int (jn z))) (xup_at X p 2 _)) ?_
        refine mT_put (v := d) m 13 kp (by decide) rfl (by simp [jMf, xup]) (by simp [jMf]) rfl (fun h4 m5 => ?_)
        refine mj_T.iinc rfl rfl ?_
        rw [show ((i : Nat) : Int) + 1 = ((i + 1 : Nat) : Int) by omega]
        refine mj_T.eq (loc2 := [some (.ref p), some (.int (jn (((i + 1) : Nat) : Int)))]) ?_ rfl rfl rfl rfl
        refine mj_T.pl rfl rfl rfl rfl ?_
        exact mZ_42_loop kp k (i + 1) (by omega) _ _ (m5.to rfl (xup_xup _ _ _ _ _).symm) ⟨by omega, by omega⟩
      · simp only [jc, Bool.not_eq_true', Bool.not_eq_false', decide_eq_true_eq, decide_eq_false_iff_not] at c3
        iterate 2 refine mj_T.pl rfl rfl rfl rfl ?_
        refine mT_put (v := ((i : Nat) : Int)) m 13 kp (by decide) rfl (by simp [jMf, xup]) (by simp [jMf]) rfl (fun h6 m7 => ?_)
        refine mj_T.iinc rfl rfl ?_
        rw [show ((i : Nat) : Int) + 1 = ((i + 1 : Nat) : Int) by omega]
        refine mj_T.eq (loc2 := [some (.ref p), some (.int (jn (((i + 1) : Nat) : Int)))]) ?_ rfl rfl rfl rfl
        refine mj_T.pl rfl rfl rfl rfl ?_
        exact mZ_42_loop kp k (i + 1) (by omega) _ _ (m7.to rfl (xup_xup _ _ _ _ _).symm) ⟨by omega, by omega⟩
theorem mZ_42 (m : jM g n V X h) (kp : cK p = 13) : mj_Ok (D + 1) 42 [.ref p] h (fun r => ∃ d h2, jM g n V (xup X p 2 d) h2 ∧ (-1 ≤ d ∧ d < cL (p + 3)) ∧ r = (.inl none, h2)) := by
  have hb := (mK_p kp).2.2.1
  refine mj_Ok.of (M := mj_m42) rfl rfl rfl ?_
  iterate 2 refine mj_T.pl rfl rfl rfl rfl ?_
  refine mT_put (v := (-1)) m 13 kp (by decide) rfl (by simp [jMf, xup]) (by simp [jMf]) rfl (fun h1 m2 => ?_)
  refine mj_T.pl rfl rfl rfl rfl ?_
  refine mj_T.pl (loc' := [some (.ref p), some (.int (jn 0))]) rfl rfl rfl rfl ?_
  exact mZ_42_loop kp (cL (p + 3)) 0 (by omega) (-1) _ m2 ⟨by omega, by omega⟩
theorem mZ_43_loop (kp : cK p = 13) : ∀ k i, i + k = cL (p + 3) → ∀ (V1 : Nat → Int) (h1 : mj_H), jM g n V1 X h1 → by0 V1 → mj_T D mj_m43 2 [some (.ref p), some (.int (jn (i : Int)))] [] h1 (fun r => ∃ V2 h2, jM g n V2 X h2 ∧ by0 V2 ∧ r = (.inl none, h2))
  | 0, i, hi, V1, h1, m, b => by
    have hb := (mK_p kp).2.2.1
    iterate 2 refine mj_T.pl rfl rfl rfl rfl ?_
    refine mT_get m 13 kp (by decide) rfl rfl ?_
    refine mT_alen m 4 (mK_p kp).2.1 (by decide) rfl ?_
    refine mj_T.icmp (a := ((i : Nat) : Int)) (b := ((cL (p + 3) : Nat) : Int)) rfl ⟨by omega, by omega⟩ ⟨by omega, by omega⟩ (fun c1 => ?_) (fun c1 => ?_)
    · simp only [jc, Bool.not_eq_true', Bool.not_eq_false', decide_eq_true_eq, decide_eq_false_iff_not] at c1
      exact mj_T.ret rfl rfl rfl ⟨V1, _, m, b, rfl⟩
    · exfalso
      simp only [jc, Bool.not_eq_true', Bool.not_eq_false', decide_eq_true_eq, decide_eq_false_iff_not] at c1
      omega
  | k + 1, i, hi, V1, h1, m, b => by
    have hb := (mK_p kp).2.2.1
    iterate 2 refine mj_T.pl rfl rfl rfl rfl ?_
    refine mT_get m 13 kp (by decide) rfl rfl ?_
    refine mT_alen m 4 (mK_p kp).2.1 (by decide) rfl ?_
    refine mj_T.icmp (a := ((i : Nat) : Int)) (b := ((cL (p + 3) : Nat) : Int)) rfl ⟨by omega, by omega⟩ ⟨by omega, by omega⟩ (fun c1 => ?_) (fun c1 => ?_)
    · exfalso
      simp only [jc, Bool.not_eq_true', Bool.not_eq_false', decide_eq_true_eq, decide_eq_false_iff_not] at c1
      omega
    · simp only [jc, Bool.not_eq_true', Bool.not_eq_false', decide_eq_true_eq, decide_eq_false_iff_not] at c1
      refine mj_T.pl rfl rfl rfl rfl ?_
      refine mT_get m 13 kp (by decide) rfl rfl ?_
      refine mj_T.pl rfl rfl rfl rfl ?_
      refine mT_aald m 4 (mK_p kp).2.1 (by decide) rfl rfl (by omega) ⟨by omega, by omega⟩ ?_
      refine mj_T.eq (st2 := [.ref (p + 4 + 2 * i)]) ?_ rfl rfl rfl rfl
      refine mj_T.pl rfl rfl rfl rfl ?_
      refine mT_get m 13 kp (by decide) rfl rfl ?_
      refine mj_T.pl rfl rfl rfl rfl ?_
      refine mT_aald m 4 (mK_p kp).2.1 (by decide) rfl rfl (by omega) ⟨by omega, by omega⟩ ?_
      refine mj_T.eq (st2 := [.ref (p + 4 + 2 * i), .ref (p + 4 + 2 * i)]) ?_ rfl rfl rfl rfl
      refine mZ_sg m ((mK_p kp).2.2.2 i (by omega)) rfl (fun z2 rz2 => ?_)
      refine mj_T.ineg rfl ?_
      refine mZ_psg m ((mK_p kp).2.2.2 i (by omega)) rfl (fun h3 m4 => ?_)
      have b6 : by0 _ := b.drt (sl := [(p + 4 + 2 * i)]) (fun x hx => by rw [List.mem_singleton.mp hx]; exact (fr_part kp (by omega)).2)
      refine mj_T.iinc rfl rfl ?_
      rw [show ((i : Nat) : Int) + 1 = ((i + 1 : Nat) : Int) by omega]
      refine mj_T.eq (loc2 := [some (.ref p), some (.int (jn (((i + 1) : Nat) : Int)))]) ?_ rfl rfl rfl rfl
      refine mj_T.pl rfl rfl rfl rfl ?_
      exact mZ_43_loop kp k (i + 1) (by omega) _ _ m4 b6
theorem mZ_43 (m : jM g n V X h) (b : by0 V) (kp : cK p = 13) : mj_Ok (D + 1) 43 [.ref p] h (fun r => ∃ V2 h2, jM g n V2 X h2 ∧ by0 V2 ∧ r = (.inl none, h2)) := by
  refine mj_Ok.of (M := mj_m43) rfl rfl rfl ?_
  refine mj_T.pl rfl rfl rfl rfl ?_
  refine mj_T.pl (loc' := [some (.ref p), some (.int (jn 0))]) rfl rfl rfl rfl ?_
  exact mZ_43_loop kp (cL (p + 3)) 0 (by omega) V _ m b
theorem by0_m {p : Nat} (kp : cK p = 13) : p + 1 ∈ bydl := by
  have h1 := jall pls_1 (cK_in (a := p) (by omega))
  simp only [kp, decide_true, Bool.not_true, Bool.false_or, decide_eq_true_eq] at h1
  exact List.mem_map.mpr ⟨p, h1, rfl⟩
theorem mZ_41_loop {o : Nat} (kp : cK p = 13) (ko : cK o = 13) : ∀ k i, i + k = cL (p + 3) → ∀ (V1 : Nat → Int) (h1 : mj_H), jM g n V1 X h1 → by0 V1 → mj_T (D + 1) mj_m41 2 [some (.ref p), some (.ref o), some (.int (jn (i : Int)))] [] h1 (fun r => ∃ V2 d h2, jM g n V2 (xup X p 2 d) h2 ∧ by0 V2 ∧ (-1 ≤ d ∧ d < cL (p + 3)) ∧ r = (.inl none, h2))
  | 0, i, hi, V1, h1, m, b => by
    have hb := (mK_p kp).2.2.1
    iterate 2 refine mj_T.pl rfl rfl rfl rfl ?_
    refine mT_get m 13 kp (by decide) rfl rfl ?_
    refine mT_alen m 4 (mK_p kp).2.1 (by decide) rfl ?_
    refine mj_T.icmp (a := ((i : Nat) : Int)) (b := ((cL (p + 3) : Nat) : Int)) rfl ⟨by omega, by omega⟩ ⟨by omega, by omega⟩ (fun c1 => ?_) (fun c1 => ?_)
    · simp only [jc, Bool.not_eq_true', Bool.not_eq_false', decide_eq_true_eq, decide_eq_false_iff_not] at c1
      refine mj_T.pl rfl rfl rfl rfl ?_
      refine mj_T.call rfl rfl (Nat.le_of_ble_eq_true rfl) (Nat.le_of_ble_eq_true rfl) (mV_of m 13 kp (by decide) rfl (by decide) rfl _) rfl (mj_Ok.up (by omega) (mZ_42 (D := 0) m kp)) (fun v g2 hq => ?_) (fun i g2 hq => ?_)
      rotate_left
      · obtain ⟨_, _, _, _, hq⟩ := hq; cases hq
      obtain ⟨d3, _, m4, hd3, hq⟩ := hq
      cases hq
      refine mj_T.eq (pc2 := 35) (st2 := []) ?_ rfl rfl rfl rfl
      exact mj_T.ret rfl rfl rfl ⟨V1, _, _, m4, b, hd3, rfl⟩
    · exfalso
      simp only [jc, Bool.not_eq_true', Bool.not_eq_false', decide_eq_true_eq, decide_eq_false_iff_not] at c1
      omega
  | k + 1, i, hi, V1, h1, m, b => by
    have hb := (mK_p kp).2.2.1
    have hbo := (mK_p ko).2.2.1
    iterate 2 refine mj_T.pl rfl rfl rfl rfl ?_
    refine mT_get m 13 kp (by decide) rfl rfl ?_
    refine mT_alen m 4 (mK_p kp).2.1 (by decide) rfl ?_
    refine mj_T.icmp (a := ((i : Nat) : Int)) (b := ((cL (p + 3) : Nat) : Int)) rfl ⟨by omega, by omega⟩ ⟨by omega, by omega⟩ (fun c1 => ?_) (fun c1 => ?_)
    · exfalso
      simp only [jc, Bool.not_eq_true', Bool.not_eq_false', decide_eq_true_eq, decide_eq_false_iff_not] at c1
      omega
    · simp only [jc, Bool.not_eq_true', Bool.not_eq_false', decide_eq_true_eq, decide_eq_false_iff_not] at c1
      refine mj_T.pl rfl rfl rfl rfl ?_
      refine mT_get m 13 kp (by decide) rfl rfl ?_
      refine mj_T.pl rfl rfl rfl rfl ?_
      refine mT_aald m 4 (mK_p kp).2.1 (by decide) rfl rfl (by omega) ⟨by omega, by omega⟩ ?_
      refine mj_T.eq (st2 := [.ref (p + 4 + 2 * i)]) ?_ rfl rfl rfl rfl
      iterate 2 refine mj_T.pl rfl rfl rfl rfl ?_
      by_cases cc : i < cL (o + 3)
      · skip
        refine mj_T.call rfl rfl (Nat.le_of_ble_eq_true rfl) (Nat.le_of_ble_eq_true rfl) (mV_of m 13 ko (by decide) rfl (by decide) rfl _) rfl (mj_Ok.up (by omega) (mP_at (D := 0) m ko (e := i) (by omega))) (fun v g31 hq => ?_) (fun i g31 hq => ?_)
        rotate_left
        · cases hq
        cases hq
        refine mj_T.eq (pc2 := 22) (st2 := [.ref (o + 4 + 2 * i), .ref (p + 4 + 2 * i)]) ?_ rfl rfl rfl rfl
        refine mj_T.call rfl rfl (Nat.le_of_ble_eq_true rfl) (Nat.le_of_ble_eq_true rfl) (mV_of m 18 ((mK_p kp).2.2.2 i (by omega)) (by decide) rfl (by decide) rfl _) rfl (mj_Ok.up (by omega) (mF_87 (D := 0) m b (fr_part kp (by omega)) (fr_part ko (by omega)))) (fun v g32 hq => ?_) (fun i g32 hq => ?_)
        rotate_left
        · obtain ⟨_, _, _, _, hq⟩ := hq; cases hq
        obtain ⟨V33, _, m34, b35, hq⟩ := hq
        cases hq
        refine mj_T.eq (pc2 := 25) (st2 := []) ?_ rfl rfl rfl rfl
        refine mj_T.iinc rfl rfl ?_
        rw [show ((i : Nat) : Int) + 1 = ((i + 1 : Nat) : Int) by omega]
        refine mj_T.eq (loc2 := [some (.ref p), some (.ref o), some (.int (jn (((i + 1) : Nat) : Int)))]) ?_ rfl rfl rfl rfl
        refine mj_T.pl rfl rfl rfl rfl ?_
        exact mZ_41_loop kp ko k (i + 1) (by omega) _ _ m34 b35
      · skip
        refine mj_T.call rfl rfl (Nat.le_of_ble_eq_true rfl) (Nat.le_of_ble_eq_true rfl) (mV_of m 13 ko (by decide) rfl (by decide) rfl _) rfl (mj_Ok.up (by omega) (mP_atB (D := 0) m ko (e := (i : Int)) ⟨by omega, by omega⟩ (Or.inr (by omega)))) (fun v g61 hq => ?_) (fun i g61 hq => ?_)
        rotate_left
        · cases hq
        cases hq
        refine mj_T.eq (pc2 := 22) (st2 := [.ref (o + 1), .ref (p + 4 + 2 * i)]) ?_ rfl rfl rfl rfl
        refine mj_T.call rfl rfl (Nat.le_of_ble_eq_true rfl) (Nat.le_of_ble_eq_true rfl) (mV_of m 18 ((mK_p kp).2.2.2 i (by omega)) (by decide) rfl (by decide) rfl _) rfl (mj_Ok.up (by omega) (mW_set (D := 0) m ((mK_p kp).2.2.2 i (by omega)) (mK_p ko).1 (fun e => (fr_part kp (i := i) (by omega)).2 (e ▸ by0_m ko)) (by rw [b.p ko]; exact Nat.le_trans (Nat.le_of_eq jnl_zero) (Nat.zero_le _)))) (fun v g62 hq => ?_) (fun i g62 hq => ?_)
        rotate_left
        · obtain ⟨_, _, hq⟩ := hq; cases hq
        obtain ⟨_, m63, hq⟩ := hq
        cases hq
        have b64 : by0 (jvu V1 (p + 4 + 2 * i) (V1 (o + 1))) := b.jvu (fr_part kp (by omega)).2
        refine mj_T.eq (pc2 := 25) (st2 := []) ?_ rfl rfl rfl rfl
        refine mj_T.iinc rfl rfl ?_
        rw [show ((i : Nat) : Int) + 1 = ((i + 1 : Nat) : Int) by omega]
        refine mj_T.eq (loc2 := [some (.ref p), some (.ref o), some (.int (jn (((i + 1) : Nat) : Int)))]) ?_ rfl rfl rfl rfl
        refine mj_T.pl rfl rfl rfl rfl ?_
        exact mZ_41_loop kp ko k (i + 1) (by omega) _ _ m63 b64
theorem mZ_41 (m : jM g n V X h) (b : by0 V) {o : Nat} (kp : cK p = 13) (ko : cK o = 13) : mj_Ok (D + 2) 41 [.ref p, .ref o] h (fun r => ∃ V2 d h2, jM g n V2 (xup X p 2 d) h2 ∧ by0 V2 ∧ (-1 ≤ d ∧ d < cL (p + 3)) ∧ r = (.inl none, h2)) := by
  refine mj_Ok.of (M := mj_m41) rfl rfl rfl ?_
  refine mj_T.pl rfl rfl rfl rfl ?_
  refine mj_T.pl (loc' := [some (.ref p), some (.ref o), some (.int (jn 0))]) rfl rfl rfl rfl ?_
  exact mZ_41_loop kp ko (cL (p + 3)) 0 (by omega) V _ m b
theorem mZ_40_loop {d : Int} (kp : cK p = 13) (kr : cK r = 2) (hd : jR d) (hjr : ∀ j, jR (X r j)) : ∀ k i, i + k = cL (p + 3) → ∀ (V1 : Nat → Int) (h1 : mj_H), jM g n V1 X h1 → by0 V1 → mj_T (D + 1) mj_m40 3 [some (.ref p), some (.ref r), some (.long (jl d)), none, some (.int (jn (i : Int)))] [] h1 (fun r => ∃ V2 d h2, jM g n V2 (xup X p 2 d) h2 ∧ by0 V2 ∧ (-1 ≤ d ∧ d < cL (p + 3)) ∧ r = (.inl none, h2))
  | 0, i, hi, V1, h1, m, b => by
    have hb := (mK_p kp).2.2.1
    iterate 2 refine mj_T.pl rfl rfl rfl rfl ?_
    refine mT_get m 13 kp (by decide) rfl rfl ?_
    refine mT_alen m 4 (mK_p kp).2.1 (by decide) rfl ?_
    refine mj_T.icmp (a := ((i : Nat) : Int)) (b := ((cL (p + 3) : Nat) : Int)) rfl ⟨by omega, by omega⟩ ⟨by omega, by omega⟩ (fun c1 => ?_) (fun c1 => ?_)
    · simp only [jc, Bool.not_eq_true', Bool.not_eq_false', decide_eq_true_eq, decide_eq_false_iff_not] at c1
      refine mj_T.pl rfl rfl rfl rfl ?_
      refine mj_T.call rfl rfl (Nat.le_of_ble_eq_true rfl) (Nat.le_of_ble_eq_true rfl) (mV_of m 13 kp (by decide) rfl (by decide) rfl _) rfl (mj_Ok.up (by omega) (mZ_42 (D := 0) m kp)) (fun v g2 hq => ?_) (fun i g2 hq => ?_)
      rotate_left
      · obtain ⟨_, _, _, _, hq⟩ := hq; cases hq
      obtain ⟨d3, _, m4, hd3, hq⟩ := hq
      cases hq
      refine mj_T.eq (pc2 := 56) (st2 := []) ?_ rfl rfl rfl rfl
      exact mj_T.ret rfl rfl rfl ⟨V1, _, _, m4, b, hd3, rfl⟩
    · exfalso
      simp only [jc, Bool.not_eq_true', Bool.not_eq_false', decide_eq_true_eq, decide_eq_false_iff_not] at c1
      omega
  | k + 1, i, hi, V1, h1, m, b => by
    have hb := (mK_p kp).2.2.1
    iterate 2 refine mj_T.pl rfl rfl rfl rfl ?_
    refine mT_get m 13 kp (by decide) rfl rfl ?_
    refine mT_alen m 4 (mK_p kp).2.1 (by decide) rfl ?_
    refine mj_T.icmp (a := ((i : Nat) : Int)) (b := ((cL (p + 3) : Nat) : Int)) rfl ⟨by omega, by omega⟩ ⟨by omega, by omega⟩ (fun c1 => ?_) (fun c1 => ?_)
    · exfalso
      simp only [jc, Bool.not_eq_true', Bool.not_eq_false', decide_eq_true_eq, decide_eq_false_iff_not] at c1
      omega
    · simp only [jc, Bool.not_eq_true', Bool.not_eq_false', decide_eq_true_eq, decide_eq_false_iff_not] at c1
      refine mj_T.pl rfl rfl rfl rfl ?_
      refine mT_get m 13 kp (by decide) rfl rfl ?_
      refine mj_T.pl rfl rfl rfl rfl ?_
      refine mT_aald m 4 (mK_p kp).2.1 (by decide) rfl rfl (by omega) ⟨by omega, by omega⟩ ?_
      refine mj_T.eq (st2 := [.ref (p + 4 + 2 * i)]) ?_ rfl rfl rfl rfl
      iterate 2 refine mj_T.pl rfl rfl rfl rfl ?_
      refine mT_llen m kr rfl ?_
      refine mj_T.icmp (a := ((i : Nat) : Int)) (b := ((13 : Nat) : Int)) rfl ⟨by omega, by omega⟩ ⟨by omega, by omega⟩ (fun c2 => ?_) (fun c2 => ?_)
      · simp only [jc, Bool.not_eq_true', Bool.not_eq_false', decide_eq_true_eq, decide_eq_false_iff_not] at c2
        refine jT.lc 0 rfl rfl ?_
        refine mj_T.call rfl rfl (Nat.le_of_ble_eq_true rfl) (Nat.le_of_ble_eq_true rfl) (mV_of m 18 ((mK_p kp).2.2.2 i (by omega)) (by decide) rfl (by decide) rfl _) rfl (mj_Ok.up (by omega) (mF_86 (D := 0) m b (fr_part kp (by omega)) jR_0)) (fun v g3 hq => ?_) (fun i g3 hq => ?_)
        rotate_left
        · obtain ⟨_, _, _, _, hq⟩ := hq; cases hq
        obtain ⟨V4, _, m5, b6, hq⟩ := hq
        cases hq
        refine mj_T.eq (pc2 := 46) (st2 := []) ?_ rfl rfl rfl rfl
        refine mj_T.iinc rfl rfl ?_
        rw [show ((i : Nat) : Int) + 1 = ((i + 1 : Nat) : Int) by omega]
        refine mj_T.eq (loc2 := [some (.ref p), some (.ref r), some (.long (jl d)), none, some (.int (jn (((i + 1) : Nat) : Int)))]) ?_ rfl rfl rfl rfl
        refine mj_T.pl rfl rfl rfl rfl ?_
        exact mZ_40_loop kp kr hd hjr k (i + 1) (by omega) _ _ m5 b6
      · simp only [jc, Bool.not_eq_true', Bool.not_eq_false', decide_eq_true_eq, decide_eq_false_iff_not] at c2
        refine mj_T.pl rfl rfl rfl rfl ?_
        refine jT.lc 0 rfl rfl ?_
        refine mj_T.lif (a := d) (b := ((0 : Nat) : Int)) rfl rfl hd jR_0 (fun c7 => ?_) (fun c7 => ?_)
        · simp only [jc, Bool.not_eq_true', Bool.not_eq_false', decide_eq_true_eq, decide_eq_false_iff_not] at c7
          refine jT.lc 0 rfl rfl ?_
          refine mj_T.call rfl rfl (Nat.le_of_ble_eq_true rfl) (Nat.le_of_ble_eq_true rfl) (mV_of m 18 ((mK_p kp).2.2.2 i (by omega)) (by decide) rfl (by decide) rfl _) rfl (mj_Ok.up (by omega) (mF_86 (D := 0) m b (fr_part kp (by omega)) jR_0)) (fun v g8 hq => ?_) (fun i g8 hq => ?_)
          rotate_left
          · obtain ⟨_, _, _, _, hq⟩ := hq; cases hq
          obtain ⟨V9, _, m10, b11, hq⟩ := hq
          cases hq
          refine mj_T.eq (pc2 := 46) (st2 := []) ?_ rfl rfl rfl rfl
          refine mj_T.iinc rfl rfl ?_
          rw [show ((i : Nat) : Int) + 1 = ((i + 1 : Nat) : Int) by omega]
          refine mj_T.eq (loc2 := [some (.ref p), some (.ref r), some (.long (jl d)), none, some (.int (jn (((i + 1) : Nat) : Int)))]) ?_ rfl rfl rfl rfl
          refine mj_T.pl rfl rfl rfl rfl ?_
          exact mZ_40_loop kp kr hd hjr k (i + 1) (by omega) _ _ m10 b11
        · simp only [jc, Bool.not_eq_true', Bool.not_eq_false', decide_eq_true_eq, decide_eq_false_iff_not] at c7
          iterate 2 refine mj_T.pl rfl rfl rfl rfl ?_
          refine mT_lald m kr rfl ⟨by omega, by omega⟩ ?_
          refine mj_T.eq (st2 := [.long (jl (X r i)), .ref (p + 4 + 2 * i)]) ?_ rfl rfl rfl rfl
          refine mj_T.pl rfl rfl rfl rfl ?_
          refine jT.ldiv rfl hd (by omega) (fun y12 jy12 => ?_)
          refine mj_T.pl rfl rfl rfl rfl ?_
          refine mj_T.call rfl rfl (Nat.le_of_ble_eq_true rfl) (Nat.le_of_ble_eq_true rfl) (mV_of m 18 ((mK_p kp).2.2.2 i (by omega)) (by decide) rfl (by decide) rfl _) rfl (mj_Ok.up (by omega) (mF_86 (D := 0) m b (fr_part kp (by omega)) jy12)) (fun v g13 hq => ?_) (fun i g13 hq => ?_)
          rotate_left
          · obtain ⟨_, _, _, _, hq⟩ := hq; cases hq
          obtain ⟨V14, _, m15, b16, hq⟩ := hq
          cases hq
          refine mj_T.eq (pc2 := 46) (st2 := []) ?_ rfl rfl rfl rfl
          refine mj_T.iinc rfl rfl ?_
          rw [show ((i : Nat) : Int) + 1 = ((i + 1 : Nat) : Int) by omega]
          refine mj_T.eq (loc2 := [some (.ref p), some (.ref r), some (.long (jl d)), none, some (.int (jn (((i + 1) : Nat) : Int)))]) ?_ rfl rfl rfl rfl
          refine mj_T.pl rfl rfl rfl rfl ?_
          exact mZ_40_loop kp kr hd hjr k (i + 1) (by omega) _ _ m15 b16
theorem mZ_40 (m : jM g n V X h) (b : by0 V) {d : Int} (kp : cK p = 13) (kr : cK r = 2) (hd : jR d) (hjr : ∀ j, jR (X r j)) : mj_Ok (D + 2) 40 [.ref p, .ref r, .long (jl d)] h (fun r => ∃ V2 d h2, jM g n V2 (xup X p 2 d) h2 ∧ by0 V2 ∧ (-1 ≤ d ∧ d < cL (p + 3)) ∧ r = (.inl none, h2)) := by
  refine mj_Ok.of (M := mj_m40) rfl rfl rfl ?_
  refine mj_T.pl rfl rfl rfl rfl ?_
  refine mj_T.pl (loc' := [some (.ref p), some (.ref r), some (.long (jl d)), none, some (.int (jn 0))]) rfl rfl rfl rfl ?_
  exact mZ_40_loop kp kr hd hjr (cL (p + 3)) 0 (by omega) V _ m b
end MLF
