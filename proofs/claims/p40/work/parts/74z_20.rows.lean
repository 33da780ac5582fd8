/-! Rows are cleared, copied, compared, added, derived, exactly. -/
theorem xfl_read (X : Nat → Nat → Int) (r : Nat) (w : Nat → Int) (i a : Nat) : xfl X r w i a i = X a i := if_neg (by omega)
theorem xfl_full {X : Nat → Nat → Int} {r i : Nat} {w : Nat → Int} {v : Int} (h : v = w i) : xfl X r w (i + 1) = xup (xfl X r w i) r i v := by
  rw [h]
  exact xfl_succ X r w i
section MSV
variable {g h : mj_H} {n D r a b : Nat} {V : Nat → Int} {X : Nat → Nat → Int}
theorem mS_clear_loop (kr : cK r = 2) {Q : mj_R → Prop} (hend : ∀ h, jM g n V (xfl X r (fun _ => 0) 13) h → Q (.inl none, h)) : ∀ k i, i + k = 13 → ∀ h, jM g n V (xfl X r (fun _ => 0) i) h → mj_T D mj_m165 2 [some (.ref r), some (.int (jn (i : Int)))] [] h Q
  | 0, i, hi, h, m => by
    iterate 2 refine mj_T.pl rfl rfl rfl rfl ?_
    refine mT_llen m kr rfl ?_
    refine mj_T.icmp (a := ((i : Nat) : Int)) (b := ((13 : Nat) : Int)) rfl ⟨by omega, by omega⟩ ⟨by omega, by omega⟩ (fun c1 => ?_) (fun c1 => ?_)
    · simp only [jc, Bool.not_eq_true', Bool.not_eq_false', decide_eq_true_eq, decide_eq_false_iff_not] at c1
      exact mj_T.ret rfl rfl rfl (hend _ (m.to rfl (by rw [show i = 13 by omega])))
    · exfalso
      simp only [jc, Bool.not_eq_true', Bool.not_eq_false', decide_eq_true_eq, decide_eq_false_iff_not] at c1
      omega
  | k + 1, i, hi, h, m => by
    iterate 2 refine mj_T.pl rfl rfl rfl rfl ?_
    refine mT_llen m kr rfl ?_
    refine mj_T.icmp (a := ((i : Nat) : Int)) (b := ((13 : Nat) : Int)) rfl ⟨by omega, by omega⟩ ⟨by omega, by omega⟩ (fun c1 => ?_) (fun c1 => ?_)
    · exfalso
      simp only [jc, Bool.not_eq_true', Bool.not_eq_false', decide_eq_true_eq, decide_eq_false_iff_not] at c1
      omega
    · simp only [jc, Bool.not_eq_true', Bool.not_eq_false', decide_eq_true_eq, decide_eq_false_iff_not] at c1
      iterate 2 refine mj_T.pl rfl rfl rfl rfl ?_
      refine jT.lc 0 rfl rfl ?_
      refine mT_last (v := ((0 : Nat) : Int)) m kr rfl ⟨by omega, by omega⟩ (fun h2 m3 => ?_)
      refine mj_T.iinc rfl rfl ?_
      rw [show ((i : Nat) : Int) + 1 = ((i + 1 : Nat) : Int) by omega]
      refine mj_T.eq (loc2 := [some (.ref r), some (.int (jn (((i + 1) : Nat) : Int)))]) ?_ rfl rfl rfl rfl
      refine mj_T.pl rfl rfl rfl rfl ?_
      exact mS_clear_loop kr hend k (i + 1) (by omega) _ (m3.to rfl (xfl_full rfl))
theorem mS_clear (m : jM g n V X h) (kr : cK r = 2) : mj_Ok (D + 1) 165 [.ref r] h (fun z => ∃ h2, jM g n V (xfl X r (fun _ => 0) 13) h2 ∧ z = (.inl none, h2)) := by
  refine mj_Ok.of (M := mj_m165) rfl rfl rfl ?_
  refine mj_T.pl rfl rfl rfl rfl ?_
  refine mj_T.pl (loc' := [some (.ref r), some (.int (jn 0))]) rfl rfl rfl rfl ?_
  exact mS_clear_loop kr (fun h1 m1 => ⟨h1, m1, rfl⟩) 13 0 (by omega) _ (m.to rfl (xfl_zero _ _ _))
theorem mS_copy_loop (ka : cK a = 2) (kb : cK b = 2) {Q : mj_R → Prop} (hend : ∀ h, jM g n V (xfl X b (X a) 13) h → Q (.inl none, h)) : ∀ k i, i + k = 13 → ∀ h, jM g n V (xfl X b (X a) i) h → mj_T D mj_m164 2 [some (.ref a), some (.ref b), some (.int (jn (i : Int)))] [] h Q
  | 0, i, hi, h, m => by
    iterate 2 refine mj_T.pl rfl rfl rfl rfl ?_
    refine mT_llen m kb rfl ?_
    refine mj_T.icmp (a := ((i : Nat) : Int)) (b := ((13 : Nat) : Int)) rfl ⟨by omega, by omega⟩ ⟨by omega, by omega⟩ (fun c1 => ?_) (fun c1 => ?_)
    · simp only [jc, Bool.not_eq_true', Bool.not_eq_false', decide_eq_true_eq, decide_eq_false_iff_not] at c1
      exact mj_T.ret rfl rfl rfl (hend _ (m.to rfl (by rw [show i = 13 by omega])))
    · exfalso
      simp only [jc, Bool.not_eq_true', Bool.not_eq_false', decide_eq_true_eq, decide_eq_false_iff_not] at c1
      omega
  | k + 1, i, hi, h, m => by
    iterate 2 refine mj_T.pl rfl rfl rfl rfl ?_
    refine mT_llen m kb rfl ?_
    refine mj_T.icmp (a := ((i : Nat) : Int)) (b := ((13 : Nat) : Int)) rfl ⟨by omega, by omega⟩ ⟨by omega, by omega⟩ (fun c1 => ?_) (fun c1 => ?_)
    · exfalso
      simp only [jc, Bool.not_eq_true', Bool.not_eq_false', decide_eq_true_eq, decide_eq_false_iff_not] at c1
      omega
    · simp only [jc, Bool.not_eq_true', Bool.not_eq_false', decide_eq_true_eq, decide_eq_false_iff_not] at c1
      iterate 4 refine mj_T.pl rfl rfl rfl rfl ?_
      refine mT_llen m ka rfl ?_
      refine mj_T.icmp (a := ((i : Nat) : Int)) (b := ((13 : Nat) : Int)) rfl ⟨by omega, by omega⟩ ⟨by omega, by omega⟩ (fun c2 => ?_) (fun c2 => ?_)
      · exfalso
        simp only [jc, Bool.not_eq_true', Bool.not_eq_false', decide_eq_true_eq, decide_eq_false_iff_not] at c2
        omega
      · simp only [jc, Bool.not_eq_true', Bool.not_eq_false', decide_eq_true_eq, decide_eq_false_iff_not] at c2
        iterate 2 refine mj_T.pl rfl rfl rfl rfl ?_
        refine mT_lald m ka rfl ⟨by omega, by omega⟩ ?_
        refine mj_T.eq (st2 := [.long (jl ((xfl X b (X a) i) a i)), .int (jn ((i : Nat) : Int)), .ref b]) ?_ rfl rfl rfl rfl
        refine mj_T.pl rfl rfl rfl rfl ?_
        refine mT_last (v := ((xfl X b (X a) i) a i)) m kb rfl ⟨by omega, by omega⟩ (fun h3 m4 => ?_)
        refine mj_T.iinc rfl rfl ?_
        rw [show ((i : Nat) : Int) + 1 = ((i + 1 : Nat) : Int) by omega]
        refine mj_T.eq (loc2 := [some (.ref a), some (.ref b), some (.int (jn (((i + 1) : Nat) : Int)))]) ?_ rfl rfl rfl rfl
        refine mj_T.pl rfl rfl rfl rfl ?_
        exact mS_copy_loop ka kb hend k (i + 1) (by omega) _ (m4.to rfl (xfl_full (xfl_read _ _ _ _ _)))
theorem mS_copy (m : jM g n V X h) (ka : cK a = 2) (kb : cK b = 2) : mj_Ok (D + 1) 164 [.ref a, .ref b] h (fun z => ∃ h2, jM g n V (xfl X b (X a) 13) h2 ∧ z = (.inl none, h2)) := by
  refine mj_Ok.of (M := mj_m164) rfl rfl rfl ?_
  refine mj_T.pl rfl rfl rfl rfl ?_
  refine mj_T.pl (loc' := [some (.ref a), some (.ref b), some (.int (jn 0))]) rfl rfl rfl rfl ?_
  exact mS_copy_loop ka kb (fun h1 m1 => ⟨h1, m1, rfl⟩) 13 0 (by omega) _ (m.to rfl (xfl_zero _ _ _))
theorem mS_same_loop (m : jM g n V X h) (ka : cK a = 2) (kb : cK b = 2) (ha : sml (X a)) (hb : sml (X b)) {Q : mj_R → Prop} (hyes : (∀ j, j < 13 → X a j = X b j) → Q (.inl (some (.int (jn 1))), h)) (hno : ¬ (∀ j, j < 13 → X a j = X b j) → Q (.inl (some (.int (jn 0))), h)) : ∀ k i, i + k = 13 → (∀ j, j < i → X a j = X b j) → mj_T D mj_m166 2 [some (.ref a), some (.ref b), some (.int (jn (i : Int)))] [] h Q
  | 0, i, hi, hp => by
    iterate 2 refine mj_T.pl rfl rfl rfl rfl ?_
    refine mT_llen m ka rfl ?_
    refine mj_T.icmp (a := ((i : Nat) : Int)) (b := ((13 : Nat) : Int)) rfl ⟨by omega, by omega⟩ ⟨by omega, by omega⟩ (fun c1 => ?_) (fun c1 => ?_)
    · simp only [jc, Bool.not_eq_true', Bool.not_eq_false', decide_eq_true_eq, decide_eq_false_iff_not] at c1
      refine mj_T.pl rfl rfl rfl rfl ?_
      refine mT_llen m ka rfl ?_
      refine mj_T.pl rfl rfl rfl rfl ?_
      refine mT_llen m kb rfl ?_
      refine mj_T.icmp (a := ((13 : Nat) : Int)) (b := ((13 : Nat) : Int)) rfl ⟨by omega, by omega⟩ ⟨by omega, by omega⟩ (fun c2 => ?_) (fun c2 => ?_)
      · exfalso
        simp [jc] at c2
      · simp only [jc, Bool.not_eq_true', Bool.not_eq_false', decide_eq_true_eq, decide_eq_false_iff_not] at c2
        iterate 2 refine mj_T.pl rfl rfl rfl rfl ?_
        exact mj_T.ret rfl rfl rfl (hyes (fun j hj => hp j (by omega)))
    · exfalso
      simp only [jc, Bool.not_eq_true', Bool.not_eq_false', decide_eq_true_eq, decide_eq_false_iff_not] at c1
      omega
  | k + 1, i, hi, hp => by
    have h1 := ha i (by omega)
    have h2 := hb i (by omega)
    iterate 2 refine mj_T.pl rfl rfl rfl rfl ?_
    refine mT_llen m ka rfl ?_
    refine mj_T.icmp (a := ((i : Nat) : Int)) (b := ((13 : Nat) : Int)) rfl ⟨by omega, by omega⟩ ⟨by omega, by omega⟩ (fun c1 => ?_) (fun c1 => ?_)
    · exfalso
      simp only [jc, Bool.not_eq_true', Bool.not_eq_false', decide_eq_true_eq, decide_eq_false_iff_not] at c1
      omega
    · simp only [jc, Bool.not_eq_true', Bool.not_eq_false', decide_eq_true_eq, decide_eq_false_iff_not] at c1
      iterate 2 refine mj_T.pl rfl rfl rfl rfl ?_
      refine mT_llen m kb rfl ?_
      refine mj_T.icmp (a := ((i : Nat) : Int)) (b := ((13 : Nat) : Int)) rfl ⟨by omega, by omega⟩ ⟨by omega, by omega⟩ (fun c2 => ?_) (fun c2 => ?_)
      · exfalso
        simp only [jc, Bool.not_eq_true', Bool.not_eq_false', decide_eq_true_eq, decide_eq_false_iff_not] at c2
        omega
      · simp only [jc, Bool.not_eq_true', Bool.not_eq_false', decide_eq_true_eq, decide_eq_false_iff_not] at c2
        iterate 2 refine mj_T.pl rfl rfl rfl rfl ?_
        refine mT_lald m ka rfl ⟨by omega, by omega⟩ ?_
        refine mj_T.eq (st2 := [.long (jl (X a i))]) ?_ rfl rfl rfl rfl
        iterate 2 refine mj_T.pl rfl rfl rfl rfl ?_
        refine mT_lald m kb rfl ⟨by omega, by omega⟩ ?_
        refine mj_T.eq (st2 := [.long (jl (X b i)), .long (jl (X a i))]) ?_ rfl rfl rfl rfl
        refine mj_T.lif (a := (X a i)) (b := (X b i)) rfl rfl ⟨by omega, by omega⟩ ⟨by omega, by omega⟩ (fun c3 => ?_) (fun c3 => ?_)
        · simp only [jc, Bool.not_eq_true', Bool.not_eq_false', decide_eq_true_eq, decide_eq_false_iff_not] at c3
          refine mj_T.iinc rfl rfl ?_
          rw [show ((i : Nat) : Int) + 1 = ((i + 1 : Nat) : Int) by omega]
          refine mj_T.eq (loc2 := [some (.ref a), some (.ref b), some (.int (jn (((i + 1) : Nat) : Int)))]) ?_ rfl rfl rfl rfl
          refine mj_T.pl rfl rfl rfl rfl ?_
          exact mS_same_loop m ka kb ha hb hyes hno k (i + 1) (by omega) (fun j hj => by
            by_cases e : j = i
            · rw [e]
              omega
            · exact hp j (by omega))
        · simp only [jc, Bool.not_eq_true', Bool.not_eq_false', decide_eq_true_eq, decide_eq_false_iff_not] at c3
          refine mj_T.pl rfl rfl rfl rfl ?_
          refine mj_T.ret rfl rfl rfl (hno (fun q => ?_))
          have := q i (by omega)
          omega
theorem mS_same (m : jM g n V X h) (ka : cK a = 2) (kb : cK b = 2) (ha : sml (X a)) (hb : sml (X b)) : mj_Ok (D + 1) 166 [.ref a, .ref b] h (fun z => ((∀ j, j < 13 → X a j = X b j) ∧ z = (.inl (some (.int (jn 1))), h)) ∨ (¬ (∀ j, j < 13 → X a j = X b j) ∧ z = (.inl (some (.int (jn 0))), h))) := by
  refine mj_Ok.of (M := mj_m166) rfl rfl rfl ?_
  refine mj_T.pl rfl rfl rfl rfl ?_
  refine mj_T.pl (loc' := [some (.ref a), some (.ref b), some (.int (jn 0))]) rfl rfl rfl rfl ?_
  exact mS_same_loop m ka kb ha hb (fun q => Or.inl ⟨q, rfl⟩) (fun q => Or.inr ⟨q, rfl⟩) 13 0 (by omega) (fun j hj => absurd hj (by omega))
theorem mS_short {x : Int} (hx : jR x) : mj_Ok (D + 1) 161 [.long (jl x)] h (fun z => (x.natAbs ≤ 999999999999999999 ∧ z = (.inl (some (.int (jn 1))), h)) ∨ (¬ x.natAbs ≤ 999999999999999999 ∧ z = (.inl (some (.int (jn 0))), h))) := by
  refine mj_Ok.of (M := mj_m161) rfl rfl rfl ?_
  refine mj_T.pl rfl rfl rfl rfl ?_
  refine jT.ldcL rfl ?_
  rw [show jl ((17446744073709551617 : Nat) : Int) = jl (-999999999999999999) from by decide]
  refine mj_T.lif (a := x) (b := (-999999999999999999)) rfl rfl hx ⟨by decide, by decide⟩ (fun c1 => ?_) (fun c1 => ?_)
  · simp only [jc, Bool.not_eq_true', Bool.not_eq_false', decide_eq_true_eq, decide_eq_false_iff_not] at c1
    refine mj_T.pl rfl rfl rfl rfl ?_
    exact mj_T.ret rfl rfl rfl (Or.inr ⟨by omega, rfl⟩)
  · simp only [jc, Bool.not_eq_true', Bool.not_eq_false', decide_eq_true_eq, decide_eq_false_iff_not] at c1
    refine mj_T.pl rfl rfl rfl rfl ?_
    refine jT.ldcL rfl ?_
    refine mj_T.lif (a := x) (b := ((999999999999999999 : Nat) : Int)) rfl rfl hx ⟨by decide, by decide⟩ (fun c2 => ?_) (fun c2 => ?_)
    · simp only [jc, Bool.not_eq_true', Bool.not_eq_false', decide_eq_true_eq, decide_eq_false_iff_not] at c2
      refine mj_T.pl rfl rfl rfl rfl ?_
      exact mj_T.ret rfl rfl rfl (Or.inr ⟨by omega, rfl⟩)
    · simp only [jc, Bool.not_eq_true', Bool.not_eq_false', decide_eq_true_eq, decide_eq_false_iff_not] at c2
      iterate 2 refine mj_T.pl rfl rfl rfl rfl ?_
      exact mj_T.ret rfl rfl rfl (Or.inl ⟨by omega, rfl⟩)
theorem mS_sum_loop {f : Int} (ka : cK a = 2) (kb : cK b = 2) (kr : cK r = 2) (ha : sml (X a)) (hb : sml (X b)) (hf : f = 1 ∨ f = -1) {Q : mj_R → Prop} (hend : ∀ (z : Int) (h : mj_H), jM g n V (xfl X r (fun e => X a e + f * X b e) 13) h → (z = 1 ∧ sml (fun e => X a e + f * X b e) ∨ z = 0 ∧ ¬ sml (fun e => X a e + f * X b e)) → Q (.inl (some (.int (jn z))), h)) : ∀ k i, i + k = 13 → ∀ (z : Int) (h : mj_H), jM g n V (xfl X r (fun e => X a e + f * X b e) i) h → (z = 1 ∧ (∀ j, j < i → (X a j + f * X b j).natAbs ≤ 999999999999999999) ∨ z = 0 ∧ ¬ (∀ j, j < i → (X a j + f * X b j).natAbs ≤ 999999999999999999)) → mj_T (D + 1) mj_m167 6 [some (.ref a), some (.ref b), some (.int (jn f)), some (.ref r), some (.int (jn z)), some (.int (jn (i : Int)))] [] h Q
  | 0, i, hi, z, h, m, hz => by
    iterate 2 refine mj_T.pl rfl rfl rfl rfl ?_
    refine mT_llen m kr rfl ?_
    refine mj_T.icmp (a := ((i : Nat) : Int)) (b := ((13 : Nat) : Int)) rfl ⟨by omega, by omega⟩ ⟨by omega, by omega⟩ (fun c1 => ?_) (fun c1 => ?_)
    · simp only [jc, Bool.not_eq_true', Bool.not_eq_false', decide_eq_true_eq, decide_eq_false_iff_not] at c1
      refine mj_T.pl rfl rfl rfl rfl ?_
      have hi13 : i = 13 := by omega
      subst hi13
      rcases hz with ⟨e, hz⟩ | ⟨e, hz⟩ <;> subst e
      · exact mj_T.ret rfl rfl rfl (hend 1 _ m (Or.inl ⟨rfl, hz⟩))
      · exact mj_T.ret rfl rfl rfl (hend 0 _ m (Or.inr ⟨rfl, hz⟩))
    · exfalso
      simp only [jc, Bool.not_eq_true', Bool.not_eq_false', decide_eq_true_eq, decide_eq_false_iff_not] at c1
      omega
  | k + 1, i, hi, z, h, m, hz => by
    have h1 := ha i (by omega)
    have h2 := hb i (by omega)
    have hfr : jr f := by rcases hf with q | q <;> subst q <;> exact ⟨by omega, by omega⟩
    have hjr : jR (X a i + f * X b i) := by rcases hf with q | q <;> subst q <;> exact ⟨by omega, by omega⟩
    have hzr : jr z := by rcases hz with ⟨q, _⟩ | ⟨q, _⟩ <;> subst q <;> exact ⟨by omega, by omega⟩
    iterate 2 refine mj_T.pl rfl rfl rfl rfl ?_
    refine mT_llen m kr rfl ?_
    refine mj_T.icmp (a := ((i : Nat) : Int)) (b := ((13 : Nat) : Int)) rfl ⟨by omega, by omega⟩ ⟨by omega, by omega⟩ (fun c1 => ?_) (fun c1 => ?_)
    · exfalso
      simp only [jc, Bool.not_eq_true', Bool.not_eq_false', decide_eq_true_eq, decide_eq_false_iff_not] at c1
      omega
    · simp only [jc, Bool.not_eq_true', Bool.not_eq_false', decide_eq_true_eq, decide_eq_false_iff_not] at c1
      iterate 2 refine mj_T.pl rfl rfl rfl rfl ?_
      refine mT_llen m ka rfl ?_
      refine mj_T.icmp (a := ((i : Nat) : Int)) (b := ((13 : Nat) : Int)) rfl ⟨by omega, by omega⟩ ⟨by omega, by omega⟩ (fun c2 => ?_) (fun c2 => ?_)
      · exfalso
        simp only [jc, Bool.not_eq_true', Bool.not_eq_false', decide_eq_true_eq, decide_eq_false_iff_not] at c2
        omega
      · simp only [jc, Bool.not_eq_true', Bool.not_eq_false', decide_eq_true_eq, decide_eq_false_iff_not] at c2
        iterate 2 refine mj_T.pl rfl rfl rfl rfl ?_
        refine mT_llen m kb rfl ?_
        refine mj_T.icmp (a := ((i : Nat) : Int)) (b := ((13 : Nat) : Int)) rfl ⟨by omega, by omega⟩ ⟨by omega, by omega⟩ (fun c3 => ?_) (fun c3 => ?_)
        · exfalso
          simp only [jc, Bool.not_eq_true', Bool.not_eq_false', decide_eq_true_eq, decide_eq_false_iff_not] at c3
          omega
        · simp only [jc, Bool.not_eq_true', Bool.not_eq_false', decide_eq_true_eq, decide_eq_false_iff_not] at c3
          iterate 4 refine mj_T.pl rfl rfl rfl rfl ?_
          refine mT_lald m ka rfl ⟨by omega, by omega⟩ ?_
          refine mj_T.eq (st2 := [.long (jl ((xfl X r (fun e => X a e + f * X b e) i) a i)), .int (jn ((i : Nat) : Int)), .ref r]) ?_ rfl rfl rfl rfl
          refine mj_T.pl rfl rfl rfl rfl ?_
          refine mj_T.i2l rfl ⟨by omega, by omega⟩ ?_
          iterate 2 refine mj_T.pl rfl rfl rfl rfl ?_
          refine mT_lald m kb rfl ⟨by omega, by omega⟩ ?_
          refine mj_T.eq (st2 := [.long (jl ((xfl X r (fun e => X a e + f * X b e) i) b i)), .long (jl f), .long (jl ((xfl X r (fun e => X a e + f * X b e) i) a i)), .int (jn ((i : Nat) : Int)), .ref r]) ?_ rfl rfl rfl rfl
          refine mj_T.lmul (a := f) (b := ((xfl X r (fun e => X a e + f * X b e) i) b i)) rfl ?_
          refine mj_T.ladd (a := ((xfl X r (fun e => X a e + f * X b e) i) a i)) (b := (f * ((xfl X r (fun e => X a e + f * X b e) i) b i))) rfl ?_
          refine mT_last (v := (((xfl X r (fun e => X a e + f * X b e) i) a i) + (f * ((xfl X r (fun e => X a e + f * X b e) i) b i)))) m kr rfl ⟨by omega, by omega⟩ (fun h4 m5 => ?_)
          have m5 := m5.to (X' := (xfl X r (fun e => X a e + f * X b e) (i + 1))) rfl (xfl_full (by rw [xfl_read, xfl_read]))
          refine mj_T.pl rfl rfl rfl rfl ?_
          refine mj_T.if0 (a := z) rfl hzr (fun c6 => ?_) (fun c6 => ?_)
          · simp only [jc, Bool.not_eq_true', Bool.not_eq_false', decide_eq_true_eq, decide_eq_false_iff_not] at c6
            refine mj_T.pl rfl rfl rfl rfl ?_
            refine mj_T.pl (loc' := [some (.ref a), some (.ref b), some (.int (jn f)), some (.ref r), some (.int (jn 0)), some (.int (jn ((i : Nat) : Int)))]) rfl rfl rfl rfl ?_
            refine mj_T.iinc rfl rfl ?_
            rw [show ((i : Nat) : Int) + 1 = ((i + 1 : Nat) : Int) by omega]
            refine mj_T.eq (loc2 := [some (.ref a), some (.ref b), some (.int (jn f)), some (.ref r), some (.int (jn 0)), some (.int (jn (((i + 1) : Nat) : Int)))]) ?_ rfl rfl rfl rfl
            refine mj_T.pl rfl rfl rfl rfl ?_
            exact mS_sum_loop ka kb kr ha hb hf hend k (i + 1) (by omega) 0 _ m5 (Or.inr ⟨rfl, fun q => by
              rcases hz with ⟨hz1, _⟩ | ⟨_, hz⟩
              · omega
              · exact hz (fun j hj => q j (by omega))⟩)
          · simp only [jc, Bool.not_eq_true', Bool.not_eq_false', decide_eq_true_eq, decide_eq_false_iff_not] at c6
            iterate 2 refine mj_T.pl rfl rfl rfl rfl ?_
            refine mT_lald m5 kr rfl ⟨by omega, by omega⟩ ?_
            refine mj_T.eq (st2 := [.long (jl ((xfl X r (fun e => X a e + f * X b e) (i + 1)) r i))]) ?_ rfl rfl rfl rfl
            rw [show ((xfl X r (fun e => X a e + f * X b e) (i + 1)) r i) = X a i + f * X b i from xfl_at _ _ _ (by omega)]
            refine mj_T.call rfl rfl (Nat.le_of_ble_eq_true rfl) (Nat.le_of_ble_eq_true rfl) rfl rfl (mj_Ok.up (by omega) (mS_short (D := 0) (x := X a i + f * X b i) hjr)) (fun v g1 hq => ?_) (fun i' g1 hq => ?_)
            rotate_left
            · rcases hq with ⟨_, hq⟩ | ⟨_, hq⟩ <;> cases hq
            rcases hq with ⟨ho, hq⟩ | ⟨ho, hq⟩
            · cases hq
              refine mj_T.eq (pc2 := 55) (st2 := [.int (jn 1)]) ?_ rfl rfl rfl rfl
              refine mj_T.if0 (a := 1) rfl ⟨by omega, by omega⟩ (fun c61 => ?_) (fun c61 => ?_)
              · exfalso
                simp [jc] at c61
              · simp only [jc, Bool.not_eq_true', Bool.not_eq_false', decide_eq_true_eq, decide_eq_false_iff_not] at c61
                iterate 2 refine mj_T.pl rfl rfl rfl rfl ?_
                refine mj_T.pl (loc' := [some (.ref a), some (.ref b), some (.int (jn f)), some (.ref r), some (.int (jn 1)), some (.int (jn ((i : Nat) : Int)))]) rfl rfl rfl rfl ?_
                refine mj_T.iinc rfl rfl ?_
                rw [show ((i : Nat) : Int) + 1 = ((i + 1 : Nat) : Int) by omega]
                refine mj_T.eq (loc2 := [some (.ref a), some (.ref b), some (.int (jn f)), some (.ref r), some (.int (jn 1)), some (.int (jn (((i + 1) : Nat) : Int)))]) ?_ rfl rfl rfl rfl
                refine mj_T.pl rfl rfl rfl rfl ?_
                exact mS_sum_loop ka kb kr ha hb hf hend k (i + 1) (by omega) 1 _ m5 (Or.inl ⟨rfl, fun j hj => by
                  by_cases e : j = i
                  · rw [e]
                    exact ho
                  · rcases hz with ⟨_, hz⟩ | ⟨hz0, _⟩
                    · exact hz j (by omega)
                    · omega⟩)
            · cases hq
              refine mj_T.eq (pc2 := 55) (st2 := [.int (jn 0)]) ?_ rfl rfl rfl rfl
              refine mj_T.if0 (a := 0) rfl ⟨by omega, by omega⟩ (fun c41 => ?_) (fun c41 => ?_)
              · simp only [jc, Bool.not_eq_true', Bool.not_eq_false', decide_eq_true_eq, decide_eq_false_iff_not] at c41
                refine mj_T.pl rfl rfl rfl rfl ?_
                refine mj_T.pl (loc' := [some (.ref a), some (.ref b), some (.int (jn f)), some (.ref r), some (.int (jn 0)), some (.int (jn ((i : Nat) : Int)))]) rfl rfl rfl rfl ?_
                refine mj_T.iinc rfl rfl ?_
                rw [show ((i : Nat) : Int) + 1 = ((i + 1 : Nat) : Int) by omega]
                refine mj_T.eq (loc2 := [some (.ref a), some (.ref b), some (.int (jn f)), some (.ref r), some (.int (jn 0)), some (.int (jn (((i + 1) : Nat) : Int)))]) ?_ rfl rfl rfl rfl
                refine mj_T.pl rfl rfl rfl rfl ?_
                exact mS_sum_loop ka kb kr ha hb hf hend k (i + 1) (by omega) 0 _ m5 (Or.inr ⟨rfl, fun q => ho (q i (by omega))⟩)
              · exfalso
                simp [jc] at c41
theorem mS_sum (m : jM g n V X h) {f : Int} (ka : cK a = 2) (kb : cK b = 2) (kr : cK r = 2) (ha : sml (X a)) (hb : sml (X b)) (hf : f = 1 ∨ f = -1) : mj_Ok (D + 2) 167 [.ref a, .ref b, .int (jn f), .ref r] h (fun z => ∃ h2, jM g n V (xfl X r (fun e => X a e + f * X b e) 13) h2 ∧ ((sml (fun e => X a e + f * X b e) ∧ z = (.inl (some (.int (jn 1))), h2)) ∨ (¬ sml (fun e => X a e + f * X b e) ∧ z = (.inl (some (.int (jn 0))), h2)))) := by
  refine mj_Ok.of (M := mj_m167) rfl rfl rfl ?_
  refine mj_T.pl rfl rfl rfl rfl ?_
  refine mj_T.pl (loc' := [some (.ref a), some (.ref b), some (.int (jn f)), some (.ref r), some (.int (jn 1)), none]) rfl rfl rfl rfl ?_
  refine mj_T.pl rfl rfl rfl rfl ?_
  refine mj_T.pl (loc' := [some (.ref a), some (.ref b), some (.int (jn f)), some (.ref r), some (.int (jn 1)), some (.int (jn 0))]) rfl rfl rfl rfl ?_
  refine mS_sum_loop ka kb kr ha hb hf (fun z h1 m1 hz => ?_) 13 0 (by omega) 1 _ (m.to rfl (xfl_zero _ _ _)) (Or.inl ⟨rfl, fun j hj => absurd hj (by omega)⟩)
  rcases hz with ⟨e, hz⟩ | ⟨e, hz⟩ <;> subst e
  · exact ⟨_, m1, Or.inl ⟨hz, rfl⟩⟩
  · exact ⟨_, m1, Or.inr ⟨hz, rfl⟩⟩
end MSV
