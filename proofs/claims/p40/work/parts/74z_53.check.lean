/-! The class: what is thrown, registers, checks. -/
/-- the cell of what was thrown -/
abbrev xE : mj_E := .inr (99, [.null, .null, .null, .null, .null, .null])
theorem cq_d1 : cK 1 = 19 := by decide +kernel
theorem cq_l12 : cL 12 = 8 := by decide +kernel
theorem cq_eb : ∀ e, e < 8 → cK (483 + 10 * e) = 10 := by decide +kernel
theorem jMk_mono {V : Nat → Int} {X : Nat → Nat → Int} {h h' : mj_H} {k a : Nat} (hm : ∀ (x : Nat) (e : mj_E), h[x]? = some e → h'[x]? = some e) (q : jMk V X h k a) : jMk V X h' k a := by
  unfold jMk at q ⊢
  by_cases k0 : k = 0
  · rw [if_pos k0]
    trivial
  rw [if_neg k0] at q ⊢
  by_cases k18 : k = 18
  · rw [if_pos k18] at q ⊢
    obtain ⟨⟨q1, s0, g0, hs, a1, a2⟩, q2⟩ := q
    refine ⟨⟨q1, s0, g0, hs, hm _ _ a1, hm _ _ a2⟩, fun y => ?_⟩
    obtain ⟨f, b1, b2, b3, b4⟩ := q2 y
    exact ⟨f, hm _ _ b1, hm _ _ b2, b3, b4⟩
  rw [if_neg k18] at q ⊢
  by_cases k12 : k = 12
  · rw [if_pos k12] at q ⊢
    obtain ⟨⟨q1, s0, g0, f0, hs, a1, a2⟩, q2⟩ := q
    refine ⟨⟨q1, s0, g0, f0, hs, hm _ _ a1, hm _ _ a2⟩, fun y => ?_⟩
    obtain ⟨f, b1, b2, b3, b4⟩ := q2 y
    exact ⟨f, hm _ _ b1, hm _ _ b2, b3, b4⟩
  rw [if_neg k12] at q ⊢
  by_cases k1 : k = 1
  · rw [if_pos k1] at q ⊢
    rcases q with q | q
    · exact Or.inl q
    · exact Or.inr (hm _ _ q)
  rw [if_neg k1] at q ⊢
  by_cases k2 : k = 2
  · rw [if_pos k2] at q ⊢
    exact hm _ _ q
  rw [if_neg k2] at q ⊢
  by_cases k3 : k = 3
  · rw [if_pos k3] at q ⊢
    exact hm _ _ q
  rw [if_neg k3] at q ⊢
  by_cases k7 : k ≤ 7
  · rw [if_pos k7] at q ⊢
    obtain ⟨f, a1, a2⟩ := q
    exact ⟨f, hm _ _ a1, a2⟩
  rw [if_neg k7] at q ⊢
  exact hm _ _ q
theorem jM.app {g h : mj_H} {n : Nat} {V : Nat → Int} {X : Nat → Nat → Int} (m : jM g n V X h) (hg : g.length ≤ n) : jM g (n + 1) V X (h ++ [xE]) := by
  have hm : ∀ (x : Nat) (e : mj_E), h[x]? = some e → (h ++ [xE])[x]? = some e := fun x e hx => by
    rw [List.getElem?_append_left (List.getElem?_eq_some_iff.mp hx).1]
    exact hx
  refine ⟨by rw [List.length_append, m.1]; rfl, fun b hb => ⟨fun hb2 => ?_, fun h1 h2 => ?_⟩, fun a => jMk_mono hm (m.2.2 a)⟩
  · rw [List.getElem?_append_left (by rw [m.1]; omega)]
    exact (m.2.1 b hb).1 hb2
  · by_cases c : b < n
    · rw [List.getElem?_append_left (by rw [m.1]; exact c)]
      exact (m.2.1 b hb).2 h1 c
    · have c2 : b = h.length := by rw [m.1]; omega
      subst c2
      rw [List.getElem?_append_right (Nat.le_refl _), Nat.sub_self]
      rfl
/-- a prime up to 97 -/
def prm (p : Int) : Prop := (2 ≤ p ∧ p ≤ 97) ∧ ∀ e : Nat, 2 ≤ e → e < 10 → p = e ∨ p.tmod e ≠ 0
section MCH
variable {g h : mj_H} {n D : Nat} {V : Nat → Int} {X : Nat → Nat → Int}
theorem mC_rowOf (m : jM g n V X h) {i : Int} (hi : -2147483648 ≤ i ∧ i ≤ 2147483647) : mj_Ok (D + 1) 149 [.ref 1, .int (jn i)] h (fun z => ((0 ≤ i ∧ i ≤ 5) ∧ z = (.inl (some (.ref (4 + i.toNat))), h)) ∨ (¬ (0 ≤ i ∧ i ≤ 5) ∧ z = (.inr 0, h ++ [xE]))) := by
  have l2 := (mK_b cq_d2).2.1
  refine mj_Ok.of (M := mj_m149) rfl rfl rfl ?_
  refine mj_T.pl rfl rfl rfl rfl ?_
  refine mj_T.if0 (a := i) rfl ⟨by omega, by omega⟩ (fun c1 => ?_) (fun c1 => ?_)
  · simp only [jc, Bool.not_eq_true', Bool.not_eq_false', decide_eq_true_eq, decide_eq_false_iff_not] at c1
    exact mj_T.throws rfl rfl rfl (Nat.le_of_ble_eq_true rfl) (Or.inr ⟨by omega, rfl⟩)
  · simp only [jc, Bool.not_eq_true', Bool.not_eq_false', decide_eq_true_eq, decide_eq_false_iff_not] at c1
    iterate 2 refine mj_T.pl rfl rfl rfl rfl ?_
    refine mT_get m 19 cq_d1 (by decide) rfl rfl ?_
    refine mT_get m 10 cq_d2 (by decide) rfl rfl ?_
    refine mT_alen m 6 (mK_b cq_d2).1 (by decide) rfl ?_
    rw [(mK_b cq_d2).2.1]
    refine mj_T.icmp (a := i) (b := ((6 : Nat) : Int)) rfl ⟨by omega, by omega⟩ ⟨by omega, by omega⟩ (fun c2 => ?_) (fun c2 => ?_)
    · simp only [jc, Bool.not_eq_true', Bool.not_eq_false', decide_eq_true_eq, decide_eq_false_iff_not] at c2
      refine mj_T.pl rfl rfl rfl rfl ?_
      refine mT_get m 19 cq_d1 (by decide) rfl rfl ?_
      refine mT_get m 10 cq_d2 (by decide) rfl rfl ?_
      refine mj_T.pl rfl rfl rfl rfl ?_
      refine mT_aald m 6 (mK_b cq_d2).1 (by decide) rfl rfl (by omega) ⟨by omega, by omega⟩ ?_
      refine mj_T.eq (st2 := [.ref (4 + i.toNat)]) ?_ rfl rfl rfl rfl
      exact mj_T.ret rfl rfl rfl (Or.inl ⟨⟨by omega, by omega⟩, rfl⟩)
    · simp only [jc, Bool.not_eq_true', Bool.not_eq_false', decide_eq_true_eq, decide_eq_false_iff_not] at c2
      exact mj_T.throws rfl rfl rfl (Nat.le_of_ble_eq_true rfl) (Or.inr ⟨by omega, rfl⟩)
theorem mC_exponent {i : Int} (hi : -2147483648 ≤ i ∧ i ≤ 2147483647) : mj_Ok (D + 1) 150 [.int (jn i)] h (fun z => ((0 ≤ i ∧ i ≤ 12) ∧ z = (.inl none, h)) ∨ (¬ (0 ≤ i ∧ i ≤ 12) ∧ z = (.inr 2, h ++ [xE]))) := by
  refine mj_Ok.of (M := mj_m150) rfl rfl rfl ?_
  refine mj_T.pl rfl rfl rfl rfl ?_
  refine mj_T.if0 (a := i) rfl ⟨by omega, by omega⟩ (fun c1 => ?_) (fun c1 => ?_)
  · simp only [jc, Bool.not_eq_true', Bool.not_eq_false', decide_eq_true_eq, decide_eq_false_iff_not] at c1
    exact mj_T.throws rfl rfl rfl (Nat.le_of_ble_eq_true rfl) (Or.inr ⟨by omega, rfl⟩)
  · simp only [jc, Bool.not_eq_true', Bool.not_eq_false', decide_eq_true_eq, decide_eq_false_iff_not] at c1
    iterate 2 refine mj_T.pl rfl rfl rfl rfl ?_
    refine mj_T.icmp (a := i) (b := 12) rfl ⟨by omega, by omega⟩ ⟨by omega, by omega⟩ (fun c2 => ?_) (fun c2 => ?_)
    · simp only [jc, Bool.not_eq_true', Bool.not_eq_false', decide_eq_true_eq, decide_eq_false_iff_not] at c2
      exact mj_T.ret rfl rfl rfl (Or.inl ⟨by omega, rfl⟩)
    · simp only [jc, Bool.not_eq_true', Bool.not_eq_false', decide_eq_true_eq, decide_eq_false_iff_not] at c2
      exact mj_T.throws rfl rfl rfl (Nat.le_of_ble_eq_true rfl) (Or.inr ⟨by omega, rfl⟩)
theorem mC_fraction {i j : Int} (hi : -2147483648 ≤ i ∧ i ≤ 2147483647) (hj : -2147483648 ≤ j ∧ j ≤ 2147483647) : mj_Ok (D + 1) 151 [.int (jn i), .int (jn j)] h (fun z => (((-1000 ≤ i ∧ i ≤ 1000) ∧ (1 ≤ j ∧ j ≤ 1000)) ∧ z = (.inl none, h)) ∨ (¬ ((-1000 ≤ i ∧ i ≤ 1000) ∧ (1 ≤ j ∧ j ≤ 1000)) ∧ z = (.inr 2, h ++ [xE]))) := by
  refine mj_Ok.of (M := mj_m151) rfl rfl rfl ?_
  iterate 2 refine mj_T.pl rfl rfl rfl rfl ?_
  refine mj_T.icmp (a := i) (b := (-1000)) rfl ⟨by omega, by omega⟩ ⟨by omega, by omega⟩ (fun c1 => ?_) (fun c1 => ?_)
  · simp only [jc, Bool.not_eq_true', Bool.not_eq_false', decide_eq_true_eq, decide_eq_false_iff_not] at c1
    exact mj_T.throws rfl rfl rfl (Nat.le_of_ble_eq_true rfl) (Or.inr ⟨by omega, rfl⟩)
  · simp only [jc, Bool.not_eq_true', Bool.not_eq_false', decide_eq_true_eq, decide_eq_false_iff_not] at c1
    iterate 2 refine mj_T.pl rfl rfl rfl rfl ?_
    refine mj_T.icmp (a := i) (b := 1000) rfl ⟨by omega, by omega⟩ ⟨by omega, by omega⟩ (fun c2 => ?_) (fun c2 => ?_)
    · simp only [jc, Bool.not_eq_true', Bool.not_eq_false', decide_eq_true_eq, decide_eq_false_iff_not] at c2
      exact mj_T.throws rfl rfl rfl (Nat.le_of_ble_eq_true rfl) (Or.inr ⟨by omega, rfl⟩)
    · simp only [jc, Bool.not_eq_true', Bool.not_eq_false', decide_eq_true_eq, decide_eq_false_iff_not] at c2
      iterate 2 refine mj_T.pl rfl rfl rfl rfl ?_
      refine mj_T.icmp (a := j) (b := 1) rfl ⟨by omega, by omega⟩ ⟨by omega, by omega⟩ (fun c3 => ?_) (fun c3 => ?_)
      · simp only [jc, Bool.not_eq_true', Bool.not_eq_false', decide_eq_true_eq, decide_eq_false_iff_not] at c3
        exact mj_T.throws rfl rfl rfl (Nat.le_of_ble_eq_true rfl) (Or.inr ⟨by omega, rfl⟩)
      · simp only [jc, Bool.not_eq_true', Bool.not_eq_false', decide_eq_true_eq, decide_eq_false_iff_not] at c3
        iterate 2 refine mj_T.pl rfl rfl rfl rfl ?_
        refine mj_T.icmp (a := j) (b := 1000) rfl ⟨by omega, by omega⟩ ⟨by omega, by omega⟩ (fun c4 => ?_) (fun c4 => ?_)
        · simp only [jc, Bool.not_eq_true', Bool.not_eq_false', decide_eq_true_eq, decide_eq_false_iff_not] at c4
          exact mj_T.ret rfl rfl rfl (Or.inl ⟨by omega, rfl⟩)
        · simp only [jc, Bool.not_eq_true', Bool.not_eq_false', decide_eq_true_eq, decide_eq_false_iff_not] at c4
          exact mj_T.throws rfl rfl rfl (Nat.le_of_ble_eq_true rfl) (Or.inr ⟨by omega, rfl⟩)
theorem mC_zero (m : jM g n V X h) {r : Nat} (kr : cK r = 2) (hr : sml (X r)) : mj_Ok (D + 2) 153 [.ref r] h (fun z => ((0 < fdg (X r) 13) ∧ z = (.inl none, h)) ∨ (¬ (0 < fdg (X r) 13) ∧ z = (.inr 3, h ++ [xE]))) := by
  have hf := fdg_le (X r) 13
  refine mj_Ok.of (M := mj_m153) rfl rfl rfl ?_
  refine mj_T.pl rfl rfl rfl rfl ?_
  refine mj_T.call rfl rfl (Nat.le_of_ble_eq_true rfl) (Nat.le_of_ble_eq_true rfl) rfl rfl (mj_Ok.up (by omega) (mS_deg (D := 0) m kr hr)) (fun v g1 hq => ?_) (fun i g1 hq => ?_)
  rotate_left
  · cases hq
  cases hq
  refine mj_T.eq (pc2 := 4) (st2 := [.int (jn ((fdg (X r) 13 : Int) - 1))]) ?_ rfl rfl rfl rfl
  refine mj_T.if0 (a := ((fdg (X r) 13 : Int) - 1)) rfl ⟨by omega, by omega⟩ (fun c2 => ?_) (fun c2 => ?_)
  · simp only [jc, Bool.not_eq_true', Bool.not_eq_false', decide_eq_true_eq, decide_eq_false_iff_not] at c2
    exact mj_T.ret rfl rfl rfl (Or.inl ⟨by omega, rfl⟩)
  · simp only [jc, Bool.not_eq_true', Bool.not_eq_false', decide_eq_true_eq, decide_eq_false_iff_not] at c2
    exact mj_T.throws rfl rfl rfl (Nat.le_of_ble_eq_true rfl) (Or.inr ⟨by omega, rfl⟩)
theorem mC_prime0 {p : Int} (hp : -2147483648 ≤ p ∧ p ≤ 2147483647) (hn : ¬ prm p) : ∀ k i : Nat, i + k = 10 → mj_T D mj_m152 19 [some (.int (jn p)), some (.int (jn 0)), some (.int (jn (i : Int)))] [] h (fun z => (prm p ∧ z = (.inl none, h)) ∨ (¬ prm p ∧ z = (.inr 2, h ++ [xE])))
  | 0, i, hi => by
    have h9 : i ≤ 9 → i * i ≤ 81 := fun q => Nat.mul_le_mul q q
    have h10 : 10 ≤ i → 100 ≤ i * i := fun q => Nat.mul_le_mul q q
    have h11 : i * i ≤ 10 * 10 := Nat.mul_le_mul (by omega) (by omega)
    iterate 2 refine mj_T.pl rfl rfl rfl rfl ?_
    refine mj_T.imul (a := ((i : Nat) : Int)) (b := ((i : Nat) : Int)) rfl ?_
    refine mj_T.pl rfl rfl rfl rfl ?_
    refine mj_T.icmp (a := (((i : Nat) : Int) * ((i : Nat) : Int))) (b := 97) rfl ⟨by omega, by omega⟩ ⟨by omega, by omega⟩ (fun c1 => ?_) (fun c1 => ?_)
    · simp only [jc, Bool.not_eq_true', Bool.not_eq_false', decide_eq_true_eq, decide_eq_false_iff_not] at c1
      refine mj_T.pl rfl rfl rfl rfl ?_
      refine mj_T.if0 (a := 0) rfl ⟨by omega, by omega⟩ (fun c2 => ?_) (fun c2 => ?_)
      · exfalso
        simp [jc] at c2
      · simp only [jc, Bool.not_eq_true', Bool.not_eq_false', decide_eq_true_eq, decide_eq_false_iff_not] at c2
        exact mj_T.throws rfl rfl rfl (Nat.le_of_ble_eq_true rfl) (Or.inr ⟨hn, rfl⟩)
    · exfalso
      simp only [jc, Bool.not_eq_true', Bool.not_eq_false', decide_eq_true_eq, decide_eq_false_iff_not] at c1
      omega
  | k + 1, i, hi => by
    have h9 : i ≤ 9 → i * i ≤ 81 := fun q => Nat.mul_le_mul q q
    have h10 : 10 ≤ i → 100 ≤ i * i := fun q => Nat.mul_le_mul q q
    have h11 : i * i ≤ 10 * 10 := Nat.mul_le_mul (by omega) (by omega)
    iterate 2 refine mj_T.pl rfl rfl rfl rfl ?_
    refine mj_T.imul (a := ((i : Nat) : Int)) (b := ((i : Nat) : Int)) rfl ?_
    refine mj_T.pl rfl rfl rfl rfl ?_
    refine mj_T.icmp (a := (((i : Nat) : Int) * ((i : Nat) : Int))) (b := 97) rfl ⟨by omega, by omega⟩ ⟨by omega, by omega⟩ (fun c1 => ?_) (fun c1 => ?_)
    · exfalso
      simp only [jc, Bool.not_eq_true', Bool.not_eq_false', decide_eq_true_eq, decide_eq_false_iff_not] at c1
      omega
    · simp only [jc, Bool.not_eq_true', Bool.not_eq_false', decide_eq_true_eq, decide_eq_false_iff_not] at c1
      refine mj_T.pl rfl rfl rfl rfl ?_
      refine mj_T.if0 (a := 0) rfl ⟨by omega, by omega⟩ (fun c2 => ?_) (fun c2 => ?_)
      · simp only [jc, Bool.not_eq_true', Bool.not_eq_false', decide_eq_true_eq, decide_eq_false_iff_not] at c2
        refine mj_T.pl rfl rfl rfl rfl ?_
        refine mj_T.pl (loc' := [some (.int (jn p)), some (.int (jn 0)), some (.int (jn ((i : Nat) : Int)))]) rfl rfl rfl rfl ?_
        refine mj_T.iinc rfl rfl ?_
        rw [show ((i : Nat) : Int) + 1 = ((i + 1 : Nat) : Int) by omega]
        refine mj_T.eq (loc2 := [some (.int (jn p)), some (.int (jn 0)), some (.int (jn (((i + 1) : Nat) : Int)))]) ?_ rfl rfl rfl rfl
        refine mj_T.pl rfl rfl rfl rfl ?_
        exact mC_prime0 hp hn k (i + 1) (by omega)
      · exfalso
        simp [jc] at c2
theorem mC_prime1 {p : Int} (hp : -2147483648 ≤ p ∧ p ≤ 2147483647) (h2 : 2 ≤ p ∧ p ≤ 97) : ∀ k i : Nat, i + k = 10 → 2 ≤ i → (∀ e : Nat, 2 ≤ e → e < i → p = e ∨ p.tmod e ≠ 0) → mj_T D mj_m152 19 [some (.int (jn p)), some (.int (jn 1)), some (.int (jn (i : Int)))] [] h (fun z => (prm p ∧ z = (.inl none, h)) ∨ (¬ prm p ∧ z = (.inr 2, h ++ [xE])))
  | 0, i, hi, hi2, hy => by
    have h9 : i ≤ 9 → i * i ≤ 81 := fun q => Nat.mul_le_mul q q
    have h10 : 10 ≤ i → 100 ≤ i * i := fun q => Nat.mul_le_mul q q
    have h11 : i * i ≤ 10 * 10 := Nat.mul_le_mul (by omega) (by omega)
    iterate 2 refine mj_T.pl rfl rfl rfl rfl ?_
    refine mj_T.imul (a := ((i : Nat) : Int)) (b := ((i : Nat) : Int)) rfl ?_
    refine mj_T.pl rfl rfl rfl rfl ?_
    refine mj_T.icmp (a := (((i : Nat) : Int) * ((i : Nat) : Int))) (b := 97) rfl ⟨by omega, by omega⟩ ⟨by omega, by omega⟩ (fun c1 => ?_) (fun c1 => ?_)
    · simp only [jc, Bool.not_eq_true', Bool.not_eq_false', decide_eq_true_eq, decide_eq_false_iff_not] at c1
      refine mj_T.pl rfl rfl rfl rfl ?_
      refine mj_T.if0 (a := 1) rfl ⟨by omega, by omega⟩ (fun c2 => ?_) (fun c2 => ?_)
      · simp only [jc, Bool.not_eq_true', Bool.not_eq_false', decide_eq_true_eq, decide_eq_false_iff_not] at c2
        exact mj_T.ret rfl rfl rfl (Or.inl ⟨⟨h2, fun e y1 y2 => hy e y1 (by omega)⟩, rfl⟩)
      · exfalso
        simp [jc] at c2
    · exfalso
      simp only [jc, Bool.not_eq_true', Bool.not_eq_false', decide_eq_true_eq, decide_eq_false_iff_not] at c1
      omega
  | k + 1, i, hi, hi2, hy => by
    have h9 : i ≤ 9 → i * i ≤ 81 := fun q => Nat.mul_le_mul q q
    have h10 : 10 ≤ i → 100 ≤ i * i := fun q => Nat.mul_le_mul q q
    have h11 : i * i ≤ 10 * 10 := Nat.mul_le_mul (by omega) (by omega)
    have t1 := Int.tmod_nonneg (i : Int) (show 0 ≤ p by omega)
    have t2 := Int.tmod_lt_of_pos p (show (0 : Int) < (i : Int) by omega)
    iterate 2 refine mj_T.pl rfl rfl rfl rfl ?_
    refine mj_T.imul (a := ((i : Nat) : Int)) (b := ((i : Nat) : Int)) rfl ?_
    refine mj_T.pl rfl rfl rfl rfl ?_
    refine mj_T.icmp (a := (((i : Nat) : Int) * ((i : Nat) : Int))) (b := 97) rfl ⟨by omega, by omega⟩ ⟨by omega, by omega⟩ (fun c1 => ?_) (fun c1 => ?_)
    · exfalso
      simp only [jc, Bool.not_eq_true', Bool.not_eq_false', decide_eq_true_eq, decide_eq_false_iff_not] at c1
      omega
    · simp only [jc, Bool.not_eq_true', Bool.not_eq_false', decide_eq_true_eq, decide_eq_false_iff_not] at c1
      refine mj_T.pl rfl rfl rfl rfl ?_
      refine mj_T.if0 (a := 1) rfl ⟨by omega, by omega⟩ (fun c2 => ?_) (fun c2 => ?_)
      · exfalso
        simp [jc] at c2
      · simp only [jc, Bool.not_eq_true', Bool.not_eq_false', decide_eq_true_eq, decide_eq_false_iff_not] at c2
        iterate 2 refine mj_T.pl rfl rfl rfl rfl ?_
        refine mj_T.icmp (a := p) (b := ((i : Nat) : Int)) rfl ⟨by omega, by omega⟩ ⟨by omega, by omega⟩ (fun c3 => ?_) (fun c3 => ?_)
        · simp only [jc, Bool.not_eq_true', Bool.not_eq_false', decide_eq_true_eq, decide_eq_false_iff_not] at c3
          iterate 2 refine mj_T.pl rfl rfl rfl rfl ?_
          refine mj_T.pl (loc' := [some (.int (jn p)), some (.int (jn 1)), some (.int (jn ((i : Nat) : Int)))]) rfl rfl rfl rfl ?_
          refine mj_T.iinc rfl rfl ?_
          rw [show ((i : Nat) : Int) + 1 = ((i + 1 : Nat) : Int) by omega]
          refine mj_T.eq (loc2 := [some (.int (jn p)), some (.int (jn 1)), some (.int (jn (((i + 1) : Nat) : Int)))]) ?_ rfl rfl rfl rfl
          refine mj_T.pl rfl rfl rfl rfl ?_
          refine mC_prime1 hp h2 k (i + 1) (by omega) (by omega) (fun e y1 y2 => ?_)
          by_cases q : e = i
          · subst q
            first
            | exact Or.inl (by omega)
            | exact Or.inr (by omega)
          · exact hy e y1 (by omega)
        · simp only [jc, Bool.not_eq_true', Bool.not_eq_false', decide_eq_true_eq, decide_eq_false_iff_not] at c3
          iterate 2 refine mj_T.pl rfl rfl rfl rfl ?_
          refine mj_T.irem rfl ⟨by omega, by omega⟩ ⟨by omega, by omega⟩ (by omega) ?_
          refine mj_T.if0 (a := (p.tmod ((i : Nat) : Int))) rfl ⟨by omega, by omega⟩ (fun c4 => ?_) (fun c4 => ?_)
          · simp only [jc, Bool.not_eq_true', Bool.not_eq_false', decide_eq_true_eq, decide_eq_false_iff_not] at c4
            refine mj_T.pl rfl rfl rfl rfl ?_
            refine mj_T.pl (loc' := [some (.int (jn p)), some (.int (jn 0)), some (.int (jn ((i : Nat) : Int)))]) rfl rfl rfl rfl ?_
            refine mj_T.iinc rfl rfl ?_
            rw [show ((i : Nat) : Int) + 1 = ((i + 1 : Nat) : Int) by omega]
            refine mj_T.eq (loc2 := [some (.int (jn p)), some (.int (jn 0)), some (.int (jn (((i + 1) : Nat) : Int)))]) ?_ rfl rfl rfl rfl
            refine mj_T.pl rfl rfl rfl rfl ?_
            refine mC_prime0 hp (fun y => ?_) k (i + 1) (by omega)
            rcases y.2 i (by omega) (by omega) with y | y
            · omega
            · exact y (by omega)
          · simp only [jc, Bool.not_eq_true', Bool.not_eq_false', decide_eq_true_eq, decide_eq_false_iff_not] at c4
            iterate 2 refine mj_T.pl rfl rfl rfl rfl ?_
            refine mj_T.pl (loc' := [some (.int (jn p)), some (.int (jn 1)), some (.int (jn ((i : Nat) : Int)))]) rfl rfl rfl rfl ?_
            refine mj_T.iinc rfl rfl ?_
            rw [show ((i : Nat) : Int) + 1 = ((i + 1 : Nat) : Int) by omega]
            refine mj_T.eq (loc2 := [some (.int (jn p)), some (.int (jn 1)), some (.int (jn (((i + 1) : Nat) : Int)))]) ?_ rfl rfl rfl rfl
            refine mj_T.pl rfl rfl rfl rfl ?_
            refine mC_prime1 hp h2 k (i + 1) (by omega) (by omega) (fun e y1 y2 => ?_)
            by_cases q : e = i
            · subst q
              first
              | exact Or.inl (by omega)
              | exact Or.inr (by omega)
            · exact hy e y1 (by omega)
theorem mC_prime {p : Int} (hp : -2147483648 ≤ p ∧ p ≤ 2147483647) : mj_Ok (D + 1) 152 [.int (jn p)] h (fun z => (prm p ∧ z = (.inl none, h)) ∨ (¬ prm p ∧ z = (.inr 2, h ++ [xE]))) := by
  refine mj_Ok.of (M := mj_m152) rfl rfl rfl ?_
  iterate 2 refine mj_T.pl rfl rfl rfl rfl ?_
  refine mj_T.icmp (a := p) (b := 2) rfl ⟨by omega, by omega⟩ ⟨by omega, by omega⟩ (fun c1 => ?_) (fun c1 => ?_)
  · simp only [jc, Bool.not_eq_true', Bool.not_eq_false', decide_eq_true_eq, decide_eq_false_iff_not] at c1
    refine mj_T.pl rfl rfl rfl rfl ?_
    refine mj_T.pl (loc' := [some (.int (jn p)), some (.int (jn 0)), none]) rfl rfl rfl rfl ?_
    refine mj_T.pl rfl rfl rfl rfl ?_
    refine mj_T.pl (loc' := [some (.int (jn p)), some (.int (jn 0)), some (.int (jn 2))]) rfl rfl rfl rfl ?_
    exact mC_prime0 hp (fun y => by have := y.1; omega) 8 2 rfl
  · simp only [jc, Bool.not_eq_true', Bool.not_eq_false', decide_eq_true_eq, decide_eq_false_iff_not] at c1
    iterate 2 refine mj_T.pl rfl rfl rfl rfl ?_
    refine mj_T.icmp (a := p) (b := 97) rfl ⟨by omega, by omega⟩ ⟨by omega, by omega⟩ (fun c2 => ?_) (fun c2 => ?_)
    · simp only [jc, Bool.not_eq_true', Bool.not_eq_false', decide_eq_true_eq, decide_eq_false_iff_not] at c2
      refine mj_T.pl rfl rfl rfl rfl ?_
      refine mj_T.pl (loc' := [some (.int (jn p)), some (.int (jn 0)), none]) rfl rfl rfl rfl ?_
      refine mj_T.pl rfl rfl rfl rfl ?_
      refine mj_T.pl (loc' := [some (.int (jn p)), some (.int (jn 0)), some (.int (jn 2))]) rfl rfl rfl rfl ?_
      exact mC_prime0 hp (fun y => by have := y.1; omega) 8 2 rfl
    · simp only [jc, Bool.not_eq_true', Bool.not_eq_false', decide_eq_true_eq, decide_eq_false_iff_not] at c2
      iterate 2 refine mj_T.pl rfl rfl rfl rfl ?_
      refine mj_T.pl (loc' := [some (.int (jn p)), some (.int (jn 1)), none]) rfl rfl rfl rfl ?_
      refine mj_T.pl rfl rfl rfl rfl ?_
      refine mj_T.pl (loc' := [some (.int (jn p)), some (.int (jn 1)), some (.int (jn 2))]) rfl rfl rfl rfl ?_
      exact mC_prime1 hp ⟨by omega, by omega⟩ 8 2 rfl (by decide) (fun e y1 y2 => absurd y1 (by omega))
theorem mC_earlier (m : jM g n V X h) {e : Nat} (he : e < 8) (h3 : X 1 3 = (e : Int)) : mj_Ok (D + 1) 155 [.ref 1] h (fun z => z = (.inl (some (.ref (483 + 10 * e))), h)) := by
  have l12 := cq_l12
  refine mj_Ok.of (M := mj_m155) rfl rfl rfl ?_
  refine mj_T.pl rfl rfl rfl rfl ?_
  refine mT_get m 19 cq_d1 (by decide) rfl rfl ?_
  refine mj_T.pl rfl rfl rfl rfl ?_
  refine mT_get (v := .int (jn ((e : Nat) : Int))) m 19 cq_d1 (by decide) rfl (congrArg (fun z : Int => some (Value.int (jn z))) (h3)) ?_
  refine mj_T.if0 (a := ((e : Nat) : Int)) rfl ⟨by omega, by omega⟩ (fun c1 => ?_) (fun c1 => ?_)
  · exfalso
    simp only [jc, Bool.not_eq_true', Bool.not_eq_false', decide_eq_true_eq, decide_eq_false_iff_not] at c1
    omega
  · simp only [jc, Bool.not_eq_true', Bool.not_eq_false', decide_eq_true_eq, decide_eq_false_iff_not] at c1
    refine mj_T.pl rfl rfl rfl rfl ?_
    refine mT_get (v := .int (jn ((e : Nat) : Int))) m 19 cq_d1 (by decide) rfl (congrArg (fun z : Int => some (Value.int (jn z))) (h3)) ?_
    refine mj_T.pl rfl rfl rfl rfl ?_
    refine mT_get m 19 cq_d1 (by decide) rfl rfl ?_
    refine mT_alen m 7 cq_d12 (by decide) rfl ?_
    rw [cq_l12]
    refine mj_T.icmp (a := ((e : Nat) : Int)) (b := ((8 : Nat) : Int)) rfl ⟨by omega, by omega⟩ ⟨by omega, by omega⟩ (fun c2 => ?_) (fun c2 => ?_)
    · exfalso
      simp only [jc, Bool.not_eq_true', Bool.not_eq_false', decide_eq_true_eq, decide_eq_false_iff_not] at c2
      omega
    · simp only [jc, Bool.not_eq_true', Bool.not_eq_false', decide_eq_true_eq, decide_eq_false_iff_not] at c2
      refine mj_T.pl rfl rfl rfl rfl ?_
      refine mT_get (v := .int (jn ((e : Nat) : Int))) m 19 cq_d1 (by decide) rfl (congrArg (fun z : Int => some (Value.int (jn z))) (h3)) ?_
      refine mj_T.pl rfl rfl rfl rfl ?_
      refine mT_aald m 7 cq_d12 (by decide) rfl rfl (by omega) ⟨by omega, by omega⟩ ?_
      refine mj_T.eq (st2 := [.ref (483 + 10 * e)]) ?_ rfl rfl rfl rfl
      exact mj_T.ret rfl rfl rfl rfl
/-- bench a holds what bench o held -/
def cpB (X : Nat → Nat → Int) (o : Nat) (X2 : Nat → Nat → Int) (a : Nat) : Prop := (∀ i, i < 6 → ∀ j, j < 13 → X2 (a + 2 + i) j = X (o + 2 + i) j) ∧ X2 a 3 = X o 3 ∧ (∀ k : Nat, (k : Int) < X o 3 → X2 (a + 8) k = X (o + 8) k ∧ X2 (a + 9) k = X (o + 9) k)
/-- what keepEarlier does: e the place of the next, u the undoable -/
def kpE (X X2 : Nat → Nat → Int) (e u : Nat) : Prop := cpB X 2 X2 (483 + 10 * e) ∧ (∀ c, (c < 483 + 10 * e ∨ 493 + 10 * e ≤ c) → c ≠ 1 → X2 c = X c) ∧ X2 1 3 = (((e + 1) % 8 : Nat) : Int) ∧ X2 1 2 = ((if u < 8 then u + 1 else 8 : Nat) : Int) ∧ X2 1 15 = X 1 15
theorem mC_keepE (m : jM g n V X h) {e u p : Nat} (he : e < 8) (hu : u ≤ 8) (h3 : X 1 3 = (e : Int)) (h2 : X 1 2 = (u : Int)) (hp : PT X 2 p) : mj_Ok (D + 4) 156 [.ref 1] h (fun z => ∃ (X2 : Nat → Nat → Int) (h2 : mj_H), jM g n V X2 h2 ∧ kpE X X2 e u ∧ z = (.inl none, h2)) := by
  refine mj_Ok.of (M := mj_m156) rfl rfl rfl ?_
  refine mj_T.pl rfl rfl rfl rfl ?_
  refine mj_T.call rfl rfl (Nat.le_of_ble_eq_true rfl) (Nat.le_of_ble_eq_true rfl) (mV_of m 19 cq_d1 (by decide) rfl (by decide) rfl _) rfl (mj_Ok.up (by omega) (mC_earlier (D := 0) m he h3)) (fun v g1 hq => ?_) (fun i g1 hq => ?_)
  rotate_left
  · cases hq
  cases hq
  refine mj_T.eq (pc2 := 4) (st2 := [.ref (483 + 10 * e)]) ?_ rfl rfl rfl rfl
  refine mj_T.pl rfl rfl rfl rfl ?_
  refine mT_get m 19 cq_d1 (by decide) rfl rfl ?_
  refine mj_T.call rfl rfl (Nat.le_of_ble_eq_true rfl) (Nat.le_of_ble_eq_true rfl) (mV_of m 10 (cq_eb e he) (by decide) rfl (by decide) rfl _) rfl (mj_Ok.up (by omega) (mB_copy (D := 0) m (p := p) (cq_eb e he) cq_d2 (by omega) hp.1 hp.2.1)) (fun v g2 hq => ?_) (fun i g2 hq => ?_)
  rotate_left
  · obtain ⟨_, _, _, _, _, _, _, hq⟩ := hq; cases hq
  obtain ⟨X5, _, m5, y1, y2, y3, y4, hq⟩ := hq
  cases hq
  refine mj_T.eq (pc2 := 11) (st2 := []) ?_ rfl rfl rfl rfl
  iterate 2 refine mj_T.pl rfl rfl rfl rfl ?_
  refine mT_get (v := .int (jn ((e : Nat) : Int))) m5 19 cq_d1 (by decide) rfl (congrArg (fun z : Int => some (Value.int (jn z))) ((congrFun (y4 1 (by omega)) 3).trans h3)) ?_
  refine mj_T.pl rfl rfl rfl rfl ?_
  refine mj_T.iadd (a := ((e : Nat) : Int)) (b := 1) rfl ?_
  refine mj_T.pl rfl rfl rfl rfl ?_
  refine mj_T.irem rfl ⟨by omega, by omega⟩ ⟨by omega, by omega⟩ (by omega) ?_
  refine mT_put (v := ((((e : Nat) : Int) + 1).tmod 8)) m5 19 cq_d1 (by decide) rfl (by simp [jMf, xup]) (by simp [jMf]) rfl (fun h3 m4 => ?_)
  iterate 2 refine mj_T.pl rfl rfl rfl rfl ?_
  refine mT_get (v := .int (jn ((u : Nat) : Int))) m4 19 cq_d1 (by decide) rfl (congrArg (fun z : Int => some (Value.int (jn z))) ((xup_ne _ _ (Or.inr (by decide))).trans ((congrFun (y4 1 (by omega)) 2).trans h2))) ?_
  refine mj_T.pl rfl rfl rfl rfl ?_
  refine mj_T.iadd (a := ((u : Nat) : Int)) (b := 1) rfl ?_
  refine mj_T.pl rfl rfl rfl rfl ?_
  refine mj_T.imin (a := (((u : Nat) : Int) + 1)) (b := 8) rfl rfl (Nat.le_of_ble_eq_true rfl) ⟨by omega, by omega⟩ ⟨by omega, by omega⟩ ?_
  refine mT_put (v := (min (((u : Nat) : Int) + 1) 8)) m4 19 cq_d1 (by decide) rfl (by simp [jMf, xup]) (by simp [jMf]) rfl (fun h5 m6 => ?_)
  refine mj_T.ret rfl rfl rfl ⟨(xup (xup X5 1 3 ((((e : Nat) : Int) + 1).tmod 8)) 1 2 (min (((u : Nat) : Int) + 1) 8)), _, m6, ⟨⟨fun i hi j hj => ?_, ?_, fun k hk => ?_⟩, fun c hc c1 => ?_, ?_, ?_, ?_⟩, rfl⟩
  · rw [xup_oth (by omega), xup_oth (by omega)]
    exact y1 i hi j hj
  · rw [xup_oth (by omega), xup_oth (by omega)]
    exact y2.trans hp.1.symm
  · rw [xup_oth (by omega), xup_oth (by omega), xup_oth (by omega), xup_oth (by omega)]
    exact y3 k (by have := hp.1; omega)
  · rw [xup_oth c1, xup_oth c1]
    exact y4 c (by omega)
  · rw [xup_ne _ _ (Or.inr (by decide)), xup_at, Int.tmod_eq_emod_of_nonneg (by omega)]
    omega
  · rw [xup_at]
    split <;> omega
  · rw [xup_ne _ _ (Or.inr (by decide)), xup_ne _ _ (Or.inr (by decide))]
    exact congrFun (y4 1 (by omega)) 15
theorem mK_rt (t : Nat) (h : t < 6) : cK (4 + t) = 2 := (mK_b cq_d2).2.2 t h
theorem mC_keep (m : jM g n V X h) {e u p : Nat} (he : e < 8) (hu : u ≤ 8) (h3 : X 1 3 = (e : Int)) (h2 : X 1 2 = (u : Int)) (hp : PT X 2 p) {to : Nat} (ht : to < 6) (hr : sml (X 481)) : mj_Ok (D + 5) 154 [.ref 1, .int (jn (to : Int))] h (fun z => ∃ (X2 : Nat → Nat → Int) (h2 : mj_H), jM g n V (xfl X2 (4 + to) (X 481) 13) h2 ∧ kpE X X2 e u ∧ z = (.inl (some (.int (jn ((fdg (X 481) 13 : Int) - 1)))), h2)) := by
  refine mj_Ok.of (M := mj_m154) rfl rfl rfl ?_
  refine mj_T.pl rfl rfl rfl rfl ?_
  refine mj_T.call rfl rfl (Nat.le_of_ble_eq_true rfl) (Nat.le_of_ble_eq_true rfl) (mV_of m 19 cq_d1 (by decide) rfl (by decide) rfl _) rfl (mj_Ok.up (by omega) (mC_keepE (D := 0) m he hu h3 h2 hp)) (fun v g1 hq => ?_) (fun i g1 hq => ?_)
  rotate_left
  · obtain ⟨_, _, _, _, hq⟩ := hq; cases hq
  obtain ⟨X3, _, m3, kk, hq⟩ := hq
  cases hq
  have h481 : X3 481 = X 481 := kk.2.1 481 (by omega) (by decide)
  refine mj_T.eq (pc2 := 4) (st2 := []) ?_ rfl rfl rfl rfl
  refine mj_T.pl rfl rfl rfl rfl ?_
  refine mT_get m3 19 cq_d1 (by decide) rfl rfl ?_
  iterate 2 refine mj_T.pl rfl rfl rfl rfl ?_
  refine mj_T.call rfl rfl (Nat.le_of_ble_eq_true rfl) (Nat.le_of_ble_eq_true rfl) (mV_of m3 19 cq_d1 (by decide) rfl (by decide) rfl _) rfl (mj_Ok.up (by omega) (mC_rowOf (D := 0) m3 (i := (to : Int)) (by omega))) (fun v g2 hq => ?_) (fun i g2 hq => ?_)
  rotate_left
  · rcases hq with ⟨_, hq⟩ | ⟨hn, _⟩
    · cases hq
    · omega
  rcases hq with ⟨_, hq⟩ | ⟨hn, _⟩
  rotate_left
  · omega
  cases hq
  refine mj_T.eq (pc2 := 13) (st2 := [.ref (4 + to), .ref 481]) ?_ rfl rfl rfl rfl
  refine mj_T.call rfl rfl (Nat.le_of_ble_eq_true rfl) (Nat.le_of_ble_eq_true rfl) rfl rfl (mj_Ok.up (by omega) (mS_copy (D := 0) m3 cq_d481 (mK_rt to (by omega)))) (fun v g3 hq => ?_) (fun i g3 hq => ?_)
  rotate_left
  · obtain ⟨_, _, hq⟩ := hq; cases hq
  obtain ⟨_, m6, hq⟩ := hq
  cases hq
  rw [h481] at m6
  refine mj_T.eq (pc2 := 16) (st2 := []) ?_ rfl rfl rfl rfl
  refine mj_T.pl rfl rfl rfl rfl ?_
  refine mT_get m6 19 cq_d1 (by decide) rfl rfl ?_
  refine mj_T.call rfl rfl (Nat.le_of_ble_eq_true rfl) (Nat.le_of_ble_eq_true rfl) rfl rfl (mj_Ok.up (by omega) (mS_deg (D := 0) m6 cq_d481 (by rw [xfl_off _ _ _ (by omega), h481]; exact hr))) (fun v g4 hq => ?_) (fun i g4 hq => ?_)
  rotate_left
  · cases hq
  rw [xfl_off _ _ _ (by omega), h481] at hq
  cases hq
  refine mj_T.eq (pc2 := 23) (st2 := [.int (jn ((fdg (X 481) 13 : Int) - 1))]) ?_ rfl rfl rfl rfl
  exact mj_T.ret rfl rfl rfl ⟨X3, _, m6, kk, rfl⟩
end MCH
