/-! The benches of the class, exactly: points, copies. -/
theorem mK_30 : ((List.range 563).all (fun a => !(decide (cK a = 10)) || (decide (cK (a + 8) = 1) && decide (cK (a + 9) = 1) && decide (cL (a + 8) = 6) && decide (cL (a + 9) = 6) && decide (cK (a + 7) = 2)))) = true := by decide +kernel
/-- an array of places or heights -/
def pA (a : Nat) : Prop := cK a = 1 ∧ cL a = 6 ∧ cK (a - 1) ≠ 18 ∧ cK (a - 1) ≠ 12
theorem mK_b8 {a : Nat} (h : cK a = 10) : pA (a + 8) ∧ pA (a + 9) := by
  have h1 := jall mK_30 (cK_in (a := a) (by omega))
  simp only [h, decide_true, Bool.not_true, Bool.false_or, Bool.and_eq_true, decide_eq_true_eq] at h1
  obtain ⟨⟨⟨⟨a1, a2⟩, a3⟩, a4⟩, a5⟩ := h1
  refine ⟨⟨a1, a3, ?_, ?_⟩, a2, a4, ?_, ?_⟩
  · show cK (a + 7) ≠ 18
    omega
  · show cK (a + 7) ≠ 12
    omega
  · show cK (a + 8) ≠ 18
    omega
  · show cK (a + 8) ≠ 12
    omega
def bns : List Nat := [2, 483, 493, 503, 513, 523, 533, 543, 553]
theorem bns_1 : ((List.range 563).all (fun a => !(decide (cK a = 10)) || decide (a ∈ bns))) = true := by decide +kernel
theorem bns_2 : (bns.all fun p => bns.all fun q => decide (p = q) || decide (p + 10 ≤ q) || decide (q + 10 ≤ p)) = true := by decide +kernel
theorem bns_far {p q : Nat} (kp : cK p = 10) (kq : cK q = 10) (h : p ≠ q) : p + 10 ≤ q ∨ q + 10 ≤ p := by
  have h1 := jall bns_1 (cK_in (a := p) (by omega))
  have h2 := jall bns_1 (cK_in (a := q) (by omega))
  simp only [kp, kq, decide_true, Bool.not_true, Bool.false_or, decide_eq_true_eq] at h1 h2
  have h3 := List.all_eq_true.mp (List.all_eq_true.mp bns_2 p h1) q h2
  simp only [Bool.or_eq_true, decide_eq_true_eq] at h3
  omega
section MPL
variable {g h : mj_H} {n D pc r1 r2 r3 r4 r5 : Nat} {V : Nat → Int} {X : Nat → Nat → Int} {M : mj_M} {loc : mj_L} {st : List Value} {Q : mj_R → Prop}
theorem jM.I (M : jM g n V X h) {a : Nat} (pa : pA a) : h[a]? = some (.inl (0, 6, fun j => .int (jn (X a j)))) := by
  have q := M.2.2 a
  unfold jMk at q
  rw [pa.1, if_neg (by omega), if_neg (by omega), if_neg (by omega), if_pos rfl, pa.2.1] at q
  rcases q with q | q
  · exact absurd q (fun y => y.elim pa.2.2.1 pa.2.2.2)
  · exact q
theorem mT_iald (m : jM g n V X h) {a : Nat} {i : Int} (pa : pA a) (hc : M.2.2.2.2.1 pc = some (.iaload, r1, r2, r3, r4, r5)) (h0 : 0 ≤ i ∧ i < 6) (q : mj_T D M (pc + 1) loc (.int (jn (X a i.toNat)) :: st) h Q) : mj_T D M pc loc (.int (jn i) :: .ref a :: st) h Q := mj_T.iald (g := fun j => jn (X a j)) hc (m.I pa) ⟨by omega, by omega⟩ h0 q
theorem mT_ilen (m : jM g n V X h) {a : Nat} (pa : pA a) (hc : M.2.2.2.2.1 pc = some (.arraylength, r1, r2, r3, r4, r5)) (q : mj_T D M (pc + 1) loc (.int (jn ((6 : Nat) : Int)) :: st) h Q) : mj_T D M pc loc (.ref a :: st) h Q := mj_T.alen hc (m.I pa) q
theorem jM.setI (m : jM g n V X h) {a i : Nat} {v : Int} (pa : pA a) : jM g n V (xup X a i v) (h.set a (.inl (0, 6, fun j => .int (if j = i then jn v else jn (X a j))))) := by
  have hl := (List.getElem?_eq_some_iff.mp (m.I pa)).1
  refine m.up (fun x => x = a) (by rw [List.length_set]) (fun x hx => by subst hx; rw [pa.1]; decide) (fun p hp => List.getElem?_set_ne (fun e => hp e.symm)) (fun _ _ => rfl) (fun x hx => funext fun j => xup_ne _ _ (Or.inl hx)) (fun x hx => ?_) (fun x hx => ?_)
  · have p1 := pa.1
    constructor
    · intro e
      subst e
      omega
    · intro e
      have p2 := pa.2.2
      rw [← e, Nat.add_sub_cancel] at p2
      exact absurd hx (fun y => y.elim p2.1 p2.2)
  · subst hx
    unfold jMk
    rw [pa.1, if_neg (by omega), if_neg (by omega), if_neg (by omega), if_pos rfl, pa.2.1, List.getElem?_set_self hl]
    refine Or.inr ?_
    congr 4
    funext j
    unfold xup
    by_cases q : j = i
    · rw [if_pos q, if_pos ⟨rfl, q⟩]
    · rw [if_neg q, if_neg (fun w => q w.2)]
theorem mT_iast (m : jM g n V X h) {a : Nat} {i v : Int} (pa : pA a) (hc : M.2.2.2.2.1 pc = some (.iastore, r1, r2, r3, r4, r5)) (h0 : 0 ≤ i ∧ i < 6) (q : ∀ h', jM g n V (xup X a i.toNat v) h' → mj_T D M (pc + 1) loc st h' Q) : mj_T D M pc loc (.int (jn v) :: .int (jn i) :: .ref a :: st) h Q := mj_T.iast (g := fun j => jn (X a j)) hc (m.I pa) ⟨by omega, by omega⟩ h0 (q _ (by
  have k := m.setI (i := i.toNat) (v := v) pa
  have e : (fun j => Value.int (upd (fun j => jn (X a j)) i.toNat (jn v) j)) = fun j => Value.int (if j = i.toNat then jn v else jn (X a j)) := funext fun j => by
    unfold upd
    split <;> rfl
  rw [e]
  exact k))
end MPL
section MBE
variable {g h : mj_H} {n D a o : Nat} {V : Nat → Int} {X : Nat → Nat → Int}
theorem mB_place (m : jM g n V X h) (ko : cK o = 10) {i : Nat} (hi : i < 6) : mj_Ok (D + 1) 5 [.ref o, .int (jn (i : Int))] h (fun z => z = (.inl (some (.int (jn (X (o + 8) i)))), h)) := by
  refine mj_Ok.of (M := mj_m5) rfl rfl rfl ?_
  refine mj_T.pl rfl rfl rfl rfl ?_
  refine mj_T.if0 (a := ((i : Nat) : Int)) rfl ⟨by omega, by omega⟩ (fun c1 => ?_) (fun c1 => ?_)
  · exfalso
    simp only [jc, Bool.not_eq_true', Bool.not_eq_false', decide_eq_true_eq, decide_eq_false_iff_not] at c1
    omega
  · simp only [jc, Bool.not_eq_true', Bool.not_eq_false', decide_eq_true_eq, decide_eq_false_iff_not] at c1
    iterate 2 refine mj_T.pl rfl rfl rfl rfl ?_
    refine mT_get m 10 ko (by decide) rfl rfl ?_
    refine mT_ilen m (mK_b8 ko).1 rfl ?_
    refine mj_T.icmp (a := ((i : Nat) : Int)) (b := ((6 : Nat) : Int)) rfl ⟨by omega, by omega⟩ ⟨by omega, by omega⟩ (fun c2 => ?_) (fun c2 => ?_)
    · exfalso
      simp only [jc, Bool.not_eq_true', Bool.not_eq_false', decide_eq_true_eq, decide_eq_false_iff_not] at c2
      omega
    · simp only [jc, Bool.not_eq_true', Bool.not_eq_false', decide_eq_true_eq, decide_eq_false_iff_not] at c2
      refine mj_T.pl rfl rfl rfl rfl ?_
      refine mT_get m 10 ko (by decide) rfl rfl ?_
      refine mj_T.pl rfl rfl rfl rfl ?_
      refine mT_iald m (mK_b8 ko).1 rfl ⟨by omega, by omega⟩ ?_
      refine mj_T.eq (st2 := [.int (jn (X (o + 8) i))]) ?_ rfl rfl rfl rfl
      refine mj_T.pl rfl rfl rfl rfl ?_
      exact mj_T.ret rfl rfl rfl rfl
theorem mB_height (m : jM g n V X h) (ko : cK o = 10) {i : Nat} (hi : i < 6) : mj_Ok (D + 1) 6 [.ref o, .int (jn (i : Int))] h (fun z => z = (.inl (some (.int (jn (X (o + 9) i)))), h)) := by
  refine mj_Ok.of (M := mj_m6) rfl rfl rfl ?_
  refine mj_T.pl rfl rfl rfl rfl ?_
  refine mj_T.if0 (a := ((i : Nat) : Int)) rfl ⟨by omega, by omega⟩ (fun c1 => ?_) (fun c1 => ?_)
  · exfalso
    simp only [jc, Bool.not_eq_true', Bool.not_eq_false', decide_eq_true_eq, decide_eq_false_iff_not] at c1
    omega
  · simp only [jc, Bool.not_eq_true', Bool.not_eq_false', decide_eq_true_eq, decide_eq_false_iff_not] at c1
    iterate 2 refine mj_T.pl rfl rfl rfl rfl ?_
    refine mT_get m 10 ko (by decide) rfl rfl ?_
    refine mT_ilen m (mK_b8 ko).2 rfl ?_
    refine mj_T.icmp (a := ((i : Nat) : Int)) (b := ((6 : Nat) : Int)) rfl ⟨by omega, by omega⟩ ⟨by omega, by omega⟩ (fun c2 => ?_) (fun c2 => ?_)
    · exfalso
      simp only [jc, Bool.not_eq_true', Bool.not_eq_false', decide_eq_true_eq, decide_eq_false_iff_not] at c2
      omega
    · simp only [jc, Bool.not_eq_true', Bool.not_eq_false', decide_eq_true_eq, decide_eq_false_iff_not] at c2
      refine mj_T.pl rfl rfl rfl rfl ?_
      refine mT_get m 10 ko (by decide) rfl rfl ?_
      refine mj_T.pl rfl rfl rfl rfl ?_
      refine mT_iald m (mK_b8 ko).2 rfl ⟨by omega, by omega⟩ ?_
      refine mj_T.eq (st2 := [.int (jn (X (o + 9) i))]) ?_ rfl rfl rfl rfl
      refine mj_T.pl rfl rfl rfl rfl ?_
      exact mj_T.ret rfl rfl rfl rfl
theorem mB_put (m : jM g n V X h) (ko : cK o = 10) {p : Nat} {x y : Int} (hp : X o 3 = (p : Int)) (hp6 : p < 6) : mj_Ok (D + 1) 3 [.ref o, .int (jn x), .int (jn y)] h (fun z => ∃ h2, jM g n V (xup (xup (xup X (o + 8) p x) (o + 9) p y) o 3 ((p + 1 : Nat) : Int)) h2 ∧ z = (.inl none, h2)) := by
  refine mj_Ok.of (M := mj_m3) rfl rfl rfl ?_
  refine mj_T.pl rfl rfl rfl rfl ?_
  refine mT_get (v := .int (jn ((p : Nat) : Int))) m 10 ko (by decide) rfl (congrArg (fun z : Int => some (Value.int (jn z))) (hp)) ?_
  refine mj_T.pl rfl rfl rfl rfl ?_
  refine mT_get m 10 ko (by decide) rfl rfl ?_
  refine mT_ilen m (mK_b8 ko).1 rfl ?_
  refine mj_T.icmp (a := ((p : Nat) : Int)) (b := ((6 : Nat) : Int)) rfl ⟨by omega, by omega⟩ ⟨by omega, by omega⟩ (fun c1 => ?_) (fun c1 => ?_)
  · exfalso
    simp only [jc, Bool.not_eq_true', Bool.not_eq_false', decide_eq_true_eq, decide_eq_false_iff_not] at c1
    omega
  · simp only [jc, Bool.not_eq_true', Bool.not_eq_false', decide_eq_true_eq, decide_eq_false_iff_not] at c1
    refine mj_T.pl rfl rfl rfl rfl ?_
    refine mT_get (v := .int (jn ((p : Nat) : Int))) m 10 ko (by decide) rfl (congrArg (fun z : Int => some (Value.int (jn z))) (hp)) ?_
    refine mj_T.pl rfl rfl rfl rfl ?_
    refine mT_get m 10 ko (by decide) rfl rfl ?_
    refine mT_ilen m (mK_b8 ko).2 rfl ?_
    refine mj_T.icmp (a := ((p : Nat) : Int)) (b := ((6 : Nat) : Int)) rfl ⟨by omega, by omega⟩ ⟨by omega, by omega⟩ (fun c2 => ?_) (fun c2 => ?_)
    · exfalso
      simp only [jc, Bool.not_eq_true', Bool.not_eq_false', decide_eq_true_eq, decide_eq_false_iff_not] at c2
      omega
    · simp only [jc, Bool.not_eq_true', Bool.not_eq_false', decide_eq_true_eq, decide_eq_false_iff_not] at c2
      refine mj_T.pl rfl rfl rfl rfl ?_
      refine mT_get m 10 ko (by decide) rfl rfl ?_
      refine mj_T.pl rfl rfl rfl rfl ?_
      refine mT_get (v := .int (jn ((p : Nat) : Int))) m 10 ko (by decide) rfl (congrArg (fun z : Int => some (Value.int (jn z))) (hp)) ?_
      refine mj_T.pl rfl rfl rfl rfl ?_
      refine mT_iast (v := x) m (mK_b8 ko).1 rfl ⟨by omega, by omega⟩ (fun h3 m4 => ?_)
      refine mj_T.pl rfl rfl rfl rfl ?_
      refine mT_get m4 10 ko (by decide) rfl rfl ?_
      refine mj_T.pl rfl rfl rfl rfl ?_
      refine mT_get (v := .int (jn ((p : Nat) : Int))) m4 10 ko (by decide) rfl (congrArg (fun z : Int => some (Value.int (jn z))) ((congrFun (xup_oth (by omega)) 3).trans (hp))) ?_
      refine mj_T.pl rfl rfl rfl rfl ?_
      refine mT_iast (v := y) m4 (mK_b8 ko).2 rfl ⟨by omega, by omega⟩ (fun h5 m6 => ?_)
      iterate 2 refine mj_T.pl rfl rfl rfl rfl ?_
      refine mT_get (v := .int (jn ((p : Nat) : Int))) m6 10 ko (by decide) rfl (congrArg (fun z : Int => some (Value.int (jn z))) ((congrFun (xup_oth (by omega)) 3).trans ((congrFun (xup_oth (by omega)) 3).trans (hp)))) ?_
      refine mj_T.pl rfl rfl rfl rfl ?_
      refine mj_T.iadd (a := ((p : Nat) : Int)) (b := 1) rfl ?_
      rw [show ((p : Nat) : Int) + 1 = ((p + 1 : Nat) : Int) by omega]
      refine mT_put (v := (((p + 1) : Nat) : Int)) m6 10 ko (by decide) rfl (by simp [jMf, xup]) (by simp [jMf]) rfl (fun h7 m8 => ?_)
      exact mj_T.ret rfl rfl rfl ⟨_, m8, rfl⟩
theorem mB_has_loop (m : jM g n V X h) (ko : cK o = 10) {p : Nat} {x : Int} (hp : X o 3 = (p : Int)) (hp6 : p ≤ 6) (hx : -2147483648 ≤ x ∧ x ≤ 2147483647) (hj : ∀ i, i < p → -9 ≤ X (o + 8) i ∧ X (o + 8) i ≤ 9) : ∀ k i, i + k = p → (∀ e, e < i → X (o + 8) e ≠ x) → mj_T (D + 1) mj_m4 2 [some (.ref o), some (.int (jn x)), some (.int (jn (i : Int)))] [] h (fun z => ((∃ i, i < p ∧ X (o + 8) i = x) ∧ z = (.inl (some (.int (jn 1))), h)) ∨ ((∀ i, i < p → X (o + 8) i ≠ x) ∧ z = (.inl (some (.int (jn 0))), h)))
  | 0, i, hi, hn => by
    iterate 2 refine mj_T.pl rfl rfl rfl rfl ?_
    refine mT_get (v := .int (jn ((p : Nat) : Int))) m 10 ko (by decide) rfl (congrArg (fun z : Int => some (Value.int (jn z))) (hp)) ?_
    refine mj_T.icmp (a := ((i : Nat) : Int)) (b := ((p : Nat) : Int)) rfl ⟨by omega, by omega⟩ ⟨by omega, by omega⟩ (fun c1 => ?_) (fun c1 => ?_)
    · simp only [jc, Bool.not_eq_true', Bool.not_eq_false', decide_eq_true_eq, decide_eq_false_iff_not] at c1
      refine mj_T.pl rfl rfl rfl rfl ?_
      exact mj_T.ret rfl rfl rfl (Or.inr ⟨fun e he => hn e (by omega), rfl⟩)
    · exfalso
      simp only [jc, Bool.not_eq_true', Bool.not_eq_false', decide_eq_true_eq, decide_eq_false_iff_not] at c1
      omega
  | k + 1, i, hi, hn => by
    have hji := hj i (by omega)
    iterate 2 refine mj_T.pl rfl rfl rfl rfl ?_
    refine mT_get (v := .int (jn ((p : Nat) : Int))) m 10 ko (by decide) rfl (congrArg (fun z : Int => some (Value.int (jn z))) (hp)) ?_
    refine mj_T.icmp (a := ((i : Nat) : Int)) (b := ((p : Nat) : Int)) rfl ⟨by omega, by omega⟩ ⟨by omega, by omega⟩ (fun c1 => ?_) (fun c1 => ?_)
    · exfalso
      simp only [jc, Bool.not_eq_true', Bool.not_eq_false', decide_eq_true_eq, decide_eq_false_iff_not] at c1
      omega
    · simp only [jc, Bool.not_eq_true', Bool.not_eq_false', decide_eq_true_eq, decide_eq_false_iff_not] at c1
      iterate 2 refine mj_T.pl rfl rfl rfl rfl ?_
      refine mj_T.call rfl rfl (Nat.le_of_ble_eq_true rfl) (Nat.le_of_ble_eq_true rfl) (mV_of m 10 ko (by decide) rfl (by decide) rfl _) rfl (mj_Ok.up (by omega) (mB_place (D := 0) (i := i) m ko (by omega))) (fun v g2 hq => ?_) (fun i g2 hq => ?_)
      rotate_left
      · cases hq
      cases hq
      refine mj_T.eq (pc2 := 15) (st2 := [.int (jn (X (o + 8) i))]) ?_ rfl rfl rfl rfl
      refine mj_T.pl rfl rfl rfl rfl ?_
      refine mj_T.icmp (a := (X (o + 8) i)) (b := x) rfl ⟨by omega, by omega⟩ ⟨by omega, by omega⟩ (fun c3 => ?_) (fun c3 => ?_)
      · simp only [jc, Bool.not_eq_true', Bool.not_eq_false', decide_eq_true_eq, decide_eq_false_iff_not] at c3
        refine mj_T.iinc rfl rfl ?_
        rw [show ((i : Nat) : Int) + 1 = ((i + 1 : Nat) : Int) by omega]
        refine mj_T.eq (loc2 := [some (.ref o), some (.int (jn x)), some (.int (jn (((i + 1) : Nat) : Int)))]) ?_ rfl rfl rfl rfl
        refine mj_T.pl rfl rfl rfl rfl ?_
        refine mB_has_loop m ko hp hp6 hx hj k (i + 1) (by omega) (fun e he => ?_)
        by_cases q : e = i
        · subst q
          omega
        · exact hn e (by omega)
      · simp only [jc, Bool.not_eq_true', Bool.not_eq_false', decide_eq_true_eq, decide_eq_false_iff_not] at c3
        refine mj_T.pl rfl rfl rfl rfl ?_
        exact mj_T.ret rfl rfl rfl (Or.inl ⟨⟨i, by omega, by omega⟩, rfl⟩)
theorem mB_has (m : jM g n V X h) (ko : cK o = 10) {p : Nat} {x : Int} (hp : X o 3 = (p : Int)) (hp6 : p ≤ 6) (hx : -2147483648 ≤ x ∧ x ≤ 2147483647) (hj : ∀ i, i < p → -9 ≤ X (o + 8) i ∧ X (o + 8) i ≤ 9) : mj_Ok (D + 2) 4 [.ref o, .int (jn x)] h (fun z => ((∃ i, i < p ∧ X (o + 8) i = x) ∧ z = (.inl (some (.int (jn 1))), h)) ∨ ((∀ i, i < p → X (o + 8) i ≠ x) ∧ z = (.inl (some (.int (jn 0))), h))) := by
  refine mj_Ok.of (M := mj_m4) rfl rfl rfl ?_
  refine mj_T.pl rfl rfl rfl rfl ?_
  refine mj_T.pl (loc' := [some (.ref o), some (.int (jn x)), some (.int (jn 0))]) rfl rfl rfl rfl ?_
  exact mB_has_loop m ko hp hp6 hx hj p 0 (by omega) (fun e he => absurd he (Nat.not_lt_zero e))
theorem mB_cp2 {p : Nat} (ka : cK a = 10) (ko : cK o = 10) (hao : a ≠ o) (hp : X o 3 = (p : Int)) (hp6 : p ≤ 6) : ∀ k i, i + k = p → ∀ (X1 : Nat → Nat → Int) (h1 : mj_H), jM g n V X1 h1 → (∀ i, i < 6 → ∀ j, j < 13 → X1 (a + 2 + i) j = X (o + 2 + i) j) → X1 a 3 = (i : Int) → (∀ k, k < i → X1 (a + 8) k = X (o + 8) k ∧ X1 (a + 9) k = X (o + 9) k) → (∀ c, (c < a ∨ a + 10 ≤ c) → X1 c = X c) → mj_T (D + 2) mj_m2 48 [some (.ref a), some (.ref o), some (.int (jn (i : Int)))] [] h1 (fun z => ∃ (X2 : Nat → Nat → Int) (h2 : mj_H), jM g n V X2 h2 ∧ (∀ i, i < 6 → ∀ j, j < 13 → X2 (a + 2 + i) j = X (o + 2 + i) j) ∧ X2 a 3 = (p : Int) ∧ (∀ k, k < p → X2 (a + 8) k = X (o + 8) k ∧ X2 (a + 9) k = X (o + 9) k) ∧ (∀ c, (c < a ∨ a + 10 ≤ c) → X2 c = X c) ∧ z = (.inl none, h2))
  | 0, i, hi, X1, h1, m, e1, e2, e3, e4 => by
    have hfar := bns_far ka ko hao
    have hpo : X1 o 3 = (p : Int) := (congrFun (e4 o (by omega)) 3).trans hp
    iterate 2 refine mj_T.pl rfl rfl rfl rfl ?_
    refine mT_get (v := .int (jn ((p : Nat) : Int))) m 10 ko (by decide) rfl (congrArg (fun z : Int => some (Value.int (jn z))) (hpo)) ?_
    refine mj_T.icmp (a := ((i : Nat) : Int)) (b := ((p : Nat) : Int)) rfl ⟨by omega, by omega⟩ ⟨by omega, by omega⟩ (fun c1 => ?_) (fun c1 => ?_)
    · simp only [jc, Bool.not_eq_true', Bool.not_eq_false', decide_eq_true_eq, decide_eq_false_iff_not] at c1
      have hip : i = p := by omega
      subst hip
      exact mj_T.ret rfl rfl rfl ⟨_, _, m, e1, e2, e3, e4, rfl⟩
    · exfalso
      simp only [jc, Bool.not_eq_true', Bool.not_eq_false', decide_eq_true_eq, decide_eq_false_iff_not] at c1
      omega
  | k + 1, i, hi, X1, h1, m, e1, e2, e3, e4 => by
    have hfar := bns_far ka ko hao
    have hpo : X1 o 3 = (p : Int) := (congrFun (e4 o (by omega)) 3).trans hp
    iterate 2 refine mj_T.pl rfl rfl rfl rfl ?_
    refine mT_get (v := .int (jn ((p : Nat) : Int))) m 10 ko (by decide) rfl (congrArg (fun z : Int => some (Value.int (jn z))) (hpo)) ?_
    refine mj_T.icmp (a := ((i : Nat) : Int)) (b := ((p : Nat) : Int)) rfl ⟨by omega, by omega⟩ ⟨by omega, by omega⟩ (fun c1 => ?_) (fun c1 => ?_)
    · exfalso
      simp only [jc, Bool.not_eq_true', Bool.not_eq_false', decide_eq_true_eq, decide_eq_false_iff_not] at c1
      omega
    · simp only [jc, Bool.not_eq_true', Bool.not_eq_false', decide_eq_true_eq, decide_eq_false_iff_not] at c1
      iterate 3 refine mj_T.pl rfl rfl rfl rfl ?_
      refine mj_T.call rfl rfl (Nat.le_of_ble_eq_true rfl) (Nat.le_of_ble_eq_true rfl) (mV_of m 10 ko (by decide) rfl (by decide) rfl _) rfl (mj_Ok.up (by omega) (mB_place (D := 0) (i := i) m ko (by omega))) (fun v g2 hq => ?_) (fun i g2 hq => ?_)
      rotate_left
      · cases hq
      cases hq
      refine mj_T.eq (pc2 := 62) (st2 := [.int (jn (X1 (o + 8) i)), .ref a]) ?_ rfl rfl rfl rfl
      iterate 2 refine mj_T.pl rfl rfl rfl rfl ?_
      refine mj_T.call rfl rfl (Nat.le_of_ble_eq_true rfl) (Nat.le_of_ble_eq_true rfl) (mV_of m 10 ko (by decide) rfl (by decide) rfl _) rfl (mj_Ok.up (by omega) (mB_height (D := 0) (i := i) m ko (by omega))) (fun v g3 hq => ?_) (fun i g3 hq => ?_)
      rotate_left
      · cases hq
      cases hq
      refine mj_T.eq (pc2 := 67) (st2 := [.int (jn (X1 (o + 9) i)), .int (jn (X1 (o + 8) i)), .ref a]) ?_ rfl rfl rfl rfl
      refine mj_T.call rfl rfl (Nat.le_of_ble_eq_true rfl) (Nat.le_of_ble_eq_true rfl) (mV_of m 10 ka (by decide) rfl (by decide) rfl _) rfl (mj_Ok.up (by omega) (mB_put (D := 0) m ka e2 (by omega))) (fun v g4 hq => ?_) (fun i g4 hq => ?_)
      rotate_left
      · obtain ⟨_, _, hq⟩ := hq; cases hq
      obtain ⟨_, m5, hq⟩ := hq
      cases hq
      refine mj_T.eq (pc2 := 70) (st2 := []) ?_ rfl rfl rfl rfl
      refine mj_T.iinc rfl rfl ?_
      rw [show ((i : Nat) : Int) + 1 = ((i + 1 : Nat) : Int) by omega]
      refine mj_T.eq (loc2 := [some (.ref a), some (.ref o), some (.int (jn (((i + 1) : Nat) : Int)))]) ?_ rfl rfl rfl rfl
      refine mj_T.pl rfl rfl rfl rfl ?_
      refine mB_cp2 ka ko hao hp hp6 k (i + 1) (by omega) _ _ m5 (fun c hc j hj => ?_) (xup_at _ _ _ _) (fun c hc => ?_) (fun c hc => ?_)
      · rw [xup_oth (by omega), xup_oth (by omega), xup_oth (by omega)]
        exact e1 c hc j hj
      · by_cases q : c = i
        · subst q
          refine ⟨?_, ?_⟩
          · rw [xup_oth (by omega), xup_oth (by omega), xup_at, e4 (o + 8) (by omega)]
          · rw [xup_oth (by omega), xup_at, e4 (o + 9) (by omega)]
        · have y := e3 c (by omega)
          refine ⟨?_, ?_⟩
          · rw [xup_oth (by omega), xup_oth (by omega), xup_ne _ _ (Or.inr q)]
            exact y.1
          · rw [xup_oth (by omega), xup_ne _ _ (Or.inr q), xup_oth (by omega)]
            exact y.2
      · rw [xup_oth (by omega), xup_oth (by omega), xup_oth (by omega)]
        exact e4 c hc
theorem mB_cp1 {p : Nat} (ka : cK a = 10) (ko : cK o = 10) (hao : a ≠ o) (hp : X o 3 = (p : Int)) (hp6 : p ≤ 6) : ∀ k i, i + k = 6 → ∀ (X1 : Nat → Nat → Int) (h1 : mj_H), jM g n V X1 h1 → (∀ e, e < i → ∀ j, j < 13 → X1 (a + 2 + e) j = X (o + 2 + e) j) → (∀ c, (c < a + 2 ∨ a + 8 ≤ c) → X1 c = X c) → mj_T (D + 2) mj_m2 2 [some (.ref a), some (.ref o), some (.int (jn (i : Int)))] [] h1 (fun z => ∃ (X2 : Nat → Nat → Int) (h2 : mj_H), jM g n V X2 h2 ∧ (∀ i, i < 6 → ∀ j, j < 13 → X2 (a + 2 + i) j = X (o + 2 + i) j) ∧ X2 a 3 = (p : Int) ∧ (∀ k, k < p → X2 (a + 8) k = X (o + 8) k ∧ X2 (a + 9) k = X (o + 9) k) ∧ (∀ c, (c < a ∨ a + 10 ≤ c) → X2 c = X c) ∧ z = (.inl none, h2))
  | 0, i, hi, X1, h1, m, e1, e2 => by
    have hfar := bns_far ka ko hao
    have lka := (mK_b ka).2.1
    have lko := (mK_b ko).2.1
    iterate 2 refine mj_T.pl rfl rfl rfl rfl ?_
    refine mT_get m 10 ka (by decide) rfl rfl ?_
    refine mT_alen m 6 (mK_b ka).1 (by decide) rfl ?_
    rw [(mK_b ka).2.1]
    refine mj_T.icmp (a := ((i : Nat) : Int)) (b := ((6 : Nat) : Int)) rfl ⟨by omega, by omega⟩ ⟨by omega, by omega⟩ (fun c1 => ?_) (fun c1 => ?_)
    · simp only [jc, Bool.not_eq_true', Bool.not_eq_false', decide_eq_true_eq, decide_eq_false_iff_not] at c1
      iterate 2 refine mj_T.pl rfl rfl rfl rfl ?_
      refine mT_put (v := 0) m 10 ka (by decide) rfl (by simp [jMf, xup]) (by simp [jMf]) rfl (fun h2 m3 => ?_)
      refine mj_T.pl rfl rfl rfl rfl ?_
      refine mj_T.pl (loc' := [some (.ref a), some (.ref o), some (.int (jn 0))]) rfl rfl rfl rfl ?_
      have hi6 : i = 6 := by omega
      subst hi6
      refine mj_T.eq (loc2 := [some (.ref a), some (.ref o), some (.int (jn ((0 : Nat) : Int)))]) ?_ rfl rfl rfl rfl
      refine mB_cp2 ka ko hao hp hp6 p 0 (by omega) _ _ m3 (fun c hc j hj => ?_) (xup_at _ _ _ _) (fun c hc => absurd hc (Nat.not_lt_zero c)) (fun c hc => ?_)
      · rw [xup_oth (by omega)]
        exact e1 c hc j hj
      · rw [xup_oth (by omega)]
        exact e2 c (by omega)
    · exfalso
      simp only [jc, Bool.not_eq_true', Bool.not_eq_false', decide_eq_true_eq, decide_eq_false_iff_not] at c1
      omega
  | k + 1, i, hi, X1, h1, m, e1, e2 => by
    have hfar := bns_far ka ko hao
    have lka := (mK_b ka).2.1
    have lko := (mK_b ko).2.1
    iterate 2 refine mj_T.pl rfl rfl rfl rfl ?_
    refine mT_get m 10 ka (by decide) rfl rfl ?_
    refine mT_alen m 6 (mK_b ka).1 (by decide) rfl ?_
    rw [(mK_b ka).2.1]
    refine mj_T.icmp (a := ((i : Nat) : Int)) (b := ((6 : Nat) : Int)) rfl ⟨by omega, by omega⟩ ⟨by omega, by omega⟩ (fun c1 => ?_) (fun c1 => ?_)
    · exfalso
      simp only [jc, Bool.not_eq_true', Bool.not_eq_false', decide_eq_true_eq, decide_eq_false_iff_not] at c1
      omega
    · simp only [jc, Bool.not_eq_true', Bool.not_eq_false', decide_eq_true_eq, decide_eq_false_iff_not] at c1
      iterate 2 refine mj_T.pl rfl rfl rfl rfl ?_
      refine mT_get m 10 ko (by decide) rfl rfl ?_
      refine mT_alen m 6 (mK_b ko).1 (by decide) rfl ?_
      rw [(mK_b ko).2.1]
      refine mj_T.icmp (a := ((i : Nat) : Int)) (b := ((6 : Nat) : Int)) rfl ⟨by omega, by omega⟩ ⟨by omega, by omega⟩ (fun c2 => ?_) (fun c2 => ?_)
      · exfalso
        simp only [jc, Bool.not_eq_true', Bool.not_eq_false', decide_eq_true_eq, decide_eq_false_iff_not] at c2
        omega
      · simp only [jc, Bool.not_eq_true', Bool.not_eq_false', decide_eq_true_eq, decide_eq_false_iff_not] at c2
        refine mj_T.pl rfl rfl rfl rfl ?_
        refine mT_get m 10 ko (by decide) rfl rfl ?_
        refine mj_T.pl rfl rfl rfl rfl ?_
        refine mT_aald m 6 (mK_b ko).1 (by decide) rfl rfl (by omega) ⟨by omega, by omega⟩ ?_
        refine mj_T.eq (st2 := [.ref (o + 2 + i)]) ?_ rfl rfl rfl rfl
        refine mj_T.pl rfl rfl rfl rfl ?_
        refine mT_get m 10 ka (by decide) rfl rfl ?_
        refine mj_T.pl rfl rfl rfl rfl ?_
        refine mT_aald m 6 (mK_b ka).1 (by decide) rfl rfl (by omega) ⟨by omega, by omega⟩ ?_
        refine mj_T.eq (st2 := [.ref (a + 2 + i), .ref (o + 2 + i)]) ?_ rfl rfl rfl rfl
        refine mj_T.call rfl rfl (Nat.le_of_ble_eq_true rfl) (Nat.le_of_ble_eq_true rfl) rfl rfl (mj_Ok.up (by omega) (mS_copy (D := 0) m ((mK_b ko).2.2 i (by omega)) ((mK_b ka).2.2 i (by omega)))) (fun v g3 hq => ?_) (fun i g3 hq => ?_)
        rotate_left
        · obtain ⟨_, _, hq⟩ := hq; cases hq
        obtain ⟨_, m4, hq⟩ := hq
        cases hq
        refine mj_T.eq (pc2 := 35) (st2 := []) ?_ rfl rfl rfl rfl
        refine mj_T.iinc rfl rfl ?_
        rw [show ((i : Nat) : Int) + 1 = ((i + 1 : Nat) : Int) by omega]
        refine mj_T.eq (loc2 := [some (.ref a), some (.ref o), some (.int (jn (((i + 1) : Nat) : Int)))]) ?_ rfl rfl rfl rfl
        refine mj_T.pl rfl rfl rfl rfl ?_
        refine mB_cp1 ka ko hao hp hp6 k (i + 1) (by omega) _ _ m4 (fun e he j hj => ?_) (fun c hc => ?_)
        · by_cases q : e = i
          · subst q
            rw [xfl_at _ _ _ hj, e2 (o + 2 + e) (by omega)]
          · rw [xfl_off _ _ _ (by omega)]
            exact e1 e (by omega) j hj
        · rw [xfl_off _ _ _ (by omega)]
          exact e2 c hc
theorem mB_copy (m : jM g n V X h) {p : Nat} (ka : cK a = 10) (ko : cK o = 10) (hao : a ≠ o) (hp : X o 3 = (p : Int)) (hp6 : p ≤ 6) : mj_Ok (D + 3) 2 [.ref a, .ref o] h (fun z => ∃ (X2 : Nat → Nat → Int) (h2 : mj_H), jM g n V X2 h2 ∧ (∀ i, i < 6 → ∀ j, j < 13 → X2 (a + 2 + i) j = X (o + 2 + i) j) ∧ X2 a 3 = (p : Int) ∧ (∀ k, k < p → X2 (a + 8) k = X (o + 8) k ∧ X2 (a + 9) k = X (o + 9) k) ∧ (∀ c, (c < a ∨ a + 10 ≤ c) → X2 c = X c) ∧ z = (.inl none, h2)) := by
  refine mj_Ok.of (M := mj_m2) rfl rfl rfl ?_
  refine mj_T.pl rfl rfl rfl rfl ?_
  refine mj_T.pl (loc' := [some (.ref a), some (.ref o), some (.int (jn 0))]) rfl rfl rfl rfl ?_
  exact mB_cp1 ka ko hao hp hp6 6 0 (by omega) X _ m (fun e he => absurd he (Nat.not_lt_zero e)) (fun _ _ => rfl)
end MBE
