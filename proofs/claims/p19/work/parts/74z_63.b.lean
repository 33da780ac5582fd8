/-! The class: calls that only read leave the benches (value, divides, roots ..). -/
/-- rows' places beyond their length don't matter -/
noncomputable def nrX (X : Nat → Nat → Int) : Nat → Nat → Int := fun a j => if cK a = 2 then (jl (X a j)).toInt else X a j
theorem nrX_o {X : Nat → Nat → Int} {a : Nat} (h : cK a ≠ 2) : nrX X a = X a := funext fun j => if_neg h
theorem nrX_r {X : Nat → Nat → Int} {a j : Nat} (h : jR (X a j)) : nrX X a j = X a j := by
  unfold nrX
  split
  · exact jl_toInt h
  · rfl
theorem jM.nr {g h : mj_H} {n : Nat} {V : Nat → Int} {X : Nat → Nat → Int} (m : jM g n V X h) : jM g n V (nrX X) h := by
  refine ⟨m.1, m.2.1, fun a => ?_⟩
  have q := m.2.2 a
  unfold jMk at q ⊢
  by_cases k2 : cK a = 2
  · rw [k2] at q ⊢
    have e : (fun j => Value.long (jl (nrX X a j))) = fun j => Value.long (jl (X a j)) := funext fun j => by
      unfold nrX
      rw [if_pos k2, jl_of]
    rw [if_neg (by decide), if_neg (by decide), if_neg (by decide), if_neg (by decide), if_pos rfl] at q ⊢
    rw [e]
    exact q
  · have e := nrX_o (X := X) k2
    have ef : ∀ k, jMf (nrX X) k a = jMf X k a := fun k => by
      unfold jMf
      rw [e]
    rw [e, ef]
    exact q
theorem jR_sm {x : Int} (h : -999999999999999999 ≤ x ∧ x ≤ 999999999999999999) : jR x := ⟨by omega, by omega⟩
theorem cS.nr {g h : mj_H} {n u : Nat} {N : Nat → Int} {H : Nat → Nat → Int} (A : AS N u H) (s : cS g n N u H h) : ∃ (V : Nat → Int) (X : Nat → Nat → Int), jM g n V X h ∧ by0 V ∧ DG X ∧ CR X N u H ∧ ∀ a, cK a = 2 → ∀ j, jR (X a j) := by
  obtain ⟨V, X, m, b, d, e, he, h3, h2, bb, bh, tl⟩ := s
  have k1 : cK 1 ≠ 2 := by decide +kernel
  have kb : ∀ o N', cK o = 10 → gN N' → BN X o N' → BN (nrX X) o N' := fun o N' ko gn q => by
    refine ⟨fun r hr j hj => ?_, ?_, fun k hk => ?_⟩
    · rw [nrX_r (by rw [q.1 r hr j hj]; exact jR_sm (gn.1 _ (by omega)))]
      exact q.1 r hr j hj
    · rw [nrX_o (by rw [ko]; decide)]
      exact q.2.1
    · have p8 := (mK_b8 ko).1.1
      have p9 := (mK_b8 ko).2.1
      rw [nrX_o (by omega), nrX_o (by omega)]
      exact q.2.2 k hk
  refine ⟨V, nrX X, m.nr, b, d.of (fun p kp => nrX_o (by omega)), ⟨e, he, by rw [nrX_o k1]; exact h3, by rw [nrX_o k1]; exact h2, kb 2 N cq_d2 A.1 bb, fun k hk => kb _ _ (cq_eb _ (by omega)) (A.2.2 k hk) (bh k hk), tl.to (fun c hc => nrX_o (by rcases hc with rfl | rfl <;> decide +kernel))⟩, fun a ka j => ?_⟩
  unfold nrX
  rw [if_pos ka]
  exact jR_of _
theorem sBn.deg {X : Nat → Nat → Int} {p i : Nat} {v : Int} (h : cK p = 13) : sBn X (xup X p i v) := by
  have := cK_13 h
  exact ⟨congrFun (xup_oth (by omega)) 2, congrFun (xup_oth (by omega)) 3, fun c hc => xup_oth (by omega)⟩
section MRD
variable {g h : mj_H} {n D : Nat} {V : Nat → Int} {X : Nat → Nat → Int}
theorem mZ_158 (m : jM g n V X h) (b : by0 V) {x : Int} (hx : jR x) : mj_Ok (D + 2) 158 [.ref 1, .long (jl x)] h (fun r => ∃ (V2 : Nat → Int) (z : Int) (h2 : mj_H), jM g n V2 X h2 ∧ by0 V2 ∧ (-2147483648 ≤ z ∧ z ≤ 2147483647) ∧ r = (.inl (some (.int (jn z))), h2)) := by
  refine mj_Ok.of (M := mj_m158) rfl rfl rfl ?_
  refine mj_T.pl rfl rfl rfl rfl ?_
  refine mT_get m 19 cq_d1 (by decide) rfl rfl ?_
  refine mj_T.pl rfl rfl rfl rfl ?_
  refine mj_T.call rfl rfl (Nat.le_of_ble_eq_true rfl) (Nat.le_of_ble_eq_true rfl) (mV_of m 18 cq_d477 (by decide) rfl (by decide) rfl _) rfl (mj_Ok.up (by omega) (mF_86 (D := 0) m b fr_d477 hx)) (fun v g1 hq => ?_) (fun i g1 hq => ?_)
  rotate_left
  · obtain ⟨_, _, _, _, hq⟩ := hq; cases hq
  obtain ⟨V2, _, m3, b4, hq⟩ := hq
  cases hq
  refine mj_T.eq (pc2 := 8) (st2 := []) ?_ rfl rfl rfl rfl
  refine mj_T.pl rfl rfl rfl rfl ?_
  refine mT_get m3 19 cq_d1 (by decide) rfl rfl ?_
  refine jT.lc 1 rfl rfl ?_
  refine mj_T.call rfl rfl (Nat.le_of_ble_eq_true rfl) (Nat.le_of_ble_eq_true rfl) (mV_of m3 18 cq_d479 (by decide) rfl (by decide) rfl _) rfl (mj_Ok.up (by omega) (mF_86 (D := 0) m3 b4 fr_d479 ⟨by decide, by decide⟩)) (fun v g5 hq => ?_) (fun i g5 hq => ?_)
  rotate_left
  · obtain ⟨_, _, _, _, hq⟩ := hq; cases hq
  obtain ⟨V6, _, m7, b8, hq⟩ := hq
  cases hq
  refine mj_T.eq (pc2 := 16) (st2 := []) ?_ rfl rfl rfl rfl
  refine mj_T.pl rfl rfl rfl rfl ?_
  refine mT_get m7 19 cq_d1 (by decide) rfl rfl ?_
  refine mZ_sg m7 cq_d477 rfl (fun z9 rz9 => ?_)
  exact mj_T.ret rfl rfl rfl ⟨_, _, _, m7, b8, rz9, rfl⟩
theorem mZ_159_loop {a : Nat} (fa : frW a) {y t : Int} (hy : jR y) (ht : -2147483648 ≤ t ∧ t ≤ 2147483647) : ∀ (k : Nat) (i : Int), 0 ≤ i ∧ i ≤ 2147483647 → t - i ≤ k → ∀ (l6 : Option Value) (V : Nat → Int) (h : mj_H), jM g n V X h → by0 V → mj_T (D + 3) mj_m159 19 [some (.ref 1), some (.ref a), some (.long (jl y)), none, some (.int (jn t)), some (.int (jn i)), l6, none] [] h (fun r => ∃ (V2 : Nat → Int) (z : Int) (h2 : mj_H), jM g n V2 X h2 ∧ by0 V2 ∧ (-2147483648 ≤ z ∧ z ≤ 2147483647) ∧ r = (.inl (some (.int (jn z))), h2))
  | 0, i, h0, hi, l6, V, h, m, b => by
    iterate 2 refine mj_T.pl rfl rfl rfl rfl ?_
    refine mj_T.icmp (a := i) (b := t) rfl ⟨by omega, by omega⟩ ⟨by omega, by omega⟩ (fun c1 => ?_) (fun c1 => ?_)
    · simp only [jc, Bool.not_eq_true', Bool.not_eq_false', decide_eq_true_eq, decide_eq_false_iff_not] at c1
      refine mj_T.pl rfl rfl rfl rfl ?_
      refine mT_get m 19 cq_d1 (by decide) rfl rfl ?_
      refine mZ_sg m cq_d477 rfl (fun z2 rz2 => ?_)
      exact mj_T.ret rfl rfl rfl ⟨_, _, _, m, b, rz2, rfl⟩
    · exfalso
      simp only [jc, Bool.not_eq_true', Bool.not_eq_false', decide_eq_true_eq, decide_eq_false_iff_not] at c1
      omega
  | k + 1, i, h0, hi, l6, V, h, m, b => by
    iterate 2 refine mj_T.pl rfl rfl rfl rfl ?_
    refine mj_T.icmp (a := i) (b := t) rfl ⟨by omega, by omega⟩ ⟨by omega, by omega⟩ (fun c1 => ?_) (fun c1 => ?_)
    · simp only [jc, Bool.not_eq_true', Bool.not_eq_false', decide_eq_true_eq, decide_eq_false_iff_not] at c1
      refine mj_T.pl rfl rfl rfl rfl ?_
      refine mT_get m 19 cq_d1 (by decide) rfl rfl ?_
      refine mZ_sg m cq_d477 rfl (fun z2 rz2 => ?_)
      exact mj_T.ret rfl rfl rfl ⟨_, _, _, m, b, rz2, rfl⟩
    · simp only [jc, Bool.not_eq_true', Bool.not_eq_false', decide_eq_true_eq, decide_eq_false_iff_not] at c1
      refine mj_T.pl rfl rfl rfl rfl ?_
      refine mT_get m 19 cq_d1 (by decide) rfl rfl ?_
      refine mj_T.pl rfl rfl rfl rfl ?_
      refine mT_get m 19 cq_d1 (by decide) rfl rfl ?_
      refine mj_T.pl rfl rfl rfl rfl ?_
      refine mj_T.call rfl rfl (Nat.le_of_ble_eq_true rfl) (Nat.le_of_ble_eq_true rfl) (mV_of m 11 cq_d19 (by decide) rfl (by decide) rfl _) rfl (mj_Ok.up (by omega) (mZ_23 (D := 0) m b fr_d477 hy)) (fun v g3 hq => ?_) (fun i g3 hq => ?_)
      rotate_left
      · obtain ⟨_, _, _, _, _, _, hq⟩ := hq; cases hq
      obtain ⟨V4, y7, _, m5, b6, jy7, hq⟩ := hq
      cases hq
      refine mj_T.eq (pc2 := 38) (st2 := [.long (jl y7)]) ?_ rfl rfl rfl rfl
      refine mj_T.pl (loc' := [some (.ref 1), some (.ref a), some (.long (jl y)), none, some (.int (jn t)), some (.int (jn i)), some (.long (jl y7)), none]) rfl rfl rfl rfl ?_
      refine mj_T.pl rfl rfl rfl rfl ?_
      refine mT_get m5 19 cq_d1 (by decide) rfl rfl ?_
      refine mj_T.pl rfl rfl rfl rfl ?_
      refine mT_get m5 19 cq_d1 (by decide) rfl rfl ?_
      refine mj_T.pl rfl rfl rfl rfl ?_
      refine mj_T.call rfl rfl (Nat.le_of_ble_eq_true rfl) (Nat.le_of_ble_eq_true rfl) (mV_of m5 11 cq_d19 (by decide) rfl (by decide) rfl _) rfl (mj_Ok.up (by omega) (mZ_25 (D := 0) m5 b6 fr_d477 jy7)) (fun v g8 hq => ?_) (fun i g8 hq => ?_)
      rotate_left
      · obtain ⟨_, _, _, _, hq⟩ := hq; cases hq
      obtain ⟨V9, _, m10, b11, hq⟩ := hq
      cases hq
      refine mj_T.eq (pc2 := 53) (st2 := []) ?_ rfl rfl rfl rfl
      refine mj_T.pl rfl rfl rfl rfl ?_
      refine mT_get m10 19 cq_d1 (by decide) rfl rfl ?_
      refine mj_T.pl rfl rfl rfl rfl ?_
      refine mT_get m10 19 cq_d1 (by decide) rfl rfl ?_
      refine mj_T.pl rfl rfl rfl rfl ?_
      refine jT.lc 0 rfl rfl ?_
      refine mj_T.lif (a := y7) (b := ((0 : Nat) : Int)) rfl rfl jy7 ⟨by omega, by omega⟩ (fun c12 => ?_) (fun c12 => ?_)
      · simp only [jc, Bool.not_eq_true', Bool.not_eq_false', decide_eq_true_eq, decide_eq_false_iff_not] at c12
        iterate 2 refine mj_T.pl rfl rfl rfl rfl ?_
        refine jT.ldiv rfl jy7 (by omega) (fun y13 jy13 => ?_)
        refine mj_T.call rfl rfl (Nat.le_of_ble_eq_true rfl) (Nat.le_of_ble_eq_true rfl) (mV_of m10 11 cq_d19 (by decide) rfl (by decide) rfl _) rfl (mj_Ok.up (by omega) (mZ_24 (D := 0) m10 b11 fr_d479 jy13)) (fun v g14 hq => ?_) (fun i g14 hq => ?_)
        rotate_left
        · obtain ⟨_, _, _, _, hq⟩ := hq; cases hq
        obtain ⟨V15, _, m16, b17, hq⟩ := hq
        cases hq
        refine mj_T.eq (pc2 := 79) (st2 := []) ?_ rfl rfl rfl rfl
        refine mj_T.iinc rfl rfl ?_
        refine mj_T.eq (loc2 := [some (.ref 1), some (.ref a), some (.long (jl y)), none, some (.int (jn t)), some (.int (jn (i + 1))), some (.long (jl y7)), none]) ?_ rfl rfl rfl rfl
        refine mj_T.pl rfl rfl rfl rfl ?_
        exact mZ_159_loop fa hy ht k _ ⟨by omega, by omega⟩ (by omega) _ _ _ m16 b17
      · simp only [jc, Bool.not_eq_true', Bool.not_eq_false', decide_eq_true_eq, decide_eq_false_iff_not] at c12
        iterate 2 refine mj_T.pl rfl rfl rfl rfl ?_
        refine mj_T.call rfl rfl (Nat.le_of_ble_eq_true rfl) (Nat.le_of_ble_eq_true rfl) (mV_of m10 11 cq_d19 (by decide) rfl (by decide) rfl _) rfl (mj_Ok.up (by omega) (mZ_24 (D := 0) m10 b11 fr_d479 hy)) (fun v g18 hq => ?_) (fun i g18 hq => ?_)
        rotate_left
        · obtain ⟨_, _, _, _, hq⟩ := hq; cases hq
        obtain ⟨V19, _, m20, b21, hq⟩ := hq
        cases hq
        refine mj_T.eq (pc2 := 79) (st2 := []) ?_ rfl rfl rfl rfl
        refine mj_T.iinc rfl rfl ?_
        refine mj_T.eq (loc2 := [some (.ref 1), some (.ref a), some (.long (jl y)), none, some (.int (jn t)), some (.int (jn (i + 1))), some (.long (jl y7)), none]) ?_ rfl rfl rfl rfl
        refine mj_T.pl rfl rfl rfl rfl ?_
        exact mZ_159_loop fa hy ht k _ ⟨by omega, by omega⟩ (by omega) _ _ _ m20 b21
theorem mZ_159 (m : jM g n V X h) (b : by0 V) {a : Nat} (fa : frW a) {y t : Int} (hy : jR y) (ht : -2147483648 ≤ t ∧ t ≤ 2147483647) : mj_Ok (D + 4) 159 [.ref 1, .ref a, .long (jl y), .int (jn t)] h (fun r => ∃ (V2 : Nat → Int) (z : Int) (h2 : mj_H), jM g n V2 X h2 ∧ by0 V2 ∧ (-2147483648 ≤ z ∧ z ≤ 2147483647) ∧ r = (.inl (some (.int (jn z))), h2)) := by
  refine mj_Ok.of (M := mj_m159) rfl rfl rfl ?_
  refine mj_T.pl rfl rfl rfl rfl ?_
  refine mT_get m 19 cq_d1 (by decide) rfl rfl ?_
  refine mj_T.pl rfl rfl rfl rfl ?_
  refine mj_T.call rfl rfl (Nat.le_of_ble_eq_true rfl) (Nat.le_of_ble_eq_true rfl) (mV_of m 18 cq_d477 (by decide) rfl (by decide) rfl _) rfl (mj_Ok.up (by omega) (mF_87 (D := 0) m b fr_d477 fa)) (fun v g1 hq => ?_) (fun i g1 hq => ?_)
  rotate_left
  · obtain ⟨_, _, _, _, hq⟩ := hq; cases hq
  obtain ⟨V2, _, m3, b4, hq⟩ := hq
  cases hq
  refine mj_T.eq (pc2 := 8) (st2 := []) ?_ rfl rfl rfl rfl
  refine mj_T.pl rfl rfl rfl rfl ?_
  refine mT_get m3 19 cq_d1 (by decide) rfl rfl ?_
  refine jT.lc 1 rfl rfl ?_
  refine mj_T.call rfl rfl (Nat.le_of_ble_eq_true rfl) (Nat.le_of_ble_eq_true rfl) (mV_of m3 18 cq_d479 (by decide) rfl (by decide) rfl _) rfl (mj_Ok.up (by omega) (mF_86 (D := 0) m3 b4 fr_d479 ⟨by decide, by decide⟩)) (fun v g5 hq => ?_) (fun i g5 hq => ?_)
  rotate_left
  · obtain ⟨_, _, _, _, hq⟩ := hq; cases hq
  obtain ⟨V6, _, m7, b8, hq⟩ := hq
  cases hq
  refine mj_T.eq (pc2 := 16) (st2 := []) ?_ rfl rfl rfl rfl
  refine mj_T.pl rfl rfl rfl rfl ?_
  refine mj_T.pl (loc' := [some (.ref 1), some (.ref a), some (.long (jl y)), none, some (.int (jn t)), some (.int (jn 0)), none, none]) rfl rfl rfl rfl ?_
  exact mZ_159_loop fa hy ht t.toNat 0 ⟨by decide, by decide⟩ (by omega) _ _ _ m7 b8
theorem mZ_18 (m : jM g n V X h) (b : by0 V) (dg : DG X) {p q : Nat} (kp : cK p = 2) (kq : cK q = 2) (hjp : ∀ j, jR (X p j)) (hjq : ∀ j, jR (X q j)) (np : p ≠ 80) (nq : q ≠ 80) : mj_Ok (D + 5) 18 [.ref 19, .ref p, .ref q] h (fun r => ∃ (V2 : Nat → Int) (X2 : Nat → Nat → Int) (z : Int) (h2 : mj_H), jM g n V2 X2 h2 ∧ by0 V2 ∧ DG X2 ∧ sBn X X2 ∧ (z = 0 ∨ z = 1) ∧ r = (.inl (some (.int (jn z))), h2)) := by
  refine mj_Ok.of (M := mj_m18) rfl rfl rfl ?_
  refine mj_T.pl rfl rfl rfl rfl ?_
  refine mT_get m 11 cq_d19 (by decide) rfl rfl ?_
  refine mj_T.pl rfl rfl rfl rfl ?_
  refine jT.lc 1 rfl rfl ?_
  refine mj_T.call rfl rfl (Nat.le_of_ble_eq_true rfl) (Nat.le_of_ble_eq_true rfl) (mV_of m 13 cq_d80 (by decide) rfl (by decide) rfl _) rfl (mj_Ok.up (by omega) (mZ_40 (D := 0) m b cq_d80 kp ⟨by decide, by decide⟩ (fun j => by rw [show X p j = X p j from rfl]; exact hjp j))) (fun v g1 hq => ?_) (fun i g1 hq => ?_)
  rotate_left
  · obtain ⟨_, _, _, _, _, _, hq⟩ := hq; cases hq
  obtain ⟨V2, d5, _, m3, b4, hd5, hq⟩ := hq
  cases hq
  refine mj_T.eq (pc2 := 9) (st2 := []) ?_ rfl rfl rfl rfl
  refine mj_T.pl rfl rfl rfl rfl ?_
  refine mT_get m3 11 cq_d19 (by decide) rfl rfl ?_
  refine mj_T.pl rfl rfl rfl rfl ?_
  refine jT.lc 1 rfl rfl ?_
  refine mj_T.call rfl rfl (Nat.le_of_ble_eq_true rfl) (Nat.le_of_ble_eq_true rfl) (mV_of m3 13 cq_d50 (by decide) rfl (by decide) rfl _) rfl (mj_Ok.up (by omega) (mZ_40 (D := 0) m3 b4 cq_d50 kq ⟨by decide, by decide⟩ (fun j => by rw [xup_oth (by omega)]; exact hjq j))) (fun v g6 hq => ?_) (fun i g6 hq => ?_)
  rotate_left
  · obtain ⟨_, _, _, _, _, _, hq⟩ := hq; cases hq
  obtain ⟨V7, d10, _, m8, b9, hd10, hq⟩ := hq
  cases hq
  refine mj_T.eq (pc2 := 18) (st2 := []) ?_ rfl rfl rfl rfl
  have l20 := mK_z.1
  have l50 := mK_z.2.1
  have l80 := mK_z.2.2.1
  rw [l80] at hd5
  rw [l50] at hd10
  have dd : DG (xup (xup X 80 2 d5) 50 2 d10) := (dg.deg (by rw [l80]; exact hd5)).deg (by rw [l50]; exact hd10)
  have ss : sBn X (xup (xup X 80 2 d5) 50 2 d10) := (sBn.deg cq_d80).tr (sBn.deg cq_d50)
  refine mj_T.pl rfl rfl rfl rfl ?_
  refine mT_get m8 11 cq_d19 (by decide) rfl rfl ?_
  refine mT_get (v := .int (jn d5)) m8 13 cq_d80 (by decide) rfl (congrArg (fun z : Int => some (Value.int (jn z))) ((xup_ne _ _ (Or.inl (by decide))).trans (xup_at _ _ _ _))) ?_
  refine mj_T.pl rfl rfl rfl rfl ?_
  refine mT_get m8 11 cq_d19 (by decide) rfl rfl ?_
  refine mT_get (v := .int (jn d10)) m8 13 cq_d50 (by decide) rfl (congrArg (fun z : Int => some (Value.int (jn z))) (xup_at _ _ _ _)) ?_
  refine mj_T.icmp (a := d5) (b := d10) rfl ⟨by omega, by omega⟩ ⟨by omega, by omega⟩ (fun c11 => ?_) (fun c11 => ?_)
  · simp only [jc, Bool.not_eq_true', Bool.not_eq_false', decide_eq_true_eq, decide_eq_false_iff_not] at c11
    refine mj_T.pl rfl rfl rfl rfl ?_
    refine mT_get m8 11 cq_d19 (by decide) rfl rfl ?_
    refine mT_get (v := .int (jn d5)) m8 13 cq_d80 (by decide) rfl (congrArg (fun z : Int => some (Value.int (jn z))) ((xup_ne _ _ (Or.inl (by decide))).trans (xup_at _ _ _ _))) ?_
    refine mj_T.if0 (a := d5) rfl ⟨by omega, by omega⟩ (fun c12 => ?_) (fun c12 => ?_)
    · simp only [jc, Bool.not_eq_true', Bool.not_eq_false', decide_eq_true_eq, decide_eq_false_iff_not] at c12
      refine mj_T.pl rfl rfl rfl rfl ?_
      exact mj_T.ret rfl rfl rfl ⟨_, _, 0, _, m8, b9, dd, ss, by decide, rfl⟩
    · simp only [jc, Bool.not_eq_true', Bool.not_eq_false', decide_eq_true_eq, decide_eq_false_iff_not] at c12
      iterate 2 refine mj_T.pl rfl rfl rfl rfl ?_
      exact mj_T.ret rfl rfl rfl ⟨_, _, 1, _, m8, b9, dd, ss, by decide, rfl⟩
  · simp only [jc, Bool.not_eq_true', Bool.not_eq_false', decide_eq_true_eq, decide_eq_false_iff_not] at c11
    refine mj_T.pl rfl rfl rfl rfl ?_
    refine mT_get m8 11 cq_d19 (by decide) rfl rfl ?_
    refine mT_get (v := .int (jn d10)) m8 13 cq_d50 (by decide) rfl (congrArg (fun z : Int => some (Value.int (jn z))) (xup_at _ _ _ _)) ?_
    refine mj_T.if0 (a := d10) rfl ⟨by omega, by omega⟩ (fun c13 => ?_) (fun c13 => ?_)
    · simp only [jc, Bool.not_eq_true', Bool.not_eq_false', decide_eq_true_eq, decide_eq_false_iff_not] at c13
      iterate 2 refine mj_T.pl rfl rfl rfl rfl ?_
      refine mT_get m8 11 cq_d19 (by decide) rfl rfl ?_
      refine mj_T.pl rfl rfl rfl rfl ?_
      refine mT_get m8 11 cq_d19 (by decide) rfl rfl ?_
      refine mj_T.call rfl rfl (Nat.le_of_ble_eq_true rfl) (Nat.le_of_ble_eq_true rfl) (mV_of m8 11 cq_d19 (by decide) rfl (by decide) rfl _) rfl (mj_Ok.up (by omega) (mZ_19 (D := 0) m8 b9 (dq := d10.toNat) (dr := d5.toNat) (by rw [xup_at]; omega) (by rw [xup_ne _ _ (Or.inl (by decide)), xup_at]; omega) (by omega) (by omega))) (fun v g14 hq => ?_) (fun i g14 hq => ?_)
      rotate_left
      · obtain ⟨_, _, _, _, _, _, _, _, _, _, hq⟩ := hq; cases hq
      obtain ⟨V9, X9, c9, _, m9, b9, e9, q20, q80, hc9, hq⟩ := hq
      cases hq
      refine mj_T.eq (pc2 := 73) (st2 := [.int (jn c9)]) ?_ rfl rfl rfl rfl
      have d2 : DG X9 := fun p kp => by
        by_cases p1 : p = 20
        · subst p1
          exact q20
        by_cases p2 : p = 80
        · subst p2
          exact q80
        rw [e9 p p1 p2]
        exact dd p kp
      have s2 : sBn X X9 := ss.tr ⟨congrFun (e9 1 (by decide) (by decide)) 2, congrFun (e9 1 (by decide) (by decide)) 3, fun c hc => e9 c (by omega) (by omega)⟩
      rcases (show c9 = 0 ∨ c9 = 1 by omega) with rfl | rfl
      · exact mj_T.ret rfl rfl rfl ⟨_, _, 0, _, m9, b9, d2, s2, Or.inl rfl, rfl⟩
      · exact mj_T.ret rfl rfl rfl ⟨_, _, 1, _, m9, b9, d2, s2, Or.inr rfl, rfl⟩
    · simp only [jc, Bool.not_eq_true', Bool.not_eq_false', decide_eq_true_eq, decide_eq_false_iff_not] at c13
      refine mj_T.pl rfl rfl rfl rfl ?_
      refine mT_get m8 11 cq_d19 (by decide) rfl rfl ?_
      refine mT_get (v := .int (jn d5)) m8 13 cq_d80 (by decide) rfl (congrArg (fun z : Int => some (Value.int (jn z))) ((xup_ne _ _ (Or.inl (by decide))).trans (xup_at _ _ _ _))) ?_
      refine mj_T.if0 (a := d5) rfl ⟨by omega, by omega⟩ (fun c15 => ?_) (fun c15 => ?_)
      · simp only [jc, Bool.not_eq_true', Bool.not_eq_false', decide_eq_true_eq, decide_eq_false_iff_not] at c15
        refine mj_T.pl rfl rfl rfl rfl ?_
        exact mj_T.ret rfl rfl rfl ⟨_, _, 0, _, m8, b9, dd, ss, by decide, rfl⟩
      · simp only [jc, Bool.not_eq_true', Bool.not_eq_false', decide_eq_true_eq, decide_eq_false_iff_not] at c15
        iterate 2 refine mj_T.pl rfl rfl rfl rfl ?_
        exact mj_T.ret rfl rfl rfl ⟨_, _, 1, _, m8, b9, dd, ss, by decide, rfl⟩
end MRD
/-! The class: calls that only read leave the benches. -/
def rjR (X : Nat → Nat → Int) : Prop := ∀ a, cK a = 2 → ∀ j, jR (X a j)
theorem rjR.deg {X : Nat → Nat → Int} (q : rjR X) {p i : Nat} {v : Int} (h : cK p = 13) : rjR (xup X p i v) := fun a ka j => by
  rw [xup_oth (fun e => by rw [e, h] at ka; cases ka)]
  exact q a ka j
theorem cq_2 : ((List.range 563).all (fun c => !(decide (cK c = 2)) || (decide (c < 180 ∨ 444 ≤ c)))) = true := by decide +kernel
theorem rjR.fx {X X1 : Nat → Nat → Int} (q : rjR X) (f : FX X X1) : rjR X1 := fun a ka j => by
  have h1 := jall cq_2 (cK_in (a := a) (by omega))
  simp only [ka, decide_true, Bool.not_true, Bool.false_or, decide_eq_true_eq] at h1
  rw [f a (by omega) (by omega) (by omega) h1]
  exact q a ka j
section MRP
variable {g h : mj_H} {n D u : Nat} {N : Nat → Int} {H : Nat → Nat → Int}
theorem pX_coefficient (hg : g.length ≤ n) (A : AS N u H) (s : cS g n N u H h) {a : Int} (ra : -2147483648 ≤ a ∧ a ≤ 2147483647) {e : Int} (re : -2147483648 ≤ e ∧ e ≤ 2147483647) : mj_Ok (D + 3) 122 [.ref 1, .int (jn a), .int (jn e)] h (rdL g n N u H) := by
  obtain ⟨V, X, m, b, d, c, jx⟩ := s.nr A
  have jx : rjR X := jx
  refine mj_Ok.of (M := mj_m122) rfl rfl rfl ?_
  iterate 2 refine mj_T.pl rfl rfl rfl rfl ?_
  refine mj_T.call rfl rfl (Nat.le_of_ble_eq_true rfl) (Nat.le_of_ble_eq_true rfl) (mV_of m 19 cq_d1 (by decide) rfl (by decide) rfl _) rfl (mj_Ok.up (by omega) (mC_rowOf (D := 0) m (i := a) (by omega))) (fun v g1 hq => ?_) (fun i g1 hq => ?_)
  rotate_left
  · rcases hq with ⟨_, hq⟩ | ⟨hn, hq⟩
    · cases hq
    · cases hq
      exact Or.inl ⟨rfl, Or.inr ⟨_, _, cS.thr hg m b d (c.sb (sBn.rf X)), rfl⟩⟩
  rcases hq with ⟨ka, hq⟩ | ⟨_, hq⟩
  rotate_left
  · cases hq
  cases hq
  refine mj_T.eq (pc2 := 5) (st2 := [.ref (4 + a.toNat)]) ?_ rfl rfl rfl rfl
  refine mj_T.pl (loc' := [some (.ref 1), some (.int (jn a)), some (.int (jn e)), some (.ref (4 + a.toNat))]) rfl rfl rfl rfl ?_
  refine mj_T.pl rfl rfl rfl rfl ?_
  refine mj_T.call rfl rfl (Nat.le_of_ble_eq_true rfl) (Nat.le_of_ble_eq_true rfl) rfl rfl (mj_Ok.up (by omega) (mC_exponent (D := 0) (i := e) (by omega))) (fun v g2 hq => ?_) (fun i g2 hq => ?_)
  rotate_left
  · rcases hq with ⟨_, hq⟩ | ⟨hn, hq⟩
    · cases hq
    · cases hq
      exact Or.inl ⟨rfl, Or.inr ⟨_, _, cS.thr hg m b d (c.sb (sBn.rf X)), rfl⟩⟩
  rcases hq with ⟨ke, hq⟩ | ⟨_, hq⟩
  rotate_left
  · cases hq
  cases hq
  refine mj_T.eq (pc2 := 10) (st2 := []) ?_ rfl rfl rfl rfl
  iterate 3 refine mj_T.pl rfl rfl rfl rfl ?_
  refine mT_lald m (mK_rt a.toNat (by omega)) rfl ⟨by omega, by omega⟩ ?_
  refine mj_T.call rfl rfl (Nat.le_of_ble_eq_true rfl) (Nat.le_of_ble_eq_true rfl) (mV_of m 19 cq_d1 (by decide) rfl (by decide) rfl _) rfl (mj_Ok.up (by omega) (mZ_158 (D := 0) m b (jx _ (mK_rt a.toNat (by omega)) _))) (fun v g3 hq => ?_) (fun i g3 hq => ?_)
  rotate_left
  · obtain ⟨_, _, _, _, _, _, hq⟩ := hq; cases hq
  obtain ⟨V4, z7, _, m5, b6, rz7, hq⟩ := hq
  cases hq
  refine mj_T.eq (pc2 := 17) (st2 := [.int (jn z7)]) ?_ rfl rfl rfl rfl
  exact mj_T.ret rfl rfl rfl (Or.inl ⟨_, _, ⟨_, _, m5, b6, d, (c.sb (sBn.rf X))⟩, rfl⟩)
theorem pX_content (hg : g.length ≤ n) (A : AS N u H) (s : cS g n N u H h) {a : Int} (ra : -2147483648 ≤ a ∧ a ≤ 2147483647) : mj_Ok (D + 3) 123 [.ref 1, .int (jn a)] h (rdL g n N u H) := by
  obtain ⟨V, X, m, b, d, c, jx⟩ := s.nr A
  have jx : rjR X := jx
  refine mj_Ok.of (M := mj_m123) rfl rfl rfl ?_
  iterate 3 refine mj_T.pl rfl rfl rfl rfl ?_
  refine mj_T.call rfl rfl (Nat.le_of_ble_eq_true rfl) (Nat.le_of_ble_eq_true rfl) (mV_of m 19 cq_d1 (by decide) rfl (by decide) rfl _) rfl (mj_Ok.up (by omega) (mC_rowOf (D := 0) m (i := a) (by omega))) (fun v g1 hq => ?_) (fun i g1 hq => ?_)
  rotate_left
  · rcases hq with ⟨_, hq⟩ | ⟨hn, hq⟩
    · cases hq
    · cases hq
      exact Or.inl ⟨rfl, Or.inr ⟨_, _, cS.thr hg m b d (c.sb (sBn.rf X)), rfl⟩⟩
  rcases hq with ⟨ka, hq⟩ | ⟨_, hq⟩
  rotate_left
  · cases hq
  cases hq
  refine mj_T.eq (pc2 := 6) (st2 := [.ref (4 + a.toNat), .ref 1]) ?_ rfl rfl rfl rfl
  refine mj_T.call rfl rfl (Nat.le_of_ble_eq_true rfl) (Nat.le_of_ble_eq_true rfl) rfl rfl (mj_Ok.up (by omega) (mS_cont (D := 0) m (mK_rt a.toNat (by omega)) ((c.sb (sBn.rf X)).sm A.1 ka))) (fun v g2 hq => ?_) (fun i g2 hq => ?_)
  rotate_left
  · cases hq
  cases hq
  have hcg : cgd (X (4 + a.toNat)) 13 ≤ 999999999999999999 := cgd_bd 13 ((c.sb (sBn.rf X)).sm A.1 ka)
  refine mj_T.eq (pc2 := 9) (st2 := [.long (jl ((cgd (X (4 + a.toNat)) 13 : Nat) : Int)), .ref 1]) ?_ rfl rfl rfl rfl
  refine mj_T.call rfl rfl (Nat.le_of_ble_eq_true rfl) (Nat.le_of_ble_eq_true rfl) (mV_of m 19 cq_d1 (by decide) rfl (by decide) rfl _) rfl (mj_Ok.up (by omega) (mZ_158 (D := 0) m b ⟨by omega, by omega⟩)) (fun v g3 hq => ?_) (fun i g3 hq => ?_)
  rotate_left
  · obtain ⟨_, _, _, _, _, _, hq⟩ := hq; cases hq
  obtain ⟨V4, z7, _, m5, b6, rz7, hq⟩ := hq
  cases hq
  refine mj_T.eq (pc2 := 12) (st2 := [.int (jn z7)]) ?_ rfl rfl rfl rfl
  exact mj_T.ret rfl rfl rfl (Or.inl ⟨_, _, ⟨_, _, m5, b6, d, (c.sb (sBn.rf X))⟩, rfl⟩)
theorem pX_value (hg : g.length ≤ n) (A : AS N u H) (s : cS g n N u H h) {a : Int} (ra : -2147483648 ≤ a ∧ a ≤ 2147483647) {f1 : Int} (rf1 : -2147483648 ≤ f1 ∧ f1 ≤ 2147483647) {f2 : Int} (rf2 : -2147483648 ≤ f2 ∧ f2 ≤ 2147483647) : mj_Ok (D + 6) 124 [.ref 1, .int (jn a), .int (jn f1), .int (jn f2)] h (rdL g n N u H) := by
  obtain ⟨V, X, m, b, d, c, jx⟩ := s.nr A
  have jx : rjR X := jx
  refine mj_Ok.of (M := mj_m124) rfl rfl rfl ?_
  iterate 2 refine mj_T.pl rfl rfl rfl rfl ?_
  refine mj_T.call rfl rfl (Nat.le_of_ble_eq_true rfl) (Nat.le_of_ble_eq_true rfl) (mV_of m 19 cq_d1 (by decide) rfl (by decide) rfl _) rfl (mj_Ok.up (by omega) (mC_rowOf (D := 0) m (i := a) (by omega))) (fun v g1 hq => ?_) (fun i g1 hq => ?_)
  rotate_left
  · rcases hq with ⟨_, hq⟩ | ⟨hn, hq⟩
    · cases hq
    · cases hq
      exact Or.inl ⟨rfl, Or.inr ⟨_, _, cS.thr hg m b d (c.sb (sBn.rf X)), rfl⟩⟩
  rcases hq with ⟨ka, hq⟩ | ⟨_, hq⟩
  rotate_left
  · cases hq
  cases hq
  refine mj_T.eq (pc2 := 5) (st2 := [.ref (4 + a.toNat)]) ?_ rfl rfl rfl rfl
  refine mj_T.pl (loc' := [some (.ref 1), some (.int (jn a)), some (.int (jn f1)), some (.int (jn f2)), some (.ref (4 + a.toNat))]) rfl rfl rfl rfl ?_
  iterate 2 refine mj_T.pl rfl rfl rfl rfl ?_
  refine mj_T.call rfl rfl (Nat.le_of_ble_eq_true rfl) (Nat.le_of_ble_eq_true rfl) rfl rfl (mj_Ok.up (by omega) (mC_fraction (D := 0) (i := f1) (j := f2) (by omega) (by omega))) (fun v g2 hq => ?_) (fun i g2 hq => ?_)
  rotate_left
  · rcases hq with ⟨_, hq⟩ | ⟨hn, hq⟩
    · cases hq
    · cases hq
      exact Or.inl ⟨rfl, Or.inr ⟨_, _, cS.thr hg m b d (c.sb (sBn.rf X)), rfl⟩⟩
  rcases hq with ⟨kff1, hq⟩ | ⟨_, hq⟩
  rotate_left
  · cases hq
  cases hq
  refine mj_T.eq (pc2 := 12) (st2 := []) ?_ rfl rfl rfl rfl
  refine mj_T.pl rfl rfl rfl rfl ?_
  refine mT_get m 19 cq_d1 (by decide) rfl rfl ?_
  iterate 3 refine mj_T.pl rfl rfl rfl rfl ?_
  refine mj_T.call rfl rfl (Nat.le_of_ble_eq_true rfl) (Nat.le_of_ble_eq_true rfl) (mV_of m 11 cq_d19 (by decide) rfl (by decide) rfl _) rfl (mj_Ok.up (by omega) (mZ_27 (D := 0) m b (mK_rt a.toNat (by omega)) (jx _ (mK_rt a.toNat (by omega))) (x := f1) (y := f2) ⟨by omega, by omega⟩ ⟨by omega, by omega⟩)) (fun v g3 hq => ?_) (fun i g3 hq => ?_)
  rotate_left
  · obtain ⟨_, _, _, _, _, _, _, _, hq⟩ := hq; cases hq
  obtain ⟨V4, e7, z8, _, m5, b6, he7, rz8, hq⟩ := hq
  cases hq
  refine mj_T.eq (pc2 := 23) (st2 := [.int (jn z8)]) ?_ rfl rfl rfl rfl
  iterate 3 refine mj_T.pl rfl rfl rfl rfl ?_
  refine mT_get m5 19 cq_d1 (by decide) rfl rfl ?_
  refine mT_get m5 11 cq_d19 (by decide) rfl rfl ?_
  refine mj_T.pl rfl rfl rfl rfl ?_
  refine mj_T.i2l rfl ⟨by omega, by omega⟩ ?_
  refine mj_T.pl rfl rfl rfl rfl ?_
  refine mj_T.call rfl rfl (Nat.le_of_ble_eq_true rfl) (Nat.le_of_ble_eq_true rfl) rfl rfl (mj_Ok.up (by omega) (mS_deg (D := 0) m5 (mK_rt a.toNat (by omega)) ((c.sb ((sBn.rf X).tr (sBn.deg cq_d80))).sm A.1 ka))) (fun v g9 hq => ?_) (fun i g9 hq => ?_)
  rotate_left
  · cases hq
  cases hq
  have ga := fdg_le ((xup X 80 2 e7) (4 + a.toNat)) 13
  refine mj_T.eq (pc2 := 39) (st2 := [.int (jn (((fdg ((xup X 80 2 e7) (4 + a.toNat)) 13) : Int) - 1)), .long (jl f2), .ref 164, .ref 1]) ?_ rfl rfl rfl rfl
  refine mj_T.call rfl rfl (Nat.le_of_ble_eq_true rfl) (Nat.le_of_ble_eq_true rfl) (mV_of m5 19 cq_d1 (by decide) rfl (by decide) rfl _) rfl (mj_Ok.up (by omega) (mZ_159 (D := 0) m5 b6 fr_d164 ⟨by omega, by omega⟩ ⟨by omega, by omega⟩)) (fun v g10 hq => ?_) (fun i g10 hq => ?_)
  rotate_left
  · obtain ⟨_, _, _, _, _, _, hq⟩ := hq; cases hq
  obtain ⟨V11, z14, _, m12, b13, rz14, hq⟩ := hq
  cases hq
  refine mj_T.eq (pc2 := 42) (st2 := [.int (jn z14)]) ?_ rfl rfl rfl rfl
  exact mj_T.ret rfl rfl rfl (Or.inl ⟨_, _, ⟨_, _, m12, b13, (d.deg he7), (c.sb ((sBn.rf X).tr (sBn.deg cq_d80)))⟩, rfl⟩)
theorem pX_divides (hg : g.length ≤ n) (A : AS N u H) (s : cS g n N u H h) {a : Int} (ra : -2147483648 ≤ a ∧ a ≤ 2147483647) {a2 : Int} (ra2 : -2147483648 ≤ a2 ∧ a2 ≤ 2147483647) : mj_Ok (D + 6) 125 [.ref 1, .int (jn a), .int (jn a2)] h (rdL g n N u H) := by
  obtain ⟨V, X, m, b, d, c, jx⟩ := s.nr A
  have jx : rjR X := jx
  refine mj_Ok.of (M := mj_m125) rfl rfl rfl ?_
  iterate 2 refine mj_T.pl rfl rfl rfl rfl ?_
  refine mj_T.call rfl rfl (Nat.le_of_ble_eq_true rfl) (Nat.le_of_ble_eq_true rfl) (mV_of m 19 cq_d1 (by decide) rfl (by decide) rfl _) rfl (mj_Ok.up (by omega) (mC_rowOf (D := 0) m (i := a) (by omega))) (fun v g1 hq => ?_) (fun i g1 hq => ?_)
  rotate_left
  · rcases hq with ⟨_, hq⟩ | ⟨hn, hq⟩
    · cases hq
    · cases hq
      exact Or.inl ⟨rfl, Or.inr ⟨_, _, cS.thr hg m b d (c.sb (sBn.rf X)), rfl⟩⟩
  rcases hq with ⟨ka, hq⟩ | ⟨_, hq⟩
  rotate_left
  · cases hq
  cases hq
  refine mj_T.eq (pc2 := 5) (st2 := [.ref (4 + a.toNat)]) ?_ rfl rfl rfl rfl
  refine mj_T.pl (loc' := [some (.ref 1), some (.int (jn a)), some (.int (jn a2)), some (.ref (4 + a.toNat)), none]) rfl rfl rfl rfl ?_
  iterate 2 refine mj_T.pl rfl rfl rfl rfl ?_
  refine mj_T.call rfl rfl (Nat.le_of_ble_eq_true rfl) (Nat.le_of_ble_eq_true rfl) (mV_of m 19 cq_d1 (by decide) rfl (by decide) rfl _) rfl (mj_Ok.up (by omega) (mC_rowOf (D := 0) m (i := a2) (by omega))) (fun v g2 hq => ?_) (fun i g2 hq => ?_)
  rotate_left
  · rcases hq with ⟨_, hq⟩ | ⟨hn, hq⟩
    · cases hq
    · cases hq
      exact Or.inl ⟨rfl, Or.inr ⟨_, _, cS.thr hg m b d (c.sb (sBn.rf X)), rfl⟩⟩
  rcases hq with ⟨ka2, hq⟩ | ⟨_, hq⟩
  rotate_left
  · cases hq
  cases hq
  refine mj_T.eq (pc2 := 11) (st2 := [.ref (4 + a2.toNat)]) ?_ rfl rfl rfl rfl
  refine mj_T.pl (loc' := [some (.ref 1), some (.int (jn a)), some (.int (jn a2)), some (.ref (4 + a.toNat)), some (.ref (4 + a2.toNat))]) rfl rfl rfl rfl ?_
  refine mj_T.pl rfl rfl rfl rfl ?_
  refine mT_get m 19 cq_d1 (by decide) rfl rfl ?_
  iterate 2 refine mj_T.pl rfl rfl rfl rfl ?_
  refine mj_T.call rfl rfl (Nat.le_of_ble_eq_true rfl) (Nat.le_of_ble_eq_true rfl) (mV_of m 11 cq_d19 (by decide) rfl (by decide) rfl _) rfl (mj_Ok.up (by omega) (mZ_18 (D := 0) m b d (mK_rt a2.toNat (by omega)) (mK_rt a.toNat (by omega)) (jx _ (mK_rt a2.toNat (by omega))) (jx _ (mK_rt a.toNat (by omega))) (by omega) (by omega))) (fun v g3 hq => ?_) (fun i g3 hq => ?_)
  rotate_left
  · obtain ⟨_, _, _, _, _, _, _, _, _, hq⟩ := hq; cases hq
  obtain ⟨V4, X7, z10, _, m5, b6, d8, s9, rz10, hq⟩ := hq
  cases hq
  refine mj_T.eq (pc2 := 23) (st2 := [.int (jn z10)]) ?_ rfl rfl rfl rfl
  rcases rz10 with rfl | rfl
  · exact mj_T.ret rfl rfl rfl (Or.inl ⟨_, _, ⟨_, _, m5, b6, d8, (c.sb ((sBn.rf X).tr s9))⟩, rfl⟩)
  · exact mj_T.ret rfl rfl rfl (Or.inl ⟨_, _, ⟨_, _, m5, b6, d8, (c.sb ((sBn.rf X).tr s9))⟩, rfl⟩)
theorem pX_realRoots (hg : g.length ≤ n) (A : AS N u H) (s : cS g n N u H h) {a : Int} (ra : -2147483648 ≤ a ∧ a ≤ 2147483647) : mj_Ok (D + 8) 131 [.ref 1, .int (jn a)] h (rdL g n N u H) := by
  obtain ⟨V, X, m, b, d, c, jx⟩ := s.nr A
  have jx : rjR X := jx
  refine mj_Ok.of (M := mj_m131) rfl rfl rfl ?_
  iterate 2 refine mj_T.pl rfl rfl rfl rfl ?_
  refine mj_T.call rfl rfl (Nat.le_of_ble_eq_true rfl) (Nat.le_of_ble_eq_true rfl) (mV_of m 19 cq_d1 (by decide) rfl (by decide) rfl _) rfl (mj_Ok.up (by omega) (mC_rowOf (D := 0) m (i := a) (by omega))) (fun v g1 hq => ?_) (fun i g1 hq => ?_)
  rotate_left
  · rcases hq with ⟨_, hq⟩ | ⟨hn, hq⟩
    · cases hq
    · cases hq
      exact Or.inl ⟨rfl, Or.inr ⟨_, _, cS.thr hg m b d (c.sb (sBn.rf X)), rfl⟩⟩
  rcases hq with ⟨ka, hq⟩ | ⟨_, hq⟩
  rotate_left
  · cases hq
  cases hq
  refine mj_T.eq (pc2 := 5) (st2 := [.ref (4 + a.toNat)]) ?_ rfl rfl rfl rfl
  refine mj_T.pl (loc' := [some (.ref 1), some (.int (jn a)), some (.ref (4 + a.toNat))]) rfl rfl rfl rfl ?_
  refine mj_T.pl rfl rfl rfl rfl ?_
  refine mj_T.call rfl rfl (Nat.le_of_ble_eq_true rfl) (Nat.le_of_ble_eq_true rfl) rfl rfl (mj_Ok.up (by omega) (mC_zero (D := 0) m (mK_rt a.toNat (by omega)) ((c.sb (sBn.rf X)).sm A.1 ka))) (fun v g2 hq => ?_) (fun i g2 hq => ?_)
  rotate_left
  · rcases hq with ⟨_, hq⟩ | ⟨hn, hq⟩
    · cases hq
    · cases hq
      exact Or.inl ⟨rfl, Or.inr ⟨_, _, cS.thr hg m b d (c.sb (sBn.rf X)), rfl⟩⟩
  rcases hq with ⟨kz, hq⟩ | ⟨_, hq⟩
  rotate_left
  · cases hq
  cases hq
  refine mj_T.eq (pc2 := 10) (st2 := []) ?_ rfl rfl rfl rfl
  refine mj_T.pl rfl rfl rfl rfl ?_
  refine mT_get m 19 cq_d1 (by decide) rfl rfl ?_
  iterate 2 refine mj_T.pl rfl rfl rfl rfl ?_
  refine mj_T.call rfl rfl (Nat.le_of_ble_eq_true rfl) (Nat.le_of_ble_eq_true rfl) rfl rfl (mj_Ok.up (by omega) (mS_cont (D := 0) m (mK_rt a.toNat (by omega)) ((c.sb (sBn.rf X)).sm A.1 ka))) (fun v g3 hq => ?_) (fun i g3 hq => ?_)
  rotate_left
  · cases hq
  cases hq
  have hcg : cgd (X (4 + a.toNat)) 13 ≤ 999999999999999999 := cgd_bd 13 ((c.sb (sBn.rf X)).sm A.1 ka)
  refine mj_T.eq (pc2 := 19) (st2 := [.long (jl ((cgd (X (4 + a.toNat)) 13 : Nat) : Int)), .ref (4 + a.toNat), .ref 172]) ?_ rfl rfl rfl rfl
  refine mj_T.call rfl rfl (Nat.le_of_ble_eq_true rfl) (Nat.le_of_ble_eq_true rfl) (mV_of m 16 cq_d172 (by decide) rfl (by decide) rfl _) rfl (mj_Ok.up (by omega) (mZ_68 (D := 0) m b d (mK_rt a.toNat (by omega)) ⟨by omega, by omega⟩ (jx _ (mK_rt a.toNat (by omega))))) (fun v g4 hq => ?_) (fun i g4 hq => ?_)
  rotate_left
  · obtain ⟨_, _, _, _, _, _, _, hq⟩ := hq; cases hq
  obtain ⟨V5, X8, _, m6, b7, f9, d10, hq⟩ := hq
  cases hq
  refine mj_T.eq (pc2 := 22) (st2 := []) ?_ rfl rfl rfl rfl
  refine mj_T.pl rfl rfl rfl rfl ?_
  refine mT_get m6 19 cq_d1 (by decide) rfl rfl ?_
  refine mj_T.pl rfl rfl rfl rfl ?_
  refine mj_T.call rfl rfl (Nat.le_of_ble_eq_true rfl) (Nat.le_of_ble_eq_true rfl) (mV_of m6 16 cq_d172 (by decide) rfl (by decide) rfl _) rfl (mj_Ok.up (by omega) (mZ_77 (D := 0) m6 d10 (s := (-1)) ⟨by omega, by omega⟩)) (fun v g11 hq => ?_) (fun i g11 hq => ?_)
  rotate_left
  · obtain ⟨_, _, hq⟩ := hq; cases hq
  obtain ⟨z12, rz12, hq⟩ := hq
  cases hq
  refine mj_T.eq (pc2 := 30) (st2 := [.int (jn z12)]) ?_ rfl rfl rfl rfl
  refine mj_T.pl rfl rfl rfl rfl ?_
  refine mT_get m6 19 cq_d1 (by decide) rfl rfl ?_
  refine mj_T.pl rfl rfl rfl rfl ?_
  refine mj_T.call rfl rfl (Nat.le_of_ble_eq_true rfl) (Nat.le_of_ble_eq_true rfl) (mV_of m6 16 cq_d172 (by decide) rfl (by decide) rfl _) rfl (mj_Ok.up (by omega) (mZ_77 (D := 0) m6 d10 (s := 1) ⟨by omega, by omega⟩)) (fun v g13 hq => ?_) (fun i g13 hq => ?_)
  rotate_left
  · obtain ⟨_, _, hq⟩ := hq; cases hq
  obtain ⟨z14, rz14, hq⟩ := hq
  cases hq
  refine mj_T.eq (pc2 := 38) (st2 := [.int (jn z14), .int (jn z12)]) ?_ rfl rfl rfl rfl
  refine mj_T.isub (a := z12) (b := z14) rfl ?_
  exact mj_T.ret rfl rfl rfl (Or.inl ⟨_, _, ⟨_, _, m6, b7, d10, (c.sb ((sBn.rf X).tr (sBn.fx f9)))⟩, rfl⟩)
theorem pX_rootsBetween (hg : g.length ≤ n) (A : AS N u H) (s : cS g n N u H h) {a : Int} (ra : -2147483648 ≤ a ∧ a ≤ 2147483647) {f1 : Int} (rf1 : -2147483648 ≤ f1 ∧ f1 ≤ 2147483647) {f2 : Int} (rf2 : -2147483648 ≤ f2 ∧ f2 ≤ 2147483647) {f3 : Int} (rf3 : -2147483648 ≤ f3 ∧ f3 ≤ 2147483647) {f4 : Int} (rf4 : -2147483648 ≤ f4 ∧ f4 ≤ 2147483647) : mj_Ok (D + 8) 132 [.ref 1, .int (jn a), .int (jn f1), .int (jn f2), .int (jn f3), .int (jn f4)] h (rdL g n N u H) := by
  obtain ⟨V, X, m, b, d, c, jx⟩ := s.nr A
  have jx : rjR X := jx
  refine mj_Ok.of (M := mj_m132) rfl rfl rfl ?_
  iterate 2 refine mj_T.pl rfl rfl rfl rfl ?_
  refine mj_T.call rfl rfl (Nat.le_of_ble_eq_true rfl) (Nat.le_of_ble_eq_true rfl) (mV_of m 19 cq_d1 (by decide) rfl (by decide) rfl _) rfl (mj_Ok.up (by omega) (mC_rowOf (D := 0) m (i := a) (by omega))) (fun v g1 hq => ?_) (fun i g1 hq => ?_)
  rotate_left
  · rcases hq with ⟨_, hq⟩ | ⟨hn, hq⟩
    · cases hq
    · cases hq
      exact Or.inl ⟨rfl, Or.inr ⟨_, _, cS.thr hg m b d (c.sb (sBn.rf X)), rfl⟩⟩
  rcases hq with ⟨ka, hq⟩ | ⟨_, hq⟩
  rotate_left
  · cases hq
  cases hq
  refine mj_T.eq (pc2 := 5) (st2 := [.ref (4 + a.toNat)]) ?_ rfl rfl rfl rfl
  refine mj_T.pl (loc' := [some (.ref 1), some (.int (jn a)), some (.int (jn f1)), some (.int (jn f2)), some (.int (jn f3)), some (.int (jn f4)), some (.ref (4 + a.toNat))]) rfl rfl rfl rfl ?_
  iterate 2 refine mj_T.pl rfl rfl rfl rfl ?_
  refine mj_T.call rfl rfl (Nat.le_of_ble_eq_true rfl) (Nat.le_of_ble_eq_true rfl) rfl rfl (mj_Ok.up (by omega) (mC_fraction (D := 0) (i := f1) (j := f2) (by omega) (by omega))) (fun v g2 hq => ?_) (fun i g2 hq => ?_)
  rotate_left
  · rcases hq with ⟨_, hq⟩ | ⟨hn, hq⟩
    · cases hq
    · cases hq
      exact Or.inl ⟨rfl, Or.inr ⟨_, _, cS.thr hg m b d (c.sb (sBn.rf X)), rfl⟩⟩
  rcases hq with ⟨kff1, hq⟩ | ⟨_, hq⟩
  rotate_left
  · cases hq
  cases hq
  refine mj_T.eq (pc2 := 12) (st2 := []) ?_ rfl rfl rfl rfl
  iterate 2 refine mj_T.pl rfl rfl rfl rfl ?_
  refine mj_T.call rfl rfl (Nat.le_of_ble_eq_true rfl) (Nat.le_of_ble_eq_true rfl) rfl rfl (mj_Ok.up (by omega) (mC_fraction (D := 0) (i := f3) (j := f4) (by omega) (by omega))) (fun v g3 hq => ?_) (fun i g3 hq => ?_)
  rotate_left
  · rcases hq with ⟨_, hq⟩ | ⟨hn, hq⟩
    · cases hq
    · cases hq
      exact Or.inl ⟨rfl, Or.inr ⟨_, _, cS.thr hg m b d (c.sb (sBn.rf X)), rfl⟩⟩
  rcases hq with ⟨kff3, hq⟩ | ⟨_, hq⟩
  rotate_left
  · cases hq
  cases hq
  refine mj_T.eq (pc2 := 19) (st2 := []) ?_ rfl rfl rfl rfl
  iterate 2 refine mj_T.pl rfl rfl rfl rfl ?_
  refine mj_T.imul (a := f1) (b := f4) rfl ?_
  refine jT.anyI (fun z4 rz4 => ?_)
  iterate 2 refine mj_T.pl rfl rfl rfl rfl ?_
  refine mj_T.imul (a := f3) (b := f2) rfl ?_
  refine jT.anyI (fun z5 rz5 => ?_)
  refine mj_T.icmp (a := z4) (b := z5) rfl ⟨by omega, by omega⟩ ⟨by omega, by omega⟩ (fun c6 => ?_) (fun c6 => ?_)
  · simp only [jc, Bool.not_eq_true', Bool.not_eq_false', decide_eq_true_eq, decide_eq_false_iff_not] at c6
    refine mj_T.pl rfl rfl rfl rfl ?_
    refine mj_T.call rfl rfl (Nat.le_of_ble_eq_true rfl) (Nat.le_of_ble_eq_true rfl) rfl rfl (mj_Ok.up (by omega) (mC_zero (D := 0) m (mK_rt a.toNat (by omega)) ((c.sb (sBn.rf X)).sm A.1 ka))) (fun v g7 hq => ?_) (fun i g7 hq => ?_)
    rotate_left
    · rcases hq with ⟨_, hq⟩ | ⟨hn, hq⟩
      · cases hq
      · cases hq
        exact Or.inl ⟨rfl, Or.inr ⟨_, _, cS.thr hg m b d (c.sb (sBn.rf X)), rfl⟩⟩
    rcases hq with ⟨kz, hq⟩ | ⟨_, hq⟩
    rotate_left
    · cases hq
    cases hq
    refine mj_T.eq (pc2 := 43) (st2 := []) ?_ rfl rfl rfl rfl
    refine mj_T.pl rfl rfl rfl rfl ?_
    refine mT_get m 19 cq_d1 (by decide) rfl rfl ?_
    iterate 3 refine mj_T.pl rfl rfl rfl rfl ?_
    refine mj_T.call rfl rfl (Nat.le_of_ble_eq_true rfl) (Nat.le_of_ble_eq_true rfl) (mV_of m 11 cq_d19 (by decide) rfl (by decide) rfl _) rfl (mj_Ok.up (by omega) (mZ_27 (D := 0) m b (mK_rt a.toNat (by omega)) (jx _ (mK_rt a.toNat (by omega))) (x := f1) (y := f2) ⟨by omega, by omega⟩ ⟨by omega, by omega⟩)) (fun v g8 hq => ?_) (fun i g8 hq => ?_)
    rotate_left
    · obtain ⟨_, _, _, _, _, _, _, _, hq⟩ := hq; cases hq
    obtain ⟨V9, e12, z13, _, m10, b11, he12, rz13, hq⟩ := hq
    cases hq
    refine mj_T.eq (pc2 := 54) (st2 := [.int (jn z13)]) ?_ rfl rfl rfl rfl
    refine mj_T.if0 (a := z13) rfl ⟨by omega, by omega⟩ (fun c14 => ?_) (fun c14 => ?_)
    · simp only [jc, Bool.not_eq_true', Bool.not_eq_false', decide_eq_true_eq, decide_eq_false_iff_not] at c14
      exact mj_T.throws rfl rfl rfl (Nat.le_of_ble_eq_true rfl) (Or.inr ⟨_, _, cS.thr hg m10 b11 (d.deg he12) (c.sb ((sBn.rf X).tr (sBn.deg cq_d80))), rfl⟩)
    · simp only [jc, Bool.not_eq_true', Bool.not_eq_false', decide_eq_true_eq, decide_eq_false_iff_not] at c14
      refine mj_T.pl rfl rfl rfl rfl ?_
      refine mT_get m10 19 cq_d1 (by decide) rfl rfl ?_
      iterate 3 refine mj_T.pl rfl rfl rfl rfl ?_
      refine mj_T.call rfl rfl (Nat.le_of_ble_eq_true rfl) (Nat.le_of_ble_eq_true rfl) (mV_of m10 11 cq_d19 (by decide) rfl (by decide) rfl _) rfl (mj_Ok.up (by omega) (mZ_27 (D := 0) m10 b11 (mK_rt a.toNat (by omega)) ((rjR.deg jx cq_d80) _ (mK_rt a.toNat (by omega))) (x := f3) (y := f4) ⟨by omega, by omega⟩ ⟨by omega, by omega⟩)) (fun v g15 hq => ?_) (fun i g15 hq => ?_)
      rotate_left
      · obtain ⟨_, _, _, _, _, _, _, _, hq⟩ := hq; cases hq
      obtain ⟨V16, e19, z20, _, m17, b18, he19, rz20, hq⟩ := hq
      cases hq
      refine mj_T.eq (pc2 := 70) (st2 := [.int (jn z20)]) ?_ rfl rfl rfl rfl
      refine mj_T.if0 (a := z20) rfl ⟨by omega, by omega⟩ (fun c21 => ?_) (fun c21 => ?_)
      · simp only [jc, Bool.not_eq_true', Bool.not_eq_false', decide_eq_true_eq, decide_eq_false_iff_not] at c21
        refine mj_T.pl rfl rfl rfl rfl ?_
        refine mT_get m17 19 cq_d1 (by decide) rfl rfl ?_
        iterate 2 refine mj_T.pl rfl rfl rfl rfl ?_
        refine mj_T.call rfl rfl (Nat.le_of_ble_eq_true rfl) (Nat.le_of_ble_eq_true rfl) rfl rfl (mj_Ok.up (by omega) (mS_cont (D := 0) m17 (mK_rt a.toNat (by omega)) ((c.sb (((sBn.rf X).tr (sBn.deg cq_d80)).tr (sBn.deg cq_d80))).sm A.1 ka))) (fun v g22 hq => ?_) (fun i g22 hq => ?_)
        rotate_left
        · cases hq
        cases hq
        have hcg : cgd ((xup (xup X 80 2 e12) 80 2 e19) (4 + a.toNat)) 13 ≤ 999999999999999999 := cgd_bd 13 ((c.sb (((sBn.rf X).tr (sBn.deg cq_d80)).tr (sBn.deg cq_d80))).sm A.1 ka)
        refine mj_T.eq (pc2 := 92) (st2 := [.long (jl ((cgd ((xup (xup X 80 2 e12) 80 2 e19) (4 + a.toNat)) 13 : Nat) : Int)), .ref (4 + a.toNat), .ref 172]) ?_ rfl rfl rfl rfl
        refine mj_T.call rfl rfl (Nat.le_of_ble_eq_true rfl) (Nat.le_of_ble_eq_true rfl) (mV_of m17 16 cq_d172 (by decide) rfl (by decide) rfl _) rfl (mj_Ok.up (by omega) (mZ_68 (D := 0) m17 b18 ((d.deg he12).deg he19) (mK_rt a.toNat (by omega)) ⟨by omega, by omega⟩ ((rjR.deg (rjR.deg jx cq_d80) cq_d80) _ (mK_rt a.toNat (by omega))))) (fun v g23 hq => ?_) (fun i g23 hq => ?_)
        rotate_left
        · obtain ⟨_, _, _, _, _, _, _, hq⟩ := hq; cases hq
        obtain ⟨V24, X27, _, m25, b26, f28, d29, hq⟩ := hq
        cases hq
        refine mj_T.eq (pc2 := 95) (st2 := []) ?_ rfl rfl rfl rfl
        refine mj_T.pl rfl rfl rfl rfl ?_
        refine mT_get m25 19 cq_d1 (by decide) rfl rfl ?_
        iterate 2 refine mj_T.pl rfl rfl rfl rfl ?_
        refine mj_T.imul (a := f2) (b := f4) rfl ?_
        refine jT.anyI (fun z30 rz30 => ?_)
        refine mj_T.i2l rfl ⟨by omega, by omega⟩ ?_
        refine mj_T.call rfl rfl (Nat.le_of_ble_eq_true rfl) (Nat.le_of_ble_eq_true rfl) (mV_of m25 16 cq_d172 (by decide) rfl (by decide) rfl _) rfl (mj_Ok.up (by omega) (mZ_74 (D := 0) m25 b26 d29 ⟨by omega, by omega⟩)) (fun v g31 hq => ?_) (fun i g31 hq => ?_)
        rotate_left
        · obtain ⟨_, _, _, _, hq⟩ := hq; cases hq
        obtain ⟨V32, _, m33, b34, hq⟩ := hq
        cases hq
        refine mj_T.eq (pc2 := 107) (st2 := []) ?_ rfl rfl rfl rfl
        refine mj_T.pl rfl rfl rfl rfl ?_
        refine mT_get m33 19 cq_d1 (by decide) rfl rfl ?_
        iterate 2 refine mj_T.pl rfl rfl rfl rfl ?_
        refine mj_T.imul (a := f1) (b := f4) rfl ?_
        refine jT.anyI (fun z35 rz35 => ?_)
        refine mj_T.i2l rfl ⟨by omega, by omega⟩ ?_
        refine mj_T.call rfl rfl (Nat.le_of_ble_eq_true rfl) (Nat.le_of_ble_eq_true rfl) (mV_of m33 16 cq_d172 (by decide) rfl (by decide) rfl _) rfl (mj_Ok.up (by omega) (mZ_75 (D := 0) m33 b34 d29 ⟨by omega, by omega⟩)) (fun v g36 hq => ?_) (fun i g36 hq => ?_)
        rotate_left
        · obtain ⟨_, _, _, _, _, _, hq⟩ := hq; cases hq
        obtain ⟨V37, z40, _, m38, b39, rz40, hq⟩ := hq
        cases hq
        refine mj_T.eq (pc2 := 119) (st2 := [.int (jn z40)]) ?_ rfl rfl rfl rfl
        refine mj_T.pl rfl rfl rfl rfl ?_
        refine mT_get m38 19 cq_d1 (by decide) rfl rfl ?_
        iterate 2 refine mj_T.pl rfl rfl rfl rfl ?_
        refine mj_T.imul (a := f3) (b := f2) rfl ?_
        refine jT.anyI (fun z41 rz41 => ?_)
        refine mj_T.i2l rfl ⟨by omega, by omega⟩ ?_
        refine mj_T.call rfl rfl (Nat.le_of_ble_eq_true rfl) (Nat.le_of_ble_eq_true rfl) (mV_of m38 16 cq_d172 (by decide) rfl (by decide) rfl _) rfl (mj_Ok.up (by omega) (mZ_75 (D := 0) m38 b39 d29 ⟨by omega, by omega⟩)) (fun v g42 hq => ?_) (fun i g42 hq => ?_)
        rotate_left
        · obtain ⟨_, _, _, _, _, _, hq⟩ := hq; cases hq
        obtain ⟨V43, z46, _, m44, b45, rz46, hq⟩ := hq
        cases hq
        refine mj_T.eq (pc2 := 131) (st2 := [.int (jn z46), .int (jn z40)]) ?_ rfl rfl rfl rfl
        refine mj_T.isub (a := z40) (b := z46) rfl ?_
        exact mj_T.ret rfl rfl rfl (Or.inl ⟨_, _, ⟨_, _, m44, b45, d29, (c.sb ((((sBn.rf X).tr (sBn.deg cq_d80)).tr (sBn.deg cq_d80)).tr (sBn.fx f28)))⟩, rfl⟩)
      · simp only [jc, Bool.not_eq_true', Bool.not_eq_false', decide_eq_true_eq, decide_eq_false_iff_not] at c21
        exact mj_T.throws rfl rfl rfl (Nat.le_of_ble_eq_true rfl) (Or.inr ⟨_, _, cS.thr hg m17 b18 ((d.deg he12).deg he19) (c.sb (((sBn.rf X).tr (sBn.deg cq_d80)).tr (sBn.deg cq_d80))), rfl⟩)
  · simp only [jc, Bool.not_eq_true', Bool.not_eq_false', decide_eq_true_eq, decide_eq_false_iff_not] at c6
    exact mj_T.throws rfl rfl rfl (Nat.le_of_ble_eq_true rfl) (Or.inr ⟨_, _, cS.thr hg m b d (c.sb (sBn.rf X)), rfl⟩)
theorem pX_sturmLength (hg : g.length ≤ n) (A : AS N u H) (s : cS g n N u H h) {a : Int} (ra : -2147483648 ≤ a ∧ a ≤ 2147483647) : mj_Ok (D + 8) 133 [.ref 1, .int (jn a)] h (rdL g n N u H) := by
  obtain ⟨V, X, m, b, d, c, jx⟩ := s.nr A
  have jx : rjR X := jx
  refine mj_Ok.of (M := mj_m133) rfl rfl rfl ?_
  iterate 2 refine mj_T.pl rfl rfl rfl rfl ?_
  refine mj_T.call rfl rfl (Nat.le_of_ble_eq_true rfl) (Nat.le_of_ble_eq_true rfl) (mV_of m 19 cq_d1 (by decide) rfl (by decide) rfl _) rfl (mj_Ok.up (by omega) (mC_rowOf (D := 0) m (i := a) (by omega))) (fun v g1 hq => ?_) (fun i g1 hq => ?_)
  rotate_left
  · rcases hq with ⟨_, hq⟩ | ⟨hn, hq⟩
    · cases hq
    · cases hq
      exact Or.inl ⟨rfl, Or.inr ⟨_, _, cS.thr hg m b d (c.sb (sBn.rf X)), rfl⟩⟩
  rcases hq with ⟨ka, hq⟩ | ⟨_, hq⟩
  rotate_left
  · cases hq
  cases hq
  refine mj_T.eq (pc2 := 5) (st2 := [.ref (4 + a.toNat)]) ?_ rfl rfl rfl rfl
  refine mj_T.pl (loc' := [some (.ref 1), some (.int (jn a)), some (.ref (4 + a.toNat))]) rfl rfl rfl rfl ?_
  refine mj_T.pl rfl rfl rfl rfl ?_
  refine mj_T.call rfl rfl (Nat.le_of_ble_eq_true rfl) (Nat.le_of_ble_eq_true rfl) rfl rfl (mj_Ok.up (by omega) (mC_zero (D := 0) m (mK_rt a.toNat (by omega)) ((c.sb (sBn.rf X)).sm A.1 ka))) (fun v g2 hq => ?_) (fun i g2 hq => ?_)
  rotate_left
  · rcases hq with ⟨_, hq⟩ | ⟨hn, hq⟩
    · cases hq
    · cases hq
      exact Or.inl ⟨rfl, Or.inr ⟨_, _, cS.thr hg m b d (c.sb (sBn.rf X)), rfl⟩⟩
  rcases hq with ⟨kz, hq⟩ | ⟨_, hq⟩
  rotate_left
  · cases hq
  cases hq
  refine mj_T.eq (pc2 := 10) (st2 := []) ?_ rfl rfl rfl rfl
  refine mj_T.pl rfl rfl rfl rfl ?_
  refine mT_get m 19 cq_d1 (by decide) rfl rfl ?_
  iterate 2 refine mj_T.pl rfl rfl rfl rfl ?_
  refine mj_T.call rfl rfl (Nat.le_of_ble_eq_true rfl) (Nat.le_of_ble_eq_true rfl) rfl rfl (mj_Ok.up (by omega) (mS_cont (D := 0) m (mK_rt a.toNat (by omega)) ((c.sb (sBn.rf X)).sm A.1 ka))) (fun v g3 hq => ?_) (fun i g3 hq => ?_)
  rotate_left
  · cases hq
  cases hq
  have hcg : cgd (X (4 + a.toNat)) 13 ≤ 999999999999999999 := cgd_bd 13 ((c.sb (sBn.rf X)).sm A.1 ka)
  refine mj_T.eq (pc2 := 19) (st2 := [.long (jl ((cgd (X (4 + a.toNat)) 13 : Nat) : Int)), .ref (4 + a.toNat), .ref 172]) ?_ rfl rfl rfl rfl
  refine mj_T.call rfl rfl (Nat.le_of_ble_eq_true rfl) (Nat.le_of_ble_eq_true rfl) (mV_of m 16 cq_d172 (by decide) rfl (by decide) rfl _) rfl (mj_Ok.up (by omega) (mZ_68 (D := 0) m b d (mK_rt a.toNat (by omega)) ⟨by omega, by omega⟩ (jx _ (mK_rt a.toNat (by omega))))) (fun v g4 hq => ?_) (fun i g4 hq => ?_)
  rotate_left
  · obtain ⟨_, _, _, _, _, _, _, hq⟩ := hq; cases hq
  obtain ⟨V5, X8, _, m6, b7, f9, d10, hq⟩ := hq
  cases hq
  refine mj_T.eq (pc2 := 22) (st2 := []) ?_ rfl rfl rfl rfl
  refine mj_T.pl rfl rfl rfl rfl ?_
  refine mT_get m6 19 cq_d1 (by decide) rfl rfl ?_
  refine mT_get m6 16 cq_d172 (by decide) rfl rfl ?_
  exact mj_T.ret rfl rfl rfl (Or.inl ⟨_, _, ⟨_, _, m6, b7, d10, (c.sb ((sBn.rf X).tr (sBn.fx f9)))⟩, rfl⟩)
theorem pX_changes (hg : g.length ≤ n) (A : AS N u H) (s : cS g n N u H h) {a : Int} (ra : -2147483648 ≤ a ∧ a ≤ 2147483647) {f1 : Int} (rf1 : -2147483648 ≤ f1 ∧ f1 ≤ 2147483647) {f2 : Int} (rf2 : -2147483648 ≤ f2 ∧ f2 ≤ 2147483647) : mj_Ok (D + 8) 134 [.ref 1, .int (jn a), .int (jn f1), .int (jn f2)] h (rdL g n N u H) := by
  obtain ⟨V, X, m, b, d, c, jx⟩ := s.nr A
  have jx : rjR X := jx
  refine mj_Ok.of (M := mj_m134) rfl rfl rfl ?_
  iterate 2 refine mj_T.pl rfl rfl rfl rfl ?_
  refine mj_T.call rfl rfl (Nat.le_of_ble_eq_true rfl) (Nat.le_of_ble_eq_true rfl) (mV_of m 19 cq_d1 (by decide) rfl (by decide) rfl _) rfl (mj_Ok.up (by omega) (mC_rowOf (D := 0) m (i := a) (by omega))) (fun v g1 hq => ?_) (fun i g1 hq => ?_)
  rotate_left
  · rcases hq with ⟨_, hq⟩ | ⟨hn, hq⟩
    · cases hq
    · cases hq
      exact Or.inl ⟨rfl, Or.inr ⟨_, _, cS.thr hg m b d (c.sb (sBn.rf X)), rfl⟩⟩
  rcases hq with ⟨ka, hq⟩ | ⟨_, hq⟩
  rotate_left
  · cases hq
  cases hq
  refine mj_T.eq (pc2 := 5) (st2 := [.ref (4 + a.toNat)]) ?_ rfl rfl rfl rfl
  refine mj_T.pl (loc' := [some (.ref 1), some (.int (jn a)), some (.int (jn f1)), some (.int (jn f2)), some (.ref (4 + a.toNat))]) rfl rfl rfl rfl ?_
  iterate 2 refine mj_T.pl rfl rfl rfl rfl ?_
  refine mj_T.call rfl rfl (Nat.le_of_ble_eq_true rfl) (Nat.le_of_ble_eq_true rfl) rfl rfl (mj_Ok.up (by omega) (mC_fraction (D := 0) (i := f1) (j := f2) (by omega) (by omega))) (fun v g2 hq => ?_) (fun i g2 hq => ?_)
  rotate_left
  · rcases hq with ⟨_, hq⟩ | ⟨hn, hq⟩
    · cases hq
    · cases hq
      exact Or.inl ⟨rfl, Or.inr ⟨_, _, cS.thr hg m b d (c.sb (sBn.rf X)), rfl⟩⟩
  rcases hq with ⟨kff1, hq⟩ | ⟨_, hq⟩
  rotate_left
  · cases hq
  cases hq
  refine mj_T.eq (pc2 := 12) (st2 := []) ?_ rfl rfl rfl rfl
  refine mj_T.pl rfl rfl rfl rfl ?_
  refine mj_T.call rfl rfl (Nat.le_of_ble_eq_true rfl) (Nat.le_of_ble_eq_true rfl) rfl rfl (mj_Ok.up (by omega) (mC_zero (D := 0) m (mK_rt a.toNat (by omega)) ((c.sb (sBn.rf X)).sm A.1 ka))) (fun v g3 hq => ?_) (fun i g3 hq => ?_)
  rotate_left
  · rcases hq with ⟨_, hq⟩ | ⟨hn, hq⟩
    · cases hq
    · cases hq
      exact Or.inl ⟨rfl, Or.inr ⟨_, _, cS.thr hg m b d (c.sb (sBn.rf X)), rfl⟩⟩
  rcases hq with ⟨kz, hq⟩ | ⟨_, hq⟩
  rotate_left
  · cases hq
  cases hq
  refine mj_T.eq (pc2 := 17) (st2 := []) ?_ rfl rfl rfl rfl
  refine mj_T.pl rfl rfl rfl rfl ?_
  refine mT_get m 19 cq_d1 (by decide) rfl rfl ?_
  iterate 2 refine mj_T.pl rfl rfl rfl rfl ?_
  refine mj_T.call rfl rfl (Nat.le_of_ble_eq_true rfl) (Nat.le_of_ble_eq_true rfl) rfl rfl (mj_Ok.up (by omega) (mS_cont (D := 0) m (mK_rt a.toNat (by omega)) ((c.sb (sBn.rf X)).sm A.1 ka))) (fun v g4 hq => ?_) (fun i g4 hq => ?_)
  rotate_left
  · cases hq
  cases hq
  have hcg : cgd (X (4 + a.toNat)) 13 ≤ 999999999999999999 := cgd_bd 13 ((c.sb (sBn.rf X)).sm A.1 ka)
  refine mj_T.eq (pc2 := 28) (st2 := [.long (jl ((cgd (X (4 + a.toNat)) 13 : Nat) : Int)), .ref (4 + a.toNat), .ref 172]) ?_ rfl rfl rfl rfl
  refine mj_T.call rfl rfl (Nat.le_of_ble_eq_true rfl) (Nat.le_of_ble_eq_true rfl) (mV_of m 16 cq_d172 (by decide) rfl (by decide) rfl _) rfl (mj_Ok.up (by omega) (mZ_68 (D := 0) m b d (mK_rt a.toNat (by omega)) ⟨by omega, by omega⟩ (jx _ (mK_rt a.toNat (by omega))))) (fun v g5 hq => ?_) (fun i g5 hq => ?_)
  rotate_left
  · obtain ⟨_, _, _, _, _, _, _, hq⟩ := hq; cases hq
  obtain ⟨V6, X9, _, m7, b8, f10, d11, hq⟩ := hq
  cases hq
  refine mj_T.eq (pc2 := 31) (st2 := []) ?_ rfl rfl rfl rfl
  refine mj_T.pl rfl rfl rfl rfl ?_
  refine mT_get m7 19 cq_d1 (by decide) rfl rfl ?_
  refine mj_T.pl rfl rfl rfl rfl ?_
  refine mj_T.i2l rfl ⟨by omega, by omega⟩ ?_
  refine mj_T.call rfl rfl (Nat.le_of_ble_eq_true rfl) (Nat.le_of_ble_eq_true rfl) (mV_of m7 16 cq_d172 (by decide) rfl (by decide) rfl _) rfl (mj_Ok.up (by omega) (mZ_74 (D := 0) m7 b8 d11 ⟨by omega, by omega⟩)) (fun v g12 hq => ?_) (fun i g12 hq => ?_)
  rotate_left
  · obtain ⟨_, _, _, _, hq⟩ := hq; cases hq
  obtain ⟨V13, _, m14, b15, hq⟩ := hq
  cases hq
  refine mj_T.eq (pc2 := 40) (st2 := []) ?_ rfl rfl rfl rfl
  refine mj_T.pl rfl rfl rfl rfl ?_
  refine mT_get m14 19 cq_d1 (by decide) rfl rfl ?_
  refine mj_T.pl rfl rfl rfl rfl ?_
  refine mj_T.i2l rfl ⟨by omega, by omega⟩ ?_
  refine mj_T.call rfl rfl (Nat.le_of_ble_eq_true rfl) (Nat.le_of_ble_eq_true rfl) (mV_of m14 16 cq_d172 (by decide) rfl (by decide) rfl _) rfl (mj_Ok.up (by omega) (mZ_75 (D := 0) m14 b15 d11 ⟨by omega, by omega⟩)) (fun v g16 hq => ?_) (fun i g16 hq => ?_)
  rotate_left
  · obtain ⟨_, _, _, _, _, _, hq⟩ := hq; cases hq
  obtain ⟨V17, z20, _, m18, b19, rz20, hq⟩ := hq
  cases hq
  refine mj_T.eq (pc2 := 49) (st2 := [.int (jn z20)]) ?_ rfl rfl rfl rfl
  exact mj_T.ret rfl rfl rfl (Or.inl ⟨_, _, ⟨_, _, m18, b19, d11, (c.sb ((sBn.rf X).tr (sBn.fx f10)))⟩, rfl⟩)
theorem pX_closeIn (hg : g.length ≤ n) (A : AS N u H) (s : cS g n N u H h) {a : Int} (ra : -2147483648 ≤ a ∧ a ≤ 2147483647) {p : Int} (rp : -2147483648 ≤ p ∧ p ≤ 2147483647) {q : Int} (rq : -2147483648 ≤ q ∧ q ≤ 2147483647) : mj_Ok (D + 8) 135 [.ref 1, .int (jn a), .int (jn p), .int (jn q)] h (rdL g n N u H) := by
  obtain ⟨V, X, m, b, d, c, jx⟩ := s.nr A
  have jx : rjR X := jx
  refine mj_Ok.of (M := mj_m135) rfl rfl rfl ?_
  iterate 2 refine mj_T.pl rfl rfl rfl rfl ?_
  refine mj_T.call rfl rfl (Nat.le_of_ble_eq_true rfl) (Nat.le_of_ble_eq_true rfl) (mV_of m 19 cq_d1 (by decide) rfl (by decide) rfl _) rfl (mj_Ok.up (by omega) (mC_rowOf (D := 0) m (i := a) (by omega))) (fun v g1 hq => ?_) (fun i g1 hq => ?_)
  rotate_left
  · rcases hq with ⟨_, hq⟩ | ⟨hn, hq⟩
    · cases hq
    · cases hq
      exact Or.inl ⟨rfl, Or.inr ⟨_, _, cS.thr hg m b d (c.sb (sBn.rf X)), rfl⟩⟩
  rcases hq with ⟨ka, hq⟩ | ⟨_, hq⟩
  rotate_left
  · cases hq
  cases hq
  refine mj_T.eq (pc2 := 5) (st2 := [.ref (4 + a.toNat)]) ?_ rfl rfl rfl rfl
  refine mj_T.pl (loc' := [some (.ref 1), some (.int (jn a)), some (.int (jn p)), some (.int (jn q)), some (.ref (4 + a.toNat))]) rfl rfl rfl rfl ?_
  refine mj_T.pl rfl rfl rfl rfl ?_
  refine mj_T.if0 (a := p) rfl ⟨by omega, by omega⟩ (fun c2 => ?_) (fun c2 => ?_)
  · simp only [jc, Bool.not_eq_true', Bool.not_eq_false', decide_eq_true_eq, decide_eq_false_iff_not] at c2
    exact mj_T.throws rfl rfl rfl (Nat.le_of_ble_eq_true rfl) (Or.inr ⟨_, _, cS.thr hg m b d (c.sb (sBn.rf X)), rfl⟩)
  · simp only [jc, Bool.not_eq_true', Bool.not_eq_false', decide_eq_true_eq, decide_eq_false_iff_not] at c2
    iterate 2 refine mj_T.pl rfl rfl rfl rfl ?_
    refine mj_T.call rfl rfl (Nat.le_of_ble_eq_true rfl) (Nat.le_of_ble_eq_true rfl) rfl rfl (mj_Ok.up (by omega) (mS_deg (D := 0) m (mK_rt a.toNat (by omega)) ((c.sb (sBn.rf X)).sm A.1 ka))) (fun v g3 hq => ?_) (fun i g3 hq => ?_)
    rotate_left
    · cases hq
    cases hq
    have ga := fdg_le (X (4 + a.toNat)) 13
    refine mj_T.eq (pc2 := 17) (st2 := [.int (jn (((fdg (X (4 + a.toNat)) 13) : Int) - 1)), .int (jn p)]) ?_ rfl rfl rfl rfl
    refine mj_T.icmp (a := p) (b := (((fdg (X (4 + a.toNat)) 13) : Int) - 1)) rfl ⟨by omega, by omega⟩ ⟨by omega, by omega⟩ (fun c4 => ?_) (fun c4 => ?_)
    · simp only [jc, Bool.not_eq_true', Bool.not_eq_false', decide_eq_true_eq, decide_eq_false_iff_not] at c4
      refine mj_T.pl rfl rfl rfl rfl ?_
      refine mT_get m 19 cq_d1 (by decide) rfl rfl ?_
      refine mj_T.pl rfl rfl rfl rfl ?_
      refine mj_T.call rfl rfl (Nat.le_of_ble_eq_true rfl) (Nat.le_of_ble_eq_true rfl) (mV_of m 15 cq_d444 (by decide) rfl (by decide) rfl _) rfl (mj_Ok.up (by omega) (mR_begin (D := 0) m b d (mK_rt a.toNat (by omega)) ((c.sb (sBn.rf X)).sm A.1 ka) (by omega))) (fun v g5 hq => ?_) (fun i g5 hq => ?_)
      rotate_left
      · obtain ⟨_, _, _, _, _, _, _, _, _, _, _, _, _, _, _, _, _, _, _, hq⟩ := hq; cases hq
      obtain ⟨V6, X9, _, _, _, _, _, m7, b8, d11, f10, _, _, _, _, _, _, _, _, hq⟩ := hq
      cases hq
      refine mj_T.eq (pc2 := 37) (st2 := []) ?_ rfl rfl rfl rfl
      iterate 2 refine mj_T.pl rfl rfl rfl rfl ?_
      refine mT_get m7 19 cq_d1 (by decide) rfl rfl ?_
      refine mj_T.call rfl rfl (Nat.le_of_ble_eq_true rfl) (Nat.le_of_ble_eq_true rfl) (mV_of m7 15 cq_d444 (by decide) rfl (by decide) rfl _) rfl (mj_Ok.up (by omega) (mZ_63 (D := 0) m7 b8 d11)) (fun v g12 hq => ?_) (fun i g12 hq => ?_)
      rotate_left
      · obtain ⟨_, _, _, _, _, _, _, _, _, hq⟩ := hq; cases hq
      obtain ⟨V13, X16, z19, _, m14, b15, f17, d18, rz19, hq⟩ := hq
      cases hq
      refine mj_T.eq (pc2 := 45) (st2 := [.int (jn z19), .int (jn p)]) ?_ rfl rfl rfl rfl
      refine mj_T.icmp (a := p) (b := z19) rfl ⟨by omega, by omega⟩ ⟨by omega, by omega⟩ (fun c20 => ?_) (fun c20 => ?_)
      · simp only [jc, Bool.not_eq_true', Bool.not_eq_false', decide_eq_true_eq, decide_eq_false_iff_not] at c20
        refine mj_T.pl rfl rfl rfl rfl ?_
        refine mj_T.if0 (a := q) rfl ⟨by omega, by omega⟩ (fun c21 => ?_) (fun c21 => ?_)
        · simp only [jc, Bool.not_eq_true', Bool.not_eq_false', decide_eq_true_eq, decide_eq_false_iff_not] at c21
          exact mj_T.throws rfl rfl rfl (Nat.le_of_ble_eq_true rfl) (Or.inr ⟨_, _, cS.thr hg m14 b15 d18 (c.sb (((sBn.rf X).tr (sBn.fx f10)).tr (sBn.fx f17))), rfl⟩)
        · simp only [jc, Bool.not_eq_true', Bool.not_eq_false', decide_eq_true_eq, decide_eq_false_iff_not] at c21
          iterate 2 refine mj_T.pl rfl rfl rfl rfl ?_
          refine mj_T.icmp (a := q) (b := 20) rfl ⟨by omega, by omega⟩ ⟨by omega, by omega⟩ (fun c22 => ?_) (fun c22 => ?_)
          · simp only [jc, Bool.not_eq_true', Bool.not_eq_false', decide_eq_true_eq, decide_eq_false_iff_not] at c22
            refine mj_T.pl rfl rfl rfl rfl ?_
            refine mT_get m14 19 cq_d1 (by decide) rfl rfl ?_
            refine jT.lc 1 rfl rfl ?_
            refine mj_T.pl rfl rfl rfl rfl ?_
            refine mj_T.pl rfl rfl rfl rfl ?_
            refine jT.anyL (fun y23 jy23 => ?_)
            refine mj_T.call rfl rfl (Nat.le_of_ble_eq_true rfl) (Nat.le_of_ble_eq_true rfl) (mV_of m14 15 cq_d444 (by decide) rfl (by decide) rfl _) rfl (mj_Ok.up (by omega) (mZ_64 (D := 0) m14 b15 d18 jy23)) (fun v g24 hq => ?_) (fun i g24 hq => ?_)
            rotate_left
            · obtain ⟨_, _, _, _, _, _, _, hq⟩ := hq; cases hq
            obtain ⟨V25, X28, _, m26, b27, f29, d30, hq⟩ := hq
            cases hq
            refine mj_T.eq (pc2 := 84) (st2 := []) ?_ rfl rfl rfl rfl
            refine mj_T.pl rfl rfl rfl rfl ?_
            refine mT_get m26 19 cq_d1 (by decide) rfl rfl ?_
            refine mj_T.pl rfl rfl rfl rfl ?_
            refine mj_T.call rfl rfl (Nat.le_of_ble_eq_true rfl) (Nat.le_of_ble_eq_true rfl) (mV_of m26 15 cq_d444 (by decide) rfl (by decide) rfl _) rfl (mj_Ok.up (by omega) (mZ_65 (D := 0) m26 b27 d30 ⟨by omega, by omega⟩)) (fun v g31 hq => ?_) (fun i g31 hq => ?_)
            rotate_left
            · obtain ⟨_, _, _, _, _, _, _, hq⟩ := hq; cases hq
            obtain ⟨V32, X35, _, m33, b34, f36, d37, hq⟩ := hq
            cases hq
            refine mj_T.eq (pc2 := 92) (st2 := []) ?_ rfl rfl rfl rfl
            iterate 2 refine mj_T.pl rfl rfl rfl rfl ?_
            refine mT_get m33 19 cq_d1 (by decide) rfl rfl ?_
            refine mT_get m33 15 cq_d444 (by decide) rfl rfl ?_
            refine jT.lc 1 rfl rfl ?_
            refine mj_T.pl rfl rfl rfl rfl ?_
            refine mj_T.call rfl rfl (Nat.le_of_ble_eq_true rfl) (Nat.le_of_ble_eq_true rfl) (mV_of m33 19 cq_d1 (by decide) rfl (by decide) rfl _) rfl (mj_Ok.up (by omega) (mZ_159 (D := 0) m33 b34 fr_d445 ⟨by decide, by decide⟩ ⟨by omega, by omega⟩)) (fun v g38 hq => ?_) (fun i g38 hq => ?_)
            rotate_left
            · obtain ⟨_, _, _, _, _, _, hq⟩ := hq; cases hq
            obtain ⟨V39, z42, _, m40, b41, rz42, hq⟩ := hq
            cases hq
            refine mj_T.eq (pc2 := 105) (st2 := [.int (jn z42)]) ?_ rfl rfl rfl rfl
            exact mj_T.ret rfl rfl rfl (Or.inl ⟨_, _, ⟨_, _, m40, b41, d37, (c.sb (((((sBn.rf X).tr (sBn.fx f10)).tr (sBn.fx f17)).tr (sBn.fx f29)).tr (sBn.fx f36)))⟩, rfl⟩)
          · simp only [jc, Bool.not_eq_true', Bool.not_eq_false', decide_eq_true_eq, decide_eq_false_iff_not] at c22
            exact mj_T.throws rfl rfl rfl (Nat.le_of_ble_eq_true rfl) (Or.inr ⟨_, _, cS.thr hg m14 b15 d18 (c.sb (((sBn.rf X).tr (sBn.fx f10)).tr (sBn.fx f17))), rfl⟩)
      · simp only [jc, Bool.not_eq_true', Bool.not_eq_false', decide_eq_true_eq, decide_eq_false_iff_not] at c20
        exact mj_T.throws rfl rfl rfl (Nat.le_of_ble_eq_true rfl) (Or.inr ⟨_, _, cS.thr hg m14 b15 d18 (c.sb (((sBn.rf X).tr (sBn.fx f10)).tr (sBn.fx f17))), rfl⟩)
    · simp only [jc, Bool.not_eq_true', Bool.not_eq_false', decide_eq_true_eq, decide_eq_false_iff_not] at c4
      exact mj_T.throws rfl rfl rfl (Nat.le_of_ble_eq_true rfl) (Or.inr ⟨_, _, cS.thr hg m b d (c.sb (sBn.rf X)), rfl⟩)
theorem pX_fractionRoots (hg : g.length ≤ n) (A : AS N u H) (s : cS g n N u H h) {a : Int} (ra : -2147483648 ≤ a ∧ a ≤ 2147483647) : mj_Ok (D + 8) 136 [.ref 1, .int (jn a)] h (rdL g n N u H) := by
  obtain ⟨V, X, m, b, d, c, jx⟩ := s.nr A
  have jx : rjR X := jx
  refine mj_Ok.of (M := mj_m136) rfl rfl rfl ?_
  iterate 2 refine mj_T.pl rfl rfl rfl rfl ?_
  refine mj_T.call rfl rfl (Nat.le_of_ble_eq_true rfl) (Nat.le_of_ble_eq_true rfl) (mV_of m 19 cq_d1 (by decide) rfl (by decide) rfl _) rfl (mj_Ok.up (by omega) (mC_rowOf (D := 0) m (i := a) (by omega))) (fun v g1 hq => ?_) (fun i g1 hq => ?_)
  rotate_left
  · rcases hq with ⟨_, hq⟩ | ⟨hn, hq⟩
    · cases hq
    · cases hq
      exact Or.inl ⟨rfl, Or.inr ⟨_, _, cS.thr hg m b d (c.sb (sBn.rf X)), rfl⟩⟩
  rcases hq with ⟨ka, hq⟩ | ⟨_, hq⟩
  rotate_left
  · cases hq
  cases hq
  refine mj_T.eq (pc2 := 5) (st2 := [.ref (4 + a.toNat)]) ?_ rfl rfl rfl rfl
  refine mj_T.pl (loc' := [some (.ref 1), some (.int (jn a)), some (.ref (4 + a.toNat))]) rfl rfl rfl rfl ?_
  refine mj_T.pl rfl rfl rfl rfl ?_
  refine mj_T.call rfl rfl (Nat.le_of_ble_eq_true rfl) (Nat.le_of_ble_eq_true rfl) rfl rfl (mj_Ok.up (by omega) (mC_zero (D := 0) m (mK_rt a.toNat (by omega)) ((c.sb (sBn.rf X)).sm A.1 ka))) (fun v g2 hq => ?_) (fun i g2 hq => ?_)
  rotate_left
  · rcases hq with ⟨_, hq⟩ | ⟨hn, hq⟩
    · cases hq
    · cases hq
      exact Or.inl ⟨rfl, Or.inr ⟨_, _, cS.thr hg m b d (c.sb (sBn.rf X)), rfl⟩⟩
  rcases hq with ⟨kz, hq⟩ | ⟨_, hq⟩
  rotate_left
  · cases hq
  cases hq
  refine mj_T.eq (pc2 := 10) (st2 := []) ?_ rfl rfl rfl rfl
  refine mj_T.pl rfl rfl rfl rfl ?_
  refine mT_get m 19 cq_d1 (by decide) rfl rfl ?_
  refine mj_T.pl rfl rfl rfl rfl ?_
  refine mj_T.call rfl rfl (Nat.le_of_ble_eq_true rfl) (Nat.le_of_ble_eq_true rfl) (mV_of m 15 cq_d444 (by decide) rfl (by decide) rfl _) rfl (mj_Ok.up (by omega) (mR_begin (D := 0) m b d (mK_rt a.toNat (by omega)) ((c.sb (sBn.rf X)).sm A.1 ka) (by omega))) (fun v g3 hq => ?_) (fun i g3 hq => ?_)
  rotate_left
  · obtain ⟨_, _, _, _, _, _, _, _, _, _, _, _, _, _, _, _, _, _, _, hq⟩ := hq; cases hq
  obtain ⟨V4, X7, _, _, _, _, _, m5, b6, d9, f8, _, _, _, _, _, _, _, _, hq⟩ := hq
  cases hq
  refine mj_T.eq (pc2 := 18) (st2 := []) ?_ rfl rfl rfl rfl
  refine mj_T.pl rfl rfl rfl rfl ?_
  refine mT_get m5 19 cq_d1 (by decide) rfl rfl ?_
  refine mj_T.call rfl rfl (Nat.le_of_ble_eq_true rfl) (Nat.le_of_ble_eq_true rfl) (mV_of m5 15 cq_d444 (by decide) rfl (by decide) rfl _) rfl (mj_Ok.up (by omega) (mZ_63 (D := 0) m5 b6 d9)) (fun v g10 hq => ?_) (fun i g10 hq => ?_)
  rotate_left
  · obtain ⟨_, _, _, _, _, _, _, _, _, hq⟩ := hq; cases hq
  obtain ⟨V11, X14, z17, _, m12, b13, f15, d16, rz17, hq⟩ := hq
  cases hq
  refine mj_T.eq (pc2 := 25) (st2 := [.int (jn z17)]) ?_ rfl rfl rfl rfl
  iterate 2 refine mj_T.pl rfl rfl rfl rfl ?_
  refine mT_get m12 19 cq_d1 (by decide) rfl rfl ?_
  refine mj_T.pl rfl rfl rfl rfl ?_
  refine mj_T.call rfl rfl (Nat.le_of_ble_eq_true rfl) (Nat.le_of_ble_eq_true rfl) (mV_of m12 15 cq_d444 (by decide) rfl (by decide) rfl _) rfl (mj_Ok.up (by omega) (mZ_66 (D := 0) m12 b13 d16 ⟨by omega, by omega⟩)) (fun v g18 hq => ?_) (fun i g18 hq => ?_)
  rotate_left
  · obtain ⟨_, _, _, _, _, _, _, _, _, hq⟩ := hq; cases hq
  obtain ⟨V19, X22, z25, _, m20, b21, f23, d24, rz25, hq⟩ := hq
  cases hq
  refine mj_T.eq (pc2 := 35) (st2 := [.int (jn z25)]) ?_ rfl rfl rfl rfl
  exact mj_T.ret rfl rfl rfl (Or.inl ⟨_, _, ⟨_, _, m20, b21, d24, (c.sb ((((sBn.rf X).tr (sBn.fx f8)).tr (sBn.fx f15)).tr (sBn.fx f23)))⟩, rfl⟩)
theorem pX_fractionRoot (hg : g.length ≤ n) (A : AS N u H) (s : cS g n N u H h) {a : Int} (ra : -2147483648 ≤ a ∧ a ≤ 2147483647) {p : Int} (rp : -2147483648 ≤ p ∧ p ≤ 2147483647) : mj_Ok (D + 8) 137 [.ref 1, .int (jn a), .int (jn p)] h (rdL g n N u H) := by
  obtain ⟨V, X, m, b, d, c, jx⟩ := s.nr A
  have jx : rjR X := jx
  refine mj_Ok.of (M := mj_m137) rfl rfl rfl ?_
  iterate 2 refine mj_T.pl rfl rfl rfl rfl ?_
  refine mj_T.call rfl rfl (Nat.le_of_ble_eq_true rfl) (Nat.le_of_ble_eq_true rfl) (mV_of m 19 cq_d1 (by decide) rfl (by decide) rfl _) rfl (mj_Ok.up (by omega) (mC_rowOf (D := 0) m (i := a) (by omega))) (fun v g1 hq => ?_) (fun i g1 hq => ?_)
  rotate_left
  · rcases hq with ⟨_, hq⟩ | ⟨hn, hq⟩
    · cases hq
    · cases hq
      exact Or.inl ⟨rfl, Or.inr ⟨_, _, cS.thr hg m b d (c.sb (sBn.rf X)), rfl⟩⟩
  rcases hq with ⟨ka, hq⟩ | ⟨_, hq⟩
  rotate_left
  · cases hq
  cases hq
  refine mj_T.eq (pc2 := 5) (st2 := [.ref (4 + a.toNat)]) ?_ rfl rfl rfl rfl
  refine mj_T.pl (loc' := [some (.ref 1), some (.int (jn a)), some (.int (jn p)), some (.ref (4 + a.toNat))]) rfl rfl rfl rfl ?_
  refine mj_T.pl rfl rfl rfl rfl ?_
  refine mj_T.if0 (a := p) rfl ⟨by omega, by omega⟩ (fun c2 => ?_) (fun c2 => ?_)
  · simp only [jc, Bool.not_eq_true', Bool.not_eq_false', decide_eq_true_eq, decide_eq_false_iff_not] at c2
    exact mj_T.throws rfl rfl rfl (Nat.le_of_ble_eq_true rfl) (Or.inr ⟨_, _, cS.thr hg m b d (c.sb (sBn.rf X)), rfl⟩)
  · simp only [jc, Bool.not_eq_true', Bool.not_eq_false', decide_eq_true_eq, decide_eq_false_iff_not] at c2
    iterate 2 refine mj_T.pl rfl rfl rfl rfl ?_
    refine mj_T.call rfl rfl (Nat.le_of_ble_eq_true rfl) (Nat.le_of_ble_eq_true rfl) rfl rfl (mj_Ok.up (by omega) (mS_deg (D := 0) m (mK_rt a.toNat (by omega)) ((c.sb (sBn.rf X)).sm A.1 ka))) (fun v g3 hq => ?_) (fun i g3 hq => ?_)
    rotate_left
    · cases hq
    cases hq
    have ga := fdg_le (X (4 + a.toNat)) 13
    refine mj_T.eq (pc2 := 15) (st2 := [.int (jn (((fdg (X (4 + a.toNat)) 13) : Int) - 1)), .int (jn p)]) ?_ rfl rfl rfl rfl
    refine mj_T.icmp (a := p) (b := (((fdg (X (4 + a.toNat)) 13) : Int) - 1)) rfl ⟨by omega, by omega⟩ ⟨by omega, by omega⟩ (fun c4 => ?_) (fun c4 => ?_)
    · simp only [jc, Bool.not_eq_true', Bool.not_eq_false', decide_eq_true_eq, decide_eq_false_iff_not] at c4
      refine mj_T.pl rfl rfl rfl rfl ?_
      refine mT_get m 19 cq_d1 (by decide) rfl rfl ?_
      refine mj_T.pl rfl rfl rfl rfl ?_
      refine mj_T.call rfl rfl (Nat.le_of_ble_eq_true rfl) (Nat.le_of_ble_eq_true rfl) (mV_of m 15 cq_d444 (by decide) rfl (by decide) rfl _) rfl (mj_Ok.up (by omega) (mR_begin (D := 0) m b d (mK_rt a.toNat (by omega)) ((c.sb (sBn.rf X)).sm A.1 ka) (by omega))) (fun v g5 hq => ?_) (fun i g5 hq => ?_)
      rotate_left
      · obtain ⟨_, _, _, _, _, _, _, _, _, _, _, _, _, _, _, _, _, _, _, hq⟩ := hq; cases hq
      obtain ⟨V6, X9, _, _, _, _, _, m7, b8, d11, f10, _, _, _, _, _, _, _, _, hq⟩ := hq
      cases hq
      refine mj_T.eq (pc2 := 34) (st2 := []) ?_ rfl rfl rfl rfl
      refine mj_T.pl rfl rfl rfl rfl ?_
      refine mT_get m7 19 cq_d1 (by decide) rfl rfl ?_
      refine mj_T.call rfl rfl (Nat.le_of_ble_eq_true rfl) (Nat.le_of_ble_eq_true rfl) (mV_of m7 15 cq_d444 (by decide) rfl (by decide) rfl _) rfl (mj_Ok.up (by omega) (mZ_63 (D := 0) m7 b8 d11)) (fun v g12 hq => ?_) (fun i g12 hq => ?_)
      rotate_left
      · obtain ⟨_, _, _, _, _, _, _, _, _, hq⟩ := hq; cases hq
      obtain ⟨V13, X16, z19, _, m14, b15, f17, d18, rz19, hq⟩ := hq
      cases hq
      refine mj_T.eq (pc2 := 41) (st2 := [.int (jn z19)]) ?_ rfl rfl rfl rfl
      iterate 2 refine mj_T.pl rfl rfl rfl rfl ?_
      refine mT_get m14 19 cq_d1 (by decide) rfl rfl ?_
      iterate 2 refine mj_T.pl rfl rfl rfl rfl ?_
      refine mj_T.iadd (a := p) (b := 1) rfl ?_
      refine mj_T.call rfl rfl (Nat.le_of_ble_eq_true rfl) (Nat.le_of_ble_eq_true rfl) (mV_of m14 15 cq_d444 (by decide) rfl (by decide) rfl _) rfl (mj_Ok.up (by omega) (mZ_66 (D := 0) m14 b15 d18 ⟨by omega, by omega⟩)) (fun v g20 hq => ?_) (fun i g20 hq => ?_)
      rotate_left
      · obtain ⟨_, _, _, _, _, _, _, _, _, hq⟩ := hq; cases hq
      obtain ⟨V21, X24, z27, _, m22, b23, f25, d26, rz27, hq⟩ := hq
      cases hq
      refine mj_T.eq (pc2 := 52) (st2 := [.int (jn z27)]) ?_ rfl rfl rfl rfl
      refine mj_T.pl rfl rfl rfl rfl ?_
      refine mj_T.icmp (a := z27) (b := p) rfl ⟨by omega, by omega⟩ ⟨by omega, by omega⟩ (fun c28 => ?_) (fun c28 => ?_)
      · simp only [jc, Bool.not_eq_true', Bool.not_eq_false', decide_eq_true_eq, decide_eq_false_iff_not] at c28
        iterate 2 refine mj_T.pl rfl rfl rfl rfl ?_
        refine mT_get m22 19 cq_d1 (by decide) rfl rfl ?_
        refine mT_get m22 15 cq_d444 (by decide) rfl rfl ?_
        refine mj_T.pl rfl rfl rfl rfl ?_
        refine mT_get m22 19 cq_d1 (by decide) rfl rfl ?_
        refine mT_get m22 15 cq_d444 (by decide) rfl rfl ?_
        refine jT.anyL (fun y29 jy29 => ?_)
        refine mj_T.pl rfl rfl rfl rfl ?_
        refine mj_T.call rfl rfl (Nat.le_of_ble_eq_true rfl) (Nat.le_of_ble_eq_true rfl) (mV_of m22 19 cq_d1 (by decide) rfl (by decide) rfl _) rfl (mj_Ok.up (by omega) (mZ_159 (D := 0) m22 b23 fr_d445 jy29 ⟨by omega, by omega⟩)) (fun v g30 hq => ?_) (fun i g30 hq => ?_)
        rotate_left
        · obtain ⟨_, _, _, _, _, _, hq⟩ := hq; cases hq
        obtain ⟨V31, z34, _, m32, b33, rz34, hq⟩ := hq
        cases hq
        refine mj_T.eq (pc2 := 83) (st2 := [.int (jn z34)]) ?_ rfl rfl rfl rfl
        exact mj_T.ret rfl rfl rfl (Or.inl ⟨_, _, ⟨_, _, m32, b33, d26, (c.sb ((((sBn.rf X).tr (sBn.fx f10)).tr (sBn.fx f17)).tr (sBn.fx f25)))⟩, rfl⟩)
      · simp only [jc, Bool.not_eq_true', Bool.not_eq_false', decide_eq_true_eq, decide_eq_false_iff_not] at c28
        exact mj_T.throws rfl rfl rfl (Nat.le_of_ble_eq_true rfl) (Or.inr ⟨_, _, cS.thr hg m22 b23 d26 (c.sb ((((sBn.rf X).tr (sBn.fx f10)).tr (sBn.fx f17)).tr (sBn.fx f25))), rfl⟩)
    · simp only [jc, Bool.not_eq_true', Bool.not_eq_false', decide_eq_true_eq, decide_eq_false_iff_not] at c4
      exact mj_T.throws rfl rfl rfl (Nat.le_of_ble_eq_true rfl) (Or.inr ⟨_, _, cS.thr hg m b d (c.sb (sBn.rf X)), rfl⟩)
end MRP
/-! The class: agreements only reads. -/
section MRA
variable {g h : mj_H} {n D u : Nat} {N : Nat → Int} {H : Nat → Nat → Int} {X : Nat → Nat → Int}
theorem rjR.row {X : Nat → Nat → Int} (q : rjR X) {r : Nat} {w : Nat → Int} (hw : ∀ j, j < 13 → jR (w j)) : rjR (xfl X r w 13) := fun a ka j => by
  unfold xfl
  split
  · rename_i y
    exact hw j y.2
  · exact q a ka j
theorem mC_agr_loop (hg : g.length ≤ n) (A : AS N u H) (c : CR X N u H) {a a2 l : Int} (hl : 0 ≤ l ∧ l ≤ 12) : ∀ (k : Nat) (i : Int), 0 ≤ i ∧ i ≤ 13 → l + 1 - i ≤ k → ∀ (q : Int) (V1 : Nat → Int) (X1 : Nat → Nat → Int) (h : mj_H), jM g n V1 X1 h → by0 V1 → DG X1 → sBn X X1 → rjR X1 → mj_T (D + 6) mj_m127 49 [some (.ref 1), some (.int (jn a)), some (.int (jn a2)), some (.ref (4 + a.toNat)), some (.ref (4 + a2.toNat)), some (.int (jn l)), some (.int (jn q)), some (.int (jn i))] [] h (rdL g n N u H)
  | 0, i, h0, hi, q, V1, X1, h, m, b, d1, s1, j1 => by
    iterate 2 refine mj_T.pl rfl rfl rfl rfl ?_
    refine mj_T.icmp (a := i) (b := l) rfl ⟨by omega, by omega⟩ ⟨by omega, by omega⟩ (fun c1 => ?_) (fun c1 => ?_)
    · simp only [jc, Bool.not_eq_true', Bool.not_eq_false', decide_eq_true_eq, decide_eq_false_iff_not] at c1
      refine mj_T.pl rfl rfl rfl rfl ?_
      exact mj_T.ret rfl rfl rfl (Or.inl ⟨_, _, ⟨_, _, m, b, d1, (c.sb s1)⟩, rfl⟩)
    · exfalso
      simp only [jc, Bool.not_eq_true', Bool.not_eq_false', decide_eq_true_eq, decide_eq_false_iff_not] at c1
      omega
  | k + 1, i, h0, hi, q, V1, X1, h, m, b, d1, s1, j1 => by
    iterate 2 refine mj_T.pl rfl rfl rfl rfl ?_
    refine mj_T.icmp (a := i) (b := l) rfl ⟨by omega, by omega⟩ ⟨by omega, by omega⟩ (fun c1 => ?_) (fun c1 => ?_)
    · simp only [jc, Bool.not_eq_true', Bool.not_eq_false', decide_eq_true_eq, decide_eq_false_iff_not] at c1
      refine mj_T.pl rfl rfl rfl rfl ?_
      exact mj_T.ret rfl rfl rfl (Or.inl ⟨_, _, ⟨_, _, m, b, d1, (c.sb s1)⟩, rfl⟩)
    · simp only [jc, Bool.not_eq_true', Bool.not_eq_false', decide_eq_true_eq, decide_eq_false_iff_not] at c1
      refine mj_T.pl rfl rfl rfl rfl ?_
      refine mT_get m 19 cq_d1 (by decide) rfl rfl ?_
      refine mj_T.pl rfl rfl rfl rfl ?_
      refine mT_get m 19 cq_d1 (by decide) rfl rfl ?_
      iterate 2 refine mj_T.pl rfl rfl rfl rfl ?_
      refine mj_T.call rfl rfl (Nat.le_of_ble_eq_true rfl) (Nat.le_of_ble_eq_true rfl) (mV_of m 11 cq_d19 (by decide) rfl (by decide) rfl _) rfl (mj_Ok.up (by omega) (mZ_27 (D := 0) m b cq_d482 (j1 _ cq_d482) (x := i) (y := 1) ⟨by omega, by omega⟩ ⟨by omega, by omega⟩)) (fun v g2 hq => ?_) (fun i g2 hq => ?_)
      rotate_left
      · obtain ⟨_, _, _, _, _, _, _, _, hq⟩ := hq; cases hq
      obtain ⟨V3, e6, z7, _, m4, b5, he6, rz7, hq⟩ := hq
      cases hq
      refine mj_T.eq (pc2 := 70) (st2 := [.int (jn z7)]) ?_ rfl rfl rfl rfl
      refine mj_T.if0 (a := z7) rfl ⟨by omega, by omega⟩ (fun c8 => ?_) (fun c8 => ?_)
      · simp only [jc, Bool.not_eq_true', Bool.not_eq_false', decide_eq_true_eq, decide_eq_false_iff_not] at c8
        refine mj_T.iinc rfl rfl ?_
        refine mj_T.eq (loc2 := [some (.ref 1), some (.int (jn a)), some (.int (jn a2)), some (.ref (4 + a.toNat)), some (.ref (4 + a2.toNat)), some (.int (jn l)), some (.int (jn q)), some (.int (jn (i + 1)))]) ?_ rfl rfl rfl rfl
        refine mj_T.pl rfl rfl rfl rfl ?_
        exact mC_agr_loop hg A c hl k _ (by omega) (by omega) _ _ _ _ m4 b5 (d1.deg he6) (s1.tr (sBn.deg cq_d80)) (rjR.deg j1 cq_d80)
      · simp only [jc, Bool.not_eq_true', Bool.not_eq_false', decide_eq_true_eq, decide_eq_false_iff_not] at c8
        refine mj_T.iinc rfl rfl ?_
        refine mj_T.eq (loc2 := [some (.ref 1), some (.int (jn a)), some (.int (jn a2)), some (.ref (4 + a.toNat)), some (.ref (4 + a2.toNat)), some (.int (jn l)), some (.int (jn (q + 1))), some (.int (jn i))]) ?_ rfl rfl rfl rfl
        refine mj_T.iinc rfl rfl ?_
        refine mj_T.eq (loc2 := [some (.ref 1), some (.int (jn a)), some (.int (jn a2)), some (.ref (4 + a.toNat)), some (.ref (4 + a2.toNat)), some (.int (jn l)), some (.int (jn (q + 1))), some (.int (jn (i + 1)))]) ?_ rfl rfl rfl rfl
        refine mj_T.pl rfl rfl rfl rfl ?_
        exact mC_agr_loop hg A c hl k _ (by omega) (by omega) _ _ _ _ m4 b5 (d1.deg he6) (s1.tr (sBn.deg cq_d80)) (rjR.deg j1 cq_d80)
theorem pX_agreements (hg : g.length ≤ n) (A : AS N u H) (s : cS g n N u H h) {a : Int} (ra : -2147483648 ≤ a ∧ a ≤ 2147483647) {a2 : Int} (ra2 : -2147483648 ≤ a2 ∧ a2 ≤ 2147483647) : mj_Ok (D + 7) 127 [.ref 1, .int (jn a), .int (jn a2)] h (rdL g n N u H) := by
  obtain ⟨V, X, m, b, d, c, jx⟩ := s.nr A
  have jx : rjR X := jx
  refine mj_Ok.of (M := mj_m127) rfl rfl rfl ?_
  iterate 2 refine mj_T.pl rfl rfl rfl rfl ?_
  refine mj_T.call rfl rfl (Nat.le_of_ble_eq_true rfl) (Nat.le_of_ble_eq_true rfl) (mV_of m 19 cq_d1 (by decide) rfl (by decide) rfl _) rfl (mj_Ok.up (by omega) (mC_rowOf (D := 0) m (i := a) (by omega))) (fun v g1 hq => ?_) (fun i g1 hq => ?_)
  rotate_left
  · rcases hq with ⟨_, hq⟩ | ⟨hn, hq⟩
    · cases hq
    · cases hq
      exact Or.inl ⟨rfl, Or.inr ⟨_, _, cS.thr hg m b d (c.sb (sBn.rf X)), rfl⟩⟩
  rcases hq with ⟨ka, hq⟩ | ⟨_, hq⟩
  rotate_left
  · cases hq
  cases hq
  refine mj_T.eq (pc2 := 5) (st2 := [.ref (4 + a.toNat)]) ?_ rfl rfl rfl rfl
  refine mj_T.pl (loc' := [some (.ref 1), some (.int (jn a)), some (.int (jn a2)), some (.ref (4 + a.toNat)), none, none, none, none]) rfl rfl rfl rfl ?_
  iterate 2 refine mj_T.pl rfl rfl rfl rfl ?_
  refine mj_T.call rfl rfl (Nat.le_of_ble_eq_true rfl) (Nat.le_of_ble_eq_true rfl) (mV_of m 19 cq_d1 (by decide) rfl (by decide) rfl _) rfl (mj_Ok.up (by omega) (mC_rowOf (D := 0) m (i := a2) (by omega))) (fun v g2 hq => ?_) (fun i g2 hq => ?_)
  rotate_left
  · rcases hq with ⟨_, hq⟩ | ⟨hn, hq⟩
    · cases hq
    · cases hq
      exact Or.inl ⟨rfl, Or.inr ⟨_, _, cS.thr hg m b d (c.sb (sBn.rf X)), rfl⟩⟩
  rcases hq with ⟨ka2, hq⟩ | ⟨_, hq⟩
  rotate_left
  · cases hq
  cases hq
  refine mj_T.eq (pc2 := 11) (st2 := [.ref (4 + a2.toNat)]) ?_ rfl rfl rfl rfl
  refine mj_T.pl (loc' := [some (.ref 1), some (.int (jn a)), some (.int (jn a2)), some (.ref (4 + a.toNat)), some (.ref (4 + a2.toNat)), none, none, none]) rfl rfl rfl rfl ?_
  iterate 2 refine mj_T.pl rfl rfl rfl rfl ?_
  refine mj_T.call rfl rfl (Nat.le_of_ble_eq_true rfl) (Nat.le_of_ble_eq_true rfl) rfl rfl (mj_Ok.up (by omega) (mS_deg (D := 0) m (mK_rt a.toNat (by omega)) ((c.sb (sBn.rf X)).sm A.1 ka))) (fun v g3 hq => ?_) (fun i g3 hq => ?_)
  rotate_left
  · cases hq
  cases hq
  have ga := fdg_le (X (4 + a.toNat)) 13
  refine mj_T.eq (pc2 := 18) (st2 := [.int (jn (((fdg (X (4 + a.toNat)) 13) : Int) - 1)), .int (jn 0)]) ?_ rfl rfl rfl rfl
  refine mj_T.pl rfl rfl rfl rfl ?_
  refine mj_T.call rfl rfl (Nat.le_of_ble_eq_true rfl) (Nat.le_of_ble_eq_true rfl) rfl rfl (mj_Ok.up (by omega) (mS_deg (D := 0) m (mK_rt a2.toNat (by omega)) ((c.sb (sBn.rf X)).sm A.1 ka2))) (fun v g4 hq => ?_) (fun i g4 hq => ?_)
  rotate_left
  · cases hq
  cases hq
  have ga2 := fdg_le (X (4 + a2.toNat)) 13
  refine mj_T.eq (pc2 := 23) (st2 := [.int (jn (((fdg (X (4 + a2.toNat)) 13) : Int) - 1)), .int (jn (((fdg (X (4 + a.toNat)) 13) : Int) - 1)), .int (jn 0)]) ?_ rfl rfl rfl rfl
  refine mj_T.imax (a := (((fdg (X (4 + a.toNat)) 13) : Int) - 1)) (b := (((fdg (X (4 + a2.toNat)) 13) : Int) - 1)) rfl rfl (Nat.le_of_ble_eq_true rfl) ⟨by omega, by omega⟩ ⟨by omega, by omega⟩ ?_
  refine mj_T.imax (a := 0) (b := (max (((fdg (X (4 + a.toNat)) 13) : Int) - 1) (((fdg (X (4 + a2.toNat)) 13) : Int) - 1))) rfl rfl (Nat.le_of_ble_eq_true rfl) ⟨by omega, by omega⟩ ⟨by omega, by omega⟩ ?_
  refine mj_T.pl (loc' := [some (.ref 1), some (.int (jn a)), some (.int (jn a2)), some (.ref (4 + a.toNat)), some (.ref (4 + a2.toNat)), some (.int (jn (max 0 (max (((fdg (X (4 + a.toNat)) 13) : Int) - 1) (((fdg (X (4 + a2.toNat)) 13) : Int) - 1))))), none, none]) rfl rfl rfl rfl ?_
  iterate 4 refine mj_T.pl rfl rfl rfl rfl ?_
  refine mT_get m 19 cq_d1 (by decide) rfl rfl ?_
  refine mj_T.call rfl rfl (Nat.le_of_ble_eq_true rfl) (Nat.le_of_ble_eq_true rfl) rfl rfl (mj_Ok.up (by omega) (mS_sum (D := 0) m (mK_rt a.toNat (by omega)) (mK_rt a2.toNat (by omega)) cq_d482 (c.sm A.1 ka) (c.sm A.1 ka2) (f := -1) (Or.inr rfl))) (fun v g5 hq => ?_) (fun i g5 hq => ?_)
  rotate_left
  · obtain ⟨_, _, hq⟩ := hq
    rcases hq with ⟨_, hq⟩ | ⟨_, hq⟩ <;> cases hq
  obtain ⟨h5, m5, hq⟩ := hq
  obtain ⟨y, hq⟩ : ∃ y : Int, ((.inl v, g5) : mj_R) = (.inl (some (.int (jn y))), h5) := by
    rcases hq with ⟨_, hq⟩ | ⟨_, hq⟩
    · exact ⟨1, hq⟩
    · exact ⟨0, hq⟩
  cases hq
  have j5 : rjR (xfl X 482 (fun e => X (4 + a.toNat) e + -1 * X (4 + a2.toNat) e) 13) := jx.row (fun j hj => by
    have y1 := c.sm A.1 ka j hj
    have y2 := c.sm A.1 ka2 j hj
    show jR (X (4 + a.toNat) j + -1 * X (4 + a2.toNat) j)
    exact ⟨by omega, by omega⟩)
  refine mj_T.eq (pc2 := 42) (st2 := [.int (jn y)]) ?_ rfl rfl rfl rfl
  iterate 2 refine mj_T.pl rfl rfl rfl rfl ?_
  refine mj_T.pl (loc' := [some (.ref 1), some (.int (jn a)), some (.int (jn a2)), some (.ref (4 + a.toNat)), some (.ref (4 + a2.toNat)), some (.int (jn (max 0 (max (((fdg (X (4 + a.toNat)) 13) : Int) - 1) (((fdg (X (4 + a2.toNat)) 13) : Int) - 1))))), some (.int (jn 0)), none]) rfl rfl rfl rfl ?_
  refine mj_T.pl rfl rfl rfl rfl ?_
  refine mj_T.pl (loc' := [some (.ref 1), some (.int (jn a)), some (.int (jn a2)), some (.ref (4 + a.toNat)), some (.ref (4 + a2.toNat)), some (.int (jn (max 0 (max (((fdg (X (4 + a.toNat)) 13) : Int) - 1) (((fdg (X (4 + a2.toNat)) 13) : Int) - 1))))), some (.int (jn 0)), some (.int (jn 0))]) rfl rfl rfl rfl ?_
  obtain ⟨l, hl, el⟩ : ∃ l : Int, (0 ≤ l ∧ l ≤ 12) ∧ (max 0 (max (((fdg (X (4 + a.toNat)) 13) : Int) - 1) (((fdg (X (4 + a2.toNat)) 13) : Int) - 1))) = l := ⟨_, by
    rw [Int.max_def, Int.max_def]
    refine ⟨?_, ?_⟩
    · split <;> omega
    · split <;> split <;> omega, rfl⟩
  rw [el]
  exact mC_agr_loop hg A c hl 13 0 ⟨by decide, by decide⟩ (by omega) _ _ _ _ m5 b (d.row cq_d482) (sBn.row (Or.inr rfl)) j5
end MRA
/-! The class: texts are written, all else stays. -/
theorem cq_t : (cK 15 = 17 ∧ cK 16 = 3 ∧ cR 15 0 = 16 ∧ cL 16 = 340 ∧ cK 14 = 3) ∧ (cK 17 = 17 ∧ cK 18 = 3 ∧ cR 17 0 = 18 ∧ cL 18 = 340) := by decide +kernel
/-- a text alone -/
def kT (t x : Nat) : Nat := if x = t then 17 else if x = t + 1 then 3 else 0
def isT (t : Nat) : Prop := cK t = 17 ∧ cK (t + 1) = 3 ∧ cR t 0 = t + 1 ∧ cL (t + 1) = 340 ∧ 1 ≤ t ∧ cK (t - 1) = 3
theorem isT_15 : isT 15 := ⟨cq_t.1.1, cq_t.1.2.1, cq_t.1.2.2.1, cq_t.1.2.2.2.1, by decide, cq_t.1.2.2.2.2⟩
theorem isT_17 : isT 17 := ⟨cq_t.2.1, cq_t.2.2.1, cq_t.2.2.2.1, cq_t.2.2.2.2, by decide, cq_t.1.2.1⟩
theorem kT_c (t x : Nat) : (x = t ∧ kT t x = 17) ∨ (x = t + 1 ∧ kT t x = 3) ∨ (x ≠ t ∧ x ≠ t + 1 ∧ kT t x = 0) := by
  unfold kT
  by_cases c : x = t
  · exact Or.inl ⟨c, if_pos c⟩
  · by_cases d : x = t + 1
    · exact Or.inr (Or.inl ⟨d, by rw [if_neg c, if_pos d]⟩)
    · exact Or.inr (Or.inr ⟨c, d, by rw [if_neg c, if_neg d]⟩)
theorem kT_ty {t : Nat} (q : isT t) : jTY (kT t) cL cR := by
  obtain ⟨q1, q2, q3, q4, q5, q6⟩ := q
  have w : ∀ a k, kT t a = k → k = 0 ∨ (k = 17 ∧ a = t) ∨ (k = 3 ∧ a = t + 1) := fun a k h => by
    rcases kT_c t a with y | y | y <;> omega
  refine ⟨fun a i c h1 h2 => ?_, fun a h1 h2 => ?_, fun a i h1 h2 _ => ?_, fun a h => ?_, fun a h => ?_, fun a h => ?_, fun a b h _ => ?_, fun a h => ?_⟩
  · rcases kT_c t a with y | y | y
    · rw [y.2] at h1
      match i, h1 with
      | 0, h1 =>
        cases h1
        rw [y.1, q3]
        unfold kT
        rw [if_neg (by omega), if_pos rfl]
      | 1, h1 => cases h1; omega
      | i + 2, h1 => simp [jfs] at h1
    · rw [y.2] at h1
      simp [jfs] at h1
    · rw [y.2.2] at h1
      simp [jfs] at h1
  · rcases kT_c t a with y | y | y
    · omega
    · rw [y.2, y.1, q4]
      decide
    · omega
  · have := w a _ rfl
    omega
  · have := w a _ h
    omega
  · have := w a _ h
    omega
  · have := w a _ h
    rw [show a = t by omega, q3]
    exact q4
  · have := w a _ h
    omega
  · have := w a _ h
    omega
section MTX
variable {g h : mj_H} {n D : Nat} {V : Nat → Int} {X : Nat → Nat → Int} {t : Nat}
theorem kT_O (M : jM g n V X h) (q : isT t) (hx : 0 ≤ X t 1 ∧ X t 1 ≤ 340) : jO (kT t) cL cR h n 0 h := by
  obtain ⟨q1, q2, q3, q4, q5, q6⟩ := q
  have hn := M.1
  refine ⟨hn, by omega, fun a _ => ⟨fun _ => rfl, fun h1 h2 => absurd h1 (by omega)⟩, fun a ha => ?_⟩
  rcases kT_c t a with y | y | y
  · rw [y.2, y.1]
    refine ⟨_, M.O 17 q1 (by decide), ?_⟩
    unfold jCf
    rw [if_neg (by omega)]
    refine ⟨_, rfl, rfl, fun i c hc => ?_⟩
    match i, hc with
    | 0, hc => cases hc; exact ⟨_, rfl, by unfold jfv; rw [if_pos (by omega), q3]⟩
    | 1, hc => cases hc; exact ⟨_, rfl, by unfold jfv; rw [if_neg (by omega), if_neg (by omega), if_neg (by omega)]; exact ⟨X t 1, hx.1, hx.2, rfl⟩⟩
    | i + 2, hc => simp [jfs] at hc
  · rw [y.2, y.1]
    have m3 := M.2.2 (t + 1)
    unfold jMk at m3
    rw [q2, if_neg (by omega), if_neg (by omega), if_neg (by omega), if_neg (by omega), if_neg (by omega), if_pos rfl] at m3
    refine ⟨_, m3, ?_⟩
    unfold jCf
    rw [if_pos (by omega)]
    refine ⟨fun j => .int (jn (X (t + 1) j)), rfl, fun i => ?_⟩
    rw [if_pos (Or.inr rfl)]
    exact ⟨(jn (X (t + 1) i)).toInt, jr_of _, by rw [jn_of]⟩
  · exact absurd y.2.2 ha
theorem kT_M (M : jM g n V X h) (q : isT t) {h' : mj_H} (o : jO (kT t) cL cR h n 0 h') : ∃ X2 : Nat → Nat → Int, jM g n V X2 h' ∧ (0 ≤ X2 t 1 ∧ X2 t 1 ≤ 340) ∧ ∀ c, c ≠ t → c ≠ t + 1 → X2 c = X c := by
  obtain ⟨q1, q2, q3, q4, q5, q6⟩ := q
  obtain ⟨o1, _, o3, o4⟩ := o
  have hn := M.1
  have kt : kT t t = 17 := if_pos rfl
  have kt1 : kT t (t + 1) = 3 := by
    unfold kT
    rw [if_neg (by omega), if_pos rfl]
  obtain ⟨e, h1, h2⟩ := o4 t (by omega)
  rw [kt] at h2
  unfold jCf at h2
  rw [if_neg (by omega)] at h2
  obtain ⟨fs, rfl, hl, hf⟩ := h2
  obtain ⟨v0, e0, k0⟩ := hf 0 103 rfl
  obtain ⟨v1, e1, k1⟩ := hf 1 5 rfl
  unfold jfv at k0 k1
  rw [if_pos (by omega), q3] at k0
  rw [if_neg (by omega), if_neg (by omega), if_neg (by omega)] at k1
  obtain ⟨x1, a1, b1, rfl⟩ := k1
  subst k0
  obtain ⟨e', g1, g2⟩ := o4 (t + 1) (by omega)
  rw [kt1] at g2
  unfold jCf at g2
  rw [if_pos (by omega)] at g2
  obtain ⟨f, rfl, hb⟩ := g2
  have h3 : ∀ i, ∃ x : Int, f i = .int (jn x) := fun i => by
    have y := hb i
    rw [if_pos (Or.inr rfl)] at y
    obtain ⟨x, _, y2⟩ := y
    exact ⟨x, y2⟩
  refine ⟨fun a j => if a = t then (if j = 1 then x1 else X t j) else if a = t + 1 then (h3 j).choose else X a j, ?_, ?_, fun c c1 c2 => ?_⟩
  · refine M.up (fun x => x = t ∨ x = t + 1) (by omega) (fun a ha => ?_) (fun p hp => ?_) (fun _ _ => rfl) (fun a ha => ?_) (fun a ha => ?_) (fun a ha => ?_)
    · rcases ha with rfl | rfl <;> omega
    · have hk : kT t p = 0 := by
        rcases kT_c t p with y | y | y
        · exact absurd (Or.inl y.1) hp
        · exact absurd (Or.inr y.1) hp
        · exact y.2.2
      by_cases c : p < h.length
      · exact (o3 p hk).1 c
      · rw [List.getElem?_eq_none (by omega), List.getElem?_eq_none (by omega)]
    · show (fun j => if a = t then (if j = 1 then x1 else X t j) else if a = t + 1 then (h3 j).choose else X a j) = X a
      funext j
      rw [if_neg (fun y => ha (Or.inl y)), if_neg (fun y => ha (Or.inr y))]
    · constructor
      · intro y
        rcases y with y | y
        · exact Or.inr (by rw [y])
        · rw [y] at ha
          omega
      · intro y
        rcases y with y | y
        · rw [show a = t - 1 by omega] at ha
          omega
        · exact Or.inl (by omega)
    · rcases ha with rfl | rfl
      · unfold jMk
        rw [q1, if_neg (by omega), if_neg (by omega), if_neg (by omega), if_neg (by omega), if_neg (by omega), if_neg (by omega), if_neg (by omega), h1]
        match fs, hl, e0, e1 with
        | [_, _], _, rfl, rfl =>
          show some (Sum.inr (7, [Value.ref (a + 1), Value.int (jn x1)])) = some (Sum.inr (jkc 17, [Value.ref (a + 1), .int (jn (if a = a then (if 1 = 1 then x1 else X a 1) else _))]))
          rw [if_pos rfl, if_pos rfl]
          rfl
      · unfold jMk
        rw [q2, if_neg (by omega), if_neg (by omega), if_neg (by omega), if_neg (by omega), if_neg (by omega), if_pos rfl, g1]
        refine congrArg (fun z : Nat → Value => (some (.inl (2, cL (t + 1), z)) : Option mj_E)) (funext fun j => ?_)
        show f j = Value.int (jn (if t + 1 = t then (if j = 1 then x1 else X t j) else if t + 1 = t + 1 then (h3 j).choose else X (t + 1) j))
        rw [if_neg (by omega), if_pos rfl]
        exact (h3 j).choose_spec
  · show 0 ≤ (if t = t then (if 1 = 1 then x1 else X t 1) else _) ∧ (if t = t then (if 1 = 1 then x1 else X t 1) else _) ≤ 340
    rw [if_pos rfl, if_pos rfl]
    exact ⟨a1, b1⟩
  · funext j
    show (if c = t then (if j = 1 then x1 else X t j) else if c = t + 1 then (h3 j).choose else X c j) = X c j
    rw [if_neg c1, if_neg c2]
theorem kT_n {j : Nat} {as : List Value} (M : jM g n V X h) (q : isT t) (c : mj_Ok D j as h (jQ (kT t) cL cR h n 0 [] jV0)) : mj_Ok D j as h (fun r => ∃ (X2 : Nat → Nat → Int) (h2 : mj_H), jM g n V X2 h2 ∧ (0 ≤ X2 t 1 ∧ X2 t 1 ≤ 340) ∧ (∀ c, c ≠ t → c ≠ t + 1 → X2 c = X c) ∧ r = (.inl none, h2)) := c.to fun r hr => by
  obtain ⟨r1, r2⟩ := r
  cases r1 with
  | inl v =>
    have h1 : v = none := hr.1
    obtain ⟨X2, m2, b2, e2⟩ := kT_M M q hr.2
    exact ⟨X2, r2, m2, b2, e2, by rw [h1]⟩
  | inr k => exact absurd hr.1 (by intro y; cases y)
theorem mZ_80 (M : jM g n V X h) (q : isT t) (hx : 0 ≤ X t 1 ∧ X t 1 ≤ 340) {s : Int} (hs : -2147483648 ≤ s ∧ s ≤ 2147483647) : mj_Ok (D + 1) 80 [.ref t, .int (jn s)] h (fun r => ∃ (X2 : Nat → Nat → Int) (h2 : mj_H), jM g n V X2 h2 ∧ (0 ≤ X2 t 1 ∧ X2 t 1 ≤ 340) ∧ (∀ c, c ≠ t → c ≠ t + 1 → X2 c = X c) ∧ r = (.inl none, h2)) := kT_n M q (jc_80 (kT_ty q) (Nat.le_of_eq M.1) (kT_O M q hx) (if_pos rfl) hs)
theorem mZ_83 (M : jM g n V X h) (q : isT t) (hx : 0 ≤ X t 1 ∧ X t 1 ≤ 340) {y s : Int} (hy : jR y) (hs : -2147483648 ≤ s ∧ s ≤ 2147483647) : mj_Ok (D + 3) 83 [.ref t, .long (jl y), .int (jn s)] h (fun r => ∃ (X2 : Nat → Nat → Int) (h2 : mj_H), jM g n V X2 h2 ∧ (0 ≤ X2 t 1 ∧ X2 t 1 ≤ 340) ∧ (∀ c, c ≠ t → c ≠ t + 1 → X2 c = X c) ∧ r = (.inl none, h2)) := kT_n M q (jc_83 (kT_ty q) (Nat.le_of_eq M.1) (kT_O M q hx) (if_pos rfl) hy hs)
end MTX
/-! The class: write leaves the benches. -/
section MTW
variable {g h : mj_H} {n D u t r : Nat} {V : Nat → Int} {X : Nat → Nat → Int} {N : Nat → Int} {H : Nat → Nat → Int}
theorem mZ_82_loop (q : isT t) (kr : cK r = 2) (hjr : ∀ j, jR (X r j)) : ∀ k : Nat, k ≤ 13 → ∀ (X1 : Nat → Nat → Int) (h : mj_H), jM g n V X1 h → (0 ≤ X1 t 1 ∧ X1 t 1 ≤ 340) → (∀ c, c ≠ t → c ≠ t + 1 → X1 c = X c) → mj_T (D + 3) mj_m82 10 [some (.ref t), some (.ref r), some (.int (jn ((k : Int) - 1)))] [] h (fun z => ∃ (X2 : Nat → Nat → Int) (h2 : mj_H), jM g n V X2 h2 ∧ (0 ≤ X2 t 1 ∧ X2 t 1 ≤ 340) ∧ (∀ c, c ≠ t → c ≠ t + 1 → X2 c = X c) ∧ z = (.inl none, h2))
  | 0, hk, X1, h, m, hx, e1 => by
    have hj1 : ∀ j, jR (X1 r j) := fun j => by
      rw [e1 r (fun y => by rw [y, q.1] at kr; cases kr) (fun y => by rw [y, q.2.1] at kr; cases kr)]
      exact hjr j
    refine mj_T.pl rfl rfl rfl rfl ?_
    refine mj_T.if0 (a := (((0 : Nat) : Int) - 1)) rfl ⟨by omega, by omega⟩ (fun c1 => ?_) (fun c1 => ?_)
    · simp only [jc, Bool.not_eq_true', Bool.not_eq_false', decide_eq_true_eq, decide_eq_false_iff_not] at c1
      refine mj_T.pl rfl rfl rfl rfl ?_
      refine mT_get m 17 q.1 (by decide) rfl rfl ?_
      refine mj_T.if0 (a := (X1 t 1)) rfl ⟨by omega, by omega⟩ (fun c2 => ?_) (fun c2 => ?_)
      · simp only [jc, Bool.not_eq_true', Bool.not_eq_false', decide_eq_true_eq, decide_eq_false_iff_not] at c2
        exact mj_T.ret rfl rfl rfl ⟨_, _, m, hx, e1, rfl⟩
      · simp only [jc, Bool.not_eq_true', Bool.not_eq_false', decide_eq_true_eq, decide_eq_false_iff_not] at c2
        iterate 2 refine mj_T.pl rfl rfl rfl rfl ?_
        refine mj_T.call rfl rfl (Nat.le_of_ble_eq_true rfl) (Nat.le_of_ble_eq_true rfl) (mV_of m 17 q.1 (by decide) rfl (by decide) rfl _) rfl (mj_Ok.up (by omega) (mZ_80 (D := 0) m q hx (s := 48) ⟨by omega, by omega⟩)) (fun v g3 hq => ?_) (fun i g3 hq => ?_)
        rotate_left
        · obtain ⟨_, _, _, _, _, hq⟩ := hq; cases hq
        obtain ⟨X4, _, m5, x6, e7, hq⟩ := hq
        cases hq
        have e7 : ∀ c, c ≠ t → c ≠ t + 1 → X4 c = X c := fun c c1 c2 => (e7 c c1 c2).trans (e1 c c1 c2)
        refine mj_T.eq (pc2 := 49) (st2 := []) ?_ rfl rfl rfl rfl
        exact mj_T.ret rfl rfl rfl ⟨_, _, m5, x6, e7, rfl⟩
    · exfalso
      simp only [jc, Bool.not_eq_true', Bool.not_eq_false', decide_eq_true_eq, decide_eq_false_iff_not] at c1
      omega
  | k + 1, hk, X1, h, m, hx, e1 => by
    have hj1 : ∀ j, jR (X1 r j) := fun j => by
      rw [e1 r (fun y => by rw [y, q.1] at kr; cases kr) (fun y => by rw [y, q.2.1] at kr; cases kr)]
      exact hjr j
    rw [show (((k + 1 : Nat)) : Int) - 1 = ((k : Nat) : Int) by omega]
    refine mj_T.pl rfl rfl rfl rfl ?_
    refine mj_T.if0 (a := ((k : Nat) : Int)) rfl ⟨by omega, by omega⟩ (fun c1 => ?_) (fun c1 => ?_)
    · exfalso
      simp only [jc, Bool.not_eq_true', Bool.not_eq_false', decide_eq_true_eq, decide_eq_false_iff_not] at c1
      omega
    · simp only [jc, Bool.not_eq_true', Bool.not_eq_false', decide_eq_true_eq, decide_eq_false_iff_not] at c1
      iterate 2 refine mj_T.pl rfl rfl rfl rfl ?_
      refine mT_lald m kr rfl ⟨by omega, by omega⟩ ?_
      refine mj_T.eq (st2 := [.long (jl (X1 r k))]) ?_ rfl rfl rfl rfl
      refine jT.lc 0 rfl rfl ?_
      refine mj_T.lif (a := (X1 r k)) (b := ((0 : Nat) : Int)) rfl rfl (hj1 _) ⟨by omega, by omega⟩ (fun c2 => ?_) (fun c2 => ?_)
      · simp only [jc, Bool.not_eq_true', Bool.not_eq_false', decide_eq_true_eq, decide_eq_false_iff_not] at c2
        refine mj_T.iinc rfl rfl ?_
        refine mj_T.eq (loc2 := [some (.ref t), some (.ref r), some (.int (jn (((k : Nat) : Int) + (-1))))]) ?_ rfl rfl rfl rfl
        refine mj_T.pl rfl rfl rfl rfl ?_
        rw [show (k : Int) + (-1) = (k : Int) - 1 by omega]
        exact mZ_82_loop q kr hjr k (by omega) _ _ m hx e1
      · simp only [jc, Bool.not_eq_true', Bool.not_eq_false', decide_eq_true_eq, decide_eq_false_iff_not] at c2
        iterate 3 refine mj_T.pl rfl rfl rfl rfl ?_
        refine mT_lald m kr rfl ⟨by omega, by omega⟩ ?_
        refine mj_T.eq (st2 := [.long (jl (X1 r k)), .ref t]) ?_ rfl rfl rfl rfl
        refine mj_T.pl rfl rfl rfl rfl ?_
        refine mj_T.call rfl rfl (Nat.le_of_ble_eq_true rfl) (Nat.le_of_ble_eq_true rfl) (mV_of m 17 q.1 (by decide) rfl (by decide) rfl _) rfl (mj_Ok.up (by omega) (mZ_83 (D := 0) m q hx (y := (X1 r k)) (s := ((k : Nat) : Int)) (hj1 _) ⟨by omega, by omega⟩)) (fun v g3 hq => ?_) (fun i g3 hq => ?_)
        rotate_left
        · obtain ⟨_, _, _, _, _, hq⟩ := hq; cases hq
        obtain ⟨X4, _, m5, x6, e7, hq⟩ := hq
        cases hq
        have e7 : ∀ c, c ≠ t → c ≠ t + 1 → X4 c = X c := fun c c1 c2 => (e7 c c1 c2).trans (e1 c c1 c2)
        refine mj_T.eq (pc2 := 30) (st2 := []) ?_ rfl rfl rfl rfl
        refine mj_T.iinc rfl rfl ?_
        refine mj_T.eq (loc2 := [some (.ref t), some (.ref r), some (.int (jn (((k : Nat) : Int) + (-1))))]) ?_ rfl rfl rfl rfl
        refine mj_T.pl rfl rfl rfl rfl ?_
        rw [show (k : Int) + (-1) = (k : Int) - 1 by omega]
        exact mZ_82_loop q kr hjr k (by omega) _ _ m5 x6 e7
theorem mZ_82 (m : jM g n V X h) (q : isT t) (kr : cK r = 2) (hjr : ∀ j, jR (X r j)) : mj_Ok (D + 4) 82 [.ref t, .ref r] h (fun z => ∃ (X2 : Nat → Nat → Int) (h2 : mj_H), jM g n V X2 h2 ∧ (0 ≤ X2 t 1 ∧ X2 t 1 ≤ 340) ∧ (∀ c, c ≠ t → c ≠ t + 1 → X2 c = X c) ∧ z = (.inl none, h2)) := by
  refine mj_Ok.of (M := mj_m82) rfl rfl rfl ?_
  iterate 2 refine mj_T.pl rfl rfl rfl rfl ?_
  refine mT_put (v := 0) m 17 q.1 (by decide) rfl (by simp [jMf, xup]) (by simp [jMf]) rfl (fun h1 m2 => ?_)
  refine mj_T.pl rfl rfl rfl rfl ?_
  refine mT_llen m2 kr rfl ?_
  refine mj_T.pl rfl rfl rfl rfl ?_
  refine mj_T.isub (a := ((13 : Nat) : Int)) (b := 1) rfl ?_
  refine mj_T.pl (loc' := [some (.ref t), some (.ref r), some (.int (jn (((13 : Nat) : Int) - 1)))]) rfl rfl rfl rfl ?_
  exact mZ_82_loop q kr hjr 13 (by decide) _ _ m2 ⟨by rw [xup_at]; decide, by rw [xup_at]; decide⟩ (fun c c1 c2 => xup_oth c1)
theorem CR.txt {X2 : Nat → Nat → Int} (h : ∀ c, c ≠ 15 → c ≠ 16 → c ≠ 17 → c ≠ 18 → X2 c = X c) (tl : TL X2) (c : CR X N u H) : CR X2 N u H := by
  obtain ⟨e, he, h3, h2, b, bh, _⟩ := c
  exact ⟨e, he, by rw [h 1 (by decide) (by decide) (by decide) (by decide)]; exact h3, by rw [h 1 (by decide) (by decide) (by decide) (by decide)]; exact h2, b.cg (fun c c1 c2 => h c (by omega) (by omega) (by omega) (by omega)), fun k hk => (bh k hk).cg (fun c c1 c2 => h c (by omega) (by omega) (by omega) (by omega)), tl⟩
theorem CR.tl (c : CR X N u H) : TL X := by
  obtain ⟨_, _, _, _, _, _, tl⟩ := c
  exact tl
theorem pX_write (hg : g.length ≤ n) (A : AS N u H) (s : cS g n N u H h) {a : Int} (ra : -2147483648 ≤ a ∧ a ≤ 2147483647) : mj_Ok (D + 5) 144 [.ref 1, .int (jn a)] h (rdL g n N u H) := by
  obtain ⟨V, X, m, b, d, c, jx⟩ := s.nr A
  have jx : rjR X := jx
  refine mj_Ok.of (M := mj_m144) rfl rfl rfl ?_
  refine mj_T.pl rfl rfl rfl rfl ?_
  refine mT_get m 19 cq_d1 (by decide) rfl rfl ?_
  iterate 2 refine mj_T.pl rfl rfl rfl rfl ?_
  refine mj_T.call rfl rfl (Nat.le_of_ble_eq_true rfl) (Nat.le_of_ble_eq_true rfl) (mV_of m 19 cq_d1 (by decide) rfl (by decide) rfl _) rfl (mj_Ok.up (by omega) (mC_rowOf (D := 0) m (i := a) (by omega))) (fun v g1 hq => ?_) (fun i g1 hq => ?_)
  rotate_left
  · rcases hq with ⟨_, hq⟩ | ⟨hn, hq⟩
    · cases hq
    · cases hq
      exact Or.inl ⟨rfl, Or.inr ⟨_, _, cS.thr hg m b d (c.sb (sBn.rf X)), rfl⟩⟩
  rcases hq with ⟨ka, hq⟩ | ⟨_, hq⟩
  rotate_left
  · cases hq
  cases hq
  refine mj_T.eq (pc2 := 9) (st2 := [.ref (4 + a.toNat), .ref 15]) ?_ rfl rfl rfl rfl
  refine mj_T.call rfl rfl (Nat.le_of_ble_eq_true rfl) (Nat.le_of_ble_eq_true rfl) (mV_of m 17 cq_d15 (by decide) rfl (by decide) rfl _) rfl (mj_Ok.up (by omega) (mZ_82 (D := 0) m isT_15 (mK_rt a.toNat (by omega)) (jx _ (mK_rt a.toNat (by omega))))) (fun v g2 hq => ?_) (fun i g2 hq => ?_)
  rotate_left
  · obtain ⟨_, _, _, _, _, hq⟩ := hq; cases hq
  obtain ⟨X2, _, m2, x2, e2, hq⟩ := hq
  cases hq
  have c2 : CR X2 N u H := c.txt (fun c c1 c2 c3 c4 => e2 c c1 c2) ⟨x2, by
    rw [e2 17 (by decide) (by decide)]
    exact c.tl.2⟩
  have d2 : DG X2 := d.of (fun p kp => e2 p (by have := cK_13 kp; omega) (by have := cK_13 kp; omega))
  refine mj_T.eq (pc2 := 12) (st2 := []) ?_ rfl rfl rfl rfl
  refine mj_T.pl rfl rfl rfl rfl ?_
  refine mT_get m2 19 cq_d1 (by decide) rfl rfl ?_
  refine mT_get m2 17 cq_d15 (by decide) rfl rfl ?_
  exact mj_T.ret rfl rfl rfl (Or.inl ⟨_, _, ⟨_, _, m2, b, d2, c2⟩, rfl⟩)
end MTW
