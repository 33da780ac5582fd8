/-! The class: calls that only read leave the benches (value, divides, roots ..). -/
/-- rows' places beyond their length don't matter -/
noncomputable def nrX (X : Nat → Nat → Int) : Nat → Nat → Int := fun a j => if cK a = 2 then (jl (X a j)).toInt else X a j
theorem nrX_o {X : Nat → Nat → Int} {a : Nat} (h : cK a ≠ 2) : nrX X a = X a := funext fun j => if_neg h
theorem nrX_r {X : Nat → Nat → Int} {a j : Nat} (h : jR (X a j)) : nrX X a j = X a j := by
  unfold nrX
  split
  · exact jl_toInt h
  · rfl
theorem jM.nr {g h : mj_H} {n : Nat} {V : Nat → Int} {X : Nat → Nat → Int} (m : jM g n V X h) : jM g n V (nrX X) h := by
  refine ⟨m.1, m.2.1, fun a => ?_⟩
  have q := m.2.2 a
  unfold jMk at q ⊢
  by_cases k2 : cK a = 2
  · rw [k2] at q ⊢
    have e : (fun j => Value.long (jl (nrX X a j))) = fun j => Value.long (jl (X a j)) := funext fun j => by
      unfold nrX
      rw [if_pos k2, jl_of]
    rw [if_neg (by decide), if_neg (by decide), if_neg (by decide), if_neg (by decide), if_pos rfl] at q ⊢
    rw [e]
    exact q
  · have e := nrX_o (X := X) k2
    have ef : ∀ k, jMf (nrX X) k a = jMf X k a := fun k => by
      unfold jMf
      rw [e]
    rw [e, ef]
    exact q
theorem jR_sm {x : Int} (h : -999999999999999999 ≤ x ∧ x ≤ 999999999999999999) : jR x := ⟨by omega, by omega⟩
theorem cS.nr {g h : mj_H} {n u : Nat} {N : Nat → Int} {H : Nat → Nat → Int} (A : AS N u H) (s : cS g n N u H h) : ∃ (V : Nat → Int) (X : Nat → Nat → Int), jM g n V X h ∧ by0 V ∧ DG X ∧ CR X N u H ∧ ∀ a, cK a = 2 → ∀ j, jR (X a j) := by
  obtain ⟨V, X, m, b, d, e, he, h3, h2, bb, bh, tl⟩ := s
  have k1 : cK 1 ≠ 2 := by decide +kernel
  have kb : ∀ o N', cK o = 10 → gN N' → BN X o N' → BN (nrX X) o N' := fun o N' ko gn q => by
    refine ⟨fun r hr j hj => ?_, ?_, fun k hk => ?_⟩
    · rw [nrX_r (by rw [q.1 r hr j hj]; exact jR_sm (gn.1 _ (by omega)))]
      exact q.1 r hr j hj
    · rw [nrX_o (by rw [ko]; decide)]
      exact q.2.1
    · have p8 := (mK_b8 ko).1.1
      have p9 := (mK_b8 ko).2.1
      rw [nrX_o (by omega), nrX_o (by omega)]
      exact q.2.2 k hk
  refine ⟨V, nrX X, m.nr, b, d.of (fun p kp => nrX_o (by omega)), ⟨e, he, by rw [nrX_o k1]; exact h3, by rw [nrX_o k1]; exact h2, kb 2 N cq_d2 A.1 bb, fun k hk => kb _ _ (cq_eb _ (by omega)) (A.2.2 k hk) (bh k hk), tl.to (fun c hc => nrX_o (by rcases hc with rfl | rfl <;> decide +kernel))⟩, fun a ka j => ?_⟩
  unfold nrX
  rw [if_pos ka]
  exact jR_of _
theorem sBn.deg {X : Nat → Nat → Int} {p i : Nat} {v : Int} (h : cK p = 13) : sBn X (xup X p i v) := by
  have := cK_13 h
  exact ⟨congrFun (xup_oth (by omega)) 2, congrFun (xup_oth (by omega)) 3, fun c hc => xup_oth (by omega)⟩
section MRD
variable {g h : mj_H} {n D : Nat} {V : Nat → Int} {X : Nat → Nat → Int}
theorem mZ_158 (m : jM g n V X h) (b : by0 V) {x : Int} (hx : jR x) : mj_Ok (D + 2) 158 [.ref 1, .long (jl x)] h (fun r => ∃ (V2 : Nat → Int) (z : Int) (h2 : mj_H), jM g n V2 X h2 ∧ by0 V2 ∧ (-2147483648 ≤ z ∧ z ≤ 2147483647) ∧ r = (.inl (some (.int (jn z))), h2)) := by
  refine mj_Ok.of (M := mj_m158) rfl rfl rfl ?_
  refine mj_T.pl rfl rfl rfl rfl ?_
  refine mT_get m 19 cq_d1 (by decide) rfl rfl ?_
  refine mj_T.pl rfl rfl rfl rfl ?_
  refine mj_T.call rfl rfl (Nat.le_of_ble_eq_true rfl) (Nat.le_of_ble_eq_true rfl) (mV_of m 18 cq_d477 (by decide) rfl (by decide) rfl _) rfl (mj_Ok.up (by omega) (mF_86 (D := 0) m b fr_d477 hx)) (fun v g1 hq => ?_) (fun i g1 hq => ?_)
  rotate_left
  · obtain ⟨_, _, _, _, hq⟩ := hq; cases hq
  obtain ⟨V2, _, m3, b4, hq⟩ := hq
  cases hq
  refine mj_T.eq (pc2 := 8) (st2 := []) ?_ rfl rfl rfl rfl
  refine mj_T.pl rfl rfl rfl rfl ?_
  refine mT_get m3 19 cq_d1 (by decide) rfl rfl ?_
  refine jT.lc 1 rfl rfl ?_
  refine mj_T.call rfl rfl (Nat.le_of_ble_eq_true rfl) (Nat.le_of_ble_eq_true rfl) (mV_of m3 18 cq_d479 (by decide) rfl (by decide) rfl _) rfl (mj_Ok.up (by omega) (mF_86 (D := 0) m3 b4 fr_d479 ⟨by decide, by decide⟩)) (fun v g5 hq => ?_) (fun i g5 hq => ?_)
  rotate_left
  · obtain ⟨_, _, _, _, hq⟩ := hq; cases hq
  obtain ⟨V6, _, m7, b8, hq⟩ := hq
  cases hq
  refine mj_T.eq (pc2 := 16) (st2 := []) ?_ rfl rfl rfl rfl
  refine mj_T.pl rfl rfl rfl rfl ?_
  refine mT_get m7 19 cq_d1 (by decide) rfl rfl ?_
  refine mZ_sg m7 cq_d477 rfl (fun z9 rz9 => ?_)
  exact mj_T.ret rfl rfl rfl ⟨_, _, _, m7, b8, rz9, rfl⟩
theorem mZ_159_loop {a : Nat} (fa : frW a) {y t : Int} (hy : jR y) (ht : -2147483648 ≤ t ∧ t ≤ 2147483647) : ∀ (k : Nat) (i : Int), 0 ≤ i ∧ i ≤ 2147483647 → t - i ≤ k → ∀ (l6 : Option Value) (V : Nat → Int) (h : mj_H), jM g n V X h → by0 V → mj_T (D + 3) mj_m159 19 [some (.ref 1), some (.ref a), some (.long (jl y)), none, some (.int (jn t)), some (.int (jn i)), l6, none] [] h (fun r => ∃ (V2 : Nat → Int) (z : Int) (h2 : mj_H), jM g n V2 X h2 ∧ by0 V2 ∧ (-2147483648 ≤ z ∧ z ≤ 2147483647) ∧ r = (.inl (some (.int (jn z))), h2))
  | 0, i, h0, hi, l6, V, h, m, b => by
    iterate 2 refine mj_T.pl rfl rfl rfl rfl ?_
    refine mj_T.icmp (a := i) (b := t) rfl ⟨by omega, by omega⟩ ⟨by omega, by omega⟩ (fun c1 => ?_) (fun c1 => ?_)
    · simp only [jc, Bool.not_eq_true', Bool.not_eq_false', decide_eq_true_eq, decide_eq_false_iff_not] at c1
      refine mj_T.pl rfl rfl rfl rfl ?_
      refine mT_get m 19 cq_d1 (by decide) rfl rfl ?_
      refine mZ_sg m cq_d477 rfl (fun z2 rz2 => ?_)
      exact mj_T.ret rfl rfl rfl ⟨_, _, _, m, b, rz2, rfl⟩
    · exfalso
      simp only [jc, Bool.not_eq_true', Bool.not_eq_false', decide_eq_true_eq, decide_eq_false_iff_not] at c1
      omega
  | k + 1, i, h0, hi, l6, V, h, m, b => by
    iterate 2 refine mj_T.pl rfl rfl rfl rfl ?_
    refine mj_T.icmp (a := i) (b := t) rfl ⟨by omega, by omega⟩ ⟨by omega, by omega⟩ (fun c1 => ?_) (fun c1 => ?_)
    · simp only [jc, Bool.not_eq_true', Bool.not_eq_false', decide_eq_true_eq, decide_eq_false_iff_not] at c1
      refine mj_T.pl rfl rfl rfl rfl ?_
      refine mT_get m 19 cq_d1 (by decide) rfl rfl ?_
      refine mZ_sg m cq_d477 rfl (fun z2 rz2 => ?_)
      exact mj_T.ret rfl rfl rfl ⟨_, _, _, m, b, rz2, rfl⟩
    · simp only [jc, Bool.not_eq_true', Bool.not_eq_false', decide_eq_true_eq, decide_eq_false_iff_not] at c1
      refine mj_T.pl rfl rfl rfl rfl ?_
      refine mT_get m 19 cq_d1 (by decide) rfl rfl ?_
      refine mj_T.pl rfl rfl rfl rfl ?_
      refine mT_get m 19 cq_d1 (by decide) rfl rfl ?_
      refine mj_T.pl rfl rfl rfl rfl ?_
      refine mj_T.call rfl rfl (Nat.le_of_ble_eq_true rfl) (Nat.le_of_ble_eq_true rfl) (mV_of m 11 cq_d19 (by decide) rfl (by decide) rfl _) rfl (mj_Ok.up (by omega) (mZ_23 (D := 0) m b fr_d477 hy)) (fun v g3 hq => ?_) (fun i g3 hq => ?_)
      rotate_left
      · obtain ⟨_, _, _, _, _, _, hq⟩ := hq; cases hq
      obtain ⟨V4, y7, _, m5, b6, jy7, hq⟩ := hq
      cases hq
      refine mj_T.eq (pc2 := 38) (st2 := [.long (jl y7)]) ?_ rfl rfl rfl rfl
      refine mj_T.pl (loc' := [some (.ref 1), some (.ref a), some (.long (jl y)), none, some (.int (jn t)), some (.int (jn i)), some (.long (jl y7)), none]) rfl rfl rfl rfl ?_
      refine mj_T.pl rfl rfl rfl rfl ?_
      refine mT_get m5 19 cq_d1 (by decide) rfl rfl ?_
      refine mj_T.pl rfl rfl rfl rfl ?_
      refine mT_get m5 19 cq_d1 (by decide) rfl rfl ?_
      refine mj_T.pl rfl rfl rfl rfl ?_
      refine mj_T.call rfl rfl (Nat.le_of_ble_eq_true rfl) (Nat.le_of_ble_eq_true rfl) (mV_of m5 11 cq_d19 (by decide) rfl (by decide) rfl _) rfl (mj_Ok.up (by omega) (mZ_25 (D := 0) m5 b6 fr_d477 jy7)) (fun v g8 hq => ?_) (fun i g8 hq => ?_)
      rotate_left
      · obtain ⟨_, _, _, _, hq⟩ := hq; cases hq
      obtain ⟨V9, _, m10, b11, hq⟩ := hq
      cases hq
      refine mj_T.eq (pc2 := 53) (st2 := []) ?_ rfl rfl rfl rfl
      refine mj_T.pl rfl rfl rfl rfl ?_
      refine mT_get m10 19 cq_d1 (by decide) rfl rfl ?_
      refine mj_T.pl rfl rfl rfl rfl ?_
      refine mT_get m10 19 cq_d1 (by decide) rfl rfl ?_
      refine mj_T.pl rfl rfl rfl rfl ?_
      refine jT.lc 0 rfl rfl ?_
      refine mj_T.lif (a := y7) (b := ((0 : Nat) : Int)) rfl rfl jy7 ⟨by omega, by omega⟩ (fun c12 => ?_) (fun c12 => ?_)
      · simp only [jc, Bool.not_eq_true', Bool.not_eq_false', decide_eq_true_eq, decide_eq_false_iff_not] at c12
        iterate 2 refine mj_T.pl rfl rfl rfl rfl ?_
        refine jT.ldiv rfl jy7 (by omega) (fun y13 jy13 => ?_)
        refine mj_T.call rfl rfl (Nat.le_of_ble_eq_true rfl) (Nat.le_of_ble_eq_true rfl) (mV_of m10 11 cq_d19 (by decide) rfl (by decide) rfl _) rfl (mj_Ok.up (by omega) (mZ_24 (D := 0) m10 b11 fr_d479 jy13)) (fun v g14 hq => ?_) (fun i g14 hq => ?_)
        rotate_left
        · obtain ⟨_, _, _, _, hq⟩ := hq; cases hq
        obtain ⟨V15, _, m16, b17, hq⟩ := hq
        cases hq
        refine mj_T.eq (pc2 := 79) (st2 := []) ?_ rfl rfl rfl rfl
        refine mj_T.iinc rfl rfl ?_
        refine mj_T.eq (loc2 := [some (.ref 1), some (.ref a), some (.long (jl y)), none, some (.int (jn t)), some (.int (jn (i + 1))), some (.long (jl y7)), none]) ?_ rfl rfl rfl rfl
        refine mj_T.pl rfl rfl rfl rfl ?_
        exact mZ_159_loop fa hy ht k _ ⟨by omega, by omega⟩ (by omega) _ _ _ m16 b17
      · simp only [jc, Bool.not_eq_true', Bool.not_eq_false', decide_eq_true_eq, decide_eq_false_iff_not] at c12
        iterate 2 refine mj_T.pl rfl rfl rfl rfl ?_
        refine mj_T.call rfl rfl (Nat.le_of_ble_eq_true rfl) (Nat.le_of_ble_eq_true rfl) (mV_of m10 11 cq_d19 (by decide) rfl (by decide) rfl _) rfl (mj_Ok.up (by omega) (mZ_24 (D := 0) m10 b11 fr_d479 hy)) (fun v g18 hq => ?_) (fun i g18 hq => ?_)
        rotate_left
        · obtain ⟨_, _, _, _, hq⟩ := hq; cases hq
        obtain ⟨V19, _, m20, b21, hq⟩ := hq
        cases hq
        refine mj_T.eq (pc2 := 79) (st2 := []) ?_ rfl rfl rfl rfl
        refine mj_T.iinc rfl rfl ?_
        refine mj_T.eq (loc2 := [some (.ref 1), some (.ref a), some (.long (jl y)), none, some (.int (jn t)), some (.int (jn (i + 1))), some (.long (jl y7)), none]) ?_ rfl rfl rfl rfl
        refine mj_T.pl rfl rfl rfl rfl ?_
        exact mZ_159_loop fa hy ht k _ ⟨by omega, by omega⟩ (by omega) _ _ _ m20 b21
theorem mZ_159 (m : jM g n V X h) (b : by0 V) {a : Nat} (fa : frW a) {y t : Int} (hy : jR y) (ht : -2147483648 ≤ t ∧ t ≤ 2147483647) : mj_Ok (D + 4) 159 [.ref 1, .ref a, .long (jl y), .int (jn t)] h (fun r => ∃ (V2 : Nat → Int) (z : Int) (h2 : mj_H), jM g n V2 X h2 ∧ by0 V2 ∧ (-2147483648 ≤ z ∧ z ≤ 2147483647) ∧ r = (.inl (some (.int (jn z))), h2)) := by
  refine mj_Ok.of (M := mj_m159) rfl rfl rfl ?_
  refine mj_T.pl rfl rfl rfl rfl ?_
  refine mT_get m 19 cq_d1 (by decide) rfl rfl ?_
  refine mj_T.pl rfl rfl rfl rfl ?_
  refine mj_T.call rfl rfl (Nat.le_of_ble_eq_true rfl) (Nat.le_of_ble_eq_true rfl) (mV_of m 18 cq_d477 (by decide) rfl (by decide) rfl _) rfl (mj_Ok.up (by omega) (mF_87 (D := 0) m b fr_d477 fa)) (fun v g1 hq => ?_) (fun i g1 hq => ?_)
  rotate_left
  · obtain ⟨_, _, _, _, hq⟩ := hq; cases hq
  obtain ⟨V2, _, m3, b4, hq⟩ := hq
  cases hq
  refine mj_T.eq (pc2 := 8) (st2 := []) ?_ rfl rfl rfl rfl
  refine mj_T.pl rfl rfl rfl rfl ?_
  refine mT_get m3 19 cq_d1 (by decide) rfl rfl ?_
  refine jT.lc 1 rfl rfl ?_
  refine mj_T.call rfl rfl (Nat.le_of_ble_eq_true rfl) (Nat.le_of_ble_eq_true rfl) (mV_of m3 18 cq_d479 (by decide) rfl (by decide) rfl _) rfl (mj_Ok.up (by omega) (mF_86 (D := 0) m3 b4 fr_d479 ⟨by decide, by decide⟩)) (fun v g5 hq => ?_) (fun i g5 hq => ?_)
  rotate_left
  · obtain ⟨_, _, _, _, hq⟩ := hq; cases hq
  obtain ⟨V6, _, m7, b8, hq⟩ := hq
  cases hq
  refine mj_T.eq (pc2 := 16) (st2 := []) ?_ rfl rfl rfl rfl
  refine mj_T.pl rfl rfl rfl rfl ?_
  refine mj_T.pl (loc' := [some (.ref 1), some (.ref a), some (.long (jl y)), none, some (.int (jn t)), some (.int (jn 0)), none, none]) rfl rfl rfl rfl ?_
  exact mZ_159_loop fa hy ht t.toNat 0 ⟨by decide, by decide⟩ (by omega) _ _ _ m7 b8
theorem mZ_18 (m : jM g n V X h) (b : by0 V) (dg : DG X) {p q : Nat} (kp : cK p = 2) (kq : cK q = 2) (hjp : ∀ j, jR (X p j)) (hjq : ∀ j, jR (X q j)) (np : p ≠ 80) (nq : q ≠ 80) : mj_Ok (D + 5) 18 [.ref 19, .ref p, .ref q] h (fun r => ∃ (V2 : Nat → Int) (X2 : Nat → Nat → Int) (z : Int) (h2 : mj_H), jM g n V2 X2 h2 ∧ by0 V2 ∧ DG X2 ∧ sBn X X2 ∧ (z = 0 ∨ z = 1) ∧ r = (.inl (some (.int (jn z))), h2)) := by
  refine mj_Ok.of (M := mj_m18) rfl rfl rfl ?_
  refine mj_T.pl rfl rfl rfl rfl ?_
  refine mT_get m 11 cq_d19 (by decide) rfl rfl ?_
  refine mj_T.pl rfl rfl rfl rfl ?_
  refine jT.lc 1 rfl rfl ?_
  refine mj_T.call rfl rfl (Nat.le_of_ble_eq_true rfl) (Nat.le_of_ble_eq_true rfl) (mV_of m 13 cq_d80 (by decide) rfl (by decide) rfl _) rfl (mj_Ok.up (by omega) (mZ_40 (D := 0) m b cq_d80 kp ⟨by decide, by decide⟩ (fun j => by rw [show X p j = X p j from rfl]; exact hjp j))) (fun v g1 hq => ?_) (fun i g1 hq => ?_)
  rotate_left
  · obtain ⟨_, _, _, _, _, _, hq⟩ := hq; cases hq
  obtain ⟨V2, d5, _, m3, b4, hd5, hq⟩ := hq
  cases hq
  refine mj_T.eq (pc2 := 9) (st2 := []) ?_ rfl rfl rfl rfl
  refine mj_T.pl rfl rfl rfl rfl ?_
  refine mT_get m3 11 cq_d19 (by decide) rfl rfl ?_
  refine mj_T.pl rfl rfl rfl rfl ?_
  refine jT.lc 1 rfl rfl ?_
  refine mj_T.call rfl rfl (Nat.le_of_ble_eq_true rfl) (Nat.le_of_ble_eq_true rfl) (mV_of m3 13 cq_d50 (by decide) rfl (by decide) rfl _) rfl (mj_Ok.up (by omega) (mZ_40 (D := 0) m3 b4 cq_d50 kq ⟨by decide, by decide⟩ (fun j => by rw [xup_oth (by omega)]; exact hjq j))) (fun v g6 hq => ?_) (fun i g6 hq => ?_)
  rotate_left
  · obtain ⟨_, _, _, _, _, _, hq⟩ := hq; cases hq
  obtain ⟨V7, d10, _, m8, b9, hd10, hq⟩ := hq
  cases hq
  refine mj_T.eq (pc2 := 18) (st2 := []) ?_ rfl rfl rfl rfl
  have l20 := mK_z.1
  have l50 := mK_z.2.1
  have l80 := mK_z.2.2.1
  rw [l80] at hd5
  rw [l50] at hd10
  have dd : DG (xup (xup X 80 2 d5) 50 2 d10) := (dg.deg (by rw [l80]; exact hd5)).deg (by rw [l50]; exact hd10)
  have ss : sBn X (xup (xup X 80 2 d5) 50 2 d10) := (sBn.deg cq_d80).tr (sBn.deg cq_d50)
  refine mj_T.pl rfl rfl rfl rfl ?_
  refine mT_get m8 11 cq_d19 (by decide) rfl rfl ?_
  refine mT_get (v := .int (jn d5)) m8 13 cq_d80 (by decide) rfl (congrArg (fun z : Int => some (Value.int (jn z))) ((xup_ne _ _ (Or.inl (by decide))).trans (xup_at _ _ _ _))) ?_
  refine mj_T.pl rfl rfl rfl rfl ?_
  refine mT_get m8 11 cq_d19 (by decide) rfl rfl ?_
  refine mT_get (v := .int (jn d10)) m8 13 cq_d50 (by decide) rfl (congrArg (fun z : Int => some (Value.int (jn z))) (xup_at _ _ _ _)) ?_
  refine mj_T.icmp (a := d5) (b := d10) rfl ⟨by omega, by omega⟩ ⟨by omega, by omega⟩ (fun c11 => ?_) (fun c11 => ?_)
  · simp only [jc, Bool.not_eq_true', Bool.not_eq_false', decide_eq_true_eq, decide_eq_false_iff_not] at c11
    refine mj_T.pl rfl rfl rfl rfl ?_
    refine mT_get m8 11 cq_d19 (by decide) rfl rfl ?_
    refine mT_get (v := .int (jn d5)) m8 13 cq_d80 (by decide) rfl (congrArg (fun z : Int => some (Value.int (jn z))) ((xup_ne _ _ (Or.inl (by decide))).trans (xup_at _ _ _ _))) ?_
    refine mj_T.if0 (a := d5) rfl ⟨by omega, by omega⟩ (fun c12 => ?_) (fun c12 => ?_)
    · simp only [jc, Bool.not_eq_true', Bool.not_eq_false', decide_eq_true_eq, decide_eq_false_iff_not] at c12
      refine mj_T.pl rfl rfl rfl rfl ?_
      exact mj_T.ret rfl rfl rfl ⟨_, _, 0, _, m8, b9, dd, ss, by decide, rfl⟩
    · simp only [jc, Bool.not_eq_true', Bool.not_eq_false', decide_eq_true_eq, decide_eq_false_iff_not] at c12
      iterate 2 refine mj_T.pl rfl rfl rfl rfl ?_
      exact mj_T.ret rfl rfl rfl ⟨_, _, 1, _, m8, b9, dd, ss, by decide, rfl⟩
  · simp only [jc, Bool.not_eq_true', Bool.not_eq_false', decide_eq_true_eq, decide_eq_false_iff_not] at c11
    refine mj_T.pl rfl rfl rfl rfl ?_
    refine mT_get m8 11 cq_d19 (by decide) rfl rfl ?_
    refine mT_get (v := .int (jn d10)) m8 13 cq_d50 (by decide) rfl (congrArg (fun z : Int => some (Value.int (jn z))) (xup_at _ _ _ _)) ?_
    refine mj_T.if0 (a := d10) rfl ⟨by omega, by omega⟩ (fun c13 => ?_) (fun c13 => ?_)
    · simp only [jc, Bool.not_eq_true', Bool.not_eq_false', decide_eq_true_eq, decide_eq_false_iff_not] at c13
      iterate 2 refine mj_T.pl rfl rfl rfl rfl ?_
      refine mT_get m8 11 cq_d19 (by decide) rfl rfl ?_
      refine mj_T.pl rfl rfl rfl rfl ?_
      refine mT_get m8 11 cq_d19 (by decide) rfl rfl ?_
      refine mj_T.call rfl rfl (Nat.le_of_ble_eq_true rfl) (Nat.le_of_ble_eq_true rfl) (mV_of m8 11 cq_d19 (by decide) rfl (by decide) rfl _) rfl (mj_Ok.up (by omega) (mZ_19 (D := 0) m8 b9 (dq := d10.toNat) (dr := d5.toNat) (by rw [xup_at]; omega) (by rw [xup_ne _ _ (Or.inl (by decide)), xup_at]; omega) (by omega) (by omega))) (fun v g14 hq => ?_) (fun i g14 hq => ?_)
      rotate_left
      · obtain ⟨_, _, _, _, _, _, _, _, _, _, hq⟩ := hq; cases hq
      obtain ⟨V9, X9, c9, _, m9, b9, e9, q20, q80, hc9, hq⟩ := hq
      cases hq
      refine mj_T.eq (pc2 := 73) (st2 := [.int (jn c9)]) ?_ rfl rfl rfl rfl
      have d2 : DG X9 := fun p kp => by
        by_cases p1 : p = 20
        · subst p1
          exact q20
        by_cases p2 : p = 80
        · subst p2
          exact q80
        rw [e9 p p1 p2]
        exact dd p kp
      have s2 : sBn X X9 := ss.tr ⟨congrFun (e9 1 (by decide) (by decide)) 2, congrFun (e9 1 (by decide) (by decide)) 3, fun c hc => e9 c (by omega) (by omega)⟩
      rcases (show c9 = 0 ∨ c9 = 1 by omega) with rfl | rfl
      · exact mj_T.ret rfl rfl rfl ⟨_, _, 0, _, m9, b9, d2, s2, Or.inl rfl, rfl⟩
      · exact mj_T.ret rfl rfl rfl ⟨_, _, 1, _, m9, b9, d2, s2, Or.inr rfl, rfl⟩
    · simp only [jc, Bool.not_eq_true', Bool.not_eq_false', decide_eq_true_eq, decide_eq_false_iff_not] at c13
      refine mj_T.pl rfl rfl rfl rfl ?_
      refine mT_get m8 11 cq_d19 (by decide) rfl rfl ?_
      refine mT_get (v := .int (jn d5)) m8 13 cq_d80 (by decide) rfl (congrArg (fun z : Int => some (Value.int (jn z))) ((xup_ne _ _ (Or.inl (by decide))).trans (xup_at _ _ _ _))) ?_
      refine mj_T.if0 (a := d5) rfl ⟨by omega, by omega⟩ (fun c15 => ?_) (fun c15 => ?_)
      · simp only [jc, Bool.not_eq_true', Bool.not_eq_false', decide_eq_true_eq, decide_eq_false_iff_not] at c15
        refine mj_T.pl rfl rfl rfl rfl ?_
        exact mj_T.ret rfl rfl rfl ⟨_, _, 0, _, m8, b9, dd, ss, by decide, rfl⟩
      · simp only [jc, Bool.not_eq_true', Bool.not_eq_false', decide_eq_true_eq, decide_eq_false_iff_not] at c15
        iterate 2 refine mj_T.pl rfl rfl rfl rfl ?_
        exact mj_T.ret rfl rfl rfl ⟨_, _, 1, _, m8, b9, dd, ss, by decide, rfl⟩
end MRD
