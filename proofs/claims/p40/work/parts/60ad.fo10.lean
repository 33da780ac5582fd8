/-! Of the reference and of numbers (as in p1, part 78j). -/
theorem jq_sign {D a b i : Nat} {v : Int} {h : mj_H} {fs' : List Value} {bg : Nat → Int32} (h1 : h[a]? = some (.inr (10, fs'))) (h2 : fs'[4]? = some (.ref b)) (h4 : h[b]? = some (.inl (0, 466830, fun j => .int (bg j)))) (hi : i < 665) (k1 : jrs bg i v) : mj_Ok (D + 1) 178 [.ref a, .int (jn (i : Nat))] h (fun r => r = (.inl (some (.int (jn (jsg v)))), h)) := by
  refine mj_Ok.of (M := mj_m178) rfl rfl rfl ?_
  refine mj_T.pl rfl rfl rfl rfl ?_
  refine mj_T.step (loc' := mj_loc0 2 [.ref a, .int (jn i)]) (st' := [.ref b]) (h' := h) (pc' := 4) rfl rfl (by simp only [mj_step, h1, h2, if_true]; rfl) ?_
  iterate 2 refine mj_T.pl rfl rfl rfl rfl ?_
  refine mj_T.imul (b := 702) rfl ?_
  rw [show (i : Int) * 702 = ((i * 702 : Nat) : Int) by omega]
  refine mj_T.ialv rfl h4 ⟨by omega, by omega⟩ ⟨by omega, by omega⟩ k1.1 ?_
  exact mj_T.ret rfl rfl rfl rfl
theorem jq_limb {D a b i j : Nat} {v : Int} {h : mj_H} {fs' : List Value} {bg : Nat → Int32} (h1 : h[a]? = some (.inr (10, fs'))) (h2 : fs'[4]? = some (.ref b)) (h4 : h[b]? = some (.inl (0, 466830, fun j => .int (bg j)))) (hi : i < 665) (hj : j ≤ 700) (k1 : jrs bg i v) : mj_Ok (D + 2) 180 [.ref a, .int (jn (i : Nat)), .int (jn (j : Nat))] h (fun r => r = (.inl (some (.int (jn (jlb v.natAbs j : Nat)))), h)) := by
  have hlen := jq_length (D := D) h1 h2 h4 hi k1
  have k3 := k1.2.2.2
  have k4 := k1.2.2.1
  refine mj_Ok.of (D := D + 1) (M := mj_m180) rfl rfl rfl ?_
  iterate 3 refine mj_T.pl rfl rfl rfl rfl ?_
  refine mj_T.call (ins := .invokevirtual 52) rfl rfl (Nat.le_of_ble_eq_true rfl) (Nat.le_of_ble_eq_true rfl) (by simp [mj_recv, h1]) rfl hlen (fun v' h' hq' => ?_) (fun i h' hq' => by cases hq')
  cases hq'
  refine mj_T.icmp rfl ⟨by omega, by omega⟩ ⟨by omega, by omega⟩ (fun hc => ?_) (fun hc => ?_)
  · simp only [jc, decide_eq_true_eq] at hc
    refine mj_T.pl rfl rfl rfl rfl ?_
    refine mj_T.ret rfl rfl rfl ?_
    rw [jlb_high (show jnl v.natAbs ≤ j by omega)]
    rfl
  · simp only [jc, decide_eq_false_iff_not] at hc
    refine mj_T.pl rfl rfl rfl rfl ?_
    refine mj_T.step (loc' := mj_loc0 3 [.ref a, .int (jn i), .int (jn j)]) (st' := [.ref b]) (h' := h) (pc' := 13) rfl rfl (by simp only [mj_step, h1, h2, if_true]; rfl) ?_
    iterate 2 refine mj_T.pl rfl rfl rfl rfl ?_
    refine mj_T.imul (b := 702) rfl ?_
    refine mj_T.pl rfl rfl rfl rfl ?_
    refine mj_T.iadd (b := 2) rfl ?_
    refine mj_T.pl rfl rfl rfl rfl ?_
    refine mj_T.iadd rfl ?_
    rw [show (i : Int) * 702 + 2 + (j : Int) = ((i * 702 + 2 + j : Nat) : Int) by omega]
    refine mj_T.ialv rfl h4 ⟨by omega, by omega⟩ ⟨by omega, by omega⟩ (k4 j (by omega)) ?_
    refine mj_T.pl rfl rfl rfl rfl ?_
    exact mj_T.ret rfl rfl rfl rfl
theorem jq_long_loop {a b s : Nat} {v : Int} {h : mj_H} {fs' : List Value} {bg : Nat → Int32} {Q : mj_R → Prop} (h1 : h[a]? = some (.inr (10, fs'))) (h2 : fs'[4]? = some (.ref b)) (h4 : h[b]? = some (.inl (0, 466830, fun j => .int (bg j)))) (hi : s < 665) (k1 : jrs bg s v) (K : mj_T 2 mj_m195 37 [some (.ref a), some (.int (jn (s : Nat))), some (.long (jl (v.natAbs : Nat))), none, some (.int (jn (-1)))] [] h Q) : ∀ i, i ≤ jnl v.natAbs → mj_T 2 mj_m195 11 [some (.ref a), some (.int (jn (s : Nat))), some (.long (jl (v.natAbs / jB ^ i : Nat))), none, some (.int (jn ((i : Int) - 1)))] [] h Q
  | 0, hi0 => by
    refine mj_T.pl rfl rfl rfl rfl ?_
    refine mj_T.if0 rfl ⟨by omega, by omega⟩ (fun hc => ?_) (fun hc => ?_)
    · rw [Nat.pow_zero, Nat.div_one]
      exact K
    · simp only [jc, decide_eq_false_iff_not] at hc
      omega
  | i + 1, hi0 => by
    have ih := jq_long_loop h1 h2 h4 hi k1 K i (by omega)
    have hb := jlb_lt v.natAbs i
    have k3 := k1.2.2.2
    have hst : ((v.natAbs / jB ^ (i + 1) : Nat) : Int) * 1000000000 + ((jlb v.natAbs i : Nat) : Int) = ((v.natAbs / jB ^ i : Nat) : Int) := by
      rw [← jq_limb_step v.natAbs i, Int.natCast_add, Int.natCast_mul]
      rfl
    rw [show ((i + 1 : Nat) : Int) - 1 = (i : Int) by omega]
    generalize v.natAbs / jB ^ (i + 1) = y at hst ⊢
    refine mj_T.pl rfl rfl rfl rfl ?_
    refine mj_T.if0 rfl ⟨by omega, by omega⟩ (fun hc => ?_) (fun hc => ?_)
    · simp only [jc, decide_eq_true_eq] at hc
      omega
    · iterate 2 refine mj_T.pl rfl rfl rfl rfl ?_
      refine mj_T.lmul (b := 1000000000) rfl ?_
      iterate 3 refine mj_T.pl rfl rfl rfl rfl ?_
      refine mj_T.call (ins := .invokevirtual 64) rfl rfl (Nat.le_of_ble_eq_true rfl) (Nat.le_of_ble_eq_true rfl) (by simp [mj_recv, h1]) rfl (jq_limb (D := 0) h1 h2 h4 hi (show i ≤ 700 by omega) k1) (fun v' h' hq' => ?_) (fun i h' hq' => by cases hq')
      cases hq'
      refine mj_T.i2l rfl ⟨by omega, by omega⟩ ?_
      refine mj_T.ladd rfl ?_
      rw [hst]
      refine mj_T.pl rfl rfl rfl rfl ?_
      refine mj_T.iinc rfl rfl ?_
      refine mj_T.pl rfl rfl rfl rfl ?_
      exact ih
