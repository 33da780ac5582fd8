/-! The reading of a number by the reference. -/
section RNM
variable {S N B T X V : Nat → Int} {h : mj_H} {D tm : Nat} {o e : Int}
theorem rd_num_loop (h9 : S 9 = (tm : Int)) (ht : tm ≤ 200) (hT : ∀ j : Nat, j < tm → 1 ≤ T j ∧ T j ≤ 255) {s : Nat} {most : Int} {Q : mj_R → Prop} :
    ∀ (n k : Nat) (h : mj_H), s + k + n = tm → rS (st3 S ((s + k : Nat) : Int) o e) N B T X V h → (∀ (k2 : Nat) (h2 : mj_H), s + k2 = rdg T n (s + k) → rS (st3 S ((s + k2 : Nat) : Int) o e) N B T X V h2 → mj_T (D + 2) mj_m295 85 [some (.ref 0), some (.long (jl most)), none, some (.int (jn (s : Int))), some (.long (jl (rvl T s (min k2 18)))), none] [] h2 Q) → mj_T (D + 2) mj_m295 12 [some (.ref 0), some (.long (jl most)), none, some (.int (jn (s : Int))), some (.long (jl (rvl T s (min k 18)))), none] [] h Q := by
  intro n
  induction n with
  | zero =>
    intro k h hk hs hend
    refine mj_T.pl rfl rfl rfl rfl ?_
    refine rT_get hs rfl st3_g10 ?_
    refine mj_T.pl rfl rfl rfl rfl ?_
    refine rT_get hs rfl (st3_g9 h9) ?_
    refine mj_T.icmp (a := ((s + k : Nat) : Int)) (b := (tm : Int)) rfl ⟨by omega, by omega⟩ ⟨by omega, by omega⟩ (fun hc => ?_) (fun hc => ?_)
    · exact hend k h rfl hs
    · simp only [jc, decide_eq_false_iff_not] at hc
      omega
  | succ n ih =>
    intro k h hk hs hend
    have hTa := hT (s + k) (by omega)
    refine mj_T.pl rfl rfl rfl rfl ?_
    refine rT_get hs rfl st3_g10 ?_
    refine mj_T.pl rfl rfl rfl rfl ?_
    refine rT_get hs rfl (st3_g9 h9) ?_
    refine mj_T.icmp (a := ((s + k : Nat) : Int)) (b := (tm : Int)) rfl ⟨by omega, by omega⟩ ⟨by omega, by omega⟩ (fun hc => ?_) (fun hc => ?_)
    · simp only [jc, decide_eq_true_eq] at hc
      omega
    refine mj_T.pl rfl rfl rfl rfl ?_
    refine rT_get hs rfl rfl ?_
    refine mj_T.pl rfl rfl rfl rfl ?_
    refine rT_get hs rfl st3_g10 ?_
    refine rT_ldT hs rfl ⟨by omega, by omega⟩ ?_
    rw [Int.toNat_natCast]
    refine mj_T.call (ins := .invokestatic 363) rfl rfl (Nat.le_of_ble_eq_true rfl) (Nat.le_of_ble_eq_true rfl) rfl rfl (mj_Ok.up (by omega) (rd_isDigit (D := 0) (v := T (s + k)) ⟨by omega, by omega⟩)) (fun v' h' hq' => ?_) (fun i h' hq' => by rcases hq' with ⟨_, h⟩ | ⟨_, h⟩ <;> cases h)
    rcases hq' with ⟨hd, hq'⟩ | ⟨hd, hq'⟩
    · cases hq'
      rw [show rdg T (n + 1) (s + k) = rdg T n (s + k + 1) from if_pos hd] at hend
      refine mj_T.if0 (a := 1) rfl ⟨by decide, by decide⟩ (fun hc2 => ?_) (fun hc2 => ?_)
      · simp [jc] at hc2
      have t72 : mj_T (D + 2) mj_m295 72 [some (.ref 0), some (.long (jl most)), none, some (.int (jn (s : Int))), some (.long (jl (rvl T s (min (k + 1) 18)))), none] [] h Q := by
        iterate 2 refine mj_T.pl rfl rfl rfl rfl ?_
        refine rT_get hs rfl st3_g10 ?_
        refine mj_T.pl rfl rfl rfl rfl ?_
        refine mj_T.iadd (a := ((s + k : Nat) : Int)) (b := 1) rfl ?_
        rw [show ((s + k : Nat) : Int) + 1 = ((s + (k + 1) : Nat) : Int) by omega]
        refine rT_put (v := ((s + (k + 1) : Nat) : Int)) hs rfl rfl (by decide) rfl (fun h1 hs1 => ?_)
        rw [st3_10] at hs1
        refine mj_T.pl rfl rfl rfl rfl ?_
        exact ih (k + 1) h1 (by omega) hs1 hend
      refine mj_T.pl rfl rfl rfl rfl ?_
      refine rT_get hs rfl st3_g10 ?_
      refine mj_T.pl rfl rfl rfl rfl ?_
      refine mj_T.isub (a := ((s + k : Nat) : Int)) (b := (s : Int)) rfl ?_
      rw [show ((s + k : Nat) : Int) - (s : Int) = (k : Int) by omega]
      refine mj_T.pl rfl rfl rfl rfl ?_
      refine mj_T.icmp (a := (k : Int)) (b := 18) rfl ⟨by omega, by omega⟩ ⟨by decide, by decide⟩ (fun hc3 => ?_) (fun hc3 => ?_)
      · simp only [jc, decide_eq_true_eq] at hc3
        rw [show min (k + 1) 18 = min k 18 by omega] at t72
        exact t72
      · simp only [jc, decide_eq_false_iff_not] at hc3
        iterate 2 refine mj_T.pl rfl rfl rfl rfl ?_
        refine mj_T.lmul (a := 10) rfl ?_
        refine mj_T.pl rfl rfl rfl rfl ?_
        refine rT_get hs rfl rfl ?_
        refine mj_T.pl rfl rfl rfl rfl ?_
        refine rT_get hs rfl st3_g10 ?_
        refine rT_ldT hs rfl ⟨by omega, by omega⟩ ?_
        rw [Int.toNat_natCast]
        refine mj_T.i2l rfl ⟨by omega, by omega⟩ ?_
        refine mj_T.ladd rfl ?_
        refine mj_T.pl rfl rfl rfl rfl ?_
        refine mj_T.lsub (b := 48) rfl ?_
        refine mj_T.pl rfl rfl rfl rfl ?_
        have e1 : 10 * rvl T s (min k 18) + T (s + k) - 48 = rvl T s (min (k + 1) 18) := by
          rw [show min k 18 = k by omega, show min (k + 1) 18 = k + 1 by omega]
          rfl
        rw [e1]
        exact t72
    · cases hq'
      rw [show rdg T (n + 1) (s + k) = s + k from if_neg hd] at hend
      refine mj_T.if0 (a := 0) rfl ⟨by decide, by decide⟩ (fun hc2 => ?_) (fun hc2 => ?_)
      · exact hend k h rfl hs
      · simp [jc] at hc2
theorem rd_number (h9 : S 9 = (tm : Int)) (ht : tm ≤ 200) (hT : ∀ j : Nat, j < tm → 1 ≤ T j ∧ T j ≤ 255) {a : Nat} {most : Int} (hm : jR most) (ha : a ≤ tm) (hs : rS (st3 S (a : Int) o e) N B T X V h) : mj_Ok (D + 3) 295 [.ref 0, .long (jl most)] h (fun r => (∃ (b : Nat) (h2 : mj_H), (rnm T tm most a = (true, b) ∧ b ≤ tm ∧ a < b) ∧ rS (st3 S (b : Int) o e) N B T X V h2 ∧ r = (.inl (some (.int (jn 1))), h2)) ∨ (∃ (x b : Nat) (h2 : mj_H), (rnm T tm most a = (false, x) ∧ x ≤ tm ∧ b ≤ tm) ∧ rS (st3 S (b : Int) o (x : Int)) N B T X V h2 ∧ r = (.inl (some (.int (jn 0))), h2))) := by
  refine mj_Ok.of (M := mj_m295) rfl rfl rfl ?_
  have hle := rskp_le (T := T) ha
  have hge := rskp_ge (T := T) (tm := tm) a
  refine mj_T.pl rfl rfl rfl rfl ?_
  refine mj_T.call (ins := .invokevirtual 348) rfl rfl (Nat.le_of_ble_eq_true rfl) (Nat.le_of_ble_eq_true rfl) (by simp [mj_recv, rS_f hs]) rfl (mj_Ok.up (by omega) (rd_skips (D := 0) h9 ht hT ha hs)) (fun v' h1 hq' => ?_) (fun i h' hq' => by obtain ⟨_, _, h⟩ := hq'; cases h)
  obtain ⟨_, hs1, hq'⟩ := hq'
  cases hq'
  obtain ⟨s, hsdef⟩ : ∃ s, rskp T tm a = s := ⟨_, rfl⟩
  rw [hsdef] at hs1 hle hge
  refine mj_T.pl rfl rfl rfl rfl ?_
  refine rT_get hs1 rfl st3_g10 ?_
  iterate 3 refine mj_T.pl rfl rfl rfl rfl ?_
  refine rd_num_loop (D := D) (most := most) h9 ht hT (tm - s) 0 h1 (by omega) hs1 (fun k h2 hk hs2 => ?_)
  have hdl := rdg_le (T := T) (tm - s) (s + 0)
  rw [← hk] at hdl
  have hek : rdgp T tm s = s + k := hk.symm
  have hin : ∀ j, s ≤ j → j < s + k → 48 ≤ T j ∧ T j ≤ 57 := fun j j1 j2 => rdg_in (T := T) (tm - s) s j j1 (by show j < rdgp T tm s; omega)
  have eN : rnm T tm most a = if (1 ≤ k ∧ k ≤ 18) ∧ rvl T s k ≤ most then (true, s + k) else (false, s) := by
    unfold rnm
    rw [hsdef, hek, Nat.add_sub_cancel_left]
  rw [eN]
  have no : ¬ ((1 ≤ k ∧ k ≤ 18) ∧ rvl T s k ≤ most) → mj_T (D + 2) mj_m295 109 [some (.ref 0), some (.long (jl most)), none, some (.int (jn (s : Int))), some (.long (jl (rvl T s (min k 18)))), none] [] h2 (fun r => (∃ (b : Nat) (h2 : mj_H), ((if (1 ≤ k ∧ k ≤ 18) ∧ rvl T s k ≤ most then (true, s + k) else (false, s)) = (true, b) ∧ b ≤ tm ∧ a < b) ∧ rS (st3 S (b : Int) o e) N B T X V h2 ∧ r = (.inl (some (.int (jn 1))), h2)) ∨ (∃ (x b : Nat) (h2 : mj_H), ((if (1 ≤ k ∧ k ≤ 18) ∧ rvl T s k ≤ most then (true, s + k) else (false, s)) = (false, x) ∧ x ≤ tm ∧ b ≤ tm) ∧ rS (st3 S (b : Int) o (x : Int)) N B T X V h2 ∧ r = (.inl (some (.int (jn 0))), h2))) := fun hn => by
    iterate 2 refine mj_T.pl rfl rfl rfl rfl ?_
    refine mj_T.call (ins := .invokevirtual 351) rfl rfl (Nat.le_of_ble_eq_true rfl) (Nat.le_of_ble_eq_true rfl) (by simp [mj_recv, rS_f hs2]) rfl (mj_Ok.up (by omega) (rd_errs (D := 0) (x := (s : Int)) hs2)) (fun v' h3 hq' => ?_) (fun i h' hq' => by obtain ⟨_, _, h⟩ := hq'; cases h)
    obtain ⟨_, hs3, hq'⟩ := hq'
    cases hq'
    refine mj_T.if0 (a := 0) rfl ⟨by decide, by decide⟩ (fun hc => ?_) (fun hc => ?_)
    · refine mj_T.pl rfl rfl rfl rfl ?_
      exact mj_T.ret rfl rfl rfl (Or.inr ⟨s, s + k, h3, ⟨if_neg hn, by omega, by omega⟩, hs3, rfl⟩)
    · simp [jc] at hc
  refine mj_T.pl rfl rfl rfl rfl ?_
  refine rT_get hs2 rfl st3_g10 ?_
  refine mj_T.pl rfl rfl rfl rfl ?_
  refine mj_T.isub (a := ((s + k : Nat) : Int)) (b := (s : Int)) rfl ?_
  rw [show ((s + k : Nat) : Int) - (s : Int) = (k : Int) by omega]
  refine mj_T.i2l rfl ⟨by omega, by omega⟩ ?_
  iterate 2 refine mj_T.pl rfl rfl rfl rfl ?_
  refine mj_T.call (ins := .invokestatic 177) rfl rfl (Nat.le_of_ble_eq_true rfl) (Nat.le_of_ble_eq_true rfl) rfl rfl (mj_Ok.up (by omega) (rp_in (D := 0) (v := (k : Int)) (lo := 1) (hi := 18) ⟨by omega, by omega⟩ ⟨by decide, by decide⟩ ⟨by decide, by decide⟩)) (fun v' h' hq' => ?_) (fun i h' hq' => by rcases hq' with ⟨_, _, h⟩ | ⟨_, h⟩ <;> cases h)
  rcases hq' with ⟨k1, k2, hq'⟩ | ⟨k1, hq'⟩
  · cases hq'
    have hbd := rvl_bd (T := T) (s := s) k hin
    have hpw : 10 ^ k ≤ 10 ^ 18 := Nat.pow_le_pow_right (by decide) (by omega)
    have hmin : min k 18 = k := by omega
    refine mj_T.if0 (a := 1) rfl ⟨by decide, by decide⟩ (fun hc => ?_) (fun hc => ?_)
    · simp [jc] at hc
    iterate 2 refine mj_T.pl rfl rfl rfl rfl ?_
    rw [hmin] at no ⊢
    refine mj_T.lif (a := rvl T s k) (b := most) rfl rfl ⟨by omega, by omega⟩ hm (fun hc2 => ?_) (fun hc2 => ?_)
    · simp only [jc, decide_eq_true_eq] at hc2
      iterate 2 refine mj_T.pl rfl rfl rfl rfl ?_
      exact mj_T.ret rfl rfl rfl (Or.inl ⟨s + k, h2, ⟨if_pos ⟨⟨by omega, by omega⟩, hc2⟩, by omega, by omega⟩, hs2, rfl⟩)
    · simp only [jc, decide_eq_false_iff_not] at hc2
      exact no (fun q => hc2 q.2)
  · cases hq'
    refine mj_T.if0 (a := 0) rfl ⟨by decide, by decide⟩ (fun hc => ?_) (fun hc => ?_)
    · exact no (fun q => by omega)
    · simp [jc] at hc
end RNM
