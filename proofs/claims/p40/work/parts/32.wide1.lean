/-! Wide: setLong. -/
def jsg (v : Int) : Int := if v < 0 then -1 else if 0 < v then 1 else 0
theorem jrest (v : Int) (i : Nat) : (v.tdiv ((jB : Int) ^ i)).natAbs = v.natAbs / jB ^ i := by
  rw [Int.natAbs_tdiv, Int.natAbs_pow]
  rfl
theorem jrest_R {v : Int} (hv : jR v) (i : Nat) : jR (v.tdiv ((jB : Int) ^ i)) := by
  have h1 := jrest v i
  have h2 := Nat.div_le_self v.natAbs (jB ^ i)
  have h3 := hv.1
  have h4 := hv.2
  have h5 : (0 : Int) ≤ (jB : Int) ^ i := Int.le_of_lt (Int.pow_pos (by decide))
  rcases Int.le_total 0 v with h | h
  · have := Int.tdiv_nonneg h h5
    exact ⟨by omega, by omega⟩
  · have := Int.tdiv_nonneg (a := -v) (by omega) h5
    rw [Int.neg_tdiv] at this
    exact ⟨by omega, by omega⟩
theorem jrest_next (v : Int) (i : Nat) : (v.tdiv ((jB : Int) ^ i)).tdiv 1000000000 = v.tdiv ((jB : Int) ^ (i + 1)) := by
  have key : ∀ x : Nat, ((x : Int).tdiv ((jB : Int) ^ i)).tdiv 1000000000 = (x : Int).tdiv ((jB : Int) ^ (i + 1)) := by
    intro x
    rw [← Int.natCast_pow, ← Int.natCast_pow, ← Int.ofNat_tdiv, ← Int.ofNat_tdiv, show (1000000000 : Int) = ((jB : Nat) : Int) from rfl, ← Int.ofNat_tdiv, Nat.div_div_eq_div_mul, Nat.pow_succ]
  rcases Int.le_total 0 v with h | h
  · obtain ⟨x, rfl⟩ := Int.eq_ofNat_of_zero_le h
    exact key x
  · obtain ⟨x, hx⟩ := Int.eq_ofNat_of_zero_le (a := -v) (by omega)
    rw [show v = -(x : Int) by omega, Int.neg_tdiv, Int.neg_tdiv, Int.neg_tdiv, key]
theorem jrest_limb (v : Int) (i : Nat) : ((v.tdiv ((jB : Int) ^ i)).tmod 1000000000).natAbs = jlb v.natAbs i := by
  rw [Int.natAbs_tmod, jrest]
  rfl
theorem jw_setLong_loop {D n : Nat} {v : Int} (hv : jR v) {g0 : Int32} {g : Nat → Int32} (hn : n < 2147483648) {Q : mj_R → Prop}
    (hend : ∀ (gi : Nat → Int32) (i : Nat) (l6 : Option Value), i = min n (jnl v.natAbs) → (∀ j, j < i → gi j = jn (jlb v.natAbs j)) → (∀ j, i ≤ j → gi j = g j) → mj_T D mj_m86 74 [some (.ref 0), some (.long (jl v)), none, some (.long (jl (v.tdiv ((jB : Int) ^ i)))), none, some (.int (jn i)), l6] [] [.inr (8, [.ref 1, .int (jn i), .int g0]), .inl (0, n, fun j => .int (gi j))] Q) :
    ∀ (d i : Nat) (gi : Nat → Int32) (l6 : Option Value), i + d = n → i ≤ jnl v.natAbs → (∀ j, j < i → gi j = jn (jlb v.natAbs j)) → (∀ j, i ≤ j → gi j = g j) →
      mj_T D mj_m86 10 [some (.ref 0), some (.long (jl v)), none, some (.long (jl (v.tdiv ((jB : Int) ^ i)))), none, some (.int (jn i)), l6] [] [.inr (8, [.ref 1, .int (jn i), .int g0]), .inl (0, n, fun j => .int (gi j))] Q := by
  intro d
  induction d with
  | zero =>
    intro i gi l6 hid hil hg1 hg2
    repeat refine mj_T.pl rfl rfl rfl rfl ?_
    refine mj_T.alen rfl rfl ?_
    refine mj_T.icmp rfl ⟨by omega, by omega⟩ ⟨by omega, by omega⟩ (fun _ => ?_) (fun hc => ?_)
    · exact hend gi i l6 (by omega) hg1 hg2
    · simp only [jc, decide_eq_false_iff_not] at hc; omega
  | succ d ih =>
    intro i gi l6 hid hil hg1 hg2
    repeat refine mj_T.pl rfl rfl rfl rfl ?_
    refine mj_T.alen rfl rfl ?_
    refine mj_T.icmp rfl ⟨by omega, by omega⟩ ⟨by omega, by omega⟩ (fun hc => ?_) (fun hc => ?_)
    · simp only [jc, decide_eq_true_eq] at hc; omega
    have hr := jrest_R hv i
    have hlim := jrest v i
    have hlb := jrest_limb v i
    have hlt := jlb_lt v.natAbs i
    repeat refine mj_T.pl rfl rfl rfl rfl ?_
    refine mj_T.lif (b := 0) rfl rfl hr ⟨by decide, by decide⟩ (fun hc2 => ?_) (fun hc2 => ?_)
    · refine hend gi i l6 ?_ hg1 hg2
      simp only [jc, decide_eq_true_eq] at hc2
      have h1 : jnl v.natAbs ≤ i := jnl_le.mpr (by omega)
      omega
    have hil2 : i + 1 ≤ jnl v.natAbs := by
      simp only [jc, decide_eq_false_iff_not] at hc2
      exact jnl_lt.mpr (by omega)
    repeat refine mj_T.pl rfl rfl rfl rfl ?_
    refine mj_T.lrem (b := 1000000000) rfl hr ⟨by decide, by decide⟩ (by decide) ?_
    refine mj_T.l2i rfl ?_
    repeat refine mj_T.pl rfl rfl rfl rfl ?_
    have fin : mj_T D mj_m86 53 [some (.ref 0), some (.long (jl v)), none, some (.long (jl (v.tdiv ((jB : Int) ^ i)))), none, some (.int (jn i)), some (.int (jn ((v.tdiv ((jB : Int) ^ i)).tmod 1000000000)))] [.int (jn (jlb v.natAbs i)), .int (jn i), .ref 1] [.inr (8, [.ref 1, .int (jn i), .int g0]), .inl (0, n, fun j => .int (gi j))] Q := by
      refine mj_T.iast rfl rfl ⟨by omega, by omega⟩ ⟨by omega, by omega⟩ ?_
      repeat refine mj_T.pl rfl rfl rfl rfl ?_
      refine mj_T.ldiv (b := 1000000000) rfl hr ⟨by decide, by decide⟩ (by decide) ?_
      rw [jrest_next]
      repeat refine mj_T.pl rfl rfl rfl rfl ?_
      refine mj_T.iadd (b := 1) rfl ?_
      refine mj_T.pl rfl rfl rfl rfl ?_
      refine mj_T.iinc (a := i) rfl rfl ?_
      refine mj_T.pl rfl rfl rfl rfl ?_
      refine ih (i + 1) (upd gi i (jn (jlb v.natAbs i))) (some (.int (jn ((v.tdiv ((jB : Int) ^ i)).tmod 1000000000)))) (by omega) hil2 (fun j hj => ?_) (fun j hj => ?_)
      · unfold upd
        split
        · rename_i h; rw [h]
        · exact hg1 j (by omega)
      · unfold upd
        rw [if_neg (by omega)]
        exact hg2 j (by omega)
    refine mj_T.if0 rfl ⟨by omega, by omega⟩ (fun hc3 => ?_) (fun hc3 => ?_)
    · repeat refine mj_T.pl rfl rfl rfl rfl ?_
      simp only [jc, decide_eq_true_eq] at hc3
      refine mj_T.eq fin rfl rfl ?_ rfl
      rw [show (v.tdiv ((jB : Int) ^ i)).tmod 1000000000 = ((jlb v.natAbs i : Nat) : Int) by omega]
    · simp only [jc, decide_eq_false_iff_not] at hc3
      refine mj_T.pl rfl rfl rfl rfl ?_
      refine mj_T.ineg rfl ?_
      repeat refine mj_T.pl rfl rfl rfl rfl ?_
      refine mj_T.eq fin rfl rfl ?_ rfl
      rw [show -(v.tdiv ((jB : Int) ^ i)).tmod 1000000000 = ((jlb v.natAbs i : Nat) : Int) by omega]
theorem jw_setLong {D n : Nat} {v : Int} (hv : jR v) {s0 g0 : Int32} {g : Nat → Int32} (hn : n < 2147483648) :
    mj_Ok (D + 1) 86 [.ref 0, .long (jl v)] [.inr (8, [.ref 1, .int s0, .int g0]), .inl (0, n, fun j => .int (g j))]
      (fun r => ∃ g' : Nat → Int32, (∀ j, j < min n (jnl v.natAbs) → g' j = jn (jlb v.natAbs j)) ∧ (∀ j, min n (jnl v.natAbs) ≤ j → g' j = g j) ∧ r = (.inl none, [.inr (8, [.ref 1, .int (jn ((min n (jnl v.natAbs) : Nat) : Int)), .int (jn (jsg v))]), .inl (0, n, fun j => .int (g' j))])) := by
  refine mj_Ok.of (M := mj_m86) rfl rfl rfl ?_
  iterate 7 refine mj_T.pl rfl rfl rfl rfl ?_
  refine mj_T.eq (jw_setLong_loop hv (g0 := g0) (g := g) hn (fun gi i l6 hi hg1 hg2 => ?_) n 0 g none (by omega) (Nat.zero_le _) (fun j hj => by omega) (fun j _ => rfl)) rfl ?_ rfl rfl
  · have fin : ∀ z : Int, z = jsg v → mj_T D mj_m86 96 [some (.ref 0), some (.long (jl v)), none, some (.long (jl (v.tdiv ((jB : Int) ^ i)))), none, some (.int (jn i)), l6] [.int (jn z), .ref 0] [.inr (8, [.ref 1, .int (jn i), .int g0]), .inl (0, n, fun j => .int (gi j))]
      (fun r => ∃ g' : Nat → Int32, (∀ j, j < min n (jnl v.natAbs) → g' j = jn (jlb v.natAbs j)) ∧ (∀ j, min n (jnl v.natAbs) ≤ j → g' j = g j) ∧ r = (.inl none, [.inr (8, [.ref 1, .int (jn ((min n (jnl v.natAbs) : Nat) : Int)), .int (jn (jsg v))]), .inl (0, n, fun j => .int (g' j))])) := by
      intro z hz
      subst hz
      refine mj_T.pl rfl rfl rfl rfl ?_
      subst hi
      exact mj_T.ret rfl rfl rfl ⟨gi, hg1, hg2, rfl⟩
    repeat refine mj_T.pl rfl rfl rfl rfl ?_
    refine mj_T.lif (b := 0) rfl rfl hv ⟨by decide, by decide⟩ (fun hc => ?_) (fun hc => ?_)
    · simp only [jc, decide_eq_true_eq] at hc
      repeat refine mj_T.pl rfl rfl rfl rfl ?_
      refine mj_T.lif (b := 0) rfl rfl hv ⟨by decide, by decide⟩ (fun hc2 => ?_) (fun hc2 => ?_)
      · simp only [jc, decide_eq_true_eq] at hc2
        refine mj_T.pl rfl rfl rfl rfl ?_
        exact fin 0 (by unfold jsg; rw [if_neg (by omega), if_neg (by omega)])
      · simp only [jc, decide_eq_false_iff_not] at hc2
        iterate 2 refine mj_T.pl rfl rfl rfl rfl ?_
        exact fin 1 (by unfold jsg; rw [if_neg (by omega), if_pos (by omega)])
    · simp only [jc, decide_eq_false_iff_not] at hc
      iterate 2 refine mj_T.pl rfl rfl rfl rfl ?_
      exact fin (-1) (by unfold jsg; rw [if_pos (by omega)])
  · rw [Int.pow_zero, Int.tdiv_one]
    rfl
