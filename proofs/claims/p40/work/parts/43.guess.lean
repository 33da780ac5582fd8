/-! Divisor: guess. -/
def jgn (l v2 u2 : Nat) : Nat → Nat × Nat → Nat × Nat
  | 0, p => p
  | d + 1, p => jgn l v2 u2 d (jgs l v2 u2 p)
theorem jgn_stop {l v2 u2 : Nat} {p : Nat × Nat} (h : ¬ p.2 < jB) : ∀ d, jgn l v2 u2 d p = p
  | 0 => rfl
  | d + 1 => by
    simp only [jgn]
    rw [show jgs l v2 u2 p = p by unfold jgs; rw [if_neg (fun q => h q.1)]]
    exact jgn_stop h d
/-- the heap of a Divisor and a Wide -/
abbrev jHD (nd m : Nat) (n sv : Int) (fac : Int) (s : Int) (s2 : Int) (gv gy : Nat → Int32) : mj_H := [.inr (2, [.ref 1, .int (jn n), .int (jn sv), .long (jl fac)]), .inl (0, nd, fun j => .int (gv j)), .inr (8, [.ref 3, .int (jn s), .int (jn s2)]), .inl (0, m, fun j => .int (gy j))]
theorem jw_guess_loop {D l v2 u2 : Nat} {top x8 x10 : Int} {h : mj_H} (hl : l < 1000000000) (hv2 : v2 < 1000000000) (hu2 : u2 < 1000000000) {Q : mj_R → Prop} :
    ∀ (d i : Nat) (p : Nat × Nat), i + d = 2 → p.1 + i ≤ 2000000002 → p.2 ≤ (i + 1) * 1000000000 → Q (.inl (some (.long (jl (jgn l v2 u2 d p).1))), h) →
      mj_T D mj_m32 174 [some (.ref 0), some (.ref 2), some (.int (jn top)), some (.ref 3), some (.long (jl l)), none, some (.long (jl v2)), none, some (.long (jl x8)), none, some (.long (jl x10)), none, some (.long (jl u2)), none, some (.long (jl p.1)), none, some (.long (jl p.2)), none, some (.int (jn i))] [] h Q := by
  intro d
  induction d with
  | zero =>
    intro i p hid hp1 hp2 hQ
    iterate 2 refine mj_T.pl rfl rfl rfl rfl ?_
    refine mj_T.icmp (b := 2) rfl ⟨by omega, by omega⟩ ⟨by omega, by omega⟩ (fun hc177 => ?_) (fun hc177 => ?_)
    · iterate 1 refine mj_T.pl rfl rfl rfl rfl ?_
      exact mj_T.ret rfl rfl rfl hQ
    · simp only [jc, decide_eq_false_iff_not] at hc177; omega
  | succ d ih =>
    intro i p hid hp1 hp2 hQ
    iterate 2 refine mj_T.pl rfl rfl rfl rfl ?_
    refine mj_T.icmp (b := 2) rfl ⟨by omega, by omega⟩ ⟨by omega, by omega⟩ (fun hc177 => ?_) (fun hc177 => ?_)
    · simp only [jc, decide_eq_true_eq] at hc177; omega
    · iterate 2 refine mj_T.pl rfl rfl rfl rfl ?_
      refine mj_T.lif (b := 1000000000) rfl rfl ⟨by omega, by omega⟩ ⟨by omega, by omega⟩ (fun hc185 => ?_) (fun hc185 => ?_)
      · simp only [jc, decide_eq_true_eq] at hc185
        rw [jgn_stop (show ¬ p.2 < jB by rw [show jB = 1000000000 from rfl]; omega)] at hQ
        iterate 1 refine mj_T.pl rfl rfl rfl rfl ?_
        exact mj_T.ret rfl rfl rfl hQ
      · simp only [jc, decide_eq_false_iff_not] at hc185
        have eB : jB = 1000000000 := rfl
        have yes : (jB ≤ p.1 ∨ p.2 * jB + u2 < p.1 * v2) → 0 < p.1 → mj_T D mj_m32 216 [some (.ref 0), some (.ref 2), some (.int (jn top)), some (.ref 3), some (.long (jl l)), none, some (.long (jl v2)), none, some (.long (jl x8)), none, some (.long (jl x10)), none, some (.long (jl u2)), none, some (.long (jl p.1)), none, some (.long (jl p.2)), none, some (.int (jn i))] [] h Q := by
          intro hc h0
          have e : jgs l v2 u2 p = (p.1 - 1, p.2 + l) := by
            unfold jgs
            exact if_pos ⟨by rw [eB]; omega, hc⟩
          simp only [jgn, e] at hQ
          iterate 2 refine mj_T.pl rfl rfl rfl rfl ?_
          refine mj_T.lsub (b := 1) rfl ?_
          iterate 3 refine mj_T.pl rfl rfl rfl rfl ?_
          refine mj_T.ladd rfl ?_
          iterate 1 refine mj_T.pl rfl rfl rfl rfl ?_
          refine mj_T.iinc (a := i) rfl rfl ?_
          refine mj_T.pl rfl rfl rfl rfl ?_
          have t := ih (i + 1) (p.1 - 1, p.2 + l) (by omega) (by show p.1 - 1 + (i + 1) ≤ _; omega) (by show p.2 + l ≤ _; omega) hQ
          rw [show (p.1 : Int) - 1 = ((p.1 - 1 : Nat) : Int) by omega]
          exact t
        iterate 2 refine mj_T.pl rfl rfl rfl rfl ?_
        refine mj_T.lif (b := 1000000000) rfl rfl ⟨by omega, by omega⟩ ⟨by omega, by omega⟩ (fun hc194 => ?_) (fun hc194 => ?_)
        · simp only [jc, decide_eq_true_eq] at hc194
          exact yes (Or.inl (by rw [eB]; omega)) (by omega)
        · simp only [jc, decide_eq_false_iff_not] at hc194
          have g2 : p.1 + (i + 1) ≤ 2000000002 := by omega
          have g3 : p.2 ≤ (i + 1 + 1) * 1000000000 := Nat.le_trans hp2 (Nat.mul_le_mul_right _ (Nat.le_succ _))
          have hpb : p.1 * v2 ≤ 999999999 * 999999999 := Nat.mul_le_mul (by omega) (by omega)
          iterate 2 refine mj_T.pl rfl rfl rfl rfl ?_
          refine mj_T.lmul rfl ?_
          rw [← Int.natCast_mul]
          iterate 2 refine mj_T.pl rfl rfl rfl rfl ?_
          refine mj_T.lmul (b := 1000000000) rfl ?_
          iterate 1 refine mj_T.pl rfl rfl rfl rfl ?_
          refine mj_T.ladd rfl ?_
          refine mj_T.lif rfl rfl ⟨by omega, by omega⟩ ⟨by omega, by omega⟩ (fun hc212 => ?_) (fun hc212 => ?_)
          · simp only [jc, decide_eq_true_eq] at hc212
            have e : jgs l v2 u2 p = p := by
              unfold jgs
              refine if_neg (fun q => ?_)
              have q2 := q.2
              rw [eB] at q2
              omega
            have hQ2 : Q (.inl (some (.long (jl (jgn l v2 u2 d p).1))), h) := by
              have t := hQ
              unfold jgn at t
              rw [e] at t
              exact t
            clear hQ hpb hc212 eB e
            refine mj_T.iinc (a := i) rfl rfl ?_
            refine mj_T.pl rfl rfl rfl rfl ?_
            have g1 : i + 1 + d = 2 := by omega
            exact ih (i + 1) p g1 g2 g3 hQ2
          · simp only [jc, decide_eq_false_iff_not] at hc212
            refine yes (Or.inr (by rw [eB]; omega)) ?_
            rcases Nat.eq_zero_or_pos p.1 with h0 | h0
            · rw [h0, Nat.zero_mul] at hc212; omega
            · exact h0
theorem jw_guess {D nd m S V Y top : Nat} {sv fac s2 : Int} {gv gy : Nat → Int32} (hnd : nd ≤ 1000) (hm : m ≤ 1000) (hV : 0 < V) (hnorm : 1000000000 ≤ 2 * jlb V (jnl V - 1)) (hVn : jnl V ≤ nd) (htop : jnl V ≤ top) (hS : top ≤ S) (hSm : S ≤ m) (hY : jnl Y ≤ S) (hgv : ∀ j, j < jnl V → gv j = jn (jlb V j)) (hgy : ∀ j, j < S → gy j = jn (jlb Y j)) :
    mj_Ok (D + 1) 32 [.ref 0, .ref 2, .int (jn top)] (jHD nd m (jnl V) sv fac S s2 gv gy)
      (fun r => r = (.inl (some (.long (jl (jgn (jlb V (jnl V - 1)) (if 1 < jnl V then jlb V (jnl V - 2) else 0) (if 1 < jnl V then jlb Y (top - 2) else 0) 2 ((jlb Y top * 1000000000 + jlb Y (top - 1)) / jlb V (jnl V - 1), (jlb Y top * 1000000000 + jlb Y (top - 1)) % jlb V (jnl V - 1))).1))), jHD nd m (jnl V) sv fac S s2 gv gy)) := by
  have hn1 : 1 ≤ jnl V := Nat.pos_of_ne_zero (fun h => by have := jnl_eq0.mp h; omega)
  have hl0 : jlb V (jnl V - 1) ≠ 0 := jlb_top (by omega)
  have hl1 := jlb_lt V (jnl V - 1)
  have hy1 := jlb_lt Y top
  have hy2 := jlb_lt Y (top - 1)
  have hy3 := jlb_lt Y (top - 2)
  have hv3 := jlb_lt V (jnl V - 2)
  have hgl := hgv (jnl V - 1) (by omega)
  refine mj_Ok.of (M := mj_m32) rfl rfl rfl ?_
  iterate 5 refine mj_T.pl rfl rfl rfl rfl ?_
  refine mj_T.icmp (b := 1) rfl ⟨by omega, by omega⟩ ⟨by omega, by omega⟩ (fun hc7 => ?_) (fun hc7 => ?_)
  · simp only [jc, decide_eq_true_eq] at hc7; omega
  clear hc7
  iterate 2 refine mj_T.pl rfl rfl rfl rfl ?_
  refine mj_T.alen rfl rfl ?_
  refine mj_T.icmp rfl ⟨by omega, by omega⟩ ⟨by omega, by omega⟩ (fun hc13 => ?_) (fun hc13 => ?_)
  · simp only [jc, decide_eq_true_eq] at hc13; omega
  clear hc13
  iterate 3 refine mj_T.pl rfl rfl rfl rfl ?_
  refine mj_T.icmp (b := 1) rfl ⟨by omega, by omega⟩ ⟨by omega, by omega⟩ (fun hc21 => ?_) (fun hc21 => ?_)
  · simp only [jc, decide_eq_true_eq] at hc21; omega
  clear hc21
  iterate 4 refine mj_T.pl rfl rfl rfl rfl ?_
  refine mj_T.alen rfl rfl ?_
  refine mj_T.icmp rfl ⟨by omega, by omega⟩ ⟨by omega, by omega⟩ (fun hc33 => ?_) (fun hc33 => ?_)
  · simp only [jc, decide_eq_true_eq] at hc33; omega
  clear hc33
  iterate 5 refine mj_T.pl rfl rfl rfl rfl ?_
  refine mj_T.isub (b := 1) rfl ?_
  rw [show (jnl V : Int) - 1 = ((jnl V - 1 : Nat) : Int) by omega]
  refine mj_T.ialv rfl rfl ⟨by omega, by omega⟩ ⟨by omega, by omega⟩ hgl ?_
  refine mj_T.pl rfl rfl rfl rfl ?_
  refine mj_T.icmp (b := 1) rfl ⟨by omega, by omega⟩ ⟨by omega, by omega⟩ (fun hc48 => ?_) (fun hc48 => ?_)
  rotate_left
  · simp only [jc, decide_eq_false_iff_not] at hc48; omega
  clear hc48
  iterate 5 refine mj_T.pl rfl rfl rfl rfl ?_
  refine mj_T.isub (b := 1) rfl ?_
  rw [show (jnl V : Int) - 1 = ((jnl V - 1 : Nat) : Int) by omega]
  refine mj_T.ialv rfl rfl ⟨by omega, by omega⟩ ⟨by omega, by omega⟩ hgl ?_
  refine mj_T.i2l rfl ⟨by omega, by omega⟩ ?_
  generalize hl : jlb V (jnl V - 1) = l at *
  -- what follows, once the divisor's second limb is known
  have k91 : ∀ v2 : Nat, v2 = (if 1 < jnl V then jlb V (jnl V - 2) else 0) → mj_T D mj_m32 91 [some (.ref 0), some (.ref 2), some (.int (jn top)), some (.ref 3), some (.long (jl l)), none, none, none, none, none, none, none, none, none, none, none, none, none, none] [.long (jl v2)] (jHD nd m (jnl V) sv fac S s2 gv gy)
      (fun r => r = (.inl (some (.long (jl (jgn l (if 1 < jnl V then jlb V (jnl V - 2) else 0) (if 1 < jnl V then jlb Y (top - 2) else 0) 2 ((jlb Y top * 1000000000 + jlb Y (top - 1)) / l, (jlb Y top * 1000000000 + jlb Y (top - 1)) % l)).1))), jHD nd m (jnl V) sv fac S s2 gv gy)) := by
    intro v2 hv2
    rw [← hv2]
    have hv2b : v2 < 1000000000 := by rw [hv2]; split <;> omega
    clear hv2
    have k115 : ∀ x8 : Nat, x8 = jlb Y top → mj_T D mj_m32 115 [some (.ref 0), some (.ref 2), some (.int (jn top)), some (.ref 3), some (.long (jl l)), none, some (.long (jl v2)), none, none, none, none, none, none, none, none, none, none, none, none] [.long (jl x8)] (jHD nd m (jnl V) sv fac S s2 gv gy)
        (fun r => r = (.inl (some (.long (jl (jgn l v2 (if 1 < jnl V then jlb Y (top - 2) else 0) 2 ((jlb Y top * 1000000000 + jlb Y (top - 1)) / l, (jlb Y top * 1000000000 + jlb Y (top - 1)) % l)).1))), jHD nd m (jnl V) sv fac S s2 gv gy)) := by
      intro x8 hx8
      subst hx8
      iterate 3 refine mj_T.pl rfl rfl rfl rfl ?_
      refine mj_T.lmul (b := 1000000000) rfl ?_
      iterate 3 refine mj_T.pl rfl rfl rfl rfl ?_
      refine mj_T.isub (b := 1) rfl ?_
      rw [show (top : Int) - 1 = ((top - 1 : Nat) : Int) by omega]
      refine mj_T.ialv rfl rfl ⟨by omega, by omega⟩ ⟨by omega, by omega⟩ (hgy (top - 1) (by omega)) ?_
      refine mj_T.i2l rfl ⟨by omega, by omega⟩ ?_
      refine mj_T.ladd rfl ?_
      rw [show ((jlb Y top : Nat) : Int) * 1000000000 + ((jlb Y (top - 1) : Nat) : Int) = ((jlb Y top * 1000000000 + jlb Y (top - 1) : Nat) : Int) by omega]
      generalize hT : jlb Y top * 1000000000 + jlb Y (top - 1) = T
      have hTb : T ≤ 1000000000000000000 := by omega
      have k155 : ∀ u2 : Nat, u2 = (if 1 < jnl V then jlb Y (top - 2) else 0) → mj_T D mj_m32 155 [some (.ref 0), some (.ref 2), some (.int (jn top)), some (.ref 3), some (.long (jl l)), none, some (.long (jl v2)), none, some (.long (jl (jlb Y top))), none, some (.long (jl T)), none, none, none, none, none, none, none, none] [.long (jl u2)] (jHD nd m (jnl V) sv fac S s2 gv gy)
          (fun r => r = (.inl (some (.long (jl (jgn l v2 (if 1 < jnl V then jlb Y (top - 2) else 0) 2 (T / l, T % l)).1))), jHD nd m (jnl V) sv fac S s2 gv gy)) := by
        intro u2 hu2
        rw [← hu2]
        have hu2b : u2 < 1000000000 := by rw [hu2]; split <;> omega
        clear hu2
        have hm1 := Nat.mod_lt T (show 0 < l by omega)
        iterate 3 refine mj_T.pl rfl rfl rfl rfl ?_
        refine mj_T.ldiv rfl ⟨by omega, by omega⟩ ⟨by omega, by omega⟩ (by omega) ?_
        iterate 3 refine mj_T.pl rfl rfl rfl rfl ?_
        refine mj_T.lrem rfl ⟨by omega, by omega⟩ ⟨by omega, by omega⟩ (by omega) ?_
        iterate 3 refine mj_T.pl rfl rfl rfl rfl ?_
        refine jw_guess_loop (l := l) (v2 := v2) (u2 := u2) (x8 := (jlb Y top : Nat)) (x10 := T) hl1 hv2b hu2b 2 0 (T / l, T % l) rfl ?_ (by show T % l ≤ _; omega) rfl
        have hd : T / l ≤ 2000000000 := Nat.div_le_of_le_mul (by omega)
        show T / l + 0 ≤ _
        omega
      iterate 4 refine mj_T.pl rfl rfl rfl rfl ?_
      refine mj_T.icmp (b := 1) rfl ⟨by omega, by omega⟩ ⟨by omega, by omega⟩ (fun hc137 => ?_) (fun hc137 => ?_)
      · simp only [jc, decide_eq_true_eq] at hc137
        refine mj_T.pl rfl rfl rfl rfl ?_
        exact k155 0 (by rw [if_neg (by omega)])
      · simp only [jc, decide_eq_false_iff_not] at hc137
        iterate 2 refine mj_T.pl rfl rfl rfl rfl ?_
        refine mj_T.icmp (b := 1) rfl ⟨by omega, by omega⟩ ⟨by omega, by omega⟩ (fun hc142 => ?_) (fun hc142 => ?_)
        · simp only [jc, decide_eq_true_eq] at hc142; omega
        · iterate 3 refine mj_T.pl rfl rfl rfl rfl ?_
          refine mj_T.isub (b := 2) rfl ?_
          rw [show (top : Int) - 2 = ((top - 2 : Nat) : Int) by omega]
          refine mj_T.ialv rfl rfl ⟨by omega, by omega⟩ ⟨by omega, by omega⟩ (hgy (top - 2) (by omega)) ?_
          refine mj_T.i2l rfl ⟨by omega, by omega⟩ ?_
          refine mj_T.pl rfl rfl rfl rfl ?_
          exact k155 _ (by rw [if_pos (by omega)])
    iterate 4 refine mj_T.pl rfl rfl rfl rfl ?_
    refine mj_T.icmp rfl ⟨by omega, by omega⟩ ⟨by omega, by omega⟩ (fun hc98 => ?_) (fun hc98 => ?_)
    · simp only [jc, decide_eq_true_eq] at hc98
      refine mj_T.pl rfl rfl rfl rfl ?_
      exact k115 0 (by rw [jlb_high (show jnl Y ≤ top by omega)])
    · simp only [jc, decide_eq_false_iff_not] at hc98
      iterate 2 refine mj_T.pl rfl rfl rfl rfl ?_
      refine mj_T.alen rfl rfl ?_
      refine mj_T.icmp rfl ⟨by omega, by omega⟩ ⟨by omega, by omega⟩ (fun hc104 => ?_) (fun hc104 => ?_)
      · simp only [jc, decide_eq_true_eq] at hc104; omega
      · iterate 2 refine mj_T.pl rfl rfl rfl rfl ?_
        refine mj_T.ialv rfl rfl ⟨by omega, by omega⟩ ⟨by omega, by omega⟩ (hgy top (by omega)) ?_
        refine mj_T.i2l rfl ⟨by omega, by omega⟩ ?_
        refine mj_T.pl rfl rfl rfl rfl ?_
        exact k115 _ rfl
  iterate 4 refine mj_T.pl rfl rfl rfl rfl ?_
  refine mj_T.icmp (b := 1) rfl ⟨by omega, by omega⟩ ⟨by omega, by omega⟩ (fun hc71 => ?_) (fun hc71 => ?_)
  · simp only [jc, decide_eq_true_eq] at hc71
    refine mj_T.pl rfl rfl rfl rfl ?_
    exact k91 0 (by rw [if_neg (by omega)])
  · simp only [jc, decide_eq_false_iff_not] at hc71
    iterate 5 refine mj_T.pl rfl rfl rfl rfl ?_
    refine mj_T.isub (b := 2) rfl ?_
    rw [show (jnl V : Int) - 2 = ((jnl V - 2 : Nat) : Int) by omega]
    refine mj_T.ialv rfl rfl ⟨by omega, by omega⟩ ⟨by omega, by omega⟩ (hgv (jnl V - 2) (by omega)) ?_
    refine mj_T.i2l rfl ⟨by omega, by omega⟩ ?_
    refine mj_T.pl rfl rfl rfl rfl ?_
    exact k91 _ (by rw [if_pos (by omega)])
