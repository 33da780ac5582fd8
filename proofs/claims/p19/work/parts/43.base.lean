/-! Divisor: guess. -/
def jgn (l v2 u2 : Nat) : Nat → Nat × Nat → Nat × Nat
  | 0, p => p
  | d + 1, p => jgn l v2 u2 d (jgs l v2 u2 p)
theorem jgn_stop {l v2 u2 : Nat} {p : Nat × Nat} (h : ¬ p.2 < jB) : ∀ d, jgn l v2 u2 d p = p
  | 0 => rfl
  | d + 1 => by
    simp only [jgn]
    rw [show jgs l v2 u2 p = p by unfold jgs; rw [if_neg (fun q => h q.1)]]
    exact jgn_stop h d
/-- the heap of a Divisor and a Wide -/
abbrev jHD (nd m : Nat) (n sv : Int) (fac : Int) (s : Int) (s2 : Int) (gv gy : Nat → Int32) : mj_H := [.inr (2, [.ref 1, .int (jn n), .int (jn sv), .long (jl fac)]), .inl (0, nd, fun j => .int (gv j)), .inr (8, [.ref 3, .int (jn s), .int (jn s2)]), .inl (0, m, fun j => .int (gy j))]
theorem jw_guess_loop {D l v2 u2 : Nat} {top x8 x10 : Int} {h : mj_H} (hl : l < 1000000000) (hv2 : v2 < 1000000000) (hu2 : u2 < 1000000000) {Q : mj_R → Prop} :
    ∀ (d i : Nat) (p : Nat × Nat), i + d = 2 → p.1 + i ≤ 2000000002 → p.2 ≤ (i + 1) * 1000000000 → Q (.inl (some (.long (jl (jgn l v2 u2 d p).1))), h) →
      mj_T D mj_m32 174 [some (.ref 0), some (.ref 2), some (.int (jn top)), some (.ref 3), some (.long (jl l)), none, some (.long (jl v2)), none, some (.long (jl x8)), none, some (.long (jl x10)), none, some (.long (jl u2)), none, some (.long (jl p.1)), none, some (.long (jl p.2)), none, some (.int (jn i))] [] h Q := by
  intro d
  induction d with
  | zero =>
    intro i p hid hp1 hp2 hQ
    iterate 2 refine mj_T.pl rfl rfl rfl rfl ?_
    refine mj_T.icmp (b := 2) rfl ⟨by omega, by omega⟩ ⟨by omega, by omega⟩ (fun hc177 => ?_) (fun hc177 => ?_)
    · iterate 1 refine mj_T.pl rfl rfl rfl rfl ?_
      exact mj_T.ret rfl rfl rfl hQ
    · simp only [jc, decide_eq_false_iff_not] at hc177; omega
  | succ d ih =>
    intro i p hid hp1 hp2 hQ
    iterate 2 refine mj_T.pl rfl rfl rfl rfl ?_
    refine mj_T.icmp (b := 2) rfl ⟨by omega, by omega⟩ ⟨by omega, by omega⟩ (fun hc177 => ?_) (fun hc177 => ?_)
    · simp only [jc, decide_eq_true_eq] at hc177; omega
    · iterate 2 refine mj_T.pl rfl rfl rfl rfl ?_
      refine mj_T.lif (b := 1000000000) rfl rfl ⟨by omega, by omega⟩ ⟨by omega, by omega⟩ (fun hc185 => ?_) (fun hc185 => ?_)
      · simp only [jc, decide_eq_true_eq] at hc185
        rw [jgn_stop (show ¬ p.2 < jB by rw [show jB = 1000000000 from rfl]; omega)] at hQ
        iterate 1 refine mj_T.pl rfl rfl rfl rfl ?_
        exact mj_T.ret rfl rfl rfl hQ
      · simp only [jc, decide_eq_false_iff_not] at hc185
        have eB : jB = 1000000000 := rfl
        have yes : (jB ≤ p.1 ∨ p.2 * jB + u2 < p.1 * v2) → 0 < p.1 → mj_T D mj_m32 216 [some (.ref 0), some (.ref 2), some (.int (jn top)), some (.ref 3), some (.long (jl l)), none, some (.long (jl v2)), none, some (.long (jl x8)), none, some (.long (jl x10)), none, some (.long (jl u2)), none, some (.long (jl p.1)), none, some (.long (jl p.2)), none, some (.int (jn i))] [] h Q := by
          intro hc h0
          have e : jgs l v2 u2 p = (p.1 - 1, p.2 + l) := by
            unfold jgs
            exact if_pos ⟨by rw [eB]; omega, hc⟩
          simp only [jgn, e] at hQ
          iterate 2 refine mj_T.pl rfl rfl rfl rfl ?_
          refine mj_T.lsub (b := 1) rfl ?_
          iterate 3 refine mj_T.pl rfl rfl rfl rfl ?_
          refine mj_T.ladd rfl ?_
          iterate 1 refine mj_T.pl rfl rfl rfl rfl ?_
          refine mj_T.iinc (a := i) rfl rfl ?_
          refine mj_T.pl rfl rfl rfl rfl ?_
          have t := ih (i + 1) (p.1 - 1, p.2 + l) (by omega) (by show p.1 - 1 + (i + 1) ≤ _; omega) (by show p.2 + l ≤ _; omega) hQ
          rw [show (p.1 : Int) - 1 = ((p.1 - 1 : Nat) : Int) by omega]
          exact t
        iterate 2 refine mj_T.pl rfl rfl rfl rfl ?_
        refine mj_T.lif (b := 1000000000) rfl rfl ⟨by omega, by omega⟩ ⟨by omega, by omega⟩ (fun hc194 => ?_) (fun hc194 => ?_)
        · simp only [jc, decide_eq_true_eq] at hc194
          exact yes (Or.inl (by rw [eB]; omega)) (by omega)
        · simp only [jc, decide_eq_false_iff_not] at hc194
          have g2 : p.1 + (i + 1) ≤ 2000000002 := by omega
          have g3 : p.2 ≤ (i + 1 + 1) * 1000000000 := Nat.le_trans hp2 (Nat.mul_le_mul_right _ (Nat.le_succ _))
          have hpb : p.1 * v2 ≤ 999999999 * 999999999 := Nat.mul_le_mul (by omega) (by omega)
          iterate 2 refine mj_T.pl rfl rfl rfl rfl ?_
          refine mj_T.lmul rfl ?_
          rw [← Int.natCast_mul]
          iterate 2 refine mj_T.pl rfl rfl rfl rfl ?_
          refine mj_T.lmul (b := 1000000000) rfl ?_
          iterate 1 refine mj_T.pl rfl rfl rfl rfl ?_
          refine mj_T.ladd rfl ?_
          refine mj_T.lif rfl rfl ⟨by omega, by omega⟩ ⟨by omega, by omega⟩ (fun hc212 => ?_) (fun hc212 => ?_)
          · simp only [jc, decide_eq_true_eq] at hc212
            have e : jgs l v2 u2 p = p := by
              unfold jgs
              refine if_neg (fun q => ?_)
              have q2 := q.2
              rw [eB] at q2
              omega
            have hQ2 : Q (.inl (some (.long (jl (jgn l v2 u2 d p).1))), h) := by
              have t := hQ
              unfold jgn at t
              rw [e] at t
              exact t
            clear hQ hpb hc212 eB e
            refine mj_T.iinc (a := i) rfl rfl ?_
            refine mj_T.pl rfl rfl rfl rfl ?_
            have g1 : i + 1 + d = 2 := by omega
            exact ih (i + 1) p g1 g2 g3 hQ2
          · simp only [jc, decide_eq_false_iff_not] at hc212
            refine yes (Or.inr (by rw [eB]; omega)) ?_
            rcases Nat.eq_zero_or_pos p.1 with h0 | h0
            · rw [h0, Nat.zero_mul] at hc212; omega
            · exact h0
theorem jw_guess {D nd m S V Y top : Nat} {sv fac s2 : Int} {gv gy : Nat → Int32} (hnd : nd ≤ 1000) (hm : m ≤ 1000) (hV : 0 < V) (hnorm : 1000000000 ≤ 2 * jlb V (jnl V - 1)) (hVn : jnl V ≤ nd) (htop : jnl V ≤ top) (hS : top ≤ S) (hSm : S ≤ m) (hY : jnl Y ≤ S) (hgv : ∀ j, j < jnl V → gv j = jn (jlb V j)) (hgy : ∀ j, j < S → gy j = jn (jlb Y j)) :
    mj_Ok (D + 1) 32 [.ref 0, .ref 2, .int (jn top)] (jHD nd m (jnl V) sv fac S s2 gv gy)
      (fun r => r = (.inl (some (.long (jl (jgn (jlb V (jnl V - 1)) (if 1 < jnl V then jlb V (jnl V - 2) else 0) (if 1 < jnl V then jlb Y (top - 2) else 0) 2 ((jlb Y top * 1000000000 + jlb Y (top - 1)) / jlb V (jnl V - 1), (jlb Y top * 1000000000 + jlb Y (top - 1)) % jlb V (jnl V - 1))).1))), jHD nd m (jnl V) sv fac S s2 gv gy)) := by
  have hn1 : 1 ≤ jnl V := Nat.pos_of_ne_zero (fun h => by have := jnl_eq0.mp h; omega)
  have hl0 : jlb V (jnl V - 1) ≠ 0 := jlb_top (by omega)
  have hl1 := jlb_lt V (jnl V - 1)
  have hy1 := jlb_lt Y top
  have hy2 := jlb_lt Y (top - 1)
  have hy3 := jlb_lt Y (top - 2)
  have hv3 := jlb_lt V (jnl V - 2)
  have hgl := hgv (jnl V - 1) (by omega)
  refine mj_Ok.of (M := mj_m32) rfl rfl rfl ?_
  iterate 5 refine mj_T.pl rfl rfl rfl rfl ?_
  refine mj_T.icmp (b := 1) rfl ⟨by omega, by omega⟩ ⟨by omega, by omega⟩ (fun hc7 => ?_) (fun hc7 => ?_)
  · simp only [jc, decide_eq_true_eq] at hc7; omega
  clear hc7
  iterate 2 refine mj_T.pl rfl rfl rfl rfl ?_
  refine mj_T.alen rfl rfl ?_
  refine mj_T.icmp rfl ⟨by omega, by omega⟩ ⟨by omega, by omega⟩ (fun hc13 => ?_) (fun hc13 => ?_)
  · simp only [jc, decide_eq_true_eq] at hc13; omega
  clear hc13
  iterate 3 refine mj_T.pl rfl rfl rfl rfl ?_
  refine mj_T.icmp (b := 1) rfl ⟨by omega, by omega⟩ ⟨by omega, by omega⟩ (fun hc21 => ?_) (fun hc21 => ?_)
  · simp only [jc, decide_eq_true_eq] at hc21; omega
  clear hc21
  iterate 4 refine mj_T.pl rfl rfl rfl rfl ?_
  refine mj_T.alen rfl rfl ?_
  refine mj_T.icmp rfl ⟨by omega, by omega⟩ ⟨by omega, by omega⟩ (fun hc33 => ?_) (fun hc33 => ?_)
  · simp only [jc, decide_eq_true_eq] at hc33; omega
  clear hc33
  iterate 5 refine mj_T.pl rfl rfl rfl rfl ?_
  refine mj_T.isub (b := 1) rfl ?_
  rw [show (jnl V : Int) - 1 = ((jnl V - 1 : Nat) : Int) by omega]
  refine mj_T.ialv rfl rfl ⟨by omega, by omega⟩ ⟨by omega, by omega⟩ hgl ?_
  refine mj_T.pl rfl rfl rfl rfl ?_
  refine mj_T.icmp (b := 1) rfl ⟨by omega, by omega⟩ ⟨by omega, by omega⟩ (fun hc48 => ?_) (fun hc48 => ?_)
  rotate_left
  · simp only [jc, decide_eq_false_iff_not] at hc48; omega
  clear hc48
  iterate 5 refine mj_T.pl rfl rfl rfl rfl ?_
  refine mj_T.isub (b := 1) rfl ?_
  rw [show (jnl V : Int) - 1 = ((jnl V - 1 : Nat) : Int) by omega]
  refine mj_T.ialv rfl rfl ⟨by omega, by omega⟩ ⟨by omega, by omega⟩ hgl ?_
  refine mj_T.i2l rfl ⟨by omega, by omega⟩ ?_
  generalize hl : jlb V (jnl V - 1) = l at *
  -- what follows, once the divisor's second limb is known
  have k91 : ∀ v2 : Nat, v2 = (if 1 < jnl V then jlb V (jnl V - 2) else 0) → mj_T D mj_m32 91 [some (.ref 0), some (.ref 2), some (.int (jn top)), some (.ref 3), some (.long (jl l)), none, none, none, none, none, none, none, none, none, none, none, none, none, none] [.long (jl v2)] (jHD nd m (jnl V) sv fac S s2 gv gy)
      (fun r => r = (.inl (some (.long (jl (jgn l (if 1 < jnl V then jlb V (jnl V - 2) else 0) (if 1 < jnl V then jlb Y (top - 2) else 0) 2 ((jlb Y top * 1000000000 + jlb Y (top - 1)) / l, (jlb Y top * 1000000000 + jlb Y (top - 1)) % l)).1))), jHD nd m (jnl V) sv fac S s2 gv gy)) := by
    intro v2 hv2
    rw [← hv2]
    have hv2b : v2 < 1000000000 := by rw [hv2]; split <;> omega
    clear hv2
    have k115 : ∀ x8 : Nat, x8 = jlb Y top → mj_T D mj_m32 115 [some (.ref 0), some (.ref 2), some (.int (jn top)), some (.ref 3), some (.long (jl l)), none, some (.long (jl v2)), none, none, none, none, none, none, none, none, none, none, none, none] [.long (jl x8)] (jHD nd m (jnl V) sv fac S s2 gv gy)
        (fun r => r = (.inl (some (.long (jl (jgn l v2 (if 1 < jnl V then jlb Y (top - 2) else 0) 2 ((jlb Y top * 1000000000 + jlb Y (top - 1)) / l, (jlb Y top * 1000000000 + jlb Y (top - 1)) % l)).1))), jHD nd m (jnl V) sv fac S s2 gv gy)) := by
      intro x8 hx8
      subst hx8
      iterate 3 refine mj_T.pl rfl rfl rfl rfl ?_
      refine mj_T.lmul (b := 1000000000) rfl ?_
      iterate 3 refine mj_T.pl rfl rfl rfl rfl ?_
      refine mj_T.isub (b := 1) rfl ?_
      rw [show (top : Int) - 1 = ((top - 1 : Nat) : Int) by omega]
      refine mj_T.ialv rfl rfl ⟨by omega, by omega⟩ ⟨by omega, by omega⟩ (hgy (top - 1) (by omega)) ?_
      refine mj_T.i2l rfl ⟨by omega, by omega⟩ ?_
      refine mj_T.ladd rfl ?_
      rw [show ((jlb Y top : Nat) : Int) * 1000000000 + ((jlb Y (top - 1) : Nat) : Int) = ((jlb Y top * 1000000000 + jlb Y (top - 1) : Nat) : Int) by omega]
      generalize hT : jlb Y top * 1000000000 + jlb Y (top - 1) = T
      have hTb : T ≤ 1000000000000000000 := by omega
      have k155 : ∀ u2 : Nat, u2 = (if 1 < jnl V then jlb Y (top - 2) else 0) → mj_T D mj_m32 155 [some (.ref 0), some (.ref 2), some (.int (jn top)), some (.ref 3), some (.long (jl l)), none, some (.long (jl v2)), none, some (.long (jl (jlb Y top))), none, some (.long (jl T)), none, none, none, none, none, none, none, none] [.long (jl u2)] (jHD nd m (jnl V) sv fac S s2 gv gy)
          (fun r => r = (.inl (some (.long (jl (jgn l v2 (if 1 < jnl V then jlb Y (top - 2) else 0) 2 (T / l, T % l)).1))), jHD nd m (jnl V) sv fac S s2 gv gy)) := by
        intro u2 hu2
        rw [← hu2]
        have hu2b : u2 < 1000000000 := by rw [hu2]; split <;> omega
        clear hu2
        have hm1 := Nat.mod_lt T (show 0 < l by omega)
        iterate 3 refine mj_T.pl rfl rfl rfl rfl ?_
        refine mj_T.ldiv rfl ⟨by omega, by omega⟩ ⟨by omega, by omega⟩ (by omega) ?_
        iterate 3 refine mj_T.pl rfl rfl rfl rfl ?_
        refine mj_T.lrem rfl ⟨by omega, by omega⟩ ⟨by omega, by omega⟩ (by omega) ?_
        iterate 3 refine mj_T.pl rfl rfl rfl rfl ?_
        refine jw_guess_loop (l := l) (v2 := v2) (u2 := u2) (x8 := (jlb Y top : Nat)) (x10 := T) hl1 hv2b hu2b 2 0 (T / l, T % l) rfl ?_ (by show T % l ≤ _; omega) rfl
        have hd : T / l ≤ 2000000000 := Nat.div_le_of_le_mul (by omega)
        show T / l + 0 ≤ _
        omega
      iterate 4 refine mj_T.pl rfl rfl rfl rfl ?_
      refine mj_T.icmp (b := 1) rfl ⟨by omega, by omega⟩ ⟨by omega, by omega⟩ (fun hc137 => ?_) (fun hc137 => ?_)
      · simp only [jc, decide_eq_true_eq] at hc137
        refine mj_T.pl rfl rfl rfl rfl ?_
        exact k155 0 (by rw [if_neg (by omega)])
      · simp only [jc, decide_eq_false_iff_not] at hc137
        iterate 2 refine mj_T.pl rfl rfl rfl rfl ?_
        refine mj_T.icmp (b := 1) rfl ⟨by omega, by omega⟩ ⟨by omega, by omega⟩ (fun hc142 => ?_) (fun hc142 => ?_)
        · simp only [jc, decide_eq_true_eq] at hc142; omega
        · iterate 3 refine mj_T.pl rfl rfl rfl rfl ?_
          refine mj_T.isub (b := 2) rfl ?_
          rw [show (top : Int) - 2 = ((top - 2 : Nat) : Int) by omega]
          refine mj_T.ialv rfl rfl ⟨by omega, by omega⟩ ⟨by omega, by omega⟩ (hgy (top - 2) (by omega)) ?_
          refine mj_T.i2l rfl ⟨by omega, by omega⟩ ?_
          refine mj_T.pl rfl rfl rfl rfl ?_
          exact k155 _ (by rw [if_pos (by omega)])
    iterate 4 refine mj_T.pl rfl rfl rfl rfl ?_
    refine mj_T.icmp rfl ⟨by omega, by omega⟩ ⟨by omega, by omega⟩ (fun hc98 => ?_) (fun hc98 => ?_)
    · simp only [jc, decide_eq_true_eq] at hc98
      refine mj_T.pl rfl rfl rfl rfl ?_
      exact k115 0 (by rw [jlb_high (show jnl Y ≤ top by omega)])
    · simp only [jc, decide_eq_false_iff_not] at hc98
      iterate 2 refine mj_T.pl rfl rfl rfl rfl ?_
      refine mj_T.alen rfl rfl ?_
      refine mj_T.icmp rfl ⟨by omega, by omega⟩ ⟨by omega, by omega⟩ (fun hc104 => ?_) (fun hc104 => ?_)
      · simp only [jc, decide_eq_true_eq] at hc104; omega
      · iterate 2 refine mj_T.pl rfl rfl rfl rfl ?_
        refine mj_T.ialv rfl rfl ⟨by omega, by omega⟩ ⟨by omega, by omega⟩ (hgy top (by omega)) ?_
        refine mj_T.i2l rfl ⟨by omega, by omega⟩ ?_
        refine mj_T.pl rfl rfl rfl rfl ?_
        exact k115 _ rfl
  iterate 4 refine mj_T.pl rfl rfl rfl rfl ?_
  refine mj_T.icmp (b := 1) rfl ⟨by omega, by omega⟩ ⟨by omega, by omega⟩ (fun hc71 => ?_) (fun hc71 => ?_)
  · simp only [jc, decide_eq_true_eq] at hc71
    refine mj_T.pl rfl rfl rfl rfl ?_
    exact k91 0 (by rw [if_neg (by omega)])
  · simp only [jc, decide_eq_false_iff_not] at hc71
    iterate 5 refine mj_T.pl rfl rfl rfl rfl ?_
    refine mj_T.isub (b := 2) rfl ?_
    rw [show (jnl V : Int) - 2 = ((jnl V - 2 : Nat) : Int) by omega]
    refine mj_T.ialv rfl rfl ⟨by omega, by omega⟩ ⟨by omega, by omega⟩ (hgv (jnl V - 2) (by omega)) ?_
    refine mj_T.i2l rfl ⟨by omega, by omega⟩ ?_
    refine mj_T.pl rfl rfl rfl rfl ?_
    exact k91 _ (by rw [if_pos (by omega)])
/-! Divisor: takeAway. -/
/-- below limb i: so many times V is taken from U, the borrow is c, R stays -/
def jta (U V x i c R : Nat) : Prop := U % jB ^ i + c * jB ^ i = x * (V % jB ^ i) + R ∧ R < jB ^ i
theorem jta_zero (U V x : Nat) : jta U V x 0 0 0 := by simp [jta, Nat.mod_one]
theorem jta_le {U V x i c R : Nat} (h : jta U V x i c R) : c ≤ x := by
  have h1 := jB_pow i
  have h2 : x * (V % jB ^ i) ≤ x * jB ^ i := Nat.mul_le_mul_left x (Nat.le_of_lt (Nat.mod_lt _ h1))
  have h3 : c * jB ^ i < (x + 1) * jB ^ i := by
    rw [Nat.succ_mul]
    exact Nat.lt_of_le_of_lt (Nat.le_trans (Nat.le_add_left _ _) (Nat.le_of_eq h.1)) (Nat.add_lt_add_of_le_of_lt h2 h.2)
  have := Nat.lt_of_mul_lt_mul_right h3
  omega
theorem jta_next {U V x i c R c' r : Nat} (h : jta U V x i c R) (hr : r < jB) (e : jlb U i + c' * jB = x * jlb V i + c + r) : jta U V x (i + 1) c' (r * jB ^ i + R) := by
  obtain ⟨h1, h2⟩ := h
  constructor
  · rw [jmod, jmod, Nat.mul_add, Nat.pow_succ]
    have e2 : (jlb U i + c' * jB) * jB ^ i = (x * jlb V i + c + r) * jB ^ i := by rw [e]
    rw [Nat.add_mul, Nat.add_mul, Nat.add_mul] at e2
    rw [show c' * (jB ^ i * jB) = c' * jB * jB ^ i by rw [Nat.mul_comm (jB ^ i), Nat.mul_assoc], show x * (jlb V i * jB ^ i) = x * jlb V i * jB ^ i by rw [Nat.mul_assoc]]
    omega
  · rw [Nat.pow_succ, Nat.mul_comm (jB ^ i)]
    refine Nat.lt_of_lt_of_le (Nat.add_lt_add_left h2 _) ?_
    rw [← Nat.succ_mul]
    exact Nat.mul_le_mul_right _ hr
theorem jw_take_loop {D nd m S U V x place : Nat} {sv fac s2 : Int} {gv gy : Nat → Int32} (hnd : nd ≤ 1000) (hm : m ≤ 1000) (hVn : jnl V ≤ nd) (htop : place + jnl V ≤ S) (hSm : S ≤ m) (hx : x ≤ 1000000000) (hgv : ∀ j, j < jnl V → gv j = jn (jlb V j)) (hgy : ∀ j, j < jnl V → gy (place + j) = jn (jlb U j)) {Q : mj_R → Prop}
    (hend : ∀ (c R : Nat) (gi : Nat → Int32) (l10 l12 : Option Value), jta U V x (jnl V) c R → (∀ j, j < place → gi j = gy j) → (∀ j, j < jnl V → gi (place + j) = jn (jlb R j)) → (∀ j, place + jnl V ≤ j → gi j = gy j) →
      mj_T D mj_m33 123 [some (.ref 0), some (.ref 2), some (.int (jn place)), some (.long (jl x)), none, some (.ref 3), some (.int (jn (place + jnl V : Nat))), some (.long (jl c)), none, some (.int (jn (place + jnl V : Nat))), l10, none, l12, none] [] (jHD nd m (jnl V) sv fac S s2 gv gi) Q) :
    ∀ (d i c R : Nat) (gi : Nat → Int32) (l10 l12 : Option Value), i + d = jnl V → jta U V x i c R → (∀ j, j < place → gi j = gy j) → (∀ j, j < i → gi (place + j) = jn (jlb R j)) → (∀ j, place + i ≤ j → gi j = gy j) →
      mj_T D mj_m33 24 [some (.ref 0), some (.ref 2), some (.int (jn place)), some (.long (jl x)), none, some (.ref 3), some (.int (jn (place + jnl V : Nat))), some (.long (jl c)), none, some (.int (jn (place + i : Nat))), l10, none, l12, none] [] (jHD nd m (jnl V) sv fac S s2 gv gi) Q := by
  intro d
  induction d with
  | zero =>
    intro i c R gi l10 l12 hid hta hg1 hg2 hg3
    have ei : i = jnl V := by omega
    subst ei
    iterate 2 refine mj_T.pl rfl rfl rfl rfl ?_
    refine mj_T.icmp rfl ⟨by omega, by omega⟩ ⟨by omega, by omega⟩ (fun hc28 => ?_) (fun hc28 => ?_)
    · exact hend c R gi l10 l12 hta hg1 hg2 hg3
    · simp only [jc, decide_eq_false_iff_not] at hc28; omega
  | succ d ih =>
    intro i c R gi l10 l12 hid hta hg1 hg2 hg3
    have hcx := jta_le hta
    have hu1 := jlb_lt U i
    have hv1 := jlb_lt V i
    have hpb : x * jlb V i ≤ 1000000000 * 999999999 := Nat.mul_le_mul hx (by omega)
    iterate 2 refine mj_T.pl rfl rfl rfl rfl ?_
    refine mj_T.icmp rfl ⟨by omega, by omega⟩ ⟨by omega, by omega⟩ (fun hc28 => ?_) (fun hc28 => ?_)
    · simp only [jc, decide_eq_true_eq] at hc28; omega
    clear hc28
    iterate 2 refine mj_T.pl rfl rfl rfl rfl ?_
    refine mj_T.alen rfl rfl ?_
    refine mj_T.icmp rfl ⟨by omega, by omega⟩ ⟨by omega, by omega⟩ (fun hc36 => ?_) (fun hc36 => ?_)
    · simp only [jc, decide_eq_true_eq] at hc36; omega
    clear hc36
    iterate 5 refine mj_T.pl rfl rfl rfl rfl ?_
    refine mj_T.isub rfl ?_
    rw [show ((place + i : Nat) : Int) - (place : Int) = (i : Int) by omega]
    refine mj_T.ialv rfl rfl ⟨by omega, by omega⟩ ⟨by omega, by omega⟩ (hgv i (by omega)) ?_
    refine mj_T.i2l rfl ⟨by omega, by omega⟩ ?_
    refine mj_T.lmul rfl ?_
    refine mj_T.pl rfl rfl rfl rfl ?_
    refine mj_T.ladd rfl ?_
    rw [show (x : Int) * ((jlb V i : Nat) : Int) + (c : Int) = ((x * jlb V i + c : Nat) : Int) by rw [Int.natCast_add, Int.natCast_mul]]
    generalize hpp : x * jlb V i = p at *
    generalize htk : p + c = tk at *
    iterate 3 refine mj_T.pl rfl rfl rfl rfl ?_
    refine mj_T.ialv rfl rfl ⟨by omega, by omega⟩ ⟨by omega, by omega⟩ ((hg3 (place + i) (Nat.le_refl _)).trans (hgy i (by omega))) ?_
    refine mj_T.i2l rfl ⟨by omega, by omega⟩ ?_
    iterate 2 refine mj_T.pl rfl rfl rfl rfl ?_
    refine mj_T.lrem (b := 1000000000) rfl ⟨by omega, by omega⟩ ⟨by omega, by omega⟩ (by omega) ?_
    rw [show (tk : Int).tmod 1000000000 = ((tk % 1000000000 : Nat) : Int) from rfl]
    refine mj_T.lsub rfl ?_
    iterate 3 refine mj_T.pl rfl rfl rfl rfl ?_
    refine mj_T.ldiv (b := 1000000000) rfl ⟨by omega, by omega⟩ ⟨by omega, by omega⟩ (by omega) ?_
    rw [show (tk : Int).tdiv 1000000000 = ((tk / 1000000000 : Nat) : Int) from rfl]
    have hdm := Nat.div_add_mod tk 1000000000
    have hml := Nat.mod_lt tk (show 0 < 1000000000 by decide)
    -- what follows, once it is known whether the limb is below 0
    have k : ∀ b r : Nat, r < 1000000000 → (r : Int) = ((jlb U i : Nat) : Int) - ((tk % 1000000000 : Nat) : Int) + b * 1000000000 → (b = 0 ∨ b = 1) → mj_T D mj_m33 89 [some (.ref 0), some (.ref 2), some (.int (jn place)), some (.long (jl x)), none, some (.ref 3), some (.int (jn (place + jnl V : Nat))), some (.long (jl c)), none, some (.int (jn (place + i : Nat))), some (.long (jl tk)), none, some (.long (jl (((jlb U i : Nat) : Int) - ((tk % 1000000000 : Nat) : Int)))), none] [.int (jn b), .long (jl (tk / 1000000000 : Nat))] (jHD nd m (jnl V) sv fac S s2 gv gi) Q := by
      intro b r hr1 hr2 hb
      refine mj_T.i2l rfl ⟨by omega, by omega⟩ ?_
      refine mj_T.ladd rfl ?_
      rw [show ((tk / 1000000000 : Nat) : Int) + (b : Int) = ((tk / 1000000000 + b : Nat) : Int) by omega]
      have nx := jta_next (c' := tk / 1000000000 + b) (r := r) hta hr1 (by
        rw [show jB = 1000000000 from rfl, hpp]
        omega)
      have k2 : mj_T D mj_m33 115 [some (.ref 0), some (.ref 2), some (.int (jn place)), some (.long (jl x)), none, some (.ref 3), some (.int (jn (place + jnl V : Nat))), some (.long (jl (tk / 1000000000 + b : Nat))), none, some (.int (jn (place + i : Nat))), some (.long (jl tk)), none, some (.long (jl (((jlb U i : Nat) : Int) - ((tk % 1000000000 : Nat) : Int)))), none] [.long (jl r), .int (jn (place + i : Nat)), .ref 3] (jHD nd m (jnl V) sv fac S s2 gv gi) Q := by
        refine mj_T.l2i rfl ?_
        refine mj_T.iast rfl rfl ⟨by omega, by omega⟩ ⟨by omega, by omega⟩ ?_
        refine mj_T.iinc (a := (place + i : Nat)) rfl rfl ?_
        refine mj_T.pl rfl rfl rfl rfl ?_
        rw [show ((place + i : Nat) : Int) + 1 = ((place + (i + 1) : Nat) : Int) by omega]
        refine ih (i + 1) _ _ (upd gi (place + i) (jn r)) _ _ (by omega) nx (fun j hj => ?_) (fun j hj => ?_) (fun j hj => ?_)
        · unfold upd
          rw [if_neg (by omega)]
          exact hg1 j hj
        · unfold upd
          by_cases h : j = i
          · subst h
            rw [if_pos rfl, jlb_of hr1 hta.2]
          · rw [if_neg (by omega), jlb_low (by omega)]
            exact hg2 j (by omega)
        · unfold upd
          rw [if_neg (by omega)]
          exact hg3 j (by omega)
      iterate 5 refine mj_T.pl rfl rfl rfl rfl ?_
      refine mj_T.lif (b := 0) rfl rfl ⟨by omega, by omega⟩ ⟨by omega, by omega⟩ (fun hc99 => ?_) (fun hc99 => ?_)
      · simp only [jc, decide_eq_true_eq] at hc99
        refine mj_T.pl rfl rfl rfl rfl ?_
        have e : ((jlb U i : Nat) : Int) - ((tk % 1000000000 : Nat) : Int) = r := by omega
        refine mj_T.eq k2 rfl rfl ?_ rfl
        rw [← e]
      · simp only [jc, decide_eq_false_iff_not] at hc99
        iterate 2 refine mj_T.pl rfl rfl rfl rfl ?_
        refine mj_T.ladd (b := 1000000000) rfl ?_
        refine mj_T.pl rfl rfl rfl rfl ?_
        have e : ((jlb U i : Nat) : Int) - ((tk % 1000000000 : Nat) : Int) + 1000000000 = r := by omega
        refine mj_T.eq k2 rfl rfl ?_ rfl
        rw [← e]
    iterate 2 refine mj_T.pl rfl rfl rfl rfl ?_
    refine mj_T.lif (b := 0) rfl rfl ⟨by omega, by omega⟩ ⟨by omega, by omega⟩ (fun hc80 => ?_) (fun hc80 => ?_)
    · simp only [jc, decide_eq_true_eq] at hc80
      refine mj_T.pl rfl rfl rfl rfl ?_
      exact k 0 (jlb U i - tk % 1000000000) (by omega) (by omega) (Or.inl rfl)
    · simp only [jc, decide_eq_false_iff_not] at hc80
      iterate 2 refine mj_T.pl rfl rfl rfl rfl ?_
      exact k 1 (jlb U i + 1000000000 - tk % 1000000000) (by omega) (by omega) (Or.inr rfl)
theorem jw_takeAway {D nd m S U V x place h : Nat} {sv fac s2 : Int} {gv gy : Nat → Int32} (hnd : nd ≤ 1000) (hm : m ≤ 1000) (hVn : jnl V ≤ nd) (htop : place + jnl V ≤ S) (hSm : S ≤ m) (hx : x ≤ 1000000000) (hh : h < 1000000000) (hgv : ∀ j, j < jnl V → gv j = jn (jlb V j)) (hgy : ∀ j, j < jnl V → gy (place + j) = jn (jlb U j)) (hgt : place + jnl V < S → gy (place + jnl V) = jn h) (hgt2 : ¬ place + jnl V < S → h = 0) :
    mj_Ok (D + 1) 33 [.ref 0, .ref 2, .int (jn place), .long (jl x)] (jHD nd m (jnl V) sv fac S s2 gv gy)
      (fun r => ∃ (c R : Nat) (gi : Nat → Int32), jta U V x (jnl V) c R ∧ (∀ j, j < place → gi j = gy j) ∧ (∀ j, j < jnl V → gi (place + j) = jn (jlb R j)) ∧ (place + jnl V < S → gi (place + jnl V) = jn 0) ∧ (∀ j, place + jnl V < j → gi j = gy j) ∧ r = (.inl (some (.int (jn (if c ≤ h then 1 else 0)))), jHD nd m (jnl V) sv fac S s2 gv gi)) := by
  refine mj_Ok.of (M := mj_m33) rfl rfl rfl ?_
  iterate 6 refine mj_T.pl rfl rfl rfl rfl ?_
  refine mj_T.iadd rfl ?_
  rw [show (place : Int) + (jnl V : Nat) = ((place + jnl V : Nat) : Int) by omega]
  iterate 5 refine mj_T.pl rfl rfl rfl rfl ?_
  refine mj_T.imax (b := 0) rfl rfl (Nat.le_of_ble_eq_true rfl) ⟨by omega, by omega⟩ ⟨by omega, by omega⟩ ?_
  rw [show max (place : Int) 0 = ((place + 0 : Nat) : Int) by omega]
  refine mj_T.pl rfl rfl rfl rfl ?_
  refine jw_take_loop (U := U) (V := V) (x := x) (gy := gy) hnd hm hVn htop hSm hx hgv hgy (fun c R gi l10 l12 hta hg1 hg2 hg3 => ?_) (jnl V) 0 0 0 gy none none (by omega) (jta_zero U V x) (fun j _ => rfl) (fun j hj => by omega) (fun j _ => rfl)
  have hcx := jta_le hta
  iterate 1 refine mj_T.pl rfl rfl rfl rfl ?_
  refine mj_T.if0 rfl ⟨by omega, by omega⟩ (fun hc125 => ?_) (fun hc125 => ?_)
  · simp only [jc, decide_eq_true_eq] at hc125; omega
  iterate 3 refine mj_T.pl rfl rfl rfl rfl ?_
  refine mj_T.icmp rfl ⟨by omega, by omega⟩ ⟨by omega, by omega⟩ (fun hc134 => ?_) (fun hc134 => ?_)
  · simp only [jc, decide_eq_true_eq] at hc134
    have h0 := hgt2 (by omega)
    subst h0
    iterate 2 refine mj_T.pl rfl rfl rfl rfl ?_
    refine mj_T.lif (b := 0) rfl rfl ⟨by omega, by omega⟩ ⟨by omega, by omega⟩ (fun hc147 => ?_) (fun hc147 => ?_)
    · simp only [jc, Bool.not_eq_true', decide_eq_false_iff_not] at hc147
      iterate 1 refine mj_T.pl rfl rfl rfl rfl ?_
      refine mj_T.ret rfl rfl rfl ⟨c, R, gi, hta, hg1, hg2, fun h => by omega, fun j hj => hg3 j (by omega), ?_⟩
      rw [if_neg (by omega)]
    · simp only [jc, Bool.not_eq_false', decide_eq_true_eq] at hc147
      iterate 2 refine mj_T.pl rfl rfl rfl rfl ?_
      refine mj_T.ret rfl rfl rfl ⟨c, R, gi, hta, hg1, hg2, fun h => by omega, fun j hj => hg3 j (by omega), ?_⟩
      rw [if_pos (by omega)]
  · simp only [jc, decide_eq_false_iff_not] at hc134
    have hlt : place + jnl V < S := by omega
    iterate 2 refine mj_T.pl rfl rfl rfl rfl ?_
    refine mj_T.alen rfl rfl ?_
    refine mj_T.icmp rfl ⟨by omega, by omega⟩ ⟨by omega, by omega⟩ (fun hc142 => ?_) (fun hc142 => ?_)
    rotate_left
    · simp only [jc, decide_eq_false_iff_not] at hc142; omega
    have k : ∀ b : Int, b = (if c ≤ h then 1 else 0) → mj_T D mj_m33 175 [some (.ref 0), some (.ref 2), some (.int (jn place)), some (.long (jl x)), none, some (.ref 3), some (.int (jn (place + jnl V : Nat))), some (.long (jl c)), none, some (.int (jn (place + jnl V : Nat))), l10, none, l12, none] [.int (jn b)] (jHD nd m (jnl V) sv fac S s2 gv gi)
        (fun r => ∃ (c R : Nat) (gi : Nat → Int32), jta U V x (jnl V) c R ∧ (∀ j, j < place → gi j = gy j) ∧ (∀ j, j < jnl V → gi (place + j) = jn (jlb R j)) ∧ (place + jnl V < S → gi (place + jnl V) = jn 0) ∧ (∀ j, place + jnl V < j → gi j = gy j) ∧ r = (.inl (some (.int (jn (if c ≤ h then 1 else 0)))), jHD nd m (jnl V) sv fac S s2 gv gi)) := by
      intro b hb
      subst hb
      iterate 4 refine mj_T.pl rfl rfl rfl rfl ?_
      refine mj_T.iast rfl rfl ⟨by omega, by omega⟩ ⟨by omega, by omega⟩ ?_
      iterate 1 refine mj_T.pl rfl rfl rfl rfl ?_
      refine mj_T.ret rfl rfl (v := some (.int (jn (if c ≤ h then 1 else 0)))) ?_ ⟨c, R, upd gi (place + jnl V) (jn 0), hta, fun j hj => ?_, fun j hj => ?_, fun _ => ?_, fun j hj => ?_, rfl⟩
      · by_cases hch : c ≤ h
        · rw [if_pos hch]; rfl
        · rw [if_neg hch]; rfl
      · unfold upd; rw [if_neg (by omega)]; exact hg1 j hj
      · unfold upd; rw [if_neg (by omega)]; exact hg2 j hj
      · unfold upd; rw [if_pos rfl]
      · unfold upd; rw [if_neg (by omega)]; exact hg3 j (by omega)
    iterate 2 refine mj_T.pl rfl rfl rfl rfl ?_
    refine mj_T.ialv rfl rfl ⟨by omega, by omega⟩ ⟨by omega, by omega⟩ ((hg3 (place + jnl V) (Nat.le_refl _)).trans (hgt hlt)) ?_
    refine mj_T.i2l rfl ⟨by omega, by omega⟩ ?_
    refine mj_T.pl rfl rfl rfl rfl ?_
    refine mj_T.lif rfl rfl ⟨by omega, by omega⟩ ⟨by omega, by omega⟩ (fun hc166 => ?_) (fun hc166 => ?_)
    · simp only [jc, decide_eq_true_eq] at hc166
      iterate 1 refine mj_T.pl rfl rfl rfl rfl ?_
      exact k 0 (by rw [if_neg (by omega)])
    · simp only [jc, decide_eq_false_iff_not] at hc166
      iterate 2 refine mj_T.pl rfl rfl rfl rfl ?_
      exact k 1 (by rw [if_pos (by omega)])
/-! Divisor: putBack. -/
theorem jw_back_loop {D nd m S V R place : Nat} {sv fac s2 : Int} {gv gy : Nat → Int32} (hnd : nd ≤ 1000) (hm : m ≤ 1000) (hVn : jnl V ≤ nd) (htop : place + jnl V ≤ m) (hgv : ∀ j, j < jnl V → gv j = jn (jlb V j)) (hgy : ∀ j, j < jnl V → gy (place + j) = jn (jlb R j)) {Q : mj_R → Prop}
    (hend : ∀ (gi : Nat → Int32), (∀ j, j < place → gi j = gy j) → (∀ j, j < jnl V → gi (place + j) = jn (jlb (R + V) j)) → (∀ j, place + jnl V ≤ j → gi j = gy j) → Q (.inl none, jHD nd m (jnl V) sv fac S s2 gv gi)) :
    ∀ (d i : Nat) (gi : Nat → Int32) (l6 : Option Value), i + d = jnl V → (∀ j, j < place → gi j = gy j) → (∀ j, j < i → gi (place + j) = jn (jlb (R + V) j)) → (∀ j, place + i ≤ j → gi j = gy j) →
      mj_T D mj_m34 15 [some (.ref 0), some (.ref 2), some (.int (jn place)), some (.ref 3), some (.int (jn (jcy R V i))), some (.int (jn (place + i : Nat))), l6] [] (jHD nd m (jnl V) sv fac S s2 gv gi) Q := by
  intro d
  induction d with
  | zero =>
    intro i gi l6 hid hg1 hg2 hg3
    have ei : i = jnl V := by omega
    subst ei
    iterate 4 refine mj_T.pl rfl rfl rfl rfl ?_
    refine mj_T.iadd rfl ?_
    refine mj_T.icmp rfl ⟨by omega, by omega⟩ ⟨by omega, by omega⟩ (fun hc23 => ?_) (fun hc23 => ?_)
    · exact mj_T.ret rfl rfl rfl (hend gi hg1 hg2 hg3)
    · simp only [jc, decide_eq_false_iff_not] at hc23; omega
  | succ d ih =>
    intro i gi l6 hid hg1 hg2 hg3
    have hcx := jcy_le R V i
    have hcx2 := jcy_le R V (i + 1)
    have hu1 := jlb_lt R i
    have hv1 := jlb_lt V i
    have hz1 := jlb_lt (R + V) i
    have hlim : jlb (R + V) i = (jlb R i + jlb V i + jcy R V i) % 1000000000 := jcy_limb R V i
    have hnx : jcy R V (i + 1) = (jlb R i + jlb V i + jcy R V i) / 1000000000 := jcy_next R V i
    iterate 4 refine mj_T.pl rfl rfl rfl rfl ?_
    refine mj_T.iadd rfl ?_
    refine mj_T.icmp rfl ⟨by omega, by omega⟩ ⟨by omega, by omega⟩ (fun hc23 => ?_) (fun hc23 => ?_)
    · simp only [jc, decide_eq_true_eq] at hc23; omega
    clear hc23
    iterate 2 refine mj_T.pl rfl rfl rfl rfl ?_
    refine mj_T.alen rfl rfl ?_
    refine mj_T.icmp rfl ⟨by omega, by omega⟩ ⟨by omega, by omega⟩ (fun hc30 => ?_) (fun hc30 => ?_)
    · simp only [jc, decide_eq_true_eq] at hc30; omega
    clear hc30
    iterate 2 refine mj_T.pl rfl rfl rfl rfl ?_
    refine mj_T.ialv rfl rfl ⟨by omega, by omega⟩ ⟨by omega, by omega⟩ ((hg3 (place + i) (Nat.le_refl _)).trans (hgy i (by omega))) ?_
    iterate 4 refine mj_T.pl rfl rfl rfl rfl ?_
    refine mj_T.isub rfl ?_
    rw [show ((place + i : Nat) : Int) - (place : Int) = (i : Int) by omega]
    refine mj_T.ialv rfl rfl ⟨by omega, by omega⟩ ⟨by omega, by omega⟩ (hgv i (by omega)) ?_
    refine mj_T.iadd rfl ?_
    refine mj_T.pl rfl rfl rfl rfl ?_
    refine mj_T.iadd rfl ?_
    iterate 3 refine mj_T.pl rfl rfl rfl rfl ?_
    have k : ∀ b : Int, b = (jcy R V (i + 1) : Nat) → mj_T D mj_m34 64 [some (.ref 0), some (.ref 2), some (.int (jn place)), some (.ref 3), some (.int (jn (jcy R V i))), some (.int (jn (place + i : Nat))), some (.int (jn (((jlb R i : Nat) : Int) + ((jlb V i : Nat) : Int) + ((jcy R V i : Nat) : Int))))] [.int (jn b)] (jHD nd m (jnl V) sv fac S s2 gv gi) Q := by
      intro b hb
      subst hb
      iterate 6 refine mj_T.pl rfl rfl rfl rfl ?_
      refine mj_T.imul (b := 1000000000) rfl ?_
      refine mj_T.isub rfl ?_
      rw [show ((jlb R i : Nat) : Int) + ((jlb V i : Nat) : Int) + ((jcy R V i : Nat) : Int) - ((jcy R V (i + 1) : Nat) : Int) * 1000000000 = ((jlb (R + V) i : Nat) : Int) by omega]
      refine mj_T.iast rfl rfl ⟨by omega, by omega⟩ ⟨by omega, by omega⟩ ?_
      refine mj_T.iinc (a := (place + i : Nat)) rfl rfl ?_
      refine mj_T.pl rfl rfl rfl rfl ?_
      rw [show ((place + i : Nat) : Int) + 1 = ((place + (i + 1) : Nat) : Int) by omega]
      refine ih (i + 1) (upd gi (place + i) (jn (jlb (R + V) i))) _ (by omega) (fun j hj => ?_) (fun j hj => ?_) (fun j hj => ?_)
      · unfold upd
        rw [if_neg (by omega)]
        exact hg1 j hj
      · unfold upd
        by_cases h : j = i
        · subst h
          rw [if_pos rfl]
        · rw [if_neg (by omega)]
          exact hg2 j (by omega)
      · unfold upd
        rw [if_neg (by omega)]
        exact hg3 j (by omega)
    refine mj_T.icmp (b := 1000000000) rfl ⟨by omega, by omega⟩ ⟨by omega, by omega⟩ (fun hc56 => ?_) (fun hc56 => ?_)
    · simp only [jc, decide_eq_true_eq] at hc56
      refine mj_T.pl rfl rfl rfl rfl ?_
      exact k 0 (by omega)
    · simp only [jc, decide_eq_false_iff_not] at hc56
      iterate 2 refine mj_T.pl rfl rfl rfl rfl ?_
      exact k 1 (by omega)
theorem jw_putBack {D nd m S V R place : Nat} {sv fac s2 : Int} {gv gy : Nat → Int32} (hnd : nd ≤ 1000) (hm : m ≤ 1000) (hVn : jnl V ≤ nd) (htop : place + jnl V ≤ m) (hgv : ∀ j, j < jnl V → gv j = jn (jlb V j)) (hgy : ∀ j, j < jnl V → gy (place + j) = jn (jlb R j)) :
    mj_Ok (D + 1) 34 [.ref 0, .ref 2, .int (jn place)] (jHD nd m (jnl V) sv fac S s2 gv gy)
      (fun r => ∃ gi : Nat → Int32, (∀ j, j < place → gi j = gy j) ∧ (∀ j, j < jnl V → gi (place + j) = jn (jlb (R + V) j)) ∧ (∀ j, place + jnl V ≤ j → gi j = gy j) ∧ r = (.inl none, jHD nd m (jnl V) sv fac S s2 gv gi)) := by
  refine mj_Ok.of (M := mj_m34) rfl rfl rfl ?_
  iterate 7 refine mj_T.pl rfl rfl rfl rfl ?_
  refine mj_T.imax (b := 0) rfl rfl (Nat.le_of_ble_eq_true rfl) ⟨by omega, by omega⟩ ⟨by omega, by omega⟩ ?_
  rw [show max (place : Int) 0 = ((place + 0 : Nat) : Int) by omega]
  refine mj_T.pl rfl rfl rfl rfl ?_
  refine mj_T.eq (jw_back_loop (R := R) (V := V) (S := S) (s2 := s2) (sv := sv) (fac := fac) (gy := gy) hnd hm hVn htop hgv hgy (fun gi h1 h2 h3 => ⟨gi, h1, h2, h3, rfl⟩) (jnl V) 0 gy none (by omega) (fun j _ => rfl) (fun j hj => by omega) (fun j _ => rfl)) rfl ?_ rfl rfl
  rw [jcy_zero]
  rfl
/-! Divisor: prepare. -/
/-- what a divisor is taken times -/
def jfa (x : Nat) : Nat := if x = 0 then 1 else 1000000000 / (jlb x (jnl x - 1) + 1)
theorem jfa_pos (x : Nat) : 0 < jfa x ∧ jfa x ≤ 1000000000 := by
  unfold jfa
  split
  · omega
  · have := jlb_lt x (jnl x - 1)
    exact ⟨Nat.div_pos (by omega) (by omega), Nat.div_le_self _ _⟩
theorem jfa_lt {x : Nat} : x * jfa x < jB ^ jnl x := by
  by_cases h : x = 0
  · subst h; rw [Nat.zero_mul]; exact jB_pow _
  · have hn : jnl x ≠ 0 := fun q => h (jnl_eq0.mp q)
    obtain ⟨n, hn⟩ : ∃ n, jnl x = n + 1 := ⟨jnl x - 1, by omega⟩
    have e : x / jB ^ n = jlb x n := by
      have h1 := jdiv x n
      rw [← hn, jnl_le.mp (Nat.le_refl (jnl x)), Nat.zero_mul, Nat.zero_add] at h1
      exact h1
    have h2 : x < (jlb x n + 1) * jB ^ n := by rw [← e, Nat.mul_comm]; exact Nat.lt_mul_div_succ x (jB_pow n)
    have h3 : jfa x * (jlb x n + 1) ≤ jB := by
      unfold jfa
      rw [if_neg h, hn, Nat.add_sub_cancel]
      exact Nat.div_mul_le_self _ _
    rw [hn, Nat.pow_succ]
    refine Nat.lt_of_lt_of_le (Nat.mul_lt_mul_of_pos_right h2 (jfa_pos x).1) ?_
    rw [Nat.mul_comm _ (jfa x), ← Nat.mul_assoc, Nat.mul_comm _ jB]
    exact Nat.mul_le_mul_right _ h3
theorem jfa_nl {x : Nat} : jnl (x * jfa x) = jnl x := by
  have h1 := jnl_of (jfa_lt (x := x))
  have h2 := jnl_mono (Nat.le_mul_of_pos_right x (jfa_pos x).1)
  omega
theorem jhalf {t : Nat} (h0 : 0 < t) (h1 : t < 1000000000) : 1000000000 ≤ 2 * (t * (1000000000 / (t + 1))) := by
  have hd := Nat.div_add_mod 1000000000 (t + 1)
  have hm := Nat.mod_lt 1000000000 (show 0 < t + 1 by omega)
  generalize hf : 1000000000 / (t + 1) = f at *
  generalize 1000000000 % (t + 1) = r at *
  have e : (t + 1) * f = t * f + f := Nat.succ_mul t f
  rw [e] at hd
  rcases Nat.lt_or_ge t 2 with h2 | h2
  · have : t = 1 := by omega
    subst this
    omega
  · rcases Nat.lt_or_ge f 3 with h3 | h3
    · have hf0 : f ≠ 0 := fun q => by subst q; simp at hd; omega
      rcases Nat.lt_or_ge f 2 with h4 | h4
      · have : f = 1 := by omega
        subst this
        omega
      · have : f = 2 := by omega
        subst this
        omega
    · -- (f - 2) * (t - 1) is at least 2
      obtain ⟨a, rfl⟩ : ∃ a, f = a + 2 := ⟨f - 2, by omega⟩
      obtain ⟨b, rfl⟩ : ∃ b, t = b + 1 := ⟨t - 1, by omega⟩
      have e1 : (b + 1) * (a + 2) = b * a + a + 2 * b + 2 := by
        rw [Nat.add_mul, Nat.mul_add]
        omega
      have h5 : b * a ≥ 2 := by
        rcases Nat.lt_or_ge a 2 with h6 | h6
        · have : a = 1 := by omega
          subst this
          omega
        · exact Nat.le_trans h6 (Nat.le_mul_of_pos_left a (by omega))
      rw [e1] at hd ⊢
      omega
theorem jfa_norm {x : Nat} (h : 0 < x) : 1000000000 ≤ 2 * jlb (x * jfa x) (jnl x - 1) := by
  have hn : jnl x ≠ 0 := fun q => by have := jnl_eq0.mp q; omega
  obtain ⟨n, hn⟩ : ∃ n, jnl x = n + 1 := ⟨jnl x - 1, by omega⟩
  have ht := jlb_top hn.symm
  have hl := jhalf (Nat.pos_of_ne_zero ht) (jlb_lt x n)
  have e : x / jB ^ n = jlb x n := by
    have h1 := jdiv x n
    rw [← hn, jnl_le.mp (Nat.le_refl (jnl x)), Nat.zero_mul, Nat.zero_add] at h1
    exact h1
  have e2 : x * jfa x / jB ^ n = jlb (x * jfa x) n := by
    have h1 := jdiv (x * jfa x) n
    rw [← hn, ← jfa_nl, jnl_le.mp (Nat.le_refl (jnl (x * jfa x))), Nat.zero_mul, Nat.zero_add] at h1
    exact h1
  have h3 : jlb x n * jfa x ≤ x * jfa x / jB ^ n := by rw [jsc_div, e]; exact Nat.le_add_right _ _
  have h4 : jfa x = 1000000000 / (jlb x n + 1) := by
    unfold jfa
    rw [if_neg (by omega), hn, Nat.add_sub_cancel]
  rw [hn, Nat.add_sub_cancel, ← e2]
  rw [← h4] at hl
  omega
theorem jw_prep_loop {D nd m x f : Nat} {sv s2 : Int} {gy : Nat → Int32} (hnd : nd ≤ 1000) (hm : m ≤ 1000) (hxd : jnl x ≤ nd) (hxm : jnl x ≤ m) (hf : 0 < f) (hf2 : f ≤ 1000000000) (hgy : ∀ j, j < jnl x → gy j = jn (jlb x j)) {Q : mj_R → Prop}
    (hend : ∀ gi : Nat → Int32, (∀ j, j < jnl x → gi j = jn (jlb (x * f) j)) → Q (.inl none, jHD nd m (jnl x) sv f (jnl x) s2 gi gy)) :
    ∀ (d i : Nat) (gi : Nat → Int32) (l6 : Option Value), i + d = jnl x → (∀ j, j < i → gi j = jn (jlb (x * f) j)) →
      mj_T D mj_m30 80 [some (.ref 0), some (.ref 2), some (.ref 3), some (.long (jl (jsc x f i))), none, some (.int (jn i)), l6, none] [] (jHD nd m (jnl x) sv f (jnl x) s2 gi gy) Q := by
  intro d
  induction d with
  | zero =>
    intro i gi l6 hid hg1
    have ei : i = jnl x := by omega
    subst ei
    iterate 3 refine mj_T.pl rfl rfl rfl rfl ?_
    refine mj_T.icmp rfl ⟨by omega, by omega⟩ ⟨by omega, by omega⟩ (fun hc86 => ?_) (fun hc86 => ?_)
    · exact mj_T.ret rfl rfl rfl (hend gi hg1)
    · simp only [jc, decide_eq_false_iff_not] at hc86; omega
  | succ d ih =>
    intro i gi l6 hid hg1
    have hcf := jsc_lt (x := x) (i := i) hf
    have hlim : jlb (x * f) i = (jlb x i * f + jsc x f i) % 1000000000 := jsc_limb x f i
    have hnx : jsc x f (i + 1) = (jlb x i * f + jsc x f i) / 1000000000 := jsc_next x f i
    have hx1 := jlb_lt x i
    have hpb : jlb x i * f ≤ 999999999 * 1000000000 := Nat.mul_le_mul (by omega) hf2
    iterate 3 refine mj_T.pl rfl rfl rfl rfl ?_
    refine mj_T.icmp rfl ⟨by omega, by omega⟩ ⟨by omega, by omega⟩ (fun hc86 => ?_) (fun hc86 => ?_)
    · simp only [jc, decide_eq_true_eq] at hc86; omega
    clear hc86
    iterate 2 refine mj_T.pl rfl rfl rfl rfl ?_
    refine mj_T.ialv rfl rfl ⟨by omega, by omega⟩ ⟨by omega, by omega⟩ (hgy i (by omega)) ?_
    refine mj_T.i2l rfl ⟨by omega, by omega⟩ ?_
    iterate 2 refine mj_T.pl rfl rfl rfl rfl ?_
    refine mj_T.lmul rfl ?_
    refine mj_T.pl rfl rfl rfl rfl ?_
    refine mj_T.ladd rfl ?_
    rw [show ((jlb x i : Nat) : Int) * (f : Int) + ((jsc x f i : Nat) : Int) = ((jlb x i * f + jsc x f i : Nat) : Int) by rw [Int.natCast_add, Int.natCast_mul]]
    iterate 6 refine mj_T.pl rfl rfl rfl rfl ?_
    refine mj_T.lrem (b := 1000000000) rfl ⟨by omega, by omega⟩ ⟨by omega, by omega⟩ (by omega) ?_
    rw [show ((jlb x i * f + jsc x f i : Nat) : Int).tmod 1000000000 = ((jlb (x * f) i : Nat) : Int) by rw [hlim]; rfl]
    refine mj_T.l2i rfl ?_
    refine mj_T.iast rfl rfl ⟨by omega, by omega⟩ ⟨by omega, by omega⟩ ?_
    iterate 2 refine mj_T.pl rfl rfl rfl rfl ?_
    refine mj_T.ldiv (b := 1000000000) rfl ⟨by omega, by omega⟩ ⟨by omega, by omega⟩ (by omega) ?_
    rw [show ((jlb x i * f + jsc x f i : Nat) : Int).tdiv 1000000000 = ((jsc x f (i + 1) : Nat) : Int) by rw [hnx]; rfl]
    refine mj_T.pl rfl rfl rfl rfl ?_
    refine mj_T.iinc (a := i) rfl rfl ?_
    refine mj_T.pl rfl rfl rfl rfl ?_
    refine ih (i + 1) (upd gi i (jn (jlb (x * f) i))) _ (by omega) (fun j hj => ?_)
    unfold upd
    split
    · rename_i h; rw [h]
    · exact hg1 j (by omega)
theorem jw_prepare {D nd m x : Nat} {s0 : Int32} {sv0 : Int32} {fac0 : Int64} {s2 : Int} {gv gy : Nat → Int32} (hnd : nd ≤ 1000) (hm : m ≤ 1000) (hxd : jnl x ≤ nd) (hxm : jnl x ≤ m) (hgy : ∀ j, j < jnl x → gy j = jn (jlb x j)) :
    mj_Ok (D + 1) 30 [.ref 0, .ref 2] [.inr (2, [.ref 1, .int s0, .int sv0, .long fac0]), .inl (0, nd, fun j => .int (gv j)), .inr (8, [.ref 3, .int (jn (jnl x)), .int (jn s2)]), .inl (0, m, fun j => .int (gy j))]
      (fun r => ∃ gi : Nat → Int32, (∀ j, j < jnl x → gi j = jn (jlb (x * jfa x) j)) ∧ r = (.inl none, jHD nd m (jnl x) s2 (jfa x) (jnl x) s2 gi gy)) := by
  have hfa := jfa_pos x
  refine mj_Ok.of (M := mj_m30) rfl rfl rfl ?_
  iterate 8 refine mj_T.pl rfl rfl rfl rfl ?_
  refine mj_T.alen rfl rfl ?_
  refine mj_T.pl rfl rfl rfl rfl ?_
  refine mj_T.alen rfl rfl ?_
  refine mj_T.imin rfl rfl (Nat.le_of_ble_eq_true rfl) ⟨by omega, by omega⟩ ⟨by omega, by omega⟩ ?_
  refine mj_T.imin rfl rfl (Nat.le_of_ble_eq_true rfl) ⟨by omega, by omega⟩ ⟨by omega, by omega⟩ ?_
  rw [show min (jnl x : Int) (min (nd : Int) (m : Int)) = (jnl x : Nat) by omega]
  have fin : mj_T D mj_m30 72 [some (.ref 0), some (.ref 2), some (.ref 3), none, none, none, none, none] [.long (jl (jfa x)), .ref 0] [.inr (2, [.ref 1, .int (jn (jnl x)), .int (jn s2), .long fac0]), .inl (0, nd, fun j => .int (gv j)), .inr (8, [.ref 3, .int (jn (jnl x)), .int (jn s2)]), .inl (0, m, fun j => .int (gy j))]
      (fun r => ∃ gi : Nat → Int32, (∀ j, j < jnl x → gi j = jn (jlb (x * jfa x) j)) ∧ r = (.inl none, jHD nd m (jnl x) s2 (jfa x) (jnl x) s2 gi gy)) := by
    iterate 5 refine mj_T.pl rfl rfl rfl rfl ?_
    refine mj_T.eq (jw_prep_loop (x := x) (f := jfa x) (sv := s2) (s2 := s2) (gy := gy) hnd hm hxd hxm hfa.1 hfa.2 hgy (fun gi h => ⟨gi, h, rfl⟩) (jnl x) 0 gv none (by omega) (fun j hj => by omega)) rfl ?_ rfl rfl
    rw [jsc_zero]
    rfl
  iterate 8 refine mj_T.pl rfl rfl rfl rfl ?_
  refine mj_T.if0 rfl ⟨by omega, by omega⟩ (fun hc39 => ?_) (fun hc39 => ?_)
  · simp only [jc, decide_eq_true_eq] at hc39
    have h0 : x = 0 := jnl_eq0.mp (by omega)
    refine mj_T.pl rfl rfl rfl rfl ?_
    refine mj_T.eq fin rfl rfl ?_ rfl
    rw [show jfa x = 1 by unfold jfa; rw [if_pos h0]]
    rfl
  · simp only [jc, decide_eq_false_iff_not] at hc39
    have h0 : x ≠ 0 := fun q => by rw [q, jnl_zero] at hc39; omega
    have ht := jlb_lt x (jnl x - 1)
    have hgt := hgy (jnl x - 1) (by omega)
    have ht0 : jlb x (jnl x - 1) ≠ 0 := jlb_top (by omega)
    iterate 4 refine mj_T.pl rfl rfl rfl rfl ?_
    refine mj_T.isub (b := 1) rfl ?_
    rw [show (jnl x : Int) - 1 = ((jnl x - 1 : Nat) : Int) by omega]
    refine mj_T.ialv rfl rfl ⟨by omega, by omega⟩ ⟨by omega, by omega⟩ hgt ?_
    refine mj_T.if0 rfl ⟨by omega, by omega⟩ (fun hc50 => ?_) (fun hc50 => ?_)
    · simp only [jc, decide_eq_true_eq] at hc50; omega
    iterate 5 refine mj_T.pl rfl rfl rfl rfl ?_
    refine mj_T.isub (b := 1) rfl ?_
    rw [show (jnl x : Int) - 1 = ((jnl x - 1 : Nat) : Int) by omega]
    refine mj_T.ialv rfl rfl ⟨by omega, by omega⟩ ⟨by omega, by omega⟩ hgt ?_
    refine mj_T.i2l rfl ⟨by omega, by omega⟩ ?_
    refine mj_T.pl rfl rfl rfl rfl ?_
    refine mj_T.ladd (b := 1) rfl ?_
    refine mj_T.ldiv (a := 1000000000) rfl ⟨by omega, by omega⟩ ⟨by omega, by omega⟩ (by omega) ?_
    refine mj_T.pl rfl rfl rfl rfl ?_
    refine mj_T.eq fin rfl rfl ?_ rfl
    rw [show ((jfa x : Nat) : Int) = (1000000000 : Int).tdiv (((jlb x (jnl x - 1) : Nat) : Int) + 1) by unfold jfa; rw [if_neg h0]; rfl]
/-! A contract over a small heap, used where its cells lie in a greater one. -/
def jrho (is : List Nat) (m i : Nat) : Nat := match is[i]? with
  | some p => p
  | none => m + (i - is.length)
theorem jrho_out {is : List Nat} {m i : Nat} (h : is.length ≤ i) : jrho is m i + is.length = m + i := by
  unfold jrho
  rw [List.getElem?_eq_none_iff.mpr h]
  simp only
  omega
theorem jrho_in {is : List Nat} {m i p : Nat} (h : is[i]? = some p) : jrho is m i = p := by
  unfold jrho
  rw [h]
theorem jrho_inj {is : List Nat} {m : Nat} (hn : is.Nodup) (hl : ∀ p ∈ is, p < m) : ∀ i j, jrho is m i = jrho is m j → i = j := by
  intro i j h
  cases hi : is[i]? with
  | none =>
    have h1 := jrho_out (m := m) (List.getElem?_eq_none_iff.mp hi)
    have h1l := List.getElem?_eq_none_iff.mp hi
    cases hj : is[j]? with
    | none =>
      have h2 := jrho_out (m := m) (List.getElem?_eq_none_iff.mp hj)
      omega
    | some q =>
      have h2 := jrho_in (m := m) hj
      have h3 := hl q (List.mem_of_getElem? hj)
      omega
  | some p =>
    have h1 := jrho_in (m := m) hi
    have h1l := hl p (List.mem_of_getElem? hi)
    cases hj : is[j]? with
    | none =>
      have h2 := jrho_out (m := m) (List.getElem?_eq_none_iff.mp hj)
      have h3 := List.getElem?_eq_none_iff.mp hj
      omega
    | some q =>
      have h2 := jrho_in (m := m) hj
      have e : p = q := by omega
      subst e
      have hi2 := (List.getElem?_eq_some_iff.mp hi)
      have hj2 := (List.getElem?_eq_some_iff.mp hj)
      obtain ⟨a, ha⟩ := hi2
      obtain ⟨b, hb⟩ := hj2
      have hpw := List.pairwise_iff_getElem.mp hn
      rcases Nat.lt_trichotomy i j with h5 | h5 | h5
      · exact absurd (ha.trans hb.symm) (hpw i j a b h5)
      · exact h5
      · exact absurd (hb.trans ha.symm) (hpw j i b a h5)
/-- cells laid at their places -/
def jlay (f : mj_E → mj_E) : List Nat → mj_H → mj_H → mj_H
  | p :: is, e :: K, h => jlay f is K (h.set p (f e))
  | _, _, h => h
theorem jlay_len (f : mj_E → mj_E) : ∀ (is : List Nat) (K h : mj_H), (jlay f is K h).length = h.length
  | [], _, _ => by simp [jlay]
  | _ :: _, [], _ => by simp [jlay]
  | p :: is, e :: K, h => by
    simp only [jlay]
    rw [jlay_len f is K, List.length_set]
theorem jlay_out (f : mj_E → mj_E) : ∀ (is : List Nat) (K h : mj_H) (q : Nat), q ∉ is → (jlay f is K h)[q]? = h[q]?
  | [], _, _, _, _ => by simp [jlay]
  | _ :: _, [], _, _, _ => by simp [jlay]
  | p :: is, e :: K, h, q, hq => by
    simp only [jlay]
    rw [jlay_out f is K _ q (fun x => hq (List.mem_cons_of_mem _ x)), List.getElem?_set_ne (fun x => hq (by rw [← x]; exact List.mem_cons_self))]
theorem jlay_in (f : mj_E → mj_E) : ∀ (is : List Nat) (K h : mj_H) (i p : Nat) (e : mj_E), is.Nodup → (∀ p ∈ is, p < h.length) → is[i]? = some p → K[i]? = some e → (jlay f is K h)[p]? = some (f e)
  | [], _, _, _, _, _, _, _, h, _ => by simp at h
  | _ :: _, [], _, _, _, _, _, _, _, h => by simp at h
  | p :: is, e :: K, h, 0, q, x, hn, hl, hp, he => by
    simp only [List.getElem?_cons_zero, Option.some.injEq] at hp he
    subst hp
    subst he
    simp only [jlay]
    rw [jlay_out f is K _ p (List.nodup_cons.mp hn).1, List.getElem?_set_self (hl p List.mem_cons_self)]
  | p :: is, e :: K, h, i + 1, q, x, hn, hl, hp, he => by
    simp only [List.getElem?_cons_succ] at hp he
    simp only [jlay]
    exact jlay_in f is K _ i q x (List.nodup_cons.mp hn).2 (fun y hy => by rw [List.length_set]; exact hl y (List.mem_cons_of_mem _ hy)) hp he
/-- the contract, elsewhere: where no cell is made -/
theorem mj_Ok.at {D j : Nat} {as : List Value} {K : mj_H} {Q : mj_R → Prop} (c : mj_Ok D j as K Q) (is : List Nat) {h : mj_H} (hlen : is.length = K.length) (hnd : is.Nodup) (hlt : ∀ p ∈ is, p < h.length) (hc : ∀ (i p : Nat) (e : mj_E), is[i]? = some p → K[i]? = some e → h[p]? = some (mj_rE (jrho is h.length) e)) (hK : ∀ r, Q r → r.2.length = K.length) :
    mj_Ok D j (as.map (mj_rn (jrho is h.length))) h (fun r => ∃ r0 K', Q (r0, K') ∧ r = (mj_rR (jrho is h.length) r0, jlay (mj_rE (jrho is h.length)) is K' h)) := by
  obtain ⟨F, r, h1, h2⟩ := c
  have he : mj_em (jrho is h.length) is.length h.length K h := by
    refine ⟨by omega, by omega, fun k e hk => ?_⟩
    have hkl := (List.getElem?_eq_some_iff.mp hk).1
    have hp : is[k]? = some (is[k]'(by omega)) := List.getElem?_eq_getElem (by omega)
    rw [jrho_in hp]
    exact hc k _ e hp hk
  obtain ⟨h', g1, g2, g3⟩ := mj_ren_run (ρ := jrho is h.length) (fun k hk => jrho_out hk) (jrho_inj hnd hlt) mj_P F D j as K h r h1 he
  refine ⟨F, _, g1, r.1, r.2, h2, ?_⟩
  have hl := hK r h2
  congr 1
  have hlen' : h'.length = h.length := by have := g2.2.1; omega
  apply List.ext_getElem?
  intro q
  by_cases hq : q ∈ is
  · obtain ⟨i, hi⟩ := List.getElem?_of_mem hq
    have hil := (List.getElem?_eq_some_iff.mp hi).1
    have hk : r.2[i]? = some (r.2[i]'(by omega)) := List.getElem?_eq_getElem (by omega)
    rw [jlay_in _ is r.2 h i q _ hnd hlt hi hk, ← jrho_in (m := h.length) hi]
    exact g2.2.2 i _ hk
  · rw [jlay_out _ is r.2 h q hq]
    by_cases hql : q < h.length
    · refine g3 q hql (fun k hk e => hq ?_)
      have hp : is[k]? = some (is[k]'hk) := List.getElem?_eq_getElem hk
      rw [jrho_in hp] at e
      rw [← e]
      exact List.getElem_mem hk
    · rw [List.getElem?_eq_none_iff.mpr (by omega), List.getElem?_eq_none_iff.mpr (by omega)]
