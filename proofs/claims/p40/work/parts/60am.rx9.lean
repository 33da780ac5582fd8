/-! Of the reference and of numbers (as in p1, part 78t). -/
abbrev jLd (q0 k n : Nat) (t g r v w : Int) (l13 l15 l16 l17 l18 l19 : Option Value) : mj_L := [some (.ref q0), some (.int (jn k)), some (.int (jn n)), some (.long (jl t)), none, some (.long (jl g)), none, some (.long (jl r)), none, some (.long (jl v)), none, some (.long (jl w)), none, l13, none, l15, l16, l17, l18, l19, none]
section JXD
variable {D : Nat} {hp : mj_H} {q0 q1 q2 q3 : Nat} {fs : List Value} {bg : Nat → Int32} {ov db : Nat → Value} {Q : mj_R → Prop}
/-- one look at the guess -/
theorem jq_dl_guess (G : jG hp q0 q1 q2 q3 fs) {k n p1 p2 l v2 u2 : Nat} {t : Int} (hn : 1 ≤ n) (hn2 : n ≤ 701) (hl : l < 1000000000) (hv : v2 < 1000000000) (hu : u2 < 1000000000) (hp1 : p1 ≤ 2000000000) (hp2 : p2 < 1000000000) (h0 : jB ≤ p1 ∨ p2 * jB + u2 < p1 * v2 → 1 ≤ p1) (hdb : db (n - 1) = .int (jn (l : Nat)))
    (K1 : ¬ (jB ≤ p1 ∨ p2 * jB + u2 < p1 * v2) → mj_T D mj_m192 153 (jLd q0 k n t p1 p2 v2 u2 none none none none none none) [] (jZ hp q1 q2 q3 bg ov db) Q)
    (K2 : (jB ≤ p1 ∨ p2 * jB + u2 < p1 * v2) → p2 + l < 1000000000 → mj_T D mj_m192 94 (jLd q0 k n t (p1 - 1 : Nat) (p2 + l : Nat) v2 u2 none none none none none none) [] (jZ hp q1 q2 q3 bg ov db) Q)
    (K3 : (jB ≤ p1 ∨ p2 * jB + u2 < p1 * v2) → ¬ p2 + l < 1000000000 → mj_T D mj_m192 153 (jLd q0 k n t (p1 - 1 : Nat) (p2 + l : Nat) v2 u2 none none none none none none) [] (jZ hp q1 q2 q3 bg ov db) Q) :
    mj_T D mj_m192 94 (jLd q0 k n t p1 p2 v2 u2 none none none none none none) [] (jZ hp q1 q2 q3 bg ov db) Q := by
  have hm1 : p1 * v2 ≤ 2000000000 * 999999999 := Nat.mul_le_mul hp1 (by omega)
  have eB : jB = 1000000000 := rfl
  rw [eB] at h0 K1 K2 K3
  have go : (1000000000 ≤ p1 ∨ p2 * 1000000000 + u2 < p1 * v2) → mj_T D mj_m192 121 (jLd q0 k n t p1 p2 v2 u2 none none none none none none) [] (jZ hp q1 q2 q3 bg ov db) Q := by
    intro hc
    have h1 := h0 hc
    iterate 2 refine mj_T.pl rfl rfl rfl rfl ?_
    refine mj_T.lsub (b := 1) rfl ?_
    rw [show (p1 : Int) - 1 = ((p1 - 1 : Nat) : Int) by omega]
    iterate 3 refine mj_T.pl rfl rfl rfl rfl ?_
    refine mj_T.gby G rfl ?_
    iterate 2 refine mj_T.pl rfl rfl rfl rfl ?_
    refine mj_T.isub (b := 1) rfl ?_
    rw [show (n : Int) - 1 = ((n - 1 : Nat) : Int) by omega]
    refine mj_T.yld G rfl ⟨by omega, by omega⟩ ⟨by omega, by omega⟩ hdb ?_
    refine mj_T.i2l rfl ⟨by omega, by omega⟩ ?_
    refine mj_T.ladd rfl ?_
    rw [show (p2 : Int) + (l : Int) = ((p2 + l : Nat) : Int) by omega]
    iterate 3 refine mj_T.pl rfl rfl rfl rfl ?_
    refine mj_T.lif (b := 1000000000) rfl rfl ⟨by omega, by omega⟩ ⟨by omega, by omega⟩ (fun hc2 => ?_) (fun hc2 => ?_)
    · simp only [jc, decide_eq_true_eq] at hc2
      exact K2 hc (by omega)
    · simp only [jc, decide_eq_false_iff_not] at hc2
      refine mj_T.pl rfl rfl rfl rfl ?_
      exact K3 hc (by omega)
  iterate 2 refine mj_T.pl rfl rfl rfl rfl ?_
  refine mj_T.lif (b := 1000000000) rfl rfl ⟨by omega, by omega⟩ ⟨by omega, by omega⟩ (fun hc => ?_) (fun hc => ?_)
  · simp only [jc, decide_eq_true_eq] at hc
    exact go (Or.inl (by omega))
  · simp only [jc, decide_eq_false_iff_not] at hc
    iterate 2 refine mj_T.pl rfl rfl rfl rfl ?_
    refine mj_T.lmul rfl ?_
    iterate 2 refine mj_T.pl rfl rfl rfl rfl ?_
    refine mj_T.lmul (b := 1000000000) rfl ?_
    refine mj_T.pl rfl rfl rfl rfl ?_
    refine mj_T.ladd rfl ?_
    rw [show (p1 : Int) * (v2 : Int) = ((p1 * v2 : Nat) : Int) by rw [Int.natCast_mul], show (p2 : Int) * 1000000000 + (u2 : Int) = ((p2 * 1000000000 + u2 : Nat) : Int) by omega]
    refine mj_T.lif rfl rfl ⟨by omega, by omega⟩ ⟨by omega, by omega⟩ (fun hc2 => ?_) (fun hc2 => ?_)
    · simp only [jc, decide_eq_true_eq] at hc2
      exact K1 (by omega)
    · simp only [jc, decide_eq_false_iff_not] at hc2
      exact go (Or.inr (by omega))
theorem jq_dl_sub (G : jG hp q0 q1 q2 q3 fs) {k n U V x : Nat} {t r v w : Int} {ov0 : Nat → Value} (hk : k + n ≤ 1402) (hn2 : n ≤ 701) (hV : jnl V = n) (hx : x ≤ 1000000000) (hov : ∀ j, j ≤ n → ov0 (k + j) = .int (jn (jlb U j : Nat))) (hdb : ∀ j, j < n → db j = .int (jn (jlb V j : Nat)))
    (hend : ∀ (ov : Nat → Value) (b R : Nat) (l17 l19 : Option Value), b ≤ 1 → jta U V x (n + 1) (jsc V x (n + 1) + b) R → (∀ j, j ≤ n → ov (k + j) = .int (jn (jlb R j : Nat))) → (∀ j, j < k ∨ k + n < j → ov j = ov0 j) → mj_T D mj_m192 265 (jLd q0 k n t x r v w (some (.long (jl (jsc V x (n + 1) : Nat)))) (some (.int (jn b))) (some (.int (jn (n + 1 : Nat)))) l17 none l19) [] (jZ hp q1 q2 q3 bg ov db) Q) :
    ∀ (d i b R : Nat) (ov : Nat → Value) (l17 l19 : Option Value), i + d = n + 1 → b ≤ 1 → jta U V x i (jsc V x i + b) R → (∀ j, j < i → ov (k + j) = .int (jn (jlb R j : Nat))) → (∀ j, j < k ∨ k + i ≤ j → ov j = ov0 j) →
      mj_T D mj_m192 162 (jLd q0 k n t x r v w (some (.long (jl (jsc V x i : Nat)))) (some (.int (jn b))) (some (.int (jn i))) l17 none l19) [] (jZ hp q1 q2 q3 bg ov db) Q := by
  intro d
  induction d with
  | zero =>
    intro i b R ov l17 l19 hi hb hta h1 h2
    have ei : i = n + 1 := by omega
    subst ei
    iterate 2 refine mj_T.pl rfl rfl rfl rfl ?_
    refine mj_T.icmp rfl ⟨by omega, by omega⟩ ⟨by omega, by omega⟩ (fun hc => ?_) (fun hc => ?_)
    · exact hend ov b R l17 l19 hb hta (fun j hj => h1 j (by omega)) (fun j hj => h2 j (by omega))
    · simp only [jc, decide_eq_false_iff_not] at hc; omega
  | succ d ih =>
    intro i b R ov l17 l19 hi hb hta h1 h2
    have hc0 := jta_le hta
    have u1 := jlb_lt U i
    have v1 := jlb_lt V i
    have hm : jlb V i * x ≤ 999999999 * 1000000000 := Nat.mul_le_mul (by omega) hx
    have hnx := jsc_next V x i
    iterate 2 refine mj_T.pl rfl rfl rfl rfl ?_
    refine mj_T.icmp rfl ⟨by omega, by omega⟩ ⟨by omega, by omega⟩ (fun hc => ?_) (fun hc => ?_)
    · simp only [jc, decide_eq_true_eq] at hc; omega
    clear hc
    have k189 : ∀ z : Int, z = (jlb V i * x : Nat) → mj_T D mj_m192 189 (jLd q0 k n t x r v w (some (.long (jl (jsc V x i : Nat)))) (some (.int (jn b))) (some (.int (jn i))) l17 none l19) [.long (jl z)] (jZ hp q1 q2 q3 bg ov db) Q := by
      intro z hz
      subst hz
      refine mj_T.pl rfl rfl rfl rfl ?_
      refine mj_T.ladd rfl ?_
      rw [show ((jlb V i * x : Nat) : Int) + ((jsc V x i : Nat) : Int) = ((jlb V i * x + jsc V x i : Nat) : Int) by omega]
      have nx0 : ∀ (c' rr : Nat), rr < jB → jlb U i + c' * jB = jlb V i * x + jsc V x i + b + rr → jta U V x (i + 1) c' (rr * jB ^ i + R) := fun c' rr hr he => jta_next hta hr (by rw [Nat.mul_comm x]; omega)
      generalize hP : jlb V i * x + jsc V x i = P at *
      have hdm := Nat.div_add_mod P 1000000000
      have hml := Nat.mod_lt P (show 0 < 1000000000 by decide)
      have hnx2 : jsc V x (i + 1) = P / 1000000000 := hnx
      iterate 3 refine mj_T.pl rfl rfl rfl rfl ?_
      refine mj_T.ldiv (b := 1000000000) rfl ⟨by omega, by omega⟩ ⟨by omega, by omega⟩ (by omega) ?_
      rw [show ((P : Nat) : Int).tdiv 1000000000 = ((jsc V x (i + 1) : Nat) : Int) by rw [hnx2]; rfl]
      iterate 2 refine mj_T.pl rfl rfl rfl rfl ?_
      refine mj_T.gov (jG_e G _) rfl ?_
      iterate 2 refine mj_T.pl rfl rfl rfl rfl ?_
      refine mj_T.iadd rfl ?_
      rw [show (k : Int) + (i : Int) = ((k + i : Nat) : Int) by omega]
      refine mj_T.old (jG_e G _) rfl ⟨by omega, by omega⟩ ⟨by omega, by omega⟩ ((h2 (k + i) (by omega)).trans (hov i (by omega))) ?_
      refine mj_T.i2l rfl ⟨by omega, by omega⟩ ?_
      iterate 2 refine mj_T.pl rfl rfl rfl rfl ?_
      refine mj_T.lrem (b := 1000000000) rfl ⟨by omega, by omega⟩ ⟨by omega, by omega⟩ (by omega) ?_
      rw [show ((P : Nat) : Int).tmod 1000000000 = ((P % 1000000000 : Nat) : Int) from rfl]
      refine mj_T.lsub rfl ?_
      refine mj_T.pl rfl rfl rfl rfl ?_
      refine mj_T.i2l rfl ⟨by omega, by omega⟩ ?_
      refine mj_T.lsub rfl ?_
      have k237 : ∀ b' rr : Nat, b' ≤ 1 → rr < 1000000000 → (rr : Int) = ((jlb U i : Nat) : Int) - ((P % 1000000000 : Nat) : Int) - (b : Int) + b' * 1000000000 → mj_T D mj_m192 237 (jLd q0 k n t x r v w (some (.long (jl (jsc V x (i + 1) : Nat)))) (some (.int (jn b))) (some (.int (jn i))) (some (.long (jl P))) none (some (.long (jl (((jlb U i : Nat) : Int) - ((P % 1000000000 : Nat) : Int) - (b : Int)))))) [.int (jn b')] (jZ hp q1 q2 q3 bg ov db) Q := by
        intro b' rr hb' hr1 hr2
        have nx := nx0 (jsc V x (i + 1) + b') rr hr1 (by
          rw [show jB = 1000000000 from rfl, hnx2]
          omega)
        iterate 2 refine mj_T.pl rfl rfl rfl rfl ?_
        refine mj_T.gov (jG_e G _) rfl ?_
        iterate 2 refine mj_T.pl rfl rfl rfl rfl ?_
        refine mj_T.iadd rfl ?_
        rw [show (k : Int) + (i : Int) = ((k + i : Nat) : Int) by omega]
        iterate 2 refine mj_T.pl rfl rfl rfl rfl ?_
        refine mj_T.i2l rfl ⟨by omega, by omega⟩ ?_
        refine mj_T.pl rfl rfl rfl rfl ?_
        refine mj_T.lmul (b := 1000000000) rfl ?_
        refine mj_T.ladd rfl ?_
        rw [← hr2]
        refine mj_T.l2i rfl ?_
        refine mj_T.ost (jG_e G _) rfl ⟨by omega, by omega⟩ ⟨by omega, by omega⟩ ?_
        refine mj_T.iinc (a := i) rfl rfl ?_
        refine mj_T.pl rfl rfl rfl rfl ?_
        refine ih (i + 1) b' (rr * jB ^ i + R) _ _ _ (by omega) hb' nx (fun j hj => ?_) (fun j hj => ?_)
        · unfold updV
          by_cases e : j = i
          · subst e
            rw [if_pos (by omega), jlb_of hr1 hta.2]
          · rw [if_neg (by omega), jlb_low (by omega)]
            exact h1 j (by omega)
        · unfold updV
          rw [if_neg (by omega)]
          exact h2 j (by omega)
      iterate 3 refine mj_T.pl rfl rfl rfl rfl ?_
      refine mj_T.lif (b := 0) rfl rfl ⟨by omega, by omega⟩ ⟨by omega, by omega⟩ (fun hc => ?_) (fun hc => ?_)
      · simp only [jc, decide_eq_true_eq] at hc
        refine mj_T.pl rfl rfl rfl rfl ?_
        exact k237 0 (jlb U i - P % 1000000000 - b) (by omega) (by omega) (by omega)
      · simp only [jc, decide_eq_false_iff_not] at hc
        iterate 2 refine mj_T.pl rfl rfl rfl rfl ?_
        exact k237 1 (jlb U i + 1000000000 - P % 1000000000 - b) (by omega) (by omega) (by omega)
    iterate 2 refine mj_T.pl rfl rfl rfl rfl ?_
    refine mj_T.icmp rfl ⟨by omega, by omega⟩ ⟨by omega, by omega⟩ (fun hc => ?_) (fun hc => ?_)
    · simp only [jc, decide_eq_true_eq] at hc
      refine mj_T.pl rfl rfl rfl rfl ?_
      refine k189 0 ?_
      rw [jlb_high (show jnl V ≤ i by omega), Nat.zero_mul]
      rfl
    · simp only [jc, decide_eq_false_iff_not] at hc
      iterate 2 refine mj_T.pl rfl rfl rfl rfl ?_
      refine mj_T.gby G rfl ?_
      refine mj_T.pl rfl rfl rfl rfl ?_
      refine mj_T.yld G rfl ⟨by omega, by omega⟩ ⟨by omega, by omega⟩ (hdb i (by omega)) ?_
      refine mj_T.i2l rfl ⟨by omega, by omega⟩ ?_
      refine mj_T.lmul rfl ?_
      refine mj_T.pl rfl rfl rfl rfl ?_
      exact k189 _ (by rw [Int.natCast_mul, Int.mul_comm])
theorem jq_dl_add (G : jG hp q0 q1 q2 q3 fs) {k n R V : Nat} {t g r v w : Int} {l13 l19 : Option Value} {b15 : Int} {ov0 : Nat → Value} (hk : k + n ≤ 1402) (hn2 : n ≤ 701) (hV : jnl V = n) (hov : ∀ j, j ≤ n → ov0 (k + j) = .int (jn (jlb R j : Nat))) (hdb : ∀ j, j < n → db j = .int (jn (jlb V j : Nat)))
    (hend : ∀ (ov : Nat → Value) (l16 l17 l18 : Option Value), (∀ j, j ≤ n → ov (k + j) = .int (jn (jlb (R + V) j : Nat))) → (∀ j, j < k ∨ k + n < j → ov j = ov0 j) → mj_T D mj_m192 355 (jLd q0 k n t g r v w l13 (some (.int (jn b15))) l16 l17 l18 l19) [] (jZ hp q1 q2 q3 bg ov db) Q) :
    ∀ (d i : Nat) (ov : Nat → Value) (l18 : Option Value), i + d = n + 1 → (∀ j, j < i → ov (k + j) = .int (jn (jlb (R + V) j : Nat))) → (∀ j, j < k ∨ k + i ≤ j → ov j = ov0 j) →
      mj_T D mj_m192 280 (jLd q0 k n t g r v w l13 (some (.int (jn b15))) (some (.int (jn (jcy R V i : Nat)))) (some (.int (jn i))) l18 l19) [] (jZ hp q1 q2 q3 bg ov db) Q := by
  intro d
  induction d with
  | zero =>
    intro i ov l18 hi h1 h2
    have ei : i = n + 1 := by omega
    subst ei
    iterate 2 refine mj_T.pl rfl rfl rfl rfl ?_
    refine mj_T.icmp rfl ⟨by omega, by omega⟩ ⟨by omega, by omega⟩ (fun hc => ?_) (fun hc => ?_)
    · exact hend ov _ _ l18 (fun j hj => h1 j (by omega)) (fun j hj => h2 j (by omega))
    · simp only [jc, decide_eq_false_iff_not] at hc; omega
  | succ d ih =>
    intro i ov l18 hi h1 h2
    have c1 := jcy_le R V i
    have c2 := jcy_le R V (i + 1)
    have u1 := jlb_lt R i
    have v1 := jlb_lt V i
    have z1 := jlb_lt (R + V) i
    have hlim : jlb (R + V) i = (jlb R i + jlb V i + jcy R V i) % 1000000000 := jcy_limb R V i
    have hnx : jcy R V (i + 1) = (jlb R i + jlb V i + jcy R V i) / 1000000000 := jcy_next R V i
    iterate 2 refine mj_T.pl rfl rfl rfl rfl ?_
    refine mj_T.icmp rfl ⟨by omega, by omega⟩ ⟨by omega, by omega⟩ (fun hc => ?_) (fun hc => ?_)
    · simp only [jc, decide_eq_true_eq] at hc; omega
    clear hc
    refine mj_T.pl rfl rfl rfl rfl ?_
    refine mj_T.gov (jG_e G _) rfl ?_
    iterate 2 refine mj_T.pl rfl rfl rfl rfl ?_
    refine mj_T.iadd rfl ?_
    rw [show (k : Int) + (i : Int) = ((k + i : Nat) : Int) by omega]
    refine mj_T.old (jG_e G _) rfl ⟨by omega, by omega⟩ ⟨by omega, by omega⟩ ((h2 (k + i) (by omega)).trans (hov i (by omega))) ?_
    have k312 : ∀ z : Int, z = (jlb V i : Nat) → mj_T D mj_m192 312 (jLd q0 k n t g r v w l13 (some (.int (jn b15))) (some (.int (jn (jcy R V i : Nat)))) (some (.int (jn i))) l18 l19) [.int (jn z), .int (jn (jlb R i : Nat))] (jZ hp q1 q2 q3 bg ov db) Q := by
      intro z hz
      subst hz
      refine mj_T.iadd rfl ?_
      refine mj_T.pl rfl rfl rfl rfl ?_
      refine mj_T.iadd rfl ?_
      rw [show ((jlb R i : Nat) : Int) + ((jlb V i : Nat) : Int) + ((jcy R V i : Nat) : Int) = ((jlb R i + jlb V i + jcy R V i : Nat) : Int) by omega]
      generalize hS : jlb R i + jlb V i + jcy R V i = S at *
      have k330 : ∀ c : Nat, c = jcy R V (i + 1) → mj_T D mj_m192 330 (jLd q0 k n t g r v w l13 (some (.int (jn b15))) (some (.int (jn (jcy R V i : Nat)))) (some (.int (jn i))) (some (.int (jn S))) l19) [.int (jn c)] (jZ hp q1 q2 q3 bg ov db) Q := by
        intro c hc
        subst hc
        iterate 2 refine mj_T.pl rfl rfl rfl rfl ?_
        refine mj_T.gov (jG_e G _) rfl ?_
        iterate 2 refine mj_T.pl rfl rfl rfl rfl ?_
        refine mj_T.iadd rfl ?_
        rw [show (k : Int) + (i : Int) = ((k + i : Nat) : Int) by omega]
        iterate 3 refine mj_T.pl rfl rfl rfl rfl ?_
        refine mj_T.imul (b := 1000000000) rfl ?_
        refine mj_T.isub rfl ?_
        rw [show (S : Int) - ((jcy R V (i + 1) : Nat) : Int) * 1000000000 = ((jlb (R + V) i : Nat) : Int) by omega]
        refine mj_T.ost (jG_e G _) rfl ⟨by omega, by omega⟩ ⟨by omega, by omega⟩ ?_
        refine mj_T.iinc (a := i) rfl rfl ?_
        refine mj_T.pl rfl rfl rfl rfl ?_
        refine ih (i + 1) _ _ (by omega) (fun j hj => ?_) (fun j hj => ?_)
        · unfold updV
          by_cases e : j = i
          · subst e; exact if_pos rfl
          · rw [if_neg (by omega)]; exact h1 j (by omega)
        · unfold updV
          rw [if_neg (by omega)]
          exact h2 j (by omega)
      iterate 3 refine mj_T.pl rfl rfl rfl rfl ?_
      refine mj_T.icmp (b := 1000000000) rfl ⟨by omega, by omega⟩ ⟨by omega, by omega⟩ (fun hc => ?_) (fun hc => ?_)
      · simp only [jc, decide_eq_true_eq] at hc
        refine mj_T.pl rfl rfl rfl rfl ?_
        exact k330 0 (by omega)
      · simp only [jc, decide_eq_false_iff_not] at hc
        iterate 2 refine mj_T.pl rfl rfl rfl rfl ?_
        exact k330 1 (by omega)
    iterate 2 refine mj_T.pl rfl rfl rfl rfl ?_
    refine mj_T.icmp rfl ⟨by omega, by omega⟩ ⟨by omega, by omega⟩ (fun hc => ?_) (fun hc => ?_)
    · simp only [jc, decide_eq_true_eq] at hc
      refine mj_T.pl rfl rfl rfl rfl ?_
      exact k312 0 (by rw [jlb_high (show jnl V ≤ i by omega)]; rfl)
    · simp only [jc, decide_eq_false_iff_not] at hc
      refine mj_T.pl rfl rfl rfl rfl ?_
      refine mj_T.gby G rfl ?_
      refine mj_T.pl rfl rfl rfl rfl ?_
      refine mj_T.yld G rfl ⟨by omega, by omega⟩ ⟨by omega, by omega⟩ (hdb i (by omega)) ?_
      refine mj_T.pl rfl rfl rfl rfl ?_
      exact k312 _ rfl
end JXD

